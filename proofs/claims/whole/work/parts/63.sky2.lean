/-! ===== sky: a text from its first byte to its last ===== -/
section
variable {s si sp : Int → Int} {f fi fp : Nat → Option Nat} {im : Int} {hd : Int → Int} {kn : Nat → Option Nat} {wd ak ke cv vo so sz el : Int → Int} {A B : mp_H} {kk kf : Int → Int}
/-- what the class leaves behind a text: the same answer as the reference, the same sky -/
def sc_skyP (si : Int → Int) (fi : Nat → Option Nat) (im : Int) (hd : Int → Int) (kn : Nat → Option Nat) (wd ak ke cv vo so sz el : Int → Int) (A B : mp_H) (v : Int) (t : Int → Int) (R9 : mp_An) : Prop := ∃ sp' f' fp' E, R9 = (some (mp_i v), A ++ (mp_cs t si sp' f' fi fp' im hd kn wd ak ke cv vo so sz el ++ (B ++ E))) ∧ mp_Mt (A ++ (mp_cs t si sp' f' fi fp' im hd kn wd ak ke cv vo so sz el ++ (B ++ E))) t f' ∧ mp_Mr (A ++ (mp_cs t si sp' f' fi fp' im hd kn wd ak ke cv vo so sz el ++ (B ++ E))) f'
theorem sc_skyE {d w N : Int} (hA : A.length = 1) (hsh : ∀ d, 0 ≤ d → d ≤ 7 → mp_shf hd kk kf so sz d) (hel : ∀ x, mp_w (el x)) (hdd : 0 ≤ d ∧ d ≤ 7) {x : Int → Int} {g : Nat → Option Nat} {C : mp_H} {p c : Int} {k1 k2 : Nat}
    (hp : 0 ≤ p ∧ p ≤ 120) (hk : 3 * k1 ≤ p ∧ k2 = 7 * k1) (hx : mp_sky x) (hMx : mp_Mt (A ++ (mp_cs s si x f fi g im hd kn wd ak ke cv vo so sz el ++ (B ++ C))) x g) (hMrx : mp_Mr (A ++ (mp_cs s si x f fi g im hd kn wd ak ke cv vo so sz el ++ (B ++ C))) g) (hlt : ¬ p < sz d) (hc : c = N) :
    ∃ R9, sc_skyP si fi im hd kn wd ak ke cv vo so sz el A B N x R9 ∧ mp_At (mX11_sky, 9, 40, 280) (k1, k2) 69 [some (Value.ref 1), some (mp_i d), some (Value.ref (28 + 2 * Int.toNat d)), some (mp_i w), some (mp_i c), some (mp_i p)] [] (A ++ (mp_cs s si x f fi g im hd kn wd ak ke cv vo so sz el ++ (B ++ C))) R9 := by
  subst hc
  refine ⟨_, ⟨x, g, g, C, rfl, hMx.mono hx.kd mp_stay_cs, hMrx.mono mp_stay_cs⟩, ?_⟩
  exact sX11_sky_end (sp := x) (fp := g) (B := B) (x2 := x) (g2 := g) (C2 := C) (kk := kk) (kf := kf) (x := x) (g := g) (C := B ++ C) (d := d) (w := w) (c := c) (p := p) hA hsh hel hdd (by omega) hlt (by omega) hMrx rfl
theorem sc_skyL {d w N : Int} (hA : A.length = 1) (hsh : ∀ d, 0 ≤ d → d ≤ 7 → mp_shf hd kk kf so sz d) (hel : ∀ x, mp_w (el x)) (hdd : 0 ≤ d ∧ d ≤ 7) (hB8 : ∀ x, 0 ≤ x → x ≤ 99 → -128 ≤ el (100 * d + x) ∧ el (100 * d + x) ≤ 127)
    (hs : mp_sky s) (hMt : mp_Mt (A ++ (mp_cs s si sp f fi fp im hd kn wd ak ke cv vo so sz el ++ B)) s f) (hMr : mp_Mr (A ++ (mp_cs s si sp f fi fp im hd kn wd ak ke cv vo so sz el ++ B)) f) : ∀ (n : Nat) (x : Int → Int) (g : Nat → Option Nat) (C : mp_H) (p c : Int) (k1 k2 : Nat) (num : Int → Int),
    (0 ≤ p ∧ p ≤ 120) → sz d < p + n → (3 * k1 ≤ p ∧ k2 = 7 * k1) → mp_sky x → mp_Mt (A ++ (mp_cs s si x f fi g im hd kn wd ak ke cv vo so sz el ++ (B ++ C))) x g → mp_Mr (A ++ (mp_cs s si x f fi g im hd kn wd ak ke cv vo so sz el ++ (B ++ C))) g →
    (p < sz d → ∃ (m : Nat) (num' : Int → Int), sz d ≤ p + (m : Int) ∧ (sp_scan (sp_here el (100 * d) (sz d)) (sz d) m p c num').1 = 0 ∧ (sp_scan (sp_here el (100 * d) (sz d)) (sz d) m p c num').2.1 = N) → (¬ p < sz d → c = N) →
    ∃ R9, sc_skyP si fi im hd kn wd ak ke cv vo so sz el A B (if (sp_does (sp_here el (100 * d) (sz d)) (sz d) s n p x num).1 = 0 then N else (sp_does (sp_here el (100 * d) (sz d)) (sz d) s n p x num).1) (sp_does (sp_here el (100 * d) (sz d)) (sz d) s n p x num).2.1 R9 ∧ mp_At (mX11_sky, 9, 40, 280) (k1, k2) 69 [some (Value.ref 1), some (mp_i d), some (Value.ref (28 + 2 * Int.toNat d)), some (mp_i w), some (mp_i c), some (mp_i p)] [] (A ++ (mp_cs s si x f fi g im hd kn wd ak ke cv vo so sz el ++ (B ++ C))) R9 := by
  have hsh9 := hsh d hdd.1 hdd.2
  intro n
  induction n with
  | zero =>
    intro x g C p c k1 k2 num hp hn hk hx hMx hMrx _ hend
    have hlt : ¬ p < sz d := by omega
    exact sc_skyE hA hsh hel hdd hp hk hx hMx hMrx hlt (hend hlt)
  | succ n ih =>
    intro x g C p c k1 k2 num hp hn hk hx hMx hMrx hsc hend
    by_cases hlt : p < sz d
    · obtain ⟨m, num', hm, hs1, hs2⟩ := hsc hlt
      obtain ⟨m, rfl⟩ : ∃ m', m = m' + 1 := ⟨m - 1, by omega⟩
      have hplc := mp_rdS_pl (sp_here el (100 * d) (sz d)) p num'
      have hok' : (sp_rdS (sp_here el (100 * d) (sz d)) p num').1 ≠ 0 := fun h0 => by
        rw [mp_scan_bad h0] at hs1
        dsimp only at hs1
        omega
      have hind := mp_rdS_ind (sp_here el (100 * d) (sz d)) p num num'
      have hok : (sp_rdS (sp_here el (100 * d) (sz d)) p num).1 ≠ 0 := by rw [hind.1]; exact hok'
      have hr := sc_rel_of (el := el) (d := d) (z := sz d) (by omega) hB8
      obtain ⟨g1, -, g3, -⟩ := sc_good hr hp.1 hok
      have hdg := sc_dg_bd (sc_hb (sp_elm el d) (sz d) p)
      have hpn : (sp_rdS (sp_here el (100 * d) (sz d)) p num).2.1 = p + (sc_dg (sc_hb (sp_elm el d) (sz d) p) + 2) := by rw [g3]; omega
      obtain ⟨fp', E, hct, hMt', hMr'⟩ := sc_told (num := num) (s := s) (si := si) (sp := x) (f := f) (fi := fi) (fp := g) (im := im) (hd := hd) (kn := kn) (wd := wd) (ak := ak) (ke := ke) (cv := cv) (vo := vo) (so := so) (sz := sz) (el := el) (B := B ++ C) hA hdd (by omega) hel hB8 (p := p) (by omega) hx hMx hMrx hok
      rcases mp_done_01 x (sp_rdS (sp_here el (100 * d) (sz d)) p num).2.2 (sp_here el (100 * d) (sz d) p) with h0 | h1
      · rw [mp_does_bad hlt h0]
        rw [h0] at hct
        dsimp only
        rw [if_neg (by omega)]
        rw [List.append_assoc] at hct
        refine ⟨_, ⟨(sp_done x (sp_rdS (sp_here el (100 * d) (sz d)) p num).2.2 (sp_here el (100 * d) (sz d) p)).2, f, fp', C ++ E, rfl, hMt.mono hs.kd mp_stay_csB, hMr.mono mp_stay_csB⟩, ?_⟩
        · exact sX11_sky_bad (sp := sp) (fp := fp) (B := B) (kk := kk) (kf := kf) (x := x) (g := g) (C := B ++ C) (d := d) (w := w) (c := c) (p := p) hA hsh hel hdd (by omega) hlt (by omega) hct rfl
      · rw [mp_does_on hlt (by omega)]
        rw [h1] at hct
        rw [List.append_assoc] at hct hMt' hMr'
        have hsky' := mp_done_sky hx (mp_rdS_bd (sp_here el (100 * d) (sz d)) p num hok).1
        rw [hpn]
        obtain ⟨R9, hP, hAt⟩ := ih _ fp' (C ++ E) (p + (sc_dg (sc_hb (sp_elm el d) (sz d) p) + 2)) (c + 1) (k1 + 1) (k2 + 7) (sp_rdS (sp_here el (100 * d) (sz d)) p num).2.2 (by omega) (by omega) (by omega) hsky' hMt' hMr' (fun hlt' => by
          rw [mp_scan_on hok' (by rw [← hind.2, hpn]; exact hlt'), ← hind.2, hpn] at hs1 hs2
          exact ⟨m, _, by omega, hs1, hs2⟩) (fun hlt' => by
          rw [mp_scan_end hok' (by rw [← hind.2, hpn]; exact hlt')] at hs2
          exact hs2)
        refine ⟨R9, hP, ?_⟩
        exact sX11_sky_ok (sp := sp) (fp := fp) (B := B) (kk := kk) (kf := kf) (x := x) (g := g) (C := B ++ C) (d := d) (w := w) (c := c) (p := p) hA hsh hel hdd (by omega) hlt (by omega) hct hAt
    · rw [mp_does_end hlt]
      dsimp only
      rw [if_pos rfl]
      exact sc_skyE hA hsh hel hdd hp hk hx hMx hMrx hlt (hend hlt)
theorem sc_skyN {d v : Int} (hMt : mp_Mt (A ++ (mp_cs s si sp f fi fp im hd kn wd ak ke cv vo so sz el ++ B)) s f) (hMr : mp_Mr (A ++ (mp_cs s si sp f fi fp im hd kn wd ak ke cv vo so sz el ++ B)) f) : sc_skyP si fi im hd kn wd ak ke cv vo so sz el A B v s (some (mp_i v), A ++ (mp_cs s si sp f fi fp im hd kn wd ak ke cv vo so sz el ++ B)) :=
  ⟨sp, f, fp, [], by rw [List.append_nil], by rw [List.append_nil]; exact hMt, by rw [List.append_nil]; exact hMr⟩
theorem zX11_sky {d pl : Int} {num : Int → Int} (hA : A.length = 1) (hsh : ∀ d, 0 ≤ d → d ≤ 7 → mp_shf hd kk kf so sz d) (hel : ∀ x, mp_w (el x)) (h_d : mp_w d) (hB8 : 0 ≤ d → d ≤ 7 → so d = 0 → ∀ x, 0 ≤ x → x ≤ 99 → -128 ≤ el (100 * d + x) ∧ el (100 * d + x) ≤ 127)
    (hs : mp_sky s) (hMt : mp_Mt (A ++ (mp_cs s si sp f fi fp im hd kn wd ak ke cv vo so sz el ++ B)) s f) (hMr : mp_Mr (A ++ (mp_cs s si sp f fi fp im hd kn wd ak ke cv vo so sz el ++ B)) f) :
    ∃ R9, sc_skyP si fi im hd kn wd ak ke cv vo so sz el A B (sp_sky s hd so sz el num pl d).1 (sp_sky s hd so sz el num pl d).2.1 R9 ∧ mp_Call (mX11_sky, 9, 40, 280) [Value.ref 1, mp_i d] (A ++ (mp_cs s si sp f fi fp im hd kn wd ak ke cv vo so sz el ++ B)) R9 := by
  by_cases hdd : 0 ≤ d ∧ d ≤ 7
  · have hsh9 := hsh d hdd.1 hdd.2
    by_cases hr9 : hd d = 2
    · by_cases hso : so d = 0
      · have e : sp_sky s hd so sz el num pl d = sp_skyT (sp_here el (100 * d) (sz d)) (sz d) s num := by
          unfold sp_sky; rw [sp_wR_ok0 hdd hr9 hso, if_neg (fun h => h rfl)]
        rw [e]
        have hr := sc_rel_of (el := el) (d := d) (z := sz d) (by omega) (hB8 hdd.1 hdd.2 hso)
        by_cases hwr : 0 ≤ (if sz d = 0 then 0 else sc_fw (sc_hb (sp_elm el d) (sz d)) (sz d) (Int.toNat (sz d)) 0)
        · have hsc : (sp_scan (sp_here el (100 * d) (sz d)) (sz d) ((sz d).toNat + 1) 0 0 num).1 = -1000 - (if sz d = 0 then 0 else sc_fw (sc_hb (sp_elm el d) (sz d)) (sz d) (Int.toNat (sz d)) 0) := by
            by_cases hz : sz d = 0
            · rw [if_pos hz]
              have h0 : sp_here el (100 * d) (sz d) 0 = -1 := if_neg (by omega)
              have hrd : sp_rdS (sp_here el (100 * d) (sz d)) 0 num = (0, 0, num) := by
                unfold sp_rdS
                rw [h0, if_pos (by decide)]
              rw [mp_scan_bad (by rw [hrd]), hrd]
            · rw [if_neg hz] at hwr ⊢
              exact (sc_scan hr _ (Int.toNat (sz d)) 0 0 num (Int.le_refl _) (by omega) (by omega) (by omega)).1 hwr
          have e2 : sp_skyT (sp_here el (100 * d) (sz d)) (sz d) s num = ((sp_scan (sp_here el (100 * d) (sz d)) (sz d) ((sz d).toNat + 1) 0 0 num).1, s, 0, (sp_scan (sp_here el (100 * d) (sz d)) (sz d) ((sz d).toNat + 1) 0 0 num).2.2.2) := if_pos (by rw [hsc]; omega)
          rw [e2, hsc]
          exact ⟨_, sc_skyN (d := d) hMt hMr, zX11_sky_wrong (kk := kk) (kf := kf) hA hsh hel h_d hdd hr9 hso hwr⟩
        · have hz : sz d ≠ 0 := fun h => by rw [if_pos h] at hwr; exact hwr (Int.le_refl 0)
          have hsc : (sp_scan (sp_here el (100 * d) (sz d)) (sz d) ((sz d).toNat + 1) 0 0 num).1 = 0 := by
            rw [if_neg hz] at hwr
            exact (sc_scan hr _ (Int.toNat (sz d)) 0 0 num (Int.le_refl _) (by omega) (by omega) (by omega)).2 (by omega)
          have e2 : sp_skyT (sp_here el (100 * d) (sz d)) (sz d) s num = (if (sp_does (sp_here el (100 * d) (sz d)) (sz d) s ((sz d).toNat + 1) 0 s (sp_scan (sp_here el (100 * d) (sz d)) (sz d) ((sz d).toNat + 1) 0 0 num).2.2.2).1 = 0 then (sp_scan (sp_here el (100 * d) (sz d)) (sz d) ((sz d).toNat + 1) 0 0 num).2.1 else (sp_does (sp_here el (100 * d) (sz d)) (sz d) s ((sz d).toNat + 1) 0 s (sp_scan (sp_here el (100 * d) (sz d)) (sz d) ((sz d).toNat + 1) 0 0 num).2.2.2).1, (sp_does (sp_here el (100 * d) (sz d)) (sz d) s ((sz d).toNat + 1) 0 s (sp_scan (sp_here el (100 * d) (sz d)) (sz d) ((sz d).toNat + 1) 0 0 num).2.2.2).2) := if_neg (fun h => h hsc)
          rw [e2]
          obtain ⟨R9, hP, hAt⟩ := sc_skyL (w := if sz d = 0 then 0 else sc_fw (sc_hb (sp_elm el d) (sz d)) (sz d) (Int.toNat (sz d)) 0) (kk := kk) (kf := kf) (N := (sp_scan (sp_here el (100 * d) (sz d)) (sz d) ((sz d).toNat + 1) 0 0 num).2.1) hA hsh hel hdd (hB8 hdd.1 hdd.2 hso) hs hMt hMr ((sz d).toNat + 1) s f [] 0 0 0 0 (sp_scan (sp_here el (100 * d) (sz d)) (sz d) ((sz d).toNat + 1) 0 0 num).2.2.2 (by omega) (by omega) (by omega) hs (by rw [List.append_nil]; exact hMt.mono hs.kd mp_stay_cs) (by rw [List.append_nil]; exact hMr.mono mp_stay_cs) (fun _ => ⟨(sz d).toNat + 1, num, by omega, hsc, rfl⟩) (fun h => by omega)
          rw [List.append_nil] at hAt
          exact ⟨R9, hP, zX11_sky_in (kk := kk) (kf := kf) hA hsh hel h_d hs hMt hMr hdd hr9 hso (by omega) hAt⟩
      · have e : sp_sky s hd so sz el num pl d = (-12, s, pl, num) := by
          unfold sp_sky; rw [sp_wR_sort hdd hr9 hso]; rfl
        rw [e]
        exact ⟨_, sc_skyN (d := d) hMt hMr, zX11_sky_sort (kk := kk) (kf := kf) hA hsh hel h_d hdd hr9 hso⟩
    · have e : sp_sky s hd so sz el num pl d = (if hd d = 0 then -11 else -12, s, pl, num) := by
        unfold sp_sky; rw [sp_wR_no hdd hr9, if_pos sp_wK_nz]
      rw [e]
      exact ⟨_, sc_skyN (d := d) hMt hMr, zX11_sky_no (kk := kk) (kf := kf) hA hsh hel h_d hdd hr9⟩
  · have e : sp_sky s hd so sz el num pl d = (-1, s, pl, num) := by
      unfold sp_sky; rw [sp_wR_bad hdd]; rfl
    rw [e]
    exact ⟨_, sc_skyN (d := d) hMt hMr, zX11_sky_bad (kk := kk) (kf := kf) hA hsh hel h_d hdd⟩
end
