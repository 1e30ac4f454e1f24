/-! ===== the text of a sky, told and done ===== -/
section
variable {s s' si si' sp sp' : Int → Int} {f f' fi fi' fp fp' : Nat → Option Nat} {im im' : Int} {hd hd' : Int → Int} {kn kn' : Nat → Option Nat} {wd wd' ak ak' ke ke' cv cv' vo vo' so so' sz sz' el el' : Int → Int} {A B C : mp_H}
theorem mp_stay_csB : mp_stay (A ++ (mp_cs s si sp f fi fp im hd kn wd ak ke cv vo so sz el ++ B)) (A ++ (mp_cs s' si' sp' f' fi' fp' im' hd' kn' wd' ak' ke' cv' vo' so' sz' el' ++ (B ++ C))) := by
  have e : A ++ (mp_cs s' si' sp' f' fi' fp' im' hd' kn' wd' ak' ke' cv' vo' so' sz' el' ++ (B ++ C)) = (A ++ (mp_cs s' si' sp' f' fi' fp' im' hd' kn' wd' ak' ke' cv' vo' so' sz' el' ++ B)) ++ C := by simp only [List.append_assoc]
  rw [e]
  exact mp_stay_cs.tr mp_stay.app
end
theorem sp_adds_old {x : Int → Int} {a b c e g w j : Int} (h : j ≠ 0 ∧ ¬ (1 + 6 * x 0 + 0 ≤ j ∧ j ≤ 1 + 6 * x 0 + 5)) : sp_adds x a b c e g w j = x j := by
  unfold sp_adds
  rw [mp_udn (by omega), mp_udn (by omega), mp_udn (by omega), mp_udn (by omega), mp_udn (by omega), mp_udn (by omega), mp_udn (by omega)]
theorem sp_adds_new {x : Int → Int} {a b c e g w : Int} (h : 0 ≤ x 0) : sp_adds x a b c e g w (1 + 6 * x 0 + 0) = a ∧ sp_adds x a b c e g w (1 + 6 * x 0 + 1) = b ∧ sp_adds x a b c e g w (1 + 6 * x 0 + 2) = c ∧ sp_adds x a b c e g w (1 + 6 * x 0 + 3) = e ∧ sp_adds x a b c e g w (1 + 6 * x 0 + 4) = g := by
  unfold sp_adds
  refine ⟨?_, ?_, ?_, ?_, ?_⟩
  · rw [mp_udn (by omega), mp_udn (by omega), mp_udn (by omega), mp_udn (by omega), mp_udn (by omega), mp_udn (by omega), mp_ud_eq]
  · rw [mp_udn (by omega), mp_udn (by omega), mp_udn (by omega), mp_udn (by omega), mp_udn (by omega), mp_ud_eq]
  · rw [mp_udn (by omega), mp_udn (by omega), mp_udn (by omega), mp_udn (by omega), mp_ud_eq]
  · rw [mp_udn (by omega), mp_udn (by omega), mp_udn (by omega), mp_ud_eq]
  · rw [mp_udn (by omega), mp_udn (by omega), mp_ud_eq]
theorem mp_Mt_add {σ σ' : mp_H} {x : Int → Int} {fp : Nat → Option Nat} {a : Nat} {kd fg co sl ni w : Int} (hx : mp_sky x) (h : mp_Mt σ x fp) (hst : mp_stay σ σ') (ha : σ'[a]? = some (mp_O (Int.toNat kd) [mp_i kd, mp_i fg, mp_i co, mp_i sl, mp_i ni, mp_i (sp_lasts kd fg), mp_i (sp_bright kd fg)])) : mp_Mt σ' (sp_adds x kd fg co sl ni w) (va_up fp (Int.toNat (x 0)) (some a)) := by
  have hx0 := hx.1
  obtain ⟨n0, n1, n2, n3, n4⟩ := sp_adds_new (x := x) (a := kd) (b := fg) (c := co) (e := sl) (g := ni) (w := w) hx0.1
  intro k h0 h1
  rw [mp_adds_0] at h1
  by_cases e : k = x 0
  · subst e
    refine ⟨a, if_pos rfl, ?_⟩
    unfold mp_mc
    rw [ha, n0, n1, n2, n3, n4]
  · obtain ⟨b, g1, g2⟩ := h k h0 (by omega)
    have hm := hx.kd k h0 (by omega)
    refine ⟨b, ?_, ?_⟩
    · show (if Int.toNat k = Int.toNat (x 0) then _ else fp (Int.toNat k)) = _
      rw [if_neg (by omega)]; exact g1
    · unfold mp_mc
      rw [sp_adds_old (by omega), sp_adds_old (j := 1 + 6 * k + 1) (by omega), sp_adds_old (j := 1 + 6 * k + 2) (by omega), sp_adds_old (j := 1 + 6 * k + 3) (by omega), sp_adds_old (j := 1 + 6 * k + 4) (by omega)]
      exact hst b _ _ (by omega) g2
theorem mp_Mr_add {σ σ' : mp_H} {fp : Nat → Option Nat} {a i c : Nat} {vs : List Value} (h : mp_Mr σ fp) (hst : mp_stay σ σ') (hc : c < 8) (ha : σ'[a]? = some (mp_O c vs)) : mp_Mr σ' (va_up fp i (some a)) := fun j b hj hf => by
  by_cases e : j = i
  · have : (va_up fp i (some a)) j = some a := if_pos e
    rw [this] at hf
    cases hf
    exact ⟨c, vs, hc, ha⟩
  · have : (va_up fp i (some a)) j = fp j := if_neg e
    rw [this] at hf
    exact h.mono hst j b hj hf
/-! the numbers of a statement -/
theorem sc_numM {h : Int → Int} {p : Int} {num : Int → Int} (hd : ∀ j, p + 1 ≤ j → j < p + 1 + 8 → 48 ≤ h j ∧ h j ≤ 57) : (sp_rds h sp_fm (p + 1) num).2.2 0 = h (p + 1) - 48 ∧ (sp_rds h sp_fm (p + 1) num).2.2 1 = h (p + 2) - 48 ∧ (sp_rds h sp_fm (p + 1) num).2.2 2 = 10 * (h (p + 3) - 48) + (h (p + 3 + 1) - 48) ∧ (sp_rds h sp_fm (p + 1) num).2.2 3 = h (p + 5) - 48 ∧ (sp_rds h sp_fm (p + 1) num).2.2 4 = 10 * (h (p + 6) - 48) + (h (p + 6 + 1) - 48) ∧ (sp_rds h sp_fm (p + 1) num).2.2 5 = h (p + 8) - 48 := by
  have e1 : sp_rdN h 1 (p + 1) 0 = (1, p + 2, h (p + 1) - 48) := (sc_rd1 (hd _ (by omega) (by omega))).trans (by rw [show p + 1 + 1 = p + 2 by omega])
  have e2 : sp_rdN h 1 (p + 2) 0 = (1, p + 3, h (p + 2) - 48) := (sc_rd1 (hd _ (by omega) (by omega))).trans (by rw [show p + 2 + 1 = p + 3 by omega])
  have e3 : sp_rdN h 2 (p + 3) 0 = (1, p + 5, 10 * (h (p + 3) - 48) + (h (p + 3 + 1) - 48)) := (sc_rd2 (hd _ (by omega) (by omega)) (hd _ (by omega) (by omega))).trans (by rw [show p + 3 + 1 + 1 = p + 5 by omega])
  have e4 : sp_rdN h 1 (p + 5) 0 = (1, p + 6, h (p + 5) - 48) := (sc_rd1 (hd _ (by omega) (by omega))).trans (by rw [show p + 5 + 1 = p + 6 by omega])
  have e5 : sp_rdN h 2 (p + 6) 0 = (1, p + 8, 10 * (h (p + 6) - 48) + (h (p + 6 + 1) - 48)) := (sc_rd2 (hd _ (by omega) (by omega)) (hd _ (by omega) (by omega))).trans (by rw [show p + 6 + 1 + 1 = p + 8 by omega])
  have e6 : sp_rdN h 1 (p + 8) 0 = (1, p + 9, h (p + 8) - 48) := (sc_rd1 (hd _ (by omega) (by omega))).trans (by rw [show p + 8 + 1 = p + 9 by omega])
  unfold sp_fm
  simp only [sp_rds, e1, e2, e3, e4, e5, e6]
  rw [if_neg (by decide), if_neg (by decide), if_neg (by decide), if_neg (by decide), if_neg (by decide), if_neg (by decide)]
  refine ⟨rfl, rfl, rfl, rfl, rfl, rfl⟩
theorem sc_numL {h : Int → Int} {p : Int} {num : Int → Int} (hd : ∀ j, p + 1 ≤ j → j < p + 1 + 4 → 48 ≤ h j ∧ h j ≤ 57) : (sp_rds h sp_fl (p + 1) num).2.2 0 = h (p + 1) - 48 ∧ (sp_rds h sp_fl (p + 1) num).2.2 1 = 10 * (h (p + 2) - 48) + (h (p + 2 + 1) - 48) ∧ (sp_rds h sp_fl (p + 1) num).2.2 2 = h (p + 4) - 48 := by
  have e1 : sp_rdN h 1 (p + 1) 0 = (1, p + 2, h (p + 1) - 48) := (sc_rd1 (hd _ (by omega) (by omega))).trans (by rw [show p + 1 + 1 = p + 2 by omega])
  have e3 : sp_rdN h 2 (p + 2) 0 = (1, p + 4, 10 * (h (p + 2) - 48) + (h (p + 2 + 1) - 48)) := (sc_rd2 (hd _ (by omega) (by omega)) (hd _ (by omega) (by omega))).trans (by rw [show p + 2 + 1 + 1 = p + 4 by omega])
  have e4 : sp_rdN h 1 (p + 4) 0 = (1, p + 5, h (p + 4) - 48) := (sc_rd1 (hd _ (by omega) (by omega))).trans (by rw [show p + 4 + 1 = p + 5 by omega])
  unfold sp_fl
  simp only [sp_rds, e1, e3, e4]
  rw [if_neg (by decide), if_neg (by decide), if_neg (by decide)]
  refine ⟨rfl, rfl, rfl⟩
theorem sc_numR {h : Int → Int} {p : Int} {num : Int → Int} (hd : ∀ j, p + 1 ≤ j → j < p + 1 + 2 → 48 ≤ h j ∧ h j ≤ 57) : (sp_rds h sp_fr (p + 1) num).2.2 0 = 10 * (h (p + 1) - 48) + (h (p + 1 + 1) - 48) := by
  have e3 := sc_rd2 (hd (p + 1) (by omega) (by omega)) (hd (p + 1 + 1) (by omega) (by omega))
  unfold sp_fr
  simp only [sp_rds, e3]
  rw [if_neg (by decide)]
  rfl
theorem sc_numF {h : Int → Int} {p : Int} {num : Int → Int} (hd : ∀ j, p + 1 ≤ j → j < p + 1 + 1 → 48 ≤ h j ∧ h j ≤ 57) : (sp_rds h sp_ff (p + 1) num).2.2 0 = h (p + 1) - 48 := by
  have e3 := sc_rd1 (hd (p + 1) (by omega) (by omega))
  unfold sp_ff
  simp only [sp_rds, e3]
  rw [if_neg (by decide)]
  rfl
theorem sc_doneM {x N : Int → Int} (hb : (0 ≤ N 0 ∧ N 0 ≤ 9) ∧ (0 ≤ N 5 ∧ N 5 ≤ 9)) : sp_done x N 109 = (if sc_val (N 0) (N 2) (N 3) (N 4) (N 5) ∧ x 0 ≠ 8 then 1 else 0, if sc_val (N 0) (N 2) (N 3) (N 4) (N 5) ∧ x 0 ≠ 8 then sp_adds x (N 0) (N 1) (N 2) (N 3) (N 4) (N 5) else x) := by
  unfold sp_done
  rw [if_pos rfl]
  by_cases h : sc_val (N 0) (N 2) (N 3) (N 4) (N 5) ∧ x 0 ≠ 8
  · rw [if_pos h, if_pos h, if_neg (by omega)]
  · rw [if_neg h, if_neg h, if_pos (by omega)]
theorem sc_doneL {x N : Int → Int} (hx : mp_sky x) (hb : (0 ≤ N 0 ∧ N 0 ≤ 9) ∧ (0 ≤ N 1 ∧ N 1 ≤ 99) ∧ (0 ≤ N 2 ∧ N 2 ≤ 9)) : sp_done x N 108 = (if 0 ≤ (sp_looks x (N 0) (N 1) (N 2)).1 then 1 else 0, (sp_looks x (N 0) (N 1) (N 2)).2) := by
  unfold sp_done sp_looks
  rw [if_neg (by decide), if_pos rfl]
  by_cases h : ¬ (0 ≤ N 0 ∧ N 0 ≤ 4) ∨ 16 ≤ N 1
  · have h2 : ¬ (0 ≤ N 0 ∧ N 0 ≤ 4) ∨ ¬ (0 ≤ N 1 ∧ N 1 ≤ 15) ∨ ¬ (0 ≤ N 2 ∧ N 2 ≤ 9) := by omega
    rw [if_pos h, if_pos h2]
    rfl
  · have h2 : ¬ (¬ (0 ≤ N 0 ∧ N 0 ≤ 4) ∨ ¬ (0 ≤ N 1 ∧ N 1 ≤ 15) ∨ ¬ (0 ≤ N 2 ∧ N 2 ≤ 9)) := by omega
    rw [if_neg h, if_neg h2]
    have := hx.2.2.1 (N 0) (by omega) (by omega)
    show ((1 : Int), _) = (if 0 ≤ x (49 + 3 * N 0 + 0) then 1 else 0, _)
    rw [if_pos (by omega)]
theorem sc_doneR {x N : Int → Int} (hx : mp_sky x) (hb : 0 ≤ N 0 ∧ N 0 ≤ 99) : sp_done x N 114 = (if 0 ≤ (sp_run x (N 0)).1 then 1 else 0, (sp_run x (N 0)).2) := by
  unfold sp_done sp_run
  rw [if_neg (by decide), if_neg (by decide), if_pos rfl]
  by_cases h : 31 ≤ N 0
  · have h2 : ¬ (0 ≤ N 0 ∧ N 0 ≤ 30) := by omega
    rw [if_pos h, if_pos h2]
    rfl
  · have h2 : 0 ≤ N 0 ∧ N 0 ≤ 30 := by omega
    rw [if_neg h, if_neg (c := ¬ (0 ≤ N 0 ∧ N 0 ≤ 30)) (fun q => q h2)]
    show ((1 : Int), (sp_runs x (N 0)).1) = (if 0 ≤ (sp_runs x (N 0)).2 then 1 else 0, (sp_runs x (N 0)).1)
    rw [if_pos (mp_runs_sky hx (N 0)).2.2.1]
theorem sc_doneF {x N : Int → Int} (hx : mp_sky x) (hb : 0 ≤ N 0 ∧ N 0 ≤ 9) : sp_done x N 102 = (if 0 ≤ (sp_free x (N 0)).1 then 1 else 0, (sp_free x (N 0)).2) := by
  have hx0 := hx.1
  unfold sp_done sp_free
  rw [if_neg (by decide), if_neg (by decide), if_neg (by decide)]
  by_cases h : ¬ (0 ≤ N 0 ∧ N 0 ≤ 4)
  · rw [if_pos h, if_pos h]
    rfl
  · rw [if_neg h, if_neg h]
    have := hx.2.2.1 (N 0) (by omega) (by omega)
    show ((1 : Int), _) = (if 0 ≤ x (49 + 3 * N 0 + 2) then 1 else 0, _)
    rw [if_pos (by omega)]
/-- only LOOKERS are changed: METEORS as they were -/
theorem mp_looks_al {x : Int → Int} {a b c j : Int} (h : 0 ≤ j ∧ j < 49) : (sp_looks x a b c).2 j = x j := by
  unfold sp_looks
  split
  · rfl
  · rename_i h9
    show mp_ud (mp_ud x (49 + 3 * a + 0) b) (49 + 3 * a + 1) c j = x j
    rw [mp_udn (by omega), mp_udn (by omega)]
theorem mp_free_al {x : Int → Int} {a j : Int} (h : 0 ≤ j ∧ j < 49) : (sp_free x a).2 j = x j := by
  unfold sp_free
  split
  · rfl
  · show mp_ud x (49 + 3 * a + 2) 9 j = x j
    rw [mp_udn (by omega)]
theorem mp_run_al {x : Int → Int} {a j : Int} (h : 0 ≤ j ∧ j < 49) : (sp_run x a).2 j = x j := by
  unfold sp_run
  split
  · rfl
  · exact mp_runs_al h.2
section
variable {s si sp : Int → Int} {f fi fp : Nat → Option Nat} {im : Int} {hd : Int → Int} {kn : Nat → Option Nat} {wd ak ke cv vo so sz el : Int → Int} {A B : mp_H}
theorem sc_told {d p : Int} {num : Int → Int} (hA : A.length = 1) (hdd : 0 ≤ d ∧ d ≤ 7) (hzd : 0 ≤ sz d ∧ sz d ≤ 100) (hel : ∀ x, mp_w (el x)) (hB8 : ∀ x, 0 ≤ x → x ≤ 99 → -128 ≤ el (100 * d + x) ∧ el (100 * d + x) ≤ 127) (h_p : 0 ≤ p ∧ p ≤ 200) (hsx : mp_sky sp)
    (hMt : mp_Mt (A ++ (mp_cs s si sp f fi fp im hd kn wd ak ke cv vo so sz el ++ B)) sp fp) (hMr : mp_Mr (A ++ (mp_cs s si sp f fi fp im hd kn wd ak ke cv vo so sz el ++ B)) fp) (hok : (sp_rdS (sp_here el (100 * d) (sz d)) p num).1 ≠ 0) :
    ∃ fp' E, mp_Call (mX7_isTold, 7, 1, 7) [Value.ref (28 + 2 * Int.toNat d), mp_i p, Value.ref 14] (A ++ (mp_cs s si sp f fi fp im hd kn wd ak ke cv vo so sz el ++ B)) (some (mp_i (sp_done sp (sp_rdS (sp_here el (100 * d) (sz d)) p num).2.2 (sp_here el (100 * d) (sz d) p)).1), A ++ (mp_cs s si (sp_done sp (sp_rdS (sp_here el (100 * d) (sz d)) p num).2.2 (sp_here el (100 * d) (sz d) p)).2 f fi fp' im hd kn wd ak ke cv vo so sz el ++ (B ++ E))) ∧
      mp_Mt (A ++ (mp_cs s si (sp_done sp (sp_rdS (sp_here el (100 * d) (sz d)) p num).2.2 (sp_here el (100 * d) (sz d) p)).2 f fi fp' im hd kn wd ak ke cv vo so sz el ++ (B ++ E))) (sp_done sp (sp_rdS (sp_here el (100 * d) (sz d)) p num).2.2 (sp_here el (100 * d) (sz d) p)).2 fp' ∧
      mp_Mr (A ++ (mp_cs s si (sp_done sp (sp_rdS (sp_here el (100 * d) (sz d)) p num).2.2 (sp_here el (100 * d) (sz d) p)).2 f fi fp' im hd kn wd ak ke cv vo so sz el ++ (B ++ E))) fp' := by
  have hr := sc_rel_of (d := d) hzd hB8
  obtain ⟨g1, g2, g3, g4⟩ := sc_good hr h_p.1 hok
  rw [g4]
  generalize hH : sp_here el (100 * d) (sz d) = h at *
  have hlet : ∀ c, 48 ≤ c → c ≤ 114 → (h p = c ↔ sc_hb (sp_elm el d) (sz d) p = c) := hr p h_p.1
  have l9 := hlet 109 (by decide) (by decide)
  have l8 := hlet 108 (by decide) (by decide)
  have l4 := hlet 114 (by decide) (by decide)
  have l2 := hlet 102 (by decide) (by decide)
  generalize hHB : sc_hb (sp_elm el d) (sz d) = hb at *
  have same : ∀ {σ' : mp_H} {x' : Int → Int}, mp_stay (A ++ (mp_cs s si sp f fi fp im hd kn wd ak ke cv vo so sz el ++ B)) σ' → (∀ j, 0 ≤ j → j < 49 → x' j = sp j) → mp_Mt σ' x' fp ∧ mp_Mr σ' fp := fun hst al => ⟨(hMt.mono hsx.kd hst).alike al hsx.1.2, hMr.mono hst⟩
  by_cases c9 : hb p = 109
  · have e9 := l9.mpr c9
    rw [c9] at g2
    rw [e9, show sp_form 109 = sp_fm from rfl]
    have hdg : ∀ j, p + 1 ≤ j → j < p + 1 + 8 → 48 ≤ h j ∧ h j ≤ 57 := fun j a b => by have := g2 j a b; omega
    obtain ⟨n0, n1, n2, n3, n4, n5⟩ := sc_numM (num := num) hdg
    generalize (sp_rds h sp_fm (p + 1) num).2.2 = N at *
    have q : ∀ j, p + 1 ≤ j → j < p + 1 + 8 → 48 ≤ hb j ∧ hb j ≤ 57 ∧ h j = hb j := g2
    have q1 := q (p + 1) (by omega) (by omega)
    have q2 := q (p + 2) (by omega) (by omega)
    have q3 := q (p + 3) (by omega) (by omega)
    have q4 := q (p + 3 + 1) (by omega) (by omega)
    have q5 := q (p + 5) (by omega) (by omega)
    have q6 := q (p + 6) (by omega) (by omega)
    have q7 := q (p + 6 + 1) (by omega) (by omega)
    have q8 := q (p + 8) (by omega) (by omega)
    rw [sc_doneM (by omega)]
    dsimp only
    have hc := zX7_isToldM (s := s) (si := si) (sp := sp) (f := f) (fi := fi) (fp := fp) (im := im) (hd := hd) (kn := kn) (wd := wd) (ak := ak) (ke := ke) (cv := cv) (vo := vo) (so := so) (sz := sz) (el := el) (A := A) (B := B) (d := d) (a0 := N 0) (a1 := N 1) (a2 := N 2) (a3 := N 3) (a4 := N 4) (a5 := N 5) (p := p) hA hdd hzd hel h_p hsx (by rw [hHB]; exact c9) (by rw [hHB]; omega) (by rw [hHB]; omega) (by rw [hHB]; omega) (by rw [hHB]; omega) (by rw [hHB]; omega) (by rw [hHB]; omega) (by omega)
    by_cases hv : sc_val (N 0) (N 2) (N 3) (N 4) (N 5)
    · rw [if_pos hv] at hc
      by_cases h8 : sp 0 ≠ 8
      · rw [if_pos ⟨hv, h8⟩, if_pos ⟨hv, h8⟩, if_pos ⟨hv, h8⟩] at hc
        rw [if_pos ⟨hv, h8⟩, if_pos ⟨hv, h8⟩]
        exact ⟨_, _, hc, mp_Mt_add hsx hMt mp_stay_csB (mp_csNew hA), mp_Mr_add hMr mp_stay_csB (by omega) (mp_csNew hA)⟩
      · rw [if_neg (fun q => h8 q.2), if_neg (fun q => h8 q.2), if_neg (fun q => h8 q.2)] at hc
        rw [if_neg (fun q => h8 q.2), if_neg (fun q => h8 q.2)]
        exact ⟨_, _, hc, same mp_stay_csB (fun _ _ _ => rfl)⟩
    · rw [if_neg hv, if_neg (fun q => hv q.1), if_neg (fun q => hv q.1), if_neg (fun q => hv q.1)] at hc
      rw [if_neg (fun q => hv q.1), if_neg (fun q => hv q.1)]
      refine ⟨fp, [], ?_, ?_⟩
      · rw [List.append_nil]; exact hc
      · exact same mp_stay_csB (fun _ _ _ => rfl)
  · by_cases c8 : hb p = 108
    · have e9 := l8.mpr c8
      rw [c8] at g2
      rw [e9, show sp_form 108 = sp_fl from rfl]
      obtain ⟨n0, n1, n2⟩ := sc_numL (h := h) (p := p) (num := num) (fun j a b => by have := g2 j a b; omega)
      generalize (sp_rds h sp_fl (p + 1) num).2.2 = N at *
      have q : ∀ j, p + 1 ≤ j → j < p + 1 + 4 → 48 ≤ hb j ∧ hb j ≤ 57 ∧ h j = hb j := g2
      have q1 := q (p + 1) (by omega) (by omega)
      have q2 := q (p + 2) (by omega) (by omega)
      have q3 := q (p + 2 + 1) (by omega) (by omega)
      have q4 := q (p + 4) (by omega) (by omega)
      rw [sc_doneL hsx (by omega)]
      have hc := zX7_isToldL (s := s) (si := si) (sp := sp) (f := f) (fi := fi) (fp := fp) (im := im) (hd := hd) (kn := kn) (wd := wd) (ak := ak) (ke := ke) (cv := cv) (vo := vo) (so := so) (sz := sz) (el := el) (A := A) (B := B) (d := d) (a0 := N 0) (a1 := N 1) (a2 := N 2) (p := p) hA hdd hzd hel h_p hsx (by rw [hHB]; exact c8) (by rw [hHB]; omega) (by rw [hHB]; omega) (by rw [hHB]; omega) (by omega)
      refine ⟨fp, [], ?_, ?_⟩
      · rw [List.append_nil]; exact hc
      · exact same mp_stay_csB (fun j a b => mp_looks_al ⟨a, b⟩)
    · by_cases c4 : hb p = 114
      · have e9 := l4.mpr c4
        rw [c4] at g2
        rw [e9, show sp_form 114 = sp_fr from rfl]
        have n0 := sc_numR (h := h) (p := p) (num := num) (fun j a b => by have := g2 j a b; omega)
        generalize (sp_rds h sp_fr (p + 1) num).2.2 = N at *
        have q : ∀ j, p + 1 ≤ j → j < p + 1 + 2 → 48 ≤ hb j ∧ hb j ≤ 57 ∧ h j = hb j := g2
        have q1 := q (p + 1) (by omega) (by omega)
        have q2 := q (p + 1 + 1) (by omega) (by omega)
        rw [sc_doneR hsx (by omega)]
        have hc := zX7_isToldR (s := s) (si := si) (sp := sp) (f := f) (fi := fi) (fp := fp) (im := im) (hd := hd) (kn := kn) (wd := wd) (ak := ak) (ke := ke) (cv := cv) (vo := vo) (so := so) (sz := sz) (el := el) (A := A) (B := B) (d := d) (a0 := N 0) (p := p) hA hdd hzd hel h_p hsx (by rw [hHB]; exact c4) (by rw [hHB]; omega) (by omega) hMt
        refine ⟨fp, [], ?_, ?_⟩
        · rw [List.append_nil]; exact hc
        · exact same mp_stay_csB (fun j a b => mp_run_al ⟨a, b⟩)
      · have c2 : hb p = 102 := by
          unfold sc_dg at g1
          rw [if_neg c9, if_neg c8, if_neg c4] at g1
          apply Classical.byContradiction
          intro q
          rw [if_neg q] at g1
          exact g1 rfl
        have e9 := l2.mpr c2
        rw [c2] at g2
        rw [e9, show sp_form 102 = sp_ff from rfl]
        have n0 := sc_numF (h := h) (p := p) (num := num) (fun j a b => by have := g2 j a b; omega)
        generalize (sp_rds h sp_ff (p + 1) num).2.2 = N at *
        have q : ∀ j, p + 1 ≤ j → j < p + 1 + 1 → 48 ≤ hb j ∧ hb j ≤ 57 ∧ h j = hb j := g2
        have q1 := q (p + 1) (by omega) (by omega)
        rw [sc_doneF hsx (by omega)]
        have hc := zX7_isToldF (s := s) (si := si) (sp := sp) (f := f) (fi := fi) (fp := fp) (im := im) (hd := hd) (kn := kn) (wd := wd) (ak := ak) (ke := ke) (cv := cv) (vo := vo) (so := so) (sz := sz) (el := el) (A := A) (B := B) (d := d) (a0 := N 0) (p := p) hA hdd hzd hel h_p hsx (by rw [hHB]; exact c2) (by rw [hHB]; omega) (by omega)
        refine ⟨fp, [], ?_, ?_⟩
        · rw [List.append_nil]; exact hc
        · exact same mp_stay_csB (fun j a b => mp_free_al ⟨a, b⟩)
end

theorem sc_fw_bd {h : Int → Int} {z : Int} (hz : z ≤ 100) : ∀ (n : Nat) (p : Int), 0 ≤ p → p ≤ 120 → sc_fw h z n p = -4 ∨ (0 ≤ sc_fw h z n p ∧ sc_fw h z n p ≤ 120) := by
  intro n
  induction n with
  | zero => intro p _ _; exact Or.inl rfl
  | succ n ih =>
    intro p h0 h1
    have hdg := sc_dg_bd (h p)
    have hb := sc_bad_bd (h := h) (sc_dg (h p)).toNat (p + 1) (by omega)
    rw [sc_fw_s]
    by_cases hp : p < z
    · rw [if_pos hp]
      by_cases h2 : sc_dg (h p) = 0
      · rw [if_pos h2]; exact Or.inr (by omega)
      · rw [if_neg h2]
        by_cases h3 : 0 ≤ sc_bad h (sc_dg (h p)).toNat (p + 1)
        · rw [if_pos h3]; exact Or.inr (by omega)
        · rw [if_neg h3]
          by_cases h4 : h (p + 1 + sc_dg (h p)) ≠ 59
          · rw [if_pos h4]; exact Or.inr (by omega)
          · rw [if_neg h4]; exact ih _ (by omega) (by omega)
    · rw [if_neg hp]; exact Or.inl rfl

theorem sX11_sky_ok {s si sp : Int → Int} {f fi fp : Nat → Option Nat} {im : Int} {hd : Int → Int} {kn : Nat → Option Nat} {wd ak ke cv vo so sz el : Int → Int} {A B : mp_H} {kk kf : Int → Int} {x x2 : Int → Int} {g g2 : Nat → Option Nat} {C C2 : mp_H} {w c p : Int} {k1 k2 : Nat} {d : Int} (hA : A.length = 1) (hsh : ∀ d, 0 ≤ d → d ≤ 7 → mp_shf hd kk kf so sz d) (hel : ∀ x, mp_w (el x)) (hdd : 0 ≤ d ∧ d ≤ 7) (h_p : 0 ≤ p ∧ p ≤ 200) (hlt : p < sz d) (hK : k1 + 1 ≤ 40 ∧ k2 + 7 ≤ 280) (hct : mp_Call (mX7_isTold, 7, 1, 7) [Value.ref (28 + 2 * Int.toNat d), mp_i p, Value.ref 14] (A ++ (mp_cs s si x f fi g im hd kn wd ak ke cv vo so sz el ++ C)) (some (mp_i 1), A ++ (mp_cs s si x2 f fi g2 im hd kn wd ak ke cv vo so sz el ++ C2))) {R9 : mp_An} (hk : mp_At (mX11_sky, 9, 40, 280) (k1 + 1, k2 + 7) 69 [some (Value.ref 1), some (mp_i d), some (Value.ref (28 + 2 * Int.toNat d)), some (mp_i w), some (mp_i (c + 1)), some (mp_i (p + (sc_dg (sc_hb (sp_elm el d) (sz d) p) + 2)))] [] (A ++ (mp_cs s si x2 f fi g2 im hd kn wd ak ke cv vo so sz el ++ C2)) R9) : mp_At (mX11_sky, 9, 40, 280) (k1, k2) 69 [some (Value.ref 1), some (mp_i d), some (Value.ref (28 + 2 * Int.toNat d)), some (mp_i w), some (mp_i c), some (mp_i p)] [] (A ++ (mp_cs s si x f fi g im hd kn wd ak ke cv vo so sz el ++ C)) R9 := by
  have hsh9 := hsh d hdd.1 hdd.2
  refine mp_iload dX11_sky_69 rfl ?_
  refine mp_aload_n dX11_sky_71 rfl ?_
  refine mp_getfield dX11_sky_72 fsX11_80_9 (mp_csR0 hA (d := d) ⟨by omega, by omega⟩) rfl ?_
  refine mp_icmp_ge (tgt := 120) dX11_sky_75 rfl ⟨by omega, by omega⟩ ⟨by omega, by omega⟩ (fun h1 => ?_) (fun h1 => ?_)
  · exfalso; omega
  · refine mp_aload_n dX11_sky_78 rfl ?_
    refine mp_iload dX11_sky_79 rfl ?_
    refine mp_aload_n dX11_sky_81 rfl ?_
    refine mp_getfield dX11_sky_82 fsX11_19_10 (mp_lkP hA 0 rfl) rfl ?_
    refine mp_invS (z := (mX7_isTold, 7, 1, 7)) (K' := (k1 + 1, k2 + 7)) (σ1 := A ++ (mp_cs s si x2 f fi g2 im hd kn wd ak ke cv vo so sz el ++ C2)) (as := [Value.ref (28 + 2 * Int.toNat d), mp_i p, Value.ref 14]) (st := []) (st1 := [mp_i 1]) dX11_sky_85 ssX11_83 hct ⟨Nat.le_of_ble_eq_true rfl, Nat.le_of_ble_eq_true rfl, (by show k1 + 1 ≤ 40; omega), (by show k2 + 7 ≤ 280; omega), Nat.le_of_ble_eq_true rfl⟩ rfl rfl rfl rfl ?_
    refine mp_if_ne (tgt := 98) dX11_sky_88 rfl ⟨by decide, by decide⟩ (fun _ => ?_) (fun h2 => absurd h2 (by decide))
    refine mp_iinc (z := c + 1) (L' := [some (Value.ref 1), some (mp_i d), some (Value.ref (28 + 2 * Int.toNat d)), some (mp_i w), some (mp_i (c + 1)), some (mp_i p)]) dX11_sky_98 rfl (rfl) (by decide) rfl ?_
    refine mp_iload dX11_sky_101 rfl ?_
    refine mp_aload_n dX11_sky_103 rfl ?_
    refine mp_iload dX11_sky_104 rfl ?_
    refine mp_invV (z := (mX5_at, 1, 0, 0)) (K' := (k1 + 1, k2 + 7)) (σ1 := A ++ (mp_cs s si x2 f fi g2 im hd kn wd ak ke cv vo so sz el ++ C2)) (as := [mp_i p]) (st := [mp_i p]) (st1 := [mp_i (if 0 ≤ p ∧ p < (sz d) then (sp_elm el d) p else 0), mp_i p]) dX11_sky_106 svX11_87 (mp_csR0 hA (d := d) ⟨by omega, by omega⟩) rfl rfl (zX5_at (r := (28 + 2 * Int.toNat d)) (i := p) (q := (28 + 2 * Int.toNat d + 1)) (o := (so d)) (z := (sz d)) (e := (sp_elm el d)) (mp_csR0 hA (d := d) ⟨by omega, by omega⟩) (mp_csR1 hA (d := d) ⟨by omega, by omega⟩) (by first | with_reducible assumption | omega) (by first | with_reducible assumption | omega)) ⟨Nat.le_of_ble_eq_true rfl, Nat.le_of_ble_eq_true rfl, (by show k1 + 1 + 0 ≤ 40; omega), (by show k2 + 7 + 0 ≤ 280; omega), Nat.le_of_ble_eq_true rfl⟩ rfl rfl rfl rfl ?_
    refine mp_top (y := sc_hb (sp_elm el d) (sz d) p) rfl ?_
    have hw3 := mp_hb_w (fun x => mp_elm_w (d := d) hel x) (z := sz d) p
    refine mp_invS (z := (mX7_digitsBehind, 0, 0, 0)) (K' := (k1 + 1, k2 + 7)) (σ1 := A ++ (mp_cs s si x2 f fi g2 im hd kn wd ak ke cv vo so sz el ++ C2)) (as := [mp_i (sc_hb (sp_elm el d) (sz d) p)]) (st := [mp_i p]) (st1 := [mp_i (sc_dg (sc_hb (sp_elm el d) (sz d) p)), mp_i p]) dX11_sky_109 ssX11_90 (zX7_digitsBehind (c := (sc_hb (sp_elm el d) (sz d) p)) (by first | with_reducible assumption | omega)) ⟨Nat.le_of_ble_eq_true rfl, Nat.le_of_ble_eq_true rfl, (by show k1 + 1 + 0 ≤ 40; omega), (by show k2 + 7 + 0 ≤ 280; omega), Nat.le_of_ble_eq_true rfl⟩ rfl rfl rfl rfl ?_
    refine mp_iconst dX11_sky_112 ?_
    refine mp_iadd (z := (sc_dg (sc_hb (sp_elm el d) (sz d) p)) + 2) dX11_sky_113 (by first | rfl | omega) ?_
    refine mp_iadd (z := p + ((sc_dg (sc_hb (sp_elm el d) (sz d) p)) + 2)) dX11_sky_114 (by first | rfl | omega) ?_
    refine mp_istore (L' := [some (Value.ref 1), some (mp_i d), some (Value.ref (28 + 2 * Int.toNat d)), some (mp_i w), some (mp_i (c + 1)), some (mp_i (p + ((sc_dg (sc_hb (sp_elm el d) (sz d) p)) + 2)))]) dX11_sky_115 (by decide) rfl ?_
    refine mp_goto (tgt := 69) dX11_sky_117 rfl ?_
    exact hk
theorem sX11_sky_bad {s si sp : Int → Int} {f fi fp : Nat → Option Nat} {im : Int} {hd : Int → Int} {kn : Nat → Option Nat} {wd ak ke cv vo so sz el : Int → Int} {A B : mp_H} {kk kf : Int → Int} {x x2 : Int → Int} {g g2 : Nat → Option Nat} {C C2 : mp_H} {w c p : Int} {k1 k2 : Nat} {d : Int} (hA : A.length = 1) (hsh : ∀ d, 0 ≤ d → d ≤ 7 → mp_shf hd kk kf so sz d) (hel : ∀ x, mp_w (el x)) (hdd : 0 ≤ d ∧ d ≤ 7) (h_p : 0 ≤ p ∧ p ≤ 200) (hlt : p < sz d) (hK : k1 + 1 ≤ 40 ∧ k2 + 7 ≤ 280) (hct : mp_Call (mX7_isTold, 7, 1, 7) [Value.ref (28 + 2 * Int.toNat d), mp_i p, Value.ref 14] (A ++ (mp_cs s si x f fi g im hd kn wd ak ke cv vo so sz el ++ C)) (some (mp_i 0), A ++ (mp_cs s si x2 f fi g2 im hd kn wd ak ke cv vo so sz el ++ C2))) {R9 : mp_An} (hR : R9 = (some (mp_i (-2000 - p)), A ++ (mp_cs s si x2 f fi g2 im hd kn wd ak ke cv vo so sz el ++ C2))) : mp_At (mX11_sky, 9, 40, 280) (k1, k2) 69 [some (Value.ref 1), some (mp_i d), some (Value.ref (28 + 2 * Int.toNat d)), some (mp_i w), some (mp_i c), some (mp_i p)] [] (A ++ (mp_cs s si x f fi g im hd kn wd ak ke cv vo so sz el ++ C)) R9 := by
  have hsh9 := hsh d hdd.1 hdd.2
  refine mp_iload dX11_sky_69 rfl ?_
  refine mp_aload_n dX11_sky_71 rfl ?_
  refine mp_getfield dX11_sky_72 fsX11_80_9 (mp_csR0 hA (d := d) ⟨by omega, by omega⟩) rfl ?_
  refine mp_icmp_ge (tgt := 120) dX11_sky_75 rfl ⟨by omega, by omega⟩ ⟨by omega, by omega⟩ (fun h1 => ?_) (fun h1 => ?_)
  · exfalso; omega
  · refine mp_aload_n dX11_sky_78 rfl ?_
    refine mp_iload dX11_sky_79 rfl ?_
    refine mp_aload_n dX11_sky_81 rfl ?_
    refine mp_getfield dX11_sky_82 fsX11_19_10 (mp_lkP hA 0 rfl) rfl ?_
    refine mp_invS (z := (mX7_isTold, 7, 1, 7)) (K' := (k1 + 1, k2 + 7)) (σ1 := A ++ (mp_cs s si x2 f fi g2 im hd kn wd ak ke cv vo so sz el ++ C2)) (as := [Value.ref (28 + 2 * Int.toNat d), mp_i p, Value.ref 14]) (st := []) (st1 := [mp_i 0]) dX11_sky_85 ssX11_83 hct ⟨Nat.le_of_ble_eq_true rfl, Nat.le_of_ble_eq_true rfl, (by show k1 + 1 ≤ 40; omega), (by show k2 + 7 ≤ 280; omega), Nat.le_of_ble_eq_true rfl⟩ rfl rfl rfl rfl ?_
    refine mp_if_ne (tgt := 98) dX11_sky_88 rfl ⟨by decide, by decide⟩ (fun h2 => absurd h2 (by decide)) (fun _ => ?_)
    refine mp_sipush dX11_sky_91 rfl ?_
    refine mp_iload dX11_sky_94 rfl ?_
    refine mp_isub (z := (-2000) - p) dX11_sky_96 (by first | rfl | omega) ?_
    exact mp_ireturn (st := []) dX11_sky_97 rfl ⟨(by show k1 + 1 ≤ 40; omega), (by show k2 + 7 ≤ 280; omega)⟩ ((hR))
theorem sX11_sky_end {s si sp : Int → Int} {f fi fp : Nat → Option Nat} {im : Int} {hd : Int → Int} {kn : Nat → Option Nat} {wd ak ke cv vo so sz el : Int → Int} {A B : mp_H} {kk kf : Int → Int} {x x2 : Int → Int} {g g2 : Nat → Option Nat} {C C2 : mp_H} {w c p : Int} {k1 k2 : Nat} {d : Int} (hA : A.length = 1) (hsh : ∀ d, 0 ≤ d → d ≤ 7 → mp_shf hd kk kf so sz d) (hel : ∀ x, mp_w (el x)) (hdd : 0 ≤ d ∧ d ≤ 7) (h_p : 0 ≤ p ∧ p ≤ 200) (hlt : ¬ p < sz d) (hK : k1 ≤ 40 ∧ k2 ≤ 280) (hMrx : mp_Mr (A ++ (mp_cs s si x f fi g im hd kn wd ak ke cv vo so sz el ++ C)) g) {R9 : mp_An} (hR : R9 = (some (mp_i c), A ++ (mp_cs x si x g fi g im hd kn wd ak ke cv vo so sz el ++ C))) : mp_At (mX11_sky, 9, 40, 280) (k1, k2) 69 [some (Value.ref 1), some (mp_i d), some (Value.ref (28 + 2 * Int.toNat d)), some (mp_i w), some (mp_i c), some (mp_i p)] [] (A ++ (mp_cs s si x f fi g im hd kn wd ak ke cv vo so sz el ++ C)) R9 := by
  have hsh9 := hsh d hdd.1 hdd.2
  refine mp_iload dX11_sky_69 rfl ?_
  refine mp_aload_n dX11_sky_71 rfl ?_
  refine mp_getfield dX11_sky_72 fsX11_80_9 (mp_csR0 hA (d := d) ⟨by omega, by omega⟩) rfl ?_
  refine mp_icmp_ge (tgt := 120) dX11_sky_75 rfl ⟨by omega, by omega⟩ ⟨by omega, by omega⟩ (fun h1 => ?_) (fun h1 => ?_)
  · refine mp_aload_n dX11_sky_120 rfl ?_
    refine mp_getfield dX11_sky_121 fsX11_10_10 (mp_lkP hA 0 rfl) rfl ?_
    refine mp_aload_n dX11_sky_124 rfl ?_
    refine mp_getfield dX11_sky_125 fsX11_19_10 (mp_lkP hA 0 rfl) rfl ?_
    refine mp_invV (z := (mX6_becomes, 0, 0, 0)) (K' := (k1, k2)) (σ1 := A ++ (mp_cs x si x g fi g im hd kn wd ak ke cv vo so sz el ++ C)) (as := [Value.ref 14]) (st := []) (st1 := []) dX11_sky_128 svX11_76 (mp_lkP hA 1 rfl) rfl rfl (mp_Call.cast (zX6_becomes (p := 2) (q := 14) (A := (A ++ mp_csA im)) (B := ((mp_sk 8 si fi ++ (mp_sk 14 x g ++ (mp_csT hd kn wd ak ke cv vo ++ mp_rws so sz el))) ++ C)) (s := s) (f := f) (t := x) (g := g) (mp_ln2 hA) (by decide) (fun x y => by rw [mp_cs2]; exact mp_skC14 hA) (fun x y => by rw [mp_cs2]; exact hMrx.mono mp_stay_cs)) mp_cs2 (congrArg (Prod.mk _) mp_cs2)) ⟨Nat.le_of_ble_eq_true rfl, Nat.le_of_ble_eq_true rfl, (by show k1 + 0 ≤ 40; omega), (by show k2 + 0 ≤ 280; omega), Nat.le_of_ble_eq_true rfl⟩ rfl rfl rfl rfl ?_
    refine mp_iload dX11_sky_131 rfl ?_
    exact mp_ireturn (st := []) dX11_sky_133 rfl ⟨(by show k1 ≤ 40; omega), (by show k2 ≤ 280; omega)⟩ ((hR))
  · exfalso; omega
theorem zX11_sky_bad {s si sp : Int → Int} {f fi fp : Nat → Option Nat} {im : Int} {hd : Int → Int} {kn : Nat → Option Nat} {wd ak ke cv vo so sz el : Int → Int} {A B : mp_H} {kk kf : Int → Int} {d : Int} (hA : A.length = 1) (hsh : ∀ d, 0 ≤ d → d ≤ 7 → mp_shf hd kk kf so sz d) (hel : ∀ x, mp_w (el x)) (h_d : mp_w d) (hb : ¬ (0 ≤ d ∧ d ≤ 7)) : mp_Call (mX11_sky, 9, 40, 280) [Value.ref 1, mp_i d] (A ++ (mp_cs s si sp f fi fp im hd kn wd ak ke cv vo so sz el ++ B)) (some (mp_i (-1)), A ++ (mp_cs s si sp f fi fp im hd kn wd ak ke cv vo so sz el ++ B)) := by
  refine mp_Call.of (L := [some (Value.ref 1), some (mp_i d), none, none, none, none]) pnX11 (Nat.le_of_ble_eq_true rfl) rfl ?_
  refine mp_iload_n dX11_sky_0 rfl ?_
  refine mp_bipush dX11_sky_1 rfl ?_
  refine mp_invS (z := (mX11_isBelow, 0, 0, 0)) (K' := (0, 0)) (σ1 := A ++ (mp_cs s si sp f fi fp im hd kn wd ak ke cv vo so sz el ++ B)) (as := [mp_i d, mp_i 8]) (st := []) (st1 := [mp_i (if 0 ≤ d ∧ d < 8 then 1 else 0)]) dX11_sky_3 ssX11_54 (zX11_isBelow (v := d) (n := 8) (by first | with_reducible assumption | omega) (by first | with_reducible assumption | omega)) ⟨Nat.le_of_ble_eq_true rfl, Nat.le_of_ble_eq_true rfl, Nat.le_of_ble_eq_true rfl, Nat.le_of_ble_eq_true rfl, Nat.le_of_ble_eq_true rfl⟩ rfl rfl rfl rfl ?_
  refine mp_ifb_ne (tgt := 11) dX11_sky_6 rfl (fun h1 => ?_) (fun h1 => ?_)
  · exfalso; omega
  · refine mp_iconst dX11_sky_9 ?_
    exact mp_ireturn (st := []) dX11_sky_10 rfl ⟨by decide, by decide⟩ ((mp_ans (by rfl)))
theorem zX11_sky_no {s si sp : Int → Int} {f fi fp : Nat → Option Nat} {im : Int} {hd : Int → Int} {kn : Nat → Option Nat} {wd ak ke cv vo so sz el : Int → Int} {A B : mp_H} {kk kf : Int → Int} {d : Int} (hA : A.length = 1) (hsh : ∀ d, 0 ≤ d → d ≤ 7 → mp_shf hd kk kf so sz d) (hel : ∀ x, mp_w (el x)) (h_d : mp_w d) (hdd : 0 ≤ d ∧ d ≤ 7) (hr9 : ¬ hd d = 2) : mp_Call (mX11_sky, 9, 40, 280) [Value.ref 1, mp_i d] (A ++ (mp_cs s si sp f fi fp im hd kn wd ak ke cv vo so sz el ++ B)) (some (mp_i (if hd d = 0 then -11 else -12)), A ++ (mp_cs s si sp f fi fp im hd kn wd ak ke cv vo so sz el ++ B)) := by
  refine mp_Call.of (L := [some (Value.ref 1), some (mp_i d), none, none, none, none]) pnX11 (Nat.le_of_ble_eq_true rfl) rfl ?_
  refine mp_iload_n dX11_sky_0 rfl ?_
  refine mp_bipush dX11_sky_1 rfl ?_
  refine mp_invS (z := (mX11_isBelow, 0, 0, 0)) (K' := (0, 0)) (σ1 := A ++ (mp_cs s si sp f fi fp im hd kn wd ak ke cv vo so sz el ++ B)) (as := [mp_i d, mp_i 8]) (st := []) (st1 := [mp_i (if 0 ≤ d ∧ d < 8 then 1 else 0)]) dX11_sky_3 ssX11_54 (zX11_isBelow (v := d) (n := 8) (by first | with_reducible assumption | omega) (by first | with_reducible assumption | omega)) ⟨Nat.le_of_ble_eq_true rfl, Nat.le_of_ble_eq_true rfl, Nat.le_of_ble_eq_true rfl, Nat.le_of_ble_eq_true rfl, Nat.le_of_ble_eq_true rfl⟩ rfl rfl rfl rfl ?_
  refine mp_ifb_ne (tgt := 11) dX11_sky_6 rfl (fun h1 => ?_) (fun h1 => ?_)
  · refine mp_aload_n dX11_sky_11 rfl ?_
    refine mp_iload_n dX11_sky_12 rfl ?_
    have hsh2 := hsh d (by omega) (by omega)
    refine mp_invV (z := (mX11_rowOn, 0, 0, 0)) (K' := (0, 0)) (σ1 := A ++ (mp_cs s si sp f fi fp im hd kn wd ak ke cv vo so sz el ++ B)) (as := [mp_i d]) (st := []) (st1 := [Value.null]) dX11_sky_13 svX11_58 (mp_lkP hA 0 rfl) rfl rfl (zX11_rowOnN (d := d) (s := s) (si := si) (sp := sp) (f := f) (fi := fi) (fp := fp) (im := im) (hd := hd) (kn := kn) (wd := wd) (ak := ak) (ke := ke) (cv := cv) (vo := vo) (so := so) (sz := sz) (el := el) (B := B) (kk := kk) (kf := kf) (by first | with_reducible assumption | omega) (by first | with_reducible assumption | omega) (by first | with_reducible assumption | omega) (by first | with_reducible assumption | omega)) ⟨Nat.le_of_ble_eq_true rfl, Nat.le_of_ble_eq_true rfl, Nat.le_of_ble_eq_true rfl, Nat.le_of_ble_eq_true rfl, Nat.le_of_ble_eq_true rfl⟩ rfl rfl rfl rfl ?_
    refine mp_astore_nN (L' := [some (Value.ref 1), some (mp_i d), some (Value.null), none, none, none]) dX11_sky_16 rfl (by decide) rfl ?_
    refine mp_aload_nN dX11_sky_17 rfl ?_
    refine mp_ifnonnull_n dX11_sky_18 ?_
    refine mp_aload_n dX11_sky_21 rfl ?_
    refine mp_iload_n dX11_sky_22 rfl ?_
    refine mp_invV (z := (mX11_whyNot, 0, 0, 0)) (K' := (0, 0)) (σ1 := A ++ (mp_cs s si sp f fi fp im hd kn wd ak ke cv vo so sz el ++ B)) (as := [mp_i d]) (st := []) (st1 := [mp_i (if hd d = 0 then -11 else -12)]) dX11_sky_23 svX11_62 (mp_lkP hA 0 rfl) rfl rfl (zX11_whyNot (d := d) (s := s) (si := si) (sp := sp) (f := f) (fi := fi) (fp := fp) (im := im) (hd := hd) (kn := kn) (wd := wd) (ak := ak) (ke := ke) (cv := cv) (vo := vo) (so := so) (sz := sz) (el := el) (B := B) (kk := kk) (kf := kf) (by first | with_reducible assumption | omega) (by first | with_reducible assumption | omega) (by first | with_reducible assumption | omega)) ⟨Nat.le_of_ble_eq_true rfl, Nat.le_of_ble_eq_true rfl, Nat.le_of_ble_eq_true rfl, Nat.le_of_ble_eq_true rfl, Nat.le_of_ble_eq_true rfl⟩ rfl rfl rfl rfl ?_
    exact mp_ireturn (st := []) dX11_sky_26 rfl ⟨by decide, by decide⟩ ((mp_ans (by rfl)))
  · exfalso; omega
theorem zX11_sky_sort {s si sp : Int → Int} {f fi fp : Nat → Option Nat} {im : Int} {hd : Int → Int} {kn : Nat → Option Nat} {wd ak ke cv vo so sz el : Int → Int} {A B : mp_H} {kk kf : Int → Int} {d : Int} (hA : A.length = 1) (hsh : ∀ d, 0 ≤ d → d ≤ 7 → mp_shf hd kk kf so sz d) (hel : ∀ x, mp_w (el x)) (h_d : mp_w d) (hdd : 0 ≤ d ∧ d ≤ 7) (hr9 : hd d = 2) (hso : ¬ so d = 0) : mp_Call (mX11_sky, 9, 40, 280) [Value.ref 1, mp_i d] (A ++ (mp_cs s si sp f fi fp im hd kn wd ak ke cv vo so sz el ++ B)) (some (mp_i (-12)), A ++ (mp_cs s si sp f fi fp im hd kn wd ak ke cv vo so sz el ++ B)) := by
  refine mp_Call.of (L := [some (Value.ref 1), some (mp_i d), none, none, none, none]) pnX11 (Nat.le_of_ble_eq_true rfl) rfl ?_
  refine mp_iload_n dX11_sky_0 rfl ?_
  refine mp_bipush dX11_sky_1 rfl ?_
  refine mp_invS (z := (mX11_isBelow, 0, 0, 0)) (K' := (0, 0)) (σ1 := A ++ (mp_cs s si sp f fi fp im hd kn wd ak ke cv vo so sz el ++ B)) (as := [mp_i d, mp_i 8]) (st := []) (st1 := [mp_i (if 0 ≤ d ∧ d < 8 then 1 else 0)]) dX11_sky_3 ssX11_54 (zX11_isBelow (v := d) (n := 8) (by first | with_reducible assumption | omega) (by first | with_reducible assumption | omega)) ⟨Nat.le_of_ble_eq_true rfl, Nat.le_of_ble_eq_true rfl, Nat.le_of_ble_eq_true rfl, Nat.le_of_ble_eq_true rfl, Nat.le_of_ble_eq_true rfl⟩ rfl rfl rfl rfl ?_
  refine mp_ifb_ne (tgt := 11) dX11_sky_6 rfl (fun h1 => ?_) (fun h1 => ?_)
  · refine mp_aload_n dX11_sky_11 rfl ?_
    refine mp_iload_n dX11_sky_12 rfl ?_
    have hsh2 := hsh d (by omega) (by omega)
    refine mp_invV (z := (mX11_rowOn, 0, 0, 0)) (K' := (0, 0)) (σ1 := A ++ (mp_cs s si sp f fi fp im hd kn wd ak ke cv vo so sz el ++ B)) (as := [mp_i d]) (st := []) (st1 := [Value.ref (28 + 2 * Int.toNat d)]) dX11_sky_13 svX11_58 (mp_lkP hA 0 rfl) rfl rfl (zX11_rowOn (d := d) (s := s) (si := si) (sp := sp) (f := f) (fi := fi) (fp := fp) (im := im) (hd := hd) (kn := kn) (wd := wd) (ak := ak) (ke := ke) (cv := cv) (vo := vo) (so := so) (sz := sz) (el := el) (B := B) (kk := kk) (kf := kf) (by first | with_reducible assumption | omega) (by first | with_reducible assumption | omega) (by first | with_reducible assumption | omega) (by first | with_reducible assumption | omega)) ⟨Nat.le_of_ble_eq_true rfl, Nat.le_of_ble_eq_true rfl, Nat.le_of_ble_eq_true rfl, Nat.le_of_ble_eq_true rfl, Nat.le_of_ble_eq_true rfl⟩ rfl rfl rfl rfl ?_
    refine mp_astore_n (L' := [some (Value.ref 1), some (mp_i d), some (Value.ref (28 + 2 * Int.toNat d)), none, none, none]) dX11_sky_16 rfl (by decide) rfl ?_
    refine mp_aload_n dX11_sky_17 rfl ?_
    refine mp_ifnonnull_r (tgt := 27) dX11_sky_18 rfl ?_
    refine mp_aload_n dX11_sky_27 rfl ?_
    refine mp_getfield dX11_sky_28 fsX11_66_9 (mp_csR0 hA (d := d) ⟨by omega, by omega⟩) rfl ?_
    refine mp_if_eq (tgt := 37) dX11_sky_31 rfl ⟨by omega, by omega⟩ (fun h3 => ?_) (fun h3 => ?_)
    · exfalso; omega
    · refine mp_bipush dX11_sky_34 rfl ?_
      exact mp_ireturn (st := []) dX11_sky_36 rfl ⟨by decide, by decide⟩ ((mp_ans (by rfl)))
  · exfalso; omega
theorem zX11_sky_wrong {s si sp : Int → Int} {f fi fp : Nat → Option Nat} {im : Int} {hd : Int → Int} {kn : Nat → Option Nat} {wd ak ke cv vo so sz el : Int → Int} {A B : mp_H} {kk kf : Int → Int} {d : Int} (hA : A.length = 1) (hsh : ∀ d, 0 ≤ d → d ≤ 7 → mp_shf hd kk kf so sz d) (hel : ∀ x, mp_w (el x)) (h_d : mp_w d) (hdd : 0 ≤ d ∧ d ≤ 7) (hr9 : hd d = 2) (hso : so d = 0) (hwr : 0 ≤ (if sz d = 0 then 0 else sc_fw (sc_hb (sp_elm el d) (sz d)) (sz d) (Int.toNat (sz d)) 0)) : mp_Call (mX11_sky, 9, 40, 280) [Value.ref 1, mp_i d] (A ++ (mp_cs s si sp f fi fp im hd kn wd ak ke cv vo so sz el ++ B)) (some (mp_i (-1000 - (if sz d = 0 then 0 else sc_fw (sc_hb (sp_elm el d) (sz d)) (sz d) (Int.toNat (sz d)) 0))), A ++ (mp_cs s si sp f fi fp im hd kn wd ak ke cv vo so sz el ++ B)) := by
  refine mp_Call.of (L := [some (Value.ref 1), some (mp_i d), none, none, none, none]) pnX11 (Nat.le_of_ble_eq_true rfl) rfl ?_
  refine mp_iload_n dX11_sky_0 rfl ?_
  refine mp_bipush dX11_sky_1 rfl ?_
  refine mp_invS (z := (mX11_isBelow, 0, 0, 0)) (K' := (0, 0)) (σ1 := A ++ (mp_cs s si sp f fi fp im hd kn wd ak ke cv vo so sz el ++ B)) (as := [mp_i d, mp_i 8]) (st := []) (st1 := [mp_i (if 0 ≤ d ∧ d < 8 then 1 else 0)]) dX11_sky_3 ssX11_54 (zX11_isBelow (v := d) (n := 8) (by first | with_reducible assumption | omega) (by first | with_reducible assumption | omega)) ⟨Nat.le_of_ble_eq_true rfl, Nat.le_of_ble_eq_true rfl, Nat.le_of_ble_eq_true rfl, Nat.le_of_ble_eq_true rfl, Nat.le_of_ble_eq_true rfl⟩ rfl rfl rfl rfl ?_
  refine mp_ifb_ne (tgt := 11) dX11_sky_6 rfl (fun h1 => ?_) (fun h1 => ?_)
  · refine mp_aload_n dX11_sky_11 rfl ?_
    refine mp_iload_n dX11_sky_12 rfl ?_
    have hsh2 := hsh d (by omega) (by omega)
    refine mp_invV (z := (mX11_rowOn, 0, 0, 0)) (K' := (0, 0)) (σ1 := A ++ (mp_cs s si sp f fi fp im hd kn wd ak ke cv vo so sz el ++ B)) (as := [mp_i d]) (st := []) (st1 := [Value.ref (28 + 2 * Int.toNat d)]) dX11_sky_13 svX11_58 (mp_lkP hA 0 rfl) rfl rfl (zX11_rowOn (d := d) (s := s) (si := si) (sp := sp) (f := f) (fi := fi) (fp := fp) (im := im) (hd := hd) (kn := kn) (wd := wd) (ak := ak) (ke := ke) (cv := cv) (vo := vo) (so := so) (sz := sz) (el := el) (B := B) (kk := kk) (kf := kf) (by first | with_reducible assumption | omega) (by first | with_reducible assumption | omega) (by first | with_reducible assumption | omega) (by first | with_reducible assumption | omega)) ⟨Nat.le_of_ble_eq_true rfl, Nat.le_of_ble_eq_true rfl, Nat.le_of_ble_eq_true rfl, Nat.le_of_ble_eq_true rfl, Nat.le_of_ble_eq_true rfl⟩ rfl rfl rfl rfl ?_
    refine mp_astore_n (L' := [some (Value.ref 1), some (mp_i d), some (Value.ref (28 + 2 * Int.toNat d)), none, none, none]) dX11_sky_16 rfl (by decide) rfl ?_
    refine mp_aload_n dX11_sky_17 rfl ?_
    refine mp_ifnonnull_r (tgt := 27) dX11_sky_18 rfl ?_
    refine mp_aload_n dX11_sky_27 rfl ?_
    refine mp_getfield dX11_sky_28 fsX11_66_9 (mp_csR0 hA (d := d) ⟨by omega, by omega⟩) rfl ?_
    refine mp_if_eq (tgt := 37) dX11_sky_31 rfl ⟨by omega, by omega⟩ (fun h3 => ?_) (fun h3 => ?_)
    · refine mp_aload_n dX11_sky_37 rfl ?_
      refine mp_invS (z := (mX7_firstWrongByte, 2, 0, 0)) (K' := (0, 0)) (σ1 := A ++ (mp_cs s si sp f fi fp im hd kn wd ak ke cv vo so sz el ++ B)) (as := [Value.ref (28 + 2 * Int.toNat d)]) (st := []) (st1 := [mp_i (if (sz d) = 0 then 0 else sc_fw (sc_hb (sp_elm el d) (sz d)) (sz d) (Int.toNat (sz d)) 0)]) dX11_sky_38 ssX11_70 (zX7_firstWrongByte (r := (28 + 2 * Int.toNat d)) (q := (28 + 2 * Int.toNat d + 1)) (o := (so d)) (z := (sz d)) (e := (sp_elm el d)) (mp_csR0 hA (d := d) ⟨by omega, by omega⟩) (mp_csR1 hA (d := d) ⟨by omega, by omega⟩) (by first | with_reducible assumption | omega) (fun x => mp_elm_w hel x)) ⟨Nat.le_of_ble_eq_true rfl, Nat.le_of_ble_eq_true rfl, Nat.le_of_ble_eq_true rfl, Nat.le_of_ble_eq_true rfl, Nat.le_of_ble_eq_true rfl⟩ rfl rfl rfl rfl ?_
      have hfb := sc_fw_bd (h := sc_hb (sp_elm el d) (sz d)) (z := sz d) (by omega) (Int.toNat (sz d)) 0 (by omega) (by omega)
      refine mp_istore_n (L' := [some (Value.ref 1), some (mp_i d), some (Value.ref (28 + 2 * Int.toNat d)), some (mp_i (if (sz d) = 0 then 0 else sc_fw (sc_hb (sp_elm el d) (sz d)) (sz d) (Int.toNat (sz d)) 0)), none, none]) dX11_sky_41 rfl (by decide) rfl ?_
      refine mp_iload_n dX11_sky_42 rfl ?_
      refine mp_if_lt (tgt := 52) dX11_sky_43 rfl ⟨by omega, by omega⟩ (fun h4 => ?_) (fun h4 => ?_)
      · exfalso; omega
      · refine mp_sipush dX11_sky_46 rfl ?_
        refine mp_iload_n dX11_sky_49 rfl ?_
        refine mp_isub (z := (-1000) - (if (sz d) = 0 then 0 else sc_fw (sc_hb (sp_elm el d) (sz d)) (sz d) (Int.toNat (sz d)) 0)) dX11_sky_50 (by first | rfl | omega) ?_
        exact mp_ireturn (st := []) dX11_sky_51 rfl ⟨by decide, by decide⟩ ((mp_ans (by rfl)))
    · exfalso; omega
  · exfalso; omega
theorem zX11_sky_in {s si sp : Int → Int} {f fi fp : Nat → Option Nat} {im : Int} {hd : Int → Int} {kn : Nat → Option Nat} {wd ak ke cv vo so sz el : Int → Int} {A B : mp_H} {kk kf : Int → Int} {d : Int} (hA : A.length = 1) (hsh : ∀ d, 0 ≤ d → d ≤ 7 → mp_shf hd kk kf so sz d) (hel : ∀ x, mp_w (el x)) (h_d : mp_w d) (hs : mp_sky s) (hMt : mp_Mt (A ++ (mp_cs s si sp f fi fp im hd kn wd ak ke cv vo so sz el ++ B)) s f) (hMr : mp_Mr (A ++ (mp_cs s si sp f fi fp im hd kn wd ak ke cv vo so sz el ++ B)) f) (hdd : 0 ≤ d ∧ d ≤ 7) (hr9 : hd d = 2) (hso : so d = 0) (hwr : (if sz d = 0 then 0 else sc_fw (sc_hb (sp_elm el d) (sz d)) (sz d) (Int.toNat (sz d)) 0) < 0) {R9 : mp_An} (hk : mp_At (mX11_sky, 9, 40, 280) (0, 0) 69 [some (Value.ref 1), some (mp_i d), some (Value.ref (28 + 2 * Int.toNat d)), some (mp_i (if sz d = 0 then 0 else sc_fw (sc_hb (sp_elm el d) (sz d)) (sz d) (Int.toNat (sz d)) 0)), some (mp_i 0), some (mp_i 0)] [] (A ++ (mp_cs s si s f fi f im hd kn wd ak ke cv vo so sz el ++ B)) R9) : mp_Call (mX11_sky, 9, 40, 280) [Value.ref 1, mp_i d] (A ++ (mp_cs s si sp f fi fp im hd kn wd ak ke cv vo so sz el ++ B)) R9 := by
  refine mp_Call.of (L := [some (Value.ref 1), some (mp_i d), none, none, none, none]) pnX11 (Nat.le_of_ble_eq_true rfl) rfl ?_
  refine mp_iload_n dX11_sky_0 rfl ?_
  refine mp_bipush dX11_sky_1 rfl ?_
  refine mp_invS (z := (mX11_isBelow, 0, 0, 0)) (K' := (0, 0)) (σ1 := A ++ (mp_cs s si sp f fi fp im hd kn wd ak ke cv vo so sz el ++ B)) (as := [mp_i d, mp_i 8]) (st := []) (st1 := [mp_i (if 0 ≤ d ∧ d < 8 then 1 else 0)]) dX11_sky_3 ssX11_54 (zX11_isBelow (v := d) (n := 8) (by first | with_reducible assumption | omega) (by first | with_reducible assumption | omega)) ⟨Nat.le_of_ble_eq_true rfl, Nat.le_of_ble_eq_true rfl, Nat.le_of_ble_eq_true rfl, Nat.le_of_ble_eq_true rfl, Nat.le_of_ble_eq_true rfl⟩ rfl rfl rfl rfl ?_
  refine mp_ifb_ne (tgt := 11) dX11_sky_6 rfl (fun h1 => ?_) (fun h1 => ?_)
  · refine mp_aload_n dX11_sky_11 rfl ?_
    refine mp_iload_n dX11_sky_12 rfl ?_
    have hsh2 := hsh d (by omega) (by omega)
    refine mp_invV (z := (mX11_rowOn, 0, 0, 0)) (K' := (0, 0)) (σ1 := A ++ (mp_cs s si sp f fi fp im hd kn wd ak ke cv vo so sz el ++ B)) (as := [mp_i d]) (st := []) (st1 := [Value.ref (28 + 2 * Int.toNat d)]) dX11_sky_13 svX11_58 (mp_lkP hA 0 rfl) rfl rfl (zX11_rowOn (d := d) (s := s) (si := si) (sp := sp) (f := f) (fi := fi) (fp := fp) (im := im) (hd := hd) (kn := kn) (wd := wd) (ak := ak) (ke := ke) (cv := cv) (vo := vo) (so := so) (sz := sz) (el := el) (B := B) (kk := kk) (kf := kf) (by first | with_reducible assumption | omega) (by first | with_reducible assumption | omega) (by first | with_reducible assumption | omega) (by first | with_reducible assumption | omega)) ⟨Nat.le_of_ble_eq_true rfl, Nat.le_of_ble_eq_true rfl, Nat.le_of_ble_eq_true rfl, Nat.le_of_ble_eq_true rfl, Nat.le_of_ble_eq_true rfl⟩ rfl rfl rfl rfl ?_
    refine mp_astore_n (L' := [some (Value.ref 1), some (mp_i d), some (Value.ref (28 + 2 * Int.toNat d)), none, none, none]) dX11_sky_16 rfl (by decide) rfl ?_
    refine mp_aload_n dX11_sky_17 rfl ?_
    refine mp_ifnonnull_r (tgt := 27) dX11_sky_18 rfl ?_
    refine mp_aload_n dX11_sky_27 rfl ?_
    refine mp_getfield dX11_sky_28 fsX11_66_9 (mp_csR0 hA (d := d) ⟨by omega, by omega⟩) rfl ?_
    refine mp_if_eq (tgt := 37) dX11_sky_31 rfl ⟨by omega, by omega⟩ (fun h3 => ?_) (fun h3 => ?_)
    · refine mp_aload_n dX11_sky_37 rfl ?_
      refine mp_invS (z := (mX7_firstWrongByte, 2, 0, 0)) (K' := (0, 0)) (σ1 := A ++ (mp_cs s si sp f fi fp im hd kn wd ak ke cv vo so sz el ++ B)) (as := [Value.ref (28 + 2 * Int.toNat d)]) (st := []) (st1 := [mp_i (if (sz d) = 0 then 0 else sc_fw (sc_hb (sp_elm el d) (sz d)) (sz d) (Int.toNat (sz d)) 0)]) dX11_sky_38 ssX11_70 (zX7_firstWrongByte (r := (28 + 2 * Int.toNat d)) (q := (28 + 2 * Int.toNat d + 1)) (o := (so d)) (z := (sz d)) (e := (sp_elm el d)) (mp_csR0 hA (d := d) ⟨by omega, by omega⟩) (mp_csR1 hA (d := d) ⟨by omega, by omega⟩) (by first | with_reducible assumption | omega) (fun x => mp_elm_w hel x)) ⟨Nat.le_of_ble_eq_true rfl, Nat.le_of_ble_eq_true rfl, Nat.le_of_ble_eq_true rfl, Nat.le_of_ble_eq_true rfl, Nat.le_of_ble_eq_true rfl⟩ rfl rfl rfl rfl ?_
      have hfb := sc_fw_bd (h := sc_hb (sp_elm el d) (sz d)) (z := sz d) (by omega) (Int.toNat (sz d)) 0 (by omega) (by omega)
      refine mp_istore_n (L' := [some (Value.ref 1), some (mp_i d), some (Value.ref (28 + 2 * Int.toNat d)), some (mp_i (if (sz d) = 0 then 0 else sc_fw (sc_hb (sp_elm el d) (sz d)) (sz d) (Int.toNat (sz d)) 0)), none, none]) dX11_sky_41 rfl (by decide) rfl ?_
      refine mp_iload_n dX11_sky_42 rfl ?_
      refine mp_if_lt (tgt := 52) dX11_sky_43 rfl ⟨by omega, by omega⟩ (fun h4 => ?_) (fun h4 => ?_)
      · refine mp_aload_n dX11_sky_52 rfl ?_
        refine mp_getfield dX11_sky_53 fsX11_19_10 (mp_lkP hA 0 rfl) rfl ?_
        refine mp_aload_n dX11_sky_56 rfl ?_
        refine mp_getfield dX11_sky_57 fsX11_10_10 (mp_lkP hA 0 rfl) rfl ?_
        refine mp_invV (z := (mX6_becomes, 0, 0, 0)) (K' := (0, 0)) (σ1 := A ++ (mp_cs s si s f fi f im hd kn wd ak ke cv vo so sz el ++ B)) (as := [Value.ref 2]) (st := []) (st1 := []) dX11_sky_60 svX11_76 (mp_lkP hA 13 rfl) rfl rfl (mp_Call.cast (zX6_becomes (p := 14) (q := 2) (A := (A ++ (mp_csA im ++ (mp_sk 2 s f ++ mp_sk 8 si fi)))) (B := ((mp_csT hd kn wd ak ke cv vo ++ mp_rws so sz el) ++ B)) (s := sp) (f := fp) (t := s) (g := f) (mp_ln14 hA) (by decide) (fun x y => by rw [mp_cs14]; exact mp_skC2 hA) (fun x y => by rw [mp_cs14]; exact hMr.mono mp_stay_cs)) mp_cs14 (congrArg (Prod.mk _) mp_cs14)) ⟨Nat.le_of_ble_eq_true rfl, Nat.le_of_ble_eq_true rfl, Nat.le_of_ble_eq_true rfl, Nat.le_of_ble_eq_true rfl, Nat.le_of_ble_eq_true rfl⟩ rfl rfl rfl rfl ?_
        refine mp_iconst dX11_sky_63 ?_
        refine mp_istore (L' := [some (Value.ref 1), some (mp_i d), some (Value.ref (28 + 2 * Int.toNat d)), some (mp_i (if (sz d) = 0 then 0 else sc_fw (sc_hb (sp_elm el d) (sz d)) (sz d) (Int.toNat (sz d)) 0)), some (mp_i 0), none]) dX11_sky_64 (by decide) rfl ?_
        refine mp_iconst dX11_sky_66 ?_
        refine mp_istore (L' := [some (Value.ref 1), some (mp_i d), some (Value.ref (28 + 2 * Int.toNat d)), some (mp_i (if (sz d) = 0 then 0 else sc_fw (sc_hb (sp_elm el d) (sz d)) (sz d) (Int.toNat (sz d)) 0)), some (mp_i 0), some (mp_i 0)]) dX11_sky_67 (by decide) rfl ?_
        exact hk
      · exfalso; omega
    · exfalso; omega
  · exfalso; omega
