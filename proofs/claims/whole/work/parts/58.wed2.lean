/-! ===== WED as the class finds it ===== -/
def sc_askKe (s ke : Int → Int) (l m : Int) : Int → Int := if ke m = 9 ∨ sp_rather s m l (ke m) ≠ 0 then mp_ud ke m l else ke
def sc_askWd (s wd ke : Int → Int) (l m : Int) : Int → Int := if ke m = 9 then mp_ud wd l m else if sp_rather s m l (ke m) ≠ 0 then mp_ud (mp_ud wd l m) (ke m) 9 else wd
abbrev sc_Q : Type := (Int → Int) × (Int → Int) × (Int → Int) × Int
def sc_one (s : Int → Int) (l : Int) (p : sc_Q) : sc_Q := if p.1 l = 9 ∧ 0 ≤ sp_next1 s p.2.1 l then (sc_askWd s p.1 p.2.2.1 l (sp_next1 s p.2.1 l), wAdd p.2.1 l (sp_next1 s p.2.1 l), sc_askKe s p.2.2.1 l (sp_next1 s p.2.1 l), 1) else p
def sc_turns (s : Int → Int) : Nat → sc_Q → sc_Q
  | 0, p => p
  | n + 1, p => if p.2.2.2 = 0 then p else sc_turns s n (mp_fold (sc_one s) 5 0 (p.1, p.2.1, p.2.2.1, 0))
theorem sc_turns_s {s : Int → Int} {n : Nat} {p : sc_Q} : sc_turns s (n + 1) p = if p.2.2.2 = 0 then p else sc_turns s n (mp_fold (sc_one s) 5 0 (p.1, p.2.1, p.2.2.1, 0)) := rfl
def wCls (s wd ak ke : Int → Int) : Prop := wSt s (fun k => if ke k = 9 then -4 else ke k) ak ∧ mp_aok ak ∧ (∀ k, 0 ≤ k → ke k = 9 ∨ (0 ≤ ke k ∧ ke k ≤ 4)) ∧ ∀ l, 0 ≤ l → l ≤ 4 → (wd l = 9 ∧ wFree s ak l) ∨ ((0 ≤ wd l ∧ wd l ≤ 7) ∧ wBest s ak (wd l) l)
theorem wCls_0 {s : Int → Int} : wCls s (fun _ => 9) (fun _ => 0) (fun _ => 9) := by
  refine ⟨?_, fun l _ _ => ⟨Int.le_refl 0, by show (0 : Int) < 256; decide⟩, fun k _ => Or.inl rfl, fun l _ _ => Or.inl ⟨rfl, fun k _ b => mp_b_0 k b.1⟩⟩
  exact wSt_0
theorem wAsk {s wd ak ke : Int → Int} {l : Int} (hs : mp_sky s) (hl : 0 ≤ l ∧ l ≤ 4) (h : wCls s wd ak ke) (h9 : wd l = 9) (hk : 0 ≤ sp_next1 s ak l) :
    wCls s (sc_askWd s wd ke l (sp_next1 s ak l)) (wAdd ak l (sp_next1 s ak l)) (sc_askKe s ke l (sp_next1 s ak l)) ∧ wCnt (wAdd ak l (sp_next1 s ak l)) = wCnt ak + 1 := by
  obtain ⟨h1, h2, h3, h4⟩ := h
  have hs0 := hs.1
  have hf : wFree s ak l := by
    rcases h4 l hl.1 hl.2 with h | h
    · exact h.2
    · omega
  have hcd : wCand s l (sp_next1 s ak l) ∧ ¬ wA ak l (sp_next1 s ak l) := by
    rcases wNext (z := ak) (l := l) hs with ⟨g5, -⟩ | ⟨g5, g6, -⟩
    · omega
    · exact ⟨g5, g6⟩
  have hkr := hcd.1.1
  have hz2 : mp_aok (wAdd ak l (sp_next1 s ak l)) := mp_aok_ud h2 ⟨mp_or_nn _ _, mp_or_256 (h2 l hl.1 hl.2).2 (mp_bit_256 (by omega))⟩
  refine ⟨?_, wCnt_add hl ⟨hk, by omega⟩ hcd.2⟩
  by_cases hc : ke (sp_next1 s ak l) = 9 ∨ sp_rather s (sp_next1 s ak l) l (ke (sp_next1 s ak l)) ≠ 0
  · have hc' : (fun k => if ke k = 9 then -4 else ke k) (sp_next1 s ak l) < 0 ∨ sp_rather s (sp_next1 s ak l) l ((fun k => if ke k = 9 then -4 else ke k) (sp_next1 s ak l)) ≠ 0 := by
      dsimp only
      by_cases e : ke (sp_next1 s ak l) = 9
      · rw [if_pos e]; exact Or.inl (by decide)
      · rw [if_neg e]; exact Or.inr (hc.resolve_left e)
    obtain ⟨a1, a2, a3⟩ := wSt_take hs hl h1 hf hk hc'
    generalize hkk : sp_next1 s ak l = k at *
    try dsimp only at a3
    have eq : (fun j => if (sc_askKe s ke l k) j = 9 then -4 else (sc_askKe s ke l k) j) = mp_ud (fun k => if ke k = 9 then -4 else ke k) k l := by
      funext j
      unfold sc_askKe
      rw [if_pos hc]
      by_cases e : j = k
      · subst e; rw [mp_ud_eq, mp_ud_eq, if_neg (by omega)]
      · rw [mp_udn e, mp_udn e]
    refine ⟨by rw [eq]; exact a1, hz2, fun j hj => ?_, fun i i0 i4 => ?_⟩
    · unfold sc_askKe
      rw [if_pos hc]
      by_cases e : j = k
      · subst e; rw [mp_ud_eq]; exact Or.inr hl
      · rw [mp_udn e]; exact h3 j hj
    · unfold sc_askWd
      by_cases e9 : ke k = 9
      · rw [if_pos e9]
        by_cases e : i = l
        · subst e; rw [mp_ud_eq]; exact Or.inr ⟨by omega, a2⟩
        · rw [mp_udn e]
          rcases h4 i i0 i4 with ⟨g1, g2⟩ | ⟨g1, g2⟩
          · refine Or.inl ⟨g1, fun j hj b => ?_⟩
            by_cases ej : j = k
            · rw [ej] at b; exact e (wBest_one b a2)
            · exact g2 j hj ((wAdd_col hk hj ej).mp b)
          · refine Or.inr ⟨g1, (wAdd_col hk g1.1 (fun ej => ?_)).mpr g2⟩
            have := h1.2.2.1 k hk
            dsimp only at this
            rw [if_pos e9] at this
            rcases this with ⟨-, g⟩ | g
            · rw [ej] at g2; exact g i i0 i4 g2.1
            · have := g.2.1; omega
      · rw [if_neg e9, if_pos (hc.resolve_left e9)]
        rw [if_neg e9] at a3
        have hke := h3 k hk
        have gk : wBest s ak k (ke k) := by
          have := h1.2.2.1 k hk
          dsimp only at this
          rw [if_neg e9] at this
          rcases this with ⟨g, -⟩ | g
          · omega
          · exact g
        by_cases e : i = ke k
        · rw [e, mp_ud_eq]; exact Or.inl ⟨rfl, a3 (by omega)⟩
        · rw [mp_udn e]
          by_cases e2 : i = l
          · subst e2; rw [mp_ud_eq]; exact Or.inr ⟨by omega, a2⟩
          · rw [mp_udn e2]
            rcases h4 i i0 i4 with ⟨g1, g2⟩ | ⟨g1, g2⟩
            · refine Or.inl ⟨g1, fun j hj b => ?_⟩
              by_cases ej : j = k
              · rw [ej] at b; exact e2 (wBest_one b a2)
              · exact g2 j hj ((wAdd_col hk hj ej).mp b)
            · refine Or.inr ⟨g1, (wAdd_col hk g1.1 (fun ej => ?_)).mpr g2⟩
              rw [ej] at g2; exact e (wBest_one g2 gk)
  · have e9 : ¬ ke (sp_next1 s ak l) = 9 := fun e => hc (Or.inl e)
    have hc' : ¬ ((fun k => if ke k = 9 then -4 else ke k) (sp_next1 s ak l) < 0 ∨ sp_rather s (sp_next1 s ak l) l ((fun k => if ke k = 9 then -4 else ke k) (sp_next1 s ak l)) ≠ 0) := by
      dsimp only
      rw [if_neg e9]
      have := h3 _ hk
      exact fun h => hc (Or.inr (h.resolve_left (by omega)))
    obtain ⟨a1, a2, a3⟩ := wSt_no hs hl h1 hf hk hc'
    generalize hkk : sp_next1 s ak l = k at *
    try dsimp only at a3
    rw [if_neg e9] at a3
    have ew : sc_askWd s wd ke l k = wd := by unfold sc_askWd; rw [if_neg e9, if_neg (fun h => hc (Or.inr h))]
    have ek : sc_askKe s ke l k = ke := by unfold sc_askKe; rw [if_neg hc]
    rw [ew, ek]
    refine ⟨a1, hz2, h3, fun i i0 i4 => ?_⟩
    rcases h4 i i0 i4 with ⟨g1, g2⟩ | ⟨g1, g2⟩
    · refine Or.inl ⟨g1, fun j hj b => ?_⟩
      by_cases ej : j = k
      · rw [ej] at b
        have := wBest_one b a3
        subst this
        have g := h1.2.2.1 k hk
        dsimp only at g
        rw [if_neg e9] at g
        rcases g with ⟨g, -⟩ | g
        · have := h3 k hk; omega
        · exact g2 k hk g
      · exact g2 j hj ((wAdd_col hk hj ej).mp b)
    · refine Or.inr ⟨g1, ?_⟩
      by_cases ej : wd i = k
      · rw [ej]
        rw [ej] at g2
        have g := h1.2.2.1 k hk
        dsimp only at g
        rw [if_neg e9] at g
        rcases g with ⟨g, -⟩ | g
        · have := h3 k hk; omega
        · rw [wBest_one g2 g]; exact a3
      · exact (wAdd_col hk g1.1 ej).mpr g2
theorem sc_one_ok {s : Int → Int} (hs : mp_sky s) {l : Int} (hl : 0 ≤ l ∧ l ≤ 4) {p : sc_Q} (h : wCls s p.1 p.2.1 p.2.2.1) (hg : p.2.2.2 = 0 ∨ p.2.2.2 = 1) : wCls s (sc_one s l p).1 (sc_one s l p).2.1 (sc_one s l p).2.2.1 ∧ ((sc_one s l p).2.2.2 = 0 ∨ (sc_one s l p).2.2.2 = 1) := by
  unfold sc_one
  by_cases hc : p.1 l = 9 ∧ 0 ≤ sp_next1 s p.2.1 l
  · rw [if_pos hc]; exact ⟨(wAsk hs hl h hc.1 hc.2).1, Or.inr rfl⟩
  · rw [if_neg hc]; exact ⟨h, hg⟩
theorem sc_in {s : Int → Int} (hs : mp_sky s) {c : Int} : ∀ (n : Nat) (l : Int) (p : sc_Q), 0 ≤ l → l + n = 5 → wCls s p.1 p.2.1 p.2.2.1 → ((p.2.2.2 = 0 ∧ c ≤ wCnt p.2.1 ∧ ∀ i, 0 ≤ i → i < l → wSet s p.2.1 i) ∨ (p.2.2.2 = 1 ∧ c + 1 ≤ wCnt p.2.1)) →
    wCls s (mp_fold (sc_one s) n l p).1 (mp_fold (sc_one s) n l p).2.1 (mp_fold (sc_one s) n l p).2.2.1 ∧ (((mp_fold (sc_one s) n l p).2.2.2 = 0 ∧ wCl s (mp_fold (sc_one s) n l p).2.1) ∨ ((mp_fold (sc_one s) n l p).2.2.2 = 1 ∧ c + 1 ≤ wCnt (mp_fold (sc_one s) n l p).2.1)) := by
  intro n
  induction n with
  | zero =>
    intro l p h0 h1 h2 h3
    refine ⟨h2, ?_⟩
    rcases h3 with ⟨g1, g2, g3⟩ | h3
    · exact Or.inl ⟨g1, h2.1.1, fun i a b => g3 i a (by omega)⟩
    · exact Or.inr h3
  | succ n ih =>
    intro l p h0 h1 h2 h3
    show wCls s (mp_fold (sc_one s) n (l + 1) (sc_one s l p)).1 (mp_fold (sc_one s) n (l + 1) (sc_one s l p)).2.1 (mp_fold (sc_one s) n (l + 1) (sc_one s l p)).2.2.1 ∧ (((mp_fold (sc_one s) n (l + 1) (sc_one s l p)).2.2.2 = 0 ∧ wCl s (mp_fold (sc_one s) n (l + 1) (sc_one s l p)).2.1) ∨ ((mp_fold (sc_one s) n (l + 1) (sc_one s l p)).2.2.2 = 1 ∧ c + 1 ≤ wCnt (mp_fold (sc_one s) n (l + 1) (sc_one s l p)).2.1))
    have hl : 0 ≤ l ∧ l ≤ 4 := by omega
    have hok := sc_one_ok hs hl h2 (by omega)
    refine ih (l + 1) _ (by omega) (by omega) hok.1 ?_
    unfold sc_one
    by_cases hc : p.1 l = 9 ∧ 0 ≤ sp_next1 s p.2.1 l
    · rw [if_pos hc]
      have := (wAsk hs hl h2 hc.1 hc.2).2
      exact Or.inr ⟨rfl, by show c + 1 ≤ wCnt (wAdd p.2.1 l (sp_next1 s p.2.1 l)); omega⟩
    · rw [if_neg hc]
      rcases h3 with ⟨g1, g2, g3⟩ | h3
      · refine Or.inl ⟨g1, g2, fun i a b => ?_⟩
        by_cases e : i = l
        · subst e
          rcases h2.2.2.2 i a (by omega) with ⟨k1, -⟩ | ⟨k1, k2⟩
          · rcases wNext (z := p.2.1) (l := i) hs with ⟨-, g⟩ | ⟨g, -⟩
            · exact Or.inr g
            · exact absurd ⟨k1, g.1.1⟩ hc
          · exact Or.inl ⟨_, k1.1, k2⟩
        · exact g3 i a (by omega)
      · exact Or.inr h3
theorem sc_turns_ok {s : Int → Int} (hs : mp_sky s) : ∀ (n : Nat) (p : sc_Q) (t : Int), t + n = 40 → wCls s p.1 p.2.1 p.2.2.1 → ((p.2.2.2 = 0 ∧ wCl s p.2.1) ∨ (p.2.2.2 = 1 ∧ t ≤ wCnt p.2.1)) → wCls s (sc_turns s n p).1 (sc_turns s n p).2.1 (sc_turns s n p).2.2.1 ∧ wCl s (sc_turns s n p).2.1 := by
  intro n
  induction n with
  | zero =>
    intro p t ht h hc
    refine ⟨h, ?_⟩
    rcases hc with hc | hc
    · exact hc.2
    · exact ⟨h.1.1, wCnt_full hs h.2.1 (by show 40 ≤ wCnt p.2.1; omega)⟩
  | succ n ih =>
    intro p t ht h hc
    rw [sc_turns_s]
    rcases hc with hc | hc
    · rw [if_pos hc.1]; exact ⟨h, hc.2⟩
    · rw [if_neg (by omega)]
      have := sc_in hs (c := t) 5 0 (p.1, p.2.1, p.2.2.1, 0) (Int.le_refl _) (by omega) h (Or.inl ⟨rfl, hc.2, fun i a b => by omega⟩)
      exact ih _ (t + 1) (by omega) this.1 this.2
abbrev sc_q0 : sc_Q := ((fun _ => 9), (fun _ => 0), (fun _ => 9), 1)
theorem sc_match {s : Int → Int} (hs : mp_sky s) : wCls s (sc_turns s 40 sc_q0).1 (sc_turns s 40 sc_q0).2.1 (sc_turns s 40 sc_q0).2.2.1 ∧ wCl s (sc_turns s 40 sc_q0).2.1 :=
  sc_turns_ok hs 40 sc_q0 0 (by decide) wCls_0 (Or.inr ⟨rfl, by show (0 : Int) ≤ wCnt (fun _ => 0); decide⟩)
theorem sc_wed {s : Int → Int} (hs : mp_sky s) {l : Int} (hl : 0 ≤ l ∧ l ≤ 4) : (if (sc_turns s 40 sc_q0).1 l = 9 then -4 else (sc_turns s 40 sc_q0).1 l) = sp_wed s l := by
  obtain ⟨h1, h2⟩ := sc_match hs
  refine wAnswer hs hl h1.1 h2 ?_
  rcases h1.2.2.2 l hl.1 hl.2 with h | h
  · exact Or.inl h
  · exact Or.inr ⟨h.1.1, h.2⟩
theorem wNe {s : Int → Int} {wd ak ke : Int → Int} {l k : Int} (h : wCls s wd ak ke) (hl : 0 ≤ l ∧ l ≤ 4) : (0 ≤ k ∧ wd l = 9) → ke k ≠ l := by
  rintro ⟨hk, h9⟩ e
  have hf : wFree s ak l := by
    rcases h.2.2.2 l hl.1 hl.2 with g | g
    · exact g.2
    · omega
  have g := h.1.2.2.1 k hk
  dsimp only at g
  rw [if_neg (by omega)] at g
  rcases g with ⟨g, -⟩ | g
  · omega
  · rw [e] at g; exact hf k hk g
theorem lX11_dearestNotAsked_8 {s si sp : Int → Int} {f fi fp : Nat → Option Nat} {im : Int} {hd : Int → Int} {kn : Nat → Option Nat} {wd ak ke cv vo so sz el : Int → Int} {A B : mp_H}  {l : Int} (hA : A.length = 1) (hs : mp_sky s) (hMt : mp_Mt (A ++ (mp_cs s si sp f fi fp im hd kn wd ak ke cv vo so sz el ++ B)) s f) (hak : mp_aok ak) (h_l : 0 ≤ l ∧ l ≤ 4) {R9 : mp_An} : ∀ (n : Nat) (t : Int) (u : Int) (z : Int), ((0 ≤ t ∧ t + (n : Nat) = 8) ∧ ((u = -4 ∧ z = -1) ∨ ((0 ≤ u ∧ u ≤ 7) ∧ z = sp_heat (s (1 + 6 * u + 0)) (s (1 + 6 * u + 1)))) ∧ (-1 ≤ z ∧ z ≤ 18)) → mp_At (mX11_dearestNotAsked, 3, 0, 0) (0, 0) 82 [some (Value.ref 1), some (mp_i l), some (mp_i (if mp_fold (fun k b => if k < s 0 then (sp_askStep s ak l) k b else b) n t u < 0 then 9 else mp_fold (fun k b => if k < s 0 then (sp_askStep s ak l) k b else b) n t u)), none, none, none] [] (A ++ (mp_cs s si sp f fi fp im hd kn wd ak ke cv vo so sz el ++ B)) R9 → mp_At (mX11_dearestNotAsked, 3, 0, 0) (0, 0) 8 [some (Value.ref 1), some (mp_i l), some (mp_i (if u < 0 then 9 else u)), some (mp_i z), some (mp_i t), none] [] (A ++ (mp_cs s si sp f fi fp im hd kn wd ak ke cv vo so sz el ++ B)) R9 := by
  intro n
  induction n with
  | zero =>
    intro t u z hi hk
    have hz0 := hs.1
    refine mp_iload dX11_dearestNotAsked_8 rfl ?_
    refine mp_bipush dX11_dearestNotAsked_10 rfl ?_
    refine mp_icmp_ge (tgt := 82) dX11_dearestNotAsked_12 rfl ⟨by omega, by omega⟩ ⟨by omega, by omega⟩ (fun h1 => ?_) (fun h1 => ?_)
    · refine mp_drop (L' := [some (Value.ref 1), some (mp_i l), some (mp_i (if u < 0 then 9 else u)), none, none, none]) [true, true, true, false, false, false] rfl ?_
      exact hk
    · exfalso; omega
  | succ n ih =>
    intro t u z hi hk
    have hz0 := hs.1
    have hal := hak l h_l.1 h_l.2
    have hbb := mp_b_bd (ak l) t
    have hyb := mp_yesOf_bd s l t
    refine mp_iload dX11_dearestNotAsked_8 rfl ?_
    refine mp_bipush dX11_dearestNotAsked_10 rfl ?_
    refine mp_icmp_ge (tgt := 82) dX11_dearestNotAsked_12 rfl ⟨by omega, by omega⟩ ⟨by omega, by omega⟩ (fun h1 => ?_) (fun h1 => ?_)
    · exfalso; omega
    · refine mp_aload_n dX11_dearestNotAsked_15 rfl ?_
      refine mp_getfield dX11_dearestNotAsked_16 fsX11_10_10 (mp_lkP hA 0 rfl) rfl ?_
      refine mp_iload dX11_dearestNotAsked_19 rfl ?_
      by_cases hm2 : 0 ≤ t ∧ t < s 0
      · obtain ⟨a2, hf2, hc2⟩ := (mp_Sk.of (σ := A ++ (mp_cs s si sp f fi fp im hd kn wd ak ke cv vo so sz el ++ B)) (mp_skC2 hA) hMt).2.2.2.2.2.2 t hm2.1 hm2.2
        have ht2 := hs.2.1 t hm2.1 hm2.2
        have hl2 := mp_lasts_bd (kind := (s (1 + 6 * t + 0))) (f := (s (1 + 6 * t + 1))) (by omega)
        have hr2 := mp_bright_bd (kind := (s (1 + 6 * t + 0))) (f := (s (1 + 6 * t + 1))) (by omega)
        refine mp_invV (z := (mX6_at, 0, 0, 0)) (K' := (0, 0)) (σ1 := A ++ (mp_cs s si sp f fi fp im hd kn wd ak ke cv vo so sz el ++ B)) (as := [mp_i t]) (st := []) (st1 := [Value.ref a2]) dX11_dearestNotAsked_21 svX11_93 (mp_Sk.of (σ := A ++ (mp_cs s si sp f fi fp im hd kn wd ak ke cv vo so sz el ++ B)) (mp_skC2 hA) hMt).1 rfl rfl (zX6_at (p := 2) (m := t) (a := a2) (s := s) (f := f) (mp_Sk.of (σ := A ++ (mp_cs s si sp f fi fp im hd kn wd ak ke cv vo so sz el ++ B)) (mp_skC2 hA) hMt) hm2 (by omega) hf2) ⟨Nat.le_of_ble_eq_true rfl, Nat.le_of_ble_eq_true rfl, Nat.le_of_ble_eq_true rfl, Nat.le_of_ble_eq_true rfl, Nat.le_of_ble_eq_true rfl⟩ rfl rfl rfl rfl ?_
        refine mp_astore (L' := [some (Value.ref 1), some (mp_i l), some (mp_i (if u < 0 then 9 else u)), some (mp_i z), some (mp_i t), some (Value.ref a2)]) dX11_dearestNotAsked_24 (by decide) rfl ?_
        refine mp_aload dX11_dearestNotAsked_26 rfl ?_
        refine mp_ifnull_r dX11_dearestNotAsked_28 ?_
        refine mp_aload_n dX11_dearestNotAsked_31 rfl ?_
        refine mp_getfield dX11_dearestNotAsked_32 fsX11_41_10 (mp_lkP hA 0 rfl) rfl ?_
        refine mp_iload_n dX11_dearestNotAsked_35 rfl ?_
        refine mp_iald dX11_dearestNotAsked_36 (mp_lkP hA 23 rfl) ⟨by omega, by omega⟩ (by omega) ?_
        refine mp_iload dX11_dearestNotAsked_37 rfl ?_
        refine mp_invS (z := (mX11_hasBit, 0, 0, 0)) (K' := (0, 0)) (σ1 := A ++ (mp_cs s si sp f fi fp im hd kn wd ak ke cv vo so sz el ++ B)) (as := [mp_i (ak l), mp_i t]) (st := []) (st1 := [mp_i (if sp_b (ak l) t ≠ 0 then 1 else 0)]) dX11_dearestNotAsked_39 ssX11_228 (zX11_hasBit (v := (ak l)) (k := t) (by first | with_reducible assumption | omega) (by first | with_reducible assumption | omega)) ⟨Nat.le_of_ble_eq_true rfl, Nat.le_of_ble_eq_true rfl, Nat.le_of_ble_eq_true rfl, Nat.le_of_ble_eq_true rfl, Nat.le_of_ble_eq_true rfl⟩ rfl rfl rfl rfl ?_
        refine mp_ifb_ne (tgt := 76) dX11_dearestNotAsked_42 rfl (fun h3 => ?_) (fun h3 => ?_)
        · refine mp_iinc (z := t + 1) (L' := [some (Value.ref 1), some (mp_i l), some (mp_i (if u < 0 then 9 else u)), some (mp_i z), some (mp_i (t + 1)), some (Value.ref a2)]) dX11_dearestNotAsked_76 rfl (rfl) (by decide) rfl ?_
          refine mp_goto (tgt := 8) dX11_dearestNotAsked_79 rfl ?_
          refine mp_drop (L' := [some (Value.ref 1), some (mp_i l), some (mp_i (if u < 0 then 9 else u)), some (mp_i z), some (mp_i (t + 1)), none]) [true, true, true, true, true, false] rfl ?_
          have e9 : (fun k b => if k < s 0 then (sp_askStep s ak l) k b else b) t u = u := (if_pos (by omega)).trans (by unfold sp_askStep; first | (rw [if_pos (by omega)]; done) | (rw [if_neg (by omega), if_neg (by omega)]; done) | (rw [if_neg (by omega), if_pos (by omega)]; done) | (split <;> first | rfl | (rw [if_neg (by omega)]; done)))
          have k9 := ih (t + 1) ((fun k b => if k < s 0 then (sp_askStep s ak l) k b else b) t u) z (by rw [e9]; omega) hk
          rw [e9] at k9
          exact k9
        · refine mp_aload dX11_dearestNotAsked_45 rfl ?_
          refine mp_inv8 (kd := (s (1 + 6 * t + 0))) (σ1 := A ++ (mp_cs s si sp f fi fp im hd kn wd ak ke cv vo so sz el ++ B)) (as := []) (st := []) (st1 := [mp_i (sp_heat (s (1 + 6 * t + 0)) (s (1 + 6 * t + 1)))]) dX11_dearestNotAsked_47 (by omega) s8X11_124 hc2 (fa_heat (a := a2) (kd := (s (1 + 6 * t + 0))) (f := (s (1 + 6 * t + 1))) (co := (s (1 + 6 * t + 2))) (sl := (s (1 + 6 * t + 3))) (ni := (s (1 + 6 * t + 4))) (la := (sp_lasts (s (1 + 6 * t + 0)) (s (1 + 6 * t + 1)))) (br := (sp_bright (s (1 + 6 * t + 0)) (s (1 + 6 * t + 1)))) hc2 (by first | with_reducible assumption | omega) (by first | with_reducible assumption | omega)) (Nat.le_of_ble_eq_true rfl) ⟨Nat.le_of_ble_eq_true rfl, Nat.le_of_ble_eq_true rfl⟩ (Nat.le_of_ble_eq_true rfl) rfl rfl rfl ?_
          have b4 := @mp_heat_bd (s (1 + 6 * t + 0)) (s (1 + 6 * t + 1)) (by omega)
          refine mp_iload_n dX11_dearestNotAsked_50 rfl ?_
          refine mp_icmp_le (tgt := 76) dX11_dearestNotAsked_51 rfl ⟨by omega, by omega⟩ ⟨by omega, by omega⟩ (fun h5 => ?_) (fun h5 => ?_)
          · refine mp_iinc (z := t + 1) (L' := [some (Value.ref 1), some (mp_i l), some (mp_i (if u < 0 then 9 else u)), some (mp_i z), some (mp_i (t + 1)), some (Value.ref a2)]) dX11_dearestNotAsked_76 rfl (rfl) (by decide) rfl ?_
            refine mp_goto (tgt := 8) dX11_dearestNotAsked_79 rfl ?_
            refine mp_drop (L' := [some (Value.ref 1), some (mp_i l), some (mp_i (if u < 0 then 9 else u)), some (mp_i z), some (mp_i (t + 1)), none]) [true, true, true, true, true, false] rfl ?_
            have e9 : (fun k b => if k < s 0 then (sp_askStep s ak l) k b else b) t u = u := (if_pos (by omega)).trans (by unfold sp_askStep; first | (rw [if_pos (by omega)]; done) | (rw [if_neg (by omega), if_neg (by omega)]; done) | (rw [if_neg (by omega), if_pos (by omega)]; done) | (split <;> first | rfl | (rw [if_neg (by omega)]; done)))
            have k9 := ih (t + 1) ((fun k b => if k < s 0 then (sp_askStep s ak l) k b else b) t u) z (by rw [e9]; omega) hk
            rw [e9] at k9
            exact k9
          · refine mp_aload_n dX11_dearestNotAsked_54 rfl ?_
            refine mp_getfield dX11_dearestNotAsked_55 fsX11_10_10 (mp_lkP hA 0 rfl) rfl ?_
            refine mp_iload_n dX11_dearestNotAsked_58 rfl ?_
            refine mp_aload dX11_dearestNotAsked_59 rfl ?_
            refine mp_invV (z := (mX6_yesStep, 2, 0, 0)) (K' := (0, 0)) (σ1 := A ++ (mp_cs s si sp f fi fp im hd kn wd ak ke cv vo so sz el ++ B)) (as := [mp_i l, Value.ref a2]) (st := []) (st1 := [mp_i (sp_yesOf s l t)]) dX11_dearestNotAsked_61 svX11_172 (mp_lkP hA 1 rfl) rfl rfl (zX6_yesStep (p := 2) (l := l) (a := a2) (s := s) (f := f) (k := t) (mp_Sk.of (σ := A ++ (mp_cs s si sp f fi fp im hd kn wd ak ke cv vo so sz el ++ B)) (mp_skC2 hA) hMt) hs (by first | with_reducible assumption | omega) (by first | with_reducible assumption | omega) (by first | with_reducible assumption | omega)) ⟨Nat.le_of_ble_eq_true rfl, Nat.le_of_ble_eq_true rfl, Nat.le_of_ble_eq_true rfl, Nat.le_of_ble_eq_true rfl, Nat.le_of_ble_eq_true rfl⟩ rfl rfl rfl rfl ?_
            refine mp_if_lt (tgt := 76) dX11_dearestNotAsked_64 rfl ⟨by omega, by omega⟩ (fun h6 => ?_) (fun h6 => ?_)
            · refine mp_iinc (z := t + 1) (L' := [some (Value.ref 1), some (mp_i l), some (mp_i (if u < 0 then 9 else u)), some (mp_i z), some (mp_i (t + 1)), some (Value.ref a2)]) dX11_dearestNotAsked_76 rfl (rfl) (by decide) rfl ?_
              refine mp_goto (tgt := 8) dX11_dearestNotAsked_79 rfl ?_
              refine mp_drop (L' := [some (Value.ref 1), some (mp_i l), some (mp_i (if u < 0 then 9 else u)), some (mp_i z), some (mp_i (t + 1)), none]) [true, true, true, true, true, false] rfl ?_
              have e9 : (fun k b => if k < s 0 then (sp_askStep s ak l) k b else b) t u = u := (if_pos (by omega)).trans (by unfold sp_askStep; first | (rw [if_pos (by omega)]; done) | (rw [if_neg (by omega), if_neg (by omega)]; done) | (rw [if_neg (by omega), if_pos (by omega)]; done) | (split <;> first | rfl | (rw [if_neg (by omega)]; done)))
              have k9 := ih (t + 1) ((fun k b => if k < s 0 then (sp_askStep s ak l) k b else b) t u) z (by rw [e9]; omega) hk
              rw [e9] at k9
              exact k9
            · refine mp_iload dX11_dearestNotAsked_67 rfl ?_
              refine mp_istore_n (L' := [some (Value.ref 1), some (mp_i l), some (mp_i t), some (mp_i z), some (mp_i t), some (Value.ref a2)]) dX11_dearestNotAsked_69 rfl (by decide) rfl ?_
              refine mp_aload dX11_dearestNotAsked_70 rfl ?_
              refine mp_inv8 (kd := (s (1 + 6 * t + 0))) (σ1 := A ++ (mp_cs s si sp f fi fp im hd kn wd ak ke cv vo so sz el ++ B)) (as := []) (st := []) (st1 := [mp_i (sp_heat (s (1 + 6 * t + 0)) (s (1 + 6 * t + 1)))]) dX11_dearestNotAsked_72 (by omega) s8X11_124 hc2 (fa_heat (a := a2) (kd := (s (1 + 6 * t + 0))) (f := (s (1 + 6 * t + 1))) (co := (s (1 + 6 * t + 2))) (sl := (s (1 + 6 * t + 3))) (ni := (s (1 + 6 * t + 4))) (la := (sp_lasts (s (1 + 6 * t + 0)) (s (1 + 6 * t + 1)))) (br := (sp_bright (s (1 + 6 * t + 0)) (s (1 + 6 * t + 1)))) hc2 (by first | with_reducible assumption | omega) (by first | with_reducible assumption | omega)) (Nat.le_of_ble_eq_true rfl) ⟨Nat.le_of_ble_eq_true rfl, Nat.le_of_ble_eq_true rfl⟩ (Nat.le_of_ble_eq_true rfl) rfl rfl rfl ?_
              have b7 := @mp_heat_bd (s (1 + 6 * t + 0)) (s (1 + 6 * t + 1)) (by omega)
              refine mp_istore_n (L' := [some (Value.ref 1), some (mp_i l), some (mp_i t), some (mp_i (sp_heat (s (1 + 6 * t + 0)) (s (1 + 6 * t + 1)))), some (mp_i t), some (Value.ref a2)]) dX11_dearestNotAsked_75 rfl (by decide) rfl ?_
              refine mp_iinc (z := t + 1) (L' := [some (Value.ref 1), some (mp_i l), some (mp_i t), some (mp_i (sp_heat (s (1 + 6 * t + 0)) (s (1 + 6 * t + 1)))), some (mp_i (t + 1)), some (Value.ref a2)]) dX11_dearestNotAsked_76 rfl (rfl) (by decide) rfl ?_
              refine mp_goto (tgt := 8) dX11_dearestNotAsked_79 rfl ?_
              refine mp_drop (L' := [some (Value.ref 1), some (mp_i l), some (mp_i t), some (mp_i (sp_heat (s (1 + 6 * t + 0)) (s (1 + 6 * t + 1)))), some (mp_i (t + 1)), none]) [true, true, true, true, true, false] rfl ?_
              have e9 : (fun k b => if k < s 0 then (sp_askStep s ak l) k b else b) t u = t := (if_pos (by omega)).trans (by unfold sp_askStep; first | (rw [if_pos (by omega)]; done) | (rw [if_neg (by omega), if_neg (by omega)]; done) | (rw [if_neg (by omega), if_pos (by omega)]; done) | (split <;> first | rfl | (rw [if_neg (by omega)]; done)))
              have k9 := ih (t + 1) ((fun k b => if k < s 0 then (sp_askStep s ak l) k b else b) t u) (sp_heat (s (1 + 6 * t + 0)) (s (1 + 6 * t + 1))) (by rw [e9]; omega) hk
              rw [e9] at k9
              rw [if_neg (by omega)] at k9
              exact k9
      · refine mp_invV (z := (mX6_at, 0, 0, 0)) (K' := (0, 0)) (σ1 := A ++ (mp_cs s si sp f fi fp im hd kn wd ak ke cv vo so sz el ++ B)) (as := [mp_i t]) (st := []) (st1 := [Value.null]) dX11_dearestNotAsked_21 svX11_93 (mp_Sk.of (σ := A ++ (mp_cs s si sp f fi fp im hd kn wd ak ke cv vo so sz el ++ B)) (mp_skC2 hA) hMt).1 rfl rfl (zX6_atN (p := 2) (m := t) (s := s) (f := f) (mp_Sk.of (σ := A ++ (mp_cs s si sp f fi fp im hd kn wd ak ke cv vo so sz el ++ B)) (mp_skC2 hA) hMt) hm2 (by omega) (by omega)) ⟨Nat.le_of_ble_eq_true rfl, Nat.le_of_ble_eq_true rfl, Nat.le_of_ble_eq_true rfl, Nat.le_of_ble_eq_true rfl, Nat.le_of_ble_eq_true rfl⟩ rfl rfl rfl rfl ?_
        refine mp_astoreN (L' := [some (Value.ref 1), some (mp_i l), some (mp_i (if u < 0 then 9 else u)), some (mp_i z), some (mp_i t), some (Value.null)]) dX11_dearestNotAsked_24 (by decide) rfl ?_
        refine mp_aloadN dX11_dearestNotAsked_26 rfl ?_
        refine mp_ifnull_n (tgt := 76) dX11_dearestNotAsked_28 rfl ?_
        refine mp_iinc (z := t + 1) (L' := [some (Value.ref 1), some (mp_i l), some (mp_i (if u < 0 then 9 else u)), some (mp_i z), some (mp_i (t + 1)), some (Value.null)]) dX11_dearestNotAsked_76 rfl (rfl) (by decide) rfl ?_
        refine mp_goto (tgt := 8) dX11_dearestNotAsked_79 rfl ?_
        refine mp_drop (L' := [some (Value.ref 1), some (mp_i l), some (mp_i (if u < 0 then 9 else u)), some (mp_i z), some (mp_i (t + 1)), none]) [true, true, true, true, true, false] rfl ?_
        have e9 : (fun k b => if k < s 0 then (sp_askStep s ak l) k b else b) t u = u := if_neg (by omega)
        have k9 := ih (t + 1) ((fun k b => if k < s 0 then (sp_askStep s ak l) k b else b) t u) z (by rw [e9]; omega) hk
        rw [e9] at k9
        exact k9
theorem zX11_dearestNotAsked {s si sp : Int → Int} {f fi fp : Nat → Option Nat} {im : Int} {hd : Int → Int} {kn : Nat → Option Nat} {wd ak ke cv vo so sz el : Int → Int} {A B : mp_H}  {l : Int} (hA : A.length = 1) (hs : mp_sky s) (hMt : mp_Mt (A ++ (mp_cs s si sp f fi fp im hd kn wd ak ke cv vo so sz el ++ B)) s f) (hak : mp_aok ak) (h_l : 0 ≤ l ∧ l ≤ 4) : mp_Call (mX11_dearestNotAsked, 3, 0, 0) [Value.ref 1, mp_i l] (A ++ (mp_cs s si sp f fi fp im hd kn wd ak ke cv vo so sz el ++ B)) (some (mp_i (if sp_next1 s ak l < 0 then 9 else sp_next1 s ak l)), A ++ (mp_cs s si sp f fi fp im hd kn wd ak ke cv vo so sz el ++ B)) := by
  refine mp_Call.of (L := [some (Value.ref 1), some (mp_i l), none, none, none, none]) pnX11 (Nat.le_of_ble_eq_true rfl) rfl ?_
  have hz0 := hs.1
  refine mp_bipush dX11_dearestNotAsked_0 rfl ?_
  refine mp_istore_n (L' := [some (Value.ref 1), some (mp_i l), some (mp_i 9), none, none, none]) dX11_dearestNotAsked_2 rfl (by decide) rfl ?_
  refine mp_iconst dX11_dearestNotAsked_3 ?_
  refine mp_istore_n (L' := [some (Value.ref 1), some (mp_i l), some (mp_i 9), some (mp_i (-1)), none, none]) dX11_dearestNotAsked_4 rfl (by decide) rfl ?_
  refine mp_iconst dX11_dearestNotAsked_5 ?_
  refine mp_istore (L' := [some (Value.ref 1), some (mp_i l), some (mp_i 9), some (mp_i (-1)), some (mp_i 0), none]) dX11_dearestNotAsked_6 (by decide) rfl ?_
  refine mp_loc (j := 2) (x := 9) (y := if (-4) < 0 then 9 else (-4)) (by first | rfl | decide | omega) rfl (L' := [some (Value.ref 1), some (mp_i l), some (mp_i (if (-4) < 0 then 9 else (-4))), some (mp_i (-1)), some (mp_i 0), none]) rfl ?_
  refine lX11_dearestNotAsked_8 (s := s) (si := si) (sp := sp) (f := f) (fi := fi) (fp := fp) (im := im) (hd := hd) (kn := kn) (wd := wd) (ak := ak) (ke := ke) (cv := cv) (vo := vo) (so := so) (sz := sz) (el := el) (B := B) (l := l)  (by first | with_reducible assumption | omega) (by first | with_reducible assumption | omega) (by first | with_reducible assumption | omega) (by first | with_reducible assumption | omega) (by first | with_reducible assumption | omega) 8 0 (-4) (-1) (by omega) ?_
  refine mp_loc (j := 2) (x := if mp_fold (fun k b => if k < s 0 then (sp_askStep s ak l) k b else b) 8 0 (-4) < 0 then 9 else mp_fold (fun k b => if k < s 0 then (sp_askStep s ak l) k b else b) 8 0 (-4)) (y := if sp_next1 s ak l < 0 then 9 else sp_next1 s ak l) (by rw [mp_fold_8 (F := (sp_askStep s ak l)) hs.1]; rfl) rfl (L' := [some (Value.ref 1), some (mp_i l), some (mp_i (if sp_next1 s ak l < 0 then 9 else sp_next1 s ak l)), none, none, none]) rfl ?_
  refine mp_iload_n dX11_dearestNotAsked_82 rfl ?_
  exact mp_ireturn (st := []) dX11_dearestNotAsked_83 rfl ⟨by decide, by decide⟩ ((mp_ans (by first | with_reducible rfl | omega | rfl)))
theorem zX11_wouldRather {s si sp : Int → Int} {f fi fp : Nat → Option Nat} {im : Int} {hd : Int → Int} {kn : Nat → Option Nat} {wd ak ke cv vo so sz el : Int → Int} {A B : mp_H}  {m : Int} {a : Int} {b : Int} (hA : A.length = 1) (hs : mp_sky s) (hMt : mp_Mt (A ++ (mp_cs s si sp f fi fp im hd kn wd ak ke cv vo so sz el ++ B)) s f) (h_m : 0 ≤ m ∧ m < s 0) (h_a : 0 ≤ a ∧ a ≤ 4) (h_b : 0 ≤ b ∧ b ≤ 4) (hab : a ≠ b) : mp_Call (mX11_wouldRather, 0, 0, 0) [Value.ref 1, mp_i m, mp_i a, mp_i b] (A ++ (mp_cs s si sp f fi fp im hd kn wd ak ke cv vo so sz el ++ B)) (some (mp_i (sp_rather s m a b)), A ++ (mp_cs s si sp f fi fp im hd kn wd ak ke cv vo so sz el ++ B)) := by
  refine mp_Call.of (L := [some (Value.ref 1), some (mp_i m), some (mp_i a), some (mp_i b), none]) pnX11 (Nat.le_of_ble_eq_true rfl) rfl ?_
  have hz0 := hs.1
  have ht0 := hs.2.1 m (by omega) (by omega)
  have hla := hs.2.2.1 a (by omega) (by omega)
  have hlb := hs.2.2.1 b (by omega) (by omega)
  refine mp_aload_n dX11_wouldRather_0 rfl ?_
  refine mp_getfield dX11_wouldRather_1 fsX11_10_10 (mp_lkP hA 0 rfl) rfl ?_
  refine mp_getfield dX11_wouldRather_4 fsX11_111_8 (mp_lkP hA 1 rfl) rfl ?_
  refine mp_iload_n dX11_wouldRather_7 rfl ?_
  refine mp_iald dX11_wouldRather_8 (mp_lkP hA 3 rfl) ⟨by omega, by omega⟩ (by omega) ?_
  refine mp_top (y := s (1 + 6 * m + 5)) (sp_isf_in ⟨by omega, by omega⟩) ?_
  refine mp_istore (L' := [some (Value.ref 1), some (mp_i m), some (mp_i a), some (mp_i b), some (mp_i (s (1 + 6 * m + 5)))]) dX11_wouldRather_9 (by decide) rfl ?_
  refine mp_iload dX11_wouldRather_11 rfl ?_
  refine mp_iload_n dX11_wouldRather_13 rfl ?_
  refine mp_icmp_eq (tgt := 23) dX11_wouldRather_14 rfl ⟨by omega, by omega⟩ ⟨by omega, by omega⟩ (fun h1 => ?_) (fun h1 => ?_)
  · refine mp_iload dX11_wouldRather_23 rfl ?_
    refine mp_iload_n dX11_wouldRather_25 rfl ?_
    refine mp_icmp_ne (tgt := 33) dX11_wouldRather_26 rfl ⟨by omega, by omega⟩ ⟨by omega, by omega⟩ (fun h2 => ?_) (fun h2 => ?_)
    · refine mp_iconst dX11_wouldRather_33 ?_
      exact mp_zreturn (st := []) dX11_wouldRather_34 rfl rfl ⟨by decide, by decide⟩ ((mp_ans (by unfold sp_rather; omega)))
    · refine mp_iconst dX11_wouldRather_29 ?_
      refine mp_goto (tgt := 34) dX11_wouldRather_30 rfl ?_
      exact mp_zreturn (st := []) dX11_wouldRather_34 rfl rfl ⟨by decide, by decide⟩ ((mp_ans (by unfold sp_rather; omega)))
  · refine mp_iload dX11_wouldRather_17 rfl ?_
    refine mp_iload_n dX11_wouldRather_19 rfl ?_
    refine mp_icmp_ne (tgt := 35) dX11_wouldRather_20 rfl ⟨by omega, by omega⟩ ⟨by omega, by omega⟩ (fun h3 => ?_) (fun h3 => ?_)
    · refine mp_aload_n dX11_wouldRather_35 rfl ?_
      refine mp_getfield dX11_wouldRather_36 fsX11_10_10 (mp_lkP hA 0 rfl) rfl ?_
      refine mp_getfield dX11_wouldRather_39 fsX11_130_8 (mp_lkP hA 1 rfl) rfl ?_
      refine mp_iload_n dX11_wouldRather_42 rfl ?_
      refine mp_iald dX11_wouldRather_43 (mp_lkP hA 5 rfl) ⟨by omega, by omega⟩ (by omega) ?_
      refine mp_top (y := s (49 + 3 * a + 1)) (sp_qui_in ⟨by omega, by omega⟩) ?_
      refine mp_aload_n dX11_wouldRather_44 rfl ?_
      refine mp_getfield dX11_wouldRather_45 fsX11_10_10 (mp_lkP hA 0 rfl) rfl ?_
      refine mp_getfield dX11_wouldRather_48 fsX11_130_8 (mp_lkP hA 1 rfl) rfl ?_
      refine mp_iload_n dX11_wouldRather_51 rfl ?_
      refine mp_iald dX11_wouldRather_52 (mp_lkP hA 5 rfl) ⟨by omega, by omega⟩ (by omega) ?_
      refine mp_top (y := s (49 + 3 * b + 1)) (sp_qui_in ⟨by omega, by omega⟩) ?_
      refine mp_icmp_eq (tgt := 83) dX11_wouldRather_53 rfl ⟨by omega, by omega⟩ ⟨by omega, by omega⟩ (fun h4 => ?_) (fun h4 => ?_)
      · refine mp_iload_n dX11_wouldRather_83 rfl ?_
        refine mp_iload_n dX11_wouldRather_84 rfl ?_
        refine mp_icmp_ge (tgt := 92) dX11_wouldRather_85 rfl ⟨by omega, by omega⟩ ⟨by omega, by omega⟩ (fun h5 => ?_) (fun h5 => ?_)
        · refine mp_iconst dX11_wouldRather_92 ?_
          exact mp_zreturn (st := []) dX11_wouldRather_93 rfl rfl ⟨by decide, by decide⟩ ((mp_ans (by unfold sp_rather; omega)))
        · refine mp_iconst dX11_wouldRather_88 ?_
          refine mp_goto (tgt := 93) dX11_wouldRather_89 rfl ?_
          exact mp_zreturn (st := []) dX11_wouldRather_93 rfl rfl ⟨by decide, by decide⟩ ((mp_ans (by unfold sp_rather; omega)))
      · refine mp_aload_n dX11_wouldRather_56 rfl ?_
        refine mp_getfield dX11_wouldRather_57 fsX11_10_10 (mp_lkP hA 0 rfl) rfl ?_
        refine mp_getfield dX11_wouldRather_60 fsX11_130_8 (mp_lkP hA 1 rfl) rfl ?_
        refine mp_iload_n dX11_wouldRather_63 rfl ?_
        refine mp_iald dX11_wouldRather_64 (mp_lkP hA 5 rfl) ⟨by omega, by omega⟩ (by omega) ?_
        refine mp_top (y := s (49 + 3 * a + 1)) (sp_qui_in ⟨by omega, by omega⟩) ?_
        refine mp_aload_n dX11_wouldRather_65 rfl ?_
        refine mp_getfield dX11_wouldRather_66 fsX11_10_10 (mp_lkP hA 0 rfl) rfl ?_
        refine mp_getfield dX11_wouldRather_69 fsX11_130_8 (mp_lkP hA 1 rfl) rfl ?_
        refine mp_iload_n dX11_wouldRather_72 rfl ?_
        refine mp_iald dX11_wouldRather_73 (mp_lkP hA 5 rfl) ⟨by omega, by omega⟩ (by omega) ?_
        refine mp_top (y := s (49 + 3 * b + 1)) (sp_qui_in ⟨by omega, by omega⟩) ?_
        refine mp_icmp_le (tgt := 81) dX11_wouldRather_74 rfl ⟨by omega, by omega⟩ ⟨by omega, by omega⟩ (fun h6 => ?_) (fun h6 => ?_)
        · refine mp_iconst dX11_wouldRather_81 ?_
          exact mp_zreturn (st := []) dX11_wouldRather_82 rfl rfl ⟨by decide, by decide⟩ ((mp_ans (by unfold sp_rather; omega)))
        · refine mp_iconst dX11_wouldRather_77 ?_
          refine mp_goto (tgt := 82) dX11_wouldRather_78 rfl ?_
          exact mp_zreturn (st := []) dX11_wouldRather_82 rfl rfl ⟨by decide, by decide⟩ ((mp_ans (by unfold sp_rather; omega)))
    · refine mp_iload dX11_wouldRather_23 rfl ?_
      refine mp_iload_n dX11_wouldRather_25 rfl ?_
      refine mp_icmp_ne (tgt := 33) dX11_wouldRather_26 rfl ⟨by omega, by omega⟩ ⟨by omega, by omega⟩ (fun h7 => ?_) (fun h7 => ?_)
      · refine mp_iconst dX11_wouldRather_33 ?_
        exact mp_zreturn (st := []) dX11_wouldRather_34 rfl rfl ⟨by decide, by decide⟩ ((mp_ans (by unfold sp_rather; omega)))
      · refine mp_iconst dX11_wouldRather_29 ?_
        refine mp_goto (tgt := 34) dX11_wouldRather_30 rfl ?_
        exact mp_zreturn (st := []) dX11_wouldRather_34 rfl rfl ⟨by decide, by decide⟩ ((mp_ans (by unfold sp_rather; omega)))
theorem zX11_asks {s si sp : Int → Int} {f fi fp : Nat → Option Nat} {im : Int} {hd : Int → Int} {kn : Nat → Option Nat} {wd ak ke cv vo so sz el : Int → Int} {A B : mp_H}  {l : Int} {m : Int} (hA : A.length = 1) (hs : mp_sky s) (hMt : mp_Mt (A ++ (mp_cs s si sp f fi fp im hd kn wd ak ke cv vo so sz el ++ B)) s f) (hak : mp_aok ak) (h_l : 0 ≤ l ∧ l ≤ 4) (h_m : 0 ≤ m ∧ m < s 0) (hke : ke m = 9 ∨ (0 ≤ ke m ∧ ke m ≤ 4)) (hne : ke m ≠ l) : mp_Call (mX11_asks, 1, 0, 0) [Value.ref 1, mp_i l, mp_i m] (A ++ (mp_cs s si sp f fi fp im hd kn wd ak ke cv vo so sz el ++ B)) (none, A ++ (mp_cs s si sp f fi fp im hd kn (sc_askWd s wd ke l m) (wAdd ak l m) (sc_askKe s ke l m) cv vo so sz el ++ B)) := by
  refine mp_Call.of (L := [some (Value.ref 1), some (mp_i l), some (mp_i m), none]) pnX11 (Nat.le_of_ble_eq_true rfl) rfl ?_
  have hz0 := hs.1
  have hal := hak l h_l.1 h_l.2
  have hra : sp_rather s m l (ke m) = 0 ∨ sp_rather s m l (ke m) = 1 := by unfold sp_rather; omega
  have hbt := mp_bit_nn m
  refine mp_aload_n dX11_asks_0 rfl ?_
  refine mp_getfield dX11_asks_1 fsX11_41_10 (mp_lkP hA 0 rfl) rfl ?_
  refine mp_iload_n dX11_asks_4 rfl ?_
  refine mp_dup2 dX11_asks_5 rfl rfl ?_
  refine mp_iald dX11_asks_6 (mp_lkP hA 23 rfl) ⟨by omega, by omega⟩ (by omega) ?_
  refine mp_iconst dX11_asks_7 ?_
  refine mp_iload_n dX11_asks_8 rfl ?_
  refine mp_ishl (z := mp_bit m) dX11_asks_9 (mp_z_bit ⟨by omega, by omega⟩) ?_
  refine mp_ior (z := mp_or (ak l) (mp_bit m)) dX11_asks_10 (mp_z_or (by first | omega | exact mp_bit_nn _ | exact mp_or_nn _ _ | exact mp_and_nn _ _ | exact mp_shr_nn _ _) (by first | omega | exact mp_bit_nn _ | exact mp_or_nn _ _ | exact mp_and_nn _ _ | exact mp_shr_nn _ _)) ?_
  refine mp_iast (σ' := A ++ (mp_cs s si sp f fi fp im hd kn wd (mp_ud ak l (mp_or (ak l) (mp_bit m))) ke cv vo so sz el ++ B)) dX11_asks_11 (mp_lkP hA 23 rfl) (by decide) ⟨by omega, by omega⟩ (by decide) (mp_stP (Ms' := mp_cs s si sp f fi fp im hd kn wd (mp_ud ak l (mp_or (ak l) (mp_bit m))) ke cv vo so sz el) hA 23 (Nat.le_of_ble_eq_true rfl) rfl) ?_
  refine mp_aload_n dX11_asks_12 rfl ?_
  refine mp_getfield dX11_asks_13 fsX11_44_10 (mp_lkP hA 0 rfl) rfl ?_
  refine mp_iload_n dX11_asks_16 rfl ?_
  refine mp_iald dX11_asks_17 (mp_lkP hA 24 rfl) ⟨by omega, by omega⟩ (by omega) ?_
  refine mp_istore_n (L' := [some (Value.ref 1), some (mp_i l), some (mp_i m), some (mp_i (ke m))]) dX11_asks_18 rfl (by decide) rfl ?_
  refine mp_iload_n dX11_asks_19 rfl ?_
  refine mp_iconst dX11_asks_20 ?_
  refine mp_invS (z := (mX11_isBelow, 0, 0, 0)) (K' := (0, 0)) (σ1 := A ++ (mp_cs s si sp f fi fp im hd kn wd (mp_ud ak l (mp_or (ak l) (mp_bit m))) ke cv vo so sz el ++ B)) (as := [mp_i (ke m), mp_i 5]) (st := []) (st1 := [mp_i (if 0 ≤ (ke m) ∧ (ke m) < 5 then 1 else 0)]) dX11_asks_21 ssX11_54 (zX11_isBelow (v := (ke m)) (n := 5) (by first | with_reducible assumption | omega) (by first | with_reducible assumption | omega)) ⟨Nat.le_of_ble_eq_true rfl, Nat.le_of_ble_eq_true rfl, Nat.le_of_ble_eq_true rfl, Nat.le_of_ble_eq_true rfl, Nat.le_of_ble_eq_true rfl⟩ rfl rfl rfl rfl ?_
  refine mp_ifb_ne (tgt := 44) dX11_asks_24 rfl (fun h1 => ?_) (fun h1 => ?_)
  · refine mp_aload_n dX11_asks_44 rfl ?_
    refine mp_iload_n dX11_asks_45 rfl ?_
    refine mp_iload_n dX11_asks_46 rfl ?_
    refine mp_iload_n dX11_asks_47 rfl ?_
    refine mp_invV (z := (mX11_wouldRather, 0, 0, 0)) (K' := (0, 0)) (σ1 := A ++ (mp_cs s si sp f fi fp im hd kn wd (mp_ud ak l (mp_or (ak l) (mp_bit m))) ke cv vo so sz el ++ B)) (as := [mp_i m, mp_i l, mp_i (ke m)]) (st := []) (st1 := [mp_i (sp_rather s m l (ke m))]) dX11_asks_48 svX11_231 (mp_lkP hA 0 rfl) rfl rfl (zX11_wouldRather (m := m) (a := l) (b := (ke m)) (s := s) (si := si) (sp := sp) (f := f) (fi := fi) (fp := fp) (im := im) (hd := hd) (kn := kn) (wd := wd) (ak := (mp_ud ak l (mp_or (ak l) (mp_bit m)))) (ke := ke) (cv := cv) (vo := vo) (so := so) (sz := sz) (el := el) (B := B) (by first | with_reducible assumption | omega) (by first | with_reducible assumption | omega) (hMt.mono hs.kd mp_stay_cs) (by first | with_reducible assumption | omega) (by first | with_reducible assumption | omega) (by first | with_reducible assumption | omega) (by first | with_reducible assumption | omega)) ⟨Nat.le_of_ble_eq_true rfl, Nat.le_of_ble_eq_true rfl, Nat.le_of_ble_eq_true rfl, Nat.le_of_ble_eq_true rfl, Nat.le_of_ble_eq_true rfl⟩ rfl rfl rfl rfl ?_
    refine mp_if_eq (tgt := 76) dX11_asks_51 rfl ⟨by omega, by omega⟩ (fun h2 => ?_) (fun h2 => ?_)
    · exact mp_vreturn (st := []) dX11_asks_76 rfl ⟨by decide, by decide⟩ (by rw [show sc_askWd s wd ke l m = wd from by unfold sc_askWd; first | (rw [if_pos (by omega)]; done) | (rw [if_neg (by omega), if_pos (by omega)]; done) | (rw [if_neg (by omega), if_neg (by omega)]; done), show sc_askKe s ke l m = ke from by unfold sc_askKe; first | (rw [if_pos (by omega)]; done) | (rw [if_neg (by omega)]; done)])
    · refine mp_aload_n dX11_asks_54 rfl ?_
      refine mp_getfield dX11_asks_55 fsX11_44_10 (mp_lkP hA 0 rfl) rfl ?_
      refine mp_iload_n dX11_asks_58 rfl ?_
      refine mp_iload_n dX11_asks_59 rfl ?_
      refine mp_iast (σ' := A ++ (mp_cs s si sp f fi fp im hd kn wd (mp_ud ak l (mp_or (ak l) (mp_bit m))) (mp_ud ke m l) cv vo so sz el ++ B)) dX11_asks_60 (mp_lkP hA 24 rfl) (by decide) ⟨by omega, by omega⟩ (by decide) (mp_stP (Ms' := mp_cs s si sp f fi fp im hd kn wd (mp_ud ak l (mp_or (ak l) (mp_bit m))) (mp_ud ke m l) cv vo so sz el) hA 24 (Nat.le_of_ble_eq_true rfl) rfl) ?_
      refine mp_aload_n dX11_asks_61 rfl ?_
      refine mp_getfield dX11_asks_62 fsX11_38_10 (mp_lkP hA 0 rfl) rfl ?_
      refine mp_iload_n dX11_asks_65 rfl ?_
      refine mp_iload_n dX11_asks_66 rfl ?_
      refine mp_iast (σ' := A ++ (mp_cs s si sp f fi fp im hd kn (mp_ud wd l m) (mp_ud ak l (mp_or (ak l) (mp_bit m))) (mp_ud ke m l) cv vo so sz el ++ B)) dX11_asks_67 (mp_lkP hA 22 rfl) (by decide) ⟨by omega, by omega⟩ (by decide) (mp_stP (Ms' := mp_cs s si sp f fi fp im hd kn (mp_ud wd l m) (mp_ud ak l (mp_or (ak l) (mp_bit m))) (mp_ud ke m l) cv vo so sz el) hA 22 (Nat.le_of_ble_eq_true rfl) rfl) ?_
      refine mp_aload_n dX11_asks_68 rfl ?_
      refine mp_getfield dX11_asks_69 fsX11_38_10 (mp_lkP hA 0 rfl) rfl ?_
      refine mp_iload_n dX11_asks_72 rfl ?_
      refine mp_bipush dX11_asks_73 rfl ?_
      refine mp_iast (σ' := A ++ (mp_cs s si sp f fi fp im hd kn (mp_ud (mp_ud wd l m) (ke m) 9) (mp_ud ak l (mp_or (ak l) (mp_bit m))) (mp_ud ke m l) cv vo so sz el ++ B)) dX11_asks_75 (mp_lkP hA 22 rfl) (by decide) ⟨by omega, by omega⟩ (by decide) (mp_stP (Ms' := mp_cs s si sp f fi fp im hd kn (mp_ud (mp_ud wd l m) (ke m) 9) (mp_ud ak l (mp_or (ak l) (mp_bit m))) (mp_ud ke m l) cv vo so sz el) hA 22 (Nat.le_of_ble_eq_true rfl) rfl) ?_
      exact mp_vreturn (st := []) dX11_asks_76 rfl ⟨by decide, by decide⟩ (by rw [show sc_askWd s wd ke l m = mp_ud (mp_ud wd l m) (ke m) 9 from by unfold sc_askWd; first | (rw [if_pos (by omega)]; done) | (rw [if_neg (by omega), if_pos (by omega)]; done) | (rw [if_neg (by omega), if_neg (by omega)]; done), show sc_askKe s ke l m = mp_ud ke m l from by unfold sc_askKe; first | (rw [if_pos (by omega)]; done) | (rw [if_neg (by omega)]; done)])
  · refine mp_aload_n dX11_asks_27 rfl ?_
    refine mp_getfield dX11_asks_28 fsX11_44_10 (mp_lkP hA 0 rfl) rfl ?_
    refine mp_iload_n dX11_asks_31 rfl ?_
    refine mp_iload_n dX11_asks_32 rfl ?_
    refine mp_iast (σ' := A ++ (mp_cs s si sp f fi fp im hd kn wd (mp_ud ak l (mp_or (ak l) (mp_bit m))) (mp_ud ke m l) cv vo so sz el ++ B)) dX11_asks_33 (mp_lkP hA 24 rfl) (by decide) ⟨by omega, by omega⟩ (by decide) (mp_stP (Ms' := mp_cs s si sp f fi fp im hd kn wd (mp_ud ak l (mp_or (ak l) (mp_bit m))) (mp_ud ke m l) cv vo so sz el) hA 24 (Nat.le_of_ble_eq_true rfl) rfl) ?_
    refine mp_aload_n dX11_asks_34 rfl ?_
    refine mp_getfield dX11_asks_35 fsX11_38_10 (mp_lkP hA 0 rfl) rfl ?_
    refine mp_iload_n dX11_asks_38 rfl ?_
    refine mp_iload_n dX11_asks_39 rfl ?_
    refine mp_iast (σ' := A ++ (mp_cs s si sp f fi fp im hd kn (mp_ud wd l m) (mp_ud ak l (mp_or (ak l) (mp_bit m))) (mp_ud ke m l) cv vo so sz el ++ B)) dX11_asks_40 (mp_lkP hA 22 rfl) (by decide) ⟨by omega, by omega⟩ (by decide) (mp_stP (Ms' := mp_cs s si sp f fi fp im hd kn (mp_ud wd l m) (mp_ud ak l (mp_or (ak l) (mp_bit m))) (mp_ud ke m l) cv vo so sz el) hA 22 (Nat.le_of_ble_eq_true rfl) rfl) ?_
    refine mp_goto (tgt := 76) dX11_asks_41 rfl ?_
    exact mp_vreturn (st := []) dX11_asks_76 rfl ⟨by decide, by decide⟩ (by rw [show sc_askWd s wd ke l m = mp_ud wd l m from by unfold sc_askWd; first | (rw [if_pos (by omega)]; done) | (rw [if_neg (by omega), if_pos (by omega)]; done) | (rw [if_neg (by omega), if_neg (by omega)]; done), show sc_askKe s ke l m = mp_ud ke m l from by unfold sc_askKe; first | (rw [if_pos (by omega)]; done) | (rw [if_neg (by omega)]; done)])
theorem lX11_matchAll_44 {s si sp : Int → Int} {f fi fp : Nat → Option Nat} {im : Int} {hd : Int → Int} {kn : Nat → Option Nat} {wd ak ke cv vo so sz el : Int → Int} {A B : mp_H}  (hA : A.length = 1) (hs : mp_sky s) (hMt : mp_Mt (A ++ (mp_cs s si sp f fi fp im hd kn wd ak ke cv vo so sz el ++ B)) s f) {R9 : mp_An} : ∀ (n : Nat) (p : sc_Q) (t : Int) (l : Int), ((0 ≤ l ∧ l + (n : Nat) = 5) ∧ wCls s p.1 p.2.1 p.2.2.1 ∧ (p.2.2.2 = 0 ∨ p.2.2.2 = 1)) → mp_At (mX11_matchAll, 4, 0, 0) (0, 0) 97 [some (Value.ref 1), some (mp_i ((mp_fold (sc_one s) n l p).2.2.2)), some (mp_i t), none, none] [] (A ++ (mp_cs s si sp f fi fp im hd kn ((mp_fold (sc_one s) n l p).1) ((mp_fold (sc_one s) n l p).2.1) ((mp_fold (sc_one s) n l p).2.2.1) cv vo so sz el ++ B)) R9 → mp_At (mX11_matchAll, 4, 0, 0) (0, 0) 44 [some (Value.ref 1), some (mp_i p.2.2.2), some (mp_i t), some (mp_i l), none] [] (A ++ (mp_cs s si sp f fi fp im hd kn p.1 p.2.1 p.2.2.1 cv vo so sz el ++ B)) R9 := by
  intro n
  induction n with
  | zero =>
    intro p t l hi hk
    have hz0 := hs.1
    refine mp_iload_n dX11_matchAll_44 rfl ?_
    refine mp_iconst dX11_matchAll_45 ?_
    refine mp_icmp_ge (tgt := 97) dX11_matchAll_46 rfl ⟨by omega, by omega⟩ ⟨by omega, by omega⟩ (fun h1 => ?_) (fun h1 => ?_)
    · refine mp_drop (L' := [some (Value.ref 1), some (mp_i p.2.2.2), some (mp_i t), none, none]) [true, true, true, false, false] rfl ?_
      exact hk
    · exfalso; omega
  | succ n ih =>
    intro p t l hi hk
    have hz0 := hs.1
    have hwl := hi.2.1.2.2.2 l (by omega) (by omega)
    have hnx := mp_next1_bd hs p.2.1 l
    have hkn : 0 ≤ sp_next1 s p.2.1 l → (p.2.2.1 (sp_next1 s p.2.1 l) = 9 ∨ (0 ≤ p.2.2.1 (sp_next1 s p.2.1 l) ∧ p.2.2.1 (sp_next1 s p.2.1 l) ≤ 4)) := fun h => hi.2.1.2.2.1 _ h
    have hne9 : (0 ≤ sp_next1 s p.2.1 l ∧ p.1 l = 9) → p.2.2.1 (sp_next1 s p.2.1 l) ≠ l := wNe hi.2.1 (by omega)
    refine mp_iload_n dX11_matchAll_44 rfl ?_
    refine mp_iconst dX11_matchAll_45 ?_
    refine mp_icmp_ge (tgt := 97) dX11_matchAll_46 rfl ⟨by omega, by omega⟩ ⟨by omega, by omega⟩ (fun h1 => ?_) (fun h1 => ?_)
    · exfalso; omega
    · refine mp_aload_n dX11_matchAll_49 rfl ?_
      refine mp_getfield dX11_matchAll_50 fsX11_38_10 (mp_lkP hA 0 rfl) rfl ?_
      refine mp_iload_n dX11_matchAll_53 rfl ?_
      refine mp_iald dX11_matchAll_54 (mp_lkP hA 22 rfl) ⟨by omega, by omega⟩ (by omega) ?_
      refine mp_bipush dX11_matchAll_55 rfl ?_
      refine mp_icmp_ne (tgt := 68) dX11_matchAll_57 rfl ⟨by omega, by omega⟩ ⟨by omega, by omega⟩ (fun h2 => ?_) (fun h2 => ?_)
      · refine mp_bipush dX11_matchAll_68 rfl ?_
        refine mp_istore (L' := [some (Value.ref 1), some (mp_i p.2.2.2), some (mp_i t), some (mp_i l), some (mp_i 9)]) dX11_matchAll_70 (by decide) rfl ?_
        refine mp_iload dX11_matchAll_72 rfl ?_
        refine mp_bipush dX11_matchAll_74 rfl ?_
        refine mp_invS (z := (mX11_isBelow, 0, 0, 0)) (K' := (0, 0)) (σ1 := A ++ (mp_cs s si sp f fi fp im hd kn p.1 p.2.1 p.2.2.1 cv vo so sz el ++ B)) (as := [mp_i 9, mp_i 8]) (st := []) (st1 := [mp_i (if 0 ≤ 9 ∧ 9 < 8 then 1 else 0)]) dX11_matchAll_76 ssX11_54 (zX11_isBelow (v := 9) (n := 8) (by first | with_reducible assumption | omega) (by first | with_reducible assumption | omega)) ⟨Nat.le_of_ble_eq_true rfl, Nat.le_of_ble_eq_true rfl, Nat.le_of_ble_eq_true rfl, Nat.le_of_ble_eq_true rfl, Nat.le_of_ble_eq_true rfl⟩ rfl rfl rfl rfl ?_
        refine mp_ifb_eq (tgt := 91) dX11_matchAll_79 rfl (fun h3 => ?_) (fun h3 => ?_)
        · refine mp_iinc (z := l + 1) (L' := [some (Value.ref 1), some (mp_i p.2.2.2), some (mp_i t), some (mp_i (l + 1)), some (mp_i 9)]) dX11_matchAll_91 rfl (rfl) (by decide) rfl ?_
          refine mp_goto (tgt := 44) dX11_matchAll_94 rfl ?_
          refine mp_drop (L' := [some (Value.ref 1), some (mp_i p.2.2.2), some (mp_i t), some (mp_i (l + 1)), none]) [true, true, true, true, false] rfl ?_
          have e9 : sc_one s l p = p := by unfold sc_one; first | (rw [if_pos ⟨by omega, by omega⟩]; done) | (rw [if_neg (by omega)]; done)
          have k9 := ih (sc_one s l p) t (l + 1) ⟨by omega, sc_one_ok hs (by omega) hi.2.1 hi.2.2⟩ hk
          rw [e9] at k9
          exact k9
        · refine mp_loc (j := 4) (x := 9) (y := sp_next1 s p.2.1 l) (by omega) rfl (L' := [some (Value.ref 1), some (mp_i p.2.2.2), some (mp_i t), some (mp_i l), some (mp_i (sp_next1 s p.2.1 l))]) rfl ?_
          refine mp_aload_n dX11_matchAll_82 rfl ?_
          refine mp_iload_n dX11_matchAll_83 rfl ?_
          refine mp_iload dX11_matchAll_84 rfl ?_
          refine mp_invV (z := (mX11_asks, 1, 0, 0)) (K' := (0, 0)) (σ1 := A ++ (mp_cs s si sp f fi fp im hd kn (sc_askWd s p.1 p.2.2.1 l (sp_next1 s p.2.1 l)) (wAdd p.2.1 l (sp_next1 s p.2.1 l)) (sc_askKe s p.2.2.1 l (sp_next1 s p.2.1 l)) cv vo so sz el ++ B)) (as := [mp_i l, mp_i (sp_next1 s p.2.1 l)]) (st := []) (st1 := []) dX11_matchAll_86 svX11_224 (mp_lkP hA 0 rfl) rfl rfl (zX11_asks (l := l) (m := (sp_next1 s p.2.1 l)) (s := s) (si := si) (sp := sp) (f := f) (fi := fi) (fp := fp) (im := im) (hd := hd) (kn := kn) (wd := p.1) (ak := p.2.1) (ke := p.2.2.1) (cv := cv) (vo := vo) (so := so) (sz := sz) (el := el) (B := B) (by first | with_reducible assumption | omega) (by first | with_reducible assumption | omega) (hMt.mono hs.kd mp_stay_cs) hi.2.1.2.1 (by first | with_reducible assumption | omega) (by first | with_reducible assumption | omega) (hi.2.1.2.2.1 (sp_next1 s p.2.1 l) (by omega)) (hne9 (by omega))) ⟨Nat.le_of_ble_eq_true rfl, Nat.le_of_ble_eq_true rfl, Nat.le_of_ble_eq_true rfl, Nat.le_of_ble_eq_true rfl, Nat.le_of_ble_eq_true rfl⟩ rfl rfl rfl rfl ?_
          refine mp_iconst dX11_matchAll_89 ?_
          refine mp_istore_n (L' := [some (Value.ref 1), some (mp_i 1), some (mp_i t), some (mp_i l), some (mp_i (sp_next1 s p.2.1 l))]) dX11_matchAll_90 rfl (by decide) rfl ?_
          refine mp_iinc (z := l + 1) (L' := [some (Value.ref 1), some (mp_i 1), some (mp_i t), some (mp_i (l + 1)), some (mp_i (sp_next1 s p.2.1 l))]) dX11_matchAll_91 rfl (rfl) (by decide) rfl ?_
          refine mp_goto (tgt := 44) dX11_matchAll_94 rfl ?_
          refine mp_drop (L' := [some (Value.ref 1), some (mp_i 1), some (mp_i t), some (mp_i (l + 1)), none]) [true, true, true, true, false] rfl ?_
          have e9 : sc_one s l p = (sc_askWd s p.1 p.2.2.1 l (sp_next1 s p.2.1 l), wAdd p.2.1 l (sp_next1 s p.2.1 l), sc_askKe s p.2.2.1 l (sp_next1 s p.2.1 l), 1) := by unfold sc_one; first | (rw [if_pos ⟨by omega, by omega⟩]; done) | (rw [if_neg (by omega)]; done)
          have k9 := ih (sc_one s l p) t (l + 1) ⟨by omega, sc_one_ok hs (by omega) hi.2.1 hi.2.2⟩ hk
          rw [e9] at k9
          exact k9
      · refine mp_aload_n dX11_matchAll_60 rfl ?_
        refine mp_iload_n dX11_matchAll_61 rfl ?_
        refine mp_invV (z := (mX11_dearestNotAsked, 3, 0, 0)) (K' := (0, 0)) (σ1 := A ++ (mp_cs s si sp f fi fp im hd kn p.1 p.2.1 p.2.2.1 cv vo so sz el ++ B)) (as := [mp_i l]) (st := []) (st1 := [mp_i (if sp_next1 s p.2.1 l < 0 then 9 else sp_next1 s p.2.1 l)]) dX11_matchAll_62 svX11_221 (mp_lkP hA 0 rfl) rfl rfl (zX11_dearestNotAsked (l := l) (s := s) (si := si) (sp := sp) (f := f) (fi := fi) (fp := fp) (im := im) (hd := hd) (kn := kn) (wd := p.1) (ak := p.2.1) (ke := p.2.2.1) (cv := cv) (vo := vo) (so := so) (sz := sz) (el := el) (B := B) (by first | with_reducible assumption | omega) (by first | with_reducible assumption | omega) (hMt.mono hs.kd mp_stay_cs) hi.2.1.2.1 (by first | with_reducible assumption | omega)) ⟨Nat.le_of_ble_eq_true rfl, Nat.le_of_ble_eq_true rfl, Nat.le_of_ble_eq_true rfl, Nat.le_of_ble_eq_true rfl, Nat.le_of_ble_eq_true rfl⟩ rfl rfl rfl rfl ?_
        refine mp_goto (tgt := 70) dX11_matchAll_65 rfl ?_
        refine mp_istore (L' := [some (Value.ref 1), some (mp_i p.2.2.2), some (mp_i t), some (mp_i l), some (mp_i (if sp_next1 s p.2.1 l < 0 then 9 else sp_next1 s p.2.1 l))]) dX11_matchAll_70 (by decide) rfl ?_
        refine mp_iload dX11_matchAll_72 rfl ?_
        refine mp_bipush dX11_matchAll_74 rfl ?_
        refine mp_invS (z := (mX11_isBelow, 0, 0, 0)) (K' := (0, 0)) (σ1 := A ++ (mp_cs s si sp f fi fp im hd kn p.1 p.2.1 p.2.2.1 cv vo so sz el ++ B)) (as := [mp_i (if sp_next1 s p.2.1 l < 0 then 9 else sp_next1 s p.2.1 l), mp_i 8]) (st := []) (st1 := [mp_i (if 0 ≤ (if sp_next1 s p.2.1 l < 0 then 9 else sp_next1 s p.2.1 l) ∧ (if sp_next1 s p.2.1 l < 0 then 9 else sp_next1 s p.2.1 l) < 8 then 1 else 0)]) dX11_matchAll_76 ssX11_54 (zX11_isBelow (v := (if sp_next1 s p.2.1 l < 0 then 9 else sp_next1 s p.2.1 l)) (n := 8) (by first | with_reducible assumption | omega) (by first | with_reducible assumption | omega)) ⟨Nat.le_of_ble_eq_true rfl, Nat.le_of_ble_eq_true rfl, Nat.le_of_ble_eq_true rfl, Nat.le_of_ble_eq_true rfl, Nat.le_of_ble_eq_true rfl⟩ rfl rfl rfl rfl ?_
        refine mp_ifb_eq (tgt := 91) dX11_matchAll_79 rfl (fun h4 => ?_) (fun h4 => ?_)
        · refine mp_iinc (z := l + 1) (L' := [some (Value.ref 1), some (mp_i p.2.2.2), some (mp_i t), some (mp_i (l + 1)), some (mp_i (if sp_next1 s p.2.1 l < 0 then 9 else sp_next1 s p.2.1 l))]) dX11_matchAll_91 rfl (rfl) (by decide) rfl ?_
          refine mp_goto (tgt := 44) dX11_matchAll_94 rfl ?_
          refine mp_drop (L' := [some (Value.ref 1), some (mp_i p.2.2.2), some (mp_i t), some (mp_i (l + 1)), none]) [true, true, true, true, false] rfl ?_
          have e9 : sc_one s l p = p := by unfold sc_one; first | (rw [if_pos ⟨by omega, by omega⟩]; done) | (rw [if_neg (by omega)]; done)
          have k9 := ih (sc_one s l p) t (l + 1) ⟨by omega, sc_one_ok hs (by omega) hi.2.1 hi.2.2⟩ hk
          rw [e9] at k9
          exact k9
        · refine mp_loc (j := 4) (x := if sp_next1 s p.2.1 l < 0 then 9 else sp_next1 s p.2.1 l) (y := sp_next1 s p.2.1 l) (by omega) rfl (L' := [some (Value.ref 1), some (mp_i p.2.2.2), some (mp_i t), some (mp_i l), some (mp_i (sp_next1 s p.2.1 l))]) rfl ?_
          refine mp_aload_n dX11_matchAll_82 rfl ?_
          refine mp_iload_n dX11_matchAll_83 rfl ?_
          refine mp_iload dX11_matchAll_84 rfl ?_
          refine mp_invV (z := (mX11_asks, 1, 0, 0)) (K' := (0, 0)) (σ1 := A ++ (mp_cs s si sp f fi fp im hd kn (sc_askWd s p.1 p.2.2.1 l (sp_next1 s p.2.1 l)) (wAdd p.2.1 l (sp_next1 s p.2.1 l)) (sc_askKe s p.2.2.1 l (sp_next1 s p.2.1 l)) cv vo so sz el ++ B)) (as := [mp_i l, mp_i (sp_next1 s p.2.1 l)]) (st := []) (st1 := []) dX11_matchAll_86 svX11_224 (mp_lkP hA 0 rfl) rfl rfl (zX11_asks (l := l) (m := (sp_next1 s p.2.1 l)) (s := s) (si := si) (sp := sp) (f := f) (fi := fi) (fp := fp) (im := im) (hd := hd) (kn := kn) (wd := p.1) (ak := p.2.1) (ke := p.2.2.1) (cv := cv) (vo := vo) (so := so) (sz := sz) (el := el) (B := B) (by first | with_reducible assumption | omega) (by first | with_reducible assumption | omega) (hMt.mono hs.kd mp_stay_cs) hi.2.1.2.1 (by first | with_reducible assumption | omega) (by first | with_reducible assumption | omega) (hi.2.1.2.2.1 (sp_next1 s p.2.1 l) (by omega)) (hne9 (by omega))) ⟨Nat.le_of_ble_eq_true rfl, Nat.le_of_ble_eq_true rfl, Nat.le_of_ble_eq_true rfl, Nat.le_of_ble_eq_true rfl, Nat.le_of_ble_eq_true rfl⟩ rfl rfl rfl rfl ?_
          refine mp_iconst dX11_matchAll_89 ?_
          refine mp_istore_n (L' := [some (Value.ref 1), some (mp_i 1), some (mp_i t), some (mp_i l), some (mp_i (sp_next1 s p.2.1 l))]) dX11_matchAll_90 rfl (by decide) rfl ?_
          refine mp_iinc (z := l + 1) (L' := [some (Value.ref 1), some (mp_i 1), some (mp_i t), some (mp_i (l + 1)), some (mp_i (sp_next1 s p.2.1 l))]) dX11_matchAll_91 rfl (rfl) (by decide) rfl ?_
          refine mp_goto (tgt := 44) dX11_matchAll_94 rfl ?_
          refine mp_drop (L' := [some (Value.ref 1), some (mp_i 1), some (mp_i t), some (mp_i (l + 1)), none]) [true, true, true, true, false] rfl ?_
          have e9 : sc_one s l p = (sc_askWd s p.1 p.2.2.1 l (sp_next1 s p.2.1 l), wAdd p.2.1 l (sp_next1 s p.2.1 l), sc_askKe s p.2.2.1 l (sp_next1 s p.2.1 l), 1) := by unfold sc_one; first | (rw [if_pos ⟨by omega, by omega⟩]; done) | (rw [if_neg (by omega)]; done)
          have k9 := ih (sc_one s l p) t (l + 1) ⟨by omega, sc_one_ok hs (by omega) hi.2.1 hi.2.2⟩ hk
          rw [e9] at k9
          exact k9
theorem lX11_matchAll_30 {s si sp : Int → Int} {f fi fp : Nat → Option Nat} {im : Int} {hd : Int → Int} {kn : Nat → Option Nat} {wd ak ke cv vo so sz el : Int → Int} {A B : mp_H}  (hA : A.length = 1) (hs : mp_sky s) (hMt : mp_Mt (A ++ (mp_cs s si sp f fi fp im hd kn wd ak ke cv vo so sz el ++ B)) s f) {R9 : mp_An} : ∀ (n : Nat) (p : sc_Q) (t : Int), ((0 ≤ t ∧ t + (n : Nat) = 40) ∧ wCls s p.1 p.2.1 p.2.2.1 ∧ (p.2.2.2 = 0 ∨ p.2.2.2 = 1)) → R9 = (none, A ++ (mp_cs s si sp f fi fp im hd kn ((sc_turns s n p).1) ((sc_turns s n p).2.1) ((sc_turns s n p).2.2.1) cv vo so sz el ++ B)) → mp_At (mX11_matchAll, 4, 0, 0) (0, 0) 30 [some (Value.ref 1), some (mp_i p.2.2.2), some (mp_i t), none, none] [] (A ++ (mp_cs s si sp f fi fp im hd kn p.1 p.2.1 p.2.2.1 cv vo so sz el ++ B)) R9 := by
  intro n
  induction n with
  | zero =>
    intro p t hi hR
    refine mp_iload_n dX11_matchAll_30 rfl ?_
    refine mp_bipush dX11_matchAll_31 rfl ?_
    refine mp_icmp_ge (tgt := 103) dX11_matchAll_33 rfl ⟨by omega, by omega⟩ ⟨by omega, by omega⟩ (fun h1 => ?_) (fun h1 => ?_)
    · exact mp_vreturn (st := []) dX11_matchAll_103 rfl ⟨by decide, by decide⟩ (hR.trans (by first | rfl | (rw [sc_turns_s, if_pos (by omega)])))
    · exfalso; omega
  | succ n ih =>
    intro p t hi hR
    refine mp_iload_n dX11_matchAll_30 rfl ?_
    refine mp_bipush dX11_matchAll_31 rfl ?_
    refine mp_icmp_ge (tgt := 103) dX11_matchAll_33 rfl ⟨by omega, by omega⟩ ⟨by omega, by omega⟩ (fun h1 => ?_) (fun h1 => ?_)
    · exfalso; omega
    · refine mp_iload_n dX11_matchAll_36 rfl ?_
      refine mp_if_eq (tgt := 103) dX11_matchAll_37 rfl ⟨by omega, by omega⟩ (fun h2 => ?_) (fun h2 => ?_)
      · exact mp_vreturn (st := []) dX11_matchAll_103 rfl ⟨by decide, by decide⟩ (hR.trans (by first | rfl | (rw [sc_turns_s, if_pos (by omega)])))
      · refine mp_iconst dX11_matchAll_40 ?_
        refine mp_istore_n (L' := [some (Value.ref 1), some (mp_i 0), some (mp_i t), none, none]) dX11_matchAll_41 rfl (by decide) rfl ?_
        refine mp_iconst dX11_matchAll_42 ?_
        refine mp_istore_n (L' := [some (Value.ref 1), some (mp_i 0), some (mp_i t), some (mp_i 0), none]) dX11_matchAll_43 rfl (by decide) rfl ?_
        refine lX11_matchAll_44 (s := s) (si := si) (sp := sp) (f := f) (fi := fi) (fp := fp) (im := im) (hd := hd) (kn := kn) (wd := wd) (ak := ak) (ke := ke) (cv := cv) (vo := vo) (so := so) (sz := sz) (el := el) (B := B) hA hs hMt 5 (p.1, p.2.1, p.2.2.1, 0) t 0 ⟨by omega, hi.2.1, Or.inl rfl⟩ ?_
        refine mp_iinc (z := t + 1) (L' := [some (Value.ref 1), some (mp_i ((mp_fold (sc_one s) 5 0 (p.1, p.2.1, p.2.2.1, 0)).2.2.2)), some (mp_i (t + 1)), none, none]) dX11_matchAll_97 rfl (rfl) (by decide) rfl ?_
        refine mp_goto (tgt := 30) dX11_matchAll_100 rfl ?_
        have hin := sc_in hs (c := wCnt p.2.1) 5 0 (p.1, p.2.1, p.2.2.1, 0) (Int.le_refl _) (by omega) hi.2.1 (Or.inl ⟨rfl, Int.le_refl _, fun i a b => by omega⟩)
        exact ih (mp_fold (sc_one s) 5 0 (p.1, p.2.1, p.2.2.1, 0)) (t + 1) ⟨by omega, hin.1, hin.2.imp And.left And.left⟩ (hR.trans (by rw [sc_turns_s, if_neg (by omega)]))
theorem zX11_matchAll {s si sp : Int → Int} {f fi fp : Nat → Option Nat} {im : Int} {hd : Int → Int} {kn : Nat → Option Nat} {wd ak ke cv vo so sz el : Int → Int} {A B : mp_H}  (hA : A.length = 1) (hs : mp_sky s) (hMt : mp_Mt (A ++ (mp_cs s si sp f fi fp im hd kn wd ak ke cv vo so sz el ++ B)) s f) : mp_Call (mX11_matchAll, 4, 0, 0) [Value.ref 1] (A ++ (mp_cs s si sp f fi fp im hd kn wd ak ke cv vo so sz el ++ B)) (none, A ++ (mp_cs s si sp f fi fp im hd kn ((sc_turns s 40 sc_q0).1) ((sc_turns s 40 sc_q0).2.1) ((sc_turns s 40 sc_q0).2.2.1) cv vo so sz el ++ B)) := by
  refine mp_Call.of (L := [some (Value.ref 1), none, none, none, none]) pnX11 (Nat.le_of_ble_eq_true rfl) rfl ?_
  refine mp_aload_n dX11_matchAll_0 rfl ?_
  refine mp_getfield dX11_matchAll_1 fsX11_38_10 (mp_lkP hA 0 rfl) rfl ?_
  refine mp_bipush dX11_matchAll_4 rfl ?_
  refine mp_invS (z := (mJ7_fill_53178, 0, 0, 0)) (K' := (0, 0)) (σ1 := A ++ (mp_cs s si sp f fi fp im hd kn (fun _ => 9) ak ke cv vo so sz el ++ B)) (as := [Value.ref 23, mp_i 9]) (st := []) (st1 := []) dX11_matchAll_6 ssX11_215 (mp_Call.cast (zJ7_fill_53178 (r := 23) (v := 9) (N := 5) (e := wd) (mp_lkP hA 22 rfl) (by first | with_reducible assumption | omega) (by first | with_reducible assumption | omega)) rfl (congrArg (Prod.mk _) (mp_stP (Ms' := mp_cs s si sp f fi fp im hd kn (fun _ => 9) ak ke cv vo so sz el) hA 22 (Nat.le_of_ble_eq_true rfl) rfl))) ⟨Nat.le_of_ble_eq_true rfl, Nat.le_of_ble_eq_true rfl, Nat.le_of_ble_eq_true rfl, Nat.le_of_ble_eq_true rfl, Nat.le_of_ble_eq_true rfl⟩ rfl rfl rfl rfl ?_
  refine mp_aload_n dX11_matchAll_9 rfl ?_
  refine mp_getfield dX11_matchAll_10 fsX11_41_10 (mp_lkP hA 0 rfl) rfl ?_
  refine mp_iconst dX11_matchAll_13 ?_
  refine mp_invS (z := (mJ7_fill_53178, 0, 0, 0)) (K' := (0, 0)) (σ1 := A ++ (mp_cs s si sp f fi fp im hd kn (fun _ => 9) (fun _ => 0) ke cv vo so sz el ++ B)) (as := [Value.ref 24, mp_i 0]) (st := []) (st1 := []) dX11_matchAll_14 ssX11_215 (mp_Call.cast (zJ7_fill_53178 (r := 24) (v := 0) (N := 5) (e := ak) (mp_lkP hA 23 rfl) (by first | with_reducible assumption | omega) (by first | with_reducible assumption | omega)) rfl (congrArg (Prod.mk _) (mp_stP (Ms' := mp_cs s si sp f fi fp im hd kn (fun _ => 9) (fun _ => 0) ke cv vo so sz el) hA 23 (Nat.le_of_ble_eq_true rfl) rfl))) ⟨Nat.le_of_ble_eq_true rfl, Nat.le_of_ble_eq_true rfl, Nat.le_of_ble_eq_true rfl, Nat.le_of_ble_eq_true rfl, Nat.le_of_ble_eq_true rfl⟩ rfl rfl rfl rfl ?_
  refine mp_aload_n dX11_matchAll_17 rfl ?_
  refine mp_getfield dX11_matchAll_18 fsX11_44_10 (mp_lkP hA 0 rfl) rfl ?_
  refine mp_bipush dX11_matchAll_21 rfl ?_
  refine mp_invS (z := (mJ7_fill_53178, 0, 0, 0)) (K' := (0, 0)) (σ1 := A ++ (mp_cs s si sp f fi fp im hd kn (fun _ => 9) (fun _ => 0) (fun _ => 9) cv vo so sz el ++ B)) (as := [Value.ref 25, mp_i 9]) (st := []) (st1 := []) dX11_matchAll_23 ssX11_215 (mp_Call.cast (zJ7_fill_53178 (r := 25) (v := 9) (N := 8) (e := ke) (mp_lkP hA 24 rfl) (by first | with_reducible assumption | omega) (by first | with_reducible assumption | omega)) rfl (congrArg (Prod.mk _) (mp_stP (Ms' := mp_cs s si sp f fi fp im hd kn (fun _ => 9) (fun _ => 0) (fun _ => 9) cv vo so sz el) hA 24 (Nat.le_of_ble_eq_true rfl) rfl))) ⟨Nat.le_of_ble_eq_true rfl, Nat.le_of_ble_eq_true rfl, Nat.le_of_ble_eq_true rfl, Nat.le_of_ble_eq_true rfl, Nat.le_of_ble_eq_true rfl⟩ rfl rfl rfl rfl ?_
  refine mp_iconst dX11_matchAll_26 ?_
  refine mp_istore_n (L' := [some (Value.ref 1), some (mp_i 1), none, none, none]) dX11_matchAll_27 rfl (by decide) rfl ?_
  refine mp_iconst dX11_matchAll_28 ?_
  refine mp_istore_n (L' := [some (Value.ref 1), some (mp_i 1), some (mp_i 0), none, none]) dX11_matchAll_29 rfl (by decide) rfl ?_
  exact lX11_matchAll_30 (s := s) (si := si) (sp := sp) (f := f) (fi := fi) (fp := fp) (im := im) (hd := hd) (kn := kn) (wd := wd) (ak := ak) (ke := ke) (cv := cv) (vo := vo) (so := so) (sz := sz) (el := el) (B := B) hA hs hMt 40 sc_q0 0 ⟨by omega, wCls_0, Or.inr rfl⟩ rfl
theorem zX11_wed {s si sp : Int → Int} {f fi fp : Nat → Option Nat} {im : Int} {hd : Int → Int} {kn : Nat → Option Nat} {wd ak ke cv vo so sz el : Int → Int} {A B : mp_H}  {l : Int} (hA : A.length = 1) (hs : mp_sky s) (hMt : mp_Mt (A ++ (mp_cs s si sp f fi fp im hd kn wd ak ke cv vo so sz el ++ B)) s f) (h_l : mp_w l) : mp_Call (mX11_wed, 5, 0, 0) [Value.ref 1, mp_i l] (A ++ (mp_cs s si sp f fi fp im hd kn wd ak ke cv vo so sz el ++ B)) (some (mp_i (sp_wed s l)), A ++ (mp_cs s si sp f fi fp im hd kn (if 0 ≤ l ∧ l ≤ 4 then (sc_turns s 40 sc_q0).1 else wd) (if 0 ≤ l ∧ l ≤ 4 then (sc_turns s 40 sc_q0).2.1 else ak) (if 0 ≤ l ∧ l ≤ 4 then (sc_turns s 40 sc_q0).2.2.1 else ke) cv vo so sz el ++ B)) := by
  refine mp_Call.of (L := [some (Value.ref 1), some (mp_i l)]) pnX11 (Nat.le_of_ble_eq_true rfl) rfl ?_
  have hz0 := hs.1
  refine mp_iload_n dX11_wed_0 rfl ?_
  refine mp_iconst dX11_wed_1 ?_
  refine mp_invS (z := (mX11_isBelow, 0, 0, 0)) (K' := (0, 0)) (σ1 := A ++ (mp_cs s si sp f fi fp im hd kn wd ak ke cv vo so sz el ++ B)) (as := [mp_i l, mp_i 5]) (st := []) (st1 := [mp_i (if 0 ≤ l ∧ l < 5 then 1 else 0)]) dX11_wed_2 ssX11_54 (zX11_isBelow (v := l) (n := 5) (by first | with_reducible assumption | omega) (by first | with_reducible assumption | omega)) ⟨Nat.le_of_ble_eq_true rfl, Nat.le_of_ble_eq_true rfl, Nat.le_of_ble_eq_true rfl, Nat.le_of_ble_eq_true rfl, Nat.le_of_ble_eq_true rfl⟩ rfl rfl rfl rfl ?_
  refine mp_ifb_ne (tgt := 10) dX11_wed_5 rfl (fun h1 => ?_) (fun h1 => ?_)
  · refine mp_aload_n dX11_wed_10 rfl ?_
    refine mp_invV (z := (mX11_matchAll, 4, 0, 0)) (K' := (0, 0)) (σ1 := A ++ (mp_cs s si sp f fi fp im hd kn ((sc_turns s 40 sc_q0).1) ((sc_turns s 40 sc_q0).2.1) ((sc_turns s 40 sc_q0).2.2.1) cv vo so sz el ++ B)) (as := []) (st := []) (st1 := []) dX11_wed_11 svX11_212 (mp_lkP hA 0 rfl) rfl rfl (zX11_matchAll (s := s) (si := si) (sp := sp) (f := f) (fi := fi) (fp := fp) (im := im) (hd := hd) (kn := kn) (wd := wd) (ak := ak) (ke := ke) (cv := cv) (vo := vo) (so := so) (sz := sz) (el := el) (B := B) (by first | with_reducible assumption | omega) (by first | with_reducible assumption | omega) (hMt.mono hs.kd mp_stay_cs)) ⟨Nat.le_of_ble_eq_true rfl, Nat.le_of_ble_eq_true rfl, Nat.le_of_ble_eq_true rfl, Nat.le_of_ble_eq_true rfl, Nat.le_of_ble_eq_true rfl⟩ rfl rfl rfl rfl ?_
    have hwl := (sc_match hs).1.2.2.2 l (by omega) (by omega)
    refine mp_aload_n dX11_wed_14 rfl ?_
    refine mp_getfield dX11_wed_15 fsX11_38_10 (mp_lkP hA 0 rfl) rfl ?_
    refine mp_iload_n dX11_wed_18 rfl ?_
    refine mp_iald dX11_wed_19 (mp_lkP hA 22 rfl) ⟨by omega, by omega⟩ (by omega) ?_
    refine mp_invS (z := (mX11_numberOrNone, 0, 0, 0)) (K' := (0, 0)) (σ1 := A ++ (mp_cs s si sp f fi fp im hd kn ((sc_turns s 40 sc_q0).1) ((sc_turns s 40 sc_q0).2.1) ((sc_turns s 40 sc_q0).2.2.1) cv vo so sz el ++ B)) (as := [mp_i (((sc_turns s 40 sc_q0).1) l)]) (st := []) (st1 := [mp_i (if (((sc_turns s 40 sc_q0).1) l) = 9 then -4 else (((sc_turns s 40 sc_q0).1) l))]) dX11_wed_20 ssX11_179 (zX11_numberOrNone (v := (((sc_turns s 40 sc_q0).1) l)) (by first | with_reducible assumption | omega)) ⟨Nat.le_of_ble_eq_true rfl, Nat.le_of_ble_eq_true rfl, Nat.le_of_ble_eq_true rfl, Nat.le_of_ble_eq_true rfl, Nat.le_of_ble_eq_true rfl⟩ rfl rfl rfl rfl ?_
    exact mp_ireturn (st := []) dX11_wed_23 rfl ⟨by decide, by decide⟩ ((by rw [if_pos (by omega), if_pos (by omega), if_pos (by omega)]; exact mp_ans (sc_wed hs (by omega)).symm))
  · refine mp_iconst dX11_wed_8 ?_
    exact mp_ireturn (st := []) dX11_wed_9 rfl ⟨by decide, by decide⟩ ((by rw [if_neg (by omega), if_neg (by omega), if_neg (by omega)]; exact mp_ans (if_pos (by omega))))
