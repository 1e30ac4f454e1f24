/-! ===== WED: whoever asks first, the same are wed ===== -/
abbrev wA (z : Int → Int) (l k : Int) : Prop := sp_b (z l) k = 1
abbrev wCand (s : Int → Int) (l k : Int) : Prop := (0 ≤ k ∧ k < s 0) ∧ 0 ≤ sp_yesOf s l k
abbrev wHeat (s : Int → Int) (k : Int) : Int := sp_heat (s (1 + 6 * k + 0)) (s (1 + 6 * k + 1))
/-- k rather than j -/
def wPre (s : Int → Int) (k j : Int) : Prop := wHeat s j < wHeat s k ∨ (wHeat s j = wHeat s k ∧ k < j)
theorem wPre_tot {s : Int → Int} {k j : Int} (h : k ≠ j) : wPre s k j ∨ wPre s j k := by unfold wPre; omega
theorem sp_rather_tot {s : Int → Int} {k a b : Int} (h : a ≠ b) (h2 : ¬ sp_rather s k a b ≠ 0) : sp_rather s k b a ≠ 0 := by unfold sp_rather at *; omega
theorem sp_rather_anti {s : Int → Int} {k a b : Int} (h : a ≠ b) (h1 : sp_rather s k a b ≠ 0) : ¬ sp_rather s k b a ≠ 0 := by unfold sp_rather at *; omega
theorem sp_rather_tr {s : Int → Int} {k a b c : Int} (hac : a ≠ c) (h1 : sp_rather s k a b ≠ 0) (h2 : sp_rather s k b c ≠ 0) : sp_rather s k a c ≠ 0 := by
  unfold sp_rather at *
  generalize s (1 + 6 * k + 5) = F at *
  generalize s (49 + 3 * a + 1) = qa at *
  generalize s (49 + 3 * b + 1) = qb at *
  generalize s (49 + 3 * c + 1) = qc at *
  omega
/-- whom she asks next -/
theorem wNext {s z : Int → Int} {l : Int} (hs : mp_sky s) : (sp_next1 s z l = -4 ∧ ∀ k, wCand s l k → wA z l k) ∨ (wCand s l (sp_next1 s z l) ∧ ¬ wA z l (sp_next1 s z l) ∧ ∀ k, wCand s l k → ¬ wA z l k → k = sp_next1 s z l ∨ wPre s (sp_next1 s z l) k) := by
  have h0 := hs.1
  have := mp_fold_inv_lt (f := sp_askStep s z l) (fun i a => 0 ≤ i ∧ ((a = -4 ∧ ∀ k, k < i → wCand s l k → wA z l k) ∨ ((wCand s l a ∧ a < i) ∧ ¬ wA z l a ∧ ∀ k, k < i → wCand s l k → ¬ wA z l k → k = a ∨ wPre s a k))) (s 0) (fun i a hi h => by
    obtain ⟨hi0, h⟩ := h
    refine ⟨by omega, ?_⟩
    unfold sp_askStep
    by_cases h1 : sp_b (z l) i = 1 ∨ sp_yesOf s l i < 0
    · rw [if_pos h1]
      rcases h with ⟨h2, h3⟩ | ⟨h2, h3, h4⟩
      · refine Or.inl ⟨h2, fun k hk hc => ?_⟩
        by_cases e : k = i
        · subst e; exact h1.resolve_right (by omega)
        · exact h3 k (by omega) hc
      · refine Or.inr ⟨⟨h2.1, by omega⟩, h3, fun k hk hc hn => ?_⟩
        by_cases e : k = i
        · subst e; exact absurd (h1.resolve_right (by omega)) hn
        · exact h4 k (by omega) hc hn
    · rw [if_neg h1]
      rcases h with ⟨h2, h3⟩ | ⟨h2, h3, h4⟩
      · rw [if_pos (Or.inl (by omega))]
        refine Or.inr ⟨⟨⟨⟨hi0, hi⟩, by omega⟩, by omega⟩, fun q => h1 (Or.inl q), fun k hk hc hn => ?_⟩
        by_cases e : k = i
        · exact Or.inl e
        · exact absurd (h3 k (by omega) hc) hn
      · by_cases hp : a < 0 ∨ sp_heat (s (1 + 6 * a + 0)) (s (1 + 6 * a + 1)) < sp_heat (s (1 + 6 * i + 0)) (s (1 + 6 * i + 1))
        · rw [if_pos hp]
          refine Or.inr ⟨⟨⟨⟨hi0, hi⟩, by omega⟩, by omega⟩, fun q => h1 (Or.inl q), fun k hk hc hn => ?_⟩
          by_cases e : k = i
          · exact Or.inl e
          · rcases h4 k (by omega) hc hn with rfl | h5
            · exact Or.inr (Or.inl (by unfold wHeat; omega))
            · unfold wPre wHeat at *; right; omega
        · rw [if_neg hp]
          refine Or.inr ⟨⟨h2.1, by omega⟩, h3, fun k hk hc hn => ?_⟩
          by_cases e : k = i
          · subst e; unfold wPre wHeat; right; omega
          · exact h4 k (by omega) hc hn) (s 0).toNat 0 (-4) (by omega) ⟨by decide, Or.inl ⟨rfl, fun k hk hc => by omega⟩⟩
  have h9 := this.2
  rw [show (0 : Int) + ((s 0).toNat : Int) = s 0 by omega] at h9
  rcases h9 with ⟨h2, h3⟩ | ⟨h2, h3, h4⟩
  · exact Or.inl ⟨h2, fun k hc => h3 k hc.1.2 hc⟩
  · exact Or.inr ⟨h2.1, h3, fun k hc hn => h4 k hc.1.2 hc hn⟩
def wBest (s z : Int → Int) (k l : Int) : Prop := wA z l k ∧ (0 ≤ l ∧ l ≤ 4) ∧ ∀ l', 0 ≤ l' → l' ≤ 4 → wA z l' k → l' = l ∨ sp_rather s k l l' ≠ 0
def wV (s z : Int → Int) : Prop := ∀ l, 0 ≤ l → l ≤ 4 → ∀ k, 0 ≤ k → wA z l k → wCand s l k ∧ ∀ j, wCand s l j → wPre s j k → wA z l j
def wSet (s z : Int → Int) (l : Int) : Prop := (∃ k, 0 ≤ k ∧ wBest s z k l) ∨ ∀ k, wCand s l k → wA z l k
def wCl (s z : Int → Int) : Prop := wV s z ∧ ∀ l, 0 ≤ l → l ≤ 4 → wSet s z l
def wSub (z c : Int → Int) : Prop := ∀ l, 0 ≤ l → l ≤ 4 → ∀ k, 0 ≤ k → wA z l k → wA c l k
def wFree (s z : Int → Int) (l : Int) : Prop := ∀ k, 0 ≤ k → ¬ wBest s z k l
theorem wKey {s z c : Int → Int} {l : Int} (hs : mp_sky s) (hl : 0 ≤ l ∧ l ≤ 4) (hc : wCl s c) (hz : wSub z c) (hf : wFree s z l) (hk : 0 ≤ sp_next1 s z l) : wA c l (sp_next1 s z l) := by
  rcases wNext (z := z) (l := l) hs with ⟨h1, -⟩ | ⟨h1, h2, h3⟩
  · omega
  · apply Classical.byContradiction
    intro hn
    rcases hc.2 l hl.1 hl.2 with ⟨k0, g0, g1⟩ | g1
    · have g2 := hc.1 l hl.1 hl.2 k0 g0 g1.1
      have g3 : k0 ≠ sp_next1 s z l := fun e => hn (e ▸ g1.1)
      have g4 : wPre s k0 (sp_next1 s z l) := by
        rcases wPre_tot (s := s) g3 with h | h
        · exact h
        · exact absurd (g2.2 _ h1 h) hn
      have g5 : wA z l k0 := by
        apply Classical.byContradiction
        intro h
        rcases h3 k0 g2.1 h with h | h
        · exact g3 h
        · unfold wPre wHeat at *; omega
      refine hf k0 g0 ⟨g5, hl, fun l' h4 h5 h6 => ?_⟩
      exact g1.2.2 l' h4 h5 (hz l' h4 h5 k0 g0 h6)
    · exact hn (g1 _ h1)
/-- the state of a matching: who holds whom, whom they have asked -/
def wSt (s q z : Int → Int) : Prop :=
  wV s z ∧ (∀ c, wCl s c → wSub z c) ∧ (∀ k, 0 ≤ k → (q k = -4 ∧ ∀ l, 0 ≤ l → l ≤ 4 → ¬ wA z l k) ∨ wBest s z k (q k)) ∧ ∀ l k j, 0 ≤ k → 0 ≤ j → wBest s z k l → wBest s z j l → k = j
abbrev wAdd (z : Int → Int) (w k : Int) : Int → Int := mp_ud z w (mp_or (z w) (mp_bit k))
theorem wAdd_iff {z : Int → Int} {w k l j : Int} (hk : 0 ≤ k) (hj : 0 ≤ j) : wA (wAdd z w k) l j ↔ wA z l j ∨ (l = w ∧ j = k) := by
  unfold wA wAdd
  by_cases e : l = w
  · subst e
    rw [mp_ud_eq, mp_b_or, mp_b_bit hk hj]
    constructor
    · rintro (h | h)
      · exact Or.inl h
      · exact Or.inr ⟨rfl, h.symm⟩
    · rintro (h | h)
      · exact Or.inl h
      · exact Or.inr h.2.symm
  · rw [mp_udn e]
    constructor
    · exact Or.inl
    · rintro (h | h)
      · exact h
      · exact absurd h.1 e
theorem wAdd_col {s z : Int → Int} {w k l j : Int} (hk : 0 ≤ k) (hj : 0 ≤ j) (hne : j ≠ k) : wBest s (wAdd z w k) j l ↔ wBest s z j l := by
  have e : ∀ l, wA (wAdd z w k) l j ↔ wA z l j := fun l => by rw [wAdd_iff hk hj]; exact ⟨fun h => h.elim id (fun h => absurd h.2 hne), Or.inl⟩
  unfold wBest
  rw [e l]
  constructor
  · rintro ⟨h1, h2, h3⟩; exact ⟨h1, h2, fun l' a b c => h3 l' a b ((e l').mpr c)⟩
  · rintro ⟨h1, h2, h3⟩; exact ⟨h1, h2, fun l' a b c => h3 l' a b ((e l').mp c)⟩
theorem wBest_one {s z : Int → Int} {k a b : Int} (h1 : wBest s z k a) (h2 : wBest s z k b) : a = b := by
  apply Classical.byContradiction
  intro hne
  have e1 := (h1.2.2 b h2.2.1.1 h2.2.1.2 h2.1).resolve_left (fun e => hne e.symm)
  have e2 := (h2.2.2 a h1.2.1.1 h1.2.1.2 h1.1).resolve_left hne
  exact sp_rather_anti hne e1 e2
theorem wV_add {s z : Int → Int} {w : Int} (hs : mp_sky s) (hv : wV s z) (hk : 0 ≤ sp_next1 s z w) : wV s (wAdd z w (sp_next1 s z w)) := by
  rcases wNext (z := z) (l := w) hs with ⟨h1, -⟩ | ⟨h1, h2, h3⟩
  · omega
  · intro l h0 h4 j hj ha
    rcases (wAdd_iff hk hj).mp ha with h | ⟨rfl, rfl⟩
    · obtain ⟨g1, g2⟩ := hv l h0 h4 j hj h
      exact ⟨g1, fun i hi hp => (wAdd_iff hk hi.1.1).mpr (Or.inl (g2 i hi hp))⟩
    · refine ⟨h1, fun i hi hp => (wAdd_iff hk hi.1.1).mpr (Or.inl ?_)⟩
      apply Classical.byContradiction
      intro hn
      rcases h3 i hi hn with h | h
      · rw [h] at hp; unfold wPre wHeat at hp; omega
      · unfold wPre wHeat at *; omega
theorem wR_add {s z : Int → Int} {w : Int} (hs : mp_sky s) (hw : 0 ≤ w ∧ w ≤ 4) (hr : ∀ c, wCl s c → wSub z c) (hf : wFree s z w) (hk : 0 ≤ sp_next1 s z w) : ∀ c, wCl s c → wSub (wAdd z w (sp_next1 s z w)) c := fun c hc l h0 h4 j hj ha => by
  rcases (wAdd_iff hk hj).mp ha with h | ⟨rfl, rfl⟩
  · exact hr c hc l h0 h4 j hj h
  · exact wKey hs hw hc (hr c hc) hf hk
/-- w comes to be held by the one she asks -/
theorem wSt_take {s q z : Int → Int} {w : Int} (hs : mp_sky s) (hw : 0 ≤ w ∧ w ≤ 4) (h : wSt s q z) (hf : wFree s z w) (hk : 0 ≤ sp_next1 s z w) (hc : q (sp_next1 s z w) < 0 ∨ sp_rather s (sp_next1 s z w) w (q (sp_next1 s z w)) ≠ 0) :
    wSt s (mp_ud q (sp_next1 s z w) w) (wAdd z w (sp_next1 s z w)) ∧ wBest s (wAdd z w (sp_next1 s z w)) (sp_next1 s z w) w ∧ (0 ≤ q (sp_next1 s z w) → wFree s (wAdd z w (sp_next1 s z w)) (q (sp_next1 s z w))) := by
  obtain ⟨h1, h2, h3, h4⟩ := h
  have hv := wV_add (w := w) hs h1 hk
  have hr := wR_add hs hw h2 hf hk
  generalize hkk : sp_next1 s z w = k at *
  have hb : wBest s (wAdd z w k) k w := by
    refine ⟨(wAdd_iff hk hk).mpr (Or.inr ⟨rfl, rfl⟩), hw, fun l' a b c => ?_⟩
    rcases (wAdd_iff hk hk).mp c with c | c
    · by_cases e : l' = w
      · exact Or.inl e
      · right
        rcases h3 k hk with ⟨-, g⟩ | g
        · exact absurd c (g l' a b)
        · have g5 := hc.resolve_left (by have := g.2.1; omega)
          rcases g.2.2 l' a b c with rfl | g6
          · exact g5
          · exact sp_rather_tr (fun e9 => e e9.symm) g5 g6
    · exact Or.inl c.1
  have hold : ∀ l, wBest s z k l → l ≠ w → ¬ wBest s (wAdd z w k) k l := fun l _ hne h9 => hne (wBest_one h9 hb)
  refine ⟨⟨hv, hr, fun j hj => ?_, fun l i j hi hj b1 b2 => ?_⟩, hb, fun hq j hj b => ?_⟩
  · by_cases e : j = k
    · subst e; rw [mp_ud_eq]; exact Or.inr hb
    · rw [mp_udn e]
      rcases h3 j hj with ⟨g1, g2⟩ | g
      · exact Or.inl ⟨g1, fun l a b c => (wAdd_iff hk hj).mp c |>.elim (g2 l a b) (fun c => e c.2)⟩
      · exact Or.inr ((wAdd_col hk hj e).mpr g)
  · by_cases e1 : i = k
    · by_cases e2 : j = k
      · omega
      · rw [e1] at b1
        have := wBest_one b1 hb
        subst this
        exact absurd ((wAdd_col hk hj e2).mp b2) (hf j hj)
    · by_cases e2 : j = k
      · rw [e2] at b2
        have := wBest_one b2 hb
        subst this
        exact absurd ((wAdd_col hk hi e1).mp b1) (hf i hi)
      · exact h4 l i j hi hj ((wAdd_col hk hi e1).mp b1) ((wAdd_col hk hj e2).mp b2)
  · have g : wBest s z k (q k) := by
      rcases h3 k hk with ⟨g1, -⟩ | g
      · omega
      · exact g
    have hne : q k ≠ w := fun e => hf k hk (e ▸ g)
    by_cases e : j = k
    · rw [e] at b; exact hold _ g hne b
    · exact e (h4 _ j k hj hk ((wAdd_col hk hj e).mp b) g)
/-- w isn't taken -/
theorem wSt_no {s q z : Int → Int} {w : Int} (hs : mp_sky s) (hw : 0 ≤ w ∧ w ≤ 4) (h : wSt s q z) (hf : wFree s z w) (hk : 0 ≤ sp_next1 s z w) (hc : ¬ (q (sp_next1 s z w) < 0 ∨ sp_rather s (sp_next1 s z w) w (q (sp_next1 s z w)) ≠ 0)) :
    wSt s q (wAdd z w (sp_next1 s z w)) ∧ wFree s (wAdd z w (sp_next1 s z w)) w ∧ wBest s (wAdd z w (sp_next1 s z w)) (sp_next1 s z w) (q (sp_next1 s z w)) := by
  obtain ⟨h1, h2, h3, h4⟩ := h
  have hv := wV_add (w := w) hs h1 hk
  have hr := wR_add hs hw h2 hf hk
  generalize hkk : sp_next1 s z w = k at *
  have g : wBest s z k (q k) := by
    rcases h3 k hk with ⟨g1, -⟩ | g
    · omega
    · exact g
  have hne : q k ≠ w := fun e => hf k hk (e ▸ g)
  have hb : wBest s (wAdd z w k) k (q k) := by
    refine ⟨(wAdd_iff hk hk).mpr (Or.inl g.1), g.2.1, fun l' a b c => ?_⟩
    rcases (wAdd_iff hk hk).mp c with c | c
    · exact g.2.2 l' a b c
    · rw [c.1]; exact Or.inr (sp_rather_tot (fun e => hne e.symm) (fun h => hc (Or.inr h)))
  refine ⟨⟨hv, hr, fun j hj => ?_, fun l i j hi hj b1 b2 => ?_⟩, fun j hj b => ?_, hb⟩
  · by_cases e : j = k
    · rw [e]; exact Or.inr hb
    · rcases h3 j hj with ⟨g1, g2⟩ | g
      · exact Or.inl ⟨g1, fun l a b c => (wAdd_iff hk hj).mp c |>.elim (g2 l a b) (fun c => e c.2)⟩
      · exact Or.inr ((wAdd_col hk hj e).mpr g)
  · by_cases e1 : i = k
    · by_cases e2 : j = k
      · omega
      · rw [e1] at b1
        have := wBest_one b1 hb
        subst this
        exact e1.trans (h4 _ k j hk hj g ((wAdd_col hk hj e2).mp b2))
    · by_cases e2 : j = k
      · rw [e2] at b2
        have := wBest_one b2 hb
        subst this
        exact (h4 _ i k hi hk ((wAdd_col hk hi e1).mp b1) g).trans e2.symm
      · exact h4 l i j hi hj ((wAdd_col hk hi e1).mp b1) ((wAdd_col hk hj e2).mp b2)
  · by_cases e : j = k
    · rw [e] at b; exact hne (wBest_one hb b)
    · exact hf j hj ((wAdd_col hk hj e).mp b)
/-- whoever has settled stays so, but the one who is put aside -/
theorem wSet_add {s z : Int → Int} {w k l : Int} (hk : 0 ≤ k) (hl : l ≠ w) (h : wSet s z l) (hb : wBest s z k l → wBest s (wAdd z w k) k l) : wSet s (wAdd z w k) l := by
  rcases h with ⟨j, hj, g⟩ | g
  · by_cases e : j = k
    · subst e; exact Or.inl ⟨j, hj, hb g⟩
    · exact Or.inl ⟨j, hj, (wAdd_col hk hj e).mpr g⟩
  · exact Or.inr fun j hj => (wAdd_iff hk hj.1.1).mpr (Or.inl (g j hj))
/-! the reference's turns -/
def wIn (s q z : Int → Int) (L w k : Int) : Prop :=
  wSt s q z ∧ mp_aok z ∧ (∀ l, L < l → l ≤ 4 → ∀ k, 0 ≤ k → ¬ wA z l k) ∧ ((w < 0 ∧ k < 0 ∧ ∀ l, 0 ≤ l → l ≤ L → wSet s z l) ∨ ((0 ≤ w ∧ w ≤ L) ∧ wFree s z w ∧ k = sp_next1 s z w ∧ ∀ l, 0 ≤ l → l ≤ L → l ≠ w → wSet s z l))
theorem wIn_end {s q z : Int → Int} {L w k : Int} (hs : mp_sky s) (h : wIn s q z L w k) (hk : k < 0) : wSt s q z ∧ mp_aok z ∧ (∀ l, L < l → l ≤ 4 → ∀ k, 0 ≤ k → ¬ wA z l k) ∧ ∀ l, 0 ≤ l → l ≤ L → wSet s z l := by
  obtain ⟨h1, h2, h3, h4⟩ := h
  refine ⟨h1, h2, h3, fun l h0 hL => ?_⟩
  rcases h4 with ⟨-, -, g⟩ | ⟨g1, g2, g3, g4⟩
  · exact g l h0 hL
  · by_cases e : l = w
    · subst e
      rcases wNext (z := z) (l := l) hs with ⟨-, g5⟩ | ⟨g5, -⟩
      · exact Or.inr g5
      · have := g5.1; omega
    · exact g4 l h0 hL e
theorem wA_ne {z : Int → Int} {l k : Int} (h : ¬ wA z l k) : sp_b (z l) k ≠ 1 := h
theorem wIn_go {s : Int → Int} (hs : mp_sky s) {L : Int} (hL : L ≤ 4) : ∀ (n : Nat) (w k : Int) (q z : Int → Int), wIn s q z L w k → (k < 0 ∨ 1276 ≤ (n : Int) + (z 0 + z 1 + z 2 + z 3 + z 4)) → wSt s (sp_wIn s n w k q z).1 (sp_wIn s n w k q z).2 ∧ mp_aok (sp_wIn s n w k q z).2 ∧ (∀ l, L < l → l ≤ 4 → ∀ j, 0 ≤ j → ¬ wA (sp_wIn s n w k q z).2 l j) ∧ ∀ l, 0 ≤ l → l ≤ L → wSet s (sp_wIn s n w k q z).2 l := by
  intro n
  induction n with
  | zero =>
    intro w k q z h hf
    have := mp_aok_sum h.2.1
    exact wIn_end hs h (by omega)
  | succ n ih =>
    intro w k q z h hf
    by_cases hk : k < 0
    · rw [mp_wIn_end hk]; exact wIn_end hs h hk
    · obtain ⟨h1, h2, h3, h4⟩ := h
      have h5 : (0 ≤ w ∧ w ≤ L) ∧ wFree s z w ∧ k = sp_next1 s z w ∧ ∀ l, 0 ≤ l → l ≤ L → l ≠ w → wSet s z l := by
        rcases h4 with h | h
        · omega
        · exact h
      obtain ⟨g1, g2, g3, g4⟩ := h5
      have hk0 : 0 ≤ sp_next1 s z w := by omega
      have hcd : wCand s w (sp_next1 s z w) ∧ ¬ wA z w (sp_next1 s z w) := by
        rcases wNext (z := z) (l := w) hs with ⟨g5, -⟩ | ⟨g5, g6, -⟩
        · omega
        · exact ⟨g5, g6⟩
      have hsk := hs.1
      have hwst : mp_wst s q z w k → True := fun _ => trivial
      have hz2 : mp_aok (wAdd z w k) := mp_aok_ud h2 ⟨mp_or_nn _ _, mp_or_256 (h2 w g1.1 (by omega)).2 (mp_bit_256 (by have := hcd.1.1; omega))⟩
      have hgt : z w < mp_or (z w) (mp_bit k) := mp_or_gt (h2 w g1.1 (by omega)).1 (by rw [g3]; exact hcd.2)
      have hsum := mp_sum_ud (z := z) (w := w) (x := mp_or (z w) (mp_bit k)) ⟨g1.1, by omega⟩
      have hlate : ∀ l, L < l → l ≤ 4 → ∀ j, 0 ≤ j → ¬ wA (wAdd z w k) l j := fun l a b j hj c => by
        rcases (wAdd_iff (by omega) hj).mp c with c | c
        · exact h3 l a b j hj c
        · omega
      by_cases hc : q k < 0 ∨ sp_rather s k w (q k) ≠ 0
      · rw [mp_wIn_sw hk hc]
        obtain ⟨a1, a2, a3⟩ := wSt_take hs ⟨g1.1, by omega⟩ h1 g2 hk0 (by rw [← g3]; exact hc)
        rw [← g3] at a1 a2 a3
        have hset : ∀ l, 0 ≤ l → l ≤ L → l ≠ q k → wSet s (wAdd z w k) l := fun l b1 b2 b3 => by
          by_cases e : l = w
          · subst e; exact Or.inl ⟨k, by omega, a2⟩
          · refine wSet_add (by omega) e (g4 l b1 b2 e) (fun b => ?_)
            rcases h1.2.2.1 k (by omega) with ⟨-, c2⟩ | c2
            · exact absurd b.1 (c2 l b1 (by omega))
            · exact absurd (wBest_one b c2) b3
        by_cases hq : q k < 0
        · rw [if_pos hq]
          exact ih _ _ _ _ ⟨a1, hz2, hlate, Or.inl ⟨hq, by decide, fun l b1 b2 => hset l b1 b2 (by omega)⟩⟩ (Or.inl (show (-4 : Int) < 0 by decide))
        · rw [if_neg hq]
          have hqk : wBest s z k (q k) := by
            rcases h1.2.2.1 k (by omega) with ⟨c1, -⟩ | c2
            · omega
            · exact c2
          have hqL : q k ≤ L := by
            apply Classical.byContradiction
            intro hn
            exact h3 (q k) (by omega) hqk.2.1.2 k (by omega) hqk.1
          exact ih _ _ _ _ ⟨a1, hz2, hlate, Or.inr ⟨⟨by omega, hqL⟩, a3 (by omega), rfl, hset⟩⟩ (Or.inr (by omega))
      · rw [mp_wIn_st hk hc]
        obtain ⟨a1, a2, a3⟩ := wSt_no hs ⟨g1.1, by omega⟩ h1 g2 hk0 (by rw [← g3]; exact hc)
        rw [← g3] at a1 a2 a3
        refine ih _ _ _ _ ⟨a1, hz2, hlate, Or.inr ⟨g1, a2, rfl, fun l b1 b2 b3 => wSet_add (by omega) b3 (g4 l b1 b2 b3) (fun b => ?_)⟩⟩ (Or.inr (by omega))
        rcases h1.2.2.1 k (by omega) with ⟨-, c2⟩ | c2
        · exact absurd b.1 (c2 l b1 (by omega))
        · rw [wBest_one b c2]; exact a3
theorem wSt_0 {s : Int → Int} : wSt s (fun _ => -4) (fun _ => 0) :=
  ⟨fun l _ _ k _ h => absurd h (mp_b_0 k), fun c _ l _ _ k _ h => absurd h (mp_b_0 k), fun k _ => Or.inl ⟨rfl, fun l _ _ => mp_b_0 k⟩, fun l k j _ _ h => absurd h.1 (mp_b_0 k)⟩
theorem wModel {s : Int → Int} (hs : mp_sky s) : wSt s (sp_weds s).1 (sp_weds s).2 ∧ wCl s (sp_weds s).2 := by
  have := mp_fold_inv_lt (f := sp_wOut s) (fun i p => 0 ≤ i ∧ wSt s p.1 p.2 ∧ mp_aok p.2 ∧ (∀ l, i ≤ l → l ≤ 4 → ∀ k, 0 ≤ k → ¬ wA p.2 l k) ∧ ∀ l, 0 ≤ l → l < i → wSet s p.2 l) 5 (fun i p hi h => by
    obtain ⟨h0, h1, h2, h3, h4⟩ := h
    have hsum := mp_aok_sum h2
    have := wIn_go hs (L := i) (by omega) 1276 i (sp_next1 s p.2 i) p.1 p.2 ⟨h1, h2, fun l a b k c => h3 l (by omega) b k c, Or.inr ⟨⟨h0, Int.le_refl _⟩, fun k hk b => h3 i (Int.le_refl _) (by omega) k hk b.1, rfl, fun l a b c => h4 l a (by omega)⟩⟩ (Or.inr (by omega))
    exact ⟨by omega, this.1, this.2.1, fun l a b k c => this.2.2.1 l (by omega) b k c, fun l a b => this.2.2.2 l a (by omega)⟩) 5 0 ((fun _ => -4), (fun _ => 0)) (by decide) ⟨by decide, wSt_0, fun l _ _ => ⟨Int.le_refl 0, by show (0 : Int) < 256; decide⟩, fun l _ _ k _ => mp_b_0 k, fun l a b => by omega⟩
  exact ⟨this.2.1, this.2.1.1, fun l a b => this.2.2.2.2 l a (by show l < 0 + ((5 : Nat) : Int); omega)⟩
/-- two matchings that are at their ends -/
theorem wSame {s q z q' z' : Int → Int} (h : wSt s q z) (hc : wCl s z) (h' : wSt s q' z') (hc' : wCl s z') {k l : Int} (hk : 0 ≤ k) : wBest s z k l ↔ wBest s z' k l := by
  have e : ∀ l, 0 ≤ l → l ≤ 4 → (wA z l k ↔ wA z' l k) := fun l a b => ⟨h.2.1 z' hc' l a b k hk, h'.2.1 z hc l a b k hk⟩
  constructor
  · rintro ⟨h1, h2, h3⟩; exact ⟨(e l h2.1 h2.2).mp h1, h2, fun l' a b c => h3 l' a b ((e l' a b).mpr c)⟩
  · rintro ⟨h1, h2, h3⟩; exact ⟨(e l h2.1 h2.2).mpr h1, h2, fun l' a b c => h3 l' a b ((e l' a b).mp c)⟩
theorem sp_wedN_no {q : Int → Int} {l : Int} : ∀ (n : Nat) (k : Int), (∀ j, k ≤ j → j < k + n → q j ≠ l) → sp_wedN q l n k = -4 := by
  intro n
  induction n with
  | zero => intro k _; rfl
  | succ n ih => intro k h; show (if q k = l then k else sp_wedN q l n (k + 1)) = -4; rw [if_neg (h k (Int.le_refl _) (by omega))]; exact ih _ (fun j a b => h j (by omega) (by omega))
theorem sp_wedN_yes {q : Int → Int} {l m : Int} (hm : q m = l) : ∀ (n : Nat) (k : Int), k ≤ m → m < k + n → (∀ j, k ≤ j → j < k + n → q j = l → j = m) → sp_wedN q l n k = m := by
  intro n
  induction n with
  | zero => intro k h1 h2; omega
  | succ n ih =>
    intro k h1 h2 h
    show (if q k = l then k else sp_wedN q l n (k + 1)) = m
    by_cases e : q k = l
    · rw [if_pos e]; exact h k (Int.le_refl _) (by omega) e
    · rw [if_neg e]
      have : k ≠ m := fun e2 => e (e2 ▸ hm)
      exact ih _ (by omega) (by omega) (fun j a b => h j (by omega) (by omega))
/-- what the class holds at the end tells what the reference tells -/
theorem wAnswer {s q z : Int → Int} {l x : Int} (hs : mp_sky s) (hl : 0 ≤ l ∧ l ≤ 4) (h : wSt s q z) (hc : wCl s z) (hx : (x = 9 ∧ wFree s z l) ∨ (0 ≤ x ∧ wBest s z x l)) : (if x = 9 then -4 else x) = sp_wed s l := by
  obtain ⟨m1, m2⟩ := wModel hs
  have e0 : sp_wed s l = sp_wedN (sp_weds s).1 l (s 0).toNat 0 := if_neg (fun h => h hl)
  rw [e0]
  have hs0 := hs.1
  rcases hx with ⟨rfl, hx⟩ | ⟨hx0, hx⟩
  · rw [if_pos rfl]
    refine (sp_wedN_no _ _ (fun j a b e => ?_)).symm
    rcases m1.2.2.1 j a with ⟨g1, -⟩ | g
    · omega
    · rw [e] at g
      exact hx j a ((wSame h hc m1 m2 a).mpr g)
  · have hcd := (h.1 l hl.1 hl.2 x hx0 hx.1).1
    rw [if_neg (by have := hcd.1; omega)]
    have gx := (wSame h hc m1 m2 hx0).mp hx
    have e : (sp_weds s).1 x = l := by
      rcases m1.2.2.1 x hx0 with ⟨-, g⟩ | g
      · exact absurd gx.1 (g l hl.1 hl.2)
      · exact wBest_one g gx
    refine (sp_wedN_yes e _ _ hx0 (by have := hcd.1; omega) (fun j a b e2 => ?_)).symm
    rcases m1.2.2.1 j a with ⟨g1, -⟩ | g
    · omega
    · rw [e2] at g
      exact m1.2.2.2 l j x a hx0 g gx
/-! how many have been asked -/
theorem mp_bits_or {a k : Int} (hk : 0 ≤ k ∧ k < 16) (h : ¬ sp_b a k = 1) : sp_bits (mp_or a (mp_bit k)) = sp_bits a + 1 := by
  have key : ∀ (n : Nat) (i u v : Int), 0 ≤ i → mp_fold (fun j m => m + sp_b (mp_or a (mp_bit k)) j) n i u = mp_fold (fun j m => m + sp_b a j) n i v + (u - v) + (if i ≤ k ∧ k < i + n then 1 else 0) := by
    intro n
    induction n with
    | zero => intro i u v _; show u = v + (u - v) + _; rw [if_neg (by omega)]; omega
    | succ n ih =>
      intro i u v hi
      show mp_fold (fun j m => m + sp_b (mp_or a (mp_bit k)) j) n (i + 1) (u + sp_b (mp_or a (mp_bit k)) i) = mp_fold (fun j m => m + sp_b a j) n (i + 1) (v + sp_b a i) + (u - v) + _
      rw [ih (i + 1) _ (v + sp_b a i) (by omega)]
      have e : sp_b (mp_or a (mp_bit k)) i = sp_b a i + (if i = k then 1 else 0) := by
        have h1 := mp_b_bd (mp_or a (mp_bit k)) i
        have h2 := mp_b_bd a i
        have h3 := mp_b_or (a := a) (b := mp_bit k) (k := i)
        have h4 := mp_b_bit hk.1 hi
        by_cases e : i = k
        · subst e; rw [if_pos rfl]; omega
        · rw [if_neg e]; omega
      rw [e]
      by_cases e2 : i = k
      · rw [if_pos e2, if_neg (by omega), if_pos (by omega)]; omega
      · rw [if_neg e2]
        by_cases e3 : i + 1 ≤ k ∧ k < i + 1 + n
        · rw [if_pos e3, if_pos (by omega)]; omega
        · rw [if_neg e3, if_neg (by omega)]; omega
  have := key 16 0 0 0 (Int.le_refl _)
  unfold sp_bits
  rw [this, if_pos (by omega)]
  omega
theorem mp_bits_8 {a : Int} (h : 0 ≤ a ∧ a < 256) : sp_bits a ≤ 8 := mp_bits_le (by decide) (fun j hj hb => by
  rw [mp_b_1] at hb
  rw [Nat.testBit_lt_two_pow (Nat.lt_of_lt_of_le (show a.toNat < 2 ^ 8 by omega) (Nat.pow_le_pow_right (by decide) (by omega)))] at hb
  exact absurd hb (by decide))
theorem mp_bits_full {a k : Int} (h : 0 ≤ a ∧ a < 256) (h8 : sp_bits a = 8) (hk : 0 ≤ k ∧ k < 8) : sp_b a k = 1 := by
  apply Classical.byContradiction
  intro hn
  have := mp_bits_or ⟨hk.1, by omega⟩ hn
  have := mp_bits_8 (a := mp_or a (mp_bit k)) ⟨mp_or_nn _ _, mp_or_256 h.2 (mp_bit_256 hk.2)⟩
  omega
def wCnt (z : Int → Int) : Int := sp_bits (z 0) + sp_bits (z 1) + sp_bits (z 2) + sp_bits (z 3) + sp_bits (z 4)
theorem wCnt_add {z : Int → Int} {w k : Int} (hw : 0 ≤ w ∧ w ≤ 4) (hk : 0 ≤ k ∧ k < 16) (h : ¬ wA z w k) : wCnt (wAdd z w k) = wCnt z + 1 := by
  have e := mp_bits_or hk h
  unfold wCnt wAdd mp_ud
  obtain rfl | rfl | rfl | rfl | rfl : w = 0 ∨ w = 1 ∨ w = 2 ∨ w = 3 ∨ w = 4 := by omega
  all_goals simp only [if_pos, if_neg, reduceIte, Int.reduceEq] at *
  all_goals omega
theorem wCnt_full {s z : Int → Int} (hs : mp_sky s) (hz : mp_aok z) (h : 40 ≤ wCnt z) : ∀ l, 0 ≤ l → l ≤ 4 → wSet s z l := fun l a b => by
  have hs0 := hs.1
  have b0 := mp_bits_8 (hz 0 (by decide) (by decide))
  have b1 := mp_bits_8 (hz 1 (by decide) (by decide))
  have b2 := mp_bits_8 (hz 2 (by decide) (by decide))
  have b3 := mp_bits_8 (hz 3 (by decide) (by decide))
  have b4 := mp_bits_8 (hz 4 (by decide) (by decide))
  unfold wCnt at h
  refine Or.inr fun k hk => ?_
  have hk8 := hk.1
  obtain rfl | rfl | rfl | rfl | rfl : l = 0 ∨ l = 1 ∨ l = 2 ∨ l = 3 ∨ l = 4 := by omega
  · exact mp_bits_full (hz 0 (by decide) (by decide)) (by omega) ⟨hk8.1, by omega⟩
  · exact mp_bits_full (hz 1 (by decide) (by decide)) (by omega) ⟨hk8.1, by omega⟩
  · exact mp_bits_full (hz 2 (by decide) (by decide)) (by omega) ⟨hk8.1, by omega⟩
  · exact mp_bits_full (hz 3 (by decide) (by decide)) (by omega) ⟨hk8.1, by omega⟩
  · exact mp_bits_full (hz 4 (by decide) (by decide)) (by omega) ⟨hk8.1, by omega⟩
