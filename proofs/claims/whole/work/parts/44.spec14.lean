/-! ===== bits of sets; a yes told STEP by STEP ===== -/
theorem mp_b_1 (a k : Int) : sp_b a k = 1 ↔ a.toNat.testBit k.toNat = true := by
  rw [mp_b_test]
  cases a.toNat.testBit k.toNat <;> simp
theorem mp_b_ne (a k : Int) : sp_b a k ≠ 0 ↔ sp_b a k = 1 := by
  have := mp_b_bd a k
  omega
theorem mp_b_or {a b k : Int} : sp_b (mp_or a b) k = 1 ↔ sp_b a k = 1 ∨ sp_b b k = 1 := by
  rw [mp_b_1, mp_b_1, mp_b_1]
  unfold mp_or
  rw [Int.toNat_natCast, Nat.testBit_or, Bool.or_eq_true]
theorem mp_b_bit {j k : Int} (hj : 0 ≤ j) (hk : 0 ≤ k) : sp_b (mp_bit j) k = 1 ↔ j = k := by
  rw [mp_b_1]
  unfold mp_bit
  rw [Int.toNat_natCast, Nat.one_shiftLeft, Nat.testBit_two_pow, decide_eq_true_iff]
  omega
theorem mp_b_0 (k : Int) : ¬ sp_b 0 k = 1 := by
  rw [mp_b_1]
  show ¬ (0 : Nat).testBit k.toNat = true
  rw [Nat.zero_testBit]
  decide
theorem mp_b_dif {a b k : Int} : sp_b (mp_dif a b) k = 1 ↔ sp_b a k = 1 ∧ ¬ sp_b b k = 1 := by
  rw [mp_b_1, mp_b_1, mp_b_1]
  unfold mp_dif
  rw [Int.toNat_natCast, Nat.testBit_xor, Nat.testBit_and]
  cases a.toNat.testBit k.toNat <;> cases b.toNat.testBit k.toNat <;> simp
/-- two sets with the same bits are one -/
theorem mp_b_ext {a b : Int} (ha : 0 ≤ a) (hb : 0 ≤ b) (h : ∀ k, 0 ≤ k → (sp_b a k = 1 ↔ sp_b b k = 1)) : a = b := by
  have e : a.toNat = b.toNat := Nat.eq_of_testBit_eq fun i => by
    have h1 := h (i : Int) (by omega)
    rw [mp_b_1, mp_b_1, Int.toNat_natCast] at h1
    cases h2 : a.toNat.testBit i <;> cases h3 : b.toNat.testBit i <;> simp [h2, h3] at h1 ⊢
  omega
theorem mp_fold_set {F : Int → Int → Int} {P : Int → Prop} (h1 : ∀ k u, P k → F k u = mp_or u (mp_bit k)) (h0 : ∀ k u, ¬ P k → F k u = u) : ∀ (n : Nat) (i u : Int), 0 ≤ i → ∀ j, 0 ≤ j → (sp_b (mp_fold F n i u) j = 1 ↔ sp_b u j = 1 ∨ (i ≤ j ∧ j < i + n ∧ P j)) := by
  intro n
  induction n with
  | zero => intro i u _ j _; show sp_b u j = 1 ↔ _; constructor
            · exact Or.inl
            · rintro (h | ⟨h, h2, -⟩)
              · exact h
              · omega
  | succ n ih =>
    intro i u hi j hj
    show sp_b (mp_fold F n (i + 1) (F i u)) j = 1 ↔ _
    rw [ih (i + 1) (F i u) (by omega) j hj]
    by_cases hp : P i
    · rw [h1 i u hp, mp_b_or, mp_b_bit hi hj]
      constructor
      · rintro ((h | h) | ⟨h, h2, h3⟩)
        · exact Or.inl h
        · subst h; exact Or.inr ⟨by omega, by omega, hp⟩
        · exact Or.inr ⟨by omega, by omega, h3⟩
      · rintro (h | ⟨h, h2, h3⟩)
        · exact Or.inl (Or.inl h)
        · by_cases hij : i = j
          · exact Or.inl (Or.inr hij)
          · exact Or.inr ⟨by omega, by omega, h3⟩
    · rw [h0 i u hp]
      constructor
      · rintro (h | ⟨h, h2, h3⟩)
        · exact Or.inl h
        · exact Or.inr ⟨by omega, by omega, h3⟩
      · rintro (h | ⟨h, h2, h3⟩)
        · exact Or.inl h
        · by_cases hij : i = j
          · subst hij; exact absurd h3 hp
          · exact Or.inr ⟨by omega, by omega, h3⟩
abbrev sp_isSeen (co sl br q t : Int) : Prop := (if sp_over co sl t - q < 0 then -(sp_over co sl t - q) else sp_over co sl t - q) ≤ br
theorem mp_b_seen {co sl br q : Int} (N : Nat) {j : Int} (hj : 0 ≤ j) : sp_b (mp_fold (sp_seenStep co sl br q) N 0 0) j = 1 ↔ j < N ∧ sp_isSeen co sl br q j := by
  rw [mp_fold_set (F := sp_seenStep co sl br q) (P := sp_isSeen co sl br q) (fun k u h => if_pos h) (fun k u h => if_neg h) N 0 0 (Int.le_refl _) j hj]
  constructor
  · rintro (h | ⟨-, h, h2⟩)
    · exact absurd h (mp_b_0 j)
    · exact ⟨by omega, h2⟩
  · rintro ⟨h, h2⟩
    exact Or.inr ⟨hj, by omega, h2⟩
theorem sp_yesBy_s {S e t c : Int} {n : Nat} : sp_yesBy S e (n + 1) t c = if c + sp_b S t = e then t else sp_yesBy S e n (t + 1) (c + sp_b S t) := rfl
theorem sp_yF_eq {co sl br q e : Int} (he : 1 ≤ e) {N : Nat} (hN : N ≤ 16) : sp_yF co sl br q e N 0 0 = sp_yes (mp_fold (sp_seenStep co sl br q) N 0 0) e := by
  unfold sp_yes
  generalize hS : mp_fold (sp_seenStep co sl br q) N 0 0 = S
  have hb : ∀ j, 0 ≤ j → (sp_b S j = 1 ↔ j < N ∧ sp_isSeen co sl br q j) := fun j hj => by rw [← hS]; exact mp_b_seen N hj
  have end9 : ∀ (m : Nat) (t c : Int), 0 ≤ t → (N : Int) ≤ t → c < e → sp_yesBy S e m t c = -4 := by
    intro m
    induction m with
    | zero => intro t c _ _ _; rfl
    | succ m ih =>
      intro t c h0 h1 h2
      have h3 := mp_b_bd S t
      have h4 : ¬ sp_b S t = 1 := fun h => by have := ((hb t h0).mp h).1; omega
      rw [sp_yesBy_s, if_neg (by omega), show c + sp_b S t = c by omega]
      exact ih (t + 1) c (by omega) (by omega) h2
  have main : ∀ (n m : Nat) (t c : Int), 0 ≤ t → t + n = N → t + m = 16 → c < e → sp_yF co sl br q e n t c = sp_yesBy S e m t c := by
    intro n
    induction n with
    | zero => intro m t c h0 h1 h2 h3; exact (end9 m t c h0 (by omega) h3).symm
    | succ n ih =>
      intro m t c h0 h1 h2 h3
      obtain ⟨m, rfl⟩ : ∃ m', m = m' + 1 := ⟨m - 1, by omega⟩
      have h4 := mp_b_bd S t
      have h5 := hb t h0
      rw [sp_yF_s, sp_yesBy_s]
      by_cases hs : sp_isSeen co sl br q t
      · have h6 : sp_b S t = 1 := h5.mpr ⟨by omega, hs⟩
        rw [if_pos hs, h6]
        by_cases hc : c + 1 = e
        · rw [if_pos hc, if_pos hc]
        · rw [if_neg hc, if_neg hc]
          exact ih m (t + 1) (c + 1) (by omega) (by omega) (by omega) (by omega)
      · have h6 : sp_b S t = 0 := by have : ¬ sp_b S t = 1 := fun h => hs (h5.mp h).2
                                     omega
        rw [if_neg hs, h6, if_neg (by omega), show c + 0 = c by omega]
        exact ih m (t + 1) c (by omega) (by omega) (by omega) h3
  exact main N 16 0 0 (Int.le_refl _) (by omega) (by omega) (by omega)
theorem sp_yF_yes {kd f co sl q e : Int} (he : 1 ≤ e) (hf : 0 ≤ f ∧ f ≤ 9) : sp_yF co sl (sp_bright kd f) q e (Int.toNat (sp_lasts kd f)) 0 0 = sp_yes (sp_seen kd f co sl q) e := by
  have := mp_lasts_bd (kind := kd) hf
  rw [sp_yF_eq he (by omega)]
  rfl
/-- seen by any, told LOOKER by LOOKER -/
def sc_any (s : Int → Int) (k : Int) : Nat → Int → Int
  | 0, _ => 0
  | n + 1, l => if sp_seen (s (1 + 6 * k + 0)) (s (1 + 6 * k + 1)) (s (1 + 6 * k + 2)) (s (1 + 6 * k + 3)) (s (49 + 3 * l + 0)) = 0 then sc_any s k n (l + 1) else 1
theorem sc_any_eq (s : Int → Int) (k : Int) : sc_any s k 5 0 = sp_any s k := by
  have one : ∀ (n : Nat) (l : Int), mp_fold (sp_anyStep s k) n l 1 = 1 := by
    intro n
    induction n with
    | zero => intro l; rfl
    | succ n ih =>
      intro l
      show mp_fold (sp_anyStep s k) n (l + 1) (sp_anyStep s k l 1) = 1
      have : sp_anyStep s k l 1 = 1 := by unfold sp_anyStep; split <;> rfl
      rw [this]; exact ih (l + 1)
  have main : ∀ (n : Nat) (l : Int), sc_any s k n l = mp_fold (sp_anyStep s k) n l 0 := by
    intro n
    induction n with
    | zero => intro l; rfl
    | succ n ih =>
      intro l
      show (if _ then _ else _) = mp_fold (sp_anyStep s k) n (l + 1) (sp_anyStep s k l 0)
      unfold sp_anyStep
      by_cases h : sp_seen (s (1 + 6 * k + 0)) (s (1 + 6 * k + 1)) (s (1 + 6 * k + 2)) (s (1 + 6 * k + 3)) (s (49 + 3 * l + 0)) = 0
      · rw [if_pos h, if_pos h]; exact ih (l + 1)
      · rw [if_neg h, if_neg h]; exact (one n (l + 1)).symm
  exact main 5 0
theorem sc_any_01 (s : Int → Int) (k : Int) : ∀ (n : Nat) (l : Int), sc_any s k n l = 0 ∨ sc_any s k n l = 1 := by
  intro n
  induction n with
  | zero => intro l; exact Or.inl rfl
  | succ n ih =>
    intro l
    unfold sc_any
    split
    · exact ih (l + 1)
    · exact Or.inr rfl
theorem mp_need_bd {v : Int} (h : 0 ≤ v ∧ v ≤ 9) : 1 ≤ sp_need v ∧ sp_need v ≤ 4 := by unfold sp_need; omega
theorem mp_b_said {s : Int → Int} (hs : mp_sky s) {k : Int} (hk : 0 ≤ k ∧ k ≤ 7) : sp_b (sp_said s) k = 1 ↔ sp_isSaid s k 5 0 ≠ 0 := by
  have key : ∀ (n : Nat) (l u : Int), 0 ≤ l → l + n = 5 → (sp_b (mp_fold (sp_saidStep s) n l u) k = 1 ↔ sp_b u k = 1 ∨ sp_isSaid s k n l ≠ 0) := by
    intro n
    induction n with
    | zero => intro l u _ _; show sp_b u k = 1 ↔ sp_b u k = 1 ∨ (0 : Int) ≠ 0; simp
    | succ n ih =>
      intro l u h0 h1
      show sp_b (mp_fold (sp_saidStep s) n (l + 1) (sp_saidStep s l u)) k = 1 ↔ sp_b u k = 1 ∨ (if s (49 + 3 * l + 2) = k then 1 else sp_isSaid s k n (l + 1)) ≠ 0
      rw [ih (l + 1) _ (by omega) (by omega)]
      have hl := hs.2.2.1 l h0 (by omega)
      have hz := hs.1
      unfold sp_saidStep
      by_cases h9 : s (49 + 3 * l + 2) = 9
      · rw [if_pos h9, if_neg (by omega)]
      · rw [if_neg h9, mp_b_or, mp_b_bit (by omega) hk.1]
        by_cases hk9 : s (49 + 3 * l + 2) = k
        · rw [if_pos hk9]; simp [hk9]
        · rw [if_neg hk9]; simp [hk9]
  have := key 5 0 0 (Int.le_refl _) (by omega)
  unfold sp_said
  rw [this]
  simp [mp_b_0]
theorem mp_b_waiting {s : Int → Int} {l : Int} (hl : 0 ≤ l ∧ l ≤ 4) : sp_b (sp_waiting s) l = 1 ↔ s (49 + 3 * l + 2) = 9 := by
  unfold sp_waiting
  rw [mp_fold_set (F := sp_waitStep s) (P := fun l => s (49 + 3 * l + 2) = 9) (fun k u h => if_pos h) (fun k u h => if_neg h) 5 0 0 (Int.le_refl _) l hl.1]
  constructor
  · rintro (h | ⟨-, -, h⟩)
    · exact absurd h (mp_b_0 l)
    · exact h
  · intro h; exact Or.inr ⟨hl.1, by omega, h⟩
theorem mp_b_31 {l : Int} (hl : 0 ≤ l ∧ l ≤ 4) : sp_b 31 l = 1 := by
  obtain rfl | rfl | rfl | rfl | rfl : l = 0 ∨ l = 1 ∨ l = 2 ∨ l = 3 ∨ l = 4 := by omega
  all_goals decide
theorem mp_waiting_bd (s : Int → Int) : 0 ≤ sp_waiting s ∧ sp_waiting s < 256 :=
  mp_fold_inv_lt (f := sp_waitStep s) (fun _ a => 0 ≤ a ∧ a < 256) 5 (fun i a hi h => mp_waitStep_bd (by omega) h) 5 0 0 (by omega) ⟨by omega, by omega⟩
theorem mp_taken_aug (s : Int → Int) : sp_taken s = mp_fold (sp_augOne s 0) (Int.toNat (s 0)) 0 0 := by
  unfold sp_taken
  refine mp_fold_congr _ _ _ (fun k n _ _ => ?_)
  unfold sp_augOne
  by_cases h : 0 ≤ sp_taker s k 0
  · rw [if_pos h, if_pos ⟨h, Or.inl rfl⟩]
  · rw [if_neg h, if_neg (fun q => h q.1)]
