/-! ===== ROOFS: the fewest COLUMNS, of several the least ===== -/
def rf_cv (cv : Int → Int) (w S : Nat) : Prop := ∀ j, w.testBit j = true → ∃ c, S.testBit c = true ∧ (cv (c : Int)).toNat.testBit j = true
def sc_first (F : Int → Int) : Nat → Int → Int
  | 0, _ => -4
  | n + 1, h => if 0 ≤ F h then mp_or (F h) (mp_bit h) else sc_first F n (h + 1)
theorem sc_first_s {F : Int → Int} {n : Nat} {h : Int} : sc_first F (n + 1) h = if 0 ≤ F h then mp_or (F h) (mp_bit h) else sc_first F n (h + 1) := rfl
/-- the least set of so many COLUMNS below a limit under which all that is wanted is SEEN -/
def sc_lc (cv : Int → Int) : Nat → Int → Int → Int
  | 0, w, _ => if w = 0 then 0 else -4
  | k + 1, w, b => sc_first (fun h => sc_lc cv k (mp_dif w (cv h)) h) (b - (k : Int)).toNat (k : Int)
def rf_ok (cv : Int → Int) (k : Nat) (w : Int) (b : Nat) (r : Int) : Prop :=
  (r = -4 ∧ ∀ S : Nat, S < 2 ^ b → mp_pc S 16 = k → ¬ rf_cv cv w.toNat S) ∨
  ∃ R : Nat, r = (R : Int) ∧ R < 2 ^ b ∧ mp_pc R 16 = k ∧ rf_cv cv w.toNat R ∧ ∀ S : Nat, S < 2 ^ b → mp_pc S 16 = k → rf_cv cv w.toNat S → R ≤ S
theorem mp_pc_0 : ∀ m, mp_pc 0 m = 0 := by
  intro m
  induction m with
  | zero => rfl
  | succ m ih => show mp_pc 0 m + (if (0 : Nat).testBit m then 1 else 0) = 0; rw [ih, Nat.zero_testBit]; rfl
theorem rf_pc {h S : Nat} (hh : h < 16) (hS : S < 2 ^ h) : mp_pc (2 ^ h + S) 16 = mp_pc S 16 + 1 := by
  have h1 := mp_pc_top hS
  have h2 := mp_pc_hi (c := 2 ^ h + S) (n := h + 1) (by rw [Nat.pow_succ]; omega) (16 - (h + 1))
  have h3 := mp_pc_hi hS (16 - h)
  rw [show h + 1 + (16 - (h + 1)) = 16 by omega] at h2
  rw [show h + (16 - h) = 16 by omega] at h3
  rw [h2, h3, h1]
theorem rf_pc_le {h S : Nat} (hh : h ≤ 16) (hS : S < 2 ^ h) : mp_pc S 16 ≤ (h : Int) := by
  have h3 := mp_pc_hi hS (16 - h)
  rw [show h + (16 - h) = 16 by omega] at h3
  rw [h3]; exact (mp_pc_bd S h).2
theorem rf_or {h S : Nat} (hS : S < 2 ^ h) : 2 ^ h + S = S ||| 2 ^ h := by
  have := Nat.two_pow_add_eq_or_of_lt hS 1
  rw [Nat.mul_one] at this
  rw [this, Nat.or_comm]
theorem rf_bit {h S c : Nat} (hS : S < 2 ^ h) : (2 ^ h + S).testBit c = true ↔ c = h ∨ S.testBit c = true := by
  rw [rf_or hS, Nat.testBit_or, Nat.testBit_two_pow, Bool.or_eq_true, decide_eq_true_iff]
  constructor
  · rintro (h | h)
    · exact Or.inr h
    · exact Or.inl h.symm
  · rintro (h | h)
    · exact Or.inr h.symm
    · exact Or.inl h
theorem rf_dif (a b : Int) (j : Nat) : (mp_dif a b).toNat.testBit j = true ↔ a.toNat.testBit j = true ∧ ¬ b.toNat.testBit j = true := by
  unfold mp_dif
  rw [Int.toNat_natCast, Nat.testBit_xor, Nat.testBit_and]
  cases a.toNat.testBit j <;> cases b.toNat.testBit j <;> simp
theorem rf_cv_split {cv : Int → Int} {w : Int} {h S : Nat} (hS : S < 2 ^ h) : rf_cv cv w.toNat (2 ^ h + S) ↔ rf_cv cv (mp_dif w (cv (h : Int))).toNat S := by
  constructor
  · intro hc j hj
    rw [rf_dif] at hj
    obtain ⟨c, h1, h2⟩ := hc j hj.1
    rcases (rf_bit hS).mp h1 with rfl | h3
    · exact absurd h2 hj.2
    · exact ⟨c, h3, h2⟩
  · intro hc j hj
    by_cases hb : (cv (h : Int)).toNat.testBit j = true
    · exact ⟨h, (rf_bit hS).mpr (Or.inl rfl), hb⟩
    · obtain ⟨c, h1, h2⟩ := hc j ((rf_dif _ _ _).mpr ⟨hj, hb⟩)
      exact ⟨c, (rf_bit hS).mpr (Or.inr h1), h2⟩
theorem rf_step {cv : Int → Int} {k : Nat} {w : Int} (F : Int → Int) (hF : ∀ h : Nat, h ≤ 16 → rf_ok cv k (mp_dif w (cv (h : Int))) h (F (h : Int))) : ∀ (n h : Nat), h + n ≤ 16 → (∀ S : Nat, S < 2 ^ h → mp_pc S 16 = ((k + 1 : Nat) : Int) → ¬ rf_cv cv w.toNat S) → rf_ok cv (k + 1) w (h + n) (sc_first F n (h : Int)) := by
  intro n
  induction n with
  | zero => intro h _ hn; exact Or.inl ⟨rfl, hn⟩
  | succ n ih =>
    intro h hh hn
    rw [sc_first_s]
    have hp : 2 ^ (h + 1) = 2 ^ h + 2 ^ h := by rw [Nat.pow_succ]; omega
    have hle : 2 ^ (h + 1) ≤ 2 ^ (h + (n + 1)) := Nat.pow_le_pow_right (by decide) (by omega)
    rcases hF h (by omega) with ⟨h1, h2⟩ | ⟨R, h1, h2, h3, h4, h5⟩
    · rw [if_neg (by rw [h1]; decide)]
      have := ih (h + 1) (by omega) (fun S hS hpc hc => ?_)
      · rw [show h + (n + 1) = h + 1 + n by omega]; exact this
      · by_cases hlt : S < 2 ^ h
        · exact hn S hlt hpc hc
        · obtain ⟨S', rfl⟩ : ∃ S', S = 2 ^ h + S' := ⟨S - 2 ^ h, by omega⟩
          have hS' : S' < 2 ^ h := by omega
          rw [rf_pc (by omega) hS'] at hpc
          exact h2 S' hS' (by push_cast at hpc; omega) ((rf_cv_split hS').mp hc)
    · rw [if_pos (by rw [h1]; omega)]
      refine Or.inr ⟨2 ^ h + R, ?_, by omega, ?_, (rf_cv_split h2).mpr h4, fun S hS hpc hc => ?_⟩
      · rw [h1, rf_or h2]
        unfold mp_or mp_bit
        rw [Int.toNat_natCast, Int.toNat_natCast, Int.toNat_natCast, Nat.one_shiftLeft]
      · rw [rf_pc (by omega) h2, h3]; rfl
      · by_cases hlt : S < 2 ^ h
        · exact absurd hc (hn S hlt hpc)
        · by_cases hlt2 : S < 2 ^ (h + 1)
          · obtain ⟨S', rfl⟩ : ∃ S', S = 2 ^ h + S' := ⟨S - 2 ^ h, by omega⟩
            have hS' : S' < 2 ^ h := by omega
            rw [rf_pc (by omega) hS'] at hpc
            have := h5 S' hS' (by push_cast at hpc; omega) ((rf_cv_split hS').mp hc)
            omega
          · omega
theorem rf_none0 {cv : Int → Int} {w S : Nat} (h : mp_pc S 16 = ((0 : Nat) : Int)) (hS : S < 2 ^ 16) : S = 0 := by
  by_cases h0 : S = 0
  · exact h0
  · exfalso
    have hl : ∀ b : Nat, b ≤ 16 → S < 2 ^ b → False := by
      intro b
      induction b with
      | zero => intro _ hb; rw [Nat.pow_zero] at hb; omega
      | succ b ih =>
        intro hb hS'
        by_cases hlt : S < 2 ^ b
        · exact ih (by omega) hlt
        · obtain ⟨S', rfl⟩ : ∃ S', S = 2 ^ b + S' := ⟨S - 2 ^ b, by omega⟩
          rw [Nat.pow_succ] at hS'
          rw [rf_pc (by omega) (by omega)] at h
          have h9 := (mp_pc_bd S' 16).1
          have : ((0 : Nat) : Int) = 0 := rfl
          omega
    exact hl 16 (by decide) hS
theorem rf_lc (cv : Int → Int) : ∀ (k : Nat) (w : Int) (b : Nat), 0 ≤ w → b ≤ 16 → k ≤ 16 → rf_ok cv k w b (sc_lc cv k w (b : Int)) := by
  intro k
  induction k with
  | zero =>
    intro w b hw hb _
    show rf_ok cv 0 w b (if w = 0 then 0 else -4)
    by_cases h0 : w = 0
    · rw [if_pos h0]
      exact Or.inr ⟨0, rfl, Nat.two_pow_pos b, mp_pc_0 16, fun j hj => by rw [h0] at hj; exact absurd hj (by show ¬ (0 : Nat).testBit j = true; rw [Nat.zero_testBit]; decide), fun S _ _ _ => Nat.zero_le _⟩
    · rw [if_neg h0]
      refine Or.inl ⟨rfl, fun S hS hpc hc => h0 ?_⟩
      have hS0 : S = 0 := rf_none0 (cv := cv) (w := 0) hpc (Nat.lt_of_lt_of_le hS (Nat.pow_le_pow_right (by decide) hb))
      subst hS0
      have : w.toNat = 0 := Nat.eq_of_testBit_eq fun j => by
        rw [Nat.zero_testBit]
        cases hj : w.toNat.testBit j
        · rfl
        · obtain ⟨c, h1, -⟩ := hc j hj
          rw [Nat.zero_testBit] at h1; exact absurd h1 (by decide)
      omega
  | succ k ih =>
    intro w b hw hb hk
    show rf_ok cv (k + 1) w b (sc_first (fun h => sc_lc cv k (mp_dif w (cv h)) h) ((b : Int) - (k : Int)).toNat (k : Int))
    by_cases hkb : k ≤ b
    · have := rf_step (cv := cv) (k := k) (w := w) (fun h => sc_lc cv k (mp_dif w (cv h)) h) (fun h hh => ih _ h (mp_dif_nn _ _) hh (by omega)) (b - k) k (by omega) (fun S hS hpc _ => by
        have := rf_pc_le (by omega) hS
        push_cast at hpc; omega)
      rw [show ((b : Int) - (k : Int)).toNat = b - k by omega]
      rw [show k + (b - k) = b by omega] at this
      exact this
    · rw [show ((b : Int) - (k : Int)).toNat = 0 by omega]
      refine Or.inl ⟨rfl, fun S hS hpc _ => ?_⟩
      have := rf_pc_le hb hS
      push_cast at hpc; omega
theorem rf_lc_bd {cv : Int → Int} {k : Nat} {w b : Int} (hw : 0 ≤ w) (hb : 0 ≤ b ∧ b ≤ 16) (hk : k ≤ 16) : sc_lc cv k w b = -4 ∨ (0 ≤ sc_lc cv k w b ∧ sc_lc cv k w b < 65536) := by
  have h := rf_lc cv k w b.toNat hw (by omega) hk
  rw [show ((b.toNat : Nat) : Int) = b by omega] at h
  rcases h with h | ⟨R, h1, h2, -⟩
  · exact Or.inl h.1
  · have : 2 ^ b.toNat ≤ 2 ^ 16 := Nat.pow_le_pow_right (by decide) (by omega)
    exact Or.inr ⟨by omega, by omega⟩
/-! the reference: all sets of COLUMNS, one behind the other -/
theorem rf_dif0 {a b : Int} (ha : 0 ≤ a) : mp_dif a b = 0 ↔ ∀ j, a.toNat.testBit j = true → b.toNat.testBit j = true := by
  constructor
  · intro h j hj
    cases hb : b.toNat.testBit j
    · have := (rf_dif a b j).mpr ⟨hj, by rw [hb]; decide⟩
      rw [h] at this
      exact absurd this (by show ¬ (0 : Nat).testBit j = true; rw [Nat.zero_testBit]; decide)
    · rfl
  · intro h
    have : (mp_dif a b).toNat = 0 := Nat.eq_of_testBit_eq fun j => by
      rw [Nat.zero_testBit]
      cases hj : (mp_dif a b).toNat.testBit j
      · rfl
      · have := (rf_dif a b j).mp hj
        exact absurd (h j this.1) this.2
    have := mp_dif_nn a b
    omega
theorem rf_cov {s : Int → Int} {S j : Nat} : ∀ (n : Nat) (i u : Int), 0 ≤ i → ((mp_fold (sp_covStep s (S : Int)) n i u).toNat.testBit j = true ↔ u.toNat.testBit j = true ∨ ∃ c : Nat, i ≤ (c : Int) ∧ (c : Int) < i + n ∧ S.testBit c = true ∧ (sp_seenOf s (c : Int)).toNat.testBit j = true) := by
  intro n
  induction n with
  | zero =>
    intro i u _
    show u.toNat.testBit j = true ↔ _
    constructor
    · exact Or.inl
    · rintro (h | ⟨c, h1, h2, -⟩)
      · exact h
      · omega
  | succ n ih =>
    intro i u hi
    show (mp_fold (sp_covStep s (S : Int)) n (i + 1) (sp_covStep s (S : Int) i u)).toNat.testBit j = true ↔ _
    rw [ih (i + 1) _ (by omega)]
    unfold sp_covStep
    have hb : sp_b (S : Int) i = 1 ↔ S.testBit i.toNat = true := by rw [mp_b_1, Int.toNat_natCast]
    by_cases h1 : sp_b (S : Int) i = 1
    · rw [if_pos h1]
      unfold mp_or
      rw [Int.toNat_natCast, Nat.testBit_or, Bool.or_eq_true]
      constructor
      · rintro ((h | h) | ⟨c, h2, h3, h4⟩)
        · exact Or.inl h
        · exact Or.inr ⟨i.toNat, by omega, by omega, hb.mp h1, by rw [show ((i.toNat : Nat) : Int) = i by omega]; exact h⟩
        · exact Or.inr ⟨c, by omega, by omega, h4⟩
      · rintro (h | ⟨c, h2, h3, h4, h5⟩)
        · exact Or.inl (Or.inl h)
        · by_cases hc : (c : Int) = i
          · rw [hc] at h5; exact Or.inl (Or.inr h5)
          · exact Or.inr ⟨c, by omega, by omega, h4, h5⟩
    · rw [if_neg h1]
      constructor
      · rintro (h | ⟨c, h2, h3, h4⟩)
        · exact Or.inl h
        · exact Or.inr ⟨c, by omega, by omega, h4⟩
      · rintro (h | ⟨c, h2, h3, h4, h5⟩)
        · exact Or.inl h
        · by_cases hc : (c : Int) = i
          · have : c = i.toNat := by omega
            subst this
            exact absurd (hb.mpr h4) h1
          · exact Or.inr ⟨c, by omega, by omega, h4, h5⟩
theorem rf_all {s : Int → Int} (hs : mp_sky s) {S : Nat} (hS : S < 65536) : mp_dif (sp_want s) (sp_cov s (S : Int)) = 0 ↔ rf_cv (sp_seenOf s) (sp_want s).toNat S := by
  rw [rf_dif0 (mp_want_bd hs).1]
  have hc : ∀ j, (sp_cov s (S : Int)).toNat.testBit j = true ↔ ∃ c : Nat, S.testBit c = true ∧ (sp_seenOf s (c : Int)).toNat.testBit j = true := fun j => by
    unfold sp_cov
    rw [rf_cov 16 0 0 (Int.le_refl _)]
    constructor
    · rintro (h | ⟨c, -, -, h4, h5⟩)
      · exact absurd h (by show ¬ (0 : Nat).testBit j = true; rw [Nat.zero_testBit]; decide)
      · exact ⟨c, h4, h5⟩
    · rintro ⟨c, h4, h5⟩
      have hc16 : c < 16 := by
        by_cases h : c < 16
        · exact h
        · rw [Nat.testBit_lt_two_pow (Nat.lt_of_lt_of_le hS (show 2 ^ 16 ≤ 2 ^ c from Nat.pow_le_pow_right (by decide) (by omega)))] at h4
          exact absurd h4 (by decide)
      exact Or.inr ⟨c, by omega, by omega, h4, h5⟩
  constructor
  · intro h j hj; exact (hc j).mp (h j hj)
  · intro h j hj; exact (hc j).mpr (h j hj)
def rf_best (s : Int → Int) (t f : Int) : Prop :=
  (f = -4 ∧ ∀ S : Nat, (S : Int) < t → mp_pc S 16 ≤ 4 → ¬ rf_cv (sp_seenOf s) (sp_want s).toNat S) ∨
  ∃ R : Nat, f = (R : Int) ∧ (R : Int) < t ∧ mp_pc R 16 ≤ 4 ∧ rf_cv (sp_seenOf s) (sp_want s).toNat R ∧ ∀ S : Nat, (S : Int) < t → mp_pc S 16 ≤ 4 → rf_cv (sp_seenOf s) (sp_want s).toNat S → mp_pc R 16 < mp_pc S 16 ∨ (mp_pc R 16 = mp_pc S 16 ∧ R ≤ S)
theorem rf_model {s : Int → Int} (hs : mp_sky s) : rf_best s 65536 (sp_roofs s) := by
  have key := mp_fold_inv_lt (f := sp_roofStep s) (fun t f => 0 ≤ t ∧ rf_best s t f) 65536 (fun t f ht h => by
    obtain ⟨h0, h⟩ := h
    obtain ⟨T, rfl⟩ := Int.eq_ofNat_of_zero_le h0
    have hbT : sp_bits (T : Int) = mp_pc T 16 := mp_bits_pc T
    have hall := rf_all hs (S := T) (by omega)
    refine ⟨by omega, ?_⟩
    unfold sp_roofStep
    rcases h with ⟨h1, h2⟩ | ⟨R, h1, h2, h3, h4, h5⟩
    · subst h1
      by_cases hb4 : 4 < sp_bits (T : Int)
      · rw [if_pos (Or.inl hb4)]
        refine Or.inl ⟨rfl, fun S hS hp hc => ?_⟩
        by_cases e : S = T
        · subst e; omega
        · exact h2 S (by omega) hp hc
      · rw [if_neg (by omega)]
        by_cases hc : mp_dif (sp_want s) (sp_cov s (T : Int)) = 0
        · rw [if_pos hc]
          refine Or.inr ⟨T, rfl, by omega, by omega, hall.mp hc, fun S hS hp hc' => ?_⟩
          by_cases e : S = T
          · subst e; exact Or.inr ⟨rfl, Nat.le_refl _⟩
          · exact absurd hc' (h2 S (by omega) hp)
        · rw [if_neg hc]
          refine Or.inl ⟨rfl, fun S hS hp hc' => ?_⟩
          by_cases e : S = T
          · subst e; exact hc (hall.mpr hc')
          · exact h2 S (by omega) hp hc'
    · subst h1
      have hbR : sp_bits (R : Int) = mp_pc R 16 := mp_bits_pc R
      by_cases hb4 : 4 < sp_bits (T : Int) ∨ (0 ≤ (R : Int) ∧ sp_bits (R : Int) ≤ sp_bits (T : Int))
      · rw [if_pos hb4]
        refine Or.inr ⟨R, rfl, by omega, h3, h4, fun S hS hp hc => ?_⟩
        by_cases e : S = T
        · subst e; omega
        · exact h5 S (by omega) hp hc
      · rw [if_neg hb4]
        by_cases hc : mp_dif (sp_want s) (sp_cov s (T : Int)) = 0
        · rw [if_pos hc]
          refine Or.inr ⟨T, rfl, by omega, by omega, hall.mp hc, fun S hS hp hc' => ?_⟩
          by_cases e : S = T
          · subst e; exact Or.inr ⟨rfl, Nat.le_refl _⟩
          · have := h5 S (by omega) hp hc'; omega
        · rw [if_neg hc]
          refine Or.inr ⟨R, rfl, by omega, h3, h4, fun S hS hp hc' => ?_⟩
          by_cases e : S = T
          · subst e; exact absurd (hall.mpr hc') hc
          · exact h5 S (by omega) hp hc') 65536 0 (-4) (by decide) ⟨by decide, Or.inl ⟨rfl, fun S hS => by omega⟩⟩
  exact key.2
theorem rf_top {s : Int → Int} (hs : mp_sky s) {k : Nat} (hk : k ≤ 4) (hn : ∀ j : Nat, j < k → sc_lc (sp_seenOf s) j (sp_want s) 16 < 0) (h : 0 ≤ sc_lc (sp_seenOf s) k (sp_want s) 16) : sp_roofs s = sc_lc (sp_seenOf s) k (sp_want s) 16 := by
  have hw := (mp_want_bd hs).1
  have hL : ∀ j : Nat, j ≤ 4 → rf_ok (sp_seenOf s) j (sp_want s) 16 (sc_lc (sp_seenOf s) j (sp_want s) 16) := fun j hj => rf_lc _ j _ 16 hw (by decide) (by omega)
  have hno : ∀ j : Nat, j < k → ∀ S : Nat, S < 2 ^ 16 → mp_pc S 16 = j → ¬ rf_cv (sp_seenOf s) (sp_want s).toNat S := fun j hj => by
    rcases hL j (by omega) with h1 | ⟨R, h1, -⟩
    · exact h1.2
    · have := hn j hj; omega
  rcases hL k hk with h1 | ⟨R, h1, h2, h3, h4, h5⟩
  · have := h1.1; omega
  · rcases rf_model hs with ⟨g1, g2⟩ | ⟨M, g1, g2, g3, g4, g5⟩
    · exact absurd h4 (g2 R (by omega) (by omega))
    · have hM : M < 2 ^ 16 := by omega
      have a1 := g5 R (by omega) (by omega) h4
      have hpM := (mp_pc_bd M 16).1
      have a2 : ¬ mp_pc M 16 < (k : Int) := fun hlt => hno (mp_pc M 16).toNat (by omega) M hM (by omega) g4
      have a3 : mp_pc M 16 = k := by omega
      have a4 := h5 M hM a3 g4
      rw [g1, h1]; omega
theorem rf_none {s : Int → Int} (hs : mp_sky s) (hn : ∀ j : Nat, j ≤ 4 → sc_lc (sp_seenOf s) j (sp_want s) 16 < 0) : sp_roofs s = -4 := by
  have hw := (mp_want_bd hs).1
  rcases rf_model hs with ⟨g1, g2⟩ | ⟨M, g1, g2, g3, g4, g5⟩
  · exact g1
  · exfalso
    have hpM := (mp_pc_bd M 16).1
    rcases rf_lc (sp_seenOf s) (mp_pc M 16).toNat (sp_want s) 16 hw (by decide) (by omega) with h1 | ⟨R, h1, -⟩
    · exact h1.2 M (by omega) (by omega) g4
    · have := hn (mp_pc M 16).toNat (by omega)
      have h9 : sc_lc (sp_seenOf s) (mp_pc M 16).toNat (sp_want s) ((16 : Nat) : Int) = sc_lc (sp_seenOf s) (mp_pc M 16).toNat (sp_want s) 16 := rfl
      omega
section
variable {Y : mp_Y} {K : Nat × Nat} {pc : Nat} {L : List (Option Value)} {st : List Value} {R : mp_An} {s si sp : Int → Int} {f fi fp : Nat → Option Nat} {im : Int} {hd : Int → Int} {kn : Nat → Option Nat} {wd ak ke cv vo so sz el : Int → Int} {A B : mp_H}
theorem mp_extCv {cv' : Int → Int} (hA : A.length = 1) (e : ∀ j, 0 ≤ j → j < 16 → cv j = cv' j) (k : mp_At Y K pc L st (A ++ (mp_cs s si sp f fi fp im hd kn wd ak ke cv' vo so sz el ++ B)) R) : mp_At Y K pc L st (A ++ (mp_cs s si sp f fi fp im hd kn wd ak ke cv vo so sz el ++ B)) R := by
  have e1 : A ++ (mp_cs s si sp f fi fp im hd kn wd ak ke cv vo so sz el ++ B) = (A ++ (mp_cs s si sp f fi fp im hd kn wd ak ke cv vo so sz el ++ B)).set 26 (mp_I 16 (mp_F cv)) := (mp_set_same (mp_lkP hA 25 rfl)).symm
  have e2 : (A ++ (mp_cs s si sp f fi fp im hd kn wd ak ke cv vo so sz el ++ B)).set 26 (mp_I 16 (mp_F cv')) = A ++ (mp_cs s si sp f fi fp im hd kn wd ak ke cv' vo so sz el ++ B) := mp_stP hA 25 (Nat.le_of_ble_eq_true rfl) rfl
  rw [e1]
  refine mp_extAt (fun j hj => e (j : Int) (by omega) (by omega)) ?_
  rw [e2]
  exact k
end

theorem sc_lc_s {cv : Int → Int} {k : Nat} {w b : Int} : sc_lc cv (k + 1) w b = sc_first (fun h => sc_lc cv k (mp_dif w (cv h)) h) (b - (k : Int)).toNat (k : Int) := rfl
theorem zX11_leastColumns0 {s si sp : Int → Int} {f fi fp : Nat → Option Nat} {im : Int} {hd : Int → Int} {kn : Nat → Option Nat} {wd ak ke cv vo so sz el : Int → Int} {A B : mp_H}  {u : Int} {b : Int} (hA : A.length = 1) (hcv : ∀ c, 0 ≤ c → c ≤ 15 → 0 ≤ cv c ∧ cv c < 256) (h_u : 0 ≤ u ∧ u < 256) (h_b : 0 ≤ b ∧ b ≤ 16) : mp_Call (mX11_leastColumns, 0, 0, 0) [Value.ref 1, mp_i u, mp_i 0, mp_i b] (A ++ (mp_cs s si sp f fi fp im hd kn wd ak ke cv vo so sz el ++ B)) (some (mp_i (sc_lc cv 0 u b)), A ++ (mp_cs s si sp f fi fp im hd kn wd ak ke cv vo so sz el ++ B)) := by
  refine mp_Call.of (L := [some (Value.ref 1), some (mp_i u), some (mp_i 0), some (mp_i b), none, none]) pnX11 (Nat.le_of_ble_eq_true rfl) rfl ?_
  refine mp_iload_n dX11_leastColumns_0 rfl ?_
  refine mp_if_gt (tgt := 15) dX11_leastColumns_1 rfl ⟨by decide, by decide⟩ (fun h1 => absurd h1 (by decide)) (fun _ => ?_)
  refine mp_iload_n dX11_leastColumns_4 rfl ?_
  refine mp_if_ne (tgt := 12) dX11_leastColumns_5 rfl ⟨by omega, by omega⟩ (fun h2 => ?_) (fun h2 => ?_)
  · refine mp_bipush dX11_leastColumns_12 rfl ?_
    exact mp_ireturn (st := []) dX11_leastColumns_14 rfl ⟨by decide, by decide⟩ ((mp_ans (by show (if u = 0 then 0 else -4) = _; first | (rw [if_pos (by omega)]; done) | (rw [if_neg (by omega)]; done))))
  · refine mp_iconst dX11_leastColumns_8 ?_
    refine mp_goto (tgt := 14) dX11_leastColumns_9 rfl ?_
    exact mp_ireturn (st := []) dX11_leastColumns_14 rfl ⟨by decide, by decide⟩ ((mp_ans (by show (if u = 0 then 0 else -4) = _; first | (rw [if_pos (by omega)]; done) | (rw [if_neg (by omega)]; done))))
theorem lX11_leastColumns1_20 {s si sp : Int → Int} {f fi fp : Nat → Option Nat} {im : Int} {hd : Int → Int} {kn : Nat → Option Nat} {wd ak ke cv vo so sz el : Int → Int} {A B : mp_H}  {u : Int} {b : Int} (hA : A.length = 1) (hcv : ∀ c, 0 ≤ c → c ≤ 15 → 0 ≤ cv c ∧ cv c < 256) (h_u : 0 ≤ u ∧ u < 256) (h_b : 0 ≤ b ∧ b ≤ 16) {R9 : mp_An} : ∀ (n : Nat) (h : Int), (0 ≤ h ∧ h + (n : Nat) = b) → R9 = (some (mp_i (sc_first (fun h => sc_lc cv 0 (mp_dif u (cv h)) h) n h)), A ++ (mp_cs s si sp f fi fp im hd kn wd ak ke cv vo so sz el ++ B)) → mp_At (mX11_leastColumns, 1, 0, 0) (0, 0) 20 [some (Value.ref 1), some (mp_i u), some (mp_i 1), some (mp_i b), some (mp_i h), none] [] (A ++ (mp_cs s si sp f fi fp im hd kn wd ak ke cv vo so sz el ++ B)) R9 := by
  intro n
  induction n with
  | zero =>
    intro h hi hR
    refine mp_iload dX11_leastColumns_20 rfl ?_
    refine mp_iload_n dX11_leastColumns_22 rfl ?_
    refine mp_icmp_ge (tgt := 74) dX11_leastColumns_23 rfl ⟨by omega, by omega⟩ ⟨by omega, by omega⟩ (fun h1 => ?_) (fun h1 => ?_)
    · refine mp_bipush dX11_leastColumns_74 rfl ?_
      exact mp_ireturn (st := []) dX11_leastColumns_76 rfl ⟨by decide, by decide⟩ (hR.trans (mp_ans rfl))
    · exfalso; omega
  | succ n ih =>
    intro h hi hR
    have hlb := rf_lc_bd (cv := cv) (k := 0) (w := mp_dif u (cv h)) (b := h) (mp_dif_nn _ _) (by omega) (by decide)
    have hdn := mp_dif_nn u (cv h)
    have hdl : mp_dif u (cv h) < 256 := mp_dif_lt (n := 8) h_u.2
    have hcvh := hcv h (by omega) (by omega)
    refine mp_iload dX11_leastColumns_20 rfl ?_
    refine mp_iload_n dX11_leastColumns_22 rfl ?_
    refine mp_icmp_ge (tgt := 74) dX11_leastColumns_23 rfl ⟨by omega, by omega⟩ ⟨by omega, by omega⟩ (fun h1 => ?_) (fun h1 => ?_)
    · exfalso; omega
    · refine mp_iload dX11_leastColumns_26 rfl ?_
      refine mp_bipush dX11_leastColumns_28 rfl ?_
      refine mp_icmp_ge (tgt := 74) dX11_leastColumns_30 rfl ⟨by omega, by omega⟩ ⟨by omega, by omega⟩ (fun h2 => ?_) (fun h2 => ?_)
      · exfalso; omega
      · refine mp_aload_n dX11_leastColumns_33 rfl ?_
        refine mp_iload_n dX11_leastColumns_34 rfl ?_
        refine mp_aload_n dX11_leastColumns_35 rfl ?_
        refine mp_getfield dX11_leastColumns_36 fsX11_47_10 (mp_lkP hA 0 rfl) rfl ?_
        refine mp_iload dX11_leastColumns_39 rfl ?_
        refine mp_iald dX11_leastColumns_41 (mp_lkP hA 25 rfl) ⟨by omega, by omega⟩ (by omega) ?_
        refine mp_iconst dX11_leastColumns_42 ?_
        refine mp_ixor (z := -1 - (cv h)) dX11_leastColumns_43 (mp_z_not _) ?_
        refine mp_iand (z := mp_dif u (cv h)) dX11_leastColumns_44 (mp_z_dif (by first | omega | exact mp_bit_nn _ | exact mp_or_nn _ _) (by first | omega | exact mp_bit_nn _ | exact mp_or_nn _ _)) ?_
        refine mp_iload_n dX11_leastColumns_45 rfl ?_
        refine mp_iconst dX11_leastColumns_46 ?_
        refine mp_isub (z := 0) dX11_leastColumns_47 (by first | rfl | omega) ?_
        refine mp_iload dX11_leastColumns_48 rfl ?_
        refine mp_invV (z := (mX11_leastColumns, 0, 0, 0)) (K' := (0, 0)) (σ1 := A ++ (mp_cs s si sp f fi fp im hd kn wd ak ke cv vo so sz el ++ B)) (as := [mp_i (mp_dif u (cv h)), mp_i 0, mp_i h]) (st := []) (st1 := [mp_i (sc_lc cv 0 (mp_dif u (cv h)) h)]) dX11_leastColumns_50 svX11_209 (mp_lkP hA 0 rfl) rfl rfl (zX11_leastColumns0 (u := (mp_dif u (cv h))) (b := h) (s := s) (si := si) (sp := sp) (f := f) (fi := fi) (fp := fp) (im := im) (hd := hd) (kn := kn) (wd := wd) (ak := ak) (ke := ke) (cv := cv) (vo := vo) (so := so) (sz := sz) (el := el) (B := B) (by first | with_reducible assumption | omega) (by first | with_reducible assumption | omega) (by first | with_reducible assumption | omega) (by first | with_reducible assumption | omega)) ⟨Nat.le_of_ble_eq_true rfl, Nat.le_of_ble_eq_true rfl, Nat.le_of_ble_eq_true rfl, Nat.le_of_ble_eq_true rfl, Nat.le_of_ble_eq_true rfl⟩ rfl rfl rfl rfl ?_
        refine mp_istore (L' := [some (Value.ref 1), some (mp_i u), some (mp_i 1), some (mp_i b), some (mp_i h), some (mp_i (sc_lc cv 0 (mp_dif u (cv h)) h))]) dX11_leastColumns_53 (by decide) rfl ?_
        refine mp_iload dX11_leastColumns_55 rfl ?_
        refine mp_if_lt (tgt := 68) dX11_leastColumns_57 rfl ⟨by omega, by omega⟩ (fun h3 => ?_) (fun h3 => ?_)
        · refine mp_iinc (z := h + 1) (L' := [some (Value.ref 1), some (mp_i u), some (mp_i 1), some (mp_i b), some (mp_i (h + 1)), some (mp_i (sc_lc cv 0 (mp_dif u (cv h)) h))]) dX11_leastColumns_68 rfl (rfl) (by decide) rfl ?_
          refine mp_goto (tgt := 20) dX11_leastColumns_71 rfl ?_
          refine mp_drop (L' := [some (Value.ref 1), some (mp_i u), some (mp_i 1), some (mp_i b), some (mp_i (h + 1)), none]) [true, true, true, true, true, false] rfl ?_
          exact ih (h + 1) (by omega) (hR.trans (by rw [sc_first_s, if_neg (by omega)]))
        · refine mp_iload dX11_leastColumns_60 rfl ?_
          refine mp_iconst dX11_leastColumns_62 ?_
          refine mp_iload dX11_leastColumns_63 rfl ?_
          refine mp_ishl (z := mp_bit h) dX11_leastColumns_65 (mp_z_bit ⟨by omega, by omega⟩) ?_
          refine mp_ior (z := mp_or (sc_lc cv 0 (mp_dif u (cv h)) h) (mp_bit h)) dX11_leastColumns_66 (mp_z_or (by first | omega | exact mp_bit_nn _ | exact mp_or_nn _ _ | exact mp_and_nn _ _ | exact mp_shr_nn _ _) (by first | omega | exact mp_bit_nn _ | exact mp_or_nn _ _ | exact mp_and_nn _ _ | exact mp_shr_nn _ _)) ?_
          exact mp_ireturn (st := []) dX11_leastColumns_67 rfl ⟨by decide, by decide⟩ (hR.trans (mp_ans (by rw [sc_first_s, if_pos (by omega)])))
theorem zX11_leastColumns1 {s si sp : Int → Int} {f fi fp : Nat → Option Nat} {im : Int} {hd : Int → Int} {kn : Nat → Option Nat} {wd ak ke cv vo so sz el : Int → Int} {A B : mp_H}  {u : Int} {b : Int} (hA : A.length = 1) (hcv : ∀ c, 0 ≤ c → c ≤ 15 → 0 ≤ cv c ∧ cv c < 256) (h_u : 0 ≤ u ∧ u < 256) (h_b : 0 ≤ b ∧ b ≤ 16) : mp_Call (mX11_leastColumns, 1, 0, 0) [Value.ref 1, mp_i u, mp_i 1, mp_i b] (A ++ (mp_cs s si sp f fi fp im hd kn wd ak ke cv vo so sz el ++ B)) (some (mp_i (sc_lc cv 1 u b)), A ++ (mp_cs s si sp f fi fp im hd kn wd ak ke cv vo so sz el ++ B)) := by
  refine mp_Call.of (L := [some (Value.ref 1), some (mp_i u), some (mp_i 1), some (mp_i b), none, none]) pnX11 (Nat.le_of_ble_eq_true rfl) rfl ?_
  refine mp_iload_n dX11_leastColumns_0 rfl ?_
  refine mp_if_gt (tgt := 15) dX11_leastColumns_1 rfl ⟨by decide, by decide⟩ (fun _ => ?_) (fun h1 => absurd h1 (by decide))
  refine mp_iload_n dX11_leastColumns_15 rfl ?_
  refine mp_iconst dX11_leastColumns_16 ?_
  refine mp_isub (z := 0) dX11_leastColumns_17 (by first | rfl | omega) ?_
  refine mp_istore (L' := [some (Value.ref 1), some (mp_i u), some (mp_i 1), some (mp_i b), some (mp_i 0), none]) dX11_leastColumns_18 (by decide) rfl ?_
  by_cases hbk : 0 ≤ b
  · exact lX11_leastColumns1_20 (s := s) (si := si) (sp := sp) (f := f) (fi := fi) (fp := fp) (im := im) (hd := hd) (kn := kn) (wd := wd) (ak := ak) (ke := ke) (cv := cv) (vo := vo) (so := so) (sz := sz) (el := el) (B := B) (u := u) (b := b) hA hcv h_u h_b (Int.toNat (b - 0)) 0 (by omega) (by rw [sc_lc_s]; rfl)
  · have e9 : sc_lc cv 1 u b = -4 := by rw [sc_lc_s, show (b - ((0 : Nat) : Int)).toNat = 0 by omega]; rfl
    rw [e9]
    refine mp_iload dX11_leastColumns_20 rfl ?_
    refine mp_iload_n dX11_leastColumns_22 rfl ?_
    refine mp_icmp_ge (tgt := 74) dX11_leastColumns_23 rfl ⟨by omega, by omega⟩ ⟨by omega, by omega⟩ (fun h2 => ?_) (fun h2 => ?_)
    · refine mp_bipush dX11_leastColumns_74 rfl ?_
      exact mp_ireturn (st := []) dX11_leastColumns_76 rfl ⟨by decide, by decide⟩ ((mp_ans (by rfl)))
    · exfalso; omega
theorem lX11_leastColumns2_20 {s si sp : Int → Int} {f fi fp : Nat → Option Nat} {im : Int} {hd : Int → Int} {kn : Nat → Option Nat} {wd ak ke cv vo so sz el : Int → Int} {A B : mp_H}  {u : Int} {b : Int} (hA : A.length = 1) (hcv : ∀ c, 0 ≤ c → c ≤ 15 → 0 ≤ cv c ∧ cv c < 256) (h_u : 0 ≤ u ∧ u < 256) (h_b : 0 ≤ b ∧ b ≤ 16) {R9 : mp_An} : ∀ (n : Nat) (h : Int), (0 ≤ h ∧ h + (n : Nat) = b) → R9 = (some (mp_i (sc_first (fun h => sc_lc cv 1 (mp_dif u (cv h)) h) n h)), A ++ (mp_cs s si sp f fi fp im hd kn wd ak ke cv vo so sz el ++ B)) → mp_At (mX11_leastColumns, 2, 0, 0) (0, 0) 20 [some (Value.ref 1), some (mp_i u), some (mp_i 2), some (mp_i b), some (mp_i h), none] [] (A ++ (mp_cs s si sp f fi fp im hd kn wd ak ke cv vo so sz el ++ B)) R9 := by
  intro n
  induction n with
  | zero =>
    intro h hi hR
    refine mp_iload dX11_leastColumns_20 rfl ?_
    refine mp_iload_n dX11_leastColumns_22 rfl ?_
    refine mp_icmp_ge (tgt := 74) dX11_leastColumns_23 rfl ⟨by omega, by omega⟩ ⟨by omega, by omega⟩ (fun h1 => ?_) (fun h1 => ?_)
    · refine mp_bipush dX11_leastColumns_74 rfl ?_
      exact mp_ireturn (st := []) dX11_leastColumns_76 rfl ⟨by decide, by decide⟩ (hR.trans (mp_ans rfl))
    · exfalso; omega
  | succ n ih =>
    intro h hi hR
    have hlb := rf_lc_bd (cv := cv) (k := 1) (w := mp_dif u (cv h)) (b := h) (mp_dif_nn _ _) (by omega) (by decide)
    have hdn := mp_dif_nn u (cv h)
    have hdl : mp_dif u (cv h) < 256 := mp_dif_lt (n := 8) h_u.2
    have hcvh := hcv h (by omega) (by omega)
    refine mp_iload dX11_leastColumns_20 rfl ?_
    refine mp_iload_n dX11_leastColumns_22 rfl ?_
    refine mp_icmp_ge (tgt := 74) dX11_leastColumns_23 rfl ⟨by omega, by omega⟩ ⟨by omega, by omega⟩ (fun h1 => ?_) (fun h1 => ?_)
    · exfalso; omega
    · refine mp_iload dX11_leastColumns_26 rfl ?_
      refine mp_bipush dX11_leastColumns_28 rfl ?_
      refine mp_icmp_ge (tgt := 74) dX11_leastColumns_30 rfl ⟨by omega, by omega⟩ ⟨by omega, by omega⟩ (fun h2 => ?_) (fun h2 => ?_)
      · exfalso; omega
      · refine mp_aload_n dX11_leastColumns_33 rfl ?_
        refine mp_iload_n dX11_leastColumns_34 rfl ?_
        refine mp_aload_n dX11_leastColumns_35 rfl ?_
        refine mp_getfield dX11_leastColumns_36 fsX11_47_10 (mp_lkP hA 0 rfl) rfl ?_
        refine mp_iload dX11_leastColumns_39 rfl ?_
        refine mp_iald dX11_leastColumns_41 (mp_lkP hA 25 rfl) ⟨by omega, by omega⟩ (by omega) ?_
        refine mp_iconst dX11_leastColumns_42 ?_
        refine mp_ixor (z := -1 - (cv h)) dX11_leastColumns_43 (mp_z_not _) ?_
        refine mp_iand (z := mp_dif u (cv h)) dX11_leastColumns_44 (mp_z_dif (by first | omega | exact mp_bit_nn _ | exact mp_or_nn _ _) (by first | omega | exact mp_bit_nn _ | exact mp_or_nn _ _)) ?_
        refine mp_iload_n dX11_leastColumns_45 rfl ?_
        refine mp_iconst dX11_leastColumns_46 ?_
        refine mp_isub (z := 1) dX11_leastColumns_47 (by first | rfl | omega) ?_
        refine mp_iload dX11_leastColumns_48 rfl ?_
        refine mp_invV (z := (mX11_leastColumns, 1, 0, 0)) (K' := (0, 0)) (σ1 := A ++ (mp_cs s si sp f fi fp im hd kn wd ak ke cv vo so sz el ++ B)) (as := [mp_i (mp_dif u (cv h)), mp_i 1, mp_i h]) (st := []) (st1 := [mp_i (sc_lc cv 1 (mp_dif u (cv h)) h)]) dX11_leastColumns_50 svX11_209 (mp_lkP hA 0 rfl) rfl rfl (zX11_leastColumns1 (u := (mp_dif u (cv h))) (b := h) (s := s) (si := si) (sp := sp) (f := f) (fi := fi) (fp := fp) (im := im) (hd := hd) (kn := kn) (wd := wd) (ak := ak) (ke := ke) (cv := cv) (vo := vo) (so := so) (sz := sz) (el := el) (B := B) (by first | with_reducible assumption | omega) (by first | with_reducible assumption | omega) (by first | with_reducible assumption | omega) (by first | with_reducible assumption | omega)) ⟨Nat.le_of_ble_eq_true rfl, Nat.le_of_ble_eq_true rfl, Nat.le_of_ble_eq_true rfl, Nat.le_of_ble_eq_true rfl, Nat.le_of_ble_eq_true rfl⟩ rfl rfl rfl rfl ?_
        refine mp_istore (L' := [some (Value.ref 1), some (mp_i u), some (mp_i 2), some (mp_i b), some (mp_i h), some (mp_i (sc_lc cv 1 (mp_dif u (cv h)) h))]) dX11_leastColumns_53 (by decide) rfl ?_
        refine mp_iload dX11_leastColumns_55 rfl ?_
        refine mp_if_lt (tgt := 68) dX11_leastColumns_57 rfl ⟨by omega, by omega⟩ (fun h3 => ?_) (fun h3 => ?_)
        · refine mp_iinc (z := h + 1) (L' := [some (Value.ref 1), some (mp_i u), some (mp_i 2), some (mp_i b), some (mp_i (h + 1)), some (mp_i (sc_lc cv 1 (mp_dif u (cv h)) h))]) dX11_leastColumns_68 rfl (rfl) (by decide) rfl ?_
          refine mp_goto (tgt := 20) dX11_leastColumns_71 rfl ?_
          refine mp_drop (L' := [some (Value.ref 1), some (mp_i u), some (mp_i 2), some (mp_i b), some (mp_i (h + 1)), none]) [true, true, true, true, true, false] rfl ?_
          exact ih (h + 1) (by omega) (hR.trans (by rw [sc_first_s, if_neg (by omega)]))
        · refine mp_iload dX11_leastColumns_60 rfl ?_
          refine mp_iconst dX11_leastColumns_62 ?_
          refine mp_iload dX11_leastColumns_63 rfl ?_
          refine mp_ishl (z := mp_bit h) dX11_leastColumns_65 (mp_z_bit ⟨by omega, by omega⟩) ?_
          refine mp_ior (z := mp_or (sc_lc cv 1 (mp_dif u (cv h)) h) (mp_bit h)) dX11_leastColumns_66 (mp_z_or (by first | omega | exact mp_bit_nn _ | exact mp_or_nn _ _ | exact mp_and_nn _ _ | exact mp_shr_nn _ _) (by first | omega | exact mp_bit_nn _ | exact mp_or_nn _ _ | exact mp_and_nn _ _ | exact mp_shr_nn _ _)) ?_
          exact mp_ireturn (st := []) dX11_leastColumns_67 rfl ⟨by decide, by decide⟩ (hR.trans (mp_ans (by rw [sc_first_s, if_pos (by omega)])))
theorem zX11_leastColumns2 {s si sp : Int → Int} {f fi fp : Nat → Option Nat} {im : Int} {hd : Int → Int} {kn : Nat → Option Nat} {wd ak ke cv vo so sz el : Int → Int} {A B : mp_H}  {u : Int} {b : Int} (hA : A.length = 1) (hcv : ∀ c, 0 ≤ c → c ≤ 15 → 0 ≤ cv c ∧ cv c < 256) (h_u : 0 ≤ u ∧ u < 256) (h_b : 0 ≤ b ∧ b ≤ 16) : mp_Call (mX11_leastColumns, 2, 0, 0) [Value.ref 1, mp_i u, mp_i 2, mp_i b] (A ++ (mp_cs s si sp f fi fp im hd kn wd ak ke cv vo so sz el ++ B)) (some (mp_i (sc_lc cv 2 u b)), A ++ (mp_cs s si sp f fi fp im hd kn wd ak ke cv vo so sz el ++ B)) := by
  refine mp_Call.of (L := [some (Value.ref 1), some (mp_i u), some (mp_i 2), some (mp_i b), none, none]) pnX11 (Nat.le_of_ble_eq_true rfl) rfl ?_
  refine mp_iload_n dX11_leastColumns_0 rfl ?_
  refine mp_if_gt (tgt := 15) dX11_leastColumns_1 rfl ⟨by decide, by decide⟩ (fun _ => ?_) (fun h1 => absurd h1 (by decide))
  refine mp_iload_n dX11_leastColumns_15 rfl ?_
  refine mp_iconst dX11_leastColumns_16 ?_
  refine mp_isub (z := 1) dX11_leastColumns_17 (by first | rfl | omega) ?_
  refine mp_istore (L' := [some (Value.ref 1), some (mp_i u), some (mp_i 2), some (mp_i b), some (mp_i 1), none]) dX11_leastColumns_18 (by decide) rfl ?_
  by_cases hbk : 1 ≤ b
  · exact lX11_leastColumns2_20 (s := s) (si := si) (sp := sp) (f := f) (fi := fi) (fp := fp) (im := im) (hd := hd) (kn := kn) (wd := wd) (ak := ak) (ke := ke) (cv := cv) (vo := vo) (so := so) (sz := sz) (el := el) (B := B) (u := u) (b := b) hA hcv h_u h_b (Int.toNat (b - 1)) 1 (by omega) (by rw [sc_lc_s]; rfl)
  · have e9 : sc_lc cv 2 u b = -4 := by rw [sc_lc_s, show (b - ((1 : Nat) : Int)).toNat = 0 by omega]; rfl
    rw [e9]
    refine mp_iload dX11_leastColumns_20 rfl ?_
    refine mp_iload_n dX11_leastColumns_22 rfl ?_
    refine mp_icmp_ge (tgt := 74) dX11_leastColumns_23 rfl ⟨by omega, by omega⟩ ⟨by omega, by omega⟩ (fun h2 => ?_) (fun h2 => ?_)
    · refine mp_bipush dX11_leastColumns_74 rfl ?_
      exact mp_ireturn (st := []) dX11_leastColumns_76 rfl ⟨by decide, by decide⟩ ((mp_ans (by rfl)))
    · exfalso; omega
theorem lX11_leastColumns3_20 {s si sp : Int → Int} {f fi fp : Nat → Option Nat} {im : Int} {hd : Int → Int} {kn : Nat → Option Nat} {wd ak ke cv vo so sz el : Int → Int} {A B : mp_H}  {u : Int} {b : Int} (hA : A.length = 1) (hcv : ∀ c, 0 ≤ c → c ≤ 15 → 0 ≤ cv c ∧ cv c < 256) (h_u : 0 ≤ u ∧ u < 256) (h_b : 0 ≤ b ∧ b ≤ 16) {R9 : mp_An} : ∀ (n : Nat) (h : Int), (0 ≤ h ∧ h + (n : Nat) = b) → R9 = (some (mp_i (sc_first (fun h => sc_lc cv 2 (mp_dif u (cv h)) h) n h)), A ++ (mp_cs s si sp f fi fp im hd kn wd ak ke cv vo so sz el ++ B)) → mp_At (mX11_leastColumns, 3, 0, 0) (0, 0) 20 [some (Value.ref 1), some (mp_i u), some (mp_i 3), some (mp_i b), some (mp_i h), none] [] (A ++ (mp_cs s si sp f fi fp im hd kn wd ak ke cv vo so sz el ++ B)) R9 := by
  intro n
  induction n with
  | zero =>
    intro h hi hR
    refine mp_iload dX11_leastColumns_20 rfl ?_
    refine mp_iload_n dX11_leastColumns_22 rfl ?_
    refine mp_icmp_ge (tgt := 74) dX11_leastColumns_23 rfl ⟨by omega, by omega⟩ ⟨by omega, by omega⟩ (fun h1 => ?_) (fun h1 => ?_)
    · refine mp_bipush dX11_leastColumns_74 rfl ?_
      exact mp_ireturn (st := []) dX11_leastColumns_76 rfl ⟨by decide, by decide⟩ (hR.trans (mp_ans rfl))
    · exfalso; omega
  | succ n ih =>
    intro h hi hR
    have hlb := rf_lc_bd (cv := cv) (k := 2) (w := mp_dif u (cv h)) (b := h) (mp_dif_nn _ _) (by omega) (by decide)
    have hdn := mp_dif_nn u (cv h)
    have hdl : mp_dif u (cv h) < 256 := mp_dif_lt (n := 8) h_u.2
    have hcvh := hcv h (by omega) (by omega)
    refine mp_iload dX11_leastColumns_20 rfl ?_
    refine mp_iload_n dX11_leastColumns_22 rfl ?_
    refine mp_icmp_ge (tgt := 74) dX11_leastColumns_23 rfl ⟨by omega, by omega⟩ ⟨by omega, by omega⟩ (fun h1 => ?_) (fun h1 => ?_)
    · exfalso; omega
    · refine mp_iload dX11_leastColumns_26 rfl ?_
      refine mp_bipush dX11_leastColumns_28 rfl ?_
      refine mp_icmp_ge (tgt := 74) dX11_leastColumns_30 rfl ⟨by omega, by omega⟩ ⟨by omega, by omega⟩ (fun h2 => ?_) (fun h2 => ?_)
      · exfalso; omega
      · refine mp_aload_n dX11_leastColumns_33 rfl ?_
        refine mp_iload_n dX11_leastColumns_34 rfl ?_
        refine mp_aload_n dX11_leastColumns_35 rfl ?_
        refine mp_getfield dX11_leastColumns_36 fsX11_47_10 (mp_lkP hA 0 rfl) rfl ?_
        refine mp_iload dX11_leastColumns_39 rfl ?_
        refine mp_iald dX11_leastColumns_41 (mp_lkP hA 25 rfl) ⟨by omega, by omega⟩ (by omega) ?_
        refine mp_iconst dX11_leastColumns_42 ?_
        refine mp_ixor (z := -1 - (cv h)) dX11_leastColumns_43 (mp_z_not _) ?_
        refine mp_iand (z := mp_dif u (cv h)) dX11_leastColumns_44 (mp_z_dif (by first | omega | exact mp_bit_nn _ | exact mp_or_nn _ _) (by first | omega | exact mp_bit_nn _ | exact mp_or_nn _ _)) ?_
        refine mp_iload_n dX11_leastColumns_45 rfl ?_
        refine mp_iconst dX11_leastColumns_46 ?_
        refine mp_isub (z := 2) dX11_leastColumns_47 (by first | rfl | omega) ?_
        refine mp_iload dX11_leastColumns_48 rfl ?_
        refine mp_invV (z := (mX11_leastColumns, 2, 0, 0)) (K' := (0, 0)) (σ1 := A ++ (mp_cs s si sp f fi fp im hd kn wd ak ke cv vo so sz el ++ B)) (as := [mp_i (mp_dif u (cv h)), mp_i 2, mp_i h]) (st := []) (st1 := [mp_i (sc_lc cv 2 (mp_dif u (cv h)) h)]) dX11_leastColumns_50 svX11_209 (mp_lkP hA 0 rfl) rfl rfl (zX11_leastColumns2 (u := (mp_dif u (cv h))) (b := h) (s := s) (si := si) (sp := sp) (f := f) (fi := fi) (fp := fp) (im := im) (hd := hd) (kn := kn) (wd := wd) (ak := ak) (ke := ke) (cv := cv) (vo := vo) (so := so) (sz := sz) (el := el) (B := B) (by first | with_reducible assumption | omega) (by first | with_reducible assumption | omega) (by first | with_reducible assumption | omega) (by first | with_reducible assumption | omega)) ⟨Nat.le_of_ble_eq_true rfl, Nat.le_of_ble_eq_true rfl, Nat.le_of_ble_eq_true rfl, Nat.le_of_ble_eq_true rfl, Nat.le_of_ble_eq_true rfl⟩ rfl rfl rfl rfl ?_
        refine mp_istore (L' := [some (Value.ref 1), some (mp_i u), some (mp_i 3), some (mp_i b), some (mp_i h), some (mp_i (sc_lc cv 2 (mp_dif u (cv h)) h))]) dX11_leastColumns_53 (by decide) rfl ?_
        refine mp_iload dX11_leastColumns_55 rfl ?_
        refine mp_if_lt (tgt := 68) dX11_leastColumns_57 rfl ⟨by omega, by omega⟩ (fun h3 => ?_) (fun h3 => ?_)
        · refine mp_iinc (z := h + 1) (L' := [some (Value.ref 1), some (mp_i u), some (mp_i 3), some (mp_i b), some (mp_i (h + 1)), some (mp_i (sc_lc cv 2 (mp_dif u (cv h)) h))]) dX11_leastColumns_68 rfl (rfl) (by decide) rfl ?_
          refine mp_goto (tgt := 20) dX11_leastColumns_71 rfl ?_
          refine mp_drop (L' := [some (Value.ref 1), some (mp_i u), some (mp_i 3), some (mp_i b), some (mp_i (h + 1)), none]) [true, true, true, true, true, false] rfl ?_
          exact ih (h + 1) (by omega) (hR.trans (by rw [sc_first_s, if_neg (by omega)]))
        · refine mp_iload dX11_leastColumns_60 rfl ?_
          refine mp_iconst dX11_leastColumns_62 ?_
          refine mp_iload dX11_leastColumns_63 rfl ?_
          refine mp_ishl (z := mp_bit h) dX11_leastColumns_65 (mp_z_bit ⟨by omega, by omega⟩) ?_
          refine mp_ior (z := mp_or (sc_lc cv 2 (mp_dif u (cv h)) h) (mp_bit h)) dX11_leastColumns_66 (mp_z_or (by first | omega | exact mp_bit_nn _ | exact mp_or_nn _ _ | exact mp_and_nn _ _ | exact mp_shr_nn _ _) (by first | omega | exact mp_bit_nn _ | exact mp_or_nn _ _ | exact mp_and_nn _ _ | exact mp_shr_nn _ _)) ?_
          exact mp_ireturn (st := []) dX11_leastColumns_67 rfl ⟨by decide, by decide⟩ (hR.trans (mp_ans (by rw [sc_first_s, if_pos (by omega)])))
theorem zX11_leastColumns3 {s si sp : Int → Int} {f fi fp : Nat → Option Nat} {im : Int} {hd : Int → Int} {kn : Nat → Option Nat} {wd ak ke cv vo so sz el : Int → Int} {A B : mp_H}  {u : Int} {b : Int} (hA : A.length = 1) (hcv : ∀ c, 0 ≤ c → c ≤ 15 → 0 ≤ cv c ∧ cv c < 256) (h_u : 0 ≤ u ∧ u < 256) (h_b : 0 ≤ b ∧ b ≤ 16) : mp_Call (mX11_leastColumns, 3, 0, 0) [Value.ref 1, mp_i u, mp_i 3, mp_i b] (A ++ (mp_cs s si sp f fi fp im hd kn wd ak ke cv vo so sz el ++ B)) (some (mp_i (sc_lc cv 3 u b)), A ++ (mp_cs s si sp f fi fp im hd kn wd ak ke cv vo so sz el ++ B)) := by
  refine mp_Call.of (L := [some (Value.ref 1), some (mp_i u), some (mp_i 3), some (mp_i b), none, none]) pnX11 (Nat.le_of_ble_eq_true rfl) rfl ?_
  refine mp_iload_n dX11_leastColumns_0 rfl ?_
  refine mp_if_gt (tgt := 15) dX11_leastColumns_1 rfl ⟨by decide, by decide⟩ (fun _ => ?_) (fun h1 => absurd h1 (by decide))
  refine mp_iload_n dX11_leastColumns_15 rfl ?_
  refine mp_iconst dX11_leastColumns_16 ?_
  refine mp_isub (z := 2) dX11_leastColumns_17 (by first | rfl | omega) ?_
  refine mp_istore (L' := [some (Value.ref 1), some (mp_i u), some (mp_i 3), some (mp_i b), some (mp_i 2), none]) dX11_leastColumns_18 (by decide) rfl ?_
  by_cases hbk : 2 ≤ b
  · exact lX11_leastColumns3_20 (s := s) (si := si) (sp := sp) (f := f) (fi := fi) (fp := fp) (im := im) (hd := hd) (kn := kn) (wd := wd) (ak := ak) (ke := ke) (cv := cv) (vo := vo) (so := so) (sz := sz) (el := el) (B := B) (u := u) (b := b) hA hcv h_u h_b (Int.toNat (b - 2)) 2 (by omega) (by rw [sc_lc_s]; rfl)
  · have e9 : sc_lc cv 3 u b = -4 := by rw [sc_lc_s, show (b - ((2 : Nat) : Int)).toNat = 0 by omega]; rfl
    rw [e9]
    refine mp_iload dX11_leastColumns_20 rfl ?_
    refine mp_iload_n dX11_leastColumns_22 rfl ?_
    refine mp_icmp_ge (tgt := 74) dX11_leastColumns_23 rfl ⟨by omega, by omega⟩ ⟨by omega, by omega⟩ (fun h2 => ?_) (fun h2 => ?_)
    · refine mp_bipush dX11_leastColumns_74 rfl ?_
      exact mp_ireturn (st := []) dX11_leastColumns_76 rfl ⟨by decide, by decide⟩ ((mp_ans (by rfl)))
    · exfalso; omega
theorem lX11_leastColumns4_20 {s si sp : Int → Int} {f fi fp : Nat → Option Nat} {im : Int} {hd : Int → Int} {kn : Nat → Option Nat} {wd ak ke cv vo so sz el : Int → Int} {A B : mp_H}  {u : Int} {b : Int} (hA : A.length = 1) (hcv : ∀ c, 0 ≤ c → c ≤ 15 → 0 ≤ cv c ∧ cv c < 256) (h_u : 0 ≤ u ∧ u < 256) (h_b : 0 ≤ b ∧ b ≤ 16) {R9 : mp_An} : ∀ (n : Nat) (h : Int), (0 ≤ h ∧ h + (n : Nat) = b) → R9 = (some (mp_i (sc_first (fun h => sc_lc cv 3 (mp_dif u (cv h)) h) n h)), A ++ (mp_cs s si sp f fi fp im hd kn wd ak ke cv vo so sz el ++ B)) → mp_At (mX11_leastColumns, 4, 0, 0) (0, 0) 20 [some (Value.ref 1), some (mp_i u), some (mp_i 4), some (mp_i b), some (mp_i h), none] [] (A ++ (mp_cs s si sp f fi fp im hd kn wd ak ke cv vo so sz el ++ B)) R9 := by
  intro n
  induction n with
  | zero =>
    intro h hi hR
    refine mp_iload dX11_leastColumns_20 rfl ?_
    refine mp_iload_n dX11_leastColumns_22 rfl ?_
    refine mp_icmp_ge (tgt := 74) dX11_leastColumns_23 rfl ⟨by omega, by omega⟩ ⟨by omega, by omega⟩ (fun h1 => ?_) (fun h1 => ?_)
    · refine mp_bipush dX11_leastColumns_74 rfl ?_
      exact mp_ireturn (st := []) dX11_leastColumns_76 rfl ⟨by decide, by decide⟩ (hR.trans (mp_ans rfl))
    · exfalso; omega
  | succ n ih =>
    intro h hi hR
    have hlb := rf_lc_bd (cv := cv) (k := 3) (w := mp_dif u (cv h)) (b := h) (mp_dif_nn _ _) (by omega) (by decide)
    have hdn := mp_dif_nn u (cv h)
    have hdl : mp_dif u (cv h) < 256 := mp_dif_lt (n := 8) h_u.2
    have hcvh := hcv h (by omega) (by omega)
    refine mp_iload dX11_leastColumns_20 rfl ?_
    refine mp_iload_n dX11_leastColumns_22 rfl ?_
    refine mp_icmp_ge (tgt := 74) dX11_leastColumns_23 rfl ⟨by omega, by omega⟩ ⟨by omega, by omega⟩ (fun h1 => ?_) (fun h1 => ?_)
    · exfalso; omega
    · refine mp_iload dX11_leastColumns_26 rfl ?_
      refine mp_bipush dX11_leastColumns_28 rfl ?_
      refine mp_icmp_ge (tgt := 74) dX11_leastColumns_30 rfl ⟨by omega, by omega⟩ ⟨by omega, by omega⟩ (fun h2 => ?_) (fun h2 => ?_)
      · exfalso; omega
      · refine mp_aload_n dX11_leastColumns_33 rfl ?_
        refine mp_iload_n dX11_leastColumns_34 rfl ?_
        refine mp_aload_n dX11_leastColumns_35 rfl ?_
        refine mp_getfield dX11_leastColumns_36 fsX11_47_10 (mp_lkP hA 0 rfl) rfl ?_
        refine mp_iload dX11_leastColumns_39 rfl ?_
        refine mp_iald dX11_leastColumns_41 (mp_lkP hA 25 rfl) ⟨by omega, by omega⟩ (by omega) ?_
        refine mp_iconst dX11_leastColumns_42 ?_
        refine mp_ixor (z := -1 - (cv h)) dX11_leastColumns_43 (mp_z_not _) ?_
        refine mp_iand (z := mp_dif u (cv h)) dX11_leastColumns_44 (mp_z_dif (by first | omega | exact mp_bit_nn _ | exact mp_or_nn _ _) (by first | omega | exact mp_bit_nn _ | exact mp_or_nn _ _)) ?_
        refine mp_iload_n dX11_leastColumns_45 rfl ?_
        refine mp_iconst dX11_leastColumns_46 ?_
        refine mp_isub (z := 3) dX11_leastColumns_47 (by first | rfl | omega) ?_
        refine mp_iload dX11_leastColumns_48 rfl ?_
        refine mp_invV (z := (mX11_leastColumns, 3, 0, 0)) (K' := (0, 0)) (σ1 := A ++ (mp_cs s si sp f fi fp im hd kn wd ak ke cv vo so sz el ++ B)) (as := [mp_i (mp_dif u (cv h)), mp_i 3, mp_i h]) (st := []) (st1 := [mp_i (sc_lc cv 3 (mp_dif u (cv h)) h)]) dX11_leastColumns_50 svX11_209 (mp_lkP hA 0 rfl) rfl rfl (zX11_leastColumns3 (u := (mp_dif u (cv h))) (b := h) (s := s) (si := si) (sp := sp) (f := f) (fi := fi) (fp := fp) (im := im) (hd := hd) (kn := kn) (wd := wd) (ak := ak) (ke := ke) (cv := cv) (vo := vo) (so := so) (sz := sz) (el := el) (B := B) (by first | with_reducible assumption | omega) (by first | with_reducible assumption | omega) (by first | with_reducible assumption | omega) (by first | with_reducible assumption | omega)) ⟨Nat.le_of_ble_eq_true rfl, Nat.le_of_ble_eq_true rfl, Nat.le_of_ble_eq_true rfl, Nat.le_of_ble_eq_true rfl, Nat.le_of_ble_eq_true rfl⟩ rfl rfl rfl rfl ?_
        refine mp_istore (L' := [some (Value.ref 1), some (mp_i u), some (mp_i 4), some (mp_i b), some (mp_i h), some (mp_i (sc_lc cv 3 (mp_dif u (cv h)) h))]) dX11_leastColumns_53 (by decide) rfl ?_
        refine mp_iload dX11_leastColumns_55 rfl ?_
        refine mp_if_lt (tgt := 68) dX11_leastColumns_57 rfl ⟨by omega, by omega⟩ (fun h3 => ?_) (fun h3 => ?_)
        · refine mp_iinc (z := h + 1) (L' := [some (Value.ref 1), some (mp_i u), some (mp_i 4), some (mp_i b), some (mp_i (h + 1)), some (mp_i (sc_lc cv 3 (mp_dif u (cv h)) h))]) dX11_leastColumns_68 rfl (rfl) (by decide) rfl ?_
          refine mp_goto (tgt := 20) dX11_leastColumns_71 rfl ?_
          refine mp_drop (L' := [some (Value.ref 1), some (mp_i u), some (mp_i 4), some (mp_i b), some (mp_i (h + 1)), none]) [true, true, true, true, true, false] rfl ?_
          exact ih (h + 1) (by omega) (hR.trans (by rw [sc_first_s, if_neg (by omega)]))
        · refine mp_iload dX11_leastColumns_60 rfl ?_
          refine mp_iconst dX11_leastColumns_62 ?_
          refine mp_iload dX11_leastColumns_63 rfl ?_
          refine mp_ishl (z := mp_bit h) dX11_leastColumns_65 (mp_z_bit ⟨by omega, by omega⟩) ?_
          refine mp_ior (z := mp_or (sc_lc cv 3 (mp_dif u (cv h)) h) (mp_bit h)) dX11_leastColumns_66 (mp_z_or (by first | omega | exact mp_bit_nn _ | exact mp_or_nn _ _ | exact mp_and_nn _ _ | exact mp_shr_nn _ _) (by first | omega | exact mp_bit_nn _ | exact mp_or_nn _ _ | exact mp_and_nn _ _ | exact mp_shr_nn _ _)) ?_
          exact mp_ireturn (st := []) dX11_leastColumns_67 rfl ⟨by decide, by decide⟩ (hR.trans (mp_ans (by rw [sc_first_s, if_pos (by omega)])))
theorem zX11_leastColumns4 {s si sp : Int → Int} {f fi fp : Nat → Option Nat} {im : Int} {hd : Int → Int} {kn : Nat → Option Nat} {wd ak ke cv vo so sz el : Int → Int} {A B : mp_H}  {u : Int} {b : Int} (hA : A.length = 1) (hcv : ∀ c, 0 ≤ c → c ≤ 15 → 0 ≤ cv c ∧ cv c < 256) (h_u : 0 ≤ u ∧ u < 256) (h_b : 0 ≤ b ∧ b ≤ 16) : mp_Call (mX11_leastColumns, 4, 0, 0) [Value.ref 1, mp_i u, mp_i 4, mp_i b] (A ++ (mp_cs s si sp f fi fp im hd kn wd ak ke cv vo so sz el ++ B)) (some (mp_i (sc_lc cv 4 u b)), A ++ (mp_cs s si sp f fi fp im hd kn wd ak ke cv vo so sz el ++ B)) := by
  refine mp_Call.of (L := [some (Value.ref 1), some (mp_i u), some (mp_i 4), some (mp_i b), none, none]) pnX11 (Nat.le_of_ble_eq_true rfl) rfl ?_
  refine mp_iload_n dX11_leastColumns_0 rfl ?_
  refine mp_if_gt (tgt := 15) dX11_leastColumns_1 rfl ⟨by decide, by decide⟩ (fun _ => ?_) (fun h1 => absurd h1 (by decide))
  refine mp_iload_n dX11_leastColumns_15 rfl ?_
  refine mp_iconst dX11_leastColumns_16 ?_
  refine mp_isub (z := 3) dX11_leastColumns_17 (by first | rfl | omega) ?_
  refine mp_istore (L' := [some (Value.ref 1), some (mp_i u), some (mp_i 4), some (mp_i b), some (mp_i 3), none]) dX11_leastColumns_18 (by decide) rfl ?_
  by_cases hbk : 3 ≤ b
  · exact lX11_leastColumns4_20 (s := s) (si := si) (sp := sp) (f := f) (fi := fi) (fp := fp) (im := im) (hd := hd) (kn := kn) (wd := wd) (ak := ak) (ke := ke) (cv := cv) (vo := vo) (so := so) (sz := sz) (el := el) (B := B) (u := u) (b := b) hA hcv h_u h_b (Int.toNat (b - 3)) 3 (by omega) (by rw [sc_lc_s]; rfl)
  · have e9 : sc_lc cv 4 u b = -4 := by rw [sc_lc_s, show (b - ((3 : Nat) : Int)).toNat = 0 by omega]; rfl
    rw [e9]
    refine mp_iload dX11_leastColumns_20 rfl ?_
    refine mp_iload_n dX11_leastColumns_22 rfl ?_
    refine mp_icmp_ge (tgt := 74) dX11_leastColumns_23 rfl ⟨by omega, by omega⟩ ⟨by omega, by omega⟩ (fun h2 => ?_) (fun h2 => ?_)
    · refine mp_bipush dX11_leastColumns_74 rfl ?_
      exact mp_ireturn (st := []) dX11_leastColumns_76 rfl ⟨by decide, by decide⟩ ((mp_ans (by rfl)))
    · exfalso; omega
theorem mp_ud_cp2 {x g : Int → Int} {c : Int} (h : ∀ j, 0 ≤ j → j < c → x j = g j) : ∀ j, 0 ≤ j → j < c + 1 → mp_ud x c (g c) j = g j := fun j h0 h1 => by
  by_cases e : j = c
  · subst e; exact mp_ud_eq
  · rw [mp_udn e]; exact h j h0 (by omega)
theorem lX11_roofs_29 {s si sp : Int → Int} {f fi fp : Nat → Option Nat} {im : Int} {hd : Int → Int} {kn : Nat → Option Nat} {wd ak ke cv vo so sz el : Int → Int} {A B : mp_H}  (hA : A.length = 1) (hs : mp_sky s) (hMt : mp_Mt (A ++ (mp_cs s si sp f fi fp im hd kn wd ak ke cv vo so sz el ++ B)) s f) {R9 : mp_An} : ∀ (n : Nat) (t : Int) (v : Int), ((0 ≤ t ∧ t + (n : Nat) = 8) ∧ 0 ≤ v ∧ v < 256) → mp_At (mX11_roofs, 5, 0, 0) (0, 0) 67 [some (Value.ref 1), some (mp_i (mp_fold (fun k b => if k < s 0 then (sp_wantStep s) k b else b) n t v)), none, none] [] (A ++ (mp_cs s si sp f fi fp im hd kn wd ak ke (sp_seenOf s) vo so sz el ++ B)) R9 → mp_At (mX11_roofs, 5, 0, 0) (0, 0) 29 [some (Value.ref 1), some (mp_i v), some (mp_i t), none] [] (A ++ (mp_cs s si sp f fi fp im hd kn wd ak ke (sp_seenOf s) vo so sz el ++ B)) R9 := by
  intro n
  induction n with
  | zero =>
    intro t v hi hk
    have hz0 := hs.1
    refine mp_iload_n dX11_roofs_29 rfl ?_
    refine mp_bipush dX11_roofs_30 rfl ?_
    refine mp_icmp_ge (tgt := 67) dX11_roofs_32 rfl ⟨by omega, by omega⟩ ⟨by omega, by omega⟩ (fun h1 => ?_) (fun h1 => ?_)
    · refine mp_drop (L' := [some (Value.ref 1), some (mp_i v), none, none]) [true, true, false, false] rfl ?_
      exact hk
    · exfalso; omega
  | succ n ih =>
    intro t v hi hk
    have hz0 := hs.1
    have hbt := mp_bit_256 (k := t) (by omega)
    have hbn := mp_bit_nn t
    have hov := mp_or_256 (a := v) (b := mp_bit t) (by omega) (by omega)
    have hon := mp_or_nn v (mp_bit t)
    refine mp_iload_n dX11_roofs_29 rfl ?_
    refine mp_bipush dX11_roofs_30 rfl ?_
    refine mp_icmp_ge (tgt := 67) dX11_roofs_32 rfl ⟨by omega, by omega⟩ ⟨by omega, by omega⟩ (fun h1 => ?_) (fun h1 => ?_)
    · exfalso; omega
    · refine mp_aload_n dX11_roofs_35 rfl ?_
      refine mp_getfield dX11_roofs_36 fsX11_10_10 (mp_lkP hA 0 rfl) rfl ?_
      refine mp_iload_n dX11_roofs_39 rfl ?_
      by_cases hm2 : 0 ≤ t ∧ t < s 0
      · obtain ⟨a2, hf2, hc2⟩ := (mp_Sk.of (σ := A ++ (mp_cs s si sp f fi fp im hd kn wd ak ke (sp_seenOf s) vo so sz el ++ B)) (mp_skC2 hA) (hMt.mono hs.kd mp_stay_cs)).2.2.2.2.2.2 t hm2.1 hm2.2
        have ht2 := hs.2.1 t hm2.1 hm2.2
        have hl2 := mp_lasts_bd (kind := (s (1 + 6 * t + 0))) (f := (s (1 + 6 * t + 1))) (by omega)
        have hr2 := mp_bright_bd (kind := (s (1 + 6 * t + 0))) (f := (s (1 + 6 * t + 1))) (by omega)
        refine mp_invV (z := (mX6_at, 0, 0, 0)) (K' := (0, 0)) (σ1 := A ++ (mp_cs s si sp f fi fp im hd kn wd ak ke (sp_seenOf s) vo so sz el ++ B)) (as := [mp_i t]) (st := []) (st1 := [Value.ref a2]) dX11_roofs_40 svX11_93 (mp_Sk.of (σ := A ++ (mp_cs s si sp f fi fp im hd kn wd ak ke (sp_seenOf s) vo so sz el ++ B)) (mp_skC2 hA) (hMt.mono hs.kd mp_stay_cs)).1 rfl rfl (zX6_at (p := 2) (m := t) (a := a2) (s := s) (f := f) (mp_Sk.of (σ := A ++ (mp_cs s si sp f fi fp im hd kn wd ak ke (sp_seenOf s) vo so sz el ++ B)) (mp_skC2 hA) (hMt.mono hs.kd mp_stay_cs)) hm2 (by omega) hf2) ⟨Nat.le_of_ble_eq_true rfl, Nat.le_of_ble_eq_true rfl, Nat.le_of_ble_eq_true rfl, Nat.le_of_ble_eq_true rfl, Nat.le_of_ble_eq_true rfl⟩ rfl rfl rfl rfl ?_
        refine mp_astore_n (L' := [some (Value.ref 1), some (mp_i v), some (mp_i t), some (Value.ref a2)]) dX11_roofs_43 rfl (by decide) rfl ?_
        refine mp_aload_n dX11_roofs_44 rfl ?_
        refine mp_ifnull_r dX11_roofs_45 ?_
        refine mp_aload_n dX11_roofs_48 rfl ?_
        refine mp_inv8 (kd := (s (1 + 6 * t + 0))) (σ1 := A ++ (mp_cs s si sp f fi fp im hd kn wd ak ke (sp_seenOf s) vo so sz el ++ B)) (as := []) (st := []) (st1 := [mp_i (sp_bright (s (1 + 6 * t + 0)) (s (1 + 6 * t + 1)))]) dX11_roofs_49 (by omega) s8X11_118 hc2 (fa_bright (a := a2) (kd := (s (1 + 6 * t + 0))) (f := (s (1 + 6 * t + 1))) (co := (s (1 + 6 * t + 2))) (sl := (s (1 + 6 * t + 3))) (ni := (s (1 + 6 * t + 4))) (la := (sp_lasts (s (1 + 6 * t + 0)) (s (1 + 6 * t + 1)))) (br := (sp_bright (s (1 + 6 * t + 0)) (s (1 + 6 * t + 1)))) hc2 (by first | with_reducible assumption | omega) (by first | with_reducible assumption | omega)) (Nat.le_of_ble_eq_true rfl) ⟨Nat.le_of_ble_eq_true rfl, Nat.le_of_ble_eq_true rfl⟩ (Nat.le_of_ble_eq_true rfl) rfl rfl rfl ?_
        refine mp_if_lt (tgt := 61) dX11_roofs_52 rfl ⟨by omega, by omega⟩ (fun h3 => ?_) (fun h3 => ?_)
        · refine mp_iinc (z := t + 1) (L' := [some (Value.ref 1), some (mp_i v), some (mp_i (t + 1)), some (Value.ref a2)]) dX11_roofs_61 rfl (rfl) (by decide) rfl ?_
          refine mp_goto (tgt := 29) dX11_roofs_64 rfl ?_
          refine mp_drop (L' := [some (Value.ref 1), some (mp_i v), some (mp_i (t + 1)), none]) [true, true, true, false] rfl ?_
          have e9 : (fun k b => if k < s 0 then (sp_wantStep s) k b else b) t v = v := (if_pos (by omega)).trans (by show (if sp_bright (s (1 + 6 * t + 0)) (s (1 + 6 * t + 1)) < 0 then v else mp_or v (mp_bit t)) = _; first | rfl | (rw [if_pos (by omega)]; done) | (rw [if_neg (by omega)]; done) | (rw [if_pos (by omega)]; omega) | (rw [if_neg (by omega)]; omega))
          have k9 := ih (t + 1) ((fun k b => if k < s 0 then (sp_wantStep s) k b else b) t v) (by rw [e9]; omega) hk
          rw [e9] at k9
          exact k9
        · refine mp_iload_n dX11_roofs_55 rfl ?_
          refine mp_iconst dX11_roofs_56 ?_
          refine mp_iload_n dX11_roofs_57 rfl ?_
          refine mp_ishl (z := mp_bit t) dX11_roofs_58 (mp_z_bit ⟨by omega, by omega⟩) ?_
          refine mp_ior (z := mp_or v (mp_bit t)) dX11_roofs_59 (mp_z_or (by first | omega | exact mp_bit_nn _ | exact mp_or_nn _ _ | exact mp_and_nn _ _ | exact mp_shr_nn _ _) (by first | omega | exact mp_bit_nn _ | exact mp_or_nn _ _ | exact mp_and_nn _ _ | exact mp_shr_nn _ _)) ?_
          refine mp_istore_n (L' := [some (Value.ref 1), some (mp_i (mp_or v (mp_bit t))), some (mp_i t), some (Value.ref a2)]) dX11_roofs_60 rfl (by decide) rfl ?_
          refine mp_iinc (z := t + 1) (L' := [some (Value.ref 1), some (mp_i (mp_or v (mp_bit t))), some (mp_i (t + 1)), some (Value.ref a2)]) dX11_roofs_61 rfl (rfl) (by decide) rfl ?_
          refine mp_goto (tgt := 29) dX11_roofs_64 rfl ?_
          refine mp_drop (L' := [some (Value.ref 1), some (mp_i (mp_or v (mp_bit t))), some (mp_i (t + 1)), none]) [true, true, true, false] rfl ?_
          have e9 : (fun k b => if k < s 0 then (sp_wantStep s) k b else b) t v = mp_or v (mp_bit t) := (if_pos (by omega)).trans (by show (if sp_bright (s (1 + 6 * t + 0)) (s (1 + 6 * t + 1)) < 0 then v else mp_or v (mp_bit t)) = _; first | rfl | (rw [if_pos (by omega)]; done) | (rw [if_neg (by omega)]; done) | (rw [if_pos (by omega)]; omega) | (rw [if_neg (by omega)]; omega))
          have k9 := ih (t + 1) ((fun k b => if k < s 0 then (sp_wantStep s) k b else b) t v) (by rw [e9]; omega) hk
          rw [e9] at k9
          exact k9
      · refine mp_invV (z := (mX6_at, 0, 0, 0)) (K' := (0, 0)) (σ1 := A ++ (mp_cs s si sp f fi fp im hd kn wd ak ke (sp_seenOf s) vo so sz el ++ B)) (as := [mp_i t]) (st := []) (st1 := [Value.null]) dX11_roofs_40 svX11_93 (mp_Sk.of (σ := A ++ (mp_cs s si sp f fi fp im hd kn wd ak ke (sp_seenOf s) vo so sz el ++ B)) (mp_skC2 hA) (hMt.mono hs.kd mp_stay_cs)).1 rfl rfl (zX6_atN (p := 2) (m := t) (s := s) (f := f) (mp_Sk.of (σ := A ++ (mp_cs s si sp f fi fp im hd kn wd ak ke (sp_seenOf s) vo so sz el ++ B)) (mp_skC2 hA) (hMt.mono hs.kd mp_stay_cs)) hm2 (by omega) (by omega)) ⟨Nat.le_of_ble_eq_true rfl, Nat.le_of_ble_eq_true rfl, Nat.le_of_ble_eq_true rfl, Nat.le_of_ble_eq_true rfl, Nat.le_of_ble_eq_true rfl⟩ rfl rfl rfl rfl ?_
        refine mp_astore_nN (L' := [some (Value.ref 1), some (mp_i v), some (mp_i t), some (Value.null)]) dX11_roofs_43 rfl (by decide) rfl ?_
        refine mp_aload_nN dX11_roofs_44 rfl ?_
        refine mp_ifnull_n (tgt := 61) dX11_roofs_45 rfl ?_
        refine mp_iinc (z := t + 1) (L' := [some (Value.ref 1), some (mp_i v), some (mp_i (t + 1)), some (Value.null)]) dX11_roofs_61 rfl (rfl) (by decide) rfl ?_
        refine mp_goto (tgt := 29) dX11_roofs_64 rfl ?_
        refine mp_drop (L' := [some (Value.ref 1), some (mp_i v), some (mp_i (t + 1)), none]) [true, true, true, false] rfl ?_
        have e9 : (fun k b => if k < s 0 then (sp_wantStep s) k b else b) t v = v := if_neg (by omega)
        have k9 := ih (t + 1) ((fun k b => if k < s 0 then (sp_wantStep s) k b else b) t v) (by rw [e9]; omega) hk
        rw [e9] at k9
        exact k9
theorem lX11_roofs_2 {s si sp : Int → Int} {f fi fp : Nat → Option Nat} {im : Int} {hd : Int → Int} {kn : Nat → Option Nat} {wd ak ke cv vo so sz el : Int → Int} {A B : mp_H}  (hA : A.length = 1) (hs : mp_sky s) (hMt : mp_Mt (A ++ (mp_cs s si sp f fi fp im hd kn wd ak ke cv vo so sz el ++ B)) s f) {R9 : mp_An} : ∀ (n : Nat) (x : Int → Int) (c : Int), ((0 ≤ c ∧ c + (n : Nat) = 16) ∧ ∀ j, 0 ≤ j → j < c → x j = sp_seenOf s j) → mp_At (mX11_roofs, 5, 0, 0) (0, 0) 25 [some (Value.ref 1), none, none, none] [] (A ++ (mp_cs s si sp f fi fp im hd kn wd ak ke (sp_seenOf s) vo so sz el ++ B)) R9 → mp_At (mX11_roofs, 5, 0, 0) (0, 0) 2 [some (Value.ref 1), some (mp_i c), none, none] [] (A ++ (mp_cs s si sp f fi fp im hd kn wd ak ke x vo so sz el ++ B)) R9 := by
  intro n
  induction n with
  | zero =>
    intro x c hi hk
    have hz0 := hs.1
    refine mp_iload_n dX11_roofs_2 rfl ?_
    refine mp_bipush dX11_roofs_3 rfl ?_
    refine mp_icmp_ge (tgt := 25) dX11_roofs_5 rfl ⟨by omega, by omega⟩ ⟨by omega, by omega⟩ (fun h1 => ?_) (fun h1 => ?_)
    · refine mp_drop (L' := [some (Value.ref 1), none, none, none]) [true, false, false, false] rfl ?_
      exact mp_extCv hA (fun j h0 h1 => hi.2 j h0 (by omega)) hk
    · exfalso; omega
  | succ n ih =>
    intro x c hi hk
    have hz0 := hs.1
    refine mp_iload_n dX11_roofs_2 rfl ?_
    refine mp_bipush dX11_roofs_3 rfl ?_
    refine mp_icmp_ge (tgt := 25) dX11_roofs_5 rfl ⟨by omega, by omega⟩ ⟨by omega, by omega⟩ (fun h1 => ?_) (fun h1 => ?_)
    · exfalso; omega
    · refine mp_aload_n dX11_roofs_8 rfl ?_
      refine mp_getfield dX11_roofs_9 fsX11_47_10 (mp_lkP hA 0 rfl) rfl ?_
      refine mp_iload_n dX11_roofs_12 rfl ?_
      refine mp_aload_n dX11_roofs_13 rfl ?_
      refine mp_iload_n dX11_roofs_14 rfl ?_
      refine mp_invV (z := (mX11_seenFromColumn, 2, 0, 0)) (K' := (0, 0)) (σ1 := A ++ (mp_cs s si sp f fi fp im hd kn wd ak ke x vo so sz el ++ B)) (as := [mp_i c]) (st := [mp_i c, Value.ref 26]) (st1 := [mp_i (sp_seenOf s c), mp_i c, Value.ref 26]) dX11_roofs_15 svX11_206 (mp_lkP hA 0 rfl) rfl rfl (zX11_seenFromColumn (x := c) (s := s) (si := si) (sp := sp) (f := f) (fi := fi) (fp := fp) (im := im) (hd := hd) (kn := kn) (wd := wd) (ak := ak) (ke := ke) (cv := x) (vo := vo) (so := so) (sz := sz) (el := el) (B := B) (by first | with_reducible assumption | omega) (by first | with_reducible assumption | omega) (hMt.mono hs.kd mp_stay_cs) (by first | with_reducible assumption | omega)) ⟨Nat.le_of_ble_eq_true rfl, Nat.le_of_ble_eq_true rfl, Nat.le_of_ble_eq_true rfl, Nat.le_of_ble_eq_true rfl, Nat.le_of_ble_eq_true rfl⟩ rfl rfl rfl rfl ?_
      refine mp_iast (σ' := A ++ (mp_cs s si sp f fi fp im hd kn wd ak ke (mp_ud x c (sp_seenOf s c)) vo so sz el ++ B)) dX11_roofs_18 (mp_lkP hA 25 rfl) (by decide) ⟨by omega, by omega⟩ (by decide) (mp_stP (Ms' := mp_cs s si sp f fi fp im hd kn wd ak ke (mp_ud x c (sp_seenOf s c)) vo so sz el) hA 25 (Nat.le_of_ble_eq_true rfl) rfl) ?_
      refine mp_iinc (z := c + 1) (L' := [some (Value.ref 1), some (mp_i (c + 1)), none, none]) dX11_roofs_19 rfl (rfl) (by decide) rfl ?_
      refine mp_goto (tgt := 2) dX11_roofs_22 rfl ?_
      exact ih (mp_ud x c (sp_seenOf s c)) (c + 1) ⟨by omega, mp_ud_cp2 hi.2⟩ hk
theorem zX11_roofs {s si sp : Int → Int} {f fi fp : Nat → Option Nat} {im : Int} {hd : Int → Int} {kn : Nat → Option Nat} {wd ak ke cv vo so sz el : Int → Int} {A B : mp_H}  (hA : A.length = 1) (hs : mp_sky s) (hMt : mp_Mt (A ++ (mp_cs s si sp f fi fp im hd kn wd ak ke cv vo so sz el ++ B)) s f) : mp_Call (mX11_roofs, 5, 0, 0) [Value.ref 1] (A ++ (mp_cs s si sp f fi fp im hd kn wd ak ke cv vo so sz el ++ B)) (some (mp_i (sp_roofs s)), A ++ (mp_cs s si sp f fi fp im hd kn wd ak ke (sp_seenOf s) vo so sz el ++ B)) := by
  refine mp_Call.of (L := [some (Value.ref 1), none, none, none]) pnX11 (Nat.le_of_ble_eq_true rfl) rfl ?_
  have hz0 := hs.1
  refine mp_iconst dX11_roofs_0 ?_
  refine mp_istore_n (L' := [some (Value.ref 1), some (mp_i 0), none, none]) dX11_roofs_1 rfl (by decide) rfl ?_
  refine lX11_roofs_2 (s := s) (si := si) (sp := sp) (f := f) (fi := fi) (fp := fp) (im := im) (hd := hd) (kn := kn) (wd := wd) (ak := ak) (ke := ke) (cv := cv) (vo := vo) (so := so) (sz := sz) (el := el) (B := B)   (by first | with_reducible assumption | omega) (by first | with_reducible assumption | omega) (by first | with_reducible assumption | omega) 16 cv 0 (⟨by omega, fun j h0 h1 => by omega⟩) ?_
  refine mp_iconst dX11_roofs_25 ?_
  refine mp_istore_n (L' := [some (Value.ref 1), some (mp_i 0), none, none]) dX11_roofs_26 rfl (by decide) rfl ?_
  refine mp_iconst dX11_roofs_27 ?_
  refine mp_istore_n (L' := [some (Value.ref 1), some (mp_i 0), some (mp_i 0), none]) dX11_roofs_28 rfl (by decide) rfl ?_
  refine lX11_roofs_29 (s := s) (si := si) (sp := sp) (f := f) (fi := fi) (fp := fp) (im := im) (hd := hd) (kn := kn) (wd := wd) (ak := ak) (ke := ke) (cv := cv) (vo := vo) (so := so) (sz := sz) (el := el) (B := B)   (by first | with_reducible assumption | omega) (by first | with_reducible assumption | omega) (by first | with_reducible assumption | omega) 8 0 0 (by omega) ?_
  refine mp_loc (j := 1) (x := mp_fold (fun k b => if k < s 0 then (sp_wantStep s) k b else b) 8 0 0) (y := sp_want s) (mp_fold_8 (F := (sp_wantStep s)) hs.1 0) rfl (L' := [some (Value.ref 1), some (mp_i (sp_want s)), none, none]) rfl ?_
  refine mp_iconst dX11_roofs_67 ?_
  have hwb := mp_want_bd hs
  have hcv9 : ∀ c, 0 ≤ c → c ≤ 15 → 0 ≤ sp_seenOf s c ∧ sp_seenOf s c < 256 := fun c _ _ => mp_seenOf_bd hs c
  refine mp_istore_n (L' := [some (Value.ref 1), some (mp_i (sp_want s)), some (mp_i 0), none]) dX11_roofs_68 rfl (by decide) rfl ?_
  refine mp_iload_n dX11_roofs_69 rfl ?_
  refine mp_iconst dX11_roofs_70 ?_
  refine mp_icmp_gt (tgt := 95) dX11_roofs_71 rfl ⟨by decide, by decide⟩ ⟨by decide, by decide⟩ (fun h1 => absurd h1 (by decide)) (fun _ => ?_)
  refine mp_aload_n dX11_roofs_74 rfl ?_
  refine mp_iload_n dX11_roofs_75 rfl ?_
  refine mp_iload_n dX11_roofs_76 rfl ?_
  refine mp_bipush dX11_roofs_77 rfl ?_
  refine mp_invV (z := (mX11_leastColumns, 0, 0, 0)) (K' := (0, 0)) (σ1 := A ++ (mp_cs s si sp f fi fp im hd kn wd ak ke (sp_seenOf s) vo so sz el ++ B)) (as := [mp_i (sp_want s), mp_i 0, mp_i 16]) (st := []) (st1 := [mp_i (sc_lc (sp_seenOf s) 0 (sp_want s) 16)]) dX11_roofs_79 svX11_209 (mp_lkP hA 0 rfl) rfl rfl (zX11_leastColumns0 (u := (sp_want s)) (b := 16) (s := s) (si := si) (sp := sp) (f := f) (fi := fi) (fp := fp) (im := im) (hd := hd) (kn := kn) (wd := wd) (ak := ak) (ke := ke) (cv := (sp_seenOf s)) (vo := vo) (so := so) (sz := sz) (el := el) (B := B) (by first | with_reducible assumption | omega) hcv9 (by first | with_reducible assumption | omega) (by first | with_reducible assumption | omega)) ⟨Nat.le_of_ble_eq_true rfl, Nat.le_of_ble_eq_true rfl, Nat.le_of_ble_eq_true rfl, Nat.le_of_ble_eq_true rfl, Nat.le_of_ble_eq_true rfl⟩ rfl rfl rfl rfl ?_
  have hr0 := rf_lc_bd (cv := sp_seenOf s) (k := 0) (w := sp_want s) (b := 16) hwb.1 (by decide) (by decide)
  refine mp_istore_n (L' := [some (Value.ref 1), some (mp_i (sp_want s)), some (mp_i 0), some (mp_i (sc_lc (sp_seenOf s) 0 (sp_want s) 16))]) dX11_roofs_82 rfl (by decide) rfl ?_
  refine mp_iload_n dX11_roofs_83 rfl ?_
  refine mp_if_lt (tgt := 89) dX11_roofs_84 rfl ⟨by omega, by omega⟩ (fun h2 => ?_) (fun h2 => ?_)
  · refine mp_iinc (z := 1) (L' := [some (Value.ref 1), some (mp_i (sp_want s)), some (mp_i 1), some (mp_i (sc_lc (sp_seenOf s) 0 (sp_want s) 16))]) dX11_roofs_89 rfl (by omega) (by decide) rfl ?_
    refine mp_goto (tgt := 69) dX11_roofs_92 rfl ?_
    refine mp_iload_n dX11_roofs_69 rfl ?_
    refine mp_iconst dX11_roofs_70 ?_
    refine mp_icmp_gt (tgt := 95) dX11_roofs_71 rfl ⟨by decide, by decide⟩ ⟨by decide, by decide⟩ (fun h3 => absurd h3 (by decide)) (fun _ => ?_)
    refine mp_aload_n dX11_roofs_74 rfl ?_
    refine mp_iload_n dX11_roofs_75 rfl ?_
    refine mp_iload_n dX11_roofs_76 rfl ?_
    refine mp_bipush dX11_roofs_77 rfl ?_
    refine mp_invV (z := (mX11_leastColumns, 1, 0, 0)) (K' := (0, 0)) (σ1 := A ++ (mp_cs s si sp f fi fp im hd kn wd ak ke (sp_seenOf s) vo so sz el ++ B)) (as := [mp_i (sp_want s), mp_i 1, mp_i 16]) (st := []) (st1 := [mp_i (sc_lc (sp_seenOf s) 1 (sp_want s) 16)]) dX11_roofs_79 svX11_209 (mp_lkP hA 0 rfl) rfl rfl (zX11_leastColumns1 (u := (sp_want s)) (b := 16) (s := s) (si := si) (sp := sp) (f := f) (fi := fi) (fp := fp) (im := im) (hd := hd) (kn := kn) (wd := wd) (ak := ak) (ke := ke) (cv := (sp_seenOf s)) (vo := vo) (so := so) (sz := sz) (el := el) (B := B) (by first | with_reducible assumption | omega) hcv9 (by first | with_reducible assumption | omega) (by first | with_reducible assumption | omega)) ⟨Nat.le_of_ble_eq_true rfl, Nat.le_of_ble_eq_true rfl, Nat.le_of_ble_eq_true rfl, Nat.le_of_ble_eq_true rfl, Nat.le_of_ble_eq_true rfl⟩ rfl rfl rfl rfl ?_
    have hr1 := rf_lc_bd (cv := sp_seenOf s) (k := 1) (w := sp_want s) (b := 16) hwb.1 (by decide) (by decide)
    refine mp_istore_n (L' := [some (Value.ref 1), some (mp_i (sp_want s)), some (mp_i 1), some (mp_i (sc_lc (sp_seenOf s) 1 (sp_want s) 16))]) dX11_roofs_82 rfl (by decide) rfl ?_
    refine mp_iload_n dX11_roofs_83 rfl ?_
    refine mp_if_lt (tgt := 89) dX11_roofs_84 rfl ⟨by omega, by omega⟩ (fun h4 => ?_) (fun h4 => ?_)
    · refine mp_iinc (z := 2) (L' := [some (Value.ref 1), some (mp_i (sp_want s)), some (mp_i 2), some (mp_i (sc_lc (sp_seenOf s) 1 (sp_want s) 16))]) dX11_roofs_89 rfl (by omega) (by decide) rfl ?_
      refine mp_goto (tgt := 69) dX11_roofs_92 rfl ?_
      refine mp_iload_n dX11_roofs_69 rfl ?_
      refine mp_iconst dX11_roofs_70 ?_
      refine mp_icmp_gt (tgt := 95) dX11_roofs_71 rfl ⟨by decide, by decide⟩ ⟨by decide, by decide⟩ (fun h5 => absurd h5 (by decide)) (fun _ => ?_)
      refine mp_aload_n dX11_roofs_74 rfl ?_
      refine mp_iload_n dX11_roofs_75 rfl ?_
      refine mp_iload_n dX11_roofs_76 rfl ?_
      refine mp_bipush dX11_roofs_77 rfl ?_
      refine mp_invV (z := (mX11_leastColumns, 2, 0, 0)) (K' := (0, 0)) (σ1 := A ++ (mp_cs s si sp f fi fp im hd kn wd ak ke (sp_seenOf s) vo so sz el ++ B)) (as := [mp_i (sp_want s), mp_i 2, mp_i 16]) (st := []) (st1 := [mp_i (sc_lc (sp_seenOf s) 2 (sp_want s) 16)]) dX11_roofs_79 svX11_209 (mp_lkP hA 0 rfl) rfl rfl (zX11_leastColumns2 (u := (sp_want s)) (b := 16) (s := s) (si := si) (sp := sp) (f := f) (fi := fi) (fp := fp) (im := im) (hd := hd) (kn := kn) (wd := wd) (ak := ak) (ke := ke) (cv := (sp_seenOf s)) (vo := vo) (so := so) (sz := sz) (el := el) (B := B) (by first | with_reducible assumption | omega) hcv9 (by first | with_reducible assumption | omega) (by first | with_reducible assumption | omega)) ⟨Nat.le_of_ble_eq_true rfl, Nat.le_of_ble_eq_true rfl, Nat.le_of_ble_eq_true rfl, Nat.le_of_ble_eq_true rfl, Nat.le_of_ble_eq_true rfl⟩ rfl rfl rfl rfl ?_
      have hr2 := rf_lc_bd (cv := sp_seenOf s) (k := 2) (w := sp_want s) (b := 16) hwb.1 (by decide) (by decide)
      refine mp_istore_n (L' := [some (Value.ref 1), some (mp_i (sp_want s)), some (mp_i 2), some (mp_i (sc_lc (sp_seenOf s) 2 (sp_want s) 16))]) dX11_roofs_82 rfl (by decide) rfl ?_
      refine mp_iload_n dX11_roofs_83 rfl ?_
      refine mp_if_lt (tgt := 89) dX11_roofs_84 rfl ⟨by omega, by omega⟩ (fun h6 => ?_) (fun h6 => ?_)
      · refine mp_iinc (z := 3) (L' := [some (Value.ref 1), some (mp_i (sp_want s)), some (mp_i 3), some (mp_i (sc_lc (sp_seenOf s) 2 (sp_want s) 16))]) dX11_roofs_89 rfl (by omega) (by decide) rfl ?_
        refine mp_goto (tgt := 69) dX11_roofs_92 rfl ?_
        refine mp_iload_n dX11_roofs_69 rfl ?_
        refine mp_iconst dX11_roofs_70 ?_
        refine mp_icmp_gt (tgt := 95) dX11_roofs_71 rfl ⟨by decide, by decide⟩ ⟨by decide, by decide⟩ (fun h7 => absurd h7 (by decide)) (fun _ => ?_)
        refine mp_aload_n dX11_roofs_74 rfl ?_
        refine mp_iload_n dX11_roofs_75 rfl ?_
        refine mp_iload_n dX11_roofs_76 rfl ?_
        refine mp_bipush dX11_roofs_77 rfl ?_
        refine mp_invV (z := (mX11_leastColumns, 3, 0, 0)) (K' := (0, 0)) (σ1 := A ++ (mp_cs s si sp f fi fp im hd kn wd ak ke (sp_seenOf s) vo so sz el ++ B)) (as := [mp_i (sp_want s), mp_i 3, mp_i 16]) (st := []) (st1 := [mp_i (sc_lc (sp_seenOf s) 3 (sp_want s) 16)]) dX11_roofs_79 svX11_209 (mp_lkP hA 0 rfl) rfl rfl (zX11_leastColumns3 (u := (sp_want s)) (b := 16) (s := s) (si := si) (sp := sp) (f := f) (fi := fi) (fp := fp) (im := im) (hd := hd) (kn := kn) (wd := wd) (ak := ak) (ke := ke) (cv := (sp_seenOf s)) (vo := vo) (so := so) (sz := sz) (el := el) (B := B) (by first | with_reducible assumption | omega) hcv9 (by first | with_reducible assumption | omega) (by first | with_reducible assumption | omega)) ⟨Nat.le_of_ble_eq_true rfl, Nat.le_of_ble_eq_true rfl, Nat.le_of_ble_eq_true rfl, Nat.le_of_ble_eq_true rfl, Nat.le_of_ble_eq_true rfl⟩ rfl rfl rfl rfl ?_
        have hr3 := rf_lc_bd (cv := sp_seenOf s) (k := 3) (w := sp_want s) (b := 16) hwb.1 (by decide) (by decide)
        refine mp_istore_n (L' := [some (Value.ref 1), some (mp_i (sp_want s)), some (mp_i 3), some (mp_i (sc_lc (sp_seenOf s) 3 (sp_want s) 16))]) dX11_roofs_82 rfl (by decide) rfl ?_
        refine mp_iload_n dX11_roofs_83 rfl ?_
        refine mp_if_lt (tgt := 89) dX11_roofs_84 rfl ⟨by omega, by omega⟩ (fun h8 => ?_) (fun h8 => ?_)
        · refine mp_iinc (z := 4) (L' := [some (Value.ref 1), some (mp_i (sp_want s)), some (mp_i 4), some (mp_i (sc_lc (sp_seenOf s) 3 (sp_want s) 16))]) dX11_roofs_89 rfl (by omega) (by decide) rfl ?_
          refine mp_goto (tgt := 69) dX11_roofs_92 rfl ?_
          refine mp_iload_n dX11_roofs_69 rfl ?_
          refine mp_iconst dX11_roofs_70 ?_
          refine mp_icmp_gt (tgt := 95) dX11_roofs_71 rfl ⟨by decide, by decide⟩ ⟨by decide, by decide⟩ (fun h9 => absurd h9 (by decide)) (fun _ => ?_)
          refine mp_aload_n dX11_roofs_74 rfl ?_
          refine mp_iload_n dX11_roofs_75 rfl ?_
          refine mp_iload_n dX11_roofs_76 rfl ?_
          refine mp_bipush dX11_roofs_77 rfl ?_
          refine mp_invV (z := (mX11_leastColumns, 4, 0, 0)) (K' := (0, 0)) (σ1 := A ++ (mp_cs s si sp f fi fp im hd kn wd ak ke (sp_seenOf s) vo so sz el ++ B)) (as := [mp_i (sp_want s), mp_i 4, mp_i 16]) (st := []) (st1 := [mp_i (sc_lc (sp_seenOf s) 4 (sp_want s) 16)]) dX11_roofs_79 svX11_209 (mp_lkP hA 0 rfl) rfl rfl (zX11_leastColumns4 (u := (sp_want s)) (b := 16) (s := s) (si := si) (sp := sp) (f := f) (fi := fi) (fp := fp) (im := im) (hd := hd) (kn := kn) (wd := wd) (ak := ak) (ke := ke) (cv := (sp_seenOf s)) (vo := vo) (so := so) (sz := sz) (el := el) (B := B) (by first | with_reducible assumption | omega) hcv9 (by first | with_reducible assumption | omega) (by first | with_reducible assumption | omega)) ⟨Nat.le_of_ble_eq_true rfl, Nat.le_of_ble_eq_true rfl, Nat.le_of_ble_eq_true rfl, Nat.le_of_ble_eq_true rfl, Nat.le_of_ble_eq_true rfl⟩ rfl rfl rfl rfl ?_
          have hr4 := rf_lc_bd (cv := sp_seenOf s) (k := 4) (w := sp_want s) (b := 16) hwb.1 (by decide) (by decide)
          refine mp_istore_n (L' := [some (Value.ref 1), some (mp_i (sp_want s)), some (mp_i 4), some (mp_i (sc_lc (sp_seenOf s) 4 (sp_want s) 16))]) dX11_roofs_82 rfl (by decide) rfl ?_
          refine mp_iload_n dX11_roofs_83 rfl ?_
          refine mp_if_lt (tgt := 89) dX11_roofs_84 rfl ⟨by omega, by omega⟩ (fun h10 => ?_) (fun h10 => ?_)
          · refine mp_iinc (z := 5) (L' := [some (Value.ref 1), some (mp_i (sp_want s)), some (mp_i 5), some (mp_i (sc_lc (sp_seenOf s) 4 (sp_want s) 16))]) dX11_roofs_89 rfl (by omega) (by decide) rfl ?_
            refine mp_goto (tgt := 69) dX11_roofs_92 rfl ?_
            refine mp_iload_n dX11_roofs_69 rfl ?_
            refine mp_iconst dX11_roofs_70 ?_
            refine mp_icmp_gt (tgt := 95) dX11_roofs_71 rfl ⟨by decide, by decide⟩ ⟨by decide, by decide⟩ (fun _ => ?_) (fun h11 => absurd h11 (by decide))
            refine mp_bipush dX11_roofs_95 rfl ?_
            exact mp_ireturn (st := []) dX11_roofs_97 rfl ⟨by decide, by decide⟩ ((mp_ans (by exact rf_none hs (fun j hj => by match j, hj with | 0, _ => omega | 1, _ => omega | 2, _ => omega | 3, _ => omega | 4, _ => omega | j + 5, hj => omega))))
          · refine mp_iload_n dX11_roofs_87 rfl ?_
            exact mp_ireturn (st := []) dX11_roofs_88 rfl ⟨by decide, by decide⟩ ((mp_ans (by exact rf_top hs (k := 4) (by decide) (fun j hj => by match j, hj with | 0, _ => omega | 1, _ => omega | 2, _ => omega | 3, _ => omega | j + 4, hj => omega) (by omega))))
        · refine mp_iload_n dX11_roofs_87 rfl ?_
          exact mp_ireturn (st := []) dX11_roofs_88 rfl ⟨by decide, by decide⟩ ((mp_ans (by exact rf_top hs (k := 3) (by decide) (fun j hj => by match j, hj with | 0, _ => omega | 1, _ => omega | 2, _ => omega | j + 3, hj => omega) (by omega))))
      · refine mp_iload_n dX11_roofs_87 rfl ?_
        exact mp_ireturn (st := []) dX11_roofs_88 rfl ⟨by decide, by decide⟩ ((mp_ans (by exact rf_top hs (k := 2) (by decide) (fun j hj => by match j, hj with | 0, _ => omega | 1, _ => omega | j + 2, hj => omega) (by omega))))
    · refine mp_iload_n dX11_roofs_87 rfl ?_
      exact mp_ireturn (st := []) dX11_roofs_88 rfl ⟨by decide, by decide⟩ ((mp_ans (by exact rf_top hs (k := 1) (by decide) (fun j hj => by match j, hj with | 0, _ => omega | j + 1, hj => omega) (by omega))))
  · refine mp_iload_n dX11_roofs_87 rfl ?_
    exact mp_ireturn (st := []) dX11_roofs_88 rfl ⟨by decide, by decide⟩ ((mp_ans (by exact rf_top hs (k := 0) (by decide) (fun j hj => by omega) (by omega))))
