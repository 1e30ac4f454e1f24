/-! ===== a sky told in a text ===== -/
def sp_rds (h : Int → Int) : List (Int × Nat) → Int → (Int → Int) → Int × Int × (Int → Int)
  | [], p, num => (1, p, num)
  | (k, g) :: r, p, num => if (sp_rdN h g p 0).1 = 0 then (0, (sp_rdN h g p 0).2.1, mp_ud num k (sp_rdN h g p 0).2.2) else sp_rds h r (sp_rdN h g p 0).2.1 (mp_ud num k (sp_rdN h g p 0).2.2)
def sp_fm : List (Int × Nat) := [(0, 1), (1, 1), (2, 2), (3, 1), (4, 2), (5, 1)]
def sp_fl : List (Int × Nat) := [(0, 1), (1, 2), (2, 1)]
def sp_fr : List (Int × Nat) := [(0, 2)]
def sp_ff : List (Int × Nat) := [(0, 1)]
def sp_form (c : Int) : List (Int × Nat) := if c = 109 then sp_fm else if c = 108 then sp_fl else if c = 114 then sp_fr else sp_ff
abbrev sp_isC (c : Int) : Prop := c = 109 ∨ c = 108 ∨ c = 114 ∨ c = 102
/-- one statement: whether it is there, the place behind it (or of the first byte that is wrong), the numbers read -/
def sp_rdS (h : Int → Int) (p : Int) (num : Int → Int) : Int × Int × (Int → Int) :=
  if ¬ sp_isC (h p) then (0, p, num)
  else if (sp_rds h (sp_form (h p)) (p + 1) num).1 = 0 ∨ h (sp_rds h (sp_form (h p)) (p + 1) num).2.1 ≠ 59 then (0, (sp_rds h (sp_form (h p)) (p + 1) num).2)
  else (1, (sp_rds h (sp_form (h p)) (p + 1) num).2.1 + 1, (sp_rds h (sp_form (h p)) (p + 1) num).2.2)
theorem mp_rdN_v (h : Int → Int) : ∀ (n : Nat) (p v : Int), 0 ≤ v → 0 ≤ (sp_rdN h n p v).2.2 ∧ (sp_rdN h n p v).2.2 < (v + 1) * 10 ^ n := by
  intro n
  induction n with
  | zero => intro p v hv; show 0 ≤ v ∧ v < (v + 1) * 10 ^ 0; rw [Int.pow_zero]; omega
  | succ n ih =>
    intro p v hv
    unfold sp_rdN
    split
    · show 0 ≤ v ∧ v < (v + 1) * 10 ^ (n + 1)
      have h1 : (0 : Int) < 10 ^ (n + 1) := Int.pow_pos (by decide)
      have h2 : (v + 1) * 1 ≤ (v + 1) * 10 ^ (n + 1) := Int.mul_le_mul_of_nonneg_left (by omega) (by omega)
      omega
    · rename_i hh
      have h1 := ih (p + 1) (10 * v + h p - 48) (by omega)
      have h2 : (0 : Int) ≤ 10 ^ n := Int.le_of_lt (Int.pow_pos (by decide))
      have h3 : (10 * v + h p - 48 + 1) * 10 ^ n ≤ ((v + 1) * 10) * 10 ^ n := Int.mul_le_mul_of_nonneg_right (by omega) h2
      have h4 : (v + 1) * 10 ^ (n + 1) = ((v + 1) * 10) * 10 ^ n := by rw [Int.pow_succ, Int.mul_comm (10 ^ n) 10, Int.mul_assoc]
      omega
theorem mp_rdN_v1 (h : Int → Int) (p : Int) : 0 ≤ (sp_rdN h 1 p 0).2.2 ∧ (sp_rdN h 1 p 0).2.2 ≤ 9 := by
  have := mp_rdN_v h 1 p 0 (by decide); omega
theorem mp_rdN_v2 (h : Int → Int) (p : Int) : 0 ≤ (sp_rdN h 2 p 0).2.2 ∧ (sp_rdN h 2 p 0).2.2 ≤ 99 := by
  have := mp_rdN_v h 2 p 0 (by decide); omega
/-- success and place don't hang on the numbers of before -/
theorem mp_rds_ind (h : Int → Int) : ∀ (f : List (Int × Nat)) (p : Int) (num num' : Int → Int), (sp_rds h f p num).1 = (sp_rds h f p num').1 ∧ (sp_rds h f p num).2.1 = (sp_rds h f p num').2.1 := by
  intro f
  induction f with
  | nil => intro p num num'; exact ⟨rfl, rfl⟩
  | cons a r ih =>
    obtain ⟨k, g⟩ := a
    intro p num num'
    unfold sp_rds
    split
    · exact ⟨rfl, rfl⟩
    · exact ih _ _ _
theorem mp_rds_ok (h : Int → Int) : ∀ (f : List (Int × Nat)) (p : Int) (num : Int → Int), (sp_rds h f p num).1 = 0 ∨ (sp_rds h f p num).1 = 1 := by
  intro f
  induction f with
  | nil => intro p num; exact Or.inr rfl
  | cons a r ih =>
    obtain ⟨k, g⟩ := a
    intro p num
    unfold sp_rds
    split
    · exact Or.inl rfl
    · exact ih _ _
theorem mp_rds_pl (h : Int → Int) : ∀ (f : List (Int × Nat)) (p : Int) (num : Int → Int), p ≤ (sp_rds h f p num).2.1 ∧ (sp_rds h f p num).2.1 ≤ p + ((f.map Prod.snd).sum : Nat) := by
  intro f
  induction f with
  | nil => intro p num; exact ⟨Int.le_refl p, by show p ≤ p + ((0 : Nat) : Int); omega⟩
  | cons a r ih =>
    obtain ⟨k, g⟩ := a
    intro p num
    have h1 := mp_rdN_pl h g p 0
    have h2 := ih (sp_rdN h g p 0).2.1 (mp_ud num k (sp_rdN h g p 0).2.2)
    have h3 : ((((k, g) :: r).map Prod.snd).sum : Nat) = g + (r.map Prod.snd).sum := by simp
    rw [h3]
    unfold sp_rds
    split
    · exact ⟨h1.1, by show (sp_rdN h g p 0).2.1 ≤ _; omega⟩
    · omega
/-- each number read is as its digits say; the others are as they were -/
theorem mp_rds_P (h : Int → Int) (P : Int → Int → Prop) : ∀ (f : List (Int × Nat)), (∀ a ∈ f, ∀ p, P a.1 (sp_rdN h a.2 p 0).2.2) → ∀ (p : Int) (num : Int → Int), (sp_rds h f p num).1 ≠ 0 → ∀ k, ((∃ a ∈ f, a.1 = k) ∨ P k (num k)) → P k ((sp_rds h f p num).2.2 k) := by
  intro f
  induction f with
  | nil => intro _ p num _ k hk; rcases hk with ⟨a, ha, _⟩ | hk; exact absurd ha (List.not_mem_nil); exact hk
  | cons a r ih =>
    obtain ⟨k0, g⟩ := a
    intro hP p num hok k hk
    unfold sp_rds at hok ⊢
    split at hok
    · exact absurd rfl hok
    · rename_i h0
      rw [if_neg h0]
      refine ih (fun a ha => hP a (List.mem_cons_of_mem _ ha)) _ _ hok k ?_
      by_cases e : k = k0
      · subst e
        rw [mp_ud_eq]
        exact Or.inr (hP (k, g) List.mem_cons_self p)
      · rw [mp_ud_ne e]
        rcases hk with ⟨a, ha, hak⟩ | hk
        · rcases List.mem_cons.mp ha with rfl | ha
          · exact absurd hak.symm e
          · exact Or.inl ⟨a, ha, hak⟩
        · exact Or.inr hk
def sp_done (s num : Int → Int) (c : Int) : Int × (Int → Int) :=
  if c = 109 then (if 8 ≤ num 0 ∨ ¬ ((0 ≤ num 2 ∧ num 2 ≤ 15) ∧ (0 ≤ num 3 ∧ num 3 ≤ 4) ∧ (0 ≤ num 4 ∧ num 4 ≤ 30)) ∨ ¬ ((0 ≤ num 5 ∧ num 5 ≤ 4) ∨ num 5 = 9) ∨ s 0 = 8 then (0, s) else (1, sp_adds s (num 0) (num 1) (num 2) (num 3) (num 4) (num 5)))
  else if c = 108 then (if ¬ (0 ≤ num 0 ∧ num 0 ≤ 4) ∨ 16 ≤ num 1 then (0, s) else (1, mp_ud (mp_ud s (49 + 3 * num 0 + 0) (num 1)) (49 + 3 * num 0 + 1) (num 2)))
  else if c = 114 then (if 31 ≤ num 0 then (0, s) else (1, (sp_runs s (num 0)).1))
  else (if ¬ (0 ≤ num 0 ∧ num 0 ≤ 4) then (0, s) else (1, mp_ud s (49 + 3 * num 0 + 2) 9))
theorem mp_done_01 (s num : Int → Int) (c : Int) : (sp_done s num c).1 = 0 ∨ (sp_done s num c).1 = 1 := by
  unfold sp_done
  split
  · split
    · exact Or.inl rfl
    · exact Or.inr rfl
  · split
    · split
      · exact Or.inl rfl
      · exact Or.inr rfl
    · split
      · split
        · exact Or.inl rfl
        · exact Or.inr rfl
      · split
        · exact Or.inl rfl
        · exact Or.inr rfl
