/-! ===== a sky told in a text ===== -/
def sp_rds (h : Int → Int) : List (Int × Nat) → Int → (Int → Int) → Int × Int × (Int → Int)
  | [], p, num => (1, p, num)
  | (k, g) :: r, p, num => if (sp_rdN h g p 0).1 = 0 then (0, (sp_rdN h g p 0).2.1, mp_ud num k (sp_rdN h g p 0).2.2) else sp_rds h r (sp_rdN h g p 0).2.1 (mp_ud num k (sp_rdN h g p 0).2.2)
def sp_fm : List (Int × Nat) := [(0, 1), (1, 1), (2, 2), (3, 1), (4, 2), (5, 1)]
def sp_fl : List (Int × Nat) := [(0, 1), (1, 2), (2, 1)]
def sp_fr : List (Int × Nat) := [(0, 2)]
def sp_ff : List (Int × Nat) := [(0, 1)]
def sp_form (c : Int) : List (Int × Nat) := if c = 109 then sp_fm else if c = 108 then sp_fl else if c = 114 then sp_fr else sp_ff
abbrev sp_isC (c : Int) : Prop := c = 109 ∨ c = 108 ∨ c = 114 ∨ c = 102
/-- one statement: whether it is there, the place behind it (or of the first byte that is wrong), the numbers read -/
def sp_rdS (h : Int → Int) (p : Int) (num : Int → Int) : Int × Int × (Int → Int) :=
  if ¬ sp_isC (h p) then (0, p, num)
  else if (sp_rds h (sp_form (h p)) (p + 1) num).1 = 0 ∨ h (sp_rds h (sp_form (h p)) (p + 1) num).2.1 ≠ 59 then (0, (sp_rds h (sp_form (h p)) (p + 1) num).2)
  else (1, (sp_rds h (sp_form (h p)) (p + 1) num).2.1 + 1, (sp_rds h (sp_form (h p)) (p + 1) num).2.2)
theorem mp_rdN_v (h : Int → Int) : ∀ (n : Nat) (p v : Int), 0 ≤ v → 0 ≤ (sp_rdN h n p v).2.2 ∧ (sp_rdN h n p v).2.2 < (v + 1) * 10 ^ n := by
  intro n
  induction n with
  | zero => intro p v hv; show 0 ≤ v ∧ v < (v + 1) * 10 ^ 0; rw [Int.pow_zero]; omega
  | succ n ih =>
    intro p v hv
    unfold sp_rdN
    split
    · show 0 ≤ v ∧ v < (v + 1) * 10 ^ (n + 1)
      have h1 : (0 : Int) < 10 ^ (n + 1) := Int.pow_pos (by decide)
      have h2 : (v + 1) * 1 ≤ (v + 1) * 10 ^ (n + 1) := Int.mul_le_mul_of_nonneg_left (by omega) (by omega)
      omega
    · rename_i hh
      have h1 := ih (p + 1) (10 * v + h p - 48) (by omega)
      have h2 : (0 : Int) ≤ 10 ^ n := Int.le_of_lt (Int.pow_pos (by decide))
      have h3 : (10 * v + h p - 48 + 1) * 10 ^ n ≤ ((v + 1) * 10) * 10 ^ n := Int.mul_le_mul_of_nonneg_right (by omega) h2
      have h4 : (v + 1) * 10 ^ (n + 1) = ((v + 1) * 10) * 10 ^ n := by rw [Int.pow_succ, Int.mul_comm (10 ^ n) 10, Int.mul_assoc]
      omega
theorem mp_rdN_v1 (h : Int → Int) (p : Int) : 0 ≤ (sp_rdN h 1 p 0).2.2 ∧ (sp_rdN h 1 p 0).2.2 ≤ 9 := by
  have := mp_rdN_v h 1 p 0 (by decide); omega
theorem mp_rdN_v2 (h : Int → Int) (p : Int) : 0 ≤ (sp_rdN h 2 p 0).2.2 ∧ (sp_rdN h 2 p 0).2.2 ≤ 99 := by
  have := mp_rdN_v h 2 p 0 (by decide); omega
/-- success and place don't hang on the numbers of before -/
theorem mp_rds_ind (h : Int → Int) : ∀ (f : List (Int × Nat)) (p : Int) (num num' : Int → Int), (sp_rds h f p num).1 = (sp_rds h f p num').1 ∧ (sp_rds h f p num).2.1 = (sp_rds h f p num').2.1 := by
  intro f
  induction f with
  | nil => intro p num num'; exact ⟨rfl, rfl⟩
  | cons a r ih =>
    obtain ⟨k, g⟩ := a
    intro p num num'
    unfold sp_rds
    split
    · exact ⟨rfl, rfl⟩
    · exact ih _ _ _
theorem mp_rds_ok (h : Int → Int) : ∀ (f : List (Int × Nat)) (p : Int) (num : Int → Int), (sp_rds h f p num).1 = 0 ∨ (sp_rds h f p num).1 = 1 := by
  intro f
  induction f with
  | nil => intro p num; exact Or.inr rfl
  | cons a r ih =>
    obtain ⟨k, g⟩ := a
    intro p num
    unfold sp_rds
    split
    · exact Or.inl rfl
    · exact ih _ _
theorem mp_rds_pl (h : Int → Int) : ∀ (f : List (Int × Nat)) (p : Int) (num : Int → Int), p ≤ (sp_rds h f p num).2.1 ∧ (sp_rds h f p num).2.1 ≤ p + ((f.map Prod.snd).sum : Nat) := by
  intro f
  induction f with
  | nil => intro p num; exact ⟨Int.le_refl p, by show p ≤ p + ((0 : Nat) : Int); omega⟩
  | cons a r ih =>
    obtain ⟨k, g⟩ := a
    intro p num
    have h1 := mp_rdN_pl h g p 0
    have h2 := ih (sp_rdN h g p 0).2.1 (mp_ud num k (sp_rdN h g p 0).2.2)
    have h3 : ((((k, g) :: r).map Prod.snd).sum : Nat) = g + (r.map Prod.snd).sum := by simp
    rw [h3]
    unfold sp_rds
    split
    · exact ⟨h1.1, by show (sp_rdN h g p 0).2.1 ≤ _; omega⟩
    · omega
/-- each number read is as its digits say; the others are as they were -/
theorem mp_rds_P (h : Int → Int) (P : Int → Int → Prop) : ∀ (f : List (Int × Nat)), (∀ a ∈ f, ∀ p, P a.1 (sp_rdN h a.2 p 0).2.2) → ∀ (p : Int) (num : Int → Int), (sp_rds h f p num).1 ≠ 0 → ∀ k, ((∃ a ∈ f, a.1 = k) ∨ P k (num k)) → P k ((sp_rds h f p num).2.2 k) := by
  intro f
  induction f with
  | nil => intro _ p num _ k hk; rcases hk with ⟨a, ha, _⟩ | hk; exact absurd ha (List.not_mem_nil); exact hk
  | cons a r ih =>
    obtain ⟨k0, g⟩ := a
    intro hP p num hok k hk
    unfold sp_rds at hok ⊢
    split at hok
    · exact absurd rfl hok
    · rename_i h0
      rw [if_neg h0]
      refine ih (fun a ha => hP a (List.mem_cons_of_mem _ ha)) _ _ hok k ?_
      by_cases e : k = k0
      · subst e
        rw [mp_ud_eq]
        exact Or.inr (hP (k, g) List.mem_cons_self p)
      · rw [mp_ud_ne e]
        rcases hk with ⟨a, ha, hak⟩ | hk
        · rcases List.mem_cons.mp ha with rfl | ha
          · exact absurd hak.symm e
          · exact Or.inl ⟨a, ha, hak⟩
        · exact Or.inr hk
def sp_done (s num : Int → Int) (c : Int) : Int × (Int → Int) :=
  if c = 109 then (if 8 ≤ num 0 ∨ ¬ ((0 ≤ num 2 ∧ num 2 ≤ 15) ∧ (0 ≤ num 3 ∧ num 3 ≤ 4) ∧ (0 ≤ num 4 ∧ num 4 ≤ 30)) ∨ ¬ ((0 ≤ num 5 ∧ num 5 ≤ 4) ∨ num 5 = 9) ∨ s 0 = 8 then (0, s) else (1, sp_adds s (num 0) (num 1) (num 2) (num 3) (num 4) (num 5)))
  else if c = 108 then (if ¬ (0 ≤ num 0 ∧ num 0 ≤ 4) ∨ 16 ≤ num 1 then (0, s) else (1, mp_ud (mp_ud s (49 + 3 * num 0 + 0) (num 1)) (49 + 3 * num 0 + 1) (num 2)))
  else if c = 114 then (if 31 ≤ num 0 then (0, s) else (1, (sp_runs s (num 0)).1))
  else (if ¬ (0 ≤ num 0 ∧ num 0 ≤ 4) then (0, s) else (1, mp_ud s (49 + 3 * num 0 + 2) 9))
theorem mp_done_01 (s num : Int → Int) (c : Int) : (sp_done s num c).1 = 0 ∨ (sp_done s num c).1 = 1 := by
  unfold sp_done
  split
  · split
    · exact Or.inl rfl
    · exact Or.inr rfl
  · split
    · split
      · exact Or.inl rfl
      · exact Or.inr rfl
    · split
      · split
        · exact Or.inl rfl
        · exact Or.inr rfl
      · split
        · exact Or.inl rfl
        · exact Or.inr rfl
theorem mp_adds_sky {s : Int → Int} (hs : mp_sky s) {a b c e f l : Int} (hz : s 0 ≤ 7) (ha : 0 ≤ a ∧ a ≤ 7) (hb : 0 ≤ b ∧ b ≤ 9) (hc : 0 ≤ c ∧ c ≤ 15) (he : 0 ≤ e ∧ e ≤ 4) (hf : 0 ≤ f ∧ f ≤ 30) (hl : (0 ≤ l ∧ l ≤ 4) ∨ l = 9) : mp_sky (sp_adds s a b c e f l) := by
  obtain ⟨h1, h2, h3, h4⟩ := hs
  have eo : ∀ j, j ≠ 0 → (j < 1 + 6 * s 0 ∨ 1 + 6 * s 0 + 5 < j) → sp_adds s a b c e f l j = s j := fun j h0 h => by
    unfold sp_adds
    rw [mp_ud_ne h0, mp_ud_ne (by omega), mp_ud_ne (by omega), mp_ud_ne (by omega), mp_ud_ne (by omega), mp_ud_ne (by omega), mp_ud_ne (by omega)]
  have g0 : sp_adds s a b c e f l (1 + 6 * s 0 + 0) = a := by
    unfold sp_adds
    rw [mp_ud_ne (by omega), mp_ud_ne (by omega), mp_ud_ne (by omega), mp_ud_ne (by omega), mp_ud_ne (by omega), mp_ud_ne (by omega), mp_ud_eq]
  have g1 : sp_adds s a b c e f l (1 + 6 * s 0 + 1) = b := by
    unfold sp_adds
    rw [mp_ud_ne (by omega), mp_ud_ne (by omega), mp_ud_ne (by omega), mp_ud_ne (by omega), mp_ud_ne (by omega), mp_ud_eq]
  have g2 : sp_adds s a b c e f l (1 + 6 * s 0 + 2) = c := by
    unfold sp_adds
    rw [mp_ud_ne (by omega), mp_ud_ne (by omega), mp_ud_ne (by omega), mp_ud_ne (by omega), mp_ud_eq]
  have g3 : sp_adds s a b c e f l (1 + 6 * s 0 + 3) = e := by
    unfold sp_adds
    rw [mp_ud_ne (by omega), mp_ud_ne (by omega), mp_ud_ne (by omega), mp_ud_eq]
  have g4 : sp_adds s a b c e f l (1 + 6 * s 0 + 4) = f := by
    unfold sp_adds
    rw [mp_ud_ne (by omega), mp_ud_ne (by omega), mp_ud_eq]
  have g5 : sp_adds s a b c e f l (1 + 6 * s 0 + 5) = l := by
    unfold sp_adds
    rw [mp_ud_ne (by omega), mp_ud_eq]
  have gz : sp_adds s a b c e f l 0 = s 0 + 1 := mp_adds_0
  refine ⟨by rw [gz]; omega, fun q q1 q2 => ?_, fun q q1 q2 => ?_, fun q q' a1 a2 a3 a4 => ?_⟩
  · rw [gz] at q2
    unfold mp_met
    by_cases hq : q = s 0
    · subst hq
      rw [g0, g1, g2, g3, g4, g5]
      exact ⟨ha, hb, hc, he, hf, hl⟩
    · rw [eo _ (by omega) (by omega), eo _ (by omega) (by omega), eo _ (by omega) (by omega), eo _ (by omega) (by omega), eo _ (by omega) (by omega), eo _ (by omega) (by omega)]
      exact h2 q q1 (by omega)
  · have := h3 q q1 q2
    unfold mp_lkr
    rw [gz, eo (49 + 3 * q + 0) (by omega) (by omega), eo (49 + 3 * q + 1) (by omega) (by omega), eo (49 + 3 * q + 2) (by omega) (by omega)]
    exact ⟨this.1, this.2.1, by omega⟩
  · rw [eo (49 + 3 * q + 2) (by omega) (by omega), eo (49 + 3 * q' + 2) (by omega) (by omega)]
    exact h4 q q' a1 a2 a3 a4
/-- the numbers of a statement, as their digits say -/
abbrev mp_nbd (c : Int) (num : Int → Int) : Prop := (0 ≤ num 0 ∧ num 0 ≤ 99) ∧ (c = 109 → (0 ≤ num 1 ∧ num 1 ≤ 9) ∧ (0 ≤ num 2 ∧ num 2 ≤ 99) ∧ (0 ≤ num 3 ∧ num 3 ≤ 99) ∧ (0 ≤ num 4 ∧ num 4 ≤ 99) ∧ (0 ≤ num 5 ∧ num 5 ≤ 99)) ∧ (c = 108 → (0 ≤ num 1 ∧ num 1 ≤ 99) ∧ (0 ≤ num 2 ∧ num 2 ≤ 9))
theorem mp_done_sky {s num : Int → Int} {c : Int} (hs : mp_sky s) (hn : mp_nbd c num) : mp_sky (sp_done s num c).2 := by
  have h0 := hs.1
  unfold sp_done
  by_cases h1 : c = 109
  · rw [if_pos h1]
    have h2 := hn.2.1 h1
    split
    · exact hs
    · exact mp_adds_sky hs (by omega) (by omega) (by omega) (by omega) (by omega) (by omega) (by omega)
  · rw [if_neg h1]
    by_cases h2 : c = 108
    · rw [if_pos h2]
      have h3 := hn.2.2 h2
      split
      · exact hs
      · exact mp_sky_looker (mp_sky_looker hs (by omega) (Or.inl ⟨rfl, by omega, by omega⟩)) (by omega) (Or.inr ⟨rfl, by omega, by omega⟩)
    · rw [if_neg h2]
      split
      · split
        · exact hs
        · exact (mp_runs_sky hs _).1
      · split
        · exact hs
        · exact mp_sky_said hs (by omega) (Or.inr rfl) (Or.inl rfl)
theorem mp_rdS_01 (h : Int → Int) (p : Int) (num : Int → Int) : (sp_rdS h p num).1 = 0 ∨ (sp_rdS h p num).1 = 1 := by
  unfold sp_rdS
  split
  · exact Or.inl rfl
  · split
    · exact Or.inl rfl
    · exact Or.inr rfl
theorem mp_form_sum (c : Int) : (((sp_form c).map Prod.snd).sum : Nat) ≤ 8 := by
  unfold sp_form
  split
  · decide
  · split
    · decide
    · split <;> decide
theorem mp_rdS_pl (h : Int → Int) (p : Int) (num : Int → Int) : p ≤ (sp_rdS h p num).2.1 ∧ (sp_rdS h p num).2.1 ≤ p + 10 ∧ ((sp_rdS h p num).1 ≠ 0 → p + 2 ≤ (sp_rdS h p num).2.1) := by
  have h1 := mp_rds_pl h (sp_form (h p)) (p + 1) num
  have h2 := mp_form_sum (h p)
  unfold sp_rdS
  split
  · exact ⟨Int.le_refl p, by show p ≤ p + 10; omega, fun h => absurd rfl h⟩
  · split
    · exact ⟨by show p ≤ (sp_rds h (sp_form (h p)) (p + 1) num).2.1; omega, by show (sp_rds h (sp_form (h p)) (p + 1) num).2.1 ≤ p + 10; omega, fun h => absurd rfl h⟩
    · exact ⟨by show p ≤ (sp_rds h (sp_form (h p)) (p + 1) num).2.1 + 1; omega, by show (sp_rds h (sp_form (h p)) (p + 1) num).2.1 + 1 ≤ p + 10; omega, fun _ => by show p + 2 ≤ (sp_rds h (sp_form (h p)) (p + 1) num).2.1 + 1; omega⟩
theorem mp_rdS_ind (h : Int → Int) (p : Int) (num num' : Int → Int) : (sp_rdS h p num).1 = (sp_rdS h p num').1 ∧ (sp_rdS h p num).2.1 = (sp_rdS h p num').2.1 := by
  have e := mp_rds_ind h (sp_form (h p)) (p + 1) num num'
  unfold sp_rdS
  rw [← e.1, ← e.2]
  split
  · exact ⟨rfl, rfl⟩
  · split
    · exact ⟨rfl, e.2⟩
    · exact ⟨rfl, rfl⟩
theorem mp_rdS_bd (h : Int → Int) (p : Int) (num : Int → Int) (hok : (sp_rdS h p num).1 ≠ 0) : mp_nbd (h p) (sp_rdS h p num).2.2 ∧ sp_isC (h p) := by
  unfold sp_rdS at hok ⊢
  split at hok
  · exact absurd rfl hok
  · rename_i hc
    split at hok
    · exact absurd rfl hok
    · rename_i h1
      rw [if_neg hc, if_neg h1]
      refine ⟨?_, Decidable.not_not.mp hc⟩
      have h2 : (sp_rds h (sp_form (h p)) (p + 1) num).1 ≠ 0 := fun h => h1 (Or.inl h)
      show mp_nbd (h p) (sp_rds h (sp_form (h p)) (p + 1) num).2.2
      have v1 := mp_rdN_v1 h
      have v2 := mp_rdN_v2 h
      by_cases c1 : h p = 109
      · rw [show sp_form (h p) = sp_fm from if_pos c1] at h2 ⊢
        have := mp_rds_P h (fun k v => 0 ≤ v ∧ v ≤ if k = 2 ∨ k = 4 then 99 else 9) sp_fm (fun a ha p => by
          rcases List.mem_cons.mp ha with rfl | ha
          · exact v1 p
          rcases List.mem_cons.mp ha with rfl | ha
          · exact v1 p
          rcases List.mem_cons.mp ha with rfl | ha
          · exact v2 p
          rcases List.mem_cons.mp ha with rfl | ha
          · exact v1 p
          rcases List.mem_cons.mp ha with rfl | ha
          · exact v2 p
          rcases List.mem_cons.mp ha with rfl | ha
          · exact v1 p
          exact absurd ha List.not_mem_nil) (p + 1) num h2
        have g0 := this 0 (Or.inl ⟨(0, 1), by decide, rfl⟩)
        have g1 := this 1 (Or.inl ⟨(1, 1), by decide, rfl⟩)
        have g2 := this 2 (Or.inl ⟨(2, 2), by decide, rfl⟩)
        have g3 := this 3 (Or.inl ⟨(3, 1), by decide, rfl⟩)
        have g4 := this 4 (Or.inl ⟨(4, 2), by decide, rfl⟩)
        have g5 := this 5 (Or.inl ⟨(5, 1), by decide, rfl⟩)
        refine ⟨by omega, fun _ => ⟨by omega, by omega, by omega, by omega, by omega⟩, fun h => by omega⟩
      · by_cases c2 : h p = 108
        · rw [show sp_form (h p) = sp_fl from by unfold sp_form; rw [if_neg c1, if_pos c2]] at h2 ⊢
          have := mp_rds_P h (fun k v => 0 ≤ v ∧ v ≤ if k = 1 then 99 else 9) sp_fl (fun a ha p => by
            rcases List.mem_cons.mp ha with rfl | ha
            · exact v1 p
            rcases List.mem_cons.mp ha with rfl | ha
            · exact v2 p
            rcases List.mem_cons.mp ha with rfl | ha
            · exact v1 p
            exact absurd ha List.not_mem_nil) (p + 1) num h2
          have g0 := this 0 (Or.inl ⟨(0, 1), by decide, rfl⟩)
          have g1 := this 1 (Or.inl ⟨(1, 2), by decide, rfl⟩)
          have g2 := this 2 (Or.inl ⟨(2, 1), by decide, rfl⟩)
          exact ⟨by omega, fun h => by omega, fun _ => ⟨by omega, by omega⟩⟩
        · have := mp_rds_P h (fun k v => 0 ≤ v ∧ v ≤ 99) (sp_form (h p)) (fun a ha p' => by
            unfold sp_form at ha
            rw [if_neg c1, if_neg c2] at ha
            split at ha
            · rcases List.mem_cons.mp ha with rfl | ha
              · exact v2 p'
              exact absurd ha List.not_mem_nil
            · rcases List.mem_cons.mp ha with rfl | ha
              · have := v1 p'; show _ ∧ _; exact ⟨this.1, by have := this.2; show (sp_rdN h 1 p' 0).2.2 ≤ 99; omega⟩
              exact absurd ha List.not_mem_nil) (p + 1) num h2
          have g0 := this 0 (Or.inl (by
            unfold sp_form
            rw [if_neg c1, if_neg c2]
            split
            · exact ⟨(0, 2), by decide, rfl⟩
            · exact ⟨(0, 1), by decide, rfl⟩))
          exact ⟨g0, fun h => absurd h c1, fun h => absurd h c2⟩
/-- the first reading: fault, statements, place, numbers -/
def sp_scan (h : Int → Int) (re : Int) : Nat → Int → Int → (Int → Int) → Int × Int × Int × (Int → Int)
  | 0, p, c, num => (0, c, p, num)
  | n + 1, p, c, num => if (sp_rdS h p num).1 = 0 then (-1000 - (sp_rdS h p num).2.1, c + 1, (sp_rdS h p num).2) else if (sp_rdS h p num).2.1 < re then sp_scan h re n (sp_rdS h p num).2.1 (c + 1) (sp_rdS h p num).2.2 else (0, c + 1, (sp_rdS h p num).2)
/-- the doing: fault, sky, place, numbers -/
def sp_does (h : Int → Int) (re : Int) (s0 : Int → Int) : Nat → Int → (Int → Int) → (Int → Int) → Int × (Int → Int) × Int × (Int → Int)
  | 0, p, s, num => (0, s, p, num)
  | n + 1, p, s, num => if ¬ p < re then (0, s, p, num) else if (sp_done s (sp_rdS h p num).2.2 (h p)).1 = 0 then (-2000 - p, s0, (sp_rdS h p num).2) else sp_does h re s0 n (sp_rdS h p num).2.1 (sp_done s (sp_rdS h p num).2.2 (h p)).2 (sp_rdS h p num).2.2
/-- a place from which all is read well -/
def mp_gdT (h : Int → Int) (re : Int) : Nat → Int → Prop
  | 0, _ => True
  | n + 1, p => p < re → (sp_rdS h p (fun _ => 0)).1 ≠ 0 ∧ mp_gdT h re n (sp_rdS h p (fun _ => 0)).2.1
theorem mp_scan_good (h : Int → Int) (re : Int) : ∀ (n : Nat) (p c : Int) (num : Int → Int), (sp_scan h re n p c num).1 = 0 → 0 ≤ p → mp_gdT h re n p := by
  intro n
  induction n with
  | zero => intro p c num _ _; exact trivial
  | succ n ih =>
    intro p c num h0 hp _
    have e := mp_rdS_ind h p (fun _ => 0) num
    have hpl := mp_rdS_pl h p num
    unfold sp_scan at h0
    rw [e.1, e.2]
    split at h0
    · exfalso
      have h0 : -1000 - (sp_rdS h p num).2.1 = 0 := h0
      omega
    · rename_i h1
      refine ⟨h1, ?_⟩
      split at h0
      · exact ih _ _ _ h0 (by omega)
      · rename_i h2
        cases n with
        | zero => exact trivial
        | succ n => intro h3; exact absurd h3 h2
theorem mp_scan_n (h : Int → Int) (re : Int) : ∀ (n : Nat) (p c : Int) (num : Int → Int), c ≤ (sp_scan h re n p c num).2.1 ∧ (sp_scan h re n p c num).2.1 ≤ c + n := by
  intro n
  induction n with
  | zero => intro p c num; exact ⟨Int.le_refl c, by show c ≤ c + ((0 : Nat) : Int); omega⟩
  | succ n ih =>
    intro p c num
    unfold sp_scan
    split
    · exact ⟨by show c ≤ c + 1; omega, by show c + 1 ≤ c + ((n + 1 : Nat) : Int); omega⟩
    · split
      · have := ih (sp_rdS h p num).2.1 (c + 1) (sp_rdS h p num).2.2
        omega
      · exact ⟨by show c ≤ c + 1; omega, by show c + 1 ≤ c + ((n + 1 : Nat) : Int); omega⟩
theorem mp_scan_bd (h : Int → Int) (re : Int) : ∀ (n : Nat) (p c : Int) (num : Int → Int), 0 ≤ p → p ≤ 800 → re ≤ 800 → (sp_scan h re n p c num).1 = 0 ∨ (-2000 ≤ (sp_scan h re n p c num).1 ∧ (sp_scan h re n p c num).1 ≤ -1000) := by
  intro n
  induction n with
  | zero => intro p c num _ _ _; exact Or.inl rfl
  | succ n ih =>
    intro p c num h0 h1 h2
    have hpl := mp_rdS_pl h p num
    unfold sp_scan
    split
    · exact Or.inr ⟨by show -2000 ≤ -1000 - (sp_rdS h p num).2.1; omega, by show -1000 - (sp_rdS h p num).2.1 ≤ -1000; omega⟩
    · split
      · exact ih _ _ _ (by omega) (by omega) h2
      · exact Or.inl rfl
theorem mp_does_bd (h : Int → Int) (re : Int) (s0 : Int → Int) : ∀ (n : Nat) (p : Int) (s num : Int → Int), 0 ≤ p → re ≤ 800 → (sp_does h re s0 n p s num).1 = 0 ∨ (-3000 ≤ (sp_does h re s0 n p s num).1 ∧ (sp_does h re s0 n p s num).1 ≤ -2000) := by
  intro n
  induction n with
  | zero => intro p s num _ _; exact Or.inl rfl
  | succ n ih =>
    intro p s num h0 h2
    have hpl := mp_rdS_pl h p num
    unfold sp_does
    split
    · exact Or.inl rfl
    · split
      · exact Or.inr ⟨by show -3000 ≤ -2000 - p; omega, by show -2000 - p ≤ -2000; omega⟩
      · exact ih _ _ _ (by omega) h2
theorem mp_does_sky (h : Int → Int) (re : Int) (s0 : Int → Int) (hs0 : mp_sky s0) : ∀ (n : Nat) (p : Int) (s num : Int → Int), mp_sky s → mp_gdT h re n p → mp_sky (sp_does h re s0 n p s num).2.1 := by
  intro n
  induction n with
  | zero => intro p s num hs _; exact hs
  | succ n ih =>
    intro p s num hs hg
    unfold sp_does
    split
    · exact hs
    · rename_i h1
      have e := mp_rdS_ind h p (fun _ => 0) num
      have hg' := hg (Decidable.not_not.mp h1)
      rw [e.1, e.2] at hg'
      split
      · exact hs0
      · exact ih _ _ _ (mp_done_sky hs (mp_rdS_bd h p num hg'.1).1) hg'.2
/-- SKY of a text: the answer, the sky, place and numbers of the reading -/
def sp_skyT (h : Int → Int) (re : Int) (s num : Int → Int) : Int × (Int → Int) × Int × (Int → Int) :=
  if (sp_scan h re (re.toNat + 1) 0 0 num).1 ≠ 0 then ((sp_scan h re (re.toNat + 1) 0 0 num).1, s, 0, (sp_scan h re (re.toNat + 1) 0 0 num).2.2.2)
  else (if (sp_does h re s (re.toNat + 1) 0 s (sp_scan h re (re.toNat + 1) 0 0 num).2.2.2).1 = 0 then (sp_scan h re (re.toNat + 1) 0 0 num).2.1 else (sp_does h re s (re.toNat + 1) 0 s (sp_scan h re (re.toNat + 1) 0 0 num).2.2.2).1, (sp_does h re s (re.toNat + 1) 0 s (sp_scan h re (re.toNat + 1) 0 0 num).2.2.2).2)
def sp_sky (s kp so sz el num : Int → Int) (pl d : Int) : Int × (Int → Int) × Int × (Int → Int) := if sp_wrongRow kp so d 0 ≠ 0 then (sp_wrongRow kp so d 0, s, pl, num) else sp_skyT (sp_here el (100 * d) (sz d)) (sz d) s num
theorem mp_scan_bad {h : Int → Int} {re p c : Int} {num : Int → Int} {n : Nat} (h0 : (sp_rdS h p num).1 = 0) : sp_scan h re (n + 1) p c num = (-1000 - (sp_rdS h p num).2.1, c + 1, (sp_rdS h p num).2) := if_pos h0
theorem mp_scan_on {h : Int → Int} {re p c : Int} {num : Int → Int} {n : Nat} (h0 : ¬ (sp_rdS h p num).1 = 0) (h1 : (sp_rdS h p num).2.1 < re) : sp_scan h re (n + 1) p c num = sp_scan h re n (sp_rdS h p num).2.1 (c + 1) (sp_rdS h p num).2.2 := (if_neg h0).trans (if_pos h1)
theorem mp_scan_end {h : Int → Int} {re p c : Int} {num : Int → Int} {n : Nat} (h0 : ¬ (sp_rdS h p num).1 = 0) (h1 : ¬ (sp_rdS h p num).2.1 < re) : sp_scan h re (n + 1) p c num = (0, c + 1, (sp_rdS h p num).2) := (if_neg h0).trans (if_neg h1)
theorem mp_does_end {h : Int → Int} {re p : Int} {s0 s num : Int → Int} {n : Nat} (h0 : ¬ p < re) : sp_does h re s0 (n + 1) p s num = (0, s, p, num) := if_pos h0
theorem mp_does_bad {h : Int → Int} {re p : Int} {s0 s num : Int → Int} {n : Nat} (h0 : p < re) (h1 : (sp_done s (sp_rdS h p num).2.2 (h p)).1 = 0) : sp_does h re s0 (n + 1) p s num = (-2000 - p, s0, (sp_rdS h p num).2) := (if_neg (by omega)).trans (if_pos h1)
theorem mp_does_on {h : Int → Int} {re p : Int} {s0 s num : Int → Int} {n : Nat} (h0 : p < re) (h1 : ¬ (sp_done s (sp_rdS h p num).2.2 (h p)).1 = 0) : sp_does h re s0 (n + 1) p s num = sp_does h re s0 n (sp_rdS h p num).2.1 (sp_done s (sp_rdS h p num).2.2 (h p)).2 (sp_rdS h p num).2.2 := (if_neg (by omega)).trans (if_neg h1)
theorem mp_gdT_on {h : Int → Int} {re p : Int} {n : Nat} (hg : mp_gdT h re (n + 1) p) (h0 : p < re) (num : Int → Int) : (sp_rdS h p num).1 ≠ 0 ∧ mp_gdT h re n (sp_rdS h p num).2.1 := by
  have e := mp_rdS_ind h p (fun _ => 0) num
  have hg' := hg h0
  rw [e.1, e.2] at hg'
  exact hg'
