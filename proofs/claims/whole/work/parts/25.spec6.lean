/-! ===== dark ones, laws, the game, draws ===== -/
def sp_dkN (el : Int → Int) (d : Int) : Nat → Int → Int
  | 0, _ => 0
  | n + 1, t => if ¬ (0 ≤ el (100 * d + t) ∧ el (100 * d + t) ≤ 99) then -13 else sp_dkN el d n (t + 1)
theorem mp_dkN_bd (el : Int → Int) (d : Int) : ∀ (n : Nat) (t : Int), sp_dkN el d n t = 0 ∨ sp_dkN el d n t = -13 := by
  intro n
  induction n with
  | zero => intro t; exact Or.inl rfl
  | succ n ih =>
    intro t
    unfold sp_dkN
    split
    · exact Or.inr rfl
    · exact ih _
theorem mp_dkN_ok (el : Int → Int) (d : Int) : ∀ (n : Nat) (t : Int), sp_dkN el d n t = 0 → ∀ x, t ≤ x → x < t + n → 0 ≤ el (100 * d + x) ∧ el (100 * d + x) ≤ 99 := by
  intro n
  induction n with
  | zero => intro t _ x h1 h2; omega
  | succ n ih =>
    intro t h x h1 h2
    unfold sp_dkN at h
    by_cases c : ¬ (0 ≤ el (100 * d + t) ∧ el (100 * d + t) ≤ 99)
    · rw [if_pos c] at h; exact absurd h (by decide)
    · rw [if_neg c] at h
      by_cases e : x = t
      · subst e; omega
      · exact ih (t + 1) h x (by omega) (by omega)
def sp_dkBad (kp so sz el : Int → Int) (d : Int) : Int := if sp_wrongRow kp so d (-1) ≠ 0 then sp_wrongRow kp so d (-1) else if 31 < sz d then -13 else sp_dkN el d (sz d).toNat 0
def sp_nightOf (s : Int → Int) (t : Int) : Int := mp_fold (fun k n => n + (if s (1 + 6 * k + 4) = t then 1 else 0)) (s 0).toNat 0 0
def sp_dkStep (s el : Int → Int) (d t : Int) (p : Int × Int) : Int × Int := if sp_nightOf s t - el (100 * d + t) ≤ 0 then p else (if p.1 < 0 then t else p.1, p.2 + (sp_nightOf s t - el (100 * d + t)))
def sp_dark (s sz el : Int → Int) (d : Int) : Int × Int := mp_fold (sp_dkStep s el d) (sz d).toNat 0 (-4, 0)
def sp_darkOnes (s kp so sz el : Int → Int) (d w : Int) : Int := if ¬ (0 ≤ w ∧ w ≤ 1) then -1 else if sp_dkBad kp so sz el d ≠ 0 then sp_dkBad kp so sz el d else if w = 0 then (sp_dark s sz el d).1 else (sp_dark s sz el d).2
theorem mp_nightOf_bd {s : Int → Int} (hs : mp_sky s) (t : Int) : 0 ≤ sp_nightOf s t ∧ sp_nightOf s t ≤ 8 := by
  have h0 := hs.1
  have := mp_fold_inv (f := fun k n => n + (if s (1 + 6 * k + 4) = t then 1 else 0)) (fun i n => 0 ≤ n ∧ n ≤ i) (fun i a h => by constructor <;> (split <;> omega)) (s 0).toNat 0 0 ⟨by decide, by decide⟩
  unfold sp_nightOf; omega
def sp_lawN (el : Int → Int) (d la br : Int) : Nat → Int → Int → Int
  | 0, _, z => z
  | n + 1, t, z => sp_lawN el d la br n (t + 2) (if el (100 * d + t) = la ∧ el (100 * d + t + 1) = br then z else 0)
theorem mp_lawN_bd (el : Int → Int) (d la br : Int) : ∀ (n : Nat) (t z : Int), z = 0 ∨ z = 1 → sp_lawN el d la br n t z = 0 ∨ sp_lawN el d la br n t z = 1 := by
  intro n
  induction n with
  | zero => intro t z h; exact h
  | succ n ih =>
    intro t z h
    unfold sp_lawN
    apply ih
    split
    · exact h
    · exact Or.inl rfl
def sp_law (sz el : Int → Int) (d f k : Int) : Int := sp_lawN el d (sp_lasts k f) (sp_bright k f) (sz d / 2).toNat 0 1
def sp_lawStep (sz el : Int → Int) (d f k u : Int) : Int := if sp_law sz el d f k = 0 then u else mp_or u (mp_bit k)
def sp_lawsSet (sz el : Int → Int) (d f : Int) : Int := mp_fold (sp_lawStep sz el d f) 8 0 0
def sp_lawsBad (kp so sz : Int → Int) (d : Int) : Int := if sp_wrongRow kp so d (-1) ≠ 0 then sp_wrongRow kp so d (-1) else if sz d % 2 = 1 then -13 else 0
def sp_laws (kp so sz el : Int → Int) (d f w : Int) : Int := if ¬ (0 ≤ f ∧ f ≤ 9) ∨ ¬ (0 ≤ w ∧ w ≤ 1) then -1 else if sp_lawsBad kp so sz d ≠ 0 then sp_lawsBad kp so sz d else if w = 0 then sp_lawsSet sz el d f else sp_bits (sp_lawsSet sz el d f)
theorem mp_lawStep_bd {sz el : Int → Int} {d f k u : Int} (hk : k < 8) (h : 0 ≤ u ∧ u < 256) : 0 ≤ sp_lawStep sz el d f k u ∧ sp_lawStep sz el d f k u < 256 := by
  unfold sp_lawStep
  split
  · exact h
  · exact ⟨mp_or_nn _ _, mp_or_256 h.2 (mp_bit_256 hk)⟩
theorem mp_lawsSet_bd (sz el : Int → Int) (d f : Int) : 0 ≤ sp_lawsSet sz el d f ∧ sp_lawsSet sz el d f < 256 :=
  mp_fold_inv_lt (f := sp_lawStep sz el d f) (fun _ a => 0 ≤ a ∧ a < 256) 8 (fun i a hi h => mp_lawStep_bd hi h) 8 0 0 (by decide) ⟨by decide, by decide⟩
