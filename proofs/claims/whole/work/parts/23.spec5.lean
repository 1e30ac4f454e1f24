/-! ===== rows told: curves, dark ones, laws, logs ===== -/
theorem mp_z_and0 (a : Int) : Int32.ofInt a &&& Int32.ofInt 0 = Int32.ofInt 0 := by rw [mp_zero]; exact Int32.and_zero
theorem mp_z_and1 {a : Int} (h : a = 0 ∨ a = 1) : Int32.ofInt a &&& Int32.ofInt 1 = Int32.ofInt a := by rcases h with rfl | rfl <;> decide
theorem mp_cpy_up {el q : Int → Int} {p r t : Int} (ht : 0 ≤ t) (h : ∀ x, q x = if r ≤ x ∧ x < r + t then el (p + (x - r)) else el x) (hr : ¬ (r ≤ p + t ∧ p + t < r + t)) : ∀ x, mp_ud q (r + t) (q (p + t)) x = if r ≤ x ∧ x < r + (t + 1) then el (p + (x - r)) else el x := by
  intro x
  by_cases e : x = r + t
  · subst e
    rw [mp_ud_eq, h, if_neg hr, if_pos ⟨by omega, by omega⟩]
    congr 1; omega
  · rw [mp_ud_ne e, h]
    by_cases c : r ≤ x ∧ x < r + t
    · rw [if_pos c, if_pos ⟨by omega, by omega⟩]
    · rw [if_neg c, if_neg (by omega)]
theorem mp_cpy_dn {el q : Int → Int} {p r n t w : Int} (ht : 0 ≤ t ∧ t < n) (hw : w = n - 1 - t) (h : ∀ x, q x = if r + (n - t) ≤ x ∧ x < r + n then el (p + (x - r)) else el x) (hr : ¬ (r + (n - t) ≤ p + w ∧ p + w < r + n)) : ∀ x, mp_ud q (r + w) (q (p + w)) x = if r + (n - (t + 1)) ≤ x ∧ x < r + n then el (p + (x - r)) else el x := by
  intro x
  by_cases e : x = r + w
  · subst e
    rw [mp_ud_eq, h, if_neg hr, if_pos ⟨by omega, by omega⟩]
    congr 1; omega
  · rw [mp_ud_ne e, h]
    by_cases c : r + (n - t) ≤ x ∧ x < r + n
    · rw [if_pos c, if_pos ⟨by omega, by omega⟩]
    · rw [if_neg c, if_neg (by omega)]
def sp_goStep (s so el : Int → Int) (d k t z : Int) : Int := if el (100 * d + t) = sp_leastOf (so d) ∨ el (100 * d + t) = sp_over (s (1 + 6 * k + 2)) (s (1 + 6 * k + 3)) t then z else 0
def sp_goes (s so sz el : Int → Int) (d k : Int) : Int := mp_fold (sp_goStep s so el d k) (sz d).toNat 0 (if sz d ≤ sp_lasts (s (1 + 6 * k + 0)) (s (1 + 6 * k + 1)) then 1 else 0)
def sp_goesStep (s so sz el : Int → Int) (d k u : Int) : Int := if sp_goes s so sz el d k = 0 then u else mp_or u (mp_bit k)
def sp_goesSo (s so sz el : Int → Int) (d : Int) : Int := mp_fold (sp_goesStep s so sz el d) (s 0).toNat 0 0
theorem mp_goStep_bd {s so el : Int → Int} {d k t z : Int} (h : z = 0 ∨ z = 1) : sp_goStep s so el d k t z = 0 ∨ sp_goStep s so el d k t z = 1 := by
  unfold sp_goStep
  split
  · exact h
  · exact Or.inl rfl
theorem mp_goes_bd (s so sz el : Int → Int) (d k : Int) : sp_goes s so sz el d k = 0 ∨ sp_goes s so sz el d k = 1 :=
  mp_fold_inv (f := sp_goStep s so el d k) (fun _ a => a = 0 ∨ a = 1) (fun _ _ h => mp_goStep_bd h) _ 0 _ (by split <;> simp)
theorem mp_goesStep_bd {s so sz el : Int → Int} {d k u : Int} (hk : k < 8) (h : 0 ≤ u ∧ u < 256) : 0 ≤ sp_goesStep s so sz el d k u ∧ sp_goesStep s so sz el d k u < 256 := by
  unfold sp_goesStep
  split
  · exact h
  · exact ⟨mp_or_nn _ _, mp_or_256 h.2 (mp_bit_256 hk)⟩
theorem mp_goesSo_bd {s so sz el : Int → Int} (hs : mp_sky s) (d : Int) : 0 ≤ sp_goesSo s so sz el d ∧ sp_goesSo s so sz el d < 256 := by
  have h0 := hs.1
  have := mp_fold_inv_lt (f := sp_goesStep s so sz el d) (fun _ a => 0 ≤ a ∧ a < 256) 8 (fun i a hi h => mp_goesStep_bd hi h) (s 0).toNat 0 0 (by omega) ⟨by decide, by decide⟩
  exact this
def sp_vote (s sz : Int → Int) (d set c k n : Int) : Int := n + (if sp_b set k = 1 ∧ sz d < sp_lasts (s (1 + 6 * k + 0)) (s (1 + 6 * k + 1)) ∧ sp_over (s (1 + 6 * k + 2)) (s (1 + 6 * k + 3)) (sz d) = c then 1 else 0)
def sp_votes (s sz : Int → Int) (d set c : Int) : Int := mp_fold (sp_vote s sz d set c) (s 0).toNat 0 0
def sp_nextStep (s sz : Int → Int) (d set c : Int) (p : Int × Int) : Int × Int := if sp_votes s sz d set c ≤ p.2 then p else (c, sp_votes s sz d set c)
def sp_next (s sz : Int → Int) (d set : Int) : Int := (mp_fold (sp_nextStep s sz d set) 16 0 (-4, 0)).1
theorem mp_votes_bd {s : Int → Int} (hs : mp_sky s) (sz : Int → Int) (d set c : Int) : 0 ≤ sp_votes s sz d set c ∧ sp_votes s sz d set c ≤ 8 := by
  have h0 := hs.1
  have := mp_fold_inv (f := sp_vote s sz d set c) (fun i n => 0 ≤ n ∧ n ≤ i) (fun i a h => by unfold sp_vote; constructor <;> (split <;> omega)) (s 0).toNat 0 0 ⟨by decide, by decide⟩
  unfold sp_votes; omega
def sp_curve (s kp so sz el : Int → Int) (d w : Int) : Int := if ¬ (0 ≤ w ∧ w ≤ 2) then -1 else if sp_wrongRow kp so d (-1) ≠ 0 then sp_wrongRow kp so d (-1) else if w = 0 then sp_goesSo s so sz el d else if w = 1 then sp_bits (sp_goesSo s so sz el d) else sp_next s sz d (sp_goesSo s so sz el d)
def sp_forgedN (s el : Int → Int) (d : Int) : Nat → Int → Int
  | 0, _ => -4
  | n + 1, t => if ¬ (0 ≤ t ∧ t ≤ s 0 - 1) then t else if el (100 * d + t) ≠ (if sp_taker s t 0 < 0 then 9 else sp_taker s t 0) then t else sp_forgedN s el d n (t + 1)
def sp_forged (s kp so sz el : Int → Int) (d : Int) : Int := if sp_wrongRow kp so d (-1) ≠ 0 then sp_wrongRow kp so d (-1) else sp_forgedN s el d (sz d).toNat 0
def sp_thereAll (s : Int → Int) (t : Int) : Int := mp_fold (fun k n => n + (if sp_thereP s k t then 1 else 0)) (s 0).toNat 0 0
def sp_judgeN (s so el : Int → Int) (d v : Int) : Nat → Int → Int
  | 0, _ => -4
  | n + 1, t => if el (100 * d + t) ≠ sp_leastOf (so d) ∧ el (100 * d + t) ≠ sp_thereAll s (v + t) then t else sp_judgeN s so el d v n (t + 1)
def sp_judge (s kp so sz el : Int → Int) (d v : Int) : Int := if ¬ (0 ≤ v ∧ v ≤ 365) then -1 else if sp_wrongRow kp so d (-1) ≠ 0 then sp_wrongRow kp so d (-1) else sp_judgeN s so el d v (sz d).toNat 0
theorem mp_thereAll_bd {s : Int → Int} (hs : mp_sky s) (t : Int) : 0 ≤ sp_thereAll s t ∧ sp_thereAll s t ≤ 8 := by
  have h0 := hs.1
  have := mp_fold_inv (f := fun k n => n + (if sp_thereP s k t then 1 else 0)) (fun i n => 0 ≤ n ∧ n ≤ i) (fun i a h => by constructor <;> (split <;> omega)) (s 0).toNat 0 0 ⟨by decide, by decide⟩
  unfold sp_thereAll; omega
