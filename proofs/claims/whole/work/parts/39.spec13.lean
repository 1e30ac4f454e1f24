/-! ===== clouds: all ways of clear and not clear ===== -/
def mp_sum (g : Nat → Int) : Nat → Int
  | 0 => 0
  | n + 1 => mp_sum g n + g n
theorem mp_sum_shift (g : Nat → Int) : ∀ n, mp_sum g (n + 1) = g 0 + mp_sum (fun j => g (j + 1)) n := by
  intro n
  induction n with
  | zero => show (0 : Int) + g 0 = g 0 + 0; omega
  | succ n ih =>
    show mp_sum g (n + 1) + g (n + 1) = g 0 + (mp_sum (fun j => g (j + 1)) n + g (n + 1))
    rw [ih]; omega
theorem mp_sum_congr {g g' : Nat → Int} : ∀ n, (∀ j, j < n → g j = g' j) → mp_sum g n = mp_sum g' n := by
  intro n
  induction n with
  | zero => intro _; rfl
  | succ n ih =>
    intro h
    show mp_sum g n + g n = mp_sum g' n + g' n
    rw [ih (fun j hj => h j (by omega)), h n (by omega)]
theorem mp_sum_add (g : Nat → Int) (a : Nat) : ∀ b, mp_sum g (a + b) = mp_sum g a + mp_sum (fun j => g (a + j)) b := by
  intro b
  induction b with
  | zero => show mp_sum g a = mp_sum g a + 0; omega
  | succ b ih =>
    show mp_sum g (a + b) + g (a + b) = mp_sum g a + (mp_sum (fun j => g (a + j)) b + g (a + b))
    rw [ih]; omega
theorem mp_sum_le {g g' : Nat → Int} : ∀ n, (∀ j, j < n → g j ≤ g' j) → mp_sum g n ≤ mp_sum g' n := by
  intro n
  induction n with
  | zero => intro _; exact Int.le_refl 0
  | succ n ih =>
    intro h
    have h1 := ih (fun j hj => h j (by omega))
    have h2 := h n (by omega)
    show mp_sum g n + g n ≤ mp_sum g' n + g' n
    omega
theorem mp_sum_mul (c : Int) (g : Nat → Int) : ∀ n, mp_sum (fun j => c * g j) n = c * mp_sum g n := by
  intro n
  induction n with
  | zero => show (0 : Int) = c * 0; omega
  | succ n ih =>
    show mp_sum (fun j => c * g j) n + c * g n = c * (mp_sum g n + g n)
    rw [ih, Int.mul_add]
theorem mp_fold_sum (g : Int → Int) : ∀ (n : Nat) (i a : Int), mp_fold (fun k v => v + g k) n i a = a + mp_sum (fun j => g (i + (j : Int))) n := by
  intro n
  induction n with
  | zero => intro i a; show a = a + 0; omega
  | succ n ih =>
    intro i a
    show mp_fold (fun k v => v + g k) n (i + 1) (a + g i) = _
    rw [ih, mp_sum_shift]
    rw [mp_sum_congr (g := fun j => g (i + 1 + (j : Int))) (g' := fun j => g (i + ((j + 1 : Nat) : Int))) n (fun j _ => congrArg g (by omega))]
    show a + g i + _ = a + (g (i + ((0 : Nat) : Int)) + _)
    rw [show i + ((0 : Nat) : Int) = i by omega]
    omega
/-- how many of the first so many bits are set -/
def mp_pc (c : Nat) (m : Nat) : Int := mp_sum (fun k => if c.testBit k then 1 else 0) m
theorem mp_bits_pc (c : Nat) : sp_bits (c : Int) = mp_pc c 16 := by
  unfold sp_bits
  rw [mp_fold_sum (fun k => sp_b (c : Int) k) 16 0 0, Int.zero_add]
  unfold mp_pc
  refine mp_sum_congr 16 (fun j _ => ?_)
  show sp_b (c : Int) (0 + (j : Int)) = _
  rw [mp_b_test, Int.toNat_natCast, show (0 + (j : Int)).toNat = j by omega]
theorem mp_pc_hi {c n : Nat} (h : c < 2 ^ n) : ∀ d, mp_pc c (n + d) = mp_pc c n := by
  intro d
  unfold mp_pc
  rw [mp_sum_add]
  rw [mp_sum_congr (g' := fun _ => 0) d (fun j _ => by
    show (if c.testBit (n + j) then (1 : Int) else 0) = 0
    rw [Nat.testBit_lt_two_pow (Nat.lt_of_lt_of_le h (Nat.pow_le_pow_right (by decide) (by omega)))]; rfl)]
  have : ∀ d, mp_sum (fun _ => 0) d = 0 := fun d => by induction d with
    | zero => rfl
    | succ d ih => show mp_sum (fun _ => 0) d + 0 = 0; rw [ih]; rfl
  rw [this]; omega
theorem mp_pc_bd (c : Nat) : ∀ m, 0 ≤ mp_pc c m ∧ mp_pc c m ≤ m := by
  intro m
  induction m with
  | zero => exact ⟨Int.le_refl 0, Int.le_refl 0⟩
  | succ m ih =>
    unfold mp_pc at ih ⊢
    have h1 : (if c.testBit m then (1 : Int) else 0) = 0 ∨ (if c.testBit m then (1 : Int) else 0) = 1 := by split; exact Or.inr rfl; exact Or.inl rfl
    show 0 ≤ mp_sum _ m + (if c.testBit m then (1 : Int) else 0) ∧ mp_sum _ m + (if c.testBit m then (1 : Int) else 0) ≤ _
    omega
/-- one bit more on top -/
theorem mp_pc_top {c n : Nat} (h : c < 2 ^ n) : mp_pc (2 ^ n + c) (n + 1) = mp_pc c n + 1 := by
  unfold mp_pc
  show mp_sum _ n + (if (2 ^ n + c).testBit n then (1 : Int) else 0) = _
  rw [Nat.testBit_two_pow_add_eq, Nat.testBit_lt_two_pow h]
  rw [mp_sum_congr (g' := fun k => if c.testBit k then 1 else 0) n (fun j hj => by
    show (if (2 ^ n + c).testBit j then (1 : Int) else 0) = _
    rw [Nat.testBit_two_pow_add_gt hj])]
  rfl
/-- a sum over all ways of n bits -/
def mp_ways (g : Int → Int) (n : Nat) : Int := mp_sum (fun c => g (mp_pc c n)) (2 ^ n)
theorem mp_ways_0 (g : Int → Int) : mp_ways g 0 = g 0 := by
  unfold mp_ways
  show (0 : Int) + g (mp_pc 0 0) = g 0
  rw [Int.zero_add]; rfl
theorem mp_ways_s (g : Int → Int) (n : Nat) : mp_ways g (n + 1) = mp_ways g n + mp_ways (fun k => g (k + 1)) n := by
  unfold mp_ways
  rw [Nat.pow_succ, Nat.mul_two, mp_sum_add]
  congr 1
  · exact mp_sum_congr _ (fun c hc => by show g (mp_pc c (n + 1)) = _; rw [mp_pc_hi hc 1])
  · exact mp_sum_congr _ (fun c hc => by show g (mp_pc (2 ^ n + c) (n + 1)) = g (mp_pc c n + 1); rw [mp_pc_top hc])
theorem mp_ways_le {g g' : Int → Int} (n : Nat) (h : ∀ k, 0 ≤ k → g k ≤ g' k) : mp_ways g n ≤ mp_ways g' n := mp_sum_le _ (fun j _ => h _ (mp_pc_bd j n).1)
theorem mp_ways_mul (c : Int) (g : Int → Int) (n : Nat) : mp_ways (fun k => c * g k) n = c * mp_ways g n := mp_sum_mul c _ _
theorem mp_ways_congr {g g' : Int → Int} (n : Nat) (h : ∀ k, 0 ≤ k → g k = g' k) : mp_ways g n = mp_ways g' n := mp_sum_congr _ (fun j _ => h _ (mp_pc_bd j n).1)
theorem mp_ways_pow (t : Int) : ∀ n, mp_ways (fun k => (t - 1) ^ k.toNat) n = t ^ n := by
  intro n
  induction n with
  | zero => rw [mp_ways_0]; show (t - 1) ^ 0 = t ^ 0; rw [Int.pow_zero, Int.pow_zero]
  | succ n ih =>
    rw [mp_ways_s, mp_ways_congr (g := fun k => (t - 1) ^ (k + 1).toNat) (g' := fun k => (t - 1) * (t - 1) ^ k.toNat) n (fun k hk => by
      show (t - 1) ^ (k + 1).toNat = _
      rw [show (k + 1).toNat = k.toNat + 1 by omega, Int.pow_succ, Int.mul_comm]), mp_ways_mul, ih, Int.pow_succ]
    rw [Int.sub_mul, Int.one_mul, Int.mul_comm]
    omega
def sp_cloudG (need t : Int) (k : Int) : Int := if k < need then 0 else (t - 1) ^ k.toNat
def sp_clouds (s : Int → Int) (l k t w : Int) : Int := if (0 ≤ l ∧ l ≤ 4) ∧ (0 ≤ k ∧ k ≤ s 0 - 1) ∧ (2 ≤ t ∧ t ≤ 20) ∧ (0 ≤ w ∧ w ≤ 1) then sp_part (mp_ways (sp_cloudG (sp_need (s (49 + 3 * l + 1))) t) (sp_bits (sp_seen (s (1 + 6 * k + 0)) (s (1 + 6 * k + 1)) (s (1 + 6 * k + 2)) (s (1 + 6 * k + 3)) (s (49 + 3 * l + 0)))).toNat) (t ^ (sp_bits (sp_seen (s (1 + 6 * k + 0)) (s (1 + 6 * k + 1)) (s (1 + 6 * k + 2)) (s (1 + 6 * k + 3)) (s (49 + 3 * l + 0)))).toNat) w else 1000000001
theorem mp_cloudG_bd {need t k : Int} (ht : 2 ≤ t) : 0 ≤ sp_cloudG need t k ∧ sp_cloudG need t k ≤ (t - 1) ^ k.toNat := by
  have h1 : (0 : Int) ≤ (t - 1) ^ k.toNat := Int.le_of_lt (Int.pow_pos (by omega))
  unfold sp_cloudG
  split <;> omega
theorem mp_pow20 {t : Int} (ht : 2 ≤ t ∧ t ≤ 20) {n : Nat} (hn : n ≤ 14) : 0 < t ^ n ∧ t ^ n < 9223372036854775808 := by
  refine ⟨Int.pow_pos (by omega), ?_⟩
  obtain ⟨u, rfl⟩ := Int.eq_ofNat_of_zero_le (show 0 ≤ t by omega)
  have h1 : u ^ n ≤ 20 ^ n := Nat.pow_le_pow_left (by omega) n
  have h2 : 20 ^ n ≤ 20 ^ 14 := Nat.pow_le_pow_right (by decide) hn
  have h3 : (20 : Nat) ^ 14 < 9223372036854775808 := by decide
  have : ((u : Int)) ^ n = ((u ^ n : Nat) : Int) := by rw [Int.natCast_pow]
  rw [this]
  omega
theorem mp_ways_bd {need t : Int} (ht : 2 ≤ t ∧ t ≤ 20) {n : Nat} (hn : n ≤ 14) : 0 ≤ mp_ways (sp_cloudG need t) n ∧ mp_ways (sp_cloudG need t) n < 9223372036854775808 := by
  have h1 := mp_ways_le (g := sp_cloudG need t) (g' := fun k => (t - 1) ^ k.toNat) n (fun k _ => (mp_cloudG_bd (by omega)).2)
  rw [mp_ways_pow] at h1
  have h2 := mp_pow20 ht hn
  have h3 := mp_ways_le (g := fun k => 0 * k) (g' := sp_cloudG need t) n (fun k _ => by rw [Int.zero_mul]; exact (mp_cloudG_bd (by omega)).1)
  rw [mp_ways_mul (0 : Int) (fun k => k) n, Int.zero_mul] at h3
  omega
theorem mp_seen_14 {kind f col slope roof : Int} (h : 0 ≤ f ∧ f ≤ 9) : 0 ≤ sp_seen kind f col slope roof ∧ sp_seen kind f col slope roof < 16384 := by
  have hb := mp_lasts_bd (kind := kind) h
  refine mp_fold_inv_lt (fun _ a => 0 ≤ a ∧ a < 16384) 14 (fun i a hi h => ⟨mp_seenStep_nn h.1, ?_⟩) _ 0 0 (by omega) ⟨by decide, by decide⟩
  unfold sp_seenStep
  generalize (if sp_over col slope i - roof < 0 then -(sp_over col slope i - roof) else sp_over col slope i - roof) = z
  split
  · exact mp_or_lt (n := 14) h.2 (mp_bit_lt (n := 14) hi (by decide))
  · exact h.2
theorem mp_bits_14 {a : Int} (h : 0 ≤ a ∧ a < 16384) : 0 ≤ sp_bits a ∧ sp_bits a ≤ 14 := by
  obtain ⟨c, rfl⟩ := Int.eq_ofNat_of_zero_le h.1
  rw [mp_bits_pc, show (16 : Nat) = 14 + 2 from rfl, mp_pc_hi (n := 14) (by omega) 2]
  exact mp_pc_bd c 14
theorem mp_ways_fold (g : Int → Int) {n : Nat} (hn : n ≤ 16) : mp_fold (fun c a => a + g (sp_bits c)) (2 ^ n) 0 0 = mp_ways g n := by
  rw [mp_fold_sum (fun c => g (sp_bits c)) (2 ^ n) 0 0, Int.zero_add]
  unfold mp_ways
  refine mp_sum_congr _ (fun c hc => ?_)
  show g (sp_bits (0 + (c : Int))) = _
  rw [Int.zero_add, mp_bits_pc, show (16 : Nat) = n + (16 - n) by omega, mp_pc_hi hc]
