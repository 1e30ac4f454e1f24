/-! ===== the sky in numbers: s 0 METEORS; of METEOR k: s (1 + 6 k + w); of LOOKER l: s (49 + 3 l + w) ===== -/
def sp_lasts (kind f : Int) : Int := if kind = 1 then 2 * (3 + f / 3) else if kind = 3 then 3 + f / 3 - 1 else if kind = 4 then 2 * (3 + f / 3) + 2 else if kind = 6 then 3 + f / 3 + f / 2 else if kind = 7 then 1 else 3 + f / 3
def sp_bright (kind f : Int) : Int := if kind = 1 ∨ kind = 4 then 1 else if kind = 2 then -1 else if kind = 3 then 2 + f / 2 else if kind = 5 then 0 else if kind = 7 then 2 * (2 + f / 2) else 2
def sp_period (kind f : Int) : Int := if kind = 1 ∨ kind = 4 then 5 + f else if kind = 2 ∨ kind = 5 then 6 + 2 * f else if kind = 6 then (if 7 ≤ f then 7 else 3 + f) else if kind = 7 then 1 else 3 + f
def sp_heat (kind f : Int) : Int := if kind = 3 then 2 * f else if kind = 4 then (if f - 3 < 0 then 0 else f - 3) else if kind = 5 then 0 else f
def sp_cost (kind f : Int) : Int := if kind = 1 then 4 + f else if kind = 2 then 1 else if kind = 3 then 8 else if kind = 4 then 7 + f else if kind = 5 then 1 + f else if kind = 6 then 6 else 4
/-- METEOR k is as one must be -/
abbrev mp_met (s : Int → Int) (k : Int) : Prop := (0 ≤ s (1 + 6 * k + 0) ∧ s (1 + 6 * k + 0) ≤ 7) ∧ (0 ≤ s (1 + 6 * k + 1) ∧ s (1 + 6 * k + 1) ≤ 9) ∧ (0 ≤ s (1 + 6 * k + 2) ∧ s (1 + 6 * k + 2) ≤ 15) ∧ (0 ≤ s (1 + 6 * k + 3) ∧ s (1 + 6 * k + 3) ≤ 4) ∧ (0 ≤ s (1 + 6 * k + 4) ∧ s (1 + 6 * k + 4) ≤ 30) ∧ ((0 ≤ s (1 + 6 * k + 5) ∧ s (1 + 6 * k + 5) ≤ 4) ∨ s (1 + 6 * k + 5) = 9)
/-- LOOKER l is as one must be -/
abbrev mp_lkr (s : Int → Int) (l : Int) : Prop := (0 ≤ s (49 + 3 * l + 0) ∧ s (49 + 3 * l + 0) ≤ 15) ∧ (0 ≤ s (49 + 3 * l + 1) ∧ s (49 + 3 * l + 1) ≤ 9) ∧ ((0 ≤ s (49 + 3 * l + 2) ∧ s (49 + 3 * l + 2) < s 0) ∨ s (49 + 3 * l + 2) = 9)
/-- a sky as one must be -/
def mp_sky (s : Int → Int) : Prop := (0 ≤ s 0 ∧ s 0 ≤ 8) ∧ (∀ k, 0 ≤ k → k < s 0 → mp_met s k) ∧ (∀ l, 0 ≤ l → l ≤ 4 → mp_lkr s l) ∧ ∀ l l', 0 ≤ l → l ≤ 4 → 0 ≤ l' → l' ≤ 4 → s (49 + 3 * l + 2) = s (49 + 3 * l' + 2) → s (49 + 3 * l + 2) = 9 ∨ l = l'
theorem mp_lasts_bd {kind f : Int} (h : 0 ≤ f ∧ f ≤ 9) : 1 ≤ sp_lasts kind f ∧ sp_lasts kind f ≤ 14 := by unfold sp_lasts; omega
theorem mp_bright_bd {kind f : Int} (h : 0 ≤ f ∧ f ≤ 9) : -1 ≤ sp_bright kind f ∧ sp_bright kind f ≤ 12 := by unfold sp_bright; omega
theorem mp_period_bd {kind f : Int} (h : 0 ≤ f ∧ f ≤ 9) : 1 ≤ sp_period kind f ∧ sp_period kind f ≤ 24 := by unfold sp_period; omega
theorem mp_heat_bd {kind f : Int} (h : 0 ≤ f ∧ f ≤ 9) : 0 ≤ sp_heat kind f ∧ sp_heat kind f ≤ 18 := by unfold sp_heat; omega
theorem mp_mul_bd {a b : Int} (ha : 0 ≤ a ∧ a ≤ 100) (hb : -2 ≤ b ∧ b ≤ 2) : -200 ≤ a * b ∧ a * b ≤ 200 := by
  have h1 := Int.mul_le_mul_of_nonneg_left hb.2 ha.1
  have h2 := Int.mul_le_mul_of_nonneg_left hb.1 ha.1
  omega
def sp_over (col slope step : Int) : Int := if 15 < col + step * (slope - 2) then 15 else if col + step * (slope - 2) < 0 then 0 else col + step * (slope - 2)
theorem mp_over_bd {col slope step : Int} : 0 ≤ sp_over col slope step ∧ sp_over col slope step ≤ 15 := by unfold sp_over; omega
def sp_seenStep (col slope bright roof : Int) (step set : Int) : Int := if (if sp_over col slope step - roof < 0 then -(sp_over col slope step - roof) else sp_over col slope step - roof) ≤ bright then mp_or set (mp_bit step) else set
/-- STEPS in which it is seen from a ROOF -/
def sp_seen (kind f col slope roof : Int) : Int := mp_fold (sp_seenStep col slope (sp_bright kind f) roof) (sp_lasts kind f).toNat 0 0
theorem mp_seenStep_nn {col slope bright roof t u : Int} (h : 0 ≤ u) : 0 ≤ sp_seenStep col slope bright roof t u := by
  unfold sp_seenStep
  generalize (if sp_over col slope t - roof < 0 then -(sp_over col slope t - roof) else sp_over col slope t - roof) = z
  split
  · exact mp_or_nn _ _
  · exact h
theorem mp_seenStep_lt {col slope bright roof t u : Int} (h : u < 65536) (ht : t < 16) : sp_seenStep col slope bright roof t u < 65536 := by
  unfold sp_seenStep
  generalize (if sp_over col slope t - roof < 0 then -(sp_over col slope t - roof) else sp_over col slope t - roof) = z
  split
  · exact mp_or_lt (n := 16) h (mp_bit_lt (n := 16) ht (by decide))
  · exact h
/-- an invariant goes through a loop -/
theorem mp_fold_inv {α : Type} {f : Int → α → α} (P : Int → α → Prop) (hf : ∀ i a, P i a → P (i + 1) (f i a)) : ∀ (n : Nat) (i : Int) (a : α), P i a → P (i + n) (mp_fold f n i a) := by
  intro n
  induction n with
  | zero => intro i a h; rw [show i + ((0 : Nat) : Int) = i by omega]; exact h
  | succ n ih =>
    intro i a h
    have := ih (i + 1) (f i a) (hf i a h)
    rw [show i + ((n + 1 : Nat) : Int) = i + 1 + (n : Int) by omega]
    exact this
/-- the same with the counter's bound in hand -/
theorem mp_fold_inv_lt {α : Type} {f : Int → α → α} (P : Int → α → Prop) (m : Int) (hf : ∀ i a, i < m → P i a → P (i + 1) (f i a)) : ∀ (n : Nat) (i : Int) (a : α), i + (n : Int) ≤ m → P i a → P (i + n) (mp_fold f n i a) := by
  intro n
  induction n with
  | zero => intro i a _ h; rw [show i + ((0 : Nat) : Int) = i by omega]; exact h
  | succ n ih =>
    intro i a hm h
    have := ih (i + 1) (f i a) (by omega) (hf i a (by omega) h)
    rw [show i + ((n + 1 : Nat) : Int) = i + 1 + (n : Int) by omega]
    exact this
theorem mp_seen_bd {kind f col slope roof : Int} (h : 0 ≤ f ∧ f ≤ 9) : 0 ≤ sp_seen kind f col slope roof ∧ sp_seen kind f col slope roof < 65536 := by
  have hb := mp_lasts_bd (kind := kind) h
  exact mp_fold_inv_lt (fun _ a => 0 ≤ a ∧ a < 65536) 14 (fun i a hi h => ⟨mp_seenStep_nn h.1, mp_seenStep_lt h.2 (by omega)⟩) _ 0 0 (by omega) ⟨by decide, by decide⟩
/-- the bit at a place, 0 or 1 -/
def sp_b (set k : Int) : Int := mp_and (mp_shr set k) 1
theorem mp_b_bd (set k : Int) : 0 ≤ sp_b set k ∧ sp_b set k ≤ 1 := by
  unfold sp_b mp_and
  have : (mp_shr set k).toNat &&& (1 : Int).toNat ≤ 1 := Nat.and_le_right
  omega
theorem mp_z_sh' : ∀ k : Fin 32, (Int32.ofInt (k.val : Int) &&& 31).toBitVec.smod 32 = BitVec.ofNat 32 k.val := by decide +kernel
theorem mp_z_shr {a k : Int} (ha : 0 ≤ a ∧ a < 2147483648) (hk : 0 ≤ k ∧ k < 32) : Int32.ofInt a >>> (Int32.ofInt k &&& 31) = Int32.ofInt (mp_shr a k) := by
  obtain ⟨x, rfl⟩ := Int.eq_ofNat_of_zero_le ha.1
  obtain ⟨y, rfl⟩ := Int.eq_ofNat_of_zero_le hk.1
  have hy : y < 32 := by omega
  have hx : x < 2147483648 := by omega
  have hle : x >>> y ≤ x := Nat.shiftRight_le x y
  apply Int32.toInt_inj.mp
  generalize hw : x >>> y = w at hle
  have h9 : mp_rg (w : Int) := ⟨by omega, by omega⟩
  have e : mp_shr (x : Int) (y : Int) = (w : Int) := by unfold mp_shr; rw [Int.toNat_natCast, Int.toNat_natCast, hw]
  rw [e, mp_toInt h9]
  show (Int32.ofInt (x : Int) >>> (Int32.ofInt (y : Int) &&& 31)).toBitVec.toInt = _
  rw [Int32.toBitVec_shiftRight, mp_z_sh' ⟨y, hy⟩]
  show ((Int32.ofInt (x : Int)).toBitVec.sshiftRight (BitVec.ofNat 32 y).toNat).toInt = _
  rw [BitVec.toInt_sshiftRight]
  have h1 : (Int32.ofInt (x : Int)).toBitVec.toInt = (x : Int) := mp_toInt (a := (x : Int)) ⟨by omega, by omega⟩
  have h2 : (BitVec.ofNat 32 y).toNat = y := by rw [BitVec.toNat_ofNat]; omega
  rw [h1, h2, ← hw]
  rfl
theorem mp_shr_nn (a k : Int) : 0 ≤ mp_shr a k := Int.natCast_nonneg _
theorem mp_and_nn (a b : Int) : 0 ≤ mp_and a b := Int.natCast_nonneg _
theorem mp_z_b (a k : Int) : Int32.ofInt (mp_shr a k) &&& Int32.ofInt 1 = Int32.ofInt (sp_b a k) := mp_z_and (mp_shr_nn a k) (by decide)
/-- NEED of a LOOKER -/
def sp_need (quick : Int) : Int := 4 - quick / 3
def sp_bits (set : Int) : Int := mp_fold (fun k n => n + sp_b set k) 16 0 0
theorem mp_bits_bd (set : Int) : 0 ≤ sp_bits set ∧ sp_bits set ≤ 16 := by
  have := mp_fold_inv (f := fun k n => n + sp_b set k) (fun i n => 0 ≤ n ∧ n ≤ i) (fun i a h => by have := mp_b_bd set i; omega) 16 0 0 ⟨by decide, by decide⟩
  exact this
def sp_yesBy (set need : Int) : Nat → Int → Int → Int
  | 0, _, _ => -4
  | n + 1, t, c => if c + sp_b set t = need then t else sp_yesBy set need n (t + 1) (c + sp_b set t)
def sp_yes (set need : Int) : Int := sp_yesBy set need 16 0 0
theorem mp_yesBy_bd (set need : Int) : ∀ (n : Nat) (t c : Int), 0 ≤ t → sp_yesBy set need n t c = -4 ∨ (t ≤ sp_yesBy set need n t c ∧ sp_yesBy set need n t c < t + n) := by
  intro n
  induction n with
  | zero => intro t c _; exact Or.inl rfl
  | succ n ih =>
    intro t c h
    unfold sp_yesBy
    split
    · exact Or.inr ⟨by omega, by omega⟩
    · rcases ih (t + 1) (c + sp_b set t) (by omega) with h | h
      · exact Or.inl h
      · exact Or.inr ⟨by omega, by omega⟩
theorem mp_yes_bd (set need : Int) : sp_yes set need = -4 ∨ (0 ≤ sp_yes set need ∧ sp_yes set need ≤ 15) := by
  rcases mp_yesBy_bd set need 16 0 0 (by decide) with h | h
  · exact Or.inl h
  · exact Or.inr ⟨h.1, by have := h.2; unfold sp_yes; omega⟩
def sp_yesOf (s : Int → Int) (l k : Int) : Int := sp_yes (sp_seen (s (1 + 6 * k + 0)) (s (1 + 6 * k + 1)) (s (1 + 6 * k + 2)) (s (1 + 6 * k + 3)) (s (49 + 3 * l + 0))) (sp_need (s (49 + 3 * l + 1)))
theorem mp_yesOf_bd (s : Int → Int) (l k : Int) : -4 ≤ sp_yesOf s l k ∧ sp_yesOf s l k ≤ 15 := by
  rcases mp_yes_bd (sp_seen (s (1 + 6 * k + 0)) (s (1 + 6 * k + 1)) (s (1 + 6 * k + 2)) (s (1 + 6 * k + 3)) (s (49 + 3 * l + 0))) (sp_need (s (49 + 3 * l + 1))) with h | h <;> (unfold sp_yesOf; omega)
def sp_isSaid (s : Int → Int) (k : Int) : Nat → Int → Int
  | 0, _ => 0
  | n + 1, l => if s (49 + 3 * l + 2) = k then 1 else sp_isSaid s k n (l + 1)
theorem mp_isSaid_bd (s : Int → Int) (k : Int) : ∀ (n : Nat) (l : Int), sp_isSaid s k n l = 0 ∨ sp_isSaid s k n l = 1 := by
  intro n
  induction n with
  | zero => intro l; exact Or.inl rfl
  | succ n ih =>
    intro l
    unfold sp_isSaid
    split
    · exact Or.inr rfl
    · exact ih _
theorem mp_nz01 {v : Int} (h : v = 0 ∨ v = 1) : narrow .boolean (mp_i v) = mp_i v := by
  rcases h with rfl | rfl <;> rfl
def sp_takeStep (s : Int → Int) (k g : Int) (l found : Int) : Int := if sp_yesOf s l k < 0 ∨ (g ≠ 0 ∧ s (49 + 3 * l + 2) ≠ 9) then found else if found < 0 ∨ sp_yesOf s l k < sp_yesOf s found k then l else found
def sp_taker (s : Int → Int) (k g : Int) : Int := mp_fold (sp_takeStep s k g) 5 0 (-4)
theorem mp_takeStep_bd {s : Int → Int} {k g l found : Int} (hl : 0 ≤ l ∧ l ≤ 4) (h : found = -4 ∨ (0 ≤ found ∧ found ≤ 4)) : sp_takeStep s k g l found = -4 ∨ (0 ≤ sp_takeStep s k g l found ∧ sp_takeStep s k g l found ≤ 4) := by
  unfold sp_takeStep; omega
theorem mp_taker_bd (s : Int → Int) (k g : Int) : sp_taker s k g = -4 ∨ (0 ≤ sp_taker s k g ∧ sp_taker s k g ≤ 4) := by
  have := mp_fold_inv_lt (f := sp_takeStep s k g) (fun i a => 0 ≤ i ∧ (a = -4 ∨ (0 ≤ a ∧ a ≤ 4))) 5 (fun i a hi h => ⟨by omega, mp_takeStep_bd ⟨h.1, by omega⟩ h.2⟩) 5 0 (-4) (by decide) ⟨by decide, Or.inl rfl⟩
  exact this.2
