/-! ===== the text read ===== -/
theorem mp_z_low8 (a : Int) : Int32.ofInt a &&& Int32.ofInt 255 = Int32.ofInt (a % 256) := by
  apply Int32.toBitVec_inj.mp
  rw [Int32.toBitVec_and]
  apply BitVec.eq_of_toNat_eq
  rw [BitVec.toNat_and]
  have e : ∀ x : Int, (Int32.ofInt x).toBitVec.toNat = (x % 4294967296).toNat := fun x => by
    show (BitVec.ofInt 32 x).toNat = _
    rw [BitVec.toNat_ofInt]; rfl
  rw [e, e, e, show ((255 : Int) % 4294967296).toNat = 2 ^ 8 - 1 from rfl, Nat.and_two_pow_sub_one_eq_mod]
  omega
def sp_here (el : Int → Int) (ra re p : Int) : Int := if p < re then el (ra + p) % 256 else -1
theorem mp_here_bd (el : Int → Int) (ra re p : Int) : -1 ≤ sp_here el ra re p ∧ sp_here el ra re p ≤ 255 := by unfold sp_here; omega
/-- a number of so many digits: whether it is there, the place behind it (or of the first byte that is none), its value so far -/
def sp_rdN (h : Int → Int) : Nat → Int → Int → Int × Int × Int
  | 0, p, v => (1, p, v)
  | n + 1, p, v => if ¬ (48 ≤ h p ∧ h p ≤ 57) then (0, p, v) else sp_rdN h n (p + 1) (10 * v + h p - 48)
theorem mp_rdN_ok (h : Int → Int) : ∀ (n : Nat) (p v : Int), (sp_rdN h n p v).1 = 0 ∨ (sp_rdN h n p v).1 = 1 := by
  intro n
  induction n with
  | zero => intro p v; exact Or.inr rfl
  | succ n ih =>
    intro p v
    unfold sp_rdN
    split
    · exact Or.inl rfl
    · exact ih _ _
theorem mp_rdN_pl (h : Int → Int) : ∀ (n : Nat) (p v : Int), p ≤ (sp_rdN h n p v).2.1 ∧ (sp_rdN h n p v).2.1 ≤ p + n := by
  intro n
  induction n with
  | zero => intro p v; exact ⟨Int.le_refl p, by show p ≤ p + ((0 : Nat) : Int); omega⟩
  | succ n ih =>
    intro p v
    unfold sp_rdN
    split
    · exact ⟨Int.le_refl p, by show p ≤ p + ((n + 1 : Nat) : Int); omega⟩
    · have := ih (p + 1) (10 * v + h p - 48)
      omega
