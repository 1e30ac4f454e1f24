/-! ===== fractions in least terms ===== -/
/-- the greatest number that divides both, by turns -/
def sp_gcdN : Nat → Int → Int → Int
  | 0, x, _ => x
  | n + 1, x, y => if y = 0 then x else sp_gcdN n y (x % y)
theorem mp_gcdN_eq : ∀ (n : Nat) (x y : Int), 0 ≤ x → 0 ≤ y → y < n → sp_gcdN n x y = (Int.gcd x y : Int) := by
  intro n
  induction n with
  | zero => intro x y _ h1 h2; omega
  | succ n ih =>
    intro x y hx hy hn
    unfold sp_gcdN
    by_cases c : y = 0
    · subst c
      rw [if_pos rfl, Int.gcd_zero_right]
      omega
    · rw [if_neg c]
      have h1 := Int.emod_nonneg x c
      have h2 := Int.emod_lt_of_pos x (by omega : 0 < y)
      rw [ih y (x % y) hy h1 (by omega)]
      obtain ⟨a, rfl⟩ := Int.eq_ofNat_of_zero_le hx
      obtain ⟨b, rfl⟩ := Int.eq_ofNat_of_zero_le hy
      rw [← Int.natCast_emod, Int.gcd_natCast_natCast, Int.gcd_natCast_natCast, Nat.gcd_comm a b, Nat.gcd_rec b a, Nat.gcd_comm]
def sp_part (a b w : Int) : Int := if a = 0 then w else (if w = 0 then a else b) / (Int.gcd a b : Int)
def sp_mean (s : Int → Int) (w : Int) : Int := if 0 ≤ w ∧ w ≤ 1 then sp_part (sp_heatAll s) (s 0) w else 1000000001
theorem mp_lcmpI {Y : mp_Y} {K : Nat × Nat} {pc nx : Nat} {L : List (Option Value)} {st : List Value} {σ : mp_H} {A : mp_An} {a b z : Int} (hd : mp_dc Y.1 pc .lcmp 1 nx) (ha : mp_rl a) (hb : mp_rl b) (hz : (if b < a then 1 else if a = b then 0 else -1) = z) (k : mp_At Y K nx L (mp_i z :: st) σ A) : mp_At Y K pc L (mp_l b :: mp_l a :: st) σ A := by
  refine mp_lcmp hd ?_
  have e : lg_cmp (Int64.ofInt a) (Int64.ofInt b) = Int32.ofInt z := by
    subst hz
    unfold lg_cmp
    have h1 : (Int64.ofInt a > Int64.ofInt b) ↔ b < a := by
      rw [gt_iff_lt, Int64.lt_iff_toInt_lt, mp_toLong ha, mp_toLong hb]
    have h2 := mp_eql ha hb
    by_cases c : b < a
    · rw [if_pos (h1.mpr c), if_pos c]; rfl
    · rw [if_neg (fun h => c (h1.mp h)), if_neg c]
      by_cases c2 : a = b
      · rw [if_pos (h2.mpr c2), if_pos c2]; rfl
      · rw [if_neg (fun h => c2 (h2.mp h)), if_neg c2]; rfl
  rw [e]
  exact k
theorem mp_gcd_step {x y : Int} (hx : 0 ≤ x) (hy : 0 ≤ y) (h : ¬ y = 0) : (Int.gcd x y : Int) = (Int.gcd y (x % y) : Int) := by
  obtain ⟨a, rfl⟩ := Int.eq_ofNat_of_zero_le hx
  obtain ⟨b, rfl⟩ := Int.eq_ofNat_of_zero_le hy
  rw [← Int.natCast_emod, Int.gcd_natCast_natCast, Int.gcd_natCast_natCast, Nat.gcd_comm a b, Nat.gcd_rec b a, Nat.gcd_comm]
theorem mp_gcd_0 {x : Int} (hx : 0 ≤ x) : (Int.gcd x 0 : Int) = x := by
  rw [Int.gcd_zero_right]; omega
theorem mp_gcd_bd {a b : Int} (h : 0 < a) : 0 < (Int.gcd a b : Int) ∧ (Int.gcd a b : Int) ≤ a := by
  have h1 : 0 < Int.gcd a b := Int.gcd_pos_of_ne_zero_left b (by omega)
  have h2 := Int.gcd_dvd_left a b
  have h3 := Int.le_of_dvd h h2
  omega
theorem mp_heatAll_bd {s : Int → Int} (hs : mp_sky s) : 0 ≤ sp_heatAll s ∧ sp_heatAll s ≤ 144 := by
  have h0 := hs.1
  have := mp_fold_inv_lt (f := fun k v => v + sp_heat (s (1 + 6 * k + 0)) (s (1 + 6 * k + 1))) (fun i v => 0 ≤ i ∧ 0 ≤ v ∧ v ≤ 18 * i) (s 0) (fun i a hi h => by
    have hm := hs.2.1 i h.1 hi
    have := mp_heat_bd (kind := s (1 + 6 * i + 0)) (f := s (1 + 6 * i + 1)) hm.2.1
    exact ⟨by omega, by omega, by omega⟩) (s 0).toNat 0 0 (by omega) ⟨by decide, by decide, by decide⟩
  unfold sp_heatAll; omega
