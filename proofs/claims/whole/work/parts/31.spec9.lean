/-! ===== roofs, rings, who is asked next ===== -/
/-- what of one set is not in another -/
def mp_dif (a b : Int) : Int := ((a.toNat ^^^ (a.toNat &&& b.toNat) : Nat) : Int)
theorem mp_dif_nn (a b : Int) : 0 ≤ mp_dif a b := Int.natCast_nonneg _
theorem mp_z_not (a : Int) : Int32.ofInt a ^^^ Int32.ofInt (-1) = Int32.ofInt (-1 - a) := by
  have h : Int32.ofInt (-1 - a) = ~~~ Int32.ofInt a := by
    rw [Int32.ofInt_sub]
    apply Int32.toBitVec_inj.mp
    rw [Int32.toBitVec_sub, Int32.toBitVec_not, show (Int32.ofInt (-1)).toBitVec = BitVec.allOnes 32 from rfl, BitVec.allOnes_sub_eq_not]
  rw [h]
  apply Int32.toBitVec_inj.mp
  rw [Int32.toBitVec_xor, Int32.toBitVec_not, show (Int32.ofInt (-1)).toBitVec = BitVec.allOnes 32 from rfl, BitVec.xor_allOnes]
theorem mp_z_dif {a b : Int} (ha : 0 ≤ a) (hb : 0 ≤ b) : Int32.ofInt a &&& Int32.ofInt (-1 - b) = Int32.ofInt (mp_dif a b) := by
  rw [← mp_z_not]
  obtain ⟨x, rfl⟩ := Int.eq_ofNat_of_zero_le ha
  obtain ⟨y, rfl⟩ := Int.eq_ofNat_of_zero_le hb
  unfold mp_dif
  rw [Int.toNat_natCast, Int.toNat_natCast, mp_ofn, mp_ofn, mp_ofn]
  apply Int32.toBitVec_inj.mp
  rw [Int32.toBitVec_and, Int32.toBitVec_xor, show (Int32.ofInt (-1)).toBitVec = BitVec.allOnes 32 from rfl, BitVec.xor_allOnes, Int32.toBitVec_ofNat', Int32.toBitVec_ofNat', Int32.toBitVec_ofNat', BitVec.ofNat_xor, BitVec.ofNat_and]
  ext i hi
  simp
  cases (BitVec.ofNat 32 x)[i] <;> cases (BitVec.ofNat 32 y)[i] <;> rfl
theorem mp_dif_lt {a b : Int} {n : Nat} (ha : a < ((2 ^ n : Nat) : Int)) : mp_dif a b < ((2 ^ n : Nat) : Int) := by
  have h0 : 0 < 2 ^ n := Nat.two_pow_pos n
  have h1 : a.toNat < 2 ^ n := by omega
  have := Nat.xor_lt_two_pow (x := a.toNat) (y := a.toNat &&& b.toNat) (n := n) h1 (Nat.lt_of_le_of_lt Nat.and_le_left h1)
  unfold mp_dif; omega
def sp_ofStep (s : Int → Int) (c k u : Int) : Int := if sp_seen (s (1 + 6 * k + 0)) (s (1 + 6 * k + 1)) (s (1 + 6 * k + 2)) (s (1 + 6 * k + 3)) c = 0 then u else mp_or u (mp_bit k)
def sp_seenOf (s : Int → Int) (c : Int) : Int := mp_fold (sp_ofStep s c) (s 0).toNat 0 0
theorem mp_ofStep_bd {s : Int → Int} {c k u : Int} (hk : k < 8) (h : 0 ≤ u ∧ u < 256) : 0 ≤ sp_ofStep s c k u ∧ sp_ofStep s c k u < 256 := by
  unfold sp_ofStep
  split
  · exact h
  · exact ⟨mp_or_nn _ _, mp_or_256 h.2 (mp_bit_256 hk)⟩
theorem mp_seenOf_bd {s : Int → Int} (hs : mp_sky s) (c : Int) : 0 ≤ sp_seenOf s c ∧ sp_seenOf s c < 256 := by
  have h0 := hs.1
  have := mp_fold_inv_lt (f := sp_ofStep s c) (fun _ a => 0 ≤ a ∧ a < 256) 8 (fun i a hi h => mp_ofStep_bd hi h) (s 0).toNat 0 0 (by omega) ⟨by decide, by decide⟩
  exact this
def sp_wantStep (s : Int → Int) (k u : Int) : Int := if sp_bright (s (1 + 6 * k + 0)) (s (1 + 6 * k + 1)) < 0 then u else mp_or u (mp_bit k)
def sp_want (s : Int → Int) : Int := mp_fold (sp_wantStep s) (s 0).toNat 0 0
theorem mp_wantStep_bd {s : Int → Int} {k u : Int} (hk : k < 8) (h : 0 ≤ u ∧ u < 256) : 0 ≤ sp_wantStep s k u ∧ sp_wantStep s k u < 256 := by
  unfold sp_wantStep
  split
  · exact h
  · exact ⟨mp_or_nn _ _, mp_or_256 h.2 (mp_bit_256 hk)⟩
theorem mp_want_bd {s : Int → Int} (hs : mp_sky s) : 0 ≤ sp_want s ∧ sp_want s < 256 := by
  have h0 := hs.1
  have := mp_fold_inv_lt (f := sp_wantStep s) (fun _ a => 0 ≤ a ∧ a < 256) 8 (fun i a hi h => mp_wantStep_bd hi h) (s 0).toNat 0 0 (by omega) ⟨by decide, by decide⟩
  exact this
def sp_covStep (s : Int → Int) (set c u : Int) : Int := if sp_b set c = 1 then mp_or u (sp_seenOf s c) else u
def sp_cov (s : Int → Int) (set : Int) : Int := mp_fold (sp_covStep s set) 16 0 0
theorem mp_covStep_bd {s : Int → Int} (hs : mp_sky s) {set c u : Int} (h : 0 ≤ u ∧ u < 256) : 0 ≤ sp_covStep s set c u ∧ sp_covStep s set c u < 256 := by
  have := mp_seenOf_bd hs c
  unfold sp_covStep
  split
  · exact ⟨mp_or_nn _ _, mp_or_256 h.2 this.2⟩
  · exact h
theorem mp_cov_bd {s : Int → Int} (hs : mp_sky s) (set : Int) : 0 ≤ sp_cov s set ∧ sp_cov s set < 256 :=
  mp_fold_inv (f := sp_covStep s set) (fun _ a => 0 ≤ a ∧ a < 256) (fun _ _ h => mp_covStep_bd hs h) 16 0 0 ⟨by decide, by decide⟩
def sp_roofStep (s : Int → Int) (set f : Int) : Int := if 4 < sp_bits set ∨ (0 ≤ f ∧ sp_bits f ≤ sp_bits set) then f else if mp_dif (sp_want s) (sp_cov s set) = 0 then set else f
def sp_roofs (s : Int → Int) : Int := mp_fold (sp_roofStep s) 65536 0 (-4)
def sp_rather (s : Int → Int) (k a b : Int) : Int := if (if s (1 + 6 * k + 5) = a then 1 else 0) ≠ (if s (1 + 6 * k + 5) = b then (1 : Int) else 0) then (if s (1 + 6 * k + 5) = a then 1 else 0) else if s (49 + 3 * a + 1) ≠ s (49 + 3 * b + 1) then (if s (49 + 3 * b + 1) < s (49 + 3 * a + 1) then 1 else 0) else (if a < b then 1 else 0)
def sp_askStep (s ask : Int → Int) (l k f : Int) : Int := if sp_b (ask l) k = 1 ∨ sp_yesOf s l k < 0 then f else if f < 0 ∨ sp_heat (s (1 + 6 * f + 0)) (s (1 + 6 * f + 1)) < sp_heat (s (1 + 6 * k + 0)) (s (1 + 6 * k + 1)) then k else f
def sp_next1 (s ask : Int → Int) (l : Int) : Int := mp_fold (sp_askStep s ask l) (s 0).toNat 0 (-4)
def sp_chgEnd (o c : Int) (p : Int × Int) : Int × Int := (if o < p.1 then p.1 else o, if p.1 < o ∨ (o = p.1 ∧ c < p.2) then c else p.2)
def sp_chg (s : Int → Int) : Nat → Int → Int → Int → Int → Int × Int → Int × Int
  | 0, _, _, o, c, p => sp_chgEnd o c p
  | n + 1, l, g, o, c, p => if s (49 + 3 * l + 2) = 9 then sp_chg s n (l + 1) g o c p else mp_fold (fun k p => if sp_b g k = 1 then sp_chg s n (l + 1) (mp_dif g (mp_bit k)) (o + (if s (1 + 6 * k + 5) = l then 1 else 0)) (c + (if s (49 + 3 * l + 2) = k then 0 else 1)) p else p) (s 0).toNat 0 p
abbrev mp_rng (p : Int × Int) : Prop := (-1 ≤ p.1 ∧ p.1 ≤ 5) ∧ (0 ≤ p.2 ∧ p.2 ≤ 5)
theorem mp_chg_bd (s : Int → Int) : ∀ (n : Nat) (l g o c : Int) (p : Int × Int), l + n = 5 → (0 ≤ o ∧ o ≤ l) → (0 ≤ c ∧ c ≤ l) → mp_rng p → mp_rng (sp_chg s n l g o c p) := by
  intro n
  induction n with
  | zero =>
    intro l g o c p hl ho hc hp
    unfold sp_chg sp_chgEnd mp_rng
    constructor <;> (constructor <;> (split <;> omega))
  | succ n ih =>
    intro l g o c p hl ho hc hp
    unfold sp_chg
    by_cases h : s (49 + 3 * l + 2) = 9
    · rw [if_pos h]; exact ih (l + 1) g o c p (by omega) (by omega) (by omega) hp
    · rw [if_neg h]
      refine mp_fold_inv (fun _ p => mp_rng p) (fun k p hp => ?_) (s 0).toNat 0 p hp
      by_cases h2 : sp_b g k = 1
      · simp only [if_pos h2]
        exact ih (l + 1) _ _ _ p (by omega) (by split <;> omega) (by split <;> omega) hp
      · simp only [if_neg h2]; exact hp
def sp_rings (s : Int → Int) (w : Int) : Int := if ¬ (0 ≤ w ∧ w ≤ 1) then -1 else if w = 0 then (sp_chg s 5 0 (sp_said s) 0 0 (-1, 0)).1 else (sp_chg s 5 0 (sp_said s) 0 0 (-1, 0)).2
