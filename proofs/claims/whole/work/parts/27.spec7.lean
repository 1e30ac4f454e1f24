/-! ===== the game, draws ===== -/
theorem mp_ud_ud {s : Int → Int} {i x y : Int} : mp_ud (mp_ud s i x) i y = mp_ud s i y := by
  funext j; unfold mp_ud; by_cases h : j = i
  · rw [if_pos h, if_pos h]
  · rw [if_neg h, if_neg h, if_neg h]
theorem mp_ud_self {s : Int → Int} {i : Int} : mp_ud s i (s i) = s := by
  funext j; unfold mp_ud; by_cases h : j = i
  · rw [if_pos h, h]
  · rw [if_neg h]
theorem mp_z_low31 (a : Int) : Int32.ofInt a &&& Int32.ofInt 2147483647 = Int32.ofInt (a % 2147483648) := by
  apply Int32.toBitVec_inj.mp
  rw [Int32.toBitVec_and]
  apply BitVec.eq_of_toNat_eq
  rw [BitVec.toNat_and]
  have e : ∀ x : Int, (Int32.ofInt x).toBitVec.toNat = (x % 4294967296).toNat := fun x => by
    show (BitVec.ofInt 32 x).toNat = _
    rw [BitVec.toNat_ofInt]; rfl
  rw [e, e, e, show ((2147483647 : Int) % 4294967296).toNat = 2 ^ 31 - 1 from rfl, Nat.and_two_pow_sub_one_eq_mod]
  omega
def sp_gmIn (s : Int → Int) (k b roof j z : Int) : Int := if z < sp_bits (sp_seen (s (1 + 6 * k + 0)) (s (1 + 6 * k + 1)) (b + 5 * j) (s (1 + 6 * k + 3)) roof) then z else sp_bits (sp_seen (s (1 + 6 * k + 0)) (s (1 + 6 * k + 1)) (b + 5 * j) (s (1 + 6 * k + 3)) roof)
def sp_gm (s : Int → Int) (k b roof : Int) : Int := mp_fold (sp_gmIn s k b roof) 3 0 1000000000
def sp_gmStep (s : Int → Int) (k a b i : Int) (p : Int × Int) : Int × Int := if sp_gm s k b (a + 5 * i) ≤ p.2 then p else (a + 5 * i, sp_gm s k b (a + 5 * i))
def sp_gmAll (s : Int → Int) (k a b : Int) : Int × Int := mp_fold (sp_gmStep s k a b) 3 0 (0, -1)
def sp_game (s : Int → Int) (k a b w : Int) : Int := if ¬ (0 ≤ k ∧ k ≤ s 0 - 1) ∨ ¬ (0 ≤ a ∧ a ≤ 5) ∨ ¬ (0 ≤ b ∧ b ≤ 5) ∨ ¬ (0 ≤ w ∧ w ≤ 1) then -1 else if w = 0 then (sp_gmAll s k a b).2 else (sp_gmAll s k a b).1
theorem mp_gmIn_bd {s : Int → Int} {k b roof j z : Int} (h : 0 ≤ z ∧ z ≤ 1000000000) : 0 ≤ sp_gmIn s k b roof j z ∧ sp_gmIn s k b roof j z ≤ 1000000000 := by
  have := mp_bits_bd (sp_seen (s (1 + 6 * k + 0)) (s (1 + 6 * k + 1)) (b + 5 * j) (s (1 + 6 * k + 3)) roof)
  unfold sp_gmIn; omega
theorem mp_gm_bd (s : Int → Int) (k b roof : Int) : 0 ≤ sp_gm s k b roof ∧ sp_gm s k b roof ≤ 1000000000 :=
  mp_fold_inv (f := sp_gmIn s k b roof) (fun _ z => 0 ≤ z ∧ z ≤ 1000000000) (fun _ _ h => mp_gmIn_bd h) 3 0 1000000000 ⟨by decide, by decide⟩
theorem mp_met_col {s : Int → Int} {k c : Int} (h : mp_met s k) (hc : 0 ≤ c ∧ c ≤ 15) : mp_met (mp_ud s (1 + 6 * k + 2) c) k := by
  unfold mp_met
  rw [mp_ud_ne (by omega), mp_ud_ne (by omega), mp_ud_eq, mp_ud_ne (by omega), mp_ud_ne (by omega), mp_ud_ne (by omega)]
  exact ⟨h.1, h.2.1, hc, h.2.2.2⟩
def sp_nx (z : Int) : Int := z * 1103515245 + 12345
def sp_hb (z n : Int) : Int := z % 2147483648 / 65536 % n
def sp_drStep (l : Int) (p : (Int → Int) × Int) : (Int → Int) × Int := (mp_ud (mp_ud p.1 (49 + 3 * l + 0) (sp_hb (sp_nx p.2) 16)) (49 + 3 * l + 1) (sp_hb (sp_nx (sp_nx p.2)) 10), sp_nx (sp_nx p.2))
def sp_dr (s : Int → Int) (z : Int) : (Int → Int) × Int := mp_fold sp_drStep 5 0 (s, z)
theorem mp_hb_bd {z n : Int} (h : 1 ≤ n) : 0 ≤ sp_hb z n ∧ sp_hb z n ≤ n - 1 := by
  unfold sp_hb
  have h1 := Int.emod_nonneg (z % 2147483648 / 65536) (by omega : n ≠ 0)
  have h2 := Int.emod_lt_of_pos (z % 2147483648 / 65536) (by omega : 0 < n)
  omega
theorem mp_drStep_sky {l : Int} {p : (Int → Int) × Int} (h : mp_sky p.1) (hl : 0 ≤ l ∧ l ≤ 4) : mp_sky (sp_drStep l p).1 := by
  have a1 := mp_hb_bd (z := sp_nx p.2) (n := 16) (by decide)
  have a2 := mp_hb_bd (z := sp_nx (sp_nx p.2)) (n := 10) (by decide)
  exact mp_sky_looker (mp_sky_looker h hl (Or.inl ⟨rfl, by omega, by omega⟩)) hl (Or.inr ⟨rfl, by omega, by omega⟩)
theorem mp_dr_sky {s : Int → Int} (hs : mp_sky s) (z : Int) : mp_sky (sp_dr s z).1 := by
  have := mp_fold_inv_lt (f := sp_drStep) (fun i p => 0 ≤ i ∧ mp_sky p.1) 5 (fun i p hi h => ⟨by omega, mp_drStep_sky h.2 ⟨h.1, by omega⟩⟩) 5 0 (s, z) (by decide) ⟨by decide, hs⟩
  exact this.2
def sp_augOne (q : Int → Int) (w k v : Int) : Int := v + (if 0 ≤ sp_taker q k 0 ∧ (w = 0 ∨ q (1 + 6 * k + 5) = sp_taker q k 0) then 1 else 0)
def sp_auStep (s : Int → Int) (w : Int) (_ : Int) (p : (Int → Int) × Int × Int) : (Int → Int) × Int × Int := ((sp_dr s p.2.1).1, (sp_dr s p.2.1).2, mp_fold (sp_augOne (sp_dr s p.2.1).1 w) ((sp_dr s p.2.1).1 0).toNat 0 p.2.2)
def sp_auAll (s m : Int → Int) (n z w : Int) : (Int → Int) × Int × Int := mp_fold (sp_auStep s w) n.toNat 0 (m, z, 0)
def sp_augusts (s m : Int → Int) (n z w : Int) : Int := if ¬ (1 ≤ n ∧ n ≤ 20) ∨ ¬ (0 ≤ w ∧ w ≤ 1) then -1 else (sp_auAll s m n z w).2.2
