/-! ===== rows, fill, bits counted, METEORS made ===== -/
theorem mp_fill_up {x : Int → Int} {t v : Int} (h : ∀ j, 0 ≤ j → j < t → x j = v) : ∀ j, 0 ≤ j → j < t + 1 → mp_ud x t v j = v := fun j h0 h1 => by
  by_cases e : j = t
  · rw [e]; exact mp_ud_eq
  · rw [mp_udn e]; exact h j h0 (by omega)
def mp_rw (p : Nat) (o z : Int) (e : Int → Int) : mp_H := [mp_O 9 [.ref (p + 1), mp_i o, mp_i z], mp_I 100 (mp_F e)]
theorem mp_and_le (a b : Int) (h : 0 ≤ a) : 0 ≤ mp_and a b ∧ mp_and a b ≤ a := by
  refine ⟨mp_and_nn a b, ?_⟩
  unfold mp_and
  have : a.toNat &&& b.toNat ≤ a.toNat := Nat.and_le_left
  omega
theorem mp_shr_le (a k : Int) (h : 0 ≤ a) : 0 ≤ mp_shr a k ∧ mp_shr a k ≤ a := by
  refine ⟨mp_shr_nn a k, ?_⟩
  unfold mp_shr
  have := Nat.shiftRight_le a.toNat k.toNat
  omega
theorem mp_z_us' : ∀ k : Fin 32, (UInt32.ofNat k.val &&& 31).toNat % 32 = k.val := by decide +kernel
theorem mp_z_ushr {a k : Int} (ha : 0 ≤ a ∧ a < 2147483648) (hk : 0 ≤ k ∧ k < 32) : ((Int32.ofInt a).toUInt32 >>> ((Int32.ofInt k).toUInt32 &&& Int32.toUInt32 31)).toInt32 = Int32.ofInt (mp_shr a k) := by
  obtain ⟨x, rfl⟩ := Int.eq_ofNat_of_zero_le ha.1
  obtain ⟨y, rfl⟩ := Int.eq_ofNat_of_zero_le hk.1
  have hx : x < 2147483648 := by omega
  have hy : y < 32 := by omega
  have hle : x >>> y ≤ x := Nat.shiftRight_le x y
  unfold mp_shr
  rw [Int.toNat_natCast, Int.toNat_natCast, mp_ofn, mp_ofn, mp_ofn]
  show (UInt32.ofNat x >>> (UInt32.ofNat y &&& 31)).toInt32 = (UInt32.ofNat (x >>> y)).toInt32
  congr 1
  apply UInt32.toNat_inj.mp
  rw [UInt32.toNat_shiftRight, mp_z_us' ⟨y, hy⟩, UInt32.toNat_ofNat', UInt32.toNat_ofNat', Nat.mod_eq_of_lt (by omega), Nat.mod_eq_of_lt (by omega)]
/-! bitCount by its stages -/
def bc1 (v : Int) : Int := v - mp_and (mp_shr v 1) 1431655765
def bc2 (v : Int) : Int := mp_and v 858993459 + mp_and (mp_shr v 2) 858993459
def bc3 (v : Int) : Int := mp_and (v + mp_shr v 4) 252645135
def bc4 (v : Int) : Int := v + mp_shr v 8
def bc5 (v : Int) : Int := v + mp_shr v 16
def bn1 (v : Nat) : Nat := v - ((v >>> 1) &&& 1431655765)
def bn2 (v : Nat) : Nat := (v &&& 858993459) + ((v >>> 2) &&& 858993459)
def bn3 (v : Nat) : Nat := (v + (v >>> 4)) &&& 252645135
def bn4 (v : Nat) : Nat := v + (v >>> 8)
def bn5 (v : Nat) : Nat := v + (v >>> 16)
def bcF (c : Nat) : Nat → Nat → Nat → Nat
  | 0, _, a => a
  | n + 1, k, a => bcF c n (k + 1) (a + ((c >>> k) &&& 1))
theorem bcF_eq (c : Nat) : ∀ (n k a : Nat), mp_fold (fun k n => n + sp_b (c : Int) k) n (k : Int) (a : Int) = ((bcF c n k a : Nat) : Int) := by
  intro n
  induction n with
  | zero => intro k a; rfl
  | succ n ih =>
    intro k a
    show mp_fold (fun k n => n + sp_b (c : Int) k) n ((k : Int) + 1) ((a : Int) + sp_b (c : Int) (k : Int)) = ((bcF c n (k + 1) (a + ((c >>> k) &&& 1)) : Nat) : Int)
    rw [← ih (k + 1) (a + ((c >>> k) &&& 1))]
    rfl
theorem bn_all : ∀ a : Fin 128, ∀ b : Fin 128, bn5 (bn4 (bn3 (bn2 (bn1 (128 * a.val + b.val))))) &&& 63 = bcF (128 * a.val + b.val) 16 0 0 := by decide +kernel
theorem bc1_n (v : Nat) : bc1 (v : Int) = ((bn1 v : Nat) : Int) := by
  have h1 : (v >>> 1) &&& 1431655765 ≤ v >>> 1 := Nat.and_le_left
  have h2 : v >>> 1 ≤ v := Nat.shiftRight_le v 1
  show (v : Int) - (((v >>> 1) &&& 1431655765 : Nat) : Int) = _
  unfold bn1
  omega
theorem bc2_n (v : Nat) : bc2 (v : Int) = ((bn2 v : Nat) : Int) := rfl
theorem bc4_n (v : Nat) : bc4 (v : Int) = ((bn4 v : Nat) : Int) := rfl
theorem bc5_n (v : Nat) : bc5 (v : Int) = ((bn5 v : Nat) : Int) := rfl
theorem bc3_n (v : Nat) : bc3 (v : Int) = ((bn3 v : Nat) : Int) := rfl
theorem bc_bits {v : Int} (h : 0 ≤ v ∧ v < 16384) : mp_and (bc5 (bc4 (bc3 (bc2 (bc1 v))))) 63 = sp_bits v := by
  obtain ⟨n, rfl⟩ := Int.eq_ofNat_of_zero_le h.1
  rw [bc1_n, bc2_n, bc3_n, bc4_n, bc5_n]
  have e := bn_all ⟨n / 128, by omega⟩ ⟨n % 128, by omega⟩
  have e2 : 128 * (n / 128) + n % 128 = n := by omega
  dsimp only at e
  rw [e2] at e
  show ((bn5 (bn4 (bn3 (bn2 (bn1 n)))) &&& 63 : Nat) : Int) = mp_fold (fun k m => m + sp_b (n : Int) k) 16 ((0 : Nat) : Int) ((0 : Nat) : Int)
  rw [e, bcF_eq]
theorem bc1_bd {v : Int} (h : 0 ≤ v ∧ v < 16384) : 0 ≤ bc1 v ∧ bc1 v < 16384 := by
  have h1 := mp_shr_le v 1 h.1
  have h2 := mp_and_le (mp_shr v 1) 1431655765 h1.1
  unfold bc1; omega
theorem bc2_bd {v : Int} (h : 0 ≤ v ∧ v < 16384) : 0 ≤ bc2 v ∧ bc2 v < 32768 := by
  have h1 := mp_shr_le v 2 h.1
  have h2 := mp_and_le (mp_shr v 2) 858993459 h1.1
  have h3 := mp_and_le v 858993459 h.1
  unfold bc2; omega
theorem bc3_bd {v : Int} (h : 0 ≤ v ∧ v < 32768) : 0 ≤ bc3 v ∧ bc3 v < 65536 := by
  have h1 := mp_shr_le v 4 h.1
  have h2 := mp_and_le (v + mp_shr v 4) 252645135 (by omega)
  unfold bc3; omega
theorem bc4_bd {v : Int} (h : 0 ≤ v ∧ v < 65536) : 0 ≤ bc4 v ∧ bc4 v < 131072 := by
  have h1 := mp_shr_le v 8 h.1
  unfold bc4; omega
theorem bc5_bd {v : Int} (h : 0 ≤ v ∧ v < 131072) : 0 ≤ bc5 v ∧ bc5 v < 262144 := by
  have h1 := mp_shr_le v 16 h.1
  unfold bc5; omega
/-- all numbers of a row are from 0 on below m -/
def sc_all (e : Int → Int) (m : Int) : Nat → Int → Int
  | 0, _ => 1
  | n + 1, t => if 0 ≤ e t ∧ e t < m then sc_all e m n (t + 1) else 0
theorem sc_all_s {e : Int → Int} {m t : Int} {n : Nat} : sc_all e m (n + 1) t = if 0 ≤ e t ∧ e t < m then sc_all e m n (t + 1) else 0 := rfl
theorem sc_all_01 (e : Int → Int) (m : Int) : ∀ (n : Nat) (t : Int), sc_all e m n t = 0 ∨ sc_all e m n t = 1 := by
  intro n
  induction n with
  | zero => intro t; exact Or.inr rfl
  | succ n ih => intro t; unfold sc_all; split
                 · exact ih _
                 · exact Or.inl rfl

theorem lJ7_fill_53178_5 {N : Nat} {e : Int → Int} {r : Nat} {v : Int} {σ : mp_H} (he : σ[r]? = some (mp_I N (mp_F e))) (h_N : N ≤ 1000) (h_r : 0 < r) {R9 : mp_An} : ∀ (n : Nat) (x : Int → Int) (t : Int), ((0 ≤ t ∧ t + (n : Nat) = N) ∧ ∀ j, 0 ≤ j → j < t → x j = v) → R9 = (none, σ.set r (mp_I N (mp_F (fun _ => v)))) → mp_At (mJ7_fill_53178, 0, 0, 0) (0, 0) 5 [some (Value.ref r), some (mp_i v), some (mp_i t), some (mp_i N)] [] (σ.set r (mp_I N (mp_F x))) R9 := by
  intro n
  induction n with
  | zero =>
    intro x t hi hR
    refine mp_iload_n dJ7_fill_53178_5 rfl ?_
    refine mp_iload_n dJ7_fill_53178_6 rfl ?_
    refine mp_icmp_ge (tgt := 20) dJ7_fill_53178_7 rfl ⟨by omega, by omega⟩ ⟨by omega, by omega⟩ (fun h1 => ?_) (fun h1 => ?_)
    · refine mp_extAt (g := mp_F (fun _ => v)) (fun j hj => hi.2 (j : Int) (by omega) (by omega)) ?_
      exact mp_vreturn (st := []) dJ7_fill_53178_20 rfl ⟨by decide, by decide⟩ (hR)
    · exfalso; omega
  | succ n ih =>
    intro x t hi hR
    refine mp_iload_n dJ7_fill_53178_5 rfl ?_
    refine mp_iload_n dJ7_fill_53178_6 rfl ?_
    refine mp_icmp_ge (tgt := 20) dJ7_fill_53178_7 rfl ⟨by omega, by omega⟩ ⟨by omega, by omega⟩ (fun h1 => ?_) (fun h1 => ?_)
    · exfalso; omega
    · refine mp_aload_n dJ7_fill_53178_10 rfl ?_
      refine mp_iload_n dJ7_fill_53178_11 rfl ?_
      refine mp_iload_n dJ7_fill_53178_12 rfl ?_
      refine mp_iast (σ' := σ.set r (mp_I N (mp_F (mp_ud x t v)))) dJ7_fill_53178_13 (mp_set_at he) h_r ⟨by omega, by omega⟩ (by omega) (List.set_set _) ?_
      refine mp_iinc (z := t + 1) (L' := [some (Value.ref r), some (mp_i v), some (mp_i (t + 1)), some (mp_i N)]) dJ7_fill_53178_14 rfl (rfl) (by decide) rfl ?_
      refine mp_goto (tgt := 5) dJ7_fill_53178_17 rfl ?_
      exact ih (mp_ud x t v) (t + 1) ⟨by omega, mp_fill_up hi.2⟩ hR
theorem zJ7_fill_53178 {N : Nat} {e : Int → Int} {r : Nat} {v : Int} {σ : mp_H} (he : σ[r]? = some (mp_I N (mp_F e))) (h_N : N ≤ 1000) (h_r : 0 < r) : mp_Call (mJ7_fill_53178, 0, 0, 0) [Value.ref r, mp_i v] σ (none, σ.set r (mp_I N (mp_F (fun _ => v)))) := by
  refine mp_Call.of (L := [some (Value.ref r), some (mp_i v), none, none]) pnJ7 (Nat.le_of_ble_eq_true rfl) rfl ?_
  refine mp_iconst dJ7_fill_53178_0 ?_
  refine mp_istore_n (L' := [some (Value.ref r), some (mp_i v), some (mp_i 0), none]) dJ7_fill_53178_1 rfl (by decide) rfl ?_
  refine mp_aload_n dJ7_fill_53178_2 rfl ?_
  refine mp_ialen dJ7_fill_53178_3 he ?_
  refine mp_istore_n (L' := [some (Value.ref r), some (mp_i v), some (mp_i 0), some (mp_i N)]) dJ7_fill_53178_4 rfl (by decide) rfl ?_
  refine mp_sg (mp_set_same he).symm ?_
  exact lJ7_fill_53178_5 (r := r) (v := v) he (by first | with_reducible assumption | omega) (by first | with_reducible assumption | omega) N e 0 (⟨by omega, fun j h1 h2 => by omega⟩) (by rfl)
theorem zJ6_bitCount_0f7a4 {v : Int} {σ : mp_H} (h_v : 0 ≤ v ∧ v < 16384) : mp_Call (mJ6_bitCount_0f7a4, 0, 0, 0) [mp_i v] σ (some (mp_i (sp_bits v)), σ) := by
  refine mp_Call.of (L := [some (mp_i v)]) pnJ6 (Nat.le_of_ble_eq_true rfl) rfl ?_
  refine mp_iload_n dJ6_bitCount_0f7a4_0 rfl ?_
  refine mp_iload_n dJ6_bitCount_0f7a4_1 rfl ?_
  refine mp_iconst dJ6_bitCount_0f7a4_2 ?_
  refine mp_iushr (z := mp_shr v 1) dJ6_bitCount_0f7a4_3 (mp_z_ushr ⟨by omega, by omega⟩ ⟨by decide, by decide⟩) ?_
  have b1 := mp_shr_le v 1 (by omega)
  refine mp_ldcw (z := 1431655765) dJ6_bitCount_0f7a4_4 kcJ6_265 rfl ?_
  have b2 := mp_and_le (mp_shr v 1) 1431655765 (by first | omega | exact mp_shr_nn _ _)
  refine mp_iand (z := mp_and (mp_shr v 1) 1431655765) dJ6_bitCount_0f7a4_7 (mp_z_and (by first | omega | exact mp_bit_nn _ | exact mp_or_nn _ _ | exact mp_and_nn _ _ | exact mp_shr_nn _ _) (by first | omega | exact mp_bit_nn _ | exact mp_or_nn _ _ | exact mp_and_nn _ _ | exact mp_shr_nn _ _)) ?_
  refine mp_isub (z := v - (mp_and (mp_shr v 1) 1431655765)) dJ6_bitCount_0f7a4_8 (by first | rfl | omega) ?_
  refine mp_istore_n (L' := [some (mp_i (v - (mp_and (mp_shr v 1) 1431655765)))]) dJ6_bitCount_0f7a4_9 rfl (by decide) rfl ?_
  refine mp_loc (j := 0) (x := v - (mp_and (mp_shr v 1) 1431655765)) (y := bc1 v) rfl rfl (L' := [some (mp_i (bc1 v))]) rfl ?_
  have hq1 := bc1_bd h_v
  refine mp_iload_n dJ6_bitCount_0f7a4_10 rfl ?_
  refine mp_ldcw (z := 858993459) dJ6_bitCount_0f7a4_11 kcJ6_266 rfl ?_
  have b3 := mp_and_le (bc1 v) 858993459 (by first | omega | exact mp_shr_nn _ _)
  refine mp_iand (z := mp_and (bc1 v) 858993459) dJ6_bitCount_0f7a4_14 (mp_z_and (by first | omega | exact mp_bit_nn _ | exact mp_or_nn _ _ | exact mp_and_nn _ _ | exact mp_shr_nn _ _) (by first | omega | exact mp_bit_nn _ | exact mp_or_nn _ _ | exact mp_and_nn _ _ | exact mp_shr_nn _ _)) ?_
  refine mp_iload_n dJ6_bitCount_0f7a4_15 rfl ?_
  refine mp_iconst dJ6_bitCount_0f7a4_16 ?_
  refine mp_iushr (z := mp_shr (bc1 v) 2) dJ6_bitCount_0f7a4_17 (mp_z_ushr ⟨by omega, by omega⟩ ⟨by decide, by decide⟩) ?_
  have b4 := mp_shr_le (bc1 v) 2 (by omega)
  refine mp_ldcw (z := 858993459) dJ6_bitCount_0f7a4_18 kcJ6_266 rfl ?_
  have b5 := mp_and_le (mp_shr (bc1 v) 2) 858993459 (by first | omega | exact mp_shr_nn _ _)
  refine mp_iand (z := mp_and (mp_shr (bc1 v) 2) 858993459) dJ6_bitCount_0f7a4_21 (mp_z_and (by first | omega | exact mp_bit_nn _ | exact mp_or_nn _ _ | exact mp_and_nn _ _ | exact mp_shr_nn _ _) (by first | omega | exact mp_bit_nn _ | exact mp_or_nn _ _ | exact mp_and_nn _ _ | exact mp_shr_nn _ _)) ?_
  refine mp_iadd (z := (mp_and (bc1 v) 858993459) + (mp_and (mp_shr (bc1 v) 2) 858993459)) dJ6_bitCount_0f7a4_22 (by first | rfl | omega) ?_
  refine mp_istore_n (L' := [some (mp_i ((mp_and (bc1 v) 858993459) + (mp_and (mp_shr (bc1 v) 2) 858993459)))]) dJ6_bitCount_0f7a4_23 rfl (by decide) rfl ?_
  refine mp_loc (j := 0) (x := (mp_and (bc1 v) 858993459) + (mp_and (mp_shr (bc1 v) 2) 858993459)) (y := bc2 (bc1 v)) rfl rfl (L' := [some (mp_i (bc2 (bc1 v)))]) rfl ?_
  have hq2 := bc2_bd hq1
  refine mp_iload_n dJ6_bitCount_0f7a4_24 rfl ?_
  refine mp_iload_n dJ6_bitCount_0f7a4_25 rfl ?_
  refine mp_iconst dJ6_bitCount_0f7a4_26 ?_
  refine mp_iushr (z := mp_shr (bc2 (bc1 v)) 4) dJ6_bitCount_0f7a4_27 (mp_z_ushr ⟨by omega, by omega⟩ ⟨by decide, by decide⟩) ?_
  have b6 := mp_shr_le (bc2 (bc1 v)) 4 (by omega)
  refine mp_iadd (z := (bc2 (bc1 v)) + (mp_shr (bc2 (bc1 v)) 4)) dJ6_bitCount_0f7a4_28 (by first | rfl | omega) ?_
  refine mp_ldcw (z := 252645135) dJ6_bitCount_0f7a4_29 kcJ6_267 rfl ?_
  have b7 := mp_and_le ((bc2 (bc1 v)) + (mp_shr (bc2 (bc1 v)) 4)) 252645135 (by first | omega | exact mp_shr_nn _ _)
  refine mp_iand (z := mp_and ((bc2 (bc1 v)) + (mp_shr (bc2 (bc1 v)) 4)) 252645135) dJ6_bitCount_0f7a4_32 (mp_z_and (by first | omega | exact mp_bit_nn _ | exact mp_or_nn _ _ | exact mp_and_nn _ _ | exact mp_shr_nn _ _) (by first | omega | exact mp_bit_nn _ | exact mp_or_nn _ _ | exact mp_and_nn _ _ | exact mp_shr_nn _ _)) ?_
  refine mp_istore_n (L' := [some (mp_i (mp_and ((bc2 (bc1 v)) + (mp_shr (bc2 (bc1 v)) 4)) 252645135))]) dJ6_bitCount_0f7a4_33 rfl (by decide) rfl ?_
  refine mp_loc (j := 0) (x := mp_and ((bc2 (bc1 v)) + (mp_shr (bc2 (bc1 v)) 4)) 252645135) (y := bc3 (bc2 (bc1 v))) rfl rfl (L' := [some (mp_i (bc3 (bc2 (bc1 v))))]) rfl ?_
  have hq3 := bc3_bd hq2
  refine mp_iload_n dJ6_bitCount_0f7a4_34 rfl ?_
  refine mp_iload_n dJ6_bitCount_0f7a4_35 rfl ?_
  refine mp_bipush dJ6_bitCount_0f7a4_36 rfl ?_
  refine mp_iushr (z := mp_shr (bc3 (bc2 (bc1 v))) 8) dJ6_bitCount_0f7a4_38 (mp_z_ushr ⟨by omega, by omega⟩ ⟨by decide, by decide⟩) ?_
  have b8 := mp_shr_le (bc3 (bc2 (bc1 v))) 8 (by omega)
  refine mp_iadd (z := (bc3 (bc2 (bc1 v))) + (mp_shr (bc3 (bc2 (bc1 v))) 8)) dJ6_bitCount_0f7a4_39 (by first | rfl | omega) ?_
  refine mp_istore_n (L' := [some (mp_i ((bc3 (bc2 (bc1 v))) + (mp_shr (bc3 (bc2 (bc1 v))) 8)))]) dJ6_bitCount_0f7a4_40 rfl (by decide) rfl ?_
  refine mp_loc (j := 0) (x := (bc3 (bc2 (bc1 v))) + (mp_shr (bc3 (bc2 (bc1 v))) 8)) (y := bc4 (bc3 (bc2 (bc1 v)))) rfl rfl (L' := [some (mp_i (bc4 (bc3 (bc2 (bc1 v)))))]) rfl ?_
  have hq4 := bc4_bd hq3
  refine mp_iload_n dJ6_bitCount_0f7a4_41 rfl ?_
  refine mp_iload_n dJ6_bitCount_0f7a4_42 rfl ?_
  refine mp_bipush dJ6_bitCount_0f7a4_43 rfl ?_
  refine mp_iushr (z := mp_shr (bc4 (bc3 (bc2 (bc1 v)))) 16) dJ6_bitCount_0f7a4_45 (mp_z_ushr ⟨by omega, by omega⟩ ⟨by decide, by decide⟩) ?_
  have b9 := mp_shr_le (bc4 (bc3 (bc2 (bc1 v)))) 16 (by omega)
  refine mp_iadd (z := (bc4 (bc3 (bc2 (bc1 v)))) + (mp_shr (bc4 (bc3 (bc2 (bc1 v)))) 16)) dJ6_bitCount_0f7a4_46 (by first | rfl | omega) ?_
  refine mp_istore_n (L' := [some (mp_i ((bc4 (bc3 (bc2 (bc1 v)))) + (mp_shr (bc4 (bc3 (bc2 (bc1 v)))) 16)))]) dJ6_bitCount_0f7a4_47 rfl (by decide) rfl ?_
  refine mp_loc (j := 0) (x := (bc4 (bc3 (bc2 (bc1 v)))) + (mp_shr (bc4 (bc3 (bc2 (bc1 v)))) 16)) (y := bc5 (bc4 (bc3 (bc2 (bc1 v))))) rfl rfl (L' := [some (mp_i (bc5 (bc4 (bc3 (bc2 (bc1 v))))))]) rfl ?_
  have hq5 := bc5_bd hq4
  refine mp_iload_n dJ6_bitCount_0f7a4_48 rfl ?_
  refine mp_bipush dJ6_bitCount_0f7a4_49 rfl ?_
  have b10 := mp_and_le (bc5 (bc4 (bc3 (bc2 (bc1 v))))) 63 (by first | omega | exact mp_shr_nn _ _)
  refine mp_iand (z := mp_and (bc5 (bc4 (bc3 (bc2 (bc1 v))))) 63) dJ6_bitCount_0f7a4_51 (mp_z_and (by first | omega | exact mp_bit_nn _ | exact mp_or_nn _ _ | exact mp_and_nn _ _ | exact mp_shr_nn _ _) (by first | omega | exact mp_bit_nn _ | exact mp_or_nn _ _ | exact mp_and_nn _ _ | exact mp_shr_nn _ _)) ?_
  exact mp_ireturn (st := []) dJ6_bitCount_0f7a4_52 rfl ⟨by decide, by decide⟩ ((mp_ans (by exact (bc_bits h_v).symm)))
theorem zX5_has {q : Nat} {o z : Int} {r : Nat} {i : Int} {σ : mp_H} (hr : σ[r]? = some (mp_O 9 [Value.ref q, mp_i o, mp_i z])) (h_z : 0 ≤ z ∧ z ≤ 100) (h_i : mp_w i) : mp_Call (mX5_has, 0, 0, 0) [Value.ref r, mp_i i] σ (some (mp_i (if 0 ≤ i ∧ i < z then 1 else 0)), σ) := by
  refine mp_Call.of (L := [some (Value.ref r), some (mp_i i)]) pnX5 (Nat.le_of_ble_eq_true rfl) rfl ?_
  refine mp_iload_n dX5_has_0 rfl ?_
  refine mp_if_lt (tgt := 16) dX5_has_1 rfl ⟨by omega, by omega⟩ (fun h1 => ?_) (fun h1 => ?_)
  · refine mp_iconst dX5_has_16 ?_
    exact mp_zreturn (st := []) dX5_has_17 rfl rfl ⟨by decide, by decide⟩ ((mp_ans (by first | with_reducible rfl | omega | rfl)))
  · refine mp_iload_n dX5_has_4 rfl ?_
    refine mp_aload_n dX5_has_5 rfl ?_
    refine mp_getfield dX5_has_6 fsX5_28_9 hr rfl ?_
    refine mp_icmp_ge (tgt := 16) dX5_has_9 rfl ⟨by omega, by omega⟩ ⟨by omega, by omega⟩ (fun h2 => ?_) (fun h2 => ?_)
    · refine mp_iconst dX5_has_16 ?_
      exact mp_zreturn (st := []) dX5_has_17 rfl rfl ⟨by decide, by decide⟩ ((mp_ans (by first | with_reducible rfl | omega | rfl)))
    · refine mp_iconst dX5_has_12 ?_
      refine mp_goto (tgt := 17) dX5_has_13 rfl ?_
      exact mp_zreturn (st := []) dX5_has_17 rfl rfl ⟨by decide, by decide⟩ ((mp_ans (by first | with_reducible rfl | omega | rfl)))
theorem zX5_hasPart {q : Nat} {o z : Int} {r : Nat} {i : Int} {n : Int} {σ : mp_H} (hr : σ[r]? = some (mp_O 9 [Value.ref q, mp_i o, mp_i z])) (h_z : 0 ≤ z ∧ z ≤ 100) (h_i : mp_w i) (h_n : mp_w n) : mp_Call (mX5_hasPart, 0, 0, 0) [Value.ref r, mp_i i, mp_i n] σ (some (mp_i (if 0 ≤ i ∧ 0 ≤ n ∧ n ≤ z ∧ i ≤ z - n then 1 else 0)), σ) := by
  refine mp_Call.of (L := [some (Value.ref r), some (mp_i i), some (mp_i n)]) pnX5 (Nat.le_of_ble_eq_true rfl) rfl ?_
  refine mp_iload_n dX5_hasPart_0 rfl ?_
  refine mp_if_lt (tgt := 30) dX5_hasPart_1 rfl ⟨by omega, by omega⟩ (fun h1 => ?_) (fun h1 => ?_)
  · refine mp_iconst dX5_hasPart_30 ?_
    exact mp_zreturn (st := []) dX5_hasPart_31 rfl rfl ⟨by decide, by decide⟩ ((mp_ans (by first | with_reducible rfl | omega | rfl)))
  · refine mp_iload_n dX5_hasPart_4 rfl ?_
    refine mp_if_lt (tgt := 30) dX5_hasPart_5 rfl ⟨by omega, by omega⟩ (fun h2 => ?_) (fun h2 => ?_)
    · refine mp_iconst dX5_hasPart_30 ?_
      exact mp_zreturn (st := []) dX5_hasPart_31 rfl rfl ⟨by decide, by decide⟩ ((mp_ans (by first | with_reducible rfl | omega | rfl)))
    · refine mp_iload_n dX5_hasPart_8 rfl ?_
      refine mp_aload_n dX5_hasPart_9 rfl ?_
      refine mp_getfield dX5_hasPart_10 fsX5_28_9 hr rfl ?_
      refine mp_icmp_gt (tgt := 30) dX5_hasPart_13 rfl ⟨by omega, by omega⟩ ⟨by omega, by omega⟩ (fun h3 => ?_) (fun h3 => ?_)
      · refine mp_iconst dX5_hasPart_30 ?_
        exact mp_zreturn (st := []) dX5_hasPart_31 rfl rfl ⟨by decide, by decide⟩ ((mp_ans (by first | with_reducible rfl | omega | rfl)))
      · refine mp_iload_n dX5_hasPart_16 rfl ?_
        refine mp_aload_n dX5_hasPart_17 rfl ?_
        refine mp_getfield dX5_hasPart_18 fsX5_28_9 hr rfl ?_
        refine mp_iload_n dX5_hasPart_21 rfl ?_
        refine mp_isub (z := z - n) dX5_hasPart_22 (by first | rfl | omega) ?_
        refine mp_icmp_gt (tgt := 30) dX5_hasPart_23 rfl ⟨by omega, by omega⟩ ⟨by omega, by omega⟩ (fun h4 => ?_) (fun h4 => ?_)
        · refine mp_iconst dX5_hasPart_30 ?_
          exact mp_zreturn (st := []) dX5_hasPart_31 rfl rfl ⟨by decide, by decide⟩ ((mp_ans (by first | with_reducible rfl | omega | rfl)))
        · refine mp_iconst dX5_hasPart_26 ?_
          refine mp_goto (tgt := 31) dX5_hasPart_27 rfl ?_
          exact mp_zreturn (st := []) dX5_hasPart_31 rfl rfl ⟨by decide, by decide⟩ ((mp_ans (by first | with_reducible rfl | omega | rfl)))
theorem zX5_at {q : Nat} {o z : Int} {e : Int → Int} {r : Nat} {i : Int} {σ : mp_H} (hr : σ[r]? = some (mp_O 9 [Value.ref q, mp_i o, mp_i z])) (he : σ[q]? = some (mp_I 100 (mp_F e))) (h_z : 0 ≤ z ∧ z ≤ 100) (h_i : mp_w i) : mp_Call (mX5_at, 1, 0, 0) [Value.ref r, mp_i i] σ (some (mp_i (if 0 ≤ i ∧ i < z then e i else 0)), σ) := by
  refine mp_Call.of (L := [some (Value.ref r), some (mp_i i)]) pnX5 (Nat.le_of_ble_eq_true rfl) rfl ?_
  refine mp_aload_n dX5_at_0 rfl ?_
  refine mp_iload_n dX5_at_1 rfl ?_
  refine mp_invV (z := (mX5_has, 0, 0, 0)) (K' := (0, 0)) (σ1 := σ) (as := [mp_i i]) (st := []) (st1 := [mp_i (if 0 ≤ i ∧ i < z then 1 else 0)]) dX5_at_2 svX5_37 hr rfl rfl (zX5_has (r := r) (i := i) (q := q) (o := o) (z := z) hr (by first | with_reducible assumption | omega) (by first | with_reducible assumption | omega)) ⟨Nat.le_of_ble_eq_true rfl, Nat.le_of_ble_eq_true rfl, Nat.le_of_ble_eq_true rfl, Nat.le_of_ble_eq_true rfl, Nat.le_of_ble_eq_true rfl⟩ rfl rfl rfl rfl ?_
  refine mp_ifb_eq (tgt := 17) dX5_at_5 rfl (fun h1 => ?_) (fun h1 => ?_)
  · refine mp_iconst dX5_at_17 ?_
    exact mp_ireturn (st := []) dX5_at_18 rfl ⟨by decide, by decide⟩ ((mp_ans (by first | (rw [if_pos (by omega)]; done) | (rw [if_neg (by omega)]; done))))
  · refine mp_aload_n dX5_at_8 rfl ?_
    refine mp_getfield dX5_at_9 fsX5_9_9 hr rfl ?_
    refine mp_iload_n dX5_at_12 rfl ?_
    refine mp_iald dX5_at_13 he ⟨by omega, by omega⟩ (by omega) ?_
    refine mp_goto (tgt := 18) dX5_at_14 rfl ?_
    exact mp_ireturn (st := []) dX5_at_18 rfl ⟨by decide, by decide⟩ ((mp_ans (by first | (rw [if_pos (by omega)]; done) | (rw [if_neg (by omega)]; done))))
theorem zX5_lowestBits {q : Nat} {o z : Int} {r : Nat} {v : Int} {σ : mp_H} (hr : σ[r]? = some (mp_O 9 [Value.ref q, mp_i o, mp_i z])) (h_o : 0 ≤ o ∧ o ≤ 2) : mp_Call (mX5_lowestBits, 0, 0, 0) [Value.ref r, mp_i v] σ (some (mp_i (sp_low o v)), σ) := by
  refine mp_Call.of (L := [some (Value.ref r), some (mp_i v)]) pnX5 (Nat.le_of_ble_eq_true rfl) rfl ?_
  refine mp_aload_n dX5_lowestBits_0 rfl ?_
  refine mp_getfield dX5_lowestBits_1 fsX5_15_9 hr rfl ?_
  by_cases q1 : o = 0
  · refine mp_top (y := 0) q1 ?_
    refine mp_lookup (tgt := 32) (off := 28) dX5_lowestBits_4 ⟨by decide, by decide⟩ (by decide) rfl rfl ?_
    refine mp_iload_n dX5_lowestBits_32 rfl ?_
    refine mp_i2b (z := v.bmod 256) dX5_lowestBits_33 (mp_z_b8 _) ?_
    exact mp_ireturn (st := []) dX5_lowestBits_34 rfl ⟨by decide, by decide⟩ ((mp_ans (by unfold sp_low; first | (rw [if_pos (by omega)]; done) | (rw [if_neg (by omega), if_pos (by omega)]; done) | (rw [if_neg (by omega), if_neg (by omega)]; done))))
  by_cases q2 : o = 1
  · refine mp_top (y := 1) q2 ?_
    refine mp_lookup (tgt := 35) (off := 31) dX5_lowestBits_4 ⟨by decide, by decide⟩ (by decide) rfl rfl ?_
    refine mp_iload_n dX5_lowestBits_35 rfl ?_
    refine mp_i2s (z := v.bmod 65536) dX5_lowestBits_36 (mp_z_b16 _) ?_
    exact mp_ireturn (st := []) dX5_lowestBits_37 rfl ⟨by decide, by decide⟩ ((mp_ans (by unfold sp_low; first | (rw [if_pos (by omega)]; done) | (rw [if_neg (by omega), if_pos (by omega)]; done) | (rw [if_neg (by omega), if_neg (by omega)]; done))))
  refine mp_lookup (tgt := 38) (off := 34) dX5_lowestBits_4 ⟨by omega, by omega⟩ (by decide) (by simp [Op.lookupswitch.offset_cons, Op.lookupswitch.offset, *] <;> omega) rfl ?_
  refine mp_iload_n dX5_lowestBits_38 rfl ?_
  exact mp_ireturn (st := []) dX5_lowestBits_39 rfl ⟨by decide, by decide⟩ ((mp_ans (by unfold sp_low; first | (rw [if_pos (by omega)]; done) | (rw [if_neg (by omega), if_pos (by omega)]; done) | (rw [if_neg (by omega), if_neg (by omega)]; done))))
theorem zX5_least {q : Nat} {o z : Int} {r : Nat} {σ : mp_H} (hr : σ[r]? = some (mp_O 9 [Value.ref q, mp_i o, mp_i z])) (h_o : 0 ≤ o ∧ o ≤ 2) : mp_Call (mX5_least, 0, 0, 0) [Value.ref r] σ (some (mp_i (sp_leastOf o)), σ) := by
  refine mp_Call.of (L := [some (Value.ref r)]) pnX5 (Nat.le_of_ble_eq_true rfl) rfl ?_
  refine mp_aload_n dX5_least_0 rfl ?_
  refine mp_getfield dX5_least_1 fsX5_15_9 hr rfl ?_
  by_cases q1 : o = 0
  · refine mp_top (y := 0) q1 ?_
    refine mp_lookup (tgt := 32) (off := 28) dX5_least_4 ⟨by decide, by decide⟩ (by decide) rfl rfl ?_
    refine mp_bipush dX5_least_32 rfl ?_
    exact mp_ireturn (st := []) dX5_least_34 rfl ⟨by decide, by decide⟩ ((mp_ans (by unfold sp_leastOf; first | (rw [if_pos (by omega)]; done) | (rw [if_neg (by omega), if_pos (by omega)]; done) | (rw [if_neg (by omega), if_neg (by omega)]; done))))
  by_cases q2 : o = 1
  · refine mp_top (y := 1) q2 ?_
    refine mp_lookup (tgt := 35) (off := 31) dX5_least_4 ⟨by decide, by decide⟩ (by decide) rfl rfl ?_
    refine mp_sipush dX5_least_35 rfl ?_
    exact mp_ireturn (st := []) dX5_least_38 rfl ⟨by decide, by decide⟩ ((mp_ans (by unfold sp_leastOf; first | (rw [if_pos (by omega)]; done) | (rw [if_neg (by omega), if_pos (by omega)]; done) | (rw [if_neg (by omega), if_neg (by omega)]; done))))
  refine mp_lookup (tgt := 39) (off := 35) dX5_least_4 ⟨by omega, by omega⟩ (by decide) (by simp [Op.lookupswitch.offset_cons, Op.lookupswitch.offset, *] <;> omega) rfl ?_
  refine mp_ldc (z := (-2147483648)) dX5_least_39 kcX5_45 rfl ?_
  exact mp_ireturn (st := []) dX5_least_41 rfl ⟨by decide, by decide⟩ ((mp_ans (by unfold sp_leastOf; first | (rw [if_pos (by omega)]; done) | (rw [if_neg (by omega), if_pos (by omega)]; done) | (rw [if_neg (by omega), if_neg (by omega)]; done))))
theorem zX5_set {o z : Int} {e : Int → Int} {A B : mp_H}  {r : Nat} {i : Int} {v : Int} (hA : A.length = r) (h_r : 0 < r) (h_z : 0 ≤ z ∧ z ≤ 100) (h_i : 0 ≤ i ∧ i < z) (h_o : 0 ≤ o ∧ o ≤ 2) : mp_Call (mX5_set, 1, 0, 0) [Value.ref r, mp_i i, mp_i v] (A ++ (mp_rw r o z e ++ B)) (none, A ++ (mp_rw r o z (mp_ud e i (sp_low o v)) ++ B)) := by
  refine mp_Call.of (L := [some (Value.ref r), some (mp_i i), some (mp_i v)]) pnX5 (Nat.le_of_ble_eq_true rfl) rfl ?_
  refine mp_aload_n dX5_set_0 rfl ?_
  refine mp_iload_n dX5_set_1 rfl ?_
  refine mp_invV (z := (mX5_has, 0, 0, 0)) (K' := (0, 0)) (σ1 := A ++ (mp_rw r o z e ++ B)) (as := [mp_i i]) (st := []) (st1 := [mp_i (if 0 ≤ i ∧ i < z then 1 else 0)]) dX5_set_2 svX5_37 (mp_lkP hA 0 rfl) rfl rfl (zX5_has (r := r) (i := i) (q := (r + 1)) (o := o) (z := z) (mp_lkP hA 0 rfl) (by first | with_reducible assumption | omega) (by first | with_reducible assumption | omega)) ⟨Nat.le_of_ble_eq_true rfl, Nat.le_of_ble_eq_true rfl, Nat.le_of_ble_eq_true rfl, Nat.le_of_ble_eq_true rfl, Nat.le_of_ble_eq_true rfl⟩ rfl rfl rfl rfl ?_
  refine mp_ifb_eq (tgt := 19) dX5_set_5 rfl (fun h1 => ?_) (fun h1 => ?_)
  · exfalso; omega
  · refine mp_aload_n dX5_set_8 rfl ?_
    refine mp_getfield dX5_set_9 fsX5_9_9 (mp_lkP hA 0 rfl) rfl ?_
    refine mp_iload_n dX5_set_12 rfl ?_
    refine mp_aload_n dX5_set_13 rfl ?_
    refine mp_iload_n dX5_set_14 rfl ?_
    refine mp_invV (z := (mX5_lowestBits, 0, 0, 0)) (K' := (0, 0)) (σ1 := A ++ (mp_rw r o z e ++ B)) (as := [mp_i v]) (st := [mp_i i, Value.ref (r + 1)]) (st1 := [mp_i (sp_low o v), mp_i i, Value.ref (r + 1)]) dX5_set_15 svX5_41 (mp_lkP hA 0 rfl) rfl rfl (zX5_lowestBits (r := r) (v := v) (q := (r + 1)) (o := o) (z := z) (mp_lkP hA 0 rfl) (by first | with_reducible assumption | omega)) ⟨Nat.le_of_ble_eq_true rfl, Nat.le_of_ble_eq_true rfl, Nat.le_of_ble_eq_true rfl, Nat.le_of_ble_eq_true rfl, Nat.le_of_ble_eq_true rfl⟩ rfl rfl rfl rfl ?_
    refine mp_iast (σ' := A ++ (mp_rw r o z (mp_ud e i (sp_low o v)) ++ B)) dX5_set_18 (mp_lkP hA 1 rfl) (by omega) ⟨by omega, by omega⟩ (by decide) (mp_stP hA 1 (Nat.le_of_ble_eq_true rfl) rfl) ?_
    exact mp_vreturn (st := []) dX5_set_19 rfl ⟨by decide, by decide⟩ (by rfl)
theorem zX5_becomesNew {o z : Int} {e : Int → Int} {A B : mp_H}  {r : Nat} {w : Int} {n : Int} (hA : A.length = r) (h_r : 0 < r) (h_n : 0 ≤ n ∧ n ≤ 100) : mp_Call (mX5_becomesNew, 1, 0, 0) [Value.ref r, mp_i w, mp_i n] (A ++ (mp_rw r o z e ++ B)) (none, A ++ (mp_rw r w n (fun _ => 0) ++ B)) := by
  refine mp_Call.of (L := [some (Value.ref r), some (mp_i w), some (mp_i n)]) pnX5 (Nat.le_of_ble_eq_true rfl) rfl ?_
  refine mp_aload_n dX5_becomesNew_0 rfl ?_
  refine mp_iload_n dX5_becomesNew_1 rfl ?_
  refine mp_putfield (σ' := A ++ (mp_rw r w z e ++ B)) dX5_becomesNew_2 fsX5_15_9 rfl (Or.inl rfl) (tyX5_ok 1 (by decide)) (fun _ => ⟨rfl, rfl⟩) (mp_lkP hA 0 rfl) (by omega) (Nat.le_of_ble_eq_true rfl) (mp_stP hA 0 (Nat.le_of_ble_eq_true rfl) rfl) ?_
  refine mp_aload_n dX5_becomesNew_5 rfl ?_
  refine mp_iconst dX5_becomesNew_6 ?_
  refine mp_bipush dX5_becomesNew_7 rfl ?_
  refine mp_iload_n dX5_becomesNew_9 rfl ?_
  refine mp_mmin (z := if n < 100 then n else 100) dX5_becomesNew_10 ssX5_19 (by decide) (Nat.le_of_ble_eq_true rfl) ⟨by decide, by decide⟩ ⟨by omega, by omega⟩ ⟨by omega, by omega⟩ rfl ?_
  refine mp_mmax (z := if 0 < if n < 100 then n else 100 then if n < 100 then n else 100 else 0) dX5_becomesNew_13 ssX5_25 (by decide) (Nat.le_of_ble_eq_true rfl) ⟨by decide, by decide⟩ ⟨by omega, by omega⟩ ⟨by omega, by omega⟩ rfl ?_
  refine mp_top (y := n) (by omega) ?_
  refine mp_putfield (σ' := A ++ (mp_rw r w n e ++ B)) dX5_becomesNew_16 fsX5_28_9 rfl (Or.inl rfl) (tyX5_ok 2 (by decide)) (fun _ => ⟨rfl, rfl⟩) (mp_lkP hA 0 rfl) (by omega) (Nat.le_of_ble_eq_true rfl) (mp_stP hA 0 (Nat.le_of_ble_eq_true rfl) rfl) ?_
  refine mp_aload_n dX5_becomesNew_19 rfl ?_
  refine mp_getfield dX5_becomesNew_20 fsX5_9_9 (mp_lkP hA 0 rfl) rfl ?_
  refine mp_iconst dX5_becomesNew_23 ?_
  refine mp_invS (z := (mJ7_fill_53178, 0, 0, 0)) (K' := (0, 0)) (σ1 := A ++ (mp_rw r w n (fun _ => 0) ++ B)) (as := [Value.ref (r + 1), mp_i 0]) (st := []) (st1 := []) dX5_becomesNew_24 ssX5_31 (mp_Call.cast (zJ7_fill_53178 (r := (r + 1)) (v := 0) (N := 100) (e := e) (mp_lkP hA 1 rfl) (by first | with_reducible assumption | omega) (by first | with_reducible assumption | omega)) rfl (congrArg (Prod.mk _) (mp_stP hA 1 (Nat.le_of_ble_eq_true rfl) rfl))) ⟨Nat.le_of_ble_eq_true rfl, Nat.le_of_ble_eq_true rfl, Nat.le_of_ble_eq_true rfl, Nat.le_of_ble_eq_true rfl, Nat.le_of_ble_eq_true rfl⟩ rfl rfl rfl rfl ?_
  exact mp_vreturn (st := []) dX5_becomesNew_27 rfl ⟨by decide, by decide⟩ (by rfl)
theorem lX5_isAllBelow_2 {q : Nat} {o z : Int} {e : Int → Int} {r : Nat} {m : Int} {σ : mp_H} (hr : σ[r]? = some (mp_O 9 [Value.ref q, mp_i o, mp_i z])) (he : σ[q]? = some (mp_I 100 (mp_F e))) (h_z : 0 ≤ z ∧ z ≤ 100) (h_m : mp_w m) (hel : ∀ x, mp_w (e x)) {R9 : mp_An} : ∀ (n : Nat) (t : Int), (0 ≤ t ∧ t + (n : Nat) = z) → R9 = (some (mp_i (sc_all e m n t)), σ) → mp_At (mX5_isAllBelow, 2, 0, 0) (0, 0) 2 [some (Value.ref r), some (mp_i m), some (mp_i t)] [] σ R9 := by
  intro n
  induction n with
  | zero =>
    intro t hi hR
    refine mp_iload_n dX5_isAllBelow_2 rfl ?_
    refine mp_aload_n dX5_isAllBelow_3 rfl ?_
    refine mp_getfield dX5_isAllBelow_4 fsX5_28_9 hr rfl ?_
    refine mp_icmp_ge (tgt := 30) dX5_isAllBelow_7 rfl ⟨by omega, by omega⟩ ⟨by omega, by omega⟩ (fun h1 => ?_) (fun h1 => ?_)
    · refine mp_iconst dX5_isAllBelow_30 ?_
      exact mp_zreturn (st := []) dX5_isAllBelow_31 rfl rfl ⟨by decide, by decide⟩ (hR.trans (mp_ans rfl))
    · exfalso; omega
  | succ n ih =>
    intro t hi hR
    have het := hel t
    refine mp_iload_n dX5_isAllBelow_2 rfl ?_
    refine mp_aload_n dX5_isAllBelow_3 rfl ?_
    refine mp_getfield dX5_isAllBelow_4 fsX5_28_9 hr rfl ?_
    refine mp_icmp_ge (tgt := 30) dX5_isAllBelow_7 rfl ⟨by omega, by omega⟩ ⟨by omega, by omega⟩ (fun h1 => ?_) (fun h1 => ?_)
    · exfalso; omega
    · refine mp_aload_n dX5_isAllBelow_10 rfl ?_
      refine mp_iload_n dX5_isAllBelow_11 rfl ?_
      refine mp_invV (z := (mX5_at, 1, 0, 0)) (K' := (0, 0)) (σ1 := σ) (as := [mp_i t]) (st := []) (st1 := [mp_i (if 0 ≤ t ∧ t < z then e t else 0)]) dX5_isAllBelow_12 svX5_46 hr rfl rfl (zX5_at (r := r) (i := t) (q := q) (o := o) (z := z) (e := e) hr he (by first | with_reducible assumption | omega) (by first | with_reducible assumption | omega)) ⟨Nat.le_of_ble_eq_true rfl, Nat.le_of_ble_eq_true rfl, Nat.le_of_ble_eq_true rfl, Nat.le_of_ble_eq_true rfl, Nat.le_of_ble_eq_true rfl⟩ rfl rfl rfl rfl ?_
      refine mp_top (y := e t) (if_pos (by omega)) ?_
      refine mp_iload_n dX5_isAllBelow_15 rfl ?_
      refine mp_invS (z := (mX11_isBelow, 0, 0, 0)) (K' := (0, 0)) (σ1 := σ) (as := [mp_i (e t), mp_i m]) (st := []) (st1 := [mp_i (if 0 ≤ (e t) ∧ (e t) < m then 1 else 0)]) dX5_isAllBelow_16 ssX5_49 (zX11_isBelow (v := (e t)) (n := m) (by first | with_reducible assumption | omega) (by first | with_reducible assumption | omega)) ⟨Nat.le_of_ble_eq_true rfl, Nat.le_of_ble_eq_true rfl, Nat.le_of_ble_eq_true rfl, Nat.le_of_ble_eq_true rfl, Nat.le_of_ble_eq_true rfl⟩ rfl rfl rfl rfl ?_
      refine mp_ifb_ne (tgt := 24) dX5_isAllBelow_19 rfl (fun h2 => ?_) (fun h2 => ?_)
      · refine mp_iinc (z := t + 1) (L' := [some (Value.ref r), some (mp_i m), some (mp_i (t + 1))]) dX5_isAllBelow_24 rfl (rfl) (by decide) rfl ?_
        refine mp_goto (tgt := 2) dX5_isAllBelow_27 rfl ?_
        exact ih (t + 1) (by omega) (hR.trans (by rw [sc_all_s, if_pos (by omega)]))
      · refine mp_iconst dX5_isAllBelow_22 ?_
        exact mp_zreturn (st := []) dX5_isAllBelow_23 rfl rfl ⟨by decide, by decide⟩ (hR.trans (mp_ans (by rw [sc_all_s, if_neg (by omega)])))
theorem zX5_isAllBelow {q : Nat} {o z : Int} {e : Int → Int} {r : Nat} {m : Int} {σ : mp_H} (hr : σ[r]? = some (mp_O 9 [Value.ref q, mp_i o, mp_i z])) (he : σ[q]? = some (mp_I 100 (mp_F e))) (h_z : 0 ≤ z ∧ z ≤ 100) (h_m : mp_w m) (hel : ∀ x, mp_w (e x)) : mp_Call (mX5_isAllBelow, 2, 0, 0) [Value.ref r, mp_i m] σ (some (mp_i (sc_all e m (Int.toNat z) 0)), σ) := by
  refine mp_Call.of (L := [some (Value.ref r), some (mp_i m), none]) pnX5 (Nat.le_of_ble_eq_true rfl) rfl ?_
  refine mp_iconst dX5_isAllBelow_0 ?_
  refine mp_istore_n (L' := [some (Value.ref r), some (mp_i m), some (mp_i 0)]) dX5_isAllBelow_1 rfl (by decide) rfl ?_
  exact lX5_isAllBelow_2 (r := r) (m := m) hr he (by first | with_reducible assumption | omega) (by first | with_reducible assumption | omega) (by first | with_reducible assumption | omega) (Int.toNat z) 0 (by omega) (by rfl)
