theorem lX12_rowOfRoofs_25 {s m img was num pro ask kp kk kf so sz el : Int → Int} {im pl ra re rm rf sd th : Int} {A B : mp_H}  {c : Int} (hA : A.length = 44) (hs : mp_sky s) (h_c : mp_w c) {R9 : mp_An} : ∀ (n : Nat) (l : Int) (q : Int → Int), ((0 ≤ l ∧ l + (n : Nat) = 5) ∧ mp_sky q ∧ (0 ≤ c ∧ c ≤ 11)) → mp_At (mX12_rowOfRoofs, 6, 0, 0) (0, 0) 49 [some (Value.ref 44), some (mp_i c), none] [] (A ++ (mp_ms s (mp_fold (fun l q => mp_ud q (49 + 3 * l + 0) (c + l)) n l q) img was num pro ask kp kk kf so sz el im pl ra re rm rf sd th ++ B)) R9 → mp_At (mX12_rowOfRoofs, 6, 0, 0) (0, 0) 25 [some (Value.ref 44), some (mp_i c), some (mp_i l)] [] (A ++ (mp_ms s q img was num pro ask kp kk kf so sz el im pl ra re rm rf sd th ++ B)) R9 := by
  intro n
  induction n with
  | zero =>
    intro l q hi hk
    refine mp_iload_n dX12_rowOfRoofs_25 rfl ?_
    refine mp_iconst dX12_rowOfRoofs_26 ?_
    refine mp_icmp_ge (tgt := 49) dX12_rowOfRoofs_27 rfl ⟨by omega, by omega⟩ ⟨by omega, by omega⟩ (fun h1 => ?_) (fun h1 => ?_)
    · refine mp_drop (L' := [some (Value.ref 44), some (mp_i c), none]) [true, true, false] rfl ?_
      exact hk
    · exfalso; omega
  | succ n ih =>
    intro l q hi hk
    refine mp_iload_n dX12_rowOfRoofs_25 rfl ?_
    refine mp_iconst dX12_rowOfRoofs_26 ?_
    refine mp_icmp_ge (tgt := 49) dX12_rowOfRoofs_27 rfl ⟨by omega, by omega⟩ ⟨by omega, by omega⟩ (fun h1 => ?_) (fun h1 => ?_)
    · exfalso; omega
    · refine mp_aload_n dX12_rowOfRoofs_30 rfl ?_
      refine mp_getfield dX12_rowOfRoofs_31 fsX12_13_11 (mp_lk hA 0 rfl) rfl ?_
      refine mp_iload_n dX12_rowOfRoofs_34 rfl ?_
      refine mp_iconst dX12_rowOfRoofs_35 ?_
      refine mp_invS (z := (mX12_by, 0, 0, 0)) (K' := (0, 0)) (σ1 := A ++ (mp_ms s q img was num pro ask kp kk kf so sz el im pl ra re rm rf sd th ++ B)) (as := [mp_i l, mp_i 0]) (st := [Value.ref 46]) (st1 := [mp_i (49 + 3 * l + 0), Value.ref 46]) dX12_rowOfRoofs_36 ssX12_49 (zX12_by (l := l) (x := 0)  ) ⟨Nat.le_of_ble_eq_true rfl, Nat.le_of_ble_eq_true rfl, Nat.le_of_ble_eq_true rfl, Nat.le_of_ble_eq_true rfl, Nat.le_of_ble_eq_true rfl⟩ rfl rfl rfl rfl ?_
      refine mp_iload_n dX12_rowOfRoofs_39 rfl ?_
      refine mp_iload_n dX12_rowOfRoofs_40 rfl ?_
      refine mp_iadd (z := c + l) dX12_rowOfRoofs_41 (by first | rfl | omega) ?_
      refine mp_iast (σ' := A ++ (mp_ms s (mp_ud q (49 + 3 * l + 0) (c + l)) img was num pro ask kp kk kf so sz el im pl ra re rm rf sd th ++ B)) dX12_rowOfRoofs_42 (mp_lk hA 2 rfl) (by decide) ⟨by omega, by omega⟩ (by decide) (mp_sts (Ms' := mp_ms s (mp_ud q (49 + 3 * l + 0) (c + l)) img was num pro ask kp kk kf so sz el im pl ra re rm rf sd th) hA 2 (Nat.le_of_ble_eq_true rfl) rfl) ?_
      refine mp_iinc (z := l + 1) (L' := [some (Value.ref 44), some (mp_i c), some (mp_i (l + 1))]) dX12_rowOfRoofs_43 rfl (rfl) (by decide) rfl ?_
      refine mp_goto (tgt := 25) dX12_rowOfRoofs_46 rfl ?_
      exact ih (l + 1) (mp_ud q (49 + 3 * l + 0) (c + l)) (⟨by omega, mp_sky_looker hi.2.1 ⟨by omega, by omega⟩ (Or.inl ⟨rfl, by omega, by omega⟩), hi.2.2⟩) hk
theorem zX12_rowOfRoofs {s m img was num pro ask kp kk kf so sz el : Int → Int} {im pl ra re rm rf sd th : Int} {A B : mp_H}  {c : Int} (hA : A.length = 44) (hs : mp_sky s) (h_c : mp_w c) : mp_Call (mX12_rowOfRoofs, 6, 0, 0) [Value.ref 44, mp_i c] (A ++ (mp_ms s m img was num pro ask kp kk kf so sz el im pl ra re rm rf sd th ++ B)) (some (mp_i (sp_rowOfRoofs s c)), A ++ (mp_ms s (if 0 ≤ c ∧ c ≤ 11 then sp_roofsAt s c else m) img was num pro ask kp kk kf so sz el im pl ra re rm rf sd th ++ B)) := by
  refine mp_Call.of (L := [some (Value.ref 44), some (mp_i c), none]) pnX12 (Nat.le_of_ble_eq_true rfl) rfl ?_
  have h0 := hs.1
  refine mp_iload_n dX12_rowOfRoofs_0 rfl ?_
  refine mp_iconst dX12_rowOfRoofs_1 ?_
  refine mp_bipush dX12_rowOfRoofs_2 rfl ?_
  refine mp_invS (z := (mX12_isIn, 0, 0, 0)) (K' := (0, 0)) (σ1 := A ++ (mp_ms s m img was num pro ask kp kk kf so sz el im pl ra re rm rf sd th ++ B)) (as := [mp_i c, mp_i 0, mp_i 11]) (st := []) (st1 := [mp_i (if 0 ≤ c ∧ c ≤ 11 then 1 else 0)]) dX12_rowOfRoofs_4 ssX12_53 (zX12_isIn (v := c) (a := 0) (b := 11)  (by first | with_reducible assumption | omega) (by first | with_reducible assumption | omega) (by first | with_reducible assumption | omega)) ⟨Nat.le_of_ble_eq_true rfl, Nat.le_of_ble_eq_true rfl, Nat.le_of_ble_eq_true rfl, Nat.le_of_ble_eq_true rfl, Nat.le_of_ble_eq_true rfl⟩ rfl rfl rfl rfl ?_
  refine mp_ifb_ne (tgt := 12) dX12_rowOfRoofs_7 rfl (fun h1 => ?_) (fun h1 => ?_)
  · refine mp_aload_n dX12_rowOfRoofs_12 rfl ?_
    refine mp_getfield dX12_rowOfRoofs_13 fsX12_9_11 (mp_lk hA 0 rfl) rfl ?_
    refine mp_aload_n dX12_rowOfRoofs_16 rfl ?_
    refine mp_getfield dX12_rowOfRoofs_17 fsX12_13_11 (mp_lk hA 0 rfl) rfl ?_
    refine mp_invS (z := (mX12_copies, 0, 0, 0)) (K' := (0, 0)) (σ1 := A ++ (mp_ms s s img was num pro ask kp kk kf so sz el im pl ra re rm rf sd th ++ B)) (as := [Value.ref 45, Value.ref 46]) (st := []) (st1 := []) dX12_rowOfRoofs_20 ssX12_151 (mp_Call.cast (zX12_copies (a := 45) (b := 46) (f := s) (g := m) (mp_lk hA 1 rfl) (mp_lk hA 2 rfl) (by first | with_reducible assumption | omega) (by first | with_reducible assumption | omega)) rfl (congrArg (Prod.mk _) (mp_sts (Ms' := mp_ms s s img was num pro ask kp kk kf so sz el im pl ra re rm rf sd th) hA 2 (Nat.le_of_ble_eq_true rfl) rfl))) ⟨Nat.le_of_ble_eq_true rfl, Nat.le_of_ble_eq_true rfl, Nat.le_of_ble_eq_true rfl, Nat.le_of_ble_eq_true rfl, Nat.le_of_ble_eq_true rfl⟩ rfl rfl rfl rfl ?_
    refine mp_iconst dX12_rowOfRoofs_23 ?_
    refine mp_istore_n (L' := [some (Value.ref 44), some (mp_i c), some (mp_i 0)]) dX12_rowOfRoofs_24 rfl (by decide) rfl ?_
    refine lX12_rowOfRoofs_25 (m := m) hA hs h_c 5 0 s ⟨by omega, hs, by omega⟩ ?_
    refine mp_sg (σ' := A ++ (mp_ms s (sp_roofsAt s c) img was num pro ask kp kk kf so sz el im pl ra re rm rf sd th ++ B)) rfl ?_
    have hns := mp_roofsAt_sky (c := c) hs ⟨by omega, by omega⟩
    refine mp_aload_n dX12_rowOfRoofs_49 rfl ?_
    refine mp_getfield dX12_rowOfRoofs_50 fsX12_13_11 (mp_lk hA 0 rfl) rfl ?_
    refine mp_invS (z := (mX12_takenOf, 5, 0, 0)) (K' := (0, 0)) (σ1 := A ++ (mp_ms s (sp_roofsAt s c) img was num pro ask kp kk kf so sz el im pl ra re rm rf sd th ++ B)) (as := [Value.ref 46]) (st := []) (st1 := [mp_i (sp_taken (sp_roofsAt s c))]) dX12_rowOfRoofs_53 ssX12_225 (zX12_takenOf (r := 46) (s := (sp_roofsAt s c)) (mp_lk hA 2 rfl) (by first | with_reducible assumption | omega)) ⟨Nat.le_of_ble_eq_true rfl, Nat.le_of_ble_eq_true rfl, Nat.le_of_ble_eq_true rfl, Nat.le_of_ble_eq_true rfl, Nat.le_of_ble_eq_true rfl⟩ rfl rfl rfl rfl ?_
    exact mp_ireturn (st := []) dX12_rowOfRoofs_56 rfl ⟨by decide, by decide⟩ ((by rw [if_pos (by omega), show sp_rowOfRoofs s c = sp_taken (sp_roofsAt s c) from if_neg (by omega)]))
  · refine mp_iconst dX12_rowOfRoofs_10 ?_
    exact mp_ireturn (st := []) dX12_rowOfRoofs_11 rfl ⟨by decide, by decide⟩ ((by rw [if_neg (by omega), show sp_rowOfRoofs s c = -1 from if_pos (by omega)]))
theorem lX12_heatAll_4 {s m img was num pro ask kp kk kf so sz el : Int → Int} {im pl ra re rm rf sd th : Int} {A B : mp_H}  (hA : A.length = 44) (hs : mp_sky s) {R9 : mp_An} : ∀ (n : Nat) (k : Int) (u : Int), ((0 ≤ k ∧ k + (n : Nat) = s 0)) → mp_At (mX12_heatAll, 3, 0, 0) (0, 0) 31 [some (Value.ref 44), some (mp_i (mp_fold (fun k v => v + sp_heat (s (1 + 6 * k + 0)) (s (1 + 6 * k + 1))) n k u)), none] [] (A ++ (mp_ms s m img was num pro ask kp kk kf so sz el im pl ra re rm rf sd th ++ B)) R9 → mp_At (mX12_heatAll, 3, 0, 0) (0, 0) 4 [some (Value.ref 44), some (mp_i u), some (mp_i k)] [] (A ++ (mp_ms s m img was num pro ask kp kk kf so sz el im pl ra re rm rf sd th ++ B)) R9 := by
  intro n
  induction n with
  | zero =>
    intro k u hi hk
    have h0 := hs.1
    refine mp_iload_n dX12_heatAll_4 rfl ?_
    refine mp_aload_n dX12_heatAll_5 rfl ?_
    refine mp_getfield dX12_heatAll_6 fsX12_9_11 (mp_lk hA 0 rfl) rfl ?_
    refine mp_iconst dX12_heatAll_9 ?_
    refine mp_iald dX12_heatAll_10 (mp_lk hA 1 rfl) ⟨by omega, by omega⟩ (by omega) ?_
    refine mp_icmp_ge (tgt := 31) dX12_heatAll_11 rfl ⟨by omega, by omega⟩ ⟨by omega, by omega⟩ (fun h1 => ?_) (fun h1 => ?_)
    · refine mp_drop (L' := [some (Value.ref 44), some (mp_i u), none]) [true, true, false] rfl ?_
      exact hk
    · exfalso; omega
  | succ n ih =>
    intro k u hi hk
    have h0 := hs.1
    have hm := hs.2.1 k (by omega) (by omega)
    refine mp_iload_n dX12_heatAll_4 rfl ?_
    refine mp_aload_n dX12_heatAll_5 rfl ?_
    refine mp_getfield dX12_heatAll_6 fsX12_9_11 (mp_lk hA 0 rfl) rfl ?_
    refine mp_iconst dX12_heatAll_9 ?_
    refine mp_iald dX12_heatAll_10 (mp_lk hA 1 rfl) ⟨by omega, by omega⟩ (by omega) ?_
    refine mp_icmp_ge (tgt := 31) dX12_heatAll_11 rfl ⟨by omega, by omega⟩ ⟨by omega, by omega⟩ (fun h1 => ?_) (fun h1 => ?_)
    · exfalso; omega
    · refine mp_iload_n dX12_heatAll_14 rfl ?_
      refine mp_aload_n dX12_heatAll_15 rfl ?_
      refine mp_getfield dX12_heatAll_16 fsX12_9_11 (mp_lk hA 0 rfl) rfl ?_
      refine mp_iload_n dX12_heatAll_19 rfl ?_
      refine mp_invS (z := (mX12_heatOf, 2, 0, 0)) (K' := (0, 0)) (σ1 := A ++ (mp_ms s m img was num pro ask kp kk kf so sz el im pl ra re rm rf sd th ++ B)) (as := [Value.ref 45, mp_i k]) (st := [mp_i u]) (st1 := [mp_i (sp_heat (s (1 + 6 * k + 0)) (s (1 + 6 * k + 1))), mp_i u]) dX12_heatAll_20 ssX12_164 (zX12_heatOf (r := 45) (k := k) (s := s) (mp_lk hA 1 rfl) (by first | with_reducible assumption | omega) (by first | with_reducible assumption | omega)) ⟨Nat.le_of_ble_eq_true rfl, Nat.le_of_ble_eq_true rfl, Nat.le_of_ble_eq_true rfl, Nat.le_of_ble_eq_true rfl, Nat.le_of_ble_eq_true rfl⟩ rfl rfl rfl rfl ?_
      refine mp_iadd (z := u + (sp_heat (s (1 + 6 * k + 0)) (s (1 + 6 * k + 1)))) dX12_heatAll_23 (by first | rfl | omega) ?_
      refine mp_istore_n (L' := [some (Value.ref 44), some (mp_i (u + (sp_heat (s (1 + 6 * k + 0)) (s (1 + 6 * k + 1))))), some (mp_i k)]) dX12_heatAll_24 rfl (by decide) rfl ?_
      refine mp_iinc (z := k + 1) (L' := [some (Value.ref 44), some (mp_i (u + (sp_heat (s (1 + 6 * k + 0)) (s (1 + 6 * k + 1))))), some (mp_i (k + 1))]) dX12_heatAll_25 rfl (rfl) (by decide) rfl ?_
      refine mp_goto (tgt := 4) dX12_heatAll_28 rfl ?_
      refine mp_loc (j := 1) (y := u + sp_heat (s (1 + 6 * k + 0)) (s (1 + 6 * k + 1))) (by with_reducible rfl) rfl (L' := [some (Value.ref 44), some (mp_i (u + sp_heat (s (1 + 6 * k + 0)) (s (1 + 6 * k + 1)))), some (mp_i (k + 1))]) rfl ?_
      exact ih (k + 1) (u + sp_heat (s (1 + 6 * k + 0)) (s (1 + 6 * k + 1))) (by omega) hk
theorem zX12_heatAll {s m img was num pro ask kp kk kf so sz el : Int → Int} {im pl ra re rm rf sd th : Int} {A B : mp_H}  (hA : A.length = 44) (hs : mp_sky s) : mp_Call (mX12_heatAll, 3, 0, 0) [Value.ref 44] (A ++ (mp_ms s m img was num pro ask kp kk kf so sz el im pl ra re rm rf sd th ++ B)) (some (mp_i (sp_heatAll s)), A ++ (mp_ms s m img was num pro ask kp kk kf so sz el im pl ra re rm rf sd th ++ B)) := by
  refine mp_Call.of (L := [some (Value.ref 44), none, none]) pnX12 (Nat.le_of_ble_eq_true rfl) rfl ?_
  have h0 := hs.1
  refine mp_iconst dX12_heatAll_0 ?_
  refine mp_istore_n (L' := [some (Value.ref 44), some (mp_i 0), none]) dX12_heatAll_1 rfl (by decide) rfl ?_
  refine mp_iconst dX12_heatAll_2 ?_
  refine mp_istore_n (L' := [some (Value.ref 44), some (mp_i 0), some (mp_i 0)]) dX12_heatAll_3 rfl (by decide) rfl ?_
  refine lX12_heatAll_4  (by first | with_reducible assumption | omega) (by first | with_reducible assumption | omega) ((s 0).toNat) 0 0 (by omega) ?_
  refine mp_iload_n dX12_heatAll_31 rfl ?_
  exact mp_ireturn (st := []) dX12_heatAll_32 rfl ⟨by decide, by decide⟩ ((mp_ans (by first | with_reducible rfl | omega | rfl)))
theorem zX12_scorched {s m img was num pro ask kp kk kf so sz el : Int → Int} {im pl ra re rm rf sd th : Int} {A B : mp_H}  {l : Int} (hA : A.length = 44) (hs : mp_sky s) (h_l : mp_w l) : mp_Call (mX12_scorched, 3, 0, 0) [Value.ref 44, mp_i l] (A ++ (mp_ms s m img was num pro ask kp kk kf so sz el im pl ra re rm rf sd th ++ B)) (some (mp_i (sp_scorched s l)), A ++ (mp_ms s m img was num pro ask kp kk kf so sz el im pl ra re rm rf sd th ++ B)) := by
  refine mp_Call.of (L := [some (Value.ref 44), some (mp_i l), none]) pnX12 (Nat.le_of_ble_eq_true rfl) rfl ?_
  have h0 := hs.1
  refine mp_iload_n dX12_scorched_0 rfl ?_
  refine mp_invS (z := (mX12_isLooker, 1, 0, 0)) (K' := (0, 0)) (σ1 := A ++ (mp_ms s m img was num pro ask kp kk kf so sz el im pl ra re rm rf sd th ++ B)) (as := [mp_i l]) (st := []) (st1 := [mp_i (if 0 ≤ l ∧ l ≤ 4 then 1 else 0)]) dX12_scorched_1 ssX12_128 (zX12_isLooker (l := l)  (by first | with_reducible assumption | omega)) ⟨Nat.le_of_ble_eq_true rfl, Nat.le_of_ble_eq_true rfl, Nat.le_of_ble_eq_true rfl, Nat.le_of_ble_eq_true rfl, Nat.le_of_ble_eq_true rfl⟩ rfl rfl rfl rfl ?_
  refine mp_ifb_ne (tgt := 9) dX12_scorched_4 rfl (fun h1 => ?_) (fun h1 => ?_)
  · have hb9 := hs.2.2.1 l (by omega) (by omega)
    refine mp_aload_n dX12_scorched_9 rfl ?_
    refine mp_getfield dX12_scorched_10 fsX12_9_11 (mp_lk hA 0 rfl) rfl ?_
    refine mp_iload_n dX12_scorched_13 rfl ?_
    refine mp_iconst dX12_scorched_14 ?_
    refine mp_invS (z := (mX12_by, 0, 0, 0)) (K' := (0, 0)) (σ1 := A ++ (mp_ms s m img was num pro ask kp kk kf so sz el im pl ra re rm rf sd th ++ B)) (as := [mp_i l, mp_i 2]) (st := [Value.ref 45]) (st1 := [mp_i (49 + 3 * l + 2), Value.ref 45]) dX12_scorched_15 ssX12_49 (zX12_by (l := l) (x := 2)  ) ⟨Nat.le_of_ble_eq_true rfl, Nat.le_of_ble_eq_true rfl, Nat.le_of_ble_eq_true rfl, Nat.le_of_ble_eq_true rfl, Nat.le_of_ble_eq_true rfl⟩ rfl rfl rfl rfl ?_
    refine mp_iald dX12_scorched_18 (mp_lk hA 1 rfl) ⟨by omega, by omega⟩ (by omega) ?_
    refine mp_istore_n (L' := [some (Value.ref 44), some (mp_i l), some (mp_i (s (49 + 3 * l + 2)))]) dX12_scorched_19 rfl (by decide) rfl ?_
    refine mp_iload_n dX12_scorched_20 rfl ?_
    refine mp_bipush dX12_scorched_21 rfl ?_
    refine mp_icmp_ne (tgt := 30) dX12_scorched_23 rfl ⟨by omega, by omega⟩ ⟨by omega, by omega⟩ (fun h2 => ?_) (fun h2 => ?_)
    · have hm := hs.2.1 (s (49 + 3 * l + 2)) (by omega) (by omega)
      have hht := mp_heat_bd (kind := s (1 + 6 * s (49 + 3 * l + 2) + 0)) (f := s (1 + 6 * s (49 + 3 * l + 2) + 1)) (by omega)
      refine mp_iconst dX12_scorched_30 ?_
      refine mp_aload_n dX12_scorched_31 rfl ?_
      refine mp_getfield dX12_scorched_32 fsX12_9_11 (mp_lk hA 0 rfl) rfl ?_
      refine mp_iload_n dX12_scorched_35 rfl ?_
      refine mp_invS (z := (mX12_heatOf, 2, 0, 0)) (K' := (0, 0)) (σ1 := A ++ (mp_ms s m img was num pro ask kp kk kf so sz el im pl ra re rm rf sd th ++ B)) (as := [Value.ref 45, mp_i (s (49 + 3 * l + 2))]) (st := [mp_i 0]) (st1 := [mp_i (sp_heat (s (1 + 6 * (s (49 + 3 * l + 2)) + 0)) (s (1 + 6 * (s (49 + 3 * l + 2)) + 1))), mp_i 0]) dX12_scorched_36 ssX12_164 (zX12_heatOf (r := 45) (k := (s (49 + 3 * l + 2))) (s := s) (mp_lk hA 1 rfl) (by first | with_reducible assumption | omega) (by first | with_reducible assumption | omega)) ⟨Nat.le_of_ble_eq_true rfl, Nat.le_of_ble_eq_true rfl, Nat.le_of_ble_eq_true rfl, Nat.le_of_ble_eq_true rfl, Nat.le_of_ble_eq_true rfl⟩ rfl rfl rfl rfl ?_
      refine mp_aload_n dX12_scorched_39 rfl ?_
      refine mp_getfield dX12_scorched_40 fsX12_9_11 (mp_lk hA 0 rfl) rfl ?_
      refine mp_iload_n dX12_scorched_43 rfl ?_
      refine mp_iconst dX12_scorched_44 ?_
      refine mp_invS (z := (mX12_by, 0, 0, 0)) (K' := (0, 0)) (σ1 := A ++ (mp_ms s m img was num pro ask kp kk kf so sz el im pl ra re rm rf sd th ++ B)) (as := [mp_i l, mp_i 1]) (st := [Value.ref 45, mp_i (sp_heat (s (1 + 6 * (s (49 + 3 * l + 2)) + 0)) (s (1 + 6 * (s (49 + 3 * l + 2)) + 1))), mp_i 0]) (st1 := [mp_i (49 + 3 * l + 1), Value.ref 45, mp_i (sp_heat (s (1 + 6 * (s (49 + 3 * l + 2)) + 0)) (s (1 + 6 * (s (49 + 3 * l + 2)) + 1))), mp_i 0]) dX12_scorched_45 ssX12_49 (zX12_by (l := l) (x := 1)  ) ⟨Nat.le_of_ble_eq_true rfl, Nat.le_of_ble_eq_true rfl, Nat.le_of_ble_eq_true rfl, Nat.le_of_ble_eq_true rfl, Nat.le_of_ble_eq_true rfl⟩ rfl rfl rfl rfl ?_
      refine mp_iald dX12_scorched_48 (mp_lk hA 1 rfl) ⟨by omega, by omega⟩ (by omega) ?_
      refine mp_isub (z := (sp_heat (s (1 + 6 * (s (49 + 3 * l + 2)) + 0)) (s (1 + 6 * (s (49 + 3 * l + 2)) + 1))) - (s (49 + 3 * l + 1))) dX12_scorched_49 (by first | rfl | omega) ?_
      refine mp_invS (z := (mX12_most, 0, 0, 0)) (K' := (0, 0)) (σ1 := A ++ (mp_ms s m img was num pro ask kp kk kf so sz el im pl ra re rm rf sd th ++ B)) (as := [mp_i 0, mp_i ((sp_heat (s (1 + 6 * (s (49 + 3 * l + 2)) + 0)) (s (1 + 6 * (s (49 + 3 * l + 2)) + 1))) - (s (49 + 3 * l + 1)))]) (st := []) (st1 := [mp_i (if ((sp_heat (s (1 + 6 * (s (49 + 3 * l + 2)) + 0)) (s (1 + 6 * (s (49 + 3 * l + 2)) + 1))) - (s (49 + 3 * l + 1))) < 0 then 0 else ((sp_heat (s (1 + 6 * (s (49 + 3 * l + 2)) + 0)) (s (1 + 6 * (s (49 + 3 * l + 2)) + 1))) - (s (49 + 3 * l + 1))))]) dX12_scorched_50 ssX12_57 (zX12_most (a := 0) (b := ((sp_heat (s (1 + 6 * (s (49 + 3 * l + 2)) + 0)) (s (1 + 6 * (s (49 + 3 * l + 2)) + 1))) - (s (49 + 3 * l + 1))))  (by first | with_reducible assumption | omega) (by first | with_reducible assumption | omega)) ⟨Nat.le_of_ble_eq_true rfl, Nat.le_of_ble_eq_true rfl, Nat.le_of_ble_eq_true rfl, Nat.le_of_ble_eq_true rfl, Nat.le_of_ble_eq_true rfl⟩ rfl rfl rfl rfl ?_
      exact mp_ireturn (st := []) dX12_scorched_53 rfl ⟨by decide, by decide⟩ ((mp_ans (by first | with_reducible rfl | (unfold sp_scorched; omega) | (unfold sp_scorched; first | (rw [if_pos (by omega)]; done) | (rw [if_neg (by omega)]; done) | (rw [if_neg (by omega), if_pos (by omega)]; done) | (rw [if_neg (by omega), if_neg (by omega)]; done) | (rw [if_neg (by omega), if_neg (by omega), if_pos (by omega)]; done) | (rw [if_neg (by omega), if_neg (by omega), if_neg (by omega)]; done) | (rw [if_neg (by omega), if_neg (by omega), if_neg (by omega), if_pos (by omega)]; done) | (rw [if_neg (by omega), if_neg (by omega), if_neg (by omega), if_neg (by omega)]; done) | (rw [if_neg (by omega), if_neg (by omega), if_neg (by omega), if_neg (by omega), if_pos (by omega)]; done) | (rw [if_neg (by omega), if_neg (by omega), if_neg (by omega), if_neg (by omega), if_neg (by omega)]; done)))))
    · refine mp_iconst dX12_scorched_26 ?_
      refine mp_goto (tgt := 53) dX12_scorched_27 rfl ?_
      exact mp_ireturn (st := []) dX12_scorched_53 rfl ⟨by decide, by decide⟩ ((mp_ans (by first | with_reducible rfl | (unfold sp_scorched; omega) | (unfold sp_scorched; first | (rw [if_pos (by omega)]; done) | (rw [if_neg (by omega)]; done) | (rw [if_neg (by omega), if_pos (by omega)]; done) | (rw [if_neg (by omega), if_neg (by omega)]; done) | (rw [if_neg (by omega), if_neg (by omega), if_pos (by omega)]; done) | (rw [if_neg (by omega), if_neg (by omega), if_neg (by omega)]; done) | (rw [if_neg (by omega), if_neg (by omega), if_neg (by omega), if_pos (by omega)]; done) | (rw [if_neg (by omega), if_neg (by omega), if_neg (by omega), if_neg (by omega)]; done) | (rw [if_neg (by omega), if_neg (by omega), if_neg (by omega), if_neg (by omega), if_pos (by omega)]; done) | (rw [if_neg (by omega), if_neg (by omega), if_neg (by omega), if_neg (by omega), if_neg (by omega)]; done)))))
  · refine mp_iconst dX12_scorched_7 ?_
    exact mp_ireturn (st := []) dX12_scorched_8 rfl ⟨by decide, by decide⟩ ((mp_ans (by first | with_reducible rfl | (unfold sp_scorched; omega) | (unfold sp_scorched; first | (rw [if_pos (by omega)]; done) | (rw [if_neg (by omega)]; done) | (rw [if_neg (by omega), if_pos (by omega)]; done) | (rw [if_neg (by omega), if_neg (by omega)]; done) | (rw [if_neg (by omega), if_neg (by omega), if_pos (by omega)]; done) | (rw [if_neg (by omega), if_neg (by omega), if_neg (by omega)]; done) | (rw [if_neg (by omega), if_neg (by omega), if_neg (by omega), if_pos (by omega)]; done) | (rw [if_neg (by omega), if_neg (by omega), if_neg (by omega), if_neg (by omega)]; done) | (rw [if_neg (by omega), if_neg (by omega), if_neg (by omega), if_neg (by omega), if_pos (by omega)]; done) | (rw [if_neg (by omega), if_neg (by omega), if_neg (by omega), if_neg (by omega), if_neg (by omega)]; done)))))
theorem zX12_isThere {s m img was num pro ask kp kk kf so sz el : Int → Int} {im pl ra re rm rf sd th : Int} {A B : mp_H}  {k : Int} {t : Int} (hA : A.length = 44) (hs : mp_sky s) (h_k : 0 ≤ k ∧ k < s 0) (h_t : 0 ≤ t ∧ t ≤ 1000) : mp_Call (mX12_isThere, 1, 0, 0) [Value.ref 44, mp_i k, mp_i t] (A ++ (mp_ms s m img was num pro ask kp kk kf so sz el im pl ra re rm rf sd th ++ B)) (some (mp_i (if sp_thereP s k t then 1 else 0)), A ++ (mp_ms s m img was num pro ask kp kk kf so sz el im pl ra re rm rf sd th ++ B)) := by
  refine mp_Call.of (L := [some (Value.ref 44), some (mp_i k), some (mp_i t), none]) pnX12 (Nat.le_of_ble_eq_true rfl) rfl ?_
  have h0 := hs.1
  have hm := hs.2.1 k (by omega) (by omega)
  have hp := mp_period_bd (kind := s (1 + 6 * k + 0)) (f := s (1 + 6 * k + 1)) (by omega)
  have hmd := mp_mod_bd (a := t - s (1 + 6 * k + 4)) hp
  refine mp_iload_n dX12_isThere_0 rfl ?_
  refine mp_aload_n dX12_isThere_1 rfl ?_
  refine mp_getfield dX12_isThere_2 fsX12_9_11 (mp_lk hA 0 rfl) rfl ?_
  refine mp_iload_n dX12_isThere_5 rfl ?_
  refine mp_iconst dX12_isThere_6 ?_
  refine mp_invS (z := (mX12_of, 0, 0, 0)) (K' := (0, 0)) (σ1 := A ++ (mp_ms s m img was num pro ask kp kk kf so sz el im pl ra re rm rf sd th ++ B)) (as := [mp_i k, mp_i 4]) (st := [Value.ref 45, mp_i t]) (st1 := [mp_i (1 + 6 * k + 4), Value.ref 45, mp_i t]) dX12_isThere_7 ssX12_60 (zX12_of (k := k) (x := 4)  ) ⟨Nat.le_of_ble_eq_true rfl, Nat.le_of_ble_eq_true rfl, Nat.le_of_ble_eq_true rfl, Nat.le_of_ble_eq_true rfl, Nat.le_of_ble_eq_true rfl⟩ rfl rfl rfl rfl ?_
  refine mp_iald dX12_isThere_10 (mp_lk hA 1 rfl) ⟨by omega, by omega⟩ (by omega) ?_
  refine mp_isub (z := t - (s (1 + 6 * k + 4))) dX12_isThere_11 (by first | rfl | omega) ?_
  refine mp_istore_n (L' := [some (Value.ref 44), some (mp_i k), some (mp_i t), some (mp_i (t - (s (1 + 6 * k + 4))))]) dX12_isThere_12 rfl (by decide) rfl ?_
  refine mp_iload_n dX12_isThere_13 rfl ?_
  refine mp_if_lt (tgt := 49) dX12_isThere_14 rfl ⟨by omega, by omega⟩ (fun h1 => ?_) (fun h1 => ?_)
  · refine mp_iconst dX12_isThere_49 ?_
    exact mp_zreturn (st := []) dX12_isThere_50 rfl rfl ⟨by decide, by decide⟩ ((mp_ans (by first | exact if_pos ⟨by omega, by omega⟩ | exact if_neg (fun h => by have h1 := h.1; have h2 := h.2; omega))))
  · refine mp_iload_n dX12_isThere_17 rfl ?_
    refine mp_aload_n dX12_isThere_18 rfl ?_
    refine mp_getfield dX12_isThere_19 fsX12_9_11 (mp_lk hA 0 rfl) rfl ?_
    refine mp_iload_n dX12_isThere_22 rfl ?_
    refine mp_iconst dX12_isThere_23 ?_
    refine mp_invS (z := (mX12_of, 0, 0, 0)) (K' := (0, 0)) (σ1 := A ++ (mp_ms s m img was num pro ask kp kk kf so sz el im pl ra re rm rf sd th ++ B)) (as := [mp_i k, mp_i 0]) (st := [Value.ref 45, mp_i (t - (s (1 + 6 * k + 4)))]) (st1 := [mp_i (1 + 6 * k + 0), Value.ref 45, mp_i (t - (s (1 + 6 * k + 4)))]) dX12_isThere_24 ssX12_60 (zX12_of (k := k) (x := 0)  ) ⟨Nat.le_of_ble_eq_true rfl, Nat.le_of_ble_eq_true rfl, Nat.le_of_ble_eq_true rfl, Nat.le_of_ble_eq_true rfl, Nat.le_of_ble_eq_true rfl⟩ rfl rfl rfl rfl ?_
    refine mp_iald dX12_isThere_27 (mp_lk hA 1 rfl) ⟨by omega, by omega⟩ (by omega) ?_
    refine mp_aload_n dX12_isThere_28 rfl ?_
    refine mp_getfield dX12_isThere_29 fsX12_9_11 (mp_lk hA 0 rfl) rfl ?_
    refine mp_iload_n dX12_isThere_32 rfl ?_
    refine mp_iconst dX12_isThere_33 ?_
    refine mp_invS (z := (mX12_of, 0, 0, 0)) (K' := (0, 0)) (σ1 := A ++ (mp_ms s m img was num pro ask kp kk kf so sz el im pl ra re rm rf sd th ++ B)) (as := [mp_i k, mp_i 1]) (st := [Value.ref 45, mp_i (s (1 + 6 * k + 0)), mp_i (t - (s (1 + 6 * k + 4)))]) (st1 := [mp_i (1 + 6 * k + 1), Value.ref 45, mp_i (s (1 + 6 * k + 0)), mp_i (t - (s (1 + 6 * k + 4)))]) dX12_isThere_34 ssX12_60 (zX12_of (k := k) (x := 1)  ) ⟨Nat.le_of_ble_eq_true rfl, Nat.le_of_ble_eq_true rfl, Nat.le_of_ble_eq_true rfl, Nat.le_of_ble_eq_true rfl, Nat.le_of_ble_eq_true rfl⟩ rfl rfl rfl rfl ?_
    refine mp_iald dX12_isThere_37 (mp_lk hA 1 rfl) ⟨by omega, by omega⟩ (by omega) ?_
    refine mp_invS (z := (mX12_period, 0, 0, 0)) (K' := (0, 0)) (σ1 := A ++ (mp_ms s m img was num pro ask kp kk kf so sz el im pl ra re rm rf sd th ++ B)) (as := [mp_i (s (1 + 6 * k + 0)), mp_i (s (1 + 6 * k + 1))]) (st := [mp_i (t - (s (1 + 6 * k + 4)))]) (st1 := [mp_i (sp_period (s (1 + 6 * k + 0)) (s (1 + 6 * k + 1))), mp_i (t - (s (1 + 6 * k + 4)))]) dX12_isThere_38 ssX12_161 (zX12_period (k := (s (1 + 6 * k + 0))) (f := (s (1 + 6 * k + 1)))  (by first | with_reducible assumption | omega) (by first | with_reducible assumption | omega)) ⟨Nat.le_of_ble_eq_true rfl, Nat.le_of_ble_eq_true rfl, Nat.le_of_ble_eq_true rfl, Nat.le_of_ble_eq_true rfl, Nat.le_of_ble_eq_true rfl⟩ rfl rfl rfl rfl ?_
    refine mp_irem (z := (t - (s (1 + 6 * k + 4))) % (sp_period (s (1 + 6 * k + 0)) (s (1 + 6 * k + 1)))) dX12_isThere_41 ⟨by omega, by omega⟩ ⟨by omega, by omega⟩ rfl ?_
    refine mp_if_ne (tgt := 49) dX12_isThere_42 rfl ⟨by omega, by omega⟩ (fun h2 => ?_) (fun h2 => ?_)
    · refine mp_iconst dX12_isThere_49 ?_
      exact mp_zreturn (st := []) dX12_isThere_50 rfl rfl ⟨by decide, by decide⟩ ((mp_ans (by first | exact if_pos ⟨by omega, by omega⟩ | exact if_neg (fun h => by have h1 := h.1; have h2 := h.2; omega))))
    · refine mp_iconst dX12_isThere_45 ?_
      refine mp_goto (tgt := 50) dX12_isThere_46 rfl ?_
      exact mp_zreturn (st := []) dX12_isThere_50 rfl rfl ⟨by decide, by decide⟩ ((mp_ans (by first | exact if_pos ⟨by omega, by omega⟩ | exact if_neg (fun h => by have h1 := h.1; have h2 := h.2; omega))))
theorem lX12_comes_23 {s m img was num pro ask kp kk kf so sz el : Int → Int} {im pl ra re rm rf sd th : Int} {A B : mp_H}  {k : Int} {v : Int} (hA : A.length = 44) (hs : mp_sky s) (h_k : mp_w k) (h_v : mp_w v) {R9 : mp_An} : ∀ (n : Nat) (t : Int), ((0 ≤ t ∧ t + (n : Nat) = 366) ∧ 0 ≤ k ∧ k < s 0) → R9 = (some (mp_i (sp_comesN s k n t)), A ++ (mp_ms s m img was num pro ask kp kk kf so sz el im pl ra re rm rf sd th ++ B)) → mp_At (mX12_comes, 2, 0, 0) (0, 0) 23 [some (Value.ref 44), some (mp_i k), none, some (mp_i t)] [] (A ++ (mp_ms s m img was num pro ask kp kk kf so sz el im pl ra re rm rf sd th ++ B)) R9 := by
  intro n
  induction n with
  | zero =>
    intro t hi hR
    refine mp_iload_n dX12_comes_23 rfl ?_
    refine mp_sipush dX12_comes_24 rfl ?_
    refine mp_icmp_gt (tgt := 47) dX12_comes_27 rfl ⟨by omega, by omega⟩ ⟨by omega, by omega⟩ (fun h1 => ?_) (fun h1 => ?_)
    · refine mp_bipush dX12_comes_47 rfl ?_
      exact mp_ireturn (st := []) dX12_comes_49 rfl ⟨by decide, by decide⟩ (hR.trans (mp_ans (by first | with_reducible rfl | exact if_pos (by assumption) | rfl)))
    · exfalso; omega
  | succ n ih =>
    intro t hi hR
    refine mp_iload_n dX12_comes_23 rfl ?_
    refine mp_sipush dX12_comes_24 rfl ?_
    refine mp_icmp_gt (tgt := 47) dX12_comes_27 rfl ⟨by omega, by omega⟩ ⟨by omega, by omega⟩ (fun h1 => ?_) (fun h1 => ?_)
    · exfalso; omega
    · refine mp_aload_n dX12_comes_30 rfl ?_
      refine mp_iload_n dX12_comes_31 rfl ?_
      refine mp_iload_n dX12_comes_32 rfl ?_
      refine mp_invV (z := (mX12_isThere, 1, 0, 0)) (K' := (0, 0)) (σ1 := A ++ (mp_ms s m img was num pro ask kp kk kf so sz el im pl ra re rm rf sd th ++ B)) (as := [mp_i k, mp_i t]) (st := []) (st1 := [mp_i (if sp_thereP s k t then 1 else 0)]) dX12_comes_33 svX12_211 (mp_lk hA 0 rfl) rfl rfl (zX12_isThere (k := k) (t := t) (s := s) (m := m) (img := img) (was := was) (num := num) (pro := pro) (ask := ask) (kp := kp) (kk := kk) (kf := kf) (so := so) (sz := sz) (el := el) (im := im) (pl := pl) (ra := ra) (re := re) (rm := rm) (rf := rf) (sd := sd) (th := th) (by first | with_reducible assumption | omega) (by first | with_reducible assumption | omega) (by first | with_reducible assumption | omega) (by first | with_reducible assumption | omega)) ⟨Nat.le_of_ble_eq_true rfl, Nat.le_of_ble_eq_true rfl, Nat.le_of_ble_eq_true rfl, Nat.le_of_ble_eq_true rfl, Nat.le_of_ble_eq_true rfl⟩ rfl rfl rfl rfl ?_
      refine mp_ifb_eq (tgt := 41) dX12_comes_36 rfl (fun h2 => ?_) (fun h2 => ?_)
      · refine mp_iinc (z := t + 1) (L' := [some (Value.ref 44), some (mp_i k), none, some (mp_i (t + 1))]) dX12_comes_41 rfl (rfl) (by decide) rfl ?_
        refine mp_goto (tgt := 23) dX12_comes_44 rfl ?_
        exact ih (t + 1) (by omega) (hR.trans (by refine mp_ans ?_; exact if_neg (by assumption)))
      · refine mp_iload_n dX12_comes_39 rfl ?_
        exact mp_ireturn (st := []) dX12_comes_40 rfl ⟨by decide, by decide⟩ (hR.trans (mp_ans (by first | with_reducible rfl | exact if_pos (by assumption) | rfl)))
theorem zX12_comes {s m img was num pro ask kp kk kf so sz el : Int → Int} {im pl ra re rm rf sd th : Int} {A B : mp_H}  {k : Int} {v : Int} (hA : A.length = 44) (hs : mp_sky s) (h_k : mp_w k) (h_v : mp_w v) : mp_Call (mX12_comes, 2, 0, 0) [Value.ref 44, mp_i k, mp_i v] (A ++ (mp_ms s m img was num pro ask kp kk kf so sz el im pl ra re rm rf sd th ++ B)) (some (mp_i (sp_comes s k v)), A ++ (mp_ms s m img was num pro ask kp kk kf so sz el im pl ra re rm rf sd th ++ B)) := by
  refine mp_Call.of (L := [some (Value.ref 44), some (mp_i k), some (mp_i v), none]) pnX12 (Nat.le_of_ble_eq_true rfl) rfl ?_
  have h0 := hs.1
  refine mp_aload_n dX12_comes_0 rfl ?_
  refine mp_iload_n dX12_comes_1 rfl ?_
  refine mp_invV (z := (mX12_isMeteor, 1, 0, 0)) (K' := (0, 0)) (σ1 := A ++ (mp_ms s m img was num pro ask kp kk kf so sz el im pl ra re rm rf sd th ++ B)) (as := [mp_i k]) (st := []) (st1 := [mp_i (if 0 ≤ k ∧ k ≤ s 0 - 1 then 1 else 0)]) dX12_comes_2 svX12_158 (mp_lk hA 0 rfl) rfl rfl (zX12_isMeteor (k := k) (s := s) (m := m) (img := img) (was := was) (num := num) (pro := pro) (ask := ask) (kp := kp) (kk := kk) (kf := kf) (so := so) (sz := sz) (el := el) (im := im) (pl := pl) (ra := ra) (re := re) (rm := rm) (rf := rf) (sd := sd) (th := th) (by first | with_reducible assumption | omega) (by first | with_reducible assumption | omega) (by first | with_reducible assumption | omega)) ⟨Nat.le_of_ble_eq_true rfl, Nat.le_of_ble_eq_true rfl, Nat.le_of_ble_eq_true rfl, Nat.le_of_ble_eq_true rfl, Nat.le_of_ble_eq_true rfl⟩ rfl rfl rfl rfl ?_
  refine mp_ifb_eq (tgt := 19) dX12_comes_5 rfl (fun h1 => ?_) (fun h1 => ?_)
  · refine mp_iconst dX12_comes_19 ?_
    exact mp_ireturn (st := []) dX12_comes_20 rfl ⟨by decide, by decide⟩ ((mp_ans (by first | with_reducible rfl | (unfold sp_comes; omega) | (unfold sp_comes; first | (rw [if_pos (by omega)]; done) | (rw [if_neg (by omega)]; done) | (rw [if_neg (by omega), if_pos (by omega)]; done) | (rw [if_neg (by omega), if_neg (by omega)]; done) | (rw [if_neg (by omega), if_neg (by omega), if_pos (by omega)]; done) | (rw [if_neg (by omega), if_neg (by omega), if_neg (by omega)]; done) | (rw [if_neg (by omega), if_neg (by omega), if_neg (by omega), if_pos (by omega)]; done) | (rw [if_neg (by omega), if_neg (by omega), if_neg (by omega), if_neg (by omega)]; done) | (rw [if_neg (by omega), if_neg (by omega), if_neg (by omega), if_neg (by omega), if_pos (by omega)]; done) | (rw [if_neg (by omega), if_neg (by omega), if_neg (by omega), if_neg (by omega), if_neg (by omega)]; done)))))
  · refine mp_iload_n dX12_comes_8 rfl ?_
    refine mp_iconst dX12_comes_9 ?_
    refine mp_sipush dX12_comes_10 rfl ?_
    refine mp_invS (z := (mX12_isIn, 0, 0, 0)) (K' := (0, 0)) (σ1 := A ++ (mp_ms s m img was num pro ask kp kk kf so sz el im pl ra re rm rf sd th ++ B)) (as := [mp_i v, mp_i 0, mp_i 365]) (st := []) (st1 := [mp_i (if 0 ≤ v ∧ v ≤ 365 then 1 else 0)]) dX12_comes_13 ssX12_53 (zX12_isIn (v := v) (a := 0) (b := 365)  (by first | with_reducible assumption | omega) (by first | with_reducible assumption | omega) (by first | with_reducible assumption | omega)) ⟨Nat.le_of_ble_eq_true rfl, Nat.le_of_ble_eq_true rfl, Nat.le_of_ble_eq_true rfl, Nat.le_of_ble_eq_true rfl, Nat.le_of_ble_eq_true rfl⟩ rfl rfl rfl rfl ?_
    refine mp_ifb_ne (tgt := 21) dX12_comes_16 rfl (fun h2 => ?_) (fun h2 => ?_)
    · refine mp_iload_n dX12_comes_21 rfl ?_
      refine mp_istore_n (L' := [some (Value.ref 44), some (mp_i k), some (mp_i v), some (mp_i v)]) dX12_comes_22 rfl (by decide) rfl ?_
      refine mp_drop (L' := [some (Value.ref 44), some (mp_i k), none, some (mp_i v)]) [true, true, false, true] rfl ?_
      exact lX12_comes_23  (by first | with_reducible assumption | omega) (by first | with_reducible assumption | omega) (by first | with_reducible assumption | omega) (by first | with_reducible assumption | omega) ((366 - v).toNat) v (by omega) (by rw [show sp_comes s k v = sp_comesN s k (366 - v).toNat v from if_neg (by omega)])
    · refine mp_iconst dX12_comes_19 ?_
      exact mp_ireturn (st := []) dX12_comes_20 rfl ⟨by decide, by decide⟩ ((mp_ans (by first | with_reducible rfl | (unfold sp_comes; omega) | (unfold sp_comes; first | (rw [if_pos (by omega)]; done) | (rw [if_neg (by omega)]; done) | (rw [if_neg (by omega), if_pos (by omega)]; done) | (rw [if_neg (by omega), if_neg (by omega)]; done) | (rw [if_neg (by omega), if_neg (by omega), if_pos (by omega)]; done) | (rw [if_neg (by omega), if_neg (by omega), if_neg (by omega)]; done) | (rw [if_neg (by omega), if_neg (by omega), if_neg (by omega), if_pos (by omega)]; done) | (rw [if_neg (by omega), if_neg (by omega), if_neg (by omega), if_neg (by omega)]; done) | (rw [if_neg (by omega), if_neg (by omega), if_neg (by omega), if_neg (by omega), if_pos (by omega)]; done) | (rw [if_neg (by omega), if_neg (by omega), if_neg (by omega), if_neg (by omega), if_neg (by omega)]; done)))))
theorem lX12_together_25 {s m img was num pro ask kp kk kf so sz el : Int → Int} {im pl ra re rm rf sd th : Int} {A B : mp_H}  {k : Int} {o : Int} (hA : A.length = 44) (hs : mp_sky s) (h_k : mp_w k) (h_o : mp_w o) {R9 : mp_An} : ∀ (n : Nat) (t : Int), ((0 ≤ t ∧ t + (n : Nat) = 366) ∧ (0 ≤ k ∧ k < s 0) ∧ (0 ≤ o ∧ o < s 0)) → R9 = (some (mp_i (sp_togetherN s k o n t)), A ++ (mp_ms s m img was num pro ask kp kk kf so sz el im pl ra re rm rf sd th ++ B)) → mp_At (mX12_together, 2, 0, 0) (0, 0) 25 [some (Value.ref 44), some (mp_i k), some (mp_i o), some (mp_i t)] [] (A ++ (mp_ms s m img was num pro ask kp kk kf so sz el im pl ra re rm rf sd th ++ B)) R9 := by
  intro n
  induction n with
  | zero =>
    intro t hi hR
    refine mp_iload_n dX12_together_25 rfl ?_
    refine mp_sipush dX12_together_26 rfl ?_
    refine mp_icmp_gt (tgt := 58) dX12_together_29 rfl ⟨by omega, by omega⟩ ⟨by omega, by omega⟩ (fun h1 => ?_) (fun h1 => ?_)
    · refine mp_bipush dX12_together_58 rfl ?_
      exact mp_ireturn (st := []) dX12_together_60 rfl ⟨by decide, by decide⟩ (hR.trans (mp_ans (by first | with_reducible rfl | exact if_pos ⟨by assumption, by assumption⟩ | rfl)))
    · exfalso; omega
  | succ n ih =>
    intro t hi hR
    refine mp_iload_n dX12_together_25 rfl ?_
    refine mp_sipush dX12_together_26 rfl ?_
    refine mp_icmp_gt (tgt := 58) dX12_together_29 rfl ⟨by omega, by omega⟩ ⟨by omega, by omega⟩ (fun h1 => ?_) (fun h1 => ?_)
    · exfalso; omega
    · refine mp_aload_n dX12_together_32 rfl ?_
      refine mp_iload_n dX12_together_33 rfl ?_
      refine mp_iload_n dX12_together_34 rfl ?_
      refine mp_invV (z := (mX12_isThere, 1, 0, 0)) (K' := (0, 0)) (σ1 := A ++ (mp_ms s m img was num pro ask kp kk kf so sz el im pl ra re rm rf sd th ++ B)) (as := [mp_i k, mp_i t]) (st := []) (st1 := [mp_i (if sp_thereP s k t then 1 else 0)]) dX12_together_35 svX12_211 (mp_lk hA 0 rfl) rfl rfl (zX12_isThere (k := k) (t := t) (s := s) (m := m) (img := img) (was := was) (num := num) (pro := pro) (ask := ask) (kp := kp) (kk := kk) (kf := kf) (so := so) (sz := sz) (el := el) (im := im) (pl := pl) (ra := ra) (re := re) (rm := rm) (rf := rf) (sd := sd) (th := th) (by first | with_reducible assumption | omega) (by first | with_reducible assumption | omega) (by first | with_reducible assumption | omega) (by first | with_reducible assumption | omega)) ⟨Nat.le_of_ble_eq_true rfl, Nat.le_of_ble_eq_true rfl, Nat.le_of_ble_eq_true rfl, Nat.le_of_ble_eq_true rfl, Nat.le_of_ble_eq_true rfl⟩ rfl rfl rfl rfl ?_
      refine mp_ifb_eq (tgt := 52) dX12_together_38 rfl (fun h2 => ?_) (fun h2 => ?_)
      · refine mp_iinc (z := t + 1) (L' := [some (Value.ref 44), some (mp_i k), some (mp_i o), some (mp_i (t + 1))]) dX12_together_52 rfl (rfl) (by decide) rfl ?_
        refine mp_goto (tgt := 25) dX12_together_55 rfl ?_
        exact ih (t + 1) (by omega) (hR.trans (by refine mp_ans ?_; first | exact if_neg (fun q => by first | exact absurd q.1 (by assumption) | exact absurd q.2 (by assumption))))
      · refine mp_aload_n dX12_together_41 rfl ?_
        refine mp_iload_n dX12_together_42 rfl ?_
        refine mp_iload_n dX12_together_43 rfl ?_
        refine mp_invV (z := (mX12_isThere, 1, 0, 0)) (K' := (0, 0)) (σ1 := A ++ (mp_ms s m img was num pro ask kp kk kf so sz el im pl ra re rm rf sd th ++ B)) (as := [mp_i o, mp_i t]) (st := []) (st1 := [mp_i (if sp_thereP s o t then 1 else 0)]) dX12_together_44 svX12_211 (mp_lk hA 0 rfl) rfl rfl (zX12_isThere (k := o) (t := t) (s := s) (m := m) (img := img) (was := was) (num := num) (pro := pro) (ask := ask) (kp := kp) (kk := kk) (kf := kf) (so := so) (sz := sz) (el := el) (im := im) (pl := pl) (ra := ra) (re := re) (rm := rm) (rf := rf) (sd := sd) (th := th) (by first | with_reducible assumption | omega) (by first | with_reducible assumption | omega) (by first | with_reducible assumption | omega) (by first | with_reducible assumption | omega)) ⟨Nat.le_of_ble_eq_true rfl, Nat.le_of_ble_eq_true rfl, Nat.le_of_ble_eq_true rfl, Nat.le_of_ble_eq_true rfl, Nat.le_of_ble_eq_true rfl⟩ rfl rfl rfl rfl ?_
        refine mp_ifb_eq (tgt := 52) dX12_together_47 rfl (fun h3 => ?_) (fun h3 => ?_)
        · refine mp_iinc (z := t + 1) (L' := [some (Value.ref 44), some (mp_i k), some (mp_i o), some (mp_i (t + 1))]) dX12_together_52 rfl (rfl) (by decide) rfl ?_
          refine mp_goto (tgt := 25) dX12_together_55 rfl ?_
          exact ih (t + 1) (by omega) (hR.trans (by refine mp_ans ?_; first | exact if_neg (fun q => by first | exact absurd q.1 (by assumption) | exact absurd q.2 (by assumption))))
        · refine mp_iload_n dX12_together_50 rfl ?_
          exact mp_ireturn (st := []) dX12_together_51 rfl ⟨by decide, by decide⟩ (hR.trans (mp_ans (by first | with_reducible rfl | exact if_pos ⟨by assumption, by assumption⟩ | rfl)))
theorem zX12_together {s m img was num pro ask kp kk kf so sz el : Int → Int} {im pl ra re rm rf sd th : Int} {A B : mp_H}  {k : Int} {o : Int} (hA : A.length = 44) (hs : mp_sky s) (h_k : mp_w k) (h_o : mp_w o) : mp_Call (mX12_together, 2, 0, 0) [Value.ref 44, mp_i k, mp_i o] (A ++ (mp_ms s m img was num pro ask kp kk kf so sz el im pl ra re rm rf sd th ++ B)) (some (mp_i (sp_together s k o)), A ++ (mp_ms s m img was num pro ask kp kk kf so sz el im pl ra re rm rf sd th ++ B)) := by
  refine mp_Call.of (L := [some (Value.ref 44), some (mp_i k), some (mp_i o), none]) pnX12 (Nat.le_of_ble_eq_true rfl) rfl ?_
  have h0 := hs.1
  refine mp_aload_n dX12_together_0 rfl ?_
  refine mp_iload_n dX12_together_1 rfl ?_
  refine mp_invV (z := (mX12_isMeteor, 1, 0, 0)) (K' := (0, 0)) (σ1 := A ++ (mp_ms s m img was num pro ask kp kk kf so sz el im pl ra re rm rf sd th ++ B)) (as := [mp_i k]) (st := []) (st1 := [mp_i (if 0 ≤ k ∧ k ≤ s 0 - 1 then 1 else 0)]) dX12_together_2 svX12_158 (mp_lk hA 0 rfl) rfl rfl (zX12_isMeteor (k := k) (s := s) (m := m) (img := img) (was := was) (num := num) (pro := pro) (ask := ask) (kp := kp) (kk := kk) (kf := kf) (so := so) (sz := sz) (el := el) (im := im) (pl := pl) (ra := ra) (re := re) (rm := rm) (rf := rf) (sd := sd) (th := th) (by first | with_reducible assumption | omega) (by first | with_reducible assumption | omega) (by first | with_reducible assumption | omega)) ⟨Nat.le_of_ble_eq_true rfl, Nat.le_of_ble_eq_true rfl, Nat.le_of_ble_eq_true rfl, Nat.le_of_ble_eq_true rfl, Nat.le_of_ble_eq_true rfl⟩ rfl rfl rfl rfl ?_
  refine mp_ifb_eq (tgt := 21) dX12_together_5 rfl (fun h1 => ?_) (fun h1 => ?_)
  · refine mp_iconst dX12_together_21 ?_
    exact mp_ireturn (st := []) dX12_together_22 rfl ⟨by decide, by decide⟩ ((mp_ans (by first | with_reducible rfl | (unfold sp_together; omega) | (unfold sp_together; first | (rw [if_pos (by omega)]; done) | (rw [if_neg (by omega)]; done) | (rw [if_neg (by omega), if_pos (by omega)]; done) | (rw [if_neg (by omega), if_neg (by omega)]; done) | (rw [if_neg (by omega), if_neg (by omega), if_pos (by omega)]; done) | (rw [if_neg (by omega), if_neg (by omega), if_neg (by omega)]; done) | (rw [if_neg (by omega), if_neg (by omega), if_neg (by omega), if_pos (by omega)]; done) | (rw [if_neg (by omega), if_neg (by omega), if_neg (by omega), if_neg (by omega)]; done) | (rw [if_neg (by omega), if_neg (by omega), if_neg (by omega), if_neg (by omega), if_pos (by omega)]; done) | (rw [if_neg (by omega), if_neg (by omega), if_neg (by omega), if_neg (by omega), if_neg (by omega)]; done)))))
  · refine mp_aload_n dX12_together_8 rfl ?_
    refine mp_iload_n dX12_together_9 rfl ?_
    refine mp_invV (z := (mX12_isMeteor, 1, 0, 0)) (K' := (0, 0)) (σ1 := A ++ (mp_ms s m img was num pro ask kp kk kf so sz el im pl ra re rm rf sd th ++ B)) (as := [mp_i o]) (st := []) (st1 := [mp_i (if 0 ≤ o ∧ o ≤ s 0 - 1 then 1 else 0)]) dX12_together_10 svX12_158 (mp_lk hA 0 rfl) rfl rfl (zX12_isMeteor (k := o) (s := s) (m := m) (img := img) (was := was) (num := num) (pro := pro) (ask := ask) (kp := kp) (kk := kk) (kf := kf) (so := so) (sz := sz) (el := el) (im := im) (pl := pl) (ra := ra) (re := re) (rm := rm) (rf := rf) (sd := sd) (th := th) (by first | with_reducible assumption | omega) (by first | with_reducible assumption | omega) (by first | with_reducible assumption | omega)) ⟨Nat.le_of_ble_eq_true rfl, Nat.le_of_ble_eq_true rfl, Nat.le_of_ble_eq_true rfl, Nat.le_of_ble_eq_true rfl, Nat.le_of_ble_eq_true rfl⟩ rfl rfl rfl rfl ?_
    refine mp_ifb_eq (tgt := 21) dX12_together_13 rfl (fun h2 => ?_) (fun h2 => ?_)
    · refine mp_iconst dX12_together_21 ?_
      exact mp_ireturn (st := []) dX12_together_22 rfl ⟨by decide, by decide⟩ ((mp_ans (by first | with_reducible rfl | (unfold sp_together; omega) | (unfold sp_together; first | (rw [if_pos (by omega)]; done) | (rw [if_neg (by omega)]; done) | (rw [if_neg (by omega), if_pos (by omega)]; done) | (rw [if_neg (by omega), if_neg (by omega)]; done) | (rw [if_neg (by omega), if_neg (by omega), if_pos (by omega)]; done) | (rw [if_neg (by omega), if_neg (by omega), if_neg (by omega)]; done) | (rw [if_neg (by omega), if_neg (by omega), if_neg (by omega), if_pos (by omega)]; done) | (rw [if_neg (by omega), if_neg (by omega), if_neg (by omega), if_neg (by omega)]; done) | (rw [if_neg (by omega), if_neg (by omega), if_neg (by omega), if_neg (by omega), if_pos (by omega)]; done) | (rw [if_neg (by omega), if_neg (by omega), if_neg (by omega), if_neg (by omega), if_neg (by omega)]; done)))))
    · refine mp_iload_n dX12_together_16 rfl ?_
      refine mp_iload_n dX12_together_17 rfl ?_
      refine mp_icmp_ne (tgt := 23) dX12_together_18 rfl ⟨by omega, by omega⟩ ⟨by omega, by omega⟩ (fun h3 => ?_) (fun h3 => ?_)
      · refine mp_iconst dX12_together_23 ?_
        refine mp_istore_n (L' := [some (Value.ref 44), some (mp_i k), some (mp_i o), some (mp_i 0)]) dX12_together_24 rfl (by decide) rfl ?_
        exact lX12_together_25  (by first | with_reducible assumption | omega) (by first | with_reducible assumption | omega) (by first | with_reducible assumption | omega) (by first | with_reducible assumption | omega) 366 0 (by omega) (by rw [show sp_together s k o = sp_togetherN s k o 366 0 from if_neg (by omega)])
      · refine mp_iconst dX12_together_21 ?_
        exact mp_ireturn (st := []) dX12_together_22 rfl ⟨by decide, by decide⟩ ((mp_ans (by first | with_reducible rfl | (unfold sp_together; omega) | (unfold sp_together; first | (rw [if_pos (by omega)]; done) | (rw [if_neg (by omega)]; done) | (rw [if_neg (by omega), if_pos (by omega)]; done) | (rw [if_neg (by omega), if_neg (by omega)]; done) | (rw [if_neg (by omega), if_neg (by omega), if_pos (by omega)]; done) | (rw [if_neg (by omega), if_neg (by omega), if_neg (by omega)]; done) | (rw [if_neg (by omega), if_neg (by omega), if_neg (by omega), if_pos (by omega)]; done) | (rw [if_neg (by omega), if_neg (by omega), if_neg (by omega), if_neg (by omega)]; done) | (rw [if_neg (by omega), if_neg (by omega), if_neg (by omega), if_neg (by omega), if_pos (by omega)]; done) | (rw [if_neg (by omega), if_neg (by omega), if_neg (by omega), if_neg (by omega), if_neg (by omega)]; done)))))
theorem zX12_image {s m img was num pro ask kp kk kf so sz el : Int → Int} {im pl ra re rm rf sd th : Int} {A B : mp_H}  (hA : A.length = 44) (hs : mp_sky s) : mp_Call (mX12_image, 1, 0, 0) [Value.ref 44] (A ++ (mp_ms s m img was num pro ask kp kk kf so sz el im pl ra re rm rf sd th ++ B)) (some (mp_i (s 0)), A ++ (mp_ms s m s was num pro ask kp kk kf so sz el 1 pl ra re rm rf sd th ++ B)) := by
  refine mp_Call.of (L := [some (Value.ref 44)]) pnX12 (Nat.le_of_ble_eq_true rfl) rfl ?_
  have h0 := hs.1
  refine mp_aload_n dX12_image_0 rfl ?_
  refine mp_getfield dX12_image_1 fsX12_9_11 (mp_lk hA 0 rfl) rfl ?_
  refine mp_aload_n dX12_image_4 rfl ?_
  refine mp_getfield dX12_image_5 fsX12_16_11 (mp_lk hA 0 rfl) rfl ?_
  refine mp_invS (z := (mX12_copies, 0, 0, 0)) (K' := (0, 0)) (σ1 := A ++ (mp_ms s m s was num pro ask kp kk kf so sz el im pl ra re rm rf sd th ++ B)) (as := [Value.ref 45, Value.ref 47]) (st := []) (st1 := []) dX12_image_8 ssX12_151 (mp_Call.cast (zX12_copies (a := 45) (b := 47) (f := s) (g := img) (mp_lk hA 1 rfl) (mp_lk hA 3 rfl) (by first | with_reducible assumption | omega) (by first | with_reducible assumption | omega)) rfl (congrArg (Prod.mk _) (mp_sts (Ms' := mp_ms s m s was num pro ask kp kk kf so sz el im pl ra re rm rf sd th) hA 3 (Nat.le_of_ble_eq_true rfl) rfl))) ⟨Nat.le_of_ble_eq_true rfl, Nat.le_of_ble_eq_true rfl, Nat.le_of_ble_eq_true rfl, Nat.le_of_ble_eq_true rfl, Nat.le_of_ble_eq_true rfl⟩ rfl rfl rfl rfl ?_
  refine mp_aload_n dX12_image_11 rfl ?_
  refine mp_iconst dX12_image_12 ?_
  refine mp_putfield (σ' := A ++ (mp_ms s m s was num pro ask kp kk kf so sz el 1 pl ra re rm rf sd th ++ B)) dX12_image_13 fsX12_239_11 rfl (Or.inl rfl) (tyX12_ok 4 (by decide)) (fun _ => ⟨rfl, rfl⟩) (mp_lk hA 0 rfl) (by decide) (Nat.le_of_ble_eq_true rfl) (mp_sts (Ms' := mp_ms s m s was num pro ask kp kk kf so sz el 1 pl ra re rm rf sd th) hA 0 (Nat.le_of_ble_eq_true rfl) rfl) ?_
  refine mp_aload_n dX12_image_16 rfl ?_
  refine mp_getfield dX12_image_17 fsX12_9_11 (mp_lk hA 0 rfl) rfl ?_
  refine mp_iconst dX12_image_20 ?_
  refine mp_iald dX12_image_21 (mp_lk hA 1 rfl) ⟨by omega, by omega⟩ (by omega) ?_
  exact mp_ireturn (st := []) dX12_image_22 rfl ⟨by decide, by decide⟩ ((mp_ans (by first | with_reducible rfl | omega | rfl)))
theorem zX12_restore {s m img was num pro ask kp kk kf so sz el : Int → Int} {im pl ra re rm rf sd th : Int} {A B : mp_H}  (hA : A.length = 44) (hs : mp_sky s) (hmg : im = 0 ∨ mp_sky img) (h_im : im = 0 ∨ im = 1) : mp_Call (mX12_restore, 1, 0, 0) [Value.ref 44] (A ++ (mp_ms s m img was num pro ask kp kk kf so sz el im pl ra re rm rf sd th ++ B)) (some (mp_i ((sp_restore s img im).1)), A ++ (mp_ms ((sp_restore s img im).2) m img was num pro ask kp kk kf so sz el im pl ra re rm rf sd th ++ B)) := by
  refine mp_Call.of (L := [some (Value.ref 44)]) pnX12 (Nat.le_of_ble_eq_true rfl) rfl ?_
  have h0 := hs.1
  refine mp_aload_n dX12_restore_0 rfl ?_
  refine mp_getfield dX12_restore_1 fsX12_239_11 (mp_lk hA 0 rfl) rfl ?_
  refine mp_if_ne (tgt := 10) dX12_restore_4 rfl ⟨by omega, by omega⟩ (fun h1 => ?_) (fun h1 => ?_)
  · refine mp_aload_n dX12_restore_10 rfl ?_
    refine mp_getfield dX12_restore_11 fsX12_16_11 (mp_lk hA 0 rfl) rfl ?_
    refine mp_aload_n dX12_restore_14 rfl ?_
    refine mp_getfield dX12_restore_15 fsX12_9_11 (mp_lk hA 0 rfl) rfl ?_
    refine mp_invS (z := (mX12_copies, 0, 0, 0)) (K' := (0, 0)) (σ1 := A ++ (mp_ms img m img was num pro ask kp kk kf so sz el im pl ra re rm rf sd th ++ B)) (as := [Value.ref 47, Value.ref 45]) (st := []) (st1 := []) dX12_restore_18 ssX12_151 (mp_Call.cast (zX12_copies (a := 47) (b := 45) (f := img) (g := s) (mp_lk hA 3 rfl) (mp_lk hA 1 rfl) (by first | with_reducible assumption | omega) (by first | with_reducible assumption | omega)) rfl (congrArg (Prod.mk _) (mp_sts (Ms' := mp_ms img m img was num pro ask kp kk kf so sz el im pl ra re rm rf sd th) hA 1 (Nat.le_of_ble_eq_true rfl) rfl))) ⟨Nat.le_of_ble_eq_true rfl, Nat.le_of_ble_eq_true rfl, Nat.le_of_ble_eq_true rfl, Nat.le_of_ble_eq_true rfl, Nat.le_of_ble_eq_true rfl⟩ rfl rfl rfl rfl ?_
    refine mp_aload_n dX12_restore_21 rfl ?_
    refine mp_getfield dX12_restore_22 fsX12_9_11 (mp_lk hA 0 rfl) rfl ?_
    refine mp_iconst dX12_restore_25 ?_
    refine mp_iald dX12_restore_26 (mp_lk hA 1 rfl) ⟨by omega, by omega⟩ (by omega) ?_
    exact mp_ireturn (st := []) dX12_restore_27 rfl ⟨by decide, by decide⟩ ((by rw [show sp_restore s img im = (img 0, img) from by unfold sp_restore; first | (rw [if_pos (by omega)]; done) | (rw [if_neg (by omega)]; done) | (rw [if_neg (by omega), if_pos (by omega)]; done) | (rw [if_neg (by omega), if_neg (by omega)]; done) | (rw [if_neg (by omega), if_neg (by omega), if_pos (by omega)]; done) | (rw [if_neg (by omega), if_neg (by omega), if_neg (by omega)]; done) | (rw [if_neg (by omega), if_neg (by omega), if_neg (by omega), if_pos (by omega)]; done) | (rw [if_neg (by omega), if_neg (by omega), if_neg (by omega), if_neg (by omega)]; done) | (rw [if_neg (by omega), if_neg (by omega), if_neg (by omega), if_neg (by omega), if_pos (by omega)]; done) | (rw [if_neg (by omega), if_neg (by omega), if_neg (by omega), if_neg (by omega), if_neg (by omega)]; done)]))
  · refine mp_bipush dX12_restore_7 rfl ?_
    exact mp_ireturn (st := []) dX12_restore_9 rfl ⟨by decide, by decide⟩ ((by rw [show sp_restore s img im = (-3, s) from by unfold sp_restore; first | (rw [if_pos (by omega)]; done) | (rw [if_neg (by omega)]; done) | (rw [if_neg (by omega), if_pos (by omega)]; done) | (rw [if_neg (by omega), if_neg (by omega)]; done) | (rw [if_neg (by omega), if_neg (by omega), if_pos (by omega)]; done) | (rw [if_neg (by omega), if_neg (by omega), if_neg (by omega)]; done) | (rw [if_neg (by omega), if_neg (by omega), if_neg (by omega), if_pos (by omega)]; done) | (rw [if_neg (by omega), if_neg (by omega), if_neg (by omega), if_neg (by omega)]; done) | (rw [if_neg (by omega), if_neg (by omega), if_neg (by omega), if_neg (by omega), if_pos (by omega)]; done) | (rw [if_neg (by omega), if_neg (by omega), if_neg (by omega), if_neg (by omega), if_neg (by omega)]; done)]))
theorem zX12_thrown {s m img was num pro ask kp kk kf so sz el : Int → Int} {im pl ra re rm rf sd th : Int} {A B : mp_H}  (hA : A.length = 44) : mp_Call (mX12_thrown, 0, 0, 0) [Value.ref 44] (A ++ (mp_ms s m img was num pro ask kp kk kf so sz el im pl ra re rm rf sd th ++ B)) (some (mp_i th), A ++ (mp_ms s m img was num pro ask kp kk kf so sz el im pl ra re rm rf sd th ++ B)) := by
  refine mp_Call.of (L := [some (Value.ref 44)]) pnX12 (Nat.le_of_ble_eq_true rfl) rfl ?_
  refine mp_aload_n dX12_thrown_0 rfl ?_
  refine mp_getfield dX12_thrown_1 fsX12_243_11 (mp_lk hA 0 rfl) rfl ?_
  exact mp_ireturn (st := []) dX12_thrown_4 rfl ⟨by decide, by decide⟩ ((mp_ans (by first | with_reducible rfl | omega | rfl)))
theorem zX12_keep {s m img was num pro ask kp kk kf so sz el : Int → Int} {im pl ra re rm rf sd th : Int} {A B : mp_H}  {d : Int} {w : Int} {k : Int} {f : Int} (hA : A.length = 44) (h_d : mp_w d) (h_w : mp_w w) (h_k : mp_w k) (h_f : mp_w f) : mp_Call (mX12_keep, 2, 0, 0) [Value.ref 44, mp_i d, mp_i w, mp_i k, mp_i f] (A ++ (mp_ms s m img was num pro ask kp kk kf so sz el im pl ra re rm rf sd th ++ B)) (some (mp_i ((sp_keep kp kk kf d w k f).1)), A ++ (mp_ms s m img was num pro ask ((sp_keep kp kk kf d w k f).2.1) ((sp_keep kp kk kf d w k f).2.2.1) ((sp_keep kp kk kf d w k f).2.2.2) so sz el im pl ra re rm rf sd th ++ B)) := by
  refine mp_Call.of (L := [some (Value.ref 44), some (mp_i d), some (mp_i w), some (mp_i k), some (mp_i f)]) pnX12 (Nat.le_of_ble_eq_true rfl) rfl ?_
  refine mp_iload_n dX12_keep_0 rfl ?_
  refine mp_invS (z := (mX12_isShelf, 1, 0, 0)) (K' := (0, 0)) (σ1 := A ++ (mp_ms s m img was num pro ask kp kk kf so sz el im pl ra re rm rf sd th ++ B)) (as := [mp_i d]) (st := []) (st1 := [mp_i (if 0 ≤ d ∧ d ≤ 7 then 1 else 0)]) dX12_keep_1 ssX12_246 (zX12_isShelf (d := d)  (by first | with_reducible assumption | omega)) ⟨Nat.le_of_ble_eq_true rfl, Nat.le_of_ble_eq_true rfl, Nat.le_of_ble_eq_true rfl, Nat.le_of_ble_eq_true rfl, Nat.le_of_ble_eq_true rfl⟩ rfl rfl rfl rfl ?_
  refine mp_ifb_eq (tgt := 42) dX12_keep_4 rfl (fun h1 => ?_) (fun h1 => ?_)
  · refine mp_iconst dX12_keep_42 ?_
    exact mp_ireturn (st := []) dX12_keep_43 rfl ⟨by decide, by decide⟩ ((by rw [show sp_keep kp kk kf d w k f = (-1, kp, kk, kf) from by unfold sp_keep; first | (rw [if_pos (by omega)]; done) | (rw [if_neg (by omega)]; done) | (rw [if_neg (by omega), if_pos (by omega)]; done) | (rw [if_neg (by omega), if_neg (by omega)]; done) | (rw [if_neg (by omega), if_neg (by omega), if_pos (by omega)]; done) | (rw [if_neg (by omega), if_neg (by omega), if_neg (by omega)]; done) | (rw [if_neg (by omega), if_neg (by omega), if_neg (by omega), if_pos (by omega)]; done) | (rw [if_neg (by omega), if_neg (by omega), if_neg (by omega), if_neg (by omega)]; done) | (rw [if_neg (by omega), if_neg (by omega), if_neg (by omega), if_neg (by omega), if_pos (by omega)]; done) | (rw [if_neg (by omega), if_neg (by omega), if_neg (by omega), if_neg (by omega), if_neg (by omega)]; done)]))
  · refine mp_iload_n dX12_keep_7 rfl ?_
    refine mp_iconst dX12_keep_8 ?_
    refine mp_iconst dX12_keep_9 ?_
    refine mp_invS (z := (mX12_isIn, 0, 0, 0)) (K' := (0, 0)) (σ1 := A ++ (mp_ms s m img was num pro ask kp kk kf so sz el im pl ra re rm rf sd th ++ B)) (as := [mp_i w, mp_i 0, mp_i 1]) (st := []) (st1 := [mp_i (if 0 ≤ w ∧ w ≤ 1 then 1 else 0)]) dX12_keep_10 ssX12_53 (zX12_isIn (v := w) (a := 0) (b := 1)  (by first | with_reducible assumption | omega) (by first | with_reducible assumption | omega) (by first | with_reducible assumption | omega)) ⟨Nat.le_of_ble_eq_true rfl, Nat.le_of_ble_eq_true rfl, Nat.le_of_ble_eq_true rfl, Nat.le_of_ble_eq_true rfl, Nat.le_of_ble_eq_true rfl⟩ rfl rfl rfl rfl ?_
    refine mp_ifb_eq (tgt := 42) dX12_keep_13 rfl (fun h2 => ?_) (fun h2 => ?_)
    · refine mp_iconst dX12_keep_42 ?_
      exact mp_ireturn (st := []) dX12_keep_43 rfl ⟨by decide, by decide⟩ ((by rw [show sp_keep kp kk kf d w k f = (-1, kp, kk, kf) from by unfold sp_keep; first | (rw [if_pos (by omega)]; done) | (rw [if_neg (by omega)]; done) | (rw [if_neg (by omega), if_pos (by omega)]; done) | (rw [if_neg (by omega), if_neg (by omega)]; done) | (rw [if_neg (by omega), if_neg (by omega), if_pos (by omega)]; done) | (rw [if_neg (by omega), if_neg (by omega), if_neg (by omega)]; done) | (rw [if_neg (by omega), if_neg (by omega), if_neg (by omega), if_pos (by omega)]; done) | (rw [if_neg (by omega), if_neg (by omega), if_neg (by omega), if_neg (by omega)]; done) | (rw [if_neg (by omega), if_neg (by omega), if_neg (by omega), if_neg (by omega), if_pos (by omega)]; done) | (rw [if_neg (by omega), if_neg (by omega), if_neg (by omega), if_neg (by omega), if_neg (by omega)]; done)]))
    · refine mp_iload_n dX12_keep_16 rfl ?_
      refine mp_iconst dX12_keep_17 ?_
      refine mp_icmp_ne (tgt := 44) dX12_keep_18 rfl ⟨by omega, by omega⟩ ⟨by omega, by omega⟩ (fun h3 => ?_) (fun h3 => ?_)
      · refine mp_aload_n dX12_keep_44 rfl ?_
        refine mp_getfield dX12_keep_45 fsX12_31_11 (mp_lk hA 0 rfl) rfl ?_
        refine mp_iload_n dX12_keep_48 rfl ?_
        refine mp_iload_n dX12_keep_49 rfl ?_
        refine mp_iast (σ' := A ++ (mp_ms s m img was num pro ask (mp_ud kp d w) kk kf so sz el im pl ra re rm rf sd th ++ B)) dX12_keep_50 (mp_lk hA 8 rfl) (by decide) ⟨by omega, by omega⟩ (by decide) (mp_sts (Ms' := mp_ms s m img was num pro ask (mp_ud kp d w) kk kf so sz el im pl ra re rm rf sd th) hA 8 (Nat.le_of_ble_eq_true rfl) rfl) ?_
        refine mp_aload_n dX12_keep_51 rfl ?_
        refine mp_getfield dX12_keep_52 fsX12_34_11 (mp_lk hA 0 rfl) rfl ?_
        refine mp_iload_n dX12_keep_55 rfl ?_
        refine mp_iload_n dX12_keep_56 rfl ?_
        refine mp_iast (σ' := A ++ (mp_ms s m img was num pro ask (mp_ud kp d w) (mp_ud kk d k) kf so sz el im pl ra re rm rf sd th ++ B)) dX12_keep_57 (mp_lk hA 9 rfl) (by decide) ⟨by omega, by omega⟩ (by decide) (mp_sts (Ms' := mp_ms s m img was num pro ask (mp_ud kp d w) (mp_ud kk d k) kf so sz el im pl ra re rm rf sd th) hA 9 (Nat.le_of_ble_eq_true rfl) rfl) ?_
        refine mp_aload_n dX12_keep_58 rfl ?_
        refine mp_getfield dX12_keep_59 fsX12_37_11 (mp_lk hA 0 rfl) rfl ?_
        refine mp_iload_n dX12_keep_62 rfl ?_
        refine mp_iload dX12_keep_63 rfl ?_
        refine mp_iast (σ' := A ++ (mp_ms s m img was num pro ask (mp_ud kp d w) (mp_ud kk d k) (mp_ud kf d f) so sz el im pl ra re rm rf sd th ++ B)) dX12_keep_65 (mp_lk hA 10 rfl) (by decide) ⟨by omega, by omega⟩ (by decide) (mp_sts (Ms' := mp_ms s m img was num pro ask (mp_ud kp d w) (mp_ud kk d k) (mp_ud kf d f) so sz el im pl ra re rm rf sd th) hA 10 (Nat.le_of_ble_eq_true rfl) rfl) ?_
        refine mp_iconst dX12_keep_66 ?_
        exact mp_ireturn (st := []) dX12_keep_67 rfl ⟨by decide, by decide⟩ ((by rw [show sp_keep kp kk kf d w k f = (0, mp_ud kp d w, mp_ud kk d k, mp_ud kf d f) from by unfold sp_keep; first | (rw [if_pos (by omega)]; done) | (rw [if_neg (by omega)]; done) | (rw [if_neg (by omega), if_pos (by omega)]; done) | (rw [if_neg (by omega), if_neg (by omega)]; done) | (rw [if_neg (by omega), if_neg (by omega), if_pos (by omega)]; done) | (rw [if_neg (by omega), if_neg (by omega), if_neg (by omega)]; done) | (rw [if_neg (by omega), if_neg (by omega), if_neg (by omega), if_pos (by omega)]; done) | (rw [if_neg (by omega), if_neg (by omega), if_neg (by omega), if_neg (by omega)]; done) | (rw [if_neg (by omega), if_neg (by omega), if_neg (by omega), if_neg (by omega), if_pos (by omega)]; done) | (rw [if_neg (by omega), if_neg (by omega), if_neg (by omega), if_neg (by omega), if_neg (by omega)]; done)]))
      · refine mp_iload_n dX12_keep_21 rfl ?_
        refine mp_iconst dX12_keep_22 ?_
        refine mp_bipush dX12_keep_23 rfl ?_
        refine mp_invS (z := (mX12_isIn, 0, 0, 0)) (K' := (0, 0)) (σ1 := A ++ (mp_ms s m img was num pro ask kp kk kf so sz el im pl ra re rm rf sd th ++ B)) (as := [mp_i k, mp_i 0, mp_i 7]) (st := []) (st1 := [mp_i (if 0 ≤ k ∧ k ≤ 7 then 1 else 0)]) dX12_keep_25 ssX12_53 (zX12_isIn (v := k) (a := 0) (b := 7)  (by first | with_reducible assumption | omega) (by first | with_reducible assumption | omega) (by first | with_reducible assumption | omega)) ⟨Nat.le_of_ble_eq_true rfl, Nat.le_of_ble_eq_true rfl, Nat.le_of_ble_eq_true rfl, Nat.le_of_ble_eq_true rfl, Nat.le_of_ble_eq_true rfl⟩ rfl rfl rfl rfl ?_
        refine mp_ifb_eq (tgt := 42) dX12_keep_28 rfl (fun h4 => ?_) (fun h4 => ?_)
        · refine mp_iconst dX12_keep_42 ?_
          exact mp_ireturn (st := []) dX12_keep_43 rfl ⟨by decide, by decide⟩ ((by rw [show sp_keep kp kk kf d w k f = (-1, kp, kk, kf) from by unfold sp_keep; first | (rw [if_pos (by omega)]; done) | (rw [if_neg (by omega)]; done) | (rw [if_neg (by omega), if_pos (by omega)]; done) | (rw [if_neg (by omega), if_neg (by omega)]; done) | (rw [if_neg (by omega), if_neg (by omega), if_pos (by omega)]; done) | (rw [if_neg (by omega), if_neg (by omega), if_neg (by omega)]; done) | (rw [if_neg (by omega), if_neg (by omega), if_neg (by omega), if_pos (by omega)]; done) | (rw [if_neg (by omega), if_neg (by omega), if_neg (by omega), if_neg (by omega)]; done) | (rw [if_neg (by omega), if_neg (by omega), if_neg (by omega), if_neg (by omega), if_pos (by omega)]; done) | (rw [if_neg (by omega), if_neg (by omega), if_neg (by omega), if_neg (by omega), if_neg (by omega)]; done)]))
        · refine mp_iload dX12_keep_31 rfl ?_
          refine mp_iconst dX12_keep_33 ?_
          refine mp_bipush dX12_keep_34 rfl ?_
          refine mp_invS (z := (mX12_isIn, 0, 0, 0)) (K' := (0, 0)) (σ1 := A ++ (mp_ms s m img was num pro ask kp kk kf so sz el im pl ra re rm rf sd th ++ B)) (as := [mp_i f, mp_i 0, mp_i 9]) (st := []) (st1 := [mp_i (if 0 ≤ f ∧ f ≤ 9 then 1 else 0)]) dX12_keep_36 ssX12_53 (zX12_isIn (v := f) (a := 0) (b := 9)  (by first | with_reducible assumption | omega) (by first | with_reducible assumption | omega) (by first | with_reducible assumption | omega)) ⟨Nat.le_of_ble_eq_true rfl, Nat.le_of_ble_eq_true rfl, Nat.le_of_ble_eq_true rfl, Nat.le_of_ble_eq_true rfl, Nat.le_of_ble_eq_true rfl⟩ rfl rfl rfl rfl ?_
          refine mp_ifb_ne (tgt := 44) dX12_keep_39 rfl (fun h5 => ?_) (fun h5 => ?_)
          · refine mp_aload_n dX12_keep_44 rfl ?_
            refine mp_getfield dX12_keep_45 fsX12_31_11 (mp_lk hA 0 rfl) rfl ?_
            refine mp_iload_n dX12_keep_48 rfl ?_
            refine mp_iload_n dX12_keep_49 rfl ?_
            refine mp_iast (σ' := A ++ (mp_ms s m img was num pro ask (mp_ud kp d w) kk kf so sz el im pl ra re rm rf sd th ++ B)) dX12_keep_50 (mp_lk hA 8 rfl) (by decide) ⟨by omega, by omega⟩ (by decide) (mp_sts (Ms' := mp_ms s m img was num pro ask (mp_ud kp d w) kk kf so sz el im pl ra re rm rf sd th) hA 8 (Nat.le_of_ble_eq_true rfl) rfl) ?_
            refine mp_aload_n dX12_keep_51 rfl ?_
            refine mp_getfield dX12_keep_52 fsX12_34_11 (mp_lk hA 0 rfl) rfl ?_
            refine mp_iload_n dX12_keep_55 rfl ?_
            refine mp_iload_n dX12_keep_56 rfl ?_
            refine mp_iast (σ' := A ++ (mp_ms s m img was num pro ask (mp_ud kp d w) (mp_ud kk d k) kf so sz el im pl ra re rm rf sd th ++ B)) dX12_keep_57 (mp_lk hA 9 rfl) (by decide) ⟨by omega, by omega⟩ (by decide) (mp_sts (Ms' := mp_ms s m img was num pro ask (mp_ud kp d w) (mp_ud kk d k) kf so sz el im pl ra re rm rf sd th) hA 9 (Nat.le_of_ble_eq_true rfl) rfl) ?_
            refine mp_aload_n dX12_keep_58 rfl ?_
            refine mp_getfield dX12_keep_59 fsX12_37_11 (mp_lk hA 0 rfl) rfl ?_
            refine mp_iload_n dX12_keep_62 rfl ?_
            refine mp_iload dX12_keep_63 rfl ?_
            refine mp_iast (σ' := A ++ (mp_ms s m img was num pro ask (mp_ud kp d w) (mp_ud kk d k) (mp_ud kf d f) so sz el im pl ra re rm rf sd th ++ B)) dX12_keep_65 (mp_lk hA 10 rfl) (by decide) ⟨by omega, by omega⟩ (by decide) (mp_sts (Ms' := mp_ms s m img was num pro ask (mp_ud kp d w) (mp_ud kk d k) (mp_ud kf d f) so sz el im pl ra re rm rf sd th) hA 10 (Nat.le_of_ble_eq_true rfl) rfl) ?_
            refine mp_iconst dX12_keep_66 ?_
            exact mp_ireturn (st := []) dX12_keep_67 rfl ⟨by decide, by decide⟩ ((by rw [show sp_keep kp kk kf d w k f = (0, mp_ud kp d w, mp_ud kk d k, mp_ud kf d f) from by unfold sp_keep; first | (rw [if_pos (by omega)]; done) | (rw [if_neg (by omega)]; done) | (rw [if_neg (by omega), if_pos (by omega)]; done) | (rw [if_neg (by omega), if_neg (by omega)]; done) | (rw [if_neg (by omega), if_neg (by omega), if_pos (by omega)]; done) | (rw [if_neg (by omega), if_neg (by omega), if_neg (by omega)]; done) | (rw [if_neg (by omega), if_neg (by omega), if_neg (by omega), if_pos (by omega)]; done) | (rw [if_neg (by omega), if_neg (by omega), if_neg (by omega), if_neg (by omega)]; done) | (rw [if_neg (by omega), if_neg (by omega), if_neg (by omega), if_neg (by omega), if_pos (by omega)]; done) | (rw [if_neg (by omega), if_neg (by omega), if_neg (by omega), if_neg (by omega), if_neg (by omega)]; done)]))
          · refine mp_iconst dX12_keep_42 ?_
            exact mp_ireturn (st := []) dX12_keep_43 rfl ⟨by decide, by decide⟩ ((by rw [show sp_keep kp kk kf d w k f = (-1, kp, kk, kf) from by unfold sp_keep; first | (rw [if_pos (by omega)]; done) | (rw [if_neg (by omega)]; done) | (rw [if_neg (by omega), if_pos (by omega)]; done) | (rw [if_neg (by omega), if_neg (by omega)]; done) | (rw [if_neg (by omega), if_neg (by omega), if_pos (by omega)]; done) | (rw [if_neg (by omega), if_neg (by omega), if_neg (by omega)]; done) | (rw [if_neg (by omega), if_neg (by omega), if_neg (by omega), if_pos (by omega)]; done) | (rw [if_neg (by omega), if_neg (by omega), if_neg (by omega), if_neg (by omega)]; done) | (rw [if_neg (by omega), if_neg (by omega), if_neg (by omega), if_neg (by omega), if_pos (by omega)]; done) | (rw [if_neg (by omega), if_neg (by omega), if_neg (by omega), if_neg (by omega), if_neg (by omega)]; done)]))
theorem lX12_row_55 {s m img was num pro ask kp kk kf so sz el : Int → Int} {im pl ra re rm rf sd th : Int} {A B : mp_H}  {d : Int} {o : Int} {z : Int} (hA : A.length = 44) (h_d : mp_w d) (h_o : mp_w o) (h_z : mp_w z) {R9 : mp_An} : ∀ (n : Nat) (t : Int) (q : Int → Int), ((0 ≤ t ∧ t + (n : Nat) = 100) ∧ (0 ≤ d ∧ d ≤ 7)) → mp_At (mX12_row, 2, 0, 0) (0, 0) 81 [some (Value.ref 44), some (mp_i d), some (mp_i o), some (mp_i z), none] [] (A ++ (mp_ms s m img was num pro ask kp kk kf so sz (mp_fold (fun k q => mp_ud q (100 * d + k) 0) n t q) im pl ra re rm rf sd th ++ B)) R9 → mp_At (mX12_row, 2, 0, 0) (0, 0) 55 [some (Value.ref 44), some (mp_i d), some (mp_i o), some (mp_i z), some (mp_i t)] [] (A ++ (mp_ms s m img was num pro ask kp kk kf so sz q im pl ra re rm rf sd th ++ B)) R9 := by
  intro n
  induction n with
  | zero =>
    intro t q hi hk
    refine mp_iload dX12_row_55 rfl ?_
    refine mp_bipush dX12_row_57 rfl ?_
    refine mp_icmp_ge (tgt := 81) dX12_row_59 rfl ⟨by omega, by omega⟩ ⟨by omega, by omega⟩ (fun h1 => ?_) (fun h1 => ?_)
    · refine mp_drop (L' := [some (Value.ref 44), some (mp_i d), some (mp_i o), some (mp_i z), none]) [true, true, true, true, false] rfl ?_
      exact hk
    · exfalso; omega
  | succ n ih =>
    intro t q hi hk
    refine mp_iload dX12_row_55 rfl ?_
    refine mp_bipush dX12_row_57 rfl ?_
    refine mp_icmp_ge (tgt := 81) dX12_row_59 rfl ⟨by omega, by omega⟩ ⟨by omega, by omega⟩ (fun h1 => ?_) (fun h1 => ?_)
    · exfalso; omega
    · refine mp_aload_n dX12_row_62 rfl ?_
      refine mp_getfield dX12_row_63 fsX12_46_11 (mp_lk hA 0 rfl) rfl ?_
      refine mp_bipush dX12_row_66 rfl ?_
      refine mp_iload_n dX12_row_68 rfl ?_
      refine mp_imul (z := 100 * d) dX12_row_69 (by first | rfl | omega) ?_
      refine mp_iload dX12_row_70 rfl ?_
      refine mp_iadd (z := (100 * d) + t) dX12_row_72 (by first | rfl | omega) ?_
      refine mp_iconst dX12_row_73 ?_
      refine mp_iast (σ' := A ++ (mp_ms s m img was num pro ask kp kk kf so sz (mp_ud q ((100 * d) + t) 0) im pl ra re rm rf sd th ++ B)) dX12_row_74 (mp_lk hA 13 rfl) (by decide) ⟨by omega, by omega⟩ (by decide) (mp_sts (Ms' := mp_ms s m img was num pro ask kp kk kf so sz (mp_ud q ((100 * d) + t) 0) im pl ra re rm rf sd th) hA 13 (Nat.le_of_ble_eq_true rfl) rfl) ?_
      refine mp_iinc (z := t + 1) (L' := [some (Value.ref 44), some (mp_i d), some (mp_i o), some (mp_i z), some (mp_i (t + 1))]) dX12_row_75 rfl (rfl) (by decide) rfl ?_
      refine mp_goto (tgt := 55) dX12_row_78 rfl ?_
      exact ih (t + 1) (mp_ud q (100 * d + t) 0) (by omega) hk
theorem zX12_row {s m img was num pro ask kp kk kf so sz el : Int → Int} {im pl ra re rm rf sd th : Int} {A B : mp_H}  {d : Int} {o : Int} {z : Int} (hA : A.length = 44) (h_d : mp_w d) (h_o : mp_w o) (h_z : mp_w z) : mp_Call (mX12_row, 2, 0, 0) [Value.ref 44, mp_i d, mp_i o, mp_i z] (A ++ (mp_ms s m img was num pro ask kp kk kf so sz el im pl ra re rm rf sd th ++ B)) (some (mp_i ((sp_row kp so sz el d o z).1)), A ++ (mp_ms s m img was num pro ask ((sp_row kp so sz el d o z).2.1) kk kf ((sp_row kp so sz el d o z).2.2.1) ((sp_row kp so sz el d o z).2.2.2.1) ((sp_row kp so sz el d o z).2.2.2.2) im pl ra re rm rf sd th ++ B)) := by
  refine mp_Call.of (L := [some (Value.ref 44), some (mp_i d), some (mp_i o), some (mp_i z), none]) pnX12 (Nat.le_of_ble_eq_true rfl) rfl ?_
  refine mp_iload_n dX12_row_0 rfl ?_
  refine mp_invS (z := (mX12_isShelf, 1, 0, 0)) (K' := (0, 0)) (σ1 := A ++ (mp_ms s m img was num pro ask kp kk kf so sz el im pl ra re rm rf sd th ++ B)) (as := [mp_i d]) (st := []) (st1 := [mp_i (if 0 ≤ d ∧ d ≤ 7 then 1 else 0)]) dX12_row_1 ssX12_246 (zX12_isShelf (d := d)  (by first | with_reducible assumption | omega)) ⟨Nat.le_of_ble_eq_true rfl, Nat.le_of_ble_eq_true rfl, Nat.le_of_ble_eq_true rfl, Nat.le_of_ble_eq_true rfl, Nat.le_of_ble_eq_true rfl⟩ rfl rfl rfl rfl ?_
  refine mp_ifb_eq (tgt := 22) dX12_row_4 rfl (fun h1 => ?_) (fun h1 => ?_)
  · refine mp_iconst dX12_row_22 ?_
    exact mp_ireturn (st := []) dX12_row_23 rfl ⟨by decide, by decide⟩ ((by rw [show sp_row kp so sz el d o z = (-1, kp, so, sz, el) from by unfold sp_row; first | (rw [if_pos (by omega)]; done) | (rw [if_neg (by omega)]; done) | (rw [if_neg (by omega), if_pos (by omega)]; done) | (rw [if_neg (by omega), if_neg (by omega)]; done) | (rw [if_neg (by omega), if_neg (by omega), if_pos (by omega)]; done) | (rw [if_neg (by omega), if_neg (by omega), if_neg (by omega)]; done) | (rw [if_neg (by omega), if_neg (by omega), if_neg (by omega), if_pos (by omega)]; done) | (rw [if_neg (by omega), if_neg (by omega), if_neg (by omega), if_neg (by omega)]; done) | (rw [if_neg (by omega), if_neg (by omega), if_neg (by omega), if_neg (by omega), if_pos (by omega)]; done) | (rw [if_neg (by omega), if_neg (by omega), if_neg (by omega), if_neg (by omega), if_neg (by omega)]; done)]))
  · refine mp_iload_n dX12_row_7 rfl ?_
    refine mp_iconst dX12_row_8 ?_
    refine mp_iconst dX12_row_9 ?_
    refine mp_invS (z := (mX12_isIn, 0, 0, 0)) (K' := (0, 0)) (σ1 := A ++ (mp_ms s m img was num pro ask kp kk kf so sz el im pl ra re rm rf sd th ++ B)) (as := [mp_i o, mp_i 0, mp_i 2]) (st := []) (st1 := [mp_i (if 0 ≤ o ∧ o ≤ 2 then 1 else 0)]) dX12_row_10 ssX12_53 (zX12_isIn (v := o) (a := 0) (b := 2)  (by first | with_reducible assumption | omega) (by first | with_reducible assumption | omega) (by first | with_reducible assumption | omega)) ⟨Nat.le_of_ble_eq_true rfl, Nat.le_of_ble_eq_true rfl, Nat.le_of_ble_eq_true rfl, Nat.le_of_ble_eq_true rfl, Nat.le_of_ble_eq_true rfl⟩ rfl rfl rfl rfl ?_
    refine mp_ifb_eq (tgt := 22) dX12_row_13 rfl (fun h2 => ?_) (fun h2 => ?_)
    · refine mp_iconst dX12_row_22 ?_
      exact mp_ireturn (st := []) dX12_row_23 rfl ⟨by decide, by decide⟩ ((by rw [show sp_row kp so sz el d o z = (-1, kp, so, sz, el) from by unfold sp_row; first | (rw [if_pos (by omega)]; done) | (rw [if_neg (by omega)]; done) | (rw [if_neg (by omega), if_pos (by omega)]; done) | (rw [if_neg (by omega), if_neg (by omega)]; done) | (rw [if_neg (by omega), if_neg (by omega), if_pos (by omega)]; done) | (rw [if_neg (by omega), if_neg (by omega), if_neg (by omega)]; done) | (rw [if_neg (by omega), if_neg (by omega), if_neg (by omega), if_pos (by omega)]; done) | (rw [if_neg (by omega), if_neg (by omega), if_neg (by omega), if_neg (by omega)]; done) | (rw [if_neg (by omega), if_neg (by omega), if_neg (by omega), if_neg (by omega), if_pos (by omega)]; done) | (rw [if_neg (by omega), if_neg (by omega), if_neg (by omega), if_neg (by omega), if_neg (by omega)]; done)]))
    · refine mp_iload_n dX12_row_16 rfl ?_
      refine mp_bipush dX12_row_17 rfl ?_
      refine mp_icmp_le (tgt := 24) dX12_row_19 rfl ⟨by omega, by omega⟩ ⟨by omega, by omega⟩ (fun h3 => ?_) (fun h3 => ?_)
      · refine mp_iload_n dX12_row_24 rfl ?_
        refine mp_if_ge (tgt := 31) dX12_row_25 rfl ⟨by omega, by omega⟩ (fun h4 => ?_) (fun h4 => ?_)
        · refine mp_aload_n dX12_row_31 rfl ?_
          refine mp_getfield dX12_row_32 fsX12_31_11 (mp_lk hA 0 rfl) rfl ?_
          refine mp_iload_n dX12_row_35 rfl ?_
          refine mp_iconst dX12_row_36 ?_
          refine mp_iast (σ' := A ++ (mp_ms s m img was num pro ask (mp_ud kp d 2) kk kf so sz el im pl ra re rm rf sd th ++ B)) dX12_row_37 (mp_lk hA 8 rfl) (by decide) ⟨by omega, by omega⟩ (by decide) (mp_sts (Ms' := mp_ms s m img was num pro ask (mp_ud kp d 2) kk kf so sz el im pl ra re rm rf sd th) hA 8 (Nat.le_of_ble_eq_true rfl) rfl) ?_
          refine mp_aload_n dX12_row_38 rfl ?_
          refine mp_getfield dX12_row_39 fsX12_40_11 (mp_lk hA 0 rfl) rfl ?_
          refine mp_iload_n dX12_row_42 rfl ?_
          refine mp_iload_n dX12_row_43 rfl ?_
          refine mp_iast (σ' := A ++ (mp_ms s m img was num pro ask (mp_ud kp d 2) kk kf (mp_ud so d o) sz el im pl ra re rm rf sd th ++ B)) dX12_row_44 (mp_lk hA 11 rfl) (by decide) ⟨by omega, by omega⟩ (by decide) (mp_sts (Ms' := mp_ms s m img was num pro ask (mp_ud kp d 2) kk kf (mp_ud so d o) sz el im pl ra re rm rf sd th) hA 11 (Nat.le_of_ble_eq_true rfl) rfl) ?_
          refine mp_aload_n dX12_row_45 rfl ?_
          refine mp_getfield dX12_row_46 fsX12_43_11 (mp_lk hA 0 rfl) rfl ?_
          refine mp_iload_n dX12_row_49 rfl ?_
          refine mp_iload_n dX12_row_50 rfl ?_
          refine mp_iast (σ' := A ++ (mp_ms s m img was num pro ask (mp_ud kp d 2) kk kf (mp_ud so d o) (mp_ud sz d z) el im pl ra re rm rf sd th ++ B)) dX12_row_51 (mp_lk hA 12 rfl) (by decide) ⟨by omega, by omega⟩ (by decide) (mp_sts (Ms' := mp_ms s m img was num pro ask (mp_ud kp d 2) kk kf (mp_ud so d o) (mp_ud sz d z) el im pl ra re rm rf sd th) hA 12 (Nat.le_of_ble_eq_true rfl) rfl) ?_
          refine mp_iconst dX12_row_52 ?_
          refine mp_istore (L' := [some (Value.ref 44), some (mp_i d), some (mp_i o), some (mp_i z), some (mp_i 0)]) dX12_row_53 (by decide) rfl ?_
          refine lX12_row_55 (el := el) hA h_d h_o h_z 100 0 el ⟨by omega, by omega⟩ ?_
          refine mp_sg (σ' := A ++ (mp_ms s m img was num pro ask (mp_ud kp d 2) kk kf (mp_ud so d o) (mp_ud sz d z) (sp_zero el d) im pl ra re rm rf sd th ++ B)) rfl ?_
          refine mp_iconst dX12_row_81 ?_
          exact mp_ireturn (st := []) dX12_row_82 rfl ⟨by decide, by decide⟩ ((by rw [show sp_row kp so sz el d o z = (0, mp_ud kp d 2, mp_ud so d o, mp_ud sz d z, sp_zero el d) from by unfold sp_row; first | (rw [if_pos (by omega)]; done) | (rw [if_neg (by omega)]; done) | (rw [if_neg (by omega), if_pos (by omega)]; done) | (rw [if_neg (by omega), if_neg (by omega)]; done) | (rw [if_neg (by omega), if_neg (by omega), if_pos (by omega)]; done) | (rw [if_neg (by omega), if_neg (by omega), if_neg (by omega)]; done) | (rw [if_neg (by omega), if_neg (by omega), if_neg (by omega), if_pos (by omega)]; done) | (rw [if_neg (by omega), if_neg (by omega), if_neg (by omega), if_neg (by omega)]; done) | (rw [if_neg (by omega), if_neg (by omega), if_neg (by omega), if_neg (by omega), if_pos (by omega)]; done) | (rw [if_neg (by omega), if_neg (by omega), if_neg (by omega), if_neg (by omega), if_neg (by omega)]; done)]))
        · refine mp_bipush dX12_row_28 rfl ?_
          exact mp_ireturn (st := []) dX12_row_30 rfl ⟨by decide, by decide⟩ ((by rw [show sp_row kp so sz el d o z = (-14, kp, so, sz, el) from by unfold sp_row; first | (rw [if_pos (by omega)]; done) | (rw [if_neg (by omega)]; done) | (rw [if_neg (by omega), if_pos (by omega)]; done) | (rw [if_neg (by omega), if_neg (by omega)]; done) | (rw [if_neg (by omega), if_neg (by omega), if_pos (by omega)]; done) | (rw [if_neg (by omega), if_neg (by omega), if_neg (by omega)]; done) | (rw [if_neg (by omega), if_neg (by omega), if_neg (by omega), if_pos (by omega)]; done) | (rw [if_neg (by omega), if_neg (by omega), if_neg (by omega), if_neg (by omega)]; done) | (rw [if_neg (by omega), if_neg (by omega), if_neg (by omega), if_neg (by omega), if_pos (by omega)]; done) | (rw [if_neg (by omega), if_neg (by omega), if_neg (by omega), if_neg (by omega), if_neg (by omega)]; done)]))
      · refine mp_iconst dX12_row_22 ?_
        exact mp_ireturn (st := []) dX12_row_23 rfl ⟨by decide, by decide⟩ ((by rw [show sp_row kp so sz el d o z = (-1, kp, so, sz, el) from by unfold sp_row; first | (rw [if_pos (by omega)]; done) | (rw [if_neg (by omega)]; done) | (rw [if_neg (by omega), if_pos (by omega)]; done) | (rw [if_neg (by omega), if_neg (by omega)]; done) | (rw [if_neg (by omega), if_neg (by omega), if_pos (by omega)]; done) | (rw [if_neg (by omega), if_neg (by omega), if_neg (by omega)]; done) | (rw [if_neg (by omega), if_neg (by omega), if_neg (by omega), if_pos (by omega)]; done) | (rw [if_neg (by omega), if_neg (by omega), if_neg (by omega), if_neg (by omega)]; done) | (rw [if_neg (by omega), if_neg (by omega), if_neg (by omega), if_neg (by omega), if_pos (by omega)]; done) | (rw [if_neg (by omega), if_neg (by omega), if_neg (by omega), if_neg (by omega), if_neg (by omega)]; done)]))
theorem zX12_put {s m img was num pro ask kp kk kf so sz el : Int → Int} {im pl ra re rm rf sd th : Int} {A B : mp_H}  {d : Int} {i : Int} {v : Int} (hA : A.length = 44) (hh : ∀ d, 0 ≤ d → d ≤ 7 → mp_shf kp kk kf so sz d) (h_d : mp_w d) (h_i : mp_w i) (h_v : mp_w v) : mp_Call (mX12_put, 3, 0, 0) [Value.ref 44, mp_i d, mp_i i, mp_i v] (A ++ (mp_ms s m img was num pro ask kp kk kf so sz el im pl ra re rm rf sd th ++ B)) (some (mp_i ((sp_put kp so sz el d i v).1)), A ++ (mp_ms s m img was num pro ask kp kk kf so sz ((sp_put kp so sz el d i v).2) im pl ra re rm rf sd th ++ B)) := by
  refine mp_Call.of (L := [some (Value.ref 44), some (mp_i d), some (mp_i i), some (mp_i v), none]) pnX12 (Nat.le_of_ble_eq_true rfl) rfl ?_
  have hw9 : sp_wrongRow kp so d (-1) = if ¬ (0 ≤ d ∧ d ≤ 7) then -1 else if kp d = 0 then -11 else if kp d ≠ 2 ∨ (0 ≤ (-1 : Int) ∧ so d ≠ (-1)) then -12 else 0 := rfl
  refine mp_aload_n dX12_put_0 rfl ?_
  refine mp_iload_n dX12_put_1 rfl ?_
  refine mp_iconst dX12_put_2 ?_
  refine mp_invV (z := (mX12_wrongRow, 2, 0, 0)) (K' := (0, 0)) (σ1 := A ++ (mp_ms s m img was num pro ask kp kk kf so sz el im pl ra re rm rf sd th ++ B)) (as := [mp_i d, mp_i (-1)]) (st := []) (st1 := [mp_i (sp_wrongRow kp so d (-1))]) dX12_put_3 svX12_145 (mp_lk hA 0 rfl) rfl rfl (zX12_wrongRow (d := d) (o := (-1)) (s := s) (m := m) (img := img) (was := was) (num := num) (pro := pro) (ask := ask) (kp := kp) (kk := kk) (kf := kf) (so := so) (sz := sz) (el := el) (im := im) (pl := pl) (ra := ra) (re := re) (rm := rm) (rf := rf) (sd := sd) (th := th) (by first | with_reducible assumption | omega) (by first | with_reducible assumption | omega) (by first | with_reducible assumption | omega) (by first | with_reducible assumption | omega)) ⟨Nat.le_of_ble_eq_true rfl, Nat.le_of_ble_eq_true rfl, Nat.le_of_ble_eq_true rfl, Nat.le_of_ble_eq_true rfl, Nat.le_of_ble_eq_true rfl⟩ rfl rfl rfl rfl ?_
  refine mp_istore (L' := [some (Value.ref 44), some (mp_i d), some (mp_i i), some (mp_i v), some (mp_i (sp_wrongRow kp so d (-1)))]) dX12_put_6 (by decide) rfl ?_
  refine mp_iload dX12_put_8 rfl ?_
  refine mp_if_eq (tgt := 16) dX12_put_10 rfl ⟨by omega, by omega⟩ (fun h1 => ?_) (fun h1 => ?_)
  · have hb := hh d (by omega) (by omega)
    refine mp_iload_n dX12_put_16 rfl ?_
    refine mp_iconst dX12_put_17 ?_
    refine mp_aload_n dX12_put_18 rfl ?_
    refine mp_getfield dX12_put_19 fsX12_43_11 (mp_lk hA 0 rfl) rfl ?_
    refine mp_iload_n dX12_put_22 rfl ?_
    refine mp_iald dX12_put_23 (mp_lk hA 12 rfl) ⟨by omega, by omega⟩ (by omega) ?_
    refine mp_iconst dX12_put_24 ?_
    refine mp_isub (z := (sz d) - 1) dX12_put_25 (by first | rfl | omega) ?_
    refine mp_invS (z := (mX12_isIn, 0, 0, 0)) (K' := (0, 0)) (σ1 := A ++ (mp_ms s m img was num pro ask kp kk kf so sz el im pl ra re rm rf sd th ++ B)) (as := [mp_i i, mp_i 0, mp_i ((sz d) - 1)]) (st := []) (st1 := [mp_i (if 0 ≤ i ∧ i ≤ ((sz d) - 1) then 1 else 0)]) dX12_put_26 ssX12_53 (zX12_isIn (v := i) (a := 0) (b := ((sz d) - 1))  (by first | with_reducible assumption | omega) (by first | with_reducible assumption | omega) (by first | with_reducible assumption | omega)) ⟨Nat.le_of_ble_eq_true rfl, Nat.le_of_ble_eq_true rfl, Nat.le_of_ble_eq_true rfl, Nat.le_of_ble_eq_true rfl, Nat.le_of_ble_eq_true rfl⟩ rfl rfl rfl rfl ?_
    refine mp_ifb_ne (tgt := 35) dX12_put_29 rfl (fun h2 => ?_) (fun h2 => ?_)
    · refine mp_aload_n dX12_put_35 rfl ?_
      refine mp_getfield dX12_put_36 fsX12_46_11 (mp_lk hA 0 rfl) rfl ?_
      refine mp_bipush dX12_put_39 rfl ?_
      refine mp_iload_n dX12_put_41 rfl ?_
      refine mp_imul (z := 100 * d) dX12_put_42 (by first | rfl | omega) ?_
      refine mp_iload_n dX12_put_43 rfl ?_
      refine mp_iadd (z := (100 * d) + i) dX12_put_44 (by first | rfl | omega) ?_
      refine mp_aload_n dX12_put_45 rfl ?_
      refine mp_getfield dX12_put_46 fsX12_40_11 (mp_lk hA 0 rfl) rfl ?_
      refine mp_iload_n dX12_put_49 rfl ?_
      refine mp_iald dX12_put_50 (mp_lk hA 11 rfl) ⟨by omega, by omega⟩ (by omega) ?_
      refine mp_if_ne (tgt := 59) dX12_put_51 rfl ⟨by omega, by omega⟩ (fun h3 => ?_) (fun h3 => ?_)
      · refine mp_aload_n dX12_put_59 rfl ?_
        refine mp_getfield dX12_put_60 fsX12_40_11 (mp_lk hA 0 rfl) rfl ?_
        refine mp_iload_n dX12_put_63 rfl ?_
        refine mp_iald dX12_put_64 (mp_lk hA 11 rfl) ⟨by omega, by omega⟩ (by omega) ?_
        refine mp_iconst dX12_put_65 ?_
        refine mp_icmp_ne (tgt := 74) dX12_put_66 rfl ⟨by omega, by omega⟩ ⟨by omega, by omega⟩ (fun h4 => ?_) (fun h4 => ?_)
        · refine mp_iload_n dX12_put_74 rfl ?_
          refine mp_top (y := sp_low (so d) v) (by unfold sp_low; first | (rw [if_pos (by omega)]; done) | (rw [if_neg (by omega), if_pos (by omega)]; done) | (rw [if_neg (by omega), if_neg (by omega)]; done)) ?_
          refine mp_iast (σ' := A ++ (mp_ms s m img was num pro ask kp kk kf so sz (mp_ud el ((100 * d) + i) (sp_low (so d) v)) im pl ra re rm rf sd th ++ B)) dX12_put_75 (mp_lk hA 13 rfl) (by decide) ⟨by omega, by omega⟩ (by decide) (mp_sts (Ms' := mp_ms s m img was num pro ask kp kk kf so sz (mp_ud el ((100 * d) + i) (sp_low (so d) v)) im pl ra re rm rf sd th) hA 13 (Nat.le_of_ble_eq_true rfl) rfl) ?_
          refine mp_iconst dX12_put_76 ?_
          exact mp_ireturn (st := []) dX12_put_77 rfl ⟨by decide, by decide⟩ ((by rw [show sp_put kp so sz el d i v = (0, mp_ud el ((100 * d) + i) (sp_low (so d) v)) from by unfold sp_put; first | (rw [if_pos (by omega)]; done) | (rw [if_neg (by omega)]; done) | (rw [if_neg (by omega), if_pos (by omega)]; done) | (rw [if_neg (by omega), if_neg (by omega)]; done) | (rw [if_neg (by omega), if_neg (by omega), if_pos (by omega)]; done) | (rw [if_neg (by omega), if_neg (by omega), if_neg (by omega)]; done) | (rw [if_neg (by omega), if_neg (by omega), if_neg (by omega), if_pos (by omega)]; done) | (rw [if_neg (by omega), if_neg (by omega), if_neg (by omega), if_neg (by omega)]; done) | (rw [if_neg (by omega), if_neg (by omega), if_neg (by omega), if_neg (by omega), if_pos (by omega)]; done) | (rw [if_neg (by omega), if_neg (by omega), if_neg (by omega), if_neg (by omega), if_neg (by omega)]; done)]))
        · refine mp_iload_n dX12_put_69 rfl ?_
          refine mp_i2s (z := v.bmod 65536) dX12_put_70 (mp_z_b16 _) ?_
          refine mp_goto (tgt := 75) dX12_put_71 rfl ?_
          refine mp_top (y := sp_low (so d) v) (by unfold sp_low; first | (rw [if_pos (by omega)]; done) | (rw [if_neg (by omega), if_pos (by omega)]; done) | (rw [if_neg (by omega), if_neg (by omega)]; done)) ?_
          refine mp_iast (σ' := A ++ (mp_ms s m img was num pro ask kp kk kf so sz (mp_ud el ((100 * d) + i) (sp_low (so d) v)) im pl ra re rm rf sd th ++ B)) dX12_put_75 (mp_lk hA 13 rfl) (by decide) ⟨by omega, by omega⟩ (by decide) (mp_sts (Ms' := mp_ms s m img was num pro ask kp kk kf so sz (mp_ud el ((100 * d) + i) (sp_low (so d) v)) im pl ra re rm rf sd th) hA 13 (Nat.le_of_ble_eq_true rfl) rfl) ?_
          refine mp_iconst dX12_put_76 ?_
          exact mp_ireturn (st := []) dX12_put_77 rfl ⟨by decide, by decide⟩ ((by rw [show sp_put kp so sz el d i v = (0, mp_ud el ((100 * d) + i) (sp_low (so d) v)) from by unfold sp_put; first | (rw [if_pos (by omega)]; done) | (rw [if_neg (by omega)]; done) | (rw [if_neg (by omega), if_pos (by omega)]; done) | (rw [if_neg (by omega), if_neg (by omega)]; done) | (rw [if_neg (by omega), if_neg (by omega), if_pos (by omega)]; done) | (rw [if_neg (by omega), if_neg (by omega), if_neg (by omega)]; done) | (rw [if_neg (by omega), if_neg (by omega), if_neg (by omega), if_pos (by omega)]; done) | (rw [if_neg (by omega), if_neg (by omega), if_neg (by omega), if_neg (by omega)]; done) | (rw [if_neg (by omega), if_neg (by omega), if_neg (by omega), if_neg (by omega), if_pos (by omega)]; done) | (rw [if_neg (by omega), if_neg (by omega), if_neg (by omega), if_neg (by omega), if_neg (by omega)]; done)]))
      · refine mp_iload_n dX12_put_54 rfl ?_
        refine mp_i2b (z := v.bmod 256) dX12_put_55 (mp_z_b8 _) ?_
        refine mp_goto (tgt := 75) dX12_put_56 rfl ?_
        refine mp_top (y := sp_low (so d) v) (by unfold sp_low; first | (rw [if_pos (by omega)]; done) | (rw [if_neg (by omega), if_pos (by omega)]; done) | (rw [if_neg (by omega), if_neg (by omega)]; done)) ?_
        refine mp_iast (σ' := A ++ (mp_ms s m img was num pro ask kp kk kf so sz (mp_ud el ((100 * d) + i) (sp_low (so d) v)) im pl ra re rm rf sd th ++ B)) dX12_put_75 (mp_lk hA 13 rfl) (by decide) ⟨by omega, by omega⟩ (by decide) (mp_sts (Ms' := mp_ms s m img was num pro ask kp kk kf so sz (mp_ud el ((100 * d) + i) (sp_low (so d) v)) im pl ra re rm rf sd th) hA 13 (Nat.le_of_ble_eq_true rfl) rfl) ?_
        refine mp_iconst dX12_put_76 ?_
        exact mp_ireturn (st := []) dX12_put_77 rfl ⟨by decide, by decide⟩ ((by rw [show sp_put kp so sz el d i v = (0, mp_ud el ((100 * d) + i) (sp_low (so d) v)) from by unfold sp_put; first | (rw [if_pos (by omega)]; done) | (rw [if_neg (by omega)]; done) | (rw [if_neg (by omega), if_pos (by omega)]; done) | (rw [if_neg (by omega), if_neg (by omega)]; done) | (rw [if_neg (by omega), if_neg (by omega), if_pos (by omega)]; done) | (rw [if_neg (by omega), if_neg (by omega), if_neg (by omega)]; done) | (rw [if_neg (by omega), if_neg (by omega), if_neg (by omega), if_pos (by omega)]; done) | (rw [if_neg (by omega), if_neg (by omega), if_neg (by omega), if_neg (by omega)]; done) | (rw [if_neg (by omega), if_neg (by omega), if_neg (by omega), if_neg (by omega), if_pos (by omega)]; done) | (rw [if_neg (by omega), if_neg (by omega), if_neg (by omega), if_neg (by omega), if_neg (by omega)]; done)]))
    · refine mp_bipush dX12_put_32 rfl ?_
      exact mp_ireturn (st := []) dX12_put_34 rfl ⟨by decide, by decide⟩ ((by rw [show sp_put kp so sz el d i v = (-13, el) from by unfold sp_put; first | (rw [if_pos (by omega)]; done) | (rw [if_neg (by omega)]; done) | (rw [if_neg (by omega), if_pos (by omega)]; done) | (rw [if_neg (by omega), if_neg (by omega)]; done) | (rw [if_neg (by omega), if_neg (by omega), if_pos (by omega)]; done) | (rw [if_neg (by omega), if_neg (by omega), if_neg (by omega)]; done) | (rw [if_neg (by omega), if_neg (by omega), if_neg (by omega), if_pos (by omega)]; done) | (rw [if_neg (by omega), if_neg (by omega), if_neg (by omega), if_neg (by omega)]; done) | (rw [if_neg (by omega), if_neg (by omega), if_neg (by omega), if_neg (by omega), if_pos (by omega)]; done) | (rw [if_neg (by omega), if_neg (by omega), if_neg (by omega), if_neg (by omega), if_neg (by omega)]; done)]))
  · refine mp_iload dX12_put_13 rfl ?_
    exact mp_ireturn (st := []) dX12_put_15 rfl ⟨by decide, by decide⟩ ((by rw [show sp_put kp so sz el d i v = (sp_wrongRow kp so d (-1), el) from by unfold sp_put; first | (rw [if_pos (by omega)]; done) | (rw [if_neg (by omega)]; done) | (rw [if_neg (by omega), if_pos (by omega)]; done) | (rw [if_neg (by omega), if_neg (by omega)]; done) | (rw [if_neg (by omega), if_neg (by omega), if_pos (by omega)]; done) | (rw [if_neg (by omega), if_neg (by omega), if_neg (by omega)]; done) | (rw [if_neg (by omega), if_neg (by omega), if_neg (by omega), if_pos (by omega)]; done) | (rw [if_neg (by omega), if_neg (by omega), if_neg (by omega), if_neg (by omega)]; done) | (rw [if_neg (by omega), if_neg (by omega), if_neg (by omega), if_neg (by omega), if_pos (by omega)]; done) | (rw [if_neg (by omega), if_neg (by omega), if_neg (by omega), if_neg (by omega), if_neg (by omega)]; done)]))
theorem zX12_element {s m img was num pro ask kp kk kf so sz el : Int → Int} {im pl ra re rm rf sd th : Int} {A B : mp_H}  {d : Int} {i : Int} (hA : A.length = 44) (hh : ∀ d, 0 ≤ d → d ≤ 7 → mp_shf kp kk kf so sz d) (hel : ∀ x, mp_w (el x)) (h_d : mp_w d) (h_i : mp_w i) : mp_Call (mX12_element, 2, 0, 0) [Value.ref 44, mp_i d, mp_i i] (A ++ (mp_ms s m img was num pro ask kp kk kf so sz el im pl ra re rm rf sd th ++ B)) (some (mp_l (sp_element kp sz el d i)), A ++ (mp_ms s m img was num pro ask kp kk kf so sz el im pl ra re rm rf sd (sp_thrown kp sz d i) ++ B)) := by
  refine mp_Call.of (L := [some (Value.ref 44), some (mp_i d), some (mp_i i)]) pnX12 (Nat.le_of_ble_eq_true rfl) rfl ?_
  refine mp_aload_n dX12_element_0 rfl ?_
  refine mp_iload_n dX12_element_1 rfl ?_
  refine mp_invS (z := (mX12_isShelf, 1, 0, 0)) (K' := (0, 0)) (σ1 := A ++ (mp_ms s m img was num pro ask kp kk kf so sz el im pl ra re rm rf sd th ++ B)) (as := [mp_i d]) (st := [Value.ref 44]) (st1 := [mp_i (if 0 ≤ d ∧ d ≤ 7 then 1 else 0), Value.ref 44]) dX12_element_2 ssX12_246 (zX12_isShelf (d := d)  (by first | with_reducible assumption | omega)) ⟨Nat.le_of_ble_eq_true rfl, Nat.le_of_ble_eq_true rfl, Nat.le_of_ble_eq_true rfl, Nat.le_of_ble_eq_true rfl, Nat.le_of_ble_eq_true rfl⟩ rfl rfl rfl rfl ?_
  refine mp_ifb_ne (tgt := 12) dX12_element_5 rfl (fun h1 => ?_) (fun h1 => ?_)
  · have hb := hh d (by omega) (by omega)
    refine mp_aload_n dX12_element_12 rfl ?_
    refine mp_getfield dX12_element_13 fsX12_31_11 (mp_lk hA 0 rfl) rfl ?_
    refine mp_iload_n dX12_element_16 rfl ?_
    refine mp_iald dX12_element_17 (mp_lk hA 8 rfl) ⟨by omega, by omega⟩ (by omega) ?_
    refine mp_iconst dX12_element_18 ?_
    refine mp_icmp_ne (tgt := 38) dX12_element_19 rfl ⟨by omega, by omega⟩ ⟨by omega, by omega⟩ (fun h2 => ?_) (fun h2 => ?_)
    · refine mp_iconst dX12_element_38 ?_
      refine mp_goto (tgt := 43) dX12_element_39 rfl ?_
      refine mp_top (y := sp_thrown kp sz d i) (by unfold sp_thrown; omega) ?_
      have ht9 : sp_thrown kp sz d i = if ¬ (0 ≤ d ∧ d ≤ 7) then 1 else if kp d ≠ 2 ∨ ¬ (0 ≤ i ∧ i ≤ sz d - 1) then 2 else 0 := rfl
      refine mp_putfield (σ' := A ++ (mp_ms s m img was num pro ask kp kk kf so sz el im pl ra re rm rf sd (sp_thrown kp sz d i) ++ B)) dX12_element_43 fsX12_243_11 rfl (Or.inl rfl) (tyX12_ok 20 (by decide)) (fun _ => ⟨rfl, rfl⟩) (mp_lk hA 0 rfl) (by decide) (Nat.le_of_ble_eq_true rfl) (mp_sts (Ms' := mp_ms s m img was num pro ask kp kk kf so sz el im pl ra re rm rf sd (sp_thrown kp sz d i)) hA 0 (Nat.le_of_ble_eq_true rfl) rfl) ?_
      refine mp_aload_n dX12_element_46 rfl ?_
      refine mp_getfield dX12_element_47 fsX12_243_11 (mp_lk hA 0 rfl) rfl ?_
      refine mp_if_ne (tgt := 68) dX12_element_50 rfl ⟨by omega, by omega⟩ (fun h3 => ?_) (fun h3 => ?_)
      · refine mp_lconst (z := 0) dX12_element_68 rfl ?_
        exact mp_lreturn (st := []) dX12_element_69 rfl ⟨by decide, by decide⟩ ((mp_ansl (by unfold sp_element; first | (rw [if_pos (by omega)]; done) | (rw [if_neg (by omega)]; done))))
      · refine mp_aload_n dX12_element_53 rfl ?_
        refine mp_getfield dX12_element_54 fsX12_46_11 (mp_lk hA 0 rfl) rfl ?_
        refine mp_bipush dX12_element_57 rfl ?_
        refine mp_iload_n dX12_element_59 rfl ?_
        refine mp_imul (z := 100 * d) dX12_element_60 (by first | rfl | omega) ?_
        refine mp_iload_n dX12_element_61 rfl ?_
        refine mp_iadd (z := (100 * d) + i) dX12_element_62 (by first | rfl | omega) ?_
        refine mp_iald dX12_element_63 (mp_lk hA 13 rfl) ⟨by omega, by omega⟩ (by omega) ?_
        have b4 := hel ((100 * d) + i)
        refine mp_i2l dX12_element_64 ⟨by omega, by omega⟩ ?_
        refine mp_goto (tgt := 69) dX12_element_65 rfl ?_
        exact mp_lreturn (st := []) dX12_element_69 rfl ⟨by decide, by decide⟩ ((mp_ansl (by unfold sp_element; first | (rw [if_pos (by omega)]; done) | (rw [if_neg (by omega)]; done))))
    · refine mp_iload_n dX12_element_22 rfl ?_
      refine mp_iconst dX12_element_23 ?_
      refine mp_aload_n dX12_element_24 rfl ?_
      refine mp_getfield dX12_element_25 fsX12_43_11 (mp_lk hA 0 rfl) rfl ?_
      refine mp_iload_n dX12_element_28 rfl ?_
      refine mp_iald dX12_element_29 (mp_lk hA 12 rfl) ⟨by omega, by omega⟩ (by omega) ?_
      refine mp_iconst dX12_element_30 ?_
      refine mp_isub (z := (sz d) - 1) dX12_element_31 (by first | rfl | omega) ?_
      refine mp_invS (z := (mX12_isIn, 0, 0, 0)) (K' := (0, 0)) (σ1 := A ++ (mp_ms s m img was num pro ask kp kk kf so sz el im pl ra re rm rf sd th ++ B)) (as := [mp_i i, mp_i 0, mp_i ((sz d) - 1)]) (st := [Value.ref 44]) (st1 := [mp_i (if 0 ≤ i ∧ i ≤ ((sz d) - 1) then 1 else 0), Value.ref 44]) dX12_element_32 ssX12_53 (zX12_isIn (v := i) (a := 0) (b := ((sz d) - 1))  (by first | with_reducible assumption | omega) (by first | with_reducible assumption | omega) (by first | with_reducible assumption | omega)) ⟨Nat.le_of_ble_eq_true rfl, Nat.le_of_ble_eq_true rfl, Nat.le_of_ble_eq_true rfl, Nat.le_of_ble_eq_true rfl, Nat.le_of_ble_eq_true rfl⟩ rfl rfl rfl rfl ?_
      refine mp_ifb_ne (tgt := 42) dX12_element_35 rfl (fun h5 => ?_) (fun h5 => ?_)
      · refine mp_iconst dX12_element_42 ?_
        refine mp_top (y := sp_thrown kp sz d i) (by unfold sp_thrown; omega) ?_
        have ht9 : sp_thrown kp sz d i = if ¬ (0 ≤ d ∧ d ≤ 7) then 1 else if kp d ≠ 2 ∨ ¬ (0 ≤ i ∧ i ≤ sz d - 1) then 2 else 0 := rfl
        refine mp_putfield (σ' := A ++ (mp_ms s m img was num pro ask kp kk kf so sz el im pl ra re rm rf sd (sp_thrown kp sz d i) ++ B)) dX12_element_43 fsX12_243_11 rfl (Or.inl rfl) (tyX12_ok 20 (by decide)) (fun _ => ⟨rfl, rfl⟩) (mp_lk hA 0 rfl) (by decide) (Nat.le_of_ble_eq_true rfl) (mp_sts (Ms' := mp_ms s m img was num pro ask kp kk kf so sz el im pl ra re rm rf sd (sp_thrown kp sz d i)) hA 0 (Nat.le_of_ble_eq_true rfl) rfl) ?_
        refine mp_aload_n dX12_element_46 rfl ?_
        refine mp_getfield dX12_element_47 fsX12_243_11 (mp_lk hA 0 rfl) rfl ?_
        refine mp_if_ne (tgt := 68) dX12_element_50 rfl ⟨by omega, by omega⟩ (fun h6 => ?_) (fun h6 => ?_)
        · refine mp_lconst (z := 0) dX12_element_68 rfl ?_
          exact mp_lreturn (st := []) dX12_element_69 rfl ⟨by decide, by decide⟩ ((mp_ansl (by unfold sp_element; first | (rw [if_pos (by omega)]; done) | (rw [if_neg (by omega)]; done))))
        · refine mp_aload_n dX12_element_53 rfl ?_
          refine mp_getfield dX12_element_54 fsX12_46_11 (mp_lk hA 0 rfl) rfl ?_
          refine mp_bipush dX12_element_57 rfl ?_
          refine mp_iload_n dX12_element_59 rfl ?_
          refine mp_imul (z := 100 * d) dX12_element_60 (by first | rfl | omega) ?_
          refine mp_iload_n dX12_element_61 rfl ?_
          refine mp_iadd (z := (100 * d) + i) dX12_element_62 (by first | rfl | omega) ?_
          refine mp_iald dX12_element_63 (mp_lk hA 13 rfl) ⟨by omega, by omega⟩ (by omega) ?_
          have b7 := hel ((100 * d) + i)
          refine mp_i2l dX12_element_64 ⟨by omega, by omega⟩ ?_
          refine mp_goto (tgt := 69) dX12_element_65 rfl ?_
          exact mp_lreturn (st := []) dX12_element_69 rfl ⟨by decide, by decide⟩ ((mp_ansl (by unfold sp_element; first | (rw [if_pos (by omega)]; done) | (rw [if_neg (by omega)]; done))))
      · refine mp_iconst dX12_element_38 ?_
        refine mp_goto (tgt := 43) dX12_element_39 rfl ?_
        refine mp_top (y := sp_thrown kp sz d i) (by unfold sp_thrown; omega) ?_
        have ht9 : sp_thrown kp sz d i = if ¬ (0 ≤ d ∧ d ≤ 7) then 1 else if kp d ≠ 2 ∨ ¬ (0 ≤ i ∧ i ≤ sz d - 1) then 2 else 0 := rfl
        refine mp_putfield (σ' := A ++ (mp_ms s m img was num pro ask kp kk kf so sz el im pl ra re rm rf sd (sp_thrown kp sz d i) ++ B)) dX12_element_43 fsX12_243_11 rfl (Or.inl rfl) (tyX12_ok 20 (by decide)) (fun _ => ⟨rfl, rfl⟩) (mp_lk hA 0 rfl) (by decide) (Nat.le_of_ble_eq_true rfl) (mp_sts (Ms' := mp_ms s m img was num pro ask kp kk kf so sz el im pl ra re rm rf sd (sp_thrown kp sz d i)) hA 0 (Nat.le_of_ble_eq_true rfl) rfl) ?_
        refine mp_aload_n dX12_element_46 rfl ?_
        refine mp_getfield dX12_element_47 fsX12_243_11 (mp_lk hA 0 rfl) rfl ?_
        refine mp_if_ne (tgt := 68) dX12_element_50 rfl ⟨by omega, by omega⟩ (fun h8 => ?_) (fun h8 => ?_)
        · refine mp_lconst (z := 0) dX12_element_68 rfl ?_
          exact mp_lreturn (st := []) dX12_element_69 rfl ⟨by decide, by decide⟩ ((mp_ansl (by unfold sp_element; first | (rw [if_pos (by omega)]; done) | (rw [if_neg (by omega)]; done))))
        · refine mp_aload_n dX12_element_53 rfl ?_
          refine mp_getfield dX12_element_54 fsX12_46_11 (mp_lk hA 0 rfl) rfl ?_
          refine mp_bipush dX12_element_57 rfl ?_
          refine mp_iload_n dX12_element_59 rfl ?_
          refine mp_imul (z := 100 * d) dX12_element_60 (by first | rfl | omega) ?_
          refine mp_iload_n dX12_element_61 rfl ?_
          refine mp_iadd (z := (100 * d) + i) dX12_element_62 (by first | rfl | omega) ?_
          refine mp_iald dX12_element_63 (mp_lk hA 13 rfl) ⟨by omega, by omega⟩ (by omega) ?_
          have b9 := hel ((100 * d) + i)
          refine mp_i2l dX12_element_64 ⟨by omega, by omega⟩ ?_
          refine mp_goto (tgt := 69) dX12_element_65 rfl ?_
          exact mp_lreturn (st := []) dX12_element_69 rfl ⟨by decide, by decide⟩ ((mp_ansl (by unfold sp_element; first | (rw [if_pos (by omega)]; done) | (rw [if_neg (by omega)]; done))))
  · refine mp_iconst dX12_element_8 ?_
    refine mp_goto (tgt := 43) dX12_element_9 rfl ?_
    refine mp_top (y := sp_thrown kp sz d i) (by unfold sp_thrown; omega) ?_
    have ht9 : sp_thrown kp sz d i = if ¬ (0 ≤ d ∧ d ≤ 7) then 1 else if kp d ≠ 2 ∨ ¬ (0 ≤ i ∧ i ≤ sz d - 1) then 2 else 0 := rfl
    refine mp_putfield (σ' := A ++ (mp_ms s m img was num pro ask kp kk kf so sz el im pl ra re rm rf sd (sp_thrown kp sz d i) ++ B)) dX12_element_43 fsX12_243_11 rfl (Or.inl rfl) (tyX12_ok 20 (by decide)) (fun _ => ⟨rfl, rfl⟩) (mp_lk hA 0 rfl) (by decide) (Nat.le_of_ble_eq_true rfl) (mp_sts (Ms' := mp_ms s m img was num pro ask kp kk kf so sz el im pl ra re rm rf sd (sp_thrown kp sz d i)) hA 0 (Nat.le_of_ble_eq_true rfl) rfl) ?_
    refine mp_aload_n dX12_element_46 rfl ?_
    refine mp_getfield dX12_element_47 fsX12_243_11 (mp_lk hA 0 rfl) rfl ?_
    refine mp_if_ne (tgt := 68) dX12_element_50 rfl ⟨by omega, by omega⟩ (fun h10 => ?_) (fun h10 => ?_)
    · refine mp_lconst (z := 0) dX12_element_68 rfl ?_
      exact mp_lreturn (st := []) dX12_element_69 rfl ⟨by decide, by decide⟩ ((mp_ansl (by unfold sp_element; first | (rw [if_pos (by omega)]; done) | (rw [if_neg (by omega)]; done))))
    · refine mp_aload_n dX12_element_53 rfl ?_
      refine mp_getfield dX12_element_54 fsX12_46_11 (mp_lk hA 0 rfl) rfl ?_
      refine mp_bipush dX12_element_57 rfl ?_
      refine mp_iload_n dX12_element_59 rfl ?_
      refine mp_imul (z := 100 * d) dX12_element_60 (by first | rfl | omega) ?_
      refine mp_iload_n dX12_element_61 rfl ?_
      refine mp_iadd (z := (100 * d) + i) dX12_element_62 (by first | rfl | omega) ?_
      refine mp_iald dX12_element_63 (mp_lk hA 13 rfl) ⟨by omega, by omega⟩ (by omega) ?_
      have b11 := hel ((100 * d) + i)
      refine mp_i2l dX12_element_64 ⟨by omega, by omega⟩ ?_
      refine mp_goto (tgt := 69) dX12_element_65 rfl ?_
      exact mp_lreturn (st := []) dX12_element_69 rfl ⟨by decide, by decide⟩ ((mp_ansl (by unfold sp_element; first | (rw [if_pos (by omega)]; done) | (rw [if_neg (by omega)]; done))))
theorem zX12_cost {s m img was num pro ask kp kk kf so sz el : Int → Int} {im pl ra re rm rf sd th : Int} {A B : mp_H}  {d : Int} (hA : A.length = 44) (hh : ∀ d, 0 ≤ d → d ≤ 7 → mp_shf kp kk kf so sz d) (h_d : mp_w d) : mp_Call (mX12_cost, 3, 0, 0) [Value.ref 44, mp_i d] (A ++ (mp_ms s m img was num pro ask kp kk kf so sz el im pl ra re rm rf sd th ++ B)) (some (mp_i (sp_costC kp kk kf d)), A ++ (mp_ms s m img was num pro ask kp kk kf so sz el im pl ra re rm rf sd th ++ B)) := by
  refine mp_Call.of (L := [some (Value.ref 44), some (mp_i d), none]) pnX12 (Nat.le_of_ble_eq_true rfl) rfl ?_
  have hw9 : sp_wrongKept kp d = if ¬ (0 ≤ d ∧ d ≤ 7) then -1 else if kp d = 0 then -11 else if kp d = 2 then -12 else 0 := rfl
  refine mp_aload_n dX12_cost_0 rfl ?_
  refine mp_iload_n dX12_cost_1 rfl ?_
  refine mp_invV (z := (mX12_wrongKept, 2, 0, 0)) (K' := (0, 0)) (σ1 := A ++ (mp_ms s m img was num pro ask kp kk kf so sz el im pl ra re rm rf sd th ++ B)) (as := [mp_i d]) (st := []) (st1 := [mp_i (sp_wrongKept kp d)]) dX12_cost_2 svX12_167 (mp_lk hA 0 rfl) rfl rfl (zX12_wrongKept (d := d) (s := s) (m := m) (img := img) (was := was) (num := num) (pro := pro) (ask := ask) (kp := kp) (kk := kk) (kf := kf) (so := so) (sz := sz) (el := el) (im := im) (pl := pl) (ra := ra) (re := re) (rm := rm) (rf := rf) (sd := sd) (th := th) (by first | with_reducible assumption | omega) (by first | with_reducible assumption | omega) (by first | with_reducible assumption | omega)) ⟨Nat.le_of_ble_eq_true rfl, Nat.le_of_ble_eq_true rfl, Nat.le_of_ble_eq_true rfl, Nat.le_of_ble_eq_true rfl, Nat.le_of_ble_eq_true rfl⟩ rfl rfl rfl rfl ?_
  refine mp_istore_n (L' := [some (Value.ref 44), some (mp_i d), some (mp_i (sp_wrongKept kp d))]) dX12_cost_5 rfl (by decide) rfl ?_
  refine mp_iload_n dX12_cost_6 rfl ?_
  refine mp_if_eq (tgt := 14) dX12_cost_7 rfl ⟨by omega, by omega⟩ (fun h1 => ?_) (fun h1 => ?_)
  · have hb := hh d (by omega) (by omega)
    refine mp_aload_n dX12_cost_14 rfl ?_
    refine mp_getfield dX12_cost_15 fsX12_34_11 (mp_lk hA 0 rfl) rfl ?_
    refine mp_iload_n dX12_cost_18 rfl ?_
    refine mp_iald dX12_cost_19 (mp_lk hA 9 rfl) ⟨by omega, by omega⟩ (by omega) ?_
    refine mp_aload_n dX12_cost_20 rfl ?_
    refine mp_getfield dX12_cost_21 fsX12_37_11 (mp_lk hA 0 rfl) rfl ?_
    refine mp_iload_n dX12_cost_24 rfl ?_
    refine mp_iald dX12_cost_25 (mp_lk hA 10 rfl) ⟨by omega, by omega⟩ (by omega) ?_
    refine mp_invS (z := (mX12_costBy, 0, 0, 0)) (K' := (0, 0)) (σ1 := A ++ (mp_ms s m img was num pro ask kp kk kf so sz el im pl ra re rm rf sd th ++ B)) (as := [mp_i (kk d), mp_i (kf d)]) (st := []) (st1 := [mp_i (sp_cost (kk d) (kf d))]) dX12_cost_26 ssX12_249 (zX12_costBy (k := (kk d)) (f := (kf d))  (by first | with_reducible assumption | omega) (by first | with_reducible assumption | omega)) ⟨Nat.le_of_ble_eq_true rfl, Nat.le_of_ble_eq_true rfl, Nat.le_of_ble_eq_true rfl, Nat.le_of_ble_eq_true rfl, Nat.le_of_ble_eq_true rfl⟩ rfl rfl rfl rfl ?_
    exact mp_ireturn (st := []) dX12_cost_29 rfl ⟨by decide, by decide⟩ ((mp_ans (by first | with_reducible rfl | (unfold sp_costC; omega) | (unfold sp_costC; first | (rw [if_pos (by omega)]; done) | (rw [if_neg (by omega)]; done) | (rw [if_neg (by omega), if_pos (by omega)]; done) | (rw [if_neg (by omega), if_neg (by omega)]; done) | (rw [if_neg (by omega), if_neg (by omega), if_pos (by omega)]; done) | (rw [if_neg (by omega), if_neg (by omega), if_neg (by omega)]; done) | (rw [if_neg (by omega), if_neg (by omega), if_neg (by omega), if_pos (by omega)]; done) | (rw [if_neg (by omega), if_neg (by omega), if_neg (by omega), if_neg (by omega)]; done) | (rw [if_neg (by omega), if_neg (by omega), if_neg (by omega), if_neg (by omega), if_pos (by omega)]; done) | (rw [if_neg (by omega), if_neg (by omega), if_neg (by omega), if_neg (by omega), if_neg (by omega)]; done)))))
  · refine mp_iload_n dX12_cost_10 rfl ?_
    refine mp_goto (tgt := 29) dX12_cost_11 rfl ?_
    exact mp_ireturn (st := []) dX12_cost_29 rfl ⟨by decide, by decide⟩ ((mp_ans (by first | with_reducible rfl | (unfold sp_costC; omega) | (unfold sp_costC; first | (rw [if_pos (by omega)]; done) | (rw [if_neg (by omega)]; done) | (rw [if_neg (by omega), if_pos (by omega)]; done) | (rw [if_neg (by omega), if_neg (by omega)]; done) | (rw [if_neg (by omega), if_neg (by omega), if_pos (by omega)]; done) | (rw [if_neg (by omega), if_neg (by omega), if_neg (by omega)]; done) | (rw [if_neg (by omega), if_neg (by omega), if_neg (by omega), if_pos (by omega)]; done) | (rw [if_neg (by omega), if_neg (by omega), if_neg (by omega), if_neg (by omega)]; done) | (rw [if_neg (by omega), if_neg (by omega), if_neg (by omega), if_neg (by omega), if_pos (by omega)]; done) | (rw [if_neg (by omega), if_neg (by omega), if_neg (by omega), if_neg (by omega), if_neg (by omega)]; done)))))
theorem zX12_toss {s m img was num pro ask kp kk kf so sz el : Int → Int} {im pl ra re rm rf sd th : Int} {A B : mp_H}  {d : Int} (hA : A.length = 44) (hh : ∀ d, 0 ≤ d → d ≤ 7 → mp_shf kp kk kf so sz d) (h_d : mp_w d) : mp_Call (mX12_toss, 3, 0, 0) [Value.ref 44, mp_i d] (A ++ (mp_ms s m img was num pro ask kp kk kf so sz el im pl ra re rm rf sd th ++ B)) (some (mp_i (sp_toss kp kk kf d)), A ++ (mp_ms s m img was num pro ask kp kk kf so sz el im pl ra re rm rf sd th ++ B)) := by
  refine mp_Call.of (L := [some (Value.ref 44), some (mp_i d), none, none, none]) pnX12 (Nat.le_of_ble_eq_true rfl) rfl ?_
  have hw9 : sp_wrongKept kp d = if ¬ (0 ≤ d ∧ d ≤ 7) then -1 else if kp d = 0 then -11 else if kp d = 2 then -12 else 0 := rfl
  refine mp_aload_n dX12_toss_0 rfl ?_
  refine mp_iload_n dX12_toss_1 rfl ?_
  refine mp_invV (z := (mX12_wrongKept, 2, 0, 0)) (K' := (0, 0)) (σ1 := A ++ (mp_ms s m img was num pro ask kp kk kf so sz el im pl ra re rm rf sd th ++ B)) (as := [mp_i d]) (st := []) (st1 := [mp_i (sp_wrongKept kp d)]) dX12_toss_2 svX12_167 (mp_lk hA 0 rfl) rfl rfl (zX12_wrongKept (d := d) (s := s) (m := m) (img := img) (was := was) (num := num) (pro := pro) (ask := ask) (kp := kp) (kk := kk) (kf := kf) (so := so) (sz := sz) (el := el) (im := im) (pl := pl) (ra := ra) (re := re) (rm := rm) (rf := rf) (sd := sd) (th := th) (by first | with_reducible assumption | omega) (by first | with_reducible assumption | omega) (by first | with_reducible assumption | omega)) ⟨Nat.le_of_ble_eq_true rfl, Nat.le_of_ble_eq_true rfl, Nat.le_of_ble_eq_true rfl, Nat.le_of_ble_eq_true rfl, Nat.le_of_ble_eq_true rfl⟩ rfl rfl rfl rfl ?_
  refine mp_istore_n (L' := [some (Value.ref 44), some (mp_i d), some (mp_i (sp_wrongKept kp d)), none, none]) dX12_toss_5 rfl (by decide) rfl ?_
  refine mp_iload_n dX12_toss_6 rfl ?_
  refine mp_if_eq (tgt := 12) dX12_toss_7 rfl ⟨by omega, by omega⟩ (fun h1 => ?_) (fun h1 => ?_)
  · have hb := hh d (by omega) (by omega)
    refine mp_aload_n dX12_toss_12 rfl ?_
    refine mp_getfield dX12_toss_13 fsX12_34_11 (mp_lk hA 0 rfl) rfl ?_
    refine mp_iload_n dX12_toss_16 rfl ?_
    refine mp_iald dX12_toss_17 (mp_lk hA 9 rfl) ⟨by omega, by omega⟩ (by omega) ?_
    refine mp_istore_n (L' := [some (Value.ref 44), some (mp_i d), some (mp_i (sp_wrongKept kp d)), some (mp_i (kk d)), none]) dX12_toss_18 rfl (by decide) rfl ?_
    refine mp_aload_n dX12_toss_19 rfl ?_
    refine mp_getfield dX12_toss_20 fsX12_37_11 (mp_lk hA 0 rfl) rfl ?_
    refine mp_iload_n dX12_toss_23 rfl ?_
    refine mp_iald dX12_toss_24 (mp_lk hA 10 rfl) ⟨by omega, by omega⟩ (by omega) ?_
    refine mp_istore (L' := [some (Value.ref 44), some (mp_i d), some (mp_i (sp_wrongKept kp d)), some (mp_i (kk d)), some (mp_i (kf d))]) dX12_toss_25 (by decide) rfl ?_
    refine mp_iload_n dX12_toss_27 rfl ?_
    refine mp_iconst dX12_toss_28 ?_
    refine mp_icmp_eq (tgt := 42) dX12_toss_29 rfl ⟨by omega, by omega⟩ ⟨by omega, by omega⟩ (fun h2 => ?_) (fun h2 => ?_)
    · refine mp_bipush dX12_toss_42 rfl ?_
      exact mp_ireturn (st := []) dX12_toss_44 rfl ⟨by decide, by decide⟩ ((mp_ans (by first | with_reducible rfl | (unfold sp_toss; omega) | (unfold sp_toss; first | (rw [if_pos (by omega)]; done) | (rw [if_neg (by omega)]; done) | (rw [if_neg (by omega), if_pos (by omega)]; done) | (rw [if_neg (by omega), if_neg (by omega)]; done) | (rw [if_neg (by omega), if_neg (by omega), if_pos (by omega)]; done) | (rw [if_neg (by omega), if_neg (by omega), if_neg (by omega)]; done) | (rw [if_neg (by omega), if_neg (by omega), if_neg (by omega), if_pos (by omega)]; done) | (rw [if_neg (by omega), if_neg (by omega), if_neg (by omega), if_neg (by omega)]; done) | (rw [if_neg (by omega), if_neg (by omega), if_neg (by omega), if_neg (by omega), if_pos (by omega)]; done) | (rw [if_neg (by omega), if_neg (by omega), if_neg (by omega), if_neg (by omega), if_neg (by omega)]; done) | (rw [if_neg (by omega), if_neg (by omega), if_neg (by omega), if_neg (by omega), if_neg (by omega), if_pos (by omega)]; done) | (rw [if_neg (by omega), if_neg (by omega), if_neg (by omega), if_neg (by omega), if_neg (by omega), if_neg (by omega)]; done) | (rw [if_neg (by omega), if_neg (by omega), if_neg (by omega), if_neg (by omega), if_neg (by omega), if_neg (by omega), if_pos (by omega)]; done) | (rw [if_neg (by omega), if_neg (by omega), if_neg (by omega), if_neg (by omega), if_neg (by omega), if_neg (by omega), if_neg (by omega)]; done)))))
    · refine mp_iload_n dX12_toss_32 rfl ?_
      refine mp_iconst dX12_toss_33 ?_
      refine mp_icmp_eq (tgt := 42) dX12_toss_34 rfl ⟨by omega, by omega⟩ ⟨by omega, by omega⟩ (fun h3 => ?_) (fun h3 => ?_)
      · refine mp_bipush dX12_toss_42 rfl ?_
        exact mp_ireturn (st := []) dX12_toss_44 rfl ⟨by decide, by decide⟩ ((mp_ans (by first | with_reducible rfl | (unfold sp_toss; omega) | (unfold sp_toss; first | (rw [if_pos (by omega)]; done) | (rw [if_neg (by omega)]; done) | (rw [if_neg (by omega), if_pos (by omega)]; done) | (rw [if_neg (by omega), if_neg (by omega)]; done) | (rw [if_neg (by omega), if_neg (by omega), if_pos (by omega)]; done) | (rw [if_neg (by omega), if_neg (by omega), if_neg (by omega)]; done) | (rw [if_neg (by omega), if_neg (by omega), if_neg (by omega), if_pos (by omega)]; done) | (rw [if_neg (by omega), if_neg (by omega), if_neg (by omega), if_neg (by omega)]; done) | (rw [if_neg (by omega), if_neg (by omega), if_neg (by omega), if_neg (by omega), if_pos (by omega)]; done) | (rw [if_neg (by omega), if_neg (by omega), if_neg (by omega), if_neg (by omega), if_neg (by omega)]; done) | (rw [if_neg (by omega), if_neg (by omega), if_neg (by omega), if_neg (by omega), if_neg (by omega), if_pos (by omega)]; done) | (rw [if_neg (by omega), if_neg (by omega), if_neg (by omega), if_neg (by omega), if_neg (by omega), if_neg (by omega)]; done) | (rw [if_neg (by omega), if_neg (by omega), if_neg (by omega), if_neg (by omega), if_neg (by omega), if_neg (by omega), if_pos (by omega)]; done) | (rw [if_neg (by omega), if_neg (by omega), if_neg (by omega), if_neg (by omega), if_neg (by omega), if_neg (by omega), if_neg (by omega)]; done)))))
      · refine mp_iload dX12_toss_37 rfl ?_
        refine mp_if_ne (tgt := 45) dX12_toss_39 rfl ⟨by omega, by omega⟩ (fun h4 => ?_) (fun h4 => ?_)
        · refine mp_iload_n dX12_toss_45 rfl ?_
          refine mp_iconst dX12_toss_46 ?_
          refine mp_icmp_ne (tgt := 63) dX12_toss_47 rfl ⟨by omega, by omega⟩ ⟨by omega, by omega⟩ (fun h5 => ?_) (fun h5 => ?_)
          · refine mp_iload_n dX12_toss_63 rfl ?_
            refine mp_iconst dX12_toss_64 ?_
            refine mp_icmp_ne (tgt := 76) dX12_toss_65 rfl ⟨by omega, by omega⟩ ⟨by omega, by omega⟩ (fun h6 => ?_) (fun h6 => ?_)
            · refine mp_iload dX12_toss_76 rfl ?_
              exact mp_ireturn (st := []) dX12_toss_78 rfl ⟨by decide, by decide⟩ ((mp_ans (by first | with_reducible rfl | (unfold sp_toss; omega) | (unfold sp_toss; first | (rw [if_pos (by omega)]; done) | (rw [if_neg (by omega)]; done) | (rw [if_neg (by omega), if_pos (by omega)]; done) | (rw [if_neg (by omega), if_neg (by omega)]; done) | (rw [if_neg (by omega), if_neg (by omega), if_pos (by omega)]; done) | (rw [if_neg (by omega), if_neg (by omega), if_neg (by omega)]; done) | (rw [if_neg (by omega), if_neg (by omega), if_neg (by omega), if_pos (by omega)]; done) | (rw [if_neg (by omega), if_neg (by omega), if_neg (by omega), if_neg (by omega)]; done) | (rw [if_neg (by omega), if_neg (by omega), if_neg (by omega), if_neg (by omega), if_pos (by omega)]; done) | (rw [if_neg (by omega), if_neg (by omega), if_neg (by omega), if_neg (by omega), if_neg (by omega)]; done) | (rw [if_neg (by omega), if_neg (by omega), if_neg (by omega), if_neg (by omega), if_neg (by omega), if_pos (by omega)]; done) | (rw [if_neg (by omega), if_neg (by omega), if_neg (by omega), if_neg (by omega), if_neg (by omega), if_neg (by omega)]; done) | (rw [if_neg (by omega), if_neg (by omega), if_neg (by omega), if_neg (by omega), if_neg (by omega), if_neg (by omega), if_pos (by omega)]; done) | (rw [if_neg (by omega), if_neg (by omega), if_neg (by omega), if_neg (by omega), if_neg (by omega), if_neg (by omega), if_neg (by omega)]; done)))))
            · refine mp_bipush dX12_toss_68 rfl ?_
              refine mp_iload dX12_toss_70 rfl ?_
              refine mp_iadd (z := 100 + (kf d)) dX12_toss_72 (by first | rfl | omega) ?_
              refine mp_goto (tgt := 78) dX12_toss_73 rfl ?_
              exact mp_ireturn (st := []) dX12_toss_78 rfl ⟨by decide, by decide⟩ ((mp_ans (by first | with_reducible rfl | (unfold sp_toss; omega) | (unfold sp_toss; first | (rw [if_pos (by omega)]; done) | (rw [if_neg (by omega)]; done) | (rw [if_neg (by omega), if_pos (by omega)]; done) | (rw [if_neg (by omega), if_neg (by omega)]; done) | (rw [if_neg (by omega), if_neg (by omega), if_pos (by omega)]; done) | (rw [if_neg (by omega), if_neg (by omega), if_neg (by omega)]; done) | (rw [if_neg (by omega), if_neg (by omega), if_neg (by omega), if_pos (by omega)]; done) | (rw [if_neg (by omega), if_neg (by omega), if_neg (by omega), if_neg (by omega)]; done) | (rw [if_neg (by omega), if_neg (by omega), if_neg (by omega), if_neg (by omega), if_pos (by omega)]; done) | (rw [if_neg (by omega), if_neg (by omega), if_neg (by omega), if_neg (by omega), if_neg (by omega)]; done) | (rw [if_neg (by omega), if_neg (by omega), if_neg (by omega), if_neg (by omega), if_neg (by omega), if_pos (by omega)]; done) | (rw [if_neg (by omega), if_neg (by omega), if_neg (by omega), if_neg (by omega), if_neg (by omega), if_neg (by omega)]; done) | (rw [if_neg (by omega), if_neg (by omega), if_neg (by omega), if_neg (by omega), if_neg (by omega), if_neg (by omega), if_pos (by omega)]; done) | (rw [if_neg (by omega), if_neg (by omega), if_neg (by omega), if_neg (by omega), if_neg (by omega), if_neg (by omega), if_neg (by omega)]; done)))))
          · refine mp_sipush dX12_toss_50 rfl ?_
            refine mp_iload_n dX12_toss_53 rfl ?_
            refine mp_iload dX12_toss_54 rfl ?_
            refine mp_invS (z := (mX12_costBy, 0, 0, 0)) (K' := (0, 0)) (σ1 := A ++ (mp_ms s m img was num pro ask kp kk kf so sz el im pl ra re rm rf sd th ++ B)) (as := [mp_i (kk d), mp_i (kf d)]) (st := [mp_i 200]) (st1 := [mp_i (sp_cost (kk d) (kf d)), mp_i 200]) dX12_toss_56 ssX12_249 (zX12_costBy (k := (kk d)) (f := (kf d))  (by first | with_reducible assumption | omega) (by first | with_reducible assumption | omega)) ⟨Nat.le_of_ble_eq_true rfl, Nat.le_of_ble_eq_true rfl, Nat.le_of_ble_eq_true rfl, Nat.le_of_ble_eq_true rfl, Nat.le_of_ble_eq_true rfl⟩ rfl rfl rfl rfl ?_
            refine mp_iadd (z := 200 + (sp_cost (kk d) (kf d))) dX12_toss_59 (by first | rfl | omega) ?_
            refine mp_goto (tgt := 78) dX12_toss_60 rfl ?_
            exact mp_ireturn (st := []) dX12_toss_78 rfl ⟨by decide, by decide⟩ ((mp_ans (by first | with_reducible rfl | (unfold sp_toss; omega) | (unfold sp_toss; first | (rw [if_pos (by omega)]; done) | (rw [if_neg (by omega)]; done) | (rw [if_neg (by omega), if_pos (by omega)]; done) | (rw [if_neg (by omega), if_neg (by omega)]; done) | (rw [if_neg (by omega), if_neg (by omega), if_pos (by omega)]; done) | (rw [if_neg (by omega), if_neg (by omega), if_neg (by omega)]; done) | (rw [if_neg (by omega), if_neg (by omega), if_neg (by omega), if_pos (by omega)]; done) | (rw [if_neg (by omega), if_neg (by omega), if_neg (by omega), if_neg (by omega)]; done) | (rw [if_neg (by omega), if_neg (by omega), if_neg (by omega), if_neg (by omega), if_pos (by omega)]; done) | (rw [if_neg (by omega), if_neg (by omega), if_neg (by omega), if_neg (by omega), if_neg (by omega)]; done) | (rw [if_neg (by omega), if_neg (by omega), if_neg (by omega), if_neg (by omega), if_neg (by omega), if_pos (by omega)]; done) | (rw [if_neg (by omega), if_neg (by omega), if_neg (by omega), if_neg (by omega), if_neg (by omega), if_neg (by omega)]; done) | (rw [if_neg (by omega), if_neg (by omega), if_neg (by omega), if_neg (by omega), if_neg (by omega), if_neg (by omega), if_pos (by omega)]; done) | (rw [if_neg (by omega), if_neg (by omega), if_neg (by omega), if_neg (by omega), if_neg (by omega), if_neg (by omega), if_neg (by omega)]; done)))))
        · refine mp_bipush dX12_toss_42 rfl ?_
          exact mp_ireturn (st := []) dX12_toss_44 rfl ⟨by decide, by decide⟩ ((mp_ans (by first | with_reducible rfl | (unfold sp_toss; omega) | (unfold sp_toss; first | (rw [if_pos (by omega)]; done) | (rw [if_neg (by omega)]; done) | (rw [if_neg (by omega), if_pos (by omega)]; done) | (rw [if_neg (by omega), if_neg (by omega)]; done) | (rw [if_neg (by omega), if_neg (by omega), if_pos (by omega)]; done) | (rw [if_neg (by omega), if_neg (by omega), if_neg (by omega)]; done) | (rw [if_neg (by omega), if_neg (by omega), if_neg (by omega), if_pos (by omega)]; done) | (rw [if_neg (by omega), if_neg (by omega), if_neg (by omega), if_neg (by omega)]; done) | (rw [if_neg (by omega), if_neg (by omega), if_neg (by omega), if_neg (by omega), if_pos (by omega)]; done) | (rw [if_neg (by omega), if_neg (by omega), if_neg (by omega), if_neg (by omega), if_neg (by omega)]; done) | (rw [if_neg (by omega), if_neg (by omega), if_neg (by omega), if_neg (by omega), if_neg (by omega), if_pos (by omega)]; done) | (rw [if_neg (by omega), if_neg (by omega), if_neg (by omega), if_neg (by omega), if_neg (by omega), if_neg (by omega)]; done) | (rw [if_neg (by omega), if_neg (by omega), if_neg (by omega), if_neg (by omega), if_neg (by omega), if_neg (by omega), if_pos (by omega)]; done) | (rw [if_neg (by omega), if_neg (by omega), if_neg (by omega), if_neg (by omega), if_neg (by omega), if_neg (by omega), if_neg (by omega)]; done)))))
  · refine mp_iload_n dX12_toss_10 rfl ?_
    exact mp_ireturn (st := []) dX12_toss_11 rfl ⟨by decide, by decide⟩ ((mp_ans (by first | with_reducible rfl | (unfold sp_toss; omega) | (unfold sp_toss; first | (rw [if_pos (by omega)]; done) | (rw [if_neg (by omega)]; done) | (rw [if_neg (by omega), if_pos (by omega)]; done) | (rw [if_neg (by omega), if_neg (by omega)]; done) | (rw [if_neg (by omega), if_neg (by omega), if_pos (by omega)]; done) | (rw [if_neg (by omega), if_neg (by omega), if_neg (by omega)]; done) | (rw [if_neg (by omega), if_neg (by omega), if_neg (by omega), if_pos (by omega)]; done) | (rw [if_neg (by omega), if_neg (by omega), if_neg (by omega), if_neg (by omega)]; done) | (rw [if_neg (by omega), if_neg (by omega), if_neg (by omega), if_neg (by omega), if_pos (by omega)]; done) | (rw [if_neg (by omega), if_neg (by omega), if_neg (by omega), if_neg (by omega), if_neg (by omega)]; done) | (rw [if_neg (by omega), if_neg (by omega), if_neg (by omega), if_neg (by omega), if_neg (by omega), if_pos (by omega)]; done) | (rw [if_neg (by omega), if_neg (by omega), if_neg (by omega), if_neg (by omega), if_neg (by omega), if_neg (by omega)]; done) | (rw [if_neg (by omega), if_neg (by omega), if_neg (by omega), if_neg (by omega), if_neg (by omega), if_neg (by omega), if_pos (by omega)]; done) | (rw [if_neg (by omega), if_neg (by omega), if_neg (by omega), if_neg (by omega), if_neg (by omega), if_neg (by omega), if_neg (by omega)]; done)))))
theorem zX12_leastOf {o : Int} {σ : mp_H} (h_o : mp_w o) : mp_Call (mX12_leastOf, 0, 0, 0) [mp_i o] σ (some (mp_i (sp_leastOf o)), σ) := by
  refine mp_Call.of (L := [some (mp_i o)]) pnX12 (Nat.le_of_ble_eq_true rfl) rfl ?_
  refine mp_iload_n dX12_leastOf_0 rfl ?_
  refine mp_if_ne (tgt := 9) dX12_leastOf_1 rfl ⟨by omega, by omega⟩ (fun h1 => ?_) (fun h1 => ?_)
  · refine mp_iload_n dX12_leastOf_9 rfl ?_
    refine mp_iconst dX12_leastOf_10 ?_
    refine mp_icmp_ne (tgt := 20) dX12_leastOf_11 rfl ⟨by omega, by omega⟩ ⟨by omega, by omega⟩ (fun h2 => ?_) (fun h2 => ?_)
    · refine mp_ldc (z := (-2147483648)) dX12_leastOf_20 kcX12_204 rfl ?_
      exact mp_ireturn (st := []) dX12_leastOf_22 rfl ⟨by decide, by decide⟩ ((mp_ans (by first | with_reducible rfl | (unfold sp_leastOf; omega) | (unfold sp_leastOf; first | (rw [if_pos (by omega)]; done) | (rw [if_neg (by omega)]; done) | (rw [if_neg (by omega), if_pos (by omega)]; done) | (rw [if_neg (by omega), if_neg (by omega)]; done) | (rw [if_neg (by omega), if_neg (by omega), if_pos (by omega)]; done) | (rw [if_neg (by omega), if_neg (by omega), if_neg (by omega)]; done) | (rw [if_neg (by omega), if_neg (by omega), if_neg (by omega), if_pos (by omega)]; done) | (rw [if_neg (by omega), if_neg (by omega), if_neg (by omega), if_neg (by omega)]; done) | (rw [if_neg (by omega), if_neg (by omega), if_neg (by omega), if_neg (by omega), if_pos (by omega)]; done) | (rw [if_neg (by omega), if_neg (by omega), if_neg (by omega), if_neg (by omega), if_neg (by omega)]; done)))))
    · refine mp_sipush dX12_leastOf_14 rfl ?_
      refine mp_goto (tgt := 22) dX12_leastOf_17 rfl ?_
      exact mp_ireturn (st := []) dX12_leastOf_22 rfl ⟨by decide, by decide⟩ ((mp_ans (by first | with_reducible rfl | (unfold sp_leastOf; omega) | (unfold sp_leastOf; first | (rw [if_pos (by omega)]; done) | (rw [if_neg (by omega)]; done) | (rw [if_neg (by omega), if_pos (by omega)]; done) | (rw [if_neg (by omega), if_neg (by omega)]; done) | (rw [if_neg (by omega), if_neg (by omega), if_pos (by omega)]; done) | (rw [if_neg (by omega), if_neg (by omega), if_neg (by omega)]; done) | (rw [if_neg (by omega), if_neg (by omega), if_neg (by omega), if_pos (by omega)]; done) | (rw [if_neg (by omega), if_neg (by omega), if_neg (by omega), if_neg (by omega)]; done) | (rw [if_neg (by omega), if_neg (by omega), if_neg (by omega), if_neg (by omega), if_pos (by omega)]; done) | (rw [if_neg (by omega), if_neg (by omega), if_neg (by omega), if_neg (by omega), if_neg (by omega)]; done)))))
  · refine mp_bipush dX12_leastOf_4 rfl ?_
    refine mp_goto (tgt := 22) dX12_leastOf_6 rfl ?_
    exact mp_ireturn (st := []) dX12_leastOf_22 rfl ⟨by decide, by decide⟩ ((mp_ans (by first | with_reducible rfl | (unfold sp_leastOf; omega) | (unfold sp_leastOf; first | (rw [if_pos (by omega)]; done) | (rw [if_neg (by omega)]; done) | (rw [if_neg (by omega), if_pos (by omega)]; done) | (rw [if_neg (by omega), if_neg (by omega)]; done) | (rw [if_neg (by omega), if_neg (by omega), if_pos (by omega)]; done) | (rw [if_neg (by omega), if_neg (by omega), if_neg (by omega)]; done) | (rw [if_neg (by omega), if_neg (by omega), if_neg (by omega), if_pos (by omega)]; done) | (rw [if_neg (by omega), if_neg (by omega), if_neg (by omega), if_neg (by omega)]; done) | (rw [if_neg (by omega), if_neg (by omega), if_neg (by omega), if_neg (by omega), if_pos (by omega)]; done) | (rw [if_neg (by omega), if_neg (by omega), if_neg (by omega), if_neg (by omega), if_neg (by omega)]; done)))))
