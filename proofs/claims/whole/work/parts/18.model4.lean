theorem zX12_isMeteor {s m img was num pro ask kp kk kf so sz el : Int → Int} {im pl ra re rm rf sd th : Int} {A B : mp_H}  {k : Int} (hA : A.length = 44) (hs : mp_sky s) (h_k : mp_w k) : mp_Call (mX12_isMeteor, 1, 0, 0) [Value.ref 44, mp_i k] (A ++ (mp_ms s m img was num pro ask kp kk kf so sz el im pl ra re rm rf sd th ++ B)) (some (mp_i (if 0 ≤ k ∧ k ≤ s 0 - 1 then 1 else 0)), A ++ (mp_ms s m img was num pro ask kp kk kf so sz el im pl ra re rm rf sd th ++ B)) := by
  refine mp_Call.of (L := [some (Value.ref 44), some (mp_i k)]) pnX12 (Nat.le_of_ble_eq_true rfl) rfl ?_
  have h0 := hs.1
  refine mp_iload_n dX12_isMeteor_0 rfl ?_
  refine mp_iconst dX12_isMeteor_1 ?_
  refine mp_aload_n dX12_isMeteor_2 rfl ?_
  refine mp_getfield dX12_isMeteor_3 fsX12_9_11 (mp_lk hA 0 rfl) rfl ?_
  refine mp_iconst dX12_isMeteor_6 ?_
  refine mp_iald dX12_isMeteor_7 (mp_lk hA 1 rfl) ⟨by omega, by omega⟩ (by omega) ?_
  refine mp_iconst dX12_isMeteor_8 ?_
  refine mp_isub (z := (s 0) - 1) dX12_isMeteor_9 (by first | rfl | omega) ?_
  refine mp_invS (z := (mX12_isIn, 0, 0, 0)) (K' := (0, 0)) (σ1 := A ++ (mp_ms s m img was num pro ask kp kk kf so sz el im pl ra re rm rf sd th ++ B)) (as := [mp_i k, mp_i 0, mp_i ((s 0) - 1)]) (st := []) (st1 := [mp_i (if 0 ≤ k ∧ k ≤ ((s 0) - 1) then 1 else 0)]) dX12_isMeteor_10 ssX12_53 (zX12_isIn (v := k) (a := 0) (b := ((s 0) - 1))  (by first | with_reducible assumption | omega) (by first | with_reducible assumption | omega) (by first | with_reducible assumption | omega)) ⟨Nat.le_of_ble_eq_true rfl, Nat.le_of_ble_eq_true rfl, Nat.le_of_ble_eq_true rfl, Nat.le_of_ble_eq_true rfl, Nat.le_of_ble_eq_true rfl⟩ rfl rfl rfl rfl ?_
  exact mp_zreturn (st := []) dX12_isMeteor_13 rfl mp_nzb ⟨by decide, by decide⟩ ((mp_ans (by first | with_reducible rfl | omega | rfl)))
theorem zX12_wrongRow {s m img was num pro ask kp kk kf so sz el : Int → Int} {im pl ra re rm rf sd th : Int} {A B : mp_H}  {d : Int} {o : Int} (hA : A.length = 44) (hh : ∀ d, 0 ≤ d → d ≤ 7 → mp_shf kp kk kf so sz d) (h_d : mp_w d) (h_o : mp_w o) : mp_Call (mX12_wrongRow, 2, 0, 0) [Value.ref 44, mp_i d, mp_i o] (A ++ (mp_ms s m img was num pro ask kp kk kf so sz el im pl ra re rm rf sd th ++ B)) (some (mp_i (sp_wrongRow kp so d o)), A ++ (mp_ms s m img was num pro ask kp kk kf so sz el im pl ra re rm rf sd th ++ B)) := by
  refine mp_Call.of (L := [some (Value.ref 44), some (mp_i d), some (mp_i o)]) pnX12 (Nat.le_of_ble_eq_true rfl) rfl ?_
  refine mp_iload_n dX12_wrongRow_0 rfl ?_
  refine mp_invS (z := (mX12_isShelf, 1, 0, 0)) (K' := (0, 0)) (σ1 := A ++ (mp_ms s m img was num pro ask kp kk kf so sz el im pl ra re rm rf sd th ++ B)) (as := [mp_i d]) (st := []) (st1 := [mp_i (if 0 ≤ d ∧ d ≤ 7 then 1 else 0)]) dX12_wrongRow_1 ssX12_246 (zX12_isShelf (d := d)  (by first | with_reducible assumption | omega)) ⟨Nat.le_of_ble_eq_true rfl, Nat.le_of_ble_eq_true rfl, Nat.le_of_ble_eq_true rfl, Nat.le_of_ble_eq_true rfl, Nat.le_of_ble_eq_true rfl⟩ rfl rfl rfl rfl ?_
  refine mp_ifb_ne (tgt := 11) dX12_wrongRow_4 rfl (fun h1 => ?_) (fun h1 => ?_)
  · have hb := hh d (by omega) (by omega)
    refine mp_aload_n dX12_wrongRow_11 rfl ?_
    refine mp_getfield dX12_wrongRow_12 fsX12_31_11 (mp_lk hA 0 rfl) rfl ?_
    refine mp_iload_n dX12_wrongRow_15 rfl ?_
    refine mp_iald dX12_wrongRow_16 (mp_lk hA 8 rfl) ⟨by omega, by omega⟩ (by omega) ?_
    refine mp_if_ne (tgt := 25) dX12_wrongRow_17 rfl ⟨by omega, by omega⟩ (fun h2 => ?_) (fun h2 => ?_)
    · refine mp_aload_n dX12_wrongRow_25 rfl ?_
      refine mp_getfield dX12_wrongRow_26 fsX12_31_11 (mp_lk hA 0 rfl) rfl ?_
      refine mp_iload_n dX12_wrongRow_29 rfl ?_
      refine mp_iald dX12_wrongRow_30 (mp_lk hA 8 rfl) ⟨by omega, by omega⟩ (by omega) ?_
      refine mp_iconst dX12_wrongRow_31 ?_
      refine mp_icmp_ne (tgt := 49) dX12_wrongRow_32 rfl ⟨by omega, by omega⟩ ⟨by omega, by omega⟩ (fun h3 => ?_) (fun h3 => ?_)
      · refine mp_bipush dX12_wrongRow_49 rfl ?_
        refine mp_goto (tgt := 55) dX12_wrongRow_51 rfl ?_
        exact mp_ireturn (st := []) dX12_wrongRow_55 rfl ⟨by decide, by decide⟩ ((mp_ans (by unfold sp_wrongRow; omega)))
      · refine mp_iload_n dX12_wrongRow_35 rfl ?_
        refine mp_if_lt (tgt := 54) dX12_wrongRow_36 rfl ⟨by omega, by omega⟩ (fun h4 => ?_) (fun h4 => ?_)
        · refine mp_iconst dX12_wrongRow_54 ?_
          exact mp_ireturn (st := []) dX12_wrongRow_55 rfl ⟨by decide, by decide⟩ ((mp_ans (by unfold sp_wrongRow; omega)))
        · refine mp_aload_n dX12_wrongRow_39 rfl ?_
          refine mp_getfield dX12_wrongRow_40 fsX12_40_11 (mp_lk hA 0 rfl) rfl ?_
          refine mp_iload_n dX12_wrongRow_43 rfl ?_
          refine mp_iald dX12_wrongRow_44 (mp_lk hA 11 rfl) ⟨by omega, by omega⟩ (by omega) ?_
          refine mp_iload_n dX12_wrongRow_45 rfl ?_
          refine mp_icmp_eq (tgt := 54) dX12_wrongRow_46 rfl ⟨by omega, by omega⟩ ⟨by omega, by omega⟩ (fun h5 => ?_) (fun h5 => ?_)
          · refine mp_iconst dX12_wrongRow_54 ?_
            exact mp_ireturn (st := []) dX12_wrongRow_55 rfl ⟨by decide, by decide⟩ ((mp_ans (by unfold sp_wrongRow; omega)))
          · refine mp_bipush dX12_wrongRow_49 rfl ?_
            refine mp_goto (tgt := 55) dX12_wrongRow_51 rfl ?_
            exact mp_ireturn (st := []) dX12_wrongRow_55 rfl ⟨by decide, by decide⟩ ((mp_ans (by unfold sp_wrongRow; omega)))
    · refine mp_bipush dX12_wrongRow_20 rfl ?_
      refine mp_goto (tgt := 55) dX12_wrongRow_22 rfl ?_
      exact mp_ireturn (st := []) dX12_wrongRow_55 rfl ⟨by decide, by decide⟩ ((mp_ans (by unfold sp_wrongRow; omega)))
  · refine mp_iconst dX12_wrongRow_7 ?_
    refine mp_goto (tgt := 55) dX12_wrongRow_8 rfl ?_
    exact mp_ireturn (st := []) dX12_wrongRow_55 rfl ⟨by decide, by decide⟩ ((mp_ans (by unfold sp_wrongRow; omega)))
theorem zX12_wrongKept {s m img was num pro ask kp kk kf so sz el : Int → Int} {im pl ra re rm rf sd th : Int} {A B : mp_H}  {d : Int} (hA : A.length = 44) (hh : ∀ d, 0 ≤ d → d ≤ 7 → mp_shf kp kk kf so sz d) (h_d : mp_w d) : mp_Call (mX12_wrongKept, 2, 0, 0) [Value.ref 44, mp_i d] (A ++ (mp_ms s m img was num pro ask kp kk kf so sz el im pl ra re rm rf sd th ++ B)) (some (mp_i (sp_wrongKept kp d)), A ++ (mp_ms s m img was num pro ask kp kk kf so sz el im pl ra re rm rf sd th ++ B)) := by
  refine mp_Call.of (L := [some (Value.ref 44), some (mp_i d)]) pnX12 (Nat.le_of_ble_eq_true rfl) rfl ?_
  refine mp_iload_n dX12_wrongKept_0 rfl ?_
  refine mp_invS (z := (mX12_isShelf, 1, 0, 0)) (K' := (0, 0)) (σ1 := A ++ (mp_ms s m img was num pro ask kp kk kf so sz el im pl ra re rm rf sd th ++ B)) (as := [mp_i d]) (st := []) (st1 := [mp_i (if 0 ≤ d ∧ d ≤ 7 then 1 else 0)]) dX12_wrongKept_1 ssX12_246 (zX12_isShelf (d := d)  (by first | with_reducible assumption | omega)) ⟨Nat.le_of_ble_eq_true rfl, Nat.le_of_ble_eq_true rfl, Nat.le_of_ble_eq_true rfl, Nat.le_of_ble_eq_true rfl, Nat.le_of_ble_eq_true rfl⟩ rfl rfl rfl rfl ?_
  refine mp_ifb_ne (tgt := 11) dX12_wrongKept_4 rfl (fun h1 => ?_) (fun h1 => ?_)
  · have hb := hh d (by omega) (by omega)
    refine mp_aload_n dX12_wrongKept_11 rfl ?_
    refine mp_getfield dX12_wrongKept_12 fsX12_31_11 (mp_lk hA 0 rfl) rfl ?_
    refine mp_iload_n dX12_wrongKept_15 rfl ?_
    refine mp_iald dX12_wrongKept_16 (mp_lk hA 8 rfl) ⟨by omega, by omega⟩ (by omega) ?_
    refine mp_if_ne (tgt := 25) dX12_wrongKept_17 rfl ⟨by omega, by omega⟩ (fun h2 => ?_) (fun h2 => ?_)
    · refine mp_aload_n dX12_wrongKept_25 rfl ?_
      refine mp_getfield dX12_wrongKept_26 fsX12_31_11 (mp_lk hA 0 rfl) rfl ?_
      refine mp_iload_n dX12_wrongKept_29 rfl ?_
      refine mp_iald dX12_wrongKept_30 (mp_lk hA 8 rfl) ⟨by omega, by omega⟩ (by omega) ?_
      refine mp_iconst dX12_wrongKept_31 ?_
      refine mp_icmp_ne (tgt := 40) dX12_wrongKept_32 rfl ⟨by omega, by omega⟩ ⟨by omega, by omega⟩ (fun h3 => ?_) (fun h3 => ?_)
      · refine mp_iconst dX12_wrongKept_40 ?_
        exact mp_ireturn (st := []) dX12_wrongKept_41 rfl ⟨by decide, by decide⟩ ((mp_ans (by unfold sp_wrongKept; omega)))
      · refine mp_bipush dX12_wrongKept_35 rfl ?_
        refine mp_goto (tgt := 41) dX12_wrongKept_37 rfl ?_
        exact mp_ireturn (st := []) dX12_wrongKept_41 rfl ⟨by decide, by decide⟩ ((mp_ans (by unfold sp_wrongKept; omega)))
    · refine mp_bipush dX12_wrongKept_20 rfl ?_
      refine mp_goto (tgt := 41) dX12_wrongKept_22 rfl ?_
      exact mp_ireturn (st := []) dX12_wrongKept_41 rfl ⟨by decide, by decide⟩ ((mp_ans (by unfold sp_wrongKept; omega)))
  · refine mp_iconst dX12_wrongKept_7 ?_
    refine mp_goto (tgt := 41) dX12_wrongKept_8 rfl ?_
    exact mp_ireturn (st := []) dX12_wrongKept_41 rfl ⟨by decide, by decide⟩ ((mp_ans (by unfold sp_wrongKept; omega)))
