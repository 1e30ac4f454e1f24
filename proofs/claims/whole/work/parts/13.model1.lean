theorem zX12_lasts {k : Int} {f : Int} {σ : mp_H} (h_k : mp_w k) (h_f : 0 ≤ f ∧ f ≤ 9) : mp_Call (mX12_lasts, 0, 0, 0) [mp_i k, mp_i f] σ (some (mp_i (sp_lasts k f)), σ) := by
  refine mp_Call.of (L := [some (mp_i k), some (mp_i f), none]) pnX12 (Nat.le_of_ble_eq_true rfl) rfl ?_
  refine mp_iconst dX12_lasts_0 ?_
  refine mp_iload_n dX12_lasts_1 rfl ?_
  refine mp_iconst dX12_lasts_2 ?_
  refine mp_idiv (z := f / 3) dX12_lasts_3 ⟨by omega, by omega⟩ ⟨by omega, by omega⟩ rfl ?_
  refine mp_iadd (z := 3 + (f / 3)) dX12_lasts_4 (by first | rfl | omega) ?_
  refine mp_istore_n (L' := [some (mp_i k), some (mp_i f), some (mp_i (3 + (f / 3)))]) dX12_lasts_5 rfl (by decide) rfl ?_
  refine mp_iload_n dX12_lasts_6 rfl ?_
  by_cases q1 : k = 1
  · refine mp_top (y := 1) q1 ?_
    refine mp_tableIn (tgt := 48) (off := 41) dX12_lasts_7 ⟨by decide, by decide⟩ (by decide) (by decide) rfl rfl ?_
    refine mp_iconst dX12_lasts_48 ?_
    refine mp_iload_n dX12_lasts_49 rfl ?_
    refine mp_imul (z := 2 * (3 + (f / 3))) dX12_lasts_50 (by first | rfl | omega) ?_
    exact mp_ireturn (st := []) dX12_lasts_51 rfl ⟨by decide, by decide⟩ ((mp_ans (by first | rfl | (unfold sp_lasts; omega))))
  by_cases q2 : k = 2
  · refine mp_top (y := 2) q2 ?_
    refine mp_tableIn (tgt := 70) (off := 63) dX12_lasts_7 ⟨by decide, by decide⟩ (by decide) (by decide) rfl rfl ?_
    refine mp_iload_n dX12_lasts_70 rfl ?_
    exact mp_ireturn (st := []) dX12_lasts_71 rfl ⟨by decide, by decide⟩ ((mp_ans (by first | rfl | (unfold sp_lasts; omega))))
  by_cases q3 : k = 3
  · refine mp_top (y := 3) q3 ?_
    refine mp_tableIn (tgt := 52) (off := 45) dX12_lasts_7 ⟨by decide, by decide⟩ (by decide) (by decide) rfl rfl ?_
    refine mp_iload_n dX12_lasts_52 rfl ?_
    refine mp_iconst dX12_lasts_53 ?_
    refine mp_isub (z := (3 + (f / 3)) - 1) dX12_lasts_54 (by first | rfl | omega) ?_
    exact mp_ireturn (st := []) dX12_lasts_55 rfl ⟨by decide, by decide⟩ ((mp_ans (by first | rfl | (unfold sp_lasts; omega))))
  by_cases q4 : k = 4
  · refine mp_top (y := 4) q4 ?_
    refine mp_tableIn (tgt := 56) (off := 49) dX12_lasts_7 ⟨by decide, by decide⟩ (by decide) (by decide) rfl rfl ?_
    refine mp_iconst dX12_lasts_56 ?_
    refine mp_iload_n dX12_lasts_57 rfl ?_
    refine mp_imul (z := 2 * (3 + (f / 3))) dX12_lasts_58 (by first | rfl | omega) ?_
    refine mp_iconst dX12_lasts_59 ?_
    refine mp_iadd (z := (2 * (3 + (f / 3))) + 2) dX12_lasts_60 (by first | rfl | omega) ?_
    exact mp_ireturn (st := []) dX12_lasts_61 rfl ⟨by decide, by decide⟩ ((mp_ans (by first | rfl | (unfold sp_lasts; omega))))
  by_cases q5 : k = 5
  · refine mp_top (y := 5) q5 ?_
    refine mp_tableIn (tgt := 70) (off := 63) dX12_lasts_7 ⟨by decide, by decide⟩ (by decide) (by decide) rfl rfl ?_
    refine mp_iload_n dX12_lasts_70 rfl ?_
    exact mp_ireturn (st := []) dX12_lasts_71 rfl ⟨by decide, by decide⟩ ((mp_ans (by first | rfl | (unfold sp_lasts; omega))))
  by_cases q6 : k = 6
  · refine mp_top (y := 6) q6 ?_
    refine mp_tableIn (tgt := 62) (off := 55) dX12_lasts_7 ⟨by decide, by decide⟩ (by decide) (by decide) rfl rfl ?_
    refine mp_iload_n dX12_lasts_62 rfl ?_
    refine mp_iload_n dX12_lasts_63 rfl ?_
    refine mp_iconst dX12_lasts_64 ?_
    refine mp_idiv (z := f / 2) dX12_lasts_65 ⟨by omega, by omega⟩ ⟨by omega, by omega⟩ rfl ?_
    refine mp_iadd (z := (3 + (f / 3)) + (f / 2)) dX12_lasts_66 (by first | rfl | omega) ?_
    exact mp_ireturn (st := []) dX12_lasts_67 rfl ⟨by decide, by decide⟩ ((mp_ans (by first | rfl | (unfold sp_lasts; omega))))
  by_cases q7 : k = 7
  · refine mp_top (y := 7) q7 ?_
    refine mp_tableIn (tgt := 68) (off := 61) dX12_lasts_7 ⟨by decide, by decide⟩ (by decide) (by decide) rfl rfl ?_
    refine mp_iconst dX12_lasts_68 ?_
    exact mp_ireturn (st := []) dX12_lasts_69 rfl ⟨by decide, by decide⟩ ((mp_ans (by first | rfl | (unfold sp_lasts; omega))))
  refine mp_tableOut (tgt := 70) dX12_lasts_7 ⟨by omega, by omega⟩ (by omega) rfl ?_
  refine mp_iload_n dX12_lasts_70 rfl ?_
  exact mp_ireturn (st := []) dX12_lasts_71 rfl ⟨by decide, by decide⟩ ((mp_ans (by first | rfl | (unfold sp_lasts; omega))))
theorem zX12_bright {k : Int} {f : Int} {σ : mp_H} (h_k : mp_w k) (h_f : 0 ≤ f ∧ f ≤ 9) : mp_Call (mX12_bright, 0, 0, 0) [mp_i k, mp_i f] σ (some (mp_i (sp_bright k f)), σ) := by
  refine mp_Call.of (L := [some (mp_i k), some (mp_i f)]) pnX12 (Nat.le_of_ble_eq_true rfl) rfl ?_
  refine mp_iload_n dX12_bright_0 rfl ?_
  by_cases q1 : k = 1
  · refine mp_top (y := 1) q1 ?_
    refine mp_tableIn (tgt := 44) (off := 43) dX12_bright_1 ⟨by decide, by decide⟩ (by decide) (by decide) rfl rfl ?_
    refine mp_iconst dX12_bright_44 ?_
    exact mp_ireturn (st := []) dX12_bright_45 rfl ⟨by decide, by decide⟩ ((mp_ans (by first | rfl | (unfold sp_bright; omega))))
  by_cases q2 : k = 2
  · refine mp_top (y := 2) q2 ?_
    refine mp_tableIn (tgt := 46) (off := 45) dX12_bright_1 ⟨by decide, by decide⟩ (by decide) (by decide) rfl rfl ?_
    refine mp_iconst dX12_bright_46 ?_
    exact mp_ireturn (st := []) dX12_bright_47 rfl ⟨by decide, by decide⟩ ((mp_ans (by first | rfl | (unfold sp_bright; omega))))
  by_cases q3 : k = 3
  · refine mp_top (y := 3) q3 ?_
    refine mp_tableIn (tgt := 48) (off := 47) dX12_bright_1 ⟨by decide, by decide⟩ (by decide) (by decide) rfl rfl ?_
    refine mp_iconst dX12_bright_48 ?_
    refine mp_iload_n dX12_bright_49 rfl ?_
    refine mp_iconst dX12_bright_50 ?_
    refine mp_idiv (z := f / 2) dX12_bright_51 ⟨by omega, by omega⟩ ⟨by omega, by omega⟩ rfl ?_
    refine mp_iadd (z := 2 + (f / 2)) dX12_bright_52 (by first | rfl | omega) ?_
    exact mp_ireturn (st := []) dX12_bright_53 rfl ⟨by decide, by decide⟩ ((mp_ans (by first | rfl | (unfold sp_bright; omega))))
  by_cases q4 : k = 4
  · refine mp_top (y := 4) q4 ?_
    refine mp_tableIn (tgt := 44) (off := 43) dX12_bright_1 ⟨by decide, by decide⟩ (by decide) (by decide) rfl rfl ?_
    refine mp_iconst dX12_bright_44 ?_
    exact mp_ireturn (st := []) dX12_bright_45 rfl ⟨by decide, by decide⟩ ((mp_ans (by first | rfl | (unfold sp_bright; omega))))
  by_cases q5 : k = 5
  · refine mp_top (y := 5) q5 ?_
    refine mp_tableIn (tgt := 54) (off := 53) dX12_bright_1 ⟨by decide, by decide⟩ (by decide) (by decide) rfl rfl ?_
    refine mp_iconst dX12_bright_54 ?_
    exact mp_ireturn (st := []) dX12_bright_55 rfl ⟨by decide, by decide⟩ ((mp_ans (by first | rfl | (unfold sp_bright; omega))))
  by_cases q6 : k = 6
  · refine mp_top (y := 6) q6 ?_
    refine mp_tableIn (tgt := 64) (off := 63) dX12_bright_1 ⟨by decide, by decide⟩ (by decide) (by decide) rfl rfl ?_
    refine mp_iconst dX12_bright_64 ?_
    exact mp_ireturn (st := []) dX12_bright_65 rfl ⟨by decide, by decide⟩ ((mp_ans (by first | rfl | (unfold sp_bright; omega))))
  by_cases q7 : k = 7
  · refine mp_top (y := 7) q7 ?_
    refine mp_tableIn (tgt := 56) (off := 55) dX12_bright_1 ⟨by decide, by decide⟩ (by decide) (by decide) rfl rfl ?_
    refine mp_iconst dX12_bright_56 ?_
    refine mp_iconst dX12_bright_57 ?_
    refine mp_iload_n dX12_bright_58 rfl ?_
    refine mp_iconst dX12_bright_59 ?_
    refine mp_idiv (z := f / 2) dX12_bright_60 ⟨by omega, by omega⟩ ⟨by omega, by omega⟩ rfl ?_
    refine mp_iadd (z := 2 + (f / 2)) dX12_bright_61 (by first | rfl | omega) ?_
    refine mp_imul (z := 2 * (2 + (f / 2))) dX12_bright_62 (by first | rfl | omega) ?_
    exact mp_ireturn (st := []) dX12_bright_63 rfl ⟨by decide, by decide⟩ ((mp_ans (by first | rfl | (unfold sp_bright; omega))))
  refine mp_tableOut (tgt := 64) dX12_bright_1 ⟨by omega, by omega⟩ (by omega) rfl ?_
  refine mp_iconst dX12_bright_64 ?_
  exact mp_ireturn (st := []) dX12_bright_65 rfl ⟨by decide, by decide⟩ ((mp_ans (by first | rfl | (unfold sp_bright; omega))))
theorem zX12_period {k : Int} {f : Int} {σ : mp_H} (h_k : mp_w k) (h_f : 0 ≤ f ∧ f ≤ 9) : mp_Call (mX12_period, 0, 0, 0) [mp_i k, mp_i f] σ (some (mp_i (sp_period k f)), σ) := by
  refine mp_Call.of (L := [some (mp_i k), some (mp_i f)]) pnX12 (Nat.le_of_ble_eq_true rfl) rfl ?_
  refine mp_iload_n dX12_period_0 rfl ?_
  by_cases q1 : k = 1
  · refine mp_top (y := 1) q1 ?_
    refine mp_tableIn (tgt := 44) (off := 43) dX12_period_1 ⟨by decide, by decide⟩ (by decide) (by decide) rfl rfl ?_
    refine mp_iconst dX12_period_44 ?_
    refine mp_iload_n dX12_period_45 rfl ?_
    refine mp_iadd (z := 5 + f) dX12_period_46 (by first | rfl | omega) ?_
    exact mp_ireturn (st := []) dX12_period_47 rfl ⟨by decide, by decide⟩ ((mp_ans (by first | rfl | (unfold sp_period; omega))))
  by_cases q2 : k = 2
  · refine mp_top (y := 2) q2 ?_
    refine mp_tableIn (tgt := 48) (off := 47) dX12_period_1 ⟨by decide, by decide⟩ (by decide) (by decide) rfl rfl ?_
    refine mp_bipush dX12_period_48 rfl ?_
    refine mp_iconst dX12_period_50 ?_
    refine mp_iload_n dX12_period_51 rfl ?_
    refine mp_imul (z := 2 * f) dX12_period_52 (by first | rfl | omega) ?_
    refine mp_iadd (z := 6 + (2 * f)) dX12_period_53 (by first | rfl | omega) ?_
    exact mp_ireturn (st := []) dX12_period_54 rfl ⟨by decide, by decide⟩ ((mp_ans (by first | rfl | (unfold sp_period; omega))))
  by_cases q3 : k = 3
  · refine mp_top (y := 3) q3 ?_
    refine mp_tableIn (tgt := 72) (off := 71) dX12_period_1 ⟨by decide, by decide⟩ (by decide) (by decide) rfl rfl ?_
    refine mp_iconst dX12_period_72 ?_
    refine mp_iload_n dX12_period_73 rfl ?_
    refine mp_iadd (z := 3 + f) dX12_period_74 (by first | rfl | omega) ?_
    exact mp_ireturn (st := []) dX12_period_75 rfl ⟨by decide, by decide⟩ ((mp_ans (by first | rfl | (unfold sp_period; omega))))
  by_cases q4 : k = 4
  · refine mp_top (y := 4) q4 ?_
    refine mp_tableIn (tgt := 44) (off := 43) dX12_period_1 ⟨by decide, by decide⟩ (by decide) (by decide) rfl rfl ?_
    refine mp_iconst dX12_period_44 ?_
    refine mp_iload_n dX12_period_45 rfl ?_
    refine mp_iadd (z := 5 + f) dX12_period_46 (by first | rfl | omega) ?_
    exact mp_ireturn (st := []) dX12_period_47 rfl ⟨by decide, by decide⟩ ((mp_ans (by first | rfl | (unfold sp_period; omega))))
  by_cases q5 : k = 5
  · refine mp_top (y := 5) q5 ?_
    refine mp_tableIn (tgt := 48) (off := 47) dX12_period_1 ⟨by decide, by decide⟩ (by decide) (by decide) rfl rfl ?_
    refine mp_bipush dX12_period_48 rfl ?_
    refine mp_iconst dX12_period_50 ?_
    refine mp_iload_n dX12_period_51 rfl ?_
    refine mp_imul (z := 2 * f) dX12_period_52 (by first | rfl | omega) ?_
    refine mp_iadd (z := 6 + (2 * f)) dX12_period_53 (by first | rfl | omega) ?_
    exact mp_ireturn (st := []) dX12_period_54 rfl ⟨by decide, by decide⟩ ((mp_ans (by first | rfl | (unfold sp_period; omega))))
  by_cases q6 : k = 6
  · refine mp_top (y := 6) q6 ?_
    refine mp_tableIn (tgt := 55) (off := 54) dX12_period_1 ⟨by decide, by decide⟩ (by decide) (by decide) rfl rfl ?_
    refine mp_iload_n dX12_period_55 rfl ?_
    refine mp_bipush dX12_period_56 rfl ?_
    refine mp_icmp_lt (tgt := 66) dX12_period_58 rfl ⟨by omega, by omega⟩ ⟨by omega, by omega⟩ (fun h7 => ?_) (fun h7 => ?_)
    · refine mp_iconst dX12_period_66 ?_
      refine mp_iload_n dX12_period_67 rfl ?_
      refine mp_iadd (z := 3 + f) dX12_period_68 (by first | rfl | omega) ?_
      exact mp_ireturn (st := []) dX12_period_69 rfl ⟨by decide, by decide⟩ ((mp_ans (by first | rfl | (unfold sp_period; omega))))
    · refine mp_bipush dX12_period_61 rfl ?_
      refine mp_goto (tgt := 69) dX12_period_63 rfl ?_
      exact mp_ireturn (st := []) dX12_period_69 rfl ⟨by decide, by decide⟩ ((mp_ans (by first | rfl | (unfold sp_period; omega))))
  by_cases q8 : k = 7
  · refine mp_top (y := 7) q8 ?_
    refine mp_tableIn (tgt := 70) (off := 69) dX12_period_1 ⟨by decide, by decide⟩ (by decide) (by decide) rfl rfl ?_
    refine mp_iconst dX12_period_70 ?_
    exact mp_ireturn (st := []) dX12_period_71 rfl ⟨by decide, by decide⟩ ((mp_ans (by first | rfl | (unfold sp_period; omega))))
  refine mp_tableOut (tgt := 72) dX12_period_1 ⟨by omega, by omega⟩ (by omega) rfl ?_
  refine mp_iconst dX12_period_72 ?_
  refine mp_iload_n dX12_period_73 rfl ?_
  refine mp_iadd (z := 3 + f) dX12_period_74 (by first | rfl | omega) ?_
  exact mp_ireturn (st := []) dX12_period_75 rfl ⟨by decide, by decide⟩ ((mp_ans (by first | rfl | (unfold sp_period; omega))))
theorem zX12_heat {k : Int} {f : Int} {σ : mp_H} (h_k : mp_w k) (h_f : 0 ≤ f ∧ f ≤ 9) : mp_Call (mX12_heat, 1, 0, 0) [mp_i k, mp_i f] σ (some (mp_i (sp_heat k f)), σ) := by
  refine mp_Call.of (L := [some (mp_i k), some (mp_i f)]) pnX12 (Nat.le_of_ble_eq_true rfl) rfl ?_
  refine mp_iload_n dX12_heat_0 rfl ?_
  by_cases q1 : k = 3
  · refine mp_top (y := 3) q1 ?_
    refine mp_tableIn (tgt := 28) (off := 27) dX12_heat_1 ⟨by decide, by decide⟩ (by decide) (by decide) rfl rfl ?_
    refine mp_iconst dX12_heat_28 ?_
    refine mp_iload_n dX12_heat_29 rfl ?_
    refine mp_imul (z := 2 * f) dX12_heat_30 (by first | rfl | omega) ?_
    exact mp_ireturn (st := []) dX12_heat_31 rfl ⟨by decide, by decide⟩ ((mp_ans (by first | rfl | (unfold sp_heat; omega))))
  by_cases q2 : k = 4
  · refine mp_top (y := 4) q2 ?_
    refine mp_tableIn (tgt := 32) (off := 31) dX12_heat_1 ⟨by decide, by decide⟩ (by decide) (by decide) rfl rfl ?_
    refine mp_iconst dX12_heat_32 ?_
    refine mp_iload_n dX12_heat_33 rfl ?_
    refine mp_iconst dX12_heat_34 ?_
    refine mp_isub (z := f - 3) dX12_heat_35 (by first | rfl | omega) ?_
    refine mp_invS (z := (mX12_most, 0, 0, 0)) (K' := (0, 0)) (σ1 := σ) (as := [mp_i 0, mp_i (f - 3)]) (st := []) (st1 := [mp_i (if (f - 3) < 0 then 0 else (f - 3))]) dX12_heat_36 ssX12_57 (zX12_most (a := 0) (b := (f - 3))  (by first | with_reducible assumption | omega) (by first | with_reducible assumption | omega)) ⟨Nat.le_of_ble_eq_true rfl, Nat.le_of_ble_eq_true rfl, Nat.le_of_ble_eq_true rfl, Nat.le_of_ble_eq_true rfl, Nat.le_of_ble_eq_true rfl⟩ rfl rfl rfl rfl ?_
    exact mp_ireturn (st := []) dX12_heat_39 rfl ⟨by decide, by decide⟩ ((mp_ans (by first | rfl | (unfold sp_heat; omega))))
  by_cases q3 : k = 5
  · refine mp_top (y := 5) q3 ?_
    refine mp_tableIn (tgt := 40) (off := 39) dX12_heat_1 ⟨by decide, by decide⟩ (by decide) (by decide) rfl rfl ?_
    refine mp_iconst dX12_heat_40 ?_
    exact mp_ireturn (st := []) dX12_heat_41 rfl ⟨by decide, by decide⟩ ((mp_ans (by first | rfl | (unfold sp_heat; omega))))
  refine mp_tableOut (tgt := 42) dX12_heat_1 ⟨by omega, by omega⟩ (by omega) rfl ?_
  refine mp_iload_n dX12_heat_42 rfl ?_
  exact mp_ireturn (st := []) dX12_heat_43 rfl ⟨by decide, by decide⟩ ((mp_ans (by first | rfl | (unfold sp_heat; omega))))
theorem zX12_costBy {k : Int} {f : Int} {σ : mp_H} (h_k : mp_w k) (h_f : 0 ≤ f ∧ f ≤ 9) : mp_Call (mX12_costBy, 0, 0, 0) [mp_i k, mp_i f] σ (some (mp_i (sp_cost k f)), σ) := by
  refine mp_Call.of (L := [some (mp_i k), some (mp_i f)]) pnX12 (Nat.le_of_ble_eq_true rfl) rfl ?_
  refine mp_iload_n dX12_costBy_0 rfl ?_
  by_cases q1 : k = 1
  · refine mp_top (y := 1) q1 ?_
    refine mp_tableIn (tgt := 40) (off := 39) dX12_costBy_1 ⟨by decide, by decide⟩ (by decide) (by decide) rfl rfl ?_
    refine mp_iconst dX12_costBy_40 ?_
    refine mp_iload_n dX12_costBy_41 rfl ?_
    refine mp_iadd (z := 4 + f) dX12_costBy_42 (by first | rfl | omega) ?_
    exact mp_ireturn (st := []) dX12_costBy_43 rfl ⟨by decide, by decide⟩ ((mp_ans (by first | rfl | (unfold sp_cost; omega))))
  by_cases q2 : k = 2
  · refine mp_top (y := 2) q2 ?_
    refine mp_tableIn (tgt := 44) (off := 43) dX12_costBy_1 ⟨by decide, by decide⟩ (by decide) (by decide) rfl rfl ?_
    refine mp_iconst dX12_costBy_44 ?_
    exact mp_ireturn (st := []) dX12_costBy_45 rfl ⟨by decide, by decide⟩ ((mp_ans (by first | rfl | (unfold sp_cost; omega))))
  by_cases q3 : k = 3
  · refine mp_top (y := 3) q3 ?_
    refine mp_tableIn (tgt := 46) (off := 45) dX12_costBy_1 ⟨by decide, by decide⟩ (by decide) (by decide) rfl rfl ?_
    refine mp_bipush dX12_costBy_46 rfl ?_
    exact mp_ireturn (st := []) dX12_costBy_48 rfl ⟨by decide, by decide⟩ ((mp_ans (by first | rfl | (unfold sp_cost; omega))))
  by_cases q4 : k = 4
  · refine mp_top (y := 4) q4 ?_
    refine mp_tableIn (tgt := 49) (off := 48) dX12_costBy_1 ⟨by decide, by decide⟩ (by decide) (by decide) rfl rfl ?_
    refine mp_bipush dX12_costBy_49 rfl ?_
    refine mp_iload_n dX12_costBy_51 rfl ?_
    refine mp_iadd (z := 7 + f) dX12_costBy_52 (by first | rfl | omega) ?_
    exact mp_ireturn (st := []) dX12_costBy_53 rfl ⟨by decide, by decide⟩ ((mp_ans (by first | rfl | (unfold sp_cost; omega))))
  by_cases q5 : k = 5
  · refine mp_top (y := 5) q5 ?_
    refine mp_tableIn (tgt := 54) (off := 53) dX12_costBy_1 ⟨by decide, by decide⟩ (by decide) (by decide) rfl rfl ?_
    refine mp_iconst dX12_costBy_54 ?_
    refine mp_iload_n dX12_costBy_55 rfl ?_
    refine mp_iadd (z := 1 + f) dX12_costBy_56 (by first | rfl | omega) ?_
    exact mp_ireturn (st := []) dX12_costBy_57 rfl ⟨by decide, by decide⟩ ((mp_ans (by first | rfl | (unfold sp_cost; omega))))
  by_cases q6 : k = 6
  · refine mp_top (y := 6) q6 ?_
    refine mp_tableIn (tgt := 58) (off := 57) dX12_costBy_1 ⟨by decide, by decide⟩ (by decide) (by decide) rfl rfl ?_
    refine mp_bipush dX12_costBy_58 rfl ?_
    exact mp_ireturn (st := []) dX12_costBy_60 rfl ⟨by decide, by decide⟩ ((mp_ans (by first | rfl | (unfold sp_cost; omega))))
  refine mp_tableOut (tgt := 61) dX12_costBy_1 ⟨by omega, by omega⟩ (by omega) rfl ?_
  refine mp_iconst dX12_costBy_61 ?_
  exact mp_ireturn (st := []) dX12_costBy_62 rfl ⟨by decide, by decide⟩ ((mp_ans (by first | rfl | (unfold sp_cost; omega))))
theorem zX12_lastsOf {s : Int → Int} {r : Nat} {k : Int} {σ : mp_H} (hr : σ[r]? = some (mp_I 64 (mp_F s))) (h_k : 0 ≤ k ∧ k ≤ 7) (hm : mp_met s k) : mp_Call (mX12_lastsOf, 1, 0, 0) [Value.ref r, mp_i k] σ (some (mp_i (sp_lasts (s (1 + 6 * k + 0)) (s (1 + 6 * k + 1)))), σ) := by
  refine mp_Call.of (L := [some (Value.ref r), some (mp_i k)]) pnX12 (Nat.le_of_ble_eq_true rfl) rfl ?_
  refine mp_aload_n dX12_lastsOf_0 rfl ?_
  refine mp_iload_n dX12_lastsOf_1 rfl ?_
  refine mp_iconst dX12_lastsOf_2 ?_
  refine mp_invS (z := (mX12_of, 0, 0, 0)) (K' := (0, 0)) (σ1 := σ) (as := [mp_i k, mp_i 0]) (st := [Value.ref r]) (st1 := [mp_i (1 + 6 * k + 0), Value.ref r]) dX12_lastsOf_3 ssX12_60 (zX12_of (k := k) (x := 0)  ) ⟨Nat.le_of_ble_eq_true rfl, Nat.le_of_ble_eq_true rfl, Nat.le_of_ble_eq_true rfl, Nat.le_of_ble_eq_true rfl, Nat.le_of_ble_eq_true rfl⟩ rfl rfl rfl rfl ?_
  refine mp_iald dX12_lastsOf_6 hr ⟨by omega, by omega⟩ (by omega) ?_
  refine mp_aload_n dX12_lastsOf_7 rfl ?_
  refine mp_iload_n dX12_lastsOf_8 rfl ?_
  refine mp_iconst dX12_lastsOf_9 ?_
  refine mp_invS (z := (mX12_of, 0, 0, 0)) (K' := (0, 0)) (σ1 := σ) (as := [mp_i k, mp_i 1]) (st := [Value.ref r, mp_i (s (1 + 6 * k + 0))]) (st1 := [mp_i (1 + 6 * k + 1), Value.ref r, mp_i (s (1 + 6 * k + 0))]) dX12_lastsOf_10 ssX12_60 (zX12_of (k := k) (x := 1)  ) ⟨Nat.le_of_ble_eq_true rfl, Nat.le_of_ble_eq_true rfl, Nat.le_of_ble_eq_true rfl, Nat.le_of_ble_eq_true rfl, Nat.le_of_ble_eq_true rfl⟩ rfl rfl rfl rfl ?_
  refine mp_iald dX12_lastsOf_13 hr ⟨by omega, by omega⟩ (by omega) ?_
  refine mp_invS (z := (mX12_lasts, 0, 0, 0)) (K' := (0, 0)) (σ1 := σ) (as := [mp_i (s (1 + 6 * k + 0)), mp_i (s (1 + 6 * k + 1))]) (st := []) (st1 := [mp_i (sp_lasts (s (1 + 6 * k + 0)) (s (1 + 6 * k + 1)))]) dX12_lastsOf_14 ssX12_63 (zX12_lasts (k := (s (1 + 6 * k + 0))) (f := (s (1 + 6 * k + 1)))  (by first | with_reducible assumption | omega) (by first | with_reducible assumption | omega)) ⟨Nat.le_of_ble_eq_true rfl, Nat.le_of_ble_eq_true rfl, Nat.le_of_ble_eq_true rfl, Nat.le_of_ble_eq_true rfl, Nat.le_of_ble_eq_true rfl⟩ rfl rfl rfl rfl ?_
  exact mp_ireturn (st := []) dX12_lastsOf_17 rfl ⟨by decide, by decide⟩ ((mp_ans (by first | with_reducible rfl | omega | rfl)))
theorem zX12_brightOf {s : Int → Int} {r : Nat} {k : Int} {σ : mp_H} (hr : σ[r]? = some (mp_I 64 (mp_F s))) (h_k : 0 ≤ k ∧ k ≤ 7) (hm : mp_met s k) : mp_Call (mX12_brightOf, 1, 0, 0) [Value.ref r, mp_i k] σ (some (mp_i (sp_bright (s (1 + 6 * k + 0)) (s (1 + 6 * k + 1)))), σ) := by
  refine mp_Call.of (L := [some (Value.ref r), some (mp_i k)]) pnX12 (Nat.le_of_ble_eq_true rfl) rfl ?_
  refine mp_aload_n dX12_brightOf_0 rfl ?_
  refine mp_iload_n dX12_brightOf_1 rfl ?_
  refine mp_iconst dX12_brightOf_2 ?_
  refine mp_invS (z := (mX12_of, 0, 0, 0)) (K' := (0, 0)) (σ1 := σ) (as := [mp_i k, mp_i 0]) (st := [Value.ref r]) (st1 := [mp_i (1 + 6 * k + 0), Value.ref r]) dX12_brightOf_3 ssX12_60 (zX12_of (k := k) (x := 0)  ) ⟨Nat.le_of_ble_eq_true rfl, Nat.le_of_ble_eq_true rfl, Nat.le_of_ble_eq_true rfl, Nat.le_of_ble_eq_true rfl, Nat.le_of_ble_eq_true rfl⟩ rfl rfl rfl rfl ?_
  refine mp_iald dX12_brightOf_6 hr ⟨by omega, by omega⟩ (by omega) ?_
  refine mp_aload_n dX12_brightOf_7 rfl ?_
  refine mp_iload_n dX12_brightOf_8 rfl ?_
  refine mp_iconst dX12_brightOf_9 ?_
  refine mp_invS (z := (mX12_of, 0, 0, 0)) (K' := (0, 0)) (σ1 := σ) (as := [mp_i k, mp_i 1]) (st := [Value.ref r, mp_i (s (1 + 6 * k + 0))]) (st1 := [mp_i (1 + 6 * k + 1), Value.ref r, mp_i (s (1 + 6 * k + 0))]) dX12_brightOf_10 ssX12_60 (zX12_of (k := k) (x := 1)  ) ⟨Nat.le_of_ble_eq_true rfl, Nat.le_of_ble_eq_true rfl, Nat.le_of_ble_eq_true rfl, Nat.le_of_ble_eq_true rfl, Nat.le_of_ble_eq_true rfl⟩ rfl rfl rfl rfl ?_
  refine mp_iald dX12_brightOf_13 hr ⟨by omega, by omega⟩ (by omega) ?_
  refine mp_invS (z := (mX12_bright, 0, 0, 0)) (K' := (0, 0)) (σ1 := σ) (as := [mp_i (s (1 + 6 * k + 0)), mp_i (s (1 + 6 * k + 1))]) (st := []) (st1 := [mp_i (sp_bright (s (1 + 6 * k + 0)) (s (1 + 6 * k + 1)))]) dX12_brightOf_14 ssX12_66 (zX12_bright (k := (s (1 + 6 * k + 0))) (f := (s (1 + 6 * k + 1)))  (by first | with_reducible assumption | omega) (by first | with_reducible assumption | omega)) ⟨Nat.le_of_ble_eq_true rfl, Nat.le_of_ble_eq_true rfl, Nat.le_of_ble_eq_true rfl, Nat.le_of_ble_eq_true rfl, Nat.le_of_ble_eq_true rfl⟩ rfl rfl rfl rfl ?_
  exact mp_ireturn (st := []) dX12_brightOf_17 rfl ⟨by decide, by decide⟩ ((mp_ans (by first | with_reducible rfl | omega | rfl)))
theorem zX12_heatOf {s : Int → Int} {r : Nat} {k : Int} {σ : mp_H} (hr : σ[r]? = some (mp_I 64 (mp_F s))) (h_k : 0 ≤ k ∧ k ≤ 7) (hm : mp_met s k) : mp_Call (mX12_heatOf, 2, 0, 0) [Value.ref r, mp_i k] σ (some (mp_i (sp_heat (s (1 + 6 * k + 0)) (s (1 + 6 * k + 1)))), σ) := by
  refine mp_Call.of (L := [some (Value.ref r), some (mp_i k)]) pnX12 (Nat.le_of_ble_eq_true rfl) rfl ?_
  refine mp_aload_n dX12_heatOf_0 rfl ?_
  refine mp_iload_n dX12_heatOf_1 rfl ?_
  refine mp_iconst dX12_heatOf_2 ?_
  refine mp_invS (z := (mX12_of, 0, 0, 0)) (K' := (0, 0)) (σ1 := σ) (as := [mp_i k, mp_i 0]) (st := [Value.ref r]) (st1 := [mp_i (1 + 6 * k + 0), Value.ref r]) dX12_heatOf_3 ssX12_60 (zX12_of (k := k) (x := 0)  ) ⟨Nat.le_of_ble_eq_true rfl, Nat.le_of_ble_eq_true rfl, Nat.le_of_ble_eq_true rfl, Nat.le_of_ble_eq_true rfl, Nat.le_of_ble_eq_true rfl⟩ rfl rfl rfl rfl ?_
  refine mp_iald dX12_heatOf_6 hr ⟨by omega, by omega⟩ (by omega) ?_
  refine mp_aload_n dX12_heatOf_7 rfl ?_
  refine mp_iload_n dX12_heatOf_8 rfl ?_
  refine mp_iconst dX12_heatOf_9 ?_
  refine mp_invS (z := (mX12_of, 0, 0, 0)) (K' := (0, 0)) (σ1 := σ) (as := [mp_i k, mp_i 1]) (st := [Value.ref r, mp_i (s (1 + 6 * k + 0))]) (st1 := [mp_i (1 + 6 * k + 1), Value.ref r, mp_i (s (1 + 6 * k + 0))]) dX12_heatOf_10 ssX12_60 (zX12_of (k := k) (x := 1)  ) ⟨Nat.le_of_ble_eq_true rfl, Nat.le_of_ble_eq_true rfl, Nat.le_of_ble_eq_true rfl, Nat.le_of_ble_eq_true rfl, Nat.le_of_ble_eq_true rfl⟩ rfl rfl rfl rfl ?_
  refine mp_iald dX12_heatOf_13 hr ⟨by omega, by omega⟩ (by omega) ?_
  refine mp_invS (z := (mX12_heat, 1, 0, 0)) (K' := (0, 0)) (σ1 := σ) (as := [mp_i (s (1 + 6 * k + 0)), mp_i (s (1 + 6 * k + 1))]) (st := []) (st1 := [mp_i (sp_heat (s (1 + 6 * k + 0)) (s (1 + 6 * k + 1)))]) dX12_heatOf_14 ssX12_69 (zX12_heat (k := (s (1 + 6 * k + 0))) (f := (s (1 + 6 * k + 1)))  (by first | with_reducible assumption | omega) (by first | with_reducible assumption | omega)) ⟨Nat.le_of_ble_eq_true rfl, Nat.le_of_ble_eq_true rfl, Nat.le_of_ble_eq_true rfl, Nat.le_of_ble_eq_true rfl, Nat.le_of_ble_eq_true rfl⟩ rfl rfl rfl rfl ?_
  exact mp_ireturn (st := []) dX12_heatOf_17 rfl ⟨by decide, by decide⟩ ((mp_ans (by first | with_reducible rfl | omega | rfl)))
theorem zX12_over {s : Int → Int} {r : Nat} {k : Int} {t : Int} {σ : mp_H} (hr : σ[r]? = some (mp_I 64 (mp_F s))) (h_k : 0 ≤ k ∧ k ≤ 7) (hm : mp_met s k) (h_t : 0 ≤ t ∧ t ≤ 100) : mp_Call (mX12_over, 1, 0, 0) [Value.ref r, mp_i k, mp_i t] σ (some (mp_i (sp_over (s (1 + 6 * k + 2)) (s (1 + 6 * k + 3)) t)), σ) := by
  refine mp_Call.of (L := [some (Value.ref r), some (mp_i k), some (mp_i t)]) pnX12 (Nat.le_of_ble_eq_true rfl) rfl ?_
  have hb := mp_mul_bd (a := t) (b := s (1 + 6 * k + 3) - 2) h_t (by omega)
  refine mp_iconst dX12_over_0 ?_
  refine mp_bipush dX12_over_1 rfl ?_
  refine mp_aload_n dX12_over_3 rfl ?_
  refine mp_iload_n dX12_over_4 rfl ?_
  refine mp_iconst dX12_over_5 ?_
  refine mp_invS (z := (mX12_of, 0, 0, 0)) (K' := (0, 0)) (σ1 := σ) (as := [mp_i k, mp_i 2]) (st := [Value.ref r, mp_i 15, mp_i 0]) (st1 := [mp_i (1 + 6 * k + 2), Value.ref r, mp_i 15, mp_i 0]) dX12_over_6 ssX12_60 (zX12_of (k := k) (x := 2)  ) ⟨Nat.le_of_ble_eq_true rfl, Nat.le_of_ble_eq_true rfl, Nat.le_of_ble_eq_true rfl, Nat.le_of_ble_eq_true rfl, Nat.le_of_ble_eq_true rfl⟩ rfl rfl rfl rfl ?_
  refine mp_iald dX12_over_9 hr ⟨by omega, by omega⟩ (by omega) ?_
  refine mp_iload_n dX12_over_10 rfl ?_
  refine mp_aload_n dX12_over_11 rfl ?_
  refine mp_iload_n dX12_over_12 rfl ?_
  refine mp_iconst dX12_over_13 ?_
  refine mp_invS (z := (mX12_of, 0, 0, 0)) (K' := (0, 0)) (σ1 := σ) (as := [mp_i k, mp_i 3]) (st := [Value.ref r, mp_i t, mp_i (s (1 + 6 * k + 2)), mp_i 15, mp_i 0]) (st1 := [mp_i (1 + 6 * k + 3), Value.ref r, mp_i t, mp_i (s (1 + 6 * k + 2)), mp_i 15, mp_i 0]) dX12_over_14 ssX12_60 (zX12_of (k := k) (x := 3)  ) ⟨Nat.le_of_ble_eq_true rfl, Nat.le_of_ble_eq_true rfl, Nat.le_of_ble_eq_true rfl, Nat.le_of_ble_eq_true rfl, Nat.le_of_ble_eq_true rfl⟩ rfl rfl rfl rfl ?_
  refine mp_iald dX12_over_17 hr ⟨by omega, by omega⟩ (by omega) ?_
  refine mp_iconst dX12_over_18 ?_
  refine mp_isub (z := (s (1 + 6 * k + 3)) - 2) dX12_over_19 (by first | rfl | omega) ?_
  refine mp_imul (z := t * ((s (1 + 6 * k + 3)) - 2)) dX12_over_20 (by first | rfl | omega) ?_
  refine mp_iadd (z := (s (1 + 6 * k + 2)) + (t * ((s (1 + 6 * k + 3)) - 2))) dX12_over_21 (by first | rfl | omega) ?_
  refine mp_invS (z := (mX12_least, 0, 0, 0)) (K' := (0, 0)) (σ1 := σ) (as := [mp_i 15, mp_i ((s (1 + 6 * k + 2)) + (t * ((s (1 + 6 * k + 3)) - 2)))]) (st := [mp_i 0]) (st1 := [mp_i (if 15 < ((s (1 + 6 * k + 2)) + (t * ((s (1 + 6 * k + 3)) - 2))) then 15 else ((s (1 + 6 * k + 2)) + (t * ((s (1 + 6 * k + 3)) - 2)))), mp_i 0]) dX12_over_22 ssX12_72 (zX12_least (a := 15) (b := ((s (1 + 6 * k + 2)) + (t * ((s (1 + 6 * k + 3)) - 2))))  (by first | with_reducible assumption | omega) (by first | with_reducible assumption | omega)) ⟨Nat.le_of_ble_eq_true rfl, Nat.le_of_ble_eq_true rfl, Nat.le_of_ble_eq_true rfl, Nat.le_of_ble_eq_true rfl, Nat.le_of_ble_eq_true rfl⟩ rfl rfl rfl rfl ?_
  refine mp_invS (z := (mX12_most, 0, 0, 0)) (K' := (0, 0)) (σ1 := σ) (as := [mp_i 0, mp_i (if 15 < ((s (1 + 6 * k + 2)) + (t * ((s (1 + 6 * k + 3)) - 2))) then 15 else ((s (1 + 6 * k + 2)) + (t * ((s (1 + 6 * k + 3)) - 2))))]) (st := []) (st1 := [mp_i (if (if 15 < ((s (1 + 6 * k + 2)) + (t * ((s (1 + 6 * k + 3)) - 2))) then 15 else ((s (1 + 6 * k + 2)) + (t * ((s (1 + 6 * k + 3)) - 2)))) < 0 then 0 else (if 15 < ((s (1 + 6 * k + 2)) + (t * ((s (1 + 6 * k + 3)) - 2))) then 15 else ((s (1 + 6 * k + 2)) + (t * ((s (1 + 6 * k + 3)) - 2)))))]) dX12_over_25 ssX12_57 (zX12_most (a := 0) (b := (if 15 < ((s (1 + 6 * k + 2)) + (t * ((s (1 + 6 * k + 3)) - 2))) then 15 else ((s (1 + 6 * k + 2)) + (t * ((s (1 + 6 * k + 3)) - 2)))))  (by first | with_reducible assumption | omega) (by first | with_reducible assumption | omega)) ⟨Nat.le_of_ble_eq_true rfl, Nat.le_of_ble_eq_true rfl, Nat.le_of_ble_eq_true rfl, Nat.le_of_ble_eq_true rfl, Nat.le_of_ble_eq_true rfl⟩ rfl rfl rfl rfl ?_
  exact mp_ireturn (st := []) dX12_over_28 rfl ⟨by decide, by decide⟩ ((mp_ans (by first | rfl | (unfold sp_over; omega))))
theorem lX12_seenFrom_5 {s : Int → Int} {r : Nat} {k : Int} {q : Int} {σ : mp_H} (hr : σ[r]? = some (mp_I 64 (mp_F s))) (h_k : 0 ≤ k ∧ k ≤ 7) (hm : mp_met s k) (h_q : 0 ≤ q ∧ q ≤ 15) {R9 : mp_An} : ∀ (n : Nat) (t : Int) (u : Int), ((0 ≤ t ∧ t + (n : Nat) = sp_lasts (s (1 + 6 * k + 0)) (s (1 + 6 * k + 1))) ∧ 0 ≤ u) → mp_At (mX12_seenFrom, 2, 0, 0) (0, 0) 64 [some (Value.ref r), some (mp_i k), some (mp_i q), some (mp_i (mp_fold (sp_seenStep (s (1 + 6 * k + 2)) (s (1 + 6 * k + 3)) (sp_bright (s (1 + 6 * k + 0)) (s (1 + 6 * k + 1))) q) n t u)), none, none] [] σ R9 → mp_At (mX12_seenFrom, 2, 0, 0) (0, 0) 5 [some (Value.ref r), some (mp_i k), some (mp_i q), some (mp_i u), some (mp_i t), none] [] σ R9 := by
  intro n
  induction n with
  | zero =>
    intro t u hi hk
    have hb1 := mp_lasts_bd (kind := s (1 + 6 * k + 0)) (f := s (1 + 6 * k + 1)) (by omega)
    have hb2 := mp_bright_bd (kind := s (1 + 6 * k + 0)) (f := s (1 + 6 * k + 1)) (by omega)
    refine mp_iload dX12_seenFrom_5 rfl ?_
    refine mp_aload_n dX12_seenFrom_7 rfl ?_
    refine mp_iload_n dX12_seenFrom_8 rfl ?_
    refine mp_invS (z := (mX12_lastsOf, 1, 0, 0)) (K' := (0, 0)) (σ1 := σ) (as := [Value.ref r, mp_i k]) (st := [mp_i t]) (st1 := [mp_i (sp_lasts (s (1 + 6 * k + 0)) (s (1 + 6 * k + 1))), mp_i t]) dX12_seenFrom_9 ssX12_75 (zX12_lastsOf (r := r) (k := k) (s := s) hr (by first | with_reducible assumption | omega) (by first | with_reducible assumption | omega)) ⟨Nat.le_of_ble_eq_true rfl, Nat.le_of_ble_eq_true rfl, Nat.le_of_ble_eq_true rfl, Nat.le_of_ble_eq_true rfl, Nat.le_of_ble_eq_true rfl⟩ rfl rfl rfl rfl ?_
    refine mp_icmp_ge (tgt := 64) dX12_seenFrom_12 rfl ⟨by omega, by omega⟩ ⟨by omega, by omega⟩ (fun h1 => ?_) (fun h1 => ?_)
    · refine mp_drop (L' := [some (Value.ref r), some (mp_i k), some (mp_i q), some (mp_i u), none, none]) [true, true, true, true, false, false] rfl ?_
      exact hk
    · exfalso; omega
  | succ n ih =>
    intro t u hi hk
    have hb1 := mp_lasts_bd (kind := s (1 + 6 * k + 0)) (f := s (1 + 6 * k + 1)) (by omega)
    have hb2 := mp_bright_bd (kind := s (1 + 6 * k + 0)) (f := s (1 + 6 * k + 1)) (by omega)
    refine mp_iload dX12_seenFrom_5 rfl ?_
    refine mp_aload_n dX12_seenFrom_7 rfl ?_
    refine mp_iload_n dX12_seenFrom_8 rfl ?_
    refine mp_invS (z := (mX12_lastsOf, 1, 0, 0)) (K' := (0, 0)) (σ1 := σ) (as := [Value.ref r, mp_i k]) (st := [mp_i t]) (st1 := [mp_i (sp_lasts (s (1 + 6 * k + 0)) (s (1 + 6 * k + 1))), mp_i t]) dX12_seenFrom_9 ssX12_75 (zX12_lastsOf (r := r) (k := k) (s := s) hr (by first | with_reducible assumption | omega) (by first | with_reducible assumption | omega)) ⟨Nat.le_of_ble_eq_true rfl, Nat.le_of_ble_eq_true rfl, Nat.le_of_ble_eq_true rfl, Nat.le_of_ble_eq_true rfl, Nat.le_of_ble_eq_true rfl⟩ rfl rfl rfl rfl ?_
    refine mp_icmp_ge (tgt := 64) dX12_seenFrom_12 rfl ⟨by omega, by omega⟩ ⟨by omega, by omega⟩ (fun h1 => ?_) (fun h1 => ?_)
    · exfalso; omega
    · refine mp_aload_n dX12_seenFrom_15 rfl ?_
      refine mp_iload_n dX12_seenFrom_16 rfl ?_
      refine mp_iload dX12_seenFrom_17 rfl ?_
      refine mp_invS (z := (mX12_over, 1, 0, 0)) (K' := (0, 0)) (σ1 := σ) (as := [Value.ref r, mp_i k, mp_i t]) (st := []) (st1 := [mp_i (sp_over (s (1 + 6 * k + 2)) (s (1 + 6 * k + 3)) t)]) dX12_seenFrom_19 ssX12_79 (zX12_over (r := r) (k := k) (t := t) (s := s) hr (by first | with_reducible assumption | omega) (by first | with_reducible assumption | omega) (by first | with_reducible assumption | omega)) ⟨Nat.le_of_ble_eq_true rfl, Nat.le_of_ble_eq_true rfl, Nat.le_of_ble_eq_true rfl, Nat.le_of_ble_eq_true rfl, Nat.le_of_ble_eq_true rfl⟩ rfl rfl rfl rfl ?_
      have b2 := mp_over_bd (col := s (1 + 6 * k + 2)) (slope := s (1 + 6 * k + 3)) (step := t)
      refine mp_iload_n dX12_seenFrom_22 rfl ?_
      refine mp_isub (z := (sp_over (s (1 + 6 * k + 2)) (s (1 + 6 * k + 3)) t) - q) dX12_seenFrom_23 (by first | rfl | omega) ?_
      refine mp_istore (L' := [some (Value.ref r), some (mp_i k), some (mp_i q), some (mp_i u), some (mp_i t), some (mp_i ((sp_over (s (1 + 6 * k + 2)) (s (1 + 6 * k + 3)) t) - q))]) dX12_seenFrom_24 (by decide) rfl ?_
      refine mp_iload_n dX12_seenFrom_26 rfl ?_
      refine mp_iload dX12_seenFrom_27 rfl ?_
      refine mp_if_ge (tgt := 38) dX12_seenFrom_29 rfl ⟨by omega, by omega⟩ (fun h3 => ?_) (fun h3 => ?_)
      · refine mp_iload dX12_seenFrom_38 rfl ?_
        refine mp_aload_n dX12_seenFrom_40 rfl ?_
        refine mp_iload_n dX12_seenFrom_41 rfl ?_
        refine mp_invS (z := (mX12_brightOf, 1, 0, 0)) (K' := (0, 0)) (σ1 := σ) (as := [Value.ref r, mp_i k]) (st := [mp_i ((sp_over (s (1 + 6 * k + 2)) (s (1 + 6 * k + 3)) t) - q), mp_i u]) (st1 := [mp_i (sp_bright (s (1 + 6 * k + 0)) (s (1 + 6 * k + 1))), mp_i ((sp_over (s (1 + 6 * k + 2)) (s (1 + 6 * k + 3)) t) - q), mp_i u]) dX12_seenFrom_42 ssX12_83 (zX12_brightOf (r := r) (k := k) (s := s) hr (by first | with_reducible assumption | omega) (by first | with_reducible assumption | omega)) ⟨Nat.le_of_ble_eq_true rfl, Nat.le_of_ble_eq_true rfl, Nat.le_of_ble_eq_true rfl, Nat.le_of_ble_eq_true rfl, Nat.le_of_ble_eq_true rfl⟩ rfl rfl rfl rfl ?_
        refine mp_icmp_gt (tgt := 55) dX12_seenFrom_45 rfl ⟨by omega, by omega⟩ ⟨by omega, by omega⟩ (fun h4 => ?_) (fun h4 => ?_)
        · refine mp_iconst dX12_seenFrom_55 ?_
          refine mp_ior (z := u) dX12_seenFrom_56 (by rw [mp_z_or (by omega) (by omega), mp_or_0 (by omega)]) ?_
          refine mp_istore_n (L' := [some (Value.ref r), some (mp_i k), some (mp_i q), some (mp_i u), some (mp_i t), some (mp_i ((sp_over (s (1 + 6 * k + 2)) (s (1 + 6 * k + 3)) t) - q))]) dX12_seenFrom_57 rfl (by decide) rfl ?_
          refine mp_iinc (z := t + 1) (L' := [some (Value.ref r), some (mp_i k), some (mp_i q), some (mp_i u), some (mp_i (t + 1)), some (mp_i ((sp_over (s (1 + 6 * k + 2)) (s (1 + 6 * k + 3)) t) - q))]) dX12_seenFrom_58 rfl (rfl) (by decide) rfl ?_
          refine mp_goto (tgt := 5) dX12_seenFrom_61 rfl ?_
          refine mp_loc (j := 3) (y := (sp_seenStep (s (1 + 6 * k + 2)) (s (1 + 6 * k + 3)) (sp_bright (s (1 + 6 * k + 0)) (s (1 + 6 * k + 1))) q) t u) (by unfold sp_seenStep; first | (rw [if_pos (by omega)]) | (rw [if_neg (by omega)])) rfl (L' := [some (Value.ref r), some (mp_i k), some (mp_i q), some (mp_i ((sp_seenStep (s (1 + 6 * k + 2)) (s (1 + 6 * k + 3)) (sp_bright (s (1 + 6 * k + 0)) (s (1 + 6 * k + 1))) q) t u)), some (mp_i (t + 1)), some (mp_i ((sp_over (s (1 + 6 * k + 2)) (s (1 + 6 * k + 3)) t) - q))]) rfl ?_
          refine mp_drop (L' := [some (Value.ref r), some (mp_i k), some (mp_i q), some (mp_i ((sp_seenStep (s (1 + 6 * k + 2)) (s (1 + 6 * k + 3)) (sp_bright (s (1 + 6 * k + 0)) (s (1 + 6 * k + 1))) q) t u)), some (mp_i (t + 1)), none]) [true, true, true, true, true, false] rfl ?_
          exact ih (t + 1) ((sp_seenStep (s (1 + 6 * k + 2)) (s (1 + 6 * k + 3)) (sp_bright (s (1 + 6 * k + 0)) (s (1 + 6 * k + 1))) q) t u) (⟨by omega, mp_seenStep_nn hi.2⟩) hk
        · refine mp_iconst dX12_seenFrom_48 ?_
          refine mp_iload dX12_seenFrom_49 rfl ?_
          refine mp_ishl (z := mp_bit t) dX12_seenFrom_51 (mp_z_bit ⟨by omega, by omega⟩) ?_
          refine mp_goto (tgt := 56) dX12_seenFrom_52 rfl ?_
          refine mp_ior (z := mp_or u (mp_bit t)) dX12_seenFrom_56 (mp_z_or (by first | omega | exact mp_bit_nn _ | exact mp_or_nn _ _ | exact mp_and_nn _ _ | exact mp_shr_nn _ _) (by first | omega | exact mp_bit_nn _ | exact mp_or_nn _ _ | exact mp_and_nn _ _ | exact mp_shr_nn _ _)) ?_
          refine mp_istore_n (L' := [some (Value.ref r), some (mp_i k), some (mp_i q), some (mp_i (mp_or u (mp_bit t))), some (mp_i t), some (mp_i ((sp_over (s (1 + 6 * k + 2)) (s (1 + 6 * k + 3)) t) - q))]) dX12_seenFrom_57 rfl (by decide) rfl ?_
          refine mp_iinc (z := t + 1) (L' := [some (Value.ref r), some (mp_i k), some (mp_i q), some (mp_i (mp_or u (mp_bit t))), some (mp_i (t + 1)), some (mp_i ((sp_over (s (1 + 6 * k + 2)) (s (1 + 6 * k + 3)) t) - q))]) dX12_seenFrom_58 rfl (rfl) (by decide) rfl ?_
          refine mp_goto (tgt := 5) dX12_seenFrom_61 rfl ?_
          refine mp_loc (j := 3) (y := (sp_seenStep (s (1 + 6 * k + 2)) (s (1 + 6 * k + 3)) (sp_bright (s (1 + 6 * k + 0)) (s (1 + 6 * k + 1))) q) t u) (by unfold sp_seenStep; first | (rw [if_pos (by omega)]) | (rw [if_neg (by omega)])) rfl (L' := [some (Value.ref r), some (mp_i k), some (mp_i q), some (mp_i ((sp_seenStep (s (1 + 6 * k + 2)) (s (1 + 6 * k + 3)) (sp_bright (s (1 + 6 * k + 0)) (s (1 + 6 * k + 1))) q) t u)), some (mp_i (t + 1)), some (mp_i ((sp_over (s (1 + 6 * k + 2)) (s (1 + 6 * k + 3)) t) - q))]) rfl ?_
          refine mp_drop (L' := [some (Value.ref r), some (mp_i k), some (mp_i q), some (mp_i ((sp_seenStep (s (1 + 6 * k + 2)) (s (1 + 6 * k + 3)) (sp_bright (s (1 + 6 * k + 0)) (s (1 + 6 * k + 1))) q) t u)), some (mp_i (t + 1)), none]) [true, true, true, true, true, false] rfl ?_
          exact ih (t + 1) ((sp_seenStep (s (1 + 6 * k + 2)) (s (1 + 6 * k + 3)) (sp_bright (s (1 + 6 * k + 0)) (s (1 + 6 * k + 1))) q) t u) (⟨by omega, mp_seenStep_nn hi.2⟩) hk
      · refine mp_iload dX12_seenFrom_32 rfl ?_
        refine mp_ineg dX12_seenFrom_34 ?_
        refine mp_goto (tgt := 40) dX12_seenFrom_35 rfl ?_
        refine mp_aload_n dX12_seenFrom_40 rfl ?_
        refine mp_iload_n dX12_seenFrom_41 rfl ?_
        refine mp_invS (z := (mX12_brightOf, 1, 0, 0)) (K' := (0, 0)) (σ1 := σ) (as := [Value.ref r, mp_i k]) (st := [mp_i (-((sp_over (s (1 + 6 * k + 2)) (s (1 + 6 * k + 3)) t) - q)), mp_i u]) (st1 := [mp_i (sp_bright (s (1 + 6 * k + 0)) (s (1 + 6 * k + 1))), mp_i (-((sp_over (s (1 + 6 * k + 2)) (s (1 + 6 * k + 3)) t) - q)), mp_i u]) dX12_seenFrom_42 ssX12_83 (zX12_brightOf (r := r) (k := k) (s := s) hr (by first | with_reducible assumption | omega) (by first | with_reducible assumption | omega)) ⟨Nat.le_of_ble_eq_true rfl, Nat.le_of_ble_eq_true rfl, Nat.le_of_ble_eq_true rfl, Nat.le_of_ble_eq_true rfl, Nat.le_of_ble_eq_true rfl⟩ rfl rfl rfl rfl ?_
        refine mp_icmp_gt (tgt := 55) dX12_seenFrom_45 rfl ⟨by omega, by omega⟩ ⟨by omega, by omega⟩ (fun h5 => ?_) (fun h5 => ?_)
        · refine mp_iconst dX12_seenFrom_55 ?_
          refine mp_ior (z := u) dX12_seenFrom_56 (by rw [mp_z_or (by omega) (by omega), mp_or_0 (by omega)]) ?_
          refine mp_istore_n (L' := [some (Value.ref r), some (mp_i k), some (mp_i q), some (mp_i u), some (mp_i t), some (mp_i ((sp_over (s (1 + 6 * k + 2)) (s (1 + 6 * k + 3)) t) - q))]) dX12_seenFrom_57 rfl (by decide) rfl ?_
          refine mp_iinc (z := t + 1) (L' := [some (Value.ref r), some (mp_i k), some (mp_i q), some (mp_i u), some (mp_i (t + 1)), some (mp_i ((sp_over (s (1 + 6 * k + 2)) (s (1 + 6 * k + 3)) t) - q))]) dX12_seenFrom_58 rfl (rfl) (by decide) rfl ?_
          refine mp_goto (tgt := 5) dX12_seenFrom_61 rfl ?_
          refine mp_loc (j := 3) (y := (sp_seenStep (s (1 + 6 * k + 2)) (s (1 + 6 * k + 3)) (sp_bright (s (1 + 6 * k + 0)) (s (1 + 6 * k + 1))) q) t u) (by unfold sp_seenStep; first | (rw [if_pos (by omega)]) | (rw [if_neg (by omega)])) rfl (L' := [some (Value.ref r), some (mp_i k), some (mp_i q), some (mp_i ((sp_seenStep (s (1 + 6 * k + 2)) (s (1 + 6 * k + 3)) (sp_bright (s (1 + 6 * k + 0)) (s (1 + 6 * k + 1))) q) t u)), some (mp_i (t + 1)), some (mp_i ((sp_over (s (1 + 6 * k + 2)) (s (1 + 6 * k + 3)) t) - q))]) rfl ?_
          refine mp_drop (L' := [some (Value.ref r), some (mp_i k), some (mp_i q), some (mp_i ((sp_seenStep (s (1 + 6 * k + 2)) (s (1 + 6 * k + 3)) (sp_bright (s (1 + 6 * k + 0)) (s (1 + 6 * k + 1))) q) t u)), some (mp_i (t + 1)), none]) [true, true, true, true, true, false] rfl ?_
          exact ih (t + 1) ((sp_seenStep (s (1 + 6 * k + 2)) (s (1 + 6 * k + 3)) (sp_bright (s (1 + 6 * k + 0)) (s (1 + 6 * k + 1))) q) t u) (⟨by omega, mp_seenStep_nn hi.2⟩) hk
        · refine mp_iconst dX12_seenFrom_48 ?_
          refine mp_iload dX12_seenFrom_49 rfl ?_
          refine mp_ishl (z := mp_bit t) dX12_seenFrom_51 (mp_z_bit ⟨by omega, by omega⟩) ?_
          refine mp_goto (tgt := 56) dX12_seenFrom_52 rfl ?_
          refine mp_ior (z := mp_or u (mp_bit t)) dX12_seenFrom_56 (mp_z_or (by first | omega | exact mp_bit_nn _ | exact mp_or_nn _ _ | exact mp_and_nn _ _ | exact mp_shr_nn _ _) (by first | omega | exact mp_bit_nn _ | exact mp_or_nn _ _ | exact mp_and_nn _ _ | exact mp_shr_nn _ _)) ?_
          refine mp_istore_n (L' := [some (Value.ref r), some (mp_i k), some (mp_i q), some (mp_i (mp_or u (mp_bit t))), some (mp_i t), some (mp_i ((sp_over (s (1 + 6 * k + 2)) (s (1 + 6 * k + 3)) t) - q))]) dX12_seenFrom_57 rfl (by decide) rfl ?_
          refine mp_iinc (z := t + 1) (L' := [some (Value.ref r), some (mp_i k), some (mp_i q), some (mp_i (mp_or u (mp_bit t))), some (mp_i (t + 1)), some (mp_i ((sp_over (s (1 + 6 * k + 2)) (s (1 + 6 * k + 3)) t) - q))]) dX12_seenFrom_58 rfl (rfl) (by decide) rfl ?_
          refine mp_goto (tgt := 5) dX12_seenFrom_61 rfl ?_
          refine mp_loc (j := 3) (y := (sp_seenStep (s (1 + 6 * k + 2)) (s (1 + 6 * k + 3)) (sp_bright (s (1 + 6 * k + 0)) (s (1 + 6 * k + 1))) q) t u) (by unfold sp_seenStep; first | (rw [if_pos (by omega)]) | (rw [if_neg (by omega)])) rfl (L' := [some (Value.ref r), some (mp_i k), some (mp_i q), some (mp_i ((sp_seenStep (s (1 + 6 * k + 2)) (s (1 + 6 * k + 3)) (sp_bright (s (1 + 6 * k + 0)) (s (1 + 6 * k + 1))) q) t u)), some (mp_i (t + 1)), some (mp_i ((sp_over (s (1 + 6 * k + 2)) (s (1 + 6 * k + 3)) t) - q))]) rfl ?_
          refine mp_drop (L' := [some (Value.ref r), some (mp_i k), some (mp_i q), some (mp_i ((sp_seenStep (s (1 + 6 * k + 2)) (s (1 + 6 * k + 3)) (sp_bright (s (1 + 6 * k + 0)) (s (1 + 6 * k + 1))) q) t u)), some (mp_i (t + 1)), none]) [true, true, true, true, true, false] rfl ?_
          exact ih (t + 1) ((sp_seenStep (s (1 + 6 * k + 2)) (s (1 + 6 * k + 3)) (sp_bright (s (1 + 6 * k + 0)) (s (1 + 6 * k + 1))) q) t u) (⟨by omega, mp_seenStep_nn hi.2⟩) hk
theorem zX12_seenFrom {s : Int → Int} {r : Nat} {k : Int} {q : Int} {σ : mp_H} (hr : σ[r]? = some (mp_I 64 (mp_F s))) (h_k : 0 ≤ k ∧ k ≤ 7) (hm : mp_met s k) (h_q : 0 ≤ q ∧ q ≤ 15) : mp_Call (mX12_seenFrom, 2, 0, 0) [Value.ref r, mp_i k, mp_i q] σ (some (mp_i (sp_seen (s (1 + 6 * k + 0)) (s (1 + 6 * k + 1)) (s (1 + 6 * k + 2)) (s (1 + 6 * k + 3)) q)), σ) := by
  refine mp_Call.of (L := [some (Value.ref r), some (mp_i k), some (mp_i q), none, none, none]) pnX12 (Nat.le_of_ble_eq_true rfl) rfl ?_
  have hb1 := mp_lasts_bd (kind := s (1 + 6 * k + 0)) (f := s (1 + 6 * k + 1)) (by omega)
  have hb2 := mp_bright_bd (kind := s (1 + 6 * k + 0)) (f := s (1 + 6 * k + 1)) (by omega)
  refine mp_iconst dX12_seenFrom_0 ?_
  refine mp_istore_n (L' := [some (Value.ref r), some (mp_i k), some (mp_i q), some (mp_i 0), none, none]) dX12_seenFrom_1 rfl (by decide) rfl ?_
  refine mp_iconst dX12_seenFrom_2 ?_
  refine mp_istore (L' := [some (Value.ref r), some (mp_i k), some (mp_i q), some (mp_i 0), some (mp_i 0), none]) dX12_seenFrom_3 (by decide) rfl ?_
  refine lX12_seenFrom_5 hr (by first | with_reducible assumption | omega) (by first | with_reducible assumption | omega) (by first | with_reducible assumption | omega) ((sp_lasts (s (1 + 6 * k + 0)) (s (1 + 6 * k + 1))).toNat) 0 0 (by omega) ?_
  refine mp_iload_n dX12_seenFrom_64 rfl ?_
  exact mp_ireturn (st := []) dX12_seenFrom_65 rfl ⟨by decide, by decide⟩ ((mp_ans (by first | with_reducible rfl | omega | rfl)))
