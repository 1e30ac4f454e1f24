theorem zX12_isIn {v : Int} {a : Int} {b : Int} {σ : mp_H} (h_v : mp_w v) (h_a : mp_w a) (h_b : mp_w b) : mp_Call (mX12_isIn, 0, 0, 0) [mp_i v, mp_i a, mp_i b] σ (some (mp_i (if a ≤ v ∧ v ≤ b then 1 else 0)), σ) := by
  refine mp_Call.of (L := [some (mp_i v), some (mp_i a), some (mp_i b)]) pnX12 (Nat.le_of_ble_eq_true rfl) rfl ?_
  refine mp_iload_n dX12_isIn_0 rfl ?_
  refine mp_iload_n dX12_isIn_1 rfl ?_
  refine mp_icmp_lt (tgt := 14) dX12_isIn_2 rfl ⟨by omega, by omega⟩ ⟨by omega, by omega⟩ (fun h1 => ?_) (fun h1 => ?_)
  · refine mp_iconst dX12_isIn_14 ?_
    exact mp_zreturn (st := []) dX12_isIn_15 rfl rfl ⟨by decide, by decide⟩ ((mp_ans (by first | with_reducible rfl | omega | rfl)))
  · refine mp_iload_n dX12_isIn_5 rfl ?_
    refine mp_iload_n dX12_isIn_6 rfl ?_
    refine mp_icmp_gt (tgt := 14) dX12_isIn_7 rfl ⟨by omega, by omega⟩ ⟨by omega, by omega⟩ (fun h2 => ?_) (fun h2 => ?_)
    · refine mp_iconst dX12_isIn_14 ?_
      exact mp_zreturn (st := []) dX12_isIn_15 rfl rfl ⟨by decide, by decide⟩ ((mp_ans (by first | with_reducible rfl | omega | rfl)))
    · refine mp_iconst dX12_isIn_10 ?_
      refine mp_goto (tgt := 15) dX12_isIn_11 rfl ?_
      exact mp_zreturn (st := []) dX12_isIn_15 rfl rfl ⟨by decide, by decide⟩ ((mp_ans (by first | with_reducible rfl | omega | rfl)))
theorem zX12_least {a : Int} {b : Int} {σ : mp_H} (h_a : mp_w a) (h_b : mp_w b) : mp_Call (mX12_least, 0, 0, 0) [mp_i a, mp_i b] σ (some (mp_i (if a < b then a else b)), σ) := by
  refine mp_Call.of (L := [some (mp_i a), some (mp_i b)]) pnX12 (Nat.le_of_ble_eq_true rfl) rfl ?_
  refine mp_iload_n dX12_least_0 rfl ?_
  refine mp_iload_n dX12_least_1 rfl ?_
  refine mp_icmp_ge (tgt := 9) dX12_least_2 rfl ⟨by omega, by omega⟩ ⟨by omega, by omega⟩ (fun h1 => ?_) (fun h1 => ?_)
  · refine mp_iload_n dX12_least_9 rfl ?_
    exact mp_ireturn (st := []) dX12_least_10 rfl ⟨by decide, by decide⟩ ((mp_ans (by first | with_reducible rfl | omega | rfl)))
  · refine mp_iload_n dX12_least_5 rfl ?_
    refine mp_goto (tgt := 10) dX12_least_6 rfl ?_
    exact mp_ireturn (st := []) dX12_least_10 rfl ⟨by decide, by decide⟩ ((mp_ans (by first | with_reducible rfl | omega | rfl)))
theorem zX12_most {a : Int} {b : Int} {σ : mp_H} (h_a : mp_w a) (h_b : mp_w b) : mp_Call (mX12_most, 0, 0, 0) [mp_i a, mp_i b] σ (some (mp_i (if b < a then a else b)), σ) := by
  refine mp_Call.of (L := [some (mp_i a), some (mp_i b)]) pnX12 (Nat.le_of_ble_eq_true rfl) rfl ?_
  refine mp_iload_n dX12_most_0 rfl ?_
  refine mp_iload_n dX12_most_1 rfl ?_
  refine mp_icmp_le (tgt := 9) dX12_most_2 rfl ⟨by omega, by omega⟩ ⟨by omega, by omega⟩ (fun h1 => ?_) (fun h1 => ?_)
  · refine mp_iload_n dX12_most_9 rfl ?_
    exact mp_ireturn (st := []) dX12_most_10 rfl ⟨by decide, by decide⟩ ((mp_ans (by first | with_reducible rfl | omega | rfl)))
  · refine mp_iload_n dX12_most_5 rfl ?_
    refine mp_goto (tgt := 10) dX12_most_6 rfl ?_
    exact mp_ireturn (st := []) dX12_most_10 rfl ⟨by decide, by decide⟩ ((mp_ans (by first | with_reducible rfl | omega | rfl)))
theorem zX12_of {k : Int} {x : Int} {σ : mp_H} : mp_Call (mX12_of, 0, 0, 0) [mp_i k, mp_i x] σ (some (mp_i (1 + 6 * k + x)), σ) := by
  refine mp_Call.of (L := [some (mp_i k), some (mp_i x)]) pnX12 (Nat.le_of_ble_eq_true rfl) rfl ?_
  refine mp_iconst dX12_of_0 ?_
  refine mp_bipush dX12_of_1 rfl ?_
  refine mp_iload_n dX12_of_3 rfl ?_
  refine mp_imul (z := 6 * k) dX12_of_4 (by first | rfl | omega) ?_
  refine mp_iadd (z := 1 + (6 * k)) dX12_of_5 (by first | rfl | omega) ?_
  refine mp_iload_n dX12_of_6 rfl ?_
  refine mp_iadd (z := (1 + (6 * k)) + x) dX12_of_7 (by first | rfl | omega) ?_
  exact mp_ireturn (st := []) dX12_of_8 rfl ⟨by decide, by decide⟩ ((mp_ans (by first | with_reducible rfl | omega | rfl)))
theorem zX12_by {l : Int} {x : Int} {σ : mp_H} : mp_Call (mX12_by, 0, 0, 0) [mp_i l, mp_i x] σ (some (mp_i (49 + 3 * l + x)), σ) := by
  refine mp_Call.of (L := [some (mp_i l), some (mp_i x)]) pnX12 (Nat.le_of_ble_eq_true rfl) rfl ?_
  refine mp_bipush dX12_by_0 rfl ?_
  refine mp_iconst dX12_by_2 ?_
  refine mp_iload_n dX12_by_3 rfl ?_
  refine mp_imul (z := 3 * l) dX12_by_4 (by first | rfl | omega) ?_
  refine mp_iadd (z := 49 + (3 * l)) dX12_by_5 (by first | rfl | omega) ?_
  refine mp_iload_n dX12_by_6 rfl ?_
  refine mp_iadd (z := (49 + (3 * l)) + x) dX12_by_7 (by first | rfl | omega) ?_
  exact mp_ireturn (st := []) dX12_by_8 rfl ⟨by decide, by decide⟩ ((mp_ans (by first | with_reducible rfl | omega | rfl)))
theorem zX12_isLooker {l : Int} {σ : mp_H} (h_l : mp_w l) : mp_Call (mX12_isLooker, 1, 0, 0) [mp_i l] σ (some (mp_i (if 0 ≤ l ∧ l ≤ 4 then 1 else 0)), σ) := by
  refine mp_Call.of (L := [some (mp_i l)]) pnX12 (Nat.le_of_ble_eq_true rfl) rfl ?_
  refine mp_iload_n dX12_isLooker_0 rfl ?_
  refine mp_iconst dX12_isLooker_1 ?_
  refine mp_iconst dX12_isLooker_2 ?_
  refine mp_invS (z := (mX12_isIn, 0, 0, 0)) (K' := (0, 0)) (σ1 := σ) (as := [mp_i l, mp_i 0, mp_i 4]) (st := []) (st1 := [mp_i (if 0 ≤ l ∧ l ≤ 4 then 1 else 0)]) dX12_isLooker_3 ssX12_53 (zX12_isIn (v := l) (a := 0) (b := 4)  (by first | with_reducible assumption | omega) (by first | with_reducible assumption | omega) (by first | with_reducible assumption | omega)) ⟨Nat.le_of_ble_eq_true rfl, Nat.le_of_ble_eq_true rfl, Nat.le_of_ble_eq_true rfl, Nat.le_of_ble_eq_true rfl, Nat.le_of_ble_eq_true rfl⟩ rfl rfl rfl rfl ?_
  exact mp_zreturn (st := []) dX12_isLooker_6 rfl mp_nzb ⟨by decide, by decide⟩ ((mp_ans (by first | with_reducible rfl | omega | rfl)))
theorem zX12_isShelf {d : Int} {σ : mp_H} (h_d : mp_w d) : mp_Call (mX12_isShelf, 1, 0, 0) [mp_i d] σ (some (mp_i (if 0 ≤ d ∧ d ≤ 7 then 1 else 0)), σ) := by
  refine mp_Call.of (L := [some (mp_i d)]) pnX12 (Nat.le_of_ble_eq_true rfl) rfl ?_
  refine mp_iload_n dX12_isShelf_0 rfl ?_
  refine mp_iconst dX12_isShelf_1 ?_
  refine mp_bipush dX12_isShelf_2 rfl ?_
  refine mp_invS (z := (mX12_isIn, 0, 0, 0)) (K' := (0, 0)) (σ1 := σ) (as := [mp_i d, mp_i 0, mp_i 7]) (st := []) (st1 := [mp_i (if 0 ≤ d ∧ d ≤ 7 then 1 else 0)]) dX12_isShelf_4 ssX12_53 (zX12_isIn (v := d) (a := 0) (b := 7)  (by first | with_reducible assumption | omega) (by first | with_reducible assumption | omega) (by first | with_reducible assumption | omega)) ⟨Nat.le_of_ble_eq_true rfl, Nat.le_of_ble_eq_true rfl, Nat.le_of_ble_eq_true rfl, Nat.le_of_ble_eq_true rfl, Nat.le_of_ble_eq_true rfl⟩ rfl rfl rfl rfl ?_
  exact mp_zreturn (st := []) dX12_isShelf_7 rfl mp_nzb ⟨by decide, by decide⟩ ((mp_ans (by first | with_reducible rfl | omega | rfl)))
theorem zX12_isFor {l : Int} {σ : mp_H} (h_l : mp_w l) : mp_Call (mX12_isFor, 2, 0, 0) [mp_i l] σ (some (mp_i (if (0 ≤ l ∧ l ≤ 4) ∨ l = 9 then 1 else 0)), σ) := by
  refine mp_Call.of (L := [some (mp_i l)]) pnX12 (Nat.le_of_ble_eq_true rfl) rfl ?_
  refine mp_iload_n dX12_isFor_0 rfl ?_
  refine mp_invS (z := (mX12_isLooker, 1, 0, 0)) (K' := (0, 0)) (σ1 := σ) (as := [mp_i l]) (st := []) (st1 := [mp_i (if 0 ≤ l ∧ l ≤ 4 then 1 else 0)]) dX12_isFor_1 ssX12_128 (zX12_isLooker (l := l)  (by first | with_reducible assumption | omega)) ⟨Nat.le_of_ble_eq_true rfl, Nat.le_of_ble_eq_true rfl, Nat.le_of_ble_eq_true rfl, Nat.le_of_ble_eq_true rfl, Nat.le_of_ble_eq_true rfl⟩ rfl rfl rfl rfl ?_
  refine mp_ifb_ne (tgt := 13) dX12_isFor_4 rfl (fun h1 => ?_) (fun h1 => ?_)
  · refine mp_iconst dX12_isFor_13 ?_
    refine mp_goto (tgt := 18) dX12_isFor_14 rfl ?_
    exact mp_zreturn (st := []) dX12_isFor_18 rfl rfl ⟨by decide, by decide⟩ ((mp_ans (by first | with_reducible rfl | omega | rfl)))
  · refine mp_iload_n dX12_isFor_7 rfl ?_
    refine mp_bipush dX12_isFor_8 rfl ?_
    refine mp_icmp_ne (tgt := 17) dX12_isFor_10 rfl ⟨by omega, by omega⟩ ⟨by omega, by omega⟩ (fun h2 => ?_) (fun h2 => ?_)
    · refine mp_iconst dX12_isFor_17 ?_
      exact mp_zreturn (st := []) dX12_isFor_18 rfl rfl ⟨by decide, by decide⟩ ((mp_ans (by first | with_reducible rfl | omega | rfl)))
    · refine mp_iconst dX12_isFor_13 ?_
      refine mp_goto (tgt := 18) dX12_isFor_14 rfl ?_
      exact mp_zreturn (st := []) dX12_isFor_18 rfl rfl ⟨by decide, by decide⟩ ((mp_ans (by first | with_reducible rfl | omega | rfl)))
theorem zX12_isWell {c : Int} {s : Int} {n : Int} {σ : mp_H} (h_c : mp_w c) (h_s : mp_w s) (h_n : mp_w n) : mp_Call (mX12_isWell, 1, 0, 0) [mp_i c, mp_i s, mp_i n] σ (some (mp_i (if (0 ≤ c ∧ c ≤ 15) ∧ (0 ≤ s ∧ s ≤ 4) ∧ (0 ≤ n ∧ n ≤ 30) then 1 else 0)), σ) := by
  refine mp_Call.of (L := [some (mp_i c), some (mp_i s), some (mp_i n)]) pnX12 (Nat.le_of_ble_eq_true rfl) rfl ?_
  refine mp_iload_n dX12_isWell_0 rfl ?_
  refine mp_iconst dX12_isWell_1 ?_
  refine mp_bipush dX12_isWell_2 rfl ?_
  refine mp_invS (z := (mX12_isIn, 0, 0, 0)) (K' := (0, 0)) (σ1 := σ) (as := [mp_i c, mp_i 0, mp_i 15]) (st := []) (st1 := [mp_i (if 0 ≤ c ∧ c ≤ 15 then 1 else 0)]) dX12_isWell_4 ssX12_53 (zX12_isIn (v := c) (a := 0) (b := 15)  (by first | with_reducible assumption | omega) (by first | with_reducible assumption | omega) (by first | with_reducible assumption | omega)) ⟨Nat.le_of_ble_eq_true rfl, Nat.le_of_ble_eq_true rfl, Nat.le_of_ble_eq_true rfl, Nat.le_of_ble_eq_true rfl, Nat.le_of_ble_eq_true rfl⟩ rfl rfl rfl rfl ?_
  refine mp_ifb_eq (tgt := 33) dX12_isWell_7 rfl (fun h1 => ?_) (fun h1 => ?_)
  · refine mp_iconst dX12_isWell_33 ?_
    exact mp_zreturn (st := []) dX12_isWell_34 rfl rfl ⟨by decide, by decide⟩ ((mp_ans (by first | with_reducible rfl | omega | rfl)))
  · refine mp_iload_n dX12_isWell_10 rfl ?_
    refine mp_iconst dX12_isWell_11 ?_
    refine mp_iconst dX12_isWell_12 ?_
    refine mp_invS (z := (mX12_isIn, 0, 0, 0)) (K' := (0, 0)) (σ1 := σ) (as := [mp_i s, mp_i 0, mp_i 4]) (st := []) (st1 := [mp_i (if 0 ≤ s ∧ s ≤ 4 then 1 else 0)]) dX12_isWell_13 ssX12_53 (zX12_isIn (v := s) (a := 0) (b := 4)  (by first | with_reducible assumption | omega) (by first | with_reducible assumption | omega) (by first | with_reducible assumption | omega)) ⟨Nat.le_of_ble_eq_true rfl, Nat.le_of_ble_eq_true rfl, Nat.le_of_ble_eq_true rfl, Nat.le_of_ble_eq_true rfl, Nat.le_of_ble_eq_true rfl⟩ rfl rfl rfl rfl ?_
    refine mp_ifb_eq (tgt := 33) dX12_isWell_16 rfl (fun h2 => ?_) (fun h2 => ?_)
    · refine mp_iconst dX12_isWell_33 ?_
      exact mp_zreturn (st := []) dX12_isWell_34 rfl rfl ⟨by decide, by decide⟩ ((mp_ans (by first | with_reducible rfl | omega | rfl)))
    · refine mp_iload_n dX12_isWell_19 rfl ?_
      refine mp_iconst dX12_isWell_20 ?_
      refine mp_bipush dX12_isWell_21 rfl ?_
      refine mp_invS (z := (mX12_isIn, 0, 0, 0)) (K' := (0, 0)) (σ1 := σ) (as := [mp_i n, mp_i 0, mp_i 30]) (st := []) (st1 := [mp_i (if 0 ≤ n ∧ n ≤ 30 then 1 else 0)]) dX12_isWell_23 ssX12_53 (zX12_isIn (v := n) (a := 0) (b := 30)  (by first | with_reducible assumption | omega) (by first | with_reducible assumption | omega) (by first | with_reducible assumption | omega)) ⟨Nat.le_of_ble_eq_true rfl, Nat.le_of_ble_eq_true rfl, Nat.le_of_ble_eq_true rfl, Nat.le_of_ble_eq_true rfl, Nat.le_of_ble_eq_true rfl⟩ rfl rfl rfl rfl ?_
      refine mp_ifb_eq (tgt := 33) dX12_isWell_26 rfl (fun h3 => ?_) (fun h3 => ?_)
      · refine mp_iconst dX12_isWell_33 ?_
        exact mp_zreturn (st := []) dX12_isWell_34 rfl rfl ⟨by decide, by decide⟩ ((mp_ans (by first | with_reducible rfl | omega | rfl)))
      · refine mp_iconst dX12_isWell_29 ?_
        refine mp_goto (tgt := 34) dX12_isWell_30 rfl ?_
        exact mp_zreturn (st := []) dX12_isWell_34 rfl rfl ⟨by decide, by decide⟩ ((mp_ans (by first | with_reducible rfl | omega | rfl)))
