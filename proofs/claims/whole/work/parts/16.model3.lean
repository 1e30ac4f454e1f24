theorem lX12_mistakesOf_4 {s : Int → Int} {r : Nat} {σ : mp_H} (hr : σ[r]? = some (mp_I 64 (mp_F s))) (hs : mp_sky s) {R9 : mp_An} : ∀ (n : Nat) (l : Int) (u : Int), ((0 ≤ l ∧ l + (n : Nat) = 5) ∧ 0 ≤ u ∧ u < 256) → mp_At (mX12_mistakesOf, 1, 0, 0) (0, 0) 50 [some (Value.ref r), some (mp_i (mp_fold (sp_misStep s) n l u)), none, none] [] σ R9 → mp_At (mX12_mistakesOf, 1, 0, 0) (0, 0) 4 [some (Value.ref r), some (mp_i u), some (mp_i l), none] [] σ R9 := by
  intro n
  induction n with
  | zero =>
    intro l u hi hk
    refine mp_iload_n dX12_mistakesOf_4 rfl ?_
    refine mp_iconst dX12_mistakesOf_5 ?_
    refine mp_icmp_ge (tgt := 50) dX12_mistakesOf_6 rfl ⟨by omega, by omega⟩ ⟨by omega, by omega⟩ (fun h1 => ?_) (fun h1 => ?_)
    · refine mp_drop (L' := [some (Value.ref r), some (mp_i u), none, none]) [true, true, false, false] rfl ?_
      exact hk
    · exfalso; omega
  | succ n ih =>
    intro l u hi hk
    have h0 := hs.1
    have hb := hs.2.2.1 l (by omega) (by omega)
    refine mp_iload_n dX12_mistakesOf_4 rfl ?_
    refine mp_iconst dX12_mistakesOf_5 ?_
    refine mp_icmp_ge (tgt := 50) dX12_mistakesOf_6 rfl ⟨by omega, by omega⟩ ⟨by omega, by omega⟩ (fun h1 => ?_) (fun h1 => ?_)
    · exfalso; omega
    · refine mp_aload_n dX12_mistakesOf_9 rfl ?_
      refine mp_iload_n dX12_mistakesOf_10 rfl ?_
      refine mp_iconst dX12_mistakesOf_11 ?_
      refine mp_invS (z := (mX12_by, 0, 0, 0)) (K' := (0, 0)) (σ1 := σ) (as := [mp_i l, mp_i 2]) (st := [Value.ref r]) (st1 := [mp_i (49 + 3 * l + 2), Value.ref r]) dX12_mistakesOf_12 ssX12_49 (zX12_by (l := l) (x := 2)  ) ⟨Nat.le_of_ble_eq_true rfl, Nat.le_of_ble_eq_true rfl, Nat.le_of_ble_eq_true rfl, Nat.le_of_ble_eq_true rfl, Nat.le_of_ble_eq_true rfl⟩ rfl rfl rfl rfl ?_
      refine mp_iald dX12_mistakesOf_15 hr ⟨by omega, by omega⟩ (by omega) ?_
      refine mp_istore_n (L' := [some (Value.ref r), some (mp_i u), some (mp_i l), some (mp_i (s (49 + 3 * l + 2)))]) dX12_mistakesOf_16 rfl (by decide) rfl ?_
      refine mp_iload_n dX12_mistakesOf_17 rfl ?_
      refine mp_iload_n dX12_mistakesOf_18 rfl ?_
      refine mp_bipush dX12_mistakesOf_19 rfl ?_
      refine mp_icmp_eq (tgt := 41) dX12_mistakesOf_21 rfl ⟨by omega, by omega⟩ ⟨by omega, by omega⟩ (fun h2 => ?_) (fun h2 => ?_)
      · refine mp_iconst dX12_mistakesOf_41 ?_
        refine mp_ior (z := u) dX12_mistakesOf_42 (by rw [mp_z_or (by omega) (by omega), mp_or_0 (by omega)]) ?_
        refine mp_istore_n (L' := [some (Value.ref r), some (mp_i u), some (mp_i l), some (mp_i (s (49 + 3 * l + 2)))]) dX12_mistakesOf_43 rfl (by decide) rfl ?_
        refine mp_iinc (z := l + 1) (L' := [some (Value.ref r), some (mp_i u), some (mp_i (l + 1)), some (mp_i (s (49 + 3 * l + 2)))]) dX12_mistakesOf_44 rfl (rfl) (by decide) rfl ?_
        refine mp_goto (tgt := 4) dX12_mistakesOf_47 rfl ?_
        refine mp_loc (j := 1) (y := sp_misStep s l u) (by unfold sp_misStep; first | rw [if_pos ⟨by omega, by omega⟩] | rw [if_neg (by omega)]) rfl (L' := [some (Value.ref r), some (mp_i (sp_misStep s l u)), some (mp_i (l + 1)), some (mp_i (s (49 + 3 * l + 2)))]) rfl ?_
        refine mp_drop (L' := [some (Value.ref r), some (mp_i (sp_misStep s l u)), some (mp_i (l + 1)), none]) [true, true, true, false] rfl ?_
        exact ih (l + 1) (sp_misStep s l u) (⟨by omega, mp_misStep_bd hs ⟨by omega, by omega⟩ hi.2⟩) hk
      · have hm := hs.2.1 (s (49 + 3 * l + 2)) (by omega) (by omega)
        refine mp_aload_n dX12_mistakesOf_24 rfl ?_
        refine mp_iload_n dX12_mistakesOf_25 rfl ?_
        refine mp_iconst dX12_mistakesOf_26 ?_
        refine mp_invS (z := (mX12_of, 0, 0, 0)) (K' := (0, 0)) (σ1 := σ) (as := [mp_i (s (49 + 3 * l + 2)), mp_i 5]) (st := [Value.ref r, mp_i u]) (st1 := [mp_i (1 + 6 * (s (49 + 3 * l + 2)) + 5), Value.ref r, mp_i u]) dX12_mistakesOf_27 ssX12_60 (zX12_of (k := (s (49 + 3 * l + 2))) (x := 5)  ) ⟨Nat.le_of_ble_eq_true rfl, Nat.le_of_ble_eq_true rfl, Nat.le_of_ble_eq_true rfl, Nat.le_of_ble_eq_true rfl, Nat.le_of_ble_eq_true rfl⟩ rfl rfl rfl rfl ?_
        refine mp_iald dX12_mistakesOf_30 hr ⟨by omega, by omega⟩ (by omega) ?_
        refine mp_iload_n dX12_mistakesOf_31 rfl ?_
        refine mp_icmp_eq (tgt := 41) dX12_mistakesOf_32 rfl ⟨by omega, by omega⟩ ⟨by omega, by omega⟩ (fun h3 => ?_) (fun h3 => ?_)
        · refine mp_iconst dX12_mistakesOf_41 ?_
          refine mp_ior (z := u) dX12_mistakesOf_42 (by rw [mp_z_or (by omega) (by omega), mp_or_0 (by omega)]) ?_
          refine mp_istore_n (L' := [some (Value.ref r), some (mp_i u), some (mp_i l), some (mp_i (s (49 + 3 * l + 2)))]) dX12_mistakesOf_43 rfl (by decide) rfl ?_
          refine mp_iinc (z := l + 1) (L' := [some (Value.ref r), some (mp_i u), some (mp_i (l + 1)), some (mp_i (s (49 + 3 * l + 2)))]) dX12_mistakesOf_44 rfl (rfl) (by decide) rfl ?_
          refine mp_goto (tgt := 4) dX12_mistakesOf_47 rfl ?_
          refine mp_loc (j := 1) (y := sp_misStep s l u) (by unfold sp_misStep; first | rw [if_pos ⟨by omega, by omega⟩] | rw [if_neg (by omega)]) rfl (L' := [some (Value.ref r), some (mp_i (sp_misStep s l u)), some (mp_i (l + 1)), some (mp_i (s (49 + 3 * l + 2)))]) rfl ?_
          refine mp_drop (L' := [some (Value.ref r), some (mp_i (sp_misStep s l u)), some (mp_i (l + 1)), none]) [true, true, true, false] rfl ?_
          exact ih (l + 1) (sp_misStep s l u) (⟨by omega, mp_misStep_bd hs ⟨by omega, by omega⟩ hi.2⟩) hk
        · refine mp_iconst dX12_mistakesOf_35 ?_
          refine mp_iload_n dX12_mistakesOf_36 rfl ?_
          refine mp_ishl (z := mp_bit (s (49 + 3 * l + 2))) dX12_mistakesOf_37 (mp_z_bit ⟨by omega, by omega⟩) ?_
          refine mp_goto (tgt := 42) dX12_mistakesOf_38 rfl ?_
          refine mp_ior (z := mp_or u (mp_bit (s (49 + 3 * l + 2)))) dX12_mistakesOf_42 (mp_z_or (by first | omega | exact mp_bit_nn _ | exact mp_or_nn _ _ | exact mp_and_nn _ _ | exact mp_shr_nn _ _) (by first | omega | exact mp_bit_nn _ | exact mp_or_nn _ _ | exact mp_and_nn _ _ | exact mp_shr_nn _ _)) ?_
          refine mp_istore_n (L' := [some (Value.ref r), some (mp_i (mp_or u (mp_bit (s (49 + 3 * l + 2))))), some (mp_i l), some (mp_i (s (49 + 3 * l + 2)))]) dX12_mistakesOf_43 rfl (by decide) rfl ?_
          refine mp_iinc (z := l + 1) (L' := [some (Value.ref r), some (mp_i (mp_or u (mp_bit (s (49 + 3 * l + 2))))), some (mp_i (l + 1)), some (mp_i (s (49 + 3 * l + 2)))]) dX12_mistakesOf_44 rfl (rfl) (by decide) rfl ?_
          refine mp_goto (tgt := 4) dX12_mistakesOf_47 rfl ?_
          refine mp_loc (j := 1) (y := sp_misStep s l u) (by unfold sp_misStep; first | rw [if_pos ⟨by omega, by omega⟩] | rw [if_neg (by omega)]) rfl (L' := [some (Value.ref r), some (mp_i (sp_misStep s l u)), some (mp_i (l + 1)), some (mp_i (s (49 + 3 * l + 2)))]) rfl ?_
          refine mp_drop (L' := [some (Value.ref r), some (mp_i (sp_misStep s l u)), some (mp_i (l + 1)), none]) [true, true, true, false] rfl ?_
          exact ih (l + 1) (sp_misStep s l u) (⟨by omega, mp_misStep_bd hs ⟨by omega, by omega⟩ hi.2⟩) hk
theorem zX12_mistakesOf {s : Int → Int} {r : Nat} {σ : mp_H} (hr : σ[r]? = some (mp_I 64 (mp_F s))) (hs : mp_sky s) : mp_Call (mX12_mistakesOf, 1, 0, 0) [Value.ref r] σ (some (mp_i (sp_mis s)), σ) := by
  refine mp_Call.of (L := [some (Value.ref r), none, none, none]) pnX12 (Nat.le_of_ble_eq_true rfl) rfl ?_
  refine mp_iconst dX12_mistakesOf_0 ?_
  refine mp_istore_n (L' := [some (Value.ref r), some (mp_i 0), none, none]) dX12_mistakesOf_1 rfl (by decide) rfl ?_
  refine mp_iconst dX12_mistakesOf_2 ?_
  refine mp_istore_n (L' := [some (Value.ref r), some (mp_i 0), some (mp_i 0), none]) dX12_mistakesOf_3 rfl (by decide) rfl ?_
  refine lX12_mistakesOf_4 hr (by first | with_reducible assumption | omega) 5 0 0 (by omega) ?_
  refine mp_iload_n dX12_mistakesOf_50 rfl ?_
  exact mp_ireturn (st := []) dX12_mistakesOf_51 rfl ⟨by decide, by decide⟩ ((mp_ans (by first | with_reducible rfl | omega | rfl)))
theorem lX12_saidOf_4 {s : Int → Int} {r : Nat} {σ : mp_H} (hr : σ[r]? = some (mp_I 64 (mp_F s))) (hs : mp_sky s) {R9 : mp_An} : ∀ (n : Nat) (l : Int) (u : Int), ((0 ≤ l ∧ l + (n : Nat) = 5) ∧ 0 ≤ u ∧ u < 256) → mp_At (mX12_saidOf, 1, 0, 0) (0, 0) 43 [some (Value.ref r), some (mp_i (mp_fold (sp_saidStep s) n l u)), none] [] σ R9 → mp_At (mX12_saidOf, 1, 0, 0) (0, 0) 4 [some (Value.ref r), some (mp_i u), some (mp_i l)] [] σ R9 := by
  intro n
  induction n with
  | zero =>
    intro l u hi hk
    refine mp_iload_n dX12_saidOf_4 rfl ?_
    refine mp_iconst dX12_saidOf_5 ?_
    refine mp_icmp_ge (tgt := 43) dX12_saidOf_6 rfl ⟨by omega, by omega⟩ ⟨by omega, by omega⟩ (fun h1 => ?_) (fun h1 => ?_)
    · refine mp_drop (L' := [some (Value.ref r), some (mp_i u), none]) [true, true, false] rfl ?_
      exact hk
    · exfalso; omega
  | succ n ih =>
    intro l u hi hk
    have h0 := hs.1
    have hb := hs.2.2.1 l (by omega) (by omega)
    refine mp_iload_n dX12_saidOf_4 rfl ?_
    refine mp_iconst dX12_saidOf_5 ?_
    refine mp_icmp_ge (tgt := 43) dX12_saidOf_6 rfl ⟨by omega, by omega⟩ ⟨by omega, by omega⟩ (fun h1 => ?_) (fun h1 => ?_)
    · exfalso; omega
    · refine mp_iload_n dX12_saidOf_9 rfl ?_
      refine mp_aload_n dX12_saidOf_10 rfl ?_
      refine mp_iload_n dX12_saidOf_11 rfl ?_
      refine mp_iconst dX12_saidOf_12 ?_
      refine mp_invS (z := (mX12_by, 0, 0, 0)) (K' := (0, 0)) (σ1 := σ) (as := [mp_i l, mp_i 2]) (st := [Value.ref r, mp_i u]) (st1 := [mp_i (49 + 3 * l + 2), Value.ref r, mp_i u]) dX12_saidOf_13 ssX12_49 (zX12_by (l := l) (x := 2)  ) ⟨Nat.le_of_ble_eq_true rfl, Nat.le_of_ble_eq_true rfl, Nat.le_of_ble_eq_true rfl, Nat.le_of_ble_eq_true rfl, Nat.le_of_ble_eq_true rfl⟩ rfl rfl rfl rfl ?_
      refine mp_iald dX12_saidOf_16 hr ⟨by omega, by omega⟩ (by omega) ?_
      refine mp_bipush dX12_saidOf_17 rfl ?_
      refine mp_icmp_ne (tgt := 26) dX12_saidOf_19 rfl ⟨by omega, by omega⟩ ⟨by omega, by omega⟩ (fun h2 => ?_) (fun h2 => ?_)
      · refine mp_iconst dX12_saidOf_26 ?_
        refine mp_aload_n dX12_saidOf_27 rfl ?_
        refine mp_iload_n dX12_saidOf_28 rfl ?_
        refine mp_iconst dX12_saidOf_29 ?_
        refine mp_invS (z := (mX12_by, 0, 0, 0)) (K' := (0, 0)) (σ1 := σ) (as := [mp_i l, mp_i 2]) (st := [Value.ref r, mp_i 1, mp_i u]) (st1 := [mp_i (49 + 3 * l + 2), Value.ref r, mp_i 1, mp_i u]) dX12_saidOf_30 ssX12_49 (zX12_by (l := l) (x := 2)  ) ⟨Nat.le_of_ble_eq_true rfl, Nat.le_of_ble_eq_true rfl, Nat.le_of_ble_eq_true rfl, Nat.le_of_ble_eq_true rfl, Nat.le_of_ble_eq_true rfl⟩ rfl rfl rfl rfl ?_
        refine mp_iald dX12_saidOf_33 hr ⟨by omega, by omega⟩ (by omega) ?_
        refine mp_ishl (z := mp_bit (s (49 + 3 * l + 2))) dX12_saidOf_34 (mp_z_bit ⟨by omega, by omega⟩) ?_
        refine mp_ior (z := mp_or u (mp_bit (s (49 + 3 * l + 2)))) dX12_saidOf_35 (mp_z_or (by first | omega | exact mp_bit_nn _ | exact mp_or_nn _ _ | exact mp_and_nn _ _ | exact mp_shr_nn _ _) (by first | omega | exact mp_bit_nn _ | exact mp_or_nn _ _ | exact mp_and_nn _ _ | exact mp_shr_nn _ _)) ?_
        refine mp_istore_n (L' := [some (Value.ref r), some (mp_i (mp_or u (mp_bit (s (49 + 3 * l + 2))))), some (mp_i l)]) dX12_saidOf_36 rfl (by decide) rfl ?_
        refine mp_iinc (z := l + 1) (L' := [some (Value.ref r), some (mp_i (mp_or u (mp_bit (s (49 + 3 * l + 2))))), some (mp_i (l + 1))]) dX12_saidOf_37 rfl (rfl) (by decide) rfl ?_
        refine mp_goto (tgt := 4) dX12_saidOf_40 rfl ?_
        refine mp_loc (j := 1) (y := sp_saidStep s l u) (by unfold sp_saidStep; first | rw [if_pos (by omega)] | rw [if_neg (by omega)]) rfl (L' := [some (Value.ref r), some (mp_i (sp_saidStep s l u)), some (mp_i (l + 1))]) rfl ?_
        exact ih (l + 1) (sp_saidStep s l u) (⟨by omega, mp_saidStep_bd hs ⟨by omega, by omega⟩ hi.2⟩) hk
      · refine mp_iconst dX12_saidOf_22 ?_
        refine mp_goto (tgt := 35) dX12_saidOf_23 rfl ?_
        refine mp_ior (z := u) dX12_saidOf_35 (by rw [mp_z_or (by omega) (by omega), mp_or_0 (by omega)]) ?_
        refine mp_istore_n (L' := [some (Value.ref r), some (mp_i u), some (mp_i l)]) dX12_saidOf_36 rfl (by decide) rfl ?_
        refine mp_iinc (z := l + 1) (L' := [some (Value.ref r), some (mp_i u), some (mp_i (l + 1))]) dX12_saidOf_37 rfl (rfl) (by decide) rfl ?_
        refine mp_goto (tgt := 4) dX12_saidOf_40 rfl ?_
        refine mp_loc (j := 1) (y := sp_saidStep s l u) (by unfold sp_saidStep; first | rw [if_pos (by omega)] | rw [if_neg (by omega)]) rfl (L' := [some (Value.ref r), some (mp_i (sp_saidStep s l u)), some (mp_i (l + 1))]) rfl ?_
        exact ih (l + 1) (sp_saidStep s l u) (⟨by omega, mp_saidStep_bd hs ⟨by omega, by omega⟩ hi.2⟩) hk
theorem zX12_saidOf {s : Int → Int} {r : Nat} {σ : mp_H} (hr : σ[r]? = some (mp_I 64 (mp_F s))) (hs : mp_sky s) : mp_Call (mX12_saidOf, 1, 0, 0) [Value.ref r] σ (some (mp_i (sp_said s)), σ) := by
  refine mp_Call.of (L := [some (Value.ref r), none, none]) pnX12 (Nat.le_of_ble_eq_true rfl) rfl ?_
  refine mp_iconst dX12_saidOf_0 ?_
  refine mp_istore_n (L' := [some (Value.ref r), some (mp_i 0), none]) dX12_saidOf_1 rfl (by decide) rfl ?_
  refine mp_iconst dX12_saidOf_2 ?_
  refine mp_istore_n (L' := [some (Value.ref r), some (mp_i 0), some (mp_i 0)]) dX12_saidOf_3 rfl (by decide) rfl ?_
  refine lX12_saidOf_4 hr (by first | with_reducible assumption | omega) 5 0 0 (by omega) ?_
  refine mp_iload_n dX12_saidOf_43 rfl ?_
  exact mp_ireturn (st := []) dX12_saidOf_44 rfl ⟨by decide, by decide⟩ ((mp_ans (by first | with_reducible rfl | omega | rfl)))
theorem lX12_takenOf_4 {s : Int → Int} {r : Nat} {σ : mp_H} (hr : σ[r]? = some (mp_I 64 (mp_F s))) (hs : mp_sky s) {R9 : mp_An} : ∀ (n : Nat) (k : Int) (u : Int), ((0 ≤ k ∧ k + (n : Nat) = s 0) ∧ 0 ≤ u ∧ u ≤ k) → mp_At (mX12_takenOf, 5, 0, 0) (0, 0) 34 [some (Value.ref r), some (mp_i (mp_fold (fun k n => n + (if 0 ≤ sp_taker s k 0 then 1 else 0)) n k u)), none] [] σ R9 → mp_At (mX12_takenOf, 5, 0, 0) (0, 0) 4 [some (Value.ref r), some (mp_i u), some (mp_i k)] [] σ R9 := by
  intro n
  induction n with
  | zero =>
    intro k u hi hk
    have h0 := hs.1
    refine mp_iload_n dX12_takenOf_4 rfl ?_
    refine mp_aload_n dX12_takenOf_5 rfl ?_
    refine mp_iconst dX12_takenOf_6 ?_
    refine mp_iald dX12_takenOf_7 hr ⟨by omega, by omega⟩ (by omega) ?_
    refine mp_icmp_ge (tgt := 34) dX12_takenOf_8 rfl ⟨by omega, by omega⟩ ⟨by omega, by omega⟩ (fun h1 => ?_) (fun h1 => ?_)
    · refine mp_drop (L' := [some (Value.ref r), some (mp_i u), none]) [true, true, false] rfl ?_
      exact hk
    · exfalso; omega
  | succ n ih =>
    intro k u hi hk
    have h0 := hs.1
    have hm := hs.2.1 k (by omega) (by omega)
    have hl := hs.2.2.1
    have htb := mp_taker_bd s k 0
    refine mp_iload_n dX12_takenOf_4 rfl ?_
    refine mp_aload_n dX12_takenOf_5 rfl ?_
    refine mp_iconst dX12_takenOf_6 ?_
    refine mp_iald dX12_takenOf_7 hr ⟨by omega, by omega⟩ (by omega) ?_
    refine mp_icmp_ge (tgt := 34) dX12_takenOf_8 rfl ⟨by omega, by omega⟩ ⟨by omega, by omega⟩ (fun h1 => ?_) (fun h1 => ?_)
    · exfalso; omega
    · refine mp_iload_n dX12_takenOf_11 rfl ?_
      refine mp_aload_n dX12_takenOf_12 rfl ?_
      refine mp_iload_n dX12_takenOf_13 rfl ?_
      refine mp_iconst dX12_takenOf_14 ?_
      refine mp_invS (z := (mX12_takerOf, 4, 0, 0)) (K' := (0, 0)) (σ1 := σ) (as := [Value.ref r, mp_i k, mp_i 0]) (st := [mp_i u]) (st1 := [mp_i (sp_taker s k 0), mp_i u]) dX12_takenOf_15 ssX12_102 (zX12_takerOf (r := r) (k := k) (g := 0) (s := s) hr (by first | with_reducible assumption | omega) (by first | with_reducible assumption | omega) (by first | with_reducible assumption | omega) (by first | with_reducible assumption | omega) (by first | with_reducible assumption | omega)) ⟨Nat.le_of_ble_eq_true rfl, Nat.le_of_ble_eq_true rfl, Nat.le_of_ble_eq_true rfl, Nat.le_of_ble_eq_true rfl, Nat.le_of_ble_eq_true rfl⟩ rfl rfl rfl rfl ?_
      refine mp_if_lt (tgt := 25) dX12_takenOf_18 rfl ⟨by omega, by omega⟩ (fun h2 => ?_) (fun h2 => ?_)
      · refine mp_iconst dX12_takenOf_25 ?_
        refine mp_iadd (z := u + 0) dX12_takenOf_26 (by first | rfl | omega) ?_
        refine mp_istore_n (L' := [some (Value.ref r), some (mp_i (u + 0)), some (mp_i k)]) dX12_takenOf_27 rfl (by decide) rfl ?_
        refine mp_iinc (z := k + 1) (L' := [some (Value.ref r), some (mp_i (u + 0)), some (mp_i (k + 1))]) dX12_takenOf_28 rfl (rfl) (by decide) rfl ?_
        refine mp_goto (tgt := 4) dX12_takenOf_31 rfl ?_
        refine mp_loc (j := 1) (y := u + (if 0 ≤ sp_taker s k 0 then 1 else 0)) (by omega) rfl (L' := [some (Value.ref r), some (mp_i (u + (if 0 ≤ sp_taker s k 0 then 1 else 0))), some (mp_i (k + 1))]) rfl ?_
        exact ih (k + 1) (u + (if 0 ≤ sp_taker s k 0 then 1 else 0)) (by omega) hk
      · refine mp_iconst dX12_takenOf_21 ?_
        refine mp_goto (tgt := 26) dX12_takenOf_22 rfl ?_
        refine mp_iadd (z := u + 1) dX12_takenOf_26 (by first | rfl | omega) ?_
        refine mp_istore_n (L' := [some (Value.ref r), some (mp_i (u + 1)), some (mp_i k)]) dX12_takenOf_27 rfl (by decide) rfl ?_
        refine mp_iinc (z := k + 1) (L' := [some (Value.ref r), some (mp_i (u + 1)), some (mp_i (k + 1))]) dX12_takenOf_28 rfl (rfl) (by decide) rfl ?_
        refine mp_goto (tgt := 4) dX12_takenOf_31 rfl ?_
        refine mp_loc (j := 1) (y := u + (if 0 ≤ sp_taker s k 0 then 1 else 0)) (by omega) rfl (L' := [some (Value.ref r), some (mp_i (u + (if 0 ≤ sp_taker s k 0 then 1 else 0))), some (mp_i (k + 1))]) rfl ?_
        exact ih (k + 1) (u + (if 0 ≤ sp_taker s k 0 then 1 else 0)) (by omega) hk
theorem zX12_takenOf {s : Int → Int} {r : Nat} {σ : mp_H} (hr : σ[r]? = some (mp_I 64 (mp_F s))) (hs : mp_sky s) : mp_Call (mX12_takenOf, 5, 0, 0) [Value.ref r] σ (some (mp_i (sp_taken s)), σ) := by
  refine mp_Call.of (L := [some (Value.ref r), none, none]) pnX12 (Nat.le_of_ble_eq_true rfl) rfl ?_
  have h0 := hs.1
  refine mp_iconst dX12_takenOf_0 ?_
  refine mp_istore_n (L' := [some (Value.ref r), some (mp_i 0), none]) dX12_takenOf_1 rfl (by decide) rfl ?_
  refine mp_iconst dX12_takenOf_2 ?_
  refine mp_istore_n (L' := [some (Value.ref r), some (mp_i 0), some (mp_i 0)]) dX12_takenOf_3 rfl (by decide) rfl ?_
  refine lX12_takenOf_4 hr (by first | with_reducible assumption | omega) ((s 0).toNat) 0 0 (by omega) ?_
  refine mp_iload_n dX12_takenOf_34 rfl ?_
  exact mp_ireturn (st := []) dX12_takenOf_35 rfl ⟨by decide, by decide⟩ ((mp_ans (by first | with_reducible rfl | omega | rfl)))
theorem lX12_copies_2 {f : Int → Int} {g : Int → Int} {a : Nat} {b : Nat} {σ : mp_H} (hf : σ[a]? = some (mp_I 64 (mp_F f))) (hg : σ[b]? = some (mp_I 64 (mp_F g))) (hne : a ≠ b) (h_b : 0 < b) {R9 : mp_An} : ∀ (n : Nat) (t : Int) (q : Int → Int), ((0 ≤ t ∧ t + (n : Nat) = 64) ∧ ∀ j, 0 ≤ j → j < t → q j = f j) → R9 = (none, σ.set b (mp_I 64 (mp_F f))) → mp_At (mX12_copies, 0, 0, 0) (0, 0) 2 [some (Value.ref a), some (Value.ref b), some (mp_i t)] [] (σ.set b (mp_I 64 (mp_F q))) R9 := by
  intro n
  induction n with
  | zero =>
    intro t q hi hR
    refine mp_iload_n dX12_copies_2 rfl ?_
    refine mp_bipush dX12_copies_3 rfl ?_
    refine mp_icmp_ge (tgt := 20) dX12_copies_5 rfl ⟨by omega, by omega⟩ ⟨by omega, by omega⟩ (fun h1 => ?_) (fun h1 => ?_)
    · refine mp_extAt (g := mp_F f) (fun j hj => hi.2 (j : Int) (by omega) (by omega)) ?_
      exact mp_vreturn (st := []) dX12_copies_20 rfl ⟨by decide, by decide⟩ (hR)
    · exfalso; omega
  | succ n ih =>
    intro t q hi hR
    refine mp_iload_n dX12_copies_2 rfl ?_
    refine mp_bipush dX12_copies_3 rfl ?_
    refine mp_icmp_ge (tgt := 20) dX12_copies_5 rfl ⟨by omega, by omega⟩ ⟨by omega, by omega⟩ (fun h1 => ?_) (fun h1 => ?_)
    · exfalso; omega
    · refine mp_aload_n dX12_copies_8 rfl ?_
      refine mp_iload_n dX12_copies_9 rfl ?_
      refine mp_aload_n dX12_copies_10 rfl ?_
      refine mp_iload_n dX12_copies_11 rfl ?_
      refine mp_iald dX12_copies_12 (mp_set_ne hne hf) ⟨by omega, by omega⟩ (by omega) ?_
      refine mp_iast (σ' := σ.set b (mp_I 64 (mp_F (mp_ud q t (f t))))) dX12_copies_13 (mp_set_at hg) h_b ⟨by omega, by omega⟩ (by decide) (List.set_set _) ?_
      refine mp_iinc (z := t + 1) (L' := [some (Value.ref a), some (Value.ref b), some (mp_i (t + 1))]) dX12_copies_14 rfl (rfl) (by decide) rfl ?_
      refine mp_goto (tgt := 2) dX12_copies_17 rfl ?_
      exact ih (t + 1) (mp_ud q t (f t)) (⟨by omega, fun j h1 h2 => mp_ud_cp hi.2 h1 h2⟩) (hR.trans (by rfl))
theorem zX12_copies {f : Int → Int} {g : Int → Int} {a : Nat} {b : Nat} {σ : mp_H} (hf : σ[a]? = some (mp_I 64 (mp_F f))) (hg : σ[b]? = some (mp_I 64 (mp_F g))) (hne : a ≠ b) (h_b : 0 < b) : mp_Call (mX12_copies, 0, 0, 0) [Value.ref a, Value.ref b] σ (none, σ.set b (mp_I 64 (mp_F f))) := by
  refine mp_Call.of (L := [some (Value.ref a), some (Value.ref b), none]) pnX12 (Nat.le_of_ble_eq_true rfl) rfl ?_
  refine mp_iconst dX12_copies_0 ?_
  refine mp_istore_n (L' := [some (Value.ref a), some (Value.ref b), some (mp_i 0)]) dX12_copies_1 rfl (by decide) rfl ?_
  refine mp_sg (mp_set_same hg).symm ?_
  exact lX12_copies_2 hf hg (by first | with_reducible assumption | omega) (by first | with_reducible assumption | omega) 64 0 g (⟨by omega, fun j h1 h2 => by omega⟩) (by rfl)
theorem lX12_runs_4 {s : Int → Int} {r : Nat} {w : Int} {σ : mp_H} (hr : σ[r]? = some (mp_I 64 (mp_F s))) (hs : mp_sky s) (h_w : mp_w w) (h_r : 0 < r) {R9 : mp_An} : ∀ (n : Nat) (k : Int) (p : (Int → Int) × Int), ((0 ≤ k ∧ k + (n : Nat) = p.1 0) ∧ mp_sky p.1 ∧ p.1 0 = s 0 ∧ 0 ≤ p.2 ∧ p.2 ≤ k) → mp_At (mX12_runs, 5, 0, 0) (0, 0) 67 [some (Value.ref r), some (mp_i w), some (mp_i ((mp_fold (sp_runStep w) n k p).2)), none, none] [] (σ.set r (mp_I 64 (mp_F (mp_fold (sp_runStep w) n k p).1))) R9 → mp_At (mX12_runs, 5, 0, 0) (0, 0) 4 [some (Value.ref r), some (mp_i w), some (mp_i p.2), some (mp_i k), none] [] (σ.set r (mp_I 64 (mp_F p.1))) R9 := by
  intro n
  induction n with
  | zero =>
    intro k p hi hk
    have hs1 := hi.2.1
    have h0 := hs1.1
    refine mp_iload_n dX12_runs_4 rfl ?_
    refine mp_aload_n dX12_runs_5 rfl ?_
    refine mp_iconst dX12_runs_6 ?_
    refine mp_iald dX12_runs_7 (mp_set_at hr) ⟨by omega, by omega⟩ (by omega) ?_
    refine mp_icmp_ge (tgt := 67) dX12_runs_8 rfl ⟨by omega, by omega⟩ ⟨by omega, by omega⟩ (fun h1 => ?_) (fun h1 => ?_)
    · refine mp_drop (L' := [some (Value.ref r), some (mp_i w), some (mp_i p.2), none, none]) [true, true, true, false, false] rfl ?_
      exact hk
    · exfalso; omega
  | succ n ih =>
    intro k p hi hk
    have hs1 := hi.2.1
    have h0 := hs1.1
    have hm := hs1.2.1 k (by omega) (by omega)
    have hl := hs1.2.2.1
    have htb := mp_taker_bd p.1 k 1
    have hsb := mp_isSaid_bd p.1 k 5 0
    refine mp_iload_n dX12_runs_4 rfl ?_
    refine mp_aload_n dX12_runs_5 rfl ?_
    refine mp_iconst dX12_runs_6 ?_
    refine mp_iald dX12_runs_7 (mp_set_at hr) ⟨by omega, by omega⟩ (by omega) ?_
    refine mp_icmp_ge (tgt := 67) dX12_runs_8 rfl ⟨by omega, by omega⟩ ⟨by omega, by omega⟩ (fun h1 => ?_) (fun h1 => ?_)
    · exfalso; omega
    · refine mp_aload_n dX12_runs_11 rfl ?_
      refine mp_iload_n dX12_runs_12 rfl ?_
      refine mp_iconst dX12_runs_13 ?_
      refine mp_invS (z := (mX12_of, 0, 0, 0)) (K' := (0, 0)) (σ1 := (σ.set r (mp_I 64 (mp_F p.1)))) (as := [mp_i k, mp_i 4]) (st := [Value.ref r]) (st1 := [mp_i (1 + 6 * k + 4), Value.ref r]) dX12_runs_14 ssX12_60 (zX12_of (k := k) (x := 4)  ) ⟨Nat.le_of_ble_eq_true rfl, Nat.le_of_ble_eq_true rfl, Nat.le_of_ble_eq_true rfl, Nat.le_of_ble_eq_true rfl, Nat.le_of_ble_eq_true rfl⟩ rfl rfl rfl rfl ?_
      refine mp_iald dX12_runs_17 (mp_set_at hr) ⟨by omega, by omega⟩ (by omega) ?_
      refine mp_iload_n dX12_runs_18 rfl ?_
      refine mp_icmp_ne (tgt := 61) dX12_runs_19 rfl ⟨by omega, by omega⟩ ⟨by omega, by omega⟩ (fun h2 => ?_) (fun h2 => ?_)
      · refine mp_iinc (z := k + 1) (L' := [some (Value.ref r), some (mp_i w), some (mp_i p.2), some (mp_i (k + 1)), none]) dX12_runs_61 rfl (rfl) (by decide) rfl ?_
        refine mp_goto (tgt := 4) dX12_runs_64 rfl ?_
        have e9 : sp_runStep w k p = p := by unfold sp_runStep; first | rw [if_pos (by omega)] | rw [if_neg (by omega), if_pos (by omega)] | rw [if_neg (by omega), if_neg (by omega)]
        obtain ⟨g1, g2, g3, g4⟩ := mp_runStep_sky (night := w) (k := k) (p := p) hi.2.1 ⟨by omega, by omega⟩
        have k9 := ih (k + 1) (sp_runStep w k p) ⟨by omega, g1, by omega, by omega, by omega⟩ hk
        rw [e9] at k9
        exact k9
      · refine mp_aload_n dX12_runs_22 rfl ?_
        refine mp_iload_n dX12_runs_23 rfl ?_
        refine mp_invS (z := (mX12_isSaid, 1, 0, 0)) (K' := (0, 0)) (σ1 := (σ.set r (mp_I 64 (mp_F p.1)))) (as := [Value.ref r, mp_i k]) (st := []) (st1 := [mp_i (sp_isSaid p.1 k 5 0)]) dX12_runs_24 ssX12_98 (zX12_isSaid (r := r) (k := k) (s := p.1) (mp_set_at hr) (by first | with_reducible assumption | omega) (by first | with_reducible assumption | omega) (by first | with_reducible assumption | omega)) ⟨Nat.le_of_ble_eq_true rfl, Nat.le_of_ble_eq_true rfl, Nat.le_of_ble_eq_true rfl, Nat.le_of_ble_eq_true rfl, Nat.le_of_ble_eq_true rfl⟩ rfl rfl rfl rfl ?_
        refine mp_if_eq (tgt := 33) dX12_runs_27 rfl ⟨by omega, by omega⟩ (fun h3 => ?_) (fun h3 => ?_)
        · refine mp_aload_n dX12_runs_33 rfl ?_
          refine mp_iload_n dX12_runs_34 rfl ?_
          refine mp_iconst dX12_runs_35 ?_
          refine mp_invS (z := (mX12_takerOf, 4, 0, 0)) (K' := (0, 0)) (σ1 := (σ.set r (mp_I 64 (mp_F p.1)))) (as := [Value.ref r, mp_i k, mp_i 1]) (st := []) (st1 := [mp_i (sp_taker p.1 k 1)]) dX12_runs_36 ssX12_102 (zX12_takerOf (r := r) (k := k) (g := 1) (s := p.1) (mp_set_at hr) (by first | with_reducible assumption | omega) (by first | with_reducible assumption | omega) (by first | with_reducible assumption | omega) (by first | with_reducible assumption | omega) (by first | with_reducible assumption | omega)) ⟨Nat.le_of_ble_eq_true rfl, Nat.le_of_ble_eq_true rfl, Nat.le_of_ble_eq_true rfl, Nat.le_of_ble_eq_true rfl, Nat.le_of_ble_eq_true rfl⟩ rfl rfl rfl rfl ?_
          refine mp_istore (L' := [some (Value.ref r), some (mp_i w), some (mp_i p.2), some (mp_i k), some (mp_i (sp_taker p.1 k 1))]) dX12_runs_39 (by decide) rfl ?_
          refine mp_iload dX12_runs_41 rfl ?_
          refine mp_if_ge (tgt := 49) dX12_runs_43 rfl ⟨by omega, by omega⟩ (fun h4 => ?_) (fun h4 => ?_)
          · refine mp_aload_n dX12_runs_49 rfl ?_
            refine mp_iload dX12_runs_50 rfl ?_
            refine mp_iconst dX12_runs_52 ?_
            refine mp_invS (z := (mX12_by, 0, 0, 0)) (K' := (0, 0)) (σ1 := (σ.set r (mp_I 64 (mp_F p.1)))) (as := [mp_i (sp_taker p.1 k 1), mp_i 2]) (st := [Value.ref r]) (st1 := [mp_i (49 + 3 * (sp_taker p.1 k 1) + 2), Value.ref r]) dX12_runs_53 ssX12_49 (zX12_by (l := (sp_taker p.1 k 1)) (x := 2)  ) ⟨Nat.le_of_ble_eq_true rfl, Nat.le_of_ble_eq_true rfl, Nat.le_of_ble_eq_true rfl, Nat.le_of_ble_eq_true rfl, Nat.le_of_ble_eq_true rfl⟩ rfl rfl rfl rfl ?_
            refine mp_iload_n dX12_runs_56 rfl ?_
            refine mp_iast (σ' := σ.set r (mp_I 64 (mp_F (mp_ud p.1 (49 + 3 * (sp_taker p.1 k 1) + 2) k)))) dX12_runs_57 (mp_set_at hr) h_r ⟨by omega, by omega⟩ (by decide) (List.set_set _) ?_
            refine mp_iinc (z := p.2 + 1) (L' := [some (Value.ref r), some (mp_i w), some (mp_i (p.2 + 1)), some (mp_i k), some (mp_i (sp_taker p.1 k 1))]) dX12_runs_58 rfl (rfl) (by decide) rfl ?_
            refine mp_iinc (z := k + 1) (L' := [some (Value.ref r), some (mp_i w), some (mp_i (p.2 + 1)), some (mp_i (k + 1)), some (mp_i (sp_taker p.1 k 1))]) dX12_runs_61 rfl (rfl) (by decide) rfl ?_
            refine mp_goto (tgt := 4) dX12_runs_64 rfl ?_
            have e9 : sp_runStep w k p = (mp_ud p.1 (49 + 3 * sp_taker p.1 k 1 + 2) k, p.2 + 1) := by unfold sp_runStep; first | rw [if_pos (by omega)] | rw [if_neg (by omega), if_pos (by omega)] | rw [if_neg (by omega), if_neg (by omega)]
            obtain ⟨g1, g2, g3, g4⟩ := mp_runStep_sky (night := w) (k := k) (p := p) hi.2.1 ⟨by omega, by omega⟩
            have k9 := ih (k + 1) (sp_runStep w k p) ⟨by omega, g1, by omega, by omega, by omega⟩ hk
            rw [e9] at k9
            refine mp_drop (L' := [some (Value.ref r), some (mp_i w), some (mp_i (p.2 + 1)), some (mp_i (k + 1)), none]) [true, true, true, true, false] rfl ?_
            exact k9
          · refine mp_goto (tgt := 61) dX12_runs_46 rfl ?_
            refine mp_iinc (z := k + 1) (L' := [some (Value.ref r), some (mp_i w), some (mp_i p.2), some (mp_i (k + 1)), some (mp_i (sp_taker p.1 k 1))]) dX12_runs_61 rfl (rfl) (by decide) rfl ?_
            refine mp_goto (tgt := 4) dX12_runs_64 rfl ?_
            have e9 : sp_runStep w k p = p := by unfold sp_runStep; first | rw [if_pos (by omega)] | rw [if_neg (by omega), if_pos (by omega)] | rw [if_neg (by omega), if_neg (by omega)]
            obtain ⟨g1, g2, g3, g4⟩ := mp_runStep_sky (night := w) (k := k) (p := p) hi.2.1 ⟨by omega, by omega⟩
            have k9 := ih (k + 1) (sp_runStep w k p) ⟨by omega, g1, by omega, by omega, by omega⟩ hk
            rw [e9] at k9
            refine mp_drop (L' := [some (Value.ref r), some (mp_i w), some (mp_i p.2), some (mp_i (k + 1)), none]) [true, true, true, true, false] rfl ?_
            exact k9
        · refine mp_goto (tgt := 61) dX12_runs_30 rfl ?_
          refine mp_iinc (z := k + 1) (L' := [some (Value.ref r), some (mp_i w), some (mp_i p.2), some (mp_i (k + 1)), none]) dX12_runs_61 rfl (rfl) (by decide) rfl ?_
          refine mp_goto (tgt := 4) dX12_runs_64 rfl ?_
          have e9 : sp_runStep w k p = p := by unfold sp_runStep; first | rw [if_pos (by omega)] | rw [if_neg (by omega), if_pos (by omega)] | rw [if_neg (by omega), if_neg (by omega)]
          obtain ⟨g1, g2, g3, g4⟩ := mp_runStep_sky (night := w) (k := k) (p := p) hi.2.1 ⟨by omega, by omega⟩
          have k9 := ih (k + 1) (sp_runStep w k p) ⟨by omega, g1, by omega, by omega, by omega⟩ hk
          rw [e9] at k9
          exact k9
theorem zX12_runs {s : Int → Int} {r : Nat} {w : Int} {σ : mp_H} (hr : σ[r]? = some (mp_I 64 (mp_F s))) (hs : mp_sky s) (h_w : mp_w w) (h_r : 0 < r) : mp_Call (mX12_runs, 5, 0, 0) [Value.ref r, mp_i w] σ (some (mp_i ((sp_runs s w).2)), σ.set r (mp_I 64 (mp_F (sp_runs s w).1))) := by
  refine mp_Call.of (L := [some (Value.ref r), some (mp_i w), none, none, none]) pnX12 (Nat.le_of_ble_eq_true rfl) rfl ?_
  refine mp_iconst dX12_runs_0 ?_
  refine mp_istore_n (L' := [some (Value.ref r), some (mp_i w), some (mp_i 0), none, none]) dX12_runs_1 rfl (by decide) rfl ?_
  refine mp_iconst dX12_runs_2 ?_
  refine mp_istore_n (L' := [some (Value.ref r), some (mp_i w), some (mp_i 0), some (mp_i 0), none]) dX12_runs_3 rfl (by decide) rfl ?_
  have h0 := hs.1
  refine mp_sg (mp_set_same hr).symm ?_
  refine lX12_runs_4 hr hs (by first | with_reducible assumption | omega) (by first | with_reducible assumption | omega) ((s 0).toNat) 0 (s, 0) (⟨⟨by omega, by show (0 : Int) + _ = s 0; omega⟩, hs, rfl, Int.le_refl 0, Int.le_refl 0⟩) ?_
  refine mp_iload_n dX12_runs_67 rfl ?_
  exact mp_ireturn (st := []) dX12_runs_68 rfl ⟨by decide, by decide⟩ ((mp_ans (by first | with_reducible rfl | omega | rfl)))
