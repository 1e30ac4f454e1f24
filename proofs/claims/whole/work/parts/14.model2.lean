theorem zX12_need {s : Int → Int} {r : Nat} {l : Int} {σ : mp_H} (hr : σ[r]? = some (mp_I 64 (mp_F s))) (h_l : 0 ≤ l ∧ l ≤ 4) (hq : mp_lkr s l) : mp_Call (mX12_need, 1, 0, 0) [Value.ref r, mp_i l] σ (some (mp_i (sp_need (s (49 + 3 * l + 1)))), σ) := by
  refine mp_Call.of (L := [some (Value.ref r), some (mp_i l)]) pnX12 (Nat.le_of_ble_eq_true rfl) rfl ?_
  refine mp_iconst dX12_need_0 ?_
  refine mp_aload_n dX12_need_1 rfl ?_
  refine mp_iload_n dX12_need_2 rfl ?_
  refine mp_iconst dX12_need_3 ?_
  refine mp_invS (z := (mX12_by, 0, 0, 0)) (K' := (0, 0)) (σ1 := σ) (as := [mp_i l, mp_i 1]) (st := [Value.ref r, mp_i 4]) (st1 := [mp_i (49 + 3 * l + 1), Value.ref r, mp_i 4]) dX12_need_4 ssX12_49 (zX12_by (l := l) (x := 1)  ) ⟨Nat.le_of_ble_eq_true rfl, Nat.le_of_ble_eq_true rfl, Nat.le_of_ble_eq_true rfl, Nat.le_of_ble_eq_true rfl, Nat.le_of_ble_eq_true rfl⟩ rfl rfl rfl rfl ?_
  refine mp_iald dX12_need_7 hr ⟨by omega, by omega⟩ (by omega) ?_
  refine mp_iconst dX12_need_8 ?_
  refine mp_idiv (z := (s (49 + 3 * l + 1)) / 3) dX12_need_9 ⟨by omega, by omega⟩ ⟨by omega, by omega⟩ rfl ?_
  refine mp_isub (z := 4 - ((s (49 + 3 * l + 1)) / 3)) dX12_need_10 (by first | rfl | omega) ?_
  exact mp_ireturn (st := []) dX12_need_11 rfl ⟨by decide, by decide⟩ ((mp_ans (by first | with_reducible rfl | omega | rfl)))
theorem lX12_bits_4 {v : Int} {σ : mp_H} (h_v : 0 ≤ v ∧ v < 65536) {R9 : mp_An} : ∀ (n : Nat) (t : Int) (u : Int), ((0 ≤ t ∧ t + (n : Nat) = 16) ∧ 0 ≤ u ∧ u ≤ t) → mp_At (mX12_bits, 0, 0, 0) (0, 0) 24 [some (mp_i v), some (mp_i (mp_fold (fun k n => n + sp_b v k) n t u)), none] [] σ R9 → mp_At (mX12_bits, 0, 0, 0) (0, 0) 4 [some (mp_i v), some (mp_i u), some (mp_i t)] [] σ R9 := by
  intro n
  induction n with
  | zero =>
    intro t u hi hk
    refine mp_iload_n dX12_bits_4 rfl ?_
    refine mp_bipush dX12_bits_5 rfl ?_
    refine mp_icmp_ge (tgt := 24) dX12_bits_7 rfl ⟨by omega, by omega⟩ ⟨by omega, by omega⟩ (fun h1 => ?_) (fun h1 => ?_)
    · refine mp_drop (L' := [some (mp_i v), some (mp_i u), none]) [true, true, false] rfl ?_
      exact hk
    · exfalso; omega
  | succ n ih =>
    intro t u hi hk
    have hb := mp_b_bd v t
    refine mp_iload_n dX12_bits_4 rfl ?_
    refine mp_bipush dX12_bits_5 rfl ?_
    refine mp_icmp_ge (tgt := 24) dX12_bits_7 rfl ⟨by omega, by omega⟩ ⟨by omega, by omega⟩ (fun h1 => ?_) (fun h1 => ?_)
    · exfalso; omega
    · refine mp_iload_n dX12_bits_10 rfl ?_
      refine mp_iload_n dX12_bits_11 rfl ?_
      refine mp_iload_n dX12_bits_12 rfl ?_
      refine mp_ishr (z := mp_shr v t) dX12_bits_13 (mp_z_shr ⟨by omega, by omega⟩ ⟨by omega, by omega⟩) ?_
      refine mp_iconst dX12_bits_14 ?_
      refine mp_iand (z := sp_b v t) dX12_bits_15 (mp_z_b _ _) ?_
      refine mp_iadd (z := u + (sp_b v t)) dX12_bits_16 (by first | rfl | omega) ?_
      refine mp_istore_n (L' := [some (mp_i v), some (mp_i (u + (sp_b v t))), some (mp_i t)]) dX12_bits_17 rfl (by decide) rfl ?_
      refine mp_iinc (z := t + 1) (L' := [some (mp_i v), some (mp_i (u + (sp_b v t))), some (mp_i (t + 1))]) dX12_bits_18 rfl (rfl) (by decide) rfl ?_
      refine mp_goto (tgt := 4) dX12_bits_21 rfl ?_
      refine mp_loc (j := 1) (y := u + sp_b v t) (by rfl) rfl (L' := [some (mp_i v), some (mp_i (u + sp_b v t)), some (mp_i (t + 1))]) rfl ?_
      exact ih (t + 1) (u + sp_b v t) (by omega) hk
theorem zX12_bits {v : Int} {σ : mp_H} (h_v : 0 ≤ v ∧ v < 65536) : mp_Call (mX12_bits, 0, 0, 0) [mp_i v] σ (some (mp_i (sp_bits v)), σ) := by
  refine mp_Call.of (L := [some (mp_i v), none, none]) pnX12 (Nat.le_of_ble_eq_true rfl) rfl ?_
  refine mp_iconst dX12_bits_0 ?_
  refine mp_istore_n (L' := [some (mp_i v), some (mp_i 0), none]) dX12_bits_1 rfl (by decide) rfl ?_
  refine mp_iconst dX12_bits_2 ?_
  refine mp_istore_n (L' := [some (mp_i v), some (mp_i 0), some (mp_i 0)]) dX12_bits_3 rfl (by decide) rfl ?_
  refine lX12_bits_4  (by first | with_reducible assumption | omega) 16 0 0 (by omega) ?_
  refine mp_iload_n dX12_bits_24 rfl ?_
  exact mp_ireturn (st := []) dX12_bits_25 rfl ⟨by decide, by decide⟩ ((mp_ans (by first | with_reducible rfl | omega | rfl)))
theorem lX12_yesBy_4 {v : Int} {e : Int} {σ : mp_H} (h_v : 0 ≤ v ∧ v < 65536) (h_e : 0 ≤ e ∧ e ≤ 4) {R9 : mp_An} : ∀ (n : Nat) (t : Int) (u : Int), ((0 ≤ t ∧ t + (n : Nat) = 16) ∧ 0 ≤ u ∧ u ≤ t) → R9 = (some (mp_i (sp_yesBy v e n t u)), σ) → mp_At (mX12_yesBy, 0, 0, 0) (0, 0) 4 [some (mp_i v), some (mp_i e), some (mp_i u), some (mp_i t)] [] σ R9 := by
  intro n
  induction n with
  | zero =>
    intro t u hi hR
    refine mp_iload_n dX12_yesBy_4 rfl ?_
    refine mp_bipush dX12_yesBy_5 rfl ?_
    refine mp_icmp_ge (tgt := 31) dX12_yesBy_7 rfl ⟨by omega, by omega⟩ ⟨by omega, by omega⟩ (fun h1 => ?_) (fun h1 => ?_)
    · refine mp_bipush dX12_yesBy_31 rfl ?_
      exact mp_ireturn (st := []) dX12_yesBy_33 rfl ⟨by decide, by decide⟩ (hR.trans (mp_ans (by first | rfl | exact if_pos (by omega))))
    · exfalso; omega
  | succ n ih =>
    intro t u hi hR
    have hb := mp_b_bd v t
    refine mp_iload_n dX12_yesBy_4 rfl ?_
    refine mp_bipush dX12_yesBy_5 rfl ?_
    refine mp_icmp_ge (tgt := 31) dX12_yesBy_7 rfl ⟨by omega, by omega⟩ ⟨by omega, by omega⟩ (fun h1 => ?_) (fun h1 => ?_)
    · exfalso; omega
    · refine mp_iload_n dX12_yesBy_10 rfl ?_
      refine mp_iload_n dX12_yesBy_11 rfl ?_
      refine mp_iload_n dX12_yesBy_12 rfl ?_
      refine mp_ishr (z := mp_shr v t) dX12_yesBy_13 (mp_z_shr ⟨by omega, by omega⟩ ⟨by omega, by omega⟩) ?_
      refine mp_iconst dX12_yesBy_14 ?_
      refine mp_iand (z := sp_b v t) dX12_yesBy_15 (mp_z_b _ _) ?_
      refine mp_iadd (z := u + (sp_b v t)) dX12_yesBy_16 (by first | rfl | omega) ?_
      refine mp_istore_n (L' := [some (mp_i v), some (mp_i e), some (mp_i (u + (sp_b v t))), some (mp_i t)]) dX12_yesBy_17 rfl (by decide) rfl ?_
      refine mp_iload_n dX12_yesBy_18 rfl ?_
      refine mp_iload_n dX12_yesBy_19 rfl ?_
      refine mp_icmp_ne (tgt := 25) dX12_yesBy_20 rfl ⟨by omega, by omega⟩ ⟨by omega, by omega⟩ (fun h2 => ?_) (fun h2 => ?_)
      · refine mp_iinc (z := t + 1) (L' := [some (mp_i v), some (mp_i e), some (mp_i (u + (sp_b v t))), some (mp_i (t + 1))]) dX12_yesBy_25 rfl (rfl) (by decide) rfl ?_
        refine mp_goto (tgt := 4) dX12_yesBy_28 rfl ?_
        refine mp_loc (j := 2) (y := u + sp_b v t) (by rfl) rfl (L' := [some (mp_i v), some (mp_i e), some (mp_i (u + sp_b v t)), some (mp_i (t + 1))]) rfl ?_
        exact ih (t + 1) (u + sp_b v t) (by omega) (hR.trans (by refine mp_ans ?_; exact if_neg (by omega)))
      · refine mp_iload_n dX12_yesBy_23 rfl ?_
        exact mp_ireturn (st := []) dX12_yesBy_24 rfl ⟨by decide, by decide⟩ (hR.trans (mp_ans (by first | rfl | exact if_pos (by omega))))
theorem zX12_yesBy {v : Int} {e : Int} {σ : mp_H} (h_v : 0 ≤ v ∧ v < 65536) (h_e : 0 ≤ e ∧ e ≤ 4) : mp_Call (mX12_yesBy, 0, 0, 0) [mp_i v, mp_i e] σ (some (mp_i (sp_yes v e)), σ) := by
  refine mp_Call.of (L := [some (mp_i v), some (mp_i e), none, none]) pnX12 (Nat.le_of_ble_eq_true rfl) rfl ?_
  refine mp_iconst dX12_yesBy_0 ?_
  refine mp_istore_n (L' := [some (mp_i v), some (mp_i e), some (mp_i 0), none]) dX12_yesBy_1 rfl (by decide) rfl ?_
  refine mp_iconst dX12_yesBy_2 ?_
  refine mp_istore_n (L' := [some (mp_i v), some (mp_i e), some (mp_i 0), some (mp_i 0)]) dX12_yesBy_3 rfl (by decide) rfl ?_
  exact lX12_yesBy_4  (by first | with_reducible assumption | omega) (by first | with_reducible assumption | omega) 16 0 0 (by omega) (by rfl)
theorem zX12_yesOf {s : Int → Int} {r : Nat} {l : Int} {k : Int} {σ : mp_H} (hr : σ[r]? = some (mp_I 64 (mp_F s))) (h_l : 0 ≤ l ∧ l ≤ 4) (h_k : 0 ≤ k ∧ k ≤ 7) (hm : mp_met s k) (hq : mp_lkr s l) : mp_Call (mX12_yesOf, 3, 0, 0) [Value.ref r, mp_i l, mp_i k] σ (some (mp_i (sp_yesOf s l k)), σ) := by
  refine mp_Call.of (L := [some (Value.ref r), some (mp_i l), some (mp_i k)]) pnX12 (Nat.le_of_ble_eq_true rfl) rfl ?_
  refine mp_aload_n dX12_yesOf_0 rfl ?_
  refine mp_iload_n dX12_yesOf_1 rfl ?_
  refine mp_aload_n dX12_yesOf_2 rfl ?_
  refine mp_iload_n dX12_yesOf_3 rfl ?_
  refine mp_iconst dX12_yesOf_4 ?_
  refine mp_invS (z := (mX12_by, 0, 0, 0)) (K' := (0, 0)) (σ1 := σ) (as := [mp_i l, mp_i 0]) (st := [Value.ref r, mp_i k, Value.ref r]) (st1 := [mp_i (49 + 3 * l + 0), Value.ref r, mp_i k, Value.ref r]) dX12_yesOf_5 ssX12_49 (zX12_by (l := l) (x := 0)  ) ⟨Nat.le_of_ble_eq_true rfl, Nat.le_of_ble_eq_true rfl, Nat.le_of_ble_eq_true rfl, Nat.le_of_ble_eq_true rfl, Nat.le_of_ble_eq_true rfl⟩ rfl rfl rfl rfl ?_
  refine mp_iald dX12_yesOf_8 hr ⟨by omega, by omega⟩ (by omega) ?_
  refine mp_invS (z := (mX12_seenFrom, 2, 0, 0)) (K' := (0, 0)) (σ1 := σ) (as := [Value.ref r, mp_i k, mp_i (s (49 + 3 * l + 0))]) (st := []) (st1 := [mp_i (sp_seen (s (1 + 6 * k + 0)) (s (1 + 6 * k + 1)) (s (1 + 6 * k + 2)) (s (1 + 6 * k + 3)) (s (49 + 3 * l + 0)))]) dX12_yesOf_9 ssX12_86 (zX12_seenFrom (r := r) (k := k) (q := (s (49 + 3 * l + 0))) (s := s) hr (by first | with_reducible assumption | omega) (by first | with_reducible assumption | omega) (by first | with_reducible assumption | omega)) ⟨Nat.le_of_ble_eq_true rfl, Nat.le_of_ble_eq_true rfl, Nat.le_of_ble_eq_true rfl, Nat.le_of_ble_eq_true rfl, Nat.le_of_ble_eq_true rfl⟩ rfl rfl rfl rfl ?_
  have b1 := mp_seen_bd (kind := s (1 + 6 * k + 0)) (f := s (1 + 6 * k + 1)) (col := s (1 + 6 * k + 2)) (slope := s (1 + 6 * k + 3)) (roof := (s (49 + 3 * l + 0))) (by omega)
  refine mp_aload_n dX12_yesOf_12 rfl ?_
  refine mp_iload_n dX12_yesOf_13 rfl ?_
  refine mp_invS (z := (mX12_need, 1, 0, 0)) (K' := (0, 0)) (σ1 := σ) (as := [Value.ref r, mp_i l]) (st := [mp_i (sp_seen (s (1 + 6 * k + 0)) (s (1 + 6 * k + 1)) (s (1 + 6 * k + 2)) (s (1 + 6 * k + 3)) (s (49 + 3 * l + 0)))]) (st1 := [mp_i (sp_need (s (49 + 3 * l + 1))), mp_i (sp_seen (s (1 + 6 * k + 0)) (s (1 + 6 * k + 1)) (s (1 + 6 * k + 2)) (s (1 + 6 * k + 3)) (s (49 + 3 * l + 0)))]) dX12_yesOf_14 ssX12_89 (zX12_need (r := r) (l := l) (s := s) hr (by first | with_reducible assumption | omega) (by first | with_reducible assumption | omega)) ⟨Nat.le_of_ble_eq_true rfl, Nat.le_of_ble_eq_true rfl, Nat.le_of_ble_eq_true rfl, Nat.le_of_ble_eq_true rfl, Nat.le_of_ble_eq_true rfl⟩ rfl rfl rfl rfl ?_
  have b2 := (show sp_need (s (49 + 3 * l + 1)) = 4 - s (49 + 3 * l + 1) / 3 from rfl)
  refine mp_invS (z := (mX12_yesBy, 0, 0, 0)) (K' := (0, 0)) (σ1 := σ) (as := [mp_i (sp_seen (s (1 + 6 * k + 0)) (s (1 + 6 * k + 1)) (s (1 + 6 * k + 2)) (s (1 + 6 * k + 3)) (s (49 + 3 * l + 0))), mp_i (sp_need (s (49 + 3 * l + 1)))]) (st := []) (st1 := [mp_i (sp_yes (sp_seen (s (1 + 6 * k + 0)) (s (1 + 6 * k + 1)) (s (1 + 6 * k + 2)) (s (1 + 6 * k + 3)) (s (49 + 3 * l + 0))) (sp_need (s (49 + 3 * l + 1))))]) dX12_yesOf_17 ssX12_92 (zX12_yesBy (v := (sp_seen (s (1 + 6 * k + 0)) (s (1 + 6 * k + 1)) (s (1 + 6 * k + 2)) (s (1 + 6 * k + 3)) (s (49 + 3 * l + 0)))) (e := (sp_need (s (49 + 3 * l + 1))))  (by first | with_reducible assumption | omega) (by first | with_reducible assumption | omega)) ⟨Nat.le_of_ble_eq_true rfl, Nat.le_of_ble_eq_true rfl, Nat.le_of_ble_eq_true rfl, Nat.le_of_ble_eq_true rfl, Nat.le_of_ble_eq_true rfl⟩ rfl rfl rfl rfl ?_
  exact mp_ireturn (st := []) dX12_yesOf_20 rfl ⟨by decide, by decide⟩ ((mp_ans (by first | with_reducible rfl | omega | rfl)))
theorem lX12_isSaid_2 {s : Int → Int} {r : Nat} {k : Int} {σ : mp_H} (hr : σ[r]? = some (mp_I 64 (mp_F s))) (h_k : 0 ≤ k ∧ k ≤ 7) (hl : ∀ l, 0 ≤ l → l ≤ 4 → mp_lkr s l) (hz : 0 ≤ s 0 ∧ s 0 ≤ 8) {R9 : mp_An} : ∀ (n : Nat) (l : Int), (0 ≤ l ∧ l + (n : Nat) = 5) → R9 = (some (mp_i (sp_isSaid s k n l)), σ) → mp_At (mX12_isSaid, 1, 0, 0) (0, 0) 2 [some (Value.ref r), some (mp_i k), some (mp_i l)] [] σ R9 := by
  intro n
  induction n with
  | zero =>
    intro l hi hR
    refine mp_iload_n dX12_isSaid_2 rfl ?_
    refine mp_iconst dX12_isSaid_3 ?_
    refine mp_icmp_ge (tgt := 26) dX12_isSaid_4 rfl ⟨by omega, by omega⟩ ⟨by omega, by omega⟩ (fun h1 => ?_) (fun h1 => ?_)
    · refine mp_iconst dX12_isSaid_26 ?_
      exact mp_zreturn (st := []) dX12_isSaid_27 rfl rfl ⟨by decide, by decide⟩ (hR.trans (mp_ans (by first | rfl | exact if_pos (by omega))))
    · exfalso; omega
  | succ n ih =>
    intro l hi hR
    have hb := hl l (by omega) (by omega)
    refine mp_iload_n dX12_isSaid_2 rfl ?_
    refine mp_iconst dX12_isSaid_3 ?_
    refine mp_icmp_ge (tgt := 26) dX12_isSaid_4 rfl ⟨by omega, by omega⟩ ⟨by omega, by omega⟩ (fun h1 => ?_) (fun h1 => ?_)
    · exfalso; omega
    · refine mp_aload_n dX12_isSaid_7 rfl ?_
      refine mp_iload_n dX12_isSaid_8 rfl ?_
      refine mp_iconst dX12_isSaid_9 ?_
      refine mp_invS (z := (mX12_by, 0, 0, 0)) (K' := (0, 0)) (σ1 := σ) (as := [mp_i l, mp_i 2]) (st := [Value.ref r]) (st1 := [mp_i (49 + 3 * l + 2), Value.ref r]) dX12_isSaid_10 ssX12_49 (zX12_by (l := l) (x := 2)  ) ⟨Nat.le_of_ble_eq_true rfl, Nat.le_of_ble_eq_true rfl, Nat.le_of_ble_eq_true rfl, Nat.le_of_ble_eq_true rfl, Nat.le_of_ble_eq_true rfl⟩ rfl rfl rfl rfl ?_
      refine mp_iald dX12_isSaid_13 hr ⟨by omega, by omega⟩ (by omega) ?_
      refine mp_iload_n dX12_isSaid_14 rfl ?_
      refine mp_icmp_ne (tgt := 20) dX12_isSaid_15 rfl ⟨by omega, by omega⟩ ⟨by omega, by omega⟩ (fun h2 => ?_) (fun h2 => ?_)
      · refine mp_iinc (z := l + 1) (L' := [some (Value.ref r), some (mp_i k), some (mp_i (l + 1))]) dX12_isSaid_20 rfl (rfl) (by decide) rfl ?_
        refine mp_goto (tgt := 2) dX12_isSaid_23 rfl ?_
        exact ih (l + 1) (by omega) (hR.trans (by refine mp_ans ?_; exact if_neg (by omega)))
      · refine mp_iconst dX12_isSaid_18 ?_
        exact mp_zreturn (st := []) dX12_isSaid_19 rfl rfl ⟨by decide, by decide⟩ (hR.trans (mp_ans (by first | rfl | exact if_pos (by omega))))
theorem zX12_isSaid {s : Int → Int} {r : Nat} {k : Int} {σ : mp_H} (hr : σ[r]? = some (mp_I 64 (mp_F s))) (h_k : 0 ≤ k ∧ k ≤ 7) (hl : ∀ l, 0 ≤ l → l ≤ 4 → mp_lkr s l) (hz : 0 ≤ s 0 ∧ s 0 ≤ 8) : mp_Call (mX12_isSaid, 1, 0, 0) [Value.ref r, mp_i k] σ (some (mp_i (sp_isSaid s k 5 0)), σ) := by
  refine mp_Call.of (L := [some (Value.ref r), some (mp_i k), none]) pnX12 (Nat.le_of_ble_eq_true rfl) rfl ?_
  refine mp_iconst dX12_isSaid_0 ?_
  refine mp_istore_n (L' := [some (Value.ref r), some (mp_i k), some (mp_i 0)]) dX12_isSaid_1 rfl (by decide) rfl ?_
  exact lX12_isSaid_2 hr (by first | with_reducible assumption | omega) (by first | with_reducible assumption | omega) (by first | with_reducible assumption | omega) 5 0 (by omega) (by rfl)
theorem lX12_takerOf_6 {s : Int → Int} {r : Nat} {k : Int} {g : Int} {σ : mp_H} (hr : σ[r]? = some (mp_I 64 (mp_F s))) (h_k : 0 ≤ k ∧ k ≤ 7) (hm : mp_met s k) (hl : ∀ l, 0 ≤ l → l ≤ 4 → mp_lkr s l) (hz : 0 ≤ s 0 ∧ s 0 ≤ 8) (h_g : 0 ≤ g ∧ g ≤ 1) {R9 : mp_An} : ∀ (n : Nat) (l : Int) (u : Int), ((0 ≤ l ∧ l + (n : Nat) = 5) ∧ (u = -4 ∨ (0 ≤ u ∧ u ≤ 4))) → mp_At (mX12_takerOf, 4, 0, 0) (0, 0) 70 [some (Value.ref r), some (mp_i k), some (mp_i g), some (mp_i (mp_fold (sp_takeStep s k g) n l u)), none, none] [] σ R9 → mp_At (mX12_takerOf, 4, 0, 0) (0, 0) 6 [some (Value.ref r), some (mp_i k), some (mp_i g), some (mp_i u), some (mp_i l), none] [] σ R9 := by
  intro n
  induction n with
  | zero =>
    intro l u hi hk
    refine mp_iload dX12_takerOf_6 rfl ?_
    refine mp_iconst dX12_takerOf_8 ?_
    refine mp_icmp_ge (tgt := 70) dX12_takerOf_9 rfl ⟨by omega, by omega⟩ ⟨by omega, by omega⟩ (fun h1 => ?_) (fun h1 => ?_)
    · refine mp_drop (L' := [some (Value.ref r), some (mp_i k), some (mp_i g), some (mp_i u), none, none]) [true, true, true, true, false, false] rfl ?_
      exact hk
    · exfalso; omega
  | succ n ih =>
    intro l u hi hk
    have hb := hl l (by omega) (by omega)
    refine mp_iload dX12_takerOf_6 rfl ?_
    refine mp_iconst dX12_takerOf_8 ?_
    refine mp_icmp_ge (tgt := 70) dX12_takerOf_9 rfl ⟨by omega, by omega⟩ ⟨by omega, by omega⟩ (fun h1 => ?_) (fun h1 => ?_)
    · exfalso; omega
    · refine mp_aload_n dX12_takerOf_12 rfl ?_
      refine mp_iload dX12_takerOf_13 rfl ?_
      refine mp_iload_n dX12_takerOf_15 rfl ?_
      refine mp_invS (z := (mX12_yesOf, 3, 0, 0)) (K' := (0, 0)) (σ1 := σ) (as := [Value.ref r, mp_i l, mp_i k]) (st := []) (st1 := [mp_i (sp_yesOf s l k)]) dX12_takerOf_16 ssX12_95 (zX12_yesOf (r := r) (l := l) (k := k) (s := s) hr (by first | with_reducible assumption | omega) (by first | with_reducible assumption | omega) (by first | with_reducible assumption | omega) (by first | with_reducible assumption | omega)) ⟨Nat.le_of_ble_eq_true rfl, Nat.le_of_ble_eq_true rfl, Nat.le_of_ble_eq_true rfl, Nat.le_of_ble_eq_true rfl, Nat.le_of_ble_eq_true rfl⟩ rfl rfl rfl rfl ?_
      have b2 := mp_yesOf_bd s l k
      refine mp_istore (L' := [some (Value.ref r), some (mp_i k), some (mp_i g), some (mp_i u), some (mp_i l), some (mp_i (sp_yesOf s l k))]) dX12_takerOf_19 (by decide) rfl ?_
      refine mp_iload dX12_takerOf_21 rfl ?_
      refine mp_if_lt (tgt := 64) dX12_takerOf_23 rfl ⟨by omega, by omega⟩ (fun h3 => ?_) (fun h3 => ?_)
      · refine mp_iinc (z := l + 1) (L' := [some (Value.ref r), some (mp_i k), some (mp_i g), some (mp_i u), some (mp_i (l + 1)), some (mp_i (sp_yesOf s l k))]) dX12_takerOf_64 rfl (rfl) (by decide) rfl ?_
        refine mp_goto (tgt := 6) dX12_takerOf_67 rfl ?_
        refine mp_loc (j := 3) (y := sp_takeStep s k g l u) (by unfold sp_takeStep; omega) rfl (L' := [some (Value.ref r), some (mp_i k), some (mp_i g), some (mp_i (sp_takeStep s k g l u)), some (mp_i (l + 1)), some (mp_i (sp_yesOf s l k))]) rfl ?_
        refine mp_drop (L' := [some (Value.ref r), some (mp_i k), some (mp_i g), some (mp_i (sp_takeStep s k g l u)), some (mp_i (l + 1)), none]) [true, true, true, true, true, false] rfl ?_
        exact ih (l + 1) (sp_takeStep s k g l u) (⟨by omega, mp_takeStep_bd ⟨by omega, by omega⟩ hi.2⟩) hk
      · refine mp_iload_n dX12_takerOf_26 rfl ?_
        refine mp_if_eq (tgt := 46) dX12_takerOf_27 rfl ⟨by omega, by omega⟩ (fun h4 => ?_) (fun h4 => ?_)
        · refine mp_iload_n dX12_takerOf_46 rfl ?_
          refine mp_if_lt (tgt := 61) dX12_takerOf_47 rfl ⟨by omega, by omega⟩ (fun h5 => ?_) (fun h5 => ?_)
          · refine mp_iload dX12_takerOf_61 rfl ?_
            refine mp_istore_n (L' := [some (Value.ref r), some (mp_i k), some (mp_i g), some (mp_i l), some (mp_i l), some (mp_i (sp_yesOf s l k))]) dX12_takerOf_63 rfl (by decide) rfl ?_
            refine mp_iinc (z := l + 1) (L' := [some (Value.ref r), some (mp_i k), some (mp_i g), some (mp_i l), some (mp_i (l + 1)), some (mp_i (sp_yesOf s l k))]) dX12_takerOf_64 rfl (rfl) (by decide) rfl ?_
            refine mp_goto (tgt := 6) dX12_takerOf_67 rfl ?_
            refine mp_loc (j := 3) (y := sp_takeStep s k g l u) (by unfold sp_takeStep; omega) rfl (L' := [some (Value.ref r), some (mp_i k), some (mp_i g), some (mp_i (sp_takeStep s k g l u)), some (mp_i (l + 1)), some (mp_i (sp_yesOf s l k))]) rfl ?_
            refine mp_drop (L' := [some (Value.ref r), some (mp_i k), some (mp_i g), some (mp_i (sp_takeStep s k g l u)), some (mp_i (l + 1)), none]) [true, true, true, true, true, false] rfl ?_
            exact ih (l + 1) (sp_takeStep s k g l u) (⟨by omega, mp_takeStep_bd ⟨by omega, by omega⟩ hi.2⟩) hk
          · have hb2 := hl u (by omega) (by omega)
            refine mp_iload dX12_takerOf_50 rfl ?_
            refine mp_aload_n dX12_takerOf_52 rfl ?_
            refine mp_iload_n dX12_takerOf_53 rfl ?_
            refine mp_iload_n dX12_takerOf_54 rfl ?_
            refine mp_invS (z := (mX12_yesOf, 3, 0, 0)) (K' := (0, 0)) (σ1 := σ) (as := [Value.ref r, mp_i u, mp_i k]) (st := [mp_i (sp_yesOf s l k)]) (st1 := [mp_i (sp_yesOf s u k), mp_i (sp_yesOf s l k)]) dX12_takerOf_55 ssX12_95 (zX12_yesOf (r := r) (l := u) (k := k) (s := s) hr (by first | with_reducible assumption | omega) (by first | with_reducible assumption | omega) (by first | with_reducible assumption | omega) (by first | with_reducible assumption | omega)) ⟨Nat.le_of_ble_eq_true rfl, Nat.le_of_ble_eq_true rfl, Nat.le_of_ble_eq_true rfl, Nat.le_of_ble_eq_true rfl, Nat.le_of_ble_eq_true rfl⟩ rfl rfl rfl rfl ?_
            have b6 := mp_yesOf_bd s u k
            refine mp_icmp_ge (tgt := 64) dX12_takerOf_58 rfl ⟨by omega, by omega⟩ ⟨by omega, by omega⟩ (fun h7 => ?_) (fun h7 => ?_)
            · refine mp_iinc (z := l + 1) (L' := [some (Value.ref r), some (mp_i k), some (mp_i g), some (mp_i u), some (mp_i (l + 1)), some (mp_i (sp_yesOf s l k))]) dX12_takerOf_64 rfl (rfl) (by decide) rfl ?_
              refine mp_goto (tgt := 6) dX12_takerOf_67 rfl ?_
              refine mp_loc (j := 3) (y := sp_takeStep s k g l u) (by unfold sp_takeStep; omega) rfl (L' := [some (Value.ref r), some (mp_i k), some (mp_i g), some (mp_i (sp_takeStep s k g l u)), some (mp_i (l + 1)), some (mp_i (sp_yesOf s l k))]) rfl ?_
              refine mp_drop (L' := [some (Value.ref r), some (mp_i k), some (mp_i g), some (mp_i (sp_takeStep s k g l u)), some (mp_i (l + 1)), none]) [true, true, true, true, true, false] rfl ?_
              exact ih (l + 1) (sp_takeStep s k g l u) (⟨by omega, mp_takeStep_bd ⟨by omega, by omega⟩ hi.2⟩) hk
            · refine mp_iload dX12_takerOf_61 rfl ?_
              refine mp_istore_n (L' := [some (Value.ref r), some (mp_i k), some (mp_i g), some (mp_i l), some (mp_i l), some (mp_i (sp_yesOf s l k))]) dX12_takerOf_63 rfl (by decide) rfl ?_
              refine mp_iinc (z := l + 1) (L' := [some (Value.ref r), some (mp_i k), some (mp_i g), some (mp_i l), some (mp_i (l + 1)), some (mp_i (sp_yesOf s l k))]) dX12_takerOf_64 rfl (rfl) (by decide) rfl ?_
              refine mp_goto (tgt := 6) dX12_takerOf_67 rfl ?_
              refine mp_loc (j := 3) (y := sp_takeStep s k g l u) (by unfold sp_takeStep; omega) rfl (L' := [some (Value.ref r), some (mp_i k), some (mp_i g), some (mp_i (sp_takeStep s k g l u)), some (mp_i (l + 1)), some (mp_i (sp_yesOf s l k))]) rfl ?_
              refine mp_drop (L' := [some (Value.ref r), some (mp_i k), some (mp_i g), some (mp_i (sp_takeStep s k g l u)), some (mp_i (l + 1)), none]) [true, true, true, true, true, false] rfl ?_
              exact ih (l + 1) (sp_takeStep s k g l u) (⟨by omega, mp_takeStep_bd ⟨by omega, by omega⟩ hi.2⟩) hk
        · refine mp_aload_n dX12_takerOf_30 rfl ?_
          refine mp_iload dX12_takerOf_31 rfl ?_
          refine mp_iconst dX12_takerOf_33 ?_
          refine mp_invS (z := (mX12_by, 0, 0, 0)) (K' := (0, 0)) (σ1 := σ) (as := [mp_i l, mp_i 2]) (st := [Value.ref r]) (st1 := [mp_i (49 + 3 * l + 2), Value.ref r]) dX12_takerOf_34 ssX12_49 (zX12_by (l := l) (x := 2)  ) ⟨Nat.le_of_ble_eq_true rfl, Nat.le_of_ble_eq_true rfl, Nat.le_of_ble_eq_true rfl, Nat.le_of_ble_eq_true rfl, Nat.le_of_ble_eq_true rfl⟩ rfl rfl rfl rfl ?_
          refine mp_iald dX12_takerOf_37 hr ⟨by omega, by omega⟩ (by omega) ?_
          refine mp_bipush dX12_takerOf_38 rfl ?_
          refine mp_icmp_eq (tgt := 46) dX12_takerOf_40 rfl ⟨by omega, by omega⟩ ⟨by omega, by omega⟩ (fun h8 => ?_) (fun h8 => ?_)
          · refine mp_iload_n dX12_takerOf_46 rfl ?_
            refine mp_if_lt (tgt := 61) dX12_takerOf_47 rfl ⟨by omega, by omega⟩ (fun h9 => ?_) (fun h9 => ?_)
            · refine mp_iload dX12_takerOf_61 rfl ?_
              refine mp_istore_n (L' := [some (Value.ref r), some (mp_i k), some (mp_i g), some (mp_i l), some (mp_i l), some (mp_i (sp_yesOf s l k))]) dX12_takerOf_63 rfl (by decide) rfl ?_
              refine mp_iinc (z := l + 1) (L' := [some (Value.ref r), some (mp_i k), some (mp_i g), some (mp_i l), some (mp_i (l + 1)), some (mp_i (sp_yesOf s l k))]) dX12_takerOf_64 rfl (rfl) (by decide) rfl ?_
              refine mp_goto (tgt := 6) dX12_takerOf_67 rfl ?_
              refine mp_loc (j := 3) (y := sp_takeStep s k g l u) (by unfold sp_takeStep; omega) rfl (L' := [some (Value.ref r), some (mp_i k), some (mp_i g), some (mp_i (sp_takeStep s k g l u)), some (mp_i (l + 1)), some (mp_i (sp_yesOf s l k))]) rfl ?_
              refine mp_drop (L' := [some (Value.ref r), some (mp_i k), some (mp_i g), some (mp_i (sp_takeStep s k g l u)), some (mp_i (l + 1)), none]) [true, true, true, true, true, false] rfl ?_
              exact ih (l + 1) (sp_takeStep s k g l u) (⟨by omega, mp_takeStep_bd ⟨by omega, by omega⟩ hi.2⟩) hk
            · have hb2 := hl u (by omega) (by omega)
              refine mp_iload dX12_takerOf_50 rfl ?_
              refine mp_aload_n dX12_takerOf_52 rfl ?_
              refine mp_iload_n dX12_takerOf_53 rfl ?_
              refine mp_iload_n dX12_takerOf_54 rfl ?_
              refine mp_invS (z := (mX12_yesOf, 3, 0, 0)) (K' := (0, 0)) (σ1 := σ) (as := [Value.ref r, mp_i u, mp_i k]) (st := [mp_i (sp_yesOf s l k)]) (st1 := [mp_i (sp_yesOf s u k), mp_i (sp_yesOf s l k)]) dX12_takerOf_55 ssX12_95 (zX12_yesOf (r := r) (l := u) (k := k) (s := s) hr (by first | with_reducible assumption | omega) (by first | with_reducible assumption | omega) (by first | with_reducible assumption | omega) (by first | with_reducible assumption | omega)) ⟨Nat.le_of_ble_eq_true rfl, Nat.le_of_ble_eq_true rfl, Nat.le_of_ble_eq_true rfl, Nat.le_of_ble_eq_true rfl, Nat.le_of_ble_eq_true rfl⟩ rfl rfl rfl rfl ?_
              have b10 := mp_yesOf_bd s u k
              refine mp_icmp_ge (tgt := 64) dX12_takerOf_58 rfl ⟨by omega, by omega⟩ ⟨by omega, by omega⟩ (fun h11 => ?_) (fun h11 => ?_)
              · refine mp_iinc (z := l + 1) (L' := [some (Value.ref r), some (mp_i k), some (mp_i g), some (mp_i u), some (mp_i (l + 1)), some (mp_i (sp_yesOf s l k))]) dX12_takerOf_64 rfl (rfl) (by decide) rfl ?_
                refine mp_goto (tgt := 6) dX12_takerOf_67 rfl ?_
                refine mp_loc (j := 3) (y := sp_takeStep s k g l u) (by unfold sp_takeStep; omega) rfl (L' := [some (Value.ref r), some (mp_i k), some (mp_i g), some (mp_i (sp_takeStep s k g l u)), some (mp_i (l + 1)), some (mp_i (sp_yesOf s l k))]) rfl ?_
                refine mp_drop (L' := [some (Value.ref r), some (mp_i k), some (mp_i g), some (mp_i (sp_takeStep s k g l u)), some (mp_i (l + 1)), none]) [true, true, true, true, true, false] rfl ?_
                exact ih (l + 1) (sp_takeStep s k g l u) (⟨by omega, mp_takeStep_bd ⟨by omega, by omega⟩ hi.2⟩) hk
              · refine mp_iload dX12_takerOf_61 rfl ?_
                refine mp_istore_n (L' := [some (Value.ref r), some (mp_i k), some (mp_i g), some (mp_i l), some (mp_i l), some (mp_i (sp_yesOf s l k))]) dX12_takerOf_63 rfl (by decide) rfl ?_
                refine mp_iinc (z := l + 1) (L' := [some (Value.ref r), some (mp_i k), some (mp_i g), some (mp_i l), some (mp_i (l + 1)), some (mp_i (sp_yesOf s l k))]) dX12_takerOf_64 rfl (rfl) (by decide) rfl ?_
                refine mp_goto (tgt := 6) dX12_takerOf_67 rfl ?_
                refine mp_loc (j := 3) (y := sp_takeStep s k g l u) (by unfold sp_takeStep; omega) rfl (L' := [some (Value.ref r), some (mp_i k), some (mp_i g), some (mp_i (sp_takeStep s k g l u)), some (mp_i (l + 1)), some (mp_i (sp_yesOf s l k))]) rfl ?_
                refine mp_drop (L' := [some (Value.ref r), some (mp_i k), some (mp_i g), some (mp_i (sp_takeStep s k g l u)), some (mp_i (l + 1)), none]) [true, true, true, true, true, false] rfl ?_
                exact ih (l + 1) (sp_takeStep s k g l u) (⟨by omega, mp_takeStep_bd ⟨by omega, by omega⟩ hi.2⟩) hk
          · refine mp_goto (tgt := 64) dX12_takerOf_43 rfl ?_
            refine mp_iinc (z := l + 1) (L' := [some (Value.ref r), some (mp_i k), some (mp_i g), some (mp_i u), some (mp_i (l + 1)), some (mp_i (sp_yesOf s l k))]) dX12_takerOf_64 rfl (rfl) (by decide) rfl ?_
            refine mp_goto (tgt := 6) dX12_takerOf_67 rfl ?_
            refine mp_loc (j := 3) (y := sp_takeStep s k g l u) (by unfold sp_takeStep; omega) rfl (L' := [some (Value.ref r), some (mp_i k), some (mp_i g), some (mp_i (sp_takeStep s k g l u)), some (mp_i (l + 1)), some (mp_i (sp_yesOf s l k))]) rfl ?_
            refine mp_drop (L' := [some (Value.ref r), some (mp_i k), some (mp_i g), some (mp_i (sp_takeStep s k g l u)), some (mp_i (l + 1)), none]) [true, true, true, true, true, false] rfl ?_
            exact ih (l + 1) (sp_takeStep s k g l u) (⟨by omega, mp_takeStep_bd ⟨by omega, by omega⟩ hi.2⟩) hk
theorem zX12_takerOf {s : Int → Int} {r : Nat} {k : Int} {g : Int} {σ : mp_H} (hr : σ[r]? = some (mp_I 64 (mp_F s))) (h_k : 0 ≤ k ∧ k ≤ 7) (hm : mp_met s k) (hl : ∀ l, 0 ≤ l → l ≤ 4 → mp_lkr s l) (hz : 0 ≤ s 0 ∧ s 0 ≤ 8) (h_g : 0 ≤ g ∧ g ≤ 1) : mp_Call (mX12_takerOf, 4, 0, 0) [Value.ref r, mp_i k, mp_i g] σ (some (mp_i (sp_taker s k g)), σ) := by
  refine mp_Call.of (L := [some (Value.ref r), some (mp_i k), some (mp_i g), none, none, none]) pnX12 (Nat.le_of_ble_eq_true rfl) rfl ?_
  refine mp_bipush dX12_takerOf_0 rfl ?_
  refine mp_istore_n (L' := [some (Value.ref r), some (mp_i k), some (mp_i g), some (mp_i (-4)), none, none]) dX12_takerOf_2 rfl (by decide) rfl ?_
  refine mp_iconst dX12_takerOf_3 ?_
  refine mp_istore (L' := [some (Value.ref r), some (mp_i k), some (mp_i g), some (mp_i (-4)), some (mp_i 0), none]) dX12_takerOf_4 (by decide) rfl ?_
  refine lX12_takerOf_6 hr (by first | with_reducible assumption | omega) (by first | with_reducible assumption | omega) (by first | with_reducible assumption | omega) (by first | with_reducible assumption | omega) (by first | with_reducible assumption | omega) 5 0 (-4) (by omega) ?_
  refine mp_iload_n dX12_takerOf_70 rfl ?_
  exact mp_ireturn (st := []) dX12_takerOf_71 rfl ⟨by decide, by decide⟩ ((mp_ans (by first | with_reducible rfl | omega | rfl)))
