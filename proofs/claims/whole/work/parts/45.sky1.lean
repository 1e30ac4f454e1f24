/-! ===== skies that are read ===== -/
theorem sc_any_s {s : Int → Int} {k l : Int} {n : Nat} : sc_any s k (n + 1) l = if sp_seen (s (1 + 6 * k + 0)) (s (1 + 6 * k + 1)) (s (1 + 6 * k + 2)) (s (1 + 6 * k + 3)) (s (49 + 3 * l + 0)) = 0 then sc_any s k n (l + 1) else 1 := rfl
theorem zX6_at {s : Int → Int} {f : Nat → Option Nat} {a : Nat} {p : Nat} {m : Int} {σ : mp_H} (hsk : mp_Sk σ p s f) (hm : 0 ≤ m ∧ m < s 0) (h8 : s 0 ≤ 8) (hfa : f (Int.toNat m) = some a) : mp_Call (mX6_at, 0, 0, 0) [Value.ref p, mp_i m] σ (some (Value.ref a), σ) := by
  refine mp_Call.of (L := [some (Value.ref p), some (mp_i m)]) pnX6 (Nat.le_of_ble_eq_true rfl) rfl ?_
  refine mp_iload_n dX6_at_0 rfl ?_
  refine mp_if_lt (tgt := 27) dX6_at_1 rfl ⟨by omega, by omega⟩ (fun h1 => ?_) (fun h1 => ?_)
  · exfalso; omega
  · refine mp_iload_n dX6_at_4 rfl ?_
    refine mp_aload_n dX6_at_5 rfl ?_
    refine mp_getfield dX6_at_6 fsX6_30_8 hsk.1 rfl ?_
    refine mp_icmp_ge (tgt := 27) dX6_at_9 rfl ⟨by omega, by omega⟩ ⟨by omega, by omega⟩ (fun h2 => ?_) (fun h2 => ?_)
    · exfalso; omega
    · refine mp_iload_n dX6_at_12 rfl ?_
      refine mp_bipush dX6_at_13 rfl ?_
      refine mp_icmp_ge (tgt := 27) dX6_at_15 rfl ⟨by omega, by omega⟩ ⟨by omega, by omega⟩ (fun h3 => ?_) (fun h3 => ?_)
      · exfalso; omega
      · refine mp_aload_n dX6_at_18 rfl ?_
        refine mp_getfield dX6_at_19 fsX6_11_8 hsk.1 rfl ?_
        refine mp_iload_n dX6_at_22 rfl ?_
        refine mp_aaload dX6_at_23 hsk.2.1 (by decide) ⟨by omega, by omega⟩ (by omega) ?_
        rw [mp_c8f_in (by omega), hfa]
        refine mp_goto (tgt := 28) dX6_at_24 rfl ?_
        exact mp_areturn (st := []) dX6_at_28 rfl (Or.inr ⟨_, rfl⟩) ⟨by decide, by decide⟩ (by rfl)
theorem zX6_atN {s : Int → Int} {f : Nat → Option Nat} {p : Nat} {m : Int} {σ : mp_H} (hsk : mp_Sk σ p s f) (hm : ¬ (0 ≤ m ∧ m < s 0)) (h8 : 0 ≤ s 0 ∧ s 0 ≤ 8) (h_m : mp_w m) : mp_Call (mX6_at, 0, 0, 0) [Value.ref p, mp_i m] σ (some (Value.null), σ) := by
  refine mp_Call.of (L := [some (Value.ref p), some (mp_i m)]) pnX6 (Nat.le_of_ble_eq_true rfl) rfl ?_
  refine mp_iload_n dX6_at_0 rfl ?_
  refine mp_if_lt (tgt := 27) dX6_at_1 rfl ⟨by omega, by omega⟩ (fun h1 => ?_) (fun h1 => ?_)
  · refine mp_null dX6_at_27 ?_
    exact mp_areturn (st := []) dX6_at_28 rfl (Or.inl rfl) ⟨by decide, by decide⟩ (by rfl)
  · refine mp_iload_n dX6_at_4 rfl ?_
    refine mp_aload_n dX6_at_5 rfl ?_
    refine mp_getfield dX6_at_6 fsX6_30_8 hsk.1 rfl ?_
    refine mp_icmp_ge (tgt := 27) dX6_at_9 rfl ⟨by omega, by omega⟩ ⟨by omega, by omega⟩ (fun h2 => ?_) (fun h2 => ?_)
    · refine mp_null dX6_at_27 ?_
      exact mp_areturn (st := []) dX6_at_28 rfl (Or.inl rfl) ⟨by decide, by decide⟩ (by rfl)
    · exfalso; omega
theorem zX6_yesStep {s : Int → Int} {f : Nat → Option Nat} {k : Int} {p : Nat} {l : Int} {a : Nat} {σ : mp_H} (hsk : mp_Sk σ p s f) (hs : mp_sky s) (hkk : 0 ≤ k ∧ k < s 0) (hca : σ[a]? = some (mp_mc s k)) (h_l : 0 ≤ l ∧ l ≤ 4) : mp_Call (mX6_yesStep, 2, 0, 0) [Value.ref p, mp_i l, Value.ref a] σ (some (mp_i (sp_yesOf s l k)), σ) := by
  refine mp_Call.of (L := [some (Value.ref p), some (mp_i l), some (Value.ref a)]) pnX6 (Nat.le_of_ble_eq_true rfl) rfl ?_
  have hz0 := hs.1
  have ht0 := hs.2.1 k (by omega) (by omega)
  have hb1 := mp_lasts_bd (kind := s (1 + 6 * k + 0)) (f := s (1 + 6 * k + 1)) (by omega)
  have hb2 := mp_bright_bd (kind := s (1 + 6 * k + 0)) (f := s (1 + 6 * k + 1)) (by omega)
  have hl9 := hs.2.2.1 l (by omega) (by omega)
  have hn9 := mp_need_bd (v := s (49 + 3 * l + 1)) (by omega)
  refine mp_aload_n dX6_yesStep_0 rfl ?_
  refine mp_aload_n dX6_yesStep_1 rfl ?_
  refine mp_getfield dX6_yesStep_2 fsX6_21_8 hsk.1 rfl ?_
  refine mp_iload_n dX6_yesStep_5 rfl ?_
  refine mp_iald dX6_yesStep_6 hsk.2.2.2.1 ⟨by omega, by omega⟩ (by omega) ?_
  refine mp_top (y := s (49 + 3 * l + 0)) (sp_rof_in ⟨by omega, by omega⟩) ?_
  refine mp_aload_n dX6_yesStep_7 rfl ?_
  refine mp_getfield dX6_yesStep_8 fsX6_24_8 hsk.1 rfl ?_
  refine mp_iload_n dX6_yesStep_11 rfl ?_
  refine mp_iald dX6_yesStep_12 hsk.2.2.2.2.1 ⟨by omega, by omega⟩ (by omega) ?_
  refine mp_top (y := s (49 + 3 * l + 1)) (sp_qui_in ⟨by omega, by omega⟩) ?_
  refine mp_invS (z := (mX6_need, 0, 0, 0)) (K' := (0, 0)) (σ1 := σ) (as := [mp_i (s (49 + 3 * l + 1))]) (st := [mp_i (s (49 + 3 * l + 0)), Value.ref a]) (st1 := [mp_i (sp_need (s (49 + 3 * l + 1))), mp_i (s (49 + 3 * l + 0)), Value.ref a]) dX6_yesStep_13 ssX6_38 (zX6_need (v := (s (49 + 3 * l + 1))) (by first | with_reducible assumption | omega)) ⟨Nat.le_of_ble_eq_true rfl, Nat.le_of_ble_eq_true rfl, Nat.le_of_ble_eq_true rfl, Nat.le_of_ble_eq_true rfl, Nat.le_of_ble_eq_true rfl⟩ rfl rfl rfl rfl ?_
  refine mp_inv8 (kd := (s (1 + 6 * k + 0))) (σ1 := σ) (as := [mp_i (s (49 + 3 * l + 0)), mp_i (sp_need (s (49 + 3 * l + 1)))]) (st := []) (st1 := [mp_i (sp_yF (s (1 + 6 * k + 2)) (s (1 + 6 * k + 3)) (sp_bright (s (1 + 6 * k + 0)) (s (1 + 6 * k + 1))) (s (49 + 3 * l + 0)) (sp_need (s (49 + 3 * l + 1))) (Int.toNat (sp_lasts (s (1 + 6 * k + 0)) (s (1 + 6 * k + 1)))) 0 0)]) dX6_yesStep_16 (by omega) s8X6_42 hca (fa_yesFrom (a := a) (q := (s (49 + 3 * l + 0))) (e := (sp_need (s (49 + 3 * l + 1)))) (kd := (s (1 + 6 * k + 0))) (f := (s (1 + 6 * k + 1))) (co := (s (1 + 6 * k + 2))) (sl := (s (1 + 6 * k + 3))) (ni := (s (1 + 6 * k + 4))) (la := (sp_lasts (s (1 + 6 * k + 0)) (s (1 + 6 * k + 1)))) (br := (sp_bright (s (1 + 6 * k + 0)) (s (1 + 6 * k + 1)))) hca (by first | with_reducible assumption | omega) (by first | with_reducible assumption | omega) (by first | with_reducible assumption | omega) (by first | with_reducible assumption | omega) (by first | with_reducible assumption | omega) (by first | with_reducible assumption | omega) (by first | with_reducible assumption | omega)) (Nat.le_of_ble_eq_true rfl) ⟨Nat.le_of_ble_eq_true rfl, Nat.le_of_ble_eq_true rfl⟩ (Nat.le_of_ble_eq_true rfl) rfl rfl rfl ?_
  exact mp_ireturn (st := []) dX6_yesStep_19 rfl ⟨by decide, by decide⟩ ((mp_ans (by exact (sp_yF_yes hn9.1 ht0.2.1).symm)))
theorem lX6_isSeenByAny_2 {s : Int → Int} {f : Nat → Option Nat} {k : Int} {p : Nat} {a : Nat} {σ : mp_H} (hsk : mp_Sk σ p s f) (hs : mp_sky s) (hkk : 0 ≤ k ∧ k < s 0) (hca : σ[a]? = some (mp_mc s k)) {R9 : mp_An} : ∀ (n : Nat) (l : Int), (0 ≤ l ∧ l + (n : Nat) = 5) → R9 = (some (mp_i (sc_any s k n l)), σ) → mp_At (mX6_isSeenByAny, 2, 0, 0) (0, 0) 2 [some (Value.ref p), some (Value.ref a), some (mp_i l)] [] σ R9 := by
  intro n
  induction n with
  | zero =>
    intro l hi hR
    have hz0 := hs.1
    have ht0 := hs.2.1 k (by omega) (by omega)
    have hb1 := mp_lasts_bd (kind := s (1 + 6 * k + 0)) (f := s (1 + 6 * k + 1)) (by omega)
    have hb2 := mp_bright_bd (kind := s (1 + 6 * k + 0)) (f := s (1 + 6 * k + 1)) (by omega)
    refine mp_iload_n dX6_isSeenByAny_2 rfl ?_
    refine mp_iconst dX6_isSeenByAny_3 ?_
    refine mp_icmp_ge (tgt := 32) dX6_isSeenByAny_4 rfl ⟨by omega, by omega⟩ ⟨by omega, by omega⟩ (fun h1 => ?_) (fun h1 => ?_)
    · refine mp_iconst dX6_isSeenByAny_32 ?_
      exact mp_zreturn (st := []) dX6_isSeenByAny_33 rfl rfl ⟨by decide, by decide⟩ (hR.trans (mp_ans rfl))
    · exfalso; omega
  | succ n ih =>
    intro l hi hR
    have hz0 := hs.1
    have ht0 := hs.2.1 k (by omega) (by omega)
    have hb1 := mp_lasts_bd (kind := s (1 + 6 * k + 0)) (f := s (1 + 6 * k + 1)) (by omega)
    have hb2 := mp_bright_bd (kind := s (1 + 6 * k + 0)) (f := s (1 + 6 * k + 1)) (by omega)
    have hl9 := hs.2.2.1 l (by omega) (by omega)
    refine mp_iload_n dX6_isSeenByAny_2 rfl ?_
    refine mp_iconst dX6_isSeenByAny_3 ?_
    refine mp_icmp_ge (tgt := 32) dX6_isSeenByAny_4 rfl ⟨by omega, by omega⟩ ⟨by omega, by omega⟩ (fun h1 => ?_) (fun h1 => ?_)
    · exfalso; omega
    · refine mp_aload_n dX6_isSeenByAny_7 rfl ?_
      refine mp_aload_n dX6_isSeenByAny_8 rfl ?_
      refine mp_getfield dX6_isSeenByAny_9 fsX6_21_8 hsk.1 rfl ?_
      refine mp_iload_n dX6_isSeenByAny_12 rfl ?_
      refine mp_iald dX6_isSeenByAny_13 hsk.2.2.2.1 ⟨by omega, by omega⟩ (by omega) ?_
      refine mp_top (y := s (49 + 3 * l + 0)) (sp_rof_in ⟨by omega, by omega⟩) ?_
      refine mp_aload_n dX6_isSeenByAny_14 rfl ?_
      refine mp_getfield dX6_isSeenByAny_15 (fsX6_46 (by omega)) hca rfl ?_
      refine mp_inv8 (kd := (s (1 + 6 * k + 0))) (σ1 := σ) (as := [mp_i (s (49 + 3 * l + 0)), mp_i (s (1 + 6 * k + 2))]) (st := []) (st1 := [mp_i (mp_fold (sp_seenStep (s (1 + 6 * k + 2)) (s (1 + 6 * k + 3)) (sp_bright (s (1 + 6 * k + 0)) (s (1 + 6 * k + 1))) (s (49 + 3 * l + 0))) (Int.toNat (sp_lasts (s (1 + 6 * k + 0)) (s (1 + 6 * k + 1)))) 0 0)]) dX6_isSeenByAny_18 (by omega) s8X6_49 hca (fa_seenFrom (a := a) (q := (s (49 + 3 * l + 0))) (x := (s (1 + 6 * k + 2))) (kd := (s (1 + 6 * k + 0))) (f := (s (1 + 6 * k + 1))) (co := (s (1 + 6 * k + 2))) (sl := (s (1 + 6 * k + 3))) (ni := (s (1 + 6 * k + 4))) (la := (sp_lasts (s (1 + 6 * k + 0)) (s (1 + 6 * k + 1)))) (br := (sp_bright (s (1 + 6 * k + 0)) (s (1 + 6 * k + 1)))) hca (by first | with_reducible assumption | omega) (by first | with_reducible assumption | omega) (by first | with_reducible assumption | omega) (by first | with_reducible assumption | omega) (by first | with_reducible assumption | omega) (by first | with_reducible assumption | omega)) (Nat.le_of_ble_eq_true rfl) ⟨Nat.le_of_ble_eq_true rfl, Nat.le_of_ble_eq_true rfl⟩ (Nat.le_of_ble_eq_true rfl) rfl rfl rfl ?_
      have hs9 := mp_seen_bd (kind := s (1 + 6 * k + 0)) (f := s (1 + 6 * k + 1)) (col := s (1 + 6 * k + 2)) (slope := s (1 + 6 * k + 3)) (roof := s (49 + 3 * l + 0)) (by omega)
      refine mp_top (y := sp_seen (s (1 + 6 * k + 0)) (s (1 + 6 * k + 1)) (s (1 + 6 * k + 2)) (s (1 + 6 * k + 3)) (s (49 + 3 * l + 0))) rfl ?_
      refine mp_if_eq (tgt := 26) dX6_isSeenByAny_21 rfl ⟨by omega, by omega⟩ (fun h2 => ?_) (fun h2 => ?_)
      · have h9 : sp_seen (s (1 + 6 * k + 0)) (s (1 + 6 * k + 1)) (s (1 + 6 * k + 2)) (s (1 + 6 * k + 3)) (s (49 + 3 * l + 0)) = 0 := h2
        refine mp_iinc (z := l + 1) (L' := [some (Value.ref p), some (Value.ref a), some (mp_i (l + 1))]) dX6_isSeenByAny_26 rfl (rfl) (by decide) rfl ?_
        refine mp_goto (tgt := 2) dX6_isSeenByAny_29 rfl ?_
        exact ih (l + 1) (by omega) (hR.trans (by rw [sc_any_s, if_pos h9]))
      · refine mp_iconst dX6_isSeenByAny_24 ?_
        exact mp_zreturn (st := []) dX6_isSeenByAny_25 rfl rfl ⟨by decide, by decide⟩ (hR.trans (mp_ans (by rw [sc_any_s, if_neg (by assumption)])))
theorem zX6_isSeenByAny {s : Int → Int} {f : Nat → Option Nat} {k : Int} {p : Nat} {a : Nat} {σ : mp_H} (hsk : mp_Sk σ p s f) (hs : mp_sky s) (hkk : 0 ≤ k ∧ k < s 0) (hca : σ[a]? = some (mp_mc s k)) : mp_Call (mX6_isSeenByAny, 2, 0, 0) [Value.ref p, Value.ref a] σ (some (mp_i (sc_any s k 5 0)), σ) := by
  refine mp_Call.of (L := [some (Value.ref p), some (Value.ref a), none]) pnX6 (Nat.le_of_ble_eq_true rfl) rfl ?_
  refine mp_iconst dX6_isSeenByAny_0 ?_
  refine mp_istore_n (L' := [some (Value.ref p), some (Value.ref a), some (mp_i 0)]) dX6_isSeenByAny_1 rfl (by decide) rfl ?_
  exact lX6_isSeenByAny_2 (p := p) (a := a)  (by first | with_reducible assumption | omega) (by first | with_reducible assumption | omega) (by first | with_reducible assumption | omega) (by first | with_reducible assumption | omega) 5 0 (by omega) (by rfl)
theorem lX6_lookersFree_4 {s : Int → Int} {f : Nat → Option Nat} {p : Nat} {σ : mp_H} (hsk : mp_Sk σ p s f) (hs : mp_sky s) {R9 : mp_An} : ∀ (n : Nat) (l : Int) (v : Int), ((0 ≤ l ∧ l + (n : Nat) = 5) ∧ 0 ≤ v ∧ v < 256) → mp_At (mX6_lookersFree, 0, 0, 0) (0, 0) 32 [some (Value.ref p), some (mp_i (mp_fold (sp_waitStep s) n l v)), none] [] σ R9 → mp_At (mX6_lookersFree, 0, 0, 0) (0, 0) 4 [some (Value.ref p), some (mp_i v), some (mp_i l)] [] σ R9 := by
  intro n
  induction n with
  | zero =>
    intro l v hi hk
    have hz0 := hs.1
    refine mp_iload_n dX6_lookersFree_4 rfl ?_
    refine mp_iconst dX6_lookersFree_5 ?_
    refine mp_icmp_ge (tgt := 32) dX6_lookersFree_6 rfl ⟨by omega, by omega⟩ ⟨by omega, by omega⟩ (fun h1 => ?_) (fun h1 => ?_)
    · refine mp_drop (L' := [some (Value.ref p), some (mp_i v), none]) [true, true, false] rfl ?_
      exact hk
    · exfalso; omega
  | succ n ih =>
    intro l v hi hk
    have hz0 := hs.1
    have hl9 := hs.2.2.1 l (by omega) (by omega)
    refine mp_iload_n dX6_lookersFree_4 rfl ?_
    refine mp_iconst dX6_lookersFree_5 ?_
    refine mp_icmp_ge (tgt := 32) dX6_lookersFree_6 rfl ⟨by omega, by omega⟩ ⟨by omega, by omega⟩ (fun h1 => ?_) (fun h1 => ?_)
    · exfalso; omega
    · refine mp_aload_n dX6_lookersFree_9 rfl ?_
      refine mp_getfield dX6_lookersFree_10 fsX6_27_8 hsk.1 rfl ?_
      refine mp_iload_n dX6_lookersFree_13 rfl ?_
      refine mp_iald dX6_lookersFree_14 hsk.2.2.2.2.2.1 ⟨by omega, by omega⟩ (by omega) ?_
      refine mp_top (y := s (49 + 3 * l + 2)) (sp_sai_in ⟨by omega, by omega⟩) ?_
      refine mp_bipush dX6_lookersFree_15 rfl ?_
      refine mp_icmp_ne (tgt := 26) dX6_lookersFree_17 rfl ⟨by omega, by omega⟩ ⟨by omega, by omega⟩ (fun h2 => ?_) (fun h2 => ?_)
      · refine mp_iinc (z := l + 1) (L' := [some (Value.ref p), some (mp_i v), some (mp_i (l + 1))]) dX6_lookersFree_26 rfl (rfl) (by decide) rfl ?_
        refine mp_goto (tgt := 4) dX6_lookersFree_29 rfl ?_
        refine mp_loc (j := 1) (y := (sp_waitStep s) l v) (by unfold sp_waitStep; first | (rw [if_pos (by omega)]) | (rw [if_neg (by omega)])) rfl (L' := [some (Value.ref p), some (mp_i ((sp_waitStep s) l v)), some (mp_i (l + 1))]) rfl ?_
        exact ih (l + 1) ((sp_waitStep s) l v) (⟨by omega, mp_waitStep_bd (by omega) hi.2⟩) hk
      · refine mp_iload_n dX6_lookersFree_20 rfl ?_
        refine mp_iconst dX6_lookersFree_21 ?_
        refine mp_iload_n dX6_lookersFree_22 rfl ?_
        refine mp_ishl (z := mp_bit l) dX6_lookersFree_23 (mp_z_bit ⟨by omega, by omega⟩) ?_
        refine mp_ior (z := mp_or v (mp_bit l)) dX6_lookersFree_24 (mp_z_or (by first | omega | exact mp_bit_nn _ | exact mp_or_nn _ _ | exact mp_and_nn _ _ | exact mp_shr_nn _ _) (by first | omega | exact mp_bit_nn _ | exact mp_or_nn _ _ | exact mp_and_nn _ _ | exact mp_shr_nn _ _)) ?_
        refine mp_istore_n (L' := [some (Value.ref p), some (mp_i (mp_or v (mp_bit l))), some (mp_i l)]) dX6_lookersFree_25 rfl (by decide) rfl ?_
        refine mp_iinc (z := l + 1) (L' := [some (Value.ref p), some (mp_i (mp_or v (mp_bit l))), some (mp_i (l + 1))]) dX6_lookersFree_26 rfl (rfl) (by decide) rfl ?_
        refine mp_goto (tgt := 4) dX6_lookersFree_29 rfl ?_
        refine mp_loc (j := 1) (y := (sp_waitStep s) l v) (by unfold sp_waitStep; first | (rw [if_pos (by omega)]) | (rw [if_neg (by omega)])) rfl (L' := [some (Value.ref p), some (mp_i ((sp_waitStep s) l v)), some (mp_i (l + 1))]) rfl ?_
        exact ih (l + 1) ((sp_waitStep s) l v) (⟨by omega, mp_waitStep_bd (by omega) hi.2⟩) hk
theorem zX6_lookersFree {s : Int → Int} {f : Nat → Option Nat} {p : Nat} {σ : mp_H} (hsk : mp_Sk σ p s f) (hs : mp_sky s) : mp_Call (mX6_lookersFree, 0, 0, 0) [Value.ref p] σ (some (mp_i (sp_waiting s)), σ) := by
  refine mp_Call.of (L := [some (Value.ref p), none, none]) pnX6 (Nat.le_of_ble_eq_true rfl) rfl ?_
  refine mp_iconst dX6_lookersFree_0 ?_
  refine mp_istore_n (L' := [some (Value.ref p), some (mp_i 0), none]) dX6_lookersFree_1 rfl (by decide) rfl ?_
  refine mp_iconst dX6_lookersFree_2 ?_
  refine mp_istore_n (L' := [some (Value.ref p), some (mp_i 0), some (mp_i 0)]) dX6_lookersFree_3 rfl (by decide) rfl ?_
  refine lX6_lookersFree_4 (p := p)  (by first | with_reducible assumption | omega) (by first | with_reducible assumption | omega) 5 0 0 (by omega) ?_
  refine mp_iload_n dX6_lookersFree_32 rfl ?_
  exact mp_ireturn (st := []) dX6_lookersFree_33 rfl ⟨by decide, by decide⟩ ((mp_ans (by first | with_reducible rfl | omega | rfl)))
theorem lX6_saidYesTo_4 {s : Int → Int} {f : Nat → Option Nat} {p : Nat} {σ : mp_H} (hsk : mp_Sk σ p s f) (hs : mp_sky s) {R9 : mp_An} : ∀ (n : Nat) (l : Int) (v : Int), ((0 ≤ l ∧ l + (n : Nat) = 5) ∧ 0 ≤ v ∧ v < 256) → mp_At (mX6_saidYesTo, 1, 0, 0) (0, 0) 40 [some (Value.ref p), some (mp_i (mp_fold (sp_saidStep s) n l v)), none] [] σ R9 → mp_At (mX6_saidYesTo, 1, 0, 0) (0, 0) 4 [some (Value.ref p), some (mp_i v), some (mp_i l)] [] σ R9 := by
  intro n
  induction n with
  | zero =>
    intro l v hi hk
    have hz0 := hs.1
    refine mp_iload_n dX6_saidYesTo_4 rfl ?_
    refine mp_iconst dX6_saidYesTo_5 ?_
    refine mp_icmp_ge (tgt := 40) dX6_saidYesTo_6 rfl ⟨by omega, by omega⟩ ⟨by omega, by omega⟩ (fun h1 => ?_) (fun h1 => ?_)
    · refine mp_drop (L' := [some (Value.ref p), some (mp_i v), none]) [true, true, false] rfl ?_
      exact hk
    · exfalso; omega
  | succ n ih =>
    intro l v hi hk
    have hz0 := hs.1
    have hl9 := hs.2.2.1 l (by omega) (by omega)
    refine mp_iload_n dX6_saidYesTo_4 rfl ?_
    refine mp_iconst dX6_saidYesTo_5 ?_
    refine mp_icmp_ge (tgt := 40) dX6_saidYesTo_6 rfl ⟨by omega, by omega⟩ ⟨by omega, by omega⟩ (fun h1 => ?_) (fun h1 => ?_)
    · exfalso; omega
    · refine mp_aload_n dX6_saidYesTo_9 rfl ?_
      refine mp_getfield dX6_saidYesTo_10 fsX6_27_8 hsk.1 rfl ?_
      refine mp_iload_n dX6_saidYesTo_13 rfl ?_
      refine mp_iald dX6_saidYesTo_14 hsk.2.2.2.2.2.1 ⟨by omega, by omega⟩ (by omega) ?_
      refine mp_top (y := s (49 + 3 * l + 2)) (sp_sai_in ⟨by omega, by omega⟩) ?_
      refine mp_bipush dX6_saidYesTo_15 rfl ?_
      refine mp_invS (z := (mX11_isBelow, 0, 0, 0)) (K' := (0, 0)) (σ1 := σ) (as := [mp_i (s (49 + 3 * l + 2)), mp_i 8]) (st := []) (st1 := [mp_i (if 0 ≤ (s (49 + 3 * l + 2)) ∧ (s (49 + 3 * l + 2)) < 8 then 1 else 0)]) dX6_saidYesTo_17 ssX6_34 (zX11_isBelow (v := (s (49 + 3 * l + 2))) (n := 8) (by first | with_reducible assumption | omega) (by first | with_reducible assumption | omega)) ⟨Nat.le_of_ble_eq_true rfl, Nat.le_of_ble_eq_true rfl, Nat.le_of_ble_eq_true rfl, Nat.le_of_ble_eq_true rfl, Nat.le_of_ble_eq_true rfl⟩ rfl rfl rfl rfl ?_
      refine mp_ifb_eq (tgt := 34) dX6_saidYesTo_20 rfl (fun h2 => ?_) (fun h2 => ?_)
      · refine mp_iinc (z := l + 1) (L' := [some (Value.ref p), some (mp_i v), some (mp_i (l + 1))]) dX6_saidYesTo_34 rfl (rfl) (by decide) rfl ?_
        refine mp_goto (tgt := 4) dX6_saidYesTo_37 rfl ?_
        refine mp_loc (j := 1) (y := (sp_saidStep s) l v) (by unfold sp_saidStep; first | (rw [if_pos (by omega)]) | (rw [if_neg (by omega)])) rfl (L' := [some (Value.ref p), some (mp_i ((sp_saidStep s) l v)), some (mp_i (l + 1))]) rfl ?_
        exact ih (l + 1) ((sp_saidStep s) l v) (⟨by omega, mp_saidStep_bd hs (by omega) hi.2⟩) hk
      · refine mp_iload_n dX6_saidYesTo_23 rfl ?_
        refine mp_iconst dX6_saidYesTo_24 ?_
        refine mp_aload_n dX6_saidYesTo_25 rfl ?_
        refine mp_getfield dX6_saidYesTo_26 fsX6_27_8 hsk.1 rfl ?_
        refine mp_iload_n dX6_saidYesTo_29 rfl ?_
        refine mp_iald dX6_saidYesTo_30 hsk.2.2.2.2.2.1 ⟨by omega, by omega⟩ (by omega) ?_
        refine mp_top (y := s (49 + 3 * l + 2)) (sp_sai_in ⟨by omega, by omega⟩) ?_
        refine mp_ishl (z := mp_bit (s (49 + 3 * l + 2))) dX6_saidYesTo_31 (mp_z_bit ⟨by omega, by omega⟩) ?_
        refine mp_ior (z := mp_or v (mp_bit (s (49 + 3 * l + 2)))) dX6_saidYesTo_32 (mp_z_or (by first | omega | exact mp_bit_nn _ | exact mp_or_nn _ _ | exact mp_and_nn _ _ | exact mp_shr_nn _ _) (by first | omega | exact mp_bit_nn _ | exact mp_or_nn _ _ | exact mp_and_nn _ _ | exact mp_shr_nn _ _)) ?_
        refine mp_istore_n (L' := [some (Value.ref p), some (mp_i (mp_or v (mp_bit (s (49 + 3 * l + 2))))), some (mp_i l)]) dX6_saidYesTo_33 rfl (by decide) rfl ?_
        refine mp_iinc (z := l + 1) (L' := [some (Value.ref p), some (mp_i (mp_or v (mp_bit (s (49 + 3 * l + 2))))), some (mp_i (l + 1))]) dX6_saidYesTo_34 rfl (rfl) (by decide) rfl ?_
        refine mp_goto (tgt := 4) dX6_saidYesTo_37 rfl ?_
        refine mp_loc (j := 1) (y := (sp_saidStep s) l v) (by unfold sp_saidStep; first | (rw [if_pos (by omega)]) | (rw [if_neg (by omega)])) rfl (L' := [some (Value.ref p), some (mp_i ((sp_saidStep s) l v)), some (mp_i (l + 1))]) rfl ?_
        exact ih (l + 1) ((sp_saidStep s) l v) (⟨by omega, mp_saidStep_bd hs (by omega) hi.2⟩) hk
theorem zX6_saidYesTo {s : Int → Int} {f : Nat → Option Nat} {p : Nat} {σ : mp_H} (hsk : mp_Sk σ p s f) (hs : mp_sky s) : mp_Call (mX6_saidYesTo, 1, 0, 0) [Value.ref p] σ (some (mp_i (sp_said s)), σ) := by
  refine mp_Call.of (L := [some (Value.ref p), none, none]) pnX6 (Nat.le_of_ble_eq_true rfl) rfl ?_
  refine mp_iconst dX6_saidYesTo_0 ?_
  refine mp_istore_n (L' := [some (Value.ref p), some (mp_i 0), none]) dX6_saidYesTo_1 rfl (by decide) rfl ?_
  refine mp_iconst dX6_saidYesTo_2 ?_
  refine mp_istore_n (L' := [some (Value.ref p), some (mp_i 0), some (mp_i 0)]) dX6_saidYesTo_3 rfl (by decide) rfl ?_
  refine lX6_saidYesTo_4 (p := p)  (by first | with_reducible assumption | omega) (by first | with_reducible assumption | omega) 5 0 0 (by omega) ?_
  refine mp_iload_n dX6_saidYesTo_40 rfl ?_
  exact mp_ireturn (st := []) dX6_saidYesTo_41 rfl ⟨by decide, by decide⟩ ((mp_ans (by first | with_reducible rfl | omega | rfl)))
theorem lX6_mistaken_4 {s : Int → Int} {f : Nat → Option Nat} {p : Nat} {σ : mp_H} (hsk : mp_Sk σ p s f) (hs : mp_sky s) {R9 : mp_An} : ∀ (n : Nat) (l : Int) (v : Int), ((0 ≤ l ∧ l + (n : Nat) = 5) ∧ 0 ≤ v ∧ v < 256) → mp_At (mX6_mistaken, 1, 0, 0) (0, 0) 47 [some (Value.ref p), some (mp_i (mp_fold (sp_misStep s) n l v)), none, none] [] σ R9 → mp_At (mX6_mistaken, 1, 0, 0) (0, 0) 4 [some (Value.ref p), some (mp_i v), some (mp_i l), none] [] σ R9 := by
  intro n
  induction n with
  | zero =>
    intro l v hi hk
    have hz0 := hs.1
    refine mp_iload_n dX6_mistaken_4 rfl ?_
    refine mp_iconst dX6_mistaken_5 ?_
    refine mp_icmp_ge (tgt := 47) dX6_mistaken_6 rfl ⟨by omega, by omega⟩ ⟨by omega, by omega⟩ (fun h1 => ?_) (fun h1 => ?_)
    · refine mp_drop (L' := [some (Value.ref p), some (mp_i v), none, none]) [true, true, false, false] rfl ?_
      exact hk
    · exfalso; omega
  | succ n ih =>
    intro l v hi hk
    have hz0 := hs.1
    have hl9 := hs.2.2.1 l (by omega) (by omega)
    have hf9 : s (49 + 3 * l + 2) ≠ 9 → mp_met s (s (49 + 3 * l + 2)) := fun h => hs.2.1 _ (by omega) (by omega)
    refine mp_iload_n dX6_mistaken_4 rfl ?_
    refine mp_iconst dX6_mistaken_5 ?_
    refine mp_icmp_ge (tgt := 47) dX6_mistaken_6 rfl ⟨by omega, by omega⟩ ⟨by omega, by omega⟩ (fun h1 => ?_) (fun h1 => ?_)
    · exfalso; omega
    · refine mp_aload_n dX6_mistaken_9 rfl ?_
      refine mp_getfield dX6_mistaken_10 fsX6_27_8 hsk.1 rfl ?_
      refine mp_iload_n dX6_mistaken_13 rfl ?_
      refine mp_iald dX6_mistaken_14 hsk.2.2.2.2.2.1 ⟨by omega, by omega⟩ (by omega) ?_
      refine mp_top (y := s (49 + 3 * l + 2)) (sp_sai_in ⟨by omega, by omega⟩) ?_
      refine mp_istore_n (L' := [some (Value.ref p), some (mp_i v), some (mp_i l), some (mp_i (s (49 + 3 * l + 2)))]) dX6_mistaken_15 rfl (by decide) rfl ?_
      refine mp_iload_n dX6_mistaken_16 rfl ?_
      refine mp_bipush dX6_mistaken_17 rfl ?_
      refine mp_invS (z := (mX11_isBelow, 0, 0, 0)) (K' := (0, 0)) (σ1 := σ) (as := [mp_i (s (49 + 3 * l + 2)), mp_i 8]) (st := []) (st1 := [mp_i (if 0 ≤ (s (49 + 3 * l + 2)) ∧ (s (49 + 3 * l + 2)) < 8 then 1 else 0)]) dX6_mistaken_19 ssX6_34 (zX11_isBelow (v := (s (49 + 3 * l + 2))) (n := 8) (by first | with_reducible assumption | omega) (by first | with_reducible assumption | omega)) ⟨Nat.le_of_ble_eq_true rfl, Nat.le_of_ble_eq_true rfl, Nat.le_of_ble_eq_true rfl, Nat.le_of_ble_eq_true rfl, Nat.le_of_ble_eq_true rfl⟩ rfl rfl rfl rfl ?_
      refine mp_ifb_eq (tgt := 41) dX6_mistaken_22 rfl (fun h2 => ?_) (fun h2 => ?_)
      · refine mp_iinc (z := l + 1) (L' := [some (Value.ref p), some (mp_i v), some (mp_i (l + 1)), some (mp_i (s (49 + 3 * l + 2)))]) dX6_mistaken_41 rfl (rfl) (by decide) rfl ?_
        refine mp_goto (tgt := 4) dX6_mistaken_44 rfl ?_
        refine mp_loc (j := 1) (y := (sp_misStep s) l v) (by unfold sp_misStep; first | (rw [if_pos ⟨by omega, by omega⟩]) | (rw [if_neg (fun q => absurd q.1 (by omega))]) | (rw [if_neg (fun q => absurd q.2 (by omega))])) rfl (L' := [some (Value.ref p), some (mp_i ((sp_misStep s) l v)), some (mp_i (l + 1)), some (mp_i (s (49 + 3 * l + 2)))]) rfl ?_
        refine mp_drop (L' := [some (Value.ref p), some (mp_i ((sp_misStep s) l v)), some (mp_i (l + 1)), none]) [true, true, true, false] rfl ?_
        exact ih (l + 1) ((sp_misStep s) l v) (⟨by omega, mp_misStep_bd hs (by omega) hi.2⟩) hk
      · refine mp_aload_n dX6_mistaken_25 rfl ?_
        refine mp_getfield dX6_mistaken_26 fsX6_17_8 hsk.1 rfl ?_
        refine mp_iload_n dX6_mistaken_29 rfl ?_
        refine mp_iald dX6_mistaken_30 hsk.2.2.1 ⟨by omega, by omega⟩ (by omega) ?_
        refine mp_top (y := s (1 + 6 * (s (49 + 3 * l + 2)) + 5)) (sp_isf_in ⟨by omega, by omega⟩) ?_
        refine mp_iload_n dX6_mistaken_31 rfl ?_
        refine mp_icmp_eq (tgt := 41) dX6_mistaken_32 rfl ⟨by omega, by omega⟩ ⟨by omega, by omega⟩ (fun h3 => ?_) (fun h3 => ?_)
        · refine mp_iinc (z := l + 1) (L' := [some (Value.ref p), some (mp_i v), some (mp_i (l + 1)), some (mp_i (s (49 + 3 * l + 2)))]) dX6_mistaken_41 rfl (rfl) (by decide) rfl ?_
          refine mp_goto (tgt := 4) dX6_mistaken_44 rfl ?_
          refine mp_loc (j := 1) (y := (sp_misStep s) l v) (by unfold sp_misStep; first | (rw [if_pos ⟨by omega, by omega⟩]) | (rw [if_neg (fun q => absurd q.1 (by omega))]) | (rw [if_neg (fun q => absurd q.2 (by omega))])) rfl (L' := [some (Value.ref p), some (mp_i ((sp_misStep s) l v)), some (mp_i (l + 1)), some (mp_i (s (49 + 3 * l + 2)))]) rfl ?_
          refine mp_drop (L' := [some (Value.ref p), some (mp_i ((sp_misStep s) l v)), some (mp_i (l + 1)), none]) [true, true, true, false] rfl ?_
          exact ih (l + 1) ((sp_misStep s) l v) (⟨by omega, mp_misStep_bd hs (by omega) hi.2⟩) hk
        · refine mp_iload_n dX6_mistaken_35 rfl ?_
          refine mp_iconst dX6_mistaken_36 ?_
          refine mp_iload_n dX6_mistaken_37 rfl ?_
          refine mp_ishl (z := mp_bit (s (49 + 3 * l + 2))) dX6_mistaken_38 (mp_z_bit ⟨by omega, by omega⟩) ?_
          refine mp_ior (z := mp_or v (mp_bit (s (49 + 3 * l + 2)))) dX6_mistaken_39 (mp_z_or (by first | omega | exact mp_bit_nn _ | exact mp_or_nn _ _ | exact mp_and_nn _ _ | exact mp_shr_nn _ _) (by first | omega | exact mp_bit_nn _ | exact mp_or_nn _ _ | exact mp_and_nn _ _ | exact mp_shr_nn _ _)) ?_
          refine mp_istore_n (L' := [some (Value.ref p), some (mp_i (mp_or v (mp_bit (s (49 + 3 * l + 2))))), some (mp_i l), some (mp_i (s (49 + 3 * l + 2)))]) dX6_mistaken_40 rfl (by decide) rfl ?_
          refine mp_iinc (z := l + 1) (L' := [some (Value.ref p), some (mp_i (mp_or v (mp_bit (s (49 + 3 * l + 2))))), some (mp_i (l + 1)), some (mp_i (s (49 + 3 * l + 2)))]) dX6_mistaken_41 rfl (rfl) (by decide) rfl ?_
          refine mp_goto (tgt := 4) dX6_mistaken_44 rfl ?_
          refine mp_loc (j := 1) (y := (sp_misStep s) l v) (by unfold sp_misStep; first | (rw [if_pos ⟨by omega, by omega⟩]) | (rw [if_neg (fun q => absurd q.1 (by omega))]) | (rw [if_neg (fun q => absurd q.2 (by omega))])) rfl (L' := [some (Value.ref p), some (mp_i ((sp_misStep s) l v)), some (mp_i (l + 1)), some (mp_i (s (49 + 3 * l + 2)))]) rfl ?_
          refine mp_drop (L' := [some (Value.ref p), some (mp_i ((sp_misStep s) l v)), some (mp_i (l + 1)), none]) [true, true, true, false] rfl ?_
          exact ih (l + 1) ((sp_misStep s) l v) (⟨by omega, mp_misStep_bd hs (by omega) hi.2⟩) hk
theorem zX6_mistaken {s : Int → Int} {f : Nat → Option Nat} {p : Nat} {σ : mp_H} (hsk : mp_Sk σ p s f) (hs : mp_sky s) : mp_Call (mX6_mistaken, 1, 0, 0) [Value.ref p] σ (some (mp_i (sp_mis s)), σ) := by
  refine mp_Call.of (L := [some (Value.ref p), none, none, none]) pnX6 (Nat.le_of_ble_eq_true rfl) rfl ?_
  refine mp_iconst dX6_mistaken_0 ?_
  refine mp_istore_n (L' := [some (Value.ref p), some (mp_i 0), none, none]) dX6_mistaken_1 rfl (by decide) rfl ?_
  refine mp_iconst dX6_mistaken_2 ?_
  refine mp_istore_n (L' := [some (Value.ref p), some (mp_i 0), some (mp_i 0), none]) dX6_mistaken_3 rfl (by decide) rfl ?_
  refine lX6_mistaken_4 (p := p)  (by first | with_reducible assumption | omega) (by first | with_reducible assumption | omega) 5 0 0 (by omega) ?_
  refine mp_iload_n dX6_mistaken_47 rfl ?_
  exact mp_ireturn (st := []) dX6_mistaken_48 rfl ⟨by decide, by decide⟩ ((mp_ans (by first | with_reducible rfl | omega | rfl)))
theorem lX6_firstOf_9 {s : Int → Int} {f : Nat → Option Nat} {k g : Int} {p : Nat} {v : Int} {a : Nat} {σ : mp_H} (hsk : mp_Sk σ p s f) (hs : mp_sky s) (hkk : 0 ≤ k ∧ k < s 0) (hca : σ[a]? = some (mp_mc s k)) (h_v : 0 ≤ v ∧ v < 65536) (hv : ∀ l, 0 ≤ l → l ≤ 4 → (sp_b v l = 1 ↔ (g = 0 ∨ s (49 + 3 * l + 2) = 9))) {R9 : mp_An} : ∀ (n : Nat) (l : Int) (u : Int) (z : Int), ((0 ≤ l ∧ l + (n : Nat) = 5) ∧ (u = -4 ∨ ((0 ≤ u ∧ u ≤ 4) ∧ z = sp_yesOf s u k)) ∧ (-4 ≤ z ∧ z ≤ 15)) → mp_At (mX6_firstOf, 3, 0, 0) (0, 0) 69 [some (Value.ref p), some (mp_i v), some (Value.ref a), some (mp_i (if mp_fold (sp_takeStep s k g) n l u < 0 then 9 else mp_fold (sp_takeStep s k g) n l u)), none, none, none] [] σ R9 → mp_At (mX6_firstOf, 3, 0, 0) (0, 0) 9 [some (Value.ref p), some (mp_i v), some (Value.ref a), some (mp_i (if u < 0 then 9 else u)), some (mp_i z), some (mp_i l), none] [] σ R9 := by
  intro n
  induction n with
  | zero =>
    intro l u z hi hk
    have hz0 := hs.1
    have ht0 := hs.2.1 k (by omega) (by omega)
    have hb1 := mp_lasts_bd (kind := s (1 + 6 * k + 0)) (f := s (1 + 6 * k + 1)) (by omega)
    have hb2 := mp_bright_bd (kind := s (1 + 6 * k + 0)) (f := s (1 + 6 * k + 1)) (by omega)
    refine mp_iload dX6_firstOf_9 rfl ?_
    refine mp_iconst dX6_firstOf_11 ?_
    refine mp_icmp_ge (tgt := 69) dX6_firstOf_12 rfl ⟨by omega, by omega⟩ ⟨by omega, by omega⟩ (fun h1 => ?_) (fun h1 => ?_)
    · refine mp_drop (L' := [some (Value.ref p), some (mp_i v), some (Value.ref a), some (mp_i (if u < 0 then 9 else u)), none, none, none]) [true, true, true, true, false, false, false] rfl ?_
      exact hk
    · exfalso; omega
  | succ n ih =>
    intro l u z hi hk
    have hz0 := hs.1
    have ht0 := hs.2.1 k (by omega) (by omega)
    have hb1 := mp_lasts_bd (kind := s (1 + 6 * k + 0)) (f := s (1 + 6 * k + 1)) (by omega)
    have hb2 := mp_bright_bd (kind := s (1 + 6 * k + 0)) (f := s (1 + 6 * k + 1)) (by omega)
    have hl9 := hs.2.2.1 l (by omega) (by omega)
    have hyb := mp_yesOf_bd s l k
    have hyu := mp_yesOf_bd s u k
    have hvl := hv l (by omega) (by omega)
    have hbv := mp_b_bd v l
    refine mp_iload dX6_firstOf_9 rfl ?_
    refine mp_iconst dX6_firstOf_11 ?_
    refine mp_icmp_ge (tgt := 69) dX6_firstOf_12 rfl ⟨by omega, by omega⟩ ⟨by omega, by omega⟩ (fun h1 => ?_) (fun h1 => ?_)
    · exfalso; omega
    · refine mp_iload_n dX6_firstOf_15 rfl ?_
      refine mp_iload dX6_firstOf_16 rfl ?_
      refine mp_invS (z := (mX11_hasBit, 0, 0, 0)) (K' := (0, 0)) (σ1 := σ) (as := [mp_i v, mp_i l]) (st := []) (st1 := [mp_i (if sp_b v l ≠ 0 then 1 else 0)]) dX6_firstOf_18 ssX6_52 (zX11_hasBit (v := v) (k := l) (by first | with_reducible assumption | omega) (by first | with_reducible assumption | omega)) ⟨Nat.le_of_ble_eq_true rfl, Nat.le_of_ble_eq_true rfl, Nat.le_of_ble_eq_true rfl, Nat.le_of_ble_eq_true rfl, Nat.le_of_ble_eq_true rfl⟩ rfl rfl rfl rfl ?_
      refine mp_ifb_eq (tgt := 34) dX6_firstOf_21 rfl (fun h2 => ?_) (fun h2 => ?_)
      · refine mp_bipush dX6_firstOf_34 rfl ?_
        refine mp_istore (L' := [some (Value.ref p), some (mp_i v), some (Value.ref a), some (mp_i (if u < 0 then 9 else u)), some (mp_i z), some (mp_i l), some (mp_i (-4))]) dX6_firstOf_36 (by decide) rfl ?_
        refine mp_iload dX6_firstOf_38 rfl ?_
        refine mp_if_lt (tgt := 63) dX6_firstOf_40 rfl ⟨by decide, by decide⟩ (fun _ => ?_) (fun h3 => absurd h3 (by decide))
        refine mp_iinc (z := l + 1) (L' := [some (Value.ref p), some (mp_i v), some (Value.ref a), some (mp_i (if u < 0 then 9 else u)), some (mp_i z), some (mp_i (l + 1)), some (mp_i (-4))]) dX6_firstOf_63 rfl (rfl) (by decide) rfl ?_
        refine mp_goto (tgt := 9) dX6_firstOf_66 rfl ?_
        refine mp_drop (L' := [some (Value.ref p), some (mp_i v), some (Value.ref a), some (mp_i (if u < 0 then 9 else u)), some (mp_i z), some (mp_i (l + 1)), none]) [true, true, true, true, true, true, false] rfl ?_
        have e9 : (sp_takeStep s k g) l u = u := by unfold sp_takeStep; first | (rw [if_neg (by omega), if_pos (by omega)]; done) | (rw [if_pos (by omega)]; done) | (rw [if_neg (by omega), if_neg (by omega)]; done)
        have k9 := ih (l + 1) ((sp_takeStep s k g) l u) z (by rw [e9]; omega) hk
        rw [e9] at k9
        exact k9
      · refine mp_aload_n dX6_firstOf_24 rfl ?_
        refine mp_iload dX6_firstOf_25 rfl ?_
        refine mp_aload_n dX6_firstOf_27 rfl ?_
        refine mp_invV (z := (mX6_yesStep, 2, 0, 0)) (K' := (0, 0)) (σ1 := σ) (as := [mp_i l, Value.ref a]) (st := []) (st1 := [mp_i (sp_yesOf s l k)]) dX6_firstOf_28 svX6_55 hsk.1 rfl rfl (zX6_yesStep (p := p) (l := l) (a := a) (s := s) (f := f) (k := k) (by first | with_reducible assumption | omega) (by first | with_reducible assumption | omega) (by first | with_reducible assumption | omega) (by first | with_reducible assumption | omega) (by first | with_reducible assumption | omega)) ⟨Nat.le_of_ble_eq_true rfl, Nat.le_of_ble_eq_true rfl, Nat.le_of_ble_eq_true rfl, Nat.le_of_ble_eq_true rfl, Nat.le_of_ble_eq_true rfl⟩ rfl rfl rfl rfl ?_
        refine mp_goto (tgt := 36) dX6_firstOf_31 rfl ?_
        refine mp_istore (L' := [some (Value.ref p), some (mp_i v), some (Value.ref a), some (mp_i (if u < 0 then 9 else u)), some (mp_i z), some (mp_i l), some (mp_i (sp_yesOf s l k))]) dX6_firstOf_36 (by decide) rfl ?_
        refine mp_iload dX6_firstOf_38 rfl ?_
        refine mp_if_lt (tgt := 63) dX6_firstOf_40 rfl ⟨by omega, by omega⟩ (fun h4 => ?_) (fun h4 => ?_)
        · refine mp_iinc (z := l + 1) (L' := [some (Value.ref p), some (mp_i v), some (Value.ref a), some (mp_i (if u < 0 then 9 else u)), some (mp_i z), some (mp_i (l + 1)), some (mp_i (sp_yesOf s l k))]) dX6_firstOf_63 rfl (rfl) (by decide) rfl ?_
          refine mp_goto (tgt := 9) dX6_firstOf_66 rfl ?_
          refine mp_drop (L' := [some (Value.ref p), some (mp_i v), some (Value.ref a), some (mp_i (if u < 0 then 9 else u)), some (mp_i z), some (mp_i (l + 1)), none]) [true, true, true, true, true, true, false] rfl ?_
          have e9 : (sp_takeStep s k g) l u = u := by unfold sp_takeStep; first | (rw [if_neg (by omega), if_pos (by omega)]; done) | (rw [if_pos (by omega)]; done) | (rw [if_neg (by omega), if_neg (by omega)]; done)
          have k9 := ih (l + 1) ((sp_takeStep s k g) l u) z (by rw [e9]; omega) hk
          rw [e9] at k9
          exact k9
        · refine mp_iload_n dX6_firstOf_43 rfl ?_
          refine mp_bipush dX6_firstOf_44 rfl ?_
          refine mp_icmp_eq (tgt := 56) dX6_firstOf_46 rfl ⟨by omega, by omega⟩ ⟨by omega, by omega⟩ (fun h5 => ?_) (fun h5 => ?_)
          · refine mp_iload dX6_firstOf_56 rfl ?_
            refine mp_istore_n (L' := [some (Value.ref p), some (mp_i v), some (Value.ref a), some (mp_i l), some (mp_i z), some (mp_i l), some (mp_i (sp_yesOf s l k))]) dX6_firstOf_58 rfl (by decide) rfl ?_
            refine mp_iload dX6_firstOf_59 rfl ?_
            refine mp_istore (L' := [some (Value.ref p), some (mp_i v), some (Value.ref a), some (mp_i l), some (mp_i (sp_yesOf s l k)), some (mp_i l), some (mp_i (sp_yesOf s l k))]) dX6_firstOf_61 (by decide) rfl ?_
            refine mp_iinc (z := l + 1) (L' := [some (Value.ref p), some (mp_i v), some (Value.ref a), some (mp_i l), some (mp_i (sp_yesOf s l k)), some (mp_i (l + 1)), some (mp_i (sp_yesOf s l k))]) dX6_firstOf_63 rfl (rfl) (by decide) rfl ?_
            refine mp_goto (tgt := 9) dX6_firstOf_66 rfl ?_
            refine mp_drop (L' := [some (Value.ref p), some (mp_i v), some (Value.ref a), some (mp_i l), some (mp_i (sp_yesOf s l k)), some (mp_i (l + 1)), none]) [true, true, true, true, true, true, false] rfl ?_
            have e9 : (sp_takeStep s k g) l u = l := by unfold sp_takeStep; first | (rw [if_neg (by omega), if_pos (by omega)]; done) | (rw [if_pos (by omega)]; done) | (rw [if_neg (by omega), if_neg (by omega)]; done)
            have k9 := ih (l + 1) ((sp_takeStep s k g) l u) (sp_yesOf s l k) (by rw [e9]; omega) hk
            rw [e9] at k9
            rw [if_neg (by omega)] at k9
            exact k9
          · refine mp_iload dX6_firstOf_49 rfl ?_
            refine mp_iload dX6_firstOf_51 rfl ?_
            refine mp_icmp_ge (tgt := 63) dX6_firstOf_53 rfl ⟨by omega, by omega⟩ ⟨by omega, by omega⟩ (fun h6 => ?_) (fun h6 => ?_)
            · refine mp_iinc (z := l + 1) (L' := [some (Value.ref p), some (mp_i v), some (Value.ref a), some (mp_i (if u < 0 then 9 else u)), some (mp_i z), some (mp_i (l + 1)), some (mp_i (sp_yesOf s l k))]) dX6_firstOf_63 rfl (rfl) (by decide) rfl ?_
              refine mp_goto (tgt := 9) dX6_firstOf_66 rfl ?_
              refine mp_drop (L' := [some (Value.ref p), some (mp_i v), some (Value.ref a), some (mp_i (if u < 0 then 9 else u)), some (mp_i z), some (mp_i (l + 1)), none]) [true, true, true, true, true, true, false] rfl ?_
              have e9 : (sp_takeStep s k g) l u = u := by unfold sp_takeStep; first | (rw [if_neg (by omega), if_pos (by omega)]; done) | (rw [if_pos (by omega)]; done) | (rw [if_neg (by omega), if_neg (by omega)]; done)
              have k9 := ih (l + 1) ((sp_takeStep s k g) l u) z (by rw [e9]; omega) hk
              rw [e9] at k9
              exact k9
            · refine mp_iload dX6_firstOf_56 rfl ?_
              refine mp_istore_n (L' := [some (Value.ref p), some (mp_i v), some (Value.ref a), some (mp_i l), some (mp_i z), some (mp_i l), some (mp_i (sp_yesOf s l k))]) dX6_firstOf_58 rfl (by decide) rfl ?_
              refine mp_iload dX6_firstOf_59 rfl ?_
              refine mp_istore (L' := [some (Value.ref p), some (mp_i v), some (Value.ref a), some (mp_i l), some (mp_i (sp_yesOf s l k)), some (mp_i l), some (mp_i (sp_yesOf s l k))]) dX6_firstOf_61 (by decide) rfl ?_
              refine mp_iinc (z := l + 1) (L' := [some (Value.ref p), some (mp_i v), some (Value.ref a), some (mp_i l), some (mp_i (sp_yesOf s l k)), some (mp_i (l + 1)), some (mp_i (sp_yesOf s l k))]) dX6_firstOf_63 rfl (rfl) (by decide) rfl ?_
              refine mp_goto (tgt := 9) dX6_firstOf_66 rfl ?_
              refine mp_drop (L' := [some (Value.ref p), some (mp_i v), some (Value.ref a), some (mp_i l), some (mp_i (sp_yesOf s l k)), some (mp_i (l + 1)), none]) [true, true, true, true, true, true, false] rfl ?_
              have e9 : (sp_takeStep s k g) l u = l := by unfold sp_takeStep; first | (rw [if_neg (by omega), if_pos (by omega)]; done) | (rw [if_pos (by omega)]; done) | (rw [if_neg (by omega), if_neg (by omega)]; done)
              have k9 := ih (l + 1) ((sp_takeStep s k g) l u) (sp_yesOf s l k) (by rw [e9]; omega) hk
              rw [e9] at k9
              rw [if_neg (by omega)] at k9
              exact k9
theorem zX6_firstOf {s : Int → Int} {f : Nat → Option Nat} {k g : Int} {p : Nat} {v : Int} {a : Nat} {σ : mp_H} (hsk : mp_Sk σ p s f) (hs : mp_sky s) (hkk : 0 ≤ k ∧ k < s 0) (hca : σ[a]? = some (mp_mc s k)) (h_v : 0 ≤ v ∧ v < 65536) (hv : ∀ l, 0 ≤ l → l ≤ 4 → (sp_b v l = 1 ↔ (g = 0 ∨ s (49 + 3 * l + 2) = 9))) : mp_Call (mX6_firstOf, 3, 0, 0) [Value.ref p, mp_i v, Value.ref a] σ (some (mp_i (if sp_taker s k g < 0 then 9 else sp_taker s k g)), σ) := by
  refine mp_Call.of (L := [some (Value.ref p), some (mp_i v), some (Value.ref a), none, none, none, none]) pnX6 (Nat.le_of_ble_eq_true rfl) rfl ?_
  have hz0 := hs.1
  have ht0 := hs.2.1 k (by omega) (by omega)
  have hb1 := mp_lasts_bd (kind := s (1 + 6 * k + 0)) (f := s (1 + 6 * k + 1)) (by omega)
  have hb2 := mp_bright_bd (kind := s (1 + 6 * k + 0)) (f := s (1 + 6 * k + 1)) (by omega)
  refine mp_bipush dX6_firstOf_0 rfl ?_
  refine mp_istore_n (L' := [some (Value.ref p), some (mp_i v), some (Value.ref a), some (mp_i 9), none, none, none]) dX6_firstOf_2 rfl (by decide) rfl ?_
  refine mp_iconst dX6_firstOf_3 ?_
  refine mp_istore (L' := [some (Value.ref p), some (mp_i v), some (Value.ref a), some (mp_i 9), some (mp_i 0), none, none]) dX6_firstOf_4 (by decide) rfl ?_
  refine mp_iconst dX6_firstOf_6 ?_
  refine mp_istore (L' := [some (Value.ref p), some (mp_i v), some (Value.ref a), some (mp_i 9), some (mp_i 0), some (mp_i 0), none]) dX6_firstOf_7 (by decide) rfl ?_
  refine mp_loc (j := 3) (x := 9) (y := if (-4) < 0 then 9 else (-4)) (by first | rfl | decide | omega) rfl (L' := [some (Value.ref p), some (mp_i v), some (Value.ref a), some (mp_i (if (-4) < 0 then 9 else (-4))), some (mp_i 0), some (mp_i 0), none]) rfl ?_
  refine lX6_firstOf_9 (p := p) (v := v) (a := a)  (by first | with_reducible assumption | omega) (by first | with_reducible assumption | omega) (by first | with_reducible assumption | omega) (by first | with_reducible assumption | omega) (by first | with_reducible assumption | omega) (by first | with_reducible assumption | omega) 5 0 (-4) 0 (by omega) ?_
  refine mp_iload_n dX6_firstOf_69 rfl ?_
  exact mp_ireturn (st := []) dX6_firstOf_70 rfl ⟨by decide, by decide⟩ ((mp_ans (by first | with_reducible rfl | omega | rfl)))
theorem lX6_allHeat_4 {s : Int → Int} {f : Nat → Option Nat} {p : Nat} {σ : mp_H} (hsk : mp_Sk σ p s f) (hs : mp_sky s) {R9 : mp_An} : ∀ (n : Nat) (t : Int) (v : Int), ((0 ≤ t ∧ t + (n : Nat) = 8) ∧ 0 ≤ v ∧ v ≤ 20 * t) → mp_At (mX6_allHeat, 3, 0, 0) (0, 0) 37 [some (Value.ref p), some (mp_i (mp_fold (fun k b => if k < s 0 then b + sp_heat (s (1 + 6 * k + 0)) (s (1 + 6 * k + 1)) else b) n t v)), none, none] [] σ R9 → mp_At (mX6_allHeat, 3, 0, 0) (0, 0) 4 [some (Value.ref p), some (mp_i v), some (mp_i t), none] [] σ R9 := by
  intro n
  induction n with
  | zero =>
    intro t v hi hk
    have hz0 := hs.1
    refine mp_iload_n dX6_allHeat_4 rfl ?_
    refine mp_bipush dX6_allHeat_5 rfl ?_
    refine mp_icmp_ge (tgt := 37) dX6_allHeat_7 rfl ⟨by omega, by omega⟩ ⟨by omega, by omega⟩ (fun h1 => ?_) (fun h1 => ?_)
    · refine mp_drop (L' := [some (Value.ref p), some (mp_i v), none, none]) [true, true, false, false] rfl ?_
      exact hk
    · exfalso; omega
  | succ n ih =>
    intro t v hi hk
    have hz0 := hs.1
    refine mp_iload_n dX6_allHeat_4 rfl ?_
    refine mp_bipush dX6_allHeat_5 rfl ?_
    refine mp_icmp_ge (tgt := 37) dX6_allHeat_7 rfl ⟨by omega, by omega⟩ ⟨by omega, by omega⟩ (fun h1 => ?_) (fun h1 => ?_)
    · exfalso; omega
    · refine mp_aload_n dX6_allHeat_10 rfl ?_
      refine mp_iload_n dX6_allHeat_11 rfl ?_
      by_cases hm2 : 0 ≤ t ∧ t < s 0
      · obtain ⟨a2, hf2, hc2⟩ := hsk.2.2.2.2.2.2 t hm2.1 hm2.2
        have ht2 := hs.2.1 t hm2.1 hm2.2
        have hl2 := mp_lasts_bd (kind := (s (1 + 6 * t + 0))) (f := (s (1 + 6 * t + 1))) (by omega)
        have hr2 := mp_bright_bd (kind := (s (1 + 6 * t + 0))) (f := (s (1 + 6 * t + 1))) (by omega)
        refine mp_invV (z := (mX6_at, 0, 0, 0)) (K' := (0, 0)) (σ1 := σ) (as := [mp_i t]) (st := []) (st1 := [Value.ref a2]) dX6_allHeat_12 svX6_59 hsk.1 rfl rfl (zX6_at (p := p) (m := t) (a := a2) (s := s) (f := f) hsk hm2 (by omega) hf2) ⟨Nat.le_of_ble_eq_true rfl, Nat.le_of_ble_eq_true rfl, Nat.le_of_ble_eq_true rfl, Nat.le_of_ble_eq_true rfl, Nat.le_of_ble_eq_true rfl⟩ rfl rfl rfl rfl ?_
        refine mp_astore_n (L' := [some (Value.ref p), some (mp_i v), some (mp_i t), some (Value.ref a2)]) dX6_allHeat_15 rfl (by decide) rfl ?_
        refine mp_iload_n dX6_allHeat_16 rfl ?_
        refine mp_aload_n dX6_allHeat_17 rfl ?_
        refine mp_ifnonnull_r (tgt := 25) dX6_allHeat_18 rfl ?_
        refine mp_aload_n dX6_allHeat_25 rfl ?_
        refine mp_inv8 (kd := (s (1 + 6 * t + 0))) (σ1 := σ) (as := []) (st := [mp_i v]) (st1 := [mp_i (sp_heat (s (1 + 6 * t + 0)) (s (1 + 6 * t + 1))), mp_i v]) dX6_allHeat_26 (by omega) s8X6_76 hc2 (fa_heat (a := a2) (kd := (s (1 + 6 * t + 0))) (f := (s (1 + 6 * t + 1))) (co := (s (1 + 6 * t + 2))) (sl := (s (1 + 6 * t + 3))) (ni := (s (1 + 6 * t + 4))) (la := (sp_lasts (s (1 + 6 * t + 0)) (s (1 + 6 * t + 1)))) (br := (sp_bright (s (1 + 6 * t + 0)) (s (1 + 6 * t + 1)))) hc2 (by first | with_reducible assumption | omega) (by first | with_reducible assumption | omega)) (Nat.le_of_ble_eq_true rfl) ⟨Nat.le_of_ble_eq_true rfl, Nat.le_of_ble_eq_true rfl⟩ (Nat.le_of_ble_eq_true rfl) rfl rfl rfl ?_
        have b3 := @mp_heat_bd (s (1 + 6 * t + 0)) (s (1 + 6 * t + 1)) (by omega)
        refine mp_iadd (z := v + (sp_heat (s (1 + 6 * t + 0)) (s (1 + 6 * t + 1)))) dX6_allHeat_29 (by first | rfl | omega) ?_
        refine mp_istore_n (L' := [some (Value.ref p), some (mp_i (v + (sp_heat (s (1 + 6 * t + 0)) (s (1 + 6 * t + 1))))), some (mp_i t), some (Value.ref a2)]) dX6_allHeat_30 rfl (by decide) rfl ?_
        refine mp_iinc (z := t + 1) (L' := [some (Value.ref p), some (mp_i (v + (sp_heat (s (1 + 6 * t + 0)) (s (1 + 6 * t + 1))))), some (mp_i (t + 1)), some (Value.ref a2)]) dX6_allHeat_31 rfl (rfl) (by decide) rfl ?_
        refine mp_goto (tgt := 4) dX6_allHeat_34 rfl ?_
        refine mp_drop (L' := [some (Value.ref p), some (mp_i (v + (sp_heat (s (1 + 6 * t + 0)) (s (1 + 6 * t + 1))))), some (mp_i (t + 1)), none]) [true, true, true, false] rfl ?_
        have e9 : (fun k b => if k < s 0 then b + sp_heat (s (1 + 6 * k + 0)) (s (1 + 6 * k + 1)) else b) t v = v + (sp_heat (s (1 + 6 * t + 0)) (s (1 + 6 * t + 1))) := if_pos (by omega)
        have k9 := ih (t + 1) ((fun k b => if k < s 0 then b + sp_heat (s (1 + 6 * k + 0)) (s (1 + 6 * k + 1)) else b) t v) (by rw [e9]; omega) hk
        rw [e9] at k9
        exact k9
      · refine mp_invV (z := (mX6_at, 0, 0, 0)) (K' := (0, 0)) (σ1 := σ) (as := [mp_i t]) (st := []) (st1 := [Value.null]) dX6_allHeat_12 svX6_59 hsk.1 rfl rfl (zX6_atN (p := p) (m := t) (s := s) (f := f) hsk hm2 (by omega) (by omega)) ⟨Nat.le_of_ble_eq_true rfl, Nat.le_of_ble_eq_true rfl, Nat.le_of_ble_eq_true rfl, Nat.le_of_ble_eq_true rfl, Nat.le_of_ble_eq_true rfl⟩ rfl rfl rfl rfl ?_
        refine mp_astore_nN (L' := [some (Value.ref p), some (mp_i v), some (mp_i t), some (Value.null)]) dX6_allHeat_15 rfl (by decide) rfl ?_
        refine mp_iload_n dX6_allHeat_16 rfl ?_
        refine mp_aload_nN dX6_allHeat_17 rfl ?_
        refine mp_ifnonnull_n dX6_allHeat_18 ?_
        refine mp_iconst dX6_allHeat_21 ?_
        refine mp_goto (tgt := 29) dX6_allHeat_22 rfl ?_
        refine mp_iadd (z := v + 0) dX6_allHeat_29 (by first | rfl | omega) ?_
        refine mp_istore_n (L' := [some (Value.ref p), some (mp_i (v + 0)), some (mp_i t), some (Value.null)]) dX6_allHeat_30 rfl (by decide) rfl ?_
        refine mp_iinc (z := t + 1) (L' := [some (Value.ref p), some (mp_i (v + 0)), some (mp_i (t + 1)), some (Value.null)]) dX6_allHeat_31 rfl (rfl) (by decide) rfl ?_
        refine mp_goto (tgt := 4) dX6_allHeat_34 rfl ?_
        refine mp_drop (L' := [some (Value.ref p), some (mp_i (v + 0)), some (mp_i (t + 1)), none]) [true, true, true, false] rfl ?_
        have e9 : (fun k b => if k < s 0 then b + sp_heat (s (1 + 6 * k + 0)) (s (1 + 6 * k + 1)) else b) t v = v + 0 := (if_neg (by omega)).trans (by omega)
        have k9 := ih (t + 1) ((fun k b => if k < s 0 then b + sp_heat (s (1 + 6 * k + 0)) (s (1 + 6 * k + 1)) else b) t v) (by rw [e9]; omega) hk
        rw [e9] at k9
        exact k9
theorem zX6_allHeat {s : Int → Int} {f : Nat → Option Nat} {p : Nat} {σ : mp_H} (hsk : mp_Sk σ p s f) (hs : mp_sky s) : mp_Call (mX6_allHeat, 3, 0, 0) [Value.ref p] σ (some (mp_i (sp_heatAll s)), σ) := by
  refine mp_Call.of (L := [some (Value.ref p), none, none, none]) pnX6 (Nat.le_of_ble_eq_true rfl) rfl ?_
  have hz0 := hs.1
  refine mp_iconst dX6_allHeat_0 ?_
  refine mp_istore_n (L' := [some (Value.ref p), some (mp_i 0), none, none]) dX6_allHeat_1 rfl (by decide) rfl ?_
  refine mp_iconst dX6_allHeat_2 ?_
  refine mp_istore_n (L' := [some (Value.ref p), some (mp_i 0), some (mp_i 0), none]) dX6_allHeat_3 rfl (by decide) rfl ?_
  refine lX6_allHeat_4 (p := p)  (by first | with_reducible assumption | omega) (by first | with_reducible assumption | omega) 8 0 0 (by omega) ?_
  refine mp_iload_n dX6_allHeat_37 rfl ?_
  exact mp_ireturn (st := []) dX6_allHeat_38 rfl ⟨by decide, by decide⟩ ((mp_ans (by exact (mp_fold_8 (F := fun k b => b + sp_heat (s (1 + 6 * k + 0)) (s (1 + 6 * k + 1))) hs.1 0).symm)))
theorem lX6_allSteps_4 {s : Int → Int} {f : Nat → Option Nat} {p : Nat} {σ : mp_H} (hsk : mp_Sk σ p s f) (hs : mp_sky s) {R9 : mp_An} : ∀ (n : Nat) (t : Int) (v : Int), ((0 ≤ t ∧ t + (n : Nat) = 8) ∧ 0 ≤ v ∧ v ≤ 20 * t) → mp_At (mX6_allSteps, 1, 0, 0) (0, 0) 37 [some (Value.ref p), some (mp_i (mp_fold (fun k b => if k < s 0 then b + sp_lasts (s (1 + 6 * k + 0)) (s (1 + 6 * k + 1)) else b) n t v)), none, none] [] σ R9 → mp_At (mX6_allSteps, 1, 0, 0) (0, 0) 4 [some (Value.ref p), some (mp_i v), some (mp_i t), none] [] σ R9 := by
  intro n
  induction n with
  | zero =>
    intro t v hi hk
    have hz0 := hs.1
    refine mp_iload_n dX6_allSteps_4 rfl ?_
    refine mp_bipush dX6_allSteps_5 rfl ?_
    refine mp_icmp_ge (tgt := 37) dX6_allSteps_7 rfl ⟨by omega, by omega⟩ ⟨by omega, by omega⟩ (fun h1 => ?_) (fun h1 => ?_)
    · refine mp_drop (L' := [some (Value.ref p), some (mp_i v), none, none]) [true, true, false, false] rfl ?_
      exact hk
    · exfalso; omega
  | succ n ih =>
    intro t v hi hk
    have hz0 := hs.1
    refine mp_iload_n dX6_allSteps_4 rfl ?_
    refine mp_bipush dX6_allSteps_5 rfl ?_
    refine mp_icmp_ge (tgt := 37) dX6_allSteps_7 rfl ⟨by omega, by omega⟩ ⟨by omega, by omega⟩ (fun h1 => ?_) (fun h1 => ?_)
    · exfalso; omega
    · refine mp_aload_n dX6_allSteps_10 rfl ?_
      refine mp_iload_n dX6_allSteps_11 rfl ?_
      by_cases hm2 : 0 ≤ t ∧ t < s 0
      · obtain ⟨a2, hf2, hc2⟩ := hsk.2.2.2.2.2.2 t hm2.1 hm2.2
        have ht2 := hs.2.1 t hm2.1 hm2.2
        have hl2 := mp_lasts_bd (kind := (s (1 + 6 * t + 0))) (f := (s (1 + 6 * t + 1))) (by omega)
        have hr2 := mp_bright_bd (kind := (s (1 + 6 * t + 0))) (f := (s (1 + 6 * t + 1))) (by omega)
        refine mp_invV (z := (mX6_at, 0, 0, 0)) (K' := (0, 0)) (σ1 := σ) (as := [mp_i t]) (st := []) (st1 := [Value.ref a2]) dX6_allSteps_12 svX6_59 hsk.1 rfl rfl (zX6_at (p := p) (m := t) (a := a2) (s := s) (f := f) hsk hm2 (by omega) hf2) ⟨Nat.le_of_ble_eq_true rfl, Nat.le_of_ble_eq_true rfl, Nat.le_of_ble_eq_true rfl, Nat.le_of_ble_eq_true rfl, Nat.le_of_ble_eq_true rfl⟩ rfl rfl rfl rfl ?_
        refine mp_astore_n (L' := [some (Value.ref p), some (mp_i v), some (mp_i t), some (Value.ref a2)]) dX6_allSteps_15 rfl (by decide) rfl ?_
        refine mp_iload_n dX6_allSteps_16 rfl ?_
        refine mp_aload_n dX6_allSteps_17 rfl ?_
        refine mp_ifnonnull_r (tgt := 25) dX6_allSteps_18 rfl ?_
        refine mp_aload_n dX6_allSteps_25 rfl ?_
        refine mp_getfield dX6_allSteps_26 (fsX6_79 (by omega)) hc2 rfl ?_
        refine mp_iadd (z := v + (sp_lasts (s (1 + 6 * t + 0)) (s (1 + 6 * t + 1)))) dX6_allSteps_29 (by first | rfl | omega) ?_
        refine mp_istore_n (L' := [some (Value.ref p), some (mp_i (v + (sp_lasts (s (1 + 6 * t + 0)) (s (1 + 6 * t + 1))))), some (mp_i t), some (Value.ref a2)]) dX6_allSteps_30 rfl (by decide) rfl ?_
        refine mp_iinc (z := t + 1) (L' := [some (Value.ref p), some (mp_i (v + (sp_lasts (s (1 + 6 * t + 0)) (s (1 + 6 * t + 1))))), some (mp_i (t + 1)), some (Value.ref a2)]) dX6_allSteps_31 rfl (rfl) (by decide) rfl ?_
        refine mp_goto (tgt := 4) dX6_allSteps_34 rfl ?_
        refine mp_drop (L' := [some (Value.ref p), some (mp_i (v + (sp_lasts (s (1 + 6 * t + 0)) (s (1 + 6 * t + 1))))), some (mp_i (t + 1)), none]) [true, true, true, false] rfl ?_
        have e9 : (fun k b => if k < s 0 then b + sp_lasts (s (1 + 6 * k + 0)) (s (1 + 6 * k + 1)) else b) t v = v + (sp_lasts (s (1 + 6 * t + 0)) (s (1 + 6 * t + 1))) := if_pos (by omega)
        have k9 := ih (t + 1) ((fun k b => if k < s 0 then b + sp_lasts (s (1 + 6 * k + 0)) (s (1 + 6 * k + 1)) else b) t v) (by rw [e9]; omega) hk
        rw [e9] at k9
        exact k9
      · refine mp_invV (z := (mX6_at, 0, 0, 0)) (K' := (0, 0)) (σ1 := σ) (as := [mp_i t]) (st := []) (st1 := [Value.null]) dX6_allSteps_12 svX6_59 hsk.1 rfl rfl (zX6_atN (p := p) (m := t) (s := s) (f := f) hsk hm2 (by omega) (by omega)) ⟨Nat.le_of_ble_eq_true rfl, Nat.le_of_ble_eq_true rfl, Nat.le_of_ble_eq_true rfl, Nat.le_of_ble_eq_true rfl, Nat.le_of_ble_eq_true rfl⟩ rfl rfl rfl rfl ?_
        refine mp_astore_nN (L' := [some (Value.ref p), some (mp_i v), some (mp_i t), some (Value.null)]) dX6_allSteps_15 rfl (by decide) rfl ?_
        refine mp_iload_n dX6_allSteps_16 rfl ?_
        refine mp_aload_nN dX6_allSteps_17 rfl ?_
        refine mp_ifnonnull_n dX6_allSteps_18 ?_
        refine mp_iconst dX6_allSteps_21 ?_
        refine mp_goto (tgt := 29) dX6_allSteps_22 rfl ?_
        refine mp_iadd (z := v + 0) dX6_allSteps_29 (by first | rfl | omega) ?_
        refine mp_istore_n (L' := [some (Value.ref p), some (mp_i (v + 0)), some (mp_i t), some (Value.null)]) dX6_allSteps_30 rfl (by decide) rfl ?_
        refine mp_iinc (z := t + 1) (L' := [some (Value.ref p), some (mp_i (v + 0)), some (mp_i (t + 1)), some (Value.null)]) dX6_allSteps_31 rfl (rfl) (by decide) rfl ?_
        refine mp_goto (tgt := 4) dX6_allSteps_34 rfl ?_
        refine mp_drop (L' := [some (Value.ref p), some (mp_i (v + 0)), some (mp_i (t + 1)), none]) [true, true, true, false] rfl ?_
        have e9 : (fun k b => if k < s 0 then b + sp_lasts (s (1 + 6 * k + 0)) (s (1 + 6 * k + 1)) else b) t v = v + 0 := (if_neg (by omega)).trans (by omega)
        have k9 := ih (t + 1) ((fun k b => if k < s 0 then b + sp_lasts (s (1 + 6 * k + 0)) (s (1 + 6 * k + 1)) else b) t v) (by rw [e9]; omega) hk
        rw [e9] at k9
        exact k9
theorem zX6_allSteps {s : Int → Int} {f : Nat → Option Nat} {p : Nat} {σ : mp_H} (hsk : mp_Sk σ p s f) (hs : mp_sky s) : mp_Call (mX6_allSteps, 1, 0, 0) [Value.ref p] σ (some (mp_i (sp_lastsAll s)), σ) := by
  refine mp_Call.of (L := [some (Value.ref p), none, none, none]) pnX6 (Nat.le_of_ble_eq_true rfl) rfl ?_
  have hz0 := hs.1
  refine mp_iconst dX6_allSteps_0 ?_
  refine mp_istore_n (L' := [some (Value.ref p), some (mp_i 0), none, none]) dX6_allSteps_1 rfl (by decide) rfl ?_
  refine mp_iconst dX6_allSteps_2 ?_
  refine mp_istore_n (L' := [some (Value.ref p), some (mp_i 0), some (mp_i 0), none]) dX6_allSteps_3 rfl (by decide) rfl ?_
  refine lX6_allSteps_4 (p := p)  (by first | with_reducible assumption | omega) (by first | with_reducible assumption | omega) 8 0 0 (by omega) ?_
  refine mp_iload_n dX6_allSteps_37 rfl ?_
  exact mp_ireturn (st := []) dX6_allSteps_38 rfl ⟨by decide, by decide⟩ ((mp_ans (by exact (mp_fold_8 (F := fun k b => b + sp_lasts (s (1 + 6 * k + 0)) (s (1 + 6 * k + 1))) hs.1 0).symm)))
theorem lX6_takenOnes_4 {s : Int → Int} {f : Nat → Option Nat} {p : Nat} {g : Int} {σ : mp_H} (hsk : mp_Sk σ p s f) (hs : mp_sky s) (h_g : 0 ≤ g ∧ g ≤ 1) {R9 : mp_An} : ∀ (n : Nat) (t : Int) (v : Int), ((0 ≤ t ∧ t + (n : Nat) = 8) ∧ 0 ≤ v ∧ v ≤ t) → mp_At (mX6_takenOnes, 4, 0, 0) (0, 0) 68 [some (Value.ref p), some (mp_i g), some (mp_i (mp_fold (fun k b => if k < s 0 then sp_augOne s g k b else b) n t v)), none, none, none] [] σ R9 → mp_At (mX6_takenOnes, 4, 0, 0) (0, 0) 4 [some (Value.ref p), some (mp_i g), some (mp_i v), some (mp_i t), none, none] [] σ R9 := by
  intro n
  induction n with
  | zero =>
    intro t v hi hk
    have hz0 := hs.1
    refine mp_iload_n dX6_takenOnes_4 rfl ?_
    refine mp_bipush dX6_takenOnes_5 rfl ?_
    refine mp_icmp_ge (tgt := 68) dX6_takenOnes_7 rfl ⟨by omega, by omega⟩ ⟨by omega, by omega⟩ (fun h1 => ?_) (fun h1 => ?_)
    · refine mp_drop (L' := [some (Value.ref p), some (mp_i g), some (mp_i v), none, none, none]) [true, true, true, false, false, false] rfl ?_
      exact hk
    · exfalso; omega
  | succ n ih =>
    intro t v hi hk
    have hz0 := hs.1
    have htk := mp_taker_bd s t 0
    have hv31 : ∀ l, 0 ≤ l → l ≤ 4 → (sp_b 31 l = 1 ↔ ((0 : Int) = 0 ∨ s (49 + 3 * l + 2) = 9)) := fun l h0 h1 => ⟨fun _ => Or.inl rfl, fun _ => mp_b_31 ⟨h0, h1⟩⟩
    refine mp_iload_n dX6_takenOnes_4 rfl ?_
    refine mp_bipush dX6_takenOnes_5 rfl ?_
    refine mp_icmp_ge (tgt := 68) dX6_takenOnes_7 rfl ⟨by omega, by omega⟩ ⟨by omega, by omega⟩ (fun h1 => ?_) (fun h1 => ?_)
    · exfalso; omega
    · refine mp_aload_n dX6_takenOnes_10 rfl ?_
      refine mp_iload_n dX6_takenOnes_11 rfl ?_
      by_cases hm2 : 0 ≤ t ∧ t < s 0
      · obtain ⟨a2, hf2, hc2⟩ := hsk.2.2.2.2.2.2 t hm2.1 hm2.2
        have ht2 := hs.2.1 t hm2.1 hm2.2
        have hl2 := mp_lasts_bd (kind := (s (1 + 6 * t + 0))) (f := (s (1 + 6 * t + 1))) (by omega)
        have hr2 := mp_bright_bd (kind := (s (1 + 6 * t + 0))) (f := (s (1 + 6 * t + 1))) (by omega)
        refine mp_invV (z := (mX6_at, 0, 0, 0)) (K' := (0, 0)) (σ1 := σ) (as := [mp_i t]) (st := []) (st1 := [Value.ref a2]) dX6_takenOnes_12 svX6_59 hsk.1 rfl rfl (zX6_at (p := p) (m := t) (a := a2) (s := s) (f := f) hsk hm2 (by omega) hf2) ⟨Nat.le_of_ble_eq_true rfl, Nat.le_of_ble_eq_true rfl, Nat.le_of_ble_eq_true rfl, Nat.le_of_ble_eq_true rfl, Nat.le_of_ble_eq_true rfl⟩ rfl rfl rfl rfl ?_
        refine mp_astore (L' := [some (Value.ref p), some (mp_i g), some (mp_i v), some (mp_i t), some (Value.ref a2), none]) dX6_takenOnes_15 (by decide) rfl ?_
        refine mp_aload dX6_takenOnes_17 rfl ?_
        refine mp_ifnonnull_r (tgt := 27) dX6_takenOnes_19 rfl ?_
        refine mp_aload_n dX6_takenOnes_27 rfl ?_
        refine mp_bipush dX6_takenOnes_28 rfl ?_
        refine mp_aload dX6_takenOnes_30 rfl ?_
        refine mp_invV (z := (mX6_firstOf, 3, 0, 0)) (K' := (0, 0)) (σ1 := σ) (as := [mp_i 31, Value.ref a2]) (st := []) (st1 := [mp_i (if sp_taker s t 0 < 0 then 9 else sp_taker s t 0)]) dX6_takenOnes_32 svX6_63 hsk.1 rfl rfl (zX6_firstOf (p := p) (v := 31) (a := a2) (s := s) (f := f) (k := t) (g := 0) hsk hs (by first | with_reducible assumption | omega) (by first | with_reducible assumption | omega) (by first | with_reducible assumption | omega) (by first | with_reducible assumption | omega)) ⟨Nat.le_of_ble_eq_true rfl, Nat.le_of_ble_eq_true rfl, Nat.le_of_ble_eq_true rfl, Nat.le_of_ble_eq_true rfl, Nat.le_of_ble_eq_true rfl⟩ rfl rfl rfl rfl ?_
        refine mp_istore (L' := [some (Value.ref p), some (mp_i g), some (mp_i v), some (mp_i t), some (Value.ref a2), some (mp_i (if sp_taker s t 0 < 0 then 9 else sp_taker s t 0))]) dX6_takenOnes_35 (by decide) rfl ?_
        refine mp_iload dX6_takenOnes_37 rfl ?_
        refine mp_bipush dX6_takenOnes_39 rfl ?_
        refine mp_icmp_eq (tgt := 62) dX6_takenOnes_41 rfl ⟨by omega, by omega⟩ ⟨by omega, by omega⟩ (fun h3 => ?_) (fun h3 => ?_)
        · refine mp_iinc (z := t + 1) (L' := [some (Value.ref p), some (mp_i g), some (mp_i v), some (mp_i (t + 1)), some (Value.ref a2), some (mp_i (if sp_taker s t 0 < 0 then 9 else sp_taker s t 0))]) dX6_takenOnes_62 rfl (rfl) (by decide) rfl ?_
          refine mp_goto (tgt := 4) dX6_takenOnes_65 rfl ?_
          refine mp_drop (L' := [some (Value.ref p), some (mp_i g), some (mp_i v), some (mp_i (t + 1)), none, none]) [true, true, true, true, false, false] rfl ?_
          have e9 : (fun k b => if k < s 0 then sp_augOne s g k b else b) t v = v := (if_pos (by omega)).trans (by unfold sp_augOne; rw [if_neg (by omega)]; omega)
          have k9 := ih (t + 1) ((fun k b => if k < s 0 then sp_augOne s g k b else b) t v) (by rw [e9]; omega) hk
          rw [e9] at k9
          exact k9
        · refine mp_iload_n dX6_takenOnes_44 rfl ?_
          refine mp_if_eq (tgt := 59) dX6_takenOnes_45 rfl ⟨by omega, by omega⟩ (fun h4 => ?_) (fun h4 => ?_)
          · refine mp_iinc (z := v + 1) (L' := [some (Value.ref p), some (mp_i g), some (mp_i (v + 1)), some (mp_i t), some (Value.ref a2), some (mp_i (if sp_taker s t 0 < 0 then 9 else sp_taker s t 0))]) dX6_takenOnes_59 rfl (rfl) (by decide) rfl ?_
            refine mp_iinc (z := t + 1) (L' := [some (Value.ref p), some (mp_i g), some (mp_i (v + 1)), some (mp_i (t + 1)), some (Value.ref a2), some (mp_i (if sp_taker s t 0 < 0 then 9 else sp_taker s t 0))]) dX6_takenOnes_62 rfl (rfl) (by decide) rfl ?_
            refine mp_goto (tgt := 4) dX6_takenOnes_65 rfl ?_
            refine mp_drop (L' := [some (Value.ref p), some (mp_i g), some (mp_i (v + 1)), some (mp_i (t + 1)), none, none]) [true, true, true, true, false, false] rfl ?_
            have e9 : (fun k b => if k < s 0 then sp_augOne s g k b else b) t v = v + 1 := (if_pos (by omega)).trans (by unfold sp_augOne; rw [if_pos (by omega)])
            have k9 := ih (t + 1) ((fun k b => if k < s 0 then sp_augOne s g k b else b) t v) (by rw [e9]; omega) hk
            rw [e9] at k9
            exact k9
          · refine mp_iload dX6_takenOnes_48 rfl ?_
            refine mp_aload_n dX6_takenOnes_50 rfl ?_
            refine mp_getfield dX6_takenOnes_51 fsX6_17_8 hsk.1 rfl ?_
            refine mp_iload_n dX6_takenOnes_54 rfl ?_
            refine mp_iald dX6_takenOnes_55 hsk.2.2.1 ⟨by omega, by omega⟩ (by omega) ?_
            refine mp_top (y := s (1 + 6 * t + 5)) (sp_isf_in ⟨by omega, by omega⟩) ?_
            refine mp_icmp_ne (tgt := 62) dX6_takenOnes_56 rfl ⟨by omega, by omega⟩ ⟨by omega, by omega⟩ (fun h5 => ?_) (fun h5 => ?_)
            · refine mp_iinc (z := t + 1) (L' := [some (Value.ref p), some (mp_i g), some (mp_i v), some (mp_i (t + 1)), some (Value.ref a2), some (mp_i (if sp_taker s t 0 < 0 then 9 else sp_taker s t 0))]) dX6_takenOnes_62 rfl (rfl) (by decide) rfl ?_
              refine mp_goto (tgt := 4) dX6_takenOnes_65 rfl ?_
              refine mp_drop (L' := [some (Value.ref p), some (mp_i g), some (mp_i v), some (mp_i (t + 1)), none, none]) [true, true, true, true, false, false] rfl ?_
              have e9 : (fun k b => if k < s 0 then sp_augOne s g k b else b) t v = v := (if_pos (by omega)).trans (by unfold sp_augOne; rw [if_neg (by omega)]; omega)
              have k9 := ih (t + 1) ((fun k b => if k < s 0 then sp_augOne s g k b else b) t v) (by rw [e9]; omega) hk
              rw [e9] at k9
              exact k9
            · refine mp_iinc (z := v + 1) (L' := [some (Value.ref p), some (mp_i g), some (mp_i (v + 1)), some (mp_i t), some (Value.ref a2), some (mp_i (if sp_taker s t 0 < 0 then 9 else sp_taker s t 0))]) dX6_takenOnes_59 rfl (rfl) (by decide) rfl ?_
              refine mp_iinc (z := t + 1) (L' := [some (Value.ref p), some (mp_i g), some (mp_i (v + 1)), some (mp_i (t + 1)), some (Value.ref a2), some (mp_i (if sp_taker s t 0 < 0 then 9 else sp_taker s t 0))]) dX6_takenOnes_62 rfl (rfl) (by decide) rfl ?_
              refine mp_goto (tgt := 4) dX6_takenOnes_65 rfl ?_
              refine mp_drop (L' := [some (Value.ref p), some (mp_i g), some (mp_i (v + 1)), some (mp_i (t + 1)), none, none]) [true, true, true, true, false, false] rfl ?_
              have e9 : (fun k b => if k < s 0 then sp_augOne s g k b else b) t v = v + 1 := (if_pos (by omega)).trans (by unfold sp_augOne; rw [if_pos (by omega)])
              have k9 := ih (t + 1) ((fun k b => if k < s 0 then sp_augOne s g k b else b) t v) (by rw [e9]; omega) hk
              rw [e9] at k9
              exact k9
      · refine mp_invV (z := (mX6_at, 0, 0, 0)) (K' := (0, 0)) (σ1 := σ) (as := [mp_i t]) (st := []) (st1 := [Value.null]) dX6_takenOnes_12 svX6_59 hsk.1 rfl rfl (zX6_atN (p := p) (m := t) (s := s) (f := f) hsk hm2 (by omega) (by omega)) ⟨Nat.le_of_ble_eq_true rfl, Nat.le_of_ble_eq_true rfl, Nat.le_of_ble_eq_true rfl, Nat.le_of_ble_eq_true rfl, Nat.le_of_ble_eq_true rfl⟩ rfl rfl rfl rfl ?_
        refine mp_astoreN (L' := [some (Value.ref p), some (mp_i g), some (mp_i v), some (mp_i t), some (Value.null), none]) dX6_takenOnes_15 (by decide) rfl ?_
        refine mp_aloadN dX6_takenOnes_17 rfl ?_
        refine mp_ifnonnull_n dX6_takenOnes_19 ?_
        refine mp_bipush dX6_takenOnes_22 rfl ?_
        refine mp_goto (tgt := 35) dX6_takenOnes_24 rfl ?_
        refine mp_istore (L' := [some (Value.ref p), some (mp_i g), some (mp_i v), some (mp_i t), some (Value.null), some (mp_i 9)]) dX6_takenOnes_35 (by decide) rfl ?_
        refine mp_iload dX6_takenOnes_37 rfl ?_
        refine mp_bipush dX6_takenOnes_39 rfl ?_
        refine mp_icmp_eq (tgt := 62) dX6_takenOnes_41 rfl ⟨by decide, by decide⟩ ⟨by decide, by decide⟩ (fun _ => ?_) (fun h6 => absurd h6 (by decide))
        refine mp_iinc (z := t + 1) (L' := [some (Value.ref p), some (mp_i g), some (mp_i v), some (mp_i (t + 1)), some (Value.null), some (mp_i 9)]) dX6_takenOnes_62 rfl (rfl) (by decide) rfl ?_
        refine mp_goto (tgt := 4) dX6_takenOnes_65 rfl ?_
        refine mp_drop (L' := [some (Value.ref p), some (mp_i g), some (mp_i v), some (mp_i (t + 1)), none, none]) [true, true, true, true, false, false] rfl ?_
        have e9 : (fun k b => if k < s 0 then sp_augOne s g k b else b) t v = v := if_neg (by omega)
        have k9 := ih (t + 1) ((fun k b => if k < s 0 then sp_augOne s g k b else b) t v) (by rw [e9]; omega) hk
        rw [e9] at k9
        exact k9
theorem zX6_takenOnes {s : Int → Int} {f : Nat → Option Nat} {p : Nat} {g : Int} {σ : mp_H} (hsk : mp_Sk σ p s f) (hs : mp_sky s) (h_g : 0 ≤ g ∧ g ≤ 1) : mp_Call (mX6_takenOnes, 4, 0, 0) [Value.ref p, mp_i g] σ (some (mp_i (mp_fold (sp_augOne s g) (Int.toNat (s 0)) 0 0)), σ) := by
  refine mp_Call.of (L := [some (Value.ref p), some (mp_i g), none, none, none, none]) pnX6 (Nat.le_of_ble_eq_true rfl) rfl ?_
  have hz0 := hs.1
  refine mp_iconst dX6_takenOnes_0 ?_
  refine mp_istore_n (L' := [some (Value.ref p), some (mp_i g), some (mp_i 0), none, none, none]) dX6_takenOnes_1 rfl (by decide) rfl ?_
  refine mp_iconst dX6_takenOnes_2 ?_
  refine mp_istore_n (L' := [some (Value.ref p), some (mp_i g), some (mp_i 0), some (mp_i 0), none, none]) dX6_takenOnes_3 rfl (by decide) rfl ?_
  refine lX6_takenOnes_4 (p := p) (g := g)  (by first | with_reducible assumption | omega) (by first | with_reducible assumption | omega) (by first | with_reducible assumption | omega) 8 0 0 (by omega) ?_
  refine mp_iload_n dX6_takenOnes_68 rfl ?_
  exact mp_ireturn (st := []) dX6_takenOnes_69 rfl ⟨by decide, by decide⟩ ((mp_ans (by exact (mp_fold_8 (F := sp_augOne s g) hs.1 0).symm)))
