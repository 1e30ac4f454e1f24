theorem lX12_seenOf_4 {s m img was num pro ask kp kk kf so sz el : Int → Int} {im pl ra re rm rf sd th : Int} {A B : mp_H}  {c : Int} (hA : A.length = 44) (hs : mp_sky s) (h_c : 0 ≤ c ∧ c ≤ 15) {R9 : mp_An} : ∀ (n : Nat) (k : Int) (u : Int), ((0 ≤ k ∧ k + (n : Nat) = s 0) ∧ 0 ≤ u ∧ u < 256) → mp_At (mX12_seenOf, 3, 0, 0) (0, 0) 42 [some (Value.ref 44), some (mp_i c), some (mp_i (mp_fold (sp_ofStep s c) n k u)), none] [] (A ++ (mp_ms s m img was num pro ask kp kk kf so sz el im pl ra re rm rf sd th ++ B)) R9 → mp_At (mX12_seenOf, 3, 0, 0) (0, 0) 4 [some (Value.ref 44), some (mp_i c), some (mp_i u), some (mp_i k)] [] (A ++ (mp_ms s m img was num pro ask kp kk kf so sz el im pl ra re rm rf sd th ++ B)) R9 := by
  intro n
  induction n with
  | zero =>
    intro k u hi hk
    have h0 := hs.1
    refine mp_iload_n dX12_seenOf_4 rfl ?_
    refine mp_aload_n dX12_seenOf_5 rfl ?_
    refine mp_getfield dX12_seenOf_6 fsX12_9_11 (mp_lk hA 0 rfl) rfl ?_
    refine mp_iconst dX12_seenOf_9 ?_
    refine mp_iald dX12_seenOf_10 (mp_lk hA 1 rfl) ⟨by omega, by omega⟩ (by omega) ?_
    refine mp_icmp_ge (tgt := 42) dX12_seenOf_11 rfl ⟨by omega, by omega⟩ ⟨by omega, by omega⟩ (fun h1 => ?_) (fun h1 => ?_)
    · refine mp_drop (L' := [some (Value.ref 44), some (mp_i c), some (mp_i u), none]) [true, true, true, false] rfl ?_
      exact hk
    · exfalso; omega
  | succ n ih =>
    intro k u hi hk
    have h0 := hs.1
    have hm := hs.2.1 k (by omega) (by omega)
    refine mp_iload_n dX12_seenOf_4 rfl ?_
    refine mp_aload_n dX12_seenOf_5 rfl ?_
    refine mp_getfield dX12_seenOf_6 fsX12_9_11 (mp_lk hA 0 rfl) rfl ?_
    refine mp_iconst dX12_seenOf_9 ?_
    refine mp_iald dX12_seenOf_10 (mp_lk hA 1 rfl) ⟨by omega, by omega⟩ (by omega) ?_
    refine mp_icmp_ge (tgt := 42) dX12_seenOf_11 rfl ⟨by omega, by omega⟩ ⟨by omega, by omega⟩ (fun h1 => ?_) (fun h1 => ?_)
    · exfalso; omega
    · refine mp_iload_n dX12_seenOf_14 rfl ?_
      refine mp_aload_n dX12_seenOf_15 rfl ?_
      refine mp_getfield dX12_seenOf_16 fsX12_9_11 (mp_lk hA 0 rfl) rfl ?_
      refine mp_iload_n dX12_seenOf_19 rfl ?_
      refine mp_iload_n dX12_seenOf_20 rfl ?_
      refine mp_invS (z := (mX12_seenFrom, 2, 0, 0)) (K' := (0, 0)) (σ1 := A ++ (mp_ms s m img was num pro ask kp kk kf so sz el im pl ra re rm rf sd th ++ B)) (as := [Value.ref 45, mp_i k, mp_i c]) (st := [mp_i u]) (st1 := [mp_i (sp_seen (s (1 + 6 * k + 0)) (s (1 + 6 * k + 1)) (s (1 + 6 * k + 2)) (s (1 + 6 * k + 3)) c), mp_i u]) dX12_seenOf_21 ssX12_86 (zX12_seenFrom (r := 45) (k := k) (q := c) (s := s) (mp_lk hA 1 rfl) (by first | with_reducible assumption | omega) (by first | with_reducible assumption | omega) (by first | with_reducible assumption | omega)) ⟨Nat.le_of_ble_eq_true rfl, Nat.le_of_ble_eq_true rfl, Nat.le_of_ble_eq_true rfl, Nat.le_of_ble_eq_true rfl, Nat.le_of_ble_eq_true rfl⟩ rfl rfl rfl rfl ?_
      have b2 := mp_seen_bd (kind := s (1 + 6 * k + 0)) (f := s (1 + 6 * k + 1)) (col := s (1 + 6 * k + 2)) (slope := s (1 + 6 * k + 3)) (roof := c) (by omega)
      refine mp_if_eq (tgt := 33) dX12_seenOf_24 rfl ⟨by omega, by omega⟩ (fun h3 => ?_) (fun h3 => ?_)
      · refine mp_iconst dX12_seenOf_33 ?_
        refine mp_ior (z := u) dX12_seenOf_34 (by rw [mp_z_or (by omega) (by omega), mp_or_0 (by omega)]) ?_
        refine mp_istore_n (L' := [some (Value.ref 44), some (mp_i c), some (mp_i u), some (mp_i k)]) dX12_seenOf_35 rfl (by decide) rfl ?_
        refine mp_iinc (z := k + 1) (L' := [some (Value.ref 44), some (mp_i c), some (mp_i u), some (mp_i (k + 1))]) dX12_seenOf_36 rfl (rfl) (by decide) rfl ?_
        refine mp_goto (tgt := 4) dX12_seenOf_39 rfl ?_
        refine mp_loc (j := 2) (y := sp_ofStep s c k u) (by unfold sp_ofStep; first | (rw [if_pos (by omega)]; done) | (rw [if_neg (by omega)]; done)) rfl (L' := [some (Value.ref 44), some (mp_i c), some (mp_i (sp_ofStep s c k u)), some (mp_i (k + 1))]) rfl ?_
        exact ih (k + 1) (sp_ofStep s c k u) (⟨by omega, mp_ofStep_bd (by omega) hi.2⟩) hk
      · refine mp_iconst dX12_seenOf_27 ?_
        refine mp_iload_n dX12_seenOf_28 rfl ?_
        refine mp_ishl (z := mp_bit k) dX12_seenOf_29 (mp_z_bit ⟨by omega, by omega⟩) ?_
        refine mp_goto (tgt := 34) dX12_seenOf_30 rfl ?_
        refine mp_ior (z := mp_or u (mp_bit k)) dX12_seenOf_34 (mp_z_or (by first | omega | exact mp_bit_nn _ | exact mp_or_nn _ _ | exact mp_and_nn _ _ | exact mp_shr_nn _ _) (by first | omega | exact mp_bit_nn _ | exact mp_or_nn _ _ | exact mp_and_nn _ _ | exact mp_shr_nn _ _)) ?_
        refine mp_istore_n (L' := [some (Value.ref 44), some (mp_i c), some (mp_i (mp_or u (mp_bit k))), some (mp_i k)]) dX12_seenOf_35 rfl (by decide) rfl ?_
        refine mp_iinc (z := k + 1) (L' := [some (Value.ref 44), some (mp_i c), some (mp_i (mp_or u (mp_bit k))), some (mp_i (k + 1))]) dX12_seenOf_36 rfl (rfl) (by decide) rfl ?_
        refine mp_goto (tgt := 4) dX12_seenOf_39 rfl ?_
        refine mp_loc (j := 2) (y := sp_ofStep s c k u) (by unfold sp_ofStep; first | (rw [if_pos (by omega)]; done) | (rw [if_neg (by omega)]; done)) rfl (L' := [some (Value.ref 44), some (mp_i c), some (mp_i (sp_ofStep s c k u)), some (mp_i (k + 1))]) rfl ?_
        exact ih (k + 1) (sp_ofStep s c k u) (⟨by omega, mp_ofStep_bd (by omega) hi.2⟩) hk
theorem zX12_seenOf {s m img was num pro ask kp kk kf so sz el : Int → Int} {im pl ra re rm rf sd th : Int} {A B : mp_H}  {c : Int} (hA : A.length = 44) (hs : mp_sky s) (h_c : 0 ≤ c ∧ c ≤ 15) : mp_Call (mX12_seenOf, 3, 0, 0) [Value.ref 44, mp_i c] (A ++ (mp_ms s m img was num pro ask kp kk kf so sz el im pl ra re rm rf sd th ++ B)) (some (mp_i (sp_seenOf s c)), A ++ (mp_ms s m img was num pro ask kp kk kf so sz el im pl ra re rm rf sd th ++ B)) := by
  refine mp_Call.of (L := [some (Value.ref 44), some (mp_i c), none, none]) pnX12 (Nat.le_of_ble_eq_true rfl) rfl ?_
  have h0 := hs.1
  refine mp_iconst dX12_seenOf_0 ?_
  refine mp_istore_n (L' := [some (Value.ref 44), some (mp_i c), some (mp_i 0), none]) dX12_seenOf_1 rfl (by decide) rfl ?_
  refine mp_iconst dX12_seenOf_2 ?_
  refine mp_istore_n (L' := [some (Value.ref 44), some (mp_i c), some (mp_i 0), some (mp_i 0)]) dX12_seenOf_3 rfl (by decide) rfl ?_
  refine lX12_seenOf_4 (c := c)  (by first | with_reducible assumption | omega) (by first | with_reducible assumption | omega) (by first | with_reducible assumption | omega) ((s 0).toNat) 0 0 (by omega) ?_
  refine mp_iload_n dX12_seenOf_42 rfl ?_
  exact mp_ireturn (st := []) dX12_seenOf_43 rfl ⟨by decide, by decide⟩ ((mp_ans (by first | with_reducible rfl | omega | rfl)))
theorem lX12_roofs_4 {s m img was num pro ask kp kk kf so sz el : Int → Int} {im pl ra re rm rf sd th : Int} {A B : mp_H}  (hA : A.length = 44) (hs : mp_sky s) {R9 : mp_An} : ∀ (n : Nat) (k : Int) (u : Int), ((0 ≤ k ∧ k + (n : Nat) = s 0) ∧ 0 ≤ u ∧ u < 256) → mp_At (mX12_roofs, 4, 0, 0) (0, 0) 41 [some (Value.ref 44), some (mp_i (mp_fold (sp_wantStep s) n k u)), none, none, none, none, none] [] (A ++ (mp_ms s m img was num pro ask kp kk kf so sz el im pl ra re rm rf sd th ++ B)) R9 → mp_At (mX12_roofs, 4, 0, 0) (0, 0) 4 [some (Value.ref 44), some (mp_i u), some (mp_i k), none, none, none, none] [] (A ++ (mp_ms s m img was num pro ask kp kk kf so sz el im pl ra re rm rf sd th ++ B)) R9 := by
  intro n
  induction n with
  | zero =>
    intro k u hi hk
    have h0 := hs.1
    refine mp_iload_n dX12_roofs_4 rfl ?_
    refine mp_aload_n dX12_roofs_5 rfl ?_
    refine mp_getfield dX12_roofs_6 fsX12_9_11 (mp_lk hA 0 rfl) rfl ?_
    refine mp_iconst dX12_roofs_9 ?_
    refine mp_iald dX12_roofs_10 (mp_lk hA 1 rfl) ⟨by omega, by omega⟩ (by omega) ?_
    refine mp_icmp_ge (tgt := 41) dX12_roofs_11 rfl ⟨by omega, by omega⟩ ⟨by omega, by omega⟩ (fun h1 => ?_) (fun h1 => ?_)
    · refine mp_drop (L' := [some (Value.ref 44), some (mp_i u), none, none, none, none, none]) [true, true, false, false, false, false, false] rfl ?_
      exact hk
    · exfalso; omega
  | succ n ih =>
    intro k u hi hk
    have h0 := hs.1
    have hm := hs.2.1 k (by omega) (by omega)
    have hbr := mp_bright_bd (kind := s (1 + 6 * k + 0)) (f := s (1 + 6 * k + 1)) (by omega)
    refine mp_iload_n dX12_roofs_4 rfl ?_
    refine mp_aload_n dX12_roofs_5 rfl ?_
    refine mp_getfield dX12_roofs_6 fsX12_9_11 (mp_lk hA 0 rfl) rfl ?_
    refine mp_iconst dX12_roofs_9 ?_
    refine mp_iald dX12_roofs_10 (mp_lk hA 1 rfl) ⟨by omega, by omega⟩ (by omega) ?_
    refine mp_icmp_ge (tgt := 41) dX12_roofs_11 rfl ⟨by omega, by omega⟩ ⟨by omega, by omega⟩ (fun h1 => ?_) (fun h1 => ?_)
    · exfalso; omega
    · refine mp_iload_n dX12_roofs_14 rfl ?_
      refine mp_aload_n dX12_roofs_15 rfl ?_
      refine mp_getfield dX12_roofs_16 fsX12_9_11 (mp_lk hA 0 rfl) rfl ?_
      refine mp_iload_n dX12_roofs_19 rfl ?_
      refine mp_invS (z := (mX12_brightOf, 1, 0, 0)) (K' := (0, 0)) (σ1 := A ++ (mp_ms s m img was num pro ask kp kk kf so sz el im pl ra re rm rf sd th ++ B)) (as := [Value.ref 45, mp_i k]) (st := [mp_i u]) (st1 := [mp_i (sp_bright (s (1 + 6 * k + 0)) (s (1 + 6 * k + 1))), mp_i u]) dX12_roofs_20 ssX12_83 (zX12_brightOf (r := 45) (k := k) (s := s) (mp_lk hA 1 rfl) (by first | with_reducible assumption | omega) (by first | with_reducible assumption | omega)) ⟨Nat.le_of_ble_eq_true rfl, Nat.le_of_ble_eq_true rfl, Nat.le_of_ble_eq_true rfl, Nat.le_of_ble_eq_true rfl, Nat.le_of_ble_eq_true rfl⟩ rfl rfl rfl rfl ?_
      refine mp_if_lt (tgt := 32) dX12_roofs_23 rfl ⟨by omega, by omega⟩ (fun h2 => ?_) (fun h2 => ?_)
      · refine mp_iconst dX12_roofs_32 ?_
        refine mp_ior (z := u) dX12_roofs_33 (by rw [mp_z_or (by omega) (by omega), mp_or_0 (by omega)]) ?_
        refine mp_istore_n (L' := [some (Value.ref 44), some (mp_i u), some (mp_i k), none, none, none, none]) dX12_roofs_34 rfl (by decide) rfl ?_
        refine mp_iinc (z := k + 1) (L' := [some (Value.ref 44), some (mp_i u), some (mp_i (k + 1)), none, none, none, none]) dX12_roofs_35 rfl (rfl) (by decide) rfl ?_
        refine mp_goto (tgt := 4) dX12_roofs_38 rfl ?_
        refine mp_loc (j := 1) (y := sp_wantStep s k u) (by unfold sp_wantStep; first | (rw [if_pos (by omega)]; done) | (rw [if_neg (by omega)]; done)) rfl (L' := [some (Value.ref 44), some (mp_i (sp_wantStep s k u)), some (mp_i (k + 1)), none, none, none, none]) rfl ?_
        exact ih (k + 1) (sp_wantStep s k u) (⟨by omega, mp_wantStep_bd (by omega) hi.2⟩) hk
      · refine mp_iconst dX12_roofs_26 ?_
        refine mp_iload_n dX12_roofs_27 rfl ?_
        refine mp_ishl (z := mp_bit k) dX12_roofs_28 (mp_z_bit ⟨by omega, by omega⟩) ?_
        refine mp_goto (tgt := 33) dX12_roofs_29 rfl ?_
        refine mp_ior (z := mp_or u (mp_bit k)) dX12_roofs_33 (mp_z_or (by first | omega | exact mp_bit_nn _ | exact mp_or_nn _ _ | exact mp_and_nn _ _ | exact mp_shr_nn _ _) (by first | omega | exact mp_bit_nn _ | exact mp_or_nn _ _ | exact mp_and_nn _ _ | exact mp_shr_nn _ _)) ?_
        refine mp_istore_n (L' := [some (Value.ref 44), some (mp_i (mp_or u (mp_bit k))), some (mp_i k), none, none, none, none]) dX12_roofs_34 rfl (by decide) rfl ?_
        refine mp_iinc (z := k + 1) (L' := [some (Value.ref 44), some (mp_i (mp_or u (mp_bit k))), some (mp_i (k + 1)), none, none, none, none]) dX12_roofs_35 rfl (rfl) (by decide) rfl ?_
        refine mp_goto (tgt := 4) dX12_roofs_38 rfl ?_
        refine mp_loc (j := 1) (y := sp_wantStep s k u) (by unfold sp_wantStep; first | (rw [if_pos (by omega)]; done) | (rw [if_neg (by omega)]; done)) rfl (L' := [some (Value.ref 44), some (mp_i (sp_wantStep s k u)), some (mp_i (k + 1)), none, none, none, none]) rfl ?_
        exact ih (k + 1) (sp_wantStep s k u) (⟨by omega, mp_wantStep_bd (by omega) hi.2⟩) hk
theorem lX12_roofs_86 {s m img was num pro ask kp kk kf so sz el : Int → Int} {im pl ra re rm rf sd th : Int} {A B : mp_H}  (hA : A.length = 44) (hs : mp_sky s) {R9 : mp_An} : ∀ (n : Nat) (c : Int) (u : Int) (g : Int) (f : Int) (e : Int), ((0 ≤ c ∧ c + (n : Nat) = 16) ∧ (0 ≤ u ∧ u < 256) ∧ (0 ≤ e ∧ e < 65536)) → mp_At (mX12_roofs, 4, 0, 0) (0, 0) 124 [some (Value.ref 44), some (mp_i g), some (mp_i f), some (mp_i e), none, some (mp_i (mp_fold (sp_covStep s e) n c u)), none] [] (A ++ (mp_ms s m img was num pro ask kp kk kf so sz el im pl ra re rm rf sd th ++ B)) R9 → mp_At (mX12_roofs, 4, 0, 0) (0, 0) 86 [some (Value.ref 44), some (mp_i g), some (mp_i f), some (mp_i e), none, some (mp_i u), some (mp_i c)] [] (A ++ (mp_ms s m img was num pro ask kp kk kf so sz el im pl ra re rm rf sd th ++ B)) R9 := by
  intro n
  induction n with
  | zero =>
    intro c u g f e hi hk
    refine mp_iload dX12_roofs_86 rfl ?_
    refine mp_bipush dX12_roofs_88 rfl ?_
    refine mp_icmp_ge (tgt := 124) dX12_roofs_90 rfl ⟨by omega, by omega⟩ ⟨by omega, by omega⟩ (fun h1 => ?_) (fun h1 => ?_)
    · refine mp_drop (L' := [some (Value.ref 44), some (mp_i g), some (mp_i f), some (mp_i e), none, some (mp_i u), none]) [true, true, true, true, false, true, false] rfl ?_
      exact hk
    · exfalso; omega
  | succ n ih =>
    intro c u g f e hi hk
    have hbb := mp_b_bd e c
    refine mp_iload dX12_roofs_86 rfl ?_
    refine mp_bipush dX12_roofs_88 rfl ?_
    refine mp_icmp_ge (tgt := 124) dX12_roofs_90 rfl ⟨by omega, by omega⟩ ⟨by omega, by omega⟩ (fun h1 => ?_) (fun h1 => ?_)
    · exfalso; omega
    · refine mp_iload dX12_roofs_93 rfl ?_
      refine mp_iload_n dX12_roofs_95 rfl ?_
      refine mp_iload dX12_roofs_96 rfl ?_
      refine mp_ishr (z := mp_shr e c) dX12_roofs_98 (mp_z_shr ⟨by omega, by omega⟩ ⟨by omega, by omega⟩) ?_
      refine mp_iconst dX12_roofs_99 ?_
      refine mp_iand (z := sp_b e c) dX12_roofs_100 (mp_z_b _ _) ?_
      refine mp_iconst dX12_roofs_101 ?_
      refine mp_icmp_ne (tgt := 114) dX12_roofs_102 rfl ⟨by omega, by omega⟩ ⟨by omega, by omega⟩ (fun h2 => ?_) (fun h2 => ?_)
      · refine mp_iconst dX12_roofs_114 ?_
        refine mp_ior (z := u) dX12_roofs_115 (by rw [mp_z_or (by omega) (by omega), mp_or_0 (by omega)]) ?_
        refine mp_istore (L' := [some (Value.ref 44), some (mp_i g), some (mp_i f), some (mp_i e), none, some (mp_i u), some (mp_i c)]) dX12_roofs_116 (by decide) rfl ?_
        refine mp_iinc (z := c + 1) (L' := [some (Value.ref 44), some (mp_i g), some (mp_i f), some (mp_i e), none, some (mp_i u), some (mp_i (c + 1))]) dX12_roofs_118 rfl (rfl) (by decide) rfl ?_
        refine mp_goto (tgt := 86) dX12_roofs_121 rfl ?_
        refine mp_loc (j := 5) (y := sp_covStep s e c u) (by unfold sp_covStep; first | (rw [if_pos (by omega)]; done) | (rw [if_neg (by omega)]; done)) rfl (L' := [some (Value.ref 44), some (mp_i g), some (mp_i f), some (mp_i e), none, some (mp_i (sp_covStep s e c u)), some (mp_i (c + 1))]) rfl ?_
        exact ih (c + 1) (sp_covStep s e c u) g f e (⟨by omega, mp_covStep_bd hs hi.2.1, hi.2.2⟩) hk
      · refine mp_aload_n dX12_roofs_105 rfl ?_
        refine mp_iload dX12_roofs_106 rfl ?_
        refine mp_invV (z := (mX12_seenOf, 3, 0, 0)) (K' := (0, 0)) (σ1 := A ++ (mp_ms s m img was num pro ask kp kk kf so sz el im pl ra re rm rf sd th ++ B)) (as := [mp_i c]) (st := [mp_i u]) (st1 := [mp_i (sp_seenOf s c), mp_i u]) dX12_roofs_108 svX12_182 (mp_lk hA 0 rfl) rfl rfl (zX12_seenOf (c := c) (s := s) (m := m) (img := img) (was := was) (num := num) (pro := pro) (ask := ask) (kp := kp) (kk := kk) (kf := kf) (so := so) (sz := sz) (el := el) (im := im) (pl := pl) (ra := ra) (re := re) (rm := rm) (rf := rf) (sd := sd) (th := th) (by first | with_reducible assumption | omega) (by first | with_reducible assumption | omega) (by first | with_reducible assumption | omega)) ⟨Nat.le_of_ble_eq_true rfl, Nat.le_of_ble_eq_true rfl, Nat.le_of_ble_eq_true rfl, Nat.le_of_ble_eq_true rfl, Nat.le_of_ble_eq_true rfl⟩ rfl rfl rfl rfl ?_
        have b3 := mp_seenOf_bd hs c
        refine mp_goto (tgt := 115) dX12_roofs_111 rfl ?_
        refine mp_ior (z := mp_or u (sp_seenOf s c)) dX12_roofs_115 (mp_z_or (by first | omega | exact mp_bit_nn _ | exact mp_or_nn _ _ | exact mp_and_nn _ _ | exact mp_shr_nn _ _) (by first | omega | exact mp_bit_nn _ | exact mp_or_nn _ _ | exact mp_and_nn _ _ | exact mp_shr_nn _ _)) ?_
        refine mp_istore (L' := [some (Value.ref 44), some (mp_i g), some (mp_i f), some (mp_i e), none, some (mp_i (mp_or u (sp_seenOf s c))), some (mp_i c)]) dX12_roofs_116 (by decide) rfl ?_
        refine mp_iinc (z := c + 1) (L' := [some (Value.ref 44), some (mp_i g), some (mp_i f), some (mp_i e), none, some (mp_i (mp_or u (sp_seenOf s c))), some (mp_i (c + 1))]) dX12_roofs_118 rfl (rfl) (by decide) rfl ?_
        refine mp_goto (tgt := 86) dX12_roofs_121 rfl ?_
        refine mp_loc (j := 5) (y := sp_covStep s e c u) (by unfold sp_covStep; first | (rw [if_pos (by omega)]; done) | (rw [if_neg (by omega)]; done)) rfl (L' := [some (Value.ref 44), some (mp_i g), some (mp_i f), some (mp_i e), none, some (mp_i (sp_covStep s e c u)), some (mp_i (c + 1))]) rfl ?_
        exact ih (c + 1) (sp_covStep s e c u) g f e (⟨by omega, mp_covStep_bd hs hi.2.1, hi.2.2⟩) hk
theorem lX12_roofs_46 {s m img was num pro ask kp kk kf so sz el : Int → Int} {im pl ra re rm rf sd th : Int} {A B : mp_H}  (hA : A.length = 44) (hs : mp_sky s) {R9 : mp_An} : ∀ (n : Nat) (e : Int) (f : Int), ((0 ≤ e ∧ e + (n : Nat) = 65536) ∧ (-4 ≤ f ∧ f < 65536)) → mp_At (mX12_roofs, 4, 0, 0) (0, 0) 141 [some (Value.ref 44), some (mp_i (sp_want s)), some (mp_i (mp_fold (sp_roofStep s) n e f)), none, none, none, none] [] (A ++ (mp_ms s m img was num pro ask kp kk kf so sz el im pl ra re rm rf sd th ++ B)) R9 → mp_At (mX12_roofs, 4, 0, 0) (0, 0) 46 [some (Value.ref 44), some (mp_i (sp_want s)), some (mp_i f), some (mp_i e), none, none, none] [] (A ++ (mp_ms s m img was num pro ask kp kk kf so sz el im pl ra re rm rf sd th ++ B)) R9 := by
  intro n
  induction n with
  | zero =>
    intro e f hi hk
    refine mp_iload_n dX12_roofs_46 rfl ?_
    refine mp_ldc (z := 65536) dX12_roofs_47 kcX12_181 rfl ?_
    refine mp_icmp_ge (tgt := 141) dX12_roofs_49 rfl ⟨by omega, by omega⟩ ⟨by omega, by omega⟩ (fun h1 => ?_) (fun h1 => ?_)
    · refine mp_drop (L' := [some (Value.ref 44), some (mp_i (sp_want s)), some (mp_i f), none, none, none, none]) [true, true, true, false, false, false, false] rfl ?_
      exact hk
    · exfalso; omega
  | succ n ih =>
    intro e f hi hk
    have hbe := mp_bits_bd e
    have hbf := mp_bits_bd f
    have hcb := mp_cov_bd hs e
    have hwb := mp_want_bd hs
    have hdn := mp_dif_nn (sp_want s) (sp_cov s e)
    have hdl := mp_dif_lt (a := sp_want s) (b := sp_cov s e) (n := 8) hwb.2
    refine mp_iload_n dX12_roofs_46 rfl ?_
    refine mp_ldc (z := 65536) dX12_roofs_47 kcX12_181 rfl ?_
    refine mp_icmp_ge (tgt := 141) dX12_roofs_49 rfl ⟨by omega, by omega⟩ ⟨by omega, by omega⟩ (fun h1 => ?_) (fun h1 => ?_)
    · exfalso; omega
    · refine mp_iload_n dX12_roofs_52 rfl ?_
      refine mp_invS (z := (mX12_bits, 0, 0, 0)) (K' := (0, 0)) (σ1 := A ++ (mp_ms s m img was num pro ask kp kk kf so sz el im pl ra re rm rf sd th ++ B)) (as := [mp_i e]) (st := []) (st1 := [mp_i (sp_bits e)]) dX12_roofs_53 ssX12_178 (zX12_bits (v := e)  (by first | with_reducible assumption | omega)) ⟨Nat.le_of_ble_eq_true rfl, Nat.le_of_ble_eq_true rfl, Nat.le_of_ble_eq_true rfl, Nat.le_of_ble_eq_true rfl, Nat.le_of_ble_eq_true rfl⟩ rfl rfl rfl rfl ?_
      refine mp_istore (L' := [some (Value.ref 44), some (mp_i (sp_want s)), some (mp_i f), some (mp_i e), some (mp_i (sp_bits e)), none, none]) dX12_roofs_56 (by decide) rfl ?_
      refine mp_iload dX12_roofs_58 rfl ?_
      refine mp_iconst dX12_roofs_60 ?_
      refine mp_icmp_gt (tgt := 135) dX12_roofs_61 rfl ⟨by omega, by omega⟩ ⟨by omega, by omega⟩ (fun h2 => ?_) (fun h2 => ?_)
      · refine mp_iinc (z := e + 1) (L' := [some (Value.ref 44), some (mp_i (sp_want s)), some (mp_i f), some (mp_i (e + 1)), some (mp_i (sp_bits e)), none, none]) dX12_roofs_135 rfl (rfl) (by decide) rfl ?_
        refine mp_goto (tgt := 46) dX12_roofs_138 rfl ?_
        refine mp_loc (j := 2) (y := sp_roofStep s e f) (by unfold sp_roofStep; first | (rw [if_pos (by omega)]; done) | (rw [if_neg (by omega), if_pos (by omega)]; done) | (rw [if_neg (by omega), if_neg (by omega)]; done)) rfl (L' := [some (Value.ref 44), some (mp_i (sp_want s)), some (mp_i (sp_roofStep s e f)), some (mp_i (e + 1)), some (mp_i (sp_bits e)), none, none]) rfl ?_
        refine mp_drop (L' := [some (Value.ref 44), some (mp_i (sp_want s)), some (mp_i (sp_roofStep s e f)), some (mp_i (e + 1)), none, none, none]) [true, true, true, true, false, false, false] rfl ?_
        exact ih (e + 1) (sp_roofStep s e f) ⟨by omega, by unfold sp_roofStep; split <;> (try split) <;> omega⟩ hk
      · refine mp_iload_n dX12_roofs_64 rfl ?_
        refine mp_if_lt (tgt := 80) dX12_roofs_65 rfl ⟨by omega, by omega⟩ (fun h3 => ?_) (fun h3 => ?_)
        · refine mp_iconst dX12_roofs_80 ?_
          refine mp_istore (L' := [some (Value.ref 44), some (mp_i (sp_want s)), some (mp_i f), some (mp_i e), some (mp_i (sp_bits e)), some (mp_i 0), none]) dX12_roofs_81 (by decide) rfl ?_
          refine mp_iconst dX12_roofs_83 ?_
          refine mp_istore (L' := [some (Value.ref 44), some (mp_i (sp_want s)), some (mp_i f), some (mp_i e), some (mp_i (sp_bits e)), some (mp_i 0), some (mp_i 0)]) dX12_roofs_84 (by decide) rfl ?_
          refine mp_drop (L' := [some (Value.ref 44), some (mp_i (sp_want s)), some (mp_i f), some (mp_i e), none, some (mp_i 0), some (mp_i 0)]) [true, true, true, true, false, true, true] rfl ?_
          refine lX12_roofs_86   (by first | with_reducible assumption | omega) (by first | with_reducible assumption | omega) 16 0 0 (sp_want s) f e (by omega) ?_
          refine mp_loc (j := 5) (y := sp_cov s e) rfl rfl (L' := [some (Value.ref 44), some (mp_i (sp_want s)), some (mp_i f), some (mp_i e), none, some (mp_i (sp_cov s e)), none]) rfl ?_
          refine mp_iload_n dX12_roofs_124 rfl ?_
          refine mp_iload dX12_roofs_125 rfl ?_
          refine mp_iconst dX12_roofs_127 ?_
          refine mp_ixor (z := -1 - (sp_cov s e)) dX12_roofs_128 (mp_z_not _) ?_
          refine mp_iand (z := mp_dif (sp_want s) (sp_cov s e)) dX12_roofs_129 (mp_z_dif (by first | omega | exact mp_bit_nn _ | exact mp_or_nn _ _) (by first | omega | exact mp_bit_nn _ | exact mp_or_nn _ _)) ?_
          refine mp_if_ne (tgt := 135) dX12_roofs_130 rfl ⟨by omega, by omega⟩ (fun h4 => ?_) (fun h4 => ?_)
          · refine mp_iinc (z := e + 1) (L' := [some (Value.ref 44), some (mp_i (sp_want s)), some (mp_i f), some (mp_i (e + 1)), none, some (mp_i (sp_cov s e)), none]) dX12_roofs_135 rfl (rfl) (by decide) rfl ?_
            refine mp_goto (tgt := 46) dX12_roofs_138 rfl ?_
            refine mp_loc (j := 2) (y := sp_roofStep s e f) (by unfold sp_roofStep; first | (rw [if_pos (by omega)]; done) | (rw [if_neg (by omega), if_pos (by omega)]; done) | (rw [if_neg (by omega), if_neg (by omega)]; done)) rfl (L' := [some (Value.ref 44), some (mp_i (sp_want s)), some (mp_i (sp_roofStep s e f)), some (mp_i (e + 1)), none, some (mp_i (sp_cov s e)), none]) rfl ?_
            refine mp_drop (L' := [some (Value.ref 44), some (mp_i (sp_want s)), some (mp_i (sp_roofStep s e f)), some (mp_i (e + 1)), none, none, none]) [true, true, true, true, false, false, false] rfl ?_
            exact ih (e + 1) (sp_roofStep s e f) ⟨by omega, by unfold sp_roofStep; split <;> (try split) <;> omega⟩ hk
          · refine mp_iload_n dX12_roofs_133 rfl ?_
            refine mp_istore_n (L' := [some (Value.ref 44), some (mp_i (sp_want s)), some (mp_i e), some (mp_i e), none, some (mp_i (sp_cov s e)), none]) dX12_roofs_134 rfl (by decide) rfl ?_
            refine mp_iinc (z := e + 1) (L' := [some (Value.ref 44), some (mp_i (sp_want s)), some (mp_i e), some (mp_i (e + 1)), none, some (mp_i (sp_cov s e)), none]) dX12_roofs_135 rfl (rfl) (by decide) rfl ?_
            refine mp_goto (tgt := 46) dX12_roofs_138 rfl ?_
            refine mp_loc (j := 2) (y := sp_roofStep s e f) (by unfold sp_roofStep; first | (rw [if_pos (by omega)]; done) | (rw [if_neg (by omega), if_pos (by omega)]; done) | (rw [if_neg (by omega), if_neg (by omega)]; done)) rfl (L' := [some (Value.ref 44), some (mp_i (sp_want s)), some (mp_i (sp_roofStep s e f)), some (mp_i (e + 1)), none, some (mp_i (sp_cov s e)), none]) rfl ?_
            refine mp_drop (L' := [some (Value.ref 44), some (mp_i (sp_want s)), some (mp_i (sp_roofStep s e f)), some (mp_i (e + 1)), none, none, none]) [true, true, true, true, false, false, false] rfl ?_
            exact ih (e + 1) (sp_roofStep s e f) ⟨by omega, by unfold sp_roofStep; split <;> (try split) <;> omega⟩ hk
        · refine mp_iload dX12_roofs_68 rfl ?_
          refine mp_iload_n dX12_roofs_70 rfl ?_
          refine mp_invS (z := (mX12_bits, 0, 0, 0)) (K' := (0, 0)) (σ1 := A ++ (mp_ms s m img was num pro ask kp kk kf so sz el im pl ra re rm rf sd th ++ B)) (as := [mp_i f]) (st := [mp_i (sp_bits e)]) (st1 := [mp_i (sp_bits f), mp_i (sp_bits e)]) dX12_roofs_71 ssX12_178 (zX12_bits (v := f)  (by first | with_reducible assumption | omega)) ⟨Nat.le_of_ble_eq_true rfl, Nat.le_of_ble_eq_true rfl, Nat.le_of_ble_eq_true rfl, Nat.le_of_ble_eq_true rfl, Nat.le_of_ble_eq_true rfl⟩ rfl rfl rfl rfl ?_
          refine mp_icmp_lt (tgt := 80) dX12_roofs_74 rfl ⟨by omega, by omega⟩ ⟨by omega, by omega⟩ (fun h5 => ?_) (fun h5 => ?_)
          · refine mp_iconst dX12_roofs_80 ?_
            refine mp_istore (L' := [some (Value.ref 44), some (mp_i (sp_want s)), some (mp_i f), some (mp_i e), some (mp_i (sp_bits e)), some (mp_i 0), none]) dX12_roofs_81 (by decide) rfl ?_
            refine mp_iconst dX12_roofs_83 ?_
            refine mp_istore (L' := [some (Value.ref 44), some (mp_i (sp_want s)), some (mp_i f), some (mp_i e), some (mp_i (sp_bits e)), some (mp_i 0), some (mp_i 0)]) dX12_roofs_84 (by decide) rfl ?_
            refine mp_drop (L' := [some (Value.ref 44), some (mp_i (sp_want s)), some (mp_i f), some (mp_i e), none, some (mp_i 0), some (mp_i 0)]) [true, true, true, true, false, true, true] rfl ?_
            refine lX12_roofs_86   (by first | with_reducible assumption | omega) (by first | with_reducible assumption | omega) 16 0 0 (sp_want s) f e (by omega) ?_
            refine mp_loc (j := 5) (y := sp_cov s e) rfl rfl (L' := [some (Value.ref 44), some (mp_i (sp_want s)), some (mp_i f), some (mp_i e), none, some (mp_i (sp_cov s e)), none]) rfl ?_
            refine mp_iload_n dX12_roofs_124 rfl ?_
            refine mp_iload dX12_roofs_125 rfl ?_
            refine mp_iconst dX12_roofs_127 ?_
            refine mp_ixor (z := -1 - (sp_cov s e)) dX12_roofs_128 (mp_z_not _) ?_
            refine mp_iand (z := mp_dif (sp_want s) (sp_cov s e)) dX12_roofs_129 (mp_z_dif (by first | omega | exact mp_bit_nn _ | exact mp_or_nn _ _) (by first | omega | exact mp_bit_nn _ | exact mp_or_nn _ _)) ?_
            refine mp_if_ne (tgt := 135) dX12_roofs_130 rfl ⟨by omega, by omega⟩ (fun h6 => ?_) (fun h6 => ?_)
            · refine mp_iinc (z := e + 1) (L' := [some (Value.ref 44), some (mp_i (sp_want s)), some (mp_i f), some (mp_i (e + 1)), none, some (mp_i (sp_cov s e)), none]) dX12_roofs_135 rfl (rfl) (by decide) rfl ?_
              refine mp_goto (tgt := 46) dX12_roofs_138 rfl ?_
              refine mp_loc (j := 2) (y := sp_roofStep s e f) (by unfold sp_roofStep; first | (rw [if_pos (by omega)]; done) | (rw [if_neg (by omega), if_pos (by omega)]; done) | (rw [if_neg (by omega), if_neg (by omega)]; done)) rfl (L' := [some (Value.ref 44), some (mp_i (sp_want s)), some (mp_i (sp_roofStep s e f)), some (mp_i (e + 1)), none, some (mp_i (sp_cov s e)), none]) rfl ?_
              refine mp_drop (L' := [some (Value.ref 44), some (mp_i (sp_want s)), some (mp_i (sp_roofStep s e f)), some (mp_i (e + 1)), none, none, none]) [true, true, true, true, false, false, false] rfl ?_
              exact ih (e + 1) (sp_roofStep s e f) ⟨by omega, by unfold sp_roofStep; split <;> (try split) <;> omega⟩ hk
            · refine mp_iload_n dX12_roofs_133 rfl ?_
              refine mp_istore_n (L' := [some (Value.ref 44), some (mp_i (sp_want s)), some (mp_i e), some (mp_i e), none, some (mp_i (sp_cov s e)), none]) dX12_roofs_134 rfl (by decide) rfl ?_
              refine mp_iinc (z := e + 1) (L' := [some (Value.ref 44), some (mp_i (sp_want s)), some (mp_i e), some (mp_i (e + 1)), none, some (mp_i (sp_cov s e)), none]) dX12_roofs_135 rfl (rfl) (by decide) rfl ?_
              refine mp_goto (tgt := 46) dX12_roofs_138 rfl ?_
              refine mp_loc (j := 2) (y := sp_roofStep s e f) (by unfold sp_roofStep; first | (rw [if_pos (by omega)]; done) | (rw [if_neg (by omega), if_pos (by omega)]; done) | (rw [if_neg (by omega), if_neg (by omega)]; done)) rfl (L' := [some (Value.ref 44), some (mp_i (sp_want s)), some (mp_i (sp_roofStep s e f)), some (mp_i (e + 1)), none, some (mp_i (sp_cov s e)), none]) rfl ?_
              refine mp_drop (L' := [some (Value.ref 44), some (mp_i (sp_want s)), some (mp_i (sp_roofStep s e f)), some (mp_i (e + 1)), none, none, none]) [true, true, true, true, false, false, false] rfl ?_
              exact ih (e + 1) (sp_roofStep s e f) ⟨by omega, by unfold sp_roofStep; split <;> (try split) <;> omega⟩ hk
          · refine mp_goto (tgt := 135) dX12_roofs_77 rfl ?_
            refine mp_iinc (z := e + 1) (L' := [some (Value.ref 44), some (mp_i (sp_want s)), some (mp_i f), some (mp_i (e + 1)), some (mp_i (sp_bits e)), none, none]) dX12_roofs_135 rfl (rfl) (by decide) rfl ?_
            refine mp_goto (tgt := 46) dX12_roofs_138 rfl ?_
            refine mp_loc (j := 2) (y := sp_roofStep s e f) (by unfold sp_roofStep; first | (rw [if_pos (by omega)]; done) | (rw [if_neg (by omega), if_pos (by omega)]; done) | (rw [if_neg (by omega), if_neg (by omega)]; done)) rfl (L' := [some (Value.ref 44), some (mp_i (sp_want s)), some (mp_i (sp_roofStep s e f)), some (mp_i (e + 1)), some (mp_i (sp_bits e)), none, none]) rfl ?_
            refine mp_drop (L' := [some (Value.ref 44), some (mp_i (sp_want s)), some (mp_i (sp_roofStep s e f)), some (mp_i (e + 1)), none, none, none]) [true, true, true, true, false, false, false] rfl ?_
            exact ih (e + 1) (sp_roofStep s e f) ⟨by omega, by unfold sp_roofStep; split <;> (try split) <;> omega⟩ hk
theorem zX12_roofs {s m img was num pro ask kp kk kf so sz el : Int → Int} {im pl ra re rm rf sd th : Int} {A B : mp_H}  (hA : A.length = 44) (hs : mp_sky s) : mp_Call (mX12_roofs, 4, 0, 0) [Value.ref 44] (A ++ (mp_ms s m img was num pro ask kp kk kf so sz el im pl ra re rm rf sd th ++ B)) (some (mp_i (sp_roofs s)), A ++ (mp_ms s m img was num pro ask kp kk kf so sz el im pl ra re rm rf sd th ++ B)) := by
  refine mp_Call.of (L := [some (Value.ref 44), none, none, none, none, none, none]) pnX12 (Nat.le_of_ble_eq_true rfl) rfl ?_
  have h0 := hs.1
  refine mp_iconst dX12_roofs_0 ?_
  refine mp_istore_n (L' := [some (Value.ref 44), some (mp_i 0), none, none, none, none, none]) dX12_roofs_1 rfl (by decide) rfl ?_
  refine mp_iconst dX12_roofs_2 ?_
  refine mp_istore_n (L' := [some (Value.ref 44), some (mp_i 0), some (mp_i 0), none, none, none, none]) dX12_roofs_3 rfl (by decide) rfl ?_
  refine lX12_roofs_4   (by first | with_reducible assumption | omega) (by first | with_reducible assumption | omega) ((s 0).toNat) 0 0 (by omega) ?_
  refine mp_bipush dX12_roofs_41 rfl ?_
  refine mp_istore_n (L' := [some (Value.ref 44), some (mp_i (mp_fold (sp_wantStep s) ((s 0).toNat) 0 0)), some (mp_i (-4)), none, none, none, none]) dX12_roofs_43 rfl (by decide) rfl ?_
  refine mp_iconst dX12_roofs_44 ?_
  refine mp_istore_n (L' := [some (Value.ref 44), some (mp_i (mp_fold (sp_wantStep s) ((s 0).toNat) 0 0)), some (mp_i (-4)), some (mp_i 0), none, none, none]) dX12_roofs_45 rfl (by decide) rfl ?_
  refine mp_loc (j := 1) (y := sp_want s) rfl rfl (L' := [some (Value.ref 44), some (mp_i (sp_want s)), some (mp_i (-4)), some (mp_i 0), none, none, none]) rfl ?_
  refine lX12_roofs_46 hA hs 65536 0 (-4) ⟨by omega, by omega⟩ ?_
  refine mp_loc (j := 2) (y := sp_roofs s) (by unfold sp_roofs; with_reducible rfl) rfl (L' := [some (Value.ref 44), some (mp_i (sp_want s)), some (mp_i (sp_roofs s)), none, none, none, none]) rfl ?_
  refine mp_iload_n dX12_roofs_141 rfl ?_
  exact mp_ireturn (st := []) dX12_roofs_142 rfl ⟨by decide, by decide⟩ ((mp_ans (by with_reducible rfl)))
theorem zX12_isRather {s m img was num pro ask kp kk kf so sz el : Int → Int} {im pl ra re rm rf sd th : Int} {A B : mp_H}  {k : Int} {a : Int} {b : Int} (hA : A.length = 44) (hs : mp_sky s) (h_k : 0 ≤ k ∧ k < s 0) (h_a : 0 ≤ a ∧ a ≤ 4) (h_b : 0 ≤ b ∧ b ≤ 4) : mp_Call (mX12_isRather, 1, 0, 0) [Value.ref 44, mp_i k, mp_i a, mp_i b] (A ++ (mp_ms s m img was num pro ask kp kk kf so sz el im pl ra re rm rf sd th ++ B)) (some (mp_i (sp_rather s k a b)), A ++ (mp_ms s m img was num pro ask kp kk kf so sz el im pl ra re rm rf sd th ++ B)) := by
  refine mp_Call.of (L := [some (Value.ref 44), some (mp_i k), some (mp_i a), some (mp_i b)]) pnX12 (Nat.le_of_ble_eq_true rfl) rfl ?_
  have h0 := hs.1
  have hm := hs.2.1 k (by omega) (by omega)
  have hla := hs.2.2.1 a (by omega) (by omega)
  have hlb := hs.2.2.1 b (by omega) (by omega)
  refine mp_aload_n dX12_isRather_0 rfl ?_
  refine mp_getfield dX12_isRather_1 fsX12_9_11 (mp_lk hA 0 rfl) rfl ?_
  refine mp_iload_n dX12_isRather_4 rfl ?_
  refine mp_iconst dX12_isRather_5 ?_
  refine mp_invS (z := (mX12_of, 0, 0, 0)) (K' := (0, 0)) (σ1 := A ++ (mp_ms s m img was num pro ask kp kk kf so sz el im pl ra re rm rf sd th ++ B)) (as := [mp_i k, mp_i 5]) (st := [Value.ref 45]) (st1 := [mp_i (1 + 6 * k + 5), Value.ref 45]) dX12_isRather_6 ssX12_60 (zX12_of (k := k) (x := 5)  ) ⟨Nat.le_of_ble_eq_true rfl, Nat.le_of_ble_eq_true rfl, Nat.le_of_ble_eq_true rfl, Nat.le_of_ble_eq_true rfl, Nat.le_of_ble_eq_true rfl⟩ rfl rfl rfl rfl ?_
  refine mp_iald dX12_isRather_9 (mp_lk hA 1 rfl) ⟨by omega, by omega⟩ (by omega) ?_
  refine mp_iload_n dX12_isRather_10 rfl ?_
  refine mp_icmp_ne (tgt := 18) dX12_isRather_11 rfl ⟨by omega, by omega⟩ ⟨by omega, by omega⟩ (fun h1 => ?_) (fun h1 => ?_)
  · refine mp_iconst dX12_isRather_18 ?_
    refine mp_aload_n dX12_isRather_19 rfl ?_
    refine mp_getfield dX12_isRather_20 fsX12_9_11 (mp_lk hA 0 rfl) rfl ?_
    refine mp_iload_n dX12_isRather_23 rfl ?_
    refine mp_iconst dX12_isRather_24 ?_
    refine mp_invS (z := (mX12_of, 0, 0, 0)) (K' := (0, 0)) (σ1 := A ++ (mp_ms s m img was num pro ask kp kk kf so sz el im pl ra re rm rf sd th ++ B)) (as := [mp_i k, mp_i 5]) (st := [Value.ref 45, mp_i 0]) (st1 := [mp_i (1 + 6 * k + 5), Value.ref 45, mp_i 0]) dX12_isRather_25 ssX12_60 (zX12_of (k := k) (x := 5)  ) ⟨Nat.le_of_ble_eq_true rfl, Nat.le_of_ble_eq_true rfl, Nat.le_of_ble_eq_true rfl, Nat.le_of_ble_eq_true rfl, Nat.le_of_ble_eq_true rfl⟩ rfl rfl rfl rfl ?_
    refine mp_iald dX12_isRather_28 (mp_lk hA 1 rfl) ⟨by omega, by omega⟩ (by omega) ?_
    refine mp_iload_n dX12_isRather_29 rfl ?_
    refine mp_icmp_ne (tgt := 37) dX12_isRather_30 rfl ⟨by omega, by omega⟩ ⟨by omega, by omega⟩ (fun h2 => ?_) (fun h2 => ?_)
    · refine mp_iconst dX12_isRather_37 ?_
      refine mp_icmp_eq (tgt := 61) dX12_isRather_38 rfl ⟨by decide, by decide⟩ ⟨by decide, by decide⟩ (fun _ => ?_) (fun h3 => absurd h3 (by decide))
      refine mp_aload_n dX12_isRather_61 rfl ?_
      refine mp_getfield dX12_isRather_62 fsX12_9_11 (mp_lk hA 0 rfl) rfl ?_
      refine mp_iload_n dX12_isRather_65 rfl ?_
      refine mp_iconst dX12_isRather_66 ?_
      refine mp_invS (z := (mX12_by, 0, 0, 0)) (K' := (0, 0)) (σ1 := A ++ (mp_ms s m img was num pro ask kp kk kf so sz el im pl ra re rm rf sd th ++ B)) (as := [mp_i a, mp_i 1]) (st := [Value.ref 45]) (st1 := [mp_i (49 + 3 * a + 1), Value.ref 45]) dX12_isRather_67 ssX12_49 (zX12_by (l := a) (x := 1)  ) ⟨Nat.le_of_ble_eq_true rfl, Nat.le_of_ble_eq_true rfl, Nat.le_of_ble_eq_true rfl, Nat.le_of_ble_eq_true rfl, Nat.le_of_ble_eq_true rfl⟩ rfl rfl rfl rfl ?_
      refine mp_iald dX12_isRather_70 (mp_lk hA 1 rfl) ⟨by omega, by omega⟩ (by omega) ?_
      refine mp_aload_n dX12_isRather_71 rfl ?_
      refine mp_getfield dX12_isRather_72 fsX12_9_11 (mp_lk hA 0 rfl) rfl ?_
      refine mp_iload_n dX12_isRather_75 rfl ?_
      refine mp_iconst dX12_isRather_76 ?_
      refine mp_invS (z := (mX12_by, 0, 0, 0)) (K' := (0, 0)) (σ1 := A ++ (mp_ms s m img was num pro ask kp kk kf so sz el im pl ra re rm rf sd th ++ B)) (as := [mp_i b, mp_i 1]) (st := [Value.ref 45, mp_i (s (49 + 3 * a + 1))]) (st1 := [mp_i (49 + 3 * b + 1), Value.ref 45, mp_i (s (49 + 3 * a + 1))]) dX12_isRather_77 ssX12_49 (zX12_by (l := b) (x := 1)  ) ⟨Nat.le_of_ble_eq_true rfl, Nat.le_of_ble_eq_true rfl, Nat.le_of_ble_eq_true rfl, Nat.le_of_ble_eq_true rfl, Nat.le_of_ble_eq_true rfl⟩ rfl rfl rfl rfl ?_
      refine mp_iald dX12_isRather_80 (mp_lk hA 1 rfl) ⟨by omega, by omega⟩ (by omega) ?_
      refine mp_icmp_eq (tgt := 115) dX12_isRather_81 rfl ⟨by omega, by omega⟩ ⟨by omega, by omega⟩ (fun h4 => ?_) (fun h4 => ?_)
      · refine mp_iload_n dX12_isRather_115 rfl ?_
        refine mp_iload_n dX12_isRather_116 rfl ?_
        refine mp_icmp_ge (tgt := 124) dX12_isRather_117 rfl ⟨by omega, by omega⟩ ⟨by omega, by omega⟩ (fun h5 => ?_) (fun h5 => ?_)
        · refine mp_iconst dX12_isRather_124 ?_
          exact mp_zreturn (st := []) dX12_isRather_125 rfl rfl ⟨by decide, by decide⟩ ((mp_ans (by unfold sp_rather; omega)))
        · refine mp_iconst dX12_isRather_120 ?_
          refine mp_goto (tgt := 125) dX12_isRather_121 rfl ?_
          exact mp_zreturn (st := []) dX12_isRather_125 rfl rfl ⟨by decide, by decide⟩ ((mp_ans (by unfold sp_rather; omega)))
      · refine mp_aload_n dX12_isRather_84 rfl ?_
        refine mp_getfield dX12_isRather_85 fsX12_9_11 (mp_lk hA 0 rfl) rfl ?_
        refine mp_iload_n dX12_isRather_88 rfl ?_
        refine mp_iconst dX12_isRather_89 ?_
        refine mp_invS (z := (mX12_by, 0, 0, 0)) (K' := (0, 0)) (σ1 := A ++ (mp_ms s m img was num pro ask kp kk kf so sz el im pl ra re rm rf sd th ++ B)) (as := [mp_i a, mp_i 1]) (st := [Value.ref 45]) (st1 := [mp_i (49 + 3 * a + 1), Value.ref 45]) dX12_isRather_90 ssX12_49 (zX12_by (l := a) (x := 1)  ) ⟨Nat.le_of_ble_eq_true rfl, Nat.le_of_ble_eq_true rfl, Nat.le_of_ble_eq_true rfl, Nat.le_of_ble_eq_true rfl, Nat.le_of_ble_eq_true rfl⟩ rfl rfl rfl rfl ?_
        refine mp_iald dX12_isRather_93 (mp_lk hA 1 rfl) ⟨by omega, by omega⟩ (by omega) ?_
        refine mp_aload_n dX12_isRather_94 rfl ?_
        refine mp_getfield dX12_isRather_95 fsX12_9_11 (mp_lk hA 0 rfl) rfl ?_
        refine mp_iload_n dX12_isRather_98 rfl ?_
        refine mp_iconst dX12_isRather_99 ?_
        refine mp_invS (z := (mX12_by, 0, 0, 0)) (K' := (0, 0)) (σ1 := A ++ (mp_ms s m img was num pro ask kp kk kf so sz el im pl ra re rm rf sd th ++ B)) (as := [mp_i b, mp_i 1]) (st := [Value.ref 45, mp_i (s (49 + 3 * a + 1))]) (st1 := [mp_i (49 + 3 * b + 1), Value.ref 45, mp_i (s (49 + 3 * a + 1))]) dX12_isRather_100 ssX12_49 (zX12_by (l := b) (x := 1)  ) ⟨Nat.le_of_ble_eq_true rfl, Nat.le_of_ble_eq_true rfl, Nat.le_of_ble_eq_true rfl, Nat.le_of_ble_eq_true rfl, Nat.le_of_ble_eq_true rfl⟩ rfl rfl rfl rfl ?_
        refine mp_iald dX12_isRather_103 (mp_lk hA 1 rfl) ⟨by omega, by omega⟩ (by omega) ?_
        refine mp_icmp_le (tgt := 111) dX12_isRather_104 rfl ⟨by omega, by omega⟩ ⟨by omega, by omega⟩ (fun h6 => ?_) (fun h6 => ?_)
        · refine mp_iconst dX12_isRather_111 ?_
          refine mp_goto (tgt := 125) dX12_isRather_112 rfl ?_
          exact mp_zreturn (st := []) dX12_isRather_125 rfl rfl ⟨by decide, by decide⟩ ((mp_ans (by unfold sp_rather; omega)))
        · refine mp_iconst dX12_isRather_107 ?_
          refine mp_goto (tgt := 125) dX12_isRather_108 rfl ?_
          exact mp_zreturn (st := []) dX12_isRather_125 rfl rfl ⟨by decide, by decide⟩ ((mp_ans (by unfold sp_rather; omega)))
    · refine mp_iconst dX12_isRather_33 ?_
      refine mp_goto (tgt := 38) dX12_isRather_34 rfl ?_
      refine mp_icmp_eq (tgt := 61) dX12_isRather_38 rfl ⟨by decide, by decide⟩ ⟨by decide, by decide⟩ (fun h7 => absurd h7 (by decide)) (fun _ => ?_)
      refine mp_aload_n dX12_isRather_41 rfl ?_
      refine mp_getfield dX12_isRather_42 fsX12_9_11 (mp_lk hA 0 rfl) rfl ?_
      refine mp_iload_n dX12_isRather_45 rfl ?_
      refine mp_iconst dX12_isRather_46 ?_
      refine mp_invS (z := (mX12_of, 0, 0, 0)) (K' := (0, 0)) (σ1 := A ++ (mp_ms s m img was num pro ask kp kk kf so sz el im pl ra re rm rf sd th ++ B)) (as := [mp_i k, mp_i 5]) (st := [Value.ref 45]) (st1 := [mp_i (1 + 6 * k + 5), Value.ref 45]) dX12_isRather_47 ssX12_60 (zX12_of (k := k) (x := 5)  ) ⟨Nat.le_of_ble_eq_true rfl, Nat.le_of_ble_eq_true rfl, Nat.le_of_ble_eq_true rfl, Nat.le_of_ble_eq_true rfl, Nat.le_of_ble_eq_true rfl⟩ rfl rfl rfl rfl ?_
      refine mp_iald dX12_isRather_50 (mp_lk hA 1 rfl) ⟨by omega, by omega⟩ (by omega) ?_
      refine mp_iload_n dX12_isRather_51 rfl ?_
      refine mp_icmp_ne (tgt := 59) dX12_isRather_52 rfl ⟨by omega, by omega⟩ ⟨by omega, by omega⟩ (fun h8 => ?_) (fun h8 => ?_)
      · refine mp_iconst dX12_isRather_59 ?_
        exact mp_zreturn (st := []) dX12_isRather_60 rfl rfl ⟨by decide, by decide⟩ ((mp_ans (by unfold sp_rather; omega)))
      · refine mp_iconst dX12_isRather_55 ?_
        refine mp_goto (tgt := 60) dX12_isRather_56 rfl ?_
        exact mp_zreturn (st := []) dX12_isRather_60 rfl rfl ⟨by decide, by decide⟩ ((mp_ans (by unfold sp_rather; omega)))
  · refine mp_iconst dX12_isRather_14 ?_
    refine mp_goto (tgt := 19) dX12_isRather_15 rfl ?_
    refine mp_aload_n dX12_isRather_19 rfl ?_
    refine mp_getfield dX12_isRather_20 fsX12_9_11 (mp_lk hA 0 rfl) rfl ?_
    refine mp_iload_n dX12_isRather_23 rfl ?_
    refine mp_iconst dX12_isRather_24 ?_
    refine mp_invS (z := (mX12_of, 0, 0, 0)) (K' := (0, 0)) (σ1 := A ++ (mp_ms s m img was num pro ask kp kk kf so sz el im pl ra re rm rf sd th ++ B)) (as := [mp_i k, mp_i 5]) (st := [Value.ref 45, mp_i 1]) (st1 := [mp_i (1 + 6 * k + 5), Value.ref 45, mp_i 1]) dX12_isRather_25 ssX12_60 (zX12_of (k := k) (x := 5)  ) ⟨Nat.le_of_ble_eq_true rfl, Nat.le_of_ble_eq_true rfl, Nat.le_of_ble_eq_true rfl, Nat.le_of_ble_eq_true rfl, Nat.le_of_ble_eq_true rfl⟩ rfl rfl rfl rfl ?_
    refine mp_iald dX12_isRather_28 (mp_lk hA 1 rfl) ⟨by omega, by omega⟩ (by omega) ?_
    refine mp_iload_n dX12_isRather_29 rfl ?_
    refine mp_icmp_ne (tgt := 37) dX12_isRather_30 rfl ⟨by omega, by omega⟩ ⟨by omega, by omega⟩ (fun h9 => ?_) (fun h9 => ?_)
    · refine mp_iconst dX12_isRather_37 ?_
      refine mp_icmp_eq (tgt := 61) dX12_isRather_38 rfl ⟨by decide, by decide⟩ ⟨by decide, by decide⟩ (fun h10 => absurd h10 (by decide)) (fun _ => ?_)
      refine mp_aload_n dX12_isRather_41 rfl ?_
      refine mp_getfield dX12_isRather_42 fsX12_9_11 (mp_lk hA 0 rfl) rfl ?_
      refine mp_iload_n dX12_isRather_45 rfl ?_
      refine mp_iconst dX12_isRather_46 ?_
      refine mp_invS (z := (mX12_of, 0, 0, 0)) (K' := (0, 0)) (σ1 := A ++ (mp_ms s m img was num pro ask kp kk kf so sz el im pl ra re rm rf sd th ++ B)) (as := [mp_i k, mp_i 5]) (st := [Value.ref 45]) (st1 := [mp_i (1 + 6 * k + 5), Value.ref 45]) dX12_isRather_47 ssX12_60 (zX12_of (k := k) (x := 5)  ) ⟨Nat.le_of_ble_eq_true rfl, Nat.le_of_ble_eq_true rfl, Nat.le_of_ble_eq_true rfl, Nat.le_of_ble_eq_true rfl, Nat.le_of_ble_eq_true rfl⟩ rfl rfl rfl rfl ?_
      refine mp_iald dX12_isRather_50 (mp_lk hA 1 rfl) ⟨by omega, by omega⟩ (by omega) ?_
      refine mp_iload_n dX12_isRather_51 rfl ?_
      refine mp_icmp_ne (tgt := 59) dX12_isRather_52 rfl ⟨by omega, by omega⟩ ⟨by omega, by omega⟩ (fun h11 => ?_) (fun h11 => ?_)
      · refine mp_iconst dX12_isRather_59 ?_
        exact mp_zreturn (st := []) dX12_isRather_60 rfl rfl ⟨by decide, by decide⟩ ((mp_ans (by unfold sp_rather; omega)))
      · refine mp_iconst dX12_isRather_55 ?_
        refine mp_goto (tgt := 60) dX12_isRather_56 rfl ?_
        exact mp_zreturn (st := []) dX12_isRather_60 rfl rfl ⟨by decide, by decide⟩ ((mp_ans (by unfold sp_rather; omega)))
    · refine mp_iconst dX12_isRather_33 ?_
      refine mp_goto (tgt := 38) dX12_isRather_34 rfl ?_
      refine mp_icmp_eq (tgt := 61) dX12_isRather_38 rfl ⟨by decide, by decide⟩ ⟨by decide, by decide⟩ (fun _ => ?_) (fun h12 => absurd h12 (by decide))
      refine mp_aload_n dX12_isRather_61 rfl ?_
      refine mp_getfield dX12_isRather_62 fsX12_9_11 (mp_lk hA 0 rfl) rfl ?_
      refine mp_iload_n dX12_isRather_65 rfl ?_
      refine mp_iconst dX12_isRather_66 ?_
      refine mp_invS (z := (mX12_by, 0, 0, 0)) (K' := (0, 0)) (σ1 := A ++ (mp_ms s m img was num pro ask kp kk kf so sz el im pl ra re rm rf sd th ++ B)) (as := [mp_i a, mp_i 1]) (st := [Value.ref 45]) (st1 := [mp_i (49 + 3 * a + 1), Value.ref 45]) dX12_isRather_67 ssX12_49 (zX12_by (l := a) (x := 1)  ) ⟨Nat.le_of_ble_eq_true rfl, Nat.le_of_ble_eq_true rfl, Nat.le_of_ble_eq_true rfl, Nat.le_of_ble_eq_true rfl, Nat.le_of_ble_eq_true rfl⟩ rfl rfl rfl rfl ?_
      refine mp_iald dX12_isRather_70 (mp_lk hA 1 rfl) ⟨by omega, by omega⟩ (by omega) ?_
      refine mp_aload_n dX12_isRather_71 rfl ?_
      refine mp_getfield dX12_isRather_72 fsX12_9_11 (mp_lk hA 0 rfl) rfl ?_
      refine mp_iload_n dX12_isRather_75 rfl ?_
      refine mp_iconst dX12_isRather_76 ?_
      refine mp_invS (z := (mX12_by, 0, 0, 0)) (K' := (0, 0)) (σ1 := A ++ (mp_ms s m img was num pro ask kp kk kf so sz el im pl ra re rm rf sd th ++ B)) (as := [mp_i b, mp_i 1]) (st := [Value.ref 45, mp_i (s (49 + 3 * a + 1))]) (st1 := [mp_i (49 + 3 * b + 1), Value.ref 45, mp_i (s (49 + 3 * a + 1))]) dX12_isRather_77 ssX12_49 (zX12_by (l := b) (x := 1)  ) ⟨Nat.le_of_ble_eq_true rfl, Nat.le_of_ble_eq_true rfl, Nat.le_of_ble_eq_true rfl, Nat.le_of_ble_eq_true rfl, Nat.le_of_ble_eq_true rfl⟩ rfl rfl rfl rfl ?_
      refine mp_iald dX12_isRather_80 (mp_lk hA 1 rfl) ⟨by omega, by omega⟩ (by omega) ?_
      refine mp_icmp_eq (tgt := 115) dX12_isRather_81 rfl ⟨by omega, by omega⟩ ⟨by omega, by omega⟩ (fun h13 => ?_) (fun h13 => ?_)
      · refine mp_iload_n dX12_isRather_115 rfl ?_
        refine mp_iload_n dX12_isRather_116 rfl ?_
        refine mp_icmp_ge (tgt := 124) dX12_isRather_117 rfl ⟨by omega, by omega⟩ ⟨by omega, by omega⟩ (fun h14 => ?_) (fun h14 => ?_)
        · refine mp_iconst dX12_isRather_124 ?_
          exact mp_zreturn (st := []) dX12_isRather_125 rfl rfl ⟨by decide, by decide⟩ ((mp_ans (by unfold sp_rather; omega)))
        · refine mp_iconst dX12_isRather_120 ?_
          refine mp_goto (tgt := 125) dX12_isRather_121 rfl ?_
          exact mp_zreturn (st := []) dX12_isRather_125 rfl rfl ⟨by decide, by decide⟩ ((mp_ans (by unfold sp_rather; omega)))
      · refine mp_aload_n dX12_isRather_84 rfl ?_
        refine mp_getfield dX12_isRather_85 fsX12_9_11 (mp_lk hA 0 rfl) rfl ?_
        refine mp_iload_n dX12_isRather_88 rfl ?_
        refine mp_iconst dX12_isRather_89 ?_
        refine mp_invS (z := (mX12_by, 0, 0, 0)) (K' := (0, 0)) (σ1 := A ++ (mp_ms s m img was num pro ask kp kk kf so sz el im pl ra re rm rf sd th ++ B)) (as := [mp_i a, mp_i 1]) (st := [Value.ref 45]) (st1 := [mp_i (49 + 3 * a + 1), Value.ref 45]) dX12_isRather_90 ssX12_49 (zX12_by (l := a) (x := 1)  ) ⟨Nat.le_of_ble_eq_true rfl, Nat.le_of_ble_eq_true rfl, Nat.le_of_ble_eq_true rfl, Nat.le_of_ble_eq_true rfl, Nat.le_of_ble_eq_true rfl⟩ rfl rfl rfl rfl ?_
        refine mp_iald dX12_isRather_93 (mp_lk hA 1 rfl) ⟨by omega, by omega⟩ (by omega) ?_
        refine mp_aload_n dX12_isRather_94 rfl ?_
        refine mp_getfield dX12_isRather_95 fsX12_9_11 (mp_lk hA 0 rfl) rfl ?_
        refine mp_iload_n dX12_isRather_98 rfl ?_
        refine mp_iconst dX12_isRather_99 ?_
        refine mp_invS (z := (mX12_by, 0, 0, 0)) (K' := (0, 0)) (σ1 := A ++ (mp_ms s m img was num pro ask kp kk kf so sz el im pl ra re rm rf sd th ++ B)) (as := [mp_i b, mp_i 1]) (st := [Value.ref 45, mp_i (s (49 + 3 * a + 1))]) (st1 := [mp_i (49 + 3 * b + 1), Value.ref 45, mp_i (s (49 + 3 * a + 1))]) dX12_isRather_100 ssX12_49 (zX12_by (l := b) (x := 1)  ) ⟨Nat.le_of_ble_eq_true rfl, Nat.le_of_ble_eq_true rfl, Nat.le_of_ble_eq_true rfl, Nat.le_of_ble_eq_true rfl, Nat.le_of_ble_eq_true rfl⟩ rfl rfl rfl rfl ?_
        refine mp_iald dX12_isRather_103 (mp_lk hA 1 rfl) ⟨by omega, by omega⟩ (by omega) ?_
        refine mp_icmp_le (tgt := 111) dX12_isRather_104 rfl ⟨by omega, by omega⟩ ⟨by omega, by omega⟩ (fun h15 => ?_) (fun h15 => ?_)
        · refine mp_iconst dX12_isRather_111 ?_
          refine mp_goto (tgt := 125) dX12_isRather_112 rfl ?_
          exact mp_zreturn (st := []) dX12_isRather_125 rfl rfl ⟨by decide, by decide⟩ ((mp_ans (by unfold sp_rather; omega)))
        · refine mp_iconst dX12_isRather_107 ?_
          refine mp_goto (tgt := 125) dX12_isRather_108 rfl ?_
          exact mp_zreturn (st := []) dX12_isRather_125 rfl rfl ⟨by decide, by decide⟩ ((mp_ans (by unfold sp_rather; omega)))
theorem lX12_nextAsked_5 {s m img was num pro ask kp kk kf so sz el : Int → Int} {im pl ra re rm rf sd th : Int} {A B : mp_H}  {l : Int} (hA : A.length = 44) (hs : mp_sky s) (h_l : 0 ≤ l ∧ l ≤ 4) (hak : ∀ l, 0 ≤ l → l ≤ 4 → 0 ≤ ask l ∧ ask l < 256) {R9 : mp_An} : ∀ (n : Nat) (k : Int) (f : Int), ((0 ≤ k ∧ k + (n : Nat) = s 0) ∧ (f = -4 ∨ (0 ≤ f ∧ f < k))) → mp_At (mX12_nextAsked, 4, 0, 0) (0, 0) 75 [some (Value.ref 44), some (mp_i l), some (mp_i (mp_fold (sp_askStep s ask l) n k f)), none] [] (A ++ (mp_ms s m img was num pro ask kp kk kf so sz el im pl ra re rm rf sd th ++ B)) R9 → mp_At (mX12_nextAsked, 4, 0, 0) (0, 0) 5 [some (Value.ref 44), some (mp_i l), some (mp_i f), some (mp_i k)] [] (A ++ (mp_ms s m img was num pro ask kp kk kf so sz el im pl ra re rm rf sd th ++ B)) R9 := by
  intro n
  induction n with
  | zero =>
    intro k f hi hk
    have h0 := hs.1
    refine mp_iload_n dX12_nextAsked_5 rfl ?_
    refine mp_aload_n dX12_nextAsked_6 rfl ?_
    refine mp_getfield dX12_nextAsked_7 fsX12_9_11 (mp_lk hA 0 rfl) rfl ?_
    refine mp_iconst dX12_nextAsked_10 ?_
    refine mp_iald dX12_nextAsked_11 (mp_lk hA 1 rfl) ⟨by omega, by omega⟩ (by omega) ?_
    refine mp_icmp_ge (tgt := 75) dX12_nextAsked_12 rfl ⟨by omega, by omega⟩ ⟨by omega, by omega⟩ (fun h1 => ?_) (fun h1 => ?_)
    · refine mp_drop (L' := [some (Value.ref 44), some (mp_i l), some (mp_i f), none]) [true, true, true, false] rfl ?_
      exact hk
    · exfalso; omega
  | succ n ih =>
    intro k f hi hk
    have h0 := hs.1
    have hm := hs.2.1 k (by omega) (by omega)
    have hb9 := hs.2.2.1 l (by omega) (by omega)
    have hh1 := mp_heat_bd (kind := s (1 + 6 * k + 0)) (f := s (1 + 6 * k + 1)) (by omega)
    have hak1 := hak l (by omega) (by omega)
    have hbb := mp_b_bd (ask l) k
    have hyb := mp_yesOf_bd s l k
    refine mp_iload_n dX12_nextAsked_5 rfl ?_
    refine mp_aload_n dX12_nextAsked_6 rfl ?_
    refine mp_getfield dX12_nextAsked_7 fsX12_9_11 (mp_lk hA 0 rfl) rfl ?_
    refine mp_iconst dX12_nextAsked_10 ?_
    refine mp_iald dX12_nextAsked_11 (mp_lk hA 1 rfl) ⟨by omega, by omega⟩ (by omega) ?_
    refine mp_icmp_ge (tgt := 75) dX12_nextAsked_12 rfl ⟨by omega, by omega⟩ ⟨by omega, by omega⟩ (fun h1 => ?_) (fun h1 => ?_)
    · exfalso; omega
    · refine mp_aload_n dX12_nextAsked_15 rfl ?_
      refine mp_getfield dX12_nextAsked_16 fsX12_28_11 (mp_lk hA 0 rfl) rfl ?_
      refine mp_iload_n dX12_nextAsked_19 rfl ?_
      refine mp_iald dX12_nextAsked_20 (mp_lk hA 7 rfl) ⟨by omega, by omega⟩ (by omega) ?_
      refine mp_iload_n dX12_nextAsked_21 rfl ?_
      refine mp_ishr (z := mp_shr (ask l) k) dX12_nextAsked_22 (mp_z_shr ⟨by omega, by omega⟩ ⟨by omega, by omega⟩) ?_
      refine mp_iconst dX12_nextAsked_23 ?_
      refine mp_iand (z := sp_b (ask l) k) dX12_nextAsked_24 (mp_z_b _ _) ?_
      refine mp_iconst dX12_nextAsked_25 ?_
      refine mp_icmp_eq (tgt := 69) dX12_nextAsked_26 rfl ⟨by omega, by omega⟩ ⟨by omega, by omega⟩ (fun h2 => ?_) (fun h2 => ?_)
      · refine mp_iinc (z := k + 1) (L' := [some (Value.ref 44), some (mp_i l), some (mp_i f), some (mp_i (k + 1))]) dX12_nextAsked_69 rfl (rfl) (by decide) rfl ?_
        refine mp_goto (tgt := 5) dX12_nextAsked_72 rfl ?_
        refine mp_loc (j := 2) (y := sp_askStep s ask l k f) (by unfold sp_askStep; first | (rw [if_pos (by omega)]; done) | (rw [if_neg (by omega), if_pos (by omega)]; done) | (rw [if_neg (by omega), if_neg (by omega)]; done)) rfl (L' := [some (Value.ref 44), some (mp_i l), some (mp_i (sp_askStep s ask l k f)), some (mp_i (k + 1))]) rfl ?_
        exact ih (k + 1) (sp_askStep s ask l k f) (⟨by omega, by unfold sp_askStep; split <;> (try split) <;> omega⟩) hk
      · refine mp_aload_n dX12_nextAsked_29 rfl ?_
        refine mp_getfield dX12_nextAsked_30 fsX12_9_11 (mp_lk hA 0 rfl) rfl ?_
        refine mp_iload_n dX12_nextAsked_33 rfl ?_
        refine mp_iload_n dX12_nextAsked_34 rfl ?_
        refine mp_invS (z := (mX12_yesOf, 3, 0, 0)) (K' := (0, 0)) (σ1 := A ++ (mp_ms s m img was num pro ask kp kk kf so sz el im pl ra re rm rf sd th ++ B)) (as := [Value.ref 45, mp_i l, mp_i k]) (st := []) (st1 := [mp_i (sp_yesOf s l k)]) dX12_nextAsked_35 ssX12_95 (zX12_yesOf (r := 45) (l := l) (k := k) (s := s) (mp_lk hA 1 rfl) (by first | with_reducible assumption | omega) (by first | with_reducible assumption | omega) (by first | with_reducible assumption | omega) (by first | with_reducible assumption | omega)) ⟨Nat.le_of_ble_eq_true rfl, Nat.le_of_ble_eq_true rfl, Nat.le_of_ble_eq_true rfl, Nat.le_of_ble_eq_true rfl, Nat.le_of_ble_eq_true rfl⟩ rfl rfl rfl rfl ?_
        refine mp_if_ge (tgt := 44) dX12_nextAsked_38 rfl ⟨by omega, by omega⟩ (fun h3 => ?_) (fun h3 => ?_)
        · refine mp_iload_n dX12_nextAsked_44 rfl ?_
          refine mp_if_lt (tgt := 67) dX12_nextAsked_45 rfl ⟨by omega, by omega⟩ (fun h4 => ?_) (fun h4 => ?_)
          · refine mp_iload_n dX12_nextAsked_67 rfl ?_
            refine mp_istore_n (L' := [some (Value.ref 44), some (mp_i l), some (mp_i k), some (mp_i k)]) dX12_nextAsked_68 rfl (by decide) rfl ?_
            refine mp_iinc (z := k + 1) (L' := [some (Value.ref 44), some (mp_i l), some (mp_i k), some (mp_i (k + 1))]) dX12_nextAsked_69 rfl (rfl) (by decide) rfl ?_
            refine mp_goto (tgt := 5) dX12_nextAsked_72 rfl ?_
            refine mp_loc (j := 2) (y := sp_askStep s ask l k f) (by unfold sp_askStep; first | (rw [if_pos (by omega)]; done) | (rw [if_neg (by omega), if_pos (by omega)]; done) | (rw [if_neg (by omega), if_neg (by omega)]; done)) rfl (L' := [some (Value.ref 44), some (mp_i l), some (mp_i (sp_askStep s ask l k f)), some (mp_i (k + 1))]) rfl ?_
            exact ih (k + 1) (sp_askStep s ask l k f) (⟨by omega, by unfold sp_askStep; split <;> (try split) <;> omega⟩) hk
          · have hm2 := hs.2.1 f (by omega) (by omega)
            have hh2 := mp_heat_bd (kind := s (1 + 6 * f + 0)) (f := s (1 + 6 * f + 1)) (by omega)
            refine mp_aload_n dX12_nextAsked_48 rfl ?_
            refine mp_getfield dX12_nextAsked_49 fsX12_9_11 (mp_lk hA 0 rfl) rfl ?_
            refine mp_iload_n dX12_nextAsked_52 rfl ?_
            refine mp_invS (z := (mX12_heatOf, 2, 0, 0)) (K' := (0, 0)) (σ1 := A ++ (mp_ms s m img was num pro ask kp kk kf so sz el im pl ra re rm rf sd th ++ B)) (as := [Value.ref 45, mp_i k]) (st := []) (st1 := [mp_i (sp_heat (s (1 + 6 * k + 0)) (s (1 + 6 * k + 1)))]) dX12_nextAsked_53 ssX12_164 (zX12_heatOf (r := 45) (k := k) (s := s) (mp_lk hA 1 rfl) (by first | with_reducible assumption | omega) (by first | with_reducible assumption | omega)) ⟨Nat.le_of_ble_eq_true rfl, Nat.le_of_ble_eq_true rfl, Nat.le_of_ble_eq_true rfl, Nat.le_of_ble_eq_true rfl, Nat.le_of_ble_eq_true rfl⟩ rfl rfl rfl rfl ?_
            refine mp_aload_n dX12_nextAsked_56 rfl ?_
            refine mp_getfield dX12_nextAsked_57 fsX12_9_11 (mp_lk hA 0 rfl) rfl ?_
            refine mp_iload_n dX12_nextAsked_60 rfl ?_
            refine mp_invS (z := (mX12_heatOf, 2, 0, 0)) (K' := (0, 0)) (σ1 := A ++ (mp_ms s m img was num pro ask kp kk kf so sz el im pl ra re rm rf sd th ++ B)) (as := [Value.ref 45, mp_i f]) (st := [mp_i (sp_heat (s (1 + 6 * k + 0)) (s (1 + 6 * k + 1)))]) (st1 := [mp_i (sp_heat (s (1 + 6 * f + 0)) (s (1 + 6 * f + 1))), mp_i (sp_heat (s (1 + 6 * k + 0)) (s (1 + 6 * k + 1)))]) dX12_nextAsked_61 ssX12_164 (zX12_heatOf (r := 45) (k := f) (s := s) (mp_lk hA 1 rfl) (by first | with_reducible assumption | omega) (by first | with_reducible assumption | omega)) ⟨Nat.le_of_ble_eq_true rfl, Nat.le_of_ble_eq_true rfl, Nat.le_of_ble_eq_true rfl, Nat.le_of_ble_eq_true rfl, Nat.le_of_ble_eq_true rfl⟩ rfl rfl rfl rfl ?_
            refine mp_icmp_le (tgt := 69) dX12_nextAsked_64 rfl ⟨by omega, by omega⟩ ⟨by omega, by omega⟩ (fun h5 => ?_) (fun h5 => ?_)
            · refine mp_iinc (z := k + 1) (L' := [some (Value.ref 44), some (mp_i l), some (mp_i f), some (mp_i (k + 1))]) dX12_nextAsked_69 rfl (rfl) (by decide) rfl ?_
              refine mp_goto (tgt := 5) dX12_nextAsked_72 rfl ?_
              refine mp_loc (j := 2) (y := sp_askStep s ask l k f) (by unfold sp_askStep; first | (rw [if_pos (by omega)]; done) | (rw [if_neg (by omega), if_pos (by omega)]; done) | (rw [if_neg (by omega), if_neg (by omega)]; done)) rfl (L' := [some (Value.ref 44), some (mp_i l), some (mp_i (sp_askStep s ask l k f)), some (mp_i (k + 1))]) rfl ?_
              exact ih (k + 1) (sp_askStep s ask l k f) (⟨by omega, by unfold sp_askStep; split <;> (try split) <;> omega⟩) hk
            · refine mp_iload_n dX12_nextAsked_67 rfl ?_
              refine mp_istore_n (L' := [some (Value.ref 44), some (mp_i l), some (mp_i k), some (mp_i k)]) dX12_nextAsked_68 rfl (by decide) rfl ?_
              refine mp_iinc (z := k + 1) (L' := [some (Value.ref 44), some (mp_i l), some (mp_i k), some (mp_i (k + 1))]) dX12_nextAsked_69 rfl (rfl) (by decide) rfl ?_
              refine mp_goto (tgt := 5) dX12_nextAsked_72 rfl ?_
              refine mp_loc (j := 2) (y := sp_askStep s ask l k f) (by unfold sp_askStep; first | (rw [if_pos (by omega)]; done) | (rw [if_neg (by omega), if_pos (by omega)]; done) | (rw [if_neg (by omega), if_neg (by omega)]; done)) rfl (L' := [some (Value.ref 44), some (mp_i l), some (mp_i (sp_askStep s ask l k f)), some (mp_i (k + 1))]) rfl ?_
              exact ih (k + 1) (sp_askStep s ask l k f) (⟨by omega, by unfold sp_askStep; split <;> (try split) <;> omega⟩) hk
        · refine mp_goto (tgt := 69) dX12_nextAsked_41 rfl ?_
          refine mp_iinc (z := k + 1) (L' := [some (Value.ref 44), some (mp_i l), some (mp_i f), some (mp_i (k + 1))]) dX12_nextAsked_69 rfl (rfl) (by decide) rfl ?_
          refine mp_goto (tgt := 5) dX12_nextAsked_72 rfl ?_
          refine mp_loc (j := 2) (y := sp_askStep s ask l k f) (by unfold sp_askStep; first | (rw [if_pos (by omega)]; done) | (rw [if_neg (by omega), if_pos (by omega)]; done) | (rw [if_neg (by omega), if_neg (by omega)]; done)) rfl (L' := [some (Value.ref 44), some (mp_i l), some (mp_i (sp_askStep s ask l k f)), some (mp_i (k + 1))]) rfl ?_
          exact ih (k + 1) (sp_askStep s ask l k f) (⟨by omega, by unfold sp_askStep; split <;> (try split) <;> omega⟩) hk
theorem zX12_nextAsked {s m img was num pro ask kp kk kf so sz el : Int → Int} {im pl ra re rm rf sd th : Int} {A B : mp_H}  {l : Int} (hA : A.length = 44) (hs : mp_sky s) (h_l : 0 ≤ l ∧ l ≤ 4) (hak : ∀ l, 0 ≤ l → l ≤ 4 → 0 ≤ ask l ∧ ask l < 256) : mp_Call (mX12_nextAsked, 4, 0, 0) [Value.ref 44, mp_i l] (A ++ (mp_ms s m img was num pro ask kp kk kf so sz el im pl ra re rm rf sd th ++ B)) (some (mp_i (sp_next1 s ask l)), A ++ (mp_ms s m img was num pro ask kp kk kf so sz el im pl ra re rm rf sd th ++ B)) := by
  refine mp_Call.of (L := [some (Value.ref 44), some (mp_i l), none, none]) pnX12 (Nat.le_of_ble_eq_true rfl) rfl ?_
  have h0 := hs.1
  refine mp_bipush dX12_nextAsked_0 rfl ?_
  refine mp_istore_n (L' := [some (Value.ref 44), some (mp_i l), some (mp_i (-4)), none]) dX12_nextAsked_2 rfl (by decide) rfl ?_
  refine mp_iconst dX12_nextAsked_3 ?_
  refine mp_istore_n (L' := [some (Value.ref 44), some (mp_i l), some (mp_i (-4)), some (mp_i 0)]) dX12_nextAsked_4 rfl (by decide) rfl ?_
  refine lX12_nextAsked_5 (l := l)  (by first | with_reducible assumption | omega) (by first | with_reducible assumption | omega) (by first | with_reducible assumption | omega) (by first | with_reducible assumption | omega) ((s 0).toNat) 0 (-4) (by omega) ?_
  refine mp_iload_n dX12_nextAsked_75 rfl ?_
  exact mp_ireturn (st := []) dX12_nextAsked_76 rfl ⟨by decide, by decide⟩ ((mp_ans (by first | with_reducible rfl | omega | rfl)))
theorem zX12_changes0 {s m img was num pro ask kp kk kf so sz el : Int → Int} {im pl ra re rm rf sd th : Int} {A B : mp_H}  {g : Int} {o : Int} {c : Int} (hA : A.length = 44) (hs : mp_sky s) (h_g : 0 ≤ g ∧ g < 256) (h_o : 0 ≤ o ∧ o ≤ 5) (h_c : 0 ≤ c ∧ c ≤ 5) (h_p : mp_rng (rm, rf)) : mp_Call (mX12_changes, 2, 0, 0) [Value.ref 44, mp_i 5, mp_i g, mp_i o, mp_i c] (A ++ (mp_ms s m img was num pro ask kp kk kf so sz el im pl ra re rm rf sd th ++ B)) (none, A ++ (mp_ms s m img was num pro ask kp kk kf so sz el im pl ra re ((sp_chg s 0 5 g o c (rm, rf)).1) ((sp_chg s 0 5 g o c (rm, rf)).2) sd th ++ B)) := by
  refine mp_Call.of (L := [some (Value.ref 44), some (mp_i 5), some (mp_i g), some (mp_i o), some (mp_i c), none]) pnX12 (Nat.le_of_ble_eq_true rfl) rfl ?_
  have hp1 : (-1 ≤ rm ∧ rm ≤ 5) ∧ (0 ≤ rf ∧ rf ≤ 5) := h_p
  refine mp_iload_n dX12_changes_0 rfl ?_
  refine mp_iconst dX12_changes_1 ?_
  refine mp_icmp_ne (tgt := 49) dX12_changes_2 rfl ⟨by decide, by decide⟩ ⟨by decide, by decide⟩ (fun h1 => absurd h1 (by decide)) (fun _ => ?_)
  refine mp_iload_n dX12_changes_5 rfl ?_
  refine mp_aload_n dX12_changes_6 rfl ?_
  refine mp_getfield dX12_changes_7 fsX12_194_11 (mp_lk hA 0 rfl) rfl ?_
  refine mp_icmp_gt (tgt := 30) dX12_changes_10 rfl ⟨by omega, by omega⟩ ⟨by omega, by omega⟩ (fun h2 => ?_) (fun h2 => ?_)
  · refine mp_aload_n dX12_changes_30 rfl ?_
    refine mp_iload dX12_changes_31 rfl ?_
    refine mp_putfield (σ' := A ++ (mp_ms s m img was num pro ask kp kk kf so sz el im pl ra re rm c sd th ++ B)) dX12_changes_33 fsX12_197_11 rfl (Or.inl rfl) (tyX12_ok 12 (by decide)) (fun _ => ⟨rfl, rfl⟩) (mp_lk hA 0 rfl) (by decide) (Nat.le_of_ble_eq_true rfl) (mp_sts (Ms' := mp_ms s m img was num pro ask kp kk kf so sz el im pl ra re rm c sd th) hA 0 (Nat.le_of_ble_eq_true rfl) rfl) ?_
    refine mp_aload_n dX12_changes_36 rfl ?_
    refine mp_aload_n dX12_changes_37 rfl ?_
    refine mp_getfield dX12_changes_38 fsX12_194_11 (mp_lk hA 0 rfl) rfl ?_
    refine mp_iload_n dX12_changes_41 rfl ?_
    refine mp_invS (z := (mX12_most, 0, 0, 0)) (K' := (0, 0)) (σ1 := A ++ (mp_ms s m img was num pro ask kp kk kf so sz el im pl ra re rm c sd th ++ B)) (as := [mp_i rm, mp_i o]) (st := [Value.ref 44]) (st1 := [mp_i (if o < rm then rm else o), Value.ref 44]) dX12_changes_42 ssX12_57 (zX12_most (a := rm) (b := o)  (by first | with_reducible assumption | omega) (by first | with_reducible assumption | omega)) ⟨Nat.le_of_ble_eq_true rfl, Nat.le_of_ble_eq_true rfl, Nat.le_of_ble_eq_true rfl, Nat.le_of_ble_eq_true rfl, Nat.le_of_ble_eq_true rfl⟩ rfl rfl rfl rfl ?_
    refine mp_putfield (σ' := A ++ (mp_ms s m img was num pro ask kp kk kf so sz el im pl ra re (if o < rm then rm else o) c sd th ++ B)) dX12_changes_45 fsX12_194_11 rfl (Or.inl rfl) (tyX12_ok 11 (by decide)) (fun _ => ⟨rfl, rfl⟩) (mp_lk hA 0 rfl) (by decide) (Nat.le_of_ble_eq_true rfl) (mp_sts (Ms' := mp_ms s m img was num pro ask kp kk kf so sz el im pl ra re (if o < rm then rm else o) c sd th) hA 0 (Nat.le_of_ble_eq_true rfl) rfl) ?_
    exact mp_vreturn (st := []) dX12_changes_48 rfl ⟨by decide, by decide⟩ (by rw [show sp_chg s 0 5 g o c (rm, rf) = (if o < rm then rm else o, c) from by show ((if o < rm then rm else o, if rm < o ∨ (o = rm ∧ c < rf) then c else rf) : Int × Int) = _; first | (rw [if_pos (show rm < o ∨ (o = rm ∧ c < rf) by omega)]; done) | (rw [if_neg (show ¬ (rm < o ∨ (o = rm ∧ c < rf)) by omega)]; done)])
  · refine mp_iload_n dX12_changes_13 rfl ?_
    refine mp_aload_n dX12_changes_14 rfl ?_
    refine mp_getfield dX12_changes_15 fsX12_194_11 (mp_lk hA 0 rfl) rfl ?_
    refine mp_icmp_ne (tgt := 36) dX12_changes_18 rfl ⟨by omega, by omega⟩ ⟨by omega, by omega⟩ (fun h3 => ?_) (fun h3 => ?_)
    · refine mp_aload_n dX12_changes_36 rfl ?_
      refine mp_aload_n dX12_changes_37 rfl ?_
      refine mp_getfield dX12_changes_38 fsX12_194_11 (mp_lk hA 0 rfl) rfl ?_
      refine mp_iload_n dX12_changes_41 rfl ?_
      refine mp_invS (z := (mX12_most, 0, 0, 0)) (K' := (0, 0)) (σ1 := A ++ (mp_ms s m img was num pro ask kp kk kf so sz el im pl ra re rm rf sd th ++ B)) (as := [mp_i rm, mp_i o]) (st := [Value.ref 44]) (st1 := [mp_i (if o < rm then rm else o), Value.ref 44]) dX12_changes_42 ssX12_57 (zX12_most (a := rm) (b := o)  (by first | with_reducible assumption | omega) (by first | with_reducible assumption | omega)) ⟨Nat.le_of_ble_eq_true rfl, Nat.le_of_ble_eq_true rfl, Nat.le_of_ble_eq_true rfl, Nat.le_of_ble_eq_true rfl, Nat.le_of_ble_eq_true rfl⟩ rfl rfl rfl rfl ?_
      refine mp_putfield (σ' := A ++ (mp_ms s m img was num pro ask kp kk kf so sz el im pl ra re (if o < rm then rm else o) rf sd th ++ B)) dX12_changes_45 fsX12_194_11 rfl (Or.inl rfl) (tyX12_ok 11 (by decide)) (fun _ => ⟨rfl, rfl⟩) (mp_lk hA 0 rfl) (by decide) (Nat.le_of_ble_eq_true rfl) (mp_sts (Ms' := mp_ms s m img was num pro ask kp kk kf so sz el im pl ra re (if o < rm then rm else o) rf sd th) hA 0 (Nat.le_of_ble_eq_true rfl) rfl) ?_
      exact mp_vreturn (st := []) dX12_changes_48 rfl ⟨by decide, by decide⟩ (by rw [show sp_chg s 0 5 g o c (rm, rf) = (if o < rm then rm else o, rf) from by show ((if o < rm then rm else o, if rm < o ∨ (o = rm ∧ c < rf) then c else rf) : Int × Int) = _; first | (rw [if_pos (show rm < o ∨ (o = rm ∧ c < rf) by omega)]; done) | (rw [if_neg (show ¬ (rm < o ∨ (o = rm ∧ c < rf)) by omega)]; done)])
    · refine mp_iload dX12_changes_21 rfl ?_
      refine mp_aload_n dX12_changes_23 rfl ?_
      refine mp_getfield dX12_changes_24 fsX12_197_11 (mp_lk hA 0 rfl) rfl ?_
      refine mp_icmp_ge (tgt := 36) dX12_changes_27 rfl ⟨by omega, by omega⟩ ⟨by omega, by omega⟩ (fun h4 => ?_) (fun h4 => ?_)
      · refine mp_aload_n dX12_changes_36 rfl ?_
        refine mp_aload_n dX12_changes_37 rfl ?_
        refine mp_getfield dX12_changes_38 fsX12_194_11 (mp_lk hA 0 rfl) rfl ?_
        refine mp_iload_n dX12_changes_41 rfl ?_
        refine mp_invS (z := (mX12_most, 0, 0, 0)) (K' := (0, 0)) (σ1 := A ++ (mp_ms s m img was num pro ask kp kk kf so sz el im pl ra re rm rf sd th ++ B)) (as := [mp_i rm, mp_i o]) (st := [Value.ref 44]) (st1 := [mp_i (if o < rm then rm else o), Value.ref 44]) dX12_changes_42 ssX12_57 (zX12_most (a := rm) (b := o)  (by first | with_reducible assumption | omega) (by first | with_reducible assumption | omega)) ⟨Nat.le_of_ble_eq_true rfl, Nat.le_of_ble_eq_true rfl, Nat.le_of_ble_eq_true rfl, Nat.le_of_ble_eq_true rfl, Nat.le_of_ble_eq_true rfl⟩ rfl rfl rfl rfl ?_
        refine mp_putfield (σ' := A ++ (mp_ms s m img was num pro ask kp kk kf so sz el im pl ra re (if o < rm then rm else o) rf sd th ++ B)) dX12_changes_45 fsX12_194_11 rfl (Or.inl rfl) (tyX12_ok 11 (by decide)) (fun _ => ⟨rfl, rfl⟩) (mp_lk hA 0 rfl) (by decide) (Nat.le_of_ble_eq_true rfl) (mp_sts (Ms' := mp_ms s m img was num pro ask kp kk kf so sz el im pl ra re (if o < rm then rm else o) rf sd th) hA 0 (Nat.le_of_ble_eq_true rfl) rfl) ?_
        exact mp_vreturn (st := []) dX12_changes_48 rfl ⟨by decide, by decide⟩ (by rw [show sp_chg s 0 5 g o c (rm, rf) = (if o < rm then rm else o, rf) from by show ((if o < rm then rm else o, if rm < o ∨ (o = rm ∧ c < rf) then c else rf) : Int × Int) = _; first | (rw [if_pos (show rm < o ∨ (o = rm ∧ c < rf) by omega)]; done) | (rw [if_neg (show ¬ (rm < o ∨ (o = rm ∧ c < rf)) by omega)]; done)])
      · refine mp_aload_n dX12_changes_30 rfl ?_
        refine mp_iload dX12_changes_31 rfl ?_
        refine mp_putfield (σ' := A ++ (mp_ms s m img was num pro ask kp kk kf so sz el im pl ra re rm c sd th ++ B)) dX12_changes_33 fsX12_197_11 rfl (Or.inl rfl) (tyX12_ok 12 (by decide)) (fun _ => ⟨rfl, rfl⟩) (mp_lk hA 0 rfl) (by decide) (Nat.le_of_ble_eq_true rfl) (mp_sts (Ms' := mp_ms s m img was num pro ask kp kk kf so sz el im pl ra re rm c sd th) hA 0 (Nat.le_of_ble_eq_true rfl) rfl) ?_
        refine mp_aload_n dX12_changes_36 rfl ?_
        refine mp_aload_n dX12_changes_37 rfl ?_
        refine mp_getfield dX12_changes_38 fsX12_194_11 (mp_lk hA 0 rfl) rfl ?_
        refine mp_iload_n dX12_changes_41 rfl ?_
        refine mp_invS (z := (mX12_most, 0, 0, 0)) (K' := (0, 0)) (σ1 := A ++ (mp_ms s m img was num pro ask kp kk kf so sz el im pl ra re rm c sd th ++ B)) (as := [mp_i rm, mp_i o]) (st := [Value.ref 44]) (st1 := [mp_i (if o < rm then rm else o), Value.ref 44]) dX12_changes_42 ssX12_57 (zX12_most (a := rm) (b := o)  (by first | with_reducible assumption | omega) (by first | with_reducible assumption | omega)) ⟨Nat.le_of_ble_eq_true rfl, Nat.le_of_ble_eq_true rfl, Nat.le_of_ble_eq_true rfl, Nat.le_of_ble_eq_true rfl, Nat.le_of_ble_eq_true rfl⟩ rfl rfl rfl rfl ?_
        refine mp_putfield (σ' := A ++ (mp_ms s m img was num pro ask kp kk kf so sz el im pl ra re (if o < rm then rm else o) c sd th ++ B)) dX12_changes_45 fsX12_194_11 rfl (Or.inl rfl) (tyX12_ok 11 (by decide)) (fun _ => ⟨rfl, rfl⟩) (mp_lk hA 0 rfl) (by decide) (Nat.le_of_ble_eq_true rfl) (mp_sts (Ms' := mp_ms s m img was num pro ask kp kk kf so sz el im pl ra re (if o < rm then rm else o) c sd th) hA 0 (Nat.le_of_ble_eq_true rfl) rfl) ?_
        exact mp_vreturn (st := []) dX12_changes_48 rfl ⟨by decide, by decide⟩ (by rw [show sp_chg s 0 5 g o c (rm, rf) = (if o < rm then rm else o, c) from by show ((if o < rm then rm else o, if rm < o ∨ (o = rm ∧ c < rf) then c else rf) : Int × Int) = _; first | (rw [if_pos (show rm < o ∨ (o = rm ∧ c < rf) by omega)]; done) | (rw [if_neg (show ¬ (rm < o ∨ (o = rm ∧ c < rf)) by omega)]; done)])
theorem lX12_changes1_79 {s m img was num pro ask kp kk kf so sz el : Int → Int} {im pl ra re rm rf sd th : Int} {A B : mp_H}  {g : Int} {o : Int} {c : Int} (hA : A.length = 44) (hs : mp_sky s) (h_g : 0 ≤ g ∧ g < 256) (h_o : 0 ≤ o ∧ o ≤ 4) (h_c : 0 ≤ c ∧ c ≤ 4) (h_p : mp_rng (rm, rf)) {R9 : mp_An} : ∀ (n : Nat) (k : Int) (p : Int × Int), ((0 ≤ k ∧ k + (n : Nat) = s 0) ∧ mp_rng p) → R9 = (none, A ++ (mp_ms s m img was num pro ask kp kk kf so sz el im pl ra re ((mp_fold (fun k p => if sp_b g k = 1 then sp_chg s 0 (4 + 1) (mp_dif g (mp_bit k)) (o + (if s (1 + 6 * k + 5) = 4 then 1 else 0)) (c + (if s (49 + 3 * 4 + 2) = k then 0 else 1)) p else p) n k p).1) ((mp_fold (fun k p => if sp_b g k = 1 then sp_chg s 0 (4 + 1) (mp_dif g (mp_bit k)) (o + (if s (1 + 6 * k + 5) = 4 then 1 else 0)) (c + (if s (49 + 3 * 4 + 2) = k then 0 else 1)) p else p) n k p).2) sd th ++ B)) → mp_At (mX12_changes, 3, 0, 0) (0, 0) 79 [some (Value.ref 44), some (mp_i 4), some (mp_i g), some (mp_i o), some (mp_i c), some (mp_i k)] [] (A ++ (mp_ms s m img was num pro ask kp kk kf so sz el im pl ra re p.1 p.2 sd th ++ B)) R9 := by
  intro n
  induction n with
  | zero =>
    intro k p hi hR
    have h0 := hs.1
    refine mp_iload dX12_changes_79 rfl ?_
    refine mp_aload_n dX12_changes_81 rfl ?_
    refine mp_getfield dX12_changes_82 fsX12_9_11 (mp_lk hA 0 rfl) rfl ?_
    refine mp_iconst dX12_changes_85 ?_
    refine mp_iald dX12_changes_86 (mp_lk hA 1 rfl) ⟨by omega, by omega⟩ (by omega) ?_
    refine mp_icmp_ge (tgt := 166) dX12_changes_87 rfl ⟨by omega, by omega⟩ ⟨by omega, by omega⟩ (fun h1 => ?_) (fun h1 => ?_)
    · exact mp_vreturn (st := []) dX12_changes_166 rfl ⟨by decide, by decide⟩ (hR)
    · exfalso; omega
  | succ n ih =>
    intro k p hi hR
    have h0 := hs.1
    have hm := hs.2.1 k (by omega) (by omega)
    have hb9 := hs.2.2.1 4 (by omega) (by omega)
    have hbb := mp_b_bd g k
    have hdn := mp_dif_nn g (mp_bit k)
    have hdl := mp_dif_lt (a := g) (b := mp_bit k) (n := 8) h_g.2
    refine mp_iload dX12_changes_79 rfl ?_
    refine mp_aload_n dX12_changes_81 rfl ?_
    refine mp_getfield dX12_changes_82 fsX12_9_11 (mp_lk hA 0 rfl) rfl ?_
    refine mp_iconst dX12_changes_85 ?_
    refine mp_iald dX12_changes_86 (mp_lk hA 1 rfl) ⟨by omega, by omega⟩ (by omega) ?_
    refine mp_icmp_ge (tgt := 166) dX12_changes_87 rfl ⟨by omega, by omega⟩ ⟨by omega, by omega⟩ (fun h1 => ?_) (fun h1 => ?_)
    · exfalso; omega
    · refine mp_iload_n dX12_changes_90 rfl ?_
      refine mp_iload dX12_changes_91 rfl ?_
      refine mp_ishr (z := mp_shr g k) dX12_changes_93 (mp_z_shr ⟨by omega, by omega⟩ ⟨by omega, by omega⟩) ?_
      refine mp_iconst dX12_changes_94 ?_
      refine mp_iand (z := sp_b g k) dX12_changes_95 (mp_z_b _ _) ?_
      refine mp_iconst dX12_changes_96 ?_
      refine mp_icmp_ne (tgt := 160) dX12_changes_97 rfl ⟨by omega, by omega⟩ ⟨by omega, by omega⟩ (fun h2 => ?_) (fun h2 => ?_)
      · refine mp_iinc (z := k + 1) (L' := [some (Value.ref 44), some (mp_i 4), some (mp_i g), some (mp_i o), some (mp_i c), some (mp_i (k + 1))]) dX12_changes_160 rfl (rfl) (by decide) rfl ?_
        refine mp_goto (tgt := 79) dX12_changes_163 rfl ?_
        have e9 : (fun k p => if sp_b g k = 1 then sp_chg s 0 (4 + 1) (mp_dif g (mp_bit k)) (o + (if s (1 + 6 * k + 5) = 4 then 1 else 0)) (c + (if s (49 + 3 * 4 + 2) = k then 0 else 1)) p else p) k p = p := by exact if_neg (by omega)
        have k9 := ih (k + 1) ((fun k p => if sp_b g k = 1 then sp_chg s 0 (4 + 1) (mp_dif g (mp_bit k)) (o + (if s (1 + 6 * k + 5) = 4 then 1 else 0)) (c + (if s (49 + 3 * 4 + 2) = k then 0 else 1)) p else p) k p) ⟨by omega, by rw [e9]; exact hi.2⟩ hR
        rw [e9] at k9
        exact k9
      · refine mp_aload_n dX12_changes_100 rfl ?_
        refine mp_iload_n dX12_changes_101 rfl ?_
        refine mp_iconst dX12_changes_102 ?_
        refine mp_iadd (z := 5) dX12_changes_103 (by first | rfl | omega) ?_
        refine mp_iload_n dX12_changes_104 rfl ?_
        refine mp_iconst dX12_changes_105 ?_
        refine mp_iload dX12_changes_106 rfl ?_
        refine mp_ishl (z := mp_bit k) dX12_changes_108 (mp_z_bit ⟨by omega, by omega⟩) ?_
        refine mp_iconst dX12_changes_109 ?_
        refine mp_ixor (z := -1 - (mp_bit k)) dX12_changes_110 (mp_z_not _) ?_
        refine mp_iand (z := mp_dif g (mp_bit k)) dX12_changes_111 (mp_z_dif (by first | omega | exact mp_bit_nn _ | exact mp_or_nn _ _) (by first | omega | exact mp_bit_nn _ | exact mp_or_nn _ _)) ?_
        refine mp_iload_n dX12_changes_112 rfl ?_
        refine mp_aload_n dX12_changes_113 rfl ?_
        refine mp_getfield dX12_changes_114 fsX12_9_11 (mp_lk hA 0 rfl) rfl ?_
        refine mp_iload dX12_changes_117 rfl ?_
        refine mp_iconst dX12_changes_119 ?_
        refine mp_invS (z := (mX12_of, 0, 0, 0)) (K' := (0, 0)) (σ1 := A ++ (mp_ms s m img was num pro ask kp kk kf so sz el im pl ra re p.1 p.2 sd th ++ B)) (as := [mp_i k, mp_i 5]) (st := [Value.ref 45, mp_i o, mp_i (mp_dif g (mp_bit k)), mp_i 5, Value.ref 44]) (st1 := [mp_i (1 + 6 * k + 5), Value.ref 45, mp_i o, mp_i (mp_dif g (mp_bit k)), mp_i 5, Value.ref 44]) dX12_changes_120 ssX12_60 (zX12_of (k := k) (x := 5)  ) ⟨Nat.le_of_ble_eq_true rfl, Nat.le_of_ble_eq_true rfl, Nat.le_of_ble_eq_true rfl, Nat.le_of_ble_eq_true rfl, Nat.le_of_ble_eq_true rfl⟩ rfl rfl rfl rfl ?_
        refine mp_iald dX12_changes_123 (mp_lk hA 1 rfl) ⟨by omega, by omega⟩ (by omega) ?_
        refine mp_iload_n dX12_changes_124 rfl ?_
        refine mp_icmp_ne (tgt := 132) dX12_changes_125 rfl ⟨by omega, by omega⟩ ⟨by omega, by omega⟩ (fun h3 => ?_) (fun h3 => ?_)
        · refine mp_iconst dX12_changes_132 ?_
          refine mp_iadd (z := o + 0) dX12_changes_133 (by first | rfl | omega) ?_
          refine mp_iload dX12_changes_134 rfl ?_
          refine mp_aload_n dX12_changes_136 rfl ?_
          refine mp_getfield dX12_changes_137 fsX12_9_11 (mp_lk hA 0 rfl) rfl ?_
          refine mp_iload_n dX12_changes_140 rfl ?_
          refine mp_iconst dX12_changes_141 ?_
          refine mp_invS (z := (mX12_by, 0, 0, 0)) (K' := (0, 0)) (σ1 := A ++ (mp_ms s m img was num pro ask kp kk kf so sz el im pl ra re p.1 p.2 sd th ++ B)) (as := [mp_i 4, mp_i 2]) (st := [Value.ref 45, mp_i c, mp_i (o + 0), mp_i (mp_dif g (mp_bit k)), mp_i 5, Value.ref 44]) (st1 := [mp_i (49 + 3 * 4 + 2), Value.ref 45, mp_i c, mp_i (o + 0), mp_i (mp_dif g (mp_bit k)), mp_i 5, Value.ref 44]) dX12_changes_142 ssX12_49 (zX12_by (l := 4) (x := 2)  ) ⟨Nat.le_of_ble_eq_true rfl, Nat.le_of_ble_eq_true rfl, Nat.le_of_ble_eq_true rfl, Nat.le_of_ble_eq_true rfl, Nat.le_of_ble_eq_true rfl⟩ rfl rfl rfl rfl ?_
          refine mp_iald dX12_changes_145 (mp_lk hA 1 rfl) ⟨by omega, by omega⟩ (by omega) ?_
          refine mp_iload dX12_changes_146 rfl ?_
          refine mp_icmp_ne (tgt := 155) dX12_changes_148 rfl ⟨by omega, by omega⟩ ⟨by omega, by omega⟩ (fun h4 => ?_) (fun h4 => ?_)
          · refine mp_iconst dX12_changes_155 ?_
            refine mp_iadd (z := c + 1) dX12_changes_156 (by first | rfl | omega) ?_
            refine mp_invV (z := (mX12_changes, 2, 0, 0)) (K' := (0, 0)) (σ1 := A ++ (mp_ms s m img was num pro ask kp kk kf so sz el im pl ra re ((sp_chg s 0 5 (mp_dif g (mp_bit k)) (o + 0) (c + 1) (p.1, p.2)).1) ((sp_chg s 0 5 (mp_dif g (mp_bit k)) (o + 0) (c + 1) (p.1, p.2)).2) sd th ++ B)) (as := [mp_i 5, mp_i (mp_dif g (mp_bit k)), mp_i (o + 0), mp_i (c + 1)]) (st := []) (st1 := []) dX12_changes_157 svX12_200 (mp_lk hA 0 rfl) rfl rfl (zX12_changes0 (g := (mp_dif g (mp_bit k))) (o := (o + 0)) (c := (c + 1)) (s := s) (m := m) (img := img) (was := was) (num := num) (pro := pro) (ask := ask) (kp := kp) (kk := kk) (kf := kf) (so := so) (sz := sz) (el := el) (im := im) (pl := pl) (ra := ra) (re := re) (rm := p.1) (rf := p.2) (sd := sd) (th := th) (by first | with_reducible assumption | omega) (by first | with_reducible assumption | omega) (by first | with_reducible assumption | omega) (by first | with_reducible assumption | omega) (by first | with_reducible assumption | omega) (by first | with_reducible assumption | omega)) ⟨Nat.le_of_ble_eq_true rfl, Nat.le_of_ble_eq_true rfl, Nat.le_of_ble_eq_true rfl, Nat.le_of_ble_eq_true rfl, Nat.le_of_ble_eq_true rfl⟩ rfl rfl rfl rfl ?_
            refine mp_iinc (z := k + 1) (L' := [some (Value.ref 44), some (mp_i 4), some (mp_i g), some (mp_i o), some (mp_i c), some (mp_i (k + 1))]) dX12_changes_160 rfl (rfl) (by decide) rfl ?_
            refine mp_goto (tgt := 79) dX12_changes_163 rfl ?_
            have e9 : (fun k p => if sp_b g k = 1 then sp_chg s 0 (4 + 1) (mp_dif g (mp_bit k)) (o + (if s (1 + 6 * k + 5) = 4 then 1 else 0)) (c + (if s (49 + 3 * 4 + 2) = k then 0 else 1)) p else p) k p = sp_chg s 0 (4 + 1) (mp_dif g (mp_bit k)) (o + (if s (1 + 6 * k + 5) = 4 then 1 else 0)) (c + (if s (49 + 3 * 4 + 2) = k then 0 else 1)) p := by exact if_pos (by omega)
            have k9 := ih (k + 1) ((fun k p => if sp_b g k = 1 then sp_chg s 0 (4 + 1) (mp_dif g (mp_bit k)) (o + (if s (1 + 6 * k + 5) = 4 then 1 else 0)) (c + (if s (49 + 3 * 4 + 2) = k then 0 else 1)) p else p) k p) ⟨by omega, by rw [e9]; exact mp_chg_bd s 0 _ _ _ _ p (by decide) (by split <;> omega) (by split <;> omega) hi.2⟩ hR
            rw [e9] at k9
            refine mp_sg ?_ k9
            rw [show o + 0 = o + (if s (1 + 6 * k + 5) = 4 then 1 else 0) from by omega, show c + 1 = c + (if s (49 + 3 * 4 + 2) = k then 0 else 1) from by omega]; rfl
          · refine mp_iconst dX12_changes_151 ?_
            refine mp_goto (tgt := 156) dX12_changes_152 rfl ?_
            refine mp_iadd (z := c + 0) dX12_changes_156 (by first | rfl | omega) ?_
            refine mp_invV (z := (mX12_changes, 2, 0, 0)) (K' := (0, 0)) (σ1 := A ++ (mp_ms s m img was num pro ask kp kk kf so sz el im pl ra re ((sp_chg s 0 5 (mp_dif g (mp_bit k)) (o + 0) (c + 0) (p.1, p.2)).1) ((sp_chg s 0 5 (mp_dif g (mp_bit k)) (o + 0) (c + 0) (p.1, p.2)).2) sd th ++ B)) (as := [mp_i 5, mp_i (mp_dif g (mp_bit k)), mp_i (o + 0), mp_i (c + 0)]) (st := []) (st1 := []) dX12_changes_157 svX12_200 (mp_lk hA 0 rfl) rfl rfl (zX12_changes0 (g := (mp_dif g (mp_bit k))) (o := (o + 0)) (c := (c + 0)) (s := s) (m := m) (img := img) (was := was) (num := num) (pro := pro) (ask := ask) (kp := kp) (kk := kk) (kf := kf) (so := so) (sz := sz) (el := el) (im := im) (pl := pl) (ra := ra) (re := re) (rm := p.1) (rf := p.2) (sd := sd) (th := th) (by first | with_reducible assumption | omega) (by first | with_reducible assumption | omega) (by first | with_reducible assumption | omega) (by first | with_reducible assumption | omega) (by first | with_reducible assumption | omega) (by first | with_reducible assumption | omega)) ⟨Nat.le_of_ble_eq_true rfl, Nat.le_of_ble_eq_true rfl, Nat.le_of_ble_eq_true rfl, Nat.le_of_ble_eq_true rfl, Nat.le_of_ble_eq_true rfl⟩ rfl rfl rfl rfl ?_
            refine mp_iinc (z := k + 1) (L' := [some (Value.ref 44), some (mp_i 4), some (mp_i g), some (mp_i o), some (mp_i c), some (mp_i (k + 1))]) dX12_changes_160 rfl (rfl) (by decide) rfl ?_
            refine mp_goto (tgt := 79) dX12_changes_163 rfl ?_
            have e9 : (fun k p => if sp_b g k = 1 then sp_chg s 0 (4 + 1) (mp_dif g (mp_bit k)) (o + (if s (1 + 6 * k + 5) = 4 then 1 else 0)) (c + (if s (49 + 3 * 4 + 2) = k then 0 else 1)) p else p) k p = sp_chg s 0 (4 + 1) (mp_dif g (mp_bit k)) (o + (if s (1 + 6 * k + 5) = 4 then 1 else 0)) (c + (if s (49 + 3 * 4 + 2) = k then 0 else 1)) p := by exact if_pos (by omega)
            have k9 := ih (k + 1) ((fun k p => if sp_b g k = 1 then sp_chg s 0 (4 + 1) (mp_dif g (mp_bit k)) (o + (if s (1 + 6 * k + 5) = 4 then 1 else 0)) (c + (if s (49 + 3 * 4 + 2) = k then 0 else 1)) p else p) k p) ⟨by omega, by rw [e9]; exact mp_chg_bd s 0 _ _ _ _ p (by decide) (by split <;> omega) (by split <;> omega) hi.2⟩ hR
            rw [e9] at k9
            refine mp_sg ?_ k9
            rw [show o + 0 = o + (if s (1 + 6 * k + 5) = 4 then 1 else 0) from by omega, show c + 0 = c + (if s (49 + 3 * 4 + 2) = k then 0 else 1) from by omega]; rfl
        · refine mp_iconst dX12_changes_128 ?_
          refine mp_goto (tgt := 133) dX12_changes_129 rfl ?_
          refine mp_iadd (z := o + 1) dX12_changes_133 (by first | rfl | omega) ?_
          refine mp_iload dX12_changes_134 rfl ?_
          refine mp_aload_n dX12_changes_136 rfl ?_
          refine mp_getfield dX12_changes_137 fsX12_9_11 (mp_lk hA 0 rfl) rfl ?_
          refine mp_iload_n dX12_changes_140 rfl ?_
          refine mp_iconst dX12_changes_141 ?_
          refine mp_invS (z := (mX12_by, 0, 0, 0)) (K' := (0, 0)) (σ1 := A ++ (mp_ms s m img was num pro ask kp kk kf so sz el im pl ra re p.1 p.2 sd th ++ B)) (as := [mp_i 4, mp_i 2]) (st := [Value.ref 45, mp_i c, mp_i (o + 1), mp_i (mp_dif g (mp_bit k)), mp_i 5, Value.ref 44]) (st1 := [mp_i (49 + 3 * 4 + 2), Value.ref 45, mp_i c, mp_i (o + 1), mp_i (mp_dif g (mp_bit k)), mp_i 5, Value.ref 44]) dX12_changes_142 ssX12_49 (zX12_by (l := 4) (x := 2)  ) ⟨Nat.le_of_ble_eq_true rfl, Nat.le_of_ble_eq_true rfl, Nat.le_of_ble_eq_true rfl, Nat.le_of_ble_eq_true rfl, Nat.le_of_ble_eq_true rfl⟩ rfl rfl rfl rfl ?_
          refine mp_iald dX12_changes_145 (mp_lk hA 1 rfl) ⟨by omega, by omega⟩ (by omega) ?_
          refine mp_iload dX12_changes_146 rfl ?_
          refine mp_icmp_ne (tgt := 155) dX12_changes_148 rfl ⟨by omega, by omega⟩ ⟨by omega, by omega⟩ (fun h5 => ?_) (fun h5 => ?_)
          · refine mp_iconst dX12_changes_155 ?_
            refine mp_iadd (z := c + 1) dX12_changes_156 (by first | rfl | omega) ?_
            refine mp_invV (z := (mX12_changes, 2, 0, 0)) (K' := (0, 0)) (σ1 := A ++ (mp_ms s m img was num pro ask kp kk kf so sz el im pl ra re ((sp_chg s 0 5 (mp_dif g (mp_bit k)) (o + 1) (c + 1) (p.1, p.2)).1) ((sp_chg s 0 5 (mp_dif g (mp_bit k)) (o + 1) (c + 1) (p.1, p.2)).2) sd th ++ B)) (as := [mp_i 5, mp_i (mp_dif g (mp_bit k)), mp_i (o + 1), mp_i (c + 1)]) (st := []) (st1 := []) dX12_changes_157 svX12_200 (mp_lk hA 0 rfl) rfl rfl (zX12_changes0 (g := (mp_dif g (mp_bit k))) (o := (o + 1)) (c := (c + 1)) (s := s) (m := m) (img := img) (was := was) (num := num) (pro := pro) (ask := ask) (kp := kp) (kk := kk) (kf := kf) (so := so) (sz := sz) (el := el) (im := im) (pl := pl) (ra := ra) (re := re) (rm := p.1) (rf := p.2) (sd := sd) (th := th) (by first | with_reducible assumption | omega) (by first | with_reducible assumption | omega) (by first | with_reducible assumption | omega) (by first | with_reducible assumption | omega) (by first | with_reducible assumption | omega) (by first | with_reducible assumption | omega)) ⟨Nat.le_of_ble_eq_true rfl, Nat.le_of_ble_eq_true rfl, Nat.le_of_ble_eq_true rfl, Nat.le_of_ble_eq_true rfl, Nat.le_of_ble_eq_true rfl⟩ rfl rfl rfl rfl ?_
            refine mp_iinc (z := k + 1) (L' := [some (Value.ref 44), some (mp_i 4), some (mp_i g), some (mp_i o), some (mp_i c), some (mp_i (k + 1))]) dX12_changes_160 rfl (rfl) (by decide) rfl ?_
            refine mp_goto (tgt := 79) dX12_changes_163 rfl ?_
            have e9 : (fun k p => if sp_b g k = 1 then sp_chg s 0 (4 + 1) (mp_dif g (mp_bit k)) (o + (if s (1 + 6 * k + 5) = 4 then 1 else 0)) (c + (if s (49 + 3 * 4 + 2) = k then 0 else 1)) p else p) k p = sp_chg s 0 (4 + 1) (mp_dif g (mp_bit k)) (o + (if s (1 + 6 * k + 5) = 4 then 1 else 0)) (c + (if s (49 + 3 * 4 + 2) = k then 0 else 1)) p := by exact if_pos (by omega)
            have k9 := ih (k + 1) ((fun k p => if sp_b g k = 1 then sp_chg s 0 (4 + 1) (mp_dif g (mp_bit k)) (o + (if s (1 + 6 * k + 5) = 4 then 1 else 0)) (c + (if s (49 + 3 * 4 + 2) = k then 0 else 1)) p else p) k p) ⟨by omega, by rw [e9]; exact mp_chg_bd s 0 _ _ _ _ p (by decide) (by split <;> omega) (by split <;> omega) hi.2⟩ hR
            rw [e9] at k9
            refine mp_sg ?_ k9
            rw [show o + 1 = o + (if s (1 + 6 * k + 5) = 4 then 1 else 0) from by omega, show c + 1 = c + (if s (49 + 3 * 4 + 2) = k then 0 else 1) from by omega]; rfl
          · refine mp_iconst dX12_changes_151 ?_
            refine mp_goto (tgt := 156) dX12_changes_152 rfl ?_
            refine mp_iadd (z := c + 0) dX12_changes_156 (by first | rfl | omega) ?_
            refine mp_invV (z := (mX12_changes, 2, 0, 0)) (K' := (0, 0)) (σ1 := A ++ (mp_ms s m img was num pro ask kp kk kf so sz el im pl ra re ((sp_chg s 0 5 (mp_dif g (mp_bit k)) (o + 1) (c + 0) (p.1, p.2)).1) ((sp_chg s 0 5 (mp_dif g (mp_bit k)) (o + 1) (c + 0) (p.1, p.2)).2) sd th ++ B)) (as := [mp_i 5, mp_i (mp_dif g (mp_bit k)), mp_i (o + 1), mp_i (c + 0)]) (st := []) (st1 := []) dX12_changes_157 svX12_200 (mp_lk hA 0 rfl) rfl rfl (zX12_changes0 (g := (mp_dif g (mp_bit k))) (o := (o + 1)) (c := (c + 0)) (s := s) (m := m) (img := img) (was := was) (num := num) (pro := pro) (ask := ask) (kp := kp) (kk := kk) (kf := kf) (so := so) (sz := sz) (el := el) (im := im) (pl := pl) (ra := ra) (re := re) (rm := p.1) (rf := p.2) (sd := sd) (th := th) (by first | with_reducible assumption | omega) (by first | with_reducible assumption | omega) (by first | with_reducible assumption | omega) (by first | with_reducible assumption | omega) (by first | with_reducible assumption | omega) (by first | with_reducible assumption | omega)) ⟨Nat.le_of_ble_eq_true rfl, Nat.le_of_ble_eq_true rfl, Nat.le_of_ble_eq_true rfl, Nat.le_of_ble_eq_true rfl, Nat.le_of_ble_eq_true rfl⟩ rfl rfl rfl rfl ?_
            refine mp_iinc (z := k + 1) (L' := [some (Value.ref 44), some (mp_i 4), some (mp_i g), some (mp_i o), some (mp_i c), some (mp_i (k + 1))]) dX12_changes_160 rfl (rfl) (by decide) rfl ?_
            refine mp_goto (tgt := 79) dX12_changes_163 rfl ?_
            have e9 : (fun k p => if sp_b g k = 1 then sp_chg s 0 (4 + 1) (mp_dif g (mp_bit k)) (o + (if s (1 + 6 * k + 5) = 4 then 1 else 0)) (c + (if s (49 + 3 * 4 + 2) = k then 0 else 1)) p else p) k p = sp_chg s 0 (4 + 1) (mp_dif g (mp_bit k)) (o + (if s (1 + 6 * k + 5) = 4 then 1 else 0)) (c + (if s (49 + 3 * 4 + 2) = k then 0 else 1)) p := by exact if_pos (by omega)
            have k9 := ih (k + 1) ((fun k p => if sp_b g k = 1 then sp_chg s 0 (4 + 1) (mp_dif g (mp_bit k)) (o + (if s (1 + 6 * k + 5) = 4 then 1 else 0)) (c + (if s (49 + 3 * 4 + 2) = k then 0 else 1)) p else p) k p) ⟨by omega, by rw [e9]; exact mp_chg_bd s 0 _ _ _ _ p (by decide) (by split <;> omega) (by split <;> omega) hi.2⟩ hR
            rw [e9] at k9
            refine mp_sg ?_ k9
            rw [show o + 1 = o + (if s (1 + 6 * k + 5) = 4 then 1 else 0) from by omega, show c + 0 = c + (if s (49 + 3 * 4 + 2) = k then 0 else 1) from by omega]; rfl
theorem zX12_changes1 {s m img was num pro ask kp kk kf so sz el : Int → Int} {im pl ra re rm rf sd th : Int} {A B : mp_H}  {g : Int} {o : Int} {c : Int} (hA : A.length = 44) (hs : mp_sky s) (h_g : 0 ≤ g ∧ g < 256) (h_o : 0 ≤ o ∧ o ≤ 4) (h_c : 0 ≤ c ∧ c ≤ 4) (h_p : mp_rng (rm, rf)) : mp_Call (mX12_changes, 3, 0, 0) [Value.ref 44, mp_i 4, mp_i g, mp_i o, mp_i c] (A ++ (mp_ms s m img was num pro ask kp kk kf so sz el im pl ra re rm rf sd th ++ B)) (none, A ++ (mp_ms s m img was num pro ask kp kk kf so sz el im pl ra re ((sp_chg s 1 4 g o c (rm, rf)).1) ((sp_chg s 1 4 g o c (rm, rf)).2) sd th ++ B)) := by
  refine mp_Call.of (L := [some (Value.ref 44), some (mp_i 4), some (mp_i g), some (mp_i o), some (mp_i c), none]) pnX12 (Nat.le_of_ble_eq_true rfl) rfl ?_
  have h0 := hs.1
  have hb9 := hs.2.2.1 4 (by omega) (by omega)
  refine mp_iload_n dX12_changes_0 rfl ?_
  refine mp_iconst dX12_changes_1 ?_
  refine mp_icmp_ne (tgt := 49) dX12_changes_2 rfl ⟨by decide, by decide⟩ ⟨by decide, by decide⟩ (fun _ => ?_) (fun h1 => absurd h1 (by decide))
  refine mp_aload_n dX12_changes_49 rfl ?_
  refine mp_getfield dX12_changes_50 fsX12_9_11 (mp_lk hA 0 rfl) rfl ?_
  refine mp_iload_n dX12_changes_53 rfl ?_
  refine mp_iconst dX12_changes_54 ?_
  refine mp_invS (z := (mX12_by, 0, 0, 0)) (K' := (0, 0)) (σ1 := A ++ (mp_ms s m img was num pro ask kp kk kf so sz el im pl ra re rm rf sd th ++ B)) (as := [mp_i 4, mp_i 2]) (st := [Value.ref 45]) (st1 := [mp_i (49 + 3 * 4 + 2), Value.ref 45]) dX12_changes_55 ssX12_49 (zX12_by (l := 4) (x := 2)  ) ⟨Nat.le_of_ble_eq_true rfl, Nat.le_of_ble_eq_true rfl, Nat.le_of_ble_eq_true rfl, Nat.le_of_ble_eq_true rfl, Nat.le_of_ble_eq_true rfl⟩ rfl rfl rfl rfl ?_
  refine mp_iald dX12_changes_58 (mp_lk hA 1 rfl) ⟨by omega, by omega⟩ (by omega) ?_
  refine mp_bipush dX12_changes_59 rfl ?_
  refine mp_icmp_ne (tgt := 76) dX12_changes_61 rfl ⟨by omega, by omega⟩ ⟨by omega, by omega⟩ (fun h2 => ?_) (fun h2 => ?_)
  · refine mp_iconst dX12_changes_76 ?_
    refine mp_istore (L' := [some (Value.ref 44), some (mp_i 4), some (mp_i g), some (mp_i o), some (mp_i c), some (mp_i 0)]) dX12_changes_77 (by decide) rfl ?_
    exact lX12_changes1_79 (g := g) (o := o) (c := c) (rm := rm) (rf := rf) hA hs h_g h_o h_c h_p (s 0).toNat 0 (rm, rf) ⟨by omega, h_p⟩ (by rw [show sp_chg s 1 4 g o c (rm, rf) = mp_fold (fun k p => if sp_b g k = 1 then sp_chg s 0 (4 + 1) (mp_dif g (mp_bit k)) (o + (if s (1 + 6 * k + 5) = 4 then 1 else 0)) (c + (if s (49 + 3 * 4 + 2) = k then 0 else 1)) p else p) (s 0).toNat 0 (rm, rf) from if_neg (by omega)])
  · refine mp_aload_n dX12_changes_64 rfl ?_
    refine mp_iload_n dX12_changes_65 rfl ?_
    refine mp_iconst dX12_changes_66 ?_
    refine mp_iadd (z := 5) dX12_changes_67 (by first | rfl | omega) ?_
    refine mp_iload_n dX12_changes_68 rfl ?_
    refine mp_iload_n dX12_changes_69 rfl ?_
    refine mp_iload dX12_changes_70 rfl ?_
    refine mp_invV (z := (mX12_changes, 2, 0, 0)) (K' := (0, 0)) (σ1 := A ++ (mp_ms s m img was num pro ask kp kk kf so sz el im pl ra re ((sp_chg s 0 5 g o c (rm, rf)).1) ((sp_chg s 0 5 g o c (rm, rf)).2) sd th ++ B)) (as := [mp_i 5, mp_i g, mp_i o, mp_i c]) (st := []) (st1 := []) dX12_changes_72 svX12_200 (mp_lk hA 0 rfl) rfl rfl (zX12_changes0 (g := g) (o := o) (c := c) (s := s) (m := m) (img := img) (was := was) (num := num) (pro := pro) (ask := ask) (kp := kp) (kk := kk) (kf := kf) (so := so) (sz := sz) (el := el) (im := im) (pl := pl) (ra := ra) (re := re) (rm := rm) (rf := rf) (sd := sd) (th := th) (by first | with_reducible assumption | omega) (by first | with_reducible assumption | omega) (by first | with_reducible assumption | omega) (by first | with_reducible assumption | omega) (by first | with_reducible assumption | omega) (by first | with_reducible assumption | omega)) ⟨Nat.le_of_ble_eq_true rfl, Nat.le_of_ble_eq_true rfl, Nat.le_of_ble_eq_true rfl, Nat.le_of_ble_eq_true rfl, Nat.le_of_ble_eq_true rfl⟩ rfl rfl rfl rfl ?_
    exact mp_vreturn (st := []) dX12_changes_75 rfl ⟨by decide, by decide⟩ (by rw [show sp_chg s 1 4 g o c (rm, rf) = sp_chg s 0 (4 + 1) g o c (rm, rf) from if_pos (by omega)]; rfl)
theorem lX12_changes2_79 {s m img was num pro ask kp kk kf so sz el : Int → Int} {im pl ra re rm rf sd th : Int} {A B : mp_H}  {g : Int} {o : Int} {c : Int} (hA : A.length = 44) (hs : mp_sky s) (h_g : 0 ≤ g ∧ g < 256) (h_o : 0 ≤ o ∧ o ≤ 3) (h_c : 0 ≤ c ∧ c ≤ 3) (h_p : mp_rng (rm, rf)) {R9 : mp_An} : ∀ (n : Nat) (k : Int) (p : Int × Int), ((0 ≤ k ∧ k + (n : Nat) = s 0) ∧ mp_rng p) → R9 = (none, A ++ (mp_ms s m img was num pro ask kp kk kf so sz el im pl ra re ((mp_fold (fun k p => if sp_b g k = 1 then sp_chg s 1 (3 + 1) (mp_dif g (mp_bit k)) (o + (if s (1 + 6 * k + 5) = 3 then 1 else 0)) (c + (if s (49 + 3 * 3 + 2) = k then 0 else 1)) p else p) n k p).1) ((mp_fold (fun k p => if sp_b g k = 1 then sp_chg s 1 (3 + 1) (mp_dif g (mp_bit k)) (o + (if s (1 + 6 * k + 5) = 3 then 1 else 0)) (c + (if s (49 + 3 * 3 + 2) = k then 0 else 1)) p else p) n k p).2) sd th ++ B)) → mp_At (mX12_changes, 4, 0, 0) (0, 0) 79 [some (Value.ref 44), some (mp_i 3), some (mp_i g), some (mp_i o), some (mp_i c), some (mp_i k)] [] (A ++ (mp_ms s m img was num pro ask kp kk kf so sz el im pl ra re p.1 p.2 sd th ++ B)) R9 := by
  intro n
  induction n with
  | zero =>
    intro k p hi hR
    have h0 := hs.1
    refine mp_iload dX12_changes_79 rfl ?_
    refine mp_aload_n dX12_changes_81 rfl ?_
    refine mp_getfield dX12_changes_82 fsX12_9_11 (mp_lk hA 0 rfl) rfl ?_
    refine mp_iconst dX12_changes_85 ?_
    refine mp_iald dX12_changes_86 (mp_lk hA 1 rfl) ⟨by omega, by omega⟩ (by omega) ?_
    refine mp_icmp_ge (tgt := 166) dX12_changes_87 rfl ⟨by omega, by omega⟩ ⟨by omega, by omega⟩ (fun h1 => ?_) (fun h1 => ?_)
    · exact mp_vreturn (st := []) dX12_changes_166 rfl ⟨by decide, by decide⟩ (hR)
    · exfalso; omega
  | succ n ih =>
    intro k p hi hR
    have h0 := hs.1
    have hm := hs.2.1 k (by omega) (by omega)
    have hb9 := hs.2.2.1 3 (by omega) (by omega)
    have hbb := mp_b_bd g k
    have hdn := mp_dif_nn g (mp_bit k)
    have hdl := mp_dif_lt (a := g) (b := mp_bit k) (n := 8) h_g.2
    refine mp_iload dX12_changes_79 rfl ?_
    refine mp_aload_n dX12_changes_81 rfl ?_
    refine mp_getfield dX12_changes_82 fsX12_9_11 (mp_lk hA 0 rfl) rfl ?_
    refine mp_iconst dX12_changes_85 ?_
    refine mp_iald dX12_changes_86 (mp_lk hA 1 rfl) ⟨by omega, by omega⟩ (by omega) ?_
    refine mp_icmp_ge (tgt := 166) dX12_changes_87 rfl ⟨by omega, by omega⟩ ⟨by omega, by omega⟩ (fun h1 => ?_) (fun h1 => ?_)
    · exfalso; omega
    · refine mp_iload_n dX12_changes_90 rfl ?_
      refine mp_iload dX12_changes_91 rfl ?_
      refine mp_ishr (z := mp_shr g k) dX12_changes_93 (mp_z_shr ⟨by omega, by omega⟩ ⟨by omega, by omega⟩) ?_
      refine mp_iconst dX12_changes_94 ?_
      refine mp_iand (z := sp_b g k) dX12_changes_95 (mp_z_b _ _) ?_
      refine mp_iconst dX12_changes_96 ?_
      refine mp_icmp_ne (tgt := 160) dX12_changes_97 rfl ⟨by omega, by omega⟩ ⟨by omega, by omega⟩ (fun h2 => ?_) (fun h2 => ?_)
      · refine mp_iinc (z := k + 1) (L' := [some (Value.ref 44), some (mp_i 3), some (mp_i g), some (mp_i o), some (mp_i c), some (mp_i (k + 1))]) dX12_changes_160 rfl (rfl) (by decide) rfl ?_
        refine mp_goto (tgt := 79) dX12_changes_163 rfl ?_
        have e9 : (fun k p => if sp_b g k = 1 then sp_chg s 1 (3 + 1) (mp_dif g (mp_bit k)) (o + (if s (1 + 6 * k + 5) = 3 then 1 else 0)) (c + (if s (49 + 3 * 3 + 2) = k then 0 else 1)) p else p) k p = p := by exact if_neg (by omega)
        have k9 := ih (k + 1) ((fun k p => if sp_b g k = 1 then sp_chg s 1 (3 + 1) (mp_dif g (mp_bit k)) (o + (if s (1 + 6 * k + 5) = 3 then 1 else 0)) (c + (if s (49 + 3 * 3 + 2) = k then 0 else 1)) p else p) k p) ⟨by omega, by rw [e9]; exact hi.2⟩ hR
        rw [e9] at k9
        exact k9
      · refine mp_aload_n dX12_changes_100 rfl ?_
        refine mp_iload_n dX12_changes_101 rfl ?_
        refine mp_iconst dX12_changes_102 ?_
        refine mp_iadd (z := 4) dX12_changes_103 (by first | rfl | omega) ?_
        refine mp_iload_n dX12_changes_104 rfl ?_
        refine mp_iconst dX12_changes_105 ?_
        refine mp_iload dX12_changes_106 rfl ?_
        refine mp_ishl (z := mp_bit k) dX12_changes_108 (mp_z_bit ⟨by omega, by omega⟩) ?_
        refine mp_iconst dX12_changes_109 ?_
        refine mp_ixor (z := -1 - (mp_bit k)) dX12_changes_110 (mp_z_not _) ?_
        refine mp_iand (z := mp_dif g (mp_bit k)) dX12_changes_111 (mp_z_dif (by first | omega | exact mp_bit_nn _ | exact mp_or_nn _ _) (by first | omega | exact mp_bit_nn _ | exact mp_or_nn _ _)) ?_
        refine mp_iload_n dX12_changes_112 rfl ?_
        refine mp_aload_n dX12_changes_113 rfl ?_
        refine mp_getfield dX12_changes_114 fsX12_9_11 (mp_lk hA 0 rfl) rfl ?_
        refine mp_iload dX12_changes_117 rfl ?_
        refine mp_iconst dX12_changes_119 ?_
        refine mp_invS (z := (mX12_of, 0, 0, 0)) (K' := (0, 0)) (σ1 := A ++ (mp_ms s m img was num pro ask kp kk kf so sz el im pl ra re p.1 p.2 sd th ++ B)) (as := [mp_i k, mp_i 5]) (st := [Value.ref 45, mp_i o, mp_i (mp_dif g (mp_bit k)), mp_i 4, Value.ref 44]) (st1 := [mp_i (1 + 6 * k + 5), Value.ref 45, mp_i o, mp_i (mp_dif g (mp_bit k)), mp_i 4, Value.ref 44]) dX12_changes_120 ssX12_60 (zX12_of (k := k) (x := 5)  ) ⟨Nat.le_of_ble_eq_true rfl, Nat.le_of_ble_eq_true rfl, Nat.le_of_ble_eq_true rfl, Nat.le_of_ble_eq_true rfl, Nat.le_of_ble_eq_true rfl⟩ rfl rfl rfl rfl ?_
        refine mp_iald dX12_changes_123 (mp_lk hA 1 rfl) ⟨by omega, by omega⟩ (by omega) ?_
        refine mp_iload_n dX12_changes_124 rfl ?_
        refine mp_icmp_ne (tgt := 132) dX12_changes_125 rfl ⟨by omega, by omega⟩ ⟨by omega, by omega⟩ (fun h3 => ?_) (fun h3 => ?_)
        · refine mp_iconst dX12_changes_132 ?_
          refine mp_iadd (z := o + 0) dX12_changes_133 (by first | rfl | omega) ?_
          refine mp_iload dX12_changes_134 rfl ?_
          refine mp_aload_n dX12_changes_136 rfl ?_
          refine mp_getfield dX12_changes_137 fsX12_9_11 (mp_lk hA 0 rfl) rfl ?_
          refine mp_iload_n dX12_changes_140 rfl ?_
          refine mp_iconst dX12_changes_141 ?_
          refine mp_invS (z := (mX12_by, 0, 0, 0)) (K' := (0, 0)) (σ1 := A ++ (mp_ms s m img was num pro ask kp kk kf so sz el im pl ra re p.1 p.2 sd th ++ B)) (as := [mp_i 3, mp_i 2]) (st := [Value.ref 45, mp_i c, mp_i (o + 0), mp_i (mp_dif g (mp_bit k)), mp_i 4, Value.ref 44]) (st1 := [mp_i (49 + 3 * 3 + 2), Value.ref 45, mp_i c, mp_i (o + 0), mp_i (mp_dif g (mp_bit k)), mp_i 4, Value.ref 44]) dX12_changes_142 ssX12_49 (zX12_by (l := 3) (x := 2)  ) ⟨Nat.le_of_ble_eq_true rfl, Nat.le_of_ble_eq_true rfl, Nat.le_of_ble_eq_true rfl, Nat.le_of_ble_eq_true rfl, Nat.le_of_ble_eq_true rfl⟩ rfl rfl rfl rfl ?_
          refine mp_iald dX12_changes_145 (mp_lk hA 1 rfl) ⟨by omega, by omega⟩ (by omega) ?_
          refine mp_iload dX12_changes_146 rfl ?_
          refine mp_icmp_ne (tgt := 155) dX12_changes_148 rfl ⟨by omega, by omega⟩ ⟨by omega, by omega⟩ (fun h4 => ?_) (fun h4 => ?_)
          · refine mp_iconst dX12_changes_155 ?_
            refine mp_iadd (z := c + 1) dX12_changes_156 (by first | rfl | omega) ?_
            refine mp_invV (z := (mX12_changes, 3, 0, 0)) (K' := (0, 0)) (σ1 := A ++ (mp_ms s m img was num pro ask kp kk kf so sz el im pl ra re ((sp_chg s 1 4 (mp_dif g (mp_bit k)) (o + 0) (c + 1) (p.1, p.2)).1) ((sp_chg s 1 4 (mp_dif g (mp_bit k)) (o + 0) (c + 1) (p.1, p.2)).2) sd th ++ B)) (as := [mp_i 4, mp_i (mp_dif g (mp_bit k)), mp_i (o + 0), mp_i (c + 1)]) (st := []) (st1 := []) dX12_changes_157 svX12_200 (mp_lk hA 0 rfl) rfl rfl (zX12_changes1 (g := (mp_dif g (mp_bit k))) (o := (o + 0)) (c := (c + 1)) (s := s) (m := m) (img := img) (was := was) (num := num) (pro := pro) (ask := ask) (kp := kp) (kk := kk) (kf := kf) (so := so) (sz := sz) (el := el) (im := im) (pl := pl) (ra := ra) (re := re) (rm := p.1) (rf := p.2) (sd := sd) (th := th) (by first | with_reducible assumption | omega) (by first | with_reducible assumption | omega) (by first | with_reducible assumption | omega) (by first | with_reducible assumption | omega) (by first | with_reducible assumption | omega) (by first | with_reducible assumption | omega)) ⟨Nat.le_of_ble_eq_true rfl, Nat.le_of_ble_eq_true rfl, Nat.le_of_ble_eq_true rfl, Nat.le_of_ble_eq_true rfl, Nat.le_of_ble_eq_true rfl⟩ rfl rfl rfl rfl ?_
            refine mp_iinc (z := k + 1) (L' := [some (Value.ref 44), some (mp_i 3), some (mp_i g), some (mp_i o), some (mp_i c), some (mp_i (k + 1))]) dX12_changes_160 rfl (rfl) (by decide) rfl ?_
            refine mp_goto (tgt := 79) dX12_changes_163 rfl ?_
            have e9 : (fun k p => if sp_b g k = 1 then sp_chg s 1 (3 + 1) (mp_dif g (mp_bit k)) (o + (if s (1 + 6 * k + 5) = 3 then 1 else 0)) (c + (if s (49 + 3 * 3 + 2) = k then 0 else 1)) p else p) k p = sp_chg s 1 (3 + 1) (mp_dif g (mp_bit k)) (o + (if s (1 + 6 * k + 5) = 3 then 1 else 0)) (c + (if s (49 + 3 * 3 + 2) = k then 0 else 1)) p := by exact if_pos (by omega)
            have k9 := ih (k + 1) ((fun k p => if sp_b g k = 1 then sp_chg s 1 (3 + 1) (mp_dif g (mp_bit k)) (o + (if s (1 + 6 * k + 5) = 3 then 1 else 0)) (c + (if s (49 + 3 * 3 + 2) = k then 0 else 1)) p else p) k p) ⟨by omega, by rw [e9]; exact mp_chg_bd s 1 _ _ _ _ p (by decide) (by split <;> omega) (by split <;> omega) hi.2⟩ hR
            rw [e9] at k9
            refine mp_sg ?_ k9
            rw [show o + 0 = o + (if s (1 + 6 * k + 5) = 3 then 1 else 0) from by omega, show c + 1 = c + (if s (49 + 3 * 3 + 2) = k then 0 else 1) from by omega]; rfl
          · refine mp_iconst dX12_changes_151 ?_
            refine mp_goto (tgt := 156) dX12_changes_152 rfl ?_
            refine mp_iadd (z := c + 0) dX12_changes_156 (by first | rfl | omega) ?_
            refine mp_invV (z := (mX12_changes, 3, 0, 0)) (K' := (0, 0)) (σ1 := A ++ (mp_ms s m img was num pro ask kp kk kf so sz el im pl ra re ((sp_chg s 1 4 (mp_dif g (mp_bit k)) (o + 0) (c + 0) (p.1, p.2)).1) ((sp_chg s 1 4 (mp_dif g (mp_bit k)) (o + 0) (c + 0) (p.1, p.2)).2) sd th ++ B)) (as := [mp_i 4, mp_i (mp_dif g (mp_bit k)), mp_i (o + 0), mp_i (c + 0)]) (st := []) (st1 := []) dX12_changes_157 svX12_200 (mp_lk hA 0 rfl) rfl rfl (zX12_changes1 (g := (mp_dif g (mp_bit k))) (o := (o + 0)) (c := (c + 0)) (s := s) (m := m) (img := img) (was := was) (num := num) (pro := pro) (ask := ask) (kp := kp) (kk := kk) (kf := kf) (so := so) (sz := sz) (el := el) (im := im) (pl := pl) (ra := ra) (re := re) (rm := p.1) (rf := p.2) (sd := sd) (th := th) (by first | with_reducible assumption | omega) (by first | with_reducible assumption | omega) (by first | with_reducible assumption | omega) (by first | with_reducible assumption | omega) (by first | with_reducible assumption | omega) (by first | with_reducible assumption | omega)) ⟨Nat.le_of_ble_eq_true rfl, Nat.le_of_ble_eq_true rfl, Nat.le_of_ble_eq_true rfl, Nat.le_of_ble_eq_true rfl, Nat.le_of_ble_eq_true rfl⟩ rfl rfl rfl rfl ?_
            refine mp_iinc (z := k + 1) (L' := [some (Value.ref 44), some (mp_i 3), some (mp_i g), some (mp_i o), some (mp_i c), some (mp_i (k + 1))]) dX12_changes_160 rfl (rfl) (by decide) rfl ?_
            refine mp_goto (tgt := 79) dX12_changes_163 rfl ?_
            have e9 : (fun k p => if sp_b g k = 1 then sp_chg s 1 (3 + 1) (mp_dif g (mp_bit k)) (o + (if s (1 + 6 * k + 5) = 3 then 1 else 0)) (c + (if s (49 + 3 * 3 + 2) = k then 0 else 1)) p else p) k p = sp_chg s 1 (3 + 1) (mp_dif g (mp_bit k)) (o + (if s (1 + 6 * k + 5) = 3 then 1 else 0)) (c + (if s (49 + 3 * 3 + 2) = k then 0 else 1)) p := by exact if_pos (by omega)
            have k9 := ih (k + 1) ((fun k p => if sp_b g k = 1 then sp_chg s 1 (3 + 1) (mp_dif g (mp_bit k)) (o + (if s (1 + 6 * k + 5) = 3 then 1 else 0)) (c + (if s (49 + 3 * 3 + 2) = k then 0 else 1)) p else p) k p) ⟨by omega, by rw [e9]; exact mp_chg_bd s 1 _ _ _ _ p (by decide) (by split <;> omega) (by split <;> omega) hi.2⟩ hR
            rw [e9] at k9
            refine mp_sg ?_ k9
            rw [show o + 0 = o + (if s (1 + 6 * k + 5) = 3 then 1 else 0) from by omega, show c + 0 = c + (if s (49 + 3 * 3 + 2) = k then 0 else 1) from by omega]; rfl
        · refine mp_iconst dX12_changes_128 ?_
          refine mp_goto (tgt := 133) dX12_changes_129 rfl ?_
          refine mp_iadd (z := o + 1) dX12_changes_133 (by first | rfl | omega) ?_
          refine mp_iload dX12_changes_134 rfl ?_
          refine mp_aload_n dX12_changes_136 rfl ?_
          refine mp_getfield dX12_changes_137 fsX12_9_11 (mp_lk hA 0 rfl) rfl ?_
          refine mp_iload_n dX12_changes_140 rfl ?_
          refine mp_iconst dX12_changes_141 ?_
          refine mp_invS (z := (mX12_by, 0, 0, 0)) (K' := (0, 0)) (σ1 := A ++ (mp_ms s m img was num pro ask kp kk kf so sz el im pl ra re p.1 p.2 sd th ++ B)) (as := [mp_i 3, mp_i 2]) (st := [Value.ref 45, mp_i c, mp_i (o + 1), mp_i (mp_dif g (mp_bit k)), mp_i 4, Value.ref 44]) (st1 := [mp_i (49 + 3 * 3 + 2), Value.ref 45, mp_i c, mp_i (o + 1), mp_i (mp_dif g (mp_bit k)), mp_i 4, Value.ref 44]) dX12_changes_142 ssX12_49 (zX12_by (l := 3) (x := 2)  ) ⟨Nat.le_of_ble_eq_true rfl, Nat.le_of_ble_eq_true rfl, Nat.le_of_ble_eq_true rfl, Nat.le_of_ble_eq_true rfl, Nat.le_of_ble_eq_true rfl⟩ rfl rfl rfl rfl ?_
          refine mp_iald dX12_changes_145 (mp_lk hA 1 rfl) ⟨by omega, by omega⟩ (by omega) ?_
          refine mp_iload dX12_changes_146 rfl ?_
          refine mp_icmp_ne (tgt := 155) dX12_changes_148 rfl ⟨by omega, by omega⟩ ⟨by omega, by omega⟩ (fun h5 => ?_) (fun h5 => ?_)
          · refine mp_iconst dX12_changes_155 ?_
            refine mp_iadd (z := c + 1) dX12_changes_156 (by first | rfl | omega) ?_
            refine mp_invV (z := (mX12_changes, 3, 0, 0)) (K' := (0, 0)) (σ1 := A ++ (mp_ms s m img was num pro ask kp kk kf so sz el im pl ra re ((sp_chg s 1 4 (mp_dif g (mp_bit k)) (o + 1) (c + 1) (p.1, p.2)).1) ((sp_chg s 1 4 (mp_dif g (mp_bit k)) (o + 1) (c + 1) (p.1, p.2)).2) sd th ++ B)) (as := [mp_i 4, mp_i (mp_dif g (mp_bit k)), mp_i (o + 1), mp_i (c + 1)]) (st := []) (st1 := []) dX12_changes_157 svX12_200 (mp_lk hA 0 rfl) rfl rfl (zX12_changes1 (g := (mp_dif g (mp_bit k))) (o := (o + 1)) (c := (c + 1)) (s := s) (m := m) (img := img) (was := was) (num := num) (pro := pro) (ask := ask) (kp := kp) (kk := kk) (kf := kf) (so := so) (sz := sz) (el := el) (im := im) (pl := pl) (ra := ra) (re := re) (rm := p.1) (rf := p.2) (sd := sd) (th := th) (by first | with_reducible assumption | omega) (by first | with_reducible assumption | omega) (by first | with_reducible assumption | omega) (by first | with_reducible assumption | omega) (by first | with_reducible assumption | omega) (by first | with_reducible assumption | omega)) ⟨Nat.le_of_ble_eq_true rfl, Nat.le_of_ble_eq_true rfl, Nat.le_of_ble_eq_true rfl, Nat.le_of_ble_eq_true rfl, Nat.le_of_ble_eq_true rfl⟩ rfl rfl rfl rfl ?_
            refine mp_iinc (z := k + 1) (L' := [some (Value.ref 44), some (mp_i 3), some (mp_i g), some (mp_i o), some (mp_i c), some (mp_i (k + 1))]) dX12_changes_160 rfl (rfl) (by decide) rfl ?_
            refine mp_goto (tgt := 79) dX12_changes_163 rfl ?_
            have e9 : (fun k p => if sp_b g k = 1 then sp_chg s 1 (3 + 1) (mp_dif g (mp_bit k)) (o + (if s (1 + 6 * k + 5) = 3 then 1 else 0)) (c + (if s (49 + 3 * 3 + 2) = k then 0 else 1)) p else p) k p = sp_chg s 1 (3 + 1) (mp_dif g (mp_bit k)) (o + (if s (1 + 6 * k + 5) = 3 then 1 else 0)) (c + (if s (49 + 3 * 3 + 2) = k then 0 else 1)) p := by exact if_pos (by omega)
            have k9 := ih (k + 1) ((fun k p => if sp_b g k = 1 then sp_chg s 1 (3 + 1) (mp_dif g (mp_bit k)) (o + (if s (1 + 6 * k + 5) = 3 then 1 else 0)) (c + (if s (49 + 3 * 3 + 2) = k then 0 else 1)) p else p) k p) ⟨by omega, by rw [e9]; exact mp_chg_bd s 1 _ _ _ _ p (by decide) (by split <;> omega) (by split <;> omega) hi.2⟩ hR
            rw [e9] at k9
            refine mp_sg ?_ k9
            rw [show o + 1 = o + (if s (1 + 6 * k + 5) = 3 then 1 else 0) from by omega, show c + 1 = c + (if s (49 + 3 * 3 + 2) = k then 0 else 1) from by omega]; rfl
          · refine mp_iconst dX12_changes_151 ?_
            refine mp_goto (tgt := 156) dX12_changes_152 rfl ?_
            refine mp_iadd (z := c + 0) dX12_changes_156 (by first | rfl | omega) ?_
            refine mp_invV (z := (mX12_changes, 3, 0, 0)) (K' := (0, 0)) (σ1 := A ++ (mp_ms s m img was num pro ask kp kk kf so sz el im pl ra re ((sp_chg s 1 4 (mp_dif g (mp_bit k)) (o + 1) (c + 0) (p.1, p.2)).1) ((sp_chg s 1 4 (mp_dif g (mp_bit k)) (o + 1) (c + 0) (p.1, p.2)).2) sd th ++ B)) (as := [mp_i 4, mp_i (mp_dif g (mp_bit k)), mp_i (o + 1), mp_i (c + 0)]) (st := []) (st1 := []) dX12_changes_157 svX12_200 (mp_lk hA 0 rfl) rfl rfl (zX12_changes1 (g := (mp_dif g (mp_bit k))) (o := (o + 1)) (c := (c + 0)) (s := s) (m := m) (img := img) (was := was) (num := num) (pro := pro) (ask := ask) (kp := kp) (kk := kk) (kf := kf) (so := so) (sz := sz) (el := el) (im := im) (pl := pl) (ra := ra) (re := re) (rm := p.1) (rf := p.2) (sd := sd) (th := th) (by first | with_reducible assumption | omega) (by first | with_reducible assumption | omega) (by first | with_reducible assumption | omega) (by first | with_reducible assumption | omega) (by first | with_reducible assumption | omega) (by first | with_reducible assumption | omega)) ⟨Nat.le_of_ble_eq_true rfl, Nat.le_of_ble_eq_true rfl, Nat.le_of_ble_eq_true rfl, Nat.le_of_ble_eq_true rfl, Nat.le_of_ble_eq_true rfl⟩ rfl rfl rfl rfl ?_
            refine mp_iinc (z := k + 1) (L' := [some (Value.ref 44), some (mp_i 3), some (mp_i g), some (mp_i o), some (mp_i c), some (mp_i (k + 1))]) dX12_changes_160 rfl (rfl) (by decide) rfl ?_
            refine mp_goto (tgt := 79) dX12_changes_163 rfl ?_
            have e9 : (fun k p => if sp_b g k = 1 then sp_chg s 1 (3 + 1) (mp_dif g (mp_bit k)) (o + (if s (1 + 6 * k + 5) = 3 then 1 else 0)) (c + (if s (49 + 3 * 3 + 2) = k then 0 else 1)) p else p) k p = sp_chg s 1 (3 + 1) (mp_dif g (mp_bit k)) (o + (if s (1 + 6 * k + 5) = 3 then 1 else 0)) (c + (if s (49 + 3 * 3 + 2) = k then 0 else 1)) p := by exact if_pos (by omega)
            have k9 := ih (k + 1) ((fun k p => if sp_b g k = 1 then sp_chg s 1 (3 + 1) (mp_dif g (mp_bit k)) (o + (if s (1 + 6 * k + 5) = 3 then 1 else 0)) (c + (if s (49 + 3 * 3 + 2) = k then 0 else 1)) p else p) k p) ⟨by omega, by rw [e9]; exact mp_chg_bd s 1 _ _ _ _ p (by decide) (by split <;> omega) (by split <;> omega) hi.2⟩ hR
            rw [e9] at k9
            refine mp_sg ?_ k9
            rw [show o + 1 = o + (if s (1 + 6 * k + 5) = 3 then 1 else 0) from by omega, show c + 0 = c + (if s (49 + 3 * 3 + 2) = k then 0 else 1) from by omega]; rfl
theorem zX12_changes2 {s m img was num pro ask kp kk kf so sz el : Int → Int} {im pl ra re rm rf sd th : Int} {A B : mp_H}  {g : Int} {o : Int} {c : Int} (hA : A.length = 44) (hs : mp_sky s) (h_g : 0 ≤ g ∧ g < 256) (h_o : 0 ≤ o ∧ o ≤ 3) (h_c : 0 ≤ c ∧ c ≤ 3) (h_p : mp_rng (rm, rf)) : mp_Call (mX12_changes, 4, 0, 0) [Value.ref 44, mp_i 3, mp_i g, mp_i o, mp_i c] (A ++ (mp_ms s m img was num pro ask kp kk kf so sz el im pl ra re rm rf sd th ++ B)) (none, A ++ (mp_ms s m img was num pro ask kp kk kf so sz el im pl ra re ((sp_chg s 2 3 g o c (rm, rf)).1) ((sp_chg s 2 3 g o c (rm, rf)).2) sd th ++ B)) := by
  refine mp_Call.of (L := [some (Value.ref 44), some (mp_i 3), some (mp_i g), some (mp_i o), some (mp_i c), none]) pnX12 (Nat.le_of_ble_eq_true rfl) rfl ?_
  have h0 := hs.1
  have hb9 := hs.2.2.1 3 (by omega) (by omega)
  refine mp_iload_n dX12_changes_0 rfl ?_
  refine mp_iconst dX12_changes_1 ?_
  refine mp_icmp_ne (tgt := 49) dX12_changes_2 rfl ⟨by decide, by decide⟩ ⟨by decide, by decide⟩ (fun _ => ?_) (fun h1 => absurd h1 (by decide))
  refine mp_aload_n dX12_changes_49 rfl ?_
  refine mp_getfield dX12_changes_50 fsX12_9_11 (mp_lk hA 0 rfl) rfl ?_
  refine mp_iload_n dX12_changes_53 rfl ?_
  refine mp_iconst dX12_changes_54 ?_
  refine mp_invS (z := (mX12_by, 0, 0, 0)) (K' := (0, 0)) (σ1 := A ++ (mp_ms s m img was num pro ask kp kk kf so sz el im pl ra re rm rf sd th ++ B)) (as := [mp_i 3, mp_i 2]) (st := [Value.ref 45]) (st1 := [mp_i (49 + 3 * 3 + 2), Value.ref 45]) dX12_changes_55 ssX12_49 (zX12_by (l := 3) (x := 2)  ) ⟨Nat.le_of_ble_eq_true rfl, Nat.le_of_ble_eq_true rfl, Nat.le_of_ble_eq_true rfl, Nat.le_of_ble_eq_true rfl, Nat.le_of_ble_eq_true rfl⟩ rfl rfl rfl rfl ?_
  refine mp_iald dX12_changes_58 (mp_lk hA 1 rfl) ⟨by omega, by omega⟩ (by omega) ?_
  refine mp_bipush dX12_changes_59 rfl ?_
  refine mp_icmp_ne (tgt := 76) dX12_changes_61 rfl ⟨by omega, by omega⟩ ⟨by omega, by omega⟩ (fun h2 => ?_) (fun h2 => ?_)
  · refine mp_iconst dX12_changes_76 ?_
    refine mp_istore (L' := [some (Value.ref 44), some (mp_i 3), some (mp_i g), some (mp_i o), some (mp_i c), some (mp_i 0)]) dX12_changes_77 (by decide) rfl ?_
    exact lX12_changes2_79 (g := g) (o := o) (c := c) (rm := rm) (rf := rf) hA hs h_g h_o h_c h_p (s 0).toNat 0 (rm, rf) ⟨by omega, h_p⟩ (by rw [show sp_chg s 2 3 g o c (rm, rf) = mp_fold (fun k p => if sp_b g k = 1 then sp_chg s 1 (3 + 1) (mp_dif g (mp_bit k)) (o + (if s (1 + 6 * k + 5) = 3 then 1 else 0)) (c + (if s (49 + 3 * 3 + 2) = k then 0 else 1)) p else p) (s 0).toNat 0 (rm, rf) from if_neg (by omega)])
  · refine mp_aload_n dX12_changes_64 rfl ?_
    refine mp_iload_n dX12_changes_65 rfl ?_
    refine mp_iconst dX12_changes_66 ?_
    refine mp_iadd (z := 4) dX12_changes_67 (by first | rfl | omega) ?_
    refine mp_iload_n dX12_changes_68 rfl ?_
    refine mp_iload_n dX12_changes_69 rfl ?_
    refine mp_iload dX12_changes_70 rfl ?_
    refine mp_invV (z := (mX12_changes, 3, 0, 0)) (K' := (0, 0)) (σ1 := A ++ (mp_ms s m img was num pro ask kp kk kf so sz el im pl ra re ((sp_chg s 1 4 g o c (rm, rf)).1) ((sp_chg s 1 4 g o c (rm, rf)).2) sd th ++ B)) (as := [mp_i 4, mp_i g, mp_i o, mp_i c]) (st := []) (st1 := []) dX12_changes_72 svX12_200 (mp_lk hA 0 rfl) rfl rfl (zX12_changes1 (g := g) (o := o) (c := c) (s := s) (m := m) (img := img) (was := was) (num := num) (pro := pro) (ask := ask) (kp := kp) (kk := kk) (kf := kf) (so := so) (sz := sz) (el := el) (im := im) (pl := pl) (ra := ra) (re := re) (rm := rm) (rf := rf) (sd := sd) (th := th) (by first | with_reducible assumption | omega) (by first | with_reducible assumption | omega) (by first | with_reducible assumption | omega) (by first | with_reducible assumption | omega) (by first | with_reducible assumption | omega) (by first | with_reducible assumption | omega)) ⟨Nat.le_of_ble_eq_true rfl, Nat.le_of_ble_eq_true rfl, Nat.le_of_ble_eq_true rfl, Nat.le_of_ble_eq_true rfl, Nat.le_of_ble_eq_true rfl⟩ rfl rfl rfl rfl ?_
    exact mp_vreturn (st := []) dX12_changes_75 rfl ⟨by decide, by decide⟩ (by rw [show sp_chg s 2 3 g o c (rm, rf) = sp_chg s 1 (3 + 1) g o c (rm, rf) from if_pos (by omega)]; rfl)
theorem lX12_changes3_79 {s m img was num pro ask kp kk kf so sz el : Int → Int} {im pl ra re rm rf sd th : Int} {A B : mp_H}  {g : Int} {o : Int} {c : Int} (hA : A.length = 44) (hs : mp_sky s) (h_g : 0 ≤ g ∧ g < 256) (h_o : 0 ≤ o ∧ o ≤ 2) (h_c : 0 ≤ c ∧ c ≤ 2) (h_p : mp_rng (rm, rf)) {R9 : mp_An} : ∀ (n : Nat) (k : Int) (p : Int × Int), ((0 ≤ k ∧ k + (n : Nat) = s 0) ∧ mp_rng p) → R9 = (none, A ++ (mp_ms s m img was num pro ask kp kk kf so sz el im pl ra re ((mp_fold (fun k p => if sp_b g k = 1 then sp_chg s 2 (2 + 1) (mp_dif g (mp_bit k)) (o + (if s (1 + 6 * k + 5) = 2 then 1 else 0)) (c + (if s (49 + 3 * 2 + 2) = k then 0 else 1)) p else p) n k p).1) ((mp_fold (fun k p => if sp_b g k = 1 then sp_chg s 2 (2 + 1) (mp_dif g (mp_bit k)) (o + (if s (1 + 6 * k + 5) = 2 then 1 else 0)) (c + (if s (49 + 3 * 2 + 2) = k then 0 else 1)) p else p) n k p).2) sd th ++ B)) → mp_At (mX12_changes, 5, 0, 0) (0, 0) 79 [some (Value.ref 44), some (mp_i 2), some (mp_i g), some (mp_i o), some (mp_i c), some (mp_i k)] [] (A ++ (mp_ms s m img was num pro ask kp kk kf so sz el im pl ra re p.1 p.2 sd th ++ B)) R9 := by
  intro n
  induction n with
  | zero =>
    intro k p hi hR
    have h0 := hs.1
    refine mp_iload dX12_changes_79 rfl ?_
    refine mp_aload_n dX12_changes_81 rfl ?_
    refine mp_getfield dX12_changes_82 fsX12_9_11 (mp_lk hA 0 rfl) rfl ?_
    refine mp_iconst dX12_changes_85 ?_
    refine mp_iald dX12_changes_86 (mp_lk hA 1 rfl) ⟨by omega, by omega⟩ (by omega) ?_
    refine mp_icmp_ge (tgt := 166) dX12_changes_87 rfl ⟨by omega, by omega⟩ ⟨by omega, by omega⟩ (fun h1 => ?_) (fun h1 => ?_)
    · exact mp_vreturn (st := []) dX12_changes_166 rfl ⟨by decide, by decide⟩ (hR)
    · exfalso; omega
  | succ n ih =>
    intro k p hi hR
    have h0 := hs.1
    have hm := hs.2.1 k (by omega) (by omega)
    have hb9 := hs.2.2.1 2 (by omega) (by omega)
    have hbb := mp_b_bd g k
    have hdn := mp_dif_nn g (mp_bit k)
    have hdl := mp_dif_lt (a := g) (b := mp_bit k) (n := 8) h_g.2
    refine mp_iload dX12_changes_79 rfl ?_
    refine mp_aload_n dX12_changes_81 rfl ?_
    refine mp_getfield dX12_changes_82 fsX12_9_11 (mp_lk hA 0 rfl) rfl ?_
    refine mp_iconst dX12_changes_85 ?_
    refine mp_iald dX12_changes_86 (mp_lk hA 1 rfl) ⟨by omega, by omega⟩ (by omega) ?_
    refine mp_icmp_ge (tgt := 166) dX12_changes_87 rfl ⟨by omega, by omega⟩ ⟨by omega, by omega⟩ (fun h1 => ?_) (fun h1 => ?_)
    · exfalso; omega
    · refine mp_iload_n dX12_changes_90 rfl ?_
      refine mp_iload dX12_changes_91 rfl ?_
      refine mp_ishr (z := mp_shr g k) dX12_changes_93 (mp_z_shr ⟨by omega, by omega⟩ ⟨by omega, by omega⟩) ?_
      refine mp_iconst dX12_changes_94 ?_
      refine mp_iand (z := sp_b g k) dX12_changes_95 (mp_z_b _ _) ?_
      refine mp_iconst dX12_changes_96 ?_
      refine mp_icmp_ne (tgt := 160) dX12_changes_97 rfl ⟨by omega, by omega⟩ ⟨by omega, by omega⟩ (fun h2 => ?_) (fun h2 => ?_)
      · refine mp_iinc (z := k + 1) (L' := [some (Value.ref 44), some (mp_i 2), some (mp_i g), some (mp_i o), some (mp_i c), some (mp_i (k + 1))]) dX12_changes_160 rfl (rfl) (by decide) rfl ?_
        refine mp_goto (tgt := 79) dX12_changes_163 rfl ?_
        have e9 : (fun k p => if sp_b g k = 1 then sp_chg s 2 (2 + 1) (mp_dif g (mp_bit k)) (o + (if s (1 + 6 * k + 5) = 2 then 1 else 0)) (c + (if s (49 + 3 * 2 + 2) = k then 0 else 1)) p else p) k p = p := by exact if_neg (by omega)
        have k9 := ih (k + 1) ((fun k p => if sp_b g k = 1 then sp_chg s 2 (2 + 1) (mp_dif g (mp_bit k)) (o + (if s (1 + 6 * k + 5) = 2 then 1 else 0)) (c + (if s (49 + 3 * 2 + 2) = k then 0 else 1)) p else p) k p) ⟨by omega, by rw [e9]; exact hi.2⟩ hR
        rw [e9] at k9
        exact k9
      · refine mp_aload_n dX12_changes_100 rfl ?_
        refine mp_iload_n dX12_changes_101 rfl ?_
        refine mp_iconst dX12_changes_102 ?_
        refine mp_iadd (z := 3) dX12_changes_103 (by first | rfl | omega) ?_
        refine mp_iload_n dX12_changes_104 rfl ?_
        refine mp_iconst dX12_changes_105 ?_
        refine mp_iload dX12_changes_106 rfl ?_
        refine mp_ishl (z := mp_bit k) dX12_changes_108 (mp_z_bit ⟨by omega, by omega⟩) ?_
        refine mp_iconst dX12_changes_109 ?_
        refine mp_ixor (z := -1 - (mp_bit k)) dX12_changes_110 (mp_z_not _) ?_
        refine mp_iand (z := mp_dif g (mp_bit k)) dX12_changes_111 (mp_z_dif (by first | omega | exact mp_bit_nn _ | exact mp_or_nn _ _) (by first | omega | exact mp_bit_nn _ | exact mp_or_nn _ _)) ?_
        refine mp_iload_n dX12_changes_112 rfl ?_
        refine mp_aload_n dX12_changes_113 rfl ?_
        refine mp_getfield dX12_changes_114 fsX12_9_11 (mp_lk hA 0 rfl) rfl ?_
        refine mp_iload dX12_changes_117 rfl ?_
        refine mp_iconst dX12_changes_119 ?_
        refine mp_invS (z := (mX12_of, 0, 0, 0)) (K' := (0, 0)) (σ1 := A ++ (mp_ms s m img was num pro ask kp kk kf so sz el im pl ra re p.1 p.2 sd th ++ B)) (as := [mp_i k, mp_i 5]) (st := [Value.ref 45, mp_i o, mp_i (mp_dif g (mp_bit k)), mp_i 3, Value.ref 44]) (st1 := [mp_i (1 + 6 * k + 5), Value.ref 45, mp_i o, mp_i (mp_dif g (mp_bit k)), mp_i 3, Value.ref 44]) dX12_changes_120 ssX12_60 (zX12_of (k := k) (x := 5)  ) ⟨Nat.le_of_ble_eq_true rfl, Nat.le_of_ble_eq_true rfl, Nat.le_of_ble_eq_true rfl, Nat.le_of_ble_eq_true rfl, Nat.le_of_ble_eq_true rfl⟩ rfl rfl rfl rfl ?_
        refine mp_iald dX12_changes_123 (mp_lk hA 1 rfl) ⟨by omega, by omega⟩ (by omega) ?_
        refine mp_iload_n dX12_changes_124 rfl ?_
        refine mp_icmp_ne (tgt := 132) dX12_changes_125 rfl ⟨by omega, by omega⟩ ⟨by omega, by omega⟩ (fun h3 => ?_) (fun h3 => ?_)
        · refine mp_iconst dX12_changes_132 ?_
          refine mp_iadd (z := o + 0) dX12_changes_133 (by first | rfl | omega) ?_
          refine mp_iload dX12_changes_134 rfl ?_
          refine mp_aload_n dX12_changes_136 rfl ?_
          refine mp_getfield dX12_changes_137 fsX12_9_11 (mp_lk hA 0 rfl) rfl ?_
          refine mp_iload_n dX12_changes_140 rfl ?_
          refine mp_iconst dX12_changes_141 ?_
          refine mp_invS (z := (mX12_by, 0, 0, 0)) (K' := (0, 0)) (σ1 := A ++ (mp_ms s m img was num pro ask kp kk kf so sz el im pl ra re p.1 p.2 sd th ++ B)) (as := [mp_i 2, mp_i 2]) (st := [Value.ref 45, mp_i c, mp_i (o + 0), mp_i (mp_dif g (mp_bit k)), mp_i 3, Value.ref 44]) (st1 := [mp_i (49 + 3 * 2 + 2), Value.ref 45, mp_i c, mp_i (o + 0), mp_i (mp_dif g (mp_bit k)), mp_i 3, Value.ref 44]) dX12_changes_142 ssX12_49 (zX12_by (l := 2) (x := 2)  ) ⟨Nat.le_of_ble_eq_true rfl, Nat.le_of_ble_eq_true rfl, Nat.le_of_ble_eq_true rfl, Nat.le_of_ble_eq_true rfl, Nat.le_of_ble_eq_true rfl⟩ rfl rfl rfl rfl ?_
          refine mp_iald dX12_changes_145 (mp_lk hA 1 rfl) ⟨by omega, by omega⟩ (by omega) ?_
          refine mp_iload dX12_changes_146 rfl ?_
          refine mp_icmp_ne (tgt := 155) dX12_changes_148 rfl ⟨by omega, by omega⟩ ⟨by omega, by omega⟩ (fun h4 => ?_) (fun h4 => ?_)
          · refine mp_iconst dX12_changes_155 ?_
            refine mp_iadd (z := c + 1) dX12_changes_156 (by first | rfl | omega) ?_
            refine mp_invV (z := (mX12_changes, 4, 0, 0)) (K' := (0, 0)) (σ1 := A ++ (mp_ms s m img was num pro ask kp kk kf so sz el im pl ra re ((sp_chg s 2 3 (mp_dif g (mp_bit k)) (o + 0) (c + 1) (p.1, p.2)).1) ((sp_chg s 2 3 (mp_dif g (mp_bit k)) (o + 0) (c + 1) (p.1, p.2)).2) sd th ++ B)) (as := [mp_i 3, mp_i (mp_dif g (mp_bit k)), mp_i (o + 0), mp_i (c + 1)]) (st := []) (st1 := []) dX12_changes_157 svX12_200 (mp_lk hA 0 rfl) rfl rfl (zX12_changes2 (g := (mp_dif g (mp_bit k))) (o := (o + 0)) (c := (c + 1)) (s := s) (m := m) (img := img) (was := was) (num := num) (pro := pro) (ask := ask) (kp := kp) (kk := kk) (kf := kf) (so := so) (sz := sz) (el := el) (im := im) (pl := pl) (ra := ra) (re := re) (rm := p.1) (rf := p.2) (sd := sd) (th := th) (by first | with_reducible assumption | omega) (by first | with_reducible assumption | omega) (by first | with_reducible assumption | omega) (by first | with_reducible assumption | omega) (by first | with_reducible assumption | omega) (by first | with_reducible assumption | omega)) ⟨Nat.le_of_ble_eq_true rfl, Nat.le_of_ble_eq_true rfl, Nat.le_of_ble_eq_true rfl, Nat.le_of_ble_eq_true rfl, Nat.le_of_ble_eq_true rfl⟩ rfl rfl rfl rfl ?_
            refine mp_iinc (z := k + 1) (L' := [some (Value.ref 44), some (mp_i 2), some (mp_i g), some (mp_i o), some (mp_i c), some (mp_i (k + 1))]) dX12_changes_160 rfl (rfl) (by decide) rfl ?_
            refine mp_goto (tgt := 79) dX12_changes_163 rfl ?_
            have e9 : (fun k p => if sp_b g k = 1 then sp_chg s 2 (2 + 1) (mp_dif g (mp_bit k)) (o + (if s (1 + 6 * k + 5) = 2 then 1 else 0)) (c + (if s (49 + 3 * 2 + 2) = k then 0 else 1)) p else p) k p = sp_chg s 2 (2 + 1) (mp_dif g (mp_bit k)) (o + (if s (1 + 6 * k + 5) = 2 then 1 else 0)) (c + (if s (49 + 3 * 2 + 2) = k then 0 else 1)) p := by exact if_pos (by omega)
            have k9 := ih (k + 1) ((fun k p => if sp_b g k = 1 then sp_chg s 2 (2 + 1) (mp_dif g (mp_bit k)) (o + (if s (1 + 6 * k + 5) = 2 then 1 else 0)) (c + (if s (49 + 3 * 2 + 2) = k then 0 else 1)) p else p) k p) ⟨by omega, by rw [e9]; exact mp_chg_bd s 2 _ _ _ _ p (by decide) (by split <;> omega) (by split <;> omega) hi.2⟩ hR
            rw [e9] at k9
            refine mp_sg ?_ k9
            rw [show o + 0 = o + (if s (1 + 6 * k + 5) = 2 then 1 else 0) from by omega, show c + 1 = c + (if s (49 + 3 * 2 + 2) = k then 0 else 1) from by omega]; rfl
          · refine mp_iconst dX12_changes_151 ?_
            refine mp_goto (tgt := 156) dX12_changes_152 rfl ?_
            refine mp_iadd (z := c + 0) dX12_changes_156 (by first | rfl | omega) ?_
            refine mp_invV (z := (mX12_changes, 4, 0, 0)) (K' := (0, 0)) (σ1 := A ++ (mp_ms s m img was num pro ask kp kk kf so sz el im pl ra re ((sp_chg s 2 3 (mp_dif g (mp_bit k)) (o + 0) (c + 0) (p.1, p.2)).1) ((sp_chg s 2 3 (mp_dif g (mp_bit k)) (o + 0) (c + 0) (p.1, p.2)).2) sd th ++ B)) (as := [mp_i 3, mp_i (mp_dif g (mp_bit k)), mp_i (o + 0), mp_i (c + 0)]) (st := []) (st1 := []) dX12_changes_157 svX12_200 (mp_lk hA 0 rfl) rfl rfl (zX12_changes2 (g := (mp_dif g (mp_bit k))) (o := (o + 0)) (c := (c + 0)) (s := s) (m := m) (img := img) (was := was) (num := num) (pro := pro) (ask := ask) (kp := kp) (kk := kk) (kf := kf) (so := so) (sz := sz) (el := el) (im := im) (pl := pl) (ra := ra) (re := re) (rm := p.1) (rf := p.2) (sd := sd) (th := th) (by first | with_reducible assumption | omega) (by first | with_reducible assumption | omega) (by first | with_reducible assumption | omega) (by first | with_reducible assumption | omega) (by first | with_reducible assumption | omega) (by first | with_reducible assumption | omega)) ⟨Nat.le_of_ble_eq_true rfl, Nat.le_of_ble_eq_true rfl, Nat.le_of_ble_eq_true rfl, Nat.le_of_ble_eq_true rfl, Nat.le_of_ble_eq_true rfl⟩ rfl rfl rfl rfl ?_
            refine mp_iinc (z := k + 1) (L' := [some (Value.ref 44), some (mp_i 2), some (mp_i g), some (mp_i o), some (mp_i c), some (mp_i (k + 1))]) dX12_changes_160 rfl (rfl) (by decide) rfl ?_
            refine mp_goto (tgt := 79) dX12_changes_163 rfl ?_
            have e9 : (fun k p => if sp_b g k = 1 then sp_chg s 2 (2 + 1) (mp_dif g (mp_bit k)) (o + (if s (1 + 6 * k + 5) = 2 then 1 else 0)) (c + (if s (49 + 3 * 2 + 2) = k then 0 else 1)) p else p) k p = sp_chg s 2 (2 + 1) (mp_dif g (mp_bit k)) (o + (if s (1 + 6 * k + 5) = 2 then 1 else 0)) (c + (if s (49 + 3 * 2 + 2) = k then 0 else 1)) p := by exact if_pos (by omega)
            have k9 := ih (k + 1) ((fun k p => if sp_b g k = 1 then sp_chg s 2 (2 + 1) (mp_dif g (mp_bit k)) (o + (if s (1 + 6 * k + 5) = 2 then 1 else 0)) (c + (if s (49 + 3 * 2 + 2) = k then 0 else 1)) p else p) k p) ⟨by omega, by rw [e9]; exact mp_chg_bd s 2 _ _ _ _ p (by decide) (by split <;> omega) (by split <;> omega) hi.2⟩ hR
            rw [e9] at k9
            refine mp_sg ?_ k9
            rw [show o + 0 = o + (if s (1 + 6 * k + 5) = 2 then 1 else 0) from by omega, show c + 0 = c + (if s (49 + 3 * 2 + 2) = k then 0 else 1) from by omega]; rfl
        · refine mp_iconst dX12_changes_128 ?_
          refine mp_goto (tgt := 133) dX12_changes_129 rfl ?_
          refine mp_iadd (z := o + 1) dX12_changes_133 (by first | rfl | omega) ?_
          refine mp_iload dX12_changes_134 rfl ?_
          refine mp_aload_n dX12_changes_136 rfl ?_
          refine mp_getfield dX12_changes_137 fsX12_9_11 (mp_lk hA 0 rfl) rfl ?_
          refine mp_iload_n dX12_changes_140 rfl ?_
          refine mp_iconst dX12_changes_141 ?_
          refine mp_invS (z := (mX12_by, 0, 0, 0)) (K' := (0, 0)) (σ1 := A ++ (mp_ms s m img was num pro ask kp kk kf so sz el im pl ra re p.1 p.2 sd th ++ B)) (as := [mp_i 2, mp_i 2]) (st := [Value.ref 45, mp_i c, mp_i (o + 1), mp_i (mp_dif g (mp_bit k)), mp_i 3, Value.ref 44]) (st1 := [mp_i (49 + 3 * 2 + 2), Value.ref 45, mp_i c, mp_i (o + 1), mp_i (mp_dif g (mp_bit k)), mp_i 3, Value.ref 44]) dX12_changes_142 ssX12_49 (zX12_by (l := 2) (x := 2)  ) ⟨Nat.le_of_ble_eq_true rfl, Nat.le_of_ble_eq_true rfl, Nat.le_of_ble_eq_true rfl, Nat.le_of_ble_eq_true rfl, Nat.le_of_ble_eq_true rfl⟩ rfl rfl rfl rfl ?_
          refine mp_iald dX12_changes_145 (mp_lk hA 1 rfl) ⟨by omega, by omega⟩ (by omega) ?_
          refine mp_iload dX12_changes_146 rfl ?_
          refine mp_icmp_ne (tgt := 155) dX12_changes_148 rfl ⟨by omega, by omega⟩ ⟨by omega, by omega⟩ (fun h5 => ?_) (fun h5 => ?_)
          · refine mp_iconst dX12_changes_155 ?_
            refine mp_iadd (z := c + 1) dX12_changes_156 (by first | rfl | omega) ?_
            refine mp_invV (z := (mX12_changes, 4, 0, 0)) (K' := (0, 0)) (σ1 := A ++ (mp_ms s m img was num pro ask kp kk kf so sz el im pl ra re ((sp_chg s 2 3 (mp_dif g (mp_bit k)) (o + 1) (c + 1) (p.1, p.2)).1) ((sp_chg s 2 3 (mp_dif g (mp_bit k)) (o + 1) (c + 1) (p.1, p.2)).2) sd th ++ B)) (as := [mp_i 3, mp_i (mp_dif g (mp_bit k)), mp_i (o + 1), mp_i (c + 1)]) (st := []) (st1 := []) dX12_changes_157 svX12_200 (mp_lk hA 0 rfl) rfl rfl (zX12_changes2 (g := (mp_dif g (mp_bit k))) (o := (o + 1)) (c := (c + 1)) (s := s) (m := m) (img := img) (was := was) (num := num) (pro := pro) (ask := ask) (kp := kp) (kk := kk) (kf := kf) (so := so) (sz := sz) (el := el) (im := im) (pl := pl) (ra := ra) (re := re) (rm := p.1) (rf := p.2) (sd := sd) (th := th) (by first | with_reducible assumption | omega) (by first | with_reducible assumption | omega) (by first | with_reducible assumption | omega) (by first | with_reducible assumption | omega) (by first | with_reducible assumption | omega) (by first | with_reducible assumption | omega)) ⟨Nat.le_of_ble_eq_true rfl, Nat.le_of_ble_eq_true rfl, Nat.le_of_ble_eq_true rfl, Nat.le_of_ble_eq_true rfl, Nat.le_of_ble_eq_true rfl⟩ rfl rfl rfl rfl ?_
            refine mp_iinc (z := k + 1) (L' := [some (Value.ref 44), some (mp_i 2), some (mp_i g), some (mp_i o), some (mp_i c), some (mp_i (k + 1))]) dX12_changes_160 rfl (rfl) (by decide) rfl ?_
            refine mp_goto (tgt := 79) dX12_changes_163 rfl ?_
            have e9 : (fun k p => if sp_b g k = 1 then sp_chg s 2 (2 + 1) (mp_dif g (mp_bit k)) (o + (if s (1 + 6 * k + 5) = 2 then 1 else 0)) (c + (if s (49 + 3 * 2 + 2) = k then 0 else 1)) p else p) k p = sp_chg s 2 (2 + 1) (mp_dif g (mp_bit k)) (o + (if s (1 + 6 * k + 5) = 2 then 1 else 0)) (c + (if s (49 + 3 * 2 + 2) = k then 0 else 1)) p := by exact if_pos (by omega)
            have k9 := ih (k + 1) ((fun k p => if sp_b g k = 1 then sp_chg s 2 (2 + 1) (mp_dif g (mp_bit k)) (o + (if s (1 + 6 * k + 5) = 2 then 1 else 0)) (c + (if s (49 + 3 * 2 + 2) = k then 0 else 1)) p else p) k p) ⟨by omega, by rw [e9]; exact mp_chg_bd s 2 _ _ _ _ p (by decide) (by split <;> omega) (by split <;> omega) hi.2⟩ hR
            rw [e9] at k9
            refine mp_sg ?_ k9
            rw [show o + 1 = o + (if s (1 + 6 * k + 5) = 2 then 1 else 0) from by omega, show c + 1 = c + (if s (49 + 3 * 2 + 2) = k then 0 else 1) from by omega]; rfl
          · refine mp_iconst dX12_changes_151 ?_
            refine mp_goto (tgt := 156) dX12_changes_152 rfl ?_
            refine mp_iadd (z := c + 0) dX12_changes_156 (by first | rfl | omega) ?_
            refine mp_invV (z := (mX12_changes, 4, 0, 0)) (K' := (0, 0)) (σ1 := A ++ (mp_ms s m img was num pro ask kp kk kf so sz el im pl ra re ((sp_chg s 2 3 (mp_dif g (mp_bit k)) (o + 1) (c + 0) (p.1, p.2)).1) ((sp_chg s 2 3 (mp_dif g (mp_bit k)) (o + 1) (c + 0) (p.1, p.2)).2) sd th ++ B)) (as := [mp_i 3, mp_i (mp_dif g (mp_bit k)), mp_i (o + 1), mp_i (c + 0)]) (st := []) (st1 := []) dX12_changes_157 svX12_200 (mp_lk hA 0 rfl) rfl rfl (zX12_changes2 (g := (mp_dif g (mp_bit k))) (o := (o + 1)) (c := (c + 0)) (s := s) (m := m) (img := img) (was := was) (num := num) (pro := pro) (ask := ask) (kp := kp) (kk := kk) (kf := kf) (so := so) (sz := sz) (el := el) (im := im) (pl := pl) (ra := ra) (re := re) (rm := p.1) (rf := p.2) (sd := sd) (th := th) (by first | with_reducible assumption | omega) (by first | with_reducible assumption | omega) (by first | with_reducible assumption | omega) (by first | with_reducible assumption | omega) (by first | with_reducible assumption | omega) (by first | with_reducible assumption | omega)) ⟨Nat.le_of_ble_eq_true rfl, Nat.le_of_ble_eq_true rfl, Nat.le_of_ble_eq_true rfl, Nat.le_of_ble_eq_true rfl, Nat.le_of_ble_eq_true rfl⟩ rfl rfl rfl rfl ?_
            refine mp_iinc (z := k + 1) (L' := [some (Value.ref 44), some (mp_i 2), some (mp_i g), some (mp_i o), some (mp_i c), some (mp_i (k + 1))]) dX12_changes_160 rfl (rfl) (by decide) rfl ?_
            refine mp_goto (tgt := 79) dX12_changes_163 rfl ?_
            have e9 : (fun k p => if sp_b g k = 1 then sp_chg s 2 (2 + 1) (mp_dif g (mp_bit k)) (o + (if s (1 + 6 * k + 5) = 2 then 1 else 0)) (c + (if s (49 + 3 * 2 + 2) = k then 0 else 1)) p else p) k p = sp_chg s 2 (2 + 1) (mp_dif g (mp_bit k)) (o + (if s (1 + 6 * k + 5) = 2 then 1 else 0)) (c + (if s (49 + 3 * 2 + 2) = k then 0 else 1)) p := by exact if_pos (by omega)
            have k9 := ih (k + 1) ((fun k p => if sp_b g k = 1 then sp_chg s 2 (2 + 1) (mp_dif g (mp_bit k)) (o + (if s (1 + 6 * k + 5) = 2 then 1 else 0)) (c + (if s (49 + 3 * 2 + 2) = k then 0 else 1)) p else p) k p) ⟨by omega, by rw [e9]; exact mp_chg_bd s 2 _ _ _ _ p (by decide) (by split <;> omega) (by split <;> omega) hi.2⟩ hR
            rw [e9] at k9
            refine mp_sg ?_ k9
            rw [show o + 1 = o + (if s (1 + 6 * k + 5) = 2 then 1 else 0) from by omega, show c + 0 = c + (if s (49 + 3 * 2 + 2) = k then 0 else 1) from by omega]; rfl
theorem zX12_changes3 {s m img was num pro ask kp kk kf so sz el : Int → Int} {im pl ra re rm rf sd th : Int} {A B : mp_H}  {g : Int} {o : Int} {c : Int} (hA : A.length = 44) (hs : mp_sky s) (h_g : 0 ≤ g ∧ g < 256) (h_o : 0 ≤ o ∧ o ≤ 2) (h_c : 0 ≤ c ∧ c ≤ 2) (h_p : mp_rng (rm, rf)) : mp_Call (mX12_changes, 5, 0, 0) [Value.ref 44, mp_i 2, mp_i g, mp_i o, mp_i c] (A ++ (mp_ms s m img was num pro ask kp kk kf so sz el im pl ra re rm rf sd th ++ B)) (none, A ++ (mp_ms s m img was num pro ask kp kk kf so sz el im pl ra re ((sp_chg s 3 2 g o c (rm, rf)).1) ((sp_chg s 3 2 g o c (rm, rf)).2) sd th ++ B)) := by
  refine mp_Call.of (L := [some (Value.ref 44), some (mp_i 2), some (mp_i g), some (mp_i o), some (mp_i c), none]) pnX12 (Nat.le_of_ble_eq_true rfl) rfl ?_
  have h0 := hs.1
  have hb9 := hs.2.2.1 2 (by omega) (by omega)
  refine mp_iload_n dX12_changes_0 rfl ?_
  refine mp_iconst dX12_changes_1 ?_
  refine mp_icmp_ne (tgt := 49) dX12_changes_2 rfl ⟨by decide, by decide⟩ ⟨by decide, by decide⟩ (fun _ => ?_) (fun h1 => absurd h1 (by decide))
  refine mp_aload_n dX12_changes_49 rfl ?_
  refine mp_getfield dX12_changes_50 fsX12_9_11 (mp_lk hA 0 rfl) rfl ?_
  refine mp_iload_n dX12_changes_53 rfl ?_
  refine mp_iconst dX12_changes_54 ?_
  refine mp_invS (z := (mX12_by, 0, 0, 0)) (K' := (0, 0)) (σ1 := A ++ (mp_ms s m img was num pro ask kp kk kf so sz el im pl ra re rm rf sd th ++ B)) (as := [mp_i 2, mp_i 2]) (st := [Value.ref 45]) (st1 := [mp_i (49 + 3 * 2 + 2), Value.ref 45]) dX12_changes_55 ssX12_49 (zX12_by (l := 2) (x := 2)  ) ⟨Nat.le_of_ble_eq_true rfl, Nat.le_of_ble_eq_true rfl, Nat.le_of_ble_eq_true rfl, Nat.le_of_ble_eq_true rfl, Nat.le_of_ble_eq_true rfl⟩ rfl rfl rfl rfl ?_
  refine mp_iald dX12_changes_58 (mp_lk hA 1 rfl) ⟨by omega, by omega⟩ (by omega) ?_
  refine mp_bipush dX12_changes_59 rfl ?_
  refine mp_icmp_ne (tgt := 76) dX12_changes_61 rfl ⟨by omega, by omega⟩ ⟨by omega, by omega⟩ (fun h2 => ?_) (fun h2 => ?_)
  · refine mp_iconst dX12_changes_76 ?_
    refine mp_istore (L' := [some (Value.ref 44), some (mp_i 2), some (mp_i g), some (mp_i o), some (mp_i c), some (mp_i 0)]) dX12_changes_77 (by decide) rfl ?_
    exact lX12_changes3_79 (g := g) (o := o) (c := c) (rm := rm) (rf := rf) hA hs h_g h_o h_c h_p (s 0).toNat 0 (rm, rf) ⟨by omega, h_p⟩ (by rw [show sp_chg s 3 2 g o c (rm, rf) = mp_fold (fun k p => if sp_b g k = 1 then sp_chg s 2 (2 + 1) (mp_dif g (mp_bit k)) (o + (if s (1 + 6 * k + 5) = 2 then 1 else 0)) (c + (if s (49 + 3 * 2 + 2) = k then 0 else 1)) p else p) (s 0).toNat 0 (rm, rf) from if_neg (by omega)])
  · refine mp_aload_n dX12_changes_64 rfl ?_
    refine mp_iload_n dX12_changes_65 rfl ?_
    refine mp_iconst dX12_changes_66 ?_
    refine mp_iadd (z := 3) dX12_changes_67 (by first | rfl | omega) ?_
    refine mp_iload_n dX12_changes_68 rfl ?_
    refine mp_iload_n dX12_changes_69 rfl ?_
    refine mp_iload dX12_changes_70 rfl ?_
    refine mp_invV (z := (mX12_changes, 4, 0, 0)) (K' := (0, 0)) (σ1 := A ++ (mp_ms s m img was num pro ask kp kk kf so sz el im pl ra re ((sp_chg s 2 3 g o c (rm, rf)).1) ((sp_chg s 2 3 g o c (rm, rf)).2) sd th ++ B)) (as := [mp_i 3, mp_i g, mp_i o, mp_i c]) (st := []) (st1 := []) dX12_changes_72 svX12_200 (mp_lk hA 0 rfl) rfl rfl (zX12_changes2 (g := g) (o := o) (c := c) (s := s) (m := m) (img := img) (was := was) (num := num) (pro := pro) (ask := ask) (kp := kp) (kk := kk) (kf := kf) (so := so) (sz := sz) (el := el) (im := im) (pl := pl) (ra := ra) (re := re) (rm := rm) (rf := rf) (sd := sd) (th := th) (by first | with_reducible assumption | omega) (by first | with_reducible assumption | omega) (by first | with_reducible assumption | omega) (by first | with_reducible assumption | omega) (by first | with_reducible assumption | omega) (by first | with_reducible assumption | omega)) ⟨Nat.le_of_ble_eq_true rfl, Nat.le_of_ble_eq_true rfl, Nat.le_of_ble_eq_true rfl, Nat.le_of_ble_eq_true rfl, Nat.le_of_ble_eq_true rfl⟩ rfl rfl rfl rfl ?_
    exact mp_vreturn (st := []) dX12_changes_75 rfl ⟨by decide, by decide⟩ (by rw [show sp_chg s 3 2 g o c (rm, rf) = sp_chg s 2 (2 + 1) g o c (rm, rf) from if_pos (by omega)]; rfl)
theorem lX12_changes4_79 {s m img was num pro ask kp kk kf so sz el : Int → Int} {im pl ra re rm rf sd th : Int} {A B : mp_H}  {g : Int} {o : Int} {c : Int} (hA : A.length = 44) (hs : mp_sky s) (h_g : 0 ≤ g ∧ g < 256) (h_o : 0 ≤ o ∧ o ≤ 1) (h_c : 0 ≤ c ∧ c ≤ 1) (h_p : mp_rng (rm, rf)) {R9 : mp_An} : ∀ (n : Nat) (k : Int) (p : Int × Int), ((0 ≤ k ∧ k + (n : Nat) = s 0) ∧ mp_rng p) → R9 = (none, A ++ (mp_ms s m img was num pro ask kp kk kf so sz el im pl ra re ((mp_fold (fun k p => if sp_b g k = 1 then sp_chg s 3 (1 + 1) (mp_dif g (mp_bit k)) (o + (if s (1 + 6 * k + 5) = 1 then 1 else 0)) (c + (if s (49 + 3 * 1 + 2) = k then 0 else 1)) p else p) n k p).1) ((mp_fold (fun k p => if sp_b g k = 1 then sp_chg s 3 (1 + 1) (mp_dif g (mp_bit k)) (o + (if s (1 + 6 * k + 5) = 1 then 1 else 0)) (c + (if s (49 + 3 * 1 + 2) = k then 0 else 1)) p else p) n k p).2) sd th ++ B)) → mp_At (mX12_changes, 6, 0, 0) (0, 0) 79 [some (Value.ref 44), some (mp_i 1), some (mp_i g), some (mp_i o), some (mp_i c), some (mp_i k)] [] (A ++ (mp_ms s m img was num pro ask kp kk kf so sz el im pl ra re p.1 p.2 sd th ++ B)) R9 := by
  intro n
  induction n with
  | zero =>
    intro k p hi hR
    have h0 := hs.1
    refine mp_iload dX12_changes_79 rfl ?_
    refine mp_aload_n dX12_changes_81 rfl ?_
    refine mp_getfield dX12_changes_82 fsX12_9_11 (mp_lk hA 0 rfl) rfl ?_
    refine mp_iconst dX12_changes_85 ?_
    refine mp_iald dX12_changes_86 (mp_lk hA 1 rfl) ⟨by omega, by omega⟩ (by omega) ?_
    refine mp_icmp_ge (tgt := 166) dX12_changes_87 rfl ⟨by omega, by omega⟩ ⟨by omega, by omega⟩ (fun h1 => ?_) (fun h1 => ?_)
    · exact mp_vreturn (st := []) dX12_changes_166 rfl ⟨by decide, by decide⟩ (hR)
    · exfalso; omega
  | succ n ih =>
    intro k p hi hR
    have h0 := hs.1
    have hm := hs.2.1 k (by omega) (by omega)
    have hb9 := hs.2.2.1 1 (by omega) (by omega)
    have hbb := mp_b_bd g k
    have hdn := mp_dif_nn g (mp_bit k)
    have hdl := mp_dif_lt (a := g) (b := mp_bit k) (n := 8) h_g.2
    refine mp_iload dX12_changes_79 rfl ?_
    refine mp_aload_n dX12_changes_81 rfl ?_
    refine mp_getfield dX12_changes_82 fsX12_9_11 (mp_lk hA 0 rfl) rfl ?_
    refine mp_iconst dX12_changes_85 ?_
    refine mp_iald dX12_changes_86 (mp_lk hA 1 rfl) ⟨by omega, by omega⟩ (by omega) ?_
    refine mp_icmp_ge (tgt := 166) dX12_changes_87 rfl ⟨by omega, by omega⟩ ⟨by omega, by omega⟩ (fun h1 => ?_) (fun h1 => ?_)
    · exfalso; omega
    · refine mp_iload_n dX12_changes_90 rfl ?_
      refine mp_iload dX12_changes_91 rfl ?_
      refine mp_ishr (z := mp_shr g k) dX12_changes_93 (mp_z_shr ⟨by omega, by omega⟩ ⟨by omega, by omega⟩) ?_
      refine mp_iconst dX12_changes_94 ?_
      refine mp_iand (z := sp_b g k) dX12_changes_95 (mp_z_b _ _) ?_
      refine mp_iconst dX12_changes_96 ?_
      refine mp_icmp_ne (tgt := 160) dX12_changes_97 rfl ⟨by omega, by omega⟩ ⟨by omega, by omega⟩ (fun h2 => ?_) (fun h2 => ?_)
      · refine mp_iinc (z := k + 1) (L' := [some (Value.ref 44), some (mp_i 1), some (mp_i g), some (mp_i o), some (mp_i c), some (mp_i (k + 1))]) dX12_changes_160 rfl (rfl) (by decide) rfl ?_
        refine mp_goto (tgt := 79) dX12_changes_163 rfl ?_
        have e9 : (fun k p => if sp_b g k = 1 then sp_chg s 3 (1 + 1) (mp_dif g (mp_bit k)) (o + (if s (1 + 6 * k + 5) = 1 then 1 else 0)) (c + (if s (49 + 3 * 1 + 2) = k then 0 else 1)) p else p) k p = p := by exact if_neg (by omega)
        have k9 := ih (k + 1) ((fun k p => if sp_b g k = 1 then sp_chg s 3 (1 + 1) (mp_dif g (mp_bit k)) (o + (if s (1 + 6 * k + 5) = 1 then 1 else 0)) (c + (if s (49 + 3 * 1 + 2) = k then 0 else 1)) p else p) k p) ⟨by omega, by rw [e9]; exact hi.2⟩ hR
        rw [e9] at k9
        exact k9
      · refine mp_aload_n dX12_changes_100 rfl ?_
        refine mp_iload_n dX12_changes_101 rfl ?_
        refine mp_iconst dX12_changes_102 ?_
        refine mp_iadd (z := 2) dX12_changes_103 (by first | rfl | omega) ?_
        refine mp_iload_n dX12_changes_104 rfl ?_
        refine mp_iconst dX12_changes_105 ?_
        refine mp_iload dX12_changes_106 rfl ?_
        refine mp_ishl (z := mp_bit k) dX12_changes_108 (mp_z_bit ⟨by omega, by omega⟩) ?_
        refine mp_iconst dX12_changes_109 ?_
        refine mp_ixor (z := -1 - (mp_bit k)) dX12_changes_110 (mp_z_not _) ?_
        refine mp_iand (z := mp_dif g (mp_bit k)) dX12_changes_111 (mp_z_dif (by first | omega | exact mp_bit_nn _ | exact mp_or_nn _ _) (by first | omega | exact mp_bit_nn _ | exact mp_or_nn _ _)) ?_
        refine mp_iload_n dX12_changes_112 rfl ?_
        refine mp_aload_n dX12_changes_113 rfl ?_
        refine mp_getfield dX12_changes_114 fsX12_9_11 (mp_lk hA 0 rfl) rfl ?_
        refine mp_iload dX12_changes_117 rfl ?_
        refine mp_iconst dX12_changes_119 ?_
        refine mp_invS (z := (mX12_of, 0, 0, 0)) (K' := (0, 0)) (σ1 := A ++ (mp_ms s m img was num pro ask kp kk kf so sz el im pl ra re p.1 p.2 sd th ++ B)) (as := [mp_i k, mp_i 5]) (st := [Value.ref 45, mp_i o, mp_i (mp_dif g (mp_bit k)), mp_i 2, Value.ref 44]) (st1 := [mp_i (1 + 6 * k + 5), Value.ref 45, mp_i o, mp_i (mp_dif g (mp_bit k)), mp_i 2, Value.ref 44]) dX12_changes_120 ssX12_60 (zX12_of (k := k) (x := 5)  ) ⟨Nat.le_of_ble_eq_true rfl, Nat.le_of_ble_eq_true rfl, Nat.le_of_ble_eq_true rfl, Nat.le_of_ble_eq_true rfl, Nat.le_of_ble_eq_true rfl⟩ rfl rfl rfl rfl ?_
        refine mp_iald dX12_changes_123 (mp_lk hA 1 rfl) ⟨by omega, by omega⟩ (by omega) ?_
        refine mp_iload_n dX12_changes_124 rfl ?_
        refine mp_icmp_ne (tgt := 132) dX12_changes_125 rfl ⟨by omega, by omega⟩ ⟨by omega, by omega⟩ (fun h3 => ?_) (fun h3 => ?_)
        · refine mp_iconst dX12_changes_132 ?_
          refine mp_iadd (z := o + 0) dX12_changes_133 (by first | rfl | omega) ?_
          refine mp_iload dX12_changes_134 rfl ?_
          refine mp_aload_n dX12_changes_136 rfl ?_
          refine mp_getfield dX12_changes_137 fsX12_9_11 (mp_lk hA 0 rfl) rfl ?_
          refine mp_iload_n dX12_changes_140 rfl ?_
          refine mp_iconst dX12_changes_141 ?_
          refine mp_invS (z := (mX12_by, 0, 0, 0)) (K' := (0, 0)) (σ1 := A ++ (mp_ms s m img was num pro ask kp kk kf so sz el im pl ra re p.1 p.2 sd th ++ B)) (as := [mp_i 1, mp_i 2]) (st := [Value.ref 45, mp_i c, mp_i (o + 0), mp_i (mp_dif g (mp_bit k)), mp_i 2, Value.ref 44]) (st1 := [mp_i (49 + 3 * 1 + 2), Value.ref 45, mp_i c, mp_i (o + 0), mp_i (mp_dif g (mp_bit k)), mp_i 2, Value.ref 44]) dX12_changes_142 ssX12_49 (zX12_by (l := 1) (x := 2)  ) ⟨Nat.le_of_ble_eq_true rfl, Nat.le_of_ble_eq_true rfl, Nat.le_of_ble_eq_true rfl, Nat.le_of_ble_eq_true rfl, Nat.le_of_ble_eq_true rfl⟩ rfl rfl rfl rfl ?_
          refine mp_iald dX12_changes_145 (mp_lk hA 1 rfl) ⟨by omega, by omega⟩ (by omega) ?_
          refine mp_iload dX12_changes_146 rfl ?_
          refine mp_icmp_ne (tgt := 155) dX12_changes_148 rfl ⟨by omega, by omega⟩ ⟨by omega, by omega⟩ (fun h4 => ?_) (fun h4 => ?_)
          · refine mp_iconst dX12_changes_155 ?_
            refine mp_iadd (z := c + 1) dX12_changes_156 (by first | rfl | omega) ?_
            refine mp_invV (z := (mX12_changes, 5, 0, 0)) (K' := (0, 0)) (σ1 := A ++ (mp_ms s m img was num pro ask kp kk kf so sz el im pl ra re ((sp_chg s 3 2 (mp_dif g (mp_bit k)) (o + 0) (c + 1) (p.1, p.2)).1) ((sp_chg s 3 2 (mp_dif g (mp_bit k)) (o + 0) (c + 1) (p.1, p.2)).2) sd th ++ B)) (as := [mp_i 2, mp_i (mp_dif g (mp_bit k)), mp_i (o + 0), mp_i (c + 1)]) (st := []) (st1 := []) dX12_changes_157 svX12_200 (mp_lk hA 0 rfl) rfl rfl (zX12_changes3 (g := (mp_dif g (mp_bit k))) (o := (o + 0)) (c := (c + 1)) (s := s) (m := m) (img := img) (was := was) (num := num) (pro := pro) (ask := ask) (kp := kp) (kk := kk) (kf := kf) (so := so) (sz := sz) (el := el) (im := im) (pl := pl) (ra := ra) (re := re) (rm := p.1) (rf := p.2) (sd := sd) (th := th) (by first | with_reducible assumption | omega) (by first | with_reducible assumption | omega) (by first | with_reducible assumption | omega) (by first | with_reducible assumption | omega) (by first | with_reducible assumption | omega) (by first | with_reducible assumption | omega)) ⟨Nat.le_of_ble_eq_true rfl, Nat.le_of_ble_eq_true rfl, Nat.le_of_ble_eq_true rfl, Nat.le_of_ble_eq_true rfl, Nat.le_of_ble_eq_true rfl⟩ rfl rfl rfl rfl ?_
            refine mp_iinc (z := k + 1) (L' := [some (Value.ref 44), some (mp_i 1), some (mp_i g), some (mp_i o), some (mp_i c), some (mp_i (k + 1))]) dX12_changes_160 rfl (rfl) (by decide) rfl ?_
            refine mp_goto (tgt := 79) dX12_changes_163 rfl ?_
            have e9 : (fun k p => if sp_b g k = 1 then sp_chg s 3 (1 + 1) (mp_dif g (mp_bit k)) (o + (if s (1 + 6 * k + 5) = 1 then 1 else 0)) (c + (if s (49 + 3 * 1 + 2) = k then 0 else 1)) p else p) k p = sp_chg s 3 (1 + 1) (mp_dif g (mp_bit k)) (o + (if s (1 + 6 * k + 5) = 1 then 1 else 0)) (c + (if s (49 + 3 * 1 + 2) = k then 0 else 1)) p := by exact if_pos (by omega)
            have k9 := ih (k + 1) ((fun k p => if sp_b g k = 1 then sp_chg s 3 (1 + 1) (mp_dif g (mp_bit k)) (o + (if s (1 + 6 * k + 5) = 1 then 1 else 0)) (c + (if s (49 + 3 * 1 + 2) = k then 0 else 1)) p else p) k p) ⟨by omega, by rw [e9]; exact mp_chg_bd s 3 _ _ _ _ p (by decide) (by split <;> omega) (by split <;> omega) hi.2⟩ hR
            rw [e9] at k9
            refine mp_sg ?_ k9
            rw [show o + 0 = o + (if s (1 + 6 * k + 5) = 1 then 1 else 0) from by omega, show c + 1 = c + (if s (49 + 3 * 1 + 2) = k then 0 else 1) from by omega]; rfl
          · refine mp_iconst dX12_changes_151 ?_
            refine mp_goto (tgt := 156) dX12_changes_152 rfl ?_
            refine mp_iadd (z := c + 0) dX12_changes_156 (by first | rfl | omega) ?_
            refine mp_invV (z := (mX12_changes, 5, 0, 0)) (K' := (0, 0)) (σ1 := A ++ (mp_ms s m img was num pro ask kp kk kf so sz el im pl ra re ((sp_chg s 3 2 (mp_dif g (mp_bit k)) (o + 0) (c + 0) (p.1, p.2)).1) ((sp_chg s 3 2 (mp_dif g (mp_bit k)) (o + 0) (c + 0) (p.1, p.2)).2) sd th ++ B)) (as := [mp_i 2, mp_i (mp_dif g (mp_bit k)), mp_i (o + 0), mp_i (c + 0)]) (st := []) (st1 := []) dX12_changes_157 svX12_200 (mp_lk hA 0 rfl) rfl rfl (zX12_changes3 (g := (mp_dif g (mp_bit k))) (o := (o + 0)) (c := (c + 0)) (s := s) (m := m) (img := img) (was := was) (num := num) (pro := pro) (ask := ask) (kp := kp) (kk := kk) (kf := kf) (so := so) (sz := sz) (el := el) (im := im) (pl := pl) (ra := ra) (re := re) (rm := p.1) (rf := p.2) (sd := sd) (th := th) (by first | with_reducible assumption | omega) (by first | with_reducible assumption | omega) (by first | with_reducible assumption | omega) (by first | with_reducible assumption | omega) (by first | with_reducible assumption | omega) (by first | with_reducible assumption | omega)) ⟨Nat.le_of_ble_eq_true rfl, Nat.le_of_ble_eq_true rfl, Nat.le_of_ble_eq_true rfl, Nat.le_of_ble_eq_true rfl, Nat.le_of_ble_eq_true rfl⟩ rfl rfl rfl rfl ?_
            refine mp_iinc (z := k + 1) (L' := [some (Value.ref 44), some (mp_i 1), some (mp_i g), some (mp_i o), some (mp_i c), some (mp_i (k + 1))]) dX12_changes_160 rfl (rfl) (by decide) rfl ?_
            refine mp_goto (tgt := 79) dX12_changes_163 rfl ?_
            have e9 : (fun k p => if sp_b g k = 1 then sp_chg s 3 (1 + 1) (mp_dif g (mp_bit k)) (o + (if s (1 + 6 * k + 5) = 1 then 1 else 0)) (c + (if s (49 + 3 * 1 + 2) = k then 0 else 1)) p else p) k p = sp_chg s 3 (1 + 1) (mp_dif g (mp_bit k)) (o + (if s (1 + 6 * k + 5) = 1 then 1 else 0)) (c + (if s (49 + 3 * 1 + 2) = k then 0 else 1)) p := by exact if_pos (by omega)
            have k9 := ih (k + 1) ((fun k p => if sp_b g k = 1 then sp_chg s 3 (1 + 1) (mp_dif g (mp_bit k)) (o + (if s (1 + 6 * k + 5) = 1 then 1 else 0)) (c + (if s (49 + 3 * 1 + 2) = k then 0 else 1)) p else p) k p) ⟨by omega, by rw [e9]; exact mp_chg_bd s 3 _ _ _ _ p (by decide) (by split <;> omega) (by split <;> omega) hi.2⟩ hR
            rw [e9] at k9
            refine mp_sg ?_ k9
            rw [show o + 0 = o + (if s (1 + 6 * k + 5) = 1 then 1 else 0) from by omega, show c + 0 = c + (if s (49 + 3 * 1 + 2) = k then 0 else 1) from by omega]; rfl
        · refine mp_iconst dX12_changes_128 ?_
          refine mp_goto (tgt := 133) dX12_changes_129 rfl ?_
          refine mp_iadd (z := o + 1) dX12_changes_133 (by first | rfl | omega) ?_
          refine mp_iload dX12_changes_134 rfl ?_
          refine mp_aload_n dX12_changes_136 rfl ?_
          refine mp_getfield dX12_changes_137 fsX12_9_11 (mp_lk hA 0 rfl) rfl ?_
          refine mp_iload_n dX12_changes_140 rfl ?_
          refine mp_iconst dX12_changes_141 ?_
          refine mp_invS (z := (mX12_by, 0, 0, 0)) (K' := (0, 0)) (σ1 := A ++ (mp_ms s m img was num pro ask kp kk kf so sz el im pl ra re p.1 p.2 sd th ++ B)) (as := [mp_i 1, mp_i 2]) (st := [Value.ref 45, mp_i c, mp_i (o + 1), mp_i (mp_dif g (mp_bit k)), mp_i 2, Value.ref 44]) (st1 := [mp_i (49 + 3 * 1 + 2), Value.ref 45, mp_i c, mp_i (o + 1), mp_i (mp_dif g (mp_bit k)), mp_i 2, Value.ref 44]) dX12_changes_142 ssX12_49 (zX12_by (l := 1) (x := 2)  ) ⟨Nat.le_of_ble_eq_true rfl, Nat.le_of_ble_eq_true rfl, Nat.le_of_ble_eq_true rfl, Nat.le_of_ble_eq_true rfl, Nat.le_of_ble_eq_true rfl⟩ rfl rfl rfl rfl ?_
          refine mp_iald dX12_changes_145 (mp_lk hA 1 rfl) ⟨by omega, by omega⟩ (by omega) ?_
          refine mp_iload dX12_changes_146 rfl ?_
          refine mp_icmp_ne (tgt := 155) dX12_changes_148 rfl ⟨by omega, by omega⟩ ⟨by omega, by omega⟩ (fun h5 => ?_) (fun h5 => ?_)
          · refine mp_iconst dX12_changes_155 ?_
            refine mp_iadd (z := c + 1) dX12_changes_156 (by first | rfl | omega) ?_
            refine mp_invV (z := (mX12_changes, 5, 0, 0)) (K' := (0, 0)) (σ1 := A ++ (mp_ms s m img was num pro ask kp kk kf so sz el im pl ra re ((sp_chg s 3 2 (mp_dif g (mp_bit k)) (o + 1) (c + 1) (p.1, p.2)).1) ((sp_chg s 3 2 (mp_dif g (mp_bit k)) (o + 1) (c + 1) (p.1, p.2)).2) sd th ++ B)) (as := [mp_i 2, mp_i (mp_dif g (mp_bit k)), mp_i (o + 1), mp_i (c + 1)]) (st := []) (st1 := []) dX12_changes_157 svX12_200 (mp_lk hA 0 rfl) rfl rfl (zX12_changes3 (g := (mp_dif g (mp_bit k))) (o := (o + 1)) (c := (c + 1)) (s := s) (m := m) (img := img) (was := was) (num := num) (pro := pro) (ask := ask) (kp := kp) (kk := kk) (kf := kf) (so := so) (sz := sz) (el := el) (im := im) (pl := pl) (ra := ra) (re := re) (rm := p.1) (rf := p.2) (sd := sd) (th := th) (by first | with_reducible assumption | omega) (by first | with_reducible assumption | omega) (by first | with_reducible assumption | omega) (by first | with_reducible assumption | omega) (by first | with_reducible assumption | omega) (by first | with_reducible assumption | omega)) ⟨Nat.le_of_ble_eq_true rfl, Nat.le_of_ble_eq_true rfl, Nat.le_of_ble_eq_true rfl, Nat.le_of_ble_eq_true rfl, Nat.le_of_ble_eq_true rfl⟩ rfl rfl rfl rfl ?_
            refine mp_iinc (z := k + 1) (L' := [some (Value.ref 44), some (mp_i 1), some (mp_i g), some (mp_i o), some (mp_i c), some (mp_i (k + 1))]) dX12_changes_160 rfl (rfl) (by decide) rfl ?_
            refine mp_goto (tgt := 79) dX12_changes_163 rfl ?_
            have e9 : (fun k p => if sp_b g k = 1 then sp_chg s 3 (1 + 1) (mp_dif g (mp_bit k)) (o + (if s (1 + 6 * k + 5) = 1 then 1 else 0)) (c + (if s (49 + 3 * 1 + 2) = k then 0 else 1)) p else p) k p = sp_chg s 3 (1 + 1) (mp_dif g (mp_bit k)) (o + (if s (1 + 6 * k + 5) = 1 then 1 else 0)) (c + (if s (49 + 3 * 1 + 2) = k then 0 else 1)) p := by exact if_pos (by omega)
            have k9 := ih (k + 1) ((fun k p => if sp_b g k = 1 then sp_chg s 3 (1 + 1) (mp_dif g (mp_bit k)) (o + (if s (1 + 6 * k + 5) = 1 then 1 else 0)) (c + (if s (49 + 3 * 1 + 2) = k then 0 else 1)) p else p) k p) ⟨by omega, by rw [e9]; exact mp_chg_bd s 3 _ _ _ _ p (by decide) (by split <;> omega) (by split <;> omega) hi.2⟩ hR
            rw [e9] at k9
            refine mp_sg ?_ k9
            rw [show o + 1 = o + (if s (1 + 6 * k + 5) = 1 then 1 else 0) from by omega, show c + 1 = c + (if s (49 + 3 * 1 + 2) = k then 0 else 1) from by omega]; rfl
          · refine mp_iconst dX12_changes_151 ?_
            refine mp_goto (tgt := 156) dX12_changes_152 rfl ?_
            refine mp_iadd (z := c + 0) dX12_changes_156 (by first | rfl | omega) ?_
            refine mp_invV (z := (mX12_changes, 5, 0, 0)) (K' := (0, 0)) (σ1 := A ++ (mp_ms s m img was num pro ask kp kk kf so sz el im pl ra re ((sp_chg s 3 2 (mp_dif g (mp_bit k)) (o + 1) (c + 0) (p.1, p.2)).1) ((sp_chg s 3 2 (mp_dif g (mp_bit k)) (o + 1) (c + 0) (p.1, p.2)).2) sd th ++ B)) (as := [mp_i 2, mp_i (mp_dif g (mp_bit k)), mp_i (o + 1), mp_i (c + 0)]) (st := []) (st1 := []) dX12_changes_157 svX12_200 (mp_lk hA 0 rfl) rfl rfl (zX12_changes3 (g := (mp_dif g (mp_bit k))) (o := (o + 1)) (c := (c + 0)) (s := s) (m := m) (img := img) (was := was) (num := num) (pro := pro) (ask := ask) (kp := kp) (kk := kk) (kf := kf) (so := so) (sz := sz) (el := el) (im := im) (pl := pl) (ra := ra) (re := re) (rm := p.1) (rf := p.2) (sd := sd) (th := th) (by first | with_reducible assumption | omega) (by first | with_reducible assumption | omega) (by first | with_reducible assumption | omega) (by first | with_reducible assumption | omega) (by first | with_reducible assumption | omega) (by first | with_reducible assumption | omega)) ⟨Nat.le_of_ble_eq_true rfl, Nat.le_of_ble_eq_true rfl, Nat.le_of_ble_eq_true rfl, Nat.le_of_ble_eq_true rfl, Nat.le_of_ble_eq_true rfl⟩ rfl rfl rfl rfl ?_
            refine mp_iinc (z := k + 1) (L' := [some (Value.ref 44), some (mp_i 1), some (mp_i g), some (mp_i o), some (mp_i c), some (mp_i (k + 1))]) dX12_changes_160 rfl (rfl) (by decide) rfl ?_
            refine mp_goto (tgt := 79) dX12_changes_163 rfl ?_
            have e9 : (fun k p => if sp_b g k = 1 then sp_chg s 3 (1 + 1) (mp_dif g (mp_bit k)) (o + (if s (1 + 6 * k + 5) = 1 then 1 else 0)) (c + (if s (49 + 3 * 1 + 2) = k then 0 else 1)) p else p) k p = sp_chg s 3 (1 + 1) (mp_dif g (mp_bit k)) (o + (if s (1 + 6 * k + 5) = 1 then 1 else 0)) (c + (if s (49 + 3 * 1 + 2) = k then 0 else 1)) p := by exact if_pos (by omega)
            have k9 := ih (k + 1) ((fun k p => if sp_b g k = 1 then sp_chg s 3 (1 + 1) (mp_dif g (mp_bit k)) (o + (if s (1 + 6 * k + 5) = 1 then 1 else 0)) (c + (if s (49 + 3 * 1 + 2) = k then 0 else 1)) p else p) k p) ⟨by omega, by rw [e9]; exact mp_chg_bd s 3 _ _ _ _ p (by decide) (by split <;> omega) (by split <;> omega) hi.2⟩ hR
            rw [e9] at k9
            refine mp_sg ?_ k9
            rw [show o + 1 = o + (if s (1 + 6 * k + 5) = 1 then 1 else 0) from by omega, show c + 0 = c + (if s (49 + 3 * 1 + 2) = k then 0 else 1) from by omega]; rfl
theorem zX12_changes4 {s m img was num pro ask kp kk kf so sz el : Int → Int} {im pl ra re rm rf sd th : Int} {A B : mp_H}  {g : Int} {o : Int} {c : Int} (hA : A.length = 44) (hs : mp_sky s) (h_g : 0 ≤ g ∧ g < 256) (h_o : 0 ≤ o ∧ o ≤ 1) (h_c : 0 ≤ c ∧ c ≤ 1) (h_p : mp_rng (rm, rf)) : mp_Call (mX12_changes, 6, 0, 0) [Value.ref 44, mp_i 1, mp_i g, mp_i o, mp_i c] (A ++ (mp_ms s m img was num pro ask kp kk kf so sz el im pl ra re rm rf sd th ++ B)) (none, A ++ (mp_ms s m img was num pro ask kp kk kf so sz el im pl ra re ((sp_chg s 4 1 g o c (rm, rf)).1) ((sp_chg s 4 1 g o c (rm, rf)).2) sd th ++ B)) := by
  refine mp_Call.of (L := [some (Value.ref 44), some (mp_i 1), some (mp_i g), some (mp_i o), some (mp_i c), none]) pnX12 (Nat.le_of_ble_eq_true rfl) rfl ?_
  have h0 := hs.1
  have hb9 := hs.2.2.1 1 (by omega) (by omega)
  refine mp_iload_n dX12_changes_0 rfl ?_
  refine mp_iconst dX12_changes_1 ?_
  refine mp_icmp_ne (tgt := 49) dX12_changes_2 rfl ⟨by decide, by decide⟩ ⟨by decide, by decide⟩ (fun _ => ?_) (fun h1 => absurd h1 (by decide))
  refine mp_aload_n dX12_changes_49 rfl ?_
  refine mp_getfield dX12_changes_50 fsX12_9_11 (mp_lk hA 0 rfl) rfl ?_
  refine mp_iload_n dX12_changes_53 rfl ?_
  refine mp_iconst dX12_changes_54 ?_
  refine mp_invS (z := (mX12_by, 0, 0, 0)) (K' := (0, 0)) (σ1 := A ++ (mp_ms s m img was num pro ask kp kk kf so sz el im pl ra re rm rf sd th ++ B)) (as := [mp_i 1, mp_i 2]) (st := [Value.ref 45]) (st1 := [mp_i (49 + 3 * 1 + 2), Value.ref 45]) dX12_changes_55 ssX12_49 (zX12_by (l := 1) (x := 2)  ) ⟨Nat.le_of_ble_eq_true rfl, Nat.le_of_ble_eq_true rfl, Nat.le_of_ble_eq_true rfl, Nat.le_of_ble_eq_true rfl, Nat.le_of_ble_eq_true rfl⟩ rfl rfl rfl rfl ?_
  refine mp_iald dX12_changes_58 (mp_lk hA 1 rfl) ⟨by omega, by omega⟩ (by omega) ?_
  refine mp_bipush dX12_changes_59 rfl ?_
  refine mp_icmp_ne (tgt := 76) dX12_changes_61 rfl ⟨by omega, by omega⟩ ⟨by omega, by omega⟩ (fun h2 => ?_) (fun h2 => ?_)
  · refine mp_iconst dX12_changes_76 ?_
    refine mp_istore (L' := [some (Value.ref 44), some (mp_i 1), some (mp_i g), some (mp_i o), some (mp_i c), some (mp_i 0)]) dX12_changes_77 (by decide) rfl ?_
    exact lX12_changes4_79 (g := g) (o := o) (c := c) (rm := rm) (rf := rf) hA hs h_g h_o h_c h_p (s 0).toNat 0 (rm, rf) ⟨by omega, h_p⟩ (by rw [show sp_chg s 4 1 g o c (rm, rf) = mp_fold (fun k p => if sp_b g k = 1 then sp_chg s 3 (1 + 1) (mp_dif g (mp_bit k)) (o + (if s (1 + 6 * k + 5) = 1 then 1 else 0)) (c + (if s (49 + 3 * 1 + 2) = k then 0 else 1)) p else p) (s 0).toNat 0 (rm, rf) from if_neg (by omega)])
  · refine mp_aload_n dX12_changes_64 rfl ?_
    refine mp_iload_n dX12_changes_65 rfl ?_
    refine mp_iconst dX12_changes_66 ?_
    refine mp_iadd (z := 2) dX12_changes_67 (by first | rfl | omega) ?_
    refine mp_iload_n dX12_changes_68 rfl ?_
    refine mp_iload_n dX12_changes_69 rfl ?_
    refine mp_iload dX12_changes_70 rfl ?_
    refine mp_invV (z := (mX12_changes, 5, 0, 0)) (K' := (0, 0)) (σ1 := A ++ (mp_ms s m img was num pro ask kp kk kf so sz el im pl ra re ((sp_chg s 3 2 g o c (rm, rf)).1) ((sp_chg s 3 2 g o c (rm, rf)).2) sd th ++ B)) (as := [mp_i 2, mp_i g, mp_i o, mp_i c]) (st := []) (st1 := []) dX12_changes_72 svX12_200 (mp_lk hA 0 rfl) rfl rfl (zX12_changes3 (g := g) (o := o) (c := c) (s := s) (m := m) (img := img) (was := was) (num := num) (pro := pro) (ask := ask) (kp := kp) (kk := kk) (kf := kf) (so := so) (sz := sz) (el := el) (im := im) (pl := pl) (ra := ra) (re := re) (rm := rm) (rf := rf) (sd := sd) (th := th) (by first | with_reducible assumption | omega) (by first | with_reducible assumption | omega) (by first | with_reducible assumption | omega) (by first | with_reducible assumption | omega) (by first | with_reducible assumption | omega) (by first | with_reducible assumption | omega)) ⟨Nat.le_of_ble_eq_true rfl, Nat.le_of_ble_eq_true rfl, Nat.le_of_ble_eq_true rfl, Nat.le_of_ble_eq_true rfl, Nat.le_of_ble_eq_true rfl⟩ rfl rfl rfl rfl ?_
    exact mp_vreturn (st := []) dX12_changes_75 rfl ⟨by decide, by decide⟩ (by rw [show sp_chg s 4 1 g o c (rm, rf) = sp_chg s 3 (1 + 1) g o c (rm, rf) from if_pos (by omega)]; rfl)
theorem lX12_changes5_79 {s m img was num pro ask kp kk kf so sz el : Int → Int} {im pl ra re rm rf sd th : Int} {A B : mp_H}  {g : Int} {o : Int} {c : Int} (hA : A.length = 44) (hs : mp_sky s) (h_g : 0 ≤ g ∧ g < 256) (h_o : 0 ≤ o ∧ o ≤ 0) (h_c : 0 ≤ c ∧ c ≤ 0) (h_p : mp_rng (rm, rf)) {R9 : mp_An} : ∀ (n : Nat) (k : Int) (p : Int × Int), ((0 ≤ k ∧ k + (n : Nat) = s 0) ∧ mp_rng p) → R9 = (none, A ++ (mp_ms s m img was num pro ask kp kk kf so sz el im pl ra re ((mp_fold (fun k p => if sp_b g k = 1 then sp_chg s 4 (0 + 1) (mp_dif g (mp_bit k)) (o + (if s (1 + 6 * k + 5) = 0 then 1 else 0)) (c + (if s (49 + 3 * 0 + 2) = k then 0 else 1)) p else p) n k p).1) ((mp_fold (fun k p => if sp_b g k = 1 then sp_chg s 4 (0 + 1) (mp_dif g (mp_bit k)) (o + (if s (1 + 6 * k + 5) = 0 then 1 else 0)) (c + (if s (49 + 3 * 0 + 2) = k then 0 else 1)) p else p) n k p).2) sd th ++ B)) → mp_At (mX12_changes, 7, 0, 0) (0, 0) 79 [some (Value.ref 44), some (mp_i 0), some (mp_i g), some (mp_i o), some (mp_i c), some (mp_i k)] [] (A ++ (mp_ms s m img was num pro ask kp kk kf so sz el im pl ra re p.1 p.2 sd th ++ B)) R9 := by
  intro n
  induction n with
  | zero =>
    intro k p hi hR
    have h0 := hs.1
    refine mp_iload dX12_changes_79 rfl ?_
    refine mp_aload_n dX12_changes_81 rfl ?_
    refine mp_getfield dX12_changes_82 fsX12_9_11 (mp_lk hA 0 rfl) rfl ?_
    refine mp_iconst dX12_changes_85 ?_
    refine mp_iald dX12_changes_86 (mp_lk hA 1 rfl) ⟨by omega, by omega⟩ (by omega) ?_
    refine mp_icmp_ge (tgt := 166) dX12_changes_87 rfl ⟨by omega, by omega⟩ ⟨by omega, by omega⟩ (fun h1 => ?_) (fun h1 => ?_)
    · exact mp_vreturn (st := []) dX12_changes_166 rfl ⟨by decide, by decide⟩ (hR)
    · exfalso; omega
  | succ n ih =>
    intro k p hi hR
    have h0 := hs.1
    have hm := hs.2.1 k (by omega) (by omega)
    have hb9 := hs.2.2.1 0 (by omega) (by omega)
    have hbb := mp_b_bd g k
    have hdn := mp_dif_nn g (mp_bit k)
    have hdl := mp_dif_lt (a := g) (b := mp_bit k) (n := 8) h_g.2
    refine mp_iload dX12_changes_79 rfl ?_
    refine mp_aload_n dX12_changes_81 rfl ?_
    refine mp_getfield dX12_changes_82 fsX12_9_11 (mp_lk hA 0 rfl) rfl ?_
    refine mp_iconst dX12_changes_85 ?_
    refine mp_iald dX12_changes_86 (mp_lk hA 1 rfl) ⟨by omega, by omega⟩ (by omega) ?_
    refine mp_icmp_ge (tgt := 166) dX12_changes_87 rfl ⟨by omega, by omega⟩ ⟨by omega, by omega⟩ (fun h1 => ?_) (fun h1 => ?_)
    · exfalso; omega
    · refine mp_iload_n dX12_changes_90 rfl ?_
      refine mp_iload dX12_changes_91 rfl ?_
      refine mp_ishr (z := mp_shr g k) dX12_changes_93 (mp_z_shr ⟨by omega, by omega⟩ ⟨by omega, by omega⟩) ?_
      refine mp_iconst dX12_changes_94 ?_
      refine mp_iand (z := sp_b g k) dX12_changes_95 (mp_z_b _ _) ?_
      refine mp_iconst dX12_changes_96 ?_
      refine mp_icmp_ne (tgt := 160) dX12_changes_97 rfl ⟨by omega, by omega⟩ ⟨by omega, by omega⟩ (fun h2 => ?_) (fun h2 => ?_)
      · refine mp_iinc (z := k + 1) (L' := [some (Value.ref 44), some (mp_i 0), some (mp_i g), some (mp_i o), some (mp_i c), some (mp_i (k + 1))]) dX12_changes_160 rfl (rfl) (by decide) rfl ?_
        refine mp_goto (tgt := 79) dX12_changes_163 rfl ?_
        have e9 : (fun k p => if sp_b g k = 1 then sp_chg s 4 (0 + 1) (mp_dif g (mp_bit k)) (o + (if s (1 + 6 * k + 5) = 0 then 1 else 0)) (c + (if s (49 + 3 * 0 + 2) = k then 0 else 1)) p else p) k p = p := by exact if_neg (by omega)
        have k9 := ih (k + 1) ((fun k p => if sp_b g k = 1 then sp_chg s 4 (0 + 1) (mp_dif g (mp_bit k)) (o + (if s (1 + 6 * k + 5) = 0 then 1 else 0)) (c + (if s (49 + 3 * 0 + 2) = k then 0 else 1)) p else p) k p) ⟨by omega, by rw [e9]; exact hi.2⟩ hR
        rw [e9] at k9
        exact k9
      · refine mp_aload_n dX12_changes_100 rfl ?_
        refine mp_iload_n dX12_changes_101 rfl ?_
        refine mp_iconst dX12_changes_102 ?_
        refine mp_iadd (z := 1) dX12_changes_103 (by first | rfl | omega) ?_
        refine mp_iload_n dX12_changes_104 rfl ?_
        refine mp_iconst dX12_changes_105 ?_
        refine mp_iload dX12_changes_106 rfl ?_
        refine mp_ishl (z := mp_bit k) dX12_changes_108 (mp_z_bit ⟨by omega, by omega⟩) ?_
        refine mp_iconst dX12_changes_109 ?_
        refine mp_ixor (z := -1 - (mp_bit k)) dX12_changes_110 (mp_z_not _) ?_
        refine mp_iand (z := mp_dif g (mp_bit k)) dX12_changes_111 (mp_z_dif (by first | omega | exact mp_bit_nn _ | exact mp_or_nn _ _) (by first | omega | exact mp_bit_nn _ | exact mp_or_nn _ _)) ?_
        refine mp_iload_n dX12_changes_112 rfl ?_
        refine mp_aload_n dX12_changes_113 rfl ?_
        refine mp_getfield dX12_changes_114 fsX12_9_11 (mp_lk hA 0 rfl) rfl ?_
        refine mp_iload dX12_changes_117 rfl ?_
        refine mp_iconst dX12_changes_119 ?_
        refine mp_invS (z := (mX12_of, 0, 0, 0)) (K' := (0, 0)) (σ1 := A ++ (mp_ms s m img was num pro ask kp kk kf so sz el im pl ra re p.1 p.2 sd th ++ B)) (as := [mp_i k, mp_i 5]) (st := [Value.ref 45, mp_i o, mp_i (mp_dif g (mp_bit k)), mp_i 1, Value.ref 44]) (st1 := [mp_i (1 + 6 * k + 5), Value.ref 45, mp_i o, mp_i (mp_dif g (mp_bit k)), mp_i 1, Value.ref 44]) dX12_changes_120 ssX12_60 (zX12_of (k := k) (x := 5)  ) ⟨Nat.le_of_ble_eq_true rfl, Nat.le_of_ble_eq_true rfl, Nat.le_of_ble_eq_true rfl, Nat.le_of_ble_eq_true rfl, Nat.le_of_ble_eq_true rfl⟩ rfl rfl rfl rfl ?_
        refine mp_iald dX12_changes_123 (mp_lk hA 1 rfl) ⟨by omega, by omega⟩ (by omega) ?_
        refine mp_iload_n dX12_changes_124 rfl ?_
        refine mp_icmp_ne (tgt := 132) dX12_changes_125 rfl ⟨by omega, by omega⟩ ⟨by omega, by omega⟩ (fun h3 => ?_) (fun h3 => ?_)
        · refine mp_iconst dX12_changes_132 ?_
          refine mp_iadd (z := o + 0) dX12_changes_133 (by first | rfl | omega) ?_
          refine mp_iload dX12_changes_134 rfl ?_
          refine mp_aload_n dX12_changes_136 rfl ?_
          refine mp_getfield dX12_changes_137 fsX12_9_11 (mp_lk hA 0 rfl) rfl ?_
          refine mp_iload_n dX12_changes_140 rfl ?_
          refine mp_iconst dX12_changes_141 ?_
          refine mp_invS (z := (mX12_by, 0, 0, 0)) (K' := (0, 0)) (σ1 := A ++ (mp_ms s m img was num pro ask kp kk kf so sz el im pl ra re p.1 p.2 sd th ++ B)) (as := [mp_i 0, mp_i 2]) (st := [Value.ref 45, mp_i c, mp_i (o + 0), mp_i (mp_dif g (mp_bit k)), mp_i 1, Value.ref 44]) (st1 := [mp_i (49 + 3 * 0 + 2), Value.ref 45, mp_i c, mp_i (o + 0), mp_i (mp_dif g (mp_bit k)), mp_i 1, Value.ref 44]) dX12_changes_142 ssX12_49 (zX12_by (l := 0) (x := 2)  ) ⟨Nat.le_of_ble_eq_true rfl, Nat.le_of_ble_eq_true rfl, Nat.le_of_ble_eq_true rfl, Nat.le_of_ble_eq_true rfl, Nat.le_of_ble_eq_true rfl⟩ rfl rfl rfl rfl ?_
          refine mp_iald dX12_changes_145 (mp_lk hA 1 rfl) ⟨by omega, by omega⟩ (by omega) ?_
          refine mp_iload dX12_changes_146 rfl ?_
          refine mp_icmp_ne (tgt := 155) dX12_changes_148 rfl ⟨by omega, by omega⟩ ⟨by omega, by omega⟩ (fun h4 => ?_) (fun h4 => ?_)
          · refine mp_iconst dX12_changes_155 ?_
            refine mp_iadd (z := c + 1) dX12_changes_156 (by first | rfl | omega) ?_
            refine mp_invV (z := (mX12_changes, 6, 0, 0)) (K' := (0, 0)) (σ1 := A ++ (mp_ms s m img was num pro ask kp kk kf so sz el im pl ra re ((sp_chg s 4 1 (mp_dif g (mp_bit k)) (o + 0) (c + 1) (p.1, p.2)).1) ((sp_chg s 4 1 (mp_dif g (mp_bit k)) (o + 0) (c + 1) (p.1, p.2)).2) sd th ++ B)) (as := [mp_i 1, mp_i (mp_dif g (mp_bit k)), mp_i (o + 0), mp_i (c + 1)]) (st := []) (st1 := []) dX12_changes_157 svX12_200 (mp_lk hA 0 rfl) rfl rfl (zX12_changes4 (g := (mp_dif g (mp_bit k))) (o := (o + 0)) (c := (c + 1)) (s := s) (m := m) (img := img) (was := was) (num := num) (pro := pro) (ask := ask) (kp := kp) (kk := kk) (kf := kf) (so := so) (sz := sz) (el := el) (im := im) (pl := pl) (ra := ra) (re := re) (rm := p.1) (rf := p.2) (sd := sd) (th := th) (by first | with_reducible assumption | omega) (by first | with_reducible assumption | omega) (by first | with_reducible assumption | omega) (by first | with_reducible assumption | omega) (by first | with_reducible assumption | omega) (by first | with_reducible assumption | omega)) ⟨Nat.le_of_ble_eq_true rfl, Nat.le_of_ble_eq_true rfl, Nat.le_of_ble_eq_true rfl, Nat.le_of_ble_eq_true rfl, Nat.le_of_ble_eq_true rfl⟩ rfl rfl rfl rfl ?_
            refine mp_iinc (z := k + 1) (L' := [some (Value.ref 44), some (mp_i 0), some (mp_i g), some (mp_i o), some (mp_i c), some (mp_i (k + 1))]) dX12_changes_160 rfl (rfl) (by decide) rfl ?_
            refine mp_goto (tgt := 79) dX12_changes_163 rfl ?_
            have e9 : (fun k p => if sp_b g k = 1 then sp_chg s 4 (0 + 1) (mp_dif g (mp_bit k)) (o + (if s (1 + 6 * k + 5) = 0 then 1 else 0)) (c + (if s (49 + 3 * 0 + 2) = k then 0 else 1)) p else p) k p = sp_chg s 4 (0 + 1) (mp_dif g (mp_bit k)) (o + (if s (1 + 6 * k + 5) = 0 then 1 else 0)) (c + (if s (49 + 3 * 0 + 2) = k then 0 else 1)) p := by exact if_pos (by omega)
            have k9 := ih (k + 1) ((fun k p => if sp_b g k = 1 then sp_chg s 4 (0 + 1) (mp_dif g (mp_bit k)) (o + (if s (1 + 6 * k + 5) = 0 then 1 else 0)) (c + (if s (49 + 3 * 0 + 2) = k then 0 else 1)) p else p) k p) ⟨by omega, by rw [e9]; exact mp_chg_bd s 4 _ _ _ _ p (by decide) (by split <;> omega) (by split <;> omega) hi.2⟩ hR
            rw [e9] at k9
            refine mp_sg ?_ k9
            rw [show o + 0 = o + (if s (1 + 6 * k + 5) = 0 then 1 else 0) from by omega, show c + 1 = c + (if s (49 + 3 * 0 + 2) = k then 0 else 1) from by omega]; rfl
          · refine mp_iconst dX12_changes_151 ?_
            refine mp_goto (tgt := 156) dX12_changes_152 rfl ?_
            refine mp_iadd (z := c + 0) dX12_changes_156 (by first | rfl | omega) ?_
            refine mp_invV (z := (mX12_changes, 6, 0, 0)) (K' := (0, 0)) (σ1 := A ++ (mp_ms s m img was num pro ask kp kk kf so sz el im pl ra re ((sp_chg s 4 1 (mp_dif g (mp_bit k)) (o + 0) (c + 0) (p.1, p.2)).1) ((sp_chg s 4 1 (mp_dif g (mp_bit k)) (o + 0) (c + 0) (p.1, p.2)).2) sd th ++ B)) (as := [mp_i 1, mp_i (mp_dif g (mp_bit k)), mp_i (o + 0), mp_i (c + 0)]) (st := []) (st1 := []) dX12_changes_157 svX12_200 (mp_lk hA 0 rfl) rfl rfl (zX12_changes4 (g := (mp_dif g (mp_bit k))) (o := (o + 0)) (c := (c + 0)) (s := s) (m := m) (img := img) (was := was) (num := num) (pro := pro) (ask := ask) (kp := kp) (kk := kk) (kf := kf) (so := so) (sz := sz) (el := el) (im := im) (pl := pl) (ra := ra) (re := re) (rm := p.1) (rf := p.2) (sd := sd) (th := th) (by first | with_reducible assumption | omega) (by first | with_reducible assumption | omega) (by first | with_reducible assumption | omega) (by first | with_reducible assumption | omega) (by first | with_reducible assumption | omega) (by first | with_reducible assumption | omega)) ⟨Nat.le_of_ble_eq_true rfl, Nat.le_of_ble_eq_true rfl, Nat.le_of_ble_eq_true rfl, Nat.le_of_ble_eq_true rfl, Nat.le_of_ble_eq_true rfl⟩ rfl rfl rfl rfl ?_
            refine mp_iinc (z := k + 1) (L' := [some (Value.ref 44), some (mp_i 0), some (mp_i g), some (mp_i o), some (mp_i c), some (mp_i (k + 1))]) dX12_changes_160 rfl (rfl) (by decide) rfl ?_
            refine mp_goto (tgt := 79) dX12_changes_163 rfl ?_
            have e9 : (fun k p => if sp_b g k = 1 then sp_chg s 4 (0 + 1) (mp_dif g (mp_bit k)) (o + (if s (1 + 6 * k + 5) = 0 then 1 else 0)) (c + (if s (49 + 3 * 0 + 2) = k then 0 else 1)) p else p) k p = sp_chg s 4 (0 + 1) (mp_dif g (mp_bit k)) (o + (if s (1 + 6 * k + 5) = 0 then 1 else 0)) (c + (if s (49 + 3 * 0 + 2) = k then 0 else 1)) p := by exact if_pos (by omega)
            have k9 := ih (k + 1) ((fun k p => if sp_b g k = 1 then sp_chg s 4 (0 + 1) (mp_dif g (mp_bit k)) (o + (if s (1 + 6 * k + 5) = 0 then 1 else 0)) (c + (if s (49 + 3 * 0 + 2) = k then 0 else 1)) p else p) k p) ⟨by omega, by rw [e9]; exact mp_chg_bd s 4 _ _ _ _ p (by decide) (by split <;> omega) (by split <;> omega) hi.2⟩ hR
            rw [e9] at k9
            refine mp_sg ?_ k9
            rw [show o + 0 = o + (if s (1 + 6 * k + 5) = 0 then 1 else 0) from by omega, show c + 0 = c + (if s (49 + 3 * 0 + 2) = k then 0 else 1) from by omega]; rfl
        · refine mp_iconst dX12_changes_128 ?_
          refine mp_goto (tgt := 133) dX12_changes_129 rfl ?_
          refine mp_iadd (z := o + 1) dX12_changes_133 (by first | rfl | omega) ?_
          refine mp_iload dX12_changes_134 rfl ?_
          refine mp_aload_n dX12_changes_136 rfl ?_
          refine mp_getfield dX12_changes_137 fsX12_9_11 (mp_lk hA 0 rfl) rfl ?_
          refine mp_iload_n dX12_changes_140 rfl ?_
          refine mp_iconst dX12_changes_141 ?_
          refine mp_invS (z := (mX12_by, 0, 0, 0)) (K' := (0, 0)) (σ1 := A ++ (mp_ms s m img was num pro ask kp kk kf so sz el im pl ra re p.1 p.2 sd th ++ B)) (as := [mp_i 0, mp_i 2]) (st := [Value.ref 45, mp_i c, mp_i (o + 1), mp_i (mp_dif g (mp_bit k)), mp_i 1, Value.ref 44]) (st1 := [mp_i (49 + 3 * 0 + 2), Value.ref 45, mp_i c, mp_i (o + 1), mp_i (mp_dif g (mp_bit k)), mp_i 1, Value.ref 44]) dX12_changes_142 ssX12_49 (zX12_by (l := 0) (x := 2)  ) ⟨Nat.le_of_ble_eq_true rfl, Nat.le_of_ble_eq_true rfl, Nat.le_of_ble_eq_true rfl, Nat.le_of_ble_eq_true rfl, Nat.le_of_ble_eq_true rfl⟩ rfl rfl rfl rfl ?_
          refine mp_iald dX12_changes_145 (mp_lk hA 1 rfl) ⟨by omega, by omega⟩ (by omega) ?_
          refine mp_iload dX12_changes_146 rfl ?_
          refine mp_icmp_ne (tgt := 155) dX12_changes_148 rfl ⟨by omega, by omega⟩ ⟨by omega, by omega⟩ (fun h5 => ?_) (fun h5 => ?_)
          · refine mp_iconst dX12_changes_155 ?_
            refine mp_iadd (z := c + 1) dX12_changes_156 (by first | rfl | omega) ?_
            refine mp_invV (z := (mX12_changes, 6, 0, 0)) (K' := (0, 0)) (σ1 := A ++ (mp_ms s m img was num pro ask kp kk kf so sz el im pl ra re ((sp_chg s 4 1 (mp_dif g (mp_bit k)) (o + 1) (c + 1) (p.1, p.2)).1) ((sp_chg s 4 1 (mp_dif g (mp_bit k)) (o + 1) (c + 1) (p.1, p.2)).2) sd th ++ B)) (as := [mp_i 1, mp_i (mp_dif g (mp_bit k)), mp_i (o + 1), mp_i (c + 1)]) (st := []) (st1 := []) dX12_changes_157 svX12_200 (mp_lk hA 0 rfl) rfl rfl (zX12_changes4 (g := (mp_dif g (mp_bit k))) (o := (o + 1)) (c := (c + 1)) (s := s) (m := m) (img := img) (was := was) (num := num) (pro := pro) (ask := ask) (kp := kp) (kk := kk) (kf := kf) (so := so) (sz := sz) (el := el) (im := im) (pl := pl) (ra := ra) (re := re) (rm := p.1) (rf := p.2) (sd := sd) (th := th) (by first | with_reducible assumption | omega) (by first | with_reducible assumption | omega) (by first | with_reducible assumption | omega) (by first | with_reducible assumption | omega) (by first | with_reducible assumption | omega) (by first | with_reducible assumption | omega)) ⟨Nat.le_of_ble_eq_true rfl, Nat.le_of_ble_eq_true rfl, Nat.le_of_ble_eq_true rfl, Nat.le_of_ble_eq_true rfl, Nat.le_of_ble_eq_true rfl⟩ rfl rfl rfl rfl ?_
            refine mp_iinc (z := k + 1) (L' := [some (Value.ref 44), some (mp_i 0), some (mp_i g), some (mp_i o), some (mp_i c), some (mp_i (k + 1))]) dX12_changes_160 rfl (rfl) (by decide) rfl ?_
            refine mp_goto (tgt := 79) dX12_changes_163 rfl ?_
            have e9 : (fun k p => if sp_b g k = 1 then sp_chg s 4 (0 + 1) (mp_dif g (mp_bit k)) (o + (if s (1 + 6 * k + 5) = 0 then 1 else 0)) (c + (if s (49 + 3 * 0 + 2) = k then 0 else 1)) p else p) k p = sp_chg s 4 (0 + 1) (mp_dif g (mp_bit k)) (o + (if s (1 + 6 * k + 5) = 0 then 1 else 0)) (c + (if s (49 + 3 * 0 + 2) = k then 0 else 1)) p := by exact if_pos (by omega)
            have k9 := ih (k + 1) ((fun k p => if sp_b g k = 1 then sp_chg s 4 (0 + 1) (mp_dif g (mp_bit k)) (o + (if s (1 + 6 * k + 5) = 0 then 1 else 0)) (c + (if s (49 + 3 * 0 + 2) = k then 0 else 1)) p else p) k p) ⟨by omega, by rw [e9]; exact mp_chg_bd s 4 _ _ _ _ p (by decide) (by split <;> omega) (by split <;> omega) hi.2⟩ hR
            rw [e9] at k9
            refine mp_sg ?_ k9
            rw [show o + 1 = o + (if s (1 + 6 * k + 5) = 0 then 1 else 0) from by omega, show c + 1 = c + (if s (49 + 3 * 0 + 2) = k then 0 else 1) from by omega]; rfl
          · refine mp_iconst dX12_changes_151 ?_
            refine mp_goto (tgt := 156) dX12_changes_152 rfl ?_
            refine mp_iadd (z := c + 0) dX12_changes_156 (by first | rfl | omega) ?_
            refine mp_invV (z := (mX12_changes, 6, 0, 0)) (K' := (0, 0)) (σ1 := A ++ (mp_ms s m img was num pro ask kp kk kf so sz el im pl ra re ((sp_chg s 4 1 (mp_dif g (mp_bit k)) (o + 1) (c + 0) (p.1, p.2)).1) ((sp_chg s 4 1 (mp_dif g (mp_bit k)) (o + 1) (c + 0) (p.1, p.2)).2) sd th ++ B)) (as := [mp_i 1, mp_i (mp_dif g (mp_bit k)), mp_i (o + 1), mp_i (c + 0)]) (st := []) (st1 := []) dX12_changes_157 svX12_200 (mp_lk hA 0 rfl) rfl rfl (zX12_changes4 (g := (mp_dif g (mp_bit k))) (o := (o + 1)) (c := (c + 0)) (s := s) (m := m) (img := img) (was := was) (num := num) (pro := pro) (ask := ask) (kp := kp) (kk := kk) (kf := kf) (so := so) (sz := sz) (el := el) (im := im) (pl := pl) (ra := ra) (re := re) (rm := p.1) (rf := p.2) (sd := sd) (th := th) (by first | with_reducible assumption | omega) (by first | with_reducible assumption | omega) (by first | with_reducible assumption | omega) (by first | with_reducible assumption | omega) (by first | with_reducible assumption | omega) (by first | with_reducible assumption | omega)) ⟨Nat.le_of_ble_eq_true rfl, Nat.le_of_ble_eq_true rfl, Nat.le_of_ble_eq_true rfl, Nat.le_of_ble_eq_true rfl, Nat.le_of_ble_eq_true rfl⟩ rfl rfl rfl rfl ?_
            refine mp_iinc (z := k + 1) (L' := [some (Value.ref 44), some (mp_i 0), some (mp_i g), some (mp_i o), some (mp_i c), some (mp_i (k + 1))]) dX12_changes_160 rfl (rfl) (by decide) rfl ?_
            refine mp_goto (tgt := 79) dX12_changes_163 rfl ?_
            have e9 : (fun k p => if sp_b g k = 1 then sp_chg s 4 (0 + 1) (mp_dif g (mp_bit k)) (o + (if s (1 + 6 * k + 5) = 0 then 1 else 0)) (c + (if s (49 + 3 * 0 + 2) = k then 0 else 1)) p else p) k p = sp_chg s 4 (0 + 1) (mp_dif g (mp_bit k)) (o + (if s (1 + 6 * k + 5) = 0 then 1 else 0)) (c + (if s (49 + 3 * 0 + 2) = k then 0 else 1)) p := by exact if_pos (by omega)
            have k9 := ih (k + 1) ((fun k p => if sp_b g k = 1 then sp_chg s 4 (0 + 1) (mp_dif g (mp_bit k)) (o + (if s (1 + 6 * k + 5) = 0 then 1 else 0)) (c + (if s (49 + 3 * 0 + 2) = k then 0 else 1)) p else p) k p) ⟨by omega, by rw [e9]; exact mp_chg_bd s 4 _ _ _ _ p (by decide) (by split <;> omega) (by split <;> omega) hi.2⟩ hR
            rw [e9] at k9
            refine mp_sg ?_ k9
            rw [show o + 1 = o + (if s (1 + 6 * k + 5) = 0 then 1 else 0) from by omega, show c + 0 = c + (if s (49 + 3 * 0 + 2) = k then 0 else 1) from by omega]; rfl
theorem zX12_changes5 {s m img was num pro ask kp kk kf so sz el : Int → Int} {im pl ra re rm rf sd th : Int} {A B : mp_H}  {g : Int} {o : Int} {c : Int} (hA : A.length = 44) (hs : mp_sky s) (h_g : 0 ≤ g ∧ g < 256) (h_o : 0 ≤ o ∧ o ≤ 0) (h_c : 0 ≤ c ∧ c ≤ 0) (h_p : mp_rng (rm, rf)) : mp_Call (mX12_changes, 7, 0, 0) [Value.ref 44, mp_i 0, mp_i g, mp_i o, mp_i c] (A ++ (mp_ms s m img was num pro ask kp kk kf so sz el im pl ra re rm rf sd th ++ B)) (none, A ++ (mp_ms s m img was num pro ask kp kk kf so sz el im pl ra re ((sp_chg s 5 0 g o c (rm, rf)).1) ((sp_chg s 5 0 g o c (rm, rf)).2) sd th ++ B)) := by
  refine mp_Call.of (L := [some (Value.ref 44), some (mp_i 0), some (mp_i g), some (mp_i o), some (mp_i c), none]) pnX12 (Nat.le_of_ble_eq_true rfl) rfl ?_
  have h0 := hs.1
  have hb9 := hs.2.2.1 0 (by omega) (by omega)
  refine mp_iload_n dX12_changes_0 rfl ?_
  refine mp_iconst dX12_changes_1 ?_
  refine mp_icmp_ne (tgt := 49) dX12_changes_2 rfl ⟨by decide, by decide⟩ ⟨by decide, by decide⟩ (fun _ => ?_) (fun h1 => absurd h1 (by decide))
  refine mp_aload_n dX12_changes_49 rfl ?_
  refine mp_getfield dX12_changes_50 fsX12_9_11 (mp_lk hA 0 rfl) rfl ?_
  refine mp_iload_n dX12_changes_53 rfl ?_
  refine mp_iconst dX12_changes_54 ?_
  refine mp_invS (z := (mX12_by, 0, 0, 0)) (K' := (0, 0)) (σ1 := A ++ (mp_ms s m img was num pro ask kp kk kf so sz el im pl ra re rm rf sd th ++ B)) (as := [mp_i 0, mp_i 2]) (st := [Value.ref 45]) (st1 := [mp_i (49 + 3 * 0 + 2), Value.ref 45]) dX12_changes_55 ssX12_49 (zX12_by (l := 0) (x := 2)  ) ⟨Nat.le_of_ble_eq_true rfl, Nat.le_of_ble_eq_true rfl, Nat.le_of_ble_eq_true rfl, Nat.le_of_ble_eq_true rfl, Nat.le_of_ble_eq_true rfl⟩ rfl rfl rfl rfl ?_
  refine mp_iald dX12_changes_58 (mp_lk hA 1 rfl) ⟨by omega, by omega⟩ (by omega) ?_
  refine mp_bipush dX12_changes_59 rfl ?_
  refine mp_icmp_ne (tgt := 76) dX12_changes_61 rfl ⟨by omega, by omega⟩ ⟨by omega, by omega⟩ (fun h2 => ?_) (fun h2 => ?_)
  · refine mp_iconst dX12_changes_76 ?_
    refine mp_istore (L' := [some (Value.ref 44), some (mp_i 0), some (mp_i g), some (mp_i o), some (mp_i c), some (mp_i 0)]) dX12_changes_77 (by decide) rfl ?_
    exact lX12_changes5_79 (g := g) (o := o) (c := c) (rm := rm) (rf := rf) hA hs h_g h_o h_c h_p (s 0).toNat 0 (rm, rf) ⟨by omega, h_p⟩ (by rw [show sp_chg s 5 0 g o c (rm, rf) = mp_fold (fun k p => if sp_b g k = 1 then sp_chg s 4 (0 + 1) (mp_dif g (mp_bit k)) (o + (if s (1 + 6 * k + 5) = 0 then 1 else 0)) (c + (if s (49 + 3 * 0 + 2) = k then 0 else 1)) p else p) (s 0).toNat 0 (rm, rf) from if_neg (by omega)])
  · refine mp_aload_n dX12_changes_64 rfl ?_
    refine mp_iload_n dX12_changes_65 rfl ?_
    refine mp_iconst dX12_changes_66 ?_
    refine mp_iadd (z := 1) dX12_changes_67 (by first | rfl | omega) ?_
    refine mp_iload_n dX12_changes_68 rfl ?_
    refine mp_iload_n dX12_changes_69 rfl ?_
    refine mp_iload dX12_changes_70 rfl ?_
    refine mp_invV (z := (mX12_changes, 6, 0, 0)) (K' := (0, 0)) (σ1 := A ++ (mp_ms s m img was num pro ask kp kk kf so sz el im pl ra re ((sp_chg s 4 1 g o c (rm, rf)).1) ((sp_chg s 4 1 g o c (rm, rf)).2) sd th ++ B)) (as := [mp_i 1, mp_i g, mp_i o, mp_i c]) (st := []) (st1 := []) dX12_changes_72 svX12_200 (mp_lk hA 0 rfl) rfl rfl (zX12_changes4 (g := g) (o := o) (c := c) (s := s) (m := m) (img := img) (was := was) (num := num) (pro := pro) (ask := ask) (kp := kp) (kk := kk) (kf := kf) (so := so) (sz := sz) (el := el) (im := im) (pl := pl) (ra := ra) (re := re) (rm := rm) (rf := rf) (sd := sd) (th := th) (by first | with_reducible assumption | omega) (by first | with_reducible assumption | omega) (by first | with_reducible assumption | omega) (by first | with_reducible assumption | omega) (by first | with_reducible assumption | omega) (by first | with_reducible assumption | omega)) ⟨Nat.le_of_ble_eq_true rfl, Nat.le_of_ble_eq_true rfl, Nat.le_of_ble_eq_true rfl, Nat.le_of_ble_eq_true rfl, Nat.le_of_ble_eq_true rfl⟩ rfl rfl rfl rfl ?_
    exact mp_vreturn (st := []) dX12_changes_75 rfl ⟨by decide, by decide⟩ (by rw [show sp_chg s 5 0 g o c (rm, rf) = sp_chg s 4 (0 + 1) g o c (rm, rf) from if_pos (by omega)]; rfl)
