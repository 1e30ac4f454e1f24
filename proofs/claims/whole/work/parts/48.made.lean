/-! ===== METEORS made ===== -/
theorem w_310 : (Jvm.Cond.instantiable "MeteorsAreProposals$Meteor" (7 : Nat)) ∈ mp_gt := mp_gt_of 310 (by decide +kernel) rfl
theorem w_68 : (Jvm.Cond.instantiable "MeteorsAreProposals$Row" (3 : Nat)) ∈ mp_gt := mp_gt_of 68 (by decide +kernel) rfl
theorem nsX11_26 : mp_NS RX11 26 0 := ⟨_, rfl, w_65, w_310, w_6⟩
theorem nsX11_32 : mp_NS RX11 32 9 := ⟨_, rfl, w_66, w_68, w_3⟩
abbrev mp_z7 : List Value := [mp_i 0, mp_i 0, mp_i 0, mp_i 0, mp_i 0, mp_i 0, mp_i 0]
theorem mp_hfs8 {c : Nat} (h : c < 8) : ∀ (G : mp_G) (j : Nat), j < 7 → (parseFieldDescriptor ((mp_clr c).2.1 j).2.2.1).map defaultValue = some (vp_V (mp_z7.map (mp_tr G)) j) := by
  intro G j hj
  rw [(mp_tb8 c h j hj).1]
  match j, hj with
  | 0, _ => rfl
  | 1, _ => rfl
  | 2, _ => rfl
  | 3, _ => rfl
  | 4, _ => rfl
  | 5, _ => rfl
  | 6, _ => rfl
theorem mp_atE {σ : mp_H} {c : mp_C} : (σ ++ [c])[σ.length]? = some c := by rw [List.getElem?_append_right (Nat.le_refl _), Nat.sub_self]; rfl
theorem mp_stE {σ : mp_H} {c d : mp_C} : (σ ++ [c]).set σ.length d = σ ++ [d] := by rw [List.set_append_right _ _ (Nat.le_refl _), Nat.sub_self]; rfl
/-- a METEOR told by KIND and FIGURE alone -/
abbrev mp_nw (kd fg : Int) : mp_C := mp_O (Int.toNat kd) [mp_i kd, mp_i fg, mp_i 0, mp_i 0, mp_i 0, mp_i 0, mp_i 0]
theorem zX4_init {c f0 f1 f2 f3 f4 f5 f6 : Int} {a : Nat} {kd : Int} {fg : Int} {σ : mp_H} (ha : σ[a]? = some (mp_O (Int.toNat c) [mp_i f0, mp_i f1, mp_i f2, mp_i f3, mp_i f4, mp_i f5, mp_i f6])) (h_c : 0 ≤ c ∧ c ≤ 7) (h_a : 0 < a) : mp_Call (mX4_init, 1, 0, 0) [Value.ref a, mp_i kd, mp_i fg] σ (none, σ.set a (mp_O (Int.toNat c) [mp_i kd, mp_i fg, mp_i f2, mp_i f3, mp_i f4, mp_i f5, mp_i f6])) := by
  refine mp_Call.of (L := [some (Value.ref a), some (mp_i kd), some (mp_i fg)]) pnX4 (Nat.le_of_ble_eq_true rfl) rfl ?_
  refine mp_aload_n dX4_init_0 rfl ?_
  refine mp_objinit dX4_init_1 soX4_3 (by decide) (Nat.le_of_ble_eq_true rfl) ?_
  refine mp_aload_n dX4_init_4 rfl ?_
  refine mp_iload_n dX4_init_5 rfl ?_
  refine mp_putM (σ' := σ.set a (mp_O (Int.toNat c) [mp_i kd, mp_i f1, mp_i f2, mp_i f3, mp_i f4, mp_i f5, mp_i f6])) dX4_init_6 (fsX4_9 (by omega)) (by omega) (by decide) (Or.inr ⟨rfl, rfl⟩) ha (by omega) (Nat.le_of_ble_eq_true rfl) rfl ?_
  refine mp_aload_n dX4_init_9 rfl ?_
  refine mp_iload_n dX4_init_10 rfl ?_
  refine mp_putM (σ' := σ.set a (mp_O (Int.toNat c) [mp_i kd, mp_i fg, mp_i f2, mp_i f3, mp_i f4, mp_i f5, mp_i f6])) dX4_init_11 (fsX4_15 (by omega)) (by omega) (by decide) (Or.inr ⟨rfl, rfl⟩) (mp_set_at ha) (by omega) (Nat.le_of_ble_eq_true rfl) mp_set2 ?_
  exact mp_vreturn (st := []) dX4_init_14 rfl ⟨by decide, by decide⟩ (by rfl)
theorem zX9_init {c f0 f1 f2 f3 f4 f5 f6 : Int} {a : Nat} {kd : Int} {fg : Int} {σ : mp_H} (ha : σ[a]? = some (mp_O (Int.toNat c) [mp_i f0, mp_i f1, mp_i f2, mp_i f3, mp_i f4, mp_i f5, mp_i f6])) (h_c : 0 ≤ c ∧ c ≤ 7) (h_a : 0 < a) : mp_Call (mX9_init, 2, 0, 0) [Value.ref a, mp_i kd, mp_i fg] σ (none, σ.set a (mp_O (Int.toNat c) [mp_i kd, mp_i fg, mp_i f2, mp_i f3, mp_i f4, mp_i f5, mp_i f6])) := by
  refine mp_Call.of (L := [some (Value.ref a), some (mp_i kd), some (mp_i fg)]) pnX9 (Nat.le_of_ble_eq_true rfl) rfl ?_
  refine mp_aload_n dX9_init_0 rfl ?_
  refine mp_iload_n dX9_init_1 rfl ?_
  refine mp_iload_n dX9_init_2 rfl ?_
  refine mp_invI (z := (mX4_init, 1, 0, 0)) (K' := (0, 0)) (σ1 := σ.set a (mp_O (Int.toNat c) [mp_i kd, mp_i fg, mp_i f2, mp_i f3, mp_i f4, mp_i f5, mp_i f6])) (as := [mp_i kd, mp_i fg]) (st := []) (st1 := []) dX9_init_3 siX9_1 (zX4_init (a := a) (kd := kd) (fg := fg) (f0 := f0) (f1 := f1) (f2 := f2) (f3 := f3) (f4 := f4) (f5 := f5) (f6 := f6) (c := c) ha (by first | with_reducible assumption | omega) (by first | with_reducible assumption | omega)) ⟨Nat.le_of_ble_eq_true rfl, Nat.le_of_ble_eq_true rfl, Nat.le_of_ble_eq_true rfl, Nat.le_of_ble_eq_true rfl, Nat.le_of_ble_eq_true rfl⟩ rfl rfl rfl rfl ?_
  exact mp_vreturn (st := []) dX9_init_6 rfl ⟨by decide, by decide⟩ (by rfl)
theorem zX1_init {c f0 f1 f2 f3 f4 f5 f6 : Int} {a : Nat} {kd : Int} {fg : Int} {σ : mp_H} (ha : σ[a]? = some (mp_O (Int.toNat c) [mp_i f0, mp_i f1, mp_i f2, mp_i f3, mp_i f4, mp_i f5, mp_i f6])) (h_c : 0 ≤ c ∧ c ≤ 7) (h_a : 0 < a) : mp_Call (mX1_init, 2, 0, 0) [Value.ref a, mp_i kd, mp_i fg] σ (none, σ.set a (mp_O (Int.toNat c) [mp_i kd, mp_i fg, mp_i f2, mp_i f3, mp_i f4, mp_i f5, mp_i f6])) := by
  refine mp_Call.of (L := [some (Value.ref a), some (mp_i kd), some (mp_i fg)]) pnX1 (Nat.le_of_ble_eq_true rfl) rfl ?_
  refine mp_aload_n dX1_init_0 rfl ?_
  refine mp_iload_n dX1_init_1 rfl ?_
  refine mp_iload_n dX1_init_2 rfl ?_
  refine mp_invI (z := (mX4_init, 1, 0, 0)) (K' := (0, 0)) (σ1 := σ.set a (mp_O (Int.toNat c) [mp_i kd, mp_i fg, mp_i f2, mp_i f3, mp_i f4, mp_i f5, mp_i f6])) (as := [mp_i kd, mp_i fg]) (st := []) (st1 := []) dX1_init_3 siX1_1 (zX4_init (a := a) (kd := kd) (fg := fg) (f0 := f0) (f1 := f1) (f2 := f2) (f3 := f3) (f4 := f4) (f5 := f5) (f6 := f6) (c := c) ha (by first | with_reducible assumption | omega) (by first | with_reducible assumption | omega)) ⟨Nat.le_of_ble_eq_true rfl, Nat.le_of_ble_eq_true rfl, Nat.le_of_ble_eq_true rfl, Nat.le_of_ble_eq_true rfl, Nat.le_of_ble_eq_true rfl⟩ rfl rfl rfl rfl ?_
  exact mp_vreturn (st := []) dX1_init_6 rfl ⟨by decide, by decide⟩ (by rfl)
theorem zX0_init {c f0 f1 f2 f3 f4 f5 f6 : Int} {a : Nat} {kd : Int} {fg : Int} {σ : mp_H} (ha : σ[a]? = some (mp_O (Int.toNat c) [mp_i f0, mp_i f1, mp_i f2, mp_i f3, mp_i f4, mp_i f5, mp_i f6])) (h_c : 0 ≤ c ∧ c ≤ 7) (h_a : 0 < a) : mp_Call (mX0_init, 2, 0, 0) [Value.ref a, mp_i kd, mp_i fg] σ (none, σ.set a (mp_O (Int.toNat c) [mp_i kd, mp_i fg, mp_i f2, mp_i f3, mp_i f4, mp_i f5, mp_i f6])) := by
  refine mp_Call.of (L := [some (Value.ref a), some (mp_i kd), some (mp_i fg)]) pnX0 (Nat.le_of_ble_eq_true rfl) rfl ?_
  refine mp_aload_n dX0_init_0 rfl ?_
  refine mp_iload_n dX0_init_1 rfl ?_
  refine mp_iload_n dX0_init_2 rfl ?_
  refine mp_invI (z := (mX4_init, 1, 0, 0)) (K' := (0, 0)) (σ1 := σ.set a (mp_O (Int.toNat c) [mp_i kd, mp_i fg, mp_i f2, mp_i f3, mp_i f4, mp_i f5, mp_i f6])) (as := [mp_i kd, mp_i fg]) (st := []) (st1 := []) dX0_init_3 siX0_1 (zX4_init (a := a) (kd := kd) (fg := fg) (f0 := f0) (f1 := f1) (f2 := f2) (f3 := f3) (f4 := f4) (f5 := f5) (f6 := f6) (c := c) ha (by first | with_reducible assumption | omega) (by first | with_reducible assumption | omega)) ⟨Nat.le_of_ble_eq_true rfl, Nat.le_of_ble_eq_true rfl, Nat.le_of_ble_eq_true rfl, Nat.le_of_ble_eq_true rfl, Nat.le_of_ble_eq_true rfl⟩ rfl rfl rfl rfl ?_
  exact mp_vreturn (st := []) dX0_init_6 rfl ⟨by decide, by decide⟩ (by rfl)
theorem zX8_init {c f0 f1 f2 f3 f4 f5 f6 : Int} {a : Nat} {kd : Int} {fg : Int} {σ : mp_H} (ha : σ[a]? = some (mp_O (Int.toNat c) [mp_i f0, mp_i f1, mp_i f2, mp_i f3, mp_i f4, mp_i f5, mp_i f6])) (h_c : 0 ≤ c ∧ c ≤ 7) (h_a : 0 < a) : mp_Call (mX8_init, 3, 0, 0) [Value.ref a, mp_i kd, mp_i fg] σ (none, σ.set a (mp_O (Int.toNat c) [mp_i kd, mp_i fg, mp_i f2, mp_i f3, mp_i f4, mp_i f5, mp_i f6])) := by
  refine mp_Call.of (L := [some (Value.ref a), some (mp_i kd), some (mp_i fg)]) pnX8 (Nat.le_of_ble_eq_true rfl) rfl ?_
  refine mp_aload_n dX8_init_0 rfl ?_
  refine mp_iload_n dX8_init_1 rfl ?_
  refine mp_iload_n dX8_init_2 rfl ?_
  refine mp_invI (z := (mX1_init, 2, 0, 0)) (K' := (0, 0)) (σ1 := σ.set a (mp_O (Int.toNat c) [mp_i kd, mp_i fg, mp_i f2, mp_i f3, mp_i f4, mp_i f5, mp_i f6])) (as := [mp_i kd, mp_i fg]) (st := []) (st1 := []) dX8_init_3 siX8_1 (zX1_init (a := a) (kd := kd) (fg := fg) (f0 := f0) (f1 := f1) (f2 := f2) (f3 := f3) (f4 := f4) (f5 := f5) (f6 := f6) (c := c) ha (by first | with_reducible assumption | omega) (by first | with_reducible assumption | omega)) ⟨Nat.le_of_ble_eq_true rfl, Nat.le_of_ble_eq_true rfl, Nat.le_of_ble_eq_true rfl, Nat.le_of_ble_eq_true rfl, Nat.le_of_ble_eq_true rfl⟩ rfl rfl rfl rfl ?_
  exact mp_vreturn (st := []) dX8_init_6 rfl ⟨by decide, by decide⟩ (by rfl)
theorem zX10_init {c f0 f1 f2 f3 f4 f5 f6 : Int} {a : Nat} {kd : Int} {fg : Int} {σ : mp_H} (ha : σ[a]? = some (mp_O (Int.toNat c) [mp_i f0, mp_i f1, mp_i f2, mp_i f3, mp_i f4, mp_i f5, mp_i f6])) (h_c : 0 ≤ c ∧ c ≤ 7) (h_a : 0 < a) : mp_Call (mX10_init, 2, 0, 0) [Value.ref a, mp_i kd, mp_i fg] σ (none, σ.set a (mp_O (Int.toNat c) [mp_i kd, mp_i fg, mp_i f2, mp_i f3, mp_i f4, mp_i f5, mp_i f6])) := by
  refine mp_Call.of (L := [some (Value.ref a), some (mp_i kd), some (mp_i fg)]) pnX10 (Nat.le_of_ble_eq_true rfl) rfl ?_
  refine mp_aload_n dX10_init_0 rfl ?_
  refine mp_iload_n dX10_init_1 rfl ?_
  refine mp_iload_n dX10_init_2 rfl ?_
  refine mp_invI (z := (mX4_init, 1, 0, 0)) (K' := (0, 0)) (σ1 := σ.set a (mp_O (Int.toNat c) [mp_i kd, mp_i fg, mp_i f2, mp_i f3, mp_i f4, mp_i f5, mp_i f6])) (as := [mp_i kd, mp_i fg]) (st := []) (st1 := []) dX10_init_3 siX10_1 (zX4_init (a := a) (kd := kd) (fg := fg) (f0 := f0) (f1 := f1) (f2 := f2) (f3 := f3) (f4 := f4) (f5 := f5) (f6 := f6) (c := c) ha (by first | with_reducible assumption | omega) (by first | with_reducible assumption | omega)) ⟨Nat.le_of_ble_eq_true rfl, Nat.le_of_ble_eq_true rfl, Nat.le_of_ble_eq_true rfl, Nat.le_of_ble_eq_true rfl, Nat.le_of_ble_eq_true rfl⟩ rfl rfl rfl rfl ?_
  exact mp_vreturn (st := []) dX10_init_6 rfl ⟨by decide, by decide⟩ (by rfl)
theorem zX3_init {c f0 f1 f2 f3 f4 f5 f6 : Int} {a : Nat} {kd : Int} {fg : Int} {σ : mp_H} (ha : σ[a]? = some (mp_O (Int.toNat c) [mp_i f0, mp_i f1, mp_i f2, mp_i f3, mp_i f4, mp_i f5, mp_i f6])) (h_c : 0 ≤ c ∧ c ≤ 7) (h_a : 0 < a) : mp_Call (mX3_init, 3, 0, 0) [Value.ref a, mp_i kd, mp_i fg] σ (none, σ.set a (mp_O (Int.toNat c) [mp_i kd, mp_i fg, mp_i f2, mp_i f3, mp_i f4, mp_i f5, mp_i f6])) := by
  refine mp_Call.of (L := [some (Value.ref a), some (mp_i kd), some (mp_i fg)]) pnX3 (Nat.le_of_ble_eq_true rfl) rfl ?_
  refine mp_aload_n dX3_init_0 rfl ?_
  refine mp_iload_n dX3_init_1 rfl ?_
  refine mp_iload_n dX3_init_2 rfl ?_
  refine mp_invI (z := (mX9_init, 2, 0, 0)) (K' := (0, 0)) (σ1 := σ.set a (mp_O (Int.toNat c) [mp_i kd, mp_i fg, mp_i f2, mp_i f3, mp_i f4, mp_i f5, mp_i f6])) (as := [mp_i kd, mp_i fg]) (st := []) (st1 := []) dX3_init_3 siX3_1 (zX9_init (a := a) (kd := kd) (fg := fg) (f0 := f0) (f1 := f1) (f2 := f2) (f3 := f3) (f4 := f4) (f5 := f5) (f6 := f6) (c := c) ha (by first | with_reducible assumption | omega) (by first | with_reducible assumption | omega)) ⟨Nat.le_of_ble_eq_true rfl, Nat.le_of_ble_eq_true rfl, Nat.le_of_ble_eq_true rfl, Nat.le_of_ble_eq_true rfl, Nat.le_of_ble_eq_true rfl⟩ rfl rfl rfl rfl ?_
  exact mp_vreturn (st := []) dX3_init_6 rfl ⟨by decide, by decide⟩ (by rfl)
theorem zX2_init {c f0 f1 f2 f3 f4 f5 f6 : Int} {a : Nat} {kd : Int} {fg : Int} {σ : mp_H} (ha : σ[a]? = some (mp_O (Int.toNat c) [mp_i f0, mp_i f1, mp_i f2, mp_i f3, mp_i f4, mp_i f5, mp_i f6])) (h_c : 0 ≤ c ∧ c ≤ 7) (h_a : 0 < a) : mp_Call (mX2_init, 3, 0, 0) [Value.ref a, mp_i kd, mp_i fg] σ (none, σ.set a (mp_O (Int.toNat c) [mp_i kd, mp_i fg, mp_i f2, mp_i f3, mp_i f4, mp_i f5, mp_i f6])) := by
  refine mp_Call.of (L := [some (Value.ref a), some (mp_i kd), some (mp_i fg)]) pnX2 (Nat.le_of_ble_eq_true rfl) rfl ?_
  refine mp_aload_n dX2_init_0 rfl ?_
  refine mp_iload_n dX2_init_1 rfl ?_
  refine mp_iload_n dX2_init_2 rfl ?_
  refine mp_invI (z := (mX0_init, 2, 0, 0)) (K' := (0, 0)) (σ1 := σ.set a (mp_O (Int.toNat c) [mp_i kd, mp_i fg, mp_i f2, mp_i f3, mp_i f4, mp_i f5, mp_i f6])) (as := [mp_i kd, mp_i fg]) (st := []) (st1 := []) dX2_init_3 siX2_1 (zX0_init (a := a) (kd := kd) (fg := fg) (f0 := f0) (f1 := f1) (f2 := f2) (f3 := f3) (f4 := f4) (f5 := f5) (f6 := f6) (c := c) ha (by first | with_reducible assumption | omega) (by first | with_reducible assumption | omega)) ⟨Nat.le_of_ble_eq_true rfl, Nat.le_of_ble_eq_true rfl, Nat.le_of_ble_eq_true rfl, Nat.le_of_ble_eq_true rfl, Nat.le_of_ble_eq_true rfl⟩ rfl rfl rfl rfl ?_
  exact mp_vreturn (st := []) dX2_init_6 rfl ⟨by decide, by decide⟩ (by rfl)
theorem zX11_madeOf {kd : Int} {fg : Int} {σ : mp_H} (h_kd : 0 ≤ kd ∧ kd ≤ 7) (h_fg : mp_w fg) (h0 : 0 < σ.length) : mp_Call (mX11_madeOf, 4, 1, 7) [mp_i kd, mp_i fg] σ (some (Value.ref σ.length), σ ++ [mp_nw kd fg]) := by
  refine mp_Call.of (L := [some (mp_i kd), some (mp_i fg)]) pnX11 (Nat.le_of_ble_eq_true rfl) rfl ?_
  refine mp_iload_n dX11_madeOf_0 rfl ?_
  by_cases q1 : kd = 1
  · refine mp_top (y := 1) q1 ?_
    refine mp_tableIn (tgt := 44) (off := 43) dX11_madeOf_1 ⟨by decide, by decide⟩ (by decide) (by decide) rfl rfl ?_
    refine mp_new (ci := 1) (n := 7) (fs := mp_z7) (σ' := σ ++ [mp_O 1 mp_z7]) (K' := (1, 7)) dX11_madeOf_44 nsX11_362 rfl rfl (mp_hfs8 (c := 1) (by decide)) ⟨Nat.le_of_ble_eq_true rfl, Nat.le_of_ble_eq_true rfl⟩ rfl rfl ?_
    refine mp_dup dX11_madeOf_47 rfl ?_
    refine mp_iload_n dX11_madeOf_48 rfl ?_
    refine mp_iload_n dX11_madeOf_49 rfl ?_
    refine mp_invI (z := (mX9_init, 2, 0, 0)) (K' := (1, 7)) (σ1 := (σ ++ [mp_O 1 mp_z7]).set σ.length (mp_O (Int.toNat 1) [mp_i kd, mp_i fg, mp_i 0, mp_i 0, mp_i 0, mp_i 0, mp_i 0])) (as := [mp_i kd, mp_i fg]) (st := [Value.ref σ.length]) (st1 := [Value.ref σ.length]) dX11_madeOf_50 siX11_364 (zX9_init (a := σ.length) (kd := kd) (fg := fg) (f0 := 0) (f1 := 0) (f2 := 0) (f3 := 0) (f4 := 0) (f5 := 0) (f6 := 0) (c := 1) mp_atE (by first | with_reducible assumption | omega) (by first | with_reducible assumption | omega)) ⟨Nat.le_of_ble_eq_true rfl, Nat.le_of_ble_eq_true rfl, Nat.le_of_ble_eq_true rfl, Nat.le_of_ble_eq_true rfl, Nat.le_of_ble_eq_true rfl⟩ rfl rfl rfl rfl ?_
    obtain rfl : kd = 1 := by omega
    refine mp_sg (σ' := σ ++ [mp_nw 1 fg]) mp_stE ?_
    exact mp_areturn (st := []) dX11_madeOf_53 rfl (Or.inr ⟨_, rfl⟩) ⟨Nat.le_of_ble_eq_true rfl, Nat.le_of_ble_eq_true rfl⟩ rfl
  by_cases q2 : kd = 2
  · refine mp_top (y := 2) q2 ?_
    refine mp_tableIn (tgt := 54) (off := 53) dX11_madeOf_1 ⟨by decide, by decide⟩ (by decide) (by decide) rfl rfl ?_
    refine mp_new (ci := 2) (n := 7) (fs := mp_z7) (σ' := σ ++ [mp_O 2 mp_z7]) (K' := (1, 7)) dX11_madeOf_54 nsX11_366 rfl rfl (mp_hfs8 (c := 2) (by decide)) ⟨Nat.le_of_ble_eq_true rfl, Nat.le_of_ble_eq_true rfl⟩ rfl rfl ?_
    refine mp_dup dX11_madeOf_57 rfl ?_
    refine mp_iload_n dX11_madeOf_58 rfl ?_
    refine mp_iload_n dX11_madeOf_59 rfl ?_
    refine mp_invI (z := (mX1_init, 2, 0, 0)) (K' := (1, 7)) (σ1 := (σ ++ [mp_O 2 mp_z7]).set σ.length (mp_O (Int.toNat 2) [mp_i kd, mp_i fg, mp_i 0, mp_i 0, mp_i 0, mp_i 0, mp_i 0])) (as := [mp_i kd, mp_i fg]) (st := [Value.ref σ.length]) (st1 := [Value.ref σ.length]) dX11_madeOf_60 siX11_368 (zX1_init (a := σ.length) (kd := kd) (fg := fg) (f0 := 0) (f1 := 0) (f2 := 0) (f3 := 0) (f4 := 0) (f5 := 0) (f6 := 0) (c := 2) mp_atE (by first | with_reducible assumption | omega) (by first | with_reducible assumption | omega)) ⟨Nat.le_of_ble_eq_true rfl, Nat.le_of_ble_eq_true rfl, Nat.le_of_ble_eq_true rfl, Nat.le_of_ble_eq_true rfl, Nat.le_of_ble_eq_true rfl⟩ rfl rfl rfl rfl ?_
    obtain rfl : kd = 2 := by omega
    refine mp_sg (σ' := σ ++ [mp_nw 2 fg]) mp_stE ?_
    exact mp_areturn (st := []) dX11_madeOf_63 rfl (Or.inr ⟨_, rfl⟩) ⟨Nat.le_of_ble_eq_true rfl, Nat.le_of_ble_eq_true rfl⟩ rfl
  by_cases q3 : kd = 3
  · refine mp_top (y := 3) q3 ?_
    refine mp_tableIn (tgt := 64) (off := 63) dX11_madeOf_1 ⟨by decide, by decide⟩ (by decide) (by decide) rfl rfl ?_
    refine mp_new (ci := 3) (n := 7) (fs := mp_z7) (σ' := σ ++ [mp_O 3 mp_z7]) (K' := (1, 7)) dX11_madeOf_64 nsX11_369 rfl rfl (mp_hfs8 (c := 3) (by decide)) ⟨Nat.le_of_ble_eq_true rfl, Nat.le_of_ble_eq_true rfl⟩ rfl rfl ?_
    refine mp_dup dX11_madeOf_67 rfl ?_
    refine mp_iload_n dX11_madeOf_68 rfl ?_
    refine mp_iload_n dX11_madeOf_69 rfl ?_
    refine mp_invI (z := (mX0_init, 2, 0, 0)) (K' := (1, 7)) (σ1 := (σ ++ [mp_O 3 mp_z7]).set σ.length (mp_O (Int.toNat 3) [mp_i kd, mp_i fg, mp_i 0, mp_i 0, mp_i 0, mp_i 0, mp_i 0])) (as := [mp_i kd, mp_i fg]) (st := [Value.ref σ.length]) (st1 := [Value.ref σ.length]) dX11_madeOf_70 siX11_371 (zX0_init (a := σ.length) (kd := kd) (fg := fg) (f0 := 0) (f1 := 0) (f2 := 0) (f3 := 0) (f4 := 0) (f5 := 0) (f6 := 0) (c := 3) mp_atE (by first | with_reducible assumption | omega) (by first | with_reducible assumption | omega)) ⟨Nat.le_of_ble_eq_true rfl, Nat.le_of_ble_eq_true rfl, Nat.le_of_ble_eq_true rfl, Nat.le_of_ble_eq_true rfl, Nat.le_of_ble_eq_true rfl⟩ rfl rfl rfl rfl ?_
    obtain rfl : kd = 3 := by omega
    refine mp_sg (σ' := σ ++ [mp_nw 3 fg]) mp_stE ?_
    exact mp_areturn (st := []) dX11_madeOf_73 rfl (Or.inr ⟨_, rfl⟩) ⟨Nat.le_of_ble_eq_true rfl, Nat.le_of_ble_eq_true rfl⟩ rfl
  by_cases q4 : kd = 4
  · refine mp_top (y := 4) q4 ?_
    refine mp_tableIn (tgt := 74) (off := 73) dX11_madeOf_1 ⟨by decide, by decide⟩ (by decide) (by decide) rfl rfl ?_
    refine mp_new (ci := 4) (n := 7) (fs := mp_z7) (σ' := σ ++ [mp_O 4 mp_z7]) (K' := (1, 7)) dX11_madeOf_74 nsX11_372 rfl rfl (mp_hfs8 (c := 4) (by decide)) ⟨Nat.le_of_ble_eq_true rfl, Nat.le_of_ble_eq_true rfl⟩ rfl rfl ?_
    refine mp_dup dX11_madeOf_77 rfl ?_
    refine mp_iload_n dX11_madeOf_78 rfl ?_
    refine mp_iload_n dX11_madeOf_79 rfl ?_
    refine mp_invI (z := (mX3_init, 3, 0, 0)) (K' := (1, 7)) (σ1 := (σ ++ [mp_O 4 mp_z7]).set σ.length (mp_O (Int.toNat 4) [mp_i kd, mp_i fg, mp_i 0, mp_i 0, mp_i 0, mp_i 0, mp_i 0])) (as := [mp_i kd, mp_i fg]) (st := [Value.ref σ.length]) (st1 := [Value.ref σ.length]) dX11_madeOf_80 siX11_374 (zX3_init (a := σ.length) (kd := kd) (fg := fg) (f0 := 0) (f1 := 0) (f2 := 0) (f3 := 0) (f4 := 0) (f5 := 0) (f6 := 0) (c := 4) mp_atE (by first | with_reducible assumption | omega) (by first | with_reducible assumption | omega)) ⟨Nat.le_of_ble_eq_true rfl, Nat.le_of_ble_eq_true rfl, Nat.le_of_ble_eq_true rfl, Nat.le_of_ble_eq_true rfl, Nat.le_of_ble_eq_true rfl⟩ rfl rfl rfl rfl ?_
    obtain rfl : kd = 4 := by omega
    refine mp_sg (σ' := σ ++ [mp_nw 4 fg]) mp_stE ?_
    exact mp_areturn (st := []) dX11_madeOf_83 rfl (Or.inr ⟨_, rfl⟩) ⟨Nat.le_of_ble_eq_true rfl, Nat.le_of_ble_eq_true rfl⟩ rfl
  by_cases q5 : kd = 5
  · refine mp_top (y := 5) q5 ?_
    refine mp_tableIn (tgt := 84) (off := 83) dX11_madeOf_1 ⟨by decide, by decide⟩ (by decide) (by decide) rfl rfl ?_
    refine mp_new (ci := 5) (n := 7) (fs := mp_z7) (σ' := σ ++ [mp_O 5 mp_z7]) (K' := (1, 7)) dX11_madeOf_84 nsX11_375 rfl rfl (mp_hfs8 (c := 5) (by decide)) ⟨Nat.le_of_ble_eq_true rfl, Nat.le_of_ble_eq_true rfl⟩ rfl rfl ?_
    refine mp_dup dX11_madeOf_87 rfl ?_
    refine mp_iload_n dX11_madeOf_88 rfl ?_
    refine mp_iload_n dX11_madeOf_89 rfl ?_
    refine mp_invI (z := (mX8_init, 3, 0, 0)) (K' := (1, 7)) (σ1 := (σ ++ [mp_O 5 mp_z7]).set σ.length (mp_O (Int.toNat 5) [mp_i kd, mp_i fg, mp_i 0, mp_i 0, mp_i 0, mp_i 0, mp_i 0])) (as := [mp_i kd, mp_i fg]) (st := [Value.ref σ.length]) (st1 := [Value.ref σ.length]) dX11_madeOf_90 siX11_377 (zX8_init (a := σ.length) (kd := kd) (fg := fg) (f0 := 0) (f1 := 0) (f2 := 0) (f3 := 0) (f4 := 0) (f5 := 0) (f6 := 0) (c := 5) mp_atE (by first | with_reducible assumption | omega) (by first | with_reducible assumption | omega)) ⟨Nat.le_of_ble_eq_true rfl, Nat.le_of_ble_eq_true rfl, Nat.le_of_ble_eq_true rfl, Nat.le_of_ble_eq_true rfl, Nat.le_of_ble_eq_true rfl⟩ rfl rfl rfl rfl ?_
    obtain rfl : kd = 5 := by omega
    refine mp_sg (σ' := σ ++ [mp_nw 5 fg]) mp_stE ?_
    exact mp_areturn (st := []) dX11_madeOf_93 rfl (Or.inr ⟨_, rfl⟩) ⟨Nat.le_of_ble_eq_true rfl, Nat.le_of_ble_eq_true rfl⟩ rfl
  by_cases q6 : kd = 6
  · refine mp_top (y := 6) q6 ?_
    refine mp_tableIn (tgt := 94) (off := 93) dX11_madeOf_1 ⟨by decide, by decide⟩ (by decide) (by decide) rfl rfl ?_
    refine mp_new (ci := 6) (n := 7) (fs := mp_z7) (σ' := σ ++ [mp_O 6 mp_z7]) (K' := (1, 7)) dX11_madeOf_94 nsX11_378 rfl rfl (mp_hfs8 (c := 6) (by decide)) ⟨Nat.le_of_ble_eq_true rfl, Nat.le_of_ble_eq_true rfl⟩ rfl rfl ?_
    refine mp_dup dX11_madeOf_97 rfl ?_
    refine mp_iload_n dX11_madeOf_98 rfl ?_
    refine mp_iload_n dX11_madeOf_99 rfl ?_
    refine mp_invI (z := (mX10_init, 2, 0, 0)) (K' := (1, 7)) (σ1 := (σ ++ [mp_O 6 mp_z7]).set σ.length (mp_O (Int.toNat 6) [mp_i kd, mp_i fg, mp_i 0, mp_i 0, mp_i 0, mp_i 0, mp_i 0])) (as := [mp_i kd, mp_i fg]) (st := [Value.ref σ.length]) (st1 := [Value.ref σ.length]) dX11_madeOf_100 siX11_380 (zX10_init (a := σ.length) (kd := kd) (fg := fg) (f0 := 0) (f1 := 0) (f2 := 0) (f3 := 0) (f4 := 0) (f5 := 0) (f6 := 0) (c := 6) mp_atE (by first | with_reducible assumption | omega) (by first | with_reducible assumption | omega)) ⟨Nat.le_of_ble_eq_true rfl, Nat.le_of_ble_eq_true rfl, Nat.le_of_ble_eq_true rfl, Nat.le_of_ble_eq_true rfl, Nat.le_of_ble_eq_true rfl⟩ rfl rfl rfl rfl ?_
    obtain rfl : kd = 6 := by omega
    refine mp_sg (σ' := σ ++ [mp_nw 6 fg]) mp_stE ?_
    exact mp_areturn (st := []) dX11_madeOf_103 rfl (Or.inr ⟨_, rfl⟩) ⟨Nat.le_of_ble_eq_true rfl, Nat.le_of_ble_eq_true rfl⟩ rfl
  by_cases q7 : kd = 7
  · refine mp_top (y := 7) q7 ?_
    refine mp_tableIn (tgt := 104) (off := 103) dX11_madeOf_1 ⟨by decide, by decide⟩ (by decide) (by decide) rfl rfl ?_
    refine mp_new (ci := 7) (n := 7) (fs := mp_z7) (σ' := σ ++ [mp_O 7 mp_z7]) (K' := (1, 7)) dX11_madeOf_104 nsX11_381 rfl rfl (mp_hfs8 (c := 7) (by decide)) ⟨Nat.le_of_ble_eq_true rfl, Nat.le_of_ble_eq_true rfl⟩ rfl rfl ?_
    refine mp_dup dX11_madeOf_107 rfl ?_
    refine mp_iload_n dX11_madeOf_108 rfl ?_
    refine mp_iload_n dX11_madeOf_109 rfl ?_
    refine mp_invI (z := (mX2_init, 3, 0, 0)) (K' := (1, 7)) (σ1 := (σ ++ [mp_O 7 mp_z7]).set σ.length (mp_O (Int.toNat 7) [mp_i kd, mp_i fg, mp_i 0, mp_i 0, mp_i 0, mp_i 0, mp_i 0])) (as := [mp_i kd, mp_i fg]) (st := [Value.ref σ.length]) (st1 := [Value.ref σ.length]) dX11_madeOf_110 siX11_383 (zX2_init (a := σ.length) (kd := kd) (fg := fg) (f0 := 0) (f1 := 0) (f2 := 0) (f3 := 0) (f4 := 0) (f5 := 0) (f6 := 0) (c := 7) mp_atE (by first | with_reducible assumption | omega) (by first | with_reducible assumption | omega)) ⟨Nat.le_of_ble_eq_true rfl, Nat.le_of_ble_eq_true rfl, Nat.le_of_ble_eq_true rfl, Nat.le_of_ble_eq_true rfl, Nat.le_of_ble_eq_true rfl⟩ rfl rfl rfl rfl ?_
    obtain rfl : kd = 7 := by omega
    refine mp_sg (σ' := σ ++ [mp_nw 7 fg]) mp_stE ?_
    exact mp_areturn (st := []) dX11_madeOf_113 rfl (Or.inr ⟨_, rfl⟩) ⟨Nat.le_of_ble_eq_true rfl, Nat.le_of_ble_eq_true rfl⟩ rfl
  refine mp_tableOut (tgt := 114) dX11_madeOf_1 ⟨by omega, by omega⟩ (by omega) rfl ?_
  refine mp_new (ci := 0) (n := 7) (fs := mp_z7) (σ' := σ ++ [mp_O 0 mp_z7]) (K' := (1, 7)) dX11_madeOf_114 nsX11_26 rfl rfl (mp_hfs8 (c := 0) (by decide)) ⟨Nat.le_of_ble_eq_true rfl, Nat.le_of_ble_eq_true rfl⟩ rfl rfl ?_
  refine mp_dup dX11_madeOf_117 rfl ?_
  refine mp_iload_n dX11_madeOf_118 rfl ?_
  refine mp_iload_n dX11_madeOf_119 rfl ?_
  refine mp_invI (z := (mX4_init, 1, 0, 0)) (K' := (1, 7)) (σ1 := (σ ++ [mp_O 0 mp_z7]).set σ.length (mp_O (Int.toNat 0) [mp_i kd, mp_i fg, mp_i 0, mp_i 0, mp_i 0, mp_i 0, mp_i 0])) (as := [mp_i kd, mp_i fg]) (st := [Value.ref σ.length]) (st1 := [Value.ref σ.length]) dX11_madeOf_120 siX11_384 (zX4_init (a := σ.length) (kd := kd) (fg := fg) (f0 := 0) (f1 := 0) (f2 := 0) (f3 := 0) (f4 := 0) (f5 := 0) (f6 := 0) (c := 0) mp_atE (by first | with_reducible assumption | omega) (by first | with_reducible assumption | omega)) ⟨Nat.le_of_ble_eq_true rfl, Nat.le_of_ble_eq_true rfl, Nat.le_of_ble_eq_true rfl, Nat.le_of_ble_eq_true rfl, Nat.le_of_ble_eq_true rfl⟩ rfl rfl rfl rfl ?_
  obtain rfl : kd = 0 := by omega
  refine mp_sg (σ' := σ ++ [mp_nw 0 fg]) mp_stE ?_
  exact mp_areturn (st := []) dX11_madeOf_123 rfl (Or.inr ⟨_, rfl⟩) ⟨Nat.le_of_ble_eq_true rfl, Nat.le_of_ble_eq_true rfl⟩ rfl
