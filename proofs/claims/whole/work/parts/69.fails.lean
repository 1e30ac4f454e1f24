/-! ===== fail, element, toss ===== -/
theorem zX4_failX {kd f : Int} {a : Nat} {σ : mp_H} (ha : σ[a]? = some (mp_nw kd f)) (hk : 0 ≤ kd ∧ kd ≤ 7) (hf : 0 ≤ f ∧ f ≤ 9) (h : ¬ f = 0) : mp_CallX (mX4_fail, 6, 1, 6) (mp_ws mX4_fail) [Value.ref a] σ (fun _ => False) (fun E τ => E = mp_eA ∧ τ = σ ++ [mp_X]) := by
  refine mp_CallX.of (L := [some (Value.ref a)]) pnX4 (Nat.le_of_ble_eq_true rfl) rfl ?_
  refine mq_aload_n dX4_fail_0 rfl ?_
  refine mq_getfield dX4_fail_1 (fsX4_15 (by omega)) ha rfl ?_
  refine mq_if_eq (tgt := 17) dX4_fail_4 rfl ⟨by omega, by omega⟩ (fun h9 => absurd h9 h) (fun _ => ?_)
  exact mq_throwS (pc := 7) (text := "the failure of a meteor") mp_twX4 (by simp [mp_txt]; decide) dX4_fail_7 dX4_fail_10 dX4_fail_11 dX4_fail_13 dX4_fail_16 (by decide) ⟨by decide, by decide⟩ ⟨rfl, rfl⟩
theorem zX4_fail0 {kd f : Int} {a : Nat} {σ : mp_H} (ha : σ[a]? = some (mp_nw kd f)) (hk : 0 ≤ kd ∧ kd ≤ 7) (hf : 0 ≤ f ∧ f ≤ 9) (h : f = 0) : mp_Call (mX4_fail, 6, 1, 6) [Value.ref a] σ (none, σ) := by
  refine mp_Call.of (L := [some (Value.ref a)]) pnX4 (Nat.le_of_ble_eq_true rfl) rfl ?_
  refine mp_aload_n dX4_fail_0 rfl ?_
  refine mp_getfield dX4_fail_1 (fsX4_15 (by omega)) ha rfl ?_
  refine mp_if_eq (tgt := 17) dX4_fail_4 rfl ⟨by omega, by omega⟩ (fun _ => ?_) (fun h9 => absurd h h9)
  exact mp_vreturn (st := []) dX4_fail_17 rfl ⟨by decide, by decide⟩ rfl
theorem zX9_failX {kd f : Int} {a : Nat} {σ : mp_H} (ha : σ[a]? = some (mp_nw kd f)) (hk : 0 ≤ kd ∧ kd ≤ 7) (hf : 0 ≤ f ∧ f ≤ 9) (h : ¬ f = 0) : mp_CallX (mX9_fail, 6, 1, 6) (mp_ws mX9_fail) [Value.ref a] σ (fun _ => False) (fun E τ => E = mp_eS ∧ τ = σ ++ [mp_X]) := by
  refine mp_CallX.of (L := [some (Value.ref a)]) pnX9 (Nat.le_of_ble_eq_true rfl) rfl ?_
  refine mq_aload_n dX9_fail_0 rfl ?_
  refine mq_getfield dX9_fail_1 (fsX9_20 (by omega)) ha rfl ?_
  refine mq_if_eq (tgt := 17) dX9_fail_4 rfl ⟨by omega, by omega⟩ (fun h9 => absurd h9 h) (fun _ => ?_)
  exact mq_throwS (pc := 7) (text := "the failure of a slow one") mp_twX9 (by simp [mp_txt]; decide) dX9_fail_7 dX9_fail_10 dX9_fail_11 dX9_fail_13 dX9_fail_16 (by decide) ⟨by decide, by decide⟩ ⟨rfl, rfl⟩
theorem zX9_fail0 {kd f : Int} {a : Nat} {σ : mp_H} (ha : σ[a]? = some (mp_nw kd f)) (hk : 0 ≤ kd ∧ kd ≤ 7) (hf : 0 ≤ f ∧ f ≤ 9) (h : f = 0) : mp_Call (mX9_fail, 6, 1, 6) [Value.ref a] σ (none, σ) := by
  refine mp_Call.of (L := [some (Value.ref a)]) pnX9 (Nat.le_of_ble_eq_true rfl) rfl ?_
  refine mp_aload_n dX9_fail_0 rfl ?_
  refine mp_getfield dX9_fail_1 (fsX9_20 (by omega)) ha rfl ?_
  refine mp_if_eq (tgt := 17) dX9_fail_4 rfl ⟨by omega, by omega⟩ (fun _ => ?_) (fun h9 => absurd h h9)
  exact mp_vreturn (st := []) dX9_fail_17 rfl ⟨by decide, by decide⟩ rfl
theorem zX3_failX {kd f : Int} {a : Nat} {σ : mp_H} (ha : σ[a]? = some (mp_nw kd f)) (hk : 0 ≤ kd ∧ kd ≤ 7) (hf : 0 ≤ f ∧ f ≤ 9) (h : ¬ f = 0) : mp_CallX (mX3_fail, 6, 1, 6) (mp_ws mX3_fail) [Value.ref a] σ (fun _ => False) (fun E τ => E = mp_eU ∧ τ = σ ++ [mp_X]) := by
  refine mp_CallX.of (L := [some (Value.ref a)]) pnX3 (Nat.le_of_ble_eq_true rfl) rfl ?_
  refine mq_aload_n dX3_fail_0 rfl ?_
  refine mq_getfield dX3_fail_1 (fsX3_23 (by omega)) ha rfl ?_
  refine mq_if_eq (tgt := 17) dX3_fail_4 rfl ⟨by omega, by omega⟩ (fun h9 => absurd h9 h) (fun _ => ?_)
  exact mq_throwS (pc := 7) (text := "the failure of a long one") mp_twX3 (by simp [mp_txt]; decide) dX3_fail_7 dX3_fail_10 dX3_fail_11 dX3_fail_13 dX3_fail_16 (by decide) ⟨by decide, by decide⟩ ⟨rfl, rfl⟩
theorem zX3_fail0 {kd f : Int} {a : Nat} {σ : mp_H} (ha : σ[a]? = some (mp_nw kd f)) (hk : 0 ≤ kd ∧ kd ≤ 7) (hf : 0 ≤ f ∧ f ≤ 9) (h : f = 0) : mp_Call (mX3_fail, 6, 1, 6) [Value.ref a] σ (none, σ) := by
  refine mp_Call.of (L := [some (Value.ref a)]) pnX3 (Nat.le_of_ble_eq_true rfl) rfl ?_
  refine mp_aload_n dX3_fail_0 rfl ?_
  refine mp_getfield dX3_fail_1 (fsX3_23 (by omega)) ha rfl ?_
  refine mp_if_eq (tgt := 17) dX3_fail_4 rfl ⟨by omega, by omega⟩ (fun _ => ?_) (fun h9 => absurd h h9)
  exact mp_vreturn (st := []) dX3_fail_17 rfl ⟨by decide, by decide⟩ rfl
theorem zX1_failN {a : Nat} {σ : mp_H} : mp_Call (mX1_fail, 6, 1, 6) [Value.ref a] σ (none, σ) := by
  refine mp_Call.of (L := [some (Value.ref a)]) pnX1 (Nat.le_of_ble_eq_true rfl) rfl ?_
  exact mp_vreturn (st := []) dX1_fail_0 rfl ⟨by decide, by decide⟩ rfl

theorem zX11_element {s si sp : Int → Int} {f fi fp : Nat → Option Nat} {im : Int} {hd : Int → Int} {kn : Nat → Option Nat} {wd ak ke cv vo so sz el : Int → Int} {A B : mp_H} {kk kf : Int → Int} {d : Int} {i : Int} (hA : A.length = 1) (hsh : ∀ d, 0 ≤ d → d ≤ 7 → mp_shf hd kk kf so sz d) (hel : ∀ x, mp_w (el x)) (h_d : mp_w d) (h_i : mp_w i) : mp_CallX (mX11_element, 6, 1, 6) (mp_ws mX11_element) [Value.ref 1, mp_i d, mp_i i] (A ++ (mp_cs s si sp f fi fp im hd kn wd ak ke cv vo so sz el ++ B)) (fun A9 => sp_thrown hd sz d i = 0 ∧ A9 = (some (mp_l (el (100 * d + i))), A ++ (mp_cs s si sp f fi fp im hd kn wd ak ke cv vo so sz el ++ B))) (fun E τ => ((E = mp_eA ∧ sp_thrown hd sz d i = 1) ∨ (E = mp_eS ∧ sp_thrown hd sz d i = 2)) ∧ τ = (A ++ (mp_cs s si sp f fi fp im hd kn wd ak ke cv vo so sz el ++ B)) ++ [mp_X]) := by
  refine mp_CallX.of (L := [some (Value.ref 1), some (mp_i d), some (mp_i i), none]) pnX11 (Nat.le_of_ble_eq_true rfl) rfl ?_
  refine mq_iload_n dX11_element_0 rfl ?_
  refine mq_bipush dX11_element_1 rfl ?_
  refine mq_invS (z := (mX11_isBelow, 0, 0, 0)) (K' := (0, 0)) (σ1 := A ++ (mp_cs s si sp f fi fp im hd kn wd ak ke cv vo so sz el ++ B)) (as := [mp_i d, mp_i 8]) (st := []) (st1 := [mp_i (if 0 ≤ d ∧ d < 8 then 1 else 0)]) dX11_element_3 ssX11_54 (zX11_isBelow (v := d) (n := 8) (by first | with_reducible assumption | omega) (by first | with_reducible assumption | omega)) ⟨Nat.le_of_ble_eq_true rfl, Nat.le_of_ble_eq_true rfl, Nat.le_of_ble_eq_true rfl, Nat.le_of_ble_eq_true rfl, Nat.le_of_ble_eq_true rfl⟩ rfl rfl rfl rfl ?_
  refine mq_ifb_ne (tgt := 20) dX11_element_6 rfl (fun h1 => ?_) (fun h1 => ?_)
  · refine mq_aload_n dX11_element_20 rfl ?_
    refine mq_iload_n dX11_element_21 rfl ?_
    have hsh2 := hsh d (by omega) (by omega)
    by_cases hr9 : hd d = 2
    · refine mq_invV (z := (mX11_rowOn, 0, 0, 0)) (K' := (0, 0)) (σ1 := A ++ (mp_cs s si sp f fi fp im hd kn wd ak ke cv vo so sz el ++ B)) (as := [mp_i d]) (st := []) (st1 := [Value.ref (28 + 2 * Int.toNat d)]) dX11_element_22 svX11_58 (mp_lkP hA 0 rfl) rfl rfl (zX11_rowOn (d := d) (s := s) (si := si) (sp := sp) (f := f) (fi := fi) (fp := fp) (im := im) (hd := hd) (kn := kn) (wd := wd) (ak := ak) (ke := ke) (cv := cv) (vo := vo) (so := so) (sz := sz) (el := el) (B := B) (kk := kk) (kf := kf) (by first | with_reducible assumption | omega) (by first | with_reducible assumption | omega) (by first | with_reducible assumption | omega) (by first | with_reducible assumption | omega)) ⟨Nat.le_of_ble_eq_true rfl, Nat.le_of_ble_eq_true rfl, Nat.le_of_ble_eq_true rfl, Nat.le_of_ble_eq_true rfl, Nat.le_of_ble_eq_true rfl⟩ rfl rfl rfl rfl ?_
      refine mq_astore_n (L' := [some (Value.ref 1), some (mp_i d), some (mp_i i), some (Value.ref (28 + 2 * Int.toNat d))]) dX11_element_25 rfl (by decide) rfl ?_
      refine mq_aload_n dX11_element_26 rfl ?_
      refine mq_ifnull_r dX11_element_27 ?_
      refine mq_aload_n dX11_element_30 rfl ?_
      refine mq_iload_n dX11_element_31 rfl ?_
      refine mq_invV (z := (mX5_has, 0, 0, 0)) (K' := (0, 0)) (σ1 := A ++ (mp_cs s si sp f fi fp im hd kn wd ak ke cv vo so sz el ++ B)) (as := [mp_i i]) (st := []) (st1 := [mp_i (if 0 ≤ i ∧ i < (sz d) then 1 else 0)]) dX11_element_32 svX11_324 (mp_csR0 hA (d := d) ⟨by omega, by omega⟩) rfl rfl (zX5_has (r := (28 + 2 * Int.toNat d)) (i := i) (q := (28 + 2 * Int.toNat d + 1)) (o := (so d)) (z := (sz d)) (mp_csR0 hA (d := d) ⟨by omega, by omega⟩) (by first | with_reducible assumption | omega) (by first | with_reducible assumption | omega)) ⟨Nat.le_of_ble_eq_true rfl, Nat.le_of_ble_eq_true rfl, Nat.le_of_ble_eq_true rfl, Nat.le_of_ble_eq_true rfl, Nat.le_of_ble_eq_true rfl⟩ rfl rfl rfl rfl ?_
      refine mq_ifb_ne (tgt := 49) dX11_element_35 rfl (fun h3 => ?_) (fun h3 => ?_)
      · refine mq_aload_n dX11_element_49 rfl ?_
        refine mq_iload_n dX11_element_50 rfl ?_
        refine mq_invV (z := (mX5_at, 1, 0, 0)) (K' := (0, 0)) (σ1 := A ++ (mp_cs s si sp f fi fp im hd kn wd ak ke cv vo so sz el ++ B)) (as := [mp_i i]) (st := []) (st1 := [mp_i (if 0 ≤ i ∧ i < (sz d) then (sp_elm el d) i else 0)]) dX11_element_51 svX11_87 (mp_csR0 hA (d := d) ⟨by omega, by omega⟩) rfl rfl (zX5_at (r := (28 + 2 * Int.toNat d)) (i := i) (q := (28 + 2 * Int.toNat d + 1)) (o := (so d)) (z := (sz d)) (e := (sp_elm el d)) (mp_csR0 hA (d := d) ⟨by omega, by omega⟩) (mp_csR1 hA (d := d) ⟨by omega, by omega⟩) (by first | with_reducible assumption | omega) (by first | with_reducible assumption | omega)) ⟨Nat.le_of_ble_eq_true rfl, Nat.le_of_ble_eq_true rfl, Nat.le_of_ble_eq_true rfl, Nat.le_of_ble_eq_true rfl, Nat.le_of_ble_eq_true rfl⟩ rfl rfl rfl rfl ?_
        refine mq_top (y := el (100 * d + i)) ((if_pos (by omega)).trans (sp_elm_in (by omega))) ?_
        have hel4 := hel (100 * d + i)
        refine mq_i2l dX11_element_54 ⟨by omega, by omega⟩ ?_
        exact mq_ret ⟨by unfold sp_thrown; rw [if_neg (by omega), if_neg (by omega)], rfl⟩ (mp_lreturn (st := []) dX11_element_55 rfl ⟨by decide, by decide⟩ rfl)
      · exact mq_throwSW (pc := 38) (text := "no row, or no such place in it") mp_twS (by simp [mp_txt]; decide) dX11_element_38 dX11_element_41 dX11_element_42 dX11_element_45 dX11_element_48 (by decide) ⟨by decide, by decide⟩ ⟨Or.inr ⟨rfl, by unfold sp_thrown; rw [if_neg (by omega), if_pos (by omega)]⟩, rfl⟩
    · refine mq_invV (z := (mX11_rowOn, 0, 0, 0)) (K' := (0, 0)) (σ1 := A ++ (mp_cs s si sp f fi fp im hd kn wd ak ke cv vo so sz el ++ B)) (as := [mp_i d]) (st := []) (st1 := [Value.null]) dX11_element_22 svX11_58 (mp_lkP hA 0 rfl) rfl rfl (zX11_rowOnN (d := d) (s := s) (si := si) (sp := sp) (f := f) (fi := fi) (fp := fp) (im := im) (hd := hd) (kn := kn) (wd := wd) (ak := ak) (ke := ke) (cv := cv) (vo := vo) (so := so) (sz := sz) (el := el) (B := B) (kk := kk) (kf := kf) (by first | with_reducible assumption | omega) (by first | with_reducible assumption | omega) (by first | with_reducible assumption | omega) (by first | with_reducible assumption | omega)) ⟨Nat.le_of_ble_eq_true rfl, Nat.le_of_ble_eq_true rfl, Nat.le_of_ble_eq_true rfl, Nat.le_of_ble_eq_true rfl, Nat.le_of_ble_eq_true rfl⟩ rfl rfl rfl rfl ?_
      refine mq_astore_nN (L' := [some (Value.ref 1), some (mp_i d), some (mp_i i), some (Value.null)]) dX11_element_25 rfl (by decide) rfl ?_
      refine mq_aload_nN dX11_element_26 rfl ?_
      refine mq_ifnull_n (tgt := 38) dX11_element_27 rfl ?_
      exact mq_throwSW (pc := 38) (text := "no row, or no such place in it") mp_twS (by simp [mp_txt]; decide) dX11_element_38 dX11_element_41 dX11_element_42 dX11_element_45 dX11_element_48 (by decide) ⟨by decide, by decide⟩ ⟨Or.inr ⟨rfl, by unfold sp_thrown; rw [if_neg (by omega), if_pos (by omega)]⟩, rfl⟩
  · exact mq_throwSW (pc := 9) (text := "no such shelf") mp_twA (by simp [mp_txt]; decide) dX11_element_9 dX11_element_12 dX11_element_13 dX11_element_16 dX11_element_19 (by decide) ⟨by decide, by decide⟩ ⟨Or.inl ⟨rfl, if_pos (by omega)⟩, rfl⟩
theorem lX11_toss_35 {kd f : Int} {a : Nat} {σ : mp_H} {d : Int} (ha : σ[a]? = some (mp_nw kd f)) (hk : 0 ≤ kd ∧ kd ≤ 7) (hf : 0 ≤ f ∧ f ≤ 9) {K : Nat × Nat} (hK : K.1 ≤ 1 ∧ K.2 ≤ 6) : mp_At (mX11_toss, 7, 1, 6) K 35 [some (Value.ref 1), some (mp_i d), some (Value.ref a), none] [] σ (some (mp_i (200 + sp_cost kd f)), σ) := by
  refine mp_sipush (n := 200) dX11_toss_35 rfl ?_
  refine mp_aload_n dX11_toss_38 rfl ?_
  refine mp_inv8 (kd := kd) (σ1 := σ) (as := []) (st := [mp_i 200]) (st1 := [mp_i (sp_cost kd f), mp_i 200]) dX11_toss_39 hk s8X11_354 ha (fa_costs (a := a) (kd := kd) (f := f) (co := 0) (sl := 0) (ni := 0) (la := 0) (br := 0) ha hk hf) (by decide) ⟨hK.1, hK.2⟩ (by decide) rfl rfl rfl ?_
  refine mp_iadd (z := 200 + sp_cost kd f) dX11_toss_42 (by first | rfl | omega) ?_
  exact mp_ireturn (st := []) dX11_toss_43 rfl ⟨hK.1, hK.2⟩ rfl
theorem lX11_toss_45 {kd f : Int} {a : Nat} {σ : mp_H} {d : Int} (ha : σ[a]? = some (mp_nw kd f)) (hk : 0 ≤ kd ∧ kd ≤ 7) (hf : 0 ≤ f ∧ f ≤ 9) {K : Nat × Nat} (hK : K.1 ≤ 1 ∧ K.2 ≤ 6) : mp_At (mX11_toss, 7, 1, 6) K 45 [some (Value.ref 1), some (mp_i d), some (Value.ref a), none] [] σ (some (mp_i (100 + f)), σ) := by
  refine mp_bipush (n := 100) dX11_toss_45 rfl ?_
  refine mp_aload_n dX11_toss_47 rfl ?_
  refine mp_getfield dX11_toss_48 (fsX11_99 (by omega)) ha rfl ?_
  refine mp_iadd (z := 100 + f) dX11_toss_51 (by first | rfl | omega) ?_
  exact mp_ireturn (st := []) dX11_toss_52 rfl ⟨hK.1, hK.2⟩ rfl
theorem lX11_toss_54 {kd f : Int} {a : Nat} {σ : mp_H} {d : Int} (ha : σ[a]? = some (mp_nw kd f)) (hk : 0 ≤ kd ∧ kd ≤ 7) (hf : 0 ≤ f ∧ f ≤ 9) {K : Nat × Nat} (hK : K.1 ≤ 1 ∧ K.2 ≤ 6) : mp_At (mX11_toss, 7, 1, 6) K 54 [some (Value.ref 1), some (mp_i d), some (Value.ref a), none] [] σ (some (mp_i f), σ) := by
  refine mp_aload_n dX11_toss_54 rfl ?_
  refine mp_getfield dX11_toss_55 (fsX11_99 (by omega)) ha rfl ?_
  exact mp_ireturn (st := []) dX11_toss_58 rfl ⟨hK.1, hK.2⟩ rfl
theorem lX11_toss_31 {σ : mp_H} {a : Nat} {d : Int} {K : Nat × Nat} (hK : K.1 ≤ 1 ∧ K.2 ≤ 6) : mp_At (mX11_toss, 7, 1, 6) K 31 [some (Value.ref 1), some (mp_i d), some (Value.ref a), none] [] σ (some (mp_i (-15)), σ) := by
  refine mp_goto (tgt := 59) dX11_toss_31 rfl ?_
  refine mp_bipush (n := -15) dX11_toss_59 rfl ?_
  exact mp_ireturn (st := []) dX11_toss_61 rfl ⟨hK.1, hK.2⟩ rfl
abbrev mp_tbT : List (Nat × Nat × Nat × Nat) := [(27, 31, 34, 360), (27, 31, 44, 337), (27, 31, 53, 330)]
/-- what toss answers: a thrown one leaves one cell more -/
def mp_tossR (kd f : Int) (σ : mp_H) (A9 : mp_An) : Prop := A9 = (some (mp_i (if kd = 2 ∨ kd = 5 ∨ f = 0 then -15 else if kd = 4 then 200 + sp_cost kd f else if kd = 1 then 100 + f else f)), σ ++ (if kd = 2 ∨ kd = 5 ∨ f = 0 then [] else [mp_X]))

theorem mp_lkX {σ : mp_H} {a : Nat} {c : mp_C} (h : σ[a]? = some c) : (σ ++ [mp_X])[a]? = some c := by rw [List.getElem?_append_left (List.getElem?_eq_some_iff.mp h).1]; exact h
theorem lX11_toss_28 {kd f : Int} {a : Nat} {σ : mp_H} {d : Int} (ha : σ[a]? = some (mp_nw kd f)) (hk : 0 ≤ kd ∧ kd ≤ 7) (hf : 0 ≤ f ∧ f ≤ 9) : mp_AtX (mX11_toss, 7, 1, 6) (0, 0) 28 [some (Value.ref 1), some (mp_i d), some (Value.ref a), none] [Value.ref a] σ (mp_QB (mX11_toss, 7, 1, 6) (tableOf mp_tbT) (mp_tossR kd f σ) (fun _ _ => False)) := by
  obtain rfl | rfl | rfl | rfl | rfl | rfl | rfl | rfl : kd = 0 ∨ kd = 1 ∨ kd = 2 ∨ kd = 3 ∨ kd = 4 ∨ kd = 5 ∨ kd = 6 ∨ kd = 7 := by omega
  · by_cases h0 : f = 0
    · refine mq_invO (r := mp_clr 0) (ci := 0) (z := (mX4_fail, 6, 1, 6)) (K' := (1, 6)) (σ1 := σ) (as := []) (st := []) (st1 := []) dX11_toss_28 suX11_357_0 ha rfl (zX4_fail0 ha (by decide) hf h0) ⟨by decide, by decide, by decide, by decide, by decide⟩ rfl rfl rfl rfl ?_
      exact mq_ret (by unfold mp_tossR; rw [if_pos (by omega), if_pos (by omega), List.append_nil]) (lX11_toss_31 ⟨by decide, by decide⟩)
    · refine mq_invUX (r := mp_clr 0) (ci := 0) (z := (mX4_fail, 6, 1, 6)) (K' := (1, 6)) (as := []) (st := []) dX11_toss_28 suX11_357_0 ha rfl (zX4_failX ha (by decide) hf h0) ⟨by decide, by decide, by decide, by decide, by decide⟩ rfl rfl (fun A1 h => h.elim) (fun E τ h => ?_)
      obtain ⟨rfl, rfl⟩ := h
      refine mq_catch (L' := [some (Value.ref 1), some (mp_i d), some (Value.ref a), none]) [⟨27, 31, 34, 360⟩, ⟨27, 31, 44, 337⟩] ⟨27, 31, 53, 330⟩ [] rfl (fun z hz => by rcases List.mem_cons.mp hz with rfl | hz; exact Or.inr ⟨by decide, mp_eU, mp_gt_of 886 (by decide +kernel) rfl, fun s h => h.2.2.2.1⟩; rw [List.mem_singleton] at hz; subst hz; exact Or.inr ⟨by decide, mp_eS, mp_gt_of 887 (by decide +kernel) rfl, fun s h => h.2.2.2.2.2.1⟩) (by decide) (by decide) (mp_gt_of 888 (by decide +kernel) rfl) (fun s h => h.1) dX11_toss_53 rfl (by decide) rfl ?_
      exact mq_ret (by unfold mp_tossR; simp [h0]) (lX11_toss_54 (mp_lkX ha) (by decide) hf ⟨by decide, by decide⟩)
  · by_cases h0 : f = 0
    · refine mq_invO (r := mp_clr 1) (ci := 1) (z := (mX9_fail, 6, 1, 6)) (K' := (1, 6)) (σ1 := σ) (as := []) (st := []) (st1 := []) dX11_toss_28 suX11_357_1 ha rfl (zX9_fail0 ha (by decide) hf h0) ⟨by decide, by decide, by decide, by decide, by decide⟩ rfl rfl rfl rfl ?_
      exact mq_ret (by unfold mp_tossR; rw [if_pos (by omega), if_pos (by omega), List.append_nil]) (lX11_toss_31 ⟨by decide, by decide⟩)
    · refine mq_invUX (r := mp_clr 1) (ci := 1) (z := (mX9_fail, 6, 1, 6)) (K' := (1, 6)) (as := []) (st := []) dX11_toss_28 suX11_357_1 ha rfl (zX9_failX ha (by decide) hf h0) ⟨by decide, by decide, by decide, by decide, by decide⟩ rfl rfl (fun A1 h => h.elim) (fun E τ h => ?_)
      obtain ⟨rfl, rfl⟩ := h
      refine mq_catch (L' := [some (Value.ref 1), some (mp_i d), some (Value.ref a), none]) [⟨27, 31, 34, 360⟩] ⟨27, 31, 44, 337⟩ [⟨27, 31, 53, 330⟩] rfl (fun z hz => by rw [List.mem_singleton] at hz; subst hz; exact Or.inr ⟨by decide, mp_eU, mp_gt_of 886 (by decide +kernel) rfl, fun s h => h.2.2.2.2.1⟩) (by decide) (by decide) (mp_gt_of 887 (by decide +kernel) rfl) (fun s h => h.2.1) dX11_toss_44 rfl (by decide) rfl ?_
      exact mq_ret (by unfold mp_tossR; simp [h0]) (lX11_toss_45 (mp_lkX ha) (by decide) hf ⟨by decide, by decide⟩)
  · refine mq_invO (r := mp_clr 2) (ci := 2) (z := (mX1_fail, 6, 1, 6)) (K' := (1, 6)) (σ1 := σ) (as := []) (st := []) (st1 := []) dX11_toss_28 suX11_357_2 ha rfl zX1_failN ⟨by decide, by decide, by decide, by decide, by decide⟩ rfl rfl rfl rfl ?_
    exact mq_ret (by unfold mp_tossR; rw [if_pos (by omega), if_pos (by omega), List.append_nil]) (lX11_toss_31 ⟨by decide, by decide⟩)
  · by_cases h0 : f = 0
    · refine mq_invO (r := mp_clr 3) (ci := 3) (z := (mX4_fail, 6, 1, 6)) (K' := (1, 6)) (σ1 := σ) (as := []) (st := []) (st1 := []) dX11_toss_28 suX11_357_3 ha rfl (zX4_fail0 ha (by decide) hf h0) ⟨by decide, by decide, by decide, by decide, by decide⟩ rfl rfl rfl rfl ?_
      exact mq_ret (by unfold mp_tossR; rw [if_pos (by omega), if_pos (by omega), List.append_nil]) (lX11_toss_31 ⟨by decide, by decide⟩)
    · refine mq_invUX (r := mp_clr 3) (ci := 3) (z := (mX4_fail, 6, 1, 6)) (K' := (1, 6)) (as := []) (st := []) dX11_toss_28 suX11_357_3 ha rfl (zX4_failX ha (by decide) hf h0) ⟨by decide, by decide, by decide, by decide, by decide⟩ rfl rfl (fun A1 h => h.elim) (fun E τ h => ?_)
      obtain ⟨rfl, rfl⟩ := h
      refine mq_catch (L' := [some (Value.ref 1), some (mp_i d), some (Value.ref a), none]) [⟨27, 31, 34, 360⟩, ⟨27, 31, 44, 337⟩] ⟨27, 31, 53, 330⟩ [] rfl (fun z hz => by rcases List.mem_cons.mp hz with rfl | hz; exact Or.inr ⟨by decide, mp_eU, mp_gt_of 886 (by decide +kernel) rfl, fun s h => h.2.2.2.1⟩; rw [List.mem_singleton] at hz; subst hz; exact Or.inr ⟨by decide, mp_eS, mp_gt_of 887 (by decide +kernel) rfl, fun s h => h.2.2.2.2.2.1⟩) (by decide) (by decide) (mp_gt_of 888 (by decide +kernel) rfl) (fun s h => h.1) dX11_toss_53 rfl (by decide) rfl ?_
      exact mq_ret (by unfold mp_tossR; simp [h0]) (lX11_toss_54 (mp_lkX ha) (by decide) hf ⟨by decide, by decide⟩)
  · by_cases h0 : f = 0
    · refine mq_invO (r := mp_clr 4) (ci := 4) (z := (mX3_fail, 6, 1, 6)) (K' := (1, 6)) (σ1 := σ) (as := []) (st := []) (st1 := []) dX11_toss_28 suX11_357_4 ha rfl (zX3_fail0 ha (by decide) hf h0) ⟨by decide, by decide, by decide, by decide, by decide⟩ rfl rfl rfl rfl ?_
      exact mq_ret (by unfold mp_tossR; rw [if_pos (by omega), if_pos (by omega), List.append_nil]) (lX11_toss_31 ⟨by decide, by decide⟩)
    · refine mq_invUX (r := mp_clr 4) (ci := 4) (z := (mX3_fail, 6, 1, 6)) (K' := (1, 6)) (as := []) (st := []) dX11_toss_28 suX11_357_4 ha rfl (zX3_failX ha (by decide) hf h0) ⟨by decide, by decide, by decide, by decide, by decide⟩ rfl rfl (fun A1 h => h.elim) (fun E τ h => ?_)
      obtain ⟨rfl, rfl⟩ := h
      refine mq_catch (L' := [some (Value.ref 1), some (mp_i d), some (Value.ref a), none]) [] ⟨27, 31, 34, 360⟩ [⟨27, 31, 44, 337⟩, ⟨27, 31, 53, 330⟩] rfl (fun z hz => by cases hz) (by decide) (by decide) (mp_gt_of 886 (by decide +kernel) rfl) (fun s h => h.2.2.1) dX11_toss_34 rfl (by decide) rfl ?_
      exact mq_ret (by unfold mp_tossR; simp [h0]) (lX11_toss_35 (mp_lkX ha) (by decide) hf ⟨by decide, by decide⟩)
  · refine mq_invO (r := mp_clr 5) (ci := 5) (z := (mX1_fail, 6, 1, 6)) (K' := (1, 6)) (σ1 := σ) (as := []) (st := []) (st1 := []) dX11_toss_28 suX11_357_5 ha rfl zX1_failN ⟨by decide, by decide, by decide, by decide, by decide⟩ rfl rfl rfl rfl ?_
    exact mq_ret (by unfold mp_tossR; rw [if_pos (by omega), if_pos (by omega), List.append_nil]) (lX11_toss_31 ⟨by decide, by decide⟩)
  · by_cases h0 : f = 0
    · refine mq_invO (r := mp_clr 6) (ci := 6) (z := (mX4_fail, 6, 1, 6)) (K' := (1, 6)) (σ1 := σ) (as := []) (st := []) (st1 := []) dX11_toss_28 suX11_357_6 ha rfl (zX4_fail0 ha (by decide) hf h0) ⟨by decide, by decide, by decide, by decide, by decide⟩ rfl rfl rfl rfl ?_
      exact mq_ret (by unfold mp_tossR; rw [if_pos (by omega), if_pos (by omega), List.append_nil]) (lX11_toss_31 ⟨by decide, by decide⟩)
    · refine mq_invUX (r := mp_clr 6) (ci := 6) (z := (mX4_fail, 6, 1, 6)) (K' := (1, 6)) (as := []) (st := []) dX11_toss_28 suX11_357_6 ha rfl (zX4_failX ha (by decide) hf h0) ⟨by decide, by decide, by decide, by decide, by decide⟩ rfl rfl (fun A1 h => h.elim) (fun E τ h => ?_)
      obtain ⟨rfl, rfl⟩ := h
      refine mq_catch (L' := [some (Value.ref 1), some (mp_i d), some (Value.ref a), none]) [⟨27, 31, 34, 360⟩, ⟨27, 31, 44, 337⟩] ⟨27, 31, 53, 330⟩ [] rfl (fun z hz => by rcases List.mem_cons.mp hz with rfl | hz; exact Or.inr ⟨by decide, mp_eU, mp_gt_of 886 (by decide +kernel) rfl, fun s h => h.2.2.2.1⟩; rw [List.mem_singleton] at hz; subst hz; exact Or.inr ⟨by decide, mp_eS, mp_gt_of 887 (by decide +kernel) rfl, fun s h => h.2.2.2.2.2.1⟩) (by decide) (by decide) (mp_gt_of 888 (by decide +kernel) rfl) (fun s h => h.1) dX11_toss_53 rfl (by decide) rfl ?_
      exact mq_ret (by unfold mp_tossR; simp [h0]) (lX11_toss_54 (mp_lkX ha) (by decide) hf ⟨by decide, by decide⟩)
  · by_cases h0 : f = 0
    · refine mq_invO (r := mp_clr 7) (ci := 7) (z := (mX4_fail, 6, 1, 6)) (K' := (1, 6)) (σ1 := σ) (as := []) (st := []) (st1 := []) dX11_toss_28 suX11_357_7 ha rfl (zX4_fail0 ha (by decide) hf h0) ⟨by decide, by decide, by decide, by decide, by decide⟩ rfl rfl rfl rfl ?_
      exact mq_ret (by unfold mp_tossR; rw [if_pos (by omega), if_pos (by omega), List.append_nil]) (lX11_toss_31 ⟨by decide, by decide⟩)
    · refine mq_invUX (r := mp_clr 7) (ci := 7) (z := (mX4_fail, 6, 1, 6)) (K' := (1, 6)) (as := []) (st := []) dX11_toss_28 suX11_357_7 ha rfl (zX4_failX ha (by decide) hf h0) ⟨by decide, by decide, by decide, by decide, by decide⟩ rfl rfl (fun A1 h => h.elim) (fun E τ h => ?_)
      obtain ⟨rfl, rfl⟩ := h
      refine mq_catch (L' := [some (Value.ref 1), some (mp_i d), some (Value.ref a), none]) [⟨27, 31, 34, 360⟩, ⟨27, 31, 44, 337⟩] ⟨27, 31, 53, 330⟩ [] rfl (fun z hz => by rcases List.mem_cons.mp hz with rfl | hz; exact Or.inr ⟨by decide, mp_eU, mp_gt_of 886 (by decide +kernel) rfl, fun s h => h.2.2.2.1⟩; rw [List.mem_singleton] at hz; subst hz; exact Or.inr ⟨by decide, mp_eS, mp_gt_of 887 (by decide +kernel) rfl, fun s h => h.2.2.2.2.2.1⟩) (by decide) (by decide) (mp_gt_of 888 (by decide +kernel) rfl) (fun s h => h.1) dX11_toss_53 rfl (by decide) rfl ?_
      exact mq_ret (by unfold mp_tossR; simp [h0]) (lX11_toss_54 (mp_lkX ha) (by decide) hf ⟨by decide, by decide⟩)
