theorem zX12_adds {s m img was num pro ask kp kk kf so sz el : Int → Int} {im pl ra re rm rf sd th : Int} {A B : mp_H}  {a : Int} {b : Int} {c : Int} {e : Int} {f : Int} {l : Int} (hA : A.length = 44) (h_z : 0 ≤ s 0 ∧ s 0 ≤ 7) : mp_Call (mX12_adds, 1, 0, 0) [Value.ref 44, mp_i a, mp_i b, mp_i c, mp_i e, mp_i f, mp_i l] (A ++ (mp_ms s m img was num pro ask kp kk kf so sz el im pl ra re rm rf sd th ++ B)) (none, A ++ (mp_ms (sp_adds s a b c e f l) m img was num pro ask kp kk kf so sz el im pl ra re rm rf sd th ++ B)) := by
  refine mp_Call.of (L := [some (Value.ref 44), some (mp_i a), some (mp_i b), some (mp_i c), some (mp_i e), some (mp_i f), some (mp_i l), none]) pnX12 (Nat.le_of_ble_eq_true rfl) rfl ?_
  refine mp_aload_n dX12_adds_0 rfl ?_
  refine mp_getfield dX12_adds_1 fsX12_9_11 (mp_lk hA 0 rfl) rfl ?_
  refine mp_iconst dX12_adds_4 ?_
  refine mp_iald dX12_adds_5 (mp_lk hA 1 rfl) ⟨by omega, by omega⟩ (by omega) ?_
  refine mp_istore (L' := [some (Value.ref 44), some (mp_i a), some (mp_i b), some (mp_i c), some (mp_i e), some (mp_i f), some (mp_i l), some (mp_i (s 0))]) dX12_adds_6 (by decide) rfl ?_
  refine mp_aload_n dX12_adds_8 rfl ?_
  refine mp_getfield dX12_adds_9 fsX12_9_11 (mp_lk hA 0 rfl) rfl ?_
  refine mp_iload dX12_adds_12 rfl ?_
  refine mp_iconst dX12_adds_14 ?_
  refine mp_invS (z := (mX12_of, 0, 0, 0)) (K' := (0, 0)) (σ1 := A ++ (mp_ms s m img was num pro ask kp kk kf so sz el im pl ra re rm rf sd th ++ B)) (as := [mp_i (s 0), mp_i 0]) (st := [Value.ref 45]) (st1 := [mp_i (1 + 6 * (s 0) + 0), Value.ref 45]) dX12_adds_15 ssX12_60 (zX12_of (k := (s 0)) (x := 0)  ) ⟨Nat.le_of_ble_eq_true rfl, Nat.le_of_ble_eq_true rfl, Nat.le_of_ble_eq_true rfl, Nat.le_of_ble_eq_true rfl, Nat.le_of_ble_eq_true rfl⟩ rfl rfl rfl rfl ?_
  refine mp_iload_n dX12_adds_18 rfl ?_
  refine mp_iast (σ' := A ++ (mp_ms (mp_ud s (1 + 6 * (s 0) + 0) a) m img was num pro ask kp kk kf so sz el im pl ra re rm rf sd th ++ B)) dX12_adds_19 (mp_lk hA 1 rfl) (by decide) ⟨by omega, by omega⟩ (by decide) (mp_sts (Ms' := mp_ms (mp_ud s (1 + 6 * (s 0) + 0) a) m img was num pro ask kp kk kf so sz el im pl ra re rm rf sd th) hA 1 (Nat.le_of_ble_eq_true rfl) rfl) ?_
  refine mp_aload_n dX12_adds_20 rfl ?_
  refine mp_getfield dX12_adds_21 fsX12_9_11 (mp_lk hA 0 rfl) rfl ?_
  refine mp_iload dX12_adds_24 rfl ?_
  refine mp_iconst dX12_adds_26 ?_
  refine mp_invS (z := (mX12_of, 0, 0, 0)) (K' := (0, 0)) (σ1 := A ++ (mp_ms (mp_ud s (1 + 6 * (s 0) + 0) a) m img was num pro ask kp kk kf so sz el im pl ra re rm rf sd th ++ B)) (as := [mp_i (s 0), mp_i 1]) (st := [Value.ref 45]) (st1 := [mp_i (1 + 6 * (s 0) + 1), Value.ref 45]) dX12_adds_27 ssX12_60 (zX12_of (k := (s 0)) (x := 1)  ) ⟨Nat.le_of_ble_eq_true rfl, Nat.le_of_ble_eq_true rfl, Nat.le_of_ble_eq_true rfl, Nat.le_of_ble_eq_true rfl, Nat.le_of_ble_eq_true rfl⟩ rfl rfl rfl rfl ?_
  refine mp_iload_n dX12_adds_30 rfl ?_
  refine mp_iast (σ' := A ++ (mp_ms (mp_ud (mp_ud s (1 + 6 * (s 0) + 0) a) (1 + 6 * (s 0) + 1) b) m img was num pro ask kp kk kf so sz el im pl ra re rm rf sd th ++ B)) dX12_adds_31 (mp_lk hA 1 rfl) (by decide) ⟨by omega, by omega⟩ (by decide) (mp_sts (Ms' := mp_ms (mp_ud (mp_ud s (1 + 6 * (s 0) + 0) a) (1 + 6 * (s 0) + 1) b) m img was num pro ask kp kk kf so sz el im pl ra re rm rf sd th) hA 1 (Nat.le_of_ble_eq_true rfl) rfl) ?_
  refine mp_aload_n dX12_adds_32 rfl ?_
  refine mp_getfield dX12_adds_33 fsX12_9_11 (mp_lk hA 0 rfl) rfl ?_
  refine mp_iload dX12_adds_36 rfl ?_
  refine mp_iconst dX12_adds_38 ?_
  refine mp_invS (z := (mX12_of, 0, 0, 0)) (K' := (0, 0)) (σ1 := A ++ (mp_ms (mp_ud (mp_ud s (1 + 6 * (s 0) + 0) a) (1 + 6 * (s 0) + 1) b) m img was num pro ask kp kk kf so sz el im pl ra re rm rf sd th ++ B)) (as := [mp_i (s 0), mp_i 2]) (st := [Value.ref 45]) (st1 := [mp_i (1 + 6 * (s 0) + 2), Value.ref 45]) dX12_adds_39 ssX12_60 (zX12_of (k := (s 0)) (x := 2)  ) ⟨Nat.le_of_ble_eq_true rfl, Nat.le_of_ble_eq_true rfl, Nat.le_of_ble_eq_true rfl, Nat.le_of_ble_eq_true rfl, Nat.le_of_ble_eq_true rfl⟩ rfl rfl rfl rfl ?_
  refine mp_iload_n dX12_adds_42 rfl ?_
  refine mp_iast (σ' := A ++ (mp_ms (mp_ud (mp_ud (mp_ud s (1 + 6 * (s 0) + 0) a) (1 + 6 * (s 0) + 1) b) (1 + 6 * (s 0) + 2) c) m img was num pro ask kp kk kf so sz el im pl ra re rm rf sd th ++ B)) dX12_adds_43 (mp_lk hA 1 rfl) (by decide) ⟨by omega, by omega⟩ (by decide) (mp_sts (Ms' := mp_ms (mp_ud (mp_ud (mp_ud s (1 + 6 * (s 0) + 0) a) (1 + 6 * (s 0) + 1) b) (1 + 6 * (s 0) + 2) c) m img was num pro ask kp kk kf so sz el im pl ra re rm rf sd th) hA 1 (Nat.le_of_ble_eq_true rfl) rfl) ?_
  refine mp_aload_n dX12_adds_44 rfl ?_
  refine mp_getfield dX12_adds_45 fsX12_9_11 (mp_lk hA 0 rfl) rfl ?_
  refine mp_iload dX12_adds_48 rfl ?_
  refine mp_iconst dX12_adds_50 ?_
  refine mp_invS (z := (mX12_of, 0, 0, 0)) (K' := (0, 0)) (σ1 := A ++ (mp_ms (mp_ud (mp_ud (mp_ud s (1 + 6 * (s 0) + 0) a) (1 + 6 * (s 0) + 1) b) (1 + 6 * (s 0) + 2) c) m img was num pro ask kp kk kf so sz el im pl ra re rm rf sd th ++ B)) (as := [mp_i (s 0), mp_i 3]) (st := [Value.ref 45]) (st1 := [mp_i (1 + 6 * (s 0) + 3), Value.ref 45]) dX12_adds_51 ssX12_60 (zX12_of (k := (s 0)) (x := 3)  ) ⟨Nat.le_of_ble_eq_true rfl, Nat.le_of_ble_eq_true rfl, Nat.le_of_ble_eq_true rfl, Nat.le_of_ble_eq_true rfl, Nat.le_of_ble_eq_true rfl⟩ rfl rfl rfl rfl ?_
  refine mp_iload dX12_adds_54 rfl ?_
  refine mp_iast (σ' := A ++ (mp_ms (mp_ud (mp_ud (mp_ud (mp_ud s (1 + 6 * (s 0) + 0) a) (1 + 6 * (s 0) + 1) b) (1 + 6 * (s 0) + 2) c) (1 + 6 * (s 0) + 3) e) m img was num pro ask kp kk kf so sz el im pl ra re rm rf sd th ++ B)) dX12_adds_56 (mp_lk hA 1 rfl) (by decide) ⟨by omega, by omega⟩ (by decide) (mp_sts (Ms' := mp_ms (mp_ud (mp_ud (mp_ud (mp_ud s (1 + 6 * (s 0) + 0) a) (1 + 6 * (s 0) + 1) b) (1 + 6 * (s 0) + 2) c) (1 + 6 * (s 0) + 3) e) m img was num pro ask kp kk kf so sz el im pl ra re rm rf sd th) hA 1 (Nat.le_of_ble_eq_true rfl) rfl) ?_
  refine mp_aload_n dX12_adds_57 rfl ?_
  refine mp_getfield dX12_adds_58 fsX12_9_11 (mp_lk hA 0 rfl) rfl ?_
  refine mp_iload dX12_adds_61 rfl ?_
  refine mp_iconst dX12_adds_63 ?_
  refine mp_invS (z := (mX12_of, 0, 0, 0)) (K' := (0, 0)) (σ1 := A ++ (mp_ms (mp_ud (mp_ud (mp_ud (mp_ud s (1 + 6 * (s 0) + 0) a) (1 + 6 * (s 0) + 1) b) (1 + 6 * (s 0) + 2) c) (1 + 6 * (s 0) + 3) e) m img was num pro ask kp kk kf so sz el im pl ra re rm rf sd th ++ B)) (as := [mp_i (s 0), mp_i 4]) (st := [Value.ref 45]) (st1 := [mp_i (1 + 6 * (s 0) + 4), Value.ref 45]) dX12_adds_64 ssX12_60 (zX12_of (k := (s 0)) (x := 4)  ) ⟨Nat.le_of_ble_eq_true rfl, Nat.le_of_ble_eq_true rfl, Nat.le_of_ble_eq_true rfl, Nat.le_of_ble_eq_true rfl, Nat.le_of_ble_eq_true rfl⟩ rfl rfl rfl rfl ?_
  refine mp_iload dX12_adds_67 rfl ?_
  refine mp_iast (σ' := A ++ (mp_ms (mp_ud (mp_ud (mp_ud (mp_ud (mp_ud s (1 + 6 * (s 0) + 0) a) (1 + 6 * (s 0) + 1) b) (1 + 6 * (s 0) + 2) c) (1 + 6 * (s 0) + 3) e) (1 + 6 * (s 0) + 4) f) m img was num pro ask kp kk kf so sz el im pl ra re rm rf sd th ++ B)) dX12_adds_69 (mp_lk hA 1 rfl) (by decide) ⟨by omega, by omega⟩ (by decide) (mp_sts (Ms' := mp_ms (mp_ud (mp_ud (mp_ud (mp_ud (mp_ud s (1 + 6 * (s 0) + 0) a) (1 + 6 * (s 0) + 1) b) (1 + 6 * (s 0) + 2) c) (1 + 6 * (s 0) + 3) e) (1 + 6 * (s 0) + 4) f) m img was num pro ask kp kk kf so sz el im pl ra re rm rf sd th) hA 1 (Nat.le_of_ble_eq_true rfl) rfl) ?_
  refine mp_aload_n dX12_adds_70 rfl ?_
  refine mp_getfield dX12_adds_71 fsX12_9_11 (mp_lk hA 0 rfl) rfl ?_
  refine mp_iload dX12_adds_74 rfl ?_
  refine mp_iconst dX12_adds_76 ?_
  refine mp_invS (z := (mX12_of, 0, 0, 0)) (K' := (0, 0)) (σ1 := A ++ (mp_ms (mp_ud (mp_ud (mp_ud (mp_ud (mp_ud s (1 + 6 * (s 0) + 0) a) (1 + 6 * (s 0) + 1) b) (1 + 6 * (s 0) + 2) c) (1 + 6 * (s 0) + 3) e) (1 + 6 * (s 0) + 4) f) m img was num pro ask kp kk kf so sz el im pl ra re rm rf sd th ++ B)) (as := [mp_i (s 0), mp_i 5]) (st := [Value.ref 45]) (st1 := [mp_i (1 + 6 * (s 0) + 5), Value.ref 45]) dX12_adds_77 ssX12_60 (zX12_of (k := (s 0)) (x := 5)  ) ⟨Nat.le_of_ble_eq_true rfl, Nat.le_of_ble_eq_true rfl, Nat.le_of_ble_eq_true rfl, Nat.le_of_ble_eq_true rfl, Nat.le_of_ble_eq_true rfl⟩ rfl rfl rfl rfl ?_
  refine mp_iload dX12_adds_80 rfl ?_
  refine mp_iast (σ' := A ++ (mp_ms (mp_ud (mp_ud (mp_ud (mp_ud (mp_ud (mp_ud s (1 + 6 * (s 0) + 0) a) (1 + 6 * (s 0) + 1) b) (1 + 6 * (s 0) + 2) c) (1 + 6 * (s 0) + 3) e) (1 + 6 * (s 0) + 4) f) (1 + 6 * (s 0) + 5) l) m img was num pro ask kp kk kf so sz el im pl ra re rm rf sd th ++ B)) dX12_adds_82 (mp_lk hA 1 rfl) (by decide) ⟨by omega, by omega⟩ (by decide) (mp_sts (Ms' := mp_ms (mp_ud (mp_ud (mp_ud (mp_ud (mp_ud (mp_ud s (1 + 6 * (s 0) + 0) a) (1 + 6 * (s 0) + 1) b) (1 + 6 * (s 0) + 2) c) (1 + 6 * (s 0) + 3) e) (1 + 6 * (s 0) + 4) f) (1 + 6 * (s 0) + 5) l) m img was num pro ask kp kk kf so sz el im pl ra re rm rf sd th) hA 1 (Nat.le_of_ble_eq_true rfl) rfl) ?_
  have e9 : (mp_ud (mp_ud (mp_ud (mp_ud (mp_ud (mp_ud s (1 + 6 * (s 0) + 0) a) (1 + 6 * (s 0) + 1) b) (1 + 6 * (s 0) + 2) c) (1 + 6 * (s 0) + 3) e) (1 + 6 * (s 0) + 4) f) (1 + 6 * (s 0) + 5) l) 0 = s 0 := by rw [mp_ud_ne (by omega), mp_ud_ne (by omega), mp_ud_ne (by omega), mp_ud_ne (by omega), mp_ud_ne (by omega), mp_ud_ne (by omega)]
  refine mp_aload_n dX12_adds_83 rfl ?_
  refine mp_getfield dX12_adds_84 fsX12_9_11 (mp_lk hA 0 rfl) rfl ?_
  refine mp_iconst dX12_adds_87 ?_
  refine mp_dup2 dX12_adds_88 rfl rfl ?_
  refine mp_iald dX12_adds_89 (mp_lk hA 1 rfl) ⟨by omega, by omega⟩ (by omega) ?_
  refine mp_iconst dX12_adds_90 ?_
  refine mp_iadd (z := ((mp_ud (mp_ud (mp_ud (mp_ud (mp_ud (mp_ud s (1 + 6 * (s 0) + 0) a) (1 + 6 * (s 0) + 1) b) (1 + 6 * (s 0) + 2) c) (1 + 6 * (s 0) + 3) e) (1 + 6 * (s 0) + 4) f) (1 + 6 * (s 0) + 5) l) 0) + 1) dX12_adds_91 (by first | rfl | omega) ?_
  refine mp_iast (σ' := A ++ (mp_ms (mp_ud (mp_ud (mp_ud (mp_ud (mp_ud (mp_ud (mp_ud s (1 + 6 * (s 0) + 0) a) (1 + 6 * (s 0) + 1) b) (1 + 6 * (s 0) + 2) c) (1 + 6 * (s 0) + 3) e) (1 + 6 * (s 0) + 4) f) (1 + 6 * (s 0) + 5) l) 0 (((mp_ud (mp_ud (mp_ud (mp_ud (mp_ud (mp_ud s (1 + 6 * (s 0) + 0) a) (1 + 6 * (s 0) + 1) b) (1 + 6 * (s 0) + 2) c) (1 + 6 * (s 0) + 3) e) (1 + 6 * (s 0) + 4) f) (1 + 6 * (s 0) + 5) l) 0) + 1)) m img was num pro ask kp kk kf so sz el im pl ra re rm rf sd th ++ B)) dX12_adds_92 (mp_lk hA 1 rfl) (by decide) ⟨by omega, by omega⟩ (by decide) (mp_sts (Ms' := mp_ms (mp_ud (mp_ud (mp_ud (mp_ud (mp_ud (mp_ud (mp_ud s (1 + 6 * (s 0) + 0) a) (1 + 6 * (s 0) + 1) b) (1 + 6 * (s 0) + 2) c) (1 + 6 * (s 0) + 3) e) (1 + 6 * (s 0) + 4) f) (1 + 6 * (s 0) + 5) l) 0 (((mp_ud (mp_ud (mp_ud (mp_ud (mp_ud (mp_ud s (1 + 6 * (s 0) + 0) a) (1 + 6 * (s 0) + 1) b) (1 + 6 * (s 0) + 2) c) (1 + 6 * (s 0) + 3) e) (1 + 6 * (s 0) + 4) f) (1 + 6 * (s 0) + 5) l) 0) + 1)) m img was num pro ask kp kk kf so sz el im pl ra re rm rf sd th) hA 1 (Nat.le_of_ble_eq_true rfl) rfl) ?_
  exact mp_vreturn (st := []) dX12_adds_93 rfl ⟨by decide, by decide⟩ (by rw [e9]; rfl)
theorem zX12_meteor {s m img was num pro ask kp kk kf so sz el : Int → Int} {im pl ra re rm rf sd th : Int} {A B : mp_H}  {k : Int} {w : Int} (hA : A.length = 44) (hs : mp_sky s) (h_k : mp_w k) (h_w : mp_w w) : mp_Call (mX12_meteor, 3, 0, 0) [Value.ref 44, mp_i k, mp_i w] (A ++ (mp_ms s m img was num pro ask kp kk kf so sz el im pl ra re rm rf sd th ++ B)) (some (mp_i (sp_meteor s k w)), A ++ (mp_ms s m img was num pro ask kp kk kf so sz el im pl ra re rm rf sd th ++ B)) := by
  refine mp_Call.of (L := [some (Value.ref 44), some (mp_i k), some (mp_i w)]) pnX12 (Nat.le_of_ble_eq_true rfl) rfl ?_
  have h0 := hs.1
  refine mp_aload_n dX12_meteor_0 rfl ?_
  refine mp_iload_n dX12_meteor_1 rfl ?_
  refine mp_invV (z := (mX12_isMeteor, 1, 0, 0)) (K' := (0, 0)) (σ1 := A ++ (mp_ms s m img was num pro ask kp kk kf so sz el im pl ra re rm rf sd th ++ B)) (as := [mp_i k]) (st := []) (st1 := [mp_i (if 0 ≤ k ∧ k ≤ s 0 - 1 then 1 else 0)]) dX12_meteor_2 svX12_158 (mp_lk hA 0 rfl) rfl rfl (zX12_isMeteor (k := k) (s := s) (m := m) (img := img) (was := was) (num := num) (pro := pro) (ask := ask) (kp := kp) (kk := kk) (kf := kf) (so := so) (sz := sz) (el := el) (im := im) (pl := pl) (ra := ra) (re := re) (rm := rm) (rf := rf) (sd := sd) (th := th) (by first | with_reducible assumption | omega) (by first | with_reducible assumption | omega) (by first | with_reducible assumption | omega)) ⟨Nat.le_of_ble_eq_true rfl, Nat.le_of_ble_eq_true rfl, Nat.le_of_ble_eq_true rfl, Nat.le_of_ble_eq_true rfl, Nat.le_of_ble_eq_true rfl⟩ rfl rfl rfl rfl ?_
  refine mp_ifb_eq (tgt := 18) dX12_meteor_5 rfl (fun h1 => ?_) (fun h1 => ?_)
  · refine mp_iconst dX12_meteor_18 ?_
    exact mp_ireturn (st := []) dX12_meteor_19 rfl ⟨by decide, by decide⟩ ((mp_ans (by first | with_reducible rfl | (unfold sp_meteor; omega) | (unfold sp_meteor; first | (rw [if_pos (by omega)]; done) | (rw [if_neg (by omega)]; done) | (rw [if_neg (by omega), if_pos (by omega)]; done) | (rw [if_neg (by omega), if_neg (by omega)]; done) | (rw [if_neg (by omega), if_neg (by omega), if_pos (by omega)]; done) | (rw [if_neg (by omega), if_neg (by omega), if_neg (by omega)]; done) | (rw [if_neg (by omega), if_neg (by omega), if_neg (by omega), if_pos (by omega)]; done) | (rw [if_neg (by omega), if_neg (by omega), if_neg (by omega), if_neg (by omega)]; done) | (rw [if_neg (by omega), if_neg (by omega), if_neg (by omega), if_neg (by omega), if_pos (by omega)]; done) | (rw [if_neg (by omega), if_neg (by omega), if_neg (by omega), if_neg (by omega), if_neg (by omega)]; done) | (rw [if_neg (by omega), if_neg (by omega), if_neg (by omega), if_neg (by omega), if_neg (by omega), if_pos (by omega)]; done) | (rw [if_neg (by omega), if_neg (by omega), if_neg (by omega), if_neg (by omega), if_neg (by omega), if_neg (by omega)]; done) | (rw [if_neg (by omega), if_neg (by omega), if_neg (by omega), if_neg (by omega), if_neg (by omega), if_neg (by omega), if_pos (by omega)]; done) | (rw [if_neg (by omega), if_neg (by omega), if_neg (by omega), if_neg (by omega), if_neg (by omega), if_neg (by omega), if_neg (by omega)]; done)))))
  · refine mp_iload_n dX12_meteor_8 rfl ?_
    refine mp_iconst dX12_meteor_9 ?_
    refine mp_bipush dX12_meteor_10 rfl ?_
    refine mp_invS (z := (mX12_isIn, 0, 0, 0)) (K' := (0, 0)) (σ1 := A ++ (mp_ms s m img was num pro ask kp kk kf so sz el im pl ra re rm rf sd th ++ B)) (as := [mp_i w, mp_i 0, mp_i 9]) (st := []) (st1 := [mp_i (if 0 ≤ w ∧ w ≤ 9 then 1 else 0)]) dX12_meteor_12 ssX12_53 (zX12_isIn (v := w) (a := 0) (b := 9)  (by first | with_reducible assumption | omega) (by first | with_reducible assumption | omega) (by first | with_reducible assumption | omega)) ⟨Nat.le_of_ble_eq_true rfl, Nat.le_of_ble_eq_true rfl, Nat.le_of_ble_eq_true rfl, Nat.le_of_ble_eq_true rfl, Nat.le_of_ble_eq_true rfl⟩ rfl rfl rfl rfl ?_
    refine mp_ifb_ne (tgt := 20) dX12_meteor_15 rfl (fun h2 => ?_) (fun h2 => ?_)
    · have hm := hs.2.1 k (by omega) (by omega)
      have hb1 := mp_bright_bd (kind := s (1 + 6 * k + 0)) (f := s (1 + 6 * k + 1)) (by omega)
      refine mp_iload_n dX12_meteor_20 rfl ?_
      by_cases q3 : w = 6
      · refine mp_top (y := 6) q3 ?_
        refine mp_tableIn (tgt := 52) (off := 31) dX12_meteor_21 ⟨by decide, by decide⟩ (by decide) (by decide) rfl rfl ?_
        refine mp_aload_n dX12_meteor_52 rfl ?_
        refine mp_getfield dX12_meteor_53 fsX12_9_11 (mp_lk hA 0 rfl) rfl ?_
        refine mp_iload_n dX12_meteor_56 rfl ?_
        refine mp_invS (z := (mX12_lastsOf, 1, 0, 0)) (K' := (0, 0)) (σ1 := A ++ (mp_ms s m img was num pro ask kp kk kf so sz el im pl ra re rm rf sd th ++ B)) (as := [Value.ref 45, mp_i k]) (st := []) (st1 := [mp_i (sp_lasts (s (1 + 6 * k + 0)) (s (1 + 6 * k + 1)))]) dX12_meteor_57 ssX12_75 (zX12_lastsOf (r := 45) (k := k) (s := s) (mp_lk hA 1 rfl) (by first | with_reducible assumption | omega) (by first | with_reducible assumption | omega)) ⟨Nat.le_of_ble_eq_true rfl, Nat.le_of_ble_eq_true rfl, Nat.le_of_ble_eq_true rfl, Nat.le_of_ble_eq_true rfl, Nat.le_of_ble_eq_true rfl⟩ rfl rfl rfl rfl ?_
        exact mp_ireturn (st := []) dX12_meteor_60 rfl ⟨by decide, by decide⟩ ((mp_ans (by first | with_reducible rfl | (unfold sp_meteor; omega) | (unfold sp_meteor; first | (rw [if_pos (by omega)]; done) | (rw [if_neg (by omega)]; done) | (rw [if_neg (by omega), if_pos (by omega)]; done) | (rw [if_neg (by omega), if_neg (by omega)]; done) | (rw [if_neg (by omega), if_neg (by omega), if_pos (by omega)]; done) | (rw [if_neg (by omega), if_neg (by omega), if_neg (by omega)]; done) | (rw [if_neg (by omega), if_neg (by omega), if_neg (by omega), if_pos (by omega)]; done) | (rw [if_neg (by omega), if_neg (by omega), if_neg (by omega), if_neg (by omega)]; done) | (rw [if_neg (by omega), if_neg (by omega), if_neg (by omega), if_neg (by omega), if_pos (by omega)]; done) | (rw [if_neg (by omega), if_neg (by omega), if_neg (by omega), if_neg (by omega), if_neg (by omega)]; done) | (rw [if_neg (by omega), if_neg (by omega), if_neg (by omega), if_neg (by omega), if_neg (by omega), if_pos (by omega)]; done) | (rw [if_neg (by omega), if_neg (by omega), if_neg (by omega), if_neg (by omega), if_neg (by omega), if_neg (by omega)]; done) | (rw [if_neg (by omega), if_neg (by omega), if_neg (by omega), if_neg (by omega), if_neg (by omega), if_neg (by omega), if_pos (by omega)]; done) | (rw [if_neg (by omega), if_neg (by omega), if_neg (by omega), if_neg (by omega), if_neg (by omega), if_neg (by omega), if_neg (by omega)]; done)))))
      by_cases q4 : w = 7
      · refine mp_top (y := 7) q4 ?_
        refine mp_tableIn (tgt := 61) (off := 40) dX12_meteor_21 ⟨by decide, by decide⟩ (by decide) (by decide) rfl rfl ?_
        refine mp_aload_n dX12_meteor_61 rfl ?_
        refine mp_getfield dX12_meteor_62 fsX12_9_11 (mp_lk hA 0 rfl) rfl ?_
        refine mp_iload_n dX12_meteor_65 rfl ?_
        refine mp_invS (z := (mX12_brightOf, 1, 0, 0)) (K' := (0, 0)) (σ1 := A ++ (mp_ms s m img was num pro ask kp kk kf so sz el im pl ra re rm rf sd th ++ B)) (as := [Value.ref 45, mp_i k]) (st := []) (st1 := [mp_i (sp_bright (s (1 + 6 * k + 0)) (s (1 + 6 * k + 1)))]) dX12_meteor_66 ssX12_83 (zX12_brightOf (r := 45) (k := k) (s := s) (mp_lk hA 1 rfl) (by first | with_reducible assumption | omega) (by first | with_reducible assumption | omega)) ⟨Nat.le_of_ble_eq_true rfl, Nat.le_of_ble_eq_true rfl, Nat.le_of_ble_eq_true rfl, Nat.le_of_ble_eq_true rfl, Nat.le_of_ble_eq_true rfl⟩ rfl rfl rfl rfl ?_
        refine mp_bipush dX12_meteor_69 rfl ?_
        refine mp_iadd (z := (sp_bright (s (1 + 6 * k + 0)) (s (1 + 6 * k + 1))) + 10) dX12_meteor_71 (by first | rfl | omega) ?_
        exact mp_ireturn (st := []) dX12_meteor_72 rfl ⟨by decide, by decide⟩ ((mp_ans (by first | with_reducible rfl | (unfold sp_meteor; omega) | (unfold sp_meteor; first | (rw [if_pos (by omega)]; done) | (rw [if_neg (by omega)]; done) | (rw [if_neg (by omega), if_pos (by omega)]; done) | (rw [if_neg (by omega), if_neg (by omega)]; done) | (rw [if_neg (by omega), if_neg (by omega), if_pos (by omega)]; done) | (rw [if_neg (by omega), if_neg (by omega), if_neg (by omega)]; done) | (rw [if_neg (by omega), if_neg (by omega), if_neg (by omega), if_pos (by omega)]; done) | (rw [if_neg (by omega), if_neg (by omega), if_neg (by omega), if_neg (by omega)]; done) | (rw [if_neg (by omega), if_neg (by omega), if_neg (by omega), if_neg (by omega), if_pos (by omega)]; done) | (rw [if_neg (by omega), if_neg (by omega), if_neg (by omega), if_neg (by omega), if_neg (by omega)]; done) | (rw [if_neg (by omega), if_neg (by omega), if_neg (by omega), if_neg (by omega), if_neg (by omega), if_pos (by omega)]; done) | (rw [if_neg (by omega), if_neg (by omega), if_neg (by omega), if_neg (by omega), if_neg (by omega), if_neg (by omega)]; done) | (rw [if_neg (by omega), if_neg (by omega), if_neg (by omega), if_neg (by omega), if_neg (by omega), if_neg (by omega), if_pos (by omega)]; done) | (rw [if_neg (by omega), if_neg (by omega), if_neg (by omega), if_neg (by omega), if_neg (by omega), if_neg (by omega), if_neg (by omega)]; done)))))
      by_cases q5 : w = 8
      · refine mp_top (y := 8) q5 ?_
        refine mp_tableIn (tgt := 73) (off := 52) dX12_meteor_21 ⟨by decide, by decide⟩ (by decide) (by decide) rfl rfl ?_
        refine mp_aload_n dX12_meteor_73 rfl ?_
        refine mp_getfield dX12_meteor_74 fsX12_9_11 (mp_lk hA 0 rfl) rfl ?_
        refine mp_iload_n dX12_meteor_77 rfl ?_
        refine mp_iconst dX12_meteor_78 ?_
        refine mp_invS (z := (mX12_of, 0, 0, 0)) (K' := (0, 0)) (σ1 := A ++ (mp_ms s m img was num pro ask kp kk kf so sz el im pl ra re rm rf sd th ++ B)) (as := [mp_i k, mp_i 0]) (st := [Value.ref 45]) (st1 := [mp_i (1 + 6 * k + 0), Value.ref 45]) dX12_meteor_79 ssX12_60 (zX12_of (k := k) (x := 0)  ) ⟨Nat.le_of_ble_eq_true rfl, Nat.le_of_ble_eq_true rfl, Nat.le_of_ble_eq_true rfl, Nat.le_of_ble_eq_true rfl, Nat.le_of_ble_eq_true rfl⟩ rfl rfl rfl rfl ?_
        refine mp_iald dX12_meteor_82 (mp_lk hA 1 rfl) ⟨by omega, by omega⟩ (by omega) ?_
        refine mp_aload_n dX12_meteor_83 rfl ?_
        refine mp_getfield dX12_meteor_84 fsX12_9_11 (mp_lk hA 0 rfl) rfl ?_
        refine mp_iload_n dX12_meteor_87 rfl ?_
        refine mp_iconst dX12_meteor_88 ?_
        refine mp_invS (z := (mX12_of, 0, 0, 0)) (K' := (0, 0)) (σ1 := A ++ (mp_ms s m img was num pro ask kp kk kf so sz el im pl ra re rm rf sd th ++ B)) (as := [mp_i k, mp_i 1]) (st := [Value.ref 45, mp_i (s (1 + 6 * k + 0))]) (st1 := [mp_i (1 + 6 * k + 1), Value.ref 45, mp_i (s (1 + 6 * k + 0))]) dX12_meteor_89 ssX12_60 (zX12_of (k := k) (x := 1)  ) ⟨Nat.le_of_ble_eq_true rfl, Nat.le_of_ble_eq_true rfl, Nat.le_of_ble_eq_true rfl, Nat.le_of_ble_eq_true rfl, Nat.le_of_ble_eq_true rfl⟩ rfl rfl rfl rfl ?_
        refine mp_iald dX12_meteor_92 (mp_lk hA 1 rfl) ⟨by omega, by omega⟩ (by omega) ?_
        refine mp_invS (z := (mX12_period, 0, 0, 0)) (K' := (0, 0)) (σ1 := A ++ (mp_ms s m img was num pro ask kp kk kf so sz el im pl ra re rm rf sd th ++ B)) (as := [mp_i (s (1 + 6 * k + 0)), mp_i (s (1 + 6 * k + 1))]) (st := []) (st1 := [mp_i (sp_period (s (1 + 6 * k + 0)) (s (1 + 6 * k + 1)))]) dX12_meteor_93 ssX12_161 (zX12_period (k := (s (1 + 6 * k + 0))) (f := (s (1 + 6 * k + 1)))  (by first | with_reducible assumption | omega) (by first | with_reducible assumption | omega)) ⟨Nat.le_of_ble_eq_true rfl, Nat.le_of_ble_eq_true rfl, Nat.le_of_ble_eq_true rfl, Nat.le_of_ble_eq_true rfl, Nat.le_of_ble_eq_true rfl⟩ rfl rfl rfl rfl ?_
        exact mp_ireturn (st := []) dX12_meteor_96 rfl ⟨by decide, by decide⟩ ((mp_ans (by first | with_reducible rfl | (unfold sp_meteor; omega) | (unfold sp_meteor; first | (rw [if_pos (by omega)]; done) | (rw [if_neg (by omega)]; done) | (rw [if_neg (by omega), if_pos (by omega)]; done) | (rw [if_neg (by omega), if_neg (by omega)]; done) | (rw [if_neg (by omega), if_neg (by omega), if_pos (by omega)]; done) | (rw [if_neg (by omega), if_neg (by omega), if_neg (by omega)]; done) | (rw [if_neg (by omega), if_neg (by omega), if_neg (by omega), if_pos (by omega)]; done) | (rw [if_neg (by omega), if_neg (by omega), if_neg (by omega), if_neg (by omega)]; done) | (rw [if_neg (by omega), if_neg (by omega), if_neg (by omega), if_neg (by omega), if_pos (by omega)]; done) | (rw [if_neg (by omega), if_neg (by omega), if_neg (by omega), if_neg (by omega), if_neg (by omega)]; done) | (rw [if_neg (by omega), if_neg (by omega), if_neg (by omega), if_neg (by omega), if_neg (by omega), if_pos (by omega)]; done) | (rw [if_neg (by omega), if_neg (by omega), if_neg (by omega), if_neg (by omega), if_neg (by omega), if_neg (by omega)]; done) | (rw [if_neg (by omega), if_neg (by omega), if_neg (by omega), if_neg (by omega), if_neg (by omega), if_neg (by omega), if_pos (by omega)]; done) | (rw [if_neg (by omega), if_neg (by omega), if_neg (by omega), if_neg (by omega), if_neg (by omega), if_neg (by omega), if_neg (by omega)]; done)))))
      by_cases q6 : w = 9
      · refine mp_top (y := 9) q6 ?_
        refine mp_tableIn (tgt := 97) (off := 76) dX12_meteor_21 ⟨by decide, by decide⟩ (by decide) (by decide) rfl rfl ?_
        refine mp_aload_n dX12_meteor_97 rfl ?_
        refine mp_getfield dX12_meteor_98 fsX12_9_11 (mp_lk hA 0 rfl) rfl ?_
        refine mp_iload_n dX12_meteor_101 rfl ?_
        refine mp_invS (z := (mX12_heatOf, 2, 0, 0)) (K' := (0, 0)) (σ1 := A ++ (mp_ms s m img was num pro ask kp kk kf so sz el im pl ra re rm rf sd th ++ B)) (as := [Value.ref 45, mp_i k]) (st := []) (st1 := [mp_i (sp_heat (s (1 + 6 * k + 0)) (s (1 + 6 * k + 1)))]) dX12_meteor_102 ssX12_164 (zX12_heatOf (r := 45) (k := k) (s := s) (mp_lk hA 1 rfl) (by first | with_reducible assumption | omega) (by first | with_reducible assumption | omega)) ⟨Nat.le_of_ble_eq_true rfl, Nat.le_of_ble_eq_true rfl, Nat.le_of_ble_eq_true rfl, Nat.le_of_ble_eq_true rfl, Nat.le_of_ble_eq_true rfl⟩ rfl rfl rfl rfl ?_
        exact mp_ireturn (st := []) dX12_meteor_105 rfl ⟨by decide, by decide⟩ ((mp_ans (by first | with_reducible rfl | (unfold sp_meteor; omega) | (unfold sp_meteor; first | (rw [if_pos (by omega)]; done) | (rw [if_neg (by omega)]; done) | (rw [if_neg (by omega), if_pos (by omega)]; done) | (rw [if_neg (by omega), if_neg (by omega)]; done) | (rw [if_neg (by omega), if_neg (by omega), if_pos (by omega)]; done) | (rw [if_neg (by omega), if_neg (by omega), if_neg (by omega)]; done) | (rw [if_neg (by omega), if_neg (by omega), if_neg (by omega), if_pos (by omega)]; done) | (rw [if_neg (by omega), if_neg (by omega), if_neg (by omega), if_neg (by omega)]; done) | (rw [if_neg (by omega), if_neg (by omega), if_neg (by omega), if_neg (by omega), if_pos (by omega)]; done) | (rw [if_neg (by omega), if_neg (by omega), if_neg (by omega), if_neg (by omega), if_neg (by omega)]; done) | (rw [if_neg (by omega), if_neg (by omega), if_neg (by omega), if_neg (by omega), if_neg (by omega), if_pos (by omega)]; done) | (rw [if_neg (by omega), if_neg (by omega), if_neg (by omega), if_neg (by omega), if_neg (by omega), if_neg (by omega)]; done) | (rw [if_neg (by omega), if_neg (by omega), if_neg (by omega), if_neg (by omega), if_neg (by omega), if_neg (by omega), if_pos (by omega)]; done) | (rw [if_neg (by omega), if_neg (by omega), if_neg (by omega), if_neg (by omega), if_neg (by omega), if_neg (by omega), if_neg (by omega)]; done)))))
      refine mp_tableOut (tgt := 106) dX12_meteor_21 ⟨by omega, by omega⟩ (by omega) rfl ?_
      refine mp_aload_n dX12_meteor_106 rfl ?_
      refine mp_getfield dX12_meteor_107 fsX12_9_11 (mp_lk hA 0 rfl) rfl ?_
      refine mp_iload_n dX12_meteor_110 rfl ?_
      refine mp_iload_n dX12_meteor_111 rfl ?_
      refine mp_invS (z := (mX12_of, 0, 0, 0)) (K' := (0, 0)) (σ1 := A ++ (mp_ms s m img was num pro ask kp kk kf so sz el im pl ra re rm rf sd th ++ B)) (as := [mp_i k, mp_i w]) (st := [Value.ref 45]) (st1 := [mp_i (1 + 6 * k + w), Value.ref 45]) dX12_meteor_112 ssX12_60 (zX12_of (k := k) (x := w)  ) ⟨Nat.le_of_ble_eq_true rfl, Nat.le_of_ble_eq_true rfl, Nat.le_of_ble_eq_true rfl, Nat.le_of_ble_eq_true rfl, Nat.le_of_ble_eq_true rfl⟩ rfl rfl rfl rfl ?_
      refine mp_iald dX12_meteor_115 (mp_lk hA 1 rfl) ⟨by omega, by omega⟩ (by omega) ?_
      exact mp_ireturn (st := []) dX12_meteor_116 rfl ⟨by decide, by decide⟩ ((mp_ans (by first | with_reducible rfl | (unfold sp_meteor; omega) | (unfold sp_meteor; first | (rw [if_pos (by omega)]; done) | (rw [if_neg (by omega)]; done) | (rw [if_neg (by omega), if_pos (by omega)]; done) | (rw [if_neg (by omega), if_neg (by omega)]; done) | (rw [if_neg (by omega), if_neg (by omega), if_pos (by omega)]; done) | (rw [if_neg (by omega), if_neg (by omega), if_neg (by omega)]; done) | (rw [if_neg (by omega), if_neg (by omega), if_neg (by omega), if_pos (by omega)]; done) | (rw [if_neg (by omega), if_neg (by omega), if_neg (by omega), if_neg (by omega)]; done) | (rw [if_neg (by omega), if_neg (by omega), if_neg (by omega), if_neg (by omega), if_pos (by omega)]; done) | (rw [if_neg (by omega), if_neg (by omega), if_neg (by omega), if_neg (by omega), if_neg (by omega)]; done) | (rw [if_neg (by omega), if_neg (by omega), if_neg (by omega), if_neg (by omega), if_neg (by omega), if_pos (by omega)]; done) | (rw [if_neg (by omega), if_neg (by omega), if_neg (by omega), if_neg (by omega), if_neg (by omega), if_neg (by omega)]; done) | (rw [if_neg (by omega), if_neg (by omega), if_neg (by omega), if_neg (by omega), if_neg (by omega), if_neg (by omega), if_pos (by omega)]; done) | (rw [if_neg (by omega), if_neg (by omega), if_neg (by omega), if_neg (by omega), if_neg (by omega), if_neg (by omega), if_neg (by omega)]; done)))))
    · refine mp_iconst dX12_meteor_18 ?_
      exact mp_ireturn (st := []) dX12_meteor_19 rfl ⟨by decide, by decide⟩ ((mp_ans (by first | with_reducible rfl | (unfold sp_meteor; omega) | (unfold sp_meteor; first | (rw [if_pos (by omega)]; done) | (rw [if_neg (by omega)]; done) | (rw [if_neg (by omega), if_pos (by omega)]; done) | (rw [if_neg (by omega), if_neg (by omega)]; done) | (rw [if_neg (by omega), if_neg (by omega), if_pos (by omega)]; done) | (rw [if_neg (by omega), if_neg (by omega), if_neg (by omega)]; done) | (rw [if_neg (by omega), if_neg (by omega), if_neg (by omega), if_pos (by omega)]; done) | (rw [if_neg (by omega), if_neg (by omega), if_neg (by omega), if_neg (by omega)]; done) | (rw [if_neg (by omega), if_neg (by omega), if_neg (by omega), if_neg (by omega), if_pos (by omega)]; done) | (rw [if_neg (by omega), if_neg (by omega), if_neg (by omega), if_neg (by omega), if_neg (by omega)]; done) | (rw [if_neg (by omega), if_neg (by omega), if_neg (by omega), if_neg (by omega), if_neg (by omega), if_pos (by omega)]; done) | (rw [if_neg (by omega), if_neg (by omega), if_neg (by omega), if_neg (by omega), if_neg (by omega), if_neg (by omega)]; done) | (rw [if_neg (by omega), if_neg (by omega), if_neg (by omega), if_neg (by omega), if_neg (by omega), if_neg (by omega), if_pos (by omega)]; done) | (rw [if_neg (by omega), if_neg (by omega), if_neg (by omega), if_neg (by omega), if_neg (by omega), if_neg (by omega), if_neg (by omega)]; done)))))
theorem zX12_looker {s m img was num pro ask kp kk kf so sz el : Int → Int} {im pl ra re rm rf sd th : Int} {A B : mp_H}  {l : Int} {w : Int} (hA : A.length = 44) (hs : mp_sky s) (h_l : mp_w l) (h_w : mp_w w) : mp_Call (mX12_looker, 2, 0, 0) [Value.ref 44, mp_i l, mp_i w] (A ++ (mp_ms s m img was num pro ask kp kk kf so sz el im pl ra re rm rf sd th ++ B)) (some (mp_i (sp_looker s l w)), A ++ (mp_ms s m img was num pro ask kp kk kf so sz el im pl ra re rm rf sd th ++ B)) := by
  refine mp_Call.of (L := [some (Value.ref 44), some (mp_i l), some (mp_i w)]) pnX12 (Nat.le_of_ble_eq_true rfl) rfl ?_
  have h0 := hs.1
  refine mp_iload_n dX12_looker_0 rfl ?_
  refine mp_invS (z := (mX12_isLooker, 1, 0, 0)) (K' := (0, 0)) (σ1 := A ++ (mp_ms s m img was num pro ask kp kk kf so sz el im pl ra re rm rf sd th ++ B)) (as := [mp_i l]) (st := []) (st1 := [mp_i (if 0 ≤ l ∧ l ≤ 4 then 1 else 0)]) dX12_looker_1 ssX12_128 (zX12_isLooker (l := l)  (by first | with_reducible assumption | omega)) ⟨Nat.le_of_ble_eq_true rfl, Nat.le_of_ble_eq_true rfl, Nat.le_of_ble_eq_true rfl, Nat.le_of_ble_eq_true rfl, Nat.le_of_ble_eq_true rfl⟩ rfl rfl rfl rfl ?_
  refine mp_ifb_eq (tgt := 16) dX12_looker_4 rfl (fun h1 => ?_) (fun h1 => ?_)
  · refine mp_iconst dX12_looker_16 ?_
    exact mp_ireturn (st := []) dX12_looker_17 rfl ⟨by decide, by decide⟩ ((mp_ans (by first | with_reducible rfl | (unfold sp_looker; omega) | (unfold sp_looker; first | (rw [if_pos (by omega)]; done) | (rw [if_neg (by omega)]; done) | (rw [if_neg (by omega), if_pos (by omega)]; done) | (rw [if_neg (by omega), if_neg (by omega)]; done) | (rw [if_neg (by omega), if_neg (by omega), if_pos (by omega)]; done) | (rw [if_neg (by omega), if_neg (by omega), if_neg (by omega)]; done) | (rw [if_neg (by omega), if_neg (by omega), if_neg (by omega), if_pos (by omega)]; done) | (rw [if_neg (by omega), if_neg (by omega), if_neg (by omega), if_neg (by omega)]; done) | (rw [if_neg (by omega), if_neg (by omega), if_neg (by omega), if_neg (by omega), if_pos (by omega)]; done) | (rw [if_neg (by omega), if_neg (by omega), if_neg (by omega), if_neg (by omega), if_neg (by omega)]; done)))))
  · refine mp_iload_n dX12_looker_7 rfl ?_
    refine mp_iconst dX12_looker_8 ?_
    refine mp_iconst dX12_looker_9 ?_
    refine mp_invS (z := (mX12_isIn, 0, 0, 0)) (K' := (0, 0)) (σ1 := A ++ (mp_ms s m img was num pro ask kp kk kf so sz el im pl ra re rm rf sd th ++ B)) (as := [mp_i w, mp_i 0, mp_i 3]) (st := []) (st1 := [mp_i (if 0 ≤ w ∧ w ≤ 3 then 1 else 0)]) dX12_looker_10 ssX12_53 (zX12_isIn (v := w) (a := 0) (b := 3)  (by first | with_reducible assumption | omega) (by first | with_reducible assumption | omega) (by first | with_reducible assumption | omega)) ⟨Nat.le_of_ble_eq_true rfl, Nat.le_of_ble_eq_true rfl, Nat.le_of_ble_eq_true rfl, Nat.le_of_ble_eq_true rfl, Nat.le_of_ble_eq_true rfl⟩ rfl rfl rfl rfl ?_
    refine mp_ifb_ne (tgt := 18) dX12_looker_13 rfl (fun h2 => ?_) (fun h2 => ?_)
    · have hb9 := hs.2.2.1 l (by omega) (by omega)
      refine mp_iload_n dX12_looker_18 rfl ?_
      refine mp_iconst dX12_looker_19 ?_
      refine mp_icmp_ge (tgt := 36) dX12_looker_20 rfl ⟨by omega, by omega⟩ ⟨by omega, by omega⟩ (fun h3 => ?_) (fun h3 => ?_)
      · refine mp_aload_n dX12_looker_36 rfl ?_
        refine mp_getfield dX12_looker_37 fsX12_9_11 (mp_lk hA 0 rfl) rfl ?_
        refine mp_iload_n dX12_looker_40 rfl ?_
        refine mp_invS (z := (mX12_need, 1, 0, 0)) (K' := (0, 0)) (σ1 := A ++ (mp_ms s m img was num pro ask kp kk kf so sz el im pl ra re rm rf sd th ++ B)) (as := [Value.ref 45, mp_i l]) (st := []) (st1 := [mp_i (sp_need (s (49 + 3 * l + 1)))]) dX12_looker_41 ssX12_89 (zX12_need (r := 45) (l := l) (s := s) (mp_lk hA 1 rfl) (by first | with_reducible assumption | omega) (by first | with_reducible assumption | omega)) ⟨Nat.le_of_ble_eq_true rfl, Nat.le_of_ble_eq_true rfl, Nat.le_of_ble_eq_true rfl, Nat.le_of_ble_eq_true rfl, Nat.le_of_ble_eq_true rfl⟩ rfl rfl rfl rfl ?_
        exact mp_ireturn (st := []) dX12_looker_44 rfl ⟨by decide, by decide⟩ ((mp_ans (by first | with_reducible rfl | (unfold sp_looker; omega) | (unfold sp_looker; first | (rw [if_pos (by omega)]; done) | (rw [if_neg (by omega)]; done) | (rw [if_neg (by omega), if_pos (by omega)]; done) | (rw [if_neg (by omega), if_neg (by omega)]; done) | (rw [if_neg (by omega), if_neg (by omega), if_pos (by omega)]; done) | (rw [if_neg (by omega), if_neg (by omega), if_neg (by omega)]; done) | (rw [if_neg (by omega), if_neg (by omega), if_neg (by omega), if_pos (by omega)]; done) | (rw [if_neg (by omega), if_neg (by omega), if_neg (by omega), if_neg (by omega)]; done) | (rw [if_neg (by omega), if_neg (by omega), if_neg (by omega), if_neg (by omega), if_pos (by omega)]; done) | (rw [if_neg (by omega), if_neg (by omega), if_neg (by omega), if_neg (by omega), if_neg (by omega)]; done)))))
      · refine mp_aload_n dX12_looker_23 rfl ?_
        refine mp_getfield dX12_looker_24 fsX12_9_11 (mp_lk hA 0 rfl) rfl ?_
        refine mp_iload_n dX12_looker_27 rfl ?_
        refine mp_iload_n dX12_looker_28 rfl ?_
        refine mp_invS (z := (mX12_by, 0, 0, 0)) (K' := (0, 0)) (σ1 := A ++ (mp_ms s m img was num pro ask kp kk kf so sz el im pl ra re rm rf sd th ++ B)) (as := [mp_i l, mp_i w]) (st := [Value.ref 45]) (st1 := [mp_i (49 + 3 * l + w), Value.ref 45]) dX12_looker_29 ssX12_49 (zX12_by (l := l) (x := w)  ) ⟨Nat.le_of_ble_eq_true rfl, Nat.le_of_ble_eq_true rfl, Nat.le_of_ble_eq_true rfl, Nat.le_of_ble_eq_true rfl, Nat.le_of_ble_eq_true rfl⟩ rfl rfl rfl rfl ?_
        refine mp_iald dX12_looker_32 (mp_lk hA 1 rfl) ⟨by omega, by omega⟩ (by omega) ?_
        refine mp_goto (tgt := 44) dX12_looker_33 rfl ?_
        exact mp_ireturn (st := []) dX12_looker_44 rfl ⟨by decide, by decide⟩ ((mp_ans (by first | with_reducible rfl | (unfold sp_looker; omega) | (unfold sp_looker; first | (rw [if_pos (by omega)]; done) | (rw [if_neg (by omega)]; done) | (rw [if_neg (by omega), if_pos (by omega)]; done) | (rw [if_neg (by omega), if_neg (by omega)]; done) | (rw [if_neg (by omega), if_neg (by omega), if_pos (by omega)]; done) | (rw [if_neg (by omega), if_neg (by omega), if_neg (by omega)]; done) | (rw [if_neg (by omega), if_neg (by omega), if_neg (by omega), if_pos (by omega)]; done) | (rw [if_neg (by omega), if_neg (by omega), if_neg (by omega), if_neg (by omega)]; done) | (rw [if_neg (by omega), if_neg (by omega), if_neg (by omega), if_neg (by omega), if_pos (by omega)]; done) | (rw [if_neg (by omega), if_neg (by omega), if_neg (by omega), if_neg (by omega), if_neg (by omega)]; done)))))
    · refine mp_iconst dX12_looker_16 ?_
      exact mp_ireturn (st := []) dX12_looker_17 rfl ⟨by decide, by decide⟩ ((mp_ans (by first | with_reducible rfl | (unfold sp_looker; omega) | (unfold sp_looker; first | (rw [if_pos (by omega)]; done) | (rw [if_neg (by omega)]; done) | (rw [if_neg (by omega), if_pos (by omega)]; done) | (rw [if_neg (by omega), if_neg (by omega)]; done) | (rw [if_neg (by omega), if_neg (by omega), if_pos (by omega)]; done) | (rw [if_neg (by omega), if_neg (by omega), if_neg (by omega)]; done) | (rw [if_neg (by omega), if_neg (by omega), if_neg (by omega), if_pos (by omega)]; done) | (rw [if_neg (by omega), if_neg (by omega), if_neg (by omega), if_neg (by omega)]; done) | (rw [if_neg (by omega), if_neg (by omega), if_neg (by omega), if_neg (by omega), if_pos (by omega)]; done) | (rw [if_neg (by omega), if_neg (by omega), if_neg (by omega), if_neg (by omega), if_neg (by omega)]; done)))))
theorem zX12_falls {s m img was num pro ask kp kk kf so sz el : Int → Int} {im pl ra re rm rf sd th : Int} {A B : mp_H}  {d : Int} {c : Int} {e : Int} {f : Int} (hA : A.length = 44) (hs : mp_sky s) (hh : ∀ d, 0 ≤ d → d ≤ 7 → mp_shf kp kk kf so sz d) (h_d : mp_w d) (h_c : mp_w c) (h_e : mp_w e) (h_f : mp_w f) : mp_Call (mX12_falls, 3, 0, 0) [Value.ref 44, mp_i d, mp_i c, mp_i e, mp_i f] (A ++ (mp_ms s m img was num pro ask kp kk kf so sz el im pl ra re rm rf sd th ++ B)) (some (mp_i ((sp_falls s kp kk kf d c e f).1)), A ++ (mp_ms ((sp_falls s kp kk kf d c e f).2) m img was num pro ask kp kk kf so sz el im pl ra re rm rf sd th ++ B)) := by
  refine mp_Call.of (L := [some (Value.ref 44), some (mp_i d), some (mp_i c), some (mp_i e), some (mp_i f), none]) pnX12 (Nat.le_of_ble_eq_true rfl) rfl ?_
  have h0 := hs.1
  have hw9 : sp_wrongKept kp d = if ¬ (0 ≤ d ∧ d ≤ 7) then -1 else if kp d = 0 then -11 else if kp d = 2 then -12 else 0 := rfl
  refine mp_iload_n dX12_falls_0 rfl ?_
  refine mp_iload_n dX12_falls_1 rfl ?_
  refine mp_iload dX12_falls_2 rfl ?_
  refine mp_invS (z := (mX12_isWell, 1, 0, 0)) (K' := (0, 0)) (σ1 := A ++ (mp_ms s m img was num pro ask kp kk kf so sz el im pl ra re rm rf sd th ++ B)) (as := [mp_i c, mp_i e, mp_i f]) (st := []) (st1 := [mp_i (if (0 ≤ c ∧ c ≤ 15) ∧ (0 ≤ e ∧ e ≤ 4) ∧ (0 ≤ f ∧ f ≤ 30) then 1 else 0)]) dX12_falls_4 ssX12_132 (zX12_isWell (c := c) (s := e) (n := f)  (by first | with_reducible assumption | omega) (by first | with_reducible assumption | omega) (by first | with_reducible assumption | omega)) ⟨Nat.le_of_ble_eq_true rfl, Nat.le_of_ble_eq_true rfl, Nat.le_of_ble_eq_true rfl, Nat.le_of_ble_eq_true rfl, Nat.le_of_ble_eq_true rfl⟩ rfl rfl rfl rfl ?_
  refine mp_ifb_ne (tgt := 12) dX12_falls_7 rfl (fun h1 => ?_) (fun h1 => ?_)
  · refine mp_aload_n dX12_falls_12 rfl ?_
    refine mp_iload_n dX12_falls_13 rfl ?_
    refine mp_invV (z := (mX12_wrongKept, 2, 0, 0)) (K' := (0, 0)) (σ1 := A ++ (mp_ms s m img was num pro ask kp kk kf so sz el im pl ra re rm rf sd th ++ B)) (as := [mp_i d]) (st := []) (st1 := [mp_i (sp_wrongKept kp d)]) dX12_falls_14 svX12_167 (mp_lk hA 0 rfl) rfl rfl (zX12_wrongKept (d := d) (s := s) (m := m) (img := img) (was := was) (num := num) (pro := pro) (ask := ask) (kp := kp) (kk := kk) (kf := kf) (so := so) (sz := sz) (el := el) (im := im) (pl := pl) (ra := ra) (re := re) (rm := rm) (rf := rf) (sd := sd) (th := th) (by first | with_reducible assumption | omega) (by first | with_reducible assumption | omega) (by first | with_reducible assumption | omega)) ⟨Nat.le_of_ble_eq_true rfl, Nat.le_of_ble_eq_true rfl, Nat.le_of_ble_eq_true rfl, Nat.le_of_ble_eq_true rfl, Nat.le_of_ble_eq_true rfl⟩ rfl rfl rfl rfl ?_
    refine mp_istore (L' := [some (Value.ref 44), some (mp_i d), some (mp_i c), some (mp_i e), some (mp_i f), some (mp_i (sp_wrongKept kp d))]) dX12_falls_17 (by decide) rfl ?_
    refine mp_iload dX12_falls_19 rfl ?_
    refine mp_if_eq (tgt := 27) dX12_falls_21 rfl ⟨by omega, by omega⟩ (fun h2 => ?_) (fun h2 => ?_)
    · have hb := hh d (by omega) (by omega)
      refine mp_aload_n dX12_falls_27 rfl ?_
      refine mp_getfield dX12_falls_28 fsX12_9_11 (mp_lk hA 0 rfl) rfl ?_
      refine mp_iconst dX12_falls_31 ?_
      refine mp_iald dX12_falls_32 (mp_lk hA 1 rfl) ⟨by omega, by omega⟩ (by omega) ?_
      refine mp_bipush dX12_falls_33 rfl ?_
      refine mp_icmp_ne (tgt := 41) dX12_falls_35 rfl ⟨by omega, by omega⟩ ⟨by omega, by omega⟩ (fun h3 => ?_) (fun h3 => ?_)
      · refine mp_aload_n dX12_falls_41 rfl ?_
        refine mp_aload_n dX12_falls_42 rfl ?_
        refine mp_getfield dX12_falls_43 fsX12_34_11 (mp_lk hA 0 rfl) rfl ?_
        refine mp_iload_n dX12_falls_46 rfl ?_
        refine mp_iald dX12_falls_47 (mp_lk hA 9 rfl) ⟨by omega, by omega⟩ (by omega) ?_
        refine mp_aload_n dX12_falls_48 rfl ?_
        refine mp_getfield dX12_falls_49 fsX12_37_11 (mp_lk hA 0 rfl) rfl ?_
        refine mp_iload_n dX12_falls_52 rfl ?_
        refine mp_iald dX12_falls_53 (mp_lk hA 10 rfl) ⟨by omega, by omega⟩ (by omega) ?_
        refine mp_iload_n dX12_falls_54 rfl ?_
        refine mp_iload_n dX12_falls_55 rfl ?_
        refine mp_iload dX12_falls_56 rfl ?_
        refine mp_bipush dX12_falls_58 rfl ?_
        refine mp_invV (z := (mX12_adds, 1, 0, 0)) (K' := (0, 0)) (σ1 := A ++ (mp_ms (sp_adds s (kk d) (kf d) c e f 9) m img was num pro ask kp kk kf so sz el im pl ra re rm rf sd th ++ B)) (as := [mp_i (kk d), mp_i (kf d), mp_i c, mp_i e, mp_i f, mp_i 9]) (st := []) (st1 := []) dX12_falls_60 svX12_138 (mp_lk hA 0 rfl) rfl rfl (zX12_adds (a := (kk d)) (b := (kf d)) (c := c) (e := e) (f := f) (l := 9) (s := s) (m := m) (img := img) (was := was) (num := num) (pro := pro) (ask := ask) (kp := kp) (kk := kk) (kf := kf) (so := so) (sz := sz) (el := el) (im := im) (pl := pl) (ra := ra) (re := re) (rm := rm) (rf := rf) (sd := sd) (th := th) (by first | with_reducible assumption | omega) (by first | with_reducible assumption | omega)) ⟨Nat.le_of_ble_eq_true rfl, Nat.le_of_ble_eq_true rfl, Nat.le_of_ble_eq_true rfl, Nat.le_of_ble_eq_true rfl, Nat.le_of_ble_eq_true rfl⟩ rfl rfl rfl rfl ?_
        refine mp_aload_n dX12_falls_63 rfl ?_
        refine mp_getfield dX12_falls_64 fsX12_9_11 (mp_lk hA 0 rfl) rfl ?_
        refine mp_iconst dX12_falls_67 ?_
        refine mp_iald dX12_falls_68 (mp_lk hA 1 rfl) ⟨by omega, by omega⟩ (by omega) ?_
        refine mp_iconst dX12_falls_69 ?_
        refine mp_isub (z := ((sp_adds s (kk d) (kf d) c e f 9) 0) - 1) dX12_falls_70 (by first | rfl | omega) ?_
        refine mp_top (y := s 0) (by rw [mp_adds_0]; omega) ?_
        exact mp_ireturn (st := []) dX12_falls_71 rfl ⟨by decide, by decide⟩ ((by rw [show sp_falls s kp kk kf d c e f = (s 0, sp_adds s (kk d) (kf d) c e f 9) from by unfold sp_falls; first | (rw [if_pos (by omega)]; done) | (rw [if_neg (by omega)]; done) | (rw [if_neg (by omega), if_pos (by omega)]; done) | (rw [if_neg (by omega), if_neg (by omega)]; done) | (rw [if_neg (by omega), if_neg (by omega), if_pos (by omega)]; done) | (rw [if_neg (by omega), if_neg (by omega), if_neg (by omega)]; done) | (rw [if_neg (by omega), if_neg (by omega), if_neg (by omega), if_pos (by omega)]; done) | (rw [if_neg (by omega), if_neg (by omega), if_neg (by omega), if_neg (by omega)]; done) | (rw [if_neg (by omega), if_neg (by omega), if_neg (by omega), if_neg (by omega), if_pos (by omega)]; done) | (rw [if_neg (by omega), if_neg (by omega), if_neg (by omega), if_neg (by omega), if_neg (by omega)]; done)]))
      · refine mp_bipush dX12_falls_38 rfl ?_
        exact mp_ireturn (st := []) dX12_falls_40 rfl ⟨by decide, by decide⟩ ((by rw [show sp_falls s kp kk kf d c e f = (-2, s) from by unfold sp_falls; first | (rw [if_pos (by omega)]; done) | (rw [if_neg (by omega)]; done) | (rw [if_neg (by omega), if_pos (by omega)]; done) | (rw [if_neg (by omega), if_neg (by omega)]; done) | (rw [if_neg (by omega), if_neg (by omega), if_pos (by omega)]; done) | (rw [if_neg (by omega), if_neg (by omega), if_neg (by omega)]; done) | (rw [if_neg (by omega), if_neg (by omega), if_neg (by omega), if_pos (by omega)]; done) | (rw [if_neg (by omega), if_neg (by omega), if_neg (by omega), if_neg (by omega)]; done) | (rw [if_neg (by omega), if_neg (by omega), if_neg (by omega), if_neg (by omega), if_pos (by omega)]; done) | (rw [if_neg (by omega), if_neg (by omega), if_neg (by omega), if_neg (by omega), if_neg (by omega)]; done)]))
    · refine mp_iload dX12_falls_24 rfl ?_
      exact mp_ireturn (st := []) dX12_falls_26 rfl ⟨by decide, by decide⟩ ((by rw [show sp_falls s kp kk kf d c e f = (sp_wrongKept kp d, s) from by unfold sp_falls; first | (rw [if_pos (by omega)]; done) | (rw [if_neg (by omega)]; done) | (rw [if_neg (by omega), if_pos (by omega)]; done) | (rw [if_neg (by omega), if_neg (by omega)]; done) | (rw [if_neg (by omega), if_neg (by omega), if_pos (by omega)]; done) | (rw [if_neg (by omega), if_neg (by omega), if_neg (by omega)]; done) | (rw [if_neg (by omega), if_neg (by omega), if_neg (by omega), if_pos (by omega)]; done) | (rw [if_neg (by omega), if_neg (by omega), if_neg (by omega), if_neg (by omega)]; done) | (rw [if_neg (by omega), if_neg (by omega), if_neg (by omega), if_neg (by omega), if_pos (by omega)]; done) | (rw [if_neg (by omega), if_neg (by omega), if_neg (by omega), if_neg (by omega), if_neg (by omega)]; done)]))
  · refine mp_iconst dX12_falls_10 ?_
    exact mp_ireturn (st := []) dX12_falls_11 rfl ⟨by decide, by decide⟩ ((by rw [show sp_falls s kp kk kf d c e f = (-1, s) from by unfold sp_falls; first | (rw [if_pos (by omega)]; done) | (rw [if_neg (by omega)]; done) | (rw [if_neg (by omega), if_pos (by omega)]; done) | (rw [if_neg (by omega), if_neg (by omega)]; done) | (rw [if_neg (by omega), if_neg (by omega), if_pos (by omega)]; done) | (rw [if_neg (by omega), if_neg (by omega), if_neg (by omega)]; done) | (rw [if_neg (by omega), if_neg (by omega), if_neg (by omega), if_pos (by omega)]; done) | (rw [if_neg (by omega), if_neg (by omega), if_neg (by omega), if_neg (by omega)]; done) | (rw [if_neg (by omega), if_neg (by omega), if_neg (by omega), if_neg (by omega), if_pos (by omega)]; done) | (rw [if_neg (by omega), if_neg (by omega), if_neg (by omega), if_neg (by omega), if_neg (by omega)]; done)]))
theorem zX12_meant {s m img was num pro ask kp kk kf so sz el : Int → Int} {im pl ra re rm rf sd th : Int} {A B : mp_H}  {k : Int} {l : Int} (hA : A.length = 44) (hs : mp_sky s) (h_k : mp_w k) (h_l : mp_w l) : mp_Call (mX12_meant, 3, 0, 0) [Value.ref 44, mp_i k, mp_i l] (A ++ (mp_ms s m img was num pro ask kp kk kf so sz el im pl ra re rm rf sd th ++ B)) (some (mp_i ((sp_meant s k l).1)), A ++ (mp_ms ((sp_meant s k l).2) m img was num pro ask kp kk kf so sz el im pl ra re rm rf sd th ++ B)) := by
  refine mp_Call.of (L := [some (Value.ref 44), some (mp_i k), some (mp_i l), none]) pnX12 (Nat.le_of_ble_eq_true rfl) rfl ?_
  have h0 := hs.1
  refine mp_aload_n dX12_meant_0 rfl ?_
  refine mp_iload_n dX12_meant_1 rfl ?_
  refine mp_invV (z := (mX12_isMeteor, 1, 0, 0)) (K' := (0, 0)) (σ1 := A ++ (mp_ms s m img was num pro ask kp kk kf so sz el im pl ra re rm rf sd th ++ B)) (as := [mp_i k]) (st := []) (st1 := [mp_i (if 0 ≤ k ∧ k ≤ s 0 - 1 then 1 else 0)]) dX12_meant_2 svX12_158 (mp_lk hA 0 rfl) rfl rfl (zX12_isMeteor (k := k) (s := s) (m := m) (img := img) (was := was) (num := num) (pro := pro) (ask := ask) (kp := kp) (kk := kk) (kf := kf) (so := so) (sz := sz) (el := el) (im := im) (pl := pl) (ra := ra) (re := re) (rm := rm) (rf := rf) (sd := sd) (th := th) (by first | with_reducible assumption | omega) (by first | with_reducible assumption | omega) (by first | with_reducible assumption | omega)) ⟨Nat.le_of_ble_eq_true rfl, Nat.le_of_ble_eq_true rfl, Nat.le_of_ble_eq_true rfl, Nat.le_of_ble_eq_true rfl, Nat.le_of_ble_eq_true rfl⟩ rfl rfl rfl rfl ?_
  refine mp_ifb_eq (tgt := 15) dX12_meant_5 rfl (fun h1 => ?_) (fun h1 => ?_)
  · refine mp_iconst dX12_meant_15 ?_
    exact mp_ireturn (st := []) dX12_meant_16 rfl ⟨by decide, by decide⟩ ((by rw [show sp_meant s k l = (-1, s) from by unfold sp_meant; first | (rw [if_pos (by omega)]; done) | (rw [if_neg (by omega)]; done) | (rw [if_neg (by omega), if_pos (by omega)]; done) | (rw [if_neg (by omega), if_neg (by omega)]; done) | (rw [if_neg (by omega), if_neg (by omega), if_pos (by omega)]; done) | (rw [if_neg (by omega), if_neg (by omega), if_neg (by omega)]; done) | (rw [if_neg (by omega), if_neg (by omega), if_neg (by omega), if_pos (by omega)]; done) | (rw [if_neg (by omega), if_neg (by omega), if_neg (by omega), if_neg (by omega)]; done) | (rw [if_neg (by omega), if_neg (by omega), if_neg (by omega), if_neg (by omega), if_pos (by omega)]; done) | (rw [if_neg (by omega), if_neg (by omega), if_neg (by omega), if_neg (by omega), if_neg (by omega)]; done)]))
  · refine mp_iload_n dX12_meant_8 rfl ?_
    refine mp_invS (z := (mX12_isFor, 2, 0, 0)) (K' := (0, 0)) (σ1 := A ++ (mp_ms s m img was num pro ask kp kk kf so sz el im pl ra re rm rf sd th ++ B)) (as := [mp_i l]) (st := []) (st1 := [mp_i (if (0 ≤ l ∧ l ≤ 4) ∨ l = 9 then 1 else 0)]) dX12_meant_9 ssX12_135 (zX12_isFor (l := l)  (by first | with_reducible assumption | omega)) ⟨Nat.le_of_ble_eq_true rfl, Nat.le_of_ble_eq_true rfl, Nat.le_of_ble_eq_true rfl, Nat.le_of_ble_eq_true rfl, Nat.le_of_ble_eq_true rfl⟩ rfl rfl rfl rfl ?_
    refine mp_ifb_ne (tgt := 17) dX12_meant_12 rfl (fun h2 => ?_) (fun h2 => ?_)
    · refine mp_aload_n dX12_meant_17 rfl ?_
      refine mp_getfield dX12_meant_18 fsX12_9_11 (mp_lk hA 0 rfl) rfl ?_
      refine mp_iload_n dX12_meant_21 rfl ?_
      refine mp_iconst dX12_meant_22 ?_
      refine mp_invS (z := (mX12_of, 0, 0, 0)) (K' := (0, 0)) (σ1 := A ++ (mp_ms s m img was num pro ask kp kk kf so sz el im pl ra re rm rf sd th ++ B)) (as := [mp_i k, mp_i 5]) (st := [Value.ref 45]) (st1 := [mp_i (1 + 6 * k + 5), Value.ref 45]) dX12_meant_23 ssX12_60 (zX12_of (k := k) (x := 5)  ) ⟨Nat.le_of_ble_eq_true rfl, Nat.le_of_ble_eq_true rfl, Nat.le_of_ble_eq_true rfl, Nat.le_of_ble_eq_true rfl, Nat.le_of_ble_eq_true rfl⟩ rfl rfl rfl rfl ?_
      refine mp_iald dX12_meant_26 (mp_lk hA 1 rfl) ⟨by omega, by omega⟩ (by omega) ?_
      refine mp_istore_n (L' := [some (Value.ref 44), some (mp_i k), some (mp_i l), some (mp_i (s (1 + 6 * k + 5)))]) dX12_meant_27 rfl (by decide) rfl ?_
      refine mp_aload_n dX12_meant_28 rfl ?_
      refine mp_getfield dX12_meant_29 fsX12_9_11 (mp_lk hA 0 rfl) rfl ?_
      refine mp_iload_n dX12_meant_32 rfl ?_
      refine mp_iconst dX12_meant_33 ?_
      refine mp_invS (z := (mX12_of, 0, 0, 0)) (K' := (0, 0)) (σ1 := A ++ (mp_ms s m img was num pro ask kp kk kf so sz el im pl ra re rm rf sd th ++ B)) (as := [mp_i k, mp_i 5]) (st := [Value.ref 45]) (st1 := [mp_i (1 + 6 * k + 5), Value.ref 45]) dX12_meant_34 ssX12_60 (zX12_of (k := k) (x := 5)  ) ⟨Nat.le_of_ble_eq_true rfl, Nat.le_of_ble_eq_true rfl, Nat.le_of_ble_eq_true rfl, Nat.le_of_ble_eq_true rfl, Nat.le_of_ble_eq_true rfl⟩ rfl rfl rfl rfl ?_
      refine mp_iload_n dX12_meant_37 rfl ?_
      refine mp_iast (σ' := A ++ (mp_ms (mp_ud s (1 + 6 * k + 5) l) m img was num pro ask kp kk kf so sz el im pl ra re rm rf sd th ++ B)) dX12_meant_38 (mp_lk hA 1 rfl) (by decide) ⟨by omega, by omega⟩ (by decide) (mp_sts (Ms' := mp_ms (mp_ud s (1 + 6 * k + 5) l) m img was num pro ask kp kk kf so sz el im pl ra re rm rf sd th) hA 1 (Nat.le_of_ble_eq_true rfl) rfl) ?_
      refine mp_iload_n dX12_meant_39 rfl ?_
      exact mp_ireturn (st := []) dX12_meant_40 rfl ⟨by decide, by decide⟩ ((by rw [show sp_meant s k l = (s (1 + 6 * k + 5), mp_ud s (1 + 6 * k + 5) l) from by unfold sp_meant; first | (rw [if_pos (by omega)]; done) | (rw [if_neg (by omega)]; done) | (rw [if_neg (by omega), if_pos (by omega)]; done) | (rw [if_neg (by omega), if_neg (by omega)]; done) | (rw [if_neg (by omega), if_neg (by omega), if_pos (by omega)]; done) | (rw [if_neg (by omega), if_neg (by omega), if_neg (by omega)]; done) | (rw [if_neg (by omega), if_neg (by omega), if_neg (by omega), if_pos (by omega)]; done) | (rw [if_neg (by omega), if_neg (by omega), if_neg (by omega), if_neg (by omega)]; done) | (rw [if_neg (by omega), if_neg (by omega), if_neg (by omega), if_neg (by omega), if_pos (by omega)]; done) | (rw [if_neg (by omega), if_neg (by omega), if_neg (by omega), if_neg (by omega), if_neg (by omega)]; done)]))
    · refine mp_iconst dX12_meant_15 ?_
      exact mp_ireturn (st := []) dX12_meant_16 rfl ⟨by decide, by decide⟩ ((by rw [show sp_meant s k l = (-1, s) from by unfold sp_meant; first | (rw [if_pos (by omega)]; done) | (rw [if_neg (by omega)]; done) | (rw [if_neg (by omega), if_pos (by omega)]; done) | (rw [if_neg (by omega), if_neg (by omega)]; done) | (rw [if_neg (by omega), if_neg (by omega), if_pos (by omega)]; done) | (rw [if_neg (by omega), if_neg (by omega), if_neg (by omega)]; done) | (rw [if_neg (by omega), if_neg (by omega), if_neg (by omega), if_pos (by omega)]; done) | (rw [if_neg (by omega), if_neg (by omega), if_neg (by omega), if_neg (by omega)]; done) | (rw [if_neg (by omega), if_neg (by omega), if_neg (by omega), if_neg (by omega), if_pos (by omega)]; done) | (rw [if_neg (by omega), if_neg (by omega), if_neg (by omega), if_neg (by omega), if_neg (by omega)]; done)]))
theorem zX12_looks {s m img was num pro ask kp kk kf so sz el : Int → Int} {im pl ra re rm rf sd th : Int} {A B : mp_H}  {l : Int} {a : Int} {b : Int} (hA : A.length = 44) (hs : mp_sky s) (h_l : mp_w l) (h_a : mp_w a) (h_b : mp_w b) : mp_Call (mX12_looks, 2, 0, 0) [Value.ref 44, mp_i l, mp_i a, mp_i b] (A ++ (mp_ms s m img was num pro ask kp kk kf so sz el im pl ra re rm rf sd th ++ B)) (some (mp_i ((sp_looks s l a b).1)), A ++ (mp_ms ((sp_looks s l a b).2) m img was num pro ask kp kk kf so sz el im pl ra re rm rf sd th ++ B)) := by
  refine mp_Call.of (L := [some (Value.ref 44), some (mp_i l), some (mp_i a), some (mp_i b), none]) pnX12 (Nat.le_of_ble_eq_true rfl) rfl ?_
  have h0 := hs.1
  refine mp_iload_n dX12_looks_0 rfl ?_
  refine mp_invS (z := (mX12_isLooker, 1, 0, 0)) (K' := (0, 0)) (σ1 := A ++ (mp_ms s m img was num pro ask kp kk kf so sz el im pl ra re rm rf sd th ++ B)) (as := [mp_i l]) (st := []) (st1 := [mp_i (if 0 ≤ l ∧ l ≤ 4 then 1 else 0)]) dX12_looks_1 ssX12_128 (zX12_isLooker (l := l)  (by first | with_reducible assumption | omega)) ⟨Nat.le_of_ble_eq_true rfl, Nat.le_of_ble_eq_true rfl, Nat.le_of_ble_eq_true rfl, Nat.le_of_ble_eq_true rfl, Nat.le_of_ble_eq_true rfl⟩ rfl rfl rfl rfl ?_
  refine mp_ifb_eq (tgt := 27) dX12_looks_4 rfl (fun h1 => ?_) (fun h1 => ?_)
  · refine mp_iconst dX12_looks_27 ?_
    exact mp_ireturn (st := []) dX12_looks_28 rfl ⟨by decide, by decide⟩ ((by rw [show sp_looks s l a b = (-1, s) from by unfold sp_looks; first | (rw [if_pos (by omega)]; done) | (rw [if_neg (by omega)]; done) | (rw [if_neg (by omega), if_pos (by omega)]; done) | (rw [if_neg (by omega), if_neg (by omega)]; done) | (rw [if_neg (by omega), if_neg (by omega), if_pos (by omega)]; done) | (rw [if_neg (by omega), if_neg (by omega), if_neg (by omega)]; done) | (rw [if_neg (by omega), if_neg (by omega), if_neg (by omega), if_pos (by omega)]; done) | (rw [if_neg (by omega), if_neg (by omega), if_neg (by omega), if_neg (by omega)]; done) | (rw [if_neg (by omega), if_neg (by omega), if_neg (by omega), if_neg (by omega), if_pos (by omega)]; done) | (rw [if_neg (by omega), if_neg (by omega), if_neg (by omega), if_neg (by omega), if_neg (by omega)]; done)]))
  · refine mp_iload_n dX12_looks_7 rfl ?_
    refine mp_iconst dX12_looks_8 ?_
    refine mp_bipush dX12_looks_9 rfl ?_
    refine mp_invS (z := (mX12_isIn, 0, 0, 0)) (K' := (0, 0)) (σ1 := A ++ (mp_ms s m img was num pro ask kp kk kf so sz el im pl ra re rm rf sd th ++ B)) (as := [mp_i a, mp_i 0, mp_i 15]) (st := []) (st1 := [mp_i (if 0 ≤ a ∧ a ≤ 15 then 1 else 0)]) dX12_looks_11 ssX12_53 (zX12_isIn (v := a) (a := 0) (b := 15)  (by first | with_reducible assumption | omega) (by first | with_reducible assumption | omega) (by first | with_reducible assumption | omega)) ⟨Nat.le_of_ble_eq_true rfl, Nat.le_of_ble_eq_true rfl, Nat.le_of_ble_eq_true rfl, Nat.le_of_ble_eq_true rfl, Nat.le_of_ble_eq_true rfl⟩ rfl rfl rfl rfl ?_
    refine mp_ifb_eq (tgt := 27) dX12_looks_14 rfl (fun h2 => ?_) (fun h2 => ?_)
    · refine mp_iconst dX12_looks_27 ?_
      exact mp_ireturn (st := []) dX12_looks_28 rfl ⟨by decide, by decide⟩ ((by rw [show sp_looks s l a b = (-1, s) from by unfold sp_looks; first | (rw [if_pos (by omega)]; done) | (rw [if_neg (by omega)]; done) | (rw [if_neg (by omega), if_pos (by omega)]; done) | (rw [if_neg (by omega), if_neg (by omega)]; done) | (rw [if_neg (by omega), if_neg (by omega), if_pos (by omega)]; done) | (rw [if_neg (by omega), if_neg (by omega), if_neg (by omega)]; done) | (rw [if_neg (by omega), if_neg (by omega), if_neg (by omega), if_pos (by omega)]; done) | (rw [if_neg (by omega), if_neg (by omega), if_neg (by omega), if_neg (by omega)]; done) | (rw [if_neg (by omega), if_neg (by omega), if_neg (by omega), if_neg (by omega), if_pos (by omega)]; done) | (rw [if_neg (by omega), if_neg (by omega), if_neg (by omega), if_neg (by omega), if_neg (by omega)]; done)]))
    · refine mp_iload_n dX12_looks_17 rfl ?_
      refine mp_iconst dX12_looks_18 ?_
      refine mp_bipush dX12_looks_19 rfl ?_
      refine mp_invS (z := (mX12_isIn, 0, 0, 0)) (K' := (0, 0)) (σ1 := A ++ (mp_ms s m img was num pro ask kp kk kf so sz el im pl ra re rm rf sd th ++ B)) (as := [mp_i b, mp_i 0, mp_i 9]) (st := []) (st1 := [mp_i (if 0 ≤ b ∧ b ≤ 9 then 1 else 0)]) dX12_looks_21 ssX12_53 (zX12_isIn (v := b) (a := 0) (b := 9)  (by first | with_reducible assumption | omega) (by first | with_reducible assumption | omega) (by first | with_reducible assumption | omega)) ⟨Nat.le_of_ble_eq_true rfl, Nat.le_of_ble_eq_true rfl, Nat.le_of_ble_eq_true rfl, Nat.le_of_ble_eq_true rfl, Nat.le_of_ble_eq_true rfl⟩ rfl rfl rfl rfl ?_
      refine mp_ifb_ne (tgt := 29) dX12_looks_24 rfl (fun h3 => ?_) (fun h3 => ?_)
      · refine mp_aload_n dX12_looks_29 rfl ?_
        refine mp_getfield dX12_looks_30 fsX12_9_11 (mp_lk hA 0 rfl) rfl ?_
        refine mp_iload_n dX12_looks_33 rfl ?_
        refine mp_iconst dX12_looks_34 ?_
        refine mp_invS (z := (mX12_by, 0, 0, 0)) (K' := (0, 0)) (σ1 := A ++ (mp_ms s m img was num pro ask kp kk kf so sz el im pl ra re rm rf sd th ++ B)) (as := [mp_i l, mp_i 0]) (st := [Value.ref 45]) (st1 := [mp_i (49 + 3 * l + 0), Value.ref 45]) dX12_looks_35 ssX12_49 (zX12_by (l := l) (x := 0)  ) ⟨Nat.le_of_ble_eq_true rfl, Nat.le_of_ble_eq_true rfl, Nat.le_of_ble_eq_true rfl, Nat.le_of_ble_eq_true rfl, Nat.le_of_ble_eq_true rfl⟩ rfl rfl rfl rfl ?_
        refine mp_iald dX12_looks_38 (mp_lk hA 1 rfl) ⟨by omega, by omega⟩ (by omega) ?_
        refine mp_istore (L' := [some (Value.ref 44), some (mp_i l), some (mp_i a), some (mp_i b), some (mp_i (s (49 + 3 * l + 0)))]) dX12_looks_39 (by decide) rfl ?_
        refine mp_aload_n dX12_looks_41 rfl ?_
        refine mp_getfield dX12_looks_42 fsX12_9_11 (mp_lk hA 0 rfl) rfl ?_
        refine mp_iload_n dX12_looks_45 rfl ?_
        refine mp_iconst dX12_looks_46 ?_
        refine mp_invS (z := (mX12_by, 0, 0, 0)) (K' := (0, 0)) (σ1 := A ++ (mp_ms s m img was num pro ask kp kk kf so sz el im pl ra re rm rf sd th ++ B)) (as := [mp_i l, mp_i 0]) (st := [Value.ref 45]) (st1 := [mp_i (49 + 3 * l + 0), Value.ref 45]) dX12_looks_47 ssX12_49 (zX12_by (l := l) (x := 0)  ) ⟨Nat.le_of_ble_eq_true rfl, Nat.le_of_ble_eq_true rfl, Nat.le_of_ble_eq_true rfl, Nat.le_of_ble_eq_true rfl, Nat.le_of_ble_eq_true rfl⟩ rfl rfl rfl rfl ?_
        refine mp_iload_n dX12_looks_50 rfl ?_
        refine mp_iast (σ' := A ++ (mp_ms (mp_ud s (49 + 3 * l + 0) a) m img was num pro ask kp kk kf so sz el im pl ra re rm rf sd th ++ B)) dX12_looks_51 (mp_lk hA 1 rfl) (by decide) ⟨by omega, by omega⟩ (by decide) (mp_sts (Ms' := mp_ms (mp_ud s (49 + 3 * l + 0) a) m img was num pro ask kp kk kf so sz el im pl ra re rm rf sd th) hA 1 (Nat.le_of_ble_eq_true rfl) rfl) ?_
        refine mp_aload_n dX12_looks_52 rfl ?_
        refine mp_getfield dX12_looks_53 fsX12_9_11 (mp_lk hA 0 rfl) rfl ?_
        refine mp_iload_n dX12_looks_56 rfl ?_
        refine mp_iconst dX12_looks_57 ?_
        refine mp_invS (z := (mX12_by, 0, 0, 0)) (K' := (0, 0)) (σ1 := A ++ (mp_ms (mp_ud s (49 + 3 * l + 0) a) m img was num pro ask kp kk kf so sz el im pl ra re rm rf sd th ++ B)) (as := [mp_i l, mp_i 1]) (st := [Value.ref 45]) (st1 := [mp_i (49 + 3 * l + 1), Value.ref 45]) dX12_looks_58 ssX12_49 (zX12_by (l := l) (x := 1)  ) ⟨Nat.le_of_ble_eq_true rfl, Nat.le_of_ble_eq_true rfl, Nat.le_of_ble_eq_true rfl, Nat.le_of_ble_eq_true rfl, Nat.le_of_ble_eq_true rfl⟩ rfl rfl rfl rfl ?_
        refine mp_iload_n dX12_looks_61 rfl ?_
        refine mp_iast (σ' := A ++ (mp_ms (mp_ud (mp_ud s (49 + 3 * l + 0) a) (49 + 3 * l + 1) b) m img was num pro ask kp kk kf so sz el im pl ra re rm rf sd th ++ B)) dX12_looks_62 (mp_lk hA 1 rfl) (by decide) ⟨by omega, by omega⟩ (by decide) (mp_sts (Ms' := mp_ms (mp_ud (mp_ud s (49 + 3 * l + 0) a) (49 + 3 * l + 1) b) m img was num pro ask kp kk kf so sz el im pl ra re rm rf sd th) hA 1 (Nat.le_of_ble_eq_true rfl) rfl) ?_
        refine mp_iload dX12_looks_63 rfl ?_
        exact mp_ireturn (st := []) dX12_looks_65 rfl ⟨by decide, by decide⟩ ((by rw [show sp_looks s l a b = (s (49 + 3 * l + 0), mp_ud (mp_ud s (49 + 3 * l + 0) a) (49 + 3 * l + 1) b) from by unfold sp_looks; first | (rw [if_pos (by omega)]; done) | (rw [if_neg (by omega)]; done) | (rw [if_neg (by omega), if_pos (by omega)]; done) | (rw [if_neg (by omega), if_neg (by omega)]; done) | (rw [if_neg (by omega), if_neg (by omega), if_pos (by omega)]; done) | (rw [if_neg (by omega), if_neg (by omega), if_neg (by omega)]; done) | (rw [if_neg (by omega), if_neg (by omega), if_neg (by omega), if_pos (by omega)]; done) | (rw [if_neg (by omega), if_neg (by omega), if_neg (by omega), if_neg (by omega)]; done) | (rw [if_neg (by omega), if_neg (by omega), if_neg (by omega), if_neg (by omega), if_pos (by omega)]; done) | (rw [if_neg (by omega), if_neg (by omega), if_neg (by omega), if_neg (by omega), if_neg (by omega)]; done)]))
      · refine mp_iconst dX12_looks_27 ?_
        exact mp_ireturn (st := []) dX12_looks_28 rfl ⟨by decide, by decide⟩ ((by rw [show sp_looks s l a b = (-1, s) from by unfold sp_looks; first | (rw [if_pos (by omega)]; done) | (rw [if_neg (by omega)]; done) | (rw [if_neg (by omega), if_pos (by omega)]; done) | (rw [if_neg (by omega), if_neg (by omega)]; done) | (rw [if_neg (by omega), if_neg (by omega), if_pos (by omega)]; done) | (rw [if_neg (by omega), if_neg (by omega), if_neg (by omega)]; done) | (rw [if_neg (by omega), if_neg (by omega), if_neg (by omega), if_pos (by omega)]; done) | (rw [if_neg (by omega), if_neg (by omega), if_neg (by omega), if_neg (by omega)]; done) | (rw [if_neg (by omega), if_neg (by omega), if_neg (by omega), if_neg (by omega), if_pos (by omega)]; done) | (rw [if_neg (by omega), if_neg (by omega), if_neg (by omega), if_neg (by omega), if_neg (by omega)]; done)]))
theorem zX12_run {s m img was num pro ask kp kk kf so sz el : Int → Int} {im pl ra re rm rf sd th : Int} {A B : mp_H}  {w : Int} (hA : A.length = 44) (hs : mp_sky s) (h_w : mp_w w) : mp_Call (mX12_run, 6, 0, 0) [Value.ref 44, mp_i w] (A ++ (mp_ms s m img was num pro ask kp kk kf so sz el im pl ra re rm rf sd th ++ B)) (some (mp_i ((sp_run s w).1)), A ++ (mp_ms ((sp_run s w).2) m img was num pro ask kp kk kf so sz el im pl ra re rm rf sd th ++ B)) := by
  refine mp_Call.of (L := [some (Value.ref 44), some (mp_i w)]) pnX12 (Nat.le_of_ble_eq_true rfl) rfl ?_
  have h0 := hs.1
  refine mp_iload_n dX12_run_0 rfl ?_
  refine mp_iconst dX12_run_1 ?_
  refine mp_bipush dX12_run_2 rfl ?_
  refine mp_invS (z := (mX12_isIn, 0, 0, 0)) (K' := (0, 0)) (σ1 := A ++ (mp_ms s m img was num pro ask kp kk kf so sz el im pl ra re rm rf sd th ++ B)) (as := [mp_i w, mp_i 0, mp_i 30]) (st := []) (st1 := [mp_i (if 0 ≤ w ∧ w ≤ 30 then 1 else 0)]) dX12_run_4 ssX12_53 (zX12_isIn (v := w) (a := 0) (b := 30)  (by first | with_reducible assumption | omega) (by first | with_reducible assumption | omega) (by first | with_reducible assumption | omega)) ⟨Nat.le_of_ble_eq_true rfl, Nat.le_of_ble_eq_true rfl, Nat.le_of_ble_eq_true rfl, Nat.le_of_ble_eq_true rfl, Nat.le_of_ble_eq_true rfl⟩ rfl rfl rfl rfl ?_
  refine mp_ifb_eq (tgt := 21) dX12_run_7 rfl (fun h1 => ?_) (fun h1 => ?_)
  · refine mp_iconst dX12_run_21 ?_
    exact mp_ireturn (st := []) dX12_run_22 rfl ⟨by decide, by decide⟩ ((by rw [show sp_run s w = (-1, s) from by unfold sp_run; first | (rw [if_pos (by omega)]; done) | (rw [if_neg (by omega)]; done) | (rw [if_neg (by omega), if_pos (by omega)]; done) | (rw [if_neg (by omega), if_neg (by omega)]; done) | (rw [if_neg (by omega), if_neg (by omega), if_pos (by omega)]; done) | (rw [if_neg (by omega), if_neg (by omega), if_neg (by omega)]; done) | (rw [if_neg (by omega), if_neg (by omega), if_neg (by omega), if_pos (by omega)]; done) | (rw [if_neg (by omega), if_neg (by omega), if_neg (by omega), if_neg (by omega)]; done) | (rw [if_neg (by omega), if_neg (by omega), if_neg (by omega), if_neg (by omega), if_pos (by omega)]; done) | (rw [if_neg (by omega), if_neg (by omega), if_neg (by omega), if_neg (by omega), if_neg (by omega)]; done)]))
  · refine mp_aload_n dX12_run_10 rfl ?_
    refine mp_getfield dX12_run_11 fsX12_9_11 (mp_lk hA 0 rfl) rfl ?_
    refine mp_iload_n dX12_run_14 rfl ?_
    refine mp_invS (z := (mX12_runs, 5, 0, 0)) (K' := (0, 0)) (σ1 := A ++ (mp_ms ((sp_runs s w).1) m img was num pro ask kp kk kf so sz el im pl ra re rm rf sd th ++ B)) (as := [Value.ref 45, mp_i w]) (st := []) (st1 := [mp_i ((sp_runs s w).2)]) dX12_run_15 ssX12_142 (mp_Call.cast (zX12_runs (r := 45) (w := w) (s := s) (mp_lk hA 1 rfl) (by first | with_reducible assumption | omega) (by first | with_reducible assumption | omega) (by first | with_reducible assumption | omega)) rfl (congrArg (Prod.mk _) (mp_sts (Ms' := mp_ms ((sp_runs s w).1) m img was num pro ask kp kk kf so sz el im pl ra re rm rf sd th) hA 1 (Nat.le_of_ble_eq_true rfl) rfl))) ⟨Nat.le_of_ble_eq_true rfl, Nat.le_of_ble_eq_true rfl, Nat.le_of_ble_eq_true rfl, Nat.le_of_ble_eq_true rfl, Nat.le_of_ble_eq_true rfl⟩ rfl rfl rfl rfl ?_
    refine mp_goto (tgt := 22) dX12_run_18 rfl ?_
    exact mp_ireturn (st := []) dX12_run_22 rfl ⟨by decide, by decide⟩ ((by rw [show sp_run s w = ((sp_runs s w).2, (sp_runs s w).1) from by unfold sp_run; first | (rw [if_pos (by omega)]; done) | (rw [if_neg (by omega)]; done) | (rw [if_neg (by omega), if_pos (by omega)]; done) | (rw [if_neg (by omega), if_neg (by omega)]; done) | (rw [if_neg (by omega), if_neg (by omega), if_pos (by omega)]; done) | (rw [if_neg (by omega), if_neg (by omega), if_neg (by omega)]; done) | (rw [if_neg (by omega), if_neg (by omega), if_neg (by omega), if_pos (by omega)]; done) | (rw [if_neg (by omega), if_neg (by omega), if_neg (by omega), if_neg (by omega)]; done) | (rw [if_neg (by omega), if_neg (by omega), if_neg (by omega), if_neg (by omega), if_pos (by omega)]; done) | (rw [if_neg (by omega), if_neg (by omega), if_neg (by omega), if_neg (by omega), if_neg (by omega)]; done)]))
theorem zX12_free {s m img was num pro ask kp kk kf so sz el : Int → Int} {im pl ra re rm rf sd th : Int} {A B : mp_H}  {l : Int} (hA : A.length = 44) (hs : mp_sky s) (h_l : mp_w l) : mp_Call (mX12_free, 2, 0, 0) [Value.ref 44, mp_i l] (A ++ (mp_ms s m img was num pro ask kp kk kf so sz el im pl ra re rm rf sd th ++ B)) (some (mp_i ((sp_free s l).1)), A ++ (mp_ms ((sp_free s l).2) m img was num pro ask kp kk kf so sz el im pl ra re rm rf sd th ++ B)) := by
  refine mp_Call.of (L := [some (Value.ref 44), some (mp_i l), none]) pnX12 (Nat.le_of_ble_eq_true rfl) rfl ?_
  have h0 := hs.1
  refine mp_iload_n dX12_free_0 rfl ?_
  refine mp_invS (z := (mX12_isLooker, 1, 0, 0)) (K' := (0, 0)) (σ1 := A ++ (mp_ms s m img was num pro ask kp kk kf so sz el im pl ra re rm rf sd th ++ B)) (as := [mp_i l]) (st := []) (st1 := [mp_i (if 0 ≤ l ∧ l ≤ 4 then 1 else 0)]) dX12_free_1 ssX12_128 (zX12_isLooker (l := l)  (by first | with_reducible assumption | omega)) ⟨Nat.le_of_ble_eq_true rfl, Nat.le_of_ble_eq_true rfl, Nat.le_of_ble_eq_true rfl, Nat.le_of_ble_eq_true rfl, Nat.le_of_ble_eq_true rfl⟩ rfl rfl rfl rfl ?_
  refine mp_ifb_ne (tgt := 9) dX12_free_4 rfl (fun h1 => ?_) (fun h1 => ?_)
  · refine mp_aload_n dX12_free_9 rfl ?_
    refine mp_getfield dX12_free_10 fsX12_9_11 (mp_lk hA 0 rfl) rfl ?_
    refine mp_iload_n dX12_free_13 rfl ?_
    refine mp_iconst dX12_free_14 ?_
    refine mp_invS (z := (mX12_by, 0, 0, 0)) (K' := (0, 0)) (σ1 := A ++ (mp_ms s m img was num pro ask kp kk kf so sz el im pl ra re rm rf sd th ++ B)) (as := [mp_i l, mp_i 2]) (st := [Value.ref 45]) (st1 := [mp_i (49 + 3 * l + 2), Value.ref 45]) dX12_free_15 ssX12_49 (zX12_by (l := l) (x := 2)  ) ⟨Nat.le_of_ble_eq_true rfl, Nat.le_of_ble_eq_true rfl, Nat.le_of_ble_eq_true rfl, Nat.le_of_ble_eq_true rfl, Nat.le_of_ble_eq_true rfl⟩ rfl rfl rfl rfl ?_
    refine mp_iald dX12_free_18 (mp_lk hA 1 rfl) ⟨by omega, by omega⟩ (by omega) ?_
    refine mp_istore_n (L' := [some (Value.ref 44), some (mp_i l), some (mp_i (s (49 + 3 * l + 2)))]) dX12_free_19 rfl (by decide) rfl ?_
    refine mp_aload_n dX12_free_20 rfl ?_
    refine mp_getfield dX12_free_21 fsX12_9_11 (mp_lk hA 0 rfl) rfl ?_
    refine mp_iload_n dX12_free_24 rfl ?_
    refine mp_iconst dX12_free_25 ?_
    refine mp_invS (z := (mX12_by, 0, 0, 0)) (K' := (0, 0)) (σ1 := A ++ (mp_ms s m img was num pro ask kp kk kf so sz el im pl ra re rm rf sd th ++ B)) (as := [mp_i l, mp_i 2]) (st := [Value.ref 45]) (st1 := [mp_i (49 + 3 * l + 2), Value.ref 45]) dX12_free_26 ssX12_49 (zX12_by (l := l) (x := 2)  ) ⟨Nat.le_of_ble_eq_true rfl, Nat.le_of_ble_eq_true rfl, Nat.le_of_ble_eq_true rfl, Nat.le_of_ble_eq_true rfl, Nat.le_of_ble_eq_true rfl⟩ rfl rfl rfl rfl ?_
    refine mp_bipush dX12_free_29 rfl ?_
    refine mp_iast (σ' := A ++ (mp_ms (mp_ud s (49 + 3 * l + 2) 9) m img was num pro ask kp kk kf so sz el im pl ra re rm rf sd th ++ B)) dX12_free_31 (mp_lk hA 1 rfl) (by decide) ⟨by omega, by omega⟩ (by decide) (mp_sts (Ms' := mp_ms (mp_ud s (49 + 3 * l + 2) 9) m img was num pro ask kp kk kf so sz el im pl ra re rm rf sd th) hA 1 (Nat.le_of_ble_eq_true rfl) rfl) ?_
    refine mp_iload_n dX12_free_32 rfl ?_
    exact mp_ireturn (st := []) dX12_free_33 rfl ⟨by decide, by decide⟩ ((by rw [show sp_free s l = (s (49 + 3 * l + 2), mp_ud s (49 + 3 * l + 2) 9) from by unfold sp_free; first | (rw [if_pos (by omega)]; done) | (rw [if_neg (by omega)]; done) | (rw [if_neg (by omega), if_pos (by omega)]; done) | (rw [if_neg (by omega), if_neg (by omega)]; done) | (rw [if_neg (by omega), if_neg (by omega), if_pos (by omega)]; done) | (rw [if_neg (by omega), if_neg (by omega), if_neg (by omega)]; done) | (rw [if_neg (by omega), if_neg (by omega), if_neg (by omega), if_pos (by omega)]; done) | (rw [if_neg (by omega), if_neg (by omega), if_neg (by omega), if_neg (by omega)]; done) | (rw [if_neg (by omega), if_neg (by omega), if_neg (by omega), if_neg (by omega), if_pos (by omega)]; done) | (rw [if_neg (by omega), if_neg (by omega), if_neg (by omega), if_neg (by omega), if_neg (by omega)]; done)]))
  · refine mp_iconst dX12_free_7 ?_
    exact mp_ireturn (st := []) dX12_free_8 rfl ⟨by decide, by decide⟩ ((by rw [show sp_free s l = (-1, s) from by unfold sp_free; first | (rw [if_pos (by omega)]; done) | (rw [if_neg (by omega)]; done) | (rw [if_neg (by omega), if_pos (by omega)]; done) | (rw [if_neg (by omega), if_neg (by omega)]; done) | (rw [if_neg (by omega), if_neg (by omega), if_pos (by omega)]; done) | (rw [if_neg (by omega), if_neg (by omega), if_neg (by omega)]; done) | (rw [if_neg (by omega), if_neg (by omega), if_neg (by omega), if_pos (by omega)]; done) | (rw [if_neg (by omega), if_neg (by omega), if_neg (by omega), if_neg (by omega)]; done) | (rw [if_neg (by omega), if_neg (by omega), if_neg (by omega), if_neg (by omega), if_pos (by omega)]; done) | (rw [if_neg (by omega), if_neg (by omega), if_neg (by omega), if_neg (by omega), if_neg (by omega)]; done)]))
theorem zX12_seen {s m img was num pro ask kp kk kf so sz el : Int → Int} {im pl ra re rm rf sd th : Int} {A B : mp_H}  {l : Int} {k : Int} {w : Int} (hA : A.length = 44) (hs : mp_sky s) (h_l : mp_w l) (h_k : mp_w k) (h_w : mp_w w) : mp_Call (mX12_seen, 4, 0, 0) [Value.ref 44, mp_i l, mp_i k, mp_i w] (A ++ (mp_ms s m img was num pro ask kp kk kf so sz el im pl ra re rm rf sd th ++ B)) (some (mp_i (sp_seenC s l k w)), A ++ (mp_ms s m img was num pro ask kp kk kf so sz el im pl ra re rm rf sd th ++ B)) := by
  refine mp_Call.of (L := [some (Value.ref 44), some (mp_i l), some (mp_i k), some (mp_i w)]) pnX12 (Nat.le_of_ble_eq_true rfl) rfl ?_
  have h0 := hs.1
  refine mp_iload_n dX12_seen_0 rfl ?_
  refine mp_invS (z := (mX12_isLooker, 1, 0, 0)) (K' := (0, 0)) (σ1 := A ++ (mp_ms s m img was num pro ask kp kk kf so sz el im pl ra re rm rf sd th ++ B)) (as := [mp_i l]) (st := []) (st1 := [mp_i (if 0 ≤ l ∧ l ≤ 4 then 1 else 0)]) dX12_seen_1 ssX12_128 (zX12_isLooker (l := l)  (by first | with_reducible assumption | omega)) ⟨Nat.le_of_ble_eq_true rfl, Nat.le_of_ble_eq_true rfl, Nat.le_of_ble_eq_true rfl, Nat.le_of_ble_eq_true rfl, Nat.le_of_ble_eq_true rfl⟩ rfl rfl rfl rfl ?_
  refine mp_ifb_eq (tgt := 24) dX12_seen_4 rfl (fun h1 => ?_) (fun h1 => ?_)
  · refine mp_iconst dX12_seen_24 ?_
    exact mp_ireturn (st := []) dX12_seen_25 rfl ⟨by decide, by decide⟩ ((mp_ans (by first | with_reducible rfl | (unfold sp_seenC; omega) | (unfold sp_seenC; first | (rw [if_pos (by omega)]; done) | (rw [if_neg (by omega)]; done) | (rw [if_neg (by omega), if_pos (by omega)]; done) | (rw [if_neg (by omega), if_neg (by omega)]; done) | (rw [if_neg (by omega), if_neg (by omega), if_pos (by omega)]; done) | (rw [if_neg (by omega), if_neg (by omega), if_neg (by omega)]; done) | (rw [if_neg (by omega), if_neg (by omega), if_neg (by omega), if_pos (by omega)]; done) | (rw [if_neg (by omega), if_neg (by omega), if_neg (by omega), if_neg (by omega)]; done) | (rw [if_neg (by omega), if_neg (by omega), if_neg (by omega), if_neg (by omega), if_pos (by omega)]; done) | (rw [if_neg (by omega), if_neg (by omega), if_neg (by omega), if_neg (by omega), if_neg (by omega)]; done)))))
  · refine mp_aload_n dX12_seen_7 rfl ?_
    refine mp_iload_n dX12_seen_8 rfl ?_
    refine mp_invV (z := (mX12_isMeteor, 1, 0, 0)) (K' := (0, 0)) (σ1 := A ++ (mp_ms s m img was num pro ask kp kk kf so sz el im pl ra re rm rf sd th ++ B)) (as := [mp_i k]) (st := []) (st1 := [mp_i (if 0 ≤ k ∧ k ≤ s 0 - 1 then 1 else 0)]) dX12_seen_9 svX12_158 (mp_lk hA 0 rfl) rfl rfl (zX12_isMeteor (k := k) (s := s) (m := m) (img := img) (was := was) (num := num) (pro := pro) (ask := ask) (kp := kp) (kk := kk) (kf := kf) (so := so) (sz := sz) (el := el) (im := im) (pl := pl) (ra := ra) (re := re) (rm := rm) (rf := rf) (sd := sd) (th := th) (by first | with_reducible assumption | omega) (by first | with_reducible assumption | omega) (by first | with_reducible assumption | omega)) ⟨Nat.le_of_ble_eq_true rfl, Nat.le_of_ble_eq_true rfl, Nat.le_of_ble_eq_true rfl, Nat.le_of_ble_eq_true rfl, Nat.le_of_ble_eq_true rfl⟩ rfl rfl rfl rfl ?_
    refine mp_ifb_eq (tgt := 24) dX12_seen_12 rfl (fun h2 => ?_) (fun h2 => ?_)
    · refine mp_iconst dX12_seen_24 ?_
      exact mp_ireturn (st := []) dX12_seen_25 rfl ⟨by decide, by decide⟩ ((mp_ans (by first | with_reducible rfl | (unfold sp_seenC; omega) | (unfold sp_seenC; first | (rw [if_pos (by omega)]; done) | (rw [if_neg (by omega)]; done) | (rw [if_neg (by omega), if_pos (by omega)]; done) | (rw [if_neg (by omega), if_neg (by omega)]; done) | (rw [if_neg (by omega), if_neg (by omega), if_pos (by omega)]; done) | (rw [if_neg (by omega), if_neg (by omega), if_neg (by omega)]; done) | (rw [if_neg (by omega), if_neg (by omega), if_neg (by omega), if_pos (by omega)]; done) | (rw [if_neg (by omega), if_neg (by omega), if_neg (by omega), if_neg (by omega)]; done) | (rw [if_neg (by omega), if_neg (by omega), if_neg (by omega), if_neg (by omega), if_pos (by omega)]; done) | (rw [if_neg (by omega), if_neg (by omega), if_neg (by omega), if_neg (by omega), if_neg (by omega)]; done)))))
    · refine mp_iload_n dX12_seen_15 rfl ?_
      refine mp_iconst dX12_seen_16 ?_
      refine mp_iconst dX12_seen_17 ?_
      refine mp_invS (z := (mX12_isIn, 0, 0, 0)) (K' := (0, 0)) (σ1 := A ++ (mp_ms s m img was num pro ask kp kk kf so sz el im pl ra re rm rf sd th ++ B)) (as := [mp_i w, mp_i 0, mp_i 1]) (st := []) (st1 := [mp_i (if 0 ≤ w ∧ w ≤ 1 then 1 else 0)]) dX12_seen_18 ssX12_53 (zX12_isIn (v := w) (a := 0) (b := 1)  (by first | with_reducible assumption | omega) (by first | with_reducible assumption | omega) (by first | with_reducible assumption | omega)) ⟨Nat.le_of_ble_eq_true rfl, Nat.le_of_ble_eq_true rfl, Nat.le_of_ble_eq_true rfl, Nat.le_of_ble_eq_true rfl, Nat.le_of_ble_eq_true rfl⟩ rfl rfl rfl rfl ?_
      refine mp_ifb_ne (tgt := 26) dX12_seen_21 rfl (fun h3 => ?_) (fun h3 => ?_)
      · have hm := hs.2.1 k (by omega) (by omega)
        have hb9 := hs.2.2.1 l (by omega) (by omega)
        refine mp_iload_n dX12_seen_26 rfl ?_
        refine mp_if_ne (tgt := 51) dX12_seen_27 rfl ⟨by omega, by omega⟩ (fun h4 => ?_) (fun h4 => ?_)
        · refine mp_aload_n dX12_seen_51 rfl ?_
          refine mp_getfield dX12_seen_52 fsX12_9_11 (mp_lk hA 0 rfl) rfl ?_
          refine mp_iload_n dX12_seen_55 rfl ?_
          refine mp_iload_n dX12_seen_56 rfl ?_
          refine mp_invS (z := (mX12_yesOf, 3, 0, 0)) (K' := (0, 0)) (σ1 := A ++ (mp_ms s m img was num pro ask kp kk kf so sz el im pl ra re rm rf sd th ++ B)) (as := [Value.ref 45, mp_i l, mp_i k]) (st := []) (st1 := [mp_i (sp_yesOf s l k)]) dX12_seen_57 ssX12_95 (zX12_yesOf (r := 45) (l := l) (k := k) (s := s) (mp_lk hA 1 rfl) (by first | with_reducible assumption | omega) (by first | with_reducible assumption | omega) (by first | with_reducible assumption | omega) (by first | with_reducible assumption | omega)) ⟨Nat.le_of_ble_eq_true rfl, Nat.le_of_ble_eq_true rfl, Nat.le_of_ble_eq_true rfl, Nat.le_of_ble_eq_true rfl, Nat.le_of_ble_eq_true rfl⟩ rfl rfl rfl rfl ?_
          exact mp_ireturn (st := []) dX12_seen_60 rfl ⟨by decide, by decide⟩ ((mp_ans (by first | with_reducible rfl | (unfold sp_seenC; omega) | (unfold sp_seenC; first | (rw [if_pos (by omega)]; done) | (rw [if_neg (by omega)]; done) | (rw [if_neg (by omega), if_pos (by omega)]; done) | (rw [if_neg (by omega), if_neg (by omega)]; done) | (rw [if_neg (by omega), if_neg (by omega), if_pos (by omega)]; done) | (rw [if_neg (by omega), if_neg (by omega), if_neg (by omega)]; done) | (rw [if_neg (by omega), if_neg (by omega), if_neg (by omega), if_pos (by omega)]; done) | (rw [if_neg (by omega), if_neg (by omega), if_neg (by omega), if_neg (by omega)]; done) | (rw [if_neg (by omega), if_neg (by omega), if_neg (by omega), if_neg (by omega), if_pos (by omega)]; done) | (rw [if_neg (by omega), if_neg (by omega), if_neg (by omega), if_neg (by omega), if_neg (by omega)]; done)))))
        · refine mp_aload_n dX12_seen_30 rfl ?_
          refine mp_getfield dX12_seen_31 fsX12_9_11 (mp_lk hA 0 rfl) rfl ?_
          refine mp_iload_n dX12_seen_34 rfl ?_
          refine mp_aload_n dX12_seen_35 rfl ?_
          refine mp_getfield dX12_seen_36 fsX12_9_11 (mp_lk hA 0 rfl) rfl ?_
          refine mp_iload_n dX12_seen_39 rfl ?_
          refine mp_iconst dX12_seen_40 ?_
          refine mp_invS (z := (mX12_by, 0, 0, 0)) (K' := (0, 0)) (σ1 := A ++ (mp_ms s m img was num pro ask kp kk kf so sz el im pl ra re rm rf sd th ++ B)) (as := [mp_i l, mp_i 0]) (st := [Value.ref 45, mp_i k, Value.ref 45]) (st1 := [mp_i (49 + 3 * l + 0), Value.ref 45, mp_i k, Value.ref 45]) dX12_seen_41 ssX12_49 (zX12_by (l := l) (x := 0)  ) ⟨Nat.le_of_ble_eq_true rfl, Nat.le_of_ble_eq_true rfl, Nat.le_of_ble_eq_true rfl, Nat.le_of_ble_eq_true rfl, Nat.le_of_ble_eq_true rfl⟩ rfl rfl rfl rfl ?_
          refine mp_iald dX12_seen_44 (mp_lk hA 1 rfl) ⟨by omega, by omega⟩ (by omega) ?_
          refine mp_invS (z := (mX12_seenFrom, 2, 0, 0)) (K' := (0, 0)) (σ1 := A ++ (mp_ms s m img was num pro ask kp kk kf so sz el im pl ra re rm rf sd th ++ B)) (as := [Value.ref 45, mp_i k, mp_i (s (49 + 3 * l + 0))]) (st := []) (st1 := [mp_i (sp_seen (s (1 + 6 * k + 0)) (s (1 + 6 * k + 1)) (s (1 + 6 * k + 2)) (s (1 + 6 * k + 3)) (s (49 + 3 * l + 0)))]) dX12_seen_45 ssX12_86 (zX12_seenFrom (r := 45) (k := k) (q := (s (49 + 3 * l + 0))) (s := s) (mp_lk hA 1 rfl) (by first | with_reducible assumption | omega) (by first | with_reducible assumption | omega) (by first | with_reducible assumption | omega)) ⟨Nat.le_of_ble_eq_true rfl, Nat.le_of_ble_eq_true rfl, Nat.le_of_ble_eq_true rfl, Nat.le_of_ble_eq_true rfl, Nat.le_of_ble_eq_true rfl⟩ rfl rfl rfl rfl ?_
          refine mp_goto (tgt := 60) dX12_seen_48 rfl ?_
          exact mp_ireturn (st := []) dX12_seen_60 rfl ⟨by decide, by decide⟩ ((mp_ans (by first | with_reducible rfl | (unfold sp_seenC; omega) | (unfold sp_seenC; first | (rw [if_pos (by omega)]; done) | (rw [if_neg (by omega)]; done) | (rw [if_neg (by omega), if_pos (by omega)]; done) | (rw [if_neg (by omega), if_neg (by omega)]; done) | (rw [if_neg (by omega), if_neg (by omega), if_pos (by omega)]; done) | (rw [if_neg (by omega), if_neg (by omega), if_neg (by omega)]; done) | (rw [if_neg (by omega), if_neg (by omega), if_neg (by omega), if_pos (by omega)]; done) | (rw [if_neg (by omega), if_neg (by omega), if_neg (by omega), if_neg (by omega)]; done) | (rw [if_neg (by omega), if_neg (by omega), if_neg (by omega), if_neg (by omega), if_pos (by omega)]; done) | (rw [if_neg (by omega), if_neg (by omega), if_neg (by omega), if_neg (by omega), if_neg (by omega)]; done)))))
      · refine mp_iconst dX12_seen_24 ?_
        exact mp_ireturn (st := []) dX12_seen_25 rfl ⟨by decide, by decide⟩ ((mp_ans (by first | with_reducible rfl | (unfold sp_seenC; omega) | (unfold sp_seenC; first | (rw [if_pos (by omega)]; done) | (rw [if_neg (by omega)]; done) | (rw [if_neg (by omega), if_pos (by omega)]; done) | (rw [if_neg (by omega), if_neg (by omega)]; done) | (rw [if_neg (by omega), if_neg (by omega), if_pos (by omega)]; done) | (rw [if_neg (by omega), if_neg (by omega), if_neg (by omega)]; done) | (rw [if_neg (by omega), if_neg (by omega), if_neg (by omega), if_pos (by omega)]; done) | (rw [if_neg (by omega), if_neg (by omega), if_neg (by omega), if_neg (by omega)]; done) | (rw [if_neg (by omega), if_neg (by omega), if_neg (by omega), if_neg (by omega), if_pos (by omega)]; done) | (rw [if_neg (by omega), if_neg (by omega), if_neg (by omega), if_neg (by omega), if_neg (by omega)]; done)))))
theorem zX12_taker {s m img was num pro ask kp kk kf so sz el : Int → Int} {im pl ra re rm rf sd th : Int} {A B : mp_H}  {k : Int} (hA : A.length = 44) (hs : mp_sky s) (h_k : mp_w k) : mp_Call (mX12_taker, 5, 0, 0) [Value.ref 44, mp_i k] (A ++ (mp_ms s m img was num pro ask kp kk kf so sz el im pl ra re rm rf sd th ++ B)) (some (mp_i (sp_takerC s k)), A ++ (mp_ms s m img was num pro ask kp kk kf so sz el im pl ra re rm rf sd th ++ B)) := by
  refine mp_Call.of (L := [some (Value.ref 44), some (mp_i k)]) pnX12 (Nat.le_of_ble_eq_true rfl) rfl ?_
  have h0 := hs.1
  have hl := hs.2.2.1
  refine mp_aload_n dX12_taker_0 rfl ?_
  refine mp_iload_n dX12_taker_1 rfl ?_
  refine mp_invV (z := (mX12_isMeteor, 1, 0, 0)) (K' := (0, 0)) (σ1 := A ++ (mp_ms s m img was num pro ask kp kk kf so sz el im pl ra re rm rf sd th ++ B)) (as := [mp_i k]) (st := []) (st1 := [mp_i (if 0 ≤ k ∧ k ≤ s 0 - 1 then 1 else 0)]) dX12_taker_2 svX12_158 (mp_lk hA 0 rfl) rfl rfl (zX12_isMeteor (k := k) (s := s) (m := m) (img := img) (was := was) (num := num) (pro := pro) (ask := ask) (kp := kp) (kk := kk) (kf := kf) (so := so) (sz := sz) (el := el) (im := im) (pl := pl) (ra := ra) (re := re) (rm := rm) (rf := rf) (sd := sd) (th := th) (by first | with_reducible assumption | omega) (by first | with_reducible assumption | omega) (by first | with_reducible assumption | omega)) ⟨Nat.le_of_ble_eq_true rfl, Nat.le_of_ble_eq_true rfl, Nat.le_of_ble_eq_true rfl, Nat.le_of_ble_eq_true rfl, Nat.le_of_ble_eq_true rfl⟩ rfl rfl rfl rfl ?_
  refine mp_ifb_eq (tgt := 20) dX12_taker_5 rfl (fun h1 => ?_) (fun h1 => ?_)
  · refine mp_iconst dX12_taker_20 ?_
    exact mp_ireturn (st := []) dX12_taker_21 rfl ⟨by decide, by decide⟩ ((mp_ans (by first | with_reducible rfl | (unfold sp_takerC; omega) | (unfold sp_takerC; first | (rw [if_pos (by omega)]; done) | (rw [if_neg (by omega)]; done) | (rw [if_neg (by omega), if_pos (by omega)]; done) | (rw [if_neg (by omega), if_neg (by omega)]; done) | (rw [if_neg (by omega), if_neg (by omega), if_pos (by omega)]; done) | (rw [if_neg (by omega), if_neg (by omega), if_neg (by omega)]; done) | (rw [if_neg (by omega), if_neg (by omega), if_neg (by omega), if_pos (by omega)]; done) | (rw [if_neg (by omega), if_neg (by omega), if_neg (by omega), if_neg (by omega)]; done) | (rw [if_neg (by omega), if_neg (by omega), if_neg (by omega), if_neg (by omega), if_pos (by omega)]; done) | (rw [if_neg (by omega), if_neg (by omega), if_neg (by omega), if_neg (by omega), if_neg (by omega)]; done)))))
  · have hm := hs.2.1 k (by omega) (by omega)
    refine mp_aload_n dX12_taker_8 rfl ?_
    refine mp_getfield dX12_taker_9 fsX12_9_11 (mp_lk hA 0 rfl) rfl ?_
    refine mp_iload_n dX12_taker_12 rfl ?_
    refine mp_iconst dX12_taker_13 ?_
    refine mp_invS (z := (mX12_takerOf, 4, 0, 0)) (K' := (0, 0)) (σ1 := A ++ (mp_ms s m img was num pro ask kp kk kf so sz el im pl ra re rm rf sd th ++ B)) (as := [Value.ref 45, mp_i k, mp_i 0]) (st := []) (st1 := [mp_i (sp_taker s k 0)]) dX12_taker_14 ssX12_102 (zX12_takerOf (r := 45) (k := k) (g := 0) (s := s) (mp_lk hA 1 rfl) (by first | with_reducible assumption | omega) (by first | with_reducible assumption | omega) (by first | with_reducible assumption | omega) (by first | with_reducible assumption | omega) (by first | with_reducible assumption | omega)) ⟨Nat.le_of_ble_eq_true rfl, Nat.le_of_ble_eq_true rfl, Nat.le_of_ble_eq_true rfl, Nat.le_of_ble_eq_true rfl, Nat.le_of_ble_eq_true rfl⟩ rfl rfl rfl rfl ?_
    refine mp_goto (tgt := 21) dX12_taker_17 rfl ?_
    exact mp_ireturn (st := []) dX12_taker_21 rfl ⟨by decide, by decide⟩ ((mp_ans (by first | with_reducible rfl | (unfold sp_takerC; omega) | (unfold sp_takerC; first | (rw [if_pos (by omega)]; done) | (rw [if_neg (by omega)]; done) | (rw [if_neg (by omega), if_pos (by omega)]; done) | (rw [if_neg (by omega), if_neg (by omega)]; done) | (rw [if_neg (by omega), if_neg (by omega), if_pos (by omega)]; done) | (rw [if_neg (by omega), if_neg (by omega), if_neg (by omega)]; done) | (rw [if_neg (by omega), if_neg (by omega), if_neg (by omega), if_pos (by omega)]; done) | (rw [if_neg (by omega), if_neg (by omega), if_neg (by omega), if_neg (by omega)]; done) | (rw [if_neg (by omega), if_neg (by omega), if_neg (by omega), if_neg (by omega), if_pos (by omega)]; done) | (rw [if_neg (by omega), if_neg (by omega), if_neg (by omega), if_neg (by omega), if_neg (by omega)]; done)))))
theorem zX12_mistakes {s m img was num pro ask kp kk kf so sz el : Int → Int} {im pl ra re rm rf sd th : Int} {A B : mp_H}  (hA : A.length = 44) (hs : mp_sky s) : mp_Call (mX12_mistakes, 2, 0, 0) [Value.ref 44] (A ++ (mp_ms s m img was num pro ask kp kk kf so sz el im pl ra re rm rf sd th ++ B)) (some (mp_i (sp_mis s)), A ++ (mp_ms s m img was num pro ask kp kk kf so sz el im pl ra re rm rf sd th ++ B)) := by
  refine mp_Call.of (L := [some (Value.ref 44)]) pnX12 (Nat.le_of_ble_eq_true rfl) rfl ?_
  refine mp_aload_n dX12_mistakes_0 rfl ?_
  refine mp_getfield dX12_mistakes_1 fsX12_9_11 (mp_lk hA 0 rfl) rfl ?_
  refine mp_invS (z := (mX12_mistakesOf, 1, 0, 0)) (K' := (0, 0)) (σ1 := A ++ (mp_ms s m img was num pro ask kp kk kf so sz el im pl ra re rm rf sd th ++ B)) (as := [Value.ref 45]) (st := []) (st1 := [mp_i (sp_mis s)]) dX12_mistakes_4 ssX12_171 (zX12_mistakesOf (r := 45) (s := s) (mp_lk hA 1 rfl) (by first | with_reducible assumption | omega)) ⟨Nat.le_of_ble_eq_true rfl, Nat.le_of_ble_eq_true rfl, Nat.le_of_ble_eq_true rfl, Nat.le_of_ble_eq_true rfl, Nat.le_of_ble_eq_true rfl⟩ rfl rfl rfl rfl ?_
  exact mp_ireturn (st := []) dX12_mistakes_7 rfl ⟨by decide, by decide⟩ ((mp_ans (by first | with_reducible rfl | omega | rfl)))
theorem lX12_waiting_4 {s m img was num pro ask kp kk kf so sz el : Int → Int} {im pl ra re rm rf sd th : Int} {A B : mp_H}  (hA : A.length = 44) (hs : mp_sky s) {R9 : mp_An} : ∀ (n : Nat) (l : Int) (u : Int), ((0 ≤ l ∧ l + (n : Nat) = 5) ∧ 0 ≤ u ∧ u < 256) → mp_At (mX12_waiting, 1, 0, 0) (0, 0) 40 [some (Value.ref 44), some (mp_i (mp_fold (sp_waitStep s) n l u)), none] [] (A ++ (mp_ms s m img was num pro ask kp kk kf so sz el im pl ra re rm rf sd th ++ B)) R9 → mp_At (mX12_waiting, 1, 0, 0) (0, 0) 4 [some (Value.ref 44), some (mp_i u), some (mp_i l)] [] (A ++ (mp_ms s m img was num pro ask kp kk kf so sz el im pl ra re rm rf sd th ++ B)) R9 := by
  intro n
  induction n with
  | zero =>
    intro l u hi hk
    refine mp_iload_n dX12_waiting_4 rfl ?_
    refine mp_iconst dX12_waiting_5 ?_
    refine mp_icmp_ge (tgt := 40) dX12_waiting_6 rfl ⟨by omega, by omega⟩ ⟨by omega, by omega⟩ (fun h1 => ?_) (fun h1 => ?_)
    · refine mp_drop (L' := [some (Value.ref 44), some (mp_i u), none]) [true, true, false] rfl ?_
      exact hk
    · exfalso; omega
  | succ n ih =>
    intro l u hi hk
    have h0 := hs.1
    have hb9 := hs.2.2.1 l (by omega) (by omega)
    refine mp_iload_n dX12_waiting_4 rfl ?_
    refine mp_iconst dX12_waiting_5 ?_
    refine mp_icmp_ge (tgt := 40) dX12_waiting_6 rfl ⟨by omega, by omega⟩ ⟨by omega, by omega⟩ (fun h1 => ?_) (fun h1 => ?_)
    · exfalso; omega
    · refine mp_iload_n dX12_waiting_9 rfl ?_
      refine mp_aload_n dX12_waiting_10 rfl ?_
      refine mp_getfield dX12_waiting_11 fsX12_9_11 (mp_lk hA 0 rfl) rfl ?_
      refine mp_iload_n dX12_waiting_14 rfl ?_
      refine mp_iconst dX12_waiting_15 ?_
      refine mp_invS (z := (mX12_by, 0, 0, 0)) (K' := (0, 0)) (σ1 := A ++ (mp_ms s m img was num pro ask kp kk kf so sz el im pl ra re rm rf sd th ++ B)) (as := [mp_i l, mp_i 2]) (st := [Value.ref 45, mp_i u]) (st1 := [mp_i (49 + 3 * l + 2), Value.ref 45, mp_i u]) dX12_waiting_16 ssX12_49 (zX12_by (l := l) (x := 2)  ) ⟨Nat.le_of_ble_eq_true rfl, Nat.le_of_ble_eq_true rfl, Nat.le_of_ble_eq_true rfl, Nat.le_of_ble_eq_true rfl, Nat.le_of_ble_eq_true rfl⟩ rfl rfl rfl rfl ?_
      refine mp_iald dX12_waiting_19 (mp_lk hA 1 rfl) ⟨by omega, by omega⟩ (by omega) ?_
      refine mp_bipush dX12_waiting_20 rfl ?_
      refine mp_icmp_ne (tgt := 31) dX12_waiting_22 rfl ⟨by omega, by omega⟩ ⟨by omega, by omega⟩ (fun h2 => ?_) (fun h2 => ?_)
      · refine mp_iconst dX12_waiting_31 ?_
        refine mp_ior (z := u) dX12_waiting_32 (by rw [mp_z_or (by omega) (by omega), mp_or_0 (by omega)]) ?_
        refine mp_istore_n (L' := [some (Value.ref 44), some (mp_i u), some (mp_i l)]) dX12_waiting_33 rfl (by decide) rfl ?_
        refine mp_iinc (z := l + 1) (L' := [some (Value.ref 44), some (mp_i u), some (mp_i (l + 1))]) dX12_waiting_34 rfl (rfl) (by decide) rfl ?_
        refine mp_goto (tgt := 4) dX12_waiting_37 rfl ?_
        refine mp_loc (j := 1) (y := sp_waitStep s l u) (by unfold sp_waitStep; first | rw [if_pos (by omega)] | rw [if_neg (by omega)]) rfl (L' := [some (Value.ref 44), some (mp_i (sp_waitStep s l u)), some (mp_i (l + 1))]) rfl ?_
        exact ih (l + 1) (sp_waitStep s l u) (⟨by omega, mp_waitStep_bd (by omega) hi.2⟩) hk
      · refine mp_iconst dX12_waiting_25 ?_
        refine mp_iload_n dX12_waiting_26 rfl ?_
        refine mp_ishl (z := mp_bit l) dX12_waiting_27 (mp_z_bit ⟨by omega, by omega⟩) ?_
        refine mp_goto (tgt := 32) dX12_waiting_28 rfl ?_
        refine mp_ior (z := mp_or u (mp_bit l)) dX12_waiting_32 (mp_z_or (by first | omega | exact mp_bit_nn _ | exact mp_or_nn _ _ | exact mp_and_nn _ _ | exact mp_shr_nn _ _) (by first | omega | exact mp_bit_nn _ | exact mp_or_nn _ _ | exact mp_and_nn _ _ | exact mp_shr_nn _ _)) ?_
        refine mp_istore_n (L' := [some (Value.ref 44), some (mp_i (mp_or u (mp_bit l))), some (mp_i l)]) dX12_waiting_33 rfl (by decide) rfl ?_
        refine mp_iinc (z := l + 1) (L' := [some (Value.ref 44), some (mp_i (mp_or u (mp_bit l))), some (mp_i (l + 1))]) dX12_waiting_34 rfl (rfl) (by decide) rfl ?_
        refine mp_goto (tgt := 4) dX12_waiting_37 rfl ?_
        refine mp_loc (j := 1) (y := sp_waitStep s l u) (by unfold sp_waitStep; first | rw [if_pos (by omega)] | rw [if_neg (by omega)]) rfl (L' := [some (Value.ref 44), some (mp_i (sp_waitStep s l u)), some (mp_i (l + 1))]) rfl ?_
        exact ih (l + 1) (sp_waitStep s l u) (⟨by omega, mp_waitStep_bd (by omega) hi.2⟩) hk
theorem zX12_waiting {s m img was num pro ask kp kk kf so sz el : Int → Int} {im pl ra re rm rf sd th : Int} {A B : mp_H}  (hA : A.length = 44) (hs : mp_sky s) : mp_Call (mX12_waiting, 1, 0, 0) [Value.ref 44] (A ++ (mp_ms s m img was num pro ask kp kk kf so sz el im pl ra re rm rf sd th ++ B)) (some (mp_i (sp_waiting s)), A ++ (mp_ms s m img was num pro ask kp kk kf so sz el im pl ra re rm rf sd th ++ B)) := by
  refine mp_Call.of (L := [some (Value.ref 44), none, none]) pnX12 (Nat.le_of_ble_eq_true rfl) rfl ?_
  refine mp_iconst dX12_waiting_0 ?_
  refine mp_istore_n (L' := [some (Value.ref 44), some (mp_i 0), none]) dX12_waiting_1 rfl (by decide) rfl ?_
  refine mp_iconst dX12_waiting_2 ?_
  refine mp_istore_n (L' := [some (Value.ref 44), some (mp_i 0), some (mp_i 0)]) dX12_waiting_3 rfl (by decide) rfl ?_
  refine lX12_waiting_4  (by first | with_reducible assumption | omega) (by first | with_reducible assumption | omega) 5 0 0 (by omega) ?_
  refine mp_iload_n dX12_waiting_40 rfl ?_
  exact mp_ireturn (st := []) dX12_waiting_41 rfl ⟨by decide, by decide⟩ ((mp_ans (by first | with_reducible rfl | omega | rfl)))
theorem lX12_unseen_19 {s m img was num pro ask kp kk kf so sz el : Int → Int} {im pl ra re rm rf sd th : Int} {A B : mp_H}  (hA : A.length = 44) (hs : mp_sky s) {R9 : mp_An} : ∀ (n : Nat) (l : Int) (z : Int) (u : Int) (k : Int), ((0 ≤ l ∧ l + (n : Nat) = 5) ∧ (z = 0 ∨ z = 1) ∧ 0 ≤ k ∧ k < s 0) → mp_At (mX12_unseen, 3, 0, 0) (0, 0) 61 [some (Value.ref 44), some (mp_i u), some (mp_i k), some (mp_i (mp_fold (sp_anyStep s k) n l z)), none] [] (A ++ (mp_ms s m img was num pro ask kp kk kf so sz el im pl ra re rm rf sd th ++ B)) R9 → mp_At (mX12_unseen, 3, 0, 0) (0, 0) 19 [some (Value.ref 44), some (mp_i u), some (mp_i k), some (mp_i z), some (mp_i l)] [] (A ++ (mp_ms s m img was num pro ask kp kk kf so sz el im pl ra re rm rf sd th ++ B)) R9 := by
  intro n
  induction n with
  | zero =>
    intro l z u k hi hk
    refine mp_iload dX12_unseen_19 rfl ?_
    refine mp_iconst dX12_unseen_21 ?_
    refine mp_icmp_ge (tgt := 61) dX12_unseen_22 rfl ⟨by omega, by omega⟩ ⟨by omega, by omega⟩ (fun h1 => ?_) (fun h1 => ?_)
    · refine mp_drop (L' := [some (Value.ref 44), some (mp_i u), some (mp_i k), some (mp_i z), none]) [true, true, true, true, false] rfl ?_
      exact hk
    · exfalso; omega
  | succ n ih =>
    intro l z u k hi hk
    have h0 := hs.1
    have hm := hs.2.1 k (by omega) (by omega)
    have hb9 := hs.2.2.1 l (by omega) (by omega)
    refine mp_iload dX12_unseen_19 rfl ?_
    refine mp_iconst dX12_unseen_21 ?_
    refine mp_icmp_ge (tgt := 61) dX12_unseen_22 rfl ⟨by omega, by omega⟩ ⟨by omega, by omega⟩ (fun h1 => ?_) (fun h1 => ?_)
    · exfalso; omega
    · refine mp_iload_n dX12_unseen_25 rfl ?_
      refine mp_aload_n dX12_unseen_26 rfl ?_
      refine mp_getfield dX12_unseen_27 fsX12_9_11 (mp_lk hA 0 rfl) rfl ?_
      refine mp_iload_n dX12_unseen_30 rfl ?_
      refine mp_aload_n dX12_unseen_31 rfl ?_
      refine mp_getfield dX12_unseen_32 fsX12_9_11 (mp_lk hA 0 rfl) rfl ?_
      refine mp_iload dX12_unseen_35 rfl ?_
      refine mp_iconst dX12_unseen_37 ?_
      refine mp_invS (z := (mX12_by, 0, 0, 0)) (K' := (0, 0)) (σ1 := A ++ (mp_ms s m img was num pro ask kp kk kf so sz el im pl ra re rm rf sd th ++ B)) (as := [mp_i l, mp_i 0]) (st := [Value.ref 45, mp_i k, Value.ref 45, mp_i z]) (st1 := [mp_i (49 + 3 * l + 0), Value.ref 45, mp_i k, Value.ref 45, mp_i z]) dX12_unseen_38 ssX12_49 (zX12_by (l := l) (x := 0)  ) ⟨Nat.le_of_ble_eq_true rfl, Nat.le_of_ble_eq_true rfl, Nat.le_of_ble_eq_true rfl, Nat.le_of_ble_eq_true rfl, Nat.le_of_ble_eq_true rfl⟩ rfl rfl rfl rfl ?_
      refine mp_iald dX12_unseen_41 (mp_lk hA 1 rfl) ⟨by omega, by omega⟩ (by omega) ?_
      refine mp_invS (z := (mX12_seenFrom, 2, 0, 0)) (K' := (0, 0)) (σ1 := A ++ (mp_ms s m img was num pro ask kp kk kf so sz el im pl ra re rm rf sd th ++ B)) (as := [Value.ref 45, mp_i k, mp_i (s (49 + 3 * l + 0))]) (st := [mp_i z]) (st1 := [mp_i (sp_seen (s (1 + 6 * k + 0)) (s (1 + 6 * k + 1)) (s (1 + 6 * k + 2)) (s (1 + 6 * k + 3)) (s (49 + 3 * l + 0))), mp_i z]) dX12_unseen_42 ssX12_86 (zX12_seenFrom (r := 45) (k := k) (q := (s (49 + 3 * l + 0))) (s := s) (mp_lk hA 1 rfl) (by first | with_reducible assumption | omega) (by first | with_reducible assumption | omega) (by first | with_reducible assumption | omega)) ⟨Nat.le_of_ble_eq_true rfl, Nat.le_of_ble_eq_true rfl, Nat.le_of_ble_eq_true rfl, Nat.le_of_ble_eq_true rfl, Nat.le_of_ble_eq_true rfl⟩ rfl rfl rfl rfl ?_
      have b2 := mp_seen_bd (kind := s (1 + 6 * k + 0)) (f := s (1 + 6 * k + 1)) (col := s (1 + 6 * k + 2)) (slope := s (1 + 6 * k + 3)) (roof := (s (49 + 3 * l + 0))) (by omega)
      refine mp_if_eq (tgt := 52) dX12_unseen_45 rfl ⟨by omega, by omega⟩ (fun h3 => ?_) (fun h3 => ?_)
      · refine mp_iconst dX12_unseen_52 ?_
        refine mp_ior (z := z) dX12_unseen_53 (by rw [mp_z_or (by omega) (by omega), mp_or_0 (by omega)]) ?_
        refine mp_istore_n (L' := [some (Value.ref 44), some (mp_i u), some (mp_i k), some (mp_i z), some (mp_i l)]) dX12_unseen_54 rfl (by decide) rfl ?_
        refine mp_iinc (z := l + 1) (L' := [some (Value.ref 44), some (mp_i u), some (mp_i k), some (mp_i z), some (mp_i (l + 1))]) dX12_unseen_55 rfl (rfl) (by decide) rfl ?_
        refine mp_goto (tgt := 19) dX12_unseen_58 rfl ?_
        refine mp_loc (j := 3) (y := sp_anyStep s k l z) (by unfold sp_anyStep; first | rw [if_pos (by omega)] | rw [if_neg (by omega)]) rfl (L' := [some (Value.ref 44), some (mp_i u), some (mp_i k), some (mp_i (sp_anyStep s k l z)), some (mp_i (l + 1))]) rfl ?_
        exact ih (l + 1) (sp_anyStep s k l z) u k (⟨by omega, mp_anyStep_bd hi.2.1, by omega⟩) hk
      · refine mp_iconst dX12_unseen_48 ?_
        refine mp_goto (tgt := 53) dX12_unseen_49 rfl ?_
        refine mp_ior (z := mp_or z 1) dX12_unseen_53 (mp_z_or (by first | omega | exact mp_bit_nn _ | exact mp_or_nn _ _ | exact mp_and_nn _ _ | exact mp_shr_nn _ _) (by first | omega | exact mp_bit_nn _ | exact mp_or_nn _ _ | exact mp_and_nn _ _ | exact mp_shr_nn _ _)) ?_
        refine mp_istore_n (L' := [some (Value.ref 44), some (mp_i u), some (mp_i k), some (mp_i (mp_or z 1)), some (mp_i l)]) dX12_unseen_54 rfl (by decide) rfl ?_
        refine mp_iinc (z := l + 1) (L' := [some (Value.ref 44), some (mp_i u), some (mp_i k), some (mp_i (mp_or z 1)), some (mp_i (l + 1))]) dX12_unseen_55 rfl (rfl) (by decide) rfl ?_
        refine mp_goto (tgt := 19) dX12_unseen_58 rfl ?_
        refine mp_loc (j := 3) (y := sp_anyStep s k l z) (by unfold sp_anyStep; first | rw [if_pos (by omega)] | rw [if_neg (by omega)]) rfl (L' := [some (Value.ref 44), some (mp_i u), some (mp_i k), some (mp_i (sp_anyStep s k l z)), some (mp_i (l + 1))]) rfl ?_
        exact ih (l + 1) (sp_anyStep s k l z) u k (⟨by omega, mp_anyStep_bd hi.2.1, by omega⟩) hk
theorem lX12_unseen_4 {s m img was num pro ask kp kk kf so sz el : Int → Int} {im pl ra re rm rf sd th : Int} {A B : mp_H}  (hA : A.length = 44) (hs : mp_sky s) {R9 : mp_An} : ∀ (n : Nat) (k : Int) (u : Int), ((0 ≤ k ∧ k + (n : Nat) = s 0) ∧ 0 ≤ u ∧ u < 256) → mp_At (mX12_unseen, 3, 0, 0) (0, 0) 81 [some (Value.ref 44), some (mp_i (mp_fold (sp_unseenStep s) n k u)), none, none, none] [] (A ++ (mp_ms s m img was num pro ask kp kk kf so sz el im pl ra re rm rf sd th ++ B)) R9 → mp_At (mX12_unseen, 3, 0, 0) (0, 0) 4 [some (Value.ref 44), some (mp_i u), some (mp_i k), none, none] [] (A ++ (mp_ms s m img was num pro ask kp kk kf so sz el im pl ra re rm rf sd th ++ B)) R9 := by
  intro n
  induction n with
  | zero =>
    intro k u hi hk
    have h0 := hs.1
    refine mp_iload_n dX12_unseen_4 rfl ?_
    refine mp_aload_n dX12_unseen_5 rfl ?_
    refine mp_getfield dX12_unseen_6 fsX12_9_11 (mp_lk hA 0 rfl) rfl ?_
    refine mp_iconst dX12_unseen_9 ?_
    refine mp_iald dX12_unseen_10 (mp_lk hA 1 rfl) ⟨by omega, by omega⟩ (by omega) ?_
    refine mp_icmp_ge (tgt := 81) dX12_unseen_11 rfl ⟨by omega, by omega⟩ ⟨by omega, by omega⟩ (fun h1 => ?_) (fun h1 => ?_)
    · refine mp_drop (L' := [some (Value.ref 44), some (mp_i u), none, none, none]) [true, true, false, false, false] rfl ?_
      exact hk
    · exfalso; omega
  | succ n ih =>
    intro k u hi hk
    have h0 := hs.1
    have hany := mp_any_bd s k
    refine mp_iload_n dX12_unseen_4 rfl ?_
    refine mp_aload_n dX12_unseen_5 rfl ?_
    refine mp_getfield dX12_unseen_6 fsX12_9_11 (mp_lk hA 0 rfl) rfl ?_
    refine mp_iconst dX12_unseen_9 ?_
    refine mp_iald dX12_unseen_10 (mp_lk hA 1 rfl) ⟨by omega, by omega⟩ (by omega) ?_
    refine mp_icmp_ge (tgt := 81) dX12_unseen_11 rfl ⟨by omega, by omega⟩ ⟨by omega, by omega⟩ (fun h1 => ?_) (fun h1 => ?_)
    · exfalso; omega
    · refine mp_iconst dX12_unseen_14 ?_
      refine mp_istore_n (L' := [some (Value.ref 44), some (mp_i u), some (mp_i k), some (mp_i 0), none]) dX12_unseen_15 rfl (by decide) rfl ?_
      refine mp_iconst dX12_unseen_16 ?_
      refine mp_istore (L' := [some (Value.ref 44), some (mp_i u), some (mp_i k), some (mp_i 0), some (mp_i 0)]) dX12_unseen_17 (by decide) rfl ?_
      refine lX12_unseen_19  (by first | with_reducible assumption | omega) (by first | with_reducible assumption | omega) 5 0 0 u k (by omega) ?_
      refine mp_loc (j := 3) (y := sp_any s k) rfl rfl (L' := [some (Value.ref 44), some (mp_i u), some (mp_i k), some (mp_i (sp_any s k)), none]) rfl ?_
      refine mp_iload_n dX12_unseen_61 rfl ?_
      refine mp_iload_n dX12_unseen_62 rfl ?_
      refine mp_if_eq (tgt := 70) dX12_unseen_63 rfl ⟨by omega, by omega⟩ (fun h2 => ?_) (fun h2 => ?_)
      · refine mp_iconst dX12_unseen_70 ?_
        refine mp_iload_n dX12_unseen_71 rfl ?_
        refine mp_ishl (z := mp_bit k) dX12_unseen_72 (mp_z_bit ⟨by omega, by omega⟩) ?_
        refine mp_ior (z := mp_or u (mp_bit k)) dX12_unseen_73 (mp_z_or (by first | omega | exact mp_bit_nn _ | exact mp_or_nn _ _ | exact mp_and_nn _ _ | exact mp_shr_nn _ _) (by first | omega | exact mp_bit_nn _ | exact mp_or_nn _ _ | exact mp_and_nn _ _ | exact mp_shr_nn _ _)) ?_
        refine mp_istore_n (L' := [some (Value.ref 44), some (mp_i (mp_or u (mp_bit k))), some (mp_i k), some (mp_i (sp_any s k)), none]) dX12_unseen_74 rfl (by decide) rfl ?_
        refine mp_iinc (z := k + 1) (L' := [some (Value.ref 44), some (mp_i (mp_or u (mp_bit k))), some (mp_i (k + 1)), some (mp_i (sp_any s k)), none]) dX12_unseen_75 rfl (rfl) (by decide) rfl ?_
        refine mp_goto (tgt := 4) dX12_unseen_78 rfl ?_
        refine mp_loc (j := 1) (y := sp_unseenStep s k u) (by unfold sp_unseenStep; first | rw [if_pos (by omega)] | rw [if_neg (by omega)]) rfl (L' := [some (Value.ref 44), some (mp_i (sp_unseenStep s k u)), some (mp_i (k + 1)), some (mp_i (sp_any s k)), none]) rfl ?_
        refine mp_drop (L' := [some (Value.ref 44), some (mp_i (sp_unseenStep s k u)), some (mp_i (k + 1)), none, none]) [true, true, true, false, false] rfl ?_
        exact ih (k + 1) (sp_unseenStep s k u) (⟨by omega, mp_unseenStep_bd (by omega) hi.2⟩) hk
      · refine mp_iconst dX12_unseen_66 ?_
        refine mp_goto (tgt := 73) dX12_unseen_67 rfl ?_
        refine mp_ior (z := u) dX12_unseen_73 (by rw [mp_z_or (by omega) (by omega), mp_or_0 (by omega)]) ?_
        refine mp_istore_n (L' := [some (Value.ref 44), some (mp_i u), some (mp_i k), some (mp_i (sp_any s k)), none]) dX12_unseen_74 rfl (by decide) rfl ?_
        refine mp_iinc (z := k + 1) (L' := [some (Value.ref 44), some (mp_i u), some (mp_i (k + 1)), some (mp_i (sp_any s k)), none]) dX12_unseen_75 rfl (rfl) (by decide) rfl ?_
        refine mp_goto (tgt := 4) dX12_unseen_78 rfl ?_
        refine mp_loc (j := 1) (y := sp_unseenStep s k u) (by unfold sp_unseenStep; first | rw [if_pos (by omega)] | rw [if_neg (by omega)]) rfl (L' := [some (Value.ref 44), some (mp_i (sp_unseenStep s k u)), some (mp_i (k + 1)), some (mp_i (sp_any s k)), none]) rfl ?_
        refine mp_drop (L' := [some (Value.ref 44), some (mp_i (sp_unseenStep s k u)), some (mp_i (k + 1)), none, none]) [true, true, true, false, false] rfl ?_
        exact ih (k + 1) (sp_unseenStep s k u) (⟨by omega, mp_unseenStep_bd (by omega) hi.2⟩) hk
theorem zX12_unseen {s m img was num pro ask kp kk kf so sz el : Int → Int} {im pl ra re rm rf sd th : Int} {A B : mp_H}  (hA : A.length = 44) (hs : mp_sky s) : mp_Call (mX12_unseen, 3, 0, 0) [Value.ref 44] (A ++ (mp_ms s m img was num pro ask kp kk kf so sz el im pl ra re rm rf sd th ++ B)) (some (mp_i (sp_unseen s)), A ++ (mp_ms s m img was num pro ask kp kk kf so sz el im pl ra re rm rf sd th ++ B)) := by
  refine mp_Call.of (L := [some (Value.ref 44), none, none, none, none]) pnX12 (Nat.le_of_ble_eq_true rfl) rfl ?_
  have h0 := hs.1
  refine mp_iconst dX12_unseen_0 ?_
  refine mp_istore_n (L' := [some (Value.ref 44), some (mp_i 0), none, none, none]) dX12_unseen_1 rfl (by decide) rfl ?_
  refine mp_iconst dX12_unseen_2 ?_
  refine mp_istore_n (L' := [some (Value.ref 44), some (mp_i 0), some (mp_i 0), none, none]) dX12_unseen_3 rfl (by decide) rfl ?_
  refine lX12_unseen_4  (by first | with_reducible assumption | omega) (by first | with_reducible assumption | omega) ((s 0).toNat) 0 0 (by omega) ?_
  refine mp_iload_n dX12_unseen_81 rfl ?_
  exact mp_ireturn (st := []) dX12_unseen_82 rfl ⟨by decide, by decide⟩ ((mp_ans (by first | with_reducible rfl | omega | rfl)))
theorem lX12_august_26 {s m img was num pro ask kp kk kf so sz el : Int → Int} {im pl ra re rm rf sd th : Int} {A B : mp_H}  {w : Int} (hA : A.length = 44) (hs : mp_sky s) (h_w : mp_w w) {R9 : mp_An} : ∀ (n : Nat) (t : Int) (q : Int → Int) (u : Int), ((0 ≤ t ∧ t + (n : Nat) = 31) ∧ mp_sky q ∧ q 0 = s 0) → mp_At (mX12_august, 6, 0, 0) (0, 0) 49 [some (Value.ref 44), some (mp_i w), none, none] [] (A ++ (mp_ms s (mp_fold (fun w q => (sp_runs q w).1) n t q) img was num pro ask kp kk kf so sz el im pl ra re rm rf sd th ++ B)) R9 → mp_At (mX12_august, 6, 0, 0) (0, 0) 26 [some (Value.ref 44), some (mp_i w), some (mp_i u), some (mp_i t)] [] (A ++ (mp_ms s q img was num pro ask kp kk kf so sz el im pl ra re rm rf sd th ++ B)) R9 := by
  intro n
  induction n with
  | zero =>
    intro t q u hi hk
    have hs1 := hi.2.1
    refine mp_iload_n dX12_august_26 rfl ?_
    refine mp_bipush dX12_august_27 rfl ?_
    refine mp_icmp_ge (tgt := 49) dX12_august_29 rfl ⟨by omega, by omega⟩ ⟨by omega, by omega⟩ (fun h1 => ?_) (fun h1 => ?_)
    · refine mp_drop (L' := [some (Value.ref 44), some (mp_i w), none, none]) [true, true, false, false] rfl ?_
      exact hk
    · exfalso; omega
  | succ n ih =>
    intro t q u hi hk
    have hs1 := hi.2.1
    refine mp_iload_n dX12_august_26 rfl ?_
    refine mp_bipush dX12_august_27 rfl ?_
    refine mp_icmp_ge (tgt := 49) dX12_august_29 rfl ⟨by omega, by omega⟩ ⟨by omega, by omega⟩ (fun h1 => ?_) (fun h1 => ?_)
    · exfalso; omega
    · refine mp_iload_n dX12_august_32 rfl ?_
      refine mp_aload_n dX12_august_33 rfl ?_
      refine mp_getfield dX12_august_34 fsX12_13_11 (mp_lk hA 0 rfl) rfl ?_
      refine mp_iload_n dX12_august_37 rfl ?_
      refine mp_invS (z := (mX12_runs, 5, 0, 0)) (K' := (0, 0)) (σ1 := A ++ (mp_ms s ((sp_runs q t).1) img was num pro ask kp kk kf so sz el im pl ra re rm rf sd th ++ B)) (as := [Value.ref 46, mp_i t]) (st := [mp_i u]) (st1 := [mp_i ((sp_runs q t).2), mp_i u]) dX12_august_38 ssX12_142 (mp_Call.cast (zX12_runs (r := 46) (w := t) (s := q) (mp_lk hA 2 rfl) (by first | with_reducible assumption | omega) (by first | with_reducible assumption | omega) (by first | with_reducible assumption | omega)) rfl (congrArg (Prod.mk _) (mp_sts (Ms' := mp_ms s ((sp_runs q t).1) img was num pro ask kp kk kf so sz el im pl ra re rm rf sd th) hA 2 (Nat.le_of_ble_eq_true rfl) rfl))) ⟨Nat.le_of_ble_eq_true rfl, Nat.le_of_ble_eq_true rfl, Nat.le_of_ble_eq_true rfl, Nat.le_of_ble_eq_true rfl, Nat.le_of_ble_eq_true rfl⟩ rfl rfl rfl rfl ?_
      refine mp_iadd (z := u + ((sp_runs q t).2)) dX12_august_41 (by first | rfl | omega) ?_
      refine mp_istore_n (L' := [some (Value.ref 44), some (mp_i w), some (mp_i (u + ((sp_runs q t).2))), some (mp_i t)]) dX12_august_42 rfl (by decide) rfl ?_
      refine mp_iinc (z := t + 1) (L' := [some (Value.ref 44), some (mp_i w), some (mp_i (u + ((sp_runs q t).2))), some (mp_i (t + 1))]) dX12_august_43 rfl (rfl) (by decide) rfl ?_
      refine mp_goto (tgt := 26) dX12_august_46 rfl ?_
      exact ih (t + 1) (sp_runs q t).1 (u + (sp_runs q t).2) ⟨by omega, (mp_runs_sky hi.2.1 t).1, (mp_runs_sky hi.2.1 t).2.1.trans hi.2.2⟩ hk
theorem zX12_august {s m img was num pro ask kp kk kf so sz el : Int → Int} {im pl ra re rm rf sd th : Int} {A B : mp_H}  {w : Int} (hA : A.length = 44) (hs : mp_sky s) (h_w : mp_w w) : mp_Call (mX12_august, 6, 0, 0) [Value.ref 44, mp_i w] (A ++ (mp_ms s m img was num pro ask kp kk kf so sz el im pl ra re rm rf sd th ++ B)) (some (mp_i (sp_august s w)), A ++ (mp_ms s (if 0 ≤ w ∧ w ≤ 1 then sp_nights s else m) img was num pro ask kp kk kf so sz el im pl ra re rm rf sd th ++ B)) := by
  refine mp_Call.of (L := [some (Value.ref 44), some (mp_i w), none, none]) pnX12 (Nat.le_of_ble_eq_true rfl) rfl ?_
  have h0 := hs.1
  refine mp_iload_n dX12_august_0 rfl ?_
  refine mp_iconst dX12_august_1 ?_
  refine mp_iconst dX12_august_2 ?_
  refine mp_invS (z := (mX12_isIn, 0, 0, 0)) (K' := (0, 0)) (σ1 := A ++ (mp_ms s m img was num pro ask kp kk kf so sz el im pl ra re rm rf sd th ++ B)) (as := [mp_i w, mp_i 0, mp_i 1]) (st := []) (st1 := [mp_i (if 0 ≤ w ∧ w ≤ 1 then 1 else 0)]) dX12_august_3 ssX12_53 (zX12_isIn (v := w) (a := 0) (b := 1)  (by first | with_reducible assumption | omega) (by first | with_reducible assumption | omega) (by first | with_reducible assumption | omega)) ⟨Nat.le_of_ble_eq_true rfl, Nat.le_of_ble_eq_true rfl, Nat.le_of_ble_eq_true rfl, Nat.le_of_ble_eq_true rfl, Nat.le_of_ble_eq_true rfl⟩ rfl rfl rfl rfl ?_
  refine mp_ifb_ne (tgt := 11) dX12_august_6 rfl (fun h1 => ?_) (fun h1 => ?_)
  · refine mp_aload_n dX12_august_11 rfl ?_
    refine mp_getfield dX12_august_12 fsX12_9_11 (mp_lk hA 0 rfl) rfl ?_
    refine mp_aload_n dX12_august_15 rfl ?_
    refine mp_getfield dX12_august_16 fsX12_13_11 (mp_lk hA 0 rfl) rfl ?_
    refine mp_invS (z := (mX12_copies, 0, 0, 0)) (K' := (0, 0)) (σ1 := A ++ (mp_ms s s img was num pro ask kp kk kf so sz el im pl ra re rm rf sd th ++ B)) (as := [Value.ref 45, Value.ref 46]) (st := []) (st1 := []) dX12_august_19 ssX12_151 (mp_Call.cast (zX12_copies (a := 45) (b := 46) (f := s) (g := m) (mp_lk hA 1 rfl) (mp_lk hA 2 rfl) (by first | with_reducible assumption | omega) (by first | with_reducible assumption | omega)) rfl (congrArg (Prod.mk _) (mp_sts (Ms' := mp_ms s s img was num pro ask kp kk kf so sz el im pl ra re rm rf sd th) hA 2 (Nat.le_of_ble_eq_true rfl) rfl))) ⟨Nat.le_of_ble_eq_true rfl, Nat.le_of_ble_eq_true rfl, Nat.le_of_ble_eq_true rfl, Nat.le_of_ble_eq_true rfl, Nat.le_of_ble_eq_true rfl⟩ rfl rfl rfl rfl ?_
    refine mp_iconst dX12_august_22 ?_
    refine mp_istore_n (L' := [some (Value.ref 44), some (mp_i w), some (mp_i 0), none]) dX12_august_23 rfl (by decide) rfl ?_
    refine mp_iconst dX12_august_24 ?_
    refine mp_istore_n (L' := [some (Value.ref 44), some (mp_i w), some (mp_i 0), some (mp_i 0)]) dX12_august_25 rfl (by decide) rfl ?_
    refine lX12_august_26 (m := m) hA hs h_w 31 0 s 0 ⟨by omega, hs, rfl⟩ ?_
    refine mp_sg (σ' := A ++ (mp_ms s (sp_nights s) img was num pro ask kp kk kf so sz el im pl ra re rm rf sd th ++ B)) rfl ?_
    have hns := (mp_nights_sky hs).1
    have hb1 := mp_said_bd hns
    have hb2 := mp_mis_bd hns
    refine mp_iload_n dX12_august_49 rfl ?_
    refine mp_if_ne (tgt := 66) dX12_august_50 rfl ⟨by omega, by omega⟩ (fun h2 => ?_) (fun h2 => ?_)
    · refine mp_aload_n dX12_august_66 rfl ?_
      refine mp_getfield dX12_august_67 fsX12_13_11 (mp_lk hA 0 rfl) rfl ?_
      refine mp_invS (z := (mX12_mistakesOf, 1, 0, 0)) (K' := (0, 0)) (σ1 := A ++ (mp_ms s (sp_nights s) img was num pro ask kp kk kf so sz el im pl ra re rm rf sd th ++ B)) (as := [Value.ref 46]) (st := []) (st1 := [mp_i (sp_mis (sp_nights s))]) dX12_august_70 ssX12_171 (zX12_mistakesOf (r := 46) (s := (sp_nights s)) (mp_lk hA 2 rfl) (by first | with_reducible assumption | omega)) ⟨Nat.le_of_ble_eq_true rfl, Nat.le_of_ble_eq_true rfl, Nat.le_of_ble_eq_true rfl, Nat.le_of_ble_eq_true rfl, Nat.le_of_ble_eq_true rfl⟩ rfl rfl rfl rfl ?_
      refine mp_invS (z := (mX12_bits, 0, 0, 0)) (K' := (0, 0)) (σ1 := A ++ (mp_ms s (sp_nights s) img was num pro ask kp kk kf so sz el im pl ra re rm rf sd th ++ B)) (as := [mp_i (sp_mis (sp_nights s))]) (st := []) (st1 := [mp_i (sp_bits (sp_mis (sp_nights s)))]) dX12_august_73 ssX12_178 (zX12_bits (v := (sp_mis (sp_nights s)))  (by first | with_reducible assumption | omega)) ⟨Nat.le_of_ble_eq_true rfl, Nat.le_of_ble_eq_true rfl, Nat.le_of_ble_eq_true rfl, Nat.le_of_ble_eq_true rfl, Nat.le_of_ble_eq_true rfl⟩ rfl rfl rfl rfl ?_
      exact mp_ireturn (st := []) dX12_august_76 rfl ⟨by decide, by decide⟩ ((by rw [if_pos (by omega), show sp_august s w = sp_bits (sp_mis (sp_nights s)) from by unfold sp_august; first | rw [if_neg (by omega), if_pos (by omega)] | rw [if_neg (by omega), if_neg (by omega)]]))
    · refine mp_aload_n dX12_august_53 rfl ?_
      refine mp_getfield dX12_august_54 fsX12_13_11 (mp_lk hA 0 rfl) rfl ?_
      refine mp_invS (z := (mX12_saidOf, 1, 0, 0)) (K' := (0, 0)) (σ1 := A ++ (mp_ms s (sp_nights s) img was num pro ask kp kk kf so sz el im pl ra re rm rf sd th ++ B)) (as := [Value.ref 46]) (st := []) (st1 := [mp_i (sp_said (sp_nights s))]) dX12_august_57 ssX12_175 (zX12_saidOf (r := 46) (s := (sp_nights s)) (mp_lk hA 2 rfl) (by first | with_reducible assumption | omega)) ⟨Nat.le_of_ble_eq_true rfl, Nat.le_of_ble_eq_true rfl, Nat.le_of_ble_eq_true rfl, Nat.le_of_ble_eq_true rfl, Nat.le_of_ble_eq_true rfl⟩ rfl rfl rfl rfl ?_
      refine mp_invS (z := (mX12_bits, 0, 0, 0)) (K' := (0, 0)) (σ1 := A ++ (mp_ms s (sp_nights s) img was num pro ask kp kk kf so sz el im pl ra re rm rf sd th ++ B)) (as := [mp_i (sp_said (sp_nights s))]) (st := []) (st1 := [mp_i (sp_bits (sp_said (sp_nights s)))]) dX12_august_60 ssX12_178 (zX12_bits (v := (sp_said (sp_nights s)))  (by first | with_reducible assumption | omega)) ⟨Nat.le_of_ble_eq_true rfl, Nat.le_of_ble_eq_true rfl, Nat.le_of_ble_eq_true rfl, Nat.le_of_ble_eq_true rfl, Nat.le_of_ble_eq_true rfl⟩ rfl rfl rfl rfl ?_
      refine mp_goto (tgt := 76) dX12_august_63 rfl ?_
      exact mp_ireturn (st := []) dX12_august_76 rfl ⟨by decide, by decide⟩ ((by rw [if_pos (by omega), show sp_august s w = sp_bits (sp_said (sp_nights s)) from by unfold sp_august; first | rw [if_neg (by omega), if_pos (by omega)] | rw [if_neg (by omega), if_neg (by omega)]]))
  · refine mp_iconst dX12_august_9 ?_
    exact mp_ireturn (st := []) dX12_august_10 rfl ⟨by decide, by decide⟩ ((by rw [if_neg (by omega), show sp_august s w = -1 from if_pos (by omega)]))
theorem lX12_bestRoof_39 {s m img was num pro ask kp kk kf so sz el : Int → Int} {im pl ra re rm rf sd th : Int} {A B : mp_H}  {l : Int} {w : Int} (hA : A.length = 44) (hs : mp_sky s) (h_l : mp_w l) (h_w : mp_w w) {R9 : mp_An} : ∀ (n : Nat) (k : Int) (z : Int) (f : Int) (e : Int) (c : Int), ((0 ≤ k ∧ k + (n : Nat) = s 0) ∧ (0 ≤ c ∧ c ≤ 15) ∧ (0 ≤ l ∧ l ≤ 4)) → mp_At (mX12_bestRoof, 3, 0, 0) (0, 0) 91 [some (Value.ref 44), some (mp_i l), some (mp_i w), some (mp_i f), some (mp_i e), some (mp_i c), some (mp_i (mp_fold (fun k n => n + (if 0 ≤ sp_yes (sp_seen (s (1 + 6 * k + 0)) (s (1 + 6 * k + 1)) (s (1 + 6 * k + 2)) (s (1 + 6 * k + 3)) c) (sp_need (s (49 + 3 * l + 1))) then 1 else 0)) n k z)), none] [] (A ++ (mp_ms s m img was num pro ask kp kk kf so sz el im pl ra re rm rf sd th ++ B)) R9 → mp_At (mX12_bestRoof, 3, 0, 0) (0, 0) 39 [some (Value.ref 44), some (mp_i l), some (mp_i w), some (mp_i f), some (mp_i e), some (mp_i c), some (mp_i z), some (mp_i k)] [] (A ++ (mp_ms s m img was num pro ask kp kk kf so sz el im pl ra re rm rf sd th ++ B)) R9 := by
  intro n
  induction n with
  | zero =>
    intro k z f e c hi hk
    have h0 := hs.1
    refine mp_iload dX12_bestRoof_39 rfl ?_
    refine mp_aload_n dX12_bestRoof_41 rfl ?_
    refine mp_getfield dX12_bestRoof_42 fsX12_9_11 (mp_lk hA 0 rfl) rfl ?_
    refine mp_iconst dX12_bestRoof_45 ?_
    refine mp_iald dX12_bestRoof_46 (mp_lk hA 1 rfl) ⟨by omega, by omega⟩ (by omega) ?_
    refine mp_icmp_ge (tgt := 91) dX12_bestRoof_47 rfl ⟨by omega, by omega⟩ ⟨by omega, by omega⟩ (fun h1 => ?_) (fun h1 => ?_)
    · refine mp_drop (L' := [some (Value.ref 44), some (mp_i l), some (mp_i w), some (mp_i f), some (mp_i e), some (mp_i c), some (mp_i z), none]) [true, true, true, true, true, true, true, false] rfl ?_
      exact hk
    · exfalso; omega
  | succ n ih =>
    intro k z f e c hi hk
    have h0 := hs.1
    have hm := hs.2.1 k (by omega) (by omega)
    have hb9 := hs.2.2.1 l (by omega) (by omega)
    refine mp_iload dX12_bestRoof_39 rfl ?_
    refine mp_aload_n dX12_bestRoof_41 rfl ?_
    refine mp_getfield dX12_bestRoof_42 fsX12_9_11 (mp_lk hA 0 rfl) rfl ?_
    refine mp_iconst dX12_bestRoof_45 ?_
    refine mp_iald dX12_bestRoof_46 (mp_lk hA 1 rfl) ⟨by omega, by omega⟩ (by omega) ?_
    refine mp_icmp_ge (tgt := 91) dX12_bestRoof_47 rfl ⟨by omega, by omega⟩ ⟨by omega, by omega⟩ (fun h1 => ?_) (fun h1 => ?_)
    · exfalso; omega
    · refine mp_iload dX12_bestRoof_50 rfl ?_
      refine mp_aload_n dX12_bestRoof_52 rfl ?_
      refine mp_getfield dX12_bestRoof_53 fsX12_9_11 (mp_lk hA 0 rfl) rfl ?_
      refine mp_iload dX12_bestRoof_56 rfl ?_
      refine mp_iload dX12_bestRoof_58 rfl ?_
      refine mp_invS (z := (mX12_seenFrom, 2, 0, 0)) (K' := (0, 0)) (σ1 := A ++ (mp_ms s m img was num pro ask kp kk kf so sz el im pl ra re rm rf sd th ++ B)) (as := [Value.ref 45, mp_i k, mp_i c]) (st := [mp_i z]) (st1 := [mp_i (sp_seen (s (1 + 6 * k + 0)) (s (1 + 6 * k + 1)) (s (1 + 6 * k + 2)) (s (1 + 6 * k + 3)) c), mp_i z]) dX12_bestRoof_60 ssX12_86 (zX12_seenFrom (r := 45) (k := k) (q := c) (s := s) (mp_lk hA 1 rfl) (by first | with_reducible assumption | omega) (by first | with_reducible assumption | omega) (by first | with_reducible assumption | omega)) ⟨Nat.le_of_ble_eq_true rfl, Nat.le_of_ble_eq_true rfl, Nat.le_of_ble_eq_true rfl, Nat.le_of_ble_eq_true rfl, Nat.le_of_ble_eq_true rfl⟩ rfl rfl rfl rfl ?_
      have b2 := mp_seen_bd (kind := s (1 + 6 * k + 0)) (f := s (1 + 6 * k + 1)) (col := s (1 + 6 * k + 2)) (slope := s (1 + 6 * k + 3)) (roof := c) (by omega)
      refine mp_aload_n dX12_bestRoof_63 rfl ?_
      refine mp_getfield dX12_bestRoof_64 fsX12_9_11 (mp_lk hA 0 rfl) rfl ?_
      refine mp_iload_n dX12_bestRoof_67 rfl ?_
      refine mp_invS (z := (mX12_need, 1, 0, 0)) (K' := (0, 0)) (σ1 := A ++ (mp_ms s m img was num pro ask kp kk kf so sz el im pl ra re rm rf sd th ++ B)) (as := [Value.ref 45, mp_i l]) (st := [mp_i (sp_seen (s (1 + 6 * k + 0)) (s (1 + 6 * k + 1)) (s (1 + 6 * k + 2)) (s (1 + 6 * k + 3)) c), mp_i z]) (st1 := [mp_i (sp_need (s (49 + 3 * l + 1))), mp_i (sp_seen (s (1 + 6 * k + 0)) (s (1 + 6 * k + 1)) (s (1 + 6 * k + 2)) (s (1 + 6 * k + 3)) c), mp_i z]) dX12_bestRoof_68 ssX12_89 (zX12_need (r := 45) (l := l) (s := s) (mp_lk hA 1 rfl) (by first | with_reducible assumption | omega) (by first | with_reducible assumption | omega)) ⟨Nat.le_of_ble_eq_true rfl, Nat.le_of_ble_eq_true rfl, Nat.le_of_ble_eq_true rfl, Nat.le_of_ble_eq_true rfl, Nat.le_of_ble_eq_true rfl⟩ rfl rfl rfl rfl ?_
      have b3 := (show sp_need (s (49 + 3 * l + 1)) = 4 - s (49 + 3 * l + 1) / 3 from rfl)
      refine mp_invS (z := (mX12_yesBy, 0, 0, 0)) (K' := (0, 0)) (σ1 := A ++ (mp_ms s m img was num pro ask kp kk kf so sz el im pl ra re rm rf sd th ++ B)) (as := [mp_i (sp_seen (s (1 + 6 * k + 0)) (s (1 + 6 * k + 1)) (s (1 + 6 * k + 2)) (s (1 + 6 * k + 3)) c), mp_i (sp_need (s (49 + 3 * l + 1)))]) (st := [mp_i z]) (st1 := [mp_i (sp_yes (sp_seen (s (1 + 6 * k + 0)) (s (1 + 6 * k + 1)) (s (1 + 6 * k + 2)) (s (1 + 6 * k + 3)) c) (sp_need (s (49 + 3 * l + 1)))), mp_i z]) dX12_bestRoof_71 ssX12_92 (zX12_yesBy (v := (sp_seen (s (1 + 6 * k + 0)) (s (1 + 6 * k + 1)) (s (1 + 6 * k + 2)) (s (1 + 6 * k + 3)) c)) (e := (sp_need (s (49 + 3 * l + 1))))  (by first | with_reducible assumption | omega) (by first | with_reducible assumption | omega)) ⟨Nat.le_of_ble_eq_true rfl, Nat.le_of_ble_eq_true rfl, Nat.le_of_ble_eq_true rfl, Nat.le_of_ble_eq_true rfl, Nat.le_of_ble_eq_true rfl⟩ rfl rfl rfl rfl ?_
      have b4 := mp_yes_bd (sp_seen (s (1 + 6 * k + 0)) (s (1 + 6 * k + 1)) (s (1 + 6 * k + 2)) (s (1 + 6 * k + 3)) c) (sp_need (s (49 + 3 * l + 1)))
      refine mp_if_lt (tgt := 81) dX12_bestRoof_74 rfl ⟨by omega, by omega⟩ (fun h5 => ?_) (fun h5 => ?_)
      · refine mp_iconst dX12_bestRoof_81 ?_
        refine mp_iadd (z := z + 0) dX12_bestRoof_82 (by first | rfl | omega) ?_
        refine mp_istore (L' := [some (Value.ref 44), some (mp_i l), some (mp_i w), some (mp_i f), some (mp_i e), some (mp_i c), some (mp_i (z + 0)), some (mp_i k)]) dX12_bestRoof_83 (by decide) rfl ?_
        refine mp_iinc (z := k + 1) (L' := [some (Value.ref 44), some (mp_i l), some (mp_i w), some (mp_i f), some (mp_i e), some (mp_i c), some (mp_i (z + 0)), some (mp_i (k + 1))]) dX12_bestRoof_85 rfl (rfl) (by decide) rfl ?_
        refine mp_goto (tgt := 39) dX12_bestRoof_88 rfl ?_
        refine mp_loc (j := 6) (y := z + (if 0 ≤ sp_yes (sp_seen (s (1 + 6 * k + 0)) (s (1 + 6 * k + 1)) (s (1 + 6 * k + 2)) (s (1 + 6 * k + 3)) c) (sp_need (s (49 + 3 * l + 1))) then 1 else 0)) (by omega) rfl (L' := [some (Value.ref 44), some (mp_i l), some (mp_i w), some (mp_i f), some (mp_i e), some (mp_i c), some (mp_i (z + (if 0 ≤ sp_yes (sp_seen (s (1 + 6 * k + 0)) (s (1 + 6 * k + 1)) (s (1 + 6 * k + 2)) (s (1 + 6 * k + 3)) c) (sp_need (s (49 + 3 * l + 1))) then 1 else 0))), some (mp_i (k + 1))]) rfl ?_
        exact ih (k + 1) (z + (if 0 ≤ sp_yes (sp_seen (s (1 + 6 * k + 0)) (s (1 + 6 * k + 1)) (s (1 + 6 * k + 2)) (s (1 + 6 * k + 3)) c) (sp_need (s (49 + 3 * l + 1))) then 1 else 0)) f e c (by omega) hk
      · refine mp_iconst dX12_bestRoof_77 ?_
        refine mp_goto (tgt := 82) dX12_bestRoof_78 rfl ?_
        refine mp_iadd (z := z + 1) dX12_bestRoof_82 (by first | rfl | omega) ?_
        refine mp_istore (L' := [some (Value.ref 44), some (mp_i l), some (mp_i w), some (mp_i f), some (mp_i e), some (mp_i c), some (mp_i (z + 1)), some (mp_i k)]) dX12_bestRoof_83 (by decide) rfl ?_
        refine mp_iinc (z := k + 1) (L' := [some (Value.ref 44), some (mp_i l), some (mp_i w), some (mp_i f), some (mp_i e), some (mp_i c), some (mp_i (z + 1)), some (mp_i (k + 1))]) dX12_bestRoof_85 rfl (rfl) (by decide) rfl ?_
        refine mp_goto (tgt := 39) dX12_bestRoof_88 rfl ?_
        refine mp_loc (j := 6) (y := z + (if 0 ≤ sp_yes (sp_seen (s (1 + 6 * k + 0)) (s (1 + 6 * k + 1)) (s (1 + 6 * k + 2)) (s (1 + 6 * k + 3)) c) (sp_need (s (49 + 3 * l + 1))) then 1 else 0)) (by omega) rfl (L' := [some (Value.ref 44), some (mp_i l), some (mp_i w), some (mp_i f), some (mp_i e), some (mp_i c), some (mp_i (z + (if 0 ≤ sp_yes (sp_seen (s (1 + 6 * k + 0)) (s (1 + 6 * k + 1)) (s (1 + 6 * k + 2)) (s (1 + 6 * k + 3)) c) (sp_need (s (49 + 3 * l + 1))) then 1 else 0))), some (mp_i (k + 1))]) rfl ?_
        exact ih (k + 1) (z + (if 0 ≤ sp_yes (sp_seen (s (1 + 6 * k + 0)) (s (1 + 6 * k + 1)) (s (1 + 6 * k + 2)) (s (1 + 6 * k + 3)) c) (sp_need (s (49 + 3 * l + 1))) then 1 else 0)) f e c (by omega) hk
theorem lX12_bestRoof_26 {s m img was num pro ask kp kk kf so sz el : Int → Int} {im pl ra re rm rf sd th : Int} {A B : mp_H}  {l : Int} {w : Int} (hA : A.length = 44) (hs : mp_sky s) (h_l : mp_w l) (h_w : mp_w w) {R9 : mp_An} : ∀ (n : Nat) (c : Int) (p : Int × Int), ((0 ≤ c ∧ c + (n : Nat) = 16) ∧ (0 ≤ l ∧ l ≤ 4) ∧ (-1 ≤ p.2 ∧ p.2 ≤ 8)) → mp_At (mX12_bestRoof, 3, 0, 0) (0, 0) 114 [some (Value.ref 44), some (mp_i l), some (mp_i w), some (mp_i ((mp_fold (sp_bestStep s l) n c p).1)), some (mp_i ((mp_fold (sp_bestStep s l) n c p).2)), none, none, none] [] (A ++ (mp_ms s m img was num pro ask kp kk kf so sz el im pl ra re rm rf sd th ++ B)) R9 → mp_At (mX12_bestRoof, 3, 0, 0) (0, 0) 26 [some (Value.ref 44), some (mp_i l), some (mp_i w), some (mp_i p.1), some (mp_i p.2), some (mp_i c), none, none] [] (A ++ (mp_ms s m img was num pro ask kp kk kf so sz el im pl ra re rm rf sd th ++ B)) R9 := by
  intro n
  induction n with
  | zero =>
    intro c p hi hk
    have h0 := hs.1
    refine mp_iload dX12_bestRoof_26 rfl ?_
    refine mp_bipush dX12_bestRoof_28 rfl ?_
    refine mp_icmp_ge (tgt := 114) dX12_bestRoof_30 rfl ⟨by omega, by omega⟩ ⟨by omega, by omega⟩ (fun h1 => ?_) (fun h1 => ?_)
    · refine mp_drop (L' := [some (Value.ref 44), some (mp_i l), some (mp_i w), some (mp_i p.1), some (mp_i p.2), none, none, none]) [true, true, true, true, true, false, false, false] rfl ?_
      exact hk
    · exfalso; omega
  | succ n ih =>
    intro c p hi hk
    have h0 := hs.1
    have hbb := mp_best_bd hs l c
    refine mp_iload dX12_bestRoof_26 rfl ?_
    refine mp_bipush dX12_bestRoof_28 rfl ?_
    refine mp_icmp_ge (tgt := 114) dX12_bestRoof_30 rfl ⟨by omega, by omega⟩ ⟨by omega, by omega⟩ (fun h1 => ?_) (fun h1 => ?_)
    · exfalso; omega
    · refine mp_iconst dX12_bestRoof_33 ?_
      refine mp_istore (L' := [some (Value.ref 44), some (mp_i l), some (mp_i w), some (mp_i p.1), some (mp_i p.2), some (mp_i c), some (mp_i 0), none]) dX12_bestRoof_34 (by decide) rfl ?_
      refine mp_iconst dX12_bestRoof_36 ?_
      refine mp_istore (L' := [some (Value.ref 44), some (mp_i l), some (mp_i w), some (mp_i p.1), some (mp_i p.2), some (mp_i c), some (mp_i 0), some (mp_i 0)]) dX12_bestRoof_37 (by decide) rfl ?_
      refine lX12_bestRoof_39  (by first | with_reducible assumption | omega) (by first | with_reducible assumption | omega) (by first | with_reducible assumption | omega) (by first | with_reducible assumption | omega) ((s 0).toNat) 0 0 p.1 p.2 c (by omega) ?_
      refine mp_loc (j := 6) (y := sp_best s l c) rfl rfl (L' := [some (Value.ref 44), some (mp_i l), some (mp_i w), some (mp_i p.1), some (mp_i p.2), some (mp_i c), some (mp_i (sp_best s l c)), none]) rfl ?_
      refine mp_iload dX12_bestRoof_91 rfl ?_
      refine mp_iload dX12_bestRoof_93 rfl ?_
      refine mp_icmp_gt (tgt := 101) dX12_bestRoof_95 rfl ⟨by omega, by omega⟩ ⟨by omega, by omega⟩ (fun h2 => ?_) (fun h2 => ?_)
      · refine mp_iload dX12_bestRoof_101 rfl ?_
        refine mp_istore_n (L' := [some (Value.ref 44), some (mp_i l), some (mp_i w), some (mp_i c), some (mp_i p.2), some (mp_i c), some (mp_i (sp_best s l c)), none]) dX12_bestRoof_103 rfl (by decide) rfl ?_
        refine mp_iload dX12_bestRoof_104 rfl ?_
        refine mp_istore (L' := [some (Value.ref 44), some (mp_i l), some (mp_i w), some (mp_i c), some (mp_i (sp_best s l c)), some (mp_i c), some (mp_i (sp_best s l c)), none]) dX12_bestRoof_106 (by decide) rfl ?_
        refine mp_iinc (z := c + 1) (L' := [some (Value.ref 44), some (mp_i l), some (mp_i w), some (mp_i c), some (mp_i (sp_best s l c)), some (mp_i (c + 1)), some (mp_i (sp_best s l c)), none]) dX12_bestRoof_108 rfl (rfl) (by decide) rfl ?_
        refine mp_goto (tgt := 26) dX12_bestRoof_111 rfl ?_
        have e9 : sp_bestStep s l c p = (c, sp_best s l c) := by unfold sp_bestStep; first | exact if_pos (by omega) | exact if_neg (by omega)
        have k9 := ih (c + 1) (sp_bestStep s l c p) ⟨by omega, by omega, by rw [e9]; omega⟩ hk
        rw [e9] at k9
        refine mp_drop (L' := [some (Value.ref 44), some (mp_i l), some (mp_i w), some (mp_i c), some (mp_i (sp_best s l c)), some (mp_i (c + 1)), none, none]) [true, true, true, true, true, true, false, false] rfl ?_
        exact k9
      · refine mp_goto (tgt := 108) dX12_bestRoof_98 rfl ?_
        refine mp_iinc (z := c + 1) (L' := [some (Value.ref 44), some (mp_i l), some (mp_i w), some (mp_i p.1), some (mp_i p.2), some (mp_i (c + 1)), some (mp_i (sp_best s l c)), none]) dX12_bestRoof_108 rfl (rfl) (by decide) rfl ?_
        refine mp_goto (tgt := 26) dX12_bestRoof_111 rfl ?_
        have e9 : sp_bestStep s l c p = p := by unfold sp_bestStep; first | exact if_pos (by omega) | exact if_neg (by omega)
        have k9 := ih (c + 1) (sp_bestStep s l c p) ⟨by omega, by omega, by rw [e9]; omega⟩ hk
        rw [e9] at k9
        refine mp_drop (L' := [some (Value.ref 44), some (mp_i l), some (mp_i w), some (mp_i p.1), some (mp_i p.2), some (mp_i (c + 1)), none, none]) [true, true, true, true, true, true, false, false] rfl ?_
        exact k9
theorem zX12_bestRoof {s m img was num pro ask kp kk kf so sz el : Int → Int} {im pl ra re rm rf sd th : Int} {A B : mp_H}  {l : Int} {w : Int} (hA : A.length = 44) (hs : mp_sky s) (h_l : mp_w l) (h_w : mp_w w) : mp_Call (mX12_bestRoof, 3, 0, 0) [Value.ref 44, mp_i l, mp_i w] (A ++ (mp_ms s m img was num pro ask kp kk kf so sz el im pl ra re rm rf sd th ++ B)) (some (mp_i (sp_bestRoof s l w)), A ++ (mp_ms s m img was num pro ask kp kk kf so sz el im pl ra re rm rf sd th ++ B)) := by
  refine mp_Call.of (L := [some (Value.ref 44), some (mp_i l), some (mp_i w), none, none, none, none, none]) pnX12 (Nat.le_of_ble_eq_true rfl) rfl ?_
  have h0 := hs.1
  refine mp_iload_n dX12_bestRoof_0 rfl ?_
  refine mp_invS (z := (mX12_isLooker, 1, 0, 0)) (K' := (0, 0)) (σ1 := A ++ (mp_ms s m img was num pro ask kp kk kf so sz el im pl ra re rm rf sd th ++ B)) (as := [mp_i l]) (st := []) (st1 := [mp_i (if 0 ≤ l ∧ l ≤ 4 then 1 else 0)]) dX12_bestRoof_1 ssX12_128 (zX12_isLooker (l := l)  (by first | with_reducible assumption | omega)) ⟨Nat.le_of_ble_eq_true rfl, Nat.le_of_ble_eq_true rfl, Nat.le_of_ble_eq_true rfl, Nat.le_of_ble_eq_true rfl, Nat.le_of_ble_eq_true rfl⟩ rfl rfl rfl rfl ?_
  refine mp_ifb_eq (tgt := 16) dX12_bestRoof_4 rfl (fun h1 => ?_) (fun h1 => ?_)
  · refine mp_iconst dX12_bestRoof_16 ?_
    exact mp_ireturn (st := []) dX12_bestRoof_17 rfl ⟨by decide, by decide⟩ ((mp_ans (by first | with_reducible rfl | (unfold sp_bestRoof; omega) | (unfold sp_bestRoof; first | (rw [if_pos (by omega)]; done) | (rw [if_neg (by omega)]; done) | (rw [if_neg (by omega), if_pos (by omega)]; done) | (rw [if_neg (by omega), if_neg (by omega)]; done) | (rw [if_neg (by omega), if_neg (by omega), if_pos (by omega)]; done) | (rw [if_neg (by omega), if_neg (by omega), if_neg (by omega)]; done) | (rw [if_neg (by omega), if_neg (by omega), if_neg (by omega), if_pos (by omega)]; done) | (rw [if_neg (by omega), if_neg (by omega), if_neg (by omega), if_neg (by omega)]; done) | (rw [if_neg (by omega), if_neg (by omega), if_neg (by omega), if_neg (by omega), if_pos (by omega)]; done) | (rw [if_neg (by omega), if_neg (by omega), if_neg (by omega), if_neg (by omega), if_neg (by omega)]; done)))))
  · refine mp_iload_n dX12_bestRoof_7 rfl ?_
    refine mp_iconst dX12_bestRoof_8 ?_
    refine mp_iconst dX12_bestRoof_9 ?_
    refine mp_invS (z := (mX12_isIn, 0, 0, 0)) (K' := (0, 0)) (σ1 := A ++ (mp_ms s m img was num pro ask kp kk kf so sz el im pl ra re rm rf sd th ++ B)) (as := [mp_i w, mp_i 0, mp_i 1]) (st := []) (st1 := [mp_i (if 0 ≤ w ∧ w ≤ 1 then 1 else 0)]) dX12_bestRoof_10 ssX12_53 (zX12_isIn (v := w) (a := 0) (b := 1)  (by first | with_reducible assumption | omega) (by first | with_reducible assumption | omega) (by first | with_reducible assumption | omega)) ⟨Nat.le_of_ble_eq_true rfl, Nat.le_of_ble_eq_true rfl, Nat.le_of_ble_eq_true rfl, Nat.le_of_ble_eq_true rfl, Nat.le_of_ble_eq_true rfl⟩ rfl rfl rfl rfl ?_
    refine mp_ifb_ne (tgt := 18) dX12_bestRoof_13 rfl (fun h2 => ?_) (fun h2 => ?_)
    · refine mp_iconst dX12_bestRoof_18 ?_
      refine mp_istore_n (L' := [some (Value.ref 44), some (mp_i l), some (mp_i w), some (mp_i 0), none, none, none, none]) dX12_bestRoof_19 rfl (by decide) rfl ?_
      refine mp_iconst dX12_bestRoof_20 ?_
      refine mp_istore (L' := [some (Value.ref 44), some (mp_i l), some (mp_i w), some (mp_i 0), some (mp_i (-1)), none, none, none]) dX12_bestRoof_21 (by decide) rfl ?_
      refine mp_iconst dX12_bestRoof_23 ?_
      refine mp_istore (L' := [some (Value.ref 44), some (mp_i l), some (mp_i w), some (mp_i 0), some (mp_i (-1)), some (mp_i 0), none, none]) dX12_bestRoof_24 (by decide) rfl ?_
      refine lX12_bestRoof_26 hA hs h_l h_w 16 0 (0, -1) ⟨by omega, by omega, by decide, by decide⟩ ?_
      refine mp_iload_n dX12_bestRoof_114 rfl ?_
      refine mp_if_ne (tgt := 122) dX12_bestRoof_115 rfl ⟨by omega, by omega⟩ (fun h3 => ?_) (fun h3 => ?_)
      · refine mp_iload dX12_bestRoof_122 rfl ?_
        exact mp_ireturn (st := []) dX12_bestRoof_124 rfl ⟨by decide, by decide⟩ ((mp_ans (by first | with_reducible rfl | (unfold sp_bestRoof; omega) | (unfold sp_bestRoof; first | (rw [if_pos (by omega)]; done) | (rw [if_neg (by omega)]; done) | (rw [if_neg (by omega), if_pos (by omega)]; done) | (rw [if_neg (by omega), if_neg (by omega)]; done) | (rw [if_neg (by omega), if_neg (by omega), if_pos (by omega)]; done) | (rw [if_neg (by omega), if_neg (by omega), if_neg (by omega)]; done) | (rw [if_neg (by omega), if_neg (by omega), if_neg (by omega), if_pos (by omega)]; done) | (rw [if_neg (by omega), if_neg (by omega), if_neg (by omega), if_neg (by omega)]; done) | (rw [if_neg (by omega), if_neg (by omega), if_neg (by omega), if_neg (by omega), if_pos (by omega)]; done) | (rw [if_neg (by omega), if_neg (by omega), if_neg (by omega), if_neg (by omega), if_neg (by omega)]; done)))))
      · refine mp_iload_n dX12_bestRoof_118 rfl ?_
        refine mp_goto (tgt := 124) dX12_bestRoof_119 rfl ?_
        exact mp_ireturn (st := []) dX12_bestRoof_124 rfl ⟨by decide, by decide⟩ ((mp_ans (by first | with_reducible rfl | (unfold sp_bestRoof; omega) | (unfold sp_bestRoof; first | (rw [if_pos (by omega)]; done) | (rw [if_neg (by omega)]; done) | (rw [if_neg (by omega), if_pos (by omega)]; done) | (rw [if_neg (by omega), if_neg (by omega)]; done) | (rw [if_neg (by omega), if_neg (by omega), if_pos (by omega)]; done) | (rw [if_neg (by omega), if_neg (by omega), if_neg (by omega)]; done) | (rw [if_neg (by omega), if_neg (by omega), if_neg (by omega), if_pos (by omega)]; done) | (rw [if_neg (by omega), if_neg (by omega), if_neg (by omega), if_neg (by omega)]; done) | (rw [if_neg (by omega), if_neg (by omega), if_neg (by omega), if_neg (by omega), if_pos (by omega)]; done) | (rw [if_neg (by omega), if_neg (by omega), if_neg (by omega), if_neg (by omega), if_neg (by omega)]; done)))))
    · refine mp_iconst dX12_bestRoof_16 ?_
      exact mp_ireturn (st := []) dX12_bestRoof_17 rfl ⟨by decide, by decide⟩ ((mp_ans (by first | with_reducible rfl | (unfold sp_bestRoof; omega) | (unfold sp_bestRoof; first | (rw [if_pos (by omega)]; done) | (rw [if_neg (by omega)]; done) | (rw [if_neg (by omega), if_pos (by omega)]; done) | (rw [if_neg (by omega), if_neg (by omega)]; done) | (rw [if_neg (by omega), if_neg (by omega), if_pos (by omega)]; done) | (rw [if_neg (by omega), if_neg (by omega), if_neg (by omega)]; done) | (rw [if_neg (by omega), if_neg (by omega), if_neg (by omega), if_pos (by omega)]; done) | (rw [if_neg (by omega), if_neg (by omega), if_neg (by omega), if_neg (by omega)]; done) | (rw [if_neg (by omega), if_neg (by omega), if_neg (by omega), if_neg (by omega), if_pos (by omega)]; done) | (rw [if_neg (by omega), if_neg (by omega), if_neg (by omega), if_neg (by omega), if_neg (by omega)]; done)))))
