theorem lX12_count_54 {s m img was num pro ask kp kk kf so sz el : Int → Int} {im pl ra re rm rf sd th : Int} {A B : mp_H}  {w : Int} (hA : A.length = 44) (hs : mp_sky s) (h_w : mp_w w) {R9 : mp_An} : ∀ (n : Nat) (k : Int) (u : Int), ((0 ≤ k ∧ k + (n : Nat) = s 0)) → mp_At (mX12_count, 4, 0, 0) (0, 0) 81 [some (Value.ref 44), some (mp_i w), some (mp_i (mp_fold (fun k v => v + sp_lasts (s (1 + 6 * k + 0)) (s (1 + 6 * k + 1))) n k u)), none] [] (A ++ (mp_ms s m img was num pro ask kp kk kf so sz el im pl ra re rm rf sd th ++ B)) R9 → mp_At (mX12_count, 4, 0, 0) (0, 0) 54 [some (Value.ref 44), some (mp_i w), some (mp_i u), some (mp_i k)] [] (A ++ (mp_ms s m img was num pro ask kp kk kf so sz el im pl ra re rm rf sd th ++ B)) R9 := by
  intro n
  induction n with
  | zero =>
    intro k u hi hk
    have h0 := hs.1
    refine mp_iload_n dX12_count_54 rfl ?_
    refine mp_aload_n dX12_count_55 rfl ?_
    refine mp_getfield dX12_count_56 fsX12_9_11 (mp_lk hA 0 rfl) rfl ?_
    refine mp_iconst dX12_count_59 ?_
    refine mp_iald dX12_count_60 (mp_lk hA 1 rfl) ⟨by omega, by omega⟩ (by omega) ?_
    refine mp_icmp_ge (tgt := 81) dX12_count_61 rfl ⟨by omega, by omega⟩ ⟨by omega, by omega⟩ (fun h1 => ?_) (fun h1 => ?_)
    · refine mp_drop (L' := [some (Value.ref 44), some (mp_i w), some (mp_i u), none]) [true, true, true, false] rfl ?_
      exact hk
    · exfalso; omega
  | succ n ih =>
    intro k u hi hk
    have h0 := hs.1
    have hm := hs.2.1 k (by omega) (by omega)
    refine mp_iload_n dX12_count_54 rfl ?_
    refine mp_aload_n dX12_count_55 rfl ?_
    refine mp_getfield dX12_count_56 fsX12_9_11 (mp_lk hA 0 rfl) rfl ?_
    refine mp_iconst dX12_count_59 ?_
    refine mp_iald dX12_count_60 (mp_lk hA 1 rfl) ⟨by omega, by omega⟩ (by omega) ?_
    refine mp_icmp_ge (tgt := 81) dX12_count_61 rfl ⟨by omega, by omega⟩ ⟨by omega, by omega⟩ (fun h1 => ?_) (fun h1 => ?_)
    · exfalso; omega
    · refine mp_iload_n dX12_count_64 rfl ?_
      refine mp_aload_n dX12_count_65 rfl ?_
      refine mp_getfield dX12_count_66 fsX12_9_11 (mp_lk hA 0 rfl) rfl ?_
      refine mp_iload_n dX12_count_69 rfl ?_
      refine mp_invS (z := (mX12_lastsOf, 1, 0, 0)) (K' := (0, 0)) (σ1 := A ++ (mp_ms s m img was num pro ask kp kk kf so sz el im pl ra re rm rf sd th ++ B)) (as := [Value.ref 45, mp_i k]) (st := [mp_i u]) (st1 := [mp_i (sp_lasts (s (1 + 6 * k + 0)) (s (1 + 6 * k + 1))), mp_i u]) dX12_count_70 ssX12_75 (zX12_lastsOf (r := 45) (k := k) (s := s) (mp_lk hA 1 rfl) (by first | with_reducible assumption | omega) (by first | with_reducible assumption | omega)) ⟨Nat.le_of_ble_eq_true rfl, Nat.le_of_ble_eq_true rfl, Nat.le_of_ble_eq_true rfl, Nat.le_of_ble_eq_true rfl, Nat.le_of_ble_eq_true rfl⟩ rfl rfl rfl rfl ?_
      refine mp_iadd (z := u + (sp_lasts (s (1 + 6 * k + 0)) (s (1 + 6 * k + 1)))) dX12_count_73 (by first | rfl | omega) ?_
      refine mp_istore_n (L' := [some (Value.ref 44), some (mp_i w), some (mp_i (u + (sp_lasts (s (1 + 6 * k + 0)) (s (1 + 6 * k + 1))))), some (mp_i k)]) dX12_count_74 rfl (by decide) rfl ?_
      refine mp_iinc (z := k + 1) (L' := [some (Value.ref 44), some (mp_i w), some (mp_i (u + (sp_lasts (s (1 + 6 * k + 0)) (s (1 + 6 * k + 1))))), some (mp_i (k + 1))]) dX12_count_75 rfl (rfl) (by decide) rfl ?_
      refine mp_goto (tgt := 54) dX12_count_78 rfl ?_
      refine mp_loc (j := 2) (y := u + sp_lasts (s (1 + 6 * k + 0)) (s (1 + 6 * k + 1))) (by with_reducible rfl) rfl (L' := [some (Value.ref 44), some (mp_i w), some (mp_i (u + sp_lasts (s (1 + 6 * k + 0)) (s (1 + 6 * k + 1)))), some (mp_i (k + 1))]) rfl ?_
      exact ih (k + 1) (u + sp_lasts (s (1 + 6 * k + 0)) (s (1 + 6 * k + 1))) (by omega) hk
theorem lX12_count_85 {s m img was num pro ask kp kk kf so sz el : Int → Int} {im pl ra re rm rf sd th : Int} {A B : mp_H}  {w : Int} (hA : A.length = 44) (hs : mp_sky s) (h_w : mp_w w) {R9 : mp_An} : ∀ (n : Nat) (l : Int) (u : Int), ((0 ≤ l ∧ l + (n : Nat) = 5)) → mp_At (mX12_count, 4, 0, 0) (0, 0) 118 [some (Value.ref 44), some (mp_i w), some (mp_i (mp_fold (fun l v => v + s (49 + 3 * l + (if w = 3 then 1 else 0))) n l u)), none] [] (A ++ (mp_ms s m img was num pro ask kp kk kf so sz el im pl ra re rm rf sd th ++ B)) R9 → mp_At (mX12_count, 4, 0, 0) (0, 0) 85 [some (Value.ref 44), some (mp_i w), some (mp_i u), some (mp_i l)] [] (A ++ (mp_ms s m img was num pro ask kp kk kf so sz el im pl ra re rm rf sd th ++ B)) R9 := by
  intro n
  induction n with
  | zero =>
    intro l u hi hk
    refine mp_iload_n dX12_count_85 rfl ?_
    refine mp_iconst dX12_count_86 ?_
    refine mp_icmp_ge (tgt := 118) dX12_count_87 rfl ⟨by omega, by omega⟩ ⟨by omega, by omega⟩ (fun h1 => ?_) (fun h1 => ?_)
    · refine mp_drop (L' := [some (Value.ref 44), some (mp_i w), some (mp_i u), none]) [true, true, true, false] rfl ?_
      exact hk
    · exfalso; omega
  | succ n ih =>
    intro l u hi hk
    have h0 := hs.1
    have hb9 := hs.2.2.1 l (by omega) (by omega)
    refine mp_iload_n dX12_count_85 rfl ?_
    refine mp_iconst dX12_count_86 ?_
    refine mp_icmp_ge (tgt := 118) dX12_count_87 rfl ⟨by omega, by omega⟩ ⟨by omega, by omega⟩ (fun h1 => ?_) (fun h1 => ?_)
    · exfalso; omega
    · refine mp_iload_n dX12_count_90 rfl ?_
      refine mp_aload_n dX12_count_91 rfl ?_
      refine mp_getfield dX12_count_92 fsX12_9_11 (mp_lk hA 0 rfl) rfl ?_
      refine mp_iload_n dX12_count_95 rfl ?_
      refine mp_iload_n dX12_count_96 rfl ?_
      refine mp_iconst dX12_count_97 ?_
      refine mp_icmp_ne (tgt := 105) dX12_count_98 rfl ⟨by omega, by omega⟩ ⟨by omega, by omega⟩ (fun h2 => ?_) (fun h2 => ?_)
      · refine mp_iconst dX12_count_105 ?_
        refine mp_invS (z := (mX12_by, 0, 0, 0)) (K' := (0, 0)) (σ1 := A ++ (mp_ms s m img was num pro ask kp kk kf so sz el im pl ra re rm rf sd th ++ B)) (as := [mp_i l, mp_i 0]) (st := [Value.ref 45, mp_i u]) (st1 := [mp_i (49 + 3 * l + 0), Value.ref 45, mp_i u]) dX12_count_106 ssX12_49 (zX12_by (l := l) (x := 0)  ) ⟨Nat.le_of_ble_eq_true rfl, Nat.le_of_ble_eq_true rfl, Nat.le_of_ble_eq_true rfl, Nat.le_of_ble_eq_true rfl, Nat.le_of_ble_eq_true rfl⟩ rfl rfl rfl rfl ?_
        refine mp_iald dX12_count_109 (mp_lk hA 1 rfl) ⟨by omega, by omega⟩ (by omega) ?_
        refine mp_iadd (z := u + (s (49 + 3 * l + 0))) dX12_count_110 (by first | rfl | omega) ?_
        refine mp_istore_n (L' := [some (Value.ref 44), some (mp_i w), some (mp_i (u + (s (49 + 3 * l + 0)))), some (mp_i l)]) dX12_count_111 rfl (by decide) rfl ?_
        refine mp_iinc (z := l + 1) (L' := [some (Value.ref 44), some (mp_i w), some (mp_i (u + (s (49 + 3 * l + 0)))), some (mp_i (l + 1))]) dX12_count_112 rfl (rfl) (by decide) rfl ?_
        refine mp_goto (tgt := 85) dX12_count_115 rfl ?_
        refine mp_loc (j := 2) (y := u + s (49 + 3 * l + (if w = 3 then 1 else 0))) (by first | (rw [if_pos (by omega)]; done) | (rw [if_neg (by omega)]; done)) rfl (L' := [some (Value.ref 44), some (mp_i w), some (mp_i (u + s (49 + 3 * l + (if w = 3 then 1 else 0)))), some (mp_i (l + 1))]) rfl ?_
        exact ih (l + 1) (u + s (49 + 3 * l + (if w = 3 then 1 else 0))) (by omega) hk
      · refine mp_iconst dX12_count_101 ?_
        refine mp_goto (tgt := 106) dX12_count_102 rfl ?_
        refine mp_invS (z := (mX12_by, 0, 0, 0)) (K' := (0, 0)) (σ1 := A ++ (mp_ms s m img was num pro ask kp kk kf so sz el im pl ra re rm rf sd th ++ B)) (as := [mp_i l, mp_i 1]) (st := [Value.ref 45, mp_i u]) (st1 := [mp_i (49 + 3 * l + 1), Value.ref 45, mp_i u]) dX12_count_106 ssX12_49 (zX12_by (l := l) (x := 1)  ) ⟨Nat.le_of_ble_eq_true rfl, Nat.le_of_ble_eq_true rfl, Nat.le_of_ble_eq_true rfl, Nat.le_of_ble_eq_true rfl, Nat.le_of_ble_eq_true rfl⟩ rfl rfl rfl rfl ?_
        refine mp_iald dX12_count_109 (mp_lk hA 1 rfl) ⟨by omega, by omega⟩ (by omega) ?_
        refine mp_iadd (z := u + (s (49 + 3 * l + 1))) dX12_count_110 (by first | rfl | omega) ?_
        refine mp_istore_n (L' := [some (Value.ref 44), some (mp_i w), some (mp_i (u + (s (49 + 3 * l + 1)))), some (mp_i l)]) dX12_count_111 rfl (by decide) rfl ?_
        refine mp_iinc (z := l + 1) (L' := [some (Value.ref 44), some (mp_i w), some (mp_i (u + (s (49 + 3 * l + 1)))), some (mp_i (l + 1))]) dX12_count_112 rfl (rfl) (by decide) rfl ?_
        refine mp_goto (tgt := 85) dX12_count_115 rfl ?_
        refine mp_loc (j := 2) (y := u + s (49 + 3 * l + (if w = 3 then 1 else 0))) (by first | (rw [if_pos (by omega)]; done) | (rw [if_neg (by omega)]; done)) rfl (L' := [some (Value.ref 44), some (mp_i w), some (mp_i (u + s (49 + 3 * l + (if w = 3 then 1 else 0)))), some (mp_i (l + 1))]) rfl ?_
        exact ih (l + 1) (u + s (49 + 3 * l + (if w = 3 then 1 else 0))) (by omega) hk
theorem zX12_count {s m img was num pro ask kp kk kf so sz el : Int → Int} {im pl ra re rm rf sd th : Int} {A B : mp_H}  {w : Int} (hA : A.length = 44) (hs : mp_sky s) (h_w : mp_w w) : mp_Call (mX12_count, 4, 0, 0) [Value.ref 44, mp_i w] (A ++ (mp_ms s m img was num pro ask kp kk kf so sz el im pl ra re rm rf sd th ++ B)) (some (mp_i (sp_count s w)), A ++ (mp_ms s m img was num pro ask kp kk kf so sz el im pl ra re rm rf sd th ++ B)) := by
  refine mp_Call.of (L := [some (Value.ref 44), some (mp_i w), none, none]) pnX12 (Nat.le_of_ble_eq_true rfl) rfl ?_
  have h0 := hs.1
  refine mp_iconst dX12_count_0 ?_
  refine mp_istore_n (L' := [some (Value.ref 44), some (mp_i w), some (mp_i 0), none]) dX12_count_1 rfl (by decide) rfl ?_
  refine mp_iload_n dX12_count_2 rfl ?_
  by_cases q1 : w = 0
  · refine mp_top (y := 0) q1 ?_
    refine mp_tableIn (tgt := 40) (off := 37) dX12_count_3 ⟨by decide, by decide⟩ (by decide) (by decide) rfl rfl ?_
    refine mp_aload_n dX12_count_40 rfl ?_
    refine mp_getfield dX12_count_41 fsX12_9_11 (mp_lk hA 0 rfl) rfl ?_
    refine mp_iconst dX12_count_44 ?_
    refine mp_iald dX12_count_45 (mp_lk hA 1 rfl) ⟨by omega, by omega⟩ (by omega) ?_
    exact mp_ireturn (st := []) dX12_count_46 rfl ⟨by decide, by decide⟩ ((mp_ans (by exact if_pos (by omega))))
  by_cases q2 : w = 1
  · refine mp_top (y := 1) q2 ?_
    refine mp_tableIn (tgt := 47) (off := 44) dX12_count_3 ⟨by decide, by decide⟩ (by decide) (by decide) rfl rfl ?_
    refine mp_aload_n dX12_count_47 rfl ?_
    refine mp_invV (z := (mX12_heatAll, 3, 0, 0)) (K' := (0, 0)) (σ1 := A ++ (mp_ms s m img was num pro ask kp kk kf so sz el im pl ra re rm rf sd th ++ B)) (as := []) (st := []) (st1 := [mp_i (sp_heatAll s)]) dX12_count_48 svX12_228 (mp_lk hA 0 rfl) rfl rfl (zX12_heatAll  (s := s) (m := m) (img := img) (was := was) (num := num) (pro := pro) (ask := ask) (kp := kp) (kk := kk) (kf := kf) (so := so) (sz := sz) (el := el) (im := im) (pl := pl) (ra := ra) (re := re) (rm := rm) (rf := rf) (sd := sd) (th := th) (by first | with_reducible assumption | omega) (by first | with_reducible assumption | omega)) ⟨Nat.le_of_ble_eq_true rfl, Nat.le_of_ble_eq_true rfl, Nat.le_of_ble_eq_true rfl, Nat.le_of_ble_eq_true rfl, Nat.le_of_ble_eq_true rfl⟩ rfl rfl rfl rfl ?_
    exact mp_ireturn (st := []) dX12_count_51 rfl ⟨by decide, by decide⟩ ((mp_ans (by unfold sp_count; first | (rw [if_pos (by omega)]; done) | (rw [if_neg (by omega), if_pos (by omega)]; done) | (rw [if_neg (by omega), if_neg (by omega), if_pos (by omega)]; rfl) | (rw [if_neg (by omega), if_neg (by omega), if_neg (by omega), if_pos (by omega)]; unfold sp_sumL; simp only [if_pos (show w = 3 by omega)]; done) | (rw [if_neg (by omega), if_neg (by omega), if_neg (by omega), if_neg (by omega), if_pos (by omega)]; unfold sp_sumL; simp only [if_neg (show ¬ w = 3 by omega)]; done) | (rw [if_neg (by omega), if_neg (by omega), if_neg (by omega), if_neg (by omega), if_neg (by omega), if_pos (by omega)]; done) | (rw [if_neg (by omega), if_neg (by omega), if_neg (by omega), if_neg (by omega), if_neg (by omega), if_neg (by omega)]; done))))
  by_cases q3 : w = 2
  · refine mp_top (y := 2) q3 ?_
    refine mp_tableIn (tgt := 52) (off := 49) dX12_count_3 ⟨by decide, by decide⟩ (by decide) (by decide) rfl rfl ?_
    refine mp_iconst dX12_count_52 ?_
    refine mp_istore_n (L' := [some (Value.ref 44), some (mp_i w), some (mp_i 0), some (mp_i 0)]) dX12_count_53 rfl (by decide) rfl ?_
    refine lX12_count_54  (by first | with_reducible assumption | omega) (by first | with_reducible assumption | omega) (by first | with_reducible assumption | omega) ((s 0).toNat) 0 0 (by omega) ?_
    refine mp_iload_n dX12_count_81 rfl ?_
    exact mp_ireturn (st := []) dX12_count_82 rfl ⟨by decide, by decide⟩ ((mp_ans (by unfold sp_count; first | (rw [if_pos (by omega)]; done) | (rw [if_neg (by omega), if_pos (by omega)]; done) | (rw [if_neg (by omega), if_neg (by omega), if_pos (by omega)]; rfl) | (rw [if_neg (by omega), if_neg (by omega), if_neg (by omega), if_pos (by omega)]; unfold sp_sumL; simp only [if_pos (show w = 3 by omega)]; done) | (rw [if_neg (by omega), if_neg (by omega), if_neg (by omega), if_neg (by omega), if_pos (by omega)]; unfold sp_sumL; simp only [if_neg (show ¬ w = 3 by omega)]; done) | (rw [if_neg (by omega), if_neg (by omega), if_neg (by omega), if_neg (by omega), if_neg (by omega), if_pos (by omega)]; done) | (rw [if_neg (by omega), if_neg (by omega), if_neg (by omega), if_neg (by omega), if_neg (by omega), if_neg (by omega)]; done))))
  by_cases q4 : w = 3
  · refine mp_top (y := 3) q4 ?_
    refine mp_tableIn (tgt := 83) (off := 80) dX12_count_3 ⟨by decide, by decide⟩ (by decide) (by decide) rfl rfl ?_
    refine mp_iconst dX12_count_83 ?_
    refine mp_istore_n (L' := [some (Value.ref 44), some (mp_i w), some (mp_i 0), some (mp_i 0)]) dX12_count_84 rfl (by decide) rfl ?_
    refine lX12_count_85  (by first | with_reducible assumption | omega) (by first | with_reducible assumption | omega) (by first | with_reducible assumption | omega) 5 0 0 (by omega) ?_
    refine mp_iload_n dX12_count_118 rfl ?_
    exact mp_ireturn (st := []) dX12_count_119 rfl ⟨by decide, by decide⟩ ((mp_ans (by unfold sp_count; first | (rw [if_pos (by omega)]; done) | (rw [if_neg (by omega), if_pos (by omega)]; done) | (rw [if_neg (by omega), if_neg (by omega), if_pos (by omega)]; rfl) | (rw [if_neg (by omega), if_neg (by omega), if_neg (by omega), if_pos (by omega)]; unfold sp_sumL; simp only [if_pos (show w = 3 by omega)]; done) | (rw [if_neg (by omega), if_neg (by omega), if_neg (by omega), if_neg (by omega), if_pos (by omega)]; unfold sp_sumL; simp only [if_neg (show ¬ w = 3 by omega)]; done) | (rw [if_neg (by omega), if_neg (by omega), if_neg (by omega), if_neg (by omega), if_neg (by omega), if_pos (by omega)]; done) | (rw [if_neg (by omega), if_neg (by omega), if_neg (by omega), if_neg (by omega), if_neg (by omega), if_neg (by omega)]; done))))
  by_cases q5 : w = 4
  · refine mp_top (y := 4) q5 ?_
    refine mp_tableIn (tgt := 83) (off := 80) dX12_count_3 ⟨by decide, by decide⟩ (by decide) (by decide) rfl rfl ?_
    refine mp_iconst dX12_count_83 ?_
    refine mp_istore_n (L' := [some (Value.ref 44), some (mp_i w), some (mp_i 0), some (mp_i 0)]) dX12_count_84 rfl (by decide) rfl ?_
    refine lX12_count_85  (by first | with_reducible assumption | omega) (by first | with_reducible assumption | omega) (by first | with_reducible assumption | omega) 5 0 0 (by omega) ?_
    refine mp_iload_n dX12_count_118 rfl ?_
    exact mp_ireturn (st := []) dX12_count_119 rfl ⟨by decide, by decide⟩ ((mp_ans (by unfold sp_count; first | (rw [if_pos (by omega)]; done) | (rw [if_neg (by omega), if_pos (by omega)]; done) | (rw [if_neg (by omega), if_neg (by omega), if_pos (by omega)]; rfl) | (rw [if_neg (by omega), if_neg (by omega), if_neg (by omega), if_pos (by omega)]; unfold sp_sumL; simp only [if_pos (show w = 3 by omega)]; done) | (rw [if_neg (by omega), if_neg (by omega), if_neg (by omega), if_neg (by omega), if_pos (by omega)]; unfold sp_sumL; simp only [if_neg (show ¬ w = 3 by omega)]; done) | (rw [if_neg (by omega), if_neg (by omega), if_neg (by omega), if_neg (by omega), if_neg (by omega), if_pos (by omega)]; done) | (rw [if_neg (by omega), if_neg (by omega), if_neg (by omega), if_neg (by omega), if_neg (by omega), if_neg (by omega)]; done))))
  by_cases q6 : w = 5
  · refine mp_top (y := 5) q6 ?_
    refine mp_tableIn (tgt := 120) (off := 117) dX12_count_3 ⟨by decide, by decide⟩ (by decide) (by decide) rfl rfl ?_
    refine mp_aload_n dX12_count_120 rfl ?_
    refine mp_getfield dX12_count_121 fsX12_9_11 (mp_lk hA 0 rfl) rfl ?_
    refine mp_invS (z := (mX12_saidOf, 1, 0, 0)) (K' := (0, 0)) (σ1 := A ++ (mp_ms s m img was num pro ask kp kk kf so sz el im pl ra re rm rf sd th ++ B)) (as := [Value.ref 45]) (st := []) (st1 := [mp_i (sp_said s)]) dX12_count_124 ssX12_175 (zX12_saidOf (r := 45) (s := s) (mp_lk hA 1 rfl) (by first | with_reducible assumption | omega)) ⟨Nat.le_of_ble_eq_true rfl, Nat.le_of_ble_eq_true rfl, Nat.le_of_ble_eq_true rfl, Nat.le_of_ble_eq_true rfl, Nat.le_of_ble_eq_true rfl⟩ rfl rfl rfl rfl ?_
    exact mp_ireturn (st := []) dX12_count_127 rfl ⟨by decide, by decide⟩ ((mp_ans (by unfold sp_count; first | (rw [if_pos (by omega)]; done) | (rw [if_neg (by omega), if_pos (by omega)]; done) | (rw [if_neg (by omega), if_neg (by omega), if_pos (by omega)]; rfl) | (rw [if_neg (by omega), if_neg (by omega), if_neg (by omega), if_pos (by omega)]; unfold sp_sumL; simp only [if_pos (show w = 3 by omega)]; done) | (rw [if_neg (by omega), if_neg (by omega), if_neg (by omega), if_neg (by omega), if_pos (by omega)]; unfold sp_sumL; simp only [if_neg (show ¬ w = 3 by omega)]; done) | (rw [if_neg (by omega), if_neg (by omega), if_neg (by omega), if_neg (by omega), if_neg (by omega), if_pos (by omega)]; done) | (rw [if_neg (by omega), if_neg (by omega), if_neg (by omega), if_neg (by omega), if_neg (by omega), if_neg (by omega)]; done))))
  refine mp_tableOut (tgt := 128) dX12_count_3 ⟨by omega, by omega⟩ (by omega) rfl ?_
  refine mp_iconst dX12_count_128 ?_
  exact mp_ireturn (st := []) dX12_count_129 rfl ⟨by decide, by decide⟩ ((mp_ans (by unfold sp_count; first | (rw [if_pos (by omega)]; done) | (rw [if_neg (by omega), if_pos (by omega)]; done) | (rw [if_neg (by omega), if_neg (by omega), if_pos (by omega)]; rfl) | (rw [if_neg (by omega), if_neg (by omega), if_neg (by omega), if_pos (by omega)]; unfold sp_sumL; simp only [if_pos (show w = 3 by omega)]; done) | (rw [if_neg (by omega), if_neg (by omega), if_neg (by omega), if_neg (by omega), if_pos (by omega)]; unfold sp_sumL; simp only [if_neg (show ¬ w = 3 by omega)]; done) | (rw [if_neg (by omega), if_neg (by omega), if_neg (by omega), if_neg (by omega), if_neg (by omega), if_pos (by omega)]; done) | (rw [if_neg (by omega), if_neg (by omega), if_neg (by omega), if_neg (by omega), if_neg (by omega), if_neg (by omega)]; done))))
theorem lX12_goesSo_41 {s m img was num pro ask kp kk kf so sz el : Int → Int} {im pl ra re rm rf sd th : Int} {A B : mp_H}  {d : Int} (hA : A.length = 44) (hs : mp_sky s) (hh : ∀ d, 0 ≤ d → d ≤ 7 → mp_shf kp kk kf so sz d) (hel : ∀ x, mp_w (el x)) (h_d : 0 ≤ d ∧ d ≤ 7) {R9 : mp_An} : ∀ (n : Nat) (t : Int) (z : Int) (u : Int) (k : Int), ((0 ≤ t ∧ t + (n : Nat) = sz d) ∧ (z = 0 ∨ z = 1) ∧ (0 ≤ k ∧ k < s 0)) → mp_At (mX12_goesSo, 2, 0, 0) (0, 0) 111 [some (Value.ref 44), some (mp_i d), some (mp_i u), some (mp_i k), some (mp_i (mp_fold (sp_goStep s so el d k) n t z)), none, none] [] (A ++ (mp_ms s m img was num pro ask kp kk kf so sz el im pl ra re rm rf sd th ++ B)) R9 → mp_At (mX12_goesSo, 2, 0, 0) (0, 0) 41 [some (Value.ref 44), some (mp_i d), some (mp_i u), some (mp_i k), some (mp_i z), some (mp_i t), none] [] (A ++ (mp_ms s m img was num pro ask kp kk kf so sz el im pl ra re rm rf sd th ++ B)) R9 := by
  intro n
  induction n with
  | zero =>
    intro t z u k hi hk
    have hb := hh d (by omega) (by omega)
    refine mp_iload dX12_goesSo_41 rfl ?_
    refine mp_aload_n dX12_goesSo_43 rfl ?_
    refine mp_getfield dX12_goesSo_44 fsX12_43_11 (mp_lk hA 0 rfl) rfl ?_
    refine mp_iload_n dX12_goesSo_47 rfl ?_
    refine mp_iald dX12_goesSo_48 (mp_lk hA 12 rfl) ⟨by omega, by omega⟩ (by omega) ?_
    refine mp_icmp_ge (tgt := 111) dX12_goesSo_49 rfl ⟨by omega, by omega⟩ ⟨by omega, by omega⟩ (fun h1 => ?_) (fun h1 => ?_)
    · refine mp_drop (L' := [some (Value.ref 44), some (mp_i d), some (mp_i u), some (mp_i k), some (mp_i z), none, none]) [true, true, true, true, true, false, false] rfl ?_
      exact hk
    · exfalso; omega
  | succ n ih =>
    intro t z u k hi hk
    have h0 := hs.1
    have hm := hs.2.1 k (by omega) (by omega)
    have hb := hh d (by omega) (by omega)
    have hso : sp_leastOf (so d) = if so d = 0 then -128 else if so d = 1 then -32768 else -2147483648 := rfl
    refine mp_iload dX12_goesSo_41 rfl ?_
    refine mp_aload_n dX12_goesSo_43 rfl ?_
    refine mp_getfield dX12_goesSo_44 fsX12_43_11 (mp_lk hA 0 rfl) rfl ?_
    refine mp_iload_n dX12_goesSo_47 rfl ?_
    refine mp_iald dX12_goesSo_48 (mp_lk hA 12 rfl) ⟨by omega, by omega⟩ (by omega) ?_
    refine mp_icmp_ge (tgt := 111) dX12_goesSo_49 rfl ⟨by omega, by omega⟩ ⟨by omega, by omega⟩ (fun h1 => ?_) (fun h1 => ?_)
    · exfalso; omega
    · refine mp_aload_n dX12_goesSo_52 rfl ?_
      refine mp_getfield dX12_goesSo_53 fsX12_46_11 (mp_lk hA 0 rfl) rfl ?_
      refine mp_bipush dX12_goesSo_56 rfl ?_
      refine mp_iload_n dX12_goesSo_58 rfl ?_
      refine mp_imul (z := 100 * d) dX12_goesSo_59 (by first | rfl | omega) ?_
      refine mp_iload dX12_goesSo_60 rfl ?_
      refine mp_iadd (z := (100 * d) + t) dX12_goesSo_62 (by first | rfl | omega) ?_
      refine mp_iald dX12_goesSo_63 (mp_lk hA 13 rfl) ⟨by omega, by omega⟩ (by omega) ?_
      have b2 := hel ((100 * d) + t)
      refine mp_istore (L' := [some (Value.ref 44), some (mp_i d), some (mp_i u), some (mp_i k), some (mp_i z), some (mp_i t), some (mp_i (el ((100 * d) + t)))]) dX12_goesSo_64 (by decide) rfl ?_
      refine mp_iload dX12_goesSo_66 rfl ?_
      refine mp_iload dX12_goesSo_68 rfl ?_
      refine mp_aload_n dX12_goesSo_70 rfl ?_
      refine mp_getfield dX12_goesSo_71 fsX12_40_11 (mp_lk hA 0 rfl) rfl ?_
      refine mp_iload_n dX12_goesSo_74 rfl ?_
      refine mp_iald dX12_goesSo_75 (mp_lk hA 11 rfl) ⟨by omega, by omega⟩ (by omega) ?_
      refine mp_invS (z := (mX12_leastOf, 0, 0, 0)) (K' := (0, 0)) (σ1 := A ++ (mp_ms s m img was num pro ask kp kk kf so sz el im pl ra re rm rf sd th ++ B)) (as := [mp_i (so d)]) (st := [mp_i (el ((100 * d) + t)), mp_i z]) (st1 := [mp_i (sp_leastOf (so d)), mp_i (el ((100 * d) + t)), mp_i z]) dX12_goesSo_76 ssX12_205 (zX12_leastOf (o := (so d))  (by first | with_reducible assumption | omega)) ⟨Nat.le_of_ble_eq_true rfl, Nat.le_of_ble_eq_true rfl, Nat.le_of_ble_eq_true rfl, Nat.le_of_ble_eq_true rfl, Nat.le_of_ble_eq_true rfl⟩ rfl rfl rfl rfl ?_
      refine mp_icmp_eq (tgt := 97) dX12_goesSo_79 rfl ⟨by omega, by omega⟩ ⟨by omega, by omega⟩ (fun h3 => ?_) (fun h3 => ?_)
      · refine mp_iconst dX12_goesSo_97 ?_
        refine mp_goto (tgt := 102) dX12_goesSo_98 rfl ?_
        refine mp_iand (z := z) dX12_goesSo_102 (mp_z_and1 (by omega)) ?_
        refine mp_istore (L' := [some (Value.ref 44), some (mp_i d), some (mp_i u), some (mp_i k), some (mp_i z), some (mp_i t), some (mp_i (el ((100 * d) + t)))]) dX12_goesSo_103 (by decide) rfl ?_
        refine mp_iinc (z := t + 1) (L' := [some (Value.ref 44), some (mp_i d), some (mp_i u), some (mp_i k), some (mp_i z), some (mp_i (t + 1)), some (mp_i (el ((100 * d) + t)))]) dX12_goesSo_105 rfl (rfl) (by decide) rfl ?_
        refine mp_goto (tgt := 41) dX12_goesSo_108 rfl ?_
        refine mp_loc (j := 4) (y := sp_goStep s so el d k t z) (by unfold sp_goStep; first | (rw [if_pos (by omega)]; done) | (rw [if_neg (by omega)]; done)) rfl (L' := [some (Value.ref 44), some (mp_i d), some (mp_i u), some (mp_i k), some (mp_i (sp_goStep s so el d k t z)), some (mp_i (t + 1)), some (mp_i (el ((100 * d) + t)))]) rfl ?_
        refine mp_drop (L' := [some (Value.ref 44), some (mp_i d), some (mp_i u), some (mp_i k), some (mp_i (sp_goStep s so el d k t z)), some (mp_i (t + 1)), none]) [true, true, true, true, true, true, false] rfl ?_
        exact ih (t + 1) (sp_goStep s so el d k t z) u k (⟨by omega, mp_goStep_bd hi.2.1, hi.2.2⟩) hk
      · refine mp_iload dX12_goesSo_82 rfl ?_
        refine mp_aload_n dX12_goesSo_84 rfl ?_
        refine mp_getfield dX12_goesSo_85 fsX12_9_11 (mp_lk hA 0 rfl) rfl ?_
        refine mp_iload_n dX12_goesSo_88 rfl ?_
        refine mp_iload dX12_goesSo_89 rfl ?_
        refine mp_invS (z := (mX12_over, 1, 0, 0)) (K' := (0, 0)) (σ1 := A ++ (mp_ms s m img was num pro ask kp kk kf so sz el im pl ra re rm rf sd th ++ B)) (as := [Value.ref 45, mp_i k, mp_i t]) (st := [mp_i (el ((100 * d) + t)), mp_i z]) (st1 := [mp_i (sp_over (s (1 + 6 * k + 2)) (s (1 + 6 * k + 3)) t), mp_i (el ((100 * d) + t)), mp_i z]) dX12_goesSo_91 ssX12_79 (zX12_over (r := 45) (k := k) (t := t) (s := s) (mp_lk hA 1 rfl) (by first | with_reducible assumption | omega) (by first | with_reducible assumption | omega) (by first | with_reducible assumption | omega)) ⟨Nat.le_of_ble_eq_true rfl, Nat.le_of_ble_eq_true rfl, Nat.le_of_ble_eq_true rfl, Nat.le_of_ble_eq_true rfl, Nat.le_of_ble_eq_true rfl⟩ rfl rfl rfl rfl ?_
        have b4 := mp_over_bd (col := s (1 + 6 * k + 2)) (slope := s (1 + 6 * k + 3)) (step := t)
        refine mp_icmp_ne (tgt := 101) dX12_goesSo_94 rfl ⟨by omega, by omega⟩ ⟨by omega, by omega⟩ (fun h5 => ?_) (fun h5 => ?_)
        · refine mp_iconst dX12_goesSo_101 ?_
          refine mp_iand (z := 0) dX12_goesSo_102 (mp_z_and0 _) ?_
          refine mp_istore (L' := [some (Value.ref 44), some (mp_i d), some (mp_i u), some (mp_i k), some (mp_i 0), some (mp_i t), some (mp_i (el ((100 * d) + t)))]) dX12_goesSo_103 (by decide) rfl ?_
          refine mp_iinc (z := t + 1) (L' := [some (Value.ref 44), some (mp_i d), some (mp_i u), some (mp_i k), some (mp_i 0), some (mp_i (t + 1)), some (mp_i (el ((100 * d) + t)))]) dX12_goesSo_105 rfl (rfl) (by decide) rfl ?_
          refine mp_goto (tgt := 41) dX12_goesSo_108 rfl ?_
          refine mp_loc (j := 4) (y := sp_goStep s so el d k t z) (by unfold sp_goStep; first | (rw [if_pos (by omega)]; done) | (rw [if_neg (by omega)]; done)) rfl (L' := [some (Value.ref 44), some (mp_i d), some (mp_i u), some (mp_i k), some (mp_i (sp_goStep s so el d k t z)), some (mp_i (t + 1)), some (mp_i (el ((100 * d) + t)))]) rfl ?_
          refine mp_drop (L' := [some (Value.ref 44), some (mp_i d), some (mp_i u), some (mp_i k), some (mp_i (sp_goStep s so el d k t z)), some (mp_i (t + 1)), none]) [true, true, true, true, true, true, false] rfl ?_
          exact ih (t + 1) (sp_goStep s so el d k t z) u k (⟨by omega, mp_goStep_bd hi.2.1, hi.2.2⟩) hk
        · refine mp_iconst dX12_goesSo_97 ?_
          refine mp_goto (tgt := 102) dX12_goesSo_98 rfl ?_
          refine mp_iand (z := z) dX12_goesSo_102 (mp_z_and1 (by omega)) ?_
          refine mp_istore (L' := [some (Value.ref 44), some (mp_i d), some (mp_i u), some (mp_i k), some (mp_i z), some (mp_i t), some (mp_i (el ((100 * d) + t)))]) dX12_goesSo_103 (by decide) rfl ?_
          refine mp_iinc (z := t + 1) (L' := [some (Value.ref 44), some (mp_i d), some (mp_i u), some (mp_i k), some (mp_i z), some (mp_i (t + 1)), some (mp_i (el ((100 * d) + t)))]) dX12_goesSo_105 rfl (rfl) (by decide) rfl ?_
          refine mp_goto (tgt := 41) dX12_goesSo_108 rfl ?_
          refine mp_loc (j := 4) (y := sp_goStep s so el d k t z) (by unfold sp_goStep; first | (rw [if_pos (by omega)]; done) | (rw [if_neg (by omega)]; done)) rfl (L' := [some (Value.ref 44), some (mp_i d), some (mp_i u), some (mp_i k), some (mp_i (sp_goStep s so el d k t z)), some (mp_i (t + 1)), some (mp_i (el ((100 * d) + t)))]) rfl ?_
          refine mp_drop (L' := [some (Value.ref 44), some (mp_i d), some (mp_i u), some (mp_i k), some (mp_i (sp_goStep s so el d k t z)), some (mp_i (t + 1)), none]) [true, true, true, true, true, true, false] rfl ?_
          exact ih (t + 1) (sp_goStep s so el d k t z) u k (⟨by omega, mp_goStep_bd hi.2.1, hi.2.2⟩) hk
theorem lX12_goesSo_4 {s m img was num pro ask kp kk kf so sz el : Int → Int} {im pl ra re rm rf sd th : Int} {A B : mp_H}  {d : Int} (hA : A.length = 44) (hs : mp_sky s) (hh : ∀ d, 0 ≤ d → d ≤ 7 → mp_shf kp kk kf so sz d) (hel : ∀ x, mp_w (el x)) (h_d : 0 ≤ d ∧ d ≤ 7) {R9 : mp_An} : ∀ (n : Nat) (k : Int) (u : Int), ((0 ≤ k ∧ k + (n : Nat) = s 0) ∧ 0 ≤ u ∧ u < 256) → mp_At (mX12_goesSo, 2, 0, 0) (0, 0) 132 [some (Value.ref 44), some (mp_i d), some (mp_i (mp_fold (sp_goesStep s so sz el d) n k u)), none, none, none, none] [] (A ++ (mp_ms s m img was num pro ask kp kk kf so sz el im pl ra re rm rf sd th ++ B)) R9 → mp_At (mX12_goesSo, 2, 0, 0) (0, 0) 4 [some (Value.ref 44), some (mp_i d), some (mp_i u), some (mp_i k), none, none, none] [] (A ++ (mp_ms s m img was num pro ask kp kk kf so sz el im pl ra re rm rf sd th ++ B)) R9 := by
  intro n
  induction n with
  | zero =>
    intro k u hi hk
    have h0 := hs.1
    refine mp_iload_n dX12_goesSo_4 rfl ?_
    refine mp_aload_n dX12_goesSo_5 rfl ?_
    refine mp_getfield dX12_goesSo_6 fsX12_9_11 (mp_lk hA 0 rfl) rfl ?_
    refine mp_iconst dX12_goesSo_9 ?_
    refine mp_iald dX12_goesSo_10 (mp_lk hA 1 rfl) ⟨by omega, by omega⟩ (by omega) ?_
    refine mp_icmp_ge (tgt := 132) dX12_goesSo_11 rfl ⟨by omega, by omega⟩ ⟨by omega, by omega⟩ (fun h1 => ?_) (fun h1 => ?_)
    · refine mp_drop (L' := [some (Value.ref 44), some (mp_i d), some (mp_i u), none, none, none, none]) [true, true, true, false, false, false, false] rfl ?_
      exact hk
    · exfalso; omega
  | succ n ih =>
    intro k u hi hk
    have h0 := hs.1
    have hm := hs.2.1 k (by omega) (by omega)
    have hb := hh d (by omega) (by omega)
    have hla := mp_lasts_bd (kind := s (1 + 6 * k + 0)) (f := s (1 + 6 * k + 1)) (by omega)
    have hgb := mp_goes_bd s so sz el d k
    refine mp_iload_n dX12_goesSo_4 rfl ?_
    refine mp_aload_n dX12_goesSo_5 rfl ?_
    refine mp_getfield dX12_goesSo_6 fsX12_9_11 (mp_lk hA 0 rfl) rfl ?_
    refine mp_iconst dX12_goesSo_9 ?_
    refine mp_iald dX12_goesSo_10 (mp_lk hA 1 rfl) ⟨by omega, by omega⟩ (by omega) ?_
    refine mp_icmp_ge (tgt := 132) dX12_goesSo_11 rfl ⟨by omega, by omega⟩ ⟨by omega, by omega⟩ (fun h1 => ?_) (fun h1 => ?_)
    · exfalso; omega
    · refine mp_aload_n dX12_goesSo_14 rfl ?_
      refine mp_getfield dX12_goesSo_15 fsX12_43_11 (mp_lk hA 0 rfl) rfl ?_
      refine mp_iload_n dX12_goesSo_18 rfl ?_
      refine mp_iald dX12_goesSo_19 (mp_lk hA 12 rfl) ⟨by omega, by omega⟩ (by omega) ?_
      refine mp_aload_n dX12_goesSo_20 rfl ?_
      refine mp_getfield dX12_goesSo_21 fsX12_9_11 (mp_lk hA 0 rfl) rfl ?_
      refine mp_iload_n dX12_goesSo_24 rfl ?_
      refine mp_invS (z := (mX12_lastsOf, 1, 0, 0)) (K' := (0, 0)) (σ1 := A ++ (mp_ms s m img was num pro ask kp kk kf so sz el im pl ra re rm rf sd th ++ B)) (as := [Value.ref 45, mp_i k]) (st := [mp_i (sz d)]) (st1 := [mp_i (sp_lasts (s (1 + 6 * k + 0)) (s (1 + 6 * k + 1))), mp_i (sz d)]) dX12_goesSo_25 ssX12_75 (zX12_lastsOf (r := 45) (k := k) (s := s) (mp_lk hA 1 rfl) (by first | with_reducible assumption | omega) (by first | with_reducible assumption | omega)) ⟨Nat.le_of_ble_eq_true rfl, Nat.le_of_ble_eq_true rfl, Nat.le_of_ble_eq_true rfl, Nat.le_of_ble_eq_true rfl, Nat.le_of_ble_eq_true rfl⟩ rfl rfl rfl rfl ?_
      refine mp_icmp_gt (tgt := 35) dX12_goesSo_28 rfl ⟨by omega, by omega⟩ ⟨by omega, by omega⟩ (fun h2 => ?_) (fun h2 => ?_)
      · refine mp_iconst dX12_goesSo_35 ?_
        refine mp_istore (L' := [some (Value.ref 44), some (mp_i d), some (mp_i u), some (mp_i k), some (mp_i 0), none, none]) dX12_goesSo_36 (by decide) rfl ?_
        refine mp_loc (j := 4) (y := if sz d ≤ sp_lasts (s (1 + 6 * k + 0)) (s (1 + 6 * k + 1)) then 1 else 0) (by omega) rfl (L' := [some (Value.ref 44), some (mp_i d), some (mp_i u), some (mp_i k), some (mp_i (if sz d ≤ sp_lasts (s (1 + 6 * k + 0)) (s (1 + 6 * k + 1)) then 1 else 0)), none, none]) rfl ?_
        refine mp_iconst dX12_goesSo_38 ?_
        refine mp_istore (L' := [some (Value.ref 44), some (mp_i d), some (mp_i u), some (mp_i k), some (mp_i (if sz d ≤ sp_lasts (s (1 + 6 * k + 0)) (s (1 + 6 * k + 1)) then 1 else 0)), some (mp_i 0), none]) dX12_goesSo_39 (by decide) rfl ?_
        refine lX12_goesSo_41  (by first | with_reducible assumption | omega) (by first | with_reducible assumption | omega) (by first | with_reducible assumption | omega) (by first | with_reducible assumption | omega) (by first | with_reducible assumption | omega) ((sz d).toNat) 0 (if sz d ≤ sp_lasts (s (1 + 6 * k + 0)) (s (1 + 6 * k + 1)) then 1 else 0) u k (by omega) ?_
        refine mp_loc (j := 4) (y := sp_goes s so sz el d k) rfl rfl (L' := [some (Value.ref 44), some (mp_i d), some (mp_i u), some (mp_i k), some (mp_i (sp_goes s so sz el d k)), none, none]) rfl ?_
        refine mp_iload_n dX12_goesSo_111 rfl ?_
        refine mp_iload dX12_goesSo_112 rfl ?_
        refine mp_if_eq (tgt := 123) dX12_goesSo_114 rfl ⟨by omega, by omega⟩ (fun h3 => ?_) (fun h3 => ?_)
        · refine mp_iconst dX12_goesSo_123 ?_
          refine mp_ior (z := u) dX12_goesSo_124 (by rw [mp_z_or (by omega) (by omega), mp_or_0 (by omega)]) ?_
          refine mp_istore_n (L' := [some (Value.ref 44), some (mp_i d), some (mp_i u), some (mp_i k), some (mp_i (sp_goes s so sz el d k)), none, none]) dX12_goesSo_125 rfl (by decide) rfl ?_
          refine mp_iinc (z := k + 1) (L' := [some (Value.ref 44), some (mp_i d), some (mp_i u), some (mp_i (k + 1)), some (mp_i (sp_goes s so sz el d k)), none, none]) dX12_goesSo_126 rfl (rfl) (by decide) rfl ?_
          refine mp_goto (tgt := 4) dX12_goesSo_129 rfl ?_
          refine mp_loc (j := 2) (y := sp_goesStep s so sz el d k u) (by unfold sp_goesStep; first | (rw [if_pos (by omega)]; done) | (rw [if_neg (by omega)]; done)) rfl (L' := [some (Value.ref 44), some (mp_i d), some (mp_i (sp_goesStep s so sz el d k u)), some (mp_i (k + 1)), some (mp_i (sp_goes s so sz el d k)), none, none]) rfl ?_
          refine mp_drop (L' := [some (Value.ref 44), some (mp_i d), some (mp_i (sp_goesStep s so sz el d k u)), some (mp_i (k + 1)), none, none, none]) [true, true, true, true, false, false, false] rfl ?_
          exact ih (k + 1) (sp_goesStep s so sz el d k u) (⟨by omega, mp_goesStep_bd (by omega) hi.2⟩) hk
        · refine mp_iconst dX12_goesSo_117 ?_
          refine mp_iload_n dX12_goesSo_118 rfl ?_
          refine mp_ishl (z := mp_bit k) dX12_goesSo_119 (mp_z_bit ⟨by omega, by omega⟩) ?_
          refine mp_goto (tgt := 124) dX12_goesSo_120 rfl ?_
          refine mp_ior (z := mp_or u (mp_bit k)) dX12_goesSo_124 (mp_z_or (by first | omega | exact mp_bit_nn _ | exact mp_or_nn _ _ | exact mp_and_nn _ _ | exact mp_shr_nn _ _) (by first | omega | exact mp_bit_nn _ | exact mp_or_nn _ _ | exact mp_and_nn _ _ | exact mp_shr_nn _ _)) ?_
          refine mp_istore_n (L' := [some (Value.ref 44), some (mp_i d), some (mp_i (mp_or u (mp_bit k))), some (mp_i k), some (mp_i (sp_goes s so sz el d k)), none, none]) dX12_goesSo_125 rfl (by decide) rfl ?_
          refine mp_iinc (z := k + 1) (L' := [some (Value.ref 44), some (mp_i d), some (mp_i (mp_or u (mp_bit k))), some (mp_i (k + 1)), some (mp_i (sp_goes s so sz el d k)), none, none]) dX12_goesSo_126 rfl (rfl) (by decide) rfl ?_
          refine mp_goto (tgt := 4) dX12_goesSo_129 rfl ?_
          refine mp_loc (j := 2) (y := sp_goesStep s so sz el d k u) (by unfold sp_goesStep; first | (rw [if_pos (by omega)]; done) | (rw [if_neg (by omega)]; done)) rfl (L' := [some (Value.ref 44), some (mp_i d), some (mp_i (sp_goesStep s so sz el d k u)), some (mp_i (k + 1)), some (mp_i (sp_goes s so sz el d k)), none, none]) rfl ?_
          refine mp_drop (L' := [some (Value.ref 44), some (mp_i d), some (mp_i (sp_goesStep s so sz el d k u)), some (mp_i (k + 1)), none, none, none]) [true, true, true, true, false, false, false] rfl ?_
          exact ih (k + 1) (sp_goesStep s so sz el d k u) (⟨by omega, mp_goesStep_bd (by omega) hi.2⟩) hk
      · refine mp_iconst dX12_goesSo_31 ?_
        refine mp_goto (tgt := 36) dX12_goesSo_32 rfl ?_
        refine mp_istore (L' := [some (Value.ref 44), some (mp_i d), some (mp_i u), some (mp_i k), some (mp_i 1), none, none]) dX12_goesSo_36 (by decide) rfl ?_
        refine mp_loc (j := 4) (y := if sz d ≤ sp_lasts (s (1 + 6 * k + 0)) (s (1 + 6 * k + 1)) then 1 else 0) (by omega) rfl (L' := [some (Value.ref 44), some (mp_i d), some (mp_i u), some (mp_i k), some (mp_i (if sz d ≤ sp_lasts (s (1 + 6 * k + 0)) (s (1 + 6 * k + 1)) then 1 else 0)), none, none]) rfl ?_
        refine mp_iconst dX12_goesSo_38 ?_
        refine mp_istore (L' := [some (Value.ref 44), some (mp_i d), some (mp_i u), some (mp_i k), some (mp_i (if sz d ≤ sp_lasts (s (1 + 6 * k + 0)) (s (1 + 6 * k + 1)) then 1 else 0)), some (mp_i 0), none]) dX12_goesSo_39 (by decide) rfl ?_
        refine lX12_goesSo_41  (by first | with_reducible assumption | omega) (by first | with_reducible assumption | omega) (by first | with_reducible assumption | omega) (by first | with_reducible assumption | omega) (by first | with_reducible assumption | omega) ((sz d).toNat) 0 (if sz d ≤ sp_lasts (s (1 + 6 * k + 0)) (s (1 + 6 * k + 1)) then 1 else 0) u k (by omega) ?_
        refine mp_loc (j := 4) (y := sp_goes s so sz el d k) rfl rfl (L' := [some (Value.ref 44), some (mp_i d), some (mp_i u), some (mp_i k), some (mp_i (sp_goes s so sz el d k)), none, none]) rfl ?_
        refine mp_iload_n dX12_goesSo_111 rfl ?_
        refine mp_iload dX12_goesSo_112 rfl ?_
        refine mp_if_eq (tgt := 123) dX12_goesSo_114 rfl ⟨by omega, by omega⟩ (fun h4 => ?_) (fun h4 => ?_)
        · refine mp_iconst dX12_goesSo_123 ?_
          refine mp_ior (z := u) dX12_goesSo_124 (by rw [mp_z_or (by omega) (by omega), mp_or_0 (by omega)]) ?_
          refine mp_istore_n (L' := [some (Value.ref 44), some (mp_i d), some (mp_i u), some (mp_i k), some (mp_i (sp_goes s so sz el d k)), none, none]) dX12_goesSo_125 rfl (by decide) rfl ?_
          refine mp_iinc (z := k + 1) (L' := [some (Value.ref 44), some (mp_i d), some (mp_i u), some (mp_i (k + 1)), some (mp_i (sp_goes s so sz el d k)), none, none]) dX12_goesSo_126 rfl (rfl) (by decide) rfl ?_
          refine mp_goto (tgt := 4) dX12_goesSo_129 rfl ?_
          refine mp_loc (j := 2) (y := sp_goesStep s so sz el d k u) (by unfold sp_goesStep; first | (rw [if_pos (by omega)]; done) | (rw [if_neg (by omega)]; done)) rfl (L' := [some (Value.ref 44), some (mp_i d), some (mp_i (sp_goesStep s so sz el d k u)), some (mp_i (k + 1)), some (mp_i (sp_goes s so sz el d k)), none, none]) rfl ?_
          refine mp_drop (L' := [some (Value.ref 44), some (mp_i d), some (mp_i (sp_goesStep s so sz el d k u)), some (mp_i (k + 1)), none, none, none]) [true, true, true, true, false, false, false] rfl ?_
          exact ih (k + 1) (sp_goesStep s so sz el d k u) (⟨by omega, mp_goesStep_bd (by omega) hi.2⟩) hk
        · refine mp_iconst dX12_goesSo_117 ?_
          refine mp_iload_n dX12_goesSo_118 rfl ?_
          refine mp_ishl (z := mp_bit k) dX12_goesSo_119 (mp_z_bit ⟨by omega, by omega⟩) ?_
          refine mp_goto (tgt := 124) dX12_goesSo_120 rfl ?_
          refine mp_ior (z := mp_or u (mp_bit k)) dX12_goesSo_124 (mp_z_or (by first | omega | exact mp_bit_nn _ | exact mp_or_nn _ _ | exact mp_and_nn _ _ | exact mp_shr_nn _ _) (by first | omega | exact mp_bit_nn _ | exact mp_or_nn _ _ | exact mp_and_nn _ _ | exact mp_shr_nn _ _)) ?_
          refine mp_istore_n (L' := [some (Value.ref 44), some (mp_i d), some (mp_i (mp_or u (mp_bit k))), some (mp_i k), some (mp_i (sp_goes s so sz el d k)), none, none]) dX12_goesSo_125 rfl (by decide) rfl ?_
          refine mp_iinc (z := k + 1) (L' := [some (Value.ref 44), some (mp_i d), some (mp_i (mp_or u (mp_bit k))), some (mp_i (k + 1)), some (mp_i (sp_goes s so sz el d k)), none, none]) dX12_goesSo_126 rfl (rfl) (by decide) rfl ?_
          refine mp_goto (tgt := 4) dX12_goesSo_129 rfl ?_
          refine mp_loc (j := 2) (y := sp_goesStep s so sz el d k u) (by unfold sp_goesStep; first | (rw [if_pos (by omega)]; done) | (rw [if_neg (by omega)]; done)) rfl (L' := [some (Value.ref 44), some (mp_i d), some (mp_i (sp_goesStep s so sz el d k u)), some (mp_i (k + 1)), some (mp_i (sp_goes s so sz el d k)), none, none]) rfl ?_
          refine mp_drop (L' := [some (Value.ref 44), some (mp_i d), some (mp_i (sp_goesStep s so sz el d k u)), some (mp_i (k + 1)), none, none, none]) [true, true, true, true, false, false, false] rfl ?_
          exact ih (k + 1) (sp_goesStep s so sz el d k u) (⟨by omega, mp_goesStep_bd (by omega) hi.2⟩) hk
theorem zX12_goesSo {s m img was num pro ask kp kk kf so sz el : Int → Int} {im pl ra re rm rf sd th : Int} {A B : mp_H}  {d : Int} (hA : A.length = 44) (hs : mp_sky s) (hh : ∀ d, 0 ≤ d → d ≤ 7 → mp_shf kp kk kf so sz d) (hel : ∀ x, mp_w (el x)) (h_d : 0 ≤ d ∧ d ≤ 7) : mp_Call (mX12_goesSo, 2, 0, 0) [Value.ref 44, mp_i d] (A ++ (mp_ms s m img was num pro ask kp kk kf so sz el im pl ra re rm rf sd th ++ B)) (some (mp_i (sp_goesSo s so sz el d)), A ++ (mp_ms s m img was num pro ask kp kk kf so sz el im pl ra re rm rf sd th ++ B)) := by
  refine mp_Call.of (L := [some (Value.ref 44), some (mp_i d), none, none, none, none, none]) pnX12 (Nat.le_of_ble_eq_true rfl) rfl ?_
  have h0 := hs.1
  refine mp_iconst dX12_goesSo_0 ?_
  refine mp_istore_n (L' := [some (Value.ref 44), some (mp_i d), some (mp_i 0), none, none, none, none]) dX12_goesSo_1 rfl (by decide) rfl ?_
  refine mp_iconst dX12_goesSo_2 ?_
  refine mp_istore_n (L' := [some (Value.ref 44), some (mp_i d), some (mp_i 0), some (mp_i 0), none, none, none]) dX12_goesSo_3 rfl (by decide) rfl ?_
  refine lX12_goesSo_4  (by first | with_reducible assumption | omega) (by first | with_reducible assumption | omega) (by first | with_reducible assumption | omega) (by first | with_reducible assumption | omega) (by first | with_reducible assumption | omega) ((s 0).toNat) 0 0 (by omega) ?_
  refine mp_iload_n dX12_goesSo_132 rfl ?_
  exact mp_ireturn (st := []) dX12_goesSo_133 rfl ⟨by decide, by decide⟩ ((mp_ans (by first | with_reducible rfl | omega | rfl)))
theorem lX12_curve_74 {s m img was num pro ask kp kk kf so sz el : Int → Int} {im pl ra re rm rf sd th : Int} {A B : mp_H}  {d : Int} {w : Int} (hA : A.length = 44) (hs : mp_sky s) (hh : ∀ d, 0 ≤ d → d ≤ 7 → mp_shf kp kk kf so sz d) (hel : ∀ x, mp_w (el x)) (h_d : mp_w d) (h_w : mp_w w) {R9 : mp_An} : ∀ (n : Nat) (k : Int) (z : Int) (g : Int) (f : Int) (e : Int) (c : Int), ((0 ≤ k ∧ k + (n : Nat) = s 0) ∧ (0 ≤ c ∧ c ≤ 15) ∧ (0 ≤ d ∧ d ≤ 7) ∧ (0 ≤ g ∧ g < 256)) → mp_At (mX12_curve, 3, 0, 0) (0, 0) 150 [some (Value.ref 44), some (mp_i d), some (mp_i w), none, some (mp_i g), some (mp_i f), some (mp_i e), some (mp_i c), some (mp_i (mp_fold (sp_vote s sz d g c) n k z)), none] [] (A ++ (mp_ms s m img was num pro ask kp kk kf so sz el im pl ra re rm rf sd th ++ B)) R9 → mp_At (mX12_curve, 3, 0, 0) (0, 0) 74 [some (Value.ref 44), some (mp_i d), some (mp_i w), none, some (mp_i g), some (mp_i f), some (mp_i e), some (mp_i c), some (mp_i z), some (mp_i k)] [] (A ++ (mp_ms s m img was num pro ask kp kk kf so sz el im pl ra re rm rf sd th ++ B)) R9 := by
  intro n
  induction n with
  | zero =>
    intro k z g f e c hi hk
    have h0 := hs.1
    refine mp_iload dX12_curve_74 rfl ?_
    refine mp_aload_n dX12_curve_76 rfl ?_
    refine mp_getfield dX12_curve_77 fsX12_9_11 (mp_lk hA 0 rfl) rfl ?_
    refine mp_iconst dX12_curve_80 ?_
    refine mp_iald dX12_curve_81 (mp_lk hA 1 rfl) ⟨by omega, by omega⟩ (by omega) ?_
    refine mp_icmp_ge (tgt := 150) dX12_curve_82 rfl ⟨by omega, by omega⟩ ⟨by omega, by omega⟩ (fun h1 => ?_) (fun h1 => ?_)
    · refine mp_drop (L' := [some (Value.ref 44), some (mp_i d), some (mp_i w), none, some (mp_i g), some (mp_i f), some (mp_i e), some (mp_i c), some (mp_i z), none]) [true, true, true, false, true, true, true, true, true, false] rfl ?_
      exact hk
    · exfalso; omega
  | succ n ih =>
    intro k z g f e c hi hk
    have h0 := hs.1
    have hm := hs.2.1 k (by omega) (by omega)
    have hb := hh d (by omega) (by omega)
    have hla := mp_lasts_bd (kind := s (1 + 6 * k + 0)) (f := s (1 + 6 * k + 1)) (by omega)
    have hbb := mp_b_bd g k
    refine mp_iload dX12_curve_74 rfl ?_
    refine mp_aload_n dX12_curve_76 rfl ?_
    refine mp_getfield dX12_curve_77 fsX12_9_11 (mp_lk hA 0 rfl) rfl ?_
    refine mp_iconst dX12_curve_80 ?_
    refine mp_iald dX12_curve_81 (mp_lk hA 1 rfl) ⟨by omega, by omega⟩ (by omega) ?_
    refine mp_icmp_ge (tgt := 150) dX12_curve_82 rfl ⟨by omega, by omega⟩ ⟨by omega, by omega⟩ (fun h1 => ?_) (fun h1 => ?_)
    · exfalso; omega
    · refine mp_iload dX12_curve_85 rfl ?_
      refine mp_iload dX12_curve_87 rfl ?_
      refine mp_iload dX12_curve_89 rfl ?_
      refine mp_ishr (z := mp_shr g k) dX12_curve_91 (mp_z_shr ⟨by omega, by omega⟩ ⟨by omega, by omega⟩) ?_
      refine mp_iconst dX12_curve_92 ?_
      refine mp_iand (z := sp_b g k) dX12_curve_93 (mp_z_b _ _) ?_
      refine mp_iconst dX12_curve_94 ?_
      refine mp_icmp_ne (tgt := 140) dX12_curve_95 rfl ⟨by omega, by omega⟩ ⟨by omega, by omega⟩ (fun h2 => ?_) (fun h2 => ?_)
      · refine mp_iconst dX12_curve_140 ?_
        refine mp_iadd (z := z + 0) dX12_curve_141 (by first | rfl | omega) ?_
        refine mp_istore (L' := [some (Value.ref 44), some (mp_i d), some (mp_i w), none, some (mp_i g), some (mp_i f), some (mp_i e), some (mp_i c), some (mp_i (z + 0)), some (mp_i k)]) dX12_curve_142 (by decide) rfl ?_
        refine mp_iinc (z := k + 1) (L' := [some (Value.ref 44), some (mp_i d), some (mp_i w), none, some (mp_i g), some (mp_i f), some (mp_i e), some (mp_i c), some (mp_i (z + 0)), some (mp_i (k + 1))]) dX12_curve_144 rfl (rfl) (by decide) rfl ?_
        refine mp_goto (tgt := 74) dX12_curve_147 rfl ?_
        refine mp_loc (j := 8) (y := sp_vote s sz d g c k z) (by unfold sp_vote; first | (rw [if_pos ⟨by omega, by omega, by omega⟩]; done) | (rw [if_neg (by omega)]; done) | (rw [if_neg (by omega)]; omega)) rfl (L' := [some (Value.ref 44), some (mp_i d), some (mp_i w), none, some (mp_i g), some (mp_i f), some (mp_i e), some (mp_i c), some (mp_i (sp_vote s sz d g c k z)), some (mp_i (k + 1))]) rfl ?_
        exact ih (k + 1) (sp_vote s sz d g c k z) g f e c (by omega) hk
      · refine mp_aload_n dX12_curve_98 rfl ?_
        refine mp_getfield dX12_curve_99 fsX12_43_11 (mp_lk hA 0 rfl) rfl ?_
        refine mp_iload_n dX12_curve_102 rfl ?_
        refine mp_iald dX12_curve_103 (mp_lk hA 12 rfl) ⟨by omega, by omega⟩ (by omega) ?_
        refine mp_aload_n dX12_curve_104 rfl ?_
        refine mp_getfield dX12_curve_105 fsX12_9_11 (mp_lk hA 0 rfl) rfl ?_
        refine mp_iload dX12_curve_108 rfl ?_
        refine mp_invS (z := (mX12_lastsOf, 1, 0, 0)) (K' := (0, 0)) (σ1 := A ++ (mp_ms s m img was num pro ask kp kk kf so sz el im pl ra re rm rf sd th ++ B)) (as := [Value.ref 45, mp_i k]) (st := [mp_i (sz d), mp_i z]) (st1 := [mp_i (sp_lasts (s (1 + 6 * k + 0)) (s (1 + 6 * k + 1))), mp_i (sz d), mp_i z]) dX12_curve_110 ssX12_75 (zX12_lastsOf (r := 45) (k := k) (s := s) (mp_lk hA 1 rfl) (by first | with_reducible assumption | omega) (by first | with_reducible assumption | omega)) ⟨Nat.le_of_ble_eq_true rfl, Nat.le_of_ble_eq_true rfl, Nat.le_of_ble_eq_true rfl, Nat.le_of_ble_eq_true rfl, Nat.le_of_ble_eq_true rfl⟩ rfl rfl rfl rfl ?_
        refine mp_icmp_ge (tgt := 140) dX12_curve_113 rfl ⟨by omega, by omega⟩ ⟨by omega, by omega⟩ (fun h3 => ?_) (fun h3 => ?_)
        · refine mp_iconst dX12_curve_140 ?_
          refine mp_iadd (z := z + 0) dX12_curve_141 (by first | rfl | omega) ?_
          refine mp_istore (L' := [some (Value.ref 44), some (mp_i d), some (mp_i w), none, some (mp_i g), some (mp_i f), some (mp_i e), some (mp_i c), some (mp_i (z + 0)), some (mp_i k)]) dX12_curve_142 (by decide) rfl ?_
          refine mp_iinc (z := k + 1) (L' := [some (Value.ref 44), some (mp_i d), some (mp_i w), none, some (mp_i g), some (mp_i f), some (mp_i e), some (mp_i c), some (mp_i (z + 0)), some (mp_i (k + 1))]) dX12_curve_144 rfl (rfl) (by decide) rfl ?_
          refine mp_goto (tgt := 74) dX12_curve_147 rfl ?_
          refine mp_loc (j := 8) (y := sp_vote s sz d g c k z) (by unfold sp_vote; first | (rw [if_pos ⟨by omega, by omega, by omega⟩]; done) | (rw [if_neg (by omega)]; done) | (rw [if_neg (by omega)]; omega)) rfl (L' := [some (Value.ref 44), some (mp_i d), some (mp_i w), none, some (mp_i g), some (mp_i f), some (mp_i e), some (mp_i c), some (mp_i (sp_vote s sz d g c k z)), some (mp_i (k + 1))]) rfl ?_
          exact ih (k + 1) (sp_vote s sz d g c k z) g f e c (by omega) hk
        · refine mp_aload_n dX12_curve_116 rfl ?_
          refine mp_getfield dX12_curve_117 fsX12_9_11 (mp_lk hA 0 rfl) rfl ?_
          refine mp_iload dX12_curve_120 rfl ?_
          refine mp_aload_n dX12_curve_122 rfl ?_
          refine mp_getfield dX12_curve_123 fsX12_43_11 (mp_lk hA 0 rfl) rfl ?_
          refine mp_iload_n dX12_curve_126 rfl ?_
          refine mp_iald dX12_curve_127 (mp_lk hA 12 rfl) ⟨by omega, by omega⟩ (by omega) ?_
          refine mp_invS (z := (mX12_over, 1, 0, 0)) (K' := (0, 0)) (σ1 := A ++ (mp_ms s m img was num pro ask kp kk kf so sz el im pl ra re rm rf sd th ++ B)) (as := [Value.ref 45, mp_i k, mp_i (sz d)]) (st := [mp_i z]) (st1 := [mp_i (sp_over (s (1 + 6 * k + 2)) (s (1 + 6 * k + 3)) (sz d)), mp_i z]) dX12_curve_128 ssX12_79 (zX12_over (r := 45) (k := k) (t := (sz d)) (s := s) (mp_lk hA 1 rfl) (by first | with_reducible assumption | omega) (by first | with_reducible assumption | omega) (by first | with_reducible assumption | omega)) ⟨Nat.le_of_ble_eq_true rfl, Nat.le_of_ble_eq_true rfl, Nat.le_of_ble_eq_true rfl, Nat.le_of_ble_eq_true rfl, Nat.le_of_ble_eq_true rfl⟩ rfl rfl rfl rfl ?_
          have b4 := mp_over_bd (col := s (1 + 6 * k + 2)) (slope := s (1 + 6 * k + 3)) (step := (sz d))
          refine mp_iload dX12_curve_131 rfl ?_
          refine mp_icmp_ne (tgt := 140) dX12_curve_133 rfl ⟨by omega, by omega⟩ ⟨by omega, by omega⟩ (fun h5 => ?_) (fun h5 => ?_)
          · refine mp_iconst dX12_curve_140 ?_
            refine mp_iadd (z := z + 0) dX12_curve_141 (by first | rfl | omega) ?_
            refine mp_istore (L' := [some (Value.ref 44), some (mp_i d), some (mp_i w), none, some (mp_i g), some (mp_i f), some (mp_i e), some (mp_i c), some (mp_i (z + 0)), some (mp_i k)]) dX12_curve_142 (by decide) rfl ?_
            refine mp_iinc (z := k + 1) (L' := [some (Value.ref 44), some (mp_i d), some (mp_i w), none, some (mp_i g), some (mp_i f), some (mp_i e), some (mp_i c), some (mp_i (z + 0)), some (mp_i (k + 1))]) dX12_curve_144 rfl (rfl) (by decide) rfl ?_
            refine mp_goto (tgt := 74) dX12_curve_147 rfl ?_
            refine mp_loc (j := 8) (y := sp_vote s sz d g c k z) (by unfold sp_vote; first | (rw [if_pos ⟨by omega, by omega, by omega⟩]; done) | (rw [if_neg (by omega)]; done) | (rw [if_neg (by omega)]; omega)) rfl (L' := [some (Value.ref 44), some (mp_i d), some (mp_i w), none, some (mp_i g), some (mp_i f), some (mp_i e), some (mp_i c), some (mp_i (sp_vote s sz d g c k z)), some (mp_i (k + 1))]) rfl ?_
            exact ih (k + 1) (sp_vote s sz d g c k z) g f e c (by omega) hk
          · refine mp_iconst dX12_curve_136 ?_
            refine mp_goto (tgt := 141) dX12_curve_137 rfl ?_
            refine mp_iadd (z := z + 1) dX12_curve_141 (by first | rfl | omega) ?_
            refine mp_istore (L' := [some (Value.ref 44), some (mp_i d), some (mp_i w), none, some (mp_i g), some (mp_i f), some (mp_i e), some (mp_i c), some (mp_i (z + 1)), some (mp_i k)]) dX12_curve_142 (by decide) rfl ?_
            refine mp_iinc (z := k + 1) (L' := [some (Value.ref 44), some (mp_i d), some (mp_i w), none, some (mp_i g), some (mp_i f), some (mp_i e), some (mp_i c), some (mp_i (z + 1)), some (mp_i (k + 1))]) dX12_curve_144 rfl (rfl) (by decide) rfl ?_
            refine mp_goto (tgt := 74) dX12_curve_147 rfl ?_
            refine mp_loc (j := 8) (y := sp_vote s sz d g c k z) (by unfold sp_vote; first | (rw [if_pos ⟨by omega, by omega, by omega⟩]; done) | (rw [if_neg (by omega)]; done) | (rw [if_neg (by omega)]; omega)) rfl (L' := [some (Value.ref 44), some (mp_i d), some (mp_i w), none, some (mp_i g), some (mp_i f), some (mp_i e), some (mp_i c), some (mp_i (sp_vote s sz d g c k z)), some (mp_i (k + 1))]) rfl ?_
            exact ih (k + 1) (sp_vote s sz d g c k z) g f e c (by omega) hk
theorem lX12_curve_61 {s m img was num pro ask kp kk kf so sz el : Int → Int} {im pl ra re rm rf sd th : Int} {A B : mp_H}  {d : Int} {w : Int} (hA : A.length = 44) (hs : mp_sky s) (hh : ∀ d, 0 ≤ d → d ≤ 7 → mp_shf kp kk kf so sz d) (hel : ∀ x, mp_w (el x)) (h_d : mp_w d) (h_w : mp_w w) {R9 : mp_An} : ∀ (n : Nat) (c : Int) (p : Int × Int) (g : Int), ((0 ≤ c ∧ c + (n : Nat) = 16) ∧ (0 ≤ d ∧ d ≤ 7) ∧ (0 ≤ g ∧ g < 256) ∧ (0 ≤ p.2 ∧ p.2 ≤ 8)) → mp_At (mX12_curve, 3, 0, 0) (0, 0) 174 [some (Value.ref 44), some (mp_i d), some (mp_i w), none, some (mp_i g), some (mp_i ((mp_fold (sp_nextStep s sz d g) n c p).1)), none, none, none, none] [] (A ++ (mp_ms s m img was num pro ask kp kk kf so sz el im pl ra re rm rf sd th ++ B)) R9 → mp_At (mX12_curve, 3, 0, 0) (0, 0) 61 [some (Value.ref 44), some (mp_i d), some (mp_i w), none, some (mp_i g), some (mp_i p.1), some (mp_i p.2), some (mp_i c), none, none] [] (A ++ (mp_ms s m img was num pro ask kp kk kf so sz el im pl ra re rm rf sd th ++ B)) R9 := by
  intro n
  induction n with
  | zero =>
    intro c p g hi hk
    have h0 := hs.1
    refine mp_iload dX12_curve_61 rfl ?_
    refine mp_bipush dX12_curve_63 rfl ?_
    refine mp_icmp_ge (tgt := 174) dX12_curve_65 rfl ⟨by omega, by omega⟩ ⟨by omega, by omega⟩ (fun h1 => ?_) (fun h1 => ?_)
    · refine mp_drop (L' := [some (Value.ref 44), some (mp_i d), some (mp_i w), none, some (mp_i g), some (mp_i p.1), none, none, none, none]) [true, true, true, false, true, true, false, false, false, false] rfl ?_
      exact hk
    · exfalso; omega
  | succ n ih =>
    intro c p g hi hk
    have h0 := hs.1
    have hvb := mp_votes_bd hs sz d g c
    refine mp_iload dX12_curve_61 rfl ?_
    refine mp_bipush dX12_curve_63 rfl ?_
    refine mp_icmp_ge (tgt := 174) dX12_curve_65 rfl ⟨by omega, by omega⟩ ⟨by omega, by omega⟩ (fun h1 => ?_) (fun h1 => ?_)
    · exfalso; omega
    · refine mp_iconst dX12_curve_68 ?_
      refine mp_istore (L' := [some (Value.ref 44), some (mp_i d), some (mp_i w), none, some (mp_i g), some (mp_i p.1), some (mp_i p.2), some (mp_i c), some (mp_i 0), none]) dX12_curve_69 (by decide) rfl ?_
      refine mp_iconst dX12_curve_71 ?_
      refine mp_istore (L' := [some (Value.ref 44), some (mp_i d), some (mp_i w), none, some (mp_i g), some (mp_i p.1), some (mp_i p.2), some (mp_i c), some (mp_i 0), some (mp_i 0)]) dX12_curve_72 (by decide) rfl ?_
      refine lX12_curve_74  (by first | with_reducible assumption | omega) (by first | with_reducible assumption | omega) (by first | with_reducible assumption | omega) (by first | with_reducible assumption | omega) (by first | with_reducible assumption | omega) (by first | with_reducible assumption | omega) ((s 0).toNat) 0 0 g p.1 p.2 c (by omega) ?_
      refine mp_loc (j := 8) (y := sp_votes s sz d g c) rfl rfl (L' := [some (Value.ref 44), some (mp_i d), some (mp_i w), none, some (mp_i g), some (mp_i p.1), some (mp_i p.2), some (mp_i c), some (mp_i (sp_votes s sz d g c)), none]) rfl ?_
      refine mp_iload dX12_curve_150 rfl ?_
      refine mp_iload dX12_curve_152 rfl ?_
      refine mp_icmp_gt (tgt := 160) dX12_curve_154 rfl ⟨by omega, by omega⟩ ⟨by omega, by omega⟩ (fun h2 => ?_) (fun h2 => ?_)
      · refine mp_iload dX12_curve_160 rfl ?_
        refine mp_istore (L' := [some (Value.ref 44), some (mp_i d), some (mp_i w), none, some (mp_i g), some (mp_i c), some (mp_i p.2), some (mp_i c), some (mp_i (sp_votes s sz d g c)), none]) dX12_curve_162 (by decide) rfl ?_
        refine mp_iload dX12_curve_164 rfl ?_
        refine mp_istore (L' := [some (Value.ref 44), some (mp_i d), some (mp_i w), none, some (mp_i g), some (mp_i c), some (mp_i (sp_votes s sz d g c)), some (mp_i c), some (mp_i (sp_votes s sz d g c)), none]) dX12_curve_166 (by decide) rfl ?_
        refine mp_iinc (z := c + 1) (L' := [some (Value.ref 44), some (mp_i d), some (mp_i w), none, some (mp_i g), some (mp_i c), some (mp_i (sp_votes s sz d g c)), some (mp_i (c + 1)), some (mp_i (sp_votes s sz d g c)), none]) dX12_curve_168 rfl (rfl) (by decide) rfl ?_
        refine mp_goto (tgt := 61) dX12_curve_171 rfl ?_
        have e9 : sp_nextStep s sz d g c p = (c, sp_votes s sz d g c) := by unfold sp_nextStep; first | (rw [if_pos (by omega)]; done) | (rw [if_neg (by omega)]; done)
        have k9 := ih (c + 1) (sp_nextStep s sz d g c p) g ⟨by omega, by omega, by omega, by rw [e9]; omega⟩ hk
        rw [e9] at k9
        refine mp_drop (L' := [some (Value.ref 44), some (mp_i d), some (mp_i w), none, some (mp_i g), some (mp_i c), some (mp_i (sp_votes s sz d g c)), some (mp_i (c + 1)), none, none]) [true, true, true, false, true, true, true, true, false, false] rfl ?_
        exact k9
      · refine mp_goto (tgt := 168) dX12_curve_157 rfl ?_
        refine mp_iinc (z := c + 1) (L' := [some (Value.ref 44), some (mp_i d), some (mp_i w), none, some (mp_i g), some (mp_i p.1), some (mp_i p.2), some (mp_i (c + 1)), some (mp_i (sp_votes s sz d g c)), none]) dX12_curve_168 rfl (rfl) (by decide) rfl ?_
        refine mp_goto (tgt := 61) dX12_curve_171 rfl ?_
        have e9 : sp_nextStep s sz d g c p = p := by unfold sp_nextStep; first | (rw [if_pos (by omega)]; done) | (rw [if_neg (by omega)]; done)
        have k9 := ih (c + 1) (sp_nextStep s sz d g c p) g ⟨by omega, by omega, by omega, by rw [e9]; omega⟩ hk
        rw [e9] at k9
        refine mp_drop (L' := [some (Value.ref 44), some (mp_i d), some (mp_i w), none, some (mp_i g), some (mp_i p.1), some (mp_i p.2), some (mp_i (c + 1)), none, none]) [true, true, true, false, true, true, true, true, false, false] rfl ?_
        exact k9
theorem zX12_curve {s m img was num pro ask kp kk kf so sz el : Int → Int} {im pl ra re rm rf sd th : Int} {A B : mp_H}  {d : Int} {w : Int} (hA : A.length = 44) (hs : mp_sky s) (hh : ∀ d, 0 ≤ d → d ≤ 7 → mp_shf kp kk kf so sz d) (hel : ∀ x, mp_w (el x)) (h_d : mp_w d) (h_w : mp_w w) : mp_Call (mX12_curve, 3, 0, 0) [Value.ref 44, mp_i d, mp_i w] (A ++ (mp_ms s m img was num pro ask kp kk kf so sz el im pl ra re rm rf sd th ++ B)) (some (mp_i (sp_curve s kp so sz el d w)), A ++ (mp_ms s m img was num pro ask kp kk kf so sz el im pl ra re rm rf sd th ++ B)) := by
  refine mp_Call.of (L := [some (Value.ref 44), some (mp_i d), some (mp_i w), none, none, none, none, none, none, none]) pnX12 (Nat.le_of_ble_eq_true rfl) rfl ?_
  have h0 := hs.1
  have hw9 : sp_wrongRow kp so d (-1) = if ¬ (0 ≤ d ∧ d ≤ 7) then -1 else if kp d = 0 then -11 else if kp d ≠ 2 ∨ (0 ≤ (-1 : Int) ∧ so d ≠ (-1)) then -12 else 0 := rfl
  refine mp_iload_n dX12_curve_0 rfl ?_
  refine mp_iconst dX12_curve_1 ?_
  refine mp_iconst dX12_curve_2 ?_
  refine mp_invS (z := (mX12_isIn, 0, 0, 0)) (K' := (0, 0)) (σ1 := A ++ (mp_ms s m img was num pro ask kp kk kf so sz el im pl ra re rm rf sd th ++ B)) (as := [mp_i w, mp_i 0, mp_i 2]) (st := []) (st1 := [mp_i (if 0 ≤ w ∧ w ≤ 2 then 1 else 0)]) dX12_curve_3 ssX12_53 (zX12_isIn (v := w) (a := 0) (b := 2)  (by first | with_reducible assumption | omega) (by first | with_reducible assumption | omega) (by first | with_reducible assumption | omega)) ⟨Nat.le_of_ble_eq_true rfl, Nat.le_of_ble_eq_true rfl, Nat.le_of_ble_eq_true rfl, Nat.le_of_ble_eq_true rfl, Nat.le_of_ble_eq_true rfl⟩ rfl rfl rfl rfl ?_
  refine mp_ifb_ne (tgt := 11) dX12_curve_6 rfl (fun h1 => ?_) (fun h1 => ?_)
  · refine mp_aload_n dX12_curve_11 rfl ?_
    refine mp_iload_n dX12_curve_12 rfl ?_
    refine mp_iconst dX12_curve_13 ?_
    refine mp_invV (z := (mX12_wrongRow, 2, 0, 0)) (K' := (0, 0)) (σ1 := A ++ (mp_ms s m img was num pro ask kp kk kf so sz el im pl ra re rm rf sd th ++ B)) (as := [mp_i d, mp_i (-1)]) (st := []) (st1 := [mp_i (sp_wrongRow kp so d (-1))]) dX12_curve_14 svX12_145 (mp_lk hA 0 rfl) rfl rfl (zX12_wrongRow (d := d) (o := (-1)) (s := s) (m := m) (img := img) (was := was) (num := num) (pro := pro) (ask := ask) (kp := kp) (kk := kk) (kf := kf) (so := so) (sz := sz) (el := el) (im := im) (pl := pl) (ra := ra) (re := re) (rm := rm) (rf := rf) (sd := sd) (th := th) (by first | with_reducible assumption | omega) (by first | with_reducible assumption | omega) (by first | with_reducible assumption | omega) (by first | with_reducible assumption | omega)) ⟨Nat.le_of_ble_eq_true rfl, Nat.le_of_ble_eq_true rfl, Nat.le_of_ble_eq_true rfl, Nat.le_of_ble_eq_true rfl, Nat.le_of_ble_eq_true rfl⟩ rfl rfl rfl rfl ?_
    refine mp_istore_n (L' := [some (Value.ref 44), some (mp_i d), some (mp_i w), some (mp_i (sp_wrongRow kp so d (-1))), none, none, none, none, none, none]) dX12_curve_17 rfl (by decide) rfl ?_
    refine mp_iload_n dX12_curve_18 rfl ?_
    refine mp_if_eq (tgt := 24) dX12_curve_19 rfl ⟨by omega, by omega⟩ (fun h2 => ?_) (fun h2 => ?_)
    · have hb := hh d (by omega) (by omega)
      have hgs := mp_goesSo_bd (so := so) (sz := sz) (el := el) hs d
      refine mp_aload_n dX12_curve_24 rfl ?_
      refine mp_iload_n dX12_curve_25 rfl ?_
      refine mp_invV (z := (mX12_goesSo, 2, 0, 0)) (K' := (0, 0)) (σ1 := A ++ (mp_ms s m img was num pro ask kp kk kf so sz el im pl ra re rm rf sd th ++ B)) (as := [mp_i d]) (st := []) (st1 := [mp_i (sp_goesSo s so sz el d)]) dX12_curve_26 svX12_208 (mp_lk hA 0 rfl) rfl rfl (zX12_goesSo (d := d) (s := s) (m := m) (img := img) (was := was) (num := num) (pro := pro) (ask := ask) (kp := kp) (kk := kk) (kf := kf) (so := so) (sz := sz) (el := el) (im := im) (pl := pl) (ra := ra) (re := re) (rm := rm) (rf := rf) (sd := sd) (th := th) (by first | with_reducible assumption | omega) (by first | with_reducible assumption | omega) (by first | with_reducible assumption | omega) (by first | with_reducible assumption | omega) (by first | with_reducible assumption | omega)) ⟨Nat.le_of_ble_eq_true rfl, Nat.le_of_ble_eq_true rfl, Nat.le_of_ble_eq_true rfl, Nat.le_of_ble_eq_true rfl, Nat.le_of_ble_eq_true rfl⟩ rfl rfl rfl rfl ?_
      refine mp_istore (L' := [some (Value.ref 44), some (mp_i d), some (mp_i w), some (mp_i (sp_wrongRow kp so d (-1))), some (mp_i (sp_goesSo s so sz el d)), none, none, none, none, none]) dX12_curve_29 (by decide) rfl ?_
      refine mp_iload_n dX12_curve_31 rfl ?_
      refine mp_iconst dX12_curve_32 ?_
      refine mp_icmp_ge (tgt := 51) dX12_curve_33 rfl ⟨by omega, by omega⟩ ⟨by omega, by omega⟩ (fun h3 => ?_) (fun h3 => ?_)
      · refine mp_bipush dX12_curve_51 rfl ?_
        refine mp_istore (L' := [some (Value.ref 44), some (mp_i d), some (mp_i w), some (mp_i (sp_wrongRow kp so d (-1))), some (mp_i (sp_goesSo s so sz el d)), some (mp_i (-4)), none, none, none, none]) dX12_curve_53 (by decide) rfl ?_
        refine mp_iconst dX12_curve_55 ?_
        refine mp_istore (L' := [some (Value.ref 44), some (mp_i d), some (mp_i w), some (mp_i (sp_wrongRow kp so d (-1))), some (mp_i (sp_goesSo s so sz el d)), some (mp_i (-4)), some (mp_i 0), none, none, none]) dX12_curve_56 (by decide) rfl ?_
        refine mp_iconst dX12_curve_58 ?_
        refine mp_istore (L' := [some (Value.ref 44), some (mp_i d), some (mp_i w), some (mp_i (sp_wrongRow kp so d (-1))), some (mp_i (sp_goesSo s so sz el d)), some (mp_i (-4)), some (mp_i 0), some (mp_i 0), none, none]) dX12_curve_59 (by decide) rfl ?_
        refine mp_drop (L' := [some (Value.ref 44), some (mp_i d), some (mp_i w), none, some (mp_i (sp_goesSo s so sz el d)), some (mp_i (-4)), some (mp_i 0), some (mp_i 0), none, none]) [true, true, true, false, true, true, true, true, true, true] rfl ?_
        refine lX12_curve_61 hA hs hh hel h_d h_w 16 0 (-4, 0) (sp_goesSo s so sz el d) ⟨by omega, by omega, by omega, by decide, by decide⟩ ?_
        refine mp_loc (j := 5) (y := sp_next s sz d (sp_goesSo s so sz el d)) rfl rfl (L' := [some (Value.ref 44), some (mp_i d), some (mp_i w), none, some (mp_i (sp_goesSo s so sz el d)), some (mp_i (sp_next s sz d (sp_goesSo s so sz el d))), none, none, none, none]) rfl ?_
        refine mp_iload dX12_curve_174 rfl ?_
        exact mp_ireturn (st := []) dX12_curve_176 rfl ⟨by decide, by decide⟩ ((mp_ans (by first | with_reducible rfl | (unfold sp_curve; omega) | (unfold sp_curve; first | (rw [if_pos (by omega)]; done) | (rw [if_neg (by omega)]; done) | (rw [if_neg (by omega), if_pos (by omega)]; done) | (rw [if_neg (by omega), if_neg (by omega)]; done) | (rw [if_neg (by omega), if_neg (by omega), if_pos (by omega)]; done) | (rw [if_neg (by omega), if_neg (by omega), if_neg (by omega)]; done) | (rw [if_neg (by omega), if_neg (by omega), if_neg (by omega), if_pos (by omega)]; done) | (rw [if_neg (by omega), if_neg (by omega), if_neg (by omega), if_neg (by omega)]; done) | (rw [if_neg (by omega), if_neg (by omega), if_neg (by omega), if_neg (by omega), if_pos (by omega)]; done) | (rw [if_neg (by omega), if_neg (by omega), if_neg (by omega), if_neg (by omega), if_neg (by omega)]; done)))))
      · refine mp_iload_n dX12_curve_36 rfl ?_
        refine mp_if_ne (tgt := 45) dX12_curve_37 rfl ⟨by omega, by omega⟩ (fun h4 => ?_) (fun h4 => ?_)
        · refine mp_iload dX12_curve_45 rfl ?_
          refine mp_invS (z := (mX12_bits, 0, 0, 0)) (K' := (0, 0)) (σ1 := A ++ (mp_ms s m img was num pro ask kp kk kf so sz el im pl ra re rm rf sd th ++ B)) (as := [mp_i (sp_goesSo s so sz el d)]) (st := []) (st1 := [mp_i (sp_bits (sp_goesSo s so sz el d))]) dX12_curve_47 ssX12_178 (zX12_bits (v := (sp_goesSo s so sz el d))  (by first | with_reducible assumption | omega)) ⟨Nat.le_of_ble_eq_true rfl, Nat.le_of_ble_eq_true rfl, Nat.le_of_ble_eq_true rfl, Nat.le_of_ble_eq_true rfl, Nat.le_of_ble_eq_true rfl⟩ rfl rfl rfl rfl ?_
          exact mp_ireturn (st := []) dX12_curve_50 rfl ⟨by decide, by decide⟩ ((mp_ans (by first | with_reducible rfl | (unfold sp_curve; omega) | (unfold sp_curve; first | (rw [if_pos (by omega)]; done) | (rw [if_neg (by omega)]; done) | (rw [if_neg (by omega), if_pos (by omega)]; done) | (rw [if_neg (by omega), if_neg (by omega)]; done) | (rw [if_neg (by omega), if_neg (by omega), if_pos (by omega)]; done) | (rw [if_neg (by omega), if_neg (by omega), if_neg (by omega)]; done) | (rw [if_neg (by omega), if_neg (by omega), if_neg (by omega), if_pos (by omega)]; done) | (rw [if_neg (by omega), if_neg (by omega), if_neg (by omega), if_neg (by omega)]; done) | (rw [if_neg (by omega), if_neg (by omega), if_neg (by omega), if_neg (by omega), if_pos (by omega)]; done) | (rw [if_neg (by omega), if_neg (by omega), if_neg (by omega), if_neg (by omega), if_neg (by omega)]; done)))))
        · refine mp_iload dX12_curve_40 rfl ?_
          refine mp_goto (tgt := 50) dX12_curve_42 rfl ?_
          exact mp_ireturn (st := []) dX12_curve_50 rfl ⟨by decide, by decide⟩ ((mp_ans (by first | with_reducible rfl | (unfold sp_curve; omega) | (unfold sp_curve; first | (rw [if_pos (by omega)]; done) | (rw [if_neg (by omega)]; done) | (rw [if_neg (by omega), if_pos (by omega)]; done) | (rw [if_neg (by omega), if_neg (by omega)]; done) | (rw [if_neg (by omega), if_neg (by omega), if_pos (by omega)]; done) | (rw [if_neg (by omega), if_neg (by omega), if_neg (by omega)]; done) | (rw [if_neg (by omega), if_neg (by omega), if_neg (by omega), if_pos (by omega)]; done) | (rw [if_neg (by omega), if_neg (by omega), if_neg (by omega), if_neg (by omega)]; done) | (rw [if_neg (by omega), if_neg (by omega), if_neg (by omega), if_neg (by omega), if_pos (by omega)]; done) | (rw [if_neg (by omega), if_neg (by omega), if_neg (by omega), if_neg (by omega), if_neg (by omega)]; done)))))
    · refine mp_iload_n dX12_curve_22 rfl ?_
      exact mp_ireturn (st := []) dX12_curve_23 rfl ⟨by decide, by decide⟩ ((mp_ans (by first | with_reducible rfl | (unfold sp_curve; omega) | (unfold sp_curve; first | (rw [if_pos (by omega)]; done) | (rw [if_neg (by omega)]; done) | (rw [if_neg (by omega), if_pos (by omega)]; done) | (rw [if_neg (by omega), if_neg (by omega)]; done) | (rw [if_neg (by omega), if_neg (by omega), if_pos (by omega)]; done) | (rw [if_neg (by omega), if_neg (by omega), if_neg (by omega)]; done) | (rw [if_neg (by omega), if_neg (by omega), if_neg (by omega), if_pos (by omega)]; done) | (rw [if_neg (by omega), if_neg (by omega), if_neg (by omega), if_neg (by omega)]; done) | (rw [if_neg (by omega), if_neg (by omega), if_neg (by omega), if_neg (by omega), if_pos (by omega)]; done) | (rw [if_neg (by omega), if_neg (by omega), if_neg (by omega), if_neg (by omega), if_neg (by omega)]; done)))))
  · refine mp_iconst dX12_curve_9 ?_
    exact mp_ireturn (st := []) dX12_curve_10 rfl ⟨by decide, by decide⟩ ((mp_ans (by first | with_reducible rfl | (unfold sp_curve; omega) | (unfold sp_curve; first | (rw [if_pos (by omega)]; done) | (rw [if_neg (by omega)]; done) | (rw [if_neg (by omega), if_pos (by omega)]; done) | (rw [if_neg (by omega), if_neg (by omega)]; done) | (rw [if_neg (by omega), if_neg (by omega), if_pos (by omega)]; done) | (rw [if_neg (by omega), if_neg (by omega), if_neg (by omega)]; done) | (rw [if_neg (by omega), if_neg (by omega), if_neg (by omega), if_pos (by omega)]; done) | (rw [if_neg (by omega), if_neg (by omega), if_neg (by omega), if_neg (by omega)]; done) | (rw [if_neg (by omega), if_neg (by omega), if_neg (by omega), if_neg (by omega), if_pos (by omega)]; done) | (rw [if_neg (by omega), if_neg (by omega), if_neg (by omega), if_neg (by omega), if_neg (by omega)]; done)))))
theorem lX12_forged_15 {s m img was num pro ask kp kk kf so sz el : Int → Int} {im pl ra re rm rf sd th : Int} {A B : mp_H}  {d : Int} (hA : A.length = 44) (hs : mp_sky s) (hh : ∀ d, 0 ≤ d → d ≤ 7 → mp_shf kp kk kf so sz d) (hel : ∀ x, mp_w (el x)) (h_d : mp_w d) {R9 : mp_An} : ∀ (n : Nat) (t : Int), ((0 ≤ t ∧ t + (n : Nat) = sz d) ∧ (0 ≤ d ∧ d ≤ 7)) → R9 = (some (mp_i (sp_forgedN s el d n t)), A ++ (mp_ms s m img was num pro ask kp kk kf so sz el im pl ra re rm rf sd th ++ B)) → mp_At (mX12_forged, 5, 0, 0) (0, 0) 15 [some (Value.ref 44), some (mp_i d), none, some (mp_i t), none] [] (A ++ (mp_ms s m img was num pro ask kp kk kf so sz el im pl ra re rm rf sd th ++ B)) R9 := by
  intro n
  induction n with
  | zero =>
    intro t hi hR
    have hb := hh d (by omega) (by omega)
    refine mp_iload_n dX12_forged_15 rfl ?_
    refine mp_aload_n dX12_forged_16 rfl ?_
    refine mp_getfield dX12_forged_17 fsX12_43_11 (mp_lk hA 0 rfl) rfl ?_
    refine mp_iload_n dX12_forged_20 rfl ?_
    refine mp_iald dX12_forged_21 (mp_lk hA 12 rfl) ⟨by omega, by omega⟩ (by omega) ?_
    refine mp_icmp_ge (tgt := 80) dX12_forged_22 rfl ⟨by omega, by omega⟩ ⟨by omega, by omega⟩ (fun h1 => ?_) (fun h1 => ?_)
    · refine mp_bipush dX12_forged_80 rfl ?_
      exact mp_ireturn (st := []) dX12_forged_82 rfl ⟨by decide, by decide⟩ (hR.trans (mp_ans (by rfl)))
    · exfalso; omega
  | succ n ih =>
    intro t hi hR
    have h0 := hs.1
    have hb := hh d (by omega) (by omega)
    have hl := hs.2.2.1
    have htb := mp_taker_bd s t 0
    refine mp_iload_n dX12_forged_15 rfl ?_
    refine mp_aload_n dX12_forged_16 rfl ?_
    refine mp_getfield dX12_forged_17 fsX12_43_11 (mp_lk hA 0 rfl) rfl ?_
    refine mp_iload_n dX12_forged_20 rfl ?_
    refine mp_iald dX12_forged_21 (mp_lk hA 12 rfl) ⟨by omega, by omega⟩ (by omega) ?_
    refine mp_icmp_ge (tgt := 80) dX12_forged_22 rfl ⟨by omega, by omega⟩ ⟨by omega, by omega⟩ (fun h1 => ?_) (fun h1 => ?_)
    · exfalso; omega
    · refine mp_aload_n dX12_forged_25 rfl ?_
      refine mp_iload_n dX12_forged_26 rfl ?_
      refine mp_invV (z := (mX12_isMeteor, 1, 0, 0)) (K' := (0, 0)) (σ1 := A ++ (mp_ms s m img was num pro ask kp kk kf so sz el im pl ra re rm rf sd th ++ B)) (as := [mp_i t]) (st := []) (st1 := [mp_i (if 0 ≤ t ∧ t ≤ s 0 - 1 then 1 else 0)]) dX12_forged_27 svX12_158 (mp_lk hA 0 rfl) rfl rfl (zX12_isMeteor (k := t) (s := s) (m := m) (img := img) (was := was) (num := num) (pro := pro) (ask := ask) (kp := kp) (kk := kk) (kf := kf) (so := so) (sz := sz) (el := el) (im := im) (pl := pl) (ra := ra) (re := re) (rm := rm) (rf := rf) (sd := sd) (th := th) (by first | with_reducible assumption | omega) (by first | with_reducible assumption | omega) (by first | with_reducible assumption | omega)) ⟨Nat.le_of_ble_eq_true rfl, Nat.le_of_ble_eq_true rfl, Nat.le_of_ble_eq_true rfl, Nat.le_of_ble_eq_true rfl, Nat.le_of_ble_eq_true rfl⟩ rfl rfl rfl rfl ?_
      refine mp_ifb_ne (tgt := 35) dX12_forged_30 rfl (fun h2 => ?_) (fun h2 => ?_)
      · have hm := hs.2.1 t (by omega) (by omega)
        refine mp_aload_n dX12_forged_35 rfl ?_
        refine mp_getfield dX12_forged_36 fsX12_9_11 (mp_lk hA 0 rfl) rfl ?_
        refine mp_iload_n dX12_forged_39 rfl ?_
        refine mp_iconst dX12_forged_40 ?_
        refine mp_invS (z := (mX12_takerOf, 4, 0, 0)) (K' := (0, 0)) (σ1 := A ++ (mp_ms s m img was num pro ask kp kk kf so sz el im pl ra re rm rf sd th ++ B)) (as := [Value.ref 45, mp_i t, mp_i 0]) (st := []) (st1 := [mp_i (sp_taker s t 0)]) dX12_forged_41 ssX12_102 (zX12_takerOf (r := 45) (k := t) (g := 0) (s := s) (mp_lk hA 1 rfl) (by first | with_reducible assumption | omega) (by first | with_reducible assumption | omega) (by first | with_reducible assumption | omega) (by first | with_reducible assumption | omega) (by first | with_reducible assumption | omega)) ⟨Nat.le_of_ble_eq_true rfl, Nat.le_of_ble_eq_true rfl, Nat.le_of_ble_eq_true rfl, Nat.le_of_ble_eq_true rfl, Nat.le_of_ble_eq_true rfl⟩ rfl rfl rfl rfl ?_
        refine mp_istore (L' := [some (Value.ref 44), some (mp_i d), none, some (mp_i t), some (mp_i (sp_taker s t 0))]) dX12_forged_44 (by decide) rfl ?_
        refine mp_aload_n dX12_forged_46 rfl ?_
        refine mp_getfield dX12_forged_47 fsX12_46_11 (mp_lk hA 0 rfl) rfl ?_
        refine mp_bipush dX12_forged_50 rfl ?_
        refine mp_iload_n dX12_forged_52 rfl ?_
        refine mp_imul (z := 100 * d) dX12_forged_53 (by first | rfl | omega) ?_
        refine mp_iload_n dX12_forged_54 rfl ?_
        refine mp_iadd (z := (100 * d) + t) dX12_forged_55 (by first | rfl | omega) ?_
        refine mp_iald dX12_forged_56 (mp_lk hA 13 rfl) ⟨by omega, by omega⟩ (by omega) ?_
        have b3 := hel ((100 * d) + t)
        refine mp_iload dX12_forged_57 rfl ?_
        refine mp_if_ge (tgt := 67) dX12_forged_59 rfl ⟨by omega, by omega⟩ (fun h4 => ?_) (fun h4 => ?_)
        · refine mp_iload dX12_forged_67 rfl ?_
          refine mp_icmp_eq (tgt := 74) dX12_forged_69 rfl ⟨by omega, by omega⟩ ⟨by omega, by omega⟩ (fun h5 => ?_) (fun h5 => ?_)
          · refine mp_iinc (z := t + 1) (L' := [some (Value.ref 44), some (mp_i d), none, some (mp_i (t + 1)), some (mp_i (sp_taker s t 0))]) dX12_forged_74 rfl (rfl) (by decide) rfl ?_
            refine mp_goto (tgt := 15) dX12_forged_77 rfl ?_
            refine mp_drop (L' := [some (Value.ref 44), some (mp_i d), none, some (mp_i (t + 1)), none]) [true, true, false, true, false] rfl ?_
            exact ih (t + 1) (by omega) (hR.trans (by refine mp_ans ?_; exact (if_neg (by omega)).trans (if_neg (by omega))))
          · refine mp_iload_n dX12_forged_72 rfl ?_
            exact mp_ireturn (st := []) dX12_forged_73 rfl ⟨by decide, by decide⟩ (hR.trans (mp_ans (by exact (if_neg (by omega)).trans (if_pos (by omega)))))
        · refine mp_bipush dX12_forged_62 rfl ?_
          refine mp_goto (tgt := 69) dX12_forged_64 rfl ?_
          refine mp_icmp_eq (tgt := 74) dX12_forged_69 rfl ⟨by omega, by omega⟩ ⟨by omega, by omega⟩ (fun h6 => ?_) (fun h6 => ?_)
          · refine mp_iinc (z := t + 1) (L' := [some (Value.ref 44), some (mp_i d), none, some (mp_i (t + 1)), some (mp_i (sp_taker s t 0))]) dX12_forged_74 rfl (rfl) (by decide) rfl ?_
            refine mp_goto (tgt := 15) dX12_forged_77 rfl ?_
            refine mp_drop (L' := [some (Value.ref 44), some (mp_i d), none, some (mp_i (t + 1)), none]) [true, true, false, true, false] rfl ?_
            exact ih (t + 1) (by omega) (hR.trans (by refine mp_ans ?_; exact (if_neg (by omega)).trans (if_neg (by omega))))
          · refine mp_iload_n dX12_forged_72 rfl ?_
            exact mp_ireturn (st := []) dX12_forged_73 rfl ⟨by decide, by decide⟩ (hR.trans (mp_ans (by exact (if_neg (by omega)).trans (if_pos (by omega)))))
      · refine mp_iload_n dX12_forged_33 rfl ?_
        exact mp_ireturn (st := []) dX12_forged_34 rfl ⟨by decide, by decide⟩ (hR.trans (mp_ans (by exact if_pos (by omega))))
theorem zX12_forged {s m img was num pro ask kp kk kf so sz el : Int → Int} {im pl ra re rm rf sd th : Int} {A B : mp_H}  {d : Int} (hA : A.length = 44) (hs : mp_sky s) (hh : ∀ d, 0 ≤ d → d ≤ 7 → mp_shf kp kk kf so sz d) (hel : ∀ x, mp_w (el x)) (h_d : mp_w d) : mp_Call (mX12_forged, 5, 0, 0) [Value.ref 44, mp_i d] (A ++ (mp_ms s m img was num pro ask kp kk kf so sz el im pl ra re rm rf sd th ++ B)) (some (mp_i (sp_forged s kp so sz el d)), A ++ (mp_ms s m img was num pro ask kp kk kf so sz el im pl ra re rm rf sd th ++ B)) := by
  refine mp_Call.of (L := [some (Value.ref 44), some (mp_i d), none, none, none]) pnX12 (Nat.le_of_ble_eq_true rfl) rfl ?_
  have h0 := hs.1
  have hw9 : sp_wrongRow kp so d (-1) = if ¬ (0 ≤ d ∧ d ≤ 7) then -1 else if kp d = 0 then -11 else if kp d ≠ 2 ∨ (0 ≤ (-1 : Int) ∧ so d ≠ (-1)) then -12 else 0 := rfl
  refine mp_aload_n dX12_forged_0 rfl ?_
  refine mp_iload_n dX12_forged_1 rfl ?_
  refine mp_iconst dX12_forged_2 ?_
  refine mp_invV (z := (mX12_wrongRow, 2, 0, 0)) (K' := (0, 0)) (σ1 := A ++ (mp_ms s m img was num pro ask kp kk kf so sz el im pl ra re rm rf sd th ++ B)) (as := [mp_i d, mp_i (-1)]) (st := []) (st1 := [mp_i (sp_wrongRow kp so d (-1))]) dX12_forged_3 svX12_145 (mp_lk hA 0 rfl) rfl rfl (zX12_wrongRow (d := d) (o := (-1)) (s := s) (m := m) (img := img) (was := was) (num := num) (pro := pro) (ask := ask) (kp := kp) (kk := kk) (kf := kf) (so := so) (sz := sz) (el := el) (im := im) (pl := pl) (ra := ra) (re := re) (rm := rm) (rf := rf) (sd := sd) (th := th) (by first | with_reducible assumption | omega) (by first | with_reducible assumption | omega) (by first | with_reducible assumption | omega) (by first | with_reducible assumption | omega)) ⟨Nat.le_of_ble_eq_true rfl, Nat.le_of_ble_eq_true rfl, Nat.le_of_ble_eq_true rfl, Nat.le_of_ble_eq_true rfl, Nat.le_of_ble_eq_true rfl⟩ rfl rfl rfl rfl ?_
  refine mp_istore_n (L' := [some (Value.ref 44), some (mp_i d), some (mp_i (sp_wrongRow kp so d (-1))), none, none]) dX12_forged_6 rfl (by decide) rfl ?_
  refine mp_iload_n dX12_forged_7 rfl ?_
  refine mp_if_eq (tgt := 13) dX12_forged_8 rfl ⟨by omega, by omega⟩ (fun h1 => ?_) (fun h1 => ?_)
  · have hb := hh d (by omega) (by omega)
    refine mp_iconst dX12_forged_13 ?_
    refine mp_istore_n (L' := [some (Value.ref 44), some (mp_i d), some (mp_i (sp_wrongRow kp so d (-1))), some (mp_i 0), none]) dX12_forged_14 rfl (by decide) rfl ?_
    refine mp_drop (L' := [some (Value.ref 44), some (mp_i d), none, some (mp_i 0), none]) [true, true, false, true, false] rfl ?_
    exact lX12_forged_15  (by first | with_reducible assumption | omega) (by first | with_reducible assumption | omega) (by first | with_reducible assumption | omega) (by first | with_reducible assumption | omega) (by first | with_reducible assumption | omega) ((sz d).toNat) 0 (by omega) (by rw [show sp_forged s kp so sz el d = sp_forgedN s el d (sz d).toNat 0 from if_neg (by omega)])
  · refine mp_iload_n dX12_forged_11 rfl ?_
    exact mp_ireturn (st := []) dX12_forged_12 rfl ⟨by decide, by decide⟩ ((mp_ans (by first | with_reducible rfl | (unfold sp_forged; omega) | (unfold sp_forged; first | (rw [if_pos (by omega)]; done) | (rw [if_neg (by omega)]; done) | (rw [if_neg (by omega), if_pos (by omega)]; done) | (rw [if_neg (by omega), if_neg (by omega)]; done) | (rw [if_neg (by omega), if_neg (by omega), if_pos (by omega)]; done) | (rw [if_neg (by omega), if_neg (by omega), if_neg (by omega)]; done) | (rw [if_neg (by omega), if_neg (by omega), if_neg (by omega), if_pos (by omega)]; done) | (rw [if_neg (by omega), if_neg (by omega), if_neg (by omega), if_neg (by omega)]; done) | (rw [if_neg (by omega), if_neg (by omega), if_neg (by omega), if_neg (by omega), if_pos (by omega)]; done) | (rw [if_neg (by omega), if_neg (by omega), if_neg (by omega), if_neg (by omega), if_neg (by omega)]; done)))))
theorem lX12_judge_46 {s m img was num pro ask kp kk kf so sz el : Int → Int} {im pl ra re rm rf sd th : Int} {A B : mp_H}  {d : Int} {v : Int} (hA : A.length = 44) (hs : mp_sky s) (hh : ∀ d, 0 ≤ d → d ≤ 7 → mp_shf kp kk kf so sz d) (hel : ∀ x, mp_w (el x)) (h_d : mp_w d) (h_v : mp_w v) {R9 : mp_An} : ∀ (n : Nat) (k : Int) (z : Int) (t : Int), ((0 ≤ k ∧ k + (n : Nat) = s 0) ∧ (0 ≤ t ∧ t ≤ 100) ∧ (0 ≤ v ∧ v ≤ 365)) → mp_At (mX12_judge, 3, 0, 0) (0, 0) 86 [some (Value.ref 44), some (mp_i d), some (mp_i v), none, some (mp_i t), some (mp_i (mp_fold (fun k n => n + (if sp_thereP s k (v + t) then 1 else 0)) n k z)), none] [] (A ++ (mp_ms s m img was num pro ask kp kk kf so sz el im pl ra re rm rf sd th ++ B)) R9 → mp_At (mX12_judge, 3, 0, 0) (0, 0) 46 [some (Value.ref 44), some (mp_i d), some (mp_i v), none, some (mp_i t), some (mp_i z), some (mp_i k)] [] (A ++ (mp_ms s m img was num pro ask kp kk kf so sz el im pl ra re rm rf sd th ++ B)) R9 := by
  intro n
  induction n with
  | zero =>
    intro k z t hi hk
    have h0 := hs.1
    refine mp_iload dX12_judge_46 rfl ?_
    refine mp_aload_n dX12_judge_48 rfl ?_
    refine mp_getfield dX12_judge_49 fsX12_9_11 (mp_lk hA 0 rfl) rfl ?_
    refine mp_iconst dX12_judge_52 ?_
    refine mp_iald dX12_judge_53 (mp_lk hA 1 rfl) ⟨by omega, by omega⟩ (by omega) ?_
    refine mp_icmp_ge (tgt := 86) dX12_judge_54 rfl ⟨by omega, by omega⟩ ⟨by omega, by omega⟩ (fun h1 => ?_) (fun h1 => ?_)
    · refine mp_drop (L' := [some (Value.ref 44), some (mp_i d), some (mp_i v), none, some (mp_i t), some (mp_i z), none]) [true, true, true, false, true, true, false] rfl ?_
      exact hk
    · exfalso; omega
  | succ n ih =>
    intro k z t hi hk
    have h0 := hs.1
    refine mp_iload dX12_judge_46 rfl ?_
    refine mp_aload_n dX12_judge_48 rfl ?_
    refine mp_getfield dX12_judge_49 fsX12_9_11 (mp_lk hA 0 rfl) rfl ?_
    refine mp_iconst dX12_judge_52 ?_
    refine mp_iald dX12_judge_53 (mp_lk hA 1 rfl) ⟨by omega, by omega⟩ (by omega) ?_
    refine mp_icmp_ge (tgt := 86) dX12_judge_54 rfl ⟨by omega, by omega⟩ ⟨by omega, by omega⟩ (fun h1 => ?_) (fun h1 => ?_)
    · exfalso; omega
    · refine mp_iload dX12_judge_57 rfl ?_
      refine mp_aload_n dX12_judge_59 rfl ?_
      refine mp_iload dX12_judge_60 rfl ?_
      refine mp_iload_n dX12_judge_62 rfl ?_
      refine mp_iload dX12_judge_63 rfl ?_
      refine mp_iadd (z := v + t) dX12_judge_65 (by first | rfl | omega) ?_
      refine mp_invV (z := (mX12_isThere, 1, 0, 0)) (K' := (0, 0)) (σ1 := A ++ (mp_ms s m img was num pro ask kp kk kf so sz el im pl ra re rm rf sd th ++ B)) (as := [mp_i k, mp_i (v + t)]) (st := [mp_i z]) (st1 := [mp_i (if sp_thereP s k (v + t) then 1 else 0), mp_i z]) dX12_judge_66 svX12_211 (mp_lk hA 0 rfl) rfl rfl (zX12_isThere (k := k) (t := (v + t)) (s := s) (m := m) (img := img) (was := was) (num := num) (pro := pro) (ask := ask) (kp := kp) (kk := kk) (kf := kf) (so := so) (sz := sz) (el := el) (im := im) (pl := pl) (ra := ra) (re := re) (rm := rm) (rf := rf) (sd := sd) (th := th) (by first | with_reducible assumption | omega) (by first | with_reducible assumption | omega) (by first | with_reducible assumption | omega) (by first | with_reducible assumption | omega)) ⟨Nat.le_of_ble_eq_true rfl, Nat.le_of_ble_eq_true rfl, Nat.le_of_ble_eq_true rfl, Nat.le_of_ble_eq_true rfl, Nat.le_of_ble_eq_true rfl⟩ rfl rfl rfl rfl ?_
      refine mp_ifb_eq (tgt := 76) dX12_judge_69 rfl (fun h2 => ?_) (fun h2 => ?_)
      · refine mp_iconst dX12_judge_76 ?_
        refine mp_iadd (z := z + 0) dX12_judge_77 (by first | rfl | omega) ?_
        refine mp_istore (L' := [some (Value.ref 44), some (mp_i d), some (mp_i v), none, some (mp_i t), some (mp_i (z + 0)), some (mp_i k)]) dX12_judge_78 (by decide) rfl ?_
        refine mp_iinc (z := k + 1) (L' := [some (Value.ref 44), some (mp_i d), some (mp_i v), none, some (mp_i t), some (mp_i (z + 0)), some (mp_i (k + 1))]) dX12_judge_80 rfl (rfl) (by decide) rfl ?_
        refine mp_goto (tgt := 46) dX12_judge_83 rfl ?_
        refine mp_loc (j := 5) (y := z + (if sp_thereP s k (v + t) then 1 else 0)) (by first | (rw [if_pos (by assumption)]; done) | (rw [if_neg (by assumption)]; done)) rfl (L' := [some (Value.ref 44), some (mp_i d), some (mp_i v), none, some (mp_i t), some (mp_i (z + (if sp_thereP s k (v + t) then 1 else 0))), some (mp_i (k + 1))]) rfl ?_
        exact ih (k + 1) (z + (if sp_thereP s k (v + t) then 1 else 0)) t (by omega) hk
      · refine mp_iconst dX12_judge_72 ?_
        refine mp_goto (tgt := 77) dX12_judge_73 rfl ?_
        refine mp_iadd (z := z + 1) dX12_judge_77 (by first | rfl | omega) ?_
        refine mp_istore (L' := [some (Value.ref 44), some (mp_i d), some (mp_i v), none, some (mp_i t), some (mp_i (z + 1)), some (mp_i k)]) dX12_judge_78 (by decide) rfl ?_
        refine mp_iinc (z := k + 1) (L' := [some (Value.ref 44), some (mp_i d), some (mp_i v), none, some (mp_i t), some (mp_i (z + 1)), some (mp_i (k + 1))]) dX12_judge_80 rfl (rfl) (by decide) rfl ?_
        refine mp_goto (tgt := 46) dX12_judge_83 rfl ?_
        refine mp_loc (j := 5) (y := z + (if sp_thereP s k (v + t) then 1 else 0)) (by first | (rw [if_pos (by assumption)]; done) | (rw [if_neg (by assumption)]; done)) rfl (L' := [some (Value.ref 44), some (mp_i d), some (mp_i v), none, some (mp_i t), some (mp_i (z + (if sp_thereP s k (v + t) then 1 else 0))), some (mp_i (k + 1))]) rfl ?_
        exact ih (k + 1) (z + (if sp_thereP s k (v + t) then 1 else 0)) t (by omega) hk
theorem lX12_judge_29 {s m img was num pro ask kp kk kf so sz el : Int → Int} {im pl ra re rm rf sd th : Int} {A B : mp_H}  {d : Int} {v : Int} (hA : A.length = 44) (hs : mp_sky s) (hh : ∀ d, 0 ≤ d → d ≤ 7 → mp_shf kp kk kf so sz d) (hel : ∀ x, mp_w (el x)) (h_d : mp_w d) (h_v : mp_w v) {R9 : mp_An} : ∀ (n : Nat) (t : Int), ((0 ≤ t ∧ t + (n : Nat) = sz d) ∧ (0 ≤ d ∧ d ≤ 7) ∧ (0 ≤ v ∧ v ≤ 365)) → R9 = (some (mp_i (sp_judgeN s so el d v n t)), A ++ (mp_ms s m img was num pro ask kp kk kf so sz el im pl ra re rm rf sd th ++ B)) → mp_At (mX12_judge, 3, 0, 0) (0, 0) 29 [some (Value.ref 44), some (mp_i d), some (mp_i v), none, some (mp_i t), none, none] [] (A ++ (mp_ms s m img was num pro ask kp kk kf so sz el im pl ra re rm rf sd th ++ B)) R9 := by
  intro n
  induction n with
  | zero =>
    intro t hi hR
    have hb := hh d (by omega) (by omega)
    refine mp_iload dX12_judge_29 rfl ?_
    refine mp_aload_n dX12_judge_31 rfl ?_
    refine mp_getfield dX12_judge_32 fsX12_43_11 (mp_lk hA 0 rfl) rfl ?_
    refine mp_iload_n dX12_judge_35 rfl ?_
    refine mp_iald dX12_judge_36 (mp_lk hA 12 rfl) ⟨by omega, by omega⟩ (by omega) ?_
    refine mp_icmp_ge (tgt := 130) dX12_judge_37 rfl ⟨by omega, by omega⟩ ⟨by omega, by omega⟩ (fun h1 => ?_) (fun h1 => ?_)
    · refine mp_bipush dX12_judge_130 rfl ?_
      exact mp_ireturn (st := []) dX12_judge_132 rfl ⟨by decide, by decide⟩ (hR.trans (mp_ans (by rfl)))
    · exfalso; omega
  | succ n ih =>
    intro t hi hR
    have h0 := hs.1
    have hb := hh d (by omega) (by omega)
    have hso : sp_leastOf (so d) = if so d = 0 then -128 else if so d = 1 then -32768 else -2147483648 := rfl
    have hta := mp_thereAll_bd hs (v + t)
    refine mp_iload dX12_judge_29 rfl ?_
    refine mp_aload_n dX12_judge_31 rfl ?_
    refine mp_getfield dX12_judge_32 fsX12_43_11 (mp_lk hA 0 rfl) rfl ?_
    refine mp_iload_n dX12_judge_35 rfl ?_
    refine mp_iald dX12_judge_36 (mp_lk hA 12 rfl) ⟨by omega, by omega⟩ (by omega) ?_
    refine mp_icmp_ge (tgt := 130) dX12_judge_37 rfl ⟨by omega, by omega⟩ ⟨by omega, by omega⟩ (fun h1 => ?_) (fun h1 => ?_)
    · exfalso; omega
    · refine mp_iconst dX12_judge_40 ?_
      refine mp_istore (L' := [some (Value.ref 44), some (mp_i d), some (mp_i v), none, some (mp_i t), some (mp_i 0), none]) dX12_judge_41 (by decide) rfl ?_
      refine mp_iconst dX12_judge_43 ?_
      refine mp_istore (L' := [some (Value.ref 44), some (mp_i d), some (mp_i v), none, some (mp_i t), some (mp_i 0), some (mp_i 0)]) dX12_judge_44 (by decide) rfl ?_
      refine lX12_judge_46  (by first | with_reducible assumption | omega) (by first | with_reducible assumption | omega) (by first | with_reducible assumption | omega) (by first | with_reducible assumption | omega) (by first | with_reducible assumption | omega) (by first | with_reducible assumption | omega) ((s 0).toNat) 0 0 t (by omega) ?_
      refine mp_loc (j := 5) (y := sp_thereAll s (v + t)) rfl rfl (L' := [some (Value.ref 44), some (mp_i d), some (mp_i v), none, some (mp_i t), some (mp_i (sp_thereAll s (v + t))), none]) rfl ?_
      refine mp_aload_n dX12_judge_86 rfl ?_
      refine mp_getfield dX12_judge_87 fsX12_46_11 (mp_lk hA 0 rfl) rfl ?_
      refine mp_bipush dX12_judge_90 rfl ?_
      refine mp_iload_n dX12_judge_92 rfl ?_
      refine mp_imul (z := 100 * d) dX12_judge_93 (by first | rfl | omega) ?_
      refine mp_iload dX12_judge_94 rfl ?_
      refine mp_iadd (z := (100 * d) + t) dX12_judge_96 (by first | rfl | omega) ?_
      refine mp_iald dX12_judge_97 (mp_lk hA 13 rfl) ⟨by omega, by omega⟩ (by omega) ?_
      have b2 := hel ((100 * d) + t)
      refine mp_istore (L' := [some (Value.ref 44), some (mp_i d), some (mp_i v), none, some (mp_i t), some (mp_i (sp_thereAll s (v + t))), some (mp_i (el ((100 * d) + t)))]) dX12_judge_98 (by decide) rfl ?_
      refine mp_iload dX12_judge_100 rfl ?_
      refine mp_aload_n dX12_judge_102 rfl ?_
      refine mp_getfield dX12_judge_103 fsX12_40_11 (mp_lk hA 0 rfl) rfl ?_
      refine mp_iload_n dX12_judge_106 rfl ?_
      refine mp_iald dX12_judge_107 (mp_lk hA 11 rfl) ⟨by omega, by omega⟩ (by omega) ?_
      refine mp_invS (z := (mX12_leastOf, 0, 0, 0)) (K' := (0, 0)) (σ1 := A ++ (mp_ms s m img was num pro ask kp kk kf so sz el im pl ra re rm rf sd th ++ B)) (as := [mp_i (so d)]) (st := [mp_i (el ((100 * d) + t))]) (st1 := [mp_i (sp_leastOf (so d)), mp_i (el ((100 * d) + t))]) dX12_judge_108 ssX12_205 (zX12_leastOf (o := (so d))  (by first | with_reducible assumption | omega)) ⟨Nat.le_of_ble_eq_true rfl, Nat.le_of_ble_eq_true rfl, Nat.le_of_ble_eq_true rfl, Nat.le_of_ble_eq_true rfl, Nat.le_of_ble_eq_true rfl⟩ rfl rfl rfl rfl ?_
      refine mp_icmp_eq (tgt := 124) dX12_judge_111 rfl ⟨by omega, by omega⟩ ⟨by omega, by omega⟩ (fun h3 => ?_) (fun h3 => ?_)
      · refine mp_iinc (z := t + 1) (L' := [some (Value.ref 44), some (mp_i d), some (mp_i v), none, some (mp_i (t + 1)), some (mp_i (sp_thereAll s (v + t))), some (mp_i (el ((100 * d) + t)))]) dX12_judge_124 rfl (rfl) (by decide) rfl ?_
        refine mp_goto (tgt := 29) dX12_judge_127 rfl ?_
        refine mp_drop (L' := [some (Value.ref 44), some (mp_i d), some (mp_i v), none, some (mp_i (t + 1)), none, none]) [true, true, true, false, true, false, false] rfl ?_
        exact ih (t + 1) (by omega) (hR.trans (by refine mp_ans ?_; exact if_neg (by omega)))
      · refine mp_iload dX12_judge_114 rfl ?_
        refine mp_iload dX12_judge_116 rfl ?_
        refine mp_icmp_eq (tgt := 124) dX12_judge_118 rfl ⟨by omega, by omega⟩ ⟨by omega, by omega⟩ (fun h4 => ?_) (fun h4 => ?_)
        · refine mp_iinc (z := t + 1) (L' := [some (Value.ref 44), some (mp_i d), some (mp_i v), none, some (mp_i (t + 1)), some (mp_i (sp_thereAll s (v + t))), some (mp_i (el ((100 * d) + t)))]) dX12_judge_124 rfl (rfl) (by decide) rfl ?_
          refine mp_goto (tgt := 29) dX12_judge_127 rfl ?_
          refine mp_drop (L' := [some (Value.ref 44), some (mp_i d), some (mp_i v), none, some (mp_i (t + 1)), none, none]) [true, true, true, false, true, false, false] rfl ?_
          exact ih (t + 1) (by omega) (hR.trans (by refine mp_ans ?_; exact if_neg (by omega)))
        · refine mp_iload dX12_judge_121 rfl ?_
          exact mp_ireturn (st := []) dX12_judge_123 rfl ⟨by decide, by decide⟩ (hR.trans (mp_ans (by exact if_pos ⟨by omega, by omega⟩)))
theorem zX12_judge {s m img was num pro ask kp kk kf so sz el : Int → Int} {im pl ra re rm rf sd th : Int} {A B : mp_H}  {d : Int} {v : Int} (hA : A.length = 44) (hs : mp_sky s) (hh : ∀ d, 0 ≤ d → d ≤ 7 → mp_shf kp kk kf so sz d) (hel : ∀ x, mp_w (el x)) (h_d : mp_w d) (h_v : mp_w v) : mp_Call (mX12_judge, 3, 0, 0) [Value.ref 44, mp_i d, mp_i v] (A ++ (mp_ms s m img was num pro ask kp kk kf so sz el im pl ra re rm rf sd th ++ B)) (some (mp_i (sp_judge s kp so sz el d v)), A ++ (mp_ms s m img was num pro ask kp kk kf so sz el im pl ra re rm rf sd th ++ B)) := by
  refine mp_Call.of (L := [some (Value.ref 44), some (mp_i d), some (mp_i v), none, none, none, none]) pnX12 (Nat.le_of_ble_eq_true rfl) rfl ?_
  have h0 := hs.1
  have hw9 : sp_wrongRow kp so d (-1) = if ¬ (0 ≤ d ∧ d ≤ 7) then -1 else if kp d = 0 then -11 else if kp d ≠ 2 ∨ (0 ≤ (-1 : Int) ∧ so d ≠ (-1)) then -12 else 0 := rfl
  refine mp_iload_n dX12_judge_0 rfl ?_
  refine mp_iconst dX12_judge_1 ?_
  refine mp_sipush dX12_judge_2 rfl ?_
  refine mp_invS (z := (mX12_isIn, 0, 0, 0)) (K' := (0, 0)) (σ1 := A ++ (mp_ms s m img was num pro ask kp kk kf so sz el im pl ra re rm rf sd th ++ B)) (as := [mp_i v, mp_i 0, mp_i 365]) (st := []) (st1 := [mp_i (if 0 ≤ v ∧ v ≤ 365 then 1 else 0)]) dX12_judge_5 ssX12_53 (zX12_isIn (v := v) (a := 0) (b := 365)  (by first | with_reducible assumption | omega) (by first | with_reducible assumption | omega) (by first | with_reducible assumption | omega)) ⟨Nat.le_of_ble_eq_true rfl, Nat.le_of_ble_eq_true rfl, Nat.le_of_ble_eq_true rfl, Nat.le_of_ble_eq_true rfl, Nat.le_of_ble_eq_true rfl⟩ rfl rfl rfl rfl ?_
  refine mp_ifb_ne (tgt := 13) dX12_judge_8 rfl (fun h1 => ?_) (fun h1 => ?_)
  · refine mp_aload_n dX12_judge_13 rfl ?_
    refine mp_iload_n dX12_judge_14 rfl ?_
    refine mp_iconst dX12_judge_15 ?_
    refine mp_invV (z := (mX12_wrongRow, 2, 0, 0)) (K' := (0, 0)) (σ1 := A ++ (mp_ms s m img was num pro ask kp kk kf so sz el im pl ra re rm rf sd th ++ B)) (as := [mp_i d, mp_i (-1)]) (st := []) (st1 := [mp_i (sp_wrongRow kp so d (-1))]) dX12_judge_16 svX12_145 (mp_lk hA 0 rfl) rfl rfl (zX12_wrongRow (d := d) (o := (-1)) (s := s) (m := m) (img := img) (was := was) (num := num) (pro := pro) (ask := ask) (kp := kp) (kk := kk) (kf := kf) (so := so) (sz := sz) (el := el) (im := im) (pl := pl) (ra := ra) (re := re) (rm := rm) (rf := rf) (sd := sd) (th := th) (by first | with_reducible assumption | omega) (by first | with_reducible assumption | omega) (by first | with_reducible assumption | omega) (by first | with_reducible assumption | omega)) ⟨Nat.le_of_ble_eq_true rfl, Nat.le_of_ble_eq_true rfl, Nat.le_of_ble_eq_true rfl, Nat.le_of_ble_eq_true rfl, Nat.le_of_ble_eq_true rfl⟩ rfl rfl rfl rfl ?_
    refine mp_istore_n (L' := [some (Value.ref 44), some (mp_i d), some (mp_i v), some (mp_i (sp_wrongRow kp so d (-1))), none, none, none]) dX12_judge_19 rfl (by decide) rfl ?_
    refine mp_iload_n dX12_judge_20 rfl ?_
    refine mp_if_eq (tgt := 26) dX12_judge_21 rfl ⟨by omega, by omega⟩ (fun h2 => ?_) (fun h2 => ?_)
    · have hb := hh d (by omega) (by omega)
      refine mp_iconst dX12_judge_26 ?_
      refine mp_istore (L' := [some (Value.ref 44), some (mp_i d), some (mp_i v), some (mp_i (sp_wrongRow kp so d (-1))), some (mp_i 0), none, none]) dX12_judge_27 (by decide) rfl ?_
      refine mp_drop (L' := [some (Value.ref 44), some (mp_i d), some (mp_i v), none, some (mp_i 0), none, none]) [true, true, true, false, true, false, false] rfl ?_
      exact lX12_judge_29  (by first | with_reducible assumption | omega) (by first | with_reducible assumption | omega) (by first | with_reducible assumption | omega) (by first | with_reducible assumption | omega) (by first | with_reducible assumption | omega) (by first | with_reducible assumption | omega) ((sz d).toNat) 0 (by omega) (by rw [show sp_judge s kp so sz el d v = sp_judgeN s so el d v (sz d).toNat 0 from (if_neg (by omega)).trans (if_neg (by omega))])
    · refine mp_iload_n dX12_judge_24 rfl ?_
      exact mp_ireturn (st := []) dX12_judge_25 rfl ⟨by decide, by decide⟩ ((mp_ans (by first | with_reducible rfl | (unfold sp_judge; omega) | (unfold sp_judge; first | (rw [if_pos (by omega)]; done) | (rw [if_neg (by omega)]; done) | (rw [if_neg (by omega), if_pos (by omega)]; done) | (rw [if_neg (by omega), if_neg (by omega)]; done) | (rw [if_neg (by omega), if_neg (by omega), if_pos (by omega)]; done) | (rw [if_neg (by omega), if_neg (by omega), if_neg (by omega)]; done) | (rw [if_neg (by omega), if_neg (by omega), if_neg (by omega), if_pos (by omega)]; done) | (rw [if_neg (by omega), if_neg (by omega), if_neg (by omega), if_neg (by omega)]; done) | (rw [if_neg (by omega), if_neg (by omega), if_neg (by omega), if_neg (by omega), if_pos (by omega)]; done) | (rw [if_neg (by omega), if_neg (by omega), if_neg (by omega), if_neg (by omega), if_neg (by omega)]; done)))))
  · refine mp_iconst dX12_judge_11 ?_
    exact mp_ireturn (st := []) dX12_judge_12 rfl ⟨by decide, by decide⟩ ((mp_ans (by first | with_reducible rfl | (unfold sp_judge; omega) | (unfold sp_judge; first | (rw [if_pos (by omega)]; done) | (rw [if_neg (by omega)]; done) | (rw [if_neg (by omega), if_pos (by omega)]; done) | (rw [if_neg (by omega), if_neg (by omega)]; done) | (rw [if_neg (by omega), if_neg (by omega), if_pos (by omega)]; done) | (rw [if_neg (by omega), if_neg (by omega), if_neg (by omega)]; done) | (rw [if_neg (by omega), if_neg (by omega), if_neg (by omega), if_pos (by omega)]; done) | (rw [if_neg (by omega), if_neg (by omega), if_neg (by omega), if_neg (by omega)]; done) | (rw [if_neg (by omega), if_neg (by omega), if_neg (by omega), if_neg (by omega), if_pos (by omega)]; done) | (rw [if_neg (by omega), if_neg (by omega), if_neg (by omega), if_neg (by omega), if_neg (by omega)]; done)))))
