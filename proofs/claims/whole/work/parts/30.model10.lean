theorem lX12_augusts_52 {s m img was num pro ask kp kk kf so sz el : Int → Int} {im pl ra re rm rf sd th : Int} {A B : mp_H}  {o : Int} {z : Int} {w : Int} (hA : A.length = 44) (hs : mp_sky s) (h_o : mp_w o) (h_z : mp_w z) (h_w : mp_w w) {R9 : mp_An} : ∀ (n : Nat) (l : Int) (p : (Int → Int) × Int) (v : Int) (y : Int), ((0 ≤ l ∧ l + (n : Nat) = 5) ∧ mp_sky p.1) → mp_At (mX12_augusts, 5, 0, 0) (0, 0) 98 [some (Value.ref 44), some (mp_i o), some (mp_i z), some (mp_i w), some (mp_i v), some (mp_i y), none, none] [] (A ++ (mp_ms s ((mp_fold sp_drStep n l p).1) img was num pro ask kp kk kf so sz el im pl ra re rm rf ((mp_fold sp_drStep n l p).2) th ++ B)) R9 → mp_At (mX12_augusts, 5, 0, 0) (0, 0) 52 [some (Value.ref 44), some (mp_i o), some (mp_i z), some (mp_i w), some (mp_i v), some (mp_i y), some (mp_i l), none] [] (A ++ (mp_ms s p.1 img was num pro ask kp kk kf so sz el im pl ra re rm rf p.2 th ++ B)) R9 := by
  intro n
  induction n with
  | zero =>
    intro l p v y hi hk
    refine mp_iload dX12_augusts_52 rfl ?_
    refine mp_iconst dX12_augusts_54 ?_
    refine mp_icmp_ge (tgt := 98) dX12_augusts_55 rfl ⟨by omega, by omega⟩ ⟨by omega, by omega⟩ (fun h1 => ?_) (fun h1 => ?_)
    · refine mp_drop (L' := [some (Value.ref 44), some (mp_i o), some (mp_i z), some (mp_i w), some (mp_i v), some (mp_i y), none, none]) [true, true, true, true, true, true, false, false] rfl ?_
      exact hk
    · exfalso; omega
  | succ n ih =>
    intro l p v y hi hk
    refine mp_iload dX12_augusts_52 rfl ?_
    refine mp_iconst dX12_augusts_54 ?_
    refine mp_icmp_ge (tgt := 98) dX12_augusts_55 rfl ⟨by omega, by omega⟩ ⟨by omega, by omega⟩ (fun h1 => ?_) (fun h1 => ?_)
    · exfalso; omega
    · refine mp_aload_n dX12_augusts_58 rfl ?_
      refine mp_getfield dX12_augusts_59 fsX12_13_11 (mp_lk hA 0 rfl) rfl ?_
      refine mp_iload dX12_augusts_62 rfl ?_
      refine mp_iconst dX12_augusts_64 ?_
      refine mp_invS (z := (mX12_by, 0, 0, 0)) (K' := (0, 0)) (σ1 := A ++ (mp_ms s p.1 img was num pro ask kp kk kf so sz el im pl ra re rm rf p.2 th ++ B)) (as := [mp_i l, mp_i 0]) (st := [Value.ref 46]) (st1 := [mp_i (49 + 3 * l + 0), Value.ref 46]) dX12_augusts_65 ssX12_49 (zX12_by (l := l) (x := 0)  ) ⟨Nat.le_of_ble_eq_true rfl, Nat.le_of_ble_eq_true rfl, Nat.le_of_ble_eq_true rfl, Nat.le_of_ble_eq_true rfl, Nat.le_of_ble_eq_true rfl⟩ rfl rfl rfl rfl ?_
      refine mp_aload_n dX12_augusts_68 rfl ?_
      refine mp_bipush dX12_augusts_69 rfl ?_
      refine mp_invV (z := (mX12_drawn, 0, 0, 0)) (K' := (0, 0)) (σ1 := A ++ (mp_ms s p.1 img was num pro ask kp kk kf so sz el im pl ra re rm rf (sp_nx p.2) th ++ B)) (as := [mp_i 16]) (st := [mp_i (49 + 3 * l + 0), Value.ref 46]) (st1 := [mp_i (sp_hb (sp_nx p.2) 16), mp_i (49 + 3 * l + 0), Value.ref 46]) dX12_augusts_71 svX12_236 (mp_lk hA 0 rfl) rfl rfl (zX12_drawn (n := 16) (s := s) (m := p.1) (img := img) (was := was) (num := num) (pro := pro) (ask := ask) (kp := kp) (kk := kk) (kf := kf) (so := so) (sz := sz) (el := el) (im := im) (pl := pl) (ra := ra) (re := re) (rm := rm) (rf := rf) (sd := p.2) (th := th) (by first | with_reducible assumption | omega) (by first | with_reducible assumption | omega)) ⟨Nat.le_of_ble_eq_true rfl, Nat.le_of_ble_eq_true rfl, Nat.le_of_ble_eq_true rfl, Nat.le_of_ble_eq_true rfl, Nat.le_of_ble_eq_true rfl⟩ rfl rfl rfl rfl ?_
      refine mp_iast (σ' := A ++ (mp_ms s (mp_ud p.1 (49 + 3 * l + 0) (sp_hb (sp_nx p.2) 16)) img was num pro ask kp kk kf so sz el im pl ra re rm rf (sp_nx p.2) th ++ B)) dX12_augusts_74 (mp_lk hA 2 rfl) (by decide) ⟨by omega, by omega⟩ (by decide) (mp_sts (Ms' := mp_ms s (mp_ud p.1 (49 + 3 * l + 0) (sp_hb (sp_nx p.2) 16)) img was num pro ask kp kk kf so sz el im pl ra re rm rf (sp_nx p.2) th) hA 2 (Nat.le_of_ble_eq_true rfl) rfl) ?_
      refine mp_aload_n dX12_augusts_75 rfl ?_
      refine mp_getfield dX12_augusts_76 fsX12_13_11 (mp_lk hA 0 rfl) rfl ?_
      refine mp_iload dX12_augusts_79 rfl ?_
      refine mp_iconst dX12_augusts_81 ?_
      refine mp_invS (z := (mX12_by, 0, 0, 0)) (K' := (0, 0)) (σ1 := A ++ (mp_ms s (mp_ud p.1 (49 + 3 * l + 0) (sp_hb (sp_nx p.2) 16)) img was num pro ask kp kk kf so sz el im pl ra re rm rf (sp_nx p.2) th ++ B)) (as := [mp_i l, mp_i 1]) (st := [Value.ref 46]) (st1 := [mp_i (49 + 3 * l + 1), Value.ref 46]) dX12_augusts_82 ssX12_49 (zX12_by (l := l) (x := 1)  ) ⟨Nat.le_of_ble_eq_true rfl, Nat.le_of_ble_eq_true rfl, Nat.le_of_ble_eq_true rfl, Nat.le_of_ble_eq_true rfl, Nat.le_of_ble_eq_true rfl⟩ rfl rfl rfl rfl ?_
      refine mp_aload_n dX12_augusts_85 rfl ?_
      refine mp_bipush dX12_augusts_86 rfl ?_
      refine mp_invV (z := (mX12_drawn, 0, 0, 0)) (K' := (0, 0)) (σ1 := A ++ (mp_ms s (mp_ud p.1 (49 + 3 * l + 0) (sp_hb (sp_nx p.2) 16)) img was num pro ask kp kk kf so sz el im pl ra re rm rf (sp_nx (sp_nx p.2)) th ++ B)) (as := [mp_i 10]) (st := [mp_i (49 + 3 * l + 1), Value.ref 46]) (st1 := [mp_i (sp_hb (sp_nx (sp_nx p.2)) 10), mp_i (49 + 3 * l + 1), Value.ref 46]) dX12_augusts_88 svX12_236 (mp_lk hA 0 rfl) rfl rfl (zX12_drawn (n := 10) (s := s) (m := (mp_ud p.1 (49 + 3 * l + 0) (sp_hb (sp_nx p.2) 16))) (img := img) (was := was) (num := num) (pro := pro) (ask := ask) (kp := kp) (kk := kk) (kf := kf) (so := so) (sz := sz) (el := el) (im := im) (pl := pl) (ra := ra) (re := re) (rm := rm) (rf := rf) (sd := (sp_nx p.2)) (th := th) (by first | with_reducible assumption | omega) (by first | with_reducible assumption | omega)) ⟨Nat.le_of_ble_eq_true rfl, Nat.le_of_ble_eq_true rfl, Nat.le_of_ble_eq_true rfl, Nat.le_of_ble_eq_true rfl, Nat.le_of_ble_eq_true rfl⟩ rfl rfl rfl rfl ?_
      refine mp_iast (σ' := A ++ (mp_ms s (mp_ud (mp_ud p.1 (49 + 3 * l + 0) (sp_hb (sp_nx p.2) 16)) (49 + 3 * l + 1) (sp_hb (sp_nx (sp_nx p.2)) 10)) img was num pro ask kp kk kf so sz el im pl ra re rm rf (sp_nx (sp_nx p.2)) th ++ B)) dX12_augusts_91 (mp_lk hA 2 rfl) (by decide) ⟨by omega, by omega⟩ (by decide) (mp_sts (Ms' := mp_ms s (mp_ud (mp_ud p.1 (49 + 3 * l + 0) (sp_hb (sp_nx p.2) 16)) (49 + 3 * l + 1) (sp_hb (sp_nx (sp_nx p.2)) 10)) img was num pro ask kp kk kf so sz el im pl ra re rm rf (sp_nx (sp_nx p.2)) th) hA 2 (Nat.le_of_ble_eq_true rfl) rfl) ?_
      refine mp_iinc (z := l + 1) (L' := [some (Value.ref 44), some (mp_i o), some (mp_i z), some (mp_i w), some (mp_i v), some (mp_i y), some (mp_i (l + 1)), none]) dX12_augusts_92 rfl (rfl) (by decide) rfl ?_
      refine mp_goto (tgt := 52) dX12_augusts_95 rfl ?_
      exact ih (l + 1) (sp_drStep l p) v y ⟨by omega, mp_drStep_sky hi.2 ⟨by omega, by omega⟩⟩ hk
theorem lX12_augusts_101 {s m img was num pro ask kp kk kf so sz el : Int → Int} {im pl ra re rm rf sd th : Int} {A B : mp_H}  {o : Int} {z : Int} {w : Int} (hA : A.length = 44) (hs : mp_sky s) (h_o : mp_w o) (h_z : mp_w z) (h_w : mp_w w) {R9 : mp_An} : ∀ (n : Nat) (k : Int) (v : Int) (y : Int) (q : Int → Int) (x : Int), ((0 ≤ k ∧ k + (n : Nat) = q 0) ∧ mp_sky q ∧ (0 ≤ w ∧ w ≤ 1)) → mp_At (mX12_augusts, 5, 0, 0) (0, 0) 165 [some (Value.ref 44), some (mp_i o), some (mp_i z), some (mp_i w), some (mp_i (mp_fold (sp_augOne q w) n k v)), some (mp_i y), none, none] [] (A ++ (mp_ms s q img was num pro ask kp kk kf so sz el im pl ra re rm rf x th ++ B)) R9 → mp_At (mX12_augusts, 5, 0, 0) (0, 0) 101 [some (Value.ref 44), some (mp_i o), some (mp_i z), some (mp_i w), some (mp_i v), some (mp_i y), some (mp_i k), none] [] (A ++ (mp_ms s q img was num pro ask kp kk kf so sz el im pl ra re rm rf x th ++ B)) R9 := by
  intro n
  induction n with
  | zero =>
    intro k v y q x hi hk
    have hs1 := hi.2.1
    have h0 := hs1.1
    refine mp_iload dX12_augusts_101 rfl ?_
    refine mp_aload_n dX12_augusts_103 rfl ?_
    refine mp_getfield dX12_augusts_104 fsX12_13_11 (mp_lk hA 0 rfl) rfl ?_
    refine mp_iconst dX12_augusts_107 ?_
    refine mp_iald dX12_augusts_108 (mp_lk hA 2 rfl) ⟨by omega, by omega⟩ (by omega) ?_
    refine mp_icmp_ge (tgt := 165) dX12_augusts_109 rfl ⟨by omega, by omega⟩ ⟨by omega, by omega⟩ (fun h1 => ?_) (fun h1 => ?_)
    · refine mp_drop (L' := [some (Value.ref 44), some (mp_i o), some (mp_i z), some (mp_i w), some (mp_i v), some (mp_i y), none, none]) [true, true, true, true, true, true, false, false] rfl ?_
      exact hk
    · exfalso; omega
  | succ n ih =>
    intro k v y q x hi hk
    have hs1 := hi.2.1
    have h0 := hs1.1
    have hm := hs1.2.1 k (by omega) (by omega)
    have hl := hs1.2.2.1
    have htb := mp_taker_bd q k 0
    refine mp_iload dX12_augusts_101 rfl ?_
    refine mp_aload_n dX12_augusts_103 rfl ?_
    refine mp_getfield dX12_augusts_104 fsX12_13_11 (mp_lk hA 0 rfl) rfl ?_
    refine mp_iconst dX12_augusts_107 ?_
    refine mp_iald dX12_augusts_108 (mp_lk hA 2 rfl) ⟨by omega, by omega⟩ (by omega) ?_
    refine mp_icmp_ge (tgt := 165) dX12_augusts_109 rfl ⟨by omega, by omega⟩ ⟨by omega, by omega⟩ (fun h1 => ?_) (fun h1 => ?_)
    · exfalso; omega
    · refine mp_aload_n dX12_augusts_112 rfl ?_
      refine mp_getfield dX12_augusts_113 fsX12_13_11 (mp_lk hA 0 rfl) rfl ?_
      refine mp_iload dX12_augusts_116 rfl ?_
      refine mp_iconst dX12_augusts_118 ?_
      refine mp_invS (z := (mX12_takerOf, 4, 0, 0)) (K' := (0, 0)) (σ1 := A ++ (mp_ms s q img was num pro ask kp kk kf so sz el im pl ra re rm rf x th ++ B)) (as := [Value.ref 46, mp_i k, mp_i 0]) (st := []) (st1 := [mp_i (sp_taker q k 0)]) dX12_augusts_119 ssX12_102 (zX12_takerOf (r := 46) (k := k) (g := 0) (s := q) (mp_lk hA 2 rfl) (by first | with_reducible assumption | omega) (by first | with_reducible assumption | omega) (by first | with_reducible assumption | omega) (by first | with_reducible assumption | omega) (by first | with_reducible assumption | omega)) ⟨Nat.le_of_ble_eq_true rfl, Nat.le_of_ble_eq_true rfl, Nat.le_of_ble_eq_true rfl, Nat.le_of_ble_eq_true rfl, Nat.le_of_ble_eq_true rfl⟩ rfl rfl rfl rfl ?_
      refine mp_istore (L' := [some (Value.ref 44), some (mp_i o), some (mp_i z), some (mp_i w), some (mp_i v), some (mp_i y), some (mp_i k), some (mp_i (sp_taker q k 0))]) dX12_augusts_122 (by decide) rfl ?_
      refine mp_iload dX12_augusts_124 rfl ?_
      refine mp_iload dX12_augusts_126 rfl ?_
      refine mp_if_lt (tgt := 155) dX12_augusts_128 rfl ⟨by omega, by omega⟩ (fun h2 => ?_) (fun h2 => ?_)
      · refine mp_iconst dX12_augusts_155 ?_
        refine mp_iadd (z := v + 0) dX12_augusts_156 (by first | rfl | omega) ?_
        refine mp_istore (L' := [some (Value.ref 44), some (mp_i o), some (mp_i z), some (mp_i w), some (mp_i (v + 0)), some (mp_i y), some (mp_i k), some (mp_i (sp_taker q k 0))]) dX12_augusts_157 (by decide) rfl ?_
        refine mp_iinc (z := k + 1) (L' := [some (Value.ref 44), some (mp_i o), some (mp_i z), some (mp_i w), some (mp_i (v + 0)), some (mp_i y), some (mp_i (k + 1)), some (mp_i (sp_taker q k 0))]) dX12_augusts_159 rfl (rfl) (by decide) rfl ?_
        refine mp_goto (tgt := 101) dX12_augusts_162 rfl ?_
        refine mp_loc (j := 4) (y := sp_augOne q w k v) (by unfold sp_augOne; first | (rw [if_pos ⟨by omega, by omega⟩]; done) | (rw [if_neg (by omega)]; done) | (rw [if_neg (by omega)]; omega)) rfl (L' := [some (Value.ref 44), some (mp_i o), some (mp_i z), some (mp_i w), some (mp_i (sp_augOne q w k v)), some (mp_i y), some (mp_i (k + 1)), some (mp_i (sp_taker q k 0))]) rfl ?_
        refine mp_drop (L' := [some (Value.ref 44), some (mp_i o), some (mp_i z), some (mp_i w), some (mp_i (sp_augOne q w k v)), some (mp_i y), some (mp_i (k + 1)), none]) [true, true, true, true, true, true, true, false] rfl ?_
        exact ih (k + 1) (sp_augOne q w k v) y q x (⟨by omega, hi.2⟩) hk
      · refine mp_iload_n dX12_augusts_131 rfl ?_
        refine mp_if_eq (tgt := 151) dX12_augusts_132 rfl ⟨by omega, by omega⟩ (fun h3 => ?_) (fun h3 => ?_)
        · refine mp_iconst dX12_augusts_151 ?_
          refine mp_goto (tgt := 156) dX12_augusts_152 rfl ?_
          refine mp_iadd (z := v + 1) dX12_augusts_156 (by first | rfl | omega) ?_
          refine mp_istore (L' := [some (Value.ref 44), some (mp_i o), some (mp_i z), some (mp_i w), some (mp_i (v + 1)), some (mp_i y), some (mp_i k), some (mp_i (sp_taker q k 0))]) dX12_augusts_157 (by decide) rfl ?_
          refine mp_iinc (z := k + 1) (L' := [some (Value.ref 44), some (mp_i o), some (mp_i z), some (mp_i w), some (mp_i (v + 1)), some (mp_i y), some (mp_i (k + 1)), some (mp_i (sp_taker q k 0))]) dX12_augusts_159 rfl (rfl) (by decide) rfl ?_
          refine mp_goto (tgt := 101) dX12_augusts_162 rfl ?_
          refine mp_loc (j := 4) (y := sp_augOne q w k v) (by unfold sp_augOne; first | (rw [if_pos ⟨by omega, by omega⟩]; done) | (rw [if_neg (by omega)]; done) | (rw [if_neg (by omega)]; omega)) rfl (L' := [some (Value.ref 44), some (mp_i o), some (mp_i z), some (mp_i w), some (mp_i (sp_augOne q w k v)), some (mp_i y), some (mp_i (k + 1)), some (mp_i (sp_taker q k 0))]) rfl ?_
          refine mp_drop (L' := [some (Value.ref 44), some (mp_i o), some (mp_i z), some (mp_i w), some (mp_i (sp_augOne q w k v)), some (mp_i y), some (mp_i (k + 1)), none]) [true, true, true, true, true, true, true, false] rfl ?_
          exact ih (k + 1) (sp_augOne q w k v) y q x (⟨by omega, hi.2⟩) hk
        · refine mp_aload_n dX12_augusts_135 rfl ?_
          refine mp_getfield dX12_augusts_136 fsX12_13_11 (mp_lk hA 0 rfl) rfl ?_
          refine mp_iload dX12_augusts_139 rfl ?_
          refine mp_iconst dX12_augusts_141 ?_
          refine mp_invS (z := (mX12_of, 0, 0, 0)) (K' := (0, 0)) (σ1 := A ++ (mp_ms s q img was num pro ask kp kk kf so sz el im pl ra re rm rf x th ++ B)) (as := [mp_i k, mp_i 5]) (st := [Value.ref 46, mp_i v]) (st1 := [mp_i (1 + 6 * k + 5), Value.ref 46, mp_i v]) dX12_augusts_142 ssX12_60 (zX12_of (k := k) (x := 5)  ) ⟨Nat.le_of_ble_eq_true rfl, Nat.le_of_ble_eq_true rfl, Nat.le_of_ble_eq_true rfl, Nat.le_of_ble_eq_true rfl, Nat.le_of_ble_eq_true rfl⟩ rfl rfl rfl rfl ?_
          refine mp_iald dX12_augusts_145 (mp_lk hA 2 rfl) ⟨by omega, by omega⟩ (by omega) ?_
          refine mp_iload dX12_augusts_146 rfl ?_
          refine mp_icmp_ne (tgt := 155) dX12_augusts_148 rfl ⟨by omega, by omega⟩ ⟨by omega, by omega⟩ (fun h4 => ?_) (fun h4 => ?_)
          · refine mp_iconst dX12_augusts_155 ?_
            refine mp_iadd (z := v + 0) dX12_augusts_156 (by first | rfl | omega) ?_
            refine mp_istore (L' := [some (Value.ref 44), some (mp_i o), some (mp_i z), some (mp_i w), some (mp_i (v + 0)), some (mp_i y), some (mp_i k), some (mp_i (sp_taker q k 0))]) dX12_augusts_157 (by decide) rfl ?_
            refine mp_iinc (z := k + 1) (L' := [some (Value.ref 44), some (mp_i o), some (mp_i z), some (mp_i w), some (mp_i (v + 0)), some (mp_i y), some (mp_i (k + 1)), some (mp_i (sp_taker q k 0))]) dX12_augusts_159 rfl (rfl) (by decide) rfl ?_
            refine mp_goto (tgt := 101) dX12_augusts_162 rfl ?_
            refine mp_loc (j := 4) (y := sp_augOne q w k v) (by unfold sp_augOne; first | (rw [if_pos ⟨by omega, by omega⟩]; done) | (rw [if_neg (by omega)]; done) | (rw [if_neg (by omega)]; omega)) rfl (L' := [some (Value.ref 44), some (mp_i o), some (mp_i z), some (mp_i w), some (mp_i (sp_augOne q w k v)), some (mp_i y), some (mp_i (k + 1)), some (mp_i (sp_taker q k 0))]) rfl ?_
            refine mp_drop (L' := [some (Value.ref 44), some (mp_i o), some (mp_i z), some (mp_i w), some (mp_i (sp_augOne q w k v)), some (mp_i y), some (mp_i (k + 1)), none]) [true, true, true, true, true, true, true, false] rfl ?_
            exact ih (k + 1) (sp_augOne q w k v) y q x (⟨by omega, hi.2⟩) hk
          · refine mp_iconst dX12_augusts_151 ?_
            refine mp_goto (tgt := 156) dX12_augusts_152 rfl ?_
            refine mp_iadd (z := v + 1) dX12_augusts_156 (by first | rfl | omega) ?_
            refine mp_istore (L' := [some (Value.ref 44), some (mp_i o), some (mp_i z), some (mp_i w), some (mp_i (v + 1)), some (mp_i y), some (mp_i k), some (mp_i (sp_taker q k 0))]) dX12_augusts_157 (by decide) rfl ?_
            refine mp_iinc (z := k + 1) (L' := [some (Value.ref 44), some (mp_i o), some (mp_i z), some (mp_i w), some (mp_i (v + 1)), some (mp_i y), some (mp_i (k + 1)), some (mp_i (sp_taker q k 0))]) dX12_augusts_159 rfl (rfl) (by decide) rfl ?_
            refine mp_goto (tgt := 101) dX12_augusts_162 rfl ?_
            refine mp_loc (j := 4) (y := sp_augOne q w k v) (by unfold sp_augOne; first | (rw [if_pos ⟨by omega, by omega⟩]; done) | (rw [if_neg (by omega)]; done) | (rw [if_neg (by omega)]; omega)) rfl (L' := [some (Value.ref 44), some (mp_i o), some (mp_i z), some (mp_i w), some (mp_i (sp_augOne q w k v)), some (mp_i y), some (mp_i (k + 1)), some (mp_i (sp_taker q k 0))]) rfl ?_
            refine mp_drop (L' := [some (Value.ref 44), some (mp_i o), some (mp_i z), some (mp_i w), some (mp_i (sp_augOne q w k v)), some (mp_i y), some (mp_i (k + 1)), none]) [true, true, true, true, true, true, true, false] rfl ?_
            exact ih (k + 1) (sp_augOne q w k v) y q x (⟨by omega, hi.2⟩) hk
theorem lX12_augusts_32 {s m img was num pro ask kp kk kf so sz el : Int → Int} {im pl ra re rm rf sd th : Int} {A B : mp_H}  {o : Int} {z : Int} {w : Int} (hA : A.length = 44) (hs : mp_sky s) (h_o : mp_w o) (h_z : mp_w z) (h_w : mp_w w) {R9 : mp_An} : ∀ (n : Nat) (y : Int) (p : (Int → Int) × Int × Int), ((0 ≤ y ∧ y + (n : Nat) = o) ∧ (0 ≤ w ∧ w ≤ 1)) → mp_At (mX12_augusts, 5, 0, 0) (0, 0) 171 [some (Value.ref 44), some (mp_i o), some (mp_i z), some (mp_i w), some (mp_i ((mp_fold (sp_auStep s w) n y p).2.2)), none, none, none] [] (A ++ (mp_ms s ((mp_fold (sp_auStep s w) n y p).1) img was num pro ask kp kk kf so sz el im pl ra re rm rf ((mp_fold (sp_auStep s w) n y p).2.1) th ++ B)) R9 → mp_At (mX12_augusts, 5, 0, 0) (0, 0) 32 [some (Value.ref 44), some (mp_i o), some (mp_i z), some (mp_i w), some (mp_i p.2.2), some (mp_i y), none, none] [] (A ++ (mp_ms s p.1 img was num pro ask kp kk kf so sz el im pl ra re rm rf p.2.1 th ++ B)) R9 := by
  intro n
  induction n with
  | zero =>
    intro y p hi hk
    refine mp_iload dX12_augusts_32 rfl ?_
    refine mp_iload_n dX12_augusts_34 rfl ?_
    refine mp_icmp_ge (tgt := 171) dX12_augusts_35 rfl ⟨by omega, by omega⟩ ⟨by omega, by omega⟩ (fun h1 => ?_) (fun h1 => ?_)
    · refine mp_drop (L' := [some (Value.ref 44), some (mp_i o), some (mp_i z), some (mp_i w), some (mp_i p.2.2), none, none, none]) [true, true, true, true, true, false, false, false] rfl ?_
      exact hk
    · exfalso; omega
  | succ n ih =>
    intro y p hi hk
    refine mp_iload dX12_augusts_32 rfl ?_
    refine mp_iload_n dX12_augusts_34 rfl ?_
    refine mp_icmp_ge (tgt := 171) dX12_augusts_35 rfl ⟨by omega, by omega⟩ ⟨by omega, by omega⟩ (fun h1 => ?_) (fun h1 => ?_)
    · exfalso; omega
    · refine mp_aload_n dX12_augusts_38 rfl ?_
      refine mp_getfield dX12_augusts_39 fsX12_9_11 (mp_lk hA 0 rfl) rfl ?_
      refine mp_aload_n dX12_augusts_42 rfl ?_
      refine mp_getfield dX12_augusts_43 fsX12_13_11 (mp_lk hA 0 rfl) rfl ?_
      refine mp_invS (z := (mX12_copies, 0, 0, 0)) (K' := (0, 0)) (σ1 := A ++ (mp_ms s s img was num pro ask kp kk kf so sz el im pl ra re rm rf p.2.1 th ++ B)) (as := [Value.ref 45, Value.ref 46]) (st := []) (st1 := []) dX12_augusts_46 ssX12_151 (mp_Call.cast (zX12_copies (a := 45) (b := 46) (f := s) (g := p.1) (mp_lk hA 1 rfl) (mp_lk hA 2 rfl) (by first | with_reducible assumption | omega) (by first | with_reducible assumption | omega)) rfl (congrArg (Prod.mk _) (mp_sts (Ms' := mp_ms s s img was num pro ask kp kk kf so sz el im pl ra re rm rf p.2.1 th) hA 2 (Nat.le_of_ble_eq_true rfl) rfl))) ⟨Nat.le_of_ble_eq_true rfl, Nat.le_of_ble_eq_true rfl, Nat.le_of_ble_eq_true rfl, Nat.le_of_ble_eq_true rfl, Nat.le_of_ble_eq_true rfl⟩ rfl rfl rfl rfl ?_
      refine mp_iconst dX12_augusts_49 ?_
      refine mp_istore (L' := [some (Value.ref 44), some (mp_i o), some (mp_i z), some (mp_i w), some (mp_i p.2.2), some (mp_i y), some (mp_i 0), none]) dX12_augusts_50 (by decide) rfl ?_
      refine lX12_augusts_52 (m := m) (sd := sd) (o := o) (z := z) (w := w) hA hs h_o h_z h_w 5 0 (s, p.2.1) p.2.2 y ⟨by omega, hs⟩ ?_
      show mp_At _ _ 98 [some (Value.ref 44), some (mp_i o), some (mp_i z), some (mp_i w), some (mp_i p.2.2), some (mp_i y), none, none] [] (A ++ (mp_ms s ((sp_dr s p.2.1).1) img was num pro ask kp kk kf so sz el im pl ra re rm rf ((sp_dr s p.2.1).2) th ++ B)) _
      have hds := mp_dr_sky hs p.2.1
      have hd0 := hds.1
      refine mp_iconst dX12_augusts_98 ?_
      refine mp_istore (L' := [some (Value.ref 44), some (mp_i o), some (mp_i z), some (mp_i w), some (mp_i p.2.2), some (mp_i y), some (mp_i 0), none]) dX12_augusts_99 (by decide) rfl ?_
      refine lX12_augusts_101 (m := m) (sd := sd) (o := o) (z := z) (w := w) hA hs h_o h_z h_w ((sp_dr s p.2.1).1 0).toNat 0 p.2.2 y (sp_dr s p.2.1).1 (sp_dr s p.2.1).2 ⟨by omega, hds, by omega⟩ ?_
      refine mp_iinc (z := y + 1) (L' := [some (Value.ref 44), some (mp_i o), some (mp_i z), some (mp_i w), some (mp_i ((sp_auStep s w y p).2.2)), some (mp_i (y + 1)), none, none]) dX12_augusts_165 rfl (rfl) (by decide) rfl ?_
      refine mp_goto (tgt := 32) dX12_augusts_168 rfl ?_
      exact ih (y + 1) (sp_auStep s w y p) ⟨by omega, by omega⟩ hk
theorem zX12_augusts {s m img was num pro ask kp kk kf so sz el : Int → Int} {im pl ra re rm rf sd th : Int} {A B : mp_H}  {o : Int} {z : Int} {w : Int} (hA : A.length = 44) (hs : mp_sky s) (h_o : mp_w o) (h_z : mp_w z) (h_w : mp_w w) : mp_Call (mX12_augusts, 5, 0, 0) [Value.ref 44, mp_i o, mp_i z, mp_i w] (A ++ (mp_ms s m img was num pro ask kp kk kf so sz el im pl ra re rm rf sd th ++ B)) (some (mp_i (sp_augusts s m o z w)), A ++ (mp_ms s (if (1 ≤ o ∧ o ≤ 20) ∧ (0 ≤ w ∧ w ≤ 1) then (sp_auAll s m o z w).1 else m) img was num pro ask kp kk kf so sz el im pl ra re rm rf (if (1 ≤ o ∧ o ≤ 20) ∧ (0 ≤ w ∧ w ≤ 1) then (sp_auAll s m o z w).2.1 else sd) th ++ B)) := by
  refine mp_Call.of (L := [some (Value.ref 44), some (mp_i o), some (mp_i z), some (mp_i w), none, none, none, none]) pnX12 (Nat.le_of_ble_eq_true rfl) rfl ?_
  have h0 := hs.1
  refine mp_iload_n dX12_augusts_0 rfl ?_
  refine mp_iconst dX12_augusts_1 ?_
  refine mp_bipush dX12_augusts_2 rfl ?_
  refine mp_invS (z := (mX12_isIn, 0, 0, 0)) (K' := (0, 0)) (σ1 := A ++ (mp_ms s m img was num pro ask kp kk kf so sz el im pl ra re rm rf sd th ++ B)) (as := [mp_i o, mp_i 1, mp_i 20]) (st := []) (st1 := [mp_i (if 1 ≤ o ∧ o ≤ 20 then 1 else 0)]) dX12_augusts_4 ssX12_53 (zX12_isIn (v := o) (a := 1) (b := 20)  (by first | with_reducible assumption | omega) (by first | with_reducible assumption | omega) (by first | with_reducible assumption | omega)) ⟨Nat.le_of_ble_eq_true rfl, Nat.le_of_ble_eq_true rfl, Nat.le_of_ble_eq_true rfl, Nat.le_of_ble_eq_true rfl, Nat.le_of_ble_eq_true rfl⟩ rfl rfl rfl rfl ?_
  refine mp_ifb_eq (tgt := 19) dX12_augusts_7 rfl (fun h1 => ?_) (fun h1 => ?_)
  · refine mp_iconst dX12_augusts_19 ?_
    exact mp_ireturn (st := []) dX12_augusts_20 rfl ⟨by decide, by decide⟩ ((by rw [if_neg (by omega), if_neg (by omega), show sp_augusts s m o z w = -1 from if_pos (by omega)]))
  · refine mp_iload_n dX12_augusts_10 rfl ?_
    refine mp_iconst dX12_augusts_11 ?_
    refine mp_iconst dX12_augusts_12 ?_
    refine mp_invS (z := (mX12_isIn, 0, 0, 0)) (K' := (0, 0)) (σ1 := A ++ (mp_ms s m img was num pro ask kp kk kf so sz el im pl ra re rm rf sd th ++ B)) (as := [mp_i w, mp_i 0, mp_i 1]) (st := []) (st1 := [mp_i (if 0 ≤ w ∧ w ≤ 1 then 1 else 0)]) dX12_augusts_13 ssX12_53 (zX12_isIn (v := w) (a := 0) (b := 1)  (by first | with_reducible assumption | omega) (by first | with_reducible assumption | omega) (by first | with_reducible assumption | omega)) ⟨Nat.le_of_ble_eq_true rfl, Nat.le_of_ble_eq_true rfl, Nat.le_of_ble_eq_true rfl, Nat.le_of_ble_eq_true rfl, Nat.le_of_ble_eq_true rfl⟩ rfl rfl rfl rfl ?_
    refine mp_ifb_ne (tgt := 21) dX12_augusts_16 rfl (fun h2 => ?_) (fun h2 => ?_)
    · refine mp_aload_n dX12_augusts_21 rfl ?_
      refine mp_iload_n dX12_augusts_22 rfl ?_
      refine mp_putfield (σ' := A ++ (mp_ms s m img was num pro ask kp kk kf so sz el im pl ra re rm rf z th ++ B)) dX12_augusts_23 fsX12_231_11 rfl (Or.inl rfl) (tyX12_ok 13 (by decide)) (fun _ => ⟨rfl, rfl⟩) (mp_lk hA 0 rfl) (by decide) (Nat.le_of_ble_eq_true rfl) (mp_sts (Ms' := mp_ms s m img was num pro ask kp kk kf so sz el im pl ra re rm rf z th) hA 0 (Nat.le_of_ble_eq_true rfl) rfl) ?_
      refine mp_iconst dX12_augusts_26 ?_
      refine mp_istore (L' := [some (Value.ref 44), some (mp_i o), some (mp_i z), some (mp_i w), some (mp_i 0), none, none, none]) dX12_augusts_27 (by decide) rfl ?_
      refine mp_iconst dX12_augusts_29 ?_
      refine mp_istore (L' := [some (Value.ref 44), some (mp_i o), some (mp_i z), some (mp_i w), some (mp_i 0), some (mp_i 0), none, none]) dX12_augusts_30 (by decide) rfl ?_
      refine lX12_augusts_32 (m := m) (sd := sd) (o := o) (z := z) (w := w) hA hs h_o h_z h_w o.toNat 0 (m, z, 0) ⟨by omega, by omega⟩ ?_
      show mp_At _ _ 171 [some (Value.ref 44), some (mp_i o), some (mp_i z), some (mp_i w), some (mp_i ((sp_auAll s m o z w).2.2)), none, none, none] [] (A ++ (mp_ms s ((sp_auAll s m o z w).1) img was num pro ask kp kk kf so sz el im pl ra re rm rf ((sp_auAll s m o z w).2.1) th ++ B)) _
      refine mp_iload dX12_augusts_171 rfl ?_
      exact mp_ireturn (st := []) dX12_augusts_173 rfl ⟨by decide, by decide⟩ ((by rw [if_pos ⟨by omega, by omega⟩, if_pos ⟨by omega, by omega⟩, show sp_augusts s m o z w = (sp_auAll s m o z w).2.2 from if_neg (by omega)]))
    · refine mp_iconst dX12_augusts_19 ?_
      exact mp_ireturn (st := []) dX12_augusts_20 rfl ⟨by decide, by decide⟩ ((by rw [if_neg (by omega), if_neg (by omega), show sp_augusts s m o z w = -1 from if_pos (by omega)]))
theorem lX12_gcd_6 {a : Int} {b : Int} {σ : mp_H} (h_a : 0 ≤ a ∧ a < 9223372036854775808) (h_b : 0 ≤ b ∧ b < 9223372036854775808) {R9 : mp_An} : ∀ (n : Nat) (x : Int) (y : Int), ((0 ≤ x ∧ x < 9223372036854775808) ∧ (0 ≤ y ∧ y < 9223372036854775808) ∧ y < (n : Nat)) → R9 = (some (mp_l (Int.gcd x y : Int)), σ) → mp_At (mX12_gcd, 0, 0, 0) (0, 0) 6 [none, none, none, none, some (mp_l x), none, some (mp_l y), none, none, none] [] σ R9 := by
  intro n
  induction n with
  | zero =>
    intro x y hi hR
    exfalso; omega
  | succ n ih =>
    intro x y hi hR
    refine mp_lload dX12_gcd_6 rfl ?_
    refine mp_lconst (z := 0) dX12_gcd_8 rfl ?_
    refine mp_lcmpI (z := if 0 < y then 1 else if y = 0 then 0 else -1) dX12_gcd_9 ⟨by omega, by omega⟩ ⟨by omega, by omega⟩ rfl ?_
    refine mp_if_eq (tgt := 31) dX12_gcd_10 rfl ⟨by omega, by omega⟩ (fun h1 => ?_) (fun h1 => ?_)
    · refine mp_lload dX12_gcd_31 rfl ?_
      exact mp_lreturn (st := []) dX12_gcd_33 rfl ⟨by decide, by decide⟩ (hR.trans (mp_ansl (by rw [show y = 0 by omega]; exact mp_gcd_0 hi.1.1)))
    · have hm1 := Int.emod_nonneg x (by omega : y ≠ 0)
      have hm2 := Int.emod_lt_of_pos x (by omega : 0 < y)
      refine mp_lload dX12_gcd_13 rfl ?_
      refine mp_lload dX12_gcd_15 rfl ?_
      refine mp_lremr (z := x % y) dX12_gcd_17 ⟨by omega, by omega⟩ ⟨by omega, by omega⟩ rfl ?_
      refine mp_lstore (L' := [none, none, none, none, some (mp_l x), none, some (mp_l y), none, some (mp_l (x % y)), none]) dX12_gcd_18 (by decide) rfl ?_
      refine mp_lload dX12_gcd_20 rfl ?_
      refine mp_lstore (L' := [none, none, none, none, some (mp_l y), none, some (mp_l y), none, some (mp_l (x % y)), none]) dX12_gcd_22 (by decide) rfl ?_
      refine mp_lload dX12_gcd_24 rfl ?_
      refine mp_lstore (L' := [none, none, none, none, some (mp_l y), none, some (mp_l (x % y)), none, some (mp_l (x % y)), none]) dX12_gcd_26 (by decide) rfl ?_
      refine mp_goto (tgt := 6) dX12_gcd_28 rfl ?_
      refine mp_drop (L' := [none, none, none, none, some (mp_l y), none, some (mp_l (x % y)), none, none, none]) [false, false, false, false, true, false, true, false, false, false] rfl ?_
      exact ih y (x % y) (by omega) (hR.trans (by exact mp_ansl (mp_gcd_step hi.1.1 hi.2.1.1 (by omega))))
theorem zX12_gcd {a : Int} {b : Int} {σ : mp_H} (h_a : 0 ≤ a ∧ a < 9223372036854775808) (h_b : 0 ≤ b ∧ b < 9223372036854775808) : mp_Call (mX12_gcd, 0, 0, 0) [mp_l a, mp_l b] σ (some (mp_l (Int.gcd a b : Int)), σ) := by
  refine mp_Call.of (L := [some (mp_l a), none, some (mp_l b), none, none, none, none, none, none, none]) pnX12 (Nat.le_of_ble_eq_true rfl) rfl ?_
  refine mp_lload_n dX12_gcd_0 rfl ?_
  refine mp_lstore (L' := [some (mp_l a), none, some (mp_l b), none, some (mp_l a), none, none, none, none, none]) dX12_gcd_1 (by decide) rfl ?_
  refine mp_lload_n dX12_gcd_3 rfl ?_
  refine mp_lstore (L' := [some (mp_l a), none, some (mp_l b), none, some (mp_l a), none, some (mp_l b), none, none, none]) dX12_gcd_4 (by decide) rfl ?_
  refine mp_drop (L' := [none, none, none, none, some (mp_l a), none, some (mp_l b), none, none, none]) [false, false, false, false, true, false, true, false, false, false] rfl ?_
  exact lX12_gcd_6 (a := a) (b := b)  (by first | with_reducible assumption | omega) (by first | with_reducible assumption | omega) (b.toNat + 1) a b (by omega) (by rfl)
theorem zX12_partOf {a : Int} {b : Int} {w : Int} {σ : mp_H} (h_a : 0 ≤ a ∧ a < 9223372036854775808) (h_b : 0 ≤ b ∧ b < 9223372036854775808) (h_w : 0 ≤ w ∧ w ≤ 1) : mp_Call (mX12_partOf, 1, 0, 0) [mp_l a, mp_l b, mp_i w] σ (some (mp_l (sp_part a b w)), σ) := by
  refine mp_Call.of (L := [some (mp_l a), none, some (mp_l b), none, some (mp_i w)]) pnX12 (Nat.le_of_ble_eq_true rfl) rfl ?_
  refine mp_lload_n dX12_partOf_0 rfl ?_
  refine mp_lconst (z := 0) dX12_partOf_1 rfl ?_
  refine mp_lcmpI (z := if 0 < a then 1 else if a = 0 then 0 else -1) dX12_partOf_2 ⟨by omega, by omega⟩ ⟨by omega, by omega⟩ rfl ?_
  refine mp_if_ne (tgt := 10) dX12_partOf_3 rfl ⟨by omega, by omega⟩ (fun h1 => ?_) (fun h1 => ?_)
  · have hg := mp_gcd_bd (b := b) (show 0 < a by omega)
    refine mp_iload dX12_partOf_10 rfl ?_
    refine mp_if_ne (tgt := 19) dX12_partOf_12 rfl ⟨by omega, by omega⟩ (fun h2 => ?_) (fun h2 => ?_)
    · refine mp_lload_n dX12_partOf_19 rfl ?_
      refine mp_lload_n dX12_partOf_20 rfl ?_
      refine mp_lload_n dX12_partOf_21 rfl ?_
      refine mp_invS (z := (mX12_gcd, 0, 0, 0)) (K' := (0, 0)) (σ1 := σ) (as := [mp_l a, mp_l b]) (st := [mp_l b]) (st1 := [mp_l (Int.gcd a b : Int), mp_l b]) dX12_partOf_22 ssX12_214 (zX12_gcd (a := a) (b := b)  (by first | with_reducible assumption | omega) (by first | with_reducible assumption | omega)) ⟨Nat.le_of_ble_eq_true rfl, Nat.le_of_ble_eq_true rfl, Nat.le_of_ble_eq_true rfl, Nat.le_of_ble_eq_true rfl, Nat.le_of_ble_eq_true rfl⟩ rfl rfl rfl rfl ?_
      refine mp_ldivr (z := b / (Int.gcd a b : Int)) dX12_partOf_25 ⟨by omega, by omega⟩ ⟨by omega, by omega⟩ rfl ?_
      exact mp_lreturn (st := []) dX12_partOf_26 rfl ⟨by decide, by decide⟩ ((mp_ansl (by unfold sp_part; first | (rw [if_pos (by omega)]; done) | (rw [if_neg (by omega), if_pos (by omega)]; done) | (rw [if_neg (by omega), if_neg (by omega)]; done))))
    · refine mp_lload_n dX12_partOf_15 rfl ?_
      refine mp_goto (tgt := 20) dX12_partOf_16 rfl ?_
      refine mp_lload_n dX12_partOf_20 rfl ?_
      refine mp_lload_n dX12_partOf_21 rfl ?_
      refine mp_invS (z := (mX12_gcd, 0, 0, 0)) (K' := (0, 0)) (σ1 := σ) (as := [mp_l a, mp_l b]) (st := [mp_l a]) (st1 := [mp_l (Int.gcd a b : Int), mp_l a]) dX12_partOf_22 ssX12_214 (zX12_gcd (a := a) (b := b)  (by first | with_reducible assumption | omega) (by first | with_reducible assumption | omega)) ⟨Nat.le_of_ble_eq_true rfl, Nat.le_of_ble_eq_true rfl, Nat.le_of_ble_eq_true rfl, Nat.le_of_ble_eq_true rfl, Nat.le_of_ble_eq_true rfl⟩ rfl rfl rfl rfl ?_
      refine mp_ldivr (z := a / (Int.gcd a b : Int)) dX12_partOf_25 ⟨by omega, by omega⟩ ⟨by omega, by omega⟩ rfl ?_
      exact mp_lreturn (st := []) dX12_partOf_26 rfl ⟨by decide, by decide⟩ ((mp_ansl (by unfold sp_part; first | (rw [if_pos (by omega)]; done) | (rw [if_neg (by omega), if_pos (by omega)]; done) | (rw [if_neg (by omega), if_neg (by omega)]; done))))
  · refine mp_iload dX12_partOf_6 rfl ?_
    refine mp_i2l dX12_partOf_8 ⟨by omega, by omega⟩ ?_
    exact mp_lreturn (st := []) dX12_partOf_9 rfl ⟨by decide, by decide⟩ ((mp_ansl (by unfold sp_part; first | (rw [if_pos (by omega)]; done) | (rw [if_neg (by omega), if_pos (by omega)]; done) | (rw [if_neg (by omega), if_neg (by omega)]; done))))
theorem zX12_mean {s m img was num pro ask kp kk kf so sz el : Int → Int} {im pl ra re rm rf sd th : Int} {A B : mp_H}  {w : Int} (hA : A.length = 44) (hs : mp_sky s) (h_w : mp_w w) : mp_Call (mX12_mean, 4, 0, 0) [Value.ref 44, mp_i w] (A ++ (mp_ms s m img was num pro ask kp kk kf so sz el im pl ra re rm rf sd th ++ B)) (some (mp_l (sp_mean s w)), A ++ (mp_ms s m img was num pro ask kp kk kf so sz el im pl ra re rm rf sd th ++ B)) := by
  refine mp_Call.of (L := [some (Value.ref 44), some (mp_i w)]) pnX12 (Nat.le_of_ble_eq_true rfl) rfl ?_
  have h0 := hs.1
  have hht := mp_heatAll_bd hs
  refine mp_iload_n dX12_mean_0 rfl ?_
  refine mp_iconst dX12_mean_1 ?_
  refine mp_iconst dX12_mean_2 ?_
  refine mp_invS (z := (mX12_isIn, 0, 0, 0)) (K' := (0, 0)) (σ1 := A ++ (mp_ms s m img was num pro ask kp kk kf so sz el im pl ra re rm rf sd th ++ B)) (as := [mp_i w, mp_i 0, mp_i 1]) (st := []) (st1 := [mp_i (if 0 ≤ w ∧ w ≤ 1 then 1 else 0)]) dX12_mean_3 ssX12_53 (zX12_isIn (v := w) (a := 0) (b := 1)  (by first | with_reducible assumption | omega) (by first | with_reducible assumption | omega) (by first | with_reducible assumption | omega)) ⟨Nat.le_of_ble_eq_true rfl, Nat.le_of_ble_eq_true rfl, Nat.le_of_ble_eq_true rfl, Nat.le_of_ble_eq_true rfl, Nat.le_of_ble_eq_true rfl⟩ rfl rfl rfl rfl ?_
  refine mp_ifb_eq (tgt := 28) dX12_mean_6 rfl (fun h1 => ?_) (fun h1 => ?_)
  · refine mp_ldc2 (z := 1000000001) dX12_mean_28 kcX12_218 rfl ?_
    exact mp_lreturn (st := []) dX12_mean_31 rfl ⟨by decide, by decide⟩ ((mp_ansl (by unfold sp_mean; first | (rw [if_pos (by omega)]; done) | (rw [if_neg (by omega)]; done))))
  · refine mp_aload_n dX12_mean_9 rfl ?_
    refine mp_invV (z := (mX12_heatAll, 3, 0, 0)) (K' := (0, 0)) (σ1 := A ++ (mp_ms s m img was num pro ask kp kk kf so sz el im pl ra re rm rf sd th ++ B)) (as := []) (st := []) (st1 := [mp_i (sp_heatAll s)]) dX12_mean_10 svX12_228 (mp_lk hA 0 rfl) rfl rfl (zX12_heatAll  (s := s) (m := m) (img := img) (was := was) (num := num) (pro := pro) (ask := ask) (kp := kp) (kk := kk) (kf := kf) (so := so) (sz := sz) (el := el) (im := im) (pl := pl) (ra := ra) (re := re) (rm := rm) (rf := rf) (sd := sd) (th := th) (by first | with_reducible assumption | omega) (by first | with_reducible assumption | omega)) ⟨Nat.le_of_ble_eq_true rfl, Nat.le_of_ble_eq_true rfl, Nat.le_of_ble_eq_true rfl, Nat.le_of_ble_eq_true rfl, Nat.le_of_ble_eq_true rfl⟩ rfl rfl rfl rfl ?_
    refine mp_i2l dX12_mean_13 ⟨by omega, by omega⟩ ?_
    refine mp_aload_n dX12_mean_14 rfl ?_
    refine mp_getfield dX12_mean_15 fsX12_9_11 (mp_lk hA 0 rfl) rfl ?_
    refine mp_iconst dX12_mean_18 ?_
    refine mp_iald dX12_mean_19 (mp_lk hA 1 rfl) ⟨by omega, by omega⟩ (by omega) ?_
    refine mp_i2l dX12_mean_20 ⟨by omega, by omega⟩ ?_
    refine mp_iload_n dX12_mean_21 rfl ?_
    refine mp_invS (z := (mX12_partOf, 1, 0, 0)) (K' := (0, 0)) (σ1 := A ++ (mp_ms s m img was num pro ask kp kk kf so sz el im pl ra re rm rf sd th ++ B)) (as := [mp_l (sp_heatAll s), mp_l (s 0), mp_i w]) (st := []) (st1 := [mp_l (sp_part (sp_heatAll s) (s 0) w)]) dX12_mean_22 ssX12_220 (zX12_partOf (a := (sp_heatAll s)) (b := (s 0)) (w := w)  (by first | with_reducible assumption | omega) (by first | with_reducible assumption | omega) (by first | with_reducible assumption | omega)) ⟨Nat.le_of_ble_eq_true rfl, Nat.le_of_ble_eq_true rfl, Nat.le_of_ble_eq_true rfl, Nat.le_of_ble_eq_true rfl, Nat.le_of_ble_eq_true rfl⟩ rfl rfl rfl rfl ?_
    refine mp_goto (tgt := 31) dX12_mean_25 rfl ?_
    exact mp_lreturn (st := []) dX12_mean_31 rfl ⟨by decide, by decide⟩ ((mp_ansl (by unfold sp_mean; first | (rw [if_pos (by omega)]; done) | (rw [if_neg (by omega)]; done))))
