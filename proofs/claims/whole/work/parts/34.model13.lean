theorem zX12_rings {s m img was num pro ask kp kk kf so sz el : Int → Int} {im pl ra re rm rf sd th : Int} {A B : mp_H}  {w : Int} (hA : A.length = 44) (hs : mp_sky s) (h_w : mp_w w) : mp_Call (mX12_rings, 8, 0, 0) [Value.ref 44, mp_i w] (A ++ (mp_ms s m img was num pro ask kp kk kf so sz el im pl ra re rm rf sd th ++ B)) (some (mp_i (sp_rings s w)), A ++ (mp_ms s m img was num pro ask kp kk kf so sz el im pl ra re (if 0 ≤ w ∧ w ≤ 1 then (sp_chg s 5 0 (sp_said s) 0 0 (-1, 0)).1 else rm) (if 0 ≤ w ∧ w ≤ 1 then (sp_chg s 5 0 (sp_said s) 0 0 (-1, 0)).2 else rf) sd th ++ B)) := by
  refine mp_Call.of (L := [some (Value.ref 44), some (mp_i w)]) pnX12 (Nat.le_of_ble_eq_true rfl) rfl ?_
  have h0 := hs.1
  have hsb := mp_said_bd hs
  have hr9 := mp_chg_bd s 5 0 (sp_said s) 0 0 (-1, 0) (by decide) (by decide) (by decide) (by decide)
  have hq0 : mp_rng (-1, 0) := by decide
  refine mp_iload_n dX12_rings_0 rfl ?_
  refine mp_iconst dX12_rings_1 ?_
  refine mp_iconst dX12_rings_2 ?_
  refine mp_invS (z := (mX12_isIn, 0, 0, 0)) (K' := (0, 0)) (σ1 := A ++ (mp_ms s m img was num pro ask kp kk kf so sz el im pl ra re rm rf sd th ++ B)) (as := [mp_i w, mp_i 0, mp_i 1]) (st := []) (st1 := [mp_i (if 0 ≤ w ∧ w ≤ 1 then 1 else 0)]) dX12_rings_3 ssX12_53 (zX12_isIn (v := w) (a := 0) (b := 1)  (by first | with_reducible assumption | omega) (by first | with_reducible assumption | omega) (by first | with_reducible assumption | omega)) ⟨Nat.le_of_ble_eq_true rfl, Nat.le_of_ble_eq_true rfl, Nat.le_of_ble_eq_true rfl, Nat.le_of_ble_eq_true rfl, Nat.le_of_ble_eq_true rfl⟩ rfl rfl rfl rfl ?_
  refine mp_ifb_ne (tgt := 11) dX12_rings_6 rfl (fun h1 => ?_) (fun h1 => ?_)
  · refine mp_aload_n dX12_rings_11 rfl ?_
    refine mp_iconst dX12_rings_12 ?_
    refine mp_putfield (σ' := A ++ (mp_ms s m img was num pro ask kp kk kf so sz el im pl ra re (-1) rf sd th ++ B)) dX12_rings_13 fsX12_194_11 rfl (Or.inl rfl) (tyX12_ok 11 (by decide)) (fun _ => ⟨rfl, rfl⟩) (mp_lk hA 0 rfl) (by decide) (Nat.le_of_ble_eq_true rfl) (mp_sts (Ms' := mp_ms s m img was num pro ask kp kk kf so sz el im pl ra re (-1) rf sd th) hA 0 (Nat.le_of_ble_eq_true rfl) rfl) ?_
    refine mp_aload_n dX12_rings_16 rfl ?_
    refine mp_iconst dX12_rings_17 ?_
    refine mp_putfield (σ' := A ++ (mp_ms s m img was num pro ask kp kk kf so sz el im pl ra re (-1) 0 sd th ++ B)) dX12_rings_18 fsX12_197_11 rfl (Or.inl rfl) (tyX12_ok 12 (by decide)) (fun _ => ⟨rfl, rfl⟩) (mp_lk hA 0 rfl) (by decide) (Nat.le_of_ble_eq_true rfl) (mp_sts (Ms' := mp_ms s m img was num pro ask kp kk kf so sz el im pl ra re (-1) 0 sd th) hA 0 (Nat.le_of_ble_eq_true rfl) rfl) ?_
    refine mp_aload_n dX12_rings_21 rfl ?_
    refine mp_iconst dX12_rings_22 ?_
    refine mp_aload_n dX12_rings_23 rfl ?_
    refine mp_getfield dX12_rings_24 fsX12_9_11 (mp_lk hA 0 rfl) rfl ?_
    refine mp_invS (z := (mX12_saidOf, 1, 0, 0)) (K' := (0, 0)) (σ1 := A ++ (mp_ms s m img was num pro ask kp kk kf so sz el im pl ra re (-1) 0 sd th ++ B)) (as := [Value.ref 45]) (st := [mp_i 0, Value.ref 44]) (st1 := [mp_i (sp_said s), mp_i 0, Value.ref 44]) dX12_rings_27 ssX12_175 (zX12_saidOf (r := 45) (s := s) (mp_lk hA 1 rfl) (by first | with_reducible assumption | omega)) ⟨Nat.le_of_ble_eq_true rfl, Nat.le_of_ble_eq_true rfl, Nat.le_of_ble_eq_true rfl, Nat.le_of_ble_eq_true rfl, Nat.le_of_ble_eq_true rfl⟩ rfl rfl rfl rfl ?_
    refine mp_iconst dX12_rings_30 ?_
    refine mp_iconst dX12_rings_31 ?_
    refine mp_invV (z := (mX12_changes, 7, 0, 0)) (K' := (0, 0)) (σ1 := A ++ (mp_ms s m img was num pro ask kp kk kf so sz el im pl ra re ((sp_chg s 5 0 (sp_said s) 0 0 ((-1), 0)).1) ((sp_chg s 5 0 (sp_said s) 0 0 ((-1), 0)).2) sd th ++ B)) (as := [mp_i 0, mp_i (sp_said s), mp_i 0, mp_i 0]) (st := []) (st1 := []) dX12_rings_32 svX12_200 (mp_lk hA 0 rfl) rfl rfl (zX12_changes5 (g := (sp_said s)) (o := 0) (c := 0) (s := s) (m := m) (img := img) (was := was) (num := num) (pro := pro) (ask := ask) (kp := kp) (kk := kk) (kf := kf) (so := so) (sz := sz) (el := el) (im := im) (pl := pl) (ra := ra) (re := re) (rm := (-1)) (rf := 0) (sd := sd) (th := th) (by first | with_reducible assumption | omega) (by first | with_reducible assumption | omega) (by first | with_reducible assumption | omega) (by first | with_reducible assumption | omega) (by first | with_reducible assumption | omega) (by first | with_reducible assumption | omega)) ⟨Nat.le_of_ble_eq_true rfl, Nat.le_of_ble_eq_true rfl, Nat.le_of_ble_eq_true rfl, Nat.le_of_ble_eq_true rfl, Nat.le_of_ble_eq_true rfl⟩ rfl rfl rfl rfl ?_
    refine mp_iload_n dX12_rings_35 rfl ?_
    refine mp_if_ne (tgt := 46) dX12_rings_36 rfl ⟨by omega, by omega⟩ (fun h2 => ?_) (fun h2 => ?_)
    · refine mp_aload_n dX12_rings_46 rfl ?_
      refine mp_getfield dX12_rings_47 fsX12_197_11 (mp_lk hA 0 rfl) rfl ?_
      exact mp_ireturn (st := []) dX12_rings_50 rfl ⟨by decide, by decide⟩ ((by rw [if_pos (by omega), if_pos (by omega), show sp_rings s w = (sp_chg s 5 0 (sp_said s) 0 0 ((-1), 0)).2 from by unfold sp_rings; first | (rw [if_neg (by omega), if_pos (by omega)]; done) | (rw [if_neg (by omega), if_neg (by omega)]; done)]))
    · refine mp_aload_n dX12_rings_39 rfl ?_
      refine mp_getfield dX12_rings_40 fsX12_194_11 (mp_lk hA 0 rfl) rfl ?_
      refine mp_goto (tgt := 50) dX12_rings_43 rfl ?_
      exact mp_ireturn (st := []) dX12_rings_50 rfl ⟨by decide, by decide⟩ ((by rw [if_pos (by omega), if_pos (by omega), show sp_rings s w = (sp_chg s 5 0 (sp_said s) 0 0 ((-1), 0)).1 from by unfold sp_rings; first | (rw [if_neg (by omega), if_pos (by omega)]; done) | (rw [if_neg (by omega), if_neg (by omega)]; done)]))
  · refine mp_iconst dX12_rings_9 ?_
    exact mp_ireturn (st := []) dX12_rings_10 rfl ⟨by decide, by decide⟩ ((by rw [if_neg (by omega), if_neg (by omega), show sp_rings s w = -1 from if_pos (by omega)]))
theorem zX12_here {s m img was num pro ask kp kk kf so sz el : Int → Int} {im pl ra re rm rf sd th : Int} {A B : mp_H}  (hA : A.length = 44) (hel : ∀ x, mp_w (el x)) (h_p : 0 ≤ pl ∧ pl ≤ 1000) (h_ra : (0 ≤ ra ∧ ra ≤ 700) ∧ (0 ≤ re ∧ re ≤ 100)) : mp_Call (mX12_here, 0, 0, 0) [Value.ref 44] (A ++ (mp_ms s m img was num pro ask kp kk kf so sz el im pl ra re rm rf sd th ++ B)) (some (mp_i (sp_here el ra re pl)), A ++ (mp_ms s m img was num pro ask kp kk kf so sz el im pl ra re rm rf sd th ++ B)) := by
  refine mp_Call.of (L := [some (Value.ref 44)]) pnX12 (Nat.le_of_ble_eq_true rfl) rfl ?_
  refine mp_aload_n dX12_here_0 rfl ?_
  refine mp_getfield dX12_here_1 fsX12_106_11 (mp_lk hA 0 rfl) rfl ?_
  refine mp_aload_n dX12_here_4 rfl ?_
  refine mp_getfield dX12_here_5 fsX12_110_11 (mp_lk hA 0 rfl) rfl ?_
  refine mp_icmp_ge (tgt := 32) dX12_here_8 rfl ⟨by omega, by omega⟩ ⟨by omega, by omega⟩ (fun h1 => ?_) (fun h1 => ?_)
  · refine mp_iconst dX12_here_32 ?_
    exact mp_ireturn (st := []) dX12_here_33 rfl ⟨by decide, by decide⟩ ((mp_ans (by unfold sp_here; first | (rw [if_pos (by omega)]; done) | (rw [if_neg (by omega)]; done))))
  · refine mp_aload_n dX12_here_11 rfl ?_
    refine mp_getfield dX12_here_12 fsX12_46_11 (mp_lk hA 0 rfl) rfl ?_
    refine mp_aload_n dX12_here_15 rfl ?_
    refine mp_getfield dX12_here_16 fsX12_113_11 (mp_lk hA 0 rfl) rfl ?_
    refine mp_aload_n dX12_here_19 rfl ?_
    refine mp_getfield dX12_here_20 fsX12_106_11 (mp_lk hA 0 rfl) rfl ?_
    refine mp_iadd (z := ra + pl) dX12_here_23 (by first | rfl | omega) ?_
    refine mp_iald dX12_here_24 (mp_lk hA 13 rfl) ⟨by omega, by omega⟩ (by omega) ?_
    have b2 := hel (ra + pl)
    refine mp_sipush dX12_here_25 rfl ?_
    refine mp_iand (z := (el (ra + pl)) % 256) dX12_here_28 (mp_z_low8 _) ?_
    refine mp_goto (tgt := 33) dX12_here_29 rfl ?_
    exact mp_ireturn (st := []) dX12_here_33 rfl ⟨by decide, by decide⟩ ((mp_ans (by unfold sp_here; first | (rw [if_pos (by omega)]; done) | (rw [if_neg (by omega)]; done))))
theorem lX12_readsNumber_9 {s m img was num pro ask kp kk kf so sz el : Int → Int} {im pl ra re rm rf sd th : Int} {A B : mp_H}  {k : Int} {g : Int} (hA : A.length = 44) (hel : ∀ x, mp_w (el x)) (h_p : 0 ≤ pl ∧ pl ≤ 900) (h_ra : (0 ≤ ra ∧ ra ≤ 700) ∧ (0 ≤ re ∧ re ≤ 100)) (h_k : 0 ≤ k ∧ k ≤ 5) (h_g : 0 ≤ g ∧ g ≤ 2) {R9 : mp_An} : ∀ (n : Nat) (t : Int) (p : Int) (v : Int), ((0 ≤ t ∧ t + (n : Nat) = g) ∧ (0 ≤ p ∧ p ≤ 900 + t)) → R9 = (some (mp_i (sp_rdN (sp_here el ra re) n p v).1), A ++ (mp_ms s m img was (mp_ud num k (sp_rdN (sp_here el ra re) n p v).2.2) pro ask kp kk kf so sz el im ((sp_rdN (sp_here el ra re) n p v).2.1) ra re rm rf sd th ++ B)) → mp_At (mX12_readsNumber, 1, 0, 0) (0, 0) 9 [some (Value.ref 44), some (mp_i k), some (mp_i g), some (mp_i t)] [] (A ++ (mp_ms s m img was (mp_ud num k v) pro ask kp kk kf so sz el im p ra re rm rf sd th ++ B)) R9 := by
  intro n
  induction n with
  | zero =>
    intro t p v hi hR
    refine mp_iload_n dX12_readsNumber_9 rfl ?_
    refine mp_iload_n dX12_readsNumber_10 rfl ?_
    refine mp_icmp_ge (tgt := 69) dX12_readsNumber_11 rfl ⟨by omega, by omega⟩ ⟨by omega, by omega⟩ (fun h1 => ?_) (fun h1 => ?_)
    · refine mp_iconst dX12_readsNumber_69 ?_
      exact mp_zreturn (st := []) dX12_readsNumber_70 rfl rfl ⟨by decide, by decide⟩ (hR.trans (rfl))
    · exfalso; omega
  | succ n ih =>
    intro t p v hi hR
    have hhb := mp_here_bd el ra re p
    refine mp_iload_n dX12_readsNumber_9 rfl ?_
    refine mp_iload_n dX12_readsNumber_10 rfl ?_
    refine mp_icmp_ge (tgt := 69) dX12_readsNumber_11 rfl ⟨by omega, by omega⟩ ⟨by omega, by omega⟩ (fun h1 => ?_) (fun h1 => ?_)
    · exfalso; omega
    · refine mp_aload_n dX12_readsNumber_14 rfl ?_
      refine mp_invV (z := (mX12_here, 0, 0, 0)) (K' := (0, 0)) (σ1 := A ++ (mp_ms s m img was (mp_ud num k v) pro ask kp kk kf so sz el im p ra re rm rf sd th ++ B)) (as := []) (st := []) (st1 := [mp_i (sp_here el ra re p)]) dX12_readsNumber_15 svX12_116 (mp_lk hA 0 rfl) rfl rfl (zX12_here  (s := s) (m := m) (img := img) (was := was) (num := (mp_ud num k v)) (pro := pro) (ask := ask) (kp := kp) (kk := kk) (kf := kf) (so := so) (sz := sz) (el := el) (im := im) (pl := p) (ra := ra) (re := re) (rm := rm) (rf := rf) (sd := sd) (th := th) (by first | with_reducible assumption | omega) (by first | with_reducible assumption | omega) (by first | with_reducible assumption | omega) (by first | with_reducible assumption | omega)) ⟨Nat.le_of_ble_eq_true rfl, Nat.le_of_ble_eq_true rfl, Nat.le_of_ble_eq_true rfl, Nat.le_of_ble_eq_true rfl, Nat.le_of_ble_eq_true rfl⟩ rfl rfl rfl rfl ?_
      refine mp_bipush dX12_readsNumber_18 rfl ?_
      refine mp_bipush dX12_readsNumber_20 rfl ?_
      refine mp_invS (z := (mX12_isIn, 0, 0, 0)) (K' := (0, 0)) (σ1 := A ++ (mp_ms s m img was (mp_ud num k v) pro ask kp kk kf so sz el im p ra re rm rf sd th ++ B)) (as := [mp_i (sp_here el ra re p), mp_i 48, mp_i 57]) (st := []) (st1 := [mp_i (if 48 ≤ (sp_here el ra re p) ∧ (sp_here el ra re p) ≤ 57 then 1 else 0)]) dX12_readsNumber_22 ssX12_53 (zX12_isIn (v := (sp_here el ra re p)) (a := 48) (b := 57)  (by first | with_reducible assumption | omega) (by first | with_reducible assumption | omega) (by first | with_reducible assumption | omega)) ⟨Nat.le_of_ble_eq_true rfl, Nat.le_of_ble_eq_true rfl, Nat.le_of_ble_eq_true rfl, Nat.le_of_ble_eq_true rfl, Nat.le_of_ble_eq_true rfl⟩ rfl rfl rfl rfl ?_
      refine mp_ifb_ne (tgt := 30) dX12_readsNumber_25 rfl (fun h2 => ?_) (fun h2 => ?_)
      · refine mp_aload_n dX12_readsNumber_30 rfl ?_
        refine mp_getfield dX12_readsNumber_31 fsX12_22_11 (mp_lk hA 0 rfl) rfl ?_
        refine mp_iload_n dX12_readsNumber_34 rfl ?_
        refine mp_bipush dX12_readsNumber_35 rfl ?_
        refine mp_aload_n dX12_readsNumber_37 rfl ?_
        refine mp_getfield dX12_readsNumber_38 fsX12_22_11 (mp_lk hA 0 rfl) rfl ?_
        refine mp_iload_n dX12_readsNumber_41 rfl ?_
        refine mp_iald dX12_readsNumber_42 (mp_lk hA 5 rfl) ⟨by omega, by omega⟩ (by omega) ?_
        refine mp_imul (z := 10 * ((mp_ud num k v) k)) dX12_readsNumber_43 (by first | rfl | omega) ?_
        refine mp_aload_n dX12_readsNumber_44 rfl ?_
        refine mp_invV (z := (mX12_here, 0, 0, 0)) (K' := (0, 0)) (σ1 := A ++ (mp_ms s m img was (mp_ud num k v) pro ask kp kk kf so sz el im p ra re rm rf sd th ++ B)) (as := []) (st := [mp_i (10 * ((mp_ud num k v) k)), mp_i k, Value.ref 49]) (st1 := [mp_i (sp_here el ra re p), mp_i (10 * ((mp_ud num k v) k)), mp_i k, Value.ref 49]) dX12_readsNumber_45 svX12_116 (mp_lk hA 0 rfl) rfl rfl (zX12_here  (s := s) (m := m) (img := img) (was := was) (num := (mp_ud num k v)) (pro := pro) (ask := ask) (kp := kp) (kk := kk) (kf := kf) (so := so) (sz := sz) (el := el) (im := im) (pl := p) (ra := ra) (re := re) (rm := rm) (rf := rf) (sd := sd) (th := th) (by first | with_reducible assumption | omega) (by first | with_reducible assumption | omega) (by first | with_reducible assumption | omega) (by first | with_reducible assumption | omega)) ⟨Nat.le_of_ble_eq_true rfl, Nat.le_of_ble_eq_true rfl, Nat.le_of_ble_eq_true rfl, Nat.le_of_ble_eq_true rfl, Nat.le_of_ble_eq_true rfl⟩ rfl rfl rfl rfl ?_
        refine mp_iadd (z := (10 * ((mp_ud num k v) k)) + (sp_here el ra re p)) dX12_readsNumber_48 (by first | rfl | omega) ?_
        refine mp_bipush dX12_readsNumber_49 rfl ?_
        refine mp_isub (z := ((10 * ((mp_ud num k v) k)) + (sp_here el ra re p)) - 48) dX12_readsNumber_51 (by first | rfl | omega) ?_
        refine mp_iast (σ' := A ++ (mp_ms s m img was (mp_ud (mp_ud num k v) k (((10 * ((mp_ud num k v) k)) + (sp_here el ra re p)) - 48)) pro ask kp kk kf so sz el im p ra re rm rf sd th ++ B)) dX12_readsNumber_52 (mp_lk hA 5 rfl) (by decide) ⟨by omega, by omega⟩ (by decide) (mp_sts (Ms' := mp_ms s m img was (mp_ud (mp_ud num k v) k (((10 * ((mp_ud num k v) k)) + (sp_here el ra re p)) - 48)) pro ask kp kk kf so sz el im p ra re rm rf sd th) hA 5 (Nat.le_of_ble_eq_true rfl) rfl) ?_
        refine mp_sg (σ' := A ++ (mp_ms s m img was (mp_ud num k (10 * v + sp_here el ra re p - 48)) pro ask kp kk kf so sz el im p ra re rm rf sd th ++ B)) (by rw [mp_ud_ud, mp_ud_eq]) ?_
        refine mp_aload_n dX12_readsNumber_53 rfl ?_
        refine mp_dup dX12_readsNumber_54 rfl ?_
        refine mp_getfield dX12_readsNumber_55 fsX12_106_11 (mp_lk hA 0 rfl) rfl ?_
        refine mp_iconst dX12_readsNumber_58 ?_
        refine mp_iadd (z := p + 1) dX12_readsNumber_59 (by first | rfl | omega) ?_
        refine mp_putfield (σ' := A ++ (mp_ms s m img was (mp_ud num k (10 * v + sp_here el ra re p - 48)) pro ask kp kk kf so sz el im (p + 1) ra re rm rf sd th ++ B)) dX12_readsNumber_60 fsX12_106_11 rfl (Or.inl rfl) (tyX12_ok 5 (by decide)) (fun _ => ⟨rfl, rfl⟩) (mp_lk hA 0 rfl) (by decide) (Nat.le_of_ble_eq_true rfl) (mp_sts (Ms' := mp_ms s m img was (mp_ud num k (10 * v + sp_here el ra re p - 48)) pro ask kp kk kf so sz el im (p + 1) ra re rm rf sd th) hA 0 (Nat.le_of_ble_eq_true rfl) rfl) ?_
        refine mp_iinc (z := t + 1) (L' := [some (Value.ref 44), some (mp_i k), some (mp_i g), some (mp_i (t + 1))]) dX12_readsNumber_63 rfl (rfl) (by decide) rfl ?_
        refine mp_goto (tgt := 9) dX12_readsNumber_66 rfl ?_
        exact ih (t + 1) (p + 1) (10 * v + sp_here el ra re p - 48) (by omega) (hR.trans (by rw [show sp_rdN (sp_here el ra re) (n + 1) p v = sp_rdN (sp_here el ra re) n (p + 1) (10 * v + sp_here el ra re p - 48) from if_neg (by omega)]))
      · refine mp_iconst dX12_readsNumber_28 ?_
        exact mp_zreturn (st := []) dX12_readsNumber_29 rfl rfl ⟨by decide, by decide⟩ (hR.trans (by rw [show sp_rdN (sp_here el ra re) (n + 1) p v = (0, p, v) from if_pos (by omega)]))
theorem zX12_readsNumber {s m img was num pro ask kp kk kf so sz el : Int → Int} {im pl ra re rm rf sd th : Int} {A B : mp_H}  {k : Int} {g : Int} (hA : A.length = 44) (hel : ∀ x, mp_w (el x)) (h_p : 0 ≤ pl ∧ pl ≤ 900) (h_ra : (0 ≤ ra ∧ ra ≤ 700) ∧ (0 ≤ re ∧ re ≤ 100)) (h_k : 0 ≤ k ∧ k ≤ 5) (h_g : 0 ≤ g ∧ g ≤ 2) : mp_Call (mX12_readsNumber, 1, 0, 0) [Value.ref 44, mp_i k, mp_i g] (A ++ (mp_ms s m img was num pro ask kp kk kf so sz el im pl ra re rm rf sd th ++ B)) (some (mp_i ((sp_rdN (sp_here el ra re) (Int.toNat g) pl 0).1)), A ++ (mp_ms s m img was (mp_ud num k (sp_rdN (sp_here el ra re) (Int.toNat g) pl 0).2.2) pro ask kp kk kf so sz el im ((sp_rdN (sp_here el ra re) (Int.toNat g) pl 0).2.1) ra re rm rf sd th ++ B)) := by
  refine mp_Call.of (L := [some (Value.ref 44), some (mp_i k), some (mp_i g), none]) pnX12 (Nat.le_of_ble_eq_true rfl) rfl ?_
  refine mp_aload_n dX12_readsNumber_0 rfl ?_
  refine mp_getfield dX12_readsNumber_1 fsX12_22_11 (mp_lk hA 0 rfl) rfl ?_
  refine mp_iload_n dX12_readsNumber_4 rfl ?_
  refine mp_iconst dX12_readsNumber_5 ?_
  refine mp_iast (σ' := A ++ (mp_ms s m img was (mp_ud num k 0) pro ask kp kk kf so sz el im pl ra re rm rf sd th ++ B)) dX12_readsNumber_6 (mp_lk hA 5 rfl) (by decide) ⟨by omega, by omega⟩ (by decide) (mp_sts (Ms' := mp_ms s m img was (mp_ud num k 0) pro ask kp kk kf so sz el im pl ra re rm rf sd th) hA 5 (Nat.le_of_ble_eq_true rfl) rfl) ?_
  refine mp_iconst dX12_readsNumber_7 ?_
  refine mp_istore_n (L' := [some (Value.ref 44), some (mp_i k), some (mp_i g), some (mp_i 0)]) dX12_readsNumber_8 rfl (by decide) rfl ?_
  exact lX12_readsNumber_9 (num := num) (pl := pl) (k := k) (g := g) hA hel h_p h_ra h_k h_g g.toNat 0 pl 0 (by omega) rfl
