theorem lX12_weds_2 {s m img was num pro ask kp kk kf so sz el : Int → Int} {im pl ra re rm rf sd th : Int} {A B : mp_H}  (hA : A.length = 44) (hs : mp_sky s) {R9 : mp_An} : ∀ (n : Nat) (t : Int) (q : Int → Int), ((0 ≤ t ∧ t + (n : Nat) = 8) ∧ ∀ j, 0 ≤ j → j < t → q j = -4) → mp_At (mX12_weds, 5, 0, 0) (0, 0) 22 [some (Value.ref 44), none, none, none, none] [] (A ++ (mp_ms s m img was num (fun _ => -4) ask kp kk kf so sz el im pl ra re rm rf sd th ++ B)) R9 → mp_At (mX12_weds, 5, 0, 0) (0, 0) 2 [some (Value.ref 44), some (mp_i t), none, none, none] [] (A ++ (mp_ms s m img was num q ask kp kk kf so sz el im pl ra re rm rf sd th ++ B)) R9 := by
  intro n
  induction n with
  | zero =>
    intro t q hi hk
    refine mp_iload_n dX12_weds_2 rfl ?_
    refine mp_bipush dX12_weds_3 rfl ?_
    refine mp_icmp_ge (tgt := 22) dX12_weds_5 rfl ⟨by omega, by omega⟩ ⟨by omega, by omega⟩ (fun h1 => ?_) (fun h1 => ?_)
    · refine mp_drop (L' := [some (Value.ref 44), none, none, none, none]) [true, false, false, false, false] rfl ?_
      exact mp_extPro hA (fun j h1 h2 => hi.2 j h1 (by omega)) hk
    · exfalso; omega
  | succ n ih =>
    intro t q hi hk
    refine mp_iload_n dX12_weds_2 rfl ?_
    refine mp_bipush dX12_weds_3 rfl ?_
    refine mp_icmp_ge (tgt := 22) dX12_weds_5 rfl ⟨by omega, by omega⟩ ⟨by omega, by omega⟩ (fun h1 => ?_) (fun h1 => ?_)
    · exfalso; omega
    · refine mp_aload_n dX12_weds_8 rfl ?_
      refine mp_getfield dX12_weds_9 fsX12_25_11 (mp_lk hA 0 rfl) rfl ?_
      refine mp_iload_n dX12_weds_12 rfl ?_
      refine mp_bipush dX12_weds_13 rfl ?_
      refine mp_iast (σ' := A ++ (mp_ms s m img was num (mp_ud q t (-4)) ask kp kk kf so sz el im pl ra re rm rf sd th ++ B)) dX12_weds_15 (mp_lk hA 6 rfl) (by decide) ⟨by omega, by omega⟩ (by decide) (mp_sts (Ms' := mp_ms s m img was num (mp_ud q t (-4)) ask kp kk kf so sz el im pl ra re rm rf sd th) hA 6 (Nat.le_of_ble_eq_true rfl) rfl) ?_
      refine mp_iinc (z := t + 1) (L' := [some (Value.ref 44), some (mp_i (t + 1)), none, none, none]) dX12_weds_16 rfl (rfl) (by decide) rfl ?_
      refine mp_goto (tgt := 2) dX12_weds_19 rfl ?_
      exact ih (t + 1) (mp_ud q t (-4)) ⟨by omega, fun j h1 h2 => mp_ud_cp (f := fun _ => -4) hi.2 h1 h2⟩ hk
theorem lX12_weds_24 {s m img was num pro ask kp kk kf so sz el : Int → Int} {im pl ra re rm rf sd th : Int} {A B : mp_H}  (hA : A.length = 44) (hs : mp_sky s) {R9 : mp_An} : ∀ (n : Nat) (t : Int) (q : Int → Int), ((0 ≤ t ∧ t + (n : Nat) = 5) ∧ ∀ j, 0 ≤ j → j < t → q j = 0) → mp_At (mX12_weds, 5, 0, 0) (0, 0) 42 [some (Value.ref 44), none, none, none, none] [] (A ++ (mp_ms s m img was num (fun _ => -4) (fun _ => 0) kp kk kf so sz el im pl ra re rm rf sd th ++ B)) R9 → mp_At (mX12_weds, 5, 0, 0) (0, 0) 24 [some (Value.ref 44), some (mp_i t), none, none, none] [] (A ++ (mp_ms s m img was num (fun _ => -4) q kp kk kf so sz el im pl ra re rm rf sd th ++ B)) R9 := by
  intro n
  induction n with
  | zero =>
    intro t q hi hk
    refine mp_iload_n dX12_weds_24 rfl ?_
    refine mp_iconst dX12_weds_25 ?_
    refine mp_icmp_ge (tgt := 42) dX12_weds_26 rfl ⟨by omega, by omega⟩ ⟨by omega, by omega⟩ (fun h1 => ?_) (fun h1 => ?_)
    · refine mp_drop (L' := [some (Value.ref 44), none, none, none, none]) [true, false, false, false, false] rfl ?_
      exact mp_extAsk hA (fun j h1 h2 => hi.2 j h1 (by omega)) hk
    · exfalso; omega
  | succ n ih =>
    intro t q hi hk
    refine mp_iload_n dX12_weds_24 rfl ?_
    refine mp_iconst dX12_weds_25 ?_
    refine mp_icmp_ge (tgt := 42) dX12_weds_26 rfl ⟨by omega, by omega⟩ ⟨by omega, by omega⟩ (fun h1 => ?_) (fun h1 => ?_)
    · exfalso; omega
    · refine mp_aload_n dX12_weds_29 rfl ?_
      refine mp_getfield dX12_weds_30 fsX12_28_11 (mp_lk hA 0 rfl) rfl ?_
      refine mp_iload_n dX12_weds_33 rfl ?_
      refine mp_iconst dX12_weds_34 ?_
      refine mp_iast (σ' := A ++ (mp_ms s m img was num (fun _ => -4) (mp_ud q t 0) kp kk kf so sz el im pl ra re rm rf sd th ++ B)) dX12_weds_35 (mp_lk hA 7 rfl) (by decide) ⟨by omega, by omega⟩ (by decide) (mp_sts (Ms' := mp_ms s m img was num (fun _ => -4) (mp_ud q t 0) kp kk kf so sz el im pl ra re rm rf sd th) hA 7 (Nat.le_of_ble_eq_true rfl) rfl) ?_
      refine mp_iinc (z := t + 1) (L' := [some (Value.ref 44), some (mp_i (t + 1)), none, none, none]) dX12_weds_36 rfl (rfl) (by decide) rfl ?_
      refine mp_goto (tgt := 24) dX12_weds_39 rfl ?_
      exact ih (t + 1) (mp_ud q t (0)) ⟨by omega, fun j h1 h2 => mp_ud_cp (f := fun _ => 0) hi.2 h1 h2⟩ hk
theorem lX12_weds_57 {s m img was num pro ask kp kk kf so sz el : Int → Int} {im pl ra re rm rf sd th : Int} {A B : mp_H}  (hA : A.length = 44) (hs : mp_sky s) {R9 : mp_An} : ∀ (n : Nat) (l : Int) (w : Int) (k : Int) (q : Int → Int) (z : Int → Int), (mp_wst s q z w k ∧ 1275 < z 0 + z 1 + z 2 + z 3 + z 4 + (n : Nat)) → mp_At (mX12_weds, 5, 0, 0) (0, 0) 133 [some (Value.ref 44), some (mp_i l), none, none, none] [] (A ++ (mp_ms s m img was num ((sp_wIn s n w k q z).1) ((sp_wIn s n w k q z).2) kp kk kf so sz el im pl ra re rm rf sd th ++ B)) R9 → mp_At (mX12_weds, 5, 0, 0) (0, 0) 57 [some (Value.ref 44), some (mp_i l), some (mp_i w), some (mp_i k), none] [] (A ++ (mp_ms s m img was num q z kp kk kf so sz el im pl ra re rm rf sd th ++ B)) R9 := by
  intro n
  induction n with
  | zero =>
    intro l w k q z hi hk
    have h0 := hs.1
    have hk0 : k = -4 ∨ (0 ≤ k ∧ k < s 0) := by rcases hi.1.2.2 with h | h; exact Or.inl h; exact Or.inr h.1
    refine mp_iload_n dX12_weds_57 rfl ?_
    refine mp_if_lt (tgt := 133) dX12_weds_58 rfl ⟨by omega, by omega⟩ (fun h1 => ?_) (fun h1 => ?_)
    · refine mp_drop (L' := [some (Value.ref 44), some (mp_i l), none, none, none]) [true, true, false, false, false] rfl ?_
      rw [mp_wIn_end (by omega)] at hk
      exact hk
    · exfalso; have h9 := mp_aok_sum hi.1.2.1; omega
  | succ n ih =>
    intro l w k q z hi hk
    have h0 := hs.1
    have hk0 : k = -4 ∨ (0 ≤ k ∧ k < s 0) := by rcases hi.1.2.2 with h | h; exact Or.inl h; exact Or.inr h.1
    refine mp_iload_n dX12_weds_57 rfl ?_
    refine mp_if_lt (tgt := 133) dX12_weds_58 rfl ⟨by omega, by omega⟩ (fun h1 => ?_) (fun h1 => ?_)
    · refine mp_drop (L' := [some (Value.ref 44), some (mp_i l), none, none, none]) [true, true, false, false, false] rfl ?_
      rw [mp_wIn_end (by omega)] at hk
      exact hk
    · have hk9 : (0 ≤ k ∧ k < s 0) ∧ (0 ≤ w ∧ w ≤ 4) ∧ sp_b (z w) k ≠ 1 := by rcases hi.1.2.2 with h | h; omega; exact h
      have hqk := hi.1.1 k (by omega) (by omega)
      have hzw := hi.1.2.1 w (by omega) (by omega)
      have ha9 := mp_wst_ask hs hi.1 (by omega)
      have hz9 := ha9.1
      have h02 := hk9.1
      have h03 := hk9.2.1
      refine mp_aload_n dX12_weds_61 rfl ?_
      refine mp_getfield dX12_weds_62 fsX12_28_11 (mp_lk hA 0 rfl) rfl ?_
      refine mp_iload_n dX12_weds_65 rfl ?_
      refine mp_dup2 dX12_weds_66 rfl rfl ?_
      refine mp_iald dX12_weds_67 (mp_lk hA 7 rfl) ⟨by omega, by omega⟩ (by omega) ?_
      refine mp_iconst dX12_weds_68 ?_
      refine mp_iload_n dX12_weds_69 rfl ?_
      refine mp_ishl (z := mp_bit k) dX12_weds_70 (mp_z_bit ⟨by omega, by omega⟩) ?_
      refine mp_ior (z := mp_or (z w) (mp_bit k)) dX12_weds_71 (mp_z_or (by first | omega | exact mp_bit_nn _ | exact mp_or_nn _ _ | exact mp_and_nn _ _ | exact mp_shr_nn _ _) (by first | omega | exact mp_bit_nn _ | exact mp_or_nn _ _ | exact mp_and_nn _ _ | exact mp_shr_nn _ _)) ?_
      refine mp_iast (σ' := A ++ (mp_ms s m img was num q (mp_ud z w (mp_or (z w) (mp_bit k))) kp kk kf so sz el im pl ra re rm rf sd th ++ B)) dX12_weds_72 (mp_lk hA 7 rfl) (by decide) ⟨by omega, by omega⟩ (by decide) (mp_sts (Ms' := mp_ms s m img was num q (mp_ud z w (mp_or (z w) (mp_bit k))) kp kk kf so sz el im pl ra re rm rf sd th) hA 7 (Nat.le_of_ble_eq_true rfl) rfl) ?_
      refine mp_aload_n dX12_weds_73 rfl ?_
      refine mp_getfield dX12_weds_74 fsX12_25_11 (mp_lk hA 0 rfl) rfl ?_
      refine mp_iload_n dX12_weds_77 rfl ?_
      refine mp_iald dX12_weds_78 (mp_lk hA 6 rfl) ⟨by omega, by omega⟩ (by omega) ?_
      refine mp_if_lt (tgt := 97) dX12_weds_79 rfl ⟨by omega, by omega⟩ (fun h2 => ?_) (fun h2 => ?_)
      · refine mp_aload_n dX12_weds_97 rfl ?_
        refine mp_getfield dX12_weds_98 fsX12_25_11 (mp_lk hA 0 rfl) rfl ?_
        refine mp_iload_n dX12_weds_101 rfl ?_
        refine mp_iald dX12_weds_102 (mp_lk hA 6 rfl) ⟨by omega, by omega⟩ (by omega) ?_
        refine mp_istore (L' := [some (Value.ref 44), some (mp_i l), some (mp_i w), some (mp_i k), some (mp_i (q k))]) dX12_weds_103 (by decide) rfl ?_
        refine mp_aload_n dX12_weds_105 rfl ?_
        refine mp_getfield dX12_weds_106 fsX12_25_11 (mp_lk hA 0 rfl) rfl ?_
        refine mp_iload_n dX12_weds_109 rfl ?_
        refine mp_iload_n dX12_weds_110 rfl ?_
        refine mp_iast (σ' := A ++ (mp_ms s m img was num (mp_ud q k w) (mp_ud z w (mp_or (z w) (mp_bit k))) kp kk kf so sz el im pl ra re rm rf sd th ++ B)) dX12_weds_111 (mp_lk hA 6 rfl) (by decide) ⟨by omega, by omega⟩ (by decide) (mp_sts (Ms' := mp_ms s m img was num (mp_ud q k w) (mp_ud z w (mp_or (z w) (mp_bit k))) kp kk kf so sz el im pl ra re rm rf sd th) hA 6 (Nat.le_of_ble_eq_true rfl) rfl) ?_
        refine mp_iload dX12_weds_112 rfl ?_
        refine mp_istore_n (L' := [some (Value.ref 44), some (mp_i l), some (mp_i (q k)), some (mp_i k), some (mp_i (q k))]) dX12_weds_114 rfl (by decide) rfl ?_
        refine mp_iload_n dX12_weds_115 rfl ?_
        refine mp_if_ge (tgt := 124) dX12_weds_116 rfl ⟨by omega, by omega⟩ (fun h3 => ?_) (fun h3 => ?_)
        · refine mp_aload_n dX12_weds_124 rfl ?_
          refine mp_iload_n dX12_weds_125 rfl ?_
          refine mp_invV (z := (mX12_nextAsked, 4, 0, 0)) (K' := (0, 0)) (σ1 := A ++ (mp_ms s m img was num (mp_ud q k w) (mp_ud z w (mp_or (z w) (mp_bit k))) kp kk kf so sz el im pl ra re rm rf sd th ++ B)) (as := [mp_i (q k)]) (st := []) (st1 := [mp_i (sp_next1 s (mp_ud z w (mp_or (z w) (mp_bit k))) (q k))]) dX12_weds_126 svX12_185 (mp_lk hA 0 rfl) rfl rfl (zX12_nextAsked (l := (q k)) (s := s) (m := m) (img := img) (was := was) (num := num) (pro := (mp_ud q k w)) (ask := (mp_ud z w (mp_or (z w) (mp_bit k)))) (kp := kp) (kk := kk) (kf := kf) (so := so) (sz := sz) (el := el) (im := im) (pl := pl) (ra := ra) (re := re) (rm := rm) (rf := rf) (sd := sd) (th := th) (by first | with_reducible assumption | omega) (by first | with_reducible assumption | omega) (by first | with_reducible assumption | omega) (by first | with_reducible assumption | omega)) ⟨Nat.le_of_ble_eq_true rfl, Nat.le_of_ble_eq_true rfl, Nat.le_of_ble_eq_true rfl, Nat.le_of_ble_eq_true rfl, Nat.le_of_ble_eq_true rfl⟩ rfl rfl rfl rfl ?_
          refine mp_istore_n (L' := [some (Value.ref 44), some (mp_i l), some (mp_i (q k)), some (mp_i (sp_next1 s (mp_ud z w (mp_or (z w) (mp_bit k))) (q k))), some (mp_i (q k))]) dX12_weds_129 rfl (by decide) rfl ?_
          refine mp_goto (tgt := 57) dX12_weds_130 rfl ?_
          refine mp_drop (L' := [some (Value.ref 44), some (mp_i l), some (mp_i (q k)), some (mp_i (sp_next1 s (mp_ud z w (mp_or (z w) (mp_bit k))) (q k))), none]) [true, true, true, true, false] rfl ?_
          exact ih l (q k) (sp_next1 s (mp_ud z w (mp_or (z w) (mp_bit k))) (q k)) (mp_ud q k w) (mp_ud z w (mp_or (z w) (mp_bit k))) ⟨mp_wst_next hs (mp_pok_ud hi.1.1 (by omega)) hz9 (by omega), by omega⟩ (by rw [mp_wIn_sw (by omega) (by omega), if_neg (by omega)] at hk; exact hk)
        · refine mp_bipush dX12_weds_119 rfl ?_
          refine mp_goto (tgt := 129) dX12_weds_121 rfl ?_
          refine mp_istore_n (L' := [some (Value.ref 44), some (mp_i l), some (mp_i (q k)), some (mp_i (-4)), some (mp_i (q k))]) dX12_weds_129 rfl (by decide) rfl ?_
          refine mp_goto (tgt := 57) dX12_weds_130 rfl ?_
          refine mp_drop (L' := [some (Value.ref 44), some (mp_i l), some (mp_i (q k)), some (mp_i (-4)), none]) [true, true, true, true, false] rfl ?_
          exact ih l (q k) (-4) (mp_ud q k w) (mp_ud z w (mp_or (z w) (mp_bit k))) ⟨⟨(mp_pok_ud hi.1.1 (by omega)), hz9, Or.inl rfl⟩, by omega⟩ (by rw [mp_wIn_sw (by omega) (by omega), if_pos (by omega)] at hk; exact hk)
      · have hr9 : sp_rather s k w (q k) = 0 ∨ sp_rather s k w (q k) = 1 := by unfold sp_rather; omega
        refine mp_aload_n dX12_weds_82 rfl ?_
        refine mp_iload_n dX12_weds_83 rfl ?_
        refine mp_iload_n dX12_weds_84 rfl ?_
        refine mp_aload_n dX12_weds_85 rfl ?_
        refine mp_getfield dX12_weds_86 fsX12_25_11 (mp_lk hA 0 rfl) rfl ?_
        refine mp_iload_n dX12_weds_89 rfl ?_
        refine mp_iald dX12_weds_90 (mp_lk hA 6 rfl) ⟨by omega, by omega⟩ (by omega) ?_
        refine mp_invV (z := (mX12_isRather, 1, 0, 0)) (K' := (0, 0)) (σ1 := A ++ (mp_ms s m img was num q (mp_ud z w (mp_or (z w) (mp_bit k))) kp kk kf so sz el im pl ra re rm rf sd th ++ B)) (as := [mp_i k, mp_i w, mp_i (q k)]) (st := []) (st1 := [mp_i (sp_rather s k w (q k))]) dX12_weds_91 svX12_188 (mp_lk hA 0 rfl) rfl rfl (zX12_isRather (k := k) (a := w) (b := (q k)) (s := s) (m := m) (img := img) (was := was) (num := num) (pro := q) (ask := (mp_ud z w (mp_or (z w) (mp_bit k)))) (kp := kp) (kk := kk) (kf := kf) (so := so) (sz := sz) (el := el) (im := im) (pl := pl) (ra := ra) (re := re) (rm := rm) (rf := rf) (sd := sd) (th := th) (by first | with_reducible assumption | omega) (by first | with_reducible assumption | omega) (by first | with_reducible assumption | omega) (by first | with_reducible assumption | omega) (by first | with_reducible assumption | omega)) ⟨Nat.le_of_ble_eq_true rfl, Nat.le_of_ble_eq_true rfl, Nat.le_of_ble_eq_true rfl, Nat.le_of_ble_eq_true rfl, Nat.le_of_ble_eq_true rfl⟩ rfl rfl rfl rfl ?_
        refine mp_if_eq (tgt := 115) dX12_weds_94 rfl ⟨by omega, by omega⟩ (fun h4 => ?_) (fun h4 => ?_)
        · refine mp_iload_n dX12_weds_115 rfl ?_
          refine mp_if_ge (tgt := 124) dX12_weds_116 rfl ⟨by omega, by omega⟩ (fun h5 => ?_) (fun h5 => ?_)
          · refine mp_aload_n dX12_weds_124 rfl ?_
            refine mp_iload_n dX12_weds_125 rfl ?_
            refine mp_invV (z := (mX12_nextAsked, 4, 0, 0)) (K' := (0, 0)) (σ1 := A ++ (mp_ms s m img was num q (mp_ud z w (mp_or (z w) (mp_bit k))) kp kk kf so sz el im pl ra re rm rf sd th ++ B)) (as := [mp_i w]) (st := []) (st1 := [mp_i (sp_next1 s (mp_ud z w (mp_or (z w) (mp_bit k))) w)]) dX12_weds_126 svX12_185 (mp_lk hA 0 rfl) rfl rfl (zX12_nextAsked (l := w) (s := s) (m := m) (img := img) (was := was) (num := num) (pro := q) (ask := (mp_ud z w (mp_or (z w) (mp_bit k)))) (kp := kp) (kk := kk) (kf := kf) (so := so) (sz := sz) (el := el) (im := im) (pl := pl) (ra := ra) (re := re) (rm := rm) (rf := rf) (sd := sd) (th := th) (by first | with_reducible assumption | omega) (by first | with_reducible assumption | omega) (by first | with_reducible assumption | omega) (by first | with_reducible assumption | omega)) ⟨Nat.le_of_ble_eq_true rfl, Nat.le_of_ble_eq_true rfl, Nat.le_of_ble_eq_true rfl, Nat.le_of_ble_eq_true rfl, Nat.le_of_ble_eq_true rfl⟩ rfl rfl rfl rfl ?_
            refine mp_istore_n (L' := [some (Value.ref 44), some (mp_i l), some (mp_i w), some (mp_i (sp_next1 s (mp_ud z w (mp_or (z w) (mp_bit k))) w)), none]) dX12_weds_129 rfl (by decide) rfl ?_
            refine mp_goto (tgt := 57) dX12_weds_130 rfl ?_
            refine mp_drop (L' := [some (Value.ref 44), some (mp_i l), some (mp_i w), some (mp_i (sp_next1 s (mp_ud z w (mp_or (z w) (mp_bit k))) w)), none]) [true, true, true, true, false] rfl ?_
            exact ih l w (sp_next1 s (mp_ud z w (mp_or (z w) (mp_bit k))) w) q (mp_ud z w (mp_or (z w) (mp_bit k))) ⟨mp_wst_next hs hi.1.1 hz9 (by omega), by omega⟩ (by rw [mp_wIn_st (by omega) (by omega)] at hk; exact hk)
          · refine mp_bipush dX12_weds_119 rfl ?_
            refine mp_goto (tgt := 129) dX12_weds_121 rfl ?_
            refine mp_istore_n (L' := [some (Value.ref 44), some (mp_i l), some (mp_i w), some (mp_i (-4)), none]) dX12_weds_129 rfl (by decide) rfl ?_
            refine mp_goto (tgt := 57) dX12_weds_130 rfl ?_
            refine mp_drop (L' := [some (Value.ref 44), some (mp_i l), some (mp_i w), some (mp_i (-4)), none]) [true, true, true, true, false] rfl ?_
            exfalso; omega
        · refine mp_aload_n dX12_weds_97 rfl ?_
          refine mp_getfield dX12_weds_98 fsX12_25_11 (mp_lk hA 0 rfl) rfl ?_
          refine mp_iload_n dX12_weds_101 rfl ?_
          refine mp_iald dX12_weds_102 (mp_lk hA 6 rfl) ⟨by omega, by omega⟩ (by omega) ?_
          refine mp_istore (L' := [some (Value.ref 44), some (mp_i l), some (mp_i w), some (mp_i k), some (mp_i (q k))]) dX12_weds_103 (by decide) rfl ?_
          refine mp_aload_n dX12_weds_105 rfl ?_
          refine mp_getfield dX12_weds_106 fsX12_25_11 (mp_lk hA 0 rfl) rfl ?_
          refine mp_iload_n dX12_weds_109 rfl ?_
          refine mp_iload_n dX12_weds_110 rfl ?_
          refine mp_iast (σ' := A ++ (mp_ms s m img was num (mp_ud q k w) (mp_ud z w (mp_or (z w) (mp_bit k))) kp kk kf so sz el im pl ra re rm rf sd th ++ B)) dX12_weds_111 (mp_lk hA 6 rfl) (by decide) ⟨by omega, by omega⟩ (by decide) (mp_sts (Ms' := mp_ms s m img was num (mp_ud q k w) (mp_ud z w (mp_or (z w) (mp_bit k))) kp kk kf so sz el im pl ra re rm rf sd th) hA 6 (Nat.le_of_ble_eq_true rfl) rfl) ?_
          refine mp_iload dX12_weds_112 rfl ?_
          refine mp_istore_n (L' := [some (Value.ref 44), some (mp_i l), some (mp_i (q k)), some (mp_i k), some (mp_i (q k))]) dX12_weds_114 rfl (by decide) rfl ?_
          refine mp_iload_n dX12_weds_115 rfl ?_
          refine mp_if_ge (tgt := 124) dX12_weds_116 rfl ⟨by omega, by omega⟩ (fun h6 => ?_) (fun h6 => ?_)
          · refine mp_aload_n dX12_weds_124 rfl ?_
            refine mp_iload_n dX12_weds_125 rfl ?_
            refine mp_invV (z := (mX12_nextAsked, 4, 0, 0)) (K' := (0, 0)) (σ1 := A ++ (mp_ms s m img was num (mp_ud q k w) (mp_ud z w (mp_or (z w) (mp_bit k))) kp kk kf so sz el im pl ra re rm rf sd th ++ B)) (as := [mp_i (q k)]) (st := []) (st1 := [mp_i (sp_next1 s (mp_ud z w (mp_or (z w) (mp_bit k))) (q k))]) dX12_weds_126 svX12_185 (mp_lk hA 0 rfl) rfl rfl (zX12_nextAsked (l := (q k)) (s := s) (m := m) (img := img) (was := was) (num := num) (pro := (mp_ud q k w)) (ask := (mp_ud z w (mp_or (z w) (mp_bit k)))) (kp := kp) (kk := kk) (kf := kf) (so := so) (sz := sz) (el := el) (im := im) (pl := pl) (ra := ra) (re := re) (rm := rm) (rf := rf) (sd := sd) (th := th) (by first | with_reducible assumption | omega) (by first | with_reducible assumption | omega) (by first | with_reducible assumption | omega) (by first | with_reducible assumption | omega)) ⟨Nat.le_of_ble_eq_true rfl, Nat.le_of_ble_eq_true rfl, Nat.le_of_ble_eq_true rfl, Nat.le_of_ble_eq_true rfl, Nat.le_of_ble_eq_true rfl⟩ rfl rfl rfl rfl ?_
            refine mp_istore_n (L' := [some (Value.ref 44), some (mp_i l), some (mp_i (q k)), some (mp_i (sp_next1 s (mp_ud z w (mp_or (z w) (mp_bit k))) (q k))), some (mp_i (q k))]) dX12_weds_129 rfl (by decide) rfl ?_
            refine mp_goto (tgt := 57) dX12_weds_130 rfl ?_
            refine mp_drop (L' := [some (Value.ref 44), some (mp_i l), some (mp_i (q k)), some (mp_i (sp_next1 s (mp_ud z w (mp_or (z w) (mp_bit k))) (q k))), none]) [true, true, true, true, false] rfl ?_
            exact ih l (q k) (sp_next1 s (mp_ud z w (mp_or (z w) (mp_bit k))) (q k)) (mp_ud q k w) (mp_ud z w (mp_or (z w) (mp_bit k))) ⟨mp_wst_next hs (mp_pok_ud hi.1.1 (by omega)) hz9 (by omega), by omega⟩ (by rw [mp_wIn_sw (by omega) (by omega), if_neg (by omega)] at hk; exact hk)
          · refine mp_bipush dX12_weds_119 rfl ?_
            refine mp_goto (tgt := 129) dX12_weds_121 rfl ?_
            refine mp_istore_n (L' := [some (Value.ref 44), some (mp_i l), some (mp_i (q k)), some (mp_i (-4)), some (mp_i (q k))]) dX12_weds_129 rfl (by decide) rfl ?_
            refine mp_goto (tgt := 57) dX12_weds_130 rfl ?_
            refine mp_drop (L' := [some (Value.ref 44), some (mp_i l), some (mp_i (q k)), some (mp_i (-4)), none]) [true, true, true, true, false] rfl ?_
            exact ih l (q k) (-4) (mp_ud q k w) (mp_ud z w (mp_or (z w) (mp_bit k))) ⟨⟨(mp_pok_ud hi.1.1 (by omega)), hz9, Or.inl rfl⟩, by omega⟩ (by rw [mp_wIn_sw (by omega) (by omega), if_pos (by omega)] at hk; exact hk)
theorem lX12_weds_44 {s m img was num pro ask kp kk kf so sz el : Int → Int} {im pl ra re rm rf sd th : Int} {A B : mp_H}  (hA : A.length = 44) (hs : mp_sky s) {R9 : mp_An} : ∀ (n : Nat) (t : Int) (p : (Int → Int) × (Int → Int)), ((0 ≤ t ∧ t + (n : Nat) = 5) ∧ mp_pok p.1 ∧ mp_aok p.2) → mp_At (mX12_weds, 5, 0, 0) (0, 0) 139 [some (Value.ref 44), none, none, none, none] [] (A ++ (mp_ms s m img was num ((mp_fold (sp_wOut s) n t p).1) ((mp_fold (sp_wOut s) n t p).2) kp kk kf so sz el im pl ra re rm rf sd th ++ B)) R9 → mp_At (mX12_weds, 5, 0, 0) (0, 0) 44 [some (Value.ref 44), some (mp_i t), none, none, none] [] (A ++ (mp_ms s m img was num p.1 p.2 kp kk kf so sz el im pl ra re rm rf sd th ++ B)) R9 := by
  intro n
  induction n with
  | zero =>
    intro t p hi hk
    refine mp_iload_n dX12_weds_44 rfl ?_
    refine mp_iconst dX12_weds_45 ?_
    refine mp_icmp_ge (tgt := 139) dX12_weds_46 rfl ⟨by omega, by omega⟩ ⟨by omega, by omega⟩ (fun h1 => ?_) (fun h1 => ?_)
    · refine mp_drop (L' := [some (Value.ref 44), none, none, none, none]) [true, false, false, false, false] rfl ?_
      exact hk
    · exfalso; omega
  | succ n ih =>
    intro t p hi hk
    refine mp_iload_n dX12_weds_44 rfl ?_
    refine mp_iconst dX12_weds_45 ?_
    refine mp_icmp_ge (tgt := 139) dX12_weds_46 rfl ⟨by omega, by omega⟩ ⟨by omega, by omega⟩ (fun h1 => ?_) (fun h1 => ?_)
    · exfalso; omega
    · refine mp_iload_n dX12_weds_49 rfl ?_
      refine mp_istore_n (L' := [some (Value.ref 44), some (mp_i t), some (mp_i t), none, none]) dX12_weds_50 rfl (by decide) rfl ?_
      have hz9 := hi.2.2
      refine mp_aload_n dX12_weds_51 rfl ?_
      refine mp_iload_n dX12_weds_52 rfl ?_
      refine mp_invV (z := (mX12_nextAsked, 4, 0, 0)) (K' := (0, 0)) (σ1 := A ++ (mp_ms s m img was num p.1 p.2 kp kk kf so sz el im pl ra re rm rf sd th ++ B)) (as := [mp_i t]) (st := []) (st1 := [mp_i (sp_next1 s p.2 t)]) dX12_weds_53 svX12_185 (mp_lk hA 0 rfl) rfl rfl (zX12_nextAsked (l := t) (s := s) (m := m) (img := img) (was := was) (num := num) (pro := p.1) (ask := p.2) (kp := kp) (kk := kk) (kf := kf) (so := so) (sz := sz) (el := el) (im := im) (pl := pl) (ra := ra) (re := re) (rm := rm) (rf := rf) (sd := sd) (th := th) (by first | with_reducible assumption | omega) (by first | with_reducible assumption | omega) (by first | with_reducible assumption | omega) (by first | with_reducible assumption | omega)) ⟨Nat.le_of_ble_eq_true rfl, Nat.le_of_ble_eq_true rfl, Nat.le_of_ble_eq_true rfl, Nat.le_of_ble_eq_true rfl, Nat.le_of_ble_eq_true rfl⟩ rfl rfl rfl rfl ?_
      refine mp_istore_n (L' := [some (Value.ref 44), some (mp_i t), some (mp_i t), some (mp_i (sp_next1 s p.2 t)), none]) dX12_weds_56 rfl (by decide) rfl ?_
      refine lX12_weds_57 (pro := pro) (ask := ask) hA hs 1276 t t (sp_next1 s p.2 t) p.1 p.2 ⟨mp_wst_next hs hi.2.1 hi.2.2 (by omega), by have := mp_aok_sum hi.2.2; omega⟩ ?_
      refine mp_iinc (z := t + 1) (L' := [some (Value.ref 44), some (mp_i (t + 1)), none, none, none]) dX12_weds_133 rfl (rfl) (by decide) rfl ?_
      refine mp_goto (tgt := 44) dX12_weds_136 rfl ?_
      exact ih (t + 1) (sp_wOut s t p) ⟨by omega, mp_wIn_ok hs 1276 _ _ _ _ (mp_wst_next hs hi.2.1 hi.2.2 (by omega))⟩ hk
theorem zX12_weds {s m img was num pro ask kp kk kf so sz el : Int → Int} {im pl ra re rm rf sd th : Int} {A B : mp_H}  (hA : A.length = 44) (hs : mp_sky s) : mp_Call (mX12_weds, 5, 0, 0) [Value.ref 44] (A ++ (mp_ms s m img was num pro ask kp kk kf so sz el im pl ra re rm rf sd th ++ B)) (none, A ++ (mp_ms s m img was num ((sp_weds s).1) ((sp_weds s).2) kp kk kf so sz el im pl ra re rm rf sd th ++ B)) := by
  refine mp_Call.of (L := [some (Value.ref 44), none, none, none, none]) pnX12 (Nat.le_of_ble_eq_true rfl) rfl ?_
  refine mp_iconst dX12_weds_0 ?_
  refine mp_istore_n (L' := [some (Value.ref 44), some (mp_i 0), none, none, none]) dX12_weds_1 rfl (by decide) rfl ?_
  refine lX12_weds_2 (pro := pro) (ask := ask) hA hs 8 0 pro ⟨by decide, fun j h1 h2 => by omega⟩ ?_
  refine mp_iconst dX12_weds_22 ?_
  refine mp_istore_n (L' := [some (Value.ref 44), some (mp_i 0), none, none, none]) dX12_weds_23 rfl (by decide) rfl ?_
  refine lX12_weds_24 (pro := pro) (ask := ask) hA hs 5 0 ask ⟨by decide, fun j h1 h2 => by omega⟩ ?_
  refine mp_iconst dX12_weds_42 ?_
  refine mp_istore_n (L' := [some (Value.ref 44), some (mp_i 0), none, none, none]) dX12_weds_43 rfl (by decide) rfl ?_
  refine lX12_weds_44 (pro := pro) (ask := ask) hA hs 5 0 ((fun _ => -4), (fun _ => 0)) ⟨by decide, fun k _ _ => Or.inl rfl, fun l _ _ => (by decide : (0 : Int) ≤ 0 ∧ (0 : Int) < 256)⟩ ?_
  exact mp_vreturn (st := []) dX12_weds_139 rfl ⟨by decide, by decide⟩ (rfl)
theorem lX12_wed_15 {s m img was num pro ask kp kk kf so sz el : Int → Int} {im pl ra re rm rf sd th : Int} {A B : mp_H}  {l : Int} (hA : A.length = 44) (hs : mp_sky s) (h_l : mp_w l) {R9 : mp_An} : ∀ (n : Nat) (t : Int), (0 ≤ t ∧ t + (n : Nat) = s 0) → R9 = (some (mp_i (sp_wedN (sp_weds s).1 l n t)), A ++ (mp_ms s m img was num ((sp_weds s).1) ((sp_weds s).2) kp kk kf so sz el im pl ra re rm rf sd th ++ B)) → mp_At (mX12_wed, 6, 0, 0) (0, 0) 15 [some (Value.ref 44), some (mp_i l), some (mp_i t)] [] (A ++ (mp_ms s m img was num ((sp_weds s).1) ((sp_weds s).2) kp kk kf so sz el im pl ra re rm rf sd th ++ B)) R9 := by
  intro n
  induction n with
  | zero =>
    intro t hi hR
    have h0 := hs.1
    have hpk := mp_weds_ok hs
    refine mp_iload_n dX12_wed_15 rfl ?_
    refine mp_aload_n dX12_wed_16 rfl ?_
    refine mp_getfield dX12_wed_17 fsX12_9_11 (mp_lk hA 0 rfl) rfl ?_
    refine mp_iconst dX12_wed_20 ?_
    refine mp_iald dX12_wed_21 (mp_lk hA 1 rfl) ⟨by omega, by omega⟩ (by omega) ?_
    refine mp_icmp_ge (tgt := 43) dX12_wed_22 rfl ⟨by omega, by omega⟩ ⟨by omega, by omega⟩ (fun h1 => ?_) (fun h1 => ?_)
    · refine mp_bipush dX12_wed_43 rfl ?_
      exact mp_ireturn (st := []) dX12_wed_45 rfl ⟨by decide, by decide⟩ (hR.trans (rfl))
    · exfalso; omega
  | succ n ih =>
    intro t hi hR
    have h0 := hs.1
    have hpk := mp_weds_ok hs
    have hp9 := hpk.1 t (by omega) (by omega)
    refine mp_iload_n dX12_wed_15 rfl ?_
    refine mp_aload_n dX12_wed_16 rfl ?_
    refine mp_getfield dX12_wed_17 fsX12_9_11 (mp_lk hA 0 rfl) rfl ?_
    refine mp_iconst dX12_wed_20 ?_
    refine mp_iald dX12_wed_21 (mp_lk hA 1 rfl) ⟨by omega, by omega⟩ (by omega) ?_
    refine mp_icmp_ge (tgt := 43) dX12_wed_22 rfl ⟨by omega, by omega⟩ ⟨by omega, by omega⟩ (fun h1 => ?_) (fun h1 => ?_)
    · exfalso; omega
    · refine mp_aload_n dX12_wed_25 rfl ?_
      refine mp_getfield dX12_wed_26 fsX12_25_11 (mp_lk hA 0 rfl) rfl ?_
      refine mp_iload_n dX12_wed_29 rfl ?_
      refine mp_iald dX12_wed_30 (mp_lk hA 6 rfl) ⟨by omega, by omega⟩ (by omega) ?_
      refine mp_iload_n dX12_wed_31 rfl ?_
      refine mp_icmp_ne (tgt := 37) dX12_wed_32 rfl ⟨by omega, by omega⟩ ⟨by omega, by omega⟩ (fun h2 => ?_) (fun h2 => ?_)
      · refine mp_iinc (z := t + 1) (L' := [some (Value.ref 44), some (mp_i l), some (mp_i (t + 1))]) dX12_wed_37 rfl (rfl) (by decide) rfl ?_
        refine mp_goto (tgt := 15) dX12_wed_40 rfl ?_
        exact ih (t + 1) (by omega) (hR.trans (by rw [show sp_wedN (sp_weds s).1 l (n + 1) t = sp_wedN (sp_weds s).1 l n (t + 1) from if_neg (by omega)]))
      · refine mp_iload_n dX12_wed_35 rfl ?_
        exact mp_ireturn (st := []) dX12_wed_36 rfl ⟨by decide, by decide⟩ (hR.trans (by rw [show sp_wedN (sp_weds s).1 l (n + 1) t = t from if_pos (by omega)]))
theorem zX12_wed {s m img was num pro ask kp kk kf so sz el : Int → Int} {im pl ra re rm rf sd th : Int} {A B : mp_H}  {l : Int} (hA : A.length = 44) (hs : mp_sky s) (h_l : mp_w l) : mp_Call (mX12_wed, 6, 0, 0) [Value.ref 44, mp_i l] (A ++ (mp_ms s m img was num pro ask kp kk kf so sz el im pl ra re rm rf sd th ++ B)) (some (mp_i (sp_wed s l)), A ++ (mp_ms s m img was num (if 0 ≤ l ∧ l ≤ 4 then (sp_weds s).1 else pro) (if 0 ≤ l ∧ l ≤ 4 then (sp_weds s).2 else ask) kp kk kf so sz el im pl ra re rm rf sd th ++ B)) := by
  refine mp_Call.of (L := [some (Value.ref 44), some (mp_i l), none]) pnX12 (Nat.le_of_ble_eq_true rfl) rfl ?_
  have h0 := hs.1
  refine mp_iload_n dX12_wed_0 rfl ?_
  refine mp_invS (z := (mX12_isLooker, 1, 0, 0)) (K' := (0, 0)) (σ1 := A ++ (mp_ms s m img was num pro ask kp kk kf so sz el im pl ra re rm rf sd th ++ B)) (as := [mp_i l]) (st := []) (st1 := [mp_i (if 0 ≤ l ∧ l ≤ 4 then 1 else 0)]) dX12_wed_1 ssX12_128 (zX12_isLooker (l := l)  (by first | with_reducible assumption | omega)) ⟨Nat.le_of_ble_eq_true rfl, Nat.le_of_ble_eq_true rfl, Nat.le_of_ble_eq_true rfl, Nat.le_of_ble_eq_true rfl, Nat.le_of_ble_eq_true rfl⟩ rfl rfl rfl rfl ?_
  refine mp_ifb_ne (tgt := 9) dX12_wed_4 rfl (fun h1 => ?_) (fun h1 => ?_)
  · refine mp_aload_n dX12_wed_9 rfl ?_
    refine mp_invV (z := (mX12_weds, 5, 0, 0)) (K' := (0, 0)) (σ1 := A ++ (mp_ms s m img was num ((sp_weds s).1) ((sp_weds s).2) kp kk kf so sz el im pl ra re rm rf sd th ++ B)) (as := []) (st := []) (st1 := []) dX12_wed_10 svX12_191 (mp_lk hA 0 rfl) rfl rfl (zX12_weds  (s := s) (m := m) (img := img) (was := was) (num := num) (pro := pro) (ask := ask) (kp := kp) (kk := kk) (kf := kf) (so := so) (sz := sz) (el := el) (im := im) (pl := pl) (ra := ra) (re := re) (rm := rm) (rf := rf) (sd := sd) (th := th) (by first | with_reducible assumption | omega) (by first | with_reducible assumption | omega)) ⟨Nat.le_of_ble_eq_true rfl, Nat.le_of_ble_eq_true rfl, Nat.le_of_ble_eq_true rfl, Nat.le_of_ble_eq_true rfl, Nat.le_of_ble_eq_true rfl⟩ rfl rfl rfl rfl ?_
    refine mp_iconst dX12_wed_13 ?_
    refine mp_istore_n (L' := [some (Value.ref 44), some (mp_i l), some (mp_i 0)]) dX12_wed_14 rfl (by decide) rfl ?_
    refine lX12_wed_15 (pro := pro) (ask := ask) (l := l) hA hs h_l (s 0).toNat 0 (by omega) (by rw [if_pos (by omega), if_pos (by omega), show sp_wed s l = sp_wedN (sp_weds s).1 l (s 0).toNat 0 from if_neg (by omega)])
  · refine mp_iconst dX12_wed_7 ?_
    exact mp_ireturn (st := []) dX12_wed_8 rfl ⟨by decide, by decide⟩ ((by rw [if_neg (by omega), if_neg (by omega), show sp_wed s l = -1 from if_pos (by omega)]))
