/-! ===== a statement told to a sky ===== -/
theorem sp_looks_bd {s : Int → Int} (hs : mp_sky s) {a b c : Int} : (sp_looks s a b c).1 = -1 ∨ (0 ≤ (sp_looks s a b c).1 ∧ (sp_looks s a b c).1 ≤ 15) := by
  unfold sp_looks
  by_cases h : ¬ (0 ≤ a ∧ a ≤ 4) ∨ ¬ (0 ≤ b ∧ b ≤ 15) ∨ ¬ (0 ≤ c ∧ c ≤ 9)
  · rw [if_pos h]; exact Or.inl rfl
  · rw [if_neg h]
    have := hs.2.2.1 a (by omega) (by omega)
    exact Or.inr this.1
theorem sp_free_bd {s : Int → Int} (hs : mp_sky s) {a : Int} : (sp_free s a).1 = -1 ∨ (0 ≤ (sp_free s a).1 ∧ (sp_free s a).1 ≤ 9) := by
  have h0 := hs.1
  unfold sp_free
  by_cases h : ¬ (0 ≤ a ∧ a ≤ 4)
  · rw [if_pos h]; exact Or.inl rfl
  · rw [if_neg h]
    have := hs.2.2.1 a (by omega) (by omega)
    exact Or.inr (by show 0 ≤ s (49 + 3 * a + 2) ∧ s (49 + 3 * a + 2) ≤ 9; omega)
theorem sp_run_bd {s : Int → Int} (hs : mp_sky s) {a : Int} : (sp_run s a).1 = -1 ∨ (0 ≤ (sp_run s a).1 ∧ (sp_run s a).1 ≤ 8) := by
  unfold sp_run
  by_cases h : ¬ (0 ≤ a ∧ a ≤ 30)
  · rw [if_pos h]; exact Or.inl rfl
  · rw [if_neg h]; exact Or.inr (mp_runs_sky hs a).2.2
abbrev sc_val (a0 a2 a3 a4 a5 : Int) : Prop := (0 ≤ a0 ∧ a0 ≤ 7) ∧ (0 ≤ a2 ∧ a2 ≤ 15) ∧ (0 ≤ a3 ∧ a3 ≤ 4) ∧ (0 ≤ a4 ∧ a4 ≤ 30) ∧ ((0 ≤ a5 ∧ a5 ≤ 4) ∨ a5 = 9)

theorem zX7_isMeteorTold {s si sp : Int → Int} {f fi fp : Nat → Option Nat} {im : Int} {hd : Int → Int} {kn : Nat → Option Nat} {wd ak ke cv vo so sz el : Int → Int} {A B : mp_H} {d : Int} {a0 a1 a2 a3 a4 a5 : Int} {p : Int} (hA : A.length = 1) (hdd : 0 ≤ d ∧ d ≤ 7) (hzd : 0 ≤ sz d ∧ sz d ≤ 100) (hel : ∀ x, mp_w (el x)) (h_p : 0 ≤ p ∧ p ≤ 200) (hsx : mp_sky sp) (e0 : sc_hb (sp_elm el d) (sz d) (p + 1) - 48 = a0) (e1 : sc_hb (sp_elm el d) (sz d) (p + 2) - 48 = a1) (e2 : 10 * (sc_hb (sp_elm el d) (sz d) (p + 3) - 48) + (sc_hb (sp_elm el d) (sz d) (p + 3 + 1) - 48) = a2) (e3 : sc_hb (sp_elm el d) (sz d) (p + 5) - 48 = a3) (e4 : 10 * (sc_hb (sp_elm el d) (sz d) (p + 6) - 48) + (sc_hb (sp_elm el d) (sz d) (p + 6 + 1) - 48) = a4) (e5 : sc_hb (sp_elm el d) (sz d) (p + 8) - 48 = a5) (hb : ((0 ≤ a0 ∧ a0 ≤ 9) ∧ (0 ≤ a1 ∧ a1 ≤ 9) ∧ (0 ≤ a2 ∧ a2 ≤ 99)) ∧ (0 ≤ a3 ∧ a3 ≤ 9) ∧ (0 ≤ a4 ∧ a4 ≤ 99) ∧ (0 ≤ a5 ∧ a5 ≤ 9)) : mp_Call (mX7_isMeteorTold, 5, 1, 7) [Value.ref (28 + 2 * Int.toNat d), mp_i p, Value.ref 14] (A ++ (mp_cs s si sp f fi fp im hd kn wd ak ke cv vo so sz el ++ B)) (some (mp_i (if (sc_val a0 a2 a3 a4 a5 ∧ sp 0 ≠ 8) then 1 else 0)), A ++ (mp_cs s si (if (sc_val a0 a2 a3 a4 a5 ∧ sp 0 ≠ 8) then sp_adds sp a0 a1 a2 a3 a4 a5 else sp) f fi (if (sc_val a0 a2 a3 a4 a5 ∧ sp 0 ≠ 8) then va_up fp (Int.toNat (sp 0)) (some (44 + List.length B)) else fp) im hd kn wd ak ke cv vo so sz el ++ (if sc_val a0 a2 a3 a4 a5 then B ++ [mp_O (Int.toNat a0) [mp_i a0, mp_i a1, mp_i a2, mp_i a3, mp_i a4, mp_i (sp_lasts a0 a1), mp_i (sp_bright a0 a1)]] else B))) := by
  refine mp_Call.of (L := [some (Value.ref (28 + 2 * Int.toNat d)), some (mp_i p), some (Value.ref 14), none, none, none, none, none, none]) pnX7 (Nat.le_of_ble_eq_true rfl) rfl ?_
  have hz0 := hsx.1
  refine mp_aload_n dX7_isMeteorTold_0 rfl ?_
  refine mp_iload_n dX7_isMeteorTold_1 rfl ?_
  refine mp_iconst dX7_isMeteorTold_2 ?_
  refine mp_iadd (z := p + 1) dX7_isMeteorTold_3 (by first | rfl | omega) ?_
  refine mp_invS (z := (mX7_digit, 2, 0, 0)) (K' := (0, 0)) (σ1 := A ++ (mp_cs s si sp f fi fp im hd kn wd ak ke cv vo so sz el ++ B)) (as := [Value.ref (28 + 2 * Int.toNat d), mp_i (p + 1)]) (st := []) (st1 := [mp_i (sc_hb (sp_elm el d) (sz d) (p + 1) - 48)]) dX7_isMeteorTold_4 ssX7_32 (zX7_digit (r := (28 + 2 * Int.toNat d)) (p := (p + 1)) (q := (28 + 2 * Int.toNat d + 1)) (o := (so d)) (z := (sz d)) (e := (sp_elm el d)) (mp_csR0 hA (d := d) ⟨by omega, by omega⟩) (mp_csR1 hA (d := d) ⟨by omega, by omega⟩) (by first | with_reducible assumption | omega) (fun x => mp_elm_w hel x) (by first | with_reducible assumption | omega)) ⟨Nat.le_of_ble_eq_true rfl, Nat.le_of_ble_eq_true rfl, Nat.le_of_ble_eq_true rfl, Nat.le_of_ble_eq_true rfl, Nat.le_of_ble_eq_true rfl⟩ rfl rfl rfl rfl ?_
  refine mp_istore_n (L' := [some (Value.ref (28 + 2 * Int.toNat d)), some (mp_i p), some (Value.ref 14), some (mp_i (sc_hb (sp_elm el d) (sz d) (p + 1) - 48)), none, none, none, none, none]) dX7_isMeteorTold_7 rfl (by decide) rfl ?_
  refine mp_loc (j := 3) (x := sc_hb (sp_elm el d) (sz d) (p + 1) - 48) (y := a0) e0 rfl (L' := [some (Value.ref (28 + 2 * Int.toNat d)), some (mp_i p), some (Value.ref 14), some (mp_i a0), none, none, none, none, none]) rfl ?_
  refine mp_aload_n dX7_isMeteorTold_8 rfl ?_
  refine mp_iload_n dX7_isMeteorTold_9 rfl ?_
  refine mp_iconst dX7_isMeteorTold_10 ?_
  refine mp_iadd (z := p + 3) dX7_isMeteorTold_11 (by first | rfl | omega) ?_
  refine mp_invS (z := (mX7_twoDigits, 3, 0, 0)) (K' := (0, 0)) (σ1 := A ++ (mp_cs s si sp f fi fp im hd kn wd ak ke cv vo so sz el ++ B)) (as := [Value.ref (28 + 2 * Int.toNat d), mp_i (p + 3)]) (st := []) (st1 := [mp_i (10 * (sc_hb (sp_elm el d) (sz d) (p + 3) - 48) + (sc_hb (sp_elm el d) (sz d) ((p + 3) + 1) - 48))]) dX7_isMeteorTold_12 ssX7_28 (zX7_twoDigits (r := (28 + 2 * Int.toNat d)) (p := (p + 3)) (q := (28 + 2 * Int.toNat d + 1)) (o := (so d)) (z := (sz d)) (e := (sp_elm el d)) (mp_csR0 hA (d := d) ⟨by omega, by omega⟩) (mp_csR1 hA (d := d) ⟨by omega, by omega⟩) (by first | with_reducible assumption | omega) (fun x => mp_elm_w hel x) (by first | with_reducible assumption | omega)) ⟨Nat.le_of_ble_eq_true rfl, Nat.le_of_ble_eq_true rfl, Nat.le_of_ble_eq_true rfl, Nat.le_of_ble_eq_true rfl, Nat.le_of_ble_eq_true rfl⟩ rfl rfl rfl rfl ?_
  refine mp_istore (L' := [some (Value.ref (28 + 2 * Int.toNat d)), some (mp_i p), some (Value.ref 14), some (mp_i a0), some (mp_i (10 * (sc_hb (sp_elm el d) (sz d) (p + 3) - 48) + (sc_hb (sp_elm el d) (sz d) ((p + 3) + 1) - 48))), none, none, none, none]) dX7_isMeteorTold_15 (by decide) rfl ?_
  refine mp_loc (j := 4) (x := 10 * (sc_hb (sp_elm el d) (sz d) (p + 3) - 48) + (sc_hb (sp_elm el d) (sz d) ((p + 3) + 1) - 48)) (y := a2) e2 rfl (L' := [some (Value.ref (28 + 2 * Int.toNat d)), some (mp_i p), some (Value.ref 14), some (mp_i a0), some (mp_i a2), none, none, none, none]) rfl ?_
  refine mp_aload_n dX7_isMeteorTold_17 rfl ?_
  refine mp_iload_n dX7_isMeteorTold_18 rfl ?_
  refine mp_iconst dX7_isMeteorTold_19 ?_
  refine mp_iadd (z := p + 5) dX7_isMeteorTold_20 (by first | rfl | omega) ?_
  refine mp_invS (z := (mX7_digit, 2, 0, 0)) (K' := (0, 0)) (σ1 := A ++ (mp_cs s si sp f fi fp im hd kn wd ak ke cv vo so sz el ++ B)) (as := [Value.ref (28 + 2 * Int.toNat d), mp_i (p + 5)]) (st := []) (st1 := [mp_i (sc_hb (sp_elm el d) (sz d) (p + 5) - 48)]) dX7_isMeteorTold_21 ssX7_32 (zX7_digit (r := (28 + 2 * Int.toNat d)) (p := (p + 5)) (q := (28 + 2 * Int.toNat d + 1)) (o := (so d)) (z := (sz d)) (e := (sp_elm el d)) (mp_csR0 hA (d := d) ⟨by omega, by omega⟩) (mp_csR1 hA (d := d) ⟨by omega, by omega⟩) (by first | with_reducible assumption | omega) (fun x => mp_elm_w hel x) (by first | with_reducible assumption | omega)) ⟨Nat.le_of_ble_eq_true rfl, Nat.le_of_ble_eq_true rfl, Nat.le_of_ble_eq_true rfl, Nat.le_of_ble_eq_true rfl, Nat.le_of_ble_eq_true rfl⟩ rfl rfl rfl rfl ?_
  refine mp_istore (L' := [some (Value.ref (28 + 2 * Int.toNat d)), some (mp_i p), some (Value.ref 14), some (mp_i a0), some (mp_i a2), some (mp_i (sc_hb (sp_elm el d) (sz d) (p + 5) - 48)), none, none, none]) dX7_isMeteorTold_24 (by decide) rfl ?_
  refine mp_loc (j := 5) (x := sc_hb (sp_elm el d) (sz d) (p + 5) - 48) (y := a3) e3 rfl (L' := [some (Value.ref (28 + 2 * Int.toNat d)), some (mp_i p), some (Value.ref 14), some (mp_i a0), some (mp_i a2), some (mp_i a3), none, none, none]) rfl ?_
  refine mp_aload_n dX7_isMeteorTold_26 rfl ?_
  refine mp_iload_n dX7_isMeteorTold_27 rfl ?_
  refine mp_bipush dX7_isMeteorTold_28 rfl ?_
  refine mp_iadd (z := p + 6) dX7_isMeteorTold_30 (by first | rfl | omega) ?_
  refine mp_invS (z := (mX7_twoDigits, 3, 0, 0)) (K' := (0, 0)) (σ1 := A ++ (mp_cs s si sp f fi fp im hd kn wd ak ke cv vo so sz el ++ B)) (as := [Value.ref (28 + 2 * Int.toNat d), mp_i (p + 6)]) (st := []) (st1 := [mp_i (10 * (sc_hb (sp_elm el d) (sz d) (p + 6) - 48) + (sc_hb (sp_elm el d) (sz d) ((p + 6) + 1) - 48))]) dX7_isMeteorTold_31 ssX7_28 (zX7_twoDigits (r := (28 + 2 * Int.toNat d)) (p := (p + 6)) (q := (28 + 2 * Int.toNat d + 1)) (o := (so d)) (z := (sz d)) (e := (sp_elm el d)) (mp_csR0 hA (d := d) ⟨by omega, by omega⟩) (mp_csR1 hA (d := d) ⟨by omega, by omega⟩) (by first | with_reducible assumption | omega) (fun x => mp_elm_w hel x) (by first | with_reducible assumption | omega)) ⟨Nat.le_of_ble_eq_true rfl, Nat.le_of_ble_eq_true rfl, Nat.le_of_ble_eq_true rfl, Nat.le_of_ble_eq_true rfl, Nat.le_of_ble_eq_true rfl⟩ rfl rfl rfl rfl ?_
  refine mp_istore (L' := [some (Value.ref (28 + 2 * Int.toNat d)), some (mp_i p), some (Value.ref 14), some (mp_i a0), some (mp_i a2), some (mp_i a3), some (mp_i (10 * (sc_hb (sp_elm el d) (sz d) (p + 6) - 48) + (sc_hb (sp_elm el d) (sz d) ((p + 6) + 1) - 48))), none, none]) dX7_isMeteorTold_34 (by decide) rfl ?_
  refine mp_loc (j := 6) (x := 10 * (sc_hb (sp_elm el d) (sz d) (p + 6) - 48) + (sc_hb (sp_elm el d) (sz d) ((p + 6) + 1) - 48)) (y := a4) e4 rfl (L' := [some (Value.ref (28 + 2 * Int.toNat d)), some (mp_i p), some (Value.ref 14), some (mp_i a0), some (mp_i a2), some (mp_i a3), some (mp_i a4), none, none]) rfl ?_
  refine mp_aload_n dX7_isMeteorTold_36 rfl ?_
  refine mp_iload_n dX7_isMeteorTold_37 rfl ?_
  refine mp_bipush dX7_isMeteorTold_38 rfl ?_
  refine mp_iadd (z := p + 8) dX7_isMeteorTold_40 (by first | rfl | omega) ?_
  refine mp_invS (z := (mX7_digit, 2, 0, 0)) (K' := (0, 0)) (σ1 := A ++ (mp_cs s si sp f fi fp im hd kn wd ak ke cv vo so sz el ++ B)) (as := [Value.ref (28 + 2 * Int.toNat d), mp_i (p + 8)]) (st := []) (st1 := [mp_i (sc_hb (sp_elm el d) (sz d) (p + 8) - 48)]) dX7_isMeteorTold_41 ssX7_32 (zX7_digit (r := (28 + 2 * Int.toNat d)) (p := (p + 8)) (q := (28 + 2 * Int.toNat d + 1)) (o := (so d)) (z := (sz d)) (e := (sp_elm el d)) (mp_csR0 hA (d := d) ⟨by omega, by omega⟩) (mp_csR1 hA (d := d) ⟨by omega, by omega⟩) (by first | with_reducible assumption | omega) (fun x => mp_elm_w hel x) (by first | with_reducible assumption | omega)) ⟨Nat.le_of_ble_eq_true rfl, Nat.le_of_ble_eq_true rfl, Nat.le_of_ble_eq_true rfl, Nat.le_of_ble_eq_true rfl, Nat.le_of_ble_eq_true rfl⟩ rfl rfl rfl rfl ?_
  refine mp_istore (L' := [some (Value.ref (28 + 2 * Int.toNat d)), some (mp_i p), some (Value.ref 14), some (mp_i a0), some (mp_i a2), some (mp_i a3), some (mp_i a4), some (mp_i (sc_hb (sp_elm el d) (sz d) (p + 8) - 48)), none]) dX7_isMeteorTold_44 (by decide) rfl ?_
  refine mp_loc (j := 7) (x := sc_hb (sp_elm el d) (sz d) (p + 8) - 48) (y := a5) e5 rfl (L' := [some (Value.ref (28 + 2 * Int.toNat d)), some (mp_i p), some (Value.ref 14), some (mp_i a0), some (mp_i a2), some (mp_i a3), some (mp_i a4), some (mp_i a5), none]) rfl ?_
  refine mp_iload_n dX7_isMeteorTold_46 rfl ?_
  refine mp_bipush dX7_isMeteorTold_47 rfl ?_
  refine mp_invS (z := (mX11_isBelow, 0, 0, 0)) (K' := (0, 0)) (σ1 := A ++ (mp_cs s si sp f fi fp im hd kn wd ak ke cv vo so sz el ++ B)) (as := [mp_i a0, mp_i 8]) (st := []) (st1 := [mp_i (if 0 ≤ a0 ∧ a0 < 8 then 1 else 0)]) dX7_isMeteorTold_49 ssX7_47 (zX11_isBelow (v := a0) (n := 8) (by first | with_reducible assumption | omega) (by first | with_reducible assumption | omega)) ⟨Nat.le_of_ble_eq_true rfl, Nat.le_of_ble_eq_true rfl, Nat.le_of_ble_eq_true rfl, Nat.le_of_ble_eq_true rfl, Nat.le_of_ble_eq_true rfl⟩ rfl rfl rfl rfl ?_
  refine mp_ifb_eq (tgt := 92) dX7_isMeteorTold_52 rfl (fun h1 => ?_) (fun h1 => ?_)
  · refine mp_iconst dX7_isMeteorTold_92 ?_
    exact mp_zreturn (st := []) dX7_isMeteorTold_93 rfl rfl ⟨by decide, by decide⟩ ((by rw [if_neg (by omega), if_neg (by omega), if_neg (by omega), if_neg (by omega)]))
  · refine mp_iload dX7_isMeteorTold_55 rfl ?_
    refine mp_bipush dX7_isMeteorTold_57 rfl ?_
    refine mp_invS (z := (mX11_isBelow, 0, 0, 0)) (K' := (0, 0)) (σ1 := A ++ (mp_cs s si sp f fi fp im hd kn wd ak ke cv vo so sz el ++ B)) (as := [mp_i a2, mp_i 16]) (st := []) (st1 := [mp_i (if 0 ≤ a2 ∧ a2 < 16 then 1 else 0)]) dX7_isMeteorTold_59 ssX7_47 (zX11_isBelow (v := a2) (n := 16) (by first | with_reducible assumption | omega) (by first | with_reducible assumption | omega)) ⟨Nat.le_of_ble_eq_true rfl, Nat.le_of_ble_eq_true rfl, Nat.le_of_ble_eq_true rfl, Nat.le_of_ble_eq_true rfl, Nat.le_of_ble_eq_true rfl⟩ rfl rfl rfl rfl ?_
    refine mp_ifb_eq (tgt := 92) dX7_isMeteorTold_62 rfl (fun h2 => ?_) (fun h2 => ?_)
    · refine mp_iconst dX7_isMeteorTold_92 ?_
      exact mp_zreturn (st := []) dX7_isMeteorTold_93 rfl rfl ⟨by decide, by decide⟩ ((by rw [if_neg (by omega), if_neg (by omega), if_neg (by omega), if_neg (by omega)]))
    · refine mp_iload dX7_isMeteorTold_65 rfl ?_
      refine mp_iconst dX7_isMeteorTold_67 ?_
      refine mp_invS (z := (mX11_isBelow, 0, 0, 0)) (K' := (0, 0)) (σ1 := A ++ (mp_cs s si sp f fi fp im hd kn wd ak ke cv vo so sz el ++ B)) (as := [mp_i a3, mp_i 5]) (st := []) (st1 := [mp_i (if 0 ≤ a3 ∧ a3 < 5 then 1 else 0)]) dX7_isMeteorTold_68 ssX7_47 (zX11_isBelow (v := a3) (n := 5) (by first | with_reducible assumption | omega) (by first | with_reducible assumption | omega)) ⟨Nat.le_of_ble_eq_true rfl, Nat.le_of_ble_eq_true rfl, Nat.le_of_ble_eq_true rfl, Nat.le_of_ble_eq_true rfl, Nat.le_of_ble_eq_true rfl⟩ rfl rfl rfl rfl ?_
      refine mp_ifb_eq (tgt := 92) dX7_isMeteorTold_71 rfl (fun h3 => ?_) (fun h3 => ?_)
      · refine mp_iconst dX7_isMeteorTold_92 ?_
        exact mp_zreturn (st := []) dX7_isMeteorTold_93 rfl rfl ⟨by decide, by decide⟩ ((by rw [if_neg (by omega), if_neg (by omega), if_neg (by omega), if_neg (by omega)]))
      · refine mp_iload dX7_isMeteorTold_74 rfl ?_
        refine mp_bipush dX7_isMeteorTold_76 rfl ?_
        refine mp_invS (z := (mX11_isBelow, 0, 0, 0)) (K' := (0, 0)) (σ1 := A ++ (mp_cs s si sp f fi fp im hd kn wd ak ke cv vo so sz el ++ B)) (as := [mp_i a4, mp_i 31]) (st := []) (st1 := [mp_i (if 0 ≤ a4 ∧ a4 < 31 then 1 else 0)]) dX7_isMeteorTold_78 ssX7_47 (zX11_isBelow (v := a4) (n := 31) (by first | with_reducible assumption | omega) (by first | with_reducible assumption | omega)) ⟨Nat.le_of_ble_eq_true rfl, Nat.le_of_ble_eq_true rfl, Nat.le_of_ble_eq_true rfl, Nat.le_of_ble_eq_true rfl, Nat.le_of_ble_eq_true rfl⟩ rfl rfl rfl rfl ?_
        refine mp_ifb_eq (tgt := 92) dX7_isMeteorTold_81 rfl (fun h4 => ?_) (fun h4 => ?_)
        · refine mp_iconst dX7_isMeteorTold_92 ?_
          exact mp_zreturn (st := []) dX7_isMeteorTold_93 rfl rfl ⟨by decide, by decide⟩ ((by rw [if_neg (by omega), if_neg (by omega), if_neg (by omega), if_neg (by omega)]))
        · refine mp_iload dX7_isMeteorTold_84 rfl ?_
          refine mp_invS (z := (mX11_isSomebodyOrNobody, 1, 0, 0)) (K' := (0, 0)) (σ1 := A ++ (mp_cs s si sp f fi fp im hd kn wd ak ke cv vo so sz el ++ B)) (as := [mp_i a5]) (st := []) (st1 := [mp_i (if (0 ≤ a5 ∧ a5 < 5) ∨ a5 = 9 then 1 else 0)]) dX7_isMeteorTold_86 ssX7_51 (zX11_isSomebodyOrNobody (l := a5) (by first | with_reducible assumption | omega)) ⟨Nat.le_of_ble_eq_true rfl, Nat.le_of_ble_eq_true rfl, Nat.le_of_ble_eq_true rfl, Nat.le_of_ble_eq_true rfl, Nat.le_of_ble_eq_true rfl⟩ rfl rfl rfl rfl ?_
          refine mp_ifb_ne (tgt := 94) dX7_isMeteorTold_89 rfl (fun h5 => ?_) (fun h5 => ?_)
          · refine mp_iload_n dX7_isMeteorTold_94 rfl ?_
            refine mp_aload_n dX7_isMeteorTold_95 rfl ?_
            refine mp_iload_n dX7_isMeteorTold_96 rfl ?_
            refine mp_iconst dX7_isMeteorTold_97 ?_
            refine mp_iadd (z := p + 2) dX7_isMeteorTold_98 (by first | rfl | omega) ?_
            refine mp_invS (z := (mX7_digit, 2, 0, 0)) (K' := (0, 0)) (σ1 := A ++ (mp_cs s si sp f fi fp im hd kn wd ak ke cv vo so sz el ++ B)) (as := [Value.ref (28 + 2 * Int.toNat d), mp_i (p + 2)]) (st := [mp_i a0]) (st1 := [mp_i (sc_hb (sp_elm el d) (sz d) (p + 2) - 48), mp_i a0]) dX7_isMeteorTold_99 ssX7_32 (zX7_digit (r := (28 + 2 * Int.toNat d)) (p := (p + 2)) (q := (28 + 2 * Int.toNat d + 1)) (o := (so d)) (z := (sz d)) (e := (sp_elm el d)) (mp_csR0 hA (d := d) ⟨by omega, by omega⟩) (mp_csR1 hA (d := d) ⟨by omega, by omega⟩) (by first | with_reducible assumption | omega) (fun x => mp_elm_w hel x) (by first | with_reducible assumption | omega)) ⟨Nat.le_of_ble_eq_true rfl, Nat.le_of_ble_eq_true rfl, Nat.le_of_ble_eq_true rfl, Nat.le_of_ble_eq_true rfl, Nat.le_of_ble_eq_true rfl⟩ rfl rfl rfl rfl ?_
            refine mp_top (y := a1) e1 ?_
            refine mp_invS (z := (mX11_madeOf, 4, 1, 7)) (K' := (1, 7)) (σ1 := A ++ (mp_cs s si sp f fi fp im hd kn wd ak ke cv vo so sz el ++ (B ++ [mp_nw a0 a1]))) (as := [mp_i a0, mp_i a1]) (st := []) (st1 := [Value.ref (44 + List.length B)]) dX7_isMeteorTold_102 ssX7_55 (zX11_madeOfC (kd := a0) (fg := a1) (s := s) (si := si) (sp := sp) (f := f) (fi := fi) (fp := fp) (im := im) (hd := hd) (kn := kn) (wd := wd) (ak := ak) (ke := ke) (cv := cv) (vo := vo) (so := so) (sz := sz) (el := el) (B := B) (by first | with_reducible assumption | omega) (by first | with_reducible assumption | omega) (by first | with_reducible assumption | omega)) ⟨Nat.le_of_ble_eq_true rfl, Nat.le_of_ble_eq_true rfl, Nat.le_of_ble_eq_true rfl, Nat.le_of_ble_eq_true rfl, Nat.le_of_ble_eq_true rfl⟩ rfl rfl rfl rfl ?_
            refine mp_astore (L' := [some (Value.ref (28 + 2 * Int.toNat d)), some (mp_i p), some (Value.ref 14), some (mp_i a0), some (mp_i a2), some (mp_i a3), some (mp_i a4), some (mp_i a5), some (Value.ref (44 + List.length B))]) dX7_isMeteorTold_105 (by decide) rfl ?_
            refine mp_aload dX7_isMeteorTold_107 rfl ?_
            refine mp_iload dX7_isMeteorTold_109 rfl ?_
            refine mp_iload dX7_isMeteorTold_111 rfl ?_
            refine mp_iload dX7_isMeteorTold_113 rfl ?_
            refine mp_inv8 (kd := a0) (σ1 := A ++ (mp_cs s si sp f fi fp im hd kn wd ak ke cv vo so sz el ++ (B ++ [mp_O (Int.toNat a0) [mp_i a0, mp_i a1, mp_i a2, mp_i a3, mp_i a4, mp_i (sp_lasts a0 a1), mp_i (sp_bright a0 a1)]]))) (as := [mp_i a2, mp_i a3, mp_i a4]) (st := []) (st1 := []) dX7_isMeteorTold_115 (by omega) s8X7_59 (mp_csNew hA) (fun z hz => mp_Call.cast ((fa_begins (a := (44 + List.length B)) (x := a2) (y := a3) (w := a4) (kd := a0) (f := a1) (co := 0) (sl := 0) (ni := 0) (la := 0) (br := 0) (mp_csNew hA) (by first | with_reducible assumption | omega) (by first | with_reducible assumption | omega) (by first | with_reducible assumption | omega)) z hz) rfl (congrArg (Prod.mk _) (mp_csSetNew hA))) (Nat.le_of_ble_eq_true rfl) ⟨Nat.le_of_ble_eq_true rfl, Nat.le_of_ble_eq_true rfl⟩ (Nat.le_of_ble_eq_true rfl) rfl rfl rfl ?_
            refine mp_aload_n dX7_isMeteorTold_118 rfl ?_
            refine mp_aload dX7_isMeteorTold_119 rfl ?_
            refine mp_iload dX7_isMeteorTold_121 rfl ?_
            by_cases h8 : sp 0 = 8
            · refine mp_invV (z := (mX6_add, 0, 0, 0)) (K' := (1, 7)) (σ1 := A ++ (mp_cs s si sp f fi fp im hd kn wd ak ke cv vo so sz el ++ (B ++ [mp_O (Int.toNat a0) [mp_i a0, mp_i a1, mp_i a2, mp_i a3, mp_i a4, mp_i (sp_lasts a0 a1), mp_i (sp_bright a0 a1)]]))) (as := [Value.ref (44 + List.length B), mp_i a5]) (st := []) (st1 := [mp_i (-2)]) dX7_isMeteorTold_123 svX7_65 (mp_lkP hA 13 rfl) rfl rfl (mp_Call.cast (zX6_addF (p := 14) (a := (44 + List.length B)) (w := a5) (A := (A ++ (mp_csA im ++ (mp_sk 2 s f ++ mp_sk 8 si fi)))) (B := ((mp_csT hd kn wd ak ke cv vo ++ mp_rws so sz el) ++ (B ++ [mp_O (Int.toNat a0) [mp_i a0, mp_i a1, mp_i a2, mp_i a3, mp_i a4, mp_i (sp_lasts a0 a1), mp_i (sp_bright a0 a1)]]))) (s := sp) (f := fp) (mp_ln14 hA) (by decide) (by first | with_reducible assumption | omega)) mp_cs14 (congrArg (Prod.mk _) mp_cs14)) ⟨Nat.le_of_ble_eq_true rfl, Nat.le_of_ble_eq_true rfl, Nat.le_of_ble_eq_true rfl, Nat.le_of_ble_eq_true rfl, Nat.le_of_ble_eq_true rfl⟩ rfl rfl rfl rfl ?_
              refine mp_if_lt (tgt := 133) dX7_isMeteorTold_126 rfl ⟨by decide, by decide⟩ (fun _ => ?_) (fun h6 => absurd h6 (by decide))
              refine mp_iconst dX7_isMeteorTold_133 ?_
              exact mp_zreturn (st := []) dX7_isMeteorTold_134 rfl rfl ⟨by decide, by decide⟩ ((by rw [if_neg (by omega), if_neg (by omega), if_neg (by omega), if_pos (by omega)]))
            · refine mp_invV (z := (mX6_add, 0, 0, 0)) (K' := (1, 7)) (σ1 := A ++ (mp_cs s si (sp_adds sp a0 a1 a2 a3 a4 a5) f fi (va_up fp (Int.toNat (sp 0)) (some (44 + List.length B))) im hd kn wd ak ke cv vo so sz el ++ (B ++ [mp_O (Int.toNat a0) [mp_i a0, mp_i a1, mp_i a2, mp_i a3, mp_i a4, mp_i (sp_lasts a0 a1), mp_i (sp_bright a0 a1)]]))) (as := [Value.ref (44 + List.length B), mp_i a5]) (st := []) (st1 := [mp_i (sp 0)]) dX7_isMeteorTold_123 svX7_65 (mp_lkP hA 13 rfl) rfl rfl (mp_Call.cast (zX6_add (p := 14) (a := (44 + List.length B)) (w := a5) (A := (A ++ (mp_csA im ++ (mp_sk 2 s f ++ mp_sk 8 si fi)))) (B := ((mp_csT hd kn wd ak ke cv vo ++ mp_rws so sz el) ++ (B ++ [mp_O (Int.toNat a0) [mp_i a0, mp_i a1, mp_i a2, mp_i a3, mp_i a4, mp_i (sp_lasts a0 a1), mp_i (sp_bright a0 a1)]]))) (s := sp) (f := fp) (kd := a0) (fg := a1) (co := a2) (sl := a3) (ni := a4) (la := (sp_lasts a0 a1)) (br := (sp_bright a0 a1)) (mp_ln14 hA) (by decide) (by first | with_reducible assumption | omega) (by rw [mp_cs14]; exact mp_csNew hA) (by first | with_reducible assumption | omega)) mp_cs14 (congrArg (Prod.mk _) mp_cs14)) ⟨Nat.le_of_ble_eq_true rfl, Nat.le_of_ble_eq_true rfl, Nat.le_of_ble_eq_true rfl, Nat.le_of_ble_eq_true rfl, Nat.le_of_ble_eq_true rfl⟩ rfl rfl rfl rfl ?_
              refine mp_if_lt (tgt := 133) dX7_isMeteorTold_126 rfl ⟨by omega, by omega⟩ (fun h7 => ?_) (fun h7 => ?_)
              · exfalso; omega
              · refine mp_iconst dX7_isMeteorTold_129 ?_
                refine mp_goto (tgt := 134) dX7_isMeteorTold_130 rfl ?_
                exact mp_zreturn (st := []) dX7_isMeteorTold_134 rfl rfl ⟨by decide, by decide⟩ ((by rw [if_pos (by omega), if_pos (by omega), if_pos (by omega), if_pos (by omega)]))
          · refine mp_iconst dX7_isMeteorTold_92 ?_
            exact mp_zreturn (st := []) dX7_isMeteorTold_93 rfl rfl ⟨by decide, by decide⟩ ((by rw [if_neg (by omega), if_neg (by omega), if_neg (by omega), if_neg (by omega)]))
theorem zX7_isToldM {s si sp : Int → Int} {f fi fp : Nat → Option Nat} {im : Int} {hd : Int → Int} {kn : Nat → Option Nat} {wd ak ke cv vo so sz el : Int → Int} {A B : mp_H} {d : Int} {a0 a1 a2 a3 a4 a5 : Int} {p : Int} (hA : A.length = 1) (hdd : 0 ≤ d ∧ d ≤ 7) (hzd : 0 ≤ sz d ∧ sz d ≤ 100) (hel : ∀ x, mp_w (el x)) (h_p : 0 ≤ p ∧ p ≤ 200) (hsx : mp_sky sp) (hlt : sc_hb (sp_elm el d) (sz d) p = 109) (e0 : sc_hb (sp_elm el d) (sz d) (p + 1) - 48 = a0) (e1 : sc_hb (sp_elm el d) (sz d) (p + 2) - 48 = a1) (e2 : 10 * (sc_hb (sp_elm el d) (sz d) (p + 3) - 48) + (sc_hb (sp_elm el d) (sz d) (p + 3 + 1) - 48) = a2) (e3 : sc_hb (sp_elm el d) (sz d) (p + 5) - 48 = a3) (e4 : 10 * (sc_hb (sp_elm el d) (sz d) (p + 6) - 48) + (sc_hb (sp_elm el d) (sz d) (p + 6 + 1) - 48) = a4) (e5 : sc_hb (sp_elm el d) (sz d) (p + 8) - 48 = a5) (hb : ((0 ≤ a0 ∧ a0 ≤ 9) ∧ (0 ≤ a1 ∧ a1 ≤ 9) ∧ (0 ≤ a2 ∧ a2 ≤ 99)) ∧ (0 ≤ a3 ∧ a3 ≤ 9) ∧ (0 ≤ a4 ∧ a4 ≤ 99) ∧ (0 ≤ a5 ∧ a5 ≤ 9)) : mp_Call (mX7_isTold, 7, 1, 7) [Value.ref (28 + 2 * Int.toNat d), mp_i p, Value.ref 14] (A ++ (mp_cs s si sp f fi fp im hd kn wd ak ke cv vo so sz el ++ B)) (some (mp_i (if (sc_val a0 a2 a3 a4 a5 ∧ sp 0 ≠ 8) then 1 else 0)), A ++ (mp_cs s si (if (sc_val a0 a2 a3 a4 a5 ∧ sp 0 ≠ 8) then sp_adds sp a0 a1 a2 a3 a4 a5 else sp) f fi (if (sc_val a0 a2 a3 a4 a5 ∧ sp 0 ≠ 8) then va_up fp (Int.toNat (sp 0)) (some (44 + List.length B)) else fp) im hd kn wd ak ke cv vo so sz el ++ (if sc_val a0 a2 a3 a4 a5 then B ++ [mp_O (Int.toNat a0) [mp_i a0, mp_i a1, mp_i a2, mp_i a3, mp_i a4, mp_i (sp_lasts a0 a1), mp_i (sp_bright a0 a1)]] else B))) := by
  refine mp_Call.of (L := [some (Value.ref (28 + 2 * Int.toNat d)), some (mp_i p), some (Value.ref 14), none]) pnX7 (Nat.le_of_ble_eq_true rfl) rfl ?_
  have hz0 := hsx.1
  refine mp_aload_n dX7_isTold_0 rfl ?_
  refine mp_iload_n dX7_isTold_1 rfl ?_
  refine mp_invV (z := (mX5_at, 1, 0, 0)) (K' := (0, 0)) (σ1 := A ++ (mp_cs s si sp f fi fp im hd kn wd ak ke cv vo so sz el ++ B)) (as := [mp_i p]) (st := []) (st1 := [mp_i (if 0 ≤ p ∧ p < (sz d) then (sp_elm el d) p else 0)]) dX7_isTold_2 svX7_15 (mp_csR0 hA (d := d) ⟨by omega, by omega⟩) rfl rfl (zX5_at (r := (28 + 2 * Int.toNat d)) (i := p) (q := (28 + 2 * Int.toNat d + 1)) (o := (so d)) (z := (sz d)) (e := (sp_elm el d)) (mp_csR0 hA (d := d) ⟨by omega, by omega⟩) (mp_csR1 hA (d := d) ⟨by omega, by omega⟩) (by first | with_reducible assumption | omega) (by first | with_reducible assumption | omega)) ⟨Nat.le_of_ble_eq_true rfl, Nat.le_of_ble_eq_true rfl, Nat.le_of_ble_eq_true rfl, Nat.le_of_ble_eq_true rfl, Nat.le_of_ble_eq_true rfl⟩ rfl rfl rfl rfl ?_
  refine mp_top (y := sc_hb (sp_elm el d) (sz d) p) rfl ?_
  have hw1 := mp_hb_w (fun x => mp_elm_w (d := d) hel x) (z := sz d) p
  refine mp_top (y := 109) hlt ?_
  refine mp_lookup (tgt := 48) (off := 43) dX7_isTold_5 ⟨by decide, by decide⟩ (by decide) rfl rfl ?_
  refine mp_aload_n dX7_isTold_48 rfl ?_
  refine mp_iload_n dX7_isTold_49 rfl ?_
  refine mp_aload_n dX7_isTold_50 rfl ?_
  refine mp_invS (z := (mX7_isMeteorTold, 5, 1, 7)) (K' := (1, 7)) (σ1 := A ++ (mp_cs s si (if (sc_val a0 a2 a3 a4 a5 ∧ sp 0 ≠ 8) then sp_adds sp a0 a1 a2 a3 a4 a5 else sp) f fi (if (sc_val a0 a2 a3 a4 a5 ∧ sp 0 ≠ 8) then va_up fp (Int.toNat (sp 0)) (some (44 + List.length B)) else fp) im hd kn wd ak ke cv vo so sz el ++ (if sc_val a0 a2 a3 a4 a5 then B ++ [mp_O (Int.toNat a0) [mp_i a0, mp_i a1, mp_i a2, mp_i a3, mp_i a4, mp_i (sp_lasts a0 a1), mp_i (sp_bright a0 a1)]] else B))) (as := [Value.ref (28 + 2 * Int.toNat d), mp_i p, Value.ref 14]) (st := []) (st1 := [mp_i (if (sc_val a0 a2 a3 a4 a5 ∧ sp 0 ≠ 8) then 1 else 0)]) dX7_isTold_51 ssX7_24 (zX7_isMeteorTold (p := p) (d := d) (s := s) (si := si) (sp := sp) (f := f) (fi := fi) (fp := fp) (im := im) (hd := hd) (kn := kn) (wd := wd) (ak := ak) (ke := ke) (cv := cv) (vo := vo) (so := so) (sz := sz) (el := el) (B := B) (a0 := a0) (a1 := a1) (a2 := a2) (a3 := a3) (a4 := a4) (a5 := a5) (by first | with_reducible assumption | omega) (by first | with_reducible assumption | omega) (by first | with_reducible assumption | omega) (by first | with_reducible assumption | omega) (by first | with_reducible assumption | omega) (by first | with_reducible assumption | omega) (by first | with_reducible assumption | omega) (by first | with_reducible assumption | omega) (by first | with_reducible assumption | omega) (by first | with_reducible assumption | omega) (by first | with_reducible assumption | omega) (by first | with_reducible assumption | omega) (by first | with_reducible assumption | omega)) ⟨Nat.le_of_ble_eq_true rfl, Nat.le_of_ble_eq_true rfl, Nat.le_of_ble_eq_true rfl, Nat.le_of_ble_eq_true rfl, Nat.le_of_ble_eq_true rfl⟩ rfl rfl rfl rfl ?_
  exact mp_zreturn (st := []) dX7_isTold_54 rfl mp_nzb ⟨by decide, by decide⟩ ((by rfl))
theorem zX7_isToldL {s si sp : Int → Int} {f fi fp : Nat → Option Nat} {im : Int} {hd : Int → Int} {kn : Nat → Option Nat} {wd ak ke cv vo so sz el : Int → Int} {A B : mp_H} {d : Int} {a0 a1 a2 : Int} {p : Int} (hA : A.length = 1) (hdd : 0 ≤ d ∧ d ≤ 7) (hzd : 0 ≤ sz d ∧ sz d ≤ 100) (hel : ∀ x, mp_w (el x)) (h_p : 0 ≤ p ∧ p ≤ 200) (hsx : mp_sky sp) (hlt : sc_hb (sp_elm el d) (sz d) p = 108) (e0 : sc_hb (sp_elm el d) (sz d) (p + 1) - 48 = a0) (e1 : 10 * (sc_hb (sp_elm el d) (sz d) (p + 2) - 48) + (sc_hb (sp_elm el d) (sz d) (p + 2 + 1) - 48) = a1) (e2 : sc_hb (sp_elm el d) (sz d) (p + 4) - 48 = a2) (hb : (0 ≤ a0 ∧ a0 ≤ 9) ∧ (0 ≤ a1 ∧ a1 ≤ 99) ∧ (0 ≤ a2 ∧ a2 ≤ 9)) : mp_Call (mX7_isTold, 7, 1, 7) [Value.ref (28 + 2 * Int.toNat d), mp_i p, Value.ref 14] (A ++ (mp_cs s si sp f fi fp im hd kn wd ak ke cv vo so sz el ++ B)) (some (mp_i (if 0 ≤ (sp_looks sp a0 a1 a2).1 then 1 else 0)), A ++ (mp_cs s si ((sp_looks sp a0 a1 a2).2) f fi fp im hd kn wd ak ke cv vo so sz el ++ B)) := by
  refine mp_Call.of (L := [some (Value.ref (28 + 2 * Int.toNat d)), some (mp_i p), some (Value.ref 14), none]) pnX7 (Nat.le_of_ble_eq_true rfl) rfl ?_
  have hz0 := hsx.1
  refine mp_aload_n dX7_isTold_0 rfl ?_
  refine mp_iload_n dX7_isTold_1 rfl ?_
  refine mp_invV (z := (mX5_at, 1, 0, 0)) (K' := (0, 0)) (σ1 := A ++ (mp_cs s si sp f fi fp im hd kn wd ak ke cv vo so sz el ++ B)) (as := [mp_i p]) (st := []) (st1 := [mp_i (if 0 ≤ p ∧ p < (sz d) then (sp_elm el d) p else 0)]) dX7_isTold_2 svX7_15 (mp_csR0 hA (d := d) ⟨by omega, by omega⟩) rfl rfl (zX5_at (r := (28 + 2 * Int.toNat d)) (i := p) (q := (28 + 2 * Int.toNat d + 1)) (o := (so d)) (z := (sz d)) (e := (sp_elm el d)) (mp_csR0 hA (d := d) ⟨by omega, by omega⟩) (mp_csR1 hA (d := d) ⟨by omega, by omega⟩) (by first | with_reducible assumption | omega) (by first | with_reducible assumption | omega)) ⟨Nat.le_of_ble_eq_true rfl, Nat.le_of_ble_eq_true rfl, Nat.le_of_ble_eq_true rfl, Nat.le_of_ble_eq_true rfl, Nat.le_of_ble_eq_true rfl⟩ rfl rfl rfl rfl ?_
  refine mp_top (y := sc_hb (sp_elm el d) (sz d) p) rfl ?_
  have hw1 := mp_hb_w (fun x => mp_elm_w (d := d) hel x) (z := sz d) p
  refine mp_top (y := 108) hlt ?_
  refine mp_lookup (tgt := 55) (off := 50) dX7_isTold_5 ⟨by decide, by decide⟩ (by decide) rfl rfl ?_
  refine mp_aload_n dX7_isTold_55 rfl ?_
  refine mp_iload_n dX7_isTold_56 rfl ?_
  refine mp_iconst dX7_isTold_57 ?_
  refine mp_iadd (z := p + 2) dX7_isTold_58 (by first | rfl | omega) ?_
  refine mp_invS (z := (mX7_twoDigits, 3, 0, 0)) (K' := (0, 0)) (σ1 := A ++ (mp_cs s si sp f fi fp im hd kn wd ak ke cv vo so sz el ++ B)) (as := [Value.ref (28 + 2 * Int.toNat d), mp_i (p + 2)]) (st := []) (st1 := [mp_i (10 * (sc_hb (sp_elm el d) (sz d) (p + 2) - 48) + (sc_hb (sp_elm el d) (sz d) ((p + 2) + 1) - 48))]) dX7_isTold_59 ssX7_28 (zX7_twoDigits (r := (28 + 2 * Int.toNat d)) (p := (p + 2)) (q := (28 + 2 * Int.toNat d + 1)) (o := (so d)) (z := (sz d)) (e := (sp_elm el d)) (mp_csR0 hA (d := d) ⟨by omega, by omega⟩) (mp_csR1 hA (d := d) ⟨by omega, by omega⟩) (by first | with_reducible assumption | omega) (fun x => mp_elm_w hel x) (by first | with_reducible assumption | omega)) ⟨Nat.le_of_ble_eq_true rfl, Nat.le_of_ble_eq_true rfl, Nat.le_of_ble_eq_true rfl, Nat.le_of_ble_eq_true rfl, Nat.le_of_ble_eq_true rfl⟩ rfl rfl rfl rfl ?_
  refine mp_istore_n (L' := [some (Value.ref (28 + 2 * Int.toNat d)), some (mp_i p), some (Value.ref 14), some (mp_i (10 * (sc_hb (sp_elm el d) (sz d) (p + 2) - 48) + (sc_hb (sp_elm el d) (sz d) ((p + 2) + 1) - 48)))]) dX7_isTold_62 rfl (by decide) rfl ?_
  refine mp_loc (j := 3) (x := 10 * (sc_hb (sp_elm el d) (sz d) (p + 2) - 48) + (sc_hb (sp_elm el d) (sz d) ((p + 2) + 1) - 48)) (y := a1) e1 rfl (L' := [some (Value.ref (28 + 2 * Int.toNat d)), some (mp_i p), some (Value.ref 14), some (mp_i a1)]) rfl ?_
  refine mp_aload_n dX7_isTold_63 rfl ?_
  refine mp_aload_n dX7_isTold_64 rfl ?_
  refine mp_iload_n dX7_isTold_65 rfl ?_
  refine mp_iconst dX7_isTold_66 ?_
  refine mp_iadd (z := p + 1) dX7_isTold_67 (by first | rfl | omega) ?_
  refine mp_invS (z := (mX7_digit, 2, 0, 0)) (K' := (0, 0)) (σ1 := A ++ (mp_cs s si sp f fi fp im hd kn wd ak ke cv vo so sz el ++ B)) (as := [Value.ref (28 + 2 * Int.toNat d), mp_i (p + 1)]) (st := [Value.ref 14]) (st1 := [mp_i (sc_hb (sp_elm el d) (sz d) (p + 1) - 48), Value.ref 14]) dX7_isTold_68 ssX7_32 (zX7_digit (r := (28 + 2 * Int.toNat d)) (p := (p + 1)) (q := (28 + 2 * Int.toNat d + 1)) (o := (so d)) (z := (sz d)) (e := (sp_elm el d)) (mp_csR0 hA (d := d) ⟨by omega, by omega⟩) (mp_csR1 hA (d := d) ⟨by omega, by omega⟩) (by first | with_reducible assumption | omega) (fun x => mp_elm_w hel x) (by first | with_reducible assumption | omega)) ⟨Nat.le_of_ble_eq_true rfl, Nat.le_of_ble_eq_true rfl, Nat.le_of_ble_eq_true rfl, Nat.le_of_ble_eq_true rfl, Nat.le_of_ble_eq_true rfl⟩ rfl rfl rfl rfl ?_
  refine mp_top (y := a0) e0 ?_
  refine mp_iload_n dX7_isTold_71 rfl ?_
  refine mp_aload_n dX7_isTold_72 rfl ?_
  refine mp_iload_n dX7_isTold_73 rfl ?_
  refine mp_iconst dX7_isTold_74 ?_
  refine mp_iadd (z := p + 4) dX7_isTold_75 (by first | rfl | omega) ?_
  refine mp_invS (z := (mX7_digit, 2, 0, 0)) (K' := (0, 0)) (σ1 := A ++ (mp_cs s si sp f fi fp im hd kn wd ak ke cv vo so sz el ++ B)) (as := [Value.ref (28 + 2 * Int.toNat d), mp_i (p + 4)]) (st := [mp_i a1, mp_i a0, Value.ref 14]) (st1 := [mp_i (sc_hb (sp_elm el d) (sz d) (p + 4) - 48), mp_i a1, mp_i a0, Value.ref 14]) dX7_isTold_76 ssX7_32 (zX7_digit (r := (28 + 2 * Int.toNat d)) (p := (p + 4)) (q := (28 + 2 * Int.toNat d + 1)) (o := (so d)) (z := (sz d)) (e := (sp_elm el d)) (mp_csR0 hA (d := d) ⟨by omega, by omega⟩) (mp_csR1 hA (d := d) ⟨by omega, by omega⟩) (by first | with_reducible assumption | omega) (fun x => mp_elm_w hel x) (by first | with_reducible assumption | omega)) ⟨Nat.le_of_ble_eq_true rfl, Nat.le_of_ble_eq_true rfl, Nat.le_of_ble_eq_true rfl, Nat.le_of_ble_eq_true rfl, Nat.le_of_ble_eq_true rfl⟩ rfl rfl rfl rfl ?_
  refine mp_top (y := a2) e2 ?_
  refine mp_invV (z := (mX6_putOnRoof, 1, 0, 0)) (K' := (0, 0)) (σ1 := A ++ (mp_cs s si ((sp_looks sp a0 a1 a2).2) f fi fp im hd kn wd ak ke cv vo so sz el ++ B)) (as := [mp_i a0, mp_i a1, mp_i a2]) (st := []) (st1 := [mp_i ((sp_looks sp a0 a1 a2).1)]) dX7_isTold_79 svX7_35 (mp_lkP hA 13 rfl) rfl rfl (mp_Call.cast (zX6_putOnRoof (p := 14) (l := a0) (x := a1) (y := a2) (A := (A ++ (mp_csA im ++ (mp_sk 2 s f ++ mp_sk 8 si fi)))) (B := ((mp_csT hd kn wd ak ke cv vo ++ mp_rws so sz el) ++ B)) (s := sp) (f := fp) (mp_ln14 hA) (by decide) hsx (by first | with_reducible assumption | omega) (by first | with_reducible assumption | omega) (by first | with_reducible assumption | omega)) mp_cs14 (congrArg (Prod.mk _) mp_cs14)) ⟨Nat.le_of_ble_eq_true rfl, Nat.le_of_ble_eq_true rfl, Nat.le_of_ble_eq_true rfl, Nat.le_of_ble_eq_true rfl, Nat.le_of_ble_eq_true rfl⟩ rfl rfl rfl rfl ?_
  have hbd := sp_looks_bd hsx (a := a0) (b := a1) (c := a2)
  refine mp_if_lt (tgt := 89) dX7_isTold_82 rfl ⟨by omega, by omega⟩ (fun h2 => ?_) (fun h2 => ?_)
  · refine mp_iconst dX7_isTold_89 ?_
    exact mp_zreturn (st := []) dX7_isTold_90 rfl rfl ⟨by decide, by decide⟩ ((by rw [if_neg (by omega)]))
  · refine mp_iconst dX7_isTold_85 ?_
    refine mp_goto (tgt := 90) dX7_isTold_86 rfl ?_
    exact mp_zreturn (st := []) dX7_isTold_90 rfl rfl ⟨by decide, by decide⟩ ((by rw [if_pos (by omega)]))
theorem zX7_isToldR {s si sp : Int → Int} {f fi fp : Nat → Option Nat} {im : Int} {hd : Int → Int} {kn : Nat → Option Nat} {wd ak ke cv vo so sz el : Int → Int} {A B : mp_H} {d : Int} {a0 : Int} {p : Int} (hA : A.length = 1) (hdd : 0 ≤ d ∧ d ≤ 7) (hzd : 0 ≤ sz d ∧ sz d ≤ 100) (hel : ∀ x, mp_w (el x)) (h_p : 0 ≤ p ∧ p ≤ 200) (hsx : mp_sky sp) (hlt : sc_hb (sp_elm el d) (sz d) p = 114) (e0 : 10 * (sc_hb (sp_elm el d) (sz d) (p + 1) - 48) + (sc_hb (sp_elm el d) (sz d) (p + 1 + 1) - 48) = a0) (hb : 0 ≤ a0 ∧ a0 ≤ 99) (hMtx : mp_Mt (A ++ (mp_cs s si sp f fi fp im hd kn wd ak ke cv vo so sz el ++ B)) sp fp) : mp_Call (mX7_isTold, 7, 1, 7) [Value.ref (28 + 2 * Int.toNat d), mp_i p, Value.ref 14] (A ++ (mp_cs s si sp f fi fp im hd kn wd ak ke cv vo so sz el ++ B)) (some (mp_i (if 0 ≤ (sp_run sp a0).1 then 1 else 0)), A ++ (mp_cs s si ((sp_run sp a0).2) f fi fp im hd kn wd ak ke cv vo so sz el ++ B)) := by
  refine mp_Call.of (L := [some (Value.ref (28 + 2 * Int.toNat d)), some (mp_i p), some (Value.ref 14), none]) pnX7 (Nat.le_of_ble_eq_true rfl) rfl ?_
  have hz0 := hsx.1
  refine mp_aload_n dX7_isTold_0 rfl ?_
  refine mp_iload_n dX7_isTold_1 rfl ?_
  refine mp_invV (z := (mX5_at, 1, 0, 0)) (K' := (0, 0)) (σ1 := A ++ (mp_cs s si sp f fi fp im hd kn wd ak ke cv vo so sz el ++ B)) (as := [mp_i p]) (st := []) (st1 := [mp_i (if 0 ≤ p ∧ p < (sz d) then (sp_elm el d) p else 0)]) dX7_isTold_2 svX7_15 (mp_csR0 hA (d := d) ⟨by omega, by omega⟩) rfl rfl (zX5_at (r := (28 + 2 * Int.toNat d)) (i := p) (q := (28 + 2 * Int.toNat d + 1)) (o := (so d)) (z := (sz d)) (e := (sp_elm el d)) (mp_csR0 hA (d := d) ⟨by omega, by omega⟩) (mp_csR1 hA (d := d) ⟨by omega, by omega⟩) (by first | with_reducible assumption | omega) (by first | with_reducible assumption | omega)) ⟨Nat.le_of_ble_eq_true rfl, Nat.le_of_ble_eq_true rfl, Nat.le_of_ble_eq_true rfl, Nat.le_of_ble_eq_true rfl, Nat.le_of_ble_eq_true rfl⟩ rfl rfl rfl rfl ?_
  refine mp_top (y := sc_hb (sp_elm el d) (sz d) p) rfl ?_
  have hw1 := mp_hb_w (fun x => mp_elm_w (d := d) hel x) (z := sz d) p
  refine mp_top (y := 114) hlt ?_
  refine mp_lookup (tgt := 91) (off := 86) dX7_isTold_5 ⟨by decide, by decide⟩ (by decide) rfl rfl ?_
  refine mp_aload_n dX7_isTold_91 rfl ?_
  refine mp_aload_n dX7_isTold_92 rfl ?_
  refine mp_iload_n dX7_isTold_93 rfl ?_
  refine mp_iconst dX7_isTold_94 ?_
  refine mp_iadd (z := p + 1) dX7_isTold_95 (by first | rfl | omega) ?_
  refine mp_invS (z := (mX7_twoDigits, 3, 0, 0)) (K' := (0, 0)) (σ1 := A ++ (mp_cs s si sp f fi fp im hd kn wd ak ke cv vo so sz el ++ B)) (as := [Value.ref (28 + 2 * Int.toNat d), mp_i (p + 1)]) (st := [Value.ref 14]) (st1 := [mp_i (10 * (sc_hb (sp_elm el d) (sz d) (p + 1) - 48) + (sc_hb (sp_elm el d) (sz d) ((p + 1) + 1) - 48)), Value.ref 14]) dX7_isTold_96 ssX7_28 (zX7_twoDigits (r := (28 + 2 * Int.toNat d)) (p := (p + 1)) (q := (28 + 2 * Int.toNat d + 1)) (o := (so d)) (z := (sz d)) (e := (sp_elm el d)) (mp_csR0 hA (d := d) ⟨by omega, by omega⟩) (mp_csR1 hA (d := d) ⟨by omega, by omega⟩) (by first | with_reducible assumption | omega) (fun x => mp_elm_w hel x) (by first | with_reducible assumption | omega)) ⟨Nat.le_of_ble_eq_true rfl, Nat.le_of_ble_eq_true rfl, Nat.le_of_ble_eq_true rfl, Nat.le_of_ble_eq_true rfl, Nat.le_of_ble_eq_true rfl⟩ rfl rfl rfl rfl ?_
  refine mp_top (y := a0) e0 ?_
  refine mp_invV (z := (mX6_runNight, 4, 0, 0)) (K' := (0, 0)) (σ1 := A ++ (mp_cs s si ((sp_run sp a0).2) f fi fp im hd kn wd ak ke cv vo so sz el ++ B)) (as := [mp_i a0]) (st := []) (st1 := [mp_i ((sp_run sp a0).1)]) dX7_isTold_99 svX7_41 (mp_lkP hA 13 rfl) rfl rfl (mp_Call.cast (zX6_runNight (p := 14) (w := a0) (A := (A ++ (mp_csA im ++ (mp_sk 2 s f ++ mp_sk 8 si fi)))) (B := ((mp_csT hd kn wd ak ke cv vo ++ mp_rws so sz el) ++ B)) (s := sp) (f := fp) (mp_ln14 hA) (by decide) hsx (by rw [mp_cs14]; exact hMtx) (by first | with_reducible assumption | omega)) mp_cs14 (congrArg (Prod.mk _) mp_cs14)) ⟨Nat.le_of_ble_eq_true rfl, Nat.le_of_ble_eq_true rfl, Nat.le_of_ble_eq_true rfl, Nat.le_of_ble_eq_true rfl, Nat.le_of_ble_eq_true rfl⟩ rfl rfl rfl rfl ?_
  have hbd := sp_run_bd hsx (a := a0)
  refine mp_if_lt (tgt := 109) dX7_isTold_102 rfl ⟨by omega, by omega⟩ (fun h2 => ?_) (fun h2 => ?_)
  · refine mp_iconst dX7_isTold_109 ?_
    exact mp_zreturn (st := []) dX7_isTold_110 rfl rfl ⟨by decide, by decide⟩ ((by rw [if_neg (by omega)]))
  · refine mp_iconst dX7_isTold_105 ?_
    refine mp_goto (tgt := 110) dX7_isTold_106 rfl ?_
    exact mp_zreturn (st := []) dX7_isTold_110 rfl rfl ⟨by decide, by decide⟩ ((by rw [if_pos (by omega)]))
theorem zX7_isToldF {s si sp : Int → Int} {f fi fp : Nat → Option Nat} {im : Int} {hd : Int → Int} {kn : Nat → Option Nat} {wd ak ke cv vo so sz el : Int → Int} {A B : mp_H} {d : Int} {a0 : Int} {p : Int} (hA : A.length = 1) (hdd : 0 ≤ d ∧ d ≤ 7) (hzd : 0 ≤ sz d ∧ sz d ≤ 100) (hel : ∀ x, mp_w (el x)) (h_p : 0 ≤ p ∧ p ≤ 200) (hsx : mp_sky sp) (hlt : sc_hb (sp_elm el d) (sz d) p = 102) (e0 : sc_hb (sp_elm el d) (sz d) (p + 1) - 48 = a0) (hb : 0 ≤ a0 ∧ a0 ≤ 9) : mp_Call (mX7_isTold, 7, 1, 7) [Value.ref (28 + 2 * Int.toNat d), mp_i p, Value.ref 14] (A ++ (mp_cs s si sp f fi fp im hd kn wd ak ke cv vo so sz el ++ B)) (some (mp_i (if 0 ≤ (sp_free sp a0).1 then 1 else 0)), A ++ (mp_cs s si ((sp_free sp a0).2) f fi fp im hd kn wd ak ke cv vo so sz el ++ B)) := by
  refine mp_Call.of (L := [some (Value.ref (28 + 2 * Int.toNat d)), some (mp_i p), some (Value.ref 14), none]) pnX7 (Nat.le_of_ble_eq_true rfl) rfl ?_
  have hz0 := hsx.1
  refine mp_aload_n dX7_isTold_0 rfl ?_
  refine mp_iload_n dX7_isTold_1 rfl ?_
  refine mp_invV (z := (mX5_at, 1, 0, 0)) (K' := (0, 0)) (σ1 := A ++ (mp_cs s si sp f fi fp im hd kn wd ak ke cv vo so sz el ++ B)) (as := [mp_i p]) (st := []) (st1 := [mp_i (if 0 ≤ p ∧ p < (sz d) then (sp_elm el d) p else 0)]) dX7_isTold_2 svX7_15 (mp_csR0 hA (d := d) ⟨by omega, by omega⟩) rfl rfl (zX5_at (r := (28 + 2 * Int.toNat d)) (i := p) (q := (28 + 2 * Int.toNat d + 1)) (o := (so d)) (z := (sz d)) (e := (sp_elm el d)) (mp_csR0 hA (d := d) ⟨by omega, by omega⟩) (mp_csR1 hA (d := d) ⟨by omega, by omega⟩) (by first | with_reducible assumption | omega) (by first | with_reducible assumption | omega)) ⟨Nat.le_of_ble_eq_true rfl, Nat.le_of_ble_eq_true rfl, Nat.le_of_ble_eq_true rfl, Nat.le_of_ble_eq_true rfl, Nat.le_of_ble_eq_true rfl⟩ rfl rfl rfl rfl ?_
  refine mp_top (y := sc_hb (sp_elm el d) (sz d) p) rfl ?_
  have hw1 := mp_hb_w (fun x => mp_elm_w (d := d) hel x) (z := sz d) p
  refine mp_top (y := 102) hlt ?_
  refine mp_lookup (tgt := 111) (off := 106) dX7_isTold_5 ⟨by decide, by decide⟩ (by decide) rfl rfl ?_
  refine mp_aload_n dX7_isTold_111 rfl ?_
  refine mp_aload_n dX7_isTold_112 rfl ?_
  refine mp_iload_n dX7_isTold_113 rfl ?_
  refine mp_iconst dX7_isTold_114 ?_
  refine mp_iadd (z := p + 1) dX7_isTold_115 (by first | rfl | omega) ?_
  refine mp_invS (z := (mX7_digit, 2, 0, 0)) (K' := (0, 0)) (σ1 := A ++ (mp_cs s si sp f fi fp im hd kn wd ak ke cv vo so sz el ++ B)) (as := [Value.ref (28 + 2 * Int.toNat d), mp_i (p + 1)]) (st := [Value.ref 14]) (st1 := [mp_i (sc_hb (sp_elm el d) (sz d) (p + 1) - 48), Value.ref 14]) dX7_isTold_116 ssX7_32 (zX7_digit (r := (28 + 2 * Int.toNat d)) (p := (p + 1)) (q := (28 + 2 * Int.toNat d + 1)) (o := (so d)) (z := (sz d)) (e := (sp_elm el d)) (mp_csR0 hA (d := d) ⟨by omega, by omega⟩) (mp_csR1 hA (d := d) ⟨by omega, by omega⟩) (by first | with_reducible assumption | omega) (fun x => mp_elm_w hel x) (by first | with_reducible assumption | omega)) ⟨Nat.le_of_ble_eq_true rfl, Nat.le_of_ble_eq_true rfl, Nat.le_of_ble_eq_true rfl, Nat.le_of_ble_eq_true rfl, Nat.le_of_ble_eq_true rfl⟩ rfl rfl rfl rfl ?_
  refine mp_top (y := a0) e0 ?_
  refine mp_invV (z := (mX6_setFree, 1, 0, 0)) (K' := (0, 0)) (σ1 := A ++ (mp_cs s si ((sp_free sp a0).2) f fi fp im hd kn wd ak ke cv vo so sz el ++ B)) (as := [mp_i a0]) (st := []) (st1 := [mp_i ((sp_free sp a0).1)]) dX7_isTold_119 svX7_44 (mp_lkP hA 13 rfl) rfl rfl (mp_Call.cast (zX6_setFree (p := 14) (l := a0) (A := (A ++ (mp_csA im ++ (mp_sk 2 s f ++ mp_sk 8 si fi)))) (B := ((mp_csT hd kn wd ak ke cv vo ++ mp_rws so sz el) ++ B)) (s := sp) (f := fp) (mp_ln14 hA) (by decide) hsx (by first | with_reducible assumption | omega)) mp_cs14 (congrArg (Prod.mk _) mp_cs14)) ⟨Nat.le_of_ble_eq_true rfl, Nat.le_of_ble_eq_true rfl, Nat.le_of_ble_eq_true rfl, Nat.le_of_ble_eq_true rfl, Nat.le_of_ble_eq_true rfl⟩ rfl rfl rfl rfl ?_
  have hbd := sp_free_bd hsx (a := a0)
  refine mp_if_lt (tgt := 129) dX7_isTold_122 rfl ⟨by omega, by omega⟩ (fun h2 => ?_) (fun h2 => ?_)
  · refine mp_iconst dX7_isTold_129 ?_
    exact mp_zreturn (st := []) dX7_isTold_130 rfl rfl ⟨by decide, by decide⟩ ((by rw [if_neg (by omega)]))
  · refine mp_iconst dX7_isTold_125 ?_
    refine mp_goto (tgt := 130) dX7_isTold_126 rfl ?_
    exact mp_zreturn (st := []) dX7_isTold_130 rfl rfl ⟨by decide, by decide⟩ ((by rw [if_pos (by omega)]))
