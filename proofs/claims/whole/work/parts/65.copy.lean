/-! ===== the class: rows copied ===== -/
theorem mp_arraycopy {Y : mp_Y} {K : Nat × Nat} {pc nx : Nat} {L : List (Option Value)} {σ : mp_H} {A : mp_An} {k0 k1 n0 n1 : Nat} {f g : Nat → Int} {sp dp n : Int} {σ' : mp_H} (hd : mp_dc Y.1 pc (.invokestatic 348) 3 nx) (hY : Y.1.1.cls = "MeteorsAreProposals") (hs0 : σ[k0]? = some (mp_I n0 f)) (hs1 : σ[k1]? = some (mp_I n1 g)) (h0 : 0 < k1) (hi : 0 ≤ sp ∧ sp + n ≤ n0) (hj : 0 ≤ dp ∧ dp + n ≤ n1) (hn : 0 ≤ n) (hN : n0 ≤ 1000 ∧ n1 ≤ 1000) (hf : 1 ≤ Y.2.1) (hσ : σ.set k1 (mp_I n1 (va_cpy f g sp.toNat dp.toNat n.toNat)) = σ') (kk : mp_At Y K nx L [] σ' A) : mp_At Y K pc L [mp_i n, mp_i dp, Value.ref k1, mp_i sp, Value.ref k0] σ A := by
  subst hσ
  obtain ⟨hd, rfl⟩ := hd
  intro G p l e Rm s m args below meth c C H locs ls hW hS hL
  have hKn := C.2.2.2.2.2.2.2.2.1
  have hw := C.2.2.2.2.2.2.2.1
  obtain ⟨-, -, -, -, -, -, -, -, -, -, c1, c2, -, -⟩ := id C
  have nz : ∀ z : Int, 0 ≤ z → z ≤ 1000 → (Int32.ofInt z).toInt = z ∧ (Int32.ofInt z).toNatClampNeg = z.toNat ∧ ¬ Int32.ofInt z < 0 := fun z h1 h2 => by
    have q1 : (Int32.ofInt z).toInt = z := mp_toInt ⟨by omega, by omega⟩
    exact ⟨q1, by show (Int32.ofInt z).toInt.toNat = z.toNat; rw [q1], by rw [← mp_zero, mp_lt ⟨by omega, by omega⟩ mp_rg0]; omega⟩
  obtain ⟨a1, a2, a3⟩ := nz sp (by omega) (by omega)
  obtain ⟨b1, b2, b3⟩ := nz dp (by omega) (by omega)
  obtain ⟨d1, d2, d3⟩ := nz n (by omega) (by omega)
  have hc0 : H[mp_ad G k0]? = some (vp_cell (G.2.2.2 0) (n0, .inl (fun j => Int32.ofInt (f j)))) := hW.2.2 k0 _ hs0
  have hc1 : H[mp_ad G k1]? = some (vp_cell (G.2.2.2 0) (n1, .inl (fun j => Int32.ofInt (g j)))) := hW.2.2 k1 _ hs1
  intro T hT X
  obtain ⟨-, kA, hk0, cm0, hkk0⟩ := (hKn.1.2 0 _ rfl).1 n0 (fun j => .int (Int32.ofInt (f j)))
  obtain ⟨-, kB, hk1, cm1, hkk1⟩ := (hKn.1.2 0 _ rfl).1 n1 (fun j => .int (Int32.ofInt (g j)))
  obtain ⟨vm', X', step⟩ := X.arraycopy C.1 C.2.2.2.2.1 (by rw [hY]; exact hw _ w_843) (hw _ (mp_gt_of 845 (by decide +kernel) rfl)) (hw _ (mp_gt_of 844 (by decide +kernel) rfl)) (hw _ (mp_gt_of 22 (by decide +kernel) rfl)) (src := mp_ad G k0) (dst := mp_ad G k1) (cs := vp_cell (G.2.2.2 0) (n0, .inl (fun j => Int32.ofInt (f j)))) (cd := vp_cell (G.2.2.2 0) (n1, .inl (fun j => Int32.ofInt (g j)))) (srcPos := Int32.ofInt sp) (destPos := Int32.ofInt dp) (n := Int32.ofInt n) (by rw [hT]; exact hc0) (by rw [hT]; exact hc1)
    (fun _ h => by cases h) (fun _ h => by cases h) (fun h => by cases h) (fun h => by cases h) hk0 hk1 hkk0 hkk1 rfl a3 b3 d3
    (by rw [a1, d1]; show ¬ _ > ((arrV _ n0 (fun j => .int (Int32.ofInt (f j)))).slots.size : Int); rw [arrV_size]; omega)
    (by rw [b1, d1]; show ¬ _ > ((arrV _ n1 (fun j => .int (Int32.ofInt (g j)))).slots.size : Int); rw [arrV_size]; omega)
    (fun vm₁ _ i hi9 => by
      rw [d2] at hi9
      have e9 : (vp_cell (G.2.2.2 0) (n0, .inl (fun j => Int32.ofInt (f j)))).slots.getD ((Int32.ofInt sp).toNatClampNeg + i) .null = .int (Int32.ofInt (f ((Int32.ofInt sp).toNatClampNeg + i))) := by
        show (arrV _ n0 (fun j => .int (Int32.ofInt (f j)))).slots.getD _ _ = _
        rw [Array.getD_eq_getD_getElem?, arrV_read _ _ (by rw [a2]; omega)]
        rfl
      rw [e9]
      exact ⟨rfl, trivial⟩)
    (g := F0 m pc ls (([mp_i n, mp_i dp, Value.ref k1, mp_i sp, Value.ref k0] : List Value).map (mp_tr G))) rfl (hL.1.trans C.2.2.2.1.symm) (rest := []) rfl (by rw [C.2.1]; exact hd) (by omega) (by show 0 + 0 + (7 + 11) ≤ _; omega)
  have e1 : copied (vp_cell (G.2.2.2 0) (n0, .inl (fun j => Int32.ofInt (f j)))) (vp_cell (G.2.2.2 0) (n1, .inl (fun j => Int32.ofInt (g j)))) (Int32.ofInt sp) (Int32.ofInt dp) (Int32.ofInt n) = vp_cell (G.2.2.2 0) (n1, .inl (fun j => Int32.ofInt (va_cpy f g sp.toNat dp.toNat n.toNat j))) := by
    refine (va_copied (fun z => .int z) (G.2.2.2 0) (G.2.2.2 0) (sp := (Int32.ofInt sp).toNatClampNeg) (dp := (Int32.ofInt dp).toNatClampNeg) (n := (Int32.ofInt n).toNatClampNeg) (fun j => Int32.ofInt (f j)) (fun j => Int32.ofInt (g j)) (n1 := n1) (by rw [a2, d2]; omega)).trans ?_
    rw [a2, b2, d2]
    rw [vp_cell_i]
    congr 1
    funext j
    unfold va_cpy
    split <;> rfl
  rw [e1] at X' step
  have hl : mp_ad G k1 < H.size := (Array.getElem?_eq_some_iff.mp hc1).1
  have hheap : ((T.setVm vm').setCell (mp_ad G k1) (vp_cell (G.2.2.2 0) (n1, .inl (fun j => Int32.ofInt (va_cpy f g sp.toNat dp.toNat n.toNat j))))).heap = H.setIfInBounds (mp_ad G k1) (vp_cell (G.2.2.2 0) (n1, .inl (fun j => Int32.ofInt (va_cpy f g sp.toNat dp.toNat n.toNat j)))) := by rw [← hT]; rfl
  have oq : ∀ q : Nat, q ≠ mp_ad G k1 → (H.setIfInBounds (mp_ad G k1) (vp_cell (G.2.2.2 0) (n1, .inl (fun j => Int32.ofInt (va_cpy f g sp.toNat dp.toNat n.toNat j)))))[q]? = H[q]? := fun q hq => by simp [Array.getElem?_setIfInBounds, Ne.symm hq]
  obtain ⟨t, s1, q1⟩ := kk G p l e Rm s m args below meth c C _ _ ls (hW.set hKn.2.1 hs1 h0 (show (H.setIfInBounds (mp_ad G k1) _)[mp_ad G k1]? = some _ by simp [Array.getElem?_setIfInBounds, hl]) (by simp) oq) ⟨by simp; exact hS.1, fun q g1 g2 => by
      rw [oq q (fun e => g2 (by rw [e]; exact mp_frk h0))]
      exact hS.2.1 q g1 g2, fun q hq => by
      rcases List.mem_append.mp hq with h | h
      · exact hS.2.2 q h
      · obtain ⟨z, -, hz⟩ := List.mem_map.mp h
        rw [← hz]
        exact mp_frk h0⟩ hL _ hheap X'
  exact ⟨t, step t s1, q1⟩
theorem mp_alk_cp {d i e j n : Int} {so sz el : Int → Int} (h : 0 ≤ j ∧ j + n ≤ 100) : mp_alk e so so sz sz el (sp_cpy el (100 * d + i) (100 * e + j) n) := fun x _ _ hx => ⟨rfl, rfl, sp_elm_ne (fun y hy => if_neg (by omega)) hx⟩
theorem mp_elm_cp {d i e j n : Int} {el : Int → Int} (h1 : 0 ≤ i ∧ i + n ≤ 100) (h2 : 0 ≤ j ∧ j + n ≤ 100) (h : 0 ≤ n) : va_cpy (mp_F (sp_elm el d)) (mp_F (sp_elm el e)) i.toNat j.toNat n.toNat = mp_F (sp_elm (sp_cpy el (100 * d + i) (100 * e + j) n) e) := by
  funext k
  show (if j.toNat ≤ k ∧ k < j.toNat + n.toNat then sp_elm el d ((i.toNat + (k - j.toNat) : Nat) : Int) else sp_elm el e (k : Int)) = sp_elm (sp_cpy el (100 * d + i) (100 * e + j) n) e (k : Int)
  unfold sp_elm sp_cpy
  by_cases c : j.toNat ≤ k ∧ k < j.toNat + n.toNat
  · rw [if_pos c, if_pos (by omega), if_pos (by omega), if_pos (by omega)]
    congr 1
    omega
  · rw [if_neg c]
    by_cases c2 : (0 : Int) ≤ (k : Int) ∧ (k : Int) ≤ 99
    · rw [if_pos c2, if_pos c2, if_neg (by omega)]
    · rw [if_neg c2, if_neg c2]
theorem mp_setR {A9 B9 : mp_H} {r : Nat} {o z : Int} {x : Int → Int} {y : Nat → Int} {x' : Int → Int} (hA : A9.length = r) (h : y = mp_F x') : (A9 ++ (mp_rw r o z x ++ B9)).set (r + 1) (mp_I 100 y) = A9 ++ (mp_rw r o z x' ++ B9) := by
  subst h
  rw [List.set_append_right _ _ (by omega), hA, Nat.add_sub_cancel_left]
  rfl
theorem mp_csCpy {s si sp : Int → Int} {f fi fp : Nat → Option Nat} {im : Int} {hd : Int → Int} {kn : Nat → Option Nat} {wd ak ke cv vo so sz el : Int → Int} {A B : mp_H} {d i e j n : Int} (hA : A.length = 1) (he : 0 ≤ e ∧ e ≤ 7) (h1 : 0 ≤ i ∧ i + n ≤ 100) (h2 : 0 ≤ j ∧ j + n ≤ 100) (h : 0 ≤ n) : (A ++ (mp_cs s si sp f fi fp im hd kn wd ak ke cv vo so sz el ++ B)).set (28 + 2 * Int.toNat e + 1) (mp_I 100 (va_cpy (mp_F (sp_elm el d)) (mp_F (sp_elm el e)) i.toNat j.toNat n.toNat)) = A ++ (mp_cs s si sp f fi fp im hd kn wd ak ke cv vo so sz (sp_cpy el (100 * d + i) (100 * e + j) n) ++ B) := by
  obtain ⟨A9, B9, hA9, e9⟩ := mp_csRow (s := s) (si := si) (sp := sp) (f := f) (fi := fi) (fp := fp) (im := im) (hd := hd) (kn := kn) (wd := wd) (ak := ak) (ke := ke) (cv := cv) (vo := vo) (so := so) (sz := sz) (el := el) (B := B) hA (d := e) he
  rw [← e9 so sz el mp_alk_rf, ← e9 so sz (sp_cpy el (100 * d + i) (100 * e + j) n) (mp_alk_cp h2)]
  exact mp_setR hA9 (mp_elm_cp h1 h2 h)
theorem sp_copy_bad {kp so sz el : Int → Int} {d i e j n : Int} (h : ¬ (0 ≤ d ∧ d ≤ 7) ∨ ¬ (0 ≤ e ∧ e ≤ 7)) : sp_copy kp so sz el d i e j n = (-1, el) := if_pos h
theorem sp_copy_no {kp so sz el : Int → Int} {d i e j n : Int} (h : (0 ≤ d ∧ d ≤ 7) ∧ (0 ≤ e ∧ e ≤ 7)) (h1 : kp d = 0 ∨ kp e = 0) : sp_copy kp so sz el d i e j n = (-11, el) := by unfold sp_copy; rw [if_neg (by omega), if_pos h1]
theorem sp_copy_12 {kp so sz el : Int → Int} {d i e j n : Int} (h : (0 ≤ d ∧ d ≤ 7) ∧ (0 ≤ e ∧ e ≤ 7)) (h1 : ¬ (kp d = 0 ∨ kp e = 0)) (h2 : kp d ≠ 2 ∨ kp e ≠ 2 ∨ so d ≠ so e) : sp_copy kp so sz el d i e j n = (-12, el) := by unfold sp_copy; rw [if_neg (by omega), if_neg h1, if_pos h2]
theorem sp_copy_13 {kp so sz el : Int → Int} {d i e j n : Int} (h : (0 ≤ d ∧ d ≤ 7) ∧ (0 ≤ e ∧ e ≤ 7)) (h1 : kp d = 2 ∧ kp e = 2 ∧ so d = so e) (h3 : n < 0 ∨ i < 0 ∨ j < 0 ∨ sz d - i < n ∨ sz e - j < n) : sp_copy kp so sz el d i e j n = (-13, el) := by unfold sp_copy; rw [if_neg (by omega), if_neg (by omega), if_neg (by omega), if_pos h3]
theorem sp_copy_ok {kp so sz el : Int → Int} {d i e j n : Int} (h : (0 ≤ d ∧ d ≤ 7) ∧ (0 ≤ e ∧ e ≤ 7)) (h1 : kp d = 2 ∧ kp e = 2 ∧ so d = so e) (h3 : ¬ (n < 0 ∨ i < 0 ∨ j < 0 ∨ sz d - i < n ∨ sz e - j < n)) : sp_copy kp so sz el d i e j n = (n, sp_cpy el (100 * d + i) (100 * e + j) n) := by unfold sp_copy; rw [if_neg (by omega), if_neg (by omega), if_neg (by omega), if_neg h3]

theorem zX11_copy {s si sp : Int → Int} {f fi fp : Nat → Option Nat} {im : Int} {hd : Int → Int} {kn : Nat → Option Nat} {wd ak ke cv vo so sz el : Int → Int} {A B : mp_H} {kk kf : Int → Int} {d : Int} {i : Int} {e : Int} {j : Int} {y : Int} (hA : A.length = 1) (hsh : ∀ d, 0 ≤ d → d ≤ 7 → mp_shf hd kk kf so sz d) (h_d : mp_w d) (h_i : mp_w i) (h_e : mp_w e) (h_j : mp_w j) (h_y : mp_w y) : mp_Call (mX11_copy, 1, 0, 0) [Value.ref 1, mp_i d, mp_i i, mp_i e, mp_i j, mp_i y] (A ++ (mp_cs s si sp f fi fp im hd kn wd ak ke cv vo so sz el ++ B)) (some (mp_i ((sp_copy hd so sz el d i e j y).1)), A ++ (mp_cs s si sp f fi fp im hd kn wd ak ke cv vo so sz ((sp_copy hd so sz el d i e j y).2) ++ B)) := by
  refine mp_Call.of (L := [some (Value.ref 1), some (mp_i d), some (mp_i i), some (mp_i e), some (mp_i j), some (mp_i y), none, none]) pnX11 (Nat.le_of_ble_eq_true rfl) rfl ?_
  refine mp_iload_n dX11_copy_0 rfl ?_
  refine mp_bipush dX11_copy_1 rfl ?_
  refine mp_invS (z := (mX11_isBelow, 0, 0, 0)) (K' := (0, 0)) (σ1 := A ++ (mp_cs s si sp f fi fp im hd kn wd ak ke cv vo so sz el ++ B)) (as := [mp_i d, mp_i 8]) (st := []) (st1 := [mp_i (if 0 ≤ d ∧ d < 8 then 1 else 0)]) dX11_copy_3 ssX11_54 (zX11_isBelow (v := d) (n := 8) (by first | with_reducible assumption | omega) (by first | with_reducible assumption | omega)) ⟨Nat.le_of_ble_eq_true rfl, Nat.le_of_ble_eq_true rfl, Nat.le_of_ble_eq_true rfl, Nat.le_of_ble_eq_true rfl, Nat.le_of_ble_eq_true rfl⟩ rfl rfl rfl rfl ?_
  refine mp_ifb_eq (tgt := 18) dX11_copy_6 rfl (fun h1 => ?_) (fun h1 => ?_)
  · refine mp_iconst dX11_copy_18 ?_
    exact mp_ireturn (st := []) dX11_copy_19 rfl ⟨by decide, by decide⟩ ((by rw [sp_copy_bad (by omega)]))
  · refine mp_iload_n dX11_copy_9 rfl ?_
    refine mp_bipush dX11_copy_10 rfl ?_
    refine mp_invS (z := (mX11_isBelow, 0, 0, 0)) (K' := (0, 0)) (σ1 := A ++ (mp_cs s si sp f fi fp im hd kn wd ak ke cv vo so sz el ++ B)) (as := [mp_i e, mp_i 8]) (st := []) (st1 := [mp_i (if 0 ≤ e ∧ e < 8 then 1 else 0)]) dX11_copy_12 ssX11_54 (zX11_isBelow (v := e) (n := 8) (by first | with_reducible assumption | omega) (by first | with_reducible assumption | omega)) ⟨Nat.le_of_ble_eq_true rfl, Nat.le_of_ble_eq_true rfl, Nat.le_of_ble_eq_true rfl, Nat.le_of_ble_eq_true rfl, Nat.le_of_ble_eq_true rfl⟩ rfl rfl rfl rfl ?_
    refine mp_ifb_ne (tgt := 20) dX11_copy_15 rfl (fun h2 => ?_) (fun h2 => ?_)
    · refine mp_aload_n dX11_copy_20 rfl ?_
      refine mp_getfield dX11_copy_21 fsX11_22_10 (mp_lkP hA 0 rfl) rfl ?_
      refine mp_iload_n dX11_copy_24 rfl ?_
      refine mp_iald dX11_copy_25 (mp_lkP hA 19 rfl) ⟨by omega, by omega⟩ (by omega) ?_
      have b3 := hsh d (by omega) (by omega)
      have b4 := hsh d
      refine mp_if_eq (tgt := 38) dX11_copy_26 rfl ⟨by omega, by omega⟩ (fun h5 => ?_) (fun h5 => ?_)
      · refine mp_bipush dX11_copy_38 rfl ?_
        exact mp_ireturn (st := []) dX11_copy_40 rfl ⟨by decide, by decide⟩ ((by rw [sp_copy_no (by omega) (by omega)]))
      · refine mp_aload_n dX11_copy_29 rfl ?_
        refine mp_getfield dX11_copy_30 fsX11_22_10 (mp_lkP hA 0 rfl) rfl ?_
        refine mp_iload_n dX11_copy_33 rfl ?_
        refine mp_iald dX11_copy_34 (mp_lkP hA 19 rfl) ⟨by omega, by omega⟩ (by omega) ?_
        have b6 := hsh e (by omega) (by omega)
        have b7 := hsh e
        refine mp_if_ne (tgt := 41) dX11_copy_35 rfl ⟨by omega, by omega⟩ (fun h8 => ?_) (fun h8 => ?_)
        · refine mp_aload_n dX11_copy_41 rfl ?_
          refine mp_iload_n dX11_copy_42 rfl ?_
          have hsh9 := hsh d (by omega) (by omega)
          by_cases hr9 : hd d = 2
          · refine mp_invV (z := (mX11_rowOn, 0, 0, 0)) (K' := (0, 0)) (σ1 := A ++ (mp_cs s si sp f fi fp im hd kn wd ak ke cv vo so sz el ++ B)) (as := [mp_i d]) (st := []) (st1 := [Value.ref (28 + 2 * Int.toNat d)]) dX11_copy_43 svX11_58 (mp_lkP hA 0 rfl) rfl rfl (zX11_rowOn (d := d) (s := s) (si := si) (sp := sp) (f := f) (fi := fi) (fp := fp) (im := im) (hd := hd) (kn := kn) (wd := wd) (ak := ak) (ke := ke) (cv := cv) (vo := vo) (so := so) (sz := sz) (el := el) (B := B) (kk := kk) (kf := kf) (by first | with_reducible assumption | omega) (by first | with_reducible assumption | omega) (by first | with_reducible assumption | omega) (by first | with_reducible assumption | omega)) ⟨Nat.le_of_ble_eq_true rfl, Nat.le_of_ble_eq_true rfl, Nat.le_of_ble_eq_true rfl, Nat.le_of_ble_eq_true rfl, Nat.le_of_ble_eq_true rfl⟩ rfl rfl rfl rfl ?_
            refine mp_astore (L' := [some (Value.ref 1), some (mp_i d), some (mp_i i), some (mp_i e), some (mp_i j), some (mp_i y), some (Value.ref (28 + 2 * Int.toNat d)), none]) dX11_copy_46 (by decide) rfl ?_
            refine mp_aload_n dX11_copy_48 rfl ?_
            refine mp_iload_n dX11_copy_49 rfl ?_
            have hsh10 := hsh e (by omega) (by omega)
            by_cases hr9 : hd e = 2
            · refine mp_invV (z := (mX11_rowOn, 0, 0, 0)) (K' := (0, 0)) (σ1 := A ++ (mp_cs s si sp f fi fp im hd kn wd ak ke cv vo so sz el ++ B)) (as := [mp_i e]) (st := []) (st1 := [Value.ref (28 + 2 * Int.toNat e)]) dX11_copy_50 svX11_58 (mp_lkP hA 0 rfl) rfl rfl (zX11_rowOn (d := e) (s := s) (si := si) (sp := sp) (f := f) (fi := fi) (fp := fp) (im := im) (hd := hd) (kn := kn) (wd := wd) (ak := ak) (ke := ke) (cv := cv) (vo := vo) (so := so) (sz := sz) (el := el) (B := B) (kk := kk) (kf := kf) (by first | with_reducible assumption | omega) (by first | with_reducible assumption | omega) (by first | with_reducible assumption | omega) (by first | with_reducible assumption | omega)) ⟨Nat.le_of_ble_eq_true rfl, Nat.le_of_ble_eq_true rfl, Nat.le_of_ble_eq_true rfl, Nat.le_of_ble_eq_true rfl, Nat.le_of_ble_eq_true rfl⟩ rfl rfl rfl rfl ?_
              refine mp_astore (L' := [some (Value.ref 1), some (mp_i d), some (mp_i i), some (mp_i e), some (mp_i j), some (mp_i y), some (Value.ref (28 + 2 * Int.toNat d)), some (Value.ref (28 + 2 * Int.toNat e))]) dX11_copy_53 (by decide) rfl ?_
              refine mp_aload dX11_copy_55 rfl ?_
              refine mp_ifnull_r dX11_copy_57 ?_
              refine mp_aload dX11_copy_60 rfl ?_
              refine mp_ifnull_r dX11_copy_62 ?_
              refine mp_aload dX11_copy_65 rfl ?_
              refine mp_getfield dX11_copy_67 fsX11_66_9 (mp_csR0 hA (d := d) ⟨by omega, by omega⟩) rfl ?_
              refine mp_aload dX11_copy_70 rfl ?_
              refine mp_getfield dX11_copy_72 fsX11_66_9 (mp_csR0 hA (d := e) ⟨by omega, by omega⟩) rfl ?_
              refine mp_icmp_eq (tgt := 81) dX11_copy_75 rfl ⟨by omega, by omega⟩ ⟨by omega, by omega⟩ (fun h11 => ?_) (fun h11 => ?_)
              · refine mp_aload dX11_copy_81 rfl ?_
                refine mp_iload_n dX11_copy_83 rfl ?_
                refine mp_iload dX11_copy_84 rfl ?_
                refine mp_invV (z := (mX5_hasPart, 0, 0, 0)) (K' := (0, 0)) (σ1 := A ++ (mp_cs s si sp f fi fp im hd kn wd ak ke cv vo so sz el ++ B)) (as := [mp_i i, mp_i y]) (st := []) (st1 := [mp_i (if 0 ≤ i ∧ 0 ≤ y ∧ y ≤ (sz d) ∧ i ≤ (sz d) - y then 1 else 0)]) dX11_copy_86 svX11_342 (mp_csR0 hA (d := d) ⟨by omega, by omega⟩) rfl rfl (zX5_hasPart (r := (28 + 2 * Int.toNat d)) (i := i) (n := y) (q := (28 + 2 * Int.toNat d + 1)) (o := (so d)) (z := (sz d)) (mp_csR0 hA (d := d) ⟨by omega, by omega⟩) (by first | with_reducible assumption | omega) (by first | with_reducible assumption | omega) (by first | with_reducible assumption | omega)) ⟨Nat.le_of_ble_eq_true rfl, Nat.le_of_ble_eq_true rfl, Nat.le_of_ble_eq_true rfl, Nat.le_of_ble_eq_true rfl, Nat.le_of_ble_eq_true rfl⟩ rfl rfl rfl rfl ?_
                refine mp_ifb_eq (tgt := 104) dX11_copy_89 rfl (fun h12 => ?_) (fun h12 => ?_)
                · refine mp_bipush dX11_copy_104 rfl ?_
                  exact mp_ireturn (st := []) dX11_copy_106 rfl ⟨by decide, by decide⟩ ((by rw [sp_copy_13 (by omega) (by omega) (by omega)]))
                · refine mp_aload dX11_copy_92 rfl ?_
                  refine mp_iload dX11_copy_94 rfl ?_
                  refine mp_iload dX11_copy_96 rfl ?_
                  refine mp_invV (z := (mX5_hasPart, 0, 0, 0)) (K' := (0, 0)) (σ1 := A ++ (mp_cs s si sp f fi fp im hd kn wd ak ke cv vo so sz el ++ B)) (as := [mp_i j, mp_i y]) (st := []) (st1 := [mp_i (if 0 ≤ j ∧ 0 ≤ y ∧ y ≤ (sz e) ∧ j ≤ (sz e) - y then 1 else 0)]) dX11_copy_98 svX11_342 (mp_csR0 hA (d := e) ⟨by omega, by omega⟩) rfl rfl (zX5_hasPart (r := (28 + 2 * Int.toNat e)) (i := j) (n := y) (q := (28 + 2 * Int.toNat e + 1)) (o := (so e)) (z := (sz e)) (mp_csR0 hA (d := e) ⟨by omega, by omega⟩) (by first | with_reducible assumption | omega) (by first | with_reducible assumption | omega) (by first | with_reducible assumption | omega)) ⟨Nat.le_of_ble_eq_true rfl, Nat.le_of_ble_eq_true rfl, Nat.le_of_ble_eq_true rfl, Nat.le_of_ble_eq_true rfl, Nat.le_of_ble_eq_true rfl⟩ rfl rfl rfl rfl ?_
                  refine mp_ifb_ne (tgt := 107) dX11_copy_101 rfl (fun h13 => ?_) (fun h13 => ?_)
                  · refine mp_aload dX11_copy_107 rfl ?_
                    refine mp_getfield dX11_copy_109 fsX11_345_9 (mp_csR0 hA (d := d) ⟨by omega, by omega⟩) rfl ?_
                    refine mp_iload_n dX11_copy_112 rfl ?_
                    refine mp_aload dX11_copy_113 rfl ?_
                    refine mp_getfield dX11_copy_115 fsX11_345_9 (mp_csR0 hA (d := e) ⟨by omega, by omega⟩) rfl ?_
                    refine mp_iload dX11_copy_118 rfl ?_
                    refine mp_iload dX11_copy_120 rfl ?_
                    refine mp_arraycopy (σ' := A ++ (mp_cs s si sp f fi fp im hd kn wd ak ke cv vo so sz (sp_cpy el (100 * d + i) (100 * e + j) y) ++ B)) dX11_copy_122 rfl (mp_csR1 hA (d := d) ⟨by omega, by omega⟩) (mp_csR1 hA (d := e) ⟨by omega, by omega⟩) (by omega) ⟨by omega, by omega⟩ ⟨by omega, by omega⟩ (by omega) ⟨by decide, by decide⟩ (by decide) (mp_csCpy (d := d) (i := i) (e := e) (j := j) (n := y) hA ⟨by omega, by omega⟩ ⟨by omega, by omega⟩ ⟨by omega, by omega⟩ (by omega)) ?_
                    refine mp_iload dX11_copy_125 rfl ?_
                    exact mp_ireturn (st := []) dX11_copy_127 rfl ⟨by decide, by decide⟩ ((by rw [sp_copy_ok (by omega) (by omega) (by omega)]))
                  · refine mp_bipush dX11_copy_104 rfl ?_
                    exact mp_ireturn (st := []) dX11_copy_106 rfl ⟨by decide, by decide⟩ ((by rw [sp_copy_13 (by omega) (by omega) (by omega)]))
              · refine mp_bipush dX11_copy_78 rfl ?_
                exact mp_ireturn (st := []) dX11_copy_80 rfl ⟨by decide, by decide⟩ ((by rw [sp_copy_12 (by omega) (by omega) (by omega)]))
            · refine mp_invV (z := (mX11_rowOn, 0, 0, 0)) (K' := (0, 0)) (σ1 := A ++ (mp_cs s si sp f fi fp im hd kn wd ak ke cv vo so sz el ++ B)) (as := [mp_i e]) (st := []) (st1 := [Value.null]) dX11_copy_50 svX11_58 (mp_lkP hA 0 rfl) rfl rfl (zX11_rowOnN (d := e) (s := s) (si := si) (sp := sp) (f := f) (fi := fi) (fp := fp) (im := im) (hd := hd) (kn := kn) (wd := wd) (ak := ak) (ke := ke) (cv := cv) (vo := vo) (so := so) (sz := sz) (el := el) (B := B) (kk := kk) (kf := kf) (by first | with_reducible assumption | omega) (by first | with_reducible assumption | omega) (by first | with_reducible assumption | omega) (by first | with_reducible assumption | omega)) ⟨Nat.le_of_ble_eq_true rfl, Nat.le_of_ble_eq_true rfl, Nat.le_of_ble_eq_true rfl, Nat.le_of_ble_eq_true rfl, Nat.le_of_ble_eq_true rfl⟩ rfl rfl rfl rfl ?_
              refine mp_astoreN (L' := [some (Value.ref 1), some (mp_i d), some (mp_i i), some (mp_i e), some (mp_i j), some (mp_i y), some (Value.ref (28 + 2 * Int.toNat d)), some (Value.null)]) dX11_copy_53 (by decide) rfl ?_
              refine mp_aload dX11_copy_55 rfl ?_
              refine mp_ifnull_r dX11_copy_57 ?_
              refine mp_aloadN dX11_copy_60 rfl ?_
              refine mp_ifnull_n (tgt := 78) dX11_copy_62 rfl ?_
              refine mp_bipush dX11_copy_78 rfl ?_
              exact mp_ireturn (st := []) dX11_copy_80 rfl ⟨by decide, by decide⟩ ((by rw [sp_copy_12 (by omega) (by omega) (by omega)]))
          · refine mp_invV (z := (mX11_rowOn, 0, 0, 0)) (K' := (0, 0)) (σ1 := A ++ (mp_cs s si sp f fi fp im hd kn wd ak ke cv vo so sz el ++ B)) (as := [mp_i d]) (st := []) (st1 := [Value.null]) dX11_copy_43 svX11_58 (mp_lkP hA 0 rfl) rfl rfl (zX11_rowOnN (d := d) (s := s) (si := si) (sp := sp) (f := f) (fi := fi) (fp := fp) (im := im) (hd := hd) (kn := kn) (wd := wd) (ak := ak) (ke := ke) (cv := cv) (vo := vo) (so := so) (sz := sz) (el := el) (B := B) (kk := kk) (kf := kf) (by first | with_reducible assumption | omega) (by first | with_reducible assumption | omega) (by first | with_reducible assumption | omega) (by first | with_reducible assumption | omega)) ⟨Nat.le_of_ble_eq_true rfl, Nat.le_of_ble_eq_true rfl, Nat.le_of_ble_eq_true rfl, Nat.le_of_ble_eq_true rfl, Nat.le_of_ble_eq_true rfl⟩ rfl rfl rfl rfl ?_
            refine mp_astoreN (L' := [some (Value.ref 1), some (mp_i d), some (mp_i i), some (mp_i e), some (mp_i j), some (mp_i y), some (Value.null), none]) dX11_copy_46 (by decide) rfl ?_
            refine mp_aload_n dX11_copy_48 rfl ?_
            refine mp_iload_n dX11_copy_49 rfl ?_
            have hsh14 := hsh e (by omega) (by omega)
            by_cases hr9 : hd e = 2
            · refine mp_invV (z := (mX11_rowOn, 0, 0, 0)) (K' := (0, 0)) (σ1 := A ++ (mp_cs s si sp f fi fp im hd kn wd ak ke cv vo so sz el ++ B)) (as := [mp_i e]) (st := []) (st1 := [Value.ref (28 + 2 * Int.toNat e)]) dX11_copy_50 svX11_58 (mp_lkP hA 0 rfl) rfl rfl (zX11_rowOn (d := e) (s := s) (si := si) (sp := sp) (f := f) (fi := fi) (fp := fp) (im := im) (hd := hd) (kn := kn) (wd := wd) (ak := ak) (ke := ke) (cv := cv) (vo := vo) (so := so) (sz := sz) (el := el) (B := B) (kk := kk) (kf := kf) (by first | with_reducible assumption | omega) (by first | with_reducible assumption | omega) (by first | with_reducible assumption | omega) (by first | with_reducible assumption | omega)) ⟨Nat.le_of_ble_eq_true rfl, Nat.le_of_ble_eq_true rfl, Nat.le_of_ble_eq_true rfl, Nat.le_of_ble_eq_true rfl, Nat.le_of_ble_eq_true rfl⟩ rfl rfl rfl rfl ?_
              refine mp_astore (L' := [some (Value.ref 1), some (mp_i d), some (mp_i i), some (mp_i e), some (mp_i j), some (mp_i y), some (Value.null), some (Value.ref (28 + 2 * Int.toNat e))]) dX11_copy_53 (by decide) rfl ?_
              refine mp_aloadN dX11_copy_55 rfl ?_
              refine mp_ifnull_n (tgt := 78) dX11_copy_57 rfl ?_
              refine mp_bipush dX11_copy_78 rfl ?_
              exact mp_ireturn (st := []) dX11_copy_80 rfl ⟨by decide, by decide⟩ ((by rw [sp_copy_12 (by omega) (by omega) (by omega)]))
            · refine mp_invV (z := (mX11_rowOn, 0, 0, 0)) (K' := (0, 0)) (σ1 := A ++ (mp_cs s si sp f fi fp im hd kn wd ak ke cv vo so sz el ++ B)) (as := [mp_i e]) (st := []) (st1 := [Value.null]) dX11_copy_50 svX11_58 (mp_lkP hA 0 rfl) rfl rfl (zX11_rowOnN (d := e) (s := s) (si := si) (sp := sp) (f := f) (fi := fi) (fp := fp) (im := im) (hd := hd) (kn := kn) (wd := wd) (ak := ak) (ke := ke) (cv := cv) (vo := vo) (so := so) (sz := sz) (el := el) (B := B) (kk := kk) (kf := kf) (by first | with_reducible assumption | omega) (by first | with_reducible assumption | omega) (by first | with_reducible assumption | omega) (by first | with_reducible assumption | omega)) ⟨Nat.le_of_ble_eq_true rfl, Nat.le_of_ble_eq_true rfl, Nat.le_of_ble_eq_true rfl, Nat.le_of_ble_eq_true rfl, Nat.le_of_ble_eq_true rfl⟩ rfl rfl rfl rfl ?_
              refine mp_astoreN (L' := [some (Value.ref 1), some (mp_i d), some (mp_i i), some (mp_i e), some (mp_i j), some (mp_i y), some (Value.null), some (Value.null)]) dX11_copy_53 (by decide) rfl ?_
              refine mp_aloadN dX11_copy_55 rfl ?_
              refine mp_ifnull_n (tgt := 78) dX11_copy_57 rfl ?_
              refine mp_bipush dX11_copy_78 rfl ?_
              exact mp_ireturn (st := []) dX11_copy_80 rfl ⟨by decide, by decide⟩ ((by rw [sp_copy_12 (by omega) (by omega) (by omega)]))
        · refine mp_bipush dX11_copy_38 rfl ?_
          exact mp_ireturn (st := []) dX11_copy_40 rfl ⟨by decide, by decide⟩ ((by rw [sp_copy_no (by omega) (by omega)]))
    · refine mp_iconst dX11_copy_18 ?_
      exact mp_ireturn (st := []) dX11_copy_19 rfl ⟨by decide, by decide⟩ ((by rw [sp_copy_bad (by omega)]))
