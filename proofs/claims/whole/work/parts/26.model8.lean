theorem lX12_copy_122 {s m img was num pro ask kp kk kf so sz el : Int → Int} {im pl ra re rm rf sd th : Int} {A B : mp_H}  {d : Int} {i : Int} {e : Int} {j : Int} {z : Int} (hA : A.length = 44) (hh : ∀ d, 0 ≤ d → d ≤ 7 → mp_shf kp kk kf so sz d) (h_d : mp_w d) (h_i : mp_w i) (h_e : mp_w e) (h_j : mp_w j) (h_z : mp_w z) {R9 : mp_An} : ∀ (n : Nat) (t : Int) (q : Int → Int), ((0 ≤ t ∧ t + (n : Nat) = z) ∧ ((0 ≤ d ∧ d ≤ 7) ∧ (0 ≤ e ∧ e ≤ 7) ∧ (0 ≤ i ∧ 0 ≤ j) ∧ (z ≤ 100 - i ∧ z ≤ 100 - j)) ∧ ((j < i ∧ ∀ x, q x = if (100 * e) + j ≤ x ∧ x < (100 * e) + j + t then el ((100 * d) + i + (x - ((100 * e) + j))) else el x) ∨ (¬ j < i ∧ ∀ x, q x = if (100 * e) + j + (z - t) ≤ x ∧ x < (100 * e) + j + z then el ((100 * d) + i + (x - ((100 * e) + j))) else el x))) → R9 = (some (mp_i z), A ++ (mp_ms s m img was num pro ask kp kk kf so sz (sp_cpy el ((100 * d) + i) ((100 * e) + j) z) im pl ra re rm rf sd th ++ B)) → mp_At (mX12_copy, 2, 0, 0) (0, 0) 122 [some (Value.ref 44), some (mp_i d), some (mp_i i), some (mp_i e), some (mp_i j), some (mp_i z), some (mp_i t), none] [] (A ++ (mp_ms s m img was num pro ask kp kk kf so sz q im pl ra re rm rf sd th ++ B)) R9 := by
  intro n
  induction n with
  | zero =>
    intro t q hi hR
    refine mp_iload dX12_copy_122 rfl ?_
    refine mp_iload dX12_copy_124 rfl ?_
    refine mp_icmp_ge (tgt := 184) dX12_copy_126 rfl ⟨by omega, by omega⟩ ⟨by omega, by omega⟩ (fun h1 => ?_) (fun h1 => ?_)
    · have e9 : q = sp_cpy el ((100 * d) + i) ((100 * e) + j) z := by
        funext x
        obtain rfl : t = z := by omega
        rcases hi.2.2 with h | h
        · exact h.2 x
        · rw [h.2 x]; unfold sp_cpy; by_cases c : (100 * e) + j ≤ x ∧ x < (100 * e) + j + t
          · rw [if_pos c, if_pos ⟨by omega, by omega⟩]
          · rw [if_neg c, if_neg (by omega)]
      subst e9
      refine mp_iload dX12_copy_184 rfl ?_
      exact mp_ireturn (st := []) dX12_copy_186 rfl ⟨by decide, by decide⟩ (hR.trans (rfl))
    · exfalso; omega
  | succ n ih =>
    intro t q hi hR
    refine mp_iload dX12_copy_122 rfl ?_
    refine mp_iload dX12_copy_124 rfl ?_
    refine mp_icmp_ge (tgt := 184) dX12_copy_126 rfl ⟨by omega, by omega⟩ ⟨by omega, by omega⟩ (fun h1 => ?_) (fun h1 => ?_)
    · exfalso; omega
    · refine mp_iload_n dX12_copy_129 rfl ?_
      refine mp_iload dX12_copy_130 rfl ?_
      refine mp_icmp_le (tgt := 140) dX12_copy_132 rfl ⟨by omega, by omega⟩ ⟨by omega, by omega⟩ (fun h2 => ?_) (fun h2 => ?_)
      · refine mp_iload dX12_copy_140 rfl ?_
        refine mp_iconst dX12_copy_142 ?_
        refine mp_isub (z := z - 1) dX12_copy_143 (by first | rfl | omega) ?_
        refine mp_iload dX12_copy_144 rfl ?_
        refine mp_isub (z := (z - 1) - t) dX12_copy_146 (by first | rfl | omega) ?_
        refine mp_istore (L' := [some (Value.ref 44), some (mp_i d), some (mp_i i), some (mp_i e), some (mp_i j), some (mp_i z), some (mp_i t), some (mp_i ((z - 1) - t))]) dX12_copy_147 (by decide) rfl ?_
        refine mp_aload_n dX12_copy_149 rfl ?_
        refine mp_getfield dX12_copy_150 fsX12_46_11 (mp_lk hA 0 rfl) rfl ?_
        refine mp_bipush dX12_copy_153 rfl ?_
        refine mp_iload_n dX12_copy_155 rfl ?_
        refine mp_imul (z := 100 * e) dX12_copy_156 (by first | rfl | omega) ?_
        refine mp_iload dX12_copy_157 rfl ?_
        refine mp_iadd (z := (100 * e) + j) dX12_copy_159 (by first | rfl | omega) ?_
        refine mp_iload dX12_copy_160 rfl ?_
        refine mp_iadd (z := ((100 * e) + j) + ((z - 1) - t)) dX12_copy_162 (by first | rfl | omega) ?_
        refine mp_aload_n dX12_copy_163 rfl ?_
        refine mp_getfield dX12_copy_164 fsX12_46_11 (mp_lk hA 0 rfl) rfl ?_
        refine mp_bipush dX12_copy_167 rfl ?_
        refine mp_iload_n dX12_copy_169 rfl ?_
        refine mp_imul (z := 100 * d) dX12_copy_170 (by first | rfl | omega) ?_
        refine mp_iload_n dX12_copy_171 rfl ?_
        refine mp_iadd (z := (100 * d) + i) dX12_copy_172 (by first | rfl | omega) ?_
        refine mp_iload dX12_copy_173 rfl ?_
        refine mp_iadd (z := ((100 * d) + i) + ((z - 1) - t)) dX12_copy_175 (by first | rfl | omega) ?_
        refine mp_iald dX12_copy_176 (mp_lk hA 13 rfl) ⟨by omega, by omega⟩ (by omega) ?_
        refine mp_iast (σ' := A ++ (mp_ms s m img was num pro ask kp kk kf so sz (mp_ud q (((100 * e) + j) + ((z - 1) - t)) (q (((100 * d) + i) + ((z - 1) - t)))) im pl ra re rm rf sd th ++ B)) dX12_copy_177 (mp_lk hA 13 rfl) (by decide) ⟨by omega, by omega⟩ (by decide) (mp_sts (Ms' := mp_ms s m img was num pro ask kp kk kf so sz (mp_ud q (((100 * e) + j) + ((z - 1) - t)) (q (((100 * d) + i) + ((z - 1) - t)))) im pl ra re rm rf sd th) hA 13 (Nat.le_of_ble_eq_true rfl) rfl) ?_
        refine mp_iinc (z := t + 1) (L' := [some (Value.ref 44), some (mp_i d), some (mp_i i), some (mp_i e), some (mp_i j), some (mp_i z), some (mp_i (t + 1)), some (mp_i ((z - 1) - t))]) dX12_copy_178 rfl (rfl) (by decide) rfl ?_
        refine mp_goto (tgt := 122) dX12_copy_181 rfl ?_
        refine mp_drop (L' := [some (Value.ref 44), some (mp_i d), some (mp_i i), some (mp_i e), some (mp_i j), some (mp_i z), some (mp_i (t + 1)), none]) [true, true, true, true, true, true, true, false] rfl ?_
        refine ih (t + 1) _ ⟨by omega, hi.2.1, Or.inr ⟨by omega, mp_cpy_dn ⟨by omega, by omega⟩ rfl (hi.2.2.elim (fun h => absurd h.1 (by omega)) (fun h => h.2)) (by omega)⟩⟩ hR
      · refine mp_iload dX12_copy_135 rfl ?_
        refine mp_goto (tgt := 147) dX12_copy_137 rfl ?_
        refine mp_istore (L' := [some (Value.ref 44), some (mp_i d), some (mp_i i), some (mp_i e), some (mp_i j), some (mp_i z), some (mp_i t), some (mp_i t)]) dX12_copy_147 (by decide) rfl ?_
        refine mp_aload_n dX12_copy_149 rfl ?_
        refine mp_getfield dX12_copy_150 fsX12_46_11 (mp_lk hA 0 rfl) rfl ?_
        refine mp_bipush dX12_copy_153 rfl ?_
        refine mp_iload_n dX12_copy_155 rfl ?_
        refine mp_imul (z := 100 * e) dX12_copy_156 (by first | rfl | omega) ?_
        refine mp_iload dX12_copy_157 rfl ?_
        refine mp_iadd (z := (100 * e) + j) dX12_copy_159 (by first | rfl | omega) ?_
        refine mp_iload dX12_copy_160 rfl ?_
        refine mp_iadd (z := ((100 * e) + j) + t) dX12_copy_162 (by first | rfl | omega) ?_
        refine mp_aload_n dX12_copy_163 rfl ?_
        refine mp_getfield dX12_copy_164 fsX12_46_11 (mp_lk hA 0 rfl) rfl ?_
        refine mp_bipush dX12_copy_167 rfl ?_
        refine mp_iload_n dX12_copy_169 rfl ?_
        refine mp_imul (z := 100 * d) dX12_copy_170 (by first | rfl | omega) ?_
        refine mp_iload_n dX12_copy_171 rfl ?_
        refine mp_iadd (z := (100 * d) + i) dX12_copy_172 (by first | rfl | omega) ?_
        refine mp_iload dX12_copy_173 rfl ?_
        refine mp_iadd (z := ((100 * d) + i) + t) dX12_copy_175 (by first | rfl | omega) ?_
        refine mp_iald dX12_copy_176 (mp_lk hA 13 rfl) ⟨by omega, by omega⟩ (by omega) ?_
        refine mp_iast (σ' := A ++ (mp_ms s m img was num pro ask kp kk kf so sz (mp_ud q (((100 * e) + j) + t) (q (((100 * d) + i) + t))) im pl ra re rm rf sd th ++ B)) dX12_copy_177 (mp_lk hA 13 rfl) (by decide) ⟨by omega, by omega⟩ (by decide) (mp_sts (Ms' := mp_ms s m img was num pro ask kp kk kf so sz (mp_ud q (((100 * e) + j) + t) (q (((100 * d) + i) + t))) im pl ra re rm rf sd th) hA 13 (Nat.le_of_ble_eq_true rfl) rfl) ?_
        refine mp_iinc (z := t + 1) (L' := [some (Value.ref 44), some (mp_i d), some (mp_i i), some (mp_i e), some (mp_i j), some (mp_i z), some (mp_i (t + 1)), some (mp_i t)]) dX12_copy_178 rfl (rfl) (by decide) rfl ?_
        refine mp_goto (tgt := 122) dX12_copy_181 rfl ?_
        refine mp_drop (L' := [some (Value.ref 44), some (mp_i d), some (mp_i i), some (mp_i e), some (mp_i j), some (mp_i z), some (mp_i (t + 1)), none]) [true, true, true, true, true, true, true, false] rfl ?_
        refine ih (t + 1) _ ⟨by omega, hi.2.1, Or.inl ⟨by omega, mp_cpy_up (by omega) (hi.2.2.elim (fun h => h.2) (fun h => absurd h.1 (by omega))) (by omega)⟩⟩ hR
theorem zX12_copy {s m img was num pro ask kp kk kf so sz el : Int → Int} {im pl ra re rm rf sd th : Int} {A B : mp_H}  {d : Int} {i : Int} {e : Int} {j : Int} {z : Int} (hA : A.length = 44) (hh : ∀ d, 0 ≤ d → d ≤ 7 → mp_shf kp kk kf so sz d) (h_d : mp_w d) (h_i : mp_w i) (h_e : mp_w e) (h_j : mp_w j) (h_z : mp_w z) : mp_Call (mX12_copy, 2, 0, 0) [Value.ref 44, mp_i d, mp_i i, mp_i e, mp_i j, mp_i z] (A ++ (mp_ms s m img was num pro ask kp kk kf so sz el im pl ra re rm rf sd th ++ B)) (some (mp_i ((sp_copy kp so sz el d i e j z).1)), A ++ (mp_ms s m img was num pro ask kp kk kf so sz ((sp_copy kp so sz el d i e j z).2) im pl ra re rm rf sd th ++ B)) := by
  refine mp_Call.of (L := [some (Value.ref 44), some (mp_i d), some (mp_i i), some (mp_i e), some (mp_i j), some (mp_i z), none, none]) pnX12 (Nat.le_of_ble_eq_true rfl) rfl ?_
  refine mp_iload_n dX12_copy_0 rfl ?_
  refine mp_invS (z := (mX12_isShelf, 1, 0, 0)) (K' := (0, 0)) (σ1 := A ++ (mp_ms s m img was num pro ask kp kk kf so sz el im pl ra re rm rf sd th ++ B)) (as := [mp_i d]) (st := []) (st1 := [mp_i (if 0 ≤ d ∧ d ≤ 7 then 1 else 0)]) dX12_copy_1 ssX12_246 (zX12_isShelf (d := d)  (by first | with_reducible assumption | omega)) ⟨Nat.le_of_ble_eq_true rfl, Nat.le_of_ble_eq_true rfl, Nat.le_of_ble_eq_true rfl, Nat.le_of_ble_eq_true rfl, Nat.le_of_ble_eq_true rfl⟩ rfl rfl rfl rfl ?_
  refine mp_ifb_eq (tgt := 14) dX12_copy_4 rfl (fun h1 => ?_) (fun h1 => ?_)
  · refine mp_iconst dX12_copy_14 ?_
    exact mp_ireturn (st := []) dX12_copy_15 rfl ⟨by decide, by decide⟩ ((by rw [show sp_copy kp so sz el d i e j z = (-1, el) from by unfold sp_copy; first | (rw [if_pos (by omega)]; done) | (rw [if_neg (by omega)]; done) | (rw [if_neg (by omega), if_pos (by omega)]; done) | (rw [if_neg (by omega), if_neg (by omega)]; done) | (rw [if_neg (by omega), if_neg (by omega), if_pos (by omega)]; done) | (rw [if_neg (by omega), if_neg (by omega), if_neg (by omega)]; done) | (rw [if_neg (by omega), if_neg (by omega), if_neg (by omega), if_pos (by omega)]; done) | (rw [if_neg (by omega), if_neg (by omega), if_neg (by omega), if_neg (by omega)]; done) | (rw [if_neg (by omega), if_neg (by omega), if_neg (by omega), if_neg (by omega), if_pos (by omega)]; done) | (rw [if_neg (by omega), if_neg (by omega), if_neg (by omega), if_neg (by omega), if_neg (by omega)]; done)]))
  · refine mp_iload_n dX12_copy_7 rfl ?_
    refine mp_invS (z := (mX12_isShelf, 1, 0, 0)) (K' := (0, 0)) (σ1 := A ++ (mp_ms s m img was num pro ask kp kk kf so sz el im pl ra re rm rf sd th ++ B)) (as := [mp_i e]) (st := []) (st1 := [mp_i (if 0 ≤ e ∧ e ≤ 7 then 1 else 0)]) dX12_copy_8 ssX12_246 (zX12_isShelf (d := e)  (by first | with_reducible assumption | omega)) ⟨Nat.le_of_ble_eq_true rfl, Nat.le_of_ble_eq_true rfl, Nat.le_of_ble_eq_true rfl, Nat.le_of_ble_eq_true rfl, Nat.le_of_ble_eq_true rfl⟩ rfl rfl rfl rfl ?_
    refine mp_ifb_ne (tgt := 16) dX12_copy_11 rfl (fun h2 => ?_) (fun h2 => ?_)
    · have hb := hh d (by omega) (by omega)
      have hb2 := hh e (by omega) (by omega)
      refine mp_aload_n dX12_copy_16 rfl ?_
      refine mp_getfield dX12_copy_17 fsX12_31_11 (mp_lk hA 0 rfl) rfl ?_
      refine mp_iload_n dX12_copy_20 rfl ?_
      refine mp_iald dX12_copy_21 (mp_lk hA 8 rfl) ⟨by omega, by omega⟩ (by omega) ?_
      refine mp_if_eq (tgt := 34) dX12_copy_22 rfl ⟨by omega, by omega⟩ (fun h3 => ?_) (fun h3 => ?_)
      · refine mp_bipush dX12_copy_34 rfl ?_
        exact mp_ireturn (st := []) dX12_copy_36 rfl ⟨by decide, by decide⟩ ((by rw [show sp_copy kp so sz el d i e j z = (-11, el) from by unfold sp_copy; first | (rw [if_pos (by omega)]; done) | (rw [if_neg (by omega)]; done) | (rw [if_neg (by omega), if_pos (by omega)]; done) | (rw [if_neg (by omega), if_neg (by omega)]; done) | (rw [if_neg (by omega), if_neg (by omega), if_pos (by omega)]; done) | (rw [if_neg (by omega), if_neg (by omega), if_neg (by omega)]; done) | (rw [if_neg (by omega), if_neg (by omega), if_neg (by omega), if_pos (by omega)]; done) | (rw [if_neg (by omega), if_neg (by omega), if_neg (by omega), if_neg (by omega)]; done) | (rw [if_neg (by omega), if_neg (by omega), if_neg (by omega), if_neg (by omega), if_pos (by omega)]; done) | (rw [if_neg (by omega), if_neg (by omega), if_neg (by omega), if_neg (by omega), if_neg (by omega)]; done)]))
      · refine mp_aload_n dX12_copy_25 rfl ?_
        refine mp_getfield dX12_copy_26 fsX12_31_11 (mp_lk hA 0 rfl) rfl ?_
        refine mp_iload_n dX12_copy_29 rfl ?_
        refine mp_iald dX12_copy_30 (mp_lk hA 8 rfl) ⟨by omega, by omega⟩ (by omega) ?_
        refine mp_if_ne (tgt := 37) dX12_copy_31 rfl ⟨by omega, by omega⟩ (fun h4 => ?_) (fun h4 => ?_)
        · refine mp_aload_n dX12_copy_37 rfl ?_
          refine mp_getfield dX12_copy_38 fsX12_31_11 (mp_lk hA 0 rfl) rfl ?_
          refine mp_iload_n dX12_copy_41 rfl ?_
          refine mp_iald dX12_copy_42 (mp_lk hA 8 rfl) ⟨by omega, by omega⟩ (by omega) ?_
          refine mp_iconst dX12_copy_43 ?_
          refine mp_icmp_ne (tgt := 72) dX12_copy_44 rfl ⟨by omega, by omega⟩ ⟨by omega, by omega⟩ (fun h5 => ?_) (fun h5 => ?_)
          · refine mp_bipush dX12_copy_72 rfl ?_
            exact mp_ireturn (st := []) dX12_copy_74 rfl ⟨by decide, by decide⟩ ((by rw [show sp_copy kp so sz el d i e j z = (-12, el) from by unfold sp_copy; first | (rw [if_pos (by omega)]; done) | (rw [if_neg (by omega)]; done) | (rw [if_neg (by omega), if_pos (by omega)]; done) | (rw [if_neg (by omega), if_neg (by omega)]; done) | (rw [if_neg (by omega), if_neg (by omega), if_pos (by omega)]; done) | (rw [if_neg (by omega), if_neg (by omega), if_neg (by omega)]; done) | (rw [if_neg (by omega), if_neg (by omega), if_neg (by omega), if_pos (by omega)]; done) | (rw [if_neg (by omega), if_neg (by omega), if_neg (by omega), if_neg (by omega)]; done) | (rw [if_neg (by omega), if_neg (by omega), if_neg (by omega), if_neg (by omega), if_pos (by omega)]; done) | (rw [if_neg (by omega), if_neg (by omega), if_neg (by omega), if_neg (by omega), if_neg (by omega)]; done)]))
          · refine mp_aload_n dX12_copy_47 rfl ?_
            refine mp_getfield dX12_copy_48 fsX12_31_11 (mp_lk hA 0 rfl) rfl ?_
            refine mp_iload_n dX12_copy_51 rfl ?_
            refine mp_iald dX12_copy_52 (mp_lk hA 8 rfl) ⟨by omega, by omega⟩ (by omega) ?_
            refine mp_iconst dX12_copy_53 ?_
            refine mp_icmp_ne (tgt := 72) dX12_copy_54 rfl ⟨by omega, by omega⟩ ⟨by omega, by omega⟩ (fun h6 => ?_) (fun h6 => ?_)
            · refine mp_bipush dX12_copy_72 rfl ?_
              exact mp_ireturn (st := []) dX12_copy_74 rfl ⟨by decide, by decide⟩ ((by rw [show sp_copy kp so sz el d i e j z = (-12, el) from by unfold sp_copy; first | (rw [if_pos (by omega)]; done) | (rw [if_neg (by omega)]; done) | (rw [if_neg (by omega), if_pos (by omega)]; done) | (rw [if_neg (by omega), if_neg (by omega)]; done) | (rw [if_neg (by omega), if_neg (by omega), if_pos (by omega)]; done) | (rw [if_neg (by omega), if_neg (by omega), if_neg (by omega)]; done) | (rw [if_neg (by omega), if_neg (by omega), if_neg (by omega), if_pos (by omega)]; done) | (rw [if_neg (by omega), if_neg (by omega), if_neg (by omega), if_neg (by omega)]; done) | (rw [if_neg (by omega), if_neg (by omega), if_neg (by omega), if_neg (by omega), if_pos (by omega)]; done) | (rw [if_neg (by omega), if_neg (by omega), if_neg (by omega), if_neg (by omega), if_neg (by omega)]; done)]))
            · refine mp_aload_n dX12_copy_57 rfl ?_
              refine mp_getfield dX12_copy_58 fsX12_40_11 (mp_lk hA 0 rfl) rfl ?_
              refine mp_iload_n dX12_copy_61 rfl ?_
              refine mp_iald dX12_copy_62 (mp_lk hA 11 rfl) ⟨by omega, by omega⟩ (by omega) ?_
              refine mp_aload_n dX12_copy_63 rfl ?_
              refine mp_getfield dX12_copy_64 fsX12_40_11 (mp_lk hA 0 rfl) rfl ?_
              refine mp_iload_n dX12_copy_67 rfl ?_
              refine mp_iald dX12_copy_68 (mp_lk hA 11 rfl) ⟨by omega, by omega⟩ (by omega) ?_
              refine mp_icmp_eq (tgt := 75) dX12_copy_69 rfl ⟨by omega, by omega⟩ ⟨by omega, by omega⟩ (fun h7 => ?_) (fun h7 => ?_)
              · refine mp_iload dX12_copy_75 rfl ?_
                refine mp_if_lt (tgt := 116) dX12_copy_77 rfl ⟨by omega, by omega⟩ (fun h8 => ?_) (fun h8 => ?_)
                · refine mp_bipush dX12_copy_116 rfl ?_
                  exact mp_ireturn (st := []) dX12_copy_118 rfl ⟨by decide, by decide⟩ ((by rw [show sp_copy kp so sz el d i e j z = (-13, el) from by unfold sp_copy; first | (rw [if_pos (by omega)]; done) | (rw [if_neg (by omega)]; done) | (rw [if_neg (by omega), if_pos (by omega)]; done) | (rw [if_neg (by omega), if_neg (by omega)]; done) | (rw [if_neg (by omega), if_neg (by omega), if_pos (by omega)]; done) | (rw [if_neg (by omega), if_neg (by omega), if_neg (by omega)]; done) | (rw [if_neg (by omega), if_neg (by omega), if_neg (by omega), if_pos (by omega)]; done) | (rw [if_neg (by omega), if_neg (by omega), if_neg (by omega), if_neg (by omega)]; done) | (rw [if_neg (by omega), if_neg (by omega), if_neg (by omega), if_neg (by omega), if_pos (by omega)]; done) | (rw [if_neg (by omega), if_neg (by omega), if_neg (by omega), if_neg (by omega), if_neg (by omega)]; done)]))
                · refine mp_iload_n dX12_copy_80 rfl ?_
                  refine mp_if_lt (tgt := 116) dX12_copy_81 rfl ⟨by omega, by omega⟩ (fun h9 => ?_) (fun h9 => ?_)
                  · refine mp_bipush dX12_copy_116 rfl ?_
                    exact mp_ireturn (st := []) dX12_copy_118 rfl ⟨by decide, by decide⟩ ((by rw [show sp_copy kp so sz el d i e j z = (-13, el) from by unfold sp_copy; first | (rw [if_pos (by omega)]; done) | (rw [if_neg (by omega)]; done) | (rw [if_neg (by omega), if_pos (by omega)]; done) | (rw [if_neg (by omega), if_neg (by omega)]; done) | (rw [if_neg (by omega), if_neg (by omega), if_pos (by omega)]; done) | (rw [if_neg (by omega), if_neg (by omega), if_neg (by omega)]; done) | (rw [if_neg (by omega), if_neg (by omega), if_neg (by omega), if_pos (by omega)]; done) | (rw [if_neg (by omega), if_neg (by omega), if_neg (by omega), if_neg (by omega)]; done) | (rw [if_neg (by omega), if_neg (by omega), if_neg (by omega), if_neg (by omega), if_pos (by omega)]; done) | (rw [if_neg (by omega), if_neg (by omega), if_neg (by omega), if_neg (by omega), if_neg (by omega)]; done)]))
                  · refine mp_iload dX12_copy_84 rfl ?_
                    refine mp_if_lt (tgt := 116) dX12_copy_86 rfl ⟨by omega, by omega⟩ (fun h10 => ?_) (fun h10 => ?_)
                    · refine mp_bipush dX12_copy_116 rfl ?_
                      exact mp_ireturn (st := []) dX12_copy_118 rfl ⟨by decide, by decide⟩ ((by rw [show sp_copy kp so sz el d i e j z = (-13, el) from by unfold sp_copy; first | (rw [if_pos (by omega)]; done) | (rw [if_neg (by omega)]; done) | (rw [if_neg (by omega), if_pos (by omega)]; done) | (rw [if_neg (by omega), if_neg (by omega)]; done) | (rw [if_neg (by omega), if_neg (by omega), if_pos (by omega)]; done) | (rw [if_neg (by omega), if_neg (by omega), if_neg (by omega)]; done) | (rw [if_neg (by omega), if_neg (by omega), if_neg (by omega), if_pos (by omega)]; done) | (rw [if_neg (by omega), if_neg (by omega), if_neg (by omega), if_neg (by omega)]; done) | (rw [if_neg (by omega), if_neg (by omega), if_neg (by omega), if_neg (by omega), if_pos (by omega)]; done) | (rw [if_neg (by omega), if_neg (by omega), if_neg (by omega), if_neg (by omega), if_neg (by omega)]; done)]))
                    · refine mp_iload dX12_copy_89 rfl ?_
                      refine mp_aload_n dX12_copy_91 rfl ?_
                      refine mp_getfield dX12_copy_92 fsX12_43_11 (mp_lk hA 0 rfl) rfl ?_
                      refine mp_iload_n dX12_copy_95 rfl ?_
                      refine mp_iald dX12_copy_96 (mp_lk hA 12 rfl) ⟨by omega, by omega⟩ (by omega) ?_
                      refine mp_iload_n dX12_copy_97 rfl ?_
                      refine mp_isub (z := (sz d) - i) dX12_copy_98 (by first | rfl | omega) ?_
                      refine mp_icmp_gt (tgt := 116) dX12_copy_99 rfl ⟨by omega, by omega⟩ ⟨by omega, by omega⟩ (fun h11 => ?_) (fun h11 => ?_)
                      · refine mp_bipush dX12_copy_116 rfl ?_
                        exact mp_ireturn (st := []) dX12_copy_118 rfl ⟨by decide, by decide⟩ ((by rw [show sp_copy kp so sz el d i e j z = (-13, el) from by unfold sp_copy; first | (rw [if_pos (by omega)]; done) | (rw [if_neg (by omega)]; done) | (rw [if_neg (by omega), if_pos (by omega)]; done) | (rw [if_neg (by omega), if_neg (by omega)]; done) | (rw [if_neg (by omega), if_neg (by omega), if_pos (by omega)]; done) | (rw [if_neg (by omega), if_neg (by omega), if_neg (by omega)]; done) | (rw [if_neg (by omega), if_neg (by omega), if_neg (by omega), if_pos (by omega)]; done) | (rw [if_neg (by omega), if_neg (by omega), if_neg (by omega), if_neg (by omega)]; done) | (rw [if_neg (by omega), if_neg (by omega), if_neg (by omega), if_neg (by omega), if_pos (by omega)]; done) | (rw [if_neg (by omega), if_neg (by omega), if_neg (by omega), if_neg (by omega), if_neg (by omega)]; done)]))
                      · refine mp_iload dX12_copy_102 rfl ?_
                        refine mp_aload_n dX12_copy_104 rfl ?_
                        refine mp_getfield dX12_copy_105 fsX12_43_11 (mp_lk hA 0 rfl) rfl ?_
                        refine mp_iload_n dX12_copy_108 rfl ?_
                        refine mp_iald dX12_copy_109 (mp_lk hA 12 rfl) ⟨by omega, by omega⟩ (by omega) ?_
                        refine mp_iload dX12_copy_110 rfl ?_
                        refine mp_isub (z := (sz e) - j) dX12_copy_112 (by first | rfl | omega) ?_
                        refine mp_icmp_le (tgt := 119) dX12_copy_113 rfl ⟨by omega, by omega⟩ ⟨by omega, by omega⟩ (fun h12 => ?_) (fun h12 => ?_)
                        · refine mp_iconst dX12_copy_119 ?_
                          refine mp_istore (L' := [some (Value.ref 44), some (mp_i d), some (mp_i i), some (mp_i e), some (mp_i j), some (mp_i z), some (mp_i 0), none]) dX12_copy_120 (by decide) rfl ?_
                          have hb := hh d (by omega) (by omega)
                          have hb2 := hh e (by omega) (by omega)
                          exact lX12_copy_122 (el := el) hA hh h_d h_i h_e h_j h_z z.toNat 0 el ⟨by omega, ⟨by omega, by omega, by omega, by omega⟩, (Decidable.em (j < i)).elim (fun c => Or.inl ⟨c, fun x => (if_neg (by omega)).symm⟩) (fun c => Or.inr ⟨c, fun x => (if_neg (by omega)).symm⟩)⟩ (by rw [show sp_copy kp so sz el d i e j z = (z, sp_cpy el ((100 * d) + i) ((100 * e) + j) z) from by unfold sp_copy; rw [if_neg (by omega), if_neg (by omega), if_neg (by omega), if_neg (by omega)]])
                        · refine mp_bipush dX12_copy_116 rfl ?_
                          exact mp_ireturn (st := []) dX12_copy_118 rfl ⟨by decide, by decide⟩ ((by rw [show sp_copy kp so sz el d i e j z = (-13, el) from by unfold sp_copy; first | (rw [if_pos (by omega)]; done) | (rw [if_neg (by omega)]; done) | (rw [if_neg (by omega), if_pos (by omega)]; done) | (rw [if_neg (by omega), if_neg (by omega)]; done) | (rw [if_neg (by omega), if_neg (by omega), if_pos (by omega)]; done) | (rw [if_neg (by omega), if_neg (by omega), if_neg (by omega)]; done) | (rw [if_neg (by omega), if_neg (by omega), if_neg (by omega), if_pos (by omega)]; done) | (rw [if_neg (by omega), if_neg (by omega), if_neg (by omega), if_neg (by omega)]; done) | (rw [if_neg (by omega), if_neg (by omega), if_neg (by omega), if_neg (by omega), if_pos (by omega)]; done) | (rw [if_neg (by omega), if_neg (by omega), if_neg (by omega), if_neg (by omega), if_neg (by omega)]; done)]))
              · refine mp_bipush dX12_copy_72 rfl ?_
                exact mp_ireturn (st := []) dX12_copy_74 rfl ⟨by decide, by decide⟩ ((by rw [show sp_copy kp so sz el d i e j z = (-12, el) from by unfold sp_copy; first | (rw [if_pos (by omega)]; done) | (rw [if_neg (by omega)]; done) | (rw [if_neg (by omega), if_pos (by omega)]; done) | (rw [if_neg (by omega), if_neg (by omega)]; done) | (rw [if_neg (by omega), if_neg (by omega), if_pos (by omega)]; done) | (rw [if_neg (by omega), if_neg (by omega), if_neg (by omega)]; done) | (rw [if_neg (by omega), if_neg (by omega), if_neg (by omega), if_pos (by omega)]; done) | (rw [if_neg (by omega), if_neg (by omega), if_neg (by omega), if_neg (by omega)]; done) | (rw [if_neg (by omega), if_neg (by omega), if_neg (by omega), if_neg (by omega), if_pos (by omega)]; done) | (rw [if_neg (by omega), if_neg (by omega), if_neg (by omega), if_neg (by omega), if_neg (by omega)]; done)]))
        · refine mp_bipush dX12_copy_34 rfl ?_
          exact mp_ireturn (st := []) dX12_copy_36 rfl ⟨by decide, by decide⟩ ((by rw [show sp_copy kp so sz el d i e j z = (-11, el) from by unfold sp_copy; first | (rw [if_pos (by omega)]; done) | (rw [if_neg (by omega)]; done) | (rw [if_neg (by omega), if_pos (by omega)]; done) | (rw [if_neg (by omega), if_neg (by omega)]; done) | (rw [if_neg (by omega), if_neg (by omega), if_pos (by omega)]; done) | (rw [if_neg (by omega), if_neg (by omega), if_neg (by omega)]; done) | (rw [if_neg (by omega), if_neg (by omega), if_neg (by omega), if_pos (by omega)]; done) | (rw [if_neg (by omega), if_neg (by omega), if_neg (by omega), if_neg (by omega)]; done) | (rw [if_neg (by omega), if_neg (by omega), if_neg (by omega), if_neg (by omega), if_pos (by omega)]; done) | (rw [if_neg (by omega), if_neg (by omega), if_neg (by omega), if_neg (by omega), if_neg (by omega)]; done)]))
    · refine mp_iconst dX12_copy_14 ?_
      exact mp_ireturn (st := []) dX12_copy_15 rfl ⟨by decide, by decide⟩ ((by rw [show sp_copy kp so sz el d i e j z = (-1, el) from by unfold sp_copy; first | (rw [if_pos (by omega)]; done) | (rw [if_neg (by omega)]; done) | (rw [if_neg (by omega), if_pos (by omega)]; done) | (rw [if_neg (by omega), if_neg (by omega)]; done) | (rw [if_neg (by omega), if_neg (by omega), if_pos (by omega)]; done) | (rw [if_neg (by omega), if_neg (by omega), if_neg (by omega)]; done) | (rw [if_neg (by omega), if_neg (by omega), if_neg (by omega), if_pos (by omega)]; done) | (rw [if_neg (by omega), if_neg (by omega), if_neg (by omega), if_neg (by omega)]; done) | (rw [if_neg (by omega), if_neg (by omega), if_neg (by omega), if_neg (by omega), if_pos (by omega)]; done) | (rw [if_neg (by omega), if_neg (by omega), if_neg (by omega), if_neg (by omega), if_neg (by omega)]; done)]))
theorem lX12_darkOnes_39 {s m img was num pro ask kp kk kf so sz el : Int → Int} {im pl ra re rm rf sd th : Int} {A B : mp_H}  {d : Int} {w : Int} (hA : A.length = 44) (hs : mp_sky s) (hh : ∀ d, 0 ≤ d → d ≤ 7 → mp_shf kp kk kf so sz d) (hel : ∀ x, mp_w (el x)) (h_d : mp_w d) (h_w : mp_w w) {R9 : mp_An} : ∀ (n : Nat) (t : Int), ((0 ≤ t ∧ t + (n : Nat) = sz d) ∧ (0 ≤ d ∧ d ≤ 7)) → mp_At (mX12_darkOnes, 3, 0, 0) (0, 0) 84 [some (Value.ref 44), some (mp_i d), some (mp_i w), some (mp_i (sp_dkN el d n t)), none, none, none, none, none] [] (A ++ (mp_ms s m img was num pro ask kp kk kf so sz el im pl ra re rm rf sd th ++ B)) R9 → mp_At (mX12_darkOnes, 3, 0, 0) (0, 0) 39 [some (Value.ref 44), some (mp_i d), some (mp_i w), some (mp_i 0), some (mp_i t), none, none, none, none] [] (A ++ (mp_ms s m img was num pro ask kp kk kf so sz el im pl ra re rm rf sd th ++ B)) R9 := by
  intro n
  induction n with
  | zero =>
    intro t hi hk
    have hb := hh d (by omega) (by omega)
    refine mp_iload_n dX12_darkOnes_39 rfl ?_
    refine mp_if_ne (tgt := 84) dX12_darkOnes_40 rfl ⟨by decide, by decide⟩ (fun h1 => absurd h1 (by decide)) (fun _ => ?_)
    refine mp_iload dX12_darkOnes_43 rfl ?_
    refine mp_aload_n dX12_darkOnes_45 rfl ?_
    refine mp_getfield dX12_darkOnes_46 fsX12_43_11 (mp_lk hA 0 rfl) rfl ?_
    refine mp_iload_n dX12_darkOnes_49 rfl ?_
    refine mp_iald dX12_darkOnes_50 (mp_lk hA 12 rfl) ⟨by omega, by omega⟩ (by omega) ?_
    refine mp_icmp_ge (tgt := 84) dX12_darkOnes_51 rfl ⟨by omega, by omega⟩ ⟨by omega, by omega⟩ (fun h2 => ?_) (fun h2 => ?_)
    · refine mp_loc (j := 3) (y := sp_dkN el d 0 t) (rfl) rfl (L' := [some (Value.ref 44), some (mp_i d), some (mp_i w), some (mp_i (sp_dkN el d 0 t)), some (mp_i t), none, none, none, none]) rfl ?_
      refine mp_drop (L' := [some (Value.ref 44), some (mp_i d), some (mp_i w), some (mp_i (sp_dkN el d 0 t)), none, none, none, none, none]) [true, true, true, true, false, false, false, false, false] rfl ?_
      exact hk
    · exfalso; omega
  | succ n ih =>
    intro t hi hk
    have hb := hh d (by omega) (by omega)
    refine mp_iload_n dX12_darkOnes_39 rfl ?_
    refine mp_if_ne (tgt := 84) dX12_darkOnes_40 rfl ⟨by decide, by decide⟩ (fun h1 => absurd h1 (by decide)) (fun _ => ?_)
    refine mp_iload dX12_darkOnes_43 rfl ?_
    refine mp_aload_n dX12_darkOnes_45 rfl ?_
    refine mp_getfield dX12_darkOnes_46 fsX12_43_11 (mp_lk hA 0 rfl) rfl ?_
    refine mp_iload_n dX12_darkOnes_49 rfl ?_
    refine mp_iald dX12_darkOnes_50 (mp_lk hA 12 rfl) ⟨by omega, by omega⟩ (by omega) ?_
    refine mp_icmp_ge (tgt := 84) dX12_darkOnes_51 rfl ⟨by omega, by omega⟩ ⟨by omega, by omega⟩ (fun h2 => ?_) (fun h2 => ?_)
    · exfalso; omega
    · refine mp_aload_n dX12_darkOnes_54 rfl ?_
      refine mp_getfield dX12_darkOnes_55 fsX12_46_11 (mp_lk hA 0 rfl) rfl ?_
      refine mp_bipush dX12_darkOnes_58 rfl ?_
      refine mp_iload_n dX12_darkOnes_60 rfl ?_
      refine mp_imul (z := 100 * d) dX12_darkOnes_61 (by first | rfl | omega) ?_
      refine mp_iload dX12_darkOnes_62 rfl ?_
      refine mp_iadd (z := (100 * d) + t) dX12_darkOnes_64 (by first | rfl | omega) ?_
      refine mp_iald dX12_darkOnes_65 (mp_lk hA 13 rfl) ⟨by omega, by omega⟩ (by omega) ?_
      have b3 := hel ((100 * d) + t)
      refine mp_iconst dX12_darkOnes_66 ?_
      refine mp_bipush dX12_darkOnes_67 rfl ?_
      refine mp_invS (z := (mX12_isIn, 0, 0, 0)) (K' := (0, 0)) (σ1 := A ++ (mp_ms s m img was num pro ask kp kk kf so sz el im pl ra re rm rf sd th ++ B)) (as := [mp_i (el ((100 * d) + t)), mp_i 0, mp_i 99]) (st := []) (st1 := [mp_i (if 0 ≤ (el ((100 * d) + t)) ∧ (el ((100 * d) + t)) ≤ 99 then 1 else 0)]) dX12_darkOnes_69 ssX12_53 (zX12_isIn (v := (el ((100 * d) + t))) (a := 0) (b := 99)  (by first | with_reducible assumption | omega) (by first | with_reducible assumption | omega) (by first | with_reducible assumption | omega)) ⟨Nat.le_of_ble_eq_true rfl, Nat.le_of_ble_eq_true rfl, Nat.le_of_ble_eq_true rfl, Nat.le_of_ble_eq_true rfl, Nat.le_of_ble_eq_true rfl⟩ rfl rfl rfl rfl ?_
      refine mp_ifb_ne (tgt := 78) dX12_darkOnes_72 rfl (fun h4 => ?_) (fun h4 => ?_)
      · refine mp_iinc (z := t + 1) (L' := [some (Value.ref 44), some (mp_i d), some (mp_i w), some (mp_i 0), some (mp_i (t + 1)), none, none, none, none]) dX12_darkOnes_78 rfl (rfl) (by decide) rfl ?_
        refine mp_goto (tgt := 39) dX12_darkOnes_81 rfl ?_
        exact ih (t + 1) (by omega) (by rw [show sp_dkN el d (n + 1) t = sp_dkN el d n (t + 1) from if_neg (by omega)] at hk; exact hk)
      · refine mp_bipush dX12_darkOnes_75 rfl ?_
        refine mp_istore_n (L' := [some (Value.ref 44), some (mp_i d), some (mp_i w), some (mp_i (-13)), some (mp_i t), none, none, none, none]) dX12_darkOnes_77 rfl (by decide) rfl ?_
        refine mp_iinc (z := t + 1) (L' := [some (Value.ref 44), some (mp_i d), some (mp_i w), some (mp_i (-13)), some (mp_i (t + 1)), none, none, none, none]) dX12_darkOnes_78 rfl (rfl) (by decide) rfl ?_
        refine mp_goto (tgt := 39) dX12_darkOnes_81 rfl ?_
        refine mp_iload_n dX12_darkOnes_39 rfl ?_
        refine mp_if_ne (tgt := 84) dX12_darkOnes_40 rfl ⟨by decide, by decide⟩ (fun _ => ?_) (fun h5 => absurd h5 (by decide))
        refine mp_loc (j := 3) (y := sp_dkN el d (n + 1) t) ((if_pos (by omega)).symm) rfl (L' := [some (Value.ref 44), some (mp_i d), some (mp_i w), some (mp_i (sp_dkN el d (n + 1) t)), some (mp_i (t + 1)), none, none, none, none]) rfl ?_
        refine mp_drop (L' := [some (Value.ref 44), some (mp_i d), some (mp_i w), some (mp_i (sp_dkN el d (n + 1) t)), none, none, none, none, none]) [true, true, true, true, false, false, false, false, false] rfl ?_
        exact hk
theorem lX12_darkOnes_117 {s m img was num pro ask kp kk kf so sz el : Int → Int} {im pl ra re rm rf sd th : Int} {A B : mp_H}  {d : Int} {w : Int} (hA : A.length = 44) (hs : mp_sky s) (hh : ∀ d, 0 ≤ d → d ≤ 7 → mp_shf kp kk kf so sz d) (hel : ∀ x, mp_w (el x)) (h_d : mp_w d) (h_w : mp_w w) {R9 : mp_An} : ∀ (n : Nat) (k : Int) (z : Int) (f : Int) (e : Int) (t : Int), ((0 ≤ k ∧ k + (n : Nat) = s 0) ∧ (0 ≤ t ∧ t ≤ 100)) → mp_At (mX12_darkOnes, 3, 0, 0) (0, 0) 160 [some (Value.ref 44), some (mp_i d), some (mp_i w), none, some (mp_i f), some (mp_i e), some (mp_i t), some (mp_i (mp_fold (fun k n => n + (if s (1 + 6 * k + 4) = t then 1 else 0)) n k z)), none] [] (A ++ (mp_ms s m img was num pro ask kp kk kf so sz el im pl ra re rm rf sd th ++ B)) R9 → mp_At (mX12_darkOnes, 3, 0, 0) (0, 0) 117 [some (Value.ref 44), some (mp_i d), some (mp_i w), none, some (mp_i f), some (mp_i e), some (mp_i t), some (mp_i z), some (mp_i k)] [] (A ++ (mp_ms s m img was num pro ask kp kk kf so sz el im pl ra re rm rf sd th ++ B)) R9 := by
  intro n
  induction n with
  | zero =>
    intro k z f e t hi hk
    have h0 := hs.1
    refine mp_iload dX12_darkOnes_117 rfl ?_
    refine mp_aload_n dX12_darkOnes_119 rfl ?_
    refine mp_getfield dX12_darkOnes_120 fsX12_9_11 (mp_lk hA 0 rfl) rfl ?_
    refine mp_iconst dX12_darkOnes_123 ?_
    refine mp_iald dX12_darkOnes_124 (mp_lk hA 1 rfl) ⟨by omega, by omega⟩ (by omega) ?_
    refine mp_icmp_ge (tgt := 160) dX12_darkOnes_125 rfl ⟨by omega, by omega⟩ ⟨by omega, by omega⟩ (fun h1 => ?_) (fun h1 => ?_)
    · refine mp_drop (L' := [some (Value.ref 44), some (mp_i d), some (mp_i w), none, some (mp_i f), some (mp_i e), some (mp_i t), some (mp_i z), none]) [true, true, true, false, true, true, true, true, false] rfl ?_
      exact hk
    · exfalso; omega
  | succ n ih =>
    intro k z f e t hi hk
    have h0 := hs.1
    have hm := hs.2.1 k (by omega) (by omega)
    refine mp_iload dX12_darkOnes_117 rfl ?_
    refine mp_aload_n dX12_darkOnes_119 rfl ?_
    refine mp_getfield dX12_darkOnes_120 fsX12_9_11 (mp_lk hA 0 rfl) rfl ?_
    refine mp_iconst dX12_darkOnes_123 ?_
    refine mp_iald dX12_darkOnes_124 (mp_lk hA 1 rfl) ⟨by omega, by omega⟩ (by omega) ?_
    refine mp_icmp_ge (tgt := 160) dX12_darkOnes_125 rfl ⟨by omega, by omega⟩ ⟨by omega, by omega⟩ (fun h1 => ?_) (fun h1 => ?_)
    · exfalso; omega
    · refine mp_iload dX12_darkOnes_128 rfl ?_
      refine mp_aload_n dX12_darkOnes_130 rfl ?_
      refine mp_getfield dX12_darkOnes_131 fsX12_9_11 (mp_lk hA 0 rfl) rfl ?_
      refine mp_iload dX12_darkOnes_134 rfl ?_
      refine mp_iconst dX12_darkOnes_136 ?_
      refine mp_invS (z := (mX12_of, 0, 0, 0)) (K' := (0, 0)) (σ1 := A ++ (mp_ms s m img was num pro ask kp kk kf so sz el im pl ra re rm rf sd th ++ B)) (as := [mp_i k, mp_i 4]) (st := [Value.ref 45, mp_i z]) (st1 := [mp_i (1 + 6 * k + 4), Value.ref 45, mp_i z]) dX12_darkOnes_137 ssX12_60 (zX12_of (k := k) (x := 4)  ) ⟨Nat.le_of_ble_eq_true rfl, Nat.le_of_ble_eq_true rfl, Nat.le_of_ble_eq_true rfl, Nat.le_of_ble_eq_true rfl, Nat.le_of_ble_eq_true rfl⟩ rfl rfl rfl rfl ?_
      refine mp_iald dX12_darkOnes_140 (mp_lk hA 1 rfl) ⟨by omega, by omega⟩ (by omega) ?_
      refine mp_iload dX12_darkOnes_141 rfl ?_
      refine mp_icmp_ne (tgt := 150) dX12_darkOnes_143 rfl ⟨by omega, by omega⟩ ⟨by omega, by omega⟩ (fun h2 => ?_) (fun h2 => ?_)
      · refine mp_iconst dX12_darkOnes_150 ?_
        refine mp_iadd (z := z + 0) dX12_darkOnes_151 (by first | rfl | omega) ?_
        refine mp_istore (L' := [some (Value.ref 44), some (mp_i d), some (mp_i w), none, some (mp_i f), some (mp_i e), some (mp_i t), some (mp_i (z + 0)), some (mp_i k)]) dX12_darkOnes_152 (by decide) rfl ?_
        refine mp_iinc (z := k + 1) (L' := [some (Value.ref 44), some (mp_i d), some (mp_i w), none, some (mp_i f), some (mp_i e), some (mp_i t), some (mp_i (z + 0)), some (mp_i (k + 1))]) dX12_darkOnes_154 rfl (rfl) (by decide) rfl ?_
        refine mp_goto (tgt := 117) dX12_darkOnes_157 rfl ?_
        refine mp_loc (j := 7) (y := z + (if s (1 + 6 * k + 4) = t then 1 else 0)) (by omega) rfl (L' := [some (Value.ref 44), some (mp_i d), some (mp_i w), none, some (mp_i f), some (mp_i e), some (mp_i t), some (mp_i (z + (if s (1 + 6 * k + 4) = t then 1 else 0))), some (mp_i (k + 1))]) rfl ?_
        exact ih (k + 1) (z + (if s (1 + 6 * k + 4) = t then 1 else 0)) f e t (by omega) hk
      · refine mp_iconst dX12_darkOnes_146 ?_
        refine mp_goto (tgt := 151) dX12_darkOnes_147 rfl ?_
        refine mp_iadd (z := z + 1) dX12_darkOnes_151 (by first | rfl | omega) ?_
        refine mp_istore (L' := [some (Value.ref 44), some (mp_i d), some (mp_i w), none, some (mp_i f), some (mp_i e), some (mp_i t), some (mp_i (z + 1)), some (mp_i k)]) dX12_darkOnes_152 (by decide) rfl ?_
        refine mp_iinc (z := k + 1) (L' := [some (Value.ref 44), some (mp_i d), some (mp_i w), none, some (mp_i f), some (mp_i e), some (mp_i t), some (mp_i (z + 1)), some (mp_i (k + 1))]) dX12_darkOnes_154 rfl (rfl) (by decide) rfl ?_
        refine mp_goto (tgt := 117) dX12_darkOnes_157 rfl ?_
        refine mp_loc (j := 7) (y := z + (if s (1 + 6 * k + 4) = t then 1 else 0)) (by omega) rfl (L' := [some (Value.ref 44), some (mp_i d), some (mp_i w), none, some (mp_i f), some (mp_i e), some (mp_i t), some (mp_i (z + (if s (1 + 6 * k + 4) = t then 1 else 0))), some (mp_i (k + 1))]) rfl ?_
        exact ih (k + 1) (z + (if s (1 + 6 * k + 4) = t then 1 else 0)) f e t (by omega) hk
theorem lX12_darkOnes_100 {s m img was num pro ask kp kk kf so sz el : Int → Int} {im pl ra re rm rf sd th : Int} {A B : mp_H}  {d : Int} {w : Int} (hA : A.length = 44) (hs : mp_sky s) (hh : ∀ d, 0 ≤ d → d ≤ 7 → mp_shf kp kk kf so sz d) (hel : ∀ x, mp_w (el x)) (h_d : mp_w d) (h_w : mp_w w) {R9 : mp_An} : ∀ (n : Nat) (t : Int) (p : Int × Int), ((0 ≤ t ∧ t + (n : Nat) = sz d) ∧ (0 ≤ d ∧ d ≤ 7) ∧ (∀ x, 0 ≤ x → x < sz d → 0 ≤ el (100 * d + x) ∧ el (100 * d + x) ≤ 99) ∧ (-4 ≤ p.1 ∧ p.1 ≤ t)) → mp_At (mX12_darkOnes, 3, 0, 0) (0, 0) 212 [some (Value.ref 44), some (mp_i d), some (mp_i w), none, some (mp_i ((mp_fold (sp_dkStep s el d) n t p).1)), some (mp_i ((mp_fold (sp_dkStep s el d) n t p).2)), none, none, none] [] (A ++ (mp_ms s m img was num pro ask kp kk kf so sz el im pl ra re rm rf sd th ++ B)) R9 → mp_At (mX12_darkOnes, 3, 0, 0) (0, 0) 100 [some (Value.ref 44), some (mp_i d), some (mp_i w), none, some (mp_i p.1), some (mp_i p.2), some (mp_i t), none, none] [] (A ++ (mp_ms s m img was num pro ask kp kk kf so sz el im pl ra re rm rf sd th ++ B)) R9 := by
  intro n
  induction n with
  | zero =>
    intro t p hi hk
    have h0 := hs.1
    have hb := hh d (by omega) (by omega)
    refine mp_iload dX12_darkOnes_100 rfl ?_
    refine mp_aload_n dX12_darkOnes_102 rfl ?_
    refine mp_getfield dX12_darkOnes_103 fsX12_43_11 (mp_lk hA 0 rfl) rfl ?_
    refine mp_iload_n dX12_darkOnes_106 rfl ?_
    refine mp_iald dX12_darkOnes_107 (mp_lk hA 12 rfl) ⟨by omega, by omega⟩ (by omega) ?_
    refine mp_icmp_ge (tgt := 212) dX12_darkOnes_108 rfl ⟨by omega, by omega⟩ ⟨by omega, by omega⟩ (fun h1 => ?_) (fun h1 => ?_)
    · refine mp_drop (L' := [some (Value.ref 44), some (mp_i d), some (mp_i w), none, some (mp_i p.1), some (mp_i p.2), none, none, none]) [true, true, true, false, true, true, false, false, false] rfl ?_
      exact hk
    · exfalso; omega
  | succ n ih =>
    intro t p hi hk
    have h0 := hs.1
    have hb := hh d (by omega) (by omega)
    have hnb := mp_nightOf_bd hs t
    have hec := hi.2.2.1 t (by omega) (by omega)
    refine mp_iload dX12_darkOnes_100 rfl ?_
    refine mp_aload_n dX12_darkOnes_102 rfl ?_
    refine mp_getfield dX12_darkOnes_103 fsX12_43_11 (mp_lk hA 0 rfl) rfl ?_
    refine mp_iload_n dX12_darkOnes_106 rfl ?_
    refine mp_iald dX12_darkOnes_107 (mp_lk hA 12 rfl) ⟨by omega, by omega⟩ (by omega) ?_
    refine mp_icmp_ge (tgt := 212) dX12_darkOnes_108 rfl ⟨by omega, by omega⟩ ⟨by omega, by omega⟩ (fun h1 => ?_) (fun h1 => ?_)
    · exfalso; omega
    · refine mp_iconst dX12_darkOnes_111 ?_
      refine mp_istore (L' := [some (Value.ref 44), some (mp_i d), some (mp_i w), none, some (mp_i p.1), some (mp_i p.2), some (mp_i t), some (mp_i 0), none]) dX12_darkOnes_112 (by decide) rfl ?_
      refine mp_iconst dX12_darkOnes_114 ?_
      refine mp_istore (L' := [some (Value.ref 44), some (mp_i d), some (mp_i w), none, some (mp_i p.1), some (mp_i p.2), some (mp_i t), some (mp_i 0), some (mp_i 0)]) dX12_darkOnes_115 (by decide) rfl ?_
      refine lX12_darkOnes_117 (d := d) (w := w)  (by first | with_reducible assumption | omega) (by first | with_reducible assumption | omega) (by first | with_reducible assumption | omega) (by first | with_reducible assumption | omega) (by first | with_reducible assumption | omega) (by first | with_reducible assumption | omega) ((s 0).toNat) 0 0 p.1 p.2 t (by omega) ?_
      refine mp_loc (j := 7) (y := sp_nightOf s t) rfl rfl (L' := [some (Value.ref 44), some (mp_i d), some (mp_i w), none, some (mp_i p.1), some (mp_i p.2), some (mp_i t), some (mp_i (sp_nightOf s t)), none]) rfl ?_
      refine mp_iload dX12_darkOnes_160 rfl ?_
      refine mp_aload_n dX12_darkOnes_162 rfl ?_
      refine mp_getfield dX12_darkOnes_163 fsX12_46_11 (mp_lk hA 0 rfl) rfl ?_
      refine mp_bipush dX12_darkOnes_166 rfl ?_
      refine mp_iload_n dX12_darkOnes_168 rfl ?_
      refine mp_imul (z := 100 * d) dX12_darkOnes_169 (by first | rfl | omega) ?_
      refine mp_iload dX12_darkOnes_170 rfl ?_
      refine mp_iadd (z := (100 * d) + t) dX12_darkOnes_172 (by first | rfl | omega) ?_
      refine mp_iald dX12_darkOnes_173 (mp_lk hA 13 rfl) ⟨by omega, by omega⟩ (by omega) ?_
      refine mp_isub (z := (sp_nightOf s t) - (el ((100 * d) + t))) dX12_darkOnes_174 (by first | rfl | omega) ?_
      refine mp_istore (L' := [some (Value.ref 44), some (mp_i d), some (mp_i w), none, some (mp_i p.1), some (mp_i p.2), some (mp_i t), some (mp_i (sp_nightOf s t)), some (mp_i ((sp_nightOf s t) - (el ((100 * d) + t))))]) dX12_darkOnes_175 (by decide) rfl ?_
      refine mp_iload dX12_darkOnes_177 rfl ?_
      refine mp_if_gt (tgt := 185) dX12_darkOnes_179 rfl ⟨by omega, by omega⟩ (fun h2 => ?_) (fun h2 => ?_)
      · refine mp_iload dX12_darkOnes_185 rfl ?_
        refine mp_if_ge (tgt := 195) dX12_darkOnes_187 rfl ⟨by omega, by omega⟩ (fun h3 => ?_) (fun h3 => ?_)
        · refine mp_iload dX12_darkOnes_195 rfl ?_
          refine mp_istore (L' := [some (Value.ref 44), some (mp_i d), some (mp_i w), none, some (mp_i p.1), some (mp_i p.2), some (mp_i t), some (mp_i (sp_nightOf s t)), some (mp_i ((sp_nightOf s t) - (el ((100 * d) + t))))]) dX12_darkOnes_197 (by decide) rfl ?_
          refine mp_iload dX12_darkOnes_199 rfl ?_
          refine mp_iload dX12_darkOnes_201 rfl ?_
          refine mp_iadd (z := p.2 + ((sp_nightOf s t) - (el ((100 * d) + t)))) dX12_darkOnes_203 (by first | rfl | omega) ?_
          refine mp_istore (L' := [some (Value.ref 44), some (mp_i d), some (mp_i w), none, some (mp_i p.1), some (mp_i (p.2 + ((sp_nightOf s t) - (el ((100 * d) + t))))), some (mp_i t), some (mp_i (sp_nightOf s t)), some (mp_i ((sp_nightOf s t) - (el ((100 * d) + t))))]) dX12_darkOnes_204 (by decide) rfl ?_
          refine mp_iinc (z := t + 1) (L' := [some (Value.ref 44), some (mp_i d), some (mp_i w), none, some (mp_i p.1), some (mp_i (p.2 + ((sp_nightOf s t) - (el ((100 * d) + t))))), some (mp_i (t + 1)), some (mp_i (sp_nightOf s t)), some (mp_i ((sp_nightOf s t) - (el ((100 * d) + t))))]) dX12_darkOnes_206 rfl (rfl) (by decide) rfl ?_
          refine mp_goto (tgt := 100) dX12_darkOnes_209 rfl ?_
          have e9 : sp_dkStep s el d t p = (p.1, p.2 + ((sp_nightOf s t) - (el ((100 * d) + t)))) := by unfold sp_dkStep; first | (rw [if_pos (by omega)]; done) | (rw [if_neg (by omega), if_pos (by omega)]; done) | (rw [if_neg (by omega), if_neg (by omega)]; done)
          have k9 := ih (t + 1) (sp_dkStep s el d t p) ⟨by omega, by omega, hi.2.2.1, by rw [e9]; omega⟩ hk
          rw [e9] at k9
          refine mp_drop (L' := [some (Value.ref 44), some (mp_i d), some (mp_i w), none, some (mp_i p.1), some (mp_i (p.2 + ((sp_nightOf s t) - (el ((100 * d) + t))))), some (mp_i (t + 1)), none, none]) [true, true, true, false, true, true, true, false, false] rfl ?_
          exact k9
        · refine mp_iload dX12_darkOnes_190 rfl ?_
          refine mp_goto (tgt := 197) dX12_darkOnes_192 rfl ?_
          refine mp_istore (L' := [some (Value.ref 44), some (mp_i d), some (mp_i w), none, some (mp_i t), some (mp_i p.2), some (mp_i t), some (mp_i (sp_nightOf s t)), some (mp_i ((sp_nightOf s t) - (el ((100 * d) + t))))]) dX12_darkOnes_197 (by decide) rfl ?_
          refine mp_iload dX12_darkOnes_199 rfl ?_
          refine mp_iload dX12_darkOnes_201 rfl ?_
          refine mp_iadd (z := p.2 + ((sp_nightOf s t) - (el ((100 * d) + t)))) dX12_darkOnes_203 (by first | rfl | omega) ?_
          refine mp_istore (L' := [some (Value.ref 44), some (mp_i d), some (mp_i w), none, some (mp_i t), some (mp_i (p.2 + ((sp_nightOf s t) - (el ((100 * d) + t))))), some (mp_i t), some (mp_i (sp_nightOf s t)), some (mp_i ((sp_nightOf s t) - (el ((100 * d) + t))))]) dX12_darkOnes_204 (by decide) rfl ?_
          refine mp_iinc (z := t + 1) (L' := [some (Value.ref 44), some (mp_i d), some (mp_i w), none, some (mp_i t), some (mp_i (p.2 + ((sp_nightOf s t) - (el ((100 * d) + t))))), some (mp_i (t + 1)), some (mp_i (sp_nightOf s t)), some (mp_i ((sp_nightOf s t) - (el ((100 * d) + t))))]) dX12_darkOnes_206 rfl (rfl) (by decide) rfl ?_
          refine mp_goto (tgt := 100) dX12_darkOnes_209 rfl ?_
          have e9 : sp_dkStep s el d t p = (t, p.2 + ((sp_nightOf s t) - (el ((100 * d) + t)))) := by unfold sp_dkStep; first | (rw [if_pos (by omega)]; done) | (rw [if_neg (by omega), if_pos (by omega)]; done) | (rw [if_neg (by omega), if_neg (by omega)]; done)
          have k9 := ih (t + 1) (sp_dkStep s el d t p) ⟨by omega, by omega, hi.2.2.1, by rw [e9]; omega⟩ hk
          rw [e9] at k9
          refine mp_drop (L' := [some (Value.ref 44), some (mp_i d), some (mp_i w), none, some (mp_i t), some (mp_i (p.2 + ((sp_nightOf s t) - (el ((100 * d) + t))))), some (mp_i (t + 1)), none, none]) [true, true, true, false, true, true, true, false, false] rfl ?_
          exact k9
      · refine mp_goto (tgt := 206) dX12_darkOnes_182 rfl ?_
        refine mp_iinc (z := t + 1) (L' := [some (Value.ref 44), some (mp_i d), some (mp_i w), none, some (mp_i p.1), some (mp_i p.2), some (mp_i (t + 1)), some (mp_i (sp_nightOf s t)), some (mp_i ((sp_nightOf s t) - (el ((100 * d) + t))))]) dX12_darkOnes_206 rfl (rfl) (by decide) rfl ?_
        refine mp_goto (tgt := 100) dX12_darkOnes_209 rfl ?_
        have e9 : sp_dkStep s el d t p = p := by unfold sp_dkStep; first | (rw [if_pos (by omega)]; done) | (rw [if_neg (by omega), if_pos (by omega)]; done) | (rw [if_neg (by omega), if_neg (by omega)]; done)
        have k9 := ih (t + 1) (sp_dkStep s el d t p) ⟨by omega, by omega, hi.2.2.1, by rw [e9]; omega⟩ hk
        rw [e9] at k9
        refine mp_drop (L' := [some (Value.ref 44), some (mp_i d), some (mp_i w), none, some (mp_i p.1), some (mp_i p.2), some (mp_i (t + 1)), none, none]) [true, true, true, false, true, true, true, false, false] rfl ?_
        exact k9
theorem zX12_darkOnes {s m img was num pro ask kp kk kf so sz el : Int → Int} {im pl ra re rm rf sd th : Int} {A B : mp_H}  {d : Int} {w : Int} (hA : A.length = 44) (hs : mp_sky s) (hh : ∀ d, 0 ≤ d → d ≤ 7 → mp_shf kp kk kf so sz d) (hel : ∀ x, mp_w (el x)) (h_d : mp_w d) (h_w : mp_w w) : mp_Call (mX12_darkOnes, 3, 0, 0) [Value.ref 44, mp_i d, mp_i w] (A ++ (mp_ms s m img was num pro ask kp kk kf so sz el im pl ra re rm rf sd th ++ B)) (some (mp_i (sp_darkOnes s kp so sz el d w)), A ++ (mp_ms s m img was num pro ask kp kk kf so sz el im pl ra re rm rf sd th ++ B)) := by
  refine mp_Call.of (L := [some (Value.ref 44), some (mp_i d), some (mp_i w), none, none, none, none, none, none]) pnX12 (Nat.le_of_ble_eq_true rfl) rfl ?_
  have h0 := hs.1
  have hw9 : sp_wrongRow kp so d (-1) = if ¬ (0 ≤ d ∧ d ≤ 7) then -1 else if kp d = 0 then -11 else if kp d ≠ 2 ∨ (0 ≤ (-1 : Int) ∧ so d ≠ (-1)) then -12 else 0 := rfl
  have hdb : sp_dkBad kp so sz el d = if sp_wrongRow kp so d (-1) ≠ 0 then sp_wrongRow kp so d (-1) else if 31 < sz d then -13 else sp_dkN el d (sz d).toNat 0 := rfl
  have hdn := mp_dkN_bd el d (sz d).toNat 0
  refine mp_iload_n dX12_darkOnes_0 rfl ?_
  refine mp_iconst dX12_darkOnes_1 ?_
  refine mp_iconst dX12_darkOnes_2 ?_
  refine mp_invS (z := (mX12_isIn, 0, 0, 0)) (K' := (0, 0)) (σ1 := A ++ (mp_ms s m img was num pro ask kp kk kf so sz el im pl ra re rm rf sd th ++ B)) (as := [mp_i w, mp_i 0, mp_i 1]) (st := []) (st1 := [mp_i (if 0 ≤ w ∧ w ≤ 1 then 1 else 0)]) dX12_darkOnes_3 ssX12_53 (zX12_isIn (v := w) (a := 0) (b := 1)  (by first | with_reducible assumption | omega) (by first | with_reducible assumption | omega) (by first | with_reducible assumption | omega)) ⟨Nat.le_of_ble_eq_true rfl, Nat.le_of_ble_eq_true rfl, Nat.le_of_ble_eq_true rfl, Nat.le_of_ble_eq_true rfl, Nat.le_of_ble_eq_true rfl⟩ rfl rfl rfl rfl ?_
  refine mp_ifb_ne (tgt := 11) dX12_darkOnes_6 rfl (fun h1 => ?_) (fun h1 => ?_)
  · refine mp_aload_n dX12_darkOnes_11 rfl ?_
    refine mp_iload_n dX12_darkOnes_12 rfl ?_
    refine mp_iconst dX12_darkOnes_13 ?_
    refine mp_invV (z := (mX12_wrongRow, 2, 0, 0)) (K' := (0, 0)) (σ1 := A ++ (mp_ms s m img was num pro ask kp kk kf so sz el im pl ra re rm rf sd th ++ B)) (as := [mp_i d, mp_i (-1)]) (st := []) (st1 := [mp_i (sp_wrongRow kp so d (-1))]) dX12_darkOnes_14 svX12_145 (mp_lk hA 0 rfl) rfl rfl (zX12_wrongRow (d := d) (o := (-1)) (s := s) (m := m) (img := img) (was := was) (num := num) (pro := pro) (ask := ask) (kp := kp) (kk := kk) (kf := kf) (so := so) (sz := sz) (el := el) (im := im) (pl := pl) (ra := ra) (re := re) (rm := rm) (rf := rf) (sd := sd) (th := th) (by first | with_reducible assumption | omega) (by first | with_reducible assumption | omega) (by first | with_reducible assumption | omega) (by first | with_reducible assumption | omega)) ⟨Nat.le_of_ble_eq_true rfl, Nat.le_of_ble_eq_true rfl, Nat.le_of_ble_eq_true rfl, Nat.le_of_ble_eq_true rfl, Nat.le_of_ble_eq_true rfl⟩ rfl rfl rfl rfl ?_
    refine mp_istore_n (L' := [some (Value.ref 44), some (mp_i d), some (mp_i w), some (mp_i (sp_wrongRow kp so d (-1))), none, none, none, none, none]) dX12_darkOnes_17 rfl (by decide) rfl ?_
    refine mp_iload_n dX12_darkOnes_18 rfl ?_
    refine mp_if_ne (tgt := 36) dX12_darkOnes_19 rfl ⟨by omega, by omega⟩ (fun h2 => ?_) (fun h2 => ?_)
    · refine mp_iconst dX12_darkOnes_36 ?_
      refine mp_istore (L' := [some (Value.ref 44), some (mp_i d), some (mp_i w), some (mp_i (sp_wrongRow kp so d (-1))), some (mp_i 0), none, none, none, none]) dX12_darkOnes_37 (by decide) rfl ?_
      refine mp_iload_n dX12_darkOnes_39 rfl ?_
      refine mp_if_ne (tgt := 84) dX12_darkOnes_40 rfl ⟨by omega, by omega⟩ (fun h3 => ?_) (fun h3 => ?_)
      · refine mp_iload_n dX12_darkOnes_84 rfl ?_
        refine mp_if_eq (tgt := 90) dX12_darkOnes_85 rfl ⟨by omega, by omega⟩ (fun h4 => ?_) (fun h4 => ?_)
        · refine mp_bipush dX12_darkOnes_90 rfl ?_
          refine mp_istore (L' := [some (Value.ref 44), some (mp_i d), some (mp_i w), some (mp_i (sp_wrongRow kp so d (-1))), some (mp_i (-4)), none, none, none, none]) dX12_darkOnes_92 (by decide) rfl ?_
          refine mp_iconst dX12_darkOnes_94 ?_
          refine mp_istore (L' := [some (Value.ref 44), some (mp_i d), some (mp_i w), some (mp_i (sp_wrongRow kp so d (-1))), some (mp_i (-4)), some (mp_i 0), none, none, none]) dX12_darkOnes_95 (by decide) rfl ?_
          refine mp_iconst dX12_darkOnes_97 ?_
          refine mp_istore (L' := [some (Value.ref 44), some (mp_i d), some (mp_i w), some (mp_i (sp_wrongRow kp so d (-1))), some (mp_i (-4)), some (mp_i 0), some (mp_i 0), none, none]) dX12_darkOnes_98 (by decide) rfl ?_
          refine mp_drop (L' := [some (Value.ref 44), some (mp_i d), some (mp_i w), none, some (mp_i (-4)), some (mp_i 0), some (mp_i 0), none, none]) [true, true, true, false, true, true, true, true, true] rfl ?_
          refine lX12_darkOnes_100 hA hs hh hel h_d h_w (sz d).toNat 0 (-4, 0) ⟨by omega, by omega, (fun x h1 h2 => mp_dkN_ok el d (sz d).toNat 0 (by omega) x h1 (by omega)), by decide, by decide⟩ ?_
          show mp_At _ _ 212 [some (Value.ref 44), some (mp_i d), some (mp_i w), none, some (mp_i ((sp_dark s sz el d).1)), some (mp_i ((sp_dark s sz el d).2)), none, none, none] [] _ _
          refine mp_iload_n dX12_darkOnes_212 rfl ?_
          refine mp_if_ne (tgt := 221) dX12_darkOnes_213 rfl ⟨by omega, by omega⟩ (fun h5 => ?_) (fun h5 => ?_)
          · refine mp_iload dX12_darkOnes_221 rfl ?_
            exact mp_ireturn (st := []) dX12_darkOnes_223 rfl ⟨by decide, by decide⟩ ((mp_ans (by first | with_reducible rfl | (unfold sp_darkOnes; omega) | (unfold sp_darkOnes; first | (rw [if_pos (by omega)]; done) | (rw [if_neg (by omega)]; done) | (rw [if_neg (by omega), if_pos (by omega)]; done) | (rw [if_neg (by omega), if_neg (by omega)]; done) | (rw [if_neg (by omega), if_neg (by omega), if_pos (by omega)]; done) | (rw [if_neg (by omega), if_neg (by omega), if_neg (by omega)]; done) | (rw [if_neg (by omega), if_neg (by omega), if_neg (by omega), if_pos (by omega)]; done) | (rw [if_neg (by omega), if_neg (by omega), if_neg (by omega), if_neg (by omega)]; done) | (rw [if_neg (by omega), if_neg (by omega), if_neg (by omega), if_neg (by omega), if_pos (by omega)]; done) | (rw [if_neg (by omega), if_neg (by omega), if_neg (by omega), if_neg (by omega), if_neg (by omega)]; done)))))
          · refine mp_iload dX12_darkOnes_216 rfl ?_
            refine mp_goto (tgt := 223) dX12_darkOnes_218 rfl ?_
            exact mp_ireturn (st := []) dX12_darkOnes_223 rfl ⟨by decide, by decide⟩ ((mp_ans (by first | with_reducible rfl | (unfold sp_darkOnes; omega) | (unfold sp_darkOnes; first | (rw [if_pos (by omega)]; done) | (rw [if_neg (by omega)]; done) | (rw [if_neg (by omega), if_pos (by omega)]; done) | (rw [if_neg (by omega), if_neg (by omega)]; done) | (rw [if_neg (by omega), if_neg (by omega), if_pos (by omega)]; done) | (rw [if_neg (by omega), if_neg (by omega), if_neg (by omega)]; done) | (rw [if_neg (by omega), if_neg (by omega), if_neg (by omega), if_pos (by omega)]; done) | (rw [if_neg (by omega), if_neg (by omega), if_neg (by omega), if_neg (by omega)]; done) | (rw [if_neg (by omega), if_neg (by omega), if_neg (by omega), if_neg (by omega), if_pos (by omega)]; done) | (rw [if_neg (by omega), if_neg (by omega), if_neg (by omega), if_neg (by omega), if_neg (by omega)]; done)))))
        · refine mp_iload_n dX12_darkOnes_88 rfl ?_
          exact mp_ireturn (st := []) dX12_darkOnes_89 rfl ⟨by decide, by decide⟩ ((mp_ans (by first | with_reducible rfl | (unfold sp_darkOnes; omega) | (unfold sp_darkOnes; first | (rw [if_pos (by omega)]; done) | (rw [if_neg (by omega)]; done) | (rw [if_neg (by omega), if_pos (by omega)]; done) | (rw [if_neg (by omega), if_neg (by omega)]; done) | (rw [if_neg (by omega), if_neg (by omega), if_pos (by omega)]; done) | (rw [if_neg (by omega), if_neg (by omega), if_neg (by omega)]; done) | (rw [if_neg (by omega), if_neg (by omega), if_neg (by omega), if_pos (by omega)]; done) | (rw [if_neg (by omega), if_neg (by omega), if_neg (by omega), if_neg (by omega)]; done) | (rw [if_neg (by omega), if_neg (by omega), if_neg (by omega), if_neg (by omega), if_pos (by omega)]; done) | (rw [if_neg (by omega), if_neg (by omega), if_neg (by omega), if_neg (by omega), if_neg (by omega)]; done)))))
      · exfalso; omega
    · refine mp_loc (j := 3) (y := 0) (by omega) rfl (L' := [some (Value.ref 44), some (mp_i d), some (mp_i w), some (mp_i 0), none, none, none, none, none]) rfl ?_
      have hb := hh d (by omega) (by omega)
      refine mp_aload_n dX12_darkOnes_22 rfl ?_
      refine mp_getfield dX12_darkOnes_23 fsX12_43_11 (mp_lk hA 0 rfl) rfl ?_
      refine mp_iload_n dX12_darkOnes_26 rfl ?_
      refine mp_iald dX12_darkOnes_27 (mp_lk hA 12 rfl) ⟨by omega, by omega⟩ (by omega) ?_
      refine mp_bipush dX12_darkOnes_28 rfl ?_
      refine mp_icmp_le (tgt := 36) dX12_darkOnes_30 rfl ⟨by omega, by omega⟩ ⟨by omega, by omega⟩ (fun h6 => ?_) (fun h6 => ?_)
      · refine mp_iconst dX12_darkOnes_36 ?_
        refine mp_istore (L' := [some (Value.ref 44), some (mp_i d), some (mp_i w), some (mp_i 0), some (mp_i 0), none, none, none, none]) dX12_darkOnes_37 (by decide) rfl ?_
        refine lX12_darkOnes_39 (d := d) (w := w)  (by first | with_reducible assumption | omega) (by first | with_reducible assumption | omega) (by first | with_reducible assumption | omega) (by first | with_reducible assumption | omega) (by first | with_reducible assumption | omega) (by first | with_reducible assumption | omega) ((sz d).toNat) 0 (by omega) ?_
        refine mp_iload_n dX12_darkOnes_84 rfl ?_
        refine mp_if_eq (tgt := 90) dX12_darkOnes_85 rfl ⟨by omega, by omega⟩ (fun h7 => ?_) (fun h7 => ?_)
        · refine mp_bipush dX12_darkOnes_90 rfl ?_
          refine mp_istore (L' := [some (Value.ref 44), some (mp_i d), some (mp_i w), some (mp_i (sp_dkN el d ((sz d).toNat) 0)), some (mp_i (-4)), none, none, none, none]) dX12_darkOnes_92 (by decide) rfl ?_
          refine mp_iconst dX12_darkOnes_94 ?_
          refine mp_istore (L' := [some (Value.ref 44), some (mp_i d), some (mp_i w), some (mp_i (sp_dkN el d ((sz d).toNat) 0)), some (mp_i (-4)), some (mp_i 0), none, none, none]) dX12_darkOnes_95 (by decide) rfl ?_
          refine mp_iconst dX12_darkOnes_97 ?_
          refine mp_istore (L' := [some (Value.ref 44), some (mp_i d), some (mp_i w), some (mp_i (sp_dkN el d ((sz d).toNat) 0)), some (mp_i (-4)), some (mp_i 0), some (mp_i 0), none, none]) dX12_darkOnes_98 (by decide) rfl ?_
          refine mp_drop (L' := [some (Value.ref 44), some (mp_i d), some (mp_i w), none, some (mp_i (-4)), some (mp_i 0), some (mp_i 0), none, none]) [true, true, true, false, true, true, true, true, true] rfl ?_
          refine lX12_darkOnes_100 hA hs hh hel h_d h_w (sz d).toNat 0 (-4, 0) ⟨by omega, by omega, (fun x h1 h2 => mp_dkN_ok el d (sz d).toNat 0 (by omega) x h1 (by omega)), by decide, by decide⟩ ?_
          show mp_At _ _ 212 [some (Value.ref 44), some (mp_i d), some (mp_i w), none, some (mp_i ((sp_dark s sz el d).1)), some (mp_i ((sp_dark s sz el d).2)), none, none, none] [] _ _
          refine mp_iload_n dX12_darkOnes_212 rfl ?_
          refine mp_if_ne (tgt := 221) dX12_darkOnes_213 rfl ⟨by omega, by omega⟩ (fun h8 => ?_) (fun h8 => ?_)
          · refine mp_iload dX12_darkOnes_221 rfl ?_
            exact mp_ireturn (st := []) dX12_darkOnes_223 rfl ⟨by decide, by decide⟩ ((mp_ans (by first | with_reducible rfl | (unfold sp_darkOnes; omega) | (unfold sp_darkOnes; first | (rw [if_pos (by omega)]; done) | (rw [if_neg (by omega)]; done) | (rw [if_neg (by omega), if_pos (by omega)]; done) | (rw [if_neg (by omega), if_neg (by omega)]; done) | (rw [if_neg (by omega), if_neg (by omega), if_pos (by omega)]; done) | (rw [if_neg (by omega), if_neg (by omega), if_neg (by omega)]; done) | (rw [if_neg (by omega), if_neg (by omega), if_neg (by omega), if_pos (by omega)]; done) | (rw [if_neg (by omega), if_neg (by omega), if_neg (by omega), if_neg (by omega)]; done) | (rw [if_neg (by omega), if_neg (by omega), if_neg (by omega), if_neg (by omega), if_pos (by omega)]; done) | (rw [if_neg (by omega), if_neg (by omega), if_neg (by omega), if_neg (by omega), if_neg (by omega)]; done)))))
          · refine mp_iload dX12_darkOnes_216 rfl ?_
            refine mp_goto (tgt := 223) dX12_darkOnes_218 rfl ?_
            exact mp_ireturn (st := []) dX12_darkOnes_223 rfl ⟨by decide, by decide⟩ ((mp_ans (by first | with_reducible rfl | (unfold sp_darkOnes; omega) | (unfold sp_darkOnes; first | (rw [if_pos (by omega)]; done) | (rw [if_neg (by omega)]; done) | (rw [if_neg (by omega), if_pos (by omega)]; done) | (rw [if_neg (by omega), if_neg (by omega)]; done) | (rw [if_neg (by omega), if_neg (by omega), if_pos (by omega)]; done) | (rw [if_neg (by omega), if_neg (by omega), if_neg (by omega)]; done) | (rw [if_neg (by omega), if_neg (by omega), if_neg (by omega), if_pos (by omega)]; done) | (rw [if_neg (by omega), if_neg (by omega), if_neg (by omega), if_neg (by omega)]; done) | (rw [if_neg (by omega), if_neg (by omega), if_neg (by omega), if_neg (by omega), if_pos (by omega)]; done) | (rw [if_neg (by omega), if_neg (by omega), if_neg (by omega), if_neg (by omega), if_neg (by omega)]; done)))))
        · refine mp_iload_n dX12_darkOnes_88 rfl ?_
          exact mp_ireturn (st := []) dX12_darkOnes_89 rfl ⟨by decide, by decide⟩ ((mp_ans (by first | with_reducible rfl | (unfold sp_darkOnes; omega) | (unfold sp_darkOnes; first | (rw [if_pos (by omega)]; done) | (rw [if_neg (by omega)]; done) | (rw [if_neg (by omega), if_pos (by omega)]; done) | (rw [if_neg (by omega), if_neg (by omega)]; done) | (rw [if_neg (by omega), if_neg (by omega), if_pos (by omega)]; done) | (rw [if_neg (by omega), if_neg (by omega), if_neg (by omega)]; done) | (rw [if_neg (by omega), if_neg (by omega), if_neg (by omega), if_pos (by omega)]; done) | (rw [if_neg (by omega), if_neg (by omega), if_neg (by omega), if_neg (by omega)]; done) | (rw [if_neg (by omega), if_neg (by omega), if_neg (by omega), if_neg (by omega), if_pos (by omega)]; done) | (rw [if_neg (by omega), if_neg (by omega), if_neg (by omega), if_neg (by omega), if_neg (by omega)]; done)))))
      · refine mp_bipush dX12_darkOnes_33 rfl ?_
        refine mp_istore_n (L' := [some (Value.ref 44), some (mp_i d), some (mp_i w), some (mp_i (-13)), none, none, none, none, none]) dX12_darkOnes_35 rfl (by decide) rfl ?_
        refine mp_iconst dX12_darkOnes_36 ?_
        refine mp_istore (L' := [some (Value.ref 44), some (mp_i d), some (mp_i w), some (mp_i (-13)), some (mp_i 0), none, none, none, none]) dX12_darkOnes_37 (by decide) rfl ?_
        refine mp_iload_n dX12_darkOnes_39 rfl ?_
        refine mp_if_ne (tgt := 84) dX12_darkOnes_40 rfl ⟨by decide, by decide⟩ (fun _ => ?_) (fun h9 => absurd h9 (by decide))
        refine mp_iload_n dX12_darkOnes_84 rfl ?_
        refine mp_if_eq (tgt := 90) dX12_darkOnes_85 rfl ⟨by decide, by decide⟩ (fun h10 => absurd h10 (by decide)) (fun _ => ?_)
        refine mp_iload_n dX12_darkOnes_88 rfl ?_
        exact mp_ireturn (st := []) dX12_darkOnes_89 rfl ⟨by decide, by decide⟩ ((mp_ans (by first | with_reducible rfl | (unfold sp_darkOnes; omega) | (unfold sp_darkOnes; first | (rw [if_pos (by omega)]; done) | (rw [if_neg (by omega)]; done) | (rw [if_neg (by omega), if_pos (by omega)]; done) | (rw [if_neg (by omega), if_neg (by omega)]; done) | (rw [if_neg (by omega), if_neg (by omega), if_pos (by omega)]; done) | (rw [if_neg (by omega), if_neg (by omega), if_neg (by omega)]; done) | (rw [if_neg (by omega), if_neg (by omega), if_neg (by omega), if_pos (by omega)]; done) | (rw [if_neg (by omega), if_neg (by omega), if_neg (by omega), if_neg (by omega)]; done) | (rw [if_neg (by omega), if_neg (by omega), if_neg (by omega), if_neg (by omega), if_pos (by omega)]; done) | (rw [if_neg (by omega), if_neg (by omega), if_neg (by omega), if_neg (by omega), if_neg (by omega)]; done)))))
  · refine mp_iconst dX12_darkOnes_9 ?_
    exact mp_ireturn (st := []) dX12_darkOnes_10 rfl ⟨by decide, by decide⟩ ((mp_ans (by first | with_reducible rfl | (unfold sp_darkOnes; omega) | (unfold sp_darkOnes; first | (rw [if_pos (by omega)]; done) | (rw [if_neg (by omega)]; done) | (rw [if_neg (by omega), if_pos (by omega)]; done) | (rw [if_neg (by omega), if_neg (by omega)]; done) | (rw [if_neg (by omega), if_neg (by omega), if_pos (by omega)]; done) | (rw [if_neg (by omega), if_neg (by omega), if_neg (by omega)]; done) | (rw [if_neg (by omega), if_neg (by omega), if_neg (by omega), if_pos (by omega)]; done) | (rw [if_neg (by omega), if_neg (by omega), if_neg (by omega), if_neg (by omega)]; done) | (rw [if_neg (by omega), if_neg (by omega), if_neg (by omega), if_neg (by omega), if_pos (by omega)]; done) | (rw [if_neg (by omega), if_neg (by omega), if_neg (by omega), if_neg (by omega), if_neg (by omega)]; done)))))
