/-! ===== the class: METEORS of any kind ===== -/
theorem mp_kdc {kd : Int} (h : 0 ≤ kd ∧ kd ≤ 7) : kd = 0 ∨ kd = 1 ∨ kd = 2 ∨ kd = 3 ∨ kd = 4 ∨ kd = 5 ∨ kd = 6 ∨ kd = 7 := by omega
def mp_clr (c : Nat) : vw_C := (mp_cl[c]?).getD (RX4, TX4, 7)
theorem mp_cl8 {c : Nat} (h : c < 8) : mp_cl[c]? = some (mp_clr c) := by
  match c, h with
  | 0, _ => rfl
  | 1, _ => rfl
  | 2, _ => rfl
  | 3, _ => rfl
  | 4, _ => rfl
  | 5, _ => rfl
  | 6, _ => rfl
  | 7, _ => rfl
theorem fsX0_14 {c : Nat} (h : c < 8) : mp_FS RX0 14 c 1 := by
  match c, h with
  | 0, _ => exact fsX0_14_0
  | 1, _ => exact fsX0_14_1
  | 2, _ => exact fsX0_14_2
  | 3, _ => exact fsX0_14_3
  | 4, _ => exact fsX0_14_4
  | 5, _ => exact fsX0_14_5
  | 6, _ => exact fsX0_14_6
  | 7, _ => exact fsX0_14_7
theorem fsX3_23 {c : Nat} (h : c < 8) : mp_FS RX3 23 c 1 := by
  match c, h with
  | 0, _ => exact fsX3_23_0
  | 1, _ => exact fsX3_23_1
  | 2, _ => exact fsX3_23_2
  | 3, _ => exact fsX3_23_3
  | 4, _ => exact fsX3_23_4
  | 5, _ => exact fsX3_23_5
  | 6, _ => exact fsX3_23_6
  | 7, _ => exact fsX3_23_7
theorem fsX4_9 {c : Nat} (h : c < 8) : mp_FS RX4 9 c 0 := by
  match c, h with
  | 0, _ => exact fsX4_9_0
  | 1, _ => exact fsX4_9_1
  | 2, _ => exact fsX4_9_2
  | 3, _ => exact fsX4_9_3
  | 4, _ => exact fsX4_9_4
  | 5, _ => exact fsX4_9_5
  | 6, _ => exact fsX4_9_6
  | 7, _ => exact fsX4_9_7
theorem fsX4_15 {c : Nat} (h : c < 8) : mp_FS RX4 15 c 1 := by
  match c, h with
  | 0, _ => exact fsX4_15_0
  | 1, _ => exact fsX4_15_1
  | 2, _ => exact fsX4_15_2
  | 3, _ => exact fsX4_15_3
  | 4, _ => exact fsX4_15_4
  | 5, _ => exact fsX4_15_5
  | 6, _ => exact fsX4_15_6
  | 7, _ => exact fsX4_15_7
theorem fsX4_25 {c : Nat} (h : c < 8) : mp_FS RX4 25 c 2 := by
  match c, h with
  | 0, _ => exact fsX4_25_0
  | 1, _ => exact fsX4_25_1
  | 2, _ => exact fsX4_25_2
  | 3, _ => exact fsX4_25_3
  | 4, _ => exact fsX4_25_4
  | 5, _ => exact fsX4_25_5
  | 6, _ => exact fsX4_25_6
  | 7, _ => exact fsX4_25_7
theorem fsX4_28 {c : Nat} (h : c < 8) : mp_FS RX4 28 c 3 := by
  match c, h with
  | 0, _ => exact fsX4_28_0
  | 1, _ => exact fsX4_28_1
  | 2, _ => exact fsX4_28_2
  | 3, _ => exact fsX4_28_3
  | 4, _ => exact fsX4_28_4
  | 5, _ => exact fsX4_28_5
  | 6, _ => exact fsX4_28_6
  | 7, _ => exact fsX4_28_7
theorem fsX4_31 {c : Nat} (h : c < 8) : mp_FS RX4 31 c 4 := by
  match c, h with
  | 0, _ => exact fsX4_31_0
  | 1, _ => exact fsX4_31_1
  | 2, _ => exact fsX4_31_2
  | 3, _ => exact fsX4_31_3
  | 4, _ => exact fsX4_31_4
  | 5, _ => exact fsX4_31_5
  | 6, _ => exact fsX4_31_6
  | 7, _ => exact fsX4_31_7
theorem fsX4_38 {c : Nat} (h : c < 8) : mp_FS RX4 38 c 5 := by
  match c, h with
  | 0, _ => exact fsX4_38_0
  | 1, _ => exact fsX4_38_1
  | 2, _ => exact fsX4_38_2
  | 3, _ => exact fsX4_38_3
  | 4, _ => exact fsX4_38_4
  | 5, _ => exact fsX4_38_5
  | 6, _ => exact fsX4_38_6
  | 7, _ => exact fsX4_38_7
theorem fsX4_44 {c : Nat} (h : c < 8) : mp_FS RX4 44 c 6 := by
  match c, h with
  | 0, _ => exact fsX4_44_0
  | 1, _ => exact fsX4_44_1
  | 2, _ => exact fsX4_44_2
  | 3, _ => exact fsX4_44_3
  | 4, _ => exact fsX4_44_4
  | 5, _ => exact fsX4_44_5
  | 6, _ => exact fsX4_44_6
  | 7, _ => exact fsX4_44_7
theorem fsX6_46 {c : Nat} (h : c < 8) : mp_FS RX6 46 c 2 := by
  match c, h with
  | 0, _ => exact fsX6_46_0
  | 1, _ => exact fsX6_46_1
  | 2, _ => exact fsX6_46_2
  | 3, _ => exact fsX6_46_3
  | 4, _ => exact fsX6_46_4
  | 5, _ => exact fsX6_46_5
  | 6, _ => exact fsX6_46_6
  | 7, _ => exact fsX6_46_7
theorem fsX6_70 {c : Nat} (h : c < 8) : mp_FS RX6 70 c 4 := by
  match c, h with
  | 0, _ => exact fsX6_70_0
  | 1, _ => exact fsX6_70_1
  | 2, _ => exact fsX6_70_2
  | 3, _ => exact fsX6_70_3
  | 4, _ => exact fsX6_70_4
  | 5, _ => exact fsX6_70_5
  | 6, _ => exact fsX6_70_6
  | 7, _ => exact fsX6_70_7
theorem fsX6_79 {c : Nat} (h : c < 8) : mp_FS RX6 79 c 5 := by
  match c, h with
  | 0, _ => exact fsX6_79_0
  | 1, _ => exact fsX6_79_1
  | 2, _ => exact fsX6_79_2
  | 3, _ => exact fsX6_79_3
  | 4, _ => exact fsX6_79_4
  | 5, _ => exact fsX6_79_5
  | 6, _ => exact fsX6_79_6
  | 7, _ => exact fsX6_79_7
theorem fsX8_14 {c : Nat} (h : c < 8) : mp_FS RX8 14 c 1 := by
  match c, h with
  | 0, _ => exact fsX8_14_0
  | 1, _ => exact fsX8_14_1
  | 2, _ => exact fsX8_14_2
  | 3, _ => exact fsX8_14_3
  | 4, _ => exact fsX8_14_4
  | 5, _ => exact fsX8_14_5
  | 6, _ => exact fsX8_14_6
  | 7, _ => exact fsX8_14_7
theorem fsX9_20 {c : Nat} (h : c < 8) : mp_FS RX9 20 c 1 := by
  match c, h with
  | 0, _ => exact fsX9_20_0
  | 1, _ => exact fsX9_20_1
  | 2, _ => exact fsX9_20_2
  | 3, _ => exact fsX9_20_3
  | 4, _ => exact fsX9_20_4
  | 5, _ => exact fsX9_20_5
  | 6, _ => exact fsX9_20_6
  | 7, _ => exact fsX9_20_7
theorem fsX10_11 {c : Nat} (h : c < 8) : mp_FS RX10 11 c 1 := by
  match c, h with
  | 0, _ => exact fsX10_11_0
  | 1, _ => exact fsX10_11_1
  | 2, _ => exact fsX10_11_2
  | 3, _ => exact fsX10_11_3
  | 4, _ => exact fsX10_11_4
  | 5, _ => exact fsX10_11_5
  | 6, _ => exact fsX10_11_6
  | 7, _ => exact fsX10_11_7
theorem fsX11_96 {c : Nat} (h : c < 8) : mp_FS RX11 96 c 0 := by
  match c, h with
  | 0, _ => exact fsX11_96_0
  | 1, _ => exact fsX11_96_1
  | 2, _ => exact fsX11_96_2
  | 3, _ => exact fsX11_96_3
  | 4, _ => exact fsX11_96_4
  | 5, _ => exact fsX11_96_5
  | 6, _ => exact fsX11_96_6
  | 7, _ => exact fsX11_96_7
theorem fsX11_99 {c : Nat} (h : c < 8) : mp_FS RX11 99 c 1 := by
  match c, h with
  | 0, _ => exact fsX11_99_0
  | 1, _ => exact fsX11_99_1
  | 2, _ => exact fsX11_99_2
  | 3, _ => exact fsX11_99_3
  | 4, _ => exact fsX11_99_4
  | 5, _ => exact fsX11_99_5
  | 6, _ => exact fsX11_99_6
  | 7, _ => exact fsX11_99_7
theorem fsX11_102 {c : Nat} (h : c < 8) : mp_FS RX11 102 c 2 := by
  match c, h with
  | 0, _ => exact fsX11_102_0
  | 1, _ => exact fsX11_102_1
  | 2, _ => exact fsX11_102_2
  | 3, _ => exact fsX11_102_3
  | 4, _ => exact fsX11_102_4
  | 5, _ => exact fsX11_102_5
  | 6, _ => exact fsX11_102_6
  | 7, _ => exact fsX11_102_7
theorem fsX11_105 {c : Nat} (h : c < 8) : mp_FS RX11 105 c 3 := by
  match c, h with
  | 0, _ => exact fsX11_105_0
  | 1, _ => exact fsX11_105_1
  | 2, _ => exact fsX11_105_2
  | 3, _ => exact fsX11_105_3
  | 4, _ => exact fsX11_105_4
  | 5, _ => exact fsX11_105_5
  | 6, _ => exact fsX11_105_6
  | 7, _ => exact fsX11_105_7
theorem fsX11_108 {c : Nat} (h : c < 8) : mp_FS RX11 108 c 4 := by
  match c, h with
  | 0, _ => exact fsX11_108_0
  | 1, _ => exact fsX11_108_1
  | 2, _ => exact fsX11_108_2
  | 3, _ => exact fsX11_108_3
  | 4, _ => exact fsX11_108_4
  | 5, _ => exact fsX11_108_5
  | 6, _ => exact fsX11_108_6
  | 7, _ => exact fsX11_108_7
theorem fsX11_250 {c : Nat} (h : c < 8) : mp_FS RX11 250 c 5 := by
  match c, h with
  | 0, _ => exact fsX11_250_0
  | 1, _ => exact fsX11_250_1
  | 2, _ => exact fsX11_250_2
  | 3, _ => exact fsX11_250_3
  | 4, _ => exact fsX11_250_4
  | 5, _ => exact fsX11_250_5
  | 6, _ => exact fsX11_250_6
  | 7, _ => exact fsX11_250_7
theorem mp_tb8 : ∀ c, c < 8 → ∀ fi, fi < 7 → parseFieldDescriptor ((mp_clr c).2.1 fi).2.2.1 = some .int ∧ ((mp_clr c).2.1 fi).2.2.2 = decide (fi < 2) ∧ ((mp_clr c).2.1 fi).1 = RX4 := by decide +kernel
/-- the words of a call that the receiver's kind answers -/
def mp_S8 (own : String) (idx n : Nat) (x : mp_M) (ms : List mp_Y) (d0 : Nat) : Prop := ∀ c, c < 8 → ∃ (r : vw_C) (z : mp_Y), mp_cl[c]? = some r ∧ ms[c]? = some z ∧ mp_SU own idx x r.1 z.1 n ∧ z.2.1 ≤ d0 ∧ z.1.2.2.1 ≤ 29 ∧ z.2.2 = (0, 0)
section
variable {Y : mp_Y} {K : Nat × Nat} {pc nx idx : Nat} {L : List (Option Value)} {st st0 st1 : List Value} {σ σ1 : mp_H} {A A1 : mp_An} {as : List Value}
theorem mp_inv8 {k d0 : Nat} {kd : Int} {fs : List Value} {x : mp_M} {ms : List mp_Y} (hd : mp_dc Y.1 pc (.invokevirtual idx) 3 nx) (h : 0 ≤ kd ∧ kd ≤ 7) (hs : mp_S8 Y.1.1.cls idx as.length x ms d0) (ho : σ[k]? = some (mp_O (Int.toNat kd) fs)) (hf : ∀ z, ms[Int.toNat kd]? = some z → mp_Call z (Value.ref k :: as) σ A1) (hd0 : d0 + 1 ≤ Y.2.1) (hK : K.1 ≤ Y.2.2.1 ∧ K.2 ≤ Y.2.2.2) (h8 : (st.map fun v => v.category).sum ≤ 8) (h0 : as.reverse ++ Value.ref k :: st = st0) (h1 : A1.1.toList ++ st = st1) (hσ : A1.2 = σ1) (kk : mp_At Y K nx L st1 σ1 A) : mp_At Y K pc L st0 σ A := by
  obtain ⟨r, ⟨z1, zd, zk⟩, e1, e2, e3, e4, e5, e6⟩ := hs (Int.toNat kd) (by omega)
  cases e6
  exact mp_invO (z := (z1, zd, 0, 0)) (K' := K) hd e3 ho e1 (hf _ e2) ⟨Nat.le_trans (Nat.succ_le_succ e4) hd0, e5, hK.1, hK.2, h8⟩ h0 h1 rfl hσ kk
theorem mp_putM {k c fi : Nat} {fs : List Value} {x : Int} {σ' : mp_H} (hd : mp_dc Y.1 pc (.putfield idx) 3 nx) (hf : mp_FS Y.1.1.cls idx c fi) (hc : c < 8) (hfi : fi < 7) (hfin : 2 ≤ fi ∨ (Y.1.1.name = "<init>" ∧ Y.1.1.cls = RX4)) (hs : σ[k]? = some (mp_O c fs)) (h0 : 0 < k) (hl : fi < fs.length) (hσ : σ.set k (mp_O c (fs.set fi (mp_i x))) = σ') (kk : mp_At Y K nx L st σ' A) : mp_At Y K pc L (mp_i x :: Value.ref k :: st) σ A := by
  obtain ⟨t1, t2, t3⟩ := mp_tb8 c hc fi hfi
  refine mp_putfield hd hf (mp_cl8 hc) ?_ t1 (fun _ => ⟨rfl, rfl⟩) hs h0 hl hσ kk
  by_cases h2 : 2 ≤ fi
  · left; rw [t2]; exact decide_eq_false (by omega)
  · right
    rcases hfin with h | ⟨h3, h4⟩
    · exact absurd h h2
    · exact ⟨by rw [t2]; exact decide_eq_true (by omega), h3, t3.trans h4.symm⟩
end
theorem mp_same8 {y z : mp_Y} {kd : Int} (h : 0 ≤ kd ∧ kd ≤ 7) (e : [y, y, y, y, y, y, y, y][Int.toNat kd]? = some z) : y = z := by
  obtain rfl | rfl | rfl | rfl | rfl | rfl | rfl | rfl := mp_kdc h <;> exact Option.some.inj e
/-! ===== skies and rows as the class holds them ===== -/
def sp_isf (s : Int → Int) (j : Int) : Int := if 0 ≤ j ∧ j ≤ 7 then s (1 + 6 * j + 5) else 0
def sp_rof (s : Int → Int) (l : Int) : Int := if 0 ≤ l ∧ l ≤ 4 then s (49 + 3 * l + 0) else 0
def sp_qui (s : Int → Int) (l : Int) : Int := if 0 ≤ l ∧ l ≤ 4 then s (49 + 3 * l + 1) else 0
def sp_sai (s : Int → Int) (l : Int) : Int := if 0 ≤ l ∧ l ≤ 4 then s (49 + 3 * l + 2) else 0
def sp_elm (el : Int → Int) (d j : Int) : Int := if 0 ≤ j ∧ j ≤ 99 then el (100 * d + j) else 0
def mp_c8f (f : Nat → Option Nat) (j : Nat) : Option Nat := if j < 8 then f j else none
theorem sp_isf_in {s : Int → Int} {j : Int} (h : 0 ≤ j ∧ j ≤ 7) : sp_isf s j = s (1 + 6 * j + 5) := if_pos h
theorem sp_rof_in {s : Int → Int} {l : Int} (h : 0 ≤ l ∧ l ≤ 4) : sp_rof s l = s (49 + 3 * l + 0) := if_pos h
theorem sp_qui_in {s : Int → Int} {l : Int} (h : 0 ≤ l ∧ l ≤ 4) : sp_qui s l = s (49 + 3 * l + 1) := if_pos h
theorem sp_sai_in {s : Int → Int} {l : Int} (h : 0 ≤ l ∧ l ≤ 4) : sp_sai s l = s (49 + 3 * l + 2) := if_pos h
theorem sp_elm_in {el : Int → Int} {d j : Int} (h : 0 ≤ j ∧ j ≤ 99) : sp_elm el d j = el (100 * d + j) := if_pos h
theorem mp_c8f_in {f : Nat → Option Nat} {j : Nat} (h : j < 8) : mp_c8f f j = f j := if_pos h
abbrev mp_mc (s : Int → Int) (k : Int) : mp_C := mp_O (Int.toNat (s (1 + 6 * k + 0))) [mp_i (s (1 + 6 * k + 0)), mp_i (s (1 + 6 * k + 1)), mp_i (s (1 + 6 * k + 2)), mp_i (s (1 + 6 * k + 3)), mp_i (s (1 + 6 * k + 4)), mp_i (sp_lasts (s (1 + 6 * k + 0)) (s (1 + 6 * k + 1))), mp_i (sp_bright (s (1 + 6 * k + 0)) (s (1 + 6 * k + 1)))]
def mp_sk (p : Nat) (s : Int → Int) (f : Nat → Option Nat) : mp_H := [mp_O 8 [.ref (p + 1), .ref (p + 2), .ref (p + 3), .ref (p + 4), .ref (p + 5), mp_i (s 0)], mp_R 0 8 (mp_c8f f), mp_I 8 (mp_F (sp_isf s)), mp_I 5 (mp_F (sp_rof s)), mp_I 5 (mp_F (sp_qui s)), mp_I 5 (mp_F (sp_sai s))]
/-- a sky in a heap, with its METEORS -/
def mp_Sk (σ : mp_H) (p : Nat) (s : Int → Int) (f : Nat → Option Nat) : Prop :=
  σ[p]? = some (mp_O 8 [.ref (p + 1), .ref (p + 2), .ref (p + 3), .ref (p + 4), .ref (p + 5), mp_i (s 0)]) ∧ σ[p + 1]? = some (mp_R 0 8 (mp_c8f f)) ∧ σ[p + 2]? = some (mp_I 8 (mp_F (sp_isf s))) ∧ σ[p + 3]? = some (mp_I 5 (mp_F (sp_rof s))) ∧ σ[p + 4]? = some (mp_I 5 (mp_F (sp_qui s))) ∧ σ[p + 5]? = some (mp_I 5 (mp_F (sp_sai s))) ∧
  ∀ k, 0 ≤ k → k < s 0 → ∃ a, f (Int.toNat k) = some a ∧ σ[a]? = some (mp_mc s k)
theorem mp_lkP {A Ms B : mp_H} {p : Nat} (hA : A.length = p) (j : Nat) {c : mp_C} (h : Ms[j]? = some c) : (A ++ (Ms ++ B))[p + j]? = some c := by
  rw [List.getElem?_append_right (by omega), hA, Nat.add_sub_cancel_left, List.getElem?_append_left (List.getElem?_eq_some_iff.mp h).1]
  exact h
theorem mp_stP {A Ms Ms' B : mp_H} {p : Nat} (hA : A.length = p) (j : Nat) {c : mp_C} (hj : j < Ms.length) (h : Ms.set j c = Ms') : (A ++ (Ms ++ B)).set (p + j) c = A ++ (Ms' ++ B) := by
  rw [List.set_append_right _ _ (by omega), hA, Nat.add_sub_cancel_left, List.set_append_left _ _ (by omega), h]
theorem mp_udn {s : Int → Int} {i x j : Int} (h : ¬ j = i) : mp_ud s i x j = s j := if_neg h
theorem sp_isf_ud {s : Int → Int} {j x : Int} (h : 0 ≤ j ∧ j ≤ 7) : mp_ud (sp_isf s) j x = sp_isf (mp_ud s (1 + 6 * j + 5) x) := by
  funext i
  show (if i = j then x else sp_isf s i) = sp_isf (mp_ud s (1 + 6 * j + 5) x) i
  unfold sp_isf
  by_cases h1 : i = j
  · subst h1; rw [if_pos rfl, if_pos h, mp_ud_eq]
  · rw [if_neg h1]; by_cases h2 : 0 ≤ i ∧ i ≤ 7
    · rw [if_pos h2, if_pos h2, mp_udn (by omega)]
    · rw [if_neg h2, if_neg h2]
theorem sp_rof_ud {s : Int → Int} {j x : Int} (h : 0 ≤ j ∧ j ≤ 4) : mp_ud (sp_rof s) j x = sp_rof (mp_ud s (49 + 3 * j + 0) x) := by
  funext i
  show (if i = j then x else sp_rof s i) = sp_rof (mp_ud s (49 + 3 * j + 0) x) i
  unfold sp_rof
  by_cases h1 : i = j
  · subst h1; rw [if_pos rfl, if_pos h, mp_ud_eq]
  · rw [if_neg h1]; by_cases h2 : 0 ≤ i ∧ i ≤ 4
    · rw [if_pos h2, if_pos h2, mp_udn (by omega)]
    · rw [if_neg h2, if_neg h2]
theorem sp_qui_ud {s : Int → Int} {j x : Int} (h : 0 ≤ j ∧ j ≤ 4) : mp_ud (sp_qui s) j x = sp_qui (mp_ud s (49 + 3 * j + 1) x) := by
  funext i
  show (if i = j then x else sp_qui s i) = sp_qui (mp_ud s (49 + 3 * j + 1) x) i
  unfold sp_qui
  by_cases h1 : i = j
  · subst h1; rw [if_pos rfl, if_pos h, mp_ud_eq]
  · rw [if_neg h1]; by_cases h2 : 0 ≤ i ∧ i ≤ 4
    · rw [if_pos h2, if_pos h2, mp_udn (by omega)]
    · rw [if_neg h2, if_neg h2]
theorem sp_sai_ud {s : Int → Int} {j x : Int} (h : 0 ≤ j ∧ j ≤ 4) : mp_ud (sp_sai s) j x = sp_sai (mp_ud s (49 + 3 * j + 2) x) := by
  funext i
  show (if i = j then x else sp_sai s i) = sp_sai (mp_ud s (49 + 3 * j + 2) x) i
  unfold sp_sai
  by_cases h1 : i = j
  · subst h1; rw [if_pos rfl, if_pos h, mp_ud_eq]
  · rw [if_neg h1]; by_cases h2 : 0 ≤ i ∧ i ≤ 4
    · rw [if_pos h2, if_pos h2, mp_udn (by omega)]
    · rw [if_neg h2, if_neg h2]
/-- skies that show the same are one -/
theorem mp_sk_eq {p : Nat} {s t : Int → Int} {f g : Nat → Option Nat} (h0 : s 0 = t 0) (h1 : ∀ j, 0 ≤ j → j ≤ 7 → s (1 + 6 * j + 5) = t (1 + 6 * j + 5)) (h2 : ∀ l, 0 ≤ l → l ≤ 4 → s (49 + 3 * l + 0) = t (49 + 3 * l + 0) ∧ s (49 + 3 * l + 1) = t (49 + 3 * l + 1) ∧ s (49 + 3 * l + 2) = t (49 + 3 * l + 2)) (hf : ∀ j, j < 8 → f j = g j) : mp_sk p s f = mp_sk p t g := by
  have e1 : sp_isf s = sp_isf t := by
    funext j; unfold sp_isf; by_cases h : 0 ≤ j ∧ j ≤ 7
    · rw [if_pos h, if_pos h, h1 j h.1 h.2]
    · rw [if_neg h, if_neg h]
  have e2 : sp_rof s = sp_rof t := by
    funext j; unfold sp_rof; by_cases h : 0 ≤ j ∧ j ≤ 4
    · rw [if_pos h, if_pos h, (h2 j h.1 h.2).1]
    · rw [if_neg h, if_neg h]
  have e3 : sp_qui s = sp_qui t := by
    funext j; unfold sp_qui; by_cases h : 0 ≤ j ∧ j ≤ 4
    · rw [if_pos h, if_pos h, (h2 j h.1 h.2).2.1]
    · rw [if_neg h, if_neg h]
  have e4 : sp_sai s = sp_sai t := by
    funext j; unfold sp_sai; by_cases h : 0 ≤ j ∧ j ≤ 4
    · rw [if_pos h, if_pos h, (h2 j h.1 h.2).2.2]
    · rw [if_neg h, if_neg h]
  have e5 : mp_c8f f = mp_c8f g := by
    funext j; unfold mp_c8f; by_cases h : j < 8
    · rw [if_pos h, if_pos h, hf j h]
    · rw [if_neg h, if_neg h]
  unfold mp_sk
  rw [h0, e1, e2, e3, e4, e5]
theorem mp_sk_isf {p : Nat} {s : Int → Int} {f : Nat → Option Nat} {j x : Int} (h : 0 ≤ j ∧ j ≤ 7) : (mp_sk p s f).set 2 (mp_I 8 (mp_F (mp_ud (sp_isf s) j x))) = mp_sk p (mp_ud s (1 + 6 * j + 5) x) f := by
  rw [sp_isf_ud h]
  have e2 : sp_rof (mp_ud s (1 + 6 * j + 5) x) = sp_rof s := by
    funext l; unfold sp_rof; by_cases h : 0 ≤ l ∧ l ≤ 4
    · rw [if_pos h, if_pos h, mp_udn (by omega)]
    · rw [if_neg h, if_neg h]
  have e3 : sp_qui (mp_ud s (1 + 6 * j + 5) x) = sp_qui s := by
    funext l; unfold sp_qui; by_cases h : 0 ≤ l ∧ l ≤ 4
    · rw [if_pos h, if_pos h, mp_udn (by omega)]
    · rw [if_neg h, if_neg h]
  have e4 : sp_sai (mp_ud s (1 + 6 * j + 5) x) = sp_sai s := by
    funext l; unfold sp_sai; by_cases h : 0 ≤ l ∧ l ≤ 4
    · rw [if_pos h, if_pos h, mp_udn (by omega)]
    · rw [if_neg h, if_neg h]
  unfold mp_sk
  rw [e2, e3, e4, mp_udn (by omega)]
  rfl
theorem mp_sk_L {p : Nat} {s : Int → Int} {f : Nat → Option Nat} {l w x : Int} (h : 0 ≤ l ∧ l ≤ 4) (hw : 0 ≤ w ∧ w ≤ 2) : mp_sk p (mp_ud s (49 + 3 * l + w) x) f = [mp_O 8 [.ref (p + 1), .ref (p + 2), .ref (p + 3), .ref (p + 4), .ref (p + 5), mp_i (s 0)], mp_R 0 8 (mp_c8f f), mp_I 8 (mp_F (sp_isf s)), mp_I 5 (mp_F (if w = 0 then mp_ud (sp_rof s) l x else sp_rof s)), mp_I 5 (mp_F (if w = 1 then mp_ud (sp_qui s) l x else sp_qui s)), mp_I 5 (mp_F (if w = 2 then mp_ud (sp_sai s) l x else sp_sai s))] := by
  have e1 : sp_isf (mp_ud s (49 + 3 * l + w) x) = sp_isf s := by
    funext j; unfold sp_isf; by_cases h : 0 ≤ j ∧ j ≤ 7
    · rw [if_pos h, if_pos h, mp_udn (by omega)]
    · rw [if_neg h, if_neg h]
  have e2 : sp_rof (mp_ud s (49 + 3 * l + w) x) = (if w = 0 then mp_ud (sp_rof s) l x else sp_rof s) := by
    by_cases hz : w = 0
    · subst hz; rw [if_pos rfl, sp_rof_ud h]
    · rw [if_neg hz]; funext j; unfold sp_rof; by_cases h : 0 ≤ j ∧ j ≤ 4
      · rw [if_pos h, if_pos h, mp_udn (by omega)]
      · rw [if_neg h, if_neg h]
  have e3 : sp_qui (mp_ud s (49 + 3 * l + w) x) = (if w = 1 then mp_ud (sp_qui s) l x else sp_qui s) := by
    by_cases hz : w = 1
    · subst hz; rw [if_pos rfl, sp_qui_ud h]
    · rw [if_neg hz]; funext j; unfold sp_qui; by_cases h : 0 ≤ j ∧ j ≤ 4
      · rw [if_pos h, if_pos h, mp_udn (by omega)]
      · rw [if_neg h, if_neg h]
  have e4 : sp_sai (mp_ud s (49 + 3 * l + w) x) = (if w = 2 then mp_ud (sp_sai s) l x else sp_sai s) := by
    by_cases hz : w = 2
    · subst hz; rw [if_pos rfl, sp_sai_ud h]
    · rw [if_neg hz]; funext j; unfold sp_sai; by_cases h : 0 ≤ j ∧ j ≤ 4
      · rw [if_pos h, if_pos h, mp_udn (by omega)]
      · rw [if_neg h, if_neg h]
  unfold mp_sk
  rw [e1, e2, e3, e4, mp_udn (by omega)]
theorem mp_sk_rof {p : Nat} {s : Int → Int} {f : Nat → Option Nat} {l x : Int} (h : 0 ≤ l ∧ l ≤ 4) : (mp_sk p s f).set 3 (mp_I 5 (mp_F (mp_ud (sp_rof s) l x))) = mp_sk p (mp_ud s (49 + 3 * l + 0) x) f := by
  rw [mp_sk_L h (by decide)]; rfl
theorem mp_sk_qui {p : Nat} {s : Int → Int} {f : Nat → Option Nat} {l x : Int} (h : 0 ≤ l ∧ l ≤ 4) : (mp_sk p s f).set 4 (mp_I 5 (mp_F (mp_ud (sp_qui s) l x))) = mp_sk p (mp_ud s (49 + 3 * l + 1) x) f := by
  rw [mp_sk_L h (by decide)]; rfl
theorem mp_sk_sai {p : Nat} {s : Int → Int} {f : Nat → Option Nat} {l x : Int} (h : 0 ≤ l ∧ l ≤ 4) : (mp_sk p s f).set 5 (mp_I 5 (mp_F (mp_ud (sp_sai s) l x))) = mp_sk p (mp_ud s (49 + 3 * l + 2) x) f := by
  rw [mp_sk_L h (by decide)]; rfl
theorem mp_sk_many {p : Nat} {s : Int → Int} {f : Nat → Option Nat} {x : Int} : (mp_sk p s f).set 0 (mp_O 8 [.ref (p + 1), .ref (p + 2), .ref (p + 3), .ref (p + 4), .ref (p + 5), mp_i x]) = mp_sk p (mp_ud s 0 x) f := by
  have e1 : sp_isf (mp_ud s 0 x) = sp_isf s := by
    funext j; unfold sp_isf; by_cases h : 0 ≤ j ∧ j ≤ 7
    · rw [if_pos h, if_pos h, mp_udn (by omega)]
    · rw [if_neg h, if_neg h]
  have e2 : sp_rof (mp_ud s 0 x) = sp_rof s := by
    funext j; unfold sp_rof; by_cases h : 0 ≤ j ∧ j ≤ 4
    · rw [if_pos h, if_pos h, mp_udn (by omega)]
    · rw [if_neg h, if_neg h]
  have e3 : sp_qui (mp_ud s 0 x) = sp_qui s := by
    funext j; unfold sp_qui; by_cases h : 0 ≤ j ∧ j ≤ 4
    · rw [if_pos h, if_pos h, mp_udn (by omega)]
    · rw [if_neg h, if_neg h]
  have e4 : sp_sai (mp_ud s 0 x) = sp_sai s := by
    funext j; unfold sp_sai; by_cases h : 0 ≤ j ∧ j ≤ 4
    · rw [if_pos h, if_pos h, mp_udn (by omega)]
    · rw [if_neg h, if_neg h]
  unfold mp_sk
  rw [e1, e2, e3, e4, mp_ud_eq]
  rfl
theorem mp_c8f_up {f : Nat → Option Nat} {i : Nat} {v : Option Nat} (h : i < 8) : va_up (mp_c8f f) i v = mp_c8f (va_up f i v) := by
  funext j
  show (if j = i then v else mp_c8f f j) = (if j < 8 then (if j = i then v else f j) else none)
  by_cases hj : j = i
  · subst hj; rw [if_pos rfl, if_pos h, if_pos rfl]
  · rw [if_neg hj]; unfold mp_c8f; by_cases h8 : j < 8
    · rw [if_pos h8, if_pos h8, if_neg hj]
    · rw [if_neg h8, if_neg h8]
theorem mp_sk_met {p : Nat} {s : Int → Int} {f : Nat → Option Nat} {i : Nat} {v : Option Nat} (h : i < 8) : (mp_sk p s f).set 1 (mp_R 0 8 (va_up (mp_c8f f) i v)) = mp_sk p s (va_up f i v) := by
  rw [mp_c8f_up h]; rfl
/-! ===== loops that pass over what is not there ===== -/
theorem mp_fold_none {α : Type} {F : Int → α → α} : ∀ (n : Nat) (i : Int) (a : α), (∀ j b, i ≤ j → F j b = b) → mp_fold F n i a = a := by
  intro n
  induction n with
  | zero => intro i a _; rfl
  | succ n ih => intro i a h; show mp_fold F n (i + 1) (F i a) = a; rw [h i a (Int.le_refl _)]; exact ih (i + 1) a (fun j b hj => h j b (by omega))
theorem mp_fold_congr {α : Type} {F G : Int → α → α} : ∀ (n : Nat) (i : Int) (a : α), (∀ j b, i ≤ j → j < i + n → F j b = G j b) → mp_fold F n i a = mp_fold G n i a := by
  intro n
  induction n with
  | zero => intro i a _; rfl
  | succ n ih => intro i a h; show mp_fold F n (i + 1) (F i a) = mp_fold G n (i + 1) (G i a); rw [h i a (by omega) (by omega)]; exact ih (i + 1) _ (fun j b h1 h2 => h j b (by omega) (by omega))
theorem mp_fold_app {α : Type} {F : Int → α → α} : ∀ (n m : Nat) (i : Int) (a : α), mp_fold F (n + m) i a = mp_fold F m (i + n) (mp_fold F n i a) := by
  intro n
  induction n with
  | zero => intro m i a; rw [Nat.zero_add]; show _ = mp_fold F m (i + (0 : Nat)) a; rw [show i + ((0 : Nat) : Int) = i by omega]
  | succ n ih =>
    intro m i a
    rw [show n + 1 + m = (n + m) + 1 by omega]
    show mp_fold F (n + m) (i + 1) (F i a) = mp_fold F m (i + ((n + 1 : Nat) : Int)) (mp_fold F n (i + 1) (F i a))
    rw [ih, show i + 1 + (n : Int) = i + ((n + 1 : Nat) : Int) by omega]
theorem mp_fold_8 {α : Type} {F : Int → α → α} {N : Int} (h : 0 ≤ N ∧ N ≤ 8) (a : α) : mp_fold (fun k b => if k < N then F k b else b) 8 0 a = mp_fold F (Int.toNat N) 0 a := by
  have e : (8 : Nat) = Int.toNat N + (8 - Int.toNat N) := by omega
  rw [e, mp_fold_app, mp_fold_none _ _ _ (fun j b hj => if_neg (by omega))]
  exact mp_fold_congr _ _ _ (fun j b h1 h2 => if_pos (by omega))
theorem mp_set2 {σ : mp_H} {k : Nat} {a b : mp_C} : (σ.set k a).set k b = σ.set k b := List.set_set ..
