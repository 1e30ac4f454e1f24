/-! ===== the class: numbers, the image, nights in mind, shelves ===== -/
theorem mp_csNew {s si sp : Int → Int} {f fi fp : Nat → Option Nat} {im : Int} {hd : Int → Int} {kn : Nat → Option Nat} {wd ak ke cv vo so sz el : Int → Int} {A B : mp_H} {c : mp_C} (hA : A.length = 1) : (A ++ (mp_cs s si sp f fi fp im hd kn wd ak ke cv vo so sz el ++ (B ++ [c])))[44 + List.length B]? = some c := by
  rw [← mp_csPush, ← mp_cs_len (s := s) (si := si) (sp := sp) (f := f) (fi := fi) (fp := fp) (im := im) (hd := hd) (kn := kn) (wd := wd) (ak := ak) (ke := ke) (cv := cv) (vo := vo) (so := so) (sz := sz) (el := el) (B := B) hA]
  exact mp_atE
theorem mp_csSetNew {s si sp : Int → Int} {f fi fp : Nat → Option Nat} {im : Int} {hd : Int → Int} {kn : Nat → Option Nat} {wd ak ke cv vo so sz el : Int → Int} {A B : mp_H} {c c' : mp_C} (hA : A.length = 1) : (A ++ (mp_cs s si sp f fi fp im hd kn wd ak ke cv vo so sz el ++ (B ++ [c]))).set (44 + List.length B) c' = A ++ (mp_cs s si sp f fi fp im hd kn wd ak ke cv vo so sz el ++ (B ++ [c'])) := by
  rw [← mp_csPush, ← mp_csPush, ← mp_cs_len (s := s) (si := si) (sp := sp) (f := f) (fi := fi) (fp := fp) (im := im) (hd := hd) (kn := kn) (wd := wd) (ak := ak) (ke := ke) (cv := cv) (vo := vo) (so := so) (sz := sz) (el := el) (B := B) hA]
  exact mp_stE
theorem sp_elm_ud {el : Int → Int} {d i v : Int} (h : 0 ≤ i ∧ i ≤ 99) : mp_ud (sp_elm el d) i v = sp_elm (mp_ud el (100 * d + i) v) d := by
  funext j
  show (if j = i then v else sp_elm el d j) = sp_elm (mp_ud el (100 * d + i) v) d j
  unfold sp_elm
  by_cases h1 : j = i
  · subst h1; rw [if_pos rfl, if_pos h, mp_ud_eq]
  · rw [if_neg h1]; by_cases h2 : 0 ≤ j ∧ j ≤ 99
    · rw [if_pos h2, if_pos h2, mp_udn (by omega)]
    · rw [if_neg h2, if_neg h2]
theorem sp_elm_ne {el el' : Int → Int} {d : Int} (e : ∀ x, ¬ (100 * d ≤ x ∧ x < 100 * d + 100) → el' x = el x) {j : Int} (h : j ≠ d) : sp_elm el' j = sp_elm el j := by
  funext x
  unfold sp_elm
  by_cases h2 : 0 ≤ x ∧ x ≤ 99
  · rw [if_pos h2, if_pos h2, e _ (by omega)]
  · rw [if_neg h2, if_neg h2]
theorem sp_zero_eq {el : Int → Int} {d : Int} : ∀ x, sp_zero el d x = if 100 * d ≤ x ∧ x < 100 * d + 100 then 0 else el x := by
  have key : ∀ (n : Nat) (i : Int) (q : Int → Int), ∀ x, mp_fold (fun k q => mp_ud q (100 * d + k) 0) n i q x = if 100 * d + i ≤ x ∧ x < 100 * d + i + n then 0 else q x := by
    intro n
    induction n with
    | zero => intro i q x; show q x = _; rw [if_neg (by omega)]
    | succ n ih =>
      intro i q x
      show mp_fold (fun k q => mp_ud q (100 * d + k) 0) n (i + 1) (mp_ud q (100 * d + i) 0) x = _
      rw [ih]
      by_cases h1 : 100 * d + (i + 1) ≤ x ∧ x < 100 * d + (i + 1) + n
      · rw [if_pos h1, if_pos (by omega)]
      · rw [if_neg h1]
        by_cases h2 : x = 100 * d + i
        · subst h2; rw [mp_ud_eq, if_pos (by omega)]
        · rw [mp_udn h2, if_neg (by omega)]
  intro x
  have := key 100 0 el x
  unfold sp_zero
  rw [this]
  by_cases h : 100 * d ≤ x ∧ x < 100 * d + 100
  · rw [if_pos h, if_pos (by omega)]
  · rw [if_neg h, if_neg (by omega)]
theorem sp_elm_zero {el : Int → Int} {d : Int} : sp_elm (sp_zero el d) d = fun _ => 0 := by
  funext x
  unfold sp_elm
  by_cases h : 0 ≤ x ∧ x ≤ 99
  · rw [if_pos h, sp_zero_eq, if_pos (by omega)]
  · rw [if_neg h]
theorem mp_alk_rf {d : Int} {so sz el : Int → Int} : mp_alk d so so sz sz el el := fun _ _ _ _ => ⟨rfl, rfl, rfl⟩
theorem mp_alk_el {d i v : Int} {so sz el : Int → Int} (h : 0 ≤ i ∧ i ≤ 99) : mp_alk d so so sz sz el (mp_ud el (100 * d + i) v) := fun j _ _ hj => ⟨rfl, rfl, sp_elm_ne (fun x hx => mp_udn (by omega)) hj⟩
theorem mp_alk_new {d o n : Int} {so sz el : Int → Int} : mp_alk d so (mp_ud so d o) sz (mp_ud sz d n) el (sp_zero el d) := fun j _ _ hj => ⟨mp_udn hj, mp_udn hj, sp_elm_ne (fun x hx => by rw [sp_zero_eq, if_neg hx]) hj⟩
/-! nights go by: METEORS as they were -/
theorem mp_runStep_al {w k : Int} {p : (Int → Int) × Int} {j : Int} (hj : j < 49) : (sp_runStep w k p).1 j = p.1 j := by
  unfold sp_runStep
  by_cases h1 : p.1 (1 + 6 * k + 4) ≠ w ∨ sp_isSaid p.1 k 5 0 ≠ 0
  · rw [if_pos h1]
  · rw [if_neg h1]
    by_cases h2 : sp_taker p.1 k 1 < 0
    · rw [if_pos h2]
    · rw [if_neg h2]; exact mp_udn (by omega)
theorem mp_runs_al {s : Int → Int} {w j : Int} (hj : j < 49) : (sp_runs s w).1 j = s j := by
  have key : ∀ (n : Nat) (i : Int) (p : (Int → Int) × Int), (mp_fold (sp_runStep w) n i p).1 j = p.1 j := by
    intro n
    induction n with
    | zero => intro i p; rfl
    | succ n ih => intro i p; show (mp_fold (sp_runStep w) n (i + 1) (sp_runStep w i p)).1 j = _; rw [ih, mp_runStep_al hj]
  exact key _ _ _
theorem mp_run_runs {s : Int → Int} {w : Int} (h : 0 ≤ w ∧ w ≤ 30) : (sp_run s w).2 = (sp_runs s w).1 := by unfold sp_run; rw [if_neg (by omega)]
/-! least terms: after the first turn a turn halves the product -/
def mp_eu (n : Nat) (x y : Int) : Prop := 1 ≤ n ∧ (y % x) * x < ((2 ^ (n - 1) : Nat) : Int)
theorem mp_half {r x : Int} (hr : 0 < r) (hx : r < x) : 2 * ((x % r) * r) < r * x := by
  have h1 := Int.emod_nonneg x (by omega : r ≠ 0)
  have h2 := Int.emod_lt_of_pos x hr
  have h3 := Int.emod_add_mul_ediv x r
  have h4 : 1 ≤ x / r := by
    have := Int.ediv_le_ediv hr (Int.le_of_lt hx)
    rwa [Int.ediv_self (by omega)] at this
  have h5 : r ≤ r * (x / r) := by
    have := Int.mul_le_mul_of_nonneg_left h4 (Int.le_of_lt hr)
    rwa [Int.mul_one] at this
  have h6 : 2 * (x % r) < x := by omega
  have h7 := Int.mul_lt_mul_of_pos_left h6 hr
  rw [show 2 * ((x % r) * r) = r * (2 * (x % r)) by rw [← Int.mul_assoc, Int.mul_comm]]
  exact h7
theorem mp_eu_step {n : Nat} {x y : Int} (hx : 0 < x) (h : mp_eu (n + 1) x y) : y % x = 0 ∨ mp_eu n (y % x) x := by
  have h1 := Int.emod_nonneg y (by omega : x ≠ 0)
  have h2 := Int.emod_lt_of_pos y hx
  by_cases h0 : y % x = 0
  · exact Or.inl h0
  · refine Or.inr ?_
    have hb := h.2
    rw [Nat.add_sub_cancel] at hb
    have hh := mp_half (r := y % x) (x := x) (by omega) h2
    have hp : 1 ≤ (x % (y % x)) * (y % x) + 1 := by
      have := Int.mul_nonneg (Int.emod_nonneg x h0) h1
      omega
    have hq : 1 ≤ (y % x) * x := Int.mul_pos (by omega) hx
    cases n with
    | zero => exfalso; rw [Nat.pow_zero] at hb; omega
    | succ n =>
      refine ⟨by omega, ?_⟩
      rw [Nat.add_sub_cancel]
      rw [Nat.pow_succ] at hb
      generalize 2 ^ n = k at hb ⊢
      omega
theorem mp_eu_first {x y : Int} (hx : 0 < x ∧ x < 9223372036854775808) : mp_eu 128 x y := by
  refine ⟨by decide, ?_⟩
  have h2 := Int.emod_lt_of_pos y hx.1
  have h1 := Int.emod_nonneg y (by omega : x ≠ 0)
  have h3 : (y % x) * x ≤ x * x := Int.mul_le_mul_of_nonneg_right (by omega) (by omega)
  have h4 : x * x ≤ 9223372036854775808 * 9223372036854775808 := Int.mul_le_mul (by omega) (by omega) (by omega) (by omega)
  have h5 : ((2 ^ (128 - 1) : Nat) : Int) = 170141183460469231731687303715884105728 := by decide
  rw [h5]
  omega
theorem mp_eu_ini {x y : Int} (hx : 0 ≤ x ∧ x < 9223372036854775808) : x = 0 ∨ mp_eu 128 x y := by
  by_cases h : x = 0
  · exact Or.inl h
  · exact Or.inr (mp_eu_first (by omega))
theorem mp_part_max {a b w : Int} (ha : 0 ≤ a) (hb : 0 ≤ b) (h : b = 0 → a = 0) (hw : 0 ≤ w ∧ w ≤ 1) : (if w = 0 then a else (if 1 < b then b else 1)) / (Int.gcd a (if 1 < b then b else 1) : Int) = sp_part a b w := by
  unfold sp_part
  by_cases ha0 : a = 0
  · subst ha0
    rw [if_pos rfl, Int.gcd_zero_left]
    by_cases h1 : 1 < b
    · rw [if_pos h1]
      by_cases hw0 : w = 0
      · rw [if_pos hw0, Int.zero_ediv]; omega
      · rw [if_neg hw0, Int.natAbs_of_nonneg (by omega), Int.ediv_self (by omega)]; omega
    · rw [if_neg h1]
      by_cases hw0 : w = 0
      · rw [if_pos hw0]; show (0 : Int) / 1 = w; omega
      · rw [if_neg hw0]; show (1 : Int) / 1 = w; omega
  · rw [if_neg ha0]
    by_cases h1 : 1 < b
    · rw [if_pos h1]
    · rw [if_neg h1, show b = 1 by omega]
theorem mp_nights_al (s : Int → Int) : ∀ j, 0 ≤ j → j < 49 → sp_nights s j = s j := by
  intro j h0 h1
  have key : ∀ (n : Nat) (i : Int) (q : Int → Int), (mp_fold (fun w q => (sp_runs q w).1) n i q) j = q j := by
    intro n
    induction n with
    | zero => intro i q; rfl
    | succ n ih => intro i q; show (mp_fold (fun w q => (sp_runs q w).1) n (i + 1) ((sp_runs q i).1)) j = _; rw [ih, mp_runs_al h1]
  exact key _ _ _

theorem zX11_scorched {s si sp : Int → Int} {f fi fp : Nat → Option Nat} {im : Int} {hd : Int → Int} {kn : Nat → Option Nat} {wd ak ke cv vo so sz el : Int → Int} {A B : mp_H}  {l : Int} (hA : A.length = 1) (hs : mp_sky s) (hMt : mp_Mt (A ++ (mp_cs s si sp f fi fp im hd kn wd ak ke cv vo so sz el ++ B)) s f) (h_l : mp_w l) : mp_Call (mX11_scorched, 3, 0, 0) [Value.ref 1, mp_i l] (A ++ (mp_cs s si sp f fi fp im hd kn wd ak ke cv vo so sz el ++ B)) (some (mp_i (sp_scorched s l)), A ++ (mp_cs s si sp f fi fp im hd kn wd ak ke cv vo so sz el ++ B)) := by
  refine mp_Call.of (L := [some (Value.ref 1), some (mp_i l), none]) pnX11 (Nat.le_of_ble_eq_true rfl) rfl ?_
  have hz0 := hs.1
  refine mp_iload_n dX11_scorched_0 rfl ?_
  refine mp_iconst dX11_scorched_1 ?_
  refine mp_invS (z := (mX11_isBelow, 0, 0, 0)) (K' := (0, 0)) (σ1 := A ++ (mp_cs s si sp f fi fp im hd kn wd ak ke cv vo so sz el ++ B)) (as := [mp_i l, mp_i 5]) (st := []) (st1 := [mp_i (if 0 ≤ l ∧ l < 5 then 1 else 0)]) dX11_scorched_2 ssX11_54 (zX11_isBelow (v := l) (n := 5) (by first | with_reducible assumption | omega) (by first | with_reducible assumption | omega)) ⟨Nat.le_of_ble_eq_true rfl, Nat.le_of_ble_eq_true rfl, Nat.le_of_ble_eq_true rfl, Nat.le_of_ble_eq_true rfl, Nat.le_of_ble_eq_true rfl⟩ rfl rfl rfl rfl ?_
  refine mp_ifb_ne (tgt := 10) dX11_scorched_5 rfl (fun h1 => ?_) (fun h1 => ?_)
  · have hl9 := hs.2.2.1 l (by omega) (by omega)
    refine mp_aload_n dX11_scorched_10 rfl ?_
    refine mp_getfield dX11_scorched_11 fsX11_10_10 (mp_lkP hA 0 rfl) rfl ?_
    refine mp_aload_n dX11_scorched_14 rfl ?_
    refine mp_getfield dX11_scorched_15 fsX11_10_10 (mp_lkP hA 0 rfl) rfl ?_
    refine mp_getfield dX11_scorched_18 fsX11_133_8 (mp_lkP hA 1 rfl) rfl ?_
    refine mp_iload_n dX11_scorched_21 rfl ?_
    refine mp_iald dX11_scorched_22 (mp_lkP hA 6 rfl) ⟨by omega, by omega⟩ (by omega) ?_
    refine mp_top (y := s (49 + 3 * l + 2)) (sp_sai_in ⟨by omega, by omega⟩) ?_
    by_cases hm2 : 0 ≤ s (49 + 3 * l + 2) ∧ s (49 + 3 * l + 2) < s 0
    · obtain ⟨a2, hf2, hc2⟩ := (mp_Sk.of (σ := A ++ (mp_cs s si sp f fi fp im hd kn wd ak ke cv vo so sz el ++ B)) (mp_skC2 hA) hMt).2.2.2.2.2.2 (s (49 + 3 * l + 2)) hm2.1 hm2.2
      have ht2 := hs.2.1 (s (49 + 3 * l + 2)) hm2.1 hm2.2
      have hl2 := mp_lasts_bd (kind := (s (1 + 6 * (s (49 + 3 * l + 2)) + 0))) (f := (s (1 + 6 * (s (49 + 3 * l + 2)) + 1))) (by omega)
      have hr2 := mp_bright_bd (kind := (s (1 + 6 * (s (49 + 3 * l + 2)) + 0))) (f := (s (1 + 6 * (s (49 + 3 * l + 2)) + 1))) (by omega)
      refine mp_invV (z := (mX6_at, 0, 0, 0)) (K' := (0, 0)) (σ1 := A ++ (mp_cs s si sp f fi fp im hd kn wd ak ke cv vo so sz el ++ B)) (as := [mp_i (s (49 + 3 * l + 2))]) (st := []) (st1 := [Value.ref a2]) dX11_scorched_23 svX11_93 (mp_Sk.of (σ := A ++ (mp_cs s si sp f fi fp im hd kn wd ak ke cv vo so sz el ++ B)) (mp_skC2 hA) hMt).1 rfl rfl (zX6_at (p := 2) (m := (s (49 + 3 * l + 2))) (a := a2) (s := s) (f := f) (mp_Sk.of (σ := A ++ (mp_cs s si sp f fi fp im hd kn wd ak ke cv vo so sz el ++ B)) (mp_skC2 hA) hMt) hm2 (by omega) hf2) ⟨Nat.le_of_ble_eq_true rfl, Nat.le_of_ble_eq_true rfl, Nat.le_of_ble_eq_true rfl, Nat.le_of_ble_eq_true rfl, Nat.le_of_ble_eq_true rfl⟩ rfl rfl rfl rfl ?_
      refine mp_astore_n (L' := [some (Value.ref 1), some (mp_i l), some (Value.ref a2)]) dX11_scorched_26 rfl (by decide) rfl ?_
      refine mp_aload_n dX11_scorched_27 rfl ?_
      refine mp_ifnonnull_r (tgt := 35) dX11_scorched_28 rfl ?_
      refine mp_iconst dX11_scorched_35 ?_
      refine mp_aload_n dX11_scorched_36 rfl ?_
      refine mp_inv8 (kd := (s (1 + 6 * (s (49 + 3 * l + 2)) + 0))) (σ1 := A ++ (mp_cs s si sp f fi fp im hd kn wd ak ke cv vo so sz el ++ B)) (as := []) (st := [mp_i 0]) (st1 := [mp_i (sp_heat (s (1 + 6 * (s (49 + 3 * l + 2)) + 0)) (s (1 + 6 * (s (49 + 3 * l + 2)) + 1))), mp_i 0]) dX11_scorched_37 (by omega) s8X11_124 hc2 (fa_heat (a := a2) (kd := (s (1 + 6 * (s (49 + 3 * l + 2)) + 0))) (f := (s (1 + 6 * (s (49 + 3 * l + 2)) + 1))) (co := (s (1 + 6 * (s (49 + 3 * l + 2)) + 2))) (sl := (s (1 + 6 * (s (49 + 3 * l + 2)) + 3))) (ni := (s (1 + 6 * (s (49 + 3 * l + 2)) + 4))) (la := (sp_lasts (s (1 + 6 * (s (49 + 3 * l + 2)) + 0)) (s (1 + 6 * (s (49 + 3 * l + 2)) + 1)))) (br := (sp_bright (s (1 + 6 * (s (49 + 3 * l + 2)) + 0)) (s (1 + 6 * (s (49 + 3 * l + 2)) + 1)))) hc2 (by first | with_reducible assumption | omega) (by first | with_reducible assumption | omega)) (Nat.le_of_ble_eq_true rfl) ⟨Nat.le_of_ble_eq_true rfl, Nat.le_of_ble_eq_true rfl⟩ (Nat.le_of_ble_eq_true rfl) rfl rfl rfl ?_
      have b3 := @mp_heat_bd (s (1 + 6 * (s (49 + 3 * l + 2)) + 0)) (s (1 + 6 * (s (49 + 3 * l + 2)) + 1)) (by omega)
      refine mp_aload_n dX11_scorched_40 rfl ?_
      refine mp_getfield dX11_scorched_41 fsX11_10_10 (mp_lkP hA 0 rfl) rfl ?_
      refine mp_getfield dX11_scorched_44 fsX11_130_8 (mp_lkP hA 1 rfl) rfl ?_
      refine mp_iload_n dX11_scorched_47 rfl ?_
      refine mp_iald dX11_scorched_48 (mp_lkP hA 5 rfl) ⟨by omega, by omega⟩ (by omega) ?_
      refine mp_top (y := s (49 + 3 * l + 1)) (sp_qui_in ⟨by omega, by omega⟩) ?_
      refine mp_isub (z := (sp_heat (s (1 + 6 * (s (49 + 3 * l + 2)) + 0)) (s (1 + 6 * (s (49 + 3 * l + 2)) + 1))) - (s (49 + 3 * l + 1))) dX11_scorched_49 (by first | rfl | omega) ?_
      refine mp_mmax (z := if 0 < (sp_heat (s (1 + 6 * (s (49 + 3 * l + 2)) + 0)) (s (1 + 6 * (s (49 + 3 * l + 2)) + 1))) - (s (49 + 3 * l + 1)) then (sp_heat (s (1 + 6 * (s (49 + 3 * l + 2)) + 0)) (s (1 + 6 * (s (49 + 3 * l + 2)) + 1))) - (s (49 + 3 * l + 1)) else 0) dX11_scorched_50 ssX11_238 (by decide) (Nat.le_of_ble_eq_true rfl) ⟨by decide, by decide⟩ ⟨by omega, by omega⟩ ⟨by omega, by omega⟩ rfl ?_
      exact mp_ireturn (st := []) dX11_scorched_53 rfl ⟨by decide, by decide⟩ ((mp_ans (by unfold sp_scorched; first | (rw [if_pos (by omega)]; done) | (rw [if_neg (by omega), if_pos (by omega)]; done) | (rw [if_neg (by omega), if_neg (by omega)]; omega))))
    · refine mp_invV (z := (mX6_at, 0, 0, 0)) (K' := (0, 0)) (σ1 := A ++ (mp_cs s si sp f fi fp im hd kn wd ak ke cv vo so sz el ++ B)) (as := [mp_i (s (49 + 3 * l + 2))]) (st := []) (st1 := [Value.null]) dX11_scorched_23 svX11_93 (mp_Sk.of (σ := A ++ (mp_cs s si sp f fi fp im hd kn wd ak ke cv vo so sz el ++ B)) (mp_skC2 hA) hMt).1 rfl rfl (zX6_atN (p := 2) (m := (s (49 + 3 * l + 2))) (s := s) (f := f) (mp_Sk.of (σ := A ++ (mp_cs s si sp f fi fp im hd kn wd ak ke cv vo so sz el ++ B)) (mp_skC2 hA) hMt) hm2 (by omega) (by omega)) ⟨Nat.le_of_ble_eq_true rfl, Nat.le_of_ble_eq_true rfl, Nat.le_of_ble_eq_true rfl, Nat.le_of_ble_eq_true rfl, Nat.le_of_ble_eq_true rfl⟩ rfl rfl rfl rfl ?_
      refine mp_astore_nN (L' := [some (Value.ref 1), some (mp_i l), some (Value.null)]) dX11_scorched_26 rfl (by decide) rfl ?_
      refine mp_aload_nN dX11_scorched_27 rfl ?_
      refine mp_ifnonnull_n dX11_scorched_28 ?_
      refine mp_iconst dX11_scorched_31 ?_
      refine mp_goto (tgt := 53) dX11_scorched_32 rfl ?_
      exact mp_ireturn (st := []) dX11_scorched_53 rfl ⟨by decide, by decide⟩ ((mp_ans (by unfold sp_scorched; first | (rw [if_pos (by omega)]; done) | (rw [if_neg (by omega), if_pos (by omega)]; done) | (rw [if_neg (by omega), if_neg (by omega)]; omega))))
  · refine mp_iconst dX11_scorched_8 ?_
    exact mp_ireturn (st := []) dX11_scorched_9 rfl ⟨by decide, by decide⟩ ((mp_ans (by unfold sp_scorched; first | (rw [if_pos (by omega)]; done) | (rw [if_neg (by omega), if_pos (by omega)]; done) | (rw [if_neg (by omega), if_neg (by omega)]; omega))))
theorem lX11_meteorsOf_4 {s si sp : Int → Int} {f fi fp : Nat → Option Nat} {im : Int} {hd : Int → Int} {kn : Nat → Option Nat} {wd ak ke cv vo so sz el : Int → Int} {A B : mp_H}  {x : Int} (hA : A.length = 1) (hs : mp_sky s) (hMt : mp_Mt (A ++ (mp_cs s si sp f fi fp im hd kn wd ak ke cv vo so sz el ++ B)) s f) (h_x : 0 ≤ x ∧ x ≤ 1000) {R9 : mp_An} : ∀ (n : Nat) (t : Int) (v : Int), ((0 ≤ t ∧ t + (n : Nat) = 8) ∧ 0 ≤ v ∧ v ≤ t) → mp_At (mX11_meteorsOf, 1, 0, 0) (0, 0) 43 [some (Value.ref 1), some (mp_i x), some (mp_i (mp_fold (fun k b => if k < s 0 then (fun k n => n + (if s (1 + 6 * k + 4) = x then 1 else 0)) k b else b) n t v)), none, none] [] (A ++ (mp_cs s si sp f fi fp im hd kn wd ak ke cv vo so sz el ++ B)) R9 → mp_At (mX11_meteorsOf, 1, 0, 0) (0, 0) 4 [some (Value.ref 1), some (mp_i x), some (mp_i v), some (mp_i t), none] [] (A ++ (mp_cs s si sp f fi fp im hd kn wd ak ke cv vo so sz el ++ B)) R9 := by
  intro n
  induction n with
  | zero =>
    intro t v hi hk
    have hz0 := hs.1
    refine mp_iload_n dX11_meteorsOf_4 rfl ?_
    refine mp_bipush dX11_meteorsOf_5 rfl ?_
    refine mp_icmp_ge (tgt := 43) dX11_meteorsOf_7 rfl ⟨by omega, by omega⟩ ⟨by omega, by omega⟩ (fun h1 => ?_) (fun h1 => ?_)
    · refine mp_drop (L' := [some (Value.ref 1), some (mp_i x), some (mp_i v), none, none]) [true, true, true, false, false] rfl ?_
      exact hk
    · exfalso; omega
  | succ n ih =>
    intro t v hi hk
    have hz0 := hs.1
    refine mp_iload_n dX11_meteorsOf_4 rfl ?_
    refine mp_bipush dX11_meteorsOf_5 rfl ?_
    refine mp_icmp_ge (tgt := 43) dX11_meteorsOf_7 rfl ⟨by omega, by omega⟩ ⟨by omega, by omega⟩ (fun h1 => ?_) (fun h1 => ?_)
    · exfalso; omega
    · refine mp_aload_n dX11_meteorsOf_10 rfl ?_
      refine mp_getfield dX11_meteorsOf_11 fsX11_10_10 (mp_lkP hA 0 rfl) rfl ?_
      refine mp_iload_n dX11_meteorsOf_14 rfl ?_
      by_cases hm2 : 0 ≤ t ∧ t < s 0
      · obtain ⟨a2, hf2, hc2⟩ := (mp_Sk.of (σ := A ++ (mp_cs s si sp f fi fp im hd kn wd ak ke cv vo so sz el ++ B)) (mp_skC2 hA) hMt).2.2.2.2.2.2 t hm2.1 hm2.2
        have ht2 := hs.2.1 t hm2.1 hm2.2
        have hl2 := mp_lasts_bd (kind := (s (1 + 6 * t + 0))) (f := (s (1 + 6 * t + 1))) (by omega)
        have hr2 := mp_bright_bd (kind := (s (1 + 6 * t + 0))) (f := (s (1 + 6 * t + 1))) (by omega)
        refine mp_invV (z := (mX6_at, 0, 0, 0)) (K' := (0, 0)) (σ1 := A ++ (mp_cs s si sp f fi fp im hd kn wd ak ke cv vo so sz el ++ B)) (as := [mp_i t]) (st := []) (st1 := [Value.ref a2]) dX11_meteorsOf_15 svX11_93 (mp_Sk.of (σ := A ++ (mp_cs s si sp f fi fp im hd kn wd ak ke cv vo so sz el ++ B)) (mp_skC2 hA) hMt).1 rfl rfl (zX6_at (p := 2) (m := t) (a := a2) (s := s) (f := f) (mp_Sk.of (σ := A ++ (mp_cs s si sp f fi fp im hd kn wd ak ke cv vo so sz el ++ B)) (mp_skC2 hA) hMt) hm2 (by omega) hf2) ⟨Nat.le_of_ble_eq_true rfl, Nat.le_of_ble_eq_true rfl, Nat.le_of_ble_eq_true rfl, Nat.le_of_ble_eq_true rfl, Nat.le_of_ble_eq_true rfl⟩ rfl rfl rfl rfl ?_
        refine mp_astore (L' := [some (Value.ref 1), some (mp_i x), some (mp_i v), some (mp_i t), some (Value.ref a2)]) dX11_meteorsOf_18 (by decide) rfl ?_
        refine mp_aload dX11_meteorsOf_20 rfl ?_
        refine mp_ifnull_r dX11_meteorsOf_22 ?_
        refine mp_aload dX11_meteorsOf_25 rfl ?_
        refine mp_getfield dX11_meteorsOf_27 (fsX11_108 (by omega)) hc2 rfl ?_
        refine mp_iload_n dX11_meteorsOf_30 rfl ?_
        refine mp_icmp_ne (tgt := 37) dX11_meteorsOf_31 rfl ⟨by omega, by omega⟩ ⟨by omega, by omega⟩ (fun h3 => ?_) (fun h3 => ?_)
        · refine mp_iinc (z := t + 1) (L' := [some (Value.ref 1), some (mp_i x), some (mp_i v), some (mp_i (t + 1)), some (Value.ref a2)]) dX11_meteorsOf_37 rfl (rfl) (by decide) rfl ?_
          refine mp_goto (tgt := 4) dX11_meteorsOf_40 rfl ?_
          refine mp_drop (L' := [some (Value.ref 1), some (mp_i x), some (mp_i v), some (mp_i (t + 1)), none]) [true, true, true, true, false] rfl ?_
          have e9 : (fun k b => if k < s 0 then (fun k n => n + (if s (1 + 6 * k + 4) = x then 1 else 0)) k b else b) t v = v := (if_pos (by omega)).trans (by show v + (if s (1 + 6 * t + 4) = x then 1 else 0) = _; first | rfl | (rw [if_pos (by omega)]; done) | (rw [if_neg (by omega)]; done) | (rw [if_pos (by omega)]; omega) | (rw [if_neg (by omega)]; omega))
          have k9 := ih (t + 1) ((fun k b => if k < s 0 then (fun k n => n + (if s (1 + 6 * k + 4) = x then 1 else 0)) k b else b) t v) (by rw [e9]; omega) hk
          rw [e9] at k9
          exact k9
        · refine mp_iinc (z := v + 1) (L' := [some (Value.ref 1), some (mp_i x), some (mp_i (v + 1)), some (mp_i t), some (Value.ref a2)]) dX11_meteorsOf_34 rfl (rfl) (by decide) rfl ?_
          refine mp_iinc (z := t + 1) (L' := [some (Value.ref 1), some (mp_i x), some (mp_i (v + 1)), some (mp_i (t + 1)), some (Value.ref a2)]) dX11_meteorsOf_37 rfl (rfl) (by decide) rfl ?_
          refine mp_goto (tgt := 4) dX11_meteorsOf_40 rfl ?_
          refine mp_drop (L' := [some (Value.ref 1), some (mp_i x), some (mp_i (v + 1)), some (mp_i (t + 1)), none]) [true, true, true, true, false] rfl ?_
          have e9 : (fun k b => if k < s 0 then (fun k n => n + (if s (1 + 6 * k + 4) = x then 1 else 0)) k b else b) t v = v + 1 := (if_pos (by omega)).trans (by show v + (if s (1 + 6 * t + 4) = x then 1 else 0) = _; first | rfl | (rw [if_pos (by omega)]; done) | (rw [if_neg (by omega)]; done) | (rw [if_pos (by omega)]; omega) | (rw [if_neg (by omega)]; omega))
          have k9 := ih (t + 1) ((fun k b => if k < s 0 then (fun k n => n + (if s (1 + 6 * k + 4) = x then 1 else 0)) k b else b) t v) (by rw [e9]; omega) hk
          rw [e9] at k9
          exact k9
      · refine mp_invV (z := (mX6_at, 0, 0, 0)) (K' := (0, 0)) (σ1 := A ++ (mp_cs s si sp f fi fp im hd kn wd ak ke cv vo so sz el ++ B)) (as := [mp_i t]) (st := []) (st1 := [Value.null]) dX11_meteorsOf_15 svX11_93 (mp_Sk.of (σ := A ++ (mp_cs s si sp f fi fp im hd kn wd ak ke cv vo so sz el ++ B)) (mp_skC2 hA) hMt).1 rfl rfl (zX6_atN (p := 2) (m := t) (s := s) (f := f) (mp_Sk.of (σ := A ++ (mp_cs s si sp f fi fp im hd kn wd ak ke cv vo so sz el ++ B)) (mp_skC2 hA) hMt) hm2 (by omega) (by omega)) ⟨Nat.le_of_ble_eq_true rfl, Nat.le_of_ble_eq_true rfl, Nat.le_of_ble_eq_true rfl, Nat.le_of_ble_eq_true rfl, Nat.le_of_ble_eq_true rfl⟩ rfl rfl rfl rfl ?_
        refine mp_astoreN (L' := [some (Value.ref 1), some (mp_i x), some (mp_i v), some (mp_i t), some (Value.null)]) dX11_meteorsOf_18 (by decide) rfl ?_
        refine mp_aloadN dX11_meteorsOf_20 rfl ?_
        refine mp_ifnull_n (tgt := 37) dX11_meteorsOf_22 rfl ?_
        refine mp_iinc (z := t + 1) (L' := [some (Value.ref 1), some (mp_i x), some (mp_i v), some (mp_i (t + 1)), some (Value.null)]) dX11_meteorsOf_37 rfl (rfl) (by decide) rfl ?_
        refine mp_goto (tgt := 4) dX11_meteorsOf_40 rfl ?_
        refine mp_drop (L' := [some (Value.ref 1), some (mp_i x), some (mp_i v), some (mp_i (t + 1)), none]) [true, true, true, true, false] rfl ?_
        have e9 : (fun k b => if k < s 0 then (fun k n => n + (if s (1 + 6 * k + 4) = x then 1 else 0)) k b else b) t v = v := if_neg (by omega)
        have k9 := ih (t + 1) ((fun k b => if k < s 0 then (fun k n => n + (if s (1 + 6 * k + 4) = x then 1 else 0)) k b else b) t v) (by rw [e9]; omega) hk
        rw [e9] at k9
        exact k9
theorem zX11_meteorsOf {s si sp : Int → Int} {f fi fp : Nat → Option Nat} {im : Int} {hd : Int → Int} {kn : Nat → Option Nat} {wd ak ke cv vo so sz el : Int → Int} {A B : mp_H}  {x : Int} (hA : A.length = 1) (hs : mp_sky s) (hMt : mp_Mt (A ++ (mp_cs s si sp f fi fp im hd kn wd ak ke cv vo so sz el ++ B)) s f) (h_x : 0 ≤ x ∧ x ≤ 1000) : mp_Call (mX11_meteorsOf, 1, 0, 0) [Value.ref 1, mp_i x] (A ++ (mp_cs s si sp f fi fp im hd kn wd ak ke cv vo so sz el ++ B)) (some (mp_i (sp_nightOf s x)), A ++ (mp_cs s si sp f fi fp im hd kn wd ak ke cv vo so sz el ++ B)) := by
  refine mp_Call.of (L := [some (Value.ref 1), some (mp_i x), none, none, none]) pnX11 (Nat.le_of_ble_eq_true rfl) rfl ?_
  have hz0 := hs.1
  refine mp_iconst dX11_meteorsOf_0 ?_
  refine mp_istore_n (L' := [some (Value.ref 1), some (mp_i x), some (mp_i 0), none, none]) dX11_meteorsOf_1 rfl (by decide) rfl ?_
  refine mp_iconst dX11_meteorsOf_2 ?_
  refine mp_istore_n (L' := [some (Value.ref 1), some (mp_i x), some (mp_i 0), some (mp_i 0), none]) dX11_meteorsOf_3 rfl (by decide) rfl ?_
  refine lX11_meteorsOf_4 (s := s) (si := si) (sp := sp) (f := f) (fi := fi) (fp := fp) (im := im) (hd := hd) (kn := kn) (wd := wd) (ak := ak) (ke := ke) (cv := cv) (vo := vo) (so := so) (sz := sz) (el := el) (B := B) (x := x)  (by first | with_reducible assumption | omega) (by first | with_reducible assumption | omega) (by first | with_reducible assumption | omega) (by first | with_reducible assumption | omega) 8 0 0 (by omega) ?_
  refine mp_loc (j := 2) (x := mp_fold (fun k b => if k < s 0 then (fun k n => n + (if s (1 + 6 * k + 4) = x then 1 else 0)) k b else b) 8 0 0) (y := sp_nightOf s x) (mp_fold_8 (F := (fun k n => n + (if s (1 + 6 * k + 4) = x then 1 else 0))) hs.1 0) rfl (L' := [some (Value.ref 1), some (mp_i x), some (mp_i (sp_nightOf s x)), none, none]) rfl ?_
  refine mp_iload_n dX11_meteorsOf_43 rfl ?_
  exact mp_ireturn (st := []) dX11_meteorsOf_44 rfl ⟨by decide, by decide⟩ ((mp_ans (by first | with_reducible rfl | omega | rfl)))
theorem lX11_meteorsThereOn_4 {s si sp : Int → Int} {f fi fp : Nat → Option Nat} {im : Int} {hd : Int → Int} {kn : Nat → Option Nat} {wd ak ke cv vo so sz el : Int → Int} {A B : mp_H}  {x : Int} (hA : A.length = 1) (hs : mp_sky s) (hMt : mp_Mt (A ++ (mp_cs s si sp f fi fp im hd kn wd ak ke cv vo so sz el ++ B)) s f) (h_x : 0 ≤ x ∧ x ≤ 1000) {R9 : mp_An} : ∀ (n : Nat) (t : Int) (v : Int), ((0 ≤ t ∧ t + (n : Nat) = 8) ∧ 0 ≤ v ∧ v ≤ t) → mp_At (mX11_meteorsThereOn, 3, 0, 0) (0, 0) 43 [some (Value.ref 1), some (mp_i x), some (mp_i (mp_fold (fun k b => if k < s 0 then (fun k n => n + (if sp_thereP s k x then 1 else 0)) k b else b) n t v)), none, none] [] (A ++ (mp_cs s si sp f fi fp im hd kn wd ak ke cv vo so sz el ++ B)) R9 → mp_At (mX11_meteorsThereOn, 3, 0, 0) (0, 0) 4 [some (Value.ref 1), some (mp_i x), some (mp_i v), some (mp_i t), none] [] (A ++ (mp_cs s si sp f fi fp im hd kn wd ak ke cv vo so sz el ++ B)) R9 := by
  intro n
  induction n with
  | zero =>
    intro t v hi hk
    have hz0 := hs.1
    refine mp_iload_n dX11_meteorsThereOn_4 rfl ?_
    refine mp_bipush dX11_meteorsThereOn_5 rfl ?_
    refine mp_icmp_ge (tgt := 43) dX11_meteorsThereOn_7 rfl ⟨by omega, by omega⟩ ⟨by omega, by omega⟩ (fun h1 => ?_) (fun h1 => ?_)
    · refine mp_drop (L' := [some (Value.ref 1), some (mp_i x), some (mp_i v), none, none]) [true, true, true, false, false] rfl ?_
      exact hk
    · exfalso; omega
  | succ n ih =>
    intro t v hi hk
    have hz0 := hs.1
    refine mp_iload_n dX11_meteorsThereOn_4 rfl ?_
    refine mp_bipush dX11_meteorsThereOn_5 rfl ?_
    refine mp_icmp_ge (tgt := 43) dX11_meteorsThereOn_7 rfl ⟨by omega, by omega⟩ ⟨by omega, by omega⟩ (fun h1 => ?_) (fun h1 => ?_)
    · exfalso; omega
    · refine mp_aload_n dX11_meteorsThereOn_10 rfl ?_
      refine mp_getfield dX11_meteorsThereOn_11 fsX11_10_10 (mp_lkP hA 0 rfl) rfl ?_
      refine mp_iload_n dX11_meteorsThereOn_14 rfl ?_
      by_cases hm2 : 0 ≤ t ∧ t < s 0
      · obtain ⟨a2, hf2, hc2⟩ := (mp_Sk.of (σ := A ++ (mp_cs s si sp f fi fp im hd kn wd ak ke cv vo so sz el ++ B)) (mp_skC2 hA) hMt).2.2.2.2.2.2 t hm2.1 hm2.2
        have ht2 := hs.2.1 t hm2.1 hm2.2
        have hl2 := mp_lasts_bd (kind := (s (1 + 6 * t + 0))) (f := (s (1 + 6 * t + 1))) (by omega)
        have hr2 := mp_bright_bd (kind := (s (1 + 6 * t + 0))) (f := (s (1 + 6 * t + 1))) (by omega)
        refine mp_invV (z := (mX6_at, 0, 0, 0)) (K' := (0, 0)) (σ1 := A ++ (mp_cs s si sp f fi fp im hd kn wd ak ke cv vo so sz el ++ B)) (as := [mp_i t]) (st := []) (st1 := [Value.ref a2]) dX11_meteorsThereOn_15 svX11_93 (mp_Sk.of (σ := A ++ (mp_cs s si sp f fi fp im hd kn wd ak ke cv vo so sz el ++ B)) (mp_skC2 hA) hMt).1 rfl rfl (zX6_at (p := 2) (m := t) (a := a2) (s := s) (f := f) (mp_Sk.of (σ := A ++ (mp_cs s si sp f fi fp im hd kn wd ak ke cv vo so sz el ++ B)) (mp_skC2 hA) hMt) hm2 (by omega) hf2) ⟨Nat.le_of_ble_eq_true rfl, Nat.le_of_ble_eq_true rfl, Nat.le_of_ble_eq_true rfl, Nat.le_of_ble_eq_true rfl, Nat.le_of_ble_eq_true rfl⟩ rfl rfl rfl rfl ?_
        refine mp_astore (L' := [some (Value.ref 1), some (mp_i x), some (mp_i v), some (mp_i t), some (Value.ref a2)]) dX11_meteorsThereOn_18 (by decide) rfl ?_
        refine mp_aload dX11_meteorsThereOn_20 rfl ?_
        refine mp_ifnull_r dX11_meteorsThereOn_22 ?_
        refine mp_aload dX11_meteorsThereOn_25 rfl ?_
        refine mp_iload_n dX11_meteorsThereOn_27 rfl ?_
        refine mp_inv8 (kd := (s (1 + 6 * t + 0))) (σ1 := A ++ (mp_cs s si sp f fi fp im hd kn wd ak ke cv vo so sz el ++ B)) (as := [mp_i x]) (st := []) (st1 := [mp_i (if 0 ≤ x - (s (1 + 6 * t + 4)) ∧ (x - (s (1 + 6 * t + 4))) % sp_period (s (1 + 6 * t + 0)) (s (1 + 6 * t + 1)) = 0 then 1 else 0)]) dX11_meteorsThereOn_28 (by omega) s8X11_259 hc2 (fa_isThereOn (a := a2) (t := x) (kd := (s (1 + 6 * t + 0))) (f := (s (1 + 6 * t + 1))) (co := (s (1 + 6 * t + 2))) (sl := (s (1 + 6 * t + 3))) (ni := (s (1 + 6 * t + 4))) (la := (sp_lasts (s (1 + 6 * t + 0)) (s (1 + 6 * t + 1)))) (br := (sp_bright (s (1 + 6 * t + 0)) (s (1 + 6 * t + 1)))) hc2 (by first | with_reducible assumption | omega) (by first | with_reducible assumption | omega) (by first | with_reducible assumption | omega) (by first | with_reducible assumption | omega)) (Nat.le_of_ble_eq_true rfl) ⟨Nat.le_of_ble_eq_true rfl, Nat.le_of_ble_eq_true rfl⟩ (Nat.le_of_ble_eq_true rfl) rfl rfl rfl ?_
        refine mp_ifb_eq (tgt := 37) dX11_meteorsThereOn_31 rfl (fun h3 => ?_) (fun h3 => ?_)
        · refine mp_iinc (z := t + 1) (L' := [some (Value.ref 1), some (mp_i x), some (mp_i v), some (mp_i (t + 1)), some (Value.ref a2)]) dX11_meteorsThereOn_37 rfl (rfl) (by decide) rfl ?_
          refine mp_goto (tgt := 4) dX11_meteorsThereOn_40 rfl ?_
          refine mp_drop (L' := [some (Value.ref 1), some (mp_i x), some (mp_i v), some (mp_i (t + 1)), none]) [true, true, true, true, false] rfl ?_
          have e9 : (fun k b => if k < s 0 then (fun k n => n + (if sp_thereP s k x then 1 else 0)) k b else b) t v = v := (if_pos (by omega)).trans (by show v + (if sp_thereP s t x then 1 else 0) = _; first | rfl | (rw [if_pos (by omega)]; done) | (rw [if_neg (by omega)]; done) | (rw [if_pos (by omega)]; omega) | (rw [if_neg (by omega)]; omega))
          have k9 := ih (t + 1) ((fun k b => if k < s 0 then (fun k n => n + (if sp_thereP s k x then 1 else 0)) k b else b) t v) (by rw [e9]; omega) hk
          rw [e9] at k9
          exact k9
        · refine mp_iinc (z := v + 1) (L' := [some (Value.ref 1), some (mp_i x), some (mp_i (v + 1)), some (mp_i t), some (Value.ref a2)]) dX11_meteorsThereOn_34 rfl (rfl) (by decide) rfl ?_
          refine mp_iinc (z := t + 1) (L' := [some (Value.ref 1), some (mp_i x), some (mp_i (v + 1)), some (mp_i (t + 1)), some (Value.ref a2)]) dX11_meteorsThereOn_37 rfl (rfl) (by decide) rfl ?_
          refine mp_goto (tgt := 4) dX11_meteorsThereOn_40 rfl ?_
          refine mp_drop (L' := [some (Value.ref 1), some (mp_i x), some (mp_i (v + 1)), some (mp_i (t + 1)), none]) [true, true, true, true, false] rfl ?_
          have e9 : (fun k b => if k < s 0 then (fun k n => n + (if sp_thereP s k x then 1 else 0)) k b else b) t v = v + 1 := (if_pos (by omega)).trans (by show v + (if sp_thereP s t x then 1 else 0) = _; first | rfl | (rw [if_pos (by omega)]; done) | (rw [if_neg (by omega)]; done) | (rw [if_pos (by omega)]; omega) | (rw [if_neg (by omega)]; omega))
          have k9 := ih (t + 1) ((fun k b => if k < s 0 then (fun k n => n + (if sp_thereP s k x then 1 else 0)) k b else b) t v) (by rw [e9]; omega) hk
          rw [e9] at k9
          exact k9
      · refine mp_invV (z := (mX6_at, 0, 0, 0)) (K' := (0, 0)) (σ1 := A ++ (mp_cs s si sp f fi fp im hd kn wd ak ke cv vo so sz el ++ B)) (as := [mp_i t]) (st := []) (st1 := [Value.null]) dX11_meteorsThereOn_15 svX11_93 (mp_Sk.of (σ := A ++ (mp_cs s si sp f fi fp im hd kn wd ak ke cv vo so sz el ++ B)) (mp_skC2 hA) hMt).1 rfl rfl (zX6_atN (p := 2) (m := t) (s := s) (f := f) (mp_Sk.of (σ := A ++ (mp_cs s si sp f fi fp im hd kn wd ak ke cv vo so sz el ++ B)) (mp_skC2 hA) hMt) hm2 (by omega) (by omega)) ⟨Nat.le_of_ble_eq_true rfl, Nat.le_of_ble_eq_true rfl, Nat.le_of_ble_eq_true rfl, Nat.le_of_ble_eq_true rfl, Nat.le_of_ble_eq_true rfl⟩ rfl rfl rfl rfl ?_
        refine mp_astoreN (L' := [some (Value.ref 1), some (mp_i x), some (mp_i v), some (mp_i t), some (Value.null)]) dX11_meteorsThereOn_18 (by decide) rfl ?_
        refine mp_aloadN dX11_meteorsThereOn_20 rfl ?_
        refine mp_ifnull_n (tgt := 37) dX11_meteorsThereOn_22 rfl ?_
        refine mp_iinc (z := t + 1) (L' := [some (Value.ref 1), some (mp_i x), some (mp_i v), some (mp_i (t + 1)), some (Value.null)]) dX11_meteorsThereOn_37 rfl (rfl) (by decide) rfl ?_
        refine mp_goto (tgt := 4) dX11_meteorsThereOn_40 rfl ?_
        refine mp_drop (L' := [some (Value.ref 1), some (mp_i x), some (mp_i v), some (mp_i (t + 1)), none]) [true, true, true, true, false] rfl ?_
        have e9 : (fun k b => if k < s 0 then (fun k n => n + (if sp_thereP s k x then 1 else 0)) k b else b) t v = v := if_neg (by omega)
        have k9 := ih (t + 1) ((fun k b => if k < s 0 then (fun k n => n + (if sp_thereP s k x then 1 else 0)) k b else b) t v) (by rw [e9]; omega) hk
        rw [e9] at k9
        exact k9
theorem zX11_meteorsThereOn {s si sp : Int → Int} {f fi fp : Nat → Option Nat} {im : Int} {hd : Int → Int} {kn : Nat → Option Nat} {wd ak ke cv vo so sz el : Int → Int} {A B : mp_H}  {x : Int} (hA : A.length = 1) (hs : mp_sky s) (hMt : mp_Mt (A ++ (mp_cs s si sp f fi fp im hd kn wd ak ke cv vo so sz el ++ B)) s f) (h_x : 0 ≤ x ∧ x ≤ 1000) : mp_Call (mX11_meteorsThereOn, 3, 0, 0) [Value.ref 1, mp_i x] (A ++ (mp_cs s si sp f fi fp im hd kn wd ak ke cv vo so sz el ++ B)) (some (mp_i (sp_thereAll s x)), A ++ (mp_cs s si sp f fi fp im hd kn wd ak ke cv vo so sz el ++ B)) := by
  refine mp_Call.of (L := [some (Value.ref 1), some (mp_i x), none, none, none]) pnX11 (Nat.le_of_ble_eq_true rfl) rfl ?_
  have hz0 := hs.1
  refine mp_iconst dX11_meteorsThereOn_0 ?_
  refine mp_istore_n (L' := [some (Value.ref 1), some (mp_i x), some (mp_i 0), none, none]) dX11_meteorsThereOn_1 rfl (by decide) rfl ?_
  refine mp_iconst dX11_meteorsThereOn_2 ?_
  refine mp_istore_n (L' := [some (Value.ref 1), some (mp_i x), some (mp_i 0), some (mp_i 0), none]) dX11_meteorsThereOn_3 rfl (by decide) rfl ?_
  refine lX11_meteorsThereOn_4 (s := s) (si := si) (sp := sp) (f := f) (fi := fi) (fp := fp) (im := im) (hd := hd) (kn := kn) (wd := wd) (ak := ak) (ke := ke) (cv := cv) (vo := vo) (so := so) (sz := sz) (el := el) (B := B) (x := x)  (by first | with_reducible assumption | omega) (by first | with_reducible assumption | omega) (by first | with_reducible assumption | omega) (by first | with_reducible assumption | omega) 8 0 0 (by omega) ?_
  refine mp_loc (j := 2) (x := mp_fold (fun k b => if k < s 0 then (fun k n => n + (if sp_thereP s k x then 1 else 0)) k b else b) 8 0 0) (y := sp_thereAll s x) (mp_fold_8 (F := (fun k n => n + (if sp_thereP s k x then 1 else 0))) hs.1 0) rfl (L' := [some (Value.ref 1), some (mp_i x), some (mp_i (sp_thereAll s x)), none, none]) rfl ?_
  refine mp_iload_n dX11_meteorsThereOn_43 rfl ?_
  exact mp_ireturn (st := []) dX11_meteorsThereOn_44 rfl ⟨by decide, by decide⟩ ((mp_ans (by first | with_reducible rfl | omega | rfl)))
theorem lX11_sum_10 {e : Int → Int} {r : Nat} {σ : mp_H} (he : σ[r]? = some (mp_I 5 (mp_F e))) (hb : ∀ j, 0 ≤ j → j ≤ 4 → 0 ≤ e j ∧ e j ≤ 15) {R9 : mp_An} : ∀ (n : Nat) (t : Int) (v : Int), ((0 ≤ t ∧ t + (n : Nat) = 5) ∧ 0 ≤ v ∧ v ≤ 15 * t) → mp_At (mX11_sum, 0, 0, 0) (0, 0) 33 [some (Value.ref r), some (mp_i (mp_fold (fun j v => v + e j) n t v)), none, none, none, none] [] σ R9 → mp_At (mX11_sum, 0, 0, 0) (0, 0) 10 [some (Value.ref r), some (mp_i v), some (Value.ref r), some (mp_i 5), some (mp_i t), none] [] σ R9 := by
  intro n
  induction n with
  | zero =>
    intro t v hi hk
    refine mp_iload dX11_sum_10 rfl ?_
    refine mp_iload_n dX11_sum_12 rfl ?_
    refine mp_icmp_ge (tgt := 33) dX11_sum_13 rfl ⟨by omega, by omega⟩ ⟨by omega, by omega⟩ (fun h1 => ?_) (fun h1 => ?_)
    · refine mp_drop (L' := [some (Value.ref r), some (mp_i v), none, none, none, none]) [true, true, false, false, false, false] rfl ?_
      exact hk
    · exfalso; omega
  | succ n ih =>
    intro t v hi hk
    have hbt := hb t (by omega) (by omega)
    refine mp_iload dX11_sum_10 rfl ?_
    refine mp_iload_n dX11_sum_12 rfl ?_
    refine mp_icmp_ge (tgt := 33) dX11_sum_13 rfl ⟨by omega, by omega⟩ ⟨by omega, by omega⟩ (fun h1 => ?_) (fun h1 => ?_)
    · exfalso; omega
    · refine mp_aload_n dX11_sum_16 rfl ?_
      refine mp_iload dX11_sum_17 rfl ?_
      refine mp_iald dX11_sum_19 he ⟨by omega, by omega⟩ (by omega) ?_
      refine mp_istore (L' := [some (Value.ref r), some (mp_i v), some (Value.ref r), some (mp_i 5), some (mp_i t), some (mp_i (e t))]) dX11_sum_20 (by decide) rfl ?_
      refine mp_iload_n dX11_sum_22 rfl ?_
      refine mp_iload dX11_sum_23 rfl ?_
      refine mp_iadd (z := v + (e t)) dX11_sum_25 (by first | rfl | omega) ?_
      refine mp_istore_n (L' := [some (Value.ref r), some (mp_i (v + (e t))), some (Value.ref r), some (mp_i 5), some (mp_i t), some (mp_i (e t))]) dX11_sum_26 rfl (by decide) rfl ?_
      refine mp_iinc (z := t + 1) (L' := [some (Value.ref r), some (mp_i (v + (e t))), some (Value.ref r), some (mp_i 5), some (mp_i (t + 1)), some (mp_i (e t))]) dX11_sum_27 rfl (rfl) (by decide) rfl ?_
      refine mp_goto (tgt := 10) dX11_sum_30 rfl ?_
      refine mp_drop (L' := [some (Value.ref r), some (mp_i (v + (e t))), some (Value.ref r), some (mp_i 5), some (mp_i (t + 1)), none]) [true, true, true, true, true, false] rfl ?_
      exact ih (t + 1) (v + e t) (by omega) hk
theorem zX11_sum {e : Int → Int} {r : Nat} {σ : mp_H} (he : σ[r]? = some (mp_I 5 (mp_F e))) (hb : ∀ j, 0 ≤ j → j ≤ 4 → 0 ≤ e j ∧ e j ≤ 15) : mp_Call (mX11_sum, 0, 0, 0) [Value.ref r] σ (some (mp_i (mp_fold (fun j v => v + e j) 5 0 0)), σ) := by
  refine mp_Call.of (L := [some (Value.ref r), none, none, none, none, none]) pnX11 (Nat.le_of_ble_eq_true rfl) rfl ?_
  refine mp_iconst dX11_sum_0 ?_
  refine mp_istore_n (L' := [some (Value.ref r), some (mp_i 0), none, none, none, none]) dX11_sum_1 rfl (by decide) rfl ?_
  refine mp_aload_n dX11_sum_2 rfl ?_
  refine mp_astore_n (L' := [some (Value.ref r), some (mp_i 0), some (Value.ref r), none, none, none]) dX11_sum_3 rfl (by decide) rfl ?_
  refine mp_aload_n dX11_sum_4 rfl ?_
  refine mp_ialen dX11_sum_5 he ?_
  refine mp_istore_n (L' := [some (Value.ref r), some (mp_i 0), some (Value.ref r), some (mp_i 5), none, none]) dX11_sum_6 rfl (by decide) rfl ?_
  refine mp_iconst dX11_sum_7 ?_
  refine mp_istore (L' := [some (Value.ref r), some (mp_i 0), some (Value.ref r), some (mp_i 5), some (mp_i 0), none]) dX11_sum_8 (by decide) rfl ?_
  refine lX11_sum_10 (r := r) he (by first | with_reducible assumption | omega) 5 0 0 (by omega) ?_
  refine mp_iload_n dX11_sum_33 rfl ?_
  exact mp_ireturn (st := []) dX11_sum_34 rfl ⟨by decide, by decide⟩ ((mp_ans (by first | with_reducible rfl | omega | rfl)))
theorem zX11_count {s si sp : Int → Int} {f fi fp : Nat → Option Nat} {im : Int} {hd : Int → Int} {kn : Nat → Option Nat} {wd ak ke cv vo so sz el : Int → Int} {A B : mp_H}  {w : Int} (hA : A.length = 1) (hs : mp_sky s) (hMt : mp_Mt (A ++ (mp_cs s si sp f fi fp im hd kn wd ak ke cv vo so sz el ++ B)) s f) (h_w : mp_w w) : mp_Call (mX11_count, 4, 0, 0) [Value.ref 1, mp_i w] (A ++ (mp_cs s si sp f fi fp im hd kn wd ak ke cv vo so sz el ++ B)) (some (mp_i (sp_count s w)), A ++ (mp_cs s si sp f fi fp im hd kn wd ak ke cv vo so sz el ++ B)) := by
  refine mp_Call.of (L := [some (Value.ref 1), some (mp_i w)]) pnX11 (Nat.le_of_ble_eq_true rfl) rfl ?_
  have hz0 := hs.1
  refine mp_iload_n dX11_count_0 rfl ?_
  by_cases q1 : w = 0
  · refine mp_top (y := 0) q1 ?_
    refine mp_tableIn (tgt := 40) (off := 39) dX11_count_1 ⟨by decide, by decide⟩ (by decide) (by decide) rfl rfl ?_
    refine mp_aload_n dX11_count_40 rfl ?_
    refine mp_getfield dX11_count_41 fsX11_10_10 (mp_lkP hA 0 rfl) rfl ?_
    refine mp_getfield dX11_count_44 fsX11_295_8 (mp_lkP hA 1 rfl) rfl ?_
    exact mp_ireturn (st := []) dX11_count_47 rfl ⟨by decide, by decide⟩ ((mp_ans (by unfold sp_count; first | (rw [if_pos (by omega)]; done) | (rw [if_neg (by omega)]; done) | (rw [if_neg (by omega), if_pos (by omega)]; done) | (rw [if_neg (by omega), if_neg (by omega)]; done) | (rw [if_neg (by omega), if_neg (by omega), if_pos (by omega)]; done) | (rw [if_neg (by omega), if_neg (by omega), if_neg (by omega)]; done) | (rw [if_neg (by omega), if_neg (by omega), if_neg (by omega), if_pos (by omega)]; done) | (rw [if_neg (by omega), if_neg (by omega), if_neg (by omega), if_neg (by omega)]; done) | (rw [if_neg (by omega), if_neg (by omega), if_neg (by omega), if_neg (by omega), if_pos (by omega)]; done) | (rw [if_neg (by omega), if_neg (by omega), if_neg (by omega), if_neg (by omega), if_neg (by omega)]; done) | (rw [if_neg (by omega), if_neg (by omega), if_neg (by omega), if_neg (by omega), if_neg (by omega), if_pos (by omega)]; done) | (rw [if_neg (by omega), if_neg (by omega), if_neg (by omega), if_neg (by omega), if_neg (by omega), if_neg (by omega)]; done) | (rw [if_neg (by omega), if_neg (by omega), if_neg (by omega), if_neg (by omega), if_neg (by omega), if_neg (by omega), if_pos (by omega)]; done) | (rw [if_neg (by omega), if_neg (by omega), if_neg (by omega), if_neg (by omega), if_neg (by omega), if_neg (by omega), if_neg (by omega)]; done) | (rw [if_neg (by omega)]; omega))))
  by_cases q2 : w = 1
  · refine mp_top (y := 1) q2 ?_
    refine mp_tableIn (tgt := 48) (off := 47) dX11_count_1 ⟨by decide, by decide⟩ (by decide) (by decide) rfl rfl ?_
    refine mp_aload_n dX11_count_48 rfl ?_
    refine mp_getfield dX11_count_49 fsX11_10_10 (mp_lkP hA 0 rfl) rfl ?_
    refine mp_invV (z := (mX6_allHeat, 3, 0, 0)) (K' := (0, 0)) (σ1 := A ++ (mp_cs s si sp f fi fp im hd kn wd ak ke cv vo so sz el ++ B)) (as := []) (st := []) (st1 := [mp_i (sp_heatAll s)]) dX11_count_52 svX11_292 (mp_lkP hA 1 rfl) rfl rfl (zX6_allHeat (p := 2) (s := s) (f := f) (mp_Sk.of (σ := A ++ (mp_cs s si sp f fi fp im hd kn wd ak ke cv vo so sz el ++ B)) (mp_skC2 hA) hMt) hs) ⟨Nat.le_of_ble_eq_true rfl, Nat.le_of_ble_eq_true rfl, Nat.le_of_ble_eq_true rfl, Nat.le_of_ble_eq_true rfl, Nat.le_of_ble_eq_true rfl⟩ rfl rfl rfl rfl ?_
    exact mp_ireturn (st := []) dX11_count_55 rfl ⟨by decide, by decide⟩ ((mp_ans (by unfold sp_count; first | (rw [if_pos (by omega)]; done) | (rw [if_neg (by omega)]; done) | (rw [if_neg (by omega), if_pos (by omega)]; done) | (rw [if_neg (by omega), if_neg (by omega)]; done) | (rw [if_neg (by omega), if_neg (by omega), if_pos (by omega)]; done) | (rw [if_neg (by omega), if_neg (by omega), if_neg (by omega)]; done) | (rw [if_neg (by omega), if_neg (by omega), if_neg (by omega), if_pos (by omega)]; done) | (rw [if_neg (by omega), if_neg (by omega), if_neg (by omega), if_neg (by omega)]; done) | (rw [if_neg (by omega), if_neg (by omega), if_neg (by omega), if_neg (by omega), if_pos (by omega)]; done) | (rw [if_neg (by omega), if_neg (by omega), if_neg (by omega), if_neg (by omega), if_neg (by omega)]; done) | (rw [if_neg (by omega), if_neg (by omega), if_neg (by omega), if_neg (by omega), if_neg (by omega), if_pos (by omega)]; done) | (rw [if_neg (by omega), if_neg (by omega), if_neg (by omega), if_neg (by omega), if_neg (by omega), if_neg (by omega)]; done) | (rw [if_neg (by omega), if_neg (by omega), if_neg (by omega), if_neg (by omega), if_neg (by omega), if_neg (by omega), if_pos (by omega)]; done) | (rw [if_neg (by omega), if_neg (by omega), if_neg (by omega), if_neg (by omega), if_neg (by omega), if_neg (by omega), if_neg (by omega)]; done) | (rw [if_neg (by omega)]; omega))))
  by_cases q3 : w = 2
  · refine mp_top (y := 2) q3 ?_
    refine mp_tableIn (tgt := 56) (off := 55) dX11_count_1 ⟨by decide, by decide⟩ (by decide) (by decide) rfl rfl ?_
    refine mp_aload_n dX11_count_56 rfl ?_
    refine mp_getfield dX11_count_57 fsX11_10_10 (mp_lkP hA 0 rfl) rfl ?_
    refine mp_invV (z := (mX6_allSteps, 1, 0, 0)) (K' := (0, 0)) (σ1 := A ++ (mp_cs s si sp f fi fp im hd kn wd ak ke cv vo so sz el ++ B)) (as := []) (st := []) (st1 := [mp_i (sp_lastsAll s)]) dX11_count_60 svX11_314 (mp_lkP hA 1 rfl) rfl rfl (zX6_allSteps (p := 2) (s := s) (f := f) (mp_Sk.of (σ := A ++ (mp_cs s si sp f fi fp im hd kn wd ak ke cv vo so sz el ++ B)) (mp_skC2 hA) hMt) hs) ⟨Nat.le_of_ble_eq_true rfl, Nat.le_of_ble_eq_true rfl, Nat.le_of_ble_eq_true rfl, Nat.le_of_ble_eq_true rfl, Nat.le_of_ble_eq_true rfl⟩ rfl rfl rfl rfl ?_
    exact mp_ireturn (st := []) dX11_count_63 rfl ⟨by decide, by decide⟩ ((mp_ans (by unfold sp_count; first | (rw [if_pos (by omega)]; done) | (rw [if_neg (by omega)]; done) | (rw [if_neg (by omega), if_pos (by omega)]; done) | (rw [if_neg (by omega), if_neg (by omega)]; done) | (rw [if_neg (by omega), if_neg (by omega), if_pos (by omega)]; done) | (rw [if_neg (by omega), if_neg (by omega), if_neg (by omega)]; done) | (rw [if_neg (by omega), if_neg (by omega), if_neg (by omega), if_pos (by omega)]; done) | (rw [if_neg (by omega), if_neg (by omega), if_neg (by omega), if_neg (by omega)]; done) | (rw [if_neg (by omega), if_neg (by omega), if_neg (by omega), if_neg (by omega), if_pos (by omega)]; done) | (rw [if_neg (by omega), if_neg (by omega), if_neg (by omega), if_neg (by omega), if_neg (by omega)]; done) | (rw [if_neg (by omega), if_neg (by omega), if_neg (by omega), if_neg (by omega), if_neg (by omega), if_pos (by omega)]; done) | (rw [if_neg (by omega), if_neg (by omega), if_neg (by omega), if_neg (by omega), if_neg (by omega), if_neg (by omega)]; done) | (rw [if_neg (by omega), if_neg (by omega), if_neg (by omega), if_neg (by omega), if_neg (by omega), if_neg (by omega), if_pos (by omega)]; done) | (rw [if_neg (by omega), if_neg (by omega), if_neg (by omega), if_neg (by omega), if_neg (by omega), if_neg (by omega), if_neg (by omega)]; done) | (rw [if_neg (by omega)]; omega))))
  by_cases q4 : w = 3
  · refine mp_top (y := 3) q4 ?_
    refine mp_tableIn (tgt := 64) (off := 63) dX11_count_1 ⟨by decide, by decide⟩ (by decide) (by decide) rfl rfl ?_
    refine mp_aload_n dX11_count_64 rfl ?_
    refine mp_getfield dX11_count_65 fsX11_10_10 (mp_lkP hA 0 rfl) rfl ?_
    refine mp_getfield dX11_count_68 fsX11_130_8 (mp_lkP hA 1 rfl) rfl ?_
    refine mp_invS (z := (mX11_sum, 0, 0, 0)) (K' := (0, 0)) (σ1 := A ++ (mp_cs s si sp f fi fp im hd kn wd ak ke cv vo so sz el ++ B)) (as := [Value.ref 6]) (st := []) (st1 := [mp_i (mp_fold (fun j v => v + (sp_qui s) j) 5 0 0)]) dX11_count_71 ssX11_317 (zX11_sum (r := 6) (e := (sp_qui s)) (mp_lkP hA 5 rfl) (fun j h0 h1 => by rw [sp_qui_in ⟨h0, h1⟩]; have := hs.2.2.1 j h0 h1; omega)) ⟨Nat.le_of_ble_eq_true rfl, Nat.le_of_ble_eq_true rfl, Nat.le_of_ble_eq_true rfl, Nat.le_of_ble_eq_true rfl, Nat.le_of_ble_eq_true rfl⟩ rfl rfl rfl rfl ?_
    exact mp_ireturn (st := []) dX11_count_74 rfl ⟨by decide, by decide⟩ ((mp_ans (by obtain rfl : w = 3 := (by omega); exact mp_fold_congr _ _ _ (fun j b h0 h1 => by rw [sp_qui_in ⟨h0, by omega⟩]))))
  by_cases q5 : w = 4
  · refine mp_top (y := 4) q5 ?_
    refine mp_tableIn (tgt := 75) (off := 74) dX11_count_1 ⟨by decide, by decide⟩ (by decide) (by decide) rfl rfl ?_
    refine mp_aload_n dX11_count_75 rfl ?_
    refine mp_getfield dX11_count_76 fsX11_10_10 (mp_lkP hA 0 rfl) rfl ?_
    refine mp_getfield dX11_count_79 fsX11_127_8 (mp_lkP hA 1 rfl) rfl ?_
    refine mp_invS (z := (mX11_sum, 0, 0, 0)) (K' := (0, 0)) (σ1 := A ++ (mp_cs s si sp f fi fp im hd kn wd ak ke cv vo so sz el ++ B)) (as := [Value.ref 5]) (st := []) (st1 := [mp_i (mp_fold (fun j v => v + (sp_rof s) j) 5 0 0)]) dX11_count_82 ssX11_317 (zX11_sum (r := 5) (e := (sp_rof s)) (mp_lkP hA 4 rfl) (fun j h0 h1 => by rw [sp_rof_in ⟨h0, h1⟩]; have := hs.2.2.1 j h0 h1; omega)) ⟨Nat.le_of_ble_eq_true rfl, Nat.le_of_ble_eq_true rfl, Nat.le_of_ble_eq_true rfl, Nat.le_of_ble_eq_true rfl, Nat.le_of_ble_eq_true rfl⟩ rfl rfl rfl rfl ?_
    exact mp_ireturn (st := []) dX11_count_85 rfl ⟨by decide, by decide⟩ ((mp_ans (by obtain rfl : w = 4 := (by omega); exact mp_fold_congr _ _ _ (fun j b h0 h1 => by rw [sp_rof_in ⟨h0, by omega⟩]))))
  by_cases q6 : w = 5
  · refine mp_top (y := 5) q6 ?_
    refine mp_tableIn (tgt := 86) (off := 85) dX11_count_1 ⟨by decide, by decide⟩ (by decide) (by decide) rfl rfl ?_
    refine mp_aload_n dX11_count_86 rfl ?_
    refine mp_getfield dX11_count_87 fsX11_10_10 (mp_lkP hA 0 rfl) rfl ?_
    refine mp_invV (z := (mX6_saidYesTo, 1, 0, 0)) (K' := (0, 0)) (σ1 := A ++ (mp_cs s si sp f fi fp im hd kn wd ak ke cv vo so sz el ++ B)) (as := []) (st := []) (st1 := [mp_i (sp_said s)]) dX11_count_90 svX11_192 (mp_lkP hA 1 rfl) rfl rfl (zX6_saidYesTo (p := 2) (s := s) (f := f) (mp_Sk.of (σ := A ++ (mp_cs s si sp f fi fp im hd kn wd ak ke cv vo so sz el ++ B)) (mp_skC2 hA) hMt) hs) ⟨Nat.le_of_ble_eq_true rfl, Nat.le_of_ble_eq_true rfl, Nat.le_of_ble_eq_true rfl, Nat.le_of_ble_eq_true rfl, Nat.le_of_ble_eq_true rfl⟩ rfl rfl rfl rfl ?_
    exact mp_ireturn (st := []) dX11_count_93 rfl ⟨by decide, by decide⟩ ((mp_ans (by unfold sp_count; first | (rw [if_pos (by omega)]; done) | (rw [if_neg (by omega)]; done) | (rw [if_neg (by omega), if_pos (by omega)]; done) | (rw [if_neg (by omega), if_neg (by omega)]; done) | (rw [if_neg (by omega), if_neg (by omega), if_pos (by omega)]; done) | (rw [if_neg (by omega), if_neg (by omega), if_neg (by omega)]; done) | (rw [if_neg (by omega), if_neg (by omega), if_neg (by omega), if_pos (by omega)]; done) | (rw [if_neg (by omega), if_neg (by omega), if_neg (by omega), if_neg (by omega)]; done) | (rw [if_neg (by omega), if_neg (by omega), if_neg (by omega), if_neg (by omega), if_pos (by omega)]; done) | (rw [if_neg (by omega), if_neg (by omega), if_neg (by omega), if_neg (by omega), if_neg (by omega)]; done) | (rw [if_neg (by omega), if_neg (by omega), if_neg (by omega), if_neg (by omega), if_neg (by omega), if_pos (by omega)]; done) | (rw [if_neg (by omega), if_neg (by omega), if_neg (by omega), if_neg (by omega), if_neg (by omega), if_neg (by omega)]; done) | (rw [if_neg (by omega), if_neg (by omega), if_neg (by omega), if_neg (by omega), if_neg (by omega), if_neg (by omega), if_pos (by omega)]; done) | (rw [if_neg (by omega), if_neg (by omega), if_neg (by omega), if_neg (by omega), if_neg (by omega), if_neg (by omega), if_neg (by omega)]; done) | (rw [if_neg (by omega)]; omega))))
  refine mp_tableOut (tgt := 94) dX11_count_1 ⟨by omega, by omega⟩ (by omega) rfl ?_
  refine mp_iconst dX11_count_94 ?_
  exact mp_ireturn (st := []) dX11_count_95 rfl ⟨by decide, by decide⟩ ((mp_ans (by unfold sp_count; first | (rw [if_pos (by omega)]; done) | (rw [if_neg (by omega)]; done) | (rw [if_neg (by omega), if_pos (by omega)]; done) | (rw [if_neg (by omega), if_neg (by omega)]; done) | (rw [if_neg (by omega), if_neg (by omega), if_pos (by omega)]; done) | (rw [if_neg (by omega), if_neg (by omega), if_neg (by omega)]; done) | (rw [if_neg (by omega), if_neg (by omega), if_neg (by omega), if_pos (by omega)]; done) | (rw [if_neg (by omega), if_neg (by omega), if_neg (by omega), if_neg (by omega)]; done) | (rw [if_neg (by omega), if_neg (by omega), if_neg (by omega), if_neg (by omega), if_pos (by omega)]; done) | (rw [if_neg (by omega), if_neg (by omega), if_neg (by omega), if_neg (by omega), if_neg (by omega)]; done) | (rw [if_neg (by omega), if_neg (by omega), if_neg (by omega), if_neg (by omega), if_neg (by omega), if_pos (by omega)]; done) | (rw [if_neg (by omega), if_neg (by omega), if_neg (by omega), if_neg (by omega), if_neg (by omega), if_neg (by omega)]; done) | (rw [if_neg (by omega), if_neg (by omega), if_neg (by omega), if_neg (by omega), if_neg (by omega), if_neg (by omega), if_pos (by omega)]; done) | (rw [if_neg (by omega), if_neg (by omega), if_neg (by omega), if_neg (by omega), if_neg (by omega), if_neg (by omega), if_neg (by omega)]; done) | (rw [if_neg (by omega)]; omega))))
theorem lX11_inLeastTerms_9 {a : Int} {b : Int} {w : Int} {σ : mp_H} (h_a : 0 ≤ a ∧ a < 9223372036854775808) (h_b : 0 < b ∧ b < 9223372036854775808) (h_w : 0 ≤ w ∧ w ≤ 1) {R9 : mp_An} : ∀ (n : Nat) (x : Int) (y : Int) (t : Int), (((0 ≤ x ∧ x < 9223372036854775808) ∧ (0 < y ∧ y < 9223372036854775808) ∧ (Int.gcd y x : Int) = (Int.gcd a b : Int)) ∧ (x = 0 ∨ mp_eu n x y) ∧ (0 ≤ t ∧ t + (n : Nat) ≤ 999)) → mp_At (mX11_inLeastTerms, 0, 0, 0) (0, 0) 45 [some (mp_l a), none, some (mp_l b), none, some (mp_i w), none, none, some (mp_l (Int.gcd a b : Int)), none, none, none, none] [] σ R9 → mp_At (mX11_inLeastTerms, 0, 0, 0) (0, 0) 9 [some (mp_l a), none, some (mp_l b), none, some (mp_i w), some (mp_l x), none, some (mp_l y), none, some (mp_i t), none, none] [] σ R9 := by
  intro n
  induction n with
  | zero =>
    intro x y t hi hk
    have hx0 : x = 0 := hi.2.1.resolve_right (fun h => by have := h.1; omega)
    refine mp_iload dX11_inLeastTerms_9 rfl ?_
    refine mp_sipush dX11_inLeastTerms_11 rfl ?_
    refine mp_icmp_ge (tgt := 45) dX11_inLeastTerms_14 rfl ⟨by omega, by omega⟩ ⟨by omega, by omega⟩ (fun h1 => ?_) (fun h1 => ?_)
    · have hg0 : x = 0 := by first | omega | exact hi.2.1.resolve_right (fun h => by have := h.1; omega)
      have hg1 : y = (Int.gcd a b : Int) := by have h9 := hi.1.2.2; rw [hg0, Int.gcd_zero_right] at h9; have := hi.1.2.1; omega
      refine mp_drop (L' := [some (mp_l a), none, some (mp_l b), none, some (mp_i w), none, none, some (mp_l y), none, none, none, none]) [true, false, true, false, true, false, false, true, false, false, false, false] rfl ?_
      rw [hg1]
      exact hk
    · refine mp_lload dX11_inLeastTerms_17 rfl ?_
      refine mp_lconst (z := 0) dX11_inLeastTerms_19 rfl ?_
      refine mp_lcmpI (z := if 0 < x then 1 else if x = 0 then 0 else -1) dX11_inLeastTerms_20 ⟨by omega, by omega⟩ ⟨by omega, by omega⟩ rfl ?_
      refine mp_if_eq (tgt := 45) dX11_inLeastTerms_21 rfl ⟨by omega, by omega⟩ (fun h2 => ?_) (fun h2 => ?_)
      · have hg0 : x = 0 := by first | omega | exact hi.2.1.resolve_right (fun h => by have := h.1; omega)
        have hg1 : y = (Int.gcd a b : Int) := by have h9 := hi.1.2.2; rw [hg0, Int.gcd_zero_right] at h9; have := hi.1.2.1; omega
        refine mp_drop (L' := [some (mp_l a), none, some (mp_l b), none, some (mp_i w), none, none, some (mp_l y), none, none, none, none]) [true, false, true, false, true, false, false, true, false, false, false, false] rfl ?_
        rw [hg1]
        exact hk
      · refine mp_lload dX11_inLeastTerms_24 rfl ?_
        refine mp_lload dX11_inLeastTerms_26 rfl ?_
        refine mp_lremr (z := y % x) dX11_inLeastTerms_28 ⟨by omega, by omega⟩ ⟨by omega, by omega⟩ rfl ?_
        refine mp_lstore (L' := [some (mp_l a), none, some (mp_l b), none, some (mp_i w), some (mp_l x), none, some (mp_l y), none, some (mp_i t), some (mp_l (y % x)), none]) dX11_inLeastTerms_29 (by decide) rfl ?_
        refine mp_lload dX11_inLeastTerms_31 rfl ?_
        refine mp_lstore (L' := [some (mp_l a), none, some (mp_l b), none, some (mp_i w), some (mp_l x), none, some (mp_l x), none, some (mp_i t), some (mp_l (y % x)), none]) dX11_inLeastTerms_33 (by decide) rfl ?_
        refine mp_lload dX11_inLeastTerms_35 rfl ?_
        refine mp_lstore (L' := [some (mp_l a), none, some (mp_l b), none, some (mp_i w), some (mp_l (y % x)), none, some (mp_l x), none, some (mp_i t), some (mp_l (y % x)), none]) dX11_inLeastTerms_37 (by decide) rfl ?_
        refine mp_iinc (z := t + 1) (L' := [some (mp_l a), none, some (mp_l b), none, some (mp_i w), some (mp_l (y % x)), none, some (mp_l x), none, some (mp_i (t + 1)), some (mp_l (y % x)), none]) dX11_inLeastTerms_39 rfl (rfl) (by decide) rfl ?_
        refine mp_goto (tgt := 9) dX11_inLeastTerms_42 rfl ?_
        exfalso; omega
  | succ n ih =>
    intro x y t hi hk
    refine mp_iload dX11_inLeastTerms_9 rfl ?_
    refine mp_sipush dX11_inLeastTerms_11 rfl ?_
    refine mp_icmp_ge (tgt := 45) dX11_inLeastTerms_14 rfl ⟨by omega, by omega⟩ ⟨by omega, by omega⟩ (fun h1 => ?_) (fun h1 => ?_)
    · have hg0 : x = 0 := by first | omega | exact hi.2.1.resolve_right (fun h => by have := h.1; omega)
      have hg1 : y = (Int.gcd a b : Int) := by have h9 := hi.1.2.2; rw [hg0, Int.gcd_zero_right] at h9; have := hi.1.2.1; omega
      refine mp_drop (L' := [some (mp_l a), none, some (mp_l b), none, some (mp_i w), none, none, some (mp_l y), none, none, none, none]) [true, false, true, false, true, false, false, true, false, false, false, false] rfl ?_
      rw [hg1]
      exact hk
    · refine mp_lload dX11_inLeastTerms_17 rfl ?_
      refine mp_lconst (z := 0) dX11_inLeastTerms_19 rfl ?_
      refine mp_lcmpI (z := if 0 < x then 1 else if x = 0 then 0 else -1) dX11_inLeastTerms_20 ⟨by omega, by omega⟩ ⟨by omega, by omega⟩ rfl ?_
      refine mp_if_eq (tgt := 45) dX11_inLeastTerms_21 rfl ⟨by omega, by omega⟩ (fun h2 => ?_) (fun h2 => ?_)
      · have hg0 : x = 0 := by first | omega | exact hi.2.1.resolve_right (fun h => by have := h.1; omega)
        have hg1 : y = (Int.gcd a b : Int) := by have h9 := hi.1.2.2; rw [hg0, Int.gcd_zero_right] at h9; have := hi.1.2.1; omega
        refine mp_drop (L' := [some (mp_l a), none, some (mp_l b), none, some (mp_i w), none, none, some (mp_l y), none, none, none, none]) [true, false, true, false, true, false, false, true, false, false, false, false] rfl ?_
        rw [hg1]
        exact hk
      · refine mp_lload dX11_inLeastTerms_24 rfl ?_
        refine mp_lload dX11_inLeastTerms_26 rfl ?_
        refine mp_lremr (z := y % x) dX11_inLeastTerms_28 ⟨by omega, by omega⟩ ⟨by omega, by omega⟩ rfl ?_
        refine mp_lstore (L' := [some (mp_l a), none, some (mp_l b), none, some (mp_i w), some (mp_l x), none, some (mp_l y), none, some (mp_i t), some (mp_l (y % x)), none]) dX11_inLeastTerms_29 (by decide) rfl ?_
        refine mp_lload dX11_inLeastTerms_31 rfl ?_
        refine mp_lstore (L' := [some (mp_l a), none, some (mp_l b), none, some (mp_i w), some (mp_l x), none, some (mp_l x), none, some (mp_i t), some (mp_l (y % x)), none]) dX11_inLeastTerms_33 (by decide) rfl ?_
        refine mp_lload dX11_inLeastTerms_35 rfl ?_
        refine mp_lstore (L' := [some (mp_l a), none, some (mp_l b), none, some (mp_i w), some (mp_l (y % x)), none, some (mp_l x), none, some (mp_i t), some (mp_l (y % x)), none]) dX11_inLeastTerms_37 (by decide) rfl ?_
        refine mp_iinc (z := t + 1) (L' := [some (mp_l a), none, some (mp_l b), none, some (mp_i w), some (mp_l (y % x)), none, some (mp_l x), none, some (mp_i (t + 1)), some (mp_l (y % x)), none]) dX11_inLeastTerms_39 rfl (rfl) (by decide) rfl ?_
        refine mp_goto (tgt := 9) dX11_inLeastTerms_42 rfl ?_
        refine mp_drop (L' := [some (mp_l a), none, some (mp_l b), none, some (mp_i w), some (mp_l (y % x)), none, some (mp_l x), none, some (mp_i (t + 1)), none, none]) [true, false, true, false, true, true, false, true, false, true, false, false] rfl ?_
        have hm0 := Int.emod_nonneg y (show x ≠ 0 by omega)
        have hm1 := Int.emod_lt_of_pos y (show 0 < x by omega)
        exact ih (y % x) x (t + 1) ⟨⟨by omega, by omega, (mp_gcd_step (by omega) (by omega) (by omega)).symm.trans hi.1.2.2⟩, mp_eu_step (by omega) (hi.2.1.resolve_left (by omega)), by omega⟩ hk
theorem zX11_inLeastTerms {a : Int} {b : Int} {w : Int} {σ : mp_H} (h_a : 0 ≤ a ∧ a < 9223372036854775808) (h_b : 0 < b ∧ b < 9223372036854775808) (h_w : 0 ≤ w ∧ w ≤ 1) : mp_Call (mX11_inLeastTerms, 0, 0, 0) [mp_l a, mp_l b, mp_i w] σ (some (mp_l ((if w = 0 then a else b) / (Int.gcd a b : Int))), σ) := by
  refine mp_Call.of (L := [some (mp_l a), none, some (mp_l b), none, some (mp_i w), none, none, none, none, none, none, none]) pnX11 (Nat.le_of_ble_eq_true rfl) rfl ?_
  have hgp : (0 : Int) < (Int.gcd a b : Int) := by have := Int.gcd_pos_of_ne_zero_right a (show b ≠ 0 by omega); omega
  have hgl : (Int.gcd a b : Int) ≤ b := Int.le_of_dvd (by omega) (Int.gcd_dvd_right a b)
  refine mp_lload_n dX11_inLeastTerms_0 rfl ?_
  refine mp_lstore (L' := [some (mp_l a), none, some (mp_l b), none, some (mp_i w), some (mp_l a), none, none, none, none, none, none]) dX11_inLeastTerms_1 (by decide) rfl ?_
  refine mp_lload_n dX11_inLeastTerms_3 rfl ?_
  refine mp_lstore (L' := [some (mp_l a), none, some (mp_l b), none, some (mp_i w), some (mp_l a), none, some (mp_l b), none, none, none, none]) dX11_inLeastTerms_4 (by decide) rfl ?_
  refine mp_iconst dX11_inLeastTerms_6 ?_
  refine mp_istore (L' := [some (mp_l a), none, some (mp_l b), none, some (mp_i w), some (mp_l a), none, some (mp_l b), none, some (mp_i 0), none, none]) dX11_inLeastTerms_7 (by decide) rfl ?_
  refine lX11_inLeastTerms_9 (a := a) (b := b) (w := w)  (by first | with_reducible assumption | omega) (by first | with_reducible assumption | omega) (by first | with_reducible assumption | omega) 128 a b 0 (⟨⟨by omega, by omega, by rw [Int.gcd_comm]⟩, mp_eu_ini h_a, by omega⟩) ?_
  refine mp_lload dX11_inLeastTerms_45 rfl ?_
  refine mp_lconst (z := 0) dX11_inLeastTerms_47 rfl ?_
  refine mp_lcmpI (z := if 0 < (Int.gcd a b : Int) then 1 else if (Int.gcd a b : Int) = 0 then 0 else -1) dX11_inLeastTerms_48 ⟨by omega, by omega⟩ ⟨by omega, by omega⟩ rfl ?_
  refine mp_if_gt (tgt := 63) dX11_inLeastTerms_49 rfl ⟨by omega, by omega⟩ (fun h1 => ?_) (fun h1 => ?_)
  · refine mp_iload dX11_inLeastTerms_63 rfl ?_
    refine mp_if_ne (tgt := 75) dX11_inLeastTerms_65 rfl ⟨by omega, by omega⟩ (fun h2 => ?_) (fun h2 => ?_)
    · refine mp_lload_n dX11_inLeastTerms_75 rfl ?_
      refine mp_lload dX11_inLeastTerms_76 rfl ?_
      refine mp_ldivr (z := b / (Int.gcd a b : Int)) dX11_inLeastTerms_78 ⟨by omega, by omega⟩ ⟨by omega, by omega⟩ rfl ?_
      exact mp_lreturn (st := []) dX11_inLeastTerms_79 rfl ⟨by decide, by decide⟩ ((mp_ansl (by first | (rw [if_pos (by omega)]; done) | (rw [if_neg (by omega)]; done))))
    · refine mp_lload_n dX11_inLeastTerms_68 rfl ?_
      refine mp_lload dX11_inLeastTerms_69 rfl ?_
      refine mp_ldivr (z := a / (Int.gcd a b : Int)) dX11_inLeastTerms_71 ⟨by omega, by omega⟩ ⟨by omega, by omega⟩ rfl ?_
      refine mp_goto (tgt := 79) dX11_inLeastTerms_72 rfl ?_
      exact mp_lreturn (st := []) dX11_inLeastTerms_79 rfl ⟨by decide, by decide⟩ ((mp_ansl (by first | (rw [if_pos (by omega)]; done) | (rw [if_neg (by omega)]; done))))
  · exfalso; omega
theorem zX11_mean {s si sp : Int → Int} {f fi fp : Nat → Option Nat} {im : Int} {hd : Int → Int} {kn : Nat → Option Nat} {wd ak ke cv vo so sz el : Int → Int} {A B : mp_H}  {w : Int} (hA : A.length = 1) (hs : mp_sky s) (hMt : mp_Mt (A ++ (mp_cs s si sp f fi fp im hd kn wd ak ke cv vo so sz el ++ B)) s f) (h_w : mp_w w) : mp_Call (mX11_mean, 4, 0, 0) [Value.ref 1, mp_i w] (A ++ (mp_cs s si sp f fi fp im hd kn wd ak ke cv vo so sz el ++ B)) (some (mp_l (sp_mean s w)), A ++ (mp_cs s si sp f fi fp im hd kn wd ak ke cv vo so sz el ++ B)) := by
  refine mp_Call.of (L := [some (Value.ref 1), some (mp_i w)]) pnX11 (Nat.le_of_ble_eq_true rfl) rfl ?_
  have hz0 := hs.1
  have hha := mp_heatAll_bd hs
  refine mp_iload_n dX11_mean_0 rfl ?_
  refine mp_iconst dX11_mean_1 ?_
  refine mp_invS (z := (mX11_isBelow, 0, 0, 0)) (K' := (0, 0)) (σ1 := A ++ (mp_cs s si sp f fi fp im hd kn wd ak ke cv vo so sz el ++ B)) (as := [mp_i w, mp_i 2]) (st := []) (st1 := [mp_i (if 0 ≤ w ∧ w < 2 then 1 else 0)]) dX11_mean_2 ssX11_54 (zX11_isBelow (v := w) (n := 2) (by first | with_reducible assumption | omega) (by first | with_reducible assumption | omega)) ⟨Nat.le_of_ble_eq_true rfl, Nat.le_of_ble_eq_true rfl, Nat.le_of_ble_eq_true rfl, Nat.le_of_ble_eq_true rfl, Nat.le_of_ble_eq_true rfl⟩ rfl rfl rfl rfl ?_
  refine mp_ifb_ne (tgt := 12) dX11_mean_5 rfl (fun h1 => ?_) (fun h1 => ?_)
  · refine mp_aload_n dX11_mean_12 rfl ?_
    refine mp_getfield dX11_mean_13 fsX11_10_10 (mp_lkP hA 0 rfl) rfl ?_
    refine mp_invV (z := (mX6_allHeat, 3, 0, 0)) (K' := (0, 0)) (σ1 := A ++ (mp_cs s si sp f fi fp im hd kn wd ak ke cv vo so sz el ++ B)) (as := []) (st := []) (st1 := [mp_i (sp_heatAll s)]) dX11_mean_16 svX11_292 (mp_lkP hA 1 rfl) rfl rfl (zX6_allHeat (p := 2) (s := s) (f := f) (mp_Sk.of (σ := A ++ (mp_cs s si sp f fi fp im hd kn wd ak ke cv vo so sz el ++ B)) (mp_skC2 hA) hMt) hs) ⟨Nat.le_of_ble_eq_true rfl, Nat.le_of_ble_eq_true rfl, Nat.le_of_ble_eq_true rfl, Nat.le_of_ble_eq_true rfl, Nat.le_of_ble_eq_true rfl⟩ rfl rfl rfl rfl ?_
    refine mp_i2l dX11_mean_19 ⟨by omega, by omega⟩ ?_
    refine mp_iconst dX11_mean_20 ?_
    refine mp_aload_n dX11_mean_21 rfl ?_
    refine mp_getfield dX11_mean_22 fsX11_10_10 (mp_lkP hA 0 rfl) rfl ?_
    refine mp_getfield dX11_mean_25 fsX11_295_8 (mp_lkP hA 1 rfl) rfl ?_
    refine mp_mmax (z := if 1 < s 0 then s 0 else 1) dX11_mean_28 ssX11_238 (by decide) (Nat.le_of_ble_eq_true rfl) ⟨by decide, by decide⟩ ⟨by omega, by omega⟩ ⟨by omega, by omega⟩ rfl ?_
    refine mp_i2l dX11_mean_31 ⟨by omega, by omega⟩ ?_
    refine mp_iload_n dX11_mean_32 rfl ?_
    refine mp_invS (z := (mX11_inLeastTerms, 0, 0, 0)) (K' := (0, 0)) (σ1 := A ++ (mp_cs s si sp f fi fp im hd kn wd ak ke cv vo so sz el ++ B)) (as := [mp_l (sp_heatAll s), mp_l (if 1 < s 0 then s 0 else 1), mp_i w]) (st := []) (st1 := [mp_l ((if w = 0 then (sp_heatAll s) else (if 1 < s 0 then s 0 else 1)) / (Int.gcd (sp_heatAll s) (if 1 < s 0 then s 0 else 1) : Int))]) dX11_mean_33 ssX11_268 (zX11_inLeastTerms (a := (sp_heatAll s)) (b := (if 1 < s 0 then s 0 else 1)) (w := w) (by first | with_reducible assumption | omega) (by first | with_reducible assumption | omega) (by first | with_reducible assumption | omega)) ⟨Nat.le_of_ble_eq_true rfl, Nat.le_of_ble_eq_true rfl, Nat.le_of_ble_eq_true rfl, Nat.le_of_ble_eq_true rfl, Nat.le_of_ble_eq_true rfl⟩ rfl rfl rfl rfl ?_
    exact mp_lreturn (st := []) dX11_mean_36 rfl ⟨by decide, by decide⟩ ((mp_ansl (by unfold sp_mean; first | (rw [if_neg (by omega)]; done) | (rw [if_pos (by omega)]; exact (mp_part_max (by omega) (by omega) (fun h0 => by unfold sp_heatAll; rw [h0]; rfl) (by omega)).symm))))
  · refine mp_ldc2 (z := 1000000001) dX11_mean_8 kcX11_262 rfl ?_
    exact mp_lreturn (st := []) dX11_mean_11 rfl ⟨by decide, by decide⟩ ((mp_ansl (by unfold sp_mean; first | (rw [if_neg (by omega)]; done) | (rw [if_pos (by omega)]; exact (mp_part_max (by omega) (by omega) (fun h0 => by unfold sp_heatAll; rw [h0]; rfl) (by omega)).symm))))
theorem zX11_image {s si sp : Int → Int} {f fi fp : Nat → Option Nat} {im : Int} {hd : Int → Int} {kn : Nat → Option Nat} {wd ak ke cv vo so sz el : Int → Int} {A B : mp_H}  (hA : A.length = 1) (hs : mp_sky s) (hMt : mp_Mt (A ++ (mp_cs s si sp f fi fp im hd kn wd ak ke cv vo so sz el ++ B)) s f) (hMr : mp_Mr (A ++ (mp_cs s si sp f fi fp im hd kn wd ak ke cv vo so sz el ++ B)) f) : mp_Call (mX11_image, 1, 0, 0) [Value.ref 1] (A ++ (mp_cs s si sp f fi fp im hd kn wd ak ke cv vo so sz el ++ B)) (some (mp_i (s 0)), A ++ (mp_cs s s sp f f fp 1 hd kn wd ak ke cv vo so sz el ++ B)) := by
  refine mp_Call.of (L := [some (Value.ref 1)]) pnX11 (Nat.le_of_ble_eq_true rfl) rfl ?_
  refine mp_aload_n dX11_image_0 rfl ?_
  refine mp_getfield dX11_image_1 fsX11_16_10 (mp_lkP hA 0 rfl) rfl ?_
  refine mp_aload_n dX11_image_4 rfl ?_
  refine mp_getfield dX11_image_5 fsX11_10_10 (mp_lkP hA 0 rfl) rfl ?_
  refine mp_invV (z := (mX6_becomes, 0, 0, 0)) (K' := (0, 0)) (σ1 := A ++ (mp_cs s s sp f f fp im hd kn wd ak ke cv vo so sz el ++ B)) (as := [Value.ref 2]) (st := []) (st1 := []) dX11_image_8 svX11_76 (mp_lkP hA 7 rfl) rfl rfl (mp_Call.cast (zX6_becomes (p := 8) (q := 2) (A := (A ++ (mp_csA im ++ mp_sk 2 s f))) (B := ((mp_sk 14 sp fp ++ (mp_csT hd kn wd ak ke cv vo ++ mp_rws so sz el)) ++ B)) (s := si) (f := fi) (t := s) (g := f) (mp_ln8 hA) (by decide) (fun x y => by rw [mp_cs8]; exact mp_skC2 hA) (fun x y => by rw [mp_cs8]; exact hMr.mono mp_stay_cs)) mp_cs8 (congrArg (Prod.mk _) mp_cs8)) ⟨Nat.le_of_ble_eq_true rfl, Nat.le_of_ble_eq_true rfl, Nat.le_of_ble_eq_true rfl, Nat.le_of_ble_eq_true rfl, Nat.le_of_ble_eq_true rfl⟩ rfl rfl rfl rfl ?_
  refine mp_aload_n dX11_image_11 rfl ?_
  refine mp_iconst dX11_image_12 ?_
  refine mp_putfield (σ' := A ++ (mp_cs s s sp f f fp 1 hd kn wd ak ke cv vo so sz el ++ B)) dX11_image_13 fsX11_310_10 rfl (Or.inl rfl) (tyX11_ok 3 (by decide)) (fun _ => ⟨rfl, rfl⟩) (mp_lkP hA 0 rfl) (by decide) (Nat.le_of_ble_eq_true rfl) (mp_stP (Ms' := mp_cs s s sp f f fp 1 hd kn wd ak ke cv vo so sz el) hA 0 (Nat.le_of_ble_eq_true rfl) rfl) ?_
  refine mp_aload_n dX11_image_16 rfl ?_
  refine mp_getfield dX11_image_17 fsX11_10_10 (mp_lkP hA 0 rfl) rfl ?_
  refine mp_getfield dX11_image_20 fsX11_295_8 (mp_lkP hA 1 rfl) rfl ?_
  exact mp_ireturn (st := []) dX11_image_23 rfl ⟨by decide, by decide⟩ ((mp_ans (by first | with_reducible rfl | omega | rfl)))
theorem zX11_restoreN {s si sp : Int → Int} {f fi fp : Nat → Option Nat} {im : Int} {hd : Int → Int} {kn : Nat → Option Nat} {wd ak ke cv vo so sz el : Int → Int} {A B : mp_H}  (hA : A.length = 1) (hs : mp_sky s) (hMt : mp_Mt (A ++ (mp_cs s si sp f fi fp im hd kn wd ak ke cv vo so sz el ++ B)) s f) (h_im : im = 0) : mp_Call (mX11_restore, 1, 0, 0) [Value.ref 1] (A ++ (mp_cs s si sp f fi fp im hd kn wd ak ke cv vo so sz el ++ B)) (some (mp_i (-3)), A ++ (mp_cs s si sp f fi fp im hd kn wd ak ke cv vo so sz el ++ B)) := by
  refine mp_Call.of (L := [some (Value.ref 1)]) pnX11 (Nat.le_of_ble_eq_true rfl) rfl ?_
  refine mp_aload_n dX11_restore_0 rfl ?_
  refine mp_getfield dX11_restore_1 fsX11_310_10 (mp_lkP hA 0 rfl) rfl ?_
  refine mp_if_ne (tgt := 10) dX11_restore_4 rfl ⟨by omega, by omega⟩ (fun h1 => ?_) (fun h1 => ?_)
  · exfalso; omega
  · refine mp_bipush dX11_restore_7 rfl ?_
    exact mp_ireturn (st := []) dX11_restore_9 rfl ⟨by decide, by decide⟩ ((mp_ans (by first | with_reducible rfl | omega | rfl)))
theorem zX11_restore {s si sp : Int → Int} {f fi fp : Nat → Option Nat} {im : Int} {hd : Int → Int} {kn : Nat → Option Nat} {wd ak ke cv vo so sz el : Int → Int} {A B : mp_H}  (hA : A.length = 1) (hs : mp_sky s) (hMt : mp_Mt (A ++ (mp_cs s si sp f fi fp im hd kn wd ak ke cv vo so sz el ++ B)) s f) (h_im : im = 1) (hMri : mp_Mr (A ++ (mp_cs s si sp f fi fp im hd kn wd ak ke cv vo so sz el ++ B)) fi) : mp_Call (mX11_restore, 1, 0, 0) [Value.ref 1] (A ++ (mp_cs s si sp f fi fp im hd kn wd ak ke cv vo so sz el ++ B)) (some (mp_i (si 0)), A ++ (mp_cs si si sp fi fi fp im hd kn wd ak ke cv vo so sz el ++ B)) := by
  refine mp_Call.of (L := [some (Value.ref 1)]) pnX11 (Nat.le_of_ble_eq_true rfl) rfl ?_
  refine mp_aload_n dX11_restore_0 rfl ?_
  refine mp_getfield dX11_restore_1 fsX11_310_10 (mp_lkP hA 0 rfl) rfl ?_
  refine mp_if_ne (tgt := 10) dX11_restore_4 rfl ⟨by omega, by omega⟩ (fun h1 => ?_) (fun h1 => ?_)
  · refine mp_aload_n dX11_restore_10 rfl ?_
    refine mp_getfield dX11_restore_11 fsX11_10_10 (mp_lkP hA 0 rfl) rfl ?_
    refine mp_aload_n dX11_restore_14 rfl ?_
    refine mp_getfield dX11_restore_15 fsX11_16_10 (mp_lkP hA 0 rfl) rfl ?_
    refine mp_invV (z := (mX6_becomes, 0, 0, 0)) (K' := (0, 0)) (σ1 := A ++ (mp_cs si si sp fi fi fp im hd kn wd ak ke cv vo so sz el ++ B)) (as := [Value.ref 8]) (st := []) (st1 := []) dX11_restore_18 svX11_76 (mp_lkP hA 1 rfl) rfl rfl (mp_Call.cast (zX6_becomes (p := 2) (q := 8) (A := (A ++ mp_csA im)) (B := ((mp_sk 8 si fi ++ (mp_sk 14 sp fp ++ (mp_csT hd kn wd ak ke cv vo ++ mp_rws so sz el))) ++ B)) (s := s) (f := f) (t := si) (g := fi) (mp_ln2 hA) (by decide) (fun x y => by rw [mp_cs2]; exact mp_skC8 hA) (fun x y => by rw [mp_cs2]; exact hMri.mono mp_stay_cs)) mp_cs2 (congrArg (Prod.mk _) mp_cs2)) ⟨Nat.le_of_ble_eq_true rfl, Nat.le_of_ble_eq_true rfl, Nat.le_of_ble_eq_true rfl, Nat.le_of_ble_eq_true rfl, Nat.le_of_ble_eq_true rfl⟩ rfl rfl rfl rfl ?_
    refine mp_aload_n dX11_restore_21 rfl ?_
    refine mp_getfield dX11_restore_22 fsX11_10_10 (mp_lkP hA 0 rfl) rfl ?_
    refine mp_getfield dX11_restore_25 fsX11_295_8 (mp_lkP hA 1 rfl) rfl ?_
    exact mp_ireturn (st := []) dX11_restore_28 rfl ⟨by decide, by decide⟩ ((mp_ans (by first | with_reducible rfl | omega | rfl)))
  · exfalso; omega
theorem lX11_august_23 {s si sp : Int → Int} {f fi fp : Nat → Option Nat} {im : Int} {hd : Int → Int} {kn : Nat → Option Nat} {wd ak ke cv vo so sz el : Int → Int} {A B : mp_H}  {w : Int} (hA : A.length = 1) (hs : mp_sky s) (hMt : mp_Mt (A ++ (mp_cs s si sp f fi fp im hd kn wd ak ke cv vo so sz el ++ B)) s f) (hMr : mp_Mr (A ++ (mp_cs s si sp f fi fp im hd kn wd ak ke cv vo so sz el ++ B)) f) (h_w : mp_w w) {R9 : mp_An} : ∀ (n : Nat) (x : Int → Int) (t : Int), ((0 ≤ t ∧ t + (n : Nat) = 31) ∧ mp_sky x ∧ (∀ j, 0 ≤ j → j < 49 → x j = s j)) → mp_At (mX11_august, 5, 0, 0) (0, 0) 44 [some (Value.ref 1), some (mp_i w), none] [] (A ++ (mp_cs s si (mp_fold (fun w q => (sp_runs q w).1) n t x) f fi f im hd kn wd ak ke cv vo so sz el ++ B)) R9 → mp_At (mX11_august, 5, 0, 0) (0, 0) 23 [some (Value.ref 1), some (mp_i w), some (mp_i t)] [] (A ++ (mp_cs s si x f fi f im hd kn wd ak ke cv vo so sz el ++ B)) R9 := by
  intro n
  induction n with
  | zero =>
    intro x t hi hk
    refine mp_iload_n dX11_august_23 rfl ?_
    refine mp_bipush dX11_august_24 rfl ?_
    refine mp_icmp_ge (tgt := 44) dX11_august_26 rfl ⟨by omega, by omega⟩ ⟨by omega, by omega⟩ (fun h1 => ?_) (fun h1 => ?_)
    · refine mp_drop (L' := [some (Value.ref 1), some (mp_i w), none]) [true, true, false] rfl ?_
      exact hk
    · exfalso; omega
  | succ n ih =>
    intro x t hi hk
    refine mp_iload_n dX11_august_23 rfl ?_
    refine mp_bipush dX11_august_24 rfl ?_
    refine mp_icmp_ge (tgt := 44) dX11_august_26 rfl ⟨by omega, by omega⟩ ⟨by omega, by omega⟩ (fun h1 => ?_) (fun h1 => ?_)
    · exfalso; omega
    · refine mp_aload_n dX11_august_29 rfl ?_
      refine mp_getfield dX11_august_30 fsX11_19_10 (mp_lkP hA 0 rfl) rfl ?_
      refine mp_iload_n dX11_august_33 rfl ?_
      refine mp_invV (z := (mX6_runNight, 4, 0, 0)) (K' := (0, 0)) (σ1 := A ++ (mp_cs s si ((sp_run x t).2) f fi f im hd kn wd ak ke cv vo so sz el ++ B)) (as := [mp_i t]) (st := []) (st1 := [mp_i ((sp_run x t).1)]) dX11_august_34 svX11_162 (mp_lkP hA 13 rfl) rfl rfl (mp_Call.cast (zX6_runNight (p := 14) (w := t) (A := (A ++ (mp_csA im ++ (mp_sk 2 s f ++ mp_sk 8 si fi)))) (B := ((mp_csT hd kn wd ak ke cv vo ++ mp_rws so sz el) ++ B)) (s := x) (f := f) (mp_ln14 hA) (by decide) hi.2.1 (by rw [mp_cs14]; exact (hMt.mono hs.kd mp_stay_cs).alike hi.2.2 hs.1.2) (by first | with_reducible assumption | omega)) mp_cs14 (congrArg (Prod.mk _) mp_cs14)) ⟨Nat.le_of_ble_eq_true rfl, Nat.le_of_ble_eq_true rfl, Nat.le_of_ble_eq_true rfl, Nat.le_of_ble_eq_true rfl, Nat.le_of_ble_eq_true rfl⟩ rfl rfl rfl rfl ?_
      refine mp_pop dX11_august_37 rfl ?_
      refine mp_iinc (z := t + 1) (L' := [some (Value.ref 1), some (mp_i w), some (mp_i (t + 1))]) dX11_august_38 rfl (rfl) (by decide) rfl ?_
      refine mp_goto (tgt := 23) dX11_august_41 rfl ?_
      rw [mp_run_runs (s := x) (w := t) (by omega)]
      exact ih (sp_runs x t).1 (t + 1) ⟨by omega, (mp_runs_sky hi.2.1 t).1, fun j h0 h1 => by rw [mp_runs_al h1]; exact hi.2.2 j h0 h1⟩ hk
theorem zX11_august {s si sp : Int → Int} {f fi fp : Nat → Option Nat} {im : Int} {hd : Int → Int} {kn : Nat → Option Nat} {wd ak ke cv vo so sz el : Int → Int} {A B : mp_H}  {w : Int} (hA : A.length = 1) (hs : mp_sky s) (hMt : mp_Mt (A ++ (mp_cs s si sp f fi fp im hd kn wd ak ke cv vo so sz el ++ B)) s f) (hMr : mp_Mr (A ++ (mp_cs s si sp f fi fp im hd kn wd ak ke cv vo so sz el ++ B)) f) (h_w : mp_w w) : mp_Call (mX11_august, 5, 0, 0) [Value.ref 1, mp_i w] (A ++ (mp_cs s si sp f fi fp im hd kn wd ak ke cv vo so sz el ++ B)) (some (mp_i (sp_august s w)), A ++ (mp_cs s si (if 0 ≤ w ∧ w ≤ 1 then sp_nights s else sp) f fi (if 0 ≤ w ∧ w ≤ 1 then f else fp) im hd kn wd ak ke cv vo so sz el ++ B)) := by
  refine mp_Call.of (L := [some (Value.ref 1), some (mp_i w), none]) pnX11 (Nat.le_of_ble_eq_true rfl) rfl ?_
  refine mp_iload_n dX11_august_0 rfl ?_
  refine mp_iconst dX11_august_1 ?_
  refine mp_invS (z := (mX11_isBelow, 0, 0, 0)) (K' := (0, 0)) (σ1 := A ++ (mp_cs s si sp f fi fp im hd kn wd ak ke cv vo so sz el ++ B)) (as := [mp_i w, mp_i 2]) (st := []) (st1 := [mp_i (if 0 ≤ w ∧ w < 2 then 1 else 0)]) dX11_august_2 ssX11_54 (zX11_isBelow (v := w) (n := 2) (by first | with_reducible assumption | omega) (by first | with_reducible assumption | omega)) ⟨Nat.le_of_ble_eq_true rfl, Nat.le_of_ble_eq_true rfl, Nat.le_of_ble_eq_true rfl, Nat.le_of_ble_eq_true rfl, Nat.le_of_ble_eq_true rfl⟩ rfl rfl rfl rfl ?_
  refine mp_ifb_ne (tgt := 10) dX11_august_5 rfl (fun h1 => ?_) (fun h1 => ?_)
  · refine mp_aload_n dX11_august_10 rfl ?_
    refine mp_getfield dX11_august_11 fsX11_19_10 (mp_lkP hA 0 rfl) rfl ?_
    refine mp_aload_n dX11_august_14 rfl ?_
    refine mp_getfield dX11_august_15 fsX11_10_10 (mp_lkP hA 0 rfl) rfl ?_
    refine mp_invV (z := (mX6_becomes, 0, 0, 0)) (K' := (0, 0)) (σ1 := A ++ (mp_cs s si s f fi f im hd kn wd ak ke cv vo so sz el ++ B)) (as := [Value.ref 2]) (st := []) (st1 := []) dX11_august_18 svX11_76 (mp_lkP hA 13 rfl) rfl rfl (mp_Call.cast (zX6_becomes (p := 14) (q := 2) (A := (A ++ (mp_csA im ++ (mp_sk 2 s f ++ mp_sk 8 si fi)))) (B := ((mp_csT hd kn wd ak ke cv vo ++ mp_rws so sz el) ++ B)) (s := sp) (f := fp) (t := s) (g := f) (mp_ln14 hA) (by decide) (fun x y => by rw [mp_cs14]; exact mp_skC2 hA) (fun x y => by rw [mp_cs14]; exact hMr.mono mp_stay_cs)) mp_cs14 (congrArg (Prod.mk _) mp_cs14)) ⟨Nat.le_of_ble_eq_true rfl, Nat.le_of_ble_eq_true rfl, Nat.le_of_ble_eq_true rfl, Nat.le_of_ble_eq_true rfl, Nat.le_of_ble_eq_true rfl⟩ rfl rfl rfl rfl ?_
    refine mp_iconst dX11_august_21 ?_
    refine mp_istore_n (L' := [some (Value.ref 1), some (mp_i w), some (mp_i 0)]) dX11_august_22 rfl (by decide) rfl ?_
    refine lX11_august_23 (s := s) (si := si) (sp := sp) (f := f) (fi := fi) (fp := fp) (im := im) (hd := hd) (kn := kn) (wd := wd) (ak := ak) (ke := ke) (cv := cv) (vo := vo) (so := so) (sz := sz) (el := el) (B := B) (w := w)  (by first | with_reducible assumption | omega) (by first | with_reducible assumption | omega) (by first | with_reducible assumption | omega) (by first | with_reducible assumption | omega) (by first | with_reducible assumption | omega) 31 s 0 (⟨by omega, hs, fun _ _ _ => rfl⟩) ?_
    have hsx := (mp_nights_sky hs).1
    have hal := mp_nights_al s
    have hb1 := mp_said_bd hsx
    have hb2 := mp_mis_bd hsx
    refine mp_sg (σ' := A ++ (mp_cs s si (sp_nights s) f fi f im hd kn wd ak ke cv vo so sz el ++ B)) rfl ?_
    refine mp_iload_n dX11_august_44 rfl ?_
    refine mp_if_ne (tgt := 58) dX11_august_45 rfl ⟨by omega, by omega⟩ (fun h2 => ?_) (fun h2 => ?_)
    · refine mp_aload_n dX11_august_58 rfl ?_
      refine mp_getfield dX11_august_59 fsX11_19_10 (mp_lkP hA 0 rfl) rfl ?_
      refine mp_invV (z := (mX6_mistaken, 1, 0, 0)) (K' := (0, 0)) (σ1 := A ++ (mp_cs s si (sp_nights s) f fi f im hd kn wd ak ke cv vo so sz el ++ B)) (as := []) (st := []) (st1 := [mp_i (sp_mis (sp_nights s))]) dX11_august_62 svX11_186 (mp_lkP hA 13 rfl) rfl rfl (zX6_mistaken (p := 14) (s := (sp_nights s)) (f := f) (mp_Sk.of (σ := A ++ (mp_cs s si (sp_nights s) f fi f im hd kn wd ak ke cv vo so sz el ++ B)) (mp_skC14 hA) ((hMt.mono hs.kd mp_stay_cs).alike hal hs.1.2)) hsx) ⟨Nat.le_of_ble_eq_true rfl, Nat.le_of_ble_eq_true rfl, Nat.le_of_ble_eq_true rfl, Nat.le_of_ble_eq_true rfl, Nat.le_of_ble_eq_true rfl⟩ rfl rfl rfl rfl ?_
      refine mp_invS (z := (mJ6_bitCount_0f7a4, 0, 0, 0)) (K' := (0, 0)) (σ1 := A ++ (mp_cs s si (sp_nights s) f fi f im hd kn wd ak ke cv vo so sz el ++ B)) (as := [mp_i (sp_mis (sp_nights s))]) (st := []) (st1 := [mp_i (sp_bits (sp_mis (sp_nights s)))]) dX11_august_65 ssX11_195 (zJ6_bitCount_0f7a4 (v := (sp_mis (sp_nights s))) (by first | with_reducible assumption | omega)) ⟨Nat.le_of_ble_eq_true rfl, Nat.le_of_ble_eq_true rfl, Nat.le_of_ble_eq_true rfl, Nat.le_of_ble_eq_true rfl, Nat.le_of_ble_eq_true rfl⟩ rfl rfl rfl rfl ?_
      exact mp_ireturn (st := []) dX11_august_68 rfl ⟨by decide, by decide⟩ ((by rw [if_pos (by omega), if_pos (by omega)]; exact mp_ans (by unfold sp_august; first | (rw [if_pos (by omega)]; done) | (rw [if_neg (by omega)]; done) | (rw [if_neg (by omega), if_pos (by omega)]; done) | (rw [if_neg (by omega), if_neg (by omega)]; done) | (rw [if_neg (by omega), if_neg (by omega), if_pos (by omega)]; done) | (rw [if_neg (by omega), if_neg (by omega), if_neg (by omega)]; done) | (rw [if_neg (by omega), if_neg (by omega), if_neg (by omega), if_pos (by omega)]; done) | (rw [if_neg (by omega), if_neg (by omega), if_neg (by omega), if_neg (by omega)]; done) | (rw [if_neg (by omega), if_neg (by omega), if_neg (by omega), if_neg (by omega), if_pos (by omega)]; done) | (rw [if_neg (by omega), if_neg (by omega), if_neg (by omega), if_neg (by omega), if_neg (by omega)]; done) | (rw [if_neg (by omega), if_neg (by omega), if_neg (by omega), if_neg (by omega), if_neg (by omega), if_pos (by omega)]; done) | (rw [if_neg (by omega), if_neg (by omega), if_neg (by omega), if_neg (by omega), if_neg (by omega), if_neg (by omega)]; done) | (rw [if_neg (by omega), if_neg (by omega), if_neg (by omega), if_neg (by omega), if_neg (by omega), if_neg (by omega), if_pos (by omega)]; done) | (rw [if_neg (by omega), if_neg (by omega), if_neg (by omega), if_neg (by omega), if_neg (by omega), if_neg (by omega), if_neg (by omega)]; done) | (rw [if_neg (by omega)]; omega))))
    · refine mp_aload_n dX11_august_48 rfl ?_
      refine mp_getfield dX11_august_49 fsX11_19_10 (mp_lkP hA 0 rfl) rfl ?_
      refine mp_invV (z := (mX6_saidYesTo, 1, 0, 0)) (K' := (0, 0)) (σ1 := A ++ (mp_cs s si (sp_nights s) f fi f im hd kn wd ak ke cv vo so sz el ++ B)) (as := []) (st := []) (st1 := [mp_i (sp_said (sp_nights s))]) dX11_august_52 svX11_192 (mp_lkP hA 13 rfl) rfl rfl (zX6_saidYesTo (p := 14) (s := (sp_nights s)) (f := f) (mp_Sk.of (σ := A ++ (mp_cs s si (sp_nights s) f fi f im hd kn wd ak ke cv vo so sz el ++ B)) (mp_skC14 hA) ((hMt.mono hs.kd mp_stay_cs).alike hal hs.1.2)) hsx) ⟨Nat.le_of_ble_eq_true rfl, Nat.le_of_ble_eq_true rfl, Nat.le_of_ble_eq_true rfl, Nat.le_of_ble_eq_true rfl, Nat.le_of_ble_eq_true rfl⟩ rfl rfl rfl rfl ?_
      refine mp_goto (tgt := 65) dX11_august_55 rfl ?_
      refine mp_invS (z := (mJ6_bitCount_0f7a4, 0, 0, 0)) (K' := (0, 0)) (σ1 := A ++ (mp_cs s si (sp_nights s) f fi f im hd kn wd ak ke cv vo so sz el ++ B)) (as := [mp_i (sp_said (sp_nights s))]) (st := []) (st1 := [mp_i (sp_bits (sp_said (sp_nights s)))]) dX11_august_65 ssX11_195 (zJ6_bitCount_0f7a4 (v := (sp_said (sp_nights s))) (by first | with_reducible assumption | omega)) ⟨Nat.le_of_ble_eq_true rfl, Nat.le_of_ble_eq_true rfl, Nat.le_of_ble_eq_true rfl, Nat.le_of_ble_eq_true rfl, Nat.le_of_ble_eq_true rfl⟩ rfl rfl rfl rfl ?_
      exact mp_ireturn (st := []) dX11_august_68 rfl ⟨by decide, by decide⟩ ((by rw [if_pos (by omega), if_pos (by omega)]; exact mp_ans (by unfold sp_august; first | (rw [if_pos (by omega)]; done) | (rw [if_neg (by omega)]; done) | (rw [if_neg (by omega), if_pos (by omega)]; done) | (rw [if_neg (by omega), if_neg (by omega)]; done) | (rw [if_neg (by omega), if_neg (by omega), if_pos (by omega)]; done) | (rw [if_neg (by omega), if_neg (by omega), if_neg (by omega)]; done) | (rw [if_neg (by omega), if_neg (by omega), if_neg (by omega), if_pos (by omega)]; done) | (rw [if_neg (by omega), if_neg (by omega), if_neg (by omega), if_neg (by omega)]; done) | (rw [if_neg (by omega), if_neg (by omega), if_neg (by omega), if_neg (by omega), if_pos (by omega)]; done) | (rw [if_neg (by omega), if_neg (by omega), if_neg (by omega), if_neg (by omega), if_neg (by omega)]; done) | (rw [if_neg (by omega), if_neg (by omega), if_neg (by omega), if_neg (by omega), if_neg (by omega), if_pos (by omega)]; done) | (rw [if_neg (by omega), if_neg (by omega), if_neg (by omega), if_neg (by omega), if_neg (by omega), if_neg (by omega)]; done) | (rw [if_neg (by omega), if_neg (by omega), if_neg (by omega), if_neg (by omega), if_neg (by omega), if_neg (by omega), if_pos (by omega)]; done) | (rw [if_neg (by omega), if_neg (by omega), if_neg (by omega), if_neg (by omega), if_neg (by omega), if_neg (by omega), if_neg (by omega)]; done) | (rw [if_neg (by omega)]; omega))))
  · refine mp_iconst dX11_august_8 ?_
    exact mp_ireturn (st := []) dX11_august_9 rfl ⟨by decide, by decide⟩ ((by rw [if_neg (by omega), if_neg (by omega)]; exact mp_ans (by unfold sp_august; first | (rw [if_pos (by omega)]; done) | (rw [if_neg (by omega)]; done) | (rw [if_neg (by omega), if_pos (by omega)]; done) | (rw [if_neg (by omega), if_neg (by omega)]; done) | (rw [if_neg (by omega), if_neg (by omega), if_pos (by omega)]; done) | (rw [if_neg (by omega), if_neg (by omega), if_neg (by omega)]; done) | (rw [if_neg (by omega), if_neg (by omega), if_neg (by omega), if_pos (by omega)]; done) | (rw [if_neg (by omega), if_neg (by omega), if_neg (by omega), if_neg (by omega)]; done) | (rw [if_neg (by omega), if_neg (by omega), if_neg (by omega), if_neg (by omega), if_pos (by omega)]; done) | (rw [if_neg (by omega), if_neg (by omega), if_neg (by omega), if_neg (by omega), if_neg (by omega)]; done) | (rw [if_neg (by omega), if_neg (by omega), if_neg (by omega), if_neg (by omega), if_neg (by omega), if_pos (by omega)]; done) | (rw [if_neg (by omega), if_neg (by omega), if_neg (by omega), if_neg (by omega), if_neg (by omega), if_neg (by omega)]; done) | (rw [if_neg (by omega), if_neg (by omega), if_neg (by omega), if_neg (by omega), if_neg (by omega), if_neg (by omega), if_pos (by omega)]; done) | (rw [if_neg (by omega), if_neg (by omega), if_neg (by omega), if_neg (by omega), if_neg (by omega), if_neg (by omega), if_neg (by omega)]; done) | (rw [if_neg (by omega)]; omega))))
