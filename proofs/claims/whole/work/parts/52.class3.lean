/-! ===== the class: LOOKERS in mind, shelves that are written, a METEOR that falls ===== -/
theorem mp_cs_spEq {s si sp sp' : Int → Int} {f fi fp : Nat → Option Nat} {im : Int} {hd : Int → Int} {kn : Nat → Option Nat} {wd ak ke cv vo so sz el : Int → Int} {A B : mp_H} (e : mp_sk 14 sp fp = mp_sk 14 sp' fp) : A ++ (mp_cs s si sp f fi fp im hd kn wd ak ke cv vo so sz el ++ B) = A ++ (mp_cs s si sp' f fi fp im hd kn wd ak ke cv vo so sz el ++ B) := by
  unfold mp_cs; rw [e]
theorem mp_roofsAt_al (s : Int → Int) (c : Int) : ∀ j, 0 ≤ j → j < 49 → sp_roofsAt s c j = s j := by
  intro j h0 h1
  have key : ∀ (n : Nat) (i : Int) (q : Int → Int), 0 ≤ i → (mp_fold (fun l q => mp_ud q (49 + 3 * l + 0) (c + l)) n i q) j = q j := by
    intro n
    induction n with
    | zero => intro i q _; rfl
    | succ n ih => intro i q hi; show (mp_fold (fun l q => mp_ud q (49 + 3 * l + 0) (c + l)) n (i + 1) (mp_ud q (49 + 3 * i + 0) (c + i))) j = _; rw [ih _ _ (by omega), mp_udn (by omega)]
  exact key _ _ _ (Int.le_refl _)
/-- draws: what they leave, and what they don't ask -/
theorem mp_dr_all : ∀ (n : Nat) (i : Int) (x y : Int → Int) (z : Int), 0 ≤ i → (mp_fold sp_drStep n i (x, z)).2 = (mp_fold sp_drStep n i (y, z)).2 ∧ (∀ j, (∀ l, i ≤ l → l < i + n → j ≠ 49 + 3 * l + 0 ∧ j ≠ 49 + 3 * l + 1) → (mp_fold sp_drStep n i (x, z)).1 j = x j) ∧ (∀ l w, i ≤ l → l < i + n → (w = 0 ∨ w = 1) → (mp_fold sp_drStep n i (x, z)).1 (49 + 3 * l + w) = (mp_fold sp_drStep n i (y, z)).1 (49 + 3 * l + w)) := by
  intro n
  induction n with
  | zero => intro i x y z hi; exact ⟨rfl, fun _ _ => rfl, fun l w h0 h1 => by omega⟩
  | succ n ih =>
    intro i x y z hi
    have hx : sp_drStep i (x, z) = (mp_ud (mp_ud x (49 + 3 * i + 0) (sp_hb (sp_nx z) 16)) (49 + 3 * i + 1) (sp_hb (sp_nx (sp_nx z)) 10), sp_nx (sp_nx z)) := rfl
    have hy : sp_drStep i (y, z) = (mp_ud (mp_ud y (49 + 3 * i + 0) (sp_hb (sp_nx z) 16)) (49 + 3 * i + 1) (sp_hb (sp_nx (sp_nx z)) 10), sp_nx (sp_nx z)) := rfl
    show (mp_fold sp_drStep n (i + 1) (sp_drStep i (x, z))).2 = (mp_fold sp_drStep n (i + 1) (sp_drStep i (y, z))).2 ∧ (∀ j, _ → (mp_fold sp_drStep n (i + 1) (sp_drStep i (x, z))).1 j = x j) ∧ (∀ l w, _ → _ → _ → (mp_fold sp_drStep n (i + 1) (sp_drStep i (x, z))).1 (49 + 3 * l + w) = (mp_fold sp_drStep n (i + 1) (sp_drStep i (y, z))).1 (49 + 3 * l + w))
    rw [hx, hy]
    obtain ⟨a1, a2, a3⟩ := ih (i + 1) (mp_ud (mp_ud x (49 + 3 * i + 0) (sp_hb (sp_nx z) 16)) (49 + 3 * i + 1) (sp_hb (sp_nx (sp_nx z)) 10)) (mp_ud (mp_ud y (49 + 3 * i + 0) (sp_hb (sp_nx z) 16)) (49 + 3 * i + 1) (sp_hb (sp_nx (sp_nx z)) 10)) (sp_nx (sp_nx z)) (by omega)
    obtain ⟨b1, b2, b3⟩ := ih (i + 1) (mp_ud (mp_ud y (49 + 3 * i + 0) (sp_hb (sp_nx z) 16)) (49 + 3 * i + 1) (sp_hb (sp_nx (sp_nx z)) 10)) x (sp_nx (sp_nx z)) (by omega)
    refine ⟨a1, fun j hj => ?_, fun l w h0 h1 hw => ?_⟩
    · have hi9 := hj i (Int.le_refl _) (by omega)
      rw [a2 j (fun l h0 h1 => hj l (by omega) (by omega)), mp_udn (by omega), mp_udn (by omega)]
    · by_cases hl : l = i
      · subst hl
        rw [a2 _ (fun l' h2 h3 => by omega), b2 _ (fun l' h2 h3 => by omega)]
        rcases hw with rfl | rfl
        · rw [mp_udn (by omega), mp_ud_eq, mp_udn (by omega), mp_ud_eq]
        · rw [mp_ud_eq, mp_ud_eq]
      · exact a3 l w (by omega) (by omega) hw
theorem mp_dr_al {s : Int → Int} {z j : Int} (h : j < 49) : (sp_dr s z).1 j = s j := (mp_dr_all 5 0 s s z (Int.le_refl _)).2.1 j (fun l h0 h1 => by omega)
theorem mp_dr_said {s : Int → Int} {z l : Int} (h : 0 ≤ l ∧ l ≤ 4) : (sp_dr s z).1 (49 + 3 * l + 2) = s (49 + 3 * l + 2) := (mp_dr_all 5 0 s s z (Int.le_refl _)).2.1 _ (fun l' h0 h1 => by omega)
/-- what is alike but for ROOFS and QUICK -/
def mp_aq (x s : Int → Int) : Prop := (∀ j, 0 ≤ j → j < 49 → x j = s j) ∧ ∀ l, 0 ≤ l → l ≤ 4 → x (49 + 3 * l + 2) = s (49 + 3 * l + 2)
theorem mp_aq_dr {s : Int → Int} {z : Int} : mp_aq (sp_dr s z).1 s := ⟨fun j _ h => mp_dr_al h, fun l h0 h1 => mp_dr_said ⟨h0, h1⟩⟩
theorem mp_dr_sk {p : Nat} {x s : Int → Int} {z : Int} {f : Nat → Option Nat} (h : mp_aq x s) : mp_sk p (mp_fold sp_drStep 5 0 (x, z)).1 f = mp_sk p (sp_dr s z).1 f := by
  obtain ⟨a1, a2, a3⟩ := mp_dr_all 5 0 x s z (Int.le_refl _)
  obtain ⟨b1, b2, b3⟩ := mp_dr_all 5 0 s s z (Int.le_refl _)
  refine mp_sk_eq ?_ (fun j h0 h1 => ?_) (fun l h0 h1 => ⟨a3 l 0 h0 (by omega) (Or.inl rfl), a3 l 1 h0 (by omega) (Or.inr rfl), ?_⟩) (fun _ _ => rfl)
  · rw [a2 _ (fun l h0 h1 => by omega)]; show x 0 = (mp_fold sp_drStep 5 0 (s, z)).1 0; rw [b2 _ (fun l h0 h1 => by omega)]; exact h.1 0 (by omega) (by omega)
  · rw [a2 _ (fun l h0 h1 => by omega)]; show x _ = (mp_fold sp_drStep 5 0 (s, z)).1 _; rw [b2 _ (fun l h0 h1 => by omega)]; exact h.1 _ (by omega) (by omega)
  · rw [a2 _ (fun l h0 h1 => by omega)]; show x _ = (mp_fold sp_drStep 5 0 (s, z)).1 _; rw [b2 _ (fun l h0 h1 => by omega)]; exact h.2 l h0 h1
theorem mp_aug_add (X : Int → Int) (w : Int) (n : Nat) (i a : Int) : mp_fold (sp_augOne X w) n i a = a + mp_fold (sp_augOne X w) n i 0 := by
  have e : (sp_augOne X w) = fun k v => v + (fun k => if 0 ≤ sp_taker X k 0 ∧ (w = 0 ∨ X (1 + 6 * k + 5) = sp_taker X k 0) then 1 else 0) k := rfl
  rw [e, mp_fold_sum, mp_fold_sum]; omega
theorem mp_au_ind {s m m' : Int → Int} {w : Int} : ∀ (n : Nat) (i : Int) (p : Int × Int), (mp_fold (sp_auStep s w) n i (m, p)).2 = (mp_fold (sp_auStep s w) n i (m', p)).2 := by
  intro n
  induction n with
  | zero => intro i p; rfl
  | succ n ih => intro i p; rfl
theorem sp_wK_bad {hd : Int → Int} {d : Int} (h : ¬ (0 ≤ d ∧ d ≤ 7)) : sp_wrongKept hd d = -1 := if_pos h
theorem sp_wK_no {hd : Int → Int} {d : Int} (h : 0 ≤ d ∧ d ≤ 7) (h2 : 0 ≤ hd d ∧ hd d ≤ 2) (h1 : ¬ hd d = 1) : sp_wrongKept hd d = if hd d = 0 then -11 else -12 := by
  unfold sp_wrongKept
  rw [if_neg (fun h3 => h3 h)]
  by_cases h0 : hd d = 0
  · rw [if_pos h0, if_pos h0]
  · rw [if_neg h0, if_neg h0, if_pos (by omega)]
theorem sp_wK_ok {hd : Int → Int} {d : Int} (h : 0 ≤ d ∧ d ≤ 7) (h1 : hd d = 1) : sp_wrongKept hd d = 0 := by
  unfold sp_wrongKept
  rw [if_neg (fun h3 => h3 h), if_neg (by omega), if_neg (by omega)]
theorem sp_wK_nz {hd : Int → Int} {d : Int} : (if hd d = 0 then (-11 : Int) else -12) ≠ 0 := by split <;> decide
theorem sp_wR_bad {hd so : Int → Int} {d o : Int} (h : ¬ (0 ≤ d ∧ d ≤ 7)) : sp_wrongRow hd so d o = -1 := if_pos h
theorem sp_wR_no {hd so : Int → Int} {d o : Int} (h : 0 ≤ d ∧ d ≤ 7) (h1 : ¬ hd d = 2) : sp_wrongRow hd so d o = if hd d = 0 then -11 else -12 := by
  unfold sp_wrongRow
  rw [if_neg (fun h3 => h3 h)]
  by_cases h0 : hd d = 0
  · rw [if_pos h0, if_pos h0]
  · rw [if_neg h0, if_neg h0, if_pos (Or.inl h1)]
theorem sp_wR_ok {hd so : Int → Int} {d : Int} (h : 0 ≤ d ∧ d ≤ 7) (h1 : hd d = 2) : sp_wrongRow hd so d (-1) = 0 := by
  unfold sp_wrongRow
  rw [if_neg (fun h3 => h3 h), if_neg (by omega), if_neg (by omega)]
theorem sp_wR_ok0 {hd so : Int → Int} {d : Int} (h : 0 ≤ d ∧ d ≤ 7) (h1 : hd d = 2) (h0 : so d = 0) : sp_wrongRow hd so d 0 = 0 := by
  unfold sp_wrongRow
  rw [if_neg (fun h3 => h3 h), if_neg (by omega), if_neg (by omega)]
theorem sp_wR_sort {hd so : Int → Int} {d : Int} (h : 0 ≤ d ∧ d ≤ 7) (h1 : hd d = 2) (h0 : ¬ so d = 0) : sp_wrongRow hd so d 0 = -12 := by
  unfold sp_wrongRow
  rw [if_neg (fun h3 => h3 h), if_neg (by omega), if_pos (Or.inr ⟨by omega, h0⟩)]
theorem sp_falls_bad {s hd kk kf : Int → Int} {d x y w : Int} (h : ¬ ((0 ≤ d ∧ d ≤ 7) ∧ (0 ≤ x ∧ x ≤ 15) ∧ (0 ≤ y ∧ y ≤ 4) ∧ (0 ≤ w ∧ w ≤ 30))) : sp_falls s hd kk kf d x y w = (-1, s) := by
  unfold sp_falls
  by_cases h1 : (0 ≤ x ∧ x ≤ 15) ∧ (0 ≤ y ∧ y ≤ 4) ∧ (0 ≤ w ∧ w ≤ 30)
  · have hd : ¬ (0 ≤ d ∧ d ≤ 7) := fun h2 => h ⟨h2, h1⟩
    rw [if_neg (fun h2 => h2 h1), sp_wK_bad hd]
    rfl
  · rw [if_pos h1]
theorem sp_falls_no {s hd kk kf : Int → Int} {d x y w : Int} (h : (0 ≤ d ∧ d ≤ 7) ∧ (0 ≤ x ∧ x ≤ 15) ∧ (0 ≤ y ∧ y ≤ 4) ∧ (0 ≤ w ∧ w ≤ 30)) (h2 : 0 ≤ hd d ∧ hd d ≤ 2) (h1 : ¬ hd d = 1) : sp_falls s hd kk kf d x y w = ((if hd d = 0 then -11 else -12), s) := by
  unfold sp_falls
  rw [if_neg (fun h3 => h3 h.2), sp_wK_no h.1 h2 h1, if_pos sp_wK_nz]
theorem sp_falls_full {s hd kk kf : Int → Int} {d x y w : Int} (h : (0 ≤ d ∧ d ≤ 7) ∧ (0 ≤ x ∧ x ≤ 15) ∧ (0 ≤ y ∧ y ≤ 4) ∧ (0 ≤ w ∧ w ≤ 30)) (h1 : hd d = 1) (h8 : s 0 = 8) : sp_falls s hd kk kf d x y w = (-2, s) := by
  unfold sp_falls
  rw [if_neg (fun h3 => h3 h.2), sp_wK_ok h.1 h1, if_neg (fun h => h rfl), if_pos h8]
theorem sp_falls_ok {s hd kk kf : Int → Int} {d x y w : Int} (h : (0 ≤ d ∧ d ≤ 7) ∧ (0 ≤ x ∧ x ≤ 15) ∧ (0 ≤ y ∧ y ≤ 4) ∧ (0 ≤ w ∧ w ≤ 30)) (h1 : hd d = 1) (h8 : ¬ s 0 = 8) : sp_falls s hd kk kf d x y w = (s 0, sp_adds s (kk d) (kf d) x y w 9) := by
  unfold sp_falls
  rw [if_neg (fun h3 => h3 h.2), sp_wK_ok h.1 h1, if_neg (fun h => h rfl), if_neg h8]
theorem sp_cost_bad {hd kk kf : Int → Int} {d : Int} (h : ¬ (0 ≤ d ∧ d ≤ 7)) : sp_costC hd kk kf d = -1 := by
  unfold sp_costC; rw [sp_wK_bad h]; rfl
theorem sp_cost_no {hd kk kf : Int → Int} {d : Int} (h : 0 ≤ d ∧ d ≤ 7) (h2 : 0 ≤ hd d ∧ hd d ≤ 2) (h1 : ¬ hd d = 1) : sp_costC hd kk kf d = if hd d = 0 then -11 else -12 := by
  unfold sp_costC; rw [sp_wK_no h h2 h1, if_pos sp_wK_nz]
theorem sp_cost_ok {hd kk kf : Int → Int} {d : Int} (h : 0 ≤ d ∧ d ≤ 7) (h1 : hd d = 1) : sp_costC hd kk kf d = sp_cost (kk d) (kf d) := by
  unfold sp_costC; rw [sp_wK_ok h h1, if_neg (fun h => h rfl)]
theorem sp_keep_bad {hd kk kf : Int → Int} {d w x y : Int} (h : ¬ (0 ≤ d ∧ d ≤ 7) ∨ ¬ (0 ≤ w ∧ w ≤ 1) ∨ (w = 1 ∧ (¬ (0 ≤ x ∧ x ≤ 7) ∨ ¬ (0 ≤ y ∧ y ≤ 9)))) : sp_keep hd kk kf d w x y = (-1, hd, kk, kf) := if_pos h
theorem sp_keep_0 {hd kk kf : Int → Int} {d w x y : Int} (h : 0 ≤ d ∧ d ≤ 7) (h0 : w = 0) : sp_keep hd kk kf d w x y = (0, mp_ud hd d 0, mp_ud kk d x, mp_ud kf d y) := by
  subst h0
  exact if_neg (by omega)
theorem sp_keep_1 {hd kk kf : Int → Int} {d w x y : Int} (h : (0 ≤ d ∧ d ≤ 7) ∧ w = 1 ∧ (0 ≤ x ∧ x ≤ 7) ∧ (0 ≤ y ∧ y ≤ 9)) : sp_keep hd kk kf d w x y = (0, mp_ud hd d 1, mp_ud kk d x, mp_ud kf d y) := by
  obtain ⟨h1, rfl, h2, h3⟩ := h
  exact if_neg (by omega)

theorem lX11_rowOfRoofs_24 {s si sp : Int → Int} {f fi fp : Nat → Option Nat} {im : Int} {hd : Int → Int} {kn : Nat → Option Nat} {wd ak ke cv vo so sz el : Int → Int} {A B : mp_H}  {c : Int} (hA : A.length = 1) (hs : mp_sky s) (hMt : mp_Mt (A ++ (mp_cs s si sp f fi fp im hd kn wd ak ke cv vo so sz el ++ B)) s f) (hMr : mp_Mr (A ++ (mp_cs s si sp f fi fp im hd kn wd ak ke cv vo so sz el ++ B)) f) (h_c : mp_w c) {R9 : mp_An} : ∀ (n : Nat) (x : Int → Int) (l : Int), (0 ≤ l ∧ l + (n : Nat) = 5) → mp_At (mX11_rowOfRoofs, 5, 0, 0) (0, 0) 47 [some (Value.ref 1), some (mp_i c), none] [] (A ++ (mp_cs s si (mp_fold (fun l q => mp_ud q (49 + 3 * l + 0) (c + l)) n l x) f fi f im hd kn wd ak ke cv vo so sz el ++ B)) R9 → mp_At (mX11_rowOfRoofs, 5, 0, 0) (0, 0) 24 [some (Value.ref 1), some (mp_i c), some (mp_i l)] [] (A ++ (mp_cs s si x f fi f im hd kn wd ak ke cv vo so sz el ++ B)) R9 := by
  intro n
  induction n with
  | zero =>
    intro x l hi hk
    refine mp_iload_n dX11_rowOfRoofs_24 rfl ?_
    refine mp_iconst dX11_rowOfRoofs_25 ?_
    refine mp_icmp_ge (tgt := 47) dX11_rowOfRoofs_26 rfl ⟨by omega, by omega⟩ ⟨by omega, by omega⟩ (fun h1 => ?_) (fun h1 => ?_)
    · refine mp_drop (L' := [some (Value.ref 1), some (mp_i c), none]) [true, true, false] rfl ?_
      exact hk
    · exfalso; omega
  | succ n ih =>
    intro x l hi hk
    refine mp_iload_n dX11_rowOfRoofs_24 rfl ?_
    refine mp_iconst dX11_rowOfRoofs_25 ?_
    refine mp_icmp_ge (tgt := 47) dX11_rowOfRoofs_26 rfl ⟨by omega, by omega⟩ ⟨by omega, by omega⟩ (fun h1 => ?_) (fun h1 => ?_)
    · exfalso; omega
    · refine mp_aload_n dX11_rowOfRoofs_29 rfl ?_
      refine mp_getfield dX11_rowOfRoofs_30 fsX11_19_10 (mp_lkP hA 0 rfl) rfl ?_
      refine mp_getfield dX11_rowOfRoofs_33 fsX11_127_8 (mp_lkP hA 13 rfl) rfl ?_
      refine mp_iload_n dX11_rowOfRoofs_36 rfl ?_
      refine mp_iload_n dX11_rowOfRoofs_37 rfl ?_
      refine mp_iload_n dX11_rowOfRoofs_38 rfl ?_
      refine mp_iadd (z := c + l) dX11_rowOfRoofs_39 (by first | rfl | omega) ?_
      refine mp_iast (σ' := A ++ (mp_cs s si (mp_ud x (49 + 3 * l + 0) (c + l)) f fi f im hd kn wd ak ke cv vo so sz el ++ B)) dX11_rowOfRoofs_40 (mp_lkP hA 16 rfl) (by decide) ⟨by omega, by omega⟩ (by decide) (mp_stP hA 16 (Nat.le_of_ble_eq_true rfl) (mp_cs_r14 ⟨by omega, by omega⟩)) ?_
      refine mp_iinc (z := l + 1) (L' := [some (Value.ref 1), some (mp_i c), some (mp_i (l + 1))]) dX11_rowOfRoofs_41 rfl (rfl) (by decide) rfl ?_
      refine mp_goto (tgt := 24) dX11_rowOfRoofs_44 rfl ?_
      exact ih (mp_ud x (49 + 3 * l + 0) (c + l)) (l + 1) (by omega) hk
theorem zX11_rowOfRoofs {s si sp : Int → Int} {f fi fp : Nat → Option Nat} {im : Int} {hd : Int → Int} {kn : Nat → Option Nat} {wd ak ke cv vo so sz el : Int → Int} {A B : mp_H}  {c : Int} (hA : A.length = 1) (hs : mp_sky s) (hMt : mp_Mt (A ++ (mp_cs s si sp f fi fp im hd kn wd ak ke cv vo so sz el ++ B)) s f) (hMr : mp_Mr (A ++ (mp_cs s si sp f fi fp im hd kn wd ak ke cv vo so sz el ++ B)) f) (h_c : mp_w c) : mp_Call (mX11_rowOfRoofs, 5, 0, 0) [Value.ref 1, mp_i c] (A ++ (mp_cs s si sp f fi fp im hd kn wd ak ke cv vo so sz el ++ B)) (some (mp_i (sp_rowOfRoofs s c)), A ++ (mp_cs s si (if 0 ≤ c ∧ c ≤ 11 then sp_roofsAt s c else sp) f fi (if 0 ≤ c ∧ c ≤ 11 then f else fp) im hd kn wd ak ke cv vo so sz el ++ B)) := by
  refine mp_Call.of (L := [some (Value.ref 1), some (mp_i c), none]) pnX11 (Nat.le_of_ble_eq_true rfl) rfl ?_
  refine mp_iload_n dX11_rowOfRoofs_0 rfl ?_
  refine mp_bipush dX11_rowOfRoofs_1 rfl ?_
  refine mp_invS (z := (mX11_isBelow, 0, 0, 0)) (K' := (0, 0)) (σ1 := A ++ (mp_cs s si sp f fi fp im hd kn wd ak ke cv vo so sz el ++ B)) (as := [mp_i c, mp_i 12]) (st := []) (st1 := [mp_i (if 0 ≤ c ∧ c < 12 then 1 else 0)]) dX11_rowOfRoofs_3 ssX11_54 (zX11_isBelow (v := c) (n := 12) (by first | with_reducible assumption | omega) (by first | with_reducible assumption | omega)) ⟨Nat.le_of_ble_eq_true rfl, Nat.le_of_ble_eq_true rfl, Nat.le_of_ble_eq_true rfl, Nat.le_of_ble_eq_true rfl, Nat.le_of_ble_eq_true rfl⟩ rfl rfl rfl rfl ?_
  refine mp_ifb_ne (tgt := 11) dX11_rowOfRoofs_6 rfl (fun h1 => ?_) (fun h1 => ?_)
  · refine mp_aload_n dX11_rowOfRoofs_11 rfl ?_
    refine mp_getfield dX11_rowOfRoofs_12 fsX11_19_10 (mp_lkP hA 0 rfl) rfl ?_
    refine mp_aload_n dX11_rowOfRoofs_15 rfl ?_
    refine mp_getfield dX11_rowOfRoofs_16 fsX11_10_10 (mp_lkP hA 0 rfl) rfl ?_
    refine mp_invV (z := (mX6_becomes, 0, 0, 0)) (K' := (0, 0)) (σ1 := A ++ (mp_cs s si s f fi f im hd kn wd ak ke cv vo so sz el ++ B)) (as := [Value.ref 2]) (st := []) (st1 := []) dX11_rowOfRoofs_19 svX11_76 (mp_lkP hA 13 rfl) rfl rfl (mp_Call.cast (zX6_becomes (p := 14) (q := 2) (A := (A ++ (mp_csA im ++ (mp_sk 2 s f ++ mp_sk 8 si fi)))) (B := ((mp_csT hd kn wd ak ke cv vo ++ mp_rws so sz el) ++ B)) (s := sp) (f := fp) (t := s) (g := f) (mp_ln14 hA) (by decide) (fun x y => by rw [mp_cs14]; exact mp_skC2 hA) (fun x y => by rw [mp_cs14]; exact hMr.mono mp_stay_cs)) mp_cs14 (congrArg (Prod.mk _) mp_cs14)) ⟨Nat.le_of_ble_eq_true rfl, Nat.le_of_ble_eq_true rfl, Nat.le_of_ble_eq_true rfl, Nat.le_of_ble_eq_true rfl, Nat.le_of_ble_eq_true rfl⟩ rfl rfl rfl rfl ?_
    refine mp_iconst dX11_rowOfRoofs_22 ?_
    refine mp_istore_n (L' := [some (Value.ref 1), some (mp_i c), some (mp_i 0)]) dX11_rowOfRoofs_23 rfl (by decide) rfl ?_
    refine lX11_rowOfRoofs_24 (s := s) (si := si) (sp := sp) (f := f) (fi := fi) (fp := fp) (im := im) (hd := hd) (kn := kn) (wd := wd) (ak := ak) (ke := ke) (cv := cv) (vo := vo) (so := so) (sz := sz) (el := el) (B := B) (c := c)  (by first | with_reducible assumption | omega) (by first | with_reducible assumption | omega) (by first | with_reducible assumption | omega) (by first | with_reducible assumption | omega) (by first | with_reducible assumption | omega) 5 s 0 (by omega) ?_
    have hsx := mp_roofsAt_sky hs (c := c) (by omega)
    have hal := mp_roofsAt_al s c
    refine mp_sg (σ' := A ++ (mp_cs s si (sp_roofsAt s c) f fi f im hd kn wd ak ke cv vo so sz el ++ B)) rfl ?_
    refine mp_aload_n dX11_rowOfRoofs_47 rfl ?_
    refine mp_getfield dX11_rowOfRoofs_48 fsX11_19_10 (mp_lkP hA 0 rfl) rfl ?_
    refine mp_iconst dX11_rowOfRoofs_51 ?_
    refine mp_invV (z := (mX6_takenOnes, 4, 0, 0)) (K' := (0, 0)) (σ1 := A ++ (mp_cs s si (sp_roofsAt s c) f fi f im hd kn wd ak ke cv vo so sz el ++ B)) (as := [mp_i 0]) (st := []) (st1 := [mp_i (mp_fold (sp_augOne (sp_roofsAt s c) 0) (Int.toNat ((sp_roofsAt s c) 0)) 0 0)]) dX11_rowOfRoofs_52 svX11_285 (mp_lkP hA 13 rfl) rfl rfl (zX6_takenOnes (p := 14) (g := 0) (s := (sp_roofsAt s c)) (f := f) (mp_Sk.of (σ := A ++ (mp_cs s si (sp_roofsAt s c) f fi f im hd kn wd ak ke cv vo so sz el ++ B)) (mp_skC14 hA) ((hMt.mono hs.kd mp_stay_cs).alike hal hs.1.2)) hsx (by first | with_reducible assumption | omega)) ⟨Nat.le_of_ble_eq_true rfl, Nat.le_of_ble_eq_true rfl, Nat.le_of_ble_eq_true rfl, Nat.le_of_ble_eq_true rfl, Nat.le_of_ble_eq_true rfl⟩ rfl rfl rfl rfl ?_
    exact mp_ireturn (st := []) dX11_rowOfRoofs_55 rfl ⟨by decide, by decide⟩ ((by rw [if_pos (by omega), if_pos (by omega)]; exact mp_ans (by unfold sp_rowOfRoofs; rw [if_neg (by omega)]; exact mp_taken_aug _)))
  · refine mp_iconst dX11_rowOfRoofs_9 ?_
    exact mp_ireturn (st := []) dX11_rowOfRoofs_10 rfl ⟨by decide, by decide⟩ ((by rw [if_neg (by omega), if_neg (by omega)]; exact mp_ans (by unfold sp_rowOfRoofs; rw [if_pos (by omega)])))
theorem lX11_augusts_50 {s si sp : Int → Int} {f fi fp : Nat → Option Nat} {im : Int} {hd : Int → Int} {kn : Nat → Option Nat} {wd ak ke cv vo so sz el : Int → Int} {A B : mp_H} {m : Int → Int} {o : Int} {z : Int} {w : Int} (hA : A.length = 1) (hs : mp_sky s) (hMt : mp_Mt (A ++ (mp_cs s si sp f fi fp im hd kn wd ak ke cv vo so sz el ++ B)) s f) (hMr : mp_Mr (A ++ (mp_cs s si sp f fi fp im hd kn wd ak ke cv vo so sz el ++ B)) f) (h_o : mp_w o) (h_z : mp_w z) (h_w : mp_w w) {R9 : mp_An} : ∀ (n : Nat) (p : (Int → Int) × Int) (v : Int) (t : Int) (l : Int), (0 ≤ l ∧ l + (n : Nat) = 5) → mp_At (mX11_augusts, 5, 0, 0) (0, 0) 112 [some (Value.ref 1), some (mp_i o), none, some (mp_i w), some (mp_i ((mp_fold sp_drStep n l p).2)), some (mp_i v), some (mp_i t), none] [] (A ++ (mp_cs s si ((mp_fold sp_drStep n l p).1) f fi f im hd kn wd ak ke cv vo so sz el ++ B)) R9 → mp_At (mX11_augusts, 5, 0, 0) (0, 0) 50 [some (Value.ref 1), some (mp_i o), none, some (mp_i w), some (mp_i p.2), some (mp_i v), some (mp_i t), some (mp_i l)] [] (A ++ (mp_cs s si p.1 f fi f im hd kn wd ak ke cv vo so sz el ++ B)) R9 := by
  intro n
  induction n with
  | zero =>
    intro p v t l hi hk
    refine mp_iload dX11_augusts_50 rfl ?_
    refine mp_iconst dX11_augusts_52 ?_
    refine mp_icmp_ge (tgt := 112) dX11_augusts_53 rfl ⟨by omega, by omega⟩ ⟨by omega, by omega⟩ (fun h1 => ?_) (fun h1 => ?_)
    · refine mp_drop (L' := [some (Value.ref 1), some (mp_i o), none, some (mp_i w), some (mp_i p.2), some (mp_i v), some (mp_i t), none]) [true, true, false, true, true, true, true, false] rfl ?_
      exact hk
    · exfalso; omega
  | succ n ih =>
    intro p v t l hi hk
    refine mp_iload dX11_augusts_50 rfl ?_
    refine mp_iconst dX11_augusts_52 ?_
    refine mp_icmp_ge (tgt := 112) dX11_augusts_53 rfl ⟨by omega, by omega⟩ ⟨by omega, by omega⟩ (fun h1 => ?_) (fun h1 => ?_)
    · exfalso; omega
    · refine mp_iload dX11_augusts_56 rfl ?_
      refine mp_invS (z := (mX11_nextSeed, 0, 0, 0)) (K' := (0, 0)) (σ1 := A ++ (mp_cs s si p.1 f fi f im hd kn wd ak ke cv vo so sz el ++ B)) (as := [mp_i p.2]) (st := []) (st1 := [mp_i (sp_nx p.2)]) dX11_augusts_58 ssX11_301 (zX11_nextSeed (z := p.2) ) ⟨Nat.le_of_ble_eq_true rfl, Nat.le_of_ble_eq_true rfl, Nat.le_of_ble_eq_true rfl, Nat.le_of_ble_eq_true rfl, Nat.le_of_ble_eq_true rfl⟩ rfl rfl rfl rfl ?_
      refine mp_istore (L' := [some (Value.ref 1), some (mp_i o), none, some (mp_i w), some (mp_i (sp_nx p.2)), some (mp_i v), some (mp_i t), some (mp_i l)]) dX11_augusts_61 (by decide) rfl ?_
      refine mp_aload_n dX11_augusts_63 rfl ?_
      refine mp_getfield dX11_augusts_64 fsX11_19_10 (mp_lkP hA 0 rfl) rfl ?_
      refine mp_getfield dX11_augusts_67 fsX11_127_8 (mp_lkP hA 13 rfl) rfl ?_
      refine mp_iload dX11_augusts_70 rfl ?_
      refine mp_iload dX11_augusts_72 rfl ?_
      refine mp_invS (z := (mX11_highBits, 0, 0, 0)) (K' := (0, 0)) (σ1 := A ++ (mp_cs s si p.1 f fi f im hd kn wd ak ke cv vo so sz el ++ B)) (as := [mp_i (sp_nx p.2)]) (st := [mp_i l, Value.ref 17]) (st1 := [mp_i ((sp_nx p.2) % 2147483648 / 65536), mp_i l, Value.ref 17]) dX11_augusts_74 ssX11_304 (zX11_highBits (z := (sp_nx p.2)) ) ⟨Nat.le_of_ble_eq_true rfl, Nat.le_of_ble_eq_true rfl, Nat.le_of_ble_eq_true rfl, Nat.le_of_ble_eq_true rfl, Nat.le_of_ble_eq_true rfl⟩ rfl rfl rfl rfl ?_
      refine mp_bipush dX11_augusts_77 rfl ?_
      refine mp_irem (z := ((sp_nx p.2) % 2147483648 / 65536) % 16) dX11_augusts_79 ⟨by omega, by omega⟩ ⟨by omega, by omega⟩ rfl ?_
      refine mp_iast (σ' := A ++ (mp_cs s si (mp_ud p.1 (49 + 3 * l + 0) (((sp_nx p.2) % 2147483648 / 65536) % 16)) f fi f im hd kn wd ak ke cv vo so sz el ++ B)) dX11_augusts_80 (mp_lkP hA 16 rfl) (by decide) ⟨by omega, by omega⟩ (by decide) (mp_stP hA 16 (Nat.le_of_ble_eq_true rfl) (mp_cs_r14 ⟨by omega, by omega⟩)) ?_
      refine mp_iload dX11_augusts_81 rfl ?_
      refine mp_invS (z := (mX11_nextSeed, 0, 0, 0)) (K' := (0, 0)) (σ1 := A ++ (mp_cs s si (mp_ud p.1 (49 + 3 * l + 0) (((sp_nx p.2) % 2147483648 / 65536) % 16)) f fi f im hd kn wd ak ke cv vo so sz el ++ B)) (as := [mp_i (sp_nx p.2)]) (st := []) (st1 := [mp_i (sp_nx (sp_nx p.2))]) dX11_augusts_83 ssX11_301 (zX11_nextSeed (z := (sp_nx p.2)) ) ⟨Nat.le_of_ble_eq_true rfl, Nat.le_of_ble_eq_true rfl, Nat.le_of_ble_eq_true rfl, Nat.le_of_ble_eq_true rfl, Nat.le_of_ble_eq_true rfl⟩ rfl rfl rfl rfl ?_
      refine mp_istore (L' := [some (Value.ref 1), some (mp_i o), none, some (mp_i w), some (mp_i (sp_nx (sp_nx p.2))), some (mp_i v), some (mp_i t), some (mp_i l)]) dX11_augusts_86 (by decide) rfl ?_
      refine mp_aload_n dX11_augusts_88 rfl ?_
      refine mp_getfield dX11_augusts_89 fsX11_19_10 (mp_lkP hA 0 rfl) rfl ?_
      refine mp_getfield dX11_augusts_92 fsX11_130_8 (mp_lkP hA 13 rfl) rfl ?_
      refine mp_iload dX11_augusts_95 rfl ?_
      refine mp_iload dX11_augusts_97 rfl ?_
      refine mp_invS (z := (mX11_highBits, 0, 0, 0)) (K' := (0, 0)) (σ1 := A ++ (mp_cs s si (mp_ud p.1 (49 + 3 * l + 0) (((sp_nx p.2) % 2147483648 / 65536) % 16)) f fi f im hd kn wd ak ke cv vo so sz el ++ B)) (as := [mp_i (sp_nx (sp_nx p.2))]) (st := [mp_i l, Value.ref 18]) (st1 := [mp_i ((sp_nx (sp_nx p.2)) % 2147483648 / 65536), mp_i l, Value.ref 18]) dX11_augusts_99 ssX11_304 (zX11_highBits (z := (sp_nx (sp_nx p.2))) ) ⟨Nat.le_of_ble_eq_true rfl, Nat.le_of_ble_eq_true rfl, Nat.le_of_ble_eq_true rfl, Nat.le_of_ble_eq_true rfl, Nat.le_of_ble_eq_true rfl⟩ rfl rfl rfl rfl ?_
      refine mp_bipush dX11_augusts_102 rfl ?_
      refine mp_irem (z := ((sp_nx (sp_nx p.2)) % 2147483648 / 65536) % 10) dX11_augusts_104 ⟨by omega, by omega⟩ ⟨by omega, by omega⟩ rfl ?_
      refine mp_iast (σ' := A ++ (mp_cs s si (mp_ud (mp_ud p.1 (49 + 3 * l + 0) (((sp_nx p.2) % 2147483648 / 65536) % 16)) (49 + 3 * l + 1) (((sp_nx (sp_nx p.2)) % 2147483648 / 65536) % 10)) f fi f im hd kn wd ak ke cv vo so sz el ++ B)) dX11_augusts_105 (mp_lkP hA 17 rfl) (by decide) ⟨by omega, by omega⟩ (by decide) (mp_stP hA 17 (Nat.le_of_ble_eq_true rfl) (mp_cs_q14 ⟨by omega, by omega⟩)) ?_
      refine mp_iinc (z := l + 1) (L' := [some (Value.ref 1), some (mp_i o), none, some (mp_i w), some (mp_i (sp_nx (sp_nx p.2))), some (mp_i v), some (mp_i t), some (mp_i (l + 1))]) dX11_augusts_106 rfl (rfl) (by decide) rfl ?_
      refine mp_goto (tgt := 50) dX11_augusts_109 rfl ?_
      exact ih (sp_drStep l p) v t (l + 1) (by omega) hk
theorem lX11_augusts_41 {s si sp : Int → Int} {f fi fp : Nat → Option Nat} {im : Int} {hd : Int → Int} {kn : Nat → Option Nat} {wd ak ke cv vo so sz el : Int → Int} {A B : mp_H} {m : Int → Int} {o : Int} {z : Int} {w : Int} (hA : A.length = 1) (hs : mp_sky s) (hMt : mp_Mt (A ++ (mp_cs s si sp f fi fp im hd kn wd ak ke cv vo so sz el ++ B)) s f) (hMr : mp_Mr (A ++ (mp_cs s si sp f fi fp im hd kn wd ak ke cv vo so sz el ++ B)) f) (h_o : mp_w o) (h_z : mp_w z) (h_w : mp_w w) {R9 : mp_An} : ∀ (n : Nat) (q : (Int → Int) × Int × Int) (t : Int), (((0 ≤ t ∧ t + (n : Nat) = o) ∧ (0 ≤ w ∧ w ≤ 1)) ∧ mp_aq q.1 s) → mp_At (mX11_augusts, 5, 0, 0) (0, 0) 140 [some (Value.ref 1), some (mp_i o), none, some (mp_i w), none, some (mp_i ((mp_fold (sp_auStep s w) n t q).2.2)), none, none] [] (A ++ (mp_cs s si ((mp_fold (sp_auStep s w) n t q).1) f fi f im hd kn wd ak ke cv vo so sz el ++ B)) R9 → mp_At (mX11_augusts, 5, 0, 0) (0, 0) 41 [some (Value.ref 1), some (mp_i o), none, some (mp_i w), some (mp_i q.2.1), some (mp_i q.2.2), some (mp_i t), none] [] (A ++ (mp_cs s si q.1 f fi f im hd kn wd ak ke cv vo so sz el ++ B)) R9 := by
  intro n
  induction n with
  | zero =>
    intro q t hi hk
    refine mp_iload dX11_augusts_41 rfl ?_
    refine mp_iload_n dX11_augusts_43 rfl ?_
    refine mp_icmp_ge (tgt := 140) dX11_augusts_44 rfl ⟨by omega, by omega⟩ ⟨by omega, by omega⟩ (fun h1 => ?_) (fun h1 => ?_)
    · refine mp_drop (L' := [some (Value.ref 1), some (mp_i o), none, some (mp_i w), none, some (mp_i q.2.2), none, none]) [true, true, false, true, false, true, false, false] rfl ?_
      exact hk
    · exfalso; omega
  | succ n ih =>
    intro q t hi hk
    refine mp_iload dX11_augusts_41 rfl ?_
    refine mp_iload_n dX11_augusts_43 rfl ?_
    refine mp_icmp_ge (tgt := 140) dX11_augusts_44 rfl ⟨by omega, by omega⟩ ⟨by omega, by omega⟩ (fun h1 => ?_) (fun h1 => ?_)
    · exfalso; omega
    · refine mp_iconst dX11_augusts_47 ?_
      refine mp_istore (L' := [some (Value.ref 1), some (mp_i o), none, some (mp_i w), some (mp_i q.2.1), some (mp_i q.2.2), some (mp_i t), some (mp_i 0)]) dX11_augusts_48 (by decide) rfl ?_
      refine lX11_augusts_50 (s := s) (si := si) (sp := sp) (f := f) (fi := fi) (fp := fp) (im := im) (hd := hd) (kn := kn) (wd := wd) (ak := ak) (ke := ke) (cv := cv) (vo := vo) (so := so) (sz := sz) (el := el) (B := B) (m := m) (o := o) (z := z) (w := w) hA hs hMt hMr h_o h_z h_w 5 (q.1, q.2.1) q.2.2 t 0 (by omega) ?_
      refine mp_sg (σ' := A ++ (mp_cs s si ((sp_dr s q.2.1).1) f fi f im hd kn wd ak ke cv vo so sz el ++ B)) (mp_cs_spEq (mp_dr_sk hi.2)) ?_
      refine mp_loc (j := 4) (x := (mp_fold sp_drStep 5 0 (q.1, q.2.1)).2) (y := (sp_dr s q.2.1).2) (mp_dr_all 5 0 q.1 s q.2.1 (Int.le_refl _)).1 rfl (L' := [some (Value.ref 1), some (mp_i o), none, some (mp_i w), some (mp_i ((sp_dr s q.2.1).2)), some (mp_i q.2.2), some (mp_i t), none]) rfl ?_
      have hsx := mp_dr_sky hs q.2.1
      have hal : ∀ j, 0 ≤ j → j < 49 → (sp_dr s q.2.1).1 j = s j := fun j _ h => mp_dr_al h
      refine mp_iload dX11_augusts_112 rfl ?_
      refine mp_aload_n dX11_augusts_114 rfl ?_
      refine mp_getfield dX11_augusts_115 fsX11_19_10 (mp_lkP hA 0 rfl) rfl ?_
      refine mp_iload_n dX11_augusts_118 rfl ?_
      refine mp_iconst dX11_augusts_119 ?_
      refine mp_icmp_ne (tgt := 127) dX11_augusts_120 rfl ⟨by omega, by omega⟩ ⟨by omega, by omega⟩ (fun h2 => ?_) (fun h2 => ?_)
      · refine mp_iconst dX11_augusts_127 ?_
        refine mp_invV (z := (mX6_takenOnes, 4, 0, 0)) (K' := (0, 0)) (σ1 := A ++ (mp_cs s si ((sp_dr s q.2.1).1) f fi f im hd kn wd ak ke cv vo so sz el ++ B)) (as := [mp_i 0]) (st := [mp_i q.2.2]) (st1 := [mp_i (mp_fold (sp_augOne ((sp_dr s q.2.1).1) 0) (Int.toNat (((sp_dr s q.2.1).1) 0)) 0 0), mp_i q.2.2]) dX11_augusts_128 svX11_285 (mp_lkP hA 13 rfl) rfl rfl (zX6_takenOnes (p := 14) (g := 0) (s := ((sp_dr s q.2.1).1)) (f := f) (mp_Sk.of (σ := A ++ (mp_cs s si ((sp_dr s q.2.1).1) f fi f im hd kn wd ak ke cv vo so sz el ++ B)) (mp_skC14 hA) ((hMt.mono hs.kd mp_stay_cs).alike hal hs.1.2)) hsx (by first | with_reducible assumption | omega)) ⟨Nat.le_of_ble_eq_true rfl, Nat.le_of_ble_eq_true rfl, Nat.le_of_ble_eq_true rfl, Nat.le_of_ble_eq_true rfl, Nat.le_of_ble_eq_true rfl⟩ rfl rfl rfl rfl ?_
        refine mp_iadd (z := q.2.2 + (mp_fold (sp_augOne ((sp_dr s q.2.1).1) 0) (Int.toNat (((sp_dr s q.2.1).1) 0)) 0 0)) dX11_augusts_131 (by first | rfl | omega) ?_
        refine mp_istore (L' := [some (Value.ref 1), some (mp_i o), none, some (mp_i w), some (mp_i ((sp_dr s q.2.1).2)), some (mp_i (q.2.2 + (mp_fold (sp_augOne ((sp_dr s q.2.1).1) 0) (Int.toNat (((sp_dr s q.2.1).1) 0)) 0 0))), some (mp_i t), none]) dX11_augusts_132 (by decide) rfl ?_
        refine mp_iinc (z := t + 1) (L' := [some (Value.ref 1), some (mp_i o), none, some (mp_i w), some (mp_i ((sp_dr s q.2.1).2)), some (mp_i (q.2.2 + (mp_fold (sp_augOne ((sp_dr s q.2.1).1) 0) (Int.toNat (((sp_dr s q.2.1).1) 0)) 0 0))), some (mp_i (t + 1)), none]) dX11_augusts_134 rfl (rfl) (by decide) rfl ?_
        refine mp_goto (tgt := 41) dX11_augusts_137 rfl ?_
        have e9 : sp_auStep s w t q = ((sp_dr s q.2.1).1, (sp_dr s q.2.1).2, q.2.2 + (mp_fold (sp_augOne ((sp_dr s q.2.1).1) 0) (Int.toNat (((sp_dr s q.2.1).1) 0)) 0 0)) := by show (_, _, mp_fold (sp_augOne (sp_dr s q.2.1).1 w) ((sp_dr s q.2.1).1 0).toNat 0 q.2.2) = _; rw [mp_aug_add]; first | rfl | (obtain rfl : w = 1 := (by omega); rfl) | (obtain rfl : w = 0 := (by omega); rfl)
        refine ih (sp_auStep s w t q) (t + 1) ⟨by omega, by rw [e9]; exact mp_aq_dr⟩ hk |> fun k9 => ?_
        rw [e9] at k9
        exact k9
      · refine mp_iconst dX11_augusts_123 ?_
        refine mp_goto (tgt := 128) dX11_augusts_124 rfl ?_
        refine mp_invV (z := (mX6_takenOnes, 4, 0, 0)) (K' := (0, 0)) (σ1 := A ++ (mp_cs s si ((sp_dr s q.2.1).1) f fi f im hd kn wd ak ke cv vo so sz el ++ B)) (as := [mp_i 1]) (st := [mp_i q.2.2]) (st1 := [mp_i (mp_fold (sp_augOne ((sp_dr s q.2.1).1) 1) (Int.toNat (((sp_dr s q.2.1).1) 0)) 0 0), mp_i q.2.2]) dX11_augusts_128 svX11_285 (mp_lkP hA 13 rfl) rfl rfl (zX6_takenOnes (p := 14) (g := 1) (s := ((sp_dr s q.2.1).1)) (f := f) (mp_Sk.of (σ := A ++ (mp_cs s si ((sp_dr s q.2.1).1) f fi f im hd kn wd ak ke cv vo so sz el ++ B)) (mp_skC14 hA) ((hMt.mono hs.kd mp_stay_cs).alike hal hs.1.2)) hsx (by first | with_reducible assumption | omega)) ⟨Nat.le_of_ble_eq_true rfl, Nat.le_of_ble_eq_true rfl, Nat.le_of_ble_eq_true rfl, Nat.le_of_ble_eq_true rfl, Nat.le_of_ble_eq_true rfl⟩ rfl rfl rfl rfl ?_
        refine mp_iadd (z := q.2.2 + (mp_fold (sp_augOne ((sp_dr s q.2.1).1) 1) (Int.toNat (((sp_dr s q.2.1).1) 0)) 0 0)) dX11_augusts_131 (by first | rfl | omega) ?_
        refine mp_istore (L' := [some (Value.ref 1), some (mp_i o), none, some (mp_i w), some (mp_i ((sp_dr s q.2.1).2)), some (mp_i (q.2.2 + (mp_fold (sp_augOne ((sp_dr s q.2.1).1) 1) (Int.toNat (((sp_dr s q.2.1).1) 0)) 0 0))), some (mp_i t), none]) dX11_augusts_132 (by decide) rfl ?_
        refine mp_iinc (z := t + 1) (L' := [some (Value.ref 1), some (mp_i o), none, some (mp_i w), some (mp_i ((sp_dr s q.2.1).2)), some (mp_i (q.2.2 + (mp_fold (sp_augOne ((sp_dr s q.2.1).1) 1) (Int.toNat (((sp_dr s q.2.1).1) 0)) 0 0))), some (mp_i (t + 1)), none]) dX11_augusts_134 rfl (rfl) (by decide) rfl ?_
        refine mp_goto (tgt := 41) dX11_augusts_137 rfl ?_
        have e9 : sp_auStep s w t q = ((sp_dr s q.2.1).1, (sp_dr s q.2.1).2, q.2.2 + (mp_fold (sp_augOne ((sp_dr s q.2.1).1) 1) (Int.toNat (((sp_dr s q.2.1).1) 0)) 0 0)) := by show (_, _, mp_fold (sp_augOne (sp_dr s q.2.1).1 w) ((sp_dr s q.2.1).1 0).toNat 0 q.2.2) = _; rw [mp_aug_add]; first | rfl | (obtain rfl : w = 1 := (by omega); rfl) | (obtain rfl : w = 0 := (by omega); rfl)
        refine ih (sp_auStep s w t q) (t + 1) ⟨by omega, by rw [e9]; exact mp_aq_dr⟩ hk |> fun k9 => ?_
        rw [e9] at k9
        exact k9
theorem zX11_augusts {s si sp : Int → Int} {f fi fp : Nat → Option Nat} {im : Int} {hd : Int → Int} {kn : Nat → Option Nat} {wd ak ke cv vo so sz el : Int → Int} {A B : mp_H} {m : Int → Int} {o : Int} {z : Int} {w : Int} (hA : A.length = 1) (hs : mp_sky s) (hMt : mp_Mt (A ++ (mp_cs s si sp f fi fp im hd kn wd ak ke cv vo so sz el ++ B)) s f) (hMr : mp_Mr (A ++ (mp_cs s si sp f fi fp im hd kn wd ak ke cv vo so sz el ++ B)) f) (h_o : mp_w o) (h_z : mp_w z) (h_w : mp_w w) : mp_Call (mX11_augusts, 5, 0, 0) [Value.ref 1, mp_i o, mp_i z, mp_i w] (A ++ (mp_cs s si sp f fi fp im hd kn wd ak ke cv vo so sz el ++ B)) (some (mp_i (sp_augusts s m o z w)), A ++ (mp_cs s si (if (1 ≤ o ∧ o ≤ 20) ∧ (0 ≤ w ∧ w ≤ 1) then (mp_fold (sp_auStep s w) (Int.toNat o) 0 (s, z, 0)).1 else sp) f fi (if (1 ≤ o ∧ o ≤ 20) ∧ (0 ≤ w ∧ w ≤ 1) then f else fp) im hd kn wd ak ke cv vo so sz el ++ B)) := by
  refine mp_Call.of (L := [some (Value.ref 1), some (mp_i o), some (mp_i z), some (mp_i w), none, none, none, none]) pnX11 (Nat.le_of_ble_eq_true rfl) rfl ?_
  refine mp_iload_n dX11_augusts_0 rfl ?_
  refine mp_iconst dX11_augusts_1 ?_
  refine mp_icmp_lt (tgt := 19) dX11_augusts_2 rfl ⟨by omega, by omega⟩ ⟨by omega, by omega⟩ (fun h1 => ?_) (fun h1 => ?_)
  · refine mp_iconst dX11_augusts_19 ?_
    exact mp_ireturn (st := []) dX11_augusts_20 rfl ⟨by decide, by decide⟩ ((by rw [if_neg (by omega), if_neg (by omega)]; exact mp_ans (by unfold sp_augusts; rw [if_pos (by omega)])))
  · refine mp_iload_n dX11_augusts_5 rfl ?_
    refine mp_bipush dX11_augusts_6 rfl ?_
    refine mp_icmp_gt (tgt := 19) dX11_augusts_8 rfl ⟨by omega, by omega⟩ ⟨by omega, by omega⟩ (fun h2 => ?_) (fun h2 => ?_)
    · refine mp_iconst dX11_augusts_19 ?_
      exact mp_ireturn (st := []) dX11_augusts_20 rfl ⟨by decide, by decide⟩ ((by rw [if_neg (by omega), if_neg (by omega)]; exact mp_ans (by unfold sp_augusts; rw [if_pos (by omega)])))
    · refine mp_iload_n dX11_augusts_11 rfl ?_
      refine mp_iconst dX11_augusts_12 ?_
      refine mp_invS (z := (mX11_isBelow, 0, 0, 0)) (K' := (0, 0)) (σ1 := A ++ (mp_cs s si sp f fi fp im hd kn wd ak ke cv vo so sz el ++ B)) (as := [mp_i w, mp_i 2]) (st := []) (st1 := [mp_i (if 0 ≤ w ∧ w < 2 then 1 else 0)]) dX11_augusts_13 ssX11_54 (zX11_isBelow (v := w) (n := 2) (by first | with_reducible assumption | omega) (by first | with_reducible assumption | omega)) ⟨Nat.le_of_ble_eq_true rfl, Nat.le_of_ble_eq_true rfl, Nat.le_of_ble_eq_true rfl, Nat.le_of_ble_eq_true rfl, Nat.le_of_ble_eq_true rfl⟩ rfl rfl rfl rfl ?_
      refine mp_ifb_ne (tgt := 21) dX11_augusts_16 rfl (fun h3 => ?_) (fun h3 => ?_)
      · refine mp_aload_n dX11_augusts_21 rfl ?_
        refine mp_getfield dX11_augusts_22 fsX11_19_10 (mp_lkP hA 0 rfl) rfl ?_
        refine mp_aload_n dX11_augusts_25 rfl ?_
        refine mp_getfield dX11_augusts_26 fsX11_10_10 (mp_lkP hA 0 rfl) rfl ?_
        refine mp_invV (z := (mX6_becomes, 0, 0, 0)) (K' := (0, 0)) (σ1 := A ++ (mp_cs s si s f fi f im hd kn wd ak ke cv vo so sz el ++ B)) (as := [Value.ref 2]) (st := []) (st1 := []) dX11_augusts_29 svX11_76 (mp_lkP hA 13 rfl) rfl rfl (mp_Call.cast (zX6_becomes (p := 14) (q := 2) (A := (A ++ (mp_csA im ++ (mp_sk 2 s f ++ mp_sk 8 si fi)))) (B := ((mp_csT hd kn wd ak ke cv vo ++ mp_rws so sz el) ++ B)) (s := sp) (f := fp) (t := s) (g := f) (mp_ln14 hA) (by decide) (fun x y => by rw [mp_cs14]; exact mp_skC2 hA) (fun x y => by rw [mp_cs14]; exact hMr.mono mp_stay_cs)) mp_cs14 (congrArg (Prod.mk _) mp_cs14)) ⟨Nat.le_of_ble_eq_true rfl, Nat.le_of_ble_eq_true rfl, Nat.le_of_ble_eq_true rfl, Nat.le_of_ble_eq_true rfl, Nat.le_of_ble_eq_true rfl⟩ rfl rfl rfl rfl ?_
        refine mp_iload_n dX11_augusts_32 rfl ?_
        refine mp_istore (L' := [some (Value.ref 1), some (mp_i o), some (mp_i z), some (mp_i w), some (mp_i z), none, none, none]) dX11_augusts_33 (by decide) rfl ?_
        refine mp_iconst dX11_augusts_35 ?_
        refine mp_istore (L' := [some (Value.ref 1), some (mp_i o), some (mp_i z), some (mp_i w), some (mp_i z), some (mp_i 0), none, none]) dX11_augusts_36 (by decide) rfl ?_
        refine mp_iconst dX11_augusts_38 ?_
        refine mp_istore (L' := [some (Value.ref 1), some (mp_i o), some (mp_i z), some (mp_i w), some (mp_i z), some (mp_i 0), some (mp_i 0), none]) dX11_augusts_39 (by decide) rfl ?_
        refine mp_drop (L' := [some (Value.ref 1), some (mp_i o), none, some (mp_i w), some (mp_i z), some (mp_i 0), some (mp_i 0), none]) [true, true, false, true, true, true, true, true] rfl ?_
        refine lX11_augusts_41 (s := s) (si := si) (sp := sp) (f := f) (fi := fi) (fp := fp) (im := im) (hd := hd) (kn := kn) (wd := wd) (ak := ak) (ke := ke) (cv := cv) (vo := vo) (so := so) (sz := sz) (el := el) (B := B) (m := m) (o := o) (z := z) (w := w) hA hs hMt hMr h_o h_z h_w (Int.toNat o) (s, z, 0) 0 ⟨by omega, ⟨fun _ _ _ => rfl, fun _ _ _ => rfl⟩⟩ ?_
        refine mp_iload dX11_augusts_140 rfl ?_
        exact mp_ireturn (st := []) dX11_augusts_142 rfl ⟨by decide, by decide⟩ ((by rw [if_pos (by omega), if_pos (by omega)]; exact mp_ans (by unfold sp_augusts sp_auAll; rw [if_neg (by omega)]; exact congrArg Prod.snd (mp_au_ind _ _ _))))
      · refine mp_iconst dX11_augusts_19 ?_
        exact mp_ireturn (st := []) dX11_augusts_20 rfl ⟨by decide, by decide⟩ ((by rw [if_neg (by omega), if_neg (by omega)]; exact mp_ans (by unfold sp_augusts; rw [if_pos (by omega)])))
theorem zX11_madeOfC {s si sp : Int → Int} {f fi fp : Nat → Option Nat} {im : Int} {hd : Int → Int} {kn : Nat → Option Nat} {wd ak ke cv vo so sz el : Int → Int} {A B : mp_H}  {kd : Int} {fg : Int} (hA : A.length = 1) (h_kd : 0 ≤ kd ∧ kd ≤ 7) (h_fg : mp_w fg) : mp_Call (mX11_madeOf, 4, 1, 7) [mp_i kd, mp_i fg] (A ++ (mp_cs s si sp f fi fp im hd kn wd ak ke cv vo so sz el ++ B)) (some (Value.ref (44 + List.length B)), A ++ (mp_cs s si sp f fi fp im hd kn wd ak ke cv vo so sz el ++ (B ++ [mp_nw kd fg]))) := (zX11_madeOf h_kd h_fg (by rw [mp_cs_len hA]; omega)).cast rfl (by rw [mp_cs_len hA, mp_csPush])
theorem zX11_falls {s si sp : Int → Int} {f fi fp : Nat → Option Nat} {im : Int} {hd : Int → Int} {kn : Nat → Option Nat} {wd ak ke cv vo so sz el : Int → Int} {A B : mp_H} {kk kf : Int → Int} {d : Int} {x : Int} {y : Int} {w : Int} (hA : A.length = 1) (hs : mp_sky s) (hMt : mp_Mt (A ++ (mp_cs s si sp f fi fp im hd kn wd ak ke cv vo so sz el ++ B)) s f) (hsh : ∀ d, 0 ≤ d → d ≤ 7 → mp_shf hd kk kf so sz d) (hKp : ∀ d, 0 ≤ d → d ≤ 7 → hd d = 1 → ∃ a, kn (Int.toNat d) = some a ∧ (A ++ (mp_cs s si sp f fi fp im hd kn wd ak ke cv vo so sz el ++ B))[a]? = some (mp_nw (kk d) (kf d))) (h_d : mp_w d) (h_x : mp_w x) (h_y : mp_w y) (h_w : mp_w w) : mp_Call (mX11_falls, 5, 1, 7) [Value.ref 1, mp_i d, mp_i x, mp_i y, mp_i w] (A ++ (mp_cs s si sp f fi fp im hd kn wd ak ke cv vo so sz el ++ B)) (some (mp_i ((sp_falls s hd kk kf d x y w).1)), A ++ (mp_cs ((sp_falls s hd kk kf d x y w).2) si sp (if (((0 ≤ d ∧ d ≤ 7) ∧ (0 ≤ x ∧ x ≤ 15) ∧ (0 ≤ y ∧ y ≤ 4) ∧ (0 ≤ w ∧ w ≤ 30)) ∧ hd d = 1) ∧ s 0 ≠ 8 then va_up f (Int.toNat (s 0)) (some (44 + List.length B)) else f) fi fp im hd kn wd ak ke cv vo so sz el ++ (if ((0 ≤ d ∧ d ≤ 7) ∧ (0 ≤ x ∧ x ≤ 15) ∧ (0 ≤ y ∧ y ≤ 4) ∧ (0 ≤ w ∧ w ≤ 30)) ∧ hd d = 1 then B ++ [mp_O (Int.toNat (kk d)) [mp_i (kk d), mp_i (kf d), mp_i x, mp_i y, mp_i w, mp_i (sp_lasts (kk d) (kf d)), mp_i (sp_bright (kk d) (kf d))]] else B))) := by
  refine mp_Call.of (L := [some (Value.ref 1), some (mp_i d), some (mp_i x), some (mp_i y), some (mp_i w), none, none]) pnX11 (Nat.le_of_ble_eq_true rfl) rfl ?_
  have hz0 := hs.1
  have hsh0 : (0 ≤ d ∧ d ≤ 7) → mp_shf hd kk kf so sz d := fun h => hsh d h.1 h.2
  refine mp_iload_n dX11_falls_0 rfl ?_
  refine mp_bipush dX11_falls_1 rfl ?_
  refine mp_invS (z := (mX11_isBelow, 0, 0, 0)) (K' := (0, 0)) (σ1 := A ++ (mp_cs s si sp f fi fp im hd kn wd ak ke cv vo so sz el ++ B)) (as := [mp_i d, mp_i 8]) (st := []) (st1 := [mp_i (if 0 ≤ d ∧ d < 8 then 1 else 0)]) dX11_falls_3 ssX11_54 (zX11_isBelow (v := d) (n := 8) (by first | with_reducible assumption | omega) (by first | with_reducible assumption | omega)) ⟨Nat.le_of_ble_eq_true rfl, Nat.le_of_ble_eq_true rfl, Nat.le_of_ble_eq_true rfl, Nat.le_of_ble_eq_true rfl, Nat.le_of_ble_eq_true rfl⟩ rfl rfl rfl rfl ?_
  refine mp_ifb_eq (tgt := 36) dX11_falls_6 rfl (fun h1 => ?_) (fun h1 => ?_)
  · refine mp_iconst dX11_falls_36 ?_
    exact mp_ireturn (st := []) dX11_falls_37 rfl ⟨by decide, by decide⟩ ((by rw [if_neg (by omega), if_neg (by omega), sp_falls_bad (by omega)]))
  · refine mp_iload_n dX11_falls_9 rfl ?_
    refine mp_bipush dX11_falls_10 rfl ?_
    refine mp_invS (z := (mX11_isBelow, 0, 0, 0)) (K' := (0, 0)) (σ1 := A ++ (mp_cs s si sp f fi fp im hd kn wd ak ke cv vo so sz el ++ B)) (as := [mp_i x, mp_i 16]) (st := []) (st1 := [mp_i (if 0 ≤ x ∧ x < 16 then 1 else 0)]) dX11_falls_12 ssX11_54 (zX11_isBelow (v := x) (n := 16) (by first | with_reducible assumption | omega) (by first | with_reducible assumption | omega)) ⟨Nat.le_of_ble_eq_true rfl, Nat.le_of_ble_eq_true rfl, Nat.le_of_ble_eq_true rfl, Nat.le_of_ble_eq_true rfl, Nat.le_of_ble_eq_true rfl⟩ rfl rfl rfl rfl ?_
    refine mp_ifb_eq (tgt := 36) dX11_falls_15 rfl (fun h2 => ?_) (fun h2 => ?_)
    · refine mp_iconst dX11_falls_36 ?_
      exact mp_ireturn (st := []) dX11_falls_37 rfl ⟨by decide, by decide⟩ ((by rw [if_neg (by omega), if_neg (by omega), sp_falls_bad (by omega)]))
    · refine mp_iload_n dX11_falls_18 rfl ?_
      refine mp_iconst dX11_falls_19 ?_
      refine mp_invS (z := (mX11_isBelow, 0, 0, 0)) (K' := (0, 0)) (σ1 := A ++ (mp_cs s si sp f fi fp im hd kn wd ak ke cv vo so sz el ++ B)) (as := [mp_i y, mp_i 5]) (st := []) (st1 := [mp_i (if 0 ≤ y ∧ y < 5 then 1 else 0)]) dX11_falls_20 ssX11_54 (zX11_isBelow (v := y) (n := 5) (by first | with_reducible assumption | omega) (by first | with_reducible assumption | omega)) ⟨Nat.le_of_ble_eq_true rfl, Nat.le_of_ble_eq_true rfl, Nat.le_of_ble_eq_true rfl, Nat.le_of_ble_eq_true rfl, Nat.le_of_ble_eq_true rfl⟩ rfl rfl rfl rfl ?_
      refine mp_ifb_eq (tgt := 36) dX11_falls_23 rfl (fun h3 => ?_) (fun h3 => ?_)
      · refine mp_iconst dX11_falls_36 ?_
        exact mp_ireturn (st := []) dX11_falls_37 rfl ⟨by decide, by decide⟩ ((by rw [if_neg (by omega), if_neg (by omega), sp_falls_bad (by omega)]))
      · refine mp_iload dX11_falls_26 rfl ?_
        refine mp_bipush dX11_falls_28 rfl ?_
        refine mp_invS (z := (mX11_isBelow, 0, 0, 0)) (K' := (0, 0)) (σ1 := A ++ (mp_cs s si sp f fi fp im hd kn wd ak ke cv vo so sz el ++ B)) (as := [mp_i w, mp_i 31]) (st := []) (st1 := [mp_i (if 0 ≤ w ∧ w < 31 then 1 else 0)]) dX11_falls_30 ssX11_54 (zX11_isBelow (v := w) (n := 31) (by first | with_reducible assumption | omega) (by first | with_reducible assumption | omega)) ⟨Nat.le_of_ble_eq_true rfl, Nat.le_of_ble_eq_true rfl, Nat.le_of_ble_eq_true rfl, Nat.le_of_ble_eq_true rfl, Nat.le_of_ble_eq_true rfl⟩ rfl rfl rfl rfl ?_
        refine mp_ifb_ne (tgt := 38) dX11_falls_33 rfl (fun h4 => ?_) (fun h4 => ?_)
        · refine mp_aload_n dX11_falls_38 rfl ?_
          refine mp_iload_n dX11_falls_39 rfl ?_
          by_cases hm9 : hd d = 1
          · obtain ⟨a9, hka, hca⟩ := hKp d (by omega) (by omega) hm9
            have hsh9 := hsh d (by omega) (by omega)
            refine mp_invV (z := (mX11_meteorOn, 0, 0, 0)) (K' := (0, 0)) (σ1 := A ++ (mp_cs s si sp f fi fp im hd kn wd ak ke cv vo so sz el ++ B)) (as := [mp_i d]) (st := []) (st1 := [Value.ref a9]) dX11_falls_40 svX11_139 (mp_lkP hA 0 rfl) rfl rfl (zX11_meteorOn (d := d) (s := s) (si := si) (sp := sp) (f := f) (fi := fi) (fp := fp) (im := im) (hd := hd) (kn := kn) (wd := wd) (ak := ak) (ke := ke) (cv := cv) (vo := vo) (so := so) (sz := sz) (el := el) (B := B) (kk := kk) (kf := kf) (a := a9) (by first | with_reducible assumption | omega) (by first | with_reducible assumption | omega) (by first | with_reducible assumption | omega) (by first | with_reducible assumption | omega) (by first | with_reducible assumption | omega)) ⟨Nat.le_of_ble_eq_true rfl, Nat.le_of_ble_eq_true rfl, Nat.le_of_ble_eq_true rfl, Nat.le_of_ble_eq_true rfl, Nat.le_of_ble_eq_true rfl⟩ rfl rfl rfl rfl ?_
            refine mp_astore (L' := [some (Value.ref 1), some (mp_i d), some (mp_i x), some (mp_i y), some (mp_i w), some (Value.ref a9), none]) dX11_falls_43 (by decide) rfl ?_
            refine mp_aload dX11_falls_45 rfl ?_
            refine mp_ifnonnull_r (tgt := 56) dX11_falls_47 rfl ?_
            refine mp_aload dX11_falls_56 rfl ?_
            refine mp_getfield dX11_falls_58 (fsX11_96 (by omega)) hca rfl ?_
            refine mp_aload dX11_falls_61 rfl ?_
            refine mp_getfield dX11_falls_63 (fsX11_99 (by omega)) hca rfl ?_
            refine mp_invS (z := (mX11_madeOf, 4, 1, 7)) (K' := (1, 7)) (σ1 := A ++ (mp_cs s si sp f fi fp im hd kn wd ak ke cv vo so sz el ++ (B ++ [mp_nw (kk d) (kf d)]))) (as := [mp_i (kk d), mp_i (kf d)]) (st := []) (st1 := [Value.ref (44 + List.length B)]) dX11_falls_66 ssX11_142 (zX11_madeOfC (kd := (kk d)) (fg := (kf d)) (s := s) (si := si) (sp := sp) (f := f) (fi := fi) (fp := fp) (im := im) (hd := hd) (kn := kn) (wd := wd) (ak := ak) (ke := ke) (cv := cv) (vo := vo) (so := so) (sz := sz) (el := el) (B := B) (by first | with_reducible assumption | omega) (by first | with_reducible assumption | omega) (by first | with_reducible assumption | omega)) ⟨Nat.le_of_ble_eq_true rfl, Nat.le_of_ble_eq_true rfl, Nat.le_of_ble_eq_true rfl, Nat.le_of_ble_eq_true rfl, Nat.le_of_ble_eq_true rfl⟩ rfl rfl rfl rfl ?_
            refine mp_astore (L' := [some (Value.ref 1), some (mp_i d), some (mp_i x), some (mp_i y), some (mp_i w), some (Value.ref a9), some (Value.ref (44 + List.length B))]) dX11_falls_69 (by decide) rfl ?_
            refine mp_aload dX11_falls_71 rfl ?_
            refine mp_iload_n dX11_falls_73 rfl ?_
            refine mp_iload_n dX11_falls_74 rfl ?_
            refine mp_iload dX11_falls_75 rfl ?_
            refine mp_inv8 (kd := (kk d)) (σ1 := A ++ (mp_cs s si sp f fi fp im hd kn wd ak ke cv vo so sz el ++ (B ++ [mp_O (Int.toNat (kk d)) [mp_i (kk d), mp_i (kf d), mp_i x, mp_i y, mp_i w, mp_i (sp_lasts (kk d) (kf d)), mp_i (sp_bright (kk d) (kf d))]]))) (as := [mp_i x, mp_i y, mp_i w]) (st := []) (st1 := []) dX11_falls_77 (by omega) s8X11_146 (mp_csNew hA) (fun z hz => mp_Call.cast ((fa_begins (a := (44 + List.length B)) (x := x) (y := y) (w := w) (kd := (kk d)) (f := (kf d)) (co := 0) (sl := 0) (ni := 0) (la := 0) (br := 0) (mp_csNew hA) (by first | with_reducible assumption | omega) (by first | with_reducible assumption | omega) (by first | with_reducible assumption | omega)) z hz) rfl (congrArg (Prod.mk _) (mp_csSetNew hA))) (Nat.le_of_ble_eq_true rfl) ⟨Nat.le_of_ble_eq_true rfl, Nat.le_of_ble_eq_true rfl⟩ (Nat.le_of_ble_eq_true rfl) rfl rfl rfl ?_
            refine mp_aload_n dX11_falls_80 rfl ?_
            refine mp_getfield dX11_falls_81 fsX11_10_10 (mp_lkP hA 0 rfl) rfl ?_
            refine mp_aload dX11_falls_84 rfl ?_
            refine mp_bipush dX11_falls_86 rfl ?_
            by_cases h8 : s 0 = 8
            · refine mp_invV (z := (mX6_add, 0, 0, 0)) (K' := (1, 7)) (σ1 := A ++ (mp_cs s si sp f fi fp im hd kn wd ak ke cv vo so sz el ++ (B ++ [mp_O (Int.toNat (kk d)) [mp_i (kk d), mp_i (kf d), mp_i x, mp_i y, mp_i w, mp_i (sp_lasts (kk d) (kf d)), mp_i (sp_bright (kk d) (kf d))]]))) (as := [Value.ref (44 + List.length B), mp_i 9]) (st := []) (st1 := [mp_i (-2)]) dX11_falls_88 svX11_150 (mp_lkP hA 1 rfl) rfl rfl (mp_Call.cast (zX6_addF (p := 2) (a := (44 + List.length B)) (w := 9) (A := (A ++ mp_csA im)) (B := ((mp_sk 8 si fi ++ (mp_sk 14 sp fp ++ (mp_csT hd kn wd ak ke cv vo ++ mp_rws so sz el))) ++ (B ++ [mp_O (Int.toNat (kk d)) [mp_i (kk d), mp_i (kf d), mp_i x, mp_i y, mp_i w, mp_i (sp_lasts (kk d) (kf d)), mp_i (sp_bright (kk d) (kf d))]]))) (s := s) (f := f) (mp_ln2 hA) (by decide) (by first | with_reducible assumption | omega)) mp_cs2 (congrArg (Prod.mk _) mp_cs2)) ⟨Nat.le_of_ble_eq_true rfl, Nat.le_of_ble_eq_true rfl, Nat.le_of_ble_eq_true rfl, Nat.le_of_ble_eq_true rfl, Nat.le_of_ble_eq_true rfl⟩ rfl rfl rfl rfl ?_
              exact mp_ireturn (st := []) dX11_falls_91 rfl ⟨by decide, by decide⟩ ((by rw [if_neg (by omega), if_pos (by omega), sp_falls_full (by omega) (by omega) h8]))
            · refine mp_invV (z := (mX6_add, 0, 0, 0)) (K' := (1, 7)) (σ1 := A ++ (mp_cs (sp_adds s (kk d) (kf d) x y w 9) si sp (va_up f (Int.toNat (s 0)) (some (44 + List.length B))) fi fp im hd kn wd ak ke cv vo so sz el ++ (B ++ [mp_O (Int.toNat (kk d)) [mp_i (kk d), mp_i (kf d), mp_i x, mp_i y, mp_i w, mp_i (sp_lasts (kk d) (kf d)), mp_i (sp_bright (kk d) (kf d))]]))) (as := [Value.ref (44 + List.length B), mp_i 9]) (st := []) (st1 := [mp_i (s 0)]) dX11_falls_88 svX11_150 (mp_lkP hA 1 rfl) rfl rfl (mp_Call.cast (zX6_add (p := 2) (a := (44 + List.length B)) (w := 9) (A := (A ++ mp_csA im)) (B := ((mp_sk 8 si fi ++ (mp_sk 14 sp fp ++ (mp_csT hd kn wd ak ke cv vo ++ mp_rws so sz el))) ++ (B ++ [mp_O (Int.toNat (kk d)) [mp_i (kk d), mp_i (kf d), mp_i x, mp_i y, mp_i w, mp_i (sp_lasts (kk d) (kf d)), mp_i (sp_bright (kk d) (kf d))]]))) (s := s) (f := f) (kd := (kk d)) (fg := (kf d)) (co := x) (sl := y) (ni := w) (la := (sp_lasts (kk d) (kf d))) (br := (sp_bright (kk d) (kf d))) (mp_ln2 hA) (by decide) (by first | with_reducible assumption | omega) (by rw [mp_cs2]; exact mp_csNew hA) (by first | with_reducible assumption | omega)) mp_cs2 (congrArg (Prod.mk _) mp_cs2)) ⟨Nat.le_of_ble_eq_true rfl, Nat.le_of_ble_eq_true rfl, Nat.le_of_ble_eq_true rfl, Nat.le_of_ble_eq_true rfl, Nat.le_of_ble_eq_true rfl⟩ rfl rfl rfl rfl ?_
              exact mp_ireturn (st := []) dX11_falls_91 rfl ⟨by decide, by decide⟩ ((by rw [if_pos (by omega), if_pos (by omega), sp_falls_ok (by omega) (by omega) h8]))
          · refine mp_invV (z := (mX11_meteorOn, 0, 0, 0)) (K' := (0, 0)) (σ1 := A ++ (mp_cs s si sp f fi fp im hd kn wd ak ke cv vo so sz el ++ B)) (as := [mp_i d]) (st := []) (st1 := [Value.null]) dX11_falls_40 svX11_139 (mp_lkP hA 0 rfl) rfl rfl (zX11_meteorOnN (d := d) (s := s) (si := si) (sp := sp) (f := f) (fi := fi) (fp := fp) (im := im) (hd := hd) (kn := kn) (wd := wd) (ak := ak) (ke := ke) (cv := cv) (vo := vo) (so := so) (sz := sz) (el := el) (B := B) (kk := kk) (kf := kf) (by first | with_reducible assumption | omega) (by first | with_reducible assumption | omega) (by first | with_reducible assumption | omega) (by first | with_reducible assumption | omega)) ⟨Nat.le_of_ble_eq_true rfl, Nat.le_of_ble_eq_true rfl, Nat.le_of_ble_eq_true rfl, Nat.le_of_ble_eq_true rfl, Nat.le_of_ble_eq_true rfl⟩ rfl rfl rfl rfl ?_
            refine mp_astoreN (L' := [some (Value.ref 1), some (mp_i d), some (mp_i x), some (mp_i y), some (mp_i w), some (Value.null), none]) dX11_falls_43 (by decide) rfl ?_
            refine mp_aloadN dX11_falls_45 rfl ?_
            refine mp_ifnonnull_n dX11_falls_47 ?_
            refine mp_aload_n dX11_falls_50 rfl ?_
            refine mp_iload_n dX11_falls_51 rfl ?_
            refine mp_invV (z := (mX11_whyNot, 0, 0, 0)) (K' := (0, 0)) (σ1 := A ++ (mp_cs s si sp f fi fp im hd kn wd ak ke cv vo so sz el ++ B)) (as := [mp_i d]) (st := []) (st1 := [mp_i (if hd d = 0 then -11 else -12)]) dX11_falls_52 svX11_62 (mp_lkP hA 0 rfl) rfl rfl (zX11_whyNot (d := d) (s := s) (si := si) (sp := sp) (f := f) (fi := fi) (fp := fp) (im := im) (hd := hd) (kn := kn) (wd := wd) (ak := ak) (ke := ke) (cv := cv) (vo := vo) (so := so) (sz := sz) (el := el) (B := B) (kk := kk) (kf := kf) (by first | with_reducible assumption | omega) (by first | with_reducible assumption | omega) (by first | with_reducible assumption | omega)) ⟨Nat.le_of_ble_eq_true rfl, Nat.le_of_ble_eq_true rfl, Nat.le_of_ble_eq_true rfl, Nat.le_of_ble_eq_true rfl, Nat.le_of_ble_eq_true rfl⟩ rfl rfl rfl rfl ?_
            exact mp_ireturn (st := []) dX11_falls_55 rfl ⟨by decide, by decide⟩ ((by rw [if_neg (by omega), if_neg (by omega), sp_falls_no (by omega) (by have := hsh0 (by omega); omega) hm9]))
        · refine mp_iconst dX11_falls_36 ?_
          exact mp_ireturn (st := []) dX11_falls_37 rfl ⟨by decide, by decide⟩ ((by rw [if_neg (by omega), if_neg (by omega), sp_falls_bad (by omega)]))
theorem zX11_keep {s si sp : Int → Int} {f fi fp : Nat → Option Nat} {im : Int} {hd : Int → Int} {kn : Nat → Option Nat} {wd ak ke cv vo so sz el : Int → Int} {A B : mp_H} {kk kf : Int → Int} {d : Int} {w : Int} {x : Int} {y : Int} (hA : A.length = 1) (hsh : ∀ d, 0 ≤ d → d ≤ 7 → mp_shf hd kk kf so sz d) (h_d : mp_w d) (h_w : mp_w w) (h_x : mp_w x) (h_y : mp_w y) : mp_Call (mX11_keep, 5, 1, 7) [Value.ref 1, mp_i d, mp_i w, mp_i x, mp_i y] (A ++ (mp_cs s si sp f fi fp im hd kn wd ak ke cv vo so sz el ++ B)) (some (mp_i ((sp_keep hd kk kf d w x y).1)), A ++ (mp_cs s si sp f fi fp im ((sp_keep hd kk kf d w x y).2.1) (if ((0 ≤ d ∧ d ≤ 7) ∧ w = 1 ∧ (0 ≤ x ∧ x ≤ 7) ∧ (0 ≤ y ∧ y ≤ 9)) then va_up kn (Int.toNat d) (some (44 + List.length B)) else kn) wd ak ke cv vo so sz el ++ (if ((0 ≤ d ∧ d ≤ 7) ∧ w = 1 ∧ (0 ≤ x ∧ x ≤ 7) ∧ (0 ≤ y ∧ y ≤ 9)) then B ++ [mp_nw x y] else B))) := by
  refine mp_Call.of (L := [some (Value.ref 1), some (mp_i d), some (mp_i w), some (mp_i x), some (mp_i y)]) pnX11 (Nat.le_of_ble_eq_true rfl) rfl ?_
  refine mp_iload_n dX11_keep_0 rfl ?_
  refine mp_bipush dX11_keep_1 rfl ?_
  refine mp_invS (z := (mX11_isBelow, 0, 0, 0)) (K' := (0, 0)) (σ1 := A ++ (mp_cs s si sp f fi fp im hd kn wd ak ke cv vo so sz el ++ B)) (as := [mp_i d, mp_i 8]) (st := []) (st1 := [mp_i (if 0 ≤ d ∧ d < 8 then 1 else 0)]) dX11_keep_3 ssX11_54 (zX11_isBelow (v := d) (n := 8) (by first | with_reducible assumption | omega) (by first | with_reducible assumption | omega)) ⟨Nat.le_of_ble_eq_true rfl, Nat.le_of_ble_eq_true rfl, Nat.le_of_ble_eq_true rfl, Nat.le_of_ble_eq_true rfl, Nat.le_of_ble_eq_true rfl⟩ rfl rfl rfl rfl ?_
  refine mp_ifb_eq (tgt := 17) dX11_keep_6 rfl (fun h1 => ?_) (fun h1 => ?_)
  · refine mp_iconst dX11_keep_17 ?_
    exact mp_ireturn (st := []) dX11_keep_18 rfl ⟨by decide, by decide⟩ ((by rw [sp_keep_bad (by omega), if_neg (by omega), if_neg (by omega)]))
  · refine mp_iload_n dX11_keep_9 rfl ?_
    refine mp_iconst dX11_keep_10 ?_
    refine mp_invS (z := (mX11_isBelow, 0, 0, 0)) (K' := (0, 0)) (σ1 := A ++ (mp_cs s si sp f fi fp im hd kn wd ak ke cv vo so sz el ++ B)) (as := [mp_i w, mp_i 2]) (st := []) (st1 := [mp_i (if 0 ≤ w ∧ w < 2 then 1 else 0)]) dX11_keep_11 ssX11_54 (zX11_isBelow (v := w) (n := 2) (by first | with_reducible assumption | omega) (by first | with_reducible assumption | omega)) ⟨Nat.le_of_ble_eq_true rfl, Nat.le_of_ble_eq_true rfl, Nat.le_of_ble_eq_true rfl, Nat.le_of_ble_eq_true rfl, Nat.le_of_ble_eq_true rfl⟩ rfl rfl rfl rfl ?_
    refine mp_ifb_ne (tgt := 19) dX11_keep_14 rfl (fun h2 => ?_) (fun h2 => ?_)
    · refine mp_iload_n dX11_keep_19 rfl ?_
      refine mp_if_ne (tgt := 32) dX11_keep_20 rfl ⟨by omega, by omega⟩ (fun h3 => ?_) (fun h3 => ?_)
      · refine mp_iload_n dX11_keep_32 rfl ?_
        refine mp_bipush dX11_keep_33 rfl ?_
        refine mp_invS (z := (mX11_isBelow, 0, 0, 0)) (K' := (0, 0)) (σ1 := A ++ (mp_cs s si sp f fi fp im hd kn wd ak ke cv vo so sz el ++ B)) (as := [mp_i x, mp_i 8]) (st := []) (st1 := [mp_i (if 0 ≤ x ∧ x < 8 then 1 else 0)]) dX11_keep_35 ssX11_54 (zX11_isBelow (v := x) (n := 8) (by first | with_reducible assumption | omega) (by first | with_reducible assumption | omega)) ⟨Nat.le_of_ble_eq_true rfl, Nat.le_of_ble_eq_true rfl, Nat.le_of_ble_eq_true rfl, Nat.le_of_ble_eq_true rfl, Nat.le_of_ble_eq_true rfl⟩ rfl rfl rfl rfl ?_
        refine mp_ifb_eq (tgt := 51) dX11_keep_38 rfl (fun h4 => ?_) (fun h4 => ?_)
        · refine mp_iconst dX11_keep_51 ?_
          exact mp_ireturn (st := []) dX11_keep_52 rfl ⟨by decide, by decide⟩ ((by rw [sp_keep_bad (by omega), if_neg (by omega), if_neg (by omega)]))
        · refine mp_iload dX11_keep_41 rfl ?_
          refine mp_bipush dX11_keep_43 rfl ?_
          refine mp_invS (z := (mX11_isBelow, 0, 0, 0)) (K' := (0, 0)) (σ1 := A ++ (mp_cs s si sp f fi fp im hd kn wd ak ke cv vo so sz el ++ B)) (as := [mp_i y, mp_i 10]) (st := []) (st1 := [mp_i (if 0 ≤ y ∧ y < 10 then 1 else 0)]) dX11_keep_45 ssX11_54 (zX11_isBelow (v := y) (n := 10) (by first | with_reducible assumption | omega) (by first | with_reducible assumption | omega)) ⟨Nat.le_of_ble_eq_true rfl, Nat.le_of_ble_eq_true rfl, Nat.le_of_ble_eq_true rfl, Nat.le_of_ble_eq_true rfl, Nat.le_of_ble_eq_true rfl⟩ rfl rfl rfl rfl ?_
          refine mp_ifb_ne (tgt := 53) dX11_keep_48 rfl (fun h5 => ?_) (fun h5 => ?_)
          · refine mp_aload_n dX11_keep_53 rfl ?_
            refine mp_getfield dX11_keep_54 fsX11_22_10 (mp_lkP hA 0 rfl) rfl ?_
            refine mp_iload_n dX11_keep_57 rfl ?_
            refine mp_iconst dX11_keep_58 ?_
            refine mp_iast (σ' := A ++ (mp_cs s si sp f fi fp im (mp_ud hd d 1) kn wd ak ke cv vo so sz el ++ B)) dX11_keep_59 (mp_lkP hA 19 rfl) (by decide) ⟨by omega, by omega⟩ (by decide) (mp_stP (Ms' := mp_cs s si sp f fi fp im (mp_ud hd d 1) kn wd ak ke cv vo so sz el) hA 19 (Nat.le_of_ble_eq_true rfl) rfl) ?_
            refine mp_aload_n dX11_keep_60 rfl ?_
            refine mp_getfield dX11_keep_61 fsX11_28_10 (mp_lkP hA 0 rfl) rfl ?_
            refine mp_iload_n dX11_keep_64 rfl ?_
            refine mp_iload_n dX11_keep_65 rfl ?_
            refine mp_iload dX11_keep_66 rfl ?_
            refine mp_invS (z := (mX11_madeOf, 4, 1, 7)) (K' := (1, 7)) (σ1 := A ++ (mp_cs s si sp f fi fp im (mp_ud hd d 1) kn wd ak ke cv vo so sz el ++ (B ++ [mp_nw x y]))) (as := [mp_i x, mp_i y]) (st := [mp_i d, Value.ref 21]) (st1 := [Value.ref (44 + List.length B), mp_i d, Value.ref 21]) dX11_keep_68 ssX11_142 (zX11_madeOfC (kd := x) (fg := y) (s := s) (si := si) (sp := sp) (f := f) (fi := fi) (fp := fp) (im := im) (hd := (mp_ud hd d 1)) (kn := kn) (wd := wd) (ak := ak) (ke := ke) (cv := cv) (vo := vo) (so := so) (sz := sz) (el := el) (B := B) (by first | with_reducible assumption | omega) (by first | with_reducible assumption | omega) (by first | with_reducible assumption | omega)) ⟨Nat.le_of_ble_eq_true rfl, Nat.le_of_ble_eq_true rfl, Nat.le_of_ble_eq_true rfl, Nat.le_of_ble_eq_true rfl, Nat.le_of_ble_eq_true rfl⟩ rfl rfl rfl rfl ?_
            refine mp_aastO (o := some (44 + List.length B)) (σ' := A ++ (mp_cs s si sp f fi fp im (mp_ud hd d 1) (va_up kn (Int.toNat d) (some (44 + List.length B))) wd ak ke cv vo so sz el ++ (B ++ [mp_nw x y]))) dX11_keep_71 (mp_lkP hA 20 rfl) (fun a9 h9 => by cases h9; exact ⟨_, _, by omega, mp_csNew hA⟩) (by decide) ⟨by omega, by omega⟩ (by decide) (mp_stP (Ms' := mp_cs s si sp f fi fp im (mp_ud hd d 1) (va_up kn (Int.toNat d) (some (44 + List.length B))) wd ak ke cv vo so sz el) hA 20 (Nat.le_of_ble_eq_true rfl) rfl) ?_
            refine mp_iconst dX11_keep_72 ?_
            exact mp_ireturn (st := []) dX11_keep_73 rfl ⟨by decide, by decide⟩ ((by rw [sp_keep_1 (by omega), if_pos (by omega), if_pos (by omega)]))
          · refine mp_iconst dX11_keep_51 ?_
            exact mp_ireturn (st := []) dX11_keep_52 rfl ⟨by decide, by decide⟩ ((by rw [sp_keep_bad (by omega), if_neg (by omega), if_neg (by omega)]))
      · refine mp_aload_n dX11_keep_23 rfl ?_
        refine mp_getfield dX11_keep_24 fsX11_22_10 (mp_lkP hA 0 rfl) rfl ?_
        refine mp_iload_n dX11_keep_27 rfl ?_
        refine mp_iconst dX11_keep_28 ?_
        refine mp_iast (σ' := A ++ (mp_cs s si sp f fi fp im (mp_ud hd d 0) kn wd ak ke cv vo so sz el ++ B)) dX11_keep_29 (mp_lkP hA 19 rfl) (by decide) ⟨by omega, by omega⟩ (by decide) (mp_stP (Ms' := mp_cs s si sp f fi fp im (mp_ud hd d 0) kn wd ak ke cv vo so sz el) hA 19 (Nat.le_of_ble_eq_true rfl) rfl) ?_
        refine mp_iconst dX11_keep_30 ?_
        exact mp_ireturn (st := []) dX11_keep_31 rfl ⟨by decide, by decide⟩ ((by rw [sp_keep_0 (by omega) (by omega), if_neg (by omega), if_neg (by omega)]))
    · refine mp_iconst dX11_keep_17 ?_
      exact mp_ireturn (st := []) dX11_keep_18 rfl ⟨by decide, by decide⟩ ((by rw [sp_keep_bad (by omega), if_neg (by omega), if_neg (by omega)]))
theorem zX11_cost {s si sp : Int → Int} {f fi fp : Nat → Option Nat} {im : Int} {hd : Int → Int} {kn : Nat → Option Nat} {wd ak ke cv vo so sz el : Int → Int} {A B : mp_H} {kk kf : Int → Int} {d : Int} (hA : A.length = 1) (hsh : ∀ d, 0 ≤ d → d ≤ 7 → mp_shf hd kk kf so sz d) (hKp : ∀ d, 0 ≤ d → d ≤ 7 → hd d = 1 → ∃ a, kn (Int.toNat d) = some a ∧ (A ++ (mp_cs s si sp f fi fp im hd kn wd ak ke cv vo so sz el ++ B))[a]? = some (mp_nw (kk d) (kf d))) (h_d : mp_w d) : mp_Call (mX11_cost, 3, 0, 0) [Value.ref 1, mp_i d] (A ++ (mp_cs s si sp f fi fp im hd kn wd ak ke cv vo so sz el ++ B)) (some (mp_i (sp_costC hd kk kf d)), A ++ (mp_cs s si sp f fi fp im hd kn wd ak ke cv vo so sz el ++ B)) := by
  refine mp_Call.of (L := [some (Value.ref 1), some (mp_i d), none]) pnX11 (Nat.le_of_ble_eq_true rfl) rfl ?_
  have hsh0 : (0 ≤ d ∧ d ≤ 7) → mp_shf hd kk kf so sz d := fun h => hsh d h.1 h.2
  refine mp_iload_n dX11_cost_0 rfl ?_
  refine mp_bipush dX11_cost_1 rfl ?_
  refine mp_invS (z := (mX11_isBelow, 0, 0, 0)) (K' := (0, 0)) (σ1 := A ++ (mp_cs s si sp f fi fp im hd kn wd ak ke cv vo so sz el ++ B)) (as := [mp_i d, mp_i 8]) (st := []) (st1 := [mp_i (if 0 ≤ d ∧ d < 8 then 1 else 0)]) dX11_cost_3 ssX11_54 (zX11_isBelow (v := d) (n := 8) (by first | with_reducible assumption | omega) (by first | with_reducible assumption | omega)) ⟨Nat.le_of_ble_eq_true rfl, Nat.le_of_ble_eq_true rfl, Nat.le_of_ble_eq_true rfl, Nat.le_of_ble_eq_true rfl, Nat.le_of_ble_eq_true rfl⟩ rfl rfl rfl rfl ?_
  refine mp_ifb_ne (tgt := 11) dX11_cost_6 rfl (fun h1 => ?_) (fun h1 => ?_)
  · refine mp_aload_n dX11_cost_11 rfl ?_
    refine mp_iload_n dX11_cost_12 rfl ?_
    by_cases hm9 : hd d = 1
    · obtain ⟨a9, hka, hca⟩ := hKp d (by omega) (by omega) hm9
      have hsh9 := hsh d (by omega) (by omega)
      refine mp_invV (z := (mX11_meteorOn, 0, 0, 0)) (K' := (0, 0)) (σ1 := A ++ (mp_cs s si sp f fi fp im hd kn wd ak ke cv vo so sz el ++ B)) (as := [mp_i d]) (st := []) (st1 := [Value.ref a9]) dX11_cost_13 svX11_139 (mp_lkP hA 0 rfl) rfl rfl (zX11_meteorOn (d := d) (s := s) (si := si) (sp := sp) (f := f) (fi := fi) (fp := fp) (im := im) (hd := hd) (kn := kn) (wd := wd) (ak := ak) (ke := ke) (cv := cv) (vo := vo) (so := so) (sz := sz) (el := el) (B := B) (kk := kk) (kf := kf) (a := a9) (by first | with_reducible assumption | omega) (by first | with_reducible assumption | omega) (by first | with_reducible assumption | omega) (by first | with_reducible assumption | omega) (by first | with_reducible assumption | omega)) ⟨Nat.le_of_ble_eq_true rfl, Nat.le_of_ble_eq_true rfl, Nat.le_of_ble_eq_true rfl, Nat.le_of_ble_eq_true rfl, Nat.le_of_ble_eq_true rfl⟩ rfl rfl rfl rfl ?_
      refine mp_astore_n (L' := [some (Value.ref 1), some (mp_i d), some (Value.ref a9)]) dX11_cost_16 rfl (by decide) rfl ?_
      refine mp_aload_n dX11_cost_17 rfl ?_
      refine mp_ifnonnull_r (tgt := 29) dX11_cost_18 rfl ?_
      refine mp_aload_n dX11_cost_29 rfl ?_
      refine mp_inv8 (kd := (kk d)) (σ1 := A ++ (mp_cs s si sp f fi fp im hd kn wd ak ke cv vo so sz el ++ B)) (as := []) (st := []) (st1 := [mp_i (sp_cost (kk d) (kf d))]) dX11_cost_30 (by omega) s8X11_354 hca (fa_costs (a := a9) (kd := (kk d)) (f := (kf d)) (co := 0) (sl := 0) (ni := 0) (la := 0) (br := 0) hca (by first | with_reducible assumption | omega) (by first | with_reducible assumption | omega)) (Nat.le_of_ble_eq_true rfl) ⟨Nat.le_of_ble_eq_true rfl, Nat.le_of_ble_eq_true rfl⟩ (Nat.le_of_ble_eq_true rfl) rfl rfl rfl ?_
      have b2 := @mp_cost_bd (kk d) (kf d) (by omega)
      exact mp_ireturn (st := []) dX11_cost_33 rfl ⟨by decide, by decide⟩ ((mp_ans (by first | exact sp_cost_bad (by omega) | exact sp_cost_no (by omega) (by omega) hm9 | exact sp_cost_ok (by omega) hm9)))
    · refine mp_invV (z := (mX11_meteorOn, 0, 0, 0)) (K' := (0, 0)) (σ1 := A ++ (mp_cs s si sp f fi fp im hd kn wd ak ke cv vo so sz el ++ B)) (as := [mp_i d]) (st := []) (st1 := [Value.null]) dX11_cost_13 svX11_139 (mp_lkP hA 0 rfl) rfl rfl (zX11_meteorOnN (d := d) (s := s) (si := si) (sp := sp) (f := f) (fi := fi) (fp := fp) (im := im) (hd := hd) (kn := kn) (wd := wd) (ak := ak) (ke := ke) (cv := cv) (vo := vo) (so := so) (sz := sz) (el := el) (B := B) (kk := kk) (kf := kf) (by first | with_reducible assumption | omega) (by first | with_reducible assumption | omega) (by first | with_reducible assumption | omega) (by first | with_reducible assumption | omega)) ⟨Nat.le_of_ble_eq_true rfl, Nat.le_of_ble_eq_true rfl, Nat.le_of_ble_eq_true rfl, Nat.le_of_ble_eq_true rfl, Nat.le_of_ble_eq_true rfl⟩ rfl rfl rfl rfl ?_
      refine mp_astore_nN (L' := [some (Value.ref 1), some (mp_i d), some (Value.null)]) dX11_cost_16 rfl (by decide) rfl ?_
      refine mp_aload_nN dX11_cost_17 rfl ?_
      refine mp_ifnonnull_n dX11_cost_18 ?_
      refine mp_aload_n dX11_cost_21 rfl ?_
      refine mp_iload_n dX11_cost_22 rfl ?_
      refine mp_invV (z := (mX11_whyNot, 0, 0, 0)) (K' := (0, 0)) (σ1 := A ++ (mp_cs s si sp f fi fp im hd kn wd ak ke cv vo so sz el ++ B)) (as := [mp_i d]) (st := []) (st1 := [mp_i (if hd d = 0 then -11 else -12)]) dX11_cost_23 svX11_62 (mp_lkP hA 0 rfl) rfl rfl (zX11_whyNot (d := d) (s := s) (si := si) (sp := sp) (f := f) (fi := fi) (fp := fp) (im := im) (hd := hd) (kn := kn) (wd := wd) (ak := ak) (ke := ke) (cv := cv) (vo := vo) (so := so) (sz := sz) (el := el) (B := B) (kk := kk) (kf := kf) (by first | with_reducible assumption | omega) (by first | with_reducible assumption | omega) (by first | with_reducible assumption | omega)) ⟨Nat.le_of_ble_eq_true rfl, Nat.le_of_ble_eq_true rfl, Nat.le_of_ble_eq_true rfl, Nat.le_of_ble_eq_true rfl, Nat.le_of_ble_eq_true rfl⟩ rfl rfl rfl rfl ?_
      refine mp_goto (tgt := 33) dX11_cost_26 rfl ?_
      exact mp_ireturn (st := []) dX11_cost_33 rfl ⟨by decide, by decide⟩ ((mp_ans (by first | exact sp_cost_bad (by omega) | exact sp_cost_no (by omega) (by omega) hm9 | exact sp_cost_ok (by omega) hm9)))
  · refine mp_iconst dX11_cost_9 ?_
    exact mp_ireturn (st := []) dX11_cost_10 rfl ⟨by decide, by decide⟩ ((mp_ans (by first | exact sp_cost_bad (by omega) | exact sp_cost_no (by omega) (by omega) hm9 | exact sp_cost_ok (by omega) hm9)))
