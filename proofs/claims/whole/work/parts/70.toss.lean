/-! ===== toss; an element as the law asks for it ===== -/
theorem mq_mono {Y : mp_Y} {K : Nat × Nat} {pc : Nat} {L : List (Option Value)} {st : List Value} {σ : mp_H} {tb : List ExceptionTableEntry} {Rt Rt' : mp_An → Prop} {Th Th' : String → mp_H → Prop} (k : mp_AtX Y K pc L st σ (mp_QB Y tb Rt Th)) (h : ∀ A, Rt A → Rt' A) (h' : ∀ E τ, Th E τ → Th' E τ) : mp_AtX Y K pc L st σ (mp_QB Y tb Rt' Th') := by
  intro G p l e Rm s m args below meth c C CT H locs ls hW hS hL T hT X
  obtain ⟨t, s1, o, b1, b2, b3⟩ := k G p l e Rm s m args below meth c C CT H locs ls hW hS hL T hT X
  refine ⟨t, s1, o, b1, b2, ?_⟩
  rcases b3 with ⟨⟨A9, r1, r2⟩, b4⟩ | ⟨q, e1, E, ce, L1, ⟨τ, t1, t2⟩, t3⟩
  · exact Or.inl ⟨⟨A9, h _ r1, r2⟩, b4⟩
  · exact Or.inr ⟨q, e1, E, ce, L1, ⟨τ, h' _ _ t1, t2⟩, t3⟩
theorem sp_toss_bad {hd kk kf : Int → Int} {d : Int} (h : ¬ (0 ≤ d ∧ d ≤ 7)) : sp_toss hd kk kf d = -1 := by
  unfold sp_toss; rw [sp_wK_bad h]; rfl
theorem sp_toss_no {hd kk kf : Int → Int} {d : Int} (h : 0 ≤ d ∧ d ≤ 7) (h2 : 0 ≤ hd d ∧ hd d ≤ 2) (h1 : ¬ hd d = 1) : sp_toss hd kk kf d = if hd d = 0 then -11 else -12 := by
  unfold sp_toss; rw [sp_wK_no h h2 h1, if_pos sp_wK_nz]
theorem sp_toss_ok {hd kk kf : Int → Int} {d : Int} (h : 0 ≤ d ∧ d ≤ 7) (h1 : hd d = 1) : sp_toss hd kk kf d = if kk d = 2 ∨ kk d = 5 ∨ kf d = 0 then -15 else if kk d = 4 then 200 + sp_cost (kk d) (kf d) else if kk d = 1 then 100 + kf d else kf d := by
  unfold sp_toss; rw [sp_wK_ok h h1, if_neg (fun h => h rfl)]
theorem mp_pnL : plainName RL = true := by decide +kernel
/-- taken by a handler, that puts it away first: a wide place -/
theorem mq_catchw {Y : mp_Y} {K : Nat × Nat} {pc nx : Nat} {L : List (Option Value)} {σ : mp_H} {E : String} {Q : mp_QX} {i : Nat} {L' : List (Option Value)} (pre : List ExceptionTableEntry) (x : ExceptionTableEntry) (suf : List ExceptionTableEntry) (hsp : Q.1 = pre ++ x :: suf)
    (hpass : ∀ z ∈ pre, covers z pc = false ∨ (z.catchType ≠ 0 ∧ ∃ nm : String, Cond.classLink Y.1.1.cls z.catchType nm ∈ mp_gt ∧ ∀ s, mp_NC s → va_Nc E nm s)) (hx : covers x pc = true) (h0 : x.catchType ≠ 0) (hlink : Cond.classLink Y.1.1.cls x.catchType E ∈ mp_gt) (hcast : ∀ s, mp_NC s → va_Nw (.castable E E) s)
    (hd : mp_dc Y.1 x.handlerPc (.astore i) 2 nx) (hn : i < Y.1.2.2.1) (hl : (mp_st0 L i).set i none = L') (kk : mp_AtX Y K nx L' [] σ Q) : mp_AtT Y K pc L E σ Q := by
  obtain ⟨hd, rfl⟩ := hd
  subst hl
  intro G p l e Rm s m args below meth c C CT H locs ls hW hS hL rest q ce hce hcv hcl
  have hw := C.2.2.2.2.2.2.2.1
  refine vx_catch (own := Y.1.1.cls) (name := E) C.2.2.2.2.1 pre x suf (CT.1.trans hsp) (fun z hz => (hpass z hz).imp id (fun h => ⟨h.1, h.2.imp (fun nm h => ⟨hw _ h.1, h.2 s CT.2⟩)⟩)) hx h0 (hw _ hlink) (va_Nw.use rfl (hcast s CT.2)) hce hcv hcl ?_
  obtain ⟨ls', e', h'⟩ := hL.stq (q := q) hn
  have k := kk G p l e Rm s m args below meth c C CT H locs ls' hW hS h'
  intro T hT X
  obtain ⟨t, a, b⟩ := k T hT X
  refine ⟨t, ?_, b⟩
  have hx := C.1
  have hb := C.2.1
  jvm_step X.here [X.here.top, ↓top_set X.here.top, hx, hb, hd, e', mp_tr]
  exact ⟨rfl, a⟩

theorem zX11_toss {s si sp : Int → Int} {f fi fp : Nat → Option Nat} {im : Int} {hd : Int → Int} {kn : Nat → Option Nat} {wd ak ke cv vo so sz el : Int → Int} {A B : mp_H} {kk kf : Int → Int} {d : Int} (hA : A.length = 1) (hsh : ∀ d, 0 ≤ d → d ≤ 7 → mp_shf hd kk kf so sz d) (hKp : ∀ d, 0 ≤ d → d ≤ 7 → hd d = 1 → ∃ a, kn (Int.toNat d) = some a ∧ (A ++ (mp_cs s si sp f fi fp im hd kn wd ak ke cv vo so sz el ++ B))[a]? = some (mp_nw (kk d) (kf d))) (h_d : mp_w d) : mp_CallX (mX11_toss, 7, 1, 6) (Cond.codeWith mX11_toss.1 mX11_toss.2.1 mX11_toss.2.2.1 mX11_toss.2.2.2 mp_tbT :: mp_gt) [Value.ref 1, mp_i d] (A ++ (mp_cs s si sp f fi fp im hd kn wd ak ke cv vo so sz el ++ B)) (fun A9 => ∃ X9, A9 = (some (mp_i (sp_toss hd kk kf d)), A ++ (mp_cs s si sp f fi fp im hd kn wd ak ke cv vo so sz el ++ (B ++ X9)))) (fun _ _ => False) := by
  refine mp_CallX.ofH (hh := mp_tbT) (L := [some (Value.ref 1), some (mp_i d), none, none]) pnX11 (Nat.le_of_ble_eq_true rfl) rfl ?_
  have hsh0 : (0 ≤ d ∧ d ≤ 7) → mp_shf hd kk kf so sz d := fun h => hsh d h.1 h.2
  refine mq_iload_n dX11_toss_0 rfl ?_
  refine mq_bipush dX11_toss_1 rfl ?_
  refine mq_invS (z := (mX11_isBelow, 0, 0, 0)) (K' := (0, 0)) (σ1 := A ++ (mp_cs s si sp f fi fp im hd kn wd ak ke cv vo so sz el ++ B)) (as := [mp_i d, mp_i 8]) (st := []) (st1 := [mp_i (if 0 ≤ d ∧ d < 8 then 1 else 0)]) dX11_toss_3 ssX11_54 (zX11_isBelow (v := d) (n := 8) (by first | with_reducible assumption | omega) (by first | with_reducible assumption | omega)) ⟨Nat.le_of_ble_eq_true rfl, Nat.le_of_ble_eq_true rfl, Nat.le_of_ble_eq_true rfl, Nat.le_of_ble_eq_true rfl, Nat.le_of_ble_eq_true rfl⟩ rfl rfl rfl rfl ?_
  refine mq_ifb_ne (tgt := 11) dX11_toss_6 rfl (fun h1 => ?_) (fun h1 => ?_)
  · refine mq_aload_n dX11_toss_11 rfl ?_
    refine mq_iload_n dX11_toss_12 rfl ?_
    by_cases hm9 : hd d = 1
    · obtain ⟨a9, hka, hca⟩ := hKp d (by omega) (by omega) hm9
      have hsh9 := hsh d (by omega) (by omega)
      refine mq_invV (z := (mX11_meteorOn, 0, 0, 0)) (K' := (0, 0)) (σ1 := A ++ (mp_cs s si sp f fi fp im hd kn wd ak ke cv vo so sz el ++ B)) (as := [mp_i d]) (st := []) (st1 := [Value.ref a9]) dX11_toss_13 svX11_139 (mp_lkP hA 0 rfl) rfl rfl (zX11_meteorOn (d := d) (s := s) (si := si) (sp := sp) (f := f) (fi := fi) (fp := fp) (im := im) (hd := hd) (kn := kn) (wd := wd) (ak := ak) (ke := ke) (cv := cv) (vo := vo) (so := so) (sz := sz) (el := el) (B := B) (kk := kk) (kf := kf) (a := a9) (by first | with_reducible assumption | omega) (by first | with_reducible assumption | omega) (by first | with_reducible assumption | omega) (by first | with_reducible assumption | omega) (by first | with_reducible assumption | omega)) ⟨Nat.le_of_ble_eq_true rfl, Nat.le_of_ble_eq_true rfl, Nat.le_of_ble_eq_true rfl, Nat.le_of_ble_eq_true rfl, Nat.le_of_ble_eq_true rfl⟩ rfl rfl rfl rfl ?_
      refine mq_astore_n (L' := [some (Value.ref 1), some (mp_i d), some (Value.ref a9), none]) dX11_toss_16 rfl (by decide) rfl ?_
      refine mq_aload_n dX11_toss_17 rfl ?_
      refine mq_ifnonnull_r (tgt := 27) dX11_toss_18 rfl ?_
      refine mq_aload_n dX11_toss_27 rfl ?_
      exact mq_mono (lX11_toss_28 (kd := kk d) (f := kf d) hca (by omega) (by omega)) (fun A9 h9 => ⟨(if kk d = 2 ∨ kk d = 5 ∨ kf d = 0 then [] else [mp_X]), (show A9 = _ from h9).trans (by rw [sp_toss_ok (by omega) hm9, List.append_assoc, List.append_assoc])⟩) (fun _ _ h9 => h9)
    · refine mq_invV (z := (mX11_meteorOn, 0, 0, 0)) (K' := (0, 0)) (σ1 := A ++ (mp_cs s si sp f fi fp im hd kn wd ak ke cv vo so sz el ++ B)) (as := [mp_i d]) (st := []) (st1 := [Value.null]) dX11_toss_13 svX11_139 (mp_lkP hA 0 rfl) rfl rfl (zX11_meteorOnN (d := d) (s := s) (si := si) (sp := sp) (f := f) (fi := fi) (fp := fp) (im := im) (hd := hd) (kn := kn) (wd := wd) (ak := ak) (ke := ke) (cv := cv) (vo := vo) (so := so) (sz := sz) (el := el) (B := B) (kk := kk) (kf := kf) (by first | with_reducible assumption | omega) (by first | with_reducible assumption | omega) (by first | with_reducible assumption | omega) (by first | with_reducible assumption | omega)) ⟨Nat.le_of_ble_eq_true rfl, Nat.le_of_ble_eq_true rfl, Nat.le_of_ble_eq_true rfl, Nat.le_of_ble_eq_true rfl, Nat.le_of_ble_eq_true rfl⟩ rfl rfl rfl rfl ?_
      refine mq_astore_nN (L' := [some (Value.ref 1), some (mp_i d), some (Value.null), none]) dX11_toss_16 rfl (by decide) rfl ?_
      refine mq_aload_nN dX11_toss_17 rfl ?_
      refine mq_ifnonnull_n dX11_toss_18 ?_
      refine mq_aload_n dX11_toss_21 rfl ?_
      refine mq_iload_n dX11_toss_22 rfl ?_
      refine mq_invV (z := (mX11_whyNot, 0, 0, 0)) (K' := (0, 0)) (σ1 := A ++ (mp_cs s si sp f fi fp im hd kn wd ak ke cv vo so sz el ++ B)) (as := [mp_i d]) (st := []) (st1 := [mp_i (if hd d = 0 then -11 else -12)]) dX11_toss_23 svX11_62 (mp_lkP hA 0 rfl) rfl rfl (zX11_whyNot (d := d) (s := s) (si := si) (sp := sp) (f := f) (fi := fi) (fp := fp) (im := im) (hd := hd) (kn := kn) (wd := wd) (ak := ak) (ke := ke) (cv := cv) (vo := vo) (so := so) (sz := sz) (el := el) (B := B) (kk := kk) (kf := kf) (by first | with_reducible assumption | omega) (by first | with_reducible assumption | omega) (by first | with_reducible assumption | omega)) ⟨Nat.le_of_ble_eq_true rfl, Nat.le_of_ble_eq_true rfl, Nat.le_of_ble_eq_true rfl, Nat.le_of_ble_eq_true rfl, Nat.le_of_ble_eq_true rfl⟩ rfl rfl rfl rfl ?_
      exact mq_ret ⟨[], by first | rw [sp_toss_bad (by omega), List.append_nil] | rw [sp_toss_no (by omega) (by omega) hm9, List.append_nil]⟩ (mp_ireturn (st := []) dX11_toss_26 rfl ⟨by decide, by decide⟩ rfl)
  · refine mq_iconst dX11_toss_9 ?_
    exact mq_ret ⟨[], by first | rw [sp_toss_bad (by omega), List.append_nil] | rw [sp_toss_no (by omega) (by omega) hm9, List.append_nil]⟩ (mp_ireturn (st := []) dX11_toss_10 rfl ⟨by decide, by decide⟩ rfl)
abbrev mp_tbE : List (Nat × Nat × Nat × Nat) := [(0, 9, 12, 13), (0, 9, 16, 15)]
theorem zL_element {s si sp : Int → Int} {f fi fp : Nat → Option Nat} {im : Int} {hd : Int → Int} {kn : Nat → Option Nat} {wd ak ke cv vo so sz el : Int → Int} {A B : mp_H} {kk kf : Int → Int} {d i : Int} {o : Nat} {out : Nat → Int} {σ : mp_H} (hσ : σ = A ++ (mp_cs s si sp f fi fp im hd kn wd ak ke cv vo so sz el ++ B)) (hA : A.length = 1) (hsh : ∀ d, 0 ≤ d → d ≤ 7 → mp_shf hd kk kf so sz d) (hel : ∀ x, mp_w (el x)) (h_d : mp_w d) (h_i : mp_w i) (ho : σ[o]? = some (mp_J 1 out)) (h0 : 0 < o) : mp_CallX (mL_element, 7, 1, 6) (Cond.codeWith mL_element.1 mL_element.2.1 mL_element.2.2.1 mL_element.2.2.2 mp_tbE :: mp_gt) [Value.ref 1, mp_i d, mp_i i, Value.ref o] σ (fun A9 => (sp_thrown hd sz d i = 0 ∧ A9 = (some (mp_i 0), σ.set o (mp_J 1 (va_up out 0 (el (100 * d + i)))))) ∨ (sp_thrown hd sz d i ≠ 0 ∧ A9 = (some (mp_i (sp_thrown hd sz d i)), σ ++ [mp_X]))) (fun _ _ => False) := by
  subst hσ
  refine mp_CallX.ofH (hh := mp_tbE) (L := [some (Value.ref 1), some (mp_i d), some (mp_i i), some (Value.ref o), none]) mp_pnL (Nat.le_of_ble_eq_true rfl) rfl ?_
  refine mq_aload_n dL_element_0 rfl ?_
  refine mq_iconst dL_element_1 ?_
  refine mq_aload_n dL_element_2 rfl ?_
  refine mq_iload_n dL_element_3 rfl ?_
  refine mq_iload_n dL_element_4 rfl ?_
  refine mq_invVX (ci := 10) (z := (mX11_element, 6, 1, 6)) (K' := (1, 6)) (as := [mp_i d, mp_i i]) (st := [mp_i 0, Value.ref o]) dL_element_5 svL_7 (mp_lkP hA 0 rfl) rfl rfl (zX11_element (d := d) (i := i) hA hsh hel h_d h_i) ⟨Nat.le_of_ble_eq_true rfl, Nat.le_of_ble_eq_true rfl, Nat.le_of_ble_eq_true rfl, Nat.le_of_ble_eq_true rfl, Nat.le_of_ble_eq_true rfl⟩ rfl rfl (fun A1 h => ?_) (fun E τ h => ?_)
  · obtain ⟨h1, rfl⟩ := h
    refine mq_lastore (σ' := (A ++ (mp_cs s si sp f fi fp im hd kn wd ak ke cv vo so sz el ++ B)).set o (mp_J 1 (va_up out 0 (el (100 * d + i))))) dL_element_8 ho h0 ⟨by decide, by decide⟩ (by decide) rfl ?_
    refine mq_goto (tgt := 20) dL_element_9 rfl ?_
    refine mq_ret (Or.inl ⟨h1, rfl⟩) ?_
    refine mp_iconst dL_element_20 ?_
    exact mp_ireturn (st := []) dL_element_21 rfl ⟨by decide, by decide⟩ rfl
  · obtain ⟨⟨rfl, h1⟩ | ⟨rfl, h1⟩, rfl⟩ := h
    · refine mq_catchw (L' := [some (Value.ref 1), some (mp_i d), some (mp_i i), some (Value.ref o), none]) [] ⟨0, 9, 12, 13⟩ [⟨0, 9, 16, 15⟩] rfl (fun z hz => by cases hz) (by decide) (by decide) (mp_gt_of 1010 (by decide +kernel) rfl) (fun s h => h.1) dL_element_12 (by decide) rfl ?_
      refine mq_ret (Or.inr ⟨by rw [h1]; decide, by rw [h1]⟩) ?_
      refine mp_iconst dL_element_14 ?_
      exact mp_ireturn (st := []) dL_element_15 rfl ⟨by decide, by decide⟩ rfl
    · refine mq_catchw (L' := [some (Value.ref 1), some (mp_i d), some (mp_i i), some (Value.ref o), none]) [⟨0, 9, 12, 13⟩] ⟨0, 9, 16, 15⟩ [] rfl (fun z hz => by rw [List.mem_singleton] at hz; subst hz; exact Or.inr ⟨by decide, mp_eA, mp_gt_of 1010 (by decide +kernel) rfl, fun s h => h.2.2.2.2.2.2.1⟩) (by decide) (by decide) (mp_gt_of 1011 (by decide +kernel) rfl) (fun s h => h.2.1) dL_element_16 (by decide) rfl ?_
      refine mq_ret (Or.inr ⟨by rw [h1]; decide, by rw [h1]⟩) ?_
      refine mp_iconst dL_element_18 ?_
      exact mp_ireturn (st := []) dL_element_19 rfl ⟨by decide, by decide⟩ rfl
