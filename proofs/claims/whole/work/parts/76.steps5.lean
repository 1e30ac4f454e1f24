/-! ===== toss and element, between class and model ===== -/
theorem st_toss {n : Nat} {scr : Nat → Int} {σ : mp_H} {a1 : Int} (wa1 : mp_w a1) (h0 : mp_Inv n scr σ) : ∃ (Rt : mp_An → Prop) (v : Int), mp_CallX (mX11_toss, 7, 1, 6) (Cond.codeWith mX11_toss.1 mX11_toss.2.1 mX11_toss.2.2.1 mX11_toss.2.2.2 mp_tbT :: mp_gt) [Value.ref 1, mp_i a1] σ Rt (fun _ _ => False) ∧
    ∀ A1, Rt A1 → ∃ σ1 σ2, A1 = (some (mp_i v), σ1) ∧ mp_Call (mX12_toss, 3, 0, 0) [Value.ref 44, mp_i a1] σ1 (some (mp_i v), σ2) ∧ mp_Inv n scr σ2 ∧ σ1[0]? = some (mp_S n scr) ∧ ∃ fs, σ1[44]? = some (mp_O 11 fs) := by
  obtain ⟨s, si, u, m, img, was, num, pro, ask, kp, kk, kf, so, sz, el, wd, ak, ke, cv, vo, f, g, h, kn, im, pl, ra, re, rm, rf, sd, th, out, C, rfl, h1, h2, h3, h4, h5, h6, h7, h8, h9⟩ := h0
  have ok : mp_Ok _ s si img kp kk kf so sz el f g kn im := ⟨h1, h2, h3, h4, h5, h6, h7, h8, h9⟩
  refine ⟨_, sp_toss kp kk kf a1, zX11_toss (A := [mp_S n scr]) rfl h6 h9 wa1, fun A1 hR => ?_⟩
  obtain ⟨X9, rfl⟩ := hR
  exact ⟨_, _, rfl, mp_mdlC (zX12_toss (A := [mp_S n scr] ++ _) rfl h6 wa1), mp_Inv.of rfl (ok.keep mp_hp_stay), rfl, _, rfl⟩
theorem st_element {n : Nat} {scr : Nat → Int} {σ : mp_H} {a1 a2 : Int} (wa1 : mp_w a1) (wa2 : mp_w a2) (h0 : mp_Inv n scr σ) : ∃ Rt : mp_An → Prop, mp_CallX (mL_element, 7, 1, 6) (Cond.codeWith mL_element.1 mL_element.2.1 mL_element.2.2.1 mL_element.2.2.2 mp_tbE :: mp_gt) [Value.ref 1, mp_i a1, mp_i a2, Value.ref 58] σ Rt (fun _ _ => False) ∧
    ∀ A1, Rt A1 → ∃ (v w : Int) (σ1 σ2 : mp_H), A1 = (some (mp_i v), σ1) ∧ mp_Call (mX12_element, 2, 0, 0) [Value.ref 44, mp_i a1, mp_i a2] σ1 (some (mp_l w), σ2) ∧ mp_Call (mX12_thrown, 0, 0, 0) [Value.ref 44] σ2 (some (mp_i v), σ2) ∧ mp_Inv n scr σ2 ∧ (σ1[0]? = some (mp_S n scr) ∧ ∃ fs, σ1[44]? = some (mp_O 11 fs)) ∧ (0 ≤ v ∧ v ≤ 2) ∧ ∃ out, σ2[58]? = some (mp_J 1 out) ∧ (v = 0 → out 0 = w) := by
  obtain ⟨s, si, u, m, img, was, num, pro, ask, kp, kk, kf, so, sz, el, wd, ak, ke, cv, vo, f, g, h, kn, im, pl, ra, re, rm, rf, sd, th, out, C, rfl, h1, h2, h3, h4, h5, h6, h7, h8, h9⟩ := h0
  have ok : mp_Ok _ s si img kp kk kf so sz el f g kn im := ⟨h1, h2, h3, h4, h5, h6, h7, h8, h9⟩
  have tb : 0 ≤ sp_thrown kp sz a1 a2 ∧ sp_thrown kp sz a1 a2 ≤ 2 := by unfold sp_thrown; omega
  refine ⟨_, zL_element (A := [mp_S n scr]) (o := 58) (out := out) rfl rfl h6 h7 wa1 wa2 rfl (by decide), fun A1 hR => ?_⟩
  rcases hR with ⟨e0, rfl⟩ | ⟨e0, rfl⟩
  · have ok2 := ok.keep (σ' := mp_hp n scr s si u m img was num pro ask kp kk kf so sz el wd ak ke cv vo f g h kn im pl ra re rm rf sd (sp_thrown kp sz a1 a2) (va_up out 0 (el (100 * a1 + a2))) C) mp_hp_stay0
    refine ⟨0, sp_element kp sz el a1 a2, mp_hp n scr s si u m img was num pro ask kp kk kf so sz el wd ak ke cv vo f g h kn im pl ra re rm rf sd th (va_up out 0 (el (100 * a1 + a2))) C, _, rfl, mp_mdl (zX12_element (A := [mp_S n scr] ++ _) rfl h6 h7 wa1 wa2), ?_, mp_Inv.of rfl ok2, ⟨rfl, _, rfl⟩, ⟨by decide, by decide⟩, va_up out 0 (el (100 * a1 + a2)), rfl, fun _ => ?_⟩
    · have e := mp_mdl (zX12_thrown (A := [mp_S n scr] ++ mp_cs s si u f g h im kp kn wd ak ke cv vo so sz el) (s := s) (m := m) (img := img) (was := was) (num := num) (pro := pro) (ask := ask) (kp := kp) (kk := kk) (kf := kf) (so := so) (sz := sz) (el := el) (im := im) (pl := pl) (ra := ra) (re := re) (rm := rm) (rf := rf) (sd := sd) (th := sp_thrown kp sz a1 a2) (B := mp_J 1 (va_up out 0 (el (100 * a1 + a2))) :: C) rfl)
      rw [e0] at e ⊢
      exact e
    · unfold sp_element; rw [if_pos e0]; exact if_pos rfl
  · have ok2 := ok.keep (σ' := mp_hp n scr s si u m img was num pro ask kp kk kf so sz el wd ak ke cv vo f g h kn im pl ra re rm rf sd (sp_thrown kp sz a1 a2) out (C ++ [mp_X])) mp_hp_stay
    refine ⟨sp_thrown kp sz a1 a2, sp_element kp sz el a1 a2, mp_hp n scr s si u m img was num pro ask kp kk kf so sz el wd ak ke cv vo f g h kn im pl ra re rm rf sd th out (C ++ [mp_X]), _, congrArg (Prod.mk _) ?_, mp_mdl (zX12_element (A := [mp_S n scr] ++ _) rfl h6 h7 wa1 wa2), mp_mdl (zX12_thrown (A := [mp_S n scr] ++ _) rfl), mp_Inv.of rfl ok2, ⟨rfl, _, rfl⟩, tb, out, rfl, fun q => absurd q e0⟩
    unfold mp_hp
    simp only [List.append_assoc, List.cons_append]
