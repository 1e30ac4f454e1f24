/-! ===== keep, falls, sky ===== -/
theorem mp_hp_new {n : Nat} {scr : Nat → Int} {s si u m img was num pro ask kp kk kf so sz el wd ak ke cv vo : Int → Int} {f g h kn : Nat → Option Nat} {im pl ra re rm rf sd th : Int} {out : Nat → Int} {C : mp_H} {c : mp_C} {Z : Nat} (hZ : Z = 15 + C.length) : (mp_hp n scr s si u m img was num pro ask kp kk kf so sz el wd ak ke cv vo f g h kn im pl ra re rm rf sd th out (C ++ [c]))[44 + Z]? = some c := by
  subst hZ
  have e := mp_csNew (A := [mp_S n scr]) (s := s) (si := si) (sp := u) (f := f) (fi := g) (fp := h) (im := im) (hd := kp) (kn := kn) (wd := wd) (ak := ak) (ke := ke) (cv := cv) (vo := vo) (so := so) (sz := sz) (el := el) (B := mp_ms s m img was num pro ask kp kk kf so sz el im pl ra re rm rf sd th ++ (mp_J 1 out :: C)) (c := c) rfl
  rw [List.append_assoc, List.cons_append] at e
  have e2 : (mp_ms s m img was num pro ask kp kk kf so sz el im pl ra re rm rf sd th ++ (mp_J 1 out :: C)).length = 15 + C.length := by
    rw [List.length_append, List.length_cons]
    show 14 + (C.length + 1) = 15 + C.length
    omega
  rw [e2] at e
  exact e
theorem mp_msl {s m img was num pro ask kp kk kf so sz el : Int → Int} {im pl ra re rm rf sd th : Int} {out : Nat → Int} {C : mp_H} : (mp_ms s m img was num pro ask kp kk kf so sz el im pl ra re rm rf sd th ++ (mp_J 1 out :: C)).length = 15 + C.length := by
  rw [List.length_append, List.length_cons]
  show 14 + (C.length + 1) = 15 + C.length
  omega
theorem st_keep {n : Nat} {scr : Nat → Int} {σ : mp_H} {a1 a2 a3 a4 : Int} (wa1 : mp_w a1) (wa2 : mp_w a2) (wa3 : mp_w a3) (wa4 : mp_w a4) (h0 : mp_Inv n scr σ) : mp_Step n scr (mX11_keep, 5, 1, 7) (mX12_keep, 2, 0, 0) mp_i [mp_i a1, mp_i a2, mp_i a3, mp_i a4] σ := by
  obtain ⟨s, si, u, m, img, was, num, pro, ask, kp, kk, kf, so, sz, el, wd, ak, ke, cv, vo, f, g, h, kn, im, pl, ra, re, rm, rf, sd, th, out, C, rfl, h1, h2, h3, h4, h5, h6, h7, h8, h9⟩ := h0
  have ok : mp_Ok _ s si img kp kk kf so sz el f g kn im := ⟨h1, h2, h3, h4, h5, h6, h7, h8, h9⟩
  have hc := zX11_keep (A := [mp_S n scr]) (s := s) (si := si) (sp := u) (f := f) (fi := g) (fp := h) (im := im) (hd := kp) (kn := kn) (wd := wd) (ak := ak) (ke := ke) (cv := cv) (vo := vo) (so := so) (sz := sz) (el := el) (B := mp_ms s m img was num pro ask kp kk kf so sz el im pl ra re rm rf sd th ++ (mp_J 1 out :: C)) rfl h6 wa1 wa2 wa3 wa4
  by_cases hq : (0 ≤ a1 ∧ a1 ≤ 7) ∧ a2 = 1 ∧ (0 ≤ a3 ∧ a3 ≤ 7) ∧ (0 ≤ a4 ∧ a4 ≤ 9)
  · rw [if_pos hq, if_pos hq] at hc
    refine ⟨_, _, _, hc, mp_mdlC (zX12_keep (A := [mp_S n scr] ++ _) rfl wa1 wa2 wa3 wa4), mp_Inv.of rfl ?_, rfl, _, rfl⟩
    rw [sp_keep_1 hq]
    dsimp only
    have k := ok.keep (σ' := mp_hp n scr s si u m img was num pro ask (mp_ud kp a1 1) (mp_ud kk a1 a3) (mp_ud kf a1 a4) so sz el wd ak ke cv vo f g h (va_up kn (Int.toNat a1) (some (44 + List.length (mp_ms s m img was num pro ask kp kk kf so sz el im pl ra re rm rf sd th ++ (mp_J 1 out :: C))))) im pl ra re rm rf sd th out (C ++ [mp_nw a3 a4])) mp_hp_stay
    refine k.shelves mp_stay.rf (fun d d0 d1 => ?_) h7 h8 (fun d d0 d1 hk => ?_)
    · have hsh := h6 d d0 d1
      by_cases e : d = a1
      · subst e
        show (0 ≤ mp_ud kp d 1 d ∧ mp_ud kp d 1 d ≤ 2) ∧ (mp_ud kp d 1 d = 1 → (0 ≤ mp_ud kk d a3 d ∧ mp_ud kk d a3 d ≤ 7) ∧ (0 ≤ mp_ud kf d a4 d ∧ mp_ud kf d a4 d ≤ 9)) ∧ _
        rw [mp_ud_eq, mp_ud_eq, mp_ud_eq]
        exact ⟨by omega, fun _ => ⟨hq.2.2.1, hq.2.2.2⟩, hsh.2.2⟩
      · show (0 ≤ mp_ud kp a1 1 d ∧ mp_ud kp a1 1 d ≤ 2) ∧ (mp_ud kp a1 1 d = 1 → (0 ≤ mp_ud kk a1 a3 d ∧ mp_ud kk a1 a3 d ≤ 7) ∧ (0 ≤ mp_ud kf a1 a4 d ∧ mp_ud kf a1 a4 d ≤ 9)) ∧ _
        rw [mp_udn e, mp_udn e, mp_udn e]
        exact hsh
    · by_cases e : d = a1
      · subst e
        refine ⟨(44 + List.length (mp_ms s m img was num pro ask kp kk kf so sz el im pl ra re rm rf sd th ++ (mp_J 1 out :: C))), if_pos rfl, ?_⟩
        rw [mp_ud_eq, mp_ud_eq]
        exact mp_hp_new mp_msl
      · rw [mp_udn e] at hk
        obtain ⟨b, q1, q2⟩ := k.2.2.2.2.2.2.2.2 d d0 d1 hk
        refine ⟨b, ?_, ?_⟩
        · show (if Int.toNat d = Int.toNat a1 then _ else kn (Int.toNat d)) = _
          rw [if_neg (by omega)]; exact q1
        · rw [mp_udn e, mp_udn e]; exact q2
  · rw [if_neg hq, if_neg hq] at hc
    refine ⟨_, _, _, hc, mp_mdl (zX12_keep (A := [mp_S n scr] ++ _) rfl wa1 wa2 wa3 wa4), mp_Inv.of rfl ?_, rfl, _, rfl⟩
    by_cases hb : ¬ (0 ≤ a1 ∧ a1 ≤ 7) ∨ ¬ (0 ≤ a2 ∧ a2 ≤ 1) ∨ (a2 = 1 ∧ (¬ (0 ≤ a3 ∧ a3 ≤ 7) ∨ ¬ (0 ≤ a4 ∧ a4 ≤ 9)))
    · rw [sp_keep_bad hb]; exact ok.keep mp_hp_stay0
    · rw [sp_keep_0 (by omega) (by omega)]
      dsimp only
      have k := ok.keep (σ' := mp_hp n scr s si u m img was num pro ask (mp_ud kp a1 0) (mp_ud kk a1 a3) (mp_ud kf a1 a4) so sz el wd ak ke cv vo f g h kn im pl ra re rm rf sd th out C) mp_hp_stay0
      refine k.shelves mp_stay.rf (fun d d0 d1 => ?_) h7 h8 (fun d d0 d1 hk => ?_)
      · have hsh := h6 d d0 d1
        by_cases e : d = a1
        · subst e
          show (0 ≤ mp_ud kp d 0 d ∧ mp_ud kp d 0 d ≤ 2) ∧ (mp_ud kp d 0 d = 1 → _) ∧ _
          rw [mp_ud_eq]
          exact ⟨by omega, fun q => absurd q (by decide), hsh.2.2⟩
        · show (0 ≤ mp_ud kp a1 0 d ∧ mp_ud kp a1 0 d ≤ 2) ∧ (mp_ud kp a1 0 d = 1 → (0 ≤ mp_ud kk a1 a3 d ∧ mp_ud kk a1 a3 d ≤ 7) ∧ (0 ≤ mp_ud kf a1 a4 d ∧ mp_ud kf a1 a4 d ≤ 9)) ∧ _
          rw [mp_udn e, mp_udn e, mp_udn e]
          exact hsh
      · by_cases e : d = a1
        · subst e; rw [mp_ud_eq] at hk; omega
        · rw [mp_udn e] at hk
          rw [mp_udn e, mp_udn e]
          exact k.2.2.2.2.2.2.2.2 d d0 d1 hk
theorem st_falls {n : Nat} {scr : Nat → Int} {σ : mp_H} {a1 a2 a3 a4 : Int} (wa1 : mp_w a1) (wa2 : mp_w a2) (wa3 : mp_w a3) (wa4 : mp_w a4) (h0 : mp_Inv n scr σ) : mp_Step n scr (mX11_falls, 5, 1, 7) (mX12_falls, 3, 0, 0) mp_i [mp_i a1, mp_i a2, mp_i a3, mp_i a4] σ := by
  obtain ⟨s, si, u, m, img, was, num, pro, ask, kp, kk, kf, so, sz, el, wd, ak, ke, cv, vo, f, g, h, kn, im, pl, ra, re, rm, rf, sd, th, out, C, rfl, h1, h2, h3, h4, h5, h6, h7, h8, h9⟩ := h0
  have ok : mp_Ok _ s si img kp kk kf so sz el f g kn im := ⟨h1, h2, h3, h4, h5, h6, h7, h8, h9⟩
  have hc := zX11_falls (A := [mp_S n scr]) (s := s) (si := si) (sp := u) (f := f) (fi := g) (fp := h) (im := im) (hd := kp) (kn := kn) (wd := wd) (ak := ak) (ke := ke) (cv := cv) (vo := vo) (so := so) (sz := sz) (el := el) (B := mp_ms s m img was num pro ask kp kk kf so sz el im pl ra re rm rf sd th ++ (mp_J 1 out :: C)) rfl h1 h2 h6 h9 wa1 wa2 wa3 wa4
  by_cases hp : ((0 ≤ a1 ∧ a1 ≤ 7) ∧ (0 ≤ a2 ∧ a2 ≤ 15) ∧ (0 ≤ a3 ∧ a3 ≤ 4) ∧ (0 ≤ a4 ∧ a4 ≤ 30)) ∧ kp a1 = 1
  · have hsh := h6 a1 hp.1.1.1 hp.1.1.2
    have hkf := hsh.2.1 hp.2
    by_cases h80 : s 0 = 8
    · rw [if_neg (c := _ ∧ s 0 ≠ 8) (fun q => q.2 h80), if_pos hp] at hc
      refine ⟨_, _, _, hc, mp_mdlC (zX12_falls (A := [mp_S n scr] ++ _) rfl h1 h6 wa1 wa2 wa3 wa4), mp_Inv.of rfl ?_, rfl, _, rfl⟩
      rw [sp_falls_full hp.1 hp.2 h80]
      exact ok.keep mp_hp_stay
    · rw [if_pos (c := _ ∧ s 0 ≠ 8) ⟨hp, h80⟩, if_pos hp] at hc
      refine ⟨_, _, _, hc, mp_mdlC (zX12_falls (A := [mp_S n scr] ++ _) rfl h1 h6 wa1 wa2 wa3 wa4), mp_Inv.of rfl ?_, rfl, _, rfl⟩
      rw [sp_falls_ok hp.1 hp.2 h80]
      dsimp only
      have st9 : mp_stay (mp_hp n scr s si u m img was num pro ask kp kk kf so sz el wd ak ke cv vo f g h kn im pl ra re rm rf sd th out C) (mp_hp n scr (sp_adds s (kk a1) (kf a1) a2 a3 a4 9) si u m img was num pro ask kp kk kf so sz el wd ak ke cv vo (va_up f (Int.toNat (s 0)) (some (44 + List.length (mp_ms s m img was num pro ask kp kk kf so sz el im pl ra re rm rf sd th ++ (mp_J 1 out :: C))))) g h kn im pl ra re rm rf sd th out (C ++ [(mp_O (Int.toNat (kk a1)) [mp_i (kk a1), mp_i (kf a1), mp_i a2, mp_i a3, mp_i a4, mp_i (sp_lasts (kk a1) (kf a1)), mp_i (sp_bright (kk a1) (kf a1))])])) := mp_hp_stay
      obtain ⟨g1, g2, g3, g4⟩ := ok.keep st9
      have hz := h1.1
      have hnew := @mp_hp_new n scr (sp_adds s (kk a1) (kf a1) a2 a3 a4 9) si u m img was num pro ask kp kk kf so sz el wd ak ke cv vo (va_up f (Int.toNat (s 0)) (some (44 + List.length (mp_ms s m img was num pro ask kp kk kf so sz el im pl ra re rm rf sd th ++ (mp_J 1 out :: C))))) g h kn im pl ra re rm rf sd th out C (mp_O (Int.toNat (kk a1)) [mp_i (kk a1), mp_i (kf a1), mp_i a2, mp_i a3, mp_i a4, mp_i (sp_lasts (kk a1) (kf a1)), mp_i (sp_bright (kk a1) (kf a1))]) _ (mp_msl (s := s) (m := m) (img := img) (was := was) (num := num) (pro := pro) (ask := ask) (kp := kp) (kk := kk) (kf := kf) (so := so) (sz := sz) (el := el) (im := im) (pl := pl) (ra := ra) (re := re) (rm := rm) (rf := rf) (sd := sd) (th := th) (out := out) (C := C))
      exact ⟨mp_adds_sky h1 (by omega) hkf.1 hkf.2 hp.1.2.1 hp.1.2.2.1 hp.1.2.2.2 (Or.inr rfl), mp_Mt_add h1 h2 st9 hnew, mp_Mr_add h3 st9 (by omega) hnew, g4⟩
  · rw [if_neg (c := _ ∧ s 0 ≠ 8) (fun q => hp q.1), if_neg hp] at hc
    refine ⟨_, _, _, hc, mp_mdl (zX12_falls (A := [mp_S n scr] ++ _) rfl h1 h6 wa1 wa2 wa3 wa4), mp_Inv.of rfl ?_, rfl, _, rfl⟩
    have e : (sp_falls s kp kk kf a1 a2 a3 a4).2 = s := by
      by_cases hb : (0 ≤ a1 ∧ a1 ≤ 7) ∧ (0 ≤ a2 ∧ a2 ≤ 15) ∧ (0 ≤ a3 ∧ a3 ≤ 4) ∧ (0 ≤ a4 ∧ a4 ≤ 30)
      · rw [sp_falls_no hb (h6 a1 hb.1.1 hb.1.2).1 (fun q => hp ⟨hb, q⟩)]
      · rw [sp_falls_bad hb]
    rw [e]
    exact ok.keep mp_hp_stay0
theorem mp_sky_sky {s kp so sz el num : Int → Int} {pl d : Int} (hs : mp_sky s) : mp_sky (sp_sky s kp so sz el num pl d).2.1 := by
  unfold sp_sky
  by_cases h : sp_wrongRow kp so d 0 ≠ 0
  · rw [if_pos h]; exact hs
  · rw [if_neg h]
    unfold sp_skyT
    by_cases h9 : (sp_scan (sp_here el (100 * d) (sz d)) (sz d) ((sz d).toNat + 1) 0 0 num).1 ≠ 0
    · rw [if_pos h9]; exact hs
    · rw [if_neg h9]
      exact mp_does_sky _ _ s hs _ 0 s _ hs (mp_scan_good _ _ _ 0 0 num (Decidable.not_not.mp h9) (Int.le_refl _))
theorem mp_stay_mdl {n : Nat} {scr : Nat → Int} {cs C D : mp_H} {c : mp_C} {s m img was num pro ask kp kk kf so sz el : Int → Int} {im pl ra re rm rf sd th : Int} {s' m' img' was' num' pro' ask' kp' kk' kf' so' sz' el' : Int → Int} {im' pl' ra' re' rm' rf' sd' th' : Int} : mp_stay ([mp_S n scr] ++ (cs ++ ((mp_ms s m img was num pro ask kp kk kf so sz el im pl ra re rm rf sd th ++ (c :: C)) ++ D))) ([mp_S n scr] ++ (cs ++ (mp_ms s' m' img' was' num' pro' ask' kp' kk' kf' so' sz' el' im' pl' ra' re' rm' rf' sd' th' ++ (c :: (C ++ D))))) := by
  have e : mp_stay (([mp_S n scr] ++ cs) ++ (mp_ms s m img was num pro ask kp kk kf so sz el im pl ra re rm rf sd th ++ (c :: (C ++ D)))) (([mp_S n scr] ++ cs) ++ (mp_ms s' m' img' was' num' pro' ask' kp' kk' kf' so' sz' el' im' pl' ra' re' rm' rf' sd' th' ++ (c :: (C ++ D)))) := mp_stay.mid rfl mp_nm_ms
  rw [List.append_assoc [mp_S n scr] cs, List.append_assoc [mp_S n scr] cs] at e
  rw [List.append_assoc (mp_ms s m img was num pro ask kp kk kf so sz el im pl ra re rm rf sd th) (c :: C) D]
  exact e
theorem st_sky {n : Nat} {scr : Nat → Int} {σ : mp_H} {a1 : Int} (wa1 : mp_w a1) (h0 : mp_Inv n scr σ) : mp_Step n scr (mX11_sky, 9, 40, 280) (mX12_sky, 7, 0, 0) mp_i [mp_i a1] σ := by
  obtain ⟨s, si, u, m, img, was, num, pro, ask, kp, kk, kf, so, sz, el, wd, ak, ke, cv, vo, f, g, h, kn, im, pl, ra, re, rm, rf, sd, th, out, C, rfl, h1, h2, h3, h4, h5, h6, h7, h8, h9⟩ := h0
  have ok : mp_Ok _ s si img kp kk kf so sz el f g kn im := ⟨h1, h2, h3, h4, h5, h6, h7, h8, h9⟩
  obtain ⟨R9, ⟨u', f', h', E, rfl, hM, hR⟩, hc⟩ := zX11_sky (A := [mp_S n scr]) (s := s) (si := si) (sp := u) (f := f) (fi := g) (fp := h) (im := im) (hd := kp) (kn := kn) (wd := wd) (ak := ak) (ke := ke) (cv := cv) (vo := vo) (so := so) (sz := sz) (el := el) (B := mp_ms s m img was num pro ask kp kk kf so sz el im pl ra re rm rf sd th ++ (mp_J 1 out :: C)) (kk := kk) (kf := kf) (pl := pl) (num := num) rfl h6 h7 wa1 (fun d0 d1 ds => h8 a1 d0 d1 ds) h1 h2 h3
  refine ⟨_, _, _, hc, mp_mdlC (zX12_sky (A := [mp_S n scr] ++ _) rfl h1 h6 h7 wa1), mp_Inv.of rfl ?_, rfl, _, rfl⟩
  obtain ⟨g1, g2, g3, g4⟩ := ok.keep (σ' := mp_hp n scr (sp_sky s kp so sz el num pl a1).2.1 si u' m img (if sp_wrongRow kp so a1 0 ≠ 0 then was else s) (sp_sky s kp so sz el num pl a1).2.2.2 pro ask kp kk kf so sz el wd ak ke cv vo f' g h' kn im (sp_sky s kp so sz el num pl a1).2.2.1 (if sp_wrongRow kp so a1 0 ≠ 0 then ra else 100 * a1) (if sp_wrongRow kp so a1 0 ≠ 0 then re else sz a1) rm rf sd th out (C ++ E)) mp_hp_stay
  have hS := mp_sky_sky (kp := kp) (so := so) (sz := sz) (el := el) (num := num) (pl := pl) (d := a1) h1
  exact ⟨hS, hM.mono hS.kd mp_stay_mdl, hR.mono mp_stay_mdl, g4⟩
