/-! ===== statements that change the sky's looks, its image ===== -/
theorem mp_sky_meant {s : Int → Int} (hs : mp_sky s) {k l : Int} (hk : 0 ≤ k ∧ k < 8) (hl : (0 ≤ l ∧ l ≤ 4) ∨ l = 9) : mp_sky (mp_ud s (1 + 6 * k + 5) l) := by
  obtain ⟨h1, h2, h3, h4⟩ := hs
  have e : ∀ j, j ≠ 1 + 6 * k + 5 → mp_ud s (1 + 6 * k + 5) l j = s j := fun j h => if_neg h
  have e0 : mp_ud s (1 + 6 * k + 5) l 0 = s 0 := e 0 (by omega)
  refine ⟨by rw [e0]; exact h1, fun q hq1 hq2 => ?_, fun q hq1 hq2 => ?_, fun q q' a1 a2 a3 a4 => ?_⟩
  · rw [e0] at hq2
    have := h2 q hq1 hq2
    unfold mp_met
    rw [e (1 + 6 * q + 0) (by omega), e (1 + 6 * q + 1) (by omega), e (1 + 6 * q + 2) (by omega), e (1 + 6 * q + 3) (by omega), e (1 + 6 * q + 4) (by omega)]
    refine ⟨this.1, this.2.1, this.2.2.1, this.2.2.2.1, this.2.2.2.2.1, ?_⟩
    by_cases hq : q = k
    · subst hq; rw [mp_ud_eq]; exact hl
    · rw [e (1 + 6 * q + 5) (by omega)]; exact this.2.2.2.2.2
  · have := h3 q hq1 hq2
    unfold mp_lkr
    rw [e0, e (49 + 3 * q + 0) (by omega), e (49 + 3 * q + 1) (by omega), e (49 + 3 * q + 2) (by omega)]
    exact this
  · rw [e (49 + 3 * q + 2) (by omega), e (49 + 3 * q' + 2) (by omega)]
    exact h4 q q' a1 a2 a3 a4
abbrev mp_smS (s t : Int → Int) : Prop := mp_sky t ∧ t 0 = s 0 ∧ ∀ k, 0 ≤ k → k < s 0 → ∀ j, 0 ≤ j → j ≤ 4 → t (1 + 6 * k + j) = s (1 + 6 * k + j)
theorem mp_Ok.sk {σ σ' : mp_H} {s si img kp kk kf so sz el t : Int → Int} {f g kn : Nat → Option Nat} {im : Int} (h : mp_Ok σ s si img kp kk kf so sz el f g kn im) (hst : mp_stay σ σ') (h9 : mp_smS s t) : mp_Ok σ' t si img kp kk kf so sz el f g kn im := by
  obtain ⟨g1, g2, g3, g4⟩ := h.keep hst
  obtain ⟨e1, e2, e3⟩ := h9
  refine ⟨e1, fun k h0 h1 => ?_, g3, g4⟩
  rw [e2] at h1
  obtain ⟨a, q1, q2⟩ := g2 k h0 h1
  refine ⟨a, q1, ?_⟩
  unfold mp_mc
  rw [e3 k h0 h1 0 (by decide) (by decide), e3 k h0 h1 1 (by decide) (by decide), e3 k h0 h1 2 (by decide) (by decide), e3 k h0 h1 3 (by decide) (by decide), e3 k h0 h1 4 (by decide) (by decide)]
  exact q2
theorem mp_smS.rf {s : Int → Int} (hs : mp_sky s) : mp_smS s s := ⟨hs, rfl, fun _ _ _ _ _ _ => rfl⟩
theorem mp_sm_meant {s : Int → Int} {k l : Int} (hs : mp_sky s) : mp_smS s (sp_meant s k l).2 := by
  have h0 := hs.1
  unfold sp_meant
  by_cases h : ¬ (0 ≤ k ∧ k ≤ s 0 - 1) ∨ ¬ ((0 ≤ l ∧ l ≤ 4) ∨ l = 9)
  · rw [if_pos h]; exact mp_smS.rf hs
  · rw [if_neg h]
    exact ⟨mp_sky_meant hs (by omega) (by omega), if_neg (by omega), fun q _ _ j _ _ => if_neg (by omega)⟩
theorem mp_sm_looks {s : Int → Int} {l x y : Int} (hs : mp_sky s) : mp_smS s (sp_looks s l x y).2 := by
  have h0 := hs.1
  unfold sp_looks
  by_cases h : ¬ (0 ≤ l ∧ l ≤ 4) ∨ ¬ (0 ≤ x ∧ x ≤ 15) ∨ ¬ (0 ≤ y ∧ y ≤ 9)
  · rw [if_pos h]; exact mp_smS.rf hs
  · rw [if_neg h]
    exact ⟨mp_sky_looker (mp_sky_looker hs (w := 0) (by omega) (Or.inl ⟨rfl, by omega⟩)) (w := 1) (by omega) (Or.inr ⟨rfl, by omega⟩), (mp_udn (by omega)).trans (mp_udn (by omega)), fun q _ _ j _ _ => (mp_udn (by omega)).trans (mp_udn (by omega))⟩
theorem mp_sm_run {s : Int → Int} {w : Int} (hs : mp_sky s) : mp_smS s (sp_run s w).2 := by
  have h0 := hs.1
  unfold sp_run
  by_cases h : ¬ (0 ≤ w ∧ w ≤ 30)
  · rw [if_pos h]; exact mp_smS.rf hs
  · rw [if_neg h]
    exact ⟨(mp_runs_sky hs w).1, (mp_runs_sky hs w).2.1, fun q _ _ j _ _ => mp_runs_al (by omega)⟩
theorem mp_sm_free {s : Int → Int} {l : Int} (hs : mp_sky s) : mp_smS s (sp_free s l).2 := by
  have h0 := hs.1
  unfold sp_free
  by_cases h : ¬ (0 ≤ l ∧ l ≤ 4)
  · rw [if_pos h]; exact mp_smS.rf hs
  · rw [if_neg h]
    exact ⟨mp_sky_said hs (by omega) (Or.inr rfl) (Or.inl rfl), mp_udn (by omega), fun q _ _ j _ _ => mp_udn (by omega)⟩
theorem st_image {n : Nat} {scr : Nat → Int} {σ : mp_H} (h0 : mp_Inv n scr σ) : mp_Step n scr (mX11_image, 1, 0, 0) (mX12_image, 1, 0, 0) mp_i [] σ := by
  obtain ⟨s, si, u, m, img, was, num, pro, ask, kp, kk, kf, so, sz, el, wd, ak, ke, cv, vo, f, g, h, kn, im, pl, ra, re, rm, rf, sd, th, out, C, rfl, h1, h2, h3, h4, h5, h6, h7, h8, h9⟩ := h0
  have ok : mp_Ok _ s si img kp kk kf so sz el f g kn im := ⟨h1, h2, h3, h4, h5, h6, h7, h8, h9⟩
  refine ⟨_, _, _, zX11_image (A := [mp_S n scr]) rfl h1 h2 h3, mp_mdl (zX12_image (A := [mp_S n scr] ++ _) rfl h1), mp_Inv.of rfl ?_, rfl, _, rfl⟩
  obtain ⟨g1, g2, g3, g4, g5, g6⟩ := ok.keep (σ' := mp_hp n scr s s u m s was num pro ask kp kk kf so sz el wd ak ke cv vo f f h kn 1 pl ra re rm rf sd th out C) mp_hp_stay0
  exact ⟨g1, g2, g3, Or.inr rfl, fun _ => ⟨rfl, g1, g2, g3⟩, g6⟩
theorem st_restore {n : Nat} {scr : Nat → Int} {σ : mp_H} (h0 : mp_Inv n scr σ) : mp_Step n scr (mX11_restore, 1, 0, 0) (mX12_restore, 1, 0, 0) mp_i [] σ := by
  obtain ⟨s, si, u, m, img, was, num, pro, ask, kp, kk, kf, so, sz, el, wd, ak, ke, cv, vo, f, g, h, kn, im, pl, ra, re, rm, rf, sd, th, out, C, rfl, h1, h2, h3, h4, h5, h6, h7, h8, h9⟩ := h0
  have ok : mp_Ok _ s si img kp kk kf so sz el f g kn im := ⟨h1, h2, h3, h4, h5, h6, h7, h8, h9⟩
  rcases h4 with rfl | rfl
  · exact ⟨_, _, _, zX11_restoreN (A := [mp_S n scr]) rfl h1 h2 rfl, mp_mdl (zX12_restore (A := [mp_S n scr] ++ _) rfl h1 (Or.inl rfl) (Or.inl rfl)), mp_Inv.of rfl (ok.keep mp_hp_stay0), rfl, _, rfl⟩
  · obtain ⟨rfl, e2, e3, e4⟩ := h5 rfl
    refine ⟨_, _, _, zX11_restore (A := [mp_S n scr]) rfl h1 h2 rfl e4, mp_mdl (zX12_restore (A := [mp_S n scr] ++ _) rfl h1 (Or.inr e2) (Or.inr rfl)), mp_Inv.of rfl ?_, rfl, _, rfl⟩
    obtain ⟨g1, g2, g3, g4, g5, g6⟩ := ok.keep (σ' := mp_hp n scr si si u m si was num pro ask kp kk kf so sz el wd ak ke cv vo g g h kn 1 pl ra re rm rf sd th out C) mp_hp_stay0
    obtain ⟨-, f2, f3, f4⟩ := g5 rfl
    exact ⟨f2, f3, f4, g4, g5, g6⟩
theorem st_meant {n : Nat} {scr : Nat → Int} {σ : mp_H} {a1 : Int} {a2 : Int} (wa1 : mp_w a1) (wa2 : mp_w a2) (h0 : mp_Inv n scr σ) : mp_Step n scr (mX11_meant, 2, 0, 0) (mX12_meant, 3, 0, 0) mp_i [mp_i a1, mp_i a2] σ := by
  obtain ⟨s, si, u, m, img, was, num, pro, ask, kp, kk, kf, so, sz, el, wd, ak, ke, cv, vo, f, g, h, kn, im, pl, ra, re, rm, rf, sd, th, out, C, rfl, h1, h2, h3, h4, h5, h6, h7, h8, h9⟩ := h0
  have ok : mp_Ok _ s si img kp kk kf so sz el f g kn im := ⟨h1, h2, h3, h4, h5, h6, h7, h8, h9⟩
  exact ⟨_, _, _, zX11_meant (A := [mp_S n scr]) rfl h1 h2 wa1 wa2, mp_mdl (zX12_meant (A := [mp_S n scr] ++ _) rfl h1 wa1 wa2), mp_Inv.of rfl (ok.sk mp_hp_stay0 (mp_sm_meant h1)), rfl, _, rfl⟩
theorem st_looks {n : Nat} {scr : Nat → Int} {σ : mp_H} {a1 : Int} {a2 : Int} {a3 : Int} (wa1 : mp_w a1) (wa2 : mp_w a2) (wa3 : mp_w a3) (h0 : mp_Inv n scr σ) : mp_Step n scr (mX11_looks, 2, 0, 0) (mX12_looks, 2, 0, 0) mp_i [mp_i a1, mp_i a2, mp_i a3] σ := by
  obtain ⟨s, si, u, m, img, was, num, pro, ask, kp, kk, kf, so, sz, el, wd, ak, ke, cv, vo, f, g, h, kn, im, pl, ra, re, rm, rf, sd, th, out, C, rfl, h1, h2, h3, h4, h5, h6, h7, h8, h9⟩ := h0
  have ok : mp_Ok _ s si img kp kk kf so sz el f g kn im := ⟨h1, h2, h3, h4, h5, h6, h7, h8, h9⟩
  exact ⟨_, _, _, zX11_looks (A := [mp_S n scr]) rfl h1 h2 wa1 wa2 wa3, mp_mdl (zX12_looks (A := [mp_S n scr] ++ _) rfl h1 wa1 wa2 wa3), mp_Inv.of rfl (ok.sk mp_hp_stay0 (mp_sm_looks h1)), rfl, _, rfl⟩
theorem st_run {n : Nat} {scr : Nat → Int} {σ : mp_H} {a1 : Int} (wa1 : mp_w a1) (h0 : mp_Inv n scr σ) : mp_Step n scr (mX11_run, 5, 0, 0) (mX12_run, 6, 0, 0) mp_i [mp_i a1] σ := by
  obtain ⟨s, si, u, m, img, was, num, pro, ask, kp, kk, kf, so, sz, el, wd, ak, ke, cv, vo, f, g, h, kn, im, pl, ra, re, rm, rf, sd, th, out, C, rfl, h1, h2, h3, h4, h5, h6, h7, h8, h9⟩ := h0
  have ok : mp_Ok _ s si img kp kk kf so sz el f g kn im := ⟨h1, h2, h3, h4, h5, h6, h7, h8, h9⟩
  exact ⟨_, _, _, zX11_run (A := [mp_S n scr]) rfl h1 h2 wa1, mp_mdl (zX12_run (A := [mp_S n scr] ++ _) rfl h1 wa1), mp_Inv.of rfl (ok.sk mp_hp_stay0 (mp_sm_run h1)), rfl, _, rfl⟩
theorem st_free {n : Nat} {scr : Nat → Int} {σ : mp_H} {a1 : Int} (wa1 : mp_w a1) (h0 : mp_Inv n scr σ) : mp_Step n scr (mX11_free, 2, 0, 0) (mX12_free, 2, 0, 0) mp_i [mp_i a1] σ := by
  obtain ⟨s, si, u, m, img, was, num, pro, ask, kp, kk, kf, so, sz, el, wd, ak, ke, cv, vo, f, g, h, kn, im, pl, ra, re, rm, rf, sd, th, out, C, rfl, h1, h2, h3, h4, h5, h6, h7, h8, h9⟩ := h0
  have ok : mp_Ok _ s si img kp kk kf so sz el f g kn im := ⟨h1, h2, h3, h4, h5, h6, h7, h8, h9⟩
  exact ⟨_, _, _, zX11_free (A := [mp_S n scr]) rfl h1 h2 wa1, mp_mdl (zX12_free (A := [mp_S n scr] ++ _) rfl h1 wa1), mp_Inv.of rfl (ok.sk mp_hp_stay0 (mp_sm_free h1)), rfl, _, rfl⟩
