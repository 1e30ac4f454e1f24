/-! ===== statements that change nothing that matters ===== -/
theorem st_meteor {n : Nat} {scr : Nat → Int} {σ : mp_H} {a1 : Int} {a2 : Int} (wa1 : mp_w a1) (wa2 : mp_w a2) (h0 : mp_Inv n scr σ) : mp_Step n scr (mX11_meteor, 3, 0, 0) (mX12_meteor, 3, 0, 0) mp_i [mp_i a1, mp_i a2] σ := by
  obtain ⟨s, si, u, m, img, was, num, pro, ask, kp, kk, kf, so, sz, el, wd, ak, ke, cv, vo, f, g, h, kn, im, pl, ra, re, rm, rf, sd, th, out, C, rfl, h1, h2, h3, h4, h5, h6, h7, h8, h9⟩ := h0
  have ok : mp_Ok _ s si img kp kk kf so sz el f g kn im := ⟨h1, h2, h3, h4, h5, h6, h7, h8, h9⟩
  exact ⟨_, _, _, zX11_meteor (A := [mp_S n scr]) rfl h1 h2 wa1 wa2, mp_mdl (zX12_meteor (A := [mp_S n scr] ++ _) rfl h1 wa1 wa2), mp_Inv.of rfl (ok.keep mp_hp_stay0), rfl, _, rfl⟩
theorem st_looker {n : Nat} {scr : Nat → Int} {σ : mp_H} {a1 : Int} {a2 : Int} (wa1 : mp_w a1) (wa2 : mp_w a2) (h0 : mp_Inv n scr σ) : mp_Step n scr (mX11_looker, 1, 0, 0) (mX12_looker, 2, 0, 0) mp_i [mp_i a1, mp_i a2] σ := by
  obtain ⟨s, si, u, m, img, was, num, pro, ask, kp, kk, kf, so, sz, el, wd, ak, ke, cv, vo, f, g, h, kn, im, pl, ra, re, rm, rf, sd, th, out, C, rfl, h1, h2, h3, h4, h5, h6, h7, h8, h9⟩ := h0
  have ok : mp_Ok _ s si img kp kk kf so sz el f g kn im := ⟨h1, h2, h3, h4, h5, h6, h7, h8, h9⟩
  exact ⟨_, _, _, zX11_looker (A := [mp_S n scr]) rfl h1 h2 wa1 wa2, mp_mdl (zX12_looker (A := [mp_S n scr] ++ _) rfl h1 wa1 wa2), mp_Inv.of rfl (ok.keep mp_hp_stay0), rfl, _, rfl⟩
theorem st_seen {n : Nat} {scr : Nat → Int} {σ : mp_H} {a1 : Int} {a2 : Int} {a3 : Int} (wa1 : mp_w a1) (wa2 : mp_w a2) (wa3 : mp_w a3) (h0 : mp_Inv n scr σ) : mp_Step n scr (mX11_seen, 3, 0, 0) (mX12_seen, 4, 0, 0) mp_i [mp_i a1, mp_i a2, mp_i a3] σ := by
  obtain ⟨s, si, u, m, img, was, num, pro, ask, kp, kk, kf, so, sz, el, wd, ak, ke, cv, vo, f, g, h, kn, im, pl, ra, re, rm, rf, sd, th, out, C, rfl, h1, h2, h3, h4, h5, h6, h7, h8, h9⟩ := h0
  have ok : mp_Ok _ s si img kp kk kf so sz el f g kn im := ⟨h1, h2, h3, h4, h5, h6, h7, h8, h9⟩
  exact ⟨_, _, _, zX11_seen (A := [mp_S n scr]) rfl h1 h2 wa1 wa2 wa3, mp_mdl (zX12_seen (A := [mp_S n scr] ++ _) rfl h1 wa1 wa2 wa3), mp_Inv.of rfl (ok.keep mp_hp_stay0), rfl, _, rfl⟩
theorem st_taker {n : Nat} {scr : Nat → Int} {σ : mp_H} {a1 : Int} (wa1 : mp_w a1) (h0 : mp_Inv n scr σ) : mp_Step n scr (mX11_taker, 4, 0, 0) (mX12_taker, 5, 0, 0) mp_i [mp_i a1] σ := by
  obtain ⟨s, si, u, m, img, was, num, pro, ask, kp, kk, kf, so, sz, el, wd, ak, ke, cv, vo, f, g, h, kn, im, pl, ra, re, rm, rf, sd, th, out, C, rfl, h1, h2, h3, h4, h5, h6, h7, h8, h9⟩ := h0
  have ok : mp_Ok _ s si img kp kk kf so sz el f g kn im := ⟨h1, h2, h3, h4, h5, h6, h7, h8, h9⟩
  exact ⟨_, _, _, zX11_taker (A := [mp_S n scr]) rfl h1 h2 wa1, mp_mdl (zX12_taker (A := [mp_S n scr] ++ _) rfl h1 wa1), mp_Inv.of rfl (ok.keep mp_hp_stay0), rfl, _, rfl⟩
theorem st_unseen {n : Nat} {scr : Nat → Int} {σ : mp_H} (h0 : mp_Inv n scr σ) : mp_Step n scr (mX11_unseen, 3, 0, 0) (mX12_unseen, 3, 0, 0) mp_i [] σ := by
  obtain ⟨s, si, u, m, img, was, num, pro, ask, kp, kk, kf, so, sz, el, wd, ak, ke, cv, vo, f, g, h, kn, im, pl, ra, re, rm, rf, sd, th, out, C, rfl, h1, h2, h3, h4, h5, h6, h7, h8, h9⟩ := h0
  have ok : mp_Ok _ s si img kp kk kf so sz el f g kn im := ⟨h1, h2, h3, h4, h5, h6, h7, h8, h9⟩
  exact ⟨_, _, _, zX11_unseen (A := [mp_S n scr]) rfl h1 h2, mp_mdl (zX12_unseen (A := [mp_S n scr] ++ _) rfl h1), mp_Inv.of rfl (ok.keep mp_hp_stay0), rfl, _, rfl⟩
theorem st_mistakes {n : Nat} {scr : Nat → Int} {σ : mp_H} (h0 : mp_Inv n scr σ) : mp_Step n scr (mX11_mistakes, 2, 0, 0) (mX12_mistakes, 2, 0, 0) mp_i [] σ := by
  obtain ⟨s, si, u, m, img, was, num, pro, ask, kp, kk, kf, so, sz, el, wd, ak, ke, cv, vo, f, g, h, kn, im, pl, ra, re, rm, rf, sd, th, out, C, rfl, h1, h2, h3, h4, h5, h6, h7, h8, h9⟩ := h0
  have ok : mp_Ok _ s si img kp kk kf so sz el f g kn im := ⟨h1, h2, h3, h4, h5, h6, h7, h8, h9⟩
  exact ⟨_, _, _, zX11_mistakes (A := [mp_S n scr]) rfl h1 h2, mp_mdl (zX12_mistakes (A := [mp_S n scr] ++ _) rfl h1), mp_Inv.of rfl (ok.keep mp_hp_stay0), rfl, _, rfl⟩
theorem st_waiting {n : Nat} {scr : Nat → Int} {σ : mp_H} (h0 : mp_Inv n scr σ) : mp_Step n scr (mX11_waiting, 1, 0, 0) (mX12_waiting, 1, 0, 0) mp_i [] σ := by
  obtain ⟨s, si, u, m, img, was, num, pro, ask, kp, kk, kf, so, sz, el, wd, ak, ke, cv, vo, f, g, h, kn, im, pl, ra, re, rm, rf, sd, th, out, C, rfl, h1, h2, h3, h4, h5, h6, h7, h8, h9⟩ := h0
  have ok : mp_Ok _ s si img kp kk kf so sz el f g kn im := ⟨h1, h2, h3, h4, h5, h6, h7, h8, h9⟩
  exact ⟨_, _, _, zX11_waiting (A := [mp_S n scr]) rfl h1 h2, mp_mdl (zX12_waiting (A := [mp_S n scr] ++ _) rfl h1), mp_Inv.of rfl (ok.keep mp_hp_stay0), rfl, _, rfl⟩
theorem st_bestRoof {n : Nat} {scr : Nat → Int} {σ : mp_H} {a1 : Int} {a2 : Int} (wa1 : mp_w a1) (wa2 : mp_w a2) (h0 : mp_Inv n scr σ) : mp_Step n scr (mX11_bestRoof, 3, 0, 0) (mX12_bestRoof, 3, 0, 0) mp_i [mp_i a1, mp_i a2] σ := by
  obtain ⟨s, si, u, m, img, was, num, pro, ask, kp, kk, kf, so, sz, el, wd, ak, ke, cv, vo, f, g, h, kn, im, pl, ra, re, rm, rf, sd, th, out, C, rfl, h1, h2, h3, h4, h5, h6, h7, h8, h9⟩ := h0
  have ok : mp_Ok _ s si img kp kk kf so sz el f g kn im := ⟨h1, h2, h3, h4, h5, h6, h7, h8, h9⟩
  exact ⟨_, _, _, zX11_bestRoof (A := [mp_S n scr]) rfl h1 h2 wa1 wa2, mp_mdl (zX12_bestRoof (A := [mp_S n scr] ++ _) rfl h1 wa1 wa2), mp_Inv.of rfl (ok.keep mp_hp_stay0), rfl, _, rfl⟩
theorem st_comes {n : Nat} {scr : Nat → Int} {σ : mp_H} {a1 : Int} {a2 : Int} (wa1 : mp_w a1) (wa2 : mp_w a2) (h0 : mp_Inv n scr σ) : mp_Step n scr (mX11_comes, 3, 0, 0) (mX12_comes, 2, 0, 0) mp_i [mp_i a1, mp_i a2] σ := by
  obtain ⟨s, si, u, m, img, was, num, pro, ask, kp, kk, kf, so, sz, el, wd, ak, ke, cv, vo, f, g, h, kn, im, pl, ra, re, rm, rf, sd, th, out, C, rfl, h1, h2, h3, h4, h5, h6, h7, h8, h9⟩ := h0
  have ok : mp_Ok _ s si img kp kk kf so sz el f g kn im := ⟨h1, h2, h3, h4, h5, h6, h7, h8, h9⟩
  exact ⟨_, _, _, zX11_comes (A := [mp_S n scr]) rfl h1 h2 wa1 wa2, mp_mdl (zX12_comes (A := [mp_S n scr] ++ _) rfl h1 wa1 wa2), mp_Inv.of rfl (ok.keep mp_hp_stay0), rfl, _, rfl⟩
theorem st_together {n : Nat} {scr : Nat → Int} {σ : mp_H} {a1 : Int} {a2 : Int} (wa1 : mp_w a1) (wa2 : mp_w a2) (h0 : mp_Inv n scr σ) : mp_Step n scr (mX11_together, 3, 0, 0) (mX12_together, 2, 0, 0) mp_i [mp_i a1, mp_i a2] σ := by
  obtain ⟨s, si, u, m, img, was, num, pro, ask, kp, kk, kf, so, sz, el, wd, ak, ke, cv, vo, f, g, h, kn, im, pl, ra, re, rm, rf, sd, th, out, C, rfl, h1, h2, h3, h4, h5, h6, h7, h8, h9⟩ := h0
  have ok : mp_Ok _ s si img kp kk kf so sz el f g kn im := ⟨h1, h2, h3, h4, h5, h6, h7, h8, h9⟩
  exact ⟨_, _, _, zX11_together (A := [mp_S n scr]) rfl h1 h2 wa1 wa2, mp_mdl (zX12_together (A := [mp_S n scr] ++ _) rfl h1 wa1 wa2), mp_Inv.of rfl (ok.keep mp_hp_stay0), rfl, _, rfl⟩
theorem st_clouds {n : Nat} {scr : Nat → Int} {σ : mp_H} {a1 : Int} {a2 : Int} {a3 : Int} {a4 : Int} (wa1 : mp_w a1) (wa2 : mp_w a2) (wa3 : mp_w a3) (wa4 : mp_w a4) (h0 : mp_Inv n scr σ) : mp_Step n scr (mX11_clouds, 2, 0, 0) (mX12_clouds, 3, 0, 0) mp_l [mp_i a1, mp_i a2, mp_i a3, mp_i a4] σ := by
  obtain ⟨s, si, u, m, img, was, num, pro, ask, kp, kk, kf, so, sz, el, wd, ak, ke, cv, vo, f, g, h, kn, im, pl, ra, re, rm, rf, sd, th, out, C, rfl, h1, h2, h3, h4, h5, h6, h7, h8, h9⟩ := h0
  have ok : mp_Ok _ s si img kp kk kf so sz el f g kn im := ⟨h1, h2, h3, h4, h5, h6, h7, h8, h9⟩
  exact ⟨_, _, _, zX11_clouds (A := [mp_S n scr]) rfl h1 h2 wa1 wa2 wa3 wa4, mp_mdl (zX12_clouds (A := [mp_S n scr] ++ _) rfl h1 wa1 wa2 wa3 wa4), mp_Inv.of rfl (ok.keep mp_hp_stay0), rfl, _, rfl⟩
theorem st_darkOnes {n : Nat} {scr : Nat → Int} {σ : mp_H} {a1 : Int} {a2 : Int} (wa1 : mp_w a1) (wa2 : mp_w a2) (h0 : mp_Inv n scr σ) : mp_Step n scr (mX11_darkOnes, 3, 0, 0) (mX12_darkOnes, 3, 0, 0) mp_i [mp_i a1, mp_i a2] σ := by
  obtain ⟨s, si, u, m, img, was, num, pro, ask, kp, kk, kf, so, sz, el, wd, ak, ke, cv, vo, f, g, h, kn, im, pl, ra, re, rm, rf, sd, th, out, C, rfl, h1, h2, h3, h4, h5, h6, h7, h8, h9⟩ := h0
  have ok : mp_Ok _ s si img kp kk kf so sz el f g kn im := ⟨h1, h2, h3, h4, h5, h6, h7, h8, h9⟩
  exact ⟨_, _, _, zX11_darkOnes (A := [mp_S n scr]) rfl h1 h2 h6 h7 wa1 wa2, mp_mdl (zX12_darkOnes (A := [mp_S n scr] ++ _) rfl h1 h6 h7 wa1 wa2), mp_Inv.of rfl (ok.keep mp_hp_stay0), rfl, _, rfl⟩
theorem st_scorched {n : Nat} {scr : Nat → Int} {σ : mp_H} {a1 : Int} (wa1 : mp_w a1) (h0 : mp_Inv n scr σ) : mp_Step n scr (mX11_scorched, 3, 0, 0) (mX12_scorched, 3, 0, 0) mp_i [mp_i a1] σ := by
  obtain ⟨s, si, u, m, img, was, num, pro, ask, kp, kk, kf, so, sz, el, wd, ak, ke, cv, vo, f, g, h, kn, im, pl, ra, re, rm, rf, sd, th, out, C, rfl, h1, h2, h3, h4, h5, h6, h7, h8, h9⟩ := h0
  have ok : mp_Ok _ s si img kp kk kf so sz el f g kn im := ⟨h1, h2, h3, h4, h5, h6, h7, h8, h9⟩
  exact ⟨_, _, _, zX11_scorched (A := [mp_S n scr]) rfl h1 h2 wa1, mp_mdl (zX12_scorched (A := [mp_S n scr] ++ _) rfl h1 wa1), mp_Inv.of rfl (ok.keep mp_hp_stay0), rfl, _, rfl⟩
theorem st_mean {n : Nat} {scr : Nat → Int} {σ : mp_H} {a1 : Int} (wa1 : mp_w a1) (h0 : mp_Inv n scr σ) : mp_Step n scr (mX11_mean, 4, 0, 0) (mX12_mean, 4, 0, 0) mp_l [mp_i a1] σ := by
  obtain ⟨s, si, u, m, img, was, num, pro, ask, kp, kk, kf, so, sz, el, wd, ak, ke, cv, vo, f, g, h, kn, im, pl, ra, re, rm, rf, sd, th, out, C, rfl, h1, h2, h3, h4, h5, h6, h7, h8, h9⟩ := h0
  have ok : mp_Ok _ s si img kp kk kf so sz el f g kn im := ⟨h1, h2, h3, h4, h5, h6, h7, h8, h9⟩
  exact ⟨_, _, _, zX11_mean (A := [mp_S n scr]) rfl h1 h2 wa1, mp_mdl (zX12_mean (A := [mp_S n scr] ++ _) rfl h1 wa1), mp_Inv.of rfl (ok.keep mp_hp_stay0), rfl, _, rfl⟩
theorem st_forged {n : Nat} {scr : Nat → Int} {σ : mp_H} {a1 : Int} (wa1 : mp_w a1) (h0 : mp_Inv n scr σ) : mp_Step n scr (mX11_forged, 4, 0, 0) (mX12_forged, 5, 0, 0) mp_i [mp_i a1] σ := by
  obtain ⟨s, si, u, m, img, was, num, pro, ask, kp, kk, kf, so, sz, el, wd, ak, ke, cv, vo, f, g, h, kn, im, pl, ra, re, rm, rf, sd, th, out, C, rfl, h1, h2, h3, h4, h5, h6, h7, h8, h9⟩ := h0
  have ok : mp_Ok _ s si img kp kk kf so sz el f g kn im := ⟨h1, h2, h3, h4, h5, h6, h7, h8, h9⟩
  exact ⟨_, _, _, zX11_forged (A := [mp_S n scr]) rfl h1 h2 h6 h7 wa1, mp_mdl (zX12_forged (A := [mp_S n scr] ++ _) rfl h1 h6 h7 wa1), mp_Inv.of rfl (ok.keep mp_hp_stay0), rfl, _, rfl⟩
theorem st_judge {n : Nat} {scr : Nat → Int} {σ : mp_H} {a1 : Int} {a2 : Int} (wa1 : mp_w a1) (wa2 : mp_w a2) (h0 : mp_Inv n scr σ) : mp_Step n scr (mX11_judge, 4, 0, 0) (mX12_judge, 3, 0, 0) mp_i [mp_i a1, mp_i a2] σ := by
  obtain ⟨s, si, u, m, img, was, num, pro, ask, kp, kk, kf, so, sz, el, wd, ak, ke, cv, vo, f, g, h, kn, im, pl, ra, re, rm, rf, sd, th, out, C, rfl, h1, h2, h3, h4, h5, h6, h7, h8, h9⟩ := h0
  have ok : mp_Ok _ s si img kp kk kf so sz el f g kn im := ⟨h1, h2, h3, h4, h5, h6, h7, h8, h9⟩
  exact ⟨_, _, _, zX11_judge (A := [mp_S n scr]) rfl h1 h2 h6 h7 wa1 wa2, mp_mdl (zX12_judge (A := [mp_S n scr] ++ _) rfl h1 h6 h7 wa1 wa2), mp_Inv.of rfl (ok.keep mp_hp_stay0), rfl, _, rfl⟩
theorem st_count {n : Nat} {scr : Nat → Int} {σ : mp_H} {a1 : Int} (wa1 : mp_w a1) (h0 : mp_Inv n scr σ) : mp_Step n scr (mX11_count, 4, 0, 0) (mX12_count, 4, 0, 0) mp_i [mp_i a1] σ := by
  obtain ⟨s, si, u, m, img, was, num, pro, ask, kp, kk, kf, so, sz, el, wd, ak, ke, cv, vo, f, g, h, kn, im, pl, ra, re, rm, rf, sd, th, out, C, rfl, h1, h2, h3, h4, h5, h6, h7, h8, h9⟩ := h0
  have ok : mp_Ok _ s si img kp kk kf so sz el f g kn im := ⟨h1, h2, h3, h4, h5, h6, h7, h8, h9⟩
  exact ⟨_, _, _, zX11_count (A := [mp_S n scr]) rfl h1 h2 wa1, mp_mdl (zX12_count (A := [mp_S n scr] ++ _) rfl h1 wa1), mp_Inv.of rfl (ok.keep mp_hp_stay0), rfl, _, rfl⟩
theorem st_cost {n : Nat} {scr : Nat → Int} {σ : mp_H} {a1 : Int} (wa1 : mp_w a1) (h0 : mp_Inv n scr σ) : mp_Step n scr (mX11_cost, 3, 0, 0) (mX12_cost, 3, 0, 0) mp_i [mp_i a1] σ := by
  obtain ⟨s, si, u, m, img, was, num, pro, ask, kp, kk, kf, so, sz, el, wd, ak, ke, cv, vo, f, g, h, kn, im, pl, ra, re, rm, rf, sd, th, out, C, rfl, h1, h2, h3, h4, h5, h6, h7, h8, h9⟩ := h0
  have ok : mp_Ok _ s si img kp kk kf so sz el f g kn im := ⟨h1, h2, h3, h4, h5, h6, h7, h8, h9⟩
  exact ⟨_, _, _, zX11_cost (A := [mp_S n scr]) rfl h6 h9 wa1, mp_mdl (zX12_cost (A := [mp_S n scr] ++ _) rfl h6 wa1), mp_Inv.of rfl (ok.keep mp_hp_stay0), rfl, _, rfl⟩
theorem st_august {n : Nat} {scr : Nat → Int} {σ : mp_H} {a1 : Int} (wa1 : mp_w a1) (h0 : mp_Inv n scr σ) : mp_Step n scr (mX11_august, 5, 0, 0) (mX12_august, 6, 0, 0) mp_i [mp_i a1] σ := by
  obtain ⟨s, si, u, m, img, was, num, pro, ask, kp, kk, kf, so, sz, el, wd, ak, ke, cv, vo, f, g, h, kn, im, pl, ra, re, rm, rf, sd, th, out, C, rfl, h1, h2, h3, h4, h5, h6, h7, h8, h9⟩ := h0
  have ok : mp_Ok _ s si img kp kk kf so sz el f g kn im := ⟨h1, h2, h3, h4, h5, h6, h7, h8, h9⟩
  exact ⟨_, _, _, zX11_august (A := [mp_S n scr]) rfl h1 h2 h3 wa1, mp_mdl (zX12_august (A := [mp_S n scr] ++ _) rfl h1 wa1), mp_Inv.of rfl (ok.keep mp_hp_stay0), rfl, _, rfl⟩
theorem st_roofs {n : Nat} {scr : Nat → Int} {σ : mp_H} (h0 : mp_Inv n scr σ) : mp_Step n scr (mX11_roofs, 5, 0, 0) (mX12_roofs, 4, 0, 0) mp_i [] σ := by
  obtain ⟨s, si, u, m, img, was, num, pro, ask, kp, kk, kf, so, sz, el, wd, ak, ke, cv, vo, f, g, h, kn, im, pl, ra, re, rm, rf, sd, th, out, C, rfl, h1, h2, h3, h4, h5, h6, h7, h8, h9⟩ := h0
  have ok : mp_Ok _ s si img kp kk kf so sz el f g kn im := ⟨h1, h2, h3, h4, h5, h6, h7, h8, h9⟩
  exact ⟨_, _, _, zX11_roofs (A := [mp_S n scr]) rfl h1 h2, mp_mdl (zX12_roofs (A := [mp_S n scr] ++ _) rfl h1), mp_Inv.of rfl (ok.keep mp_hp_stay0), rfl, _, rfl⟩
theorem st_wed {n : Nat} {scr : Nat → Int} {σ : mp_H} {a1 : Int} (wa1 : mp_w a1) (h0 : mp_Inv n scr σ) : mp_Step n scr (mX11_wed, 5, 0, 0) (mX12_wed, 6, 0, 0) mp_i [mp_i a1] σ := by
  obtain ⟨s, si, u, m, img, was, num, pro, ask, kp, kk, kf, so, sz, el, wd, ak, ke, cv, vo, f, g, h, kn, im, pl, ra, re, rm, rf, sd, th, out, C, rfl, h1, h2, h3, h4, h5, h6, h7, h8, h9⟩ := h0
  have ok : mp_Ok _ s si img kp kk kf so sz el f g kn im := ⟨h1, h2, h3, h4, h5, h6, h7, h8, h9⟩
  exact ⟨_, _, _, zX11_wed (A := [mp_S n scr]) rfl h1 h2 wa1, mp_mdl (zX12_wed (A := [mp_S n scr] ++ _) rfl h1 wa1), mp_Inv.of rfl (ok.keep mp_hp_stay0), rfl, _, rfl⟩
theorem st_rings {n : Nat} {scr : Nat → Int} {σ : mp_H} {a1 : Int} (wa1 : mp_w a1) (h0 : mp_Inv n scr σ) : mp_Step n scr (mX11_rings, 7, 0, 0) (mX12_rings, 8, 0, 0) mp_i [mp_i a1] σ := by
  obtain ⟨s, si, u, m, img, was, num, pro, ask, kp, kk, kf, so, sz, el, wd, ak, ke, cv, vo, f, g, h, kn, im, pl, ra, re, rm, rf, sd, th, out, C, rfl, h1, h2, h3, h4, h5, h6, h7, h8, h9⟩ := h0
  have ok : mp_Ok _ s si img kp kk kf so sz el f g kn im := ⟨h1, h2, h3, h4, h5, h6, h7, h8, h9⟩
  exact ⟨_, _, _, zX11_rings (A := [mp_S n scr]) rfl h1 h2 wa1, mp_mdl (zX12_rings (A := [mp_S n scr] ++ _) rfl h1 wa1), mp_Inv.of rfl (ok.keep mp_hp_stay0), rfl, _, rfl⟩
theorem st_curve {n : Nat} {scr : Nat → Int} {σ : mp_H} {a1 : Int} {a2 : Int} (wa1 : mp_w a1) (wa2 : mp_w a2) (h0 : mp_Inv n scr σ) : mp_Step n scr (mX11_curve, 3, 0, 0) (mX12_curve, 3, 0, 0) mp_i [mp_i a1, mp_i a2] σ := by
  obtain ⟨s, si, u, m, img, was, num, pro, ask, kp, kk, kf, so, sz, el, wd, ak, ke, cv, vo, f, g, h, kn, im, pl, ra, re, rm, rf, sd, th, out, C, rfl, h1, h2, h3, h4, h5, h6, h7, h8, h9⟩ := h0
  have ok : mp_Ok _ s si img kp kk kf so sz el f g kn im := ⟨h1, h2, h3, h4, h5, h6, h7, h8, h9⟩
  exact ⟨_, _, _, zX11_curve (A := [mp_S n scr]) rfl h1 h2 h6 h7 wa1 wa2, mp_mdl (zX12_curve (A := [mp_S n scr] ++ _) rfl h1 h6 h7 wa1 wa2), mp_Inv.of rfl (ok.keep mp_hp_stay0), rfl, _, rfl⟩
theorem st_game {n : Nat} {scr : Nat → Int} {σ : mp_H} {a1 : Int} {a2 : Int} {a3 : Int} {a4 : Int} (wa1 : mp_w a1) (wa2 : mp_w a2) (wa3 : mp_w a3) (wa4 : mp_w a4) (h0 : mp_Inv n scr σ) : mp_Step n scr (mX11_game, 3, 0, 0) (mX12_game, 3, 0, 0) mp_i [mp_i a1, mp_i a2, mp_i a3, mp_i a4] σ := by
  obtain ⟨s, si, u, m, img, was, num, pro, ask, kp, kk, kf, so, sz, el, wd, ak, ke, cv, vo, f, g, h, kn, im, pl, ra, re, rm, rf, sd, th, out, C, rfl, h1, h2, h3, h4, h5, h6, h7, h8, h9⟩ := h0
  have ok : mp_Ok _ s si img kp kk kf so sz el f g kn im := ⟨h1, h2, h3, h4, h5, h6, h7, h8, h9⟩
  exact ⟨_, _, _, zX11_game (A := [mp_S n scr]) rfl h1 h2 wa1 wa2 wa3 wa4, mp_mdl (zX12_game (A := [mp_S n scr] ++ _) rfl h1 wa1 wa2 wa3 wa4), mp_Inv.of rfl (ok.keep mp_hp_stay0), rfl, _, rfl⟩
theorem st_rowOfRoofs {n : Nat} {scr : Nat → Int} {σ : mp_H} {a1 : Int} (wa1 : mp_w a1) (h0 : mp_Inv n scr σ) : mp_Step n scr (mX11_rowOfRoofs, 5, 0, 0) (mX12_rowOfRoofs, 6, 0, 0) mp_i [mp_i a1] σ := by
  obtain ⟨s, si, u, m, img, was, num, pro, ask, kp, kk, kf, so, sz, el, wd, ak, ke, cv, vo, f, g, h, kn, im, pl, ra, re, rm, rf, sd, th, out, C, rfl, h1, h2, h3, h4, h5, h6, h7, h8, h9⟩ := h0
  have ok : mp_Ok _ s si img kp kk kf so sz el f g kn im := ⟨h1, h2, h3, h4, h5, h6, h7, h8, h9⟩
  exact ⟨_, _, _, zX11_rowOfRoofs (A := [mp_S n scr]) rfl h1 h2 h3 wa1, mp_mdl (zX12_rowOfRoofs (A := [mp_S n scr] ++ _) rfl h1 wa1), mp_Inv.of rfl (ok.keep mp_hp_stay0), rfl, _, rfl⟩
theorem st_augusts {n : Nat} {scr : Nat → Int} {σ : mp_H} {a1 : Int} {a2 : Int} {a3 : Int} (wa1 : mp_w a1) (wa2 : mp_w a2) (wa3 : mp_w a3) (h0 : mp_Inv n scr σ) : mp_Step n scr (mX11_augusts, 5, 0, 0) (mX12_augusts, 5, 0, 0) mp_i [mp_i a1, mp_i a2, mp_i a3] σ := by
  obtain ⟨s, si, u, m, img, was, num, pro, ask, kp, kk, kf, so, sz, el, wd, ak, ke, cv, vo, f, g, h, kn, im, pl, ra, re, rm, rf, sd, th, out, C, rfl, h1, h2, h3, h4, h5, h6, h7, h8, h9⟩ := h0
  have ok : mp_Ok _ s si img kp kk kf so sz el f g kn im := ⟨h1, h2, h3, h4, h5, h6, h7, h8, h9⟩
  exact ⟨_, _, _, zX11_augusts (A := [mp_S n scr]) (m := m) rfl h1 h2 h3 wa1 wa2 wa3, mp_mdl (zX12_augusts (A := [mp_S n scr] ++ _) rfl h1 wa1 wa2 wa3), mp_Inv.of rfl (ok.keep mp_hp_stay0), rfl, _, rfl⟩
