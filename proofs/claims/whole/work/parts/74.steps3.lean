/-! ===== statements that change the shelves ===== -/
theorem mp_Ok.shelves {σ σ' : mp_H} {s si img kp kk kf so sz el kp' kk' kf' so' sz' el' : Int → Int} {f g kn kn' : Nat → Option Nat} {im : Int} (h : mp_Ok σ s si img kp kk kf so sz el f g kn im) (hst : mp_stay σ σ') (h6 : ∀ d, 0 ≤ d → d ≤ 7 → mp_shf kp' kk' kf' so' sz' d) (h7 : ∀ x, mp_w (el' x)) (h8 : ∀ d, 0 ≤ d → d ≤ 7 → so' d = 0 → ∀ x, 0 ≤ x → x ≤ 99 → -128 ≤ el' (100 * d + x) ∧ el' (100 * d + x) ≤ 127)
    (h9 : ∀ d, 0 ≤ d → d ≤ 7 → kp' d = 1 → ∃ a, kn' (Int.toNat d) = some a ∧ σ'[a]? = some (mp_nw (kk' d) (kf' d))) : mp_Ok σ' s si img kp' kk' kf' so' sz' el' f g kn' im := by
  obtain ⟨g1, g2, g3, g4, g5, g6, g7, g8, g9⟩ := h.keep hst
  exact ⟨g1, g2, g3, g4, g5, h6, h7, h8, h9⟩
theorem mp_low_w {o v : Int} (ho : 0 ≤ o ∧ o ≤ 2) (hv : mp_w v) : mp_w (sp_low o v) ∧ (o = 0 → -128 ≤ sp_low o v ∧ sp_low o v ≤ 127) := by
  unfold sp_low
  have b1 := @Int.le_bmod v 256 (by decide)
  have b2 := @Int.bmod_lt v 256 (by decide)
  have b3 := @Int.le_bmod v 65536 (by decide)
  have b4 := @Int.bmod_lt v 65536 (by decide)
  by_cases h : o = 0
  · rw [if_pos h]; exact ⟨⟨by omega, by omega⟩, fun _ => ⟨by omega, by omega⟩⟩
  · rw [if_neg h]
    refine ⟨?_, fun q => absurd q h⟩
    by_cases h2 : o = 1
    · rw [if_pos h2]; exact ⟨by omega, by omega⟩
    · rw [if_neg h2]; exact hv
theorem st_put {n : Nat} {scr : Nat → Int} {σ : mp_H} {a1 a2 a3 : Int} (wa1 : mp_w a1) (wa2 : mp_w a2) (wa3 : mp_w a3) (h0 : mp_Inv n scr σ) : mp_Step n scr (mX11_put, 2, 0, 0) (mX12_put, 3, 0, 0) mp_i [mp_i a1, mp_i a2, mp_i a3] σ := by
  obtain ⟨s, si, u, m, img, was, num, pro, ask, kp, kk, kf, so, sz, el, wd, ak, ke, cv, vo, f, g, h, kn, im, pl, ra, re, rm, rf, sd, th, out, C, rfl, h1, h2, h3, h4, h5, h6, h7, h8, h9⟩ := h0
  have ok : mp_Ok _ s si img kp kk kf so sz el f g kn im := ⟨h1, h2, h3, h4, h5, h6, h7, h8, h9⟩
  refine ⟨_, _, _, zX11_put (A := [mp_S n scr]) rfl h6 wa1 wa2 wa3, mp_mdl (zX12_put (A := [mp_S n scr] ++ _) rfl h6 wa1 wa2 wa3), mp_Inv.of rfl ?_, rfl, _, rfl⟩
  by_cases hd : 0 ≤ a1 ∧ a1 ≤ 7
  · have hsh := h6 a1 hd.1 hd.2
    by_cases hr : kp a1 = 2
    · by_cases hi : 0 ≤ a2 ∧ a2 < sz a1
      · rw [sp_put_ok hd hr hi]
        have hlw := mp_low_w (v := a3) hsh.2.2.1 wa3
        have k := ok.keep (σ' := mp_hp n scr s si u m img was num pro ask kp kk kf so sz (mp_ud el (100 * a1 + a2) (sp_low (so a1) a3)) wd ak ke cv vo f g h kn im pl ra re rm rf sd th out C) mp_hp_stay0
        refine k.shelves mp_stay.rf h6 (fun x => ?_) (fun d d0 d1 ds x x0 x1 => ?_) k.2.2.2.2.2.2.2.2
        all_goals (try dsimp only at *)
        · by_cases e : x = 100 * a1 + a2
          · rw [e, mp_ud_eq]; exact hlw.1
          · rw [mp_udn e]; exact h7 x
        · by_cases e : 100 * d + x = 100 * a1 + a2
          · have e2 : d = a1 := by omega
            subst e2
            rw [e, mp_ud_eq]; exact hlw.2 ds
          · rw [mp_udn e]; exact h8 d d0 d1 ds x x0 x1
      · rw [sp_put_out hd hr hi]; exact ok.keep mp_hp_stay0
    · rw [sp_put_no hd hr]; exact ok.keep mp_hp_stay0
  · rw [sp_put_bad hd]; exact ok.keep mp_hp_stay0
theorem st_copy {n : Nat} {scr : Nat → Int} {σ : mp_H} {a1 a2 a3 a4 a5 : Int} (wa1 : mp_w a1) (wa2 : mp_w a2) (wa3 : mp_w a3) (wa4 : mp_w a4) (wa5 : mp_w a5) (h0 : mp_Inv n scr σ) : mp_Step n scr (mX11_copy, 1, 0, 0) (mX12_copy, 2, 0, 0) mp_i [mp_i a1, mp_i a2, mp_i a3, mp_i a4, mp_i a5] σ := by
  obtain ⟨s, si, u, m, img, was, num, pro, ask, kp, kk, kf, so, sz, el, wd, ak, ke, cv, vo, f, g, h, kn, im, pl, ra, re, rm, rf, sd, th, out, C, rfl, h1, h2, h3, h4, h5, h6, h7, h8, h9⟩ := h0
  have ok : mp_Ok _ s si img kp kk kf so sz el f g kn im := ⟨h1, h2, h3, h4, h5, h6, h7, h8, h9⟩
  refine ⟨_, _, _, zX11_copy (A := [mp_S n scr]) rfl h6 wa1 wa2 wa3 wa4 wa5, mp_mdl (zX12_copy (A := [mp_S n scr] ++ _) rfl h6 wa1 wa2 wa3 wa4 wa5), mp_Inv.of rfl ?_, rfl, _, rfl⟩
  by_cases hd : ¬ (0 ≤ a1 ∧ a1 ≤ 7) ∨ ¬ (0 ≤ a3 ∧ a3 ≤ 7)
  · rw [sp_copy_bad hd]; exact ok.keep mp_hp_stay0
  · by_cases hk : kp a1 = 0 ∨ kp a3 = 0
    · rw [sp_copy_no (by omega) hk]; exact ok.keep mp_hp_stay0
    · by_cases hs : kp a1 ≠ 2 ∨ kp a3 ≠ 2 ∨ so a1 ≠ so a3
      · rw [sp_copy_12 (by omega) hk hs]; exact ok.keep mp_hp_stay0
      · by_cases hp : a5 < 0 ∨ a2 < 0 ∨ a4 < 0 ∨ sz a1 - a2 < a5 ∨ sz a3 - a4 < a5
        · rw [sp_copy_13 (by omega) (by omega) hp]; exact ok.keep mp_hp_stay0
        · rw [sp_copy_ok (by omega) (by omega) hp]
          have hsa := h6 a1 (by omega) (by omega)
          have hsb := h6 a3 (by omega) (by omega)
          have k := ok.keep (σ' := mp_hp n scr s si u m img was num pro ask kp kk kf so sz (sp_cpy el (100 * a1 + a2) (100 * a3 + a4) a5) wd ak ke cv vo f g h kn im pl ra re rm rf sd th out C) mp_hp_stay0
          refine k.shelves mp_stay.rf h6 (fun x => ?_) (fun d d0 d1 ds x x0 x1 => ?_) k.2.2.2.2.2.2.2.2
          all_goals (try dsimp only at *)
          · unfold sp_cpy
            split
            · exact h7 _
            · exact h7 _
          · unfold sp_cpy
            by_cases e : 100 * a3 + a4 ≤ 100 * d + x ∧ 100 * d + x < 100 * a3 + a4 + a5
            · rw [if_pos e]
              have e2 : d = a3 := by omega
              subst e2
              have e3 := h8 a1 (by omega) (by omega) (by omega) (a2 + (100 * d + x - (100 * d + a4))) (by omega) (by omega)
              rw [show 100 * a1 + (a2 + (100 * d + x - (100 * d + a4))) = 100 * a1 + a2 + (100 * d + x - (100 * d + a4)) by omega] at e3
              exact e3
            · rw [if_neg e]; exact h8 d d0 d1 ds x x0 x1
theorem st_row {n : Nat} {scr : Nat → Int} {σ : mp_H} {a1 a2 a3 : Int} (wa1 : mp_w a1) (wa2 : mp_w a2) (wa3 : mp_w a3) (h0 : mp_Inv n scr σ) : mp_Step n scr (mX11_row, 2, 0, 0) (mX12_row, 2, 0, 0) mp_i [mp_i a1, mp_i a2, mp_i a3] σ := by
  obtain ⟨s, si, u, m, img, was, num, pro, ask, kp, kk, kf, so, sz, el, wd, ak, ke, cv, vo, f, g, h, kn, im, pl, ra, re, rm, rf, sd, th, out, C, rfl, h1, h2, h3, h4, h5, h6, h7, h8, h9⟩ := h0
  have ok : mp_Ok _ s si img kp kk kf so sz el f g kn im := ⟨h1, h2, h3, h4, h5, h6, h7, h8, h9⟩
  refine ⟨_, _, _, zX11_row (A := [mp_S n scr]) rfl h6 wa1 wa2 wa3, mp_mdl (zX12_row (A := [mp_S n scr] ++ _) rfl wa1 wa2 wa3), mp_Inv.of rfl ?_, rfl, _, rfl⟩
  by_cases hb : ¬ (0 ≤ a1 ∧ a1 ≤ 7) ∨ ¬ (0 ≤ a2 ∧ a2 ≤ 2) ∨ 100 < a3
  · rw [sp_row_bad hb]; exact ok.keep mp_hp_stay0
  · by_cases hn : a3 < 0
    · rw [sp_row_less (by omega)]; exact ok.keep mp_hp_stay0
    · rw [sp_row_ok (by omega)]
      have k := ok.keep (σ' := mp_hp n scr s si u m img was num pro ask (mp_ud kp a1 2) kk kf (mp_ud so a1 a2) (mp_ud sz a1 a3) (sp_zero el a1) wd ak ke cv vo f g h kn im pl ra re rm rf sd th out C) mp_hp_stay0
      refine k.shelves mp_stay.rf (fun d d0 d1 => ?_) (fun x => ?_) (fun d d0 d1 ds x x0 x1 => ?_) (fun d d0 d1 hk => ?_)
      all_goals (try dsimp only at *)
      · have hsh := h6 d d0 d1
        by_cases e : d = a1
        · subst e
          show (0 ≤ mp_ud kp d 2 d ∧ mp_ud kp d 2 d ≤ 2) ∧ (mp_ud kp d 2 d = 1 → _) ∧ (0 ≤ mp_ud so d a2 d ∧ mp_ud so d a2 d ≤ 2) ∧ (0 ≤ mp_ud sz d a3 d ∧ mp_ud sz d a3 d ≤ 100)
          rw [mp_ud_eq, mp_ud_eq, mp_ud_eq]
          exact ⟨by omega, fun q => absurd q (by decide), by omega, by omega⟩
        · show (0 ≤ mp_ud kp a1 2 d ∧ mp_ud kp a1 2 d ≤ 2) ∧ (mp_ud kp a1 2 d = 1 → _) ∧ (0 ≤ mp_ud so a1 a2 d ∧ mp_ud so a1 a2 d ≤ 2) ∧ (0 ≤ mp_ud sz a1 a3 d ∧ mp_ud sz a1 a3 d ≤ 100)
          rw [mp_udn e, mp_udn e, mp_udn e]
          exact hsh
      · rw [sp_zero_eq]
        split
        · exact ⟨by decide, by decide⟩
        · exact h7 x
      · rw [sp_zero_eq]
        by_cases e : 100 * a1 ≤ 100 * d + x ∧ 100 * d + x < 100 * a1 + 100
        · rw [if_pos e]; exact ⟨by decide, by decide⟩
        · rw [if_neg e]
          rw [mp_udn (by omega)] at ds
          exact h8 d d0 d1 ds x x0 x1
      · by_cases e : d = a1
        · subst e; rw [mp_ud_eq] at hk; omega
        · rw [mp_udn e] at hk
          exact k.2.2.2.2.2.2.2.2 d d0 d1 hk
theorem st_laws {n : Nat} {scr : Nat → Int} {σ : mp_H} {a1 a2 a3 : Int} (wa1 : mp_w a1) (wa2 : mp_w a2) (wa3 : mp_w a3) (h0 : mp_Inv n scr σ) : mp_Step n scr (mX11_laws, 5, 8, 56) (mX12_laws, 3, 0, 0) mp_i [mp_i a1, mp_i a2, mp_i a3] σ := by
  obtain ⟨s, si, u, m, img, was, num, pro, ask, kp, kk, kf, so, sz, el, wd, ak, ke, cv, vo, f, g, h, kn, im, pl, ra, re, rm, rf, sd, th, out, C, rfl, h1, h2, h3, h4, h5, h6, h7, h8, h9⟩ := h0
  have ok : mp_Ok _ s si img kp kk kf so sz el f g kn im := ⟨h1, h2, h3, h4, h5, h6, h7, h8, h9⟩
  have hc := zX11_laws (A := [mp_S n scr]) (s := s) (si := si) (sp := u) (f := f) (fi := g) (fp := h) (im := im) (kn := kn) (wd := wd) (ak := ak) (ke := ke) (cv := cv) (vo := vo) (B := mp_ms s m img was num pro ask kp kk kf so sz el im pl ra re rm rf sd th ++ (mp_J 1 out :: C)) rfl h6 h7 wa1 wa2 wa3
  by_cases hq : ((0 ≤ a1 ∧ a1 ≤ 7) ∧ (0 ≤ a2 ∧ a2 ≤ 9) ∧ (0 ≤ a3 ∧ a3 ≤ 1)) ∧ kp a1 = 2 ∧ sz a1 % 2 = 0
  · rw [if_pos hq] at hc
    exact ⟨_, _, _, hc, mp_mdlC (zX12_laws (A := [mp_S n scr] ++ _) rfl h6 h7 wa1 wa2 wa3), mp_Inv.of rfl (ok.keep mp_hp_stay), rfl, _, rfl⟩
  · rw [if_neg hq] at hc
    exact ⟨_, _, _, hc, mp_mdl (zX12_laws (A := [mp_S n scr] ++ _) rfl h6 h7 wa1 wa2 wa3), mp_Inv.of rfl (ok.keep mp_hp_stay0), rfl, _, rfl⟩
