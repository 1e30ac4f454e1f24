/-! ===== the law: one statement after another ===== -/
section
variable {Y : mp_Y} {K : Nat × Nat} {pc nx : Nat} {L : List (Option Value)} {st : List Value} {σ : mp_H} {Q : mp_QX}
theorem mq_icmp_same {z : Int} {off : Int} {tgt : Nat} (hd : mp_dc Y.1 pc (.if_icmp .eq off) 3 nx) (ht : (pc : Int) + off = (tgt : Int)) (k : mp_AtX Y K tgt L st σ Q) : mp_AtX Y K pc L (mp_i z :: mp_i z :: st) σ Q := by
  obtain ⟨hd, rfl⟩ := hd
  intro G p l e Rm s m args below meth c C CT H locs ls hW hS hL
  exact lv_icmp_eq C.1 C.2.1 hd ht (fun _ => k G p l e Rm s m args below meth c C CT H locs ls hW hS hL) (fun h => absurd rfl h)
theorem mp_cmp0 {x : Int64} : lg_cmp x x = Int32.ofInt 0 := by unfold lg_cmp; simp
theorem mq_lcmp_same {z : Int} (hd : mp_dc Y.1 pc .lcmp 1 nx) (k : mp_AtX Y K nx L (mp_i 0 :: st) σ Q) : mp_AtX Y K pc L (mp_l z :: mp_l z :: st) σ Q := by
  refine mq_lcmp hd ?_
  rw [mp_cmp0]
  exact k
end
theorem mp_Inv.x {n : Nat} {scr : Nat → Int} {σ : mp_H} (h : mp_Inv n scr σ) : σ[0]? = some (mp_S n scr) ∧ (∃ fs, σ[1]? = some (mp_O 10 fs)) ∧ ∃ fs, σ[44]? = some (mp_O 11 fs) := by
  obtain ⟨_, _, _, _, _, _, _, _, _, _, _, _, _, _, _, _, _, _, _, _, _, _, _, _, _, _, _, _, _, _, _, _, _, _, rfl, _⟩ := h
  exact ⟨rfl, ⟨_, rfl⟩, _, rfl⟩
theorem cL_0 {n : Nat} {scr : Nat → Int} {σ : mp_H} {i : Int} {K : Nat × Nat} {Q : mp_QX} (hI : mp_Inv n scr σ) (hi : 0 ≤ i ∧ i + 6 ≤ n) (hn : n ≤ 3072) (hw : ∀ j, mp_w (scr j)) (hK : K.1 + 40 ≤ 601024 ∧ K.2 + 280 ≤ 7293034)
    (next : ∀ σ' K', mp_Inv n scr σ' → K'.1 ≤ K.1 + 40 → K'.2 ≤ K.2 + 280 → mp_AtX (mL_law, 10, 601024, 7293034) K' 1661 [some (Value.ref 0), some (Value.ref 1), some (Value.ref 44), some (Value.ref 58), some (mp_i i), none, none, none] [] σ' Q) : mp_AtX (mL_law, 10, 601024, 7293034) K 220 [some (Value.ref 0), some (Value.ref 1), some (Value.ref 44), some (Value.ref 58), some (mp_i i), none, none, none] [] σ Q := by
  obtain ⟨hs0, ⟨fs, hx⟩, -⟩ := hI.x
  refine mq_aload_n dL_law_220 rfl ?_
  refine mq_aload_n dL_law_221 rfl ?_
  refine mq_iload dL_law_222 rfl ?_
  refine mq_iconst dL_law_224 ?_
  refine mq_iadd (z := i + 1) dL_law_225 (by first | rfl | omega) ?_
  refine mq_saload (i := i + 1) (n := n) (f := scr) dL_law_226 hs0 ⟨by omega, by omega⟩ (by omega) ?_
  obtain ⟨z, σ1, σ2, hc, hm, hI2, hs1, fs1, hm1⟩ := st_sky (hw _) hI
  refine mq_invV (ci := 10) (z := (mX11_sky, 9, 40, 280)) (K' := (K.1 + 40, K.2 + 280)) (σ1 := σ1) (as := [mp_i (scr (Int.toNat (i + 1)))]) (st := []) (st1 := [mp_i z]) dL_law_227 svL_21 hx rfl rfl hc ⟨by decide, by decide, (show K.1 + 40 ≤ 601024 by omega), (show K.2 + 280 ≤ 7293034 by omega), Nat.le_of_ble_eq_true rfl⟩ rfl rfl rfl rfl ?_
  refine mq_aload_n dL_law_230 rfl ?_
  refine mq_aload_n dL_law_231 rfl ?_
  refine mq_iload dL_law_232 rfl ?_
  refine mq_iconst dL_law_234 ?_
  refine mq_iadd (z := i + 1) dL_law_235 (by first | rfl | omega) ?_
  refine mq_saload (i := i + 1) (n := n) (f := scr) dL_law_236 hs1 ⟨by omega, by omega⟩ (by omega) ?_
  refine mq_invV (ci := 11) (z := (mX12_sky, 7, 0, 0)) (K' := (K.1 + 40 + 0, K.2 + 280 + 0)) (σ1 := σ2) (as := [mp_i (scr (Int.toNat (i + 1)))]) (st := [mp_i z]) (st1 := [mp_i z, mp_i z]) dL_law_237 svL_25 hm1 rfl rfl hm ⟨by decide, by decide, (show K.1 + 40 + 0 ≤ 601024 by omega), (show K.2 + 280 + 0 ≤ 7293034 by omega), Nat.le_of_ble_eq_true rfl⟩ rfl rfl rfl rfl ?_
  refine mq_icmp_same (tgt := 1661) dL_law_240 rfl ?_
  exact next σ2 _ hI2 (by show K.1 + 40 + 0 ≤ K.1 + 40; omega) (by show K.2 + 280 + 0 ≤ K.2 + 280; omega)
theorem cL_1 {n : Nat} {scr : Nat → Int} {σ : mp_H} {i : Int} {K : Nat × Nat} {Q : mp_QX} (hI : mp_Inv n scr σ) (hi : 0 ≤ i ∧ i + 6 ≤ n) (hn : n ≤ 3072) (hw : ∀ j, mp_w (scr j)) (hK : K.1 + 40 ≤ 601024 ∧ K.2 + 280 ≤ 7293034)
    (next : ∀ σ' K', mp_Inv n scr σ' → K'.1 ≤ K.1 + 40 → K'.2 ≤ K.2 + 280 → mp_AtX (mL_law, 10, 601024, 7293034) K' 1661 [some (Value.ref 0), some (Value.ref 1), some (Value.ref 44), some (Value.ref 58), some (mp_i i), none, none, none] [] σ' Q) : mp_AtX (mL_law, 10, 601024, 7293034) K 245 [some (Value.ref 0), some (Value.ref 1), some (Value.ref 44), some (Value.ref 58), some (mp_i i), none, none, none] [] σ Q := by
  obtain ⟨hs0, ⟨fs, hx⟩, -⟩ := hI.x
  refine mq_aload_n dL_law_245 rfl ?_
  refine mq_aload_n dL_law_246 rfl ?_
  refine mq_iload dL_law_247 rfl ?_
  refine mq_iconst dL_law_249 ?_
  refine mq_iadd (z := i + 1) dL_law_250 (by first | rfl | omega) ?_
  refine mq_saload (i := i + 1) (n := n) (f := scr) dL_law_251 hs0 ⟨by omega, by omega⟩ (by omega) ?_
  refine mq_aload_n dL_law_252 rfl ?_
  refine mq_iload dL_law_253 rfl ?_
  refine mq_iconst dL_law_255 ?_
  refine mq_iadd (z := i + 2) dL_law_256 (by first | rfl | omega) ?_
  refine mq_saload (i := i + 2) (n := n) (f := scr) dL_law_257 hs0 ⟨by omega, by omega⟩ (by omega) ?_
  obtain ⟨z, σ1, σ2, hc, hm, hI2, hs1, fs1, hm1⟩ := st_meteor (hw _) (hw _) hI
  refine mq_invV (ci := 10) (z := (mX11_meteor, 3, 0, 0)) (K' := (K.1 + 0, K.2 + 0)) (σ1 := σ1) (as := [mp_i (scr (Int.toNat (i + 1))), mp_i (scr (Int.toNat (i + 2)))]) (st := []) (st1 := [mp_i z]) dL_law_258 svL_26 hx rfl rfl hc ⟨by decide, by decide, (show K.1 + 0 ≤ 601024 by omega), (show K.2 + 0 ≤ 7293034 by omega), Nat.le_of_ble_eq_true rfl⟩ rfl rfl rfl rfl ?_
  refine mq_aload_n dL_law_261 rfl ?_
  refine mq_aload_n dL_law_262 rfl ?_
  refine mq_iload dL_law_263 rfl ?_
  refine mq_iconst dL_law_265 ?_
  refine mq_iadd (z := i + 1) dL_law_266 (by first | rfl | omega) ?_
  refine mq_saload (i := i + 1) (n := n) (f := scr) dL_law_267 hs1 ⟨by omega, by omega⟩ (by omega) ?_
  refine mq_aload_n dL_law_268 rfl ?_
  refine mq_iload dL_law_269 rfl ?_
  refine mq_iconst dL_law_271 ?_
  refine mq_iadd (z := i + 2) dL_law_272 (by first | rfl | omega) ?_
  refine mq_saload (i := i + 2) (n := n) (f := scr) dL_law_273 hs1 ⟨by omega, by omega⟩ (by omega) ?_
  refine mq_invV (ci := 11) (z := (mX12_meteor, 3, 0, 0)) (K' := (K.1 + 0 + 0, K.2 + 0 + 0)) (σ1 := σ2) (as := [mp_i (scr (Int.toNat (i + 1))), mp_i (scr (Int.toNat (i + 2)))]) (st := [mp_i z]) (st1 := [mp_i z, mp_i z]) dL_law_274 svL_30 hm1 rfl rfl hm ⟨by decide, by decide, (show K.1 + 0 + 0 ≤ 601024 by omega), (show K.2 + 0 + 0 ≤ 7293034 by omega), Nat.le_of_ble_eq_true rfl⟩ rfl rfl rfl rfl ?_
  refine mq_icmp_same (tgt := 1661) dL_law_277 rfl ?_
  exact next σ2 _ hI2 (by show K.1 + 0 + 0 ≤ K.1 + 40; omega) (by show K.2 + 0 + 0 ≤ K.2 + 280; omega)
theorem cL_2 {n : Nat} {scr : Nat → Int} {σ : mp_H} {i : Int} {K : Nat × Nat} {Q : mp_QX} (hI : mp_Inv n scr σ) (hi : 0 ≤ i ∧ i + 6 ≤ n) (hn : n ≤ 3072) (hw : ∀ j, mp_w (scr j)) (hK : K.1 + 40 ≤ 601024 ∧ K.2 + 280 ≤ 7293034)
    (next : ∀ σ' K', mp_Inv n scr σ' → K'.1 ≤ K.1 + 40 → K'.2 ≤ K.2 + 280 → mp_AtX (mL_law, 10, 601024, 7293034) K' 1661 [some (Value.ref 0), some (Value.ref 1), some (Value.ref 44), some (Value.ref 58), some (mp_i i), none, none, none] [] σ' Q) : mp_AtX (mL_law, 10, 601024, 7293034) K 282 [some (Value.ref 0), some (Value.ref 1), some (Value.ref 44), some (Value.ref 58), some (mp_i i), none, none, none] [] σ Q := by
  obtain ⟨hs0, ⟨fs, hx⟩, -⟩ := hI.x
  refine mq_aload_n dL_law_282 rfl ?_
  refine mq_aload_n dL_law_283 rfl ?_
  refine mq_iload dL_law_284 rfl ?_
  refine mq_iconst dL_law_286 ?_
  refine mq_iadd (z := i + 1) dL_law_287 (by first | rfl | omega) ?_
  refine mq_saload (i := i + 1) (n := n) (f := scr) dL_law_288 hs0 ⟨by omega, by omega⟩ (by omega) ?_
  refine mq_aload_n dL_law_289 rfl ?_
  refine mq_iload dL_law_290 rfl ?_
  refine mq_iconst dL_law_292 ?_
  refine mq_iadd (z := i + 2) dL_law_293 (by first | rfl | omega) ?_
  refine mq_saload (i := i + 2) (n := n) (f := scr) dL_law_294 hs0 ⟨by omega, by omega⟩ (by omega) ?_
  obtain ⟨z, σ1, σ2, hc, hm, hI2, hs1, fs1, hm1⟩ := st_looker (hw _) (hw _) hI
  refine mq_invV (ci := 10) (z := (mX11_looker, 1, 0, 0)) (K' := (K.1 + 0, K.2 + 0)) (σ1 := σ1) (as := [mp_i (scr (Int.toNat (i + 1))), mp_i (scr (Int.toNat (i + 2)))]) (st := []) (st1 := [mp_i z]) dL_law_295 svL_31 hx rfl rfl hc ⟨by decide, by decide, (show K.1 + 0 ≤ 601024 by omega), (show K.2 + 0 ≤ 7293034 by omega), Nat.le_of_ble_eq_true rfl⟩ rfl rfl rfl rfl ?_
  refine mq_aload_n dL_law_298 rfl ?_
  refine mq_aload_n dL_law_299 rfl ?_
  refine mq_iload dL_law_300 rfl ?_
  refine mq_iconst dL_law_302 ?_
  refine mq_iadd (z := i + 1) dL_law_303 (by first | rfl | omega) ?_
  refine mq_saload (i := i + 1) (n := n) (f := scr) dL_law_304 hs1 ⟨by omega, by omega⟩ (by omega) ?_
  refine mq_aload_n dL_law_305 rfl ?_
  refine mq_iload dL_law_306 rfl ?_
  refine mq_iconst dL_law_308 ?_
  refine mq_iadd (z := i + 2) dL_law_309 (by first | rfl | omega) ?_
  refine mq_saload (i := i + 2) (n := n) (f := scr) dL_law_310 hs1 ⟨by omega, by omega⟩ (by omega) ?_
  refine mq_invV (ci := 11) (z := (mX12_looker, 2, 0, 0)) (K' := (K.1 + 0 + 0, K.2 + 0 + 0)) (σ1 := σ2) (as := [mp_i (scr (Int.toNat (i + 1))), mp_i (scr (Int.toNat (i + 2)))]) (st := [mp_i z]) (st1 := [mp_i z, mp_i z]) dL_law_311 svL_34 hm1 rfl rfl hm ⟨by decide, by decide, (show K.1 + 0 + 0 ≤ 601024 by omega), (show K.2 + 0 + 0 ≤ 7293034 by omega), Nat.le_of_ble_eq_true rfl⟩ rfl rfl rfl rfl ?_
  refine mq_icmp_same (tgt := 1661) dL_law_314 rfl ?_
  exact next σ2 _ hI2 (by show K.1 + 0 + 0 ≤ K.1 + 40; omega) (by show K.2 + 0 + 0 ≤ K.2 + 280; omega)
theorem cL_3 {n : Nat} {scr : Nat → Int} {σ : mp_H} {i : Int} {K : Nat × Nat} {Q : mp_QX} (hI : mp_Inv n scr σ) (hi : 0 ≤ i ∧ i + 6 ≤ n) (hn : n ≤ 3072) (hw : ∀ j, mp_w (scr j)) (hK : K.1 + 40 ≤ 601024 ∧ K.2 + 280 ≤ 7293034)
    (next : ∀ σ' K', mp_Inv n scr σ' → K'.1 ≤ K.1 + 40 → K'.2 ≤ K.2 + 280 → mp_AtX (mL_law, 10, 601024, 7293034) K' 1661 [some (Value.ref 0), some (Value.ref 1), some (Value.ref 44), some (Value.ref 58), some (mp_i i), none, none, none] [] σ' Q) : mp_AtX (mL_law, 10, 601024, 7293034) K 319 [some (Value.ref 0), some (Value.ref 1), some (Value.ref 44), some (Value.ref 58), some (mp_i i), none, none, none] [] σ Q := by
  obtain ⟨hs0, ⟨fs, hx⟩, -⟩ := hI.x
  refine mq_aload_n dL_law_319 rfl ?_
  refine mq_aload_n dL_law_320 rfl ?_
  refine mq_iload dL_law_321 rfl ?_
  refine mq_iconst dL_law_323 ?_
  refine mq_iadd (z := i + 1) dL_law_324 (by first | rfl | omega) ?_
  refine mq_saload (i := i + 1) (n := n) (f := scr) dL_law_325 hs0 ⟨by omega, by omega⟩ (by omega) ?_
  refine mq_aload_n dL_law_326 rfl ?_
  refine mq_iload dL_law_327 rfl ?_
  refine mq_iconst dL_law_329 ?_
  refine mq_iadd (z := i + 2) dL_law_330 (by first | rfl | omega) ?_
  refine mq_saload (i := i + 2) (n := n) (f := scr) dL_law_331 hs0 ⟨by omega, by omega⟩ (by omega) ?_
  refine mq_aload_n dL_law_332 rfl ?_
  refine mq_iload dL_law_333 rfl ?_
  refine mq_iconst dL_law_335 ?_
  refine mq_iadd (z := i + 3) dL_law_336 (by first | rfl | omega) ?_
  refine mq_saload (i := i + 3) (n := n) (f := scr) dL_law_337 hs0 ⟨by omega, by omega⟩ (by omega) ?_
  refine mq_aload_n dL_law_338 rfl ?_
  refine mq_iload dL_law_339 rfl ?_
  refine mq_iconst dL_law_341 ?_
  refine mq_iadd (z := i + 4) dL_law_342 (by first | rfl | omega) ?_
  refine mq_saload (i := i + 4) (n := n) (f := scr) dL_law_343 hs0 ⟨by omega, by omega⟩ (by omega) ?_
  obtain ⟨z, σ1, σ2, hc, hm, hI2, hs1, fs1, hm1⟩ := st_falls (hw _) (hw _) (hw _) (hw _) hI
  refine mq_invV (ci := 10) (z := (mX11_falls, 5, 1, 7)) (K' := (K.1 + 1, K.2 + 7)) (σ1 := σ1) (as := [mp_i (scr (Int.toNat (i + 1))), mp_i (scr (Int.toNat (i + 2))), mp_i (scr (Int.toNat (i + 3))), mp_i (scr (Int.toNat (i + 4)))]) (st := []) (st1 := [mp_i z]) dL_law_344 svL_35 hx rfl rfl hc ⟨by decide, by decide, (show K.1 + 1 ≤ 601024 by omega), (show K.2 + 7 ≤ 7293034 by omega), Nat.le_of_ble_eq_true rfl⟩ rfl rfl rfl rfl ?_
  refine mq_aload_n dL_law_347 rfl ?_
  refine mq_aload_n dL_law_348 rfl ?_
  refine mq_iload dL_law_349 rfl ?_
  refine mq_iconst dL_law_351 ?_
  refine mq_iadd (z := i + 1) dL_law_352 (by first | rfl | omega) ?_
  refine mq_saload (i := i + 1) (n := n) (f := scr) dL_law_353 hs1 ⟨by omega, by omega⟩ (by omega) ?_
  refine mq_aload_n dL_law_354 rfl ?_
  refine mq_iload dL_law_355 rfl ?_
  refine mq_iconst dL_law_357 ?_
  refine mq_iadd (z := i + 2) dL_law_358 (by first | rfl | omega) ?_
  refine mq_saload (i := i + 2) (n := n) (f := scr) dL_law_359 hs1 ⟨by omega, by omega⟩ (by omega) ?_
  refine mq_aload_n dL_law_360 rfl ?_
  refine mq_iload dL_law_361 rfl ?_
  refine mq_iconst dL_law_363 ?_
  refine mq_iadd (z := i + 3) dL_law_364 (by first | rfl | omega) ?_
  refine mq_saload (i := i + 3) (n := n) (f := scr) dL_law_365 hs1 ⟨by omega, by omega⟩ (by omega) ?_
  refine mq_aload_n dL_law_366 rfl ?_
  refine mq_iload dL_law_367 rfl ?_
  refine mq_iconst dL_law_369 ?_
  refine mq_iadd (z := i + 4) dL_law_370 (by first | rfl | omega) ?_
  refine mq_saload (i := i + 4) (n := n) (f := scr) dL_law_371 hs1 ⟨by omega, by omega⟩ (by omega) ?_
  refine mq_invV (ci := 11) (z := (mX12_falls, 3, 0, 0)) (K' := (K.1 + 1 + 0, K.2 + 7 + 0)) (σ1 := σ2) (as := [mp_i (scr (Int.toNat (i + 1))), mp_i (scr (Int.toNat (i + 2))), mp_i (scr (Int.toNat (i + 3))), mp_i (scr (Int.toNat (i + 4)))]) (st := [mp_i z]) (st1 := [mp_i z, mp_i z]) dL_law_372 svL_39 hm1 rfl rfl hm ⟨by decide, by decide, (show K.1 + 1 + 0 ≤ 601024 by omega), (show K.2 + 7 + 0 ≤ 7293034 by omega), Nat.le_of_ble_eq_true rfl⟩ rfl rfl rfl rfl ?_
  refine mq_icmp_same (tgt := 1661) dL_law_375 rfl ?_
  exact next σ2 _ hI2 (by show K.1 + 1 + 0 ≤ K.1 + 40; omega) (by show K.2 + 7 + 0 ≤ K.2 + 280; omega)
theorem cL_4 {n : Nat} {scr : Nat → Int} {σ : mp_H} {i : Int} {K : Nat × Nat} {Q : mp_QX} (hI : mp_Inv n scr σ) (hi : 0 ≤ i ∧ i + 6 ≤ n) (hn : n ≤ 3072) (hw : ∀ j, mp_w (scr j)) (hK : K.1 + 40 ≤ 601024 ∧ K.2 + 280 ≤ 7293034)
    (next : ∀ σ' K', mp_Inv n scr σ' → K'.1 ≤ K.1 + 40 → K'.2 ≤ K.2 + 280 → mp_AtX (mL_law, 10, 601024, 7293034) K' 1661 [some (Value.ref 0), some (Value.ref 1), some (Value.ref 44), some (Value.ref 58), some (mp_i i), none, none, none] [] σ' Q) : mp_AtX (mL_law, 10, 601024, 7293034) K 380 [some (Value.ref 0), some (Value.ref 1), some (Value.ref 44), some (Value.ref 58), some (mp_i i), none, none, none] [] σ Q := by
  obtain ⟨hs0, ⟨fs, hx⟩, -⟩ := hI.x
  refine mq_aload_n dL_law_380 rfl ?_
  refine mq_aload_n dL_law_381 rfl ?_
  refine mq_iload dL_law_382 rfl ?_
  refine mq_iconst dL_law_384 ?_
  refine mq_iadd (z := i + 1) dL_law_385 (by first | rfl | omega) ?_
  refine mq_saload (i := i + 1) (n := n) (f := scr) dL_law_386 hs0 ⟨by omega, by omega⟩ (by omega) ?_
  refine mq_aload_n dL_law_387 rfl ?_
  refine mq_iload dL_law_388 rfl ?_
  refine mq_iconst dL_law_390 ?_
  refine mq_iadd (z := i + 2) dL_law_391 (by first | rfl | omega) ?_
  refine mq_saload (i := i + 2) (n := n) (f := scr) dL_law_392 hs0 ⟨by omega, by omega⟩ (by omega) ?_
  obtain ⟨z, σ1, σ2, hc, hm, hI2, hs1, fs1, hm1⟩ := st_meant (hw _) (hw _) hI
  refine mq_invV (ci := 10) (z := (mX11_meant, 2, 0, 0)) (K' := (K.1 + 0, K.2 + 0)) (σ1 := σ1) (as := [mp_i (scr (Int.toNat (i + 1))), mp_i (scr (Int.toNat (i + 2)))]) (st := []) (st1 := [mp_i z]) dL_law_393 svL_40 hx rfl rfl hc ⟨by decide, by decide, (show K.1 + 0 ≤ 601024 by omega), (show K.2 + 0 ≤ 7293034 by omega), Nat.le_of_ble_eq_true rfl⟩ rfl rfl rfl rfl ?_
  refine mq_aload_n dL_law_396 rfl ?_
  refine mq_aload_n dL_law_397 rfl ?_
  refine mq_iload dL_law_398 rfl ?_
  refine mq_iconst dL_law_400 ?_
  refine mq_iadd (z := i + 1) dL_law_401 (by first | rfl | omega) ?_
  refine mq_saload (i := i + 1) (n := n) (f := scr) dL_law_402 hs1 ⟨by omega, by omega⟩ (by omega) ?_
  refine mq_aload_n dL_law_403 rfl ?_
  refine mq_iload dL_law_404 rfl ?_
  refine mq_iconst dL_law_406 ?_
  refine mq_iadd (z := i + 2) dL_law_407 (by first | rfl | omega) ?_
  refine mq_saload (i := i + 2) (n := n) (f := scr) dL_law_408 hs1 ⟨by omega, by omega⟩ (by omega) ?_
  refine mq_invV (ci := 11) (z := (mX12_meant, 3, 0, 0)) (K' := (K.1 + 0 + 0, K.2 + 0 + 0)) (σ1 := σ2) (as := [mp_i (scr (Int.toNat (i + 1))), mp_i (scr (Int.toNat (i + 2)))]) (st := [mp_i z]) (st1 := [mp_i z, mp_i z]) dL_law_409 svL_43 hm1 rfl rfl hm ⟨by decide, by decide, (show K.1 + 0 + 0 ≤ 601024 by omega), (show K.2 + 0 + 0 ≤ 7293034 by omega), Nat.le_of_ble_eq_true rfl⟩ rfl rfl rfl rfl ?_
  refine mq_icmp_same (tgt := 1661) dL_law_412 rfl ?_
  exact next σ2 _ hI2 (by show K.1 + 0 + 0 ≤ K.1 + 40; omega) (by show K.2 + 0 + 0 ≤ K.2 + 280; omega)
theorem cL_5 {n : Nat} {scr : Nat → Int} {σ : mp_H} {i : Int} {K : Nat × Nat} {Q : mp_QX} (hI : mp_Inv n scr σ) (hi : 0 ≤ i ∧ i + 6 ≤ n) (hn : n ≤ 3072) (hw : ∀ j, mp_w (scr j)) (hK : K.1 + 40 ≤ 601024 ∧ K.2 + 280 ≤ 7293034)
    (next : ∀ σ' K', mp_Inv n scr σ' → K'.1 ≤ K.1 + 40 → K'.2 ≤ K.2 + 280 → mp_AtX (mL_law, 10, 601024, 7293034) K' 1661 [some (Value.ref 0), some (Value.ref 1), some (Value.ref 44), some (Value.ref 58), some (mp_i i), none, none, none] [] σ' Q) : mp_AtX (mL_law, 10, 601024, 7293034) K 417 [some (Value.ref 0), some (Value.ref 1), some (Value.ref 44), some (Value.ref 58), some (mp_i i), none, none, none] [] σ Q := by
  obtain ⟨hs0, ⟨fs, hx⟩, -⟩ := hI.x
  refine mq_aload_n dL_law_417 rfl ?_
  refine mq_aload_n dL_law_418 rfl ?_
  refine mq_iload dL_law_419 rfl ?_
  refine mq_iconst dL_law_421 ?_
  refine mq_iadd (z := i + 1) dL_law_422 (by first | rfl | omega) ?_
  refine mq_saload (i := i + 1) (n := n) (f := scr) dL_law_423 hs0 ⟨by omega, by omega⟩ (by omega) ?_
  refine mq_aload_n dL_law_424 rfl ?_
  refine mq_iload dL_law_425 rfl ?_
  refine mq_iconst dL_law_427 ?_
  refine mq_iadd (z := i + 2) dL_law_428 (by first | rfl | omega) ?_
  refine mq_saload (i := i + 2) (n := n) (f := scr) dL_law_429 hs0 ⟨by omega, by omega⟩ (by omega) ?_
  refine mq_aload_n dL_law_430 rfl ?_
  refine mq_iload dL_law_431 rfl ?_
  refine mq_iconst dL_law_433 ?_
  refine mq_iadd (z := i + 3) dL_law_434 (by first | rfl | omega) ?_
  refine mq_saload (i := i + 3) (n := n) (f := scr) dL_law_435 hs0 ⟨by omega, by omega⟩ (by omega) ?_
  obtain ⟨z, σ1, σ2, hc, hm, hI2, hs1, fs1, hm1⟩ := st_looks (hw _) (hw _) (hw _) hI
  refine mq_invV (ci := 10) (z := (mX11_looks, 2, 0, 0)) (K' := (K.1 + 0, K.2 + 0)) (σ1 := σ1) (as := [mp_i (scr (Int.toNat (i + 1))), mp_i (scr (Int.toNat (i + 2))), mp_i (scr (Int.toNat (i + 3)))]) (st := []) (st1 := [mp_i z]) dL_law_436 svL_44 hx rfl rfl hc ⟨by decide, by decide, (show K.1 + 0 ≤ 601024 by omega), (show K.2 + 0 ≤ 7293034 by omega), Nat.le_of_ble_eq_true rfl⟩ rfl rfl rfl rfl ?_
  refine mq_aload_n dL_law_439 rfl ?_
  refine mq_aload_n dL_law_440 rfl ?_
  refine mq_iload dL_law_441 rfl ?_
  refine mq_iconst dL_law_443 ?_
  refine mq_iadd (z := i + 1) dL_law_444 (by first | rfl | omega) ?_
  refine mq_saload (i := i + 1) (n := n) (f := scr) dL_law_445 hs1 ⟨by omega, by omega⟩ (by omega) ?_
  refine mq_aload_n dL_law_446 rfl ?_
  refine mq_iload dL_law_447 rfl ?_
  refine mq_iconst dL_law_449 ?_
  refine mq_iadd (z := i + 2) dL_law_450 (by first | rfl | omega) ?_
  refine mq_saload (i := i + 2) (n := n) (f := scr) dL_law_451 hs1 ⟨by omega, by omega⟩ (by omega) ?_
  refine mq_aload_n dL_law_452 rfl ?_
  refine mq_iload dL_law_453 rfl ?_
  refine mq_iconst dL_law_455 ?_
  refine mq_iadd (z := i + 3) dL_law_456 (by first | rfl | omega) ?_
  refine mq_saload (i := i + 3) (n := n) (f := scr) dL_law_457 hs1 ⟨by omega, by omega⟩ (by omega) ?_
  refine mq_invV (ci := 11) (z := (mX12_looks, 2, 0, 0)) (K' := (K.1 + 0 + 0, K.2 + 0 + 0)) (σ1 := σ2) (as := [mp_i (scr (Int.toNat (i + 1))), mp_i (scr (Int.toNat (i + 2))), mp_i (scr (Int.toNat (i + 3)))]) (st := [mp_i z]) (st1 := [mp_i z, mp_i z]) dL_law_458 svL_48 hm1 rfl rfl hm ⟨by decide, by decide, (show K.1 + 0 + 0 ≤ 601024 by omega), (show K.2 + 0 + 0 ≤ 7293034 by omega), Nat.le_of_ble_eq_true rfl⟩ rfl rfl rfl rfl ?_
  refine mq_icmp_same (tgt := 1661) dL_law_461 rfl ?_
  exact next σ2 _ hI2 (by show K.1 + 0 + 0 ≤ K.1 + 40; omega) (by show K.2 + 0 + 0 ≤ K.2 + 280; omega)
theorem cL_6 {n : Nat} {scr : Nat → Int} {σ : mp_H} {i : Int} {K : Nat × Nat} {Q : mp_QX} (hI : mp_Inv n scr σ) (hi : 0 ≤ i ∧ i + 6 ≤ n) (hn : n ≤ 3072) (hw : ∀ j, mp_w (scr j)) (hK : K.1 + 40 ≤ 601024 ∧ K.2 + 280 ≤ 7293034)
    (next : ∀ σ' K', mp_Inv n scr σ' → K'.1 ≤ K.1 + 40 → K'.2 ≤ K.2 + 280 → mp_AtX (mL_law, 10, 601024, 7293034) K' 1661 [some (Value.ref 0), some (Value.ref 1), some (Value.ref 44), some (Value.ref 58), some (mp_i i), none, none, none] [] σ' Q) : mp_AtX (mL_law, 10, 601024, 7293034) K 466 [some (Value.ref 0), some (Value.ref 1), some (Value.ref 44), some (Value.ref 58), some (mp_i i), none, none, none] [] σ Q := by
  obtain ⟨hs0, ⟨fs, hx⟩, -⟩ := hI.x
  refine mq_aload_n dL_law_466 rfl ?_
  refine mq_aload_n dL_law_467 rfl ?_
  refine mq_iload dL_law_468 rfl ?_
  refine mq_iconst dL_law_470 ?_
  refine mq_iadd (z := i + 1) dL_law_471 (by first | rfl | omega) ?_
  refine mq_saload (i := i + 1) (n := n) (f := scr) dL_law_472 hs0 ⟨by omega, by omega⟩ (by omega) ?_
  obtain ⟨z, σ1, σ2, hc, hm, hI2, hs1, fs1, hm1⟩ := st_run (hw _) hI
  refine mq_invV (ci := 10) (z := (mX11_run, 5, 0, 0)) (K' := (K.1 + 0, K.2 + 0)) (σ1 := σ1) (as := [mp_i (scr (Int.toNat (i + 1)))]) (st := []) (st1 := [mp_i z]) dL_law_473 svL_49 hx rfl rfl hc ⟨by decide, by decide, (show K.1 + 0 ≤ 601024 by omega), (show K.2 + 0 ≤ 7293034 by omega), Nat.le_of_ble_eq_true rfl⟩ rfl rfl rfl rfl ?_
  refine mq_aload_n dL_law_476 rfl ?_
  refine mq_aload_n dL_law_477 rfl ?_
  refine mq_iload dL_law_478 rfl ?_
  refine mq_iconst dL_law_480 ?_
  refine mq_iadd (z := i + 1) dL_law_481 (by first | rfl | omega) ?_
  refine mq_saload (i := i + 1) (n := n) (f := scr) dL_law_482 hs1 ⟨by omega, by omega⟩ (by omega) ?_
  refine mq_invV (ci := 11) (z := (mX12_run, 6, 0, 0)) (K' := (K.1 + 0 + 0, K.2 + 0 + 0)) (σ1 := σ2) (as := [mp_i (scr (Int.toNat (i + 1)))]) (st := [mp_i z]) (st1 := [mp_i z, mp_i z]) dL_law_483 svL_52 hm1 rfl rfl hm ⟨by decide, by decide, (show K.1 + 0 + 0 ≤ 601024 by omega), (show K.2 + 0 + 0 ≤ 7293034 by omega), Nat.le_of_ble_eq_true rfl⟩ rfl rfl rfl rfl ?_
  refine mq_icmp_same (tgt := 1661) dL_law_486 rfl ?_
  exact next σ2 _ hI2 (by show K.1 + 0 + 0 ≤ K.1 + 40; omega) (by show K.2 + 0 + 0 ≤ K.2 + 280; omega)
theorem cL_7 {n : Nat} {scr : Nat → Int} {σ : mp_H} {i : Int} {K : Nat × Nat} {Q : mp_QX} (hI : mp_Inv n scr σ) (hi : 0 ≤ i ∧ i + 6 ≤ n) (hn : n ≤ 3072) (hw : ∀ j, mp_w (scr j)) (hK : K.1 + 40 ≤ 601024 ∧ K.2 + 280 ≤ 7293034)
    (next : ∀ σ' K', mp_Inv n scr σ' → K'.1 ≤ K.1 + 40 → K'.2 ≤ K.2 + 280 → mp_AtX (mL_law, 10, 601024, 7293034) K' 1661 [some (Value.ref 0), some (Value.ref 1), some (Value.ref 44), some (Value.ref 58), some (mp_i i), none, none, none] [] σ' Q) : mp_AtX (mL_law, 10, 601024, 7293034) K 491 [some (Value.ref 0), some (Value.ref 1), some (Value.ref 44), some (Value.ref 58), some (mp_i i), none, none, none] [] σ Q := by
  obtain ⟨hs0, ⟨fs, hx⟩, -⟩ := hI.x
  refine mq_aload_n dL_law_491 rfl ?_
  refine mq_aload_n dL_law_492 rfl ?_
  refine mq_iload dL_law_493 rfl ?_
  refine mq_iconst dL_law_495 ?_
  refine mq_iadd (z := i + 1) dL_law_496 (by first | rfl | omega) ?_
  refine mq_saload (i := i + 1) (n := n) (f := scr) dL_law_497 hs0 ⟨by omega, by omega⟩ (by omega) ?_
  obtain ⟨z, σ1, σ2, hc, hm, hI2, hs1, fs1, hm1⟩ := st_free (hw _) hI
  refine mq_invV (ci := 10) (z := (mX11_free, 2, 0, 0)) (K' := (K.1 + 0, K.2 + 0)) (σ1 := σ1) (as := [mp_i (scr (Int.toNat (i + 1)))]) (st := []) (st1 := [mp_i z]) dL_law_498 svL_53 hx rfl rfl hc ⟨by decide, by decide, (show K.1 + 0 ≤ 601024 by omega), (show K.2 + 0 ≤ 7293034 by omega), Nat.le_of_ble_eq_true rfl⟩ rfl rfl rfl rfl ?_
  refine mq_aload_n dL_law_501 rfl ?_
  refine mq_aload_n dL_law_502 rfl ?_
  refine mq_iload dL_law_503 rfl ?_
  refine mq_iconst dL_law_505 ?_
  refine mq_iadd (z := i + 1) dL_law_506 (by first | rfl | omega) ?_
  refine mq_saload (i := i + 1) (n := n) (f := scr) dL_law_507 hs1 ⟨by omega, by omega⟩ (by omega) ?_
  refine mq_invV (ci := 11) (z := (mX12_free, 2, 0, 0)) (K' := (K.1 + 0 + 0, K.2 + 0 + 0)) (σ1 := σ2) (as := [mp_i (scr (Int.toNat (i + 1)))]) (st := [mp_i z]) (st1 := [mp_i z, mp_i z]) dL_law_508 svL_56 hm1 rfl rfl hm ⟨by decide, by decide, (show K.1 + 0 + 0 ≤ 601024 by omega), (show K.2 + 0 + 0 ≤ 7293034 by omega), Nat.le_of_ble_eq_true rfl⟩ rfl rfl rfl rfl ?_
  refine mq_icmp_same (tgt := 1661) dL_law_511 rfl ?_
  exact next σ2 _ hI2 (by show K.1 + 0 + 0 ≤ K.1 + 40; omega) (by show K.2 + 0 + 0 ≤ K.2 + 280; omega)
theorem cL_8 {n : Nat} {scr : Nat → Int} {σ : mp_H} {i : Int} {K : Nat × Nat} {Q : mp_QX} (hI : mp_Inv n scr σ) (hi : 0 ≤ i ∧ i + 6 ≤ n) (hn : n ≤ 3072) (hw : ∀ j, mp_w (scr j)) (hK : K.1 + 40 ≤ 601024 ∧ K.2 + 280 ≤ 7293034)
    (next : ∀ σ' K', mp_Inv n scr σ' → K'.1 ≤ K.1 + 40 → K'.2 ≤ K.2 + 280 → mp_AtX (mL_law, 10, 601024, 7293034) K' 1661 [some (Value.ref 0), some (Value.ref 1), some (Value.ref 44), some (Value.ref 58), some (mp_i i), none, none, none] [] σ' Q) : mp_AtX (mL_law, 10, 601024, 7293034) K 516 [some (Value.ref 0), some (Value.ref 1), some (Value.ref 44), some (Value.ref 58), some (mp_i i), none, none, none] [] σ Q := by
  obtain ⟨hs0, ⟨fs, hx⟩, -⟩ := hI.x
  refine mq_aload_n dL_law_516 rfl ?_
  refine mq_aload_n dL_law_517 rfl ?_
  refine mq_iload dL_law_518 rfl ?_
  refine mq_iconst dL_law_520 ?_
  refine mq_iadd (z := i + 1) dL_law_521 (by first | rfl | omega) ?_
  refine mq_saload (i := i + 1) (n := n) (f := scr) dL_law_522 hs0 ⟨by omega, by omega⟩ (by omega) ?_
  refine mq_aload_n dL_law_523 rfl ?_
  refine mq_iload dL_law_524 rfl ?_
  refine mq_iconst dL_law_526 ?_
  refine mq_iadd (z := i + 2) dL_law_527 (by first | rfl | omega) ?_
  refine mq_saload (i := i + 2) (n := n) (f := scr) dL_law_528 hs0 ⟨by omega, by omega⟩ (by omega) ?_
  refine mq_aload_n dL_law_529 rfl ?_
  refine mq_iload dL_law_530 rfl ?_
  refine mq_iconst dL_law_532 ?_
  refine mq_iadd (z := i + 3) dL_law_533 (by first | rfl | omega) ?_
  refine mq_saload (i := i + 3) (n := n) (f := scr) dL_law_534 hs0 ⟨by omega, by omega⟩ (by omega) ?_
  obtain ⟨z, σ1, σ2, hc, hm, hI2, hs1, fs1, hm1⟩ := st_seen (hw _) (hw _) (hw _) hI
  refine mq_invV (ci := 10) (z := (mX11_seen, 3, 0, 0)) (K' := (K.1 + 0, K.2 + 0)) (σ1 := σ1) (as := [mp_i (scr (Int.toNat (i + 1))), mp_i (scr (Int.toNat (i + 2))), mp_i (scr (Int.toNat (i + 3)))]) (st := []) (st1 := [mp_i z]) dL_law_535 svL_57 hx rfl rfl hc ⟨by decide, by decide, (show K.1 + 0 ≤ 601024 by omega), (show K.2 + 0 ≤ 7293034 by omega), Nat.le_of_ble_eq_true rfl⟩ rfl rfl rfl rfl ?_
  refine mq_aload_n dL_law_538 rfl ?_
  refine mq_aload_n dL_law_539 rfl ?_
  refine mq_iload dL_law_540 rfl ?_
  refine mq_iconst dL_law_542 ?_
  refine mq_iadd (z := i + 1) dL_law_543 (by first | rfl | omega) ?_
  refine mq_saload (i := i + 1) (n := n) (f := scr) dL_law_544 hs1 ⟨by omega, by omega⟩ (by omega) ?_
  refine mq_aload_n dL_law_545 rfl ?_
  refine mq_iload dL_law_546 rfl ?_
  refine mq_iconst dL_law_548 ?_
  refine mq_iadd (z := i + 2) dL_law_549 (by first | rfl | omega) ?_
  refine mq_saload (i := i + 2) (n := n) (f := scr) dL_law_550 hs1 ⟨by omega, by omega⟩ (by omega) ?_
  refine mq_aload_n dL_law_551 rfl ?_
  refine mq_iload dL_law_552 rfl ?_
  refine mq_iconst dL_law_554 ?_
  refine mq_iadd (z := i + 3) dL_law_555 (by first | rfl | omega) ?_
  refine mq_saload (i := i + 3) (n := n) (f := scr) dL_law_556 hs1 ⟨by omega, by omega⟩ (by omega) ?_
  refine mq_invV (ci := 11) (z := (mX12_seen, 4, 0, 0)) (K' := (K.1 + 0 + 0, K.2 + 0 + 0)) (σ1 := σ2) (as := [mp_i (scr (Int.toNat (i + 1))), mp_i (scr (Int.toNat (i + 2))), mp_i (scr (Int.toNat (i + 3)))]) (st := [mp_i z]) (st1 := [mp_i z, mp_i z]) dL_law_557 svL_60 hm1 rfl rfl hm ⟨by decide, by decide, (show K.1 + 0 + 0 ≤ 601024 by omega), (show K.2 + 0 + 0 ≤ 7293034 by omega), Nat.le_of_ble_eq_true rfl⟩ rfl rfl rfl rfl ?_
  refine mq_icmp_same (tgt := 1661) dL_law_560 rfl ?_
  exact next σ2 _ hI2 (by show K.1 + 0 + 0 ≤ K.1 + 40; omega) (by show K.2 + 0 + 0 ≤ K.2 + 280; omega)
theorem cL_9 {n : Nat} {scr : Nat → Int} {σ : mp_H} {i : Int} {K : Nat × Nat} {Q : mp_QX} (hI : mp_Inv n scr σ) (hi : 0 ≤ i ∧ i + 6 ≤ n) (hn : n ≤ 3072) (hw : ∀ j, mp_w (scr j)) (hK : K.1 + 40 ≤ 601024 ∧ K.2 + 280 ≤ 7293034)
    (next : ∀ σ' K', mp_Inv n scr σ' → K'.1 ≤ K.1 + 40 → K'.2 ≤ K.2 + 280 → mp_AtX (mL_law, 10, 601024, 7293034) K' 1661 [some (Value.ref 0), some (Value.ref 1), some (Value.ref 44), some (Value.ref 58), some (mp_i i), none, none, none] [] σ' Q) : mp_AtX (mL_law, 10, 601024, 7293034) K 565 [some (Value.ref 0), some (Value.ref 1), some (Value.ref 44), some (Value.ref 58), some (mp_i i), none, none, none] [] σ Q := by
  obtain ⟨hs0, ⟨fs, hx⟩, -⟩ := hI.x
  refine mq_aload_n dL_law_565 rfl ?_
  refine mq_aload_n dL_law_566 rfl ?_
  refine mq_iload dL_law_567 rfl ?_
  refine mq_iconst dL_law_569 ?_
  refine mq_iadd (z := i + 1) dL_law_570 (by first | rfl | omega) ?_
  refine mq_saload (i := i + 1) (n := n) (f := scr) dL_law_571 hs0 ⟨by omega, by omega⟩ (by omega) ?_
  obtain ⟨z, σ1, σ2, hc, hm, hI2, hs1, fs1, hm1⟩ := st_taker (hw _) hI
  refine mq_invV (ci := 10) (z := (mX11_taker, 4, 0, 0)) (K' := (K.1 + 0, K.2 + 0)) (σ1 := σ1) (as := [mp_i (scr (Int.toNat (i + 1)))]) (st := []) (st1 := [mp_i z]) dL_law_572 svL_61 hx rfl rfl hc ⟨by decide, by decide, (show K.1 + 0 ≤ 601024 by omega), (show K.2 + 0 ≤ 7293034 by omega), Nat.le_of_ble_eq_true rfl⟩ rfl rfl rfl rfl ?_
  refine mq_aload_n dL_law_575 rfl ?_
  refine mq_aload_n dL_law_576 rfl ?_
  refine mq_iload dL_law_577 rfl ?_
  refine mq_iconst dL_law_579 ?_
  refine mq_iadd (z := i + 1) dL_law_580 (by first | rfl | omega) ?_
  refine mq_saload (i := i + 1) (n := n) (f := scr) dL_law_581 hs1 ⟨by omega, by omega⟩ (by omega) ?_
  refine mq_invV (ci := 11) (z := (mX12_taker, 5, 0, 0)) (K' := (K.1 + 0 + 0, K.2 + 0 + 0)) (σ1 := σ2) (as := [mp_i (scr (Int.toNat (i + 1)))]) (st := [mp_i z]) (st1 := [mp_i z, mp_i z]) dL_law_582 svL_64 hm1 rfl rfl hm ⟨by decide, by decide, (show K.1 + 0 + 0 ≤ 601024 by omega), (show K.2 + 0 + 0 ≤ 7293034 by omega), Nat.le_of_ble_eq_true rfl⟩ rfl rfl rfl rfl ?_
  refine mq_icmp_same (tgt := 1661) dL_law_585 rfl ?_
  exact next σ2 _ hI2 (by show K.1 + 0 + 0 ≤ K.1 + 40; omega) (by show K.2 + 0 + 0 ≤ K.2 + 280; omega)
theorem cL_10 {n : Nat} {scr : Nat → Int} {σ : mp_H} {i : Int} {K : Nat × Nat} {Q : mp_QX} (hI : mp_Inv n scr σ) (hi : 0 ≤ i ∧ i + 6 ≤ n) (hn : n ≤ 3072) (hw : ∀ j, mp_w (scr j)) (hK : K.1 + 40 ≤ 601024 ∧ K.2 + 280 ≤ 7293034)
    (next : ∀ σ' K', mp_Inv n scr σ' → K'.1 ≤ K.1 + 40 → K'.2 ≤ K.2 + 280 → mp_AtX (mL_law, 10, 601024, 7293034) K' 1661 [some (Value.ref 0), some (Value.ref 1), some (Value.ref 44), some (Value.ref 58), some (mp_i i), none, none, none] [] σ' Q) : mp_AtX (mL_law, 10, 601024, 7293034) K 590 [some (Value.ref 0), some (Value.ref 1), some (Value.ref 44), some (Value.ref 58), some (mp_i i), none, none, none] [] σ Q := by
  obtain ⟨hs0, ⟨fs, hx⟩, -⟩ := hI.x
  refine mq_aload_n dL_law_590 rfl ?_
  obtain ⟨z, σ1, σ2, hc, hm, hI2, hs1, fs1, hm1⟩ := st_unseen  hI
  refine mq_invV (ci := 10) (z := (mX11_unseen, 3, 0, 0)) (K' := (K.1 + 0, K.2 + 0)) (σ1 := σ1) (as := []) (st := []) (st1 := [mp_i z]) dL_law_591 svL_65 hx rfl rfl hc ⟨by decide, by decide, (show K.1 + 0 ≤ 601024 by omega), (show K.2 + 0 ≤ 7293034 by omega), Nat.le_of_ble_eq_true rfl⟩ rfl rfl rfl rfl ?_
  refine mq_aload_n dL_law_594 rfl ?_
  refine mq_invV (ci := 11) (z := (mX12_unseen, 3, 0, 0)) (K' := (K.1 + 0 + 0, K.2 + 0 + 0)) (σ1 := σ2) (as := []) (st := [mp_i z]) (st1 := [mp_i z, mp_i z]) dL_law_595 svL_69 hm1 rfl rfl hm ⟨by decide, by decide, (show K.1 + 0 + 0 ≤ 601024 by omega), (show K.2 + 0 + 0 ≤ 7293034 by omega), Nat.le_of_ble_eq_true rfl⟩ rfl rfl rfl rfl ?_
  refine mq_icmp_same (tgt := 1661) dL_law_598 rfl ?_
  exact next σ2 _ hI2 (by show K.1 + 0 + 0 ≤ K.1 + 40; omega) (by show K.2 + 0 + 0 ≤ K.2 + 280; omega)
theorem cL_11 {n : Nat} {scr : Nat → Int} {σ : mp_H} {i : Int} {K : Nat × Nat} {Q : mp_QX} (hI : mp_Inv n scr σ) (hi : 0 ≤ i ∧ i + 6 ≤ n) (hn : n ≤ 3072) (hw : ∀ j, mp_w (scr j)) (hK : K.1 + 40 ≤ 601024 ∧ K.2 + 280 ≤ 7293034)
    (next : ∀ σ' K', mp_Inv n scr σ' → K'.1 ≤ K.1 + 40 → K'.2 ≤ K.2 + 280 → mp_AtX (mL_law, 10, 601024, 7293034) K' 1661 [some (Value.ref 0), some (Value.ref 1), some (Value.ref 44), some (Value.ref 58), some (mp_i i), none, none, none] [] σ' Q) : mp_AtX (mL_law, 10, 601024, 7293034) K 603 [some (Value.ref 0), some (Value.ref 1), some (Value.ref 44), some (Value.ref 58), some (mp_i i), none, none, none] [] σ Q := by
  obtain ⟨hs0, ⟨fs, hx⟩, -⟩ := hI.x
  refine mq_aload_n dL_law_603 rfl ?_
  obtain ⟨z, σ1, σ2, hc, hm, hI2, hs1, fs1, hm1⟩ := st_mistakes  hI
  refine mq_invV (ci := 10) (z := (mX11_mistakes, 2, 0, 0)) (K' := (K.1 + 0, K.2 + 0)) (σ1 := σ1) (as := []) (st := []) (st1 := [mp_i z]) dL_law_604 svL_70 hx rfl rfl hc ⟨by decide, by decide, (show K.1 + 0 ≤ 601024 by omega), (show K.2 + 0 ≤ 7293034 by omega), Nat.le_of_ble_eq_true rfl⟩ rfl rfl rfl rfl ?_
  refine mq_aload_n dL_law_607 rfl ?_
  refine mq_invV (ci := 11) (z := (mX12_mistakes, 2, 0, 0)) (K' := (K.1 + 0 + 0, K.2 + 0 + 0)) (σ1 := σ2) (as := []) (st := [mp_i z]) (st1 := [mp_i z, mp_i z]) dL_law_608 svL_73 hm1 rfl rfl hm ⟨by decide, by decide, (show K.1 + 0 + 0 ≤ 601024 by omega), (show K.2 + 0 + 0 ≤ 7293034 by omega), Nat.le_of_ble_eq_true rfl⟩ rfl rfl rfl rfl ?_
  refine mq_icmp_same (tgt := 1661) dL_law_611 rfl ?_
  exact next σ2 _ hI2 (by show K.1 + 0 + 0 ≤ K.1 + 40; omega) (by show K.2 + 0 + 0 ≤ K.2 + 280; omega)
theorem cL_12 {n : Nat} {scr : Nat → Int} {σ : mp_H} {i : Int} {K : Nat × Nat} {Q : mp_QX} (hI : mp_Inv n scr σ) (hi : 0 ≤ i ∧ i + 6 ≤ n) (hn : n ≤ 3072) (hw : ∀ j, mp_w (scr j)) (hK : K.1 + 40 ≤ 601024 ∧ K.2 + 280 ≤ 7293034)
    (next : ∀ σ' K', mp_Inv n scr σ' → K'.1 ≤ K.1 + 40 → K'.2 ≤ K.2 + 280 → mp_AtX (mL_law, 10, 601024, 7293034) K' 1661 [some (Value.ref 0), some (Value.ref 1), some (Value.ref 44), some (Value.ref 58), some (mp_i i), none, none, none] [] σ' Q) : mp_AtX (mL_law, 10, 601024, 7293034) K 616 [some (Value.ref 0), some (Value.ref 1), some (Value.ref 44), some (Value.ref 58), some (mp_i i), none, none, none] [] σ Q := by
  obtain ⟨hs0, ⟨fs, hx⟩, -⟩ := hI.x
  refine mq_aload_n dL_law_616 rfl ?_
  obtain ⟨z, σ1, σ2, hc, hm, hI2, hs1, fs1, hm1⟩ := st_waiting  hI
  refine mq_invV (ci := 10) (z := (mX11_waiting, 1, 0, 0)) (K' := (K.1 + 0, K.2 + 0)) (σ1 := σ1) (as := []) (st := []) (st1 := [mp_i z]) dL_law_617 svL_74 hx rfl rfl hc ⟨by decide, by decide, (show K.1 + 0 ≤ 601024 by omega), (show K.2 + 0 ≤ 7293034 by omega), Nat.le_of_ble_eq_true rfl⟩ rfl rfl rfl rfl ?_
  refine mq_aload_n dL_law_620 rfl ?_
  refine mq_invV (ci := 11) (z := (mX12_waiting, 1, 0, 0)) (K' := (K.1 + 0 + 0, K.2 + 0 + 0)) (σ1 := σ2) (as := []) (st := [mp_i z]) (st1 := [mp_i z, mp_i z]) dL_law_621 svL_77 hm1 rfl rfl hm ⟨by decide, by decide, (show K.1 + 0 + 0 ≤ 601024 by omega), (show K.2 + 0 + 0 ≤ 7293034 by omega), Nat.le_of_ble_eq_true rfl⟩ rfl rfl rfl rfl ?_
  refine mq_icmp_same (tgt := 1661) dL_law_624 rfl ?_
  exact next σ2 _ hI2 (by show K.1 + 0 + 0 ≤ K.1 + 40; omega) (by show K.2 + 0 + 0 ≤ K.2 + 280; omega)
theorem cL_13 {n : Nat} {scr : Nat → Int} {σ : mp_H} {i : Int} {K : Nat × Nat} {Q : mp_QX} (hI : mp_Inv n scr σ) (hi : 0 ≤ i ∧ i + 6 ≤ n) (hn : n ≤ 3072) (hw : ∀ j, mp_w (scr j)) (hK : K.1 + 40 ≤ 601024 ∧ K.2 + 280 ≤ 7293034)
    (next : ∀ σ' K', mp_Inv n scr σ' → K'.1 ≤ K.1 + 40 → K'.2 ≤ K.2 + 280 → mp_AtX (mL_law, 10, 601024, 7293034) K' 1661 [some (Value.ref 0), some (Value.ref 1), some (Value.ref 44), some (Value.ref 58), some (mp_i i), none, none, none] [] σ' Q) : mp_AtX (mL_law, 10, 601024, 7293034) K 629 [some (Value.ref 0), some (Value.ref 1), some (Value.ref 44), some (Value.ref 58), some (mp_i i), none, none, none] [] σ Q := by
  obtain ⟨hs0, ⟨fs, hx⟩, -⟩ := hI.x
  refine mq_aload_n dL_law_629 rfl ?_
  refine mq_aload_n dL_law_630 rfl ?_
  refine mq_iload dL_law_631 rfl ?_
  refine mq_iconst dL_law_633 ?_
  refine mq_iadd (z := i + 1) dL_law_634 (by first | rfl | omega) ?_
  refine mq_saload (i := i + 1) (n := n) (f := scr) dL_law_635 hs0 ⟨by omega, by omega⟩ (by omega) ?_
  obtain ⟨z, σ1, σ2, hc, hm, hI2, hs1, fs1, hm1⟩ := st_august (hw _) hI
  refine mq_invV (ci := 10) (z := (mX11_august, 5, 0, 0)) (K' := (K.1 + 0, K.2 + 0)) (σ1 := σ1) (as := [mp_i (scr (Int.toNat (i + 1)))]) (st := []) (st1 := [mp_i z]) dL_law_636 svL_78 hx rfl rfl hc ⟨by decide, by decide, (show K.1 + 0 ≤ 601024 by omega), (show K.2 + 0 ≤ 7293034 by omega), Nat.le_of_ble_eq_true rfl⟩ rfl rfl rfl rfl ?_
  refine mq_aload_n dL_law_639 rfl ?_
  refine mq_aload_n dL_law_640 rfl ?_
  refine mq_iload dL_law_641 rfl ?_
  refine mq_iconst dL_law_643 ?_
  refine mq_iadd (z := i + 1) dL_law_644 (by first | rfl | omega) ?_
  refine mq_saload (i := i + 1) (n := n) (f := scr) dL_law_645 hs1 ⟨by omega, by omega⟩ (by omega) ?_
  refine mq_invV (ci := 11) (z := (mX12_august, 6, 0, 0)) (K' := (K.1 + 0 + 0, K.2 + 0 + 0)) (σ1 := σ2) (as := [mp_i (scr (Int.toNat (i + 1)))]) (st := [mp_i z]) (st1 := [mp_i z, mp_i z]) dL_law_646 svL_81 hm1 rfl rfl hm ⟨by decide, by decide, (show K.1 + 0 + 0 ≤ 601024 by omega), (show K.2 + 0 + 0 ≤ 7293034 by omega), Nat.le_of_ble_eq_true rfl⟩ rfl rfl rfl rfl ?_
  refine mq_icmp_same (tgt := 1661) dL_law_649 rfl ?_
  exact next σ2 _ hI2 (by show K.1 + 0 + 0 ≤ K.1 + 40; omega) (by show K.2 + 0 + 0 ≤ K.2 + 280; omega)
theorem cL_14 {n : Nat} {scr : Nat → Int} {σ : mp_H} {i : Int} {K : Nat × Nat} {Q : mp_QX} (hI : mp_Inv n scr σ) (hi : 0 ≤ i ∧ i + 6 ≤ n) (hn : n ≤ 3072) (hw : ∀ j, mp_w (scr j)) (hK : K.1 + 40 ≤ 601024 ∧ K.2 + 280 ≤ 7293034)
    (next : ∀ σ' K', mp_Inv n scr σ' → K'.1 ≤ K.1 + 40 → K'.2 ≤ K.2 + 280 → mp_AtX (mL_law, 10, 601024, 7293034) K' 1661 [some (Value.ref 0), some (Value.ref 1), some (Value.ref 44), some (Value.ref 58), some (mp_i i), none, none, none] [] σ' Q) : mp_AtX (mL_law, 10, 601024, 7293034) K 654 [some (Value.ref 0), some (Value.ref 1), some (Value.ref 44), some (Value.ref 58), some (mp_i i), none, none, none] [] σ Q := by
  obtain ⟨hs0, ⟨fs, hx⟩, -⟩ := hI.x
  refine mq_aload_n dL_law_654 rfl ?_
  refine mq_aload_n dL_law_655 rfl ?_
  refine mq_iload dL_law_656 rfl ?_
  refine mq_iconst dL_law_658 ?_
  refine mq_iadd (z := i + 1) dL_law_659 (by first | rfl | omega) ?_
  refine mq_saload (i := i + 1) (n := n) (f := scr) dL_law_660 hs0 ⟨by omega, by omega⟩ (by omega) ?_
  refine mq_aload_n dL_law_661 rfl ?_
  refine mq_iload dL_law_662 rfl ?_
  refine mq_iconst dL_law_664 ?_
  refine mq_iadd (z := i + 2) dL_law_665 (by first | rfl | omega) ?_
  refine mq_saload (i := i + 2) (n := n) (f := scr) dL_law_666 hs0 ⟨by omega, by omega⟩ (by omega) ?_
  obtain ⟨z, σ1, σ2, hc, hm, hI2, hs1, fs1, hm1⟩ := st_bestRoof (hw _) (hw _) hI
  refine mq_invV (ci := 10) (z := (mX11_bestRoof, 3, 0, 0)) (K' := (K.1 + 0, K.2 + 0)) (σ1 := σ1) (as := [mp_i (scr (Int.toNat (i + 1))), mp_i (scr (Int.toNat (i + 2)))]) (st := []) (st1 := [mp_i z]) dL_law_667 svL_82 hx rfl rfl hc ⟨by decide, by decide, (show K.1 + 0 ≤ 601024 by omega), (show K.2 + 0 ≤ 7293034 by omega), Nat.le_of_ble_eq_true rfl⟩ rfl rfl rfl rfl ?_
  refine mq_aload_n dL_law_670 rfl ?_
  refine mq_aload_n dL_law_671 rfl ?_
  refine mq_iload dL_law_672 rfl ?_
  refine mq_iconst dL_law_674 ?_
  refine mq_iadd (z := i + 1) dL_law_675 (by first | rfl | omega) ?_
  refine mq_saload (i := i + 1) (n := n) (f := scr) dL_law_676 hs1 ⟨by omega, by omega⟩ (by omega) ?_
  refine mq_aload_n dL_law_677 rfl ?_
  refine mq_iload dL_law_678 rfl ?_
  refine mq_iconst dL_law_680 ?_
  refine mq_iadd (z := i + 2) dL_law_681 (by first | rfl | omega) ?_
  refine mq_saload (i := i + 2) (n := n) (f := scr) dL_law_682 hs1 ⟨by omega, by omega⟩ (by omega) ?_
  refine mq_invV (ci := 11) (z := (mX12_bestRoof, 3, 0, 0)) (K' := (K.1 + 0 + 0, K.2 + 0 + 0)) (σ1 := σ2) (as := [mp_i (scr (Int.toNat (i + 1))), mp_i (scr (Int.toNat (i + 2)))]) (st := [mp_i z]) (st1 := [mp_i z, mp_i z]) dL_law_683 svL_85 hm1 rfl rfl hm ⟨by decide, by decide, (show K.1 + 0 + 0 ≤ 601024 by omega), (show K.2 + 0 + 0 ≤ 7293034 by omega), Nat.le_of_ble_eq_true rfl⟩ rfl rfl rfl rfl ?_
  refine mq_icmp_same (tgt := 1661) dL_law_686 rfl ?_
  exact next σ2 _ hI2 (by show K.1 + 0 + 0 ≤ K.1 + 40; omega) (by show K.2 + 0 + 0 ≤ K.2 + 280; omega)
theorem cL_15 {n : Nat} {scr : Nat → Int} {σ : mp_H} {i : Int} {K : Nat × Nat} {Q : mp_QX} (hI : mp_Inv n scr σ) (hi : 0 ≤ i ∧ i + 6 ≤ n) (hn : n ≤ 3072) (hw : ∀ j, mp_w (scr j)) (hK : K.1 + 40 ≤ 601024 ∧ K.2 + 280 ≤ 7293034)
    (next : ∀ σ' K', mp_Inv n scr σ' → K'.1 ≤ K.1 + 40 → K'.2 ≤ K.2 + 280 → mp_AtX (mL_law, 10, 601024, 7293034) K' 1661 [some (Value.ref 0), some (Value.ref 1), some (Value.ref 44), some (Value.ref 58), some (mp_i i), none, none, none] [] σ' Q) : mp_AtX (mL_law, 10, 601024, 7293034) K 691 [some (Value.ref 0), some (Value.ref 1), some (Value.ref 44), some (Value.ref 58), some (mp_i i), none, none, none] [] σ Q := by
  obtain ⟨hs0, ⟨fs, hx⟩, -⟩ := hI.x
  refine mq_aload_n dL_law_691 rfl ?_
  obtain ⟨z, σ1, σ2, hc, hm, hI2, hs1, fs1, hm1⟩ := st_roofs  hI
  refine mq_invV (ci := 10) (z := (mX11_roofs, 5, 0, 0)) (K' := (K.1 + 0, K.2 + 0)) (σ1 := σ1) (as := []) (st := []) (st1 := [mp_i z]) dL_law_692 svL_86 hx rfl rfl hc ⟨by decide, by decide, (show K.1 + 0 ≤ 601024 by omega), (show K.2 + 0 ≤ 7293034 by omega), Nat.le_of_ble_eq_true rfl⟩ rfl rfl rfl rfl ?_
  refine mq_aload_n dL_law_695 rfl ?_
  refine mq_invV (ci := 11) (z := (mX12_roofs, 4, 0, 0)) (K' := (K.1 + 0 + 0, K.2 + 0 + 0)) (σ1 := σ2) (as := []) (st := [mp_i z]) (st1 := [mp_i z, mp_i z]) dL_law_696 svL_89 hm1 rfl rfl hm ⟨by decide, by decide, (show K.1 + 0 + 0 ≤ 601024 by omega), (show K.2 + 0 + 0 ≤ 7293034 by omega), Nat.le_of_ble_eq_true rfl⟩ rfl rfl rfl rfl ?_
  refine mq_icmp_same (tgt := 1661) dL_law_699 rfl ?_
  exact next σ2 _ hI2 (by show K.1 + 0 + 0 ≤ K.1 + 40; omega) (by show K.2 + 0 + 0 ≤ K.2 + 280; omega)
theorem cL_16 {n : Nat} {scr : Nat → Int} {σ : mp_H} {i : Int} {K : Nat × Nat} {Q : mp_QX} (hI : mp_Inv n scr σ) (hi : 0 ≤ i ∧ i + 6 ≤ n) (hn : n ≤ 3072) (hw : ∀ j, mp_w (scr j)) (hK : K.1 + 40 ≤ 601024 ∧ K.2 + 280 ≤ 7293034)
    (next : ∀ σ' K', mp_Inv n scr σ' → K'.1 ≤ K.1 + 40 → K'.2 ≤ K.2 + 280 → mp_AtX (mL_law, 10, 601024, 7293034) K' 1661 [some (Value.ref 0), some (Value.ref 1), some (Value.ref 44), some (Value.ref 58), some (mp_i i), none, none, none] [] σ' Q) : mp_AtX (mL_law, 10, 601024, 7293034) K 704 [some (Value.ref 0), some (Value.ref 1), some (Value.ref 44), some (Value.ref 58), some (mp_i i), none, none, none] [] σ Q := by
  obtain ⟨hs0, ⟨fs, hx⟩, -⟩ := hI.x
  refine mq_aload_n dL_law_704 rfl ?_
  refine mq_aload_n dL_law_705 rfl ?_
  refine mq_iload dL_law_706 rfl ?_
  refine mq_iconst dL_law_708 ?_
  refine mq_iadd (z := i + 1) dL_law_709 (by first | rfl | omega) ?_
  refine mq_saload (i := i + 1) (n := n) (f := scr) dL_law_710 hs0 ⟨by omega, by omega⟩ (by omega) ?_
  obtain ⟨z, σ1, σ2, hc, hm, hI2, hs1, fs1, hm1⟩ := st_wed (hw _) hI
  refine mq_invV (ci := 10) (z := (mX11_wed, 5, 0, 0)) (K' := (K.1 + 0, K.2 + 0)) (σ1 := σ1) (as := [mp_i (scr (Int.toNat (i + 1)))]) (st := []) (st1 := [mp_i z]) dL_law_711 svL_90 hx rfl rfl hc ⟨by decide, by decide, (show K.1 + 0 ≤ 601024 by omega), (show K.2 + 0 ≤ 7293034 by omega), Nat.le_of_ble_eq_true rfl⟩ rfl rfl rfl rfl ?_
  refine mq_aload_n dL_law_714 rfl ?_
  refine mq_aload_n dL_law_715 rfl ?_
  refine mq_iload dL_law_716 rfl ?_
  refine mq_iconst dL_law_718 ?_
  refine mq_iadd (z := i + 1) dL_law_719 (by first | rfl | omega) ?_
  refine mq_saload (i := i + 1) (n := n) (f := scr) dL_law_720 hs1 ⟨by omega, by omega⟩ (by omega) ?_
  refine mq_invV (ci := 11) (z := (mX12_wed, 6, 0, 0)) (K' := (K.1 + 0 + 0, K.2 + 0 + 0)) (σ1 := σ2) (as := [mp_i (scr (Int.toNat (i + 1)))]) (st := [mp_i z]) (st1 := [mp_i z, mp_i z]) dL_law_721 svL_93 hm1 rfl rfl hm ⟨by decide, by decide, (show K.1 + 0 + 0 ≤ 601024 by omega), (show K.2 + 0 + 0 ≤ 7293034 by omega), Nat.le_of_ble_eq_true rfl⟩ rfl rfl rfl rfl ?_
  refine mq_icmp_same (tgt := 1661) dL_law_724 rfl ?_
  exact next σ2 _ hI2 (by show K.1 + 0 + 0 ≤ K.1 + 40; omega) (by show K.2 + 0 + 0 ≤ K.2 + 280; omega)
theorem cL_17 {n : Nat} {scr : Nat → Int} {σ : mp_H} {i : Int} {K : Nat × Nat} {Q : mp_QX} (hI : mp_Inv n scr σ) (hi : 0 ≤ i ∧ i + 6 ≤ n) (hn : n ≤ 3072) (hw : ∀ j, mp_w (scr j)) (hK : K.1 + 40 ≤ 601024 ∧ K.2 + 280 ≤ 7293034)
    (next : ∀ σ' K', mp_Inv n scr σ' → K'.1 ≤ K.1 + 40 → K'.2 ≤ K.2 + 280 → mp_AtX (mL_law, 10, 601024, 7293034) K' 1661 [some (Value.ref 0), some (Value.ref 1), some (Value.ref 44), some (Value.ref 58), some (mp_i i), none, none, none] [] σ' Q) : mp_AtX (mL_law, 10, 601024, 7293034) K 729 [some (Value.ref 0), some (Value.ref 1), some (Value.ref 44), some (Value.ref 58), some (mp_i i), none, none, none] [] σ Q := by
  obtain ⟨hs0, ⟨fs, hx⟩, -⟩ := hI.x
  refine mq_aload_n dL_law_729 rfl ?_
  refine mq_aload_n dL_law_730 rfl ?_
  refine mq_iload dL_law_731 rfl ?_
  refine mq_iconst dL_law_733 ?_
  refine mq_iadd (z := i + 1) dL_law_734 (by first | rfl | omega) ?_
  refine mq_saload (i := i + 1) (n := n) (f := scr) dL_law_735 hs0 ⟨by omega, by omega⟩ (by omega) ?_
  obtain ⟨z, σ1, σ2, hc, hm, hI2, hs1, fs1, hm1⟩ := st_rings (hw _) hI
  refine mq_invV (ci := 10) (z := (mX11_rings, 7, 0, 0)) (K' := (K.1 + 0, K.2 + 0)) (σ1 := σ1) (as := [mp_i (scr (Int.toNat (i + 1)))]) (st := []) (st1 := [mp_i z]) dL_law_736 svL_94 hx rfl rfl hc ⟨by decide, by decide, (show K.1 + 0 ≤ 601024 by omega), (show K.2 + 0 ≤ 7293034 by omega), Nat.le_of_ble_eq_true rfl⟩ rfl rfl rfl rfl ?_
  refine mq_aload_n dL_law_739 rfl ?_
  refine mq_aload_n dL_law_740 rfl ?_
  refine mq_iload dL_law_741 rfl ?_
  refine mq_iconst dL_law_743 ?_
  refine mq_iadd (z := i + 1) dL_law_744 (by first | rfl | omega) ?_
  refine mq_saload (i := i + 1) (n := n) (f := scr) dL_law_745 hs1 ⟨by omega, by omega⟩ (by omega) ?_
  refine mq_invV (ci := 11) (z := (mX12_rings, 8, 0, 0)) (K' := (K.1 + 0 + 0, K.2 + 0 + 0)) (σ1 := σ2) (as := [mp_i (scr (Int.toNat (i + 1)))]) (st := [mp_i z]) (st1 := [mp_i z, mp_i z]) dL_law_746 svL_97 hm1 rfl rfl hm ⟨by decide, by decide, (show K.1 + 0 + 0 ≤ 601024 by omega), (show K.2 + 0 + 0 ≤ 7293034 by omega), Nat.le_of_ble_eq_true rfl⟩ rfl rfl rfl rfl ?_
  refine mq_icmp_same (tgt := 1661) dL_law_749 rfl ?_
  exact next σ2 _ hI2 (by show K.1 + 0 + 0 ≤ K.1 + 40; omega) (by show K.2 + 0 + 0 ≤ K.2 + 280; omega)
theorem cL_18 {n : Nat} {scr : Nat → Int} {σ : mp_H} {i : Int} {K : Nat × Nat} {Q : mp_QX} (hI : mp_Inv n scr σ) (hi : 0 ≤ i ∧ i + 6 ≤ n) (hn : n ≤ 3072) (hw : ∀ j, mp_w (scr j)) (hK : K.1 + 40 ≤ 601024 ∧ K.2 + 280 ≤ 7293034)
    (next : ∀ σ' K', mp_Inv n scr σ' → K'.1 ≤ K.1 + 40 → K'.2 ≤ K.2 + 280 → mp_AtX (mL_law, 10, 601024, 7293034) K' 1661 [some (Value.ref 0), some (Value.ref 1), some (Value.ref 44), some (Value.ref 58), some (mp_i i), none, none, none] [] σ' Q) : mp_AtX (mL_law, 10, 601024, 7293034) K 754 [some (Value.ref 0), some (Value.ref 1), some (Value.ref 44), some (Value.ref 58), some (mp_i i), none, none, none] [] σ Q := by
  obtain ⟨hs0, ⟨fs, hx⟩, -⟩ := hI.x
  refine mq_aload_n dL_law_754 rfl ?_
  refine mq_aload_n dL_law_755 rfl ?_
  refine mq_iload dL_law_756 rfl ?_
  refine mq_iconst dL_law_758 ?_
  refine mq_iadd (z := i + 1) dL_law_759 (by first | rfl | omega) ?_
  refine mq_saload (i := i + 1) (n := n) (f := scr) dL_law_760 hs0 ⟨by omega, by omega⟩ (by omega) ?_
  refine mq_aload_n dL_law_761 rfl ?_
  refine mq_iload dL_law_762 rfl ?_
  refine mq_iconst dL_law_764 ?_
  refine mq_iadd (z := i + 2) dL_law_765 (by first | rfl | omega) ?_
  refine mq_saload (i := i + 2) (n := n) (f := scr) dL_law_766 hs0 ⟨by omega, by omega⟩ (by omega) ?_
  obtain ⟨z, σ1, σ2, hc, hm, hI2, hs1, fs1, hm1⟩ := st_curve (hw _) (hw _) hI
  refine mq_invV (ci := 10) (z := (mX11_curve, 3, 0, 0)) (K' := (K.1 + 0, K.2 + 0)) (σ1 := σ1) (as := [mp_i (scr (Int.toNat (i + 1))), mp_i (scr (Int.toNat (i + 2)))]) (st := []) (st1 := [mp_i z]) dL_law_767 svL_98 hx rfl rfl hc ⟨by decide, by decide, (show K.1 + 0 ≤ 601024 by omega), (show K.2 + 0 ≤ 7293034 by omega), Nat.le_of_ble_eq_true rfl⟩ rfl rfl rfl rfl ?_
  refine mq_aload_n dL_law_770 rfl ?_
  refine mq_aload_n dL_law_771 rfl ?_
  refine mq_iload dL_law_772 rfl ?_
  refine mq_iconst dL_law_774 ?_
  refine mq_iadd (z := i + 1) dL_law_775 (by first | rfl | omega) ?_
  refine mq_saload (i := i + 1) (n := n) (f := scr) dL_law_776 hs1 ⟨by omega, by omega⟩ (by omega) ?_
  refine mq_aload_n dL_law_777 rfl ?_
  refine mq_iload dL_law_778 rfl ?_
  refine mq_iconst dL_law_780 ?_
  refine mq_iadd (z := i + 2) dL_law_781 (by first | rfl | omega) ?_
  refine mq_saload (i := i + 2) (n := n) (f := scr) dL_law_782 hs1 ⟨by omega, by omega⟩ (by omega) ?_
  refine mq_invV (ci := 11) (z := (mX12_curve, 3, 0, 0)) (K' := (K.1 + 0 + 0, K.2 + 0 + 0)) (σ1 := σ2) (as := [mp_i (scr (Int.toNat (i + 1))), mp_i (scr (Int.toNat (i + 2)))]) (st := [mp_i z]) (st1 := [mp_i z, mp_i z]) dL_law_783 svL_101 hm1 rfl rfl hm ⟨by decide, by decide, (show K.1 + 0 + 0 ≤ 601024 by omega), (show K.2 + 0 + 0 ≤ 7293034 by omega), Nat.le_of_ble_eq_true rfl⟩ rfl rfl rfl rfl ?_
  refine mq_icmp_same (tgt := 1661) dL_law_786 rfl ?_
  exact next σ2 _ hI2 (by show K.1 + 0 + 0 ≤ K.1 + 40; omega) (by show K.2 + 0 + 0 ≤ K.2 + 280; omega)
theorem cL_19 {n : Nat} {scr : Nat → Int} {σ : mp_H} {i : Int} {K : Nat × Nat} {Q : mp_QX} (hI : mp_Inv n scr σ) (hi : 0 ≤ i ∧ i + 6 ≤ n) (hn : n ≤ 3072) (hw : ∀ j, mp_w (scr j)) (hK : K.1 + 40 ≤ 601024 ∧ K.2 + 280 ≤ 7293034)
    (next : ∀ σ' K', mp_Inv n scr σ' → K'.1 ≤ K.1 + 40 → K'.2 ≤ K.2 + 280 → mp_AtX (mL_law, 10, 601024, 7293034) K' 1661 [some (Value.ref 0), some (Value.ref 1), some (Value.ref 44), some (Value.ref 58), some (mp_i i), none, none, none] [] σ' Q) : mp_AtX (mL_law, 10, 601024, 7293034) K 791 [some (Value.ref 0), some (Value.ref 1), some (Value.ref 44), some (Value.ref 58), some (mp_i i), none, none, none] [] σ Q := by
  obtain ⟨hs0, ⟨fs, hx⟩, -⟩ := hI.x
  refine mq_aload_n dL_law_791 rfl ?_
  refine mq_aload_n dL_law_792 rfl ?_
  refine mq_iload dL_law_793 rfl ?_
  refine mq_iconst dL_law_795 ?_
  refine mq_iadd (z := i + 1) dL_law_796 (by first | rfl | omega) ?_
  refine mq_saload (i := i + 1) (n := n) (f := scr) dL_law_797 hs0 ⟨by omega, by omega⟩ (by omega) ?_
  refine mq_aload_n dL_law_798 rfl ?_
  refine mq_iload dL_law_799 rfl ?_
  refine mq_iconst dL_law_801 ?_
  refine mq_iadd (z := i + 2) dL_law_802 (by first | rfl | omega) ?_
  refine mq_saload (i := i + 2) (n := n) (f := scr) dL_law_803 hs0 ⟨by omega, by omega⟩ (by omega) ?_
  obtain ⟨z, σ1, σ2, hc, hm, hI2, hs1, fs1, hm1⟩ := st_comes (hw _) (hw _) hI
  refine mq_invV (ci := 10) (z := (mX11_comes, 3, 0, 0)) (K' := (K.1 + 0, K.2 + 0)) (σ1 := σ1) (as := [mp_i (scr (Int.toNat (i + 1))), mp_i (scr (Int.toNat (i + 2)))]) (st := []) (st1 := [mp_i z]) dL_law_804 svL_102 hx rfl rfl hc ⟨by decide, by decide, (show K.1 + 0 ≤ 601024 by omega), (show K.2 + 0 ≤ 7293034 by omega), Nat.le_of_ble_eq_true rfl⟩ rfl rfl rfl rfl ?_
  refine mq_aload_n dL_law_807 rfl ?_
  refine mq_aload_n dL_law_808 rfl ?_
  refine mq_iload dL_law_809 rfl ?_
  refine mq_iconst dL_law_811 ?_
  refine mq_iadd (z := i + 1) dL_law_812 (by first | rfl | omega) ?_
  refine mq_saload (i := i + 1) (n := n) (f := scr) dL_law_813 hs1 ⟨by omega, by omega⟩ (by omega) ?_
  refine mq_aload_n dL_law_814 rfl ?_
  refine mq_iload dL_law_815 rfl ?_
  refine mq_iconst dL_law_817 ?_
  refine mq_iadd (z := i + 2) dL_law_818 (by first | rfl | omega) ?_
  refine mq_saload (i := i + 2) (n := n) (f := scr) dL_law_819 hs1 ⟨by omega, by omega⟩ (by omega) ?_
  refine mq_invV (ci := 11) (z := (mX12_comes, 2, 0, 0)) (K' := (K.1 + 0 + 0, K.2 + 0 + 0)) (σ1 := σ2) (as := [mp_i (scr (Int.toNat (i + 1))), mp_i (scr (Int.toNat (i + 2)))]) (st := [mp_i z]) (st1 := [mp_i z, mp_i z]) dL_law_820 svL_105 hm1 rfl rfl hm ⟨by decide, by decide, (show K.1 + 0 + 0 ≤ 601024 by omega), (show K.2 + 0 + 0 ≤ 7293034 by omega), Nat.le_of_ble_eq_true rfl⟩ rfl rfl rfl rfl ?_
  refine mq_icmp_same (tgt := 1661) dL_law_823 rfl ?_
  exact next σ2 _ hI2 (by show K.1 + 0 + 0 ≤ K.1 + 40; omega) (by show K.2 + 0 + 0 ≤ K.2 + 280; omega)
theorem cL_20 {n : Nat} {scr : Nat → Int} {σ : mp_H} {i : Int} {K : Nat × Nat} {Q : mp_QX} (hI : mp_Inv n scr σ) (hi : 0 ≤ i ∧ i + 6 ≤ n) (hn : n ≤ 3072) (hw : ∀ j, mp_w (scr j)) (hK : K.1 + 40 ≤ 601024 ∧ K.2 + 280 ≤ 7293034)
    (next : ∀ σ' K', mp_Inv n scr σ' → K'.1 ≤ K.1 + 40 → K'.2 ≤ K.2 + 280 → mp_AtX (mL_law, 10, 601024, 7293034) K' 1661 [some (Value.ref 0), some (Value.ref 1), some (Value.ref 44), some (Value.ref 58), some (mp_i i), none, none, none] [] σ' Q) : mp_AtX (mL_law, 10, 601024, 7293034) K 828 [some (Value.ref 0), some (Value.ref 1), some (Value.ref 44), some (Value.ref 58), some (mp_i i), none, none, none] [] σ Q := by
  obtain ⟨hs0, ⟨fs, hx⟩, -⟩ := hI.x
  refine mq_aload_n dL_law_828 rfl ?_
  refine mq_aload_n dL_law_829 rfl ?_
  refine mq_iload dL_law_830 rfl ?_
  refine mq_iconst dL_law_832 ?_
  refine mq_iadd (z := i + 1) dL_law_833 (by first | rfl | omega) ?_
  refine mq_saload (i := i + 1) (n := n) (f := scr) dL_law_834 hs0 ⟨by omega, by omega⟩ (by omega) ?_
  refine mq_aload_n dL_law_835 rfl ?_
  refine mq_iload dL_law_836 rfl ?_
  refine mq_iconst dL_law_838 ?_
  refine mq_iadd (z := i + 2) dL_law_839 (by first | rfl | omega) ?_
  refine mq_saload (i := i + 2) (n := n) (f := scr) dL_law_840 hs0 ⟨by omega, by omega⟩ (by omega) ?_
  obtain ⟨z, σ1, σ2, hc, hm, hI2, hs1, fs1, hm1⟩ := st_together (hw _) (hw _) hI
  refine mq_invV (ci := 10) (z := (mX11_together, 3, 0, 0)) (K' := (K.1 + 0, K.2 + 0)) (σ1 := σ1) (as := [mp_i (scr (Int.toNat (i + 1))), mp_i (scr (Int.toNat (i + 2)))]) (st := []) (st1 := [mp_i z]) dL_law_841 svL_106 hx rfl rfl hc ⟨by decide, by decide, (show K.1 + 0 ≤ 601024 by omega), (show K.2 + 0 ≤ 7293034 by omega), Nat.le_of_ble_eq_true rfl⟩ rfl rfl rfl rfl ?_
  refine mq_aload_n dL_law_844 rfl ?_
  refine mq_aload_n dL_law_845 rfl ?_
  refine mq_iload dL_law_846 rfl ?_
  refine mq_iconst dL_law_848 ?_
  refine mq_iadd (z := i + 1) dL_law_849 (by first | rfl | omega) ?_
  refine mq_saload (i := i + 1) (n := n) (f := scr) dL_law_850 hs1 ⟨by omega, by omega⟩ (by omega) ?_
  refine mq_aload_n dL_law_851 rfl ?_
  refine mq_iload dL_law_852 rfl ?_
  refine mq_iconst dL_law_854 ?_
  refine mq_iadd (z := i + 2) dL_law_855 (by first | rfl | omega) ?_
  refine mq_saload (i := i + 2) (n := n) (f := scr) dL_law_856 hs1 ⟨by omega, by omega⟩ (by omega) ?_
  refine mq_invV (ci := 11) (z := (mX12_together, 2, 0, 0)) (K' := (K.1 + 0 + 0, K.2 + 0 + 0)) (σ1 := σ2) (as := [mp_i (scr (Int.toNat (i + 1))), mp_i (scr (Int.toNat (i + 2)))]) (st := [mp_i z]) (st1 := [mp_i z, mp_i z]) dL_law_857 svL_109 hm1 rfl rfl hm ⟨by decide, by decide, (show K.1 + 0 + 0 ≤ 601024 by omega), (show K.2 + 0 + 0 ≤ 7293034 by omega), Nat.le_of_ble_eq_true rfl⟩ rfl rfl rfl rfl ?_
  refine mq_icmp_same (tgt := 1661) dL_law_860 rfl ?_
  exact next σ2 _ hI2 (by show K.1 + 0 + 0 ≤ K.1 + 40; omega) (by show K.2 + 0 + 0 ≤ K.2 + 280; omega)
theorem cL_21 {n : Nat} {scr : Nat → Int} {σ : mp_H} {i : Int} {K : Nat × Nat} {Q : mp_QX} (hI : mp_Inv n scr σ) (hi : 0 ≤ i ∧ i + 6 ≤ n) (hn : n ≤ 3072) (hw : ∀ j, mp_w (scr j)) (hK : K.1 + 40 ≤ 601024 ∧ K.2 + 280 ≤ 7293034)
    (next : ∀ σ' K', mp_Inv n scr σ' → K'.1 ≤ K.1 + 40 → K'.2 ≤ K.2 + 280 → mp_AtX (mL_law, 10, 601024, 7293034) K' 1661 [some (Value.ref 0), some (Value.ref 1), some (Value.ref 44), some (Value.ref 58), some (mp_i i), none, none, none] [] σ' Q) : mp_AtX (mL_law, 10, 601024, 7293034) K 865 [some (Value.ref 0), some (Value.ref 1), some (Value.ref 44), some (Value.ref 58), some (mp_i i), none, none, none] [] σ Q := by
  obtain ⟨hs0, ⟨fs, hx⟩, -⟩ := hI.x
  refine mq_aload_n dL_law_865 rfl ?_
  refine mq_aload_n dL_law_866 rfl ?_
  refine mq_iload dL_law_867 rfl ?_
  refine mq_iconst dL_law_869 ?_
  refine mq_iadd (z := i + 1) dL_law_870 (by first | rfl | omega) ?_
  refine mq_saload (i := i + 1) (n := n) (f := scr) dL_law_871 hs0 ⟨by omega, by omega⟩ (by omega) ?_
  refine mq_aload_n dL_law_872 rfl ?_
  refine mq_iload dL_law_873 rfl ?_
  refine mq_iconst dL_law_875 ?_
  refine mq_iadd (z := i + 2) dL_law_876 (by first | rfl | omega) ?_
  refine mq_saload (i := i + 2) (n := n) (f := scr) dL_law_877 hs0 ⟨by omega, by omega⟩ (by omega) ?_
  refine mq_aload_n dL_law_878 rfl ?_
  refine mq_iload dL_law_879 rfl ?_
  refine mq_iconst dL_law_881 ?_
  refine mq_iadd (z := i + 3) dL_law_882 (by first | rfl | omega) ?_
  refine mq_saload (i := i + 3) (n := n) (f := scr) dL_law_883 hs0 ⟨by omega, by omega⟩ (by omega) ?_
  refine mq_aload_n dL_law_884 rfl ?_
  refine mq_iload dL_law_885 rfl ?_
  refine mq_iconst dL_law_887 ?_
  refine mq_iadd (z := i + 4) dL_law_888 (by first | rfl | omega) ?_
  refine mq_saload (i := i + 4) (n := n) (f := scr) dL_law_889 hs0 ⟨by omega, by omega⟩ (by omega) ?_
  obtain ⟨z, σ1, σ2, hc, hm, hI2, hs1, fs1, hm1⟩ := st_clouds (hw _) (hw _) (hw _) (hw _) hI
  refine mq_invV (ci := 10) (z := (mX11_clouds, 2, 0, 0)) (K' := (K.1 + 0, K.2 + 0)) (σ1 := σ1) (as := [mp_i (scr (Int.toNat (i + 1))), mp_i (scr (Int.toNat (i + 2))), mp_i (scr (Int.toNat (i + 3))), mp_i (scr (Int.toNat (i + 4)))]) (st := []) (st1 := [mp_l z]) dL_law_890 svL_110 hx rfl rfl hc ⟨by decide, by decide, (show K.1 + 0 ≤ 601024 by omega), (show K.2 + 0 ≤ 7293034 by omega), Nat.le_of_ble_eq_true rfl⟩ rfl rfl rfl rfl ?_
  refine mq_aload_n dL_law_893 rfl ?_
  refine mq_aload_n dL_law_894 rfl ?_
  refine mq_iload dL_law_895 rfl ?_
  refine mq_iconst dL_law_897 ?_
  refine mq_iadd (z := i + 1) dL_law_898 (by first | rfl | omega) ?_
  refine mq_saload (i := i + 1) (n := n) (f := scr) dL_law_899 hs1 ⟨by omega, by omega⟩ (by omega) ?_
  refine mq_aload_n dL_law_900 rfl ?_
  refine mq_iload dL_law_901 rfl ?_
  refine mq_iconst dL_law_903 ?_
  refine mq_iadd (z := i + 2) dL_law_904 (by first | rfl | omega) ?_
  refine mq_saload (i := i + 2) (n := n) (f := scr) dL_law_905 hs1 ⟨by omega, by omega⟩ (by omega) ?_
  refine mq_aload_n dL_law_906 rfl ?_
  refine mq_iload dL_law_907 rfl ?_
  refine mq_iconst dL_law_909 ?_
  refine mq_iadd (z := i + 3) dL_law_910 (by first | rfl | omega) ?_
  refine mq_saload (i := i + 3) (n := n) (f := scr) dL_law_911 hs1 ⟨by omega, by omega⟩ (by omega) ?_
  refine mq_aload_n dL_law_912 rfl ?_
  refine mq_iload dL_law_913 rfl ?_
  refine mq_iconst dL_law_915 ?_
  refine mq_iadd (z := i + 4) dL_law_916 (by first | rfl | omega) ?_
  refine mq_saload (i := i + 4) (n := n) (f := scr) dL_law_917 hs1 ⟨by omega, by omega⟩ (by omega) ?_
  refine mq_invV (ci := 11) (z := (mX12_clouds, 3, 0, 0)) (K' := (K.1 + 0 + 0, K.2 + 0 + 0)) (σ1 := σ2) (as := [mp_i (scr (Int.toNat (i + 1))), mp_i (scr (Int.toNat (i + 2))), mp_i (scr (Int.toNat (i + 3))), mp_i (scr (Int.toNat (i + 4)))]) (st := [mp_l z]) (st1 := [mp_l z, mp_l z]) dL_law_918 svL_114 hm1 rfl rfl hm ⟨by decide, by decide, (show K.1 + 0 + 0 ≤ 601024 by omega), (show K.2 + 0 + 0 ≤ 7293034 by omega), Nat.le_of_ble_eq_true rfl⟩ rfl rfl rfl rfl ?_
  refine mq_lcmp_same dL_law_921 ?_
  refine mq_if_eq (tgt := 1661) (a := 0) dL_law_922 rfl ⟨by decide, by decide⟩ (fun _ => ?_) (fun h => absurd rfl h)
  exact next σ2 _ hI2 (by show K.1 + 0 + 0 ≤ K.1 + 40; omega) (by show K.2 + 0 + 0 ≤ K.2 + 280; omega)
theorem cL_22 {n : Nat} {scr : Nat → Int} {σ : mp_H} {i : Int} {K : Nat × Nat} {Q : mp_QX} (hI : mp_Inv n scr σ) (hi : 0 ≤ i ∧ i + 6 ≤ n) (hn : n ≤ 3072) (hw : ∀ j, mp_w (scr j)) (hK : K.1 + 40 ≤ 601024 ∧ K.2 + 280 ≤ 7293034)
    (next : ∀ σ' K', mp_Inv n scr σ' → K'.1 ≤ K.1 + 40 → K'.2 ≤ K.2 + 280 → mp_AtX (mL_law, 10, 601024, 7293034) K' 1661 [some (Value.ref 0), some (Value.ref 1), some (Value.ref 44), some (Value.ref 58), some (mp_i i), none, none, none] [] σ' Q) : mp_AtX (mL_law, 10, 601024, 7293034) K 927 [some (Value.ref 0), some (Value.ref 1), some (Value.ref 44), some (Value.ref 58), some (mp_i i), none, none, none] [] σ Q := by
  obtain ⟨hs0, ⟨fs, hx⟩, -⟩ := hI.x
  refine mq_aload_n dL_law_927 rfl ?_
  refine mq_aload_n dL_law_928 rfl ?_
  refine mq_iload dL_law_929 rfl ?_
  refine mq_iconst dL_law_931 ?_
  refine mq_iadd (z := i + 1) dL_law_932 (by first | rfl | omega) ?_
  refine mq_saload (i := i + 1) (n := n) (f := scr) dL_law_933 hs0 ⟨by omega, by omega⟩ (by omega) ?_
  refine mq_aload_n dL_law_934 rfl ?_
  refine mq_iload dL_law_935 rfl ?_
  refine mq_iconst dL_law_937 ?_
  refine mq_iadd (z := i + 2) dL_law_938 (by first | rfl | omega) ?_
  refine mq_saload (i := i + 2) (n := n) (f := scr) dL_law_939 hs0 ⟨by omega, by omega⟩ (by omega) ?_
  obtain ⟨z, σ1, σ2, hc, hm, hI2, hs1, fs1, hm1⟩ := st_darkOnes (hw _) (hw _) hI
  refine mq_invV (ci := 10) (z := (mX11_darkOnes, 3, 0, 0)) (K' := (K.1 + 0, K.2 + 0)) (σ1 := σ1) (as := [mp_i (scr (Int.toNat (i + 1))), mp_i (scr (Int.toNat (i + 2)))]) (st := []) (st1 := [mp_i z]) dL_law_940 svL_115 hx rfl rfl hc ⟨by decide, by decide, (show K.1 + 0 ≤ 601024 by omega), (show K.2 + 0 ≤ 7293034 by omega), Nat.le_of_ble_eq_true rfl⟩ rfl rfl rfl rfl ?_
  refine mq_aload_n dL_law_943 rfl ?_
  refine mq_aload_n dL_law_944 rfl ?_
  refine mq_iload dL_law_945 rfl ?_
  refine mq_iconst dL_law_947 ?_
  refine mq_iadd (z := i + 1) dL_law_948 (by first | rfl | omega) ?_
  refine mq_saload (i := i + 1) (n := n) (f := scr) dL_law_949 hs1 ⟨by omega, by omega⟩ (by omega) ?_
  refine mq_aload_n dL_law_950 rfl ?_
  refine mq_iload dL_law_951 rfl ?_
  refine mq_iconst dL_law_953 ?_
  refine mq_iadd (z := i + 2) dL_law_954 (by first | rfl | omega) ?_
  refine mq_saload (i := i + 2) (n := n) (f := scr) dL_law_955 hs1 ⟨by omega, by omega⟩ (by omega) ?_
  refine mq_invV (ci := 11) (z := (mX12_darkOnes, 3, 0, 0)) (K' := (K.1 + 0 + 0, K.2 + 0 + 0)) (σ1 := σ2) (as := [mp_i (scr (Int.toNat (i + 1))), mp_i (scr (Int.toNat (i + 2)))]) (st := [mp_i z]) (st1 := [mp_i z, mp_i z]) dL_law_956 svL_118 hm1 rfl rfl hm ⟨by decide, by decide, (show K.1 + 0 + 0 ≤ 601024 by omega), (show K.2 + 0 + 0 ≤ 7293034 by omega), Nat.le_of_ble_eq_true rfl⟩ rfl rfl rfl rfl ?_
  refine mq_icmp_same (tgt := 1661) dL_law_959 rfl ?_
  exact next σ2 _ hI2 (by show K.1 + 0 + 0 ≤ K.1 + 40; omega) (by show K.2 + 0 + 0 ≤ K.2 + 280; omega)
theorem cL_23 {n : Nat} {scr : Nat → Int} {σ : mp_H} {i : Int} {K : Nat × Nat} {Q : mp_QX} (hI : mp_Inv n scr σ) (hi : 0 ≤ i ∧ i + 6 ≤ n) (hn : n ≤ 3072) (hw : ∀ j, mp_w (scr j)) (hK : K.1 + 40 ≤ 601024 ∧ K.2 + 280 ≤ 7293034)
    (next : ∀ σ' K', mp_Inv n scr σ' → K'.1 ≤ K.1 + 40 → K'.2 ≤ K.2 + 280 → mp_AtX (mL_law, 10, 601024, 7293034) K' 1661 [some (Value.ref 0), some (Value.ref 1), some (Value.ref 44), some (Value.ref 58), some (mp_i i), none, none, none] [] σ' Q) : mp_AtX (mL_law, 10, 601024, 7293034) K 964 [some (Value.ref 0), some (Value.ref 1), some (Value.ref 44), some (Value.ref 58), some (mp_i i), none, none, none] [] σ Q := by
  obtain ⟨hs0, ⟨fs, hx⟩, -⟩ := hI.x
  refine mq_aload_n dL_law_964 rfl ?_
  refine mq_aload_n dL_law_965 rfl ?_
  refine mq_iload dL_law_966 rfl ?_
  refine mq_iconst dL_law_968 ?_
  refine mq_iadd (z := i + 1) dL_law_969 (by first | rfl | omega) ?_
  refine mq_saload (i := i + 1) (n := n) (f := scr) dL_law_970 hs0 ⟨by omega, by omega⟩ (by omega) ?_
  refine mq_aload_n dL_law_971 rfl ?_
  refine mq_iload dL_law_972 rfl ?_
  refine mq_iconst dL_law_974 ?_
  refine mq_iadd (z := i + 2) dL_law_975 (by first | rfl | omega) ?_
  refine mq_saload (i := i + 2) (n := n) (f := scr) dL_law_976 hs0 ⟨by omega, by omega⟩ (by omega) ?_
  refine mq_aload_n dL_law_977 rfl ?_
  refine mq_iload dL_law_978 rfl ?_
  refine mq_iconst dL_law_980 ?_
  refine mq_iadd (z := i + 3) dL_law_981 (by first | rfl | omega) ?_
  refine mq_saload (i := i + 3) (n := n) (f := scr) dL_law_982 hs0 ⟨by omega, by omega⟩ (by omega) ?_
  refine mq_aload_n dL_law_983 rfl ?_
  refine mq_iload dL_law_984 rfl ?_
  refine mq_iconst dL_law_986 ?_
  refine mq_iadd (z := i + 4) dL_law_987 (by first | rfl | omega) ?_
  refine mq_saload (i := i + 4) (n := n) (f := scr) dL_law_988 hs0 ⟨by omega, by omega⟩ (by omega) ?_
  obtain ⟨z, σ1, σ2, hc, hm, hI2, hs1, fs1, hm1⟩ := st_game (hw _) (hw _) (hw _) (hw _) hI
  refine mq_invV (ci := 10) (z := (mX11_game, 3, 0, 0)) (K' := (K.1 + 0, K.2 + 0)) (σ1 := σ1) (as := [mp_i (scr (Int.toNat (i + 1))), mp_i (scr (Int.toNat (i + 2))), mp_i (scr (Int.toNat (i + 3))), mp_i (scr (Int.toNat (i + 4)))]) (st := []) (st1 := [mp_i z]) dL_law_989 svL_119 hx rfl rfl hc ⟨by decide, by decide, (show K.1 + 0 ≤ 601024 by omega), (show K.2 + 0 ≤ 7293034 by omega), Nat.le_of_ble_eq_true rfl⟩ rfl rfl rfl rfl ?_
  refine mq_aload_n dL_law_992 rfl ?_
  refine mq_aload_n dL_law_993 rfl ?_
  refine mq_iload dL_law_994 rfl ?_
  refine mq_iconst dL_law_996 ?_
  refine mq_iadd (z := i + 1) dL_law_997 (by first | rfl | omega) ?_
  refine mq_saload (i := i + 1) (n := n) (f := scr) dL_law_998 hs1 ⟨by omega, by omega⟩ (by omega) ?_
  refine mq_aload_n dL_law_999 rfl ?_
  refine mq_iload dL_law_1000 rfl ?_
  refine mq_iconst dL_law_1002 ?_
  refine mq_iadd (z := i + 2) dL_law_1003 (by first | rfl | omega) ?_
  refine mq_saload (i := i + 2) (n := n) (f := scr) dL_law_1004 hs1 ⟨by omega, by omega⟩ (by omega) ?_
  refine mq_aload_n dL_law_1005 rfl ?_
  refine mq_iload dL_law_1006 rfl ?_
  refine mq_iconst dL_law_1008 ?_
  refine mq_iadd (z := i + 3) dL_law_1009 (by first | rfl | omega) ?_
  refine mq_saload (i := i + 3) (n := n) (f := scr) dL_law_1010 hs1 ⟨by omega, by omega⟩ (by omega) ?_
  refine mq_aload_n dL_law_1011 rfl ?_
  refine mq_iload dL_law_1012 rfl ?_
  refine mq_iconst dL_law_1014 ?_
  refine mq_iadd (z := i + 4) dL_law_1015 (by first | rfl | omega) ?_
  refine mq_saload (i := i + 4) (n := n) (f := scr) dL_law_1016 hs1 ⟨by omega, by omega⟩ (by omega) ?_
  refine mq_invV (ci := 11) (z := (mX12_game, 3, 0, 0)) (K' := (K.1 + 0 + 0, K.2 + 0 + 0)) (σ1 := σ2) (as := [mp_i (scr (Int.toNat (i + 1))), mp_i (scr (Int.toNat (i + 2))), mp_i (scr (Int.toNat (i + 3))), mp_i (scr (Int.toNat (i + 4)))]) (st := [mp_i z]) (st1 := [mp_i z, mp_i z]) dL_law_1017 svL_122 hm1 rfl rfl hm ⟨by decide, by decide, (show K.1 + 0 + 0 ≤ 601024 by omega), (show K.2 + 0 + 0 ≤ 7293034 by omega), Nat.le_of_ble_eq_true rfl⟩ rfl rfl rfl rfl ?_
  refine mq_icmp_same (tgt := 1661) dL_law_1020 rfl ?_
  exact next σ2 _ hI2 (by show K.1 + 0 + 0 ≤ K.1 + 40; omega) (by show K.2 + 0 + 0 ≤ K.2 + 280; omega)
theorem cL_24 {n : Nat} {scr : Nat → Int} {σ : mp_H} {i : Int} {K : Nat × Nat} {Q : mp_QX} (hI : mp_Inv n scr σ) (hi : 0 ≤ i ∧ i + 6 ≤ n) (hn : n ≤ 3072) (hw : ∀ j, mp_w (scr j)) (hK : K.1 + 40 ≤ 601024 ∧ K.2 + 280 ≤ 7293034)
    (next : ∀ σ' K', mp_Inv n scr σ' → K'.1 ≤ K.1 + 40 → K'.2 ≤ K.2 + 280 → mp_AtX (mL_law, 10, 601024, 7293034) K' 1661 [some (Value.ref 0), some (Value.ref 1), some (Value.ref 44), some (Value.ref 58), some (mp_i i), none, none, none] [] σ' Q) : mp_AtX (mL_law, 10, 601024, 7293034) K 1025 [some (Value.ref 0), some (Value.ref 1), some (Value.ref 44), some (Value.ref 58), some (mp_i i), none, none, none] [] σ Q := by
  obtain ⟨hs0, ⟨fs, hx⟩, -⟩ := hI.x
  refine mq_aload_n dL_law_1025 rfl ?_
  refine mq_aload_n dL_law_1026 rfl ?_
  refine mq_iload dL_law_1027 rfl ?_
  refine mq_iconst dL_law_1029 ?_
  refine mq_iadd (z := i + 1) dL_law_1030 (by first | rfl | omega) ?_
  refine mq_saload (i := i + 1) (n := n) (f := scr) dL_law_1031 hs0 ⟨by omega, by omega⟩ (by omega) ?_
  obtain ⟨z, σ1, σ2, hc, hm, hI2, hs1, fs1, hm1⟩ := st_rowOfRoofs (hw _) hI
  refine mq_invV (ci := 10) (z := (mX11_rowOfRoofs, 5, 0, 0)) (K' := (K.1 + 0, K.2 + 0)) (σ1 := σ1) (as := [mp_i (scr (Int.toNat (i + 1)))]) (st := []) (st1 := [mp_i z]) dL_law_1032 svL_123 hx rfl rfl hc ⟨by decide, by decide, (show K.1 + 0 ≤ 601024 by omega), (show K.2 + 0 ≤ 7293034 by omega), Nat.le_of_ble_eq_true rfl⟩ rfl rfl rfl rfl ?_
  refine mq_aload_n dL_law_1035 rfl ?_
  refine mq_aload_n dL_law_1036 rfl ?_
  refine mq_iload dL_law_1037 rfl ?_
  refine mq_iconst dL_law_1039 ?_
  refine mq_iadd (z := i + 1) dL_law_1040 (by first | rfl | omega) ?_
  refine mq_saload (i := i + 1) (n := n) (f := scr) dL_law_1041 hs1 ⟨by omega, by omega⟩ (by omega) ?_
  refine mq_invV (ci := 11) (z := (mX12_rowOfRoofs, 6, 0, 0)) (K' := (K.1 + 0 + 0, K.2 + 0 + 0)) (σ1 := σ2) (as := [mp_i (scr (Int.toNat (i + 1)))]) (st := [mp_i z]) (st1 := [mp_i z, mp_i z]) dL_law_1042 svL_126 hm1 rfl rfl hm ⟨by decide, by decide, (show K.1 + 0 + 0 ≤ 601024 by omega), (show K.2 + 0 + 0 ≤ 7293034 by omega), Nat.le_of_ble_eq_true rfl⟩ rfl rfl rfl rfl ?_
  refine mq_icmp_same (tgt := 1661) dL_law_1045 rfl ?_
  exact next σ2 _ hI2 (by show K.1 + 0 + 0 ≤ K.1 + 40; omega) (by show K.2 + 0 + 0 ≤ K.2 + 280; omega)
theorem cL_25 {n : Nat} {scr : Nat → Int} {σ : mp_H} {i : Int} {K : Nat × Nat} {Q : mp_QX} (hI : mp_Inv n scr σ) (hi : 0 ≤ i ∧ i + 6 ≤ n) (hn : n ≤ 3072) (hw : ∀ j, mp_w (scr j)) (hK : K.1 + 40 ≤ 601024 ∧ K.2 + 280 ≤ 7293034)
    (next : ∀ σ' K', mp_Inv n scr σ' → K'.1 ≤ K.1 + 40 → K'.2 ≤ K.2 + 280 → mp_AtX (mL_law, 10, 601024, 7293034) K' 1661 [some (Value.ref 0), some (Value.ref 1), some (Value.ref 44), some (Value.ref 58), some (mp_i i), none, none, none] [] σ' Q) : mp_AtX (mL_law, 10, 601024, 7293034) K 1050 [some (Value.ref 0), some (Value.ref 1), some (Value.ref 44), some (Value.ref 58), some (mp_i i), none, none, none] [] σ Q := by
  obtain ⟨hs0, ⟨fs, hx⟩, -⟩ := hI.x
  refine mq_aload_n dL_law_1050 rfl ?_
  refine mq_aload_n dL_law_1051 rfl ?_
  refine mq_iload dL_law_1052 rfl ?_
  refine mq_iconst dL_law_1054 ?_
  refine mq_iadd (z := i + 1) dL_law_1055 (by first | rfl | omega) ?_
  refine mq_saload (i := i + 1) (n := n) (f := scr) dL_law_1056 hs0 ⟨by omega, by omega⟩ (by omega) ?_
  refine mq_aload_n dL_law_1057 rfl ?_
  refine mq_iload dL_law_1058 rfl ?_
  refine mq_iconst dL_law_1060 ?_
  refine mq_iadd (z := i + 2) dL_law_1061 (by first | rfl | omega) ?_
  refine mq_saload (i := i + 2) (n := n) (f := scr) dL_law_1062 hs0 ⟨by omega, by omega⟩ (by omega) ?_
  refine mq_aload_n dL_law_1063 rfl ?_
  refine mq_iload dL_law_1064 rfl ?_
  refine mq_iconst dL_law_1066 ?_
  refine mq_iadd (z := i + 3) dL_law_1067 (by first | rfl | omega) ?_
  refine mq_saload (i := i + 3) (n := n) (f := scr) dL_law_1068 hs0 ⟨by omega, by omega⟩ (by omega) ?_
  obtain ⟨z, σ1, σ2, hc, hm, hI2, hs1, fs1, hm1⟩ := st_laws (hw _) (hw _) (hw _) hI
  refine mq_invV (ci := 10) (z := (mX11_laws, 5, 8, 56)) (K' := (K.1 + 8, K.2 + 56)) (σ1 := σ1) (as := [mp_i (scr (Int.toNat (i + 1))), mp_i (scr (Int.toNat (i + 2))), mp_i (scr (Int.toNat (i + 3)))]) (st := []) (st1 := [mp_i z]) dL_law_1069 svL_127 hx rfl rfl hc ⟨by decide, by decide, (show K.1 + 8 ≤ 601024 by omega), (show K.2 + 56 ≤ 7293034 by omega), Nat.le_of_ble_eq_true rfl⟩ rfl rfl rfl rfl ?_
  refine mq_aload_n dL_law_1072 rfl ?_
  refine mq_aload_n dL_law_1073 rfl ?_
  refine mq_iload dL_law_1074 rfl ?_
  refine mq_iconst dL_law_1076 ?_
  refine mq_iadd (z := i + 1) dL_law_1077 (by first | rfl | omega) ?_
  refine mq_saload (i := i + 1) (n := n) (f := scr) dL_law_1078 hs1 ⟨by omega, by omega⟩ (by omega) ?_
  refine mq_aload_n dL_law_1079 rfl ?_
  refine mq_iload dL_law_1080 rfl ?_
  refine mq_iconst dL_law_1082 ?_
  refine mq_iadd (z := i + 2) dL_law_1083 (by first | rfl | omega) ?_
  refine mq_saload (i := i + 2) (n := n) (f := scr) dL_law_1084 hs1 ⟨by omega, by omega⟩ (by omega) ?_
  refine mq_aload_n dL_law_1085 rfl ?_
  refine mq_iload dL_law_1086 rfl ?_
  refine mq_iconst dL_law_1088 ?_
  refine mq_iadd (z := i + 3) dL_law_1089 (by first | rfl | omega) ?_
  refine mq_saload (i := i + 3) (n := n) (f := scr) dL_law_1090 hs1 ⟨by omega, by omega⟩ (by omega) ?_
  refine mq_invV (ci := 11) (z := (mX12_laws, 3, 0, 0)) (K' := (K.1 + 8 + 0, K.2 + 56 + 0)) (σ1 := σ2) (as := [mp_i (scr (Int.toNat (i + 1))), mp_i (scr (Int.toNat (i + 2))), mp_i (scr (Int.toNat (i + 3)))]) (st := [mp_i z]) (st1 := [mp_i z, mp_i z]) dL_law_1091 svL_130 hm1 rfl rfl hm ⟨by decide, by decide, (show K.1 + 8 + 0 ≤ 601024 by omega), (show K.2 + 56 + 0 ≤ 7293034 by omega), Nat.le_of_ble_eq_true rfl⟩ rfl rfl rfl rfl ?_
  refine mq_icmp_same (tgt := 1661) dL_law_1094 rfl ?_
  exact next σ2 _ hI2 (by show K.1 + 8 + 0 ≤ K.1 + 40; omega) (by show K.2 + 56 + 0 ≤ K.2 + 280; omega)
theorem cL_26 {n : Nat} {scr : Nat → Int} {σ : mp_H} {i : Int} {K : Nat × Nat} {Q : mp_QX} (hI : mp_Inv n scr σ) (hi : 0 ≤ i ∧ i + 6 ≤ n) (hn : n ≤ 3072) (hw : ∀ j, mp_w (scr j)) (hK : K.1 + 40 ≤ 601024 ∧ K.2 + 280 ≤ 7293034)
    (next : ∀ σ' K', mp_Inv n scr σ' → K'.1 ≤ K.1 + 40 → K'.2 ≤ K.2 + 280 → mp_AtX (mL_law, 10, 601024, 7293034) K' 1661 [some (Value.ref 0), some (Value.ref 1), some (Value.ref 44), some (Value.ref 58), some (mp_i i), none, none, none] [] σ' Q) : mp_AtX (mL_law, 10, 601024, 7293034) K 1099 [some (Value.ref 0), some (Value.ref 1), some (Value.ref 44), some (Value.ref 58), some (mp_i i), none, none, none] [] σ Q := by
  obtain ⟨hs0, ⟨fs, hx⟩, -⟩ := hI.x
  refine mq_aload_n dL_law_1099 rfl ?_
  refine mq_aload_n dL_law_1100 rfl ?_
  refine mq_iload dL_law_1101 rfl ?_
  refine mq_iconst dL_law_1103 ?_
  refine mq_iadd (z := i + 1) dL_law_1104 (by first | rfl | omega) ?_
  refine mq_saload (i := i + 1) (n := n) (f := scr) dL_law_1105 hs0 ⟨by omega, by omega⟩ (by omega) ?_
  obtain ⟨z, σ1, σ2, hc, hm, hI2, hs1, fs1, hm1⟩ := st_scorched (hw _) hI
  refine mq_invV (ci := 10) (z := (mX11_scorched, 3, 0, 0)) (K' := (K.1 + 0, K.2 + 0)) (σ1 := σ1) (as := [mp_i (scr (Int.toNat (i + 1)))]) (st := []) (st1 := [mp_i z]) dL_law_1106 svL_131 hx rfl rfl hc ⟨by decide, by decide, (show K.1 + 0 ≤ 601024 by omega), (show K.2 + 0 ≤ 7293034 by omega), Nat.le_of_ble_eq_true rfl⟩ rfl rfl rfl rfl ?_
  refine mq_aload_n dL_law_1109 rfl ?_
  refine mq_aload_n dL_law_1110 rfl ?_
  refine mq_iload dL_law_1111 rfl ?_
  refine mq_iconst dL_law_1113 ?_
  refine mq_iadd (z := i + 1) dL_law_1114 (by first | rfl | omega) ?_
  refine mq_saload (i := i + 1) (n := n) (f := scr) dL_law_1115 hs1 ⟨by omega, by omega⟩ (by omega) ?_
  refine mq_invV (ci := 11) (z := (mX12_scorched, 3, 0, 0)) (K' := (K.1 + 0 + 0, K.2 + 0 + 0)) (σ1 := σ2) (as := [mp_i (scr (Int.toNat (i + 1)))]) (st := [mp_i z]) (st1 := [mp_i z, mp_i z]) dL_law_1116 svL_134 hm1 rfl rfl hm ⟨by decide, by decide, (show K.1 + 0 + 0 ≤ 601024 by omega), (show K.2 + 0 + 0 ≤ 7293034 by omega), Nat.le_of_ble_eq_true rfl⟩ rfl rfl rfl rfl ?_
  refine mq_icmp_same (tgt := 1661) dL_law_1119 rfl ?_
  exact next σ2 _ hI2 (by show K.1 + 0 + 0 ≤ K.1 + 40; omega) (by show K.2 + 0 + 0 ≤ K.2 + 280; omega)
theorem cL_27 {n : Nat} {scr : Nat → Int} {σ : mp_H} {i : Int} {K : Nat × Nat} {Q : mp_QX} (hI : mp_Inv n scr σ) (hi : 0 ≤ i ∧ i + 6 ≤ n) (hn : n ≤ 3072) (hw : ∀ j, mp_w (scr j)) (hK : K.1 + 40 ≤ 601024 ∧ K.2 + 280 ≤ 7293034)
    (next : ∀ σ' K', mp_Inv n scr σ' → K'.1 ≤ K.1 + 40 → K'.2 ≤ K.2 + 280 → mp_AtX (mL_law, 10, 601024, 7293034) K' 1661 [some (Value.ref 0), some (Value.ref 1), some (Value.ref 44), some (Value.ref 58), some (mp_i i), none, none, none] [] σ' Q) : mp_AtX (mL_law, 10, 601024, 7293034) K 1124 [some (Value.ref 0), some (Value.ref 1), some (Value.ref 44), some (Value.ref 58), some (mp_i i), none, none, none] [] σ Q := by
  obtain ⟨hs0, ⟨fs, hx⟩, -⟩ := hI.x
  refine mq_aload_n dL_law_1124 rfl ?_
  refine mq_aload_n dL_law_1125 rfl ?_
  refine mq_iload dL_law_1126 rfl ?_
  refine mq_iconst dL_law_1128 ?_
  refine mq_iadd (z := i + 1) dL_law_1129 (by first | rfl | omega) ?_
  refine mq_saload (i := i + 1) (n := n) (f := scr) dL_law_1130 hs0 ⟨by omega, by omega⟩ (by omega) ?_
  obtain ⟨z, σ1, σ2, hc, hm, hI2, hs1, fs1, hm1⟩ := st_mean (hw _) hI
  refine mq_invV (ci := 10) (z := (mX11_mean, 4, 0, 0)) (K' := (K.1 + 0, K.2 + 0)) (σ1 := σ1) (as := [mp_i (scr (Int.toNat (i + 1)))]) (st := []) (st1 := [mp_l z]) dL_law_1131 svL_135 hx rfl rfl hc ⟨by decide, by decide, (show K.1 + 0 ≤ 601024 by omega), (show K.2 + 0 ≤ 7293034 by omega), Nat.le_of_ble_eq_true rfl⟩ rfl rfl rfl rfl ?_
  refine mq_aload_n dL_law_1134 rfl ?_
  refine mq_aload_n dL_law_1135 rfl ?_
  refine mq_iload dL_law_1136 rfl ?_
  refine mq_iconst dL_law_1138 ?_
  refine mq_iadd (z := i + 1) dL_law_1139 (by first | rfl | omega) ?_
  refine mq_saload (i := i + 1) (n := n) (f := scr) dL_law_1140 hs1 ⟨by omega, by omega⟩ (by omega) ?_
  refine mq_invV (ci := 11) (z := (mX12_mean, 4, 0, 0)) (K' := (K.1 + 0 + 0, K.2 + 0 + 0)) (σ1 := σ2) (as := [mp_i (scr (Int.toNat (i + 1)))]) (st := [mp_l z]) (st1 := [mp_l z, mp_l z]) dL_law_1141 svL_139 hm1 rfl rfl hm ⟨by decide, by decide, (show K.1 + 0 + 0 ≤ 601024 by omega), (show K.2 + 0 + 0 ≤ 7293034 by omega), Nat.le_of_ble_eq_true rfl⟩ rfl rfl rfl rfl ?_
  refine mq_lcmp_same dL_law_1144 ?_
  refine mq_if_eq (tgt := 1661) (a := 0) dL_law_1145 rfl ⟨by decide, by decide⟩ (fun _ => ?_) (fun h => absurd rfl h)
  exact next σ2 _ hI2 (by show K.1 + 0 + 0 ≤ K.1 + 40; omega) (by show K.2 + 0 + 0 ≤ K.2 + 280; omega)
theorem cL_28 {n : Nat} {scr : Nat → Int} {σ : mp_H} {i : Int} {K : Nat × Nat} {Q : mp_QX} (hI : mp_Inv n scr σ) (hi : 0 ≤ i ∧ i + 6 ≤ n) (hn : n ≤ 3072) (hw : ∀ j, mp_w (scr j)) (hK : K.1 + 40 ≤ 601024 ∧ K.2 + 280 ≤ 7293034)
    (next : ∀ σ' K', mp_Inv n scr σ' → K'.1 ≤ K.1 + 40 → K'.2 ≤ K.2 + 280 → mp_AtX (mL_law, 10, 601024, 7293034) K' 1661 [some (Value.ref 0), some (Value.ref 1), some (Value.ref 44), some (Value.ref 58), some (mp_i i), none, none, none] [] σ' Q) : mp_AtX (mL_law, 10, 601024, 7293034) K 1150 [some (Value.ref 0), some (Value.ref 1), some (Value.ref 44), some (Value.ref 58), some (mp_i i), none, none, none] [] σ Q := by
  obtain ⟨hs0, ⟨fs, hx⟩, -⟩ := hI.x
  refine mq_aload_n dL_law_1150 rfl ?_
  refine mq_aload_n dL_law_1151 rfl ?_
  refine mq_iload dL_law_1152 rfl ?_
  refine mq_iconst dL_law_1154 ?_
  refine mq_iadd (z := i + 1) dL_law_1155 (by first | rfl | omega) ?_
  refine mq_saload (i := i + 1) (n := n) (f := scr) dL_law_1156 hs0 ⟨by omega, by omega⟩ (by omega) ?_
  obtain ⟨z, σ1, σ2, hc, hm, hI2, hs1, fs1, hm1⟩ := st_forged (hw _) hI
  refine mq_invV (ci := 10) (z := (mX11_forged, 4, 0, 0)) (K' := (K.1 + 0, K.2 + 0)) (σ1 := σ1) (as := [mp_i (scr (Int.toNat (i + 1)))]) (st := []) (st1 := [mp_i z]) dL_law_1157 svL_140 hx rfl rfl hc ⟨by decide, by decide, (show K.1 + 0 ≤ 601024 by omega), (show K.2 + 0 ≤ 7293034 by omega), Nat.le_of_ble_eq_true rfl⟩ rfl rfl rfl rfl ?_
  refine mq_aload_n dL_law_1160 rfl ?_
  refine mq_aload_n dL_law_1161 rfl ?_
  refine mq_iload dL_law_1162 rfl ?_
  refine mq_iconst dL_law_1164 ?_
  refine mq_iadd (z := i + 1) dL_law_1165 (by first | rfl | omega) ?_
  refine mq_saload (i := i + 1) (n := n) (f := scr) dL_law_1166 hs1 ⟨by omega, by omega⟩ (by omega) ?_
  refine mq_invV (ci := 11) (z := (mX12_forged, 5, 0, 0)) (K' := (K.1 + 0 + 0, K.2 + 0 + 0)) (σ1 := σ2) (as := [mp_i (scr (Int.toNat (i + 1)))]) (st := [mp_i z]) (st1 := [mp_i z, mp_i z]) dL_law_1167 svL_143 hm1 rfl rfl hm ⟨by decide, by decide, (show K.1 + 0 + 0 ≤ 601024 by omega), (show K.2 + 0 + 0 ≤ 7293034 by omega), Nat.le_of_ble_eq_true rfl⟩ rfl rfl rfl rfl ?_
  refine mq_icmp_same (tgt := 1661) dL_law_1170 rfl ?_
  exact next σ2 _ hI2 (by show K.1 + 0 + 0 ≤ K.1 + 40; omega) (by show K.2 + 0 + 0 ≤ K.2 + 280; omega)
theorem cL_29 {n : Nat} {scr : Nat → Int} {σ : mp_H} {i : Int} {K : Nat × Nat} {Q : mp_QX} (hI : mp_Inv n scr σ) (hi : 0 ≤ i ∧ i + 6 ≤ n) (hn : n ≤ 3072) (hw : ∀ j, mp_w (scr j)) (hK : K.1 + 40 ≤ 601024 ∧ K.2 + 280 ≤ 7293034)
    (next : ∀ σ' K', mp_Inv n scr σ' → K'.1 ≤ K.1 + 40 → K'.2 ≤ K.2 + 280 → mp_AtX (mL_law, 10, 601024, 7293034) K' 1661 [some (Value.ref 0), some (Value.ref 1), some (Value.ref 44), some (Value.ref 58), some (mp_i i), none, none, none] [] σ' Q) : mp_AtX (mL_law, 10, 601024, 7293034) K 1175 [some (Value.ref 0), some (Value.ref 1), some (Value.ref 44), some (Value.ref 58), some (mp_i i), none, none, none] [] σ Q := by
  obtain ⟨hs0, ⟨fs, hx⟩, -⟩ := hI.x
  refine mq_aload_n dL_law_1175 rfl ?_
  refine mq_aload_n dL_law_1176 rfl ?_
  refine mq_iload dL_law_1177 rfl ?_
  refine mq_iconst dL_law_1179 ?_
  refine mq_iadd (z := i + 1) dL_law_1180 (by first | rfl | omega) ?_
  refine mq_saload (i := i + 1) (n := n) (f := scr) dL_law_1181 hs0 ⟨by omega, by omega⟩ (by omega) ?_
  refine mq_aload_n dL_law_1182 rfl ?_
  refine mq_iload dL_law_1183 rfl ?_
  refine mq_iconst dL_law_1185 ?_
  refine mq_iadd (z := i + 2) dL_law_1186 (by first | rfl | omega) ?_
  refine mq_saload (i := i + 2) (n := n) (f := scr) dL_law_1187 hs0 ⟨by omega, by omega⟩ (by omega) ?_
  obtain ⟨z, σ1, σ2, hc, hm, hI2, hs1, fs1, hm1⟩ := st_judge (hw _) (hw _) hI
  refine mq_invV (ci := 10) (z := (mX11_judge, 4, 0, 0)) (K' := (K.1 + 0, K.2 + 0)) (σ1 := σ1) (as := [mp_i (scr (Int.toNat (i + 1))), mp_i (scr (Int.toNat (i + 2)))]) (st := []) (st1 := [mp_i z]) dL_law_1188 svL_144 hx rfl rfl hc ⟨by decide, by decide, (show K.1 + 0 ≤ 601024 by omega), (show K.2 + 0 ≤ 7293034 by omega), Nat.le_of_ble_eq_true rfl⟩ rfl rfl rfl rfl ?_
  refine mq_aload_n dL_law_1191 rfl ?_
  refine mq_aload_n dL_law_1192 rfl ?_
  refine mq_iload dL_law_1193 rfl ?_
  refine mq_iconst dL_law_1195 ?_
  refine mq_iadd (z := i + 1) dL_law_1196 (by first | rfl | omega) ?_
  refine mq_saload (i := i + 1) (n := n) (f := scr) dL_law_1197 hs1 ⟨by omega, by omega⟩ (by omega) ?_
  refine mq_aload_n dL_law_1198 rfl ?_
  refine mq_iload dL_law_1199 rfl ?_
  refine mq_iconst dL_law_1201 ?_
  refine mq_iadd (z := i + 2) dL_law_1202 (by first | rfl | omega) ?_
  refine mq_saload (i := i + 2) (n := n) (f := scr) dL_law_1203 hs1 ⟨by omega, by omega⟩ (by omega) ?_
  refine mq_invV (ci := 11) (z := (mX12_judge, 3, 0, 0)) (K' := (K.1 + 0 + 0, K.2 + 0 + 0)) (σ1 := σ2) (as := [mp_i (scr (Int.toNat (i + 1))), mp_i (scr (Int.toNat (i + 2)))]) (st := [mp_i z]) (st1 := [mp_i z, mp_i z]) dL_law_1204 svL_147 hm1 rfl rfl hm ⟨by decide, by decide, (show K.1 + 0 + 0 ≤ 601024 by omega), (show K.2 + 0 + 0 ≤ 7293034 by omega), Nat.le_of_ble_eq_true rfl⟩ rfl rfl rfl rfl ?_
  refine mq_icmp_same (tgt := 1661) dL_law_1207 rfl ?_
  exact next σ2 _ hI2 (by show K.1 + 0 + 0 ≤ K.1 + 40; omega) (by show K.2 + 0 + 0 ≤ K.2 + 280; omega)
theorem cL_30 {n : Nat} {scr : Nat → Int} {σ : mp_H} {i : Int} {K : Nat × Nat} {Q : mp_QX} (hI : mp_Inv n scr σ) (hi : 0 ≤ i ∧ i + 6 ≤ n) (hn : n ≤ 3072) (hw : ∀ j, mp_w (scr j)) (hK : K.1 + 40 ≤ 601024 ∧ K.2 + 280 ≤ 7293034)
    (next : ∀ σ' K', mp_Inv n scr σ' → K'.1 ≤ K.1 + 40 → K'.2 ≤ K.2 + 280 → mp_AtX (mL_law, 10, 601024, 7293034) K' 1661 [some (Value.ref 0), some (Value.ref 1), some (Value.ref 44), some (Value.ref 58), some (mp_i i), none, none, none] [] σ' Q) : mp_AtX (mL_law, 10, 601024, 7293034) K 1212 [some (Value.ref 0), some (Value.ref 1), some (Value.ref 44), some (Value.ref 58), some (mp_i i), none, none, none] [] σ Q := by
  obtain ⟨hs0, ⟨fs, hx⟩, -⟩ := hI.x
  refine mq_aload_n dL_law_1212 rfl ?_
  refine mq_aload_n dL_law_1213 rfl ?_
  refine mq_iload dL_law_1214 rfl ?_
  refine mq_iconst dL_law_1216 ?_
  refine mq_iadd (z := i + 1) dL_law_1217 (by first | rfl | omega) ?_
  refine mq_saload (i := i + 1) (n := n) (f := scr) dL_law_1218 hs0 ⟨by omega, by omega⟩ (by omega) ?_
  refine mq_aload_n dL_law_1219 rfl ?_
  refine mq_iload dL_law_1220 rfl ?_
  refine mq_iconst dL_law_1222 ?_
  refine mq_iadd (z := i + 2) dL_law_1223 (by first | rfl | omega) ?_
  refine mq_saload (i := i + 2) (n := n) (f := scr) dL_law_1224 hs0 ⟨by omega, by omega⟩ (by omega) ?_
  refine mq_aload_n dL_law_1225 rfl ?_
  refine mq_iload dL_law_1226 rfl ?_
  refine mq_iconst dL_law_1228 ?_
  refine mq_iadd (z := i + 3) dL_law_1229 (by first | rfl | omega) ?_
  refine mq_saload (i := i + 3) (n := n) (f := scr) dL_law_1230 hs0 ⟨by omega, by omega⟩ (by omega) ?_
  obtain ⟨z, σ1, σ2, hc, hm, hI2, hs1, fs1, hm1⟩ := st_augusts (hw _) (hw _) (hw _) hI
  refine mq_invV (ci := 10) (z := (mX11_augusts, 5, 0, 0)) (K' := (K.1 + 0, K.2 + 0)) (σ1 := σ1) (as := [mp_i (scr (Int.toNat (i + 1))), mp_i (scr (Int.toNat (i + 2))), mp_i (scr (Int.toNat (i + 3)))]) (st := []) (st1 := [mp_i z]) dL_law_1231 svL_148 hx rfl rfl hc ⟨by decide, by decide, (show K.1 + 0 ≤ 601024 by omega), (show K.2 + 0 ≤ 7293034 by omega), Nat.le_of_ble_eq_true rfl⟩ rfl rfl rfl rfl ?_
  refine mq_aload_n dL_law_1234 rfl ?_
  refine mq_aload_n dL_law_1235 rfl ?_
  refine mq_iload dL_law_1236 rfl ?_
  refine mq_iconst dL_law_1238 ?_
  refine mq_iadd (z := i + 1) dL_law_1239 (by first | rfl | omega) ?_
  refine mq_saload (i := i + 1) (n := n) (f := scr) dL_law_1240 hs1 ⟨by omega, by omega⟩ (by omega) ?_
  refine mq_aload_n dL_law_1241 rfl ?_
  refine mq_iload dL_law_1242 rfl ?_
  refine mq_iconst dL_law_1244 ?_
  refine mq_iadd (z := i + 2) dL_law_1245 (by first | rfl | omega) ?_
  refine mq_saload (i := i + 2) (n := n) (f := scr) dL_law_1246 hs1 ⟨by omega, by omega⟩ (by omega) ?_
  refine mq_aload_n dL_law_1247 rfl ?_
  refine mq_iload dL_law_1248 rfl ?_
  refine mq_iconst dL_law_1250 ?_
  refine mq_iadd (z := i + 3) dL_law_1251 (by first | rfl | omega) ?_
  refine mq_saload (i := i + 3) (n := n) (f := scr) dL_law_1252 hs1 ⟨by omega, by omega⟩ (by omega) ?_
  refine mq_invV (ci := 11) (z := (mX12_augusts, 5, 0, 0)) (K' := (K.1 + 0 + 0, K.2 + 0 + 0)) (σ1 := σ2) (as := [mp_i (scr (Int.toNat (i + 1))), mp_i (scr (Int.toNat (i + 2))), mp_i (scr (Int.toNat (i + 3)))]) (st := [mp_i z]) (st1 := [mp_i z, mp_i z]) dL_law_1253 svL_151 hm1 rfl rfl hm ⟨by decide, by decide, (show K.1 + 0 + 0 ≤ 601024 by omega), (show K.2 + 0 + 0 ≤ 7293034 by omega), Nat.le_of_ble_eq_true rfl⟩ rfl rfl rfl rfl ?_
  refine mq_icmp_same (tgt := 1661) dL_law_1256 rfl ?_
  exact next σ2 _ hI2 (by show K.1 + 0 + 0 ≤ K.1 + 40; omega) (by show K.2 + 0 + 0 ≤ K.2 + 280; omega)
theorem cL_31 {n : Nat} {scr : Nat → Int} {σ : mp_H} {i : Int} {K : Nat × Nat} {Q : mp_QX} (hI : mp_Inv n scr σ) (hi : 0 ≤ i ∧ i + 6 ≤ n) (hn : n ≤ 3072) (hw : ∀ j, mp_w (scr j)) (hK : K.1 + 40 ≤ 601024 ∧ K.2 + 280 ≤ 7293034)
    (next : ∀ σ' K', mp_Inv n scr σ' → K'.1 ≤ K.1 + 40 → K'.2 ≤ K.2 + 280 → mp_AtX (mL_law, 10, 601024, 7293034) K' 1661 [some (Value.ref 0), some (Value.ref 1), some (Value.ref 44), some (Value.ref 58), some (mp_i i), none, none, none] [] σ' Q) : mp_AtX (mL_law, 10, 601024, 7293034) K 1261 [some (Value.ref 0), some (Value.ref 1), some (Value.ref 44), some (Value.ref 58), some (mp_i i), none, none, none] [] σ Q := by
  obtain ⟨hs0, ⟨fs, hx⟩, -⟩ := hI.x
  refine mq_aload_n dL_law_1261 rfl ?_
  obtain ⟨z, σ1, σ2, hc, hm, hI2, hs1, fs1, hm1⟩ := st_image  hI
  refine mq_invV (ci := 10) (z := (mX11_image, 1, 0, 0)) (K' := (K.1 + 0, K.2 + 0)) (σ1 := σ1) (as := []) (st := []) (st1 := [mp_i z]) dL_law_1262 svL_152 hx rfl rfl hc ⟨by decide, by decide, (show K.1 + 0 ≤ 601024 by omega), (show K.2 + 0 ≤ 7293034 by omega), Nat.le_of_ble_eq_true rfl⟩ rfl rfl rfl rfl ?_
  refine mq_aload_n dL_law_1265 rfl ?_
  refine mq_invV (ci := 11) (z := (mX12_image, 1, 0, 0)) (K' := (K.1 + 0 + 0, K.2 + 0 + 0)) (σ1 := σ2) (as := []) (st := [mp_i z]) (st1 := [mp_i z, mp_i z]) dL_law_1266 svL_155 hm1 rfl rfl hm ⟨by decide, by decide, (show K.1 + 0 + 0 ≤ 601024 by omega), (show K.2 + 0 + 0 ≤ 7293034 by omega), Nat.le_of_ble_eq_true rfl⟩ rfl rfl rfl rfl ?_
  refine mq_icmp_same (tgt := 1661) dL_law_1269 rfl ?_
  exact next σ2 _ hI2 (by show K.1 + 0 + 0 ≤ K.1 + 40; omega) (by show K.2 + 0 + 0 ≤ K.2 + 280; omega)
theorem cL_32 {n : Nat} {scr : Nat → Int} {σ : mp_H} {i : Int} {K : Nat × Nat} {Q : mp_QX} (hI : mp_Inv n scr σ) (hi : 0 ≤ i ∧ i + 6 ≤ n) (hn : n ≤ 3072) (hw : ∀ j, mp_w (scr j)) (hK : K.1 + 40 ≤ 601024 ∧ K.2 + 280 ≤ 7293034)
    (next : ∀ σ' K', mp_Inv n scr σ' → K'.1 ≤ K.1 + 40 → K'.2 ≤ K.2 + 280 → mp_AtX (mL_law, 10, 601024, 7293034) K' 1661 [some (Value.ref 0), some (Value.ref 1), some (Value.ref 44), some (Value.ref 58), some (mp_i i), none, none, none] [] σ' Q) : mp_AtX (mL_law, 10, 601024, 7293034) K 1274 [some (Value.ref 0), some (Value.ref 1), some (Value.ref 44), some (Value.ref 58), some (mp_i i), none, none, none] [] σ Q := by
  obtain ⟨hs0, ⟨fs, hx⟩, -⟩ := hI.x
  refine mq_aload_n dL_law_1274 rfl ?_
  obtain ⟨z, σ1, σ2, hc, hm, hI2, hs1, fs1, hm1⟩ := st_restore  hI
  refine mq_invV (ci := 10) (z := (mX11_restore, 1, 0, 0)) (K' := (K.1 + 0, K.2 + 0)) (σ1 := σ1) (as := []) (st := []) (st1 := [mp_i z]) dL_law_1275 svL_156 hx rfl rfl hc ⟨by decide, by decide, (show K.1 + 0 ≤ 601024 by omega), (show K.2 + 0 ≤ 7293034 by omega), Nat.le_of_ble_eq_true rfl⟩ rfl rfl rfl rfl ?_
  refine mq_aload_n dL_law_1278 rfl ?_
  refine mq_invV (ci := 11) (z := (mX12_restore, 1, 0, 0)) (K' := (K.1 + 0 + 0, K.2 + 0 + 0)) (σ1 := σ2) (as := []) (st := [mp_i z]) (st1 := [mp_i z, mp_i z]) dL_law_1279 svL_159 hm1 rfl rfl hm ⟨by decide, by decide, (show K.1 + 0 + 0 ≤ 601024 by omega), (show K.2 + 0 + 0 ≤ 7293034 by omega), Nat.le_of_ble_eq_true rfl⟩ rfl rfl rfl rfl ?_
  refine mq_icmp_same (tgt := 1661) dL_law_1282 rfl ?_
  exact next σ2 _ hI2 (by show K.1 + 0 + 0 ≤ K.1 + 40; omega) (by show K.2 + 0 + 0 ≤ K.2 + 280; omega)
theorem cL_33 {n : Nat} {scr : Nat → Int} {σ : mp_H} {i : Int} {K : Nat × Nat} {Q : mp_QX} (hI : mp_Inv n scr σ) (hi : 0 ≤ i ∧ i + 6 ≤ n) (hn : n ≤ 3072) (hw : ∀ j, mp_w (scr j)) (hK : K.1 + 40 ≤ 601024 ∧ K.2 + 280 ≤ 7293034)
    (next : ∀ σ' K', mp_Inv n scr σ' → K'.1 ≤ K.1 + 40 → K'.2 ≤ K.2 + 280 → mp_AtX (mL_law, 10, 601024, 7293034) K' 1661 [some (Value.ref 0), some (Value.ref 1), some (Value.ref 44), some (Value.ref 58), some (mp_i i), none, none, none] [] σ' Q) : mp_AtX (mL_law, 10, 601024, 7293034) K 1287 [some (Value.ref 0), some (Value.ref 1), some (Value.ref 44), some (Value.ref 58), some (mp_i i), none, none, none] [] σ Q := by
  obtain ⟨hs0, ⟨fs, hx⟩, -⟩ := hI.x
  refine mq_aload_n dL_law_1287 rfl ?_
  refine mq_aload_n dL_law_1288 rfl ?_
  refine mq_iload dL_law_1289 rfl ?_
  refine mq_iconst dL_law_1291 ?_
  refine mq_iadd (z := i + 1) dL_law_1292 (by first | rfl | omega) ?_
  refine mq_saload (i := i + 1) (n := n) (f := scr) dL_law_1293 hs0 ⟨by omega, by omega⟩ (by omega) ?_
  obtain ⟨z, σ1, σ2, hc, hm, hI2, hs1, fs1, hm1⟩ := st_count (hw _) hI
  refine mq_invV (ci := 10) (z := (mX11_count, 4, 0, 0)) (K' := (K.1 + 0, K.2 + 0)) (σ1 := σ1) (as := [mp_i (scr (Int.toNat (i + 1)))]) (st := []) (st1 := [mp_i z]) dL_law_1294 svL_160 hx rfl rfl hc ⟨by decide, by decide, (show K.1 + 0 ≤ 601024 by omega), (show K.2 + 0 ≤ 7293034 by omega), Nat.le_of_ble_eq_true rfl⟩ rfl rfl rfl rfl ?_
  refine mq_aload_n dL_law_1297 rfl ?_
  refine mq_aload_n dL_law_1298 rfl ?_
  refine mq_iload dL_law_1299 rfl ?_
  refine mq_iconst dL_law_1301 ?_
  refine mq_iadd (z := i + 1) dL_law_1302 (by first | rfl | omega) ?_
  refine mq_saload (i := i + 1) (n := n) (f := scr) dL_law_1303 hs1 ⟨by omega, by omega⟩ (by omega) ?_
  refine mq_invV (ci := 11) (z := (mX12_count, 4, 0, 0)) (K' := (K.1 + 0 + 0, K.2 + 0 + 0)) (σ1 := σ2) (as := [mp_i (scr (Int.toNat (i + 1)))]) (st := [mp_i z]) (st1 := [mp_i z, mp_i z]) dL_law_1304 svL_163 hm1 rfl rfl hm ⟨by decide, by decide, (show K.1 + 0 + 0 ≤ 601024 by omega), (show K.2 + 0 + 0 ≤ 7293034 by omega), Nat.le_of_ble_eq_true rfl⟩ rfl rfl rfl rfl ?_
  refine mq_icmp_same (tgt := 1661) dL_law_1307 rfl ?_
  exact next σ2 _ hI2 (by show K.1 + 0 + 0 ≤ K.1 + 40; omega) (by show K.2 + 0 + 0 ≤ K.2 + 280; omega)
theorem cL_34 {n : Nat} {scr : Nat → Int} {σ : mp_H} {i : Int} {K : Nat × Nat} {Q : mp_QX} (hI : mp_Inv n scr σ) (hi : 0 ≤ i ∧ i + 6 ≤ n) (hn : n ≤ 3072) (hw : ∀ j, mp_w (scr j)) (hK : K.1 + 40 ≤ 601024 ∧ K.2 + 280 ≤ 7293034)
    (next : ∀ σ' K', mp_Inv n scr σ' → K'.1 ≤ K.1 + 40 → K'.2 ≤ K.2 + 280 → mp_AtX (mL_law, 10, 601024, 7293034) K' 1661 [some (Value.ref 0), some (Value.ref 1), some (Value.ref 44), some (Value.ref 58), some (mp_i i), none, none, none] [] σ' Q) : mp_AtX (mL_law, 10, 601024, 7293034) K 1312 [some (Value.ref 0), some (Value.ref 1), some (Value.ref 44), some (Value.ref 58), some (mp_i i), none, none, none] [] σ Q := by
  obtain ⟨hs0, ⟨fs, hx⟩, -⟩ := hI.x
  refine mq_aload_n dL_law_1312 rfl ?_
  refine mq_aload_n dL_law_1313 rfl ?_
  refine mq_iload dL_law_1314 rfl ?_
  refine mq_iconst dL_law_1316 ?_
  refine mq_iadd (z := i + 1) dL_law_1317 (by first | rfl | omega) ?_
  refine mq_saload (i := i + 1) (n := n) (f := scr) dL_law_1318 hs0 ⟨by omega, by omega⟩ (by omega) ?_
  refine mq_aload_n dL_law_1319 rfl ?_
  refine mq_iload dL_law_1320 rfl ?_
  refine mq_iconst dL_law_1322 ?_
  refine mq_iadd (z := i + 2) dL_law_1323 (by first | rfl | omega) ?_
  refine mq_saload (i := i + 2) (n := n) (f := scr) dL_law_1324 hs0 ⟨by omega, by omega⟩ (by omega) ?_
  refine mq_aload_n dL_law_1325 rfl ?_
  refine mq_iload dL_law_1326 rfl ?_
  refine mq_iconst dL_law_1328 ?_
  refine mq_iadd (z := i + 3) dL_law_1329 (by first | rfl | omega) ?_
  refine mq_saload (i := i + 3) (n := n) (f := scr) dL_law_1330 hs0 ⟨by omega, by omega⟩ (by omega) ?_
  refine mq_aload_n dL_law_1331 rfl ?_
  refine mq_iload dL_law_1332 rfl ?_
  refine mq_iconst dL_law_1334 ?_
  refine mq_iadd (z := i + 4) dL_law_1335 (by first | rfl | omega) ?_
  refine mq_saload (i := i + 4) (n := n) (f := scr) dL_law_1336 hs0 ⟨by omega, by omega⟩ (by omega) ?_
  obtain ⟨z, σ1, σ2, hc, hm, hI2, hs1, fs1, hm1⟩ := st_keep (hw _) (hw _) (hw _) (hw _) hI
  refine mq_invV (ci := 10) (z := (mX11_keep, 5, 1, 7)) (K' := (K.1 + 1, K.2 + 7)) (σ1 := σ1) (as := [mp_i (scr (Int.toNat (i + 1))), mp_i (scr (Int.toNat (i + 2))), mp_i (scr (Int.toNat (i + 3))), mp_i (scr (Int.toNat (i + 4)))]) (st := []) (st1 := [mp_i z]) dL_law_1337 svL_164 hx rfl rfl hc ⟨by decide, by decide, (show K.1 + 1 ≤ 601024 by omega), (show K.2 + 7 ≤ 7293034 by omega), Nat.le_of_ble_eq_true rfl⟩ rfl rfl rfl rfl ?_
  refine mq_aload_n dL_law_1340 rfl ?_
  refine mq_aload_n dL_law_1341 rfl ?_
  refine mq_iload dL_law_1342 rfl ?_
  refine mq_iconst dL_law_1344 ?_
  refine mq_iadd (z := i + 1) dL_law_1345 (by first | rfl | omega) ?_
  refine mq_saload (i := i + 1) (n := n) (f := scr) dL_law_1346 hs1 ⟨by omega, by omega⟩ (by omega) ?_
  refine mq_aload_n dL_law_1347 rfl ?_
  refine mq_iload dL_law_1348 rfl ?_
  refine mq_iconst dL_law_1350 ?_
  refine mq_iadd (z := i + 2) dL_law_1351 (by first | rfl | omega) ?_
  refine mq_saload (i := i + 2) (n := n) (f := scr) dL_law_1352 hs1 ⟨by omega, by omega⟩ (by omega) ?_
  refine mq_aload_n dL_law_1353 rfl ?_
  refine mq_iload dL_law_1354 rfl ?_
  refine mq_iconst dL_law_1356 ?_
  refine mq_iadd (z := i + 3) dL_law_1357 (by first | rfl | omega) ?_
  refine mq_saload (i := i + 3) (n := n) (f := scr) dL_law_1358 hs1 ⟨by omega, by omega⟩ (by omega) ?_
  refine mq_aload_n dL_law_1359 rfl ?_
  refine mq_iload dL_law_1360 rfl ?_
  refine mq_iconst dL_law_1362 ?_
  refine mq_iadd (z := i + 4) dL_law_1363 (by first | rfl | omega) ?_
  refine mq_saload (i := i + 4) (n := n) (f := scr) dL_law_1364 hs1 ⟨by omega, by omega⟩ (by omega) ?_
  refine mq_invV (ci := 11) (z := (mX12_keep, 2, 0, 0)) (K' := (K.1 + 1 + 0, K.2 + 7 + 0)) (σ1 := σ2) (as := [mp_i (scr (Int.toNat (i + 1))), mp_i (scr (Int.toNat (i + 2))), mp_i (scr (Int.toNat (i + 3))), mp_i (scr (Int.toNat (i + 4)))]) (st := [mp_i z]) (st1 := [mp_i z, mp_i z]) dL_law_1365 svL_167 hm1 rfl rfl hm ⟨by decide, by decide, (show K.1 + 1 + 0 ≤ 601024 by omega), (show K.2 + 7 + 0 ≤ 7293034 by omega), Nat.le_of_ble_eq_true rfl⟩ rfl rfl rfl rfl ?_
  refine mq_icmp_same (tgt := 1661) dL_law_1368 rfl ?_
  exact next σ2 _ hI2 (by show K.1 + 1 + 0 ≤ K.1 + 40; omega) (by show K.2 + 7 + 0 ≤ K.2 + 280; omega)
theorem cL_35 {n : Nat} {scr : Nat → Int} {σ : mp_H} {i : Int} {K : Nat × Nat} {Q : mp_QX} (hI : mp_Inv n scr σ) (hi : 0 ≤ i ∧ i + 6 ≤ n) (hn : n ≤ 3072) (hw : ∀ j, mp_w (scr j)) (hK : K.1 + 40 ≤ 601024 ∧ K.2 + 280 ≤ 7293034)
    (next : ∀ σ' K', mp_Inv n scr σ' → K'.1 ≤ K.1 + 40 → K'.2 ≤ K.2 + 280 → mp_AtX (mL_law, 10, 601024, 7293034) K' 1661 [some (Value.ref 0), some (Value.ref 1), some (Value.ref 44), some (Value.ref 58), some (mp_i i), none, none, none] [] σ' Q) : mp_AtX (mL_law, 10, 601024, 7293034) K 1373 [some (Value.ref 0), some (Value.ref 1), some (Value.ref 44), some (Value.ref 58), some (mp_i i), none, none, none] [] σ Q := by
  obtain ⟨hs0, ⟨fs, hx⟩, -⟩ := hI.x
  refine mq_aload_n dL_law_1373 rfl ?_
  refine mq_aload_n dL_law_1374 rfl ?_
  refine mq_iload dL_law_1375 rfl ?_
  refine mq_iconst dL_law_1377 ?_
  refine mq_iadd (z := i + 1) dL_law_1378 (by first | rfl | omega) ?_
  refine mq_saload (i := i + 1) (n := n) (f := scr) dL_law_1379 hs0 ⟨by omega, by omega⟩ (by omega) ?_
  refine mq_aload_n dL_law_1380 rfl ?_
  refine mq_iload dL_law_1381 rfl ?_
  refine mq_iconst dL_law_1383 ?_
  refine mq_iadd (z := i + 2) dL_law_1384 (by first | rfl | omega) ?_
  refine mq_saload (i := i + 2) (n := n) (f := scr) dL_law_1385 hs0 ⟨by omega, by omega⟩ (by omega) ?_
  refine mq_aload_n dL_law_1386 rfl ?_
  refine mq_iload dL_law_1387 rfl ?_
  refine mq_iconst dL_law_1389 ?_
  refine mq_iadd (z := i + 3) dL_law_1390 (by first | rfl | omega) ?_
  refine mq_saload (i := i + 3) (n := n) (f := scr) dL_law_1391 hs0 ⟨by omega, by omega⟩ (by omega) ?_
  obtain ⟨z, σ1, σ2, hc, hm, hI2, hs1, fs1, hm1⟩ := st_row (hw _) (hw _) (hw _) hI
  refine mq_invV (ci := 10) (z := (mX11_row, 2, 0, 0)) (K' := (K.1 + 0, K.2 + 0)) (σ1 := σ1) (as := [mp_i (scr (Int.toNat (i + 1))), mp_i (scr (Int.toNat (i + 2))), mp_i (scr (Int.toNat (i + 3)))]) (st := []) (st1 := [mp_i z]) dL_law_1392 svL_168 hx rfl rfl hc ⟨by decide, by decide, (show K.1 + 0 ≤ 601024 by omega), (show K.2 + 0 ≤ 7293034 by omega), Nat.le_of_ble_eq_true rfl⟩ rfl rfl rfl rfl ?_
  refine mq_aload_n dL_law_1395 rfl ?_
  refine mq_aload_n dL_law_1396 rfl ?_
  refine mq_iload dL_law_1397 rfl ?_
  refine mq_iconst dL_law_1399 ?_
  refine mq_iadd (z := i + 1) dL_law_1400 (by first | rfl | omega) ?_
  refine mq_saload (i := i + 1) (n := n) (f := scr) dL_law_1401 hs1 ⟨by omega, by omega⟩ (by omega) ?_
  refine mq_aload_n dL_law_1402 rfl ?_
  refine mq_iload dL_law_1403 rfl ?_
  refine mq_iconst dL_law_1405 ?_
  refine mq_iadd (z := i + 2) dL_law_1406 (by first | rfl | omega) ?_
  refine mq_saload (i := i + 2) (n := n) (f := scr) dL_law_1407 hs1 ⟨by omega, by omega⟩ (by omega) ?_
  refine mq_aload_n dL_law_1408 rfl ?_
  refine mq_iload dL_law_1409 rfl ?_
  refine mq_iconst dL_law_1411 ?_
  refine mq_iadd (z := i + 3) dL_law_1412 (by first | rfl | omega) ?_
  refine mq_saload (i := i + 3) (n := n) (f := scr) dL_law_1413 hs1 ⟨by omega, by omega⟩ (by omega) ?_
  refine mq_invV (ci := 11) (z := (mX12_row, 2, 0, 0)) (K' := (K.1 + 0 + 0, K.2 + 0 + 0)) (σ1 := σ2) (as := [mp_i (scr (Int.toNat (i + 1))), mp_i (scr (Int.toNat (i + 2))), mp_i (scr (Int.toNat (i + 3)))]) (st := [mp_i z]) (st1 := [mp_i z, mp_i z]) dL_law_1414 svL_171 hm1 rfl rfl hm ⟨by decide, by decide, (show K.1 + 0 + 0 ≤ 601024 by omega), (show K.2 + 0 + 0 ≤ 7293034 by omega), Nat.le_of_ble_eq_true rfl⟩ rfl rfl rfl rfl ?_
  refine mq_icmp_same (tgt := 1661) dL_law_1417 rfl ?_
  exact next σ2 _ hI2 (by show K.1 + 0 + 0 ≤ K.1 + 40; omega) (by show K.2 + 0 + 0 ≤ K.2 + 280; omega)
theorem cL_36 {n : Nat} {scr : Nat → Int} {σ : mp_H} {i : Int} {K : Nat × Nat} {Q : mp_QX} (hI : mp_Inv n scr σ) (hi : 0 ≤ i ∧ i + 6 ≤ n) (hn : n ≤ 3072) (hw : ∀ j, mp_w (scr j)) (hK : K.1 + 40 ≤ 601024 ∧ K.2 + 280 ≤ 7293034)
    (next : ∀ σ' K', mp_Inv n scr σ' → K'.1 ≤ K.1 + 40 → K'.2 ≤ K.2 + 280 → mp_AtX (mL_law, 10, 601024, 7293034) K' 1661 [some (Value.ref 0), some (Value.ref 1), some (Value.ref 44), some (Value.ref 58), some (mp_i i), none, none, none] [] σ' Q) : mp_AtX (mL_law, 10, 601024, 7293034) K 1422 [some (Value.ref 0), some (Value.ref 1), some (Value.ref 44), some (Value.ref 58), some (mp_i i), none, none, none] [] σ Q := by
  obtain ⟨hs0, ⟨fs, hx⟩, -⟩ := hI.x
  refine mq_aload_n dL_law_1422 rfl ?_
  refine mq_aload_n dL_law_1423 rfl ?_
  refine mq_iload dL_law_1424 rfl ?_
  refine mq_iconst dL_law_1426 ?_
  refine mq_iadd (z := i + 1) dL_law_1427 (by first | rfl | omega) ?_
  refine mq_saload (i := i + 1) (n := n) (f := scr) dL_law_1428 hs0 ⟨by omega, by omega⟩ (by omega) ?_
  refine mq_aload_n dL_law_1429 rfl ?_
  refine mq_iload dL_law_1430 rfl ?_
  refine mq_iconst dL_law_1432 ?_
  refine mq_iadd (z := i + 2) dL_law_1433 (by first | rfl | omega) ?_
  refine mq_saload (i := i + 2) (n := n) (f := scr) dL_law_1434 hs0 ⟨by omega, by omega⟩ (by omega) ?_
  refine mq_aload_n dL_law_1435 rfl ?_
  refine mq_iload dL_law_1436 rfl ?_
  refine mq_iconst dL_law_1438 ?_
  refine mq_iadd (z := i + 3) dL_law_1439 (by first | rfl | omega) ?_
  refine mq_saload (i := i + 3) (n := n) (f := scr) dL_law_1440 hs0 ⟨by omega, by omega⟩ (by omega) ?_
  obtain ⟨z, σ1, σ2, hc, hm, hI2, hs1, fs1, hm1⟩ := st_put (hw _) (hw _) (hw _) hI
  refine mq_invV (ci := 10) (z := (mX11_put, 2, 0, 0)) (K' := (K.1 + 0, K.2 + 0)) (σ1 := σ1) (as := [mp_i (scr (Int.toNat (i + 1))), mp_i (scr (Int.toNat (i + 2))), mp_i (scr (Int.toNat (i + 3)))]) (st := []) (st1 := [mp_i z]) dL_law_1441 svL_172 hx rfl rfl hc ⟨by decide, by decide, (show K.1 + 0 ≤ 601024 by omega), (show K.2 + 0 ≤ 7293034 by omega), Nat.le_of_ble_eq_true rfl⟩ rfl rfl rfl rfl ?_
  refine mq_aload_n dL_law_1444 rfl ?_
  refine mq_aload_n dL_law_1445 rfl ?_
  refine mq_iload dL_law_1446 rfl ?_
  refine mq_iconst dL_law_1448 ?_
  refine mq_iadd (z := i + 1) dL_law_1449 (by first | rfl | omega) ?_
  refine mq_saload (i := i + 1) (n := n) (f := scr) dL_law_1450 hs1 ⟨by omega, by omega⟩ (by omega) ?_
  refine mq_aload_n dL_law_1451 rfl ?_
  refine mq_iload dL_law_1452 rfl ?_
  refine mq_iconst dL_law_1454 ?_
  refine mq_iadd (z := i + 2) dL_law_1455 (by first | rfl | omega) ?_
  refine mq_saload (i := i + 2) (n := n) (f := scr) dL_law_1456 hs1 ⟨by omega, by omega⟩ (by omega) ?_
  refine mq_aload_n dL_law_1457 rfl ?_
  refine mq_iload dL_law_1458 rfl ?_
  refine mq_iconst dL_law_1460 ?_
  refine mq_iadd (z := i + 3) dL_law_1461 (by first | rfl | omega) ?_
  refine mq_saload (i := i + 3) (n := n) (f := scr) dL_law_1462 hs1 ⟨by omega, by omega⟩ (by omega) ?_
  refine mq_invV (ci := 11) (z := (mX12_put, 3, 0, 0)) (K' := (K.1 + 0 + 0, K.2 + 0 + 0)) (σ1 := σ2) (as := [mp_i (scr (Int.toNat (i + 1))), mp_i (scr (Int.toNat (i + 2))), mp_i (scr (Int.toNat (i + 3)))]) (st := [mp_i z]) (st1 := [mp_i z, mp_i z]) dL_law_1463 svL_175 hm1 rfl rfl hm ⟨by decide, by decide, (show K.1 + 0 + 0 ≤ 601024 by omega), (show K.2 + 0 + 0 ≤ 7293034 by omega), Nat.le_of_ble_eq_true rfl⟩ rfl rfl rfl rfl ?_
  refine mq_icmp_same (tgt := 1661) dL_law_1466 rfl ?_
  exact next σ2 _ hI2 (by show K.1 + 0 + 0 ≤ K.1 + 40; omega) (by show K.2 + 0 + 0 ≤ K.2 + 280; omega)
theorem cL_38 {n : Nat} {scr : Nat → Int} {σ : mp_H} {i : Int} {K : Nat × Nat} {Q : mp_QX} (hI : mp_Inv n scr σ) (hi : 0 ≤ i ∧ i + 6 ≤ n) (hn : n ≤ 3072) (hw : ∀ j, mp_w (scr j)) (hK : K.1 + 40 ≤ 601024 ∧ K.2 + 280 ≤ 7293034)
    (next : ∀ σ' K', mp_Inv n scr σ' → K'.1 ≤ K.1 + 40 → K'.2 ≤ K.2 + 280 → mp_AtX (mL_law, 10, 601024, 7293034) K' 1661 [some (Value.ref 0), some (Value.ref 1), some (Value.ref 44), some (Value.ref 58), some (mp_i i), none, none, none] [] σ' Q) : mp_AtX (mL_law, 10, 601024, 7293034) K 1538 [some (Value.ref 0), some (Value.ref 1), some (Value.ref 44), some (Value.ref 58), some (mp_i i), none, none, none] [] σ Q := by
  obtain ⟨hs0, ⟨fs, hx⟩, -⟩ := hI.x
  refine mq_aload_n dL_law_1538 rfl ?_
  refine mq_aload_n dL_law_1539 rfl ?_
  refine mq_iload dL_law_1540 rfl ?_
  refine mq_iconst dL_law_1542 ?_
  refine mq_iadd (z := i + 1) dL_law_1543 (by first | rfl | omega) ?_
  refine mq_saload (i := i + 1) (n := n) (f := scr) dL_law_1544 hs0 ⟨by omega, by omega⟩ (by omega) ?_
  refine mq_aload_n dL_law_1545 rfl ?_
  refine mq_iload dL_law_1546 rfl ?_
  refine mq_iconst dL_law_1548 ?_
  refine mq_iadd (z := i + 2) dL_law_1549 (by first | rfl | omega) ?_
  refine mq_saload (i := i + 2) (n := n) (f := scr) dL_law_1550 hs0 ⟨by omega, by omega⟩ (by omega) ?_
  refine mq_aload_n dL_law_1551 rfl ?_
  refine mq_iload dL_law_1552 rfl ?_
  refine mq_iconst dL_law_1554 ?_
  refine mq_iadd (z := i + 3) dL_law_1555 (by first | rfl | omega) ?_
  refine mq_saload (i := i + 3) (n := n) (f := scr) dL_law_1556 hs0 ⟨by omega, by omega⟩ (by omega) ?_
  refine mq_aload_n dL_law_1557 rfl ?_
  refine mq_iload dL_law_1558 rfl ?_
  refine mq_iconst dL_law_1560 ?_
  refine mq_iadd (z := i + 4) dL_law_1561 (by first | rfl | omega) ?_
  refine mq_saload (i := i + 4) (n := n) (f := scr) dL_law_1562 hs0 ⟨by omega, by omega⟩ (by omega) ?_
  refine mq_aload_n dL_law_1563 rfl ?_
  refine mq_iload dL_law_1564 rfl ?_
  refine mq_iconst dL_law_1566 ?_
  refine mq_iadd (z := i + 5) dL_law_1567 (by first | rfl | omega) ?_
  refine mq_saload (i := i + 5) (n := n) (f := scr) dL_law_1568 hs0 ⟨by omega, by omega⟩ (by omega) ?_
  obtain ⟨z, σ1, σ2, hc, hm, hI2, hs1, fs1, hm1⟩ := st_copy (hw _) (hw _) (hw _) (hw _) (hw _) hI
  refine mq_invV (ci := 10) (z := (mX11_copy, 1, 0, 0)) (K' := (K.1 + 0, K.2 + 0)) (σ1 := σ1) (as := [mp_i (scr (Int.toNat (i + 1))), mp_i (scr (Int.toNat (i + 2))), mp_i (scr (Int.toNat (i + 3))), mp_i (scr (Int.toNat (i + 4))), mp_i (scr (Int.toNat (i + 5)))]) (st := []) (st1 := [mp_i z]) dL_law_1569 svL_185 hx rfl rfl hc ⟨by decide, by decide, (show K.1 + 0 ≤ 601024 by omega), (show K.2 + 0 ≤ 7293034 by omega), Nat.le_of_ble_eq_true rfl⟩ rfl rfl rfl rfl ?_
  refine mq_aload_n dL_law_1572 rfl ?_
  refine mq_aload_n dL_law_1573 rfl ?_
  refine mq_iload dL_law_1574 rfl ?_
  refine mq_iconst dL_law_1576 ?_
  refine mq_iadd (z := i + 1) dL_law_1577 (by first | rfl | omega) ?_
  refine mq_saload (i := i + 1) (n := n) (f := scr) dL_law_1578 hs1 ⟨by omega, by omega⟩ (by omega) ?_
  refine mq_aload_n dL_law_1579 rfl ?_
  refine mq_iload dL_law_1580 rfl ?_
  refine mq_iconst dL_law_1582 ?_
  refine mq_iadd (z := i + 2) dL_law_1583 (by first | rfl | omega) ?_
  refine mq_saload (i := i + 2) (n := n) (f := scr) dL_law_1584 hs1 ⟨by omega, by omega⟩ (by omega) ?_
  refine mq_aload_n dL_law_1585 rfl ?_
  refine mq_iload dL_law_1586 rfl ?_
  refine mq_iconst dL_law_1588 ?_
  refine mq_iadd (z := i + 3) dL_law_1589 (by first | rfl | omega) ?_
  refine mq_saload (i := i + 3) (n := n) (f := scr) dL_law_1590 hs1 ⟨by omega, by omega⟩ (by omega) ?_
  refine mq_aload_n dL_law_1591 rfl ?_
  refine mq_iload dL_law_1592 rfl ?_
  refine mq_iconst dL_law_1594 ?_
  refine mq_iadd (z := i + 4) dL_law_1595 (by first | rfl | omega) ?_
  refine mq_saload (i := i + 4) (n := n) (f := scr) dL_law_1596 hs1 ⟨by omega, by omega⟩ (by omega) ?_
  refine mq_aload_n dL_law_1597 rfl ?_
  refine mq_iload dL_law_1598 rfl ?_
  refine mq_iconst dL_law_1600 ?_
  refine mq_iadd (z := i + 5) dL_law_1601 (by first | rfl | omega) ?_
  refine mq_saload (i := i + 5) (n := n) (f := scr) dL_law_1602 hs1 ⟨by omega, by omega⟩ (by omega) ?_
  refine mq_invV (ci := 11) (z := (mX12_copy, 2, 0, 0)) (K' := (K.1 + 0 + 0, K.2 + 0 + 0)) (σ1 := σ2) (as := [mp_i (scr (Int.toNat (i + 1))), mp_i (scr (Int.toNat (i + 2))), mp_i (scr (Int.toNat (i + 3))), mp_i (scr (Int.toNat (i + 4))), mp_i (scr (Int.toNat (i + 5)))]) (st := [mp_i z]) (st1 := [mp_i z, mp_i z]) dL_law_1603 svL_189 hm1 rfl rfl hm ⟨by decide, by decide, (show K.1 + 0 + 0 ≤ 601024 by omega), (show K.2 + 0 + 0 ≤ 7293034 by omega), Nat.le_of_ble_eq_true rfl⟩ rfl rfl rfl rfl ?_
  refine mq_icmp_same (tgt := 1661) dL_law_1606 rfl ?_
  exact next σ2 _ hI2 (by show K.1 + 0 + 0 ≤ K.1 + 40; omega) (by show K.2 + 0 + 0 ≤ K.2 + 280; omega)
theorem cL_39 {n : Nat} {scr : Nat → Int} {σ : mp_H} {i : Int} {K : Nat × Nat} {Q : mp_QX} (hI : mp_Inv n scr σ) (hi : 0 ≤ i ∧ i + 6 ≤ n) (hn : n ≤ 3072) (hw : ∀ j, mp_w (scr j)) (hK : K.1 + 40 ≤ 601024 ∧ K.2 + 280 ≤ 7293034)
    (next : ∀ σ' K', mp_Inv n scr σ' → K'.1 ≤ K.1 + 40 → K'.2 ≤ K.2 + 280 → mp_AtX (mL_law, 10, 601024, 7293034) K' 1661 [some (Value.ref 0), some (Value.ref 1), some (Value.ref 44), some (Value.ref 58), some (mp_i i), none, none, none] [] σ' Q) : mp_AtX (mL_law, 10, 601024, 7293034) K 1611 [some (Value.ref 0), some (Value.ref 1), some (Value.ref 44), some (Value.ref 58), some (mp_i i), none, none, none] [] σ Q := by
  obtain ⟨hs0, ⟨fs, hx⟩, -⟩ := hI.x
  refine mq_aload_n dL_law_1611 rfl ?_
  refine mq_aload_n dL_law_1612 rfl ?_
  refine mq_iload dL_law_1613 rfl ?_
  refine mq_iconst dL_law_1615 ?_
  refine mq_iadd (z := i + 1) dL_law_1616 (by first | rfl | omega) ?_
  refine mq_saload (i := i + 1) (n := n) (f := scr) dL_law_1617 hs0 ⟨by omega, by omega⟩ (by omega) ?_
  obtain ⟨z, σ1, σ2, hc, hm, hI2, hs1, fs1, hm1⟩ := st_cost (hw _) hI
  refine mq_invV (ci := 10) (z := (mX11_cost, 3, 0, 0)) (K' := (K.1 + 0, K.2 + 0)) (σ1 := σ1) (as := [mp_i (scr (Int.toNat (i + 1)))]) (st := []) (st1 := [mp_i z]) dL_law_1618 svL_190 hx rfl rfl hc ⟨by decide, by decide, (show K.1 + 0 ≤ 601024 by omega), (show K.2 + 0 ≤ 7293034 by omega), Nat.le_of_ble_eq_true rfl⟩ rfl rfl rfl rfl ?_
  refine mq_aload_n dL_law_1621 rfl ?_
  refine mq_aload_n dL_law_1622 rfl ?_
  refine mq_iload dL_law_1623 rfl ?_
  refine mq_iconst dL_law_1625 ?_
  refine mq_iadd (z := i + 1) dL_law_1626 (by first | rfl | omega) ?_
  refine mq_saload (i := i + 1) (n := n) (f := scr) dL_law_1627 hs1 ⟨by omega, by omega⟩ (by omega) ?_
  refine mq_invV (ci := 11) (z := (mX12_cost, 3, 0, 0)) (K' := (K.1 + 0 + 0, K.2 + 0 + 0)) (σ1 := σ2) (as := [mp_i (scr (Int.toNat (i + 1)))]) (st := [mp_i z]) (st1 := [mp_i z, mp_i z]) dL_law_1628 svL_193 hm1 rfl rfl hm ⟨by decide, by decide, (show K.1 + 0 + 0 ≤ 601024 by omega), (show K.2 + 0 + 0 ≤ 7293034 by omega), Nat.le_of_ble_eq_true rfl⟩ rfl rfl rfl rfl ?_
  refine mq_icmp_same (tgt := 1661) dL_law_1631 rfl ?_
  exact next σ2 _ hI2 (by show K.1 + 0 + 0 ≤ K.1 + 40; omega) (by show K.2 + 0 + 0 ≤ K.2 + 280; omega)
