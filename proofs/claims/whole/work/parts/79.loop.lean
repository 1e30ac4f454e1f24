/-! ===== the law's loop ===== -/
theorem mp_and63 (a : Int) : ∃ y : Int, (0 ≤ y ∧ y ≤ 63) ∧ Int32.ofInt a &&& Int32.ofInt 63 = Int32.ofInt y := by
  refine ⟨((Int32.ofInt a &&& Int32.ofInt 63).toBitVec.toNat : Int), ⟨Int.natCast_nonneg _, ?_⟩, ?_⟩
  · have h9 : (Int32.ofInt a &&& Int32.ofInt 63).toBitVec.toNat ≤ 63 := by
      rw [Int32.toBitVec_and, BitVec.toNat_and]
      exact Nat.and_le_right
    omega
  · apply Int32.toBitVec_inj.mp
    rw [Int32.toBitVec_ofInt, BitVec.ofInt_natCast, BitVec.ofNat_toNat, BitVec.setWidth_eq]
theorem lL_law_23 {n : Nat} {scr : Nat → Int} (hn : n ≤ 3072) (hw : ∀ j, mp_w (scr j)) : ∀ (k : Nat) (i : Int) (σ : mp_H) (K : Nat × Nat), mp_Inv n scr σ → (0 ≤ i ∧ i ≤ 4000) → (n : Int) - 6 - i < 6 * (k : Int) → (K.1 : Int) + 40 * (k : Int) ≤ 601024 → (K.2 : Int) + 280 * (k : Int) ≤ 7293034 → mp_AtX (mL_law, 10, 601024, 7293034) K 23 [some (Value.ref 0), some (Value.ref 1), some (Value.ref 44), some (Value.ref 58), some (mp_i i), none, none, none] [] σ (mp_QB (mL_law, 10, 601024, 7293034) [] (fun A9 => A9.1 = some (mp_i 1)) (fun _ _ => False)) := by
  intro k
  induction k with
  | zero =>
    intro i σ K hI hi hk h1 h2
    obtain ⟨hs0, ⟨fs, hx⟩, -⟩ := hI.x
    refine mq_iload dL_law_23 rfl ?_
    refine mq_aload_n dL_law_25 rfl ?_
    refine mq_salen (n := n) (f := scr) dL_law_26 hs0 ?_
    refine mq_bipush (n := 6) dL_law_27 rfl ?_
    refine mq_isub (z := (n : Int) - 6) dL_law_29 (by first | rfl | omega) ?_
    refine mq_icmp_gt (tgt := 1667) dL_law_30 rfl ⟨by omega, by omega⟩ ⟨by omega, by omega⟩ (fun hg => ?_) (fun hg => ?_)
    · refine mq_ret (A := (some (mp_i 1), σ)) rfl ?_
      refine mp_iconst dL_law_1667 ?_
      exact mp_zreturn (st := []) dL_law_1668 rfl rfl ⟨by show K.1 ≤ 601024; omega, by show K.2 ≤ 7293034; omega⟩ rfl
    · exact absurd hg (by omega)
  | succ k ih =>
    intro i σ K hI hi hk h1 h2
    obtain ⟨hs0, ⟨fs, hx⟩, -⟩ := hI.x
    refine mq_iload dL_law_23 rfl ?_
    refine mq_aload_n dL_law_25 rfl ?_
    refine mq_salen (n := n) (f := scr) dL_law_26 hs0 ?_
    refine mq_bipush (n := 6) dL_law_27 rfl ?_
    refine mq_isub (z := (n : Int) - 6) dL_law_29 (by first | rfl | omega) ?_
    refine mq_icmp_gt (tgt := 1667) dL_law_30 rfl ⟨by omega, by omega⟩ ⟨by omega, by omega⟩ (fun hg => ?_) (fun hg => ?_)
    · refine mq_ret (A := (some (mp_i 1), σ)) rfl ?_
      refine mp_iconst dL_law_1667 ?_
      exact mp_zreturn (st := []) dL_law_1668 rfl rfl ⟨by show K.1 ≤ 601024; omega, by show K.2 ≤ 7293034; omega⟩ rfl
    · rw [show (((k + 1 : Nat)) : Int) = (k : Int) + 1 from rfl] at hk h1 h2
      have hi6 : 0 ≤ i ∧ i + 6 ≤ n := ⟨hi.1, by omega⟩
      have hK : K.1 + 40 ≤ 601024 ∧ K.2 + 280 ≤ 7293034 := ⟨by omega, by omega⟩
      have next : ∀ σ' K', mp_Inv n scr σ' → K'.1 ≤ K.1 + 40 → K'.2 ≤ K.2 + 280 → mp_AtX (mL_law, 10, 601024, 7293034) K' 1661 [some (Value.ref 0), some (Value.ref 1), some (Value.ref 44), some (Value.ref 58), some (mp_i i), none, none, none] [] σ' (mp_QB (mL_law, 10, 601024, 7293034) [] (fun A9 => A9.1 = some (mp_i 1)) (fun _ _ => False)) := by
        intro σ' K' hI' g1 g2
        refine mq_iinc (z := i + 6) (L' := [some (Value.ref 0), some (Value.ref 1), some (Value.ref 44), some (Value.ref 58), some (mp_i (i + 6)), none, none, none]) dL_law_1661 rfl (rfl) (by decide) rfl ?_
        refine mq_goto (tgt := 23) dL_law_1664 rfl ?_
        exact ih (i + 6) σ' K' hI' ⟨by omega, by omega⟩ (by omega) (by omega) (by omega)
      refine mq_aload_n dL_law_33 rfl ?_
      refine mq_iload dL_law_34 rfl ?_
      refine mq_saload (i := i) (n := n) (f := scr) dL_law_36 hs0 ⟨by omega, by omega⟩ (by omega) ?_
      refine mq_bipush (n := 63) dL_law_37 rfl ?_
      obtain ⟨y, hy, he⟩ := mp_and63 (scr (Int.toNat i))
      refine mq_iand (z := y) dL_law_39 he ?_
      by_cases h40 : y ≤ 40
      · obtain rfl | rfl | rfl | rfl | rfl | rfl | rfl | rfl | rfl | rfl | rfl | rfl | rfl | rfl | rfl | rfl | rfl | rfl | rfl | rfl | rfl | rfl | rfl | rfl | rfl | rfl | rfl | rfl | rfl | rfl | rfl | rfl | rfl | rfl | rfl | rfl | rfl | rfl | rfl | rfl | rfl : y = 0 ∨ y = 1 ∨ y = 2 ∨ y = 3 ∨ y = 4 ∨ y = 5 ∨ y = 6 ∨ y = 7 ∨ y = 8 ∨ y = 9 ∨ y = 10 ∨ y = 11 ∨ y = 12 ∨ y = 13 ∨ y = 14 ∨ y = 15 ∨ y = 16 ∨ y = 17 ∨ y = 18 ∨ y = 19 ∨ y = 20 ∨ y = 21 ∨ y = 22 ∨ y = 23 ∨ y = 24 ∨ y = 25 ∨ y = 26 ∨ y = 27 ∨ y = 28 ∨ y = 29 ∨ y = 30 ∨ y = 31 ∨ y = 32 ∨ y = 33 ∨ y = 34 ∨ y = 35 ∨ y = 36 ∨ y = 37 ∨ y = 38 ∨ y = 39 ∨ y = 40 := by omega
        · exact mq_tableIn (off := 180) (tgt := 220) dL_law_40 ⟨by decide, by decide⟩ (by decide) (by decide) rfl rfl (cL_0 hI hi6 hn hw hK next)
        · exact mq_tableIn (off := 205) (tgt := 245) dL_law_40 ⟨by decide, by decide⟩ (by decide) (by decide) rfl rfl (cL_1 hI hi6 hn hw hK next)
        · exact mq_tableIn (off := 242) (tgt := 282) dL_law_40 ⟨by decide, by decide⟩ (by decide) (by decide) rfl rfl (cL_2 hI hi6 hn hw hK next)
        · exact mq_tableIn (off := 279) (tgt := 319) dL_law_40 ⟨by decide, by decide⟩ (by decide) (by decide) rfl rfl (cL_3 hI hi6 hn hw hK next)
        · exact mq_tableIn (off := 340) (tgt := 380) dL_law_40 ⟨by decide, by decide⟩ (by decide) (by decide) rfl rfl (cL_4 hI hi6 hn hw hK next)
        · exact mq_tableIn (off := 377) (tgt := 417) dL_law_40 ⟨by decide, by decide⟩ (by decide) (by decide) rfl rfl (cL_5 hI hi6 hn hw hK next)
        · exact mq_tableIn (off := 426) (tgt := 466) dL_law_40 ⟨by decide, by decide⟩ (by decide) (by decide) rfl rfl (cL_6 hI hi6 hn hw hK next)
        · exact mq_tableIn (off := 451) (tgt := 491) dL_law_40 ⟨by decide, by decide⟩ (by decide) (by decide) rfl rfl (cL_7 hI hi6 hn hw hK next)
        · exact mq_tableIn (off := 476) (tgt := 516) dL_law_40 ⟨by decide, by decide⟩ (by decide) (by decide) rfl rfl (cL_8 hI hi6 hn hw hK next)
        · exact mq_tableIn (off := 525) (tgt := 565) dL_law_40 ⟨by decide, by decide⟩ (by decide) (by decide) rfl rfl (cL_9 hI hi6 hn hw hK next)
        · exact mq_tableIn (off := 550) (tgt := 590) dL_law_40 ⟨by decide, by decide⟩ (by decide) (by decide) rfl rfl (cL_10 hI hi6 hn hw hK next)
        · exact mq_tableIn (off := 563) (tgt := 603) dL_law_40 ⟨by decide, by decide⟩ (by decide) (by decide) rfl rfl (cL_11 hI hi6 hn hw hK next)
        · exact mq_tableIn (off := 576) (tgt := 616) dL_law_40 ⟨by decide, by decide⟩ (by decide) (by decide) rfl rfl (cL_12 hI hi6 hn hw hK next)
        · exact mq_tableIn (off := 589) (tgt := 629) dL_law_40 ⟨by decide, by decide⟩ (by decide) (by decide) rfl rfl (cL_13 hI hi6 hn hw hK next)
        · exact mq_tableIn (off := 614) (tgt := 654) dL_law_40 ⟨by decide, by decide⟩ (by decide) (by decide) rfl rfl (cL_14 hI hi6 hn hw hK next)
        · exact mq_tableIn (off := 651) (tgt := 691) dL_law_40 ⟨by decide, by decide⟩ (by decide) (by decide) rfl rfl (cL_15 hI hi6 hn hw hK next)
        · exact mq_tableIn (off := 664) (tgt := 704) dL_law_40 ⟨by decide, by decide⟩ (by decide) (by decide) rfl rfl (cL_16 hI hi6 hn hw hK next)
        · exact mq_tableIn (off := 689) (tgt := 729) dL_law_40 ⟨by decide, by decide⟩ (by decide) (by decide) rfl rfl (cL_17 hI hi6 hn hw hK next)
        · exact mq_tableIn (off := 714) (tgt := 754) dL_law_40 ⟨by decide, by decide⟩ (by decide) (by decide) rfl rfl (cL_18 hI hi6 hn hw hK next)
        · exact mq_tableIn (off := 751) (tgt := 791) dL_law_40 ⟨by decide, by decide⟩ (by decide) (by decide) rfl rfl (cL_19 hI hi6 hn hw hK next)
        · exact mq_tableIn (off := 788) (tgt := 828) dL_law_40 ⟨by decide, by decide⟩ (by decide) (by decide) rfl rfl (cL_20 hI hi6 hn hw hK next)
        · exact mq_tableIn (off := 825) (tgt := 865) dL_law_40 ⟨by decide, by decide⟩ (by decide) (by decide) rfl rfl (cL_21 hI hi6 hn hw hK next)
        · exact mq_tableIn (off := 887) (tgt := 927) dL_law_40 ⟨by decide, by decide⟩ (by decide) (by decide) rfl rfl (cL_22 hI hi6 hn hw hK next)
        · exact mq_tableIn (off := 924) (tgt := 964) dL_law_40 ⟨by decide, by decide⟩ (by decide) (by decide) rfl rfl (cL_23 hI hi6 hn hw hK next)
        · exact mq_tableIn (off := 985) (tgt := 1025) dL_law_40 ⟨by decide, by decide⟩ (by decide) (by decide) rfl rfl (cL_24 hI hi6 hn hw hK next)
        · exact mq_tableIn (off := 1010) (tgt := 1050) dL_law_40 ⟨by decide, by decide⟩ (by decide) (by decide) rfl rfl (cL_25 hI hi6 hn hw hK next)
        · exact mq_tableIn (off := 1059) (tgt := 1099) dL_law_40 ⟨by decide, by decide⟩ (by decide) (by decide) rfl rfl (cL_26 hI hi6 hn hw hK next)
        · exact mq_tableIn (off := 1084) (tgt := 1124) dL_law_40 ⟨by decide, by decide⟩ (by decide) (by decide) rfl rfl (cL_27 hI hi6 hn hw hK next)
        · exact mq_tableIn (off := 1110) (tgt := 1150) dL_law_40 ⟨by decide, by decide⟩ (by decide) (by decide) rfl rfl (cL_28 hI hi6 hn hw hK next)
        · exact mq_tableIn (off := 1135) (tgt := 1175) dL_law_40 ⟨by decide, by decide⟩ (by decide) (by decide) rfl rfl (cL_29 hI hi6 hn hw hK next)
        · exact mq_tableIn (off := 1172) (tgt := 1212) dL_law_40 ⟨by decide, by decide⟩ (by decide) (by decide) rfl rfl (cL_30 hI hi6 hn hw hK next)
        · exact mq_tableIn (off := 1221) (tgt := 1261) dL_law_40 ⟨by decide, by decide⟩ (by decide) (by decide) rfl rfl (cL_31 hI hi6 hn hw hK next)
        · exact mq_tableIn (off := 1234) (tgt := 1274) dL_law_40 ⟨by decide, by decide⟩ (by decide) (by decide) rfl rfl (cL_32 hI hi6 hn hw hK next)
        · exact mq_tableIn (off := 1247) (tgt := 1287) dL_law_40 ⟨by decide, by decide⟩ (by decide) (by decide) rfl rfl (cL_33 hI hi6 hn hw hK next)
        · exact mq_tableIn (off := 1272) (tgt := 1312) dL_law_40 ⟨by decide, by decide⟩ (by decide) (by decide) rfl rfl (cL_34 hI hi6 hn hw hK next)
        · exact mq_tableIn (off := 1333) (tgt := 1373) dL_law_40 ⟨by decide, by decide⟩ (by decide) (by decide) rfl rfl (cL_35 hI hi6 hn hw hK next)
        · exact mq_tableIn (off := 1382) (tgt := 1422) dL_law_40 ⟨by decide, by decide⟩ (by decide) (by decide) rfl rfl (cL_36 hI hi6 hn hw hK next)
        · exact mq_tableIn (off := 1431) (tgt := 1471) dL_law_40 ⟨by decide, by decide⟩ (by decide) (by decide) rfl rfl (cL_37 hI hi6 hn hw hK next)
        · exact mq_tableIn (off := 1498) (tgt := 1538) dL_law_40 ⟨by decide, by decide⟩ (by decide) (by decide) rfl rfl (cL_38 hI hi6 hn hw hK next)
        · exact mq_tableIn (off := 1571) (tgt := 1611) dL_law_40 ⟨by decide, by decide⟩ (by decide) (by decide) rfl rfl (cL_39 hI hi6 hn hw hK next)
        · exact mq_tableIn (off := 1596) (tgt := 1636) dL_law_40 ⟨by decide, by decide⟩ (by decide) (by decide) rfl rfl (cL_40 hI hi6 hn hw hK next)
      · exact mq_tableOut (tgt := 1661) dL_law_40 ⟨by omega, by omega⟩ (Or.inr (by omega)) rfl (next σ K hI (by omega) (by omega))
