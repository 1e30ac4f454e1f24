/-! ===== the law: element, toss ===== -/
theorem mp_sbhT : mp_SBH mX11_toss mp_tbT 1 := ⟨mp_gt_of 885 (by decide +kernel) rfl, mp_gt_of 1 (by decide +kernel) rfl, ⟨by decide +kernel, by decide +kernel⟩, by decide +kernel⟩
theorem mp_sbhE : mp_SBH mL_element mp_tbE 4 := ⟨mp_gt_of 1009 (by decide +kernel) rfl, mp_gt_of 0 (by decide +kernel) rfl, ⟨by decide +kernel, by decide +kernel⟩, by decide +kernel⟩
theorem cL_40 {n : Nat} {scr : Nat → Int} {σ : mp_H} {i : Int} {K : Nat × Nat} {Q : mp_QX} (hI : mp_Inv n scr σ) (hi : 0 ≤ i ∧ i + 6 ≤ n) (hn : n ≤ 3072) (hw : ∀ j, mp_w (scr j)) (hK : K.1 + 40 ≤ 601024 ∧ K.2 + 280 ≤ 7293034)
    (next : ∀ σ' K', mp_Inv n scr σ' → K'.1 ≤ K.1 + 40 → K'.2 ≤ K.2 + 280 → mp_AtX (mL_law, 10, 601024, 7293034) K' 1661 [some (Value.ref 0), some (Value.ref 1), some (Value.ref 44), some (Value.ref 58), some (mp_i i), none, none, none] [] σ' Q) : mp_AtX (mL_law, 10, 601024, 7293034) K 1636 [some (Value.ref 0), some (Value.ref 1), some (Value.ref 44), some (Value.ref 58), some (mp_i i), none, none, none] [] σ Q := by
  obtain ⟨hs0, ⟨fs, hx⟩, -⟩ := hI.x
  obtain ⟨Rt, v, hc, hR⟩ := st_toss (hw (Int.toNat (i + 1))) hI
  refine mq_aload_n dL_law_1636 rfl ?_
  refine mq_aload_n dL_law_1637 rfl ?_
  refine mq_iload dL_law_1638 rfl ?_
  refine mq_iconst dL_law_1640 ?_
  refine mq_iadd (z := i + 1) dL_law_1641 (by first | rfl | omega) ?_
  refine mq_saload (i := i + 1) (n := n) (f := scr) dL_law_1642 hs0 ⟨by omega, by omega⟩ (by omega) ?_
  refine mq_invVH (ci := 10) (z := (mX11_toss, 7, 1, 6)) (hh := mp_tbT) (K' := (K.1 + 1, K.2 + 6)) (as := [mp_i (scr (Int.toNat (i + 1)))]) (st := []) dL_law_1643 ⟨mp_sbhT, mp_gt_of 883 (by decide +kernel) rfl, mp_gt_of 884 (by decide +kernel) rfl, mp_gt_of 882 (by decide +kernel) rfl⟩ hx rfl rfl hc ⟨by decide, by decide, (show K.1 + 1 ≤ 601024 by omega), (show K.2 + 6 ≤ 7293034 by omega), Nat.le_of_ble_eq_true rfl⟩ rfl rfl (fun A1 h => ?_) (fun _ _ h => h.elim)
  obtain ⟨σ1, σ2, rfl, hm, hI2, hs1, fs1, hm1⟩ := hR A1 h
  refine mq_aload_n dL_law_1646 rfl ?_
  refine mq_aload_n dL_law_1647 rfl ?_
  refine mq_iload dL_law_1648 rfl ?_
  refine mq_iconst dL_law_1650 ?_
  refine mq_iadd (z := i + 1) dL_law_1651 (by first | rfl | omega) ?_
  refine mq_saload (i := i + 1) (n := n) (f := scr) dL_law_1652 hs1 ⟨by omega, by omega⟩ (by omega) ?_
  refine mq_invV (ci := 11) (z := (mX12_toss, 3, 0, 0)) (K' := (K.1 + 1 + 0, K.2 + 6 + 0)) (σ1 := σ2) (as := [mp_i (scr (Int.toNat (i + 1)))]) (st := [mp_i v]) (st1 := [mp_i v, mp_i v]) dL_law_1653 svL_197 hm1 rfl rfl hm ⟨by decide, by decide, (show K.1 + 1 + 0 ≤ 601024 by omega), (show K.2 + 6 + 0 ≤ 7293034 by omega), Nat.le_of_ble_eq_true rfl⟩ rfl rfl rfl rfl ?_
  refine mq_icmp_same (tgt := 1661) dL_law_1656 rfl ?_
  exact next σ2 _ hI2 (by show K.1 + 1 + 0 ≤ K.1 + 40; omega) (by show K.2 + 6 + 0 ≤ K.2 + 280; omega)
theorem cL_37 {n : Nat} {scr : Nat → Int} {σ : mp_H} {i : Int} {K : Nat × Nat} {Q : mp_QX} (hI : mp_Inv n scr σ) (hi : 0 ≤ i ∧ i + 6 ≤ n) (hn : n ≤ 3072) (hw : ∀ j, mp_w (scr j)) (hK : K.1 + 40 ≤ 601024 ∧ K.2 + 280 ≤ 7293034)
    (next : ∀ σ' K', mp_Inv n scr σ' → K'.1 ≤ K.1 + 40 → K'.2 ≤ K.2 + 280 → mp_AtX (mL_law, 10, 601024, 7293034) K' 1661 [some (Value.ref 0), some (Value.ref 1), some (Value.ref 44), some (Value.ref 58), some (mp_i i), none, none, none] [] σ' Q) : mp_AtX (mL_law, 10, 601024, 7293034) K 1471 [some (Value.ref 0), some (Value.ref 1), some (Value.ref 44), some (Value.ref 58), some (mp_i i), none, none, none] [] σ Q := by
  obtain ⟨hs0, ⟨fs, hx⟩, -⟩ := hI.x
  obtain ⟨Rt, hc, hR⟩ := st_element (hw (Int.toNat (i + 1))) (hw (Int.toNat (i + 2))) hI
  refine mq_aload_n dL_law_1471 rfl ?_
  refine mq_aload_n dL_law_1472 rfl ?_
  refine mq_iload dL_law_1473 rfl ?_
  refine mq_iconst dL_law_1475 ?_
  refine mq_iadd (z := i + 1) dL_law_1476 (by first | rfl | omega) ?_
  refine mq_saload (i := i + 1) (n := n) (f := scr) dL_law_1477 hs0 ⟨by omega, by omega⟩ (by omega) ?_
  refine mq_aload_n dL_law_1478 rfl ?_
  refine mq_iload dL_law_1479 rfl ?_
  refine mq_iconst dL_law_1481 ?_
  refine mq_iadd (z := i + 2) dL_law_1482 (by first | rfl | omega) ?_
  refine mq_saload (i := i + 2) (n := n) (f := scr) dL_law_1483 hs0 ⟨by omega, by omega⟩ (by omega) ?_
  refine mq_aload_n dL_law_1484 rfl ?_
  refine mq_invSH (z := (mL_element, 7, 1, 6)) (hh := mp_tbE) (K' := (K.1 + 1, K.2 + 6)) (as := [Value.ref 1, mp_i (scr (Int.toNat (i + 1))), mp_i (scr (Int.toNat (i + 2))), Value.ref 58]) (st := []) dL_law_1485 ⟨mp_sbhE, mp_gt_of 1008 (by decide +kernel) rfl, mp_gt_of 1007 (by decide +kernel) rfl⟩ hc ⟨by decide, by decide, (show K.1 + 1 ≤ 601024 by omega), (show K.2 + 6 ≤ 7293034 by omega), Nat.le_of_ble_eq_true rfl⟩ rfl rfl (fun A1 h => ?_) (fun _ _ h => h.elim)
  obtain ⟨v, w, σ1, σ2, rfl, hm, ht, hI2, ⟨hs1, fs1, hm1⟩, hv, out, ho, hw0⟩ := hR A1 h
  obtain ⟨hs2, ⟨fs2, hx2⟩, fs3, hm2⟩ := hI2.x
  refine mq_istore (L' := [some (Value.ref 0), some (Value.ref 1), some (Value.ref 44), some (Value.ref 58), some (mp_i i), some (mp_i v), none, none]) dL_law_1488 (by decide) rfl ?_
  refine mq_aload_n dL_law_1490 rfl ?_
  refine mq_aload_n dL_law_1491 rfl ?_
  refine mq_iload dL_law_1492 rfl ?_
  refine mq_iconst dL_law_1494 ?_
  refine mq_iadd (z := i + 1) dL_law_1495 (by first | rfl | omega) ?_
  refine mq_saload (i := i + 1) (n := n) (f := scr) dL_law_1496 hs1 ⟨by omega, by omega⟩ (by omega) ?_
  refine mq_aload_n dL_law_1497 rfl ?_
  refine mq_iload dL_law_1498 rfl ?_
  refine mq_iconst dL_law_1500 ?_
  refine mq_iadd (z := i + 2) dL_law_1501 (by first | rfl | omega) ?_
  refine mq_saload (i := i + 2) (n := n) (f := scr) dL_law_1502 hs1 ⟨by omega, by omega⟩ (by omega) ?_
  refine mq_invV (ci := 11) (z := (mX12_element, 2, 0, 0)) (K' := (K.1 + 1 + 0, K.2 + 6 + 0)) (σ1 := σ2) (as := [mp_i (scr (Int.toNat (i + 1))), mp_i (scr (Int.toNat (i + 2)))]) (st := []) (st1 := [mp_l w]) dL_law_1503 svL_181 hm1 rfl rfl hm ⟨by decide, by decide, (show K.1 + 1 + 0 ≤ 601024 by omega), (show K.2 + 6 + 0 ≤ 7293034 by omega), Nat.le_of_ble_eq_true rfl⟩ rfl rfl rfl rfl ?_
  refine mq_lstore (L' := [some (Value.ref 0), some (Value.ref 1), some (Value.ref 44), some (Value.ref 58), some (mp_i i), some (mp_i v), some (mp_l w), none]) dL_law_1506 (by decide) rfl ?_
  refine mq_aload_n dL_law_1508 rfl ?_
  refine mq_invV (ci := 11) (z := (mX12_thrown, 0, 0, 0)) (K' := (K.1 + 1 + 0 + 0, K.2 + 6 + 0 + 0)) (σ1 := σ2) (as := []) (st := []) (st1 := [mp_i v]) dL_law_1509 svL_182 hm2 rfl rfl ht ⟨by decide, by decide, (show K.1 + 1 + 0 + 0 ≤ 601024 by omega), (show K.2 + 6 + 0 + 0 ≤ 7293034 by omega), Nat.le_of_ble_eq_true rfl⟩ rfl rfl rfl rfl ?_
  refine mq_iload dL_law_1512 rfl ?_
  refine mq_icmp_same (tgt := 1519) dL_law_1514 rfl ?_
  refine mq_iload dL_law_1519 rfl ?_
  have fin : mp_AtX (mL_law, 10, 601024, 7293034) (K.1 + 1 + 0 + 0, K.2 + 6 + 0 + 0) 1535 [some (Value.ref 0), some (Value.ref 1), some (Value.ref 44), some (Value.ref 58), some (mp_i i), some (mp_i v), some (mp_l w), none] [] σ2 Q := by
    refine mq_goto (tgt := 1661) dL_law_1535 rfl ?_
    refine mq_drop (L' := [some (Value.ref 0), some (Value.ref 1), some (Value.ref 44), some (Value.ref 58), some (mp_i i), none, none, none]) [true, true, true, true, true, false, false, false] rfl ?_
    exact next σ2 _ hI2 (by show K.1 + 1 + 0 + 0 ≤ K.1 + 40; omega) (by show K.2 + 6 + 0 + 0 ≤ K.2 + 280; omega)
  refine mq_if_ne (tgt := 1535) dL_law_1521 rfl ⟨by omega, by omega⟩ (fun _ => fin) (fun h0 => ?_)
  refine mq_aload_n dL_law_1524 rfl ?_
  refine mq_iconst dL_law_1525 ?_
  refine mq_laload (f := out) (n := 1) dL_law_1526 ho ⟨by decide, by decide⟩ (by decide) ?_
  rw [show out (Int.toNat 0) = w from hw0 h0]
  refine mq_lload dL_law_1527 rfl ?_
  refine mq_lcmp_same dL_law_1529 ?_
  exact mq_if_eq (tgt := 1535) (a := 0) dL_law_1530 rfl ⟨by decide, by decide⟩ (fun _ => fin) (fun h => absurd rfl h)
