/-! ===== the class: shelves, the sky as told, who sees, nights ===== -/
theorem zX11_rowOn {s si sp : Int → Int} {f fi fp : Nat → Option Nat} {im : Int} {hd : Int → Int} {kn : Nat → Option Nat} {wd ak ke cv vo so sz el : Int → Int} {A B : mp_H} {kk kf : Int → Int} {d : Int} (hA : A.length = 1) (hsh : ∀ d, 0 ≤ d → d ≤ 7 → mp_shf hd kk kf so sz d) (h_d : 0 ≤ d ∧ d ≤ 7) (h2 : hd d = 2) : mp_Call (mX11_rowOn, 0, 0, 0) [Value.ref 1, mp_i d] (A ++ (mp_cs s si sp f fi fp im hd kn wd ak ke cv vo so sz el ++ B)) (some (Value.ref (28 + 2 * Int.toNat d)), A ++ (mp_cs s si sp f fi fp im hd kn wd ak ke cv vo so sz el ++ B)) := by
  refine mp_Call.of (L := [some (Value.ref 1), some (mp_i d)]) pnX11 (Nat.le_of_ble_eq_true rfl) rfl ?_
  refine mp_aload_n dX11_rowOn_0 rfl ?_
  refine mp_getfield dX11_rowOn_1 fsX11_22_10 (mp_lkP hA 0 rfl) rfl ?_
  refine mp_iload_n dX11_rowOn_4 rfl ?_
  refine mp_iald dX11_rowOn_5 (mp_lkP hA 19 rfl) ⟨by omega, by omega⟩ (by omega) ?_
  have b1 := hsh d (by omega) (by omega)
  have b2 := hsh d
  refine mp_iconst dX11_rowOn_6 ?_
  refine mp_icmp_ne (tgt := 19) dX11_rowOn_7 rfl ⟨by omega, by omega⟩ ⟨by omega, by omega⟩ (fun h3 => ?_) (fun h3 => ?_)
  · exfalso; omega
  · refine mp_aload_n dX11_rowOn_10 rfl ?_
    refine mp_getfield dX11_rowOn_11 fsX11_34_10 (mp_lkP hA 0 rfl) rfl ?_
    refine mp_iload_n dX11_rowOn_14 rfl ?_
    refine mp_aaload dX11_rowOn_15 (mp_lkP hA 21 rfl) (by decide) ⟨by omega, by omega⟩ (by omega) ?_
    rw [mp_rwf_in h_d]
    refine mp_goto (tgt := 20) dX11_rowOn_16 rfl ?_
    exact mp_areturn (st := []) dX11_rowOn_20 rfl (Or.inr ⟨_, rfl⟩) ⟨by decide, by decide⟩ (by rfl)
theorem zX11_rowOnN {s si sp : Int → Int} {f fi fp : Nat → Option Nat} {im : Int} {hd : Int → Int} {kn : Nat → Option Nat} {wd ak ke cv vo so sz el : Int → Int} {A B : mp_H} {kk kf : Int → Int} {d : Int} (hA : A.length = 1) (hsh : ∀ d, 0 ≤ d → d ≤ 7 → mp_shf hd kk kf so sz d) (h_d : 0 ≤ d ∧ d ≤ 7) (h2 : ¬ hd d = 2) : mp_Call (mX11_rowOn, 0, 0, 0) [Value.ref 1, mp_i d] (A ++ (mp_cs s si sp f fi fp im hd kn wd ak ke cv vo so sz el ++ B)) (some (Value.null), A ++ (mp_cs s si sp f fi fp im hd kn wd ak ke cv vo so sz el ++ B)) := by
  refine mp_Call.of (L := [some (Value.ref 1), some (mp_i d)]) pnX11 (Nat.le_of_ble_eq_true rfl) rfl ?_
  refine mp_aload_n dX11_rowOn_0 rfl ?_
  refine mp_getfield dX11_rowOn_1 fsX11_22_10 (mp_lkP hA 0 rfl) rfl ?_
  refine mp_iload_n dX11_rowOn_4 rfl ?_
  refine mp_iald dX11_rowOn_5 (mp_lkP hA 19 rfl) ⟨by omega, by omega⟩ (by omega) ?_
  have b1 := hsh d (by omega) (by omega)
  have b2 := hsh d
  refine mp_iconst dX11_rowOn_6 ?_
  refine mp_icmp_ne (tgt := 19) dX11_rowOn_7 rfl ⟨by omega, by omega⟩ ⟨by omega, by omega⟩ (fun h3 => ?_) (fun h3 => ?_)
  · refine mp_null dX11_rowOn_19 ?_
    exact mp_areturn (st := []) dX11_rowOn_20 rfl (Or.inl rfl) ⟨by decide, by decide⟩ (by rfl)
  · exfalso; omega
theorem zX11_meteorOn {s si sp : Int → Int} {f fi fp : Nat → Option Nat} {im : Int} {hd : Int → Int} {kn : Nat → Option Nat} {wd ak ke cv vo so sz el : Int → Int} {A B : mp_H} {kk kf : Int → Int} {a : Nat} {d : Int} (hA : A.length = 1) (hsh : ∀ d, 0 ≤ d → d ≤ 7 → mp_shf hd kk kf so sz d) (h_d : 0 ≤ d ∧ d ≤ 7) (h1 : hd d = 1) (hka : kn (Int.toNat d) = some a) : mp_Call (mX11_meteorOn, 0, 0, 0) [Value.ref 1, mp_i d] (A ++ (mp_cs s si sp f fi fp im hd kn wd ak ke cv vo so sz el ++ B)) (some (Value.ref a), A ++ (mp_cs s si sp f fi fp im hd kn wd ak ke cv vo so sz el ++ B)) := by
  refine mp_Call.of (L := [some (Value.ref 1), some (mp_i d)]) pnX11 (Nat.le_of_ble_eq_true rfl) rfl ?_
  refine mp_aload_n dX11_meteorOn_0 rfl ?_
  refine mp_getfield dX11_meteorOn_1 fsX11_22_10 (mp_lkP hA 0 rfl) rfl ?_
  refine mp_iload_n dX11_meteorOn_4 rfl ?_
  refine mp_iald dX11_meteorOn_5 (mp_lkP hA 19 rfl) ⟨by omega, by omega⟩ (by omega) ?_
  have b1 := hsh d (by omega) (by omega)
  have b2 := hsh d
  refine mp_iconst dX11_meteorOn_6 ?_
  refine mp_icmp_ne (tgt := 19) dX11_meteorOn_7 rfl ⟨by omega, by omega⟩ ⟨by omega, by omega⟩ (fun h3 => ?_) (fun h3 => ?_)
  · exfalso; omega
  · refine mp_aload_n dX11_meteorOn_10 rfl ?_
    refine mp_getfield dX11_meteorOn_11 fsX11_28_10 (mp_lkP hA 0 rfl) rfl ?_
    refine mp_iload_n dX11_meteorOn_14 rfl ?_
    refine mp_aaload dX11_meteorOn_15 (mp_lkP hA 20 rfl) (by decide) ⟨by omega, by omega⟩ (by omega) ?_
    rw [hka]
    refine mp_goto (tgt := 20) dX11_meteorOn_16 rfl ?_
    exact mp_areturn (st := []) dX11_meteorOn_20 rfl (Or.inr ⟨_, rfl⟩) ⟨by decide, by decide⟩ (by rfl)
theorem zX11_meteorOnN {s si sp : Int → Int} {f fi fp : Nat → Option Nat} {im : Int} {hd : Int → Int} {kn : Nat → Option Nat} {wd ak ke cv vo so sz el : Int → Int} {A B : mp_H} {kk kf : Int → Int} {d : Int} (hA : A.length = 1) (hsh : ∀ d, 0 ≤ d → d ≤ 7 → mp_shf hd kk kf so sz d) (h_d : 0 ≤ d ∧ d ≤ 7) (h1 : ¬ hd d = 1) : mp_Call (mX11_meteorOn, 0, 0, 0) [Value.ref 1, mp_i d] (A ++ (mp_cs s si sp f fi fp im hd kn wd ak ke cv vo so sz el ++ B)) (some (Value.null), A ++ (mp_cs s si sp f fi fp im hd kn wd ak ke cv vo so sz el ++ B)) := by
  refine mp_Call.of (L := [some (Value.ref 1), some (mp_i d)]) pnX11 (Nat.le_of_ble_eq_true rfl) rfl ?_
  refine mp_aload_n dX11_meteorOn_0 rfl ?_
  refine mp_getfield dX11_meteorOn_1 fsX11_22_10 (mp_lkP hA 0 rfl) rfl ?_
  refine mp_iload_n dX11_meteorOn_4 rfl ?_
  refine mp_iald dX11_meteorOn_5 (mp_lkP hA 19 rfl) ⟨by omega, by omega⟩ (by omega) ?_
  have b1 := hsh d (by omega) (by omega)
  have b2 := hsh d
  refine mp_iconst dX11_meteorOn_6 ?_
  refine mp_icmp_ne (tgt := 19) dX11_meteorOn_7 rfl ⟨by omega, by omega⟩ ⟨by omega, by omega⟩ (fun h3 => ?_) (fun h3 => ?_)
  · refine mp_null dX11_meteorOn_19 ?_
    exact mp_areturn (st := []) dX11_meteorOn_20 rfl (Or.inl rfl) ⟨by decide, by decide⟩ (by rfl)
  · exfalso; omega
theorem zX11_whyNot {s si sp : Int → Int} {f fi fp : Nat → Option Nat} {im : Int} {hd : Int → Int} {kn : Nat → Option Nat} {wd ak ke cv vo so sz el : Int → Int} {A B : mp_H} {kk kf : Int → Int} {d : Int} (hA : A.length = 1) (hsh : ∀ d, 0 ≤ d → d ≤ 7 → mp_shf hd kk kf so sz d) (h_d : 0 ≤ d ∧ d ≤ 7) : mp_Call (mX11_whyNot, 0, 0, 0) [Value.ref 1, mp_i d] (A ++ (mp_cs s si sp f fi fp im hd kn wd ak ke cv vo so sz el ++ B)) (some (mp_i (if hd d = 0 then -11 else -12)), A ++ (mp_cs s si sp f fi fp im hd kn wd ak ke cv vo so sz el ++ B)) := by
  refine mp_Call.of (L := [some (Value.ref 1), some (mp_i d)]) pnX11 (Nat.le_of_ble_eq_true rfl) rfl ?_
  refine mp_aload_n dX11_whyNot_0 rfl ?_
  refine mp_getfield dX11_whyNot_1 fsX11_22_10 (mp_lkP hA 0 rfl) rfl ?_
  refine mp_iload_n dX11_whyNot_4 rfl ?_
  refine mp_iald dX11_whyNot_5 (mp_lkP hA 19 rfl) ⟨by omega, by omega⟩ (by omega) ?_
  have b1 := hsh d (by omega) (by omega)
  have b2 := hsh d
  refine mp_if_ne (tgt := 14) dX11_whyNot_6 rfl ⟨by omega, by omega⟩ (fun h3 => ?_) (fun h3 => ?_)
  · refine mp_bipush dX11_whyNot_14 rfl ?_
    exact mp_ireturn (st := []) dX11_whyNot_16 rfl ⟨by decide, by decide⟩ ((mp_ans (by first | (rw [if_pos (by omega)]; done) | (rw [if_neg (by omega)]; done))))
  · refine mp_bipush dX11_whyNot_9 rfl ?_
    refine mp_goto (tgt := 16) dX11_whyNot_11 rfl ?_
    exact mp_ireturn (st := []) dX11_whyNot_16 rfl ⟨by decide, by decide⟩ ((mp_ans (by first | (rw [if_pos (by omega)]; done) | (rw [if_neg (by omega)]; done))))
theorem zX11_meteor {s si sp : Int → Int} {f fi fp : Nat → Option Nat} {im : Int} {hd : Int → Int} {kn : Nat → Option Nat} {wd ak ke cv vo so sz el : Int → Int} {A B : mp_H}  {m : Int} {w : Int} (hA : A.length = 1) (hs : mp_sky s) (hMt : mp_Mt (A ++ (mp_cs s si sp f fi fp im hd kn wd ak ke cv vo so sz el ++ B)) s f) (h_m : mp_w m) (h_w : mp_w w) : mp_Call (mX11_meteor, 3, 0, 0) [Value.ref 1, mp_i m, mp_i w] (A ++ (mp_cs s si sp f fi fp im hd kn wd ak ke cv vo so sz el ++ B)) (some (mp_i (sp_meteor s m w)), A ++ (mp_cs s si sp f fi fp im hd kn wd ak ke cv vo so sz el ++ B)) := by
  refine mp_Call.of (L := [some (Value.ref 1), some (mp_i m), some (mp_i w), none]) pnX11 (Nat.le_of_ble_eq_true rfl) rfl ?_
  have hz0 := hs.1
  refine mp_aload_n dX11_meteor_0 rfl ?_
  refine mp_getfield dX11_meteor_1 fsX11_10_10 (mp_lkP hA 0 rfl) rfl ?_
  refine mp_iload_n dX11_meteor_4 rfl ?_
  by_cases hm1 : 0 ≤ m ∧ m < s 0
  · obtain ⟨a1, hf1, hc1⟩ := (mp_Sk.of (σ := A ++ (mp_cs s si sp f fi fp im hd kn wd ak ke cv vo so sz el ++ B)) (mp_skC2 hA) hMt).2.2.2.2.2.2 m hm1.1 hm1.2
    have ht1 := hs.2.1 m hm1.1 hm1.2
    have hl1 := mp_lasts_bd (kind := (s (1 + 6 * m + 0))) (f := (s (1 + 6 * m + 1))) (by omega)
    have hr1 := mp_bright_bd (kind := (s (1 + 6 * m + 0))) (f := (s (1 + 6 * m + 1))) (by omega)
    refine mp_invV (z := (mX6_at, 0, 0, 0)) (K' := (0, 0)) (σ1 := A ++ (mp_cs s si sp f fi fp im hd kn wd ak ke cv vo so sz el ++ B)) (as := [mp_i m]) (st := []) (st1 := [Value.ref a1]) dX11_meteor_5 svX11_93 (mp_Sk.of (σ := A ++ (mp_cs s si sp f fi fp im hd kn wd ak ke cv vo so sz el ++ B)) (mp_skC2 hA) hMt).1 rfl rfl (zX6_at (p := 2) (m := m) (a := a1) (s := s) (f := f) (mp_Sk.of (σ := A ++ (mp_cs s si sp f fi fp im hd kn wd ak ke cv vo so sz el ++ B)) (mp_skC2 hA) hMt) hm1 (by omega) hf1) ⟨Nat.le_of_ble_eq_true rfl, Nat.le_of_ble_eq_true rfl, Nat.le_of_ble_eq_true rfl, Nat.le_of_ble_eq_true rfl, Nat.le_of_ble_eq_true rfl⟩ rfl rfl rfl rfl ?_
    refine mp_astore_n (L' := [some (Value.ref 1), some (mp_i m), some (mp_i w), some (Value.ref a1)]) dX11_meteor_8 rfl (by decide) rfl ?_
    refine mp_aload_n dX11_meteor_9 rfl ?_
    refine mp_ifnonnull_r (tgt := 15) dX11_meteor_10 rfl ?_
    refine mp_iload_n dX11_meteor_15 rfl ?_
    by_cases q2 : w = 0
    · refine mp_top (y := 0) q2 ?_
      refine mp_tableIn (tgt := 72) (off := 56) dX11_meteor_16 ⟨by decide, by decide⟩ (by decide) (by decide) rfl rfl ?_
      refine mp_aload_n dX11_meteor_72 rfl ?_
      refine mp_getfield dX11_meteor_73 (fsX11_96 (by omega)) hc1 rfl ?_
      exact mp_ireturn (st := []) dX11_meteor_76 rfl ⟨by decide, by decide⟩ ((mp_ans (by unfold sp_meteor; first | (rw [if_pos (by omega)]; done) | (rw [if_neg (by omega), if_pos (by omega)]; done) | (rw [if_neg (by omega), if_neg (by omega), if_pos (by omega)]; done) | (rw [if_neg (by omega), if_neg (by omega), if_neg (by omega), if_pos (by omega)]; done) | (rw [if_neg (by omega), if_neg (by omega), if_neg (by omega), if_neg (by omega), if_pos (by omega)]; done) | (obtain rfl : w = 0 := (by omega); rw [if_neg (by omega)]; rfl) | (obtain rfl : w = 1 := (by omega); rw [if_neg (by omega)]; rfl) | (obtain rfl : w = 2 := (by omega); rw [if_neg (by omega)]; rfl) | (obtain rfl : w = 3 := (by omega); rw [if_neg (by omega)]; rfl) | (obtain rfl : w = 4 := (by omega); rw [if_neg (by omega)]; rfl) | (obtain rfl : w = 5 := (by omega); rw [if_neg (by omega)]; rfl) | (obtain rfl : w = 0 := (by omega); rw [if_neg (by omega)]; rfl))))
    by_cases q3 : w = 1
    · refine mp_top (y := 1) q3 ?_
      refine mp_tableIn (tgt := 77) (off := 61) dX11_meteor_16 ⟨by decide, by decide⟩ (by decide) (by decide) rfl rfl ?_
      refine mp_aload_n dX11_meteor_77 rfl ?_
      refine mp_getfield dX11_meteor_78 (fsX11_99 (by omega)) hc1 rfl ?_
      exact mp_ireturn (st := []) dX11_meteor_81 rfl ⟨by decide, by decide⟩ ((mp_ans (by unfold sp_meteor; first | (rw [if_pos (by omega)]; done) | (rw [if_neg (by omega), if_pos (by omega)]; done) | (rw [if_neg (by omega), if_neg (by omega), if_pos (by omega)]; done) | (rw [if_neg (by omega), if_neg (by omega), if_neg (by omega), if_pos (by omega)]; done) | (rw [if_neg (by omega), if_neg (by omega), if_neg (by omega), if_neg (by omega), if_pos (by omega)]; done) | (obtain rfl : w = 0 := (by omega); rw [if_neg (by omega)]; rfl) | (obtain rfl : w = 1 := (by omega); rw [if_neg (by omega)]; rfl) | (obtain rfl : w = 2 := (by omega); rw [if_neg (by omega)]; rfl) | (obtain rfl : w = 3 := (by omega); rw [if_neg (by omega)]; rfl) | (obtain rfl : w = 4 := (by omega); rw [if_neg (by omega)]; rfl) | (obtain rfl : w = 5 := (by omega); rw [if_neg (by omega)]; rfl) | (obtain rfl : w = 0 := (by omega); rw [if_neg (by omega)]; rfl))))
    by_cases q4 : w = 2
    · refine mp_top (y := 2) q4 ?_
      refine mp_tableIn (tgt := 82) (off := 66) dX11_meteor_16 ⟨by decide, by decide⟩ (by decide) (by decide) rfl rfl ?_
      refine mp_aload_n dX11_meteor_82 rfl ?_
      refine mp_getfield dX11_meteor_83 (fsX11_102 (by omega)) hc1 rfl ?_
      exact mp_ireturn (st := []) dX11_meteor_86 rfl ⟨by decide, by decide⟩ ((mp_ans (by unfold sp_meteor; first | (rw [if_pos (by omega)]; done) | (rw [if_neg (by omega), if_pos (by omega)]; done) | (rw [if_neg (by omega), if_neg (by omega), if_pos (by omega)]; done) | (rw [if_neg (by omega), if_neg (by omega), if_neg (by omega), if_pos (by omega)]; done) | (rw [if_neg (by omega), if_neg (by omega), if_neg (by omega), if_neg (by omega), if_pos (by omega)]; done) | (obtain rfl : w = 0 := (by omega); rw [if_neg (by omega)]; rfl) | (obtain rfl : w = 1 := (by omega); rw [if_neg (by omega)]; rfl) | (obtain rfl : w = 2 := (by omega); rw [if_neg (by omega)]; rfl) | (obtain rfl : w = 3 := (by omega); rw [if_neg (by omega)]; rfl) | (obtain rfl : w = 4 := (by omega); rw [if_neg (by omega)]; rfl) | (obtain rfl : w = 5 := (by omega); rw [if_neg (by omega)]; rfl) | (obtain rfl : w = 0 := (by omega); rw [if_neg (by omega)]; rfl))))
    by_cases q5 : w = 3
    · refine mp_top (y := 3) q5 ?_
      refine mp_tableIn (tgt := 87) (off := 71) dX11_meteor_16 ⟨by decide, by decide⟩ (by decide) (by decide) rfl rfl ?_
      refine mp_aload_n dX11_meteor_87 rfl ?_
      refine mp_getfield dX11_meteor_88 (fsX11_105 (by omega)) hc1 rfl ?_
      exact mp_ireturn (st := []) dX11_meteor_91 rfl ⟨by decide, by decide⟩ ((mp_ans (by unfold sp_meteor; first | (rw [if_pos (by omega)]; done) | (rw [if_neg (by omega), if_pos (by omega)]; done) | (rw [if_neg (by omega), if_neg (by omega), if_pos (by omega)]; done) | (rw [if_neg (by omega), if_neg (by omega), if_neg (by omega), if_pos (by omega)]; done) | (rw [if_neg (by omega), if_neg (by omega), if_neg (by omega), if_neg (by omega), if_pos (by omega)]; done) | (obtain rfl : w = 0 := (by omega); rw [if_neg (by omega)]; rfl) | (obtain rfl : w = 1 := (by omega); rw [if_neg (by omega)]; rfl) | (obtain rfl : w = 2 := (by omega); rw [if_neg (by omega)]; rfl) | (obtain rfl : w = 3 := (by omega); rw [if_neg (by omega)]; rfl) | (obtain rfl : w = 4 := (by omega); rw [if_neg (by omega)]; rfl) | (obtain rfl : w = 5 := (by omega); rw [if_neg (by omega)]; rfl) | (obtain rfl : w = 0 := (by omega); rw [if_neg (by omega)]; rfl))))
    by_cases q6 : w = 4
    · refine mp_top (y := 4) q6 ?_
      refine mp_tableIn (tgt := 92) (off := 76) dX11_meteor_16 ⟨by decide, by decide⟩ (by decide) (by decide) rfl rfl ?_
      refine mp_aload_n dX11_meteor_92 rfl ?_
      refine mp_getfield dX11_meteor_93 (fsX11_108 (by omega)) hc1 rfl ?_
      exact mp_ireturn (st := []) dX11_meteor_96 rfl ⟨by decide, by decide⟩ ((mp_ans (by unfold sp_meteor; first | (rw [if_pos (by omega)]; done) | (rw [if_neg (by omega), if_pos (by omega)]; done) | (rw [if_neg (by omega), if_neg (by omega), if_pos (by omega)]; done) | (rw [if_neg (by omega), if_neg (by omega), if_neg (by omega), if_pos (by omega)]; done) | (rw [if_neg (by omega), if_neg (by omega), if_neg (by omega), if_neg (by omega), if_pos (by omega)]; done) | (obtain rfl : w = 0 := (by omega); rw [if_neg (by omega)]; rfl) | (obtain rfl : w = 1 := (by omega); rw [if_neg (by omega)]; rfl) | (obtain rfl : w = 2 := (by omega); rw [if_neg (by omega)]; rfl) | (obtain rfl : w = 3 := (by omega); rw [if_neg (by omega)]; rfl) | (obtain rfl : w = 4 := (by omega); rw [if_neg (by omega)]; rfl) | (obtain rfl : w = 5 := (by omega); rw [if_neg (by omega)]; rfl) | (obtain rfl : w = 0 := (by omega); rw [if_neg (by omega)]; rfl))))
    by_cases q7 : w = 5
    · refine mp_top (y := 5) q7 ?_
      refine mp_tableIn (tgt := 97) (off := 81) dX11_meteor_16 ⟨by decide, by decide⟩ (by decide) (by decide) rfl rfl ?_
      refine mp_aload_n dX11_meteor_97 rfl ?_
      refine mp_getfield dX11_meteor_98 fsX11_10_10 (mp_lkP hA 0 rfl) rfl ?_
      refine mp_getfield dX11_meteor_101 fsX11_111_8 (mp_lkP hA 1 rfl) rfl ?_
      refine mp_iload_n dX11_meteor_104 rfl ?_
      refine mp_iald dX11_meteor_105 (mp_lkP hA 3 rfl) ⟨by omega, by omega⟩ (by omega) ?_
      refine mp_top (y := s (1 + 6 * m + 5)) (sp_isf_in ⟨by omega, by omega⟩) ?_
      exact mp_ireturn (st := []) dX11_meteor_106 rfl ⟨by decide, by decide⟩ ((mp_ans (by unfold sp_meteor; first | (rw [if_pos (by omega)]; done) | (rw [if_neg (by omega), if_pos (by omega)]; done) | (rw [if_neg (by omega), if_neg (by omega), if_pos (by omega)]; done) | (rw [if_neg (by omega), if_neg (by omega), if_neg (by omega), if_pos (by omega)]; done) | (rw [if_neg (by omega), if_neg (by omega), if_neg (by omega), if_neg (by omega), if_pos (by omega)]; done) | (obtain rfl : w = 0 := (by omega); rw [if_neg (by omega)]; rfl) | (obtain rfl : w = 1 := (by omega); rw [if_neg (by omega)]; rfl) | (obtain rfl : w = 2 := (by omega); rw [if_neg (by omega)]; rfl) | (obtain rfl : w = 3 := (by omega); rw [if_neg (by omega)]; rfl) | (obtain rfl : w = 4 := (by omega); rw [if_neg (by omega)]; rfl) | (obtain rfl : w = 5 := (by omega); rw [if_neg (by omega)]; rfl) | (obtain rfl : w = 0 := (by omega); rw [if_neg (by omega)]; rfl))))
    by_cases q8 : w = 6
    · refine mp_top (y := 6) q8 ?_
      refine mp_tableIn (tgt := 107) (off := 91) dX11_meteor_16 ⟨by decide, by decide⟩ (by decide) (by decide) rfl rfl ?_
      refine mp_aload_n dX11_meteor_107 rfl ?_
      refine mp_inv8 (kd := (s (1 + 6 * m + 0))) (σ1 := A ++ (mp_cs s si sp f fi fp im hd kn wd ak ke cv vo so sz el ++ B)) (as := []) (st := []) (st1 := [mp_i (sp_lasts (s (1 + 6 * m + 0)) (s (1 + 6 * m + 1)))]) dX11_meteor_108 (by omega) s8X11_114 hc1 (fa_lasts (a := a1) (kd := (s (1 + 6 * m + 0))) (f := (s (1 + 6 * m + 1))) (co := (s (1 + 6 * m + 2))) (sl := (s (1 + 6 * m + 3))) (ni := (s (1 + 6 * m + 4))) (la := (sp_lasts (s (1 + 6 * m + 0)) (s (1 + 6 * m + 1)))) (br := (sp_bright (s (1 + 6 * m + 0)) (s (1 + 6 * m + 1)))) hc1 (by first | with_reducible assumption | omega) (by first | with_reducible assumption | omega)) (Nat.le_of_ble_eq_true rfl) ⟨Nat.le_of_ble_eq_true rfl, Nat.le_of_ble_eq_true rfl⟩ (Nat.le_of_ble_eq_true rfl) rfl rfl rfl ?_
      have b9 := @mp_lasts_bd (s (1 + 6 * m + 0)) (s (1 + 6 * m + 1)) (by omega)
      exact mp_ireturn (st := []) dX11_meteor_111 rfl ⟨by decide, by decide⟩ ((mp_ans (by unfold sp_meteor; first | (rw [if_pos (by omega)]; done) | (rw [if_neg (by omega), if_pos (by omega)]; done) | (rw [if_neg (by omega), if_neg (by omega), if_pos (by omega)]; done) | (rw [if_neg (by omega), if_neg (by omega), if_neg (by omega), if_pos (by omega)]; done) | (rw [if_neg (by omega), if_neg (by omega), if_neg (by omega), if_neg (by omega), if_pos (by omega)]; done) | (obtain rfl : w = 0 := (by omega); rw [if_neg (by omega)]; rfl) | (obtain rfl : w = 1 := (by omega); rw [if_neg (by omega)]; rfl) | (obtain rfl : w = 2 := (by omega); rw [if_neg (by omega)]; rfl) | (obtain rfl : w = 3 := (by omega); rw [if_neg (by omega)]; rfl) | (obtain rfl : w = 4 := (by omega); rw [if_neg (by omega)]; rfl) | (obtain rfl : w = 5 := (by omega); rw [if_neg (by omega)]; rfl) | (obtain rfl : w = 0 := (by omega); rw [if_neg (by omega)]; rfl))))
    by_cases q10 : w = 7
    · refine mp_top (y := 7) q10 ?_
      refine mp_tableIn (tgt := 112) (off := 96) dX11_meteor_16 ⟨by decide, by decide⟩ (by decide) (by decide) rfl rfl ?_
      refine mp_aload_n dX11_meteor_112 rfl ?_
      refine mp_inv8 (kd := (s (1 + 6 * m + 0))) (σ1 := A ++ (mp_cs s si sp f fi fp im hd kn wd ak ke cv vo so sz el ++ B)) (as := []) (st := []) (st1 := [mp_i (sp_bright (s (1 + 6 * m + 0)) (s (1 + 6 * m + 1)))]) dX11_meteor_113 (by omega) s8X11_118 hc1 (fa_bright (a := a1) (kd := (s (1 + 6 * m + 0))) (f := (s (1 + 6 * m + 1))) (co := (s (1 + 6 * m + 2))) (sl := (s (1 + 6 * m + 3))) (ni := (s (1 + 6 * m + 4))) (la := (sp_lasts (s (1 + 6 * m + 0)) (s (1 + 6 * m + 1)))) (br := (sp_bright (s (1 + 6 * m + 0)) (s (1 + 6 * m + 1)))) hc1 (by first | with_reducible assumption | omega) (by first | with_reducible assumption | omega)) (Nat.le_of_ble_eq_true rfl) ⟨Nat.le_of_ble_eq_true rfl, Nat.le_of_ble_eq_true rfl⟩ (Nat.le_of_ble_eq_true rfl) rfl rfl rfl ?_
      have b11 := @mp_bright_bd (s (1 + 6 * m + 0)) (s (1 + 6 * m + 1)) (by omega)
      refine mp_bipush dX11_meteor_116 rfl ?_
      refine mp_iadd (z := (sp_bright (s (1 + 6 * m + 0)) (s (1 + 6 * m + 1))) + 10) dX11_meteor_118 (by first | rfl | omega) ?_
      exact mp_ireturn (st := []) dX11_meteor_119 rfl ⟨by decide, by decide⟩ ((mp_ans (by unfold sp_meteor; first | (rw [if_pos (by omega)]; done) | (rw [if_neg (by omega), if_pos (by omega)]; done) | (rw [if_neg (by omega), if_neg (by omega), if_pos (by omega)]; done) | (rw [if_neg (by omega), if_neg (by omega), if_neg (by omega), if_pos (by omega)]; done) | (rw [if_neg (by omega), if_neg (by omega), if_neg (by omega), if_neg (by omega), if_pos (by omega)]; done) | (obtain rfl : w = 0 := (by omega); rw [if_neg (by omega)]; rfl) | (obtain rfl : w = 1 := (by omega); rw [if_neg (by omega)]; rfl) | (obtain rfl : w = 2 := (by omega); rw [if_neg (by omega)]; rfl) | (obtain rfl : w = 3 := (by omega); rw [if_neg (by omega)]; rfl) | (obtain rfl : w = 4 := (by omega); rw [if_neg (by omega)]; rfl) | (obtain rfl : w = 5 := (by omega); rw [if_neg (by omega)]; rfl) | (obtain rfl : w = 0 := (by omega); rw [if_neg (by omega)]; rfl))))
    by_cases q12 : w = 8
    · refine mp_top (y := 8) q12 ?_
      refine mp_tableIn (tgt := 120) (off := 104) dX11_meteor_16 ⟨by decide, by decide⟩ (by decide) (by decide) rfl rfl ?_
      refine mp_aload_n dX11_meteor_120 rfl ?_
      refine mp_inv8 (kd := (s (1 + 6 * m + 0))) (σ1 := A ++ (mp_cs s si sp f fi fp im hd kn wd ak ke cv vo so sz el ++ B)) (as := []) (st := []) (st1 := [mp_i (sp_period (s (1 + 6 * m + 0)) (s (1 + 6 * m + 1)))]) dX11_meteor_121 (by omega) s8X11_121 hc1 (fa_period (a := a1) (kd := (s (1 + 6 * m + 0))) (f := (s (1 + 6 * m + 1))) (co := (s (1 + 6 * m + 2))) (sl := (s (1 + 6 * m + 3))) (ni := (s (1 + 6 * m + 4))) (la := (sp_lasts (s (1 + 6 * m + 0)) (s (1 + 6 * m + 1)))) (br := (sp_bright (s (1 + 6 * m + 0)) (s (1 + 6 * m + 1)))) hc1 (by first | with_reducible assumption | omega) (by first | with_reducible assumption | omega)) (Nat.le_of_ble_eq_true rfl) ⟨Nat.le_of_ble_eq_true rfl, Nat.le_of_ble_eq_true rfl⟩ (Nat.le_of_ble_eq_true rfl) rfl rfl rfl ?_
      have b13 := @mp_period_bd (s (1 + 6 * m + 0)) (s (1 + 6 * m + 1)) (by omega)
      exact mp_ireturn (st := []) dX11_meteor_124 rfl ⟨by decide, by decide⟩ ((mp_ans (by unfold sp_meteor; first | (rw [if_pos (by omega)]; done) | (rw [if_neg (by omega), if_pos (by omega)]; done) | (rw [if_neg (by omega), if_neg (by omega), if_pos (by omega)]; done) | (rw [if_neg (by omega), if_neg (by omega), if_neg (by omega), if_pos (by omega)]; done) | (rw [if_neg (by omega), if_neg (by omega), if_neg (by omega), if_neg (by omega), if_pos (by omega)]; done) | (obtain rfl : w = 0 := (by omega); rw [if_neg (by omega)]; rfl) | (obtain rfl : w = 1 := (by omega); rw [if_neg (by omega)]; rfl) | (obtain rfl : w = 2 := (by omega); rw [if_neg (by omega)]; rfl) | (obtain rfl : w = 3 := (by omega); rw [if_neg (by omega)]; rfl) | (obtain rfl : w = 4 := (by omega); rw [if_neg (by omega)]; rfl) | (obtain rfl : w = 5 := (by omega); rw [if_neg (by omega)]; rfl) | (obtain rfl : w = 0 := (by omega); rw [if_neg (by omega)]; rfl))))
    by_cases q14 : w = 9
    · refine mp_top (y := 9) q14 ?_
      refine mp_tableIn (tgt := 125) (off := 109) dX11_meteor_16 ⟨by decide, by decide⟩ (by decide) (by decide) rfl rfl ?_
      refine mp_aload_n dX11_meteor_125 rfl ?_
      refine mp_inv8 (kd := (s (1 + 6 * m + 0))) (σ1 := A ++ (mp_cs s si sp f fi fp im hd kn wd ak ke cv vo so sz el ++ B)) (as := []) (st := []) (st1 := [mp_i (sp_heat (s (1 + 6 * m + 0)) (s (1 + 6 * m + 1)))]) dX11_meteor_126 (by omega) s8X11_124 hc1 (fa_heat (a := a1) (kd := (s (1 + 6 * m + 0))) (f := (s (1 + 6 * m + 1))) (co := (s (1 + 6 * m + 2))) (sl := (s (1 + 6 * m + 3))) (ni := (s (1 + 6 * m + 4))) (la := (sp_lasts (s (1 + 6 * m + 0)) (s (1 + 6 * m + 1)))) (br := (sp_bright (s (1 + 6 * m + 0)) (s (1 + 6 * m + 1)))) hc1 (by first | with_reducible assumption | omega) (by first | with_reducible assumption | omega)) (Nat.le_of_ble_eq_true rfl) ⟨Nat.le_of_ble_eq_true rfl, Nat.le_of_ble_eq_true rfl⟩ (Nat.le_of_ble_eq_true rfl) rfl rfl rfl ?_
      have b15 := @mp_heat_bd (s (1 + 6 * m + 0)) (s (1 + 6 * m + 1)) (by omega)
      exact mp_ireturn (st := []) dX11_meteor_129 rfl ⟨by decide, by decide⟩ ((mp_ans (by unfold sp_meteor; first | (rw [if_pos (by omega)]; done) | (rw [if_neg (by omega), if_pos (by omega)]; done) | (rw [if_neg (by omega), if_neg (by omega), if_pos (by omega)]; done) | (rw [if_neg (by omega), if_neg (by omega), if_neg (by omega), if_pos (by omega)]; done) | (rw [if_neg (by omega), if_neg (by omega), if_neg (by omega), if_neg (by omega), if_pos (by omega)]; done) | (obtain rfl : w = 0 := (by omega); rw [if_neg (by omega)]; rfl) | (obtain rfl : w = 1 := (by omega); rw [if_neg (by omega)]; rfl) | (obtain rfl : w = 2 := (by omega); rw [if_neg (by omega)]; rfl) | (obtain rfl : w = 3 := (by omega); rw [if_neg (by omega)]; rfl) | (obtain rfl : w = 4 := (by omega); rw [if_neg (by omega)]; rfl) | (obtain rfl : w = 5 := (by omega); rw [if_neg (by omega)]; rfl) | (obtain rfl : w = 0 := (by omega); rw [if_neg (by omega)]; rfl))))
    refine mp_tableOut (tgt := 130) dX11_meteor_16 ⟨by omega, by omega⟩ (by omega) rfl ?_
    refine mp_iconst dX11_meteor_130 ?_
    exact mp_ireturn (st := []) dX11_meteor_131 rfl ⟨by decide, by decide⟩ ((mp_ans (by unfold sp_meteor; first | (rw [if_pos (by omega)]; done) | (rw [if_neg (by omega), if_pos (by omega)]; done) | (rw [if_neg (by omega), if_neg (by omega), if_pos (by omega)]; done) | (rw [if_neg (by omega), if_neg (by omega), if_neg (by omega), if_pos (by omega)]; done) | (rw [if_neg (by omega), if_neg (by omega), if_neg (by omega), if_neg (by omega), if_pos (by omega)]; done) | (obtain rfl : w = 0 := (by omega); rw [if_neg (by omega)]; rfl) | (obtain rfl : w = 1 := (by omega); rw [if_neg (by omega)]; rfl) | (obtain rfl : w = 2 := (by omega); rw [if_neg (by omega)]; rfl) | (obtain rfl : w = 3 := (by omega); rw [if_neg (by omega)]; rfl) | (obtain rfl : w = 4 := (by omega); rw [if_neg (by omega)]; rfl) | (obtain rfl : w = 5 := (by omega); rw [if_neg (by omega)]; rfl) | (obtain rfl : w = 0 := (by omega); rw [if_neg (by omega)]; rfl))))
  · refine mp_invV (z := (mX6_at, 0, 0, 0)) (K' := (0, 0)) (σ1 := A ++ (mp_cs s si sp f fi fp im hd kn wd ak ke cv vo so sz el ++ B)) (as := [mp_i m]) (st := []) (st1 := [Value.null]) dX11_meteor_5 svX11_93 (mp_Sk.of (σ := A ++ (mp_cs s si sp f fi fp im hd kn wd ak ke cv vo so sz el ++ B)) (mp_skC2 hA) hMt).1 rfl rfl (zX6_atN (p := 2) (m := m) (s := s) (f := f) (mp_Sk.of (σ := A ++ (mp_cs s si sp f fi fp im hd kn wd ak ke cv vo so sz el ++ B)) (mp_skC2 hA) hMt) hm1 (by omega) (by omega)) ⟨Nat.le_of_ble_eq_true rfl, Nat.le_of_ble_eq_true rfl, Nat.le_of_ble_eq_true rfl, Nat.le_of_ble_eq_true rfl, Nat.le_of_ble_eq_true rfl⟩ rfl rfl rfl rfl ?_
    refine mp_astore_nN (L' := [some (Value.ref 1), some (mp_i m), some (mp_i w), some (Value.null)]) dX11_meteor_8 rfl (by decide) rfl ?_
    refine mp_aload_nN dX11_meteor_9 rfl ?_
    refine mp_ifnonnull_n dX11_meteor_10 ?_
    refine mp_iconst dX11_meteor_13 ?_
    exact mp_ireturn (st := []) dX11_meteor_14 rfl ⟨by decide, by decide⟩ ((mp_ans (by unfold sp_meteor; first | (rw [if_pos (by omega)]; done) | (rw [if_neg (by omega), if_pos (by omega)]; done) | (rw [if_neg (by omega), if_neg (by omega), if_pos (by omega)]; done) | (rw [if_neg (by omega), if_neg (by omega), if_neg (by omega), if_pos (by omega)]; done) | (rw [if_neg (by omega), if_neg (by omega), if_neg (by omega), if_neg (by omega), if_pos (by omega)]; done) | (obtain rfl : w = 0 := (by omega); rw [if_neg (by omega)]; rfl) | (obtain rfl : w = 1 := (by omega); rw [if_neg (by omega)]; rfl) | (obtain rfl : w = 2 := (by omega); rw [if_neg (by omega)]; rfl) | (obtain rfl : w = 3 := (by omega); rw [if_neg (by omega)]; rfl) | (obtain rfl : w = 4 := (by omega); rw [if_neg (by omega)]; rfl) | (obtain rfl : w = 5 := (by omega); rw [if_neg (by omega)]; rfl) | (obtain rfl : w = 0 := (by omega); rw [if_neg (by omega)]; rfl))))
theorem zX11_looker {s si sp : Int → Int} {f fi fp : Nat → Option Nat} {im : Int} {hd : Int → Int} {kn : Nat → Option Nat} {wd ak ke cv vo so sz el : Int → Int} {A B : mp_H}  {l : Int} {w : Int} (hA : A.length = 1) (hs : mp_sky s) (hMt : mp_Mt (A ++ (mp_cs s si sp f fi fp im hd kn wd ak ke cv vo so sz el ++ B)) s f) (h_l : mp_w l) (h_w : mp_w w) : mp_Call (mX11_looker, 1, 0, 0) [Value.ref 1, mp_i l, mp_i w] (A ++ (mp_cs s si sp f fi fp im hd kn wd ak ke cv vo so sz el ++ B)) (some (mp_i (sp_looker s l w)), A ++ (mp_cs s si sp f fi fp im hd kn wd ak ke cv vo so sz el ++ B)) := by
  refine mp_Call.of (L := [some (Value.ref 1), some (mp_i l), some (mp_i w)]) pnX11 (Nat.le_of_ble_eq_true rfl) rfl ?_
  have hz0 := hs.1
  refine mp_iload_n dX11_looker_0 rfl ?_
  refine mp_iconst dX11_looker_1 ?_
  refine mp_invS (z := (mX11_isBelow, 0, 0, 0)) (K' := (0, 0)) (σ1 := A ++ (mp_cs s si sp f fi fp im hd kn wd ak ke cv vo so sz el ++ B)) (as := [mp_i l, mp_i 5]) (st := []) (st1 := [mp_i (if 0 ≤ l ∧ l < 5 then 1 else 0)]) dX11_looker_2 ssX11_54 (zX11_isBelow (v := l) (n := 5) (by first | with_reducible assumption | omega) (by first | with_reducible assumption | omega)) ⟨Nat.le_of_ble_eq_true rfl, Nat.le_of_ble_eq_true rfl, Nat.le_of_ble_eq_true rfl, Nat.le_of_ble_eq_true rfl, Nat.le_of_ble_eq_true rfl⟩ rfl rfl rfl rfl ?_
  refine mp_ifb_ne (tgt := 10) dX11_looker_5 rfl (fun h1 => ?_) (fun h1 => ?_)
  · have hl9 := hs.2.2.1 l (by omega) (by omega)
    refine mp_iload_n dX11_looker_10 rfl ?_
    by_cases q2 : w = 0
    · refine mp_top (y := 0) q2 ?_
      refine mp_tableIn (tgt := 40) (off := 29) dX11_looker_11 ⟨by decide, by decide⟩ (by decide) (by decide) rfl rfl ?_
      refine mp_aload_n dX11_looker_40 rfl ?_
      refine mp_getfield dX11_looker_41 fsX11_10_10 (mp_lkP hA 0 rfl) rfl ?_
      refine mp_getfield dX11_looker_44 fsX11_127_8 (mp_lkP hA 1 rfl) rfl ?_
      refine mp_iload_n dX11_looker_47 rfl ?_
      refine mp_iald dX11_looker_48 (mp_lkP hA 4 rfl) ⟨by omega, by omega⟩ (by omega) ?_
      refine mp_top (y := s (49 + 3 * l + 0)) (sp_rof_in ⟨by omega, by omega⟩) ?_
      exact mp_ireturn (st := []) dX11_looker_49 rfl ⟨by decide, by decide⟩ ((mp_ans (by unfold sp_looker; first | (rw [if_pos (by omega)]; done) | (rw [if_neg (by omega), if_neg (by omega)]; done) | (obtain rfl : w = 0 := (by omega); rw [if_neg (by omega)]; rfl) | (obtain rfl : w = 1 := (by omega); rw [if_neg (by omega)]; rfl) | (obtain rfl : w = 2 := (by omega); rw [if_neg (by omega)]; rfl))))
    by_cases q3 : w = 1
    · refine mp_top (y := 1) q3 ?_
      refine mp_tableIn (tgt := 50) (off := 39) dX11_looker_11 ⟨by decide, by decide⟩ (by decide) (by decide) rfl rfl ?_
      refine mp_aload_n dX11_looker_50 rfl ?_
      refine mp_getfield dX11_looker_51 fsX11_10_10 (mp_lkP hA 0 rfl) rfl ?_
      refine mp_getfield dX11_looker_54 fsX11_130_8 (mp_lkP hA 1 rfl) rfl ?_
      refine mp_iload_n dX11_looker_57 rfl ?_
      refine mp_iald dX11_looker_58 (mp_lkP hA 5 rfl) ⟨by omega, by omega⟩ (by omega) ?_
      refine mp_top (y := s (49 + 3 * l + 1)) (sp_qui_in ⟨by omega, by omega⟩) ?_
      exact mp_ireturn (st := []) dX11_looker_59 rfl ⟨by decide, by decide⟩ ((mp_ans (by unfold sp_looker; first | (rw [if_pos (by omega)]; done) | (rw [if_neg (by omega), if_neg (by omega)]; done) | (obtain rfl : w = 0 := (by omega); rw [if_neg (by omega)]; rfl) | (obtain rfl : w = 1 := (by omega); rw [if_neg (by omega)]; rfl) | (obtain rfl : w = 2 := (by omega); rw [if_neg (by omega)]; rfl))))
    by_cases q4 : w = 2
    · refine mp_top (y := 2) q4 ?_
      refine mp_tableIn (tgt := 60) (off := 49) dX11_looker_11 ⟨by decide, by decide⟩ (by decide) (by decide) rfl rfl ?_
      refine mp_aload_n dX11_looker_60 rfl ?_
      refine mp_getfield dX11_looker_61 fsX11_10_10 (mp_lkP hA 0 rfl) rfl ?_
      refine mp_getfield dX11_looker_64 fsX11_133_8 (mp_lkP hA 1 rfl) rfl ?_
      refine mp_iload_n dX11_looker_67 rfl ?_
      refine mp_iald dX11_looker_68 (mp_lkP hA 6 rfl) ⟨by omega, by omega⟩ (by omega) ?_
      refine mp_top (y := s (49 + 3 * l + 2)) (sp_sai_in ⟨by omega, by omega⟩) ?_
      exact mp_ireturn (st := []) dX11_looker_69 rfl ⟨by decide, by decide⟩ ((mp_ans (by unfold sp_looker; first | (rw [if_pos (by omega)]; done) | (rw [if_neg (by omega), if_neg (by omega)]; done) | (obtain rfl : w = 0 := (by omega); rw [if_neg (by omega)]; rfl) | (obtain rfl : w = 1 := (by omega); rw [if_neg (by omega)]; rfl) | (obtain rfl : w = 2 := (by omega); rw [if_neg (by omega)]; rfl))))
    by_cases q5 : w = 3
    · refine mp_top (y := 3) q5 ?_
      refine mp_tableIn (tgt := 70) (off := 59) dX11_looker_11 ⟨by decide, by decide⟩ (by decide) (by decide) rfl rfl ?_
      refine mp_aload_n dX11_looker_70 rfl ?_
      refine mp_getfield dX11_looker_71 fsX11_10_10 (mp_lkP hA 0 rfl) rfl ?_
      refine mp_getfield dX11_looker_74 fsX11_130_8 (mp_lkP hA 1 rfl) rfl ?_
      refine mp_iload_n dX11_looker_77 rfl ?_
      refine mp_iald dX11_looker_78 (mp_lkP hA 5 rfl) ⟨by omega, by omega⟩ (by omega) ?_
      refine mp_top (y := s (49 + 3 * l + 1)) (sp_qui_in ⟨by omega, by omega⟩) ?_
      refine mp_invS (z := (mX6_need, 0, 0, 0)) (K' := (0, 0)) (σ1 := A ++ (mp_cs s si sp f fi fp im hd kn wd ak ke cv vo so sz el ++ B)) (as := [mp_i (s (49 + 3 * l + 1))]) (st := []) (st1 := [mp_i (sp_need (s (49 + 3 * l + 1)))]) dX11_looker_79 ssX11_136 (zX6_need (v := (s (49 + 3 * l + 1))) (by first | with_reducible assumption | omega)) ⟨Nat.le_of_ble_eq_true rfl, Nat.le_of_ble_eq_true rfl, Nat.le_of_ble_eq_true rfl, Nat.le_of_ble_eq_true rfl, Nat.le_of_ble_eq_true rfl⟩ rfl rfl rfl rfl ?_
      exact mp_ireturn (st := []) dX11_looker_82 rfl ⟨by decide, by decide⟩ ((mp_ans (by unfold sp_looker; first | (rw [if_pos (by omega)]; done) | (rw [if_neg (by omega), if_neg (by omega)]; done) | (obtain rfl : w = 0 := (by omega); rw [if_neg (by omega)]; rfl) | (obtain rfl : w = 1 := (by omega); rw [if_neg (by omega)]; rfl) | (obtain rfl : w = 2 := (by omega); rw [if_neg (by omega)]; rfl))))
    refine mp_tableOut (tgt := 83) dX11_looker_11 ⟨by omega, by omega⟩ (by omega) rfl ?_
    refine mp_iconst dX11_looker_83 ?_
    exact mp_ireturn (st := []) dX11_looker_84 rfl ⟨by decide, by decide⟩ ((mp_ans (by unfold sp_looker; first | (rw [if_pos (by omega)]; done) | (rw [if_neg (by omega), if_neg (by omega)]; done) | (obtain rfl : w = 0 := (by omega); rw [if_neg (by omega)]; rfl) | (obtain rfl : w = 1 := (by omega); rw [if_neg (by omega)]; rfl) | (obtain rfl : w = 2 := (by omega); rw [if_neg (by omega)]; rfl))))
  · refine mp_iconst dX11_looker_8 ?_
    exact mp_ireturn (st := []) dX11_looker_9 rfl ⟨by decide, by decide⟩ ((mp_ans (by unfold sp_looker; first | (rw [if_pos (by omega)]; done) | (rw [if_neg (by omega), if_neg (by omega)]; done) | (obtain rfl : w = 0 := (by omega); rw [if_neg (by omega)]; rfl) | (obtain rfl : w = 1 := (by omega); rw [if_neg (by omega)]; rfl) | (obtain rfl : w = 2 := (by omega); rw [if_neg (by omega)]; rfl))))
theorem zX11_meant {s si sp : Int → Int} {f fi fp : Nat → Option Nat} {im : Int} {hd : Int → Int} {kn : Nat → Option Nat} {wd ak ke cv vo so sz el : Int → Int} {A B : mp_H}  {m : Int} {l : Int} (hA : A.length = 1) (hs : mp_sky s) (hMt : mp_Mt (A ++ (mp_cs s si sp f fi fp im hd kn wd ak ke cv vo so sz el ++ B)) s f) (h_m : mp_w m) (h_l : mp_w l) : mp_Call (mX11_meant, 2, 0, 0) [Value.ref 1, mp_i m, mp_i l] (A ++ (mp_cs s si sp f fi fp im hd kn wd ak ke cv vo so sz el ++ B)) (some (mp_i ((sp_meant s m l).1)), A ++ (mp_cs ((sp_meant s m l).2) si sp f fi fp im hd kn wd ak ke cv vo so sz el ++ B)) := by
  refine mp_Call.of (L := [some (Value.ref 1), some (mp_i m), some (mp_i l), none]) pnX11 (Nat.le_of_ble_eq_true rfl) rfl ?_
  have hz0 := hs.1
  refine mp_aload_n dX11_meant_0 rfl ?_
  refine mp_getfield dX11_meant_1 fsX11_10_10 (mp_lkP hA 0 rfl) rfl ?_
  refine mp_iload_n dX11_meant_4 rfl ?_
  by_cases hm1 : 0 ≤ m ∧ m < s 0
  · obtain ⟨a1, hf1, hc1⟩ := (mp_Sk.of (σ := A ++ (mp_cs s si sp f fi fp im hd kn wd ak ke cv vo so sz el ++ B)) (mp_skC2 hA) hMt).2.2.2.2.2.2 m hm1.1 hm1.2
    have ht1 := hs.2.1 m hm1.1 hm1.2
    have hl1 := mp_lasts_bd (kind := (s (1 + 6 * m + 0))) (f := (s (1 + 6 * m + 1))) (by omega)
    have hr1 := mp_bright_bd (kind := (s (1 + 6 * m + 0))) (f := (s (1 + 6 * m + 1))) (by omega)
    refine mp_invV (z := (mX6_at, 0, 0, 0)) (K' := (0, 0)) (σ1 := A ++ (mp_cs s si sp f fi fp im hd kn wd ak ke cv vo so sz el ++ B)) (as := [mp_i m]) (st := []) (st1 := [Value.ref a1]) dX11_meant_5 svX11_93 (mp_Sk.of (σ := A ++ (mp_cs s si sp f fi fp im hd kn wd ak ke cv vo so sz el ++ B)) (mp_skC2 hA) hMt).1 rfl rfl (zX6_at (p := 2) (m := m) (a := a1) (s := s) (f := f) (mp_Sk.of (σ := A ++ (mp_cs s si sp f fi fp im hd kn wd ak ke cv vo so sz el ++ B)) (mp_skC2 hA) hMt) hm1 (by omega) hf1) ⟨Nat.le_of_ble_eq_true rfl, Nat.le_of_ble_eq_true rfl, Nat.le_of_ble_eq_true rfl, Nat.le_of_ble_eq_true rfl, Nat.le_of_ble_eq_true rfl⟩ rfl rfl rfl rfl ?_
    refine mp_ifnull_r dX11_meant_8 ?_
    refine mp_iload_n dX11_meant_11 rfl ?_
    refine mp_invS (z := (mX11_isSomebodyOrNobody, 1, 0, 0)) (K' := (0, 0)) (σ1 := A ++ (mp_cs s si sp f fi fp im hd kn wd ak ke cv vo so sz el ++ B)) (as := [mp_i l]) (st := []) (st1 := [mp_i (if (0 ≤ l ∧ l < 5) ∨ l = 9 then 1 else 0)]) dX11_meant_12 ssX11_154 (zX11_isSomebodyOrNobody (l := l) (by first | with_reducible assumption | omega)) ⟨Nat.le_of_ble_eq_true rfl, Nat.le_of_ble_eq_true rfl, Nat.le_of_ble_eq_true rfl, Nat.le_of_ble_eq_true rfl, Nat.le_of_ble_eq_true rfl⟩ rfl rfl rfl rfl ?_
    refine mp_ifb_ne (tgt := 20) dX11_meant_15 rfl (fun h2 => ?_) (fun h2 => ?_)
    · refine mp_aload_n dX11_meant_20 rfl ?_
      refine mp_getfield dX11_meant_21 fsX11_10_10 (mp_lkP hA 0 rfl) rfl ?_
      refine mp_getfield dX11_meant_24 fsX11_111_8 (mp_lkP hA 1 rfl) rfl ?_
      refine mp_iload_n dX11_meant_27 rfl ?_
      refine mp_iald dX11_meant_28 (mp_lkP hA 3 rfl) ⟨by omega, by omega⟩ (by omega) ?_
      refine mp_top (y := s (1 + 6 * m + 5)) (sp_isf_in ⟨by omega, by omega⟩) ?_
      refine mp_istore_n (L' := [some (Value.ref 1), some (mp_i m), some (mp_i l), some (mp_i (s (1 + 6 * m + 5)))]) dX11_meant_29 rfl (by decide) rfl ?_
      refine mp_aload_n dX11_meant_30 rfl ?_
      refine mp_getfield dX11_meant_31 fsX11_10_10 (mp_lkP hA 0 rfl) rfl ?_
      refine mp_getfield dX11_meant_34 fsX11_111_8 (mp_lkP hA 1 rfl) rfl ?_
      refine mp_iload_n dX11_meant_37 rfl ?_
      refine mp_iload_n dX11_meant_38 rfl ?_
      refine mp_iast (σ' := A ++ (mp_cs (mp_ud s (1 + 6 * m + 5) l) si sp f fi fp im hd kn wd ak ke cv vo so sz el ++ B)) dX11_meant_39 (mp_lkP hA 3 rfl) (by decide) ⟨by omega, by omega⟩ (by decide) (mp_stP hA 3 (Nat.le_of_ble_eq_true rfl) (mp_cs_f2 ⟨by omega, by omega⟩)) ?_
      refine mp_iload_n dX11_meant_40 rfl ?_
      exact mp_ireturn (st := []) dX11_meant_41 rfl ⟨by decide, by decide⟩ ((by rw [show sp_meant s m l = (s (1 + 6 * m + 5), mp_ud s (1 + 6 * m + 5) l) from by unfold sp_meant; first | (rw [if_neg (by omega)]; done) | (rw [if_pos (by omega)]; done)]))
    · refine mp_iconst dX11_meant_18 ?_
      exact mp_ireturn (st := []) dX11_meant_19 rfl ⟨by decide, by decide⟩ ((by rw [show sp_meant s m l = (-1, s) from by unfold sp_meant; first | (rw [if_neg (by omega)]; done) | (rw [if_pos (by omega)]; done)]))
  · refine mp_invV (z := (mX6_at, 0, 0, 0)) (K' := (0, 0)) (σ1 := A ++ (mp_cs s si sp f fi fp im hd kn wd ak ke cv vo so sz el ++ B)) (as := [mp_i m]) (st := []) (st1 := [Value.null]) dX11_meant_5 svX11_93 (mp_Sk.of (σ := A ++ (mp_cs s si sp f fi fp im hd kn wd ak ke cv vo so sz el ++ B)) (mp_skC2 hA) hMt).1 rfl rfl (zX6_atN (p := 2) (m := m) (s := s) (f := f) (mp_Sk.of (σ := A ++ (mp_cs s si sp f fi fp im hd kn wd ak ke cv vo so sz el ++ B)) (mp_skC2 hA) hMt) hm1 (by omega) (by omega)) ⟨Nat.le_of_ble_eq_true rfl, Nat.le_of_ble_eq_true rfl, Nat.le_of_ble_eq_true rfl, Nat.le_of_ble_eq_true rfl, Nat.le_of_ble_eq_true rfl⟩ rfl rfl rfl rfl ?_
    refine mp_ifnull_n (tgt := 18) dX11_meant_8 rfl ?_
    refine mp_iconst dX11_meant_18 ?_
    exact mp_ireturn (st := []) dX11_meant_19 rfl ⟨by decide, by decide⟩ ((by rw [show sp_meant s m l = (-1, s) from by unfold sp_meant; first | (rw [if_neg (by omega)]; done) | (rw [if_pos (by omega)]; done)]))
theorem zX11_looks {s si sp : Int → Int} {f fi fp : Nat → Option Nat} {im : Int} {hd : Int → Int} {kn : Nat → Option Nat} {wd ak ke cv vo so sz el : Int → Int} {A B : mp_H}  {l : Int} {x : Int} {y : Int} (hA : A.length = 1) (hs : mp_sky s) (hMt : mp_Mt (A ++ (mp_cs s si sp f fi fp im hd kn wd ak ke cv vo so sz el ++ B)) s f) (h_l : mp_w l) (h_x : mp_w x) (h_y : mp_w y) : mp_Call (mX11_looks, 2, 0, 0) [Value.ref 1, mp_i l, mp_i x, mp_i y] (A ++ (mp_cs s si sp f fi fp im hd kn wd ak ke cv vo so sz el ++ B)) (some (mp_i ((sp_looks s l x y).1)), A ++ (mp_cs ((sp_looks s l x y).2) si sp f fi fp im hd kn wd ak ke cv vo so sz el ++ B)) := by
  refine mp_Call.of (L := [some (Value.ref 1), some (mp_i l), some (mp_i x), some (mp_i y)]) pnX11 (Nat.le_of_ble_eq_true rfl) rfl ?_
  refine mp_aload_n dX11_looks_0 rfl ?_
  refine mp_getfield dX11_looks_1 fsX11_10_10 (mp_lkP hA 0 rfl) rfl ?_
  refine mp_iload_n dX11_looks_4 rfl ?_
  refine mp_iload_n dX11_looks_5 rfl ?_
  refine mp_iload_n dX11_looks_6 rfl ?_
  refine mp_invV (z := (mX6_putOnRoof, 1, 0, 0)) (K' := (0, 0)) (σ1 := A ++ (mp_cs ((sp_looks s l x y).2) si sp f fi fp im hd kn wd ak ke cv vo so sz el ++ B)) (as := [mp_i l, mp_i x, mp_i y]) (st := []) (st1 := [mp_i ((sp_looks s l x y).1)]) dX11_looks_7 svX11_158 (mp_lkP hA 1 rfl) rfl rfl (mp_Call.cast (zX6_putOnRoof (p := 2) (l := l) (x := x) (y := y) (A := (A ++ mp_csA im)) (B := ((mp_sk 8 si fi ++ (mp_sk 14 sp fp ++ (mp_csT hd kn wd ak ke cv vo ++ mp_rws so sz el))) ++ B)) (s := s) (f := f) (mp_ln2 hA) (by decide) (by first | with_reducible assumption | omega) (by first | with_reducible assumption | omega) (by first | with_reducible assumption | omega) (by first | with_reducible assumption | omega)) mp_cs2 (congrArg (Prod.mk _) mp_cs2)) ⟨Nat.le_of_ble_eq_true rfl, Nat.le_of_ble_eq_true rfl, Nat.le_of_ble_eq_true rfl, Nat.le_of_ble_eq_true rfl, Nat.le_of_ble_eq_true rfl⟩ rfl rfl rfl rfl ?_
  exact mp_ireturn (st := []) dX11_looks_10 rfl ⟨by decide, by decide⟩ ((rfl))
theorem zX11_run {s si sp : Int → Int} {f fi fp : Nat → Option Nat} {im : Int} {hd : Int → Int} {kn : Nat → Option Nat} {wd ak ke cv vo so sz el : Int → Int} {A B : mp_H}  {w : Int} (hA : A.length = 1) (hs : mp_sky s) (hMt : mp_Mt (A ++ (mp_cs s si sp f fi fp im hd kn wd ak ke cv vo so sz el ++ B)) s f) (h_w : mp_w w) : mp_Call (mX11_run, 5, 0, 0) [Value.ref 1, mp_i w] (A ++ (mp_cs s si sp f fi fp im hd kn wd ak ke cv vo so sz el ++ B)) (some (mp_i ((sp_run s w).1)), A ++ (mp_cs ((sp_run s w).2) si sp f fi fp im hd kn wd ak ke cv vo so sz el ++ B)) := by
  refine mp_Call.of (L := [some (Value.ref 1), some (mp_i w)]) pnX11 (Nat.le_of_ble_eq_true rfl) rfl ?_
  refine mp_aload_n dX11_run_0 rfl ?_
  refine mp_getfield dX11_run_1 fsX11_10_10 (mp_lkP hA 0 rfl) rfl ?_
  refine mp_iload_n dX11_run_4 rfl ?_
  refine mp_invV (z := (mX6_runNight, 4, 0, 0)) (K' := (0, 0)) (σ1 := A ++ (mp_cs ((sp_run s w).2) si sp f fi fp im hd kn wd ak ke cv vo so sz el ++ B)) (as := [mp_i w]) (st := []) (st1 := [mp_i ((sp_run s w).1)]) dX11_run_5 svX11_162 (mp_lkP hA 1 rfl) rfl rfl (mp_Call.cast (zX6_runNight (p := 2) (w := w) (A := (A ++ mp_csA im)) (B := ((mp_sk 8 si fi ++ (mp_sk 14 sp fp ++ (mp_csT hd kn wd ak ke cv vo ++ mp_rws so sz el))) ++ B)) (s := s) (f := f) (mp_ln2 hA) (by decide) (by first | with_reducible assumption | omega) (by rw [mp_cs2]; exact hMt.mono hs.kd mp_stay_cs) (by first | with_reducible assumption | omega)) mp_cs2 (congrArg (Prod.mk _) mp_cs2)) ⟨Nat.le_of_ble_eq_true rfl, Nat.le_of_ble_eq_true rfl, Nat.le_of_ble_eq_true rfl, Nat.le_of_ble_eq_true rfl, Nat.le_of_ble_eq_true rfl⟩ rfl rfl rfl rfl ?_
  exact mp_ireturn (st := []) dX11_run_8 rfl ⟨by decide, by decide⟩ ((rfl))
theorem zX11_free {s si sp : Int → Int} {f fi fp : Nat → Option Nat} {im : Int} {hd : Int → Int} {kn : Nat → Option Nat} {wd ak ke cv vo so sz el : Int → Int} {A B : mp_H}  {l : Int} (hA : A.length = 1) (hs : mp_sky s) (hMt : mp_Mt (A ++ (mp_cs s si sp f fi fp im hd kn wd ak ke cv vo so sz el ++ B)) s f) (h_l : mp_w l) : mp_Call (mX11_free, 2, 0, 0) [Value.ref 1, mp_i l] (A ++ (mp_cs s si sp f fi fp im hd kn wd ak ke cv vo so sz el ++ B)) (some (mp_i ((sp_free s l).1)), A ++ (mp_cs ((sp_free s l).2) si sp f fi fp im hd kn wd ak ke cv vo so sz el ++ B)) := by
  refine mp_Call.of (L := [some (Value.ref 1), some (mp_i l)]) pnX11 (Nat.le_of_ble_eq_true rfl) rfl ?_
  refine mp_aload_n dX11_free_0 rfl ?_
  refine mp_getfield dX11_free_1 fsX11_10_10 (mp_lkP hA 0 rfl) rfl ?_
  refine mp_iload_n dX11_free_4 rfl ?_
  refine mp_invV (z := (mX6_setFree, 1, 0, 0)) (K' := (0, 0)) (σ1 := A ++ (mp_cs ((sp_free s l).2) si sp f fi fp im hd kn wd ak ke cv vo so sz el ++ B)) (as := [mp_i l]) (st := []) (st1 := [mp_i ((sp_free s l).1)]) dX11_free_5 svX11_165 (mp_lkP hA 1 rfl) rfl rfl (mp_Call.cast (zX6_setFree (p := 2) (l := l) (A := (A ++ mp_csA im)) (B := ((mp_sk 8 si fi ++ (mp_sk 14 sp fp ++ (mp_csT hd kn wd ak ke cv vo ++ mp_rws so sz el))) ++ B)) (s := s) (f := f) (mp_ln2 hA) (by decide) (by first | with_reducible assumption | omega) (by first | with_reducible assumption | omega)) mp_cs2 (congrArg (Prod.mk _) mp_cs2)) ⟨Nat.le_of_ble_eq_true rfl, Nat.le_of_ble_eq_true rfl, Nat.le_of_ble_eq_true rfl, Nat.le_of_ble_eq_true rfl, Nat.le_of_ble_eq_true rfl⟩ rfl rfl rfl rfl ?_
  exact mp_ireturn (st := []) dX11_free_8 rfl ⟨by decide, by decide⟩ ((rfl))
theorem zX11_seen {s si sp : Int → Int} {f fi fp : Nat → Option Nat} {im : Int} {hd : Int → Int} {kn : Nat → Option Nat} {wd ak ke cv vo so sz el : Int → Int} {A B : mp_H}  {l : Int} {m : Int} {w : Int} (hA : A.length = 1) (hs : mp_sky s) (hMt : mp_Mt (A ++ (mp_cs s si sp f fi fp im hd kn wd ak ke cv vo so sz el ++ B)) s f) (h_l : mp_w l) (h_m : mp_w m) (h_w : mp_w w) : mp_Call (mX11_seen, 3, 0, 0) [Value.ref 1, mp_i l, mp_i m, mp_i w] (A ++ (mp_cs s si sp f fi fp im hd kn wd ak ke cv vo so sz el ++ B)) (some (mp_i (sp_seenC s l m w)), A ++ (mp_cs s si sp f fi fp im hd kn wd ak ke cv vo so sz el ++ B)) := by
  refine mp_Call.of (L := [some (Value.ref 1), some (mp_i l), some (mp_i m), some (mp_i w), none]) pnX11 (Nat.le_of_ble_eq_true rfl) rfl ?_
  have hz0 := hs.1
  refine mp_aload_n dX11_seen_0 rfl ?_
  refine mp_getfield dX11_seen_1 fsX11_10_10 (mp_lkP hA 0 rfl) rfl ?_
  refine mp_iload_n dX11_seen_4 rfl ?_
  by_cases hm1 : 0 ≤ m ∧ m < s 0
  · obtain ⟨a1, hf1, hc1⟩ := (mp_Sk.of (σ := A ++ (mp_cs s si sp f fi fp im hd kn wd ak ke cv vo so sz el ++ B)) (mp_skC2 hA) hMt).2.2.2.2.2.2 m hm1.1 hm1.2
    have ht1 := hs.2.1 m hm1.1 hm1.2
    have hl1 := mp_lasts_bd (kind := (s (1 + 6 * m + 0))) (f := (s (1 + 6 * m + 1))) (by omega)
    have hr1 := mp_bright_bd (kind := (s (1 + 6 * m + 0))) (f := (s (1 + 6 * m + 1))) (by omega)
    refine mp_invV (z := (mX6_at, 0, 0, 0)) (K' := (0, 0)) (σ1 := A ++ (mp_cs s si sp f fi fp im hd kn wd ak ke cv vo so sz el ++ B)) (as := [mp_i m]) (st := []) (st1 := [Value.ref a1]) dX11_seen_5 svX11_93 (mp_Sk.of (σ := A ++ (mp_cs s si sp f fi fp im hd kn wd ak ke cv vo so sz el ++ B)) (mp_skC2 hA) hMt).1 rfl rfl (zX6_at (p := 2) (m := m) (a := a1) (s := s) (f := f) (mp_Sk.of (σ := A ++ (mp_cs s si sp f fi fp im hd kn wd ak ke cv vo so sz el ++ B)) (mp_skC2 hA) hMt) hm1 (by omega) hf1) ⟨Nat.le_of_ble_eq_true rfl, Nat.le_of_ble_eq_true rfl, Nat.le_of_ble_eq_true rfl, Nat.le_of_ble_eq_true rfl, Nat.le_of_ble_eq_true rfl⟩ rfl rfl rfl rfl ?_
    refine mp_astore (L' := [some (Value.ref 1), some (mp_i l), some (mp_i m), some (mp_i w), some (Value.ref a1)]) dX11_seen_8 (by decide) rfl ?_
    refine mp_iload_n dX11_seen_10 rfl ?_
    refine mp_iconst dX11_seen_11 ?_
    refine mp_invS (z := (mX11_isBelow, 0, 0, 0)) (K' := (0, 0)) (σ1 := A ++ (mp_cs s si sp f fi fp im hd kn wd ak ke cv vo so sz el ++ B)) (as := [mp_i l, mp_i 5]) (st := []) (st1 := [mp_i (if 0 ≤ l ∧ l < 5 then 1 else 0)]) dX11_seen_12 ssX11_54 (zX11_isBelow (v := l) (n := 5) (by first | with_reducible assumption | omega) (by first | with_reducible assumption | omega)) ⟨Nat.le_of_ble_eq_true rfl, Nat.le_of_ble_eq_true rfl, Nat.le_of_ble_eq_true rfl, Nat.le_of_ble_eq_true rfl, Nat.le_of_ble_eq_true rfl⟩ rfl rfl rfl rfl ?_
    refine mp_ifb_eq (tgt := 23) dX11_seen_15 rfl (fun h2 => ?_) (fun h2 => ?_)
    · refine mp_iconst dX11_seen_23 ?_
      exact mp_ireturn (st := []) dX11_seen_24 rfl ⟨by decide, by decide⟩ ((mp_ans (by unfold sp_seenC; first | (rw [if_pos (by omega)]; done) | (rw [if_neg (by omega)]; done) | (rw [if_neg (by omega), if_pos (by omega)]; done) | (rw [if_neg (by omega), if_neg (by omega)]; done) | (rw [if_neg (by omega), if_neg (by omega), if_pos (by omega)]; done) | (rw [if_neg (by omega), if_neg (by omega), if_neg (by omega)]; done) | (rw [if_neg (by omega), if_neg (by omega), if_neg (by omega), if_pos (by omega)]; done) | (rw [if_neg (by omega), if_neg (by omega), if_neg (by omega), if_neg (by omega)]; done) | (rw [if_neg (by omega), if_neg (by omega), if_neg (by omega), if_neg (by omega), if_pos (by omega)]; done) | (rw [if_neg (by omega), if_neg (by omega), if_neg (by omega), if_neg (by omega), if_neg (by omega)]; done) | (rw [if_neg (by omega), if_neg (by omega), if_neg (by omega), if_neg (by omega), if_neg (by omega), if_pos (by omega)]; done) | (rw [if_neg (by omega), if_neg (by omega), if_neg (by omega), if_neg (by omega), if_neg (by omega), if_neg (by omega)]; done) | (rw [if_neg (by omega), if_neg (by omega), if_neg (by omega), if_neg (by omega), if_neg (by omega), if_neg (by omega), if_pos (by omega)]; done) | (rw [if_neg (by omega), if_neg (by omega), if_neg (by omega), if_neg (by omega), if_neg (by omega), if_neg (by omega), if_neg (by omega)]; done) | (rw [if_neg (by omega)]; omega) | (rw [if_neg (by omega), if_pos (by omega)]; rfl))))
    · refine mp_aload dX11_seen_18 rfl ?_
      refine mp_ifnonnull_r (tgt := 25) dX11_seen_20 rfl ?_
      have hl9 := hs.2.2.1 l (by omega) (by omega)
      refine mp_iload_n dX11_seen_25 rfl ?_
      by_cases q3 : w = 0
      · refine mp_top (y := 0) q3 ?_
        refine mp_lookup (tgt := 52) (off := 26) dX11_seen_26 ⟨by decide, by decide⟩ (by decide) rfl rfl ?_
        refine mp_aload dX11_seen_52 rfl ?_
        refine mp_aload_n dX11_seen_54 rfl ?_
        refine mp_getfield dX11_seen_55 fsX11_10_10 (mp_lkP hA 0 rfl) rfl ?_
        refine mp_getfield dX11_seen_58 fsX11_127_8 (mp_lkP hA 1 rfl) rfl ?_
        refine mp_iload_n dX11_seen_61 rfl ?_
        refine mp_iald dX11_seen_62 (mp_lkP hA 4 rfl) ⟨by omega, by omega⟩ (by omega) ?_
        refine mp_top (y := s (49 + 3 * l + 0)) (sp_rof_in ⟨by omega, by omega⟩) ?_
        refine mp_aload dX11_seen_63 rfl ?_
        refine mp_getfield dX11_seen_65 (fsX11_102 (by omega)) hc1 rfl ?_
        refine mp_inv8 (kd := (s (1 + 6 * m + 0))) (σ1 := A ++ (mp_cs s si sp f fi fp im hd kn wd ak ke cv vo so sz el ++ B)) (as := [mp_i (s (49 + 3 * l + 0)), mp_i (s (1 + 6 * m + 2))]) (st := []) (st1 := [mp_i (mp_fold (sp_seenStep (s (1 + 6 * m + 2)) (s (1 + 6 * m + 3)) (sp_bright (s (1 + 6 * m + 0)) (s (1 + 6 * m + 1))) (s (49 + 3 * l + 0))) (Int.toNat (sp_lasts (s (1 + 6 * m + 0)) (s (1 + 6 * m + 1)))) 0 0)]) dX11_seen_68 (by omega) s8X11_168 hc1 (fa_seenFrom (a := a1) (q := (s (49 + 3 * l + 0))) (x := (s (1 + 6 * m + 2))) (kd := (s (1 + 6 * m + 0))) (f := (s (1 + 6 * m + 1))) (co := (s (1 + 6 * m + 2))) (sl := (s (1 + 6 * m + 3))) (ni := (s (1 + 6 * m + 4))) (la := (sp_lasts (s (1 + 6 * m + 0)) (s (1 + 6 * m + 1)))) (br := (sp_bright (s (1 + 6 * m + 0)) (s (1 + 6 * m + 1)))) hc1 (by first | with_reducible assumption | omega) (by first | with_reducible assumption | omega) (by first | with_reducible assumption | omega) (by first | with_reducible assumption | omega) (by first | with_reducible assumption | omega) (by first | with_reducible assumption | omega)) (Nat.le_of_ble_eq_true rfl) ⟨Nat.le_of_ble_eq_true rfl, Nat.le_of_ble_eq_true rfl⟩ (Nat.le_of_ble_eq_true rfl) rfl rfl rfl ?_
        exact mp_ireturn (st := []) dX11_seen_71 rfl ⟨by decide, by decide⟩ ((mp_ans (by unfold sp_seenC; first | (rw [if_pos (by omega)]; done) | (rw [if_neg (by omega)]; done) | (rw [if_neg (by omega), if_pos (by omega)]; done) | (rw [if_neg (by omega), if_neg (by omega)]; done) | (rw [if_neg (by omega), if_neg (by omega), if_pos (by omega)]; done) | (rw [if_neg (by omega), if_neg (by omega), if_neg (by omega)]; done) | (rw [if_neg (by omega), if_neg (by omega), if_neg (by omega), if_pos (by omega)]; done) | (rw [if_neg (by omega), if_neg (by omega), if_neg (by omega), if_neg (by omega)]; done) | (rw [if_neg (by omega), if_neg (by omega), if_neg (by omega), if_neg (by omega), if_pos (by omega)]; done) | (rw [if_neg (by omega), if_neg (by omega), if_neg (by omega), if_neg (by omega), if_neg (by omega)]; done) | (rw [if_neg (by omega), if_neg (by omega), if_neg (by omega), if_neg (by omega), if_neg (by omega), if_pos (by omega)]; done) | (rw [if_neg (by omega), if_neg (by omega), if_neg (by omega), if_neg (by omega), if_neg (by omega), if_neg (by omega)]; done) | (rw [if_neg (by omega), if_neg (by omega), if_neg (by omega), if_neg (by omega), if_neg (by omega), if_neg (by omega), if_pos (by omega)]; done) | (rw [if_neg (by omega), if_neg (by omega), if_neg (by omega), if_neg (by omega), if_neg (by omega), if_neg (by omega), if_neg (by omega)]; done) | (rw [if_neg (by omega)]; omega) | (rw [if_neg (by omega), if_pos (by omega)]; rfl))))
      by_cases q4 : w = 1
      · refine mp_top (y := 1) q4 ?_
        refine mp_lookup (tgt := 72) (off := 46) dX11_seen_26 ⟨by decide, by decide⟩ (by decide) rfl rfl ?_
        refine mp_aload_n dX11_seen_72 rfl ?_
        refine mp_getfield dX11_seen_73 fsX11_10_10 (mp_lkP hA 0 rfl) rfl ?_
        refine mp_iload_n dX11_seen_76 rfl ?_
        refine mp_aload dX11_seen_77 rfl ?_
        refine mp_invV (z := (mX6_yesStep, 2, 0, 0)) (K' := (0, 0)) (σ1 := A ++ (mp_cs s si sp f fi fp im hd kn wd ak ke cv vo so sz el ++ B)) (as := [mp_i l, Value.ref a1]) (st := []) (st1 := [mp_i (sp_yesOf s l m)]) dX11_seen_79 svX11_172 (mp_lkP hA 1 rfl) rfl rfl (zX6_yesStep (p := 2) (l := l) (a := a1) (s := s) (f := f) (k := m) (mp_Sk.of (σ := A ++ (mp_cs s si sp f fi fp im hd kn wd ak ke cv vo so sz el ++ B)) (mp_skC2 hA) hMt) hs (by first | with_reducible assumption | omega) (by first | with_reducible assumption | omega) (by first | with_reducible assumption | omega)) ⟨Nat.le_of_ble_eq_true rfl, Nat.le_of_ble_eq_true rfl, Nat.le_of_ble_eq_true rfl, Nat.le_of_ble_eq_true rfl, Nat.le_of_ble_eq_true rfl⟩ rfl rfl rfl rfl ?_
        exact mp_ireturn (st := []) dX11_seen_82 rfl ⟨by decide, by decide⟩ ((mp_ans (by unfold sp_seenC; first | (rw [if_pos (by omega)]; done) | (rw [if_neg (by omega)]; done) | (rw [if_neg (by omega), if_pos (by omega)]; done) | (rw [if_neg (by omega), if_neg (by omega)]; done) | (rw [if_neg (by omega), if_neg (by omega), if_pos (by omega)]; done) | (rw [if_neg (by omega), if_neg (by omega), if_neg (by omega)]; done) | (rw [if_neg (by omega), if_neg (by omega), if_neg (by omega), if_pos (by omega)]; done) | (rw [if_neg (by omega), if_neg (by omega), if_neg (by omega), if_neg (by omega)]; done) | (rw [if_neg (by omega), if_neg (by omega), if_neg (by omega), if_neg (by omega), if_pos (by omega)]; done) | (rw [if_neg (by omega), if_neg (by omega), if_neg (by omega), if_neg (by omega), if_neg (by omega)]; done) | (rw [if_neg (by omega), if_neg (by omega), if_neg (by omega), if_neg (by omega), if_neg (by omega), if_pos (by omega)]; done) | (rw [if_neg (by omega), if_neg (by omega), if_neg (by omega), if_neg (by omega), if_neg (by omega), if_neg (by omega)]; done) | (rw [if_neg (by omega), if_neg (by omega), if_neg (by omega), if_neg (by omega), if_neg (by omega), if_neg (by omega), if_pos (by omega)]; done) | (rw [if_neg (by omega), if_neg (by omega), if_neg (by omega), if_neg (by omega), if_neg (by omega), if_neg (by omega), if_neg (by omega)]; done) | (rw [if_neg (by omega)]; omega) | (rw [if_neg (by omega), if_pos (by omega)]; rfl))))
      refine mp_lookup (tgt := 83) (off := 57) dX11_seen_26 ⟨by omega, by omega⟩ (by decide) (by simp [Op.lookupswitch.offset_cons, Op.lookupswitch.offset, *] <;> omega) rfl ?_
      refine mp_iconst dX11_seen_83 ?_
      exact mp_ireturn (st := []) dX11_seen_84 rfl ⟨by decide, by decide⟩ ((mp_ans (by unfold sp_seenC; first | (rw [if_pos (by omega)]; done) | (rw [if_neg (by omega)]; done) | (rw [if_neg (by omega), if_pos (by omega)]; done) | (rw [if_neg (by omega), if_neg (by omega)]; done) | (rw [if_neg (by omega), if_neg (by omega), if_pos (by omega)]; done) | (rw [if_neg (by omega), if_neg (by omega), if_neg (by omega)]; done) | (rw [if_neg (by omega), if_neg (by omega), if_neg (by omega), if_pos (by omega)]; done) | (rw [if_neg (by omega), if_neg (by omega), if_neg (by omega), if_neg (by omega)]; done) | (rw [if_neg (by omega), if_neg (by omega), if_neg (by omega), if_neg (by omega), if_pos (by omega)]; done) | (rw [if_neg (by omega), if_neg (by omega), if_neg (by omega), if_neg (by omega), if_neg (by omega)]; done) | (rw [if_neg (by omega), if_neg (by omega), if_neg (by omega), if_neg (by omega), if_neg (by omega), if_pos (by omega)]; done) | (rw [if_neg (by omega), if_neg (by omega), if_neg (by omega), if_neg (by omega), if_neg (by omega), if_neg (by omega)]; done) | (rw [if_neg (by omega), if_neg (by omega), if_neg (by omega), if_neg (by omega), if_neg (by omega), if_neg (by omega), if_pos (by omega)]; done) | (rw [if_neg (by omega), if_neg (by omega), if_neg (by omega), if_neg (by omega), if_neg (by omega), if_neg (by omega), if_neg (by omega)]; done) | (rw [if_neg (by omega)]; omega) | (rw [if_neg (by omega), if_pos (by omega)]; rfl))))
  · refine mp_invV (z := (mX6_at, 0, 0, 0)) (K' := (0, 0)) (σ1 := A ++ (mp_cs s si sp f fi fp im hd kn wd ak ke cv vo so sz el ++ B)) (as := [mp_i m]) (st := []) (st1 := [Value.null]) dX11_seen_5 svX11_93 (mp_Sk.of (σ := A ++ (mp_cs s si sp f fi fp im hd kn wd ak ke cv vo so sz el ++ B)) (mp_skC2 hA) hMt).1 rfl rfl (zX6_atN (p := 2) (m := m) (s := s) (f := f) (mp_Sk.of (σ := A ++ (mp_cs s si sp f fi fp im hd kn wd ak ke cv vo so sz el ++ B)) (mp_skC2 hA) hMt) hm1 (by omega) (by omega)) ⟨Nat.le_of_ble_eq_true rfl, Nat.le_of_ble_eq_true rfl, Nat.le_of_ble_eq_true rfl, Nat.le_of_ble_eq_true rfl, Nat.le_of_ble_eq_true rfl⟩ rfl rfl rfl rfl ?_
    refine mp_astoreN (L' := [some (Value.ref 1), some (mp_i l), some (mp_i m), some (mp_i w), some (Value.null)]) dX11_seen_8 (by decide) rfl ?_
    refine mp_iload_n dX11_seen_10 rfl ?_
    refine mp_iconst dX11_seen_11 ?_
    refine mp_invS (z := (mX11_isBelow, 0, 0, 0)) (K' := (0, 0)) (σ1 := A ++ (mp_cs s si sp f fi fp im hd kn wd ak ke cv vo so sz el ++ B)) (as := [mp_i l, mp_i 5]) (st := []) (st1 := [mp_i (if 0 ≤ l ∧ l < 5 then 1 else 0)]) dX11_seen_12 ssX11_54 (zX11_isBelow (v := l) (n := 5) (by first | with_reducible assumption | omega) (by first | with_reducible assumption | omega)) ⟨Nat.le_of_ble_eq_true rfl, Nat.le_of_ble_eq_true rfl, Nat.le_of_ble_eq_true rfl, Nat.le_of_ble_eq_true rfl, Nat.le_of_ble_eq_true rfl⟩ rfl rfl rfl rfl ?_
    refine mp_ifb_eq (tgt := 23) dX11_seen_15 rfl (fun h5 => ?_) (fun h5 => ?_)
    · refine mp_iconst dX11_seen_23 ?_
      exact mp_ireturn (st := []) dX11_seen_24 rfl ⟨by decide, by decide⟩ ((mp_ans (by unfold sp_seenC; first | (rw [if_pos (by omega)]; done) | (rw [if_neg (by omega)]; done) | (rw [if_neg (by omega), if_pos (by omega)]; done) | (rw [if_neg (by omega), if_neg (by omega)]; done) | (rw [if_neg (by omega), if_neg (by omega), if_pos (by omega)]; done) | (rw [if_neg (by omega), if_neg (by omega), if_neg (by omega)]; done) | (rw [if_neg (by omega), if_neg (by omega), if_neg (by omega), if_pos (by omega)]; done) | (rw [if_neg (by omega), if_neg (by omega), if_neg (by omega), if_neg (by omega)]; done) | (rw [if_neg (by omega), if_neg (by omega), if_neg (by omega), if_neg (by omega), if_pos (by omega)]; done) | (rw [if_neg (by omega), if_neg (by omega), if_neg (by omega), if_neg (by omega), if_neg (by omega)]; done) | (rw [if_neg (by omega), if_neg (by omega), if_neg (by omega), if_neg (by omega), if_neg (by omega), if_pos (by omega)]; done) | (rw [if_neg (by omega), if_neg (by omega), if_neg (by omega), if_neg (by omega), if_neg (by omega), if_neg (by omega)]; done) | (rw [if_neg (by omega), if_neg (by omega), if_neg (by omega), if_neg (by omega), if_neg (by omega), if_neg (by omega), if_pos (by omega)]; done) | (rw [if_neg (by omega), if_neg (by omega), if_neg (by omega), if_neg (by omega), if_neg (by omega), if_neg (by omega), if_neg (by omega)]; done) | (rw [if_neg (by omega)]; omega) | (rw [if_neg (by omega), if_pos (by omega)]; rfl))))
    · refine mp_aloadN dX11_seen_18 rfl ?_
      refine mp_ifnonnull_n dX11_seen_20 ?_
      refine mp_iconst dX11_seen_23 ?_
      exact mp_ireturn (st := []) dX11_seen_24 rfl ⟨by decide, by decide⟩ ((mp_ans (by unfold sp_seenC; first | (rw [if_pos (by omega)]; done) | (rw [if_neg (by omega)]; done) | (rw [if_neg (by omega), if_pos (by omega)]; done) | (rw [if_neg (by omega), if_neg (by omega)]; done) | (rw [if_neg (by omega), if_neg (by omega), if_pos (by omega)]; done) | (rw [if_neg (by omega), if_neg (by omega), if_neg (by omega)]; done) | (rw [if_neg (by omega), if_neg (by omega), if_neg (by omega), if_pos (by omega)]; done) | (rw [if_neg (by omega), if_neg (by omega), if_neg (by omega), if_neg (by omega)]; done) | (rw [if_neg (by omega), if_neg (by omega), if_neg (by omega), if_neg (by omega), if_pos (by omega)]; done) | (rw [if_neg (by omega), if_neg (by omega), if_neg (by omega), if_neg (by omega), if_neg (by omega)]; done) | (rw [if_neg (by omega), if_neg (by omega), if_neg (by omega), if_neg (by omega), if_neg (by omega), if_pos (by omega)]; done) | (rw [if_neg (by omega), if_neg (by omega), if_neg (by omega), if_neg (by omega), if_neg (by omega), if_neg (by omega)]; done) | (rw [if_neg (by omega), if_neg (by omega), if_neg (by omega), if_neg (by omega), if_neg (by omega), if_neg (by omega), if_pos (by omega)]; done) | (rw [if_neg (by omega), if_neg (by omega), if_neg (by omega), if_neg (by omega), if_neg (by omega), if_neg (by omega), if_neg (by omega)]; done) | (rw [if_neg (by omega)]; omega) | (rw [if_neg (by omega), if_pos (by omega)]; rfl))))
theorem zX11_taker {s si sp : Int → Int} {f fi fp : Nat → Option Nat} {im : Int} {hd : Int → Int} {kn : Nat → Option Nat} {wd ak ke cv vo so sz el : Int → Int} {A B : mp_H}  {m : Int} (hA : A.length = 1) (hs : mp_sky s) (hMt : mp_Mt (A ++ (mp_cs s si sp f fi fp im hd kn wd ak ke cv vo so sz el ++ B)) s f) (h_m : mp_w m) : mp_Call (mX11_taker, 4, 0, 0) [Value.ref 1, mp_i m] (A ++ (mp_cs s si sp f fi fp im hd kn wd ak ke cv vo so sz el ++ B)) (some (mp_i (sp_takerC s m)), A ++ (mp_cs s si sp f fi fp im hd kn wd ak ke cv vo so sz el ++ B)) := by
  refine mp_Call.of (L := [some (Value.ref 1), some (mp_i m), none]) pnX11 (Nat.le_of_ble_eq_true rfl) rfl ?_
  have hz0 := hs.1
  have hv31 : ∀ l, 0 ≤ l → l ≤ 4 → (sp_b 31 l = 1 ↔ ((0 : Int) = 0 ∨ s (49 + 3 * l + 2) = 9)) := fun l h0 h1 => ⟨fun _ => Or.inl rfl, fun _ => mp_b_31 ⟨h0, h1⟩⟩
  have htk := mp_taker_bd s m 0
  refine mp_aload_n dX11_taker_0 rfl ?_
  refine mp_getfield dX11_taker_1 fsX11_10_10 (mp_lkP hA 0 rfl) rfl ?_
  refine mp_iload_n dX11_taker_4 rfl ?_
  by_cases hm1 : 0 ≤ m ∧ m < s 0
  · obtain ⟨a1, hf1, hc1⟩ := (mp_Sk.of (σ := A ++ (mp_cs s si sp f fi fp im hd kn wd ak ke cv vo so sz el ++ B)) (mp_skC2 hA) hMt).2.2.2.2.2.2 m hm1.1 hm1.2
    have ht1 := hs.2.1 m hm1.1 hm1.2
    have hl1 := mp_lasts_bd (kind := (s (1 + 6 * m + 0))) (f := (s (1 + 6 * m + 1))) (by omega)
    have hr1 := mp_bright_bd (kind := (s (1 + 6 * m + 0))) (f := (s (1 + 6 * m + 1))) (by omega)
    refine mp_invV (z := (mX6_at, 0, 0, 0)) (K' := (0, 0)) (σ1 := A ++ (mp_cs s si sp f fi fp im hd kn wd ak ke cv vo so sz el ++ B)) (as := [mp_i m]) (st := []) (st1 := [Value.ref a1]) dX11_taker_5 svX11_93 (mp_Sk.of (σ := A ++ (mp_cs s si sp f fi fp im hd kn wd ak ke cv vo so sz el ++ B)) (mp_skC2 hA) hMt).1 rfl rfl (zX6_at (p := 2) (m := m) (a := a1) (s := s) (f := f) (mp_Sk.of (σ := A ++ (mp_cs s si sp f fi fp im hd kn wd ak ke cv vo so sz el ++ B)) (mp_skC2 hA) hMt) hm1 (by omega) hf1) ⟨Nat.le_of_ble_eq_true rfl, Nat.le_of_ble_eq_true rfl, Nat.le_of_ble_eq_true rfl, Nat.le_of_ble_eq_true rfl, Nat.le_of_ble_eq_true rfl⟩ rfl rfl rfl rfl ?_
    refine mp_astore_n (L' := [some (Value.ref 1), some (mp_i m), some (Value.ref a1)]) dX11_taker_8 rfl (by decide) rfl ?_
    refine mp_aload_n dX11_taker_9 rfl ?_
    refine mp_ifnonnull_r (tgt := 15) dX11_taker_10 rfl ?_
    refine mp_aload_n dX11_taker_15 rfl ?_
    refine mp_getfield dX11_taker_16 fsX11_10_10 (mp_lkP hA 0 rfl) rfl ?_
    refine mp_bipush dX11_taker_19 rfl ?_
    refine mp_aload_n dX11_taker_21 rfl ?_
    refine mp_invV (z := (mX6_firstOf, 3, 0, 0)) (K' := (0, 0)) (σ1 := A ++ (mp_cs s si sp f fi fp im hd kn wd ak ke cv vo so sz el ++ B)) (as := [mp_i 31, Value.ref a1]) (st := []) (st1 := [mp_i (if sp_taker s m 0 < 0 then 9 else sp_taker s m 0)]) dX11_taker_22 svX11_176 (mp_lkP hA 1 rfl) rfl rfl (zX6_firstOf (p := 2) (v := 31) (a := a1) (s := s) (f := f) (k := m) (g := 0) (mp_Sk.of (σ := A ++ (mp_cs s si sp f fi fp im hd kn wd ak ke cv vo so sz el ++ B)) (mp_skC2 hA) hMt) hs (by first | with_reducible assumption | omega) (by first | with_reducible assumption | omega) (by first | with_reducible assumption | omega) hv31) ⟨Nat.le_of_ble_eq_true rfl, Nat.le_of_ble_eq_true rfl, Nat.le_of_ble_eq_true rfl, Nat.le_of_ble_eq_true rfl, Nat.le_of_ble_eq_true rfl⟩ rfl rfl rfl rfl ?_
    refine mp_invS (z := (mX11_numberOrNone, 0, 0, 0)) (K' := (0, 0)) (σ1 := A ++ (mp_cs s si sp f fi fp im hd kn wd ak ke cv vo so sz el ++ B)) (as := [mp_i (if sp_taker s m 0 < 0 then 9 else sp_taker s m 0)]) (st := []) (st1 := [mp_i (if (if sp_taker s m 0 < 0 then 9 else sp_taker s m 0) = 9 then -4 else (if sp_taker s m 0 < 0 then 9 else sp_taker s m 0))]) dX11_taker_25 ssX11_179 (zX11_numberOrNone (v := (if sp_taker s m 0 < 0 then 9 else sp_taker s m 0)) (by first | with_reducible assumption | omega)) ⟨Nat.le_of_ble_eq_true rfl, Nat.le_of_ble_eq_true rfl, Nat.le_of_ble_eq_true rfl, Nat.le_of_ble_eq_true rfl, Nat.le_of_ble_eq_true rfl⟩ rfl rfl rfl rfl ?_
    exact mp_ireturn (st := []) dX11_taker_28 rfl ⟨by decide, by decide⟩ ((mp_ans (by unfold sp_takerC; first | (rw [if_neg (by omega)]; done) | (rw [if_pos (by omega)]; omega))))
  · refine mp_invV (z := (mX6_at, 0, 0, 0)) (K' := (0, 0)) (σ1 := A ++ (mp_cs s si sp f fi fp im hd kn wd ak ke cv vo so sz el ++ B)) (as := [mp_i m]) (st := []) (st1 := [Value.null]) dX11_taker_5 svX11_93 (mp_Sk.of (σ := A ++ (mp_cs s si sp f fi fp im hd kn wd ak ke cv vo so sz el ++ B)) (mp_skC2 hA) hMt).1 rfl rfl (zX6_atN (p := 2) (m := m) (s := s) (f := f) (mp_Sk.of (σ := A ++ (mp_cs s si sp f fi fp im hd kn wd ak ke cv vo so sz el ++ B)) (mp_skC2 hA) hMt) hm1 (by omega) (by omega)) ⟨Nat.le_of_ble_eq_true rfl, Nat.le_of_ble_eq_true rfl, Nat.le_of_ble_eq_true rfl, Nat.le_of_ble_eq_true rfl, Nat.le_of_ble_eq_true rfl⟩ rfl rfl rfl rfl ?_
    refine mp_astore_nN (L' := [some (Value.ref 1), some (mp_i m), some (Value.null)]) dX11_taker_8 rfl (by decide) rfl ?_
    refine mp_aload_nN dX11_taker_9 rfl ?_
    refine mp_ifnonnull_n dX11_taker_10 ?_
    refine mp_iconst dX11_taker_13 ?_
    exact mp_ireturn (st := []) dX11_taker_14 rfl ⟨by decide, by decide⟩ ((mp_ans (by unfold sp_takerC; first | (rw [if_neg (by omega)]; done) | (rw [if_pos (by omega)]; omega))))
theorem lX11_unseen_4 {s si sp : Int → Int} {f fi fp : Nat → Option Nat} {im : Int} {hd : Int → Int} {kn : Nat → Option Nat} {wd ak ke cv vo so sz el : Int → Int} {A B : mp_H}  (hA : A.length = 1) (hs : mp_sky s) (hMt : mp_Mt (A ++ (mp_cs s si sp f fi fp im hd kn wd ak ke cv vo so sz el ++ B)) s f) {R9 : mp_An} : ∀ (n : Nat) (t : Int) (v : Int), ((0 ≤ t ∧ t + (n : Nat) = 8) ∧ 0 ≤ v ∧ v < 256) → mp_At (mX11_unseen, 3, 0, 0) (0, 0) 46 [some (Value.ref 1), some (mp_i (mp_fold (fun k b => if k < s 0 then (sp_unseenStep s) k b else b) n t v)), none, none] [] (A ++ (mp_cs s si sp f fi fp im hd kn wd ak ke cv vo so sz el ++ B)) R9 → mp_At (mX11_unseen, 3, 0, 0) (0, 0) 4 [some (Value.ref 1), some (mp_i v), some (mp_i t), none] [] (A ++ (mp_cs s si sp f fi fp im hd kn wd ak ke cv vo so sz el ++ B)) R9 := by
  intro n
  induction n with
  | zero =>
    intro t v hi hk
    have hz0 := hs.1
    refine mp_iload_n dX11_unseen_4 rfl ?_
    refine mp_bipush dX11_unseen_5 rfl ?_
    refine mp_icmp_ge (tgt := 46) dX11_unseen_7 rfl ⟨by omega, by omega⟩ ⟨by omega, by omega⟩ (fun h1 => ?_) (fun h1 => ?_)
    · refine mp_drop (L' := [some (Value.ref 1), some (mp_i v), none, none]) [true, true, false, false] rfl ?_
      exact hk
    · exfalso; omega
  | succ n ih =>
    intro t v hi hk
    have hz0 := hs.1
    have hbt := mp_bit_256 (k := t) (by omega)
    have hbn := mp_bit_nn t
    have hov := mp_or_256 (a := v) (b := mp_bit t) (by omega) (by omega)
    have hon := mp_or_nn v (mp_bit t)
    have hany := mp_any_bd s t
    refine mp_iload_n dX11_unseen_4 rfl ?_
    refine mp_bipush dX11_unseen_5 rfl ?_
    refine mp_icmp_ge (tgt := 46) dX11_unseen_7 rfl ⟨by omega, by omega⟩ ⟨by omega, by omega⟩ (fun h1 => ?_) (fun h1 => ?_)
    · exfalso; omega
    · refine mp_aload_n dX11_unseen_10 rfl ?_
      refine mp_getfield dX11_unseen_11 fsX11_10_10 (mp_lkP hA 0 rfl) rfl ?_
      refine mp_iload_n dX11_unseen_14 rfl ?_
      by_cases hm2 : 0 ≤ t ∧ t < s 0
      · obtain ⟨a2, hf2, hc2⟩ := (mp_Sk.of (σ := A ++ (mp_cs s si sp f fi fp im hd kn wd ak ke cv vo so sz el ++ B)) (mp_skC2 hA) hMt).2.2.2.2.2.2 t hm2.1 hm2.2
        have ht2 := hs.2.1 t hm2.1 hm2.2
        have hl2 := mp_lasts_bd (kind := (s (1 + 6 * t + 0))) (f := (s (1 + 6 * t + 1))) (by omega)
        have hr2 := mp_bright_bd (kind := (s (1 + 6 * t + 0))) (f := (s (1 + 6 * t + 1))) (by omega)
        refine mp_invV (z := (mX6_at, 0, 0, 0)) (K' := (0, 0)) (σ1 := A ++ (mp_cs s si sp f fi fp im hd kn wd ak ke cv vo so sz el ++ B)) (as := [mp_i t]) (st := []) (st1 := [Value.ref a2]) dX11_unseen_15 svX11_93 (mp_Sk.of (σ := A ++ (mp_cs s si sp f fi fp im hd kn wd ak ke cv vo so sz el ++ B)) (mp_skC2 hA) hMt).1 rfl rfl (zX6_at (p := 2) (m := t) (a := a2) (s := s) (f := f) (mp_Sk.of (σ := A ++ (mp_cs s si sp f fi fp im hd kn wd ak ke cv vo so sz el ++ B)) (mp_skC2 hA) hMt) hm2 (by omega) hf2) ⟨Nat.le_of_ble_eq_true rfl, Nat.le_of_ble_eq_true rfl, Nat.le_of_ble_eq_true rfl, Nat.le_of_ble_eq_true rfl, Nat.le_of_ble_eq_true rfl⟩ rfl rfl rfl rfl ?_
        refine mp_astore_n (L' := [some (Value.ref 1), some (mp_i v), some (mp_i t), some (Value.ref a2)]) dX11_unseen_18 rfl (by decide) rfl ?_
        refine mp_aload_n dX11_unseen_19 rfl ?_
        refine mp_ifnull_r dX11_unseen_20 ?_
        refine mp_aload_n dX11_unseen_23 rfl ?_
        refine mp_getfield dX11_unseen_24 fsX11_10_10 (mp_lkP hA 0 rfl) rfl ?_
        refine mp_aload_n dX11_unseen_27 rfl ?_
        refine mp_invV (z := (mX6_isSeenByAny, 2, 0, 0)) (K' := (0, 0)) (σ1 := A ++ (mp_cs s si sp f fi fp im hd kn wd ak ke cv vo so sz el ++ B)) (as := [Value.ref a2]) (st := []) (st1 := [mp_i (sc_any s t 5 0)]) dX11_unseen_28 svX11_182 (mp_lkP hA 1 rfl) rfl rfl (zX6_isSeenByAny (p := 2) (a := a2) (s := s) (f := f) (k := t) (mp_Sk.of (σ := A ++ (mp_cs s si sp f fi fp im hd kn wd ak ke cv vo so sz el ++ B)) (mp_skC2 hA) hMt) hs (by first | with_reducible assumption | omega) (by first | with_reducible assumption | omega)) ⟨Nat.le_of_ble_eq_true rfl, Nat.le_of_ble_eq_true rfl, Nat.le_of_ble_eq_true rfl, Nat.le_of_ble_eq_true rfl, Nat.le_of_ble_eq_true rfl⟩ rfl rfl rfl rfl ?_
        refine mp_top (y := sp_any s t) (sc_any_eq s t) ?_
        refine mp_if_ne (tgt := 40) dX11_unseen_31 rfl ⟨by omega, by omega⟩ (fun h3 => ?_) (fun h3 => ?_)
        · refine mp_iinc (z := t + 1) (L' := [some (Value.ref 1), some (mp_i v), some (mp_i (t + 1)), some (Value.ref a2)]) dX11_unseen_40 rfl (rfl) (by decide) rfl ?_
          refine mp_goto (tgt := 4) dX11_unseen_43 rfl ?_
          refine mp_drop (L' := [some (Value.ref 1), some (mp_i v), some (mp_i (t + 1)), none]) [true, true, true, false] rfl ?_
          have e9 : (fun k b => if k < s 0 then (sp_unseenStep s) k b else b) t v = v := (if_pos (by omega)).trans (by show (if sp_any s t = 0 then mp_or v (mp_bit t) else v) = _; first | rfl | (rw [if_pos (by omega)]; done) | (rw [if_neg (by omega)]; done) | (rw [if_pos (by omega)]; omega) | (rw [if_neg (by omega)]; omega))
          have k9 := ih (t + 1) ((fun k b => if k < s 0 then (sp_unseenStep s) k b else b) t v) (by rw [e9]; omega) hk
          rw [e9] at k9
          exact k9
        · refine mp_iload_n dX11_unseen_34 rfl ?_
          refine mp_iconst dX11_unseen_35 ?_
          refine mp_iload_n dX11_unseen_36 rfl ?_
          refine mp_ishl (z := mp_bit t) dX11_unseen_37 (mp_z_bit ⟨by omega, by omega⟩) ?_
          refine mp_ior (z := mp_or v (mp_bit t)) dX11_unseen_38 (mp_z_or (by first | omega | exact mp_bit_nn _ | exact mp_or_nn _ _ | exact mp_and_nn _ _ | exact mp_shr_nn _ _) (by first | omega | exact mp_bit_nn _ | exact mp_or_nn _ _ | exact mp_and_nn _ _ | exact mp_shr_nn _ _)) ?_
          refine mp_istore_n (L' := [some (Value.ref 1), some (mp_i (mp_or v (mp_bit t))), some (mp_i t), some (Value.ref a2)]) dX11_unseen_39 rfl (by decide) rfl ?_
          refine mp_iinc (z := t + 1) (L' := [some (Value.ref 1), some (mp_i (mp_or v (mp_bit t))), some (mp_i (t + 1)), some (Value.ref a2)]) dX11_unseen_40 rfl (rfl) (by decide) rfl ?_
          refine mp_goto (tgt := 4) dX11_unseen_43 rfl ?_
          refine mp_drop (L' := [some (Value.ref 1), some (mp_i (mp_or v (mp_bit t))), some (mp_i (t + 1)), none]) [true, true, true, false] rfl ?_
          have e9 : (fun k b => if k < s 0 then (sp_unseenStep s) k b else b) t v = mp_or v (mp_bit t) := (if_pos (by omega)).trans (by show (if sp_any s t = 0 then mp_or v (mp_bit t) else v) = _; first | rfl | (rw [if_pos (by omega)]; done) | (rw [if_neg (by omega)]; done) | (rw [if_pos (by omega)]; omega) | (rw [if_neg (by omega)]; omega))
          have k9 := ih (t + 1) ((fun k b => if k < s 0 then (sp_unseenStep s) k b else b) t v) (by rw [e9]; omega) hk
          rw [e9] at k9
          exact k9
      · refine mp_invV (z := (mX6_at, 0, 0, 0)) (K' := (0, 0)) (σ1 := A ++ (mp_cs s si sp f fi fp im hd kn wd ak ke cv vo so sz el ++ B)) (as := [mp_i t]) (st := []) (st1 := [Value.null]) dX11_unseen_15 svX11_93 (mp_Sk.of (σ := A ++ (mp_cs s si sp f fi fp im hd kn wd ak ke cv vo so sz el ++ B)) (mp_skC2 hA) hMt).1 rfl rfl (zX6_atN (p := 2) (m := t) (s := s) (f := f) (mp_Sk.of (σ := A ++ (mp_cs s si sp f fi fp im hd kn wd ak ke cv vo so sz el ++ B)) (mp_skC2 hA) hMt) hm2 (by omega) (by omega)) ⟨Nat.le_of_ble_eq_true rfl, Nat.le_of_ble_eq_true rfl, Nat.le_of_ble_eq_true rfl, Nat.le_of_ble_eq_true rfl, Nat.le_of_ble_eq_true rfl⟩ rfl rfl rfl rfl ?_
        refine mp_astore_nN (L' := [some (Value.ref 1), some (mp_i v), some (mp_i t), some (Value.null)]) dX11_unseen_18 rfl (by decide) rfl ?_
        refine mp_aload_nN dX11_unseen_19 rfl ?_
        refine mp_ifnull_n (tgt := 40) dX11_unseen_20 rfl ?_
        refine mp_iinc (z := t + 1) (L' := [some (Value.ref 1), some (mp_i v), some (mp_i (t + 1)), some (Value.null)]) dX11_unseen_40 rfl (rfl) (by decide) rfl ?_
        refine mp_goto (tgt := 4) dX11_unseen_43 rfl ?_
        refine mp_drop (L' := [some (Value.ref 1), some (mp_i v), some (mp_i (t + 1)), none]) [true, true, true, false] rfl ?_
        have e9 : (fun k b => if k < s 0 then (sp_unseenStep s) k b else b) t v = v := if_neg (by omega)
        have k9 := ih (t + 1) ((fun k b => if k < s 0 then (sp_unseenStep s) k b else b) t v) (by rw [e9]; omega) hk
        rw [e9] at k9
        exact k9
theorem zX11_unseen {s si sp : Int → Int} {f fi fp : Nat → Option Nat} {im : Int} {hd : Int → Int} {kn : Nat → Option Nat} {wd ak ke cv vo so sz el : Int → Int} {A B : mp_H}  (hA : A.length = 1) (hs : mp_sky s) (hMt : mp_Mt (A ++ (mp_cs s si sp f fi fp im hd kn wd ak ke cv vo so sz el ++ B)) s f) : mp_Call (mX11_unseen, 3, 0, 0) [Value.ref 1] (A ++ (mp_cs s si sp f fi fp im hd kn wd ak ke cv vo so sz el ++ B)) (some (mp_i (sp_unseen s)), A ++ (mp_cs s si sp f fi fp im hd kn wd ak ke cv vo so sz el ++ B)) := by
  refine mp_Call.of (L := [some (Value.ref 1), none, none, none]) pnX11 (Nat.le_of_ble_eq_true rfl) rfl ?_
  have hz0 := hs.1
  refine mp_iconst dX11_unseen_0 ?_
  refine mp_istore_n (L' := [some (Value.ref 1), some (mp_i 0), none, none]) dX11_unseen_1 rfl (by decide) rfl ?_
  refine mp_iconst dX11_unseen_2 ?_
  refine mp_istore_n (L' := [some (Value.ref 1), some (mp_i 0), some (mp_i 0), none]) dX11_unseen_3 rfl (by decide) rfl ?_
  refine lX11_unseen_4 (s := s) (si := si) (sp := sp) (f := f) (fi := fi) (fp := fp) (im := im) (hd := hd) (kn := kn) (wd := wd) (ak := ak) (ke := ke) (cv := cv) (vo := vo) (so := so) (sz := sz) (el := el) (B := B)   (by first | with_reducible assumption | omega) (by first | with_reducible assumption | omega) (by first | with_reducible assumption | omega) 8 0 0 (by omega) ?_
  refine mp_loc (j := 1) (x := mp_fold (fun k b => if k < s 0 then (sp_unseenStep s) k b else b) 8 0 0) (y := sp_unseen s) (mp_fold_8 (F := (sp_unseenStep s)) hs.1 0) rfl (L' := [some (Value.ref 1), some (mp_i (sp_unseen s)), none, none]) rfl ?_
  refine mp_iload_n dX11_unseen_46 rfl ?_
  exact mp_ireturn (st := []) dX11_unseen_47 rfl ⟨by decide, by decide⟩ ((mp_ans (by first | with_reducible rfl | omega | rfl)))
theorem zX11_mistakes {s si sp : Int → Int} {f fi fp : Nat → Option Nat} {im : Int} {hd : Int → Int} {kn : Nat → Option Nat} {wd ak ke cv vo so sz el : Int → Int} {A B : mp_H}  (hA : A.length = 1) (hs : mp_sky s) (hMt : mp_Mt (A ++ (mp_cs s si sp f fi fp im hd kn wd ak ke cv vo so sz el ++ B)) s f) : mp_Call (mX11_mistakes, 2, 0, 0) [Value.ref 1] (A ++ (mp_cs s si sp f fi fp im hd kn wd ak ke cv vo so sz el ++ B)) (some (mp_i (sp_mis s)), A ++ (mp_cs s si sp f fi fp im hd kn wd ak ke cv vo so sz el ++ B)) := by
  refine mp_Call.of (L := [some (Value.ref 1)]) pnX11 (Nat.le_of_ble_eq_true rfl) rfl ?_
  refine mp_aload_n dX11_mistakes_0 rfl ?_
  refine mp_getfield dX11_mistakes_1 fsX11_10_10 (mp_lkP hA 0 rfl) rfl ?_
  refine mp_invV (z := (mX6_mistaken, 1, 0, 0)) (K' := (0, 0)) (σ1 := A ++ (mp_cs s si sp f fi fp im hd kn wd ak ke cv vo so sz el ++ B)) (as := []) (st := []) (st1 := [mp_i (sp_mis s)]) dX11_mistakes_4 svX11_186 (mp_lkP hA 1 rfl) rfl rfl (zX6_mistaken (p := 2) (s := s) (f := f) (mp_Sk.of (σ := A ++ (mp_cs s si sp f fi fp im hd kn wd ak ke cv vo so sz el ++ B)) (mp_skC2 hA) hMt) hs) ⟨Nat.le_of_ble_eq_true rfl, Nat.le_of_ble_eq_true rfl, Nat.le_of_ble_eq_true rfl, Nat.le_of_ble_eq_true rfl, Nat.le_of_ble_eq_true rfl⟩ rfl rfl rfl rfl ?_
  exact mp_ireturn (st := []) dX11_mistakes_7 rfl ⟨by decide, by decide⟩ ((mp_ans (by first | with_reducible rfl | omega | rfl)))
theorem zX11_waiting {s si sp : Int → Int} {f fi fp : Nat → Option Nat} {im : Int} {hd : Int → Int} {kn : Nat → Option Nat} {wd ak ke cv vo so sz el : Int → Int} {A B : mp_H}  (hA : A.length = 1) (hs : mp_sky s) (hMt : mp_Mt (A ++ (mp_cs s si sp f fi fp im hd kn wd ak ke cv vo so sz el ++ B)) s f) : mp_Call (mX11_waiting, 1, 0, 0) [Value.ref 1] (A ++ (mp_cs s si sp f fi fp im hd kn wd ak ke cv vo so sz el ++ B)) (some (mp_i (sp_waiting s)), A ++ (mp_cs s si sp f fi fp im hd kn wd ak ke cv vo so sz el ++ B)) := by
  refine mp_Call.of (L := [some (Value.ref 1)]) pnX11 (Nat.le_of_ble_eq_true rfl) rfl ?_
  refine mp_aload_n dX11_waiting_0 rfl ?_
  refine mp_getfield dX11_waiting_1 fsX11_10_10 (mp_lkP hA 0 rfl) rfl ?_
  refine mp_invV (z := (mX6_lookersFree, 0, 0, 0)) (K' := (0, 0)) (σ1 := A ++ (mp_cs s si sp f fi fp im hd kn wd ak ke cv vo so sz el ++ B)) (as := []) (st := []) (st1 := [mp_i (sp_waiting s)]) dX11_waiting_4 svX11_189 (mp_lkP hA 1 rfl) rfl rfl (zX6_lookersFree (p := 2) (s := s) (f := f) (mp_Sk.of (σ := A ++ (mp_cs s si sp f fi fp im hd kn wd ak ke cv vo so sz el ++ B)) (mp_skC2 hA) hMt) hs) ⟨Nat.le_of_ble_eq_true rfl, Nat.le_of_ble_eq_true rfl, Nat.le_of_ble_eq_true rfl, Nat.le_of_ble_eq_true rfl, Nat.le_of_ble_eq_true rfl⟩ rfl rfl rfl rfl ?_
  exact mp_ireturn (st := []) dX11_waiting_7 rfl ⟨by decide, by decide⟩ ((mp_ans (by first | with_reducible rfl | omega | rfl)))
theorem lX11_yesesFrom_5 {s si sp : Int → Int} {f fi fp : Nat → Option Nat} {im : Int} {hd : Int → Int} {kn : Nat → Option Nat} {wd ak ke cv vo so sz el : Int → Int} {A B : mp_H}  {x : Int} {e : Int} (hA : A.length = 1) (hs : mp_sky s) (hMt : mp_Mt (A ++ (mp_cs s si sp f fi fp im hd kn wd ak ke cv vo so sz el ++ B)) s f) (h_x : 0 ≤ x ∧ x ≤ 15) (h_e : 1 ≤ e ∧ e ≤ 4) {R9 : mp_An} : ∀ (n : Nat) (t : Int) (v : Int), ((0 ≤ t ∧ t + (n : Nat) = 8) ∧ 0 ≤ v ∧ v ≤ t) → mp_At (mX11_yesesFrom, 2, 0, 0) (0, 0) 47 [some (Value.ref 1), some (mp_i x), some (mp_i e), some (mp_i (mp_fold (fun k b => if k < s 0 then (fun k n => n + (if 0 ≤ sp_yes (sp_seen (s (1 + 6 * k + 0)) (s (1 + 6 * k + 1)) (s (1 + 6 * k + 2)) (s (1 + 6 * k + 3)) x) e then 1 else 0)) k b else b) n t v)), none, none] [] (A ++ (mp_cs s si sp f fi fp im hd kn wd ak ke cv vo so sz el ++ B)) R9 → mp_At (mX11_yesesFrom, 2, 0, 0) (0, 0) 5 [some (Value.ref 1), some (mp_i x), some (mp_i e), some (mp_i v), some (mp_i t), none] [] (A ++ (mp_cs s si sp f fi fp im hd kn wd ak ke cv vo so sz el ++ B)) R9 := by
  intro n
  induction n with
  | zero =>
    intro t v hi hk
    have hz0 := hs.1
    refine mp_iload dX11_yesesFrom_5 rfl ?_
    refine mp_bipush dX11_yesesFrom_7 rfl ?_
    refine mp_icmp_ge (tgt := 47) dX11_yesesFrom_9 rfl ⟨by omega, by omega⟩ ⟨by omega, by omega⟩ (fun h1 => ?_) (fun h1 => ?_)
    · refine mp_drop (L' := [some (Value.ref 1), some (mp_i x), some (mp_i e), some (mp_i v), none, none]) [true, true, true, true, false, false] rfl ?_
      exact hk
    · exfalso; omega
  | succ n ih =>
    intro t v hi hk
    have hz0 := hs.1
    have hyy := mp_yes_bd (sp_seen (s (1 + 6 * t + 0)) (s (1 + 6 * t + 1)) (s (1 + 6 * t + 2)) (s (1 + 6 * t + 3)) x) e
    refine mp_iload dX11_yesesFrom_5 rfl ?_
    refine mp_bipush dX11_yesesFrom_7 rfl ?_
    refine mp_icmp_ge (tgt := 47) dX11_yesesFrom_9 rfl ⟨by omega, by omega⟩ ⟨by omega, by omega⟩ (fun h1 => ?_) (fun h1 => ?_)
    · exfalso; omega
    · refine mp_aload_n dX11_yesesFrom_12 rfl ?_
      refine mp_getfield dX11_yesesFrom_13 fsX11_10_10 (mp_lkP hA 0 rfl) rfl ?_
      refine mp_iload dX11_yesesFrom_16 rfl ?_
      by_cases hm2 : 0 ≤ t ∧ t < s 0
      · obtain ⟨a2, hf2, hc2⟩ := (mp_Sk.of (σ := A ++ (mp_cs s si sp f fi fp im hd kn wd ak ke cv vo so sz el ++ B)) (mp_skC2 hA) hMt).2.2.2.2.2.2 t hm2.1 hm2.2
        have ht2 := hs.2.1 t hm2.1 hm2.2
        have hl2 := mp_lasts_bd (kind := (s (1 + 6 * t + 0))) (f := (s (1 + 6 * t + 1))) (by omega)
        have hr2 := mp_bright_bd (kind := (s (1 + 6 * t + 0))) (f := (s (1 + 6 * t + 1))) (by omega)
        refine mp_invV (z := (mX6_at, 0, 0, 0)) (K' := (0, 0)) (σ1 := A ++ (mp_cs s si sp f fi fp im hd kn wd ak ke cv vo so sz el ++ B)) (as := [mp_i t]) (st := []) (st1 := [Value.ref a2]) dX11_yesesFrom_18 svX11_93 (mp_Sk.of (σ := A ++ (mp_cs s si sp f fi fp im hd kn wd ak ke cv vo so sz el ++ B)) (mp_skC2 hA) hMt).1 rfl rfl (zX6_at (p := 2) (m := t) (a := a2) (s := s) (f := f) (mp_Sk.of (σ := A ++ (mp_cs s si sp f fi fp im hd kn wd ak ke cv vo so sz el ++ B)) (mp_skC2 hA) hMt) hm2 (by omega) hf2) ⟨Nat.le_of_ble_eq_true rfl, Nat.le_of_ble_eq_true rfl, Nat.le_of_ble_eq_true rfl, Nat.le_of_ble_eq_true rfl, Nat.le_of_ble_eq_true rfl⟩ rfl rfl rfl rfl ?_
        refine mp_astore (L' := [some (Value.ref 1), some (mp_i x), some (mp_i e), some (mp_i v), some (mp_i t), some (Value.ref a2)]) dX11_yesesFrom_21 (by decide) rfl ?_
        refine mp_aload dX11_yesesFrom_23 rfl ?_
        refine mp_ifnull_r dX11_yesesFrom_25 ?_
        refine mp_aload dX11_yesesFrom_28 rfl ?_
        refine mp_iload_n dX11_yesesFrom_30 rfl ?_
        refine mp_iload_n dX11_yesesFrom_31 rfl ?_
        refine mp_inv8 (kd := (s (1 + 6 * t + 0))) (σ1 := A ++ (mp_cs s si sp f fi fp im hd kn wd ak ke cv vo so sz el ++ B)) (as := [mp_i x, mp_i e]) (st := []) (st1 := [mp_i (sp_yF (s (1 + 6 * t + 2)) (s (1 + 6 * t + 3)) (sp_bright (s (1 + 6 * t + 0)) (s (1 + 6 * t + 1))) x e (Int.toNat (sp_lasts (s (1 + 6 * t + 0)) (s (1 + 6 * t + 1)))) 0 0)]) dX11_yesesFrom_32 (by omega) s8X11_203 hc2 (fa_yesFrom (a := a2) (q := x) (e := e) (kd := (s (1 + 6 * t + 0))) (f := (s (1 + 6 * t + 1))) (co := (s (1 + 6 * t + 2))) (sl := (s (1 + 6 * t + 3))) (ni := (s (1 + 6 * t + 4))) (la := (sp_lasts (s (1 + 6 * t + 0)) (s (1 + 6 * t + 1)))) (br := (sp_bright (s (1 + 6 * t + 0)) (s (1 + 6 * t + 1)))) hc2 (by first | with_reducible assumption | omega) (by first | with_reducible assumption | omega) (by first | with_reducible assumption | omega) (by first | with_reducible assumption | omega) (by first | with_reducible assumption | omega) (by first | with_reducible assumption | omega) (by first | with_reducible assumption | omega)) (Nat.le_of_ble_eq_true rfl) ⟨Nat.le_of_ble_eq_true rfl, Nat.le_of_ble_eq_true rfl⟩ (Nat.le_of_ble_eq_true rfl) rfl rfl rfl ?_
        refine mp_top (y := sp_yes (sp_seen (s (1 + 6 * t + 0)) (s (1 + 6 * t + 1)) (s (1 + 6 * t + 2)) (s (1 + 6 * t + 3)) x) e) (sp_yF_yes h_e.1 (hs.2.1 t (by omega) (by omega)).2.1) ?_
        refine mp_if_lt (tgt := 41) dX11_yesesFrom_35 rfl ⟨by omega, by omega⟩ (fun h3 => ?_) (fun h3 => ?_)
        · refine mp_iinc (z := t + 1) (L' := [some (Value.ref 1), some (mp_i x), some (mp_i e), some (mp_i v), some (mp_i (t + 1)), some (Value.ref a2)]) dX11_yesesFrom_41 rfl (rfl) (by decide) rfl ?_
          refine mp_goto (tgt := 5) dX11_yesesFrom_44 rfl ?_
          refine mp_drop (L' := [some (Value.ref 1), some (mp_i x), some (mp_i e), some (mp_i v), some (mp_i (t + 1)), none]) [true, true, true, true, true, false] rfl ?_
          have e9 : (fun k b => if k < s 0 then (fun k n => n + (if 0 ≤ sp_yes (sp_seen (s (1 + 6 * k + 0)) (s (1 + 6 * k + 1)) (s (1 + 6 * k + 2)) (s (1 + 6 * k + 3)) x) e then 1 else 0)) k b else b) t v = v := (if_pos (by omega)).trans (by show v + (if 0 ≤ sp_yes (sp_seen (s (1 + 6 * t + 0)) (s (1 + 6 * t + 1)) (s (1 + 6 * t + 2)) (s (1 + 6 * t + 3)) x) e then 1 else 0) = _; first | rfl | (rw [if_pos (by omega)]; done) | (rw [if_neg (by omega)]; done) | (rw [if_pos (by omega)]; omega) | (rw [if_neg (by omega)]; omega))
          have k9 := ih (t + 1) ((fun k b => if k < s 0 then (fun k n => n + (if 0 ≤ sp_yes (sp_seen (s (1 + 6 * k + 0)) (s (1 + 6 * k + 1)) (s (1 + 6 * k + 2)) (s (1 + 6 * k + 3)) x) e then 1 else 0)) k b else b) t v) (by rw [e9]; omega) hk
          rw [e9] at k9
          exact k9
        · refine mp_iinc (z := v + 1) (L' := [some (Value.ref 1), some (mp_i x), some (mp_i e), some (mp_i (v + 1)), some (mp_i t), some (Value.ref a2)]) dX11_yesesFrom_38 rfl (rfl) (by decide) rfl ?_
          refine mp_iinc (z := t + 1) (L' := [some (Value.ref 1), some (mp_i x), some (mp_i e), some (mp_i (v + 1)), some (mp_i (t + 1)), some (Value.ref a2)]) dX11_yesesFrom_41 rfl (rfl) (by decide) rfl ?_
          refine mp_goto (tgt := 5) dX11_yesesFrom_44 rfl ?_
          refine mp_drop (L' := [some (Value.ref 1), some (mp_i x), some (mp_i e), some (mp_i (v + 1)), some (mp_i (t + 1)), none]) [true, true, true, true, true, false] rfl ?_
          have e9 : (fun k b => if k < s 0 then (fun k n => n + (if 0 ≤ sp_yes (sp_seen (s (1 + 6 * k + 0)) (s (1 + 6 * k + 1)) (s (1 + 6 * k + 2)) (s (1 + 6 * k + 3)) x) e then 1 else 0)) k b else b) t v = v + 1 := (if_pos (by omega)).trans (by show v + (if 0 ≤ sp_yes (sp_seen (s (1 + 6 * t + 0)) (s (1 + 6 * t + 1)) (s (1 + 6 * t + 2)) (s (1 + 6 * t + 3)) x) e then 1 else 0) = _; first | rfl | (rw [if_pos (by omega)]; done) | (rw [if_neg (by omega)]; done) | (rw [if_pos (by omega)]; omega) | (rw [if_neg (by omega)]; omega))
          have k9 := ih (t + 1) ((fun k b => if k < s 0 then (fun k n => n + (if 0 ≤ sp_yes (sp_seen (s (1 + 6 * k + 0)) (s (1 + 6 * k + 1)) (s (1 + 6 * k + 2)) (s (1 + 6 * k + 3)) x) e then 1 else 0)) k b else b) t v) (by rw [e9]; omega) hk
          rw [e9] at k9
          exact k9
      · refine mp_invV (z := (mX6_at, 0, 0, 0)) (K' := (0, 0)) (σ1 := A ++ (mp_cs s si sp f fi fp im hd kn wd ak ke cv vo so sz el ++ B)) (as := [mp_i t]) (st := []) (st1 := [Value.null]) dX11_yesesFrom_18 svX11_93 (mp_Sk.of (σ := A ++ (mp_cs s si sp f fi fp im hd kn wd ak ke cv vo so sz el ++ B)) (mp_skC2 hA) hMt).1 rfl rfl (zX6_atN (p := 2) (m := t) (s := s) (f := f) (mp_Sk.of (σ := A ++ (mp_cs s si sp f fi fp im hd kn wd ak ke cv vo so sz el ++ B)) (mp_skC2 hA) hMt) hm2 (by omega) (by omega)) ⟨Nat.le_of_ble_eq_true rfl, Nat.le_of_ble_eq_true rfl, Nat.le_of_ble_eq_true rfl, Nat.le_of_ble_eq_true rfl, Nat.le_of_ble_eq_true rfl⟩ rfl rfl rfl rfl ?_
        refine mp_astoreN (L' := [some (Value.ref 1), some (mp_i x), some (mp_i e), some (mp_i v), some (mp_i t), some (Value.null)]) dX11_yesesFrom_21 (by decide) rfl ?_
        refine mp_aloadN dX11_yesesFrom_23 rfl ?_
        refine mp_ifnull_n (tgt := 41) dX11_yesesFrom_25 rfl ?_
        refine mp_iinc (z := t + 1) (L' := [some (Value.ref 1), some (mp_i x), some (mp_i e), some (mp_i v), some (mp_i (t + 1)), some (Value.null)]) dX11_yesesFrom_41 rfl (rfl) (by decide) rfl ?_
        refine mp_goto (tgt := 5) dX11_yesesFrom_44 rfl ?_
        refine mp_drop (L' := [some (Value.ref 1), some (mp_i x), some (mp_i e), some (mp_i v), some (mp_i (t + 1)), none]) [true, true, true, true, true, false] rfl ?_
        have e9 : (fun k b => if k < s 0 then (fun k n => n + (if 0 ≤ sp_yes (sp_seen (s (1 + 6 * k + 0)) (s (1 + 6 * k + 1)) (s (1 + 6 * k + 2)) (s (1 + 6 * k + 3)) x) e then 1 else 0)) k b else b) t v = v := if_neg (by omega)
        have k9 := ih (t + 1) ((fun k b => if k < s 0 then (fun k n => n + (if 0 ≤ sp_yes (sp_seen (s (1 + 6 * k + 0)) (s (1 + 6 * k + 1)) (s (1 + 6 * k + 2)) (s (1 + 6 * k + 3)) x) e then 1 else 0)) k b else b) t v) (by rw [e9]; omega) hk
        rw [e9] at k9
        exact k9
theorem zX11_yesesFrom {s si sp : Int → Int} {f fi fp : Nat → Option Nat} {im : Int} {hd : Int → Int} {kn : Nat → Option Nat} {wd ak ke cv vo so sz el : Int → Int} {A B : mp_H}  {x : Int} {e : Int} (hA : A.length = 1) (hs : mp_sky s) (hMt : mp_Mt (A ++ (mp_cs s si sp f fi fp im hd kn wd ak ke cv vo so sz el ++ B)) s f) (h_x : 0 ≤ x ∧ x ≤ 15) (h_e : 1 ≤ e ∧ e ≤ 4) : mp_Call (mX11_yesesFrom, 2, 0, 0) [Value.ref 1, mp_i x, mp_i e] (A ++ (mp_cs s si sp f fi fp im hd kn wd ak ke cv vo so sz el ++ B)) (some (mp_i (mp_fold (fun k n => n + (if 0 ≤ sp_yes (sp_seen (s (1 + 6 * k + 0)) (s (1 + 6 * k + 1)) (s (1 + 6 * k + 2)) (s (1 + 6 * k + 3)) x) e then 1 else 0)) (Int.toNat (s 0)) 0 0)), A ++ (mp_cs s si sp f fi fp im hd kn wd ak ke cv vo so sz el ++ B)) := by
  refine mp_Call.of (L := [some (Value.ref 1), some (mp_i x), some (mp_i e), none, none, none]) pnX11 (Nat.le_of_ble_eq_true rfl) rfl ?_
  have hz0 := hs.1
  refine mp_iconst dX11_yesesFrom_0 ?_
  refine mp_istore_n (L' := [some (Value.ref 1), some (mp_i x), some (mp_i e), some (mp_i 0), none, none]) dX11_yesesFrom_1 rfl (by decide) rfl ?_
  refine mp_iconst dX11_yesesFrom_2 ?_
  refine mp_istore (L' := [some (Value.ref 1), some (mp_i x), some (mp_i e), some (mp_i 0), some (mp_i 0), none]) dX11_yesesFrom_3 (by decide) rfl ?_
  refine lX11_yesesFrom_5 (s := s) (si := si) (sp := sp) (f := f) (fi := fi) (fp := fp) (im := im) (hd := hd) (kn := kn) (wd := wd) (ak := ak) (ke := ke) (cv := cv) (vo := vo) (so := so) (sz := sz) (el := el) (B := B) (x := x) (e := e)  (by first | with_reducible assumption | omega) (by first | with_reducible assumption | omega) (by first | with_reducible assumption | omega) (by first | with_reducible assumption | omega) (by first | with_reducible assumption | omega) 8 0 0 (by omega) ?_
  refine mp_loc (j := 3) (x := mp_fold (fun k b => if k < s 0 then (fun k n => n + (if 0 ≤ sp_yes (sp_seen (s (1 + 6 * k + 0)) (s (1 + 6 * k + 1)) (s (1 + 6 * k + 2)) (s (1 + 6 * k + 3)) x) e then 1 else 0)) k b else b) 8 0 0) (y := mp_fold (fun k n => n + (if 0 ≤ sp_yes (sp_seen (s (1 + 6 * k + 0)) (s (1 + 6 * k + 1)) (s (1 + 6 * k + 2)) (s (1 + 6 * k + 3)) x) e then 1 else 0)) (Int.toNat (s 0)) 0 0) (mp_fold_8 (F := (fun k n => n + (if 0 ≤ sp_yes (sp_seen (s (1 + 6 * k + 0)) (s (1 + 6 * k + 1)) (s (1 + 6 * k + 2)) (s (1 + 6 * k + 3)) x) e then 1 else 0))) hs.1 0) rfl (L' := [some (Value.ref 1), some (mp_i x), some (mp_i e), some (mp_i (mp_fold (fun k n => n + (if 0 ≤ sp_yes (sp_seen (s (1 + 6 * k + 0)) (s (1 + 6 * k + 1)) (s (1 + 6 * k + 2)) (s (1 + 6 * k + 3)) x) e then 1 else 0)) (Int.toNat (s 0)) 0 0)), none, none]) rfl ?_
  refine mp_iload_n dX11_yesesFrom_47 rfl ?_
  exact mp_ireturn (st := []) dX11_yesesFrom_48 rfl ⟨by decide, by decide⟩ ((mp_ans (by first | with_reducible rfl | omega | rfl)))
theorem lX11_bestRoof_26 {s si sp : Int → Int} {f fi fp : Nat → Option Nat} {im : Int} {hd : Int → Int} {kn : Nat → Option Nat} {wd ak ke cv vo so sz el : Int → Int} {A B : mp_H}  {l : Int} {w : Int} (hA : A.length = 1) (hs : mp_sky s) (hMt : mp_Mt (A ++ (mp_cs s si sp f fi fp im hd kn wd ak ke cv vo so sz el ++ B)) s f) (h_l : mp_w l) (h_w : mp_w w) {R9 : mp_An} : ∀ (n : Nat) (x : Int) (p : Int × Int), ((0 ≤ x ∧ x + (n : Nat) = 16) ∧ (-1 ≤ p.2 ∧ p.2 ≤ 8) ∧ (0 ≤ p.1 ∧ p.1 ≤ 15) ∧ (0 ≤ l ∧ l ≤ 4)) → mp_At (mX11_bestRoof, 3, 0, 0) (0, 0) 73 [some (Value.ref 1), some (mp_i l), some (mp_i w), some (mp_i ((mp_fold (sp_bestStep s l) n x p).1)), some (mp_i ((mp_fold (sp_bestStep s l) n x p).2)), none, none] [] (A ++ (mp_cs s si sp f fi fp im hd kn wd ak ke cv vo so sz el ++ B)) R9 → mp_At (mX11_bestRoof, 3, 0, 0) (0, 0) 26 [some (Value.ref 1), some (mp_i l), some (mp_i w), some (mp_i p.1), some (mp_i p.2), some (mp_i x), none] [] (A ++ (mp_cs s si sp f fi fp im hd kn wd ak ke cv vo so sz el ++ B)) R9 := by
  intro n
  induction n with
  | zero =>
    intro x p hi hk
    refine mp_iload dX11_bestRoof_26 rfl ?_
    refine mp_bipush dX11_bestRoof_28 rfl ?_
    refine mp_icmp_ge (tgt := 73) dX11_bestRoof_30 rfl ⟨by omega, by omega⟩ ⟨by omega, by omega⟩ (fun h1 => ?_) (fun h1 => ?_)
    · refine mp_drop (L' := [some (Value.ref 1), some (mp_i l), some (mp_i w), some (mp_i p.1), some (mp_i p.2), none, none]) [true, true, true, true, true, false, false] rfl ?_
      exact hk
    · exfalso; omega
  | succ n ih =>
    intro x p hi hk
    have hl9 := hs.2.2.1 l (by omega) (by omega)
    have hn9 := mp_need_bd (v := s (49 + 3 * l + 1)) (by omega)
    have hbb := mp_best_bd hs l x
    refine mp_iload dX11_bestRoof_26 rfl ?_
    refine mp_bipush dX11_bestRoof_28 rfl ?_
    refine mp_icmp_ge (tgt := 73) dX11_bestRoof_30 rfl ⟨by omega, by omega⟩ ⟨by omega, by omega⟩ (fun h1 => ?_) (fun h1 => ?_)
    · exfalso; omega
    · refine mp_aload_n dX11_bestRoof_33 rfl ?_
      refine mp_iload dX11_bestRoof_34 rfl ?_
      refine mp_aload_n dX11_bestRoof_36 rfl ?_
      refine mp_getfield dX11_bestRoof_37 fsX11_10_10 (mp_lkP hA 0 rfl) rfl ?_
      refine mp_getfield dX11_bestRoof_40 fsX11_130_8 (mp_lkP hA 1 rfl) rfl ?_
      refine mp_iload_n dX11_bestRoof_43 rfl ?_
      refine mp_iald dX11_bestRoof_44 (mp_lkP hA 5 rfl) ⟨by omega, by omega⟩ (by omega) ?_
      refine mp_top (y := s (49 + 3 * l + 1)) (sp_qui_in ⟨by omega, by omega⟩) ?_
      refine mp_invS (z := (mX6_need, 0, 0, 0)) (K' := (0, 0)) (σ1 := A ++ (mp_cs s si sp f fi fp im hd kn wd ak ke cv vo so sz el ++ B)) (as := [mp_i (s (49 + 3 * l + 1))]) (st := [mp_i x, Value.ref 1]) (st1 := [mp_i (sp_need (s (49 + 3 * l + 1))), mp_i x, Value.ref 1]) dX11_bestRoof_45 ssX11_136 (zX6_need (v := (s (49 + 3 * l + 1))) (by first | with_reducible assumption | omega)) ⟨Nat.le_of_ble_eq_true rfl, Nat.le_of_ble_eq_true rfl, Nat.le_of_ble_eq_true rfl, Nat.le_of_ble_eq_true rfl, Nat.le_of_ble_eq_true rfl⟩ rfl rfl rfl rfl ?_
      refine mp_invV (z := (mX11_yesesFrom, 2, 0, 0)) (K' := (0, 0)) (σ1 := A ++ (mp_cs s si sp f fi fp im hd kn wd ak ke cv vo so sz el ++ B)) (as := [mp_i x, mp_i (sp_need (s (49 + 3 * l + 1)))]) (st := []) (st1 := [mp_i (mp_fold (fun k n => n + (if 0 ≤ sp_yes (sp_seen (s (1 + 6 * k + 0)) (s (1 + 6 * k + 1)) (s (1 + 6 * k + 2)) (s (1 + 6 * k + 3)) x) (sp_need (s (49 + 3 * l + 1))) then 1 else 0)) (Int.toNat (s 0)) 0 0)]) dX11_bestRoof_48 svX11_200 (mp_lkP hA 0 rfl) rfl rfl (zX11_yesesFrom (x := x) (e := (sp_need (s (49 + 3 * l + 1)))) (s := s) (si := si) (sp := sp) (f := f) (fi := fi) (fp := fp) (im := im) (hd := hd) (kn := kn) (wd := wd) (ak := ak) (ke := ke) (cv := cv) (vo := vo) (so := so) (sz := sz) (el := el) (B := B) (by first | with_reducible assumption | omega) (by first | with_reducible assumption | omega) (hMt.mono hs.kd mp_stay_cs) (by first | with_reducible assumption | omega) (by first | with_reducible assumption | omega)) ⟨Nat.le_of_ble_eq_true rfl, Nat.le_of_ble_eq_true rfl, Nat.le_of_ble_eq_true rfl, Nat.le_of_ble_eq_true rfl, Nat.le_of_ble_eq_true rfl⟩ rfl rfl rfl rfl ?_
      refine mp_top (y := sp_best s l x) rfl ?_
      refine mp_istore (L' := [some (Value.ref 1), some (mp_i l), some (mp_i w), some (mp_i p.1), some (mp_i p.2), some (mp_i x), some (mp_i (sp_best s l x))]) dX11_bestRoof_51 (by decide) rfl ?_
      refine mp_iload dX11_bestRoof_53 rfl ?_
      refine mp_iload dX11_bestRoof_55 rfl ?_
      refine mp_icmp_le (tgt := 67) dX11_bestRoof_57 rfl ⟨by omega, by omega⟩ ⟨by omega, by omega⟩ (fun h2 => ?_) (fun h2 => ?_)
      · refine mp_iinc (z := x + 1) (L' := [some (Value.ref 1), some (mp_i l), some (mp_i w), some (mp_i p.1), some (mp_i p.2), some (mp_i (x + 1)), some (mp_i (sp_best s l x))]) dX11_bestRoof_67 rfl (rfl) (by decide) rfl ?_
        refine mp_goto (tgt := 26) dX11_bestRoof_70 rfl ?_
        refine mp_drop (L' := [some (Value.ref 1), some (mp_i l), some (mp_i w), some (mp_i p.1), some (mp_i p.2), some (mp_i (x + 1)), none]) [true, true, true, true, true, true, false] rfl ?_
        have e9 : (sp_bestStep s l) x p = p := by unfold sp_bestStep; first | (rw [if_pos (by omega)]; done) | (rw [if_neg (by omega)]; done)
        have k9 := ih (x + 1) ((sp_bestStep s l) x p) (by rw [e9]; first | omega | (dsimp only; omega)) hk
        rw [e9] at k9
        exact k9
      · refine mp_iload dX11_bestRoof_60 rfl ?_
        refine mp_istore_n (L' := [some (Value.ref 1), some (mp_i l), some (mp_i w), some (mp_i x), some (mp_i p.2), some (mp_i x), some (mp_i (sp_best s l x))]) dX11_bestRoof_62 rfl (by decide) rfl ?_
        refine mp_iload dX11_bestRoof_63 rfl ?_
        refine mp_istore (L' := [some (Value.ref 1), some (mp_i l), some (mp_i w), some (mp_i x), some (mp_i (sp_best s l x)), some (mp_i x), some (mp_i (sp_best s l x))]) dX11_bestRoof_65 (by decide) rfl ?_
        refine mp_iinc (z := x + 1) (L' := [some (Value.ref 1), some (mp_i l), some (mp_i w), some (mp_i x), some (mp_i (sp_best s l x)), some (mp_i (x + 1)), some (mp_i (sp_best s l x))]) dX11_bestRoof_67 rfl (rfl) (by decide) rfl ?_
        refine mp_goto (tgt := 26) dX11_bestRoof_70 rfl ?_
        refine mp_drop (L' := [some (Value.ref 1), some (mp_i l), some (mp_i w), some (mp_i x), some (mp_i (sp_best s l x)), some (mp_i (x + 1)), none]) [true, true, true, true, true, true, false] rfl ?_
        have e9 : (sp_bestStep s l) x p = (x, sp_best s l x) := by unfold sp_bestStep; first | (rw [if_pos (by omega)]; done) | (rw [if_neg (by omega)]; done)
        have k9 := ih (x + 1) ((sp_bestStep s l) x p) (by rw [e9]; first | omega | (dsimp only; omega)) hk
        rw [e9] at k9
        exact k9
theorem zX11_bestRoof {s si sp : Int → Int} {f fi fp : Nat → Option Nat} {im : Int} {hd : Int → Int} {kn : Nat → Option Nat} {wd ak ke cv vo so sz el : Int → Int} {A B : mp_H}  {l : Int} {w : Int} (hA : A.length = 1) (hs : mp_sky s) (hMt : mp_Mt (A ++ (mp_cs s si sp f fi fp im hd kn wd ak ke cv vo so sz el ++ B)) s f) (h_l : mp_w l) (h_w : mp_w w) : mp_Call (mX11_bestRoof, 3, 0, 0) [Value.ref 1, mp_i l, mp_i w] (A ++ (mp_cs s si sp f fi fp im hd kn wd ak ke cv vo so sz el ++ B)) (some (mp_i (sp_bestRoof s l w)), A ++ (mp_cs s si sp f fi fp im hd kn wd ak ke cv vo so sz el ++ B)) := by
  refine mp_Call.of (L := [some (Value.ref 1), some (mp_i l), some (mp_i w), none, none, none, none]) pnX11 (Nat.le_of_ble_eq_true rfl) rfl ?_
  have hz0 := hs.1
  refine mp_iload_n dX11_bestRoof_0 rfl ?_
  refine mp_iconst dX11_bestRoof_1 ?_
  refine mp_invS (z := (mX11_isBelow, 0, 0, 0)) (K' := (0, 0)) (σ1 := A ++ (mp_cs s si sp f fi fp im hd kn wd ak ke cv vo so sz el ++ B)) (as := [mp_i l, mp_i 5]) (st := []) (st1 := [mp_i (if 0 ≤ l ∧ l < 5 then 1 else 0)]) dX11_bestRoof_2 ssX11_54 (zX11_isBelow (v := l) (n := 5) (by first | with_reducible assumption | omega) (by first | with_reducible assumption | omega)) ⟨Nat.le_of_ble_eq_true rfl, Nat.le_of_ble_eq_true rfl, Nat.le_of_ble_eq_true rfl, Nat.le_of_ble_eq_true rfl, Nat.le_of_ble_eq_true rfl⟩ rfl rfl rfl rfl ?_
  refine mp_ifb_eq (tgt := 16) dX11_bestRoof_5 rfl (fun h1 => ?_) (fun h1 => ?_)
  · refine mp_iconst dX11_bestRoof_16 ?_
    exact mp_ireturn (st := []) dX11_bestRoof_17 rfl ⟨by decide, by decide⟩ ((mp_ans (by unfold sp_bestRoof; first | (rw [if_pos (by omega)]; done) | (rw [if_neg (by omega)]; done) | (rw [if_neg (by omega), if_pos (by omega)]; done) | (rw [if_neg (by omega), if_neg (by omega)]; done) | (rw [if_neg (by omega), if_neg (by omega), if_pos (by omega)]; done) | (rw [if_neg (by omega), if_neg (by omega), if_neg (by omega)]; done) | (rw [if_neg (by omega), if_neg (by omega), if_neg (by omega), if_pos (by omega)]; done) | (rw [if_neg (by omega), if_neg (by omega), if_neg (by omega), if_neg (by omega)]; done) | (rw [if_neg (by omega), if_neg (by omega), if_neg (by omega), if_neg (by omega), if_pos (by omega)]; done) | (rw [if_neg (by omega), if_neg (by omega), if_neg (by omega), if_neg (by omega), if_neg (by omega)]; done) | (rw [if_neg (by omega), if_neg (by omega), if_neg (by omega), if_neg (by omega), if_neg (by omega), if_pos (by omega)]; done) | (rw [if_neg (by omega), if_neg (by omega), if_neg (by omega), if_neg (by omega), if_neg (by omega), if_neg (by omega)]; done) | (rw [if_neg (by omega), if_neg (by omega), if_neg (by omega), if_neg (by omega), if_neg (by omega), if_neg (by omega), if_pos (by omega)]; done) | (rw [if_neg (by omega), if_neg (by omega), if_neg (by omega), if_neg (by omega), if_neg (by omega), if_neg (by omega), if_neg (by omega)]; done) | (rw [if_neg (by omega)]; omega))))
  · refine mp_iload_n dX11_bestRoof_8 rfl ?_
    refine mp_iconst dX11_bestRoof_9 ?_
    refine mp_invS (z := (mX11_isBelow, 0, 0, 0)) (K' := (0, 0)) (σ1 := A ++ (mp_cs s si sp f fi fp im hd kn wd ak ke cv vo so sz el ++ B)) (as := [mp_i w, mp_i 2]) (st := []) (st1 := [mp_i (if 0 ≤ w ∧ w < 2 then 1 else 0)]) dX11_bestRoof_10 ssX11_54 (zX11_isBelow (v := w) (n := 2) (by first | with_reducible assumption | omega) (by first | with_reducible assumption | omega)) ⟨Nat.le_of_ble_eq_true rfl, Nat.le_of_ble_eq_true rfl, Nat.le_of_ble_eq_true rfl, Nat.le_of_ble_eq_true rfl, Nat.le_of_ble_eq_true rfl⟩ rfl rfl rfl rfl ?_
    refine mp_ifb_ne (tgt := 18) dX11_bestRoof_13 rfl (fun h2 => ?_) (fun h2 => ?_)
    · refine mp_iconst dX11_bestRoof_18 ?_
      refine mp_istore_n (L' := [some (Value.ref 1), some (mp_i l), some (mp_i w), some (mp_i 0), none, none, none]) dX11_bestRoof_19 rfl (by decide) rfl ?_
      refine mp_iconst dX11_bestRoof_20 ?_
      refine mp_istore (L' := [some (Value.ref 1), some (mp_i l), some (mp_i w), some (mp_i 0), some (mp_i (-1)), none, none]) dX11_bestRoof_21 (by decide) rfl ?_
      refine mp_iconst dX11_bestRoof_23 ?_
      refine mp_istore (L' := [some (Value.ref 1), some (mp_i l), some (mp_i w), some (mp_i 0), some (mp_i (-1)), some (mp_i 0), none]) dX11_bestRoof_24 (by decide) rfl ?_
      refine lX11_bestRoof_26 (s := s) (si := si) (sp := sp) (f := f) (fi := fi) (fp := fp) (im := im) (hd := hd) (kn := kn) (wd := wd) (ak := ak) (ke := ke) (cv := cv) (vo := vo) (so := so) (sz := sz) (el := el) (B := B) (l := l) (w := w) hA hs hMt h_l h_w 16 0 (0, -1) (by dsimp only; omega) ?_
      refine mp_iload_n dX11_bestRoof_73 rfl ?_
      refine mp_if_ne (tgt := 81) dX11_bestRoof_74 rfl ⟨by omega, by omega⟩ (fun h3 => ?_) (fun h3 => ?_)
      · refine mp_iload dX11_bestRoof_81 rfl ?_
        exact mp_ireturn (st := []) dX11_bestRoof_83 rfl ⟨by decide, by decide⟩ ((mp_ans (by unfold sp_bestRoof; first | (rw [if_pos (by omega)]; done) | (rw [if_neg (by omega)]; done) | (rw [if_neg (by omega), if_pos (by omega)]; done) | (rw [if_neg (by omega), if_neg (by omega)]; done) | (rw [if_neg (by omega), if_neg (by omega), if_pos (by omega)]; done) | (rw [if_neg (by omega), if_neg (by omega), if_neg (by omega)]; done) | (rw [if_neg (by omega), if_neg (by omega), if_neg (by omega), if_pos (by omega)]; done) | (rw [if_neg (by omega), if_neg (by omega), if_neg (by omega), if_neg (by omega)]; done) | (rw [if_neg (by omega), if_neg (by omega), if_neg (by omega), if_neg (by omega), if_pos (by omega)]; done) | (rw [if_neg (by omega), if_neg (by omega), if_neg (by omega), if_neg (by omega), if_neg (by omega)]; done) | (rw [if_neg (by omega), if_neg (by omega), if_neg (by omega), if_neg (by omega), if_neg (by omega), if_pos (by omega)]; done) | (rw [if_neg (by omega), if_neg (by omega), if_neg (by omega), if_neg (by omega), if_neg (by omega), if_neg (by omega)]; done) | (rw [if_neg (by omega), if_neg (by omega), if_neg (by omega), if_neg (by omega), if_neg (by omega), if_neg (by omega), if_pos (by omega)]; done) | (rw [if_neg (by omega), if_neg (by omega), if_neg (by omega), if_neg (by omega), if_neg (by omega), if_neg (by omega), if_neg (by omega)]; done) | (rw [if_neg (by omega)]; omega))))
      · refine mp_iload_n dX11_bestRoof_77 rfl ?_
        refine mp_goto (tgt := 83) dX11_bestRoof_78 rfl ?_
        exact mp_ireturn (st := []) dX11_bestRoof_83 rfl ⟨by decide, by decide⟩ ((mp_ans (by unfold sp_bestRoof; first | (rw [if_pos (by omega)]; done) | (rw [if_neg (by omega)]; done) | (rw [if_neg (by omega), if_pos (by omega)]; done) | (rw [if_neg (by omega), if_neg (by omega)]; done) | (rw [if_neg (by omega), if_neg (by omega), if_pos (by omega)]; done) | (rw [if_neg (by omega), if_neg (by omega), if_neg (by omega)]; done) | (rw [if_neg (by omega), if_neg (by omega), if_neg (by omega), if_pos (by omega)]; done) | (rw [if_neg (by omega), if_neg (by omega), if_neg (by omega), if_neg (by omega)]; done) | (rw [if_neg (by omega), if_neg (by omega), if_neg (by omega), if_neg (by omega), if_pos (by omega)]; done) | (rw [if_neg (by omega), if_neg (by omega), if_neg (by omega), if_neg (by omega), if_neg (by omega)]; done) | (rw [if_neg (by omega), if_neg (by omega), if_neg (by omega), if_neg (by omega), if_neg (by omega), if_pos (by omega)]; done) | (rw [if_neg (by omega), if_neg (by omega), if_neg (by omega), if_neg (by omega), if_neg (by omega), if_neg (by omega)]; done) | (rw [if_neg (by omega), if_neg (by omega), if_neg (by omega), if_neg (by omega), if_neg (by omega), if_neg (by omega), if_pos (by omega)]; done) | (rw [if_neg (by omega), if_neg (by omega), if_neg (by omega), if_neg (by omega), if_neg (by omega), if_neg (by omega), if_neg (by omega)]; done) | (rw [if_neg (by omega)]; omega))))
    · refine mp_iconst dX11_bestRoof_16 ?_
      exact mp_ireturn (st := []) dX11_bestRoof_17 rfl ⟨by decide, by decide⟩ ((mp_ans (by unfold sp_bestRoof; first | (rw [if_pos (by omega)]; done) | (rw [if_neg (by omega)]; done) | (rw [if_neg (by omega), if_pos (by omega)]; done) | (rw [if_neg (by omega), if_neg (by omega)]; done) | (rw [if_neg (by omega), if_neg (by omega), if_pos (by omega)]; done) | (rw [if_neg (by omega), if_neg (by omega), if_neg (by omega)]; done) | (rw [if_neg (by omega), if_neg (by omega), if_neg (by omega), if_pos (by omega)]; done) | (rw [if_neg (by omega), if_neg (by omega), if_neg (by omega), if_neg (by omega)]; done) | (rw [if_neg (by omega), if_neg (by omega), if_neg (by omega), if_neg (by omega), if_pos (by omega)]; done) | (rw [if_neg (by omega), if_neg (by omega), if_neg (by omega), if_neg (by omega), if_neg (by omega)]; done) | (rw [if_neg (by omega), if_neg (by omega), if_neg (by omega), if_neg (by omega), if_neg (by omega), if_pos (by omega)]; done) | (rw [if_neg (by omega), if_neg (by omega), if_neg (by omega), if_neg (by omega), if_neg (by omega), if_neg (by omega)]; done) | (rw [if_neg (by omega), if_neg (by omega), if_neg (by omega), if_neg (by omega), if_neg (by omega), if_neg (by omega), if_pos (by omega)]; done) | (rw [if_neg (by omega), if_neg (by omega), if_neg (by omega), if_neg (by omega), if_neg (by omega), if_neg (by omega), if_neg (by omega)]; done) | (rw [if_neg (by omega)]; omega))))
theorem lX11_seenFromColumn_4 {s si sp : Int → Int} {f fi fp : Nat → Option Nat} {im : Int} {hd : Int → Int} {kn : Nat → Option Nat} {wd ak ke cv vo so sz el : Int → Int} {A B : mp_H}  {x : Int} (hA : A.length = 1) (hs : mp_sky s) (hMt : mp_Mt (A ++ (mp_cs s si sp f fi fp im hd kn wd ak ke cv vo so sz el ++ B)) s f) (h_x : 0 ≤ x ∧ x ≤ 15) {R9 : mp_An} : ∀ (n : Nat) (t : Int) (v : Int), ((0 ≤ t ∧ t + (n : Nat) = 8) ∧ 0 ≤ v ∧ v < 256) → mp_At (mX11_seenFromColumn, 2, 0, 0) (0, 0) 51 [some (Value.ref 1), some (mp_i x), some (mp_i (mp_fold (fun k b => if k < s 0 then (sp_ofStep s x) k b else b) n t v)), none, none] [] (A ++ (mp_cs s si sp f fi fp im hd kn wd ak ke cv vo so sz el ++ B)) R9 → mp_At (mX11_seenFromColumn, 2, 0, 0) (0, 0) 4 [some (Value.ref 1), some (mp_i x), some (mp_i v), some (mp_i t), none] [] (A ++ (mp_cs s si sp f fi fp im hd kn wd ak ke cv vo so sz el ++ B)) R9 := by
  intro n
  induction n with
  | zero =>
    intro t v hi hk
    have hz0 := hs.1
    refine mp_iload_n dX11_seenFromColumn_4 rfl ?_
    refine mp_bipush dX11_seenFromColumn_5 rfl ?_
    refine mp_icmp_ge (tgt := 51) dX11_seenFromColumn_7 rfl ⟨by omega, by omega⟩ ⟨by omega, by omega⟩ (fun h1 => ?_) (fun h1 => ?_)
    · refine mp_drop (L' := [some (Value.ref 1), some (mp_i x), some (mp_i v), none, none]) [true, true, true, false, false] rfl ?_
      exact hk
    · exfalso; omega
  | succ n ih =>
    intro t v hi hk
    have hz0 := hs.1
    have hbt := mp_bit_256 (k := t) (by omega)
    have hbn := mp_bit_nn t
    have hov := mp_or_256 (a := v) (b := mp_bit t) (by omega) (by omega)
    have hon := mp_or_nn v (mp_bit t)
    refine mp_iload_n dX11_seenFromColumn_4 rfl ?_
    refine mp_bipush dX11_seenFromColumn_5 rfl ?_
    refine mp_icmp_ge (tgt := 51) dX11_seenFromColumn_7 rfl ⟨by omega, by omega⟩ ⟨by omega, by omega⟩ (fun h1 => ?_) (fun h1 => ?_)
    · exfalso; omega
    · refine mp_aload_n dX11_seenFromColumn_10 rfl ?_
      refine mp_getfield dX11_seenFromColumn_11 fsX11_10_10 (mp_lkP hA 0 rfl) rfl ?_
      refine mp_iload_n dX11_seenFromColumn_14 rfl ?_
      by_cases hm2 : 0 ≤ t ∧ t < s 0
      · obtain ⟨a2, hf2, hc2⟩ := (mp_Sk.of (σ := A ++ (mp_cs s si sp f fi fp im hd kn wd ak ke cv vo so sz el ++ B)) (mp_skC2 hA) hMt).2.2.2.2.2.2 t hm2.1 hm2.2
        have ht2 := hs.2.1 t hm2.1 hm2.2
        have hl2 := mp_lasts_bd (kind := (s (1 + 6 * t + 0))) (f := (s (1 + 6 * t + 1))) (by omega)
        have hr2 := mp_bright_bd (kind := (s (1 + 6 * t + 0))) (f := (s (1 + 6 * t + 1))) (by omega)
        refine mp_invV (z := (mX6_at, 0, 0, 0)) (K' := (0, 0)) (σ1 := A ++ (mp_cs s si sp f fi fp im hd kn wd ak ke cv vo so sz el ++ B)) (as := [mp_i t]) (st := []) (st1 := [Value.ref a2]) dX11_seenFromColumn_15 svX11_93 (mp_Sk.of (σ := A ++ (mp_cs s si sp f fi fp im hd kn wd ak ke cv vo so sz el ++ B)) (mp_skC2 hA) hMt).1 rfl rfl (zX6_at (p := 2) (m := t) (a := a2) (s := s) (f := f) (mp_Sk.of (σ := A ++ (mp_cs s si sp f fi fp im hd kn wd ak ke cv vo so sz el ++ B)) (mp_skC2 hA) hMt) hm2 (by omega) hf2) ⟨Nat.le_of_ble_eq_true rfl, Nat.le_of_ble_eq_true rfl, Nat.le_of_ble_eq_true rfl, Nat.le_of_ble_eq_true rfl, Nat.le_of_ble_eq_true rfl⟩ rfl rfl rfl rfl ?_
        refine mp_astore (L' := [some (Value.ref 1), some (mp_i x), some (mp_i v), some (mp_i t), some (Value.ref a2)]) dX11_seenFromColumn_18 (by decide) rfl ?_
        refine mp_aload dX11_seenFromColumn_20 rfl ?_
        refine mp_ifnull_r dX11_seenFromColumn_22 ?_
        refine mp_aload dX11_seenFromColumn_25 rfl ?_
        refine mp_iload_n dX11_seenFromColumn_27 rfl ?_
        refine mp_aload dX11_seenFromColumn_28 rfl ?_
        refine mp_getfield dX11_seenFromColumn_30 (fsX11_102 (by omega)) hc2 rfl ?_
        refine mp_inv8 (kd := (s (1 + 6 * t + 0))) (σ1 := A ++ (mp_cs s si sp f fi fp im hd kn wd ak ke cv vo so sz el ++ B)) (as := [mp_i x, mp_i (s (1 + 6 * t + 2))]) (st := []) (st1 := [mp_i (mp_fold (sp_seenStep (s (1 + 6 * t + 2)) (s (1 + 6 * t + 3)) (sp_bright (s (1 + 6 * t + 0)) (s (1 + 6 * t + 1))) x) (Int.toNat (sp_lasts (s (1 + 6 * t + 0)) (s (1 + 6 * t + 1)))) 0 0)]) dX11_seenFromColumn_33 (by omega) s8X11_168 hc2 (fa_seenFrom (a := a2) (q := x) (x := (s (1 + 6 * t + 2))) (kd := (s (1 + 6 * t + 0))) (f := (s (1 + 6 * t + 1))) (co := (s (1 + 6 * t + 2))) (sl := (s (1 + 6 * t + 3))) (ni := (s (1 + 6 * t + 4))) (la := (sp_lasts (s (1 + 6 * t + 0)) (s (1 + 6 * t + 1)))) (br := (sp_bright (s (1 + 6 * t + 0)) (s (1 + 6 * t + 1)))) hc2 (by first | with_reducible assumption | omega) (by first | with_reducible assumption | omega) (by first | with_reducible assumption | omega) (by first | with_reducible assumption | omega) (by first | with_reducible assumption | omega) (by first | with_reducible assumption | omega)) (Nat.le_of_ble_eq_true rfl) ⟨Nat.le_of_ble_eq_true rfl, Nat.le_of_ble_eq_true rfl⟩ (Nat.le_of_ble_eq_true rfl) rfl rfl rfl ?_
        refine mp_top (y := sp_seen (s (1 + 6 * t + 0)) (s (1 + 6 * t + 1)) (s (1 + 6 * t + 2)) (s (1 + 6 * t + 3)) x) (rfl) ?_
        have hs9 := mp_seen_bd (kind := s (1 + 6 * t + 0)) (f := s (1 + 6 * t + 1)) (col := s (1 + 6 * t + 2)) (slope := s (1 + 6 * t + 3)) (roof := x) (by omega)
        refine mp_if_eq (tgt := 45) dX11_seenFromColumn_36 rfl ⟨by omega, by omega⟩ (fun h3 => ?_) (fun h3 => ?_)
        · refine mp_iinc (z := t + 1) (L' := [some (Value.ref 1), some (mp_i x), some (mp_i v), some (mp_i (t + 1)), some (Value.ref a2)]) dX11_seenFromColumn_45 rfl (rfl) (by decide) rfl ?_
          refine mp_goto (tgt := 4) dX11_seenFromColumn_48 rfl ?_
          refine mp_drop (L' := [some (Value.ref 1), some (mp_i x), some (mp_i v), some (mp_i (t + 1)), none]) [true, true, true, true, false] rfl ?_
          have e9 : (fun k b => if k < s 0 then (sp_ofStep s x) k b else b) t v = v := (if_pos (by omega)).trans (by show (if sp_seen (s (1 + 6 * t + 0)) (s (1 + 6 * t + 1)) (s (1 + 6 * t + 2)) (s (1 + 6 * t + 3)) x = 0 then v else mp_or v (mp_bit t)) = _; first | rfl | (rw [if_pos (by omega)]; done) | (rw [if_neg (by omega)]; done) | (rw [if_pos (by omega)]; omega) | (rw [if_neg (by omega)]; omega))
          have k9 := ih (t + 1) ((fun k b => if k < s 0 then (sp_ofStep s x) k b else b) t v) (by rw [e9]; omega) hk
          rw [e9] at k9
          exact k9
        · refine mp_iload_n dX11_seenFromColumn_39 rfl ?_
          refine mp_iconst dX11_seenFromColumn_40 ?_
          refine mp_iload_n dX11_seenFromColumn_41 rfl ?_
          refine mp_ishl (z := mp_bit t) dX11_seenFromColumn_42 (mp_z_bit ⟨by omega, by omega⟩) ?_
          refine mp_ior (z := mp_or v (mp_bit t)) dX11_seenFromColumn_43 (mp_z_or (by first | omega | exact mp_bit_nn _ | exact mp_or_nn _ _ | exact mp_and_nn _ _ | exact mp_shr_nn _ _) (by first | omega | exact mp_bit_nn _ | exact mp_or_nn _ _ | exact mp_and_nn _ _ | exact mp_shr_nn _ _)) ?_
          refine mp_istore_n (L' := [some (Value.ref 1), some (mp_i x), some (mp_i (mp_or v (mp_bit t))), some (mp_i t), some (Value.ref a2)]) dX11_seenFromColumn_44 rfl (by decide) rfl ?_
          refine mp_iinc (z := t + 1) (L' := [some (Value.ref 1), some (mp_i x), some (mp_i (mp_or v (mp_bit t))), some (mp_i (t + 1)), some (Value.ref a2)]) dX11_seenFromColumn_45 rfl (rfl) (by decide) rfl ?_
          refine mp_goto (tgt := 4) dX11_seenFromColumn_48 rfl ?_
          refine mp_drop (L' := [some (Value.ref 1), some (mp_i x), some (mp_i (mp_or v (mp_bit t))), some (mp_i (t + 1)), none]) [true, true, true, true, false] rfl ?_
          have e9 : (fun k b => if k < s 0 then (sp_ofStep s x) k b else b) t v = mp_or v (mp_bit t) := (if_pos (by omega)).trans (by show (if sp_seen (s (1 + 6 * t + 0)) (s (1 + 6 * t + 1)) (s (1 + 6 * t + 2)) (s (1 + 6 * t + 3)) x = 0 then v else mp_or v (mp_bit t)) = _; first | rfl | (rw [if_pos (by omega)]; done) | (rw [if_neg (by omega)]; done) | (rw [if_pos (by omega)]; omega) | (rw [if_neg (by omega)]; omega))
          have k9 := ih (t + 1) ((fun k b => if k < s 0 then (sp_ofStep s x) k b else b) t v) (by rw [e9]; omega) hk
          rw [e9] at k9
          exact k9
      · refine mp_invV (z := (mX6_at, 0, 0, 0)) (K' := (0, 0)) (σ1 := A ++ (mp_cs s si sp f fi fp im hd kn wd ak ke cv vo so sz el ++ B)) (as := [mp_i t]) (st := []) (st1 := [Value.null]) dX11_seenFromColumn_15 svX11_93 (mp_Sk.of (σ := A ++ (mp_cs s si sp f fi fp im hd kn wd ak ke cv vo so sz el ++ B)) (mp_skC2 hA) hMt).1 rfl rfl (zX6_atN (p := 2) (m := t) (s := s) (f := f) (mp_Sk.of (σ := A ++ (mp_cs s si sp f fi fp im hd kn wd ak ke cv vo so sz el ++ B)) (mp_skC2 hA) hMt) hm2 (by omega) (by omega)) ⟨Nat.le_of_ble_eq_true rfl, Nat.le_of_ble_eq_true rfl, Nat.le_of_ble_eq_true rfl, Nat.le_of_ble_eq_true rfl, Nat.le_of_ble_eq_true rfl⟩ rfl rfl rfl rfl ?_
        refine mp_astoreN (L' := [some (Value.ref 1), some (mp_i x), some (mp_i v), some (mp_i t), some (Value.null)]) dX11_seenFromColumn_18 (by decide) rfl ?_
        refine mp_aloadN dX11_seenFromColumn_20 rfl ?_
        refine mp_ifnull_n (tgt := 45) dX11_seenFromColumn_22 rfl ?_
        refine mp_iinc (z := t + 1) (L' := [some (Value.ref 1), some (mp_i x), some (mp_i v), some (mp_i (t + 1)), some (Value.null)]) dX11_seenFromColumn_45 rfl (rfl) (by decide) rfl ?_
        refine mp_goto (tgt := 4) dX11_seenFromColumn_48 rfl ?_
        refine mp_drop (L' := [some (Value.ref 1), some (mp_i x), some (mp_i v), some (mp_i (t + 1)), none]) [true, true, true, true, false] rfl ?_
        have e9 : (fun k b => if k < s 0 then (sp_ofStep s x) k b else b) t v = v := if_neg (by omega)
        have k9 := ih (t + 1) ((fun k b => if k < s 0 then (sp_ofStep s x) k b else b) t v) (by rw [e9]; omega) hk
        rw [e9] at k9
        exact k9
theorem zX11_seenFromColumn {s si sp : Int → Int} {f fi fp : Nat → Option Nat} {im : Int} {hd : Int → Int} {kn : Nat → Option Nat} {wd ak ke cv vo so sz el : Int → Int} {A B : mp_H}  {x : Int} (hA : A.length = 1) (hs : mp_sky s) (hMt : mp_Mt (A ++ (mp_cs s si sp f fi fp im hd kn wd ak ke cv vo so sz el ++ B)) s f) (h_x : 0 ≤ x ∧ x ≤ 15) : mp_Call (mX11_seenFromColumn, 2, 0, 0) [Value.ref 1, mp_i x] (A ++ (mp_cs s si sp f fi fp im hd kn wd ak ke cv vo so sz el ++ B)) (some (mp_i (sp_seenOf s x)), A ++ (mp_cs s si sp f fi fp im hd kn wd ak ke cv vo so sz el ++ B)) := by
  refine mp_Call.of (L := [some (Value.ref 1), some (mp_i x), none, none, none]) pnX11 (Nat.le_of_ble_eq_true rfl) rfl ?_
  have hz0 := hs.1
  refine mp_iconst dX11_seenFromColumn_0 ?_
  refine mp_istore_n (L' := [some (Value.ref 1), some (mp_i x), some (mp_i 0), none, none]) dX11_seenFromColumn_1 rfl (by decide) rfl ?_
  refine mp_iconst dX11_seenFromColumn_2 ?_
  refine mp_istore_n (L' := [some (Value.ref 1), some (mp_i x), some (mp_i 0), some (mp_i 0), none]) dX11_seenFromColumn_3 rfl (by decide) rfl ?_
  refine lX11_seenFromColumn_4 (s := s) (si := si) (sp := sp) (f := f) (fi := fi) (fp := fp) (im := im) (hd := hd) (kn := kn) (wd := wd) (ak := ak) (ke := ke) (cv := cv) (vo := vo) (so := so) (sz := sz) (el := el) (B := B) (x := x)  (by first | with_reducible assumption | omega) (by first | with_reducible assumption | omega) (by first | with_reducible assumption | omega) (by first | with_reducible assumption | omega) 8 0 0 (by omega) ?_
  refine mp_loc (j := 2) (x := mp_fold (fun k b => if k < s 0 then (sp_ofStep s x) k b else b) 8 0 0) (y := sp_seenOf s x) (mp_fold_8 (F := (sp_ofStep s x)) hs.1 0) rfl (L' := [some (Value.ref 1), some (mp_i x), some (mp_i (sp_seenOf s x)), none, none]) rfl ?_
  refine mp_iload_n dX11_seenFromColumn_51 rfl ?_
  exact mp_ireturn (st := []) dX11_seenFromColumn_52 rfl ⟨by decide, by decide⟩ ((mp_ans (by first | with_reducible rfl | omega | rfl)))
theorem sp_comesN_s {s : Int → Int} {k t : Int} {n : Nat} : sp_comesN s k (n + 1) t = if sp_thereP s k t then t else sp_comesN s k n (t + 1) := rfl
theorem sp_togetherN_s {s : Int → Int} {k m t : Int} {n : Nat} : sp_togetherN s k m (n + 1) t = if sp_thereP s k t ∧ sp_thereP s m t then t else sp_togetherN s k m n (t + 1) := rfl
theorem lX11_comes_28 {s si sp : Int → Int} {f fi fp : Nat → Option Nat} {im : Int} {hd : Int → Int} {kn : Nat → Option Nat} {wd ak ke cv vo so sz el : Int → Int} {A B : mp_H}  {m : Int} {v : Int} {a : Nat} (hA : A.length = 1) (hs : mp_sky s) (hMt : mp_Mt (A ++ (mp_cs s si sp f fi fp im hd kn wd ak ke cv vo so sz el ++ B)) s f) (h_m : mp_w m) (h_v : mp_w v) (hm : 0 ≤ m ∧ m < s 0) (hca : (A ++ (mp_cs s si sp f fi fp im hd kn wd ak ke cv vo so sz el ++ B))[a]? = some (mp_mc s m)) {R9 : mp_An} : ∀ (n : Nat) (t : Int), (0 ≤ t ∧ t + (n : Nat) = 366) → R9 = (some (mp_i (sp_comesN s m n t)), A ++ (mp_cs s si sp f fi fp im hd kn wd ak ke cv vo so sz el ++ B)) → mp_At (mX11_comes, 3, 0, 0) (0, 0) 28 [some (Value.ref 1), some (mp_i m), some (mp_i v), some (Value.ref a), some (mp_i t)] [] (A ++ (mp_cs s si sp f fi fp im hd kn wd ak ke cv vo so sz el ++ B)) R9 := by
  intro n
  induction n with
  | zero =>
    intro t hi hR
    refine mp_iload dX11_comes_28 rfl ?_
    refine mp_sipush dX11_comes_30 rfl ?_
    refine mp_icmp_ge (tgt := 54) dX11_comes_33 rfl ⟨by omega, by omega⟩ ⟨by omega, by omega⟩ (fun h1 => ?_) (fun h1 => ?_)
    · refine mp_bipush dX11_comes_54 rfl ?_
      exact mp_ireturn (st := []) dX11_comes_56 rfl ⟨by decide, by decide⟩ (hR.trans (mp_ans rfl))
    · exfalso; omega
  | succ n ih =>
    intro t hi hR
    have hz0 := hs.1
    have ht0 := hs.2.1 m (by omega) (by omega)
    refine mp_iload dX11_comes_28 rfl ?_
    refine mp_sipush dX11_comes_30 rfl ?_
    refine mp_icmp_ge (tgt := 54) dX11_comes_33 rfl ⟨by omega, by omega⟩ ⟨by omega, by omega⟩ (fun h1 => ?_) (fun h1 => ?_)
    · exfalso; omega
    · refine mp_aload_n dX11_comes_36 rfl ?_
      refine mp_iload dX11_comes_37 rfl ?_
      refine mp_inv8 (kd := (s (1 + 6 * m + 0))) (σ1 := A ++ (mp_cs s si sp f fi fp im hd kn wd ak ke cv vo so sz el ++ B)) (as := [mp_i t]) (st := []) (st1 := [mp_i (if 0 ≤ t - (s (1 + 6 * m + 4)) ∧ (t - (s (1 + 6 * m + 4))) % sp_period (s (1 + 6 * m + 0)) (s (1 + 6 * m + 1)) = 0 then 1 else 0)]) dX11_comes_39 (by omega) s8X11_259 hca (fa_isThereOn (a := a) (t := t) (kd := (s (1 + 6 * m + 0))) (f := (s (1 + 6 * m + 1))) (co := (s (1 + 6 * m + 2))) (sl := (s (1 + 6 * m + 3))) (ni := (s (1 + 6 * m + 4))) (la := (sp_lasts (s (1 + 6 * m + 0)) (s (1 + 6 * m + 1)))) (br := (sp_bright (s (1 + 6 * m + 0)) (s (1 + 6 * m + 1)))) hca (by first | with_reducible assumption | omega) (by first | with_reducible assumption | omega) (by first | with_reducible assumption | omega) (by first | with_reducible assumption | omega)) (Nat.le_of_ble_eq_true rfl) ⟨Nat.le_of_ble_eq_true rfl, Nat.le_of_ble_eq_true rfl⟩ (Nat.le_of_ble_eq_true rfl) rfl rfl rfl ?_
      refine mp_ifb_eq (tgt := 48) dX11_comes_42 rfl (fun h2 => ?_) (fun h2 => ?_)
      · refine mp_iinc (z := t + 1) (L' := [some (Value.ref 1), some (mp_i m), some (mp_i v), some (Value.ref a), some (mp_i (t + 1))]) dX11_comes_48 rfl (rfl) (by decide) rfl ?_
        refine mp_goto (tgt := 28) dX11_comes_51 rfl ?_
        exact ih (t + 1) (by omega) (hR.trans (by rw [sp_comesN_s, if_neg (by first | assumption | omega)]))
      · refine mp_iload dX11_comes_45 rfl ?_
        exact mp_ireturn (st := []) dX11_comes_47 rfl ⟨by decide, by decide⟩ (hR.trans (mp_ans (by rw [sp_comesN_s, if_pos (by first | assumption | omega)])))
theorem zX11_comes {s si sp : Int → Int} {f fi fp : Nat → Option Nat} {im : Int} {hd : Int → Int} {kn : Nat → Option Nat} {wd ak ke cv vo so sz el : Int → Int} {A B : mp_H}  {m : Int} {v : Int} (hA : A.length = 1) (hs : mp_sky s) (hMt : mp_Mt (A ++ (mp_cs s si sp f fi fp im hd kn wd ak ke cv vo so sz el ++ B)) s f) (h_m : mp_w m) (h_v : mp_w v) : mp_Call (mX11_comes, 3, 0, 0) [Value.ref 1, mp_i m, mp_i v] (A ++ (mp_cs s si sp f fi fp im hd kn wd ak ke cv vo so sz el ++ B)) (some (mp_i (sp_comes s m v)), A ++ (mp_cs s si sp f fi fp im hd kn wd ak ke cv vo so sz el ++ B)) := by
  refine mp_Call.of (L := [some (Value.ref 1), some (mp_i m), some (mp_i v), none, none]) pnX11 (Nat.le_of_ble_eq_true rfl) rfl ?_
  have hz0 := hs.1
  refine mp_aload_n dX11_comes_0 rfl ?_
  refine mp_getfield dX11_comes_1 fsX11_10_10 (mp_lkP hA 0 rfl) rfl ?_
  refine mp_iload_n dX11_comes_4 rfl ?_
  by_cases hm1 : 0 ≤ m ∧ m < s 0
  · obtain ⟨a1, hf1, hc1⟩ := (mp_Sk.of (σ := A ++ (mp_cs s si sp f fi fp im hd kn wd ak ke cv vo so sz el ++ B)) (mp_skC2 hA) hMt).2.2.2.2.2.2 m hm1.1 hm1.2
    have ht1 := hs.2.1 m hm1.1 hm1.2
    have hl1 := mp_lasts_bd (kind := (s (1 + 6 * m + 0))) (f := (s (1 + 6 * m + 1))) (by omega)
    have hr1 := mp_bright_bd (kind := (s (1 + 6 * m + 0))) (f := (s (1 + 6 * m + 1))) (by omega)
    refine mp_invV (z := (mX6_at, 0, 0, 0)) (K' := (0, 0)) (σ1 := A ++ (mp_cs s si sp f fi fp im hd kn wd ak ke cv vo so sz el ++ B)) (as := [mp_i m]) (st := []) (st1 := [Value.ref a1]) dX11_comes_5 svX11_93 (mp_Sk.of (σ := A ++ (mp_cs s si sp f fi fp im hd kn wd ak ke cv vo so sz el ++ B)) (mp_skC2 hA) hMt).1 rfl rfl (zX6_at (p := 2) (m := m) (a := a1) (s := s) (f := f) (mp_Sk.of (σ := A ++ (mp_cs s si sp f fi fp im hd kn wd ak ke cv vo so sz el ++ B)) (mp_skC2 hA) hMt) hm1 (by omega) hf1) ⟨Nat.le_of_ble_eq_true rfl, Nat.le_of_ble_eq_true rfl, Nat.le_of_ble_eq_true rfl, Nat.le_of_ble_eq_true rfl, Nat.le_of_ble_eq_true rfl⟩ rfl rfl rfl rfl ?_
    refine mp_astore_n (L' := [some (Value.ref 1), some (mp_i m), some (mp_i v), some (Value.ref a1), none]) dX11_comes_8 rfl (by decide) rfl ?_
    refine mp_aload_n dX11_comes_9 rfl ?_
    refine mp_ifnull_r dX11_comes_10 ?_
    refine mp_iload_n dX11_comes_13 rfl ?_
    refine mp_sipush dX11_comes_14 rfl ?_
    refine mp_invS (z := (mX11_isBelow, 0, 0, 0)) (K' := (0, 0)) (σ1 := A ++ (mp_cs s si sp f fi fp im hd kn wd ak ke cv vo so sz el ++ B)) (as := [mp_i v, mp_i 366]) (st := []) (st1 := [mp_i (if 0 ≤ v ∧ v < 366 then 1 else 0)]) dX11_comes_17 ssX11_54 (zX11_isBelow (v := v) (n := 366) (by first | with_reducible assumption | omega) (by first | with_reducible assumption | omega)) ⟨Nat.le_of_ble_eq_true rfl, Nat.le_of_ble_eq_true rfl, Nat.le_of_ble_eq_true rfl, Nat.le_of_ble_eq_true rfl, Nat.le_of_ble_eq_true rfl⟩ rfl rfl rfl rfl ?_
    refine mp_ifb_ne (tgt := 25) dX11_comes_20 rfl (fun h2 => ?_) (fun h2 => ?_)
    · refine mp_iload_n dX11_comes_25 rfl ?_
      refine mp_istore (L' := [some (Value.ref 1), some (mp_i m), some (mp_i v), some (Value.ref a1), some (mp_i v)]) dX11_comes_26 (by decide) rfl ?_
      exact lX11_comes_28 (s := s) (f := f) (m := m) (v := v) (a := a1) hA hs hMt h_m h_v hm1 hc1 (Int.toNat (366 - v)) v (by omega) (by unfold sp_comes; rw [if_neg (by omega)])
    · refine mp_iconst dX11_comes_23 ?_
      exact mp_ireturn (st := []) dX11_comes_24 rfl ⟨by decide, by decide⟩ ((mp_ans (by unfold sp_comes; first | (rw [if_pos (by omega)]; done) | (rw [if_neg (by omega)]; done) | (rw [if_neg (by omega), if_pos (by omega)]; done) | (rw [if_neg (by omega), if_neg (by omega)]; done) | (rw [if_neg (by omega), if_neg (by omega), if_pos (by omega)]; done) | (rw [if_neg (by omega), if_neg (by omega), if_neg (by omega)]; done) | (rw [if_neg (by omega), if_neg (by omega), if_neg (by omega), if_pos (by omega)]; done) | (rw [if_neg (by omega), if_neg (by omega), if_neg (by omega), if_neg (by omega)]; done) | (rw [if_neg (by omega), if_neg (by omega), if_neg (by omega), if_neg (by omega), if_pos (by omega)]; done) | (rw [if_neg (by omega), if_neg (by omega), if_neg (by omega), if_neg (by omega), if_neg (by omega)]; done) | (rw [if_neg (by omega), if_neg (by omega), if_neg (by omega), if_neg (by omega), if_neg (by omega), if_pos (by omega)]; done) | (rw [if_neg (by omega), if_neg (by omega), if_neg (by omega), if_neg (by omega), if_neg (by omega), if_neg (by omega)]; done) | (rw [if_neg (by omega), if_neg (by omega), if_neg (by omega), if_neg (by omega), if_neg (by omega), if_neg (by omega), if_pos (by omega)]; done) | (rw [if_neg (by omega), if_neg (by omega), if_neg (by omega), if_neg (by omega), if_neg (by omega), if_neg (by omega), if_neg (by omega)]; done) | (rw [if_neg (by omega)]; omega))))
  · refine mp_invV (z := (mX6_at, 0, 0, 0)) (K' := (0, 0)) (σ1 := A ++ (mp_cs s si sp f fi fp im hd kn wd ak ke cv vo so sz el ++ B)) (as := [mp_i m]) (st := []) (st1 := [Value.null]) dX11_comes_5 svX11_93 (mp_Sk.of (σ := A ++ (mp_cs s si sp f fi fp im hd kn wd ak ke cv vo so sz el ++ B)) (mp_skC2 hA) hMt).1 rfl rfl (zX6_atN (p := 2) (m := m) (s := s) (f := f) (mp_Sk.of (σ := A ++ (mp_cs s si sp f fi fp im hd kn wd ak ke cv vo so sz el ++ B)) (mp_skC2 hA) hMt) hm1 (by omega) (by omega)) ⟨Nat.le_of_ble_eq_true rfl, Nat.le_of_ble_eq_true rfl, Nat.le_of_ble_eq_true rfl, Nat.le_of_ble_eq_true rfl, Nat.le_of_ble_eq_true rfl⟩ rfl rfl rfl rfl ?_
    refine mp_astore_nN (L' := [some (Value.ref 1), some (mp_i m), some (mp_i v), some (Value.null), none]) dX11_comes_8 rfl (by decide) rfl ?_
    refine mp_aload_nN dX11_comes_9 rfl ?_
    refine mp_ifnull_n (tgt := 23) dX11_comes_10 rfl ?_
    refine mp_iconst dX11_comes_23 ?_
    exact mp_ireturn (st := []) dX11_comes_24 rfl ⟨by decide, by decide⟩ ((mp_ans (by unfold sp_comes; first | (rw [if_pos (by omega)]; done) | (rw [if_neg (by omega)]; done) | (rw [if_neg (by omega), if_pos (by omega)]; done) | (rw [if_neg (by omega), if_neg (by omega)]; done) | (rw [if_neg (by omega), if_neg (by omega), if_pos (by omega)]; done) | (rw [if_neg (by omega), if_neg (by omega), if_neg (by omega)]; done) | (rw [if_neg (by omega), if_neg (by omega), if_neg (by omega), if_pos (by omega)]; done) | (rw [if_neg (by omega), if_neg (by omega), if_neg (by omega), if_neg (by omega)]; done) | (rw [if_neg (by omega), if_neg (by omega), if_neg (by omega), if_neg (by omega), if_pos (by omega)]; done) | (rw [if_neg (by omega), if_neg (by omega), if_neg (by omega), if_neg (by omega), if_neg (by omega)]; done) | (rw [if_neg (by omega), if_neg (by omega), if_neg (by omega), if_neg (by omega), if_neg (by omega), if_pos (by omega)]; done) | (rw [if_neg (by omega), if_neg (by omega), if_neg (by omega), if_neg (by omega), if_neg (by omega), if_neg (by omega)]; done) | (rw [if_neg (by omega), if_neg (by omega), if_neg (by omega), if_neg (by omega), if_neg (by omega), if_neg (by omega), if_pos (by omega)]; done) | (rw [if_neg (by omega), if_neg (by omega), if_neg (by omega), if_neg (by omega), if_neg (by omega), if_neg (by omega), if_neg (by omega)]; done) | (rw [if_neg (by omega)]; omega))))
theorem lX11_together_38 {s si sp : Int → Int} {f fi fp : Nat → Option Nat} {im : Int} {hd : Int → Int} {kn : Nat → Option Nat} {wd ak ke cv vo so sz el : Int → Int} {A B : mp_H}  {m : Int} {y : Int} {a : Nat} {b : Nat} (hA : A.length = 1) (hs : mp_sky s) (hMt : mp_Mt (A ++ (mp_cs s si sp f fi fp im hd kn wd ak ke cv vo so sz el ++ B)) s f) (h_m : mp_w m) (h_y : mp_w y) (hm : 0 ≤ m ∧ m < s 0) (hy : 0 ≤ y ∧ y < s 0) (hca : (A ++ (mp_cs s si sp f fi fp im hd kn wd ak ke cv vo so sz el ++ B))[a]? = some (mp_mc s m)) (hcb : (A ++ (mp_cs s si sp f fi fp im hd kn wd ak ke cv vo so sz el ++ B))[b]? = some (mp_mc s y)) {R9 : mp_An} : ∀ (n : Nat) (t : Int), (0 ≤ t ∧ t + (n : Nat) = 366) → R9 = (some (mp_i (sp_togetherN s m y n t)), A ++ (mp_cs s si sp f fi fp im hd kn wd ak ke cv vo so sz el ++ B)) → mp_At (mX11_together, 3, 0, 0) (0, 0) 38 [some (Value.ref 1), some (mp_i m), some (mp_i y), some (Value.ref a), some (Value.ref b), some (mp_i t)] [] (A ++ (mp_cs s si sp f fi fp im hd kn wd ak ke cv vo so sz el ++ B)) R9 := by
  intro n
  induction n with
  | zero =>
    intro t hi hR
    refine mp_iload dX11_together_38 rfl ?_
    refine mp_sipush dX11_together_40 rfl ?_
    refine mp_icmp_ge (tgt := 74) dX11_together_43 rfl ⟨by omega, by omega⟩ ⟨by omega, by omega⟩ (fun h1 => ?_) (fun h1 => ?_)
    · refine mp_bipush dX11_together_74 rfl ?_
      exact mp_ireturn (st := []) dX11_together_76 rfl ⟨by decide, by decide⟩ (hR.trans (mp_ans rfl))
    · exfalso; omega
  | succ n ih =>
    intro t hi hR
    have hz0 := hs.1
    have ht0 := hs.2.1 m (by omega) (by omega)
    have ht1 := hs.2.1 y (by omega) (by omega)
    refine mp_iload dX11_together_38 rfl ?_
    refine mp_sipush dX11_together_40 rfl ?_
    refine mp_icmp_ge (tgt := 74) dX11_together_43 rfl ⟨by omega, by omega⟩ ⟨by omega, by omega⟩ (fun h1 => ?_) (fun h1 => ?_)
    · exfalso; omega
    · refine mp_aload_n dX11_together_46 rfl ?_
      refine mp_iload dX11_together_47 rfl ?_
      refine mp_inv8 (kd := (s (1 + 6 * m + 0))) (σ1 := A ++ (mp_cs s si sp f fi fp im hd kn wd ak ke cv vo so sz el ++ B)) (as := [mp_i t]) (st := []) (st1 := [mp_i (if 0 ≤ t - (s (1 + 6 * m + 4)) ∧ (t - (s (1 + 6 * m + 4))) % sp_period (s (1 + 6 * m + 0)) (s (1 + 6 * m + 1)) = 0 then 1 else 0)]) dX11_together_49 (by omega) s8X11_259 hca (fa_isThereOn (a := a) (t := t) (kd := (s (1 + 6 * m + 0))) (f := (s (1 + 6 * m + 1))) (co := (s (1 + 6 * m + 2))) (sl := (s (1 + 6 * m + 3))) (ni := (s (1 + 6 * m + 4))) (la := (sp_lasts (s (1 + 6 * m + 0)) (s (1 + 6 * m + 1)))) (br := (sp_bright (s (1 + 6 * m + 0)) (s (1 + 6 * m + 1)))) hca (by first | with_reducible assumption | omega) (by first | with_reducible assumption | omega) (by first | with_reducible assumption | omega) (by first | with_reducible assumption | omega)) (Nat.le_of_ble_eq_true rfl) ⟨Nat.le_of_ble_eq_true rfl, Nat.le_of_ble_eq_true rfl⟩ (Nat.le_of_ble_eq_true rfl) rfl rfl rfl ?_
      refine mp_ifb_eq (tgt := 68) dX11_together_52 rfl (fun h2 => ?_) (fun h2 => ?_)
      · refine mp_iinc (z := t + 1) (L' := [some (Value.ref 1), some (mp_i m), some (mp_i y), some (Value.ref a), some (Value.ref b), some (mp_i (t + 1))]) dX11_together_68 rfl (rfl) (by decide) rfl ?_
        refine mp_goto (tgt := 38) dX11_together_71 rfl ?_
        exact ih (t + 1) (by omega) (hR.trans (by rw [sp_togetherN_s, if_neg (by intro h9; omega)]))
      · refine mp_aload dX11_together_55 rfl ?_
        refine mp_iload dX11_together_57 rfl ?_
        refine mp_inv8 (kd := (s (1 + 6 * y + 0))) (σ1 := A ++ (mp_cs s si sp f fi fp im hd kn wd ak ke cv vo so sz el ++ B)) (as := [mp_i t]) (st := []) (st1 := [mp_i (if 0 ≤ t - (s (1 + 6 * y + 4)) ∧ (t - (s (1 + 6 * y + 4))) % sp_period (s (1 + 6 * y + 0)) (s (1 + 6 * y + 1)) = 0 then 1 else 0)]) dX11_together_59 (by omega) s8X11_259 hcb (fa_isThereOn (a := b) (t := t) (kd := (s (1 + 6 * y + 0))) (f := (s (1 + 6 * y + 1))) (co := (s (1 + 6 * y + 2))) (sl := (s (1 + 6 * y + 3))) (ni := (s (1 + 6 * y + 4))) (la := (sp_lasts (s (1 + 6 * y + 0)) (s (1 + 6 * y + 1)))) (br := (sp_bright (s (1 + 6 * y + 0)) (s (1 + 6 * y + 1)))) hcb (by first | with_reducible assumption | omega) (by first | with_reducible assumption | omega) (by first | with_reducible assumption | omega) (by first | with_reducible assumption | omega)) (Nat.le_of_ble_eq_true rfl) ⟨Nat.le_of_ble_eq_true rfl, Nat.le_of_ble_eq_true rfl⟩ (Nat.le_of_ble_eq_true rfl) rfl rfl rfl ?_
        refine mp_ifb_eq (tgt := 68) dX11_together_62 rfl (fun h3 => ?_) (fun h3 => ?_)
        · refine mp_iinc (z := t + 1) (L' := [some (Value.ref 1), some (mp_i m), some (mp_i y), some (Value.ref a), some (Value.ref b), some (mp_i (t + 1))]) dX11_together_68 rfl (rfl) (by decide) rfl ?_
          refine mp_goto (tgt := 38) dX11_together_71 rfl ?_
          exact ih (t + 1) (by omega) (hR.trans (by rw [sp_togetherN_s, if_neg (by intro h9; omega)]))
        · refine mp_iload dX11_together_65 rfl ?_
          exact mp_ireturn (st := []) dX11_together_67 rfl ⟨by decide, by decide⟩ (hR.trans (mp_ans (by rw [sp_togetherN_s, if_pos (by omega)])))
theorem zX11_together {s si sp : Int → Int} {f fi fp : Nat → Option Nat} {im : Int} {hd : Int → Int} {kn : Nat → Option Nat} {wd ak ke cv vo so sz el : Int → Int} {A B : mp_H}  {m : Int} {y : Int} (hA : A.length = 1) (hs : mp_sky s) (hMt : mp_Mt (A ++ (mp_cs s si sp f fi fp im hd kn wd ak ke cv vo so sz el ++ B)) s f) (h_m : mp_w m) (h_y : mp_w y) : mp_Call (mX11_together, 3, 0, 0) [Value.ref 1, mp_i m, mp_i y] (A ++ (mp_cs s si sp f fi fp im hd kn wd ak ke cv vo so sz el ++ B)) (some (mp_i (sp_together s m y)), A ++ (mp_cs s si sp f fi fp im hd kn wd ak ke cv vo so sz el ++ B)) := by
  refine mp_Call.of (L := [some (Value.ref 1), some (mp_i m), some (mp_i y), none, none, none]) pnX11 (Nat.le_of_ble_eq_true rfl) rfl ?_
  have hz0 := hs.1
  refine mp_aload_n dX11_together_0 rfl ?_
  refine mp_getfield dX11_together_1 fsX11_10_10 (mp_lkP hA 0 rfl) rfl ?_
  refine mp_iload_n dX11_together_4 rfl ?_
  by_cases hm1 : 0 ≤ m ∧ m < s 0
  · obtain ⟨a1, hf1, hc1⟩ := (mp_Sk.of (σ := A ++ (mp_cs s si sp f fi fp im hd kn wd ak ke cv vo so sz el ++ B)) (mp_skC2 hA) hMt).2.2.2.2.2.2 m hm1.1 hm1.2
    have ht1 := hs.2.1 m hm1.1 hm1.2
    have hl1 := mp_lasts_bd (kind := (s (1 + 6 * m + 0))) (f := (s (1 + 6 * m + 1))) (by omega)
    have hr1 := mp_bright_bd (kind := (s (1 + 6 * m + 0))) (f := (s (1 + 6 * m + 1))) (by omega)
    refine mp_invV (z := (mX6_at, 0, 0, 0)) (K' := (0, 0)) (σ1 := A ++ (mp_cs s si sp f fi fp im hd kn wd ak ke cv vo so sz el ++ B)) (as := [mp_i m]) (st := []) (st1 := [Value.ref a1]) dX11_together_5 svX11_93 (mp_Sk.of (σ := A ++ (mp_cs s si sp f fi fp im hd kn wd ak ke cv vo so sz el ++ B)) (mp_skC2 hA) hMt).1 rfl rfl (zX6_at (p := 2) (m := m) (a := a1) (s := s) (f := f) (mp_Sk.of (σ := A ++ (mp_cs s si sp f fi fp im hd kn wd ak ke cv vo so sz el ++ B)) (mp_skC2 hA) hMt) hm1 (by omega) hf1) ⟨Nat.le_of_ble_eq_true rfl, Nat.le_of_ble_eq_true rfl, Nat.le_of_ble_eq_true rfl, Nat.le_of_ble_eq_true rfl, Nat.le_of_ble_eq_true rfl⟩ rfl rfl rfl rfl ?_
    refine mp_astore_n (L' := [some (Value.ref 1), some (mp_i m), some (mp_i y), some (Value.ref a1), none, none]) dX11_together_8 rfl (by decide) rfl ?_
    refine mp_aload_n dX11_together_9 rfl ?_
    refine mp_getfield dX11_together_10 fsX11_10_10 (mp_lkP hA 0 rfl) rfl ?_
    refine mp_iload_n dX11_together_13 rfl ?_
    by_cases hm2 : 0 ≤ y ∧ y < s 0
    · obtain ⟨a2, hf2, hc2⟩ := (mp_Sk.of (σ := A ++ (mp_cs s si sp f fi fp im hd kn wd ak ke cv vo so sz el ++ B)) (mp_skC2 hA) hMt).2.2.2.2.2.2 y hm2.1 hm2.2
      have ht2 := hs.2.1 y hm2.1 hm2.2
      have hl2 := mp_lasts_bd (kind := (s (1 + 6 * y + 0))) (f := (s (1 + 6 * y + 1))) (by omega)
      have hr2 := mp_bright_bd (kind := (s (1 + 6 * y + 0))) (f := (s (1 + 6 * y + 1))) (by omega)
      refine mp_invV (z := (mX6_at, 0, 0, 0)) (K' := (0, 0)) (σ1 := A ++ (mp_cs s si sp f fi fp im hd kn wd ak ke cv vo so sz el ++ B)) (as := [mp_i y]) (st := []) (st1 := [Value.ref a2]) dX11_together_14 svX11_93 (mp_Sk.of (σ := A ++ (mp_cs s si sp f fi fp im hd kn wd ak ke cv vo so sz el ++ B)) (mp_skC2 hA) hMt).1 rfl rfl (zX6_at (p := 2) (m := y) (a := a2) (s := s) (f := f) (mp_Sk.of (σ := A ++ (mp_cs s si sp f fi fp im hd kn wd ak ke cv vo so sz el ++ B)) (mp_skC2 hA) hMt) hm2 (by omega) hf2) ⟨Nat.le_of_ble_eq_true rfl, Nat.le_of_ble_eq_true rfl, Nat.le_of_ble_eq_true rfl, Nat.le_of_ble_eq_true rfl, Nat.le_of_ble_eq_true rfl⟩ rfl rfl rfl rfl ?_
      refine mp_astore (L' := [some (Value.ref 1), some (mp_i m), some (mp_i y), some (Value.ref a1), some (Value.ref a2), none]) dX11_together_17 (by decide) rfl ?_
      refine mp_aload_n dX11_together_19 rfl ?_
      refine mp_ifnull_r dX11_together_20 ?_
      refine mp_aload dX11_together_23 rfl ?_
      refine mp_ifnull_r dX11_together_25 ?_
      refine mp_iload_n dX11_together_28 rfl ?_
      refine mp_iload_n dX11_together_29 rfl ?_
      refine mp_icmp_ne (tgt := 35) dX11_together_30 rfl ⟨by omega, by omega⟩ ⟨by omega, by omega⟩ (fun h3 => ?_) (fun h3 => ?_)
      · refine mp_iconst dX11_together_35 ?_
        refine mp_istore (L' := [some (Value.ref 1), some (mp_i m), some (mp_i y), some (Value.ref a1), some (Value.ref a2), some (mp_i 0)]) dX11_together_36 (by decide) rfl ?_
        exact lX11_together_38 (s := s) (f := f) (m := m) (y := y) (a := a1) (b := a2) hA hs hMt h_m h_y hm1 hm2 hc1 hc2 366 0 (by omega) (by unfold sp_together; rw [if_neg (by omega)])
      · refine mp_iconst dX11_together_33 ?_
        exact mp_ireturn (st := []) dX11_together_34 rfl ⟨by decide, by decide⟩ ((mp_ans (by unfold sp_together; first | (rw [if_pos (by omega)]; done) | (rw [if_neg (by omega)]; done) | (rw [if_neg (by omega), if_pos (by omega)]; done) | (rw [if_neg (by omega), if_neg (by omega)]; done) | (rw [if_neg (by omega), if_neg (by omega), if_pos (by omega)]; done) | (rw [if_neg (by omega), if_neg (by omega), if_neg (by omega)]; done) | (rw [if_neg (by omega), if_neg (by omega), if_neg (by omega), if_pos (by omega)]; done) | (rw [if_neg (by omega), if_neg (by omega), if_neg (by omega), if_neg (by omega)]; done) | (rw [if_neg (by omega), if_neg (by omega), if_neg (by omega), if_neg (by omega), if_pos (by omega)]; done) | (rw [if_neg (by omega), if_neg (by omega), if_neg (by omega), if_neg (by omega), if_neg (by omega)]; done) | (rw [if_neg (by omega), if_neg (by omega), if_neg (by omega), if_neg (by omega), if_neg (by omega), if_pos (by omega)]; done) | (rw [if_neg (by omega), if_neg (by omega), if_neg (by omega), if_neg (by omega), if_neg (by omega), if_neg (by omega)]; done) | (rw [if_neg (by omega), if_neg (by omega), if_neg (by omega), if_neg (by omega), if_neg (by omega), if_neg (by omega), if_pos (by omega)]; done) | (rw [if_neg (by omega), if_neg (by omega), if_neg (by omega), if_neg (by omega), if_neg (by omega), if_neg (by omega), if_neg (by omega)]; done) | (rw [if_neg (by omega)]; omega))))
    · refine mp_invV (z := (mX6_at, 0, 0, 0)) (K' := (0, 0)) (σ1 := A ++ (mp_cs s si sp f fi fp im hd kn wd ak ke cv vo so sz el ++ B)) (as := [mp_i y]) (st := []) (st1 := [Value.null]) dX11_together_14 svX11_93 (mp_Sk.of (σ := A ++ (mp_cs s si sp f fi fp im hd kn wd ak ke cv vo so sz el ++ B)) (mp_skC2 hA) hMt).1 rfl rfl (zX6_atN (p := 2) (m := y) (s := s) (f := f) (mp_Sk.of (σ := A ++ (mp_cs s si sp f fi fp im hd kn wd ak ke cv vo so sz el ++ B)) (mp_skC2 hA) hMt) hm2 (by omega) (by omega)) ⟨Nat.le_of_ble_eq_true rfl, Nat.le_of_ble_eq_true rfl, Nat.le_of_ble_eq_true rfl, Nat.le_of_ble_eq_true rfl, Nat.le_of_ble_eq_true rfl⟩ rfl rfl rfl rfl ?_
      refine mp_astoreN (L' := [some (Value.ref 1), some (mp_i m), some (mp_i y), some (Value.ref a1), some (Value.null), none]) dX11_together_17 (by decide) rfl ?_
      refine mp_aload_n dX11_together_19 rfl ?_
      refine mp_ifnull_r dX11_together_20 ?_
      refine mp_aloadN dX11_together_23 rfl ?_
      refine mp_ifnull_n (tgt := 33) dX11_together_25 rfl ?_
      refine mp_iconst dX11_together_33 ?_
      exact mp_ireturn (st := []) dX11_together_34 rfl ⟨by decide, by decide⟩ ((mp_ans (by unfold sp_together; first | (rw [if_pos (by omega)]; done) | (rw [if_neg (by omega)]; done) | (rw [if_neg (by omega), if_pos (by omega)]; done) | (rw [if_neg (by omega), if_neg (by omega)]; done) | (rw [if_neg (by omega), if_neg (by omega), if_pos (by omega)]; done) | (rw [if_neg (by omega), if_neg (by omega), if_neg (by omega)]; done) | (rw [if_neg (by omega), if_neg (by omega), if_neg (by omega), if_pos (by omega)]; done) | (rw [if_neg (by omega), if_neg (by omega), if_neg (by omega), if_neg (by omega)]; done) | (rw [if_neg (by omega), if_neg (by omega), if_neg (by omega), if_neg (by omega), if_pos (by omega)]; done) | (rw [if_neg (by omega), if_neg (by omega), if_neg (by omega), if_neg (by omega), if_neg (by omega)]; done) | (rw [if_neg (by omega), if_neg (by omega), if_neg (by omega), if_neg (by omega), if_neg (by omega), if_pos (by omega)]; done) | (rw [if_neg (by omega), if_neg (by omega), if_neg (by omega), if_neg (by omega), if_neg (by omega), if_neg (by omega)]; done) | (rw [if_neg (by omega), if_neg (by omega), if_neg (by omega), if_neg (by omega), if_neg (by omega), if_neg (by omega), if_pos (by omega)]; done) | (rw [if_neg (by omega), if_neg (by omega), if_neg (by omega), if_neg (by omega), if_neg (by omega), if_neg (by omega), if_neg (by omega)]; done) | (rw [if_neg (by omega)]; omega))))
  · refine mp_invV (z := (mX6_at, 0, 0, 0)) (K' := (0, 0)) (σ1 := A ++ (mp_cs s si sp f fi fp im hd kn wd ak ke cv vo so sz el ++ B)) (as := [mp_i m]) (st := []) (st1 := [Value.null]) dX11_together_5 svX11_93 (mp_Sk.of (σ := A ++ (mp_cs s si sp f fi fp im hd kn wd ak ke cv vo so sz el ++ B)) (mp_skC2 hA) hMt).1 rfl rfl (zX6_atN (p := 2) (m := m) (s := s) (f := f) (mp_Sk.of (σ := A ++ (mp_cs s si sp f fi fp im hd kn wd ak ke cv vo so sz el ++ B)) (mp_skC2 hA) hMt) hm1 (by omega) (by omega)) ⟨Nat.le_of_ble_eq_true rfl, Nat.le_of_ble_eq_true rfl, Nat.le_of_ble_eq_true rfl, Nat.le_of_ble_eq_true rfl, Nat.le_of_ble_eq_true rfl⟩ rfl rfl rfl rfl ?_
    refine mp_astore_nN (L' := [some (Value.ref 1), some (mp_i m), some (mp_i y), some (Value.null), none, none]) dX11_together_8 rfl (by decide) rfl ?_
    refine mp_aload_n dX11_together_9 rfl ?_
    refine mp_getfield dX11_together_10 fsX11_10_10 (mp_lkP hA 0 rfl) rfl ?_
    refine mp_iload_n dX11_together_13 rfl ?_
    by_cases hm4 : 0 ≤ y ∧ y < s 0
    · obtain ⟨a4, hf4, hc4⟩ := (mp_Sk.of (σ := A ++ (mp_cs s si sp f fi fp im hd kn wd ak ke cv vo so sz el ++ B)) (mp_skC2 hA) hMt).2.2.2.2.2.2 y hm4.1 hm4.2
      have ht4 := hs.2.1 y hm4.1 hm4.2
      have hl4 := mp_lasts_bd (kind := (s (1 + 6 * y + 0))) (f := (s (1 + 6 * y + 1))) (by omega)
      have hr4 := mp_bright_bd (kind := (s (1 + 6 * y + 0))) (f := (s (1 + 6 * y + 1))) (by omega)
      refine mp_invV (z := (mX6_at, 0, 0, 0)) (K' := (0, 0)) (σ1 := A ++ (mp_cs s si sp f fi fp im hd kn wd ak ke cv vo so sz el ++ B)) (as := [mp_i y]) (st := []) (st1 := [Value.ref a4]) dX11_together_14 svX11_93 (mp_Sk.of (σ := A ++ (mp_cs s si sp f fi fp im hd kn wd ak ke cv vo so sz el ++ B)) (mp_skC2 hA) hMt).1 rfl rfl (zX6_at (p := 2) (m := y) (a := a4) (s := s) (f := f) (mp_Sk.of (σ := A ++ (mp_cs s si sp f fi fp im hd kn wd ak ke cv vo so sz el ++ B)) (mp_skC2 hA) hMt) hm4 (by omega) hf4) ⟨Nat.le_of_ble_eq_true rfl, Nat.le_of_ble_eq_true rfl, Nat.le_of_ble_eq_true rfl, Nat.le_of_ble_eq_true rfl, Nat.le_of_ble_eq_true rfl⟩ rfl rfl rfl rfl ?_
      refine mp_astore (L' := [some (Value.ref 1), some (mp_i m), some (mp_i y), some (Value.null), some (Value.ref a4), none]) dX11_together_17 (by decide) rfl ?_
      refine mp_aload_nN dX11_together_19 rfl ?_
      refine mp_ifnull_n (tgt := 33) dX11_together_20 rfl ?_
      refine mp_iconst dX11_together_33 ?_
      exact mp_ireturn (st := []) dX11_together_34 rfl ⟨by decide, by decide⟩ ((mp_ans (by unfold sp_together; first | (rw [if_pos (by omega)]; done) | (rw [if_neg (by omega)]; done) | (rw [if_neg (by omega), if_pos (by omega)]; done) | (rw [if_neg (by omega), if_neg (by omega)]; done) | (rw [if_neg (by omega), if_neg (by omega), if_pos (by omega)]; done) | (rw [if_neg (by omega), if_neg (by omega), if_neg (by omega)]; done) | (rw [if_neg (by omega), if_neg (by omega), if_neg (by omega), if_pos (by omega)]; done) | (rw [if_neg (by omega), if_neg (by omega), if_neg (by omega), if_neg (by omega)]; done) | (rw [if_neg (by omega), if_neg (by omega), if_neg (by omega), if_neg (by omega), if_pos (by omega)]; done) | (rw [if_neg (by omega), if_neg (by omega), if_neg (by omega), if_neg (by omega), if_neg (by omega)]; done) | (rw [if_neg (by omega), if_neg (by omega), if_neg (by omega), if_neg (by omega), if_neg (by omega), if_pos (by omega)]; done) | (rw [if_neg (by omega), if_neg (by omega), if_neg (by omega), if_neg (by omega), if_neg (by omega), if_neg (by omega)]; done) | (rw [if_neg (by omega), if_neg (by omega), if_neg (by omega), if_neg (by omega), if_neg (by omega), if_neg (by omega), if_pos (by omega)]; done) | (rw [if_neg (by omega), if_neg (by omega), if_neg (by omega), if_neg (by omega), if_neg (by omega), if_neg (by omega), if_neg (by omega)]; done) | (rw [if_neg (by omega)]; omega))))
    · refine mp_invV (z := (mX6_at, 0, 0, 0)) (K' := (0, 0)) (σ1 := A ++ (mp_cs s si sp f fi fp im hd kn wd ak ke cv vo so sz el ++ B)) (as := [mp_i y]) (st := []) (st1 := [Value.null]) dX11_together_14 svX11_93 (mp_Sk.of (σ := A ++ (mp_cs s si sp f fi fp im hd kn wd ak ke cv vo so sz el ++ B)) (mp_skC2 hA) hMt).1 rfl rfl (zX6_atN (p := 2) (m := y) (s := s) (f := f) (mp_Sk.of (σ := A ++ (mp_cs s si sp f fi fp im hd kn wd ak ke cv vo so sz el ++ B)) (mp_skC2 hA) hMt) hm4 (by omega) (by omega)) ⟨Nat.le_of_ble_eq_true rfl, Nat.le_of_ble_eq_true rfl, Nat.le_of_ble_eq_true rfl, Nat.le_of_ble_eq_true rfl, Nat.le_of_ble_eq_true rfl⟩ rfl rfl rfl rfl ?_
      refine mp_astoreN (L' := [some (Value.ref 1), some (mp_i m), some (mp_i y), some (Value.null), some (Value.null), none]) dX11_together_17 (by decide) rfl ?_
      refine mp_aload_nN dX11_together_19 rfl ?_
      refine mp_ifnull_n (tgt := 33) dX11_together_20 rfl ?_
      refine mp_iconst dX11_together_33 ?_
      exact mp_ireturn (st := []) dX11_together_34 rfl ⟨by decide, by decide⟩ ((mp_ans (by unfold sp_together; first | (rw [if_pos (by omega)]; done) | (rw [if_neg (by omega)]; done) | (rw [if_neg (by omega), if_pos (by omega)]; done) | (rw [if_neg (by omega), if_neg (by omega)]; done) | (rw [if_neg (by omega), if_neg (by omega), if_pos (by omega)]; done) | (rw [if_neg (by omega), if_neg (by omega), if_neg (by omega)]; done) | (rw [if_neg (by omega), if_neg (by omega), if_neg (by omega), if_pos (by omega)]; done) | (rw [if_neg (by omega), if_neg (by omega), if_neg (by omega), if_neg (by omega)]; done) | (rw [if_neg (by omega), if_neg (by omega), if_neg (by omega), if_neg (by omega), if_pos (by omega)]; done) | (rw [if_neg (by omega), if_neg (by omega), if_neg (by omega), if_neg (by omega), if_neg (by omega)]; done) | (rw [if_neg (by omega), if_neg (by omega), if_neg (by omega), if_neg (by omega), if_neg (by omega), if_pos (by omega)]; done) | (rw [if_neg (by omega), if_neg (by omega), if_neg (by omega), if_neg (by omega), if_neg (by omega), if_neg (by omega)]; done) | (rw [if_neg (by omega), if_neg (by omega), if_neg (by omega), if_neg (by omega), if_neg (by omega), if_neg (by omega), if_pos (by omega)]; done) | (rw [if_neg (by omega), if_neg (by omega), if_neg (by omega), if_neg (by omega), if_neg (by omega), if_neg (by omega), if_neg (by omega)]; done) | (rw [if_neg (by omega)]; omega))))
