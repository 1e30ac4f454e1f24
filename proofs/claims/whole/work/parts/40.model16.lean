theorem lX12_clouds_71 {s m img was num pro ask kp kk kf so sz el : Int → Int} {im pl ra re rm rf sd th : Int} {A B : mp_H}  {l : Int} {k : Int} {t : Int} {w : Int} (hA : A.length = 44) (hs : mp_sky s) (h_l : mp_w l) (h_k : mp_w k) (h_t : mp_w t) (h_w : mp_w w) {R9 : mp_An} : ∀ (n : Nat) (u : Int) (a : Int) (v : Int) (i : Int), (((2 ≤ t ∧ t ≤ 20) ∧ u ≤ 14) ∧ 0 ≤ i ∧ i + (n : Nat) = u) → mp_At (mX12_clouds, 3, 0, 0) (0, 0) 91 [some (Value.ref 44), some (mp_i l), some (mp_i k), some (mp_i t), some (mp_i w), some (mp_i u), some (mp_l a), none, some (mp_l (v * t ^ n)), none, none, none, none, none] [] (A ++ (mp_ms s m img was num pro ask kp kk kf so sz el im pl ra re rm rf sd th ++ B)) R9 → mp_At (mX12_clouds, 3, 0, 0) (0, 0) 71 [some (Value.ref 44), some (mp_i l), some (mp_i k), some (mp_i t), some (mp_i w), some (mp_i u), some (mp_l a), none, some (mp_l v), none, some (mp_i i), none, none, none] [] (A ++ (mp_ms s m img was num pro ask kp kk kf so sz el im pl ra re rm rf sd th ++ B)) R9 := by
  intro n
  induction n with
  | zero =>
    intro u a v i hi hk
    refine mp_iload dX12_clouds_71 rfl ?_
    refine mp_iload dX12_clouds_73 rfl ?_
    refine mp_icmp_ge (tgt := 91) dX12_clouds_75 rfl ⟨by omega, by omega⟩ ⟨by omega, by omega⟩ (fun h1 => ?_) (fun h1 => ?_)
    · refine mp_drop (L' := [some (Value.ref 44), some (mp_i l), some (mp_i k), some (mp_i t), some (mp_i w), some (mp_i u), some (mp_l a), none, some (mp_l v), none, none, none, none, none]) [true, true, true, true, true, true, true, false, true, false, false, false, false, false] rfl ?_
      rw [Int.pow_zero, Int.mul_one] at hk
      exact hk
    · exfalso; omega
  | succ n ih =>
    intro u a v i hi hk
    refine mp_iload dX12_clouds_71 rfl ?_
    refine mp_iload dX12_clouds_73 rfl ?_
    refine mp_icmp_ge (tgt := 91) dX12_clouds_75 rfl ⟨by omega, by omega⟩ ⟨by omega, by omega⟩ (fun h1 => ?_) (fun h1 => ?_)
    · exfalso; omega
    · refine mp_lload dX12_clouds_78 rfl ?_
      refine mp_iload_n dX12_clouds_80 rfl ?_
      refine mp_i2l dX12_clouds_81 ⟨by omega, by omega⟩ ?_
      refine mp_lmul (z := v * t) dX12_clouds_82 rfl ?_
      refine mp_lstore (L' := [some (Value.ref 44), some (mp_i l), some (mp_i k), some (mp_i t), some (mp_i w), some (mp_i u), some (mp_l a), none, some (mp_l (v * t)), none, some (mp_i i), none, none, none]) dX12_clouds_83 (by decide) rfl ?_
      refine mp_iinc (z := i + 1) (L' := [some (Value.ref 44), some (mp_i l), some (mp_i k), some (mp_i t), some (mp_i w), some (mp_i u), some (mp_l a), none, some (mp_l (v * t)), none, some (mp_i (i + 1)), none, none, none]) dX12_clouds_85 rfl (rfl) (by decide) rfl ?_
      refine mp_goto (tgt := 71) dX12_clouds_88 rfl ?_
      exact ih u a (v * t) (i + 1) ⟨by omega, by omega⟩ (by rw [Int.pow_succ, Int.mul_comm (t ^ n) t, ← Int.mul_assoc] at hk; exact hk)
theorem lX12_clouds_128 {s m img was num pro ask kp kk kf so sz el : Int → Int} {im pl ra re rm rf sd th : Int} {A B : mp_H}  {l : Int} {k : Int} {t : Int} {w : Int} (hA : A.length = 44) (hs : mp_sky s) (h_l : mp_w l) (h_k : mp_w k) (h_t : mp_w t) (h_w : mp_w w) {R9 : mp_An} : ∀ (n : Nat) (u : Int) (a : Int) (v : Int) (c : Int) (y : Int) (i : Int), (((2 ≤ t ∧ t ≤ 20) ∧ (0 ≤ c ∧ c < 65536)) ∧ 0 ≤ i ∧ i + (n : Nat) = sp_bits c) → mp_At (mX12_clouds, 3, 0, 0) (0, 0) 153 [some (Value.ref 44), some (mp_i l), some (mp_i k), some (mp_i t), some (mp_i w), some (mp_i u), some (mp_l a), none, some (mp_l v), none, some (mp_i c), some (mp_l (y * (t - 1) ^ n)), none, none] [] (A ++ (mp_ms s m img was num pro ask kp kk kf so sz el im pl ra re rm rf sd th ++ B)) R9 → mp_At (mX12_clouds, 3, 0, 0) (0, 0) 128 [some (Value.ref 44), some (mp_i l), some (mp_i k), some (mp_i t), some (mp_i w), some (mp_i u), some (mp_l a), none, some (mp_l v), none, some (mp_i c), some (mp_l y), none, some (mp_i i)] [] (A ++ (mp_ms s m img was num pro ask kp kk kf so sz el im pl ra re rm rf sd th ++ B)) R9 := by
  intro n
  induction n with
  | zero =>
    intro u a v c y i hi hk
    have hb9 := mp_bits_bd c
    refine mp_iload dX12_clouds_128 rfl ?_
    refine mp_iload dX12_clouds_130 rfl ?_
    refine mp_invS (z := (mX12_bits, 0, 0, 0)) (K' := (0, 0)) (σ1 := A ++ (mp_ms s m img was num pro ask kp kk kf so sz el im pl ra re rm rf sd th ++ B)) (as := [mp_i c]) (st := [mp_i i]) (st1 := [mp_i (sp_bits c), mp_i i]) dX12_clouds_132 ssX12_178 (zX12_bits (v := c)  (by first | with_reducible assumption | omega)) ⟨Nat.le_of_ble_eq_true rfl, Nat.le_of_ble_eq_true rfl, Nat.le_of_ble_eq_true rfl, Nat.le_of_ble_eq_true rfl, Nat.le_of_ble_eq_true rfl⟩ rfl rfl rfl rfl ?_
    refine mp_icmp_ge (tgt := 153) dX12_clouds_135 rfl ⟨by omega, by omega⟩ ⟨by omega, by omega⟩ (fun h1 => ?_) (fun h1 => ?_)
    · refine mp_drop (L' := [some (Value.ref 44), some (mp_i l), some (mp_i k), some (mp_i t), some (mp_i w), some (mp_i u), some (mp_l a), none, some (mp_l v), none, some (mp_i c), some (mp_l y), none, none]) [true, true, true, true, true, true, true, false, true, false, true, true, false, false] rfl ?_
      rw [Int.pow_zero, Int.mul_one] at hk
      exact hk
    · exfalso; omega
  | succ n ih =>
    intro u a v c y i hi hk
    have hb9 := mp_bits_bd c
    refine mp_iload dX12_clouds_128 rfl ?_
    refine mp_iload dX12_clouds_130 rfl ?_
    refine mp_invS (z := (mX12_bits, 0, 0, 0)) (K' := (0, 0)) (σ1 := A ++ (mp_ms s m img was num pro ask kp kk kf so sz el im pl ra re rm rf sd th ++ B)) (as := [mp_i c]) (st := [mp_i i]) (st1 := [mp_i (sp_bits c), mp_i i]) dX12_clouds_132 ssX12_178 (zX12_bits (v := c)  (by first | with_reducible assumption | omega)) ⟨Nat.le_of_ble_eq_true rfl, Nat.le_of_ble_eq_true rfl, Nat.le_of_ble_eq_true rfl, Nat.le_of_ble_eq_true rfl, Nat.le_of_ble_eq_true rfl⟩ rfl rfl rfl rfl ?_
    refine mp_icmp_ge (tgt := 153) dX12_clouds_135 rfl ⟨by omega, by omega⟩ ⟨by omega, by omega⟩ (fun h1 => ?_) (fun h1 => ?_)
    · exfalso; omega
    · refine mp_lload dX12_clouds_138 rfl ?_
      refine mp_iload_n dX12_clouds_140 rfl ?_
      refine mp_iconst dX12_clouds_141 ?_
      refine mp_isub (z := t - 1) dX12_clouds_142 (by first | rfl | omega) ?_
      refine mp_i2l dX12_clouds_143 ⟨by omega, by omega⟩ ?_
      refine mp_lmul (z := y * (t - 1)) dX12_clouds_144 rfl ?_
      refine mp_lstore (L' := [some (Value.ref 44), some (mp_i l), some (mp_i k), some (mp_i t), some (mp_i w), some (mp_i u), some (mp_l a), none, some (mp_l v), none, some (mp_i c), some (mp_l (y * (t - 1))), none, some (mp_i i)]) dX12_clouds_145 (by decide) rfl ?_
      refine mp_iinc (z := i + 1) (L' := [some (Value.ref 44), some (mp_i l), some (mp_i k), some (mp_i t), some (mp_i w), some (mp_i u), some (mp_l a), none, some (mp_l v), none, some (mp_i c), some (mp_l (y * (t - 1))), none, some (mp_i (i + 1))]) dX12_clouds_147 rfl (rfl) (by decide) rfl ?_
      refine mp_goto (tgt := 128) dX12_clouds_150 rfl ?_
      exact ih u a v c (y * (t - 1)) (i + 1) ⟨by omega, by omega⟩ (by rw [Int.pow_succ, Int.mul_comm ((t - 1) ^ n) (t - 1), ← Int.mul_assoc] at hk; exact hk)
theorem lX12_clouds_94 {s m img was num pro ask kp kk kf so sz el : Int → Int} {im pl ra re rm rf sd th : Int} {A B : mp_H}  {l : Int} {k : Int} {t : Int} {w : Int} (hA : A.length = 44) (hs : mp_sky s) (h_l : mp_w l) (h_k : mp_w k) (h_t : mp_w t) (h_w : mp_w w) {R9 : mp_An} : ∀ (n : Nat) (u : Int) (a : Int) (v : Int) (c : Int), (((2 ≤ t ∧ t ≤ 20) ∧ (0 ≤ u ∧ u ≤ 14) ∧ (0 ≤ l ∧ l ≤ 4)) ∧ 0 ≤ c ∧ c + (n : Nat) = mp_bit u) → mp_At (mX12_clouds, 3, 0, 0) (0, 0) 166 [some (Value.ref 44), some (mp_i l), some (mp_i k), some (mp_i t), some (mp_i w), some (mp_i u), some (mp_l (mp_fold (fun c a => a + sp_cloudG (sp_need (s (49 + 3 * l + 1))) t (sp_bits c)) n c a)), none, some (mp_l v), none, none, none, none, none] [] (A ++ (mp_ms s m img was num pro ask kp kk kf so sz el im pl ra re rm rf sd th ++ B)) R9 → mp_At (mX12_clouds, 3, 0, 0) (0, 0) 94 [some (Value.ref 44), some (mp_i l), some (mp_i k), some (mp_i t), some (mp_i w), some (mp_i u), some (mp_l a), none, some (mp_l v), none, some (mp_i c), none, none, none] [] (A ++ (mp_ms s m img was num pro ask kp kk kf so sz el im pl ra re rm rf sd th ++ B)) R9 := by
  intro n
  induction n with
  | zero =>
    intro u a v c hi hk
    have h0 := hs.1
    have hb9 := hs.2.2.1 l (by omega) (by omega)
    have hbt : mp_bit u < 32768 := mp_bit_lt (n := 15) (by omega) (by decide)
    have hnd : sp_need (s (49 + 3 * l + 1)) = 4 - s (49 + 3 * l + 1) / 3 := rfl
    have hb9 := mp_bits_bd c
    refine mp_iload dX12_clouds_94 rfl ?_
    refine mp_iconst dX12_clouds_96 ?_
    refine mp_iload dX12_clouds_97 rfl ?_
    refine mp_ishl (z := mp_bit u) dX12_clouds_99 (mp_z_bit ⟨by omega, by omega⟩) ?_
    refine mp_icmp_ge (tgt := 166) dX12_clouds_100 rfl ⟨by omega, by omega⟩ ⟨by omega, by omega⟩ (fun h1 => ?_) (fun h1 => ?_)
    · refine mp_drop (L' := [some (Value.ref 44), some (mp_i l), some (mp_i k), some (mp_i t), some (mp_i w), some (mp_i u), some (mp_l a), none, some (mp_l v), none, none, none, none, none]) [true, true, true, true, true, true, true, false, true, false, false, false, false, false] rfl ?_
      exact hk
    · exfalso; omega
  | succ n ih =>
    intro u a v c hi hk
    have h0 := hs.1
    have hb9 := hs.2.2.1 l (by omega) (by omega)
    have hbt : mp_bit u < 32768 := mp_bit_lt (n := 15) (by omega) (by decide)
    have hnd : sp_need (s (49 + 3 * l + 1)) = 4 - s (49 + 3 * l + 1) / 3 := rfl
    have hb9 := mp_bits_bd c
    refine mp_iload dX12_clouds_94 rfl ?_
    refine mp_iconst dX12_clouds_96 ?_
    refine mp_iload dX12_clouds_97 rfl ?_
    refine mp_ishl (z := mp_bit u) dX12_clouds_99 (mp_z_bit ⟨by omega, by omega⟩) ?_
    refine mp_icmp_ge (tgt := 166) dX12_clouds_100 rfl ⟨by omega, by omega⟩ ⟨by omega, by omega⟩ (fun h1 => ?_) (fun h1 => ?_)
    · exfalso; omega
    · refine mp_iload dX12_clouds_103 rfl ?_
      refine mp_invS (z := (mX12_bits, 0, 0, 0)) (K' := (0, 0)) (σ1 := A ++ (mp_ms s m img was num pro ask kp kk kf so sz el im pl ra re rm rf sd th ++ B)) (as := [mp_i c]) (st := []) (st1 := [mp_i (sp_bits c)]) dX12_clouds_105 ssX12_178 (zX12_bits (v := c)  (by first | with_reducible assumption | omega)) ⟨Nat.le_of_ble_eq_true rfl, Nat.le_of_ble_eq_true rfl, Nat.le_of_ble_eq_true rfl, Nat.le_of_ble_eq_true rfl, Nat.le_of_ble_eq_true rfl⟩ rfl rfl rfl rfl ?_
      refine mp_aload_n dX12_clouds_108 rfl ?_
      refine mp_getfield dX12_clouds_109 fsX12_9_11 (mp_lk hA 0 rfl) rfl ?_
      refine mp_iload_n dX12_clouds_112 rfl ?_
      refine mp_invS (z := (mX12_need, 1, 0, 0)) (K' := (0, 0)) (σ1 := A ++ (mp_ms s m img was num pro ask kp kk kf so sz el im pl ra re rm rf sd th ++ B)) (as := [Value.ref 45, mp_i l]) (st := [mp_i (sp_bits c)]) (st1 := [mp_i (sp_need (s (49 + 3 * l + 1))), mp_i (sp_bits c)]) dX12_clouds_113 ssX12_89 (zX12_need (r := 45) (l := l) (s := s) (mp_lk hA 1 rfl) (by first | with_reducible assumption | omega) (by first | with_reducible assumption | omega)) ⟨Nat.le_of_ble_eq_true rfl, Nat.le_of_ble_eq_true rfl, Nat.le_of_ble_eq_true rfl, Nat.le_of_ble_eq_true rfl, Nat.le_of_ble_eq_true rfl⟩ rfl rfl rfl rfl ?_
      refine mp_icmp_ge (tgt := 122) dX12_clouds_116 rfl ⟨by omega, by omega⟩ ⟨by omega, by omega⟩ (fun h2 => ?_) (fun h2 => ?_)
      · refine mp_lconst (z := 1) dX12_clouds_122 rfl ?_
        refine mp_lstore (L' := [some (Value.ref 44), some (mp_i l), some (mp_i k), some (mp_i t), some (mp_i w), some (mp_i u), some (mp_l a), none, some (mp_l v), none, some (mp_i c), some (mp_l 1), none, none]) dX12_clouds_123 (by decide) rfl ?_
        refine mp_iconst dX12_clouds_125 ?_
        refine mp_istore (L' := [some (Value.ref 44), some (mp_i l), some (mp_i k), some (mp_i t), some (mp_i w), some (mp_i u), some (mp_l a), none, some (mp_l v), none, some (mp_i c), some (mp_l 1), none, some (mp_i 0)]) dX12_clouds_126 (by decide) rfl ?_
        refine lX12_clouds_128 (l := l) (k := k) (t := t) (w := w)  (by first | with_reducible assumption | omega) (by first | with_reducible assumption | omega) (by first | with_reducible assumption | omega) (by first | with_reducible assumption | omega) (by first | with_reducible assumption | omega) (by first | with_reducible assumption | omega) (Int.toNat (sp_bits c)) u a v c 1 0 (by omega) ?_
        refine mp_lload dX12_clouds_153 rfl ?_
        refine mp_lload dX12_clouds_155 rfl ?_
        refine mp_ladd (z := a + (1 * (t - 1) ^ (Int.toNat (sp_bits c)))) dX12_clouds_157 rfl ?_
        refine mp_lstore (L' := [some (Value.ref 44), some (mp_i l), some (mp_i k), some (mp_i t), some (mp_i w), some (mp_i u), some (mp_l (a + (1 * (t - 1) ^ (Int.toNat (sp_bits c))))), none, some (mp_l v), none, some (mp_i c), some (mp_l (1 * (t - 1) ^ (Int.toNat (sp_bits c)))), none, none]) dX12_clouds_158 (by decide) rfl ?_
        refine mp_iinc (z := c + 1) (L' := [some (Value.ref 44), some (mp_i l), some (mp_i k), some (mp_i t), some (mp_i w), some (mp_i u), some (mp_l (a + (1 * (t - 1) ^ (Int.toNat (sp_bits c))))), none, some (mp_l v), none, some (mp_i (c + 1)), some (mp_l (1 * (t - 1) ^ (Int.toNat (sp_bits c)))), none, none]) dX12_clouds_160 rfl (rfl) (by decide) rfl ?_
        refine mp_goto (tgt := 94) dX12_clouds_163 rfl ?_
        refine mp_drop (L' := [some (Value.ref 44), some (mp_i l), some (mp_i k), some (mp_i t), some (mp_i w), some (mp_i u), some (mp_l (a + (1 * (t - 1) ^ (Int.toNat (sp_bits c))))), none, some (mp_l v), none, some (mp_i (c + 1)), none, none, none]) [true, true, true, true, true, true, true, false, true, false, true, false, false, false] rfl ?_
        have e9 : (fun c a => a + sp_cloudG (sp_need (s (49 + 3 * l + 1))) t (sp_bits c)) c a = a + (1 * (t - 1) ^ (Int.toNat (sp_bits c))) := by show a + (if sp_bits c < _ then _ else _) = _; rw [if_neg (by omega), Int.one_mul]
        have k9 := ih u ((fun c a => a + sp_cloudG (sp_need (s (49 + 3 * l + 1))) t (sp_bits c)) c a) v (c + 1) (by omega) hk
        rw [e9] at k9
        exact k9
      · refine mp_goto (tgt := 160) dX12_clouds_119 rfl ?_
        refine mp_iinc (z := c + 1) (L' := [some (Value.ref 44), some (mp_i l), some (mp_i k), some (mp_i t), some (mp_i w), some (mp_i u), some (mp_l a), none, some (mp_l v), none, some (mp_i (c + 1)), none, none, none]) dX12_clouds_160 rfl (rfl) (by decide) rfl ?_
        refine mp_goto (tgt := 94) dX12_clouds_163 rfl ?_
        have e9 : (fun c a => a + sp_cloudG (sp_need (s (49 + 3 * l + 1))) t (sp_bits c)) c a = a := by show a + (if sp_bits c < _ then _ else _) = a; rw [if_pos (by omega)]; omega
        have k9 := ih u ((fun c a => a + sp_cloudG (sp_need (s (49 + 3 * l + 1))) t (sp_bits c)) c a) v (c + 1) (by omega) hk
        rw [e9] at k9
        exact k9
theorem zX12_clouds {s m img was num pro ask kp kk kf so sz el : Int → Int} {im pl ra re rm rf sd th : Int} {A B : mp_H}  {l : Int} {k : Int} {t : Int} {w : Int} (hA : A.length = 44) (hs : mp_sky s) (h_l : mp_w l) (h_k : mp_w k) (h_t : mp_w t) (h_w : mp_w w) : mp_Call (mX12_clouds, 3, 0, 0) [Value.ref 44, mp_i l, mp_i k, mp_i t, mp_i w] (A ++ (mp_ms s m img was num pro ask kp kk kf so sz el im pl ra re rm rf sd th ++ B)) (some (mp_l (sp_clouds s l k t w)), A ++ (mp_ms s m img was num pro ask kp kk kf so sz el im pl ra re rm rf sd th ++ B)) := by
  refine mp_Call.of (L := [some (Value.ref 44), some (mp_i l), some (mp_i k), some (mp_i t), some (mp_i w), none, none, none, none, none, none, none, none, none]) pnX12 (Nat.le_of_ble_eq_true rfl) rfl ?_
  have h0 := hs.1
  refine mp_iload_n dX12_clouds_0 rfl ?_
  refine mp_invS (z := (mX12_isLooker, 1, 0, 0)) (K' := (0, 0)) (σ1 := A ++ (mp_ms s m img was num pro ask kp kk kf so sz el im pl ra re rm rf sd th ++ B)) (as := [mp_i l]) (st := []) (st1 := [mp_i (if 0 ≤ l ∧ l ≤ 4 then 1 else 0)]) dX12_clouds_1 ssX12_128 (zX12_isLooker (l := l)  (by first | with_reducible assumption | omega)) ⟨Nat.le_of_ble_eq_true rfl, Nat.le_of_ble_eq_true rfl, Nat.le_of_ble_eq_true rfl, Nat.le_of_ble_eq_true rfl, Nat.le_of_ble_eq_true rfl⟩ rfl rfl rfl rfl ?_
  refine mp_ifb_eq (tgt := 35) dX12_clouds_4 rfl (fun h1 => ?_) (fun h1 => ?_)
  · refine mp_ldc2 (z := 1000000001) dX12_clouds_35 kcX12_218 rfl ?_
    exact mp_lreturn (st := []) dX12_clouds_38 rfl ⟨by decide, by decide⟩ ((mp_ansl (by unfold sp_clouds; first | (rw [if_pos (by omega)]; done) | (rw [if_neg (by omega)]; done))))
  · refine mp_aload_n dX12_clouds_7 rfl ?_
    refine mp_iload_n dX12_clouds_8 rfl ?_
    refine mp_invV (z := (mX12_isMeteor, 1, 0, 0)) (K' := (0, 0)) (σ1 := A ++ (mp_ms s m img was num pro ask kp kk kf so sz el im pl ra re rm rf sd th ++ B)) (as := [mp_i k]) (st := []) (st1 := [mp_i (if 0 ≤ k ∧ k ≤ s 0 - 1 then 1 else 0)]) dX12_clouds_9 svX12_158 (mp_lk hA 0 rfl) rfl rfl (zX12_isMeteor (k := k) (s := s) (m := m) (img := img) (was := was) (num := num) (pro := pro) (ask := ask) (kp := kp) (kk := kk) (kf := kf) (so := so) (sz := sz) (el := el) (im := im) (pl := pl) (ra := ra) (re := re) (rm := rm) (rf := rf) (sd := sd) (th := th) (by first | with_reducible assumption | omega) (by first | with_reducible assumption | omega) (by first | with_reducible assumption | omega)) ⟨Nat.le_of_ble_eq_true rfl, Nat.le_of_ble_eq_true rfl, Nat.le_of_ble_eq_true rfl, Nat.le_of_ble_eq_true rfl, Nat.le_of_ble_eq_true rfl⟩ rfl rfl rfl rfl ?_
    refine mp_ifb_eq (tgt := 35) dX12_clouds_12 rfl (fun h2 => ?_) (fun h2 => ?_)
    · refine mp_ldc2 (z := 1000000001) dX12_clouds_35 kcX12_218 rfl ?_
      exact mp_lreturn (st := []) dX12_clouds_38 rfl ⟨by decide, by decide⟩ ((mp_ansl (by unfold sp_clouds; first | (rw [if_pos (by omega)]; done) | (rw [if_neg (by omega)]; done))))
    · refine mp_iload_n dX12_clouds_15 rfl ?_
      refine mp_iconst dX12_clouds_16 ?_
      refine mp_bipush dX12_clouds_17 rfl ?_
      refine mp_invS (z := (mX12_isIn, 0, 0, 0)) (K' := (0, 0)) (σ1 := A ++ (mp_ms s m img was num pro ask kp kk kf so sz el im pl ra re rm rf sd th ++ B)) (as := [mp_i t, mp_i 2, mp_i 20]) (st := []) (st1 := [mp_i (if 2 ≤ t ∧ t ≤ 20 then 1 else 0)]) dX12_clouds_19 ssX12_53 (zX12_isIn (v := t) (a := 2) (b := 20)  (by first | with_reducible assumption | omega) (by first | with_reducible assumption | omega) (by first | with_reducible assumption | omega)) ⟨Nat.le_of_ble_eq_true rfl, Nat.le_of_ble_eq_true rfl, Nat.le_of_ble_eq_true rfl, Nat.le_of_ble_eq_true rfl, Nat.le_of_ble_eq_true rfl⟩ rfl rfl rfl rfl ?_
      refine mp_ifb_eq (tgt := 35) dX12_clouds_22 rfl (fun h3 => ?_) (fun h3 => ?_)
      · refine mp_ldc2 (z := 1000000001) dX12_clouds_35 kcX12_218 rfl ?_
        exact mp_lreturn (st := []) dX12_clouds_38 rfl ⟨by decide, by decide⟩ ((mp_ansl (by unfold sp_clouds; first | (rw [if_pos (by omega)]; done) | (rw [if_neg (by omega)]; done))))
      · refine mp_iload dX12_clouds_25 rfl ?_
        refine mp_iconst dX12_clouds_27 ?_
        refine mp_iconst dX12_clouds_28 ?_
        refine mp_invS (z := (mX12_isIn, 0, 0, 0)) (K' := (0, 0)) (σ1 := A ++ (mp_ms s m img was num pro ask kp kk kf so sz el im pl ra re rm rf sd th ++ B)) (as := [mp_i w, mp_i 0, mp_i 1]) (st := []) (st1 := [mp_i (if 0 ≤ w ∧ w ≤ 1 then 1 else 0)]) dX12_clouds_29 ssX12_53 (zX12_isIn (v := w) (a := 0) (b := 1)  (by first | with_reducible assumption | omega) (by first | with_reducible assumption | omega) (by first | with_reducible assumption | omega)) ⟨Nat.le_of_ble_eq_true rfl, Nat.le_of_ble_eq_true rfl, Nat.le_of_ble_eq_true rfl, Nat.le_of_ble_eq_true rfl, Nat.le_of_ble_eq_true rfl⟩ rfl rfl rfl rfl ?_
        refine mp_ifb_ne (tgt := 39) dX12_clouds_32 rfl (fun h4 => ?_) (fun h4 => ?_)
        · have hm := hs.2.1 k (by omega) (by omega)
          have hb9 := hs.2.2.1 l (by omega) (by omega)
          have hs9 := mp_seen_14 (kind := s (1 + 6 * k + 0)) (f := s (1 + 6 * k + 1)) (col := s (1 + 6 * k + 2)) (slope := s (1 + 6 * k + 3)) (roof := s (49 + 3 * l + 0)) (by omega)
          have hb9 := mp_bits_14 hs9
          have hbn := mp_bit_nn (sp_bits (sp_seen (s (1 + 6 * k + 0)) (s (1 + 6 * k + 1)) (s (1 + 6 * k + 2)) (s (1 + 6 * k + 3)) (s (49 + 3 * l + 0))))
          have hp9 := mp_pow20 (t := t) (by omega) (n := (sp_bits (sp_seen (s (1 + 6 * k + 0)) (s (1 + 6 * k + 1)) (s (1 + 6 * k + 2)) (s (1 + 6 * k + 3)) (s (49 + 3 * l + 0)))).toNat) (by omega)
          have hw9 := mp_ways_bd (need := sp_need (s (49 + 3 * l + 1))) (t := t) (by omega) (n := (sp_bits (sp_seen (s (1 + 6 * k + 0)) (s (1 + 6 * k + 1)) (s (1 + 6 * k + 2)) (s (1 + 6 * k + 3)) (s (49 + 3 * l + 0)))).toNat) (by omega)
          have hc9 : mp_fold (fun c a => a + sp_cloudG (sp_need (s (49 + 3 * l + 1))) t (sp_bits c)) (Int.toNat (mp_bit (sp_bits (sp_seen (s (1 + 6 * k + 0)) (s (1 + 6 * k + 1)) (s (1 + 6 * k + 2)) (s (1 + 6 * k + 3)) (s (49 + 3 * l + 0)))))) 0 0 = mp_ways (sp_cloudG (sp_need (s (49 + 3 * l + 1))) t) (sp_bits (sp_seen (s (1 + 6 * k + 0)) (s (1 + 6 * k + 1)) (s (1 + 6 * k + 2)) (s (1 + 6 * k + 3)) (s (49 + 3 * l + 0)))).toNat := by rw [show Int.toNat (mp_bit (sp_bits (sp_seen (s (1 + 6 * k + 0)) (s (1 + 6 * k + 1)) (s (1 + 6 * k + 2)) (s (1 + 6 * k + 3)) (s (49 + 3 * l + 0))))) = 2 ^ (sp_bits (sp_seen (s (1 + 6 * k + 0)) (s (1 + 6 * k + 1)) (s (1 + 6 * k + 2)) (s (1 + 6 * k + 3)) (s (49 + 3 * l + 0)))).toNat from by unfold mp_bit; rw [Int.toNat_natCast, Nat.one_shiftLeft]]; exact mp_ways_fold (sp_cloudG (sp_need (s (49 + 3 * l + 1))) t) (by omega)
          have ho9 : 1 * t ^ (sp_bits (sp_seen (s (1 + 6 * k + 0)) (s (1 + 6 * k + 1)) (s (1 + 6 * k + 2)) (s (1 + 6 * k + 3)) (s (49 + 3 * l + 0)))).toNat = t ^ (sp_bits (sp_seen (s (1 + 6 * k + 0)) (s (1 + 6 * k + 1)) (s (1 + 6 * k + 2)) (s (1 + 6 * k + 3)) (s (49 + 3 * l + 0)))).toNat := Int.one_mul _
          refine mp_aload_n dX12_clouds_39 rfl ?_
          refine mp_getfield dX12_clouds_40 fsX12_9_11 (mp_lk hA 0 rfl) rfl ?_
          refine mp_iload_n dX12_clouds_43 rfl ?_
          refine mp_aload_n dX12_clouds_44 rfl ?_
          refine mp_getfield dX12_clouds_45 fsX12_9_11 (mp_lk hA 0 rfl) rfl ?_
          refine mp_iload_n dX12_clouds_48 rfl ?_
          refine mp_iconst dX12_clouds_49 ?_
          refine mp_invS (z := (mX12_by, 0, 0, 0)) (K' := (0, 0)) (σ1 := A ++ (mp_ms s m img was num pro ask kp kk kf so sz el im pl ra re rm rf sd th ++ B)) (as := [mp_i l, mp_i 0]) (st := [Value.ref 45, mp_i k, Value.ref 45]) (st1 := [mp_i (49 + 3 * l + 0), Value.ref 45, mp_i k, Value.ref 45]) dX12_clouds_50 ssX12_49 (zX12_by (l := l) (x := 0)  ) ⟨Nat.le_of_ble_eq_true rfl, Nat.le_of_ble_eq_true rfl, Nat.le_of_ble_eq_true rfl, Nat.le_of_ble_eq_true rfl, Nat.le_of_ble_eq_true rfl⟩ rfl rfl rfl rfl ?_
          refine mp_iald dX12_clouds_53 (mp_lk hA 1 rfl) ⟨by omega, by omega⟩ (by omega) ?_
          refine mp_invS (z := (mX12_seenFrom, 2, 0, 0)) (K' := (0, 0)) (σ1 := A ++ (mp_ms s m img was num pro ask kp kk kf so sz el im pl ra re rm rf sd th ++ B)) (as := [Value.ref 45, mp_i k, mp_i (s (49 + 3 * l + 0))]) (st := []) (st1 := [mp_i (sp_seen (s (1 + 6 * k + 0)) (s (1 + 6 * k + 1)) (s (1 + 6 * k + 2)) (s (1 + 6 * k + 3)) (s (49 + 3 * l + 0)))]) dX12_clouds_54 ssX12_86 (zX12_seenFrom (r := 45) (k := k) (q := (s (49 + 3 * l + 0))) (s := s) (mp_lk hA 1 rfl) (by first | with_reducible assumption | omega) (by first | with_reducible assumption | omega) (by first | with_reducible assumption | omega)) ⟨Nat.le_of_ble_eq_true rfl, Nat.le_of_ble_eq_true rfl, Nat.le_of_ble_eq_true rfl, Nat.le_of_ble_eq_true rfl, Nat.le_of_ble_eq_true rfl⟩ rfl rfl rfl rfl ?_
          refine mp_invS (z := (mX12_bits, 0, 0, 0)) (K' := (0, 0)) (σ1 := A ++ (mp_ms s m img was num pro ask kp kk kf so sz el im pl ra re rm rf sd th ++ B)) (as := [mp_i (sp_seen (s (1 + 6 * k + 0)) (s (1 + 6 * k + 1)) (s (1 + 6 * k + 2)) (s (1 + 6 * k + 3)) (s (49 + 3 * l + 0)))]) (st := []) (st1 := [mp_i (sp_bits (sp_seen (s (1 + 6 * k + 0)) (s (1 + 6 * k + 1)) (s (1 + 6 * k + 2)) (s (1 + 6 * k + 3)) (s (49 + 3 * l + 0))))]) dX12_clouds_57 ssX12_178 (zX12_bits (v := (sp_seen (s (1 + 6 * k + 0)) (s (1 + 6 * k + 1)) (s (1 + 6 * k + 2)) (s (1 + 6 * k + 3)) (s (49 + 3 * l + 0))))  (by first | with_reducible assumption | omega)) ⟨Nat.le_of_ble_eq_true rfl, Nat.le_of_ble_eq_true rfl, Nat.le_of_ble_eq_true rfl, Nat.le_of_ble_eq_true rfl, Nat.le_of_ble_eq_true rfl⟩ rfl rfl rfl rfl ?_
          refine mp_istore (L' := [some (Value.ref 44), some (mp_i l), some (mp_i k), some (mp_i t), some (mp_i w), some (mp_i (sp_bits (sp_seen (s (1 + 6 * k + 0)) (s (1 + 6 * k + 1)) (s (1 + 6 * k + 2)) (s (1 + 6 * k + 3)) (s (49 + 3 * l + 0))))), none, none, none, none, none, none, none, none]) dX12_clouds_60 (by decide) rfl ?_
          refine mp_lconst (z := 0) dX12_clouds_62 rfl ?_
          refine mp_lstore (L' := [some (Value.ref 44), some (mp_i l), some (mp_i k), some (mp_i t), some (mp_i w), some (mp_i (sp_bits (sp_seen (s (1 + 6 * k + 0)) (s (1 + 6 * k + 1)) (s (1 + 6 * k + 2)) (s (1 + 6 * k + 3)) (s (49 + 3 * l + 0))))), some (mp_l 0), none, none, none, none, none, none, none]) dX12_clouds_63 (by decide) rfl ?_
          refine mp_lconst (z := 1) dX12_clouds_65 rfl ?_
          refine mp_lstore (L' := [some (Value.ref 44), some (mp_i l), some (mp_i k), some (mp_i t), some (mp_i w), some (mp_i (sp_bits (sp_seen (s (1 + 6 * k + 0)) (s (1 + 6 * k + 1)) (s (1 + 6 * k + 2)) (s (1 + 6 * k + 3)) (s (49 + 3 * l + 0))))), some (mp_l 0), none, some (mp_l 1), none, none, none, none, none]) dX12_clouds_66 (by decide) rfl ?_
          refine mp_iconst dX12_clouds_68 ?_
          refine mp_istore (L' := [some (Value.ref 44), some (mp_i l), some (mp_i k), some (mp_i t), some (mp_i w), some (mp_i (sp_bits (sp_seen (s (1 + 6 * k + 0)) (s (1 + 6 * k + 1)) (s (1 + 6 * k + 2)) (s (1 + 6 * k + 3)) (s (49 + 3 * l + 0))))), some (mp_l 0), none, some (mp_l 1), none, some (mp_i 0), none, none, none]) dX12_clouds_69 (by decide) rfl ?_
          refine lX12_clouds_71 (l := l) (k := k) (t := t) (w := w)  (by first | with_reducible assumption | omega) (by first | with_reducible assumption | omega) (by first | with_reducible assumption | omega) (by first | with_reducible assumption | omega) (by first | with_reducible assumption | omega) (by first | with_reducible assumption | omega) (Int.toNat (sp_bits (sp_seen (s (1 + 6 * k + 0)) (s (1 + 6 * k + 1)) (s (1 + 6 * k + 2)) (s (1 + 6 * k + 3)) (s (49 + 3 * l + 0))))) (sp_bits (sp_seen (s (1 + 6 * k + 0)) (s (1 + 6 * k + 1)) (s (1 + 6 * k + 2)) (s (1 + 6 * k + 3)) (s (49 + 3 * l + 0)))) 0 1 0 (by omega) ?_
          refine mp_iconst dX12_clouds_91 ?_
          refine mp_istore (L' := [some (Value.ref 44), some (mp_i l), some (mp_i k), some (mp_i t), some (mp_i w), some (mp_i (sp_bits (sp_seen (s (1 + 6 * k + 0)) (s (1 + 6 * k + 1)) (s (1 + 6 * k + 2)) (s (1 + 6 * k + 3)) (s (49 + 3 * l + 0))))), some (mp_l 0), none, some (mp_l (1 * t ^ (Int.toNat (sp_bits (sp_seen (s (1 + 6 * k + 0)) (s (1 + 6 * k + 1)) (s (1 + 6 * k + 2)) (s (1 + 6 * k + 3)) (s (49 + 3 * l + 0))))))), none, some (mp_i 0), none, none, none]) dX12_clouds_92 (by decide) rfl ?_
          refine lX12_clouds_94 (l := l) (k := k) (t := t) (w := w)  (by first | with_reducible assumption | omega) (by first | with_reducible assumption | omega) (by first | with_reducible assumption | omega) (by first | with_reducible assumption | omega) (by first | with_reducible assumption | omega) (by first | with_reducible assumption | omega) (Int.toNat (mp_bit (sp_bits (sp_seen (s (1 + 6 * k + 0)) (s (1 + 6 * k + 1)) (s (1 + 6 * k + 2)) (s (1 + 6 * k + 3)) (s (49 + 3 * l + 0)))))) (sp_bits (sp_seen (s (1 + 6 * k + 0)) (s (1 + 6 * k + 1)) (s (1 + 6 * k + 2)) (s (1 + 6 * k + 3)) (s (49 + 3 * l + 0)))) 0 (1 * t ^ (Int.toNat (sp_bits (sp_seen (s (1 + 6 * k + 0)) (s (1 + 6 * k + 1)) (s (1 + 6 * k + 2)) (s (1 + 6 * k + 3)) (s (49 + 3 * l + 0)))))) 0 (by omega) ?_
          rw [hc9, ho9]
          refine mp_lload dX12_clouds_166 rfl ?_
          refine mp_lload dX12_clouds_168 rfl ?_
          refine mp_iload dX12_clouds_170 rfl ?_
          refine mp_invS (z := (mX12_partOf, 1, 0, 0)) (K' := (0, 0)) (σ1 := A ++ (mp_ms s m img was num pro ask kp kk kf so sz el im pl ra re rm rf sd th ++ B)) (as := [mp_l (mp_ways (sp_cloudG (sp_need (s (49 + 3 * l + 1))) t) (sp_bits (sp_seen (s (1 + 6 * k + 0)) (s (1 + 6 * k + 1)) (s (1 + 6 * k + 2)) (s (1 + 6 * k + 3)) (s (49 + 3 * l + 0)))).toNat), mp_l (t ^ (sp_bits (sp_seen (s (1 + 6 * k + 0)) (s (1 + 6 * k + 1)) (s (1 + 6 * k + 2)) (s (1 + 6 * k + 3)) (s (49 + 3 * l + 0)))).toNat), mp_i w]) (st := []) (st1 := [mp_l (sp_part (mp_ways (sp_cloudG (sp_need (s (49 + 3 * l + 1))) t) (sp_bits (sp_seen (s (1 + 6 * k + 0)) (s (1 + 6 * k + 1)) (s (1 + 6 * k + 2)) (s (1 + 6 * k + 3)) (s (49 + 3 * l + 0)))).toNat) (t ^ (sp_bits (sp_seen (s (1 + 6 * k + 0)) (s (1 + 6 * k + 1)) (s (1 + 6 * k + 2)) (s (1 + 6 * k + 3)) (s (49 + 3 * l + 0)))).toNat) w)]) dX12_clouds_172 ssX12_220 (zX12_partOf (a := (mp_ways (sp_cloudG (sp_need (s (49 + 3 * l + 1))) t) (sp_bits (sp_seen (s (1 + 6 * k + 0)) (s (1 + 6 * k + 1)) (s (1 + 6 * k + 2)) (s (1 + 6 * k + 3)) (s (49 + 3 * l + 0)))).toNat)) (b := (t ^ (sp_bits (sp_seen (s (1 + 6 * k + 0)) (s (1 + 6 * k + 1)) (s (1 + 6 * k + 2)) (s (1 + 6 * k + 3)) (s (49 + 3 * l + 0)))).toNat)) (w := w)  (by first | with_reducible assumption | omega) (by first | with_reducible assumption | omega) (by first | with_reducible assumption | omega)) ⟨Nat.le_of_ble_eq_true rfl, Nat.le_of_ble_eq_true rfl, Nat.le_of_ble_eq_true rfl, Nat.le_of_ble_eq_true rfl, Nat.le_of_ble_eq_true rfl⟩ rfl rfl rfl rfl ?_
          exact mp_lreturn (st := []) dX12_clouds_175 rfl ⟨by decide, by decide⟩ ((mp_ansl (by unfold sp_clouds; first | (rw [if_pos (by omega)]; done) | (rw [if_neg (by omega)]; done))))
        · refine mp_ldc2 (z := 1000000001) dX12_clouds_35 kcX12_218 rfl ?_
          exact mp_lreturn (st := []) dX12_clouds_38 rfl ⟨by decide, by decide⟩ ((mp_ansl (by unfold sp_clouds; first | (rw [if_pos (by omega)]; done) | (rw [if_neg (by omega)]; done))))
