/-! ===== the class: laws, clouds ===== -/
theorem mp_part_pos {a b w : Int} (ha : 0 ≤ a) (hb : 0 < b) (hw : 0 ≤ w ∧ w ≤ 1) : (if w = 0 then a else b) / (Int.gcd a b : Int) = sp_part a b w := by
  have h := mp_part_max (a := a) (b := b) (w := w) ha (by omega) (by omega) hw
  rw [show (if 1 < b then b else 1) = b by split <;> omega] at h
  exact h
/-- how many ways there are to choose -/
def mp_ch : Nat → Nat → Nat
  | _, 0 => 1
  | 0, _ + 1 => 0
  | n + 1, k + 1 => mp_ch n k + mp_ch n (k + 1)
theorem mp_ch_0 (n : Nat) : mp_ch n 0 = 1 := by cases n <;> rfl
theorem mp_ch_s (n k : Nat) : mp_ch (n + 1) (k + 1) = mp_ch n k + mp_ch n (k + 1) := rfl
theorem mp_ch_hi : ∀ (n k : Nat), n < k → mp_ch n k = 0 := by
  intro n
  induction n with
  | zero => intro k h; match k, h with | k + 1, _ => rfl
  | succ n ih => intro k h; match k, h with | k + 1, h => rw [mp_ch_s, ih k (by omega), ih (k + 1) (by omega)]
theorem mp_ch_mul : ∀ (n k : Nat), (k + 1) * mp_ch n (k + 1) + k * mp_ch n k = n * mp_ch n k := by
  intro n
  induction n with
  | zero =>
    intro k
    cases k with
    | zero => rfl
    | succ k => rw [mp_ch_hi 0 (k + 1 + 1) (by omega), mp_ch_hi 0 (k + 1) (by omega)]; omega
  | succ n ih =>
    intro k
    cases k with
    | zero =>
      have h := ih 0
      rw [mp_ch_s, mp_ch_0, mp_ch_0]
      rw [mp_ch_0] at h
      omega
    | succ k =>
      have h1 := ih k
      have h2 := ih (k + 1)
      rw [mp_ch_s, mp_ch_s]
      generalize mp_ch n (k + 1 + 1) = c at *
      generalize mp_ch n (k + 1) = b at *
      generalize mp_ch n k = a at *
      rw [Nat.mul_add, Nat.mul_add, Nat.add_mul n 1 (a + b), Nat.mul_add n a b]
      rw [Nat.add_mul k 1 a]
      rw [Nat.add_mul (k + 1) 1 b]
      omega
theorem mp_ch_le : ∀ (n k : Nat), mp_ch n k ≤ 2 ^ n := by
  intro n
  induction n with
  | zero => intro k; match k with
            | 0 => decide
            | k + 1 => exact Nat.zero_le _
  | succ n ih => intro k; match k with
                 | 0 => rw [mp_ch_0]; exact Nat.one_le_two_pow
                 | k + 1 => rw [mp_ch_s, Nat.pow_succ]; have := ih k; have := ih (k + 1); omega
theorem mp_ch_div {n k : Nat} (h : k ≤ n) : ((mp_ch n k : Nat) : Int) * ((n : Int) - (k : Int)) / ((k : Int) + 1) = ((mp_ch n (k + 1) : Nat) : Int) := by
  have e := mp_ch_mul n k
  have e2 : ((mp_ch n k : Nat) : Int) * ((n : Int) - (k : Int)) = ((mp_ch n (k + 1) : Nat) : Int) * ((k : Int) + 1) := by
    have e3 : (((k + 1) * mp_ch n (k + 1) + k * mp_ch n k : Nat) : Int) = ((n * mp_ch n k : Nat) : Int) := by rw [e]
    push_cast at e3
    rw [Int.mul_sub, Int.mul_comm (mp_ch n k : Int) (n : Int), Int.mul_comm (mp_ch n k : Int) (k : Int), Int.mul_comm (mp_ch n (k + 1) : Int)]
    omega
  rw [e2, Int.mul_ediv_cancel _ (by omega)]
theorem mp_ch_sum (g : Int → Int) : ∀ n : Nat, ∀ g : Int → Int, mp_ways g n = mp_sum (fun k => ((mp_ch n k : Nat) : Int) * g (k : Int)) (n + 1) := by
  intro n
  induction n with
  | zero => intro g; rw [mp_ways_0]; show g 0 = 0 + ((1 : Nat) : Int) * g ((0 : Nat) : Int); rw [Int.zero_add]; show g 0 = 1 * g 0; rw [Int.one_mul]
  | succ n ih =>
    intro g
    rw [mp_ways_s, ih g, ih (fun k => g (k + 1))]
    rw [mp_sum_shift (fun k => ((mp_ch (n + 1) k : Nat) : Int) * g (k : Int)) (n + 1)]
    rw [mp_sum_shift (fun k => ((mp_ch n k : Nat) : Int) * g (k : Int)) n]
    have e : mp_sum (fun j => ((mp_ch (n + 1) (j + 1) : Nat) : Int) * g ((j + 1 : Nat) : Int)) (n + 1) = mp_sum (fun k => ((mp_ch n k : Nat) : Int) * g ((k : Int) + 1)) (n + 1) + mp_sum (fun j => ((mp_ch n (j + 1) : Nat) : Int) * g ((j + 1 : Nat) : Int)) (n + 1) := by
      have key : ∀ m, mp_sum (fun j => ((mp_ch (n + 1) (j + 1) : Nat) : Int) * g ((j + 1 : Nat) : Int)) m = mp_sum (fun k => ((mp_ch n k : Nat) : Int) * g ((k : Int) + 1)) m + mp_sum (fun j => ((mp_ch n (j + 1) : Nat) : Int) * g ((j + 1 : Nat) : Int)) m := by
        intro m
        induction m with
        | zero => rfl
        | succ m ihm =>
          show mp_sum _ m + ((mp_ch (n + 1) (m + 1) : Nat) : Int) * g ((m + 1 : Nat) : Int) = (mp_sum _ m + ((mp_ch n m : Nat) : Int) * g ((m : Int) + 1)) + (mp_sum _ m + ((mp_ch n (m + 1) : Nat) : Int) * g ((m + 1 : Nat) : Int))
          rw [ihm, mp_ch_s]
          rw [show ((mp_ch n m + mp_ch n (m + 1) : Nat) : Int) = (mp_ch n m : Int) + (mp_ch n (m + 1) : Int) from rfl, Int.add_mul]
          rw [show ((m + 1 : Nat) : Int) = (m : Int) + 1 from rfl]
          omega
      exact key _
    rw [e]
    have e2 : mp_sum (fun j => ((mp_ch n (j + 1) : Nat) : Int) * g ((j + 1 : Nat) : Int)) (n + 1) = mp_sum (fun j => ((mp_ch n (j + 1) : Nat) : Int) * g ((j + 1 : Nat) : Int)) n := by
      show mp_sum _ n + ((mp_ch n (n + 1) : Nat) : Int) * g ((n + 1 : Nat) : Int) = _
      rw [mp_ch_hi n (n + 1) (by omega)]
      show _ + 0 * _ = _
      rw [Int.zero_mul, Int.add_zero]
    rw [e2, mp_ch_0, mp_ch_0]
    omega

theorem lX11_laws_65 {s si sp : Int → Int} {f fi fp : Nat → Option Nat} {im : Int} {hd : Int → Int} {kn : Nat → Option Nat} {wd ak ke cv vo so sz el : Int → Int} {A B : mp_H} {kk kf : Int → Int} {d : Int} {x : Int} {w : Int} (hA : A.length = 1) (hsh : ∀ d, 0 ≤ d → d ≤ 7 → mp_shf hd kk kf so sz d) (hel : ∀ x, mp_w (el x)) (h_d : mp_w d) (h_x : mp_w x) (h_w : mp_w w) {R9 : mp_An} : ∀ (n : Nat) (C : mp_H) (c : Nat) (e : Nat) (t : Int) (v : Int), (((0 ≤ d ∧ d ≤ 7) ∧ (0 ≤ x ∧ x ≤ 9) ∧ sz d % 2 = 0) ∧ (0 ≤ t ∧ t + (n : Nat) = 8) ∧ (c + n = 8 ∧ e + 7 * n = 56) ∧ 0 ≤ v ∧ v < 256) → mp_At (mX11_laws, 5, 8, 56) (c + n, e + 7 * n) 101 [some (Value.ref 1), some (mp_i d), some (mp_i x), some (mp_i w), none, some (mp_i (mp_fold (sp_lawStep sz el d x) n t v)), none] [] (A ++ (mp_cs s si sp f fi fp im hd kn wd ak ke cv vo so sz el ++ (C ++ mp_lawC x n t))) R9 → mp_At (mX11_laws, 5, 8, 56) (c, e) 65 [some (Value.ref 1), some (mp_i d), some (mp_i x), some (mp_i w), some (Value.ref (28 + 2 * Int.toNat d)), some (mp_i v), some (mp_i t)] [] (A ++ (mp_cs s si sp f fi fp im hd kn wd ak ke cv vo so sz el ++ C)) R9 := by
  intro n
  induction n with
  | zero =>
    intro C c e t v hi hk
    have hsh9 := hsh d hi.1.1.1 hi.1.1.2
    refine mp_iload dX11_laws_65 rfl ?_
    refine mp_bipush dX11_laws_67 rfl ?_
    refine mp_icmp_ge (tgt := 101) dX11_laws_69 rfl ⟨by omega, by omega⟩ ⟨by omega, by omega⟩ (fun h1 => ?_) (fun h1 => ?_)
    · refine mp_drop (L' := [some (Value.ref 1), some (mp_i d), some (mp_i x), some (mp_i w), none, some (mp_i v), none]) [true, true, true, true, false, true, false] rfl ?_
      rw [show C ++ mp_lawC x 0 t = C from List.append_nil C] at hk
      exact hk
    · exfalso; omega
  | succ n ih =>
    intro C c e t v hi hk
    have hbt := mp_bit_256 (k := t) (by omega)
    have hbn := mp_bit_nn t
    have hov := mp_or_256 (a := v) (b := mp_bit t) (by omega) (by omega)
    have hon := mp_or_nn v (mp_bit t)
    have hsh9 := hsh d hi.1.1.1 hi.1.1.2
    refine mp_iload dX11_laws_65 rfl ?_
    refine mp_bipush dX11_laws_67 rfl ?_
    refine mp_icmp_ge (tgt := 101) dX11_laws_69 rfl ⟨by omega, by omega⟩ ⟨by omega, by omega⟩ (fun h1 => ?_) (fun h1 => ?_)
    · exfalso; omega
    · refine mp_iload dX11_laws_72 rfl ?_
      refine mp_iload_n dX11_laws_74 rfl ?_
      refine mp_invS (z := (mX11_madeOf, 4, 1, 7)) (K' := (c + 1, e + 7)) (σ1 := A ++ (mp_cs s si sp f fi fp im hd kn wd ak ke cv vo so sz el ++ (C ++ [mp_nw t x]))) (as := [mp_i t, mp_i x]) (st := []) (st1 := [Value.ref (44 + List.length C)]) dX11_laws_75 ssX11_142 (zX11_madeOfC (kd := t) (fg := x) (s := s) (si := si) (sp := sp) (f := f) (fi := fi) (fp := fp) (im := im) (hd := hd) (kn := kn) (wd := wd) (ak := ak) (ke := ke) (cv := cv) (vo := vo) (so := so) (sz := sz) (el := el) (B := C) (by first | with_reducible assumption | omega) (by first | with_reducible assumption | omega) (by first | with_reducible assumption | omega)) ⟨Nat.le_of_ble_eq_true rfl, Nat.le_of_ble_eq_true rfl, (by show c + 1 ≤ 8; omega), (by show e + 7 ≤ 56; omega), Nat.le_of_ble_eq_true rfl⟩ rfl rfl rfl rfl ?_
      refine mp_aload dX11_laws_78 rfl ?_
      refine mp_invS (z := (mX11_obeys, 3, 0, 0)) (K' := (c + 1, e + 7)) (σ1 := A ++ (mp_cs s si sp f fi fp im hd kn wd ak ke cv vo so sz el ++ (C ++ [mp_nw t x]))) (as := [Value.ref (44 + List.length C), Value.ref (28 + 2 * Int.toNat d)]) (st := []) (st1 := [mp_i (sc_law (sp_elm el d) (sp_lasts t x) (sp_bright t x) (Int.toNat ((sz d) / 2)) 0)]) dX11_laws_80 ssX11_289 (zX11_obeys (a := (44 + List.length C)) (r := (28 + 2 * Int.toNat d)) (kd := t) (f := x) (co := 0) (sl := 0) (ni := 0) (la := 0) (br := 0) (q := (28 + 2 * Int.toNat d + 1)) (o := (so d)) (z := (sz d)) (e := (sp_elm el d)) (mp_csNew hA) (mp_csR0 hA (d := d) ⟨by omega, by omega⟩) (mp_csR1 hA (d := d) ⟨by omega, by omega⟩) (by first | with_reducible assumption | omega) (by first | with_reducible assumption | omega) (by first | with_reducible assumption | omega) (by first | with_reducible assumption | omega) (fun x => mp_elm_w hel x)) ⟨Nat.le_of_ble_eq_true rfl, Nat.le_of_ble_eq_true rfl, (by show c + 1 + 0 ≤ 8; omega), (by show e + 7 + 0 ≤ 56; omega), Nat.le_of_ble_eq_true rfl⟩ rfl rfl rfl rfl ?_
      refine mp_top (y := sp_law sz el d x t) (sc_law_eq _ _ (by omega) (by omega)) ?_
      have hlw : sp_law sz el d x t = 0 ∨ sp_law sz el d x t = 1 := mp_lawN_bd _ _ _ _ _ _ _ (Or.inr rfl)
      refine mp_if_eq (tgt := 95) dX11_laws_83 rfl ⟨by omega, by omega⟩ (fun h2 => ?_) (fun h2 => ?_)
      · refine mp_iinc (z := t + 1) (L' := [some (Value.ref 1), some (mp_i d), some (mp_i x), some (mp_i w), some (Value.ref (28 + 2 * Int.toNat d)), some (mp_i v), some (mp_i (t + 1))]) dX11_laws_95 rfl (rfl) (by decide) rfl ?_
        refine mp_goto (tgt := 65) dX11_laws_98 rfl ?_
        have e9 : (sp_lawStep sz el d x) t v = v := by unfold sp_lawStep; first | (rw [if_pos (by omega)]; done) | (rw [if_neg (by omega)]; done)
        have k9 := ih (C ++ [mp_nw t x]) (c + 1) (e + 7) (t + 1) ((sp_lawStep sz el d x) t v) (by rw [e9]; omega) (by rw [← mp_lawC_s, show c + 1 + n = c + (n + 1) by omega, show e + 7 + 7 * n = e + 7 * (n + 1) by omega]; exact hk)
        rw [e9] at k9
        exact k9
      · refine mp_iload dX11_laws_86 rfl ?_
        refine mp_iconst dX11_laws_88 ?_
        refine mp_iload dX11_laws_89 rfl ?_
        refine mp_ishl (z := mp_bit t) dX11_laws_91 (mp_z_bit ⟨by omega, by omega⟩) ?_
        refine mp_ior (z := mp_or v (mp_bit t)) dX11_laws_92 (mp_z_or (by first | omega | exact mp_bit_nn _ | exact mp_or_nn _ _ | exact mp_and_nn _ _ | exact mp_shr_nn _ _) (by first | omega | exact mp_bit_nn _ | exact mp_or_nn _ _ | exact mp_and_nn _ _ | exact mp_shr_nn _ _)) ?_
        refine mp_istore (L' := [some (Value.ref 1), some (mp_i d), some (mp_i x), some (mp_i w), some (Value.ref (28 + 2 * Int.toNat d)), some (mp_i (mp_or v (mp_bit t))), some (mp_i t)]) dX11_laws_93 (by decide) rfl ?_
        refine mp_iinc (z := t + 1) (L' := [some (Value.ref 1), some (mp_i d), some (mp_i x), some (mp_i w), some (Value.ref (28 + 2 * Int.toNat d)), some (mp_i (mp_or v (mp_bit t))), some (mp_i (t + 1))]) dX11_laws_95 rfl (rfl) (by decide) rfl ?_
        refine mp_goto (tgt := 65) dX11_laws_98 rfl ?_
        have e9 : (sp_lawStep sz el d x) t v = mp_or v (mp_bit t) := by unfold sp_lawStep; first | (rw [if_pos (by omega)]; done) | (rw [if_neg (by omega)]; done)
        have k9 := ih (C ++ [mp_nw t x]) (c + 1) (e + 7) (t + 1) ((sp_lawStep sz el d x) t v) (by rw [e9]; omega) (by rw [← mp_lawC_s, show c + 1 + n = c + (n + 1) by omega, show e + 7 + 7 * n = e + 7 * (n + 1) by omega]; exact hk)
        rw [e9] at k9
        exact k9
theorem zX11_laws {s si sp : Int → Int} {f fi fp : Nat → Option Nat} {im : Int} {hd : Int → Int} {kn : Nat → Option Nat} {wd ak ke cv vo so sz el : Int → Int} {A B : mp_H} {kk kf : Int → Int} {d : Int} {x : Int} {w : Int} (hA : A.length = 1) (hsh : ∀ d, 0 ≤ d → d ≤ 7 → mp_shf hd kk kf so sz d) (hel : ∀ x, mp_w (el x)) (h_d : mp_w d) (h_x : mp_w x) (h_w : mp_w w) : mp_Call (mX11_laws, 5, 8, 56) [Value.ref 1, mp_i d, mp_i x, mp_i w] (A ++ (mp_cs s si sp f fi fp im hd kn wd ak ke cv vo so sz el ++ B)) (some (mp_i (sp_laws hd so sz el d x w)), A ++ (mp_cs s si sp f fi fp im hd kn wd ak ke cv vo so sz el ++ (if ((0 ≤ d ∧ d ≤ 7) ∧ (0 ≤ x ∧ x ≤ 9) ∧ (0 ≤ w ∧ w ≤ 1)) ∧ hd d = 2 ∧ sz d % 2 = 0 then B ++ mp_lawC x 8 0 else B))) := by
  refine mp_Call.of (L := [some (Value.ref 1), some (mp_i d), some (mp_i x), some (mp_i w), none, none, none]) pnX11 (Nat.le_of_ble_eq_true rfl) rfl ?_
  refine mp_iload_n dX11_laws_0 rfl ?_
  refine mp_bipush dX11_laws_1 rfl ?_
  refine mp_invS (z := (mX11_isBelow, 0, 0, 0)) (K' := (0, 0)) (σ1 := A ++ (mp_cs s si sp f fi fp im hd kn wd ak ke cv vo so sz el ++ B)) (as := [mp_i d, mp_i 8]) (st := []) (st1 := [mp_i (if 0 ≤ d ∧ d < 8 then 1 else 0)]) dX11_laws_3 ssX11_54 (zX11_isBelow (v := d) (n := 8) (by first | with_reducible assumption | omega) (by first | with_reducible assumption | omega)) ⟨Nat.le_of_ble_eq_true rfl, Nat.le_of_ble_eq_true rfl, Nat.le_of_ble_eq_true rfl, Nat.le_of_ble_eq_true rfl, Nat.le_of_ble_eq_true rfl⟩ rfl rfl rfl rfl ?_
  refine mp_ifb_eq (tgt := 26) dX11_laws_6 rfl (fun h1 => ?_) (fun h1 => ?_)
  · refine mp_iconst dX11_laws_26 ?_
    exact mp_ireturn (st := []) dX11_laws_27 rfl ⟨by decide, by decide⟩ ((by rw [if_neg (by omega)]; exact mp_ans (sp_laws_bad (by omega))))
  · refine mp_iload_n dX11_laws_9 rfl ?_
    refine mp_bipush dX11_laws_10 rfl ?_
    refine mp_invS (z := (mX11_isBelow, 0, 0, 0)) (K' := (0, 0)) (σ1 := A ++ (mp_cs s si sp f fi fp im hd kn wd ak ke cv vo so sz el ++ B)) (as := [mp_i x, mp_i 10]) (st := []) (st1 := [mp_i (if 0 ≤ x ∧ x < 10 then 1 else 0)]) dX11_laws_12 ssX11_54 (zX11_isBelow (v := x) (n := 10) (by first | with_reducible assumption | omega) (by first | with_reducible assumption | omega)) ⟨Nat.le_of_ble_eq_true rfl, Nat.le_of_ble_eq_true rfl, Nat.le_of_ble_eq_true rfl, Nat.le_of_ble_eq_true rfl, Nat.le_of_ble_eq_true rfl⟩ rfl rfl rfl rfl ?_
    refine mp_ifb_eq (tgt := 26) dX11_laws_15 rfl (fun h2 => ?_) (fun h2 => ?_)
    · refine mp_iconst dX11_laws_26 ?_
      exact mp_ireturn (st := []) dX11_laws_27 rfl ⟨by decide, by decide⟩ ((by rw [if_neg (by omega)]; exact mp_ans (sp_laws_bad (by omega))))
    · refine mp_iload_n dX11_laws_18 rfl ?_
      refine mp_iconst dX11_laws_19 ?_
      refine mp_invS (z := (mX11_isBelow, 0, 0, 0)) (K' := (0, 0)) (σ1 := A ++ (mp_cs s si sp f fi fp im hd kn wd ak ke cv vo so sz el ++ B)) (as := [mp_i w, mp_i 2]) (st := []) (st1 := [mp_i (if 0 ≤ w ∧ w < 2 then 1 else 0)]) dX11_laws_20 ssX11_54 (zX11_isBelow (v := w) (n := 2) (by first | with_reducible assumption | omega) (by first | with_reducible assumption | omega)) ⟨Nat.le_of_ble_eq_true rfl, Nat.le_of_ble_eq_true rfl, Nat.le_of_ble_eq_true rfl, Nat.le_of_ble_eq_true rfl, Nat.le_of_ble_eq_true rfl⟩ rfl rfl rfl rfl ?_
      refine mp_ifb_ne (tgt := 28) dX11_laws_23 rfl (fun h3 => ?_) (fun h3 => ?_)
      · refine mp_aload_n dX11_laws_28 rfl ?_
        refine mp_iload_n dX11_laws_29 rfl ?_
        have hsh4 := hsh d (by omega) (by omega)
        by_cases hr9 : hd d = 2
        · refine mp_invV (z := (mX11_rowOn, 0, 0, 0)) (K' := (0, 0)) (σ1 := A ++ (mp_cs s si sp f fi fp im hd kn wd ak ke cv vo so sz el ++ B)) (as := [mp_i d]) (st := []) (st1 := [Value.ref (28 + 2 * Int.toNat d)]) dX11_laws_30 svX11_58 (mp_lkP hA 0 rfl) rfl rfl (zX11_rowOn (d := d) (s := s) (si := si) (sp := sp) (f := f) (fi := fi) (fp := fp) (im := im) (hd := hd) (kn := kn) (wd := wd) (ak := ak) (ke := ke) (cv := cv) (vo := vo) (so := so) (sz := sz) (el := el) (B := B) (kk := kk) (kf := kf) (by first | with_reducible assumption | omega) (by first | with_reducible assumption | omega) (by first | with_reducible assumption | omega) (by first | with_reducible assumption | omega)) ⟨Nat.le_of_ble_eq_true rfl, Nat.le_of_ble_eq_true rfl, Nat.le_of_ble_eq_true rfl, Nat.le_of_ble_eq_true rfl, Nat.le_of_ble_eq_true rfl⟩ rfl rfl rfl rfl ?_
          refine mp_astore (L' := [some (Value.ref 1), some (mp_i d), some (mp_i x), some (mp_i w), some (Value.ref (28 + 2 * Int.toNat d)), none, none]) dX11_laws_33 (by decide) rfl ?_
          refine mp_aload dX11_laws_35 rfl ?_
          refine mp_ifnonnull_r (tgt := 46) dX11_laws_37 rfl ?_
          refine mp_aload dX11_laws_46 rfl ?_
          refine mp_getfield dX11_laws_48 fsX11_80_9 (mp_csR0 hA (d := d) ⟨by omega, by omega⟩) rfl ?_
          refine mp_iconst dX11_laws_51 ?_
          refine mp_irem (z := (sz d) % 2) dX11_laws_52 ⟨by omega, by omega⟩ ⟨by omega, by omega⟩ rfl ?_
          refine mp_if_eq (tgt := 59) dX11_laws_53 rfl ⟨by omega, by omega⟩ (fun h5 => ?_) (fun h5 => ?_)
          · refine mp_iconst dX11_laws_59 ?_
            refine mp_istore (L' := [some (Value.ref 1), some (mp_i d), some (mp_i x), some (mp_i w), some (Value.ref (28 + 2 * Int.toNat d)), some (mp_i 0), none]) dX11_laws_60 (by decide) rfl ?_
            refine mp_iconst dX11_laws_62 ?_
            refine mp_istore (L' := [some (Value.ref 1), some (mp_i d), some (mp_i x), some (mp_i w), some (Value.ref (28 + 2 * Int.toNat d)), some (mp_i 0), some (mp_i 0)]) dX11_laws_63 (by decide) rfl ?_
            refine lX11_laws_65 (s := s) (si := si) (sp := sp) (f := f) (fi := fi) (fp := fp) (im := im) (hd := hd) (kn := kn) (wd := wd) (ak := ak) (ke := ke) (cv := cv) (vo := vo) (so := so) (sz := sz) (el := el) (B := B) (kk := kk) (kf := kf) (d := d) (x := x) (w := w) hA hsh hel h_d h_x h_w 8 B 0 0 0 0 (by omega) ?_
            have hlb := mp_lawsSet_bd sz el d x
            refine mp_loc (j := 5) (x := mp_fold (sp_lawStep sz el d x) 8 0 0) (y := sp_lawsSet sz el d x) rfl rfl (L' := [some (Value.ref 1), some (mp_i d), some (mp_i x), some (mp_i w), none, some (mp_i (sp_lawsSet sz el d x)), none]) rfl ?_
            refine mp_iload_n dX11_laws_101 rfl ?_
            refine mp_if_ne (tgt := 110) dX11_laws_102 rfl ⟨by omega, by omega⟩ (fun h6 => ?_) (fun h6 => ?_)
            · refine mp_iload dX11_laws_110 rfl ?_
              refine mp_invS (z := (mJ6_bitCount_0f7a4, 0, 0, 0)) (K' := (8, 56)) (σ1 := A ++ (mp_cs s si sp f fi fp im hd kn wd ak ke cv vo so sz el ++ (B ++ mp_lawC x 8 0))) (as := [mp_i (sp_lawsSet sz el d x)]) (st := []) (st1 := [mp_i (sp_bits (sp_lawsSet sz el d x))]) dX11_laws_112 ssX11_195 (zJ6_bitCount_0f7a4 (v := (sp_lawsSet sz el d x)) (by first | with_reducible assumption | omega)) ⟨Nat.le_of_ble_eq_true rfl, Nat.le_of_ble_eq_true rfl, Nat.le_of_ble_eq_true rfl, Nat.le_of_ble_eq_true rfl, Nat.le_of_ble_eq_true rfl⟩ rfl rfl rfl rfl ?_
              exact mp_ireturn (st := []) dX11_laws_115 rfl ⟨by decide, by decide⟩ ((by rw [if_pos (by omega)]; exact mp_ans ((sp_laws_ok (by omega) (by omega) (by omega) hr9 (by omega)).trans (by first | (rw [if_pos (by omega)]; done) | (rw [if_neg (by omega)]; done)))))
            · refine mp_iload dX11_laws_105 rfl ?_
              refine mp_goto (tgt := 115) dX11_laws_107 rfl ?_
              exact mp_ireturn (st := []) dX11_laws_115 rfl ⟨by decide, by decide⟩ ((by rw [if_pos (by omega)]; exact mp_ans ((sp_laws_ok (by omega) (by omega) (by omega) hr9 (by omega)).trans (by first | (rw [if_pos (by omega)]; done) | (rw [if_neg (by omega)]; done)))))
          · refine mp_bipush dX11_laws_56 rfl ?_
            exact mp_ireturn (st := []) dX11_laws_58 rfl ⟨by decide, by decide⟩ ((by rw [if_neg (by omega)]; exact mp_ans (sp_laws_13 (by omega) (by omega) (by omega) hr9 (by omega))))
        · refine mp_invV (z := (mX11_rowOn, 0, 0, 0)) (K' := (0, 0)) (σ1 := A ++ (mp_cs s si sp f fi fp im hd kn wd ak ke cv vo so sz el ++ B)) (as := [mp_i d]) (st := []) (st1 := [Value.null]) dX11_laws_30 svX11_58 (mp_lkP hA 0 rfl) rfl rfl (zX11_rowOnN (d := d) (s := s) (si := si) (sp := sp) (f := f) (fi := fi) (fp := fp) (im := im) (hd := hd) (kn := kn) (wd := wd) (ak := ak) (ke := ke) (cv := cv) (vo := vo) (so := so) (sz := sz) (el := el) (B := B) (kk := kk) (kf := kf) (by first | with_reducible assumption | omega) (by first | with_reducible assumption | omega) (by first | with_reducible assumption | omega) (by first | with_reducible assumption | omega)) ⟨Nat.le_of_ble_eq_true rfl, Nat.le_of_ble_eq_true rfl, Nat.le_of_ble_eq_true rfl, Nat.le_of_ble_eq_true rfl, Nat.le_of_ble_eq_true rfl⟩ rfl rfl rfl rfl ?_
          refine mp_astoreN (L' := [some (Value.ref 1), some (mp_i d), some (mp_i x), some (mp_i w), some (Value.null), none, none]) dX11_laws_33 (by decide) rfl ?_
          refine mp_aloadN dX11_laws_35 rfl ?_
          refine mp_ifnonnull_n dX11_laws_37 ?_
          refine mp_aload_n dX11_laws_40 rfl ?_
          refine mp_iload_n dX11_laws_41 rfl ?_
          refine mp_invV (z := (mX11_whyNot, 0, 0, 0)) (K' := (0, 0)) (σ1 := A ++ (mp_cs s si sp f fi fp im hd kn wd ak ke cv vo so sz el ++ B)) (as := [mp_i d]) (st := []) (st1 := [mp_i (if hd d = 0 then -11 else -12)]) dX11_laws_42 svX11_62 (mp_lkP hA 0 rfl) rfl rfl (zX11_whyNot (d := d) (s := s) (si := si) (sp := sp) (f := f) (fi := fi) (fp := fp) (im := im) (hd := hd) (kn := kn) (wd := wd) (ak := ak) (ke := ke) (cv := cv) (vo := vo) (so := so) (sz := sz) (el := el) (B := B) (kk := kk) (kf := kf) (by first | with_reducible assumption | omega) (by first | with_reducible assumption | omega) (by first | with_reducible assumption | omega)) ⟨Nat.le_of_ble_eq_true rfl, Nat.le_of_ble_eq_true rfl, Nat.le_of_ble_eq_true rfl, Nat.le_of_ble_eq_true rfl, Nat.le_of_ble_eq_true rfl⟩ rfl rfl rfl rfl ?_
          exact mp_ireturn (st := []) dX11_laws_45 rfl ⟨by decide, by decide⟩ ((by rw [if_neg (by omega)]; exact mp_ans (sp_laws_no (by omega) (by omega) (by omega) hr9)))
      · refine mp_iconst dX11_laws_26 ?_
        exact mp_ireturn (st := []) dX11_laws_27 rfl ⟨by decide, by decide⟩ ((by rw [if_neg (by omega)]; exact mp_ans (sp_laws_bad (by omega))))
theorem lX11_waysOfEnough_11 {x : Int} {y : Int} {t : Int} {σ : mp_H} (h_x : 0 ≤ x ∧ x ≤ 14) (h_y : 0 ≤ y ∧ y ≤ 4) (h_t : 2 ≤ t ∧ t ≤ 20) {R9 : mp_An} : ∀ (n : Nat) (m : Nat), ((m : Int) + (n : Nat) = x + 1) → R9 = (some (mp_l (mp_ways (sp_cloudG y t) (Int.toNat x))), σ) → mp_At (mX11_waysOfEnough, 0, 0, 0) (0, 0) 11 [some (mp_i x), some (mp_i y), some (mp_i t), some (mp_l (mp_sum (fun j => ((mp_ch (Int.toNat x) j : Nat) : Int) * sp_cloudG y t (j : Int)) m)), none, some (mp_l ((mp_ch (Int.toNat x) m : Nat) : Int)), none, some (mp_l ((t - 1) ^ m)), none, some (mp_i (m : Int))] [] σ R9 := by
  intro n
  induction n with
  | zero =>
    intro m hi hR
    refine mp_iload dX11_waysOfEnough_11 rfl ?_
    refine mp_iload_n dX11_waysOfEnough_13 rfl ?_
    refine mp_icmp_gt (tgt := 62) dX11_waysOfEnough_14 rfl ⟨by omega, by omega⟩ ⟨by omega, by omega⟩ (fun h1 => ?_) (fun h1 => ?_)
    · refine mp_lload_n dX11_waysOfEnough_62 rfl ?_
      exact mp_lreturn (st := []) dX11_waysOfEnough_63 rfl ⟨by decide, by decide⟩ (hR.trans (mp_ansl (by rw [mp_ch_sum (fun _ => 0), show (Int.toNat x) + 1 = m by omega])))
    · exfalso; omega
  | succ n ih =>
    intro m hi hR
    have hcl := mp_ch_le (Int.toNat x) m
    have hp2 : 2 ^ (Int.toNat x) ≤ 2 ^ 14 := Nat.pow_le_pow_right (by decide) (by omega)
    have hmb : 0 ≤ ((mp_ch (Int.toNat x) m : Nat) : Int) * (x - (m : Int)) ∧ ((mp_ch (Int.toNat x) m : Nat) : Int) * (x - (m : Int)) ≤ 16384 * 14 := ⟨Int.mul_nonneg (by omega) (by omega), Int.mul_le_mul (by omega) (by omega) (by omega) (by omega)⟩
    refine mp_iload dX11_waysOfEnough_11 rfl ?_
    refine mp_iload_n dX11_waysOfEnough_13 rfl ?_
    refine mp_icmp_gt (tgt := 62) dX11_waysOfEnough_14 rfl ⟨by omega, by omega⟩ ⟨by omega, by omega⟩ (fun h1 => ?_) (fun h1 => ?_)
    · exfalso; omega
    · refine mp_iload dX11_waysOfEnough_17 rfl ?_
      refine mp_iload_n dX11_waysOfEnough_19 rfl ?_
      refine mp_icmp_lt (tgt := 31) dX11_waysOfEnough_20 rfl ⟨by omega, by omega⟩ ⟨by omega, by omega⟩ (fun h2 => ?_) (fun h2 => ?_)
      · refine mp_lload dX11_waysOfEnough_31 rfl ?_
        refine mp_iload_n dX11_waysOfEnough_33 rfl ?_
        refine mp_iload dX11_waysOfEnough_34 rfl ?_
        refine mp_isub (z := x - (m : Int)) dX11_waysOfEnough_36 (by first | rfl | omega) ?_
        refine mp_i2l dX11_waysOfEnough_37 ⟨by omega, by omega⟩ ?_
        refine mp_lmul (z := ((mp_ch (Int.toNat x) m : Nat) : Int) * (x - (m : Int))) dX11_waysOfEnough_38 rfl ?_
        refine mp_iload dX11_waysOfEnough_39 rfl ?_
        refine mp_iconst dX11_waysOfEnough_41 ?_
        refine mp_iadd (z := (m : Int) + 1) dX11_waysOfEnough_42 (by first | rfl | omega) ?_
        refine mp_i2l dX11_waysOfEnough_43 ⟨by omega, by omega⟩ ?_
        refine mp_ldivr (z := (((mp_ch (Int.toNat x) m : Nat) : Int) * (x - (m : Int))) / ((m : Int) + 1)) dX11_waysOfEnough_44 ⟨by omega, by omega⟩ ⟨by omega, by omega⟩ rfl ?_
        refine mp_lstore (L' := [some (mp_i x), some (mp_i y), some (mp_i t), some (mp_l (mp_sum (fun j => ((mp_ch (Int.toNat x) j : Nat) : Int) * sp_cloudG y t (j : Int)) m)), none, some (mp_l ((((mp_ch (Int.toNat x) m : Nat) : Int) * (x - (m : Int))) / ((m : Int) + 1))), none, some (mp_l ((t - 1) ^ m)), none, some (mp_i (m : Int))]) dX11_waysOfEnough_45 (by decide) rfl ?_
        refine mp_lload dX11_waysOfEnough_47 rfl ?_
        refine mp_iload_n dX11_waysOfEnough_49 rfl ?_
        refine mp_iconst dX11_waysOfEnough_50 ?_
        refine mp_isub (z := t - 1) dX11_waysOfEnough_51 (by first | rfl | omega) ?_
        refine mp_i2l dX11_waysOfEnough_52 ⟨by omega, by omega⟩ ?_
        refine mp_lmul (z := ((t - 1) ^ m) * (t - 1)) dX11_waysOfEnough_53 rfl ?_
        refine mp_lstore (L' := [some (mp_i x), some (mp_i y), some (mp_i t), some (mp_l (mp_sum (fun j => ((mp_ch (Int.toNat x) j : Nat) : Int) * sp_cloudG y t (j : Int)) m)), none, some (mp_l ((((mp_ch (Int.toNat x) m : Nat) : Int) * (x - (m : Int))) / ((m : Int) + 1))), none, some (mp_l (((t - 1) ^ m) * (t - 1))), none, some (mp_i (m : Int))]) dX11_waysOfEnough_54 (by decide) rfl ?_
        refine mp_iinc (z := (m : Int) + 1) (L' := [some (mp_i x), some (mp_i y), some (mp_i t), some (mp_l (mp_sum (fun j => ((mp_ch (Int.toNat x) j : Nat) : Int) * sp_cloudG y t (j : Int)) m)), none, some (mp_l ((((mp_ch (Int.toNat x) m : Nat) : Int) * (x - (m : Int))) / ((m : Int) + 1))), none, some (mp_l (((t - 1) ^ m) * (t - 1))), none, some (mp_i ((m : Int) + 1))]) dX11_waysOfEnough_56 rfl (rfl) (by decide) rfl ?_
        refine mp_goto (tgt := 11) dX11_waysOfEnough_59 rfl ?_
        have ea : mp_sum (fun j => ((mp_ch (Int.toNat x) j : Nat) : Int) * sp_cloudG y t (j : Int)) m = mp_sum (fun j => ((mp_ch (Int.toNat x) j : Nat) : Int) * sp_cloudG y t (j : Int)) (m + 1) := by
          show _ = mp_sum (fun j => ((mp_ch (Int.toNat x) j : Nat) : Int) * sp_cloudG y t (j : Int)) m + ((mp_ch (Int.toNat x) m : Nat) : Int) * (if (m : Int) < y then 0 else (t - 1) ^ (m : Int).toNat)
          first | (rw [if_pos (by omega), Int.mul_zero, Int.add_zero]; done) | (rw [if_neg (by omega), Int.toNat_natCast]; done)
        have ec : ((mp_ch (Int.toNat x) m : Nat) : Int) * (x - (m : Int)) / ((m : Int) + 1) = ((mp_ch (Int.toNat x) (m + 1) : Nat) : Int) := by have h9 := mp_ch_div (n := (Int.toNat x)) (k := m) (by omega); rw [show (((Int.toNat x) : Nat) : Int) = x by omega] at h9; exact h9
        rw [ea, ec]
        have k9 := ih (m + 1) (by omega) hR
        rw [Int.pow_succ] at k9
        exact k9
      · refine mp_lload_n dX11_waysOfEnough_23 rfl ?_
        refine mp_lload dX11_waysOfEnough_24 rfl ?_
        refine mp_lload dX11_waysOfEnough_26 rfl ?_
        refine mp_lmul (z := ((mp_ch (Int.toNat x) m : Nat) : Int) * ((t - 1) ^ m)) dX11_waysOfEnough_28 rfl ?_
        refine mp_ladd (z := (mp_sum (fun j => ((mp_ch (Int.toNat x) j : Nat) : Int) * sp_cloudG y t (j : Int)) m) + (((mp_ch (Int.toNat x) m : Nat) : Int) * ((t - 1) ^ m))) dX11_waysOfEnough_29 rfl ?_
        refine mp_lstore_n (L' := [some (mp_i x), some (mp_i y), some (mp_i t), some (mp_l ((mp_sum (fun j => ((mp_ch (Int.toNat x) j : Nat) : Int) * sp_cloudG y t (j : Int)) m) + (((mp_ch (Int.toNat x) m : Nat) : Int) * ((t - 1) ^ m)))), none, some (mp_l ((mp_ch (Int.toNat x) m : Nat) : Int)), none, some (mp_l ((t - 1) ^ m)), none, some (mp_i (m : Int))]) dX11_waysOfEnough_30 rfl (by decide) rfl ?_
        refine mp_lload dX11_waysOfEnough_31 rfl ?_
        refine mp_iload_n dX11_waysOfEnough_33 rfl ?_
        refine mp_iload dX11_waysOfEnough_34 rfl ?_
        refine mp_isub (z := x - (m : Int)) dX11_waysOfEnough_36 (by first | rfl | omega) ?_
        refine mp_i2l dX11_waysOfEnough_37 ⟨by omega, by omega⟩ ?_
        refine mp_lmul (z := ((mp_ch (Int.toNat x) m : Nat) : Int) * (x - (m : Int))) dX11_waysOfEnough_38 rfl ?_
        refine mp_iload dX11_waysOfEnough_39 rfl ?_
        refine mp_iconst dX11_waysOfEnough_41 ?_
        refine mp_iadd (z := (m : Int) + 1) dX11_waysOfEnough_42 (by first | rfl | omega) ?_
        refine mp_i2l dX11_waysOfEnough_43 ⟨by omega, by omega⟩ ?_
        refine mp_ldivr (z := (((mp_ch (Int.toNat x) m : Nat) : Int) * (x - (m : Int))) / ((m : Int) + 1)) dX11_waysOfEnough_44 ⟨by omega, by omega⟩ ⟨by omega, by omega⟩ rfl ?_
        refine mp_lstore (L' := [some (mp_i x), some (mp_i y), some (mp_i t), some (mp_l ((mp_sum (fun j => ((mp_ch (Int.toNat x) j : Nat) : Int) * sp_cloudG y t (j : Int)) m) + (((mp_ch (Int.toNat x) m : Nat) : Int) * ((t - 1) ^ m)))), none, some (mp_l ((((mp_ch (Int.toNat x) m : Nat) : Int) * (x - (m : Int))) / ((m : Int) + 1))), none, some (mp_l ((t - 1) ^ m)), none, some (mp_i (m : Int))]) dX11_waysOfEnough_45 (by decide) rfl ?_
        refine mp_lload dX11_waysOfEnough_47 rfl ?_
        refine mp_iload_n dX11_waysOfEnough_49 rfl ?_
        refine mp_iconst dX11_waysOfEnough_50 ?_
        refine mp_isub (z := t - 1) dX11_waysOfEnough_51 (by first | rfl | omega) ?_
        refine mp_i2l dX11_waysOfEnough_52 ⟨by omega, by omega⟩ ?_
        refine mp_lmul (z := ((t - 1) ^ m) * (t - 1)) dX11_waysOfEnough_53 rfl ?_
        refine mp_lstore (L' := [some (mp_i x), some (mp_i y), some (mp_i t), some (mp_l ((mp_sum (fun j => ((mp_ch (Int.toNat x) j : Nat) : Int) * sp_cloudG y t (j : Int)) m) + (((mp_ch (Int.toNat x) m : Nat) : Int) * ((t - 1) ^ m)))), none, some (mp_l ((((mp_ch (Int.toNat x) m : Nat) : Int) * (x - (m : Int))) / ((m : Int) + 1))), none, some (mp_l (((t - 1) ^ m) * (t - 1))), none, some (mp_i (m : Int))]) dX11_waysOfEnough_54 (by decide) rfl ?_
        refine mp_iinc (z := (m : Int) + 1) (L' := [some (mp_i x), some (mp_i y), some (mp_i t), some (mp_l ((mp_sum (fun j => ((mp_ch (Int.toNat x) j : Nat) : Int) * sp_cloudG y t (j : Int)) m) + (((mp_ch (Int.toNat x) m : Nat) : Int) * ((t - 1) ^ m)))), none, some (mp_l ((((mp_ch (Int.toNat x) m : Nat) : Int) * (x - (m : Int))) / ((m : Int) + 1))), none, some (mp_l (((t - 1) ^ m) * (t - 1))), none, some (mp_i ((m : Int) + 1))]) dX11_waysOfEnough_56 rfl (rfl) (by decide) rfl ?_
        refine mp_goto (tgt := 11) dX11_waysOfEnough_59 rfl ?_
        have ea : (mp_sum (fun j => ((mp_ch (Int.toNat x) j : Nat) : Int) * sp_cloudG y t (j : Int)) m) + (((mp_ch (Int.toNat x) m : Nat) : Int) * ((t - 1) ^ m)) = mp_sum (fun j => ((mp_ch (Int.toNat x) j : Nat) : Int) * sp_cloudG y t (j : Int)) (m + 1) := by
          show _ = mp_sum (fun j => ((mp_ch (Int.toNat x) j : Nat) : Int) * sp_cloudG y t (j : Int)) m + ((mp_ch (Int.toNat x) m : Nat) : Int) * (if (m : Int) < y then 0 else (t - 1) ^ (m : Int).toNat)
          first | (rw [if_pos (by omega), Int.mul_zero, Int.add_zero]; done) | (rw [if_neg (by omega), Int.toNat_natCast]; done)
        have ec : ((mp_ch (Int.toNat x) m : Nat) : Int) * (x - (m : Int)) / ((m : Int) + 1) = ((mp_ch (Int.toNat x) (m + 1) : Nat) : Int) := by have h9 := mp_ch_div (n := (Int.toNat x)) (k := m) (by omega); rw [show (((Int.toNat x) : Nat) : Int) = x by omega] at h9; exact h9
        rw [ea, ec]
        have k9 := ih (m + 1) (by omega) hR
        rw [Int.pow_succ] at k9
        exact k9
theorem zX11_waysOfEnough {x : Int} {y : Int} {t : Int} {σ : mp_H} (h_x : 0 ≤ x ∧ x ≤ 14) (h_y : 0 ≤ y ∧ y ≤ 4) (h_t : 2 ≤ t ∧ t ≤ 20) : mp_Call (mX11_waysOfEnough, 0, 0, 0) [mp_i x, mp_i y, mp_i t] σ (some (mp_l (mp_ways (sp_cloudG y t) (Int.toNat x))), σ) := by
  refine mp_Call.of (L := [some (mp_i x), some (mp_i y), some (mp_i t), none, none, none, none, none, none, none]) pnX11 (Nat.le_of_ble_eq_true rfl) rfl ?_
  refine mp_lconst (z := 0) dX11_waysOfEnough_0 rfl ?_
  refine mp_lstore_n (L' := [some (mp_i x), some (mp_i y), some (mp_i t), some (mp_l 0), none, none, none, none, none, none]) dX11_waysOfEnough_1 rfl (by decide) rfl ?_
  refine mp_lconst (z := 1) dX11_waysOfEnough_2 rfl ?_
  refine mp_lstore (L' := [some (mp_i x), some (mp_i y), some (mp_i t), some (mp_l 0), none, some (mp_l 1), none, none, none, none]) dX11_waysOfEnough_3 (by decide) rfl ?_
  refine mp_lconst (z := 1) dX11_waysOfEnough_5 rfl ?_
  refine mp_lstore (L' := [some (mp_i x), some (mp_i y), some (mp_i t), some (mp_l 0), none, some (mp_l 1), none, some (mp_l 1), none, none]) dX11_waysOfEnough_6 (by decide) rfl ?_
  refine mp_iconst dX11_waysOfEnough_8 ?_
  refine mp_istore (L' := [some (mp_i x), some (mp_i y), some (mp_i t), some (mp_l 0), none, some (mp_l 1), none, some (mp_l 1), none, some (mp_i 0)]) dX11_waysOfEnough_9 (by decide) rfl ?_
  have k9 := lX11_waysOfEnough_11 (σ := σ) (x := x) (y := y) (t := t) h_x h_y h_t (Int.toNat (x + 1)) 0 (by omega) rfl
  rw [mp_ch_0, Int.pow_zero] at k9
  exact k9
theorem lX11_clouds_77 {s si sp : Int → Int} {f fi fp : Nat → Option Nat} {im : Int} {hd : Int → Int} {kn : Nat → Option Nat} {wd ak ke cv vo so sz el : Int → Int} {A B : mp_H}  {l : Int} {m : Int} {t : Int} {w : Int} {u : Int} (hA : A.length = 1) (h_t : 2 ≤ t ∧ t ≤ 20) {R9 : mp_An} : ∀ (n : Nat) (v : Int) (i : Int), (u ≤ 14 ∧ 0 ≤ i ∧ i + (n : Nat) = u) → mp_At (mX11_clouds, 2, 0, 0) (0, 0) 97 [some (Value.ref 1), some (mp_i l), some (mp_i m), some (mp_i t), some (mp_i w), none, some (mp_i u), some (mp_l (v * t ^ n)), none, none] [] (A ++ (mp_cs s si sp f fi fp im hd kn wd ak ke cv vo so sz el ++ B)) R9 → mp_At (mX11_clouds, 2, 0, 0) (0, 0) 77 [some (Value.ref 1), some (mp_i l), some (mp_i m), some (mp_i t), some (mp_i w), none, some (mp_i u), some (mp_l v), none, some (mp_i i)] [] (A ++ (mp_cs s si sp f fi fp im hd kn wd ak ke cv vo so sz el ++ B)) R9 := by
  intro n
  induction n with
  | zero =>
    intro v i hi hk
    refine mp_iload dX11_clouds_77 rfl ?_
    refine mp_iload dX11_clouds_79 rfl ?_
    refine mp_icmp_ge (tgt := 97) dX11_clouds_81 rfl ⟨by omega, by omega⟩ ⟨by omega, by omega⟩ (fun h1 => ?_) (fun h1 => ?_)
    · refine mp_drop (L' := [some (Value.ref 1), some (mp_i l), some (mp_i m), some (mp_i t), some (mp_i w), none, some (mp_i u), some (mp_l v), none, none]) [true, true, true, true, true, false, true, true, false, false] rfl ?_
      rw [Int.pow_zero, Int.mul_one] at hk
      exact hk
    · exfalso; omega
  | succ n ih =>
    intro v i hi hk
    refine mp_iload dX11_clouds_77 rfl ?_
    refine mp_iload dX11_clouds_79 rfl ?_
    refine mp_icmp_ge (tgt := 97) dX11_clouds_81 rfl ⟨by omega, by omega⟩ ⟨by omega, by omega⟩ (fun h1 => ?_) (fun h1 => ?_)
    · exfalso; omega
    · refine mp_lload dX11_clouds_84 rfl ?_
      refine mp_iload_n dX11_clouds_86 rfl ?_
      refine mp_i2l dX11_clouds_87 ⟨by omega, by omega⟩ ?_
      refine mp_lmul (z := v * t) dX11_clouds_88 rfl ?_
      refine mp_lstore (L' := [some (Value.ref 1), some (mp_i l), some (mp_i m), some (mp_i t), some (mp_i w), none, some (mp_i u), some (mp_l (v * t)), none, some (mp_i i)]) dX11_clouds_89 (by decide) rfl ?_
      refine mp_iinc (z := i + 1) (L' := [some (Value.ref 1), some (mp_i l), some (mp_i m), some (mp_i t), some (mp_i w), none, some (mp_i u), some (mp_l (v * t)), none, some (mp_i (i + 1))]) dX11_clouds_91 rfl (rfl) (by decide) rfl ?_
      refine mp_goto (tgt := 77) dX11_clouds_94 rfl ?_
      exact ih (v * t) (i + 1) ⟨by omega, by omega, by omega⟩ (by rw [Int.pow_succ, Int.mul_comm (t ^ n) t, ← Int.mul_assoc] at hk; exact hk)
theorem zX11_clouds {s si sp : Int → Int} {f fi fp : Nat → Option Nat} {im : Int} {hd : Int → Int} {kn : Nat → Option Nat} {wd ak ke cv vo so sz el : Int → Int} {A B : mp_H}  {l : Int} {m : Int} {t : Int} {w : Int} (hA : A.length = 1) (hs : mp_sky s) (hMt : mp_Mt (A ++ (mp_cs s si sp f fi fp im hd kn wd ak ke cv vo so sz el ++ B)) s f) (h_l : mp_w l) (h_m : mp_w m) (h_t : mp_w t) (h_w : mp_w w) : mp_Call (mX11_clouds, 2, 0, 0) [Value.ref 1, mp_i l, mp_i m, mp_i t, mp_i w] (A ++ (mp_cs s si sp f fi fp im hd kn wd ak ke cv vo so sz el ++ B)) (some (mp_l (sp_clouds s l m t w)), A ++ (mp_cs s si sp f fi fp im hd kn wd ak ke cv vo so sz el ++ B)) := by
  refine mp_Call.of (L := [some (Value.ref 1), some (mp_i l), some (mp_i m), some (mp_i t), some (mp_i w), none, none, none, none, none]) pnX11 (Nat.le_of_ble_eq_true rfl) rfl ?_
  have hz0 := hs.1
  refine mp_aload_n dX11_clouds_0 rfl ?_
  refine mp_getfield dX11_clouds_1 fsX11_10_10 (mp_lkP hA 0 rfl) rfl ?_
  refine mp_iload_n dX11_clouds_4 rfl ?_
  by_cases hm1 : 0 ≤ m ∧ m < s 0
  · obtain ⟨a1, hf1, hc1⟩ := (mp_Sk.of (σ := A ++ (mp_cs s si sp f fi fp im hd kn wd ak ke cv vo so sz el ++ B)) (mp_skC2 hA) hMt).2.2.2.2.2.2 m hm1.1 hm1.2
    have ht1 := hs.2.1 m hm1.1 hm1.2
    have hl1 := mp_lasts_bd (kind := (s (1 + 6 * m + 0))) (f := (s (1 + 6 * m + 1))) (by omega)
    have hr1 := mp_bright_bd (kind := (s (1 + 6 * m + 0))) (f := (s (1 + 6 * m + 1))) (by omega)
    refine mp_invV (z := (mX6_at, 0, 0, 0)) (K' := (0, 0)) (σ1 := A ++ (mp_cs s si sp f fi fp im hd kn wd ak ke cv vo so sz el ++ B)) (as := [mp_i m]) (st := []) (st1 := [Value.ref a1]) dX11_clouds_5 svX11_93 (mp_Sk.of (σ := A ++ (mp_cs s si sp f fi fp im hd kn wd ak ke cv vo so sz el ++ B)) (mp_skC2 hA) hMt).1 rfl rfl (zX6_at (p := 2) (m := m) (a := a1) (s := s) (f := f) (mp_Sk.of (σ := A ++ (mp_cs s si sp f fi fp im hd kn wd ak ke cv vo so sz el ++ B)) (mp_skC2 hA) hMt) hm1 (by omega) hf1) ⟨Nat.le_of_ble_eq_true rfl, Nat.le_of_ble_eq_true rfl, Nat.le_of_ble_eq_true rfl, Nat.le_of_ble_eq_true rfl, Nat.le_of_ble_eq_true rfl⟩ rfl rfl rfl rfl ?_
    refine mp_astore (L' := [some (Value.ref 1), some (mp_i l), some (mp_i m), some (mp_i t), some (mp_i w), some (Value.ref a1), none, none, none, none]) dX11_clouds_8 (by decide) rfl ?_
    refine mp_iload_n dX11_clouds_10 rfl ?_
    refine mp_iconst dX11_clouds_11 ?_
    refine mp_invS (z := (mX11_isBelow, 0, 0, 0)) (K' := (0, 0)) (σ1 := A ++ (mp_cs s si sp f fi fp im hd kn wd ak ke cv vo so sz el ++ B)) (as := [mp_i l, mp_i 5]) (st := []) (st1 := [mp_i (if 0 ≤ l ∧ l < 5 then 1 else 0)]) dX11_clouds_12 ssX11_54 (zX11_isBelow (v := l) (n := 5) (by first | with_reducible assumption | omega) (by first | with_reducible assumption | omega)) ⟨Nat.le_of_ble_eq_true rfl, Nat.le_of_ble_eq_true rfl, Nat.le_of_ble_eq_true rfl, Nat.le_of_ble_eq_true rfl, Nat.le_of_ble_eq_true rfl⟩ rfl rfl rfl rfl ?_
    refine mp_ifb_eq (tgt := 43) dX11_clouds_15 rfl (fun h2 => ?_) (fun h2 => ?_)
    · refine mp_ldc2 (z := 1000000001) dX11_clouds_43 kcX11_262 rfl ?_
      exact mp_lreturn (st := []) dX11_clouds_46 rfl ⟨by decide, by decide⟩ ((mp_ansl (by unfold sp_clouds; first | (rw [if_neg (by omega)]; done) | (rw [if_pos (by omega)]; exact (mp_part_pos (by omega) (by omega) (by omega)).symm))))
    · refine mp_aload dX11_clouds_18 rfl ?_
      refine mp_ifnull_r dX11_clouds_20 ?_
      refine mp_iload_n dX11_clouds_23 rfl ?_
      refine mp_iconst dX11_clouds_24 ?_
      refine mp_icmp_lt (tgt := 43) dX11_clouds_25 rfl ⟨by omega, by omega⟩ ⟨by omega, by omega⟩ (fun h3 => ?_) (fun h3 => ?_)
      · refine mp_ldc2 (z := 1000000001) dX11_clouds_43 kcX11_262 rfl ?_
        exact mp_lreturn (st := []) dX11_clouds_46 rfl ⟨by decide, by decide⟩ ((mp_ansl (by unfold sp_clouds; first | (rw [if_neg (by omega)]; done) | (rw [if_pos (by omega)]; exact (mp_part_pos (by omega) (by omega) (by omega)).symm))))
      · refine mp_iload_n dX11_clouds_28 rfl ?_
        refine mp_bipush dX11_clouds_29 rfl ?_
        refine mp_icmp_gt (tgt := 43) dX11_clouds_31 rfl ⟨by omega, by omega⟩ ⟨by omega, by omega⟩ (fun h4 => ?_) (fun h4 => ?_)
        · refine mp_ldc2 (z := 1000000001) dX11_clouds_43 kcX11_262 rfl ?_
          exact mp_lreturn (st := []) dX11_clouds_46 rfl ⟨by decide, by decide⟩ ((mp_ansl (by unfold sp_clouds; first | (rw [if_neg (by omega)]; done) | (rw [if_pos (by omega)]; exact (mp_part_pos (by omega) (by omega) (by omega)).symm))))
        · refine mp_iload dX11_clouds_34 rfl ?_
          refine mp_iconst dX11_clouds_36 ?_
          refine mp_invS (z := (mX11_isBelow, 0, 0, 0)) (K' := (0, 0)) (σ1 := A ++ (mp_cs s si sp f fi fp im hd kn wd ak ke cv vo so sz el ++ B)) (as := [mp_i w, mp_i 2]) (st := []) (st1 := [mp_i (if 0 ≤ w ∧ w < 2 then 1 else 0)]) dX11_clouds_37 ssX11_54 (zX11_isBelow (v := w) (n := 2) (by first | with_reducible assumption | omega) (by first | with_reducible assumption | omega)) ⟨Nat.le_of_ble_eq_true rfl, Nat.le_of_ble_eq_true rfl, Nat.le_of_ble_eq_true rfl, Nat.le_of_ble_eq_true rfl, Nat.le_of_ble_eq_true rfl⟩ rfl rfl rfl rfl ?_
          refine mp_ifb_ne (tgt := 47) dX11_clouds_40 rfl (fun h5 => ?_) (fun h5 => ?_)
          · refine mp_aload dX11_clouds_47 rfl ?_
            have hl9 := hs.2.2.1 l (by omega) (by omega)
            refine mp_aload_n dX11_clouds_49 rfl ?_
            refine mp_getfield dX11_clouds_50 fsX11_10_10 (mp_lkP hA 0 rfl) rfl ?_
            refine mp_getfield dX11_clouds_53 fsX11_127_8 (mp_lkP hA 1 rfl) rfl ?_
            refine mp_iload_n dX11_clouds_56 rfl ?_
            refine mp_iald dX11_clouds_57 (mp_lkP hA 4 rfl) ⟨by omega, by omega⟩ (by omega) ?_
            refine mp_top (y := s (49 + 3 * l + 0)) (sp_rof_in ⟨by omega, by omega⟩) ?_
            refine mp_aload dX11_clouds_58 rfl ?_
            refine mp_getfield dX11_clouds_60 (fsX11_102 (by omega)) hc1 rfl ?_
            refine mp_inv8 (kd := (s (1 + 6 * m + 0))) (σ1 := A ++ (mp_cs s si sp f fi fp im hd kn wd ak ke cv vo so sz el ++ B)) (as := [mp_i (s (49 + 3 * l + 0)), mp_i (s (1 + 6 * m + 2))]) (st := []) (st1 := [mp_i (mp_fold (sp_seenStep (s (1 + 6 * m + 2)) (s (1 + 6 * m + 3)) (sp_bright (s (1 + 6 * m + 0)) (s (1 + 6 * m + 1))) (s (49 + 3 * l + 0))) (Int.toNat (sp_lasts (s (1 + 6 * m + 0)) (s (1 + 6 * m + 1)))) 0 0)]) dX11_clouds_63 (by omega) s8X11_168 hc1 (fa_seenFrom (a := a1) (q := (s (49 + 3 * l + 0))) (x := (s (1 + 6 * m + 2))) (kd := (s (1 + 6 * m + 0))) (f := (s (1 + 6 * m + 1))) (co := (s (1 + 6 * m + 2))) (sl := (s (1 + 6 * m + 3))) (ni := (s (1 + 6 * m + 4))) (la := (sp_lasts (s (1 + 6 * m + 0)) (s (1 + 6 * m + 1)))) (br := (sp_bright (s (1 + 6 * m + 0)) (s (1 + 6 * m + 1)))) hc1 (by first | with_reducible assumption | omega) (by first | with_reducible assumption | omega) (by first | with_reducible assumption | omega) (by first | with_reducible assumption | omega) (by first | with_reducible assumption | omega) (by first | with_reducible assumption | omega)) (Nat.le_of_ble_eq_true rfl) ⟨Nat.le_of_ble_eq_true rfl, Nat.le_of_ble_eq_true rfl⟩ (Nat.le_of_ble_eq_true rfl) rfl rfl rfl ?_
            have hl9 := hs.2.2.1 l (by omega) (by omega)
            have hm9 := hs.2.1 m (by omega) (by omega)
            refine mp_top (y := (sp_seen (s (1 + 6 * m + 0)) (s (1 + 6 * m + 1)) (s (1 + 6 * m + 2)) (s (1 + 6 * m + 3)) (s (49 + 3 * l + 0)))) rfl ?_
            have hs9 := mp_seen_14 (kind := s (1 + 6 * m + 0)) (f := s (1 + 6 * m + 1)) (col := s (1 + 6 * m + 2)) (slope := s (1 + 6 * m + 3)) (roof := s (49 + 3 * l + 0)) (by omega)
            have hb9 := mp_bits_14 hs9
            have hnd := mp_need_bd (v := s (49 + 3 * l + 1)) (by omega)
            have hp9 := mp_pow20 (t := t) (by omega) (n := (sp_bits (sp_seen (s (1 + 6 * m + 0)) (s (1 + 6 * m + 1)) (s (1 + 6 * m + 2)) (s (1 + 6 * m + 3)) (s (49 + 3 * l + 0)))).toNat) (by omega)
            have hw9 := mp_ways_bd (need := sp_need (s (49 + 3 * l + 1))) (t := t) (by omega) (n := (sp_bits (sp_seen (s (1 + 6 * m + 0)) (s (1 + 6 * m + 1)) (s (1 + 6 * m + 2)) (s (1 + 6 * m + 3)) (s (49 + 3 * l + 0)))).toNat) (by omega)
            refine mp_invS (z := (mJ6_bitCount_0f7a4, 0, 0, 0)) (K' := (0, 0)) (σ1 := A ++ (mp_cs s si sp f fi fp im hd kn wd ak ke cv vo so sz el ++ B)) (as := [mp_i (sp_seen (s (1 + 6 * m + 0)) (s (1 + 6 * m + 1)) (s (1 + 6 * m + 2)) (s (1 + 6 * m + 3)) (s (49 + 3 * l + 0)))]) (st := []) (st1 := [mp_i (sp_bits (sp_seen (s (1 + 6 * m + 0)) (s (1 + 6 * m + 1)) (s (1 + 6 * m + 2)) (s (1 + 6 * m + 3)) (s (49 + 3 * l + 0))))]) dX11_clouds_66 ssX11_195 (zJ6_bitCount_0f7a4 (v := (sp_seen (s (1 + 6 * m + 0)) (s (1 + 6 * m + 1)) (s (1 + 6 * m + 2)) (s (1 + 6 * m + 3)) (s (49 + 3 * l + 0)))) (by first | with_reducible assumption | omega)) ⟨Nat.le_of_ble_eq_true rfl, Nat.le_of_ble_eq_true rfl, Nat.le_of_ble_eq_true rfl, Nat.le_of_ble_eq_true rfl, Nat.le_of_ble_eq_true rfl⟩ rfl rfl rfl rfl ?_
            refine mp_istore (L' := [some (Value.ref 1), some (mp_i l), some (mp_i m), some (mp_i t), some (mp_i w), some (Value.ref a1), some (mp_i (sp_bits (sp_seen (s (1 + 6 * m + 0)) (s (1 + 6 * m + 1)) (s (1 + 6 * m + 2)) (s (1 + 6 * m + 3)) (s (49 + 3 * l + 0))))), none, none, none]) dX11_clouds_69 (by decide) rfl ?_
            refine mp_lconst (z := 1) dX11_clouds_71 rfl ?_
            refine mp_lstore (L' := [some (Value.ref 1), some (mp_i l), some (mp_i m), some (mp_i t), some (mp_i w), some (Value.ref a1), some (mp_i (sp_bits (sp_seen (s (1 + 6 * m + 0)) (s (1 + 6 * m + 1)) (s (1 + 6 * m + 2)) (s (1 + 6 * m + 3)) (s (49 + 3 * l + 0))))), some (mp_l 1), none, none]) dX11_clouds_72 (by decide) rfl ?_
            refine mp_iconst dX11_clouds_74 ?_
            refine mp_istore (L' := [some (Value.ref 1), some (mp_i l), some (mp_i m), some (mp_i t), some (mp_i w), some (Value.ref a1), some (mp_i (sp_bits (sp_seen (s (1 + 6 * m + 0)) (s (1 + 6 * m + 1)) (s (1 + 6 * m + 2)) (s (1 + 6 * m + 3)) (s (49 + 3 * l + 0))))), some (mp_l 1), none, some (mp_i 0)]) dX11_clouds_75 (by decide) rfl ?_
            refine mp_drop (L' := [some (Value.ref 1), some (mp_i l), some (mp_i m), some (mp_i t), some (mp_i w), none, some (mp_i (sp_bits (sp_seen (s (1 + 6 * m + 0)) (s (1 + 6 * m + 1)) (s (1 + 6 * m + 2)) (s (1 + 6 * m + 3)) (s (49 + 3 * l + 0))))), some (mp_l 1), none, some (mp_i 0)]) [true, true, true, true, true, false, true, true, true, true] rfl ?_
            refine lX11_clouds_77 (s := s) (si := si) (sp := sp) (f := f) (fi := fi) (fp := fp) (im := im) (hd := hd) (kn := kn) (wd := wd) (ak := ak) (ke := ke) (cv := cv) (vo := vo) (so := so) (sz := sz) (el := el) (B := B) (l := l) (m := m) (t := t) (w := w) (u := (sp_bits (sp_seen (s (1 + 6 * m + 0)) (s (1 + 6 * m + 1)) (s (1 + 6 * m + 2)) (s (1 + 6 * m + 3)) (s (49 + 3 * l + 0))))) hA (by omega) (Int.toNat (sp_bits (sp_seen (s (1 + 6 * m + 0)) (s (1 + 6 * m + 1)) (s (1 + 6 * m + 2)) (s (1 + 6 * m + 3)) (s (49 + 3 * l + 0))))) 1 0 (by omega) ?_
            rw [Int.one_mul]
            refine mp_iload dX11_clouds_97 rfl ?_
            refine mp_aload_n dX11_clouds_99 rfl ?_
            refine mp_getfield dX11_clouds_100 fsX11_10_10 (mp_lkP hA 0 rfl) rfl ?_
            refine mp_getfield dX11_clouds_103 fsX11_130_8 (mp_lkP hA 1 rfl) rfl ?_
            refine mp_iload_n dX11_clouds_106 rfl ?_
            refine mp_iald dX11_clouds_107 (mp_lkP hA 5 rfl) ⟨by omega, by omega⟩ (by omega) ?_
            refine mp_top (y := s (49 + 3 * l + 1)) (sp_qui_in ⟨by omega, by omega⟩) ?_
            refine mp_invS (z := (mX6_need, 0, 0, 0)) (K' := (0, 0)) (σ1 := A ++ (mp_cs s si sp f fi fp im hd kn wd ak ke cv vo so sz el ++ B)) (as := [mp_i (s (49 + 3 * l + 1))]) (st := [mp_i (sp_bits (sp_seen (s (1 + 6 * m + 0)) (s (1 + 6 * m + 1)) (s (1 + 6 * m + 2)) (s (1 + 6 * m + 3)) (s (49 + 3 * l + 0))))]) (st1 := [mp_i (sp_need (s (49 + 3 * l + 1))), mp_i (sp_bits (sp_seen (s (1 + 6 * m + 0)) (s (1 + 6 * m + 1)) (s (1 + 6 * m + 2)) (s (1 + 6 * m + 3)) (s (49 + 3 * l + 0))))]) dX11_clouds_108 ssX11_136 (zX6_need (v := (s (49 + 3 * l + 1))) (by first | with_reducible assumption | omega)) ⟨Nat.le_of_ble_eq_true rfl, Nat.le_of_ble_eq_true rfl, Nat.le_of_ble_eq_true rfl, Nat.le_of_ble_eq_true rfl, Nat.le_of_ble_eq_true rfl⟩ rfl rfl rfl rfl ?_
            refine mp_iload_n dX11_clouds_111 rfl ?_
            refine mp_invS (z := (mX11_waysOfEnough, 0, 0, 0)) (K' := (0, 0)) (σ1 := A ++ (mp_cs s si sp f fi fp im hd kn wd ak ke cv vo so sz el ++ B)) (as := [mp_i (sp_bits (sp_seen (s (1 + 6 * m + 0)) (s (1 + 6 * m + 1)) (s (1 + 6 * m + 2)) (s (1 + 6 * m + 3)) (s (49 + 3 * l + 0)))), mp_i (sp_need (s (49 + 3 * l + 1))), mp_i t]) (st := []) (st1 := [mp_l (mp_ways (sp_cloudG (sp_need (s (49 + 3 * l + 1))) t) (Int.toNat (sp_bits (sp_seen (s (1 + 6 * m + 0)) (s (1 + 6 * m + 1)) (s (1 + 6 * m + 2)) (s (1 + 6 * m + 3)) (s (49 + 3 * l + 0))))))]) dX11_clouds_112 ssX11_264 (zX11_waysOfEnough (x := (sp_bits (sp_seen (s (1 + 6 * m + 0)) (s (1 + 6 * m + 1)) (s (1 + 6 * m + 2)) (s (1 + 6 * m + 3)) (s (49 + 3 * l + 0))))) (y := (sp_need (s (49 + 3 * l + 1)))) (t := t) (by first | with_reducible assumption | omega) (by first | with_reducible assumption | omega) (by first | with_reducible assumption | omega)) ⟨Nat.le_of_ble_eq_true rfl, Nat.le_of_ble_eq_true rfl, Nat.le_of_ble_eq_true rfl, Nat.le_of_ble_eq_true rfl, Nat.le_of_ble_eq_true rfl⟩ rfl rfl rfl rfl ?_
            refine mp_lload dX11_clouds_115 rfl ?_
            refine mp_iload dX11_clouds_117 rfl ?_
            refine mp_invS (z := (mX11_inLeastTerms, 0, 0, 0)) (K' := (0, 0)) (σ1 := A ++ (mp_cs s si sp f fi fp im hd kn wd ak ke cv vo so sz el ++ B)) (as := [mp_l (mp_ways (sp_cloudG (sp_need (s (49 + 3 * l + 1))) t) (Int.toNat (sp_bits (sp_seen (s (1 + 6 * m + 0)) (s (1 + 6 * m + 1)) (s (1 + 6 * m + 2)) (s (1 + 6 * m + 3)) (s (49 + 3 * l + 0)))))), mp_l (t ^ (Int.toNat (sp_bits (sp_seen (s (1 + 6 * m + 0)) (s (1 + 6 * m + 1)) (s (1 + 6 * m + 2)) (s (1 + 6 * m + 3)) (s (49 + 3 * l + 0)))))), mp_i w]) (st := []) (st1 := [mp_l ((if w = 0 then (mp_ways (sp_cloudG (sp_need (s (49 + 3 * l + 1))) t) (Int.toNat (sp_bits (sp_seen (s (1 + 6 * m + 0)) (s (1 + 6 * m + 1)) (s (1 + 6 * m + 2)) (s (1 + 6 * m + 3)) (s (49 + 3 * l + 0)))))) else (t ^ (Int.toNat (sp_bits (sp_seen (s (1 + 6 * m + 0)) (s (1 + 6 * m + 1)) (s (1 + 6 * m + 2)) (s (1 + 6 * m + 3)) (s (49 + 3 * l + 0))))))) / (Int.gcd (mp_ways (sp_cloudG (sp_need (s (49 + 3 * l + 1))) t) (Int.toNat (sp_bits (sp_seen (s (1 + 6 * m + 0)) (s (1 + 6 * m + 1)) (s (1 + 6 * m + 2)) (s (1 + 6 * m + 3)) (s (49 + 3 * l + 0)))))) (t ^ (Int.toNat (sp_bits (sp_seen (s (1 + 6 * m + 0)) (s (1 + 6 * m + 1)) (s (1 + 6 * m + 2)) (s (1 + 6 * m + 3)) (s (49 + 3 * l + 0)))))) : Int))]) dX11_clouds_119 ssX11_268 (zX11_inLeastTerms (a := (mp_ways (sp_cloudG (sp_need (s (49 + 3 * l + 1))) t) (Int.toNat (sp_bits (sp_seen (s (1 + 6 * m + 0)) (s (1 + 6 * m + 1)) (s (1 + 6 * m + 2)) (s (1 + 6 * m + 3)) (s (49 + 3 * l + 0))))))) (b := (t ^ (Int.toNat (sp_bits (sp_seen (s (1 + 6 * m + 0)) (s (1 + 6 * m + 1)) (s (1 + 6 * m + 2)) (s (1 + 6 * m + 3)) (s (49 + 3 * l + 0))))))) (w := w) (by first | with_reducible assumption | omega) (by first | with_reducible assumption | omega) (by first | with_reducible assumption | omega)) ⟨Nat.le_of_ble_eq_true rfl, Nat.le_of_ble_eq_true rfl, Nat.le_of_ble_eq_true rfl, Nat.le_of_ble_eq_true rfl, Nat.le_of_ble_eq_true rfl⟩ rfl rfl rfl rfl ?_
            exact mp_lreturn (st := []) dX11_clouds_122 rfl ⟨by decide, by decide⟩ ((mp_ansl (by unfold sp_clouds; first | (rw [if_neg (by omega)]; done) | (rw [if_pos (by omega)]; exact (mp_part_pos (by omega) (by omega) (by omega)).symm))))
          · refine mp_ldc2 (z := 1000000001) dX11_clouds_43 kcX11_262 rfl ?_
            exact mp_lreturn (st := []) dX11_clouds_46 rfl ⟨by decide, by decide⟩ ((mp_ansl (by unfold sp_clouds; first | (rw [if_neg (by omega)]; done) | (rw [if_pos (by omega)]; exact (mp_part_pos (by omega) (by omega) (by omega)).symm))))
  · refine mp_invV (z := (mX6_at, 0, 0, 0)) (K' := (0, 0)) (σ1 := A ++ (mp_cs s si sp f fi fp im hd kn wd ak ke cv vo so sz el ++ B)) (as := [mp_i m]) (st := []) (st1 := [Value.null]) dX11_clouds_5 svX11_93 (mp_Sk.of (σ := A ++ (mp_cs s si sp f fi fp im hd kn wd ak ke cv vo so sz el ++ B)) (mp_skC2 hA) hMt).1 rfl rfl (zX6_atN (p := 2) (m := m) (s := s) (f := f) (mp_Sk.of (σ := A ++ (mp_cs s si sp f fi fp im hd kn wd ak ke cv vo so sz el ++ B)) (mp_skC2 hA) hMt) hm1 (by omega) (by omega)) ⟨Nat.le_of_ble_eq_true rfl, Nat.le_of_ble_eq_true rfl, Nat.le_of_ble_eq_true rfl, Nat.le_of_ble_eq_true rfl, Nat.le_of_ble_eq_true rfl⟩ rfl rfl rfl rfl ?_
    refine mp_astoreN (L' := [some (Value.ref 1), some (mp_i l), some (mp_i m), some (mp_i t), some (mp_i w), some (Value.null), none, none, none, none]) dX11_clouds_8 (by decide) rfl ?_
    refine mp_iload_n dX11_clouds_10 rfl ?_
    refine mp_iconst dX11_clouds_11 ?_
    refine mp_invS (z := (mX11_isBelow, 0, 0, 0)) (K' := (0, 0)) (σ1 := A ++ (mp_cs s si sp f fi fp im hd kn wd ak ke cv vo so sz el ++ B)) (as := [mp_i l, mp_i 5]) (st := []) (st1 := [mp_i (if 0 ≤ l ∧ l < 5 then 1 else 0)]) dX11_clouds_12 ssX11_54 (zX11_isBelow (v := l) (n := 5) (by first | with_reducible assumption | omega) (by first | with_reducible assumption | omega)) ⟨Nat.le_of_ble_eq_true rfl, Nat.le_of_ble_eq_true rfl, Nat.le_of_ble_eq_true rfl, Nat.le_of_ble_eq_true rfl, Nat.le_of_ble_eq_true rfl⟩ rfl rfl rfl rfl ?_
    refine mp_ifb_eq (tgt := 43) dX11_clouds_15 rfl (fun h6 => ?_) (fun h6 => ?_)
    · refine mp_ldc2 (z := 1000000001) dX11_clouds_43 kcX11_262 rfl ?_
      exact mp_lreturn (st := []) dX11_clouds_46 rfl ⟨by decide, by decide⟩ ((mp_ansl (by unfold sp_clouds; first | (rw [if_neg (by omega)]; done) | (rw [if_pos (by omega)]; exact (mp_part_pos (by omega) (by omega) (by omega)).symm))))
    · refine mp_aloadN dX11_clouds_18 rfl ?_
      refine mp_ifnull_n (tgt := 43) dX11_clouds_20 rfl ?_
      refine mp_ldc2 (z := 1000000001) dX11_clouds_43 kcX11_262 rfl ?_
      exact mp_lreturn (st := []) dX11_clouds_46 rfl ⟨by decide, by decide⟩ ((mp_ansl (by unfold sp_clouds; first | (rw [if_neg (by omega)]; done) | (rw [if_pos (by omega)]; exact (mp_part_pos (by omega) (by omega) (by omega)).symm))))
