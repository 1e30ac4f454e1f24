/-! ===== the class: curves, laws, games ===== -/
theorem sp_curve_bad {s hd so sz el : Int → Int} {d w : Int} (h : ¬ (0 ≤ d ∧ d ≤ 7) ∨ ¬ (0 ≤ w ∧ w ≤ 2)) : sp_curve s hd so sz el d w = -1 := by
  unfold sp_curve
  by_cases hw9 : 0 ≤ w ∧ w ≤ 2
  · rw [if_neg (fun q => q hw9), sp_wR_bad (h.resolve_right (fun q => q hw9))]; rfl
  · rw [if_pos hw9]
theorem sp_curve_no {s hd so sz el : Int → Int} {d w : Int} (hd9 : 0 ≤ d ∧ d ≤ 7) (hw9 : 0 ≤ w ∧ w ≤ 2) (h1 : ¬ hd d = 2) : sp_curve s hd so sz el d w = if hd d = 0 then -11 else -12 := by
  unfold sp_curve
  rw [if_neg (fun q => q hw9), sp_wR_no hd9 h1, if_pos sp_wK_nz]
theorem sp_curve_ok {s hd so sz el : Int → Int} {d w : Int} (hd9 : 0 ≤ d ∧ d ≤ 7) (hw9 : 0 ≤ w ∧ w ≤ 2) (h1 : hd d = 2) : sp_curve s hd so sz el d w = if w = 0 then sp_goesSo s so sz el d else if w = 1 then sp_bits (sp_goesSo s so sz el d) else sp_next s sz d (sp_goesSo s so sz el d) := by
  unfold sp_curve
  rw [if_neg (fun q => q hw9), sp_wR_ok hd9 h1, if_neg (fun q => q rfl)]
theorem sp_laws_bad {hd so sz el : Int → Int} {d x w : Int} (h : ¬ (0 ≤ d ∧ d ≤ 7) ∨ ¬ (0 ≤ x ∧ x ≤ 9) ∨ ¬ (0 ≤ w ∧ w ≤ 1)) : sp_laws hd so sz el d x w = -1 := by
  unfold sp_laws
  by_cases hw9 : (0 ≤ x ∧ x ≤ 9) ∧ (0 ≤ w ∧ w ≤ 1)
  · have hd9 : ¬ (0 ≤ d ∧ d ≤ 7) := h.resolve_right (fun q => q.elim (fun q => q hw9.1) (fun q => q hw9.2))
    have e : sp_lawsBad hd so sz d = -1 := by unfold sp_lawsBad; rw [sp_wR_bad hd9]; rfl
    rw [if_neg (fun q => q.elim (fun q => q hw9.1) (fun q => q hw9.2)), e]; rfl
  · rw [if_pos (by omega)]
theorem sp_laws_no {hd so sz el : Int → Int} {d x w : Int} (hd9 : 0 ≤ d ∧ d ≤ 7) (hx : 0 ≤ x ∧ x ≤ 9) (hw9 : 0 ≤ w ∧ w ≤ 1) (h1 : ¬ hd d = 2) : sp_laws hd so sz el d x w = if hd d = 0 then -11 else -12 := by
  unfold sp_laws
  have e : sp_lawsBad hd so sz d = if hd d = 0 then -11 else -12 := by unfold sp_lawsBad; rw [sp_wR_no hd9 h1, if_pos sp_wK_nz]
  rw [if_neg (fun q => q.elim (fun q => q hx) (fun q => q hw9)), e, if_pos sp_wK_nz]
theorem sp_laws_13 {hd so sz el : Int → Int} {d x w : Int} (hd9 : 0 ≤ d ∧ d ≤ 7) (hx : 0 ≤ x ∧ x ≤ 9) (hw9 : 0 ≤ w ∧ w ≤ 1) (h1 : hd d = 2) (h2 : ¬ sz d % 2 = 0) : sp_laws hd so sz el d x w = -13 := by
  unfold sp_laws
  have e : sp_lawsBad hd so sz d = -13 := by unfold sp_lawsBad; rw [sp_wR_ok hd9 h1, if_neg (fun q => q rfl), if_pos (by omega)]
  rw [if_neg (fun q => q.elim (fun q => q hx) (fun q => q hw9)), e]; rfl
theorem sp_laws_ok {hd so sz el : Int → Int} {d x w : Int} (hd9 : 0 ≤ d ∧ d ≤ 7) (hx : 0 ≤ x ∧ x ≤ 9) (hw9 : 0 ≤ w ∧ w ≤ 1) (h1 : hd d = 2) (h2 : sz d % 2 = 0) : sp_laws hd so sz el d x w = if w = 0 then sp_lawsSet sz el d x else sp_bits (sp_lawsSet sz el d x) := by
  unfold sp_laws
  have e : sp_lawsBad hd so sz d = 0 := by unfold sp_lawsBad; rw [sp_wR_ok hd9 h1, if_neg (fun q => q rfl), if_neg (by omega)]
  rw [if_neg (fun q => q.elim (fun q => q hx) (fun q => q hw9)), e, if_neg (fun q => q rfl)]
theorem mp_lawC_s (fg : Int) : ∀ (n : Nat) (t : Int) (B : mp_H), B ++ mp_lawC fg (n + 1) t = (B ++ [mp_nw t fg]) ++ mp_lawC fg n (t + 1) := by
  intro n t B
  show B ++ (mp_nw t fg :: mp_lawC fg n (t + 1)) = _
  rw [List.append_assoc]; rfl
def sc_gmS (s : Int → Int) (k b a i : Int) (p : Int × Int) : Int × Int := if p.2 < sp_gm s k b (a + i * 5) then (a + i * 5, sp_gm s k b (a + i * 5)) else p
theorem sc_gmAll {s : Int → Int} {k a b : Int} (hf : 0 ≤ s (1 + 6 * k + 1) ∧ s (1 + 6 * k + 1) ≤ 9) : mp_fold (sc_gmS s k b a) 3 0 (a, -1) = sp_gmAll s k a b := by
  unfold sp_gmAll
  have h0 := mp_gm_bd s k b (a + 0 * 5)
  have e0 : sc_gmS s k b a 0 (a, -1) = sp_gmStep s k a b 0 (0, -1) := by
    unfold sp_gmStep sc_gmS
    rw [show 5 * (0 : Int) = 0 * 5 by omega, if_pos (by dsimp only; omega), if_neg (by dsimp only; omega)]
  have e : ∀ (i : Int) (p : Int × Int), sc_gmS s k b a i p = sp_gmStep s k a b i p := fun i p => by
    unfold sp_gmStep sc_gmS
    rw [show 5 * i = i * 5 by omega]
    by_cases h1 : p.2 < sp_gm s k b (a + i * 5)
    · rw [if_pos h1, if_neg (by omega)]
    · rw [if_neg h1, if_pos (by omega)]
  show sc_gmS s k b a (0 + 1 + 1) (sc_gmS s k b a (0 + 1) (sc_gmS s k b a 0 (a, -1))) = sp_gmStep s k a b (0 + 1 + 1) (sp_gmStep s k a b (0 + 1) (sp_gmStep s k a b 0 (0, -1)))
  rw [e0, e, e]
theorem mp_bits_seen14 {kd f co sl q : Int} (hf : 0 ≤ f ∧ f ≤ 9) : 0 ≤ sp_seen kd f co sl q ∧ sp_seen kd f co sl q < 16384 := mp_seen_14 hf

theorem lX11_goesAsTold_20 {kd f co sl ni la br : Int} {q : Nat} {o z : Int} {e : Int → Int} {a : Nat} {r : Nat} {σ : mp_H} (ha : σ[a]? = some (mp_O (Int.toNat kd) [mp_i kd, mp_i f, mp_i co, mp_i sl, mp_i ni, mp_i la, mp_i br])) (hr : σ[r]? = some (mp_O 9 [Value.ref q, mp_i o, mp_i z])) (he : σ[q]? = some (mp_I 100 (mp_F e))) (h_kd : 0 ≤ kd ∧ kd ≤ 7) (h_sl : 0 ≤ sl ∧ sl ≤ 4) (h_co : 0 ≤ co ∧ co ≤ 15) (h_la : 0 ≤ la ∧ la ≤ 14) (h_z : 0 ≤ z ∧ z ≤ 100) (h_o : 0 ≤ o ∧ o ≤ 2) (hel : ∀ x, mp_w (e x)) {R9 : mp_An} : ∀ (n : Nat) (t : Int), ((0 ≤ t ∧ t + (n : Nat) = z) ∧ z ≤ 14) → R9 = (some (mp_i (sc_go e co sl (sp_leastOf o) n t)), σ) → mp_At (mX11_goesAsTold, 2, 0, 0) (0, 0) 20 [some (Value.ref a), some (Value.ref r), some (mp_i (sp_leastOf o)), some (mp_i t), none] [] σ R9 := by
  intro n
  induction n with
  | zero =>
    intro t hi hR
    refine mp_iload_n dX11_goesAsTold_20 rfl ?_
    refine mp_aload_n dX11_goesAsTold_21 rfl ?_
    refine mp_getfield dX11_goesAsTold_22 fsX11_80_9 hr rfl ?_
    refine mp_icmp_ge (tgt := 63) dX11_goesAsTold_25 rfl ⟨by omega, by omega⟩ ⟨by omega, by omega⟩ (fun h1 => ?_) (fun h1 => ?_)
    · refine mp_iconst dX11_goesAsTold_63 ?_
      exact mp_zreturn (st := []) dX11_goesAsTold_64 rfl rfl ⟨by decide, by decide⟩ (hR.trans (mp_ans rfl))
    · exfalso; omega
  | succ n ih =>
    intro t hi hR
    have hlo : -2147483648 ≤ sp_leastOf o ∧ sp_leastOf o ≤ 0 := by unfold sp_leastOf; omega
    have het := hel t
    refine mp_iload_n dX11_goesAsTold_20 rfl ?_
    refine mp_aload_n dX11_goesAsTold_21 rfl ?_
    refine mp_getfield dX11_goesAsTold_22 fsX11_80_9 hr rfl ?_
    refine mp_icmp_ge (tgt := 63) dX11_goesAsTold_25 rfl ⟨by omega, by omega⟩ ⟨by omega, by omega⟩ (fun h1 => ?_) (fun h1 => ?_)
    · exfalso; omega
    · refine mp_aload_n dX11_goesAsTold_28 rfl ?_
      refine mp_iload_n dX11_goesAsTold_29 rfl ?_
      refine mp_invV (z := (mX5_at, 1, 0, 0)) (K' := (0, 0)) (σ1 := σ) (as := [mp_i t]) (st := []) (st1 := [mp_i (if 0 ≤ t ∧ t < z then e t else 0)]) dX11_goesAsTold_30 svX11_87 hr rfl rfl (zX5_at (r := r) (i := t) (q := q) (o := o) (z := z) (e := e) hr he (by first | with_reducible assumption | omega) (by first | with_reducible assumption | omega)) ⟨Nat.le_of_ble_eq_true rfl, Nat.le_of_ble_eq_true rfl, Nat.le_of_ble_eq_true rfl, Nat.le_of_ble_eq_true rfl, Nat.le_of_ble_eq_true rfl⟩ rfl rfl rfl rfl ?_
      refine mp_top (y := e t) (if_pos (by omega)) ?_
      refine mp_istore (L' := [some (Value.ref a), some (Value.ref r), some (mp_i (sp_leastOf o)), some (mp_i t), some (mp_i (e t))]) dX11_goesAsTold_33 (by decide) rfl ?_
      refine mp_iload dX11_goesAsTold_35 rfl ?_
      refine mp_iload_n dX11_goesAsTold_37 rfl ?_
      refine mp_icmp_eq (tgt := 57) dX11_goesAsTold_38 rfl ⟨by omega, by omega⟩ ⟨by omega, by omega⟩ (fun h2 => ?_) (fun h2 => ?_)
      · refine mp_iinc (z := t + 1) (L' := [some (Value.ref a), some (Value.ref r), some (mp_i (sp_leastOf o)), some (mp_i (t + 1)), some (mp_i (e t))]) dX11_goesAsTold_57 rfl (rfl) (by decide) rfl ?_
        refine mp_goto (tgt := 20) dX11_goesAsTold_60 rfl ?_
        refine mp_drop (L' := [some (Value.ref a), some (Value.ref r), some (mp_i (sp_leastOf o)), some (mp_i (t + 1)), none]) [true, true, true, true, false] rfl ?_
        exact ih (t + 1) (by omega) (hR.trans (by rw [sc_go_s, if_neg (by omega)]))
      · refine mp_iload dX11_goesAsTold_41 rfl ?_
        refine mp_aload_n dX11_goesAsTold_43 rfl ?_
        refine mp_aload_n dX11_goesAsTold_44 rfl ?_
        refine mp_getfield dX11_goesAsTold_45 (fsX11_102 (by omega)) ha rfl ?_
        refine mp_iload_n dX11_goesAsTold_48 rfl ?_
        refine mp_inv8 (kd := kd) (σ1 := σ) (as := [mp_i co, mp_i t]) (st := [mp_i (e t)]) (st1 := [mp_i (sp_over co sl t), mp_i (e t)]) dX11_goesAsTold_49 (by omega) s8X11_256 ha (fa_columnAt (a := a) (x := co) (t := t) (kd := kd) (f := f) (co := co) (sl := sl) (ni := ni) (la := la) (br := br) ha (by first | with_reducible assumption | omega) (by first | with_reducible assumption | omega) (by first | with_reducible assumption | omega) (by first | with_reducible assumption | omega)) (Nat.le_of_ble_eq_true rfl) ⟨Nat.le_of_ble_eq_true rfl, Nat.le_of_ble_eq_true rfl⟩ (Nat.le_of_ble_eq_true rfl) rfl rfl rfl ?_
        have b3 := mp_over_bd (col := co) (slope := sl) (step := t)
        refine mp_icmp_eq (tgt := 57) dX11_goesAsTold_52 rfl ⟨by omega, by omega⟩ ⟨by omega, by omega⟩ (fun h4 => ?_) (fun h4 => ?_)
        · refine mp_iinc (z := t + 1) (L' := [some (Value.ref a), some (Value.ref r), some (mp_i (sp_leastOf o)), some (mp_i (t + 1)), some (mp_i (e t))]) dX11_goesAsTold_57 rfl (rfl) (by decide) rfl ?_
          refine mp_goto (tgt := 20) dX11_goesAsTold_60 rfl ?_
          refine mp_drop (L' := [some (Value.ref a), some (Value.ref r), some (mp_i (sp_leastOf o)), some (mp_i (t + 1)), none]) [true, true, true, true, false] rfl ?_
          exact ih (t + 1) (by omega) (hR.trans (by rw [sc_go_s, if_neg (by omega)]))
        · refine mp_iconst dX11_goesAsTold_55 ?_
          exact mp_zreturn (st := []) dX11_goesAsTold_56 rfl rfl ⟨by decide, by decide⟩ (hR.trans (mp_ans (by rw [sc_go_s, if_pos (by omega)])))
theorem zX11_goesAsTold {kd f co sl ni la br : Int} {q : Nat} {o z : Int} {e : Int → Int} {a : Nat} {r : Nat} {σ : mp_H} (ha : σ[a]? = some (mp_O (Int.toNat kd) [mp_i kd, mp_i f, mp_i co, mp_i sl, mp_i ni, mp_i la, mp_i br])) (hr : σ[r]? = some (mp_O 9 [Value.ref q, mp_i o, mp_i z])) (he : σ[q]? = some (mp_I 100 (mp_F e))) (h_kd : 0 ≤ kd ∧ kd ≤ 7) (h_sl : 0 ≤ sl ∧ sl ≤ 4) (h_co : 0 ≤ co ∧ co ≤ 15) (h_la : 0 ≤ la ∧ la ≤ 14) (h_z : 0 ≤ z ∧ z ≤ 100) (h_o : 0 ≤ o ∧ o ≤ 2) (hel : ∀ x, mp_w (e x)) : mp_Call (mX11_goesAsTold, 2, 0, 0) [Value.ref a, Value.ref r] σ (some (mp_i (sc_goes z la e co sl (sp_leastOf o))), σ) := by
  refine mp_Call.of (L := [some (Value.ref a), some (Value.ref r), none, none, none]) pnX11 (Nat.le_of_ble_eq_true rfl) rfl ?_
  refine mp_aload_n dX11_goesAsTold_0 rfl ?_
  refine mp_getfield dX11_goesAsTold_1 fsX11_80_9 hr rfl ?_
  refine mp_aload_n dX11_goesAsTold_4 rfl ?_
  refine mp_getfield dX11_goesAsTold_5 (fsX11_250 (by omega)) ha rfl ?_
  refine mp_icmp_le (tgt := 13) dX11_goesAsTold_8 rfl ⟨by omega, by omega⟩ ⟨by omega, by omega⟩ (fun h1 => ?_) (fun h1 => ?_)
  · refine mp_aload_n dX11_goesAsTold_13 rfl ?_
    refine mp_invV (z := (mX5_least, 0, 0, 0)) (K' := (0, 0)) (σ1 := σ) (as := []) (st := []) (st1 := [mp_i (sp_leastOf o)]) dX11_goesAsTold_14 svX11_253 hr rfl rfl (zX5_least (r := r) (q := q) (o := o) (z := z) hr (by first | with_reducible assumption | omega)) ⟨Nat.le_of_ble_eq_true rfl, Nat.le_of_ble_eq_true rfl, Nat.le_of_ble_eq_true rfl, Nat.le_of_ble_eq_true rfl, Nat.le_of_ble_eq_true rfl⟩ rfl rfl rfl rfl ?_
    refine mp_istore_n (L' := [some (Value.ref a), some (Value.ref r), some (mp_i (sp_leastOf o)), none, none]) dX11_goesAsTold_17 rfl (by decide) rfl ?_
    refine mp_iconst dX11_goesAsTold_18 ?_
    refine mp_istore_n (L' := [some (Value.ref a), some (Value.ref r), some (mp_i (sp_leastOf o)), some (mp_i 0), none]) dX11_goesAsTold_19 rfl (by decide) rfl ?_
    exact lX11_goesAsTold_20 (a := a) (r := r) ha hr he (by first | with_reducible assumption | omega) (by first | with_reducible assumption | omega) (by first | with_reducible assumption | omega) (by first | with_reducible assumption | omega) (by first | with_reducible assumption | omega) (by first | with_reducible assumption | omega) (by first | with_reducible assumption | omega) (Int.toNat z) 0 (by omega) (by unfold sc_goes; rw [if_neg (by omega)])
  · refine mp_iconst dX11_goesAsTold_11 ?_
    exact mp_zreturn (st := []) dX11_goesAsTold_12 rfl rfl ⟨by decide, by decide⟩ ((mp_ans (by unfold sc_goes; rw [if_pos (by omega)])))
theorem lX11_nextColumn_10 {s si sp : Int → Int} {f fi fp : Nat → Option Nat} {im : Int} {hd : Int → Int} {kn : Nat → Option Nat} {wd ak ke cv vo so sz el : Int → Int} {A B : mp_H}  {u : Int} {z : Int} (hA : A.length = 1) (hs : mp_sky s) (hMt : mp_Mt (A ++ (mp_cs s si sp f fi fp im hd kn wd ak ke cv vo so sz el ++ B)) s f) (h_u : 0 ≤ u ∧ u < 256) (h_z : 0 ≤ z ∧ z ≤ 100) {R9 : mp_An} : ∀ (n : Nat) (x : Int → Int) (t : Int), (0 ≤ t ∧ t + (n : Nat) = 8) → mp_At (mX11_nextColumn, 1, 0, 0) (0, 0) 93 [some (Value.ref 1), some (mp_i u), some (mp_i z), none, none, none] [] (A ++ (mp_cs s si sp f fi fp im hd kn wd ak ke cv (mp_fold (fun k q => if k < s 0 then sc_vote s u z k q else q) n t x) so sz el ++ B)) R9 → mp_At (mX11_nextColumn, 1, 0, 0) (0, 0) 10 [some (Value.ref 1), some (mp_i u), some (mp_i z), some (mp_i t), none, none] [] (A ++ (mp_cs s si sp f fi fp im hd kn wd ak ke cv x so sz el ++ B)) R9 := by
  intro n
  induction n with
  | zero =>
    intro x t hi hk
    have hz0 := hs.1
    refine mp_iload_n dX11_nextColumn_10 rfl ?_
    refine mp_bipush dX11_nextColumn_11 rfl ?_
    refine mp_icmp_ge (tgt := 93) dX11_nextColumn_13 rfl ⟨by omega, by omega⟩ ⟨by omega, by omega⟩ (fun h1 => ?_) (fun h1 => ?_)
    · refine mp_drop (L' := [some (Value.ref 1), some (mp_i u), some (mp_i z), none, none, none]) [true, true, true, false, false, false] rfl ?_
      exact hk
    · exfalso; omega
  | succ n ih =>
    intro x t hi hk
    have hz0 := hs.1
    have hbu := mp_b_bd u t
    refine mp_iload_n dX11_nextColumn_10 rfl ?_
    refine mp_bipush dX11_nextColumn_11 rfl ?_
    refine mp_icmp_ge (tgt := 93) dX11_nextColumn_13 rfl ⟨by omega, by omega⟩ ⟨by omega, by omega⟩ (fun h1 => ?_) (fun h1 => ?_)
    · exfalso; omega
    · refine mp_aload_n dX11_nextColumn_16 rfl ?_
      refine mp_getfield dX11_nextColumn_17 fsX11_10_10 (mp_lkP hA 0 rfl) rfl ?_
      refine mp_iload_n dX11_nextColumn_20 rfl ?_
      by_cases hm2 : 0 ≤ t ∧ t < s 0
      · obtain ⟨a2, hf2, hc2⟩ := (mp_Sk.of (σ := A ++ (mp_cs s si sp f fi fp im hd kn wd ak ke cv x so sz el ++ B)) (mp_skC2 hA) (hMt.mono hs.kd mp_stay_cs)).2.2.2.2.2.2 t hm2.1 hm2.2
        have ht2 := hs.2.1 t hm2.1 hm2.2
        have hl2 := mp_lasts_bd (kind := (s (1 + 6 * t + 0))) (f := (s (1 + 6 * t + 1))) (by omega)
        have hr2 := mp_bright_bd (kind := (s (1 + 6 * t + 0))) (f := (s (1 + 6 * t + 1))) (by omega)
        refine mp_invV (z := (mX6_at, 0, 0, 0)) (K' := (0, 0)) (σ1 := A ++ (mp_cs s si sp f fi fp im hd kn wd ak ke cv x so sz el ++ B)) (as := [mp_i t]) (st := []) (st1 := [Value.ref a2]) dX11_nextColumn_21 svX11_93 (mp_Sk.of (σ := A ++ (mp_cs s si sp f fi fp im hd kn wd ak ke cv x so sz el ++ B)) (mp_skC2 hA) (hMt.mono hs.kd mp_stay_cs)).1 rfl rfl (zX6_at (p := 2) (m := t) (a := a2) (s := s) (f := f) (mp_Sk.of (σ := A ++ (mp_cs s si sp f fi fp im hd kn wd ak ke cv x so sz el ++ B)) (mp_skC2 hA) (hMt.mono hs.kd mp_stay_cs)) hm2 (by omega) hf2) ⟨Nat.le_of_ble_eq_true rfl, Nat.le_of_ble_eq_true rfl, Nat.le_of_ble_eq_true rfl, Nat.le_of_ble_eq_true rfl, Nat.le_of_ble_eq_true rfl⟩ rfl rfl rfl rfl ?_
        refine mp_astore (L' := [some (Value.ref 1), some (mp_i u), some (mp_i z), some (mp_i t), some (Value.ref a2), none]) dX11_nextColumn_24 (by decide) rfl ?_
        refine mp_aload dX11_nextColumn_26 rfl ?_
        refine mp_ifnull_r dX11_nextColumn_28 ?_
        refine mp_iload_n dX11_nextColumn_31 rfl ?_
        refine mp_iload_n dX11_nextColumn_32 rfl ?_
        refine mp_invS (z := (mX11_hasBit, 0, 0, 0)) (K' := (0, 0)) (σ1 := A ++ (mp_cs s si sp f fi fp im hd kn wd ak ke cv x so sz el ++ B)) (as := [mp_i u, mp_i t]) (st := []) (st1 := [mp_i (if sp_b u t ≠ 0 then 1 else 0)]) dX11_nextColumn_33 ssX11_228 (zX11_hasBit (v := u) (k := t) (by first | with_reducible assumption | omega) (by first | with_reducible assumption | omega)) ⟨Nat.le_of_ble_eq_true rfl, Nat.le_of_ble_eq_true rfl, Nat.le_of_ble_eq_true rfl, Nat.le_of_ble_eq_true rfl, Nat.le_of_ble_eq_true rfl⟩ rfl rfl rfl rfl ?_
        refine mp_ifb_eq (tgt := 62) dX11_nextColumn_36 rfl (fun h3 => ?_) (fun h3 => ?_)
        · refine mp_bipush dX11_nextColumn_62 rfl ?_
          refine mp_istore (L' := [some (Value.ref 1), some (mp_i u), some (mp_i z), some (mp_i t), some (Value.ref a2), some (mp_i (-4))]) dX11_nextColumn_64 (by decide) rfl ?_
          refine mp_iload dX11_nextColumn_66 rfl ?_
          refine mp_bipush dX11_nextColumn_68 rfl ?_
          refine mp_invS (z := (mX11_isBelow, 0, 0, 0)) (K' := (0, 0)) (σ1 := A ++ (mp_cs s si sp f fi fp im hd kn wd ak ke cv x so sz el ++ B)) (as := [mp_i (-4), mp_i 16]) (st := []) (st1 := [mp_i (if 0 ≤ (-4) ∧ (-4) < 16 then 1 else 0)]) dX11_nextColumn_70 ssX11_54 (zX11_isBelow (v := (-4)) (n := 16) (by first | with_reducible assumption | omega) (by first | with_reducible assumption | omega)) ⟨Nat.le_of_ble_eq_true rfl, Nat.le_of_ble_eq_true rfl, Nat.le_of_ble_eq_true rfl, Nat.le_of_ble_eq_true rfl, Nat.le_of_ble_eq_true rfl⟩ rfl rfl rfl rfl ?_
          refine mp_ifb_eq (tgt := 87) dX11_nextColumn_73 rfl (fun h4 => ?_) (fun h4 => ?_)
          · refine mp_iinc (z := t + 1) (L' := [some (Value.ref 1), some (mp_i u), some (mp_i z), some (mp_i (t + 1)), some (Value.ref a2), some (mp_i (-4))]) dX11_nextColumn_87 rfl (rfl) (by decide) rfl ?_
            refine mp_goto (tgt := 10) dX11_nextColumn_90 rfl ?_
            refine mp_drop (L' := [some (Value.ref 1), some (mp_i u), some (mp_i z), some (mp_i (t + 1)), none, none]) [true, true, true, true, false, false] rfl ?_
            have e9 : (fun k q => if k < s 0 then sc_vote s u z k q else q) t x = x := (if_pos (by omega)).trans (by unfold sc_vote; first | (rw [if_pos ⟨by omega, by omega⟩]; done) | (rw [if_neg (by omega)]; done))
            have k9 := ih ((fun k q => if k < s 0 then sc_vote s u z k q else q) t x) (t + 1) (by omega) hk
            rw [e9] at k9
            exact k9
          · exfalso; omega
        · refine mp_iload_n dX11_nextColumn_39 rfl ?_
          refine mp_aload dX11_nextColumn_40 rfl ?_
          refine mp_getfield dX11_nextColumn_42 (fsX11_250 (by omega)) hc2 rfl ?_
          refine mp_icmp_ge (tgt := 62) dX11_nextColumn_45 rfl ⟨by omega, by omega⟩ ⟨by omega, by omega⟩ (fun h5 => ?_) (fun h5 => ?_)
          · refine mp_bipush dX11_nextColumn_62 rfl ?_
            refine mp_istore (L' := [some (Value.ref 1), some (mp_i u), some (mp_i z), some (mp_i t), some (Value.ref a2), some (mp_i (-4))]) dX11_nextColumn_64 (by decide) rfl ?_
            refine mp_iload dX11_nextColumn_66 rfl ?_
            refine mp_bipush dX11_nextColumn_68 rfl ?_
            refine mp_invS (z := (mX11_isBelow, 0, 0, 0)) (K' := (0, 0)) (σ1 := A ++ (mp_cs s si sp f fi fp im hd kn wd ak ke cv x so sz el ++ B)) (as := [mp_i (-4), mp_i 16]) (st := []) (st1 := [mp_i (if 0 ≤ (-4) ∧ (-4) < 16 then 1 else 0)]) dX11_nextColumn_70 ssX11_54 (zX11_isBelow (v := (-4)) (n := 16) (by first | with_reducible assumption | omega) (by first | with_reducible assumption | omega)) ⟨Nat.le_of_ble_eq_true rfl, Nat.le_of_ble_eq_true rfl, Nat.le_of_ble_eq_true rfl, Nat.le_of_ble_eq_true rfl, Nat.le_of_ble_eq_true rfl⟩ rfl rfl rfl rfl ?_
            refine mp_ifb_eq (tgt := 87) dX11_nextColumn_73 rfl (fun h6 => ?_) (fun h6 => ?_)
            · refine mp_iinc (z := t + 1) (L' := [some (Value.ref 1), some (mp_i u), some (mp_i z), some (mp_i (t + 1)), some (Value.ref a2), some (mp_i (-4))]) dX11_nextColumn_87 rfl (rfl) (by decide) rfl ?_
              refine mp_goto (tgt := 10) dX11_nextColumn_90 rfl ?_
              refine mp_drop (L' := [some (Value.ref 1), some (mp_i u), some (mp_i z), some (mp_i (t + 1)), none, none]) [true, true, true, true, false, false] rfl ?_
              have e9 : (fun k q => if k < s 0 then sc_vote s u z k q else q) t x = x := (if_pos (by omega)).trans (by unfold sc_vote; first | (rw [if_pos ⟨by omega, by omega⟩]; done) | (rw [if_neg (by omega)]; done))
              have k9 := ih ((fun k q => if k < s 0 then sc_vote s u z k q else q) t x) (t + 1) (by omega) hk
              rw [e9] at k9
              exact k9
            · exfalso; omega
          · refine mp_aload dX11_nextColumn_48 rfl ?_
            refine mp_aload dX11_nextColumn_50 rfl ?_
            refine mp_getfield dX11_nextColumn_52 (fsX11_102 (by omega)) hc2 rfl ?_
            refine mp_iload_n dX11_nextColumn_55 rfl ?_
            refine mp_inv8 (kd := (s (1 + 6 * t + 0))) (σ1 := A ++ (mp_cs s si sp f fi fp im hd kn wd ak ke cv x so sz el ++ B)) (as := [mp_i (s (1 + 6 * t + 2)), mp_i z]) (st := []) (st1 := [mp_i (sp_over (s (1 + 6 * t + 2)) (s (1 + 6 * t + 3)) z)]) dX11_nextColumn_56 (by omega) s8X11_256 hc2 (fa_columnAt (a := a2) (x := (s (1 + 6 * t + 2))) (t := z) (kd := (s (1 + 6 * t + 0))) (f := (s (1 + 6 * t + 1))) (co := (s (1 + 6 * t + 2))) (sl := (s (1 + 6 * t + 3))) (ni := (s (1 + 6 * t + 4))) (la := (sp_lasts (s (1 + 6 * t + 0)) (s (1 + 6 * t + 1)))) (br := (sp_bright (s (1 + 6 * t + 0)) (s (1 + 6 * t + 1)))) hc2 (by first | with_reducible assumption | omega) (by first | with_reducible assumption | omega) (by first | with_reducible assumption | omega) (by first | with_reducible assumption | omega)) (Nat.le_of_ble_eq_true rfl) ⟨Nat.le_of_ble_eq_true rfl, Nat.le_of_ble_eq_true rfl⟩ (Nat.le_of_ble_eq_true rfl) rfl rfl rfl ?_
            have b7 := mp_over_bd (col := (s (1 + 6 * t + 2))) (slope := (s (1 + 6 * t + 3))) (step := z)
            refine mp_goto (tgt := 64) dX11_nextColumn_59 rfl ?_
            refine mp_istore (L' := [some (Value.ref 1), some (mp_i u), some (mp_i z), some (mp_i t), some (Value.ref a2), some (mp_i (sp_over (s (1 + 6 * t + 2)) (s (1 + 6 * t + 3)) z))]) dX11_nextColumn_64 (by decide) rfl ?_
            refine mp_iload dX11_nextColumn_66 rfl ?_
            refine mp_bipush dX11_nextColumn_68 rfl ?_
            refine mp_invS (z := (mX11_isBelow, 0, 0, 0)) (K' := (0, 0)) (σ1 := A ++ (mp_cs s si sp f fi fp im hd kn wd ak ke cv x so sz el ++ B)) (as := [mp_i (sp_over (s (1 + 6 * t + 2)) (s (1 + 6 * t + 3)) z), mp_i 16]) (st := []) (st1 := [mp_i (if 0 ≤ (sp_over (s (1 + 6 * t + 2)) (s (1 + 6 * t + 3)) z) ∧ (sp_over (s (1 + 6 * t + 2)) (s (1 + 6 * t + 3)) z) < 16 then 1 else 0)]) dX11_nextColumn_70 ssX11_54 (zX11_isBelow (v := (sp_over (s (1 + 6 * t + 2)) (s (1 + 6 * t + 3)) z)) (n := 16) (by first | with_reducible assumption | omega) (by first | with_reducible assumption | omega)) ⟨Nat.le_of_ble_eq_true rfl, Nat.le_of_ble_eq_true rfl, Nat.le_of_ble_eq_true rfl, Nat.le_of_ble_eq_true rfl, Nat.le_of_ble_eq_true rfl⟩ rfl rfl rfl rfl ?_
            refine mp_ifb_eq (tgt := 87) dX11_nextColumn_73 rfl (fun h8 => ?_) (fun h8 => ?_)
            · exfalso; omega
            · refine mp_aload_n dX11_nextColumn_76 rfl ?_
              refine mp_getfield dX11_nextColumn_77 fsX11_50_10 (mp_lkP hA 0 rfl) rfl ?_
              refine mp_iload dX11_nextColumn_80 rfl ?_
              refine mp_dup2 dX11_nextColumn_82 rfl rfl ?_
              refine mp_iald dX11_nextColumn_83 (mp_lkP hA 26 rfl) ⟨by omega, by omega⟩ (by omega) ?_
              refine mp_iconst dX11_nextColumn_84 ?_
              refine mp_iadd (z := (x (sp_over (s (1 + 6 * t + 2)) (s (1 + 6 * t + 3)) z)) + 1) dX11_nextColumn_85 (by first | rfl | omega) ?_
              refine mp_iast (σ' := A ++ (mp_cs s si sp f fi fp im hd kn wd ak ke cv (mp_ud x (sp_over (s (1 + 6 * t + 2)) (s (1 + 6 * t + 3)) z) ((x (sp_over (s (1 + 6 * t + 2)) (s (1 + 6 * t + 3)) z)) + 1)) so sz el ++ B)) dX11_nextColumn_86 (mp_lkP hA 26 rfl) (by decide) ⟨by omega, by omega⟩ (by decide) (mp_stP (Ms' := mp_cs s si sp f fi fp im hd kn wd ak ke cv (mp_ud x (sp_over (s (1 + 6 * t + 2)) (s (1 + 6 * t + 3)) z) ((x (sp_over (s (1 + 6 * t + 2)) (s (1 + 6 * t + 3)) z)) + 1)) so sz el) hA 26 (Nat.le_of_ble_eq_true rfl) rfl) ?_
              refine mp_iinc (z := t + 1) (L' := [some (Value.ref 1), some (mp_i u), some (mp_i z), some (mp_i (t + 1)), some (Value.ref a2), some (mp_i (sp_over (s (1 + 6 * t + 2)) (s (1 + 6 * t + 3)) z))]) dX11_nextColumn_87 rfl (rfl) (by decide) rfl ?_
              refine mp_goto (tgt := 10) dX11_nextColumn_90 rfl ?_
              refine mp_drop (L' := [some (Value.ref 1), some (mp_i u), some (mp_i z), some (mp_i (t + 1)), none, none]) [true, true, true, true, false, false] rfl ?_
              have e9 : (fun k q => if k < s 0 then sc_vote s u z k q else q) t x = mp_ud x (sp_over (s (1 + 6 * t + 2)) (s (1 + 6 * t + 3)) z) ((x (sp_over (s (1 + 6 * t + 2)) (s (1 + 6 * t + 3)) z)) + 1) := (if_pos (by omega)).trans (by unfold sc_vote; first | (rw [if_pos ⟨by omega, by omega⟩]; done) | (rw [if_neg (by omega)]; done))
              have k9 := ih ((fun k q => if k < s 0 then sc_vote s u z k q else q) t x) (t + 1) (by omega) hk
              rw [e9] at k9
              exact k9
      · refine mp_invV (z := (mX6_at, 0, 0, 0)) (K' := (0, 0)) (σ1 := A ++ (mp_cs s si sp f fi fp im hd kn wd ak ke cv x so sz el ++ B)) (as := [mp_i t]) (st := []) (st1 := [Value.null]) dX11_nextColumn_21 svX11_93 (mp_Sk.of (σ := A ++ (mp_cs s si sp f fi fp im hd kn wd ak ke cv x so sz el ++ B)) (mp_skC2 hA) (hMt.mono hs.kd mp_stay_cs)).1 rfl rfl (zX6_atN (p := 2) (m := t) (s := s) (f := f) (mp_Sk.of (σ := A ++ (mp_cs s si sp f fi fp im hd kn wd ak ke cv x so sz el ++ B)) (mp_skC2 hA) (hMt.mono hs.kd mp_stay_cs)) hm2 (by omega) (by omega)) ⟨Nat.le_of_ble_eq_true rfl, Nat.le_of_ble_eq_true rfl, Nat.le_of_ble_eq_true rfl, Nat.le_of_ble_eq_true rfl, Nat.le_of_ble_eq_true rfl⟩ rfl rfl rfl rfl ?_
        refine mp_astoreN (L' := [some (Value.ref 1), some (mp_i u), some (mp_i z), some (mp_i t), some (Value.null), none]) dX11_nextColumn_24 (by decide) rfl ?_
        refine mp_aloadN dX11_nextColumn_26 rfl ?_
        refine mp_ifnull_n (tgt := 62) dX11_nextColumn_28 rfl ?_
        refine mp_bipush dX11_nextColumn_62 rfl ?_
        refine mp_istore (L' := [some (Value.ref 1), some (mp_i u), some (mp_i z), some (mp_i t), some (Value.null), some (mp_i (-4))]) dX11_nextColumn_64 (by decide) rfl ?_
        refine mp_iload dX11_nextColumn_66 rfl ?_
        refine mp_bipush dX11_nextColumn_68 rfl ?_
        refine mp_invS (z := (mX11_isBelow, 0, 0, 0)) (K' := (0, 0)) (σ1 := A ++ (mp_cs s si sp f fi fp im hd kn wd ak ke cv x so sz el ++ B)) (as := [mp_i (-4), mp_i 16]) (st := []) (st1 := [mp_i (if 0 ≤ (-4) ∧ (-4) < 16 then 1 else 0)]) dX11_nextColumn_70 ssX11_54 (zX11_isBelow (v := (-4)) (n := 16) (by first | with_reducible assumption | omega) (by first | with_reducible assumption | omega)) ⟨Nat.le_of_ble_eq_true rfl, Nat.le_of_ble_eq_true rfl, Nat.le_of_ble_eq_true rfl, Nat.le_of_ble_eq_true rfl, Nat.le_of_ble_eq_true rfl⟩ rfl rfl rfl rfl ?_
        refine mp_ifb_eq (tgt := 87) dX11_nextColumn_73 rfl (fun h9 => ?_) (fun h9 => ?_)
        · refine mp_iinc (z := t + 1) (L' := [some (Value.ref 1), some (mp_i u), some (mp_i z), some (mp_i (t + 1)), some (Value.null), some (mp_i (-4))]) dX11_nextColumn_87 rfl (rfl) (by decide) rfl ?_
          refine mp_goto (tgt := 10) dX11_nextColumn_90 rfl ?_
          refine mp_drop (L' := [some (Value.ref 1), some (mp_i u), some (mp_i z), some (mp_i (t + 1)), none, none]) [true, true, true, true, false, false] rfl ?_
          have e9 : (fun k q => if k < s 0 then sc_vote s u z k q else q) t x = x := if_neg (by omega)
          have k9 := ih ((fun k q => if k < s 0 then sc_vote s u z k q else q) t x) (t + 1) (by omega) hk
          rw [e9] at k9
          exact k9
        · exfalso; omega
theorem lX11_nextColumn_102 {s si sp : Int → Int} {f fi fp : Nat → Option Nat} {im : Int} {hd : Int → Int} {kn : Nat → Option Nat} {wd ak ke cv vo so sz el : Int → Int} {A B : mp_H}  {u : Int} {z : Int} (hA : A.length = 1) (hs : mp_sky s) (hMt : mp_Mt (A ++ (mp_cs s si sp f fi fp im hd kn wd ak ke cv vo so sz el ++ B)) s f) (h_u : 0 ≤ u ∧ u < 256) (h_z : 0 ≤ z ∧ z ≤ 100) {R9 : mp_An} : ∀ (n : Nat) (x : Int → Int) (p : Int × Int) (c : Int), ((0 ≤ c ∧ c + (n : Nat) = 16) ∧ (p.1 = -4 ∨ (0 ≤ p.1 ∧ p.1 ≤ 15)) ∧ (0 ≤ p.2 ∧ p.2 ≤ 8) ∧ (∀ c, 0 ≤ x c ∧ x c ≤ 8)) → mp_At (mX11_nextColumn, 1, 0, 0) (0, 0) 139 [some (Value.ref 1), some (mp_i u), some (mp_i z), some (mp_i ((mp_fold (sc_nx x) n c p).1)), none, none] [] (A ++ (mp_cs s si sp f fi fp im hd kn wd ak ke cv x so sz el ++ B)) R9 → mp_At (mX11_nextColumn, 1, 0, 0) (0, 0) 102 [some (Value.ref 1), some (mp_i u), some (mp_i z), some (mp_i p.1), some (mp_i p.2), some (mp_i c)] [] (A ++ (mp_cs s si sp f fi fp im hd kn wd ak ke cv x so sz el ++ B)) R9 := by
  intro n
  induction n with
  | zero =>
    intro x p c hi hk
    refine mp_iload dX11_nextColumn_102 rfl ?_
    refine mp_bipush dX11_nextColumn_104 rfl ?_
    refine mp_icmp_ge (tgt := 139) dX11_nextColumn_106 rfl ⟨by omega, by omega⟩ ⟨by omega, by omega⟩ (fun h1 => ?_) (fun h1 => ?_)
    · refine mp_drop (L' := [some (Value.ref 1), some (mp_i u), some (mp_i z), some (mp_i p.1), none, none]) [true, true, true, true, false, false] rfl ?_
      exact hk
    · exfalso; omega
  | succ n ih =>
    intro x p c hi hk
    have hxc := hi.2.2.2 c
    refine mp_iload dX11_nextColumn_102 rfl ?_
    refine mp_bipush dX11_nextColumn_104 rfl ?_
    refine mp_icmp_ge (tgt := 139) dX11_nextColumn_106 rfl ⟨by omega, by omega⟩ ⟨by omega, by omega⟩ (fun h1 => ?_) (fun h1 => ?_)
    · exfalso; omega
    · refine mp_aload_n dX11_nextColumn_109 rfl ?_
      refine mp_getfield dX11_nextColumn_110 fsX11_50_10 (mp_lkP hA 0 rfl) rfl ?_
      refine mp_iload dX11_nextColumn_113 rfl ?_
      refine mp_iald dX11_nextColumn_115 (mp_lkP hA 26 rfl) ⟨by omega, by omega⟩ (by omega) ?_
      refine mp_iload dX11_nextColumn_116 rfl ?_
      refine mp_icmp_le (tgt := 133) dX11_nextColumn_118 rfl ⟨by omega, by omega⟩ ⟨by omega, by omega⟩ (fun h2 => ?_) (fun h2 => ?_)
      · refine mp_iinc (z := c + 1) (L' := [some (Value.ref 1), some (mp_i u), some (mp_i z), some (mp_i p.1), some (mp_i p.2), some (mp_i (c + 1))]) dX11_nextColumn_133 rfl (rfl) (by decide) rfl ?_
        refine mp_goto (tgt := 102) dX11_nextColumn_136 rfl ?_
        have e9 : sc_nx x c p = p := by unfold sc_nx; first | (rw [if_pos (by omega)]; done) | (rw [if_neg (by omega)]; done)
        have k9 := ih x (sc_nx x c p) (c + 1) (by rw [e9]; exact ⟨by omega, by first | omega | (dsimp only; omega), by first | omega | (dsimp only; omega), hi.2.2.2⟩) hk
        rw [e9] at k9
        exact k9
      · refine mp_iload dX11_nextColumn_121 rfl ?_
        refine mp_istore_n (L' := [some (Value.ref 1), some (mp_i u), some (mp_i z), some (mp_i c), some (mp_i p.2), some (mp_i c)]) dX11_nextColumn_123 rfl (by decide) rfl ?_
        refine mp_aload_n dX11_nextColumn_124 rfl ?_
        refine mp_getfield dX11_nextColumn_125 fsX11_50_10 (mp_lkP hA 0 rfl) rfl ?_
        refine mp_iload dX11_nextColumn_128 rfl ?_
        refine mp_iald dX11_nextColumn_130 (mp_lkP hA 26 rfl) ⟨by omega, by omega⟩ (by omega) ?_
        refine mp_istore (L' := [some (Value.ref 1), some (mp_i u), some (mp_i z), some (mp_i c), some (mp_i (x c)), some (mp_i c)]) dX11_nextColumn_131 (by decide) rfl ?_
        refine mp_iinc (z := c + 1) (L' := [some (Value.ref 1), some (mp_i u), some (mp_i z), some (mp_i c), some (mp_i (x c)), some (mp_i (c + 1))]) dX11_nextColumn_133 rfl (rfl) (by decide) rfl ?_
        refine mp_goto (tgt := 102) dX11_nextColumn_136 rfl ?_
        have e9 : sc_nx x c p = (c, x c) := by unfold sc_nx; first | (rw [if_pos (by omega)]; done) | (rw [if_neg (by omega)]; done)
        have k9 := ih x (sc_nx x c p) (c + 1) (by rw [e9]; exact ⟨by omega, by first | omega | (dsimp only; omega), by first | omega | (dsimp only; omega), hi.2.2.2⟩) hk
        rw [e9] at k9
        exact k9
theorem zX11_nextColumn {s si sp : Int → Int} {f fi fp : Nat → Option Nat} {im : Int} {hd : Int → Int} {kn : Nat → Option Nat} {wd ak ke cv vo so sz el : Int → Int} {A B : mp_H}  {u : Int} {z : Int} (hA : A.length = 1) (hs : mp_sky s) (hMt : mp_Mt (A ++ (mp_cs s si sp f fi fp im hd kn wd ak ke cv vo so sz el ++ B)) s f) (h_u : 0 ≤ u ∧ u < 256) (h_z : 0 ≤ z ∧ z ≤ 100) : mp_Call (mX11_nextColumn, 1, 0, 0) [Value.ref 1, mp_i u, mp_i z] (A ++ (mp_cs s si sp f fi fp im hd kn wd ak ke cv vo so sz el ++ B)) (some (mp_i ((mp_fold (sc_nx (mp_fold (fun k q => if k < s 0 then sc_vote s u z k q else q) 8 0 (fun _ => 0))) 16 0 (-4, 0)).1)), A ++ (mp_cs s si sp f fi fp im hd kn wd ak ke cv (mp_fold (fun k q => if k < s 0 then sc_vote s u z k q else q) 8 0 (fun _ => 0)) so sz el ++ B)) := by
  refine mp_Call.of (L := [some (Value.ref 1), some (mp_i u), some (mp_i z), none, none, none]) pnX11 (Nat.le_of_ble_eq_true rfl) rfl ?_
  have hz0 := hs.1
  refine mp_aload_n dX11_nextColumn_0 rfl ?_
  refine mp_getfield dX11_nextColumn_1 fsX11_50_10 (mp_lkP hA 0 rfl) rfl ?_
  refine mp_iconst dX11_nextColumn_4 ?_
  refine mp_invS (z := (mJ7_fill_53178, 0, 0, 0)) (K' := (0, 0)) (σ1 := A ++ (mp_cs s si sp f fi fp im hd kn wd ak ke cv (fun _ => 0) so sz el ++ B)) (as := [Value.ref 27, mp_i 0]) (st := []) (st1 := []) dX11_nextColumn_5 ssX11_215 (mp_Call.cast (zJ7_fill_53178 (r := 27) (v := 0) (N := 16) (e := vo) (mp_lkP hA 26 rfl) (by first | with_reducible assumption | omega) (by first | with_reducible assumption | omega)) rfl (congrArg (Prod.mk _) (mp_stP (Ms' := mp_cs s si sp f fi fp im hd kn wd ak ke cv (fun _ => 0) so sz el) hA 26 (Nat.le_of_ble_eq_true rfl) rfl))) ⟨Nat.le_of_ble_eq_true rfl, Nat.le_of_ble_eq_true rfl, Nat.le_of_ble_eq_true rfl, Nat.le_of_ble_eq_true rfl, Nat.le_of_ble_eq_true rfl⟩ rfl rfl rfl rfl ?_
  refine mp_iconst dX11_nextColumn_8 ?_
  refine mp_istore_n (L' := [some (Value.ref 1), some (mp_i u), some (mp_i z), some (mp_i 0), none, none]) dX11_nextColumn_9 rfl (by decide) rfl ?_
  refine lX11_nextColumn_10 (s := s) (si := si) (sp := sp) (f := f) (fi := fi) (fp := fp) (im := im) (hd := hd) (kn := kn) (wd := wd) (ak := ak) (ke := ke) (cv := cv) (vo := vo) (so := so) (sz := sz) (el := el) (B := B) (u := u) (z := z)  (by first | with_reducible assumption | omega) (by first | with_reducible assumption | omega) (by first | with_reducible assumption | omega) (by first | with_reducible assumption | omega) (by first | with_reducible assumption | omega) 8 (fun _ => 0) 0 (by omega) ?_
  refine mp_bipush dX11_nextColumn_93 rfl ?_
  refine mp_istore_n (L' := [some (Value.ref 1), some (mp_i u), some (mp_i z), some (mp_i (-4)), none, none]) dX11_nextColumn_95 rfl (by decide) rfl ?_
  refine mp_iconst dX11_nextColumn_96 ?_
  refine mp_istore (L' := [some (Value.ref 1), some (mp_i u), some (mp_i z), some (mp_i (-4)), some (mp_i 0), none]) dX11_nextColumn_97 (by decide) rfl ?_
  refine mp_iconst dX11_nextColumn_99 ?_
  refine mp_istore (L' := [some (Value.ref 1), some (mp_i u), some (mp_i z), some (mp_i (-4)), some (mp_i 0), some (mp_i 0)]) dX11_nextColumn_100 (by decide) rfl ?_
  have hvb : ∀ c, 0 ≤ (mp_fold (fun k q => if k < s 0 then sc_vote s u z k q else q) 8 0 (fun _ => 0)) c ∧ (mp_fold (fun k q => if k < s 0 then sc_vote s u z k q else q) 8 0 (fun _ => 0)) c ≤ 8 := fun c => by
    rw [mp_fold_8 (F := sc_vote s u z) hs.1]
    have := sc_vote_bd (s := s) (u := u) (z := z) (Int.toNat (s 0)) 0 (fun _ => 0) 0 (fun _ => ⟨Int.le_refl _, Int.le_refl _⟩) c
    omega
  refine lX11_nextColumn_102 (s := s) (si := si) (sp := sp) (f := f) (fi := fi) (fp := fp) (im := im) (hd := hd) (kn := kn) (wd := wd) (ak := ak) (ke := ke) (cv := cv) (vo := vo) (so := so) (sz := sz) (el := el) (B := B) (u := u) (z := z) hA hs hMt h_u h_z 16 (mp_fold (fun k q => if k < s 0 then sc_vote s u z k q else q) 8 0 (fun _ => 0)) (-4, 0) 0 ⟨by omega, Or.inl rfl, by dsimp only; omega, hvb⟩ ?_
  refine mp_iload_n dX11_nextColumn_139 rfl ?_
  exact mp_ireturn (st := []) dX11_nextColumn_140 rfl ⟨by decide, by decide⟩ ((mp_ans (by first | with_reducible rfl | omega | rfl)))
theorem lX11_curve_41 {s si sp : Int → Int} {f fi fp : Nat → Option Nat} {im : Int} {hd : Int → Int} {kn : Nat → Option Nat} {wd ak ke cv vo so sz el : Int → Int} {A B : mp_H} {kk kf : Int → Int} {d : Int} {w : Int} (hA : A.length = 1) (hs : mp_sky s) (hMt : mp_Mt (A ++ (mp_cs s si sp f fi fp im hd kn wd ak ke cv vo so sz el ++ B)) s f) (hsh : ∀ d, 0 ≤ d → d ≤ 7 → mp_shf hd kk kf so sz d) (hel : ∀ x, mp_w (el x)) (h_d : mp_w d) (h_w : mp_w w) {R9 : mp_An} : ∀ (n : Nat) (t : Int) (v : Int), ((0 ≤ t ∧ t + (n : Nat) = 8) ∧ (0 ≤ d ∧ d ≤ 7) ∧ 0 ≤ v ∧ v < 256) → mp_At (mX11_curve, 3, 0, 0) (0, 0) 88 [some (Value.ref 1), some (mp_i d), some (mp_i w), some (Value.ref (28 + 2 * Int.toNat d)), some (mp_i (mp_fold (fun k b => if k < s 0 then (sp_goesStep s so sz el d) k b else b) n t v)), none, none] [] (A ++ (mp_cs s si sp f fi fp im hd kn wd ak ke cv vo so sz el ++ B)) R9 → mp_At (mX11_curve, 3, 0, 0) (0, 0) 41 [some (Value.ref 1), some (mp_i d), some (mp_i w), some (Value.ref (28 + 2 * Int.toNat d)), some (mp_i v), some (mp_i t), none] [] (A ++ (mp_cs s si sp f fi fp im hd kn wd ak ke cv vo so sz el ++ B)) R9 := by
  intro n
  induction n with
  | zero =>
    intro t v hi hk
    have hz0 := hs.1
    have hsh9 := hsh d hi.2.1.1 hi.2.1.2
    refine mp_iload dX11_curve_41 rfl ?_
    refine mp_bipush dX11_curve_43 rfl ?_
    refine mp_icmp_ge (tgt := 88) dX11_curve_45 rfl ⟨by omega, by omega⟩ ⟨by omega, by omega⟩ (fun h1 => ?_) (fun h1 => ?_)
    · refine mp_drop (L' := [some (Value.ref 1), some (mp_i d), some (mp_i w), some (Value.ref (28 + 2 * Int.toNat d)), some (mp_i v), none, none]) [true, true, true, true, true, false, false] rfl ?_
      exact hk
    · exfalso; omega
  | succ n ih =>
    intro t v hi hk
    have hz0 := hs.1
    have hbt := mp_bit_256 (k := t) (by omega)
    have hbn := mp_bit_nn t
    have hov := mp_or_256 (a := v) (b := mp_bit t) (by omega) (by omega)
    have hon := mp_or_nn v (mp_bit t)
    have hsh9 := hsh d hi.2.1.1 hi.2.1.2
    have hgo := mp_goes_bd s so sz el d t
    refine mp_iload dX11_curve_41 rfl ?_
    refine mp_bipush dX11_curve_43 rfl ?_
    refine mp_icmp_ge (tgt := 88) dX11_curve_45 rfl ⟨by omega, by omega⟩ ⟨by omega, by omega⟩ (fun h1 => ?_) (fun h1 => ?_)
    · exfalso; omega
    · refine mp_aload_n dX11_curve_48 rfl ?_
      refine mp_getfield dX11_curve_49 fsX11_10_10 (mp_lkP hA 0 rfl) rfl ?_
      refine mp_iload dX11_curve_52 rfl ?_
      by_cases hm2 : 0 ≤ t ∧ t < s 0
      · obtain ⟨a2, hf2, hc2⟩ := (mp_Sk.of (σ := A ++ (mp_cs s si sp f fi fp im hd kn wd ak ke cv vo so sz el ++ B)) (mp_skC2 hA) hMt).2.2.2.2.2.2 t hm2.1 hm2.2
        have ht2 := hs.2.1 t hm2.1 hm2.2
        have hl2 := mp_lasts_bd (kind := (s (1 + 6 * t + 0))) (f := (s (1 + 6 * t + 1))) (by omega)
        have hr2 := mp_bright_bd (kind := (s (1 + 6 * t + 0))) (f := (s (1 + 6 * t + 1))) (by omega)
        refine mp_invV (z := (mX6_at, 0, 0, 0)) (K' := (0, 0)) (σ1 := A ++ (mp_cs s si sp f fi fp im hd kn wd ak ke cv vo so sz el ++ B)) (as := [mp_i t]) (st := []) (st1 := [Value.ref a2]) dX11_curve_54 svX11_93 (mp_Sk.of (σ := A ++ (mp_cs s si sp f fi fp im hd kn wd ak ke cv vo so sz el ++ B)) (mp_skC2 hA) hMt).1 rfl rfl (zX6_at (p := 2) (m := t) (a := a2) (s := s) (f := f) (mp_Sk.of (σ := A ++ (mp_cs s si sp f fi fp im hd kn wd ak ke cv vo so sz el ++ B)) (mp_skC2 hA) hMt) hm2 (by omega) hf2) ⟨Nat.le_of_ble_eq_true rfl, Nat.le_of_ble_eq_true rfl, Nat.le_of_ble_eq_true rfl, Nat.le_of_ble_eq_true rfl, Nat.le_of_ble_eq_true rfl⟩ rfl rfl rfl rfl ?_
        refine mp_astore (L' := [some (Value.ref 1), some (mp_i d), some (mp_i w), some (Value.ref (28 + 2 * Int.toNat d)), some (mp_i v), some (mp_i t), some (Value.ref a2)]) dX11_curve_57 (by decide) rfl ?_
        refine mp_aload dX11_curve_59 rfl ?_
        refine mp_ifnull_r dX11_curve_61 ?_
        refine mp_aload dX11_curve_64 rfl ?_
        refine mp_aload_n dX11_curve_66 rfl ?_
        refine mp_invS (z := (mX11_goesAsTold, 2, 0, 0)) (K' := (0, 0)) (σ1 := A ++ (mp_cs s si sp f fi fp im hd kn wd ak ke cv vo so sz el ++ B)) (as := [Value.ref a2, Value.ref (28 + 2 * Int.toNat d)]) (st := []) (st1 := [mp_i (sc_goes (sz d) (sp_lasts (s (1 + 6 * t + 0)) (s (1 + 6 * t + 1))) (sp_elm el d) (s (1 + 6 * t + 2)) (s (1 + 6 * t + 3)) (sp_leastOf (so d)))]) dX11_curve_67 ssX11_243 (zX11_goesAsTold (a := a2) (r := (28 + 2 * Int.toNat d)) (kd := (s (1 + 6 * t + 0))) (f := (s (1 + 6 * t + 1))) (co := (s (1 + 6 * t + 2))) (sl := (s (1 + 6 * t + 3))) (ni := (s (1 + 6 * t + 4))) (la := (sp_lasts (s (1 + 6 * t + 0)) (s (1 + 6 * t + 1)))) (br := (sp_bright (s (1 + 6 * t + 0)) (s (1 + 6 * t + 1)))) (q := (28 + 2 * Int.toNat d + 1)) (o := (so d)) (z := (sz d)) (e := (sp_elm el d)) hc2 (mp_csR0 hA (d := d) ⟨by omega, by omega⟩) (mp_csR1 hA (d := d) ⟨by omega, by omega⟩) (by first | with_reducible assumption | omega) (by first | with_reducible assumption | omega) (by first | with_reducible assumption | omega) (by first | with_reducible assumption | omega) (by first | with_reducible assumption | omega) (by first | with_reducible assumption | omega) (fun x => mp_elm_w hel x)) ⟨Nat.le_of_ble_eq_true rfl, Nat.le_of_ble_eq_true rfl, Nat.le_of_ble_eq_true rfl, Nat.le_of_ble_eq_true rfl, Nat.le_of_ble_eq_true rfl⟩ rfl rfl rfl rfl ?_
        refine mp_top (y := sp_goes s so sz el d t) (sc_goes_eq (by omega)) ?_
        refine mp_if_eq (tgt := 82) dX11_curve_70 rfl ⟨by omega, by omega⟩ (fun h3 => ?_) (fun h3 => ?_)
        · refine mp_iinc (z := t + 1) (L' := [some (Value.ref 1), some (mp_i d), some (mp_i w), some (Value.ref (28 + 2 * Int.toNat d)), some (mp_i v), some (mp_i (t + 1)), some (Value.ref a2)]) dX11_curve_82 rfl (rfl) (by decide) rfl ?_
          refine mp_goto (tgt := 41) dX11_curve_85 rfl ?_
          refine mp_drop (L' := [some (Value.ref 1), some (mp_i d), some (mp_i w), some (Value.ref (28 + 2 * Int.toNat d)), some (mp_i v), some (mp_i (t + 1)), none]) [true, true, true, true, true, true, false] rfl ?_
          have e9 : (fun k b => if k < s 0 then (sp_goesStep s so sz el d) k b else b) t v = v := (if_pos (by omega)).trans (by show (if sp_goes s so sz el d t = 0 then v else mp_or v (mp_bit t)) = _; first | rfl | (rw [if_pos (by omega)]; done) | (rw [if_neg (by omega)]; done) | (rw [if_pos (by omega)]; omega) | (rw [if_neg (by omega)]; omega))
          have k9 := ih (t + 1) ((fun k b => if k < s 0 then (sp_goesStep s so sz el d) k b else b) t v) (by rw [e9]; omega) hk
          rw [e9] at k9
          exact k9
        · refine mp_iload dX11_curve_73 rfl ?_
          refine mp_iconst dX11_curve_75 ?_
          refine mp_iload dX11_curve_76 rfl ?_
          refine mp_ishl (z := mp_bit t) dX11_curve_78 (mp_z_bit ⟨by omega, by omega⟩) ?_
          refine mp_ior (z := mp_or v (mp_bit t)) dX11_curve_79 (mp_z_or (by first | omega | exact mp_bit_nn _ | exact mp_or_nn _ _ | exact mp_and_nn _ _ | exact mp_shr_nn _ _) (by first | omega | exact mp_bit_nn _ | exact mp_or_nn _ _ | exact mp_and_nn _ _ | exact mp_shr_nn _ _)) ?_
          refine mp_istore (L' := [some (Value.ref 1), some (mp_i d), some (mp_i w), some (Value.ref (28 + 2 * Int.toNat d)), some (mp_i (mp_or v (mp_bit t))), some (mp_i t), some (Value.ref a2)]) dX11_curve_80 (by decide) rfl ?_
          refine mp_iinc (z := t + 1) (L' := [some (Value.ref 1), some (mp_i d), some (mp_i w), some (Value.ref (28 + 2 * Int.toNat d)), some (mp_i (mp_or v (mp_bit t))), some (mp_i (t + 1)), some (Value.ref a2)]) dX11_curve_82 rfl (rfl) (by decide) rfl ?_
          refine mp_goto (tgt := 41) dX11_curve_85 rfl ?_
          refine mp_drop (L' := [some (Value.ref 1), some (mp_i d), some (mp_i w), some (Value.ref (28 + 2 * Int.toNat d)), some (mp_i (mp_or v (mp_bit t))), some (mp_i (t + 1)), none]) [true, true, true, true, true, true, false] rfl ?_
          have e9 : (fun k b => if k < s 0 then (sp_goesStep s so sz el d) k b else b) t v = mp_or v (mp_bit t) := (if_pos (by omega)).trans (by show (if sp_goes s so sz el d t = 0 then v else mp_or v (mp_bit t)) = _; first | rfl | (rw [if_pos (by omega)]; done) | (rw [if_neg (by omega)]; done) | (rw [if_pos (by omega)]; omega) | (rw [if_neg (by omega)]; omega))
          have k9 := ih (t + 1) ((fun k b => if k < s 0 then (sp_goesStep s so sz el d) k b else b) t v) (by rw [e9]; omega) hk
          rw [e9] at k9
          exact k9
      · refine mp_invV (z := (mX6_at, 0, 0, 0)) (K' := (0, 0)) (σ1 := A ++ (mp_cs s si sp f fi fp im hd kn wd ak ke cv vo so sz el ++ B)) (as := [mp_i t]) (st := []) (st1 := [Value.null]) dX11_curve_54 svX11_93 (mp_Sk.of (σ := A ++ (mp_cs s si sp f fi fp im hd kn wd ak ke cv vo so sz el ++ B)) (mp_skC2 hA) hMt).1 rfl rfl (zX6_atN (p := 2) (m := t) (s := s) (f := f) (mp_Sk.of (σ := A ++ (mp_cs s si sp f fi fp im hd kn wd ak ke cv vo so sz el ++ B)) (mp_skC2 hA) hMt) hm2 (by omega) (by omega)) ⟨Nat.le_of_ble_eq_true rfl, Nat.le_of_ble_eq_true rfl, Nat.le_of_ble_eq_true rfl, Nat.le_of_ble_eq_true rfl, Nat.le_of_ble_eq_true rfl⟩ rfl rfl rfl rfl ?_
        refine mp_astoreN (L' := [some (Value.ref 1), some (mp_i d), some (mp_i w), some (Value.ref (28 + 2 * Int.toNat d)), some (mp_i v), some (mp_i t), some (Value.null)]) dX11_curve_57 (by decide) rfl ?_
        refine mp_aloadN dX11_curve_59 rfl ?_
        refine mp_ifnull_n (tgt := 82) dX11_curve_61 rfl ?_
        refine mp_iinc (z := t + 1) (L' := [some (Value.ref 1), some (mp_i d), some (mp_i w), some (Value.ref (28 + 2 * Int.toNat d)), some (mp_i v), some (mp_i (t + 1)), some (Value.null)]) dX11_curve_82 rfl (rfl) (by decide) rfl ?_
        refine mp_goto (tgt := 41) dX11_curve_85 rfl ?_
        refine mp_drop (L' := [some (Value.ref 1), some (mp_i d), some (mp_i w), some (Value.ref (28 + 2 * Int.toNat d)), some (mp_i v), some (mp_i (t + 1)), none]) [true, true, true, true, true, true, false] rfl ?_
        have e9 : (fun k b => if k < s 0 then (sp_goesStep s so sz el d) k b else b) t v = v := if_neg (by omega)
        have k9 := ih (t + 1) ((fun k b => if k < s 0 then (sp_goesStep s so sz el d) k b else b) t v) (by rw [e9]; omega) hk
        rw [e9] at k9
        exact k9
theorem zX11_curve {s si sp : Int → Int} {f fi fp : Nat → Option Nat} {im : Int} {hd : Int → Int} {kn : Nat → Option Nat} {wd ak ke cv vo so sz el : Int → Int} {A B : mp_H} {kk kf : Int → Int} {d : Int} {w : Int} (hA : A.length = 1) (hs : mp_sky s) (hMt : mp_Mt (A ++ (mp_cs s si sp f fi fp im hd kn wd ak ke cv vo so sz el ++ B)) s f) (hsh : ∀ d, 0 ≤ d → d ≤ 7 → mp_shf hd kk kf so sz d) (hel : ∀ x, mp_w (el x)) (h_d : mp_w d) (h_w : mp_w w) : mp_Call (mX11_curve, 3, 0, 0) [Value.ref 1, mp_i d, mp_i w] (A ++ (mp_cs s si sp f fi fp im hd kn wd ak ke cv vo so sz el ++ B)) (some (mp_i (sp_curve s hd so sz el d w)), A ++ (mp_cs s si sp f fi fp im hd kn wd ak ke cv (if ((0 ≤ d ∧ d ≤ 7) ∧ w = 2) ∧ hd d = 2 then mp_fold (fun k q => if k < s 0 then sc_vote s (sp_goesSo s so sz el d) (sz d) k q else q) 8 0 (fun _ => 0) else vo) so sz el ++ B)) := by
  refine mp_Call.of (L := [some (Value.ref 1), some (mp_i d), some (mp_i w), none, none, none, none]) pnX11 (Nat.le_of_ble_eq_true rfl) rfl ?_
  have hz0 := hs.1
  refine mp_iload_n dX11_curve_0 rfl ?_
  refine mp_bipush dX11_curve_1 rfl ?_
  refine mp_invS (z := (mX11_isBelow, 0, 0, 0)) (K' := (0, 0)) (σ1 := A ++ (mp_cs s si sp f fi fp im hd kn wd ak ke cv vo so sz el ++ B)) (as := [mp_i d, mp_i 8]) (st := []) (st1 := [mp_i (if 0 ≤ d ∧ d < 8 then 1 else 0)]) dX11_curve_3 ssX11_54 (zX11_isBelow (v := d) (n := 8) (by first | with_reducible assumption | omega) (by first | with_reducible assumption | omega)) ⟨Nat.le_of_ble_eq_true rfl, Nat.le_of_ble_eq_true rfl, Nat.le_of_ble_eq_true rfl, Nat.le_of_ble_eq_true rfl, Nat.le_of_ble_eq_true rfl⟩ rfl rfl rfl rfl ?_
  refine mp_ifb_eq (tgt := 17) dX11_curve_6 rfl (fun h1 => ?_) (fun h1 => ?_)
  · refine mp_iconst dX11_curve_17 ?_
    exact mp_ireturn (st := []) dX11_curve_18 rfl ⟨by decide, by decide⟩ ((by rw [if_neg (by omega)]; exact mp_ans (sp_curve_bad (by omega))))
  · refine mp_iload_n dX11_curve_9 rfl ?_
    refine mp_iconst dX11_curve_10 ?_
    refine mp_invS (z := (mX11_isBelow, 0, 0, 0)) (K' := (0, 0)) (σ1 := A ++ (mp_cs s si sp f fi fp im hd kn wd ak ke cv vo so sz el ++ B)) (as := [mp_i w, mp_i 3]) (st := []) (st1 := [mp_i (if 0 ≤ w ∧ w < 3 then 1 else 0)]) dX11_curve_11 ssX11_54 (zX11_isBelow (v := w) (n := 3) (by first | with_reducible assumption | omega) (by first | with_reducible assumption | omega)) ⟨Nat.le_of_ble_eq_true rfl, Nat.le_of_ble_eq_true rfl, Nat.le_of_ble_eq_true rfl, Nat.le_of_ble_eq_true rfl, Nat.le_of_ble_eq_true rfl⟩ rfl rfl rfl rfl ?_
    refine mp_ifb_ne (tgt := 19) dX11_curve_14 rfl (fun h2 => ?_) (fun h2 => ?_)
    · refine mp_aload_n dX11_curve_19 rfl ?_
      refine mp_iload_n dX11_curve_20 rfl ?_
      have hsh3 := hsh d (by omega) (by omega)
      by_cases hr9 : hd d = 2
      · refine mp_invV (z := (mX11_rowOn, 0, 0, 0)) (K' := (0, 0)) (σ1 := A ++ (mp_cs s si sp f fi fp im hd kn wd ak ke cv vo so sz el ++ B)) (as := [mp_i d]) (st := []) (st1 := [Value.ref (28 + 2 * Int.toNat d)]) dX11_curve_21 svX11_58 (mp_lkP hA 0 rfl) rfl rfl (zX11_rowOn (d := d) (s := s) (si := si) (sp := sp) (f := f) (fi := fi) (fp := fp) (im := im) (hd := hd) (kn := kn) (wd := wd) (ak := ak) (ke := ke) (cv := cv) (vo := vo) (so := so) (sz := sz) (el := el) (B := B) (kk := kk) (kf := kf) (by first | with_reducible assumption | omega) (by first | with_reducible assumption | omega) (by first | with_reducible assumption | omega) (by first | with_reducible assumption | omega)) ⟨Nat.le_of_ble_eq_true rfl, Nat.le_of_ble_eq_true rfl, Nat.le_of_ble_eq_true rfl, Nat.le_of_ble_eq_true rfl, Nat.le_of_ble_eq_true rfl⟩ rfl rfl rfl rfl ?_
        refine mp_astore_n (L' := [some (Value.ref 1), some (mp_i d), some (mp_i w), some (Value.ref (28 + 2 * Int.toNat d)), none, none, none]) dX11_curve_24 rfl (by decide) rfl ?_
        refine mp_aload_n dX11_curve_25 rfl ?_
        refine mp_ifnonnull_r (tgt := 35) dX11_curve_26 rfl ?_
        refine mp_iconst dX11_curve_35 ?_
        refine mp_istore (L' := [some (Value.ref 1), some (mp_i d), some (mp_i w), some (Value.ref (28 + 2 * Int.toNat d)), some (mp_i 0), none, none]) dX11_curve_36 (by decide) rfl ?_
        refine mp_iconst dX11_curve_38 ?_
        refine mp_istore (L' := [some (Value.ref 1), some (mp_i d), some (mp_i w), some (Value.ref (28 + 2 * Int.toNat d)), some (mp_i 0), some (mp_i 0), none]) dX11_curve_39 (by decide) rfl ?_
        refine lX11_curve_41 (s := s) (si := si) (sp := sp) (f := f) (fi := fi) (fp := fp) (im := im) (hd := hd) (kn := kn) (wd := wd) (ak := ak) (ke := ke) (cv := cv) (vo := vo) (so := so) (sz := sz) (el := el) (B := B) (d := d) (w := w)  (by first | with_reducible assumption | omega) (by first | with_reducible assumption | omega) (by first | with_reducible assumption | omega) (by first | with_reducible assumption | omega) (by first | with_reducible assumption | omega) (by first | with_reducible assumption | omega) (by first | with_reducible assumption | omega) 8 0 0 (by omega) ?_
        refine mp_loc (j := 4) (x := mp_fold (fun k b => if k < s 0 then (sp_goesStep s so sz el d) k b else b) 8 0 0) (y := sp_goesSo s so sz el d) (mp_fold_8 (F := (sp_goesStep s so sz el d)) hs.1 0) rfl (L' := [some (Value.ref 1), some (mp_i d), some (mp_i w), some (Value.ref (28 + 2 * Int.toNat d)), some (mp_i (sp_goesSo s so sz el d)), none, none]) rfl ?_
        refine mp_iload_n dX11_curve_88 rfl ?_
        have hgb := mp_goesSo_bd (so := so) (sz := sz) (el := el) hs d
        by_cases q4 : w = 0
        · refine mp_top (y := 0) q4 ?_
          refine mp_lookup (tgt := 116) (off := 27) dX11_curve_89 ⟨by decide, by decide⟩ (by decide) rfl rfl ?_
          refine mp_iload dX11_curve_116 rfl ?_
          exact mp_ireturn (st := []) dX11_curve_118 rfl ⟨by decide, by decide⟩ ((by rw [if_neg (by omega)]; exact mp_ans ((sp_curve_ok (by omega) (by omega) hr9).trans (if_pos (by omega)))))
        by_cases q5 : w = 1
        · refine mp_top (y := 1) q5 ?_
          refine mp_lookup (tgt := 119) (off := 30) dX11_curve_89 ⟨by decide, by decide⟩ (by decide) rfl rfl ?_
          refine mp_iload dX11_curve_119 rfl ?_
          refine mp_invS (z := (mJ6_bitCount_0f7a4, 0, 0, 0)) (K' := (0, 0)) (σ1 := A ++ (mp_cs s si sp f fi fp im hd kn wd ak ke cv vo so sz el ++ B)) (as := [mp_i (sp_goesSo s so sz el d)]) (st := []) (st1 := [mp_i (sp_bits (sp_goesSo s so sz el d))]) dX11_curve_121 ssX11_195 (zJ6_bitCount_0f7a4 (v := (sp_goesSo s so sz el d)) (by first | with_reducible assumption | omega)) ⟨Nat.le_of_ble_eq_true rfl, Nat.le_of_ble_eq_true rfl, Nat.le_of_ble_eq_true rfl, Nat.le_of_ble_eq_true rfl, Nat.le_of_ble_eq_true rfl⟩ rfl rfl rfl rfl ?_
          exact mp_ireturn (st := []) dX11_curve_124 rfl ⟨by decide, by decide⟩ ((by rw [if_neg (by omega)]; exact mp_ans ((sp_curve_ok (by omega) (by omega) hr9).trans ((if_neg (by omega)).trans (if_pos (by omega))))))
        refine mp_lookup (tgt := 125) (off := 36) dX11_curve_89 ⟨by omega, by omega⟩ (by decide) (by simp [Op.lookupswitch.offset_cons, Op.lookupswitch.offset, *] <;> omega) rfl ?_
        refine mp_aload_n dX11_curve_125 rfl ?_
        refine mp_iload dX11_curve_126 rfl ?_
        refine mp_aload_n dX11_curve_128 rfl ?_
        refine mp_getfield dX11_curve_129 fsX11_80_9 (mp_csR0 hA (d := d) ⟨by omega, by omega⟩) rfl ?_
        refine mp_invV (z := (mX11_nextColumn, 1, 0, 0)) (K' := (0, 0)) (σ1 := A ++ (mp_cs s si sp f fi fp im hd kn wd ak ke cv (mp_fold (fun k q => if k < s 0 then sc_vote s (sp_goesSo s so sz el d) (sz d) k q else q) 8 0 (fun _ => 0)) so sz el ++ B)) (as := [mp_i (sp_goesSo s so sz el d), mp_i (sz d)]) (st := []) (st1 := [mp_i ((mp_fold (sc_nx (mp_fold (fun k q => if k < s 0 then sc_vote s (sp_goesSo s so sz el d) (sz d) k q else q) 8 0 (fun _ => 0))) 16 0 (-4, 0)).1)]) dX11_curve_132 svX11_247 (mp_lkP hA 0 rfl) rfl rfl (zX11_nextColumn (u := (sp_goesSo s so sz el d)) (z := (sz d)) (s := s) (si := si) (sp := sp) (f := f) (fi := fi) (fp := fp) (im := im) (hd := hd) (kn := kn) (wd := wd) (ak := ak) (ke := ke) (cv := cv) (vo := vo) (so := so) (sz := sz) (el := el) (B := B) (by first | with_reducible assumption | omega) (by first | with_reducible assumption | omega) (hMt.mono hs.kd mp_stay_cs) (by first | with_reducible assumption | omega) (by first | with_reducible assumption | omega)) ⟨Nat.le_of_ble_eq_true rfl, Nat.le_of_ble_eq_true rfl, Nat.le_of_ble_eq_true rfl, Nat.le_of_ble_eq_true rfl, Nat.le_of_ble_eq_true rfl⟩ rfl rfl rfl rfl ?_
        exact mp_ireturn (st := []) dX11_curve_135 rfl ⟨by decide, by decide⟩ ((by rw [if_pos (by omega)]; exact mp_ans ((sp_curve_ok (by omega) (by omega) hr9).trans (((if_neg (by omega)).trans (if_neg (by omega))).trans (sc_nx_eq hs.1).symm))))
      · refine mp_invV (z := (mX11_rowOn, 0, 0, 0)) (K' := (0, 0)) (σ1 := A ++ (mp_cs s si sp f fi fp im hd kn wd ak ke cv vo so sz el ++ B)) (as := [mp_i d]) (st := []) (st1 := [Value.null]) dX11_curve_21 svX11_58 (mp_lkP hA 0 rfl) rfl rfl (zX11_rowOnN (d := d) (s := s) (si := si) (sp := sp) (f := f) (fi := fi) (fp := fp) (im := im) (hd := hd) (kn := kn) (wd := wd) (ak := ak) (ke := ke) (cv := cv) (vo := vo) (so := so) (sz := sz) (el := el) (B := B) (kk := kk) (kf := kf) (by first | with_reducible assumption | omega) (by first | with_reducible assumption | omega) (by first | with_reducible assumption | omega) (by first | with_reducible assumption | omega)) ⟨Nat.le_of_ble_eq_true rfl, Nat.le_of_ble_eq_true rfl, Nat.le_of_ble_eq_true rfl, Nat.le_of_ble_eq_true rfl, Nat.le_of_ble_eq_true rfl⟩ rfl rfl rfl rfl ?_
        refine mp_astore_nN (L' := [some (Value.ref 1), some (mp_i d), some (mp_i w), some (Value.null), none, none, none]) dX11_curve_24 rfl (by decide) rfl ?_
        refine mp_aload_nN dX11_curve_25 rfl ?_
        refine mp_ifnonnull_n dX11_curve_26 ?_
        refine mp_aload_n dX11_curve_29 rfl ?_
        refine mp_iload_n dX11_curve_30 rfl ?_
        refine mp_invV (z := (mX11_whyNot, 0, 0, 0)) (K' := (0, 0)) (σ1 := A ++ (mp_cs s si sp f fi fp im hd kn wd ak ke cv vo so sz el ++ B)) (as := [mp_i d]) (st := []) (st1 := [mp_i (if hd d = 0 then -11 else -12)]) dX11_curve_31 svX11_62 (mp_lkP hA 0 rfl) rfl rfl (zX11_whyNot (d := d) (s := s) (si := si) (sp := sp) (f := f) (fi := fi) (fp := fp) (im := im) (hd := hd) (kn := kn) (wd := wd) (ak := ak) (ke := ke) (cv := cv) (vo := vo) (so := so) (sz := sz) (el := el) (B := B) (kk := kk) (kf := kf) (by first | with_reducible assumption | omega) (by first | with_reducible assumption | omega) (by first | with_reducible assumption | omega)) ⟨Nat.le_of_ble_eq_true rfl, Nat.le_of_ble_eq_true rfl, Nat.le_of_ble_eq_true rfl, Nat.le_of_ble_eq_true rfl, Nat.le_of_ble_eq_true rfl⟩ rfl rfl rfl rfl ?_
        exact mp_ireturn (st := []) dX11_curve_34 rfl ⟨by decide, by decide⟩ ((by rw [if_neg (by omega)]; exact mp_ans (sp_curve_no (by omega) (by omega) hr9)))
    · refine mp_iconst dX11_curve_17 ?_
      exact mp_ireturn (st := []) dX11_curve_18 rfl ⟨by decide, by decide⟩ ((by rw [if_neg (by omega)]; exact mp_ans (sp_curve_bad (by omega))))
theorem lX11_obeys_2 {kd f co sl ni la br : Int} {q : Nat} {o z : Int} {e : Int → Int} {a : Nat} {r : Nat} {σ : mp_H} (ha : σ[a]? = some (mp_O (Int.toNat kd) [mp_i kd, mp_i f, mp_i co, mp_i sl, mp_i ni, mp_i la, mp_i br])) (hr : σ[r]? = some (mp_O 9 [Value.ref q, mp_i o, mp_i z])) (he : σ[q]? = some (mp_I 100 (mp_F e))) (h_kd : 0 ≤ kd ∧ kd ≤ 7) (h_f : 0 ≤ f ∧ f ≤ 9) (h_z : 0 ≤ z ∧ z ≤ 100) (h_2 : z % 2 = 0) (hel : ∀ x, mp_w (e x)) {R9 : mp_An} : ∀ (n : Nat) (t : Int), ((0 ≤ t ∧ t + 2 * (n : Nat) = z) ∧ z ≤ 100) → R9 = (some (mp_i (sc_law e (sp_lasts kd f) (sp_bright kd f) n t)), σ) → mp_At (mX11_obeys, 3, 0, 0) (0, 0) 2 [some (Value.ref a), some (Value.ref r), some (mp_i t)] [] σ R9 := by
  intro n
  induction n with
  | zero =>
    intro t hi hR
    refine mp_iload_n dX11_obeys_2 rfl ?_
    refine mp_aload_n dX11_obeys_3 rfl ?_
    refine mp_getfield dX11_obeys_4 fsX11_80_9 hr rfl ?_
    refine mp_icmp_ge (tgt := 44) dX11_obeys_7 rfl ⟨by omega, by omega⟩ ⟨by omega, by omega⟩ (fun h1 => ?_) (fun h1 => ?_)
    · refine mp_iconst dX11_obeys_44 ?_
      exact mp_zreturn (st := []) dX11_obeys_45 rfl rfl ⟨by decide, by decide⟩ (hR.trans (mp_ans rfl))
    · exfalso; omega
  | succ n ih =>
    intro t hi hR
    have hb1 := @mp_lasts_bd kd f h_f
    have hb2 := @mp_bright_bd kd f h_f
    have het := hel t
    have het1 := hel (t + 1)
    refine mp_iload_n dX11_obeys_2 rfl ?_
    refine mp_aload_n dX11_obeys_3 rfl ?_
    refine mp_getfield dX11_obeys_4 fsX11_80_9 hr rfl ?_
    refine mp_icmp_ge (tgt := 44) dX11_obeys_7 rfl ⟨by omega, by omega⟩ ⟨by omega, by omega⟩ (fun h1 => ?_) (fun h1 => ?_)
    · exfalso; omega
    · refine mp_aload_n dX11_obeys_10 rfl ?_
      refine mp_iload_n dX11_obeys_11 rfl ?_
      refine mp_invV (z := (mX5_at, 1, 0, 0)) (K' := (0, 0)) (σ1 := σ) (as := [mp_i t]) (st := []) (st1 := [mp_i (if 0 ≤ t ∧ t < z then e t else 0)]) dX11_obeys_12 svX11_87 hr rfl rfl (zX5_at (r := r) (i := t) (q := q) (o := o) (z := z) (e := e) hr he (by first | with_reducible assumption | omega) (by first | with_reducible assumption | omega)) ⟨Nat.le_of_ble_eq_true rfl, Nat.le_of_ble_eq_true rfl, Nat.le_of_ble_eq_true rfl, Nat.le_of_ble_eq_true rfl, Nat.le_of_ble_eq_true rfl⟩ rfl rfl rfl rfl ?_
      refine mp_top (y := e t) (if_pos (by omega)) ?_
      refine mp_aload_n dX11_obeys_15 rfl ?_
      refine mp_inv8 (kd := kd) (σ1 := σ) (as := []) (st := [mp_i (e t)]) (st1 := [mp_i (sp_lasts kd f), mp_i (e t)]) dX11_obeys_16 (by omega) s8X11_114 ha (fa_lasts (a := a) (kd := kd) (f := f) (co := co) (sl := sl) (ni := ni) (la := la) (br := br) ha (by first | with_reducible assumption | omega) (by first | with_reducible assumption | omega)) (Nat.le_of_ble_eq_true rfl) ⟨Nat.le_of_ble_eq_true rfl, Nat.le_of_ble_eq_true rfl⟩ (Nat.le_of_ble_eq_true rfl) rfl rfl rfl ?_
      refine mp_icmp_ne (tgt := 36) dX11_obeys_19 rfl ⟨by omega, by omega⟩ ⟨by omega, by omega⟩ (fun h2 => ?_) (fun h2 => ?_)
      · refine mp_iconst dX11_obeys_36 ?_
        exact mp_zreturn (st := []) dX11_obeys_37 rfl rfl ⟨by decide, by decide⟩ (hR.trans (mp_ans (by rw [sc_law_s, if_pos (by omega)])))
      · refine mp_aload_n dX11_obeys_22 rfl ?_
        refine mp_iload_n dX11_obeys_23 rfl ?_
        refine mp_iconst dX11_obeys_24 ?_
        refine mp_iadd (z := t + 1) dX11_obeys_25 (by first | rfl | omega) ?_
        refine mp_invV (z := (mX5_at, 1, 0, 0)) (K' := (0, 0)) (σ1 := σ) (as := [mp_i (t + 1)]) (st := []) (st1 := [mp_i (if 0 ≤ (t + 1) ∧ (t + 1) < z then e (t + 1) else 0)]) dX11_obeys_26 svX11_87 hr rfl rfl (zX5_at (r := r) (i := (t + 1)) (q := q) (o := o) (z := z) (e := e) hr he (by first | with_reducible assumption | omega) (by first | with_reducible assumption | omega)) ⟨Nat.le_of_ble_eq_true rfl, Nat.le_of_ble_eq_true rfl, Nat.le_of_ble_eq_true rfl, Nat.le_of_ble_eq_true rfl, Nat.le_of_ble_eq_true rfl⟩ rfl rfl rfl rfl ?_
        refine mp_top (y := e (t + 1)) (if_pos (by omega)) ?_
        refine mp_aload_n dX11_obeys_29 rfl ?_
        refine mp_inv8 (kd := kd) (σ1 := σ) (as := []) (st := [mp_i (e (t + 1))]) (st1 := [mp_i (sp_bright kd f), mp_i (e (t + 1))]) dX11_obeys_30 (by omega) s8X11_118 ha (fa_bright (a := a) (kd := kd) (f := f) (co := co) (sl := sl) (ni := ni) (la := la) (br := br) ha (by first | with_reducible assumption | omega) (by first | with_reducible assumption | omega)) (Nat.le_of_ble_eq_true rfl) ⟨Nat.le_of_ble_eq_true rfl, Nat.le_of_ble_eq_true rfl⟩ (Nat.le_of_ble_eq_true rfl) rfl rfl rfl ?_
        refine mp_icmp_eq (tgt := 38) dX11_obeys_33 rfl ⟨by omega, by omega⟩ ⟨by omega, by omega⟩ (fun h3 => ?_) (fun h3 => ?_)
        · refine mp_iinc (z := t + 2) (L' := [some (Value.ref a), some (Value.ref r), some (mp_i (t + 2))]) dX11_obeys_38 rfl (rfl) (by decide) rfl ?_
          refine mp_goto (tgt := 2) dX11_obeys_41 rfl ?_
          exact ih (t + 2) (by omega) (hR.trans (by rw [sc_law_s, if_neg (by omega)]))
        · refine mp_iconst dX11_obeys_36 ?_
          exact mp_zreturn (st := []) dX11_obeys_37 rfl rfl ⟨by decide, by decide⟩ (hR.trans (mp_ans (by rw [sc_law_s, if_pos (by omega)])))
theorem zX11_obeys {kd f co sl ni la br : Int} {q : Nat} {o z : Int} {e : Int → Int} {a : Nat} {r : Nat} {σ : mp_H} (ha : σ[a]? = some (mp_O (Int.toNat kd) [mp_i kd, mp_i f, mp_i co, mp_i sl, mp_i ni, mp_i la, mp_i br])) (hr : σ[r]? = some (mp_O 9 [Value.ref q, mp_i o, mp_i z])) (he : σ[q]? = some (mp_I 100 (mp_F e))) (h_kd : 0 ≤ kd ∧ kd ≤ 7) (h_f : 0 ≤ f ∧ f ≤ 9) (h_z : 0 ≤ z ∧ z ≤ 100) (h_2 : z % 2 = 0) (hel : ∀ x, mp_w (e x)) : mp_Call (mX11_obeys, 3, 0, 0) [Value.ref a, Value.ref r] σ (some (mp_i (sc_law e (sp_lasts kd f) (sp_bright kd f) (Int.toNat (z / 2)) 0)), σ) := by
  refine mp_Call.of (L := [some (Value.ref a), some (Value.ref r), none]) pnX11 (Nat.le_of_ble_eq_true rfl) rfl ?_
  refine mp_iconst dX11_obeys_0 ?_
  refine mp_istore_n (L' := [some (Value.ref a), some (Value.ref r), some (mp_i 0)]) dX11_obeys_1 rfl (by decide) rfl ?_
  exact lX11_obeys_2 (a := a) (r := r) ha hr he (by first | with_reducible assumption | omega) (by first | with_reducible assumption | omega) (by first | with_reducible assumption | omega) (by first | with_reducible assumption | omega) (by first | with_reducible assumption | omega) (Int.toNat (z / 2)) 0 (by omega) (by rfl)
theorem lX11_fewestSteps_8 {kd f co sl ni la br : Int} {a : Nat} {q : Int} {b : Int} {σ : mp_H} (ha : σ[a]? = some (mp_O (Int.toNat kd) [mp_i kd, mp_i f, mp_i co, mp_i sl, mp_i ni, mp_i la, mp_i br])) (h_kd : 0 ≤ kd ∧ kd ≤ 7) (h_f : 0 ≤ f ∧ f ≤ 9) (h_sl : 0 ≤ sl ∧ sl ≤ 4) (h_q : 0 ≤ q ∧ q ≤ 15) (h_b : 0 ≤ b ∧ b ≤ 5) (h_la : la = sp_lasts kd f) (h_br : br = sp_bright kd f) {R9 : mp_An} : ∀ (n : Nat) (t : Int) (v : Int), ((0 ≤ t ∧ t + (n : Nat) = 3) ∧ 0 ≤ v ∧ v ≤ 16) → mp_At (mX11_fewestSteps, 2, 0, 0) (0, 0) 43 [some (Value.ref a), some (mp_i q), some (mp_i b), some (mp_i (mp_fold (sc_gm kd f sl b q) n t v)), none, none] [] σ R9 → mp_At (mX11_fewestSteps, 2, 0, 0) (0, 0) 8 [some (Value.ref a), some (mp_i q), some (mp_i b), some (mp_i v), some (mp_i t), none] [] σ R9 := by
  intro n
  induction n with
  | zero =>
    intro t v hi hk
    have hb1 := @mp_lasts_bd kd f h_f
    have hb2 := @mp_bright_bd kd f h_f
    refine mp_iload dX11_fewestSteps_8 rfl ?_
    refine mp_iconst dX11_fewestSteps_10 ?_
    refine mp_icmp_ge (tgt := 43) dX11_fewestSteps_11 rfl ⟨by omega, by omega⟩ ⟨by omega, by omega⟩ (fun h1 => ?_) (fun h1 => ?_)
    · refine mp_drop (L' := [some (Value.ref a), some (mp_i q), some (mp_i b), some (mp_i v), none, none]) [true, true, true, true, false, false] rfl ?_
      exact hk
    · exfalso; omega
  | succ n ih =>
    intro t v hi hk
    have hb1 := @mp_lasts_bd kd f h_f
    have hb2 := @mp_bright_bd kd f h_f
    refine mp_iload dX11_fewestSteps_8 rfl ?_
    refine mp_iconst dX11_fewestSteps_10 ?_
    refine mp_icmp_ge (tgt := 43) dX11_fewestSteps_11 rfl ⟨by omega, by omega⟩ ⟨by omega, by omega⟩ (fun h1 => ?_) (fun h1 => ?_)
    · exfalso; omega
    · refine mp_aload_n dX11_fewestSteps_14 rfl ?_
      refine mp_iload_n dX11_fewestSteps_15 rfl ?_
      refine mp_iload_n dX11_fewestSteps_16 rfl ?_
      refine mp_iload dX11_fewestSteps_17 rfl ?_
      refine mp_iconst dX11_fewestSteps_19 ?_
      refine mp_imul (z := t * 5) dX11_fewestSteps_20 (by first | rfl | omega) ?_
      refine mp_iadd (z := b + (t * 5)) dX11_fewestSteps_21 (by first | rfl | omega) ?_
      refine mp_inv8 (kd := kd) (σ1 := σ) (as := [mp_i q, mp_i (b + (t * 5))]) (st := []) (st1 := [mp_i (mp_fold (sp_seenStep (b + (t * 5)) sl br q) (Int.toNat la) 0 0)]) dX11_fewestSteps_22 (by omega) s8X11_168 ha (fa_seenFrom (a := a) (q := q) (x := (b + (t * 5))) (kd := kd) (f := f) (co := co) (sl := sl) (ni := ni) (la := la) (br := br) ha (by first | with_reducible assumption | omega) (by first | with_reducible assumption | omega) (by first | with_reducible assumption | omega) (by first | with_reducible assumption | omega) (by first | with_reducible assumption | omega) (by first | with_reducible assumption | omega)) (Nat.le_of_ble_eq_true rfl) ⟨Nat.le_of_ble_eq_true rfl, Nat.le_of_ble_eq_true rfl⟩ (Nat.le_of_ble_eq_true rfl) rfl rfl rfl ?_
      refine mp_top (y := sp_seen kd f (b + t * 5) sl q) (by rw [h_la, h_br]; rfl) ?_
      have hs9 := mp_seen_14 (kind := kd) (f := f) (col := b + t * 5) (slope := sl) (roof := q) h_f
      have hb9 := mp_bits_bd (sp_seen kd f (b + t * 5) sl q)
      refine mp_invS (z := (mJ6_bitCount_0f7a4, 0, 0, 0)) (K' := (0, 0)) (σ1 := σ) (as := [mp_i (sp_seen kd f (b + t * 5) sl q)]) (st := []) (st1 := [mp_i (sp_bits (sp_seen kd f (b + t * 5) sl q))]) dX11_fewestSteps_25 ssX11_195 (zJ6_bitCount_0f7a4 (v := (sp_seen kd f (b + t * 5) sl q)) (by first | with_reducible assumption | omega)) ⟨Nat.le_of_ble_eq_true rfl, Nat.le_of_ble_eq_true rfl, Nat.le_of_ble_eq_true rfl, Nat.le_of_ble_eq_true rfl, Nat.le_of_ble_eq_true rfl⟩ rfl rfl rfl rfl ?_
      refine mp_istore (L' := [some (Value.ref a), some (mp_i q), some (mp_i b), some (mp_i v), some (mp_i t), some (mp_i (sp_bits (sp_seen kd f (b + t * 5) sl q)))]) dX11_fewestSteps_28 (by decide) rfl ?_
      refine mp_iload_n dX11_fewestSteps_30 rfl ?_
      refine mp_iload dX11_fewestSteps_31 rfl ?_
      refine mp_mmin (z := if sp_bits (sp_seen kd f (b + t * 5) sl q) < v then sp_bits (sp_seen kd f (b + t * 5) sl q) else v) dX11_fewestSteps_33 ssX11_282 (by decide) (Nat.le_of_ble_eq_true rfl) ⟨by decide, by decide⟩ ⟨by omega, by omega⟩ ⟨by omega, by omega⟩ rfl ?_
      refine mp_istore_n (L' := [some (Value.ref a), some (mp_i q), some (mp_i b), some (mp_i (if sp_bits (sp_seen kd f (b + t * 5) sl q) < v then sp_bits (sp_seen kd f (b + t * 5) sl q) else v)), some (mp_i t), some (mp_i (sp_bits (sp_seen kd f (b + t * 5) sl q)))]) dX11_fewestSteps_36 rfl (by decide) rfl ?_
      refine mp_iinc (z := t + 1) (L' := [some (Value.ref a), some (mp_i q), some (mp_i b), some (mp_i (if sp_bits (sp_seen kd f (b + t * 5) sl q) < v then sp_bits (sp_seen kd f (b + t * 5) sl q) else v)), some (mp_i (t + 1)), some (mp_i (sp_bits (sp_seen kd f (b + t * 5) sl q)))]) dX11_fewestSteps_37 rfl (rfl) (by decide) rfl ?_
      refine mp_goto (tgt := 8) dX11_fewestSteps_40 rfl ?_
      refine mp_drop (L' := [some (Value.ref a), some (mp_i q), some (mp_i b), some (mp_i (if sp_bits (sp_seen kd f (b + t * 5) sl q) < v then sp_bits (sp_seen kd f (b + t * 5) sl q) else v)), some (mp_i (t + 1)), none]) [true, true, true, true, true, false] rfl ?_
      exact ih (t + 1) (sc_gm kd f sl b q t v) ⟨by omega, by unfold sc_gm; split <;> omega⟩ hk
theorem zX11_fewestSteps {kd f co sl ni la br : Int} {a : Nat} {q : Int} {b : Int} {σ : mp_H} (ha : σ[a]? = some (mp_O (Int.toNat kd) [mp_i kd, mp_i f, mp_i co, mp_i sl, mp_i ni, mp_i la, mp_i br])) (h_kd : 0 ≤ kd ∧ kd ≤ 7) (h_f : 0 ≤ f ∧ f ≤ 9) (h_sl : 0 ≤ sl ∧ sl ≤ 4) (h_q : 0 ≤ q ∧ q ≤ 15) (h_b : 0 ≤ b ∧ b ≤ 5) (h_la : la = sp_lasts kd f) (h_br : br = sp_bright kd f) : mp_Call (mX11_fewestSteps, 2, 0, 0) [Value.ref a, mp_i q, mp_i b] σ (some (mp_i (mp_fold (sc_gm kd f sl b q) 3 0 (sp_lasts kd f))), σ) := by
  refine mp_Call.of (L := [some (Value.ref a), some (mp_i q), some (mp_i b), none, none, none]) pnX11 (Nat.le_of_ble_eq_true rfl) rfl ?_
  have hb1 := @mp_lasts_bd kd f h_f
  have hb2 := @mp_bright_bd kd f h_f
  refine mp_aload_n dX11_fewestSteps_0 rfl ?_
  refine mp_getfield dX11_fewestSteps_1 (fsX11_250 (by omega)) ha rfl ?_
  refine mp_istore_n (L' := [some (Value.ref a), some (mp_i q), some (mp_i b), some (mp_i la), none, none]) dX11_fewestSteps_4 rfl (by decide) rfl ?_
  refine mp_iconst dX11_fewestSteps_5 ?_
  refine mp_istore (L' := [some (Value.ref a), some (mp_i q), some (mp_i b), some (mp_i la), some (mp_i 0), none]) dX11_fewestSteps_6 (by decide) rfl ?_
  refine mp_loc (j := 3) (x := la) (y := sp_lasts kd f) h_la rfl (L' := [some (Value.ref a), some (mp_i q), some (mp_i b), some (mp_i (sp_lasts kd f)), some (mp_i 0), none]) rfl ?_
  refine lX11_fewestSteps_8 (a := a) (q := q) (b := b) ha (by first | with_reducible assumption | omega) (by first | with_reducible assumption | omega) (by first | with_reducible assumption | omega) (by first | with_reducible assumption | omega) (by first | with_reducible assumption | omega) (by first | with_reducible assumption | omega) (by first | with_reducible assumption | omega) 3 0 (sp_lasts kd f) (by omega) ?_
  refine mp_iload_n dX11_fewestSteps_43 rfl ?_
  exact mp_ireturn (st := []) dX11_fewestSteps_44 rfl ⟨by decide, by decide⟩ ((mp_ans (by first | with_reducible rfl | omega | rfl)))
theorem lX11_game_53 {s si sp : Int → Int} {f fi fp : Nat → Option Nat} {im : Int} {hd : Int → Int} {kn : Nat → Option Nat} {wd ak ke cv vo so sz el : Int → Int} {A B : mp_H}  {m : Int} {x : Int} {y : Int} {w : Int} {a : Nat} (hA : A.length = 1) (hs : mp_sky s) (hMt : mp_Mt (A ++ (mp_cs s si sp f fi fp im hd kn wd ak ke cv vo so sz el ++ B)) s f) (h_m : mp_w m) (h_x : mp_w x) (h_y : mp_w y) (h_w : mp_w w) (hm : 0 ≤ m ∧ m < s 0) (hca : (A ++ (mp_cs s si sp f fi fp im hd kn wd ak ke cv vo so sz el ++ B))[a]? = some (mp_mc s m)) (hx : 0 ≤ x ∧ x ≤ 5) (hy : 0 ≤ y ∧ y ≤ 5) {R9 : mp_An} : ∀ (n : Nat) (t : Int) (p : Int × Int), ((0 ≤ t ∧ t + (n : Nat) = 3) ∧ (0 ≤ p.1 ∧ p.1 ≤ 15) ∧ (-1 ≤ p.2 ∧ p.2 ≤ 1000000000)) → mp_At (mX11_game, 3, 0, 0) (0, 0) 98 [some (Value.ref 1), some (mp_i m), some (mp_i x), some (mp_i y), some (mp_i w), none, some (mp_i ((mp_fold (sc_gmS s m y x) n t p).1)), some (mp_i ((mp_fold (sc_gmS s m y x) n t p).2)), none, none, none] [] (A ++ (mp_cs s si sp f fi fp im hd kn wd ak ke cv vo so sz el ++ B)) R9 → mp_At (mX11_game, 3, 0, 0) (0, 0) 53 [some (Value.ref 1), some (mp_i m), some (mp_i x), some (mp_i y), some (mp_i w), some (Value.ref a), some (mp_i p.1), some (mp_i p.2), some (mp_i t), none, none] [] (A ++ (mp_cs s si sp f fi fp im hd kn wd ak ke cv vo so sz el ++ B)) R9 := by
  intro n
  induction n with
  | zero =>
    intro t p hi hk
    refine mp_iload dX11_game_53 rfl ?_
    refine mp_iconst dX11_game_55 ?_
    refine mp_icmp_ge (tgt := 98) dX11_game_56 rfl ⟨by omega, by omega⟩ ⟨by omega, by omega⟩ (fun h1 => ?_) (fun h1 => ?_)
    · refine mp_drop (L' := [some (Value.ref 1), some (mp_i m), some (mp_i x), some (mp_i y), some (mp_i w), none, some (mp_i p.1), some (mp_i p.2), none, none, none]) [true, true, true, true, true, false, true, true, false, false, false] rfl ?_
      exact hk
    · exfalso; omega
  | succ n ih =>
    intro t p hi hk
    have hz0 := hs.1
    have ht0 := hs.2.1 m (by omega) (by omega)
    have hgb := mp_gm_bd s m y (x + t * 5)
    refine mp_iload dX11_game_53 rfl ?_
    refine mp_iconst dX11_game_55 ?_
    refine mp_icmp_ge (tgt := 98) dX11_game_56 rfl ⟨by omega, by omega⟩ ⟨by omega, by omega⟩ (fun h1 => ?_) (fun h1 => ?_)
    · exfalso; omega
    · refine mp_iload_n dX11_game_59 rfl ?_
      refine mp_iload dX11_game_60 rfl ?_
      refine mp_iconst dX11_game_62 ?_
      refine mp_imul (z := t * 5) dX11_game_63 (by first | rfl | omega) ?_
      refine mp_iadd (z := x + (t * 5)) dX11_game_64 (by first | rfl | omega) ?_
      refine mp_istore (L' := [some (Value.ref 1), some (mp_i m), some (mp_i x), some (mp_i y), some (mp_i w), some (Value.ref a), some (mp_i p.1), some (mp_i p.2), some (mp_i t), some (mp_i (x + (t * 5))), none]) dX11_game_65 (by decide) rfl ?_
      refine mp_aload dX11_game_67 rfl ?_
      refine mp_iload dX11_game_69 rfl ?_
      refine mp_iload_n dX11_game_71 rfl ?_
      refine mp_invS (z := (mX11_fewestSteps, 2, 0, 0)) (K' := (0, 0)) (σ1 := A ++ (mp_cs s si sp f fi fp im hd kn wd ak ke cv vo so sz el ++ B)) (as := [Value.ref a, mp_i (x + (t * 5)), mp_i y]) (st := []) (st1 := [mp_i (mp_fold (sc_gm (s (1 + 6 * m + 0)) (s (1 + 6 * m + 1)) (s (1 + 6 * m + 3)) y (x + (t * 5))) 3 0 (sp_lasts (s (1 + 6 * m + 0)) (s (1 + 6 * m + 1))))]) dX11_game_72 ssX11_278 (zX11_fewestSteps (a := a) (q := (x + (t * 5))) (b := y) (kd := (s (1 + 6 * m + 0))) (f := (s (1 + 6 * m + 1))) (co := (s (1 + 6 * m + 2))) (sl := (s (1 + 6 * m + 3))) (ni := (s (1 + 6 * m + 4))) (la := (sp_lasts (s (1 + 6 * m + 0)) (s (1 + 6 * m + 1)))) (br := (sp_bright (s (1 + 6 * m + 0)) (s (1 + 6 * m + 1)))) hca (by first | with_reducible assumption | omega) (by first | with_reducible assumption | omega) (by first | with_reducible assumption | omega) (by first | with_reducible assumption | omega) (by first | with_reducible assumption | omega) (by first | with_reducible assumption | omega) (by first | with_reducible assumption | omega)) ⟨Nat.le_of_ble_eq_true rfl, Nat.le_of_ble_eq_true rfl, Nat.le_of_ble_eq_true rfl, Nat.le_of_ble_eq_true rfl, Nat.le_of_ble_eq_true rfl⟩ rfl rfl rfl rfl ?_
      refine mp_top (y := sp_gm s m y (x + t * 5)) (sc_gm_eq (by omega)) ?_
      refine mp_istore (L' := [some (Value.ref 1), some (mp_i m), some (mp_i x), some (mp_i y), some (mp_i w), some (Value.ref a), some (mp_i p.1), some (mp_i p.2), some (mp_i t), some (mp_i (x + (t * 5))), some (mp_i (sp_gm s m y (x + t * 5)))]) dX11_game_75 (by decide) rfl ?_
      refine mp_iload dX11_game_77 rfl ?_
      refine mp_iload dX11_game_79 rfl ?_
      refine mp_icmp_le (tgt := 92) dX11_game_81 rfl ⟨by omega, by omega⟩ ⟨by omega, by omega⟩ (fun h2 => ?_) (fun h2 => ?_)
      · refine mp_iinc (z := t + 1) (L' := [some (Value.ref 1), some (mp_i m), some (mp_i x), some (mp_i y), some (mp_i w), some (Value.ref a), some (mp_i p.1), some (mp_i p.2), some (mp_i (t + 1)), some (mp_i (x + (t * 5))), some (mp_i (sp_gm s m y (x + t * 5)))]) dX11_game_92 rfl (rfl) (by decide) rfl ?_
        refine mp_goto (tgt := 53) dX11_game_95 rfl ?_
        refine mp_drop (L' := [some (Value.ref 1), some (mp_i m), some (mp_i x), some (mp_i y), some (mp_i w), some (Value.ref a), some (mp_i p.1), some (mp_i p.2), some (mp_i (t + 1)), none, none]) [true, true, true, true, true, true, true, true, true, false, false] rfl ?_
        have e9 : (sc_gmS s m y x) t p = p := by unfold sc_gmS; first | (rw [if_pos (by omega)]; done) | (rw [if_neg (by omega)]; done)
        have k9 := ih (t + 1) ((sc_gmS s m y x) t p) (by rw [e9]; exact ⟨by omega, by first | omega | (dsimp only; omega), by first | omega | (dsimp only; omega)⟩) hk
        rw [e9] at k9
        exact k9
      · refine mp_iload dX11_game_84 rfl ?_
        refine mp_istore (L' := [some (Value.ref 1), some (mp_i m), some (mp_i x), some (mp_i y), some (mp_i w), some (Value.ref a), some (mp_i (x + (t * 5))), some (mp_i p.2), some (mp_i t), some (mp_i (x + (t * 5))), some (mp_i (sp_gm s m y (x + t * 5)))]) dX11_game_86 (by decide) rfl ?_
        refine mp_iload dX11_game_88 rfl ?_
        refine mp_istore (L' := [some (Value.ref 1), some (mp_i m), some (mp_i x), some (mp_i y), some (mp_i w), some (Value.ref a), some (mp_i (x + (t * 5))), some (mp_i (sp_gm s m y (x + t * 5))), some (mp_i t), some (mp_i (x + (t * 5))), some (mp_i (sp_gm s m y (x + t * 5)))]) dX11_game_90 (by decide) rfl ?_
        refine mp_iinc (z := t + 1) (L' := [some (Value.ref 1), some (mp_i m), some (mp_i x), some (mp_i y), some (mp_i w), some (Value.ref a), some (mp_i (x + (t * 5))), some (mp_i (sp_gm s m y (x + t * 5))), some (mp_i (t + 1)), some (mp_i (x + (t * 5))), some (mp_i (sp_gm s m y (x + t * 5)))]) dX11_game_92 rfl (rfl) (by decide) rfl ?_
        refine mp_goto (tgt := 53) dX11_game_95 rfl ?_
        refine mp_drop (L' := [some (Value.ref 1), some (mp_i m), some (mp_i x), some (mp_i y), some (mp_i w), some (Value.ref a), some (mp_i (x + (t * 5))), some (mp_i (sp_gm s m y (x + t * 5))), some (mp_i (t + 1)), none, none]) [true, true, true, true, true, true, true, true, true, false, false] rfl ?_
        have e9 : (sc_gmS s m y x) t p = (x + (t * 5), sp_gm s m y (x + t * 5)) := by unfold sc_gmS; first | (rw [if_pos (by omega)]; done) | (rw [if_neg (by omega)]; done)
        have k9 := ih (t + 1) ((sc_gmS s m y x) t p) (by rw [e9]; exact ⟨by omega, by first | omega | (dsimp only; omega), by first | omega | (dsimp only; omega)⟩) hk
        rw [e9] at k9
        exact k9
theorem zX11_game {s si sp : Int → Int} {f fi fp : Nat → Option Nat} {im : Int} {hd : Int → Int} {kn : Nat → Option Nat} {wd ak ke cv vo so sz el : Int → Int} {A B : mp_H}  {m : Int} {x : Int} {y : Int} {w : Int} (hA : A.length = 1) (hs : mp_sky s) (hMt : mp_Mt (A ++ (mp_cs s si sp f fi fp im hd kn wd ak ke cv vo so sz el ++ B)) s f) (h_m : mp_w m) (h_x : mp_w x) (h_y : mp_w y) (h_w : mp_w w) : mp_Call (mX11_game, 3, 0, 0) [Value.ref 1, mp_i m, mp_i x, mp_i y, mp_i w] (A ++ (mp_cs s si sp f fi fp im hd kn wd ak ke cv vo so sz el ++ B)) (some (mp_i (sp_game s m x y w)), A ++ (mp_cs s si sp f fi fp im hd kn wd ak ke cv vo so sz el ++ B)) := by
  refine mp_Call.of (L := [some (Value.ref 1), some (mp_i m), some (mp_i x), some (mp_i y), some (mp_i w), none, none, none, none, none, none]) pnX11 (Nat.le_of_ble_eq_true rfl) rfl ?_
  have hz0 := hs.1
  refine mp_aload_n dX11_game_0 rfl ?_
  refine mp_getfield dX11_game_1 fsX11_10_10 (mp_lkP hA 0 rfl) rfl ?_
  refine mp_iload_n dX11_game_4 rfl ?_
  by_cases hm1 : 0 ≤ m ∧ m < s 0
  · obtain ⟨a1, hf1, hc1⟩ := (mp_Sk.of (σ := A ++ (mp_cs s si sp f fi fp im hd kn wd ak ke cv vo so sz el ++ B)) (mp_skC2 hA) hMt).2.2.2.2.2.2 m hm1.1 hm1.2
    have ht1 := hs.2.1 m hm1.1 hm1.2
    have hl1 := mp_lasts_bd (kind := (s (1 + 6 * m + 0))) (f := (s (1 + 6 * m + 1))) (by omega)
    have hr1 := mp_bright_bd (kind := (s (1 + 6 * m + 0))) (f := (s (1 + 6 * m + 1))) (by omega)
    refine mp_invV (z := (mX6_at, 0, 0, 0)) (K' := (0, 0)) (σ1 := A ++ (mp_cs s si sp f fi fp im hd kn wd ak ke cv vo so sz el ++ B)) (as := [mp_i m]) (st := []) (st1 := [Value.ref a1]) dX11_game_5 svX11_93 (mp_Sk.of (σ := A ++ (mp_cs s si sp f fi fp im hd kn wd ak ke cv vo so sz el ++ B)) (mp_skC2 hA) hMt).1 rfl rfl (zX6_at (p := 2) (m := m) (a := a1) (s := s) (f := f) (mp_Sk.of (σ := A ++ (mp_cs s si sp f fi fp im hd kn wd ak ke cv vo so sz el ++ B)) (mp_skC2 hA) hMt) hm1 (by omega) hf1) ⟨Nat.le_of_ble_eq_true rfl, Nat.le_of_ble_eq_true rfl, Nat.le_of_ble_eq_true rfl, Nat.le_of_ble_eq_true rfl, Nat.le_of_ble_eq_true rfl⟩ rfl rfl rfl rfl ?_
    refine mp_astore (L' := [some (Value.ref 1), some (mp_i m), some (mp_i x), some (mp_i y), some (mp_i w), some (Value.ref a1), none, none, none, none, none]) dX11_game_8 (by decide) rfl ?_
    refine mp_aload dX11_game_10 rfl ?_
    refine mp_ifnull_r dX11_game_12 ?_
    refine mp_iload_n dX11_game_15 rfl ?_
    refine mp_bipush dX11_game_16 rfl ?_
    refine mp_invS (z := (mX11_isBelow, 0, 0, 0)) (K' := (0, 0)) (σ1 := A ++ (mp_cs s si sp f fi fp im hd kn wd ak ke cv vo so sz el ++ B)) (as := [mp_i x, mp_i 6]) (st := []) (st1 := [mp_i (if 0 ≤ x ∧ x < 6 then 1 else 0)]) dX11_game_18 ssX11_54 (zX11_isBelow (v := x) (n := 6) (by first | with_reducible assumption | omega) (by first | with_reducible assumption | omega)) ⟨Nat.le_of_ble_eq_true rfl, Nat.le_of_ble_eq_true rfl, Nat.le_of_ble_eq_true rfl, Nat.le_of_ble_eq_true rfl, Nat.le_of_ble_eq_true rfl⟩ rfl rfl rfl rfl ?_
    refine mp_ifb_eq (tgt := 42) dX11_game_21 rfl (fun h2 => ?_) (fun h2 => ?_)
    · refine mp_iconst dX11_game_42 ?_
      exact mp_ireturn (st := []) dX11_game_43 rfl ⟨by decide, by decide⟩ ((mp_ans (by unfold sp_game; first | (rw [if_pos (by omega)]; done) | (rw [if_neg (by omega), if_pos (by omega)]; done) | (rw [if_neg (by omega), if_neg (by omega)]; done))))
    · refine mp_iload_n dX11_game_24 rfl ?_
      refine mp_bipush dX11_game_25 rfl ?_
      refine mp_invS (z := (mX11_isBelow, 0, 0, 0)) (K' := (0, 0)) (σ1 := A ++ (mp_cs s si sp f fi fp im hd kn wd ak ke cv vo so sz el ++ B)) (as := [mp_i y, mp_i 6]) (st := []) (st1 := [mp_i (if 0 ≤ y ∧ y < 6 then 1 else 0)]) dX11_game_27 ssX11_54 (zX11_isBelow (v := y) (n := 6) (by first | with_reducible assumption | omega) (by first | with_reducible assumption | omega)) ⟨Nat.le_of_ble_eq_true rfl, Nat.le_of_ble_eq_true rfl, Nat.le_of_ble_eq_true rfl, Nat.le_of_ble_eq_true rfl, Nat.le_of_ble_eq_true rfl⟩ rfl rfl rfl rfl ?_
      refine mp_ifb_eq (tgt := 42) dX11_game_30 rfl (fun h3 => ?_) (fun h3 => ?_)
      · refine mp_iconst dX11_game_42 ?_
        exact mp_ireturn (st := []) dX11_game_43 rfl ⟨by decide, by decide⟩ ((mp_ans (by unfold sp_game; first | (rw [if_pos (by omega)]; done) | (rw [if_neg (by omega), if_pos (by omega)]; done) | (rw [if_neg (by omega), if_neg (by omega)]; done))))
      · refine mp_iload dX11_game_33 rfl ?_
        refine mp_iconst dX11_game_35 ?_
        refine mp_invS (z := (mX11_isBelow, 0, 0, 0)) (K' := (0, 0)) (σ1 := A ++ (mp_cs s si sp f fi fp im hd kn wd ak ke cv vo so sz el ++ B)) (as := [mp_i w, mp_i 2]) (st := []) (st1 := [mp_i (if 0 ≤ w ∧ w < 2 then 1 else 0)]) dX11_game_36 ssX11_54 (zX11_isBelow (v := w) (n := 2) (by first | with_reducible assumption | omega) (by first | with_reducible assumption | omega)) ⟨Nat.le_of_ble_eq_true rfl, Nat.le_of_ble_eq_true rfl, Nat.le_of_ble_eq_true rfl, Nat.le_of_ble_eq_true rfl, Nat.le_of_ble_eq_true rfl⟩ rfl rfl rfl rfl ?_
        refine mp_ifb_ne (tgt := 44) dX11_game_39 rfl (fun h4 => ?_) (fun h4 => ?_)
        · refine mp_iload_n dX11_game_44 rfl ?_
          refine mp_istore (L' := [some (Value.ref 1), some (mp_i m), some (mp_i x), some (mp_i y), some (mp_i w), some (Value.ref a1), some (mp_i x), none, none, none, none]) dX11_game_45 (by decide) rfl ?_
          refine mp_iconst dX11_game_47 ?_
          refine mp_istore (L' := [some (Value.ref 1), some (mp_i m), some (mp_i x), some (mp_i y), some (mp_i w), some (Value.ref a1), some (mp_i x), some (mp_i (-1)), none, none, none]) dX11_game_48 (by decide) rfl ?_
          refine mp_iconst dX11_game_50 ?_
          refine mp_istore (L' := [some (Value.ref 1), some (mp_i m), some (mp_i x), some (mp_i y), some (mp_i w), some (Value.ref a1), some (mp_i x), some (mp_i (-1)), some (mp_i 0), none, none]) dX11_game_51 (by decide) rfl ?_
          refine lX11_game_53 (s := s) (si := si) (sp := sp) (f := f) (fi := fi) (fp := fp) (im := im) (hd := hd) (kn := kn) (wd := wd) (ak := ak) (ke := ke) (cv := cv) (vo := vo) (so := so) (sz := sz) (el := el) (B := B) (m := m) (x := x) (y := y) (w := w) (a := a1) hA hs hMt h_m h_x h_y h_w hm1 hc1 (by omega) (by omega) 3 0 (x, -1) ⟨by omega, by dsimp only; omega, by dsimp only; omega⟩ ?_
          rw [sc_gmAll (hs.2.1 m (by omega) (by omega)).2.1]
          refine mp_iload dX11_game_98 rfl ?_
          refine mp_if_ne (tgt := 108) dX11_game_100 rfl ⟨by omega, by omega⟩ (fun h5 => ?_) (fun h5 => ?_)
          · refine mp_iload dX11_game_108 rfl ?_
            exact mp_ireturn (st := []) dX11_game_110 rfl ⟨by decide, by decide⟩ ((mp_ans (by unfold sp_game; first | (rw [if_pos (by omega)]; done) | (rw [if_neg (by omega), if_pos (by omega)]; done) | (rw [if_neg (by omega), if_neg (by omega)]; done))))
          · refine mp_iload dX11_game_103 rfl ?_
            refine mp_goto (tgt := 110) dX11_game_105 rfl ?_
            exact mp_ireturn (st := []) dX11_game_110 rfl ⟨by decide, by decide⟩ ((mp_ans (by unfold sp_game; first | (rw [if_pos (by omega)]; done) | (rw [if_neg (by omega), if_pos (by omega)]; done) | (rw [if_neg (by omega), if_neg (by omega)]; done))))
        · refine mp_iconst dX11_game_42 ?_
          exact mp_ireturn (st := []) dX11_game_43 rfl ⟨by decide, by decide⟩ ((mp_ans (by unfold sp_game; first | (rw [if_pos (by omega)]; done) | (rw [if_neg (by omega), if_pos (by omega)]; done) | (rw [if_neg (by omega), if_neg (by omega)]; done))))
  · refine mp_invV (z := (mX6_at, 0, 0, 0)) (K' := (0, 0)) (σ1 := A ++ (mp_cs s si sp f fi fp im hd kn wd ak ke cv vo so sz el ++ B)) (as := [mp_i m]) (st := []) (st1 := [Value.null]) dX11_game_5 svX11_93 (mp_Sk.of (σ := A ++ (mp_cs s si sp f fi fp im hd kn wd ak ke cv vo so sz el ++ B)) (mp_skC2 hA) hMt).1 rfl rfl (zX6_atN (p := 2) (m := m) (s := s) (f := f) (mp_Sk.of (σ := A ++ (mp_cs s si sp f fi fp im hd kn wd ak ke cv vo so sz el ++ B)) (mp_skC2 hA) hMt) hm1 (by omega) (by omega)) ⟨Nat.le_of_ble_eq_true rfl, Nat.le_of_ble_eq_true rfl, Nat.le_of_ble_eq_true rfl, Nat.le_of_ble_eq_true rfl, Nat.le_of_ble_eq_true rfl⟩ rfl rfl rfl rfl ?_
    refine mp_astoreN (L' := [some (Value.ref 1), some (mp_i m), some (mp_i x), some (mp_i y), some (mp_i w), some (Value.null), none, none, none, none, none]) dX11_game_8 (by decide) rfl ?_
    refine mp_aloadN dX11_game_10 rfl ?_
    refine mp_ifnull_n (tgt := 42) dX11_game_12 rfl ?_
    refine mp_iconst dX11_game_42 ?_
    exact mp_ireturn (st := []) dX11_game_43 rfl ⟨by decide, by decide⟩ ((mp_ans (by unfold sp_game; first | (rw [if_pos (by omega)]; done) | (rw [if_neg (by omega), if_pos (by omega)]; done) | (rw [if_neg (by omega), if_neg (by omega)]; done))))
