/-! ===== the class: rows written and read, told nights, curves, laws, games ===== -/
theorem sp_put_bad {hd so sz el : Int → Int} {d i v : Int} (h : ¬ (0 ≤ d ∧ d ≤ 7)) : sp_put hd so sz el d i v = (-1, el) := by
  unfold sp_put; rw [sp_wR_bad h]; rfl
theorem sp_put_no {hd so sz el : Int → Int} {d i v : Int} (h : 0 ≤ d ∧ d ≤ 7) (h1 : ¬ hd d = 2) : sp_put hd so sz el d i v = ((if hd d = 0 then -11 else -12), el) := by
  unfold sp_put; rw [sp_wR_no h h1, if_pos sp_wK_nz]
theorem sp_put_out {hd so sz el : Int → Int} {d i v : Int} (h : 0 ≤ d ∧ d ≤ 7) (h1 : hd d = 2) (h2 : ¬ (0 ≤ i ∧ i < sz d)) : sp_put hd so sz el d i v = (-13, el) := by
  unfold sp_put; rw [sp_wR_ok h h1, if_neg (fun h => h rfl), if_pos (by omega)]
theorem sp_put_ok {hd so sz el : Int → Int} {d i v : Int} (h : 0 ≤ d ∧ d ≤ 7) (h1 : hd d = 2) (h2 : 0 ≤ i ∧ i < sz d) : sp_put hd so sz el d i v = (0, mp_ud el (100 * d + i) (sp_low (so d) v)) := by
  unfold sp_put; rw [sp_wR_ok h h1, if_neg (fun h => h rfl), if_neg (by omega)]
theorem sp_row_bad {hd so sz el : Int → Int} {d o n : Int} (h : ¬ (0 ≤ d ∧ d ≤ 7) ∨ ¬ (0 ≤ o ∧ o ≤ 2) ∨ 100 < n) : sp_row hd so sz el d o n = (-1, hd, so, sz, el) := if_pos h
theorem sp_row_less {hd so sz el : Int → Int} {d o n : Int} (h : (0 ≤ d ∧ d ≤ 7) ∧ (0 ≤ o ∧ o ≤ 2) ∧ n < 0) : sp_row hd so sz el d o n = (-14, hd, so, sz, el) := by
  unfold sp_row; rw [if_neg (by omega), if_pos (by omega)]
theorem sp_row_ok {hd so sz el : Int → Int} {d o n : Int} (h : (0 ≤ d ∧ d ≤ 7) ∧ (0 ≤ o ∧ o ≤ 2) ∧ 0 ≤ n ∧ n ≤ 100) : sp_row hd so sz el d o n = (0, mp_ud hd d 2, mp_ud so d o, mp_ud sz d n, sp_zero el d) := by
  unfold sp_row; rw [if_neg (by omega), if_neg (by omega)]
theorem sp_forgedN_s {s el : Int → Int} {d t : Int} {n : Nat} : sp_forgedN s el d (n + 1) t = if ¬ (0 ≤ t ∧ t ≤ s 0 - 1) then t else if el (100 * d + t) ≠ (if sp_taker s t 0 < 0 then 9 else sp_taker s t 0) then t else sp_forgedN s el d n (t + 1) := rfl
theorem sp_judgeN_s {s so el : Int → Int} {d v t : Int} {n : Nat} : sp_judgeN s so el d v (n + 1) t = if el (100 * d + t) ≠ sp_leastOf (so d) ∧ el (100 * d + t) ≠ sp_thereAll s (v + t) then t else sp_judgeN s so el d v n (t + 1) := rfl
theorem sc_all_dk (el : Int → Int) (d : Int) : ∀ (n : Nat) (t : Int), 0 ≤ t → t + n ≤ 100 → (sc_all (sp_elm el d) 100 n t = 1 ↔ sp_dkN el d n t = 0) := by
  intro n
  induction n with
  | zero => intro t _ _; exact ⟨fun _ => rfl, fun _ => rfl⟩
  | succ n ih =>
    intro t h0 h1
    have e : sp_dkN el d (n + 1) t = if ¬ (0 ≤ el (100 * d + t) ∧ el (100 * d + t) ≤ 99) then -13 else sp_dkN el d n (t + 1) := rfl
    rw [sc_all_s, e, sp_elm_in (by omega)]
    by_cases h : 0 ≤ el (100 * d + t) ∧ el (100 * d + t) < 100
    · rw [if_pos h, if_neg (by omega)]; exact ih (t + 1) (by omega) (by omega)
    · rw [if_neg h, if_pos (by omega)]; exact ⟨fun h => absurd h (by decide), fun h => absurd h (by decide)⟩
theorem mp_elm_w {el : Int → Int} {d : Int} (hel : ∀ x, mp_w (el x)) (x : Int) : mp_w (sp_elm el d x) := by
  unfold sp_elm
  split
  · exact hel _
  · exact ⟨by decide, by decide⟩
theorem sp_dark_bad {s hd so sz el : Int → Int} {d w : Int} (h : ¬ (0 ≤ d ∧ d ≤ 7) ∨ ¬ (0 ≤ w ∧ w ≤ 1)) : sp_darkOnes s hd so sz el d w = -1 := by
  unfold sp_darkOnes
  by_cases hw9 : 0 ≤ w ∧ w ≤ 1
  · have hd9 : ¬ (0 ≤ d ∧ d ≤ 7) := h.resolve_right (fun q => q hw9)
    have e : sp_dkBad hd so sz el d = -1 := by unfold sp_dkBad; rw [sp_wR_bad hd9]; rfl
    rw [if_neg (fun q => q hw9), e]; rfl
  · rw [if_pos hw9]
theorem sp_dark_no {s hd so sz el : Int → Int} {d w : Int} (hd9 : 0 ≤ d ∧ d ≤ 7) (hw9 : 0 ≤ w ∧ w ≤ 1) (h1 : ¬ hd d = 2) : sp_darkOnes s hd so sz el d w = if hd d = 0 then -11 else -12 := by
  unfold sp_darkOnes
  have e : sp_dkBad hd so sz el d = if hd d = 0 then -11 else -12 := by unfold sp_dkBad; rw [sp_wR_no hd9 h1, if_pos sp_wK_nz]
  rw [if_neg (fun q => q hw9), e, if_pos sp_wK_nz]
theorem sp_dark_13 {s hd so sz el : Int → Int} {d w : Int} (hd9 : 0 ≤ d ∧ d ≤ 7) (hw9 : 0 ≤ w ∧ w ≤ 1) (h1 : hd d = 2) (hb : 31 < sz d ∨ sc_all (sp_elm el d) 100 (sz d).toNat 0 = 0) (hz : 0 ≤ sz d ∧ sz d ≤ 100) : sp_darkOnes s hd so sz el d w = -13 := by
  unfold sp_darkOnes
  have e : sp_dkBad hd so sz el d = -13 := by
    unfold sp_dkBad
    rw [sp_wR_ok hd9 h1, if_neg (fun h => h rfl)]
    have hdk := sc_all_dk el d (sz d).toNat 0 (by omega) (by omega)
    have hdb := mp_dkN_bd el d (sz d).toNat 0
    by_cases h31 : 31 < sz d
    · rw [if_pos h31]
    · rw [if_neg h31]; omega
  rw [if_neg (fun q => q hw9), e]; rfl
/-- a METEOR goes as told: told STEP by STEP -/
def sc_go (e : Int → Int) (co sl sk : Int) : Nat → Int → Int
  | 0, _ => 1
  | n + 1, t => if e t ≠ sk ∧ e t ≠ sp_over co sl t then 0 else sc_go e co sl sk n (t + 1)
theorem sc_go_s {e : Int → Int} {co sl sk t : Int} {n : Nat} : sc_go e co sl sk (n + 1) t = if e t ≠ sk ∧ e t ≠ sp_over co sl t then 0 else sc_go e co sl sk n (t + 1) := rfl
theorem sc_go_01 {e : Int → Int} {co sl sk : Int} : ∀ (n : Nat) (t : Int), sc_go e co sl sk n t = 0 ∨ sc_go e co sl sk n t = 1 := by
  intro n
  induction n with
  | zero => intro t; exact Or.inr rfl
  | succ n ih => intro t; rw [sc_go_s]; split
                 · exact Or.inl rfl
                 · exact ih _
theorem sc_go_eq {s so el : Int → Int} {d k : Int} : ∀ (n : Nat) (t z : Int), 0 ≤ t → t + n ≤ 100 → (z = 0 ∨ z = 1) → mp_fold (sp_goStep s so el d k) n t z = if z = 0 then 0 else sc_go (sp_elm el d) (s (1 + 6 * k + 2)) (s (1 + 6 * k + 3)) (sp_leastOf (so d)) n t := by
  intro n
  induction n with
  | zero => intro t z _ _ hz; show z = _; rcases hz with rfl | rfl
            · rw [if_pos rfl]
            · rw [if_neg (by decide)]; rfl
  | succ n ih =>
    intro t z h0 h1 hz
    show mp_fold (sp_goStep s so el d k) n (t + 1) (sp_goStep s so el d k t z) = _
    rw [ih _ _ (by omega) (by omega) (mp_goStep_bd hz), sc_go_s, sp_elm_in (by omega)]
    unfold sp_goStep
    by_cases h : el (100 * d + t) = sp_leastOf (so d) ∨ el (100 * d + t) = sp_over (s (1 + 6 * k + 2)) (s (1 + 6 * k + 3)) t
    · rw [if_pos h, if_neg (c := _ ∧ _) (fun q => h.elim q.1 q.2)]
    · rw [if_neg h, if_pos rfl]
      by_cases hz0 : z = 0
      · rw [if_pos hz0]
      · rw [if_neg hz0, if_pos ⟨fun q => h (Or.inl q), fun q => h (Or.inr q)⟩]
def sc_goes (z la : Int) (e : Int → Int) (co sl sk : Int) : Int := if la < z then 0 else sc_go e co sl sk (Int.toNat z) 0
theorem sc_goes_eq {s so sz el : Int → Int} {d k : Int} (h : 0 ≤ sz d ∧ sz d ≤ 100) : sc_goes (sz d) (sp_lasts (s (1 + 6 * k + 0)) (s (1 + 6 * k + 1))) (sp_elm el d) (s (1 + 6 * k + 2)) (s (1 + 6 * k + 3)) (sp_leastOf (so d)) = sp_goes s so sz el d k := by
  unfold sc_goes sp_goes
  by_cases hl : sz d ≤ sp_lasts (s (1 + 6 * k + 0)) (s (1 + 6 * k + 1))
  · rw [if_neg (by omega), if_pos hl, sc_go_eq _ _ _ (Int.le_refl _) (by omega) (Or.inr rfl), if_neg (by decide)]
  · rw [if_pos (by omega), if_neg hl, sc_go_eq _ _ _ (Int.le_refl _) (by omega) (Or.inl rfl), if_pos rfl]
theorem sc_goes_01 {z la co sl sk : Int} {e : Int → Int} : sc_goes z la e co sl sk = 0 ∨ sc_goes z la e co sl sk = 1 := by
  unfold sc_goes; split
  · exact Or.inl rfl
  · exact sc_go_01 _ _
/-! votes -/
def sc_vote (s : Int → Int) (u z k : Int) (q : Int → Int) : Int → Int := if sp_b u k ≠ 0 ∧ z < sp_lasts (s (1 + 6 * k + 0)) (s (1 + 6 * k + 1)) then mp_ud q (sp_over (s (1 + 6 * k + 2)) (s (1 + 6 * k + 3)) z) (q (sp_over (s (1 + 6 * k + 2)) (s (1 + 6 * k + 3)) z) + 1) else q
theorem sc_vote_eq {s sz : Int → Int} {d u c : Int} : ∀ (n : Nat) (i : Int) (q : Int → Int), (mp_fold (sc_vote s u (sz d)) n i q) c = mp_fold (sp_vote s sz d u c) n i (q c) := by
  intro n
  induction n with
  | zero => intro i q; rfl
  | succ n ih =>
    intro i q
    show (mp_fold (sc_vote s u (sz d)) n (i + 1) (sc_vote s u (sz d) i q)) c = mp_fold (sp_vote s sz d u c) n (i + 1) (sp_vote s sz d u c i (q c))
    rw [ih]
    congr 1
    unfold sc_vote sp_vote
    have hb := mp_b_bd u i
    by_cases h : sp_b u i ≠ 0 ∧ sz d < sp_lasts (s (1 + 6 * i + 0)) (s (1 + 6 * i + 1))
    · rw [if_pos h]
      by_cases hc : c = sp_over (s (1 + 6 * i + 2)) (s (1 + 6 * i + 3)) (sz d)
      · rw [← hc, mp_ud_eq, if_pos ⟨by omega, h.2, rfl⟩]
      · rw [mp_udn hc, if_neg (fun q => hc q.2.2.symm)]; omega
    · rw [if_neg h, if_neg (fun q => h ⟨by omega, q.2.1⟩)]; omega
theorem sc_vote_bd {s : Int → Int} {u z : Int} : ∀ (n : Nat) (i : Int) (q : Int → Int) (b : Int), (∀ c, 0 ≤ q c ∧ q c ≤ b) → ∀ c, 0 ≤ (mp_fold (sc_vote s u z) n i q) c ∧ (mp_fold (sc_vote s u z) n i q) c ≤ b + n := by
  intro n
  induction n with
  | zero => intro i q b h c; have := h c; show 0 ≤ q c ∧ q c ≤ b + ((0 : Nat) : Int); omega
  | succ n ih =>
    intro i q b h c
    have h2 : ∀ c, 0 ≤ (sc_vote s u z i q) c ∧ (sc_vote s u z i q) c ≤ b + 1 := fun c => by
      unfold sc_vote
      split
      · by_cases hc : c = sp_over (s (1 + 6 * i + 2)) (s (1 + 6 * i + 3)) z
        · rw [← hc, mp_ud_eq]; have := h c; omega
        · rw [mp_udn hc]; have := h c; omega
      · have := h c; omega
    have := ih (i + 1) (sc_vote s u z i q) (b + 1) h2 c
    show 0 ≤ (mp_fold (sc_vote s u z) n (i + 1) (sc_vote s u z i q)) c ∧ (mp_fold (sc_vote s u z) n (i + 1) (sc_vote s u z i q)) c ≤ b + ((n + 1 : Nat) : Int)
    omega
def sc_nx (q : Int → Int) (c : Int) (p : Int × Int) : Int × Int := if p.2 < q c then (c, q c) else p
theorem sc_nx_eq {s sz : Int → Int} {d u : Int} (hz : 0 ≤ s 0 ∧ s 0 ≤ 8) : (mp_fold (sc_nx (mp_fold (fun k q => if k < s 0 then sc_vote s u (sz d) k q else q) 8 0 (fun _ => 0))) 16 0 (-4, 0)).1 = sp_next s sz d u := by
  unfold sp_next
  rw [mp_fold_8 (F := sc_vote s u (sz d)) hz]
  congr 1
  refine mp_fold_congr _ _ _ (fun c p _ _ => ?_)
  unfold sc_nx sp_nextStep
  rw [sc_vote_eq]
  show (if p.2 < sp_votes s sz d u c then (c, sp_votes s sz d u c) else p) = _
  by_cases h : p.2 < sp_votes s sz d u c
  · rw [if_pos h, if_neg (by omega)]
  · rw [if_neg h, if_pos (by omega)]
/-! games: no more STEPS are seen than it lasts -/
theorem mp_bits_le {S N : Int} (hN : 0 ≤ N) (h : ∀ j, N ≤ j → ¬ sp_b S j = 1) : sp_bits S ≤ N := by
  have := mp_fold_inv (f := fun k n => n + sp_b S k) (fun i n => 0 ≤ i ∧ n ≤ i ∧ n ≤ N) (fun i n h9 => by
    have hb := mp_b_bd S i
    by_cases hi : N ≤ i
    · have := h i hi; omega
    · omega) 16 0 0 ⟨by omega, by omega, hN⟩
  exact this.2.2
theorem mp_bits_seen {kd f co sl q : Int} (hf : 0 ≤ f ∧ f ≤ 9) : sp_bits (sp_seen kd f co sl q) ≤ sp_lasts kd f := by
  have hl := mp_lasts_bd (kind := kd) hf
  refine mp_bits_le (by omega) (fun j hj h => ?_)
  have := (mp_b_seen (co := co) (sl := sl) (br := sp_bright kd f) (q := q) (sp_lasts kd f).toNat (j := j) (by omega)).mp h
  omega
def sc_gm (kd f sl b roof t z : Int) : Int := if sp_bits (sp_seen kd f (b + t * 5) sl roof) < z then sp_bits (sp_seen kd f (b + t * 5) sl roof) else z
theorem sc_gm_eq {s : Int → Int} {k b roof : Int} (hf : 0 ≤ s (1 + 6 * k + 1) ∧ s (1 + 6 * k + 1) ≤ 9) : mp_fold (sc_gm (s (1 + 6 * k + 0)) (s (1 + 6 * k + 1)) (s (1 + 6 * k + 3)) b roof) 3 0 (sp_lasts (s (1 + 6 * k + 0)) (s (1 + 6 * k + 1))) = sp_gm s k b roof := by
  unfold sp_gm
  have h0 := mp_bits_seen (kd := s (1 + 6 * k + 0)) (co := b + 0 * 5) (sl := s (1 + 6 * k + 3)) (q := roof) hf
  have hb0 := mp_bits_bd (sp_seen (s (1 + 6 * k + 0)) (s (1 + 6 * k + 1)) (b + 0 * 5) (s (1 + 6 * k + 3)) roof)
  show sc_gm _ _ _ b roof (0 + 1 + 1) (sc_gm _ _ _ b roof (0 + 1) (sc_gm _ _ _ b roof 0 _)) = sp_gmIn s k b roof (0 + 1 + 1) (sp_gmIn s k b roof (0 + 1) (sp_gmIn s k b roof 0 1000000000))
  have e0 : sp_gmIn s k b roof 0 1000000000 = sc_gm (s (1 + 6 * k + 0)) (s (1 + 6 * k + 1)) (s (1 + 6 * k + 3)) b roof 0 (sp_lasts (s (1 + 6 * k + 0)) (s (1 + 6 * k + 1))) := by
    unfold sp_gmIn sc_gm
    rw [show 5 * (0 : Int) = 0 * 5 by omega, if_neg (by omega)]
    split
    · rfl
    · omega
  have e : ∀ (t z : Int), sp_gmIn s k b roof t z = sc_gm (s (1 + 6 * k + 0)) (s (1 + 6 * k + 1)) (s (1 + 6 * k + 3)) b roof t z := fun t z => by
    unfold sp_gmIn sc_gm
    rw [show 5 * t = t * 5 by omega]
    by_cases h1 : z < sp_bits (sp_seen (s (1 + 6 * k + 0)) (s (1 + 6 * k + 1)) (b + t * 5) (s (1 + 6 * k + 3)) roof)
    · rw [if_pos h1, if_neg (by omega)]
    · rw [if_neg h1]
      split
      · rfl
      · omega
  rw [e0, e, e]
/-! laws -/
theorem sp_law_eq {el : Int → Int} {d la br : Int} : ∀ (n : Nat) (t z : Int), (z = 0 ∨ z = 1) → sp_lawN el d la br n t z = if z = 0 then 0 else sp_lawN el d la br n t 1 := by
  intro n
  induction n with
  | zero => intro t z h; rcases h with rfl | rfl <;> rfl
  | succ n ih =>
    intro t z h
    rcases h with rfl | rfl
    · rw [if_pos rfl]
      show sp_lawN el d la br n (t + 2) (if _ then (0 : Int) else 0) = 0
      rw [show (if el (100 * d + t) = la ∧ el (100 * d + t + 1) = br then (0 : Int) else 0) = 0 by split <;> rfl, ih _ _ (Or.inl rfl), if_pos rfl]
    · rw [if_neg (by decide)]
def sc_law (e : Int → Int) (la br : Int) : Nat → Int → Int
  | 0, _ => 1
  | n + 1, t => if e t ≠ la ∨ e (t + 1) ≠ br then 0 else sc_law e la br n (t + 2)
theorem sc_law_s {e : Int → Int} {la br t : Int} {n : Nat} : sc_law e la br (n + 1) t = if e t ≠ la ∨ e (t + 1) ≠ br then 0 else sc_law e la br n (t + 2) := rfl
theorem sc_law_eq {el : Int → Int} {d la br : Int} : ∀ (n : Nat) (t : Int), 0 ≤ t → t + 2 * n ≤ 100 → sc_law (sp_elm el d) la br n t = sp_lawN el d la br n t 1 := by
  intro n
  induction n with
  | zero => intro t _ _; rfl
  | succ n ih =>
    intro t h0 h1
    rw [sc_law_s, sp_elm_in (by omega), sp_elm_in (by omega)]
    show _ = sp_lawN el d la br n (t + 2) (if el (100 * d + t) = la ∧ el (100 * d + t + 1) = br then 1 else 0)
    rw [show 100 * d + (t + 1) = 100 * d + t + 1 by omega]
    by_cases h : el (100 * d + t) = la ∧ el (100 * d + t + 1) = br
    · rw [if_neg (fun q => q.elim (fun q => q h.1) (fun q => q h.2)), if_pos h]; exact ih _ (by omega) (by omega)
    · rw [if_neg h, sp_law_eq _ _ _ (Or.inl rfl), if_pos rfl, if_pos (by
        by_cases h1 : el (100 * d + t) = la
        · exact Or.inr fun q => h ⟨h1, q⟩
        · exact Or.inl h1)]
theorem sc_law_01 {e : Int → Int} {la br : Int} : ∀ (n : Nat) (t : Int), sc_law e la br n t = 0 ∨ sc_law e la br n t = 1 := by
  intro n
  induction n with
  | zero => intro t; exact Or.inr rfl
  | succ n ih => intro t; rw [sc_law_s]; split
                 · exact Or.inl rfl
                 · exact ih _
/-- the METEORS that a look at the laws makes -/
def mp_lawC (fg : Int) : Nat → Int → mp_H
  | 0, _ => []
  | n + 1, t => mp_nw t fg :: mp_lawC fg n (t + 1)

theorem zX11_put {s si sp : Int → Int} {f fi fp : Nat → Option Nat} {im : Int} {hd : Int → Int} {kn : Nat → Option Nat} {wd ak ke cv vo so sz el : Int → Int} {A B : mp_H} {kk kf : Int → Int} {d : Int} {i : Int} {v : Int} (hA : A.length = 1) (hsh : ∀ d, 0 ≤ d → d ≤ 7 → mp_shf hd kk kf so sz d) (h_d : mp_w d) (h_i : mp_w i) (h_v : mp_w v) : mp_Call (mX11_put, 2, 0, 0) [Value.ref 1, mp_i d, mp_i i, mp_i v] (A ++ (mp_cs s si sp f fi fp im hd kn wd ak ke cv vo so sz el ++ B)) (some (mp_i ((sp_put hd so sz el d i v).1)), A ++ (mp_cs s si sp f fi fp im hd kn wd ak ke cv vo so sz ((sp_put hd so sz el d i v).2) ++ B)) := by
  refine mp_Call.of (L := [some (Value.ref 1), some (mp_i d), some (mp_i i), some (mp_i v), none]) pnX11 (Nat.le_of_ble_eq_true rfl) rfl ?_
  refine mp_iload_n dX11_put_0 rfl ?_
  refine mp_bipush dX11_put_1 rfl ?_
  refine mp_invS (z := (mX11_isBelow, 0, 0, 0)) (K' := (0, 0)) (σ1 := A ++ (mp_cs s si sp f fi fp im hd kn wd ak ke cv vo so sz el ++ B)) (as := [mp_i d, mp_i 8]) (st := []) (st1 := [mp_i (if 0 ≤ d ∧ d < 8 then 1 else 0)]) dX11_put_3 ssX11_54 (zX11_isBelow (v := d) (n := 8) (by first | with_reducible assumption | omega) (by first | with_reducible assumption | omega)) ⟨Nat.le_of_ble_eq_true rfl, Nat.le_of_ble_eq_true rfl, Nat.le_of_ble_eq_true rfl, Nat.le_of_ble_eq_true rfl, Nat.le_of_ble_eq_true rfl⟩ rfl rfl rfl rfl ?_
  refine mp_ifb_ne (tgt := 11) dX11_put_6 rfl (fun h1 => ?_) (fun h1 => ?_)
  · refine mp_aload_n dX11_put_11 rfl ?_
    refine mp_iload_n dX11_put_12 rfl ?_
    have hsh2 := hsh d (by omega) (by omega)
    by_cases hr9 : hd d = 2
    · refine mp_invV (z := (mX11_rowOn, 0, 0, 0)) (K' := (0, 0)) (σ1 := A ++ (mp_cs s si sp f fi fp im hd kn wd ak ke cv vo so sz el ++ B)) (as := [mp_i d]) (st := []) (st1 := [Value.ref (28 + 2 * Int.toNat d)]) dX11_put_13 svX11_58 (mp_lkP hA 0 rfl) rfl rfl (zX11_rowOn (d := d) (s := s) (si := si) (sp := sp) (f := f) (fi := fi) (fp := fp) (im := im) (hd := hd) (kn := kn) (wd := wd) (ak := ak) (ke := ke) (cv := cv) (vo := vo) (so := so) (sz := sz) (el := el) (B := B) (kk := kk) (kf := kf) (by first | with_reducible assumption | omega) (by first | with_reducible assumption | omega) (by first | with_reducible assumption | omega) (by first | with_reducible assumption | omega)) ⟨Nat.le_of_ble_eq_true rfl, Nat.le_of_ble_eq_true rfl, Nat.le_of_ble_eq_true rfl, Nat.le_of_ble_eq_true rfl, Nat.le_of_ble_eq_true rfl⟩ rfl rfl rfl rfl ?_
      refine mp_astore (L' := [some (Value.ref 1), some (mp_i d), some (mp_i i), some (mp_i v), some (Value.ref (28 + 2 * Int.toNat d))]) dX11_put_16 (by decide) rfl ?_
      refine mp_aload dX11_put_18 rfl ?_
      refine mp_ifnonnull_r (tgt := 29) dX11_put_20 rfl ?_
      refine mp_aload dX11_put_29 rfl ?_
      refine mp_iload_n dX11_put_31 rfl ?_
      refine mp_invV (z := (mX5_has, 0, 0, 0)) (K' := (0, 0)) (σ1 := A ++ (mp_cs s si sp f fi fp im hd kn wd ak ke cv vo so sz el ++ B)) (as := [mp_i i]) (st := []) (st1 := [mp_i (if 0 ≤ i ∧ i < (sz d) then 1 else 0)]) dX11_put_32 svX11_324 (mp_csR0 hA (d := d) ⟨by omega, by omega⟩) rfl rfl (zX5_has (r := (28 + 2 * Int.toNat d)) (i := i) (q := (28 + 2 * Int.toNat d + 1)) (o := (so d)) (z := (sz d)) (mp_csR0 hA (d := d) ⟨by omega, by omega⟩) (by first | with_reducible assumption | omega) (by first | with_reducible assumption | omega)) ⟨Nat.le_of_ble_eq_true rfl, Nat.le_of_ble_eq_true rfl, Nat.le_of_ble_eq_true rfl, Nat.le_of_ble_eq_true rfl, Nat.le_of_ble_eq_true rfl⟩ rfl rfl rfl rfl ?_
      refine mp_ifb_ne (tgt := 41) dX11_put_35 rfl (fun h3 => ?_) (fun h3 => ?_)
      · refine mp_aload dX11_put_41 rfl ?_
        refine mp_iload_n dX11_put_43 rfl ?_
        refine mp_iload_n dX11_put_44 rfl ?_
        obtain ⟨A9, B9, hA9, e9⟩ := mp_csRow (s := s) (si := si) (sp := sp) (f := f) (fi := fi) (fp := fp) (im := im) (hd := hd) (kn := kn) (wd := wd) (ak := ak) (ke := ke) (cv := cv) (vo := vo) (so := so) (sz := sz) (el := el) (B := B) hA (d := d) ⟨by omega, by omega⟩
        refine mp_invV (z := (mX5_set, 1, 0, 0)) (K' := (0, 0)) (σ1 := A ++ (mp_cs s si sp f fi fp im hd kn wd ak ke cv vo so sz (mp_ud el (100 * d + i) (sp_low (so d) v)) ++ B)) (as := [mp_i i, mp_i v]) (st := []) (st1 := []) dX11_put_45 svX11_327 (mp_csR0 hA (d := d) ⟨by omega, by omega⟩) rfl rfl (mp_Call.cast (A := (none, A ++ (mp_cs s si sp f fi fp im hd kn wd ak ke cv vo so sz (mp_ud el (100 * d + i) (sp_low (so d) v)) ++ B))) (zX5_set (A := A9) (B := B9) (r := 28 + 2 * Int.toNat d) (i := i) (v := v) (o := so d) (z := sz d) (e := sp_elm el d) hA9 (by omega) (by omega) (by omega) (by omega)) (e9 _ _ _ mp_alk_rf) (by rw [sp_elm_ud (by omega)]; exact congrArg (Prod.mk _) (e9 _ _ _ (mp_alk_el (by omega))))) ⟨Nat.le_of_ble_eq_true rfl, Nat.le_of_ble_eq_true rfl, Nat.le_of_ble_eq_true rfl, Nat.le_of_ble_eq_true rfl, Nat.le_of_ble_eq_true rfl⟩ rfl rfl rfl rfl ?_
        refine mp_iconst dX11_put_48 ?_
        exact mp_ireturn (st := []) dX11_put_49 rfl ⟨by decide, by decide⟩ ((by rw [sp_put_ok (by omega) hr9 (by omega)]))
      · refine mp_bipush dX11_put_38 rfl ?_
        exact mp_ireturn (st := []) dX11_put_40 rfl ⟨by decide, by decide⟩ ((by rw [sp_put_out (by omega) hr9 (by omega)]))
    · refine mp_invV (z := (mX11_rowOn, 0, 0, 0)) (K' := (0, 0)) (σ1 := A ++ (mp_cs s si sp f fi fp im hd kn wd ak ke cv vo so sz el ++ B)) (as := [mp_i d]) (st := []) (st1 := [Value.null]) dX11_put_13 svX11_58 (mp_lkP hA 0 rfl) rfl rfl (zX11_rowOnN (d := d) (s := s) (si := si) (sp := sp) (f := f) (fi := fi) (fp := fp) (im := im) (hd := hd) (kn := kn) (wd := wd) (ak := ak) (ke := ke) (cv := cv) (vo := vo) (so := so) (sz := sz) (el := el) (B := B) (kk := kk) (kf := kf) (by first | with_reducible assumption | omega) (by first | with_reducible assumption | omega) (by first | with_reducible assumption | omega) (by first | with_reducible assumption | omega)) ⟨Nat.le_of_ble_eq_true rfl, Nat.le_of_ble_eq_true rfl, Nat.le_of_ble_eq_true rfl, Nat.le_of_ble_eq_true rfl, Nat.le_of_ble_eq_true rfl⟩ rfl rfl rfl rfl ?_
      refine mp_astoreN (L' := [some (Value.ref 1), some (mp_i d), some (mp_i i), some (mp_i v), some (Value.null)]) dX11_put_16 (by decide) rfl ?_
      refine mp_aloadN dX11_put_18 rfl ?_
      refine mp_ifnonnull_n dX11_put_20 ?_
      refine mp_aload_n dX11_put_23 rfl ?_
      refine mp_iload_n dX11_put_24 rfl ?_
      refine mp_invV (z := (mX11_whyNot, 0, 0, 0)) (K' := (0, 0)) (σ1 := A ++ (mp_cs s si sp f fi fp im hd kn wd ak ke cv vo so sz el ++ B)) (as := [mp_i d]) (st := []) (st1 := [mp_i (if hd d = 0 then -11 else -12)]) dX11_put_25 svX11_62 (mp_lkP hA 0 rfl) rfl rfl (zX11_whyNot (d := d) (s := s) (si := si) (sp := sp) (f := f) (fi := fi) (fp := fp) (im := im) (hd := hd) (kn := kn) (wd := wd) (ak := ak) (ke := ke) (cv := cv) (vo := vo) (so := so) (sz := sz) (el := el) (B := B) (kk := kk) (kf := kf) (by first | with_reducible assumption | omega) (by first | with_reducible assumption | omega) (by first | with_reducible assumption | omega)) ⟨Nat.le_of_ble_eq_true rfl, Nat.le_of_ble_eq_true rfl, Nat.le_of_ble_eq_true rfl, Nat.le_of_ble_eq_true rfl, Nat.le_of_ble_eq_true rfl⟩ rfl rfl rfl rfl ?_
      exact mp_ireturn (st := []) dX11_put_28 rfl ⟨by decide, by decide⟩ ((by rw [sp_put_no (by omega) hr9]))
  · refine mp_iconst dX11_put_9 ?_
    exact mp_ireturn (st := []) dX11_put_10 rfl ⟨by decide, by decide⟩ ((by rw [sp_put_bad (by omega)]))
theorem zX11_row {s si sp : Int → Int} {f fi fp : Nat → Option Nat} {im : Int} {hd : Int → Int} {kn : Nat → Option Nat} {wd ak ke cv vo so sz el : Int → Int} {A B : mp_H} {kk kf : Int → Int} {d : Int} {o : Int} {y : Int} (hA : A.length = 1) (hsh : ∀ d, 0 ≤ d → d ≤ 7 → mp_shf hd kk kf so sz d) (h_d : mp_w d) (h_o : mp_w o) (h_y : mp_w y) : mp_Call (mX11_row, 2, 0, 0) [Value.ref 1, mp_i d, mp_i o, mp_i y] (A ++ (mp_cs s si sp f fi fp im hd kn wd ak ke cv vo so sz el ++ B)) (some (mp_i ((sp_row hd so sz el d o y).1)), A ++ (mp_cs s si sp f fi fp im ((sp_row hd so sz el d o y).2.1) kn wd ak ke cv vo ((sp_row hd so sz el d o y).2.2.1) ((sp_row hd so sz el d o y).2.2.2.1) ((sp_row hd so sz el d o y).2.2.2.2) ++ B)) := by
  refine mp_Call.of (L := [some (Value.ref 1), some (mp_i d), some (mp_i o), some (mp_i y), none]) pnX11 (Nat.le_of_ble_eq_true rfl) rfl ?_
  have hsh0 : (0 ≤ d ∧ d ≤ 7) → mp_shf hd kk kf so sz d := fun h => hsh d h.1 h.2
  refine mp_iload_n dX11_row_0 rfl ?_
  refine mp_bipush dX11_row_1 rfl ?_
  refine mp_invS (z := (mX11_isBelow, 0, 0, 0)) (K' := (0, 0)) (σ1 := A ++ (mp_cs s si sp f fi fp im hd kn wd ak ke cv vo so sz el ++ B)) (as := [mp_i d, mp_i 8]) (st := []) (st1 := [mp_i (if 0 ≤ d ∧ d < 8 then 1 else 0)]) dX11_row_3 ssX11_54 (zX11_isBelow (v := d) (n := 8) (by first | with_reducible assumption | omega) (by first | with_reducible assumption | omega)) ⟨Nat.le_of_ble_eq_true rfl, Nat.le_of_ble_eq_true rfl, Nat.le_of_ble_eq_true rfl, Nat.le_of_ble_eq_true rfl, Nat.le_of_ble_eq_true rfl⟩ rfl rfl rfl rfl ?_
  refine mp_ifb_eq (tgt := 23) dX11_row_6 rfl (fun h1 => ?_) (fun h1 => ?_)
  · refine mp_iconst dX11_row_23 ?_
    exact mp_ireturn (st := []) dX11_row_24 rfl ⟨by decide, by decide⟩ ((by rw [sp_row_bad (by omega)]))
  · refine mp_iload_n dX11_row_9 rfl ?_
    refine mp_iconst dX11_row_10 ?_
    refine mp_invS (z := (mX11_isBelow, 0, 0, 0)) (K' := (0, 0)) (σ1 := A ++ (mp_cs s si sp f fi fp im hd kn wd ak ke cv vo so sz el ++ B)) (as := [mp_i o, mp_i 3]) (st := []) (st1 := [mp_i (if 0 ≤ o ∧ o < 3 then 1 else 0)]) dX11_row_11 ssX11_54 (zX11_isBelow (v := o) (n := 3) (by first | with_reducible assumption | omega) (by first | with_reducible assumption | omega)) ⟨Nat.le_of_ble_eq_true rfl, Nat.le_of_ble_eq_true rfl, Nat.le_of_ble_eq_true rfl, Nat.le_of_ble_eq_true rfl, Nat.le_of_ble_eq_true rfl⟩ rfl rfl rfl rfl ?_
    refine mp_ifb_eq (tgt := 23) dX11_row_14 rfl (fun h2 => ?_) (fun h2 => ?_)
    · refine mp_iconst dX11_row_23 ?_
      exact mp_ireturn (st := []) dX11_row_24 rfl ⟨by decide, by decide⟩ ((by rw [sp_row_bad (by omega)]))
    · refine mp_iload_n dX11_row_17 rfl ?_
      refine mp_bipush dX11_row_18 rfl ?_
      refine mp_icmp_le (tgt := 25) dX11_row_20 rfl ⟨by omega, by omega⟩ ⟨by omega, by omega⟩ (fun h3 => ?_) (fun h3 => ?_)
      · refine mp_iload_n dX11_row_25 rfl ?_
        refine mp_if_ge (tgt := 32) dX11_row_26 rfl ⟨by omega, by omega⟩ (fun h4 => ?_) (fun h4 => ?_)
        · refine mp_aload_n dX11_row_32 rfl ?_
          refine mp_getfield dX11_row_33 fsX11_34_10 (mp_lkP hA 0 rfl) rfl ?_
          refine mp_iload_n dX11_row_36 rfl ?_
          refine mp_aaload dX11_row_37 (mp_lkP hA 21 rfl) (by decide) ⟨by omega, by omega⟩ (by omega) ?_
          rw [mp_rwf_in (d := d) (by omega)]
          refine mp_astore (L' := [some (Value.ref 1), some (mp_i d), some (mp_i o), some (mp_i y), some (Value.ref (28 + 2 * Int.toNat d))]) dX11_row_38 (by decide) rfl ?_
          refine mp_aload dX11_row_40 rfl ?_
          refine mp_ifnull_r dX11_row_42 ?_
          refine mp_aload dX11_row_45 rfl ?_
          refine mp_iload_n dX11_row_47 rfl ?_
          refine mp_iload_n dX11_row_48 rfl ?_
          obtain ⟨A9, B9, hA9, e9⟩ := mp_csRow (s := s) (si := si) (sp := sp) (f := f) (fi := fi) (fp := fp) (im := im) (hd := hd) (kn := kn) (wd := wd) (ak := ak) (ke := ke) (cv := cv) (vo := vo) (so := so) (sz := sz) (el := el) (B := B) hA (d := d) ⟨by omega, by omega⟩
          refine mp_invV (z := (mX5_becomesNew, 1, 0, 0)) (K' := (0, 0)) (σ1 := A ++ (mp_cs s si sp f fi fp im hd kn wd ak ke cv vo (mp_ud so d o) (mp_ud sz d y) (sp_zero el d) ++ B)) (as := [mp_i o, mp_i y]) (st := []) (st1 := []) dX11_row_49 svX11_321 (mp_csR0 hA (d := d) ⟨by omega, by omega⟩) rfl rfl (mp_Call.cast (A := (none, A ++ (mp_cs s si sp f fi fp im hd kn wd ak ke cv vo (mp_ud so d o) (mp_ud sz d y) (sp_zero el d) ++ B))) (zX5_becomesNew (A := A9) (B := B9) (r := 28 + 2 * Int.toNat d) (w := o) (n := y) (o := so d) (z := sz d) (e := sp_elm el d) hA9 (by omega) (by omega)) (e9 _ _ _ mp_alk_rf) (by have e8 := e9 (mp_ud so d o) (mp_ud sz d y) (sp_zero el d) mp_alk_new; rw [mp_ud_eq, mp_ud_eq, sp_elm_zero] at e8; exact congrArg (Prod.mk _) e8)) ⟨Nat.le_of_ble_eq_true rfl, Nat.le_of_ble_eq_true rfl, Nat.le_of_ble_eq_true rfl, Nat.le_of_ble_eq_true rfl, Nat.le_of_ble_eq_true rfl⟩ rfl rfl rfl rfl ?_
          refine mp_aload_n dX11_row_52 rfl ?_
          refine mp_getfield dX11_row_53 fsX11_22_10 (mp_lkP hA 0 rfl) rfl ?_
          refine mp_iload_n dX11_row_56 rfl ?_
          refine mp_iconst dX11_row_57 ?_
          refine mp_iast (σ' := A ++ (mp_cs s si sp f fi fp im (mp_ud hd d 2) kn wd ak ke cv vo (mp_ud so d o) (mp_ud sz d y) (sp_zero el d) ++ B)) dX11_row_58 (mp_lkP hA 19 rfl) (by decide) ⟨by omega, by omega⟩ (by decide) (mp_stP (Ms' := mp_cs s si sp f fi fp im (mp_ud hd d 2) kn wd ak ke cv vo (mp_ud so d o) (mp_ud sz d y) (sp_zero el d)) hA 19 (Nat.le_of_ble_eq_true rfl) rfl) ?_
          refine mp_iconst dX11_row_59 ?_
          exact mp_ireturn (st := []) dX11_row_60 rfl ⟨by decide, by decide⟩ ((by rw [sp_row_ok (by omega)]))
        · refine mp_bipush dX11_row_29 rfl ?_
          exact mp_ireturn (st := []) dX11_row_31 rfl ⟨by decide, by decide⟩ ((by rw [sp_row_less (by omega)]))
      · refine mp_iconst dX11_row_23 ?_
        exact mp_ireturn (st := []) dX11_row_24 rfl ⟨by decide, by decide⟩ ((by rw [sp_row_bad (by omega)]))
theorem lX11_forged_29 {s si sp : Int → Int} {f fi fp : Nat → Option Nat} {im : Int} {hd : Int → Int} {kn : Nat → Option Nat} {wd ak ke cv vo so sz el : Int → Int} {A B : mp_H} {kk kf : Int → Int} {d : Int} (hA : A.length = 1) (hs : mp_sky s) (hMt : mp_Mt (A ++ (mp_cs s si sp f fi fp im hd kn wd ak ke cv vo so sz el ++ B)) s f) (hsh : ∀ d, 0 ≤ d → d ≤ 7 → mp_shf hd kk kf so sz d) (hel : ∀ x, mp_w (el x)) (h_d : mp_w d) {R9 : mp_An} : ∀ (n : Nat) (t : Int), ((0 ≤ d ∧ d ≤ 7) ∧ 0 ≤ t ∧ t + (n : Nat) = sz d) → R9 = (some (mp_i (sp_forgedN s el d n t)), A ++ (mp_cs s si sp f fi fp im hd kn wd ak ke cv vo so sz el ++ B)) → mp_At (mX11_forged, 4, 0, 0) (0, 0) 29 [some (Value.ref 1), some (mp_i d), some (Value.ref (28 + 2 * Int.toNat d)), some (mp_i t), none] [] (A ++ (mp_cs s si sp f fi fp im hd kn wd ak ke cv vo so sz el ++ B)) R9 := by
  intro n
  induction n with
  | zero =>
    intro t hi hR
    have hz0 := hs.1
    have hdd : 0 ≤ d ∧ d ≤ 7 := hi.1
    have hsh9 := hsh d hdd.1 hdd.2
    refine mp_iload_n dX11_forged_29 rfl ?_
    refine mp_aload_n dX11_forged_30 rfl ?_
    refine mp_getfield dX11_forged_31 fsX11_80_9 (mp_csR0 hA (d := d) ⟨by omega, by omega⟩) rfl ?_
    refine mp_icmp_ge (tgt := 79) dX11_forged_34 rfl ⟨by omega, by omega⟩ ⟨by omega, by omega⟩ (fun h1 => ?_) (fun h1 => ?_)
    · refine mp_bipush dX11_forged_79 rfl ?_
      exact mp_ireturn (st := []) dX11_forged_81 rfl ⟨by decide, by decide⟩ (hR.trans (mp_ans rfl))
    · exfalso; omega
  | succ n ih =>
    intro t hi hR
    have hz0 := hs.1
    have hdd : 0 ≤ d ∧ d ≤ 7 := hi.1
    have hsh9 := hsh d hdd.1 hdd.2
    have hv31 : ∀ l, 0 ≤ l → l ≤ 4 → (sp_b 31 l = 1 ↔ ((0 : Int) = 0 ∨ s (49 + 3 * l + 2) = 9)) := fun l h0 h1 => ⟨fun _ => Or.inl rfl, fun _ => mp_b_31 ⟨h0, h1⟩⟩
    have htk := mp_taker_bd s t 0
    refine mp_iload_n dX11_forged_29 rfl ?_
    refine mp_aload_n dX11_forged_30 rfl ?_
    refine mp_getfield dX11_forged_31 fsX11_80_9 (mp_csR0 hA (d := d) ⟨by omega, by omega⟩) rfl ?_
    refine mp_icmp_ge (tgt := 79) dX11_forged_34 rfl ⟨by omega, by omega⟩ ⟨by omega, by omega⟩ (fun h1 => ?_) (fun h1 => ?_)
    · exfalso; omega
    · refine mp_aload_n dX11_forged_37 rfl ?_
      refine mp_getfield dX11_forged_38 fsX11_10_10 (mp_lkP hA 0 rfl) rfl ?_
      refine mp_iload_n dX11_forged_41 rfl ?_
      by_cases hm2 : 0 ≤ t ∧ t < s 0
      · obtain ⟨a2, hf2, hc2⟩ := (mp_Sk.of (σ := A ++ (mp_cs s si sp f fi fp im hd kn wd ak ke cv vo so sz el ++ B)) (mp_skC2 hA) hMt).2.2.2.2.2.2 t hm2.1 hm2.2
        have ht2 := hs.2.1 t hm2.1 hm2.2
        have hl2 := mp_lasts_bd (kind := (s (1 + 6 * t + 0))) (f := (s (1 + 6 * t + 1))) (by omega)
        have hr2 := mp_bright_bd (kind := (s (1 + 6 * t + 0))) (f := (s (1 + 6 * t + 1))) (by omega)
        refine mp_invV (z := (mX6_at, 0, 0, 0)) (K' := (0, 0)) (σ1 := A ++ (mp_cs s si sp f fi fp im hd kn wd ak ke cv vo so sz el ++ B)) (as := [mp_i t]) (st := []) (st1 := [Value.ref a2]) dX11_forged_42 svX11_93 (mp_Sk.of (σ := A ++ (mp_cs s si sp f fi fp im hd kn wd ak ke cv vo so sz el ++ B)) (mp_skC2 hA) hMt).1 rfl rfl (zX6_at (p := 2) (m := t) (a := a2) (s := s) (f := f) (mp_Sk.of (σ := A ++ (mp_cs s si sp f fi fp im hd kn wd ak ke cv vo so sz el ++ B)) (mp_skC2 hA) hMt) hm2 (by omega) hf2) ⟨Nat.le_of_ble_eq_true rfl, Nat.le_of_ble_eq_true rfl, Nat.le_of_ble_eq_true rfl, Nat.le_of_ble_eq_true rfl, Nat.le_of_ble_eq_true rfl⟩ rfl rfl rfl rfl ?_
        refine mp_astore (L' := [some (Value.ref 1), some (mp_i d), some (Value.ref (28 + 2 * Int.toNat d)), some (mp_i t), some (Value.ref a2)]) dX11_forged_45 (by decide) rfl ?_
        refine mp_aload dX11_forged_47 rfl ?_
        refine mp_ifnull_r dX11_forged_49 ?_
        refine mp_aload_n dX11_forged_52 rfl ?_
        refine mp_iload_n dX11_forged_53 rfl ?_
        refine mp_invV (z := (mX5_at, 1, 0, 0)) (K' := (0, 0)) (σ1 := A ++ (mp_cs s si sp f fi fp im hd kn wd ak ke cv vo so sz el ++ B)) (as := [mp_i t]) (st := []) (st1 := [mp_i (if 0 ≤ t ∧ t < (sz d) then (sp_elm el d) t else 0)]) dX11_forged_54 svX11_87 (mp_csR0 hA (d := d) ⟨by omega, by omega⟩) rfl rfl (zX5_at (r := (28 + 2 * Int.toNat d)) (i := t) (q := (28 + 2 * Int.toNat d + 1)) (o := (so d)) (z := (sz d)) (e := (sp_elm el d)) (mp_csR0 hA (d := d) ⟨by omega, by omega⟩) (mp_csR1 hA (d := d) ⟨by omega, by omega⟩) (by first | with_reducible assumption | omega) (by first | with_reducible assumption | omega)) ⟨Nat.le_of_ble_eq_true rfl, Nat.le_of_ble_eq_true rfl, Nat.le_of_ble_eq_true rfl, Nat.le_of_ble_eq_true rfl, Nat.le_of_ble_eq_true rfl⟩ rfl rfl rfl rfl ?_
        refine mp_top (y := el (100 * d + t)) ((if_pos (by omega)).trans (sp_elm_in (by omega))) ?_
        have hel3 := hel (100 * d + t)
        refine mp_aload_n dX11_forged_57 rfl ?_
        refine mp_getfield dX11_forged_58 fsX11_10_10 (mp_lkP hA 0 rfl) rfl ?_
        refine mp_bipush dX11_forged_61 rfl ?_
        refine mp_aload dX11_forged_63 rfl ?_
        refine mp_invV (z := (mX6_firstOf, 3, 0, 0)) (K' := (0, 0)) (σ1 := A ++ (mp_cs s si sp f fi fp im hd kn wd ak ke cv vo so sz el ++ B)) (as := [mp_i 31, Value.ref a2]) (st := [mp_i (el (100 * d + t))]) (st1 := [mp_i (if sp_taker s t 0 < 0 then 9 else sp_taker s t 0), mp_i (el (100 * d + t))]) dX11_forged_65 svX11_176 (mp_lkP hA 1 rfl) rfl rfl (zX6_firstOf (p := 2) (v := 31) (a := a2) (s := s) (f := f) (k := t) (g := 0) (mp_Sk.of (σ := A ++ (mp_cs s si sp f fi fp im hd kn wd ak ke cv vo so sz el ++ B)) (mp_skC2 hA) hMt) hs (by first | with_reducible assumption | omega) (by first | with_reducible assumption | omega) (by first | with_reducible assumption | omega) hv31) ⟨Nat.le_of_ble_eq_true rfl, Nat.le_of_ble_eq_true rfl, Nat.le_of_ble_eq_true rfl, Nat.le_of_ble_eq_true rfl, Nat.le_of_ble_eq_true rfl⟩ rfl rfl rfl rfl ?_
        refine mp_icmp_eq (tgt := 73) dX11_forged_68 rfl ⟨by omega, by omega⟩ ⟨by omega, by omega⟩ (fun h4 => ?_) (fun h4 => ?_)
        · refine mp_iinc (z := t + 1) (L' := [some (Value.ref 1), some (mp_i d), some (Value.ref (28 + 2 * Int.toNat d)), some (mp_i (t + 1)), some (Value.ref a2)]) dX11_forged_73 rfl (rfl) (by decide) rfl ?_
          refine mp_goto (tgt := 29) dX11_forged_76 rfl ?_
          refine mp_drop (L' := [some (Value.ref 1), some (mp_i d), some (Value.ref (28 + 2 * Int.toNat d)), some (mp_i (t + 1)), none]) [true, true, true, true, false] rfl ?_
          exact ih (t + 1) (by omega) (hR.trans (by rw [sp_forgedN_s, if_neg (by omega), if_neg (by omega)]))
        · refine mp_iload_n dX11_forged_71 rfl ?_
          exact mp_ireturn (st := []) dX11_forged_72 rfl ⟨by decide, by decide⟩ (hR.trans (mp_ans (by rw [sp_forgedN_s]; first | (rw [if_pos (by omega)]; done) | (rw [if_neg (by omega), if_pos (by omega)]; done))))
      · refine mp_invV (z := (mX6_at, 0, 0, 0)) (K' := (0, 0)) (σ1 := A ++ (mp_cs s si sp f fi fp im hd kn wd ak ke cv vo so sz el ++ B)) (as := [mp_i t]) (st := []) (st1 := [Value.null]) dX11_forged_42 svX11_93 (mp_Sk.of (σ := A ++ (mp_cs s si sp f fi fp im hd kn wd ak ke cv vo so sz el ++ B)) (mp_skC2 hA) hMt).1 rfl rfl (zX6_atN (p := 2) (m := t) (s := s) (f := f) (mp_Sk.of (σ := A ++ (mp_cs s si sp f fi fp im hd kn wd ak ke cv vo so sz el ++ B)) (mp_skC2 hA) hMt) hm2 (by omega) (by omega)) ⟨Nat.le_of_ble_eq_true rfl, Nat.le_of_ble_eq_true rfl, Nat.le_of_ble_eq_true rfl, Nat.le_of_ble_eq_true rfl, Nat.le_of_ble_eq_true rfl⟩ rfl rfl rfl rfl ?_
        refine mp_astoreN (L' := [some (Value.ref 1), some (mp_i d), some (Value.ref (28 + 2 * Int.toNat d)), some (mp_i t), some (Value.null)]) dX11_forged_45 (by decide) rfl ?_
        refine mp_aloadN dX11_forged_47 rfl ?_
        refine mp_ifnull_n (tgt := 71) dX11_forged_49 rfl ?_
        refine mp_iload_n dX11_forged_71 rfl ?_
        exact mp_ireturn (st := []) dX11_forged_72 rfl ⟨by decide, by decide⟩ (hR.trans (mp_ans (by rw [sp_forgedN_s]; first | (rw [if_pos (by omega)]; done) | (rw [if_neg (by omega), if_pos (by omega)]; done))))
theorem zX11_forged {s si sp : Int → Int} {f fi fp : Nat → Option Nat} {im : Int} {hd : Int → Int} {kn : Nat → Option Nat} {wd ak ke cv vo so sz el : Int → Int} {A B : mp_H} {kk kf : Int → Int} {d : Int} (hA : A.length = 1) (hs : mp_sky s) (hMt : mp_Mt (A ++ (mp_cs s si sp f fi fp im hd kn wd ak ke cv vo so sz el ++ B)) s f) (hsh : ∀ d, 0 ≤ d → d ≤ 7 → mp_shf hd kk kf so sz d) (hel : ∀ x, mp_w (el x)) (h_d : mp_w d) : mp_Call (mX11_forged, 4, 0, 0) [Value.ref 1, mp_i d] (A ++ (mp_cs s si sp f fi fp im hd kn wd ak ke cv vo so sz el ++ B)) (some (mp_i (sp_forged s hd so sz el d)), A ++ (mp_cs s si sp f fi fp im hd kn wd ak ke cv vo so sz el ++ B)) := by
  refine mp_Call.of (L := [some (Value.ref 1), some (mp_i d), none, none, none]) pnX11 (Nat.le_of_ble_eq_true rfl) rfl ?_
  have hz0 := hs.1
  refine mp_iload_n dX11_forged_0 rfl ?_
  refine mp_bipush dX11_forged_1 rfl ?_
  refine mp_invS (z := (mX11_isBelow, 0, 0, 0)) (K' := (0, 0)) (σ1 := A ++ (mp_cs s si sp f fi fp im hd kn wd ak ke cv vo so sz el ++ B)) (as := [mp_i d, mp_i 8]) (st := []) (st1 := [mp_i (if 0 ≤ d ∧ d < 8 then 1 else 0)]) dX11_forged_3 ssX11_54 (zX11_isBelow (v := d) (n := 8) (by first | with_reducible assumption | omega) (by first | with_reducible assumption | omega)) ⟨Nat.le_of_ble_eq_true rfl, Nat.le_of_ble_eq_true rfl, Nat.le_of_ble_eq_true rfl, Nat.le_of_ble_eq_true rfl, Nat.le_of_ble_eq_true rfl⟩ rfl rfl rfl rfl ?_
  refine mp_ifb_ne (tgt := 11) dX11_forged_6 rfl (fun h1 => ?_) (fun h1 => ?_)
  · refine mp_aload_n dX11_forged_11 rfl ?_
    refine mp_iload_n dX11_forged_12 rfl ?_
    have hsh2 := hsh d (by omega) (by omega)
    by_cases hr9 : hd d = 2
    · refine mp_invV (z := (mX11_rowOn, 0, 0, 0)) (K' := (0, 0)) (σ1 := A ++ (mp_cs s si sp f fi fp im hd kn wd ak ke cv vo so sz el ++ B)) (as := [mp_i d]) (st := []) (st1 := [Value.ref (28 + 2 * Int.toNat d)]) dX11_forged_13 svX11_58 (mp_lkP hA 0 rfl) rfl rfl (zX11_rowOn (d := d) (s := s) (si := si) (sp := sp) (f := f) (fi := fi) (fp := fp) (im := im) (hd := hd) (kn := kn) (wd := wd) (ak := ak) (ke := ke) (cv := cv) (vo := vo) (so := so) (sz := sz) (el := el) (B := B) (kk := kk) (kf := kf) (by first | with_reducible assumption | omega) (by first | with_reducible assumption | omega) (by first | with_reducible assumption | omega) (by first | with_reducible assumption | omega)) ⟨Nat.le_of_ble_eq_true rfl, Nat.le_of_ble_eq_true rfl, Nat.le_of_ble_eq_true rfl, Nat.le_of_ble_eq_true rfl, Nat.le_of_ble_eq_true rfl⟩ rfl rfl rfl rfl ?_
      refine mp_astore_n (L' := [some (Value.ref 1), some (mp_i d), some (Value.ref (28 + 2 * Int.toNat d)), none, none]) dX11_forged_16 rfl (by decide) rfl ?_
      refine mp_aload_n dX11_forged_17 rfl ?_
      refine mp_ifnonnull_r (tgt := 27) dX11_forged_18 rfl ?_
      refine mp_iconst dX11_forged_27 ?_
      refine mp_istore_n (L' := [some (Value.ref 1), some (mp_i d), some (Value.ref (28 + 2 * Int.toNat d)), some (mp_i 0), none]) dX11_forged_28 rfl (by decide) rfl ?_
      exact lX11_forged_29 (s := s) (si := si) (sp := sp) (f := f) (fi := fi) (fp := fp) (im := im) (hd := hd) (kn := kn) (wd := wd) (ak := ak) (ke := ke) (cv := cv) (vo := vo) (so := so) (sz := sz) (el := el) (B := B) (d := d)  (by first | with_reducible assumption | omega) (by first | with_reducible assumption | omega) (by first | with_reducible assumption | omega) (by first | with_reducible assumption | omega) (by first | with_reducible assumption | omega) (by first | with_reducible assumption | omega) (Int.toNat (sz d)) 0 (by omega) (by unfold sp_forged; rw [sp_wR_ok (by omega) hr9, if_neg (fun h => h rfl)])
    · refine mp_invV (z := (mX11_rowOn, 0, 0, 0)) (K' := (0, 0)) (σ1 := A ++ (mp_cs s si sp f fi fp im hd kn wd ak ke cv vo so sz el ++ B)) (as := [mp_i d]) (st := []) (st1 := [Value.null]) dX11_forged_13 svX11_58 (mp_lkP hA 0 rfl) rfl rfl (zX11_rowOnN (d := d) (s := s) (si := si) (sp := sp) (f := f) (fi := fi) (fp := fp) (im := im) (hd := hd) (kn := kn) (wd := wd) (ak := ak) (ke := ke) (cv := cv) (vo := vo) (so := so) (sz := sz) (el := el) (B := B) (kk := kk) (kf := kf) (by first | with_reducible assumption | omega) (by first | with_reducible assumption | omega) (by first | with_reducible assumption | omega) (by first | with_reducible assumption | omega)) ⟨Nat.le_of_ble_eq_true rfl, Nat.le_of_ble_eq_true rfl, Nat.le_of_ble_eq_true rfl, Nat.le_of_ble_eq_true rfl, Nat.le_of_ble_eq_true rfl⟩ rfl rfl rfl rfl ?_
      refine mp_astore_nN (L' := [some (Value.ref 1), some (mp_i d), some (Value.null), none, none]) dX11_forged_16 rfl (by decide) rfl ?_
      refine mp_aload_nN dX11_forged_17 rfl ?_
      refine mp_ifnonnull_n dX11_forged_18 ?_
      refine mp_aload_n dX11_forged_21 rfl ?_
      refine mp_iload_n dX11_forged_22 rfl ?_
      refine mp_invV (z := (mX11_whyNot, 0, 0, 0)) (K' := (0, 0)) (σ1 := A ++ (mp_cs s si sp f fi fp im hd kn wd ak ke cv vo so sz el ++ B)) (as := [mp_i d]) (st := []) (st1 := [mp_i (if hd d = 0 then -11 else -12)]) dX11_forged_23 svX11_62 (mp_lkP hA 0 rfl) rfl rfl (zX11_whyNot (d := d) (s := s) (si := si) (sp := sp) (f := f) (fi := fi) (fp := fp) (im := im) (hd := hd) (kn := kn) (wd := wd) (ak := ak) (ke := ke) (cv := cv) (vo := vo) (so := so) (sz := sz) (el := el) (B := B) (kk := kk) (kf := kf) (by first | with_reducible assumption | omega) (by first | with_reducible assumption | omega) (by first | with_reducible assumption | omega)) ⟨Nat.le_of_ble_eq_true rfl, Nat.le_of_ble_eq_true rfl, Nat.le_of_ble_eq_true rfl, Nat.le_of_ble_eq_true rfl, Nat.le_of_ble_eq_true rfl⟩ rfl rfl rfl rfl ?_
      exact mp_ireturn (st := []) dX11_forged_26 rfl ⟨by decide, by decide⟩ ((mp_ans (by unfold sp_forged; first | (rw [sp_wR_bad (by omega)]; rfl) | (rw [sp_wR_no (by omega) hr9, if_pos sp_wK_nz]; done))))
  · refine mp_iconst dX11_forged_9 ?_
    exact mp_ireturn (st := []) dX11_forged_10 rfl ⟨by decide, by decide⟩ ((mp_ans (by unfold sp_forged; first | (rw [sp_wR_bad (by omega)]; rfl) | (rw [sp_wR_no (by omega) hr9, if_pos sp_wK_nz]; done))))
theorem lX11_judge_40 {s si sp : Int → Int} {f fi fp : Nat → Option Nat} {im : Int} {hd : Int → Int} {kn : Nat → Option Nat} {wd ak ke cv vo so sz el : Int → Int} {A B : mp_H} {kk kf : Int → Int} {d : Int} {v : Int} (hA : A.length = 1) (hs : mp_sky s) (hMt : mp_Mt (A ++ (mp_cs s si sp f fi fp im hd kn wd ak ke cv vo so sz el ++ B)) s f) (hsh : ∀ d, 0 ≤ d → d ≤ 7 → mp_shf hd kk kf so sz d) (hel : ∀ x, mp_w (el x)) (h_d : mp_w d) (h_v : mp_w v) {R9 : mp_An} : ∀ (n : Nat) (t : Int), (((0 ≤ d ∧ d ≤ 7) ∧ (0 ≤ v ∧ v ≤ 365)) ∧ 0 ≤ t ∧ t + (n : Nat) = sz d) → R9 = (some (mp_i (sp_judgeN s so el d v n t)), A ++ (mp_cs s si sp f fi fp im hd kn wd ak ke cv vo so sz el ++ B)) → mp_At (mX11_judge, 4, 0, 0) (0, 0) 40 [some (Value.ref 1), some (mp_i d), some (mp_i v), some (Value.ref (28 + 2 * Int.toNat d)), some (mp_i t)] [] (A ++ (mp_cs s si sp f fi fp im hd kn wd ak ke cv vo so sz el ++ B)) R9 := by
  intro n
  induction n with
  | zero =>
    intro t hi hR
    have hz0 := hs.1
    have hdd : 0 ≤ d ∧ d ≤ 7 := hi.1.1
    have hsh9 := hsh d hdd.1 hdd.2
    refine mp_iload dX11_judge_40 rfl ?_
    refine mp_aload_n dX11_judge_42 rfl ?_
    refine mp_getfield dX11_judge_43 fsX11_80_9 (mp_csR0 hA (d := d) ⟨by omega, by omega⟩) rfl ?_
    refine mp_icmp_ge (tgt := 88) dX11_judge_46 rfl ⟨by omega, by omega⟩ ⟨by omega, by omega⟩ (fun h1 => ?_) (fun h1 => ?_)
    · refine mp_bipush dX11_judge_88 rfl ?_
      exact mp_ireturn (st := []) dX11_judge_90 rfl ⟨by decide, by decide⟩ (hR.trans (mp_ans rfl))
    · exfalso; omega
  | succ n ih =>
    intro t hi hR
    have hz0 := hs.1
    have hdd : 0 ≤ d ∧ d ≤ 7 := hi.1.1
    have hsh9 := hsh d hdd.1 hdd.2
    have hta := mp_thereAll_bd hs (v + t)
    have hlo : -2147483648 ≤ sp_leastOf (so d) ∧ sp_leastOf (so d) ≤ 0 := by unfold sp_leastOf; omega
    refine mp_iload dX11_judge_40 rfl ?_
    refine mp_aload_n dX11_judge_42 rfl ?_
    refine mp_getfield dX11_judge_43 fsX11_80_9 (mp_csR0 hA (d := d) ⟨by omega, by omega⟩) rfl ?_
    refine mp_icmp_ge (tgt := 88) dX11_judge_46 rfl ⟨by omega, by omega⟩ ⟨by omega, by omega⟩ (fun h1 => ?_) (fun h1 => ?_)
    · exfalso; omega
    · refine mp_aload_n dX11_judge_49 rfl ?_
      refine mp_iload dX11_judge_50 rfl ?_
      refine mp_invV (z := (mX5_at, 1, 0, 0)) (K' := (0, 0)) (σ1 := A ++ (mp_cs s si sp f fi fp im hd kn wd ak ke cv vo so sz el ++ B)) (as := [mp_i t]) (st := []) (st1 := [mp_i (if 0 ≤ t ∧ t < (sz d) then (sp_elm el d) t else 0)]) dX11_judge_52 svX11_87 (mp_csR0 hA (d := d) ⟨by omega, by omega⟩) rfl rfl (zX5_at (r := (28 + 2 * Int.toNat d)) (i := t) (q := (28 + 2 * Int.toNat d + 1)) (o := (so d)) (z := (sz d)) (e := (sp_elm el d)) (mp_csR0 hA (d := d) ⟨by omega, by omega⟩) (mp_csR1 hA (d := d) ⟨by omega, by omega⟩) (by first | with_reducible assumption | omega) (by first | with_reducible assumption | omega)) ⟨Nat.le_of_ble_eq_true rfl, Nat.le_of_ble_eq_true rfl, Nat.le_of_ble_eq_true rfl, Nat.le_of_ble_eq_true rfl, Nat.le_of_ble_eq_true rfl⟩ rfl rfl rfl rfl ?_
      refine mp_top (y := el (100 * d + t)) ((if_pos (by omega)).trans (sp_elm_in (by omega))) ?_
      have hel2 := hel (100 * d + t)
      refine mp_aload_n dX11_judge_55 rfl ?_
      refine mp_invV (z := (mX5_least, 0, 0, 0)) (K' := (0, 0)) (σ1 := A ++ (mp_cs s si sp f fi fp im hd kn wd ak ke cv vo so sz el ++ B)) (as := []) (st := [mp_i (el (100 * d + t))]) (st1 := [mp_i (sp_leastOf (so d)), mp_i (el (100 * d + t))]) dX11_judge_56 svX11_253 (mp_csR0 hA (d := d) ⟨by omega, by omega⟩) rfl rfl (zX5_least (r := (28 + 2 * Int.toNat d)) (q := (28 + 2 * Int.toNat d + 1)) (o := (so d)) (z := (sz d)) (mp_csR0 hA (d := d) ⟨by omega, by omega⟩) (by first | with_reducible assumption | omega)) ⟨Nat.le_of_ble_eq_true rfl, Nat.le_of_ble_eq_true rfl, Nat.le_of_ble_eq_true rfl, Nat.le_of_ble_eq_true rfl, Nat.le_of_ble_eq_true rfl⟩ rfl rfl rfl rfl ?_
      refine mp_icmp_eq (tgt := 82) dX11_judge_59 rfl ⟨by omega, by omega⟩ ⟨by omega, by omega⟩ (fun h3 => ?_) (fun h3 => ?_)
      · refine mp_iinc (z := t + 1) (L' := [some (Value.ref 1), some (mp_i d), some (mp_i v), some (Value.ref (28 + 2 * Int.toNat d)), some (mp_i (t + 1))]) dX11_judge_82 rfl (rfl) (by decide) rfl ?_
        refine mp_goto (tgt := 40) dX11_judge_85 rfl ?_
        exact ih (t + 1) (by omega) (hR.trans (by rw [sp_judgeN_s, if_neg (by omega)]))
      · refine mp_aload_n dX11_judge_62 rfl ?_
        refine mp_iload dX11_judge_63 rfl ?_
        refine mp_invV (z := (mX5_at, 1, 0, 0)) (K' := (0, 0)) (σ1 := A ++ (mp_cs s si sp f fi fp im hd kn wd ak ke cv vo so sz el ++ B)) (as := [mp_i t]) (st := []) (st1 := [mp_i (if 0 ≤ t ∧ t < (sz d) then (sp_elm el d) t else 0)]) dX11_judge_65 svX11_87 (mp_csR0 hA (d := d) ⟨by omega, by omega⟩) rfl rfl (zX5_at (r := (28 + 2 * Int.toNat d)) (i := t) (q := (28 + 2 * Int.toNat d + 1)) (o := (so d)) (z := (sz d)) (e := (sp_elm el d)) (mp_csR0 hA (d := d) ⟨by omega, by omega⟩) (mp_csR1 hA (d := d) ⟨by omega, by omega⟩) (by first | with_reducible assumption | omega) (by first | with_reducible assumption | omega)) ⟨Nat.le_of_ble_eq_true rfl, Nat.le_of_ble_eq_true rfl, Nat.le_of_ble_eq_true rfl, Nat.le_of_ble_eq_true rfl, Nat.le_of_ble_eq_true rfl⟩ rfl rfl rfl rfl ?_
        refine mp_top (y := el (100 * d + t)) ((if_pos (by omega)).trans (sp_elm_in (by omega))) ?_
        have hel4 := hel (100 * d + t)
        refine mp_aload_n dX11_judge_68 rfl ?_
        refine mp_iload_n dX11_judge_69 rfl ?_
        refine mp_iload dX11_judge_70 rfl ?_
        refine mp_iadd (z := v + t) dX11_judge_72 (by first | rfl | omega) ?_
        refine mp_invV (z := (mX11_meteorsThereOn, 3, 0, 0)) (K' := (0, 0)) (σ1 := A ++ (mp_cs s si sp f fi fp im hd kn wd ak ke cv vo so sz el ++ B)) (as := [mp_i (v + t)]) (st := [mp_i (el (100 * d + t))]) (st1 := [mp_i (sp_thereAll s (v + t)), mp_i (el (100 * d + t))]) dX11_judge_73 svX11_298 (mp_lkP hA 0 rfl) rfl rfl (zX11_meteorsThereOn (x := (v + t)) (s := s) (si := si) (sp := sp) (f := f) (fi := fi) (fp := fp) (im := im) (hd := hd) (kn := kn) (wd := wd) (ak := ak) (ke := ke) (cv := cv) (vo := vo) (so := so) (sz := sz) (el := el) (B := B) (by first | with_reducible assumption | omega) (by first | with_reducible assumption | omega) (hMt.mono hs.kd mp_stay_cs) (by first | with_reducible assumption | omega)) ⟨Nat.le_of_ble_eq_true rfl, Nat.le_of_ble_eq_true rfl, Nat.le_of_ble_eq_true rfl, Nat.le_of_ble_eq_true rfl, Nat.le_of_ble_eq_true rfl⟩ rfl rfl rfl rfl ?_
        refine mp_icmp_eq (tgt := 82) dX11_judge_76 rfl ⟨by omega, by omega⟩ ⟨by omega, by omega⟩ (fun h5 => ?_) (fun h5 => ?_)
        · refine mp_iinc (z := t + 1) (L' := [some (Value.ref 1), some (mp_i d), some (mp_i v), some (Value.ref (28 + 2 * Int.toNat d)), some (mp_i (t + 1))]) dX11_judge_82 rfl (rfl) (by decide) rfl ?_
          refine mp_goto (tgt := 40) dX11_judge_85 rfl ?_
          exact ih (t + 1) (by omega) (hR.trans (by rw [sp_judgeN_s, if_neg (by omega)]))
        · refine mp_iload dX11_judge_79 rfl ?_
          exact mp_ireturn (st := []) dX11_judge_81 rfl ⟨by decide, by decide⟩ (hR.trans (mp_ans (by rw [sp_judgeN_s, if_pos (by omega)])))
theorem zX11_judge {s si sp : Int → Int} {f fi fp : Nat → Option Nat} {im : Int} {hd : Int → Int} {kn : Nat → Option Nat} {wd ak ke cv vo so sz el : Int → Int} {A B : mp_H} {kk kf : Int → Int} {d : Int} {v : Int} (hA : A.length = 1) (hs : mp_sky s) (hMt : mp_Mt (A ++ (mp_cs s si sp f fi fp im hd kn wd ak ke cv vo so sz el ++ B)) s f) (hsh : ∀ d, 0 ≤ d → d ≤ 7 → mp_shf hd kk kf so sz d) (hel : ∀ x, mp_w (el x)) (h_d : mp_w d) (h_v : mp_w v) : mp_Call (mX11_judge, 4, 0, 0) [Value.ref 1, mp_i d, mp_i v] (A ++ (mp_cs s si sp f fi fp im hd kn wd ak ke cv vo so sz el ++ B)) (some (mp_i (sp_judge s hd so sz el d v)), A ++ (mp_cs s si sp f fi fp im hd kn wd ak ke cv vo so sz el ++ B)) := by
  refine mp_Call.of (L := [some (Value.ref 1), some (mp_i d), some (mp_i v), none, none]) pnX11 (Nat.le_of_ble_eq_true rfl) rfl ?_
  have hz0 := hs.1
  refine mp_iload_n dX11_judge_0 rfl ?_
  refine mp_bipush dX11_judge_1 rfl ?_
  refine mp_invS (z := (mX11_isBelow, 0, 0, 0)) (K' := (0, 0)) (σ1 := A ++ (mp_cs s si sp f fi fp im hd kn wd ak ke cv vo so sz el ++ B)) (as := [mp_i d, mp_i 8]) (st := []) (st1 := [mp_i (if 0 ≤ d ∧ d < 8 then 1 else 0)]) dX11_judge_3 ssX11_54 (zX11_isBelow (v := d) (n := 8) (by first | with_reducible assumption | omega) (by first | with_reducible assumption | omega)) ⟨Nat.le_of_ble_eq_true rfl, Nat.le_of_ble_eq_true rfl, Nat.le_of_ble_eq_true rfl, Nat.le_of_ble_eq_true rfl, Nat.le_of_ble_eq_true rfl⟩ rfl rfl rfl rfl ?_
  refine mp_ifb_eq (tgt := 19) dX11_judge_6 rfl (fun h1 => ?_) (fun h1 => ?_)
  · refine mp_iconst dX11_judge_19 ?_
    exact mp_ireturn (st := []) dX11_judge_20 rfl ⟨by decide, by decide⟩ ((mp_ans (by unfold sp_judge; first | (rw [if_pos (by omega)]; done) | (rw [if_neg (by omega), sp_wR_no (by omega) hr9, if_pos sp_wK_nz]; done) | (by_cases hv9 : 0 ≤ v ∧ v ≤ 365; rw [if_neg (by omega), sp_wR_bad (by omega)]; rfl; rw [if_pos hv9]))))
  · refine mp_iload_n dX11_judge_9 rfl ?_
    refine mp_sipush dX11_judge_10 rfl ?_
    refine mp_invS (z := (mX11_isBelow, 0, 0, 0)) (K' := (0, 0)) (σ1 := A ++ (mp_cs s si sp f fi fp im hd kn wd ak ke cv vo so sz el ++ B)) (as := [mp_i v, mp_i 366]) (st := []) (st1 := [mp_i (if 0 ≤ v ∧ v < 366 then 1 else 0)]) dX11_judge_13 ssX11_54 (zX11_isBelow (v := v) (n := 366) (by first | with_reducible assumption | omega) (by first | with_reducible assumption | omega)) ⟨Nat.le_of_ble_eq_true rfl, Nat.le_of_ble_eq_true rfl, Nat.le_of_ble_eq_true rfl, Nat.le_of_ble_eq_true rfl, Nat.le_of_ble_eq_true rfl⟩ rfl rfl rfl rfl ?_
    refine mp_ifb_ne (tgt := 21) dX11_judge_16 rfl (fun h2 => ?_) (fun h2 => ?_)
    · refine mp_aload_n dX11_judge_21 rfl ?_
      refine mp_iload_n dX11_judge_22 rfl ?_
      have hsh3 := hsh d (by omega) (by omega)
      by_cases hr9 : hd d = 2
      · refine mp_invV (z := (mX11_rowOn, 0, 0, 0)) (K' := (0, 0)) (σ1 := A ++ (mp_cs s si sp f fi fp im hd kn wd ak ke cv vo so sz el ++ B)) (as := [mp_i d]) (st := []) (st1 := [Value.ref (28 + 2 * Int.toNat d)]) dX11_judge_23 svX11_58 (mp_lkP hA 0 rfl) rfl rfl (zX11_rowOn (d := d) (s := s) (si := si) (sp := sp) (f := f) (fi := fi) (fp := fp) (im := im) (hd := hd) (kn := kn) (wd := wd) (ak := ak) (ke := ke) (cv := cv) (vo := vo) (so := so) (sz := sz) (el := el) (B := B) (kk := kk) (kf := kf) (by first | with_reducible assumption | omega) (by first | with_reducible assumption | omega) (by first | with_reducible assumption | omega) (by first | with_reducible assumption | omega)) ⟨Nat.le_of_ble_eq_true rfl, Nat.le_of_ble_eq_true rfl, Nat.le_of_ble_eq_true rfl, Nat.le_of_ble_eq_true rfl, Nat.le_of_ble_eq_true rfl⟩ rfl rfl rfl rfl ?_
        refine mp_astore_n (L' := [some (Value.ref 1), some (mp_i d), some (mp_i v), some (Value.ref (28 + 2 * Int.toNat d)), none]) dX11_judge_26 rfl (by decide) rfl ?_
        refine mp_aload_n dX11_judge_27 rfl ?_
        refine mp_ifnonnull_r (tgt := 37) dX11_judge_28 rfl ?_
        refine mp_iconst dX11_judge_37 ?_
        refine mp_istore (L' := [some (Value.ref 1), some (mp_i d), some (mp_i v), some (Value.ref (28 + 2 * Int.toNat d)), some (mp_i 0)]) dX11_judge_38 (by decide) rfl ?_
        exact lX11_judge_40 (s := s) (si := si) (sp := sp) (f := f) (fi := fi) (fp := fp) (im := im) (hd := hd) (kn := kn) (wd := wd) (ak := ak) (ke := ke) (cv := cv) (vo := vo) (so := so) (sz := sz) (el := el) (B := B) (d := d) (v := v)  (by first | with_reducible assumption | omega) (by first | with_reducible assumption | omega) (by first | with_reducible assumption | omega) (by first | with_reducible assumption | omega) (by first | with_reducible assumption | omega) (by first | with_reducible assumption | omega) (by first | with_reducible assumption | omega) (Int.toNat (sz d)) 0 (by omega) (by unfold sp_judge; rw [if_neg (by omega), sp_wR_ok (by omega) hr9, if_neg (fun h => h rfl)])
      · refine mp_invV (z := (mX11_rowOn, 0, 0, 0)) (K' := (0, 0)) (σ1 := A ++ (mp_cs s si sp f fi fp im hd kn wd ak ke cv vo so sz el ++ B)) (as := [mp_i d]) (st := []) (st1 := [Value.null]) dX11_judge_23 svX11_58 (mp_lkP hA 0 rfl) rfl rfl (zX11_rowOnN (d := d) (s := s) (si := si) (sp := sp) (f := f) (fi := fi) (fp := fp) (im := im) (hd := hd) (kn := kn) (wd := wd) (ak := ak) (ke := ke) (cv := cv) (vo := vo) (so := so) (sz := sz) (el := el) (B := B) (kk := kk) (kf := kf) (by first | with_reducible assumption | omega) (by first | with_reducible assumption | omega) (by first | with_reducible assumption | omega) (by first | with_reducible assumption | omega)) ⟨Nat.le_of_ble_eq_true rfl, Nat.le_of_ble_eq_true rfl, Nat.le_of_ble_eq_true rfl, Nat.le_of_ble_eq_true rfl, Nat.le_of_ble_eq_true rfl⟩ rfl rfl rfl rfl ?_
        refine mp_astore_nN (L' := [some (Value.ref 1), some (mp_i d), some (mp_i v), some (Value.null), none]) dX11_judge_26 rfl (by decide) rfl ?_
        refine mp_aload_nN dX11_judge_27 rfl ?_
        refine mp_ifnonnull_n dX11_judge_28 ?_
        refine mp_aload_n dX11_judge_31 rfl ?_
        refine mp_iload_n dX11_judge_32 rfl ?_
        refine mp_invV (z := (mX11_whyNot, 0, 0, 0)) (K' := (0, 0)) (σ1 := A ++ (mp_cs s si sp f fi fp im hd kn wd ak ke cv vo so sz el ++ B)) (as := [mp_i d]) (st := []) (st1 := [mp_i (if hd d = 0 then -11 else -12)]) dX11_judge_33 svX11_62 (mp_lkP hA 0 rfl) rfl rfl (zX11_whyNot (d := d) (s := s) (si := si) (sp := sp) (f := f) (fi := fi) (fp := fp) (im := im) (hd := hd) (kn := kn) (wd := wd) (ak := ak) (ke := ke) (cv := cv) (vo := vo) (so := so) (sz := sz) (el := el) (B := B) (kk := kk) (kf := kf) (by first | with_reducible assumption | omega) (by first | with_reducible assumption | omega) (by first | with_reducible assumption | omega)) ⟨Nat.le_of_ble_eq_true rfl, Nat.le_of_ble_eq_true rfl, Nat.le_of_ble_eq_true rfl, Nat.le_of_ble_eq_true rfl, Nat.le_of_ble_eq_true rfl⟩ rfl rfl rfl rfl ?_
        exact mp_ireturn (st := []) dX11_judge_36 rfl ⟨by decide, by decide⟩ ((mp_ans (by unfold sp_judge; first | (rw [if_pos (by omega)]; done) | (rw [if_neg (by omega), sp_wR_no (by omega) hr9, if_pos sp_wK_nz]; done) | (by_cases hv9 : 0 ≤ v ∧ v ≤ 365; rw [if_neg (by omega), sp_wR_bad (by omega)]; rfl; rw [if_pos hv9]))))
    · refine mp_iconst dX11_judge_19 ?_
      exact mp_ireturn (st := []) dX11_judge_20 rfl ⟨by decide, by decide⟩ ((mp_ans (by unfold sp_judge; first | (rw [if_pos (by omega)]; done) | (rw [if_neg (by omega), sp_wR_no (by omega) hr9, if_pos sp_wK_nz]; done) | (by_cases hv9 : 0 ≤ v ∧ v ≤ 365; rw [if_neg (by omega), sp_wR_bad (by omega)]; rfl; rw [if_pos hv9]))))
theorem lX11_darkOnes_66 {s si sp : Int → Int} {f fi fp : Nat → Option Nat} {im : Int} {hd : Int → Int} {kn : Nat → Option Nat} {wd ak ke cv vo so sz el : Int → Int} {A B : mp_H} {kk kf : Int → Int} {d : Int} {w : Int} (hA : A.length = 1) (hs : mp_sky s) (hMt : mp_Mt (A ++ (mp_cs s si sp f fi fp im hd kn wd ak ke cv vo so sz el ++ B)) s f) (hsh : ∀ d, 0 ≤ d → d ≤ 7 → mp_shf hd kk kf so sz d) (hel : ∀ x, mp_w (el x)) (h_d : mp_w d) (h_w : mp_w w) {R9 : mp_An} : ∀ (n : Nat) (p : Int × Int) (t : Int), (((0 ≤ d ∧ d ≤ 7) ∧ sz d ≤ 31) ∧ (0 ≤ t ∧ t + (n : Nat) = sz d) ∧ (p.1 = -4 ∨ (0 ≤ p.1 ∧ p.1 < t)) ∧ (0 ≤ p.2 ∧ p.2 ≤ 8 * t) ∧ (∀ x, 0 ≤ x → x < sz d → 0 ≤ el (100 * d + x) ∧ el (100 * d + x) ≤ 99)) → mp_At (mX11_darkOnes, 3, 0, 0) (0, 0) 124 [some (Value.ref 1), some (mp_i d), some (mp_i w), none, some (mp_i ((mp_fold (sp_dkStep s el d) n t p).1)), some (mp_i ((mp_fold (sp_dkStep s el d) n t p).2)), none, none] [] (A ++ (mp_cs s si sp f fi fp im hd kn wd ak ke cv vo so sz el ++ B)) R9 → mp_At (mX11_darkOnes, 3, 0, 0) (0, 0) 66 [some (Value.ref 1), some (mp_i d), some (mp_i w), some (Value.ref (28 + 2 * Int.toNat d)), some (mp_i p.1), some (mp_i p.2), some (mp_i t), none] [] (A ++ (mp_cs s si sp f fi fp im hd kn wd ak ke cv vo so sz el ++ B)) R9 := by
  intro n
  induction n with
  | zero =>
    intro p t hi hk
    have hz0 := hs.1
    have hdd : 0 ≤ d ∧ d ≤ 7 := hi.1.1
    have hsh9 := hsh d hdd.1 hdd.2
    refine mp_iload dX11_darkOnes_66 rfl ?_
    refine mp_aload_n dX11_darkOnes_68 rfl ?_
    refine mp_getfield dX11_darkOnes_69 fsX11_80_9 (mp_csR0 hA (d := d) ⟨by omega, by omega⟩) rfl ?_
    refine mp_icmp_ge (tgt := 124) dX11_darkOnes_72 rfl ⟨by omega, by omega⟩ ⟨by omega, by omega⟩ (fun h1 => ?_) (fun h1 => ?_)
    · refine mp_drop (L' := [some (Value.ref 1), some (mp_i d), some (mp_i w), none, some (mp_i p.1), some (mp_i p.2), none, none]) [true, true, true, false, true, true, false, false] rfl ?_
      exact hk
    · exfalso; omega
  | succ n ih =>
    intro p t hi hk
    have hz0 := hs.1
    have hdd : 0 ≤ d ∧ d ≤ 7 := hi.1.1
    have hsh9 := hsh d hdd.1 hdd.2
    have hni := mp_nightOf_bd hs t
    have hex := hi.2.2.2.2 t (by omega) (by omega)
    refine mp_iload dX11_darkOnes_66 rfl ?_
    refine mp_aload_n dX11_darkOnes_68 rfl ?_
    refine mp_getfield dX11_darkOnes_69 fsX11_80_9 (mp_csR0 hA (d := d) ⟨by omega, by omega⟩) rfl ?_
    refine mp_icmp_ge (tgt := 124) dX11_darkOnes_72 rfl ⟨by omega, by omega⟩ ⟨by omega, by omega⟩ (fun h1 => ?_) (fun h1 => ?_)
    · exfalso; omega
    · refine mp_aload_n dX11_darkOnes_75 rfl ?_
      refine mp_iload dX11_darkOnes_76 rfl ?_
      refine mp_invV (z := (mX11_meteorsOf, 1, 0, 0)) (K' := (0, 0)) (σ1 := A ++ (mp_cs s si sp f fi fp im hd kn wd ak ke cv vo so sz el ++ B)) (as := [mp_i t]) (st := []) (st1 := [mp_i (sp_nightOf s t)]) dX11_darkOnes_78 svX11_275 (mp_lkP hA 0 rfl) rfl rfl (zX11_meteorsOf (x := t) (s := s) (si := si) (sp := sp) (f := f) (fi := fi) (fp := fp) (im := im) (hd := hd) (kn := kn) (wd := wd) (ak := ak) (ke := ke) (cv := cv) (vo := vo) (so := so) (sz := sz) (el := el) (B := B) (by first | with_reducible assumption | omega) (by first | with_reducible assumption | omega) (hMt.mono hs.kd mp_stay_cs) (by first | with_reducible assumption | omega)) ⟨Nat.le_of_ble_eq_true rfl, Nat.le_of_ble_eq_true rfl, Nat.le_of_ble_eq_true rfl, Nat.le_of_ble_eq_true rfl, Nat.le_of_ble_eq_true rfl⟩ rfl rfl rfl rfl ?_
      refine mp_aload_n dX11_darkOnes_81 rfl ?_
      refine mp_iload dX11_darkOnes_82 rfl ?_
      refine mp_invV (z := (mX5_at, 1, 0, 0)) (K' := (0, 0)) (σ1 := A ++ (mp_cs s si sp f fi fp im hd kn wd ak ke cv vo so sz el ++ B)) (as := [mp_i t]) (st := [mp_i (sp_nightOf s t)]) (st1 := [mp_i (if 0 ≤ t ∧ t < (sz d) then (sp_elm el d) t else 0), mp_i (sp_nightOf s t)]) dX11_darkOnes_84 svX11_87 (mp_csR0 hA (d := d) ⟨by omega, by omega⟩) rfl rfl (zX5_at (r := (28 + 2 * Int.toNat d)) (i := t) (q := (28 + 2 * Int.toNat d + 1)) (o := (so d)) (z := (sz d)) (e := (sp_elm el d)) (mp_csR0 hA (d := d) ⟨by omega, by omega⟩) (mp_csR1 hA (d := d) ⟨by omega, by omega⟩) (by first | with_reducible assumption | omega) (by first | with_reducible assumption | omega)) ⟨Nat.le_of_ble_eq_true rfl, Nat.le_of_ble_eq_true rfl, Nat.le_of_ble_eq_true rfl, Nat.le_of_ble_eq_true rfl, Nat.le_of_ble_eq_true rfl⟩ rfl rfl rfl rfl ?_
      refine mp_top (y := el (100 * d + t)) ((if_pos (by omega)).trans (sp_elm_in (by omega))) ?_
      have hel2 := hel (100 * d + t)
      refine mp_isub (z := (sp_nightOf s t) - (el (100 * d + t))) dX11_darkOnes_87 (by first | rfl | omega) ?_
      refine mp_istore (L' := [some (Value.ref 1), some (mp_i d), some (mp_i w), some (Value.ref (28 + 2 * Int.toNat d)), some (mp_i p.1), some (mp_i p.2), some (mp_i t), some (mp_i ((sp_nightOf s t) - (el (100 * d + t))))]) dX11_darkOnes_88 (by decide) rfl ?_
      refine mp_iload dX11_darkOnes_90 rfl ?_
      refine mp_if_le (tgt := 118) dX11_darkOnes_92 rfl ⟨by omega, by omega⟩ (fun h3 => ?_) (fun h3 => ?_)
      · refine mp_iinc (z := t + 1) (L' := [some (Value.ref 1), some (mp_i d), some (mp_i w), some (Value.ref (28 + 2 * Int.toNat d)), some (mp_i p.1), some (mp_i p.2), some (mp_i (t + 1)), some (mp_i ((sp_nightOf s t) - (el (100 * d + t))))]) dX11_darkOnes_118 rfl (rfl) (by decide) rfl ?_
        refine mp_goto (tgt := 66) dX11_darkOnes_121 rfl ?_
        refine mp_drop (L' := [some (Value.ref 1), some (mp_i d), some (mp_i w), some (Value.ref (28 + 2 * Int.toNat d)), some (mp_i p.1), some (mp_i p.2), some (mp_i (t + 1)), none]) [true, true, true, true, true, true, true, false] rfl ?_
        have e9 : (sp_dkStep s el d) t p = p := by unfold sp_dkStep; first | (rw [if_pos (by omega)]; done) | (rw [if_neg (by omega), if_pos (by omega)]; done) | (rw [if_neg (by omega), if_neg (by omega)]; done)
        have k9 := ih ((sp_dkStep s el d) t p) (t + 1) (by rw [e9]; exact ⟨by omega, by omega, by first | omega | (dsimp only; omega), by first | omega | (dsimp only; omega), hi.2.2.2.2⟩) hk
        rw [e9] at k9
        exact k9
      · refine mp_iload dX11_darkOnes_95 rfl ?_
        refine mp_iload dX11_darkOnes_97 rfl ?_
        refine mp_iadd (z := p.2 + ((sp_nightOf s t) - (el (100 * d + t)))) dX11_darkOnes_99 (by first | rfl | omega) ?_
        refine mp_istore (L' := [some (Value.ref 1), some (mp_i d), some (mp_i w), some (Value.ref (28 + 2 * Int.toNat d)), some (mp_i p.1), some (mp_i (p.2 + ((sp_nightOf s t) - (el (100 * d + t))))), some (mp_i t), some (mp_i ((sp_nightOf s t) - (el (100 * d + t))))]) dX11_darkOnes_100 (by decide) rfl ?_
        refine mp_iload dX11_darkOnes_102 rfl ?_
        refine mp_bipush dX11_darkOnes_104 rfl ?_
        refine mp_icmp_ne (tgt := 114) dX11_darkOnes_106 rfl ⟨by omega, by omega⟩ ⟨by omega, by omega⟩ (fun h4 => ?_) (fun h4 => ?_)
        · refine mp_iload dX11_darkOnes_114 rfl ?_
          refine mp_istore (L' := [some (Value.ref 1), some (mp_i d), some (mp_i w), some (Value.ref (28 + 2 * Int.toNat d)), some (mp_i p.1), some (mp_i (p.2 + ((sp_nightOf s t) - (el (100 * d + t))))), some (mp_i t), some (mp_i ((sp_nightOf s t) - (el (100 * d + t))))]) dX11_darkOnes_116 (by decide) rfl ?_
          refine mp_iinc (z := t + 1) (L' := [some (Value.ref 1), some (mp_i d), some (mp_i w), some (Value.ref (28 + 2 * Int.toNat d)), some (mp_i p.1), some (mp_i (p.2 + ((sp_nightOf s t) - (el (100 * d + t))))), some (mp_i (t + 1)), some (mp_i ((sp_nightOf s t) - (el (100 * d + t))))]) dX11_darkOnes_118 rfl (rfl) (by decide) rfl ?_
          refine mp_goto (tgt := 66) dX11_darkOnes_121 rfl ?_
          refine mp_drop (L' := [some (Value.ref 1), some (mp_i d), some (mp_i w), some (Value.ref (28 + 2 * Int.toNat d)), some (mp_i p.1), some (mp_i (p.2 + ((sp_nightOf s t) - (el (100 * d + t))))), some (mp_i (t + 1)), none]) [true, true, true, true, true, true, true, false] rfl ?_
          have e9 : (sp_dkStep s el d) t p = (p.1, p.2 + ((sp_nightOf s t) - (el (100 * d + t)))) := by unfold sp_dkStep; first | (rw [if_pos (by omega)]; done) | (rw [if_neg (by omega), if_pos (by omega)]; done) | (rw [if_neg (by omega), if_neg (by omega)]; done)
          have k9 := ih ((sp_dkStep s el d) t p) (t + 1) (by rw [e9]; exact ⟨by omega, by omega, by first | omega | (dsimp only; omega), by first | omega | (dsimp only; omega), hi.2.2.2.2⟩) hk
          rw [e9] at k9
          exact k9
        · refine mp_iload dX11_darkOnes_109 rfl ?_
          refine mp_goto (tgt := 116) dX11_darkOnes_111 rfl ?_
          refine mp_istore (L' := [some (Value.ref 1), some (mp_i d), some (mp_i w), some (Value.ref (28 + 2 * Int.toNat d)), some (mp_i t), some (mp_i (p.2 + ((sp_nightOf s t) - (el (100 * d + t))))), some (mp_i t), some (mp_i ((sp_nightOf s t) - (el (100 * d + t))))]) dX11_darkOnes_116 (by decide) rfl ?_
          refine mp_iinc (z := t + 1) (L' := [some (Value.ref 1), some (mp_i d), some (mp_i w), some (Value.ref (28 + 2 * Int.toNat d)), some (mp_i t), some (mp_i (p.2 + ((sp_nightOf s t) - (el (100 * d + t))))), some (mp_i (t + 1)), some (mp_i ((sp_nightOf s t) - (el (100 * d + t))))]) dX11_darkOnes_118 rfl (rfl) (by decide) rfl ?_
          refine mp_goto (tgt := 66) dX11_darkOnes_121 rfl ?_
          refine mp_drop (L' := [some (Value.ref 1), some (mp_i d), some (mp_i w), some (Value.ref (28 + 2 * Int.toNat d)), some (mp_i t), some (mp_i (p.2 + ((sp_nightOf s t) - (el (100 * d + t))))), some (mp_i (t + 1)), none]) [true, true, true, true, true, true, true, false] rfl ?_
          have e9 : (sp_dkStep s el d) t p = (t, p.2 + ((sp_nightOf s t) - (el (100 * d + t)))) := by unfold sp_dkStep; first | (rw [if_pos (by omega)]; done) | (rw [if_neg (by omega), if_pos (by omega)]; done) | (rw [if_neg (by omega), if_neg (by omega)]; done)
          have k9 := ih ((sp_dkStep s el d) t p) (t + 1) (by rw [e9]; exact ⟨by omega, by omega, by first | omega | (dsimp only; omega), by first | omega | (dsimp only; omega), hi.2.2.2.2⟩) hk
          rw [e9] at k9
          exact k9
theorem zX11_darkOnes {s si sp : Int → Int} {f fi fp : Nat → Option Nat} {im : Int} {hd : Int → Int} {kn : Nat → Option Nat} {wd ak ke cv vo so sz el : Int → Int} {A B : mp_H} {kk kf : Int → Int} {d : Int} {w : Int} (hA : A.length = 1) (hs : mp_sky s) (hMt : mp_Mt (A ++ (mp_cs s si sp f fi fp im hd kn wd ak ke cv vo so sz el ++ B)) s f) (hsh : ∀ d, 0 ≤ d → d ≤ 7 → mp_shf hd kk kf so sz d) (hel : ∀ x, mp_w (el x)) (h_d : mp_w d) (h_w : mp_w w) : mp_Call (mX11_darkOnes, 3, 0, 0) [Value.ref 1, mp_i d, mp_i w] (A ++ (mp_cs s si sp f fi fp im hd kn wd ak ke cv vo so sz el ++ B)) (some (mp_i (sp_darkOnes s hd so sz el d w)), A ++ (mp_cs s si sp f fi fp im hd kn wd ak ke cv vo so sz el ++ B)) := by
  refine mp_Call.of (L := [some (Value.ref 1), some (mp_i d), some (mp_i w), none, none, none, none, none]) pnX11 (Nat.le_of_ble_eq_true rfl) rfl ?_
  have hz0 := hs.1
  refine mp_iload_n dX11_darkOnes_0 rfl ?_
  refine mp_bipush dX11_darkOnes_1 rfl ?_
  refine mp_invS (z := (mX11_isBelow, 0, 0, 0)) (K' := (0, 0)) (σ1 := A ++ (mp_cs s si sp f fi fp im hd kn wd ak ke cv vo so sz el ++ B)) (as := [mp_i d, mp_i 8]) (st := []) (st1 := [mp_i (if 0 ≤ d ∧ d < 8 then 1 else 0)]) dX11_darkOnes_3 ssX11_54 (zX11_isBelow (v := d) (n := 8) (by first | with_reducible assumption | omega) (by first | with_reducible assumption | omega)) ⟨Nat.le_of_ble_eq_true rfl, Nat.le_of_ble_eq_true rfl, Nat.le_of_ble_eq_true rfl, Nat.le_of_ble_eq_true rfl, Nat.le_of_ble_eq_true rfl⟩ rfl rfl rfl rfl ?_
  refine mp_ifb_eq (tgt := 17) dX11_darkOnes_6 rfl (fun h1 => ?_) (fun h1 => ?_)
  · refine mp_iconst dX11_darkOnes_17 ?_
    exact mp_ireturn (st := []) dX11_darkOnes_18 rfl ⟨by decide, by decide⟩ ((mp_ans (by exact sp_dark_bad (by omega))))
  · refine mp_iload_n dX11_darkOnes_9 rfl ?_
    refine mp_iconst dX11_darkOnes_10 ?_
    refine mp_invS (z := (mX11_isBelow, 0, 0, 0)) (K' := (0, 0)) (σ1 := A ++ (mp_cs s si sp f fi fp im hd kn wd ak ke cv vo so sz el ++ B)) (as := [mp_i w, mp_i 2]) (st := []) (st1 := [mp_i (if 0 ≤ w ∧ w < 2 then 1 else 0)]) dX11_darkOnes_11 ssX11_54 (zX11_isBelow (v := w) (n := 2) (by first | with_reducible assumption | omega) (by first | with_reducible assumption | omega)) ⟨Nat.le_of_ble_eq_true rfl, Nat.le_of_ble_eq_true rfl, Nat.le_of_ble_eq_true rfl, Nat.le_of_ble_eq_true rfl, Nat.le_of_ble_eq_true rfl⟩ rfl rfl rfl rfl ?_
    refine mp_ifb_ne (tgt := 19) dX11_darkOnes_14 rfl (fun h2 => ?_) (fun h2 => ?_)
    · refine mp_aload_n dX11_darkOnes_19 rfl ?_
      refine mp_iload_n dX11_darkOnes_20 rfl ?_
      have hsh3 := hsh d (by omega) (by omega)
      by_cases hr9 : hd d = 2
      · refine mp_invV (z := (mX11_rowOn, 0, 0, 0)) (K' := (0, 0)) (σ1 := A ++ (mp_cs s si sp f fi fp im hd kn wd ak ke cv vo so sz el ++ B)) (as := [mp_i d]) (st := []) (st1 := [Value.ref (28 + 2 * Int.toNat d)]) dX11_darkOnes_21 svX11_58 (mp_lkP hA 0 rfl) rfl rfl (zX11_rowOn (d := d) (s := s) (si := si) (sp := sp) (f := f) (fi := fi) (fp := fp) (im := im) (hd := hd) (kn := kn) (wd := wd) (ak := ak) (ke := ke) (cv := cv) (vo := vo) (so := so) (sz := sz) (el := el) (B := B) (kk := kk) (kf := kf) (by first | with_reducible assumption | omega) (by first | with_reducible assumption | omega) (by first | with_reducible assumption | omega) (by first | with_reducible assumption | omega)) ⟨Nat.le_of_ble_eq_true rfl, Nat.le_of_ble_eq_true rfl, Nat.le_of_ble_eq_true rfl, Nat.le_of_ble_eq_true rfl, Nat.le_of_ble_eq_true rfl⟩ rfl rfl rfl rfl ?_
        refine mp_astore_n (L' := [some (Value.ref 1), some (mp_i d), some (mp_i w), some (Value.ref (28 + 2 * Int.toNat d)), none, none, none, none]) dX11_darkOnes_24 rfl (by decide) rfl ?_
        refine mp_aload_n dX11_darkOnes_25 rfl ?_
        refine mp_ifnonnull_r (tgt := 35) dX11_darkOnes_26 rfl ?_
        refine mp_aload_n dX11_darkOnes_35 rfl ?_
        refine mp_getfield dX11_darkOnes_36 fsX11_80_9 (mp_csR0 hA (d := d) ⟨by omega, by omega⟩) rfl ?_
        refine mp_bipush dX11_darkOnes_39 rfl ?_
        refine mp_icmp_gt (tgt := 53) dX11_darkOnes_41 rfl ⟨by omega, by omega⟩ ⟨by omega, by omega⟩ (fun h4 => ?_) (fun h4 => ?_)
        · refine mp_bipush dX11_darkOnes_53 rfl ?_
          exact mp_ireturn (st := []) dX11_darkOnes_55 rfl ⟨by decide, by decide⟩ ((mp_ans (by exact sp_dark_13 (by omega) (by omega) hr9 (by have h01 := sc_all_01 (sp_elm el d) 100 (sz d).toNat 0; omega) (by omega))))
        · refine mp_aload_n dX11_darkOnes_44 rfl ?_
          refine mp_bipush dX11_darkOnes_45 rfl ?_
          refine mp_invV (z := (mX5_isAllBelow, 2, 0, 0)) (K' := (0, 0)) (σ1 := A ++ (mp_cs s si sp f fi fp im hd kn wd ak ke cv vo so sz el ++ B)) (as := [mp_i 100]) (st := []) (st1 := [mp_i (sc_all (sp_elm el d) 100 (Int.toNat (sz d)) 0)]) dX11_darkOnes_47 svX11_272 (mp_csR0 hA (d := d) ⟨by omega, by omega⟩) rfl rfl (zX5_isAllBelow (r := (28 + 2 * Int.toNat d)) (m := 100) (q := (28 + 2 * Int.toNat d + 1)) (o := (so d)) (z := (sz d)) (e := (sp_elm el d)) (mp_csR0 hA (d := d) ⟨by omega, by omega⟩) (mp_csR1 hA (d := d) ⟨by omega, by omega⟩) (by first | with_reducible assumption | omega) (by first | with_reducible assumption | omega) (fun x => mp_elm_w hel x)) ⟨Nat.le_of_ble_eq_true rfl, Nat.le_of_ble_eq_true rfl, Nat.le_of_ble_eq_true rfl, Nat.le_of_ble_eq_true rfl, Nat.le_of_ble_eq_true rfl⟩ rfl rfl rfl rfl ?_
          have h01 := sc_all_01 (sp_elm el d) 100 (sz d).toNat 0
          refine mp_if_ne (tgt := 56) dX11_darkOnes_50 rfl ⟨by omega, by omega⟩ (fun h5 => ?_) (fun h5 => ?_)
          · refine mp_bipush dX11_darkOnes_56 rfl ?_
            refine mp_istore (L' := [some (Value.ref 1), some (mp_i d), some (mp_i w), some (Value.ref (28 + 2 * Int.toNat d)), some (mp_i (-4)), none, none, none]) dX11_darkOnes_58 (by decide) rfl ?_
            refine mp_iconst dX11_darkOnes_60 ?_
            refine mp_istore (L' := [some (Value.ref 1), some (mp_i d), some (mp_i w), some (Value.ref (28 + 2 * Int.toNat d)), some (mp_i (-4)), some (mp_i 0), none, none]) dX11_darkOnes_61 (by decide) rfl ?_
            refine mp_iconst dX11_darkOnes_63 ?_
            refine mp_istore (L' := [some (Value.ref 1), some (mp_i d), some (mp_i w), some (Value.ref (28 + 2 * Int.toNat d)), some (mp_i (-4)), some (mp_i 0), some (mp_i 0), none]) dX11_darkOnes_64 (by decide) rfl ?_
            have hdk0 : sp_dkN el d (sz d).toNat 0 = 0 := (sc_all_dk el d _ 0 (by omega) (by omega)).mp (by have := sc_all_01 (sp_elm el d) 100 (sz d).toNat 0; omega)
            have hdk1 : ∀ x, 0 ≤ x → x < sz d → 0 ≤ el (100 * d + x) ∧ el (100 * d + x) ≤ 99 := fun x h0 h1 => mp_dkN_ok el d _ 0 hdk0 x h0 (by omega)
            refine lX11_darkOnes_66 (s := s) (si := si) (sp := sp) (f := f) (fi := fi) (fp := fp) (im := im) (hd := hd) (kn := kn) (wd := wd) (ak := ak) (ke := ke) (cv := cv) (vo := vo) (so := so) (sz := sz) (el := el) (B := B) (kk := kk) (kf := kf) (d := d) (w := w) hA hs hMt hsh hel h_d h_w (Int.toNat (sz d)) (-4, 0) 0 ⟨by omega, by omega, Or.inl rfl, by dsimp only; omega, hdk1⟩ ?_
            refine mp_iload_n dX11_darkOnes_124 rfl ?_
            refine mp_if_ne (tgt := 133) dX11_darkOnes_125 rfl ⟨by omega, by omega⟩ (fun h6 => ?_) (fun h6 => ?_)
            · refine mp_iload dX11_darkOnes_133 rfl ?_
              exact mp_ireturn (st := []) dX11_darkOnes_135 rfl ⟨by decide, by decide⟩ ((mp_ans (by unfold sp_darkOnes; rw [if_neg (by omega), if_neg (c := sp_dkBad hd so sz el d ≠ 0) (by unfold sp_dkBad; rw [sp_wR_ok (by omega) hr9, if_neg (fun h => h rfl), if_neg (by omega), hdk0]; exact fun h => h rfl)]; first | (rw [if_pos (by omega)]; rfl) | (rw [if_neg (by omega)]; rfl))))
            · refine mp_iload dX11_darkOnes_128 rfl ?_
              refine mp_goto (tgt := 135) dX11_darkOnes_130 rfl ?_
              exact mp_ireturn (st := []) dX11_darkOnes_135 rfl ⟨by decide, by decide⟩ ((mp_ans (by unfold sp_darkOnes; rw [if_neg (by omega), if_neg (c := sp_dkBad hd so sz el d ≠ 0) (by unfold sp_dkBad; rw [sp_wR_ok (by omega) hr9, if_neg (fun h => h rfl), if_neg (by omega), hdk0]; exact fun h => h rfl)]; first | (rw [if_pos (by omega)]; rfl) | (rw [if_neg (by omega)]; rfl))))
          · refine mp_bipush dX11_darkOnes_53 rfl ?_
            exact mp_ireturn (st := []) dX11_darkOnes_55 rfl ⟨by decide, by decide⟩ ((mp_ans (by exact sp_dark_13 (by omega) (by omega) hr9 (by have h01 := sc_all_01 (sp_elm el d) 100 (sz d).toNat 0; omega) (by omega))))
      · refine mp_invV (z := (mX11_rowOn, 0, 0, 0)) (K' := (0, 0)) (σ1 := A ++ (mp_cs s si sp f fi fp im hd kn wd ak ke cv vo so sz el ++ B)) (as := [mp_i d]) (st := []) (st1 := [Value.null]) dX11_darkOnes_21 svX11_58 (mp_lkP hA 0 rfl) rfl rfl (zX11_rowOnN (d := d) (s := s) (si := si) (sp := sp) (f := f) (fi := fi) (fp := fp) (im := im) (hd := hd) (kn := kn) (wd := wd) (ak := ak) (ke := ke) (cv := cv) (vo := vo) (so := so) (sz := sz) (el := el) (B := B) (kk := kk) (kf := kf) (by first | with_reducible assumption | omega) (by first | with_reducible assumption | omega) (by first | with_reducible assumption | omega) (by first | with_reducible assumption | omega)) ⟨Nat.le_of_ble_eq_true rfl, Nat.le_of_ble_eq_true rfl, Nat.le_of_ble_eq_true rfl, Nat.le_of_ble_eq_true rfl, Nat.le_of_ble_eq_true rfl⟩ rfl rfl rfl rfl ?_
        refine mp_astore_nN (L' := [some (Value.ref 1), some (mp_i d), some (mp_i w), some (Value.null), none, none, none, none]) dX11_darkOnes_24 rfl (by decide) rfl ?_
        refine mp_aload_nN dX11_darkOnes_25 rfl ?_
        refine mp_ifnonnull_n dX11_darkOnes_26 ?_
        refine mp_aload_n dX11_darkOnes_29 rfl ?_
        refine mp_iload_n dX11_darkOnes_30 rfl ?_
        refine mp_invV (z := (mX11_whyNot, 0, 0, 0)) (K' := (0, 0)) (σ1 := A ++ (mp_cs s si sp f fi fp im hd kn wd ak ke cv vo so sz el ++ B)) (as := [mp_i d]) (st := []) (st1 := [mp_i (if hd d = 0 then -11 else -12)]) dX11_darkOnes_31 svX11_62 (mp_lkP hA 0 rfl) rfl rfl (zX11_whyNot (d := d) (s := s) (si := si) (sp := sp) (f := f) (fi := fi) (fp := fp) (im := im) (hd := hd) (kn := kn) (wd := wd) (ak := ak) (ke := ke) (cv := cv) (vo := vo) (so := so) (sz := sz) (el := el) (B := B) (kk := kk) (kf := kf) (by first | with_reducible assumption | omega) (by first | with_reducible assumption | omega) (by first | with_reducible assumption | omega)) ⟨Nat.le_of_ble_eq_true rfl, Nat.le_of_ble_eq_true rfl, Nat.le_of_ble_eq_true rfl, Nat.le_of_ble_eq_true rfl, Nat.le_of_ble_eq_true rfl⟩ rfl rfl rfl rfl ?_
        exact mp_ireturn (st := []) dX11_darkOnes_34 rfl ⟨by decide, by decide⟩ ((mp_ans (by exact sp_dark_no (by omega) (by omega) hr9)))
    · refine mp_iconst dX11_darkOnes_17 ?_
      exact mp_ireturn (st := []) dX11_darkOnes_18 rfl ⟨by decide, by decide⟩ ((mp_ans (by exact sp_dark_bad (by omega))))
