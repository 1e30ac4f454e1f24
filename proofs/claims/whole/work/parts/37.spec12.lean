/-! ===== who is wed to whom, as it is asked ===== -/
theorem mp_b_test (a k : Int) : sp_b a k = if a.toNat.testBit k.toNat then 1 else 0 := by
  unfold sp_b mp_and mp_shr
  rw [Int.toNat_natCast, show (1 : Int).toNat = 1 from rfl, Nat.and_one_is_mod]
  have : a.toNat.testBit k.toNat = decide (a.toNat >>> k.toNat % 2 = 1) := by
    rw [Nat.testBit, Nat.one_and_eq_mod_two]
    rcases Nat.mod_two_eq_zero_or_one (a.toNat >>> k.toNat) with h | h <;> rw [h] <;> rfl
  rw [this]
  rcases Nat.mod_two_eq_zero_or_one (a.toNat >>> k.toNat) with h | h <;> rw [h] <;> rfl
theorem mp_or_gt {a k : Int} (ha : 0 ≤ a) (h : sp_b a k ≠ 1) : a < mp_or a (mp_bit k) := by
  rw [mp_b_test] at h
  have h1 : a.toNat.testBit k.toNat = false := by
    cases e : a.toNat.testBit k.toNat with
    | false => rfl
    | true => rw [e] at h; exact absurd rfl h
  unfold mp_or mp_bit
  rw [Int.toNat_natCast, Nat.one_shiftLeft]
  have h2 : a.toNat ≤ a.toNat ||| 2 ^ k.toNat := Nat.left_le_or
  have h3 : a.toNat ≠ a.toNat ||| 2 ^ k.toNat := fun e => by
    have : (a.toNat ||| 2 ^ k.toNat).testBit k.toNat = true := by rw [Nat.testBit_or, Nat.testBit_two_pow_self]; simp
    rw [← e, h1] at this
    exact absurd this (by decide)
  omega
theorem mp_next1_bd {s : Int → Int} (hs : mp_sky s) (ask : Int → Int) (l : Int) : sp_next1 s ask l = -4 ∨ (0 ≤ sp_next1 s ask l ∧ sp_next1 s ask l < s 0 ∧ sp_b (ask l) (sp_next1 s ask l) ≠ 1 ∧ 0 ≤ sp_yesOf s l (sp_next1 s ask l)) := by
  have h0 := hs.1
  have := mp_fold_inv_lt (f := sp_askStep s ask l) (fun i a => 0 ≤ i ∧ (a = -4 ∨ (0 ≤ a ∧ a < s 0 ∧ sp_b (ask l) a ≠ 1 ∧ 0 ≤ sp_yesOf s l a))) (s 0) (fun i a hi h => by
    refine ⟨by omega, ?_⟩
    unfold sp_askStep
    split
    · exact h.2
    · rename_i h1
      split
      · exact Or.inr ⟨by omega, by omega, by omega, by omega⟩
      · exact h.2) (s 0).toNat 0 (-4) (by omega) ⟨by decide, Or.inl rfl⟩
  exact this.2
def sp_wIn (s : Int → Int) : Nat → Int → Int → (Int → Int) → (Int → Int) → (Int → Int) × (Int → Int)
  | 0, _, _, q, z => (q, z)
  | n + 1, w, k, q, z => if k < 0 then (q, z) else if q k < 0 ∨ sp_rather s k w (q k) ≠ 0 then sp_wIn s n (q k) (if q k < 0 then -4 else sp_next1 s (mp_ud z w (mp_or (z w) (mp_bit k))) (q k)) (mp_ud q k w) (mp_ud z w (mp_or (z w) (mp_bit k))) else sp_wIn s n w (sp_next1 s (mp_ud z w (mp_or (z w) (mp_bit k))) w) q (mp_ud z w (mp_or (z w) (mp_bit k)))
theorem mp_wIn_end {s q z : Int → Int} {w k : Int} (h : k < 0) : ∀ n, sp_wIn s n w k q z = (q, z)
  | 0 => rfl
  | _ + 1 => if_pos h
theorem mp_wIn_sw {s q z : Int → Int} {w k : Int} {n : Nat} (h : ¬ k < 0) (h1 : q k < 0 ∨ sp_rather s k w (q k) ≠ 0) : sp_wIn s (n + 1) w k q z = sp_wIn s n (q k) (if q k < 0 then -4 else sp_next1 s (mp_ud z w (mp_or (z w) (mp_bit k))) (q k)) (mp_ud q k w) (mp_ud z w (mp_or (z w) (mp_bit k))) := (if_neg h).trans (if_pos h1)
theorem mp_wIn_st {s q z : Int → Int} {w k : Int} {n : Nat} (h : ¬ k < 0) (h1 : ¬ (q k < 0 ∨ sp_rather s k w (q k) ≠ 0)) : sp_wIn s (n + 1) w k q z = sp_wIn s n w (sp_next1 s (mp_ud z w (mp_or (z w) (mp_bit k))) w) q (mp_ud z w (mp_or (z w) (mp_bit k))) := (if_neg h).trans (if_neg h1)
def sp_wOut (s : Int → Int) (l : Int) (p : (Int → Int) × (Int → Int)) : (Int → Int) × (Int → Int) := sp_wIn s 1276 l (sp_next1 s p.2 l) p.1 p.2
def sp_weds (s : Int → Int) : (Int → Int) × (Int → Int) := mp_fold (sp_wOut s) 5 0 ((fun _ => -4), (fun _ => 0))
abbrev mp_pok (q : Int → Int) : Prop := ∀ k, 0 ≤ k → k ≤ 7 → q k = -4 ∨ (0 ≤ q k ∧ q k ≤ 4)
abbrev mp_aok (z : Int → Int) : Prop := ∀ l, 0 ≤ l → l ≤ 4 → 0 ≤ z l ∧ z l < 256
theorem mp_pok_ud {q : Int → Int} {k w : Int} (h : mp_pok q) (hw : 0 ≤ w ∧ w ≤ 4) : mp_pok (mp_ud q k w) := by
  intro j h1 h2
  by_cases e : j = k
  · subst e; rw [mp_ud_eq]; exact Or.inr hw
  · rw [mp_ud_ne e]; exact h j h1 h2
theorem mp_aok_ud {z : Int → Int} {l x : Int} (h : mp_aok z) (hx : 0 ≤ x ∧ x < 256) : mp_aok (mp_ud z l x) := by
  intro j h1 h2
  by_cases e : j = l
  · subst e; rw [mp_ud_eq]; exact hx
  · rw [mp_ud_ne e]; exact h j h1 h2
theorem mp_sum_ud {z : Int → Int} {w x : Int} (hw : 0 ≤ w ∧ w ≤ 4) : mp_ud z w x 0 + mp_ud z w x 1 + mp_ud z w x 2 + mp_ud z w x 3 + mp_ud z w x 4 = z 0 + z 1 + z 2 + z 3 + z 4 + x - z w := by
  have : w = 0 ∨ w = 1 ∨ w = 2 ∨ w = 3 ∨ w = 4 := by omega
  unfold mp_ud
  rcases this with rfl | rfl | rfl | rfl | rfl
  · rw [if_pos rfl, if_neg (by decide), if_neg (by decide), if_neg (by decide), if_neg (by decide)]; omega
  · rw [if_neg (by decide), if_pos rfl, if_neg (by decide), if_neg (by decide), if_neg (by decide)]; omega
  · rw [if_neg (by decide), if_neg (by decide), if_pos rfl, if_neg (by decide), if_neg (by decide)]; omega
  · rw [if_neg (by decide), if_neg (by decide), if_neg (by decide), if_pos rfl, if_neg (by decide)]; omega
  · rw [if_neg (by decide), if_neg (by decide), if_neg (by decide), if_neg (by decide), if_pos rfl]; omega
theorem mp_aok_sum {z : Int → Int} (h : mp_aok z) : 0 ≤ z 0 + z 1 + z 2 + z 3 + z 4 ∧ z 0 + z 1 + z 2 + z 3 + z 4 ≤ 1275 := by
  have h0 := h 0 (by decide) (by decide)
  have h1 := h 1 (by decide) (by decide)
  have h2 := h 2 (by decide) (by decide)
  have h3 := h 3 (by decide) (by decide)
  have h4 := h 4 (by decide) (by decide)
  omega
/-- a state of the asking: w asks k next, or nobody does -/
abbrev mp_wst (s q z : Int → Int) (w k : Int) : Prop := mp_pok q ∧ mp_aok z ∧ (k = -4 ∨ ((0 ≤ k ∧ k < s 0) ∧ (0 ≤ w ∧ w ≤ 4) ∧ sp_b (z w) k ≠ 1))
theorem mp_wst_next {s q z : Int → Int} {w : Int} (hs : mp_sky s) (hq : mp_pok q) (hz : mp_aok z) (hw : 0 ≤ w ∧ w ≤ 4) : mp_wst s q z w (sp_next1 s z w) := by
  refine ⟨hq, hz, ?_⟩
  rcases mp_next1_bd hs z w with h | h
  · exact Or.inl h
  · exact Or.inr ⟨⟨h.1, h.2.1⟩, hw, h.2.2.1⟩
theorem mp_wst_ask {s q z : Int → Int} {w k : Int} (hs : mp_sky s) (h : mp_wst s q z w k) (hk : ¬ k < 0) : mp_aok (mp_ud z w (mp_or (z w) (mp_bit k))) ∧ z 0 + z 1 + z 2 + z 3 + z 4 < mp_ud z w (mp_or (z w) (mp_bit k)) 0 + mp_ud z w (mp_or (z w) (mp_bit k)) 1 + mp_ud z w (mp_or (z w) (mp_bit k)) 2 + mp_ud z w (mp_or (z w) (mp_bit k)) 3 + mp_ud z w (mp_or (z w) (mp_bit k)) 4 := by
  have h0 := hs.1
  rcases h.2.2 with h1 | h1
  · omega
  · have hz := h.2.1 w h1.2.1.1 h1.2.1.2
    refine ⟨mp_aok_ud h.2.1 ⟨mp_or_nn _ _, mp_or_256 hz.2 (mp_bit_256 (by omega))⟩, ?_⟩
    rw [mp_sum_ud h1.2.1]
    have := mp_or_gt hz.1 h1.2.2
    omega
theorem mp_extPro {Y : mp_Y} {K : Nat × Nat} {pc : Nat} {L : List (Option Value)} {st : List Value} {R : mp_An} {s m img was num pro pro' ask kp kk kf so sz el : Int → Int} {im pl ra re rm rf sd th : Int} {A B : mp_H} (hA : A.length = 44) (e : ∀ j, 0 ≤ j → j < 8 → pro j = pro' j) (k : mp_At Y K pc L st (A ++ (mp_ms s m img was num pro' ask kp kk kf so sz el im pl ra re rm rf sd th ++ B)) R) : mp_At Y K pc L st (A ++ (mp_ms s m img was num pro ask kp kk kf so sz el im pl ra re rm rf sd th ++ B)) R := by
  have e1 : A ++ (mp_ms s m img was num pro ask kp kk kf so sz el im pl ra re rm rf sd th ++ B) = (A ++ (mp_ms s m img was num pro ask kp kk kf so sz el im pl ra re rm rf sd th ++ B)).set 50 (mp_I 8 (mp_F pro)) := (mp_set_same (mp_lk hA 6 rfl)).symm
  have e2 : (A ++ (mp_ms s m img was num pro ask kp kk kf so sz el im pl ra re rm rf sd th ++ B)).set 50 (mp_I 8 (mp_F pro')) = A ++ (mp_ms s m img was num pro' ask kp kk kf so sz el im pl ra re rm rf sd th ++ B) := mp_sts hA 6 (Nat.le_of_ble_eq_true rfl) rfl
  rw [e1]
  refine mp_extAt (fun j hj => e (j : Int) (by omega) (by omega)) ?_
  rw [e2]
  exact k
theorem mp_extAsk {Y : mp_Y} {K : Nat × Nat} {pc : Nat} {L : List (Option Value)} {st : List Value} {R : mp_An} {s m img was num pro ask ask' kp kk kf so sz el : Int → Int} {im pl ra re rm rf sd th : Int} {A B : mp_H} (hA : A.length = 44) (e : ∀ j, 0 ≤ j → j < 5 → ask j = ask' j) (k : mp_At Y K pc L st (A ++ (mp_ms s m img was num pro ask' kp kk kf so sz el im pl ra re rm rf sd th ++ B)) R) : mp_At Y K pc L st (A ++ (mp_ms s m img was num pro ask kp kk kf so sz el im pl ra re rm rf sd th ++ B)) R := by
  have e1 : A ++ (mp_ms s m img was num pro ask kp kk kf so sz el im pl ra re rm rf sd th ++ B) = (A ++ (mp_ms s m img was num pro ask kp kk kf so sz el im pl ra re rm rf sd th ++ B)).set 51 (mp_I 5 (mp_F ask)) := (mp_set_same (mp_lk hA 7 rfl)).symm
  have e2 : (A ++ (mp_ms s m img was num pro ask kp kk kf so sz el im pl ra re rm rf sd th ++ B)).set 51 (mp_I 5 (mp_F ask')) = A ++ (mp_ms s m img was num pro ask' kp kk kf so sz el im pl ra re rm rf sd th ++ B) := mp_sts hA 7 (Nat.le_of_ble_eq_true rfl) rfl
  rw [e1]
  refine mp_extAt (fun j hj => e (j : Int) (by omega) (by omega)) ?_
  rw [e2]
  exact k
def sp_wedN (q : Int → Int) (l : Int) : Nat → Int → Int
  | 0, _ => -4
  | n + 1, k => if q k = l then k else sp_wedN q l n (k + 1)
def sp_wed (s : Int → Int) (l : Int) : Int := if ¬ (0 ≤ l ∧ l ≤ 4) then -1 else sp_wedN (sp_weds s).1 l (s 0).toNat 0
theorem mp_wIn_ok {s : Int → Int} (hs : mp_sky s) : ∀ (n : Nat) (w k : Int) (q z : Int → Int), mp_wst s q z w k → mp_pok (sp_wIn s n w k q z).1 ∧ mp_aok (sp_wIn s n w k q z).2 := by
  intro n
  induction n with
  | zero => intro w k q z h; exact ⟨h.1, h.2.1⟩
  | succ n ih =>
    intro w k q z h
    have h0 := hs.1
    by_cases hk : k < 0
    · rw [mp_wIn_end hk]; exact ⟨h.1, h.2.1⟩
    · have h1 : (0 ≤ k ∧ k < s 0) ∧ (0 ≤ w ∧ w ≤ 4) ∧ sp_b (z w) k ≠ 1 := by rcases h.2.2 with h | h; omega; exact h
      have hz := (mp_wst_ask hs h hk).1
      have hq := h.1 k (by omega) (by omega)
      by_cases hc : q k < 0 ∨ sp_rather s k w (q k) ≠ 0
      · rw [mp_wIn_sw hk hc]
        by_cases h4 : q k < 0
        · rw [if_pos h4]; exact ih _ _ _ _ ⟨mp_pok_ud h.1 h1.2.1, hz, Or.inl rfl⟩
        · rw [if_neg h4]; exact ih _ _ _ _ (mp_wst_next hs (mp_pok_ud h.1 h1.2.1) hz (by omega))
      · rw [mp_wIn_st hk hc]
        exact ih _ _ _ _ (mp_wst_next hs h.1 hz h1.2.1)
theorem mp_weds_ok {s : Int → Int} (hs : mp_sky s) : mp_pok (sp_weds s).1 ∧ mp_aok (sp_weds s).2 := by
  have := mp_fold_inv_lt (f := sp_wOut s) (fun i p => 0 ≤ i ∧ mp_pok p.1 ∧ mp_aok p.2) 5 (fun i p hi h => ⟨by omega, mp_wIn_ok hs 1276 _ _ _ _ (mp_wst_next hs h.2.1 h.2.2 (by omega))⟩) 5 0 ((fun _ => -4), (fun _ => 0)) (by decide) ⟨by decide, fun k _ _ => Or.inl rfl, fun l _ _ => (by decide : (0 : Int) ≤ 0 ∧ (0 : Int) < 256)⟩
  exact this.2
