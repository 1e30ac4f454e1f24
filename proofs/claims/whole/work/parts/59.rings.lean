/-! ===== RINGS ===== -/
def sc_w (s : Int → Int) (l k : Int) : Int := (if s (1 + 6 * k + 5) = l then 8 else 0) + (if s (49 + 3 * l + 2) = k then 1 else 0)
def sc_bc (s : Int → Int) : Nat → Int → Int → Int
  | 0, _, _ => 0
  | n + 1, l, u => if s (49 + 3 * l + 2) = 9 then sc_bc s n (l + 1) u else mp_fold (fun k b => if sp_b u k ≠ 0 then (if b < sc_w s l k + sc_bc s n (l + 1) (mp_dif u (mp_bit k)) then sc_w s l k + sc_bc s n (l + 1) (mp_dif u (mp_bit k)) else b) else b) 8 0 0
def sc_bcStep (s : Int → Int) (n : Nat) (l u k b : Int) : Int := if sp_b u k ≠ 0 then (if b < sc_w s l k + sc_bc s n (l + 1) (mp_dif u (mp_bit k)) then sc_w s l k + sc_bc s n (l + 1) (mp_dif u (mp_bit k)) else b) else b
theorem sc_bc_s {s : Int → Int} {n : Nat} {l u : Int} : sc_bc s (n + 1) l u = if s (49 + 3 * l + 2) = 9 then sc_bc s n (l + 1) u else mp_fold (sc_bcStep s n l u) 8 0 0 := rfl
theorem sc_w_bd (s : Int → Int) (l k : Int) : 0 ≤ sc_w s l k ∧ sc_w s l k ≤ 9 := by unfold sc_w; omega
theorem sc_bc_bd (s : Int → Int) : ∀ (n : Nat) (l u : Int), 0 ≤ sc_bc s n l u ∧ sc_bc s n l u ≤ 9 * n := by
  intro n
  induction n with
  | zero => intro l u; exact ⟨Int.le_refl 0, Int.le_refl 0⟩
  | succ n ih =>
    intro l u
    rw [sc_bc_s]
    split
    · have := ih (l + 1) u; omega
    · have := mp_fold_inv (f := sc_bcStep s n l u) (fun _ b => 0 ≤ b ∧ b ≤ 9 * ((n + 1 : Nat) : Int)) (fun k b h => by
        have h1 := sc_w_bd s l k
        have h2 := ih (l + 1) (mp_dif u (mp_bit k))
        unfold sc_bcStep
        split
        · split
          · omega
          · exact h
        · exact h) 8 0 0 ⟨Int.le_refl 0, by omega⟩
      exact this
def sc_cnt (s : Int → Int) : Nat → Int → Int
  | 0, _ => 0
  | n + 1, l => (if s (49 + 3 * l + 2) = 9 then 0 else 1) + sc_cnt s n (l + 1)
theorem sc_cnt_s {s : Int → Int} {n : Nat} {l : Int} : sc_cnt s (n + 1) l = (if s (49 + 3 * l + 2) = 9 then 0 else 1) + sc_cnt s n (l + 1) := rfl
theorem sc_cnt_bd (s : Int → Int) : ∀ (n : Nat) (l : Int), 0 ≤ sc_cnt s n l ∧ sc_cnt s n l ≤ n := by
  intro n
  induction n with
  | zero => intro l; exact ⟨Int.le_refl 0, Int.le_refl 0⟩
  | succ n ih => intro l; have := ih (l + 1); rw [sc_cnt_s]; split <;> omega
abbrev rg_key (p : Int × Int) : Int := 8 * p.1 - p.2
abbrev rg_max (a b : Int) : Int := if a < b then b else a
theorem rg_dif {g k : Int} (hg : 0 ≤ g ∧ g < 256) (hk : 0 ≤ k ∧ k < 16) (h : sp_b g k = 1) : sp_bits (mp_dif g (mp_bit k)) = sp_bits g - 1 := by
  have hn : ¬ sp_b (mp_dif g (mp_bit k)) k = 1 := fun e => (mp_b_dif.mp e).2 ((mp_b_bit hk.1 hk.1).mpr rfl)
  have e : mp_or (mp_dif g (mp_bit k)) (mp_bit k) = g := mp_b_ext (mp_or_nn _ _) hg.1 (fun j hj => by
    rw [mp_b_or, mp_b_dif, mp_b_bit hk.1 hj]
    constructor
    · rintro (h1 | h1)
      · exact h1.1
      · exact h1 ▸ h
    · intro h1
      by_cases e : k = j
      · exact Or.inr e
      · exact Or.inl ⟨h1, e⟩)
  have := mp_bits_or hk hn
  rw [e] at this
  omega
theorem rg_end {o c : Int} {p : Int × Int} (hp : mp_rng p) (ho : 0 ≤ o ∧ o ≤ 5) (hc : 0 ≤ c ∧ c ≤ 5) : rg_key (sp_chgEnd o c p) = rg_max (rg_key p) (8 * o - c) ∧ (sp_chgEnd o c p = p ∨ (sp_chgEnd o c p).2 = c) := by
  obtain ⟨p1, p2⟩ := p
  unfold sp_chgEnd rg_key rg_max
  dsimp only at *
  by_cases h1 : o < p1
  · rw [if_pos h1, if_neg (by omega), if_neg (by omega)]; exact ⟨rfl, Or.inl rfl⟩
  · rw [if_neg h1]
    by_cases h2 : p1 < o ∨ (o = p1 ∧ c < p2)
    · rw [if_pos h2, if_pos (by omega)]; exact ⟨rfl, Or.inr rfl⟩
    · rw [if_neg h2, if_neg (by omega)]
      have : o = p1 := by omega
      subst this
      exact ⟨rfl, Or.inl rfl⟩
theorem rg_main {s : Int → Int} (hs : mp_sky s) : ∀ (n : Nat) (l g o c : Int) (p : Int × Int), 0 ≤ l → l + n = 5 → (0 ≤ o ∧ o ≤ l) → (0 ≤ c ∧ c ≤ l) → mp_rng p → (0 ≤ g ∧ g < 256) → (∀ k, 0 ≤ k → sp_b g k = 1 → k < s 0) → sc_cnt s n l ≤ sp_bits g →
    rg_key (sp_chg s n l g o c p) = rg_max (rg_key p) (8 * o - c + sc_bc s n l g - sc_cnt s n l) ∧ (sp_chg s n l g o c p = p ∨ (c ≤ (sp_chg s n l g o c p).2 ∧ (sp_chg s n l g o c p).2 ≤ c + sc_cnt s n l)) := by
  have hs0 := hs.1
  intro n
  induction n with
  | zero =>
    intro l g o c p h0 hl ho hc hp hg hb hn
    have := rg_end hp (o := o) (c := c) (by omega) (by omega)
    refine ⟨?_, ?_⟩
    · show rg_key (sp_chgEnd o c p) = rg_max (rg_key p) (8 * o - c + 0 - 0)
      rw [this.1, show 8 * o - c + 0 - 0 = 8 * o - c by omega]
    · show sp_chgEnd o c p = p ∨ (c ≤ (sp_chgEnd o c p).2 ∧ (sp_chgEnd o c p).2 ≤ c + 0)
      rcases this.2 with h | h
      · exact Or.inl h
      · exact Or.inr (by omega)
  | succ n ih =>
    intro l g o c p h0 hl ho hc hp hg hb hn
    have e : sp_chg s (n + 1) l g o c p = if s (49 + 3 * l + 2) = 9 then sp_chg s n (l + 1) g o c p else mp_fold (fun k p => if sp_b g k = 1 then sp_chg s n (l + 1) (mp_dif g (mp_bit k)) (o + (if s (1 + 6 * k + 5) = l then 1 else 0)) (c + (if s (49 + 3 * l + 2) = k then 0 else 1)) p else p) (s 0).toNat 0 p := rfl
    rw [e, sc_bc_s]
    rw [sc_cnt_s] at hn ⊢
    by_cases h9 : s (49 + 3 * l + 2) = 9
    · rw [if_pos h9] at hn ⊢
      rw [if_pos h9, if_pos h9]
      have := ih (l + 1) g o c p (by omega) (by omega) (by omega) (by omega) hp hg hb (by omega)
      rw [show (0 : Int) + sc_cnt s n (l + 1) = sc_cnt s n (l + 1) by omega]
      exact this
    · rw [if_neg h9] at hn ⊢
      rw [if_neg h9, if_neg h9]
      have hcn := sc_cnt_bd s n (l + 1)
      have e8 : mp_fold (sc_bcStep s n l g) 8 0 0 = mp_fold (sc_bcStep s n l g) (s 0).toNat 0 0 := by
        rw [← mp_fold_8 (F := sc_bcStep s n l g) hs0]
        refine mp_fold_congr _ _ _ (fun k b hk _ => ?_)
        by_cases hks : k < s 0
        · rw [if_pos hks]
        · rw [if_neg hks]
          unfold sc_bcStep
          rw [if_neg (fun h => hks (hb k hk ((mp_b_ne g k).mp h)))]
      rw [e8]
      have key : ∀ (m : Nat) (i : Int) (q : Int × Int) (b : Int), 0 ≤ i → i + m ≤ s 0 → mp_rng q → 0 ≤ b → ((q = p ∧ b = 0 ∧ ∀ k, 0 ≤ k → k < i → ¬ sp_b g k = 1) ∨ rg_key q = rg_max (rg_key p) (8 * o - c - (1 + sc_cnt s n (l + 1)) + b)) → (q = p ∨ (c ≤ q.2 ∧ q.2 ≤ c + (1 + sc_cnt s n (l + 1)))) →
          mp_rng (mp_fold (fun k p => if sp_b g k = 1 then sp_chg s n (l + 1) (mp_dif g (mp_bit k)) (o + (if s (1 + 6 * k + 5) = l then 1 else 0)) (c + (if s (49 + 3 * l + 2) = k then 0 else 1)) p else p) m i q) ∧
          (((mp_fold (fun k p => if sp_b g k = 1 then sp_chg s n (l + 1) (mp_dif g (mp_bit k)) (o + (if s (1 + 6 * k + 5) = l then 1 else 0)) (c + (if s (49 + 3 * l + 2) = k then 0 else 1)) p else p) m i q) = p ∧ mp_fold (sc_bcStep s n l g) m i b = 0 ∧ ∀ k, 0 ≤ k → k < i + m → ¬ sp_b g k = 1) ∨ rg_key (mp_fold (fun k p => if sp_b g k = 1 then sp_chg s n (l + 1) (mp_dif g (mp_bit k)) (o + (if s (1 + 6 * k + 5) = l then 1 else 0)) (c + (if s (49 + 3 * l + 2) = k then 0 else 1)) p else p) m i q) = rg_max (rg_key p) (8 * o - c - (1 + sc_cnt s n (l + 1)) + mp_fold (sc_bcStep s n l g) m i b)) ∧
          ((mp_fold (fun k p => if sp_b g k = 1 then sp_chg s n (l + 1) (mp_dif g (mp_bit k)) (o + (if s (1 + 6 * k + 5) = l then 1 else 0)) (c + (if s (49 + 3 * l + 2) = k then 0 else 1)) p else p) m i q) = p ∨ (c ≤ (mp_fold (fun k p => if sp_b g k = 1 then sp_chg s n (l + 1) (mp_dif g (mp_bit k)) (o + (if s (1 + 6 * k + 5) = l then 1 else 0)) (c + (if s (49 + 3 * l + 2) = k then 0 else 1)) p else p) m i q).2 ∧ (mp_fold (fun k p => if sp_b g k = 1 then sp_chg s n (l + 1) (mp_dif g (mp_bit k)) (o + (if s (1 + 6 * k + 5) = l then 1 else 0)) (c + (if s (49 + 3 * l + 2) = k then 0 else 1)) p else p) m i q).2 ≤ c + (1 + sc_cnt s n (l + 1)))) := by
        intro m
        induction m with
        | zero =>
          intro i q b hi him hq hb0 h1 h2
          refine ⟨hq, ?_, h2⟩
          rcases h1 with ⟨a1, a2, a3⟩ | h1
          · exact Or.inl ⟨a1, a2, fun k k0 k1 => a3 k k0 (by omega)⟩
          · exact Or.inr h1
        | succ m ihm =>
          intro i q b hi him hq hb0 h1 h2
          have f1 : ∀ (q : Int × Int), mp_fold (fun k p => if sp_b g k = 1 then sp_chg s n (l + 1) (mp_dif g (mp_bit k)) (o + (if s (1 + 6 * k + 5) = l then 1 else 0)) (c + (if s (49 + 3 * l + 2) = k then 0 else 1)) p else p) (m + 1) i q = mp_fold (fun k p => if sp_b g k = 1 then sp_chg s n (l + 1) (mp_dif g (mp_bit k)) (o + (if s (1 + 6 * k + 5) = l then 1 else 0)) (c + (if s (49 + 3 * l + 2) = k then 0 else 1)) p else p) m (i + 1) (if sp_b g i = 1 then sp_chg s n (l + 1) (mp_dif g (mp_bit i)) (o + (if s (1 + 6 * i + 5) = l then 1 else 0)) (c + (if s (49 + 3 * l + 2) = i then 0 else 1)) q else q) := fun q => rfl
          have f2 : mp_fold (sc_bcStep s n l g) (m + 1) i b = mp_fold (sc_bcStep s n l g) m (i + 1) (sc_bcStep s n l g i b) := rfl
          rw [f1, f2, show i + ((m + 1 : Nat) : Int) = i + 1 + (m : Int) by omega]
          by_cases hbit : sp_b g i = 1
          · rw [if_pos hbit]
            have hdb := rg_dif (k := i) hg ⟨hi, by omega⟩ hbit
            have hih := ih (l + 1) (mp_dif g (mp_bit i)) (o + (if s (1 + 6 * i + 5) = l then 1 else 0)) (c + (if s (49 + 3 * l + 2) = i then 0 else 1)) q (by omega) (by omega) (by split <;> omega) (by split <;> omega) hq ⟨mp_dif_nn _ _, mp_dif_lt (n := 8) hg.2⟩ (fun k k0 hk => hb k k0 (mp_b_dif.mp hk).1) (by omega)
            have hrg := mp_chg_bd s n (l + 1) (mp_dif g (mp_bit i)) (o + (if s (1 + 6 * i + 5) = l then 1 else 0)) (c + (if s (49 + 3 * l + 2) = i then 0 else 1)) q (by omega) (by split <;> omega) (by split <;> omega) hq
            have hbcd := sc_bc_bd s n (l + 1) (mp_dif g (mp_bit i))
            have hw := sc_w_bd s l i
            have hst : sc_bcStep s n l g i b = rg_max b (sc_w s l i + sc_bc s n (l + 1) (mp_dif g (mp_bit i))) := by unfold sc_bcStep; rw [if_pos ((mp_b_ne g i).mpr hbit)]
            have hwe : 8 * (o + (if s (1 + 6 * i + 5) = l then 1 else 0)) - (c + (if s (49 + 3 * l + 2) = i then 0 else 1)) = 8 * o - c - 1 + sc_w s l i := by unfold sc_w; split <;> split <;> omega
            refine ihm (i + 1) _ _ (by omega) (by omega) hrg (by rw [hst]; unfold rg_max; split <;> omega) (Or.inr ?_) ?_
            · rw [hih.1, hst, hwe]
              rcases h1 with ⟨a1, a2, -⟩ | h1
              · rw [a1, a2]
                unfold rg_max
                omega
              · rw [h1]
                unfold rg_max
                omega
            · rcases hih.2 with h | h
              · rw [h]; exact h2
              · refine Or.inr ⟨?_, ?_⟩
                · have := h.1; split at this <;> omega
                · have := h.2; split at this <;> omega
          · rw [if_neg hbit]
            have hst : sc_bcStep s n l g i b = b := by unfold sc_bcStep; rw [if_neg (fun h => hbit ((mp_b_ne g i).mp h))]
            rw [hst]
            refine ihm (i + 1) q b (by omega) (by omega) hq hb0 ?_ h2
            rcases h1 with ⟨a1, a2, a3⟩ | h1
            · refine Or.inl ⟨a1, a2, fun k k0 k1 => ?_⟩
              by_cases ek : k = i
              · rw [ek]; exact hbit
              · exact a3 k k0 (by omega)
            · exact Or.inr h1
      have fin := key (s 0).toNat 0 p 0 (Int.le_refl _) (by omega) hp (Int.le_refl _) (Or.inl ⟨rfl, rfl, fun k k0 k1 => by omega⟩) (Or.inl rfl)
      refine ⟨?_, fin.2.2⟩
      rcases fin.2.1 with ⟨-, -, a3⟩ | h
      · exfalso
        have : sp_bits g ≤ 0 := mp_bits_le (Int.le_refl 0) (fun j hj hbj => by
          have := hb j hj hbj
          exact a3 j hj (by omega) hbj)
        omega
      · rw [h]
        congr 1
        omega
theorem rg_said {s : Int → Int} (hs : mp_sky s) : sp_bits (sp_said s) = sc_cnt s 5 0 := by
  have hs0 := hs.1
  have key : ∀ (n : Nat) (l u : Int), 0 ≤ l → l + n = 5 → (∀ l', l ≤ l' → l' ≤ 4 → s (49 + 3 * l' + 2) ≠ 9 → ¬ sp_b u (s (49 + 3 * l' + 2)) = 1) → sp_bits (mp_fold (sp_saidStep s) n l u) = sp_bits u + sc_cnt s n l := by
    intro n
    induction n with
    | zero => intro l u _ _ _; show sp_bits u = sp_bits u + 0; omega
    | succ n ih =>
      intro l u h0 h1 h
      have hl := hs.2.2.1 l h0 (by omega)
      show sp_bits (mp_fold (sp_saidStep s) n (l + 1) (sp_saidStep s l u)) = sp_bits u + sc_cnt s (n + 1) l
      rw [sc_cnt_s]
      unfold sp_saidStep
      by_cases h9 : s (49 + 3 * l + 2) = 9
      · rw [if_pos h9, if_pos h9, show (fun l u => if s (49 + 3 * l + 2) = 9 then u else mp_or u (mp_bit (s (49 + 3 * l + 2)))) = sp_saidStep s from rfl]
        rw [ih (l + 1) u (by omega) (by omega) (fun l' a b c => h l' (by omega) b c)]; omega
      · rw [if_neg h9, if_neg h9, show (fun l u => if s (49 + 3 * l + 2) = 9 then u else mp_or u (mp_bit (s (49 + 3 * l + 2)))) = sp_saidStep s from rfl]
        have hb := mp_bits_or (a := u) (k := s (49 + 3 * l + 2)) (by omega) (h l (Int.le_refl _) (by omega) h9)
        rw [ih (l + 1) _ (by omega) (by omega) (fun l' a b c hbit => by
          have hl' := hs.2.2.1 l' (by omega) b
          rcases mp_b_or.mp hbit with g | g
          · exact h l' (by omega) b c g
          · have e := (mp_b_bit (by omega) (by omega)).mp g
            have := hs.2.2.2 l l' h0 (by omega) (by omega) b e
            omega)]
        omega
  have := key 5 0 0 (Int.le_refl _) (by decide) (fun l' _ _ _ => mp_b_0 _)
  rw [show sp_bits 0 = 0 by decide] at this
  unfold sp_said
  omega
theorem rg_wait {s : Int → Int} : sp_bits (sp_waiting s) = 5 - sc_cnt s 5 0 := by
  have key : ∀ (n : Nat) (l u : Int), 0 ≤ l → l + n = 5 → (∀ j, l ≤ j → ¬ sp_b u j = 1) → sp_bits (mp_fold (sp_waitStep s) n l u) = sp_bits u + n - sc_cnt s n l := by
    intro n
    induction n with
    | zero => intro l u _ _ _; show sp_bits u = sp_bits u + 0 - 0; omega
    | succ n ih =>
      intro l u h0 h1 h
      show sp_bits (mp_fold (sp_waitStep s) n (l + 1) (sp_waitStep s l u)) = sp_bits u + ((n + 1 : Nat) : Int) - sc_cnt s (n + 1) l
      rw [sc_cnt_s]
      by_cases h9 : s (49 + 3 * l + 2) = 9
      · have e : sp_waitStep s l u = mp_or u (mp_bit l) := if_pos h9
        have hb := mp_bits_or (a := u) (k := l) (by omega) (h l (Int.le_refl _))
        rw [e, ih (l + 1) _ (by omega) (by omega) (fun j hj hbit => by
          rcases mp_b_or.mp hbit with g | g
          · exact h j (by omega) g
          · have := (mp_b_bit h0 (by omega)).mp g; omega), if_pos h9]
        omega
      · have e : sp_waitStep s l u = u := if_neg h9
        rw [e, ih (l + 1) u (by omega) (by omega) (fun j hj => h j (by omega)), if_neg h9]
        omega
  have := key 5 0 0 (Int.le_refl _) (by decide) (fun j _ => mp_b_0 j)
  rw [show sp_bits 0 = 0 by decide] at this
  unfold sp_waiting
  omega
theorem rg_bits {s : Int → Int} (hs : mp_sky s) : ∀ k, 0 ≤ k → sp_b (sp_said s) k = 1 → k < s 0 := by
  have hs0 := hs.1
  have key : ∀ (n : Nat) (l u : Int), 0 ≤ l → l + n = 5 → (∀ k, 0 ≤ k → sp_b u k = 1 → k < s 0) → ∀ k, 0 ≤ k → sp_b (mp_fold (sp_saidStep s) n l u) k = 1 → k < s 0 := by
    intro n
    induction n with
    | zero => intro l u _ _ h; exact h
    | succ n ih =>
      intro l u h0 h1 h
      have hl := hs.2.2.1 l h0 (by omega)
      refine ih (l + 1) (sp_saidStep s l u) (by omega) (by omega) (fun k k0 hk => ?_)
      unfold sp_saidStep at hk
      by_cases h9 : s (49 + 3 * l + 2) = 9
      · rw [if_pos h9] at hk; exact h k k0 hk
      · rw [if_neg h9] at hk
        rcases mp_b_or.mp hk with g | g
        · exact h k k0 g
        · have := (mp_b_bit (by omega) k0).mp g; omega
  exact key 5 0 0 (Int.le_refl _) (by decide) (fun k _ h => absurd h (mp_b_0 k))
theorem rg_ans {s : Int → Int} (hs : mp_sky s) : sc_bc s 5 0 (sp_said s) / 8 = (sp_chg s 5 0 (sp_said s) 0 0 (-1, 0)).1 ∧ sc_cnt s 5 0 - sc_bc s 5 0 (sp_said s) % 8 = (sp_chg s 5 0 (sp_said s) 0 0 (-1, 0)).2 := by
  have h := rg_main hs 5 0 (sp_said s) 0 0 (-1, 0) (Int.le_refl _) (by decide) ⟨by decide, by decide⟩ ⟨by decide, by decide⟩ ⟨⟨by decide, by decide⟩, ⟨by decide, by decide⟩⟩ (mp_said_bd hs) (rg_bits hs) (by rw [rg_said hs]; exact Int.le_refl _)
  have hb := sc_bc_bd s 5 0 (sp_said s)
  have hc := sc_cnt_bd s 5 0
  generalize sp_chg s 5 0 (sp_said s) 0 0 (-1, 0) = R at *
  obtain ⟨r1, r2⟩ := R
  obtain ⟨h1, h2⟩ := h
  unfold rg_key rg_max at h1
  dsimp only at *
  rw [if_pos (by omega)] at h1
  rcases h2 with h2 | h2
  · exfalso
    have e1 := congrArg Prod.fst h2
    have e2 := congrArg Prod.snd h2
    dsimp only at e1 e2
    omega
  · omega

theorem zX11_bestChange5 {s si sp : Int → Int} {f fi fp : Nat → Option Nat} {im : Int} {hd : Int → Int} {kn : Nat → Option Nat} {wd ak ke cv vo so sz el : Int → Int} {A B : mp_H}  {u : Int} (hA : A.length = 1) (hs : mp_sky s) (hMt : mp_Mt (A ++ (mp_cs s si sp f fi fp im hd kn wd ak ke cv vo so sz el ++ B)) s f) (h_u : 0 ≤ u ∧ u < 256) (hub : ∀ k, 0 ≤ k → sp_b u k = 1 → k < s 0) : mp_Call (mX11_bestChange, 1, 0, 0) [Value.ref 1, mp_i 5, mp_i u] (A ++ (mp_cs s si sp f fi fp im hd kn wd ak ke cv vo so sz el ++ B)) (some (mp_i (sc_bc s 0 5 u)), A ++ (mp_cs s si sp f fi fp im hd kn wd ak ke cv vo so sz el ++ B)) := by
  refine mp_Call.of (L := [some (Value.ref 1), some (mp_i 5), some (mp_i u), none, none, none]) pnX11 (Nat.le_of_ble_eq_true rfl) rfl ?_
  refine mp_iload_n dX11_bestChange_0 rfl ?_
  refine mp_iconst dX11_bestChange_1 ?_
  refine mp_icmp_lt (tgt := 7) dX11_bestChange_2 rfl ⟨by decide, by decide⟩ ⟨by decide, by decide⟩ (fun h1 => absurd h1 (by decide)) (fun _ => ?_)
  refine mp_iconst dX11_bestChange_5 ?_
  exact mp_ireturn (st := []) dX11_bestChange_6 rfl ⟨by decide, by decide⟩ ((mp_ans (by rfl)))
theorem lX11_bestChange4_35 {s si sp : Int → Int} {f fi fp : Nat → Option Nat} {im : Int} {hd : Int → Int} {kn : Nat → Option Nat} {wd ak ke cv vo so sz el : Int → Int} {A B : mp_H}  {u : Int} (hA : A.length = 1) (hs : mp_sky s) (hMt : mp_Mt (A ++ (mp_cs s si sp f fi fp im hd kn wd ak ke cv vo so sz el ++ B)) s f) (h_u : 0 ≤ u ∧ u < 256) (hub : ∀ k, 0 ≤ k → sp_b u k = 1 → k < s 0) {R9 : mp_An} : ∀ (n : Nat) (t : Int) (v : Int), ((0 ≤ t ∧ t + (n : Nat) = 8) ∧ 0 ≤ v ∧ v ≤ 9) → mp_At (mX11_bestChange, 2, 0, 0) (0, 0) 122 [some (Value.ref 1), some (mp_i 4), some (mp_i u), some (mp_i (mp_fold (sc_bcStep s 0 4 u) n t v)), none, none] [] (A ++ (mp_cs s si sp f fi fp im hd kn wd ak ke cv vo so sz el ++ B)) R9 → mp_At (mX11_bestChange, 2, 0, 0) (0, 0) 35 [some (Value.ref 1), some (mp_i 4), some (mp_i u), some (mp_i v), some (mp_i t), none] [] (A ++ (mp_cs s si sp f fi fp im hd kn wd ak ke cv vo so sz el ++ B)) R9 := by
  intro n
  induction n with
  | zero =>
    intro t v hi hk
    have hz0 := hs.1
    refine mp_iload dX11_bestChange_35 rfl ?_
    refine mp_bipush dX11_bestChange_37 rfl ?_
    refine mp_icmp_ge (tgt := 122) dX11_bestChange_39 rfl ⟨by omega, by omega⟩ ⟨by omega, by omega⟩ (fun h1 => ?_) (fun h1 => ?_)
    · refine mp_drop (L' := [some (Value.ref 1), some (mp_i 4), some (mp_i u), some (mp_i v), none, none]) [true, true, true, true, false, false] rfl ?_
      exact hk
    · exfalso; omega
  | succ n ih =>
    intro t v hi hk
    have hz0 := hs.1
    have hl9 := hs.2.2.1 4 (by decide) (by decide)
    have hbc := sc_bc_bd s 0 5 (mp_dif u (mp_bit t))
    have hbb := mp_b_bd u t
    have htm : sp_b u t = 1 → mp_met s t := fun h => hs.2.1 t (by omega) (hub t (by omega) h)
    have hbt := mp_bit_nn t
    have hdn := mp_dif_nn u (mp_bit t)
    refine mp_iload dX11_bestChange_35 rfl ?_
    refine mp_bipush dX11_bestChange_37 rfl ?_
    refine mp_icmp_ge (tgt := 122) dX11_bestChange_39 rfl ⟨by omega, by omega⟩ ⟨by omega, by omega⟩ (fun h1 => ?_) (fun h1 => ?_)
    · exfalso; omega
    · refine mp_iload_n dX11_bestChange_42 rfl ?_
      refine mp_iload dX11_bestChange_43 rfl ?_
      refine mp_invS (z := (mX11_hasBit, 0, 0, 0)) (K' := (0, 0)) (σ1 := A ++ (mp_cs s si sp f fi fp im hd kn wd ak ke cv vo so sz el ++ B)) (as := [mp_i u, mp_i t]) (st := []) (st1 := [mp_i (if sp_b u t ≠ 0 then 1 else 0)]) dX11_bestChange_45 ssX11_228 (zX11_hasBit (v := u) (k := t) (by first | with_reducible assumption | omega) (by first | with_reducible assumption | omega)) ⟨Nat.le_of_ble_eq_true rfl, Nat.le_of_ble_eq_true rfl, Nat.le_of_ble_eq_true rfl, Nat.le_of_ble_eq_true rfl, Nat.le_of_ble_eq_true rfl⟩ rfl rfl rfl rfl ?_
      refine mp_ifb_eq (tgt := 116) dX11_bestChange_48 rfl (fun h2 => ?_) (fun h2 => ?_)
      · refine mp_iinc (z := t + 1) (L' := [some (Value.ref 1), some (mp_i 4), some (mp_i u), some (mp_i v), some (mp_i (t + 1)), none]) dX11_bestChange_116 rfl (rfl) (by decide) rfl ?_
        refine mp_goto (tgt := 35) dX11_bestChange_119 rfl ?_
        have e9 : (sc_bcStep s 0 4 u) t v = v := by unfold sc_bcStep; rw [if_neg (by omega)]
        have k9 := ih (t + 1) ((sc_bcStep s 0 4 u) t v) (by rw [e9]; omega) hk
        rw [e9] at k9
        exact k9
      · have htm9 := htm (by omega)
        refine mp_aload_n dX11_bestChange_51 rfl ?_
        refine mp_getfield dX11_bestChange_52 fsX11_10_10 (mp_lkP hA 0 rfl) rfl ?_
        refine mp_getfield dX11_bestChange_55 fsX11_111_8 (mp_lkP hA 1 rfl) rfl ?_
        refine mp_iload dX11_bestChange_58 rfl ?_
        refine mp_iald dX11_bestChange_60 (mp_lkP hA 3 rfl) ⟨by omega, by omega⟩ (by omega) ?_
        refine mp_top (y := s (1 + 6 * t + 5)) (sp_isf_in ⟨by omega, by omega⟩) ?_
        refine mp_iload_n dX11_bestChange_61 rfl ?_
        refine mp_icmp_ne (tgt := 70) dX11_bestChange_62 rfl ⟨by omega, by omega⟩ ⟨by omega, by omega⟩ (fun h3 => ?_) (fun h3 => ?_)
        · refine mp_iconst dX11_bestChange_70 ?_
          refine mp_aload_n dX11_bestChange_71 rfl ?_
          refine mp_getfield dX11_bestChange_72 fsX11_10_10 (mp_lkP hA 0 rfl) rfl ?_
          refine mp_getfield dX11_bestChange_75 fsX11_133_8 (mp_lkP hA 1 rfl) rfl ?_
          refine mp_iload_n dX11_bestChange_78 rfl ?_
          refine mp_iald dX11_bestChange_79 (mp_lkP hA 6 rfl) ⟨by omega, by omega⟩ (by omega) ?_
          refine mp_top (y := s (49 + 3 * 4 + 2)) (sp_sai_in ⟨by omega, by omega⟩) ?_
          refine mp_iload dX11_bestChange_80 rfl ?_
          refine mp_icmp_ne (tgt := 89) dX11_bestChange_82 rfl ⟨by omega, by omega⟩ ⟨by omega, by omega⟩ (fun h4 => ?_) (fun h4 => ?_)
          · refine mp_iconst dX11_bestChange_89 ?_
            refine mp_iadd (z := 0) dX11_bestChange_90 (by first | rfl | omega) ?_
            refine mp_istore (L' := [some (Value.ref 1), some (mp_i 4), some (mp_i u), some (mp_i v), some (mp_i t), some (mp_i 0)]) dX11_bestChange_91 (by decide) rfl ?_
            refine mp_iload_n dX11_bestChange_93 rfl ?_
            refine mp_iload dX11_bestChange_94 rfl ?_
            refine mp_aload_n dX11_bestChange_96 rfl ?_
            refine mp_iload_n dX11_bestChange_97 rfl ?_
            refine mp_iconst dX11_bestChange_98 ?_
            refine mp_iadd (z := 5) dX11_bestChange_99 (by first | rfl | omega) ?_
            refine mp_iload_n dX11_bestChange_100 rfl ?_
            refine mp_iconst dX11_bestChange_101 ?_
            refine mp_iload dX11_bestChange_102 rfl ?_
            refine mp_ishl (z := mp_bit t) dX11_bestChange_104 (mp_z_bit ⟨by omega, by omega⟩) ?_
            refine mp_iconst dX11_bestChange_105 ?_
            refine mp_ixor (z := -1 - (mp_bit t)) dX11_bestChange_106 (mp_z_not _) ?_
            refine mp_iand (z := mp_dif u (mp_bit t)) dX11_bestChange_107 (mp_z_dif (by first | omega | exact mp_bit_nn _ | exact mp_or_nn _ _) (by first | omega | exact mp_bit_nn _ | exact mp_or_nn _ _)) ?_
            refine mp_invV (z := (mX11_bestChange, 1, 0, 0)) (K' := (0, 0)) (σ1 := A ++ (mp_cs s si sp f fi fp im hd kn wd ak ke cv vo so sz el ++ B)) (as := [mp_i 5, mp_i (mp_dif u (mp_bit t))]) (st := [mp_i 0, mp_i v]) (st1 := [mp_i (sc_bc s 0 5 (mp_dif u (mp_bit t))), mp_i 0, mp_i v]) dX11_bestChange_108 svX11_235 (mp_lkP hA 0 rfl) rfl rfl (zX11_bestChange5 (u := (mp_dif u (mp_bit t))) (s := s) (si := si) (sp := sp) (f := f) (fi := fi) (fp := fp) (im := im) (hd := hd) (kn := kn) (wd := wd) (ak := ak) (ke := ke) (cv := cv) (vo := vo) (so := so) (sz := sz) (el := el) (B := B) (by first | with_reducible assumption | omega) (by first | with_reducible assumption | omega) (hMt.mono hs.kd mp_stay_cs) ⟨mp_dif_nn _ _, mp_dif_lt (n := 8) h_u.2⟩ (fun k k0 hk => hub k k0 (mp_b_dif.mp hk).1)) ⟨Nat.le_of_ble_eq_true rfl, Nat.le_of_ble_eq_true rfl, Nat.le_of_ble_eq_true rfl, Nat.le_of_ble_eq_true rfl, Nat.le_of_ble_eq_true rfl⟩ rfl rfl rfl rfl ?_
            refine mp_iadd (z := 0 + (sc_bc s 0 5 (mp_dif u (mp_bit t)))) dX11_bestChange_111 (by first | rfl | omega) ?_
            refine mp_mmax (z := if v < 0 + (sc_bc s 0 5 (mp_dif u (mp_bit t))) then 0 + (sc_bc s 0 5 (mp_dif u (mp_bit t))) else v) dX11_bestChange_112 ssX11_238 (by decide) (Nat.le_of_ble_eq_true rfl) ⟨by decide, by decide⟩ ⟨by omega, by omega⟩ ⟨by omega, by omega⟩ rfl ?_
            refine mp_istore_n (L' := [some (Value.ref 1), some (mp_i 4), some (mp_i u), some (mp_i (if v < 0 + (sc_bc s 0 5 (mp_dif u (mp_bit t))) then 0 + (sc_bc s 0 5 (mp_dif u (mp_bit t))) else v)), some (mp_i t), some (mp_i 0)]) dX11_bestChange_115 rfl (by decide) rfl ?_
            refine mp_iinc (z := t + 1) (L' := [some (Value.ref 1), some (mp_i 4), some (mp_i u), some (mp_i (if v < 0 + (sc_bc s 0 5 (mp_dif u (mp_bit t))) then 0 + (sc_bc s 0 5 (mp_dif u (mp_bit t))) else v)), some (mp_i (t + 1)), some (mp_i 0)]) dX11_bestChange_116 rfl (rfl) (by decide) rfl ?_
            refine mp_goto (tgt := 35) dX11_bestChange_119 rfl ?_
            refine mp_drop (L' := [some (Value.ref 1), some (mp_i 4), some (mp_i u), some (mp_i (if v < 0 + (sc_bc s 0 5 (mp_dif u (mp_bit t))) then 0 + (sc_bc s 0 5 (mp_dif u (mp_bit t))) else v)), some (mp_i (t + 1)), none]) [true, true, true, true, true, false] rfl ?_
            have hw9 : sc_w s 4 t = 0 := by unfold sc_w; omega
            have e9 : (sc_bcStep s 0 4 u) t v = if v < 0 + (sc_bc s 0 5 (mp_dif u (mp_bit t))) then 0 + (sc_bc s 0 5 (mp_dif u (mp_bit t))) else v := by unfold sc_bcStep; rw [if_pos (by omega), hw9]; rfl
            have k9 := ih (t + 1) ((sc_bcStep s 0 4 u) t v) (by rw [e9]; omega) hk
            rw [e9] at k9
            exact k9
          · refine mp_iconst dX11_bestChange_85 ?_
            refine mp_goto (tgt := 90) dX11_bestChange_86 rfl ?_
            refine mp_iadd (z := 1) dX11_bestChange_90 (by first | rfl | omega) ?_
            refine mp_istore (L' := [some (Value.ref 1), some (mp_i 4), some (mp_i u), some (mp_i v), some (mp_i t), some (mp_i 1)]) dX11_bestChange_91 (by decide) rfl ?_
            refine mp_iload_n dX11_bestChange_93 rfl ?_
            refine mp_iload dX11_bestChange_94 rfl ?_
            refine mp_aload_n dX11_bestChange_96 rfl ?_
            refine mp_iload_n dX11_bestChange_97 rfl ?_
            refine mp_iconst dX11_bestChange_98 ?_
            refine mp_iadd (z := 5) dX11_bestChange_99 (by first | rfl | omega) ?_
            refine mp_iload_n dX11_bestChange_100 rfl ?_
            refine mp_iconst dX11_bestChange_101 ?_
            refine mp_iload dX11_bestChange_102 rfl ?_
            refine mp_ishl (z := mp_bit t) dX11_bestChange_104 (mp_z_bit ⟨by omega, by omega⟩) ?_
            refine mp_iconst dX11_bestChange_105 ?_
            refine mp_ixor (z := -1 - (mp_bit t)) dX11_bestChange_106 (mp_z_not _) ?_
            refine mp_iand (z := mp_dif u (mp_bit t)) dX11_bestChange_107 (mp_z_dif (by first | omega | exact mp_bit_nn _ | exact mp_or_nn _ _) (by first | omega | exact mp_bit_nn _ | exact mp_or_nn _ _)) ?_
            refine mp_invV (z := (mX11_bestChange, 1, 0, 0)) (K' := (0, 0)) (σ1 := A ++ (mp_cs s si sp f fi fp im hd kn wd ak ke cv vo so sz el ++ B)) (as := [mp_i 5, mp_i (mp_dif u (mp_bit t))]) (st := [mp_i 1, mp_i v]) (st1 := [mp_i (sc_bc s 0 5 (mp_dif u (mp_bit t))), mp_i 1, mp_i v]) dX11_bestChange_108 svX11_235 (mp_lkP hA 0 rfl) rfl rfl (zX11_bestChange5 (u := (mp_dif u (mp_bit t))) (s := s) (si := si) (sp := sp) (f := f) (fi := fi) (fp := fp) (im := im) (hd := hd) (kn := kn) (wd := wd) (ak := ak) (ke := ke) (cv := cv) (vo := vo) (so := so) (sz := sz) (el := el) (B := B) (by first | with_reducible assumption | omega) (by first | with_reducible assumption | omega) (hMt.mono hs.kd mp_stay_cs) ⟨mp_dif_nn _ _, mp_dif_lt (n := 8) h_u.2⟩ (fun k k0 hk => hub k k0 (mp_b_dif.mp hk).1)) ⟨Nat.le_of_ble_eq_true rfl, Nat.le_of_ble_eq_true rfl, Nat.le_of_ble_eq_true rfl, Nat.le_of_ble_eq_true rfl, Nat.le_of_ble_eq_true rfl⟩ rfl rfl rfl rfl ?_
            refine mp_iadd (z := 1 + (sc_bc s 0 5 (mp_dif u (mp_bit t)))) dX11_bestChange_111 (by first | rfl | omega) ?_
            refine mp_mmax (z := if v < 1 + (sc_bc s 0 5 (mp_dif u (mp_bit t))) then 1 + (sc_bc s 0 5 (mp_dif u (mp_bit t))) else v) dX11_bestChange_112 ssX11_238 (by decide) (Nat.le_of_ble_eq_true rfl) ⟨by decide, by decide⟩ ⟨by omega, by omega⟩ ⟨by omega, by omega⟩ rfl ?_
            refine mp_istore_n (L' := [some (Value.ref 1), some (mp_i 4), some (mp_i u), some (mp_i (if v < 1 + (sc_bc s 0 5 (mp_dif u (mp_bit t))) then 1 + (sc_bc s 0 5 (mp_dif u (mp_bit t))) else v)), some (mp_i t), some (mp_i 1)]) dX11_bestChange_115 rfl (by decide) rfl ?_
            refine mp_iinc (z := t + 1) (L' := [some (Value.ref 1), some (mp_i 4), some (mp_i u), some (mp_i (if v < 1 + (sc_bc s 0 5 (mp_dif u (mp_bit t))) then 1 + (sc_bc s 0 5 (mp_dif u (mp_bit t))) else v)), some (mp_i (t + 1)), some (mp_i 1)]) dX11_bestChange_116 rfl (rfl) (by decide) rfl ?_
            refine mp_goto (tgt := 35) dX11_bestChange_119 rfl ?_
            refine mp_drop (L' := [some (Value.ref 1), some (mp_i 4), some (mp_i u), some (mp_i (if v < 1 + (sc_bc s 0 5 (mp_dif u (mp_bit t))) then 1 + (sc_bc s 0 5 (mp_dif u (mp_bit t))) else v)), some (mp_i (t + 1)), none]) [true, true, true, true, true, false] rfl ?_
            have hw9 : sc_w s 4 t = 1 := by unfold sc_w; omega
            have e9 : (sc_bcStep s 0 4 u) t v = if v < 1 + (sc_bc s 0 5 (mp_dif u (mp_bit t))) then 1 + (sc_bc s 0 5 (mp_dif u (mp_bit t))) else v := by unfold sc_bcStep; rw [if_pos (by omega), hw9]; rfl
            have k9 := ih (t + 1) ((sc_bcStep s 0 4 u) t v) (by rw [e9]; omega) hk
            rw [e9] at k9
            exact k9
        · refine mp_bipush dX11_bestChange_65 rfl ?_
          refine mp_goto (tgt := 71) dX11_bestChange_67 rfl ?_
          refine mp_aload_n dX11_bestChange_71 rfl ?_
          refine mp_getfield dX11_bestChange_72 fsX11_10_10 (mp_lkP hA 0 rfl) rfl ?_
          refine mp_getfield dX11_bestChange_75 fsX11_133_8 (mp_lkP hA 1 rfl) rfl ?_
          refine mp_iload_n dX11_bestChange_78 rfl ?_
          refine mp_iald dX11_bestChange_79 (mp_lkP hA 6 rfl) ⟨by omega, by omega⟩ (by omega) ?_
          refine mp_top (y := s (49 + 3 * 4 + 2)) (sp_sai_in ⟨by omega, by omega⟩) ?_
          refine mp_iload dX11_bestChange_80 rfl ?_
          refine mp_icmp_ne (tgt := 89) dX11_bestChange_82 rfl ⟨by omega, by omega⟩ ⟨by omega, by omega⟩ (fun h5 => ?_) (fun h5 => ?_)
          · refine mp_iconst dX11_bestChange_89 ?_
            refine mp_iadd (z := 8) dX11_bestChange_90 (by first | rfl | omega) ?_
            refine mp_istore (L' := [some (Value.ref 1), some (mp_i 4), some (mp_i u), some (mp_i v), some (mp_i t), some (mp_i 8)]) dX11_bestChange_91 (by decide) rfl ?_
            refine mp_iload_n dX11_bestChange_93 rfl ?_
            refine mp_iload dX11_bestChange_94 rfl ?_
            refine mp_aload_n dX11_bestChange_96 rfl ?_
            refine mp_iload_n dX11_bestChange_97 rfl ?_
            refine mp_iconst dX11_bestChange_98 ?_
            refine mp_iadd (z := 5) dX11_bestChange_99 (by first | rfl | omega) ?_
            refine mp_iload_n dX11_bestChange_100 rfl ?_
            refine mp_iconst dX11_bestChange_101 ?_
            refine mp_iload dX11_bestChange_102 rfl ?_
            refine mp_ishl (z := mp_bit t) dX11_bestChange_104 (mp_z_bit ⟨by omega, by omega⟩) ?_
            refine mp_iconst dX11_bestChange_105 ?_
            refine mp_ixor (z := -1 - (mp_bit t)) dX11_bestChange_106 (mp_z_not _) ?_
            refine mp_iand (z := mp_dif u (mp_bit t)) dX11_bestChange_107 (mp_z_dif (by first | omega | exact mp_bit_nn _ | exact mp_or_nn _ _) (by first | omega | exact mp_bit_nn _ | exact mp_or_nn _ _)) ?_
            refine mp_invV (z := (mX11_bestChange, 1, 0, 0)) (K' := (0, 0)) (σ1 := A ++ (mp_cs s si sp f fi fp im hd kn wd ak ke cv vo so sz el ++ B)) (as := [mp_i 5, mp_i (mp_dif u (mp_bit t))]) (st := [mp_i 8, mp_i v]) (st1 := [mp_i (sc_bc s 0 5 (mp_dif u (mp_bit t))), mp_i 8, mp_i v]) dX11_bestChange_108 svX11_235 (mp_lkP hA 0 rfl) rfl rfl (zX11_bestChange5 (u := (mp_dif u (mp_bit t))) (s := s) (si := si) (sp := sp) (f := f) (fi := fi) (fp := fp) (im := im) (hd := hd) (kn := kn) (wd := wd) (ak := ak) (ke := ke) (cv := cv) (vo := vo) (so := so) (sz := sz) (el := el) (B := B) (by first | with_reducible assumption | omega) (by first | with_reducible assumption | omega) (hMt.mono hs.kd mp_stay_cs) ⟨mp_dif_nn _ _, mp_dif_lt (n := 8) h_u.2⟩ (fun k k0 hk => hub k k0 (mp_b_dif.mp hk).1)) ⟨Nat.le_of_ble_eq_true rfl, Nat.le_of_ble_eq_true rfl, Nat.le_of_ble_eq_true rfl, Nat.le_of_ble_eq_true rfl, Nat.le_of_ble_eq_true rfl⟩ rfl rfl rfl rfl ?_
            refine mp_iadd (z := 8 + (sc_bc s 0 5 (mp_dif u (mp_bit t)))) dX11_bestChange_111 (by first | rfl | omega) ?_
            refine mp_mmax (z := if v < 8 + (sc_bc s 0 5 (mp_dif u (mp_bit t))) then 8 + (sc_bc s 0 5 (mp_dif u (mp_bit t))) else v) dX11_bestChange_112 ssX11_238 (by decide) (Nat.le_of_ble_eq_true rfl) ⟨by decide, by decide⟩ ⟨by omega, by omega⟩ ⟨by omega, by omega⟩ rfl ?_
            refine mp_istore_n (L' := [some (Value.ref 1), some (mp_i 4), some (mp_i u), some (mp_i (if v < 8 + (sc_bc s 0 5 (mp_dif u (mp_bit t))) then 8 + (sc_bc s 0 5 (mp_dif u (mp_bit t))) else v)), some (mp_i t), some (mp_i 8)]) dX11_bestChange_115 rfl (by decide) rfl ?_
            refine mp_iinc (z := t + 1) (L' := [some (Value.ref 1), some (mp_i 4), some (mp_i u), some (mp_i (if v < 8 + (sc_bc s 0 5 (mp_dif u (mp_bit t))) then 8 + (sc_bc s 0 5 (mp_dif u (mp_bit t))) else v)), some (mp_i (t + 1)), some (mp_i 8)]) dX11_bestChange_116 rfl (rfl) (by decide) rfl ?_
            refine mp_goto (tgt := 35) dX11_bestChange_119 rfl ?_
            refine mp_drop (L' := [some (Value.ref 1), some (mp_i 4), some (mp_i u), some (mp_i (if v < 8 + (sc_bc s 0 5 (mp_dif u (mp_bit t))) then 8 + (sc_bc s 0 5 (mp_dif u (mp_bit t))) else v)), some (mp_i (t + 1)), none]) [true, true, true, true, true, false] rfl ?_
            have hw9 : sc_w s 4 t = 8 := by unfold sc_w; omega
            have e9 : (sc_bcStep s 0 4 u) t v = if v < 8 + (sc_bc s 0 5 (mp_dif u (mp_bit t))) then 8 + (sc_bc s 0 5 (mp_dif u (mp_bit t))) else v := by unfold sc_bcStep; rw [if_pos (by omega), hw9]; rfl
            have k9 := ih (t + 1) ((sc_bcStep s 0 4 u) t v) (by rw [e9]; omega) hk
            rw [e9] at k9
            exact k9
          · refine mp_iconst dX11_bestChange_85 ?_
            refine mp_goto (tgt := 90) dX11_bestChange_86 rfl ?_
            refine mp_iadd (z := 9) dX11_bestChange_90 (by first | rfl | omega) ?_
            refine mp_istore (L' := [some (Value.ref 1), some (mp_i 4), some (mp_i u), some (mp_i v), some (mp_i t), some (mp_i 9)]) dX11_bestChange_91 (by decide) rfl ?_
            refine mp_iload_n dX11_bestChange_93 rfl ?_
            refine mp_iload dX11_bestChange_94 rfl ?_
            refine mp_aload_n dX11_bestChange_96 rfl ?_
            refine mp_iload_n dX11_bestChange_97 rfl ?_
            refine mp_iconst dX11_bestChange_98 ?_
            refine mp_iadd (z := 5) dX11_bestChange_99 (by first | rfl | omega) ?_
            refine mp_iload_n dX11_bestChange_100 rfl ?_
            refine mp_iconst dX11_bestChange_101 ?_
            refine mp_iload dX11_bestChange_102 rfl ?_
            refine mp_ishl (z := mp_bit t) dX11_bestChange_104 (mp_z_bit ⟨by omega, by omega⟩) ?_
            refine mp_iconst dX11_bestChange_105 ?_
            refine mp_ixor (z := -1 - (mp_bit t)) dX11_bestChange_106 (mp_z_not _) ?_
            refine mp_iand (z := mp_dif u (mp_bit t)) dX11_bestChange_107 (mp_z_dif (by first | omega | exact mp_bit_nn _ | exact mp_or_nn _ _) (by first | omega | exact mp_bit_nn _ | exact mp_or_nn _ _)) ?_
            refine mp_invV (z := (mX11_bestChange, 1, 0, 0)) (K' := (0, 0)) (σ1 := A ++ (mp_cs s si sp f fi fp im hd kn wd ak ke cv vo so sz el ++ B)) (as := [mp_i 5, mp_i (mp_dif u (mp_bit t))]) (st := [mp_i 9, mp_i v]) (st1 := [mp_i (sc_bc s 0 5 (mp_dif u (mp_bit t))), mp_i 9, mp_i v]) dX11_bestChange_108 svX11_235 (mp_lkP hA 0 rfl) rfl rfl (zX11_bestChange5 (u := (mp_dif u (mp_bit t))) (s := s) (si := si) (sp := sp) (f := f) (fi := fi) (fp := fp) (im := im) (hd := hd) (kn := kn) (wd := wd) (ak := ak) (ke := ke) (cv := cv) (vo := vo) (so := so) (sz := sz) (el := el) (B := B) (by first | with_reducible assumption | omega) (by first | with_reducible assumption | omega) (hMt.mono hs.kd mp_stay_cs) ⟨mp_dif_nn _ _, mp_dif_lt (n := 8) h_u.2⟩ (fun k k0 hk => hub k k0 (mp_b_dif.mp hk).1)) ⟨Nat.le_of_ble_eq_true rfl, Nat.le_of_ble_eq_true rfl, Nat.le_of_ble_eq_true rfl, Nat.le_of_ble_eq_true rfl, Nat.le_of_ble_eq_true rfl⟩ rfl rfl rfl rfl ?_
            refine mp_iadd (z := 9 + (sc_bc s 0 5 (mp_dif u (mp_bit t)))) dX11_bestChange_111 (by first | rfl | omega) ?_
            refine mp_mmax (z := if v < 9 + (sc_bc s 0 5 (mp_dif u (mp_bit t))) then 9 + (sc_bc s 0 5 (mp_dif u (mp_bit t))) else v) dX11_bestChange_112 ssX11_238 (by decide) (Nat.le_of_ble_eq_true rfl) ⟨by decide, by decide⟩ ⟨by omega, by omega⟩ ⟨by omega, by omega⟩ rfl ?_
            refine mp_istore_n (L' := [some (Value.ref 1), some (mp_i 4), some (mp_i u), some (mp_i (if v < 9 + (sc_bc s 0 5 (mp_dif u (mp_bit t))) then 9 + (sc_bc s 0 5 (mp_dif u (mp_bit t))) else v)), some (mp_i t), some (mp_i 9)]) dX11_bestChange_115 rfl (by decide) rfl ?_
            refine mp_iinc (z := t + 1) (L' := [some (Value.ref 1), some (mp_i 4), some (mp_i u), some (mp_i (if v < 9 + (sc_bc s 0 5 (mp_dif u (mp_bit t))) then 9 + (sc_bc s 0 5 (mp_dif u (mp_bit t))) else v)), some (mp_i (t + 1)), some (mp_i 9)]) dX11_bestChange_116 rfl (rfl) (by decide) rfl ?_
            refine mp_goto (tgt := 35) dX11_bestChange_119 rfl ?_
            refine mp_drop (L' := [some (Value.ref 1), some (mp_i 4), some (mp_i u), some (mp_i (if v < 9 + (sc_bc s 0 5 (mp_dif u (mp_bit t))) then 9 + (sc_bc s 0 5 (mp_dif u (mp_bit t))) else v)), some (mp_i (t + 1)), none]) [true, true, true, true, true, false] rfl ?_
            have hw9 : sc_w s 4 t = 9 := by unfold sc_w; omega
            have e9 : (sc_bcStep s 0 4 u) t v = if v < 9 + (sc_bc s 0 5 (mp_dif u (mp_bit t))) then 9 + (sc_bc s 0 5 (mp_dif u (mp_bit t))) else v := by unfold sc_bcStep; rw [if_pos (by omega), hw9]; rfl
            have k9 := ih (t + 1) ((sc_bcStep s 0 4 u) t v) (by rw [e9]; omega) hk
            rw [e9] at k9
            exact k9
theorem zX11_bestChange4 {s si sp : Int → Int} {f fi fp : Nat → Option Nat} {im : Int} {hd : Int → Int} {kn : Nat → Option Nat} {wd ak ke cv vo so sz el : Int → Int} {A B : mp_H}  {u : Int} (hA : A.length = 1) (hs : mp_sky s) (hMt : mp_Mt (A ++ (mp_cs s si sp f fi fp im hd kn wd ak ke cv vo so sz el ++ B)) s f) (h_u : 0 ≤ u ∧ u < 256) (hub : ∀ k, 0 ≤ k → sp_b u k = 1 → k < s 0) : mp_Call (mX11_bestChange, 2, 0, 0) [Value.ref 1, mp_i 4, mp_i u] (A ++ (mp_cs s si sp f fi fp im hd kn wd ak ke cv vo so sz el ++ B)) (some (mp_i (sc_bc s 1 4 u)), A ++ (mp_cs s si sp f fi fp im hd kn wd ak ke cv vo so sz el ++ B)) := by
  refine mp_Call.of (L := [some (Value.ref 1), some (mp_i 4), some (mp_i u), none, none, none]) pnX11 (Nat.le_of_ble_eq_true rfl) rfl ?_
  have hz0 := hs.1
  have hl9 := hs.2.2.1 4 (by decide) (by decide)
  refine mp_iload_n dX11_bestChange_0 rfl ?_
  refine mp_iconst dX11_bestChange_1 ?_
  refine mp_icmp_lt (tgt := 7) dX11_bestChange_2 rfl ⟨by decide, by decide⟩ ⟨by decide, by decide⟩ (fun _ => ?_) (fun h1 => absurd h1 (by decide))
  refine mp_aload_n dX11_bestChange_7 rfl ?_
  refine mp_getfield dX11_bestChange_8 fsX11_10_10 (mp_lkP hA 0 rfl) rfl ?_
  refine mp_getfield dX11_bestChange_11 fsX11_133_8 (mp_lkP hA 1 rfl) rfl ?_
  refine mp_iload_n dX11_bestChange_14 rfl ?_
  refine mp_iald dX11_bestChange_15 (mp_lkP hA 6 rfl) ⟨by omega, by omega⟩ (by omega) ?_
  refine mp_top (y := s (49 + 3 * 4 + 2)) (sp_sai_in ⟨by omega, by omega⟩) ?_
  refine mp_bipush dX11_bestChange_16 rfl ?_
  refine mp_icmp_ne (tgt := 30) dX11_bestChange_18 rfl ⟨by omega, by omega⟩ ⟨by omega, by omega⟩ (fun h2 => ?_) (fun h2 => ?_)
  · refine mp_iconst dX11_bestChange_30 ?_
    refine mp_istore_n (L' := [some (Value.ref 1), some (mp_i 4), some (mp_i u), some (mp_i 0), none, none]) dX11_bestChange_31 rfl (by decide) rfl ?_
    refine mp_iconst dX11_bestChange_32 ?_
    refine mp_istore (L' := [some (Value.ref 1), some (mp_i 4), some (mp_i u), some (mp_i 0), some (mp_i 0), none]) dX11_bestChange_33 (by decide) rfl ?_
    refine lX11_bestChange4_35 (s := s) (si := si) (sp := sp) (f := f) (fi := fi) (fp := fp) (im := im) (hd := hd) (kn := kn) (wd := wd) (ak := ak) (ke := ke) (cv := cv) (vo := vo) (so := so) (sz := sz) (el := el) (B := B) (u := u) hA hs hMt h_u hub 8 0 0 (by omega) ?_
    refine mp_iload_n dX11_bestChange_122 rfl ?_
    exact mp_ireturn (st := []) dX11_bestChange_123 rfl ⟨by decide, by decide⟩ ((mp_ans (by first | exact sc_bc_s.trans (if_pos (by omega)) | exact sc_bc_s.trans (if_neg (by omega)))))
  · refine mp_aload_n dX11_bestChange_21 rfl ?_
    refine mp_iload_n dX11_bestChange_22 rfl ?_
    refine mp_iconst dX11_bestChange_23 ?_
    refine mp_iadd (z := 5) dX11_bestChange_24 (by first | rfl | omega) ?_
    refine mp_iload_n dX11_bestChange_25 rfl ?_
    refine mp_invV (z := (mX11_bestChange, 1, 0, 0)) (K' := (0, 0)) (σ1 := A ++ (mp_cs s si sp f fi fp im hd kn wd ak ke cv vo so sz el ++ B)) (as := [mp_i 5, mp_i u]) (st := []) (st1 := [mp_i (sc_bc s 0 5 u)]) dX11_bestChange_26 svX11_235 (mp_lkP hA 0 rfl) rfl rfl (zX11_bestChange5 (u := u) (s := s) (si := si) (sp := sp) (f := f) (fi := fi) (fp := fp) (im := im) (hd := hd) (kn := kn) (wd := wd) (ak := ak) (ke := ke) (cv := cv) (vo := vo) (so := so) (sz := sz) (el := el) (B := B) (by first | with_reducible assumption | omega) (by first | with_reducible assumption | omega) (hMt.mono hs.kd mp_stay_cs) (by first | with_reducible assumption | omega) hub) ⟨Nat.le_of_ble_eq_true rfl, Nat.le_of_ble_eq_true rfl, Nat.le_of_ble_eq_true rfl, Nat.le_of_ble_eq_true rfl, Nat.le_of_ble_eq_true rfl⟩ rfl rfl rfl rfl ?_
    exact mp_ireturn (st := []) dX11_bestChange_29 rfl ⟨by decide, by decide⟩ ((mp_ans (by first | exact sc_bc_s.trans (if_pos (by omega)) | exact sc_bc_s.trans (if_neg (by omega)))))
theorem lX11_bestChange3_35 {s si sp : Int → Int} {f fi fp : Nat → Option Nat} {im : Int} {hd : Int → Int} {kn : Nat → Option Nat} {wd ak ke cv vo so sz el : Int → Int} {A B : mp_H}  {u : Int} (hA : A.length = 1) (hs : mp_sky s) (hMt : mp_Mt (A ++ (mp_cs s si sp f fi fp im hd kn wd ak ke cv vo so sz el ++ B)) s f) (h_u : 0 ≤ u ∧ u < 256) (hub : ∀ k, 0 ≤ k → sp_b u k = 1 → k < s 0) {R9 : mp_An} : ∀ (n : Nat) (t : Int) (v : Int), ((0 ≤ t ∧ t + (n : Nat) = 8) ∧ 0 ≤ v ∧ v ≤ 18) → mp_At (mX11_bestChange, 3, 0, 0) (0, 0) 122 [some (Value.ref 1), some (mp_i 3), some (mp_i u), some (mp_i (mp_fold (sc_bcStep s 1 3 u) n t v)), none, none] [] (A ++ (mp_cs s si sp f fi fp im hd kn wd ak ke cv vo so sz el ++ B)) R9 → mp_At (mX11_bestChange, 3, 0, 0) (0, 0) 35 [some (Value.ref 1), some (mp_i 3), some (mp_i u), some (mp_i v), some (mp_i t), none] [] (A ++ (mp_cs s si sp f fi fp im hd kn wd ak ke cv vo so sz el ++ B)) R9 := by
  intro n
  induction n with
  | zero =>
    intro t v hi hk
    have hz0 := hs.1
    refine mp_iload dX11_bestChange_35 rfl ?_
    refine mp_bipush dX11_bestChange_37 rfl ?_
    refine mp_icmp_ge (tgt := 122) dX11_bestChange_39 rfl ⟨by omega, by omega⟩ ⟨by omega, by omega⟩ (fun h1 => ?_) (fun h1 => ?_)
    · refine mp_drop (L' := [some (Value.ref 1), some (mp_i 3), some (mp_i u), some (mp_i v), none, none]) [true, true, true, true, false, false] rfl ?_
      exact hk
    · exfalso; omega
  | succ n ih =>
    intro t v hi hk
    have hz0 := hs.1
    have hl9 := hs.2.2.1 3 (by decide) (by decide)
    have hbc := sc_bc_bd s 1 4 (mp_dif u (mp_bit t))
    have hbb := mp_b_bd u t
    have htm : sp_b u t = 1 → mp_met s t := fun h => hs.2.1 t (by omega) (hub t (by omega) h)
    have hbt := mp_bit_nn t
    have hdn := mp_dif_nn u (mp_bit t)
    refine mp_iload dX11_bestChange_35 rfl ?_
    refine mp_bipush dX11_bestChange_37 rfl ?_
    refine mp_icmp_ge (tgt := 122) dX11_bestChange_39 rfl ⟨by omega, by omega⟩ ⟨by omega, by omega⟩ (fun h1 => ?_) (fun h1 => ?_)
    · exfalso; omega
    · refine mp_iload_n dX11_bestChange_42 rfl ?_
      refine mp_iload dX11_bestChange_43 rfl ?_
      refine mp_invS (z := (mX11_hasBit, 0, 0, 0)) (K' := (0, 0)) (σ1 := A ++ (mp_cs s si sp f fi fp im hd kn wd ak ke cv vo so sz el ++ B)) (as := [mp_i u, mp_i t]) (st := []) (st1 := [mp_i (if sp_b u t ≠ 0 then 1 else 0)]) dX11_bestChange_45 ssX11_228 (zX11_hasBit (v := u) (k := t) (by first | with_reducible assumption | omega) (by first | with_reducible assumption | omega)) ⟨Nat.le_of_ble_eq_true rfl, Nat.le_of_ble_eq_true rfl, Nat.le_of_ble_eq_true rfl, Nat.le_of_ble_eq_true rfl, Nat.le_of_ble_eq_true rfl⟩ rfl rfl rfl rfl ?_
      refine mp_ifb_eq (tgt := 116) dX11_bestChange_48 rfl (fun h2 => ?_) (fun h2 => ?_)
      · refine mp_iinc (z := t + 1) (L' := [some (Value.ref 1), some (mp_i 3), some (mp_i u), some (mp_i v), some (mp_i (t + 1)), none]) dX11_bestChange_116 rfl (rfl) (by decide) rfl ?_
        refine mp_goto (tgt := 35) dX11_bestChange_119 rfl ?_
        have e9 : (sc_bcStep s 1 3 u) t v = v := by unfold sc_bcStep; rw [if_neg (by omega)]
        have k9 := ih (t + 1) ((sc_bcStep s 1 3 u) t v) (by rw [e9]; omega) hk
        rw [e9] at k9
        exact k9
      · have htm9 := htm (by omega)
        refine mp_aload_n dX11_bestChange_51 rfl ?_
        refine mp_getfield dX11_bestChange_52 fsX11_10_10 (mp_lkP hA 0 rfl) rfl ?_
        refine mp_getfield dX11_bestChange_55 fsX11_111_8 (mp_lkP hA 1 rfl) rfl ?_
        refine mp_iload dX11_bestChange_58 rfl ?_
        refine mp_iald dX11_bestChange_60 (mp_lkP hA 3 rfl) ⟨by omega, by omega⟩ (by omega) ?_
        refine mp_top (y := s (1 + 6 * t + 5)) (sp_isf_in ⟨by omega, by omega⟩) ?_
        refine mp_iload_n dX11_bestChange_61 rfl ?_
        refine mp_icmp_ne (tgt := 70) dX11_bestChange_62 rfl ⟨by omega, by omega⟩ ⟨by omega, by omega⟩ (fun h3 => ?_) (fun h3 => ?_)
        · refine mp_iconst dX11_bestChange_70 ?_
          refine mp_aload_n dX11_bestChange_71 rfl ?_
          refine mp_getfield dX11_bestChange_72 fsX11_10_10 (mp_lkP hA 0 rfl) rfl ?_
          refine mp_getfield dX11_bestChange_75 fsX11_133_8 (mp_lkP hA 1 rfl) rfl ?_
          refine mp_iload_n dX11_bestChange_78 rfl ?_
          refine mp_iald dX11_bestChange_79 (mp_lkP hA 6 rfl) ⟨by omega, by omega⟩ (by omega) ?_
          refine mp_top (y := s (49 + 3 * 3 + 2)) (sp_sai_in ⟨by omega, by omega⟩) ?_
          refine mp_iload dX11_bestChange_80 rfl ?_
          refine mp_icmp_ne (tgt := 89) dX11_bestChange_82 rfl ⟨by omega, by omega⟩ ⟨by omega, by omega⟩ (fun h4 => ?_) (fun h4 => ?_)
          · refine mp_iconst dX11_bestChange_89 ?_
            refine mp_iadd (z := 0) dX11_bestChange_90 (by first | rfl | omega) ?_
            refine mp_istore (L' := [some (Value.ref 1), some (mp_i 3), some (mp_i u), some (mp_i v), some (mp_i t), some (mp_i 0)]) dX11_bestChange_91 (by decide) rfl ?_
            refine mp_iload_n dX11_bestChange_93 rfl ?_
            refine mp_iload dX11_bestChange_94 rfl ?_
            refine mp_aload_n dX11_bestChange_96 rfl ?_
            refine mp_iload_n dX11_bestChange_97 rfl ?_
            refine mp_iconst dX11_bestChange_98 ?_
            refine mp_iadd (z := 4) dX11_bestChange_99 (by first | rfl | omega) ?_
            refine mp_iload_n dX11_bestChange_100 rfl ?_
            refine mp_iconst dX11_bestChange_101 ?_
            refine mp_iload dX11_bestChange_102 rfl ?_
            refine mp_ishl (z := mp_bit t) dX11_bestChange_104 (mp_z_bit ⟨by omega, by omega⟩) ?_
            refine mp_iconst dX11_bestChange_105 ?_
            refine mp_ixor (z := -1 - (mp_bit t)) dX11_bestChange_106 (mp_z_not _) ?_
            refine mp_iand (z := mp_dif u (mp_bit t)) dX11_bestChange_107 (mp_z_dif (by first | omega | exact mp_bit_nn _ | exact mp_or_nn _ _) (by first | omega | exact mp_bit_nn _ | exact mp_or_nn _ _)) ?_
            refine mp_invV (z := (mX11_bestChange, 2, 0, 0)) (K' := (0, 0)) (σ1 := A ++ (mp_cs s si sp f fi fp im hd kn wd ak ke cv vo so sz el ++ B)) (as := [mp_i 4, mp_i (mp_dif u (mp_bit t))]) (st := [mp_i 0, mp_i v]) (st1 := [mp_i (sc_bc s 1 4 (mp_dif u (mp_bit t))), mp_i 0, mp_i v]) dX11_bestChange_108 svX11_235 (mp_lkP hA 0 rfl) rfl rfl (zX11_bestChange4 (u := (mp_dif u (mp_bit t))) (s := s) (si := si) (sp := sp) (f := f) (fi := fi) (fp := fp) (im := im) (hd := hd) (kn := kn) (wd := wd) (ak := ak) (ke := ke) (cv := cv) (vo := vo) (so := so) (sz := sz) (el := el) (B := B) (by first | with_reducible assumption | omega) (by first | with_reducible assumption | omega) (hMt.mono hs.kd mp_stay_cs) ⟨mp_dif_nn _ _, mp_dif_lt (n := 8) h_u.2⟩ (fun k k0 hk => hub k k0 (mp_b_dif.mp hk).1)) ⟨Nat.le_of_ble_eq_true rfl, Nat.le_of_ble_eq_true rfl, Nat.le_of_ble_eq_true rfl, Nat.le_of_ble_eq_true rfl, Nat.le_of_ble_eq_true rfl⟩ rfl rfl rfl rfl ?_
            refine mp_iadd (z := 0 + (sc_bc s 1 4 (mp_dif u (mp_bit t)))) dX11_bestChange_111 (by first | rfl | omega) ?_
            refine mp_mmax (z := if v < 0 + (sc_bc s 1 4 (mp_dif u (mp_bit t))) then 0 + (sc_bc s 1 4 (mp_dif u (mp_bit t))) else v) dX11_bestChange_112 ssX11_238 (by decide) (Nat.le_of_ble_eq_true rfl) ⟨by decide, by decide⟩ ⟨by omega, by omega⟩ ⟨by omega, by omega⟩ rfl ?_
            refine mp_istore_n (L' := [some (Value.ref 1), some (mp_i 3), some (mp_i u), some (mp_i (if v < 0 + (sc_bc s 1 4 (mp_dif u (mp_bit t))) then 0 + (sc_bc s 1 4 (mp_dif u (mp_bit t))) else v)), some (mp_i t), some (mp_i 0)]) dX11_bestChange_115 rfl (by decide) rfl ?_
            refine mp_iinc (z := t + 1) (L' := [some (Value.ref 1), some (mp_i 3), some (mp_i u), some (mp_i (if v < 0 + (sc_bc s 1 4 (mp_dif u (mp_bit t))) then 0 + (sc_bc s 1 4 (mp_dif u (mp_bit t))) else v)), some (mp_i (t + 1)), some (mp_i 0)]) dX11_bestChange_116 rfl (rfl) (by decide) rfl ?_
            refine mp_goto (tgt := 35) dX11_bestChange_119 rfl ?_
            refine mp_drop (L' := [some (Value.ref 1), some (mp_i 3), some (mp_i u), some (mp_i (if v < 0 + (sc_bc s 1 4 (mp_dif u (mp_bit t))) then 0 + (sc_bc s 1 4 (mp_dif u (mp_bit t))) else v)), some (mp_i (t + 1)), none]) [true, true, true, true, true, false] rfl ?_
            have hw9 : sc_w s 3 t = 0 := by unfold sc_w; omega
            have e9 : (sc_bcStep s 1 3 u) t v = if v < 0 + (sc_bc s 1 4 (mp_dif u (mp_bit t))) then 0 + (sc_bc s 1 4 (mp_dif u (mp_bit t))) else v := by unfold sc_bcStep; rw [if_pos (by omega), hw9]; rfl
            have k9 := ih (t + 1) ((sc_bcStep s 1 3 u) t v) (by rw [e9]; omega) hk
            rw [e9] at k9
            exact k9
          · refine mp_iconst dX11_bestChange_85 ?_
            refine mp_goto (tgt := 90) dX11_bestChange_86 rfl ?_
            refine mp_iadd (z := 1) dX11_bestChange_90 (by first | rfl | omega) ?_
            refine mp_istore (L' := [some (Value.ref 1), some (mp_i 3), some (mp_i u), some (mp_i v), some (mp_i t), some (mp_i 1)]) dX11_bestChange_91 (by decide) rfl ?_
            refine mp_iload_n dX11_bestChange_93 rfl ?_
            refine mp_iload dX11_bestChange_94 rfl ?_
            refine mp_aload_n dX11_bestChange_96 rfl ?_
            refine mp_iload_n dX11_bestChange_97 rfl ?_
            refine mp_iconst dX11_bestChange_98 ?_
            refine mp_iadd (z := 4) dX11_bestChange_99 (by first | rfl | omega) ?_
            refine mp_iload_n dX11_bestChange_100 rfl ?_
            refine mp_iconst dX11_bestChange_101 ?_
            refine mp_iload dX11_bestChange_102 rfl ?_
            refine mp_ishl (z := mp_bit t) dX11_bestChange_104 (mp_z_bit ⟨by omega, by omega⟩) ?_
            refine mp_iconst dX11_bestChange_105 ?_
            refine mp_ixor (z := -1 - (mp_bit t)) dX11_bestChange_106 (mp_z_not _) ?_
            refine mp_iand (z := mp_dif u (mp_bit t)) dX11_bestChange_107 (mp_z_dif (by first | omega | exact mp_bit_nn _ | exact mp_or_nn _ _) (by first | omega | exact mp_bit_nn _ | exact mp_or_nn _ _)) ?_
            refine mp_invV (z := (mX11_bestChange, 2, 0, 0)) (K' := (0, 0)) (σ1 := A ++ (mp_cs s si sp f fi fp im hd kn wd ak ke cv vo so sz el ++ B)) (as := [mp_i 4, mp_i (mp_dif u (mp_bit t))]) (st := [mp_i 1, mp_i v]) (st1 := [mp_i (sc_bc s 1 4 (mp_dif u (mp_bit t))), mp_i 1, mp_i v]) dX11_bestChange_108 svX11_235 (mp_lkP hA 0 rfl) rfl rfl (zX11_bestChange4 (u := (mp_dif u (mp_bit t))) (s := s) (si := si) (sp := sp) (f := f) (fi := fi) (fp := fp) (im := im) (hd := hd) (kn := kn) (wd := wd) (ak := ak) (ke := ke) (cv := cv) (vo := vo) (so := so) (sz := sz) (el := el) (B := B) (by first | with_reducible assumption | omega) (by first | with_reducible assumption | omega) (hMt.mono hs.kd mp_stay_cs) ⟨mp_dif_nn _ _, mp_dif_lt (n := 8) h_u.2⟩ (fun k k0 hk => hub k k0 (mp_b_dif.mp hk).1)) ⟨Nat.le_of_ble_eq_true rfl, Nat.le_of_ble_eq_true rfl, Nat.le_of_ble_eq_true rfl, Nat.le_of_ble_eq_true rfl, Nat.le_of_ble_eq_true rfl⟩ rfl rfl rfl rfl ?_
            refine mp_iadd (z := 1 + (sc_bc s 1 4 (mp_dif u (mp_bit t)))) dX11_bestChange_111 (by first | rfl | omega) ?_
            refine mp_mmax (z := if v < 1 + (sc_bc s 1 4 (mp_dif u (mp_bit t))) then 1 + (sc_bc s 1 4 (mp_dif u (mp_bit t))) else v) dX11_bestChange_112 ssX11_238 (by decide) (Nat.le_of_ble_eq_true rfl) ⟨by decide, by decide⟩ ⟨by omega, by omega⟩ ⟨by omega, by omega⟩ rfl ?_
            refine mp_istore_n (L' := [some (Value.ref 1), some (mp_i 3), some (mp_i u), some (mp_i (if v < 1 + (sc_bc s 1 4 (mp_dif u (mp_bit t))) then 1 + (sc_bc s 1 4 (mp_dif u (mp_bit t))) else v)), some (mp_i t), some (mp_i 1)]) dX11_bestChange_115 rfl (by decide) rfl ?_
            refine mp_iinc (z := t + 1) (L' := [some (Value.ref 1), some (mp_i 3), some (mp_i u), some (mp_i (if v < 1 + (sc_bc s 1 4 (mp_dif u (mp_bit t))) then 1 + (sc_bc s 1 4 (mp_dif u (mp_bit t))) else v)), some (mp_i (t + 1)), some (mp_i 1)]) dX11_bestChange_116 rfl (rfl) (by decide) rfl ?_
            refine mp_goto (tgt := 35) dX11_bestChange_119 rfl ?_
            refine mp_drop (L' := [some (Value.ref 1), some (mp_i 3), some (mp_i u), some (mp_i (if v < 1 + (sc_bc s 1 4 (mp_dif u (mp_bit t))) then 1 + (sc_bc s 1 4 (mp_dif u (mp_bit t))) else v)), some (mp_i (t + 1)), none]) [true, true, true, true, true, false] rfl ?_
            have hw9 : sc_w s 3 t = 1 := by unfold sc_w; omega
            have e9 : (sc_bcStep s 1 3 u) t v = if v < 1 + (sc_bc s 1 4 (mp_dif u (mp_bit t))) then 1 + (sc_bc s 1 4 (mp_dif u (mp_bit t))) else v := by unfold sc_bcStep; rw [if_pos (by omega), hw9]; rfl
            have k9 := ih (t + 1) ((sc_bcStep s 1 3 u) t v) (by rw [e9]; omega) hk
            rw [e9] at k9
            exact k9
        · refine mp_bipush dX11_bestChange_65 rfl ?_
          refine mp_goto (tgt := 71) dX11_bestChange_67 rfl ?_
          refine mp_aload_n dX11_bestChange_71 rfl ?_
          refine mp_getfield dX11_bestChange_72 fsX11_10_10 (mp_lkP hA 0 rfl) rfl ?_
          refine mp_getfield dX11_bestChange_75 fsX11_133_8 (mp_lkP hA 1 rfl) rfl ?_
          refine mp_iload_n dX11_bestChange_78 rfl ?_
          refine mp_iald dX11_bestChange_79 (mp_lkP hA 6 rfl) ⟨by omega, by omega⟩ (by omega) ?_
          refine mp_top (y := s (49 + 3 * 3 + 2)) (sp_sai_in ⟨by omega, by omega⟩) ?_
          refine mp_iload dX11_bestChange_80 rfl ?_
          refine mp_icmp_ne (tgt := 89) dX11_bestChange_82 rfl ⟨by omega, by omega⟩ ⟨by omega, by omega⟩ (fun h5 => ?_) (fun h5 => ?_)
          · refine mp_iconst dX11_bestChange_89 ?_
            refine mp_iadd (z := 8) dX11_bestChange_90 (by first | rfl | omega) ?_
            refine mp_istore (L' := [some (Value.ref 1), some (mp_i 3), some (mp_i u), some (mp_i v), some (mp_i t), some (mp_i 8)]) dX11_bestChange_91 (by decide) rfl ?_
            refine mp_iload_n dX11_bestChange_93 rfl ?_
            refine mp_iload dX11_bestChange_94 rfl ?_
            refine mp_aload_n dX11_bestChange_96 rfl ?_
            refine mp_iload_n dX11_bestChange_97 rfl ?_
            refine mp_iconst dX11_bestChange_98 ?_
            refine mp_iadd (z := 4) dX11_bestChange_99 (by first | rfl | omega) ?_
            refine mp_iload_n dX11_bestChange_100 rfl ?_
            refine mp_iconst dX11_bestChange_101 ?_
            refine mp_iload dX11_bestChange_102 rfl ?_
            refine mp_ishl (z := mp_bit t) dX11_bestChange_104 (mp_z_bit ⟨by omega, by omega⟩) ?_
            refine mp_iconst dX11_bestChange_105 ?_
            refine mp_ixor (z := -1 - (mp_bit t)) dX11_bestChange_106 (mp_z_not _) ?_
            refine mp_iand (z := mp_dif u (mp_bit t)) dX11_bestChange_107 (mp_z_dif (by first | omega | exact mp_bit_nn _ | exact mp_or_nn _ _) (by first | omega | exact mp_bit_nn _ | exact mp_or_nn _ _)) ?_
            refine mp_invV (z := (mX11_bestChange, 2, 0, 0)) (K' := (0, 0)) (σ1 := A ++ (mp_cs s si sp f fi fp im hd kn wd ak ke cv vo so sz el ++ B)) (as := [mp_i 4, mp_i (mp_dif u (mp_bit t))]) (st := [mp_i 8, mp_i v]) (st1 := [mp_i (sc_bc s 1 4 (mp_dif u (mp_bit t))), mp_i 8, mp_i v]) dX11_bestChange_108 svX11_235 (mp_lkP hA 0 rfl) rfl rfl (zX11_bestChange4 (u := (mp_dif u (mp_bit t))) (s := s) (si := si) (sp := sp) (f := f) (fi := fi) (fp := fp) (im := im) (hd := hd) (kn := kn) (wd := wd) (ak := ak) (ke := ke) (cv := cv) (vo := vo) (so := so) (sz := sz) (el := el) (B := B) (by first | with_reducible assumption | omega) (by first | with_reducible assumption | omega) (hMt.mono hs.kd mp_stay_cs) ⟨mp_dif_nn _ _, mp_dif_lt (n := 8) h_u.2⟩ (fun k k0 hk => hub k k0 (mp_b_dif.mp hk).1)) ⟨Nat.le_of_ble_eq_true rfl, Nat.le_of_ble_eq_true rfl, Nat.le_of_ble_eq_true rfl, Nat.le_of_ble_eq_true rfl, Nat.le_of_ble_eq_true rfl⟩ rfl rfl rfl rfl ?_
            refine mp_iadd (z := 8 + (sc_bc s 1 4 (mp_dif u (mp_bit t)))) dX11_bestChange_111 (by first | rfl | omega) ?_
            refine mp_mmax (z := if v < 8 + (sc_bc s 1 4 (mp_dif u (mp_bit t))) then 8 + (sc_bc s 1 4 (mp_dif u (mp_bit t))) else v) dX11_bestChange_112 ssX11_238 (by decide) (Nat.le_of_ble_eq_true rfl) ⟨by decide, by decide⟩ ⟨by omega, by omega⟩ ⟨by omega, by omega⟩ rfl ?_
            refine mp_istore_n (L' := [some (Value.ref 1), some (mp_i 3), some (mp_i u), some (mp_i (if v < 8 + (sc_bc s 1 4 (mp_dif u (mp_bit t))) then 8 + (sc_bc s 1 4 (mp_dif u (mp_bit t))) else v)), some (mp_i t), some (mp_i 8)]) dX11_bestChange_115 rfl (by decide) rfl ?_
            refine mp_iinc (z := t + 1) (L' := [some (Value.ref 1), some (mp_i 3), some (mp_i u), some (mp_i (if v < 8 + (sc_bc s 1 4 (mp_dif u (mp_bit t))) then 8 + (sc_bc s 1 4 (mp_dif u (mp_bit t))) else v)), some (mp_i (t + 1)), some (mp_i 8)]) dX11_bestChange_116 rfl (rfl) (by decide) rfl ?_
            refine mp_goto (tgt := 35) dX11_bestChange_119 rfl ?_
            refine mp_drop (L' := [some (Value.ref 1), some (mp_i 3), some (mp_i u), some (mp_i (if v < 8 + (sc_bc s 1 4 (mp_dif u (mp_bit t))) then 8 + (sc_bc s 1 4 (mp_dif u (mp_bit t))) else v)), some (mp_i (t + 1)), none]) [true, true, true, true, true, false] rfl ?_
            have hw9 : sc_w s 3 t = 8 := by unfold sc_w; omega
            have e9 : (sc_bcStep s 1 3 u) t v = if v < 8 + (sc_bc s 1 4 (mp_dif u (mp_bit t))) then 8 + (sc_bc s 1 4 (mp_dif u (mp_bit t))) else v := by unfold sc_bcStep; rw [if_pos (by omega), hw9]; rfl
            have k9 := ih (t + 1) ((sc_bcStep s 1 3 u) t v) (by rw [e9]; omega) hk
            rw [e9] at k9
            exact k9
          · refine mp_iconst dX11_bestChange_85 ?_
            refine mp_goto (tgt := 90) dX11_bestChange_86 rfl ?_
            refine mp_iadd (z := 9) dX11_bestChange_90 (by first | rfl | omega) ?_
            refine mp_istore (L' := [some (Value.ref 1), some (mp_i 3), some (mp_i u), some (mp_i v), some (mp_i t), some (mp_i 9)]) dX11_bestChange_91 (by decide) rfl ?_
            refine mp_iload_n dX11_bestChange_93 rfl ?_
            refine mp_iload dX11_bestChange_94 rfl ?_
            refine mp_aload_n dX11_bestChange_96 rfl ?_
            refine mp_iload_n dX11_bestChange_97 rfl ?_
            refine mp_iconst dX11_bestChange_98 ?_
            refine mp_iadd (z := 4) dX11_bestChange_99 (by first | rfl | omega) ?_
            refine mp_iload_n dX11_bestChange_100 rfl ?_
            refine mp_iconst dX11_bestChange_101 ?_
            refine mp_iload dX11_bestChange_102 rfl ?_
            refine mp_ishl (z := mp_bit t) dX11_bestChange_104 (mp_z_bit ⟨by omega, by omega⟩) ?_
            refine mp_iconst dX11_bestChange_105 ?_
            refine mp_ixor (z := -1 - (mp_bit t)) dX11_bestChange_106 (mp_z_not _) ?_
            refine mp_iand (z := mp_dif u (mp_bit t)) dX11_bestChange_107 (mp_z_dif (by first | omega | exact mp_bit_nn _ | exact mp_or_nn _ _) (by first | omega | exact mp_bit_nn _ | exact mp_or_nn _ _)) ?_
            refine mp_invV (z := (mX11_bestChange, 2, 0, 0)) (K' := (0, 0)) (σ1 := A ++ (mp_cs s si sp f fi fp im hd kn wd ak ke cv vo so sz el ++ B)) (as := [mp_i 4, mp_i (mp_dif u (mp_bit t))]) (st := [mp_i 9, mp_i v]) (st1 := [mp_i (sc_bc s 1 4 (mp_dif u (mp_bit t))), mp_i 9, mp_i v]) dX11_bestChange_108 svX11_235 (mp_lkP hA 0 rfl) rfl rfl (zX11_bestChange4 (u := (mp_dif u (mp_bit t))) (s := s) (si := si) (sp := sp) (f := f) (fi := fi) (fp := fp) (im := im) (hd := hd) (kn := kn) (wd := wd) (ak := ak) (ke := ke) (cv := cv) (vo := vo) (so := so) (sz := sz) (el := el) (B := B) (by first | with_reducible assumption | omega) (by first | with_reducible assumption | omega) (hMt.mono hs.kd mp_stay_cs) ⟨mp_dif_nn _ _, mp_dif_lt (n := 8) h_u.2⟩ (fun k k0 hk => hub k k0 (mp_b_dif.mp hk).1)) ⟨Nat.le_of_ble_eq_true rfl, Nat.le_of_ble_eq_true rfl, Nat.le_of_ble_eq_true rfl, Nat.le_of_ble_eq_true rfl, Nat.le_of_ble_eq_true rfl⟩ rfl rfl rfl rfl ?_
            refine mp_iadd (z := 9 + (sc_bc s 1 4 (mp_dif u (mp_bit t)))) dX11_bestChange_111 (by first | rfl | omega) ?_
            refine mp_mmax (z := if v < 9 + (sc_bc s 1 4 (mp_dif u (mp_bit t))) then 9 + (sc_bc s 1 4 (mp_dif u (mp_bit t))) else v) dX11_bestChange_112 ssX11_238 (by decide) (Nat.le_of_ble_eq_true rfl) ⟨by decide, by decide⟩ ⟨by omega, by omega⟩ ⟨by omega, by omega⟩ rfl ?_
            refine mp_istore_n (L' := [some (Value.ref 1), some (mp_i 3), some (mp_i u), some (mp_i (if v < 9 + (sc_bc s 1 4 (mp_dif u (mp_bit t))) then 9 + (sc_bc s 1 4 (mp_dif u (mp_bit t))) else v)), some (mp_i t), some (mp_i 9)]) dX11_bestChange_115 rfl (by decide) rfl ?_
            refine mp_iinc (z := t + 1) (L' := [some (Value.ref 1), some (mp_i 3), some (mp_i u), some (mp_i (if v < 9 + (sc_bc s 1 4 (mp_dif u (mp_bit t))) then 9 + (sc_bc s 1 4 (mp_dif u (mp_bit t))) else v)), some (mp_i (t + 1)), some (mp_i 9)]) dX11_bestChange_116 rfl (rfl) (by decide) rfl ?_
            refine mp_goto (tgt := 35) dX11_bestChange_119 rfl ?_
            refine mp_drop (L' := [some (Value.ref 1), some (mp_i 3), some (mp_i u), some (mp_i (if v < 9 + (sc_bc s 1 4 (mp_dif u (mp_bit t))) then 9 + (sc_bc s 1 4 (mp_dif u (mp_bit t))) else v)), some (mp_i (t + 1)), none]) [true, true, true, true, true, false] rfl ?_
            have hw9 : sc_w s 3 t = 9 := by unfold sc_w; omega
            have e9 : (sc_bcStep s 1 3 u) t v = if v < 9 + (sc_bc s 1 4 (mp_dif u (mp_bit t))) then 9 + (sc_bc s 1 4 (mp_dif u (mp_bit t))) else v := by unfold sc_bcStep; rw [if_pos (by omega), hw9]; rfl
            have k9 := ih (t + 1) ((sc_bcStep s 1 3 u) t v) (by rw [e9]; omega) hk
            rw [e9] at k9
            exact k9
theorem zX11_bestChange3 {s si sp : Int → Int} {f fi fp : Nat → Option Nat} {im : Int} {hd : Int → Int} {kn : Nat → Option Nat} {wd ak ke cv vo so sz el : Int → Int} {A B : mp_H}  {u : Int} (hA : A.length = 1) (hs : mp_sky s) (hMt : mp_Mt (A ++ (mp_cs s si sp f fi fp im hd kn wd ak ke cv vo so sz el ++ B)) s f) (h_u : 0 ≤ u ∧ u < 256) (hub : ∀ k, 0 ≤ k → sp_b u k = 1 → k < s 0) : mp_Call (mX11_bestChange, 3, 0, 0) [Value.ref 1, mp_i 3, mp_i u] (A ++ (mp_cs s si sp f fi fp im hd kn wd ak ke cv vo so sz el ++ B)) (some (mp_i (sc_bc s 2 3 u)), A ++ (mp_cs s si sp f fi fp im hd kn wd ak ke cv vo so sz el ++ B)) := by
  refine mp_Call.of (L := [some (Value.ref 1), some (mp_i 3), some (mp_i u), none, none, none]) pnX11 (Nat.le_of_ble_eq_true rfl) rfl ?_
  have hz0 := hs.1
  have hl9 := hs.2.2.1 3 (by decide) (by decide)
  refine mp_iload_n dX11_bestChange_0 rfl ?_
  refine mp_iconst dX11_bestChange_1 ?_
  refine mp_icmp_lt (tgt := 7) dX11_bestChange_2 rfl ⟨by decide, by decide⟩ ⟨by decide, by decide⟩ (fun _ => ?_) (fun h1 => absurd h1 (by decide))
  refine mp_aload_n dX11_bestChange_7 rfl ?_
  refine mp_getfield dX11_bestChange_8 fsX11_10_10 (mp_lkP hA 0 rfl) rfl ?_
  refine mp_getfield dX11_bestChange_11 fsX11_133_8 (mp_lkP hA 1 rfl) rfl ?_
  refine mp_iload_n dX11_bestChange_14 rfl ?_
  refine mp_iald dX11_bestChange_15 (mp_lkP hA 6 rfl) ⟨by omega, by omega⟩ (by omega) ?_
  refine mp_top (y := s (49 + 3 * 3 + 2)) (sp_sai_in ⟨by omega, by omega⟩) ?_
  refine mp_bipush dX11_bestChange_16 rfl ?_
  refine mp_icmp_ne (tgt := 30) dX11_bestChange_18 rfl ⟨by omega, by omega⟩ ⟨by omega, by omega⟩ (fun h2 => ?_) (fun h2 => ?_)
  · refine mp_iconst dX11_bestChange_30 ?_
    refine mp_istore_n (L' := [some (Value.ref 1), some (mp_i 3), some (mp_i u), some (mp_i 0), none, none]) dX11_bestChange_31 rfl (by decide) rfl ?_
    refine mp_iconst dX11_bestChange_32 ?_
    refine mp_istore (L' := [some (Value.ref 1), some (mp_i 3), some (mp_i u), some (mp_i 0), some (mp_i 0), none]) dX11_bestChange_33 (by decide) rfl ?_
    refine lX11_bestChange3_35 (s := s) (si := si) (sp := sp) (f := f) (fi := fi) (fp := fp) (im := im) (hd := hd) (kn := kn) (wd := wd) (ak := ak) (ke := ke) (cv := cv) (vo := vo) (so := so) (sz := sz) (el := el) (B := B) (u := u) hA hs hMt h_u hub 8 0 0 (by omega) ?_
    refine mp_iload_n dX11_bestChange_122 rfl ?_
    exact mp_ireturn (st := []) dX11_bestChange_123 rfl ⟨by decide, by decide⟩ ((mp_ans (by first | exact sc_bc_s.trans (if_pos (by omega)) | exact sc_bc_s.trans (if_neg (by omega)))))
  · refine mp_aload_n dX11_bestChange_21 rfl ?_
    refine mp_iload_n dX11_bestChange_22 rfl ?_
    refine mp_iconst dX11_bestChange_23 ?_
    refine mp_iadd (z := 4) dX11_bestChange_24 (by first | rfl | omega) ?_
    refine mp_iload_n dX11_bestChange_25 rfl ?_
    refine mp_invV (z := (mX11_bestChange, 2, 0, 0)) (K' := (0, 0)) (σ1 := A ++ (mp_cs s si sp f fi fp im hd kn wd ak ke cv vo so sz el ++ B)) (as := [mp_i 4, mp_i u]) (st := []) (st1 := [mp_i (sc_bc s 1 4 u)]) dX11_bestChange_26 svX11_235 (mp_lkP hA 0 rfl) rfl rfl (zX11_bestChange4 (u := u) (s := s) (si := si) (sp := sp) (f := f) (fi := fi) (fp := fp) (im := im) (hd := hd) (kn := kn) (wd := wd) (ak := ak) (ke := ke) (cv := cv) (vo := vo) (so := so) (sz := sz) (el := el) (B := B) (by first | with_reducible assumption | omega) (by first | with_reducible assumption | omega) (hMt.mono hs.kd mp_stay_cs) (by first | with_reducible assumption | omega) hub) ⟨Nat.le_of_ble_eq_true rfl, Nat.le_of_ble_eq_true rfl, Nat.le_of_ble_eq_true rfl, Nat.le_of_ble_eq_true rfl, Nat.le_of_ble_eq_true rfl⟩ rfl rfl rfl rfl ?_
    exact mp_ireturn (st := []) dX11_bestChange_29 rfl ⟨by decide, by decide⟩ ((mp_ans (by first | exact sc_bc_s.trans (if_pos (by omega)) | exact sc_bc_s.trans (if_neg (by omega)))))
theorem lX11_bestChange2_35 {s si sp : Int → Int} {f fi fp : Nat → Option Nat} {im : Int} {hd : Int → Int} {kn : Nat → Option Nat} {wd ak ke cv vo so sz el : Int → Int} {A B : mp_H}  {u : Int} (hA : A.length = 1) (hs : mp_sky s) (hMt : mp_Mt (A ++ (mp_cs s si sp f fi fp im hd kn wd ak ke cv vo so sz el ++ B)) s f) (h_u : 0 ≤ u ∧ u < 256) (hub : ∀ k, 0 ≤ k → sp_b u k = 1 → k < s 0) {R9 : mp_An} : ∀ (n : Nat) (t : Int) (v : Int), ((0 ≤ t ∧ t + (n : Nat) = 8) ∧ 0 ≤ v ∧ v ≤ 27) → mp_At (mX11_bestChange, 4, 0, 0) (0, 0) 122 [some (Value.ref 1), some (mp_i 2), some (mp_i u), some (mp_i (mp_fold (sc_bcStep s 2 2 u) n t v)), none, none] [] (A ++ (mp_cs s si sp f fi fp im hd kn wd ak ke cv vo so sz el ++ B)) R9 → mp_At (mX11_bestChange, 4, 0, 0) (0, 0) 35 [some (Value.ref 1), some (mp_i 2), some (mp_i u), some (mp_i v), some (mp_i t), none] [] (A ++ (mp_cs s si sp f fi fp im hd kn wd ak ke cv vo so sz el ++ B)) R9 := by
  intro n
  induction n with
  | zero =>
    intro t v hi hk
    have hz0 := hs.1
    refine mp_iload dX11_bestChange_35 rfl ?_
    refine mp_bipush dX11_bestChange_37 rfl ?_
    refine mp_icmp_ge (tgt := 122) dX11_bestChange_39 rfl ⟨by omega, by omega⟩ ⟨by omega, by omega⟩ (fun h1 => ?_) (fun h1 => ?_)
    · refine mp_drop (L' := [some (Value.ref 1), some (mp_i 2), some (mp_i u), some (mp_i v), none, none]) [true, true, true, true, false, false] rfl ?_
      exact hk
    · exfalso; omega
  | succ n ih =>
    intro t v hi hk
    have hz0 := hs.1
    have hl9 := hs.2.2.1 2 (by decide) (by decide)
    have hbc := sc_bc_bd s 2 3 (mp_dif u (mp_bit t))
    have hbb := mp_b_bd u t
    have htm : sp_b u t = 1 → mp_met s t := fun h => hs.2.1 t (by omega) (hub t (by omega) h)
    have hbt := mp_bit_nn t
    have hdn := mp_dif_nn u (mp_bit t)
    refine mp_iload dX11_bestChange_35 rfl ?_
    refine mp_bipush dX11_bestChange_37 rfl ?_
    refine mp_icmp_ge (tgt := 122) dX11_bestChange_39 rfl ⟨by omega, by omega⟩ ⟨by omega, by omega⟩ (fun h1 => ?_) (fun h1 => ?_)
    · exfalso; omega
    · refine mp_iload_n dX11_bestChange_42 rfl ?_
      refine mp_iload dX11_bestChange_43 rfl ?_
      refine mp_invS (z := (mX11_hasBit, 0, 0, 0)) (K' := (0, 0)) (σ1 := A ++ (mp_cs s si sp f fi fp im hd kn wd ak ke cv vo so sz el ++ B)) (as := [mp_i u, mp_i t]) (st := []) (st1 := [mp_i (if sp_b u t ≠ 0 then 1 else 0)]) dX11_bestChange_45 ssX11_228 (zX11_hasBit (v := u) (k := t) (by first | with_reducible assumption | omega) (by first | with_reducible assumption | omega)) ⟨Nat.le_of_ble_eq_true rfl, Nat.le_of_ble_eq_true rfl, Nat.le_of_ble_eq_true rfl, Nat.le_of_ble_eq_true rfl, Nat.le_of_ble_eq_true rfl⟩ rfl rfl rfl rfl ?_
      refine mp_ifb_eq (tgt := 116) dX11_bestChange_48 rfl (fun h2 => ?_) (fun h2 => ?_)
      · refine mp_iinc (z := t + 1) (L' := [some (Value.ref 1), some (mp_i 2), some (mp_i u), some (mp_i v), some (mp_i (t + 1)), none]) dX11_bestChange_116 rfl (rfl) (by decide) rfl ?_
        refine mp_goto (tgt := 35) dX11_bestChange_119 rfl ?_
        have e9 : (sc_bcStep s 2 2 u) t v = v := by unfold sc_bcStep; rw [if_neg (by omega)]
        have k9 := ih (t + 1) ((sc_bcStep s 2 2 u) t v) (by rw [e9]; omega) hk
        rw [e9] at k9
        exact k9
      · have htm9 := htm (by omega)
        refine mp_aload_n dX11_bestChange_51 rfl ?_
        refine mp_getfield dX11_bestChange_52 fsX11_10_10 (mp_lkP hA 0 rfl) rfl ?_
        refine mp_getfield dX11_bestChange_55 fsX11_111_8 (mp_lkP hA 1 rfl) rfl ?_
        refine mp_iload dX11_bestChange_58 rfl ?_
        refine mp_iald dX11_bestChange_60 (mp_lkP hA 3 rfl) ⟨by omega, by omega⟩ (by omega) ?_
        refine mp_top (y := s (1 + 6 * t + 5)) (sp_isf_in ⟨by omega, by omega⟩) ?_
        refine mp_iload_n dX11_bestChange_61 rfl ?_
        refine mp_icmp_ne (tgt := 70) dX11_bestChange_62 rfl ⟨by omega, by omega⟩ ⟨by omega, by omega⟩ (fun h3 => ?_) (fun h3 => ?_)
        · refine mp_iconst dX11_bestChange_70 ?_
          refine mp_aload_n dX11_bestChange_71 rfl ?_
          refine mp_getfield dX11_bestChange_72 fsX11_10_10 (mp_lkP hA 0 rfl) rfl ?_
          refine mp_getfield dX11_bestChange_75 fsX11_133_8 (mp_lkP hA 1 rfl) rfl ?_
          refine mp_iload_n dX11_bestChange_78 rfl ?_
          refine mp_iald dX11_bestChange_79 (mp_lkP hA 6 rfl) ⟨by omega, by omega⟩ (by omega) ?_
          refine mp_top (y := s (49 + 3 * 2 + 2)) (sp_sai_in ⟨by omega, by omega⟩) ?_
          refine mp_iload dX11_bestChange_80 rfl ?_
          refine mp_icmp_ne (tgt := 89) dX11_bestChange_82 rfl ⟨by omega, by omega⟩ ⟨by omega, by omega⟩ (fun h4 => ?_) (fun h4 => ?_)
          · refine mp_iconst dX11_bestChange_89 ?_
            refine mp_iadd (z := 0) dX11_bestChange_90 (by first | rfl | omega) ?_
            refine mp_istore (L' := [some (Value.ref 1), some (mp_i 2), some (mp_i u), some (mp_i v), some (mp_i t), some (mp_i 0)]) dX11_bestChange_91 (by decide) rfl ?_
            refine mp_iload_n dX11_bestChange_93 rfl ?_
            refine mp_iload dX11_bestChange_94 rfl ?_
            refine mp_aload_n dX11_bestChange_96 rfl ?_
            refine mp_iload_n dX11_bestChange_97 rfl ?_
            refine mp_iconst dX11_bestChange_98 ?_
            refine mp_iadd (z := 3) dX11_bestChange_99 (by first | rfl | omega) ?_
            refine mp_iload_n dX11_bestChange_100 rfl ?_
            refine mp_iconst dX11_bestChange_101 ?_
            refine mp_iload dX11_bestChange_102 rfl ?_
            refine mp_ishl (z := mp_bit t) dX11_bestChange_104 (mp_z_bit ⟨by omega, by omega⟩) ?_
            refine mp_iconst dX11_bestChange_105 ?_
            refine mp_ixor (z := -1 - (mp_bit t)) dX11_bestChange_106 (mp_z_not _) ?_
            refine mp_iand (z := mp_dif u (mp_bit t)) dX11_bestChange_107 (mp_z_dif (by first | omega | exact mp_bit_nn _ | exact mp_or_nn _ _) (by first | omega | exact mp_bit_nn _ | exact mp_or_nn _ _)) ?_
            refine mp_invV (z := (mX11_bestChange, 3, 0, 0)) (K' := (0, 0)) (σ1 := A ++ (mp_cs s si sp f fi fp im hd kn wd ak ke cv vo so sz el ++ B)) (as := [mp_i 3, mp_i (mp_dif u (mp_bit t))]) (st := [mp_i 0, mp_i v]) (st1 := [mp_i (sc_bc s 2 3 (mp_dif u (mp_bit t))), mp_i 0, mp_i v]) dX11_bestChange_108 svX11_235 (mp_lkP hA 0 rfl) rfl rfl (zX11_bestChange3 (u := (mp_dif u (mp_bit t))) (s := s) (si := si) (sp := sp) (f := f) (fi := fi) (fp := fp) (im := im) (hd := hd) (kn := kn) (wd := wd) (ak := ak) (ke := ke) (cv := cv) (vo := vo) (so := so) (sz := sz) (el := el) (B := B) (by first | with_reducible assumption | omega) (by first | with_reducible assumption | omega) (hMt.mono hs.kd mp_stay_cs) ⟨mp_dif_nn _ _, mp_dif_lt (n := 8) h_u.2⟩ (fun k k0 hk => hub k k0 (mp_b_dif.mp hk).1)) ⟨Nat.le_of_ble_eq_true rfl, Nat.le_of_ble_eq_true rfl, Nat.le_of_ble_eq_true rfl, Nat.le_of_ble_eq_true rfl, Nat.le_of_ble_eq_true rfl⟩ rfl rfl rfl rfl ?_
            refine mp_iadd (z := 0 + (sc_bc s 2 3 (mp_dif u (mp_bit t)))) dX11_bestChange_111 (by first | rfl | omega) ?_
            refine mp_mmax (z := if v < 0 + (sc_bc s 2 3 (mp_dif u (mp_bit t))) then 0 + (sc_bc s 2 3 (mp_dif u (mp_bit t))) else v) dX11_bestChange_112 ssX11_238 (by decide) (Nat.le_of_ble_eq_true rfl) ⟨by decide, by decide⟩ ⟨by omega, by omega⟩ ⟨by omega, by omega⟩ rfl ?_
            refine mp_istore_n (L' := [some (Value.ref 1), some (mp_i 2), some (mp_i u), some (mp_i (if v < 0 + (sc_bc s 2 3 (mp_dif u (mp_bit t))) then 0 + (sc_bc s 2 3 (mp_dif u (mp_bit t))) else v)), some (mp_i t), some (mp_i 0)]) dX11_bestChange_115 rfl (by decide) rfl ?_
            refine mp_iinc (z := t + 1) (L' := [some (Value.ref 1), some (mp_i 2), some (mp_i u), some (mp_i (if v < 0 + (sc_bc s 2 3 (mp_dif u (mp_bit t))) then 0 + (sc_bc s 2 3 (mp_dif u (mp_bit t))) else v)), some (mp_i (t + 1)), some (mp_i 0)]) dX11_bestChange_116 rfl (rfl) (by decide) rfl ?_
            refine mp_goto (tgt := 35) dX11_bestChange_119 rfl ?_
            refine mp_drop (L' := [some (Value.ref 1), some (mp_i 2), some (mp_i u), some (mp_i (if v < 0 + (sc_bc s 2 3 (mp_dif u (mp_bit t))) then 0 + (sc_bc s 2 3 (mp_dif u (mp_bit t))) else v)), some (mp_i (t + 1)), none]) [true, true, true, true, true, false] rfl ?_
            have hw9 : sc_w s 2 t = 0 := by unfold sc_w; omega
            have e9 : (sc_bcStep s 2 2 u) t v = if v < 0 + (sc_bc s 2 3 (mp_dif u (mp_bit t))) then 0 + (sc_bc s 2 3 (mp_dif u (mp_bit t))) else v := by unfold sc_bcStep; rw [if_pos (by omega), hw9]; rfl
            have k9 := ih (t + 1) ((sc_bcStep s 2 2 u) t v) (by rw [e9]; omega) hk
            rw [e9] at k9
            exact k9
          · refine mp_iconst dX11_bestChange_85 ?_
            refine mp_goto (tgt := 90) dX11_bestChange_86 rfl ?_
            refine mp_iadd (z := 1) dX11_bestChange_90 (by first | rfl | omega) ?_
            refine mp_istore (L' := [some (Value.ref 1), some (mp_i 2), some (mp_i u), some (mp_i v), some (mp_i t), some (mp_i 1)]) dX11_bestChange_91 (by decide) rfl ?_
            refine mp_iload_n dX11_bestChange_93 rfl ?_
            refine mp_iload dX11_bestChange_94 rfl ?_
            refine mp_aload_n dX11_bestChange_96 rfl ?_
            refine mp_iload_n dX11_bestChange_97 rfl ?_
            refine mp_iconst dX11_bestChange_98 ?_
            refine mp_iadd (z := 3) dX11_bestChange_99 (by first | rfl | omega) ?_
            refine mp_iload_n dX11_bestChange_100 rfl ?_
            refine mp_iconst dX11_bestChange_101 ?_
            refine mp_iload dX11_bestChange_102 rfl ?_
            refine mp_ishl (z := mp_bit t) dX11_bestChange_104 (mp_z_bit ⟨by omega, by omega⟩) ?_
            refine mp_iconst dX11_bestChange_105 ?_
            refine mp_ixor (z := -1 - (mp_bit t)) dX11_bestChange_106 (mp_z_not _) ?_
            refine mp_iand (z := mp_dif u (mp_bit t)) dX11_bestChange_107 (mp_z_dif (by first | omega | exact mp_bit_nn _ | exact mp_or_nn _ _) (by first | omega | exact mp_bit_nn _ | exact mp_or_nn _ _)) ?_
            refine mp_invV (z := (mX11_bestChange, 3, 0, 0)) (K' := (0, 0)) (σ1 := A ++ (mp_cs s si sp f fi fp im hd kn wd ak ke cv vo so sz el ++ B)) (as := [mp_i 3, mp_i (mp_dif u (mp_bit t))]) (st := [mp_i 1, mp_i v]) (st1 := [mp_i (sc_bc s 2 3 (mp_dif u (mp_bit t))), mp_i 1, mp_i v]) dX11_bestChange_108 svX11_235 (mp_lkP hA 0 rfl) rfl rfl (zX11_bestChange3 (u := (mp_dif u (mp_bit t))) (s := s) (si := si) (sp := sp) (f := f) (fi := fi) (fp := fp) (im := im) (hd := hd) (kn := kn) (wd := wd) (ak := ak) (ke := ke) (cv := cv) (vo := vo) (so := so) (sz := sz) (el := el) (B := B) (by first | with_reducible assumption | omega) (by first | with_reducible assumption | omega) (hMt.mono hs.kd mp_stay_cs) ⟨mp_dif_nn _ _, mp_dif_lt (n := 8) h_u.2⟩ (fun k k0 hk => hub k k0 (mp_b_dif.mp hk).1)) ⟨Nat.le_of_ble_eq_true rfl, Nat.le_of_ble_eq_true rfl, Nat.le_of_ble_eq_true rfl, Nat.le_of_ble_eq_true rfl, Nat.le_of_ble_eq_true rfl⟩ rfl rfl rfl rfl ?_
            refine mp_iadd (z := 1 + (sc_bc s 2 3 (mp_dif u (mp_bit t)))) dX11_bestChange_111 (by first | rfl | omega) ?_
            refine mp_mmax (z := if v < 1 + (sc_bc s 2 3 (mp_dif u (mp_bit t))) then 1 + (sc_bc s 2 3 (mp_dif u (mp_bit t))) else v) dX11_bestChange_112 ssX11_238 (by decide) (Nat.le_of_ble_eq_true rfl) ⟨by decide, by decide⟩ ⟨by omega, by omega⟩ ⟨by omega, by omega⟩ rfl ?_
            refine mp_istore_n (L' := [some (Value.ref 1), some (mp_i 2), some (mp_i u), some (mp_i (if v < 1 + (sc_bc s 2 3 (mp_dif u (mp_bit t))) then 1 + (sc_bc s 2 3 (mp_dif u (mp_bit t))) else v)), some (mp_i t), some (mp_i 1)]) dX11_bestChange_115 rfl (by decide) rfl ?_
            refine mp_iinc (z := t + 1) (L' := [some (Value.ref 1), some (mp_i 2), some (mp_i u), some (mp_i (if v < 1 + (sc_bc s 2 3 (mp_dif u (mp_bit t))) then 1 + (sc_bc s 2 3 (mp_dif u (mp_bit t))) else v)), some (mp_i (t + 1)), some (mp_i 1)]) dX11_bestChange_116 rfl (rfl) (by decide) rfl ?_
            refine mp_goto (tgt := 35) dX11_bestChange_119 rfl ?_
            refine mp_drop (L' := [some (Value.ref 1), some (mp_i 2), some (mp_i u), some (mp_i (if v < 1 + (sc_bc s 2 3 (mp_dif u (mp_bit t))) then 1 + (sc_bc s 2 3 (mp_dif u (mp_bit t))) else v)), some (mp_i (t + 1)), none]) [true, true, true, true, true, false] rfl ?_
            have hw9 : sc_w s 2 t = 1 := by unfold sc_w; omega
            have e9 : (sc_bcStep s 2 2 u) t v = if v < 1 + (sc_bc s 2 3 (mp_dif u (mp_bit t))) then 1 + (sc_bc s 2 3 (mp_dif u (mp_bit t))) else v := by unfold sc_bcStep; rw [if_pos (by omega), hw9]; rfl
            have k9 := ih (t + 1) ((sc_bcStep s 2 2 u) t v) (by rw [e9]; omega) hk
            rw [e9] at k9
            exact k9
        · refine mp_bipush dX11_bestChange_65 rfl ?_
          refine mp_goto (tgt := 71) dX11_bestChange_67 rfl ?_
          refine mp_aload_n dX11_bestChange_71 rfl ?_
          refine mp_getfield dX11_bestChange_72 fsX11_10_10 (mp_lkP hA 0 rfl) rfl ?_
          refine mp_getfield dX11_bestChange_75 fsX11_133_8 (mp_lkP hA 1 rfl) rfl ?_
          refine mp_iload_n dX11_bestChange_78 rfl ?_
          refine mp_iald dX11_bestChange_79 (mp_lkP hA 6 rfl) ⟨by omega, by omega⟩ (by omega) ?_
          refine mp_top (y := s (49 + 3 * 2 + 2)) (sp_sai_in ⟨by omega, by omega⟩) ?_
          refine mp_iload dX11_bestChange_80 rfl ?_
          refine mp_icmp_ne (tgt := 89) dX11_bestChange_82 rfl ⟨by omega, by omega⟩ ⟨by omega, by omega⟩ (fun h5 => ?_) (fun h5 => ?_)
          · refine mp_iconst dX11_bestChange_89 ?_
            refine mp_iadd (z := 8) dX11_bestChange_90 (by first | rfl | omega) ?_
            refine mp_istore (L' := [some (Value.ref 1), some (mp_i 2), some (mp_i u), some (mp_i v), some (mp_i t), some (mp_i 8)]) dX11_bestChange_91 (by decide) rfl ?_
            refine mp_iload_n dX11_bestChange_93 rfl ?_
            refine mp_iload dX11_bestChange_94 rfl ?_
            refine mp_aload_n dX11_bestChange_96 rfl ?_
            refine mp_iload_n dX11_bestChange_97 rfl ?_
            refine mp_iconst dX11_bestChange_98 ?_
            refine mp_iadd (z := 3) dX11_bestChange_99 (by first | rfl | omega) ?_
            refine mp_iload_n dX11_bestChange_100 rfl ?_
            refine mp_iconst dX11_bestChange_101 ?_
            refine mp_iload dX11_bestChange_102 rfl ?_
            refine mp_ishl (z := mp_bit t) dX11_bestChange_104 (mp_z_bit ⟨by omega, by omega⟩) ?_
            refine mp_iconst dX11_bestChange_105 ?_
            refine mp_ixor (z := -1 - (mp_bit t)) dX11_bestChange_106 (mp_z_not _) ?_
            refine mp_iand (z := mp_dif u (mp_bit t)) dX11_bestChange_107 (mp_z_dif (by first | omega | exact mp_bit_nn _ | exact mp_or_nn _ _) (by first | omega | exact mp_bit_nn _ | exact mp_or_nn _ _)) ?_
            refine mp_invV (z := (mX11_bestChange, 3, 0, 0)) (K' := (0, 0)) (σ1 := A ++ (mp_cs s si sp f fi fp im hd kn wd ak ke cv vo so sz el ++ B)) (as := [mp_i 3, mp_i (mp_dif u (mp_bit t))]) (st := [mp_i 8, mp_i v]) (st1 := [mp_i (sc_bc s 2 3 (mp_dif u (mp_bit t))), mp_i 8, mp_i v]) dX11_bestChange_108 svX11_235 (mp_lkP hA 0 rfl) rfl rfl (zX11_bestChange3 (u := (mp_dif u (mp_bit t))) (s := s) (si := si) (sp := sp) (f := f) (fi := fi) (fp := fp) (im := im) (hd := hd) (kn := kn) (wd := wd) (ak := ak) (ke := ke) (cv := cv) (vo := vo) (so := so) (sz := sz) (el := el) (B := B) (by first | with_reducible assumption | omega) (by first | with_reducible assumption | omega) (hMt.mono hs.kd mp_stay_cs) ⟨mp_dif_nn _ _, mp_dif_lt (n := 8) h_u.2⟩ (fun k k0 hk => hub k k0 (mp_b_dif.mp hk).1)) ⟨Nat.le_of_ble_eq_true rfl, Nat.le_of_ble_eq_true rfl, Nat.le_of_ble_eq_true rfl, Nat.le_of_ble_eq_true rfl, Nat.le_of_ble_eq_true rfl⟩ rfl rfl rfl rfl ?_
            refine mp_iadd (z := 8 + (sc_bc s 2 3 (mp_dif u (mp_bit t)))) dX11_bestChange_111 (by first | rfl | omega) ?_
            refine mp_mmax (z := if v < 8 + (sc_bc s 2 3 (mp_dif u (mp_bit t))) then 8 + (sc_bc s 2 3 (mp_dif u (mp_bit t))) else v) dX11_bestChange_112 ssX11_238 (by decide) (Nat.le_of_ble_eq_true rfl) ⟨by decide, by decide⟩ ⟨by omega, by omega⟩ ⟨by omega, by omega⟩ rfl ?_
            refine mp_istore_n (L' := [some (Value.ref 1), some (mp_i 2), some (mp_i u), some (mp_i (if v < 8 + (sc_bc s 2 3 (mp_dif u (mp_bit t))) then 8 + (sc_bc s 2 3 (mp_dif u (mp_bit t))) else v)), some (mp_i t), some (mp_i 8)]) dX11_bestChange_115 rfl (by decide) rfl ?_
            refine mp_iinc (z := t + 1) (L' := [some (Value.ref 1), some (mp_i 2), some (mp_i u), some (mp_i (if v < 8 + (sc_bc s 2 3 (mp_dif u (mp_bit t))) then 8 + (sc_bc s 2 3 (mp_dif u (mp_bit t))) else v)), some (mp_i (t + 1)), some (mp_i 8)]) dX11_bestChange_116 rfl (rfl) (by decide) rfl ?_
            refine mp_goto (tgt := 35) dX11_bestChange_119 rfl ?_
            refine mp_drop (L' := [some (Value.ref 1), some (mp_i 2), some (mp_i u), some (mp_i (if v < 8 + (sc_bc s 2 3 (mp_dif u (mp_bit t))) then 8 + (sc_bc s 2 3 (mp_dif u (mp_bit t))) else v)), some (mp_i (t + 1)), none]) [true, true, true, true, true, false] rfl ?_
            have hw9 : sc_w s 2 t = 8 := by unfold sc_w; omega
            have e9 : (sc_bcStep s 2 2 u) t v = if v < 8 + (sc_bc s 2 3 (mp_dif u (mp_bit t))) then 8 + (sc_bc s 2 3 (mp_dif u (mp_bit t))) else v := by unfold sc_bcStep; rw [if_pos (by omega), hw9]; rfl
            have k9 := ih (t + 1) ((sc_bcStep s 2 2 u) t v) (by rw [e9]; omega) hk
            rw [e9] at k9
            exact k9
          · refine mp_iconst dX11_bestChange_85 ?_
            refine mp_goto (tgt := 90) dX11_bestChange_86 rfl ?_
            refine mp_iadd (z := 9) dX11_bestChange_90 (by first | rfl | omega) ?_
            refine mp_istore (L' := [some (Value.ref 1), some (mp_i 2), some (mp_i u), some (mp_i v), some (mp_i t), some (mp_i 9)]) dX11_bestChange_91 (by decide) rfl ?_
            refine mp_iload_n dX11_bestChange_93 rfl ?_
            refine mp_iload dX11_bestChange_94 rfl ?_
            refine mp_aload_n dX11_bestChange_96 rfl ?_
            refine mp_iload_n dX11_bestChange_97 rfl ?_
            refine mp_iconst dX11_bestChange_98 ?_
            refine mp_iadd (z := 3) dX11_bestChange_99 (by first | rfl | omega) ?_
            refine mp_iload_n dX11_bestChange_100 rfl ?_
            refine mp_iconst dX11_bestChange_101 ?_
            refine mp_iload dX11_bestChange_102 rfl ?_
            refine mp_ishl (z := mp_bit t) dX11_bestChange_104 (mp_z_bit ⟨by omega, by omega⟩) ?_
            refine mp_iconst dX11_bestChange_105 ?_
            refine mp_ixor (z := -1 - (mp_bit t)) dX11_bestChange_106 (mp_z_not _) ?_
            refine mp_iand (z := mp_dif u (mp_bit t)) dX11_bestChange_107 (mp_z_dif (by first | omega | exact mp_bit_nn _ | exact mp_or_nn _ _) (by first | omega | exact mp_bit_nn _ | exact mp_or_nn _ _)) ?_
            refine mp_invV (z := (mX11_bestChange, 3, 0, 0)) (K' := (0, 0)) (σ1 := A ++ (mp_cs s si sp f fi fp im hd kn wd ak ke cv vo so sz el ++ B)) (as := [mp_i 3, mp_i (mp_dif u (mp_bit t))]) (st := [mp_i 9, mp_i v]) (st1 := [mp_i (sc_bc s 2 3 (mp_dif u (mp_bit t))), mp_i 9, mp_i v]) dX11_bestChange_108 svX11_235 (mp_lkP hA 0 rfl) rfl rfl (zX11_bestChange3 (u := (mp_dif u (mp_bit t))) (s := s) (si := si) (sp := sp) (f := f) (fi := fi) (fp := fp) (im := im) (hd := hd) (kn := kn) (wd := wd) (ak := ak) (ke := ke) (cv := cv) (vo := vo) (so := so) (sz := sz) (el := el) (B := B) (by first | with_reducible assumption | omega) (by first | with_reducible assumption | omega) (hMt.mono hs.kd mp_stay_cs) ⟨mp_dif_nn _ _, mp_dif_lt (n := 8) h_u.2⟩ (fun k k0 hk => hub k k0 (mp_b_dif.mp hk).1)) ⟨Nat.le_of_ble_eq_true rfl, Nat.le_of_ble_eq_true rfl, Nat.le_of_ble_eq_true rfl, Nat.le_of_ble_eq_true rfl, Nat.le_of_ble_eq_true rfl⟩ rfl rfl rfl rfl ?_
            refine mp_iadd (z := 9 + (sc_bc s 2 3 (mp_dif u (mp_bit t)))) dX11_bestChange_111 (by first | rfl | omega) ?_
            refine mp_mmax (z := if v < 9 + (sc_bc s 2 3 (mp_dif u (mp_bit t))) then 9 + (sc_bc s 2 3 (mp_dif u (mp_bit t))) else v) dX11_bestChange_112 ssX11_238 (by decide) (Nat.le_of_ble_eq_true rfl) ⟨by decide, by decide⟩ ⟨by omega, by omega⟩ ⟨by omega, by omega⟩ rfl ?_
            refine mp_istore_n (L' := [some (Value.ref 1), some (mp_i 2), some (mp_i u), some (mp_i (if v < 9 + (sc_bc s 2 3 (mp_dif u (mp_bit t))) then 9 + (sc_bc s 2 3 (mp_dif u (mp_bit t))) else v)), some (mp_i t), some (mp_i 9)]) dX11_bestChange_115 rfl (by decide) rfl ?_
            refine mp_iinc (z := t + 1) (L' := [some (Value.ref 1), some (mp_i 2), some (mp_i u), some (mp_i (if v < 9 + (sc_bc s 2 3 (mp_dif u (mp_bit t))) then 9 + (sc_bc s 2 3 (mp_dif u (mp_bit t))) else v)), some (mp_i (t + 1)), some (mp_i 9)]) dX11_bestChange_116 rfl (rfl) (by decide) rfl ?_
            refine mp_goto (tgt := 35) dX11_bestChange_119 rfl ?_
            refine mp_drop (L' := [some (Value.ref 1), some (mp_i 2), some (mp_i u), some (mp_i (if v < 9 + (sc_bc s 2 3 (mp_dif u (mp_bit t))) then 9 + (sc_bc s 2 3 (mp_dif u (mp_bit t))) else v)), some (mp_i (t + 1)), none]) [true, true, true, true, true, false] rfl ?_
            have hw9 : sc_w s 2 t = 9 := by unfold sc_w; omega
            have e9 : (sc_bcStep s 2 2 u) t v = if v < 9 + (sc_bc s 2 3 (mp_dif u (mp_bit t))) then 9 + (sc_bc s 2 3 (mp_dif u (mp_bit t))) else v := by unfold sc_bcStep; rw [if_pos (by omega), hw9]; rfl
            have k9 := ih (t + 1) ((sc_bcStep s 2 2 u) t v) (by rw [e9]; omega) hk
            rw [e9] at k9
            exact k9
theorem zX11_bestChange2 {s si sp : Int → Int} {f fi fp : Nat → Option Nat} {im : Int} {hd : Int → Int} {kn : Nat → Option Nat} {wd ak ke cv vo so sz el : Int → Int} {A B : mp_H}  {u : Int} (hA : A.length = 1) (hs : mp_sky s) (hMt : mp_Mt (A ++ (mp_cs s si sp f fi fp im hd kn wd ak ke cv vo so sz el ++ B)) s f) (h_u : 0 ≤ u ∧ u < 256) (hub : ∀ k, 0 ≤ k → sp_b u k = 1 → k < s 0) : mp_Call (mX11_bestChange, 4, 0, 0) [Value.ref 1, mp_i 2, mp_i u] (A ++ (mp_cs s si sp f fi fp im hd kn wd ak ke cv vo so sz el ++ B)) (some (mp_i (sc_bc s 3 2 u)), A ++ (mp_cs s si sp f fi fp im hd kn wd ak ke cv vo so sz el ++ B)) := by
  refine mp_Call.of (L := [some (Value.ref 1), some (mp_i 2), some (mp_i u), none, none, none]) pnX11 (Nat.le_of_ble_eq_true rfl) rfl ?_
  have hz0 := hs.1
  have hl9 := hs.2.2.1 2 (by decide) (by decide)
  refine mp_iload_n dX11_bestChange_0 rfl ?_
  refine mp_iconst dX11_bestChange_1 ?_
  refine mp_icmp_lt (tgt := 7) dX11_bestChange_2 rfl ⟨by decide, by decide⟩ ⟨by decide, by decide⟩ (fun _ => ?_) (fun h1 => absurd h1 (by decide))
  refine mp_aload_n dX11_bestChange_7 rfl ?_
  refine mp_getfield dX11_bestChange_8 fsX11_10_10 (mp_lkP hA 0 rfl) rfl ?_
  refine mp_getfield dX11_bestChange_11 fsX11_133_8 (mp_lkP hA 1 rfl) rfl ?_
  refine mp_iload_n dX11_bestChange_14 rfl ?_
  refine mp_iald dX11_bestChange_15 (mp_lkP hA 6 rfl) ⟨by omega, by omega⟩ (by omega) ?_
  refine mp_top (y := s (49 + 3 * 2 + 2)) (sp_sai_in ⟨by omega, by omega⟩) ?_
  refine mp_bipush dX11_bestChange_16 rfl ?_
  refine mp_icmp_ne (tgt := 30) dX11_bestChange_18 rfl ⟨by omega, by omega⟩ ⟨by omega, by omega⟩ (fun h2 => ?_) (fun h2 => ?_)
  · refine mp_iconst dX11_bestChange_30 ?_
    refine mp_istore_n (L' := [some (Value.ref 1), some (mp_i 2), some (mp_i u), some (mp_i 0), none, none]) dX11_bestChange_31 rfl (by decide) rfl ?_
    refine mp_iconst dX11_bestChange_32 ?_
    refine mp_istore (L' := [some (Value.ref 1), some (mp_i 2), some (mp_i u), some (mp_i 0), some (mp_i 0), none]) dX11_bestChange_33 (by decide) rfl ?_
    refine lX11_bestChange2_35 (s := s) (si := si) (sp := sp) (f := f) (fi := fi) (fp := fp) (im := im) (hd := hd) (kn := kn) (wd := wd) (ak := ak) (ke := ke) (cv := cv) (vo := vo) (so := so) (sz := sz) (el := el) (B := B) (u := u) hA hs hMt h_u hub 8 0 0 (by omega) ?_
    refine mp_iload_n dX11_bestChange_122 rfl ?_
    exact mp_ireturn (st := []) dX11_bestChange_123 rfl ⟨by decide, by decide⟩ ((mp_ans (by first | exact sc_bc_s.trans (if_pos (by omega)) | exact sc_bc_s.trans (if_neg (by omega)))))
  · refine mp_aload_n dX11_bestChange_21 rfl ?_
    refine mp_iload_n dX11_bestChange_22 rfl ?_
    refine mp_iconst dX11_bestChange_23 ?_
    refine mp_iadd (z := 3) dX11_bestChange_24 (by first | rfl | omega) ?_
    refine mp_iload_n dX11_bestChange_25 rfl ?_
    refine mp_invV (z := (mX11_bestChange, 3, 0, 0)) (K' := (0, 0)) (σ1 := A ++ (mp_cs s si sp f fi fp im hd kn wd ak ke cv vo so sz el ++ B)) (as := [mp_i 3, mp_i u]) (st := []) (st1 := [mp_i (sc_bc s 2 3 u)]) dX11_bestChange_26 svX11_235 (mp_lkP hA 0 rfl) rfl rfl (zX11_bestChange3 (u := u) (s := s) (si := si) (sp := sp) (f := f) (fi := fi) (fp := fp) (im := im) (hd := hd) (kn := kn) (wd := wd) (ak := ak) (ke := ke) (cv := cv) (vo := vo) (so := so) (sz := sz) (el := el) (B := B) (by first | with_reducible assumption | omega) (by first | with_reducible assumption | omega) (hMt.mono hs.kd mp_stay_cs) (by first | with_reducible assumption | omega) hub) ⟨Nat.le_of_ble_eq_true rfl, Nat.le_of_ble_eq_true rfl, Nat.le_of_ble_eq_true rfl, Nat.le_of_ble_eq_true rfl, Nat.le_of_ble_eq_true rfl⟩ rfl rfl rfl rfl ?_
    exact mp_ireturn (st := []) dX11_bestChange_29 rfl ⟨by decide, by decide⟩ ((mp_ans (by first | exact sc_bc_s.trans (if_pos (by omega)) | exact sc_bc_s.trans (if_neg (by omega)))))
theorem lX11_bestChange1_35 {s si sp : Int → Int} {f fi fp : Nat → Option Nat} {im : Int} {hd : Int → Int} {kn : Nat → Option Nat} {wd ak ke cv vo so sz el : Int → Int} {A B : mp_H}  {u : Int} (hA : A.length = 1) (hs : mp_sky s) (hMt : mp_Mt (A ++ (mp_cs s si sp f fi fp im hd kn wd ak ke cv vo so sz el ++ B)) s f) (h_u : 0 ≤ u ∧ u < 256) (hub : ∀ k, 0 ≤ k → sp_b u k = 1 → k < s 0) {R9 : mp_An} : ∀ (n : Nat) (t : Int) (v : Int), ((0 ≤ t ∧ t + (n : Nat) = 8) ∧ 0 ≤ v ∧ v ≤ 36) → mp_At (mX11_bestChange, 5, 0, 0) (0, 0) 122 [some (Value.ref 1), some (mp_i 1), some (mp_i u), some (mp_i (mp_fold (sc_bcStep s 3 1 u) n t v)), none, none] [] (A ++ (mp_cs s si sp f fi fp im hd kn wd ak ke cv vo so sz el ++ B)) R9 → mp_At (mX11_bestChange, 5, 0, 0) (0, 0) 35 [some (Value.ref 1), some (mp_i 1), some (mp_i u), some (mp_i v), some (mp_i t), none] [] (A ++ (mp_cs s si sp f fi fp im hd kn wd ak ke cv vo so sz el ++ B)) R9 := by
  intro n
  induction n with
  | zero =>
    intro t v hi hk
    have hz0 := hs.1
    refine mp_iload dX11_bestChange_35 rfl ?_
    refine mp_bipush dX11_bestChange_37 rfl ?_
    refine mp_icmp_ge (tgt := 122) dX11_bestChange_39 rfl ⟨by omega, by omega⟩ ⟨by omega, by omega⟩ (fun h1 => ?_) (fun h1 => ?_)
    · refine mp_drop (L' := [some (Value.ref 1), some (mp_i 1), some (mp_i u), some (mp_i v), none, none]) [true, true, true, true, false, false] rfl ?_
      exact hk
    · exfalso; omega
  | succ n ih =>
    intro t v hi hk
    have hz0 := hs.1
    have hl9 := hs.2.2.1 1 (by decide) (by decide)
    have hbc := sc_bc_bd s 3 2 (mp_dif u (mp_bit t))
    have hbb := mp_b_bd u t
    have htm : sp_b u t = 1 → mp_met s t := fun h => hs.2.1 t (by omega) (hub t (by omega) h)
    have hbt := mp_bit_nn t
    have hdn := mp_dif_nn u (mp_bit t)
    refine mp_iload dX11_bestChange_35 rfl ?_
    refine mp_bipush dX11_bestChange_37 rfl ?_
    refine mp_icmp_ge (tgt := 122) dX11_bestChange_39 rfl ⟨by omega, by omega⟩ ⟨by omega, by omega⟩ (fun h1 => ?_) (fun h1 => ?_)
    · exfalso; omega
    · refine mp_iload_n dX11_bestChange_42 rfl ?_
      refine mp_iload dX11_bestChange_43 rfl ?_
      refine mp_invS (z := (mX11_hasBit, 0, 0, 0)) (K' := (0, 0)) (σ1 := A ++ (mp_cs s si sp f fi fp im hd kn wd ak ke cv vo so sz el ++ B)) (as := [mp_i u, mp_i t]) (st := []) (st1 := [mp_i (if sp_b u t ≠ 0 then 1 else 0)]) dX11_bestChange_45 ssX11_228 (zX11_hasBit (v := u) (k := t) (by first | with_reducible assumption | omega) (by first | with_reducible assumption | omega)) ⟨Nat.le_of_ble_eq_true rfl, Nat.le_of_ble_eq_true rfl, Nat.le_of_ble_eq_true rfl, Nat.le_of_ble_eq_true rfl, Nat.le_of_ble_eq_true rfl⟩ rfl rfl rfl rfl ?_
      refine mp_ifb_eq (tgt := 116) dX11_bestChange_48 rfl (fun h2 => ?_) (fun h2 => ?_)
      · refine mp_iinc (z := t + 1) (L' := [some (Value.ref 1), some (mp_i 1), some (mp_i u), some (mp_i v), some (mp_i (t + 1)), none]) dX11_bestChange_116 rfl (rfl) (by decide) rfl ?_
        refine mp_goto (tgt := 35) dX11_bestChange_119 rfl ?_
        have e9 : (sc_bcStep s 3 1 u) t v = v := by unfold sc_bcStep; rw [if_neg (by omega)]
        have k9 := ih (t + 1) ((sc_bcStep s 3 1 u) t v) (by rw [e9]; omega) hk
        rw [e9] at k9
        exact k9
      · have htm9 := htm (by omega)
        refine mp_aload_n dX11_bestChange_51 rfl ?_
        refine mp_getfield dX11_bestChange_52 fsX11_10_10 (mp_lkP hA 0 rfl) rfl ?_
        refine mp_getfield dX11_bestChange_55 fsX11_111_8 (mp_lkP hA 1 rfl) rfl ?_
        refine mp_iload dX11_bestChange_58 rfl ?_
        refine mp_iald dX11_bestChange_60 (mp_lkP hA 3 rfl) ⟨by omega, by omega⟩ (by omega) ?_
        refine mp_top (y := s (1 + 6 * t + 5)) (sp_isf_in ⟨by omega, by omega⟩) ?_
        refine mp_iload_n dX11_bestChange_61 rfl ?_
        refine mp_icmp_ne (tgt := 70) dX11_bestChange_62 rfl ⟨by omega, by omega⟩ ⟨by omega, by omega⟩ (fun h3 => ?_) (fun h3 => ?_)
        · refine mp_iconst dX11_bestChange_70 ?_
          refine mp_aload_n dX11_bestChange_71 rfl ?_
          refine mp_getfield dX11_bestChange_72 fsX11_10_10 (mp_lkP hA 0 rfl) rfl ?_
          refine mp_getfield dX11_bestChange_75 fsX11_133_8 (mp_lkP hA 1 rfl) rfl ?_
          refine mp_iload_n dX11_bestChange_78 rfl ?_
          refine mp_iald dX11_bestChange_79 (mp_lkP hA 6 rfl) ⟨by omega, by omega⟩ (by omega) ?_
          refine mp_top (y := s (49 + 3 * 1 + 2)) (sp_sai_in ⟨by omega, by omega⟩) ?_
          refine mp_iload dX11_bestChange_80 rfl ?_
          refine mp_icmp_ne (tgt := 89) dX11_bestChange_82 rfl ⟨by omega, by omega⟩ ⟨by omega, by omega⟩ (fun h4 => ?_) (fun h4 => ?_)
          · refine mp_iconst dX11_bestChange_89 ?_
            refine mp_iadd (z := 0) dX11_bestChange_90 (by first | rfl | omega) ?_
            refine mp_istore (L' := [some (Value.ref 1), some (mp_i 1), some (mp_i u), some (mp_i v), some (mp_i t), some (mp_i 0)]) dX11_bestChange_91 (by decide) rfl ?_
            refine mp_iload_n dX11_bestChange_93 rfl ?_
            refine mp_iload dX11_bestChange_94 rfl ?_
            refine mp_aload_n dX11_bestChange_96 rfl ?_
            refine mp_iload_n dX11_bestChange_97 rfl ?_
            refine mp_iconst dX11_bestChange_98 ?_
            refine mp_iadd (z := 2) dX11_bestChange_99 (by first | rfl | omega) ?_
            refine mp_iload_n dX11_bestChange_100 rfl ?_
            refine mp_iconst dX11_bestChange_101 ?_
            refine mp_iload dX11_bestChange_102 rfl ?_
            refine mp_ishl (z := mp_bit t) dX11_bestChange_104 (mp_z_bit ⟨by omega, by omega⟩) ?_
            refine mp_iconst dX11_bestChange_105 ?_
            refine mp_ixor (z := -1 - (mp_bit t)) dX11_bestChange_106 (mp_z_not _) ?_
            refine mp_iand (z := mp_dif u (mp_bit t)) dX11_bestChange_107 (mp_z_dif (by first | omega | exact mp_bit_nn _ | exact mp_or_nn _ _) (by first | omega | exact mp_bit_nn _ | exact mp_or_nn _ _)) ?_
            refine mp_invV (z := (mX11_bestChange, 4, 0, 0)) (K' := (0, 0)) (σ1 := A ++ (mp_cs s si sp f fi fp im hd kn wd ak ke cv vo so sz el ++ B)) (as := [mp_i 2, mp_i (mp_dif u (mp_bit t))]) (st := [mp_i 0, mp_i v]) (st1 := [mp_i (sc_bc s 3 2 (mp_dif u (mp_bit t))), mp_i 0, mp_i v]) dX11_bestChange_108 svX11_235 (mp_lkP hA 0 rfl) rfl rfl (zX11_bestChange2 (u := (mp_dif u (mp_bit t))) (s := s) (si := si) (sp := sp) (f := f) (fi := fi) (fp := fp) (im := im) (hd := hd) (kn := kn) (wd := wd) (ak := ak) (ke := ke) (cv := cv) (vo := vo) (so := so) (sz := sz) (el := el) (B := B) (by first | with_reducible assumption | omega) (by first | with_reducible assumption | omega) (hMt.mono hs.kd mp_stay_cs) ⟨mp_dif_nn _ _, mp_dif_lt (n := 8) h_u.2⟩ (fun k k0 hk => hub k k0 (mp_b_dif.mp hk).1)) ⟨Nat.le_of_ble_eq_true rfl, Nat.le_of_ble_eq_true rfl, Nat.le_of_ble_eq_true rfl, Nat.le_of_ble_eq_true rfl, Nat.le_of_ble_eq_true rfl⟩ rfl rfl rfl rfl ?_
            refine mp_iadd (z := 0 + (sc_bc s 3 2 (mp_dif u (mp_bit t)))) dX11_bestChange_111 (by first | rfl | omega) ?_
            refine mp_mmax (z := if v < 0 + (sc_bc s 3 2 (mp_dif u (mp_bit t))) then 0 + (sc_bc s 3 2 (mp_dif u (mp_bit t))) else v) dX11_bestChange_112 ssX11_238 (by decide) (Nat.le_of_ble_eq_true rfl) ⟨by decide, by decide⟩ ⟨by omega, by omega⟩ ⟨by omega, by omega⟩ rfl ?_
            refine mp_istore_n (L' := [some (Value.ref 1), some (mp_i 1), some (mp_i u), some (mp_i (if v < 0 + (sc_bc s 3 2 (mp_dif u (mp_bit t))) then 0 + (sc_bc s 3 2 (mp_dif u (mp_bit t))) else v)), some (mp_i t), some (mp_i 0)]) dX11_bestChange_115 rfl (by decide) rfl ?_
            refine mp_iinc (z := t + 1) (L' := [some (Value.ref 1), some (mp_i 1), some (mp_i u), some (mp_i (if v < 0 + (sc_bc s 3 2 (mp_dif u (mp_bit t))) then 0 + (sc_bc s 3 2 (mp_dif u (mp_bit t))) else v)), some (mp_i (t + 1)), some (mp_i 0)]) dX11_bestChange_116 rfl (rfl) (by decide) rfl ?_
            refine mp_goto (tgt := 35) dX11_bestChange_119 rfl ?_
            refine mp_drop (L' := [some (Value.ref 1), some (mp_i 1), some (mp_i u), some (mp_i (if v < 0 + (sc_bc s 3 2 (mp_dif u (mp_bit t))) then 0 + (sc_bc s 3 2 (mp_dif u (mp_bit t))) else v)), some (mp_i (t + 1)), none]) [true, true, true, true, true, false] rfl ?_
            have hw9 : sc_w s 1 t = 0 := by unfold sc_w; omega
            have e9 : (sc_bcStep s 3 1 u) t v = if v < 0 + (sc_bc s 3 2 (mp_dif u (mp_bit t))) then 0 + (sc_bc s 3 2 (mp_dif u (mp_bit t))) else v := by unfold sc_bcStep; rw [if_pos (by omega), hw9]; rfl
            have k9 := ih (t + 1) ((sc_bcStep s 3 1 u) t v) (by rw [e9]; omega) hk
            rw [e9] at k9
            exact k9
          · refine mp_iconst dX11_bestChange_85 ?_
            refine mp_goto (tgt := 90) dX11_bestChange_86 rfl ?_
            refine mp_iadd (z := 1) dX11_bestChange_90 (by first | rfl | omega) ?_
            refine mp_istore (L' := [some (Value.ref 1), some (mp_i 1), some (mp_i u), some (mp_i v), some (mp_i t), some (mp_i 1)]) dX11_bestChange_91 (by decide) rfl ?_
            refine mp_iload_n dX11_bestChange_93 rfl ?_
            refine mp_iload dX11_bestChange_94 rfl ?_
            refine mp_aload_n dX11_bestChange_96 rfl ?_
            refine mp_iload_n dX11_bestChange_97 rfl ?_
            refine mp_iconst dX11_bestChange_98 ?_
            refine mp_iadd (z := 2) dX11_bestChange_99 (by first | rfl | omega) ?_
            refine mp_iload_n dX11_bestChange_100 rfl ?_
            refine mp_iconst dX11_bestChange_101 ?_
            refine mp_iload dX11_bestChange_102 rfl ?_
            refine mp_ishl (z := mp_bit t) dX11_bestChange_104 (mp_z_bit ⟨by omega, by omega⟩) ?_
            refine mp_iconst dX11_bestChange_105 ?_
            refine mp_ixor (z := -1 - (mp_bit t)) dX11_bestChange_106 (mp_z_not _) ?_
            refine mp_iand (z := mp_dif u (mp_bit t)) dX11_bestChange_107 (mp_z_dif (by first | omega | exact mp_bit_nn _ | exact mp_or_nn _ _) (by first | omega | exact mp_bit_nn _ | exact mp_or_nn _ _)) ?_
            refine mp_invV (z := (mX11_bestChange, 4, 0, 0)) (K' := (0, 0)) (σ1 := A ++ (mp_cs s si sp f fi fp im hd kn wd ak ke cv vo so sz el ++ B)) (as := [mp_i 2, mp_i (mp_dif u (mp_bit t))]) (st := [mp_i 1, mp_i v]) (st1 := [mp_i (sc_bc s 3 2 (mp_dif u (mp_bit t))), mp_i 1, mp_i v]) dX11_bestChange_108 svX11_235 (mp_lkP hA 0 rfl) rfl rfl (zX11_bestChange2 (u := (mp_dif u (mp_bit t))) (s := s) (si := si) (sp := sp) (f := f) (fi := fi) (fp := fp) (im := im) (hd := hd) (kn := kn) (wd := wd) (ak := ak) (ke := ke) (cv := cv) (vo := vo) (so := so) (sz := sz) (el := el) (B := B) (by first | with_reducible assumption | omega) (by first | with_reducible assumption | omega) (hMt.mono hs.kd mp_stay_cs) ⟨mp_dif_nn _ _, mp_dif_lt (n := 8) h_u.2⟩ (fun k k0 hk => hub k k0 (mp_b_dif.mp hk).1)) ⟨Nat.le_of_ble_eq_true rfl, Nat.le_of_ble_eq_true rfl, Nat.le_of_ble_eq_true rfl, Nat.le_of_ble_eq_true rfl, Nat.le_of_ble_eq_true rfl⟩ rfl rfl rfl rfl ?_
            refine mp_iadd (z := 1 + (sc_bc s 3 2 (mp_dif u (mp_bit t)))) dX11_bestChange_111 (by first | rfl | omega) ?_
            refine mp_mmax (z := if v < 1 + (sc_bc s 3 2 (mp_dif u (mp_bit t))) then 1 + (sc_bc s 3 2 (mp_dif u (mp_bit t))) else v) dX11_bestChange_112 ssX11_238 (by decide) (Nat.le_of_ble_eq_true rfl) ⟨by decide, by decide⟩ ⟨by omega, by omega⟩ ⟨by omega, by omega⟩ rfl ?_
            refine mp_istore_n (L' := [some (Value.ref 1), some (mp_i 1), some (mp_i u), some (mp_i (if v < 1 + (sc_bc s 3 2 (mp_dif u (mp_bit t))) then 1 + (sc_bc s 3 2 (mp_dif u (mp_bit t))) else v)), some (mp_i t), some (mp_i 1)]) dX11_bestChange_115 rfl (by decide) rfl ?_
            refine mp_iinc (z := t + 1) (L' := [some (Value.ref 1), some (mp_i 1), some (mp_i u), some (mp_i (if v < 1 + (sc_bc s 3 2 (mp_dif u (mp_bit t))) then 1 + (sc_bc s 3 2 (mp_dif u (mp_bit t))) else v)), some (mp_i (t + 1)), some (mp_i 1)]) dX11_bestChange_116 rfl (rfl) (by decide) rfl ?_
            refine mp_goto (tgt := 35) dX11_bestChange_119 rfl ?_
            refine mp_drop (L' := [some (Value.ref 1), some (mp_i 1), some (mp_i u), some (mp_i (if v < 1 + (sc_bc s 3 2 (mp_dif u (mp_bit t))) then 1 + (sc_bc s 3 2 (mp_dif u (mp_bit t))) else v)), some (mp_i (t + 1)), none]) [true, true, true, true, true, false] rfl ?_
            have hw9 : sc_w s 1 t = 1 := by unfold sc_w; omega
            have e9 : (sc_bcStep s 3 1 u) t v = if v < 1 + (sc_bc s 3 2 (mp_dif u (mp_bit t))) then 1 + (sc_bc s 3 2 (mp_dif u (mp_bit t))) else v := by unfold sc_bcStep; rw [if_pos (by omega), hw9]; rfl
            have k9 := ih (t + 1) ((sc_bcStep s 3 1 u) t v) (by rw [e9]; omega) hk
            rw [e9] at k9
            exact k9
        · refine mp_bipush dX11_bestChange_65 rfl ?_
          refine mp_goto (tgt := 71) dX11_bestChange_67 rfl ?_
          refine mp_aload_n dX11_bestChange_71 rfl ?_
          refine mp_getfield dX11_bestChange_72 fsX11_10_10 (mp_lkP hA 0 rfl) rfl ?_
          refine mp_getfield dX11_bestChange_75 fsX11_133_8 (mp_lkP hA 1 rfl) rfl ?_
          refine mp_iload_n dX11_bestChange_78 rfl ?_
          refine mp_iald dX11_bestChange_79 (mp_lkP hA 6 rfl) ⟨by omega, by omega⟩ (by omega) ?_
          refine mp_top (y := s (49 + 3 * 1 + 2)) (sp_sai_in ⟨by omega, by omega⟩) ?_
          refine mp_iload dX11_bestChange_80 rfl ?_
          refine mp_icmp_ne (tgt := 89) dX11_bestChange_82 rfl ⟨by omega, by omega⟩ ⟨by omega, by omega⟩ (fun h5 => ?_) (fun h5 => ?_)
          · refine mp_iconst dX11_bestChange_89 ?_
            refine mp_iadd (z := 8) dX11_bestChange_90 (by first | rfl | omega) ?_
            refine mp_istore (L' := [some (Value.ref 1), some (mp_i 1), some (mp_i u), some (mp_i v), some (mp_i t), some (mp_i 8)]) dX11_bestChange_91 (by decide) rfl ?_
            refine mp_iload_n dX11_bestChange_93 rfl ?_
            refine mp_iload dX11_bestChange_94 rfl ?_
            refine mp_aload_n dX11_bestChange_96 rfl ?_
            refine mp_iload_n dX11_bestChange_97 rfl ?_
            refine mp_iconst dX11_bestChange_98 ?_
            refine mp_iadd (z := 2) dX11_bestChange_99 (by first | rfl | omega) ?_
            refine mp_iload_n dX11_bestChange_100 rfl ?_
            refine mp_iconst dX11_bestChange_101 ?_
            refine mp_iload dX11_bestChange_102 rfl ?_
            refine mp_ishl (z := mp_bit t) dX11_bestChange_104 (mp_z_bit ⟨by omega, by omega⟩) ?_
            refine mp_iconst dX11_bestChange_105 ?_
            refine mp_ixor (z := -1 - (mp_bit t)) dX11_bestChange_106 (mp_z_not _) ?_
            refine mp_iand (z := mp_dif u (mp_bit t)) dX11_bestChange_107 (mp_z_dif (by first | omega | exact mp_bit_nn _ | exact mp_or_nn _ _) (by first | omega | exact mp_bit_nn _ | exact mp_or_nn _ _)) ?_
            refine mp_invV (z := (mX11_bestChange, 4, 0, 0)) (K' := (0, 0)) (σ1 := A ++ (mp_cs s si sp f fi fp im hd kn wd ak ke cv vo so sz el ++ B)) (as := [mp_i 2, mp_i (mp_dif u (mp_bit t))]) (st := [mp_i 8, mp_i v]) (st1 := [mp_i (sc_bc s 3 2 (mp_dif u (mp_bit t))), mp_i 8, mp_i v]) dX11_bestChange_108 svX11_235 (mp_lkP hA 0 rfl) rfl rfl (zX11_bestChange2 (u := (mp_dif u (mp_bit t))) (s := s) (si := si) (sp := sp) (f := f) (fi := fi) (fp := fp) (im := im) (hd := hd) (kn := kn) (wd := wd) (ak := ak) (ke := ke) (cv := cv) (vo := vo) (so := so) (sz := sz) (el := el) (B := B) (by first | with_reducible assumption | omega) (by first | with_reducible assumption | omega) (hMt.mono hs.kd mp_stay_cs) ⟨mp_dif_nn _ _, mp_dif_lt (n := 8) h_u.2⟩ (fun k k0 hk => hub k k0 (mp_b_dif.mp hk).1)) ⟨Nat.le_of_ble_eq_true rfl, Nat.le_of_ble_eq_true rfl, Nat.le_of_ble_eq_true rfl, Nat.le_of_ble_eq_true rfl, Nat.le_of_ble_eq_true rfl⟩ rfl rfl rfl rfl ?_
            refine mp_iadd (z := 8 + (sc_bc s 3 2 (mp_dif u (mp_bit t)))) dX11_bestChange_111 (by first | rfl | omega) ?_
            refine mp_mmax (z := if v < 8 + (sc_bc s 3 2 (mp_dif u (mp_bit t))) then 8 + (sc_bc s 3 2 (mp_dif u (mp_bit t))) else v) dX11_bestChange_112 ssX11_238 (by decide) (Nat.le_of_ble_eq_true rfl) ⟨by decide, by decide⟩ ⟨by omega, by omega⟩ ⟨by omega, by omega⟩ rfl ?_
            refine mp_istore_n (L' := [some (Value.ref 1), some (mp_i 1), some (mp_i u), some (mp_i (if v < 8 + (sc_bc s 3 2 (mp_dif u (mp_bit t))) then 8 + (sc_bc s 3 2 (mp_dif u (mp_bit t))) else v)), some (mp_i t), some (mp_i 8)]) dX11_bestChange_115 rfl (by decide) rfl ?_
            refine mp_iinc (z := t + 1) (L' := [some (Value.ref 1), some (mp_i 1), some (mp_i u), some (mp_i (if v < 8 + (sc_bc s 3 2 (mp_dif u (mp_bit t))) then 8 + (sc_bc s 3 2 (mp_dif u (mp_bit t))) else v)), some (mp_i (t + 1)), some (mp_i 8)]) dX11_bestChange_116 rfl (rfl) (by decide) rfl ?_
            refine mp_goto (tgt := 35) dX11_bestChange_119 rfl ?_
            refine mp_drop (L' := [some (Value.ref 1), some (mp_i 1), some (mp_i u), some (mp_i (if v < 8 + (sc_bc s 3 2 (mp_dif u (mp_bit t))) then 8 + (sc_bc s 3 2 (mp_dif u (mp_bit t))) else v)), some (mp_i (t + 1)), none]) [true, true, true, true, true, false] rfl ?_
            have hw9 : sc_w s 1 t = 8 := by unfold sc_w; omega
            have e9 : (sc_bcStep s 3 1 u) t v = if v < 8 + (sc_bc s 3 2 (mp_dif u (mp_bit t))) then 8 + (sc_bc s 3 2 (mp_dif u (mp_bit t))) else v := by unfold sc_bcStep; rw [if_pos (by omega), hw9]; rfl
            have k9 := ih (t + 1) ((sc_bcStep s 3 1 u) t v) (by rw [e9]; omega) hk
            rw [e9] at k9
            exact k9
          · refine mp_iconst dX11_bestChange_85 ?_
            refine mp_goto (tgt := 90) dX11_bestChange_86 rfl ?_
            refine mp_iadd (z := 9) dX11_bestChange_90 (by first | rfl | omega) ?_
            refine mp_istore (L' := [some (Value.ref 1), some (mp_i 1), some (mp_i u), some (mp_i v), some (mp_i t), some (mp_i 9)]) dX11_bestChange_91 (by decide) rfl ?_
            refine mp_iload_n dX11_bestChange_93 rfl ?_
            refine mp_iload dX11_bestChange_94 rfl ?_
            refine mp_aload_n dX11_bestChange_96 rfl ?_
            refine mp_iload_n dX11_bestChange_97 rfl ?_
            refine mp_iconst dX11_bestChange_98 ?_
            refine mp_iadd (z := 2) dX11_bestChange_99 (by first | rfl | omega) ?_
            refine mp_iload_n dX11_bestChange_100 rfl ?_
            refine mp_iconst dX11_bestChange_101 ?_
            refine mp_iload dX11_bestChange_102 rfl ?_
            refine mp_ishl (z := mp_bit t) dX11_bestChange_104 (mp_z_bit ⟨by omega, by omega⟩) ?_
            refine mp_iconst dX11_bestChange_105 ?_
            refine mp_ixor (z := -1 - (mp_bit t)) dX11_bestChange_106 (mp_z_not _) ?_
            refine mp_iand (z := mp_dif u (mp_bit t)) dX11_bestChange_107 (mp_z_dif (by first | omega | exact mp_bit_nn _ | exact mp_or_nn _ _) (by first | omega | exact mp_bit_nn _ | exact mp_or_nn _ _)) ?_
            refine mp_invV (z := (mX11_bestChange, 4, 0, 0)) (K' := (0, 0)) (σ1 := A ++ (mp_cs s si sp f fi fp im hd kn wd ak ke cv vo so sz el ++ B)) (as := [mp_i 2, mp_i (mp_dif u (mp_bit t))]) (st := [mp_i 9, mp_i v]) (st1 := [mp_i (sc_bc s 3 2 (mp_dif u (mp_bit t))), mp_i 9, mp_i v]) dX11_bestChange_108 svX11_235 (mp_lkP hA 0 rfl) rfl rfl (zX11_bestChange2 (u := (mp_dif u (mp_bit t))) (s := s) (si := si) (sp := sp) (f := f) (fi := fi) (fp := fp) (im := im) (hd := hd) (kn := kn) (wd := wd) (ak := ak) (ke := ke) (cv := cv) (vo := vo) (so := so) (sz := sz) (el := el) (B := B) (by first | with_reducible assumption | omega) (by first | with_reducible assumption | omega) (hMt.mono hs.kd mp_stay_cs) ⟨mp_dif_nn _ _, mp_dif_lt (n := 8) h_u.2⟩ (fun k k0 hk => hub k k0 (mp_b_dif.mp hk).1)) ⟨Nat.le_of_ble_eq_true rfl, Nat.le_of_ble_eq_true rfl, Nat.le_of_ble_eq_true rfl, Nat.le_of_ble_eq_true rfl, Nat.le_of_ble_eq_true rfl⟩ rfl rfl rfl rfl ?_
            refine mp_iadd (z := 9 + (sc_bc s 3 2 (mp_dif u (mp_bit t)))) dX11_bestChange_111 (by first | rfl | omega) ?_
            refine mp_mmax (z := if v < 9 + (sc_bc s 3 2 (mp_dif u (mp_bit t))) then 9 + (sc_bc s 3 2 (mp_dif u (mp_bit t))) else v) dX11_bestChange_112 ssX11_238 (by decide) (Nat.le_of_ble_eq_true rfl) ⟨by decide, by decide⟩ ⟨by omega, by omega⟩ ⟨by omega, by omega⟩ rfl ?_
            refine mp_istore_n (L' := [some (Value.ref 1), some (mp_i 1), some (mp_i u), some (mp_i (if v < 9 + (sc_bc s 3 2 (mp_dif u (mp_bit t))) then 9 + (sc_bc s 3 2 (mp_dif u (mp_bit t))) else v)), some (mp_i t), some (mp_i 9)]) dX11_bestChange_115 rfl (by decide) rfl ?_
            refine mp_iinc (z := t + 1) (L' := [some (Value.ref 1), some (mp_i 1), some (mp_i u), some (mp_i (if v < 9 + (sc_bc s 3 2 (mp_dif u (mp_bit t))) then 9 + (sc_bc s 3 2 (mp_dif u (mp_bit t))) else v)), some (mp_i (t + 1)), some (mp_i 9)]) dX11_bestChange_116 rfl (rfl) (by decide) rfl ?_
            refine mp_goto (tgt := 35) dX11_bestChange_119 rfl ?_
            refine mp_drop (L' := [some (Value.ref 1), some (mp_i 1), some (mp_i u), some (mp_i (if v < 9 + (sc_bc s 3 2 (mp_dif u (mp_bit t))) then 9 + (sc_bc s 3 2 (mp_dif u (mp_bit t))) else v)), some (mp_i (t + 1)), none]) [true, true, true, true, true, false] rfl ?_
            have hw9 : sc_w s 1 t = 9 := by unfold sc_w; omega
            have e9 : (sc_bcStep s 3 1 u) t v = if v < 9 + (sc_bc s 3 2 (mp_dif u (mp_bit t))) then 9 + (sc_bc s 3 2 (mp_dif u (mp_bit t))) else v := by unfold sc_bcStep; rw [if_pos (by omega), hw9]; rfl
            have k9 := ih (t + 1) ((sc_bcStep s 3 1 u) t v) (by rw [e9]; omega) hk
            rw [e9] at k9
            exact k9
theorem zX11_bestChange1 {s si sp : Int → Int} {f fi fp : Nat → Option Nat} {im : Int} {hd : Int → Int} {kn : Nat → Option Nat} {wd ak ke cv vo so sz el : Int → Int} {A B : mp_H}  {u : Int} (hA : A.length = 1) (hs : mp_sky s) (hMt : mp_Mt (A ++ (mp_cs s si sp f fi fp im hd kn wd ak ke cv vo so sz el ++ B)) s f) (h_u : 0 ≤ u ∧ u < 256) (hub : ∀ k, 0 ≤ k → sp_b u k = 1 → k < s 0) : mp_Call (mX11_bestChange, 5, 0, 0) [Value.ref 1, mp_i 1, mp_i u] (A ++ (mp_cs s si sp f fi fp im hd kn wd ak ke cv vo so sz el ++ B)) (some (mp_i (sc_bc s 4 1 u)), A ++ (mp_cs s si sp f fi fp im hd kn wd ak ke cv vo so sz el ++ B)) := by
  refine mp_Call.of (L := [some (Value.ref 1), some (mp_i 1), some (mp_i u), none, none, none]) pnX11 (Nat.le_of_ble_eq_true rfl) rfl ?_
  have hz0 := hs.1
  have hl9 := hs.2.2.1 1 (by decide) (by decide)
  refine mp_iload_n dX11_bestChange_0 rfl ?_
  refine mp_iconst dX11_bestChange_1 ?_
  refine mp_icmp_lt (tgt := 7) dX11_bestChange_2 rfl ⟨by decide, by decide⟩ ⟨by decide, by decide⟩ (fun _ => ?_) (fun h1 => absurd h1 (by decide))
  refine mp_aload_n dX11_bestChange_7 rfl ?_
  refine mp_getfield dX11_bestChange_8 fsX11_10_10 (mp_lkP hA 0 rfl) rfl ?_
  refine mp_getfield dX11_bestChange_11 fsX11_133_8 (mp_lkP hA 1 rfl) rfl ?_
  refine mp_iload_n dX11_bestChange_14 rfl ?_
  refine mp_iald dX11_bestChange_15 (mp_lkP hA 6 rfl) ⟨by omega, by omega⟩ (by omega) ?_
  refine mp_top (y := s (49 + 3 * 1 + 2)) (sp_sai_in ⟨by omega, by omega⟩) ?_
  refine mp_bipush dX11_bestChange_16 rfl ?_
  refine mp_icmp_ne (tgt := 30) dX11_bestChange_18 rfl ⟨by omega, by omega⟩ ⟨by omega, by omega⟩ (fun h2 => ?_) (fun h2 => ?_)
  · refine mp_iconst dX11_bestChange_30 ?_
    refine mp_istore_n (L' := [some (Value.ref 1), some (mp_i 1), some (mp_i u), some (mp_i 0), none, none]) dX11_bestChange_31 rfl (by decide) rfl ?_
    refine mp_iconst dX11_bestChange_32 ?_
    refine mp_istore (L' := [some (Value.ref 1), some (mp_i 1), some (mp_i u), some (mp_i 0), some (mp_i 0), none]) dX11_bestChange_33 (by decide) rfl ?_
    refine lX11_bestChange1_35 (s := s) (si := si) (sp := sp) (f := f) (fi := fi) (fp := fp) (im := im) (hd := hd) (kn := kn) (wd := wd) (ak := ak) (ke := ke) (cv := cv) (vo := vo) (so := so) (sz := sz) (el := el) (B := B) (u := u) hA hs hMt h_u hub 8 0 0 (by omega) ?_
    refine mp_iload_n dX11_bestChange_122 rfl ?_
    exact mp_ireturn (st := []) dX11_bestChange_123 rfl ⟨by decide, by decide⟩ ((mp_ans (by first | exact sc_bc_s.trans (if_pos (by omega)) | exact sc_bc_s.trans (if_neg (by omega)))))
  · refine mp_aload_n dX11_bestChange_21 rfl ?_
    refine mp_iload_n dX11_bestChange_22 rfl ?_
    refine mp_iconst dX11_bestChange_23 ?_
    refine mp_iadd (z := 2) dX11_bestChange_24 (by first | rfl | omega) ?_
    refine mp_iload_n dX11_bestChange_25 rfl ?_
    refine mp_invV (z := (mX11_bestChange, 4, 0, 0)) (K' := (0, 0)) (σ1 := A ++ (mp_cs s si sp f fi fp im hd kn wd ak ke cv vo so sz el ++ B)) (as := [mp_i 2, mp_i u]) (st := []) (st1 := [mp_i (sc_bc s 3 2 u)]) dX11_bestChange_26 svX11_235 (mp_lkP hA 0 rfl) rfl rfl (zX11_bestChange2 (u := u) (s := s) (si := si) (sp := sp) (f := f) (fi := fi) (fp := fp) (im := im) (hd := hd) (kn := kn) (wd := wd) (ak := ak) (ke := ke) (cv := cv) (vo := vo) (so := so) (sz := sz) (el := el) (B := B) (by first | with_reducible assumption | omega) (by first | with_reducible assumption | omega) (hMt.mono hs.kd mp_stay_cs) (by first | with_reducible assumption | omega) hub) ⟨Nat.le_of_ble_eq_true rfl, Nat.le_of_ble_eq_true rfl, Nat.le_of_ble_eq_true rfl, Nat.le_of_ble_eq_true rfl, Nat.le_of_ble_eq_true rfl⟩ rfl rfl rfl rfl ?_
    exact mp_ireturn (st := []) dX11_bestChange_29 rfl ⟨by decide, by decide⟩ ((mp_ans (by first | exact sc_bc_s.trans (if_pos (by omega)) | exact sc_bc_s.trans (if_neg (by omega)))))
theorem lX11_bestChange0_35 {s si sp : Int → Int} {f fi fp : Nat → Option Nat} {im : Int} {hd : Int → Int} {kn : Nat → Option Nat} {wd ak ke cv vo so sz el : Int → Int} {A B : mp_H}  {u : Int} (hA : A.length = 1) (hs : mp_sky s) (hMt : mp_Mt (A ++ (mp_cs s si sp f fi fp im hd kn wd ak ke cv vo so sz el ++ B)) s f) (h_u : 0 ≤ u ∧ u < 256) (hub : ∀ k, 0 ≤ k → sp_b u k = 1 → k < s 0) {R9 : mp_An} : ∀ (n : Nat) (t : Int) (v : Int), ((0 ≤ t ∧ t + (n : Nat) = 8) ∧ 0 ≤ v ∧ v ≤ 45) → mp_At (mX11_bestChange, 6, 0, 0) (0, 0) 122 [some (Value.ref 1), some (mp_i 0), some (mp_i u), some (mp_i (mp_fold (sc_bcStep s 4 0 u) n t v)), none, none] [] (A ++ (mp_cs s si sp f fi fp im hd kn wd ak ke cv vo so sz el ++ B)) R9 → mp_At (mX11_bestChange, 6, 0, 0) (0, 0) 35 [some (Value.ref 1), some (mp_i 0), some (mp_i u), some (mp_i v), some (mp_i t), none] [] (A ++ (mp_cs s si sp f fi fp im hd kn wd ak ke cv vo so sz el ++ B)) R9 := by
  intro n
  induction n with
  | zero =>
    intro t v hi hk
    have hz0 := hs.1
    refine mp_iload dX11_bestChange_35 rfl ?_
    refine mp_bipush dX11_bestChange_37 rfl ?_
    refine mp_icmp_ge (tgt := 122) dX11_bestChange_39 rfl ⟨by omega, by omega⟩ ⟨by omega, by omega⟩ (fun h1 => ?_) (fun h1 => ?_)
    · refine mp_drop (L' := [some (Value.ref 1), some (mp_i 0), some (mp_i u), some (mp_i v), none, none]) [true, true, true, true, false, false] rfl ?_
      exact hk
    · exfalso; omega
  | succ n ih =>
    intro t v hi hk
    have hz0 := hs.1
    have hl9 := hs.2.2.1 0 (by decide) (by decide)
    have hbc := sc_bc_bd s 4 1 (mp_dif u (mp_bit t))
    have hbb := mp_b_bd u t
    have htm : sp_b u t = 1 → mp_met s t := fun h => hs.2.1 t (by omega) (hub t (by omega) h)
    have hbt := mp_bit_nn t
    have hdn := mp_dif_nn u (mp_bit t)
    refine mp_iload dX11_bestChange_35 rfl ?_
    refine mp_bipush dX11_bestChange_37 rfl ?_
    refine mp_icmp_ge (tgt := 122) dX11_bestChange_39 rfl ⟨by omega, by omega⟩ ⟨by omega, by omega⟩ (fun h1 => ?_) (fun h1 => ?_)
    · exfalso; omega
    · refine mp_iload_n dX11_bestChange_42 rfl ?_
      refine mp_iload dX11_bestChange_43 rfl ?_
      refine mp_invS (z := (mX11_hasBit, 0, 0, 0)) (K' := (0, 0)) (σ1 := A ++ (mp_cs s si sp f fi fp im hd kn wd ak ke cv vo so sz el ++ B)) (as := [mp_i u, mp_i t]) (st := []) (st1 := [mp_i (if sp_b u t ≠ 0 then 1 else 0)]) dX11_bestChange_45 ssX11_228 (zX11_hasBit (v := u) (k := t) (by first | with_reducible assumption | omega) (by first | with_reducible assumption | omega)) ⟨Nat.le_of_ble_eq_true rfl, Nat.le_of_ble_eq_true rfl, Nat.le_of_ble_eq_true rfl, Nat.le_of_ble_eq_true rfl, Nat.le_of_ble_eq_true rfl⟩ rfl rfl rfl rfl ?_
      refine mp_ifb_eq (tgt := 116) dX11_bestChange_48 rfl (fun h2 => ?_) (fun h2 => ?_)
      · refine mp_iinc (z := t + 1) (L' := [some (Value.ref 1), some (mp_i 0), some (mp_i u), some (mp_i v), some (mp_i (t + 1)), none]) dX11_bestChange_116 rfl (rfl) (by decide) rfl ?_
        refine mp_goto (tgt := 35) dX11_bestChange_119 rfl ?_
        have e9 : (sc_bcStep s 4 0 u) t v = v := by unfold sc_bcStep; rw [if_neg (by omega)]
        have k9 := ih (t + 1) ((sc_bcStep s 4 0 u) t v) (by rw [e9]; omega) hk
        rw [e9] at k9
        exact k9
      · have htm9 := htm (by omega)
        refine mp_aload_n dX11_bestChange_51 rfl ?_
        refine mp_getfield dX11_bestChange_52 fsX11_10_10 (mp_lkP hA 0 rfl) rfl ?_
        refine mp_getfield dX11_bestChange_55 fsX11_111_8 (mp_lkP hA 1 rfl) rfl ?_
        refine mp_iload dX11_bestChange_58 rfl ?_
        refine mp_iald dX11_bestChange_60 (mp_lkP hA 3 rfl) ⟨by omega, by omega⟩ (by omega) ?_
        refine mp_top (y := s (1 + 6 * t + 5)) (sp_isf_in ⟨by omega, by omega⟩) ?_
        refine mp_iload_n dX11_bestChange_61 rfl ?_
        refine mp_icmp_ne (tgt := 70) dX11_bestChange_62 rfl ⟨by omega, by omega⟩ ⟨by omega, by omega⟩ (fun h3 => ?_) (fun h3 => ?_)
        · refine mp_iconst dX11_bestChange_70 ?_
          refine mp_aload_n dX11_bestChange_71 rfl ?_
          refine mp_getfield dX11_bestChange_72 fsX11_10_10 (mp_lkP hA 0 rfl) rfl ?_
          refine mp_getfield dX11_bestChange_75 fsX11_133_8 (mp_lkP hA 1 rfl) rfl ?_
          refine mp_iload_n dX11_bestChange_78 rfl ?_
          refine mp_iald dX11_bestChange_79 (mp_lkP hA 6 rfl) ⟨by omega, by omega⟩ (by omega) ?_
          refine mp_top (y := s (49 + 3 * 0 + 2)) (sp_sai_in ⟨by omega, by omega⟩) ?_
          refine mp_iload dX11_bestChange_80 rfl ?_
          refine mp_icmp_ne (tgt := 89) dX11_bestChange_82 rfl ⟨by omega, by omega⟩ ⟨by omega, by omega⟩ (fun h4 => ?_) (fun h4 => ?_)
          · refine mp_iconst dX11_bestChange_89 ?_
            refine mp_iadd (z := 0) dX11_bestChange_90 (by first | rfl | omega) ?_
            refine mp_istore (L' := [some (Value.ref 1), some (mp_i 0), some (mp_i u), some (mp_i v), some (mp_i t), some (mp_i 0)]) dX11_bestChange_91 (by decide) rfl ?_
            refine mp_iload_n dX11_bestChange_93 rfl ?_
            refine mp_iload dX11_bestChange_94 rfl ?_
            refine mp_aload_n dX11_bestChange_96 rfl ?_
            refine mp_iload_n dX11_bestChange_97 rfl ?_
            refine mp_iconst dX11_bestChange_98 ?_
            refine mp_iadd (z := 1) dX11_bestChange_99 (by first | rfl | omega) ?_
            refine mp_iload_n dX11_bestChange_100 rfl ?_
            refine mp_iconst dX11_bestChange_101 ?_
            refine mp_iload dX11_bestChange_102 rfl ?_
            refine mp_ishl (z := mp_bit t) dX11_bestChange_104 (mp_z_bit ⟨by omega, by omega⟩) ?_
            refine mp_iconst dX11_bestChange_105 ?_
            refine mp_ixor (z := -1 - (mp_bit t)) dX11_bestChange_106 (mp_z_not _) ?_
            refine mp_iand (z := mp_dif u (mp_bit t)) dX11_bestChange_107 (mp_z_dif (by first | omega | exact mp_bit_nn _ | exact mp_or_nn _ _) (by first | omega | exact mp_bit_nn _ | exact mp_or_nn _ _)) ?_
            refine mp_invV (z := (mX11_bestChange, 5, 0, 0)) (K' := (0, 0)) (σ1 := A ++ (mp_cs s si sp f fi fp im hd kn wd ak ke cv vo so sz el ++ B)) (as := [mp_i 1, mp_i (mp_dif u (mp_bit t))]) (st := [mp_i 0, mp_i v]) (st1 := [mp_i (sc_bc s 4 1 (mp_dif u (mp_bit t))), mp_i 0, mp_i v]) dX11_bestChange_108 svX11_235 (mp_lkP hA 0 rfl) rfl rfl (zX11_bestChange1 (u := (mp_dif u (mp_bit t))) (s := s) (si := si) (sp := sp) (f := f) (fi := fi) (fp := fp) (im := im) (hd := hd) (kn := kn) (wd := wd) (ak := ak) (ke := ke) (cv := cv) (vo := vo) (so := so) (sz := sz) (el := el) (B := B) (by first | with_reducible assumption | omega) (by first | with_reducible assumption | omega) (hMt.mono hs.kd mp_stay_cs) ⟨mp_dif_nn _ _, mp_dif_lt (n := 8) h_u.2⟩ (fun k k0 hk => hub k k0 (mp_b_dif.mp hk).1)) ⟨Nat.le_of_ble_eq_true rfl, Nat.le_of_ble_eq_true rfl, Nat.le_of_ble_eq_true rfl, Nat.le_of_ble_eq_true rfl, Nat.le_of_ble_eq_true rfl⟩ rfl rfl rfl rfl ?_
            refine mp_iadd (z := 0 + (sc_bc s 4 1 (mp_dif u (mp_bit t)))) dX11_bestChange_111 (by first | rfl | omega) ?_
            refine mp_mmax (z := if v < 0 + (sc_bc s 4 1 (mp_dif u (mp_bit t))) then 0 + (sc_bc s 4 1 (mp_dif u (mp_bit t))) else v) dX11_bestChange_112 ssX11_238 (by decide) (Nat.le_of_ble_eq_true rfl) ⟨by decide, by decide⟩ ⟨by omega, by omega⟩ ⟨by omega, by omega⟩ rfl ?_
            refine mp_istore_n (L' := [some (Value.ref 1), some (mp_i 0), some (mp_i u), some (mp_i (if v < 0 + (sc_bc s 4 1 (mp_dif u (mp_bit t))) then 0 + (sc_bc s 4 1 (mp_dif u (mp_bit t))) else v)), some (mp_i t), some (mp_i 0)]) dX11_bestChange_115 rfl (by decide) rfl ?_
            refine mp_iinc (z := t + 1) (L' := [some (Value.ref 1), some (mp_i 0), some (mp_i u), some (mp_i (if v < 0 + (sc_bc s 4 1 (mp_dif u (mp_bit t))) then 0 + (sc_bc s 4 1 (mp_dif u (mp_bit t))) else v)), some (mp_i (t + 1)), some (mp_i 0)]) dX11_bestChange_116 rfl (rfl) (by decide) rfl ?_
            refine mp_goto (tgt := 35) dX11_bestChange_119 rfl ?_
            refine mp_drop (L' := [some (Value.ref 1), some (mp_i 0), some (mp_i u), some (mp_i (if v < 0 + (sc_bc s 4 1 (mp_dif u (mp_bit t))) then 0 + (sc_bc s 4 1 (mp_dif u (mp_bit t))) else v)), some (mp_i (t + 1)), none]) [true, true, true, true, true, false] rfl ?_
            have hw9 : sc_w s 0 t = 0 := by unfold sc_w; omega
            have e9 : (sc_bcStep s 4 0 u) t v = if v < 0 + (sc_bc s 4 1 (mp_dif u (mp_bit t))) then 0 + (sc_bc s 4 1 (mp_dif u (mp_bit t))) else v := by unfold sc_bcStep; rw [if_pos (by omega), hw9]; rfl
            have k9 := ih (t + 1) ((sc_bcStep s 4 0 u) t v) (by rw [e9]; omega) hk
            rw [e9] at k9
            exact k9
          · refine mp_iconst dX11_bestChange_85 ?_
            refine mp_goto (tgt := 90) dX11_bestChange_86 rfl ?_
            refine mp_iadd (z := 1) dX11_bestChange_90 (by first | rfl | omega) ?_
            refine mp_istore (L' := [some (Value.ref 1), some (mp_i 0), some (mp_i u), some (mp_i v), some (mp_i t), some (mp_i 1)]) dX11_bestChange_91 (by decide) rfl ?_
            refine mp_iload_n dX11_bestChange_93 rfl ?_
            refine mp_iload dX11_bestChange_94 rfl ?_
            refine mp_aload_n dX11_bestChange_96 rfl ?_
            refine mp_iload_n dX11_bestChange_97 rfl ?_
            refine mp_iconst dX11_bestChange_98 ?_
            refine mp_iadd (z := 1) dX11_bestChange_99 (by first | rfl | omega) ?_
            refine mp_iload_n dX11_bestChange_100 rfl ?_
            refine mp_iconst dX11_bestChange_101 ?_
            refine mp_iload dX11_bestChange_102 rfl ?_
            refine mp_ishl (z := mp_bit t) dX11_bestChange_104 (mp_z_bit ⟨by omega, by omega⟩) ?_
            refine mp_iconst dX11_bestChange_105 ?_
            refine mp_ixor (z := -1 - (mp_bit t)) dX11_bestChange_106 (mp_z_not _) ?_
            refine mp_iand (z := mp_dif u (mp_bit t)) dX11_bestChange_107 (mp_z_dif (by first | omega | exact mp_bit_nn _ | exact mp_or_nn _ _) (by first | omega | exact mp_bit_nn _ | exact mp_or_nn _ _)) ?_
            refine mp_invV (z := (mX11_bestChange, 5, 0, 0)) (K' := (0, 0)) (σ1 := A ++ (mp_cs s si sp f fi fp im hd kn wd ak ke cv vo so sz el ++ B)) (as := [mp_i 1, mp_i (mp_dif u (mp_bit t))]) (st := [mp_i 1, mp_i v]) (st1 := [mp_i (sc_bc s 4 1 (mp_dif u (mp_bit t))), mp_i 1, mp_i v]) dX11_bestChange_108 svX11_235 (mp_lkP hA 0 rfl) rfl rfl (zX11_bestChange1 (u := (mp_dif u (mp_bit t))) (s := s) (si := si) (sp := sp) (f := f) (fi := fi) (fp := fp) (im := im) (hd := hd) (kn := kn) (wd := wd) (ak := ak) (ke := ke) (cv := cv) (vo := vo) (so := so) (sz := sz) (el := el) (B := B) (by first | with_reducible assumption | omega) (by first | with_reducible assumption | omega) (hMt.mono hs.kd mp_stay_cs) ⟨mp_dif_nn _ _, mp_dif_lt (n := 8) h_u.2⟩ (fun k k0 hk => hub k k0 (mp_b_dif.mp hk).1)) ⟨Nat.le_of_ble_eq_true rfl, Nat.le_of_ble_eq_true rfl, Nat.le_of_ble_eq_true rfl, Nat.le_of_ble_eq_true rfl, Nat.le_of_ble_eq_true rfl⟩ rfl rfl rfl rfl ?_
            refine mp_iadd (z := 1 + (sc_bc s 4 1 (mp_dif u (mp_bit t)))) dX11_bestChange_111 (by first | rfl | omega) ?_
            refine mp_mmax (z := if v < 1 + (sc_bc s 4 1 (mp_dif u (mp_bit t))) then 1 + (sc_bc s 4 1 (mp_dif u (mp_bit t))) else v) dX11_bestChange_112 ssX11_238 (by decide) (Nat.le_of_ble_eq_true rfl) ⟨by decide, by decide⟩ ⟨by omega, by omega⟩ ⟨by omega, by omega⟩ rfl ?_
            refine mp_istore_n (L' := [some (Value.ref 1), some (mp_i 0), some (mp_i u), some (mp_i (if v < 1 + (sc_bc s 4 1 (mp_dif u (mp_bit t))) then 1 + (sc_bc s 4 1 (mp_dif u (mp_bit t))) else v)), some (mp_i t), some (mp_i 1)]) dX11_bestChange_115 rfl (by decide) rfl ?_
            refine mp_iinc (z := t + 1) (L' := [some (Value.ref 1), some (mp_i 0), some (mp_i u), some (mp_i (if v < 1 + (sc_bc s 4 1 (mp_dif u (mp_bit t))) then 1 + (sc_bc s 4 1 (mp_dif u (mp_bit t))) else v)), some (mp_i (t + 1)), some (mp_i 1)]) dX11_bestChange_116 rfl (rfl) (by decide) rfl ?_
            refine mp_goto (tgt := 35) dX11_bestChange_119 rfl ?_
            refine mp_drop (L' := [some (Value.ref 1), some (mp_i 0), some (mp_i u), some (mp_i (if v < 1 + (sc_bc s 4 1 (mp_dif u (mp_bit t))) then 1 + (sc_bc s 4 1 (mp_dif u (mp_bit t))) else v)), some (mp_i (t + 1)), none]) [true, true, true, true, true, false] rfl ?_
            have hw9 : sc_w s 0 t = 1 := by unfold sc_w; omega
            have e9 : (sc_bcStep s 4 0 u) t v = if v < 1 + (sc_bc s 4 1 (mp_dif u (mp_bit t))) then 1 + (sc_bc s 4 1 (mp_dif u (mp_bit t))) else v := by unfold sc_bcStep; rw [if_pos (by omega), hw9]; rfl
            have k9 := ih (t + 1) ((sc_bcStep s 4 0 u) t v) (by rw [e9]; omega) hk
            rw [e9] at k9
            exact k9
        · refine mp_bipush dX11_bestChange_65 rfl ?_
          refine mp_goto (tgt := 71) dX11_bestChange_67 rfl ?_
          refine mp_aload_n dX11_bestChange_71 rfl ?_
          refine mp_getfield dX11_bestChange_72 fsX11_10_10 (mp_lkP hA 0 rfl) rfl ?_
          refine mp_getfield dX11_bestChange_75 fsX11_133_8 (mp_lkP hA 1 rfl) rfl ?_
          refine mp_iload_n dX11_bestChange_78 rfl ?_
          refine mp_iald dX11_bestChange_79 (mp_lkP hA 6 rfl) ⟨by omega, by omega⟩ (by omega) ?_
          refine mp_top (y := s (49 + 3 * 0 + 2)) (sp_sai_in ⟨by omega, by omega⟩) ?_
          refine mp_iload dX11_bestChange_80 rfl ?_
          refine mp_icmp_ne (tgt := 89) dX11_bestChange_82 rfl ⟨by omega, by omega⟩ ⟨by omega, by omega⟩ (fun h5 => ?_) (fun h5 => ?_)
          · refine mp_iconst dX11_bestChange_89 ?_
            refine mp_iadd (z := 8) dX11_bestChange_90 (by first | rfl | omega) ?_
            refine mp_istore (L' := [some (Value.ref 1), some (mp_i 0), some (mp_i u), some (mp_i v), some (mp_i t), some (mp_i 8)]) dX11_bestChange_91 (by decide) rfl ?_
            refine mp_iload_n dX11_bestChange_93 rfl ?_
            refine mp_iload dX11_bestChange_94 rfl ?_
            refine mp_aload_n dX11_bestChange_96 rfl ?_
            refine mp_iload_n dX11_bestChange_97 rfl ?_
            refine mp_iconst dX11_bestChange_98 ?_
            refine mp_iadd (z := 1) dX11_bestChange_99 (by first | rfl | omega) ?_
            refine mp_iload_n dX11_bestChange_100 rfl ?_
            refine mp_iconst dX11_bestChange_101 ?_
            refine mp_iload dX11_bestChange_102 rfl ?_
            refine mp_ishl (z := mp_bit t) dX11_bestChange_104 (mp_z_bit ⟨by omega, by omega⟩) ?_
            refine mp_iconst dX11_bestChange_105 ?_
            refine mp_ixor (z := -1 - (mp_bit t)) dX11_bestChange_106 (mp_z_not _) ?_
            refine mp_iand (z := mp_dif u (mp_bit t)) dX11_bestChange_107 (mp_z_dif (by first | omega | exact mp_bit_nn _ | exact mp_or_nn _ _) (by first | omega | exact mp_bit_nn _ | exact mp_or_nn _ _)) ?_
            refine mp_invV (z := (mX11_bestChange, 5, 0, 0)) (K' := (0, 0)) (σ1 := A ++ (mp_cs s si sp f fi fp im hd kn wd ak ke cv vo so sz el ++ B)) (as := [mp_i 1, mp_i (mp_dif u (mp_bit t))]) (st := [mp_i 8, mp_i v]) (st1 := [mp_i (sc_bc s 4 1 (mp_dif u (mp_bit t))), mp_i 8, mp_i v]) dX11_bestChange_108 svX11_235 (mp_lkP hA 0 rfl) rfl rfl (zX11_bestChange1 (u := (mp_dif u (mp_bit t))) (s := s) (si := si) (sp := sp) (f := f) (fi := fi) (fp := fp) (im := im) (hd := hd) (kn := kn) (wd := wd) (ak := ak) (ke := ke) (cv := cv) (vo := vo) (so := so) (sz := sz) (el := el) (B := B) (by first | with_reducible assumption | omega) (by first | with_reducible assumption | omega) (hMt.mono hs.kd mp_stay_cs) ⟨mp_dif_nn _ _, mp_dif_lt (n := 8) h_u.2⟩ (fun k k0 hk => hub k k0 (mp_b_dif.mp hk).1)) ⟨Nat.le_of_ble_eq_true rfl, Nat.le_of_ble_eq_true rfl, Nat.le_of_ble_eq_true rfl, Nat.le_of_ble_eq_true rfl, Nat.le_of_ble_eq_true rfl⟩ rfl rfl rfl rfl ?_
            refine mp_iadd (z := 8 + (sc_bc s 4 1 (mp_dif u (mp_bit t)))) dX11_bestChange_111 (by first | rfl | omega) ?_
            refine mp_mmax (z := if v < 8 + (sc_bc s 4 1 (mp_dif u (mp_bit t))) then 8 + (sc_bc s 4 1 (mp_dif u (mp_bit t))) else v) dX11_bestChange_112 ssX11_238 (by decide) (Nat.le_of_ble_eq_true rfl) ⟨by decide, by decide⟩ ⟨by omega, by omega⟩ ⟨by omega, by omega⟩ rfl ?_
            refine mp_istore_n (L' := [some (Value.ref 1), some (mp_i 0), some (mp_i u), some (mp_i (if v < 8 + (sc_bc s 4 1 (mp_dif u (mp_bit t))) then 8 + (sc_bc s 4 1 (mp_dif u (mp_bit t))) else v)), some (mp_i t), some (mp_i 8)]) dX11_bestChange_115 rfl (by decide) rfl ?_
            refine mp_iinc (z := t + 1) (L' := [some (Value.ref 1), some (mp_i 0), some (mp_i u), some (mp_i (if v < 8 + (sc_bc s 4 1 (mp_dif u (mp_bit t))) then 8 + (sc_bc s 4 1 (mp_dif u (mp_bit t))) else v)), some (mp_i (t + 1)), some (mp_i 8)]) dX11_bestChange_116 rfl (rfl) (by decide) rfl ?_
            refine mp_goto (tgt := 35) dX11_bestChange_119 rfl ?_
            refine mp_drop (L' := [some (Value.ref 1), some (mp_i 0), some (mp_i u), some (mp_i (if v < 8 + (sc_bc s 4 1 (mp_dif u (mp_bit t))) then 8 + (sc_bc s 4 1 (mp_dif u (mp_bit t))) else v)), some (mp_i (t + 1)), none]) [true, true, true, true, true, false] rfl ?_
            have hw9 : sc_w s 0 t = 8 := by unfold sc_w; omega
            have e9 : (sc_bcStep s 4 0 u) t v = if v < 8 + (sc_bc s 4 1 (mp_dif u (mp_bit t))) then 8 + (sc_bc s 4 1 (mp_dif u (mp_bit t))) else v := by unfold sc_bcStep; rw [if_pos (by omega), hw9]; rfl
            have k9 := ih (t + 1) ((sc_bcStep s 4 0 u) t v) (by rw [e9]; omega) hk
            rw [e9] at k9
            exact k9
          · refine mp_iconst dX11_bestChange_85 ?_
            refine mp_goto (tgt := 90) dX11_bestChange_86 rfl ?_
            refine mp_iadd (z := 9) dX11_bestChange_90 (by first | rfl | omega) ?_
            refine mp_istore (L' := [some (Value.ref 1), some (mp_i 0), some (mp_i u), some (mp_i v), some (mp_i t), some (mp_i 9)]) dX11_bestChange_91 (by decide) rfl ?_
            refine mp_iload_n dX11_bestChange_93 rfl ?_
            refine mp_iload dX11_bestChange_94 rfl ?_
            refine mp_aload_n dX11_bestChange_96 rfl ?_
            refine mp_iload_n dX11_bestChange_97 rfl ?_
            refine mp_iconst dX11_bestChange_98 ?_
            refine mp_iadd (z := 1) dX11_bestChange_99 (by first | rfl | omega) ?_
            refine mp_iload_n dX11_bestChange_100 rfl ?_
            refine mp_iconst dX11_bestChange_101 ?_
            refine mp_iload dX11_bestChange_102 rfl ?_
            refine mp_ishl (z := mp_bit t) dX11_bestChange_104 (mp_z_bit ⟨by omega, by omega⟩) ?_
            refine mp_iconst dX11_bestChange_105 ?_
            refine mp_ixor (z := -1 - (mp_bit t)) dX11_bestChange_106 (mp_z_not _) ?_
            refine mp_iand (z := mp_dif u (mp_bit t)) dX11_bestChange_107 (mp_z_dif (by first | omega | exact mp_bit_nn _ | exact mp_or_nn _ _) (by first | omega | exact mp_bit_nn _ | exact mp_or_nn _ _)) ?_
            refine mp_invV (z := (mX11_bestChange, 5, 0, 0)) (K' := (0, 0)) (σ1 := A ++ (mp_cs s si sp f fi fp im hd kn wd ak ke cv vo so sz el ++ B)) (as := [mp_i 1, mp_i (mp_dif u (mp_bit t))]) (st := [mp_i 9, mp_i v]) (st1 := [mp_i (sc_bc s 4 1 (mp_dif u (mp_bit t))), mp_i 9, mp_i v]) dX11_bestChange_108 svX11_235 (mp_lkP hA 0 rfl) rfl rfl (zX11_bestChange1 (u := (mp_dif u (mp_bit t))) (s := s) (si := si) (sp := sp) (f := f) (fi := fi) (fp := fp) (im := im) (hd := hd) (kn := kn) (wd := wd) (ak := ak) (ke := ke) (cv := cv) (vo := vo) (so := so) (sz := sz) (el := el) (B := B) (by first | with_reducible assumption | omega) (by first | with_reducible assumption | omega) (hMt.mono hs.kd mp_stay_cs) ⟨mp_dif_nn _ _, mp_dif_lt (n := 8) h_u.2⟩ (fun k k0 hk => hub k k0 (mp_b_dif.mp hk).1)) ⟨Nat.le_of_ble_eq_true rfl, Nat.le_of_ble_eq_true rfl, Nat.le_of_ble_eq_true rfl, Nat.le_of_ble_eq_true rfl, Nat.le_of_ble_eq_true rfl⟩ rfl rfl rfl rfl ?_
            refine mp_iadd (z := 9 + (sc_bc s 4 1 (mp_dif u (mp_bit t)))) dX11_bestChange_111 (by first | rfl | omega) ?_
            refine mp_mmax (z := if v < 9 + (sc_bc s 4 1 (mp_dif u (mp_bit t))) then 9 + (sc_bc s 4 1 (mp_dif u (mp_bit t))) else v) dX11_bestChange_112 ssX11_238 (by decide) (Nat.le_of_ble_eq_true rfl) ⟨by decide, by decide⟩ ⟨by omega, by omega⟩ ⟨by omega, by omega⟩ rfl ?_
            refine mp_istore_n (L' := [some (Value.ref 1), some (mp_i 0), some (mp_i u), some (mp_i (if v < 9 + (sc_bc s 4 1 (mp_dif u (mp_bit t))) then 9 + (sc_bc s 4 1 (mp_dif u (mp_bit t))) else v)), some (mp_i t), some (mp_i 9)]) dX11_bestChange_115 rfl (by decide) rfl ?_
            refine mp_iinc (z := t + 1) (L' := [some (Value.ref 1), some (mp_i 0), some (mp_i u), some (mp_i (if v < 9 + (sc_bc s 4 1 (mp_dif u (mp_bit t))) then 9 + (sc_bc s 4 1 (mp_dif u (mp_bit t))) else v)), some (mp_i (t + 1)), some (mp_i 9)]) dX11_bestChange_116 rfl (rfl) (by decide) rfl ?_
            refine mp_goto (tgt := 35) dX11_bestChange_119 rfl ?_
            refine mp_drop (L' := [some (Value.ref 1), some (mp_i 0), some (mp_i u), some (mp_i (if v < 9 + (sc_bc s 4 1 (mp_dif u (mp_bit t))) then 9 + (sc_bc s 4 1 (mp_dif u (mp_bit t))) else v)), some (mp_i (t + 1)), none]) [true, true, true, true, true, false] rfl ?_
            have hw9 : sc_w s 0 t = 9 := by unfold sc_w; omega
            have e9 : (sc_bcStep s 4 0 u) t v = if v < 9 + (sc_bc s 4 1 (mp_dif u (mp_bit t))) then 9 + (sc_bc s 4 1 (mp_dif u (mp_bit t))) else v := by unfold sc_bcStep; rw [if_pos (by omega), hw9]; rfl
            have k9 := ih (t + 1) ((sc_bcStep s 4 0 u) t v) (by rw [e9]; omega) hk
            rw [e9] at k9
            exact k9
theorem zX11_bestChange0 {s si sp : Int → Int} {f fi fp : Nat → Option Nat} {im : Int} {hd : Int → Int} {kn : Nat → Option Nat} {wd ak ke cv vo so sz el : Int → Int} {A B : mp_H}  {u : Int} (hA : A.length = 1) (hs : mp_sky s) (hMt : mp_Mt (A ++ (mp_cs s si sp f fi fp im hd kn wd ak ke cv vo so sz el ++ B)) s f) (h_u : 0 ≤ u ∧ u < 256) (hub : ∀ k, 0 ≤ k → sp_b u k = 1 → k < s 0) : mp_Call (mX11_bestChange, 6, 0, 0) [Value.ref 1, mp_i 0, mp_i u] (A ++ (mp_cs s si sp f fi fp im hd kn wd ak ke cv vo so sz el ++ B)) (some (mp_i (sc_bc s 5 0 u)), A ++ (mp_cs s si sp f fi fp im hd kn wd ak ke cv vo so sz el ++ B)) := by
  refine mp_Call.of (L := [some (Value.ref 1), some (mp_i 0), some (mp_i u), none, none, none]) pnX11 (Nat.le_of_ble_eq_true rfl) rfl ?_
  have hz0 := hs.1
  have hl9 := hs.2.2.1 0 (by decide) (by decide)
  refine mp_iload_n dX11_bestChange_0 rfl ?_
  refine mp_iconst dX11_bestChange_1 ?_
  refine mp_icmp_lt (tgt := 7) dX11_bestChange_2 rfl ⟨by decide, by decide⟩ ⟨by decide, by decide⟩ (fun _ => ?_) (fun h1 => absurd h1 (by decide))
  refine mp_aload_n dX11_bestChange_7 rfl ?_
  refine mp_getfield dX11_bestChange_8 fsX11_10_10 (mp_lkP hA 0 rfl) rfl ?_
  refine mp_getfield dX11_bestChange_11 fsX11_133_8 (mp_lkP hA 1 rfl) rfl ?_
  refine mp_iload_n dX11_bestChange_14 rfl ?_
  refine mp_iald dX11_bestChange_15 (mp_lkP hA 6 rfl) ⟨by omega, by omega⟩ (by omega) ?_
  refine mp_top (y := s (49 + 3 * 0 + 2)) (sp_sai_in ⟨by omega, by omega⟩) ?_
  refine mp_bipush dX11_bestChange_16 rfl ?_
  refine mp_icmp_ne (tgt := 30) dX11_bestChange_18 rfl ⟨by omega, by omega⟩ ⟨by omega, by omega⟩ (fun h2 => ?_) (fun h2 => ?_)
  · refine mp_iconst dX11_bestChange_30 ?_
    refine mp_istore_n (L' := [some (Value.ref 1), some (mp_i 0), some (mp_i u), some (mp_i 0), none, none]) dX11_bestChange_31 rfl (by decide) rfl ?_
    refine mp_iconst dX11_bestChange_32 ?_
    refine mp_istore (L' := [some (Value.ref 1), some (mp_i 0), some (mp_i u), some (mp_i 0), some (mp_i 0), none]) dX11_bestChange_33 (by decide) rfl ?_
    refine lX11_bestChange0_35 (s := s) (si := si) (sp := sp) (f := f) (fi := fi) (fp := fp) (im := im) (hd := hd) (kn := kn) (wd := wd) (ak := ak) (ke := ke) (cv := cv) (vo := vo) (so := so) (sz := sz) (el := el) (B := B) (u := u) hA hs hMt h_u hub 8 0 0 (by omega) ?_
    refine mp_iload_n dX11_bestChange_122 rfl ?_
    exact mp_ireturn (st := []) dX11_bestChange_123 rfl ⟨by decide, by decide⟩ ((mp_ans (by first | exact sc_bc_s.trans (if_pos (by omega)) | exact sc_bc_s.trans (if_neg (by omega)))))
  · refine mp_aload_n dX11_bestChange_21 rfl ?_
    refine mp_iload_n dX11_bestChange_22 rfl ?_
    refine mp_iconst dX11_bestChange_23 ?_
    refine mp_iadd (z := 1) dX11_bestChange_24 (by first | rfl | omega) ?_
    refine mp_iload_n dX11_bestChange_25 rfl ?_
    refine mp_invV (z := (mX11_bestChange, 5, 0, 0)) (K' := (0, 0)) (σ1 := A ++ (mp_cs s si sp f fi fp im hd kn wd ak ke cv vo so sz el ++ B)) (as := [mp_i 1, mp_i u]) (st := []) (st1 := [mp_i (sc_bc s 4 1 u)]) dX11_bestChange_26 svX11_235 (mp_lkP hA 0 rfl) rfl rfl (zX11_bestChange1 (u := u) (s := s) (si := si) (sp := sp) (f := f) (fi := fi) (fp := fp) (im := im) (hd := hd) (kn := kn) (wd := wd) (ak := ak) (ke := ke) (cv := cv) (vo := vo) (so := so) (sz := sz) (el := el) (B := B) (by first | with_reducible assumption | omega) (by first | with_reducible assumption | omega) (hMt.mono hs.kd mp_stay_cs) (by first | with_reducible assumption | omega) hub) ⟨Nat.le_of_ble_eq_true rfl, Nat.le_of_ble_eq_true rfl, Nat.le_of_ble_eq_true rfl, Nat.le_of_ble_eq_true rfl, Nat.le_of_ble_eq_true rfl⟩ rfl rfl rfl rfl ?_
    exact mp_ireturn (st := []) dX11_bestChange_29 rfl ⟨by decide, by decide⟩ ((mp_ans (by first | exact sc_bc_s.trans (if_pos (by omega)) | exact sc_bc_s.trans (if_neg (by omega)))))
theorem zX11_rings {s si sp : Int → Int} {f fi fp : Nat → Option Nat} {im : Int} {hd : Int → Int} {kn : Nat → Option Nat} {wd ak ke cv vo so sz el : Int → Int} {A B : mp_H}  {w : Int} (hA : A.length = 1) (hs : mp_sky s) (hMt : mp_Mt (A ++ (mp_cs s si sp f fi fp im hd kn wd ak ke cv vo so sz el ++ B)) s f) (h_w : mp_w w) : mp_Call (mX11_rings, 7, 0, 0) [Value.ref 1, mp_i w] (A ++ (mp_cs s si sp f fi fp im hd kn wd ak ke cv vo so sz el ++ B)) (some (mp_i (sp_rings s w)), A ++ (mp_cs s si sp f fi fp im hd kn wd ak ke cv vo so sz el ++ B)) := by
  refine mp_Call.of (L := [some (Value.ref 1), some (mp_i w), none, none]) pnX11 (Nat.le_of_ble_eq_true rfl) rfl ?_
  have hz0 := hs.1
  have hsb := mp_said_bd hs
  have hwb := mp_waiting_bd s
  have hbc := sc_bc_bd s 5 0 (sp_said s)
  have hra := rg_ans hs
  have hrw := rg_wait (s := s)
  refine mp_iload_n dX11_rings_0 rfl ?_
  refine mp_iconst dX11_rings_1 ?_
  refine mp_invS (z := (mX11_isBelow, 0, 0, 0)) (K' := (0, 0)) (σ1 := A ++ (mp_cs s si sp f fi fp im hd kn wd ak ke cv vo so sz el ++ B)) (as := [mp_i w, mp_i 2]) (st := []) (st1 := [mp_i (if 0 ≤ w ∧ w < 2 then 1 else 0)]) dX11_rings_2 ssX11_54 (zX11_isBelow (v := w) (n := 2) (by first | with_reducible assumption | omega) (by first | with_reducible assumption | omega)) ⟨Nat.le_of_ble_eq_true rfl, Nat.le_of_ble_eq_true rfl, Nat.le_of_ble_eq_true rfl, Nat.le_of_ble_eq_true rfl, Nat.le_of_ble_eq_true rfl⟩ rfl rfl rfl rfl ?_
  refine mp_ifb_ne (tgt := 10) dX11_rings_5 rfl (fun h1 => ?_) (fun h1 => ?_)
  · refine mp_aload_n dX11_rings_10 rfl ?_
    refine mp_iconst dX11_rings_11 ?_
    refine mp_aload_n dX11_rings_12 rfl ?_
    refine mp_getfield dX11_rings_13 fsX11_10_10 (mp_lkP hA 0 rfl) rfl ?_
    refine mp_invV (z := (mX6_saidYesTo, 1, 0, 0)) (K' := (0, 0)) (σ1 := A ++ (mp_cs s si sp f fi fp im hd kn wd ak ke cv vo so sz el ++ B)) (as := []) (st := [mp_i 0, Value.ref 1]) (st1 := [mp_i (sp_said s), mp_i 0, Value.ref 1]) dX11_rings_16 svX11_192 (mp_lkP hA 1 rfl) rfl rfl (zX6_saidYesTo (p := 2) (s := s) (f := f) (mp_Sk.of (σ := A ++ (mp_cs s si sp f fi fp im hd kn wd ak ke cv vo so sz el ++ B)) (mp_skC2 hA) hMt) hs) ⟨Nat.le_of_ble_eq_true rfl, Nat.le_of_ble_eq_true rfl, Nat.le_of_ble_eq_true rfl, Nat.le_of_ble_eq_true rfl, Nat.le_of_ble_eq_true rfl⟩ rfl rfl rfl rfl ?_
    refine mp_invV (z := (mX11_bestChange, 6, 0, 0)) (K' := (0, 0)) (σ1 := A ++ (mp_cs s si sp f fi fp im hd kn wd ak ke cv vo so sz el ++ B)) (as := [mp_i 0, mp_i (sp_said s)]) (st := []) (st1 := [mp_i (sc_bc s 5 0 (sp_said s))]) dX11_rings_19 svX11_235 (mp_lkP hA 0 rfl) rfl rfl (zX11_bestChange0 (u := (sp_said s)) (s := s) (si := si) (sp := sp) (f := f) (fi := fi) (fp := fp) (im := im) (hd := hd) (kn := kn) (wd := wd) (ak := ak) (ke := ke) (cv := cv) (vo := vo) (so := so) (sz := sz) (el := el) (B := B) (by first | with_reducible assumption | omega) (by first | with_reducible assumption | omega) (hMt.mono hs.kd mp_stay_cs) (by first | with_reducible assumption | omega) (rg_bits hs)) ⟨Nat.le_of_ble_eq_true rfl, Nat.le_of_ble_eq_true rfl, Nat.le_of_ble_eq_true rfl, Nat.le_of_ble_eq_true rfl, Nat.le_of_ble_eq_true rfl⟩ rfl rfl rfl rfl ?_
    refine mp_istore_n (L' := [some (Value.ref 1), some (mp_i w), some (mp_i (sc_bc s 5 0 (sp_said s))), none]) dX11_rings_22 rfl (by decide) rfl ?_
    refine mp_iload_n dX11_rings_23 rfl ?_
    refine mp_if_ne (tgt := 32) dX11_rings_24 rfl ⟨by omega, by omega⟩ (fun h2 => ?_) (fun h2 => ?_)
    · refine mp_iconst dX11_rings_32 ?_
      refine mp_aload_n dX11_rings_33 rfl ?_
      refine mp_getfield dX11_rings_34 fsX11_10_10 (mp_lkP hA 0 rfl) rfl ?_
      refine mp_invV (z := (mX6_lookersFree, 0, 0, 0)) (K' := (0, 0)) (σ1 := A ++ (mp_cs s si sp f fi fp im hd kn wd ak ke cv vo so sz el ++ B)) (as := []) (st := [mp_i 5]) (st1 := [mp_i (sp_waiting s), mp_i 5]) dX11_rings_37 svX11_189 (mp_lkP hA 1 rfl) rfl rfl (zX6_lookersFree (p := 2) (s := s) (f := f) (mp_Sk.of (σ := A ++ (mp_cs s si sp f fi fp im hd kn wd ak ke cv vo so sz el ++ B)) (mp_skC2 hA) hMt) hs) ⟨Nat.le_of_ble_eq_true rfl, Nat.le_of_ble_eq_true rfl, Nat.le_of_ble_eq_true rfl, Nat.le_of_ble_eq_true rfl, Nat.le_of_ble_eq_true rfl⟩ rfl rfl rfl rfl ?_
      refine mp_invS (z := (mJ6_bitCount_0f7a4, 0, 0, 0)) (K' := (0, 0)) (σ1 := A ++ (mp_cs s si sp f fi fp im hd kn wd ak ke cv vo so sz el ++ B)) (as := [mp_i (sp_waiting s)]) (st := [mp_i 5]) (st1 := [mp_i (sp_bits (sp_waiting s)), mp_i 5]) dX11_rings_40 ssX11_195 (zJ6_bitCount_0f7a4 (v := (sp_waiting s)) (by first | with_reducible assumption | omega)) ⟨Nat.le_of_ble_eq_true rfl, Nat.le_of_ble_eq_true rfl, Nat.le_of_ble_eq_true rfl, Nat.le_of_ble_eq_true rfl, Nat.le_of_ble_eq_true rfl⟩ rfl rfl rfl rfl ?_
      refine mp_isub (z := 5 - (sp_bits (sp_waiting s))) dX11_rings_43 (by first | rfl | omega) ?_
      refine mp_istore_n (L' := [some (Value.ref 1), some (mp_i w), some (mp_i (sc_bc s 5 0 (sp_said s))), some (mp_i (5 - (sp_bits (sp_waiting s))))]) dX11_rings_44 rfl (by decide) rfl ?_
      refine mp_iload_n dX11_rings_45 rfl ?_
      refine mp_iload_n dX11_rings_46 rfl ?_
      refine mp_bipush dX11_rings_47 rfl ?_
      refine mp_irem (z := (sc_bc s 5 0 (sp_said s)) % 8) dX11_rings_49 ⟨by omega, by omega⟩ ⟨by omega, by omega⟩ rfl ?_
      refine mp_isub (z := (5 - (sp_bits (sp_waiting s))) - ((sc_bc s 5 0 (sp_said s)) % 8)) dX11_rings_50 (by first | rfl | omega) ?_
      exact mp_ireturn (st := []) dX11_rings_51 rfl ⟨by decide, by decide⟩ ((mp_ans (by unfold sp_rings; first | (rw [if_pos (by omega)]; done) | (rw [if_neg (by omega), if_pos (by omega)]; omega) | (rw [if_neg (by omega), if_neg (by omega)]; omega))))
    · refine mp_iload_n dX11_rings_27 rfl ?_
      refine mp_bipush dX11_rings_28 rfl ?_
      refine mp_idiv (z := (sc_bc s 5 0 (sp_said s)) / 8) dX11_rings_30 ⟨by omega, by omega⟩ ⟨by omega, by omega⟩ rfl ?_
      exact mp_ireturn (st := []) dX11_rings_31 rfl ⟨by decide, by decide⟩ ((mp_ans (by unfold sp_rings; first | (rw [if_pos (by omega)]; done) | (rw [if_neg (by omega), if_pos (by omega)]; omega) | (rw [if_neg (by omega), if_neg (by omega)]; omega))))
  · refine mp_iconst dX11_rings_8 ?_
    exact mp_ireturn (st := []) dX11_rings_9 rfl ⟨by decide, by decide⟩ ((mp_ans (by unfold sp_rings; first | (rw [if_pos (by omega)]; done) | (rw [if_neg (by omega), if_pos (by omega)]; omega) | (rw [if_neg (by omega), if_neg (by omega)]; omega))))
