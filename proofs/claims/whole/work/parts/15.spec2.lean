/-! ===== nights run; heaps told in other words ===== -/
theorem mp_set_at {σ : mp_H} {k : Nat} {c0 c : mp_C} (h : σ[k]? = some c0) : (σ.set k c)[k]? = some c := List.getElem?_set_self (List.getElem?_eq_some_iff.mp h).1
theorem mp_set_ne {σ : mp_H} {k j : Nat} {c c0 : mp_C} (hne : j ≠ k) (h : σ[j]? = some c0) : (σ.set k c)[j]? = some c0 := by
  rw [List.getElem?_set_ne (Ne.symm hne)]; exact h
theorem mp_set_same {σ : mp_H} {k : Nat} {c : mp_C} (h : σ[k]? = some c) : σ.set k c = σ := by
  obtain ⟨h1, h2⟩ := List.getElem?_eq_some_iff.mp h
  rw [← h2]
  exact List.set_getElem_self h1
theorem mp_Call.cast {Y : mp_Y} {as : List Value} {σ σ0 : mp_H} {A A0 : mp_An} (h : mp_Call Y as σ0 A0) (e : σ0 = σ) (e2 : A0 = A) : mp_Call Y as σ A := by
  subst e; subst e2; exact h
theorem mp_sg {Y : mp_Y} {K : Nat × Nat} {pc : Nat} {L : List (Option Value)} {st : List Value} {σ σ' : mp_H} {A : mp_An} (h : σ = σ') (k : mp_At Y K pc L st σ' A) : mp_At Y K pc L st σ A := h ▸ k
/-- two pictures of one heap: a row of numbers matters within its size alone -/
theorem mp_Wd.ext {G : mp_G} {σ : mp_H} {H : Heap} {k n : Nat} {f g : Nat → Int} (h : mp_Wd G (σ.set k (mp_I n f)) H) (e : ∀ j, j < n → f j = g j) : mp_Wd G (σ.set k (mp_I n g)) H := by
  refine ⟨by have := h.1; simpa using this, h.2.1, fun j c hj => ?_⟩
  rw [List.getElem?_set] at hj
  by_cases hkj : k = j
  · rw [if_pos hkj] at hj
    split at hj
    · rename_i hl
      cases hj
      subst hkj
      have h1 := h.2.2 k (mp_I n f) (List.getElem?_set_self (by omega))
      have h1 : H[mp_ad G k]? = some (vp_cell (G.2.2.2 0) (n, .inl (fun j => Int32.ofInt (f j)))) := h1
      show H[mp_ad G k]? = some (vp_cell (G.2.2.2 0) (n, .inl (fun j => Int32.ofInt (g j))))
      rw [h1, vp_cell_i, vp_cell_i]
      unfold arrV
      congr 2
      apply Array.ext
      · simp
      · intro i h2 h3
        simp only [Array.getElem_ofFn]
        rw [e i (by simpa using h2)]
    · cases hj
  · rw [if_neg hkj] at hj
    exact h.2.2 j c (by rw [List.getElem?_set_ne hkj]; exact hj)
theorem mp_extAt {Y : mp_Y} {K : Nat × Nat} {pc : Nat} {L : List (Option Value)} {st : List Value} {σ : mp_H} {A : mp_An} {k n : Nat} {f g : Nat → Int} (e : ∀ j, j < n → f j = g j) (kk : mp_At Y K pc L st (σ.set k (mp_I n g)) A) : mp_At Y K pc L st (σ.set k (mp_I n f)) A := by
  intro G p l e0 Rm s m args below meth c C H locs ls hW hS hL
  exact kk G p l e0 Rm s m args below meth c C H locs ls (hW.ext e) hS hL
theorem mp_ud_cp {q f : Int → Int} {t j : Int} (h : ∀ j, 0 ≤ j → j < t → q j = f j) (h1 : 0 ≤ j) (h2 : j < t + 1) : mp_ud q t (f t) j = f j := by
  by_cases e : j = t
  · subst e; exact mp_ud_eq
  · rw [mp_ud_ne e]; exact h j h1 (by omega)
def sp_misStep (s : Int → Int) (l u : Int) : Int := if s (49 + 3 * l + 2) ≠ 9 ∧ s (1 + 6 * s (49 + 3 * l + 2) + 5) ≠ l then mp_or u (mp_bit (s (49 + 3 * l + 2))) else u
def sp_mis (s : Int → Int) : Int := mp_fold (sp_misStep s) 5 0 0
def sp_saidStep (s : Int → Int) (l u : Int) : Int := if s (49 + 3 * l + 2) = 9 then u else mp_or u (mp_bit (s (49 + 3 * l + 2)))
def sp_said (s : Int → Int) : Int := mp_fold (sp_saidStep s) 5 0 0
def sp_taken (s : Int → Int) : Int := mp_fold (fun k n => n + (if 0 ≤ sp_taker s k 0 then 1 else 0)) (s 0).toNat 0 0
theorem mp_or_256 {a b : Int} (ha : a < 256) (hb : b < 256) : mp_or a b < 256 := mp_or_lt (n := 8) ha hb
theorem mp_bit_256 {k : Int} (h : k < 8) : mp_bit k < 256 := mp_bit_lt (n := 8) h (by decide)
theorem mp_saidStep_bd {s : Int → Int} (hs : mp_sky s) {l u : Int} (hl : 0 ≤ l ∧ l ≤ 4) (h : 0 ≤ u ∧ u < 256) : 0 ≤ sp_saidStep s l u ∧ sp_saidStep s l u < 256 := by
  have h1 := hs.1
  have h2 := hs.2.2.1 l hl.1 hl.2
  unfold sp_saidStep
  split
  · exact h
  · exact ⟨mp_or_nn _ _, mp_or_256 h.2 (mp_bit_256 (by omega))⟩
theorem mp_misStep_bd {s : Int → Int} (hs : mp_sky s) {l u : Int} (hl : 0 ≤ l ∧ l ≤ 4) (h : 0 ≤ u ∧ u < 256) : 0 ≤ sp_misStep s l u ∧ sp_misStep s l u < 256 := by
  have h1 := hs.1
  have h2 := hs.2.2.1 l hl.1 hl.2
  unfold sp_misStep
  split
  · exact ⟨mp_or_nn _ _, mp_or_256 h.2 (mp_bit_256 (by omega))⟩
  · exact h
theorem mp_said_bd {s : Int → Int} (hs : mp_sky s) : 0 ≤ sp_said s ∧ sp_said s < 256 := by
  have := mp_fold_inv_lt (f := sp_saidStep s) (fun i a => 0 ≤ i ∧ 0 ≤ a ∧ a < 256) 5 (fun i a hi h => ⟨by omega, mp_saidStep_bd hs ⟨h.1, by omega⟩ h.2⟩) 5 0 0 (by decide) ⟨by decide, by decide, by decide⟩
  exact this.2
theorem mp_mis_bd {s : Int → Int} (hs : mp_sky s) : 0 ≤ sp_mis s ∧ sp_mis s < 256 := by
  have := mp_fold_inv_lt (f := sp_misStep s) (fun i a => 0 ≤ i ∧ 0 ≤ a ∧ a < 256) 5 (fun i a hi h => ⟨by omega, mp_misStep_bd hs ⟨h.1, by omega⟩ h.2⟩) 5 0 0 (by decide) ⟨by decide, by decide, by decide⟩
  exact this.2
def sp_runStep (night k : Int) (p : (Int → Int) × Int) : (Int → Int) × Int := if p.1 (1 + 6 * k + 4) ≠ night ∨ sp_isSaid p.1 k 5 0 ≠ 0 then p else if sp_taker p.1 k 1 < 0 then p else (mp_ud p.1 (49 + 3 * sp_taker p.1 k 1 + 2) k, p.2 + 1)
def sp_runs (s : Int → Int) (night : Int) : (Int → Int) × Int := mp_fold (sp_runStep night) (s 0).toNat 0 (s, 0)
theorem mp_isSaid_no {s : Int → Int} {k : Int} : ∀ (n : Nat) (l : Int), sp_isSaid s k n l = 0 → ∀ l', l ≤ l' → l' < l + n → s (49 + 3 * l' + 2) ≠ k := by
  intro n
  induction n with
  | zero => intro l _ l' h1 h2; omega
  | succ n ih =>
    intro l h l' h1 h2
    unfold sp_isSaid at h
    split at h
    · exact absurd h (by decide)
    · rename_i hn
      by_cases e : l' = l
      · subst e; exact hn
      · exact ih (l + 1) h l' (by omega) (by omega)
theorem mp_taker_free (s : Int → Int) (k : Int) (h : 0 ≤ sp_taker s k 1) : s (49 + 3 * sp_taker s k 1 + 2) = 9 := by
  have := mp_fold_inv (f := sp_takeStep s k 1) (fun _ a => a < 0 ∨ s (49 + 3 * a + 2) = 9) (fun i a h => by
    unfold sp_takeStep
    by_cases h1 : sp_yesOf s i k < 0 ∨ ((1 : Int) ≠ 0 ∧ s (49 + 3 * i + 2) ≠ 9)
    · rw [if_pos h1]; exact h
    · rw [if_neg h1]
      by_cases h2 : a < 0 ∨ sp_yesOf s i k < sp_yesOf s a k
      · rw [if_pos h2]; exact Or.inr (by omega)
      · rw [if_neg h2]; exact h) 5 0 (-4) (Or.inl (by decide))
  rcases this with h1 | h1
  · unfold sp_taker at h; omega
  · exact h1
theorem mp_sky_said {s : Int → Int} (hs : mp_sky s) {l k : Int} (hl : 0 ≤ l ∧ l ≤ 4) (hk : (0 ≤ k ∧ k < s 0) ∨ k = 9) (hno : k = 9 ∨ ∀ l', 0 ≤ l' → l' ≤ 4 → s (49 + 3 * l' + 2) ≠ k) : mp_sky (mp_ud s (49 + 3 * l + 2) k) := by
  obtain ⟨h1, h2, h3, h4⟩ := hs
  have e : ∀ j, j ≠ 49 + 3 * l + 2 → mp_ud s (49 + 3 * l + 2) k j = s j := fun j h => if_neg h
  have e0 : mp_ud s (49 + 3 * l + 2) k 0 = s 0 := e 0 (by omega)
  refine ⟨by rw [e0]; exact h1, fun q hq1 hq2 => ?_, fun q hq1 hq2 => ?_, fun q q' a1 a2 a3 a4 => ?_⟩
  · rw [e0] at hq2
    have := h2 q hq1 hq2
    unfold mp_met
    rw [e _ (by omega), e _ (by omega), e _ (by omega), e _ (by omega), e _ (by omega), e _ (by omega)]
    exact this
  · have := h3 q hq1 hq2
    unfold mp_lkr
    rw [e0, e (49 + 3 * q + 0) (by omega), e (49 + 3 * q + 1) (by omega)]
    refine ⟨this.1, this.2.1, ?_⟩
    by_cases hq : q = l
    · subst hq
      rw [mp_ud_eq]
      exact hk
    · rw [e _ (by omega)]
      exact this.2.2
  · by_cases hq : q = l
    · by_cases hq' : q' = l
      · intro _; exact Or.inr (by omega)
      · subst hq
        rw [mp_ud_eq, e (49 + 3 * q' + 2) (by omega)]
        intro h
        rcases hno with h9 | hno
        · exact Or.inl h9
        · exact absurd h.symm (hno q' a3 a4)
    · by_cases hq' : q' = l
      · subst hq'
        rw [mp_ud_eq, e (49 + 3 * q + 2) (by omega)]
        intro h
        rcases hno with h9 | hno
        · exact Or.inl (by omega)
        · exact absurd h (hno q a1 a2)
      · rw [e (49 + 3 * q + 2) (by omega), e (49 + 3 * q' + 2) (by omega)]
        exact h4 q q' a1 a2 a3 a4
theorem mp_runStep_sky {night k : Int} {p : (Int → Int) × Int} (hs : mp_sky p.1) (hk : 0 ≤ k ∧ k < p.1 0) : mp_sky (sp_runStep night k p).1 ∧ (sp_runStep night k p).1 0 = p.1 0 ∧ p.2 ≤ (sp_runStep night k p).2 ∧ (sp_runStep night k p).2 ≤ p.2 + 1 := by
  unfold sp_runStep
  by_cases h1 : p.1 (1 + 6 * k + 4) ≠ night ∨ sp_isSaid p.1 k 5 0 ≠ 0
  · rw [if_pos h1]; exact ⟨hs, rfl, by omega, by omega⟩
  · rw [if_neg h1]
    by_cases h2 : sp_taker p.1 k 1 < 0
    · rw [if_pos h2]; exact ⟨hs, rfl, by omega, by omega⟩
    · rw [if_neg h2]
      have hb := mp_taker_bd p.1 k 1
      refine ⟨mp_sky_said hs ⟨by omega, by omega⟩ (Or.inl hk) (Or.inr (fun l' a b => mp_isSaid_no 5 0 (by omega) l' a (by omega))), mp_ud_ne (by omega), by show p.2 ≤ p.2 + 1; omega, by show p.2 + 1 ≤ p.2 + 1; omega⟩
theorem mp_runs_sky {s : Int → Int} (hs : mp_sky s) (night : Int) : mp_sky (sp_runs s night).1 ∧ (sp_runs s night).1 0 = s 0 ∧ 0 ≤ (sp_runs s night).2 ∧ (sp_runs s night).2 ≤ 8 := by
  have h0 := hs.1
  have := mp_fold_inv_lt (f := sp_runStep night) (fun i p => 0 ≤ i ∧ mp_sky p.1 ∧ p.1 0 = s 0 ∧ 0 ≤ p.2 ∧ p.2 ≤ i) (s 0) (fun i p hi h => by
    obtain ⟨g1, g2, g3, g4⟩ := mp_runStep_sky (night := night) (k := i) (p := p) h.2.1 ⟨h.1, by rw [h.2.2.1]; exact hi⟩
    exact ⟨by omega, g1, by rw [g2]; exact h.2.2.1, by omega, by omega⟩) (s 0).toNat 0 (s, 0) (by omega) ⟨by decide, hs, rfl, Int.le_refl 0, Int.le_refl 0⟩
  exact ⟨this.2.1, this.2.2.1, this.2.2.2.1, by have := this.2.2.2.2; unfold sp_runs; omega⟩
