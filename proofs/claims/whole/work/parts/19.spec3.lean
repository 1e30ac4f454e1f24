/-! ===== what each call answers, and what becomes of the sky ===== -/
def sp_meteor (s : Int → Int) (k w : Int) : Int := if ¬ (0 ≤ k ∧ k ≤ s 0 - 1) ∨ ¬ (0 ≤ w ∧ w ≤ 9) then -1 else if w = 6 then sp_lasts (s (1 + 6 * k + 0)) (s (1 + 6 * k + 1)) else if w = 7 then sp_bright (s (1 + 6 * k + 0)) (s (1 + 6 * k + 1)) + 10 else if w = 8 then sp_period (s (1 + 6 * k + 0)) (s (1 + 6 * k + 1)) else if w = 9 then sp_heat (s (1 + 6 * k + 0)) (s (1 + 6 * k + 1)) else s (1 + 6 * k + w)
def sp_looker (s : Int → Int) (l w : Int) : Int := if ¬ (0 ≤ l ∧ l ≤ 4) ∨ ¬ (0 ≤ w ∧ w ≤ 3) then -1 else if w < 3 then s (49 + 3 * l + w) else sp_need (s (49 + 3 * l + 1))
def sp_adds (s : Int → Int) (kind f col slope night l : Int) : Int → Int := mp_ud (mp_ud (mp_ud (mp_ud (mp_ud (mp_ud (mp_ud s (1 + 6 * s 0 + 0) kind) (1 + 6 * s 0 + 1) f) (1 + 6 * s 0 + 2) col) (1 + 6 * s 0 + 3) slope) (1 + 6 * s 0 + 4) night) (1 + 6 * s 0 + 5) l) 0 (s 0 + 1)
def sp_well (col slope night : Int) : Prop := (0 ≤ col ∧ col ≤ 15) ∧ (0 ≤ slope ∧ slope ≤ 4) ∧ (0 ≤ night ∧ night ≤ 30)
def sp_falls (s kp kk kf : Int → Int) (d col slope night : Int) : Int × (Int → Int) := if ¬ ((0 ≤ col ∧ col ≤ 15) ∧ (0 ≤ slope ∧ slope ≤ 4) ∧ (0 ≤ night ∧ night ≤ 30)) then (-1, s) else if sp_wrongKept kp d ≠ 0 then (sp_wrongKept kp d, s) else if s 0 = 8 then (-2, s) else (s 0, sp_adds s (kk d) (kf d) col slope night 9)
def sp_meant (s : Int → Int) (k l : Int) : Int × (Int → Int) := if ¬ (0 ≤ k ∧ k ≤ s 0 - 1) ∨ ¬ ((0 ≤ l ∧ l ≤ 4) ∨ l = 9) then (-1, s) else (s (1 + 6 * k + 5), mp_ud s (1 + 6 * k + 5) l)
def sp_looks (s : Int → Int) (l roof quick : Int) : Int × (Int → Int) := if ¬ (0 ≤ l ∧ l ≤ 4) ∨ ¬ (0 ≤ roof ∧ roof ≤ 15) ∨ ¬ (0 ≤ quick ∧ quick ≤ 9) then (-1, s) else (s (49 + 3 * l + 0), mp_ud (mp_ud s (49 + 3 * l + 0) roof) (49 + 3 * l + 1) quick)
def sp_run (s : Int → Int) (w : Int) : Int × (Int → Int) := if ¬ (0 ≤ w ∧ w ≤ 30) then (-1, s) else ((sp_runs s w).2, (sp_runs s w).1)
def sp_free (s : Int → Int) (l : Int) : Int × (Int → Int) := if ¬ (0 ≤ l ∧ l ≤ 4) then (-1, s) else (s (49 + 3 * l + 2), mp_ud s (49 + 3 * l + 2) 9)
abbrev sp_seenS (s : Int → Int) (k roof : Int) : Int := sp_seen (s (1 + 6 * k + 0)) (s (1 + 6 * k + 1)) (s (1 + 6 * k + 2)) (s (1 + 6 * k + 3)) roof
def sp_seenC (s : Int → Int) (l k w : Int) : Int := if ¬ (0 ≤ l ∧ l ≤ 4) ∨ ¬ (0 ≤ k ∧ k ≤ s 0 - 1) ∨ ¬ (0 ≤ w ∧ w ≤ 1) then -1 else if w = 0 then sp_seen (s (1 + 6 * k + 0)) (s (1 + 6 * k + 1)) (s (1 + 6 * k + 2)) (s (1 + 6 * k + 3)) (s (49 + 3 * l + 0)) else sp_yesOf s l k
def sp_takerC (s : Int → Int) (k : Int) : Int := if 0 ≤ k ∧ k ≤ s 0 - 1 then sp_taker s k 0 else -1
def sp_anyStep (s : Int → Int) (k l z : Int) : Int := if sp_seen (s (1 + 6 * k + 0)) (s (1 + 6 * k + 1)) (s (1 + 6 * k + 2)) (s (1 + 6 * k + 3)) (s (49 + 3 * l + 0)) = 0 then z else mp_or z 1
def sp_any (s : Int → Int) (k : Int) : Int := mp_fold (sp_anyStep s k) 5 0 0
def sp_unseenStep (s : Int → Int) (k u : Int) : Int := if sp_any s k = 0 then mp_or u (mp_bit k) else u
def sp_unseen (s : Int → Int) : Int := mp_fold (sp_unseenStep s) (s 0).toNat 0 0
def sp_waitStep (s : Int → Int) (l u : Int) : Int := if s (49 + 3 * l + 2) = 9 then mp_or u (mp_bit l) else u
def sp_waiting (s : Int → Int) : Int := mp_fold (sp_waitStep s) 5 0 0
def sp_nights (s : Int → Int) : Int → Int := mp_fold (fun w q => (sp_runs q w).1) 31 0 s
def sp_august (s : Int → Int) (w : Int) : Int := if ¬ (0 ≤ w ∧ w ≤ 1) then -1 else if w = 0 then sp_bits (sp_said (sp_nights s)) else sp_bits (sp_mis (sp_nights s))
theorem mp_or01 {z : Int} (h : z = 0 ∨ z = 1) : mp_or z 1 = 1 := by rcases h with rfl | rfl <;> decide
theorem mp_anyStep_bd {s : Int → Int} {k l z : Int} (h : z = 0 ∨ z = 1) : sp_anyStep s k l z = 0 ∨ sp_anyStep s k l z = 1 := by
  unfold sp_anyStep
  split
  · exact h
  · exact Or.inr (mp_or01 h)
theorem mp_any_bd (s : Int → Int) (k : Int) : sp_any s k = 0 ∨ sp_any s k = 1 := mp_fold_inv (f := sp_anyStep s k) (fun _ a => a = 0 ∨ a = 1) (fun _ _ h => mp_anyStep_bd h) 5 0 0 (Or.inl rfl)
theorem mp_unseenStep_bd {s : Int → Int} {k u : Int} (hk : k < 8) (h : 0 ≤ u ∧ u < 256) : 0 ≤ sp_unseenStep s k u ∧ sp_unseenStep s k u < 256 := by
  unfold sp_unseenStep
  split
  · exact ⟨mp_or_nn _ _, mp_or_256 h.2 (mp_bit_256 hk)⟩
  · exact h
theorem mp_waitStep_bd {s : Int → Int} {l u : Int} (hk : l < 8) (h : 0 ≤ u ∧ u < 256) : 0 ≤ sp_waitStep s l u ∧ sp_waitStep s l u < 256 := by
  unfold sp_waitStep
  split
  · exact ⟨mp_or_nn _ _, mp_or_256 h.2 (mp_bit_256 hk)⟩
  · exact h
theorem mp_nights_sky {s : Int → Int} (hs : mp_sky s) : mp_sky (sp_nights s) ∧ (sp_nights s) 0 = s 0 :=
  mp_fold_inv (f := fun w q => (sp_runs q w).1) (fun _ q => mp_sky q ∧ q 0 = s 0) (fun i q h => ⟨(mp_runs_sky h.1 i).1, (mp_runs_sky h.1 i).2.1.trans h.2⟩) 31 0 s ⟨hs, rfl⟩
theorem mp_adds_0 {s : Int → Int} {a b c e f l : Int} : sp_adds s a b c e f l 0 = s 0 + 1 := mp_ud_eq
def sp_best (s : Int → Int) (l c : Int) : Int := mp_fold (fun k n => n + (if 0 ≤ sp_yes (sp_seen (s (1 + 6 * k + 0)) (s (1 + 6 * k + 1)) (s (1 + 6 * k + 2)) (s (1 + 6 * k + 3)) c) (sp_need (s (49 + 3 * l + 1))) then 1 else 0)) (s 0).toNat 0 0
def sp_bestStep (s : Int → Int) (l c : Int) (p : Int × Int) : Int × Int := if sp_best s l c ≤ p.2 then p else (c, sp_best s l c)
def sp_bestRoof (s : Int → Int) (l w : Int) : Int := if ¬ (0 ≤ l ∧ l ≤ 4) ∨ ¬ (0 ≤ w ∧ w ≤ 1) then -1 else if w = 0 then (mp_fold (sp_bestStep s l) 16 0 (0, -1)).1 else (mp_fold (sp_bestStep s l) 16 0 (0, -1)).2
theorem mp_best_bd {s : Int → Int} (hs : mp_sky s) (l c : Int) : 0 ≤ sp_best s l c ∧ sp_best s l c ≤ 8 := by
  have h0 := hs.1
  have := mp_fold_inv (f := (fun k n => n + (if 0 ≤ sp_yes (sp_seen (s (1 + 6 * k + 0)) (s (1 + 6 * k + 1)) (s (1 + 6 * k + 2)) (s (1 + 6 * k + 3)) c) (sp_need (s (49 + 3 * l + 1))) then 1 else 0))) (fun i n => 0 ≤ n ∧ n ≤ i) (fun i a h => by constructor <;> (split <;> omega)) (s 0).toNat 0 0 ⟨by decide, by decide⟩
  unfold sp_best; omega
def sp_roofsAt (s : Int → Int) (c : Int) : Int → Int := mp_fold (fun l q => mp_ud q (49 + 3 * l + 0) (c + l)) 5 0 s
def sp_rowOfRoofs (s : Int → Int) (c : Int) : Int := if ¬ (0 ≤ c ∧ c ≤ 11) then -1 else sp_taken (sp_roofsAt s c)
def sp_heatAll (s : Int → Int) : Int := mp_fold (fun k v => v + sp_heat (s (1 + 6 * k + 0)) (s (1 + 6 * k + 1))) (s 0).toNat 0 0
def sp_scorched (s : Int → Int) (l : Int) : Int := if ¬ (0 ≤ l ∧ l ≤ 4) then -1 else if s (49 + 3 * l + 2) = 9 then 0 else if sp_heat (s (1 + 6 * s (49 + 3 * l + 2) + 0)) (s (1 + 6 * s (49 + 3 * l + 2) + 1)) - s (49 + 3 * l + 1) < 0 then 0 else sp_heat (s (1 + 6 * s (49 + 3 * l + 2) + 0)) (s (1 + 6 * s (49 + 3 * l + 2) + 1)) - s (49 + 3 * l + 1)
def sp_there (s : Int → Int) (k night : Int) : Prop := 0 ≤ night - s (1 + 6 * k + 4) ∧ (night - s (1 + 6 * k + 4)) % sp_period (s (1 + 6 * k + 0)) (s (1 + 6 * k + 1)) = 0
/-- a looker's place and quickness may be any -/
theorem mp_sky_looker {s : Int → Int} (hs : mp_sky s) {l w x : Int} (hl : 0 ≤ l ∧ l ≤ 4) (hw : (w = 0 ∧ 0 ≤ x ∧ x ≤ 15) ∨ (w = 1 ∧ 0 ≤ x ∧ x ≤ 9)) : mp_sky (mp_ud s (49 + 3 * l + w) x) := by
  obtain ⟨h1, h2, h3, h4⟩ := hs
  have e : ∀ j, j ≠ 49 + 3 * l + w → mp_ud s (49 + 3 * l + w) x j = s j := fun j h => if_neg h
  have e0 : mp_ud s (49 + 3 * l + w) x 0 = s 0 := e 0 (by omega)
  refine ⟨by rw [e0]; exact h1, fun q hq1 hq2 => ?_, fun q hq1 hq2 => ?_, fun q q' a1 a2 a3 a4 => ?_⟩
  · rw [e0] at hq2
    have := h2 q hq1 hq2
    unfold mp_met
    rw [e _ (by omega), e _ (by omega), e _ (by omega), e _ (by omega), e _ (by omega), e _ (by omega)]
    exact this
  · have := h3 q hq1 hq2
    unfold mp_lkr
    rw [e0, e (49 + 3 * q + 2) (by omega)]
    by_cases hq : q = l
    · subst hq
      rcases hw with ⟨rfl, hx⟩ | ⟨rfl, hx⟩
      · rw [mp_ud_eq, e (49 + 3 * q + 1) (by omega)]; exact ⟨hx, this.2⟩
      · rw [mp_ud_eq, e (49 + 3 * q + 0) (by omega)]; exact ⟨this.1, hx, this.2.2⟩
    · rw [e (49 + 3 * q + 0) (by omega), e (49 + 3 * q + 1) (by omega)]
      exact this
  · rw [e (49 + 3 * q + 2) (by omega), e (49 + 3 * q' + 2) (by omega)]
    exact h4 q q' a1 a2 a3 a4
