/-! ===== nights, shelves ===== -/
abbrev sp_thereP (s : Int → Int) (k t : Int) : Prop := 0 ≤ t - s (1 + 6 * k + 4) ∧ (t - s (1 + 6 * k + 4)) % sp_period (s (1 + 6 * k + 0)) (s (1 + 6 * k + 1)) = 0
def sp_comesN (s : Int → Int) (k : Int) : Nat → Int → Int
  | 0, _ => -4
  | n + 1, t => if sp_thereP s k t then t else sp_comesN s k n (t + 1)
def sp_comes (s : Int → Int) (k v : Int) : Int := if ¬ (0 ≤ k ∧ k ≤ s 0 - 1) ∨ ¬ (0 ≤ v ∧ v ≤ 365) then -1 else sp_comesN s k (366 - v).toNat v
def sp_togetherN (s : Int → Int) (k m : Int) : Nat → Int → Int
  | 0, _ => -4
  | n + 1, t => if sp_thereP s k t ∧ sp_thereP s m t then t else sp_togetherN s k m n (t + 1)
def sp_together (s : Int → Int) (k m : Int) : Int := if ¬ (0 ≤ k ∧ k ≤ s 0 - 1) ∨ ¬ (0 ≤ m ∧ m ≤ s 0 - 1) ∨ k = m then -1 else sp_togetherN s k m 366 0
def sp_lastsAll (s : Int → Int) : Int := mp_fold (fun k v => v + sp_lasts (s (1 + 6 * k + 0)) (s (1 + 6 * k + 1))) (s 0).toNat 0 0
def sp_sumL (s : Int → Int) (w : Int) : Int := mp_fold (fun l v => v + s (49 + 3 * l + w)) 5 0 0
def sp_count (s : Int → Int) (w : Int) : Int := if w = 0 then s 0 else if w = 1 then sp_heatAll s else if w = 2 then sp_lastsAll s else if w = 3 then sp_sumL s 1 else if w = 4 then sp_sumL s 0 else if w = 5 then sp_said s else -1
def sp_restore (s img : Int → Int) (im : Int) : Int × (Int → Int) := if im = 0 then (-3, s) else (img 0, img)
def sp_keepBad (d w k f : Int) : Prop := ¬ (0 ≤ d ∧ d ≤ 7) ∨ ¬ (0 ≤ w ∧ w ≤ 1) ∨ (w = 1 ∧ (¬ (0 ≤ k ∧ k ≤ 7) ∨ ¬ (0 ≤ f ∧ f ≤ 9)))
def sp_keep (kp kk kf : Int → Int) (d w k f : Int) : Int × (Int → Int) × (Int → Int) × (Int → Int) := if ¬ (0 ≤ d ∧ d ≤ 7) ∨ ¬ (0 ≤ w ∧ w ≤ 1) ∨ (w = 1 ∧ (¬ (0 ≤ k ∧ k ≤ 7) ∨ ¬ (0 ≤ f ∧ f ≤ 9))) then (-1, kp, kk, kf) else (0, mp_ud kp d w, mp_ud kk d k, mp_ud kf d f)
def sp_zero (el : Int → Int) (d : Int) : Int → Int := mp_fold (fun k q => mp_ud q (100 * d + k) 0) 100 0 el
def sp_row (kp so sz el : Int → Int) (d o n : Int) : Int × (Int → Int) × (Int → Int) × (Int → Int) × (Int → Int) := if ¬ (0 ≤ d ∧ d ≤ 7) ∨ ¬ (0 ≤ o ∧ o ≤ 2) ∨ 100 < n then (-1, kp, so, sz, el) else if n < 0 then (-14, kp, so, sz, el) else (0, mp_ud kp d 2, mp_ud so d o, mp_ud sz d n, sp_zero el d)
def sp_low (o v : Int) : Int := if o = 0 then v.bmod 256 else if o = 1 then v.bmod 65536 else v
def sp_put (kp so sz el : Int → Int) (d i v : Int) : Int × (Int → Int) := if sp_wrongRow kp so d (-1) ≠ 0 then (sp_wrongRow kp so d (-1), el) else if ¬ (0 ≤ i ∧ i ≤ sz d - 1) then (-13, el) else (0, mp_ud el (100 * d + i) (sp_low (so d) v))
def sp_thrown (kp sz : Int → Int) (d i : Int) : Int := if ¬ (0 ≤ d ∧ d ≤ 7) then 1 else if kp d ≠ 2 ∨ ¬ (0 ≤ i ∧ i ≤ sz d - 1) then 2 else 0
def sp_element (kp sz el : Int → Int) (d i : Int) : Int := if sp_thrown kp sz d i = 0 then el (100 * d + i) else 0
def sp_costC (kp kk kf : Int → Int) (d : Int) : Int := if sp_wrongKept kp d ≠ 0 then sp_wrongKept kp d else sp_cost (kk d) (kf d)
def sp_toss (kp kk kf : Int → Int) (d : Int) : Int := if sp_wrongKept kp d ≠ 0 then sp_wrongKept kp d else if kk d = 2 ∨ kk d = 5 ∨ kf d = 0 then -15 else if kk d = 4 then 200 + sp_cost (kk d) (kf d) else if kk d = 1 then 100 + kf d else kf d
def sp_leastOf (o : Int) : Int := if o = 0 then -128 else if o = 1 then -32768 else -2147483648
theorem mp_z_b8 (a : Int) : (Int32.ofInt a).toInt8.toInt32 = Int32.ofInt (a.bmod 256) := by
  rw [Int32.toInt8_ofInt, ← Int32.ofInt_int8ToInt, Int8.toInt_ofInt]
theorem mp_z_b16 (a : Int) : (Int32.ofInt a).toInt16.toInt32 = Int32.ofInt (a.bmod 65536) := by
  rw [Int32.toInt16_ofInt, ← Int32.ofInt_int16ToInt, Int16.toInt_ofInt]
theorem mp_cost_bd {kind f : Int} (h : 0 ≤ f ∧ f ≤ 9) : 0 ≤ sp_cost kind f ∧ sp_cost kind f ≤ 20 := by unfold sp_cost; omega
theorem mp_mod_bd {a b : Int} (h : 1 ≤ b ∧ b ≤ 24) : 0 ≤ a % b ∧ a % b < 24 := ⟨Int.emod_nonneg a (by omega), by have := Int.emod_lt_of_pos a (by omega : 0 < b); omega⟩
def sp_cpy (el : Int → Int) (p q n : Int) : Int → Int := fun x => if q ≤ x ∧ x < q + n then el (p + (x - q)) else el x
def sp_copy (kp so sz el : Int → Int) (d i e j n : Int) : Int × (Int → Int) := if ¬ (0 ≤ d ∧ d ≤ 7) ∨ ¬ (0 ≤ e ∧ e ≤ 7) then (-1, el) else if kp d = 0 ∨ kp e = 0 then (-11, el) else if kp d ≠ 2 ∨ kp e ≠ 2 ∨ so d ≠ so e then (-12, el) else if n < 0 ∨ i < 0 ∨ j < 0 ∨ sz d - i < n ∨ sz e - j < n then (-13, el) else (n, sp_cpy el (100 * d + i) (100 * e + j) n)
theorem mp_roofsAt_sky {s : Int → Int} (hs : mp_sky s) {c : Int} (hc : 0 ≤ c ∧ c ≤ 11) : mp_sky (sp_roofsAt s c) := by
  have := mp_fold_inv_lt (f := fun l q => mp_ud q (49 + 3 * l + 0) (c + l)) (fun i q => 0 ≤ i ∧ mp_sky q) 5 (fun i q hi h => ⟨by omega, mp_sky_looker h.2 ⟨h.1, by omega⟩ (Or.inl ⟨rfl, by omega, by omega⟩)⟩) 5 0 s (by decide) ⟨by decide, hs⟩
  exact this.2
