/-! ===== THE TEXT of a SKY: how the class reads it ===== -/
def sc_hb (e : Int → Int) (z p : Int) : Int := if 0 ≤ p ∧ p < z then e p else 0
def sc_dg (c : Int) : Int := if c = 109 then 8 else if c = 108 then 4 else if c = 114 then 2 else if c = 102 then 1 else 0
theorem sc_dg_bd (c : Int) : 0 ≤ sc_dg c ∧ sc_dg c ≤ 8 := by unfold sc_dg; omega
/-- the first byte that is no digit, of so many from a place on -/
def sc_bad (h : Int → Int) : Nat → Int → Int
  | 0, _ => -4
  | n + 1, p => if 48 ≤ h p ∧ h p ≤ 57 then sc_bad h n (p + 1) else p
theorem sc_bad_s {h : Int → Int} {n : Nat} {p : Int} : sc_bad h (n + 1) p = if 48 ≤ h p ∧ h p ≤ 57 then sc_bad h n (p + 1) else p := rfl
def sc_fw (h : Int → Int) (z : Int) : Nat → Int → Int
  | 0, _ => -4
  | n + 1, p => if p < z then (if sc_dg (h p) = 0 then p else if 0 ≤ sc_bad h (sc_dg (h p)).toNat (p + 1) then sc_bad h (sc_dg (h p)).toNat (p + 1) else if h (p + 1 + sc_dg (h p)) ≠ 59 then p + 1 + sc_dg (h p) else sc_fw h z n (p + 1 + sc_dg (h p) + 1)) else -4
theorem sc_fw_s {h : Int → Int} {z p : Int} {n : Nat} : sc_fw h z (n + 1) p = if p < z then (if sc_dg (h p) = 0 then p else if 0 ≤ sc_bad h (sc_dg (h p)).toNat (p + 1) then sc_bad h (sc_dg (h p)).toNat (p + 1) else if h (p + 1 + sc_dg (h p)) ≠ 59 then p + 1 + sc_dg (h p) else sc_fw h z n (p + 1 + sc_dg (h p) + 1)) else -4 := rfl
theorem sc_bad_bd {h : Int → Int} : ∀ (n : Nat) (p : Int), 0 ≤ p → sc_bad h n p = -4 ∨ (p ≤ sc_bad h n p ∧ sc_bad h n p < p + n ∧ ¬ (48 ≤ h (sc_bad h n p) ∧ h (sc_bad h n p) ≤ 57)) := by
  intro n
  induction n with
  | zero => intro p _; exact Or.inl rfl
  | succ n ih =>
    intro p hp
    rw [sc_bad_s]
    by_cases h1 : 48 ≤ h p ∧ h p ≤ 57
    · rw [if_pos h1]
      rcases ih (p + 1) (by omega) with h2 | h2
      · exact Or.inl h2
      · exact Or.inr ⟨by omega, by omega, h2.2.2⟩
    · rw [if_neg h1]; exact Or.inr ⟨by omega, by omega, h1⟩
theorem sc_bad_ok {h : Int → Int} : ∀ (n : Nat) (p : Int), 0 ≤ p → sc_bad h n p < 0 → ∀ j, p ≤ j → j < p + n → 48 ≤ h j ∧ h j ≤ 57 := by
  intro n
  induction n with
  | zero => intro p _ _ j h1 h2; omega
  | succ n ih =>
    intro p hp hb j h1 h2
    rw [sc_bad_s] at hb
    by_cases h3 : 48 ≤ h p ∧ h p ≤ 57
    · rw [if_pos h3] at hb
      by_cases e : j = p
      · subst e; exact h3
      · exact ih (p + 1) (by omega) hb j (by omega) (by omega)
    · rw [if_neg h3] at hb; omega
/-- two readings that show the same signs -/
def sc_rel (h hb : Int → Int) : Prop := ∀ p, 0 ≤ p → ∀ c, 48 ≤ c → c ≤ 114 → (h p = c ↔ hb p = c)
theorem sc_rel_dig {h hb : Int → Int} (hr : sc_rel h hb) {p : Int} (hp : 0 ≤ p) : (48 ≤ h p ∧ h p ≤ 57) ↔ (48 ≤ hb p ∧ hb p ≤ 57) := by
  constructor
  · intro h1; have := (hr p hp (h p) (by omega) (by omega)).mp rfl; omega
  · intro h1; have := (hr p hp (hb p) (by omega) (by omega)).mpr rfl; omega
theorem sc_rel_eq {h hb : Int → Int} (hr : sc_rel h hb) {p : Int} (hp : 0 ≤ p) (h1 : 48 ≤ hb p ∧ hb p ≤ 57) : h p = hb p := (hr p hp (hb p) (by omega) (by omega)).mpr rfl
theorem sc_rel_dg {h hb : Int → Int} (hr : sc_rel h hb) {p : Int} (hp : 0 ≤ p) : sc_dg (h p) = sc_dg (hb p) := by
  have a := hr p hp 109 (by decide) (by decide)
  have b := hr p hp 108 (by decide) (by decide)
  have c := hr p hp 114 (by decide) (by decide)
  have d := hr p hp 102 (by decide) (by decide)
  unfold sc_dg
  omega
theorem sc_bad_rel {h hb : Int → Int} (hr : sc_rel h hb) : ∀ (n : Nat) (p : Int), 0 ≤ p → sc_bad h n p = sc_bad hb n p := by
  intro n
  induction n with
  | zero => intro p _; rfl
  | succ n ih =>
    intro p hp
    rw [sc_bad_s, sc_bad_s, ih (p + 1) (by omega)]
    have := sc_rel_dig hr hp
    by_cases h1 : 48 ≤ h p ∧ h p ≤ 57
    · rw [if_pos h1, if_pos (this.mp h1)]
    · rw [if_neg h1, if_neg (fun q => h1 (this.mpr q))]
theorem sc_rel_of {el : Int → Int} {d z : Int} (hz : 0 ≤ z ∧ z ≤ 100) (hb : ∀ x, 0 ≤ x → x ≤ 99 → -128 ≤ el (100 * d + x) ∧ el (100 * d + x) ≤ 127) : sc_rel (sp_here el (100 * d) z) (sc_hb (sp_elm el d) z) := fun p hp c h1 h2 => by
  unfold sp_here sc_hb
  by_cases h : p < z
  · rw [if_pos h, if_pos ⟨hp, h⟩, sp_elm_in (by omega)]
    have := hb p hp (by omega)
    omega
  · rw [if_neg h, if_neg (fun q => h q.2)]; omega
/-! the reference's numbers, digit by digit -/
theorem sc_rdN (h : Int → Int) : ∀ (n : Nat) (p v : Int), 0 ≤ p → (sp_rdN h n p v).1 = (if 0 ≤ sc_bad h n p then 0 else 1) ∧ (sp_rdN h n p v).2.1 = if 0 ≤ sc_bad h n p then sc_bad h n p else p + n := by
  intro n
  induction n with
  | zero => intro p v _; exact ⟨rfl, by show p = if 0 ≤ (-4 : Int) then -4 else p + ((0 : Nat) : Int); rw [if_neg (by decide)]; omega⟩
  | succ n ih =>
    intro p v hp
    rw [sc_bad_s]
    unfold sp_rdN
    by_cases h1 : 48 ≤ h p ∧ h p ≤ 57
    · rw [if_pos h1, if_neg (by omega)]
      have := ih (p + 1) (10 * v + h p - 48) (by omega)
      refine ⟨this.1, this.2.trans ?_⟩
      split
      · rfl
      · omega
    · rw [if_neg h1, if_pos (by omega), if_pos hp]
      exact ⟨rfl, (if_pos hp).symm⟩
theorem sc_bad_add {h : Int → Int} : ∀ (a b : Nat) (p : Int), 0 ≤ p → sc_bad h (a + b) p = if 0 ≤ sc_bad h a p then sc_bad h a p else sc_bad h b (p + a) := by
  intro a
  induction a with
  | zero => intro b p _; rw [Nat.zero_add]; show sc_bad h b p = if 0 ≤ (-4 : Int) then -4 else sc_bad h b (p + ((0 : Nat) : Int)); rw [if_neg (by decide), show p + ((0 : Nat) : Int) = p by omega]
  | succ a ih =>
    intro b p hp
    rw [show a + 1 + b = (a + b) + 1 by omega, sc_bad_s, sc_bad_s]
    by_cases h1 : 48 ≤ h p ∧ h p ≤ 57
    · rw [if_pos h1, if_pos h1, ih b (p + 1) (by omega), show p + 1 + (a : Int) = p + ((a + 1 : Nat) : Int) by omega]
    · rw [if_neg h1, if_neg h1, if_pos hp]
theorem sc_rds (h : Int → Int) : ∀ (f : List (Int × Nat)) (p : Int) (num : Int → Int), 0 ≤ p → (sp_rds h f p num).1 = (if 0 ≤ sc_bad h (f.map Prod.snd).sum p then 0 else 1) ∧ (sp_rds h f p num).2.1 = if 0 ≤ sc_bad h (f.map Prod.snd).sum p then sc_bad h (f.map Prod.snd).sum p else p + ((f.map Prod.snd).sum : Nat) := by
  intro f
  induction f with
  | nil => intro p num _; exact ⟨rfl, by show p = if 0 ≤ (-4 : Int) then -4 else p + ((0 : Nat) : Int); rw [if_neg (by decide)]; omega⟩
  | cons a f ih =>
    intro p num hp
    obtain ⟨k, g⟩ := a
    have e : sp_rds h ((k, g) :: f) p num = if (sp_rdN h g p 0).1 = 0 then (0, (sp_rdN h g p 0).2.1, mp_ud num k (sp_rdN h g p 0).2.2) else sp_rds h f (sp_rdN h g p 0).2.1 (mp_ud num k (sp_rdN h g p 0).2.2) := rfl
    have hn := sc_rdN h g p 0 hp
    rw [e, List.map_cons, List.sum_cons, sc_bad_add g _ p hp]
    dsimp only
    by_cases hb : 0 ≤ sc_bad h g p
    · rw [if_pos hb] at hn
      rw [if_pos hn.1, if_pos hb, if_pos hb]
      refine ⟨rfl, hn.2.trans ?_⟩
      rw [if_pos hb, if_pos hb]
    · rw [if_neg hb] at hn
      rw [if_neg hb] at hn
      rw [if_neg (by rw [hn.1]; decide), if_neg hb, hn.2]
      have := ih (p + (g : Int)) (mp_ud num k (sp_rdN h g p 0).2.2) (by omega)
      refine ⟨this.1, this.2.trans ?_⟩
      split
      · rfl
      · push_cast; omega
theorem sc_dg_form {c : Int} (h : sp_isC c) : (((sp_form c).map Prod.snd).sum : Nat) = (sc_dg c).toNat := by
  rcases h with rfl | rfl | rfl | rfl <;> decide
theorem sc_isC (c : Int) : sp_isC c ↔ sc_dg c ≠ 0 := by unfold sc_dg sp_isC; omega
/-- one statement, in the class's words -/
theorem sc_rdS (h : Int → Int) (p : Int) (num : Int → Int) (hp : 0 ≤ p) : (sp_rdS h p num).1 = (if sc_dg (h p) = 0 ∨ 0 ≤ sc_bad h (sc_dg (h p)).toNat (p + 1) ∨ h (p + 1 + sc_dg (h p)) ≠ 59 then 0 else 1) ∧ (sp_rdS h p num).2.1 = (if sc_dg (h p) = 0 then p else if 0 ≤ sc_bad h (sc_dg (h p)).toNat (p + 1) then sc_bad h (sc_dg (h p)).toNat (p + 1) else if h (p + 1 + sc_dg (h p)) ≠ 59 then p + 1 + sc_dg (h p) else p + 1 + sc_dg (h p) + 1) := by
  have hdg := sc_dg_bd (h p)
  unfold sp_rdS
  by_cases hc : sp_isC (h p)
  · have hne := (sc_isC (h p)).mp hc
    rw [if_neg (fun q => q hc)]
    have hr := sc_rds h (sp_form (h p)) (p + 1) num (by omega)
    rw [sc_dg_form hc, show (((sc_dg (h p)).toNat : Nat) : Int) = sc_dg (h p) by omega] at hr
    by_cases hb : 0 ≤ sc_bad h (sc_dg (h p)).toNat (p + 1)
    · rw [if_pos hb, if_pos hb] at hr
      rw [if_pos (Or.inl hr.1), if_pos (Or.inr (Or.inl hb)), if_neg hne, if_pos hb]
      exact ⟨rfl, hr.2⟩
    · rw [if_neg hb, if_neg hb] at hr
      rw [hr.2]
      by_cases h59 : h (p + 1 + sc_dg (h p)) = 59
      · rw [if_neg (fun q => q.elim (fun q => by rw [hr.1] at q; exact absurd q (by decide)) (fun q => q h59)), if_neg (fun q => q.elim hne (fun q => q.elim hb (fun q => q h59))), if_neg hne, if_neg hb, if_neg (fun q => q h59)]
        exact ⟨rfl, rfl⟩
      · rw [if_pos (Or.inr h59), if_pos (Or.inr (Or.inr h59)), if_neg hne, if_neg hb, if_pos h59]
        exact ⟨rfl, hr.2⟩
  · have hne : sc_dg (h p) = 0 := by
      apply Classical.byContradiction
      intro q; exact hc ((sc_isC (h p)).mpr q)
    rw [if_pos hc, if_pos (Or.inl hne), if_pos hne]
    exact ⟨rfl, rfl⟩
/-- what the first reading tells -/
theorem sc_scan {h hb : Int → Int} {z : Int} (hr : sc_rel h hb) : ∀ (n m : Nat) (p c : Int) (num : Int → Int), 0 ≤ p → p < z → z ≤ p + n → z ≤ p + m → (0 ≤ sc_fw hb z m p → (sp_scan h z n p c num).1 = -1000 - sc_fw hb z m p) ∧ (sc_fw hb z m p < 0 → (sp_scan h z n p c num).1 = 0) := by
  intro n
  induction n with
  | zero => intro m p c num _ h1 h2; omega
  | succ n ih =>
    intro m p c num h0 h1 h2 h3
    obtain ⟨m, rfl⟩ : ∃ m', m = m' + 1 := ⟨m - 1, by omega⟩
    have hS := sc_rdS h p num h0
    have hdg := sc_dg_bd (hb p)
    have e59 := hr (p + 1 + sc_dg (hb p)) (by omega) 59 (by decide) (by decide)
    rw [sc_rel_dg hr h0, sc_bad_rel hr _ (p + 1) (by omega)] at hS
    rw [sc_fw_s, if_pos h1]
    have hbb := sc_bad_bd (h := hb) (sc_dg (hb p)).toNat (p + 1) (by omega)
    by_cases hd : sc_dg (hb p) = 0
    · rw [if_pos hd]
      rw [if_pos (Or.inl hd), if_pos hd] at hS
      rw [mp_scan_bad hS.1, hS.2]
      exact ⟨fun _ => rfl, fun q => by omega⟩
    · rw [if_neg hd]
      by_cases hbd : 0 ≤ sc_bad hb (sc_dg (hb p)).toNat (p + 1)
      · rw [if_pos hbd]
        rw [if_pos (Or.inr (Or.inl hbd)), if_neg hd, if_pos hbd] at hS
        rw [mp_scan_bad hS.1, hS.2]
        exact ⟨fun _ => rfl, fun q => by omega⟩
      · rw [if_neg hbd]
        by_cases h59 : hb (p + 1 + sc_dg (hb p)) = 59
        · rw [if_neg (fun q => q h59)]
          have h59' := e59.mpr h59
          rw [if_neg (fun q => q.elim hd (fun q => q.elim hbd (fun q => q h59'))), if_neg hd, if_neg hbd, if_neg (fun q => q h59')] at hS
          have hne : ¬ (sp_rdS h p num).1 = 0 := by rw [hS.1]; decide
          by_cases hlt : (sp_rdS h p num).2.1 < z
          · rw [mp_scan_on hne hlt, hS.2]
            exact ih m _ (c + 1) _ (by omega) (by omega) (by omega) (by omega)
          · rw [mp_scan_end hne hlt]
            have : sc_fw hb z m (p + 1 + sc_dg (hb p) + 1) = -4 := by
              cases m with
              | zero => rfl
              | succ m => rw [sc_fw_s, if_neg (by omega)]
            rw [this]
            exact ⟨fun q => absurd q (by decide), fun _ => rfl⟩
        · rw [if_pos h59]
          have h59' : h (p + 1 + sc_dg (hb p)) ≠ 59 := fun q => h59 (e59.mp q)
          rw [if_pos (Or.inr (Or.inr h59')), if_neg hd, if_neg hbd, if_pos h59'] at hS
          rw [mp_scan_bad hS.1, hS.2]
          exact ⟨fun _ => rfl, fun q => by omega⟩
/-- a statement that is read well -/
theorem sc_good {h hb : Int → Int} (hr : sc_rel h hb) {p : Int} {num : Int → Int} (hp : 0 ≤ p) (hok : (sp_rdS h p num).1 ≠ 0) : sc_dg (hb p) ≠ 0 ∧ (∀ j, p + 1 ≤ j → j < p + 1 + sc_dg (hb p) → 48 ≤ hb j ∧ hb j ≤ 57 ∧ h j = hb j) ∧ (sp_rdS h p num).2.1 = p + 1 + sc_dg (hb p) + 1 ∧ (sp_rdS h p num).2.2 = (sp_rds h (sp_form (h p)) (p + 1) num).2.2 := by
  have hS := sc_rdS h p num hp
  have hdg := sc_dg_bd (hb p)
  rw [sc_rel_dg hr hp, sc_bad_rel hr _ (p + 1) (by omega)] at hS
  have hno : ¬ (sc_dg (hb p) = 0 ∨ 0 ≤ sc_bad hb (sc_dg (hb p)).toNat (p + 1) ∨ h (p + 1 + sc_dg (hb p)) ≠ 59) := fun q => hok (by rw [hS.1, if_pos q])
  have h1 : sc_dg (hb p) ≠ 0 := fun q => hno (Or.inl q)
  have h2 : ¬ 0 ≤ sc_bad hb (sc_dg (hb p)).toNat (p + 1) := fun q => hno (Or.inr (Or.inl q))
  have h3 : ¬ h (p + 1 + sc_dg (hb p)) ≠ 59 := fun q => hno (Or.inr (Or.inr q))
  refine ⟨h1, fun j a b => ?_, by rw [hS.2, if_neg h1, if_neg h2, if_neg h3], ?_⟩
  · have := sc_bad_ok (h := hb) (sc_dg (hb p)).toNat (p + 1) (by omega) (by omega) j a (by omega)
    exact ⟨this.1, this.2, sc_rel_eq hr (by omega) this⟩
  · have hc : sp_isC (h p) := (sc_isC (h p)).mpr (by rw [sc_rel_dg hr hp]; exact h1)
    unfold sp_rdS at hok ⊢
    rw [if_neg (fun q => q hc)] at hok ⊢
    by_cases q : (sp_rds h (sp_form (h p)) (p + 1) num).1 = 0 ∨ h (sp_rds h (sp_form (h p)) (p + 1) num).2.1 ≠ 59
    · rw [if_pos q] at hok; exact absurd rfl hok
    · rw [if_neg q]
theorem sc_rd1 {h : Int → Int} {p : Int} (h1 : 48 ≤ h p ∧ h p ≤ 57) : sp_rdN h 1 p 0 = (1, p + 1, h p - 48) := by
  unfold sp_rdN
  rw [if_neg (by omega)]
  unfold sp_rdN
  rw [show 10 * 0 + h p - 48 = h p - 48 by omega]
theorem sc_rd2 {h : Int → Int} {p : Int} (h1 : 48 ≤ h p ∧ h p ≤ 57) (h2 : 48 ≤ h (p + 1) ∧ h (p + 1) ≤ 57) : sp_rdN h 2 p 0 = (1, p + 1 + 1, 10 * (h p - 48) + (h (p + 1) - 48)) := by
  unfold sp_rdN
  rw [if_neg (by omega)]
  unfold sp_rdN
  rw [if_neg (by omega)]
  unfold sp_rdN
  rw [show 10 * (10 * 0 + h p - 48) + h (p + 1) - 48 = 10 * (h p - 48) + (h (p + 1) - 48) by omega]
theorem mp_hb_w {e : Int → Int} {z : Int} (hel : ∀ x, mp_w (e x)) (p : Int) : mp_w (sc_hb e z p) := by
  unfold sc_hb
  split
  · exact hel _
  · exact ⟨by decide, by decide⟩

theorem zX7_digitsBehind {c : Int} {σ : mp_H} (h_c : mp_w c) : mp_Call (mX7_digitsBehind, 0, 0, 0) [mp_i c] σ (some (mp_i (sc_dg c)), σ) := by
  refine mp_Call.of (L := [some (mp_i c)]) pnX7 (Nat.le_of_ble_eq_true rfl) rfl ?_
  refine mp_iload_n dX7_digitsBehind_0 rfl ?_
  by_cases q1 : c = 102
  · refine mp_top (y := 102) q1 ?_
    refine mp_lookup (tgt := 51) (off := 50) dX7_digitsBehind_1 ⟨by decide, by decide⟩ (by decide) rfl rfl ?_
    refine mp_iconst dX7_digitsBehind_51 ?_
    exact mp_ireturn (st := []) dX7_digitsBehind_52 rfl ⟨by decide, by decide⟩ ((mp_ans (by unfold sc_dg; omega)))
  by_cases q2 : c = 108
  · refine mp_top (y := 108) q2 ?_
    refine mp_lookup (tgt := 47) (off := 46) dX7_digitsBehind_1 ⟨by decide, by decide⟩ (by decide) rfl rfl ?_
    refine mp_iconst dX7_digitsBehind_47 ?_
    exact mp_ireturn (st := []) dX7_digitsBehind_48 rfl ⟨by decide, by decide⟩ ((mp_ans (by unfold sc_dg; omega)))
  by_cases q3 : c = 109
  · refine mp_top (y := 109) q3 ?_
    refine mp_lookup (tgt := 44) (off := 43) dX7_digitsBehind_1 ⟨by decide, by decide⟩ (by decide) rfl rfl ?_
    refine mp_bipush dX7_digitsBehind_44 rfl ?_
    exact mp_ireturn (st := []) dX7_digitsBehind_46 rfl ⟨by decide, by decide⟩ ((mp_ans (by unfold sc_dg; omega)))
  by_cases q4 : c = 114
  · refine mp_top (y := 114) q4 ?_
    refine mp_lookup (tgt := 49) (off := 48) dX7_digitsBehind_1 ⟨by decide, by decide⟩ (by decide) rfl rfl ?_
    refine mp_iconst dX7_digitsBehind_49 ?_
    exact mp_ireturn (st := []) dX7_digitsBehind_50 rfl ⟨by decide, by decide⟩ ((mp_ans (by unfold sc_dg; omega)))
  refine mp_lookup (tgt := 53) (off := 52) dX7_digitsBehind_1 ⟨by omega, by omega⟩ (by decide) (by simp [Op.lookupswitch.offset_cons, Op.lookupswitch.offset, *] <;> omega) rfl ?_
  refine mp_iconst dX7_digitsBehind_53 ?_
  exact mp_ireturn (st := []) dX7_digitsBehind_54 rfl ⟨by decide, by decide⟩ ((mp_ans (by unfold sc_dg; omega)))
theorem zX7_digit {q : Nat} {o z : Int} {e : Int → Int} {r : Nat} {p : Int} {σ : mp_H} (hr : σ[r]? = some (mp_O 9 [Value.ref q, mp_i o, mp_i z])) (he : σ[q]? = some (mp_I 100 (mp_F e))) (h_z : 0 ≤ z ∧ z ≤ 100) (hel : ∀ x, mp_w (e x)) (h_p : mp_w p) : mp_Call (mX7_digit, 2, 0, 0) [Value.ref r, mp_i p] σ (some (mp_i (sc_hb e z p - 48)), σ) := by
  refine mp_Call.of (L := [some (Value.ref r), some (mp_i p)]) pnX7 (Nat.le_of_ble_eq_true rfl) rfl ?_
  refine mp_aload_n dX7_digit_0 rfl ?_
  refine mp_iload_n dX7_digit_1 rfl ?_
  refine mp_invV (z := (mX5_at, 1, 0, 0)) (K' := (0, 0)) (σ1 := σ) (as := [mp_i p]) (st := []) (st1 := [mp_i (if 0 ≤ p ∧ p < z then e p else 0)]) dX7_digit_2 svX7_15 hr rfl rfl (zX5_at (r := r) (i := p) (q := q) (o := o) (z := z) (e := e) hr he (by first | with_reducible assumption | omega) (by first | with_reducible assumption | omega)) ⟨Nat.le_of_ble_eq_true rfl, Nat.le_of_ble_eq_true rfl, Nat.le_of_ble_eq_true rfl, Nat.le_of_ble_eq_true rfl, Nat.le_of_ble_eq_true rfl⟩ rfl rfl rfl rfl ?_
  refine mp_top (y := sc_hb e z p) rfl ?_
  have hw1 := mp_hb_w hel (z := z) p
  refine mp_bipush dX7_digit_5 rfl ?_
  refine mp_isub (z := (sc_hb e z p) - 48) dX7_digit_7 (by first | rfl | omega) ?_
  exact mp_ireturn (st := []) dX7_digit_8 rfl ⟨by decide, by decide⟩ ((mp_ans (by first | with_reducible rfl | omega | rfl)))
theorem zX7_twoDigits {q : Nat} {o z : Int} {e : Int → Int} {r : Nat} {p : Int} {σ : mp_H} (hr : σ[r]? = some (mp_O 9 [Value.ref q, mp_i o, mp_i z])) (he : σ[q]? = some (mp_I 100 (mp_F e))) (h_z : 0 ≤ z ∧ z ≤ 100) (hel : ∀ x, mp_w (e x)) (h_p : 0 ≤ p ∧ p ≤ 1000) : mp_Call (mX7_twoDigits, 3, 0, 0) [Value.ref r, mp_i p] σ (some (mp_i (10 * (sc_hb e z p - 48) + (sc_hb e z (p + 1) - 48))), σ) := by
  refine mp_Call.of (L := [some (Value.ref r), some (mp_i p)]) pnX7 (Nat.le_of_ble_eq_true rfl) rfl ?_
  refine mp_bipush dX7_twoDigits_0 rfl ?_
  refine mp_aload_n dX7_twoDigits_2 rfl ?_
  refine mp_iload_n dX7_twoDigits_3 rfl ?_
  refine mp_invS (z := (mX7_digit, 2, 0, 0)) (K' := (0, 0)) (σ1 := σ) (as := [Value.ref r, mp_i p]) (st := [mp_i 10]) (st1 := [mp_i (sc_hb e z p - 48), mp_i 10]) dX7_twoDigits_4 ssX7_32 (zX7_digit (r := r) (p := p) (q := q) (o := o) (z := z) (e := e) hr he (by first | with_reducible assumption | omega) (by first | with_reducible assumption | omega) (by first | with_reducible assumption | omega)) ⟨Nat.le_of_ble_eq_true rfl, Nat.le_of_ble_eq_true rfl, Nat.le_of_ble_eq_true rfl, Nat.le_of_ble_eq_true rfl, Nat.le_of_ble_eq_true rfl⟩ rfl rfl rfl rfl ?_
  refine mp_imul (z := 10 * (sc_hb e z p - 48)) dX7_twoDigits_7 (by first | rfl | omega) ?_
  refine mp_aload_n dX7_twoDigits_8 rfl ?_
  refine mp_iload_n dX7_twoDigits_9 rfl ?_
  refine mp_iconst dX7_twoDigits_10 ?_
  refine mp_iadd (z := p + 1) dX7_twoDigits_11 (by first | rfl | omega) ?_
  refine mp_invS (z := (mX7_digit, 2, 0, 0)) (K' := (0, 0)) (σ1 := σ) (as := [Value.ref r, mp_i (p + 1)]) (st := [mp_i (10 * (sc_hb e z p - 48))]) (st1 := [mp_i (sc_hb e z (p + 1) - 48), mp_i (10 * (sc_hb e z p - 48))]) dX7_twoDigits_12 ssX7_32 (zX7_digit (r := r) (p := (p + 1)) (q := q) (o := o) (z := z) (e := e) hr he (by first | with_reducible assumption | omega) (by first | with_reducible assumption | omega) (by first | with_reducible assumption | omega)) ⟨Nat.le_of_ble_eq_true rfl, Nat.le_of_ble_eq_true rfl, Nat.le_of_ble_eq_true rfl, Nat.le_of_ble_eq_true rfl, Nat.le_of_ble_eq_true rfl⟩ rfl rfl rfl rfl ?_
  refine mp_iadd (z := (10 * (sc_hb e z p - 48)) + (sc_hb e z (p + 1) - 48)) dX7_twoDigits_15 (by first | rfl | omega) ?_
  exact mp_ireturn (st := []) dX7_twoDigits_16 rfl ⟨by decide, by decide⟩ ((mp_ans (by first | with_reducible rfl | omega | rfl)))
theorem lX7_firstWrongByte_41 {q : Nat} {o z : Int} {e : Int → Int} {r : Nat} {σ : mp_H} (hr : σ[r]? = some (mp_O 9 [Value.ref q, mp_i o, mp_i z])) (he : σ[q]? = some (mp_I 100 (mp_F e))) (h_z : 0 ≤ z ∧ z ≤ 100) (hel : ∀ x, mp_w (e x)) {R9 : mp_An} : ∀ (n : Nat) (y : Int) (b : Int) (g : Int), ((0 ≤ y ∧ y + (n : Nat) = b) ∧ b ≤ 300) → ((0 ≤ sc_bad (sc_hb e z) n y → R9 = (some (mp_i (sc_bad (sc_hb e z) n y)), σ)) ∧ (sc_bad (sc_hb e z) n y < 0 → mp_At (mX7_firstWrongByte, 2, 0, 0) (0, 0) 74 [some (Value.ref r), some (mp_i b), some (mp_i g), some (mp_i b)] [] σ R9)) → mp_At (mX7_firstWrongByte, 2, 0, 0) (0, 0) 41 [some (Value.ref r), some (mp_i y), some (mp_i g), some (mp_i b)] [] σ R9 := by
  intro n
  induction n with
  | zero =>
    intro y b g hi hk
    refine mp_iload_n dX7_firstWrongByte_41 rfl ?_
    refine mp_iload_n dX7_firstWrongByte_42 rfl ?_
    refine mp_icmp_ge (tgt := 74) dX7_firstWrongByte_43 rfl ⟨by omega, by omega⟩ ⟨by omega, by omega⟩ (fun h1 => ?_) (fun h1 => ?_)
    · refine mp_loc (j := 1) (x := y) (y := b) (by omega) rfl (L' := [some (Value.ref r), some (mp_i b), some (mp_i g), some (mp_i b)]) rfl ?_
      exact hk.2 (show (-4 : Int) < 0 by decide)
    · exfalso; omega
  | succ n ih =>
    intro y b g hi hk
    refine mp_iload_n dX7_firstWrongByte_41 rfl ?_
    refine mp_iload_n dX7_firstWrongByte_42 rfl ?_
    refine mp_icmp_ge (tgt := 74) dX7_firstWrongByte_43 rfl ⟨by omega, by omega⟩ ⟨by omega, by omega⟩ (fun h1 => ?_) (fun h1 => ?_)
    · exfalso; omega
    · refine mp_aload_n dX7_firstWrongByte_46 rfl ?_
      refine mp_iload_n dX7_firstWrongByte_47 rfl ?_
      refine mp_invV (z := (mX5_at, 1, 0, 0)) (K' := (0, 0)) (σ1 := σ) (as := [mp_i y]) (st := []) (st1 := [mp_i (if 0 ≤ y ∧ y < z then e y else 0)]) dX7_firstWrongByte_48 svX7_15 hr rfl rfl (zX5_at (r := r) (i := y) (q := q) (o := o) (z := z) (e := e) hr he (by first | with_reducible assumption | omega) (by first | with_reducible assumption | omega)) ⟨Nat.le_of_ble_eq_true rfl, Nat.le_of_ble_eq_true rfl, Nat.le_of_ble_eq_true rfl, Nat.le_of_ble_eq_true rfl, Nat.le_of_ble_eq_true rfl⟩ rfl rfl rfl rfl ?_
      refine mp_top (y := sc_hb e z y) rfl ?_
      have hw2 := mp_hb_w hel (z := z) y
      refine mp_bipush dX7_firstWrongByte_51 rfl ?_
      refine mp_icmp_lt (tgt := 66) dX7_firstWrongByte_53 rfl ⟨by omega, by omega⟩ ⟨by omega, by omega⟩ (fun h3 => ?_) (fun h3 => ?_)
      · refine mp_iload_n dX7_firstWrongByte_66 rfl ?_
        exact mp_ireturn (st := []) dX7_firstWrongByte_67 rfl ⟨by decide, by decide⟩ ((by rw [sc_bad_s, if_neg (by omega)] at hk; exact hk.1 (by omega)))
      · refine mp_aload_n dX7_firstWrongByte_56 rfl ?_
        refine mp_iload_n dX7_firstWrongByte_57 rfl ?_
        refine mp_invV (z := (mX5_at, 1, 0, 0)) (K' := (0, 0)) (σ1 := σ) (as := [mp_i y]) (st := []) (st1 := [mp_i (if 0 ≤ y ∧ y < z then e y else 0)]) dX7_firstWrongByte_58 svX7_15 hr rfl rfl (zX5_at (r := r) (i := y) (q := q) (o := o) (z := z) (e := e) hr he (by first | with_reducible assumption | omega) (by first | with_reducible assumption | omega)) ⟨Nat.le_of_ble_eq_true rfl, Nat.le_of_ble_eq_true rfl, Nat.le_of_ble_eq_true rfl, Nat.le_of_ble_eq_true rfl, Nat.le_of_ble_eq_true rfl⟩ rfl rfl rfl rfl ?_
        refine mp_top (y := sc_hb e z y) rfl ?_
        have hw4 := mp_hb_w hel (z := z) y
        refine mp_bipush dX7_firstWrongByte_61 rfl ?_
        refine mp_icmp_le (tgt := 68) dX7_firstWrongByte_63 rfl ⟨by omega, by omega⟩ ⟨by omega, by omega⟩ (fun h5 => ?_) (fun h5 => ?_)
        · refine mp_iinc (z := y + 1) (L' := [some (Value.ref r), some (mp_i (y + 1)), some (mp_i g), some (mp_i b)]) dX7_firstWrongByte_68 rfl (rfl) (by decide) rfl ?_
          refine mp_goto (tgt := 41) dX7_firstWrongByte_71 rfl ?_
          exact ih (y + 1) b g (by omega) (by rw [sc_bad_s, if_pos (by omega)] at hk; exact hk)
        · refine mp_iload_n dX7_firstWrongByte_66 rfl ?_
          exact mp_ireturn (st := []) dX7_firstWrongByte_67 rfl ⟨by decide, by decide⟩ ((by rw [sc_bad_s, if_neg (by omega)] at hk; exact hk.1 (by omega)))
theorem lX7_firstWrongByte_11 {q : Nat} {o z : Int} {e : Int → Int} {r : Nat} {σ : mp_H} (hr : σ[r]? = some (mp_O 9 [Value.ref q, mp_i o, mp_i z])) (he : σ[q]? = some (mp_I 100 (mp_F e))) (h_z : 0 ≤ z ∧ z ≤ 100) (hel : ∀ x, mp_w (e x)) {R9 : mp_An} : ∀ (n : Nat) (p : Int), ((0 ≤ p ∧ p ≤ 250) ∧ z ≤ p + (n : Nat)) → R9 = (some (mp_i (sc_fw (sc_hb e z) z n p)), σ) → mp_At (mX7_firstWrongByte, 2, 0, 0) (0, 0) 11 [some (Value.ref r), some (mp_i p), none, none] [] σ R9 := by
  intro n
  induction n with
  | zero =>
    intro p hi hR
    refine mp_iload_n dX7_firstWrongByte_11 rfl ?_
    refine mp_aload_n dX7_firstWrongByte_12 rfl ?_
    refine mp_getfield dX7_firstWrongByte_13 fsX7_9_9 hr rfl ?_
    refine mp_icmp_ge (tgt := 92) dX7_firstWrongByte_16 rfl ⟨by omega, by omega⟩ ⟨by omega, by omega⟩ (fun h1 => ?_) (fun h1 => ?_)
    · refine mp_bipush dX7_firstWrongByte_92 rfl ?_
      exact mp_ireturn (st := []) dX7_firstWrongByte_94 rfl ⟨by decide, by decide⟩ (hR.trans (mp_ans (by first | rfl | (rw [sc_fw_s, if_neg (by omega)]))))
    · exfalso; omega
  | succ n ih =>
    intro p hi hR
    refine mp_iload_n dX7_firstWrongByte_11 rfl ?_
    refine mp_aload_n dX7_firstWrongByte_12 rfl ?_
    refine mp_getfield dX7_firstWrongByte_13 fsX7_9_9 hr rfl ?_
    refine mp_icmp_ge (tgt := 92) dX7_firstWrongByte_16 rfl ⟨by omega, by omega⟩ ⟨by omega, by omega⟩ (fun h1 => ?_) (fun h1 => ?_)
    · refine mp_bipush dX7_firstWrongByte_92 rfl ?_
      exact mp_ireturn (st := []) dX7_firstWrongByte_94 rfl ⟨by decide, by decide⟩ (hR.trans (mp_ans (by first | rfl | (rw [sc_fw_s, if_neg (by omega)]))))
    · refine mp_aload_n dX7_firstWrongByte_19 rfl ?_
      refine mp_iload_n dX7_firstWrongByte_20 rfl ?_
      refine mp_invV (z := (mX5_at, 1, 0, 0)) (K' := (0, 0)) (σ1 := σ) (as := [mp_i p]) (st := []) (st1 := [mp_i (if 0 ≤ p ∧ p < z then e p else 0)]) dX7_firstWrongByte_21 svX7_15 hr rfl rfl (zX5_at (r := r) (i := p) (q := q) (o := o) (z := z) (e := e) hr he (by first | with_reducible assumption | omega) (by first | with_reducible assumption | omega)) ⟨Nat.le_of_ble_eq_true rfl, Nat.le_of_ble_eq_true rfl, Nat.le_of_ble_eq_true rfl, Nat.le_of_ble_eq_true rfl, Nat.le_of_ble_eq_true rfl⟩ rfl rfl rfl rfl ?_
      refine mp_top (y := sc_hb e z p) rfl ?_
      have hw2 := mp_hb_w hel (z := z) p
      refine mp_invS (z := (mX7_digitsBehind, 0, 0, 0)) (K' := (0, 0)) (σ1 := σ) (as := [mp_i (sc_hb e z p)]) (st := []) (st1 := [mp_i (sc_dg (sc_hb e z p))]) dX7_firstWrongByte_24 ssX7_19 (zX7_digitsBehind (c := (sc_hb e z p)) (by first | with_reducible assumption | omega)) ⟨Nat.le_of_ble_eq_true rfl, Nat.le_of_ble_eq_true rfl, Nat.le_of_ble_eq_true rfl, Nat.le_of_ble_eq_true rfl, Nat.le_of_ble_eq_true rfl⟩ rfl rfl rfl rfl ?_
      refine mp_istore_n (L' := [some (Value.ref r), some (mp_i p), some (mp_i (sc_dg (sc_hb e z p))), none]) dX7_firstWrongByte_27 rfl (by decide) rfl ?_
      have hdg0 := sc_dg_bd (sc_hb e z p)
      refine mp_iload_n dX7_firstWrongByte_28 rfl ?_
      refine mp_if_ne (tgt := 34) dX7_firstWrongByte_29 rfl ⟨by omega, by omega⟩ (fun h3 => ?_) (fun h3 => ?_)
      · refine mp_iinc (z := p + 1) (L' := [some (Value.ref r), some (mp_i (p + 1)), some (mp_i (sc_dg (sc_hb e z p))), none]) dX7_firstWrongByte_34 rfl (rfl) (by decide) rfl ?_
        refine mp_iload_n dX7_firstWrongByte_37 rfl ?_
        refine mp_iload_n dX7_firstWrongByte_38 rfl ?_
        refine mp_iadd (z := (p + 1) + (sc_dg (sc_hb e z p))) dX7_firstWrongByte_39 (by first | rfl | omega) ?_
        refine mp_istore_n (L' := [some (Value.ref r), some (mp_i (p + 1)), some (mp_i (sc_dg (sc_hb e z p))), some (mp_i ((p + 1) + (sc_dg (sc_hb e z p))))]) dX7_firstWrongByte_40 rfl (by decide) rfl ?_
        have hdg := sc_dg_bd (sc_hb e z p)
        refine lX7_firstWrongByte_41 (r := r) hr he h_z hel (Int.toNat (sc_dg (sc_hb e z p))) (p + 1) (p + 1 + sc_dg (sc_hb e z p)) (sc_dg (sc_hb e z p)) (by omega) ⟨fun h0 => hR.trans (by rw [sc_fw_s, if_pos (by omega), if_neg (by omega), if_pos h0]), fun h0 => ?_⟩
        refine mp_aload_n dX7_firstWrongByte_74 rfl ?_
        refine mp_iload_n dX7_firstWrongByte_75 rfl ?_
        refine mp_invV (z := (mX5_at, 1, 0, 0)) (K' := (0, 0)) (σ1 := σ) (as := [mp_i (p + 1 + sc_dg (sc_hb e z p))]) (st := []) (st1 := [mp_i (if 0 ≤ (p + 1 + sc_dg (sc_hb e z p)) ∧ (p + 1 + sc_dg (sc_hb e z p)) < z then e (p + 1 + sc_dg (sc_hb e z p)) else 0)]) dX7_firstWrongByte_76 svX7_15 hr rfl rfl (zX5_at (r := r) (i := (p + 1 + sc_dg (sc_hb e z p))) (q := q) (o := o) (z := z) (e := e) hr he (by first | with_reducible assumption | omega) (by first | with_reducible assumption | omega)) ⟨Nat.le_of_ble_eq_true rfl, Nat.le_of_ble_eq_true rfl, Nat.le_of_ble_eq_true rfl, Nat.le_of_ble_eq_true rfl, Nat.le_of_ble_eq_true rfl⟩ rfl rfl rfl rfl ?_
        refine mp_top (y := sc_hb e z (p + 1 + sc_dg (sc_hb e z p))) rfl ?_
        have hw4 := mp_hb_w hel (z := z) (p + 1 + sc_dg (sc_hb e z p))
        refine mp_bipush dX7_firstWrongByte_79 rfl ?_
        refine mp_icmp_eq (tgt := 86) dX7_firstWrongByte_81 rfl ⟨by omega, by omega⟩ ⟨by omega, by omega⟩ (fun h5 => ?_) (fun h5 => ?_)
        · refine mp_iinc (z := (p + 1 + sc_dg (sc_hb e z p)) + 1) (L' := [some (Value.ref r), some (mp_i ((p + 1 + sc_dg (sc_hb e z p)) + 1)), some (mp_i (sc_dg (sc_hb e z p))), some (mp_i (p + 1 + sc_dg (sc_hb e z p)))]) dX7_firstWrongByte_86 rfl (rfl) (by decide) rfl ?_
          refine mp_goto (tgt := 11) dX7_firstWrongByte_89 rfl ?_
          refine mp_drop (L' := [some (Value.ref r), some (mp_i ((p + 1 + sc_dg (sc_hb e z p)) + 1)), none, none]) [true, true, false, false] rfl ?_
          exact ih _ (by omega) (hR.trans (by rw [sc_fw_s, if_pos (by omega), if_neg (by omega), if_neg (by omega), if_neg (by omega)]))
        · refine mp_iload_n dX7_firstWrongByte_84 rfl ?_
          exact mp_ireturn (st := []) dX7_firstWrongByte_85 rfl ⟨by decide, by decide⟩ (hR.trans (mp_ans (by rw [sc_fw_s, if_pos (by omega), if_neg (by omega), if_neg (by omega), if_pos (by omega)])))
      · refine mp_iload_n dX7_firstWrongByte_32 rfl ?_
        exact mp_ireturn (st := []) dX7_firstWrongByte_33 rfl ⟨by decide, by decide⟩ (hR.trans (mp_ans (by rw [sc_fw_s, if_pos (by omega), if_pos (by omega)])))
theorem zX7_firstWrongByte {q : Nat} {o z : Int} {e : Int → Int} {r : Nat} {σ : mp_H} (hr : σ[r]? = some (mp_O 9 [Value.ref q, mp_i o, mp_i z])) (he : σ[q]? = some (mp_I 100 (mp_F e))) (h_z : 0 ≤ z ∧ z ≤ 100) (hel : ∀ x, mp_w (e x)) : mp_Call (mX7_firstWrongByte, 2, 0, 0) [Value.ref r] σ (some (mp_i (if z = 0 then 0 else sc_fw (sc_hb e z) z (Int.toNat z) 0)), σ) := by
  refine mp_Call.of (L := [some (Value.ref r), none, none, none]) pnX7 (Nat.le_of_ble_eq_true rfl) rfl ?_
  refine mp_aload_n dX7_firstWrongByte_0 rfl ?_
  refine mp_getfield dX7_firstWrongByte_1 fsX7_9_9 hr rfl ?_
  refine mp_if_ne (tgt := 9) dX7_firstWrongByte_4 rfl ⟨by omega, by omega⟩ (fun h1 => ?_) (fun h1 => ?_)
  · refine mp_iconst dX7_firstWrongByte_9 ?_
    refine mp_istore_n (L' := [some (Value.ref r), some (mp_i 0), none, none]) dX7_firstWrongByte_10 rfl (by decide) rfl ?_
    exact lX7_firstWrongByte_11 (r := r) hr he (by first | with_reducible assumption | omega) (by first | with_reducible assumption | omega) (Int.toNat z) 0 (by omega) (by rw [if_neg (by omega)])
  · refine mp_iconst dX7_firstWrongByte_7 ?_
    exact mp_ireturn (st := []) dX7_firstWrongByte_8 rfl ⟨by decide, by decide⟩ ((mp_ans (by rw [if_pos (by omega)])))
