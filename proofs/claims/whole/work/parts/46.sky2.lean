/-! ===== skies that are written; METEORS stay ===== -/
/-- the METEORS of a sky in a heap -/
def mp_Mt (σ : mp_H) (s : Int → Int) (f : Nat → Option Nat) : Prop := ∀ k, 0 ≤ k → k < s 0 → ∃ a, f (Int.toNat k) = some a ∧ σ[a]? = some (mp_mc s k)
/-- what a row of METEORS names are METEORS -/
def mp_Mr (σ : mp_H) (f : Nat → Option Nat) : Prop := ∀ j a, j < 8 → f j = some a → ∃ c vs, c < 8 ∧ σ[a]? = some (mp_O c vs)
/-- the six cells of a sky -/
def mp_skC (σ : mp_H) (p : Nat) (s : Int → Int) (f : Nat → Option Nat) : Prop :=
  σ[p]? = some (mp_O 8 [.ref (p + 1), .ref (p + 2), .ref (p + 3), .ref (p + 4), .ref (p + 5), mp_i (s 0)]) ∧ σ[p + 1]? = some (mp_R 0 8 (mp_c8f f)) ∧ σ[p + 2]? = some (mp_I 8 (mp_F (sp_isf s))) ∧ σ[p + 3]? = some (mp_I 5 (mp_F (sp_rof s))) ∧ σ[p + 4]? = some (mp_I 5 (mp_F (sp_qui s))) ∧ σ[p + 5]? = some (mp_I 5 (mp_F (sp_sai s))) ∧ True
theorem mp_Sk.of {σ : mp_H} {p : Nat} {s : Int → Int} {f : Nat → Option Nat} (h : mp_skC σ p s f) (h2 : mp_Mt σ s f) : mp_Sk σ p s f := by
  obtain ⟨h0, h1, h3, h4, h5, h6, -⟩ := h
  exact ⟨h0, h1, h3, h4, h5, h6, h2⟩
theorem mp_skC.own {A B : mp_H} {p : Nat} {s : Int → Int} {f : Nat → Option Nat} (hA : A.length = p) : mp_skC (A ++ (mp_sk p s f ++ B)) p s f := ⟨mp_lkP hA 0 rfl, mp_lkP hA 1 rfl, mp_lkP hA 2 rfl, mp_lkP hA 3 rfl, mp_lkP hA 4 rfl, mp_lkP hA 5 rfl, trivial⟩
/-- METEORS of the one heap are in the other -/
def mp_stay (σ σ' : mp_H) : Prop := ∀ (a c : Nat) (vs : List Value), c < 8 → σ[a]? = some (mp_O c vs) → σ'[a]? = some (mp_O c vs)
theorem mp_stay.rf {σ : mp_H} : mp_stay σ σ := fun _ _ _ _ h => h
theorem mp_stay.tr {σ σ' σ'' : mp_H} (h : mp_stay σ σ') (h' : mp_stay σ' σ'') : mp_stay σ σ'' := fun a c vs hc hh => h' a c vs hc (h a c vs hc hh)
theorem mp_stay.app {σ τ : mp_H} : mp_stay σ (σ ++ τ) := fun a c vs _ h => by rw [List.getElem?_append_left (List.getElem?_eq_some_iff.mp h).1]; exact h
theorem mp_Mr.mono {σ σ' : mp_H} {f : Nat → Option Nat} (h : mp_Mr σ f) (hl : mp_stay σ σ') : mp_Mr σ' f := fun j a hj hf => by
  obtain ⟨c, vs, hc, hh⟩ := h j a hj hf
  exact ⟨c, vs, hc, hl a c vs hc hh⟩
theorem mp_Mt.mono {σ σ' : mp_H} {s : Int → Int} {f : Nat → Option Nat} (h : mp_Mt σ s f) (hm : ∀ k, 0 ≤ k → k < s 0 → 0 ≤ s (1 + 6 * k + 0) ∧ s (1 + 6 * k + 0) ≤ 7) (hl : mp_stay σ σ') : mp_Mt σ' s f := fun k h0 h1 => by
  obtain ⟨a, hf, hh⟩ := h k h0 h1
  have := hm k h0 h1
  exact ⟨a, hf, hl a _ _ (by omega) hh⟩
/-- a stretch of cells none of which is a METEOR, in place of another such -/
def mp_nm (Ms : mp_H) : Prop := ∀ (j c : Nat) (vs : List Value), c < 8 → Ms[j]? ≠ some (mp_O c vs)
theorem mp_stay.mid {A Ms Ms' B : mp_H} (hl : Ms.length = Ms'.length) (hn : mp_nm Ms) : mp_stay (A ++ (Ms ++ B)) (A ++ (Ms' ++ B)) := fun a c vs hc h => by
  by_cases h1 : a < A.length
  · rw [List.getElem?_append_left h1] at h ⊢; exact h
  · rw [List.getElem?_append_right (by omega)] at h ⊢
    by_cases h2 : a - A.length < Ms.length
    · rw [List.getElem?_append_left h2] at h; exact absurd h (hn _ c vs hc)
    · rw [List.getElem?_append_right (by omega)] at h ⊢; rw [← hl]; exact h
theorem mp_nm_sk {p : Nat} {s : Int → Int} {f : Nat → Option Nat} : mp_nm (mp_sk p s f) := fun j c vs hc h => by
  match j, h with
  | 0, h => exact absurd (congrArg (fun o : Option mp_C => match o with | some (.inl q) => q.1 | _ => 0) h) (by show ¬ 8 = c; omega)
  | 1, h => cases h
  | 2, h => cases h
  | 3, h => cases h
  | 4, h => cases h
  | 5, h => cases h
  | j + 6, h => cases h
theorem mp_stay_sk {A B : mp_H} {p : Nat} {s t : Int → Int} {f g : Nat → Option Nat} : mp_stay (A ++ (mp_sk p s f ++ B)) (A ++ (mp_sk p t g ++ B)) := mp_stay.mid rfl mp_nm_sk
theorem mp_sky.kd {s : Int → Int} (hs : mp_sky s) : ∀ k, 0 ≤ k → k < s 0 → 0 ≤ s (1 + 6 * k + 0) ∧ s (1 + 6 * k + 0) ≤ 7 := fun k h0 h1 => (hs.2.1 k h0 h1).1
/-- the same METEORS, other LOOKERS -/
theorem mp_Mt.alike {σ : mp_H} {s t : Int → Int} {f : Nat → Option Nat} (h : mp_Mt σ s f) (e : ∀ j, 0 ≤ j → j < 49 → t j = s j) (h8 : s 0 ≤ 8) : mp_Mt σ t f := fun k h0 h1 => by
  rw [e 0 (by omega) (by omega)] at h1
  obtain ⟨a, hf, hh⟩ := h k h0 h1
  refine ⟨a, hf, ?_⟩
  rw [hh]
  unfold mp_mc
  rw [e _ (by omega) (by omega), e (1 + 6 * k + 1) (by omega) (by omega), e (1 + 6 * k + 2) (by omega) (by omega), e (1 + 6 * k + 3) (by omega) (by omega), e (1 + 6 * k + 4) (by omega) (by omega)]
section
variable {Y : mp_Y} {K : Nat × Nat} {pc nx idx : Nat} {L : List (Option Value)} {st st0 st1 : List Value} {σ σ1 : mp_H} {A A1 : mp_An} {as : List Value}
theorem mp_aastO {k n : Nat} {f : Nat → Option Nat} {i : Int} {o : Option Nat} {σ' : mp_H} (hd : mp_dc Y.1 pc .aastore 1 nx) (hs : σ[k]? = some (mp_R 0 n f)) (hv : ∀ a, o = some a → ∃ c vs, c < 8 ∧ σ[a]? = some (mp_O c vs)) (h0 : 0 < k) (hi : 0 ≤ i ∧ i < (n : Int)) (hn : n ≤ 2147483647) (hσ : σ.set k (mp_R 0 n (va_up f i.toNat o)) = σ') (kk : mp_At Y K nx L st σ' A) : mp_At Y K pc L (va_rf o :: mp_i i :: Value.ref k :: st) σ A := by
  cases o with
  | none => exact mp_aastoreN hd hs (by decide) h0 hi hn hσ kk
  | some a =>
    obtain ⟨c, vs, hc, ha⟩ := hv a rfl
    exact mp_aastore hd hs (by decide) ha (by unfold mp_may; rw [if_pos rfl]; exact decide_eq_true hc) h0 hi hn hσ kk
end
/-! becoming another sky -/
def mp_cpM (t x : Int → Int) (g y : Nat → Option Nat) (m : Int) : Prop := x 0 = t 0 ∧ ∀ j, 0 ≤ j → j < m → x (1 + 6 * j + 5) = t (1 + 6 * j + 5) ∧ y (Int.toNat j) = g (Int.toNat j)
def mp_cpL (t x : Int → Int) (l : Int) : Prop := ∀ j, 0 ≤ j → j < l → x (49 + 3 * j + 0) = t (49 + 3 * j + 0) ∧ x (49 + 3 * j + 1) = t (49 + 3 * j + 1) ∧ x (49 + 3 * j + 2) = t (49 + 3 * j + 2)
theorem mp_cpM_up {t x : Int → Int} {g y : Nat → Option Nat} {m : Int} (h : mp_cpM t x g y m) (h0 : 0 ≤ m) : mp_cpM t (mp_ud x (1 + 6 * m + 5) (t (1 + 6 * m + 5))) g (va_up y (Int.toNat m) (g (Int.toNat m))) (m + 1) := by
  refine ⟨by rw [mp_udn (by omega)]; exact h.1, fun j hj h1 => ?_⟩
  by_cases e : j = m
  · subst e; exact ⟨mp_ud_eq, if_pos rfl⟩
  · rw [mp_udn (by omega)]
    refine ⟨(h.2 j hj (by omega)).1, ?_⟩
    show (if Int.toNat j = Int.toNat m then _ else y (Int.toNat j)) = _
    rw [if_neg (by omega)]; exact (h.2 j hj (by omega)).2
theorem mp_cpL_up {t x : Int → Int} {l : Int} (h : mp_cpL t x l) (h0 : 0 ≤ l) : mp_cpL t (mp_ud (mp_ud (mp_ud x (49 + 3 * l + 0) (t (49 + 3 * l + 0))) (49 + 3 * l + 1) (t (49 + 3 * l + 1))) (49 + 3 * l + 2) (t (49 + 3 * l + 2))) (l + 1) := fun j hj h1 => by
  by_cases e : j = l
  · subst e
    refine ⟨?_, ?_, mp_ud_eq⟩
    · rw [mp_udn (by omega), mp_udn (by omega), mp_ud_eq]
    · rw [mp_udn (by omega), mp_ud_eq]
  · have := h j hj (by omega)
    refine ⟨?_, ?_, ?_⟩ <;> rw [mp_udn (by omega), mp_udn (by omega), mp_udn (by omega)]
    · exact this.1
    · exact this.2.1
    · exact this.2.2
theorem mp_cpM_L {t x : Int → Int} {g y : Nat → Option Nat} {l a b c : Int} (h : mp_cpM t x g y 8) (h0 : 0 ≤ l) : mp_cpM t (mp_ud (mp_ud (mp_ud x (49 + 3 * l + 0) a) (49 + 3 * l + 1) b) (49 + 3 * l + 2) c) g y 8 := by
  refine ⟨by rw [mp_udn (by omega), mp_udn (by omega), mp_udn (by omega)]; exact h.1, fun j hj h1 => ?_⟩
  rw [mp_udn (by omega), mp_udn (by omega), mp_udn (by omega)]
  exact h.2 j hj h1
theorem mp_cp_eq {p : Nat} {t x : Int → Int} {g y : Nat → Option Nat} (h : mp_cpM t x g y 8) (h2 : mp_cpL t x 5) : mp_sk p x y = mp_sk p t g :=
  mp_sk_eq h.1 (fun j h0 h1 => (h.2 j h0 (by omega)).1) (fun l h0 h1 => h2 l h0 (by omega)) (fun j hj => by have := (h.2 (j : Int) (by omega) (by omega)).2; rwa [Int.toNat_natCast] at this)
theorem mp_add_eq {p : Nat} {s : Int → Int} {F : Nat → Option Nat} {a b c e g w : Int} (hz : 0 ≤ s 0 ∧ s 0 ≤ 7) : mp_sk p (mp_ud (mp_ud s (1 + 6 * s 0 + 5) w) 0 (s 0 + 1)) F = mp_sk p (sp_adds s a b c e g w) F := by
  refine mp_sk_eq ?_ (fun j h0 h1 => ?_) (fun l h0 h1 => ?_) (fun _ _ => rfl)
  · unfold sp_adds; rw [mp_ud_eq, mp_ud_eq]
  · unfold sp_adds
    rw [mp_udn (by omega), mp_udn (s := mp_ud _ _ w) (by omega)]
    by_cases e : j = s 0
    · subst e; rw [mp_ud_eq, mp_ud_eq]
    · rw [mp_udn (by omega), mp_udn (by omega), mp_udn (by omega), mp_udn (by omega), mp_udn (by omega), mp_udn (by omega), mp_udn (by omega)]
  · unfold sp_adds
    refine ⟨?_, ?_, ?_⟩ <;> rw [mp_udn (by omega), mp_udn (by omega), mp_udn (by omega), mp_udn (by omega), mp_udn (by omega), mp_udn (by omega), mp_udn (by omega), mp_udn (by omega), mp_udn (by omega)]
/-- before a METEOR's turn: who has SAID yes to it is as before the NIGHT -/
theorem mp_isSaid_ud {x : Int → Int} {l k j : Int} (hl : 0 ≤ l ∧ l ≤ 4) (h9 : x (49 + 3 * l + 2) = 9) (hjk : j ≠ k) (hj : j ≠ 9) : ∀ (n : Nat) (i : Int), 0 ≤ i → sp_isSaid (mp_ud x (49 + 3 * l + 2) k) j n i = sp_isSaid x j n i := by
  intro n
  induction n with
  | zero => intro i _; rfl
  | succ n ih =>
    intro i hi
    show (if mp_ud x (49 + 3 * l + 2) k (49 + 3 * i + 2) = j then 1 else sp_isSaid (mp_ud x (49 + 3 * l + 2) k) j n (i + 1)) = (if x (49 + 3 * i + 2) = j then 1 else sp_isSaid x j n (i + 1))
    rw [ih (i + 1) (by omega)]
    by_cases e : i = l
    · subst e; rw [mp_ud_eq, if_neg (by omega), if_neg (by omega)]
    · rw [mp_udn (by omega)]
theorem mp_runs_fold {s : Int → Int} (hz : 0 ≤ s 0 ∧ s 0 ≤ 8) (w : Int) : mp_fold (fun k q => if k < s 0 then sp_runStep w k q else q) 8 0 (s, 0) = sp_runs s w := mp_fold_8 hz _

theorem lX6_becomes_48 {s : Int → Int} {f : Nat → Option Nat} {A B : mp_H} {t : Int → Int} {g : Nat → Option Nat} {p : Nat} {q : Nat} (hA : A.length = p) (h_p : 0 < p) (hq : ∀ x y, mp_skC (A ++ (mp_sk p x y ++ B)) q t g) (hmr : ∀ x y, mp_Mr (A ++ (mp_sk p x y ++ B)) g) {R9 : mp_An} : ∀ (n : Nat) (x : Int → Int) (y : Nat → Option Nat) (m : Int), ((0 ≤ m ∧ m + (n : Nat) = 5) ∧ mp_cpM t x g y 8 ∧ mp_cpL t x m) → R9 = (none, A ++ (mp_sk p t g ++ B)) → mp_At (mX6_becomes, 0, 0, 0) (0, 0) 48 [some (Value.ref p), some (Value.ref q), some (mp_i m)] [] (A ++ (mp_sk p x y ++ B)) R9 := by
  intro n
  induction n with
  | zero =>
    intro x y m hi hR
    refine mp_iload_n dX6_becomes_48 rfl ?_
    refine mp_iconst dX6_becomes_49 ?_
    refine mp_icmp_ge (tgt := 95) dX6_becomes_50 rfl ⟨by omega, by omega⟩ ⟨by omega, by omega⟩ (fun h1 => ?_) (fun h1 => ?_)
    · exact mp_vreturn (st := []) dX6_becomes_95 rfl ⟨by decide, by decide⟩ (hR.trans (congrArg (Prod.mk _) (by rw [mp_cp_eq hi.2.1 (by have h8 := hi.2.2; rw [show m = 5 by omega] at h8; exact h8)])))
    · exfalso; omega
  | succ n ih =>
    intro x y m hi hR
    refine mp_iload_n dX6_becomes_48 rfl ?_
    refine mp_iconst dX6_becomes_49 ?_
    refine mp_icmp_ge (tgt := 95) dX6_becomes_50 rfl ⟨by omega, by omega⟩ ⟨by omega, by omega⟩ (fun h1 => ?_) (fun h1 => ?_)
    · exfalso; omega
    · refine mp_aload_n dX6_becomes_53 rfl ?_
      refine mp_getfield dX6_becomes_54 fsX6_21_8 (mp_lkP hA 0 rfl) rfl ?_
      refine mp_iload_n dX6_becomes_57 rfl ?_
      refine mp_aload_n dX6_becomes_58 rfl ?_
      refine mp_getfield dX6_becomes_59 fsX6_21_8 (hq _ _).1 rfl ?_
      refine mp_iload_n dX6_becomes_62 rfl ?_
      refine mp_iald dX6_becomes_63 (hq _ _).2.2.2.1 ⟨by omega, by omega⟩ (by omega) ?_
      refine mp_top (y := t (49 + 3 * m + 0)) (sp_rof_in ⟨by omega, by omega⟩) ?_
      refine mp_iast (σ' := A ++ (mp_sk p (mp_ud x (49 + 3 * m + 0) (t (49 + 3 * m + 0))) y ++ B)) dX6_becomes_64 (mp_lkP hA 3 rfl) (by omega) ⟨by omega, by omega⟩ (by decide) (mp_stP hA 3 (Nat.le_of_ble_eq_true rfl) (mp_sk_rof ⟨by omega, by omega⟩)) ?_
      refine mp_aload_n dX6_becomes_65 rfl ?_
      refine mp_getfield dX6_becomes_66 fsX6_24_8 (mp_lkP hA 0 rfl) rfl ?_
      refine mp_iload_n dX6_becomes_69 rfl ?_
      refine mp_aload_n dX6_becomes_70 rfl ?_
      refine mp_getfield dX6_becomes_71 fsX6_24_8 (hq _ _).1 rfl ?_
      refine mp_iload_n dX6_becomes_74 rfl ?_
      refine mp_iald dX6_becomes_75 (hq _ _).2.2.2.2.1 ⟨by omega, by omega⟩ (by omega) ?_
      refine mp_top (y := t (49 + 3 * m + 1)) (sp_qui_in ⟨by omega, by omega⟩) ?_
      refine mp_iast (σ' := A ++ (mp_sk p (mp_ud (mp_ud x (49 + 3 * m + 0) (t (49 + 3 * m + 0))) (49 + 3 * m + 1) (t (49 + 3 * m + 1))) y ++ B)) dX6_becomes_76 (mp_lkP hA 4 rfl) (by omega) ⟨by omega, by omega⟩ (by decide) (mp_stP hA 4 (Nat.le_of_ble_eq_true rfl) (mp_sk_qui ⟨by omega, by omega⟩)) ?_
      refine mp_aload_n dX6_becomes_77 rfl ?_
      refine mp_getfield dX6_becomes_78 fsX6_27_8 (mp_lkP hA 0 rfl) rfl ?_
      refine mp_iload_n dX6_becomes_81 rfl ?_
      refine mp_aload_n dX6_becomes_82 rfl ?_
      refine mp_getfield dX6_becomes_83 fsX6_27_8 (hq _ _).1 rfl ?_
      refine mp_iload_n dX6_becomes_86 rfl ?_
      refine mp_iald dX6_becomes_87 (hq _ _).2.2.2.2.2.1 ⟨by omega, by omega⟩ (by omega) ?_
      refine mp_top (y := t (49 + 3 * m + 2)) (sp_sai_in ⟨by omega, by omega⟩) ?_
      refine mp_iast (σ' := A ++ (mp_sk p (mp_ud (mp_ud (mp_ud x (49 + 3 * m + 0) (t (49 + 3 * m + 0))) (49 + 3 * m + 1) (t (49 + 3 * m + 1))) (49 + 3 * m + 2) (t (49 + 3 * m + 2))) y ++ B)) dX6_becomes_88 (mp_lkP hA 5 rfl) (by omega) ⟨by omega, by omega⟩ (by decide) (mp_stP hA 5 (Nat.le_of_ble_eq_true rfl) (mp_sk_sai ⟨by omega, by omega⟩)) ?_
      refine mp_iinc (z := m + 1) (L' := [some (Value.ref p), some (Value.ref q), some (mp_i (m + 1))]) dX6_becomes_89 rfl (rfl) (by decide) rfl ?_
      refine mp_goto (tgt := 48) dX6_becomes_92 rfl ?_
      exact ih (mp_ud (mp_ud (mp_ud x (49 + 3 * m + 0) (t (49 + 3 * m + 0))) (49 + 3 * m + 1) (t (49 + 3 * m + 1))) (49 + 3 * m + 2) (t (49 + 3 * m + 2))) y (m + 1) ⟨by omega, mp_cpM_L hi.2.1 hi.1.1, mp_cpL_up hi.2.2 hi.1.1⟩ hR
theorem lX6_becomes_10 {s : Int → Int} {f : Nat → Option Nat} {A B : mp_H} {t : Int → Int} {g : Nat → Option Nat} {p : Nat} {q : Nat} (hA : A.length = p) (h_p : 0 < p) (hq : ∀ x y, mp_skC (A ++ (mp_sk p x y ++ B)) q t g) (hmr : ∀ x y, mp_Mr (A ++ (mp_sk p x y ++ B)) g) {R9 : mp_An} : ∀ (n : Nat) (x : Int → Int) (y : Nat → Option Nat) (m : Int), ((0 ≤ m ∧ m + (n : Nat) = 8) ∧ mp_cpM t x g y m) → R9 = (none, A ++ (mp_sk p t g ++ B)) → mp_At (mX6_becomes, 0, 0, 0) (0, 0) 10 [some (Value.ref p), some (Value.ref q), some (mp_i m)] [] (A ++ (mp_sk p x y ++ B)) R9 := by
  intro n
  induction n with
  | zero =>
    intro x y m hi hR
    refine mp_iload_n dX6_becomes_10 rfl ?_
    refine mp_bipush dX6_becomes_11 rfl ?_
    refine mp_icmp_ge (tgt := 46) dX6_becomes_13 rfl ⟨by omega, by omega⟩ ⟨by omega, by omega⟩ (fun h1 => ?_) (fun h1 => ?_)
    · refine mp_iconst dX6_becomes_46 ?_
      refine mp_istore_n (L' := [some (Value.ref p), some (Value.ref q), some (mp_i 0)]) dX6_becomes_47 rfl (by decide) rfl ?_
      exact lX6_becomes_48 (s := s) (f := f) (p := p) (q := q)  (by first | with_reducible assumption | omega) (by first | with_reducible assumption | omega) (by first | with_reducible assumption | omega) (by first | with_reducible assumption | omega) 5 x y 0 (⟨by omega, by have h8 := hi.2; rw [show m = 8 by omega] at h8; exact h8, fun j h0 h1 => by omega⟩) (by exact hR)
    · exfalso; omega
  | succ n ih =>
    intro x y m hi hR
    refine mp_iload_n dX6_becomes_10 rfl ?_
    refine mp_bipush dX6_becomes_11 rfl ?_
    refine mp_icmp_ge (tgt := 46) dX6_becomes_13 rfl ⟨by omega, by omega⟩ ⟨by omega, by omega⟩ (fun h1 => ?_) (fun h1 => ?_)
    · exfalso; omega
    · refine mp_aload_n dX6_becomes_16 rfl ?_
      refine mp_getfield dX6_becomes_17 fsX6_11_8 (mp_lkP hA 0 rfl) rfl ?_
      refine mp_iload_n dX6_becomes_20 rfl ?_
      refine mp_aload_n dX6_becomes_21 rfl ?_
      refine mp_getfield dX6_becomes_22 fsX6_11_8 (hq _ _).1 rfl ?_
      refine mp_iload_n dX6_becomes_25 rfl ?_
      refine mp_aaload dX6_becomes_26 (hq _ _).2.1 (by decide) ⟨by omega, by omega⟩ (by omega) ?_
      rw [mp_c8f_in (f := g) (show Int.toNat m < 8 by omega)]
      refine mp_aastO (o := g (Int.toNat m)) (σ' := A ++ (mp_sk p x (va_up y (Int.toNat m) (g (Int.toNat m))) ++ B)) dX6_becomes_27 (mp_lkP hA 1 rfl) (fun a ha => hmr _ _ (Int.toNat m) a (by omega) ha) (by omega) ⟨by omega, by omega⟩ (by decide) (mp_stP hA 1 (Nat.le_of_ble_eq_true rfl) (mp_sk_met (by omega))) ?_
      refine mp_aload_n dX6_becomes_28 rfl ?_
      refine mp_getfield dX6_becomes_29 fsX6_17_8 (mp_lkP hA 0 rfl) rfl ?_
      refine mp_iload_n dX6_becomes_32 rfl ?_
      refine mp_aload_n dX6_becomes_33 rfl ?_
      refine mp_getfield dX6_becomes_34 fsX6_17_8 (hq _ _).1 rfl ?_
      refine mp_iload_n dX6_becomes_37 rfl ?_
      refine mp_iald dX6_becomes_38 (hq _ _).2.2.1 ⟨by omega, by omega⟩ (by omega) ?_
      refine mp_top (y := t (1 + 6 * m + 5)) (sp_isf_in ⟨by omega, by omega⟩) ?_
      refine mp_iast (σ' := A ++ (mp_sk p (mp_ud x (1 + 6 * m + 5) (t (1 + 6 * m + 5))) (va_up y (Int.toNat m) (g (Int.toNat m))) ++ B)) dX6_becomes_39 (mp_lkP hA 2 rfl) (by omega) ⟨by omega, by omega⟩ (by decide) (mp_stP hA 2 (Nat.le_of_ble_eq_true rfl) (mp_sk_isf ⟨by omega, by omega⟩)) ?_
      refine mp_iinc (z := m + 1) (L' := [some (Value.ref p), some (Value.ref q), some (mp_i (m + 1))]) dX6_becomes_40 rfl (rfl) (by decide) rfl ?_
      refine mp_goto (tgt := 10) dX6_becomes_43 rfl ?_
      exact ih (mp_ud x (1 + 6 * m + 5) (t (1 + 6 * m + 5))) (va_up y (Int.toNat m) (g (Int.toNat m))) (m + 1) ⟨by omega, mp_cpM_up hi.2 hi.1.1⟩ hR
theorem zX6_becomes {s : Int → Int} {f : Nat → Option Nat} {A B : mp_H} {t : Int → Int} {g : Nat → Option Nat} {p : Nat} {q : Nat} (hA : A.length = p) (h_p : 0 < p) (hq : ∀ x y, mp_skC (A ++ (mp_sk p x y ++ B)) q t g) (hmr : ∀ x y, mp_Mr (A ++ (mp_sk p x y ++ B)) g) : mp_Call (mX6_becomes, 0, 0, 0) [Value.ref p, Value.ref q] (A ++ (mp_sk p s f ++ B)) (none, A ++ (mp_sk p t g ++ B)) := by
  refine mp_Call.of (L := [some (Value.ref p), some (Value.ref q), none]) pnX6 (Nat.le_of_ble_eq_true rfl) rfl ?_
  refine mp_aload_n dX6_becomes_0 rfl ?_
  refine mp_aload_n dX6_becomes_1 rfl ?_
  refine mp_getfield dX6_becomes_2 fsX6_30_8 (hq _ _).1 rfl ?_
  refine mp_putfield (σ' := A ++ (mp_sk p (mp_ud s 0 (t 0)) f ++ B)) dX6_becomes_5 fsX6_30_8 rfl (Or.inl rfl) (tyX6_ok 5 (by decide)) (fun _ => ⟨rfl, rfl⟩) (mp_lkP hA 0 rfl) (by omega) (Nat.le_of_ble_eq_true rfl) (mp_stP hA 0 (Nat.le_of_ble_eq_true rfl) mp_sk_many) ?_
  refine mp_iconst dX6_becomes_8 ?_
  refine mp_istore_n (L' := [some (Value.ref p), some (Value.ref q), some (mp_i 0)]) dX6_becomes_9 rfl (by decide) rfl ?_
  exact lX6_becomes_10 (s := s) (f := f) (p := p) (q := q)  (by first | with_reducible assumption | omega) (by first | with_reducible assumption | omega) (by first | with_reducible assumption | omega) (by first | with_reducible assumption | omega) 8 (mp_ud s 0 (t 0)) f 0 (⟨by omega, mp_ud_eq, fun j h0 h1 => by omega⟩) (by rfl)
theorem zX6_add {s : Int → Int} {f : Nat → Option Nat} {A B : mp_H} {kd fg co sl ni la br : Int} {p : Nat} {a : Nat} {w : Int} (hA : A.length = p) (h_p : 0 < p) (hz : 0 ≤ s 0 ∧ s 0 ≤ 7) (ha : (A ++ (mp_sk p s f ++ B))[a]? = some (mp_O (Int.toNat kd) [mp_i kd, mp_i fg, mp_i co, mp_i sl, mp_i ni, mp_i la, mp_i br])) (h_kd : 0 ≤ kd ∧ kd ≤ 7) : mp_Call (mX6_add, 0, 0, 0) [Value.ref p, Value.ref a, mp_i w] (A ++ (mp_sk p s f ++ B)) (some (mp_i (s 0)), A ++ (mp_sk p (sp_adds s kd fg co sl ni w) (va_up f (Int.toNat (s 0)) (some a)) ++ B)) := by
  refine mp_Call.of (L := [some (Value.ref p), some (Value.ref a), some (mp_i w)]) pnX6 (Nat.le_of_ble_eq_true rfl) rfl ?_
  refine mp_aload_n dX6_add_0 rfl ?_
  refine mp_getfield dX6_add_1 fsX6_30_8 (mp_lkP hA 0 rfl) rfl ?_
  refine mp_bipush dX6_add_4 rfl ?_
  refine mp_icmp_lt (tgt := 12) dX6_add_6 rfl ⟨by omega, by omega⟩ ⟨by omega, by omega⟩ (fun h1 => ?_) (fun h1 => ?_)
  · refine mp_aload_n dX6_add_12 rfl ?_
    refine mp_getfield dX6_add_13 fsX6_11_8 (mp_lkP hA 0 rfl) rfl ?_
    refine mp_aload_n dX6_add_16 rfl ?_
    refine mp_getfield dX6_add_17 fsX6_30_8 (mp_lkP hA 0 rfl) rfl ?_
    refine mp_aload_n dX6_add_20 rfl ?_
    refine mp_aastO (o := some a) (σ' := A ++ (mp_sk p s (va_up f (Int.toNat (s 0)) (some a)) ++ B)) dX6_add_21 (mp_lkP hA 1 rfl) (fun a9 h9 => by cases h9; exact ⟨_, _, by omega, ha⟩) (by omega) ⟨by omega, by omega⟩ (by decide) (mp_stP hA 1 (Nat.le_of_ble_eq_true rfl) (mp_sk_met (by omega))) ?_
    refine mp_aload_n dX6_add_22 rfl ?_
    refine mp_getfield dX6_add_23 fsX6_17_8 (mp_lkP hA 0 rfl) rfl ?_
    refine mp_aload_n dX6_add_26 rfl ?_
    refine mp_getfield dX6_add_27 fsX6_30_8 (mp_lkP hA 0 rfl) rfl ?_
    refine mp_iload_n dX6_add_30 rfl ?_
    refine mp_iast (σ' := A ++ (mp_sk p (mp_ud s (1 + 6 * (s 0) + 5) w) (va_up f (Int.toNat (s 0)) (some a)) ++ B)) dX6_add_31 (mp_lkP hA 2 rfl) (by omega) ⟨by omega, by omega⟩ (by decide) (mp_stP hA 2 (Nat.le_of_ble_eq_true rfl) (mp_sk_isf ⟨by omega, by omega⟩)) ?_
    refine mp_aload_n dX6_add_32 rfl ?_
    refine mp_dup dX6_add_33 rfl ?_
    refine mp_getfield dX6_add_34 fsX6_30_8 (mp_lkP hA 0 rfl) rfl ?_
    refine mp_top (y := s 0) (mp_udn (by omega)) ?_
    refine mp_iconst dX6_add_37 ?_
    refine mp_iadd (z := (s 0) + 1) dX6_add_38 (by first | rfl | omega) ?_
    refine mp_putfield (σ' := A ++ (mp_sk p (mp_ud (mp_ud s (1 + 6 * (s 0) + 5) w) 0 ((s 0) + 1)) (va_up f (Int.toNat (s 0)) (some a)) ++ B)) dX6_add_39 fsX6_30_8 rfl (Or.inl rfl) (tyX6_ok 5 (by decide)) (fun _ => ⟨rfl, rfl⟩) (mp_lkP hA 0 rfl) (by omega) (Nat.le_of_ble_eq_true rfl) (mp_stP hA 0 (Nat.le_of_ble_eq_true rfl) mp_sk_many) ?_
    refine mp_aload_n dX6_add_42 rfl ?_
    refine mp_getfield dX6_add_43 fsX6_30_8 (mp_lkP hA 0 rfl) rfl ?_
    refine mp_top (y := s 0 + 1) (mp_ud_eq) ?_
    refine mp_iconst dX6_add_46 ?_
    refine mp_isub (z := (s 0 + 1) - 1) dX6_add_47 (by first | rfl | omega) ?_
    exact mp_ireturn (st := []) dX6_add_48 rfl ⟨by decide, by decide⟩ ((by rw [show (s 0 + 1) - 1 = s 0 by omega, mp_add_eq (a := kd) (b := fg) (c := co) (e := sl) (g := ni) hz]))
  · exfalso; omega
theorem zX6_addF {s : Int → Int} {f : Nat → Option Nat} {A B : mp_H}  {p : Nat} {a : Nat} {w : Int} (hA : A.length = p) (h_p : 0 < p) (hz : s 0 = 8) : mp_Call (mX6_add, 0, 0, 0) [Value.ref p, Value.ref a, mp_i w] (A ++ (mp_sk p s f ++ B)) (some (mp_i (-2)), A ++ (mp_sk p s f ++ B)) := by
  refine mp_Call.of (L := [some (Value.ref p), some (Value.ref a), some (mp_i w)]) pnX6 (Nat.le_of_ble_eq_true rfl) rfl ?_
  refine mp_aload_n dX6_add_0 rfl ?_
  refine mp_getfield dX6_add_1 fsX6_30_8 (mp_lkP hA 0 rfl) rfl ?_
  refine mp_bipush dX6_add_4 rfl ?_
  refine mp_icmp_lt (tgt := 12) dX6_add_6 rfl ⟨by omega, by omega⟩ ⟨by omega, by omega⟩ (fun h1 => ?_) (fun h1 => ?_)
  · exfalso; omega
  · refine mp_bipush dX6_add_9 rfl ?_
    exact mp_ireturn (st := []) dX6_add_11 rfl ⟨by decide, by decide⟩ ((mp_ans (by first | with_reducible rfl | omega | rfl)))
theorem zX6_putOnRoof {s : Int → Int} {f : Nat → Option Nat} {A B : mp_H}  {p : Nat} {l : Int} {x : Int} {y : Int} (hA : A.length = p) (h_p : 0 < p) (hs : mp_sky s) (h_l : mp_w l) (h_x : mp_w x) (h_y : mp_w y) : mp_Call (mX6_putOnRoof, 1, 0, 0) [Value.ref p, mp_i l, mp_i x, mp_i y] (A ++ (mp_sk p s f ++ B)) (some (mp_i ((sp_looks s l x y).1)), A ++ (mp_sk p ((sp_looks s l x y).2) f ++ B)) := by
  refine mp_Call.of (L := [some (Value.ref p), some (mp_i l), some (mp_i x), some (mp_i y), none]) pnX6 (Nat.le_of_ble_eq_true rfl) rfl ?_
  refine mp_iload_n dX6_putOnRoof_0 rfl ?_
  refine mp_iconst dX6_putOnRoof_1 ?_
  refine mp_invS (z := (mX11_isBelow, 0, 0, 0)) (K' := (0, 0)) (σ1 := A ++ (mp_sk p s f ++ B)) (as := [mp_i l, mp_i 5]) (st := []) (st1 := [mp_i (if 0 ≤ l ∧ l < 5 then 1 else 0)]) dX6_putOnRoof_2 ssX6_34 (zX11_isBelow (v := l) (n := 5) (by first | with_reducible assumption | omega) (by first | with_reducible assumption | omega)) ⟨Nat.le_of_ble_eq_true rfl, Nat.le_of_ble_eq_true rfl, Nat.le_of_ble_eq_true rfl, Nat.le_of_ble_eq_true rfl, Nat.le_of_ble_eq_true rfl⟩ rfl rfl rfl rfl ?_
  refine mp_ifb_eq (tgt := 26) dX6_putOnRoof_5 rfl (fun h1 => ?_) (fun h1 => ?_)
  · refine mp_iconst dX6_putOnRoof_26 ?_
    exact mp_ireturn (st := []) dX6_putOnRoof_27 rfl ⟨by decide, by decide⟩ ((by rw [show sp_looks s l x y = (-1, s) from by unfold sp_looks; first | (rw [if_neg (by omega)]; done) | (rw [if_pos (by omega)]; done)]))
  · refine mp_iload_n dX6_putOnRoof_8 rfl ?_
    refine mp_bipush dX6_putOnRoof_9 rfl ?_
    refine mp_invS (z := (mX11_isBelow, 0, 0, 0)) (K' := (0, 0)) (σ1 := A ++ (mp_sk p s f ++ B)) (as := [mp_i x, mp_i 16]) (st := []) (st1 := [mp_i (if 0 ≤ x ∧ x < 16 then 1 else 0)]) dX6_putOnRoof_11 ssX6_34 (zX11_isBelow (v := x) (n := 16) (by first | with_reducible assumption | omega) (by first | with_reducible assumption | omega)) ⟨Nat.le_of_ble_eq_true rfl, Nat.le_of_ble_eq_true rfl, Nat.le_of_ble_eq_true rfl, Nat.le_of_ble_eq_true rfl, Nat.le_of_ble_eq_true rfl⟩ rfl rfl rfl rfl ?_
    refine mp_ifb_eq (tgt := 26) dX6_putOnRoof_14 rfl (fun h2 => ?_) (fun h2 => ?_)
    · refine mp_iconst dX6_putOnRoof_26 ?_
      exact mp_ireturn (st := []) dX6_putOnRoof_27 rfl ⟨by decide, by decide⟩ ((by rw [show sp_looks s l x y = (-1, s) from by unfold sp_looks; first | (rw [if_neg (by omega)]; done) | (rw [if_pos (by omega)]; done)]))
    · refine mp_iload_n dX6_putOnRoof_17 rfl ?_
      refine mp_bipush dX6_putOnRoof_18 rfl ?_
      refine mp_invS (z := (mX11_isBelow, 0, 0, 0)) (K' := (0, 0)) (σ1 := A ++ (mp_sk p s f ++ B)) (as := [mp_i y, mp_i 10]) (st := []) (st1 := [mp_i (if 0 ≤ y ∧ y < 10 then 1 else 0)]) dX6_putOnRoof_20 ssX6_34 (zX11_isBelow (v := y) (n := 10) (by first | with_reducible assumption | omega) (by first | with_reducible assumption | omega)) ⟨Nat.le_of_ble_eq_true rfl, Nat.le_of_ble_eq_true rfl, Nat.le_of_ble_eq_true rfl, Nat.le_of_ble_eq_true rfl, Nat.le_of_ble_eq_true rfl⟩ rfl rfl rfl rfl ?_
      refine mp_ifb_ne (tgt := 28) dX6_putOnRoof_23 rfl (fun h3 => ?_) (fun h3 => ?_)
      · have hl9 := hs.2.2.1 l (by omega) (by omega)
        refine mp_aload_n dX6_putOnRoof_28 rfl ?_
        refine mp_getfield dX6_putOnRoof_29 fsX6_21_8 (mp_lkP hA 0 rfl) rfl ?_
        refine mp_iload_n dX6_putOnRoof_32 rfl ?_
        refine mp_iald dX6_putOnRoof_33 (mp_lkP hA 3 rfl) ⟨by omega, by omega⟩ (by omega) ?_
        refine mp_top (y := s (49 + 3 * l + 0)) (sp_rof_in ⟨by omega, by omega⟩) ?_
        refine mp_istore (L' := [some (Value.ref p), some (mp_i l), some (mp_i x), some (mp_i y), some (mp_i (s (49 + 3 * l + 0)))]) dX6_putOnRoof_34 (by decide) rfl ?_
        refine mp_aload_n dX6_putOnRoof_36 rfl ?_
        refine mp_getfield dX6_putOnRoof_37 fsX6_21_8 (mp_lkP hA 0 rfl) rfl ?_
        refine mp_iload_n dX6_putOnRoof_40 rfl ?_
        refine mp_iload_n dX6_putOnRoof_41 rfl ?_
        refine mp_iast (σ' := A ++ (mp_sk p (mp_ud s (49 + 3 * l + 0) x) f ++ B)) dX6_putOnRoof_42 (mp_lkP hA 3 rfl) (by omega) ⟨by omega, by omega⟩ (by decide) (mp_stP hA 3 (Nat.le_of_ble_eq_true rfl) (mp_sk_rof ⟨by omega, by omega⟩)) ?_
        refine mp_aload_n dX6_putOnRoof_43 rfl ?_
        refine mp_getfield dX6_putOnRoof_44 fsX6_24_8 (mp_lkP hA 0 rfl) rfl ?_
        refine mp_iload_n dX6_putOnRoof_47 rfl ?_
        refine mp_iload_n dX6_putOnRoof_48 rfl ?_
        refine mp_iast (σ' := A ++ (mp_sk p (mp_ud (mp_ud s (49 + 3 * l + 0) x) (49 + 3 * l + 1) y) f ++ B)) dX6_putOnRoof_49 (mp_lkP hA 4 rfl) (by omega) ⟨by omega, by omega⟩ (by decide) (mp_stP hA 4 (Nat.le_of_ble_eq_true rfl) (mp_sk_qui ⟨by omega, by omega⟩)) ?_
        refine mp_iload dX6_putOnRoof_50 rfl ?_
        exact mp_ireturn (st := []) dX6_putOnRoof_52 rfl ⟨by decide, by decide⟩ ((by rw [show sp_looks s l x y = (s (49 + 3 * l + 0), mp_ud (mp_ud s (49 + 3 * l + 0) x) (49 + 3 * l + 1) y) from by unfold sp_looks; first | (rw [if_neg (by omega)]; done) | (rw [if_pos (by omega)]; done)]))
      · refine mp_iconst dX6_putOnRoof_26 ?_
        exact mp_ireturn (st := []) dX6_putOnRoof_27 rfl ⟨by decide, by decide⟩ ((by rw [show sp_looks s l x y = (-1, s) from by unfold sp_looks; first | (rw [if_neg (by omega)]; done) | (rw [if_pos (by omega)]; done)]))
theorem zX6_setFree {s : Int → Int} {f : Nat → Option Nat} {A B : mp_H}  {p : Nat} {l : Int} (hA : A.length = p) (h_p : 0 < p) (hs : mp_sky s) (h_l : mp_w l) : mp_Call (mX6_setFree, 1, 0, 0) [Value.ref p, mp_i l] (A ++ (mp_sk p s f ++ B)) (some (mp_i ((sp_free s l).1)), A ++ (mp_sk p ((sp_free s l).2) f ++ B)) := by
  refine mp_Call.of (L := [some (Value.ref p), some (mp_i l), none]) pnX6 (Nat.le_of_ble_eq_true rfl) rfl ?_
  refine mp_iload_n dX6_setFree_0 rfl ?_
  refine mp_iconst dX6_setFree_1 ?_
  refine mp_invS (z := (mX11_isBelow, 0, 0, 0)) (K' := (0, 0)) (σ1 := A ++ (mp_sk p s f ++ B)) (as := [mp_i l, mp_i 5]) (st := []) (st1 := [mp_i (if 0 ≤ l ∧ l < 5 then 1 else 0)]) dX6_setFree_2 ssX6_34 (zX11_isBelow (v := l) (n := 5) (by first | with_reducible assumption | omega) (by first | with_reducible assumption | omega)) ⟨Nat.le_of_ble_eq_true rfl, Nat.le_of_ble_eq_true rfl, Nat.le_of_ble_eq_true rfl, Nat.le_of_ble_eq_true rfl, Nat.le_of_ble_eq_true rfl⟩ rfl rfl rfl rfl ?_
  refine mp_ifb_ne (tgt := 10) dX6_setFree_5 rfl (fun h1 => ?_) (fun h1 => ?_)
  · have hl9 := hs.2.2.1 l (by omega) (by omega)
    refine mp_aload_n dX6_setFree_10 rfl ?_
    refine mp_getfield dX6_setFree_11 fsX6_27_8 (mp_lkP hA 0 rfl) rfl ?_
    refine mp_iload_n dX6_setFree_14 rfl ?_
    refine mp_iald dX6_setFree_15 (mp_lkP hA 5 rfl) ⟨by omega, by omega⟩ (by omega) ?_
    refine mp_top (y := s (49 + 3 * l + 2)) (sp_sai_in ⟨by omega, by omega⟩) ?_
    refine mp_istore_n (L' := [some (Value.ref p), some (mp_i l), some (mp_i (s (49 + 3 * l + 2)))]) dX6_setFree_16 rfl (by decide) rfl ?_
    refine mp_aload_n dX6_setFree_17 rfl ?_
    refine mp_getfield dX6_setFree_18 fsX6_27_8 (mp_lkP hA 0 rfl) rfl ?_
    refine mp_iload_n dX6_setFree_21 rfl ?_
    refine mp_bipush dX6_setFree_22 rfl ?_
    refine mp_iast (σ' := A ++ (mp_sk p (mp_ud s (49 + 3 * l + 2) 9) f ++ B)) dX6_setFree_24 (mp_lkP hA 5 rfl) (by omega) ⟨by omega, by omega⟩ (by decide) (mp_stP hA 5 (Nat.le_of_ble_eq_true rfl) (mp_sk_sai ⟨by omega, by omega⟩)) ?_
    refine mp_iload_n dX6_setFree_25 rfl ?_
    exact mp_ireturn (st := []) dX6_setFree_26 rfl ⟨by decide, by decide⟩ ((by rw [show sp_free s l = (s (49 + 3 * l + 2), mp_ud s (49 + 3 * l + 2) 9) from by unfold sp_free; first | (rw [if_neg (by omega)]; done) | (rw [if_pos (by omega)]; done)]))
  · refine mp_iconst dX6_setFree_8 ?_
    exact mp_ireturn (st := []) dX6_setFree_9 rfl ⟨by decide, by decide⟩ ((by rw [show sp_free s l = (-1, s) from by unfold sp_free; first | (rw [if_neg (by omega)]; done) | (rw [if_pos (by omega)]; done)]))
theorem lX6_runNight_21 {s : Int → Int} {f : Nat → Option Nat} {A B : mp_H}  {p : Nat} {w : Int} (hA : A.length = p) (h_p : 0 < p) (hs : mp_sky s) (hmt : mp_Mt (A ++ (mp_sk p s f ++ B)) s f) (h_w : mp_w w) {R9 : mp_An} : ∀ (n : Nat) (x : Int → Int) (v : Int) (t : Int), ((0 ≤ t ∧ t + (n : Nat) = 8) ∧ mp_sky x ∧ x 0 = s 0 ∧ (0 ≤ v ∧ v ≤ t) ∧ (∀ j, 0 ≤ j → j < 49 → x j = s j) ∧ (∀ j, t ≤ j → j ≤ 7 → (sp_b (sp_said s) j = 1 ↔ sp_isSaid x j 5 0 ≠ 0))) → R9 = (some (mp_i (mp_fold (fun k q => if k < s 0 then sp_runStep w k q else q) n t (x, v)).2), A ++ (mp_sk p (mp_fold (fun k q => if k < s 0 then sp_runStep w k q else q) n t (x, v)).1 f ++ B)) → mp_At (mX6_runNight, 4, 0, 0) (0, 0) 21 [some (Value.ref p), some (mp_i w), some (mp_i (sp_said s)), some (mp_i v), some (mp_i t), none, none] [] (A ++ (mp_sk p x f ++ B)) R9 := by
  intro n
  induction n with
  | zero =>
    intro x v t hi hR
    have hz0 := hi.2.1.1
    refine mp_iload dX6_runNight_21 rfl ?_
    refine mp_bipush dX6_runNight_23 rfl ?_
    refine mp_icmp_ge (tgt := 101) dX6_runNight_25 rfl ⟨by omega, by omega⟩ ⟨by omega, by omega⟩ (fun h1 => ?_) (fun h1 => ?_)
    · refine mp_iload_n dX6_runNight_101 rfl ?_
      exact mp_ireturn (st := []) dX6_runNight_102 rfl ⟨by decide, by decide⟩ (hR.trans (rfl))
    · exfalso; omega
  | succ n ih =>
    intro x v t hi hR
    have hz0 := hi.2.1.1
    have hz1 := hi.2.2.1
    have hsb := mp_said_bd hs
    have hbw := mp_waiting_bd x
    have htk := mp_taker_bd x t 1
    have hbs := mp_b_bd (sp_said s) t
    have hbi := hi.2.2.2.2.2 t (Int.le_refl _) (by omega)
    have hi01 := mp_isSaid_bd x t 5 0
    refine mp_iload dX6_runNight_21 rfl ?_
    refine mp_bipush dX6_runNight_23 rfl ?_
    refine mp_icmp_ge (tgt := 101) dX6_runNight_25 rfl ⟨by omega, by omega⟩ ⟨by omega, by omega⟩ (fun h1 => ?_) (fun h1 => ?_)
    · exfalso; omega
    · refine mp_aload_n dX6_runNight_28 rfl ?_
      refine mp_iload dX6_runNight_29 rfl ?_
      by_cases hm2 : 0 ≤ t ∧ t < x 0
      · obtain ⟨a2, hf2, hc2⟩ := (mp_Sk.of (mp_skC.own hA) ((hmt.mono hs.kd mp_stay_sk).alike hi.2.2.2.2.1 hs.1.2)).2.2.2.2.2.2 t hm2.1 hm2.2
        have ht2 := hi.2.1.2.1 t hm2.1 hm2.2
        have hl2 := mp_lasts_bd (kind := (x (1 + 6 * t + 0))) (f := (x (1 + 6 * t + 1))) (by omega)
        have hr2 := mp_bright_bd (kind := (x (1 + 6 * t + 0))) (f := (x (1 + 6 * t + 1))) (by omega)
        refine mp_invV (z := (mX6_at, 0, 0, 0)) (K' := (0, 0)) (σ1 := A ++ (mp_sk p x f ++ B)) (as := [mp_i t]) (st := []) (st1 := [Value.ref a2]) dX6_runNight_31 svX6_59 (mp_Sk.of (mp_skC.own hA) ((hmt.mono hs.kd mp_stay_sk).alike hi.2.2.2.2.1 hs.1.2)).1 rfl rfl (zX6_at (p := p) (m := t) (a := a2) (s := x) (f := f) (mp_Sk.of (mp_skC.own hA) ((hmt.mono hs.kd mp_stay_sk).alike hi.2.2.2.2.1 hs.1.2)) hm2 (by omega) hf2) ⟨Nat.le_of_ble_eq_true rfl, Nat.le_of_ble_eq_true rfl, Nat.le_of_ble_eq_true rfl, Nat.le_of_ble_eq_true rfl, Nat.le_of_ble_eq_true rfl⟩ rfl rfl rfl rfl ?_
        refine mp_astore (L' := [some (Value.ref p), some (mp_i w), some (mp_i (sp_said s)), some (mp_i v), some (mp_i t), some (Value.ref a2), none]) dX6_runNight_34 (by decide) rfl ?_
        refine mp_aload dX6_runNight_36 rfl ?_
        refine mp_ifnull_r dX6_runNight_38 ?_
        refine mp_aload dX6_runNight_41 rfl ?_
        refine mp_getfield dX6_runNight_43 (fsX6_70 (by omega)) hc2 rfl ?_
        refine mp_iload_n dX6_runNight_46 rfl ?_
        refine mp_icmp_ne (tgt := 95) dX6_runNight_47 rfl ⟨by omega, by omega⟩ ⟨by omega, by omega⟩ (fun h3 => ?_) (fun h3 => ?_)
        · refine mp_iinc (z := t + 1) (L' := [some (Value.ref p), some (mp_i w), some (mp_i (sp_said s)), some (mp_i v), some (mp_i (t + 1)), some (Value.ref a2), none]) dX6_runNight_95 rfl (rfl) (by decide) rfl ?_
          refine mp_goto (tgt := 21) dX6_runNight_98 rfl ?_
          refine mp_drop (L' := [some (Value.ref p), some (mp_i w), some (mp_i (sp_said s)), some (mp_i v), some (mp_i (t + 1)), none, none]) [true, true, true, true, true, false, false] rfl ?_
          have e9 : (fun k q => if k < s 0 then sp_runStep w k q else q) t (x, v) = (x, v) := (if_pos (by omega)).trans (by show (if x (1 + 6 * t + 4) ≠ w ∨ sp_isSaid x t 5 0 ≠ 0 then ((x, v) : (Int → Int) × Int) else if sp_taker x t 1 < 0 then (x, v) else (mp_ud x (49 + 3 * sp_taker x t 1 + 2) t, v + 1)) = _; first | (rw [if_pos (by omega)]; done) | (rw [if_neg (by omega), if_pos (by omega)]; done))
          refine ih x v (t + 1) ⟨by omega, hi.2.1, hi.2.2.1, by omega, hi.2.2.2.2.1, fun j h0 h1 => hi.2.2.2.2.2 j (by omega) h1⟩ (hR.trans ?_)
          show (some (mp_i (mp_fold (fun k q => if k < s 0 then sp_runStep w k q else q) n (t + 1) ((fun k q => if k < s 0 then sp_runStep w k q else q) t (x, v))).2), A ++ (mp_sk p (mp_fold (fun k q => if k < s 0 then sp_runStep w k q else q) n (t + 1) ((fun k q => if k < s 0 then sp_runStep w k q else q) t (x, v))).1 f ++ B)) = _
          rw [e9]
        · refine mp_iload_n dX6_runNight_50 rfl ?_
          refine mp_iload dX6_runNight_51 rfl ?_
          refine mp_invS (z := (mX11_hasBit, 0, 0, 0)) (K' := (0, 0)) (σ1 := A ++ (mp_sk p x f ++ B)) (as := [mp_i (sp_said s), mp_i t]) (st := []) (st1 := [mp_i (if sp_b (sp_said s) t ≠ 0 then 1 else 0)]) dX6_runNight_53 ssX6_52 (zX11_hasBit (v := (sp_said s)) (k := t) (by first | with_reducible assumption | omega) (by first | with_reducible assumption | omega)) ⟨Nat.le_of_ble_eq_true rfl, Nat.le_of_ble_eq_true rfl, Nat.le_of_ble_eq_true rfl, Nat.le_of_ble_eq_true rfl, Nat.le_of_ble_eq_true rfl⟩ rfl rfl rfl rfl ?_
          refine mp_ifb_eq (tgt := 62) dX6_runNight_56 rfl (fun h4 => ?_) (fun h4 => ?_)
          · refine mp_aload_n dX6_runNight_62 rfl ?_
            refine mp_aload_n dX6_runNight_63 rfl ?_
            refine mp_invV (z := (mX6_lookersFree, 0, 0, 0)) (K' := (0, 0)) (σ1 := A ++ (mp_sk p x f ++ B)) (as := []) (st := [Value.ref p]) (st1 := [mp_i (sp_waiting x), Value.ref p]) dX6_runNight_64 svX6_73 (mp_lkP hA 0 rfl) rfl rfl (zX6_lookersFree (p := p) (s := x) (f := f) (mp_Sk.of (mp_skC.own hA) ((hmt.mono hs.kd mp_stay_sk).alike hi.2.2.2.2.1 hs.1.2)) hi.2.1) ⟨Nat.le_of_ble_eq_true rfl, Nat.le_of_ble_eq_true rfl, Nat.le_of_ble_eq_true rfl, Nat.le_of_ble_eq_true rfl, Nat.le_of_ble_eq_true rfl⟩ rfl rfl rfl rfl ?_
            refine mp_aload dX6_runNight_67 rfl ?_
            refine mp_invV (z := (mX6_firstOf, 3, 0, 0)) (K' := (0, 0)) (σ1 := A ++ (mp_sk p x f ++ B)) (as := [mp_i (sp_waiting x), Value.ref a2]) (st := []) (st1 := [mp_i (if sp_taker x t 1 < 0 then 9 else sp_taker x t 1)]) dX6_runNight_69 svX6_63 (mp_lkP hA 0 rfl) rfl rfl (zX6_firstOf (p := p) (v := (sp_waiting x)) (a := a2) (s := x) (f := f) (k := t) (g := 1) (mp_Sk.of (mp_skC.own hA) ((hmt.mono hs.kd mp_stay_sk).alike hi.2.2.2.2.1 hs.1.2)) hi.2.1 (by first | with_reducible assumption | omega) (by first | with_reducible assumption | omega) (by first | with_reducible assumption | omega) (fun l h0 h1 => ⟨fun h => Or.inr ((mp_b_waiting ⟨h0, h1⟩).mp h), fun h => (mp_b_waiting ⟨h0, h1⟩).mpr (h.resolve_left (by decide))⟩)) ⟨Nat.le_of_ble_eq_true rfl, Nat.le_of_ble_eq_true rfl, Nat.le_of_ble_eq_true rfl, Nat.le_of_ble_eq_true rfl, Nat.le_of_ble_eq_true rfl⟩ rfl rfl rfl rfl ?_
            refine mp_istore (L' := [some (Value.ref p), some (mp_i w), some (mp_i (sp_said s)), some (mp_i v), some (mp_i t), some (Value.ref a2), some (mp_i (if sp_taker x t 1 < 0 then 9 else sp_taker x t 1))]) dX6_runNight_72 (by decide) rfl ?_
            refine mp_iload dX6_runNight_74 rfl ?_
            refine mp_iconst dX6_runNight_76 ?_
            refine mp_invS (z := (mX11_isBelow, 0, 0, 0)) (K' := (0, 0)) (σ1 := A ++ (mp_sk p x f ++ B)) (as := [mp_i (if sp_taker x t 1 < 0 then 9 else sp_taker x t 1), mp_i 5]) (st := []) (st1 := [mp_i (if 0 ≤ (if sp_taker x t 1 < 0 then 9 else sp_taker x t 1) ∧ (if sp_taker x t 1 < 0 then 9 else sp_taker x t 1) < 5 then 1 else 0)]) dX6_runNight_77 ssX6_34 (zX11_isBelow (v := (if sp_taker x t 1 < 0 then 9 else sp_taker x t 1)) (n := 5) (by first | with_reducible assumption | omega) (by first | with_reducible assumption | omega)) ⟨Nat.le_of_ble_eq_true rfl, Nat.le_of_ble_eq_true rfl, Nat.le_of_ble_eq_true rfl, Nat.le_of_ble_eq_true rfl, Nat.le_of_ble_eq_true rfl⟩ rfl rfl rfl rfl ?_
            refine mp_ifb_eq (tgt := 95) dX6_runNight_80 rfl (fun h5 => ?_) (fun h5 => ?_)
            · refine mp_iinc (z := t + 1) (L' := [some (Value.ref p), some (mp_i w), some (mp_i (sp_said s)), some (mp_i v), some (mp_i (t + 1)), some (Value.ref a2), some (mp_i (if sp_taker x t 1 < 0 then 9 else sp_taker x t 1))]) dX6_runNight_95 rfl (rfl) (by decide) rfl ?_
              refine mp_goto (tgt := 21) dX6_runNight_98 rfl ?_
              refine mp_drop (L' := [some (Value.ref p), some (mp_i w), some (mp_i (sp_said s)), some (mp_i v), some (mp_i (t + 1)), none, none]) [true, true, true, true, true, false, false] rfl ?_
              have e9 : (fun k q => if k < s 0 then sp_runStep w k q else q) t (x, v) = (x, v) := (if_pos (by omega)).trans (by show (if x (1 + 6 * t + 4) ≠ w ∨ sp_isSaid x t 5 0 ≠ 0 then ((x, v) : (Int → Int) × Int) else if sp_taker x t 1 < 0 then (x, v) else (mp_ud x (49 + 3 * sp_taker x t 1 + 2) t, v + 1)) = _; first | (rw [if_pos (by omega)]; done) | (rw [if_neg (by omega), if_pos (by omega)]; done))
              refine ih x v (t + 1) ⟨by omega, hi.2.1, hi.2.2.1, by omega, hi.2.2.2.2.1, fun j h0 h1 => hi.2.2.2.2.2 j (by omega) h1⟩ (hR.trans ?_)
              show (some (mp_i (mp_fold (fun k q => if k < s 0 then sp_runStep w k q else q) n (t + 1) ((fun k q => if k < s 0 then sp_runStep w k q else q) t (x, v))).2), A ++ (mp_sk p (mp_fold (fun k q => if k < s 0 then sp_runStep w k q else q) n (t + 1) ((fun k q => if k < s 0 then sp_runStep w k q else q) t (x, v))).1 f ++ B)) = _
              rw [e9]
            · refine mp_loc (j := 6) (x := if sp_taker x t 1 < 0 then 9 else sp_taker x t 1) (y := sp_taker x t 1) (by omega) rfl (L' := [some (Value.ref p), some (mp_i w), some (mp_i (sp_said s)), some (mp_i v), some (mp_i t), some (Value.ref a2), some (mp_i (sp_taker x t 1))]) rfl ?_
              refine mp_aload_n dX6_runNight_83 rfl ?_
              refine mp_getfield dX6_runNight_84 fsX6_27_8 (mp_lkP hA 0 rfl) rfl ?_
              refine mp_iload dX6_runNight_87 rfl ?_
              refine mp_iload dX6_runNight_89 rfl ?_
              refine mp_iast (σ' := A ++ (mp_sk p (mp_ud x (49 + 3 * (sp_taker x t 1) + 2) t) f ++ B)) dX6_runNight_91 (mp_lkP hA 5 rfl) (by omega) ⟨by omega, by omega⟩ (by decide) (mp_stP hA 5 (Nat.le_of_ble_eq_true rfl) (mp_sk_sai ⟨by omega, by omega⟩)) ?_
              refine mp_iinc (z := v + 1) (L' := [some (Value.ref p), some (mp_i w), some (mp_i (sp_said s)), some (mp_i (v + 1)), some (mp_i t), some (Value.ref a2), some (mp_i (sp_taker x t 1))]) dX6_runNight_92 rfl (rfl) (by decide) rfl ?_
              refine mp_iinc (z := t + 1) (L' := [some (Value.ref p), some (mp_i w), some (mp_i (sp_said s)), some (mp_i (v + 1)), some (mp_i (t + 1)), some (Value.ref a2), some (mp_i (sp_taker x t 1))]) dX6_runNight_95 rfl (rfl) (by decide) rfl ?_
              refine mp_goto (tgt := 21) dX6_runNight_98 rfl ?_
              refine mp_drop (L' := [some (Value.ref p), some (mp_i w), some (mp_i (sp_said s)), some (mp_i (v + 1)), some (mp_i (t + 1)), none, none]) [true, true, true, true, true, false, false] rfl ?_
              have e9 : (fun k q => if k < s 0 then sp_runStep w k q else q) t (x, v) = (mp_ud x (49 + 3 * (sp_taker x t 1) + 2) t, v + 1) := (if_pos (by omega)).trans (by show (if x (1 + 6 * t + 4) ≠ w ∨ sp_isSaid x t 5 0 ≠ 0 then ((x, v) : (Int → Int) × Int) else if sp_taker x t 1 < 0 then (x, v) else (mp_ud x (49 + 3 * sp_taker x t 1 + 2) t, v + 1)) = _; rw [if_neg (by omega), if_neg (by omega)])
              have hno := mp_isSaid_no (s := x) (k := t) 5 0 (by omega)
              have hfr := mp_taker_free x t (by omega)
              refine ih (mp_ud x (49 + 3 * (sp_taker x t 1) + 2) t) (v + 1) (t + 1) ⟨by omega, mp_sky_said hi.2.1 (by omega) (Or.inl (by omega)) (Or.inr fun l' h0 h1 => hno l' h0 (by omega)), by rw [mp_udn (by omega)]; exact hi.2.2.1, by omega, fun j h0 h1 => by rw [mp_udn (by omega)]; exact hi.2.2.2.2.1 j h0 h1, fun j h0 h1 => by rw [mp_isSaid_ud (by omega) hfr (by omega) (by omega) 5 0 (by omega)]; exact hi.2.2.2.2.2 j (by omega) h1⟩ (hR.trans ?_)
              show (some (mp_i (mp_fold (fun k q => if k < s 0 then sp_runStep w k q else q) n (t + 1) ((fun k q => if k < s 0 then sp_runStep w k q else q) t (x, v))).2), A ++ (mp_sk p (mp_fold (fun k q => if k < s 0 then sp_runStep w k q else q) n (t + 1) ((fun k q => if k < s 0 then sp_runStep w k q else q) t (x, v))).1 f ++ B)) = _
              rw [e9]
          · refine mp_goto (tgt := 95) dX6_runNight_59 rfl ?_
            refine mp_iinc (z := t + 1) (L' := [some (Value.ref p), some (mp_i w), some (mp_i (sp_said s)), some (mp_i v), some (mp_i (t + 1)), some (Value.ref a2), none]) dX6_runNight_95 rfl (rfl) (by decide) rfl ?_
            refine mp_goto (tgt := 21) dX6_runNight_98 rfl ?_
            refine mp_drop (L' := [some (Value.ref p), some (mp_i w), some (mp_i (sp_said s)), some (mp_i v), some (mp_i (t + 1)), none, none]) [true, true, true, true, true, false, false] rfl ?_
            have e9 : (fun k q => if k < s 0 then sp_runStep w k q else q) t (x, v) = (x, v) := (if_pos (by omega)).trans (by show (if x (1 + 6 * t + 4) ≠ w ∨ sp_isSaid x t 5 0 ≠ 0 then ((x, v) : (Int → Int) × Int) else if sp_taker x t 1 < 0 then (x, v) else (mp_ud x (49 + 3 * sp_taker x t 1 + 2) t, v + 1)) = _; first | (rw [if_pos (by omega)]; done) | (rw [if_neg (by omega), if_pos (by omega)]; done))
            refine ih x v (t + 1) ⟨by omega, hi.2.1, hi.2.2.1, by omega, hi.2.2.2.2.1, fun j h0 h1 => hi.2.2.2.2.2 j (by omega) h1⟩ (hR.trans ?_)
            show (some (mp_i (mp_fold (fun k q => if k < s 0 then sp_runStep w k q else q) n (t + 1) ((fun k q => if k < s 0 then sp_runStep w k q else q) t (x, v))).2), A ++ (mp_sk p (mp_fold (fun k q => if k < s 0 then sp_runStep w k q else q) n (t + 1) ((fun k q => if k < s 0 then sp_runStep w k q else q) t (x, v))).1 f ++ B)) = _
            rw [e9]
      · refine mp_invV (z := (mX6_at, 0, 0, 0)) (K' := (0, 0)) (σ1 := A ++ (mp_sk p x f ++ B)) (as := [mp_i t]) (st := []) (st1 := [Value.null]) dX6_runNight_31 svX6_59 (mp_Sk.of (mp_skC.own hA) ((hmt.mono hs.kd mp_stay_sk).alike hi.2.2.2.2.1 hs.1.2)).1 rfl rfl (zX6_atN (p := p) (m := t) (s := x) (f := f) (mp_Sk.of (mp_skC.own hA) ((hmt.mono hs.kd mp_stay_sk).alike hi.2.2.2.2.1 hs.1.2)) hm2 (by omega) (by omega)) ⟨Nat.le_of_ble_eq_true rfl, Nat.le_of_ble_eq_true rfl, Nat.le_of_ble_eq_true rfl, Nat.le_of_ble_eq_true rfl, Nat.le_of_ble_eq_true rfl⟩ rfl rfl rfl rfl ?_
        refine mp_astoreN (L' := [some (Value.ref p), some (mp_i w), some (mp_i (sp_said s)), some (mp_i v), some (mp_i t), some (Value.null), none]) dX6_runNight_34 (by decide) rfl ?_
        refine mp_aloadN dX6_runNight_36 rfl ?_
        refine mp_ifnull_n (tgt := 95) dX6_runNight_38 rfl ?_
        refine mp_iinc (z := t + 1) (L' := [some (Value.ref p), some (mp_i w), some (mp_i (sp_said s)), some (mp_i v), some (mp_i (t + 1)), some (Value.null), none]) dX6_runNight_95 rfl (rfl) (by decide) rfl ?_
        refine mp_goto (tgt := 21) dX6_runNight_98 rfl ?_
        refine mp_drop (L' := [some (Value.ref p), some (mp_i w), some (mp_i (sp_said s)), some (mp_i v), some (mp_i (t + 1)), none, none]) [true, true, true, true, true, false, false] rfl ?_
        have e9 : (fun k q => if k < s 0 then sp_runStep w k q else q) t (x, v) = (x, v) := if_neg (by omega)
        refine ih x v (t + 1) ⟨by omega, hi.2.1, hi.2.2.1, by omega, hi.2.2.2.2.1, fun j h0 h1 => hi.2.2.2.2.2 j (by omega) h1⟩ (hR.trans ?_)
        show (some (mp_i (mp_fold (fun k q => if k < s 0 then sp_runStep w k q else q) n (t + 1) ((fun k q => if k < s 0 then sp_runStep w k q else q) t (x, v))).2), A ++ (mp_sk p (mp_fold (fun k q => if k < s 0 then sp_runStep w k q else q) n (t + 1) ((fun k q => if k < s 0 then sp_runStep w k q else q) t (x, v))).1 f ++ B)) = _
        rw [e9]
theorem zX6_runNight {s : Int → Int} {f : Nat → Option Nat} {A B : mp_H}  {p : Nat} {w : Int} (hA : A.length = p) (h_p : 0 < p) (hs : mp_sky s) (hmt : mp_Mt (A ++ (mp_sk p s f ++ B)) s f) (h_w : mp_w w) : mp_Call (mX6_runNight, 4, 0, 0) [Value.ref p, mp_i w] (A ++ (mp_sk p s f ++ B)) (some (mp_i ((sp_run s w).1)), A ++ (mp_sk p ((sp_run s w).2) f ++ B)) := by
  refine mp_Call.of (L := [some (Value.ref p), some (mp_i w), none, none, none, none, none]) pnX6 (Nat.le_of_ble_eq_true rfl) rfl ?_
  have hz0 := hs.1
  refine mp_iload_n dX6_runNight_0 rfl ?_
  refine mp_bipush dX6_runNight_1 rfl ?_
  refine mp_invS (z := (mX11_isBelow, 0, 0, 0)) (K' := (0, 0)) (σ1 := A ++ (mp_sk p s f ++ B)) (as := [mp_i w, mp_i 31]) (st := []) (st1 := [mp_i (if 0 ≤ w ∧ w < 31 then 1 else 0)]) dX6_runNight_3 ssX6_34 (zX11_isBelow (v := w) (n := 31) (by first | with_reducible assumption | omega) (by first | with_reducible assumption | omega)) ⟨Nat.le_of_ble_eq_true rfl, Nat.le_of_ble_eq_true rfl, Nat.le_of_ble_eq_true rfl, Nat.le_of_ble_eq_true rfl, Nat.le_of_ble_eq_true rfl⟩ rfl rfl rfl rfl ?_
  refine mp_ifb_ne (tgt := 11) dX6_runNight_6 rfl (fun h1 => ?_) (fun h1 => ?_)
  · refine mp_aload_n dX6_runNight_11 rfl ?_
    refine mp_invV (z := (mX6_saidYesTo, 1, 0, 0)) (K' := (0, 0)) (σ1 := A ++ (mp_sk p s f ++ B)) (as := []) (st := []) (st1 := [mp_i (sp_said s)]) dX6_runNight_12 svX6_66 (mp_lkP hA 0 rfl) rfl rfl (zX6_saidYesTo (p := p) (s := s) (f := f) (mp_Sk.of (mp_skC.own hA) hmt) hs) ⟨Nat.le_of_ble_eq_true rfl, Nat.le_of_ble_eq_true rfl, Nat.le_of_ble_eq_true rfl, Nat.le_of_ble_eq_true rfl, Nat.le_of_ble_eq_true rfl⟩ rfl rfl rfl rfl ?_
    refine mp_istore_n (L' := [some (Value.ref p), some (mp_i w), some (mp_i (sp_said s)), none, none, none, none]) dX6_runNight_15 rfl (by decide) rfl ?_
    refine mp_iconst dX6_runNight_16 ?_
    refine mp_istore_n (L' := [some (Value.ref p), some (mp_i w), some (mp_i (sp_said s)), some (mp_i 0), none, none, none]) dX6_runNight_17 rfl (by decide) rfl ?_
    refine mp_iconst dX6_runNight_18 ?_
    refine mp_istore (L' := [some (Value.ref p), some (mp_i w), some (mp_i (sp_said s)), some (mp_i 0), some (mp_i 0), none, none]) dX6_runNight_19 (by decide) rfl ?_
    exact lX6_runNight_21 (s := s) (f := f) (p := p) (w := w)  (by first | with_reducible assumption | omega) (by first | with_reducible assumption | omega) (by first | with_reducible assumption | omega) (by first | with_reducible assumption | omega) (by first | with_reducible assumption | omega) 8 s 0 0 (⟨by omega, hs, rfl, by omega, fun _ _ _ => rfl, fun j h0 h1 => mp_b_said hs ⟨by omega, h1⟩⟩) (by rw [mp_runs_fold hs.1]; unfold sp_run; rw [if_neg (by omega)])
  · refine mp_iconst dX6_runNight_9 ?_
    exact mp_ireturn (st := []) dX6_runNight_10 rfl ⟨by decide, by decide⟩ ((by rw [show sp_run s w = (-1, s) from by unfold sp_run; rw [if_pos (by omega)]]))
