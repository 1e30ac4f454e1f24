/-! ===== the arrays' classes at the law's start ===== -/
theorem mp_st_prim {s : State} {args : Array Value} {ty : FieldType} (ht : ty = .int ∨ ty = .long) (h : (Cond.arrayClass ty).before args s = true) : ∃ c : ClassId, ArrOfT s c ty ∧ va_RA s c ty := by
  obtain ⟨c, k, comp, h1, h2, h3⟩ := Cond.arrayClass_spec (args := args) (first := s) (s := s) (o := none) (idx := []) h
  refine ⟨c, fun n z => ⟨fun k h => (by cases h), k, h2, comp, h3⟩, ?_⟩
  rcases ht with rfl | rfl
  · exact h1
  · exact h1
theorem mp_st_obj {s : State} {C : String} (h : va_AO C s) : ∃ c : ClassId, ArrOfT s c (.object C) ∧ va_RA s c (.object C) := by
  obtain ⟨comp, c, k, h1, -, h3, h4, h5⟩ := Cond.arrayOver_spec h
  exact ⟨c, fun n z => ⟨fun k h => (by cases h), k, h3, comp, h4⟩, k, comp, h3, h4, h1, h5⟩
theorem mp_st_K {s : State} {args : Array Value} {H : Heap} {b : Nat} (hts : ∀ w ∈ lw_tbl, w.before args s = true) (hO4 : va_AO RX4 s) (hO5 : va_AO RX5 s) : ∃ (D : va_G) (a : Nat → ClassId), va_K D mp_cl (mp_tys (H, b, D, a)) s := by
  have hg : ∀ w ∈ mp_gt, w.before args s = true := fun w hw => hts w (mp_gt_in w hw)
  obtain ⟨D, hD⟩ := mp_st_cls hg
  obtain ⟨c0, q0⟩ := mp_st_prim (Or.inl rfl) (hg _ mp_w_int)
  obtain ⟨c1, q1⟩ := mp_st_prim (Or.inr rfl) (hg _ mp_w_long)
  obtain ⟨c2, q2⟩ := mp_st_obj hO4
  obtain ⟨c3, q3⟩ := mp_st_obj hO5
  refine ⟨D, fun j => match j with | 0 => c0 | 1 => c1 | 2 => c2 | _ => c3, hD, fun k q hk => ?_⟩
  match k, hk with
  | 0, hk => cases hk; exact q0
  | 1, hk => cases hk; exact q1
  | 2, hk => cases hk; exact q2
  | 3, hk => cases hk; exact q3
  | k + 4, hk => simp [mp_tys] at hk
