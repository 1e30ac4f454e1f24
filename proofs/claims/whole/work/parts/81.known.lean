/-! ===== what is known at the law's start ===== -/
theorem mp_gt_one {w : Cond} (h : decide (w ∈ lw_tbl) = true) (hg : goodWord w = true) : w ∈ mp_gt := List.mem_filter.mpr ⟨of_decide_eq_true h, hg⟩
theorem mp_st_cls {s : State} {args : Array Value} (hts : ∀ w ∈ mp_gt, w.before args s = true) : ∃ D : va_G, ∀ (c : Nat) (q : vw_C), mp_cl[c]? = some q → u_Kn s q.1 q.2.1 q.2.2 (D.1 c) (D.2 c) := by
  have h : ∀ c : Nat, ∃ (a : ClassId) (i : Nat → Nat), ∀ q : vw_C, mp_cl[c]? = some q → u_Kn s q.1 q.2.1 q.2.2 a i := fun c => by
    match c with
    | 0 =>
      obtain ⟨a, i, h⟩ := u_known (n := 7) hts (mp_cl_in (ci := 0) rfl) (hts (.instantiable RX4 7) (mp_gt_one (by decide +kernel) rfl))
      exact ⟨a, i, fun q hq => by cases hq; exact h⟩
    | 1 =>
      obtain ⟨a, i, h⟩ := u_known (n := 7) hts (mp_cl_in (ci := 1) rfl) (hts (.instantiable RX9 7) (mp_gt_one (by decide +kernel) rfl))
      exact ⟨a, i, fun q hq => by cases hq; exact h⟩
    | 2 =>
      obtain ⟨a, i, h⟩ := u_known (n := 7) hts (mp_cl_in (ci := 2) rfl) (hts (.instantiable RX1 7) (mp_gt_one (by decide +kernel) rfl))
      exact ⟨a, i, fun q hq => by cases hq; exact h⟩
    | 3 =>
      obtain ⟨a, i, h⟩ := u_known (n := 7) hts (mp_cl_in (ci := 3) rfl) (hts (.instantiable RX0 7) (mp_gt_one (by decide +kernel) rfl))
      exact ⟨a, i, fun q hq => by cases hq; exact h⟩
    | 4 =>
      obtain ⟨a, i, h⟩ := u_known (n := 7) hts (mp_cl_in (ci := 4) rfl) (hts (.instantiable RX3 7) (mp_gt_one (by decide +kernel) rfl))
      exact ⟨a, i, fun q hq => by cases hq; exact h⟩
    | 5 =>
      obtain ⟨a, i, h⟩ := u_known (n := 7) hts (mp_cl_in (ci := 5) rfl) (hts (.instantiable RX8 7) (mp_gt_one (by decide +kernel) rfl))
      exact ⟨a, i, fun q hq => by cases hq; exact h⟩
    | 6 =>
      obtain ⟨a, i, h⟩ := u_known (n := 7) hts (mp_cl_in (ci := 6) rfl) (hts (.instantiable RX10 7) (mp_gt_one (by decide +kernel) rfl))
      exact ⟨a, i, fun q hq => by cases hq; exact h⟩
    | 7 =>
      obtain ⟨a, i, h⟩ := u_known (n := 7) hts (mp_cl_in (ci := 7) rfl) (hts (.instantiable RX2 7) (mp_gt_one (by decide +kernel) rfl))
      exact ⟨a, i, fun q hq => by cases hq; exact h⟩
    | 8 =>
      obtain ⟨a, i, h⟩ := u_known (n := 6) hts (mp_cl_in (ci := 8) rfl) (hts (.instantiable RX6 6) (mp_gt_one (by decide +kernel) rfl))
      exact ⟨a, i, fun q hq => by cases hq; exact h⟩
    | 9 =>
      obtain ⟨a, i, h⟩ := u_known (n := 3) hts (mp_cl_in (ci := 9) rfl) (hts (.instantiable RX5 3) (mp_gt_one (by decide +kernel) rfl))
      exact ⟨a, i, fun q hq => by cases hq; exact h⟩
    | 10 =>
      obtain ⟨a, i, h⟩ := u_known (n := 12) hts (mp_cl_in (ci := 10) rfl) (hts (.instantiable RX11 12) (mp_gt_one (by decide +kernel) rfl))
      exact ⟨a, i, fun q hq => by cases hq; exact h⟩
    | 11 =>
      obtain ⟨a, i, h⟩ := u_known (n := 21) hts (mp_cl_in (ci := 11) rfl) (hts (.instantiable RX12 21) (mp_gt_one (by decide +kernel) rfl))
      exact ⟨a, i, fun q hq => by cases hq; exact h⟩
    | c + 12 => exact ⟨0, fun _ => 0, fun q hq => by simp [mp_cl] at hq⟩
  exact ⟨(fun c => Classical.choose (h c), fun c => Classical.choose (Classical.choose_spec (h c))), fun c q hq => Classical.choose_spec (Classical.choose_spec (h c)) q hq⟩
