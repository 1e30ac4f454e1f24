/-! ===== all that is known at the law's start ===== -/
theorem mp_st_txt {s : State} {args : Array Value} {own tx : String} {k : Nat} {cur : ClassId} (hcur : s.vm.findClass own = some cur) (h : (Cond.stringRef own k tx).before args s = true) : ∃ a : Nat, vk_R own k tx a s := by
  obtain ⟨_, _, _, a, -, -, -, -, -, h6⟩ := Cond.stringRef_spec (args := args) (first := s) (o := none) (s := s) (idx := []) hcur h
  exact ⟨a, vk_R.of h h6⟩
theorem mp_st_Kn {s : State} {args : Array Value} {b L : Nat} {xs : Nat → Int32} (hts : ∀ w ∈ lw_tbl, w.before args s = true) (hX : va_X b L xs s s.heap) (hbl : b < s.heap.size) (hU : (Cond.isRef (.static Bundle.tN "UNASSIGNED_STACK" Bundle.steD)).before args s = true) (hN : (Cond.isRef (.static Bundle.tN "SUPPRESSED_SENTINEL" Bundle.listD)).before args s = true) : ∃ (D : va_G) (a : Nat → ClassId), mp_Kn (s.heap, b, D, a) s := by
  have hO4 : va_AO RX4 s := va_AO.of (hts (.arrayOver (.object RX4)) (by decide +kernel))
  have hO5 : va_AO RX5 s := va_AO.of (hts (.arrayOver (.object RX5)) (by decide +kernel))
  obtain ⟨D, a, hK⟩ := mp_st_K (H := s.heap) (b := b) hts hO4 hO5
  refine ⟨D, a, hK, hbl, fun w hw => ?_, fun q hq => ?_, hO4, hO5, fun scr hs => ?_, fun q hq => ?_, ?_, ?_⟩
  · simp only [mp_nest, List.mem_cons, List.not_mem_nil, or_false] at hw
    rcases hw with rfl | rfl | rfl | rfl | rfl | rfl | rfl <;> exact va_Nw.of rfl (hts _ (by decide +kernel))
  · simp only [mp_cast, List.mem_cons, List.not_mem_nil, or_false] at hq
    rcases hq with rfl | rfl | rfl | rfl | rfl | rfl | rfl <;> exact va_Nw.of rfl (hts _ (by decide +kernel))
  · obtain ⟨scr', h1, h2, h3, -⟩ := hX
    cases h1.symm.trans hs
    exact ⟨h2, h3⟩
  · simp only [mp_txt, List.mem_cons, List.not_mem_nil, or_false] at hq
    rcases hq with rfl | rfl | rfl | rfl | rfl
    · exact mp_st_txt (hK.1 4 _ rfl).2.1 (hts _ (by decide +kernel))
    · exact mp_st_txt (hK.1 1 _ rfl).2.1 (hts _ (by decide +kernel))
    · exact mp_st_txt (hK.1 0 _ rfl).2.1 (hts _ (by decide +kernel))
    · exact mp_st_txt (hK.1 10 _ rfl).2.1 (hts _ (by decide +kernel))
    · exact mp_st_txt (hK.1 10 _ rfl).2.1 (hts _ (by decide +kernel))
  · exact vx_Zqof (hts _ (by decide +kernel)) (hts _ (by decide +kernel)) hU (fun a ha h => absurd h (Nat.not_le.mpr ha))
  · exact vx_Zqof (hts _ (by decide +kernel)) (hts _ (by decide +kernel)) hN (fun a ha h => absurd h (Nat.not_le.mpr ha))
