/-! ===== rows of calls ===== -/
/-- what a callee brings: its code, its class initialised, how many parameters it has -/
def mp_SB (z : mp_M) (n : Nat) : Prop := Cond.code z.1 z.2.1 z.2.2.1 z.2.2.2 ∈ mp_gt ∧ Cond.initialized z.1.cls ∈ mp_gt ∧ (z.1.cls ≠ "java/lang/invoke/MethodHandle" ∧ z.1.cls ≠ "java/lang/invoke/VarHandle") ∧ (parseMethodDescriptor z.1.desc).map (fun d => d.parameters.length) = some n
theorem mp_SB.sig {z : mp_M} {n : Nat} (h : mp_SB z n) : ∀ sig, parseMethodDescriptor z.1.desc = some sig → n = sig.parameters.length := fun sig hs => by
  have h2 := h.2.2.2
  rw [hs] at h2
  exact (Option.some.inj h2).symm
theorem mp_good {z : mp_M} {n : Nat} (h : mp_SB z n) : GoodIn mp_gt (mp_ws z) := fun w hw => by
  rcases List.mem_cons.mp hw with rfl | hw
  · exact ⟨h.1, mp_gt_good _ h.1⟩
  · exact ⟨hw, mp_gt_good _ hw⟩
theorem mp_blind {G : mp_G} {as : List Value} {σ : mp_H} : FrameBlind (va_Pc (as.map (mp_tr G)) (fun U => mp_Kn G U ∧ mp_Wd G σ U.heap)) := fun a U g mk h => by
  obtain ⟨h1, h2, h3⟩ := h
  exact ⟨h1, h2.calling, h3⟩
theorem mp_pre {G : mp_G} {s : State} {as : List Value} {σ : mp_H} {H : Heap} (hK : mp_Kn G s) (hW : mp_Wd G σ H) : ∀ U : State, U.heap = H → s.WarmedH U.vm → va_Pc (as.map (mp_tr G)) (fun U => mp_Kn G U ∧ mp_Wd G σ U.heap) (as.map (mp_tr G)).toArray U := fun U hU hw => ⟨rfl, hK.warm hw, by rw [hU]; exact hW⟩
/-- behind a call -/
theorem mp_go {G : mp_G} {p : Program} {l : Launch} {e : Env} {Rm : Room} {s : State} {m : MethodId} {args : Array Value} {below : List Frame} {meth : Method} {c : Code} {H : Heap} {locs : List Loc} {k n mc ms pc : Nat} {ls : Array Slot} {st0 rest : List Value} {Q : State → Prop} {σ : mp_H} {A1 : mp_An} {a : Array Value}
    (hW : mp_Wd G σ H) (hS : va_S (mp_fr G) s.heap H locs) (hr : va_Run p l e Rm s m args below meth c H locs k n mc ms (F0 m pc ls st0) rest (mp_Qc G A1 a) (mp_fr G))
    (kk : ∀ (H1 : Heap) (locs1 : List Loc), mp_Wd G A1.2 H1 → va_S (mp_fr G) s.heap H1 locs1 → W p l e Rm s m args below meth c H1 locs1 (k + mc) (n + ms) Q (F0 m (pc + 3) ls ((A1.1.map (mp_tr G)).toList ++ rest))) : W p l e Rm s m args below meth c H locs k n Q (F0 m pc ls st0) := by
  intro T hT X
  obtain ⟨v, st₀, t, T', L, h0, X', hL, e1, e2, ⟨hv, hw, hz⟩, st⟩ := hr T hT X
  cases hv
  rw [h0] at hz
  rw [← e1] at hw hz
  have hS1 : va_S (mp_fr G) s.heap T'.heap (locs ++ L) := by
    refine ⟨Nat.le_trans hS.1 hz, fun q h1 h2 => ?_, fun q hq => ?_⟩
    · have hq : q < G.1.size := Nat.not_le.mp h2
      rw [hw.2.1 q hq, ← hW.2.1 q hq]
      exact hS.2.1 q h1 h2
    · rcases List.mem_append.mp hq with h | h
      · exact hS.2.2 q h
      · exact hL q h
  obtain ⟨t2, a1, b1⟩ := kk T'.heap (locs ++ L) hw hS1 T' rfl X'
  exact ⟨t2, st t2 a1, b1⟩
theorem mp_catsum (G : mp_G) (st : List Value) : ((st.map (mp_tr G)).map fun v => v.category).sum = (st.map fun v => v.category).sum := by
  rw [List.map_map]
  congr 1
  apply List.map_congr_left
  intro v _
  exact mp_cat G v
/-- room for a callee -/
def mp_rmOk (Y : mp_Y) (K : Nat × Nat) (z : mp_Y) (st : List Value) : Prop := z.2.1 + 1 ≤ Y.2.1 ∧ z.1.2.2.1 ≤ 29 ∧ K.1 + z.2.2.1 ≤ Y.2.2.1 ∧ K.2 + z.2.2.2 ≤ Y.2.2.2 ∧ (st.map fun v => v.category).sum ≤ 8
theorem mp_w_oi : Cond.instanceMethod Lib.objectInit ∈ mp_gt := mp_gt_of 30 (by decide +kernel) rfl
theorem mp_w_oc : Cond.code Lib.objectInit ⟨#[0xb1]⟩ 1 none ∈ mp_gt := mp_gt_of 31 (by decide +kernel) rfl
section Calls
variable {Y : mp_Y} {K K' : Nat × Nat} {pc nx : Nat} {L : List (Option Value)} {st st0 st1 : List Value} {σ : mp_H} {A : mp_An} {z : mp_Y} {as : List Value} {A1 : mp_An} {idx : Nat}
theorem mp_room {Rm : Room} {G : mp_G} {p : Program} {l : Launch} {s : State} {m : MethodId} {args : Array Value} {meth : Method} {c : Code} (C : mp_Cx G p l Rm s m args meth c Y) (h : mp_rmOk Y K z st) :
    (mp_rm z.2.1 z.2.2.1 z.2.2.2).frames + 1 ≤ Rm.frames ∧ 8 + (z.1.2.2.1 + 11) + (mp_rm z.2.1 z.2.2.1 z.2.2.2).locals ≤ Rm.locals ∧ K.1 + z.2.2.1 ≤ Rm.cells ∧ K.2 + z.2.2.2 ≤ Rm.slots := by
  obtain ⟨-, -, -, -, -, -, -, -, -, -, c1, c2, c3, c4⟩ := C
  obtain ⟨h1, h2, h3, h4, -⟩ := h
  refine ⟨?_, ?_, by omega, by omega⟩
  · show z.2.1 + 1 ≤ Rm.frames; omega
  · show 8 + (z.1.2.2.1 + 11) + 48 * z.2.1 ≤ Rm.locals; omega
theorem mp_after {G : mp_G} (h : A1.1.toList ++ st = st1) : (A1.1.map (mp_tr G)).toList ++ st.map (mp_tr G) = st1.map (mp_tr G) := by
  subst h
  rw [List.map_append]
  cases A1.1 <;> rfl
/-- the words of a static call -/
def mp_SS (own : String) (idx : Nat) (z : mp_M) (n : Nat) : Prop := mp_SB z n ∧ Cond.static z.1 ∈ mp_gt ∧ (Cond.methodLink own idx z.1 ∈ mp_gt ∨ ∃ host, Cond.methodLinkNest own idx z.1 host ∈ mp_nest)
theorem mp_invokestatic (hd : mp_dc Y.1 pc (.invokestatic idx) 3 nx) (hs : mp_SS Y.1.1.cls idx z.1 as.length) (hc : mp_Call z as σ A1) (hR : mp_rmOk Y K z st) (h0 : as.reverse ++ st = st0) (h1 : A1.1.toList ++ st = st1) (hK : (K.1 + z.2.2.1, K.2 + z.2.2.2) = K') (kk : mp_At Y K' nx L st1 A1.2 A) : mp_At Y K pc L st0 σ A := by
  subst h0
  subst hK
  obtain ⟨hd, rfl⟩ := hd
  obtain ⟨hb, hstt, hlk⟩ := hs
  intro G p l e Rm s m args below meth c C H locs ls hW hS hL
  have hKn := C.2.2.2.2.2.2.2.2.1
  have hw := C.2.2.2.2.2.2.2.1
  obtain ⟨r1, r2, r3, r4⟩ := mp_room C hR
  refine mp_go (mc := z.2.2.1) (ms := z.2.2.2) (a := (as.map (mp_tr G)).toArray) (rest := st.map (mp_tr G)) hW hS (A1 := A1) ?_ (fun H1 locs1 g1 g2 => ?_)
  rotate_left
  · rw [mp_after h1]
    exact kk G p l e Rm s m args below meth c C H1 locs1 ls g1 g2 hL
  · have hcd := hw _ hb.1
    have hrev : (as.map (mp_tr G)).length = as.length := List.length_map _
    have hstk : (F0 m pc ls ((as.reverse ++ st).map (mp_tr G))).stack = (as.map (mp_tr G)).reverse ++ st.map (mp_tr G) := by
      show (as.reverse ++ st).map (mp_tr G) = _
      rw [List.map_append, List.map_reverse]
    rcases hlk with hlk | ⟨host, hlk⟩
    · exact va_runS ⟨C.1, C.2.1, C.2.2.2.1, C.2.2.2.2.1, hw⟩ (hc G l C.2.2.2.2.2.2.2.2.2.1) ⟨⟨rfl, rfl, r1, r2, pay_in hw (mp_good hb), List.mem_cons_self, hcd, hw _ hb.2.1, hb.2.2.1, hb.sig, hw _ hlk⟩, hw _ hstt⟩ ⟨mp_blind, mp_pre hKn hW⟩ rfl hrev hL.1 hstk (lv_room (by rw [mp_catsum]; exact hR.2.2.2.2)) hd ⟨r3, r4⟩
    · exact va_runSN ⟨C.1, C.2.1, C.2.2.2.1, C.2.2.2.2.1, hw⟩ (hc G l C.2.2.2.2.2.2.2.2.2.1) (host := host) ⟨⟨⟨rfl, rfl, r1, r2, pay_in hw (mp_good hb), List.mem_cons_self⟩, hcd, hw _ hb.2.1, hb.2.2.1, hb.sig, va_Nw.use rfl (hKn.2.2.1 _ hlk)⟩, hw _ hstt, trivial⟩ ⟨mp_blind, mp_pre hKn hW⟩ rfl hrev hL.1 hstk (lv_room (by rw [mp_catsum]; exact hR.2.2.2.2)) hd ⟨r3, r4⟩
theorem mp_rcv {G : mp_G} {s : State} {H : Heap} {k ci : Nat} {fs : List Value} {r : vw_C} (hKn : mp_Kn G s) (hW : mp_Wd G σ H) (hs : σ[k]? = some (mp_O ci fs)) (hr : mp_cl[ci]? = some r) : ∃ cellB : Cell, H[mp_ad G k]? = some cellB ∧ cellB.vm.isStatics = false ∧ s.vm.findClass r.1 = some cellB.cls := by
  obtain ⟨r1, h1, cell, q1, q2, q3, q4⟩ := hW.2.2 k _ hs
  cases h1.symm.trans hr
  exact ⟨cell, q1, by rw [q3]; rfl, by rw [q2]; exact (hKn.1.1 ci _ hr).2.1⟩
/-- the words of a call of a class's own method, not overridden -/
def mp_SV (own : String) (idx : Nat) (z : mp_M) (n : Nat) : Prop := mp_SB z n ∧ Cond.instanceMethod z.1 ∈ mp_gt ∧ Cond.selects z.1.cls z.1 z.1 ∈ mp_gt ∧ Cond.methodLink own idx z.1 ∈ mp_gt
theorem mp_invokevirtual {k ci : Nat} {fs : List Value} {r : vw_C} (hd : mp_dc Y.1 pc (.invokevirtual idx) 3 nx) (hs : mp_SV Y.1.1.cls idx z.1 as.length) (ho : σ[k]? = some (mp_O ci fs)) (hr : mp_cl[ci]? = some r) (hrc : r.1 = z.1.1.cls) (hc : mp_Call z (Value.ref k :: as) σ A1) (hR : mp_rmOk Y K z st) (h0 : as.reverse ++ Value.ref k :: st = st0) (h1 : A1.1.toList ++ st = st1) (hK : (K.1 + z.2.2.1, K.2 + z.2.2.2) = K') (kk : mp_At Y K' nx L st1 A1.2 A) : mp_At Y K pc L st0 σ A := by
  subst h0
  subst hK
  obtain ⟨hd, rfl⟩ := hd
  obtain ⟨hb, hin, hse, hlk⟩ := hs
  intro G p l e Rm s m args below meth c C H locs ls hW hS hL
  have hKn := C.2.2.2.2.2.2.2.2.1
  have hw := C.2.2.2.2.2.2.2.1
  obtain ⟨r1, r2, r3, r4⟩ := mp_room C hR
  refine mp_go (mc := z.2.2.1) (ms := z.2.2.2) (a := (Value.ref (mp_ad G k) :: as.map (mp_tr G)).toArray) (rest := st.map (mp_tr G)) hW hS (A1 := A1) ?_ (fun H1 locs1 g1 g2 => ?_)
  rotate_left
  · rw [mp_after h1]
    exact kk G p l e Rm s m args below meth c C H1 locs1 ls g1 g2 hL
  · have hcd := hw _ hb.1
    have hrev : (as.map (mp_tr G)).length = as.length := List.length_map _
    have hstk : (F0 m pc ls ((as.reverse ++ Value.ref k :: st).map (mp_tr G))).stack = (as.map (mp_tr G)).reverse ++ Value.ref (mp_ad G k) :: st.map (mp_tr G) := by
      show (as.reverse ++ Value.ref k :: st).map (mp_tr G) = _
      rw [List.map_append, List.map_reverse]; rfl
    exact va_runV ⟨C.1, C.2.1, C.2.2.2.1, C.2.2.2.2.1, hw⟩ (hc G l C.2.2.2.2.2.2.2.2.2.1) (C := z.1.1.cls) ⟨⟨rfl, rfl, r1, r2, pay_in hw (mp_good hb), List.mem_cons_self, hcd, hw _ hb.2.1, hb.2.2.1, hb.sig, hw _ hlk⟩, hw _ hin, hw _ hse⟩ ⟨mp_blind, by rw [← hrc]; exact mp_rcv hKn hW ho hr, mp_pre (as := Value.ref k :: as) hKn hW⟩ rfl hrev hL.1 hstk (lv_room (by rw [mp_catsum]; exact hR.2.2.2.2)) hd ⟨r3, r4⟩
/-- the words of a call that the receiver's class answers: x is named, z is run -/
def mp_SU (own : String) (idx : Nat) (x : mp_M) (C : String) (z : mp_M) (n : Nat) : Prop := mp_SB z n ∧ mp_SB x n ∧ Cond.instanceMethod z.1 ∈ mp_gt ∧ Cond.instanceMethod x.1 ∈ mp_gt ∧ Cond.selects C x.1 z.1 ∈ mp_gt ∧ Cond.sameMethod x.1.cls x.1.cls x.1.name x.1.desc ∈ mp_gt ∧ Cond.methodLink own idx x.1 ∈ mp_gt
theorem mp_invokeover {k ci : Nat} {fs : List Value} {r : vw_C} {x : mp_M} (hd : mp_dc Y.1 pc (.invokevirtual idx) 3 nx) (hs : mp_SU Y.1.1.cls idx x r.1 z.1 as.length) (ho : σ[k]? = some (mp_O ci fs)) (hr : mp_cl[ci]? = some r) (hc : mp_Call z (Value.ref k :: as) σ A1) (hR : mp_rmOk Y K z st) (h0 : as.reverse ++ Value.ref k :: st = st0) (h1 : A1.1.toList ++ st = st1) (hK : (K.1 + z.2.2.1, K.2 + z.2.2.2) = K') (kk : mp_At Y K' nx L st1 A1.2 A) : mp_At Y K pc L st0 σ A := by
  subst h0
  subst hK
  obtain ⟨hd, rfl⟩ := hd
  obtain ⟨hb, hbx, hin, hinx, hse, hsm, hlk⟩ := hs
  intro G p l e Rm s m args below meth c C H locs ls hW hS hL
  have hKn := C.2.2.2.2.2.2.2.2.1
  have hw := C.2.2.2.2.2.2.2.1
  obtain ⟨r1, r2, r3, r4⟩ := mp_room C hR
  refine mp_go (mc := z.2.2.1) (ms := z.2.2.2) (a := (Value.ref (mp_ad G k) :: as.map (mp_tr G)).toArray) (rest := st.map (mp_tr G)) hW hS (A1 := A1) ?_ (fun H1 locs1 g1 g2 => ?_)
  rotate_left
  · rw [mp_after h1]
    exact kk G p l e Rm s m args below meth c C H1 locs1 ls g1 g2 hL
  · have hcd := hw _ hb.1
    have hrev : (as.map (mp_tr G)).length = as.length := List.length_map _
    have hstk : (F0 m pc ls ((as.reverse ++ Value.ref k :: st).map (mp_tr G))).stack = (as.map (mp_tr G)).reverse ++ Value.ref (mp_ad G k) :: st.map (mp_tr G) := by
      show (as.reverse ++ Value.ref k :: st).map (mp_tr G) = _
      rw [List.map_append, List.map_reverse]; rfl
    exact va_runU ⟨C.1, C.2.1, C.2.2.2.1, C.2.2.2.2.1, hw⟩ (hc G l C.2.2.2.2.2.2.2.2.2.1) (C := r.1) (owner := x.1.cls) (x := x.1) ⟨⟨rfl, rfl, r1, r2, pay_in hw (mp_good hb), List.mem_cons_self⟩, hcd, hw _ hb.2.1, hbx.2.2.1, hbx.sig, hw _ hlk, hw _ hsm, va_Decl.of (hw _ hinx) (hw _ hbx.1), hw _ hse, hw _ hin⟩ ⟨mp_blind, mp_rcv hKn hW ho hr, mp_pre (as := Value.ref k :: as) hKn hW⟩ rfl hrev hL.1 hstk (lv_room (by rw [mp_catsum]; exact hR.2.2.2.2)) hd ⟨r3, r4⟩
/-- the words of a constructor's call -/
def mp_SI (own : String) (idx : Nat) (z : mp_M) (n : Nat) : Prop := mp_SB z n ∧ Cond.instanceMethod z.1 ∈ mp_gt ∧ z.1.name = "<init>" ∧ z.2.2.2 = none ∧ (Cond.methodLink own idx z.1 ∈ mp_gt ∨ ∃ host, Cond.methodLinkNest own idx z.1 host ∈ mp_nest)
theorem mp_invokeinit {k : Nat} (hd : mp_dc Y.1 pc (.invokespecial idx) 3 nx) (hs : mp_SI Y.1.1.cls idx z.1 as.length) (hc : mp_Call z (Value.ref k :: as) σ A1) (hR : mp_rmOk Y K z st) (h0 : as.reverse ++ Value.ref k :: st = st0) (h1 : A1.1.toList ++ st = st1) (hK : (K.1 + z.2.2.1, K.2 + z.2.2.2) = K') (kk : mp_At Y K' nx L st1 A1.2 A) : mp_At Y K pc L st0 σ A := by
  subst h0
  subst hK
  obtain ⟨hd, rfl⟩ := hd
  obtain ⟨⟨zn, zb, zl, zr⟩, zd⟩ := z
  obtain ⟨hb, hin, hnm, rfl, hlk⟩ := hs
  intro G p l e Rm s m args below meth c C H locs ls hW hS hL
  have hKn := C.2.2.2.2.2.2.2.2.1
  have hw := C.2.2.2.2.2.2.2.1
  obtain ⟨r1, r2, r3, r4⟩ := mp_room C hR
  refine mp_go (mc := zd.2.1) (ms := zd.2.2) (a := (Value.ref (mp_ad G k) :: as.map (mp_tr G)).toArray) (rest := st.map (mp_tr G)) hW hS (A1 := A1) ?_ (fun H1 locs1 g1 g2 => ?_)
  rotate_left
  · rw [mp_after h1]
    exact kk G p l e Rm s m args below meth c C H1 locs1 ls g1 g2 hL
  · have hcd := hw _ hb.1
    have hrev : (as.map (mp_tr G)).length = as.length := List.length_map _
    have hstk : (F0 m pc ls ((as.reverse ++ Value.ref k :: st).map (mp_tr G))).stack = (as.map (mp_tr G)).reverse ++ Value.ref (mp_ad G k) :: st.map (mp_tr G) := by
      show (as.reverse ++ Value.ref k :: st).map (mp_tr G) = _
      rw [List.map_append, List.map_reverse]; rfl
    rcases hlk with hlk | ⟨host, hlk⟩
    · exact va_runI ⟨C.1, C.2.1, C.2.2.2.1, C.2.2.2.2.1, hw⟩ (hc G l C.2.2.2.2.2.2.2.2.2.1) ⟨⟨rfl, rfl, r1, r2, pay_in hw (mp_good hb), List.mem_cons_self, hcd, hw _ hb.2.1, hb.2.2.1, hb.sig, hw _ hlk⟩, hnm, hw _ hin⟩ ⟨mp_blind, mp_pre (as := Value.ref k :: as) hKn hW⟩ rfl hrev hL.1 hstk (lv_room (by rw [mp_catsum]; exact hR.2.2.2.2)) hd ⟨r3, r4⟩
    · exact va_runIN ⟨C.1, C.2.1, C.2.2.2.1, C.2.2.2.2.1, hw⟩ (hc G l C.2.2.2.2.2.2.2.2.2.1) (host := host) ⟨⟨⟨rfl, rfl, r1, r2, pay_in hw (mp_good hb), List.mem_cons_self⟩, hcd, hw _ hb.2.1, hb.2.2.1, hb.sig, va_Nw.use rfl (hKn.2.2.1 _ hlk)⟩, hnm, hw _ hin⟩ ⟨mp_blind, mp_pre (as := Value.ref k :: as) hKn hW⟩ rfl hrev hL.1 hstk (lv_room (by rw [mp_catsum]; exact hR.2.2.2.2)) hd ⟨r3, r4⟩
/-- the words of a call of the method above it -/
def mp_SP (own : String) (idx : Nat) (z : mp_M) (n : Nat) : Prop := mp_SB z n ∧ Cond.instanceMethod z.1 ∈ mp_gt ∧ z.1.name ≠ "<init>" ∧ Cond.sameMethod z.1.cls z.1.cls z.1.name z.1.desc ∈ mp_gt ∧ Cond.superclass own z.1.cls ∈ mp_gt ∧ Cond.methodLink own idx z.1 ∈ mp_gt
theorem mp_invokesuper {k ci : Nat} {fs : List Value} {r : vw_C} (hd : mp_dc Y.1 pc (.invokespecial idx) 3 nx) (hs : mp_SP Y.1.1.cls idx z.1 as.length) (ho : σ[k]? = some (mp_O ci fs)) (hr : mp_cl[ci]? = some r) (hc : mp_Call z (Value.ref k :: as) σ A1) (hR : mp_rmOk Y K z st) (h0 : as.reverse ++ Value.ref k :: st = st0) (h1 : A1.1.toList ++ st = st1) (hK : (K.1 + z.2.2.1, K.2 + z.2.2.2) = K') (kk : mp_At Y K' nx L st1 A1.2 A) : mp_At Y K pc L st0 σ A := by
  subst h0
  subst hK
  obtain ⟨hd, rfl⟩ := hd
  obtain ⟨hb, hin, hnm, hsm, hsu, hlk⟩ := hs
  intro G p l e Rm s m args below meth c C H locs ls hW hS hL
  have hKn := C.2.2.2.2.2.2.2.2.1
  have hw := C.2.2.2.2.2.2.2.1
  obtain ⟨r1, r2, r3, r4⟩ := mp_room C hR
  refine mp_go (mc := z.2.2.1) (ms := z.2.2.2) (a := (Value.ref (mp_ad G k) :: as.map (mp_tr G)).toArray) (rest := st.map (mp_tr G)) hW hS (A1 := A1) ?_ (fun H1 locs1 g1 g2 => ?_)
  rotate_left
  · rw [mp_after h1]
    exact kk G p l e Rm s m args below meth c C H1 locs1 ls g1 g2 hL
  · have hcd := hw _ hb.1
    have hrev : (as.map (mp_tr G)).length = as.length := List.length_map _
    have hstk : (F0 m pc ls ((as.reverse ++ Value.ref k :: st).map (mp_tr G))).stack = (as.map (mp_tr G)).reverse ++ Value.ref (mp_ad G k) :: st.map (mp_tr G) := by
      show (as.reverse ++ Value.ref k :: st).map (mp_tr G) = _
      rw [List.map_append, List.map_reverse]; rfl
    exact va_runSU (hKn.1.1 ci r hr).2 ⟨C.1, C.2.1, C.2.2.2.1, C.2.2.2.2.1, hw⟩ (hc G l C.2.2.2.2.2.2.2.2.2.1) (C := r.1) ⟨⟨rfl, rfl, r1, r2, pay_in hw (mp_good hb), List.mem_cons_self⟩, hw _ hlk, hw _ hsm, hw _ hsu, hw _ hin, hw _ hb.2.1, hcd, hnm, hb.sig⟩ ⟨mp_blind, mp_rcv hKn hW ho hr, mp_pre (as := Value.ref k :: as) hKn hW⟩ rfl hrev hL.1 hstk (lv_room (by rw [mp_catsum]; exact hR.2.2.2.2)) hd ⟨r3, r4⟩
/-- Object's constructor -/
theorem mp_objinit {k : Nat} (hd : mp_dc Y.1 pc (.invokespecial idx) 3 nx) (hs : Cond.methodLink Y.1.1.cls idx Lib.objectInit ∈ mp_gt) (hf : 1 ≤ Y.2.1) (h8 : (st.map fun v => v.category).sum ≤ 8) (kk : mp_At Y K nx L st σ A) : mp_At Y K pc L (Value.ref k :: st) σ A := by
  obtain ⟨hd, rfl⟩ := hd
  intro G p l e Rm s m args below meth c C H locs ls hW hS hL
  have hw := C.2.2.2.2.2.2.2.1
  obtain ⟨-, -, -, -, -, -, -, -, -, -, c1, c2, c3, c4⟩ := id C
  exact W.objInit C.1 C.2.1 C.2.2.2.2.1 (hw _ hs) (hw _ mp_w_oi) (hw _ mp_w_oc) rfl (by rw [C.2.2.2.1]; exact hL.1) rfl hd (by omega) (by show 2 * 0 + ((st.map (mp_tr G)).map fun v => v.category).sum + 12 ≤ Rm.locals; rw [mp_catsum]; omega) (kk G p l e Rm s m args below meth c C H locs ls hW hS hL)
end Calls
