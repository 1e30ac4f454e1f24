/-! ===== bodies that may throw: the rows over a free end ===== -/
abbrev mp_eA : String := "java/lang/IllegalArgumentException"
abbrev mp_eS : String := "java/lang/IllegalStateException"
abbrev mp_eU : String := "java/lang/UnsupportedOperationException"
abbrev mp_dcl : List Cond := [.declares (Bundle.initS "java/lang/RuntimeException"), .declares (Bundle.initS "java/lang/Exception"), .declares (Bundle.initS "java/lang/Throwable")]
/-- which exceptions a handler takes -/
def mp_NC (s : State) : Prop := va_Nw (.castable mp_eA mp_eA) s ∧ va_Nw (.castable mp_eS mp_eS) s ∧ va_Nw (.castable mp_eU mp_eU) s ∧ va_Nc mp_eA mp_eU s ∧ va_Nc mp_eS mp_eU s ∧ va_Nc mp_eA mp_eS s ∧ va_Nc mp_eS mp_eA s ∧ ∀ w ∈ mp_dcl, va_Nw w s
theorem mp_NC.warm {s U : State} (hW : s.WarmedH U.vm) (h : mp_NC s) : mp_NC U := ⟨va_Nw.warmC hW h.1, va_Nw.warmC hW h.2.1, va_Nw.warmC hW h.2.2.1, h.2.2.2.1.moved hW.alike, h.2.2.2.2.1.moved hW.alike, h.2.2.2.2.2.1.moved hW.alike, h.2.2.2.2.2.2.1.moved hW.alike, fun w hw => by
  have h9 := h.2.2.2.2.2.2.2 w hw
  simp only [mp_dcl, List.mem_cons, List.not_mem_nil, or_false] at hw
  rcases hw with rfl | rfl | rfl <;> exact va_Nw.warmD hW h9⟩
theorem mp_NC.calling {U : State} {g : JFrame} {mk : MethodId} {a : Array Value} (h : mp_NC U) : mp_NC (U.calling g mk a) := h.warm (s := U) (U := U.calling g mk a) (State.WarmedH.refl U)
/-- a table of handlers, and what is owed at the end -/
abbrev mp_QX : Type := List ExceptionTableEntry × (mp_G → List Frame → Array Value → State → State → Prop)
def mp_AtX (Y : mp_Y) (K : Nat × Nat) (pc : Nat) (L : List (Option Value)) (st : List Value) (σ : mp_H) (Q : mp_QX) : Prop :=
  ∀ (G : mp_G) (p : Program) (l : Launch) (e : Env) (Rm : Room) (s : State) (m : MethodId) (args : Array Value) (below : List Frame) (meth : Method) (c : Code), mp_Cx G p l Rm s m args meth c Y → (c.exceptionTable.toList = Q.1 ∧ mp_NC s) →
  ∀ (H : Heap) (locs : List Loc) (ls : Array Slot), mp_Wd G σ H → va_S (mp_fr G) s.heap H locs → mp_Lr G L ls Y.1.2.2.1 →
  W p l e Rm s m args below meth c H locs K.1 K.2 (Q.2 G below args s) (F0 m pc ls (st.map (mp_tr G)))
/-- q of class E is thrown at a place -/
def mp_AtT (Y : mp_Y) (K : Nat × Nat) (pc : Nat) (L : List (Option Value)) (E : String) (σ : mp_H) (Q : mp_QX) : Prop :=
  ∀ (G : mp_G) (p : Program) (l : Launch) (e : Env) (Rm : Room) (s : State) (m : MethodId) (args : Array Value) (below : List Frame) (meth : Method) (c : Code), mp_Cx G p l Rm s m args meth c Y → (c.exceptionTable.toList = Q.1 ∧ mp_NC s) →
  ∀ (H : Heap) (locs : List Loc) (ls : Array Slot), mp_Wd G σ H → va_S (mp_fr G) s.heap H locs → mp_Lr G L ls Y.1.2.2.1 →
  ∀ (rest : List Value) (q : Addr) (ce : Cell), H[q]? = some ce → ce.vm = .none → s.vm.findClass E = some ce.cls → vx_W p l e Rm s m args below meth c H locs K.1 K.2 (Q.2 G below args s) (F0 m pc ls rest) q
/-- the end of a body that returns as Rt says or throws as Th says -/
def mp_QcX (G : mp_G) (Rt : mp_An → Prop) : Array Value → State → Outcome → State → Prop := fun a st oc t => ∃ A, Rt A ∧ mp_Qc G A a st oc t
def mp_XC (G : mp_G) (Th : String → mp_H → Prop) : String → State → State → Prop := fun E st t => ∃ τ, Th E τ ∧ mp_Wd G τ t.heap ∧ st.heap.size ≤ t.heap.size
def mp_QB (Y : mp_Y) (tb : List ExceptionTableEntry) (Rt : mp_An → Prop) (Th : String → mp_H → Prop) : mp_QX := (tb, fun G below args s => vx_MQ below (mp_QcX G Rt) (mp_XC G Th) args s Y.2.2.1 Y.2.2.2 (mp_fr G))
/-- THE CONTRACT of a method that may throw, or that has handlers: ws its words -/
def mp_CallX (Y : mp_Y) (ws : List Cond) (as : List Value) (σ : mp_H) (Rt : mp_An → Prop) (Th : String → mp_H → Prop) : Prop := ∀ (G : mp_G) (l : Launch), l.flags = flags0 →
  vx_Met l Y.1.1 ws (mp_rm Y.2.1 Y.2.2.1 Y.2.2.2) (va_Pc (as.map (mp_tr G)) (fun U => (mp_Kn G U ∧ mp_NC U) ∧ mp_Wd G σ U.heap)) (mp_QcX G Rt) (mp_XC G Th) Y.2.2.1 Y.2.2.2 (mp_fr G)
theorem mq_ret {Y : mp_Y} {K : Nat × Nat} {pc : Nat} {L : List (Option Value)} {st : List Value} {σ : mp_H} {A : mp_An} {tb : List ExceptionTableEntry} {Rt : mp_An → Prop} {Th : String → mp_H → Prop} (h : Rt A) (k : mp_At Y K pc L st σ A) : mp_AtX Y K pc L st σ (mp_QB Y tb Rt Th) := by
  intro G p l e Rm s m args below meth c C CT H locs ls hW hS hL T hT X
  obtain ⟨t, s1, o, b1, b2, b3, b4⟩ := k G p l e Rm s m args below meth c C H locs ls hW hS hL T hT X
  exact ⟨t, s1, o, b1, b2, Or.inl ⟨⟨A, h, b3⟩, b4⟩⟩
theorem mq_iconst {Y : mp_Y} {K : Nat × Nat} {pc nx : Nat} {L : List (Option Value)} {st : List Value} {σ : mp_H} {A : mp_QX} {n : Int} (hd : mp_dc Y.1 pc (.iconst n) 1 nx)  (k : mp_AtX Y K nx L (mp_i n :: st) σ A) : mp_AtX Y K pc L (st) σ A := by
  obtain ⟨hd, rfl⟩ := hd
  intro G p l e Rm s m args below meth c C CT H locs ls hW hS hL
  exact lv_iconst C.1 C.2.1 hd rfl (k G p l e Rm s m args below meth c C CT H locs ls hW hS hL)
theorem mq_bipush {Y : mp_Y} {K : Nat × Nat} {pc nx : Nat} {L : List (Option Value)} {st : List Value} {σ : mp_H} {A : mp_QX} {n : Int} (hd : mp_dc Y.1 pc (.bipush n) 2 nx) (hv : (Int8.ofInt n).toInt32 = Int32.ofInt n) (k : mp_AtX Y K nx L (mp_i n :: st) σ A) : mp_AtX Y K pc L (st) σ A := by
  obtain ⟨hd, rfl⟩ := hd
  intro G p l e Rm s m args below meth c C CT H locs ls hW hS hL
  exact lv_bipush C.1 C.2.1 hd hv (k G p l e Rm s m args below meth c C CT H locs ls hW hS hL)
theorem mq_sipush {Y : mp_Y} {K : Nat × Nat} {pc nx : Nat} {L : List (Option Value)} {st : List Value} {σ : mp_H} {A : mp_QX} {n : Int} (hd : mp_dc Y.1 pc (.sipush n) 3 nx) (hv : (Int16.ofInt n).toInt32 = Int32.ofInt n) (k : mp_AtX Y K nx L (mp_i n :: st) σ A) : mp_AtX Y K pc L (st) σ A := by
  obtain ⟨hd, rfl⟩ := hd
  intro G p l e Rm s m args below meth c C CT H locs ls hW hS hL
  exact lv_sipush C.1 C.2.1 hd hv (k G p l e Rm s m args below meth c C CT H locs ls hW hS hL)
theorem mq_ldc {Y : mp_Y} {K : Nat × Nat} {pc nx : Nat} {L : List (Option Value)} {st : List Value} {σ : mp_H} {A : mp_QX} {idx : Nat} {v : Int32} {z : Int} (hd : mp_dc Y.1 pc (.ldc idx) 2 nx) (hw : Cond.constant Y.1.1.cls idx v ∈ mp_gt) (hz : v = Int32.ofInt z) (k : mp_AtX Y K nx L (mp_i z :: st) σ A) : mp_AtX Y K pc L (st) σ A := by
  obtain ⟨hd, rfl⟩ := hd
  intro G p l e Rm s m args below meth c C CT H locs ls hW hS hL
  subst hz
  exact lv_ldc C.1 C.2.1 C.2.2.2.2.1 (C.2.2.2.2.2.2.2.1 _ hw) hd (k G p l e Rm s m args below meth c C CT H locs ls hW hS hL)
theorem mq_ldcw {Y : mp_Y} {K : Nat × Nat} {pc nx : Nat} {L : List (Option Value)} {st : List Value} {σ : mp_H} {A : mp_QX} {idx : Nat} {v : Int32} {z : Int} (hd : mp_dc Y.1 pc (.ldc_w idx) 3 nx) (hw : Cond.constant Y.1.1.cls idx v ∈ mp_gt) (hz : v = Int32.ofInt z) (k : mp_AtX Y K nx L (mp_i z :: st) σ A) : mp_AtX Y K pc L (st) σ A := by
  obtain ⟨hd, rfl⟩ := hd
  intro G p l e Rm s m args below meth c C CT H locs ls hW hS hL
  subst hz
  exact lv_ldcw C.1 C.2.1 C.2.2.2.2.1 (C.2.2.2.2.2.2.2.1 _ hw) hd (k G p l e Rm s m args below meth c C CT H locs ls hW hS hL)
theorem mq_ldc2 {Y : mp_Y} {K : Nat × Nat} {pc nx : Nat} {L : List (Option Value)} {st : List Value} {σ : mp_H} {A : mp_QX} {idx : Nat} {v : Int64} {z : Int} (hd : mp_dc Y.1 pc (.ldc2_w idx) 3 nx) (hw : Cond.constantLong Y.1.1.cls idx v ∈ mp_gt) (hz : v = Int64.ofInt z) (k : mp_AtX Y K nx L (mp_l z :: st) σ A) : mp_AtX Y K pc L (st) σ A := by
  obtain ⟨hd, rfl⟩ := hd
  intro G p l e Rm s m args below meth c C CT H locs ls hW hS hL
  subst hz
  exact lv_ldc2 C.1 C.2.1 C.2.2.2.2.1 (C.2.2.2.2.2.2.2.1 _ hw) hd (k G p l e Rm s m args below meth c C CT H locs ls hW hS hL)
theorem mq_lconst {Y : mp_Y} {K : Nat × Nat} {pc nx : Nat} {L : List (Option Value)} {st : List Value} {σ : mp_H} {A : mp_QX} {n : Fin 2} {z : Int} (hd : mp_dc Y.1 pc (.lconst n) 1 nx) (hz : Int64.ofNat (n : Nat) = Int64.ofInt z) (k : mp_AtX Y K nx L (mp_l z :: st) σ A) : mp_AtX Y K pc L (st) σ A := by
  obtain ⟨hd, rfl⟩ := hd
  intro G p l e Rm s m args below meth c C CT H locs ls hW hS hL
  exact lv_lconst C.1 C.2.1 hd hz (k G p l e Rm s m args below meth c C CT H locs ls hW hS hL)
theorem mq_null {Y : mp_Y} {K : Nat × Nat} {pc nx : Nat} {L : List (Option Value)} {st : List Value} {σ : mp_H} {A : mp_QX}  (hd : mp_dc Y.1 pc (.aconst_null) 1 nx)  (k : mp_AtX Y K nx L (Value.null :: st) σ A) : mp_AtX Y K pc L (st) σ A := by
  obtain ⟨hd, rfl⟩ := hd
  intro G p l e Rm s m args below meth c C CT H locs ls hW hS hL
  exact lv_null C.1 C.2.1 hd (k G p l e Rm s m args below meth c C CT H locs ls hW hS hL)
theorem mq_iload_n {Y : mp_Y} {K : Nat × Nat} {pc nx : Nat} {L : List (Option Value)} {st : List Value} {σ : mp_H} {A : mp_QX} {j : Fin 4} {x : Int32} (hd : mp_dc Y.1 pc (.iload_n j) 1 nx) (hl : L[(j : Nat)]? = some (some (Value.int x))) (k : mp_AtX Y K nx L (Value.int x :: st) σ A) : mp_AtX Y K pc L (st) σ A := by
  obtain ⟨hd, rfl⟩ := hd
  intro G p l e Rm s m args below meth c C CT H locs ls hW hS hL
  exact lv_iload_n C.1 C.2.1 hd rfl (hL.2.2 _ _ hl) (k G p l e Rm s m args below meth c C CT H locs ls hW hS hL)
theorem mq_iload {Y : mp_Y} {K : Nat × Nat} {pc nx : Nat} {L : List (Option Value)} {st : List Value} {σ : mp_H} {A : mp_QX} {j : Nat} {x : Int32} (hd : mp_dc Y.1 pc (.iload j) 2 nx) (hl : L[j]? = some (some (Value.int x))) (k : mp_AtX Y K nx L (Value.int x :: st) σ A) : mp_AtX Y K pc L (st) σ A := by
  obtain ⟨hd, rfl⟩ := hd
  intro G p l e Rm s m args below meth c C CT H locs ls hW hS hL
  exact lv_iload C.1 C.2.1 hd (hL.2.2 _ _ hl) (k G p l e Rm s m args below meth c C CT H locs ls hW hS hL)
theorem mq_lload_n {Y : mp_Y} {K : Nat × Nat} {pc nx : Nat} {L : List (Option Value)} {st : List Value} {σ : mp_H} {A : mp_QX} {j : Fin 4} {x : Int64} (hd : mp_dc Y.1 pc (.lload_n j) 1 nx) (hl : L[(j : Nat)]? = some (some (Value.long x))) (k : mp_AtX Y K nx L (Value.long x :: st) σ A) : mp_AtX Y K pc L (st) σ A := by
  obtain ⟨hd, rfl⟩ := hd
  intro G p l e Rm s m args below meth c C CT H locs ls hW hS hL
  exact lv_lload_n C.1 C.2.1 hd rfl (hL.2.2 _ _ hl) (k G p l e Rm s m args below meth c C CT H locs ls hW hS hL)
theorem mq_lload {Y : mp_Y} {K : Nat × Nat} {pc nx : Nat} {L : List (Option Value)} {st : List Value} {σ : mp_H} {A : mp_QX} {j : Nat} {x : Int64} (hd : mp_dc Y.1 pc (.lload j) 2 nx) (hl : L[j]? = some (some (Value.long x))) (k : mp_AtX Y K nx L (Value.long x :: st) σ A) : mp_AtX Y K pc L (st) σ A := by
  obtain ⟨hd, rfl⟩ := hd
  intro G p l e Rm s m args below meth c C CT H locs ls hW hS hL
  exact lv_lload C.1 C.2.1 hd (hL.2.2 _ _ hl) (k G p l e Rm s m args below meth c C CT H locs ls hW hS hL)
theorem mq_aload_n {Y : mp_Y} {K : Nat × Nat} {pc nx : Nat} {L : List (Option Value)} {st : List Value} {σ : mp_H} {A : mp_QX} {j : Fin 4} {x : Nat} (hd : mp_dc Y.1 pc (.aload_n j) 1 nx) (hl : L[(j : Nat)]? = some (some (Value.ref x))) (k : mp_AtX Y K nx L (Value.ref x :: st) σ A) : mp_AtX Y K pc L (st) σ A := by
  obtain ⟨hd, rfl⟩ := hd
  intro G p l e Rm s m args below meth c C CT H locs ls hW hS hL
  exact lv_aload_n C.1 C.2.1 hd rfl (hL.2.2 _ _ hl) (k G p l e Rm s m args below meth c C CT H locs ls hW hS hL)
theorem mq_aload {Y : mp_Y} {K : Nat × Nat} {pc nx : Nat} {L : List (Option Value)} {st : List Value} {σ : mp_H} {A : mp_QX} {j : Nat} {x : Nat} (hd : mp_dc Y.1 pc (.aload j) 2 nx) (hl : L[j]? = some (some (Value.ref x))) (k : mp_AtX Y K nx L (Value.ref x :: st) σ A) : mp_AtX Y K pc L (st) σ A := by
  obtain ⟨hd, rfl⟩ := hd
  intro G p l e Rm s m args below meth c C CT H locs ls hW hS hL
  exact lv_aload C.1 C.2.1 hd (hL.2.2 _ _ hl) (k G p l e Rm s m args below meth c C CT H locs ls hW hS hL)
theorem mq_aload_nN {Y : mp_Y} {K : Nat × Nat} {pc nx : Nat} {L : List (Option Value)} {st : List Value} {σ : mp_H} {A : mp_QX} {j : Fin 4} (hd : mp_dc Y.1 pc (.aload_n j) 1 nx) (hl : L[(j : Nat)]? = some (some Value.null)) (k : mp_AtX Y K nx L (Value.null :: st) σ A) : mp_AtX Y K pc L st σ A := by
  obtain ⟨hd, rfl⟩ := hd
  intro G p l e Rm s m args below meth c C CT H locs ls hW hS hL
  have hl0 : ls[(j : Nat)]? = some (.val .null) := hL.2.2 _ _ hl
  have k := k G p l e Rm s m args below meth c C CT H locs ls hW hS hL
  intro T hT X
  obtain ⟨t, a, b⟩ := k T hT X
  refine ⟨t, ?_, b⟩
  have hx := C.1
  have hb := C.2.1
  jvm_step X.here [X.here.top, ↓top_set X.here.top, hx, hb, hd, hl0, Value.isRef]
  exact a
theorem mq_aloadN {Y : mp_Y} {K : Nat × Nat} {pc nx : Nat} {L : List (Option Value)} {st : List Value} {σ : mp_H} {A : mp_QX} {j : Nat} (hd : mp_dc Y.1 pc (.aload j) 2 nx) (hl : L[j]? = some (some Value.null)) (k : mp_AtX Y K nx L (Value.null :: st) σ A) : mp_AtX Y K pc L st σ A := by
  obtain ⟨hd, rfl⟩ := hd
  intro G p l e Rm s m args below meth c C CT H locs ls hW hS hL
  have hl0 : ls[j]? = some (.val .null) := hL.2.2 _ _ hl
  have k := k G p l e Rm s m args below meth c C CT H locs ls hW hS hL
  intro T hT X
  obtain ⟨t, a, b⟩ := k T hT X
  refine ⟨t, ?_, b⟩
  have hx := C.1
  have hb := C.2.1
  jvm_step X.here [X.here.top, ↓top_set X.here.top, hx, hb, hd, hl0, Value.isRef]
  exact a
theorem mq_istore_n {Y : mp_Y} {K : Nat × Nat} {pc nx : Nat} {L : List (Option Value)} {st : List Value} {σ : mp_H} {A : mp_QX} {j : Fin 4} {i : Nat} {x : Int32} {L' : List (Option Value)} (hd : mp_dc Y.1 pc (.istore_n j) 1 nx) (hi : (j : Nat) = i) (hn : i < Y.1.2.2.1) (hl : mp_st1 L i (Value.int x) = L') (k : mp_AtX Y K nx L' st σ A) : mp_AtX Y K pc L (Value.int x :: st) σ A := by
  obtain ⟨hd, rfl⟩ := hd
  intro G p l e Rm s m args below meth c C CT H locs ls hW hS hL
  subst hi
  obtain ⟨ls', e', h'⟩ := hL.st1 hn rfl hl
  have e' : storeLocals ls (j : Nat) (Value.int x) = some ls' := e'
  have k := k G p l e Rm s m args below meth c C CT H locs ls' hW hS h'
  intro T hT X
  obtain ⟨t, a, b⟩ := k T hT X
  refine ⟨t, ?_, b⟩
  have hx := C.1
  have hb := C.2.1
  jvm_step X.here [X.here.top, ↓top_set X.here.top, hx, hb, hd, e', mp_tr]
  exact a
theorem mq_istore {Y : mp_Y} {K : Nat × Nat} {pc nx : Nat} {L : List (Option Value)} {st : List Value} {σ : mp_H} {A : mp_QX} {i : Nat} {x : Int32} {L' : List (Option Value)} (hd : mp_dc Y.1 pc (.istore i) 2 nx) (hn : i < Y.1.2.2.1) (hl : mp_st1 L i (Value.int x) = L') (k : mp_AtX Y K nx L' st σ A) : mp_AtX Y K pc L (Value.int x :: st) σ A := by
  obtain ⟨hd, rfl⟩ := hd
  intro G p l e Rm s m args below meth c C CT H locs ls hW hS hL
  obtain ⟨ls', e', h'⟩ := hL.st1 hn rfl hl
  have e' : storeLocals ls i (Value.int x) = some ls' := e'
  have k := k G p l e Rm s m args below meth c C CT H locs ls' hW hS h'
  intro T hT X
  obtain ⟨t, a, b⟩ := k T hT X
  refine ⟨t, ?_, b⟩
  have hx := C.1
  have hb := C.2.1
  jvm_step X.here [X.here.top, ↓top_set X.here.top, hx, hb, hd, e', mp_tr]
  exact a
theorem mq_lstore_n {Y : mp_Y} {K : Nat × Nat} {pc nx : Nat} {L : List (Option Value)} {st : List Value} {σ : mp_H} {A : mp_QX} {j : Fin 4} {i : Nat} {x : Int64} {L' : List (Option Value)} (hd : mp_dc Y.1 pc (.lstore_n j) 1 nx) (hi : (j : Nat) = i) (hn : i + 1 < Y.1.2.2.1) (hl : mp_st2 L i (Value.long x) = L') (k : mp_AtX Y K nx L' st σ A) : mp_AtX Y K pc L (Value.long x :: st) σ A := by
  obtain ⟨hd, rfl⟩ := hd
  intro G p l e Rm s m args below meth c C CT H locs ls hW hS hL
  subst hi
  obtain ⟨ls', e', h'⟩ := hL.st2 hn rfl hl
  have e' : storeLocals ls (j : Nat) (Value.long x) = some ls' := e'
  have k := k G p l e Rm s m args below meth c C CT H locs ls' hW hS h'
  intro T hT X
  obtain ⟨t, a, b⟩ := k T hT X
  refine ⟨t, ?_, b⟩
  have hx := C.1
  have hb := C.2.1
  jvm_step X.here [X.here.top, ↓top_set X.here.top, hx, hb, hd, e', mp_tr]
  exact a
theorem mq_lstore {Y : mp_Y} {K : Nat × Nat} {pc nx : Nat} {L : List (Option Value)} {st : List Value} {σ : mp_H} {A : mp_QX} {i : Nat} {x : Int64} {L' : List (Option Value)} (hd : mp_dc Y.1 pc (.lstore i) 2 nx) (hn : i + 1 < Y.1.2.2.1) (hl : mp_st2 L i (Value.long x) = L') (k : mp_AtX Y K nx L' st σ A) : mp_AtX Y K pc L (Value.long x :: st) σ A := by
  obtain ⟨hd, rfl⟩ := hd
  intro G p l e Rm s m args below meth c C CT H locs ls hW hS hL
  obtain ⟨ls', e', h'⟩ := hL.st2 hn rfl hl
  have e' : storeLocals ls i (Value.long x) = some ls' := e'
  have k := k G p l e Rm s m args below meth c C CT H locs ls' hW hS h'
  intro T hT X
  obtain ⟨t, a, b⟩ := k T hT X
  refine ⟨t, ?_, b⟩
  have hx := C.1
  have hb := C.2.1
  jvm_step X.here [X.here.top, ↓top_set X.here.top, hx, hb, hd, e', mp_tr]
  exact a
theorem mq_astore_n {Y : mp_Y} {K : Nat × Nat} {pc nx : Nat} {L : List (Option Value)} {st : List Value} {σ : mp_H} {A : mp_QX} {j : Fin 4} {i : Nat} {x : Nat} {L' : List (Option Value)} (hd : mp_dc Y.1 pc (.astore_n j) 1 nx) (hi : (j : Nat) = i) (hn : i < Y.1.2.2.1) (hl : mp_st1 L i (Value.ref x) = L') (k : mp_AtX Y K nx L' st σ A) : mp_AtX Y K pc L (Value.ref x :: st) σ A := by
  obtain ⟨hd, rfl⟩ := hd
  intro G p l e Rm s m args below meth c C CT H locs ls hW hS hL
  subst hi
  obtain ⟨ls', e', h'⟩ := hL.st1 hn rfl hl
  have e' : storeLocals ls (j : Nat) (Value.ref (mp_ad G x)) = some ls' := e'
  have k := k G p l e Rm s m args below meth c C CT H locs ls' hW hS h'
  intro T hT X
  obtain ⟨t, a, b⟩ := k T hT X
  refine ⟨t, ?_, b⟩
  have hx := C.1
  have hb := C.2.1
  jvm_step X.here [X.here.top, ↓top_set X.here.top, hx, hb, hd, e', mp_tr]
  exact ⟨rfl, a⟩
theorem mq_astore {Y : mp_Y} {K : Nat × Nat} {pc nx : Nat} {L : List (Option Value)} {st : List Value} {σ : mp_H} {A : mp_QX} {i : Nat} {x : Nat} {L' : List (Option Value)} (hd : mp_dc Y.1 pc (.astore i) 2 nx) (hn : i < Y.1.2.2.1) (hl : mp_st1 L i (Value.ref x) = L') (k : mp_AtX Y K nx L' st σ A) : mp_AtX Y K pc L (Value.ref x :: st) σ A := by
  obtain ⟨hd, rfl⟩ := hd
  intro G p l e Rm s m args below meth c C CT H locs ls hW hS hL
  obtain ⟨ls', e', h'⟩ := hL.st1 hn rfl hl
  have e' : storeLocals ls i (Value.ref (mp_ad G x)) = some ls' := e'
  have k := k G p l e Rm s m args below meth c C CT H locs ls' hW hS h'
  intro T hT X
  obtain ⟨t, a, b⟩ := k T hT X
  refine ⟨t, ?_, b⟩
  have hx := C.1
  have hb := C.2.1
  jvm_step X.here [X.here.top, ↓top_set X.here.top, hx, hb, hd, e', mp_tr]
  exact ⟨rfl, a⟩
theorem mq_astore_nN {Y : mp_Y} {K : Nat × Nat} {pc nx : Nat} {L : List (Option Value)} {st : List Value} {σ : mp_H} {A : mp_QX} {j : Fin 4} {i : Nat}  {L' : List (Option Value)} (hd : mp_dc Y.1 pc (.astore_n j) 1 nx) (hi : (j : Nat) = i) (hn : i < Y.1.2.2.1) (hl : mp_st1 L i (Value.null) = L') (k : mp_AtX Y K nx L' st σ A) : mp_AtX Y K pc L (Value.null :: st) σ A := by
  obtain ⟨hd, rfl⟩ := hd
  intro G p l e Rm s m args below meth c C CT H locs ls hW hS hL
  subst hi
  obtain ⟨ls', e', h'⟩ := hL.st1 hn rfl hl
  have e' : storeLocals ls (j : Nat) (Value.null) = some ls' := e'
  have k := k G p l e Rm s m args below meth c C CT H locs ls' hW hS h'
  intro T hT X
  obtain ⟨t, a, b⟩ := k T hT X
  refine ⟨t, ?_, b⟩
  have hx := C.1
  have hb := C.2.1
  jvm_step X.here [X.here.top, ↓top_set X.here.top, hx, hb, hd, e', mp_tr]
  exact ⟨rfl, a⟩
theorem mq_astoreN {Y : mp_Y} {K : Nat × Nat} {pc nx : Nat} {L : List (Option Value)} {st : List Value} {σ : mp_H} {A : mp_QX} {i : Nat}  {L' : List (Option Value)} (hd : mp_dc Y.1 pc (.astore i) 2 nx) (hn : i < Y.1.2.2.1) (hl : mp_st1 L i (Value.null) = L') (k : mp_AtX Y K nx L' st σ A) : mp_AtX Y K pc L (Value.null :: st) σ A := by
  obtain ⟨hd, rfl⟩ := hd
  intro G p l e Rm s m args below meth c C CT H locs ls hW hS hL
  obtain ⟨ls', e', h'⟩ := hL.st1 hn rfl hl
  have e' : storeLocals ls i (Value.null) = some ls' := e'
  have k := k G p l e Rm s m args below meth c C CT H locs ls' hW hS h'
  intro T hT X
  obtain ⟨t, a, b⟩ := k T hT X
  refine ⟨t, ?_, b⟩
  have hx := C.1
  have hb := C.2.1
  jvm_step X.here [X.here.top, ↓top_set X.here.top, hx, hb, hd, e', mp_tr]
  exact ⟨rfl, a⟩
theorem mq_iinc {Y : mp_Y} {K : Nat × Nat} {pc nx : Nat} {L : List (Option Value)} {st : List Value} {σ : mp_H} {A : mp_QX} {i : Nat} {n x z : Int} {L' : List (Option Value)} (hd : mp_dc Y.1 pc (.iinc i n) 3 nx) (hv : L[i]? = some (some (mp_i x))) (hz : x + n = z) (hn : i < Y.1.2.2.1) (hl : mp_st1 L i (mp_i z) = L') (k : mp_AtX Y K nx L' st σ A) : mp_AtX Y K pc L st σ A := by
  subst hz
  obtain ⟨hd, rfl⟩ := hd
  intro G p l e Rm s m args below meth c C CT H locs ls hW hS hL
  obtain ⟨ls', e', h'⟩ := hL.st1 hn rfl hl
  have e' : storeLocals ls i (.int (Int32.ofInt x + Int32.ofInt n)) = some ls' := by rw [← Int32.ofInt_add]; exact e'
  have hl0 : ls[i]? = some (.val (.int (Int32.ofInt x))) := hL.2.2 _ _ hv
  have k := k G p l e Rm s m args below meth c C CT H locs ls' hW hS h'
  intro T hT X
  obtain ⟨t, a, b⟩ := k T hT X
  refine ⟨t, ?_, b⟩
  have hx := C.1
  have hb := C.2.1
  jvm_step X.here [X.here.top, ↓top_set X.here.top, hx, hb, hd, hl0, e']
  exact a
theorem mq_iadd {Y : mp_Y} {K : Nat × Nat} {pc nx : Nat} {L : List (Option Value)} {st : List Value} {σ : mp_H} {A : mp_QX} {a b z : Int} (hd : mp_dc Y.1 pc (.iadd) 1 nx) (hz : a + b = z) (k : mp_AtX Y K nx L (mp_i z :: st) σ A) : mp_AtX Y K pc L (mp_i b :: mp_i a :: st) σ A := by
  obtain ⟨hd, rfl⟩ := hd
  intro G p l e Rm s m args below meth c C CT H locs ls hW hS hL
  subst hz
  refine lv_iadd C.1 C.2.1 hd ?_
  rw [← Int32.ofInt_add]
  exact (k G p l e Rm s m args below meth c C CT H locs ls hW hS hL)
theorem mq_isub {Y : mp_Y} {K : Nat × Nat} {pc nx : Nat} {L : List (Option Value)} {st : List Value} {σ : mp_H} {A : mp_QX} {a b z : Int} (hd : mp_dc Y.1 pc (.isub) 1 nx) (hz : a - b = z) (k : mp_AtX Y K nx L (mp_i z :: st) σ A) : mp_AtX Y K pc L (mp_i b :: mp_i a :: st) σ A := by
  obtain ⟨hd, rfl⟩ := hd
  intro G p l e Rm s m args below meth c C CT H locs ls hW hS hL
  subst hz
  refine lv_isub C.1 C.2.1 hd ?_
  rw [← Int32.ofInt_sub]
  exact (k G p l e Rm s m args below meth c C CT H locs ls hW hS hL)
theorem mq_imul {Y : mp_Y} {K : Nat × Nat} {pc nx : Nat} {L : List (Option Value)} {st : List Value} {σ : mp_H} {A : mp_QX} {a b z : Int} (hd : mp_dc Y.1 pc (.imul) 1 nx) (hz : a * b = z) (k : mp_AtX Y K nx L (mp_i z :: st) σ A) : mp_AtX Y K pc L (mp_i b :: mp_i a :: st) σ A := by
  obtain ⟨hd, rfl⟩ := hd
  intro G p l e Rm s m args below meth c C CT H locs ls hW hS hL
  subst hz
  refine lv_imul C.1 C.2.1 hd ?_
  rw [← Int32.ofInt_mul]
  exact (k G p l e Rm s m args below meth c C CT H locs ls hW hS hL)
theorem mq_ineg {Y : mp_Y} {K : Nat × Nat} {pc nx : Nat} {L : List (Option Value)} {st : List Value} {σ : mp_H} {A : mp_QX} {a : Int} (hd : mp_dc Y.1 pc (.ineg) 1 nx)  (k : mp_AtX Y K nx L (mp_i (-a) :: st) σ A) : mp_AtX Y K pc L (mp_i a :: st) σ A := by
  obtain ⟨hd, rfl⟩ := hd
  intro G p l e Rm s m args below meth c C CT H locs ls hW hS hL
  refine lv_ineg C.1 C.2.1 hd ?_
  rw [← Int32.ofInt_neg]
  exact (k G p l e Rm s m args below meth c C CT H locs ls hW hS hL)
theorem mq_idiv {Y : mp_Y} {K : Nat × Nat} {pc nx : Nat} {L : List (Option Value)} {st : List Value} {σ : mp_H} {A : mp_QX} {a b z : Int} (hd : mp_dc Y.1 pc (.idiv) 1 nx) (ha : 0 ≤ a ∧ a < 2147483648) (hb : 0 < b ∧ b < 2147483648) (hz : a / b = z) (k : mp_AtX Y K nx L (mp_i z :: st) σ A) : mp_AtX Y K pc L (mp_i b :: mp_i a :: st) σ A := by
  obtain ⟨hd, rfl⟩ := hd
  intro G p l e Rm s m args below meth c C CT H locs ls hW hS hL
  subst hz
  refine lv_idiv C.1 C.2.1 hd (mp_nz hb) ?_
  rw [mp_div ha hb]
  exact (k G p l e Rm s m args below meth c C CT H locs ls hW hS hL)
theorem mq_irem {Y : mp_Y} {K : Nat × Nat} {pc nx : Nat} {L : List (Option Value)} {st : List Value} {σ : mp_H} {A : mp_QX} {a b z : Int} (hd : mp_dc Y.1 pc (.irem) 1 nx) (ha : 0 ≤ a ∧ a < 2147483648) (hb : 0 < b ∧ b < 2147483648) (hz : a % b = z) (k : mp_AtX Y K nx L (mp_i z :: st) σ A) : mp_AtX Y K pc L (mp_i b :: mp_i a :: st) σ A := by
  obtain ⟨hd, rfl⟩ := hd
  intro G p l e Rm s m args below meth c C CT H locs ls hW hS hL
  subst hz
  refine lv_irem C.1 C.2.1 hd (mp_nz hb) ?_
  rw [mp_rem ha hb]
  exact (k G p l e Rm s m args below meth c C CT H locs ls hW hS hL)
theorem mq_ishl {Y : mp_Y} {K : Nat × Nat} {pc nx : Nat} {L : List (Option Value)} {st : List Value} {σ : mp_H} {A : mp_QX} {a b z : Int} (hd : mp_dc Y.1 pc (.ishl) 1 nx) (hz : Int32.ofInt a <<< (Int32.ofInt b &&& 31) = Int32.ofInt z) (k : mp_AtX Y K nx L (mp_i z :: st) σ A) : mp_AtX Y K pc L (mp_i b :: mp_i a :: st) σ A := by
  obtain ⟨hd, rfl⟩ := hd
  intro G p l e Rm s m args below meth c C CT H locs ls hW hS hL
  refine lv_ishl C.1 C.2.1 hd ?_
  rw [hz]
  exact (k G p l e Rm s m args below meth c C CT H locs ls hW hS hL)
theorem mq_ishr {Y : mp_Y} {K : Nat × Nat} {pc nx : Nat} {L : List (Option Value)} {st : List Value} {σ : mp_H} {A : mp_QX} {a b z : Int} (hd : mp_dc Y.1 pc (.ishr) 1 nx) (hz : Int32.ofInt a >>> (Int32.ofInt b &&& 31) = Int32.ofInt z) (k : mp_AtX Y K nx L (mp_i z :: st) σ A) : mp_AtX Y K pc L (mp_i b :: mp_i a :: st) σ A := by
  obtain ⟨hd, rfl⟩ := hd
  intro G p l e Rm s m args below meth c C CT H locs ls hW hS hL
  refine lv_ishr C.1 C.2.1 hd ?_
  rw [hz]
  exact (k G p l e Rm s m args below meth c C CT H locs ls hW hS hL)
theorem mq_iand {Y : mp_Y} {K : Nat × Nat} {pc nx : Nat} {L : List (Option Value)} {st : List Value} {σ : mp_H} {A : mp_QX} {a b z : Int} (hd : mp_dc Y.1 pc (.iand) 1 nx) (hz : Int32.ofInt a &&& Int32.ofInt b = Int32.ofInt z) (k : mp_AtX Y K nx L (mp_i z :: st) σ A) : mp_AtX Y K pc L (mp_i b :: mp_i a :: st) σ A := by
  obtain ⟨hd, rfl⟩ := hd
  intro G p l e Rm s m args below meth c C CT H locs ls hW hS hL
  refine lv_iand C.1 C.2.1 hd ?_
  rw [hz]
  exact (k G p l e Rm s m args below meth c C CT H locs ls hW hS hL)
theorem mq_ior {Y : mp_Y} {K : Nat × Nat} {pc nx : Nat} {L : List (Option Value)} {st : List Value} {σ : mp_H} {A : mp_QX} {a b z : Int} (hd : mp_dc Y.1 pc (.ior) 1 nx) (hz : Int32.ofInt a ||| Int32.ofInt b = Int32.ofInt z) (k : mp_AtX Y K nx L (mp_i z :: st) σ A) : mp_AtX Y K pc L (mp_i b :: mp_i a :: st) σ A := by
  obtain ⟨hd, rfl⟩ := hd
  intro G p l e Rm s m args below meth c C CT H locs ls hW hS hL
  refine lv_ior C.1 C.2.1 hd ?_
  rw [hz]
  exact (k G p l e Rm s m args below meth c C CT H locs ls hW hS hL)
theorem mq_ixor {Y : mp_Y} {K : Nat × Nat} {pc nx : Nat} {L : List (Option Value)} {st : List Value} {σ : mp_H} {A : mp_QX} {a b z : Int} (hd : mp_dc Y.1 pc (.ixor) 1 nx) (hz : Int32.ofInt a ^^^ Int32.ofInt b = Int32.ofInt z) (k : mp_AtX Y K nx L (mp_i z :: st) σ A) : mp_AtX Y K pc L (mp_i b :: mp_i a :: st) σ A := by
  obtain ⟨hd, rfl⟩ := hd
  intro G p l e Rm s m args below meth c C CT H locs ls hW hS hL
  refine lv_ixor C.1 C.2.1 hd ?_
  rw [hz]
  exact (k G p l e Rm s m args below meth c C CT H locs ls hW hS hL)
theorem mq_iushr {Y : mp_Y} {K : Nat × Nat} {pc nx : Nat} {L : List (Option Value)} {st : List Value} {σ : mp_H} {A : mp_QX} {a b z : Int} (hd : mp_dc Y.1 pc (.iushr) 1 nx) (hz : ((Int32.ofInt a).toUInt32 >>> ((Int32.ofInt b).toUInt32 &&& Int32.toUInt32 31)).toInt32 = Int32.ofInt z) (k : mp_AtX Y K nx L (mp_i z :: st) σ A) : mp_AtX Y K pc L (mp_i b :: mp_i a :: st) σ A := by
  obtain ⟨hd, rfl⟩ := hd
  intro G p l e Rm s m args below meth c C CT H locs ls hW hS hL
  exact lv_iushr C.1 C.2.1 hd hz (k G p l e Rm s m args below meth c C CT H locs ls hW hS hL)
theorem mq_i2l {Y : mp_Y} {K : Nat × Nat} {pc nx : Nat} {L : List (Option Value)} {st : List Value} {σ : mp_H} {A : mp_QX} {a : Int} (hd : mp_dc Y.1 pc (.i2l) 1 nx) (ha : mp_rg a) (k : mp_AtX Y K nx L (mp_l a :: st) σ A) : mp_AtX Y K pc L (mp_i a :: st) σ A := by
  obtain ⟨hd, rfl⟩ := hd
  intro G p l e Rm s m args below meth c C CT H locs ls hW hS hL
  exact lv_i2l C.1 C.2.1 hd (Int32.toInt64_ofInt (by have := ha.1; rw [Int32.toInt_minValue]; omega) (by have := ha.2; rw [Int32.toInt_maxValue]; omega)) (k G p l e Rm s m args below meth c C CT H locs ls hW hS hL)
theorem mq_i2b {Y : mp_Y} {K : Nat × Nat} {pc nx : Nat} {L : List (Option Value)} {st : List Value} {σ : mp_H} {A : mp_QX} {a z : Int} (hd : mp_dc Y.1 pc (.i2b) 1 nx) (hz : (Int32.ofInt a).toInt8.toInt32 = Int32.ofInt z) (k : mp_AtX Y K nx L (mp_i z :: st) σ A) : mp_AtX Y K pc L (mp_i a :: st) σ A := by
  obtain ⟨hd, rfl⟩ := hd
  intro G p l e Rm s m args below meth c C CT H locs ls hW hS hL
  exact lv_i2b C.1 C.2.1 hd hz (k G p l e Rm s m args below meth c C CT H locs ls hW hS hL)
theorem mq_i2s {Y : mp_Y} {K : Nat × Nat} {pc nx : Nat} {L : List (Option Value)} {st : List Value} {σ : mp_H} {A : mp_QX} {a z : Int} (hd : mp_dc Y.1 pc (.i2s) 1 nx) (hz : (Int32.ofInt a).toInt16.toInt32 = Int32.ofInt z) (k : mp_AtX Y K nx L (mp_i z :: st) σ A) : mp_AtX Y K pc L (mp_i a :: st) σ A := by
  obtain ⟨hd, rfl⟩ := hd
  intro G p l e Rm s m args below meth c C CT H locs ls hW hS hL
  exact lv_i2s C.1 C.2.1 hd hz (k G p l e Rm s m args below meth c C CT H locs ls hW hS hL)
theorem mq_ladd {Y : mp_Y} {K : Nat × Nat} {pc nx : Nat} {L : List (Option Value)} {st : List Value} {σ : mp_H} {A : mp_QX} {a b z : Int} (hd : mp_dc Y.1 pc (.ladd) 1 nx) (hz : a + b = z) (k : mp_AtX Y K nx L (mp_l z :: st) σ A) : mp_AtX Y K pc L (mp_l b :: mp_l a :: st) σ A := by
  obtain ⟨hd, rfl⟩ := hd
  intro G p l e Rm s m args below meth c C CT H locs ls hW hS hL
  subst hz
  refine lv_ladd C.1 C.2.1 hd ?_
  rw [← Int64.ofInt_add]
  exact (k G p l e Rm s m args below meth c C CT H locs ls hW hS hL)
theorem mq_lmul {Y : mp_Y} {K : Nat × Nat} {pc nx : Nat} {L : List (Option Value)} {st : List Value} {σ : mp_H} {A : mp_QX} {a b z : Int} (hd : mp_dc Y.1 pc (.lmul) 1 nx) (hz : a * b = z) (k : mp_AtX Y K nx L (mp_l z :: st) σ A) : mp_AtX Y K pc L (mp_l b :: mp_l a :: st) σ A := by
  obtain ⟨hd, rfl⟩ := hd
  intro G p l e Rm s m args below meth c C CT H locs ls hW hS hL
  subst hz
  refine lv_lmul C.1 C.2.1 hd ?_
  rw [← Int64.ofInt_mul]
  exact (k G p l e Rm s m args below meth c C CT H locs ls hW hS hL)
theorem mq_ldivr {Y : mp_Y} {K : Nat × Nat} {pc nx : Nat} {L : List (Option Value)} {st : List Value} {σ : mp_H} {A : mp_QX} {a b z : Int} (hd : mp_dc Y.1 pc (.ldiv) 1 nx) (ha : 0 ≤ a ∧ a < 9223372036854775808) (hb : 0 < b ∧ b < 9223372036854775808) (hz : a / b = z) (k : mp_AtX Y K nx L (mp_l z :: st) σ A) : mp_AtX Y K pc L (mp_l b :: mp_l a :: st) σ A := by
  obtain ⟨hd, rfl⟩ := hd
  intro G p l e Rm s m args below meth c C CT H locs ls hW hS hL
  subst hz
  refine lv_ldiv C.1 C.2.1 hd (mp_lnz hb) ?_
  rw [mp_ldiv ha hb]
  exact (k G p l e Rm s m args below meth c C CT H locs ls hW hS hL)
theorem mq_lremr {Y : mp_Y} {K : Nat × Nat} {pc nx : Nat} {L : List (Option Value)} {st : List Value} {σ : mp_H} {A : mp_QX} {a b z : Int} (hd : mp_dc Y.1 pc (.lrem) 1 nx) (ha : 0 ≤ a ∧ a < 9223372036854775808) (hb : 0 < b ∧ b < 9223372036854775808) (hz : a % b = z) (k : mp_AtX Y K nx L (mp_l z :: st) σ A) : mp_AtX Y K pc L (mp_l b :: mp_l a :: st) σ A := by
  obtain ⟨hd, rfl⟩ := hd
  intro G p l e Rm s m args below meth c C CT H locs ls hW hS hL
  subst hz
  refine lv_lrem C.1 C.2.1 hd (mp_lnz hb) ?_
  rw [mp_lrem ha hb]
  exact (k G p l e Rm s m args below meth c C CT H locs ls hW hS hL)
theorem mq_lcmp {Y : mp_Y} {K : Nat × Nat} {pc nx : Nat} {L : List (Option Value)} {st : List Value} {σ : mp_H} {A : mp_QX} {x y : Int64} (hd : mp_dc Y.1 pc (.lcmp) 1 nx)  (k : mp_AtX Y K nx L (Value.int (lg_cmp x y) :: st) σ A) : mp_AtX Y K pc L (Value.long y :: Value.long x :: st) σ A := by
  obtain ⟨hd, rfl⟩ := hd
  intro G p l e Rm s m args below meth c C CT H locs ls hW hS hL
  exact W.lcmp C.1 C.2.1 hd (k G p l e Rm s m args below meth c C CT H locs ls hW hS hL)
theorem mq_dup {Y : mp_Y} {K : Nat × Nat} {pc nx : Nat} {L : List (Option Value)} {st : List Value} {σ : mp_H} {A : mp_QX} {v : Value} (hd : mp_dc Y.1 pc (.dup) 1 nx) (hc : v.category = 1) (k : mp_AtX Y K nx L (v :: v :: st) σ A) : mp_AtX Y K pc L (v :: st) σ A := by
  obtain ⟨hd, rfl⟩ := hd
  intro G p l e Rm s m args below meth c C CT H locs ls hW hS hL
  exact lv_dup C.1 C.2.1 hd (by rw [mp_cat]; exact hc) (k G p l e Rm s m args below meth c C CT H locs ls hW hS hL)
theorem mq_dup2 {Y : mp_Y} {K : Nat × Nat} {pc nx : Nat} {L : List (Option Value)} {st : List Value} {σ : mp_H} {A : mp_QX} {v w : Value} (hd : mp_dc Y.1 pc (.dup2) 1 nx) (hc : v.category = 1) (hc2 : w.category = 1) (k : mp_AtX Y K nx L (v :: w :: v :: w :: st) σ A) : mp_AtX Y K pc L (v :: w :: st) σ A := by
  obtain ⟨hd, rfl⟩ := hd
  intro G p l e Rm s m args below meth c C CT H locs ls hW hS hL
  exact lv_dup2_11 C.1 C.2.1 hd (by rw [mp_cat]; exact hc) (by rw [mp_cat]; exact hc2) (k G p l e Rm s m args below meth c C CT H locs ls hW hS hL)
theorem mq_pop {Y : mp_Y} {K : Nat × Nat} {pc nx : Nat} {L : List (Option Value)} {st : List Value} {σ : mp_H} {A : mp_QX} {v : Value} (hd : mp_dc Y.1 pc (.pop) 1 nx) (hc : v.category = 1) (k : mp_AtX Y K nx L (st) σ A) : mp_AtX Y K pc L (v :: st) σ A := by
  obtain ⟨hd, rfl⟩ := hd
  intro G p l e Rm s m args below meth c C CT H locs ls hW hS hL
  exact lv_pop C.1 C.2.1 hd (by rw [mp_cat]; exact hc) (k G p l e Rm s m args below meth c C CT H locs ls hW hS hL)
theorem mq_icmp_eq {Y : mp_Y} {K : Nat × Nat} {pc nx : Nat} {L : List (Option Value)} {st : List Value} {σ : mp_H} {A : mp_QX} {a b : Int} {off : Int} {tgt : Nat} (hd : mp_dc Y.1 pc (.if_icmp .eq off) 3 nx) (ht : (pc : Int) + off = (tgt : Int)) (ha : mp_rg a) (hb : mp_rg b) (k1 : a = b → mp_AtX Y K tgt L st σ A) (k2 : ¬ a = b → mp_AtX Y K nx L st σ A) : mp_AtX Y K pc L (mp_i b :: mp_i a :: st) σ A := by
  obtain ⟨hd, rfl⟩ := hd
  intro G p l e Rm s m args below meth c C CT H locs ls hW hS hL
  exact lv_icmp_eq C.1 C.2.1 hd ht (fun h => k1 ((mp_eq ha hb).mp h) G p l e Rm s m args below meth c C CT H locs ls hW hS hL) (fun h => k2 (fun z => h ((mp_eq ha hb).mpr z)) G p l e Rm s m args below meth c C CT H locs ls hW hS hL)
theorem mq_icmp_lt {Y : mp_Y} {K : Nat × Nat} {pc nx : Nat} {L : List (Option Value)} {st : List Value} {σ : mp_H} {A : mp_QX} {a b : Int} {off : Int} {tgt : Nat} (hd : mp_dc Y.1 pc (.if_icmp .lt off) 3 nx) (ht : (pc : Int) + off = (tgt : Int)) (ha : mp_rg a) (hb : mp_rg b) (k1 : a < b → mp_AtX Y K tgt L st σ A) (k2 : ¬ a < b → mp_AtX Y K nx L st σ A) : mp_AtX Y K pc L (mp_i b :: mp_i a :: st) σ A := by
  obtain ⟨hd, rfl⟩ := hd
  intro G p l e Rm s m args below meth c C CT H locs ls hW hS hL
  exact lv_icmp_lt C.1 C.2.1 hd ht (fun h => k1 ((mp_lt ha hb).mp h) G p l e Rm s m args below meth c C CT H locs ls hW hS hL) (fun h => k2 (fun z => h ((mp_lt ha hb).mpr z)) G p l e Rm s m args below meth c C CT H locs ls hW hS hL)
theorem mq_icmp_ge {Y : mp_Y} {K : Nat × Nat} {pc nx : Nat} {L : List (Option Value)} {st : List Value} {σ : mp_H} {A : mp_QX} {a b : Int} {off : Int} {tgt : Nat} (hd : mp_dc Y.1 pc (.if_icmp .ge off) 3 nx) (ht : (pc : Int) + off = (tgt : Int)) (ha : mp_rg a) (hb : mp_rg b) (k1 : b ≤ a → mp_AtX Y K tgt L st σ A) (k2 : ¬ b ≤ a → mp_AtX Y K nx L st σ A) : mp_AtX Y K pc L (mp_i b :: mp_i a :: st) σ A := by
  obtain ⟨hd, rfl⟩ := hd
  intro G p l e Rm s m args below meth c C CT H locs ls hW hS hL
  exact lv_icmp_ge C.1 C.2.1 hd ht (fun h => k1 ((mp_le hb ha).mp h) G p l e Rm s m args below meth c C CT H locs ls hW hS hL) (fun h => k2 (fun z => h ((mp_le hb ha).mpr z)) G p l e Rm s m args below meth c C CT H locs ls hW hS hL)
theorem mq_icmp_gt {Y : mp_Y} {K : Nat × Nat} {pc nx : Nat} {L : List (Option Value)} {st : List Value} {σ : mp_H} {A : mp_QX} {a b : Int} {off : Int} {tgt : Nat} (hd : mp_dc Y.1 pc (.if_icmp .gt off) 3 nx) (ht : (pc : Int) + off = (tgt : Int)) (ha : mp_rg a) (hb : mp_rg b) (k1 : b < a → mp_AtX Y K tgt L st σ A) (k2 : ¬ b < a → mp_AtX Y K nx L st σ A) : mp_AtX Y K pc L (mp_i b :: mp_i a :: st) σ A := by
  obtain ⟨hd, rfl⟩ := hd
  intro G p l e Rm s m args below meth c C CT H locs ls hW hS hL
  exact lv_icmp_gt C.1 C.2.1 hd ht (fun h => k1 ((mp_lt hb ha).mp h) G p l e Rm s m args below meth c C CT H locs ls hW hS hL) (fun h => k2 (fun z => h ((mp_lt hb ha).mpr z)) G p l e Rm s m args below meth c C CT H locs ls hW hS hL)
theorem mq_icmp_le {Y : mp_Y} {K : Nat × Nat} {pc nx : Nat} {L : List (Option Value)} {st : List Value} {σ : mp_H} {A : mp_QX} {a b : Int} {off : Int} {tgt : Nat} (hd : mp_dc Y.1 pc (.if_icmp .le off) 3 nx) (ht : (pc : Int) + off = (tgt : Int)) (ha : mp_rg a) (hb : mp_rg b) (k1 : a ≤ b → mp_AtX Y K tgt L st σ A) (k2 : ¬ a ≤ b → mp_AtX Y K nx L st σ A) : mp_AtX Y K pc L (mp_i b :: mp_i a :: st) σ A := by
  obtain ⟨hd, rfl⟩ := hd
  intro G p l e Rm s m args below meth c C CT H locs ls hW hS hL
  exact lv_icmp_le C.1 C.2.1 hd ht (fun h => k1 ((mp_le ha hb).mp h) G p l e Rm s m args below meth c C CT H locs ls hW hS hL) (fun h => k2 (fun z => h ((mp_le ha hb).mpr z)) G p l e Rm s m args below meth c C CT H locs ls hW hS hL)
theorem mq_icmp_ne {Y : mp_Y} {K : Nat × Nat} {pc nx : Nat} {L : List (Option Value)} {st : List Value} {σ : mp_H} {A : mp_QX} {a b : Int} {off : Int} {tgt : Nat} (hd : mp_dc Y.1 pc (.if_icmp .ne off) 3 nx) (ht : (pc : Int) + off = (tgt : Int)) (ha : mp_rg a) (hb : mp_rg b) (k1 : ¬ a = b → mp_AtX Y K tgt L st σ A) (k2 : a = b → mp_AtX Y K nx L st σ A) : mp_AtX Y K pc L (mp_i b :: mp_i a :: st) σ A := by
  obtain ⟨hd, rfl⟩ := hd
  intro G p l e Rm s m args below meth c C CT H locs ls hW hS hL
  exact lv_icmp_ne C.1 C.2.1 hd ht (fun h => k1 (fun z => h ((mp_eq ha hb).mpr z)) G p l e Rm s m args below meth c C CT H locs ls hW hS hL) (fun h => k2 ((mp_eq ha hb).mp h) G p l e Rm s m args below meth c C CT H locs ls hW hS hL)
theorem mq_if_eq {Y : mp_Y} {K : Nat × Nat} {pc nx : Nat} {L : List (Option Value)} {st : List Value} {σ : mp_H} {A : mp_QX} {a : Int} {off : Int} {tgt : Nat} (hd : mp_dc Y.1 pc (.ifCond .eq off) 3 nx) (ht : (pc : Int) + off = (tgt : Int)) (ha : mp_rg a) (k1 : a = 0 → mp_AtX Y K tgt L st σ A) (k2 : ¬ a = 0 → mp_AtX Y K nx L st σ A) : mp_AtX Y K pc L (mp_i a :: st) σ A := by
  obtain ⟨hd, rfl⟩ := hd
  intro G p l e Rm s m args below meth c C CT H locs ls hW hS hL
  exact lv_if_eq C.1 C.2.1 hd ht (fun h => k1 ((mp_eq ha mp_rg0).mp h) G p l e Rm s m args below meth c C CT H locs ls hW hS hL) (fun h => k2 (fun z => h ((mp_eq ha mp_rg0).mpr z)) G p l e Rm s m args below meth c C CT H locs ls hW hS hL)
theorem mq_if_lt {Y : mp_Y} {K : Nat × Nat} {pc nx : Nat} {L : List (Option Value)} {st : List Value} {σ : mp_H} {A : mp_QX} {a : Int} {off : Int} {tgt : Nat} (hd : mp_dc Y.1 pc (.ifCond .lt off) 3 nx) (ht : (pc : Int) + off = (tgt : Int)) (ha : mp_rg a) (k1 : a < 0 → mp_AtX Y K tgt L st σ A) (k2 : ¬ a < 0 → mp_AtX Y K nx L st σ A) : mp_AtX Y K pc L (mp_i a :: st) σ A := by
  obtain ⟨hd, rfl⟩ := hd
  intro G p l e Rm s m args below meth c C CT H locs ls hW hS hL
  exact lv_if_lt C.1 C.2.1 hd ht (fun h => k1 ((mp_lt ha mp_rg0).mp h) G p l e Rm s m args below meth c C CT H locs ls hW hS hL) (fun h => k2 (fun z => h ((mp_lt ha mp_rg0).mpr z)) G p l e Rm s m args below meth c C CT H locs ls hW hS hL)
theorem mq_if_ge {Y : mp_Y} {K : Nat × Nat} {pc nx : Nat} {L : List (Option Value)} {st : List Value} {σ : mp_H} {A : mp_QX} {a : Int} {off : Int} {tgt : Nat} (hd : mp_dc Y.1 pc (.ifCond .ge off) 3 nx) (ht : (pc : Int) + off = (tgt : Int)) (ha : mp_rg a) (k1 : 0 ≤ a → mp_AtX Y K tgt L st σ A) (k2 : ¬ 0 ≤ a → mp_AtX Y K nx L st σ A) : mp_AtX Y K pc L (mp_i a :: st) σ A := by
  obtain ⟨hd, rfl⟩ := hd
  intro G p l e Rm s m args below meth c C CT H locs ls hW hS hL
  exact lv_if_ge C.1 C.2.1 hd ht (fun h => k1 ((mp_le mp_rg0 ha).mp h) G p l e Rm s m args below meth c C CT H locs ls hW hS hL) (fun h => k2 (fun z => h ((mp_le mp_rg0 ha).mpr z)) G p l e Rm s m args below meth c C CT H locs ls hW hS hL)
theorem mq_if_gt {Y : mp_Y} {K : Nat × Nat} {pc nx : Nat} {L : List (Option Value)} {st : List Value} {σ : mp_H} {A : mp_QX} {a : Int} {off : Int} {tgt : Nat} (hd : mp_dc Y.1 pc (.ifCond .gt off) 3 nx) (ht : (pc : Int) + off = (tgt : Int)) (ha : mp_rg a) (k1 : 0 < a → mp_AtX Y K tgt L st σ A) (k2 : ¬ 0 < a → mp_AtX Y K nx L st σ A) : mp_AtX Y K pc L (mp_i a :: st) σ A := by
  obtain ⟨hd, rfl⟩ := hd
  intro G p l e Rm s m args below meth c C CT H locs ls hW hS hL
  exact lv_if_gt C.1 C.2.1 hd ht (fun h => k1 ((mp_lt mp_rg0 ha).mp h) G p l e Rm s m args below meth c C CT H locs ls hW hS hL) (fun h => k2 (fun z => h ((mp_lt mp_rg0 ha).mpr z)) G p l e Rm s m args below meth c C CT H locs ls hW hS hL)
theorem mq_if_le {Y : mp_Y} {K : Nat × Nat} {pc nx : Nat} {L : List (Option Value)} {st : List Value} {σ : mp_H} {A : mp_QX} {a : Int} {off : Int} {tgt : Nat} (hd : mp_dc Y.1 pc (.ifCond .le off) 3 nx) (ht : (pc : Int) + off = (tgt : Int)) (ha : mp_rg a) (k1 : a ≤ 0 → mp_AtX Y K tgt L st σ A) (k2 : ¬ a ≤ 0 → mp_AtX Y K nx L st σ A) : mp_AtX Y K pc L (mp_i a :: st) σ A := by
  obtain ⟨hd, rfl⟩ := hd
  intro G p l e Rm s m args below meth c C CT H locs ls hW hS hL
  exact lv_if_le C.1 C.2.1 hd ht (fun h => k1 ((mp_le ha mp_rg0).mp h) G p l e Rm s m args below meth c C CT H locs ls hW hS hL) (fun h => k2 (fun z => h ((mp_le ha mp_rg0).mpr z)) G p l e Rm s m args below meth c C CT H locs ls hW hS hL)
theorem mq_if_ne {Y : mp_Y} {K : Nat × Nat} {pc nx : Nat} {L : List (Option Value)} {st : List Value} {σ : mp_H} {A : mp_QX} {a : Int} {off : Int} {tgt : Nat} (hd : mp_dc Y.1 pc (.ifCond .ne off) 3 nx) (ht : (pc : Int) + off = (tgt : Int)) (ha : mp_rg a) (k1 : ¬ a = 0 → mp_AtX Y K tgt L st σ A) (k2 : a = 0 → mp_AtX Y K nx L st σ A) : mp_AtX Y K pc L (mp_i a :: st) σ A := by
  obtain ⟨hd, rfl⟩ := hd
  intro G p l e Rm s m args below meth c C CT H locs ls hW hS hL
  exact lv_if_ne C.1 C.2.1 hd ht (fun h => k1 (fun z => h ((mp_eq ha mp_rg0).mpr z)) G p l e Rm s m args below meth c C CT H locs ls hW hS hL) (fun h => k2 ((mp_eq ha mp_rg0).mp h) G p l e Rm s m args below meth c C CT H locs ls hW hS hL)
theorem mq_ifb_eq {Y : mp_Y} {K : Nat × Nat} {pc nx : Nat} {L : List (Option Value)} {st : List Value} {σ : mp_H} {A : mp_QX} {q : Prop} [Decidable q] {off : Int} {tgt : Nat} (hd : mp_dc Y.1 pc (.ifCond .eq off) 3 nx) (ht : (pc : Int) + off = (tgt : Int))  (k1 : ¬ q → mp_AtX Y K tgt L st σ A) (k2 : q → mp_AtX Y K nx L st σ A) : mp_AtX Y K pc L (mp_i (if q then 1 else 0) :: st) σ A := by
  obtain ⟨hd, rfl⟩ := hd
  intro G p l e Rm s m args below meth c C CT H locs ls hW hS hL
  exact lv_if_eq C.1 C.2.1 hd ht (fun h => k1 (mp_b0 h) G p l e Rm s m args below meth c C CT H locs ls hW hS hL) (fun h => k2 (mp_b1 h) G p l e Rm s m args below meth c C CT H locs ls hW hS hL)
theorem mq_ifb_ne {Y : mp_Y} {K : Nat × Nat} {pc nx : Nat} {L : List (Option Value)} {st : List Value} {σ : mp_H} {A : mp_QX} {q : Prop} [Decidable q] {off : Int} {tgt : Nat} (hd : mp_dc Y.1 pc (.ifCond .ne off) 3 nx) (ht : (pc : Int) + off = (tgt : Int))  (k1 : q → mp_AtX Y K tgt L st σ A) (k2 : ¬ q → mp_AtX Y K nx L st σ A) : mp_AtX Y K pc L (mp_i (if q then 1 else 0) :: st) σ A := by
  obtain ⟨hd, rfl⟩ := hd
  intro G p l e Rm s m args below meth c C CT H locs ls hW hS hL
  exact lv_if_ne C.1 C.2.1 hd ht (fun h => k1 (mp_b1 h) G p l e Rm s m args below meth c C CT H locs ls hW hS hL) (fun h => k2 (mp_b0 h) G p l e Rm s m args below meth c C CT H locs ls hW hS hL)
theorem mq_goto {Y : mp_Y} {K : Nat × Nat} {pc nx : Nat} {L : List (Option Value)} {st : List Value} {σ : mp_H} {A : mp_QX} {off : Int} {tgt : Nat} (hd : mp_dc Y.1 pc (.goto off) 3 nx) (ht : (pc : Int) + off = (tgt : Int)) (k : mp_AtX Y K tgt L st σ A) : mp_AtX Y K pc L st σ A := by
  obtain ⟨hd, rfl⟩ := hd
  intro G p l e Rm s m args below meth c C CT H locs ls hW hS hL
  exact lv_goto C.1 C.2.1 hd ht (k G p l e Rm s m args below meth c C CT H locs ls hW hS hL)
theorem mq_ifnull_r {Y : mp_Y} {K : Nat × Nat} {pc nx : Nat} {L : List (Option Value)} {st : List Value} {σ : mp_H} {A : mp_QX} {x : Nat} {off : Int} (hd : mp_dc Y.1 pc (.ifnull off) 3 nx) (k : mp_AtX Y K nx L st σ A) : mp_AtX Y K pc L (Value.ref x :: st) σ A := by
  obtain ⟨hd, rfl⟩ := hd
  intro G p l e Rm s m args below meth c C CT H locs ls hW hS hL
  exact lv_ifnull C.1 C.2.1 hd (k G p l e Rm s m args below meth c C CT H locs ls hW hS hL)
theorem mq_ifnull_n {Y : mp_Y} {K : Nat × Nat} {pc nx : Nat} {L : List (Option Value)} {st : List Value} {σ : mp_H} {A : mp_QX} {off : Int} {tgt : Nat} (hd : mp_dc Y.1 pc (.ifnull off) 3 nx) (ht : (pc : Int) + off = (tgt : Int)) (k : mp_AtX Y K tgt L st σ A) : mp_AtX Y K pc L (Value.null :: st) σ A := by
  obtain ⟨hd, rfl⟩ := hd
  intro G p l e Rm s m args below meth c C CT H locs ls hW hS hL
  exact lv_ifnullN C.1 C.2.1 hd ht (k G p l e Rm s m args below meth c C CT H locs ls hW hS hL)
theorem mq_ifnonnull_r {Y : mp_Y} {K : Nat × Nat} {pc nx : Nat} {L : List (Option Value)} {st : List Value} {σ : mp_H} {A : mp_QX} {x : Nat} {off : Int} {tgt : Nat} (hd : mp_dc Y.1 pc (.ifnonnull off) 3 nx) (ht : (pc : Int) + off = (tgt : Int)) (k : mp_AtX Y K tgt L st σ A) : mp_AtX Y K pc L (Value.ref x :: st) σ A := by
  obtain ⟨hd, rfl⟩ := hd
  intro G p l e Rm s m args below meth c C CT H locs ls hW hS hL
  exact lv_ifnonnull C.1 C.2.1 hd ht (k G p l e Rm s m args below meth c C CT H locs ls hW hS hL)
theorem mq_ifnonnull_n {Y : mp_Y} {K : Nat × Nat} {pc nx : Nat} {L : List (Option Value)} {st : List Value} {σ : mp_H} {A : mp_QX} {off : Int} (hd : mp_dc Y.1 pc (.ifnonnull off) 3 nx) (k : mp_AtX Y K nx L st σ A) : mp_AtX Y K pc L (Value.null :: st) σ A := by
  obtain ⟨hd, rfl⟩ := hd
  intro G p l e Rm s m args below meth c C CT H locs ls hW hS hL
  exact lv_ifnonnullN C.1 C.2.1 hd (k G p l e Rm s m args below meth c C CT H locs ls hW hS hL)
theorem mq_tableIn {Y : mp_Y} {K : Nat × Nat} {pc nx : Nat} {L : List (Option Value)} {st : List Value} {σ : mp_H} {A : mp_QX} {dflt lo hi : Int} {offs : Array Int} {len : Nat} {x off : Int} {tgt : Nat} (hd : mp_dc Y.1 pc (.tableswitch dflt lo hi offs) len nx) (hx : mp_rg x) (h1 : lo ≤ x) (h2 : x ≤ hi) (ho : offs[(x - lo).toNat]? = some off) (ht : (pc : Int) + off = (tgt : Int)) (k : mp_AtX Y K tgt L st σ A) : mp_AtX Y K pc L (mp_i x :: st) σ A := by
  obtain ⟨hd, rfl⟩ := hd
  intro G p l e Rm s m args below meth c C CT H locs ls hW hS hL
  exact lv_tableIn C.1 C.2.1 hd (by rw [mp_toInt hx]; omega) (by rw [mp_toInt hx]; omega) (by rw [mp_toInt hx]; exact ho) ht (k G p l e Rm s m args below meth c C CT H locs ls hW hS hL)
theorem mq_tableOut {Y : mp_Y} {K : Nat × Nat} {pc nx : Nat} {L : List (Option Value)} {st : List Value} {σ : mp_H} {A : mp_QX} {dflt lo hi : Int} {offs : Array Int} {len : Nat} {x : Int} {tgt : Nat} (hd : mp_dc Y.1 pc (.tableswitch dflt lo hi offs) len nx) (hx : mp_rg x) (h : x < lo ∨ hi < x) (ht : (pc : Int) + dflt = (tgt : Int)) (k : mp_AtX Y K tgt L st σ A) : mp_AtX Y K pc L (mp_i x :: st) σ A := by
  obtain ⟨hd, rfl⟩ := hd
  intro G p l e Rm s m args below meth c C CT H locs ls hW hS hL
  exact lv_tableOut C.1 C.2.1 hd (by rw [mp_toInt hx]; exact h) ht (k G p l e Rm s m args below meth c C CT H locs ls hW hS hL)
theorem mq_lookup {Y : mp_Y} {K : Nat × Nat} {pc nx : Nat} {L : List (Option Value)} {st : List Value} {σ : mp_H} {A : mp_QX} {dflt : Int} {ps : Array (Int × Int)} {len : Nat} {x off : Int} {tgt : Nat} (hd : mp_dc Y.1 pc (.lookupswitch dflt ps) len nx) (hx : mp_rg x) (hp : (ps.toList.zip (ps.toList.drop 1)).all (fun (a, next) => a.1 < next.1) = true) (ho : Op.lookupswitch.offset ps.toList dflt x = off) (ht : (pc : Int) + off = (tgt : Int)) (k : mp_AtX Y K tgt L st σ A) : mp_AtX Y K pc L (mp_i x :: st) σ A := by
  obtain ⟨hd, rfl⟩ := hd
  intro G p l e Rm s m args below meth c C CT H locs ls hW hS hL
  exact lv_lookup C.1 C.2.1 hd hp (by rw [mp_toInt hx]; exact ho) ht (k G p l e Rm s m args below meth c C CT H locs ls hW hS hL)
section Rows
variable {Y : mp_Y} {K : Nat × Nat} {pc nx : Nat} {L : List (Option Value)} {st : List Value} {σ : mp_H} {A : mp_QX}
theorem mq_iaload {k n : Nat} {f : Nat → Int} {i : Int} (hd : mp_dc Y.1 pc .iaload 1 nx) (hs : σ[k]? = some (mp_I n f)) (hi : 0 ≤ i ∧ i < (n : Int)) (hn : n ≤ 2147483647) (kk : mp_AtX Y K nx L (mp_i (f i.toNat) :: st) σ A) : mp_AtX Y K pc L (mp_i i :: Value.ref k :: st) σ A := by
  obtain ⟨hd, rfl⟩ := hd
  intro G p l e Rm s m args below meth c C CT H locs ls hW hS hL
  have hKn := C.2.2.2.2.2.2.2.2.1
  obtain ⟨h1, h2, -⟩ := mp_idx hi hn
  have hP : va_P G.2.2.1 mp_cl [(mp_ad G k, .inl (G.2.2.2 0, n, .inl (fun j => Int32.ofInt (f j))))] H := fun j q hj => by
    match j, hj with
    | 0, hj => cases hj; exact hW.2.2 k _ hs
    | j + 1, hj => simp at hj
  refine va_iald C.1 C.2.1 hKn.1 hP 0 0 rfl rfl h1 hd ?_
  rw [h2]
  exact kk G p l e Rm s m args below meth c C CT H locs ls hW hS hL
theorem mq_saload {n : Nat} {f : Nat → Int} {i : Int} (hd : mp_dc Y.1 pc .iaload 1 nx) (hs : σ[0]? = some (mp_S n f)) (hi : 0 ≤ i ∧ i < (n : Int)) (hn : n ≤ 2147483647) (kk : mp_AtX Y K nx L (mp_i (f i.toNat) :: st) σ A) : mp_AtX Y K pc L (mp_i i :: Value.ref 0 :: st) σ A := by
  obtain ⟨hd, rfl⟩ := hd
  intro G p l e Rm s m args below meth c C CT H locs ls hW hS hL
  have hKn := C.2.2.2.2.2.2.2.2.1
  obtain ⟨h1, h2, -⟩ := mp_idx hi hn
  obtain ⟨scr, g1, g2, g3⟩ := hW.2.2 0 _ hs
  have g0 : G.1[G.2.1]? = some scr := by rw [← hW.2.1 _ hKn.2.1]; exact g1
  obtain ⟨g4, g5⟩ := hKn.2.2.2.2.2.2.1 scr g0
  refine W.iald (v := .int (Int32.ofInt (f i.toNat))) C.1 C.2.1 g1 g4 g5 (by rw [g2]; exact h1) (by rw [h2]; exact g3 _ (by omega)) rfl rfl hd ?_
  exact kk G p l e Rm s m args below meth c C CT H locs ls hW hS hL
theorem mq_salen {n : Nat} {f : Nat → Int} (hd : mp_dc Y.1 pc .arraylength 1 nx) (hs : σ[0]? = some (mp_S n f)) (kk : mp_AtX Y K nx L (mp_i n :: st) σ A) : mp_AtX Y K pc L (Value.ref 0 :: st) σ A := by
  obtain ⟨hd, rfl⟩ := hd
  intro G p l e Rm s m args below meth c C CT H locs ls hW hS hL
  have hKn := C.2.2.2.2.2.2.2.2.1
  obtain ⟨scr, g1, g2, g3⟩ := hW.2.2 0 _ hs
  have g0 : G.1[G.2.1]? = some scr := by rw [← hW.2.1 _ hKn.2.1]; exact g1
  obtain ⟨g4, g5⟩ := hKn.2.2.2.2.2.2.1 scr g0
  refine W.alen (n := Int32.ofInt (n : Int)) C.1 C.2.1 g1 g4 (by rw [g2]; exact Int32.ofInt_eq_ofNat.symm) rfl rfl hd ?_
  exact kk G p l e Rm s m args below meth c C CT H locs ls hW hS hL
theorem mq_ialen {k n : Nat} {f : Nat → Int} (hd : mp_dc Y.1 pc .arraylength 1 nx) (hs : σ[k]? = some (mp_I n f)) (kk : mp_AtX Y K nx L (mp_i n :: st) σ A) : mp_AtX Y K pc L (Value.ref k :: st) σ A := by
  obtain ⟨hd, rfl⟩ := hd
  intro G p l e Rm s m args below meth c C CT H locs ls hW hS hL
  have hKn := C.2.2.2.2.2.2.2.2.1
  have hc : H[mp_ad G k]? = some (vp_cell (G.2.2.2 0) (n, .inl (fun j => Int32.ofInt (f j)))) := hW.2.2 k _ hs
  refine W.alen (n := Int32.ofInt (n : Int)) C.1 C.2.1 hc ((hKn.1.2 0 _ rfl).1 n (fun j => .int (Int32.ofInt (f j)))) (by rw [vp_cell_i, arrV_size]; exact Int32.ofInt_eq_ofNat.symm) rfl rfl hd ?_
  exact kk G p l e Rm s m args below meth c C CT H locs ls hW hS hL
theorem mq_iastore {k n : Nat} {f : Nat → Int} {i x : Int} {σ' : mp_H} (hd : mp_dc Y.1 pc .iastore 1 nx) (hs : σ[k]? = some (mp_I n f)) (h0 : 0 < k) (hi : 0 ≤ i ∧ i < (n : Int)) (hn : n ≤ 2147483647) (hσ : σ.set k (mp_I n (va_up f i.toNat x)) = σ') (kk : mp_AtX Y K nx L st σ' A) : mp_AtX Y K pc L (mp_i x :: mp_i i :: Value.ref k :: st) σ A := by
  subst hσ
  obtain ⟨hd, rfl⟩ := hd
  intro G p l e Rm s m args below meth c C CT H locs ls hW hS hL
  have hKn := C.2.2.2.2.2.2.2.2.1
  obtain ⟨h1, h2, -⟩ := mp_idx hi hn
  have hc : H[mp_ad G k]? = some (vp_cell (G.2.2.2 0) (n, .inl (fun j => Int32.ofInt (f j)))) := hW.2.2 k _ hs
  refine W.iast C.1 C.2.1 hc ((hKn.1.2 0 _ rfl).1 n (fun j => .int (Int32.ofInt (f j)))) (fun q => by cases q) (by show ¬ (_ < 0 ∨ (arrV _ _ _).slots.size ≤ _); rw [arrV_size]; exact h1) rfl rfl hd fun H1 e1 z oq => ?_
  refine kk G p l e Rm s m args below meth c C CT H1 _ ls (hW.set hKn.2.1 hs h0 ?_ z oq) (hS.put z oq (mp_frk h0)) hL
  show H1[mp_ad G k]? = some (vp_cell _ _)
  rw [e1, vp_cell_i, vp_cell_i, arrV_store, h2]
  congr 2
  funext q
  by_cases hq : q = i.toNat
  · subst hq
    simp [updV, va_up]
  · simp [updV, va_up, hq]
theorem mq_laload {k n : Nat} {f : Nat → Int} {i : Int} (hd : mp_dc Y.1 pc .laload 1 nx) (hs : σ[k]? = some (mp_J n f)) (hi : 0 ≤ i ∧ i < (n : Int)) (hn : n ≤ 2147483647) (kk : mp_AtX Y K nx L (mp_l (f i.toNat) :: st) σ A) : mp_AtX Y K pc L (mp_i i :: Value.ref k :: st) σ A := by
  obtain ⟨hd, rfl⟩ := hd
  intro G p l e Rm s m args below meth c C CT H locs ls hW hS hL
  have hKn := C.2.2.2.2.2.2.2.2.1
  obtain ⟨h1, h2, -⟩ := mp_idx hi hn
  have hP : va_P G.2.2.1 mp_cl [(mp_ad G k, .inl (G.2.2.2 1, n, .inr (.inl (fun j => Int64.ofInt (f j)))))] H := fun j q hj => by
    match j, hj with
    | 0, hj => cases hj; exact hW.2.2 k _ hs
    | j + 1, hj => simp at hj
  refine va_lald C.1 C.2.1 hKn.1 hP 0 1 rfl rfl h1 hd ?_
  rw [h2]
  exact kk G p l e Rm s m args below meth c C CT H locs ls hW hS hL
theorem mq_lastore {k n : Nat} {f : Nat → Int} {i x : Int} {σ' : mp_H} (hd : mp_dc Y.1 pc .lastore 1 nx) (hs : σ[k]? = some (mp_J n f)) (h0 : 0 < k) (hi : 0 ≤ i ∧ i < (n : Int)) (hn : n ≤ 2147483647) (hσ : σ.set k (mp_J n (va_up f i.toNat x)) = σ') (kk : mp_AtX Y K nx L st σ' A) : mp_AtX Y K pc L (mp_l x :: mp_i i :: Value.ref k :: st) σ A := by
  subst hσ
  obtain ⟨hd, rfl⟩ := hd
  intro G p l e Rm s m args below meth c C CT H locs ls hW hS hL
  have hKn := C.2.2.2.2.2.2.2.2.1
  obtain ⟨h1, h2, -⟩ := mp_idx hi hn
  have hc : H[mp_ad G k]? = some (vp_cell (G.2.2.2 1) (n, .inr (.inl (fun j => Int64.ofInt (f j))))) := hW.2.2 k _ hs
  refine W.last C.1 C.2.1 hc ((hKn.1.2 1 _ rfl).1 n (fun j => .long (Int64.ofInt (f j)))) (fun q => by cases q) (by show ¬ (_ < 0 ∨ (arrV _ _ _).slots.size ≤ _); rw [arrV_size]; exact h1) rfl rfl hd fun H1 e1 z oq => ?_
  refine kk G p l e Rm s m args below meth c C CT H1 _ ls (hW.set hKn.2.1 hs h0 ?_ z oq) (hS.put z oq (mp_frk h0)) hL
  show H1[mp_ad G k]? = some (vp_cell _ _)
  rw [e1, vp_cell_l, vp_cell_l, arrV_store, h2]
  congr 2
  funext q
  by_cases hq : q = i.toNat
  · subst hq
    simp [updV, va_up]
  · simp [updV, va_up, hq]
theorem mq_aaload {k t n : Nat} {f : Nat → Option Nat} {i : Int} (hd : mp_dc Y.1 pc .aaload 1 nx) (hs : σ[k]? = some (mp_R t n f)) (ht : t < 2) (hi : 0 ≤ i ∧ i < (n : Int)) (hn : n ≤ 2147483647) (kk : mp_AtX Y K nx L (va_rf (f i.toNat) :: st) σ A) : mp_AtX Y K pc L (mp_i i :: Value.ref k :: st) σ A := by
  obtain ⟨hd, rfl⟩ := hd
  intro G p l e Rm s m args below meth c C CT H locs ls hW hS hL
  have hKn := C.2.2.2.2.2.2.2.2.1
  obtain ⟨h1, h2, -⟩ := mp_idx hi hn
  obtain ⟨C0, hC, -⟩ := mp_rty (G := G) ht
  have hP : va_P G.2.2.1 mp_cl [(mp_ad G k, .inl (G.2.2.2 (2 + t), n, .inr (.inr (.inr (.inr (fun j => (f j).map (mp_ad G)))))))] H := fun j q hj => by
    match j, hj with
    | 0, hj => cases hj; exact hW.2.2 k _ hs
    | j + 1, hj => simp at hj
  refine va_aldq C.1 C.2.1 hKn.1 hP 0 (2 + t) rfl hC h1 hd ?_
  rw [h2, mp_rfad]
  exact kk G p l e Rm s m args below meth c C CT H locs ls hW hS hL
theorem mq_aastore {k t n v ci : Nat} {vs : List Value} {f : Nat → Option Nat} {i : Int} {σ' : mp_H} (hd : mp_dc Y.1 pc .aastore 1 nx) (hs : σ[k]? = some (mp_R t n f)) (ht : t < 2) (hv : σ[v]? = some (mp_O ci vs)) (hm : mp_may t ci = true) (h0 : 0 < k) (hi : 0 ≤ i ∧ i < (n : Int)) (hn : n ≤ 2147483647) (hσ : σ.set k (mp_R t n (va_up f i.toNat (some v))) = σ') (kk : mp_AtX Y K nx L st σ' A) : mp_AtX Y K pc L (Value.ref v :: mp_i i :: Value.ref k :: st) σ A := by
  subst hσ
  obtain ⟨hd, rfl⟩ := hd
  intro G p l e Rm s m args below meth c C CT H locs ls hW hS hL
  have hKn := C.2.2.2.2.2.2.2.2.1
  obtain ⟨h1, h2, h3⟩ := mp_idx hi hn
  obtain ⟨C0, hC, hC0⟩ := mp_rty (G := G) ht
  have hc : H[mp_ad G k]? = some (vp_cell (G.2.2.2 (2 + t)) (n, .inr (.inr (.inr (.inr (fun j => (f j).map (mp_ad G))))))) := hW.2.2 k _ hs
  obtain ⟨r, hr, cellV, g1, g2, g3, -⟩ := hW.2.2 v _ hv
  obtain ⟨kA, comp, k1, k2, k3, -⟩ := (hKn.1.2 _ _ hC).2
  obtain ⟨kE, hkE, -⟩ := Vm.findClass_spec k3
  obtain ⟨kC, hkC, -⟩ := (hKn.1.1 ci r hr).2.2
  refine W.aast C.1 C.2.1 hc (fun q h => by cases h) (fun h => by cases h) k1 k2 rfl hkE ⟨h3, by show _ < (arrV _ _ _).slots.size; rw [arrV_size, h2]; omega⟩ g1 (fun q h => by rw [g3] at h; cases h) (by rw [g2]; exact hkC) (by rw [g2]; exact mp_asg hKn ht hm (by rw [← hC0]; exact k3)) rfl rfl hd fun H1 e1 z oq => ?_
  exact kk G p l e Rm s m args below meth c C CT H1 _ ls (hW.set hKn.2.1 hs h0 (mp_astored (G := G) (o := some v) h2 e1) z oq) (hS.put z oq (mp_frk h0)) hL
theorem mq_aastoreN {k t n : Nat} {f : Nat → Option Nat} {i : Int} {σ' : mp_H} (hd : mp_dc Y.1 pc .aastore 1 nx) (hs : σ[k]? = some (mp_R t n f)) (ht : t < 2) (h0 : 0 < k) (hi : 0 ≤ i ∧ i < (n : Int)) (hn : n ≤ 2147483647) (hσ : σ.set k (mp_R t n (va_up f i.toNat none)) = σ') (kk : mp_AtX Y K nx L st σ' A) : mp_AtX Y K pc L (Value.null :: mp_i i :: Value.ref k :: st) σ A := by
  subst hσ
  obtain ⟨hd, rfl⟩ := hd
  intro G p l e Rm s m args below meth c C CT H locs ls hW hS hL
  have hKn := C.2.2.2.2.2.2.2.2.1
  obtain ⟨h1, h2, h3⟩ := mp_idx hi hn
  obtain ⟨C0, hC, hC0⟩ := mp_rty (G := G) ht
  have hc : H[mp_ad G k]? = some (vp_cell (G.2.2.2 (2 + t)) (n, .inr (.inr (.inr (.inr (fun j => (f j).map (mp_ad G))))))) := hW.2.2 k _ hs
  refine va_WaastN (C := C0) C.1 C.2.1 hc ((hKn.1.2 _ _ hC).1 n (fun j => va_rf ((f j).map (mp_ad G)))) (fun h => by cases h) (by show ¬ (_ < 0 ∨ (arrV _ _ _).slots.size ≤ _); rw [arrV_size]; exact h1) rfl rfl hd fun H1 e1 z oq => ?_
  exact kk G p l e Rm s m args below meth c C CT H1 _ ls (hW.set hKn.2.1 hs h0 (mp_astored (G := G) (o := none) h2 e1) z oq) (hS.put z oq (mp_frk h0)) hL
theorem mq_getfield {k ci fi idx : Nat} {fs : List Value} {v : Value} (hd : mp_dc Y.1 pc (.getfield idx) 3 nx) (hf : mp_FS Y.1.1.cls idx ci fi) (hs : σ[k]? = some (mp_O ci fs)) (hv : fs[fi]? = some v) (kk : mp_AtX Y K nx L (v :: st) σ A) : mp_AtX Y K pc L (Value.ref k :: st) σ A := by
  obtain ⟨hd, rfl⟩ := hd
  obtain ⟨⟨C0, T0, N0⟩, ref, f1, f2, f3, f4⟩ := hf
  intro G p l e Rm s m args below meth c C CT H locs ls hW hS hL
  have hKn := C.2.2.2.2.2.2.2.2.1
  have hw := C.2.2.2.2.2.2.2.1
  have hP : va_P G.2.2.1 mp_cl [(mp_ad G k, .inr (ci, fs.map (mp_tr G)))] H := fun j q hj => by
    match j, hj with
    | 0, hj => cases hj; exact hW.2.2 k _ hs
    | j + 1, hj => simp at hj
  exact va_get C.1 C.2.1 hw (mp_cl_in f1) C.2.2.2.2.1 hKn.1 hP 0 rfl f1 fi f2 (hw _ f3) (mp_same hw f4) (v := mp_tr G v) (by rw [List.getElem?_map, hv]; rfl) hd (kk G p l e Rm s m args below meth c C CT H locs ls hW hS hL)
theorem mq_putfield {k ci fi idx : Nat} {fs : List Value} {v : Value} {σ' : mp_H} {ty : FieldType} {r : vw_C} (hd : mp_dc Y.1 pc (.putfield idx) 3 nx) (hf : mp_FS Y.1.1.cls idx ci fi) (hr : mp_cl[ci]? = some r) (hfin : (r.2.1 fi).2.2.2 = false ∨ ((r.2.1 fi).2.2.2 = true ∧ Y.1.1.name = "<init>" ∧ (r.2.1 fi).1 = Y.1.1.cls))
    (hty : parseFieldDescriptor (r.2.1 fi).2.2.1 = some ty) (hnar : ∀ G : mp_G, narrow ty (mp_tr G v) = mp_tr G v ∧ fits ty (mp_tr G v) = true) (hs : σ[k]? = some (mp_O ci fs)) (h0 : 0 < k) (hl : fi < fs.length) (hσ : σ.set k (mp_O ci (fs.set fi v)) = σ') (kk : mp_AtX Y K nx L st σ' A) : mp_AtX Y K pc L (v :: Value.ref k :: st) σ A := by
  subst hσ
  obtain ⟨hd, rfl⟩ := hd
  obtain ⟨r', ref, f1, f2, f3, f4⟩ := hf
  cases hr.symm.trans f1
  obtain ⟨C0, T0, N0⟩ := r
  intro G p l e Rm s m args below meth c C CT H locs ls hW hS hL
  have hKn := C.2.2.2.2.2.2.2.2.1
  have hw := C.2.2.2.2.2.2.2.1
  have hown := C.2.2.2.2.1
  obtain ⟨ty0, hty0⟩ := mp_cl_ty f1
  have hap := va_apart (own := Y.1.1.cls) hw (mp_cl_in f1) ty0 hty0 (mp_cl_nm f1) hKn.1 f1
  obtain ⟨r1, h1, cell, q1, q2, q3, q4⟩ := hW.2.2 k _ hs
  cases h1.symm.trans f1
  obtain ⟨hSl, hfc, kC, hkC, hkind⟩ := hKn.1.1 ci _ f1
  obtain ⟨cf, kf, fj, f, hi, hsl⟩ := hSl fi f2
  have hlay := hw _ (mp_cl_in f1 _ (u_in_lay f2))
  have hst := (u_facts hfc hkC (u_lays hw (mp_cl_in f1) f2) hi).1
  obtain ⟨hn, hfit⟩ := hnar G
  have fin : ∀ H1 : Heap, H1[mp_ad G k]? = some (cell.setSlot f.slot (mp_tr G v)) → mp_hc G (mp_ad G k) (mp_O ci (fs.set fi v)) H1 := by
    intro H1 e1
    rw [hsl] at e1
    refine ⟨_, f1, t_OB.to (V := updV (vp_V (fs.map (mp_tr G))) fi (mp_tr G v)) ⟨_, e1, q2, q3, t_set q4 hap f2 (mp_tr G v)⟩ (fun j _ => ?_)⟩
    rw [List.map_set]
    exact vp_updV_set (by rw [List.length_map]; exact hl) (mp_tr G v) j
  rcases hfin with hfin | ⟨hfin, hin, hdecl⟩
  · unfold u_lay at hlay
    rw [if_neg (by rw [hfin]; decide)] at hlay
    have h6 := u_store hfc hkC hkind hlay hi hty hn hfit
    refine W.putK C.1 C.2.1 (f := f) ⟨hown, hw _ f3, ⟨_, _, _, mp_same hw f4 _ hi⟩, hst⟩ (by rw [q2]; exact h6) q1 q3 (by rw [hsl]; exact k2_hasslot (q4 fi f2)) rfl rfl hd fun H1 e1 e2 e3 => ?_
    exact kk G p l e Rm s m args below meth c C CT H1 _ ls (hW.set hKn.2.1 hs h0 (fin H1 e1) e2 e3) (hS.put e2 e3 (mp_frk h0)) hL
  · unfold u_lay at hlay
    rw [if_pos hfin] at hlay
    have hcf : m.cls = cf := by
      obtain ⟨_, _, c', _, _, _, -, -, hf', -, -, -, hown2, -⟩ := Cond.laysFinal_spec hlay
      have e1 : c' = cf := by have := hi.symm.trans hf'; simp at this; exact this.1.symm
      rw [hdecl] at hown2
      rw [← e1]; exact Option.some.inj (hown.symm.trans hown2)
    have h6 := u_fits hfc hkC hkind (Or.inr hlay) hi hty hn hfit
    refine W.putFinK C.1 C.2.1 hown (hw _ f3) (mp_same hw f4 _ hi) hst hcf (C.2.2.2.2.2.2.1.trans hin) (by rw [q2]; exact h6) q1 q3 (by rw [hsl]; exact k2_hasslot (q4 fi f2)) rfl rfl hd fun H1 e1 e2 e3 => ?_
    exact kk G p l e Rm s m args below meth c C CT H1 _ ls (hW.set hKn.2.1 hs h0 (fin H1 e1) e2 e3) (hS.put e2 e3 (mp_frk h0)) hL
theorem mq_new {ci idx n : Nat} {fs : List Value} {σ' : mp_H} {K' : Nat × Nat} {r : vw_C} (hd : mp_dc Y.1 pc (.new idx) 3 nx) (hf : mp_NS Y.1.1.cls idx ci) (hr : mp_cl[ci]? = some r) (hn : r.2.2 = n) (hfs : ∀ (G : mp_G) (j : Nat), j < n → (parseFieldDescriptor (r.2.1 j).2.2.1).map defaultValue = some (vp_V (fs.map (mp_tr G)) j)) (hk : K.1 + 1 ≤ Y.2.2.1 ∧ K.2 + n ≤ Y.2.2.2) (hK' : (K.1 + 1, K.2 + n) = K') (hσ : σ ++ [mp_O ci fs] = σ') (kk : mp_AtX Y K' nx L (Value.ref σ.length :: st) σ' A) : mp_AtX Y K pc L st σ A := by
  subst hσ
  subst hK'
  obtain ⟨hd, rfl⟩ := hd
  obtain ⟨r', f1, f2, f3, f4⟩ := hf
  cases hr.symm.trans f1
  subst hn
  intro G p l e Rm s m args below meth c C CT H locs ls hW hS hL
  have hKn := C.2.2.2.2.2.2.2.2.1
  have hw := C.2.2.2.2.2.2.2.1
  obtain ⟨-, -, -, -, -, -, -, -, -, -, -, -, hc1, hc2⟩ := id C
  obtain ⟨ty0, hty0⟩ := mp_cl_ty f1
  have hK1 := hKn.1.1 ci _ f1
  obtain ⟨l1, l2, l3⟩ := hW.len hKn.2.1
  refine W.newcK C.1 C.2.1 C.2.2.2.2.1 (hw _ f2) (hw _ f3) (hw _ f4) rfl hd (by omega) (by omega) hK1.2.1 rfl fun H1 kC hkC e1 z1 o1 => ?_
  have h9 := kk G p l e Rm s m args below meth c C CT H1 locs ls (hW.push hKn.2.1 (c := mp_O ci fs) ⟨_, f1, (u_born ty0 hw (mp_cl_in f1) hK1 hkC e1 hty0).to (fun j hj => by have := hfs G j hj; rw [hty0 j hj] at this; exact Option.some.inj this)⟩ z1 o1) ⟨Nat.le_trans hS.1 (by omega), fun x h1 h2 => (o1 x (Nat.lt_of_lt_of_le h1 hS.1)).trans (hS.2.1 x h1 h2), hS.2.2⟩ hL
  rw [List.map_cons, show mp_tr G (Value.ref σ.length) = Value.ref H.size from congrArg Value.ref l3] at h9
  exact h9
theorem mq_newI {n : Nat} {i : Int} {σ' : mp_H} {K' : Nat × Nat} (hd : mp_dc Y.1 pc (.newarray .int) 2 nx) (hi : i = (n : Int)) (hn : n ≤ 1000) (hk : K.1 + 1 ≤ Y.2.2.1 ∧ K.2 + n ≤ Y.2.2.2) (hK' : (K.1 + 1, K.2 + n) = K') (hσ : σ ++ [mp_I n (fun _ => 0)] = σ') (kk : mp_AtX Y K' nx L (Value.ref σ.length :: st) σ' A) : mp_AtX Y K pc L (mp_i i :: st) σ A := by
  subst hσ
  subst hK'
  subst hi
  obtain ⟨hd, rfl⟩ := hd
  intro G p l e Rm s m args below meth c C CT H locs ls hW hS hL
  have hKn := C.2.2.2.2.2.2.2.2.1
  have hw := C.2.2.2.2.2.2.2.1
  obtain ⟨-, -, -, -, -, -, -, -, -, -, -, -, hc1, hc2⟩ := id C
  obtain ⟨h1, h2, h3⟩ := mp_idx (i := (n : Int)) (n := n + 1) ⟨by omega, by omega⟩ (by omega)
  rw [Int.toNat_natCast] at h2
  obtain ⟨l1, l2, l3⟩ := hW.len hKn.2.1
  refine va_newaK (atype := .int) C.1 C.2.1 (hw _ mp_w_int) rfl hd rfl h3 h2 (by show n * 4 ≤ 536870912; omega) (by omega) (by omega) rfl fun H1 cA e1 z1 o1 hAr hNm => ?_
  have hcA : cA = G.2.2.2 0 := Option.some.inj (hNm.symm.trans (hKn.1.2 0 _ rfl).2)
  subst hcA
  have h9 := kk G p l e Rm s m args below meth c C CT H1 locs ls (hW.push hKn.2.1 (c := mp_I n (fun _ => 0)) e1 z1 o1) ⟨Nat.le_trans hS.1 (by omega), fun x h1 h2 => (o1 x (Nat.lt_of_lt_of_le h1 hS.1)).trans (hS.2.1 x h1 h2), hS.2.2⟩ hL
  rw [List.map_cons, show mp_tr G (Value.ref σ.length) = Value.ref H.size from congrArg Value.ref l3] at h9
  exact h9
theorem mq_newJ {n : Nat} {i : Int} {σ' : mp_H} {K' : Nat × Nat} (hd : mp_dc Y.1 pc (.newarray .long) 2 nx) (hi : i = (n : Int)) (hn : n ≤ 1000) (hk : K.1 + 1 ≤ Y.2.2.1 ∧ K.2 + n ≤ Y.2.2.2) (hK' : (K.1 + 1, K.2 + n) = K') (hσ : σ ++ [mp_J n (fun _ => 0)] = σ') (kk : mp_AtX Y K' nx L (Value.ref σ.length :: st) σ' A) : mp_AtX Y K pc L (mp_i i :: st) σ A := by
  subst hσ
  subst hK'
  subst hi
  obtain ⟨hd, rfl⟩ := hd
  intro G p l e Rm s m args below meth c C CT H locs ls hW hS hL
  have hKn := C.2.2.2.2.2.2.2.2.1
  have hw := C.2.2.2.2.2.2.2.1
  obtain ⟨-, -, -, -, -, -, -, -, -, -, -, -, hc1, hc2⟩ := id C
  obtain ⟨h1, h2, h3⟩ := mp_idx (i := (n : Int)) (n := n + 1) ⟨by omega, by omega⟩ (by omega)
  rw [Int.toNat_natCast] at h2
  obtain ⟨l1, l2, l3⟩ := hW.len hKn.2.1
  refine va_newaK (atype := .long) C.1 C.2.1 (hw _ mp_w_long) rfl hd rfl h3 h2 (by show n * 8 ≤ 536870912; omega) (by omega) (by omega) rfl fun H1 cA e1 z1 o1 hAr hNm => ?_
  have hcA : cA = G.2.2.2 1 := Option.some.inj (hNm.symm.trans (hKn.1.2 1 _ rfl).2)
  subst hcA
  have h9 := kk G p l e Rm s m args below meth c C CT H1 locs ls (hW.push hKn.2.1 (c := mp_J n (fun _ => 0)) e1 z1 o1) ⟨Nat.le_trans hS.1 (by omega), fun x h1 h2 => (o1 x (Nat.lt_of_lt_of_le h1 hS.1)).trans (hS.2.1 x h1 h2), hS.2.2⟩ hL
  rw [List.map_cons, show mp_tr G (Value.ref σ.length) = Value.ref H.size from congrArg Value.ref l3] at h9
  exact h9
theorem mq_newR {t n idx : Nat} {i : Int} {σ' : mp_H} {K' : Nat × Nat} (hd : mp_dc Y.1 pc (.anewarray idx) 3 nx) (ht : t < 2) (hl : Cond.classLink Y.1.1.cls idx (if t = 0 then RX4 else RX5) ∈ mp_gt) (hi : i = (n : Int)) (hn : n ≤ 1000) (hk : K.1 + 1 ≤ Y.2.2.1 ∧ K.2 + n ≤ Y.2.2.2) (hK' : (K.1 + 1, K.2 + n) = K') (hσ : σ ++ [mp_R t n (fun _ => none)] = σ') (kk : mp_AtX Y K' nx L (Value.ref σ.length :: st) σ' A) : mp_AtX Y K pc L (mp_i i :: st) σ A := by
  subst hσ
  subst hK'
  subst hi
  obtain ⟨hd, rfl⟩ := hd
  intro G p l e Rm s m args below meth c C CT H locs ls hW hS hL
  have hKn := C.2.2.2.2.2.2.2.2.1
  have hw := C.2.2.2.2.2.2.2.1
  obtain ⟨-, -, -, -, -, -, -, -, -, -, -, -, hc1, hc2⟩ := id C
  obtain ⟨h1, h2, h3⟩ := mp_idx (i := (n : Int)) (n := n + 1) ⟨by omega, by omega⟩ (by omega)
  rw [Int.toNat_natCast] at h2
  obtain ⟨l1, l2, l3⟩ := hW.len hKn.2.1
  obtain ⟨C0, hC, hC0⟩ := mp_rty (G := G) ht
  have hAO : va_AO (if t = 0 then RX4 else RX5) s := by
    match t, ht with
    | 0, _ => exact hKn.2.2.2.2.1
    | 1, _ => exact hKn.2.2.2.2.2.1
  rw [← hC0] at hAO hl
  refine W.anew C.1 C.2.1 C.2.2.2.2.1 (hw _ hl) (va_AO.use hAO) rfl hd rfl h3 (by rw [h2]; omega) (by omega) (by rw [h2]; omega) fun cA kA comp g1 g2 g3 g4 => ?_
  have hcA : cA = G.2.2.2 (2 + t) := by
    obtain ⟨_, _, -, -, -, k4⟩ := (hKn.1.2 _ _ hC).2
    exact Option.some.inj (g1.symm.trans k4)
  subst hcA
  rw [h2]
  generalize hH1 : H.push ({ cls := G.2.2.2 (2 + t), slots := Array.replicate n .null, vm := .none } : Cell) = H1
  have z1 : H1.size = H.size + 1 := by rw [← hH1, Array.size_push]
  have e1 : H1[H.size]? = some (arrV (G.2.2.2 (2 + t)) n (fun _ => .null)) := by rw [← hH1, Array.getElem?_push_size, ← arrV_new]
  have o1 : ∀ q : Nat, q < H.size → H1[q]? = H[q]? := fun q hq => by rw [← hH1, Array.getElem?_push, if_neg (Nat.ne_of_lt hq)]
  have h9 := kk G p l e Rm s m args below meth c C CT H1 locs ls (hW.push hKn.2.1 (c := mp_R t n (fun _ => none)) e1 z1 o1) ⟨Nat.le_trans hS.1 (by omega), fun x h1 h2 => (o1 x (Nat.lt_of_lt_of_le h1 hS.1)).trans (hS.2.1 x h1 h2), hS.2.2⟩ hL
  rw [List.map_cons, show mp_tr G (Value.ref σ.length) = Value.ref H.size from congrArg Value.ref l3] at h9
  exact h9
end Rows

section Calls
variable {Y : mp_Y} {K K' : Nat × Nat} {pc nx : Nat} {L : List (Option Value)} {st st0 st1 : List Value} {σ : mp_H} {A : mp_QX} {z : mp_Y} {as : List Value} {A1 : mp_An} {idx : Nat}
theorem mq_invokestatic (hd : mp_dc Y.1 pc (.invokestatic idx) 3 nx) (hs : mp_SS Y.1.1.cls idx z.1 as.length) (hc : mp_Call z as σ A1) (hR : mp_rmOk Y K z st) (h0 : as.reverse ++ st = st0) (h1 : A1.1.toList ++ st = st1) (hK : (K.1 + z.2.2.1, K.2 + z.2.2.2) = K') (kk : mp_AtX Y K' nx L st1 A1.2 A) : mp_AtX Y K pc L st0 σ A := by
  subst h0
  subst hK
  obtain ⟨hd, rfl⟩ := hd
  obtain ⟨hb, hstt, hlk⟩ := hs
  intro G p l e Rm s m args below meth c C CT H locs ls hW hS hL
  have hKn := C.2.2.2.2.2.2.2.2.1
  have hw := C.2.2.2.2.2.2.2.1
  obtain ⟨r1, r2, r3, r4⟩ := mp_room C hR
  refine mp_go (mc := z.2.2.1) (ms := z.2.2.2) (a := (as.map (mp_tr G)).toArray) (rest := st.map (mp_tr G)) hW hS (A1 := A1) ?_ (fun H1 locs1 g1 g2 => ?_)
  rotate_left
  · rw [mp_after h1]
    exact kk G p l e Rm s m args below meth c C CT H1 locs1 ls g1 g2 hL
  · have hcd := hw _ hb.1
    have hrev : (as.map (mp_tr G)).length = as.length := List.length_map _
    have hstk : (F0 m pc ls ((as.reverse ++ st).map (mp_tr G))).stack = (as.map (mp_tr G)).reverse ++ st.map (mp_tr G) := by
      show (as.reverse ++ st).map (mp_tr G) = _
      rw [List.map_append, List.map_reverse]
    rcases hlk with hlk | ⟨host, hlk⟩
    · exact va_runS ⟨C.1, C.2.1, C.2.2.2.1, C.2.2.2.2.1, hw⟩ (hc G l C.2.2.2.2.2.2.2.2.2.1) ⟨⟨rfl, rfl, r1, r2, pay_in hw (mp_good hb), List.mem_cons_self, hcd, hw _ hb.2.1, hb.2.2.1, hb.sig, hw _ hlk⟩, hw _ hstt⟩ ⟨mp_blind, mp_pre hKn hW⟩ rfl hrev hL.1 hstk (lv_room (by rw [mp_catsum]; exact hR.2.2.2.2)) hd ⟨r3, r4⟩
    · exact va_runSN ⟨C.1, C.2.1, C.2.2.2.1, C.2.2.2.2.1, hw⟩ (hc G l C.2.2.2.2.2.2.2.2.2.1) (host := host) ⟨⟨⟨rfl, rfl, r1, r2, pay_in hw (mp_good hb), List.mem_cons_self⟩, hcd, hw _ hb.2.1, hb.2.2.1, hb.sig, va_Nw.use rfl (hKn.2.2.1 _ hlk)⟩, hw _ hstt, trivial⟩ ⟨mp_blind, mp_pre hKn hW⟩ rfl hrev hL.1 hstk (lv_room (by rw [mp_catsum]; exact hR.2.2.2.2)) hd ⟨r3, r4⟩
theorem mq_invokevirtual {k ci : Nat} {fs : List Value} {r : vw_C} (hd : mp_dc Y.1 pc (.invokevirtual idx) 3 nx) (hs : mp_SV Y.1.1.cls idx z.1 as.length) (ho : σ[k]? = some (mp_O ci fs)) (hr : mp_cl[ci]? = some r) (hrc : r.1 = z.1.1.cls) (hc : mp_Call z (Value.ref k :: as) σ A1) (hR : mp_rmOk Y K z st) (h0 : as.reverse ++ Value.ref k :: st = st0) (h1 : A1.1.toList ++ st = st1) (hK : (K.1 + z.2.2.1, K.2 + z.2.2.2) = K') (kk : mp_AtX Y K' nx L st1 A1.2 A) : mp_AtX Y K pc L st0 σ A := by
  subst h0
  subst hK
  obtain ⟨hd, rfl⟩ := hd
  obtain ⟨hb, hin, hse, hlk⟩ := hs
  intro G p l e Rm s m args below meth c C CT H locs ls hW hS hL
  have hKn := C.2.2.2.2.2.2.2.2.1
  have hw := C.2.2.2.2.2.2.2.1
  obtain ⟨r1, r2, r3, r4⟩ := mp_room C hR
  refine mp_go (mc := z.2.2.1) (ms := z.2.2.2) (a := (Value.ref (mp_ad G k) :: as.map (mp_tr G)).toArray) (rest := st.map (mp_tr G)) hW hS (A1 := A1) ?_ (fun H1 locs1 g1 g2 => ?_)
  rotate_left
  · rw [mp_after h1]
    exact kk G p l e Rm s m args below meth c C CT H1 locs1 ls g1 g2 hL
  · have hcd := hw _ hb.1
    have hrev : (as.map (mp_tr G)).length = as.length := List.length_map _
    have hstk : (F0 m pc ls ((as.reverse ++ Value.ref k :: st).map (mp_tr G))).stack = (as.map (mp_tr G)).reverse ++ Value.ref (mp_ad G k) :: st.map (mp_tr G) := by
      show (as.reverse ++ Value.ref k :: st).map (mp_tr G) = _
      rw [List.map_append, List.map_reverse]; rfl
    exact va_runV ⟨C.1, C.2.1, C.2.2.2.1, C.2.2.2.2.1, hw⟩ (hc G l C.2.2.2.2.2.2.2.2.2.1) (C := z.1.1.cls) ⟨⟨rfl, rfl, r1, r2, pay_in hw (mp_good hb), List.mem_cons_self, hcd, hw _ hb.2.1, hb.2.2.1, hb.sig, hw _ hlk⟩, hw _ hin, hw _ hse⟩ ⟨mp_blind, by rw [← hrc]; exact mp_rcv hKn hW ho hr, mp_pre (as := Value.ref k :: as) hKn hW⟩ rfl hrev hL.1 hstk (lv_room (by rw [mp_catsum]; exact hR.2.2.2.2)) hd ⟨r3, r4⟩
theorem mq_invokeover {k ci : Nat} {fs : List Value} {r : vw_C} {x : mp_M} (hd : mp_dc Y.1 pc (.invokevirtual idx) 3 nx) (hs : mp_SU Y.1.1.cls idx x r.1 z.1 as.length) (ho : σ[k]? = some (mp_O ci fs)) (hr : mp_cl[ci]? = some r) (hc : mp_Call z (Value.ref k :: as) σ A1) (hR : mp_rmOk Y K z st) (h0 : as.reverse ++ Value.ref k :: st = st0) (h1 : A1.1.toList ++ st = st1) (hK : (K.1 + z.2.2.1, K.2 + z.2.2.2) = K') (kk : mp_AtX Y K' nx L st1 A1.2 A) : mp_AtX Y K pc L st0 σ A := by
  subst h0
  subst hK
  obtain ⟨hd, rfl⟩ := hd
  obtain ⟨hb, hbx, hin, hinx, hse, hsm, hlk⟩ := hs
  intro G p l e Rm s m args below meth c C CT H locs ls hW hS hL
  have hKn := C.2.2.2.2.2.2.2.2.1
  have hw := C.2.2.2.2.2.2.2.1
  obtain ⟨r1, r2, r3, r4⟩ := mp_room C hR
  refine mp_go (mc := z.2.2.1) (ms := z.2.2.2) (a := (Value.ref (mp_ad G k) :: as.map (mp_tr G)).toArray) (rest := st.map (mp_tr G)) hW hS (A1 := A1) ?_ (fun H1 locs1 g1 g2 => ?_)
  rotate_left
  · rw [mp_after h1]
    exact kk G p l e Rm s m args below meth c C CT H1 locs1 ls g1 g2 hL
  · have hcd := hw _ hb.1
    have hrev : (as.map (mp_tr G)).length = as.length := List.length_map _
    have hstk : (F0 m pc ls ((as.reverse ++ Value.ref k :: st).map (mp_tr G))).stack = (as.map (mp_tr G)).reverse ++ Value.ref (mp_ad G k) :: st.map (mp_tr G) := by
      show (as.reverse ++ Value.ref k :: st).map (mp_tr G) = _
      rw [List.map_append, List.map_reverse]; rfl
    exact va_runU ⟨C.1, C.2.1, C.2.2.2.1, C.2.2.2.2.1, hw⟩ (hc G l C.2.2.2.2.2.2.2.2.2.1) (C := r.1) (owner := x.1.cls) (x := x.1) ⟨⟨rfl, rfl, r1, r2, pay_in hw (mp_good hb), List.mem_cons_self⟩, hcd, hw _ hb.2.1, hbx.2.2.1, hbx.sig, hw _ hlk, hw _ hsm, va_Decl.of (hw _ hinx) (hw _ hbx.1), hw _ hse, hw _ hin⟩ ⟨mp_blind, mp_rcv hKn hW ho hr, mp_pre (as := Value.ref k :: as) hKn hW⟩ rfl hrev hL.1 hstk (lv_room (by rw [mp_catsum]; exact hR.2.2.2.2)) hd ⟨r3, r4⟩
theorem mq_invokeinit {k : Nat} (hd : mp_dc Y.1 pc (.invokespecial idx) 3 nx) (hs : mp_SI Y.1.1.cls idx z.1 as.length) (hc : mp_Call z (Value.ref k :: as) σ A1) (hR : mp_rmOk Y K z st) (h0 : as.reverse ++ Value.ref k :: st = st0) (h1 : A1.1.toList ++ st = st1) (hK : (K.1 + z.2.2.1, K.2 + z.2.2.2) = K') (kk : mp_AtX Y K' nx L st1 A1.2 A) : mp_AtX Y K pc L st0 σ A := by
  subst h0
  subst hK
  obtain ⟨hd, rfl⟩ := hd
  obtain ⟨⟨zn, zb, zl, zr⟩, zd⟩ := z
  obtain ⟨hb, hin, hnm, rfl, hlk⟩ := hs
  intro G p l e Rm s m args below meth c C CT H locs ls hW hS hL
  have hKn := C.2.2.2.2.2.2.2.2.1
  have hw := C.2.2.2.2.2.2.2.1
  obtain ⟨r1, r2, r3, r4⟩ := mp_room C hR
  refine mp_go (mc := zd.2.1) (ms := zd.2.2) (a := (Value.ref (mp_ad G k) :: as.map (mp_tr G)).toArray) (rest := st.map (mp_tr G)) hW hS (A1 := A1) ?_ (fun H1 locs1 g1 g2 => ?_)
  rotate_left
  · rw [mp_after h1]
    exact kk G p l e Rm s m args below meth c C CT H1 locs1 ls g1 g2 hL
  · have hcd := hw _ hb.1
    have hrev : (as.map (mp_tr G)).length = as.length := List.length_map _
    have hstk : (F0 m pc ls ((as.reverse ++ Value.ref k :: st).map (mp_tr G))).stack = (as.map (mp_tr G)).reverse ++ Value.ref (mp_ad G k) :: st.map (mp_tr G) := by
      show (as.reverse ++ Value.ref k :: st).map (mp_tr G) = _
      rw [List.map_append, List.map_reverse]; rfl
    rcases hlk with hlk | ⟨host, hlk⟩
    · exact va_runI ⟨C.1, C.2.1, C.2.2.2.1, C.2.2.2.2.1, hw⟩ (hc G l C.2.2.2.2.2.2.2.2.2.1) ⟨⟨rfl, rfl, r1, r2, pay_in hw (mp_good hb), List.mem_cons_self, hcd, hw _ hb.2.1, hb.2.2.1, hb.sig, hw _ hlk⟩, hnm, hw _ hin⟩ ⟨mp_blind, mp_pre (as := Value.ref k :: as) hKn hW⟩ rfl hrev hL.1 hstk (lv_room (by rw [mp_catsum]; exact hR.2.2.2.2)) hd ⟨r3, r4⟩
    · exact va_runIN ⟨C.1, C.2.1, C.2.2.2.1, C.2.2.2.2.1, hw⟩ (hc G l C.2.2.2.2.2.2.2.2.2.1) (host := host) ⟨⟨⟨rfl, rfl, r1, r2, pay_in hw (mp_good hb), List.mem_cons_self⟩, hcd, hw _ hb.2.1, hb.2.2.1, hb.sig, va_Nw.use rfl (hKn.2.2.1 _ hlk)⟩, hnm, hw _ hin⟩ ⟨mp_blind, mp_pre (as := Value.ref k :: as) hKn hW⟩ rfl hrev hL.1 hstk (lv_room (by rw [mp_catsum]; exact hR.2.2.2.2)) hd ⟨r3, r4⟩
theorem mq_invokesuper {k ci : Nat} {fs : List Value} {r : vw_C} (hd : mp_dc Y.1 pc (.invokespecial idx) 3 nx) (hs : mp_SP Y.1.1.cls idx z.1 as.length) (ho : σ[k]? = some (mp_O ci fs)) (hr : mp_cl[ci]? = some r) (hc : mp_Call z (Value.ref k :: as) σ A1) (hR : mp_rmOk Y K z st) (h0 : as.reverse ++ Value.ref k :: st = st0) (h1 : A1.1.toList ++ st = st1) (hK : (K.1 + z.2.2.1, K.2 + z.2.2.2) = K') (kk : mp_AtX Y K' nx L st1 A1.2 A) : mp_AtX Y K pc L st0 σ A := by
  subst h0
  subst hK
  obtain ⟨hd, rfl⟩ := hd
  obtain ⟨hb, hin, hnm, hsm, hsu, hlk⟩ := hs
  intro G p l e Rm s m args below meth c C CT H locs ls hW hS hL
  have hKn := C.2.2.2.2.2.2.2.2.1
  have hw := C.2.2.2.2.2.2.2.1
  obtain ⟨r1, r2, r3, r4⟩ := mp_room C hR
  refine mp_go (mc := z.2.2.1) (ms := z.2.2.2) (a := (Value.ref (mp_ad G k) :: as.map (mp_tr G)).toArray) (rest := st.map (mp_tr G)) hW hS (A1 := A1) ?_ (fun H1 locs1 g1 g2 => ?_)
  rotate_left
  · rw [mp_after h1]
    exact kk G p l e Rm s m args below meth c C CT H1 locs1 ls g1 g2 hL
  · have hcd := hw _ hb.1
    have hrev : (as.map (mp_tr G)).length = as.length := List.length_map _
    have hstk : (F0 m pc ls ((as.reverse ++ Value.ref k :: st).map (mp_tr G))).stack = (as.map (mp_tr G)).reverse ++ Value.ref (mp_ad G k) :: st.map (mp_tr G) := by
      show (as.reverse ++ Value.ref k :: st).map (mp_tr G) = _
      rw [List.map_append, List.map_reverse]; rfl
    exact va_runSU (hKn.1.1 ci r hr).2 ⟨C.1, C.2.1, C.2.2.2.1, C.2.2.2.2.1, hw⟩ (hc G l C.2.2.2.2.2.2.2.2.2.1) (C := r.1) ⟨⟨rfl, rfl, r1, r2, pay_in hw (mp_good hb), List.mem_cons_self⟩, hw _ hlk, hw _ hsm, hw _ hsu, hw _ hin, hw _ hb.2.1, hcd, hnm, hb.sig⟩ ⟨mp_blind, mp_rcv hKn hW ho hr, mp_pre (as := Value.ref k :: as) hKn hW⟩ rfl hrev hL.1 hstk (lv_room (by rw [mp_catsum]; exact hR.2.2.2.2)) hd ⟨r3, r4⟩
theorem mq_objinit {k : Nat} (hd : mp_dc Y.1 pc (.invokespecial idx) 3 nx) (hs : Cond.methodLink Y.1.1.cls idx Lib.objectInit ∈ mp_gt) (hf : 1 ≤ Y.2.1) (h8 : (st.map fun v => v.category).sum ≤ 8) (kk : mp_AtX Y K nx L st σ A) : mp_AtX Y K pc L (Value.ref k :: st) σ A := by
  obtain ⟨hd, rfl⟩ := hd
  intro G p l e Rm s m args below meth c C CT H locs ls hW hS hL
  have hw := C.2.2.2.2.2.2.2.1
  obtain ⟨-, -, -, -, -, -, -, -, -, -, c1, c2, c3, c4⟩ := id C
  exact W.objInit C.1 C.2.1 C.2.2.2.2.1 (hw _ hs) (hw _ mp_w_oi) (hw _ mp_w_oc) rfl (by rw [C.2.2.2.1]; exact hL.1) rfl hd (by omega) (by show 2 * 0 + ((st.map (mp_tr G)).map fun v => v.category).sum + 12 ≤ Rm.locals; rw [mp_catsum]; omega) (kk G p l e Rm s m args below meth c C CT H locs ls hW hS hL)
end Calls

section Rows
variable {Y : mp_Y} {K : Nat × Nat} {pc nx : Nat} {L : List (Option Value)} {st : List Value} {σ : mp_H} {A : mp_QX}
theorem mq_iald {k n : Nat} {s : Int → Int} {i : Int} (hd : mp_dc Y.1 pc .iaload 1 nx) (hs : σ[k]? = some (mp_I n (mp_F s))) (hi : 0 ≤ i ∧ i < (n : Int)) (hn : n ≤ 2147483647) (kk : mp_AtX Y K nx L (mp_i (s i) :: st) σ A) : mp_AtX Y K pc L (mp_i i :: Value.ref k :: st) σ A :=
  mq_iaload hd hs hi hn (by rw [mp_F_at hi.1]; exact kk)
theorem mq_iast {k n : Nat} {s : Int → Int} {i x : Int} {σ' : mp_H} (hd : mp_dc Y.1 pc .iastore 1 nx) (hs : σ[k]? = some (mp_I n (mp_F s))) (h0 : 0 < k) (hi : 0 ≤ i ∧ i < (n : Int)) (hn : n ≤ 2147483647) (hσ : σ.set k (mp_I n (mp_F (mp_ud s i x))) = σ') (kk : mp_AtX Y K nx L st σ' A) : mp_AtX Y K pc L (mp_i x :: mp_i i :: Value.ref k :: st) σ A :=
  mq_iastore hd hs h0 hi hn (by rw [mp_F_up hi.1]; exact hσ) kk
end Rows
theorem mq_drop {Y : mp_Y} {K : Nat × Nat} {pc : Nat} {L L' : List (Option Value)} {st : List Value} {σ : mp_H} {A : mp_QX} (bs : List Bool) (h : mp_mask L bs = L') (k : mp_AtX Y K pc L' st σ A) : mp_AtX Y K pc L st σ A := by
  subst h
  intro G p l e Rm s m args below meth c C CT H locs ls hW hS hL
  refine k G p l e Rm s m args below meth c C CT H locs ls hW hS ⟨hL.1, hL.2.1, fun i v hi => hL.2.2 i v ?_⟩
  unfold mp_mask at hi
  rw [List.getElem?_zipWith] at hi
  cases h1 : L[i]? with
  | none => simp [h1] at hi
  | some o =>
    cases h2 : bs[i]? with
    | none => simp [h1, h2] at hi
    | some b =>
      cases b with
      | false => simp [h1, h2] at hi
      | true => simpa [h1, h2] using hi
theorem mq_loc {Y : mp_Y} {K : Nat × Nat} {pc : Nat} {L L' : List (Option Value)} {st : List Value} {σ : mp_H} {A : mp_QX} {j : Nat} {x y : Int} (h : x = y) (hl : L[j]? = some (some (mp_i x))) (hl' : L.set j (some (mp_i y)) = L') (k : mp_AtX Y K pc L' st σ A) : mp_AtX Y K pc L st σ A := by
  subst h
  rw [show L.set j (some (mp_i x)) = L from ?_] at hl'
  · subst hl'; exact k
  · obtain ⟨h1, h2⟩ := List.getElem?_eq_some_iff.mp hl
    rw [← h2]
    exact List.set_getElem_self h1
theorem mq_top {Y : mp_Y} {K : Nat × Nat} {pc : Nat} {L : List (Option Value)} {st : List Value} {σ : mp_H} {A : mp_QX} {x y : Int} (h : x = y) (k : mp_AtX Y K pc L (mp_i y :: st) σ A) : mp_AtX Y K pc L (mp_i x :: st) σ A := h ▸ k
section Calls2
variable {Y : mp_Y} {K K' : Nat × Nat} {pc nx : Nat} {L : List (Option Value)} {st st0 st1 : List Value} {σ σ1 : mp_H} {A : mp_QX} {z : mp_Y} {as : List Value} {A1 : mp_An} {idx : Nat}
theorem mq_invS (hd : mp_dc Y.1 pc (.invokestatic idx) 3 nx) (hs : mp_SS Y.1.1.cls idx z.1 as.length) (hc : mp_Call z as σ A1) (hR : mp_rmOk Y K z st) (h0 : as.reverse ++ st = st0) (h1 : A1.1.toList ++ st = st1) (hK : (K.1 + z.2.2.1, K.2 + z.2.2.2) = K') (hσ : A1.2 = σ1) (kk : mp_AtX Y K' nx L st1 σ1 A) : mp_AtX Y K pc L st0 σ A := mq_invokestatic hd hs hc hR h0 h1 hK (by rw [hσ]; exact kk)
theorem mq_invV {k ci : Nat} {fs : List Value} {r : vw_C} (hd : mp_dc Y.1 pc (.invokevirtual idx) 3 nx) (hs : mp_SV Y.1.1.cls idx z.1 as.length) (ho : σ[k]? = some (mp_O ci fs)) (hr : mp_cl[ci]? = some r) (hrc : r.1 = z.1.1.cls) (hc : mp_Call z (Value.ref k :: as) σ A1) (hR : mp_rmOk Y K z st) (h0 : as.reverse ++ Value.ref k :: st = st0) (h1 : A1.1.toList ++ st = st1) (hK : (K.1 + z.2.2.1, K.2 + z.2.2.2) = K') (hσ : A1.2 = σ1) (kk : mp_AtX Y K' nx L st1 σ1 A) : mp_AtX Y K pc L st0 σ A := mq_invokevirtual hd hs ho hr hrc hc hR h0 h1 hK (by rw [hσ]; exact kk)
theorem mq_invO {k ci : Nat} {fs : List Value} {r : vw_C} {x : mp_M} (hd : mp_dc Y.1 pc (.invokevirtual idx) 3 nx) (hs : mp_SU Y.1.1.cls idx x r.1 z.1 as.length) (ho : σ[k]? = some (mp_O ci fs)) (hr : mp_cl[ci]? = some r) (hc : mp_Call z (Value.ref k :: as) σ A1) (hR : mp_rmOk Y K z st) (h0 : as.reverse ++ Value.ref k :: st = st0) (h1 : A1.1.toList ++ st = st1) (hK : (K.1 + z.2.2.1, K.2 + z.2.2.2) = K') (hσ : A1.2 = σ1) (kk : mp_AtX Y K' nx L st1 σ1 A) : mp_AtX Y K pc L st0 σ A := mq_invokeover hd hs ho hr hc hR h0 h1 hK (by rw [hσ]; exact kk)
theorem mq_invI {k : Nat} (hd : mp_dc Y.1 pc (.invokespecial idx) 3 nx) (hs : mp_SI Y.1.1.cls idx z.1 as.length) (hc : mp_Call z (Value.ref k :: as) σ A1) (hR : mp_rmOk Y K z st) (h0 : as.reverse ++ Value.ref k :: st = st0) (h1 : A1.1.toList ++ st = st1) (hK : (K.1 + z.2.2.1, K.2 + z.2.2.2) = K') (hσ : A1.2 = σ1) (kk : mp_AtX Y K' nx L st1 σ1 A) : mp_AtX Y K pc L st0 σ A := mq_invokeinit hd hs hc hR h0 h1 hK (by rw [hσ]; exact kk)
theorem mq_invP {k ci : Nat} {fs : List Value} {r : vw_C} (hd : mp_dc Y.1 pc (.invokespecial idx) 3 nx) (hs : mp_SP Y.1.1.cls idx z.1 as.length) (ho : σ[k]? = some (mp_O ci fs)) (hr : mp_cl[ci]? = some r) (hc : mp_Call z (Value.ref k :: as) σ A1) (hR : mp_rmOk Y K z st) (h0 : as.reverse ++ Value.ref k :: st = st0) (h1 : A1.1.toList ++ st = st1) (hK : (K.1 + z.2.2.1, K.2 + z.2.2.2) = K') (hσ : A1.2 = σ1) (kk : mp_AtX Y K' nx L st1 σ1 A) : mp_AtX Y K pc L st0 σ A := mq_invokesuper hd hs ho hr hc hR h0 h1 hK (by rw [hσ]; exact kk)
end Calls2

theorem mq_sg {Y : mp_Y} {K : Nat × Nat} {pc : Nat} {L : List (Option Value)} {st : List Value} {σ σ' : mp_H} {A : mp_QX} (h : σ = σ') (k : mp_AtX Y K pc L st σ' A) : mp_AtX Y K pc L st σ A := h ▸ k
section VYT
variable {p : Program} {l : Launch} {e : Env} {R : Room} {s : State} {m : MethodId} {args : Array Value} {below : List Frame} {meth : Method} {c : Code} {H : Heap} {locs : List Loc} {cells slots : Nat} {free : Addr → Prop} {ls : Array Slot} {rest : List Value} {Qc : Array Value → State → Outcome → State → Prop} {XC : String → State → State → Prop}
theorem vy_throwS {cc : ByteArray} {pc : Nat} (hexec : p.tables.exec = Jvm.exec) (hb : c.code = cc) (hl : l.stackTraces = false) {own cls text : String} {names : List String} {ik is ic mc ms sa : Nat} {A : Nat → Prop}
    (hown : s.vm.findClass own = some m.cls) (hcls : Bundle.fit cls = true) (hnames : ∀ n ∈ names, Bundle.fit n = true)
    (hk : (Cond.classLink own ik cls).before args s = true) (hini : (Cond.initialized cls).before args s = true) (hstr : vk_R own is text sa s) (hat : ∀ w ∈ vx_atS own ic cls names, w.before args s = true)
    (hgood : ∀ w ∈ Cond.classLink own ik cls :: Cond.initialized cls :: vx_atS own ic cls names, vx_ot w = true)
    (hU : vx_Zq Bundle.tN "UNASSIGNED_STACK" Bundle.steD A s H) (hN : vx_Zq Bundle.tN "SUPPRESSED_SENTINEL" Bundle.listD A s H) (hsize : ls.size = c.maxLocals)
    (d0 : decode cc pc = .ok (.new ik, 3)) (d3 : decode cc (pc + 3) = .ok (.dup, 1)) (d4 : decode cc (pc + 4) = .ok (.ldc is, 2)) (d6 : decode cc (pc + 6) = .ok (.invokespecial ic, 3)) (d9 : decode cc (pc + 9) = .ok (.athrow, 1))
    (hout : ∀ x ∈ c.exceptionTable.toList, covers x (pc + 9) = false)
    (hRframes : names.length + 3 < R.frames) (hRlocals : (rest.map fun v => v.category).sum + (13 * (names.length + 1) + 43) ≤ R.locals) (hRcells : cells + 1 ≤ R.cells) (hRslots : slots + 6 ≤ R.slots) (hlocks : meth.locks = false)
    (hx : ∀ t : State, s.vm.Alike t.vm → t.heap.size = H.size + 1 → (∀ q : Nat, q < H.size → t.heap[q]? = H[q]?) → XC cls s t)
    (hf : ∀ z ∈ locs, free z.base) (hc : cells + 1 ≤ mc) (hs : slots + 6 ≤ ms) :
    W p l e R s m args below meth c H locs cells slots (vx_MQ below Qc XC args s mc ms free) (F0 m pc ls rest) := by
  intro T hT X
  have htr : e.platform.stackTraces = false := (show e.platform.stackTraces = l.stackTraces by rw [X.admits.platform]).trans hl
  have Y := vx_rebase X (R' := { frames := R.frames, locals := R.locals, cells := 1, slots := 6 }) (Nat.le_refl _) (Nat.le_refl _) hRcells hRslots
  obtain ⟨s', hA⟩ : ∃ z, z = (T.setVm s.vm).setFrames (.invoking m args :: below) := ⟨_, rfl⟩
  rw [← hA] at Y
  have hvm : s'.vm = s.vm := by rw [hA]; rfl
  have hhp : s'.heap = H := by rw [hA]; exact hT
  have hW0 : s.WarmedH s'.vm := by rw [hvm]; exact State.WarmedH.refl s
  have hat' : ∀ w ∈ vx_atS own ic cls names, w.before args s' = true := fun w hw => vx_ot_at hW0 hvm.symm (hgood w (List.mem_cons_of_mem _ (List.mem_cons_of_mem _ hw))) (hat w hw)
  have hk' : (Cond.classLink own ik cls).before args s' = true := vx_ot_at hW0 hvm.symm (hgood _ List.mem_cons_self) hk
  have hini' : (Cond.initialized cls).before args s' = true := vx_ot_at hW0 hvm.symm (hgood _ (List.mem_cons_of_mem _ List.mem_cons_self)) hini
  have hU' : vx_Zq Bundle.tN "UNASSIGNED_STACK" Bundle.steD A s' s'.heap := by rw [hhp]; exact vx_Zq.moved hW0.alike hU
  have hN' : vx_Zq Bundle.tN "SUPPRESSED_SENTINEL" Bundle.listD A s' s'.heap := by rw [hhp]; exact vx_Zq.moved hW0.alike hN
  have h : ∀ w ∈ Bundle.ownAtoms own ic cls names, w.before args s' = true := vx_own hat' (vx_isRefq hU'.1) (vx_isRefq hN'.1) hU'.2.word hN'.2.word
  have hown' : s'.vm.findClass own = some m.cls := by rw [hvm]; exact hown
  have hins : (Cond.instantiable cls 6).before args s' = true := h _ (by simp [Bundle.ownAtoms])
  obtain ⟨vm₁, cX, kX, hfX, hkX, -, -, X₁, st1⟩ := Y.newCold hexec (own := own) (C := cls) (index := ik) (n := 6) hown' hk' hins hini'
    (g := F0 m pc ls rest) rfl (by rw [hb]; exact d0) (Nat.le_refl _) (Nat.le_refl _)
  generalize hT1 : (T.setVm vm₁).pushCell { cls := cX, slots := kX.instanceTypes.map defaultValue, vm := .none } = T1 at X₁ st1
  have hcat : (Value.ref T.heap.size).category = 1 := rfl
  have hcellA : T1.heap[T.heap.size]? = some (freshCell cX kX) := by rw [← hT1]; exact State.heap_pushCell_size _ _
  have d3' : decode c.code (pc + 3) = .ok (.dup, 1) := by rw [hb]; exact d3
  have d4' : decode c.code (pc + 4) = .ok (.ldc is, 2) := by rw [hb]; exact d4
  have hstr' : vk_R own is text sa s' := vk_R.warm hW0 hstr
  obtain ⟨U, hsteps, hrun, hend, hW, hsame, ce, hce, hO⟩ := X₁.ctorThrowS hexec htr (own := own) (cls := cls) (names := names) (ic := ic) hown' hcls hnames h (fun x hx => nomatch hx) hfX hkX hcellA (by rw [hhp, hT]; exact Nat.le_refl _) (msg := .ref sa) rfl
    (g := { method := m, pc := pc + 6, locals := ls, stack := .ref sa :: .ref T.heap.size :: .ref T.heap.size :: rest, locked := none }) rfl hsize rfl rfl (rest := rest) rfl
    (by rw [hb]; exact d6) (by rw [hb]; exact d9) hout hRframes (by simp only [List.map_cons, List.sum_cons, hcat]; omega) hlocks
  obtain ⟨f1, f2⟩ := vx_frame hsame
  rw [hhp] at f1 f2
  have f3 : U.heap.size = H.size + 1 := by
    have f4 : U.heap.size ≤ s'.heap.size + (0 + 1) := hsame.2.2.1
    have f5 : T.heap.size < U.heap.size := (Array.getElem?_eq_some_iff.mp hce).1
    rw [hhp] at f4
    rw [hT] at f5
    omega
  have hWs : s.WarmedH U.vm := State.WarmedH.trans hW0 hW
  have hcl : s.vm.findClass cls = some ce.cls := by
    have h9 := hO.cls
    rw [hvm] at h9
    exact h9
  have hall : s.sameButNew ({ U with vm := s.vm } : State) locs mc ms := by
    subst hA
    obtain ⟨e1, e2⟩ := hsame
    rw [State.setFrames_setFrames] at e1
    have h2 : (T.setVm s.vm).sameButNew ({ U with vm := s.vm } : State) [] (0 + 1) (0 + 6) := ⟨e1, e2⟩
    have h3 := X.same.trans h2
    rw [List.append_nil] at h3
    exact h3.mono hc hs
  refine ⟨U, ?_, .threw T.heap.size, hrun, hend, Or.inr ⟨T.heap.size, rfl, cls, ce, locs, hx U hWs.alike f3 (fun q hq => f2 q hq (fun z hz => nomatch hz)), hce, hO.vm, hcl, hWs, hall, hf⟩⟩
  refine st1 _ ?_
  show Steps p.tables e below (T1.setTop { method := m, pc := pc + 3, locals := ls, stack := .ref T.heap.size :: rest, locked := none }) _
  jvm_step X₁.here [X₁.here.top, hexec, d3', Value.category]
  exact X₁.ldcString hexec (own := own) (text := text) (index := is) (a := sa) hown' hstr'.1 hstr'.2
    (g := { method := m, pc := pc + 4, locals := ls, stack := .ref T.heap.size :: .ref T.heap.size :: rest, locked := none }) rfl d4' _ hsteps

theorem vy_throwSW {cc : ByteArray} {pc : Nat} (hexec : p.tables.exec = Jvm.exec) (hb : c.code = cc) (hl : l.stackTraces = false) {own cls text : String} {names : List String} {ik is ic mc ms sa : Nat} {A : Nat → Prop}
    (hown : s.vm.findClass own = some m.cls) (hcls : Bundle.fit cls = true) (hnames : ∀ n ∈ names, Bundle.fit n = true)
    (hk : (Cond.classLink own ik cls).before args s = true) (hini : (Cond.initialized cls).before args s = true) (hstr : vk_R own is text sa s) (hat : ∀ w ∈ vx_atS own ic cls names, w.before args s = true)
    (hgood : ∀ w ∈ Cond.classLink own ik cls :: Cond.initialized cls :: vx_atS own ic cls names, vx_ot w = true)
    (hU : vx_Zq Bundle.tN "UNASSIGNED_STACK" Bundle.steD A s H) (hN : vx_Zq Bundle.tN "SUPPRESSED_SENTINEL" Bundle.listD A s H) (hsize : ls.size = c.maxLocals)
    (d0 : decode cc pc = .ok (.new ik, 3)) (d3 : decode cc (pc + 3) = .ok (.dup, 1)) (d4 : decode cc (pc + 4) = .ok (.ldc_w is, 3)) (d7 : decode cc (pc + 7) = .ok (.invokespecial ic, 3)) (d10 : decode cc (pc + 10) = .ok (.athrow, 1))
    (hout : ∀ x ∈ c.exceptionTable.toList, covers x (pc + 10) = false)
    (hRframes : names.length + 3 < R.frames) (hRlocals : (rest.map fun v => v.category).sum + (13 * (names.length + 1) + 43) ≤ R.locals) (hRcells : cells + 1 ≤ R.cells) (hRslots : slots + 6 ≤ R.slots) (hlocks : meth.locks = false)
    (hx : ∀ t : State, s.vm.Alike t.vm → t.heap.size = H.size + 1 → (∀ q : Nat, q < H.size → t.heap[q]? = H[q]?) → XC cls s t)
    (hf : ∀ z ∈ locs, free z.base) (hc : cells + 1 ≤ mc) (hs : slots + 6 ≤ ms) :
    W p l e R s m args below meth c H locs cells slots (vx_MQ below Qc XC args s mc ms free) (F0 m pc ls rest) := by
  intro T hT X
  have htr : e.platform.stackTraces = false := (show e.platform.stackTraces = l.stackTraces by rw [X.admits.platform]).trans hl
  have Y := vx_rebase X (R' := { frames := R.frames, locals := R.locals, cells := 1, slots := 6 }) (Nat.le_refl _) (Nat.le_refl _) hRcells hRslots
  obtain ⟨s', hA⟩ : ∃ z, z = (T.setVm s.vm).setFrames (.invoking m args :: below) := ⟨_, rfl⟩
  rw [← hA] at Y
  have hvm : s'.vm = s.vm := by rw [hA]; rfl
  have hhp : s'.heap = H := by rw [hA]; exact hT
  have hW0 : s.WarmedH s'.vm := by rw [hvm]; exact State.WarmedH.refl s
  have hat' : ∀ w ∈ vx_atS own ic cls names, w.before args s' = true := fun w hw => vx_ot_at hW0 hvm.symm (hgood w (List.mem_cons_of_mem _ (List.mem_cons_of_mem _ hw))) (hat w hw)
  have hk' : (Cond.classLink own ik cls).before args s' = true := vx_ot_at hW0 hvm.symm (hgood _ List.mem_cons_self) hk
  have hini' : (Cond.initialized cls).before args s' = true := vx_ot_at hW0 hvm.symm (hgood _ (List.mem_cons_of_mem _ List.mem_cons_self)) hini
  have hU' : vx_Zq Bundle.tN "UNASSIGNED_STACK" Bundle.steD A s' s'.heap := by rw [hhp]; exact vx_Zq.moved hW0.alike hU
  have hN' : vx_Zq Bundle.tN "SUPPRESSED_SENTINEL" Bundle.listD A s' s'.heap := by rw [hhp]; exact vx_Zq.moved hW0.alike hN
  have h : ∀ w ∈ Bundle.ownAtoms own ic cls names, w.before args s' = true := vx_own hat' (vx_isRefq hU'.1) (vx_isRefq hN'.1) hU'.2.word hN'.2.word
  have hown' : s'.vm.findClass own = some m.cls := by rw [hvm]; exact hown
  have hins : (Cond.instantiable cls 6).before args s' = true := h _ (by simp [Bundle.ownAtoms])
  obtain ⟨vm₁, cX, kX, hfX, hkX, -, -, X₁, st1⟩ := Y.newCold hexec (own := own) (C := cls) (index := ik) (n := 6) hown' hk' hins hini'
    (g := F0 m pc ls rest) rfl (by rw [hb]; exact d0) (Nat.le_refl _) (Nat.le_refl _)
  generalize hT1 : (T.setVm vm₁).pushCell { cls := cX, slots := kX.instanceTypes.map defaultValue, vm := .none } = T1 at X₁ st1
  have hcat : (Value.ref T.heap.size).category = 1 := rfl
  have hcellA : T1.heap[T.heap.size]? = some (freshCell cX kX) := by rw [← hT1]; exact State.heap_pushCell_size _ _
  have d3' : decode c.code (pc + 3) = .ok (.dup, 1) := by rw [hb]; exact d3
  have d4' : decode c.code (pc + 4) = .ok (.ldc_w is, 3) := by rw [hb]; exact d4
  have hstr' : vk_R own is text sa s' := vk_R.warm hW0 hstr
  obtain ⟨U, hsteps, hrun, hend, hW, hsame, ce, hce, hO⟩ := X₁.ctorThrowS hexec htr (own := own) (cls := cls) (names := names) (ic := ic) hown' hcls hnames h (fun x hx => nomatch hx) hfX hkX hcellA (by rw [hhp, hT]; exact Nat.le_refl _) (msg := .ref sa) rfl
    (g := { method := m, pc := pc + 7, locals := ls, stack := .ref sa :: .ref T.heap.size :: .ref T.heap.size :: rest, locked := none }) rfl hsize rfl rfl (rest := rest) rfl
    (by rw [hb]; exact d7) (by rw [hb]; exact d10) hout hRframes (by simp only [List.map_cons, List.sum_cons, hcat]; omega) hlocks
  obtain ⟨f1, f2⟩ := vx_frame hsame
  rw [hhp] at f1 f2
  have f3 : U.heap.size = H.size + 1 := by
    have f4 : U.heap.size ≤ s'.heap.size + (0 + 1) := hsame.2.2.1
    have f5 : T.heap.size < U.heap.size := (Array.getElem?_eq_some_iff.mp hce).1
    rw [hhp] at f4
    rw [hT] at f5
    omega
  have hWs : s.WarmedH U.vm := State.WarmedH.trans hW0 hW
  have hcl : s.vm.findClass cls = some ce.cls := by
    have h9 := hO.cls
    rw [hvm] at h9
    exact h9
  have hall : s.sameButNew ({ U with vm := s.vm } : State) locs mc ms := by
    subst hA
    obtain ⟨e1, e2⟩ := hsame
    rw [State.setFrames_setFrames] at e1
    have h2 : (T.setVm s.vm).sameButNew ({ U with vm := s.vm } : State) [] (0 + 1) (0 + 6) := ⟨e1, e2⟩
    have h3 := X.same.trans h2
    rw [List.append_nil] at h3
    exact h3.mono hc hs
  refine ⟨U, ?_, .threw T.heap.size, hrun, hend, Or.inr ⟨T.heap.size, rfl, cls, ce, locs, hx U hWs.alike f3 (fun q hq => f2 q hq (fun z hz => nomatch hz)), hce, hO.vm, hcl, hWs, hall, hf⟩⟩
  refine st1 _ ?_
  show Steps p.tables e below (T1.setTop { method := m, pc := pc + 3, locals := ls, stack := .ref T.heap.size :: rest, locked := none }) _
  jvm_step X₁.here [X₁.here.top, hexec, d3', Value.category]
  exact X₁.ldcStringW hexec (own := own) (text := text) (index := is) (a := sa) hown' hstr'.1 hstr'.2
    (g := { method := m, pc := pc + 4, locals := ls, stack := .ref T.heap.size :: .ref T.heap.size :: rest, locked := none }) rfl d4' _ hsteps
end VYT
