/-! ===== exceptions: contracts, throws, calls, catches ===== -/
section XA
variable {Y : mp_Y} {as : List Value} {σ : mp_H} {Rt : mp_An → Prop} {Th : String → mp_H → Prop} {L : List (Option Value)}
theorem mp_CallX.of (hy : plainName Y.1.1.cls = true) (h : (mp_sl as).length ≤ Y.1.2.2.1) (hL : mp_sl as ++ List.replicate (Y.1.2.2.1 - (mp_sl as).length) none = L)
    (k : mp_AtX Y (0, 0) 0 L [] σ (mp_QB Y [] Rt Th)) : mp_CallX Y (mp_ws Y.1) as σ Rt Th := by
  intro G l hfl
  refine vx_ofW (cc := Y.1.2.1) (maxL := Y.1.2.2.1) (ret := Y.1.2.2.2) hy rfl ?_
  intro p e s m args below meth c s₁ B hml htb hv
  obtain ⟨rfl, ⟨hKn, hNC⟩, hWd⟩ := hv
  have hts := atoms_spec (ws := mp_ws Y.1) B.pre
  have hown : s.vm.findClass Y.1.1.cls = some m.cls := findClass_of_methodNamed B.named
  rw [lg_entry_eq]
  exact k G p l e _ s m _ below meth c ⟨B.exec, B.bytes, B.returns, hml, hown, B.notSynchronized, (name_of_methodNamed B.named B.method).1, fun w hw => hts w (List.mem_cons_of_mem _ hw), hKn, hfl, Nat.le_refl _, Nat.le_refl _, Nat.le_refl _, Nat.le_refl _⟩ ⟨List.eq_nil_iff_forall_not_mem.mpr (fun x hx => htb x hx), hNC⟩ s.heap [] _ hWd va_S.rf (mp_entry G as h hL)
theorem mp_CallX.ofH {hh : List (Nat × Nat × Nat × Nat)} (hy : plainName Y.1.1.cls = true) (h : (mp_sl as).length ≤ Y.1.2.2.1) (hL : mp_sl as ++ List.replicate (Y.1.2.2.1 - (mp_sl as).length) none = L)
    (k : mp_AtX Y (0, 0) 0 L [] σ (mp_QB Y (tableOf hh) Rt Th)) : mp_CallX Y (Cond.codeWith Y.1.1 Y.1.2.1 Y.1.2.2.1 Y.1.2.2.2 hh :: mp_gt) as σ Rt Th := by
  intro G l hfl
  refine vx_ofWH (cc := Y.1.2.1) (maxL := Y.1.2.2.1) (ret := Y.1.2.2.2) (hh := hh) hy rfl ?_
  intro p e s m args below meth c s₁ B hml hv
  obtain ⟨rfl, ⟨hKn, hNC⟩, hWd⟩ := hv
  have hts := atoms_spec (ws := Cond.codeWith Y.1.1 Y.1.2.1 Y.1.2.2.1 Y.1.2.2.2 hh :: mp_gt) B.pre
  have hown : s.vm.findClass Y.1.1.cls = some m.cls := findClass_of_methodNamed B.named
  have htb := vx_table (x := Y.1.1) B (hts _ List.mem_cons_self)
  rw [lg_entry_eq]
  exact k G p l e _ s m _ below meth c ⟨B.exec, B.bytes, B.returns, hml, hown, B.notSynchronized, (name_of_methodNamed B.named B.method).1, fun w hw => hts w (List.mem_cons_of_mem _ hw), hKn, hfl, Nat.le_refl _, Nat.le_refl _, Nat.le_refl _, Nat.le_refl _⟩ ⟨htb, hNC⟩ s.heap [] _ hWd va_S.rf (mp_entry G as h hL)
end XA
theorem mp_Lr.stq {G : mp_G} {L : List (Option Value)} {ls : Array Slot} {nL i : Nat} {q : Addr} (h : mp_Lr G L ls nL) (hi : i < nL) : ∃ ls', storeLocals ls i (.ref q) = some ls' ∧ mp_Lr G ((mp_st0 L i).set i none) ls' nL := by
  obtain ⟨ls', e1, e2⟩ := lv_store1 (v := .ref q) (mp_pick h) hi rfl
  refine ⟨ls', e1, e2.1, e2.2.1, fun z w hq => ?_⟩
  rw [List.getElem?_set] at hq
  split at hq
  · split at hq
    · cases hq
    · simp at hq
  · rename_i hqi
    obtain ⟨h1, h2⟩ := mp_pre_sub hq
    refine e2.2.2 (z, mp_tr G w) (List.mem_cons_of_mem _ (List.mem_filter.mpr ⟨mp_picked h1, ?_⟩))
    simp only [mp_cat]
    simp only [Bool.and_eq_true, Bool.not_eq_true', beq_eq_false_iff_ne, ne_eq, Bool.and_eq_false_iff]
    refine ⟨fun y => hqi y.symm, ?_⟩
    by_cases h3 : z + 1 = i
    · exact Or.inr (fun y => h2 ⟨h3, y⟩)
    · exact Or.inl h3
/-- taken by a handler, that puts it away first -/
theorem mq_catch {Y : mp_Y} {K : Nat × Nat} {pc nx : Nat} {L : List (Option Value)} {σ : mp_H} {E : String} {Q : mp_QX} {j : Fin 4} {i : Nat} {L' : List (Option Value)} (pre : List ExceptionTableEntry) (x : ExceptionTableEntry) (suf : List ExceptionTableEntry) (hsp : Q.1 = pre ++ x :: suf)
    (hpass : ∀ z ∈ pre, covers z pc = false ∨ (z.catchType ≠ 0 ∧ ∃ nm : String, Cond.classLink Y.1.1.cls z.catchType nm ∈ mp_gt ∧ ∀ s, mp_NC s → va_Nc E nm s)) (hx : covers x pc = true) (h0 : x.catchType ≠ 0) (hlink : Cond.classLink Y.1.1.cls x.catchType E ∈ mp_gt) (hcast : ∀ s, mp_NC s → va_Nw (.castable E E) s)
    (hd : mp_dc Y.1 x.handlerPc (.astore_n j) 1 nx) (hi : (j : Nat) = i) (hn : i < Y.1.2.2.1) (hl : (mp_st0 L i).set i none = L') (kk : mp_AtX Y K nx L' [] σ Q) : mp_AtT Y K pc L E σ Q := by
  obtain ⟨hd, rfl⟩ := hd
  subst hi
  subst hl
  intro G p l e Rm s m args below meth c C CT H locs ls hW hS hL rest q ce hce hcv hcl
  have hw := C.2.2.2.2.2.2.2.1
  refine vx_catch (own := Y.1.1.cls) (name := E) C.2.2.2.2.1 pre x suf (CT.1.trans hsp) (fun z hz => (hpass z hz).imp id (fun h => ⟨h.1, h.2.imp (fun nm h => ⟨hw _ h.1, h.2 s CT.2⟩)⟩)) hx h0 (hw _ hlink) (va_Nw.use rfl (hcast s CT.2)) hce hcv hcl ?_
  obtain ⟨ls', e', h'⟩ := hL.stq (q := q) hn
  have k := kk G p l e Rm s m args below meth c C CT H locs ls' hW hS h'
  intro T hT X
  obtain ⟨t, a, b⟩ := k T hT X
  refine ⟨t, ?_, b⟩
  have hx := C.1
  have hb := C.2.1
  jvm_step X.here [X.here.top, ↓top_set X.here.top, hx, hb, hd, e', mp_tr]
  exact ⟨rfl, a⟩
/-- it goes out of the method -/
theorem mq_out {Y : mp_Y} {K : Nat × Nat} {pc : Nat} {L : List (Option Value)} {σ : mp_H} {E : String} {Rt : mp_An → Prop} {Th : String → mp_H → Prop} (hT : Th E σ) (hK : K.1 ≤ Y.2.2.1 ∧ K.2 ≤ Y.2.2.2) : mp_AtT Y K pc L E σ (mp_QB Y [] Rt Th) := by
  intro G p l e Rm s m args below meth c C CT H locs ls hW hS hL rest q ce hce hcv hcl
  exact vx_out (fun x hx => by rw [CT.1] at hx; cases hx) C.2.2.2.2.2.1 hce hcv hcl (fun t ht _ => ⟨σ, hT, by rw [ht]; exact hW, by rw [ht]; exact hS.1⟩) hS.2.2 hK.1 hK.2
/-- words of a throw -/
def mp_TW (own : String) (ik ic : Nat) (E : String) (names : List String) : Prop := (Bundle.fit E = true ∧ (∀ n ∈ names, Bundle.fit n = true)) ∧ Cond.classLink own ik E ∈ mp_gt ∧ Cond.initialized E ∈ mp_gt ∧ (∀ w ∈ (vx_atS own ic E names).filter goodWord, w ∈ mp_gt) ∧ (∀ w ∈ (vx_atS own ic E names).filter (fun w => !goodWord w), w ∈ Cond.castable E E :: mp_dcl) ∧ names.length = 2 ∧ ∀ s, mp_NC s → va_Nw (.castable E E) s
theorem mp_TW.at {own : String} {ik ic : Nat} {E : String} {names : List String} (h : mp_TW own ik ic E names) {s : State} {args : Array Value} (hw : ∀ w ∈ mp_gt, w.before args s = true) (hN : mp_NC s) : ∀ w ∈ vx_atS own ic E names, w.before args s = true :=
  vx_hat (fun w hq => hw _ (h.2.2.2.1 w hq)) h.2.2.2.2.1 (vx_c (va_Nw.use rfl (h.2.2.2.2.2.2 s hN)) (fun w hq => by
    have h9 := hN.2.2.2.2.2.2.2 w hq
    simp only [mp_dcl, List.mem_cons, List.not_mem_nil, or_false] at hq
    rcases hq with rfl | rfl | rfl <;> exact va_Nw.use rfl h9))
theorem mp_gt_ot {w : Cond} (h : w ∈ mp_gt) : vx_ot w = true := by
  unfold vx_ot
  rw [(List.mem_filter.mp h).2, Bool.or_true]
theorem mp_TW.ot {own : String} {ik ic : Nat} {E : String} {names : List String} (h : mp_TW own ik ic E names) : ∀ w ∈ Cond.classLink own ik E :: Cond.initialized E :: vx_atS own ic E names, vx_ot w = true := by
  intro w hw
  rcases List.mem_cons.mp hw with rfl | hw
  · exact mp_gt_ot h.2.1
  rcases List.mem_cons.mp hw with rfl | hw
  · exact mp_gt_ot h.2.2.1
  by_cases g : goodWord w = true
  · exact mp_gt_ot (h.2.2.2.1 w (List.mem_filter.mpr ⟨hw, g⟩))
  · have h9 := h.2.2.2.2.1 w (List.mem_filter.mpr ⟨hw, by simpa using g⟩)
    simp only [mp_dcl, List.mem_cons, List.not_mem_nil, or_false] at h9
    rcases h9 with rfl | rfl | rfl | rfl <;> rfl
section XT
variable {Y : mp_Y} {K : Nat × Nat} {pc : Nat} {L : List (Option Value)} {σ : mp_H} {Rt : mp_An → Prop} {Th : String → mp_H → Prop} {E text : String} {names : List String} {ik is ic : Nat}
theorem mp_ExH {G : mp_G} {s : State} {σ : mp_H} {H : Heap} (h : mp_Ex G s) (hW : mp_Wd G σ H) : vx_Zq Bundle.tN "UNASSIGNED_STACK" Bundle.steD (fun q => G.1.size ≤ q) s H ∧ vx_Zq Bundle.tN "SUPPRESSED_SENTINEL" Bundle.listD (fun q => G.1.size ≤ q) s H :=
  ⟨h.2.1.kept (fun a ha _ => hW.2.1 a ha), h.2.2.kept (fun a ha _ => hW.2.1 a ha)⟩
theorem mp_pushX {G : mp_G} {σ : mp_H} {H H1 : Heap} (hb : G.2.1 < G.1.size) (h : mp_Wd G σ H) (z : H1.size = H.size + 1) (oq : ∀ q : Nat, q < H.size → H1[q]? = H[q]?) : mp_Wd G (σ ++ [mp_X]) H1 := mp_Wd.push hb h trivial z oq
theorem mq_throwS (hw9 : mp_TW Y.1.1.cls ik ic E names) (htx : (Y.1.1.cls, is, text) ∈ mp_txt) (d0 : mp_dc Y.1 pc (.new ik) 3 (pc + 3)) (d3 : mp_dc Y.1 (pc + 3) .dup 1 (pc + 4)) (d4 : mp_dc Y.1 (pc + 4) (.ldc is) 2 (pc + 6)) (d6 : mp_dc Y.1 (pc + 6) (.invokespecial ic) 3 (pc + 9)) (d9 : mp_dc Y.1 (pc + 9) .athrow 1 (pc + 10))
    (hd : 6 ≤ Y.2.1) (hK : K.1 + 1 ≤ Y.2.2.1 ∧ K.2 + 6 ≤ Y.2.2.2) (hT : Th E (σ ++ [mp_X])) : mp_AtX Y K pc L [] σ (mp_QB Y [] Rt Th) := by
  intro G p l e Rm s m args below meth c C CT H locs ls hW hS hL
  have hw := C.2.2.2.2.2.2.2.1
  have hKn := C.2.2.2.2.2.2.2.2.1
  obtain ⟨-, -, -, -, -, -, -, -, -, hfl, c1, c2, c3, c4⟩ := id C
  obtain ⟨sa, hsa⟩ := hKn.2.2.2.2.2.2.2.1 _ htx
  have hz := mp_ExH hKn.2.2.2.2.2.2.2 hW
  have hn2 := hw9.2.2.2.2.2.1
  exact vy_throwS (A := mp_fr G) (own := Y.1.1.cls) (cls := E) (text := text) (names := names) (sa := sa) C.1 C.2.1 (by unfold Launch.stackTraces; rw [hfl]; decide) C.2.2.2.2.1 hw9.1.1 hw9.1.2 (hw _ hw9.2.1) (hw _ hw9.2.2.1) hsa (hw9.at hw CT.2) hw9.ot hz.1 hz.2 (hL.1.trans C.2.2.2.1.symm) d0.1 d3.1 d4.1 d6.1 d9.1 (fun x hx => by rw [CT.1] at hx; cases hx)
    (by rw [hn2]; omega) (by rw [hn2]; show 0 + (13 * (2 + 1) + 43) ≤ _; omega) (by omega) (by omega) C.2.2.2.2.2.1 (fun t _ h1 h2 => ⟨_, hT, mp_pushX hKn.2.1 hW h1 h2, by have := hS.1; omega⟩) hS.2.2 hK.1 hK.2
theorem mq_throwSW (hw9 : mp_TW Y.1.1.cls ik ic E names) (htx : (Y.1.1.cls, is, text) ∈ mp_txt) (d0 : mp_dc Y.1 pc (.new ik) 3 (pc + 3)) (d3 : mp_dc Y.1 (pc + 3) .dup 1 (pc + 4)) (d4 : mp_dc Y.1 (pc + 4) (.ldc_w is) 3 (pc + 7)) (d7 : mp_dc Y.1 (pc + 7) (.invokespecial ic) 3 (pc + 10)) (d10 : mp_dc Y.1 (pc + 10) .athrow 1 (pc + 11))
    (hd : 6 ≤ Y.2.1) (hK : K.1 + 1 ≤ Y.2.2.1 ∧ K.2 + 6 ≤ Y.2.2.2) (hT : Th E (σ ++ [mp_X])) : mp_AtX Y K pc L [] σ (mp_QB Y [] Rt Th) := by
  intro G p l e Rm s m args below meth c C CT H locs ls hW hS hL
  have hw := C.2.2.2.2.2.2.2.1
  have hKn := C.2.2.2.2.2.2.2.2.1
  obtain ⟨-, -, -, -, -, -, -, -, -, hfl, c1, c2, c3, c4⟩ := id C
  obtain ⟨sa, hsa⟩ := hKn.2.2.2.2.2.2.2.1 _ htx
  have hz := mp_ExH hKn.2.2.2.2.2.2.2 hW
  have hn2 := hw9.2.2.2.2.2.1
  exact vy_throwSW (A := mp_fr G) (own := Y.1.1.cls) (cls := E) (text := text) (names := names) (sa := sa) C.1 C.2.1 (by unfold Launch.stackTraces; rw [hfl]; decide) C.2.2.2.2.1 hw9.1.1 hw9.1.2 (hw _ hw9.2.1) (hw _ hw9.2.2.1) hsa (hw9.at hw CT.2) hw9.ot hz.1 hz.2 (hL.1.trans C.2.2.2.1.symm) d0.1 d3.1 d4.1 d7.1 d10.1 (fun x hx => by rw [CT.1] at hx; cases hx)
    (by rw [hn2]; omega) (by rw [hn2]; show 0 + (13 * (2 + 1) + 43) ≤ _; omega) (by omega) (by omega) C.2.2.2.2.2.1 (fun t _ h1 h2 => ⟨_, hT, mp_pushX hKn.2.1 hW h1 h2, by have := hS.1; omega⟩) hS.2.2 hK.1 hK.2
end XT
section XC9
variable {p : Program} {l : Launch} {e : Env} {R : Room} {s : State} {m : MethodId} {args : Array Value} {below : List Frame} {meth : Method} {c : Code} {H : Heap} {cells slots : Nat}
theorem vy_callVU {T : State} {locs : List Loc} (X : Stand p l e R s m args below meth c T locs cells slots) (hexec : p.tables.exec = Jvm.exec) {own C owner : String} {index : Nat} {x y : MethodName} {bytes : ByteArray} {maxL : Nat} {ret : Option FieldType}
    (hown : s.vm.findClass own = some m.cls) (hlink : (Cond.methodLink own index x).before args s = true) (hsame : (Cond.sameMethod x.cls owner x.name x.desc).before args s = true)
    (hd0 : va_Decl s ⟨owner, x.name, x.desc⟩) (howner : owner ≠ "java/lang/invoke/MethodHandle" ∧ owner ≠ "java/lang/invoke/VarHandle")
    (hsel : (Cond.selects C x y).before args s = true) (hinst : (Cond.instanceMethod y).before args s = true) (hcode : (Cond.code y bytes maxL ret).before args s = true)
    {W9 : Nat} {Pre : Pt → Array Value → Prop} {Post : Pt → Array Value → Option Value → Pt → Prop} {PostX : Pt → Array Value → Addr → Pt → Prop} (hK : vx_Back l R p e below s args y 3 W9 Pre Post PostX)
    {b : Addr} {cellB : Cell} (hcell : T.heap[b]? = some cellB) (hobj : cellB.vm.isStatics = false) (hcls : s.vm.findClass C = some cellB.cls)
    {g : JFrame} (hg : g.method = m) (hsize : g.locals.size = c.maxLocals) {argsL rest : List Value} (hlen : ∀ sig, parseMethodDescriptor x.desc = some sig → argsL.length = sig.parameters.length)
    (hstack : g.stack = argsL.reverse ++ .ref b :: rest) (hW : 2 * g.monitorRoom + (rest.map fun v => v.category).sum ≤ W9) (hdg : decode c.code g.pc = .ok (.invokevirtual index, 3))
    (hpre : ∀ vm₁, s.WarmedH vm₁ → Pre ⟨T.setVm vm₁, locs, cells, slots⟩ (Value.ref b :: argsL).toArray) :
    (∃ (v : Option Value) (vm₁ : Vm) (B : Pt), s.WarmedH vm₁ ∧ Stand p l e R s m args below meth c B.U B.locs B.cells B.slots ∧ Post ⟨T.setVm vm₁, locs, cells, slots⟩ (Value.ref b :: argsL).toArray v B ∧
      ∀ target, Steps p.tables e below (B.U.setTop { g with pc := g.pc + 3, stack := v.toList ++ rest }) target → Steps p.tables e below (T.setTop g) target) ∨
    (∃ (q : Addr) (vm₁ : Vm) (B : Pt), s.WarmedH vm₁ ∧ Stand p l e R s m args below meth c B.U B.locs B.cells B.slots ∧ PostX ⟨T.setVm vm₁, locs, cells, slots⟩ (Value.ref b :: argsL).toArray q B ∧
      Steps p.tables e below (T.setTop g) ((B.U.setTop { g with stack := rest }).pushFrame (.throwing q))) := by
  obtain ⟨r0, r, hn, hrm, hstR, hsigR⟩ := hd0
  obtain ⟨cn, ck, r1, hcn, hck, hni, hf, hn1⟩ := Cond.sameMethod_found hsame
  cases hn.symm.trans hn1
  obtain ⟨mk, methM, hnamed, hmethM, -, habM⟩ := Cond.instanceMethod_spec hinst
  obtain ⟨c2, r2, m2, q1, q2, q3, q4, kP, hkP, hkPi⟩ := Cond.selects_spec hsel
  cases hcls.symm.trans q1
  cases hf.symm.trans q2
  cases hnamed.symm.trans q3
  have hselP : selectMethod e.platform s.vm cellB.cls r0 = .method mk := by rw [Launch.admits_selectMethod X.admits]; exact q4
  obtain ⟨vm₁, X₁, hstep₁⟩ := X.invokevirtualUp hexec hown hlink hsame howner hn hrm hstR (a := b) (cell := cellB) hcell
    (fun z h => by rw [h] at hobj; cases hobj) hselP hmethM habM hkP hkPi (g := g) hg (argsL := argsL) (rest := rest) (hlen _ hsigR) hstack hdg
  rcases hK m meth c ⟨T.setVm vm₁, locs, cells, slots⟩ { g with stack := rest } (.invokevirtual index) mk (Value.ref b :: argsL).toArray X₁ hg hsize hdg hW (X₁.named hnamed) (hpre vm₁ X₁.warmed) with ⟨v, B, X', hpost, hsteps⟩ | ⟨q, B, X', hpost, hsteps⟩
  · exact Or.inl ⟨v, vm₁, B, X₁.warmed, X', hpost, fun target h => hstep₁ _ fun acts => by rw [doInvoke_state]; exact hsteps.trans h⟩
  · exact Or.inr ⟨q, vm₁, B, X₁.warmed, X', hpost, hstep₁ _ fun acts => by rw [doInvoke_state]; exact hsteps⟩
theorem vy_runU {locs : List Loc} {x y : MethodName} {bytes cc : ByteArray} {maxL nL mc ms n index : Nat} {ret : Option FieldType} {ws : List Cond} {rm : Room} {Pc : Array Value → State → Prop} {Qc : Array Value → State → Outcome → State → Prop} {XC : String → State → State → Prop} {free : Addr → Prop} {Ts : List Cond} {own C owner : String} {b : Addr} {As rest : List Value} {g : JFrame}
    (S : CallFix p m c cc nL s args Ts own) (hM : vx_Met l y ws rm Pc Qc XC mc ms free) (cw : va_CU R s args own C owner index x y bytes maxL ret ws rm mc ms n) (hp : PreV s H C b Pc As)
    (hg : g.method = m) (hn : As.length = n) (hsize : g.locals.size = nL) (hstack : g.stack = As.reverse ++ .ref b :: rest) (hW : 2 * g.monitorRoom + (rest.map fun v => v.category).sum ≤ 8) (hdg : decode cc g.pc = .ok (.invokevirtual index, 3)) (hf : cells + mc ≤ R.cells ∧ slots + ms ≤ R.slots) :
    vx_Run p l e R s m args below meth c H locs cells slots mc ms g rest (Qc (Value.ref b :: As).toArray) XC free := by
  obtain ⟨hrc, hrs, hfr, hlo, hws, hcw⟩ := cw.back
  have hini := cw.init
  have hK : vx_Back l R p e below s args y 3 8 (PreOf R mc ms Pc) (PostOf Qc mc ms free) (vx_Post XC mc ms free) := vx_back (bytes := bytes) (maxL := maxL) (ret := ret) hM hp.1 hrc hrs hfr hlo hws hcw (fun a' U hW => word_at hW (Or.inl (by first | rfl | simp [Cond.onTables, Cond.keeps, Cond.steady])) hini)
  obtain ⟨hx, hb, hml, ho, -⟩ := S
  obtain ⟨-, ⟨cellB, hcB, hoB, hclB⟩, hPc⟩ := hp
  intro T hT X
  rcases vy_callVU X hx (C := C) (owner := owner) (bytes := bytes) (maxL := maxL) (ret := ret) ho cw.link cw.same cw.decl cw.notMH cw.sel cw.inst cw.code hK (by rw [hT]; exact hcB) hoB hclB hg (hsize.trans hml.symm) (argsL := As) (rest := rest) (fun sig h => hn.trans (cw.len sig h)) hstack hW (by rw [hb]; exact hdg)
    (fun vm₁ hW₁ => ⟨hf.1, hf.2, hPc (T.setVm vm₁) hT hW₁⟩) with ⟨v, vm₁, ⟨U', l2, c2, s2⟩, hW₁, X', ⟨g', mk, t, L, e1, e2, hq, h1, hL, h2, h3⟩, st⟩ | ⟨q, vm₁, ⟨U', l2, c2, s2⟩, hW₁, X', ⟨g', mk, t, L, E, ce, e1, e2, hq, hce, hcv, hcl, h1, hL, h2, h3⟩, st⟩
  · dsimp only [Pt.U, Pt.locs, Pt.cells, Pt.slots] at X' e1 e2 h1 h2 h3 st
    subst h1; subst h2; subst h3
    exact Or.inl ⟨v, (T.setVm vm₁).calling g' mk (Value.ref b :: As).toArray, t, U', L, hT, X', hL, e1, e2, hq, st⟩
  · dsimp only [Pt.U, Pt.locs, Pt.cells, Pt.slots] at X' e1 e2 h1 h2 h3 st hcl
    subst h1; subst h2; subst h3
    exact Or.inr ⟨q, (T.setVm vm₁).calling g' mk (Value.ref b :: As).toArray, t, U', L, E, ce, hT, X', hL, e1, e2, hq, hce, hcv, vx_cls hW₁ hcl, st⟩
end XC9
/-- behind a call that may throw -/
theorem mq_goX {G : mp_G} {p : Program} {l : Launch} {e : Env} {Rm : Room} {s : State} {m : MethodId} {args : Array Value} {below : List Frame} {meth : Method} {c : Code} {H : Heap} {locs : List Loc} {k n mc ms pc : Nat} {ls : Array Slot} {st0 rest : List Value} {Q : State → Prop} {σ : mp_H} {Rt : mp_An → Prop} {Th : String → mp_H → Prop} {a : Array Value}
    (hW : mp_Wd G σ H) (hS : va_S (mp_fr G) s.heap H locs) (hr : vx_Run p l e Rm s m args below meth c H locs k n mc ms (F0 m pc ls st0) rest (mp_QcX G Rt a) (mp_XC G Th) (mp_fr G))
    (kk : ∀ A1, Rt A1 → ∀ (H1 : Heap) (locs1 : List Loc), mp_Wd G A1.2 H1 → va_S (mp_fr G) s.heap H1 locs1 → W p l e Rm s m args below meth c H1 locs1 (k + mc) (n + ms) Q (F0 m (pc + 3) ls ((A1.1.map (mp_tr G)).toList ++ rest)))
    (kx : ∀ E τ, Th E τ → ∀ (H1 : Heap) (locs1 : List Loc) (q : Addr) (ce : Cell), mp_Wd G τ H1 → va_S (mp_fr G) s.heap H1 locs1 → H1[q]? = some ce → ce.vm = .none → s.vm.findClass E = some ce.cls → vx_W p l e Rm s m args below meth c H1 locs1 (k + mc) (n + ms) Q (F0 m pc ls rest) q) : W p l e Rm s m args below meth c H locs k n Q (F0 m pc ls st0) := by
  have hS1 : ∀ {τ : mp_H} {H1 : Heap} {L : List Loc}, mp_Wd G τ H1 → H.size ≤ H1.size → (∀ q ∈ L, mp_fr G q.base) → va_S (mp_fr G) s.heap H1 (locs ++ L) := fun {τ H1 L} hw hz hL => by
    refine ⟨Nat.le_trans hS.1 hz, fun q h1 h2 => ?_, fun q hq => ?_⟩
    · have hq : q < G.1.size := Nat.not_le.mp h2
      rw [hw.2.1 q hq, ← hW.2.1 q hq]
      exact hS.2.1 q h1 h2
    · rcases List.mem_append.mp hq with h | h
      · exact hS.2.2 q h
      · exact hL q h
  intro T hT X
  rcases hr T hT X with ⟨v, st₀, t, T', L, h0, X', hL, e1, e2, ⟨A1, hR, hv, hw, hz⟩, st⟩ | ⟨q, st₀, t, T', L, E, ce, h0, X', hL, e1, e2, ⟨τ, hTh, hw, hz⟩, hce, hcv, hcl, st⟩
  · cases hv
    rw [h0] at hz
    rw [← e1] at hw hz
    obtain ⟨t2, a1, b1⟩ := kk A1 hR T'.heap (locs ++ L) hw (hS1 hw hz hL) T' rfl X'
    exact ⟨t2, st t2 a1, b1⟩
  · rw [h0] at hz
    rw [← e1] at hw hz hce
    obtain ⟨t2, a1, b1⟩ := kx E τ hTh T'.heap (locs ++ L) q ce hw (hS1 hw hz hL) hce hcv hcl T' rfl X'
    exact ⟨t2, st.trans a1, b1⟩
theorem mq_blind {G : mp_G} {as : List Value} {σ : mp_H} : FrameBlind (va_Pc (as.map (mp_tr G)) (fun U => (mp_Kn G U ∧ mp_NC U) ∧ mp_Wd G σ U.heap)) := fun a U g mk h => by
  obtain ⟨h1, h2, h3⟩ := h
  exact ⟨h1, ⟨h2.1.calling, h2.2.calling⟩, h3⟩
theorem mq_pre {G : mp_G} {s : State} {as : List Value} {σ : mp_H} {H : Heap} (hK : mp_Kn G s) (hN : mp_NC s) (hW : mp_Wd G σ H) : ∀ U : State, U.heap = H → s.WarmedH U.vm → va_Pc (as.map (mp_tr G)) (fun U => (mp_Kn G U ∧ mp_NC U) ∧ mp_Wd G σ U.heap) (as.map (mp_tr G)).toArray U := fun U hU hw => ⟨rfl, ⟨hK.warm hw, hN.warm hw⟩, by rw [hU]; exact hW⟩
section XD
variable {Y : mp_Y} {K K' : Nat × Nat} {pc nx : Nat} {L : List (Option Value)} {st st0 : List Value} {σ : mp_H} {Q : mp_QX} {z : mp_Y} {as : List Value} {Rt : mp_An → Prop} {Th : String → mp_H → Prop} {idx : Nat}
/-- a call of a method, by the receiver's class, that may throw -/
theorem mq_invUX {k ci : Nat} {fs : List Value} {r : vw_C} {x : mp_M} (hd : mp_dc Y.1 pc (.invokevirtual idx) 3 nx) (hs : mp_SU Y.1.1.cls idx x r.1 z.1 as.length) (ho : σ[k]? = some (mp_O ci fs)) (hr : mp_cl[ci]? = some r) (hc : mp_CallX z (mp_ws z.1) (Value.ref k :: as) σ Rt Th) (hR : mp_rmOk Y K z st) (h0 : as.reverse ++ Value.ref k :: st = st0) (hK : (K.1 + z.2.2.1, K.2 + z.2.2.2) = K')
    (kk : ∀ A1, Rt A1 → mp_AtX Y K' nx L (A1.1.toList ++ st) A1.2 Q) (kx : ∀ E τ, Th E τ → mp_AtT Y K' pc L E τ Q) : mp_AtX Y K pc L st0 σ Q := by
  subst h0
  subst hK
  obtain ⟨hd, rfl⟩ := hd
  obtain ⟨hb, hbx, hin, hinx, hse, hsm, hlk⟩ := hs
  intro G p l e Rm s m args below meth c C CT H locs ls hW hS hL
  have hKn := C.2.2.2.2.2.2.2.2.1
  have hw := C.2.2.2.2.2.2.2.1
  obtain ⟨r1, r2, r3, r4⟩ := mp_room C hR
  refine mq_goX (mc := z.2.2.1) (ms := z.2.2.2) (a := (Value.ref (mp_ad G k) :: as.map (mp_tr G)).toArray) (rest := st.map (mp_tr G)) hW hS (Rt := Rt) (Th := Th) ?_ (fun A1 hA1 H1 locs1 g1 g2 => ?_) (fun E τ hT H1 locs1 q ce g1 g2 g3 g4 g5 => kx E τ hT G p l e Rm s m args below meth c C CT H1 locs1 ls g1 g2 hL _ q ce g3 g4 g5)
  rotate_left
  · rw [mp_after (A1 := A1) (st := st) rfl]
    exact kk A1 hA1 G p l e Rm s m args below meth c C CT H1 locs1 ls g1 g2 hL
  · have hcd := hw _ hb.1
    have hrev : (as.map (mp_tr G)).length = as.length := List.length_map _
    have hstk : (F0 m pc ls ((as.reverse ++ Value.ref k :: st).map (mp_tr G))).stack = (as.map (mp_tr G)).reverse ++ Value.ref (mp_ad G k) :: st.map (mp_tr G) := by
      show (as.reverse ++ Value.ref k :: st).map (mp_tr G) = _
      rw [List.map_append, List.map_reverse]; rfl
    exact vy_runU ⟨C.1, C.2.1, C.2.2.2.1, C.2.2.2.2.1, hw⟩ (hc G l C.2.2.2.2.2.2.2.2.2.1) (C := r.1) (owner := x.1.cls) (x := x.1) ⟨⟨rfl, rfl, r1, r2, pay_in hw (mp_good hb), List.mem_cons_self⟩, hcd, hw _ hb.2.1, hbx.2.2.1, hbx.sig, hw _ hlk, hw _ hsm, va_Decl.of (hw _ hinx) (hw _ hbx.1), hw _ hse, hw _ hin⟩ ⟨mq_blind, mp_rcv hKn hW ho hr, mq_pre (as := Value.ref k :: as) hKn CT.2 hW⟩ rfl hrev hL.1 hstk (lv_room (by rw [mp_catsum]; exact hR.2.2.2.2)) hd ⟨r3, r4⟩
/-- .. of a class's own method -/
theorem mq_invVX {k ci : Nat} {fs : List Value} {r : vw_C} (hd : mp_dc Y.1 pc (.invokevirtual idx) 3 nx) (hs : mp_SV Y.1.1.cls idx z.1 as.length) (ho : σ[k]? = some (mp_O ci fs)) (hr : mp_cl[ci]? = some r) (hrc : r.1 = z.1.1.cls) (hc : mp_CallX z (mp_ws z.1) (Value.ref k :: as) σ Rt Th) (hR : mp_rmOk Y K z st) (h0 : as.reverse ++ Value.ref k :: st = st0) (hK : (K.1 + z.2.2.1, K.2 + z.2.2.2) = K')
    (kk : ∀ A1, Rt A1 → mp_AtX Y K' nx L (A1.1.toList ++ st) A1.2 Q) (kx : ∀ E τ, Th E τ → mp_AtT Y K' pc L E τ Q) : mp_AtX Y K pc L st0 σ Q := by
  subst h0
  subst hK
  obtain ⟨hd, rfl⟩ := hd
  obtain ⟨hb, hin, hse, hlk⟩ := hs
  intro G p l e Rm s m args below meth c C CT H locs ls hW hS hL
  have hKn := C.2.2.2.2.2.2.2.2.1
  have hw := C.2.2.2.2.2.2.2.1
  obtain ⟨r1, r2, r3, r4⟩ := mp_room C hR
  refine mq_goX (mc := z.2.2.1) (ms := z.2.2.2) (a := (Value.ref (mp_ad G k) :: as.map (mp_tr G)).toArray) (rest := st.map (mp_tr G)) hW hS (Rt := Rt) (Th := Th) ?_ (fun A1 hA1 H1 locs1 g1 g2 => ?_) (fun E τ hT H1 locs1 q ce g1 g2 g3 g4 g5 => kx E τ hT G p l e Rm s m args below meth c C CT H1 locs1 ls g1 g2 hL _ q ce g3 g4 g5)
  rotate_left
  · rw [mp_after (A1 := A1) (st := st) rfl]
    exact kk A1 hA1 G p l e Rm s m args below meth c C CT H1 locs1 ls g1 g2 hL
  · have hcd := hw _ hb.1
    have hrev : (as.map (mp_tr G)).length = as.length := List.length_map _
    have hstk : (F0 m pc ls ((as.reverse ++ Value.ref k :: st).map (mp_tr G))).stack = (as.map (mp_tr G)).reverse ++ Value.ref (mp_ad G k) :: st.map (mp_tr G) := by
      show (as.reverse ++ Value.ref k :: st).map (mp_tr G) = _
      rw [List.map_append, List.map_reverse]; rfl
    exact vx_runV ⟨C.1, C.2.1, C.2.2.2.1, C.2.2.2.2.1, hw⟩ (hc G l C.2.2.2.2.2.2.2.2.2.1) (C := z.1.1.cls) ⟨⟨rfl, rfl, r1, r2, pay_in hw (mp_good hb), List.mem_cons_self, hcd, hw _ hb.2.1, hb.2.2.1, hb.sig, hw _ hlk⟩, hw _ hin, hw _ hse⟩ ⟨mq_blind, by rw [← hrc]; exact mp_rcv hKn hW ho hr, mq_pre (as := Value.ref k :: as) hKn CT.2 hW⟩ rfl hrev hL.1 hstk (lv_room (by rw [mp_catsum]; exact hR.2.2.2.2)) hd ⟨r3, r4⟩
/-- what a callee with handlers brings -/
def mp_SBH (z : mp_M) (hh : List (Nat × Nat × Nat × Nat)) (n : Nat) : Prop := Cond.codeWith z.1 z.2.1 z.2.2.1 z.2.2.2 hh ∈ mp_gt ∧ Cond.initialized z.1.cls ∈ mp_gt ∧ (z.1.cls ≠ "java/lang/invoke/MethodHandle" ∧ z.1.cls ≠ "java/lang/invoke/VarHandle") ∧ (parseMethodDescriptor z.1.desc).map (fun d => d.parameters.length) = some n
theorem mp_SBH.sig {z : mp_M} {hh : List (Nat × Nat × Nat × Nat)} {n : Nat} (h : mp_SBH z hh n) : ∀ sig, parseMethodDescriptor z.1.desc = some sig → n = sig.parameters.length := fun sig hs => by
  have h2 := h.2.2.2
  rw [hs] at h2
  exact (Option.some.inj h2).symm
theorem mp_goodH {z : mp_M} {hh : List (Nat × Nat × Nat × Nat)} {n : Nat} (h : mp_SBH z hh n) : GoodIn mp_gt (Cond.codeWith z.1 z.2.1 z.2.2.1 z.2.2.2 hh :: mp_gt) := fun w hw => by
  rcases List.mem_cons.mp hw with rfl | hw
  · exact ⟨h.1, mp_gt_good _ h.1⟩
  · exact ⟨hw, mp_gt_good _ hw⟩
/-- a call of a class's own method that has handlers -/
theorem mq_invVH {k ci : Nat} {fs : List Value} {r : vw_C} {hh : List (Nat × Nat × Nat × Nat)} (hd : mp_dc Y.1 pc (.invokevirtual idx) 3 nx) (hs : mp_SBH z.1 hh as.length ∧ Cond.instanceMethod z.1.1 ∈ mp_gt ∧ Cond.selects z.1.1.cls z.1.1 z.1.1 ∈ mp_gt ∧ Cond.methodLink Y.1.1.cls idx z.1.1 ∈ mp_gt) (ho : σ[k]? = some (mp_O ci fs)) (hr : mp_cl[ci]? = some r) (hrc : r.1 = z.1.1.cls) (hc : mp_CallX z (Cond.codeWith z.1.1 z.1.2.1 z.1.2.2.1 z.1.2.2.2 hh :: mp_gt) (Value.ref k :: as) σ Rt Th) (hR : mp_rmOk Y K z st) (h0 : as.reverse ++ Value.ref k :: st = st0) (hK : (K.1 + z.2.2.1, K.2 + z.2.2.2) = K')
    (kk : ∀ A1, Rt A1 → mp_AtX Y K' nx L (A1.1.toList ++ st) A1.2 Q) (kx : ∀ E τ, Th E τ → mp_AtT Y K' pc L E τ Q) : mp_AtX Y K pc L st0 σ Q := by
  subst h0
  subst hK
  obtain ⟨hd, rfl⟩ := hd
  obtain ⟨hb, hin, hse, hlk⟩ := hs
  intro G p l e Rm s m args below meth c C CT H locs ls hW hS hL
  have hKn := C.2.2.2.2.2.2.2.2.1
  have hw := C.2.2.2.2.2.2.2.1
  obtain ⟨r1, r2, r3, r4⟩ := mp_room C hR
  refine mq_goX (mc := z.2.2.1) (ms := z.2.2.2) (a := (Value.ref (mp_ad G k) :: as.map (mp_tr G)).toArray) (rest := st.map (mp_tr G)) hW hS (Rt := Rt) (Th := Th) ?_ (fun A1 hA1 H1 locs1 g1 g2 => ?_) (fun E τ hT H1 locs1 q ce g1 g2 g3 g4 g5 => kx E τ hT G p l e Rm s m args below meth c C CT H1 locs1 ls g1 g2 hL _ q ce g3 g4 g5)
  rotate_left
  · rw [mp_after (A1 := A1) (st := st) rfl]
    exact kk A1 hA1 G p l e Rm s m args below meth c C CT H1 locs1 ls g1 g2 hL
  · have hcd := hw _ hb.1
    have hrev : (as.map (mp_tr G)).length = as.length := List.length_map _
    have hstk : (F0 m pc ls ((as.reverse ++ Value.ref k :: st).map (mp_tr G))).stack = (as.map (mp_tr G)).reverse ++ Value.ref (mp_ad G k) :: st.map (mp_tr G) := by
      show (as.reverse ++ Value.ref k :: st).map (mp_tr G) = _
      rw [List.map_append, List.map_reverse]; rfl
    exact vx_runVX ⟨C.1, C.2.1, C.2.2.2.1, C.2.2.2.2.1, hw⟩ (hc G l C.2.2.2.2.2.2.2.2.2.1) (C := z.1.1.cls) ⟨⟨rfl, rfl, r1, r2, pay_in hw (mp_goodH hb), List.mem_cons_self⟩, hcd, hw _ hb.2.1, hb.2.2.1, hb.sig, hw _ hlk, hw _ hin, hw _ hse⟩ ⟨mq_blind, by rw [← hrc]; exact mp_rcv hKn hW ho hr, mq_pre (as := Value.ref k :: as) hKn CT.2 hW⟩ rfl hrev hL.1 hstk (lv_room (by rw [mp_catsum]; exact hR.2.2.2.2)) hd ⟨r3, r4⟩
/-- a call of a static method that has handlers -/
theorem mq_invSH {hh : List (Nat × Nat × Nat × Nat)} (hd : mp_dc Y.1 pc (.invokestatic idx) 3 nx) (hs : mp_SBH z.1 hh as.length ∧ Cond.static z.1.1 ∈ mp_gt ∧ Cond.methodLink Y.1.1.cls idx z.1.1 ∈ mp_gt) (hc : mp_CallX z (Cond.codeWith z.1.1 z.1.2.1 z.1.2.2.1 z.1.2.2.2 hh :: mp_gt) as σ Rt Th) (hR : mp_rmOk Y K z st) (h0 : as.reverse ++ st = st0) (hK : (K.1 + z.2.2.1, K.2 + z.2.2.2) = K')
    (kk : ∀ A1, Rt A1 → mp_AtX Y K' nx L (A1.1.toList ++ st) A1.2 Q) (kx : ∀ E τ, Th E τ → mp_AtT Y K' pc L E τ Q) : mp_AtX Y K pc L st0 σ Q := by
  subst h0
  subst hK
  obtain ⟨hd, rfl⟩ := hd
  obtain ⟨hb, hstt, hlk⟩ := hs
  intro G p l e Rm s m args below meth c C CT H locs ls hW hS hL
  have hKn := C.2.2.2.2.2.2.2.2.1
  have hw := C.2.2.2.2.2.2.2.1
  obtain ⟨r1, r2, r3, r4⟩ := mp_room C hR
  refine mq_goX (mc := z.2.2.1) (ms := z.2.2.2) (a := (as.map (mp_tr G)).toArray) (rest := st.map (mp_tr G)) hW hS (Rt := Rt) (Th := Th) ?_ (fun A1 hA1 H1 locs1 g1 g2 => ?_) (fun E τ hT H1 locs1 q ce g1 g2 g3 g4 g5 => kx E τ hT G p l e Rm s m args below meth c C CT H1 locs1 ls g1 g2 hL _ q ce g3 g4 g5)
  rotate_left
  · rw [mp_after (A1 := A1) (st := st) rfl]
    exact kk A1 hA1 G p l e Rm s m args below meth c C CT H1 locs1 ls g1 g2 hL
  · have hcd := hw _ hb.1
    have hrev : (as.map (mp_tr G)).length = as.length := List.length_map _
    have hstk : (F0 m pc ls ((as.reverse ++ st).map (mp_tr G))).stack = (as.map (mp_tr G)).reverse ++ st.map (mp_tr G) := by
      show (as.reverse ++ st).map (mp_tr G) = _
      rw [List.map_append, List.map_reverse]
    exact vx_runSX ⟨C.1, C.2.1, C.2.2.2.1, C.2.2.2.2.1, hw⟩ (hc G l C.2.2.2.2.2.2.2.2.2.1) ⟨⟨rfl, rfl, r1, r2, pay_in hw (mp_goodH hb), List.mem_cons_self⟩, hcd, hw _ hb.2.1, hb.2.2.1, hb.sig, hw _ hlk, hw _ hstt⟩ ⟨mq_blind, mq_pre hKn CT.2 hW⟩ rfl hrev hL.1 hstk (lv_room (by rw [mp_catsum]; exact hR.2.2.2.2)) hd ⟨r3, r4⟩
end XD
