/-! ===== the pure picture: a list of cells (place 0: the script; place k + 1: the k-th cell made since the law's start), numbers as Int ===== -/
/-- the heap at the law's start, the script's cell, classes and slots, array classes -/
abbrev mp_G : Type := Heap × Nat × va_G × (Nat → ClassId)
def mp_ad (G : mp_G) : Nat → Nat
  | 0 => G.2.1
  | k + 1 => G.1.size + k
def mp_tr (G : mp_G) (v : Value) : Value := match v with
  | .ref k => .ref (mp_ad G k)
  | w => w
abbrev mp_i (z : Int) : Value := .int (Int32.ofInt z)
abbrev mp_l (z : Int) : Value := .long (Int64.ofInt z)
abbrev mp_C : Type := (Nat × List Value) ⊕ (Nat × (Nat → Int)) ⊕ (Nat × (Nat → Int)) ⊕ (Nat × Nat × (Nat → Option Nat)) ⊕ (Nat × (Nat → Int)) ⊕ Unit
abbrev mp_O (ci : Nat) (fs : List Value) : mp_C := .inl (ci, fs)
abbrev mp_I (n : Nat) (f : Nat → Int) : mp_C := .inr (.inl (n, f))
abbrev mp_J (n : Nat) (f : Nat → Int) : mp_C := .inr (.inr (.inl (n, f)))
abbrev mp_R (t n : Nat) (f : Nat → Option Nat) : mp_C := .inr (.inr (.inr (.inl (t, n, f))))
abbrev mp_S (n : Nat) (f : Nat → Int) : mp_C := .inr (.inr (.inr (.inr (.inl (n, f)))))
abbrev mp_X : mp_C := .inr (.inr (.inr (.inr (.inr ()))))
abbrev mp_H : Type := List mp_C
abbrev mp_tys (G : mp_G) : List (ClassId × FieldType) := [(G.2.2.2 0, .int), (G.2.2.2 1, .long), (G.2.2.2 2, .object RX4), (G.2.2.2 3, .object RX5)]
def mp_hc (G : mp_G) (a : Nat) (c : mp_C) (H : Heap) : Prop := match c with
  | .inl o => ∃ r : vw_C, mp_cl[o.1]? = some r ∧ t_OB a (G.2.2.1.1 o.1) r.2.2 (G.2.2.1.2 o.1) H (vp_V (o.2.map (mp_tr G)))
  | .inr (.inl q) => H[a]? = some (vp_cell (G.2.2.2 0) (q.1, .inl (fun j => Int32.ofInt (q.2 j))))
  | .inr (.inr (.inl q)) => H[a]? = some (vp_cell (G.2.2.2 1) (q.1, .inr (.inl (fun j => Int64.ofInt (q.2 j)))))
  | .inr (.inr (.inr (.inl q))) => H[a]? = some (vp_cell (G.2.2.2 (2 + q.1)) (q.2.1, .inr (.inr (.inr (.inr (fun j => (q.2.2 j).map (mp_ad G)))))))
  | .inr (.inr (.inr (.inr (.inl q)))) => ∃ scr : Cell, H[a]? = some scr ∧ scr.slots.size = q.1 ∧ ∀ j, j < q.1 → scr.slots[j]? = some (.int (Int32.ofInt (q.2 j)))
  | .inr (.inr (.inr (.inr (.inr _)))) => True
/-- the heap holds the picture; what was there before the law began is as it was -/
def mp_Wd (G : mp_G) (σ : mp_H) (H : Heap) : Prop := H.size + 1 = G.1.size + σ.length ∧ (∀ q, q < G.1.size → H[q]? = G.1[q]?) ∧ ∀ (k : Nat) (c : mp_C), σ[k]? = some c → mp_hc G (mp_ad G k) c H
abbrev mp_nest : List Cond := [.methodLinkNest RX11 53 yX5_init RX11, .methodLinkNest RX7 47 yX11_isBelow RX11, .methodLinkNest RX7 51 yX11_isSomebodyOrNobody RX11, .methodLinkNest RX7 55 yX11_madeOf RX11, .methodLinkNest RX6 34 yX11_isBelow RX11, .methodLinkNest RX6 52 yX11_hasBit RX11, .methodLinkNest RX5 49 yX11_isBelow RX11]
abbrev mp_cast : List (String × String) := [(RX9, RX4), (RX1, RX4), (RX0, RX4), (RX3, RX4), (RX8, RX4), (RX10, RX4), (RX2, RX4)]
abbrev mp_txt : List (String × Nat × String) := [("MeteorsAreProposals$LongOne", 31, "the failure of a long one"), ("MeteorsAreProposals$Slow", 28, "the failure of a slow one"), ("MeteorsAreProposals$Meteor", 20, "the failure of a meteor"), ("MeteorsAreProposals", 332, "no such shelf"), ("MeteorsAreProposals", 339, "no row, or no such place in it")]
/-- the five texts of exceptions, and the two statics of Throwable -/
def mp_Ex (G : mp_G) (s : State) : Prop :=
  (∀ q ∈ mp_txt, ∃ sa : Nat, vk_R q.1 q.2.1 q.2.2 sa s) ∧
  vx_Zq Bundle.tN "UNASSIGNED_STACK" Bundle.steD (fun q => G.1.size ≤ q) s G.1 ∧ vx_Zq Bundle.tN "SUPPRESSED_SENTINEL" Bundle.listD (fun q => G.1.size ≤ q) s G.1
def mp_Kn (G : mp_G) (s : State) : Prop :=
  va_K G.2.2.1 mp_cl (mp_tys G) s ∧ G.2.1 < G.1.size ∧ (∀ w ∈ mp_nest, va_Nw w s) ∧ (∀ q ∈ mp_cast, va_Nw (.castable q.1 q.2) s) ∧ va_AO RX4 s ∧ va_AO RX5 s ∧
  (∀ scr : Cell, G.1[G.2.1]? = some scr → s.isArrayOf scr .int ∧ scr.vm ≠ .unknown) ∧ mp_Ex G s
theorem mp_Kn.warm {G : mp_G} {s U : State} (hW : s.WarmedH U.vm) (h : mp_Kn G s) : mp_Kn G U := by
  obtain ⟨h1, h2, h3, h4, h5, h6, h7, h8⟩ := h
  refine ⟨va_K.moved hW.alike h1, h2, fun w hw => ?_, fun q hq => va_Nw.warmC hW (h4 q hq), va_AO.moved hW.alike h5, va_AO.moved hW.alike h6, fun scr hs => ⟨State.isArrayOf_alike hW.alike (h7 scr hs).1, (h7 scr hs).2⟩, fun q hq => (h8.1 q hq).imp (fun _ h => vk_R.warm hW h), vx_Zq.moved hW.alike h8.2.1, vx_Zq.moved hW.alike h8.2.2⟩
  have h9 := h3 w hw
  simp only [mp_nest, List.mem_cons, List.not_mem_nil, or_false] at hw
  rcases hw with rfl | rfl | rfl | rfl | rfl | rfl | rfl <;> exact va_Nw.warmM hW h9
theorem mp_Kn.calling {G : mp_G} {U : State} {g : JFrame} {mk : MethodId} {a : Array Value} (h : mp_Kn G U) : mp_Kn G (U.calling g mk a) := h.warm (s := U) (U := U.calling g mk a) (State.WarmedH.refl U)
abbrev mp_fr (G : mp_G) : Nat → Prop := fun q => G.1.size ≤ q
/-- locals by their places -/
def mp_Lr (G : mp_G) (L : List (Option Value)) (ls : Array Slot) (nL : Nat) : Prop := ls.size = nL ∧ lv_wf ls ∧ ∀ (i : Nat) (v : Value), L[i]? = some (some v) → ls[i]? = some (.val (mp_tr G v))
abbrev mp_An : Type := Option Value × mp_H
def mp_Qc (G : mp_G) (A : mp_An) : Array Value → State → Outcome → State → Prop := fun _ st oc t => oc = .returned (A.1.map (mp_tr G)) ∧ mp_Wd G A.2 t.heap ∧ st.heap.size ≤ t.heap.size
def mp_ws (y : mp_M) : List Cond := Cond.code y.1 y.2.1 y.2.2.1 y.2.2.2 :: mp_gt
def mp_rm (d mc ms : Nat) : Room := { frames := d, cells := mc, slots := ms, locals := 48 * d }
/-- a method with its room: the frames below it, the cells and slots that it may make -/
abbrev mp_Y : Type := mp_M × Nat × Nat × Nat
/-- THE CONTRACT: called with these values over this picture, it returns this answer and leaves this picture -/
def mp_Call (Y : mp_Y) (as : List Value) (σ : mp_H) (A : mp_An) : Prop := ∀ (G : mp_G) (l : Launch), l.flags = flags0 →
  Met l Y.1.1 (mp_ws Y.1) (mp_rm Y.2.1 Y.2.2.1 Y.2.2.2) (va_Pc (as.map (mp_tr G)) (fun U => mp_Kn G U ∧ mp_Wd G σ U.heap)) (mp_Qc G A) Y.2.2.1 Y.2.2.2 (mp_fr G)
/-- what stands around a method's frame -/
def mp_Cx (G : mp_G) (p : Program) (l : Launch) (Rm : Room) (s : State) (m : MethodId) (args : Array Value) (meth : Method) (c : Code) (Y : mp_Y) : Prop :=
  p.tables.exec = Jvm.exec ∧ c.code = Y.1.2.1 ∧ meth.sig.returnType = Y.1.2.2.2 ∧ c.maxLocals = Y.1.2.2.1 ∧ s.vm.findClass Y.1.1.cls = some m.cls ∧ meth.locks = false ∧ meth.name = Y.1.1.name ∧
  (∀ w ∈ mp_gt, w.before args s = true) ∧ mp_Kn G s ∧ l.flags = flags0 ∧ Y.2.1 ≤ Rm.frames ∧ 48 * Y.2.1 ≤ Rm.locals ∧ Y.2.2.1 ≤ Rm.cells ∧ Y.2.2.2 ≤ Rm.slots
/-- AT A PLACE of a method: with these locals, this stack, this picture, K cells and slots made, it comes to its end with this answer -/
def mp_At (Y : mp_Y) (K : Nat × Nat) (pc : Nat) (L : List (Option Value)) (st : List Value) (σ : mp_H) (A : mp_An) : Prop :=
  ∀ (G : mp_G) (p : Program) (l : Launch) (e : Env) (Rm : Room) (s : State) (m : MethodId) (args : Array Value) (below : List Frame) (meth : Method) (c : Code), mp_Cx G p l Rm s m args meth c Y →
  ∀ (H : Heap) (locs : List Loc) (ls : Array Slot), mp_Wd G σ H → va_S (mp_fr G) s.heap H locs → mp_Lr G L ls Y.1.2.2.1 →
  W p l e Rm s m args below meth c H locs K.1 K.2 (MQ below (mp_Qc G A) args s Y.2.2.1 Y.2.2.2 (mp_fr G)) (F0 m pc ls (st.map (mp_tr G)))
/-- an instruction at a place, and the next place -/
def mp_dc (y : mp_M) (pc : Nat) (i : Instr) (len nx : Nat) : Prop := decode y.2.1 pc = .ok (i, len) ∧ pc + len = nx
def mp_sl (as : List Value) : List (Option Value) := as.flatMap fun v => if v.category = 2 then [some v, none] else [some v]
theorem mp_cat (G : mp_G) (v : Value) : (mp_tr G v).category = v.category := by cases v <;> rfl
theorem mp_sl_args (G : mp_G) : ∀ (as : List Value) (k i : Nat) (v : Value), (mp_sl as)[i]? = some (some v) → (k + i, mp_tr G v) ∈ lv_args k (as.map (mp_tr G)) := by
  intro as
  induction as with
  | nil => intro k i v h; simp [mp_sl] at h
  | cons a as ih =>
    intro k i v h
    simp only [List.map_cons, lv_args, mp_cat]
    by_cases hc : a.category = 2
    · rw [if_pos hc]
      simp only [mp_sl, List.flatMap_cons, if_pos hc] at h
      match i, h with
      | 0, h => simp at h; subst h; exact List.mem_cons_self
      | 1, h => simp at h
      | i + 2, h =>
        have := ih (k + 2) i v (by simpa [mp_sl] using h)
        rw [show k + (i + 2) = k + 2 + i by omega]
        exact List.mem_cons_of_mem _ this
    · rw [if_neg hc]
      simp only [mp_sl, List.flatMap_cons, if_neg hc] at h
      match i, h with
      | 0, h => simp at h; subst h; exact List.mem_cons_self
      | i + 1, h =>
        have := ih (k + 1) i v (by simpa [mp_sl] using h)
        rw [show k + (i + 1) = k + 1 + i by omega]
        exact List.mem_cons_of_mem _ this
theorem mp_sl_len (G : mp_G) (as : List Value) : (lg_sl (as.map (mp_tr G))).length = (mp_sl as).length := by
  induction as with
  | nil => rfl
  | cons a as ih =>
    simp only [lg_sl, mp_sl, List.map_cons, List.flatMap_cons, List.length_append, mp_cat] at ih ⊢
    rw [ih]
    by_cases hc : a.category = 2 <;> simp [hc]
theorem mp_entry (G : mp_G) (as : List Value) {n : Nat} {L : List (Option Value)} (h : (mp_sl as).length ≤ n) (hL : mp_sl as ++ List.replicate (n - (mp_sl as).length) none = L) :
    mp_Lr G L ((lg_sl (as.map (mp_tr G)) ++ List.replicate (n - (lg_sl (as.map (mp_tr G))).length) Slot.unset).toArray) n := by
  have h1 := lv_entry (as.map (mp_tr G)) (n := n) (by rw [mp_sl_len]; exact h)
  refine ⟨h1.1, h1.2.1, fun i v hi => ?_⟩
  subst hL
  have h2 : (mp_sl as)[i]? = some (some v) := by
    by_cases hl : i < (mp_sl as).length
    · rwa [List.getElem?_append_left hl] at hi
    · rw [List.getElem?_append_right (by omega)] at hi
      have := List.eq_of_mem_replicate (List.mem_of_getElem? hi)
      cases this
  have h3 := mp_sl_args G as 0 i v h2
  rw [Nat.zero_add] at h3
  exact h1.2.2 _ h3
/-- a contract out of the walk of its body -/
theorem mp_Call.of {Y : mp_Y} {as : List Value} {σ : mp_H} {A : mp_An} {L : List (Option Value)} (hy : plainName Y.1.1.cls = true) (h : (mp_sl as).length ≤ Y.1.2.2.1) (hL : mp_sl as ++ List.replicate (Y.1.2.2.1 - (mp_sl as).length) none = L)
    (k : mp_At Y (0, 0) 0 L [] σ A) : mp_Call Y as σ A := by
  intro G l hfl
  refine Met.ofW (cc := Y.1.2.1) (maxL := Y.1.2.2.1) (ret := Y.1.2.2.2) hy rfl ?_
  intro p e s m args below meth c s₁ B hml hv
  obtain ⟨rfl, hKn, hWd⟩ := hv
  have hts := atoms_spec (ws := mp_ws Y.1) B.pre
  have hown : s.vm.findClass Y.1.1.cls = some m.cls := findClass_of_methodNamed B.named
  rw [lg_entry_eq]
  exact k G p l e _ s m _ below meth c ⟨B.exec, B.bytes, B.returns, hml, hown, B.notSynchronized, (name_of_methodNamed B.named B.method).1, fun w hw => hts w (List.mem_cons_of_mem _ hw), hKn, hfl, Nat.le_refl _, Nat.le_refl _, Nat.le_refl _, Nat.le_refl _⟩ s.heap [] _ hWd va_S.rf (mp_entry G as h hL)
