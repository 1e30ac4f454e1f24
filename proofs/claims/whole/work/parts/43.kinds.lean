/-! ===== the kinds' own methods, METEORS ===== -/
theorem w_503 : (Jvm.Cond.sameMethod "MeteorsAreProposals$Slow" "MeteorsAreProposals$Meteor" "heat" "()I") ∈ mp_gt := mp_gt_of 503 (by decide +kernel) rfl
section
variable {p : Program} {l : Launch} {e : Env} {R : Room} {s : State} {m : MethodId} {args : Array Value} {below : List Frame} {meth : Method} {c : Code}
theorem mp_callUU {T : State} {locs : List Loc} {cells slots : Nat} (X : Stand p l e R s m args below meth c T locs cells slots) (hexec : p.tables.exec = Jvm.exec) {own : String} {index : Nat} {x y : MethodName} {bytes : ByteArray} {maxL : Nat} {ret : Option FieldType} (hxn : x.name = y.name) (hxd : x.desc = y.desc)
    (hown : s.vm.findClass own = some m.cls) (hlink : (Cond.methodLink own index x).before args s = true) (hsame : (Cond.sameMethod x.cls y.cls x.name x.desc).before args s = true) (hsup : (Cond.superclass own x.cls).before args s = true) (hsup2 : (Cond.superclass x.cls y.cls).before args s = true)
    (hinst : (Cond.instanceMethod y).before args s = true) (hcode : (Cond.code y bytes maxL ret).before args s = true) (hno : y.name ≠ "<init>")
    {W : Nat} {Pre : Pt → Array Value → Prop} {Post : Pt → Array Value → Option Value → Pt → Prop} (hK : Back l R p e below s args y 3 W Pre Post)
    {b : Addr} {cellB : Cell} {kB : Class} (hcell : T.heap[b]? = some cellB) (hobj : cellB.vm.isStatics = false) (hkB : s.vm.classes[cellB.cls]? = some kB)
    {g : JFrame} (hg : g.method = m) (hsize : g.locals.size = c.maxLocals) {argsL rest : List Value} (hlen : ∀ sig, parseMethodDescriptor y.desc = some sig → argsL.length = sig.parameters.length)
    (hstack : g.stack = argsL.reverse ++ .ref b :: rest) (hW : 2 * g.monitorRoom + (rest.map fun v => v.category).sum ≤ W) (hdg : decode c.code g.pc = .ok (.invokespecial index, 3))
    (hpre : ∀ vm₁, s.WarmedH vm₁ → Pre ⟨T.setVm vm₁, locs, cells, slots⟩ (Value.ref b :: argsL).toArray) :
    ∃ (v : Option Value) (vm₁ : Vm) (B : Pt), s.WarmedH vm₁ ∧ Stand p l e R s m args below meth c B.U B.locs B.cells B.slots ∧ Post ⟨T.setVm vm₁, locs, cells, slots⟩ (Value.ref b :: argsL).toArray v B ∧
      ∀ target, Steps p.tables e below (B.U.setTop { g with pc := g.pc + 3, stack := v.toList ++ rest }) target → Steps p.tables e below (T.setTop g) target := by
  obtain ⟨xc, xn, xd⟩ := x
  obtain ⟨yc, yn, yd⟩ := y
  cases hxn
  cases hxd
  obtain ⟨mk, methM, hnamed, hmethM, hstM, habM⟩ := Cond.instanceMethod_spec hinst
  obtain ⟨methM', cM, hmethM', -, -, -, -, -, -, hsigM⟩ := Cond.code_spec hnamed hcode
  cases hmethM.symm.trans hmethM'
  obtain ⟨ps, dk, kp, hps, hdk, hkp, hsuper, -, -, hnid⟩ := Cond.superclass_spec hown hsup
  obtain ⟨pq, ek, kq, hpq, hek, hkq, hsuper2, -, -, -⟩ := Cond.superclass_spec hps hsup2
  have hpm : pq = mk.cls := Option.some.inj (hpq.symm.trans (findClass_of_methodNamed hnamed))
  have hsz : s.vm.classes.size = (s.vm.classes.size - 1) + 1 := by
    have := (Array.getElem?_eq_some_iff.mp hek).1
    omega
  have hsub : s.vm.isSubclass ps mk.cls = true := by
    rw [← hpm]
    unfold Vm.isSubclass
    rw [hsz]
    simp [Vm.isSubclassAux, hek, hsuper2]
  obtain ⟨vm₁, X₁, hstep₁⟩ := X.invokespecialUp hexec hown hlink hsame hnamed hmethM hstM habM hno hdk hnid hps hsuper hsub (a := b) (cell := cellB) hcell
    (fun z h => by rw [h] at hobj; cases hobj) hkB (g := g) hg (argsL := argsL) (rest := rest) (hlen _ hsigM) hstack hdg
  obtain ⟨v, B, X', hpost, hsteps⟩ := hK m meth c ⟨T.setVm vm₁, locs, cells, slots⟩ { g with stack := rest } (.invokespecial index) mk (Value.ref b :: argsL).toArray X₁ hg hsize hdg hW (X₁.named hnamed) (hpre vm₁ X₁.warmed)
  exact ⟨v, vm₁, B, X₁.warmed, X', hpost, fun target h => hstep₁ _ (by rw [doInvoke_state]; exact hsteps.trans h)⟩
variable {H : Heap} {locs : List Loc} {cells slots : Nat}
theorem mp_runUU {x y : MethodName} {bytes cc : ByteArray} {maxL nL mc ms n index : Nat} {ret : Option FieldType} {ws : List Cond} {rm : Room} {Pc : Array Value → State → Prop} {Qc : Array Value → State → Outcome → State → Prop} {free : Addr → Prop} {Ts : List Cond} {own C : String} {cC : ClassId} {b : Addr} {As rest : List Value} {g : JFrame} (hxn : x.name = y.name) (hxd : x.desc = y.desc)
    (hat : ClassAt s C cC) (S : CallFix p m c cc nL s args Ts own) (hM : Met l y ws rm Pc Qc mc ms free)
    (cw : (rm.cells = mc ∧ rm.slots = ms ∧ rm.frames + 1 ≤ R.frames ∧ 8 + (maxL + 11) + rm.locals ≤ R.locals ∧ (∀ w ∈ ws, ∀ (a' : Array Value) (U : State), s.WarmedH U.vm → w.before a' U = true) ∧ Cond.code y bytes maxL ret ∈ ws) ∧
  (Cond.methodLink own index x).before args s = true ∧ (Cond.sameMethod x.cls y.cls x.name x.desc).before args s = true ∧ (Cond.superclass own x.cls).before args s = true ∧ (Cond.superclass x.cls y.cls).before args s = true ∧ (Cond.instanceMethod y).before args s = true ∧ (Cond.initialized y.cls).before args s = true ∧ (Cond.code y bytes maxL ret).before args s = true ∧ y.name ≠ "<init>" ∧ (∀ sig, parseMethodDescriptor y.desc = some sig → n = sig.parameters.length)) (hp : PreV s H C b Pc As)
    (hg : g.method = m) (hn : As.length = n) (hsize : g.locals.size = nL) (hstack : g.stack = As.reverse ++ .ref b :: rest) (hW : 2 * g.monitorRoom + (rest.map fun v => v.category).sum ≤ 8) (hdg : decode cc g.pc = .ok (.invokespecial index, 3)) (hf : cells + mc ≤ R.cells ∧ slots + ms ≤ R.slots) :
    va_Run p l e R s m args below meth c H locs cells slots mc ms g rest (Qc (Value.ref b :: As).toArray) (free) := by
  obtain ⟨⟨hrc, hrs, hfr, hlo, hws, hcw⟩, hl1, hl2, hl3, hl3', hl4, hini, hcode, hno, hlen⟩ := cw
  have hK : Back l R p e below s args y 3 8 (PreOf R mc ms Pc) (PostOf Qc mc ms free) := back_of (bytes := bytes) (maxL := maxL) (ret := ret) hM hp.1 hrc hrs hfr hlo hws hcw (fun a' U hW => word_at hW (Or.inl (by first | rfl | simp [Cond.onTables, Cond.keeps, Cond.steady])) hini)
  obtain ⟨hx, hb, hml, ho, -⟩ := S
  obtain ⟨-, ⟨cellB, hcB, hoB, hclB⟩, hPc⟩ := hp
  obtain ⟨hfc, kB, hkB, -⟩ := hat
  cases hfc.symm.trans hclB
  intro T hT X
  obtain ⟨v, vm₁, ⟨U', l2, c2, s2⟩, hW₁, X', ⟨g', mk, t, L, e1, e2, hq, h1, hL, h2, h3⟩, st⟩ := mp_callUU X hx (bytes := bytes) (maxL := maxL) (ret := ret) hxn hxd ho hl1 hl2 hl3 hl3' hl4 hcode hno hK (by rw [hT]; exact hcB) hoB hkB hg (hsize.trans hml.symm) (argsL := As) (rest := rest) (fun sig h => hn.trans (hlen sig h)) hstack hW (by rw [hb]; exact hdg)
    (fun vm₁ hW₁ => ⟨hf.1, hf.2, hPc (T.setVm vm₁) hT hW₁⟩)
  dsimp only [Pt.U, Pt.locs, Pt.cells, Pt.slots] at X' e1 e2 h1 h2 h3 st
  subst h1; subst h2; subst h3
  exact ⟨v, (T.setVm vm₁).calling g' mk (Value.ref b :: As).toArray, t, U', L, hT, X', hL, e1, e2, hq, st⟩
end
theorem mp_supU {Y : mp_Y} {K : Nat × Nat} {pc nx : Nat} {L : List (Option Value)} {st st0 st1 : List Value} {σ σ1 : mp_H} {A A1 : mp_An} {k ci zd : Nat} {fs : List Value} {r : vw_C} {z : mp_Y} (hz : z = (mX4_heat, zd, 0, 0)) (hY : Y.1.1.cls = RX3) (hd : mp_dc Y.1 pc (.invokespecial 11) 3 nx) (ho : σ[k]? = some (mp_O ci fs)) (hr : mp_cl[ci]? = some r) (hc : mp_Call z [Value.ref k] σ A1) (hR : mp_rmOk Y K z st) (h0 : Value.ref k :: st = st0) (h1 : A1.1.toList ++ st = st1) (hσ : A1.2 = σ1) (kk : mp_At Y K nx L st1 σ1 A) : mp_At Y K pc L st0 σ A := by
  subst hz
  subst hσ
  subst h0
  obtain ⟨hd, rfl⟩ := hd
  intro G p l e Rm s m args below meth c C H locs ls hW hS hL
  have hKn := C.2.2.2.2.2.2.2.2.1
  have hw := C.2.2.2.2.2.2.2.1
  obtain ⟨r1, r2, r3, r4⟩ := mp_room C hR
  refine mp_go (mc := 0) (ms := 0) (a := (Value.ref (mp_ad G k) :: ([] : List Value).map (mp_tr G)).toArray) (rest := st.map (mp_tr G)) hW hS (A1 := A1) ?_ (fun H1 locs1 g1 g2 => ?_)
  rotate_left
  · rw [mp_after h1]
    exact kk G p l e Rm s m args below meth c C H1 locs1 ls g1 g2 hL
  · have hb := sbX4_heat
    have hstk : (F0 m pc ls ((Value.ref k :: st).map (mp_tr G))).stack = (([] : List Value).map (mp_tr G)).reverse ++ Value.ref (mp_ad G k) :: st.map (mp_tr G) := rfl
    have hown := C.2.2.2.2.1
    rw [hY] at hown
    exact mp_runUU (x := ⟨RX9, "heat", "()I"⟩) (y := mX4_heat.1) (own := RX3) (index := 11) (n := 0) rfl rfl (hKn.1.1 ci r hr).2 ⟨C.1, C.2.1, C.2.2.2.1, hown, hw⟩ (hc G l C.2.2.2.2.2.2.2.2.2.1) (C := r.1) ⟨⟨rfl, rfl, r1, r2, pay_in hw (mp_good hb), List.mem_cons_self⟩, hw _ w_502, hw _ w_503, hw _ w_267, hw _ w_225, hw _ w_487, hw _ hb.2.1, hw _ hb.1, by decide +kernel, hb.sig⟩ ⟨mp_blind, mp_rcv hKn hW ho hr, mp_pre (as := [Value.ref k]) hKn hW⟩ rfl rfl hL.1 hstk (lv_room (by rw [mp_catsum]; exact hR.2.2.2.2)) hd ⟨r3, r4⟩
/-- the STEP of a yes, told by looking STEP by STEP -/
def sp_yF (co sl br q e : Int) : Nat → Int → Int → Int
  | 0, _, _ => -4
  | n + 1, t, c => if (if sp_over co sl t - q < 0 then -(sp_over co sl t - q) else sp_over co sl t - q) ≤ br then (if c + 1 = e then t else sp_yF co sl br q e n (t + 1) (c + 1)) else sp_yF co sl br q e n (t + 1) c
theorem sp_yF_s {co sl br q e t c : Int} {n : Nat} : sp_yF co sl br q e (n + 1) t c = if (if sp_over co sl t - q < 0 then -(sp_over co sl t - q) else sp_over co sl t - q) ≤ br then (if c + 1 = e then t else sp_yF co sl br q e n (t + 1) (c + 1)) else sp_yF co sl br q e n (t + 1) c := rfl

theorem zX4_lasts {kd f co sl ni la br : Int} {a : Nat} {σ : mp_H} (ha : σ[a]? = some (mp_O (Int.toNat kd) [mp_i kd, mp_i f, mp_i co, mp_i sl, mp_i ni, mp_i la, mp_i br])) (h_kd : 0 ≤ kd ∧ kd ≤ 7) (h_f : 0 ≤ f ∧ f ≤ 9) : mp_Call (mX4_lasts, 0, 0, 0) [Value.ref a] σ (some (mp_i (3 + f / 3)), σ) := by
  refine mp_Call.of (L := [some (Value.ref a)]) pnX4 (Nat.le_of_ble_eq_true rfl) rfl ?_
  refine mp_iconst dX4_lasts_0 ?_
  refine mp_aload_n dX4_lasts_1 rfl ?_
  refine mp_getfield dX4_lasts_2 (fsX4_15 (by omega)) ha rfl ?_
  refine mp_iconst dX4_lasts_5 ?_
  refine mp_idiv (z := f / 3) dX4_lasts_6 ⟨by omega, by omega⟩ ⟨by omega, by omega⟩ rfl ?_
  refine mp_iadd (z := 3 + (f / 3)) dX4_lasts_7 (by first | rfl | omega) ?_
  exact mp_ireturn (st := []) dX4_lasts_8 rfl ⟨by decide, by decide⟩ ((mp_ans (by first | with_reducible rfl | omega | rfl)))
theorem zX9_lasts {kd f co sl ni la br : Int} {a : Nat} {σ : mp_H} (ha : σ[a]? = some (mp_O (Int.toNat kd) [mp_i kd, mp_i f, mp_i co, mp_i sl, mp_i ni, mp_i la, mp_i br])) (h_kd : 0 ≤ kd ∧ kd ≤ 7) (h_f : 0 ≤ f ∧ f ≤ 9) : mp_Call (mX9_lasts, 1, 0, 0) [Value.ref a] σ (some (mp_i (2 * (3 + f / 3))), σ) := by
  refine mp_Call.of (L := [some (Value.ref a)]) pnX9 (Nat.le_of_ble_eq_true rfl) rfl ?_
  refine mp_iconst dX9_lasts_0 ?_
  refine mp_aload_n dX9_lasts_1 rfl ?_
  refine mp_invP (z := (mX4_lasts, 0, 0, 0)) (K' := (0, 0)) (σ1 := σ) (as := []) (st := [mp_i 2]) (st1 := [mp_i (3 + f / 3), mp_i 2]) dX9_lasts_2 spX9_7 ha (mp_cl8 (by omega)) (zX4_lasts (a := a) (kd := kd) (f := f) (co := co) (sl := sl) (ni := ni) (la := la) (br := br) ha (by first | with_reducible assumption | omega) (by first | with_reducible assumption | omega)) ⟨Nat.le_of_ble_eq_true rfl, Nat.le_of_ble_eq_true rfl, Nat.le_of_ble_eq_true rfl, Nat.le_of_ble_eq_true rfl, Nat.le_of_ble_eq_true rfl⟩ rfl rfl rfl rfl ?_
  refine mp_imul (z := 2 * (3 + f / 3)) dX9_lasts_5 (by first | rfl | omega) ?_
  exact mp_ireturn (st := []) dX9_lasts_6 rfl ⟨by decide, by decide⟩ ((mp_ans (by first | with_reducible rfl | omega | rfl)))
theorem zX0_lasts {kd f co sl ni la br : Int} {a : Nat} {σ : mp_H} (ha : σ[a]? = some (mp_O (Int.toNat kd) [mp_i kd, mp_i f, mp_i co, mp_i sl, mp_i ni, mp_i la, mp_i br])) (h_kd : 0 ≤ kd ∧ kd ≤ 7) (h_f : 0 ≤ f ∧ f ≤ 9) : mp_Call (mX0_lasts, 1, 0, 0) [Value.ref a] σ (some (mp_i (3 + f / 3 - 1)), σ) := by
  refine mp_Call.of (L := [some (Value.ref a)]) pnX0 (Nat.le_of_ble_eq_true rfl) rfl ?_
  refine mp_aload_n dX0_lasts_0 rfl ?_
  refine mp_invP (z := (mX4_lasts, 0, 0, 0)) (K' := (0, 0)) (σ1 := σ) (as := []) (st := []) (st1 := [mp_i (3 + f / 3)]) dX0_lasts_1 spX0_7 ha (mp_cl8 (by omega)) (zX4_lasts (a := a) (kd := kd) (f := f) (co := co) (sl := sl) (ni := ni) (la := la) (br := br) ha (by first | with_reducible assumption | omega) (by first | with_reducible assumption | omega)) ⟨Nat.le_of_ble_eq_true rfl, Nat.le_of_ble_eq_true rfl, Nat.le_of_ble_eq_true rfl, Nat.le_of_ble_eq_true rfl, Nat.le_of_ble_eq_true rfl⟩ rfl rfl rfl rfl ?_
  refine mp_iconst dX0_lasts_4 ?_
  refine mp_isub (z := (3 + f / 3) - 1) dX0_lasts_5 (by first | rfl | omega) ?_
  exact mp_ireturn (st := []) dX0_lasts_6 rfl ⟨by decide, by decide⟩ ((mp_ans (by first | with_reducible rfl | omega | rfl)))
theorem zX3_lasts {kd f co sl ni la br : Int} {a : Nat} {σ : mp_H} (ha : σ[a]? = some (mp_O (Int.toNat kd) [mp_i kd, mp_i f, mp_i co, mp_i sl, mp_i ni, mp_i la, mp_i br])) (h_kd : 0 ≤ kd ∧ kd ≤ 7) (h_f : 0 ≤ f ∧ f ≤ 9) : mp_Call (mX3_lasts, 2, 0, 0) [Value.ref a] σ (some (mp_i (2 * (3 + f / 3) + 2)), σ) := by
  refine mp_Call.of (L := [some (Value.ref a)]) pnX3 (Nat.le_of_ble_eq_true rfl) rfl ?_
  refine mp_aload_n dX3_lasts_0 rfl ?_
  refine mp_invP (z := (mX9_lasts, 1, 0, 0)) (K' := (0, 0)) (σ1 := σ) (as := []) (st := []) (st1 := [mp_i (2 * (3 + f / 3))]) dX3_lasts_1 spX3_7 ha (mp_cl8 (by omega)) (zX9_lasts (a := a) (kd := kd) (f := f) (co := co) (sl := sl) (ni := ni) (la := la) (br := br) ha (by first | with_reducible assumption | omega) (by first | with_reducible assumption | omega)) ⟨Nat.le_of_ble_eq_true rfl, Nat.le_of_ble_eq_true rfl, Nat.le_of_ble_eq_true rfl, Nat.le_of_ble_eq_true rfl, Nat.le_of_ble_eq_true rfl⟩ rfl rfl rfl rfl ?_
  refine mp_iconst dX3_lasts_4 ?_
  refine mp_iadd (z := (2 * (3 + f / 3)) + 2) dX3_lasts_5 (by first | rfl | omega) ?_
  exact mp_ireturn (st := []) dX3_lasts_6 rfl ⟨by decide, by decide⟩ ((mp_ans (by first | with_reducible rfl | omega | rfl)))
theorem zX10_lasts {kd f co sl ni la br : Int} {a : Nat} {σ : mp_H} (ha : σ[a]? = some (mp_O (Int.toNat kd) [mp_i kd, mp_i f, mp_i co, mp_i sl, mp_i ni, mp_i la, mp_i br])) (h_kd : 0 ≤ kd ∧ kd ≤ 7) (h_f : 0 ≤ f ∧ f ≤ 9) : mp_Call (mX10_lasts, 1, 0, 0) [Value.ref a] σ (some (mp_i (3 + f / 3 + f / 2)), σ) := by
  refine mp_Call.of (L := [some (Value.ref a)]) pnX10 (Nat.le_of_ble_eq_true rfl) rfl ?_
  refine mp_aload_n dX10_lasts_0 rfl ?_
  refine mp_invP (z := (mX4_lasts, 0, 0, 0)) (K' := (0, 0)) (σ1 := σ) (as := []) (st := []) (st1 := [mp_i (3 + f / 3)]) dX10_lasts_1 spX10_7 ha (mp_cl8 (by omega)) (zX4_lasts (a := a) (kd := kd) (f := f) (co := co) (sl := sl) (ni := ni) (la := la) (br := br) ha (by first | with_reducible assumption | omega) (by first | with_reducible assumption | omega)) ⟨Nat.le_of_ble_eq_true rfl, Nat.le_of_ble_eq_true rfl, Nat.le_of_ble_eq_true rfl, Nat.le_of_ble_eq_true rfl, Nat.le_of_ble_eq_true rfl⟩ rfl rfl rfl rfl ?_
  refine mp_aload_n dX10_lasts_4 rfl ?_
  refine mp_getfield dX10_lasts_5 (fsX10_11 (by omega)) ha rfl ?_
  refine mp_iconst dX10_lasts_8 ?_
  refine mp_idiv (z := f / 2) dX10_lasts_9 ⟨by omega, by omega⟩ ⟨by omega, by omega⟩ rfl ?_
  refine mp_iadd (z := (3 + f / 3) + (f / 2)) dX10_lasts_10 (by first | rfl | omega) ?_
  exact mp_ireturn (st := []) dX10_lasts_11 rfl ⟨by decide, by decide⟩ ((mp_ans (by first | with_reducible rfl | omega | rfl)))
theorem zX2_lasts {kd f co sl ni la br : Int} {a : Nat} {σ : mp_H} (ha : σ[a]? = some (mp_O (Int.toNat kd) [mp_i kd, mp_i f, mp_i co, mp_i sl, mp_i ni, mp_i la, mp_i br])) (h_kd : 0 ≤ kd ∧ kd ≤ 7) (h_f : 0 ≤ f ∧ f ≤ 9) : mp_Call (mX2_lasts, 0, 0, 0) [Value.ref a] σ (some (mp_i 1), σ) := by
  refine mp_Call.of (L := [some (Value.ref a)]) pnX2 (Nat.le_of_ble_eq_true rfl) rfl ?_
  refine mp_iconst dX2_lasts_0 ?_
  exact mp_ireturn (st := []) dX2_lasts_1 rfl ⟨by decide, by decide⟩ ((mp_ans (by first | with_reducible rfl | omega | rfl)))
theorem zX4_bright {kd f co sl ni la br : Int} {a : Nat} {σ : mp_H} (ha : σ[a]? = some (mp_O (Int.toNat kd) [mp_i kd, mp_i f, mp_i co, mp_i sl, mp_i ni, mp_i la, mp_i br])) (h_kd : 0 ≤ kd ∧ kd ≤ 7) (h_f : 0 ≤ f ∧ f ≤ 9) : mp_Call (mX4_bright, 0, 0, 0) [Value.ref a] σ (some (mp_i 2), σ) := by
  refine mp_Call.of (L := [some (Value.ref a)]) pnX4 (Nat.le_of_ble_eq_true rfl) rfl ?_
  refine mp_iconst dX4_bright_0 ?_
  exact mp_ireturn (st := []) dX4_bright_1 rfl ⟨by decide, by decide⟩ ((mp_ans (by first | with_reducible rfl | omega | rfl)))
theorem zX9_bright {kd f co sl ni la br : Int} {a : Nat} {σ : mp_H} (ha : σ[a]? = some (mp_O (Int.toNat kd) [mp_i kd, mp_i f, mp_i co, mp_i sl, mp_i ni, mp_i la, mp_i br])) (h_kd : 0 ≤ kd ∧ kd ≤ 7) (h_f : 0 ≤ f ∧ f ≤ 9) : mp_Call (mX9_bright, 1, 0, 0) [Value.ref a] σ (some (mp_i 1), σ) := by
  refine mp_Call.of (L := [some (Value.ref a)]) pnX9 (Nat.le_of_ble_eq_true rfl) rfl ?_
  refine mp_aload_n dX9_bright_0 rfl ?_
  refine mp_invP (z := (mX4_bright, 0, 0, 0)) (K' := (0, 0)) (σ1 := σ) (as := []) (st := []) (st1 := [mp_i 2]) dX9_bright_1 spX9_11 ha (mp_cl8 (by omega)) (zX4_bright (a := a) (kd := kd) (f := f) (co := co) (sl := sl) (ni := ni) (la := la) (br := br) ha (by first | with_reducible assumption | omega) (by first | with_reducible assumption | omega)) ⟨Nat.le_of_ble_eq_true rfl, Nat.le_of_ble_eq_true rfl, Nat.le_of_ble_eq_true rfl, Nat.le_of_ble_eq_true rfl, Nat.le_of_ble_eq_true rfl⟩ rfl rfl rfl rfl ?_
  refine mp_iconst dX9_bright_4 ?_
  refine mp_isub (z := 1) dX9_bright_5 (by first | rfl | omega) ?_
  exact mp_ireturn (st := []) dX9_bright_6 rfl ⟨by decide, by decide⟩ ((mp_ans (by first | with_reducible rfl | omega | rfl)))
theorem zX1_bright {kd f co sl ni la br : Int} {a : Nat} {σ : mp_H} (ha : σ[a]? = some (mp_O (Int.toNat kd) [mp_i kd, mp_i f, mp_i co, mp_i sl, mp_i ni, mp_i la, mp_i br])) (h_kd : 0 ≤ kd ∧ kd ≤ 7) (h_f : 0 ≤ f ∧ f ≤ 9) : mp_Call (mX1_bright, 0, 0, 0) [Value.ref a] σ (some (mp_i (-1)), σ) := by
  refine mp_Call.of (L := [some (Value.ref a)]) pnX1 (Nat.le_of_ble_eq_true rfl) rfl ?_
  refine mp_iconst dX1_bright_0 ?_
  exact mp_ireturn (st := []) dX1_bright_1 rfl ⟨by decide, by decide⟩ ((mp_ans (by first | with_reducible rfl | omega | rfl)))
theorem zX0_bright {kd f co sl ni la br : Int} {a : Nat} {σ : mp_H} (ha : σ[a]? = some (mp_O (Int.toNat kd) [mp_i kd, mp_i f, mp_i co, mp_i sl, mp_i ni, mp_i la, mp_i br])) (h_kd : 0 ≤ kd ∧ kd ≤ 7) (h_f : 0 ≤ f ∧ f ≤ 9) : mp_Call (mX0_bright, 1, 0, 0) [Value.ref a] σ (some (mp_i (2 + f / 2)), σ) := by
  refine mp_Call.of (L := [some (Value.ref a)]) pnX0 (Nat.le_of_ble_eq_true rfl) rfl ?_
  refine mp_aload_n dX0_bright_0 rfl ?_
  refine mp_invP (z := (mX4_bright, 0, 0, 0)) (K' := (0, 0)) (σ1 := σ) (as := []) (st := []) (st1 := [mp_i 2]) dX0_bright_1 spX0_11 ha (mp_cl8 (by omega)) (zX4_bright (a := a) (kd := kd) (f := f) (co := co) (sl := sl) (ni := ni) (la := la) (br := br) ha (by first | with_reducible assumption | omega) (by first | with_reducible assumption | omega)) ⟨Nat.le_of_ble_eq_true rfl, Nat.le_of_ble_eq_true rfl, Nat.le_of_ble_eq_true rfl, Nat.le_of_ble_eq_true rfl, Nat.le_of_ble_eq_true rfl⟩ rfl rfl rfl rfl ?_
  refine mp_aload_n dX0_bright_4 rfl ?_
  refine mp_getfield dX0_bright_5 (fsX0_14 (by omega)) ha rfl ?_
  refine mp_iconst dX0_bright_8 ?_
  refine mp_idiv (z := f / 2) dX0_bright_9 ⟨by omega, by omega⟩ ⟨by omega, by omega⟩ rfl ?_
  refine mp_iadd (z := 2 + (f / 2)) dX0_bright_10 (by first | rfl | omega) ?_
  exact mp_ireturn (st := []) dX0_bright_11 rfl ⟨by decide, by decide⟩ ((mp_ans (by first | with_reducible rfl | omega | rfl)))
theorem zX8_bright {kd f co sl ni la br : Int} {a : Nat} {σ : mp_H} (ha : σ[a]? = some (mp_O (Int.toNat kd) [mp_i kd, mp_i f, mp_i co, mp_i sl, mp_i ni, mp_i la, mp_i br])) (h_kd : 0 ≤ kd ∧ kd ≤ 7) (h_f : 0 ≤ f ∧ f ≤ 9) : mp_Call (mX8_bright, 1, 0, 0) [Value.ref a] σ (some (mp_i 0), σ) := by
  refine mp_Call.of (L := [some (Value.ref a)]) pnX8 (Nat.le_of_ble_eq_true rfl) rfl ?_
  refine mp_aload_n dX8_bright_0 rfl ?_
  refine mp_invP (z := (mX1_bright, 0, 0, 0)) (K' := (0, 0)) (σ1 := σ) (as := []) (st := []) (st1 := [mp_i (-1)]) dX8_bright_1 spX8_7 ha (mp_cl8 (by omega)) (zX1_bright (a := a) (kd := kd) (f := f) (co := co) (sl := sl) (ni := ni) (la := la) (br := br) ha (by first | with_reducible assumption | omega) (by first | with_reducible assumption | omega)) ⟨Nat.le_of_ble_eq_true rfl, Nat.le_of_ble_eq_true rfl, Nat.le_of_ble_eq_true rfl, Nat.le_of_ble_eq_true rfl, Nat.le_of_ble_eq_true rfl⟩ rfl rfl rfl rfl ?_
  refine mp_iconst dX8_bright_4 ?_
  refine mp_iadd (z := 0) dX8_bright_5 (by first | rfl | omega) ?_
  exact mp_ireturn (st := []) dX8_bright_6 rfl ⟨by decide, by decide⟩ ((mp_ans (by first | with_reducible rfl | omega | rfl)))
theorem zX2_bright {kd f co sl ni la br : Int} {a : Nat} {σ : mp_H} (ha : σ[a]? = some (mp_O (Int.toNat kd) [mp_i kd, mp_i f, mp_i co, mp_i sl, mp_i ni, mp_i la, mp_i br])) (h_kd : 0 ≤ kd ∧ kd ≤ 7) (h_f : 0 ≤ f ∧ f ≤ 9) : mp_Call (mX2_bright, 2, 0, 0) [Value.ref a] σ (some (mp_i (2 * (2 + f / 2))), σ) := by
  refine mp_Call.of (L := [some (Value.ref a)]) pnX2 (Nat.le_of_ble_eq_true rfl) rfl ?_
  refine mp_iconst dX2_bright_0 ?_
  refine mp_aload_n dX2_bright_1 rfl ?_
  refine mp_invP (z := (mX0_bright, 1, 0, 0)) (K' := (0, 0)) (σ1 := σ) (as := []) (st := [mp_i 2]) (st1 := [mp_i (2 + f / 2), mp_i 2]) dX2_bright_2 spX2_7 ha (mp_cl8 (by omega)) (zX0_bright (a := a) (kd := kd) (f := f) (co := co) (sl := sl) (ni := ni) (la := la) (br := br) ha (by first | with_reducible assumption | omega) (by first | with_reducible assumption | omega)) ⟨Nat.le_of_ble_eq_true rfl, Nat.le_of_ble_eq_true rfl, Nat.le_of_ble_eq_true rfl, Nat.le_of_ble_eq_true rfl, Nat.le_of_ble_eq_true rfl⟩ rfl rfl rfl rfl ?_
  refine mp_imul (z := 2 * (2 + f / 2)) dX2_bright_5 (by first | rfl | omega) ?_
  exact mp_ireturn (st := []) dX2_bright_6 rfl ⟨by decide, by decide⟩ ((mp_ans (by first | with_reducible rfl | omega | rfl)))
theorem zX4_period {kd f co sl ni la br : Int} {a : Nat} {σ : mp_H} (ha : σ[a]? = some (mp_O (Int.toNat kd) [mp_i kd, mp_i f, mp_i co, mp_i sl, mp_i ni, mp_i la, mp_i br])) (h_kd : 0 ≤ kd ∧ kd ≤ 7) (h_f : 0 ≤ f ∧ f ≤ 9) : mp_Call (mX4_period, 0, 0, 0) [Value.ref a] σ (some (mp_i (3 + f)), σ) := by
  refine mp_Call.of (L := [some (Value.ref a)]) pnX4 (Nat.le_of_ble_eq_true rfl) rfl ?_
  refine mp_iconst dX4_period_0 ?_
  refine mp_aload_n dX4_period_1 rfl ?_
  refine mp_getfield dX4_period_2 (fsX4_15 (by omega)) ha rfl ?_
  refine mp_iadd (z := 3 + f) dX4_period_5 (by first | rfl | omega) ?_
  exact mp_ireturn (st := []) dX4_period_6 rfl ⟨by decide, by decide⟩ ((mp_ans (by first | with_reducible rfl | omega | rfl)))
theorem zX9_period {kd f co sl ni la br : Int} {a : Nat} {σ : mp_H} (ha : σ[a]? = some (mp_O (Int.toNat kd) [mp_i kd, mp_i f, mp_i co, mp_i sl, mp_i ni, mp_i la, mp_i br])) (h_kd : 0 ≤ kd ∧ kd ≤ 7) (h_f : 0 ≤ f ∧ f ≤ 9) : mp_Call (mX9_period, 1, 0, 0) [Value.ref a] σ (some (mp_i (3 + f + 2)), σ) := by
  refine mp_Call.of (L := [some (Value.ref a)]) pnX9 (Nat.le_of_ble_eq_true rfl) rfl ?_
  refine mp_aload_n dX9_period_0 rfl ?_
  refine mp_invP (z := (mX4_period, 0, 0, 0)) (K' := (0, 0)) (σ1 := σ) (as := []) (st := []) (st1 := [mp_i (3 + f)]) dX9_period_1 spX9_14 ha (mp_cl8 (by omega)) (zX4_period (a := a) (kd := kd) (f := f) (co := co) (sl := sl) (ni := ni) (la := la) (br := br) ha (by first | with_reducible assumption | omega) (by first | with_reducible assumption | omega)) ⟨Nat.le_of_ble_eq_true rfl, Nat.le_of_ble_eq_true rfl, Nat.le_of_ble_eq_true rfl, Nat.le_of_ble_eq_true rfl, Nat.le_of_ble_eq_true rfl⟩ rfl rfl rfl rfl ?_
  refine mp_iconst dX9_period_4 ?_
  refine mp_iadd (z := (3 + f) + 2) dX9_period_5 (by first | rfl | omega) ?_
  exact mp_ireturn (st := []) dX9_period_6 rfl ⟨by decide, by decide⟩ ((mp_ans (by first | with_reducible rfl | omega | rfl)))
theorem zX1_period {kd f co sl ni la br : Int} {a : Nat} {σ : mp_H} (ha : σ[a]? = some (mp_O (Int.toNat kd) [mp_i kd, mp_i f, mp_i co, mp_i sl, mp_i ni, mp_i la, mp_i br])) (h_kd : 0 ≤ kd ∧ kd ≤ 7) (h_f : 0 ≤ f ∧ f ≤ 9) : mp_Call (mX1_period, 1, 0, 0) [Value.ref a] σ (some (mp_i (2 * (3 + f))), σ) := by
  refine mp_Call.of (L := [some (Value.ref a)]) pnX1 (Nat.le_of_ble_eq_true rfl) rfl ?_
  refine mp_iconst dX1_period_0 ?_
  refine mp_aload_n dX1_period_1 rfl ?_
  refine mp_invP (z := (mX4_period, 0, 0, 0)) (K' := (0, 0)) (σ1 := σ) (as := []) (st := [mp_i 2]) (st1 := [mp_i (3 + f), mp_i 2]) dX1_period_2 spX1_7 ha (mp_cl8 (by omega)) (zX4_period (a := a) (kd := kd) (f := f) (co := co) (sl := sl) (ni := ni) (la := la) (br := br) ha (by first | with_reducible assumption | omega) (by first | with_reducible assumption | omega)) ⟨Nat.le_of_ble_eq_true rfl, Nat.le_of_ble_eq_true rfl, Nat.le_of_ble_eq_true rfl, Nat.le_of_ble_eq_true rfl, Nat.le_of_ble_eq_true rfl⟩ rfl rfl rfl rfl ?_
  refine mp_imul (z := 2 * (3 + f)) dX1_period_5 (by first | rfl | omega) ?_
  exact mp_ireturn (st := []) dX1_period_6 rfl ⟨by decide, by decide⟩ ((mp_ans (by first | with_reducible rfl | omega | rfl)))
theorem zX10_period {kd f co sl ni la br : Int} {a : Nat} {σ : mp_H} (ha : σ[a]? = some (mp_O (Int.toNat kd) [mp_i kd, mp_i f, mp_i co, mp_i sl, mp_i ni, mp_i la, mp_i br])) (h_kd : 0 ≤ kd ∧ kd ≤ 7) (h_f : 0 ≤ f ∧ f ≤ 9) : mp_Call (mX10_period, 1, 0, 0) [Value.ref a] σ (some (mp_i (if 7 ≤ f then 7 else 3 + f)), σ) := by
  refine mp_Call.of (L := [some (Value.ref a)]) pnX10 (Nat.le_of_ble_eq_true rfl) rfl ?_
  refine mp_aload_n dX10_period_0 rfl ?_
  refine mp_getfield dX10_period_1 (fsX10_11 (by omega)) ha rfl ?_
  refine mp_bipush dX10_period_4 rfl ?_
  refine mp_icmp_lt (tgt := 14) dX10_period_6 rfl ⟨by omega, by omega⟩ ⟨by omega, by omega⟩ (fun h1 => ?_) (fun h1 => ?_)
  · refine mp_aload_n dX10_period_14 rfl ?_
    refine mp_invP (z := (mX4_period, 0, 0, 0)) (K' := (0, 0)) (σ1 := σ) (as := []) (st := []) (st1 := [mp_i (3 + f)]) dX10_period_15 spX10_17 ha (mp_cl8 (by omega)) (zX4_period (a := a) (kd := kd) (f := f) (co := co) (sl := sl) (ni := ni) (la := la) (br := br) ha (by first | with_reducible assumption | omega) (by first | with_reducible assumption | omega)) ⟨Nat.le_of_ble_eq_true rfl, Nat.le_of_ble_eq_true rfl, Nat.le_of_ble_eq_true rfl, Nat.le_of_ble_eq_true rfl, Nat.le_of_ble_eq_true rfl⟩ rfl rfl rfl rfl ?_
    exact mp_ireturn (st := []) dX10_period_18 rfl ⟨by decide, by decide⟩ ((mp_ans (by first | with_reducible rfl | omega | rfl)))
  · refine mp_bipush dX10_period_9 rfl ?_
    refine mp_goto (tgt := 18) dX10_period_11 rfl ?_
    exact mp_ireturn (st := []) dX10_period_18 rfl ⟨by decide, by decide⟩ ((mp_ans (by first | with_reducible rfl | omega | rfl)))
theorem zX2_period {kd f co sl ni la br : Int} {a : Nat} {σ : mp_H} (ha : σ[a]? = some (mp_O (Int.toNat kd) [mp_i kd, mp_i f, mp_i co, mp_i sl, mp_i ni, mp_i la, mp_i br])) (h_kd : 0 ≤ kd ∧ kd ≤ 7) (h_f : 0 ≤ f ∧ f ≤ 9) : mp_Call (mX2_period, 0, 0, 0) [Value.ref a] σ (some (mp_i 1), σ) := by
  refine mp_Call.of (L := [some (Value.ref a)]) pnX2 (Nat.le_of_ble_eq_true rfl) rfl ?_
  refine mp_iconst dX2_period_0 ?_
  exact mp_ireturn (st := []) dX2_period_1 rfl ⟨by decide, by decide⟩ ((mp_ans (by first | with_reducible rfl | omega | rfl)))
theorem zX4_heat {kd f co sl ni la br : Int} {a : Nat} {σ : mp_H} (ha : σ[a]? = some (mp_O (Int.toNat kd) [mp_i kd, mp_i f, mp_i co, mp_i sl, mp_i ni, mp_i la, mp_i br])) (h_kd : 0 ≤ kd ∧ kd ≤ 7) (h_f : 0 ≤ f ∧ f ≤ 9) : mp_Call (mX4_heat, 0, 0, 0) [Value.ref a] σ (some (mp_i f), σ) := by
  refine mp_Call.of (L := [some (Value.ref a)]) pnX4 (Nat.le_of_ble_eq_true rfl) rfl ?_
  refine mp_aload_n dX4_heat_0 rfl ?_
  refine mp_getfield dX4_heat_1 (fsX4_15 (by omega)) ha rfl ?_
  exact mp_ireturn (st := []) dX4_heat_4 rfl ⟨by decide, by decide⟩ ((mp_ans (by first | with_reducible rfl | omega | rfl)))
theorem zX0_heat {kd f co sl ni la br : Int} {a : Nat} {σ : mp_H} (ha : σ[a]? = some (mp_O (Int.toNat kd) [mp_i kd, mp_i f, mp_i co, mp_i sl, mp_i ni, mp_i la, mp_i br])) (h_kd : 0 ≤ kd ∧ kd ≤ 7) (h_f : 0 ≤ f ∧ f ≤ 9) : mp_Call (mX0_heat, 1, 0, 0) [Value.ref a] σ (some (mp_i (f + f)), σ) := by
  refine mp_Call.of (L := [some (Value.ref a)]) pnX0 (Nat.le_of_ble_eq_true rfl) rfl ?_
  refine mp_aload_n dX0_heat_0 rfl ?_
  refine mp_invP (z := (mX4_heat, 0, 0, 0)) (K' := (0, 0)) (σ1 := σ) (as := []) (st := []) (st1 := [mp_i f]) dX0_heat_1 spX0_20 ha (mp_cl8 (by omega)) (zX4_heat (a := a) (kd := kd) (f := f) (co := co) (sl := sl) (ni := ni) (la := la) (br := br) ha (by first | with_reducible assumption | omega) (by first | with_reducible assumption | omega)) ⟨Nat.le_of_ble_eq_true rfl, Nat.le_of_ble_eq_true rfl, Nat.le_of_ble_eq_true rfl, Nat.le_of_ble_eq_true rfl, Nat.le_of_ble_eq_true rfl⟩ rfl rfl rfl rfl ?_
  refine mp_aload_n dX0_heat_4 rfl ?_
  refine mp_getfield dX0_heat_5 (fsX0_14 (by omega)) ha rfl ?_
  refine mp_iadd (z := f + f) dX0_heat_8 (by first | rfl | omega) ?_
  exact mp_ireturn (st := []) dX0_heat_9 rfl ⟨by decide, by decide⟩ ((mp_ans (by first | with_reducible rfl | omega | rfl)))
theorem zX3_heat {kd f co sl ni la br : Int} {a : Nat} {σ : mp_H} (ha : σ[a]? = some (mp_O (Int.toNat kd) [mp_i kd, mp_i f, mp_i co, mp_i sl, mp_i ni, mp_i la, mp_i br])) (h_kd : 0 ≤ kd ∧ kd ≤ 7) (h_f : 0 ≤ f ∧ f ≤ 9) : mp_Call (mX3_heat, 1, 0, 0) [Value.ref a] σ (some (mp_i (if 0 < f - 3 then f - 3 else 0)), σ) := by
  refine mp_Call.of (L := [some (Value.ref a)]) pnX3 (Nat.le_of_ble_eq_true rfl) rfl ?_
  refine mp_iconst dX3_heat_0 ?_
  refine mp_aload_n dX3_heat_1 rfl ?_
  refine mp_supU (z := (mX4_heat, 0, 0, 0)) (st1 := [mp_i f, mp_i 0]) (st := [mp_i 0]) (σ1 := σ) rfl rfl dX3_heat_2 ha (mp_cl8 (by omega)) (zX4_heat ha (by first | with_reducible assumption | omega) (by first | with_reducible assumption | omega)) ⟨Nat.le_of_ble_eq_true rfl, Nat.le_of_ble_eq_true rfl, Nat.le_of_ble_eq_true rfl, Nat.le_of_ble_eq_true rfl, Nat.le_of_ble_eq_true rfl⟩ rfl rfl rfl ?_
  refine mp_iconst dX3_heat_5 ?_
  refine mp_isub (z := f - 3) dX3_heat_6 (by first | rfl | omega) ?_
  refine mp_mmax (z := if 0 < f - 3 then f - 3 else 0) dX3_heat_7 ssX3_14 (by decide) (Nat.le_of_ble_eq_true rfl) ⟨by decide, by decide⟩ ⟨by omega, by omega⟩ ⟨by omega, by omega⟩ rfl ?_
  exact mp_ireturn (st := []) dX3_heat_10 rfl ⟨by decide, by decide⟩ ((mp_ans (by first | with_reducible rfl | omega | rfl)))
theorem zX8_heat {kd f co sl ni la br : Int} {a : Nat} {σ : mp_H} (ha : σ[a]? = some (mp_O (Int.toNat kd) [mp_i kd, mp_i f, mp_i co, mp_i sl, mp_i ni, mp_i la, mp_i br])) (h_kd : 0 ≤ kd ∧ kd ≤ 7) (h_f : 0 ≤ f ∧ f ≤ 9) : mp_Call (mX8_heat, 0, 0, 0) [Value.ref a] σ (some (mp_i 0), σ) := by
  refine mp_Call.of (L := [some (Value.ref a)]) pnX8 (Nat.le_of_ble_eq_true rfl) rfl ?_
  refine mp_iconst dX8_heat_0 ?_
  exact mp_ireturn (st := []) dX8_heat_1 rfl ⟨by decide, by decide⟩ ((mp_ans (by first | with_reducible rfl | omega | rfl)))
theorem zX2_heat {kd f co sl ni la br : Int} {a : Nat} {σ : mp_H} (ha : σ[a]? = some (mp_O (Int.toNat kd) [mp_i kd, mp_i f, mp_i co, mp_i sl, mp_i ni, mp_i la, mp_i br])) (h_kd : 0 ≤ kd ∧ kd ≤ 7) (h_f : 0 ≤ f ∧ f ≤ 9) : mp_Call (mX2_heat, 2, 0, 0) [Value.ref a] σ (some (mp_i ((f + f) / 2)), σ) := by
  refine mp_Call.of (L := [some (Value.ref a)]) pnX2 (Nat.le_of_ble_eq_true rfl) rfl ?_
  refine mp_aload_n dX2_heat_0 rfl ?_
  refine mp_invP (z := (mX0_heat, 1, 0, 0)) (K' := (0, 0)) (σ1 := σ) (as := []) (st := []) (st1 := [mp_i (f + f)]) dX2_heat_1 spX2_11 ha (mp_cl8 (by omega)) (zX0_heat (a := a) (kd := kd) (f := f) (co := co) (sl := sl) (ni := ni) (la := la) (br := br) ha (by first | with_reducible assumption | omega) (by first | with_reducible assumption | omega)) ⟨Nat.le_of_ble_eq_true rfl, Nat.le_of_ble_eq_true rfl, Nat.le_of_ble_eq_true rfl, Nat.le_of_ble_eq_true rfl, Nat.le_of_ble_eq_true rfl⟩ rfl rfl rfl rfl ?_
  refine mp_iconst dX2_heat_4 ?_
  refine mp_idiv (z := (f + f) / 2) dX2_heat_5 ⟨by omega, by omega⟩ ⟨by omega, by omega⟩ rfl ?_
  exact mp_ireturn (st := []) dX2_heat_6 rfl ⟨by decide, by decide⟩ ((mp_ans (by first | with_reducible rfl | omega | rfl)))
theorem zX4_costs {kd f co sl ni la br : Int} {a : Nat} {σ : mp_H} (ha : σ[a]? = some (mp_O (Int.toNat kd) [mp_i kd, mp_i f, mp_i co, mp_i sl, mp_i ni, mp_i la, mp_i br])) (h_kd : 0 ≤ kd ∧ kd ≤ 7) (h_f : 0 ≤ f ∧ f ≤ 9) : mp_Call (mX4_costs, 0, 0, 0) [Value.ref a] σ (some (mp_i 4), σ) := by
  refine mp_Call.of (L := [some (Value.ref a)]) pnX4 (Nat.le_of_ble_eq_true rfl) rfl ?_
  refine mp_iconst dX4_costs_0 ?_
  exact mp_ireturn (st := []) dX4_costs_1 rfl ⟨by decide, by decide⟩ ((mp_ans (by first | with_reducible rfl | omega | rfl)))
theorem zX9_costs {kd f co sl ni la br : Int} {a : Nat} {σ : mp_H} (ha : σ[a]? = some (mp_O (Int.toNat kd) [mp_i kd, mp_i f, mp_i co, mp_i sl, mp_i ni, mp_i la, mp_i br])) (h_kd : 0 ≤ kd ∧ kd ≤ 7) (h_f : 0 ≤ f ∧ f ≤ 9) : mp_Call (mX9_costs, 1, 0, 0) [Value.ref a] σ (some (mp_i (4 + f)), σ) := by
  refine mp_Call.of (L := [some (Value.ref a)]) pnX9 (Nat.le_of_ble_eq_true rfl) rfl ?_
  refine mp_aload_n dX9_costs_0 rfl ?_
  refine mp_invP (z := (mX4_costs, 0, 0, 0)) (K' := (0, 0)) (σ1 := σ) (as := []) (st := []) (st1 := [mp_i 4]) dX9_costs_1 spX9_17 ha (mp_cl8 (by omega)) (zX4_costs (a := a) (kd := kd) (f := f) (co := co) (sl := sl) (ni := ni) (la := la) (br := br) ha (by first | with_reducible assumption | omega) (by first | with_reducible assumption | omega)) ⟨Nat.le_of_ble_eq_true rfl, Nat.le_of_ble_eq_true rfl, Nat.le_of_ble_eq_true rfl, Nat.le_of_ble_eq_true rfl, Nat.le_of_ble_eq_true rfl⟩ rfl rfl rfl rfl ?_
  refine mp_aload_n dX9_costs_4 rfl ?_
  refine mp_getfield dX9_costs_5 (fsX9_20 (by omega)) ha rfl ?_
  refine mp_iadd (z := 4 + f) dX9_costs_8 (by first | rfl | omega) ?_
  exact mp_ireturn (st := []) dX9_costs_9 rfl ⟨by decide, by decide⟩ ((mp_ans (by first | with_reducible rfl | omega | rfl)))
theorem zX1_costs {kd f co sl ni la br : Int} {a : Nat} {σ : mp_H} (ha : σ[a]? = some (mp_O (Int.toNat kd) [mp_i kd, mp_i f, mp_i co, mp_i sl, mp_i ni, mp_i la, mp_i br])) (h_kd : 0 ≤ kd ∧ kd ≤ 7) (h_f : 0 ≤ f ∧ f ≤ 9) : mp_Call (mX1_costs, 0, 0, 0) [Value.ref a] σ (some (mp_i 1), σ) := by
  refine mp_Call.of (L := [some (Value.ref a)]) pnX1 (Nat.le_of_ble_eq_true rfl) rfl ?_
  refine mp_iconst dX1_costs_0 ?_
  exact mp_ireturn (st := []) dX1_costs_1 rfl ⟨by decide, by decide⟩ ((mp_ans (by first | with_reducible rfl | omega | rfl)))
theorem zX0_costs {kd f co sl ni la br : Int} {a : Nat} {σ : mp_H} (ha : σ[a]? = some (mp_O (Int.toNat kd) [mp_i kd, mp_i f, mp_i co, mp_i sl, mp_i ni, mp_i la, mp_i br])) (h_kd : 0 ≤ kd ∧ kd ≤ 7) (h_f : 0 ≤ f ∧ f ≤ 9) : mp_Call (mX0_costs, 1, 0, 0) [Value.ref a] σ (some (mp_i 8), σ) := by
  refine mp_Call.of (L := [some (Value.ref a)]) pnX0 (Nat.le_of_ble_eq_true rfl) rfl ?_
  refine mp_iconst dX0_costs_0 ?_
  refine mp_aload_n dX0_costs_1 rfl ?_
  refine mp_invP (z := (mX4_costs, 0, 0, 0)) (K' := (0, 0)) (σ1 := σ) (as := []) (st := [mp_i 2]) (st1 := [mp_i 4, mp_i 2]) dX0_costs_2 spX0_23 ha (mp_cl8 (by omega)) (zX4_costs (a := a) (kd := kd) (f := f) (co := co) (sl := sl) (ni := ni) (la := la) (br := br) ha (by first | with_reducible assumption | omega) (by first | with_reducible assumption | omega)) ⟨Nat.le_of_ble_eq_true rfl, Nat.le_of_ble_eq_true rfl, Nat.le_of_ble_eq_true rfl, Nat.le_of_ble_eq_true rfl, Nat.le_of_ble_eq_true rfl⟩ rfl rfl rfl rfl ?_
  refine mp_imul (z := 8) dX0_costs_5 (by first | rfl | omega) ?_
  exact mp_ireturn (st := []) dX0_costs_6 rfl ⟨by decide, by decide⟩ ((mp_ans (by first | with_reducible rfl | omega | rfl)))
theorem zX3_costs {kd f co sl ni la br : Int} {a : Nat} {σ : mp_H} (ha : σ[a]? = some (mp_O (Int.toNat kd) [mp_i kd, mp_i f, mp_i co, mp_i sl, mp_i ni, mp_i la, mp_i br])) (h_kd : 0 ≤ kd ∧ kd ≤ 7) (h_f : 0 ≤ f ∧ f ≤ 9) : mp_Call (mX3_costs, 2, 0, 0) [Value.ref a] σ (some (mp_i (4 + f + 3)), σ) := by
  refine mp_Call.of (L := [some (Value.ref a)]) pnX3 (Nat.le_of_ble_eq_true rfl) rfl ?_
  refine mp_aload_n dX3_costs_0 rfl ?_
  refine mp_invP (z := (mX9_costs, 1, 0, 0)) (K' := (0, 0)) (σ1 := σ) (as := []) (st := []) (st1 := [mp_i (4 + f)]) dX3_costs_1 spX3_20 ha (mp_cl8 (by omega)) (zX9_costs (a := a) (kd := kd) (f := f) (co := co) (sl := sl) (ni := ni) (la := la) (br := br) ha (by first | with_reducible assumption | omega) (by first | with_reducible assumption | omega)) ⟨Nat.le_of_ble_eq_true rfl, Nat.le_of_ble_eq_true rfl, Nat.le_of_ble_eq_true rfl, Nat.le_of_ble_eq_true rfl, Nat.le_of_ble_eq_true rfl⟩ rfl rfl rfl rfl ?_
  refine mp_iconst dX3_costs_4 ?_
  refine mp_iadd (z := (4 + f) + 3) dX3_costs_5 (by first | rfl | omega) ?_
  exact mp_ireturn (st := []) dX3_costs_6 rfl ⟨by decide, by decide⟩ ((mp_ans (by first | with_reducible rfl | omega | rfl)))
theorem zX8_costs {kd f co sl ni la br : Int} {a : Nat} {σ : mp_H} (ha : σ[a]? = some (mp_O (Int.toNat kd) [mp_i kd, mp_i f, mp_i co, mp_i sl, mp_i ni, mp_i la, mp_i br])) (h_kd : 0 ≤ kd ∧ kd ≤ 7) (h_f : 0 ≤ f ∧ f ≤ 9) : mp_Call (mX8_costs, 1, 0, 0) [Value.ref a] σ (some (mp_i (1 + f)), σ) := by
  refine mp_Call.of (L := [some (Value.ref a)]) pnX8 (Nat.le_of_ble_eq_true rfl) rfl ?_
  refine mp_aload_n dX8_costs_0 rfl ?_
  refine mp_invP (z := (mX1_costs, 0, 0, 0)) (K' := (0, 0)) (σ1 := σ) (as := []) (st := []) (st1 := [mp_i 1]) dX8_costs_1 spX8_11 ha (mp_cl8 (by omega)) (zX1_costs (a := a) (kd := kd) (f := f) (co := co) (sl := sl) (ni := ni) (la := la) (br := br) ha (by first | with_reducible assumption | omega) (by first | with_reducible assumption | omega)) ⟨Nat.le_of_ble_eq_true rfl, Nat.le_of_ble_eq_true rfl, Nat.le_of_ble_eq_true rfl, Nat.le_of_ble_eq_true rfl, Nat.le_of_ble_eq_true rfl⟩ rfl rfl rfl rfl ?_
  refine mp_aload_n dX8_costs_4 rfl ?_
  refine mp_getfield dX8_costs_5 (fsX8_14 (by omega)) ha rfl ?_
  refine mp_iadd (z := 1 + f) dX8_costs_8 (by first | rfl | omega) ?_
  exact mp_ireturn (st := []) dX8_costs_9 rfl ⟨by decide, by decide⟩ ((mp_ans (by first | with_reducible rfl | omega | rfl)))
theorem zX10_costs {kd f co sl ni la br : Int} {a : Nat} {σ : mp_H} (ha : σ[a]? = some (mp_O (Int.toNat kd) [mp_i kd, mp_i f, mp_i co, mp_i sl, mp_i ni, mp_i la, mp_i br])) (h_kd : 0 ≤ kd ∧ kd ≤ 7) (h_f : 0 ≤ f ∧ f ≤ 9) : mp_Call (mX10_costs, 1, 0, 0) [Value.ref a] σ (some (mp_i 6), σ) := by
  refine mp_Call.of (L := [some (Value.ref a)]) pnX10 (Nat.le_of_ble_eq_true rfl) rfl ?_
  refine mp_aload_n dX10_costs_0 rfl ?_
  refine mp_invP (z := (mX4_costs, 0, 0, 0)) (K' := (0, 0)) (σ1 := σ) (as := []) (st := []) (st1 := [mp_i 4]) dX10_costs_1 spX10_20 ha (mp_cl8 (by omega)) (zX4_costs (a := a) (kd := kd) (f := f) (co := co) (sl := sl) (ni := ni) (la := la) (br := br) ha (by first | with_reducible assumption | omega) (by first | with_reducible assumption | omega)) ⟨Nat.le_of_ble_eq_true rfl, Nat.le_of_ble_eq_true rfl, Nat.le_of_ble_eq_true rfl, Nat.le_of_ble_eq_true rfl, Nat.le_of_ble_eq_true rfl⟩ rfl rfl rfl rfl ?_
  refine mp_iconst dX10_costs_4 ?_
  refine mp_iadd (z := 6) dX10_costs_5 (by first | rfl | omega) ?_
  exact mp_ireturn (st := []) dX10_costs_6 rfl ⟨by decide, by decide⟩ ((mp_ans (by first | with_reducible rfl | omega | rfl)))
theorem zX2_costs {kd f co sl ni la br : Int} {a : Nat} {σ : mp_H} (ha : σ[a]? = some (mp_O (Int.toNat kd) [mp_i kd, mp_i f, mp_i co, mp_i sl, mp_i ni, mp_i la, mp_i br])) (h_kd : 0 ≤ kd ∧ kd ≤ 7) (h_f : 0 ≤ f ∧ f ≤ 9) : mp_Call (mX2_costs, 2, 0, 0) [Value.ref a] σ (some (mp_i 4), σ) := by
  refine mp_Call.of (L := [some (Value.ref a)]) pnX2 (Nat.le_of_ble_eq_true rfl) rfl ?_
  refine mp_aload_n dX2_costs_0 rfl ?_
  refine mp_invP (z := (mX0_costs, 1, 0, 0)) (K' := (0, 0)) (σ1 := σ) (as := []) (st := []) (st1 := [mp_i 8]) dX2_costs_1 spX2_14 ha (mp_cl8 (by omega)) (zX0_costs (a := a) (kd := kd) (f := f) (co := co) (sl := sl) (ni := ni) (la := la) (br := br) ha (by first | with_reducible assumption | omega) (by first | with_reducible assumption | omega)) ⟨Nat.le_of_ble_eq_true rfl, Nat.le_of_ble_eq_true rfl, Nat.le_of_ble_eq_true rfl, Nat.le_of_ble_eq_true rfl, Nat.le_of_ble_eq_true rfl⟩ rfl rfl rfl rfl ?_
  refine mp_iconst dX2_costs_4 ?_
  refine mp_idiv (z := 8 / 2) dX2_costs_5 ⟨by omega, by omega⟩ ⟨by omega, by omega⟩ rfl ?_
  exact mp_ireturn (st := []) dX2_costs_6 rfl ⟨by decide, by decide⟩ ((mp_ans (by first | with_reducible rfl | omega | rfl)))
abbrev u8_lasts : List mp_Y := [(mX4_lasts, 0, 0, 0), (mX9_lasts, 1, 0, 0), (mX4_lasts, 0, 0, 0), (mX0_lasts, 1, 0, 0), (mX3_lasts, 2, 0, 0), (mX4_lasts, 0, 0, 0), (mX10_lasts, 1, 0, 0), (mX2_lasts, 0, 0, 0)]
theorem fa_lasts {kd f co sl ni la br : Int} {a : Nat} {σ : mp_H} (ha : σ[a]? = some (mp_O (Int.toNat kd) [mp_i kd, mp_i f, mp_i co, mp_i sl, mp_i ni, mp_i la, mp_i br])) (h_kd : 0 ≤ kd ∧ kd ≤ 7) (h_f : 0 ≤ f ∧ f ≤ 9) : ∀ z, u8_lasts[Int.toNat kd]? = some z → mp_Call z [Value.ref a] σ (some (mp_i (sp_lasts kd f)), σ) := by
  intro z hz
  obtain rfl | rfl | rfl | rfl | rfl | rfl | rfl | rfl := mp_kdc h_kd
  · obtain rfl : (mX4_lasts, 0, 0, 0) = z := Option.some.inj hz
    exact (zX4_lasts ha (by decide) h_f).cast rfl (mp_ans (by unfold sp_lasts; omega))
  · obtain rfl : (mX9_lasts, 1, 0, 0) = z := Option.some.inj hz
    exact (zX9_lasts ha (by decide) h_f).cast rfl (mp_ans (by unfold sp_lasts; omega))
  · obtain rfl : (mX4_lasts, 0, 0, 0) = z := Option.some.inj hz
    exact (zX4_lasts ha (by decide) h_f).cast rfl (mp_ans (by unfold sp_lasts; omega))
  · obtain rfl : (mX0_lasts, 1, 0, 0) = z := Option.some.inj hz
    exact (zX0_lasts ha (by decide) h_f).cast rfl (mp_ans (by unfold sp_lasts; omega))
  · obtain rfl : (mX3_lasts, 2, 0, 0) = z := Option.some.inj hz
    exact (zX3_lasts ha (by decide) h_f).cast rfl (mp_ans (by unfold sp_lasts; omega))
  · obtain rfl : (mX4_lasts, 0, 0, 0) = z := Option.some.inj hz
    exact (zX4_lasts ha (by decide) h_f).cast rfl (mp_ans (by unfold sp_lasts; omega))
  · obtain rfl : (mX10_lasts, 1, 0, 0) = z := Option.some.inj hz
    exact (zX10_lasts ha (by decide) h_f).cast rfl (mp_ans (by unfold sp_lasts; omega))
  · obtain rfl : (mX2_lasts, 0, 0, 0) = z := Option.some.inj hz
    exact (zX2_lasts ha (by decide) h_f).cast rfl (mp_ans (by unfold sp_lasts; omega))
theorem s8X4_34 : mp_S8 RX4 34 0 mX4_lasts u8_lasts 2 := by
  intro c hc
  match c, hc with
  | 0, _ => exact ⟨_, _, rfl, rfl, suX4_34_0, by decide, by decide, rfl⟩
  | 1, _ => exact ⟨_, _, rfl, rfl, suX4_34_1, by decide, by decide, rfl⟩
  | 2, _ => exact ⟨_, _, rfl, rfl, suX4_34_2, by decide, by decide, rfl⟩
  | 3, _ => exact ⟨_, _, rfl, rfl, suX4_34_3, by decide, by decide, rfl⟩
  | 4, _ => exact ⟨_, _, rfl, rfl, suX4_34_4, by decide, by decide, rfl⟩
  | 5, _ => exact ⟨_, _, rfl, rfl, suX4_34_5, by decide, by decide, rfl⟩
  | 6, _ => exact ⟨_, _, rfl, rfl, suX4_34_6, by decide, by decide, rfl⟩
  | 7, _ => exact ⟨_, _, rfl, rfl, suX4_34_7, by decide, by decide, rfl⟩
theorem s8X11_114 : mp_S8 RX11 114 0 mX4_lasts u8_lasts 2 := by
  intro c hc
  match c, hc with
  | 0, _ => exact ⟨_, _, rfl, rfl, suX11_114_0, by decide, by decide, rfl⟩
  | 1, _ => exact ⟨_, _, rfl, rfl, suX11_114_1, by decide, by decide, rfl⟩
  | 2, _ => exact ⟨_, _, rfl, rfl, suX11_114_2, by decide, by decide, rfl⟩
  | 3, _ => exact ⟨_, _, rfl, rfl, suX11_114_3, by decide, by decide, rfl⟩
  | 4, _ => exact ⟨_, _, rfl, rfl, suX11_114_4, by decide, by decide, rfl⟩
  | 5, _ => exact ⟨_, _, rfl, rfl, suX11_114_5, by decide, by decide, rfl⟩
  | 6, _ => exact ⟨_, _, rfl, rfl, suX11_114_6, by decide, by decide, rfl⟩
  | 7, _ => exact ⟨_, _, rfl, rfl, suX11_114_7, by decide, by decide, rfl⟩
abbrev u8_bright : List mp_Y := [(mX4_bright, 0, 0, 0), (mX9_bright, 1, 0, 0), (mX1_bright, 0, 0, 0), (mX0_bright, 1, 0, 0), (mX9_bright, 1, 0, 0), (mX8_bright, 1, 0, 0), (mX4_bright, 0, 0, 0), (mX2_bright, 2, 0, 0)]
theorem fa_bright {kd f co sl ni la br : Int} {a : Nat} {σ : mp_H} (ha : σ[a]? = some (mp_O (Int.toNat kd) [mp_i kd, mp_i f, mp_i co, mp_i sl, mp_i ni, mp_i la, mp_i br])) (h_kd : 0 ≤ kd ∧ kd ≤ 7) (h_f : 0 ≤ f ∧ f ≤ 9) : ∀ z, u8_bright[Int.toNat kd]? = some z → mp_Call z [Value.ref a] σ (some (mp_i (sp_bright kd f)), σ) := by
  intro z hz
  obtain rfl | rfl | rfl | rfl | rfl | rfl | rfl | rfl := mp_kdc h_kd
  · obtain rfl : (mX4_bright, 0, 0, 0) = z := Option.some.inj hz
    exact (zX4_bright ha (by decide) h_f).cast rfl (mp_ans (by unfold sp_bright; omega))
  · obtain rfl : (mX9_bright, 1, 0, 0) = z := Option.some.inj hz
    exact (zX9_bright ha (by decide) h_f).cast rfl (mp_ans (by unfold sp_bright; omega))
  · obtain rfl : (mX1_bright, 0, 0, 0) = z := Option.some.inj hz
    exact (zX1_bright ha (by decide) h_f).cast rfl (mp_ans (by unfold sp_bright; omega))
  · obtain rfl : (mX0_bright, 1, 0, 0) = z := Option.some.inj hz
    exact (zX0_bright ha (by decide) h_f).cast rfl (mp_ans (by unfold sp_bright; omega))
  · obtain rfl : (mX9_bright, 1, 0, 0) = z := Option.some.inj hz
    exact (zX9_bright ha (by decide) h_f).cast rfl (mp_ans (by unfold sp_bright; omega))
  · obtain rfl : (mX8_bright, 1, 0, 0) = z := Option.some.inj hz
    exact (zX8_bright ha (by decide) h_f).cast rfl (mp_ans (by unfold sp_bright; omega))
  · obtain rfl : (mX4_bright, 0, 0, 0) = z := Option.some.inj hz
    exact (zX4_bright ha (by decide) h_f).cast rfl (mp_ans (by unfold sp_bright; omega))
  · obtain rfl : (mX2_bright, 2, 0, 0) = z := Option.some.inj hz
    exact (zX2_bright ha (by decide) h_f).cast rfl (mp_ans (by unfold sp_bright; omega))
theorem s8X4_41 : mp_S8 RX4 41 0 mX4_bright u8_bright 2 := by
  intro c hc
  match c, hc with
  | 0, _ => exact ⟨_, _, rfl, rfl, suX4_41_0, by decide, by decide, rfl⟩
  | 1, _ => exact ⟨_, _, rfl, rfl, suX4_41_1, by decide, by decide, rfl⟩
  | 2, _ => exact ⟨_, _, rfl, rfl, suX4_41_2, by decide, by decide, rfl⟩
  | 3, _ => exact ⟨_, _, rfl, rfl, suX4_41_3, by decide, by decide, rfl⟩
  | 4, _ => exact ⟨_, _, rfl, rfl, suX4_41_4, by decide, by decide, rfl⟩
  | 5, _ => exact ⟨_, _, rfl, rfl, suX4_41_5, by decide, by decide, rfl⟩
  | 6, _ => exact ⟨_, _, rfl, rfl, suX4_41_6, by decide, by decide, rfl⟩
  | 7, _ => exact ⟨_, _, rfl, rfl, suX4_41_7, by decide, by decide, rfl⟩
theorem s8X11_118 : mp_S8 RX11 118 0 mX4_bright u8_bright 2 := by
  intro c hc
  match c, hc with
  | 0, _ => exact ⟨_, _, rfl, rfl, suX11_118_0, by decide, by decide, rfl⟩
  | 1, _ => exact ⟨_, _, rfl, rfl, suX11_118_1, by decide, by decide, rfl⟩
  | 2, _ => exact ⟨_, _, rfl, rfl, suX11_118_2, by decide, by decide, rfl⟩
  | 3, _ => exact ⟨_, _, rfl, rfl, suX11_118_3, by decide, by decide, rfl⟩
  | 4, _ => exact ⟨_, _, rfl, rfl, suX11_118_4, by decide, by decide, rfl⟩
  | 5, _ => exact ⟨_, _, rfl, rfl, suX11_118_5, by decide, by decide, rfl⟩
  | 6, _ => exact ⟨_, _, rfl, rfl, suX11_118_6, by decide, by decide, rfl⟩
  | 7, _ => exact ⟨_, _, rfl, rfl, suX11_118_7, by decide, by decide, rfl⟩
abbrev u8_period : List mp_Y := [(mX4_period, 0, 0, 0), (mX9_period, 1, 0, 0), (mX1_period, 1, 0, 0), (mX4_period, 0, 0, 0), (mX9_period, 1, 0, 0), (mX1_period, 1, 0, 0), (mX10_period, 1, 0, 0), (mX2_period, 0, 0, 0)]
theorem fa_period {kd f co sl ni la br : Int} {a : Nat} {σ : mp_H} (ha : σ[a]? = some (mp_O (Int.toNat kd) [mp_i kd, mp_i f, mp_i co, mp_i sl, mp_i ni, mp_i la, mp_i br])) (h_kd : 0 ≤ kd ∧ kd ≤ 7) (h_f : 0 ≤ f ∧ f ≤ 9) : ∀ z, u8_period[Int.toNat kd]? = some z → mp_Call z [Value.ref a] σ (some (mp_i (sp_period kd f)), σ) := by
  intro z hz
  obtain rfl | rfl | rfl | rfl | rfl | rfl | rfl | rfl := mp_kdc h_kd
  · obtain rfl : (mX4_period, 0, 0, 0) = z := Option.some.inj hz
    exact (zX4_period ha (by decide) h_f).cast rfl (mp_ans (by unfold sp_period; omega))
  · obtain rfl : (mX9_period, 1, 0, 0) = z := Option.some.inj hz
    exact (zX9_period ha (by decide) h_f).cast rfl (mp_ans (by unfold sp_period; omega))
  · obtain rfl : (mX1_period, 1, 0, 0) = z := Option.some.inj hz
    exact (zX1_period ha (by decide) h_f).cast rfl (mp_ans (by unfold sp_period; omega))
  · obtain rfl : (mX4_period, 0, 0, 0) = z := Option.some.inj hz
    exact (zX4_period ha (by decide) h_f).cast rfl (mp_ans (by unfold sp_period; omega))
  · obtain rfl : (mX9_period, 1, 0, 0) = z := Option.some.inj hz
    exact (zX9_period ha (by decide) h_f).cast rfl (mp_ans (by unfold sp_period; omega))
  · obtain rfl : (mX1_period, 1, 0, 0) = z := Option.some.inj hz
    exact (zX1_period ha (by decide) h_f).cast rfl (mp_ans (by unfold sp_period; omega))
  · obtain rfl : (mX10_period, 1, 0, 0) = z := Option.some.inj hz
    exact (zX10_period ha (by decide) h_f).cast rfl (mp_ans (by unfold sp_period; omega))
  · obtain rfl : (mX2_period, 0, 0, 0) = z := Option.some.inj hz
    exact (zX2_period ha (by decide) h_f).cast rfl (mp_ans (by unfold sp_period; omega))
theorem s8X4_57 : mp_S8 RX4 57 0 mX4_period u8_period 1 := by
  intro c hc
  match c, hc with
  | 0, _ => exact ⟨_, _, rfl, rfl, suX4_57_0, by decide, by decide, rfl⟩
  | 1, _ => exact ⟨_, _, rfl, rfl, suX4_57_1, by decide, by decide, rfl⟩
  | 2, _ => exact ⟨_, _, rfl, rfl, suX4_57_2, by decide, by decide, rfl⟩
  | 3, _ => exact ⟨_, _, rfl, rfl, suX4_57_3, by decide, by decide, rfl⟩
  | 4, _ => exact ⟨_, _, rfl, rfl, suX4_57_4, by decide, by decide, rfl⟩
  | 5, _ => exact ⟨_, _, rfl, rfl, suX4_57_5, by decide, by decide, rfl⟩
  | 6, _ => exact ⟨_, _, rfl, rfl, suX4_57_6, by decide, by decide, rfl⟩
  | 7, _ => exact ⟨_, _, rfl, rfl, suX4_57_7, by decide, by decide, rfl⟩
theorem s8X11_121 : mp_S8 RX11 121 0 mX4_period u8_period 1 := by
  intro c hc
  match c, hc with
  | 0, _ => exact ⟨_, _, rfl, rfl, suX11_121_0, by decide, by decide, rfl⟩
  | 1, _ => exact ⟨_, _, rfl, rfl, suX11_121_1, by decide, by decide, rfl⟩
  | 2, _ => exact ⟨_, _, rfl, rfl, suX11_121_2, by decide, by decide, rfl⟩
  | 3, _ => exact ⟨_, _, rfl, rfl, suX11_121_3, by decide, by decide, rfl⟩
  | 4, _ => exact ⟨_, _, rfl, rfl, suX11_121_4, by decide, by decide, rfl⟩
  | 5, _ => exact ⟨_, _, rfl, rfl, suX11_121_5, by decide, by decide, rfl⟩
  | 6, _ => exact ⟨_, _, rfl, rfl, suX11_121_6, by decide, by decide, rfl⟩
  | 7, _ => exact ⟨_, _, rfl, rfl, suX11_121_7, by decide, by decide, rfl⟩
abbrev u8_heat : List mp_Y := [(mX4_heat, 0, 0, 0), (mX4_heat, 0, 0, 0), (mX4_heat, 0, 0, 0), (mX0_heat, 1, 0, 0), (mX3_heat, 1, 0, 0), (mX8_heat, 0, 0, 0), (mX4_heat, 0, 0, 0), (mX2_heat, 2, 0, 0)]
theorem fa_heat {kd f co sl ni la br : Int} {a : Nat} {σ : mp_H} (ha : σ[a]? = some (mp_O (Int.toNat kd) [mp_i kd, mp_i f, mp_i co, mp_i sl, mp_i ni, mp_i la, mp_i br])) (h_kd : 0 ≤ kd ∧ kd ≤ 7) (h_f : 0 ≤ f ∧ f ≤ 9) : ∀ z, u8_heat[Int.toNat kd]? = some z → mp_Call z [Value.ref a] σ (some (mp_i (sp_heat kd f)), σ) := by
  intro z hz
  obtain rfl | rfl | rfl | rfl | rfl | rfl | rfl | rfl := mp_kdc h_kd
  · obtain rfl : (mX4_heat, 0, 0, 0) = z := Option.some.inj hz
    exact (zX4_heat ha (by decide) h_f).cast rfl (mp_ans (by unfold sp_heat; omega))
  · obtain rfl : (mX4_heat, 0, 0, 0) = z := Option.some.inj hz
    exact (zX4_heat ha (by decide) h_f).cast rfl (mp_ans (by unfold sp_heat; omega))
  · obtain rfl : (mX4_heat, 0, 0, 0) = z := Option.some.inj hz
    exact (zX4_heat ha (by decide) h_f).cast rfl (mp_ans (by unfold sp_heat; omega))
  · obtain rfl : (mX0_heat, 1, 0, 0) = z := Option.some.inj hz
    exact (zX0_heat ha (by decide) h_f).cast rfl (mp_ans (by unfold sp_heat; omega))
  · obtain rfl : (mX3_heat, 1, 0, 0) = z := Option.some.inj hz
    exact (zX3_heat ha (by decide) h_f).cast rfl (mp_ans (by unfold sp_heat; omega))
  · obtain rfl : (mX8_heat, 0, 0, 0) = z := Option.some.inj hz
    exact (zX8_heat ha (by decide) h_f).cast rfl (mp_ans (by unfold sp_heat; omega))
  · obtain rfl : (mX4_heat, 0, 0, 0) = z := Option.some.inj hz
    exact (zX4_heat ha (by decide) h_f).cast rfl (mp_ans (by unfold sp_heat; omega))
  · obtain rfl : (mX2_heat, 2, 0, 0) = z := Option.some.inj hz
    exact (zX2_heat ha (by decide) h_f).cast rfl (mp_ans (by unfold sp_heat; omega))
theorem s8X6_76 : mp_S8 RX6 76 0 mX4_heat u8_heat 2 := by
  intro c hc
  match c, hc with
  | 0, _ => exact ⟨_, _, rfl, rfl, suX6_76_0, by decide, by decide, rfl⟩
  | 1, _ => exact ⟨_, _, rfl, rfl, suX6_76_1, by decide, by decide, rfl⟩
  | 2, _ => exact ⟨_, _, rfl, rfl, suX6_76_2, by decide, by decide, rfl⟩
  | 3, _ => exact ⟨_, _, rfl, rfl, suX6_76_3, by decide, by decide, rfl⟩
  | 4, _ => exact ⟨_, _, rfl, rfl, suX6_76_4, by decide, by decide, rfl⟩
  | 5, _ => exact ⟨_, _, rfl, rfl, suX6_76_5, by decide, by decide, rfl⟩
  | 6, _ => exact ⟨_, _, rfl, rfl, suX6_76_6, by decide, by decide, rfl⟩
  | 7, _ => exact ⟨_, _, rfl, rfl, suX6_76_7, by decide, by decide, rfl⟩
theorem s8X11_124 : mp_S8 RX11 124 0 mX4_heat u8_heat 2 := by
  intro c hc
  match c, hc with
  | 0, _ => exact ⟨_, _, rfl, rfl, suX11_124_0, by decide, by decide, rfl⟩
  | 1, _ => exact ⟨_, _, rfl, rfl, suX11_124_1, by decide, by decide, rfl⟩
  | 2, _ => exact ⟨_, _, rfl, rfl, suX11_124_2, by decide, by decide, rfl⟩
  | 3, _ => exact ⟨_, _, rfl, rfl, suX11_124_3, by decide, by decide, rfl⟩
  | 4, _ => exact ⟨_, _, rfl, rfl, suX11_124_4, by decide, by decide, rfl⟩
  | 5, _ => exact ⟨_, _, rfl, rfl, suX11_124_5, by decide, by decide, rfl⟩
  | 6, _ => exact ⟨_, _, rfl, rfl, suX11_124_6, by decide, by decide, rfl⟩
  | 7, _ => exact ⟨_, _, rfl, rfl, suX11_124_7, by decide, by decide, rfl⟩
abbrev u8_costs : List mp_Y := [(mX4_costs, 0, 0, 0), (mX9_costs, 1, 0, 0), (mX1_costs, 0, 0, 0), (mX0_costs, 1, 0, 0), (mX3_costs, 2, 0, 0), (mX8_costs, 1, 0, 0), (mX10_costs, 1, 0, 0), (mX2_costs, 2, 0, 0)]
theorem fa_costs {kd f co sl ni la br : Int} {a : Nat} {σ : mp_H} (ha : σ[a]? = some (mp_O (Int.toNat kd) [mp_i kd, mp_i f, mp_i co, mp_i sl, mp_i ni, mp_i la, mp_i br])) (h_kd : 0 ≤ kd ∧ kd ≤ 7) (h_f : 0 ≤ f ∧ f ≤ 9) : ∀ z, u8_costs[Int.toNat kd]? = some z → mp_Call z [Value.ref a] σ (some (mp_i (sp_cost kd f)), σ) := by
  intro z hz
  obtain rfl | rfl | rfl | rfl | rfl | rfl | rfl | rfl := mp_kdc h_kd
  · obtain rfl : (mX4_costs, 0, 0, 0) = z := Option.some.inj hz
    exact (zX4_costs ha (by decide) h_f).cast rfl (mp_ans (by unfold sp_cost; omega))
  · obtain rfl : (mX9_costs, 1, 0, 0) = z := Option.some.inj hz
    exact (zX9_costs ha (by decide) h_f).cast rfl (mp_ans (by unfold sp_cost; omega))
  · obtain rfl : (mX1_costs, 0, 0, 0) = z := Option.some.inj hz
    exact (zX1_costs ha (by decide) h_f).cast rfl (mp_ans (by unfold sp_cost; omega))
  · obtain rfl : (mX0_costs, 1, 0, 0) = z := Option.some.inj hz
    exact (zX0_costs ha (by decide) h_f).cast rfl (mp_ans (by unfold sp_cost; omega))
  · obtain rfl : (mX3_costs, 2, 0, 0) = z := Option.some.inj hz
    exact (zX3_costs ha (by decide) h_f).cast rfl (mp_ans (by unfold sp_cost; omega))
  · obtain rfl : (mX8_costs, 1, 0, 0) = z := Option.some.inj hz
    exact (zX8_costs ha (by decide) h_f).cast rfl (mp_ans (by unfold sp_cost; omega))
  · obtain rfl : (mX10_costs, 1, 0, 0) = z := Option.some.inj hz
    exact (zX10_costs ha (by decide) h_f).cast rfl (mp_ans (by unfold sp_cost; omega))
  · obtain rfl : (mX2_costs, 2, 0, 0) = z := Option.some.inj hz
    exact (zX2_costs ha (by decide) h_f).cast rfl (mp_ans (by unfold sp_cost; omega))
theorem s8X11_354 : mp_S8 RX11 354 0 mX4_costs u8_costs 2 := by
  intro c hc
  match c, hc with
  | 0, _ => exact ⟨_, _, rfl, rfl, suX11_354_0, by decide, by decide, rfl⟩
  | 1, _ => exact ⟨_, _, rfl, rfl, suX11_354_1, by decide, by decide, rfl⟩
  | 2, _ => exact ⟨_, _, rfl, rfl, suX11_354_2, by decide, by decide, rfl⟩
  | 3, _ => exact ⟨_, _, rfl, rfl, suX11_354_3, by decide, by decide, rfl⟩
  | 4, _ => exact ⟨_, _, rfl, rfl, suX11_354_4, by decide, by decide, rfl⟩
  | 5, _ => exact ⟨_, _, rfl, rfl, suX11_354_5, by decide, by decide, rfl⟩
  | 6, _ => exact ⟨_, _, rfl, rfl, suX11_354_6, by decide, by decide, rfl⟩
  | 7, _ => exact ⟨_, _, rfl, rfl, suX11_354_7, by decide, by decide, rfl⟩
theorem zX4_columnAt {kd f co sl ni la br : Int} {a : Nat} {x : Int} {t : Int} {σ : mp_H} (ha : σ[a]? = some (mp_O (Int.toNat kd) [mp_i kd, mp_i f, mp_i co, mp_i sl, mp_i ni, mp_i la, mp_i br])) (h_kd : 0 ≤ kd ∧ kd ≤ 7) (h_sl : 0 ≤ sl ∧ sl ≤ 4) (h_x : 0 ≤ x ∧ x ≤ 15) (h_t : 0 ≤ t ∧ t ≤ 100) : mp_Call (mX4_columnAt, 0, 0, 0) [Value.ref a, mp_i x, mp_i t] σ (some (mp_i (sp_over x sl t)), σ) := by
  refine mp_Call.of (L := [some (Value.ref a), some (mp_i x), some (mp_i t), none]) pnX4 (Nat.le_of_ble_eq_true rfl) rfl ?_
  have hb := mp_mul_bd (a := t) (b := sl - 2) h_t (by omega)
  refine mp_iload_n dX4_columnAt_0 rfl ?_
  refine mp_iload_n dX4_columnAt_1 rfl ?_
  refine mp_aload_n dX4_columnAt_2 rfl ?_
  refine mp_getfield dX4_columnAt_3 (fsX4_28 (by omega)) ha rfl ?_
  refine mp_iconst dX4_columnAt_6 ?_
  refine mp_isub (z := sl - 2) dX4_columnAt_7 (by first | rfl | omega) ?_
  refine mp_imul (z := t * (sl - 2)) dX4_columnAt_8 (by first | rfl | omega) ?_
  refine mp_iadd (z := x + (t * (sl - 2))) dX4_columnAt_9 (by first | rfl | omega) ?_
  refine mp_istore_n (L' := [some (Value.ref a), some (mp_i x), some (mp_i t), some (mp_i (x + (t * (sl - 2))))]) dX4_columnAt_10 rfl (by decide) rfl ?_
  refine mp_iload_n dX4_columnAt_11 rfl ?_
  refine mp_if_ge (tgt := 17) dX4_columnAt_12 rfl ⟨by omega, by omega⟩ (fun h1 => ?_) (fun h1 => ?_)
  · refine mp_iload_n dX4_columnAt_17 rfl ?_
    refine mp_bipush dX4_columnAt_18 rfl ?_
    refine mp_icmp_ge (tgt := 27) dX4_columnAt_20 rfl ⟨by omega, by omega⟩ ⟨by omega, by omega⟩ (fun h2 => ?_) (fun h2 => ?_)
    · refine mp_bipush dX4_columnAt_27 rfl ?_
      exact mp_ireturn (st := []) dX4_columnAt_29 rfl ⟨by decide, by decide⟩ ((mp_ans (by first | rfl | (unfold sp_over; omega))))
    · refine mp_iload_n dX4_columnAt_23 rfl ?_
      refine mp_goto (tgt := 29) dX4_columnAt_24 rfl ?_
      exact mp_ireturn (st := []) dX4_columnAt_29 rfl ⟨by decide, by decide⟩ ((mp_ans (by first | rfl | (unfold sp_over; omega))))
  · refine mp_iconst dX4_columnAt_15 ?_
    exact mp_ireturn (st := []) dX4_columnAt_16 rfl ⟨by decide, by decide⟩ ((mp_ans (by first | rfl | (unfold sp_over; omega))))
abbrev u8_columnAt : List mp_Y := [(mX4_columnAt, 0, 0, 0), (mX4_columnAt, 0, 0, 0), (mX4_columnAt, 0, 0, 0), (mX4_columnAt, 0, 0, 0), (mX4_columnAt, 0, 0, 0), (mX4_columnAt, 0, 0, 0), (mX4_columnAt, 0, 0, 0), (mX4_columnAt, 0, 0, 0)]
theorem fa_columnAt {kd f co sl ni la br : Int} {a : Nat} {x : Int} {t : Int} {σ : mp_H} (ha : σ[a]? = some (mp_O (Int.toNat kd) [mp_i kd, mp_i f, mp_i co, mp_i sl, mp_i ni, mp_i la, mp_i br])) (h_kd : 0 ≤ kd ∧ kd ≤ 7) (h_sl : 0 ≤ sl ∧ sl ≤ 4) (h_x : 0 ≤ x ∧ x ≤ 15) (h_t : 0 ≤ t ∧ t ≤ 100) : ∀ z, u8_columnAt[Int.toNat kd]? = some z → mp_Call z [Value.ref a, mp_i x, mp_i t] σ (some (mp_i (sp_over x sl t)), σ) := by
  intro z hz
  obtain rfl := mp_same8 h_kd hz
  exact zX4_columnAt ha h_kd h_sl h_x h_t
theorem s8X4_47 : mp_S8 RX4 47 2 mX4_columnAt u8_columnAt 0 := by
  intro c hc
  match c, hc with
  | 0, _ => exact ⟨_, _, rfl, rfl, suX4_47_0, by decide, by decide, rfl⟩
  | 1, _ => exact ⟨_, _, rfl, rfl, suX4_47_1, by decide, by decide, rfl⟩
  | 2, _ => exact ⟨_, _, rfl, rfl, suX4_47_2, by decide, by decide, rfl⟩
  | 3, _ => exact ⟨_, _, rfl, rfl, suX4_47_3, by decide, by decide, rfl⟩
  | 4, _ => exact ⟨_, _, rfl, rfl, suX4_47_4, by decide, by decide, rfl⟩
  | 5, _ => exact ⟨_, _, rfl, rfl, suX4_47_5, by decide, by decide, rfl⟩
  | 6, _ => exact ⟨_, _, rfl, rfl, suX4_47_6, by decide, by decide, rfl⟩
  | 7, _ => exact ⟨_, _, rfl, rfl, suX4_47_7, by decide, by decide, rfl⟩
theorem s8X11_256 : mp_S8 RX11 256 2 mX4_columnAt u8_columnAt 0 := by
  intro c hc
  match c, hc with
  | 0, _ => exact ⟨_, _, rfl, rfl, suX11_256_0, by decide, by decide, rfl⟩
  | 1, _ => exact ⟨_, _, rfl, rfl, suX11_256_1, by decide, by decide, rfl⟩
  | 2, _ => exact ⟨_, _, rfl, rfl, suX11_256_2, by decide, by decide, rfl⟩
  | 3, _ => exact ⟨_, _, rfl, rfl, suX11_256_3, by decide, by decide, rfl⟩
  | 4, _ => exact ⟨_, _, rfl, rfl, suX11_256_4, by decide, by decide, rfl⟩
  | 5, _ => exact ⟨_, _, rfl, rfl, suX11_256_5, by decide, by decide, rfl⟩
  | 6, _ => exact ⟨_, _, rfl, rfl, suX11_256_6, by decide, by decide, rfl⟩
  | 7, _ => exact ⟨_, _, rfl, rfl, suX11_256_7, by decide, by decide, rfl⟩
theorem lX4_seenFrom_5 {kd f co sl ni la br : Int} {a : Nat} {q : Int} {x : Int} {σ : mp_H} (ha : σ[a]? = some (mp_O (Int.toNat kd) [mp_i kd, mp_i f, mp_i co, mp_i sl, mp_i ni, mp_i la, mp_i br])) (h_kd : 0 ≤ kd ∧ kd ≤ 7) (h_sl : 0 ≤ sl ∧ sl ≤ 4) (h_la : 0 ≤ la ∧ la ≤ 14) (h_br : -1 ≤ br ∧ br ≤ 12) (h_q : 0 ≤ q ∧ q ≤ 15) (h_x : 0 ≤ x ∧ x ≤ 15) {R9 : mp_An} : ∀ (n : Nat) (t : Int) (v : Int), ((0 ≤ t ∧ t + (n : Nat) = la) ∧ 0 ≤ v) → mp_At (mX4_seenFrom, 1, 0, 0) (0, 0) 46 [some (Value.ref a), some (mp_i q), some (mp_i x), some (mp_i (mp_fold (sp_seenStep x sl br q) n t v)), none] [] σ R9 → mp_At (mX4_seenFrom, 1, 0, 0) (0, 0) 5 [some (Value.ref a), some (mp_i q), some (mp_i x), some (mp_i v), some (mp_i t)] [] σ R9 := by
  intro n
  induction n with
  | zero =>
    intro t v hi hk
    refine mp_iload dX4_seenFrom_5 rfl ?_
    refine mp_aload_n dX4_seenFrom_7 rfl ?_
    refine mp_getfield dX4_seenFrom_8 (fsX4_38 (by omega)) ha rfl ?_
    refine mp_icmp_ge (tgt := 46) dX4_seenFrom_11 rfl ⟨by omega, by omega⟩ ⟨by omega, by omega⟩ (fun h1 => ?_) (fun h1 => ?_)
    · refine mp_drop (L' := [some (Value.ref a), some (mp_i q), some (mp_i x), some (mp_i v), none]) [true, true, true, true, false] rfl ?_
      exact hk
    · exfalso; omega
  | succ n ih =>
    intro t v hi hk
    refine mp_iload dX4_seenFrom_5 rfl ?_
    refine mp_aload_n dX4_seenFrom_7 rfl ?_
    refine mp_getfield dX4_seenFrom_8 (fsX4_38 (by omega)) ha rfl ?_
    refine mp_icmp_ge (tgt := 46) dX4_seenFrom_11 rfl ⟨by omega, by omega⟩ ⟨by omega, by omega⟩ (fun h1 => ?_) (fun h1 => ?_)
    · exfalso; omega
    · refine mp_aload_n dX4_seenFrom_14 rfl ?_
      refine mp_iload_n dX4_seenFrom_15 rfl ?_
      refine mp_iload dX4_seenFrom_16 rfl ?_
      refine mp_inv8 (kd := kd) (σ1 := σ) (as := [mp_i x, mp_i t]) (st := []) (st1 := [mp_i (sp_over x sl t)]) dX4_seenFrom_18 (by omega) s8X4_47 ha (fa_columnAt (a := a) (x := x) (t := t) (kd := kd) (f := f) (co := co) (sl := sl) (ni := ni) (la := la) (br := br) ha (by first | with_reducible assumption | omega) (by first | with_reducible assumption | omega) (by first | with_reducible assumption | omega) (by first | with_reducible assumption | omega)) (Nat.le_of_ble_eq_true rfl) ⟨Nat.le_of_ble_eq_true rfl, Nat.le_of_ble_eq_true rfl⟩ (Nat.le_of_ble_eq_true rfl) rfl rfl rfl ?_
      have b2 := mp_over_bd (col := x) (slope := sl) (step := t)
      refine mp_iload_n dX4_seenFrom_21 rfl ?_
      refine mp_isub (z := (sp_over x sl t) - q) dX4_seenFrom_22 (by first | rfl | omega) ?_
      refine mp_mabs (z := if 0 ≤ (sp_over x sl t) - q then (sp_over x sl t) - q else -((sp_over x sl t) - q)) dX4_seenFrom_23 ssX4_51 (by decide) (Nat.le_of_ble_eq_true rfl) ⟨by decide, by decide⟩ ⟨by omega, by omega⟩ rfl ?_
      refine mp_aload_n dX4_seenFrom_26 rfl ?_
      refine mp_getfield dX4_seenFrom_27 (fsX4_44 (by omega)) ha rfl ?_
      refine mp_icmp_gt (tgt := 40) dX4_seenFrom_30 rfl ⟨by omega, by omega⟩ ⟨by omega, by omega⟩ (fun h3 => ?_) (fun h3 => ?_)
      · refine mp_iinc (z := t + 1) (L' := [some (Value.ref a), some (mp_i q), some (mp_i x), some (mp_i v), some (mp_i (t + 1))]) dX4_seenFrom_40 rfl (rfl) (by decide) rfl ?_
        refine mp_goto (tgt := 5) dX4_seenFrom_43 rfl ?_
        refine mp_loc (j := 3) (y := (sp_seenStep x sl br q) t v) (by unfold sp_seenStep; first | (rw [if_pos (by omega)]) | (rw [if_neg (by omega)])) rfl (L' := [some (Value.ref a), some (mp_i q), some (mp_i x), some (mp_i ((sp_seenStep x sl br q) t v)), some (mp_i (t + 1))]) rfl ?_
        exact ih (t + 1) ((sp_seenStep x sl br q) t v) (⟨by omega, mp_seenStep_nn hi.2⟩) hk
      · refine mp_iload_n dX4_seenFrom_33 rfl ?_
        refine mp_iconst dX4_seenFrom_34 ?_
        refine mp_iload dX4_seenFrom_35 rfl ?_
        refine mp_ishl (z := mp_bit t) dX4_seenFrom_37 (mp_z_bit ⟨by omega, by omega⟩) ?_
        refine mp_ior (z := mp_or v (mp_bit t)) dX4_seenFrom_38 (mp_z_or (by first | omega | exact mp_bit_nn _ | exact mp_or_nn _ _ | exact mp_and_nn _ _ | exact mp_shr_nn _ _) (by first | omega | exact mp_bit_nn _ | exact mp_or_nn _ _ | exact mp_and_nn _ _ | exact mp_shr_nn _ _)) ?_
        refine mp_istore_n (L' := [some (Value.ref a), some (mp_i q), some (mp_i x), some (mp_i (mp_or v (mp_bit t))), some (mp_i t)]) dX4_seenFrom_39 rfl (by decide) rfl ?_
        refine mp_iinc (z := t + 1) (L' := [some (Value.ref a), some (mp_i q), some (mp_i x), some (mp_i (mp_or v (mp_bit t))), some (mp_i (t + 1))]) dX4_seenFrom_40 rfl (rfl) (by decide) rfl ?_
        refine mp_goto (tgt := 5) dX4_seenFrom_43 rfl ?_
        refine mp_loc (j := 3) (y := (sp_seenStep x sl br q) t v) (by unfold sp_seenStep; first | (rw [if_pos (by omega)]) | (rw [if_neg (by omega)])) rfl (L' := [some (Value.ref a), some (mp_i q), some (mp_i x), some (mp_i ((sp_seenStep x sl br q) t v)), some (mp_i (t + 1))]) rfl ?_
        exact ih (t + 1) ((sp_seenStep x sl br q) t v) (⟨by omega, mp_seenStep_nn hi.2⟩) hk
theorem zX4_seenFrom {kd f co sl ni la br : Int} {a : Nat} {q : Int} {x : Int} {σ : mp_H} (ha : σ[a]? = some (mp_O (Int.toNat kd) [mp_i kd, mp_i f, mp_i co, mp_i sl, mp_i ni, mp_i la, mp_i br])) (h_kd : 0 ≤ kd ∧ kd ≤ 7) (h_sl : 0 ≤ sl ∧ sl ≤ 4) (h_la : 0 ≤ la ∧ la ≤ 14) (h_br : -1 ≤ br ∧ br ≤ 12) (h_q : 0 ≤ q ∧ q ≤ 15) (h_x : 0 ≤ x ∧ x ≤ 15) : mp_Call (mX4_seenFrom, 1, 0, 0) [Value.ref a, mp_i q, mp_i x] σ (some (mp_i (mp_fold (sp_seenStep x sl br q) (Int.toNat la) 0 0)), σ) := by
  refine mp_Call.of (L := [some (Value.ref a), some (mp_i q), some (mp_i x), none, none]) pnX4 (Nat.le_of_ble_eq_true rfl) rfl ?_
  refine mp_iconst dX4_seenFrom_0 ?_
  refine mp_istore_n (L' := [some (Value.ref a), some (mp_i q), some (mp_i x), some (mp_i 0), none]) dX4_seenFrom_1 rfl (by decide) rfl ?_
  refine mp_iconst dX4_seenFrom_2 ?_
  refine mp_istore (L' := [some (Value.ref a), some (mp_i q), some (mp_i x), some (mp_i 0), some (mp_i 0)]) dX4_seenFrom_3 (by decide) rfl ?_
  refine lX4_seenFrom_5 (a := a) (q := q) (x := x) ha (by first | with_reducible assumption | omega) (by first | with_reducible assumption | omega) (by first | with_reducible assumption | omega) (by first | with_reducible assumption | omega) (by first | with_reducible assumption | omega) (by first | with_reducible assumption | omega) (Int.toNat la) 0 0 (by omega) ?_
  refine mp_iload_n dX4_seenFrom_46 rfl ?_
  exact mp_ireturn (st := []) dX4_seenFrom_47 rfl ⟨by decide, by decide⟩ ((mp_ans (by first | with_reducible rfl | omega | rfl)))
abbrev u8_seenFrom : List mp_Y := [(mX4_seenFrom, 1, 0, 0), (mX4_seenFrom, 1, 0, 0), (mX4_seenFrom, 1, 0, 0), (mX4_seenFrom, 1, 0, 0), (mX4_seenFrom, 1, 0, 0), (mX4_seenFrom, 1, 0, 0), (mX4_seenFrom, 1, 0, 0), (mX4_seenFrom, 1, 0, 0)]
theorem fa_seenFrom {kd f co sl ni la br : Int} {a : Nat} {q : Int} {x : Int} {σ : mp_H} (ha : σ[a]? = some (mp_O (Int.toNat kd) [mp_i kd, mp_i f, mp_i co, mp_i sl, mp_i ni, mp_i la, mp_i br])) (h_kd : 0 ≤ kd ∧ kd ≤ 7) (h_sl : 0 ≤ sl ∧ sl ≤ 4) (h_la : 0 ≤ la ∧ la ≤ 14) (h_br : -1 ≤ br ∧ br ≤ 12) (h_q : 0 ≤ q ∧ q ≤ 15) (h_x : 0 ≤ x ∧ x ≤ 15) : ∀ z, u8_seenFrom[Int.toNat kd]? = some z → mp_Call z [Value.ref a, mp_i q, mp_i x] σ (some (mp_i (mp_fold (sp_seenStep x sl br q) (Int.toNat la) 0 0)), σ) := by
  intro z hz
  obtain rfl := mp_same8 h_kd hz
  exact zX4_seenFrom ha h_kd h_sl h_la h_br h_q h_x
theorem s8X6_49 : mp_S8 RX6 49 2 mX4_seenFrom u8_seenFrom 1 := by
  intro c hc
  match c, hc with
  | 0, _ => exact ⟨_, _, rfl, rfl, suX6_49_0, by decide, by decide, rfl⟩
  | 1, _ => exact ⟨_, _, rfl, rfl, suX6_49_1, by decide, by decide, rfl⟩
  | 2, _ => exact ⟨_, _, rfl, rfl, suX6_49_2, by decide, by decide, rfl⟩
  | 3, _ => exact ⟨_, _, rfl, rfl, suX6_49_3, by decide, by decide, rfl⟩
  | 4, _ => exact ⟨_, _, rfl, rfl, suX6_49_4, by decide, by decide, rfl⟩
  | 5, _ => exact ⟨_, _, rfl, rfl, suX6_49_5, by decide, by decide, rfl⟩
  | 6, _ => exact ⟨_, _, rfl, rfl, suX6_49_6, by decide, by decide, rfl⟩
  | 7, _ => exact ⟨_, _, rfl, rfl, suX6_49_7, by decide, by decide, rfl⟩
theorem s8X11_168 : mp_S8 RX11 168 2 mX4_seenFrom u8_seenFrom 1 := by
  intro c hc
  match c, hc with
  | 0, _ => exact ⟨_, _, rfl, rfl, suX11_168_0, by decide, by decide, rfl⟩
  | 1, _ => exact ⟨_, _, rfl, rfl, suX11_168_1, by decide, by decide, rfl⟩
  | 2, _ => exact ⟨_, _, rfl, rfl, suX11_168_2, by decide, by decide, rfl⟩
  | 3, _ => exact ⟨_, _, rfl, rfl, suX11_168_3, by decide, by decide, rfl⟩
  | 4, _ => exact ⟨_, _, rfl, rfl, suX11_168_4, by decide, by decide, rfl⟩
  | 5, _ => exact ⟨_, _, rfl, rfl, suX11_168_5, by decide, by decide, rfl⟩
  | 6, _ => exact ⟨_, _, rfl, rfl, suX11_168_6, by decide, by decide, rfl⟩
  | 7, _ => exact ⟨_, _, rfl, rfl, suX11_168_7, by decide, by decide, rfl⟩
theorem lX4_yesFrom_5 {kd f co sl ni la br : Int} {a : Nat} {q : Int} {e : Int} {σ : mp_H} (ha : σ[a]? = some (mp_O (Int.toNat kd) [mp_i kd, mp_i f, mp_i co, mp_i sl, mp_i ni, mp_i la, mp_i br])) (h_kd : 0 ≤ kd ∧ kd ≤ 7) (h_sl : 0 ≤ sl ∧ sl ≤ 4) (h_la : 0 ≤ la ∧ la ≤ 14) (h_br : -1 ≤ br ∧ br ≤ 12) (h_q : 0 ≤ q ∧ q ≤ 15) (h_co : 0 ≤ co ∧ co ≤ 15) (h_e : 1 ≤ e ∧ e ≤ 4) {R9 : mp_An} : ∀ (n : Nat) (t : Int) (v : Int), ((0 ≤ t ∧ t + (n : Nat) = la) ∧ 0 ≤ v ∧ v < e) → R9 = (some (mp_i (sp_yF co sl br q e n t v)), σ) → mp_At (mX4_yesFrom, 1, 0, 0) (0, 0) 5 [some (Value.ref a), some (mp_i q), some (mp_i e), some (mp_i v), some (mp_i t)] [] σ R9 := by
  intro n
  induction n with
  | zero =>
    intro t v hi hR
    refine mp_iload dX4_yesFrom_5 rfl ?_
    refine mp_aload_n dX4_yesFrom_7 rfl ?_
    refine mp_getfield dX4_yesFrom_8 (fsX4_38 (by omega)) ha rfl ?_
    refine mp_icmp_ge (tgt := 53) dX4_yesFrom_11 rfl ⟨by omega, by omega⟩ ⟨by omega, by omega⟩ (fun h1 => ?_) (fun h1 => ?_)
    · refine mp_bipush dX4_yesFrom_53 rfl ?_
      exact mp_ireturn (st := []) dX4_yesFrom_55 rfl ⟨by decide, by decide⟩ (hR.trans (mp_ans rfl))
    · exfalso; omega
  | succ n ih =>
    intro t v hi hR
    refine mp_iload dX4_yesFrom_5 rfl ?_
    refine mp_aload_n dX4_yesFrom_7 rfl ?_
    refine mp_getfield dX4_yesFrom_8 (fsX4_38 (by omega)) ha rfl ?_
    refine mp_icmp_ge (tgt := 53) dX4_yesFrom_11 rfl ⟨by omega, by omega⟩ ⟨by omega, by omega⟩ (fun h1 => ?_) (fun h1 => ?_)
    · exfalso; omega
    · refine mp_aload_n dX4_yesFrom_14 rfl ?_
      refine mp_aload_n dX4_yesFrom_15 rfl ?_
      refine mp_getfield dX4_yesFrom_16 (fsX4_25 (by omega)) ha rfl ?_
      refine mp_iload dX4_yesFrom_19 rfl ?_
      refine mp_inv8 (kd := kd) (σ1 := σ) (as := [mp_i co, mp_i t]) (st := []) (st1 := [mp_i (sp_over co sl t)]) dX4_yesFrom_21 (by omega) s8X4_47 ha (fa_columnAt (a := a) (x := co) (t := t) (kd := kd) (f := f) (co := co) (sl := sl) (ni := ni) (la := la) (br := br) ha (by first | with_reducible assumption | omega) (by first | with_reducible assumption | omega) (by first | with_reducible assumption | omega) (by first | with_reducible assumption | omega)) (Nat.le_of_ble_eq_true rfl) ⟨Nat.le_of_ble_eq_true rfl, Nat.le_of_ble_eq_true rfl⟩ (Nat.le_of_ble_eq_true rfl) rfl rfl rfl ?_
      have b2 := mp_over_bd (col := co) (slope := sl) (step := t)
      refine mp_iload_n dX4_yesFrom_24 rfl ?_
      refine mp_isub (z := (sp_over co sl t) - q) dX4_yesFrom_25 (by first | rfl | omega) ?_
      refine mp_mabs (z := if 0 ≤ (sp_over co sl t) - q then (sp_over co sl t) - q else -((sp_over co sl t) - q)) dX4_yesFrom_26 ssX4_51 (by decide) (Nat.le_of_ble_eq_true rfl) ⟨by decide, by decide⟩ ⟨by omega, by omega⟩ rfl ?_
      refine mp_aload_n dX4_yesFrom_29 rfl ?_
      refine mp_getfield dX4_yesFrom_30 (fsX4_44 (by omega)) ha rfl ?_
      refine mp_icmp_gt (tgt := 47) dX4_yesFrom_33 rfl ⟨by omega, by omega⟩ ⟨by omega, by omega⟩ (fun h3 => ?_) (fun h3 => ?_)
      · refine mp_iinc (z := t + 1) (L' := [some (Value.ref a), some (mp_i q), some (mp_i e), some (mp_i v), some (mp_i (t + 1))]) dX4_yesFrom_47 rfl (rfl) (by decide) rfl ?_
        refine mp_goto (tgt := 5) dX4_yesFrom_50 rfl ?_
        exact ih (t + 1) v (by omega) (hR.trans (by rw [sp_yF_s]; rw [if_neg (by omega)]))
      · refine mp_iinc (z := v + 1) (L' := [some (Value.ref a), some (mp_i q), some (mp_i e), some (mp_i (v + 1)), some (mp_i t)]) dX4_yesFrom_36 rfl (rfl) (by decide) rfl ?_
        refine mp_iload_n dX4_yesFrom_39 rfl ?_
        refine mp_iload_n dX4_yesFrom_40 rfl ?_
        refine mp_icmp_ne (tgt := 47) dX4_yesFrom_41 rfl ⟨by omega, by omega⟩ ⟨by omega, by omega⟩ (fun h4 => ?_) (fun h4 => ?_)
        · refine mp_iinc (z := t + 1) (L' := [some (Value.ref a), some (mp_i q), some (mp_i e), some (mp_i (v + 1)), some (mp_i (t + 1))]) dX4_yesFrom_47 rfl (rfl) (by decide) rfl ?_
          refine mp_goto (tgt := 5) dX4_yesFrom_50 rfl ?_
          exact ih (t + 1) (v + 1) (by omega) (hR.trans (by rw [sp_yF_s]; rw [if_pos (by omega), if_neg (by omega)]))
        · refine mp_iload dX4_yesFrom_44 rfl ?_
          exact mp_ireturn (st := []) dX4_yesFrom_46 rfl ⟨by decide, by decide⟩ (hR.trans (mp_ans (by rw [sp_yF_s, if_pos (by omega), if_pos (by omega)])))
theorem zX4_yesFrom {kd f co sl ni la br : Int} {a : Nat} {q : Int} {e : Int} {σ : mp_H} (ha : σ[a]? = some (mp_O (Int.toNat kd) [mp_i kd, mp_i f, mp_i co, mp_i sl, mp_i ni, mp_i la, mp_i br])) (h_kd : 0 ≤ kd ∧ kd ≤ 7) (h_sl : 0 ≤ sl ∧ sl ≤ 4) (h_la : 0 ≤ la ∧ la ≤ 14) (h_br : -1 ≤ br ∧ br ≤ 12) (h_q : 0 ≤ q ∧ q ≤ 15) (h_co : 0 ≤ co ∧ co ≤ 15) (h_e : 1 ≤ e ∧ e ≤ 4) : mp_Call (mX4_yesFrom, 1, 0, 0) [Value.ref a, mp_i q, mp_i e] σ (some (mp_i (sp_yF co sl br q e (Int.toNat la) 0 0)), σ) := by
  refine mp_Call.of (L := [some (Value.ref a), some (mp_i q), some (mp_i e), none, none]) pnX4 (Nat.le_of_ble_eq_true rfl) rfl ?_
  refine mp_iconst dX4_yesFrom_0 ?_
  refine mp_istore_n (L' := [some (Value.ref a), some (mp_i q), some (mp_i e), some (mp_i 0), none]) dX4_yesFrom_1 rfl (by decide) rfl ?_
  refine mp_iconst dX4_yesFrom_2 ?_
  refine mp_istore (L' := [some (Value.ref a), some (mp_i q), some (mp_i e), some (mp_i 0), some (mp_i 0)]) dX4_yesFrom_3 (by decide) rfl ?_
  exact lX4_yesFrom_5 (a := a) (q := q) (e := e) ha (by first | with_reducible assumption | omega) (by first | with_reducible assumption | omega) (by first | with_reducible assumption | omega) (by first | with_reducible assumption | omega) (by first | with_reducible assumption | omega) (by first | with_reducible assumption | omega) (by first | with_reducible assumption | omega) (Int.toNat la) 0 0 (by omega) (by rfl)
abbrev u8_yesFrom : List mp_Y := [(mX4_yesFrom, 1, 0, 0), (mX4_yesFrom, 1, 0, 0), (mX4_yesFrom, 1, 0, 0), (mX4_yesFrom, 1, 0, 0), (mX4_yesFrom, 1, 0, 0), (mX4_yesFrom, 1, 0, 0), (mX4_yesFrom, 1, 0, 0), (mX4_yesFrom, 1, 0, 0)]
theorem fa_yesFrom {kd f co sl ni la br : Int} {a : Nat} {q : Int} {e : Int} {σ : mp_H} (ha : σ[a]? = some (mp_O (Int.toNat kd) [mp_i kd, mp_i f, mp_i co, mp_i sl, mp_i ni, mp_i la, mp_i br])) (h_kd : 0 ≤ kd ∧ kd ≤ 7) (h_sl : 0 ≤ sl ∧ sl ≤ 4) (h_la : 0 ≤ la ∧ la ≤ 14) (h_br : -1 ≤ br ∧ br ≤ 12) (h_q : 0 ≤ q ∧ q ≤ 15) (h_co : 0 ≤ co ∧ co ≤ 15) (h_e : 1 ≤ e ∧ e ≤ 4) : ∀ z, u8_yesFrom[Int.toNat kd]? = some z → mp_Call z [Value.ref a, mp_i q, mp_i e] σ (some (mp_i (sp_yF co sl br q e (Int.toNat la) 0 0)), σ) := by
  intro z hz
  obtain rfl := mp_same8 h_kd hz
  exact zX4_yesFrom ha h_kd h_sl h_la h_br h_q h_co h_e
theorem s8X6_42 : mp_S8 RX6 42 2 mX4_yesFrom u8_yesFrom 1 := by
  intro c hc
  match c, hc with
  | 0, _ => exact ⟨_, _, rfl, rfl, suX6_42_0, by decide, by decide, rfl⟩
  | 1, _ => exact ⟨_, _, rfl, rfl, suX6_42_1, by decide, by decide, rfl⟩
  | 2, _ => exact ⟨_, _, rfl, rfl, suX6_42_2, by decide, by decide, rfl⟩
  | 3, _ => exact ⟨_, _, rfl, rfl, suX6_42_3, by decide, by decide, rfl⟩
  | 4, _ => exact ⟨_, _, rfl, rfl, suX6_42_4, by decide, by decide, rfl⟩
  | 5, _ => exact ⟨_, _, rfl, rfl, suX6_42_5, by decide, by decide, rfl⟩
  | 6, _ => exact ⟨_, _, rfl, rfl, suX6_42_6, by decide, by decide, rfl⟩
  | 7, _ => exact ⟨_, _, rfl, rfl, suX6_42_7, by decide, by decide, rfl⟩
theorem s8X11_203 : mp_S8 RX11 203 2 mX4_yesFrom u8_yesFrom 1 := by
  intro c hc
  match c, hc with
  | 0, _ => exact ⟨_, _, rfl, rfl, suX11_203_0, by decide, by decide, rfl⟩
  | 1, _ => exact ⟨_, _, rfl, rfl, suX11_203_1, by decide, by decide, rfl⟩
  | 2, _ => exact ⟨_, _, rfl, rfl, suX11_203_2, by decide, by decide, rfl⟩
  | 3, _ => exact ⟨_, _, rfl, rfl, suX11_203_3, by decide, by decide, rfl⟩
  | 4, _ => exact ⟨_, _, rfl, rfl, suX11_203_4, by decide, by decide, rfl⟩
  | 5, _ => exact ⟨_, _, rfl, rfl, suX11_203_5, by decide, by decide, rfl⟩
  | 6, _ => exact ⟨_, _, rfl, rfl, suX11_203_6, by decide, by decide, rfl⟩
  | 7, _ => exact ⟨_, _, rfl, rfl, suX11_203_7, by decide, by decide, rfl⟩
theorem zX4_isThereOn {kd f co sl ni la br : Int} {a : Nat} {t : Int} {σ : mp_H} (ha : σ[a]? = some (mp_O (Int.toNat kd) [mp_i kd, mp_i f, mp_i co, mp_i sl, mp_i ni, mp_i la, mp_i br])) (h_kd : 0 ≤ kd ∧ kd ≤ 7) (h_f : 0 ≤ f ∧ f ≤ 9) (h_ni : 0 ≤ ni ∧ ni ≤ 30) (h_t : 0 ≤ t ∧ t ≤ 1000) : mp_Call (mX4_isThereOn, 2, 0, 0) [Value.ref a, mp_i t] σ (some (mp_i (if 0 ≤ t - ni ∧ (t - ni) % sp_period kd f = 0 then 1 else 0)), σ) := by
  refine mp_Call.of (L := [some (Value.ref a), some (mp_i t), none]) pnX4 (Nat.le_of_ble_eq_true rfl) rfl ?_
  refine mp_aload_n dX4_isThereOn_0 rfl ?_
  refine mp_inv8 (kd := kd) (σ1 := σ) (as := []) (st := []) (st1 := [mp_i (sp_period kd f)]) dX4_isThereOn_1 (by omega) s8X4_57 ha (fa_period (a := a) (kd := kd) (f := f) (co := co) (sl := sl) (ni := ni) (la := la) (br := br) ha (by first | with_reducible assumption | omega) (by first | with_reducible assumption | omega)) (Nat.le_of_ble_eq_true rfl) ⟨Nat.le_of_ble_eq_true rfl, Nat.le_of_ble_eq_true rfl⟩ (Nat.le_of_ble_eq_true rfl) rfl rfl rfl ?_
  have b1 := mp_period_bd (kind := kd) (f := f) (by omega)
  refine mp_istore_n (L' := [some (Value.ref a), some (mp_i t), some (mp_i (sp_period kd f))]) dX4_isThereOn_4 rfl (by decide) rfl ?_
  refine mp_iload_n dX4_isThereOn_5 rfl ?_
  refine mp_aload_n dX4_isThereOn_6 rfl ?_
  refine mp_getfield dX4_isThereOn_7 (fsX4_31 (by omega)) ha rfl ?_
  refine mp_icmp_lt (tgt := 32) dX4_isThereOn_10 rfl ⟨by omega, by omega⟩ ⟨by omega, by omega⟩ (fun h2 => ?_) (fun h2 => ?_)
  · refine mp_iconst dX4_isThereOn_32 ?_
    exact mp_zreturn (st := []) dX4_isThereOn_33 rfl rfl ⟨by decide, by decide⟩ ((mp_ans (by first | (rw [if_pos (by omega)]; done) | (rw [if_neg (by omega)]; done))))
  · refine mp_iload_n dX4_isThereOn_13 rfl ?_
    refine mp_if_le (tgt := 32) dX4_isThereOn_14 rfl ⟨by omega, by omega⟩ (fun h3 => ?_) (fun h3 => ?_)
    · refine mp_iconst dX4_isThereOn_32 ?_
      exact mp_zreturn (st := []) dX4_isThereOn_33 rfl rfl ⟨by decide, by decide⟩ ((mp_ans (by first | (rw [if_pos (by omega)]; done) | (rw [if_neg (by omega)]; done))))
    · refine mp_iload_n dX4_isThereOn_17 rfl ?_
      refine mp_aload_n dX4_isThereOn_18 rfl ?_
      refine mp_getfield dX4_isThereOn_19 (fsX4_31 (by omega)) ha rfl ?_
      refine mp_isub (z := t - ni) dX4_isThereOn_22 (by first | rfl | omega) ?_
      refine mp_iload_n dX4_isThereOn_23 rfl ?_
      have hmb := mp_mod_bd (a := t - ni) (b := sp_period kd f) (by omega)
      refine mp_irem (z := (t - ni) % (sp_period kd f)) dX4_isThereOn_24 ⟨by omega, by omega⟩ ⟨by omega, by omega⟩ rfl ?_
      refine mp_if_ne (tgt := 32) dX4_isThereOn_25 rfl ⟨by omega, by omega⟩ (fun h4 => ?_) (fun h4 => ?_)
      · refine mp_iconst dX4_isThereOn_32 ?_
        exact mp_zreturn (st := []) dX4_isThereOn_33 rfl rfl ⟨by decide, by decide⟩ ((mp_ans (by first | (rw [if_pos (by omega)]; done) | (rw [if_neg (by omega)]; done))))
      · refine mp_iconst dX4_isThereOn_28 ?_
        refine mp_goto (tgt := 33) dX4_isThereOn_29 rfl ?_
        exact mp_zreturn (st := []) dX4_isThereOn_33 rfl rfl ⟨by decide, by decide⟩ ((mp_ans (by first | (rw [if_pos (by omega)]; done) | (rw [if_neg (by omega)]; done))))
abbrev u8_isThereOn : List mp_Y := [(mX4_isThereOn, 2, 0, 0), (mX4_isThereOn, 2, 0, 0), (mX4_isThereOn, 2, 0, 0), (mX4_isThereOn, 2, 0, 0), (mX4_isThereOn, 2, 0, 0), (mX4_isThereOn, 2, 0, 0), (mX4_isThereOn, 2, 0, 0), (mX4_isThereOn, 2, 0, 0)]
theorem fa_isThereOn {kd f co sl ni la br : Int} {a : Nat} {t : Int} {σ : mp_H} (ha : σ[a]? = some (mp_O (Int.toNat kd) [mp_i kd, mp_i f, mp_i co, mp_i sl, mp_i ni, mp_i la, mp_i br])) (h_kd : 0 ≤ kd ∧ kd ≤ 7) (h_f : 0 ≤ f ∧ f ≤ 9) (h_ni : 0 ≤ ni ∧ ni ≤ 30) (h_t : 0 ≤ t ∧ t ≤ 1000) : ∀ z, u8_isThereOn[Int.toNat kd]? = some z → mp_Call z [Value.ref a, mp_i t] σ (some (mp_i (if 0 ≤ t - ni ∧ (t - ni) % sp_period kd f = 0 then 1 else 0)), σ) := by
  intro z hz
  obtain rfl := mp_same8 h_kd hz
  exact zX4_isThereOn ha h_kd h_f h_ni h_t
theorem s8X11_259 : mp_S8 RX11 259 1 mX4_isThereOn u8_isThereOn 2 := by
  intro c hc
  match c, hc with
  | 0, _ => exact ⟨_, _, rfl, rfl, suX11_259_0, by decide, by decide, rfl⟩
  | 1, _ => exact ⟨_, _, rfl, rfl, suX11_259_1, by decide, by decide, rfl⟩
  | 2, _ => exact ⟨_, _, rfl, rfl, suX11_259_2, by decide, by decide, rfl⟩
  | 3, _ => exact ⟨_, _, rfl, rfl, suX11_259_3, by decide, by decide, rfl⟩
  | 4, _ => exact ⟨_, _, rfl, rfl, suX11_259_4, by decide, by decide, rfl⟩
  | 5, _ => exact ⟨_, _, rfl, rfl, suX11_259_5, by decide, by decide, rfl⟩
  | 6, _ => exact ⟨_, _, rfl, rfl, suX11_259_6, by decide, by decide, rfl⟩
  | 7, _ => exact ⟨_, _, rfl, rfl, suX11_259_7, by decide, by decide, rfl⟩
theorem zX4_begins {kd f co sl ni la br : Int} {a : Nat} {x : Int} {y : Int} {w : Int} {σ : mp_H} (ha : σ[a]? = some (mp_O (Int.toNat kd) [mp_i kd, mp_i f, mp_i co, mp_i sl, mp_i ni, mp_i la, mp_i br])) (h_kd : 0 ≤ kd ∧ kd ≤ 7) (h_f : 0 ≤ f ∧ f ≤ 9) (h_a : 0 < a) : mp_Call (mX4_begins, 3, 0, 0) [Value.ref a, mp_i x, mp_i y, mp_i w] σ (none, σ.set a (mp_O (Int.toNat kd) [mp_i kd, mp_i f, mp_i x, mp_i y, mp_i w, mp_i (sp_lasts kd f), mp_i (sp_bright kd f)])) := by
  refine mp_Call.of (L := [some (Value.ref a), some (mp_i x), some (mp_i y), some (mp_i w)]) pnX4 (Nat.le_of_ble_eq_true rfl) rfl ?_
  refine mp_aload_n dX4_begins_0 rfl ?_
  refine mp_iload_n dX4_begins_1 rfl ?_
  refine mp_putM (σ' := σ.set a (mp_O (Int.toNat kd) [mp_i kd, mp_i f, mp_i x, mp_i sl, mp_i ni, mp_i la, mp_i br])) dX4_begins_2 (fsX4_25 (by omega)) (by omega) (by decide) (Or.inl (by decide)) ha (by omega) (Nat.le_of_ble_eq_true rfl) rfl ?_
  refine mp_aload_n dX4_begins_5 rfl ?_
  refine mp_iload_n dX4_begins_6 rfl ?_
  refine mp_putM (σ' := σ.set a (mp_O (Int.toNat kd) [mp_i kd, mp_i f, mp_i x, mp_i y, mp_i ni, mp_i la, mp_i br])) dX4_begins_7 (fsX4_28 (by omega)) (by omega) (by decide) (Or.inl (by decide)) (mp_set_at ha) (by omega) (Nat.le_of_ble_eq_true rfl) mp_set2 ?_
  refine mp_aload_n dX4_begins_10 rfl ?_
  refine mp_iload_n dX4_begins_11 rfl ?_
  refine mp_putM (σ' := σ.set a (mp_O (Int.toNat kd) [mp_i kd, mp_i f, mp_i x, mp_i y, mp_i w, mp_i la, mp_i br])) dX4_begins_12 (fsX4_31 (by omega)) (by omega) (by decide) (Or.inl (by decide)) (mp_set_at ha) (by omega) (Nat.le_of_ble_eq_true rfl) mp_set2 ?_
  refine mp_aload_n dX4_begins_15 rfl ?_
  refine mp_aload_n dX4_begins_16 rfl ?_
  refine mp_inv8 (kd := kd) (σ1 := σ.set a (mp_O (Int.toNat kd) [mp_i kd, mp_i f, mp_i x, mp_i y, mp_i w, mp_i la, mp_i br])) (as := []) (st := [Value.ref a]) (st1 := [mp_i (sp_lasts kd f), Value.ref a]) dX4_begins_17 (by omega) s8X4_34 (mp_set_at ha) (fa_lasts (a := a) (kd := kd) (f := f) (co := x) (sl := y) (ni := w) (la := la) (br := br) (mp_set_at ha) (by first | with_reducible assumption | omega) (by first | with_reducible assumption | omega)) (Nat.le_of_ble_eq_true rfl) ⟨Nat.le_of_ble_eq_true rfl, Nat.le_of_ble_eq_true rfl⟩ (Nat.le_of_ble_eq_true rfl) rfl rfl rfl ?_
  refine mp_putM (σ' := σ.set a (mp_O (Int.toNat kd) [mp_i kd, mp_i f, mp_i x, mp_i y, mp_i w, mp_i (sp_lasts kd f), mp_i br])) dX4_begins_20 (fsX4_38 (by omega)) (by omega) (by decide) (Or.inl (by decide)) (mp_set_at ha) (by omega) (Nat.le_of_ble_eq_true rfl) mp_set2 ?_
  refine mp_aload_n dX4_begins_23 rfl ?_
  refine mp_aload_n dX4_begins_24 rfl ?_
  refine mp_inv8 (kd := kd) (σ1 := σ.set a (mp_O (Int.toNat kd) [mp_i kd, mp_i f, mp_i x, mp_i y, mp_i w, mp_i (sp_lasts kd f), mp_i br])) (as := []) (st := [Value.ref a]) (st1 := [mp_i (sp_bright kd f), Value.ref a]) dX4_begins_25 (by omega) s8X4_41 (mp_set_at ha) (fa_bright (a := a) (kd := kd) (f := f) (co := x) (sl := y) (ni := w) (la := (sp_lasts kd f)) (br := br) (mp_set_at ha) (by first | with_reducible assumption | omega) (by first | with_reducible assumption | omega)) (Nat.le_of_ble_eq_true rfl) ⟨Nat.le_of_ble_eq_true rfl, Nat.le_of_ble_eq_true rfl⟩ (Nat.le_of_ble_eq_true rfl) rfl rfl rfl ?_
  refine mp_putM (σ' := σ.set a (mp_O (Int.toNat kd) [mp_i kd, mp_i f, mp_i x, mp_i y, mp_i w, mp_i (sp_lasts kd f), mp_i (sp_bright kd f)])) dX4_begins_28 (fsX4_44 (by omega)) (by omega) (by decide) (Or.inl (by decide)) (mp_set_at ha) (by omega) (Nat.le_of_ble_eq_true rfl) mp_set2 ?_
  exact mp_vreturn (st := []) dX4_begins_31 rfl ⟨by decide, by decide⟩ (by rfl)
abbrev u8_begins : List mp_Y := [(mX4_begins, 3, 0, 0), (mX4_begins, 3, 0, 0), (mX4_begins, 3, 0, 0), (mX4_begins, 3, 0, 0), (mX4_begins, 3, 0, 0), (mX4_begins, 3, 0, 0), (mX4_begins, 3, 0, 0), (mX4_begins, 3, 0, 0)]
theorem fa_begins {kd f co sl ni la br : Int} {a : Nat} {x : Int} {y : Int} {w : Int} {σ : mp_H} (ha : σ[a]? = some (mp_O (Int.toNat kd) [mp_i kd, mp_i f, mp_i co, mp_i sl, mp_i ni, mp_i la, mp_i br])) (h_kd : 0 ≤ kd ∧ kd ≤ 7) (h_f : 0 ≤ f ∧ f ≤ 9) (h_a : 0 < a) : ∀ z, u8_begins[Int.toNat kd]? = some z → mp_Call z [Value.ref a, mp_i x, mp_i y, mp_i w] σ (none, σ.set a (mp_O (Int.toNat kd) [mp_i kd, mp_i f, mp_i x, mp_i y, mp_i w, mp_i (sp_lasts kd f), mp_i (sp_bright kd f)])) := by
  intro z hz
  obtain rfl := mp_same8 h_kd hz
  exact zX4_begins ha h_kd h_f h_a
theorem s8X7_59 : mp_S8 RX7 59 3 mX4_begins u8_begins 3 := by
  intro c hc
  match c, hc with
  | 0, _ => exact ⟨_, _, rfl, rfl, suX7_59_0, by decide, by decide, rfl⟩
  | 1, _ => exact ⟨_, _, rfl, rfl, suX7_59_1, by decide, by decide, rfl⟩
  | 2, _ => exact ⟨_, _, rfl, rfl, suX7_59_2, by decide, by decide, rfl⟩
  | 3, _ => exact ⟨_, _, rfl, rfl, suX7_59_3, by decide, by decide, rfl⟩
  | 4, _ => exact ⟨_, _, rfl, rfl, suX7_59_4, by decide, by decide, rfl⟩
  | 5, _ => exact ⟨_, _, rfl, rfl, suX7_59_5, by decide, by decide, rfl⟩
  | 6, _ => exact ⟨_, _, rfl, rfl, suX7_59_6, by decide, by decide, rfl⟩
  | 7, _ => exact ⟨_, _, rfl, rfl, suX7_59_7, by decide, by decide, rfl⟩
theorem s8X11_146 : mp_S8 RX11 146 3 mX4_begins u8_begins 3 := by
  intro c hc
  match c, hc with
  | 0, _ => exact ⟨_, _, rfl, rfl, suX11_146_0, by decide, by decide, rfl⟩
  | 1, _ => exact ⟨_, _, rfl, rfl, suX11_146_1, by decide, by decide, rfl⟩
  | 2, _ => exact ⟨_, _, rfl, rfl, suX11_146_2, by decide, by decide, rfl⟩
  | 3, _ => exact ⟨_, _, rfl, rfl, suX11_146_3, by decide, by decide, rfl⟩
  | 4, _ => exact ⟨_, _, rfl, rfl, suX11_146_4, by decide, by decide, rfl⟩
  | 5, _ => exact ⟨_, _, rfl, rfl, suX11_146_5, by decide, by decide, rfl⟩
  | 6, _ => exact ⟨_, _, rfl, rfl, suX11_146_6, by decide, by decide, rfl⟩
  | 7, _ => exact ⟨_, _, rfl, rfl, suX11_146_7, by decide, by decide, rfl⟩
theorem zX11_isBelow {v : Int} {n : Int} {σ : mp_H} (h_v : mp_w v) (h_n : mp_w n) : mp_Call (mX11_isBelow, 0, 0, 0) [mp_i v, mp_i n] σ (some (mp_i (if 0 ≤ v ∧ v < n then 1 else 0)), σ) := by
  refine mp_Call.of (L := [some (mp_i v), some (mp_i n)]) pnX11 (Nat.le_of_ble_eq_true rfl) rfl ?_
  refine mp_iload_n dX11_isBelow_0 rfl ?_
  refine mp_if_lt (tgt := 13) dX11_isBelow_1 rfl ⟨by omega, by omega⟩ (fun h1 => ?_) (fun h1 => ?_)
  · refine mp_iconst dX11_isBelow_13 ?_
    exact mp_zreturn (st := []) dX11_isBelow_14 rfl rfl ⟨by decide, by decide⟩ ((mp_ans (by first | with_reducible rfl | omega | rfl)))
  · refine mp_iload_n dX11_isBelow_4 rfl ?_
    refine mp_iload_n dX11_isBelow_5 rfl ?_
    refine mp_icmp_ge (tgt := 13) dX11_isBelow_6 rfl ⟨by omega, by omega⟩ ⟨by omega, by omega⟩ (fun h2 => ?_) (fun h2 => ?_)
    · refine mp_iconst dX11_isBelow_13 ?_
      exact mp_zreturn (st := []) dX11_isBelow_14 rfl rfl ⟨by decide, by decide⟩ ((mp_ans (by first | with_reducible rfl | omega | rfl)))
    · refine mp_iconst dX11_isBelow_9 ?_
      refine mp_goto (tgt := 14) dX11_isBelow_10 rfl ?_
      exact mp_zreturn (st := []) dX11_isBelow_14 rfl rfl ⟨by decide, by decide⟩ ((mp_ans (by first | with_reducible rfl | omega | rfl)))
theorem zX11_isSomebodyOrNobody {l : Int} {σ : mp_H} (h_l : mp_w l) : mp_Call (mX11_isSomebodyOrNobody, 1, 0, 0) [mp_i l] σ (some (mp_i (if (0 ≤ l ∧ l < 5) ∨ l = 9 then 1 else 0)), σ) := by
  refine mp_Call.of (L := [some (mp_i l)]) pnX11 (Nat.le_of_ble_eq_true rfl) rfl ?_
  refine mp_iload_n dX11_isSomebodyOrNobody_0 rfl ?_
  refine mp_iconst dX11_isSomebodyOrNobody_1 ?_
  refine mp_invS (z := (mX11_isBelow, 0, 0, 0)) (K' := (0, 0)) (σ1 := σ) (as := [mp_i l, mp_i 5]) (st := []) (st1 := [mp_i (if 0 ≤ l ∧ l < 5 then 1 else 0)]) dX11_isSomebodyOrNobody_2 ssX11_54 (zX11_isBelow (v := l) (n := 5) (by first | with_reducible assumption | omega) (by first | with_reducible assumption | omega)) ⟨Nat.le_of_ble_eq_true rfl, Nat.le_of_ble_eq_true rfl, Nat.le_of_ble_eq_true rfl, Nat.le_of_ble_eq_true rfl, Nat.le_of_ble_eq_true rfl⟩ rfl rfl rfl rfl ?_
  refine mp_ifb_ne (tgt := 14) dX11_isSomebodyOrNobody_5 rfl (fun h1 => ?_) (fun h1 => ?_)
  · refine mp_iconst dX11_isSomebodyOrNobody_14 ?_
    refine mp_goto (tgt := 19) dX11_isSomebodyOrNobody_15 rfl ?_
    exact mp_zreturn (st := []) dX11_isSomebodyOrNobody_19 rfl rfl ⟨by decide, by decide⟩ ((mp_ans (by first | with_reducible rfl | omega | rfl)))
  · refine mp_iload_n dX11_isSomebodyOrNobody_8 rfl ?_
    refine mp_bipush dX11_isSomebodyOrNobody_9 rfl ?_
    refine mp_icmp_ne (tgt := 18) dX11_isSomebodyOrNobody_11 rfl ⟨by omega, by omega⟩ ⟨by omega, by omega⟩ (fun h2 => ?_) (fun h2 => ?_)
    · refine mp_iconst dX11_isSomebodyOrNobody_18 ?_
      exact mp_zreturn (st := []) dX11_isSomebodyOrNobody_19 rfl rfl ⟨by decide, by decide⟩ ((mp_ans (by first | with_reducible rfl | omega | rfl)))
    · refine mp_iconst dX11_isSomebodyOrNobody_14 ?_
      refine mp_goto (tgt := 19) dX11_isSomebodyOrNobody_15 rfl ?_
      exact mp_zreturn (st := []) dX11_isSomebodyOrNobody_19 rfl rfl ⟨by decide, by decide⟩ ((mp_ans (by first | with_reducible rfl | omega | rfl)))
theorem zX11_hasBit {v : Int} {k : Int} {σ : mp_H} (h_v : 0 ≤ v ∧ v < 65536) (h_k : 0 ≤ k ∧ k < 32) : mp_Call (mX11_hasBit, 0, 0, 0) [mp_i v, mp_i k] σ (some (mp_i (if sp_b v k ≠ 0 then 1 else 0)), σ) := by
  refine mp_Call.of (L := [some (mp_i v), some (mp_i k)]) pnX11 (Nat.le_of_ble_eq_true rfl) rfl ?_
  have hb := mp_b_bd v k
  refine mp_iload_n dX11_hasBit_0 rfl ?_
  refine mp_iload_n dX11_hasBit_1 rfl ?_
  refine mp_ishr (z := mp_shr v k) dX11_hasBit_2 (mp_z_shr ⟨by omega, by omega⟩ ⟨by omega, by omega⟩) ?_
  refine mp_iconst dX11_hasBit_3 ?_
  refine mp_iand (z := sp_b v k) dX11_hasBit_4 (mp_z_b _ _) ?_
  refine mp_if_eq (tgt := 12) dX11_hasBit_5 rfl ⟨by omega, by omega⟩ (fun h1 => ?_) (fun h1 => ?_)
  · refine mp_iconst dX11_hasBit_12 ?_
    exact mp_zreturn (st := []) dX11_hasBit_13 rfl rfl ⟨by decide, by decide⟩ ((mp_ans (by first | with_reducible rfl | omega | rfl)))
  · refine mp_iconst dX11_hasBit_8 ?_
    refine mp_goto (tgt := 13) dX11_hasBit_9 rfl ?_
    exact mp_zreturn (st := []) dX11_hasBit_13 rfl rfl ⟨by decide, by decide⟩ ((mp_ans (by first | with_reducible rfl | omega | rfl)))
theorem zX11_numberOrNone {v : Int} {σ : mp_H} (h_v : mp_w v) : mp_Call (mX11_numberOrNone, 0, 0, 0) [mp_i v] σ (some (mp_i (if v = 9 then -4 else v)), σ) := by
  refine mp_Call.of (L := [some (mp_i v)]) pnX11 (Nat.le_of_ble_eq_true rfl) rfl ?_
  refine mp_iload_n dX11_numberOrNone_0 rfl ?_
  refine mp_bipush dX11_numberOrNone_1 rfl ?_
  refine mp_icmp_ne (tgt := 11) dX11_numberOrNone_3 rfl ⟨by omega, by omega⟩ ⟨by omega, by omega⟩ (fun h1 => ?_) (fun h1 => ?_)
  · refine mp_iload_n dX11_numberOrNone_11 rfl ?_
    exact mp_ireturn (st := []) dX11_numberOrNone_12 rfl ⟨by decide, by decide⟩ ((mp_ans (by first | with_reducible rfl | omega | rfl)))
  · refine mp_bipush dX11_numberOrNone_6 rfl ?_
    refine mp_goto (tgt := 12) dX11_numberOrNone_8 rfl ?_
    exact mp_ireturn (st := []) dX11_numberOrNone_12 rfl ⟨by decide, by decide⟩ ((mp_ans (by first | with_reducible rfl | omega | rfl)))
theorem zX6_need {v : Int} {σ : mp_H} (h_v : 0 ≤ v ∧ v ≤ 9) : mp_Call (mX6_need, 0, 0, 0) [mp_i v] σ (some (mp_i (sp_need v)), σ) := by
  refine mp_Call.of (L := [some (mp_i v)]) pnX6 (Nat.le_of_ble_eq_true rfl) rfl ?_
  refine mp_iconst dX6_need_0 ?_
  refine mp_iload_n dX6_need_1 rfl ?_
  refine mp_iconst dX6_need_2 ?_
  refine mp_idiv (z := v / 3) dX6_need_3 ⟨by omega, by omega⟩ ⟨by omega, by omega⟩ rfl ?_
  refine mp_isub (z := 4 - (v / 3)) dX6_need_4 (by first | rfl | omega) ?_
  exact mp_ireturn (st := []) dX6_need_5 rfl ⟨by decide, by decide⟩ ((mp_ans (by first | with_reducible rfl | omega | rfl)))
theorem zX11_nextSeed {z : Int} {σ : mp_H} : mp_Call (mX11_nextSeed, 0, 0, 0) [mp_i z] σ (some (mp_i (sp_nx z)), σ) := by
  refine mp_Call.of (L := [some (mp_i z)]) pnX11 (Nat.le_of_ble_eq_true rfl) rfl ?_
  refine mp_iload_n dX11_nextSeed_0 rfl ?_
  refine mp_ldcw (z := 1103515245) dX11_nextSeed_1 kcX11_307 rfl ?_
  refine mp_imul (z := z * 1103515245) dX11_nextSeed_4 (by first | rfl | omega) ?_
  refine mp_sipush dX11_nextSeed_5 rfl ?_
  refine mp_iadd (z := (z * 1103515245) + 12345) dX11_nextSeed_8 (by first | rfl | omega) ?_
  exact mp_ireturn (st := []) dX11_nextSeed_9 rfl ⟨by decide, by decide⟩ ((mp_ans (by first | with_reducible rfl | omega | rfl)))
theorem zX11_highBits {z : Int} {σ : mp_H} : mp_Call (mX11_highBits, 0, 0, 0) [mp_i z] σ (some (mp_i (z % 2147483648 / 65536)), σ) := by
  refine mp_Call.of (L := [some (mp_i z)]) pnX11 (Nat.le_of_ble_eq_true rfl) rfl ?_
  refine mp_iload_n dX11_highBits_0 rfl ?_
  refine mp_ldcw (z := 2147483647) dX11_highBits_1 kcX11_308 rfl ?_
  refine mp_iand (z := z % 2147483648) dX11_highBits_4 (mp_z_low31 _) ?_
  refine mp_ldcw (z := 65536) dX11_highBits_5 kcX11_309 rfl ?_
  refine mp_idiv (z := (z % 2147483648) / 65536) dX11_highBits_8 ⟨by omega, by omega⟩ ⟨by omega, by omega⟩ rfl ?_
  exact mp_ireturn (st := []) dX11_highBits_9 rfl ⟨by decide, by decide⟩ ((mp_ans (by first | with_reducible rfl | omega | rfl)))
