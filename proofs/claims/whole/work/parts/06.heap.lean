/-! ===== rows of the heap ===== -/
theorem mp_ad_inj {G : mp_G} (hb : G.2.1 < G.1.size) {a b : Nat} (h : mp_ad G a = mp_ad G b) : a = b := by
  match a, b, h with
  | 0, 0, _ => rfl
  | 0, b + 1, h => exact absurd h (by show ¬ G.2.1 = G.1.size + b; omega)
  | a + 1, 0, h => exact absurd h (by show ¬ G.1.size + a = G.2.1; omega)
  | a + 1, b + 1, h => have h : G.1.size + a = G.1.size + b := h; omega
theorem mp_hc.kept {G : mp_G} {a : Nat} {c : mp_C} {H H1 : Heap} (h : mp_hc G a c H) (hq : H1[a]? = H[a]?) : mp_hc G a c H1 := by
  rcases c with o | q | q | q | q | q
  · obtain ⟨r, h1, h2⟩ := h; exact ⟨r, h1, h2.kept hq⟩
  · exact hq.trans h
  · exact hq.trans h
  · exact hq.trans h
  · obtain ⟨scr, h1, h2⟩ := h; exact ⟨scr, hq.trans h1, h2⟩
  · trivial
theorem mp_Wd.len {G : mp_G} {σ : mp_H} {H : Heap} (hb : G.2.1 < G.1.size) (h : mp_Wd G σ H) : 1 ≤ σ.length ∧ G.1.size ≤ H.size ∧ mp_ad G σ.length = H.size := by
  have h1 : H[G.1.size - 1]? = G.1[G.1.size - 1]? := h.2.1 _ (by omega)
  rw [Array.getElem?_eq_getElem (by omega : G.1.size - 1 < G.1.size)] at h1
  have h2 := (Array.getElem?_eq_some_iff.mp h1).1
  have h3 := h.1
  refine ⟨by omega, by omega, ?_⟩
  obtain ⟨n, hn⟩ : ∃ n, σ.length = n + 1 := ⟨σ.length - 1, by omega⟩
  rw [hn]
  show G.1.size + n = H.size
  omega
theorem mp_Wd.set {G : mp_G} {σ : mp_H} {H H1 : Heap} {k : Nat} {c0 c : mp_C} (hb : G.2.1 < G.1.size) (h : mp_Wd G σ H) (hk : σ[k]? = some c0) (h0 : 0 < k) (hn : mp_hc G (mp_ad G k) c H1) (z : H1.size = H.size) (oq : ∀ q : Nat, q ≠ mp_ad G k → H1[q]? = H[q]?) : mp_Wd G (σ.set k c) H1 := by
  refine ⟨by rw [z, List.length_set]; exact h.1, fun q hq => ?_, fun j cj hj => ?_⟩
  · rw [oq q (fun e => ?_)]
    · exact h.2.1 q hq
    · obtain ⟨n, rfl⟩ : ∃ n, k = n + 1 := ⟨k - 1, by omega⟩
      have e : q = G.1.size + n := e
      omega
  · rw [List.getElem?_set] at hj
    split at hj
    · rename_i hjk
      split at hj
      · cases hj
        subst hjk
        exact hn
      · cases hj
    · rename_i hjk
      exact (h.2.2 j cj hj).kept (oq _ (fun e => hjk (mp_ad_inj hb e).symm))
theorem mp_Wd.push {G : mp_G} {σ : mp_H} {H H1 : Heap} {c : mp_C} (hb : G.2.1 < G.1.size) (h : mp_Wd G σ H) (hn : mp_hc G H.size c H1) (z : H1.size = H.size + 1) (oq : ∀ q : Nat, q < H.size → H1[q]? = H[q]?) : mp_Wd G (σ ++ [c]) H1 := by
  obtain ⟨l1, l2, l3⟩ := h.len hb
  refine ⟨by rw [z, List.length_append]; have := h.1; simp; omega, fun q hq => ?_, fun j cj hj => ?_⟩
  · rw [oq q (by omega)]
    exact h.2.1 q hq
  · by_cases hl : j < σ.length
    · rw [List.getElem?_append_left hl] at hj
      refine (h.2.2 j cj hj).kept (oq _ ?_)
      match j, hl with
      | 0, _ => show G.2.1 < H.size; omega
      | j + 1, hl => show G.1.size + j < H.size; have := h.1; omega
    · rw [List.getElem?_append_right (by omega)] at hj
      have hz : j - σ.length < 1 := (List.getElem?_eq_some_iff.mp hj).1
      have hj0 : j = σ.length := by omega
      subst hj0
      rw [Nat.sub_self] at hj
      cases hj
      rw [l3]
      exact hn
theorem mp_frk {G : mp_G} {k : Nat} (h0 : 0 < k) : mp_fr G (mp_ad G k) := by
  obtain ⟨n, rfl⟩ : ∃ n, k = n + 1 := ⟨k - 1, by omega⟩
  show G.1.size ≤ G.1.size + n
  omega
theorem mp_idx {i : Int} {n : Nat} (h : 0 ≤ i ∧ i < (n : Int)) (hn : n ≤ 2147483647) : vp_in (Int32.ofInt i) n ∧ (Int32.ofInt i).toNatClampNeg = i.toNat ∧ ¬ Int32.ofInt i < 0 := by
  have h1 : (Int32.ofInt i).toInt = i := mp_toInt ⟨by omega, by omega⟩
  have h2 : (Int32.ofInt i).toNatClampNeg = i.toNat := by show (Int32.ofInt i).toInt.toNat = i.toNat; rw [h1]
  have h3 : ¬ Int32.ofInt i < 0 := by rw [← mp_zero, mp_lt ⟨by omega, by omega⟩ mp_rg0]; omega
  refine ⟨?_, h2, h3⟩
  rintro (q | q)
  · exact h3 q
  · rw [h2] at q; omega
theorem mp_w_int : Cond.arrayClass (newarray.typeOf .int) ∈ mp_gt := mp_gt_of 64 (by decide +kernel) rfl
theorem mp_w_long : Cond.arrayClass (newarray.typeOf .long) ∈ mp_gt := mp_gt_of 1435 (by decide +kernel) rfl
section Rows
variable {Y : mp_Y} {K : Nat × Nat} {pc nx : Nat} {L : List (Option Value)} {st : List Value} {σ : mp_H} {A : mp_An}
theorem mp_iaload {k n : Nat} {f : Nat → Int} {i : Int} (hd : mp_dc Y.1 pc .iaload 1 nx) (hs : σ[k]? = some (mp_I n f)) (hi : 0 ≤ i ∧ i < (n : Int)) (hn : n ≤ 2147483647) (kk : mp_At Y K nx L (mp_i (f i.toNat) :: st) σ A) : mp_At Y K pc L (mp_i i :: Value.ref k :: st) σ A := by
  obtain ⟨hd, rfl⟩ := hd
  intro G p l e Rm s m args below meth c C H locs ls hW hS hL
  have hKn := C.2.2.2.2.2.2.2.2.1
  obtain ⟨h1, h2, -⟩ := mp_idx hi hn
  have hP : va_P G.2.2.1 mp_cl [(mp_ad G k, .inl (G.2.2.2 0, n, .inl (fun j => Int32.ofInt (f j))))] H := fun j q hj => by
    match j, hj with
    | 0, hj => cases hj; exact hW.2.2 k _ hs
    | j + 1, hj => simp at hj
  refine va_iald C.1 C.2.1 hKn.1 hP 0 0 rfl rfl h1 hd ?_
  rw [h2]
  exact kk G p l e Rm s m args below meth c C H locs ls hW hS hL
theorem mp_saload {n : Nat} {f : Nat → Int} {i : Int} (hd : mp_dc Y.1 pc .iaload 1 nx) (hs : σ[0]? = some (mp_S n f)) (hi : 0 ≤ i ∧ i < (n : Int)) (hn : n ≤ 2147483647) (kk : mp_At Y K nx L (mp_i (f i.toNat) :: st) σ A) : mp_At Y K pc L (mp_i i :: Value.ref 0 :: st) σ A := by
  obtain ⟨hd, rfl⟩ := hd
  intro G p l e Rm s m args below meth c C H locs ls hW hS hL
  have hKn := C.2.2.2.2.2.2.2.2.1
  obtain ⟨h1, h2, -⟩ := mp_idx hi hn
  obtain ⟨scr, g1, g2, g3⟩ := hW.2.2 0 _ hs
  have g0 : G.1[G.2.1]? = some scr := by rw [← hW.2.1 _ hKn.2.1]; exact g1
  obtain ⟨g4, g5⟩ := hKn.2.2.2.2.2.2.1 scr g0
  refine W.iald (v := .int (Int32.ofInt (f i.toNat))) C.1 C.2.1 g1 g4 g5 (by rw [g2]; exact h1) (by rw [h2]; exact g3 _ (by omega)) rfl rfl hd ?_
  exact kk G p l e Rm s m args below meth c C H locs ls hW hS hL
theorem mp_salen {n : Nat} {f : Nat → Int} (hd : mp_dc Y.1 pc .arraylength 1 nx) (hs : σ[0]? = some (mp_S n f)) (kk : mp_At Y K nx L (mp_i n :: st) σ A) : mp_At Y K pc L (Value.ref 0 :: st) σ A := by
  obtain ⟨hd, rfl⟩ := hd
  intro G p l e Rm s m args below meth c C H locs ls hW hS hL
  have hKn := C.2.2.2.2.2.2.2.2.1
  obtain ⟨scr, g1, g2, g3⟩ := hW.2.2 0 _ hs
  have g0 : G.1[G.2.1]? = some scr := by rw [← hW.2.1 _ hKn.2.1]; exact g1
  obtain ⟨g4, g5⟩ := hKn.2.2.2.2.2.2.1 scr g0
  refine W.alen (n := Int32.ofInt (n : Int)) C.1 C.2.1 g1 g4 (by rw [g2]; exact Int32.ofInt_eq_ofNat.symm) rfl rfl hd ?_
  exact kk G p l e Rm s m args below meth c C H locs ls hW hS hL
theorem mp_ialen {k n : Nat} {f : Nat → Int} (hd : mp_dc Y.1 pc .arraylength 1 nx) (hs : σ[k]? = some (mp_I n f)) (kk : mp_At Y K nx L (mp_i n :: st) σ A) : mp_At Y K pc L (Value.ref k :: st) σ A := by
  obtain ⟨hd, rfl⟩ := hd
  intro G p l e Rm s m args below meth c C H locs ls hW hS hL
  have hKn := C.2.2.2.2.2.2.2.2.1
  have hc : H[mp_ad G k]? = some (vp_cell (G.2.2.2 0) (n, .inl (fun j => Int32.ofInt (f j)))) := hW.2.2 k _ hs
  refine W.alen (n := Int32.ofInt (n : Int)) C.1 C.2.1 hc ((hKn.1.2 0 _ rfl).1 n (fun j => .int (Int32.ofInt (f j)))) (by rw [vp_cell_i, arrV_size]; exact Int32.ofInt_eq_ofNat.symm) rfl rfl hd ?_
  exact kk G p l e Rm s m args below meth c C H locs ls hW hS hL
theorem mp_iastore {k n : Nat} {f : Nat → Int} {i x : Int} {σ' : mp_H} (hd : mp_dc Y.1 pc .iastore 1 nx) (hs : σ[k]? = some (mp_I n f)) (h0 : 0 < k) (hi : 0 ≤ i ∧ i < (n : Int)) (hn : n ≤ 2147483647) (hσ : σ.set k (mp_I n (va_up f i.toNat x)) = σ') (kk : mp_At Y K nx L st σ' A) : mp_At Y K pc L (mp_i x :: mp_i i :: Value.ref k :: st) σ A := by
  subst hσ
  obtain ⟨hd, rfl⟩ := hd
  intro G p l e Rm s m args below meth c C H locs ls hW hS hL
  have hKn := C.2.2.2.2.2.2.2.2.1
  obtain ⟨h1, h2, -⟩ := mp_idx hi hn
  have hc : H[mp_ad G k]? = some (vp_cell (G.2.2.2 0) (n, .inl (fun j => Int32.ofInt (f j)))) := hW.2.2 k _ hs
  refine W.iast C.1 C.2.1 hc ((hKn.1.2 0 _ rfl).1 n (fun j => .int (Int32.ofInt (f j)))) (fun q => by cases q) (by show ¬ (_ < 0 ∨ (arrV _ _ _).slots.size ≤ _); rw [arrV_size]; exact h1) rfl rfl hd fun H1 e1 z oq => ?_
  refine kk G p l e Rm s m args below meth c C H1 _ ls (hW.set hKn.2.1 hs h0 ?_ z oq) (hS.put z oq (mp_frk h0)) hL
  show H1[mp_ad G k]? = some (vp_cell _ _)
  rw [e1, vp_cell_i, vp_cell_i, arrV_store, h2]
  congr 2
  funext q
  by_cases hq : q = i.toNat
  · subst hq
    simp [updV, va_up]
  · simp [updV, va_up, hq]
theorem mp_laload {k n : Nat} {f : Nat → Int} {i : Int} (hd : mp_dc Y.1 pc .laload 1 nx) (hs : σ[k]? = some (mp_J n f)) (hi : 0 ≤ i ∧ i < (n : Int)) (hn : n ≤ 2147483647) (kk : mp_At Y K nx L (mp_l (f i.toNat) :: st) σ A) : mp_At Y K pc L (mp_i i :: Value.ref k :: st) σ A := by
  obtain ⟨hd, rfl⟩ := hd
  intro G p l e Rm s m args below meth c C H locs ls hW hS hL
  have hKn := C.2.2.2.2.2.2.2.2.1
  obtain ⟨h1, h2, -⟩ := mp_idx hi hn
  have hP : va_P G.2.2.1 mp_cl [(mp_ad G k, .inl (G.2.2.2 1, n, .inr (.inl (fun j => Int64.ofInt (f j)))))] H := fun j q hj => by
    match j, hj with
    | 0, hj => cases hj; exact hW.2.2 k _ hs
    | j + 1, hj => simp at hj
  refine va_lald C.1 C.2.1 hKn.1 hP 0 1 rfl rfl h1 hd ?_
  rw [h2]
  exact kk G p l e Rm s m args below meth c C H locs ls hW hS hL
theorem mp_lastore {k n : Nat} {f : Nat → Int} {i x : Int} {σ' : mp_H} (hd : mp_dc Y.1 pc .lastore 1 nx) (hs : σ[k]? = some (mp_J n f)) (h0 : 0 < k) (hi : 0 ≤ i ∧ i < (n : Int)) (hn : n ≤ 2147483647) (hσ : σ.set k (mp_J n (va_up f i.toNat x)) = σ') (kk : mp_At Y K nx L st σ' A) : mp_At Y K pc L (mp_l x :: mp_i i :: Value.ref k :: st) σ A := by
  subst hσ
  obtain ⟨hd, rfl⟩ := hd
  intro G p l e Rm s m args below meth c C H locs ls hW hS hL
  have hKn := C.2.2.2.2.2.2.2.2.1
  obtain ⟨h1, h2, -⟩ := mp_idx hi hn
  have hc : H[mp_ad G k]? = some (vp_cell (G.2.2.2 1) (n, .inr (.inl (fun j => Int64.ofInt (f j))))) := hW.2.2 k _ hs
  refine W.last C.1 C.2.1 hc ((hKn.1.2 1 _ rfl).1 n (fun j => .long (Int64.ofInt (f j)))) (fun q => by cases q) (by show ¬ (_ < 0 ∨ (arrV _ _ _).slots.size ≤ _); rw [arrV_size]; exact h1) rfl rfl hd fun H1 e1 z oq => ?_
  refine kk G p l e Rm s m args below meth c C H1 _ ls (hW.set hKn.2.1 hs h0 ?_ z oq) (hS.put z oq (mp_frk h0)) hL
  show H1[mp_ad G k]? = some (vp_cell _ _)
  rw [e1, vp_cell_l, vp_cell_l, arrV_store, h2]
  congr 2
  funext q
  by_cases hq : q = i.toNat
  · subst hq
    simp [updV, va_up]
  · simp [updV, va_up, hq]
theorem mp_rty {G : mp_G} {t : Nat} (ht : t < 2) : ∃ C, (mp_tys G)[2 + t]? = some (G.2.2.2 (2 + t), .object C) ∧ C = (if t = 0 then RX4 else RX5) := by
  match t, ht with
  | 0, _ => exact ⟨_, rfl, rfl⟩
  | 1, _ => exact ⟨_, rfl, rfl⟩
theorem mp_rfad (G : mp_G) (o : Option Nat) : va_rf (o.map (mp_ad G)) = mp_tr G (va_rf o) := by cases o <;> rfl
theorem mp_aaload {k t n : Nat} {f : Nat → Option Nat} {i : Int} (hd : mp_dc Y.1 pc .aaload 1 nx) (hs : σ[k]? = some (mp_R t n f)) (ht : t < 2) (hi : 0 ≤ i ∧ i < (n : Int)) (hn : n ≤ 2147483647) (kk : mp_At Y K nx L (va_rf (f i.toNat) :: st) σ A) : mp_At Y K pc L (mp_i i :: Value.ref k :: st) σ A := by
  obtain ⟨hd, rfl⟩ := hd
  intro G p l e Rm s m args below meth c C H locs ls hW hS hL
  have hKn := C.2.2.2.2.2.2.2.2.1
  obtain ⟨h1, h2, -⟩ := mp_idx hi hn
  obtain ⟨C0, hC, -⟩ := mp_rty (G := G) ht
  have hP : va_P G.2.2.1 mp_cl [(mp_ad G k, .inl (G.2.2.2 (2 + t), n, .inr (.inr (.inr (.inr (fun j => (f j).map (mp_ad G)))))))] H := fun j q hj => by
    match j, hj with
    | 0, hj => cases hj; exact hW.2.2 k _ hs
    | j + 1, hj => simp at hj
  refine va_aldq C.1 C.2.1 hKn.1 hP 0 (2 + t) rfl hC h1 hd ?_
  rw [h2, mp_rfad]
  exact kk G p l e Rm s m args below meth c C H locs ls hW hS hL
theorem mp_astored {G : mp_G} {H1 : Heap} {a n : Nat} {cA : ClassId} {f : Nat → Option Nat} {i : Int} {o : Option Nat} {x : Int32} (h2 : x.toNatClampNeg = i.toNat) (e1 : H1[a]? = some ((vp_cell cA (n, .inr (.inr (.inr (.inr (fun j => (f j).map (mp_ad G))))))).setSlot x.toNatClampNeg (va_rf (o.map (mp_ad G))))) : H1[a]? = some (vp_cell cA (n, .inr (.inr (.inr (.inr (fun j => (va_up f i.toNat o j).map (mp_ad G))))))) := by
  rw [e1, vp_cell_q, vp_cell_q, arrV_store, h2]
  congr 2
  funext q
  by_cases hq : q = i.toNat
  · subst hq
    simp [updV, va_up]
  · simp [updV, va_up, hq]
/-- which classes may be put into an array of references: METEORS of any kind into the first, rows into the second -/
def mp_may (t ci : Nat) : Bool := if t = 0 then decide (ci < 8) else decide (ci = 9)
theorem mp_asg {G : mp_G} {s : State} (hKn : mp_Kn G s) {t ci : Nat} (ht : t < 2) (hm : mp_may t ci = true) {comp : ClassId} (hcomp : s.vm.findClass (if t = 0 then RX4 else RX5) = some comp) : s.vm.assignable (G.2.2.1.1 ci) comp = true := by
  have hcl : ∀ r : vw_C, mp_cl[ci]? = some r → s.vm.findClass r.1 = some (G.2.2.1.1 ci) := fun r hr => (hKn.1.1 ci r hr).2.1
  have hca : ∀ q ∈ mp_cast, va_Nw (.castable q.1 q.2) s := hKn.2.2.2.1
  match t, ht with
  | 0, _ =>
    have hlt : ci < 8 := by simpa [mp_may] using hm
    rw [if_pos rfl] at hcomp
    match ci, hlt with
    | 0, _ =>
      have h9 := hcl _ rfl
      cases hcomp.symm.trans h9
      exact va_assign (hKn.1.1 0 _ rfl).2
    | 1, _ => exact vb_asgC (hca (RX9, RX4) (by simp [mp_cast])) _ _ hcomp (hcl _ rfl)
    | 2, _ => exact vb_asgC (hca (RX1, RX4) (by simp [mp_cast])) _ _ hcomp (hcl _ rfl)
    | 3, _ => exact vb_asgC (hca (RX0, RX4) (by simp [mp_cast])) _ _ hcomp (hcl _ rfl)
    | 4, _ => exact vb_asgC (hca (RX3, RX4) (by simp [mp_cast])) _ _ hcomp (hcl _ rfl)
    | 5, _ => exact vb_asgC (hca (RX8, RX4) (by simp [mp_cast])) _ _ hcomp (hcl _ rfl)
    | 6, _ => exact vb_asgC (hca (RX10, RX4) (by simp [mp_cast])) _ _ hcomp (hcl _ rfl)
    | 7, _ => exact vb_asgC (hca (RX2, RX4) (by simp [mp_cast])) _ _ hcomp (hcl _ rfl)
  | 1, _ =>
    have hci : ci = 9 := by simpa [mp_may] using hm
    subst hci
    rw [if_neg (by decide)] at hcomp
    have h9 := hcl _ rfl
    cases hcomp.symm.trans h9
    exact va_assign (hKn.1.1 9 _ rfl).2
theorem mp_aastore {k t n v ci : Nat} {vs : List Value} {f : Nat → Option Nat} {i : Int} {σ' : mp_H} (hd : mp_dc Y.1 pc .aastore 1 nx) (hs : σ[k]? = some (mp_R t n f)) (ht : t < 2) (hv : σ[v]? = some (mp_O ci vs)) (hm : mp_may t ci = true) (h0 : 0 < k) (hi : 0 ≤ i ∧ i < (n : Int)) (hn : n ≤ 2147483647) (hσ : σ.set k (mp_R t n (va_up f i.toNat (some v))) = σ') (kk : mp_At Y K nx L st σ' A) : mp_At Y K pc L (Value.ref v :: mp_i i :: Value.ref k :: st) σ A := by
  subst hσ
  obtain ⟨hd, rfl⟩ := hd
  intro G p l e Rm s m args below meth c C H locs ls hW hS hL
  have hKn := C.2.2.2.2.2.2.2.2.1
  obtain ⟨h1, h2, h3⟩ := mp_idx hi hn
  obtain ⟨C0, hC, hC0⟩ := mp_rty (G := G) ht
  have hc : H[mp_ad G k]? = some (vp_cell (G.2.2.2 (2 + t)) (n, .inr (.inr (.inr (.inr (fun j => (f j).map (mp_ad G))))))) := hW.2.2 k _ hs
  obtain ⟨r, hr, cellV, g1, g2, g3, -⟩ := hW.2.2 v _ hv
  obtain ⟨kA, comp, k1, k2, k3, -⟩ := (hKn.1.2 _ _ hC).2
  obtain ⟨kE, hkE, -⟩ := Vm.findClass_spec k3
  obtain ⟨kC, hkC, -⟩ := (hKn.1.1 ci r hr).2.2
  refine W.aast C.1 C.2.1 hc (fun q h => by cases h) (fun h => by cases h) k1 k2 rfl hkE ⟨h3, by show _ < (arrV _ _ _).slots.size; rw [arrV_size, h2]; omega⟩ g1 (fun q h => by rw [g3] at h; cases h) (by rw [g2]; exact hkC) (by rw [g2]; exact mp_asg hKn ht hm (by rw [← hC0]; exact k3)) rfl rfl hd fun H1 e1 z oq => ?_
  exact kk G p l e Rm s m args below meth c C H1 _ ls (hW.set hKn.2.1 hs h0 (mp_astored (G := G) (o := some v) h2 e1) z oq) (hS.put z oq (mp_frk h0)) hL
theorem mp_aastoreN {k t n : Nat} {f : Nat → Option Nat} {i : Int} {σ' : mp_H} (hd : mp_dc Y.1 pc .aastore 1 nx) (hs : σ[k]? = some (mp_R t n f)) (ht : t < 2) (h0 : 0 < k) (hi : 0 ≤ i ∧ i < (n : Int)) (hn : n ≤ 2147483647) (hσ : σ.set k (mp_R t n (va_up f i.toNat none)) = σ') (kk : mp_At Y K nx L st σ' A) : mp_At Y K pc L (Value.null :: mp_i i :: Value.ref k :: st) σ A := by
  subst hσ
  obtain ⟨hd, rfl⟩ := hd
  intro G p l e Rm s m args below meth c C H locs ls hW hS hL
  have hKn := C.2.2.2.2.2.2.2.2.1
  obtain ⟨h1, h2, h3⟩ := mp_idx hi hn
  obtain ⟨C0, hC, hC0⟩ := mp_rty (G := G) ht
  have hc : H[mp_ad G k]? = some (vp_cell (G.2.2.2 (2 + t)) (n, .inr (.inr (.inr (.inr (fun j => (f j).map (mp_ad G))))))) := hW.2.2 k _ hs
  refine va_WaastN (C := C0) C.1 C.2.1 hc ((hKn.1.2 _ _ hC).1 n (fun j => va_rf ((f j).map (mp_ad G)))) (fun h => by cases h) (by show ¬ (_ < 0 ∨ (arrV _ _ _).slots.size ≤ _); rw [arrV_size]; exact h1) rfl rfl hd fun H1 e1 z oq => ?_
  exact kk G p l e Rm s m args below meth c C H1 _ ls (hW.set hKn.2.1 hs h0 (mp_astored (G := G) (o := none) h2 e1) z oq) (hS.put z oq (mp_frk h0)) hL
/-- a field of a class through a place of a pool -/
def mp_FS (own : String) (idx ci fi : Nat) : Prop := ∃ (r : vw_C) (ref : String), mp_cl[ci]? = some r ∧ fi < r.2.2 ∧ Cond.fieldLink own idx ref (r.2.1 fi).2.1 (r.2.1 fi).2.2.1 ∈ mp_gt ∧ ((r.2.1 fi).1 = ref ∨ Cond.sameField ref (r.2.1 fi).1 (r.2.1 fi).2.1 (r.2.1 fi).2.2.1 ∈ mp_gt)
theorem mp_same {s : State} {args : Array Value} {ref decl n d : String} (hw : ∀ w ∈ mp_gt, w.before args s = true) (h : decl = ref ∨ Cond.sameField ref decl n d ∈ mp_gt) : ∀ x, s.fieldFound? decl n d = some x → s.fieldFound? ref n d = some x := by
  rcases h with rfl | h
  · exact fun _ h9 => h9
  · intro x hx
    exact u_same (hw _ h) x hx
theorem mp_getfield {k ci fi idx : Nat} {fs : List Value} {v : Value} (hd : mp_dc Y.1 pc (.getfield idx) 3 nx) (hf : mp_FS Y.1.1.cls idx ci fi) (hs : σ[k]? = some (mp_O ci fs)) (hv : fs[fi]? = some v) (kk : mp_At Y K nx L (v :: st) σ A) : mp_At Y K pc L (Value.ref k :: st) σ A := by
  obtain ⟨hd, rfl⟩ := hd
  obtain ⟨⟨C0, T0, N0⟩, ref, f1, f2, f3, f4⟩ := hf
  intro G p l e Rm s m args below meth c C H locs ls hW hS hL
  have hKn := C.2.2.2.2.2.2.2.2.1
  have hw := C.2.2.2.2.2.2.2.1
  have hP : va_P G.2.2.1 mp_cl [(mp_ad G k, .inr (ci, fs.map (mp_tr G)))] H := fun j q hj => by
    match j, hj with
    | 0, hj => cases hj; exact hW.2.2 k _ hs
    | j + 1, hj => simp at hj
  exact va_get C.1 C.2.1 hw (mp_cl_in f1) C.2.2.2.2.1 hKn.1 hP 0 rfl f1 fi f2 (hw _ f3) (mp_same hw f4) (v := mp_tr G v) (by rw [List.getElem?_map, hv]; rfl) hd (kk G p l e Rm s m args below meth c C H locs ls hW hS hL)
theorem mp_putfield {k ci fi idx : Nat} {fs : List Value} {v : Value} {σ' : mp_H} {ty : FieldType} {r : vw_C} (hd : mp_dc Y.1 pc (.putfield idx) 3 nx) (hf : mp_FS Y.1.1.cls idx ci fi) (hr : mp_cl[ci]? = some r) (hfin : (r.2.1 fi).2.2.2 = false ∨ ((r.2.1 fi).2.2.2 = true ∧ Y.1.1.name = "<init>" ∧ (r.2.1 fi).1 = Y.1.1.cls))
    (hty : parseFieldDescriptor (r.2.1 fi).2.2.1 = some ty) (hnar : ∀ G : mp_G, narrow ty (mp_tr G v) = mp_tr G v ∧ fits ty (mp_tr G v) = true) (hs : σ[k]? = some (mp_O ci fs)) (h0 : 0 < k) (hl : fi < fs.length) (hσ : σ.set k (mp_O ci (fs.set fi v)) = σ') (kk : mp_At Y K nx L st σ' A) : mp_At Y K pc L (v :: Value.ref k :: st) σ A := by
  subst hσ
  obtain ⟨hd, rfl⟩ := hd
  obtain ⟨r', ref, f1, f2, f3, f4⟩ := hf
  cases hr.symm.trans f1
  obtain ⟨C0, T0, N0⟩ := r
  intro G p l e Rm s m args below meth c C H locs ls hW hS hL
  have hKn := C.2.2.2.2.2.2.2.2.1
  have hw := C.2.2.2.2.2.2.2.1
  have hown := C.2.2.2.2.1
  obtain ⟨ty0, hty0⟩ := mp_cl_ty f1
  have hap := va_apart (own := Y.1.1.cls) hw (mp_cl_in f1) ty0 hty0 (mp_cl_nm f1) hKn.1 f1
  obtain ⟨r1, h1, cell, q1, q2, q3, q4⟩ := hW.2.2 k _ hs
  cases h1.symm.trans f1
  obtain ⟨hSl, hfc, kC, hkC, hkind⟩ := hKn.1.1 ci _ f1
  obtain ⟨cf, kf, fj, f, hi, hsl⟩ := hSl fi f2
  have hlay := hw _ (mp_cl_in f1 _ (u_in_lay f2))
  have hst := (u_facts hfc hkC (u_lays hw (mp_cl_in f1) f2) hi).1
  obtain ⟨hn, hfit⟩ := hnar G
  have fin : ∀ H1 : Heap, H1[mp_ad G k]? = some (cell.setSlot f.slot (mp_tr G v)) → mp_hc G (mp_ad G k) (mp_O ci (fs.set fi v)) H1 := by
    intro H1 e1
    rw [hsl] at e1
    refine ⟨_, f1, t_OB.to (V := updV (vp_V (fs.map (mp_tr G))) fi (mp_tr G v)) ⟨_, e1, q2, q3, t_set q4 hap f2 (mp_tr G v)⟩ (fun j _ => ?_)⟩
    rw [List.map_set]
    exact vp_updV_set (by rw [List.length_map]; exact hl) (mp_tr G v) j
  rcases hfin with hfin | ⟨hfin, hin, hdecl⟩
  · unfold u_lay at hlay
    rw [if_neg (by rw [hfin]; decide)] at hlay
    have h6 := u_store hfc hkC hkind hlay hi hty hn hfit
    refine W.putK C.1 C.2.1 (f := f) ⟨hown, hw _ f3, ⟨_, _, _, mp_same hw f4 _ hi⟩, hst⟩ (by rw [q2]; exact h6) q1 q3 (by rw [hsl]; exact k2_hasslot (q4 fi f2)) rfl rfl hd fun H1 e1 e2 e3 => ?_
    exact kk G p l e Rm s m args below meth c C H1 _ ls (hW.set hKn.2.1 hs h0 (fin H1 e1) e2 e3) (hS.put e2 e3 (mp_frk h0)) hL
  · unfold u_lay at hlay
    rw [if_pos hfin] at hlay
    have hcf : m.cls = cf := by
      obtain ⟨_, _, c', _, _, _, -, -, hf', -, -, -, hown2, -⟩ := Cond.laysFinal_spec hlay
      have e1 : c' = cf := by have := hi.symm.trans hf'; simp at this; exact this.1.symm
      rw [hdecl] at hown2
      rw [← e1]; exact Option.some.inj (hown.symm.trans hown2)
    have h6 := u_fits hfc hkC hkind (Or.inr hlay) hi hty hn hfit
    refine W.putFinK C.1 C.2.1 hown (hw _ f3) (mp_same hw f4 _ hi) hst hcf (C.2.2.2.2.2.2.1.trans hin) (by rw [q2]; exact h6) q1 q3 (by rw [hsl]; exact k2_hasslot (q4 fi f2)) rfl rfl hd fun H1 e1 e2 e3 => ?_
    exact kk G p l e Rm s m args below meth c C H1 _ ls (hW.set hKn.2.1 hs h0 (fin H1 e1) e2 e3) (hS.put e2 e3 (mp_frk h0)) hL
/-- a class is made through a place of a pool -/
def mp_NS (own : String) (idx ci : Nat) : Prop := ∃ r : vw_C, mp_cl[ci]? = some r ∧ Cond.classLink own idx r.1 ∈ mp_gt ∧ Cond.instantiable r.1 r.2.2 ∈ mp_gt ∧ Cond.initialized r.1 ∈ mp_gt
theorem mp_new {ci idx n : Nat} {fs : List Value} {σ' : mp_H} {K' : Nat × Nat} {r : vw_C} (hd : mp_dc Y.1 pc (.new idx) 3 nx) (hf : mp_NS Y.1.1.cls idx ci) (hr : mp_cl[ci]? = some r) (hn : r.2.2 = n) (hfs : ∀ (G : mp_G) (j : Nat), j < n → (parseFieldDescriptor (r.2.1 j).2.2.1).map defaultValue = some (vp_V (fs.map (mp_tr G)) j)) (hk : K.1 + 1 ≤ Y.2.2.1 ∧ K.2 + n ≤ Y.2.2.2) (hK' : (K.1 + 1, K.2 + n) = K') (hσ : σ ++ [mp_O ci fs] = σ') (kk : mp_At Y K' nx L (Value.ref σ.length :: st) σ' A) : mp_At Y K pc L st σ A := by
  subst hσ
  subst hK'
  obtain ⟨hd, rfl⟩ := hd
  obtain ⟨r', f1, f2, f3, f4⟩ := hf
  cases hr.symm.trans f1
  subst hn
  intro G p l e Rm s m args below meth c C H locs ls hW hS hL
  have hKn := C.2.2.2.2.2.2.2.2.1
  have hw := C.2.2.2.2.2.2.2.1
  obtain ⟨-, -, -, -, -, -, -, -, -, -, -, -, hc1, hc2⟩ := id C
  obtain ⟨ty0, hty0⟩ := mp_cl_ty f1
  have hK1 := hKn.1.1 ci _ f1
  obtain ⟨l1, l2, l3⟩ := hW.len hKn.2.1
  refine W.newcK C.1 C.2.1 C.2.2.2.2.1 (hw _ f2) (hw _ f3) (hw _ f4) rfl hd (by omega) (by omega) hK1.2.1 rfl fun H1 kC hkC e1 z1 o1 => ?_
  have h9 := kk G p l e Rm s m args below meth c C H1 locs ls (hW.push hKn.2.1 (c := mp_O ci fs) ⟨_, f1, (u_born ty0 hw (mp_cl_in f1) hK1 hkC e1 hty0).to (fun j hj => by have := hfs G j hj; rw [hty0 j hj] at this; exact Option.some.inj this)⟩ z1 o1) ⟨Nat.le_trans hS.1 (by omega), fun x h1 h2 => (o1 x (Nat.lt_of_lt_of_le h1 hS.1)).trans (hS.2.1 x h1 h2), hS.2.2⟩ hL
  rw [List.map_cons, show mp_tr G (Value.ref σ.length) = Value.ref H.size from congrArg Value.ref l3] at h9
  exact h9
theorem mp_newI {n : Nat} {i : Int} {σ' : mp_H} {K' : Nat × Nat} (hd : mp_dc Y.1 pc (.newarray .int) 2 nx) (hi : i = (n : Int)) (hn : n ≤ 1000) (hk : K.1 + 1 ≤ Y.2.2.1 ∧ K.2 + n ≤ Y.2.2.2) (hK' : (K.1 + 1, K.2 + n) = K') (hσ : σ ++ [mp_I n (fun _ => 0)] = σ') (kk : mp_At Y K' nx L (Value.ref σ.length :: st) σ' A) : mp_At Y K pc L (mp_i i :: st) σ A := by
  subst hσ
  subst hK'
  subst hi
  obtain ⟨hd, rfl⟩ := hd
  intro G p l e Rm s m args below meth c C H locs ls hW hS hL
  have hKn := C.2.2.2.2.2.2.2.2.1
  have hw := C.2.2.2.2.2.2.2.1
  obtain ⟨-, -, -, -, -, -, -, -, -, -, -, -, hc1, hc2⟩ := id C
  obtain ⟨h1, h2, h3⟩ := mp_idx (i := (n : Int)) (n := n + 1) ⟨by omega, by omega⟩ (by omega)
  rw [Int.toNat_natCast] at h2
  obtain ⟨l1, l2, l3⟩ := hW.len hKn.2.1
  refine va_newaK (atype := .int) C.1 C.2.1 (hw _ mp_w_int) rfl hd rfl h3 h2 (by show n * 4 ≤ 536870912; omega) (by omega) (by omega) rfl fun H1 cA e1 z1 o1 hAr hNm => ?_
  have hcA : cA = G.2.2.2 0 := Option.some.inj (hNm.symm.trans (hKn.1.2 0 _ rfl).2)
  subst hcA
  have h9 := kk G p l e Rm s m args below meth c C H1 locs ls (hW.push hKn.2.1 (c := mp_I n (fun _ => 0)) e1 z1 o1) ⟨Nat.le_trans hS.1 (by omega), fun x h1 h2 => (o1 x (Nat.lt_of_lt_of_le h1 hS.1)).trans (hS.2.1 x h1 h2), hS.2.2⟩ hL
  rw [List.map_cons, show mp_tr G (Value.ref σ.length) = Value.ref H.size from congrArg Value.ref l3] at h9
  exact h9
theorem mp_newJ {n : Nat} {i : Int} {σ' : mp_H} {K' : Nat × Nat} (hd : mp_dc Y.1 pc (.newarray .long) 2 nx) (hi : i = (n : Int)) (hn : n ≤ 1000) (hk : K.1 + 1 ≤ Y.2.2.1 ∧ K.2 + n ≤ Y.2.2.2) (hK' : (K.1 + 1, K.2 + n) = K') (hσ : σ ++ [mp_J n (fun _ => 0)] = σ') (kk : mp_At Y K' nx L (Value.ref σ.length :: st) σ' A) : mp_At Y K pc L (mp_i i :: st) σ A := by
  subst hσ
  subst hK'
  subst hi
  obtain ⟨hd, rfl⟩ := hd
  intro G p l e Rm s m args below meth c C H locs ls hW hS hL
  have hKn := C.2.2.2.2.2.2.2.2.1
  have hw := C.2.2.2.2.2.2.2.1
  obtain ⟨-, -, -, -, -, -, -, -, -, -, -, -, hc1, hc2⟩ := id C
  obtain ⟨h1, h2, h3⟩ := mp_idx (i := (n : Int)) (n := n + 1) ⟨by omega, by omega⟩ (by omega)
  rw [Int.toNat_natCast] at h2
  obtain ⟨l1, l2, l3⟩ := hW.len hKn.2.1
  refine va_newaK (atype := .long) C.1 C.2.1 (hw _ mp_w_long) rfl hd rfl h3 h2 (by show n * 8 ≤ 536870912; omega) (by omega) (by omega) rfl fun H1 cA e1 z1 o1 hAr hNm => ?_
  have hcA : cA = G.2.2.2 1 := Option.some.inj (hNm.symm.trans (hKn.1.2 1 _ rfl).2)
  subst hcA
  have h9 := kk G p l e Rm s m args below meth c C H1 locs ls (hW.push hKn.2.1 (c := mp_J n (fun _ => 0)) e1 z1 o1) ⟨Nat.le_trans hS.1 (by omega), fun x h1 h2 => (o1 x (Nat.lt_of_lt_of_le h1 hS.1)).trans (hS.2.1 x h1 h2), hS.2.2⟩ hL
  rw [List.map_cons, show mp_tr G (Value.ref σ.length) = Value.ref H.size from congrArg Value.ref l3] at h9
  exact h9
theorem mp_newR {t n idx : Nat} {i : Int} {σ' : mp_H} {K' : Nat × Nat} (hd : mp_dc Y.1 pc (.anewarray idx) 3 nx) (ht : t < 2) (hl : Cond.classLink Y.1.1.cls idx (if t = 0 then RX4 else RX5) ∈ mp_gt) (hi : i = (n : Int)) (hn : n ≤ 1000) (hk : K.1 + 1 ≤ Y.2.2.1 ∧ K.2 + n ≤ Y.2.2.2) (hK' : (K.1 + 1, K.2 + n) = K') (hσ : σ ++ [mp_R t n (fun _ => none)] = σ') (kk : mp_At Y K' nx L (Value.ref σ.length :: st) σ' A) : mp_At Y K pc L (mp_i i :: st) σ A := by
  subst hσ
  subst hK'
  subst hi
  obtain ⟨hd, rfl⟩ := hd
  intro G p l e Rm s m args below meth c C H locs ls hW hS hL
  have hKn := C.2.2.2.2.2.2.2.2.1
  have hw := C.2.2.2.2.2.2.2.1
  obtain ⟨-, -, -, -, -, -, -, -, -, -, -, -, hc1, hc2⟩ := id C
  obtain ⟨h1, h2, h3⟩ := mp_idx (i := (n : Int)) (n := n + 1) ⟨by omega, by omega⟩ (by omega)
  rw [Int.toNat_natCast] at h2
  obtain ⟨l1, l2, l3⟩ := hW.len hKn.2.1
  obtain ⟨C0, hC, hC0⟩ := mp_rty (G := G) ht
  have hAO : va_AO (if t = 0 then RX4 else RX5) s := by
    match t, ht with
    | 0, _ => exact hKn.2.2.2.2.1
    | 1, _ => exact hKn.2.2.2.2.2.1
  rw [← hC0] at hAO hl
  refine W.anew C.1 C.2.1 C.2.2.2.2.1 (hw _ hl) (va_AO.use hAO) rfl hd rfl h3 (by rw [h2]; omega) (by omega) (by rw [h2]; omega) fun cA kA comp g1 g2 g3 g4 => ?_
  have hcA : cA = G.2.2.2 (2 + t) := by
    obtain ⟨_, _, -, -, -, k4⟩ := (hKn.1.2 _ _ hC).2
    exact Option.some.inj (g1.symm.trans k4)
  subst hcA
  rw [h2]
  generalize hH1 : H.push ({ cls := G.2.2.2 (2 + t), slots := Array.replicate n .null, vm := .none } : Cell) = H1
  have z1 : H1.size = H.size + 1 := by rw [← hH1, Array.size_push]
  have e1 : H1[H.size]? = some (arrV (G.2.2.2 (2 + t)) n (fun _ => .null)) := by rw [← hH1, Array.getElem?_push_size, ← arrV_new]
  have o1 : ∀ q : Nat, q < H.size → H1[q]? = H[q]? := fun q hq => by rw [← hH1, Array.getElem?_push, if_neg (Nat.ne_of_lt hq)]
  have h9 := kk G p l e Rm s m args below meth c C H1 locs ls (hW.push hKn.2.1 (c := mp_R t n (fun _ => none)) e1 z1 o1) ⟨Nat.le_trans hS.1 (by omega), fun x h1 h2 => (o1 x (Nat.lt_of_lt_of_le h1 hS.1)).trans (hS.2.1 x h1 h2), hS.2.2⟩ hL
  rw [List.map_cons, show mp_tr G (Value.ref σ.length) = Value.ref H.size from congrArg Value.ref l3] at h9
  exact h9
end Rows
