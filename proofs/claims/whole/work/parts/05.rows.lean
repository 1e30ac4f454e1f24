/-! ===== rows: an instruction a row, over the pure picture ===== -/
def mp_rg (a : Int) : Prop := -2147483648 ≤ a ∧ a < 2147483648
def mp_rl (a : Int) : Prop := -9223372036854775808 ≤ a ∧ a < 9223372036854775808
theorem mp_toInt {a : Int} (h : mp_rg a) : (Int32.ofInt a).toInt = a := Int32.toInt_ofInt_of_le (by have := h.1; simp; omega) (by have := h.2; simp; omega)
theorem mp_toLong {a : Int} (h : mp_rl a) : (Int64.ofInt a).toInt = a := Int64.toInt_ofInt_of_le (by have := h.1; simp; omega) (by have := h.2; simp; omega)
theorem mp_lt {a b : Int} (ha : mp_rg a) (hb : mp_rg b) : Int32.ofInt a < Int32.ofInt b ↔ a < b := by rw [Int32.lt_iff_toInt_lt, mp_toInt ha, mp_toInt hb]
theorem mp_le {a b : Int} (ha : mp_rg a) (hb : mp_rg b) : Int32.ofInt a ≤ Int32.ofInt b ↔ a ≤ b := by rw [Int32.le_iff_toInt_le, mp_toInt ha, mp_toInt hb]
theorem mp_eq {a b : Int} (ha : mp_rg a) (hb : mp_rg b) : Int32.ofInt a = Int32.ofInt b ↔ a = b := by rw [← Int32.toInt_inj, mp_toInt ha, mp_toInt hb]
theorem mp_eql {a b : Int} (ha : mp_rl a) (hb : mp_rl b) : Int64.ofInt a = Int64.ofInt b ↔ a = b := by rw [← Int64.toInt_inj, mp_toLong ha, mp_toLong hb]
theorem mp_rg0 : mp_rg 0 := by constructor <;> decide
theorem mp_zero : Int32.ofInt 0 = 0 := rfl
theorem mp_div {a b : Int} (ha : 0 ≤ a ∧ a < 2147483648) (hb : 0 < b ∧ b < 2147483648) : Int32.ofInt a / Int32.ofInt b = Int32.ofInt (a / b) := by
  rw [← Int.tdiv_eq_ediv_of_nonneg ha.1]
  exact (Int32.ofInt_tdiv (by rw [Int32.toInt_minValue]; omega) (by rw [Int32.toInt_maxValue]; omega) (by rw [Int32.toInt_minValue]; omega) (by rw [Int32.toInt_maxValue]; omega)).symm
theorem mp_nz {b : Int} (hb : 0 < b ∧ b < 2147483648) : ¬ Int32.ofInt b = 0 := by
  rw [← mp_zero, mp_eq ⟨by omega, by omega⟩ mp_rg0]; omega
theorem mp_ldiv {a b : Int} (ha : 0 ≤ a ∧ a < 9223372036854775808) (hb : 0 < b ∧ b < 9223372036854775808) : Int64.ofInt a / Int64.ofInt b = Int64.ofInt (a / b) := by
  rw [← Int.tdiv_eq_ediv_of_nonneg ha.1]
  exact (Int64.ofInt_tdiv (by rw [Int64.toInt_minValue]; omega) (by rw [Int64.toInt_maxValue]; omega) (by rw [Int64.toInt_minValue]; omega) (by rw [Int64.toInt_maxValue]; omega)).symm
theorem mp_lnz {b : Int} (hb : 0 < b ∧ b < 9223372036854775808) : ¬ Int64.ofInt b = 0 := by
  rw [show (0 : Int64) = Int64.ofInt 0 from rfl, mp_eql ⟨by omega, by omega⟩ ⟨by decide, by decide⟩]; omega
theorem mp_rem {a b : Int} (ha : 0 ≤ a ∧ a < 2147483648) (hb : 0 < b ∧ b < 2147483648) : Int32.ofInt a - Int32.ofInt a / Int32.ofInt b * Int32.ofInt b = Int32.ofInt (a % b) := by
  rw [mp_div ha hb, ← Int32.ofInt_mul, ← Int32.ofInt_sub]
  congr 1
  have := Int.emod_add_mul_ediv a b
  have h2 := Int.mul_comm (a / b) b
  omega
theorem mp_lrem {a b : Int} (ha : 0 ≤ a ∧ a < 9223372036854775808) (hb : 0 < b ∧ b < 9223372036854775808) : Int64.ofInt a - Int64.ofInt a / Int64.ofInt b * Int64.ofInt b = Int64.ofInt (a % b) := by
  rw [mp_ldiv ha hb, ← Int64.ofInt_mul, ← Int64.ofInt_sub]
  congr 1
  have := Int.emod_add_mul_ediv a b
  have h2 := Int.mul_comm (a / b) b
  omega
theorem mp_b0 {q : Prop} [Decidable q] (h : Int32.ofInt (if q then 1 else 0) = 0) : ¬ q := by
  intro hq
  rw [if_pos hq] at h
  exact absurd h (by decide)
theorem mp_b1 {q : Prop} [Decidable q] (h : ¬ Int32.ofInt (if q then 1 else 0) = 0) : q := by
  by_cases hq : q
  · exact hq
  · rw [if_neg hq] at h
    exact absurd rfl h
theorem mp_tgt {pc tgt : Nat} {off : Int} (h : (pc : Int) + off = (tgt : Int)) : (pc : Int) + off = (tgt : Int) := h
theorem mp_iconst {Y : mp_Y} {K : Nat × Nat} {pc nx : Nat} {L : List (Option Value)} {st : List Value} {σ : mp_H} {A : mp_An} {n : Int} (hd : mp_dc Y.1 pc (.iconst n) 1 nx)  (k : mp_At Y K nx L (mp_i n :: st) σ A) : mp_At Y K pc L (st) σ A := by
  obtain ⟨hd, rfl⟩ := hd
  intro G p l e Rm s m args below meth c C H locs ls hW hS hL
  exact lv_iconst C.1 C.2.1 hd rfl (k G p l e Rm s m args below meth c C H locs ls hW hS hL)
theorem mp_bipush {Y : mp_Y} {K : Nat × Nat} {pc nx : Nat} {L : List (Option Value)} {st : List Value} {σ : mp_H} {A : mp_An} {n : Int} (hd : mp_dc Y.1 pc (.bipush n) 2 nx) (hv : (Int8.ofInt n).toInt32 = Int32.ofInt n) (k : mp_At Y K nx L (mp_i n :: st) σ A) : mp_At Y K pc L (st) σ A := by
  obtain ⟨hd, rfl⟩ := hd
  intro G p l e Rm s m args below meth c C H locs ls hW hS hL
  exact lv_bipush C.1 C.2.1 hd hv (k G p l e Rm s m args below meth c C H locs ls hW hS hL)
theorem mp_sipush {Y : mp_Y} {K : Nat × Nat} {pc nx : Nat} {L : List (Option Value)} {st : List Value} {σ : mp_H} {A : mp_An} {n : Int} (hd : mp_dc Y.1 pc (.sipush n) 3 nx) (hv : (Int16.ofInt n).toInt32 = Int32.ofInt n) (k : mp_At Y K nx L (mp_i n :: st) σ A) : mp_At Y K pc L (st) σ A := by
  obtain ⟨hd, rfl⟩ := hd
  intro G p l e Rm s m args below meth c C H locs ls hW hS hL
  exact lv_sipush C.1 C.2.1 hd hv (k G p l e Rm s m args below meth c C H locs ls hW hS hL)
theorem mp_ldc {Y : mp_Y} {K : Nat × Nat} {pc nx : Nat} {L : List (Option Value)} {st : List Value} {σ : mp_H} {A : mp_An} {idx : Nat} {v : Int32} {z : Int} (hd : mp_dc Y.1 pc (.ldc idx) 2 nx) (hw : Cond.constant Y.1.1.cls idx v ∈ mp_gt) (hz : v = Int32.ofInt z) (k : mp_At Y K nx L (mp_i z :: st) σ A) : mp_At Y K pc L (st) σ A := by
  obtain ⟨hd, rfl⟩ := hd
  intro G p l e Rm s m args below meth c C H locs ls hW hS hL
  subst hz
  exact lv_ldc C.1 C.2.1 C.2.2.2.2.1 (C.2.2.2.2.2.2.2.1 _ hw) hd (k G p l e Rm s m args below meth c C H locs ls hW hS hL)
theorem mp_ldcw {Y : mp_Y} {K : Nat × Nat} {pc nx : Nat} {L : List (Option Value)} {st : List Value} {σ : mp_H} {A : mp_An} {idx : Nat} {v : Int32} {z : Int} (hd : mp_dc Y.1 pc (.ldc_w idx) 3 nx) (hw : Cond.constant Y.1.1.cls idx v ∈ mp_gt) (hz : v = Int32.ofInt z) (k : mp_At Y K nx L (mp_i z :: st) σ A) : mp_At Y K pc L (st) σ A := by
  obtain ⟨hd, rfl⟩ := hd
  intro G p l e Rm s m args below meth c C H locs ls hW hS hL
  subst hz
  exact lv_ldcw C.1 C.2.1 C.2.2.2.2.1 (C.2.2.2.2.2.2.2.1 _ hw) hd (k G p l e Rm s m args below meth c C H locs ls hW hS hL)
theorem mp_ldc2 {Y : mp_Y} {K : Nat × Nat} {pc nx : Nat} {L : List (Option Value)} {st : List Value} {σ : mp_H} {A : mp_An} {idx : Nat} {v : Int64} {z : Int} (hd : mp_dc Y.1 pc (.ldc2_w idx) 3 nx) (hw : Cond.constantLong Y.1.1.cls idx v ∈ mp_gt) (hz : v = Int64.ofInt z) (k : mp_At Y K nx L (mp_l z :: st) σ A) : mp_At Y K pc L (st) σ A := by
  obtain ⟨hd, rfl⟩ := hd
  intro G p l e Rm s m args below meth c C H locs ls hW hS hL
  subst hz
  exact lv_ldc2 C.1 C.2.1 C.2.2.2.2.1 (C.2.2.2.2.2.2.2.1 _ hw) hd (k G p l e Rm s m args below meth c C H locs ls hW hS hL)
theorem mp_lconst {Y : mp_Y} {K : Nat × Nat} {pc nx : Nat} {L : List (Option Value)} {st : List Value} {σ : mp_H} {A : mp_An} {n : Fin 2} {z : Int} (hd : mp_dc Y.1 pc (.lconst n) 1 nx) (hz : Int64.ofNat (n : Nat) = Int64.ofInt z) (k : mp_At Y K nx L (mp_l z :: st) σ A) : mp_At Y K pc L (st) σ A := by
  obtain ⟨hd, rfl⟩ := hd
  intro G p l e Rm s m args below meth c C H locs ls hW hS hL
  exact lv_lconst C.1 C.2.1 hd hz (k G p l e Rm s m args below meth c C H locs ls hW hS hL)
theorem mp_null {Y : mp_Y} {K : Nat × Nat} {pc nx : Nat} {L : List (Option Value)} {st : List Value} {σ : mp_H} {A : mp_An}  (hd : mp_dc Y.1 pc (.aconst_null) 1 nx)  (k : mp_At Y K nx L (Value.null :: st) σ A) : mp_At Y K pc L (st) σ A := by
  obtain ⟨hd, rfl⟩ := hd
  intro G p l e Rm s m args below meth c C H locs ls hW hS hL
  exact lv_null C.1 C.2.1 hd (k G p l e Rm s m args below meth c C H locs ls hW hS hL)
theorem mp_iload_n {Y : mp_Y} {K : Nat × Nat} {pc nx : Nat} {L : List (Option Value)} {st : List Value} {σ : mp_H} {A : mp_An} {j : Fin 4} {x : Int32} (hd : mp_dc Y.1 pc (.iload_n j) 1 nx) (hl : L[(j : Nat)]? = some (some (Value.int x))) (k : mp_At Y K nx L (Value.int x :: st) σ A) : mp_At Y K pc L (st) σ A := by
  obtain ⟨hd, rfl⟩ := hd
  intro G p l e Rm s m args below meth c C H locs ls hW hS hL
  exact lv_iload_n C.1 C.2.1 hd rfl (hL.2.2 _ _ hl) (k G p l e Rm s m args below meth c C H locs ls hW hS hL)
theorem mp_iload {Y : mp_Y} {K : Nat × Nat} {pc nx : Nat} {L : List (Option Value)} {st : List Value} {σ : mp_H} {A : mp_An} {j : Nat} {x : Int32} (hd : mp_dc Y.1 pc (.iload j) 2 nx) (hl : L[j]? = some (some (Value.int x))) (k : mp_At Y K nx L (Value.int x :: st) σ A) : mp_At Y K pc L (st) σ A := by
  obtain ⟨hd, rfl⟩ := hd
  intro G p l e Rm s m args below meth c C H locs ls hW hS hL
  exact lv_iload C.1 C.2.1 hd (hL.2.2 _ _ hl) (k G p l e Rm s m args below meth c C H locs ls hW hS hL)
theorem mp_lload_n {Y : mp_Y} {K : Nat × Nat} {pc nx : Nat} {L : List (Option Value)} {st : List Value} {σ : mp_H} {A : mp_An} {j : Fin 4} {x : Int64} (hd : mp_dc Y.1 pc (.lload_n j) 1 nx) (hl : L[(j : Nat)]? = some (some (Value.long x))) (k : mp_At Y K nx L (Value.long x :: st) σ A) : mp_At Y K pc L (st) σ A := by
  obtain ⟨hd, rfl⟩ := hd
  intro G p l e Rm s m args below meth c C H locs ls hW hS hL
  exact lv_lload_n C.1 C.2.1 hd rfl (hL.2.2 _ _ hl) (k G p l e Rm s m args below meth c C H locs ls hW hS hL)
theorem mp_lload {Y : mp_Y} {K : Nat × Nat} {pc nx : Nat} {L : List (Option Value)} {st : List Value} {σ : mp_H} {A : mp_An} {j : Nat} {x : Int64} (hd : mp_dc Y.1 pc (.lload j) 2 nx) (hl : L[j]? = some (some (Value.long x))) (k : mp_At Y K nx L (Value.long x :: st) σ A) : mp_At Y K pc L (st) σ A := by
  obtain ⟨hd, rfl⟩ := hd
  intro G p l e Rm s m args below meth c C H locs ls hW hS hL
  exact lv_lload C.1 C.2.1 hd (hL.2.2 _ _ hl) (k G p l e Rm s m args below meth c C H locs ls hW hS hL)
theorem mp_aload_n {Y : mp_Y} {K : Nat × Nat} {pc nx : Nat} {L : List (Option Value)} {st : List Value} {σ : mp_H} {A : mp_An} {j : Fin 4} {x : Nat} (hd : mp_dc Y.1 pc (.aload_n j) 1 nx) (hl : L[(j : Nat)]? = some (some (Value.ref x))) (k : mp_At Y K nx L (Value.ref x :: st) σ A) : mp_At Y K pc L (st) σ A := by
  obtain ⟨hd, rfl⟩ := hd
  intro G p l e Rm s m args below meth c C H locs ls hW hS hL
  exact lv_aload_n C.1 C.2.1 hd rfl (hL.2.2 _ _ hl) (k G p l e Rm s m args below meth c C H locs ls hW hS hL)
theorem mp_aload {Y : mp_Y} {K : Nat × Nat} {pc nx : Nat} {L : List (Option Value)} {st : List Value} {σ : mp_H} {A : mp_An} {j : Nat} {x : Nat} (hd : mp_dc Y.1 pc (.aload j) 2 nx) (hl : L[j]? = some (some (Value.ref x))) (k : mp_At Y K nx L (Value.ref x :: st) σ A) : mp_At Y K pc L (st) σ A := by
  obtain ⟨hd, rfl⟩ := hd
  intro G p l e Rm s m args below meth c C H locs ls hW hS hL
  exact lv_aload C.1 C.2.1 hd (hL.2.2 _ _ hl) (k G p l e Rm s m args below meth c C H locs ls hW hS hL)
theorem mp_aload_nN {Y : mp_Y} {K : Nat × Nat} {pc nx : Nat} {L : List (Option Value)} {st : List Value} {σ : mp_H} {A : mp_An} {j : Fin 4} (hd : mp_dc Y.1 pc (.aload_n j) 1 nx) (hl : L[(j : Nat)]? = some (some Value.null)) (k : mp_At Y K nx L (Value.null :: st) σ A) : mp_At Y K pc L st σ A := by
  obtain ⟨hd, rfl⟩ := hd
  intro G p l e Rm s m args below meth c C H locs ls hW hS hL
  have hl0 : ls[(j : Nat)]? = some (.val .null) := hL.2.2 _ _ hl
  have k := k G p l e Rm s m args below meth c C H locs ls hW hS hL
  intro T hT X
  obtain ⟨t, a, b⟩ := k T hT X
  refine ⟨t, ?_, b⟩
  have hx := C.1
  have hb := C.2.1
  jvm_step X.here [X.here.top, ↓top_set X.here.top, hx, hb, hd, hl0, Value.isRef]
  exact a
theorem mp_aloadN {Y : mp_Y} {K : Nat × Nat} {pc nx : Nat} {L : List (Option Value)} {st : List Value} {σ : mp_H} {A : mp_An} {j : Nat} (hd : mp_dc Y.1 pc (.aload j) 2 nx) (hl : L[j]? = some (some Value.null)) (k : mp_At Y K nx L (Value.null :: st) σ A) : mp_At Y K pc L st σ A := by
  obtain ⟨hd, rfl⟩ := hd
  intro G p l e Rm s m args below meth c C H locs ls hW hS hL
  have hl0 : ls[j]? = some (.val .null) := hL.2.2 _ _ hl
  have k := k G p l e Rm s m args below meth c C H locs ls hW hS hL
  intro T hT X
  obtain ⟨t, a, b⟩ := k T hT X
  refine ⟨t, ?_, b⟩
  have hx := C.1
  have hb := C.2.1
  jvm_step X.here [X.here.top, ↓top_set X.here.top, hx, hb, hd, hl0, Value.isRef]
  exact a
theorem mp_pick {G : mp_G} {L : List (Option Value)} {ls : Array Slot} {nL : Nat} (h : mp_Lr G L ls nL) : lv_has ls nL ((List.range L.length).filterMap (fun i => (L[i]?.join).map (fun v => (i, mp_tr G v)))) := by
  refine ⟨h.1, h.2.1, fun q hq => ?_⟩
  obtain ⟨i, -, hi⟩ := List.mem_filterMap.mp hq
  cases h1 : L[i]? with
  | none => simp [h1] at hi
  | some o =>
    cases o with
    | none => simp [h1] at hi
    | some v =>
      simp [h1] at hi
      subst hi
      exact h.2.2 i v h1
theorem mp_picked {G : mp_G} {L : List (Option Value)} {i : Nat} {v : Value} (h : L[i]? = some (some v)) : (i, mp_tr G v) ∈ (List.range L.length).filterMap (fun i => (L[i]?.join).map (fun v => (i, mp_tr G v))) := by
  refine List.mem_filterMap.mpr ⟨i, List.mem_range.mpr (List.getElem?_eq_some_iff.mp h).1, ?_⟩
  simp [h]
def mp_st0 (L : List (Option Value)) (i : Nat) : List (Option Value) := match i with
  | 0 => L
  | j + 1 => match L[j]? with
    | some (some w) => if w.category = 2 then L.set j none else L
    | _ => L
def mp_st1 (L : List (Option Value)) (i : Nat) (v : Value) : List (Option Value) := (mp_st0 L i).set i (some v)
def mp_st2 (L : List (Option Value)) (i : Nat) (v : Value) : List (Option Value) := ((mp_st0 L i).set i (some v)).set (i + 1) none
theorem mp_pre_sub {L : List (Option Value)} {i q : Nat} {w : Value} (h : (mp_st0 L i)[q]? = some (some w)) : L[q]? = some (some w) ∧ ¬ (q + 1 = i ∧ w.category = 2) := by
  match i, h with
  | 0, h => exact ⟨h, by omega⟩
  | j + 1, h =>
    simp only [mp_st0] at h
    split at h
    · rename_i w' hw
      split at h
      · rename_i hc
        rw [List.getElem?_set] at h
        split at h
        · split at h <;> simp at h
        · exact ⟨h, fun z => by omega⟩
      · rename_i hc
        refine ⟨h, fun z => hc ?_⟩
        obtain ⟨z1, z2⟩ := z
        have : q = j := by omega
        subst this
        rw [hw] at h
        cases h
        exact z2
    · rename_i hn
      refine ⟨h, fun z => ?_⟩
      have : q = j := by omega
      subst this
      exact hn w h
theorem mp_Lr.st1 {G : mp_G} {L L' : List (Option Value)} {ls : Array Slot} {nL i : Nat} {v : Value} (h : mp_Lr G L ls nL) (hi : i < nL) (hc : v.category = 1) (e : mp_st1 L i v = L') : ∃ ls', storeLocals ls i (mp_tr G v) = some ls' ∧ mp_Lr G L' ls' nL := by
  obtain ⟨ls', e1, e2⟩ := lv_store1 (v := mp_tr G v) (mp_pick h) hi (by rw [mp_cat]; exact hc)
  refine ⟨ls', e1, e2.1, e2.2.1, fun q w hq => ?_⟩
  subst e
  unfold mp_st1 at hq
  rw [List.getElem?_set] at hq
  split at hq
  · rename_i hqi
    split at hq
    · cases hq
      subst hqi
      exact e2.2.2 _ List.mem_cons_self
    · simp at hq
  · rename_i hqi
    obtain ⟨h1, h2⟩ := mp_pre_sub hq
    refine e2.2.2 (q, mp_tr G w) (List.mem_cons_of_mem _ (List.mem_filter.mpr ⟨mp_picked h1, ?_⟩))
    simp only [mp_cat]
    simp only [Bool.and_eq_true, Bool.not_eq_true', beq_eq_false_iff_ne, ne_eq, Bool.and_eq_false_iff]
    refine ⟨fun z => hqi z.symm, ?_⟩
    by_cases h3 : q + 1 = i
    · exact Or.inr (fun z => h2 ⟨h3, z⟩)
    · exact Or.inl h3
theorem mp_Lr.st2 {G : mp_G} {L L' : List (Option Value)} {ls : Array Slot} {nL i : Nat} {v : Value} (h : mp_Lr G L ls nL) (hi : i + 1 < nL) (hc : v.category = 2) (e : mp_st2 L i v = L') : ∃ ls', storeLocals ls i (mp_tr G v) = some ls' ∧ mp_Lr G L' ls' nL := by
  obtain ⟨ls', e1, e2⟩ := lv_store2 (v := mp_tr G v) (mp_pick h) hi (by rw [mp_cat]; exact hc)
  refine ⟨ls', e1, e2.1, e2.2.1, fun q w hq => ?_⟩
  subst e
  unfold mp_st2 at hq
  rw [List.getElem?_set] at hq
  split at hq
  · split at hq <;> simp at hq
  · rename_i hq1
    rw [List.getElem?_set] at hq
    split at hq
    · rename_i hqi
      split at hq
      · cases hq
        subst hqi
        exact e2.2.2 _ List.mem_cons_self
      · simp at hq
    · rename_i hqi
      obtain ⟨h1, h2⟩ := mp_pre_sub hq
      refine e2.2.2 (q, mp_tr G w) (List.mem_cons_of_mem _ (List.mem_filter.mpr ⟨mp_picked h1, ?_⟩))
      simp only [mp_cat]
      simp only [Bool.and_eq_true, Bool.not_eq_true', beq_eq_false_iff_ne, ne_eq, Bool.and_eq_false_iff]
      refine ⟨fun z => hqi z.symm, fun z => hq1 z.symm, ?_⟩
      by_cases h3 : q + 1 = i
      · exact Or.inr (fun z => h2 ⟨h3, z⟩)
      · exact Or.inl h3
theorem mp_istore_n {Y : mp_Y} {K : Nat × Nat} {pc nx : Nat} {L : List (Option Value)} {st : List Value} {σ : mp_H} {A : mp_An} {j : Fin 4} {i : Nat} {x : Int32} {L' : List (Option Value)} (hd : mp_dc Y.1 pc (.istore_n j) 1 nx) (hi : (j : Nat) = i) (hn : i < Y.1.2.2.1) (hl : mp_st1 L i (Value.int x) = L') (k : mp_At Y K nx L' st σ A) : mp_At Y K pc L (Value.int x :: st) σ A := by
  obtain ⟨hd, rfl⟩ := hd
  intro G p l e Rm s m args below meth c C H locs ls hW hS hL
  subst hi
  obtain ⟨ls', e', h'⟩ := hL.st1 hn rfl hl
  have e' : storeLocals ls (j : Nat) (Value.int x) = some ls' := e'
  have k := k G p l e Rm s m args below meth c C H locs ls' hW hS h'
  intro T hT X
  obtain ⟨t, a, b⟩ := k T hT X
  refine ⟨t, ?_, b⟩
  have hx := C.1
  have hb := C.2.1
  jvm_step X.here [X.here.top, ↓top_set X.here.top, hx, hb, hd, e', mp_tr]
  exact a
theorem mp_istore {Y : mp_Y} {K : Nat × Nat} {pc nx : Nat} {L : List (Option Value)} {st : List Value} {σ : mp_H} {A : mp_An} {i : Nat} {x : Int32} {L' : List (Option Value)} (hd : mp_dc Y.1 pc (.istore i) 2 nx) (hn : i < Y.1.2.2.1) (hl : mp_st1 L i (Value.int x) = L') (k : mp_At Y K nx L' st σ A) : mp_At Y K pc L (Value.int x :: st) σ A := by
  obtain ⟨hd, rfl⟩ := hd
  intro G p l e Rm s m args below meth c C H locs ls hW hS hL
  obtain ⟨ls', e', h'⟩ := hL.st1 hn rfl hl
  have e' : storeLocals ls i (Value.int x) = some ls' := e'
  have k := k G p l e Rm s m args below meth c C H locs ls' hW hS h'
  intro T hT X
  obtain ⟨t, a, b⟩ := k T hT X
  refine ⟨t, ?_, b⟩
  have hx := C.1
  have hb := C.2.1
  jvm_step X.here [X.here.top, ↓top_set X.here.top, hx, hb, hd, e', mp_tr]
  exact a
theorem mp_lstore_n {Y : mp_Y} {K : Nat × Nat} {pc nx : Nat} {L : List (Option Value)} {st : List Value} {σ : mp_H} {A : mp_An} {j : Fin 4} {i : Nat} {x : Int64} {L' : List (Option Value)} (hd : mp_dc Y.1 pc (.lstore_n j) 1 nx) (hi : (j : Nat) = i) (hn : i + 1 < Y.1.2.2.1) (hl : mp_st2 L i (Value.long x) = L') (k : mp_At Y K nx L' st σ A) : mp_At Y K pc L (Value.long x :: st) σ A := by
  obtain ⟨hd, rfl⟩ := hd
  intro G p l e Rm s m args below meth c C H locs ls hW hS hL
  subst hi
  obtain ⟨ls', e', h'⟩ := hL.st2 hn rfl hl
  have e' : storeLocals ls (j : Nat) (Value.long x) = some ls' := e'
  have k := k G p l e Rm s m args below meth c C H locs ls' hW hS h'
  intro T hT X
  obtain ⟨t, a, b⟩ := k T hT X
  refine ⟨t, ?_, b⟩
  have hx := C.1
  have hb := C.2.1
  jvm_step X.here [X.here.top, ↓top_set X.here.top, hx, hb, hd, e', mp_tr]
  exact a
theorem mp_lstore {Y : mp_Y} {K : Nat × Nat} {pc nx : Nat} {L : List (Option Value)} {st : List Value} {σ : mp_H} {A : mp_An} {i : Nat} {x : Int64} {L' : List (Option Value)} (hd : mp_dc Y.1 pc (.lstore i) 2 nx) (hn : i + 1 < Y.1.2.2.1) (hl : mp_st2 L i (Value.long x) = L') (k : mp_At Y K nx L' st σ A) : mp_At Y K pc L (Value.long x :: st) σ A := by
  obtain ⟨hd, rfl⟩ := hd
  intro G p l e Rm s m args below meth c C H locs ls hW hS hL
  obtain ⟨ls', e', h'⟩ := hL.st2 hn rfl hl
  have e' : storeLocals ls i (Value.long x) = some ls' := e'
  have k := k G p l e Rm s m args below meth c C H locs ls' hW hS h'
  intro T hT X
  obtain ⟨t, a, b⟩ := k T hT X
  refine ⟨t, ?_, b⟩
  have hx := C.1
  have hb := C.2.1
  jvm_step X.here [X.here.top, ↓top_set X.here.top, hx, hb, hd, e', mp_tr]
  exact a
theorem mp_astore_n {Y : mp_Y} {K : Nat × Nat} {pc nx : Nat} {L : List (Option Value)} {st : List Value} {σ : mp_H} {A : mp_An} {j : Fin 4} {i : Nat} {x : Nat} {L' : List (Option Value)} (hd : mp_dc Y.1 pc (.astore_n j) 1 nx) (hi : (j : Nat) = i) (hn : i < Y.1.2.2.1) (hl : mp_st1 L i (Value.ref x) = L') (k : mp_At Y K nx L' st σ A) : mp_At Y K pc L (Value.ref x :: st) σ A := by
  obtain ⟨hd, rfl⟩ := hd
  intro G p l e Rm s m args below meth c C H locs ls hW hS hL
  subst hi
  obtain ⟨ls', e', h'⟩ := hL.st1 hn rfl hl
  have e' : storeLocals ls (j : Nat) (Value.ref (mp_ad G x)) = some ls' := e'
  have k := k G p l e Rm s m args below meth c C H locs ls' hW hS h'
  intro T hT X
  obtain ⟨t, a, b⟩ := k T hT X
  refine ⟨t, ?_, b⟩
  have hx := C.1
  have hb := C.2.1
  jvm_step X.here [X.here.top, ↓top_set X.here.top, hx, hb, hd, e', mp_tr]
  exact ⟨rfl, a⟩
theorem mp_astore {Y : mp_Y} {K : Nat × Nat} {pc nx : Nat} {L : List (Option Value)} {st : List Value} {σ : mp_H} {A : mp_An} {i : Nat} {x : Nat} {L' : List (Option Value)} (hd : mp_dc Y.1 pc (.astore i) 2 nx) (hn : i < Y.1.2.2.1) (hl : mp_st1 L i (Value.ref x) = L') (k : mp_At Y K nx L' st σ A) : mp_At Y K pc L (Value.ref x :: st) σ A := by
  obtain ⟨hd, rfl⟩ := hd
  intro G p l e Rm s m args below meth c C H locs ls hW hS hL
  obtain ⟨ls', e', h'⟩ := hL.st1 hn rfl hl
  have e' : storeLocals ls i (Value.ref (mp_ad G x)) = some ls' := e'
  have k := k G p l e Rm s m args below meth c C H locs ls' hW hS h'
  intro T hT X
  obtain ⟨t, a, b⟩ := k T hT X
  refine ⟨t, ?_, b⟩
  have hx := C.1
  have hb := C.2.1
  jvm_step X.here [X.here.top, ↓top_set X.here.top, hx, hb, hd, e', mp_tr]
  exact ⟨rfl, a⟩
theorem mp_astore_nN {Y : mp_Y} {K : Nat × Nat} {pc nx : Nat} {L : List (Option Value)} {st : List Value} {σ : mp_H} {A : mp_An} {j : Fin 4} {i : Nat}  {L' : List (Option Value)} (hd : mp_dc Y.1 pc (.astore_n j) 1 nx) (hi : (j : Nat) = i) (hn : i < Y.1.2.2.1) (hl : mp_st1 L i (Value.null) = L') (k : mp_At Y K nx L' st σ A) : mp_At Y K pc L (Value.null :: st) σ A := by
  obtain ⟨hd, rfl⟩ := hd
  intro G p l e Rm s m args below meth c C H locs ls hW hS hL
  subst hi
  obtain ⟨ls', e', h'⟩ := hL.st1 hn rfl hl
  have e' : storeLocals ls (j : Nat) (Value.null) = some ls' := e'
  have k := k G p l e Rm s m args below meth c C H locs ls' hW hS h'
  intro T hT X
  obtain ⟨t, a, b⟩ := k T hT X
  refine ⟨t, ?_, b⟩
  have hx := C.1
  have hb := C.2.1
  jvm_step X.here [X.here.top, ↓top_set X.here.top, hx, hb, hd, e', mp_tr]
  exact ⟨rfl, a⟩
theorem mp_astoreN {Y : mp_Y} {K : Nat × Nat} {pc nx : Nat} {L : List (Option Value)} {st : List Value} {σ : mp_H} {A : mp_An} {i : Nat}  {L' : List (Option Value)} (hd : mp_dc Y.1 pc (.astore i) 2 nx) (hn : i < Y.1.2.2.1) (hl : mp_st1 L i (Value.null) = L') (k : mp_At Y K nx L' st σ A) : mp_At Y K pc L (Value.null :: st) σ A := by
  obtain ⟨hd, rfl⟩ := hd
  intro G p l e Rm s m args below meth c C H locs ls hW hS hL
  obtain ⟨ls', e', h'⟩ := hL.st1 hn rfl hl
  have e' : storeLocals ls i (Value.null) = some ls' := e'
  have k := k G p l e Rm s m args below meth c C H locs ls' hW hS h'
  intro T hT X
  obtain ⟨t, a, b⟩ := k T hT X
  refine ⟨t, ?_, b⟩
  have hx := C.1
  have hb := C.2.1
  jvm_step X.here [X.here.top, ↓top_set X.here.top, hx, hb, hd, e', mp_tr]
  exact ⟨rfl, a⟩
theorem mp_iinc {Y : mp_Y} {K : Nat × Nat} {pc nx : Nat} {L : List (Option Value)} {st : List Value} {σ : mp_H} {A : mp_An} {i : Nat} {n x z : Int} {L' : List (Option Value)} (hd : mp_dc Y.1 pc (.iinc i n) 3 nx) (hv : L[i]? = some (some (mp_i x))) (hz : x + n = z) (hn : i < Y.1.2.2.1) (hl : mp_st1 L i (mp_i z) = L') (k : mp_At Y K nx L' st σ A) : mp_At Y K pc L st σ A := by
  subst hz
  obtain ⟨hd, rfl⟩ := hd
  intro G p l e Rm s m args below meth c C H locs ls hW hS hL
  obtain ⟨ls', e', h'⟩ := hL.st1 hn rfl hl
  have e' : storeLocals ls i (.int (Int32.ofInt x + Int32.ofInt n)) = some ls' := by rw [← Int32.ofInt_add]; exact e'
  have hl0 : ls[i]? = some (.val (.int (Int32.ofInt x))) := hL.2.2 _ _ hv
  have k := k G p l e Rm s m args below meth c C H locs ls' hW hS h'
  intro T hT X
  obtain ⟨t, a, b⟩ := k T hT X
  refine ⟨t, ?_, b⟩
  have hx := C.1
  have hb := C.2.1
  jvm_step X.here [X.here.top, ↓top_set X.here.top, hx, hb, hd, hl0, e']
  exact a
theorem mp_iadd {Y : mp_Y} {K : Nat × Nat} {pc nx : Nat} {L : List (Option Value)} {st : List Value} {σ : mp_H} {A : mp_An} {a b z : Int} (hd : mp_dc Y.1 pc (.iadd) 1 nx) (hz : a + b = z) (k : mp_At Y K nx L (mp_i z :: st) σ A) : mp_At Y K pc L (mp_i b :: mp_i a :: st) σ A := by
  obtain ⟨hd, rfl⟩ := hd
  intro G p l e Rm s m args below meth c C H locs ls hW hS hL
  subst hz
  refine lv_iadd C.1 C.2.1 hd ?_
  rw [← Int32.ofInt_add]
  exact (k G p l e Rm s m args below meth c C H locs ls hW hS hL)
theorem mp_isub {Y : mp_Y} {K : Nat × Nat} {pc nx : Nat} {L : List (Option Value)} {st : List Value} {σ : mp_H} {A : mp_An} {a b z : Int} (hd : mp_dc Y.1 pc (.isub) 1 nx) (hz : a - b = z) (k : mp_At Y K nx L (mp_i z :: st) σ A) : mp_At Y K pc L (mp_i b :: mp_i a :: st) σ A := by
  obtain ⟨hd, rfl⟩ := hd
  intro G p l e Rm s m args below meth c C H locs ls hW hS hL
  subst hz
  refine lv_isub C.1 C.2.1 hd ?_
  rw [← Int32.ofInt_sub]
  exact (k G p l e Rm s m args below meth c C H locs ls hW hS hL)
theorem mp_imul {Y : mp_Y} {K : Nat × Nat} {pc nx : Nat} {L : List (Option Value)} {st : List Value} {σ : mp_H} {A : mp_An} {a b z : Int} (hd : mp_dc Y.1 pc (.imul) 1 nx) (hz : a * b = z) (k : mp_At Y K nx L (mp_i z :: st) σ A) : mp_At Y K pc L (mp_i b :: mp_i a :: st) σ A := by
  obtain ⟨hd, rfl⟩ := hd
  intro G p l e Rm s m args below meth c C H locs ls hW hS hL
  subst hz
  refine lv_imul C.1 C.2.1 hd ?_
  rw [← Int32.ofInt_mul]
  exact (k G p l e Rm s m args below meth c C H locs ls hW hS hL)
theorem mp_ineg {Y : mp_Y} {K : Nat × Nat} {pc nx : Nat} {L : List (Option Value)} {st : List Value} {σ : mp_H} {A : mp_An} {a : Int} (hd : mp_dc Y.1 pc (.ineg) 1 nx)  (k : mp_At Y K nx L (mp_i (-a) :: st) σ A) : mp_At Y K pc L (mp_i a :: st) σ A := by
  obtain ⟨hd, rfl⟩ := hd
  intro G p l e Rm s m args below meth c C H locs ls hW hS hL
  refine lv_ineg C.1 C.2.1 hd ?_
  rw [← Int32.ofInt_neg]
  exact (k G p l e Rm s m args below meth c C H locs ls hW hS hL)
theorem mp_idiv {Y : mp_Y} {K : Nat × Nat} {pc nx : Nat} {L : List (Option Value)} {st : List Value} {σ : mp_H} {A : mp_An} {a b z : Int} (hd : mp_dc Y.1 pc (.idiv) 1 nx) (ha : 0 ≤ a ∧ a < 2147483648) (hb : 0 < b ∧ b < 2147483648) (hz : a / b = z) (k : mp_At Y K nx L (mp_i z :: st) σ A) : mp_At Y K pc L (mp_i b :: mp_i a :: st) σ A := by
  obtain ⟨hd, rfl⟩ := hd
  intro G p l e Rm s m args below meth c C H locs ls hW hS hL
  subst hz
  refine lv_idiv C.1 C.2.1 hd (mp_nz hb) ?_
  rw [mp_div ha hb]
  exact (k G p l e Rm s m args below meth c C H locs ls hW hS hL)
theorem mp_irem {Y : mp_Y} {K : Nat × Nat} {pc nx : Nat} {L : List (Option Value)} {st : List Value} {σ : mp_H} {A : mp_An} {a b z : Int} (hd : mp_dc Y.1 pc (.irem) 1 nx) (ha : 0 ≤ a ∧ a < 2147483648) (hb : 0 < b ∧ b < 2147483648) (hz : a % b = z) (k : mp_At Y K nx L (mp_i z :: st) σ A) : mp_At Y K pc L (mp_i b :: mp_i a :: st) σ A := by
  obtain ⟨hd, rfl⟩ := hd
  intro G p l e Rm s m args below meth c C H locs ls hW hS hL
  subst hz
  refine lv_irem C.1 C.2.1 hd (mp_nz hb) ?_
  rw [mp_rem ha hb]
  exact (k G p l e Rm s m args below meth c C H locs ls hW hS hL)
theorem mp_ishl {Y : mp_Y} {K : Nat × Nat} {pc nx : Nat} {L : List (Option Value)} {st : List Value} {σ : mp_H} {A : mp_An} {a b z : Int} (hd : mp_dc Y.1 pc (.ishl) 1 nx) (hz : Int32.ofInt a <<< (Int32.ofInt b &&& 31) = Int32.ofInt z) (k : mp_At Y K nx L (mp_i z :: st) σ A) : mp_At Y K pc L (mp_i b :: mp_i a :: st) σ A := by
  obtain ⟨hd, rfl⟩ := hd
  intro G p l e Rm s m args below meth c C H locs ls hW hS hL
  refine lv_ishl C.1 C.2.1 hd ?_
  rw [hz]
  exact (k G p l e Rm s m args below meth c C H locs ls hW hS hL)
theorem mp_ishr {Y : mp_Y} {K : Nat × Nat} {pc nx : Nat} {L : List (Option Value)} {st : List Value} {σ : mp_H} {A : mp_An} {a b z : Int} (hd : mp_dc Y.1 pc (.ishr) 1 nx) (hz : Int32.ofInt a >>> (Int32.ofInt b &&& 31) = Int32.ofInt z) (k : mp_At Y K nx L (mp_i z :: st) σ A) : mp_At Y K pc L (mp_i b :: mp_i a :: st) σ A := by
  obtain ⟨hd, rfl⟩ := hd
  intro G p l e Rm s m args below meth c C H locs ls hW hS hL
  refine lv_ishr C.1 C.2.1 hd ?_
  rw [hz]
  exact (k G p l e Rm s m args below meth c C H locs ls hW hS hL)
theorem mp_iand {Y : mp_Y} {K : Nat × Nat} {pc nx : Nat} {L : List (Option Value)} {st : List Value} {σ : mp_H} {A : mp_An} {a b z : Int} (hd : mp_dc Y.1 pc (.iand) 1 nx) (hz : Int32.ofInt a &&& Int32.ofInt b = Int32.ofInt z) (k : mp_At Y K nx L (mp_i z :: st) σ A) : mp_At Y K pc L (mp_i b :: mp_i a :: st) σ A := by
  obtain ⟨hd, rfl⟩ := hd
  intro G p l e Rm s m args below meth c C H locs ls hW hS hL
  refine lv_iand C.1 C.2.1 hd ?_
  rw [hz]
  exact (k G p l e Rm s m args below meth c C H locs ls hW hS hL)
theorem mp_ior {Y : mp_Y} {K : Nat × Nat} {pc nx : Nat} {L : List (Option Value)} {st : List Value} {σ : mp_H} {A : mp_An} {a b z : Int} (hd : mp_dc Y.1 pc (.ior) 1 nx) (hz : Int32.ofInt a ||| Int32.ofInt b = Int32.ofInt z) (k : mp_At Y K nx L (mp_i z :: st) σ A) : mp_At Y K pc L (mp_i b :: mp_i a :: st) σ A := by
  obtain ⟨hd, rfl⟩ := hd
  intro G p l e Rm s m args below meth c C H locs ls hW hS hL
  refine lv_ior C.1 C.2.1 hd ?_
  rw [hz]
  exact (k G p l e Rm s m args below meth c C H locs ls hW hS hL)
theorem mp_ixor {Y : mp_Y} {K : Nat × Nat} {pc nx : Nat} {L : List (Option Value)} {st : List Value} {σ : mp_H} {A : mp_An} {a b z : Int} (hd : mp_dc Y.1 pc (.ixor) 1 nx) (hz : Int32.ofInt a ^^^ Int32.ofInt b = Int32.ofInt z) (k : mp_At Y K nx L (mp_i z :: st) σ A) : mp_At Y K pc L (mp_i b :: mp_i a :: st) σ A := by
  obtain ⟨hd, rfl⟩ := hd
  intro G p l e Rm s m args below meth c C H locs ls hW hS hL
  refine lv_ixor C.1 C.2.1 hd ?_
  rw [hz]
  exact (k G p l e Rm s m args below meth c C H locs ls hW hS hL)
theorem mp_iushr {Y : mp_Y} {K : Nat × Nat} {pc nx : Nat} {L : List (Option Value)} {st : List Value} {σ : mp_H} {A : mp_An} {a b z : Int} (hd : mp_dc Y.1 pc (.iushr) 1 nx) (hz : ((Int32.ofInt a).toUInt32 >>> ((Int32.ofInt b).toUInt32 &&& Int32.toUInt32 31)).toInt32 = Int32.ofInt z) (k : mp_At Y K nx L (mp_i z :: st) σ A) : mp_At Y K pc L (mp_i b :: mp_i a :: st) σ A := by
  obtain ⟨hd, rfl⟩ := hd
  intro G p l e Rm s m args below meth c C H locs ls hW hS hL
  exact lv_iushr C.1 C.2.1 hd hz (k G p l e Rm s m args below meth c C H locs ls hW hS hL)
theorem mp_i2l {Y : mp_Y} {K : Nat × Nat} {pc nx : Nat} {L : List (Option Value)} {st : List Value} {σ : mp_H} {A : mp_An} {a : Int} (hd : mp_dc Y.1 pc (.i2l) 1 nx) (ha : mp_rg a) (k : mp_At Y K nx L (mp_l a :: st) σ A) : mp_At Y K pc L (mp_i a :: st) σ A := by
  obtain ⟨hd, rfl⟩ := hd
  intro G p l e Rm s m args below meth c C H locs ls hW hS hL
  exact lv_i2l C.1 C.2.1 hd (Int32.toInt64_ofInt (by have := ha.1; rw [Int32.toInt_minValue]; omega) (by have := ha.2; rw [Int32.toInt_maxValue]; omega)) (k G p l e Rm s m args below meth c C H locs ls hW hS hL)
theorem mp_i2b {Y : mp_Y} {K : Nat × Nat} {pc nx : Nat} {L : List (Option Value)} {st : List Value} {σ : mp_H} {A : mp_An} {a z : Int} (hd : mp_dc Y.1 pc (.i2b) 1 nx) (hz : (Int32.ofInt a).toInt8.toInt32 = Int32.ofInt z) (k : mp_At Y K nx L (mp_i z :: st) σ A) : mp_At Y K pc L (mp_i a :: st) σ A := by
  obtain ⟨hd, rfl⟩ := hd
  intro G p l e Rm s m args below meth c C H locs ls hW hS hL
  exact lv_i2b C.1 C.2.1 hd hz (k G p l e Rm s m args below meth c C H locs ls hW hS hL)
theorem mp_i2s {Y : mp_Y} {K : Nat × Nat} {pc nx : Nat} {L : List (Option Value)} {st : List Value} {σ : mp_H} {A : mp_An} {a z : Int} (hd : mp_dc Y.1 pc (.i2s) 1 nx) (hz : (Int32.ofInt a).toInt16.toInt32 = Int32.ofInt z) (k : mp_At Y K nx L (mp_i z :: st) σ A) : mp_At Y K pc L (mp_i a :: st) σ A := by
  obtain ⟨hd, rfl⟩ := hd
  intro G p l e Rm s m args below meth c C H locs ls hW hS hL
  exact lv_i2s C.1 C.2.1 hd hz (k G p l e Rm s m args below meth c C H locs ls hW hS hL)
theorem mp_ladd {Y : mp_Y} {K : Nat × Nat} {pc nx : Nat} {L : List (Option Value)} {st : List Value} {σ : mp_H} {A : mp_An} {a b z : Int} (hd : mp_dc Y.1 pc (.ladd) 1 nx) (hz : a + b = z) (k : mp_At Y K nx L (mp_l z :: st) σ A) : mp_At Y K pc L (mp_l b :: mp_l a :: st) σ A := by
  obtain ⟨hd, rfl⟩ := hd
  intro G p l e Rm s m args below meth c C H locs ls hW hS hL
  subst hz
  refine lv_ladd C.1 C.2.1 hd ?_
  rw [← Int64.ofInt_add]
  exact (k G p l e Rm s m args below meth c C H locs ls hW hS hL)
theorem mp_lmul {Y : mp_Y} {K : Nat × Nat} {pc nx : Nat} {L : List (Option Value)} {st : List Value} {σ : mp_H} {A : mp_An} {a b z : Int} (hd : mp_dc Y.1 pc (.lmul) 1 nx) (hz : a * b = z) (k : mp_At Y K nx L (mp_l z :: st) σ A) : mp_At Y K pc L (mp_l b :: mp_l a :: st) σ A := by
  obtain ⟨hd, rfl⟩ := hd
  intro G p l e Rm s m args below meth c C H locs ls hW hS hL
  subst hz
  refine lv_lmul C.1 C.2.1 hd ?_
  rw [← Int64.ofInt_mul]
  exact (k G p l e Rm s m args below meth c C H locs ls hW hS hL)
theorem mp_ldivr {Y : mp_Y} {K : Nat × Nat} {pc nx : Nat} {L : List (Option Value)} {st : List Value} {σ : mp_H} {A : mp_An} {a b z : Int} (hd : mp_dc Y.1 pc (.ldiv) 1 nx) (ha : 0 ≤ a ∧ a < 9223372036854775808) (hb : 0 < b ∧ b < 9223372036854775808) (hz : a / b = z) (k : mp_At Y K nx L (mp_l z :: st) σ A) : mp_At Y K pc L (mp_l b :: mp_l a :: st) σ A := by
  obtain ⟨hd, rfl⟩ := hd
  intro G p l e Rm s m args below meth c C H locs ls hW hS hL
  subst hz
  refine lv_ldiv C.1 C.2.1 hd (mp_lnz hb) ?_
  rw [mp_ldiv ha hb]
  exact (k G p l e Rm s m args below meth c C H locs ls hW hS hL)
theorem mp_lremr {Y : mp_Y} {K : Nat × Nat} {pc nx : Nat} {L : List (Option Value)} {st : List Value} {σ : mp_H} {A : mp_An} {a b z : Int} (hd : mp_dc Y.1 pc (.lrem) 1 nx) (ha : 0 ≤ a ∧ a < 9223372036854775808) (hb : 0 < b ∧ b < 9223372036854775808) (hz : a % b = z) (k : mp_At Y K nx L (mp_l z :: st) σ A) : mp_At Y K pc L (mp_l b :: mp_l a :: st) σ A := by
  obtain ⟨hd, rfl⟩ := hd
  intro G p l e Rm s m args below meth c C H locs ls hW hS hL
  subst hz
  refine lv_lrem C.1 C.2.1 hd (mp_lnz hb) ?_
  rw [mp_lrem ha hb]
  exact (k G p l e Rm s m args below meth c C H locs ls hW hS hL)
theorem mp_lcmp {Y : mp_Y} {K : Nat × Nat} {pc nx : Nat} {L : List (Option Value)} {st : List Value} {σ : mp_H} {A : mp_An} {x y : Int64} (hd : mp_dc Y.1 pc (.lcmp) 1 nx)  (k : mp_At Y K nx L (Value.int (lg_cmp x y) :: st) σ A) : mp_At Y K pc L (Value.long y :: Value.long x :: st) σ A := by
  obtain ⟨hd, rfl⟩ := hd
  intro G p l e Rm s m args below meth c C H locs ls hW hS hL
  exact W.lcmp C.1 C.2.1 hd (k G p l e Rm s m args below meth c C H locs ls hW hS hL)
theorem mp_dup {Y : mp_Y} {K : Nat × Nat} {pc nx : Nat} {L : List (Option Value)} {st : List Value} {σ : mp_H} {A : mp_An} {v : Value} (hd : mp_dc Y.1 pc (.dup) 1 nx) (hc : v.category = 1) (k : mp_At Y K nx L (v :: v :: st) σ A) : mp_At Y K pc L (v :: st) σ A := by
  obtain ⟨hd, rfl⟩ := hd
  intro G p l e Rm s m args below meth c C H locs ls hW hS hL
  exact lv_dup C.1 C.2.1 hd (by rw [mp_cat]; exact hc) (k G p l e Rm s m args below meth c C H locs ls hW hS hL)
theorem mp_dup2 {Y : mp_Y} {K : Nat × Nat} {pc nx : Nat} {L : List (Option Value)} {st : List Value} {σ : mp_H} {A : mp_An} {v w : Value} (hd : mp_dc Y.1 pc (.dup2) 1 nx) (hc : v.category = 1) (hc2 : w.category = 1) (k : mp_At Y K nx L (v :: w :: v :: w :: st) σ A) : mp_At Y K pc L (v :: w :: st) σ A := by
  obtain ⟨hd, rfl⟩ := hd
  intro G p l e Rm s m args below meth c C H locs ls hW hS hL
  exact lv_dup2_11 C.1 C.2.1 hd (by rw [mp_cat]; exact hc) (by rw [mp_cat]; exact hc2) (k G p l e Rm s m args below meth c C H locs ls hW hS hL)
theorem mp_pop {Y : mp_Y} {K : Nat × Nat} {pc nx : Nat} {L : List (Option Value)} {st : List Value} {σ : mp_H} {A : mp_An} {v : Value} (hd : mp_dc Y.1 pc (.pop) 1 nx) (hc : v.category = 1) (k : mp_At Y K nx L (st) σ A) : mp_At Y K pc L (v :: st) σ A := by
  obtain ⟨hd, rfl⟩ := hd
  intro G p l e Rm s m args below meth c C H locs ls hW hS hL
  exact lv_pop C.1 C.2.1 hd (by rw [mp_cat]; exact hc) (k G p l e Rm s m args below meth c C H locs ls hW hS hL)
theorem mp_icmp_eq {Y : mp_Y} {K : Nat × Nat} {pc nx : Nat} {L : List (Option Value)} {st : List Value} {σ : mp_H} {A : mp_An} {a b : Int} {off : Int} {tgt : Nat} (hd : mp_dc Y.1 pc (.if_icmp .eq off) 3 nx) (ht : (pc : Int) + off = (tgt : Int)) (ha : mp_rg a) (hb : mp_rg b) (k1 : a = b → mp_At Y K tgt L st σ A) (k2 : ¬ a = b → mp_At Y K nx L st σ A) : mp_At Y K pc L (mp_i b :: mp_i a :: st) σ A := by
  obtain ⟨hd, rfl⟩ := hd
  intro G p l e Rm s m args below meth c C H locs ls hW hS hL
  exact lv_icmp_eq C.1 C.2.1 hd ht (fun h => k1 ((mp_eq ha hb).mp h) G p l e Rm s m args below meth c C H locs ls hW hS hL) (fun h => k2 (fun z => h ((mp_eq ha hb).mpr z)) G p l e Rm s m args below meth c C H locs ls hW hS hL)
theorem mp_icmp_lt {Y : mp_Y} {K : Nat × Nat} {pc nx : Nat} {L : List (Option Value)} {st : List Value} {σ : mp_H} {A : mp_An} {a b : Int} {off : Int} {tgt : Nat} (hd : mp_dc Y.1 pc (.if_icmp .lt off) 3 nx) (ht : (pc : Int) + off = (tgt : Int)) (ha : mp_rg a) (hb : mp_rg b) (k1 : a < b → mp_At Y K tgt L st σ A) (k2 : ¬ a < b → mp_At Y K nx L st σ A) : mp_At Y K pc L (mp_i b :: mp_i a :: st) σ A := by
  obtain ⟨hd, rfl⟩ := hd
  intro G p l e Rm s m args below meth c C H locs ls hW hS hL
  exact lv_icmp_lt C.1 C.2.1 hd ht (fun h => k1 ((mp_lt ha hb).mp h) G p l e Rm s m args below meth c C H locs ls hW hS hL) (fun h => k2 (fun z => h ((mp_lt ha hb).mpr z)) G p l e Rm s m args below meth c C H locs ls hW hS hL)
theorem mp_icmp_ge {Y : mp_Y} {K : Nat × Nat} {pc nx : Nat} {L : List (Option Value)} {st : List Value} {σ : mp_H} {A : mp_An} {a b : Int} {off : Int} {tgt : Nat} (hd : mp_dc Y.1 pc (.if_icmp .ge off) 3 nx) (ht : (pc : Int) + off = (tgt : Int)) (ha : mp_rg a) (hb : mp_rg b) (k1 : b ≤ a → mp_At Y K tgt L st σ A) (k2 : ¬ b ≤ a → mp_At Y K nx L st σ A) : mp_At Y K pc L (mp_i b :: mp_i a :: st) σ A := by
  obtain ⟨hd, rfl⟩ := hd
  intro G p l e Rm s m args below meth c C H locs ls hW hS hL
  exact lv_icmp_ge C.1 C.2.1 hd ht (fun h => k1 ((mp_le hb ha).mp h) G p l e Rm s m args below meth c C H locs ls hW hS hL) (fun h => k2 (fun z => h ((mp_le hb ha).mpr z)) G p l e Rm s m args below meth c C H locs ls hW hS hL)
theorem mp_icmp_gt {Y : mp_Y} {K : Nat × Nat} {pc nx : Nat} {L : List (Option Value)} {st : List Value} {σ : mp_H} {A : mp_An} {a b : Int} {off : Int} {tgt : Nat} (hd : mp_dc Y.1 pc (.if_icmp .gt off) 3 nx) (ht : (pc : Int) + off = (tgt : Int)) (ha : mp_rg a) (hb : mp_rg b) (k1 : b < a → mp_At Y K tgt L st σ A) (k2 : ¬ b < a → mp_At Y K nx L st σ A) : mp_At Y K pc L (mp_i b :: mp_i a :: st) σ A := by
  obtain ⟨hd, rfl⟩ := hd
  intro G p l e Rm s m args below meth c C H locs ls hW hS hL
  exact lv_icmp_gt C.1 C.2.1 hd ht (fun h => k1 ((mp_lt hb ha).mp h) G p l e Rm s m args below meth c C H locs ls hW hS hL) (fun h => k2 (fun z => h ((mp_lt hb ha).mpr z)) G p l e Rm s m args below meth c C H locs ls hW hS hL)
theorem mp_icmp_le {Y : mp_Y} {K : Nat × Nat} {pc nx : Nat} {L : List (Option Value)} {st : List Value} {σ : mp_H} {A : mp_An} {a b : Int} {off : Int} {tgt : Nat} (hd : mp_dc Y.1 pc (.if_icmp .le off) 3 nx) (ht : (pc : Int) + off = (tgt : Int)) (ha : mp_rg a) (hb : mp_rg b) (k1 : a ≤ b → mp_At Y K tgt L st σ A) (k2 : ¬ a ≤ b → mp_At Y K nx L st σ A) : mp_At Y K pc L (mp_i b :: mp_i a :: st) σ A := by
  obtain ⟨hd, rfl⟩ := hd
  intro G p l e Rm s m args below meth c C H locs ls hW hS hL
  exact lv_icmp_le C.1 C.2.1 hd ht (fun h => k1 ((mp_le ha hb).mp h) G p l e Rm s m args below meth c C H locs ls hW hS hL) (fun h => k2 (fun z => h ((mp_le ha hb).mpr z)) G p l e Rm s m args below meth c C H locs ls hW hS hL)
theorem mp_icmp_ne {Y : mp_Y} {K : Nat × Nat} {pc nx : Nat} {L : List (Option Value)} {st : List Value} {σ : mp_H} {A : mp_An} {a b : Int} {off : Int} {tgt : Nat} (hd : mp_dc Y.1 pc (.if_icmp .ne off) 3 nx) (ht : (pc : Int) + off = (tgt : Int)) (ha : mp_rg a) (hb : mp_rg b) (k1 : ¬ a = b → mp_At Y K tgt L st σ A) (k2 : a = b → mp_At Y K nx L st σ A) : mp_At Y K pc L (mp_i b :: mp_i a :: st) σ A := by
  obtain ⟨hd, rfl⟩ := hd
  intro G p l e Rm s m args below meth c C H locs ls hW hS hL
  exact lv_icmp_ne C.1 C.2.1 hd ht (fun h => k1 (fun z => h ((mp_eq ha hb).mpr z)) G p l e Rm s m args below meth c C H locs ls hW hS hL) (fun h => k2 ((mp_eq ha hb).mp h) G p l e Rm s m args below meth c C H locs ls hW hS hL)
theorem mp_if_eq {Y : mp_Y} {K : Nat × Nat} {pc nx : Nat} {L : List (Option Value)} {st : List Value} {σ : mp_H} {A : mp_An} {a : Int} {off : Int} {tgt : Nat} (hd : mp_dc Y.1 pc (.ifCond .eq off) 3 nx) (ht : (pc : Int) + off = (tgt : Int)) (ha : mp_rg a) (k1 : a = 0 → mp_At Y K tgt L st σ A) (k2 : ¬ a = 0 → mp_At Y K nx L st σ A) : mp_At Y K pc L (mp_i a :: st) σ A := by
  obtain ⟨hd, rfl⟩ := hd
  intro G p l e Rm s m args below meth c C H locs ls hW hS hL
  exact lv_if_eq C.1 C.2.1 hd ht (fun h => k1 ((mp_eq ha mp_rg0).mp h) G p l e Rm s m args below meth c C H locs ls hW hS hL) (fun h => k2 (fun z => h ((mp_eq ha mp_rg0).mpr z)) G p l e Rm s m args below meth c C H locs ls hW hS hL)
theorem mp_if_lt {Y : mp_Y} {K : Nat × Nat} {pc nx : Nat} {L : List (Option Value)} {st : List Value} {σ : mp_H} {A : mp_An} {a : Int} {off : Int} {tgt : Nat} (hd : mp_dc Y.1 pc (.ifCond .lt off) 3 nx) (ht : (pc : Int) + off = (tgt : Int)) (ha : mp_rg a) (k1 : a < 0 → mp_At Y K tgt L st σ A) (k2 : ¬ a < 0 → mp_At Y K nx L st σ A) : mp_At Y K pc L (mp_i a :: st) σ A := by
  obtain ⟨hd, rfl⟩ := hd
  intro G p l e Rm s m args below meth c C H locs ls hW hS hL
  exact lv_if_lt C.1 C.2.1 hd ht (fun h => k1 ((mp_lt ha mp_rg0).mp h) G p l e Rm s m args below meth c C H locs ls hW hS hL) (fun h => k2 (fun z => h ((mp_lt ha mp_rg0).mpr z)) G p l e Rm s m args below meth c C H locs ls hW hS hL)
theorem mp_if_ge {Y : mp_Y} {K : Nat × Nat} {pc nx : Nat} {L : List (Option Value)} {st : List Value} {σ : mp_H} {A : mp_An} {a : Int} {off : Int} {tgt : Nat} (hd : mp_dc Y.1 pc (.ifCond .ge off) 3 nx) (ht : (pc : Int) + off = (tgt : Int)) (ha : mp_rg a) (k1 : 0 ≤ a → mp_At Y K tgt L st σ A) (k2 : ¬ 0 ≤ a → mp_At Y K nx L st σ A) : mp_At Y K pc L (mp_i a :: st) σ A := by
  obtain ⟨hd, rfl⟩ := hd
  intro G p l e Rm s m args below meth c C H locs ls hW hS hL
  exact lv_if_ge C.1 C.2.1 hd ht (fun h => k1 ((mp_le mp_rg0 ha).mp h) G p l e Rm s m args below meth c C H locs ls hW hS hL) (fun h => k2 (fun z => h ((mp_le mp_rg0 ha).mpr z)) G p l e Rm s m args below meth c C H locs ls hW hS hL)
theorem mp_if_gt {Y : mp_Y} {K : Nat × Nat} {pc nx : Nat} {L : List (Option Value)} {st : List Value} {σ : mp_H} {A : mp_An} {a : Int} {off : Int} {tgt : Nat} (hd : mp_dc Y.1 pc (.ifCond .gt off) 3 nx) (ht : (pc : Int) + off = (tgt : Int)) (ha : mp_rg a) (k1 : 0 < a → mp_At Y K tgt L st σ A) (k2 : ¬ 0 < a → mp_At Y K nx L st σ A) : mp_At Y K pc L (mp_i a :: st) σ A := by
  obtain ⟨hd, rfl⟩ := hd
  intro G p l e Rm s m args below meth c C H locs ls hW hS hL
  exact lv_if_gt C.1 C.2.1 hd ht (fun h => k1 ((mp_lt mp_rg0 ha).mp h) G p l e Rm s m args below meth c C H locs ls hW hS hL) (fun h => k2 (fun z => h ((mp_lt mp_rg0 ha).mpr z)) G p l e Rm s m args below meth c C H locs ls hW hS hL)
theorem mp_if_le {Y : mp_Y} {K : Nat × Nat} {pc nx : Nat} {L : List (Option Value)} {st : List Value} {σ : mp_H} {A : mp_An} {a : Int} {off : Int} {tgt : Nat} (hd : mp_dc Y.1 pc (.ifCond .le off) 3 nx) (ht : (pc : Int) + off = (tgt : Int)) (ha : mp_rg a) (k1 : a ≤ 0 → mp_At Y K tgt L st σ A) (k2 : ¬ a ≤ 0 → mp_At Y K nx L st σ A) : mp_At Y K pc L (mp_i a :: st) σ A := by
  obtain ⟨hd, rfl⟩ := hd
  intro G p l e Rm s m args below meth c C H locs ls hW hS hL
  exact lv_if_le C.1 C.2.1 hd ht (fun h => k1 ((mp_le ha mp_rg0).mp h) G p l e Rm s m args below meth c C H locs ls hW hS hL) (fun h => k2 (fun z => h ((mp_le ha mp_rg0).mpr z)) G p l e Rm s m args below meth c C H locs ls hW hS hL)
theorem mp_if_ne {Y : mp_Y} {K : Nat × Nat} {pc nx : Nat} {L : List (Option Value)} {st : List Value} {σ : mp_H} {A : mp_An} {a : Int} {off : Int} {tgt : Nat} (hd : mp_dc Y.1 pc (.ifCond .ne off) 3 nx) (ht : (pc : Int) + off = (tgt : Int)) (ha : mp_rg a) (k1 : ¬ a = 0 → mp_At Y K tgt L st σ A) (k2 : a = 0 → mp_At Y K nx L st σ A) : mp_At Y K pc L (mp_i a :: st) σ A := by
  obtain ⟨hd, rfl⟩ := hd
  intro G p l e Rm s m args below meth c C H locs ls hW hS hL
  exact lv_if_ne C.1 C.2.1 hd ht (fun h => k1 (fun z => h ((mp_eq ha mp_rg0).mpr z)) G p l e Rm s m args below meth c C H locs ls hW hS hL) (fun h => k2 ((mp_eq ha mp_rg0).mp h) G p l e Rm s m args below meth c C H locs ls hW hS hL)
theorem mp_ifb_eq {Y : mp_Y} {K : Nat × Nat} {pc nx : Nat} {L : List (Option Value)} {st : List Value} {σ : mp_H} {A : mp_An} {q : Prop} [Decidable q] {off : Int} {tgt : Nat} (hd : mp_dc Y.1 pc (.ifCond .eq off) 3 nx) (ht : (pc : Int) + off = (tgt : Int))  (k1 : ¬ q → mp_At Y K tgt L st σ A) (k2 : q → mp_At Y K nx L st σ A) : mp_At Y K pc L (mp_i (if q then 1 else 0) :: st) σ A := by
  obtain ⟨hd, rfl⟩ := hd
  intro G p l e Rm s m args below meth c C H locs ls hW hS hL
  exact lv_if_eq C.1 C.2.1 hd ht (fun h => k1 (mp_b0 h) G p l e Rm s m args below meth c C H locs ls hW hS hL) (fun h => k2 (mp_b1 h) G p l e Rm s m args below meth c C H locs ls hW hS hL)
theorem mp_ifb_ne {Y : mp_Y} {K : Nat × Nat} {pc nx : Nat} {L : List (Option Value)} {st : List Value} {σ : mp_H} {A : mp_An} {q : Prop} [Decidable q] {off : Int} {tgt : Nat} (hd : mp_dc Y.1 pc (.ifCond .ne off) 3 nx) (ht : (pc : Int) + off = (tgt : Int))  (k1 : q → mp_At Y K tgt L st σ A) (k2 : ¬ q → mp_At Y K nx L st σ A) : mp_At Y K pc L (mp_i (if q then 1 else 0) :: st) σ A := by
  obtain ⟨hd, rfl⟩ := hd
  intro G p l e Rm s m args below meth c C H locs ls hW hS hL
  exact lv_if_ne C.1 C.2.1 hd ht (fun h => k1 (mp_b1 h) G p l e Rm s m args below meth c C H locs ls hW hS hL) (fun h => k2 (mp_b0 h) G p l e Rm s m args below meth c C H locs ls hW hS hL)
theorem mp_goto {Y : mp_Y} {K : Nat × Nat} {pc nx : Nat} {L : List (Option Value)} {st : List Value} {σ : mp_H} {A : mp_An} {off : Int} {tgt : Nat} (hd : mp_dc Y.1 pc (.goto off) 3 nx) (ht : (pc : Int) + off = (tgt : Int)) (k : mp_At Y K tgt L st σ A) : mp_At Y K pc L st σ A := by
  obtain ⟨hd, rfl⟩ := hd
  intro G p l e Rm s m args below meth c C H locs ls hW hS hL
  exact lv_goto C.1 C.2.1 hd ht (k G p l e Rm s m args below meth c C H locs ls hW hS hL)
theorem mp_ifnull_r {Y : mp_Y} {K : Nat × Nat} {pc nx : Nat} {L : List (Option Value)} {st : List Value} {σ : mp_H} {A : mp_An} {x : Nat} {off : Int} (hd : mp_dc Y.1 pc (.ifnull off) 3 nx) (k : mp_At Y K nx L st σ A) : mp_At Y K pc L (Value.ref x :: st) σ A := by
  obtain ⟨hd, rfl⟩ := hd
  intro G p l e Rm s m args below meth c C H locs ls hW hS hL
  exact lv_ifnull C.1 C.2.1 hd (k G p l e Rm s m args below meth c C H locs ls hW hS hL)
theorem mp_ifnull_n {Y : mp_Y} {K : Nat × Nat} {pc nx : Nat} {L : List (Option Value)} {st : List Value} {σ : mp_H} {A : mp_An} {off : Int} {tgt : Nat} (hd : mp_dc Y.1 pc (.ifnull off) 3 nx) (ht : (pc : Int) + off = (tgt : Int)) (k : mp_At Y K tgt L st σ A) : mp_At Y K pc L (Value.null :: st) σ A := by
  obtain ⟨hd, rfl⟩ := hd
  intro G p l e Rm s m args below meth c C H locs ls hW hS hL
  exact lv_ifnullN C.1 C.2.1 hd ht (k G p l e Rm s m args below meth c C H locs ls hW hS hL)
theorem mp_ifnonnull_r {Y : mp_Y} {K : Nat × Nat} {pc nx : Nat} {L : List (Option Value)} {st : List Value} {σ : mp_H} {A : mp_An} {x : Nat} {off : Int} {tgt : Nat} (hd : mp_dc Y.1 pc (.ifnonnull off) 3 nx) (ht : (pc : Int) + off = (tgt : Int)) (k : mp_At Y K tgt L st σ A) : mp_At Y K pc L (Value.ref x :: st) σ A := by
  obtain ⟨hd, rfl⟩ := hd
  intro G p l e Rm s m args below meth c C H locs ls hW hS hL
  exact lv_ifnonnull C.1 C.2.1 hd ht (k G p l e Rm s m args below meth c C H locs ls hW hS hL)
theorem mp_ifnonnull_n {Y : mp_Y} {K : Nat × Nat} {pc nx : Nat} {L : List (Option Value)} {st : List Value} {σ : mp_H} {A : mp_An} {off : Int} (hd : mp_dc Y.1 pc (.ifnonnull off) 3 nx) (k : mp_At Y K nx L st σ A) : mp_At Y K pc L (Value.null :: st) σ A := by
  obtain ⟨hd, rfl⟩ := hd
  intro G p l e Rm s m args below meth c C H locs ls hW hS hL
  exact lv_ifnonnullN C.1 C.2.1 hd (k G p l e Rm s m args below meth c C H locs ls hW hS hL)
theorem mp_tableIn {Y : mp_Y} {K : Nat × Nat} {pc nx : Nat} {L : List (Option Value)} {st : List Value} {σ : mp_H} {A : mp_An} {dflt lo hi : Int} {offs : Array Int} {len : Nat} {x off : Int} {tgt : Nat} (hd : mp_dc Y.1 pc (.tableswitch dflt lo hi offs) len nx) (hx : mp_rg x) (h1 : lo ≤ x) (h2 : x ≤ hi) (ho : offs[(x - lo).toNat]? = some off) (ht : (pc : Int) + off = (tgt : Int)) (k : mp_At Y K tgt L st σ A) : mp_At Y K pc L (mp_i x :: st) σ A := by
  obtain ⟨hd, rfl⟩ := hd
  intro G p l e Rm s m args below meth c C H locs ls hW hS hL
  exact lv_tableIn C.1 C.2.1 hd (by rw [mp_toInt hx]; omega) (by rw [mp_toInt hx]; omega) (by rw [mp_toInt hx]; exact ho) ht (k G p l e Rm s m args below meth c C H locs ls hW hS hL)
theorem mp_tableOut {Y : mp_Y} {K : Nat × Nat} {pc nx : Nat} {L : List (Option Value)} {st : List Value} {σ : mp_H} {A : mp_An} {dflt lo hi : Int} {offs : Array Int} {len : Nat} {x : Int} {tgt : Nat} (hd : mp_dc Y.1 pc (.tableswitch dflt lo hi offs) len nx) (hx : mp_rg x) (h : x < lo ∨ hi < x) (ht : (pc : Int) + dflt = (tgt : Int)) (k : mp_At Y K tgt L st σ A) : mp_At Y K pc L (mp_i x :: st) σ A := by
  obtain ⟨hd, rfl⟩ := hd
  intro G p l e Rm s m args below meth c C H locs ls hW hS hL
  exact lv_tableOut C.1 C.2.1 hd (by rw [mp_toInt hx]; exact h) ht (k G p l e Rm s m args below meth c C H locs ls hW hS hL)
theorem mp_lookup {Y : mp_Y} {K : Nat × Nat} {pc nx : Nat} {L : List (Option Value)} {st : List Value} {σ : mp_H} {A : mp_An} {dflt : Int} {ps : Array (Int × Int)} {len : Nat} {x off : Int} {tgt : Nat} (hd : mp_dc Y.1 pc (.lookupswitch dflt ps) len nx) (hx : mp_rg x) (hp : (ps.toList.zip (ps.toList.drop 1)).all (fun (a, next) => a.1 < next.1) = true) (ho : Op.lookupswitch.offset ps.toList dflt x = off) (ht : (pc : Int) + off = (tgt : Int)) (k : mp_At Y K tgt L st σ A) : mp_At Y K pc L (mp_i x :: st) σ A := by
  obtain ⟨hd, rfl⟩ := hd
  intro G p l e Rm s m args below meth c C H locs ls hW hS hL
  exact lv_lookup C.1 C.2.1 hd hp (by rw [mp_toInt hx]; exact ho) ht (k G p l e Rm s m args below meth c C H locs ls hW hS hL)
theorem mp_W.last {p : Program} {l : Launch} {e : Env} {R : Room} {s : State} {m : MethodId} {args : Array Value} {below : List Frame} {meth : Method} {c : Code} {H : Heap} {locs : List Loc} {a b a' b' : Nat} {Q : State → Prop} {g : JFrame} (h1 : a ≤ a') (h2 : b ≤ b') (k : W p l e R s m args below meth c H locs a' b' Q g) : W p l e R s m args below meth c H locs a b Q g := W.widen h1 h2 k
theorem mp_ireturn {Y : mp_Y} {K : Nat × Nat} {pc nx : Nat} {L : List (Option Value)} {st : List Value} {σ : mp_H} {A : mp_An} {v : Int32} (hd : mp_dc Y.1 pc (.ireturn) 1 nx) (hr : Y.1.2.2.2 = some .int) (hK : K.1 ≤ Y.2.2.1 ∧ K.2 ≤ Y.2.2.2) (hA : A = (some (.int v), σ)) : mp_At Y K pc L ([.int v]) σ A := by
  subst hA
  obtain ⟨hd, rfl⟩ := hd
  intro G p l e Rm s m args below meth c C H locs ls hW hS hL
  refine mp_W.last hK.1 hK.2 ?_
  exact W.iret (v := v) C.1 C.2.1 (C.2.2.1.trans hr) (fun t ht hw => ⟨rfl, by rw [ht]; exact hW, by rw [ht]; exact hS.1⟩) hS.2.2 hd C.2.2.2.2.2.1
theorem mp_zreturn {Y : mp_Y} {K : Nat × Nat} {pc nx : Nat} {L : List (Option Value)} {st : List Value} {σ : mp_H} {A : mp_An} {v : Int32} {ty : FieldType} (hd : mp_dc Y.1 pc (.ireturn) 1 nx) (hr : Y.1.2.2.2 = some ty) (hn : narrow ty (.int v) = .int v) (hK : K.1 ≤ Y.2.2.1 ∧ K.2 ≤ Y.2.2.2) (hA : A = (some (.int v), σ)) : mp_At Y K pc L ([.int v]) σ A := by
  subst hA
  obtain ⟨hd, rfl⟩ := hd
  intro G p l e Rm s m args below meth c C H locs ls hW hS hL
  refine mp_W.last hK.1 hK.2 ?_
  exact W.zret (v := v) C.1 C.2.1 (C.2.2.1.trans hr) hn (fun t ht hw => ⟨rfl, by rw [ht]; exact hW, by rw [ht]; exact hS.1⟩) hS.2.2 hd C.2.2.2.2.2.1
theorem mp_lreturn {Y : mp_Y} {K : Nat × Nat} {pc nx : Nat} {L : List (Option Value)} {st : List Value} {σ : mp_H} {A : mp_An} {v : Int64} (hd : mp_dc Y.1 pc (.lreturn) 1 nx) (hr : Y.1.2.2.2 = some .long) (hK : K.1 ≤ Y.2.2.1 ∧ K.2 ≤ Y.2.2.2) (hA : A = (some (.long v), σ)) : mp_At Y K pc L ([.long v]) σ A := by
  subst hA
  obtain ⟨hd, rfl⟩ := hd
  intro G p l e Rm s m args below meth c C H locs ls hW hS hL
  refine mp_W.last hK.1 hK.2 ?_
  exact W.lret (v := v) C.1 C.2.1 (C.2.2.1.trans hr) (fun t ht hw => ⟨rfl, by rw [ht]; exact hW, by rw [ht]; exact hS.1⟩) hS.2.2 hd C.2.2.2.2.2.1
theorem mp_vreturn {Y : mp_Y} {K : Nat × Nat} {pc nx : Nat} {L : List (Option Value)} {st : List Value} {σ : mp_H} {A : mp_An}  (hd : mp_dc Y.1 pc (.return_) 1 nx) (hr : Y.1.2.2.2 = none) (hK : K.1 ≤ Y.2.2.1 ∧ K.2 ≤ Y.2.2.2) (hA : A = (none, σ)) : mp_At Y K pc L ([]) σ A := by
  subst hA
  obtain ⟨hd, rfl⟩ := hd
  intro G p l e Rm s m args below meth c C H locs ls hW hS hL
  refine mp_W.last hK.1 hK.2 ?_
  exact W.vret C.1 C.2.1 (C.2.2.1.trans hr) (fun t ht hw => ⟨rfl, by rw [ht]; exact hW, by rw [ht]; exact hS.1⟩) hS.2.2 hd C.2.2.2.2.2.1
theorem mp_areturn {Y : mp_Y} {K : Nat × Nat} {pc nx : Nat} {L : List (Option Value)} {st : List Value} {σ : mp_H} {A : mp_An} {v : Value} {n : String} (hd : mp_dc Y.1 pc (.areturn) 1 nx) (hr : Y.1.2.2.2 = some (.object n)) (hv : v = .null ∨ ∃ a, v = .ref a) (hK : K.1 ≤ Y.2.2.1 ∧ K.2 ≤ Y.2.2.2) (hA : A = (some v, σ)) : mp_At Y K pc L ([v]) σ A := by
  subst hA
  obtain ⟨hd, rfl⟩ := hd
  intro G p l e Rm s m args below meth c C H locs ls hW hS hL
  refine mp_W.last hK.1 hK.2 ?_
  exact W.aret C.1 C.2.1 (C.2.2.1.trans hr) (Or.inl ⟨_, rfl⟩) (hv.elim (fun h => Or.inl (by rw [h]; rfl)) (fun ⟨a, h⟩ => Or.inr ⟨mp_ad G a, by rw [h]; rfl⟩)) (fun t ht hw => ⟨rfl, by rw [ht]; exact hW, by rw [ht]; exact hS.1⟩) hS.2.2 hd C.2.2.2.2.2.1
