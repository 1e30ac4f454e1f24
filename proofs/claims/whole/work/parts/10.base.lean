/-! ===== numbers, sets of bits, loops: the words that contracts are told in ===== -/
abbrev mp_w (a : Int) : Prop := -2147483648 ≤ a ∧ a < 2147483648
theorem mp_ans {E E' : Int} {σ : mp_H} (h : E = E') : ((some (mp_i E), σ) : mp_An) = (some (mp_i E'), σ) := by rw [h]
theorem mp_ansl {E E' : Int} {σ : mp_H} (h : E = E') : ((some (mp_l E), σ) : mp_An) = (some (mp_l E'), σ) := by rw [h]
/-- a row of numbers by Ints -/
abbrev mp_F (s : Int → Int) : Nat → Int := fun j => s (j : Int)
def mp_ud (s : Int → Int) (i x : Int) : Int → Int := fun j => if j = i then x else s j
theorem mp_ud_eq {s : Int → Int} {i x : Int} : mp_ud s i x i = x := if_pos rfl
theorem mp_ud_ne {s : Int → Int} {i x j : Int} (h : j ≠ i) : mp_ud s i x j = s j := if_neg h
theorem mp_F_at {s : Int → Int} {i : Int} (h : 0 ≤ i) : mp_F s i.toNat = s i := by show s (i.toNat : Int) = s i; rw [Int.toNat_of_nonneg h]
theorem mp_F_up {s : Int → Int} {i x : Int} (h : 0 ≤ i) : va_up (mp_F s) i.toNat x = mp_F (mp_ud s i x) := by
  funext j
  show (if j = i.toNat then x else s (j : Int)) = (if (j : Int) = i then x else s (j : Int))
  by_cases hj : j = i.toNat
  · rw [if_pos hj, if_pos (by omega)]
  · rw [if_neg hj, if_neg (by omega)]
section Rows
variable {Y : mp_Y} {K : Nat × Nat} {pc nx : Nat} {L : List (Option Value)} {st : List Value} {σ : mp_H} {A : mp_An}
theorem mp_iald {k n : Nat} {s : Int → Int} {i : Int} (hd : mp_dc Y.1 pc .iaload 1 nx) (hs : σ[k]? = some (mp_I n (mp_F s))) (hi : 0 ≤ i ∧ i < (n : Int)) (hn : n ≤ 2147483647) (kk : mp_At Y K nx L (mp_i (s i) :: st) σ A) : mp_At Y K pc L (mp_i i :: Value.ref k :: st) σ A :=
  mp_iaload hd hs hi hn (by rw [mp_F_at hi.1]; exact kk)
theorem mp_iast {k n : Nat} {s : Int → Int} {i x : Int} {σ' : mp_H} (hd : mp_dc Y.1 pc .iastore 1 nx) (hs : σ[k]? = some (mp_I n (mp_F s))) (h0 : 0 < k) (hi : 0 ≤ i ∧ i < (n : Int)) (hn : n ≤ 2147483647) (hσ : σ.set k (mp_I n (mp_F (mp_ud s i x))) = σ') (kk : mp_At Y K nx L st σ' A) : mp_At Y K pc L (mp_i x :: mp_i i :: Value.ref k :: st) σ A :=
  mp_iastore hd hs h0 hi hn (by rw [mp_F_up hi.1]; exact hσ) kk
end Rows
/-- a loop that counts up -/
def mp_fold {α : Type} (f : Int → α → α) : Nat → Int → α → α
  | 0, _, a => a
  | n + 1, i, a => mp_fold f n (i + 1) (f i a)
/-- sets of bits as Ints that are 0 or more -/
def mp_bit (k : Int) : Int := ((1 <<< k.toNat : Nat) : Int)
def mp_or (a b : Int) : Int := ((a.toNat ||| b.toNat : Nat) : Int)
def mp_and (a b : Int) : Int := ((a.toNat &&& b.toNat : Nat) : Int)
def mp_shr (a k : Int) : Int := ((a.toNat >>> k.toNat : Nat) : Int)
theorem mp_or_nn (a b : Int) : 0 ≤ mp_or a b := by unfold mp_or; omega
theorem mp_or_lt {a b : Int} {n : Nat} (ha : a < ((2 ^ n : Nat) : Int)) (hb : b < ((2 ^ n : Nat) : Int)) : mp_or a b < ((2 ^ n : Nat) : Int) := by
  have h0 : 0 < 2 ^ n := Nat.two_pow_pos n
  have := Nat.or_lt_two_pow (x := a.toNat) (y := b.toNat) (n := n) (by omega) (by omega)
  unfold mp_or; omega
theorem mp_or_0 {a : Int} (h : 0 ≤ a) : mp_or a 0 = a := by unfold mp_or; simp; omega
theorem mp_bit_nn (k : Int) : 0 ≤ mp_bit k := Int.natCast_nonneg _
theorem mp_bit_lt {k : Int} {n : Nat} (h : k < (n : Int)) (hn : 0 < n) : mp_bit k < ((2 ^ n : Nat) : Int) := by
  unfold mp_bit
  rw [Nat.one_shiftLeft]
  exact_mod_cast Nat.pow_lt_pow_right (by decide) (by omega)
theorem mp_ofn (n : Nat) : Int32.ofInt (n : Int) = Int32.ofNat n := Int32.ofInt_eq_ofNat
theorem mp_z_or {a b : Int} (ha : 0 ≤ a) (hb : 0 ≤ b) : Int32.ofInt a ||| Int32.ofInt b = Int32.ofInt (mp_or a b) := by
  obtain ⟨x, rfl⟩ := Int.eq_ofNat_of_zero_le ha
  obtain ⟨y, rfl⟩ := Int.eq_ofNat_of_zero_le hb
  unfold mp_or
  rw [Int.toNat_natCast, Int.toNat_natCast, mp_ofn, mp_ofn, mp_ofn]
  apply Int32.toBitVec_inj.mp
  simp only [Int32.toBitVec_or, Int32.toBitVec_ofNat', BitVec.ofNat_or]
theorem mp_z_and {a b : Int} (ha : 0 ≤ a) (hb : 0 ≤ b) : Int32.ofInt a &&& Int32.ofInt b = Int32.ofInt (mp_and a b) := by
  obtain ⟨x, rfl⟩ := Int.eq_ofNat_of_zero_le ha
  obtain ⟨y, rfl⟩ := Int.eq_ofNat_of_zero_le hb
  unfold mp_and
  rw [Int.toNat_natCast, Int.toNat_natCast, mp_ofn, mp_ofn, mp_ofn]
  apply Int32.toBitVec_inj.mp
  simp only [Int32.toBitVec_and, Int32.toBitVec_ofNat', BitVec.ofNat_and]
theorem mp_z_bit' : ∀ k : Fin 31, Int32.ofInt 1 <<< (Int32.ofInt (k.val : Int) &&& 31) = Int32.ofInt (mp_bit (k.val : Int)) := by decide +kernel
theorem mp_z_bit {k : Int} (h : 0 ≤ k ∧ k < 31) : Int32.ofInt 1 <<< (Int32.ofInt k &&& 31) = Int32.ofInt (mp_bit k) := by
  have h1 := mp_z_bit' ⟨k.toNat, by omega⟩
  rw [show ((k.toNat : Nat) : Int) = k by omega] at h1
  exact h1
/-- fewer locals -/
def mp_mask (L : List (Option Value)) (bs : List Bool) : List (Option Value) := L.zipWith (fun o b => if b then o else none) bs
theorem mp_drop {Y : mp_Y} {K : Nat × Nat} {pc : Nat} {L L' : List (Option Value)} {st : List Value} {σ : mp_H} {A : mp_An} (bs : List Bool) (h : mp_mask L bs = L') (k : mp_At Y K pc L' st σ A) : mp_At Y K pc L st σ A := by
  subst h
  intro G p l e Rm s m args below meth c C H locs ls hW hS hL
  refine k G p l e Rm s m args below meth c C H locs ls hW hS ⟨hL.1, hL.2.1, fun i v hi => hL.2.2 i v ?_⟩
  unfold mp_mask at hi
  rw [List.getElem?_zipWith] at hi
  cases h1 : L[i]? with
  | none => simp [h1] at hi
  | some o =>
    cases h2 : bs[i]? with
    | none => simp [h1, h2] at hi
    | some b =>
      cases b with
      | false => simp [h1, h2] at hi
      | true => simpa [h1, h2] using hi
/-- a local told in other words -/
theorem mp_loc {Y : mp_Y} {K : Nat × Nat} {pc : Nat} {L L' : List (Option Value)} {st : List Value} {σ : mp_H} {A : mp_An} {j : Nat} {x y : Int} (h : x = y) (hl : L[j]? = some (some (mp_i x))) (hl' : L.set j (some (mp_i y)) = L') (k : mp_At Y K pc L' st σ A) : mp_At Y K pc L st σ A := by
  subst h
  rw [show L.set j (some (mp_i x)) = L from ?_] at hl'
  · subst hl'; exact k
  · obtain ⟨h1, h2⟩ := List.getElem?_eq_some_iff.mp hl
    rw [← h2]
    exact List.set_getElem_self h1
/-- the top of the stack told in other words -/
theorem mp_top {Y : mp_Y} {K : Nat × Nat} {pc : Nat} {L : List (Option Value)} {st : List Value} {σ : mp_H} {A : mp_An} {x y : Int} (h : x = y) (k : mp_At Y K pc L (mp_i y :: st) σ A) : mp_At Y K pc L (mp_i x :: st) σ A := h ▸ k
theorem mp_nzb {q : Prop} [Decidable q] : narrow .boolean (mp_i (if q then 1 else 0)) = mp_i (if q then 1 else 0) := by
  by_cases h : q
  · rw [if_pos h]; rfl
  · rw [if_neg h]; rfl
theorem mp_mmax {Y : mp_Y} {K : Nat × Nat} {pc nx idx : Nat} {L : List (Option Value)} {st : List Value} {σ : mp_H} {A : mp_An} {a b z : Int} (hd : mp_dc Y.1 pc (.invokestatic idx) 3 nx) (hs : mp_SS Y.1.1.cls idx mJ9_max_7cf53 2) (h1 : 1 ≤ Y.2.1) (h8 : (st.map fun v => v.category).sum ≤ 8) (hK : K.1 ≤ Y.2.2.1 ∧ K.2 ≤ Y.2.2.2) (ha : mp_rg a) (hb : mp_rg b) (hz : (if a < b then b else a) = z) (kk : mp_At Y K nx L (mp_i z :: st) σ A) : mp_At Y K pc L (mp_i b :: mp_i a :: st) σ A := by
  subst hz
  obtain ⟨hd, rfl⟩ := hd
  obtain ⟨hb9, hstt, hlk⟩ := hs
  intro G p l e Rm s m args below meth c C H locs ls hW hS hL
  have hw := C.2.2.2.2.2.2.2.1
  obtain ⟨-, -, -, -, -, -, -, -, -, -, c1, c2, c3, c4⟩ := id C
  have hlk : Cond.methodLink Y.1.1.cls idx mJ9_max_7cf53.1 ∈ mp_gt := hlk.elim id (fun ⟨host, h⟩ => absurd h (by simp [mp_nest, mJ9_max_7cf53, yJ9_max_7cf53, yX5_init, yX11_isBelow, yX11_isSomebodyOrNobody, yX11_madeOf, yX11_hasBit, RJ9, RX5, RX11]))
  refine va_mmax C.1 C.2.1 (C.2.2.2.1.trans hL.1.symm) C.2.2.2.2.1 (hw _ hlk) (hw _ hstt) (hw _ hb9.2.1) (hw _ hb9.1) (by omega) (by rw [mp_catsum]; omega) (by omega) (by omega) hd ?_
  have k := kk G p l e Rm s m args below meth c C H locs ls hW hS hL
  have e : (if Int32.ofInt a < Int32.ofInt b then Int32.ofInt b else Int32.ofInt a) = Int32.ofInt (if a < b then b else a) := by
    by_cases hc : a < b
    · rw [if_pos hc, if_pos (mp_lt ha hb|>.mpr hc)]
    · rw [if_neg hc, if_neg (fun h => hc ((mp_lt ha hb).mp h))]
  rw [e]
  exact k
theorem mp_mmin {Y : mp_Y} {K : Nat × Nat} {pc nx idx : Nat} {L : List (Option Value)} {st : List Value} {σ : mp_H} {A : mp_An} {a b z : Int} (hd : mp_dc Y.1 pc (.invokestatic idx) 3 nx) (hs : mp_SS Y.1.1.cls idx mJ9_min_7cf53 2) (h1 : 1 ≤ Y.2.1) (h8 : (st.map fun v => v.category).sum ≤ 8) (hK : K.1 ≤ Y.2.2.1 ∧ K.2 ≤ Y.2.2.2) (ha : mp_rg a) (hb : mp_rg b) (hz : (if b < a then b else a) = z) (kk : mp_At Y K nx L (mp_i z :: st) σ A) : mp_At Y K pc L (mp_i b :: mp_i a :: st) σ A := by
  subst hz
  obtain ⟨hd, rfl⟩ := hd
  obtain ⟨hb9, hstt, hlk⟩ := hs
  intro G p l e Rm s m args below meth c C H locs ls hW hS hL
  have hw := C.2.2.2.2.2.2.2.1
  obtain ⟨-, -, -, -, -, -, -, -, -, -, c1, c2, c3, c4⟩ := id C
  have hlk : Cond.methodLink Y.1.1.cls idx mJ9_min_7cf53.1 ∈ mp_gt := hlk.elim id (fun ⟨host, h⟩ => absurd h (by simp [mp_nest, mJ9_min_7cf53, yJ9_min_7cf53, yX5_init, yX11_isBelow, yX11_isSomebodyOrNobody, yX11_madeOf, yX11_hasBit, RJ9, RX5, RX11]))
  refine va_mmin C.1 C.2.1 (C.2.2.2.1.trans hL.1.symm) C.2.2.2.2.1 (hw _ hlk) (hw _ hstt) (hw _ hb9.2.1) (hw _ hb9.1) (by omega) (by rw [mp_catsum]; omega) (by omega) (by omega) hd ?_
  have k := kk G p l e Rm s m args below meth c C H locs ls hW hS hL
  have e : (if Int32.ofInt b < Int32.ofInt a then Int32.ofInt b else Int32.ofInt a) = Int32.ofInt (if b < a then b else a) := by
    by_cases hc : b < a
    · rw [if_pos hc, if_pos (mp_lt hb ha|>.mpr hc)]
    · rw [if_neg hc, if_neg (fun h => hc ((mp_lt hb ha).mp h))]
  rw [e]
  exact k
theorem mp_mabs {Y : mp_Y} {K : Nat × Nat} {pc nx idx : Nat} {L : List (Option Value)} {st : List Value} {σ : mp_H} {A : mp_An} {a z : Int} (hd : mp_dc Y.1 pc (.invokestatic idx) 3 nx) (hs : mp_SS Y.1.1.cls idx mJ9_abs_0f7a4 1) (h1 : 1 ≤ Y.2.1) (h8 : (st.map fun v => v.category).sum ≤ 8) (hK : K.1 ≤ Y.2.2.1 ∧ K.2 ≤ Y.2.2.2) (ha : mp_rg a) (hz : (if 0 ≤ a then a else -a) = z) (kk : mp_At Y K nx L (mp_i z :: st) σ A) : mp_At Y K pc L (mp_i a :: st) σ A := by
  subst hz
  obtain ⟨hd, rfl⟩ := hd
  obtain ⟨hb9, hstt, hlk⟩ := hs
  intro G p l e Rm s m args below meth c C H locs ls hW hS hL
  have hw := C.2.2.2.2.2.2.2.1
  obtain ⟨-, -, -, -, -, -, -, -, -, -, c1, c2, c3, c4⟩ := id C
  have hlk : Cond.methodLink Y.1.1.cls idx mJ9_abs_0f7a4.1 ∈ mp_gt := hlk.elim id (fun ⟨host, h⟩ => absurd h (by simp [mp_nest, mJ9_abs_0f7a4, yJ9_abs_0f7a4, yX5_init, yX11_isBelow, yX11_isSomebodyOrNobody, yX11_madeOf, yX11_hasBit, RJ9, RX5, RX11]))
  refine va_mabs C.1 C.2.1 (C.2.2.2.1.trans hL.1.symm) C.2.2.2.2.1 (hw _ hlk) (hw _ hstt) (hw _ hb9.2.1) (hw _ hb9.1) (by omega) (by rw [mp_catsum]; omega) (by omega) (by omega) hd ?_
  have k := kk G p l e Rm s m args below meth c C H locs ls hW hS hL
  have e : (if 0 ≤ Int32.ofInt a then Int32.ofInt a else 0 - Int32.ofInt a) = Int32.ofInt (if 0 ≤ a then a else -a) := by
    by_cases hc : 0 ≤ a
    · rw [if_pos hc, if_pos (show (0 : Int32) ≤ Int32.ofInt a from (mp_le mp_rg0 ha).mpr hc)]
    · rw [if_neg hc, if_neg (show ¬ (0 : Int32) ≤ Int32.ofInt a from fun h => hc ((mp_le mp_rg0 ha).mp h)), Int32.ofInt_neg, Int32.zero_sub]
  rw [e]
  exact k
theorem pnX0 : plainName RX0 = true := by decide +kernel
theorem pnX1 : plainName RX1 = true := by decide +kernel
theorem pnX2 : plainName RX2 = true := by decide +kernel
theorem pnX3 : plainName RX3 = true := by decide +kernel
theorem pnX4 : plainName RX4 = true := by decide +kernel
theorem pnX5 : plainName RX5 = true := by decide +kernel
theorem pnX6 : plainName RX6 = true := by decide +kernel
theorem pnX7 : plainName RX7 = true := by decide +kernel
theorem pnX8 : plainName RX8 = true := by decide +kernel
theorem pnX9 : plainName RX9 = true := by decide +kernel
theorem pnX10 : plainName RX10 = true := by decide +kernel
theorem pnX11 : plainName RX11 = true := by decide +kernel
theorem pnX12 : plainName RX12 = true := by decide +kernel
theorem pnJ6 : plainName RJ6 = true := by decide +kernel
theorem pnJ7 : plainName RJ7 = true := by decide +kernel
section Calls2
variable {Y : mp_Y} {K K' : Nat × Nat} {pc nx : Nat} {L : List (Option Value)} {st st0 st1 : List Value} {σ σ1 : mp_H} {A : mp_An} {z : mp_Y} {as : List Value} {A1 : mp_An} {idx : Nat}
theorem mp_invS (hd : mp_dc Y.1 pc (.invokestatic idx) 3 nx) (hs : mp_SS Y.1.1.cls idx z.1 as.length) (hc : mp_Call z as σ A1) (hR : mp_rmOk Y K z st) (h0 : as.reverse ++ st = st0) (h1 : A1.1.toList ++ st = st1) (hK : (K.1 + z.2.2.1, K.2 + z.2.2.2) = K') (hσ : A1.2 = σ1) (kk : mp_At Y K' nx L st1 σ1 A) : mp_At Y K pc L st0 σ A := mp_invokestatic hd hs hc hR h0 h1 hK (by rw [hσ]; exact kk)
theorem mp_invV {k ci : Nat} {fs : List Value} {r : vw_C} (hd : mp_dc Y.1 pc (.invokevirtual idx) 3 nx) (hs : mp_SV Y.1.1.cls idx z.1 as.length) (ho : σ[k]? = some (mp_O ci fs)) (hr : mp_cl[ci]? = some r) (hrc : r.1 = z.1.1.cls) (hc : mp_Call z (Value.ref k :: as) σ A1) (hR : mp_rmOk Y K z st) (h0 : as.reverse ++ Value.ref k :: st = st0) (h1 : A1.1.toList ++ st = st1) (hK : (K.1 + z.2.2.1, K.2 + z.2.2.2) = K') (hσ : A1.2 = σ1) (kk : mp_At Y K' nx L st1 σ1 A) : mp_At Y K pc L st0 σ A := mp_invokevirtual hd hs ho hr hrc hc hR h0 h1 hK (by rw [hσ]; exact kk)
theorem mp_invO {k ci : Nat} {fs : List Value} {r : vw_C} {x : mp_M} (hd : mp_dc Y.1 pc (.invokevirtual idx) 3 nx) (hs : mp_SU Y.1.1.cls idx x r.1 z.1 as.length) (ho : σ[k]? = some (mp_O ci fs)) (hr : mp_cl[ci]? = some r) (hc : mp_Call z (Value.ref k :: as) σ A1) (hR : mp_rmOk Y K z st) (h0 : as.reverse ++ Value.ref k :: st = st0) (h1 : A1.1.toList ++ st = st1) (hK : (K.1 + z.2.2.1, K.2 + z.2.2.2) = K') (hσ : A1.2 = σ1) (kk : mp_At Y K' nx L st1 σ1 A) : mp_At Y K pc L st0 σ A := mp_invokeover hd hs ho hr hc hR h0 h1 hK (by rw [hσ]; exact kk)
theorem mp_invI {k : Nat} (hd : mp_dc Y.1 pc (.invokespecial idx) 3 nx) (hs : mp_SI Y.1.1.cls idx z.1 as.length) (hc : mp_Call z (Value.ref k :: as) σ A1) (hR : mp_rmOk Y K z st) (h0 : as.reverse ++ Value.ref k :: st = st0) (h1 : A1.1.toList ++ st = st1) (hK : (K.1 + z.2.2.1, K.2 + z.2.2.2) = K') (hσ : A1.2 = σ1) (kk : mp_At Y K' nx L st1 σ1 A) : mp_At Y K pc L st0 σ A := mp_invokeinit hd hs hc hR h0 h1 hK (by rw [hσ]; exact kk)
theorem mp_invP {k ci : Nat} {fs : List Value} {r : vw_C} (hd : mp_dc Y.1 pc (.invokespecial idx) 3 nx) (hs : mp_SP Y.1.1.cls idx z.1 as.length) (ho : σ[k]? = some (mp_O ci fs)) (hr : mp_cl[ci]? = some r) (hc : mp_Call z (Value.ref k :: as) σ A1) (hR : mp_rmOk Y K z st) (h0 : as.reverse ++ Value.ref k :: st = st0) (h1 : A1.1.toList ++ st = st1) (hK : (K.1 + z.2.2.1, K.2 + z.2.2.2) = K') (hσ : A1.2 = σ1) (kk : mp_At Y K' nx L st1 σ1 A) : mp_At Y K pc L st0 σ A := mp_invokesuper hd hs ho hr hc hR h0 h1 hK (by rw [hσ]; exact kk)
end Calls2
