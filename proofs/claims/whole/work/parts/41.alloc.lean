/-! ===== heaps that grow: A ++ cells, the first of them at place a ===== -/
theorem mp_lkG {A Ms : mp_H} {a : Nat} (hA : A.length = a) (j : Nat) {c : mp_C} (h : Ms[j]? = some c) : (A ++ Ms)[a + j]? = some c := by
  rw [List.getElem?_append_right (by omega), hA, Nat.add_sub_cancel_left]; exact h
theorem mp_stG {A Ms Ms' : mp_H} {a : Nat} (hA : A.length = a) (j : Nat) {c : mp_C} (h : Ms.set j c = Ms') : (A ++ Ms).set (a + j) c = A ++ Ms' := by
  rw [List.set_append_right _ _ (by omega), hA, Nat.add_sub_cancel_left, h]
theorem mp_lnG {A Ms : mp_H} {a n : Nat} (hA : A.length = a) (h : a + Ms.length = n) : (A ++ Ms).length = n := by rw [List.length_append, hA, h]
theorem mp_apG {A Ms Ms' : mp_H} {c : mp_C} (h : Ms ++ [c] = Ms') : A ++ Ms ++ [c] = A ++ Ms' := by rw [List.append_assoc, h]
section
variable {Y : mp_Y} {K : Nat × Nat} {pc nx : Nat} {L : List (Option Value)} {st : List Value} {σ : mp_H} {A : mp_An}
theorem mp_newIk {n k : Nat} {i : Int} {σ' : mp_H} {K' : Nat × Nat} (hd : mp_dc Y.1 pc (.newarray .int) 2 nx) (hi : i = (n : Int)) (hn : n ≤ 1000) (hk : K.1 + 1 ≤ Y.2.2.1 ∧ K.2 + n ≤ Y.2.2.2) (hK' : (K.1 + 1, K.2 + n) = K') (hl : σ.length = k) (hσ : σ ++ [mp_I n (mp_F (fun _ => 0))] = σ') (kk : mp_At Y K' nx L (Value.ref k :: st) σ' A) : mp_At Y K pc L (mp_i i :: st) σ A :=
  mp_newI hd hi hn hk hK' hσ (by rw [hl]; exact kk)
theorem mp_newRk {t n idx k : Nat} {i : Int} {σ' : mp_H} {K' : Nat × Nat} (hd : mp_dc Y.1 pc (.anewarray idx) 3 nx) (ht : t < 2) (hl : Cond.classLink Y.1.1.cls idx (if t = 0 then RX4 else RX5) ∈ mp_gt) (hi : i = (n : Int)) (hn : n ≤ 1000) (hk : K.1 + 1 ≤ Y.2.2.1 ∧ K.2 + n ≤ Y.2.2.2) (hK' : (K.1 + 1, K.2 + n) = K') (hln : σ.length = k) (hσ : σ ++ [mp_R t n (fun _ => none)] = σ') (kk : mp_At Y K' nx L (Value.ref k :: st) σ' A) : mp_At Y K pc L (mp_i i :: st) σ A :=
  mp_newR hd ht hl hi hn hk hK' hσ (by rw [hln]; exact kk)
theorem mp_newk {ci idx n k : Nat} {fs : List Value} {σ' : mp_H} {K' : Nat × Nat} {r : vw_C} (hd : mp_dc Y.1 pc (.new idx) 3 nx) (hf : mp_NS Y.1.1.cls idx ci) (hr : mp_cl[ci]? = some r) (hn : r.2.2 = n) (hfs : ∀ (G : mp_G) (j : Nat), j < n → (parseFieldDescriptor (r.2.1 j).2.2.1).map defaultValue = some (vp_V (fs.map (mp_tr G)) j)) (hk : K.1 + 1 ≤ Y.2.2.1 ∧ K.2 + n ≤ Y.2.2.2) (hK' : (K.1 + 1, K.2 + n) = K') (hln : σ.length = k) (hσ : σ ++ [mp_O ci fs] = σ') (kk : mp_At Y K' nx L (Value.ref k :: st) σ' A) : mp_At Y K pc L st σ A :=
  mp_new hd hf hr hn hfs hk hK' hσ (by rw [hln]; exact kk)
end
def sp_s0 : Int → Int := mp_fold (fun l p => mp_ud (mp_ud (mp_ud p (49 + 3 * l + 0) (3 * l)) (49 + 3 * l + 1) 5) (49 + 3 * l + 2) 9) 5 0 (fun _ => 0)
