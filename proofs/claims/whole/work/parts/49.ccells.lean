/-! ===== the class's cells: places 1 .. 43 ===== -/
def mp_rwf (j : Nat) : Option Nat := if j < 8 then some (28 + 2 * j) else none
def mp_csA (im : Int) : mp_H := [mp_O 10 [.ref 2, .ref 8, .ref 14, mp_i im, .ref 20, .ref 21, .ref 22, .ref 23, .ref 24, .ref 25, .ref 26, .ref 27]]
def mp_csT (hd : Int → Int) (kn : Nat → Option Nat) (wd ak ke cv vo : Int → Int) : mp_H := [mp_I 8 (mp_F hd), mp_R 0 8 kn, mp_R 1 8 mp_rwf, mp_I 5 (mp_F wd), mp_I 5 (mp_F ak), mp_I 8 (mp_F ke), mp_I 16 (mp_F cv), mp_I 16 (mp_F vo)]
def mp_rws (so sz el : Int → Int) : mp_H := mp_rw 28 (so 0) (sz 0) (sp_elm el 0) ++ (mp_rw 30 (so 1) (sz 1) (sp_elm el 1) ++ (mp_rw 32 (so 2) (sz 2) (sp_elm el 2) ++ (mp_rw 34 (so 3) (sz 3) (sp_elm el 3) ++ (mp_rw 36 (so 4) (sz 4) (sp_elm el 4) ++ (mp_rw 38 (so 5) (sz 5) (sp_elm el 5) ++ (mp_rw 40 (so 6) (sz 6) (sp_elm el 6) ++ mp_rw 42 (so 7) (sz 7) (sp_elm el 7)))))))
def mp_cs (s si sp : Int → Int) (f fi fp : Nat → Option Nat) (im : Int) (hd : Int → Int) (kn : Nat → Option Nat) (wd ak ke cv vo so sz el : Int → Int) : mp_H :=
  mp_csA im ++ (mp_sk 2 s f ++ (mp_sk 8 si fi ++ (mp_sk 14 sp fp ++ (mp_csT hd kn wd ak ke cv vo ++ mp_rws so sz el))))
theorem mp_nm.app {M N : mp_H} (h : mp_nm M) (h2 : mp_nm N) : mp_nm (M ++ N) := fun j c vs hc e => by
  by_cases hj : j < M.length
  · rw [List.getElem?_append_left hj] at e; exact h j c vs hc e
  · rw [List.getElem?_append_right (by omega)] at e; exact h2 _ c vs hc e
theorem mp_nm_A {im : Int} : mp_nm (mp_csA im) := fun j c vs hc h => by
  match j, h with
  | 0, h => exact absurd (congrArg (fun o : Option mp_C => match o with | some (.inl q) => q.1 | _ => 0) h) (by show ¬ 10 = c; omega)
  | j + 1, h => cases h
theorem mp_nm_rw {p : Nat} {o z : Int} {e : Int → Int} : mp_nm (mp_rw p o z e) := fun j c vs hc h => by
  match j, h with
  | 0, h => exact absurd (congrArg (fun o : Option mp_C => match o with | some (.inl q) => q.1 | _ => 0) h) (by show ¬ 9 = c; omega)
  | 1, h => cases h
  | j + 2, h => cases h
theorem mp_nm_T {hd : Int → Int} {kn : Nat → Option Nat} {wd ak ke cv vo : Int → Int} : mp_nm (mp_csT hd kn wd ak ke cv vo) := fun j c vs hc h => by
  match j, h with
  | 0, h => cases h
  | 1, h => cases h
  | 2, h => cases h
  | 3, h => cases h
  | 4, h => cases h
  | 5, h => cases h
  | 6, h => cases h
  | 7, h => cases h
  | j + 8, h => cases h
theorem mp_nm_rws {so sz el : Int → Int} : mp_nm (mp_rws so sz el) := mp_nm_rw.app (mp_nm_rw.app (mp_nm_rw.app (mp_nm_rw.app (mp_nm_rw.app (mp_nm_rw.app (mp_nm_rw.app mp_nm_rw))))))
section
variable {s s' si si' sp sp' : Int → Int} {f f' fi fi' fp fp' : Nat → Option Nat} {im im' : Int} {hd hd' : Int → Int} {kn kn' : Nat → Option Nat} {wd wd' ak ak' ke ke' cv cv' vo vo' so so' sz sz' el el' : Int → Int} {A B : mp_H}
theorem mp_nm_cs : mp_nm (mp_cs s si sp f fi fp im hd kn wd ak ke cv vo so sz el) := mp_nm_A.app (mp_nm_sk.app (mp_nm_sk.app (mp_nm_sk.app (mp_nm_T.app mp_nm_rws))))
/-- METEORS stay, whatever the class writes in its own cells -/
theorem mp_stay_cs : mp_stay (A ++ (mp_cs s si sp f fi fp im hd kn wd ak ke cv vo so sz el ++ B)) (A ++ (mp_cs s' si' sp' f' fi' fp' im' hd' kn' wd' ak' ke' cv' vo' so' sz' el' ++ B)) := mp_stay.mid rfl mp_nm_cs
theorem mp_skC2 (hA : A.length = 1) : mp_skC (A ++ (mp_cs s si sp f fi fp im hd kn wd ak ke cv vo so sz el ++ B)) 2 s f := ⟨mp_lkP hA 1 rfl, mp_lkP hA 2 rfl, mp_lkP hA 3 rfl, mp_lkP hA 4 rfl, mp_lkP hA 5 rfl, mp_lkP hA 6 rfl, trivial⟩
theorem mp_skC8 (hA : A.length = 1) : mp_skC (A ++ (mp_cs s si sp f fi fp im hd kn wd ak ke cv vo so sz el ++ B)) 8 si fi := ⟨mp_lkP hA 7 rfl, mp_lkP hA 8 rfl, mp_lkP hA 9 rfl, mp_lkP hA 10 rfl, mp_lkP hA 11 rfl, mp_lkP hA 12 rfl, trivial⟩
theorem mp_skC14 (hA : A.length = 1) : mp_skC (A ++ (mp_cs s si sp f fi fp im hd kn wd ak ke cv vo so sz el ++ B)) 14 sp fp := ⟨mp_lkP hA 13 rfl, mp_lkP hA 14 rfl, mp_lkP hA 15 rfl, mp_lkP hA 16 rfl, mp_lkP hA 17 rfl, mp_lkP hA 18 rfl, trivial⟩
/-! the class's cells around one of its skies -/
theorem mp_cs2 : (A ++ mp_csA im) ++ (mp_sk 2 s f ++ ((mp_sk 8 si fi ++ (mp_sk 14 sp fp ++ (mp_csT hd kn wd ak ke cv vo ++ mp_rws so sz el))) ++ B)) = A ++ (mp_cs s si sp f fi fp im hd kn wd ak ke cv vo so sz el ++ B) := by
  unfold mp_cs; simp only [List.append_assoc]
theorem mp_cs8 : (A ++ (mp_csA im ++ mp_sk 2 s f)) ++ (mp_sk 8 si fi ++ ((mp_sk 14 sp fp ++ (mp_csT hd kn wd ak ke cv vo ++ mp_rws so sz el)) ++ B)) = A ++ (mp_cs s si sp f fi fp im hd kn wd ak ke cv vo so sz el ++ B) := by
  unfold mp_cs; simp only [List.append_assoc]
theorem mp_cs14 : (A ++ (mp_csA im ++ (mp_sk 2 s f ++ mp_sk 8 si fi))) ++ (mp_sk 14 sp fp ++ ((mp_csT hd kn wd ak ke cv vo ++ mp_rws so sz el) ++ B)) = A ++ (mp_cs s si sp f fi fp im hd kn wd ak ke cv vo so sz el ++ B) := by
  unfold mp_cs; simp only [List.append_assoc]
theorem mp_ln2 (hA : A.length = 1) : (A ++ mp_csA im).length = 2 := by rw [List.length_append, hA]; rfl
theorem mp_ln8 (hA : A.length = 1) : (A ++ (mp_csA im ++ mp_sk 2 s f)).length = 8 := by rw [List.length_append, hA]; rfl
theorem mp_ln14 (hA : A.length = 1) : (A ++ (mp_csA im ++ (mp_sk 2 s f ++ mp_sk 8 si fi))).length = 14 := by rw [List.length_append, hA]; rfl
theorem mp_csPush {c : mp_C} : A ++ (mp_cs s si sp f fi fp im hd kn wd ak ke cv vo so sz el ++ B) ++ [c] = A ++ (mp_cs s si sp f fi fp im hd kn wd ak ke cv vo so sz el ++ (B ++ [c])) := by simp only [List.append_assoc]
theorem mp_cs_len (hA : A.length = 1) : (A ++ (mp_cs s si sp f fi fp im hd kn wd ak ke cv vo so sz el ++ B)).length = 44 + B.length := by
  rw [List.length_append, List.length_append, hA, show (mp_cs s si sp f fi fp im hd kn wd ak ke cv vo so sz el).length = 43 from rfl]; omega
/-- writing into the rows of a sky's LOOKERS, its FOR -/
theorem mp_cs_r14 {l x : Int} (h : 0 ≤ l ∧ l ≤ 4) : (mp_cs s si sp f fi fp im hd kn wd ak ke cv vo so sz el).set 16 (mp_I 5 (mp_F (mp_ud (sp_rof sp) l x))) = mp_cs s si (mp_ud sp (49 + 3 * l + 0) x) f fi fp im hd kn wd ak ke cv vo so sz el := by
  unfold mp_cs; rw [← mp_sk_rof h]; rfl
theorem mp_cs_q14 {l x : Int} (h : 0 ≤ l ∧ l ≤ 4) : (mp_cs s si sp f fi fp im hd kn wd ak ke cv vo so sz el).set 17 (mp_I 5 (mp_F (mp_ud (sp_qui sp) l x))) = mp_cs s si (mp_ud sp (49 + 3 * l + 1) x) f fi fp im hd kn wd ak ke cv vo so sz el := by
  unfold mp_cs; rw [← mp_sk_qui h]; rfl
theorem mp_cs_f2 {j x : Int} (h : 0 ≤ j ∧ j ≤ 7) : (mp_cs s si sp f fi fp im hd kn wd ak ke cv vo so sz el).set 3 (mp_I 8 (mp_F (mp_ud (sp_isf s) j x))) = mp_cs (mp_ud s (1 + 6 * j + 5) x) si sp f fi fp im hd kn wd ak ke cv vo so sz el := by
  unfold mp_cs; rw [← mp_sk_isf h]; rfl
/-- one of the class's rows -/
theorem mp_csR0 (hA : A.length = 1) {d : Int} (h : 0 ≤ d ∧ d ≤ 7) : (A ++ (mp_cs s si sp f fi fp im hd kn wd ak ke cv vo so sz el ++ B))[28 + 2 * Int.toNat d]? = some (mp_O 9 [.ref (28 + 2 * Int.toNat d + 1), mp_i (so d), mp_i (sz d)]) := by
  obtain rfl | rfl | rfl | rfl | rfl | rfl | rfl | rfl := mp_kdc h
  · exact mp_lkP hA 27 rfl
  · exact mp_lkP hA 29 rfl
  · exact mp_lkP hA 31 rfl
  · exact mp_lkP hA 33 rfl
  · exact mp_lkP hA 35 rfl
  · exact mp_lkP hA 37 rfl
  · exact mp_lkP hA 39 rfl
  · exact mp_lkP hA 41 rfl
theorem mp_csR1 (hA : A.length = 1) {d : Int} (h : 0 ≤ d ∧ d ≤ 7) : (A ++ (mp_cs s si sp f fi fp im hd kn wd ak ke cv vo so sz el ++ B))[28 + 2 * Int.toNat d + 1]? = some (mp_I 100 (mp_F (sp_elm el d))) := by
  obtain rfl | rfl | rfl | rfl | rfl | rfl | rfl | rfl := mp_kdc h
  · exact mp_lkP hA 28 rfl
  · exact mp_lkP hA 30 rfl
  · exact mp_lkP hA 32 rfl
  · exact mp_lkP hA 34 rfl
  · exact mp_lkP hA 36 rfl
  · exact mp_lkP hA 38 rfl
  · exact mp_lkP hA 40 rfl
  · exact mp_lkP hA 42 rfl
theorem mp_rwf_in {d : Int} (h : 0 ≤ d ∧ d ≤ 7) : mp_rwf (Int.toNat d) = some (28 + 2 * Int.toNat d) := if_pos (by omega)
/-- rows that agree but for the d-th -/
def mp_alk (d : Int) (so so' sz sz' el el' : Int → Int) : Prop := ∀ j, 0 ≤ j → j ≤ 7 → j ≠ d → so' j = so j ∧ sz' j = sz j ∧ sp_elm el' j = sp_elm el j
theorem mp_csRow (hA : A.length = 1) {d : Int} (h : 0 ≤ d ∧ d ≤ 7) : ∃ A' B', A'.length = 28 + 2 * Int.toNat d ∧ ∀ so' sz' el', mp_alk d so so' sz sz' el el' → A' ++ (mp_rw (28 + 2 * Int.toNat d) (so' d) (sz' d) (sp_elm el' d) ++ B') = A ++ (mp_cs s si sp f fi fp im hd kn wd ak ke cv vo so' sz' el' ++ B) := by
  have key : ∀ (P R : mp_H) (d : Int), 0 ≤ d ∧ d ≤ 7 → P.length = 2 * Int.toNat d → (∀ so' sz' el', mp_alk d so so' sz sz' el el' → P ++ (mp_rw (28 + 2 * Int.toNat d) (so' d) (sz' d) (sp_elm el' d) ++ R) = mp_rws so' sz' el') → ∃ A' B', A'.length = 28 + 2 * Int.toNat d ∧ ∀ so' sz' el', mp_alk d so so' sz sz' el el' → A' ++ (mp_rw (28 + 2 * Int.toNat d) (so' d) (sz' d) (sp_elm el' d) ++ B') = A ++ (mp_cs s si sp f fi fp im hd kn wd ak ke cv vo so' sz' el' ++ B) := by
    intro P R d _ hP e
    refine ⟨A ++ (mp_csA im ++ (mp_sk 2 s f ++ (mp_sk 8 si fi ++ (mp_sk 14 sp fp ++ (mp_csT hd kn wd ak ke cv vo ++ P))))), R ++ B, ?_, fun so' sz' el' ha => ?_⟩
    · simp only [List.length_append, hA, hP]
      show 1 + (1 + (6 + (6 + (6 + (8 + 2 * Int.toNat d))))) = 28 + 2 * Int.toNat d
      omega
    · unfold mp_cs
      rw [← e so' sz' el' ha]
      simp only [List.append_assoc]
  obtain rfl | rfl | rfl | rfl | rfl | rfl | rfl | rfl := mp_kdc h
  · refine key [] (mp_rw 30 (so 1) (sz 1) (sp_elm el 1) ++ (mp_rw 32 (so 2) (sz 2) (sp_elm el 2) ++ (mp_rw 34 (so 3) (sz 3) (sp_elm el 3) ++ (mp_rw 36 (so 4) (sz 4) (sp_elm el 4) ++ (mp_rw 38 (so 5) (sz 5) (sp_elm el 5) ++ (mp_rw 40 (so 6) (sz 6) (sp_elm el 6) ++ mp_rw 42 (so 7) (sz 7) (sp_elm el 7))))))) 0 h rfl (fun so' sz' el' a => ?_)
    obtain ⟨a1, b1, c1⟩ := a 1 (by decide) (by decide) (by decide)
    obtain ⟨a2, b2, c2⟩ := a 2 (by decide) (by decide) (by decide)
    obtain ⟨a3, b3, c3⟩ := a 3 (by decide) (by decide) (by decide)
    obtain ⟨a4, b4, c4⟩ := a 4 (by decide) (by decide) (by decide)
    obtain ⟨a5, b5, c5⟩ := a 5 (by decide) (by decide) (by decide)
    obtain ⟨a6, b6, c6⟩ := a 6 (by decide) (by decide) (by decide)
    obtain ⟨a7, b7, c7⟩ := a 7 (by decide) (by decide) (by decide)
    unfold mp_rws
    rw [a1, a2, a3, a4, a5, a6, a7, b1, b2, b3, b4, b5, b6, b7, c1, c2, c3, c4, c5, c6, c7]
    rfl
  · refine key (mp_rw 28 (so 0) (sz 0) (sp_elm el 0)) (mp_rw 32 (so 2) (sz 2) (sp_elm el 2) ++ (mp_rw 34 (so 3) (sz 3) (sp_elm el 3) ++ (mp_rw 36 (so 4) (sz 4) (sp_elm el 4) ++ (mp_rw 38 (so 5) (sz 5) (sp_elm el 5) ++ (mp_rw 40 (so 6) (sz 6) (sp_elm el 6) ++ (mp_rw 42 (so 7) (sz 7) (sp_elm el 7))))))) 1 h rfl (fun so' sz' el' a => ?_)
    obtain ⟨a0, b0, c0⟩ := a 0 (by decide) (by decide) (by decide)
    obtain ⟨a2, b2, c2⟩ := a 2 (by decide) (by decide) (by decide)
    obtain ⟨a3, b3, c3⟩ := a 3 (by decide) (by decide) (by decide)
    obtain ⟨a4, b4, c4⟩ := a 4 (by decide) (by decide) (by decide)
    obtain ⟨a5, b5, c5⟩ := a 5 (by decide) (by decide) (by decide)
    obtain ⟨a6, b6, c6⟩ := a 6 (by decide) (by decide) (by decide)
    obtain ⟨a7, b7, c7⟩ := a 7 (by decide) (by decide) (by decide)
    unfold mp_rws
    rw [a0, a2, a3, a4, a5, a6, a7, b0, b2, b3, b4, b5, b6, b7, c0, c2, c3, c4, c5, c6, c7]
    rfl
  · refine key (mp_rw 28 (so 0) (sz 0) (sp_elm el 0) ++ (mp_rw 30 (so 1) (sz 1) (sp_elm el 1))) (mp_rw 34 (so 3) (sz 3) (sp_elm el 3) ++ (mp_rw 36 (so 4) (sz 4) (sp_elm el 4) ++ (mp_rw 38 (so 5) (sz 5) (sp_elm el 5) ++ (mp_rw 40 (so 6) (sz 6) (sp_elm el 6) ++ (mp_rw 42 (so 7) (sz 7) (sp_elm el 7)))))) 2 h rfl (fun so' sz' el' a => ?_)
    obtain ⟨a0, b0, c0⟩ := a 0 (by decide) (by decide) (by decide)
    obtain ⟨a1, b1, c1⟩ := a 1 (by decide) (by decide) (by decide)
    obtain ⟨a3, b3, c3⟩ := a 3 (by decide) (by decide) (by decide)
    obtain ⟨a4, b4, c4⟩ := a 4 (by decide) (by decide) (by decide)
    obtain ⟨a5, b5, c5⟩ := a 5 (by decide) (by decide) (by decide)
    obtain ⟨a6, b6, c6⟩ := a 6 (by decide) (by decide) (by decide)
    obtain ⟨a7, b7, c7⟩ := a 7 (by decide) (by decide) (by decide)
    unfold mp_rws
    rw [a0, a1, a3, a4, a5, a6, a7, b0, b1, b3, b4, b5, b6, b7, c0, c1, c3, c4, c5, c6, c7]
    rfl
  · refine key (mp_rw 28 (so 0) (sz 0) (sp_elm el 0) ++ (mp_rw 30 (so 1) (sz 1) (sp_elm el 1) ++ (mp_rw 32 (so 2) (sz 2) (sp_elm el 2)))) (mp_rw 36 (so 4) (sz 4) (sp_elm el 4) ++ (mp_rw 38 (so 5) (sz 5) (sp_elm el 5) ++ (mp_rw 40 (so 6) (sz 6) (sp_elm el 6) ++ (mp_rw 42 (so 7) (sz 7) (sp_elm el 7))))) 3 h rfl (fun so' sz' el' a => ?_)
    obtain ⟨a0, b0, c0⟩ := a 0 (by decide) (by decide) (by decide)
    obtain ⟨a1, b1, c1⟩ := a 1 (by decide) (by decide) (by decide)
    obtain ⟨a2, b2, c2⟩ := a 2 (by decide) (by decide) (by decide)
    obtain ⟨a4, b4, c4⟩ := a 4 (by decide) (by decide) (by decide)
    obtain ⟨a5, b5, c5⟩ := a 5 (by decide) (by decide) (by decide)
    obtain ⟨a6, b6, c6⟩ := a 6 (by decide) (by decide) (by decide)
    obtain ⟨a7, b7, c7⟩ := a 7 (by decide) (by decide) (by decide)
    unfold mp_rws
    rw [a0, a1, a2, a4, a5, a6, a7, b0, b1, b2, b4, b5, b6, b7, c0, c1, c2, c4, c5, c6, c7]
    rfl
  · refine key (mp_rw 28 (so 0) (sz 0) (sp_elm el 0) ++ (mp_rw 30 (so 1) (sz 1) (sp_elm el 1) ++ (mp_rw 32 (so 2) (sz 2) (sp_elm el 2) ++ (mp_rw 34 (so 3) (sz 3) (sp_elm el 3))))) (mp_rw 38 (so 5) (sz 5) (sp_elm el 5) ++ (mp_rw 40 (so 6) (sz 6) (sp_elm el 6) ++ (mp_rw 42 (so 7) (sz 7) (sp_elm el 7)))) 4 h rfl (fun so' sz' el' a => ?_)
    obtain ⟨a0, b0, c0⟩ := a 0 (by decide) (by decide) (by decide)
    obtain ⟨a1, b1, c1⟩ := a 1 (by decide) (by decide) (by decide)
    obtain ⟨a2, b2, c2⟩ := a 2 (by decide) (by decide) (by decide)
    obtain ⟨a3, b3, c3⟩ := a 3 (by decide) (by decide) (by decide)
    obtain ⟨a5, b5, c5⟩ := a 5 (by decide) (by decide) (by decide)
    obtain ⟨a6, b6, c6⟩ := a 6 (by decide) (by decide) (by decide)
    obtain ⟨a7, b7, c7⟩ := a 7 (by decide) (by decide) (by decide)
    unfold mp_rws
    rw [a0, a1, a2, a3, a5, a6, a7, b0, b1, b2, b3, b5, b6, b7, c0, c1, c2, c3, c5, c6, c7]
    rfl
  · refine key (mp_rw 28 (so 0) (sz 0) (sp_elm el 0) ++ (mp_rw 30 (so 1) (sz 1) (sp_elm el 1) ++ (mp_rw 32 (so 2) (sz 2) (sp_elm el 2) ++ (mp_rw 34 (so 3) (sz 3) (sp_elm el 3) ++ (mp_rw 36 (so 4) (sz 4) (sp_elm el 4)))))) (mp_rw 40 (so 6) (sz 6) (sp_elm el 6) ++ (mp_rw 42 (so 7) (sz 7) (sp_elm el 7))) 5 h rfl (fun so' sz' el' a => ?_)
    obtain ⟨a0, b0, c0⟩ := a 0 (by decide) (by decide) (by decide)
    obtain ⟨a1, b1, c1⟩ := a 1 (by decide) (by decide) (by decide)
    obtain ⟨a2, b2, c2⟩ := a 2 (by decide) (by decide) (by decide)
    obtain ⟨a3, b3, c3⟩ := a 3 (by decide) (by decide) (by decide)
    obtain ⟨a4, b4, c4⟩ := a 4 (by decide) (by decide) (by decide)
    obtain ⟨a6, b6, c6⟩ := a 6 (by decide) (by decide) (by decide)
    obtain ⟨a7, b7, c7⟩ := a 7 (by decide) (by decide) (by decide)
    unfold mp_rws
    rw [a0, a1, a2, a3, a4, a6, a7, b0, b1, b2, b3, b4, b6, b7, c0, c1, c2, c3, c4, c6, c7]
    rfl
  · refine key (mp_rw 28 (so 0) (sz 0) (sp_elm el 0) ++ (mp_rw 30 (so 1) (sz 1) (sp_elm el 1) ++ (mp_rw 32 (so 2) (sz 2) (sp_elm el 2) ++ (mp_rw 34 (so 3) (sz 3) (sp_elm el 3) ++ (mp_rw 36 (so 4) (sz 4) (sp_elm el 4) ++ (mp_rw 38 (so 5) (sz 5) (sp_elm el 5))))))) (mp_rw 42 (so 7) (sz 7) (sp_elm el 7)) 6 h rfl (fun so' sz' el' a => ?_)
    obtain ⟨a0, b0, c0⟩ := a 0 (by decide) (by decide) (by decide)
    obtain ⟨a1, b1, c1⟩ := a 1 (by decide) (by decide) (by decide)
    obtain ⟨a2, b2, c2⟩ := a 2 (by decide) (by decide) (by decide)
    obtain ⟨a3, b3, c3⟩ := a 3 (by decide) (by decide) (by decide)
    obtain ⟨a4, b4, c4⟩ := a 4 (by decide) (by decide) (by decide)
    obtain ⟨a5, b5, c5⟩ := a 5 (by decide) (by decide) (by decide)
    obtain ⟨a7, b7, c7⟩ := a 7 (by decide) (by decide) (by decide)
    unfold mp_rws
    rw [a0, a1, a2, a3, a4, a5, a7, b0, b1, b2, b3, b4, b5, b7, c0, c1, c2, c3, c4, c5, c7]
    rfl
  · refine key (mp_rw 28 (so 0) (sz 0) (sp_elm el 0) ++ (mp_rw 30 (so 1) (sz 1) (sp_elm el 1) ++ (mp_rw 32 (so 2) (sz 2) (sp_elm el 2) ++ (mp_rw 34 (so 3) (sz 3) (sp_elm el 3) ++ (mp_rw 36 (so 4) (sz 4) (sp_elm el 4) ++ (mp_rw 38 (so 5) (sz 5) (sp_elm el 5) ++ (mp_rw 40 (so 6) (sz 6) (sp_elm el 6)))))))) ([]) 7 h rfl (fun so' sz' el' a => ?_)
    obtain ⟨a0, b0, c0⟩ := a 0 (by decide) (by decide) (by decide)
    obtain ⟨a1, b1, c1⟩ := a 1 (by decide) (by decide) (by decide)
    obtain ⟨a2, b2, c2⟩ := a 2 (by decide) (by decide) (by decide)
    obtain ⟨a3, b3, c3⟩ := a 3 (by decide) (by decide) (by decide)
    obtain ⟨a4, b4, c4⟩ := a 4 (by decide) (by decide) (by decide)
    obtain ⟨a5, b5, c5⟩ := a 5 (by decide) (by decide) (by decide)
    obtain ⟨a6, b6, c6⟩ := a 6 (by decide) (by decide) (by decide)
    unfold mp_rws
    rw [a0, a1, a2, a3, a4, a5, a6, b0, b1, b2, b3, b4, b5, b6, c0, c1, c2, c3, c4, c5, c6]
    rfl
end
