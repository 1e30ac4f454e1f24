/-! ===== what holds between two statements of the law ===== -/
def mp_hp (n : Nat) (scr : Nat → Int) (s si u m img was num pro ask kp kk kf so sz el wd ak ke cv vo : Int → Int) (f g h kn : Nat → Option Nat) (im pl ra re rm rf sd th : Int) (out : Nat → Int) (C : mp_H) : mp_H := [mp_S n scr] ++ (mp_cs s si u f g h im kp kn wd ak ke cv vo so sz el ++ (mp_ms s m img was num pro ask kp kk kf so sz el im pl ra re rm rf sd th ++ (mp_J 1 out :: C)))
def mp_Ok (σ : mp_H) (s si img kp kk kf so sz el : Int → Int) (f g kn : Nat → Option Nat) (im : Int) : Prop :=
  mp_sky s ∧ mp_Mt σ s f ∧ mp_Mr σ f ∧ (im = 0 ∨ im = 1) ∧ (im = 1 → si = img ∧ mp_sky img ∧ mp_Mt σ img g ∧ mp_Mr σ g) ∧ (∀ d, 0 ≤ d → d ≤ 7 → mp_shf kp kk kf so sz d) ∧ (∀ x, mp_w (el x)) ∧
  (∀ d, 0 ≤ d → d ≤ 7 → so d = 0 → ∀ x, 0 ≤ x → x ≤ 99 → -128 ≤ el (100 * d + x) ∧ el (100 * d + x) ≤ 127) ∧ (∀ d, 0 ≤ d → d ≤ 7 → kp d = 1 → ∃ a, kn (Int.toNat d) = some a ∧ σ[a]? = some (mp_nw (kk d) (kf d)))
def mp_Inv (n : Nat) (scr : Nat → Int) (σ : mp_H) : Prop := ∃ s si u m img was num pro ask kp kk kf so sz el wd ak ke cv vo f g h kn im pl ra re rm rf sd th out C, σ = mp_hp n scr s si u m img was num pro ask kp kk kf so sz el wd ak ke cv vo f g h kn im pl ra re rm rf sd th out C ∧ mp_Ok σ s si img kp kk kf so sz el f g kn im
theorem mp_nm_ms {s m img was num pro ask kp kk kf so sz el : Int → Int} {im pl ra re rm rf sd th : Int} : mp_nm (mp_ms s m img was num pro ask kp kk kf so sz el im pl ra re rm rf sd th) := fun j c vs hc h => by
  match j, h with
  | 0, h => exact absurd (congrArg (fun o : Option mp_C => match o with | some (.inl q) => q.1 | _ => 0) h) (by show ¬ 11 = c; omega)
  | 1, h => cases h
  | 2, h => cases h
  | 3, h => cases h
  | 4, h => cases h
  | 5, h => cases h
  | 6, h => cases h
  | 7, h => cases h
  | 8, h => cases h
  | 9, h => cases h
  | 10, h => cases h
  | 11, h => cases h
  | 12, h => cases h
  | 13, h => cases h
  | j + 14, h => cases h
theorem mp_nm_J {n : Nat} {out : Nat → Int} : mp_nm [mp_J n out] := fun j c vs hc h => by
  match j, h with
  | 0, h => cases h
  | j + 1, h => cases h
theorem mp_hp_eq {n : Nat} {scr : Nat → Int} {s si u m img was num pro ask kp kk kf so sz el wd ak ke cv vo : Int → Int} {f g h kn : Nat → Option Nat} {im pl ra re rm rf sd th : Int} {out : Nat → Int} {C : mp_H} : mp_hp n scr s si u m img was num pro ask kp kk kf so sz el wd ak ke cv vo f g h kn im pl ra re rm rf sd th out C = [mp_S n scr] ++ ((mp_cs s si u f g h im kp kn wd ak ke cv vo so sz el ++ (mp_ms s m img was num pro ask kp kk kf so sz el im pl ra re rm rf sd th ++ [mp_J 1 out])) ++ C) := by
  unfold mp_hp
  simp only [List.append_assoc, List.cons_append, List.nil_append]
theorem mp_hp_stay {n : Nat} {scr : Nat → Int} {s si u m img was num pro ask kp kk kf so sz el wd ak ke cv vo : Int → Int} {f g h kn : Nat → Option Nat} {im pl ra re rm rf sd th : Int} {out : Nat → Int} {C : mp_H} {s' si' u' m' img' was' num' pro' ask' kp' kk' kf' so' sz' el' wd' ak' ke' cv' vo' : Int → Int} {f' g' h' kn' : Nat → Option Nat} {im' pl' ra' re' rm' rf' sd' th' : Int} {out' : Nat → Int} {D : mp_H} : mp_stay (mp_hp n scr s si u m img was num pro ask kp kk kf so sz el wd ak ke cv vo f g h kn im pl ra re rm rf sd th out C) (mp_hp n scr s' si' u' m' img' was' num' pro' ask' kp' kk' kf' so' sz' el' wd' ak' ke' cv' vo' f' g' h' kn' im' pl' ra' re' rm' rf' sd' th' out' (C ++ D)) := by
  refine mp_stay.tr (σ' := mp_hp n scr s' si' u' m' img' was' num' pro' ask' kp' kk' kf' so' sz' el' wd' ak' ke' cv' vo' f' g' h' kn' im' pl' ra' re' rm' rf' sd' th' out' C) ?_ ?_
  · rw [mp_hp_eq, mp_hp_eq]
    exact mp_stay.mid rfl (mp_nm_cs.app (mp_nm_ms.app mp_nm_J))
  · rw [mp_hp_eq, mp_hp_eq, ← List.append_assoc (as := _ ++ _) (bs := C) (cs := D), ← List.append_assoc [mp_S n scr] (_ ++ C) D]
    exact mp_stay.app
theorem mp_Ok.keep {σ σ' : mp_H} {s si img kp kk kf so sz el : Int → Int} {f g kn : Nat → Option Nat} {im : Int} (h : mp_Ok σ s si img kp kk kf so sz el f g kn im) (hst : mp_stay σ σ') : mp_Ok σ' s si img kp kk kf so sz el f g kn im := by
  obtain ⟨h1, h2, h3, h4, h5, h6, h7, h8, h9⟩ := h
  refine ⟨h1, h2.mono h1.kd hst, h3.mono hst, h4, fun q => ?_, h6, h7, h8, fun d d0 d1 q => ?_⟩
  · obtain ⟨e1, e2, e3, e4⟩ := h5 q
    exact ⟨e1, e2, e3.mono e2.kd hst, e4.mono hst⟩
  · obtain ⟨a, e1, e2⟩ := h9 d d0 d1 q
    have hsh := h6 d d0 d1
    exact ⟨a, e1, hst a _ _ (by have := hsh.2.1 q; omega) e2⟩
theorem mp_mdl {n : Nat} {scr : Nat → Int} {Y : mp_Y} {as : List Value} {cs ms ms' B : mp_H} {v : Option Value} (h : mp_Call Y as (([mp_S n scr] ++ cs) ++ (ms ++ B)) (v, ([mp_S n scr] ++ cs) ++ (ms' ++ B))) : mp_Call Y as ([mp_S n scr] ++ (cs ++ (ms ++ B))) (v, [mp_S n scr] ++ (cs ++ (ms' ++ B))) :=
  h.cast (List.append_assoc _ _ _) (congrArg (Prod.mk v) (List.append_assoc _ _ _))
theorem mp_mdlC {n : Nat} {scr : Nat → Int} {Y : mp_Y} {as : List Value} {cs ms ms' C D : mp_H} {c : mp_C} {v : Option Value} (h : mp_Call Y as (([mp_S n scr] ++ cs) ++ (ms ++ (c :: (C ++ D)))) (v, ([mp_S n scr] ++ cs) ++ (ms' ++ (c :: (C ++ D))))) : mp_Call Y as ([mp_S n scr] ++ (cs ++ ((ms ++ (c :: C)) ++ D))) (v, [mp_S n scr] ++ (cs ++ (ms' ++ (c :: (C ++ D))))) :=
  h.cast (by simp only [List.append_assoc, List.cons_append]) (by simp only [List.append_assoc])
theorem mp_hp_stay0 {n : Nat} {scr : Nat → Int} {s si u m img was num pro ask kp kk kf so sz el wd ak ke cv vo : Int → Int} {f g h kn : Nat → Option Nat} {im pl ra re rm rf sd th : Int} {out : Nat → Int} {C : mp_H} {s' si' u' m' img' was' num' pro' ask' kp' kk' kf' so' sz' el' wd' ak' ke' cv' vo' : Int → Int} {f' g' h' kn' : Nat → Option Nat} {im' pl' ra' re' rm' rf' sd' th' : Int} {out' : Nat → Int} : mp_stay (mp_hp n scr s si u m img was num pro ask kp kk kf so sz el wd ak ke cv vo f g h kn im pl ra re rm rf sd th out C) (mp_hp n scr s' si' u' m' img' was' num' pro' ask' kp' kk' kf' so' sz' el' wd' ak' ke' cv' vo' f' g' h' kn' im' pl' ra' re' rm' rf' sd' th' out' C) := by
  rw [mp_hp_eq, mp_hp_eq]
  exact mp_stay.mid rfl (mp_nm_cs.app (mp_nm_ms.app mp_nm_J))
theorem mp_Inv.of {n : Nat} {scr : Nat → Int} {s si u m img was num pro ask kp kk kf so sz el wd ak ke cv vo : Int → Int} {f g h kn : Nat → Option Nat} {im pl ra re rm rf sd th : Int} {out : Nat → Int} {C : mp_H} {σ : mp_H} (hσ : σ = mp_hp n scr s si u m img was num pro ask kp kk kf so sz el wd ak ke cv vo f g h kn im pl ra re rm rf sd th out C) (h : mp_Ok σ s si img kp kk kf so sz el f g kn im) : mp_Inv n scr σ := ⟨_, _, _, _, _, _, _, _, _, _, _, _, _, _, _, _, _, _, _, _, _, _, _, _, _, _, _, _, _, _, _, _, _, _, hσ, h⟩
/-- a statement: the class and the model answer alike, and all holds again -/
def mp_Step (n : Nat) (scr : Nat → Int) (zc zm : mp_Y) (vf : Int → Value) (as : List Value) (σ : mp_H) : Prop := ∃ (z : Int) (σ1 σ2 : mp_H), mp_Call zc (Value.ref 1 :: as) σ (some (vf z), σ1) ∧ mp_Call zm (Value.ref 44 :: as) σ1 (some (vf z), σ2) ∧ mp_Inv n scr σ2 ∧ σ1[0]? = some (mp_S n scr) ∧ ∃ fs, σ1[44]? = some (mp_O 11 fs)
