/-! ===== the model's cells: places 44 .. 57 ===== -/
def mp_ms (s m img was num pro ask kp kk kf so sz el : Int → Int) (im pl ra re rm rf sd th : Int) : mp_H :=
  [mp_O 11 [.ref 45, .ref 46, .ref 47, .ref 48, mp_i im, mp_i pl, mp_i ra, mp_i re, .ref 49, .ref 50, .ref 51, mp_i rm, mp_i rf, mp_i sd, .ref 52, .ref 53, .ref 54, .ref 55, .ref 56, .ref 57, mp_i th],
   mp_I 64 (mp_F s), mp_I 64 (mp_F m), mp_I 64 (mp_F img), mp_I 64 (mp_F was), mp_I 6 (mp_F num), mp_I 8 (mp_F pro), mp_I 5 (mp_F ask), mp_I 8 (mp_F kp), mp_I 8 (mp_F kk), mp_I 8 (mp_F kf), mp_I 8 (mp_F so), mp_I 8 (mp_F sz), mp_I 800 (mp_F el)]
theorem mp_lk {A Ms B : mp_H} (hA : A.length = 44) (j : Nat) {c : mp_C} (h : Ms[j]? = some c) : (A ++ (Ms ++ B))[44 + j]? = some c := by
  rw [List.getElem?_append_right (by omega), hA, Nat.add_sub_cancel_left, List.getElem?_append_left (List.getElem?_eq_some_iff.mp h).1]
  exact h
theorem mp_sts {A Ms Ms' B : mp_H} (hA : A.length = 44) (j : Nat) {c : mp_C} (hj : j < Ms.length) (h : Ms.set j c = Ms') : (A ++ (Ms ++ B)).set (44 + j) c = A ++ (Ms' ++ B) := by
  rw [List.set_append_right _ _ (by omega), hA, Nat.add_sub_cancel_left, List.set_append_left _ _ (by omega), h]
/-- a SHELF as one must be -/
abbrev mp_shf (kp kk kf so sz : Int → Int) (d : Int) : Prop := (0 ≤ kp d ∧ kp d ≤ 2) ∧ (kp d = 1 → (0 ≤ kk d ∧ kk d ≤ 7) ∧ (0 ≤ kf d ∧ kf d ≤ 9)) ∧ (0 ≤ so d ∧ so d ≤ 2) ∧ (0 ≤ sz d ∧ sz d ≤ 100)
def sp_wrongRow (kp so : Int → Int) (d o : Int) : Int := if ¬ (0 ≤ d ∧ d ≤ 7) then -1 else if kp d = 0 then -11 else if kp d ≠ 2 ∨ (0 ≤ o ∧ so d ≠ o) then -12 else 0
def sp_wrongKept (kp : Int → Int) (d : Int) : Int := if ¬ (0 ≤ d ∧ d ≤ 7) then -1 else if kp d = 0 then -11 else if kp d = 2 then -12 else 0
