theorem lX12_laws_77 {s m img was num pro ask kp kk kf so sz el : Int → Int} {im pl ra re rm rf sd th : Int} {A B : mp_H}  {d : Int} {f : Int} {w : Int} (hA : A.length = 44) (hh : ∀ d, 0 ≤ d → d ≤ 7 → mp_shf kp kk kf so sz d) (hel : ∀ x, mp_w (el x)) (h_d : mp_w d) (h_f : mp_w f) (h_w : mp_w w) {R9 : mp_An} : ∀ (n : Nat) (t : Int) (z : Int) (u : Int) (k : Int), ((0 ≤ t ∧ t + 2 * (n : Nat) = sz d) ∧ (z = 0 ∨ z = 1) ∧ (0 ≤ k ∧ k ≤ 7) ∧ (0 ≤ f ∧ f ≤ 9) ∧ (0 ≤ d ∧ d ≤ 7)) → mp_At (mX12_laws, 3, 0, 0) (0, 0) 148 [some (Value.ref 44), some (mp_i d), some (mp_i f), some (mp_i w), none, some (mp_i u), some (mp_i k), some (mp_i (sp_lawN el d (sp_lasts k f) (sp_bright k f) n t z)), none] [] (A ++ (mp_ms s m img was num pro ask kp kk kf so sz el im pl ra re rm rf sd th ++ B)) R9 → mp_At (mX12_laws, 3, 0, 0) (0, 0) 77 [some (Value.ref 44), some (mp_i d), some (mp_i f), some (mp_i w), none, some (mp_i u), some (mp_i k), some (mp_i z), some (mp_i t)] [] (A ++ (mp_ms s m img was num pro ask kp kk kf so sz el im pl ra re rm rf sd th ++ B)) R9 := by
  intro n
  induction n with
  | zero =>
    intro t z u k hi hk
    have hb := hh d (by omega) (by omega)
    refine mp_iload dX12_laws_77 rfl ?_
    refine mp_aload_n dX12_laws_79 rfl ?_
    refine mp_getfield dX12_laws_80 fsX12_43_11 (mp_lk hA 0 rfl) rfl ?_
    refine mp_iload_n dX12_laws_83 rfl ?_
    refine mp_iald dX12_laws_84 (mp_lk hA 12 rfl) ⟨by omega, by omega⟩ (by omega) ?_
    refine mp_icmp_ge (tgt := 148) dX12_laws_85 rfl ⟨by omega, by omega⟩ ⟨by omega, by omega⟩ (fun h1 => ?_) (fun h1 => ?_)
    · refine mp_drop (L' := [some (Value.ref 44), some (mp_i d), some (mp_i f), some (mp_i w), none, some (mp_i u), some (mp_i k), some (mp_i z), none]) [true, true, true, true, false, true, true, true, false] rfl ?_
      exact hk
    · exfalso; omega
  | succ n ih =>
    intro t z u k hi hk
    have hb := hh d (by omega) (by omega)
    have hla := mp_lasts_bd (kind := k) (f := f) (by omega)
    have hbr := mp_bright_bd (kind := k) (f := f) (by omega)
    refine mp_iload dX12_laws_77 rfl ?_
    refine mp_aload_n dX12_laws_79 rfl ?_
    refine mp_getfield dX12_laws_80 fsX12_43_11 (mp_lk hA 0 rfl) rfl ?_
    refine mp_iload_n dX12_laws_83 rfl ?_
    refine mp_iald dX12_laws_84 (mp_lk hA 12 rfl) ⟨by omega, by omega⟩ (by omega) ?_
    refine mp_icmp_ge (tgt := 148) dX12_laws_85 rfl ⟨by omega, by omega⟩ ⟨by omega, by omega⟩ (fun h1 => ?_) (fun h1 => ?_)
    · exfalso; omega
    · refine mp_iload dX12_laws_88 rfl ?_
      refine mp_aload_n dX12_laws_90 rfl ?_
      refine mp_getfield dX12_laws_91 fsX12_46_11 (mp_lk hA 0 rfl) rfl ?_
      refine mp_bipush dX12_laws_94 rfl ?_
      refine mp_iload_n dX12_laws_96 rfl ?_
      refine mp_imul (z := 100 * d) dX12_laws_97 (by first | rfl | omega) ?_
      refine mp_iload dX12_laws_98 rfl ?_
      refine mp_iadd (z := (100 * d) + t) dX12_laws_100 (by first | rfl | omega) ?_
      refine mp_iald dX12_laws_101 (mp_lk hA 13 rfl) ⟨by omega, by omega⟩ (by omega) ?_
      have b2 := hel ((100 * d) + t)
      refine mp_iload dX12_laws_102 rfl ?_
      refine mp_iload_n dX12_laws_104 rfl ?_
      refine mp_invS (z := (mX12_lasts, 0, 0, 0)) (K' := (0, 0)) (σ1 := A ++ (mp_ms s m img was num pro ask kp kk kf so sz el im pl ra re rm rf sd th ++ B)) (as := [mp_i k, mp_i f]) (st := [mp_i (el ((100 * d) + t)), mp_i z]) (st1 := [mp_i (sp_lasts k f), mp_i (el ((100 * d) + t)), mp_i z]) dX12_laws_105 ssX12_63 (zX12_lasts (k := k) (f := f)  (by first | with_reducible assumption | omega) (by first | with_reducible assumption | omega)) ⟨Nat.le_of_ble_eq_true rfl, Nat.le_of_ble_eq_true rfl, Nat.le_of_ble_eq_true rfl, Nat.le_of_ble_eq_true rfl, Nat.le_of_ble_eq_true rfl⟩ rfl rfl rfl rfl ?_
      refine mp_icmp_ne (tgt := 138) dX12_laws_108 rfl ⟨by omega, by omega⟩ ⟨by omega, by omega⟩ (fun h3 => ?_) (fun h3 => ?_)
      · refine mp_iconst dX12_laws_138 ?_
        refine mp_iand (z := 0) dX12_laws_139 (mp_z_and0 _) ?_
        refine mp_istore (L' := [some (Value.ref 44), some (mp_i d), some (mp_i f), some (mp_i w), none, some (mp_i u), some (mp_i k), some (mp_i 0), some (mp_i t)]) dX12_laws_140 (by decide) rfl ?_
        refine mp_iinc (z := t + 2) (L' := [some (Value.ref 44), some (mp_i d), some (mp_i f), some (mp_i w), none, some (mp_i u), some (mp_i k), some (mp_i 0), some (mp_i (t + 2))]) dX12_laws_142 rfl (rfl) (by decide) rfl ?_
        refine mp_goto (tgt := 77) dX12_laws_145 rfl ?_
        refine mp_loc (j := 7) (y := if el (100 * d + t) = sp_lasts k f ∧ el (100 * d + t + 1) = sp_bright k f then z else 0) (by first | (rw [if_pos ⟨by omega, by omega⟩]; done) | (rw [if_neg (by omega)]; done)) rfl (L' := [some (Value.ref 44), some (mp_i d), some (mp_i f), some (mp_i w), none, some (mp_i u), some (mp_i k), some (mp_i (if el (100 * d + t) = sp_lasts k f ∧ el (100 * d + t + 1) = sp_bright k f then z else 0)), some (mp_i (t + 2))]) rfl ?_
        exact ih (t + 2) (if el (100 * d + t) = sp_lasts k f ∧ el (100 * d + t + 1) = sp_bright k f then z else 0) u k (⟨by omega, by split <;> omega, by omega, by omega, by omega⟩) hk
      · refine mp_aload_n dX12_laws_111 rfl ?_
        refine mp_getfield dX12_laws_112 fsX12_46_11 (mp_lk hA 0 rfl) rfl ?_
        refine mp_bipush dX12_laws_115 rfl ?_
        refine mp_iload_n dX12_laws_117 rfl ?_
        refine mp_imul (z := 100 * d) dX12_laws_118 (by first | rfl | omega) ?_
        refine mp_iload dX12_laws_119 rfl ?_
        refine mp_iadd (z := (100 * d) + t) dX12_laws_121 (by first | rfl | omega) ?_
        refine mp_iconst dX12_laws_122 ?_
        refine mp_iadd (z := ((100 * d) + t) + 1) dX12_laws_123 (by first | rfl | omega) ?_
        refine mp_iald dX12_laws_124 (mp_lk hA 13 rfl) ⟨by omega, by omega⟩ (by omega) ?_
        have b4 := hel (((100 * d) + t) + 1)
        refine mp_iload dX12_laws_125 rfl ?_
        refine mp_iload_n dX12_laws_127 rfl ?_
        refine mp_invS (z := (mX12_bright, 0, 0, 0)) (K' := (0, 0)) (σ1 := A ++ (mp_ms s m img was num pro ask kp kk kf so sz el im pl ra re rm rf sd th ++ B)) (as := [mp_i k, mp_i f]) (st := [mp_i (el (((100 * d) + t) + 1)), mp_i z]) (st1 := [mp_i (sp_bright k f), mp_i (el (((100 * d) + t) + 1)), mp_i z]) dX12_laws_128 ssX12_66 (zX12_bright (k := k) (f := f)  (by first | with_reducible assumption | omega) (by first | with_reducible assumption | omega)) ⟨Nat.le_of_ble_eq_true rfl, Nat.le_of_ble_eq_true rfl, Nat.le_of_ble_eq_true rfl, Nat.le_of_ble_eq_true rfl, Nat.le_of_ble_eq_true rfl⟩ rfl rfl rfl rfl ?_
        refine mp_icmp_ne (tgt := 138) dX12_laws_131 rfl ⟨by omega, by omega⟩ ⟨by omega, by omega⟩ (fun h5 => ?_) (fun h5 => ?_)
        · refine mp_iconst dX12_laws_138 ?_
          refine mp_iand (z := 0) dX12_laws_139 (mp_z_and0 _) ?_
          refine mp_istore (L' := [some (Value.ref 44), some (mp_i d), some (mp_i f), some (mp_i w), none, some (mp_i u), some (mp_i k), some (mp_i 0), some (mp_i t)]) dX12_laws_140 (by decide) rfl ?_
          refine mp_iinc (z := t + 2) (L' := [some (Value.ref 44), some (mp_i d), some (mp_i f), some (mp_i w), none, some (mp_i u), some (mp_i k), some (mp_i 0), some (mp_i (t + 2))]) dX12_laws_142 rfl (rfl) (by decide) rfl ?_
          refine mp_goto (tgt := 77) dX12_laws_145 rfl ?_
          refine mp_loc (j := 7) (y := if el (100 * d + t) = sp_lasts k f ∧ el (100 * d + t + 1) = sp_bright k f then z else 0) (by first | (rw [if_pos ⟨by omega, by omega⟩]; done) | (rw [if_neg (by omega)]; done)) rfl (L' := [some (Value.ref 44), some (mp_i d), some (mp_i f), some (mp_i w), none, some (mp_i u), some (mp_i k), some (mp_i (if el (100 * d + t) = sp_lasts k f ∧ el (100 * d + t + 1) = sp_bright k f then z else 0)), some (mp_i (t + 2))]) rfl ?_
          exact ih (t + 2) (if el (100 * d + t) = sp_lasts k f ∧ el (100 * d + t + 1) = sp_bright k f then z else 0) u k (⟨by omega, by split <;> omega, by omega, by omega, by omega⟩) hk
        · refine mp_iconst dX12_laws_134 ?_
          refine mp_goto (tgt := 139) dX12_laws_135 rfl ?_
          refine mp_iand (z := z) dX12_laws_139 (mp_z_and1 (by omega)) ?_
          refine mp_istore (L' := [some (Value.ref 44), some (mp_i d), some (mp_i f), some (mp_i w), none, some (mp_i u), some (mp_i k), some (mp_i z), some (mp_i t)]) dX12_laws_140 (by decide) rfl ?_
          refine mp_iinc (z := t + 2) (L' := [some (Value.ref 44), some (mp_i d), some (mp_i f), some (mp_i w), none, some (mp_i u), some (mp_i k), some (mp_i z), some (mp_i (t + 2))]) dX12_laws_142 rfl (rfl) (by decide) rfl ?_
          refine mp_goto (tgt := 77) dX12_laws_145 rfl ?_
          refine mp_loc (j := 7) (y := if el (100 * d + t) = sp_lasts k f ∧ el (100 * d + t + 1) = sp_bright k f then z else 0) (by first | (rw [if_pos ⟨by omega, by omega⟩]; done) | (rw [if_neg (by omega)]; done)) rfl (L' := [some (Value.ref 44), some (mp_i d), some (mp_i f), some (mp_i w), none, some (mp_i u), some (mp_i k), some (mp_i (if el (100 * d + t) = sp_lasts k f ∧ el (100 * d + t + 1) = sp_bright k f then z else 0)), some (mp_i (t + 2))]) rfl ?_
          exact ih (t + 2) (if el (100 * d + t) = sp_lasts k f ∧ el (100 * d + t + 1) = sp_bright k f then z else 0) u k (⟨by omega, by split <;> omega, by omega, by omega, by omega⟩) hk
theorem lX12_laws_64 {s m img was num pro ask kp kk kf so sz el : Int → Int} {im pl ra re rm rf sd th : Int} {A B : mp_H}  {d : Int} {f : Int} {w : Int} (hA : A.length = 44) (hh : ∀ d, 0 ≤ d → d ≤ 7 → mp_shf kp kk kf so sz d) (hel : ∀ x, mp_w (el x)) (h_d : mp_w d) (h_f : mp_w f) (h_w : mp_w w) {R9 : mp_An} : ∀ (n : Nat) (k : Int) (u : Int), ((0 ≤ k ∧ k + (n : Nat) = 8) ∧ (0 ≤ u ∧ u < 256) ∧ (0 ≤ f ∧ f ≤ 9) ∧ (0 ≤ d ∧ d ≤ 7) ∧ ¬ sz d % 2 = 1) → mp_At (mX12_laws, 3, 0, 0) (0, 0) 172 [some (Value.ref 44), some (mp_i d), some (mp_i f), some (mp_i w), none, some (mp_i (mp_fold (sp_lawStep sz el d f) n k u)), none, none, none] [] (A ++ (mp_ms s m img was num pro ask kp kk kf so sz el im pl ra re rm rf sd th ++ B)) R9 → mp_At (mX12_laws, 3, 0, 0) (0, 0) 64 [some (Value.ref 44), some (mp_i d), some (mp_i f), some (mp_i w), none, some (mp_i u), some (mp_i k), none, none] [] (A ++ (mp_ms s m img was num pro ask kp kk kf so sz el im pl ra re rm rf sd th ++ B)) R9 := by
  intro n
  induction n with
  | zero =>
    intro k u hi hk
    refine mp_iload dX12_laws_64 rfl ?_
    refine mp_bipush dX12_laws_66 rfl ?_
    refine mp_icmp_ge (tgt := 172) dX12_laws_68 rfl ⟨by omega, by omega⟩ ⟨by omega, by omega⟩ (fun h1 => ?_) (fun h1 => ?_)
    · refine mp_drop (L' := [some (Value.ref 44), some (mp_i d), some (mp_i f), some (mp_i w), none, some (mp_i u), none, none, none]) [true, true, true, true, false, true, false, false, false] rfl ?_
      exact hk
    · exfalso; omega
  | succ n ih =>
    intro k u hi hk
    have hb := hh d (by omega) (by omega)
    have hlb := mp_lawN_bd el d (sp_lasts k f) (sp_bright k f) (sz d / 2).toNat 0 1 (Or.inr rfl)
    have hlb : sp_law sz el d f k = 0 ∨ sp_law sz el d f k = 1 := hlb
    refine mp_iload dX12_laws_64 rfl ?_
    refine mp_bipush dX12_laws_66 rfl ?_
    refine mp_icmp_ge (tgt := 172) dX12_laws_68 rfl ⟨by omega, by omega⟩ ⟨by omega, by omega⟩ (fun h1 => ?_) (fun h1 => ?_)
    · exfalso; omega
    · refine mp_iconst dX12_laws_71 ?_
      refine mp_istore (L' := [some (Value.ref 44), some (mp_i d), some (mp_i f), some (mp_i w), none, some (mp_i u), some (mp_i k), some (mp_i 1), none]) dX12_laws_72 (by decide) rfl ?_
      refine mp_iconst dX12_laws_74 ?_
      refine mp_istore (L' := [some (Value.ref 44), some (mp_i d), some (mp_i f), some (mp_i w), none, some (mp_i u), some (mp_i k), some (mp_i 1), some (mp_i 0)]) dX12_laws_75 (by decide) rfl ?_
      refine lX12_laws_77 (d := d) (f := f) (w := w)  (by first | with_reducible assumption | omega) (by first | with_reducible assumption | omega) (by first | with_reducible assumption | omega) (by first | with_reducible assumption | omega) (by first | with_reducible assumption | omega) (by first | with_reducible assumption | omega) ((sz d / 2).toNat) 0 1 u k (⟨by omega, by omega, by omega, by omega, by omega⟩) ?_
      refine mp_loc (j := 7) (y := sp_law sz el d f k) rfl rfl (L' := [some (Value.ref 44), some (mp_i d), some (mp_i f), some (mp_i w), none, some (mp_i u), some (mp_i k), some (mp_i (sp_law sz el d f k)), none]) rfl ?_
      refine mp_iload dX12_laws_148 rfl ?_
      refine mp_iload dX12_laws_150 rfl ?_
      refine mp_if_eq (tgt := 162) dX12_laws_152 rfl ⟨by omega, by omega⟩ (fun h2 => ?_) (fun h2 => ?_)
      · refine mp_iconst dX12_laws_162 ?_
        refine mp_ior (z := u) dX12_laws_163 (by rw [mp_z_or (by omega) (by omega), mp_or_0 (by omega)]) ?_
        refine mp_istore (L' := [some (Value.ref 44), some (mp_i d), some (mp_i f), some (mp_i w), none, some (mp_i u), some (mp_i k), some (mp_i (sp_law sz el d f k)), none]) dX12_laws_164 (by decide) rfl ?_
        refine mp_iinc (z := k + 1) (L' := [some (Value.ref 44), some (mp_i d), some (mp_i f), some (mp_i w), none, some (mp_i u), some (mp_i (k + 1)), some (mp_i (sp_law sz el d f k)), none]) dX12_laws_166 rfl (rfl) (by decide) rfl ?_
        refine mp_goto (tgt := 64) dX12_laws_169 rfl ?_
        refine mp_loc (j := 5) (y := sp_lawStep sz el d f k u) (by unfold sp_lawStep; first | (rw [if_pos (by omega)]; done) | (rw [if_neg (by omega)]; done)) rfl (L' := [some (Value.ref 44), some (mp_i d), some (mp_i f), some (mp_i w), none, some (mp_i (sp_lawStep sz el d f k u)), some (mp_i (k + 1)), some (mp_i (sp_law sz el d f k)), none]) rfl ?_
        refine mp_drop (L' := [some (Value.ref 44), some (mp_i d), some (mp_i f), some (mp_i w), none, some (mp_i (sp_lawStep sz el d f k u)), some (mp_i (k + 1)), none, none]) [true, true, true, true, false, true, true, false, false] rfl ?_
        exact ih (k + 1) (sp_lawStep sz el d f k u) (⟨by omega, mp_lawStep_bd (by omega) hi.2.1, hi.2.2⟩) hk
      · refine mp_iconst dX12_laws_155 ?_
        refine mp_iload dX12_laws_156 rfl ?_
        refine mp_ishl (z := mp_bit k) dX12_laws_158 (mp_z_bit ⟨by omega, by omega⟩) ?_
        refine mp_goto (tgt := 163) dX12_laws_159 rfl ?_
        refine mp_ior (z := mp_or u (mp_bit k)) dX12_laws_163 (mp_z_or (by first | omega | exact mp_bit_nn _ | exact mp_or_nn _ _ | exact mp_and_nn _ _ | exact mp_shr_nn _ _) (by first | omega | exact mp_bit_nn _ | exact mp_or_nn _ _ | exact mp_and_nn _ _ | exact mp_shr_nn _ _)) ?_
        refine mp_istore (L' := [some (Value.ref 44), some (mp_i d), some (mp_i f), some (mp_i w), none, some (mp_i (mp_or u (mp_bit k))), some (mp_i k), some (mp_i (sp_law sz el d f k)), none]) dX12_laws_164 (by decide) rfl ?_
        refine mp_iinc (z := k + 1) (L' := [some (Value.ref 44), some (mp_i d), some (mp_i f), some (mp_i w), none, some (mp_i (mp_or u (mp_bit k))), some (mp_i (k + 1)), some (mp_i (sp_law sz el d f k)), none]) dX12_laws_166 rfl (rfl) (by decide) rfl ?_
        refine mp_goto (tgt := 64) dX12_laws_169 rfl ?_
        refine mp_loc (j := 5) (y := sp_lawStep sz el d f k u) (by unfold sp_lawStep; first | (rw [if_pos (by omega)]; done) | (rw [if_neg (by omega)]; done)) rfl (L' := [some (Value.ref 44), some (mp_i d), some (mp_i f), some (mp_i w), none, some (mp_i (sp_lawStep sz el d f k u)), some (mp_i (k + 1)), some (mp_i (sp_law sz el d f k)), none]) rfl ?_
        refine mp_drop (L' := [some (Value.ref 44), some (mp_i d), some (mp_i f), some (mp_i w), none, some (mp_i (sp_lawStep sz el d f k u)), some (mp_i (k + 1)), none, none]) [true, true, true, true, false, true, true, false, false] rfl ?_
        exact ih (k + 1) (sp_lawStep sz el d f k u) (⟨by omega, mp_lawStep_bd (by omega) hi.2.1, hi.2.2⟩) hk
theorem zX12_laws {s m img was num pro ask kp kk kf so sz el : Int → Int} {im pl ra re rm rf sd th : Int} {A B : mp_H}  {d : Int} {f : Int} {w : Int} (hA : A.length = 44) (hh : ∀ d, 0 ≤ d → d ≤ 7 → mp_shf kp kk kf so sz d) (hel : ∀ x, mp_w (el x)) (h_d : mp_w d) (h_f : mp_w f) (h_w : mp_w w) : mp_Call (mX12_laws, 3, 0, 0) [Value.ref 44, mp_i d, mp_i f, mp_i w] (A ++ (mp_ms s m img was num pro ask kp kk kf so sz el im pl ra re rm rf sd th ++ B)) (some (mp_i (sp_laws kp so sz el d f w)), A ++ (mp_ms s m img was num pro ask kp kk kf so sz el im pl ra re rm rf sd th ++ B)) := by
  refine mp_Call.of (L := [some (Value.ref 44), some (mp_i d), some (mp_i f), some (mp_i w), none, none, none, none, none]) pnX12 (Nat.le_of_ble_eq_true rfl) rfl ?_
  have hw9 : sp_wrongRow kp so d (-1) = if ¬ (0 ≤ d ∧ d ≤ 7) then -1 else if kp d = 0 then -11 else if kp d ≠ 2 ∨ (0 ≤ (-1 : Int) ∧ so d ≠ (-1)) then -12 else 0 := rfl
  have hlbd : sp_lawsBad kp so sz d = if sp_wrongRow kp so d (-1) ≠ 0 then sp_wrongRow kp so d (-1) else if sz d % 2 = 1 then -13 else 0 := rfl
  refine mp_iload_n dX12_laws_0 rfl ?_
  refine mp_iconst dX12_laws_1 ?_
  refine mp_bipush dX12_laws_2 rfl ?_
  refine mp_invS (z := (mX12_isIn, 0, 0, 0)) (K' := (0, 0)) (σ1 := A ++ (mp_ms s m img was num pro ask kp kk kf so sz el im pl ra re rm rf sd th ++ B)) (as := [mp_i f, mp_i 0, mp_i 9]) (st := []) (st1 := [mp_i (if 0 ≤ f ∧ f ≤ 9 then 1 else 0)]) dX12_laws_4 ssX12_53 (zX12_isIn (v := f) (a := 0) (b := 9)  (by first | with_reducible assumption | omega) (by first | with_reducible assumption | omega) (by first | with_reducible assumption | omega)) ⟨Nat.le_of_ble_eq_true rfl, Nat.le_of_ble_eq_true rfl, Nat.le_of_ble_eq_true rfl, Nat.le_of_ble_eq_true rfl, Nat.le_of_ble_eq_true rfl⟩ rfl rfl rfl rfl ?_
  refine mp_ifb_eq (tgt := 19) dX12_laws_7 rfl (fun h1 => ?_) (fun h1 => ?_)
  · refine mp_iconst dX12_laws_19 ?_
    exact mp_ireturn (st := []) dX12_laws_20 rfl ⟨by decide, by decide⟩ ((mp_ans (by first | with_reducible rfl | (unfold sp_laws; omega) | (unfold sp_laws; first | (rw [if_pos (by omega)]; done) | (rw [if_neg (by omega)]; done) | (rw [if_neg (by omega), if_pos (by omega)]; done) | (rw [if_neg (by omega), if_neg (by omega)]; done) | (rw [if_neg (by omega), if_neg (by omega), if_pos (by omega)]; done) | (rw [if_neg (by omega), if_neg (by omega), if_neg (by omega)]; done) | (rw [if_neg (by omega), if_neg (by omega), if_neg (by omega), if_pos (by omega)]; done) | (rw [if_neg (by omega), if_neg (by omega), if_neg (by omega), if_neg (by omega)]; done) | (rw [if_neg (by omega), if_neg (by omega), if_neg (by omega), if_neg (by omega), if_pos (by omega)]; done) | (rw [if_neg (by omega), if_neg (by omega), if_neg (by omega), if_neg (by omega), if_neg (by omega)]; done)))))
  · refine mp_iload_n dX12_laws_10 rfl ?_
    refine mp_iconst dX12_laws_11 ?_
    refine mp_iconst dX12_laws_12 ?_
    refine mp_invS (z := (mX12_isIn, 0, 0, 0)) (K' := (0, 0)) (σ1 := A ++ (mp_ms s m img was num pro ask kp kk kf so sz el im pl ra re rm rf sd th ++ B)) (as := [mp_i w, mp_i 0, mp_i 1]) (st := []) (st1 := [mp_i (if 0 ≤ w ∧ w ≤ 1 then 1 else 0)]) dX12_laws_13 ssX12_53 (zX12_isIn (v := w) (a := 0) (b := 1)  (by first | with_reducible assumption | omega) (by first | with_reducible assumption | omega) (by first | with_reducible assumption | omega)) ⟨Nat.le_of_ble_eq_true rfl, Nat.le_of_ble_eq_true rfl, Nat.le_of_ble_eq_true rfl, Nat.le_of_ble_eq_true rfl, Nat.le_of_ble_eq_true rfl⟩ rfl rfl rfl rfl ?_
    refine mp_ifb_ne (tgt := 21) dX12_laws_16 rfl (fun h2 => ?_) (fun h2 => ?_)
    · refine mp_aload_n dX12_laws_21 rfl ?_
      refine mp_iload_n dX12_laws_22 rfl ?_
      refine mp_iconst dX12_laws_23 ?_
      refine mp_invV (z := (mX12_wrongRow, 2, 0, 0)) (K' := (0, 0)) (σ1 := A ++ (mp_ms s m img was num pro ask kp kk kf so sz el im pl ra re rm rf sd th ++ B)) (as := [mp_i d, mp_i (-1)]) (st := []) (st1 := [mp_i (sp_wrongRow kp so d (-1))]) dX12_laws_24 svX12_145 (mp_lk hA 0 rfl) rfl rfl (zX12_wrongRow (d := d) (o := (-1)) (s := s) (m := m) (img := img) (was := was) (num := num) (pro := pro) (ask := ask) (kp := kp) (kk := kk) (kf := kf) (so := so) (sz := sz) (el := el) (im := im) (pl := pl) (ra := ra) (re := re) (rm := rm) (rf := rf) (sd := sd) (th := th) (by first | with_reducible assumption | omega) (by first | with_reducible assumption | omega) (by first | with_reducible assumption | omega) (by first | with_reducible assumption | omega)) ⟨Nat.le_of_ble_eq_true rfl, Nat.le_of_ble_eq_true rfl, Nat.le_of_ble_eq_true rfl, Nat.le_of_ble_eq_true rfl, Nat.le_of_ble_eq_true rfl⟩ rfl rfl rfl rfl ?_
      refine mp_istore (L' := [some (Value.ref 44), some (mp_i d), some (mp_i f), some (mp_i w), some (mp_i (sp_wrongRow kp so d (-1))), none, none, none, none]) dX12_laws_27 (by decide) rfl ?_
      refine mp_iload dX12_laws_29 rfl ?_
      refine mp_if_ne (tgt := 50) dX12_laws_31 rfl ⟨by omega, by omega⟩ (fun h3 => ?_) (fun h3 => ?_)
      · refine mp_iload dX12_laws_50 rfl ?_
        refine mp_if_eq (tgt := 58) dX12_laws_52 rfl ⟨by omega, by omega⟩ (fun h4 => ?_) (fun h4 => ?_)
        · refine mp_iconst dX12_laws_58 ?_
          refine mp_istore (L' := [some (Value.ref 44), some (mp_i d), some (mp_i f), some (mp_i w), some (mp_i (sp_wrongRow kp so d (-1))), some (mp_i 0), none, none, none]) dX12_laws_59 (by decide) rfl ?_
          refine mp_iconst dX12_laws_61 ?_
          refine mp_istore (L' := [some (Value.ref 44), some (mp_i d), some (mp_i f), some (mp_i w), some (mp_i (sp_wrongRow kp so d (-1))), some (mp_i 0), some (mp_i 0), none, none]) dX12_laws_62 (by decide) rfl ?_
          refine mp_drop (L' := [some (Value.ref 44), some (mp_i d), some (mp_i f), some (mp_i w), none, some (mp_i 0), some (mp_i 0), none, none]) [true, true, true, true, false, true, true, false, false] rfl ?_
          refine lX12_laws_64 (d := d) (f := f) (w := w) hA hh hel h_d h_f h_w 8 0 0 ⟨by omega, by omega, by omega, by omega, by omega⟩ ?_
          show mp_At _ _ 172 [some (Value.ref 44), some (mp_i d), some (mp_i f), some (mp_i w), none, some (mp_i (sp_lawsSet sz el d f)), none, none, none] [] _ _
          have hsb := mp_lawsSet_bd sz el d f
          refine mp_iload_n dX12_laws_172 rfl ?_
          refine mp_if_ne (tgt := 181) dX12_laws_173 rfl ⟨by omega, by omega⟩ (fun h5 => ?_) (fun h5 => ?_)
          · refine mp_iload dX12_laws_181 rfl ?_
            refine mp_invS (z := (mX12_bits, 0, 0, 0)) (K' := (0, 0)) (σ1 := A ++ (mp_ms s m img was num pro ask kp kk kf so sz el im pl ra re rm rf sd th ++ B)) (as := [mp_i (sp_lawsSet sz el d f)]) (st := []) (st1 := [mp_i (sp_bits (sp_lawsSet sz el d f))]) dX12_laws_183 ssX12_178 (zX12_bits (v := (sp_lawsSet sz el d f))  (by first | with_reducible assumption | omega)) ⟨Nat.le_of_ble_eq_true rfl, Nat.le_of_ble_eq_true rfl, Nat.le_of_ble_eq_true rfl, Nat.le_of_ble_eq_true rfl, Nat.le_of_ble_eq_true rfl⟩ rfl rfl rfl rfl ?_
            exact mp_ireturn (st := []) dX12_laws_186 rfl ⟨by decide, by decide⟩ ((mp_ans (by first | with_reducible rfl | (unfold sp_laws; omega) | (unfold sp_laws; first | (rw [if_pos (by omega)]; done) | (rw [if_neg (by omega)]; done) | (rw [if_neg (by omega), if_pos (by omega)]; done) | (rw [if_neg (by omega), if_neg (by omega)]; done) | (rw [if_neg (by omega), if_neg (by omega), if_pos (by omega)]; done) | (rw [if_neg (by omega), if_neg (by omega), if_neg (by omega)]; done) | (rw [if_neg (by omega), if_neg (by omega), if_neg (by omega), if_pos (by omega)]; done) | (rw [if_neg (by omega), if_neg (by omega), if_neg (by omega), if_neg (by omega)]; done) | (rw [if_neg (by omega), if_neg (by omega), if_neg (by omega), if_neg (by omega), if_pos (by omega)]; done) | (rw [if_neg (by omega), if_neg (by omega), if_neg (by omega), if_neg (by omega), if_neg (by omega)]; done)))))
          · refine mp_iload dX12_laws_176 rfl ?_
            refine mp_goto (tgt := 186) dX12_laws_178 rfl ?_
            exact mp_ireturn (st := []) dX12_laws_186 rfl ⟨by decide, by decide⟩ ((mp_ans (by first | with_reducible rfl | (unfold sp_laws; omega) | (unfold sp_laws; first | (rw [if_pos (by omega)]; done) | (rw [if_neg (by omega)]; done) | (rw [if_neg (by omega), if_pos (by omega)]; done) | (rw [if_neg (by omega), if_neg (by omega)]; done) | (rw [if_neg (by omega), if_neg (by omega), if_pos (by omega)]; done) | (rw [if_neg (by omega), if_neg (by omega), if_neg (by omega)]; done) | (rw [if_neg (by omega), if_neg (by omega), if_neg (by omega), if_pos (by omega)]; done) | (rw [if_neg (by omega), if_neg (by omega), if_neg (by omega), if_neg (by omega)]; done) | (rw [if_neg (by omega), if_neg (by omega), if_neg (by omega), if_neg (by omega), if_pos (by omega)]; done) | (rw [if_neg (by omega), if_neg (by omega), if_neg (by omega), if_neg (by omega), if_neg (by omega)]; done)))))
        · refine mp_iload dX12_laws_55 rfl ?_
          exact mp_ireturn (st := []) dX12_laws_57 rfl ⟨by decide, by decide⟩ ((mp_ans (by first | with_reducible rfl | (unfold sp_laws; omega) | (unfold sp_laws; first | (rw [if_pos (by omega)]; done) | (rw [if_neg (by omega)]; done) | (rw [if_neg (by omega), if_pos (by omega)]; done) | (rw [if_neg (by omega), if_neg (by omega)]; done) | (rw [if_neg (by omega), if_neg (by omega), if_pos (by omega)]; done) | (rw [if_neg (by omega), if_neg (by omega), if_neg (by omega)]; done) | (rw [if_neg (by omega), if_neg (by omega), if_neg (by omega), if_pos (by omega)]; done) | (rw [if_neg (by omega), if_neg (by omega), if_neg (by omega), if_neg (by omega)]; done) | (rw [if_neg (by omega), if_neg (by omega), if_neg (by omega), if_neg (by omega), if_pos (by omega)]; done) | (rw [if_neg (by omega), if_neg (by omega), if_neg (by omega), if_neg (by omega), if_neg (by omega)]; done)))))
      · have hb := hh d (by omega) (by omega)
        refine mp_aload_n dX12_laws_34 rfl ?_
        refine mp_getfield dX12_laws_35 fsX12_43_11 (mp_lk hA 0 rfl) rfl ?_
        refine mp_iload_n dX12_laws_38 rfl ?_
        refine mp_iald dX12_laws_39 (mp_lk hA 12 rfl) ⟨by omega, by omega⟩ (by omega) ?_
        refine mp_iconst dX12_laws_40 ?_
        refine mp_irem (z := (sz d) % 2) dX12_laws_41 ⟨by omega, by omega⟩ ⟨by omega, by omega⟩ rfl ?_
        refine mp_iconst dX12_laws_42 ?_
        refine mp_icmp_ne (tgt := 50) dX12_laws_43 rfl ⟨by omega, by omega⟩ ⟨by omega, by omega⟩ (fun h6 => ?_) (fun h6 => ?_)
        · refine mp_iload dX12_laws_50 rfl ?_
          refine mp_if_eq (tgt := 58) dX12_laws_52 rfl ⟨by omega, by omega⟩ (fun h7 => ?_) (fun h7 => ?_)
          · refine mp_iconst dX12_laws_58 ?_
            refine mp_istore (L' := [some (Value.ref 44), some (mp_i d), some (mp_i f), some (mp_i w), some (mp_i (sp_wrongRow kp so d (-1))), some (mp_i 0), none, none, none]) dX12_laws_59 (by decide) rfl ?_
            refine mp_iconst dX12_laws_61 ?_
            refine mp_istore (L' := [some (Value.ref 44), some (mp_i d), some (mp_i f), some (mp_i w), some (mp_i (sp_wrongRow kp so d (-1))), some (mp_i 0), some (mp_i 0), none, none]) dX12_laws_62 (by decide) rfl ?_
            refine mp_drop (L' := [some (Value.ref 44), some (mp_i d), some (mp_i f), some (mp_i w), none, some (mp_i 0), some (mp_i 0), none, none]) [true, true, true, true, false, true, true, false, false] rfl ?_
            refine lX12_laws_64 (d := d) (f := f) (w := w) hA hh hel h_d h_f h_w 8 0 0 ⟨by omega, by omega, by omega, by omega, by omega⟩ ?_
            show mp_At _ _ 172 [some (Value.ref 44), some (mp_i d), some (mp_i f), some (mp_i w), none, some (mp_i (sp_lawsSet sz el d f)), none, none, none] [] _ _
            have hsb := mp_lawsSet_bd sz el d f
            refine mp_iload_n dX12_laws_172 rfl ?_
            refine mp_if_ne (tgt := 181) dX12_laws_173 rfl ⟨by omega, by omega⟩ (fun h8 => ?_) (fun h8 => ?_)
            · refine mp_iload dX12_laws_181 rfl ?_
              refine mp_invS (z := (mX12_bits, 0, 0, 0)) (K' := (0, 0)) (σ1 := A ++ (mp_ms s m img was num pro ask kp kk kf so sz el im pl ra re rm rf sd th ++ B)) (as := [mp_i (sp_lawsSet sz el d f)]) (st := []) (st1 := [mp_i (sp_bits (sp_lawsSet sz el d f))]) dX12_laws_183 ssX12_178 (zX12_bits (v := (sp_lawsSet sz el d f))  (by first | with_reducible assumption | omega)) ⟨Nat.le_of_ble_eq_true rfl, Nat.le_of_ble_eq_true rfl, Nat.le_of_ble_eq_true rfl, Nat.le_of_ble_eq_true rfl, Nat.le_of_ble_eq_true rfl⟩ rfl rfl rfl rfl ?_
              exact mp_ireturn (st := []) dX12_laws_186 rfl ⟨by decide, by decide⟩ ((mp_ans (by first | with_reducible rfl | (unfold sp_laws; omega) | (unfold sp_laws; first | (rw [if_pos (by omega)]; done) | (rw [if_neg (by omega)]; done) | (rw [if_neg (by omega), if_pos (by omega)]; done) | (rw [if_neg (by omega), if_neg (by omega)]; done) | (rw [if_neg (by omega), if_neg (by omega), if_pos (by omega)]; done) | (rw [if_neg (by omega), if_neg (by omega), if_neg (by omega)]; done) | (rw [if_neg (by omega), if_neg (by omega), if_neg (by omega), if_pos (by omega)]; done) | (rw [if_neg (by omega), if_neg (by omega), if_neg (by omega), if_neg (by omega)]; done) | (rw [if_neg (by omega), if_neg (by omega), if_neg (by omega), if_neg (by omega), if_pos (by omega)]; done) | (rw [if_neg (by omega), if_neg (by omega), if_neg (by omega), if_neg (by omega), if_neg (by omega)]; done)))))
            · refine mp_iload dX12_laws_176 rfl ?_
              refine mp_goto (tgt := 186) dX12_laws_178 rfl ?_
              exact mp_ireturn (st := []) dX12_laws_186 rfl ⟨by decide, by decide⟩ ((mp_ans (by first | with_reducible rfl | (unfold sp_laws; omega) | (unfold sp_laws; first | (rw [if_pos (by omega)]; done) | (rw [if_neg (by omega)]; done) | (rw [if_neg (by omega), if_pos (by omega)]; done) | (rw [if_neg (by omega), if_neg (by omega)]; done) | (rw [if_neg (by omega), if_neg (by omega), if_pos (by omega)]; done) | (rw [if_neg (by omega), if_neg (by omega), if_neg (by omega)]; done) | (rw [if_neg (by omega), if_neg (by omega), if_neg (by omega), if_pos (by omega)]; done) | (rw [if_neg (by omega), if_neg (by omega), if_neg (by omega), if_neg (by omega)]; done) | (rw [if_neg (by omega), if_neg (by omega), if_neg (by omega), if_neg (by omega), if_pos (by omega)]; done) | (rw [if_neg (by omega), if_neg (by omega), if_neg (by omega), if_neg (by omega), if_neg (by omega)]; done)))))
          · refine mp_iload dX12_laws_55 rfl ?_
            exact mp_ireturn (st := []) dX12_laws_57 rfl ⟨by decide, by decide⟩ ((mp_ans (by first | with_reducible rfl | (unfold sp_laws; omega) | (unfold sp_laws; first | (rw [if_pos (by omega)]; done) | (rw [if_neg (by omega)]; done) | (rw [if_neg (by omega), if_pos (by omega)]; done) | (rw [if_neg (by omega), if_neg (by omega)]; done) | (rw [if_neg (by omega), if_neg (by omega), if_pos (by omega)]; done) | (rw [if_neg (by omega), if_neg (by omega), if_neg (by omega)]; done) | (rw [if_neg (by omega), if_neg (by omega), if_neg (by omega), if_pos (by omega)]; done) | (rw [if_neg (by omega), if_neg (by omega), if_neg (by omega), if_neg (by omega)]; done) | (rw [if_neg (by omega), if_neg (by omega), if_neg (by omega), if_neg (by omega), if_pos (by omega)]; done) | (rw [if_neg (by omega), if_neg (by omega), if_neg (by omega), if_neg (by omega), if_neg (by omega)]; done)))))
        · refine mp_bipush dX12_laws_46 rfl ?_
          refine mp_istore (L' := [some (Value.ref 44), some (mp_i d), some (mp_i f), some (mp_i w), some (mp_i (-13)), none, none, none, none]) dX12_laws_48 (by decide) rfl ?_
          refine mp_iload dX12_laws_50 rfl ?_
          refine mp_if_eq (tgt := 58) dX12_laws_52 rfl ⟨by decide, by decide⟩ (fun h9 => absurd h9 (by decide)) (fun _ => ?_)
          refine mp_iload dX12_laws_55 rfl ?_
          exact mp_ireturn (st := []) dX12_laws_57 rfl ⟨by decide, by decide⟩ ((mp_ans (by first | with_reducible rfl | (unfold sp_laws; omega) | (unfold sp_laws; first | (rw [if_pos (by omega)]; done) | (rw [if_neg (by omega)]; done) | (rw [if_neg (by omega), if_pos (by omega)]; done) | (rw [if_neg (by omega), if_neg (by omega)]; done) | (rw [if_neg (by omega), if_neg (by omega), if_pos (by omega)]; done) | (rw [if_neg (by omega), if_neg (by omega), if_neg (by omega)]; done) | (rw [if_neg (by omega), if_neg (by omega), if_neg (by omega), if_pos (by omega)]; done) | (rw [if_neg (by omega), if_neg (by omega), if_neg (by omega), if_neg (by omega)]; done) | (rw [if_neg (by omega), if_neg (by omega), if_neg (by omega), if_neg (by omega), if_pos (by omega)]; done) | (rw [if_neg (by omega), if_neg (by omega), if_neg (by omega), if_neg (by omega), if_neg (by omega)]; done)))))
    · refine mp_iconst dX12_laws_19 ?_
      exact mp_ireturn (st := []) dX12_laws_20 rfl ⟨by decide, by decide⟩ ((mp_ans (by first | with_reducible rfl | (unfold sp_laws; omega) | (unfold sp_laws; first | (rw [if_pos (by omega)]; done) | (rw [if_neg (by omega)]; done) | (rw [if_neg (by omega), if_pos (by omega)]; done) | (rw [if_neg (by omega), if_neg (by omega)]; done) | (rw [if_neg (by omega), if_neg (by omega), if_pos (by omega)]; done) | (rw [if_neg (by omega), if_neg (by omega), if_neg (by omega)]; done) | (rw [if_neg (by omega), if_neg (by omega), if_neg (by omega), if_pos (by omega)]; done) | (rw [if_neg (by omega), if_neg (by omega), if_neg (by omega), if_neg (by omega)]; done) | (rw [if_neg (by omega), if_neg (by omega), if_neg (by omega), if_neg (by omega), if_pos (by omega)]; done) | (rw [if_neg (by omega), if_neg (by omega), if_neg (by omega), if_neg (by omega), if_neg (by omega)]; done)))))
theorem lX12_game_71 {s m img was num pro ask kp kk kf so sz el : Int → Int} {im pl ra re rm rf sd th : Int} {A B : mp_H}  {k : Int} {a : Int} {b : Int} {w : Int} (hA : A.length = 44) (hs : mp_sky s) (h_k : mp_w k) (h_a : mp_w a) (h_b : mp_w b) (h_w : mp_w w) {R9 : mp_An} : ∀ (n : Nat) (j : Int) (z : Int) (c : Int) (f : Int) (e : Int) (y : Int), ((0 ≤ j ∧ j + (n : Nat) = 3) ∧ (0 ≤ z ∧ z ≤ 1000000000) ∧ (0 ≤ y ∧ y ≤ 2) ∧ ((0 ≤ k ∧ k < s 0) ∧ (0 ≤ a ∧ a ≤ 5) ∧ (0 ≤ b ∧ b ≤ 5)) ∧ (j = 0 ∨ c = b + 5 * (j - 1))) → mp_At (mX12_game, 3, 0, 0) (0, 0) 123 [some (Value.ref 44), some (mp_i k), some (mp_i a), some (mp_i b), some (mp_i w), some (mp_i f), some (mp_i e), some (mp_i y), some (mp_i (mp_fold (sp_gmIn s k b (a + 5 * y)) n j z)), none] [] (A ++ (mp_ms s (mp_ud s (1 + 6 * k + 2) (b + 5 * 2)) img was num pro ask kp kk kf so sz el im pl ra re rm rf sd th ++ B)) R9 → mp_At (mX12_game, 3, 0, 0) (0, 0) 71 [some (Value.ref 44), some (mp_i k), some (mp_i a), some (mp_i b), some (mp_i w), some (mp_i f), some (mp_i e), some (mp_i y), some (mp_i z), some (mp_i j)] [] (A ++ (mp_ms s (mp_ud s (1 + 6 * k + 2) c) img was num pro ask kp kk kf so sz el im pl ra re rm rf sd th ++ B)) R9 := by
  intro n
  induction n with
  | zero =>
    intro j z c f e y hi hk
    obtain rfl : c = b + 5 * 2 := by omega
    refine mp_iload dX12_game_71 rfl ?_
    refine mp_iconst dX12_game_73 ?_
    refine mp_icmp_ge (tgt := 123) dX12_game_74 rfl ⟨by omega, by omega⟩ ⟨by omega, by omega⟩ (fun h1 => ?_) (fun h1 => ?_)
    · refine mp_drop (L' := [some (Value.ref 44), some (mp_i k), some (mp_i a), some (mp_i b), some (mp_i w), some (mp_i f), some (mp_i e), some (mp_i y), some (mp_i z), none]) [true, true, true, true, true, true, true, true, true, false] rfl ?_
      exact hk
    · exfalso; omega
  | succ n ih =>
    intro j z c f e y hi hk
    have h0 := hs.1
    have hm := hs.2.1 k (by omega) (by omega)
    refine mp_iload dX12_game_71 rfl ?_
    refine mp_iconst dX12_game_73 ?_
    refine mp_icmp_ge (tgt := 123) dX12_game_74 rfl ⟨by omega, by omega⟩ ⟨by omega, by omega⟩ (fun h1 => ?_) (fun h1 => ?_)
    · exfalso; omega
    · refine mp_aload_n dX12_game_77 rfl ?_
      refine mp_getfield dX12_game_78 fsX12_13_11 (mp_lk hA 0 rfl) rfl ?_
      refine mp_iload_n dX12_game_81 rfl ?_
      refine mp_iconst dX12_game_82 ?_
      refine mp_invS (z := (mX12_of, 0, 0, 0)) (K' := (0, 0)) (σ1 := A ++ (mp_ms s (mp_ud s (1 + 6 * k + 2) c) img was num pro ask kp kk kf so sz el im pl ra re rm rf sd th ++ B)) (as := [mp_i k, mp_i 2]) (st := [Value.ref 46]) (st1 := [mp_i (1 + 6 * k + 2), Value.ref 46]) dX12_game_83 ssX12_60 (zX12_of (k := k) (x := 2)  ) ⟨Nat.le_of_ble_eq_true rfl, Nat.le_of_ble_eq_true rfl, Nat.le_of_ble_eq_true rfl, Nat.le_of_ble_eq_true rfl, Nat.le_of_ble_eq_true rfl⟩ rfl rfl rfl rfl ?_
      refine mp_iload_n dX12_game_86 rfl ?_
      refine mp_iconst dX12_game_87 ?_
      refine mp_iload dX12_game_88 rfl ?_
      refine mp_imul (z := 5 * j) dX12_game_90 (by first | rfl | omega) ?_
      refine mp_iadd (z := b + (5 * j)) dX12_game_91 (by first | rfl | omega) ?_
      refine mp_iast (σ' := A ++ (mp_ms s (mp_ud (mp_ud s (1 + 6 * k + 2) c) (1 + 6 * k + 2) (b + (5 * j))) img was num pro ask kp kk kf so sz el im pl ra re rm rf sd th ++ B)) dX12_game_92 (mp_lk hA 2 rfl) (by decide) ⟨by omega, by omega⟩ (by decide) (mp_sts (Ms' := mp_ms s (mp_ud (mp_ud s (1 + 6 * k + 2) c) (1 + 6 * k + 2) (b + (5 * j))) img was num pro ask kp kk kf so sz el im pl ra re rm rf sd th) hA 2 (Nat.le_of_ble_eq_true rfl) rfl) ?_
      refine mp_sg (σ' := A ++ (mp_ms s (mp_ud s (1 + 6 * k + 2) (b + 5 * j)) img was num pro ask kp kk kf so sz el im pl ra re rm rf sd th ++ B)) (by rw [mp_ud_ud]) ?_
      have hm2 := mp_met_col (c := b + 5 * j) hm (by omega)
      refine mp_iload dX12_game_93 rfl ?_
      refine mp_aload_n dX12_game_95 rfl ?_
      refine mp_getfield dX12_game_96 fsX12_13_11 (mp_lk hA 0 rfl) rfl ?_
      refine mp_iload_n dX12_game_99 rfl ?_
      refine mp_iload_n dX12_game_100 rfl ?_
      refine mp_iconst dX12_game_101 ?_
      refine mp_iload dX12_game_102 rfl ?_
      refine mp_imul (z := 5 * y) dX12_game_104 (by first | rfl | omega) ?_
      refine mp_iadd (z := a + (5 * y)) dX12_game_105 (by first | rfl | omega) ?_
      refine mp_invS (z := (mX12_seenFrom, 2, 0, 0)) (K' := (0, 0)) (σ1 := A ++ (mp_ms s (mp_ud s (1 + 6 * k + 2) (b + 5 * j)) img was num pro ask kp kk kf so sz el im pl ra re rm rf sd th ++ B)) (as := [Value.ref 46, mp_i k, mp_i (a + (5 * y))]) (st := [mp_i z]) (st1 := [mp_i (sp_seen ((mp_ud s (1 + 6 * k + 2) (b + 5 * j)) (1 + 6 * k + 0)) ((mp_ud s (1 + 6 * k + 2) (b + 5 * j)) (1 + 6 * k + 1)) ((mp_ud s (1 + 6 * k + 2) (b + 5 * j)) (1 + 6 * k + 2)) ((mp_ud s (1 + 6 * k + 2) (b + 5 * j)) (1 + 6 * k + 3)) (a + (5 * y))), mp_i z]) dX12_game_106 ssX12_86 (zX12_seenFrom (r := 46) (k := k) (q := (a + (5 * y))) (s := (mp_ud s (1 + 6 * k + 2) (b + 5 * j))) (mp_lk hA 2 rfl) (by first | with_reducible assumption | omega) (by first | with_reducible assumption | omega) (by first | with_reducible assumption | omega)) ⟨Nat.le_of_ble_eq_true rfl, Nat.le_of_ble_eq_true rfl, Nat.le_of_ble_eq_true rfl, Nat.le_of_ble_eq_true rfl, Nat.le_of_ble_eq_true rfl⟩ rfl rfl rfl rfl ?_
      refine mp_top (y := sp_seen (s (1 + 6 * k + 0)) (s (1 + 6 * k + 1)) (b + 5 * j) (s (1 + 6 * k + 3)) (a + 5 * y)) (by rw [mp_ud_ne (by omega), mp_ud_ne (by omega), mp_ud_eq, mp_ud_ne (by omega)]) ?_
      have hsb := mp_seen_bd (kind := s (1 + 6 * k + 0)) (f := s (1 + 6 * k + 1)) (col := b + 5 * j) (slope := s (1 + 6 * k + 3)) (roof := a + 5 * y) (by omega)
      have hbb := mp_bits_bd (sp_seen (s (1 + 6 * k + 0)) (s (1 + 6 * k + 1)) (b + 5 * j) (s (1 + 6 * k + 3)) (a + 5 * y))
      refine mp_invS (z := (mX12_bits, 0, 0, 0)) (K' := (0, 0)) (σ1 := A ++ (mp_ms s (mp_ud s (1 + 6 * k + 2) (b + 5 * j)) img was num pro ask kp kk kf so sz el im pl ra re rm rf sd th ++ B)) (as := [mp_i (sp_seen (s (1 + 6 * k + 0)) (s (1 + 6 * k + 1)) (b + 5 * j) (s (1 + 6 * k + 3)) (a + 5 * y))]) (st := [mp_i z]) (st1 := [mp_i (sp_bits (sp_seen (s (1 + 6 * k + 0)) (s (1 + 6 * k + 1)) (b + 5 * j) (s (1 + 6 * k + 3)) (a + 5 * y))), mp_i z]) dX12_game_109 ssX12_178 (zX12_bits (v := (sp_seen (s (1 + 6 * k + 0)) (s (1 + 6 * k + 1)) (b + 5 * j) (s (1 + 6 * k + 3)) (a + 5 * y)))  (by first | with_reducible assumption | omega)) ⟨Nat.le_of_ble_eq_true rfl, Nat.le_of_ble_eq_true rfl, Nat.le_of_ble_eq_true rfl, Nat.le_of_ble_eq_true rfl, Nat.le_of_ble_eq_true rfl⟩ rfl rfl rfl rfl ?_
      refine mp_invS (z := (mX12_least, 0, 0, 0)) (K' := (0, 0)) (σ1 := A ++ (mp_ms s (mp_ud s (1 + 6 * k + 2) (b + 5 * j)) img was num pro ask kp kk kf so sz el im pl ra re rm rf sd th ++ B)) (as := [mp_i z, mp_i (sp_bits (sp_seen (s (1 + 6 * k + 0)) (s (1 + 6 * k + 1)) (b + 5 * j) (s (1 + 6 * k + 3)) (a + 5 * y)))]) (st := []) (st1 := [mp_i (if z < (sp_bits (sp_seen (s (1 + 6 * k + 0)) (s (1 + 6 * k + 1)) (b + 5 * j) (s (1 + 6 * k + 3)) (a + 5 * y))) then z else (sp_bits (sp_seen (s (1 + 6 * k + 0)) (s (1 + 6 * k + 1)) (b + 5 * j) (s (1 + 6 * k + 3)) (a + 5 * y))))]) dX12_game_112 ssX12_72 (zX12_least (a := z) (b := (sp_bits (sp_seen (s (1 + 6 * k + 0)) (s (1 + 6 * k + 1)) (b + 5 * j) (s (1 + 6 * k + 3)) (a + 5 * y))))  (by first | with_reducible assumption | omega) (by first | with_reducible assumption | omega)) ⟨Nat.le_of_ble_eq_true rfl, Nat.le_of_ble_eq_true rfl, Nat.le_of_ble_eq_true rfl, Nat.le_of_ble_eq_true rfl, Nat.le_of_ble_eq_true rfl⟩ rfl rfl rfl rfl ?_
      refine mp_istore (L' := [some (Value.ref 44), some (mp_i k), some (mp_i a), some (mp_i b), some (mp_i w), some (mp_i f), some (mp_i e), some (mp_i y), some (mp_i (if z < (sp_bits (sp_seen (s (1 + 6 * k + 0)) (s (1 + 6 * k + 1)) (b + 5 * j) (s (1 + 6 * k + 3)) (a + 5 * y))) then z else (sp_bits (sp_seen (s (1 + 6 * k + 0)) (s (1 + 6 * k + 1)) (b + 5 * j) (s (1 + 6 * k + 3)) (a + 5 * y))))), some (mp_i j)]) dX12_game_115 (by decide) rfl ?_
      refine mp_iinc (z := j + 1) (L' := [some (Value.ref 44), some (mp_i k), some (mp_i a), some (mp_i b), some (mp_i w), some (mp_i f), some (mp_i e), some (mp_i y), some (mp_i (if z < (sp_bits (sp_seen (s (1 + 6 * k + 0)) (s (1 + 6 * k + 1)) (b + 5 * j) (s (1 + 6 * k + 3)) (a + 5 * y))) then z else (sp_bits (sp_seen (s (1 + 6 * k + 0)) (s (1 + 6 * k + 1)) (b + 5 * j) (s (1 + 6 * k + 3)) (a + 5 * y))))), some (mp_i (j + 1))]) dX12_game_117 rfl (rfl) (by decide) rfl ?_
      refine mp_goto (tgt := 71) dX12_game_120 rfl ?_
      refine mp_loc (j := 8) (y := sp_gmIn s k b (a + 5 * y) j z) (by unfold sp_gmIn; with_reducible rfl) rfl (L' := [some (Value.ref 44), some (mp_i k), some (mp_i a), some (mp_i b), some (mp_i w), some (mp_i f), some (mp_i e), some (mp_i y), some (mp_i (sp_gmIn s k b (a + 5 * y) j z)), some (mp_i (j + 1))]) rfl ?_
      exact ih (j + 1) (sp_gmIn s k b (a + 5 * y) j z) (b + 5 * j) f e y (⟨by omega, mp_gmIn_bd hi.2.1, by omega, by omega, by omega⟩) hk
theorem lX12_game_58 {s m img was num pro ask kp kk kf so sz el : Int → Int} {im pl ra re rm rf sd th : Int} {A B : mp_H}  {k : Int} {a : Int} {b : Int} {w : Int} (hA : A.length = 44) (hs : mp_sky s) (h_k : mp_w k) (h_a : mp_w a) (h_b : mp_w b) (h_w : mp_w w) {R9 : mp_An} : ∀ (n : Nat) (y : Int) (p : Int × Int) (c : Int), ((0 ≤ y ∧ y + (n : Nat) = 3) ∧ ((0 ≤ k ∧ k < s 0) ∧ (0 ≤ a ∧ a ≤ 5) ∧ (0 ≤ b ∧ b ≤ 5)) ∧ (-1 ≤ p.2 ∧ p.2 ≤ 1000000000) ∧ (y = 0 ∨ c = b + 5 * 2)) → mp_At (mX12_game, 3, 0, 0) (0, 0) 151 [some (Value.ref 44), some (mp_i k), some (mp_i a), some (mp_i b), some (mp_i w), some (mp_i ((mp_fold (sp_gmStep s k a b) n y p).1)), some (mp_i ((mp_fold (sp_gmStep s k a b) n y p).2)), none, none, none] [] (A ++ (mp_ms s (mp_ud s (1 + 6 * k + 2) (b + 5 * 2)) img was num pro ask kp kk kf so sz el im pl ra re rm rf sd th ++ B)) R9 → mp_At (mX12_game, 3, 0, 0) (0, 0) 58 [some (Value.ref 44), some (mp_i k), some (mp_i a), some (mp_i b), some (mp_i w), some (mp_i p.1), some (mp_i p.2), some (mp_i y), none, none] [] (A ++ (mp_ms s (mp_ud s (1 + 6 * k + 2) c) img was num pro ask kp kk kf so sz el im pl ra re rm rf sd th ++ B)) R9 := by
  intro n
  induction n with
  | zero =>
    intro y p c hi hk
    obtain rfl : c = b + 5 * 2 := by omega
    refine mp_iload dX12_game_58 rfl ?_
    refine mp_iconst dX12_game_60 ?_
    refine mp_icmp_ge (tgt := 151) dX12_game_61 rfl ⟨by omega, by omega⟩ ⟨by omega, by omega⟩ (fun h1 => ?_) (fun h1 => ?_)
    · refine mp_drop (L' := [some (Value.ref 44), some (mp_i k), some (mp_i a), some (mp_i b), some (mp_i w), some (mp_i p.1), some (mp_i p.2), none, none, none]) [true, true, true, true, true, true, true, false, false, false] rfl ?_
      exact hk
    · exfalso; omega
  | succ n ih =>
    intro y p c hi hk
    have h0 := hs.1
    have hgb := mp_gm_bd s k b (a + 5 * y)
    refine mp_iload dX12_game_58 rfl ?_
    refine mp_iconst dX12_game_60 ?_
    refine mp_icmp_ge (tgt := 151) dX12_game_61 rfl ⟨by omega, by omega⟩ ⟨by omega, by omega⟩ (fun h1 => ?_) (fun h1 => ?_)
    · exfalso; omega
    · refine mp_ldc (z := 1000000000) dX12_game_64 kcX12_224 rfl ?_
      refine mp_istore (L' := [some (Value.ref 44), some (mp_i k), some (mp_i a), some (mp_i b), some (mp_i w), some (mp_i p.1), some (mp_i p.2), some (mp_i y), some (mp_i 1000000000), none]) dX12_game_66 (by decide) rfl ?_
      refine mp_iconst dX12_game_68 ?_
      refine mp_istore (L' := [some (Value.ref 44), some (mp_i k), some (mp_i a), some (mp_i b), some (mp_i w), some (mp_i p.1), some (mp_i p.2), some (mp_i y), some (mp_i 1000000000), some (mp_i 0)]) dX12_game_69 (by decide) rfl ?_
      refine lX12_game_71 (m := m) (k := k) (a := a) (b := b) (w := w) hA hs h_k h_a h_b h_w 3 0 1000000000 c p.1 p.2 y ⟨by omega, by omega, by omega, by omega, Or.inl rfl⟩ ?_
      show mp_At _ _ 123 [some (Value.ref 44), some (mp_i k), some (mp_i a), some (mp_i b), some (mp_i w), some (mp_i p.1), some (mp_i p.2), some (mp_i y), some (mp_i (sp_gm s k b (a + 5 * y))), none] [] _ _
      refine mp_iload dX12_game_123 rfl ?_
      refine mp_iload dX12_game_125 rfl ?_
      refine mp_icmp_gt (tgt := 133) dX12_game_127 rfl ⟨by omega, by omega⟩ ⟨by omega, by omega⟩ (fun h2 => ?_) (fun h2 => ?_)
      · refine mp_iload_n dX12_game_133 rfl ?_
        refine mp_iconst dX12_game_134 ?_
        refine mp_iload dX12_game_135 rfl ?_
        refine mp_imul (z := 5 * y) dX12_game_137 (by first | rfl | omega) ?_
        refine mp_iadd (z := a + (5 * y)) dX12_game_138 (by first | rfl | omega) ?_
        refine mp_istore (L' := [some (Value.ref 44), some (mp_i k), some (mp_i a), some (mp_i b), some (mp_i w), some (mp_i (a + (5 * y))), some (mp_i p.2), some (mp_i y), some (mp_i (sp_gm s k b (a + 5 * y))), none]) dX12_game_139 (by decide) rfl ?_
        refine mp_iload dX12_game_141 rfl ?_
        refine mp_istore (L' := [some (Value.ref 44), some (mp_i k), some (mp_i a), some (mp_i b), some (mp_i w), some (mp_i (a + (5 * y))), some (mp_i (sp_gm s k b (a + 5 * y))), some (mp_i y), some (mp_i (sp_gm s k b (a + 5 * y))), none]) dX12_game_143 (by decide) rfl ?_
        refine mp_iinc (z := y + 1) (L' := [some (Value.ref 44), some (mp_i k), some (mp_i a), some (mp_i b), some (mp_i w), some (mp_i (a + (5 * y))), some (mp_i (sp_gm s k b (a + 5 * y))), some (mp_i (y + 1)), some (mp_i (sp_gm s k b (a + 5 * y))), none]) dX12_game_145 rfl (rfl) (by decide) rfl ?_
        refine mp_goto (tgt := 58) dX12_game_148 rfl ?_
        have e9 : sp_gmStep s k a b y p = (a + 5 * y, sp_gm s k b (a + 5 * y)) := by unfold sp_gmStep; first | (rw [if_pos (by omega)]; done) | (rw [if_neg (by omega)]; done)
        have k9 := ih (y + 1) (sp_gmStep s k a b y p) (b + 5 * 2) ⟨by omega, hi.2.1, (by rw [e9]; omega), by omega⟩ hk
        rw [e9] at k9
        refine mp_drop (L' := [some (Value.ref 44), some (mp_i k), some (mp_i a), some (mp_i b), some (mp_i w), some (mp_i (a + (5 * y))), some (mp_i (sp_gm s k b (a + 5 * y))), some (mp_i (y + 1)), none, none]) [true, true, true, true, true, true, true, true, false, false] rfl ?_
        exact k9
      · refine mp_goto (tgt := 145) dX12_game_130 rfl ?_
        refine mp_iinc (z := y + 1) (L' := [some (Value.ref 44), some (mp_i k), some (mp_i a), some (mp_i b), some (mp_i w), some (mp_i p.1), some (mp_i p.2), some (mp_i (y + 1)), some (mp_i (sp_gm s k b (a + 5 * y))), none]) dX12_game_145 rfl (rfl) (by decide) rfl ?_
        refine mp_goto (tgt := 58) dX12_game_148 rfl ?_
        have e9 : sp_gmStep s k a b y p = p := by unfold sp_gmStep; first | (rw [if_pos (by omega)]; done) | (rw [if_neg (by omega)]; done)
        have k9 := ih (y + 1) (sp_gmStep s k a b y p) (b + 5 * 2) ⟨by omega, hi.2.1, (by rw [e9]; omega), by omega⟩ hk
        rw [e9] at k9
        refine mp_drop (L' := [some (Value.ref 44), some (mp_i k), some (mp_i a), some (mp_i b), some (mp_i w), some (mp_i p.1), some (mp_i p.2), some (mp_i (y + 1)), none, none]) [true, true, true, true, true, true, true, true, false, false] rfl ?_
        exact k9
theorem zX12_game {s m img was num pro ask kp kk kf so sz el : Int → Int} {im pl ra re rm rf sd th : Int} {A B : mp_H}  {k : Int} {a : Int} {b : Int} {w : Int} (hA : A.length = 44) (hs : mp_sky s) (h_k : mp_w k) (h_a : mp_w a) (h_b : mp_w b) (h_w : mp_w w) : mp_Call (mX12_game, 3, 0, 0) [Value.ref 44, mp_i k, mp_i a, mp_i b, mp_i w] (A ++ (mp_ms s m img was num pro ask kp kk kf so sz el im pl ra re rm rf sd th ++ B)) (some (mp_i (sp_game s k a b w)), A ++ (mp_ms s (if (0 ≤ k ∧ k ≤ s 0 - 1) ∧ (0 ≤ a ∧ a ≤ 5) ∧ (0 ≤ b ∧ b ≤ 5) ∧ (0 ≤ w ∧ w ≤ 1) then mp_ud s (1 + 6 * k + 2) (b + 5 * 2) else m) img was num pro ask kp kk kf so sz el im pl ra re rm rf sd th ++ B)) := by
  refine mp_Call.of (L := [some (Value.ref 44), some (mp_i k), some (mp_i a), some (mp_i b), some (mp_i w), none, none, none, none, none]) pnX12 (Nat.le_of_ble_eq_true rfl) rfl ?_
  have h0 := hs.1
  refine mp_aload_n dX12_game_0 rfl ?_
  refine mp_iload_n dX12_game_1 rfl ?_
  refine mp_invV (z := (mX12_isMeteor, 1, 0, 0)) (K' := (0, 0)) (σ1 := A ++ (mp_ms s m img was num pro ask kp kk kf so sz el im pl ra re rm rf sd th ++ B)) (as := [mp_i k]) (st := []) (st1 := [mp_i (if 0 ≤ k ∧ k ≤ s 0 - 1 then 1 else 0)]) dX12_game_2 svX12_158 (mp_lk hA 0 rfl) rfl rfl (zX12_isMeteor (k := k) (s := s) (m := m) (img := img) (was := was) (num := num) (pro := pro) (ask := ask) (kp := kp) (kk := kk) (kf := kf) (so := so) (sz := sz) (el := el) (im := im) (pl := pl) (ra := ra) (re := re) (rm := rm) (rf := rf) (sd := sd) (th := th) (by first | with_reducible assumption | omega) (by first | with_reducible assumption | omega) (by first | with_reducible assumption | omega)) ⟨Nat.le_of_ble_eq_true rfl, Nat.le_of_ble_eq_true rfl, Nat.le_of_ble_eq_true rfl, Nat.le_of_ble_eq_true rfl, Nat.le_of_ble_eq_true rfl⟩ rfl rfl rfl rfl ?_
  refine mp_ifb_eq (tgt := 36) dX12_game_5 rfl (fun h1 => ?_) (fun h1 => ?_)
  · refine mp_iconst dX12_game_36 ?_
    exact mp_ireturn (st := []) dX12_game_37 rfl ⟨by decide, by decide⟩ ((by rw [if_neg (by omega), show sp_game s k a b w = -1 from if_pos (by omega)]))
  · refine mp_iload_n dX12_game_8 rfl ?_
    refine mp_iconst dX12_game_9 ?_
    refine mp_iconst dX12_game_10 ?_
    refine mp_invS (z := (mX12_isIn, 0, 0, 0)) (K' := (0, 0)) (σ1 := A ++ (mp_ms s m img was num pro ask kp kk kf so sz el im pl ra re rm rf sd th ++ B)) (as := [mp_i a, mp_i 0, mp_i 5]) (st := []) (st1 := [mp_i (if 0 ≤ a ∧ a ≤ 5 then 1 else 0)]) dX12_game_11 ssX12_53 (zX12_isIn (v := a) (a := 0) (b := 5)  (by first | with_reducible assumption | omega) (by first | with_reducible assumption | omega) (by first | with_reducible assumption | omega)) ⟨Nat.le_of_ble_eq_true rfl, Nat.le_of_ble_eq_true rfl, Nat.le_of_ble_eq_true rfl, Nat.le_of_ble_eq_true rfl, Nat.le_of_ble_eq_true rfl⟩ rfl rfl rfl rfl ?_
    refine mp_ifb_eq (tgt := 36) dX12_game_14 rfl (fun h2 => ?_) (fun h2 => ?_)
    · refine mp_iconst dX12_game_36 ?_
      exact mp_ireturn (st := []) dX12_game_37 rfl ⟨by decide, by decide⟩ ((by rw [if_neg (by omega), show sp_game s k a b w = -1 from if_pos (by omega)]))
    · refine mp_iload_n dX12_game_17 rfl ?_
      refine mp_iconst dX12_game_18 ?_
      refine mp_iconst dX12_game_19 ?_
      refine mp_invS (z := (mX12_isIn, 0, 0, 0)) (K' := (0, 0)) (σ1 := A ++ (mp_ms s m img was num pro ask kp kk kf so sz el im pl ra re rm rf sd th ++ B)) (as := [mp_i b, mp_i 0, mp_i 5]) (st := []) (st1 := [mp_i (if 0 ≤ b ∧ b ≤ 5 then 1 else 0)]) dX12_game_20 ssX12_53 (zX12_isIn (v := b) (a := 0) (b := 5)  (by first | with_reducible assumption | omega) (by first | with_reducible assumption | omega) (by first | with_reducible assumption | omega)) ⟨Nat.le_of_ble_eq_true rfl, Nat.le_of_ble_eq_true rfl, Nat.le_of_ble_eq_true rfl, Nat.le_of_ble_eq_true rfl, Nat.le_of_ble_eq_true rfl⟩ rfl rfl rfl rfl ?_
      refine mp_ifb_eq (tgt := 36) dX12_game_23 rfl (fun h3 => ?_) (fun h3 => ?_)
      · refine mp_iconst dX12_game_36 ?_
        exact mp_ireturn (st := []) dX12_game_37 rfl ⟨by decide, by decide⟩ ((by rw [if_neg (by omega), show sp_game s k a b w = -1 from if_pos (by omega)]))
      · refine mp_iload dX12_game_26 rfl ?_
        refine mp_iconst dX12_game_28 ?_
        refine mp_iconst dX12_game_29 ?_
        refine mp_invS (z := (mX12_isIn, 0, 0, 0)) (K' := (0, 0)) (σ1 := A ++ (mp_ms s m img was num pro ask kp kk kf so sz el im pl ra re rm rf sd th ++ B)) (as := [mp_i w, mp_i 0, mp_i 1]) (st := []) (st1 := [mp_i (if 0 ≤ w ∧ w ≤ 1 then 1 else 0)]) dX12_game_30 ssX12_53 (zX12_isIn (v := w) (a := 0) (b := 1)  (by first | with_reducible assumption | omega) (by first | with_reducible assumption | omega) (by first | with_reducible assumption | omega)) ⟨Nat.le_of_ble_eq_true rfl, Nat.le_of_ble_eq_true rfl, Nat.le_of_ble_eq_true rfl, Nat.le_of_ble_eq_true rfl, Nat.le_of_ble_eq_true rfl⟩ rfl rfl rfl rfl ?_
        refine mp_ifb_ne (tgt := 38) dX12_game_33 rfl (fun h4 => ?_) (fun h4 => ?_)
        · refine mp_aload_n dX12_game_38 rfl ?_
          refine mp_getfield dX12_game_39 fsX12_9_11 (mp_lk hA 0 rfl) rfl ?_
          refine mp_aload_n dX12_game_42 rfl ?_
          refine mp_getfield dX12_game_43 fsX12_13_11 (mp_lk hA 0 rfl) rfl ?_
          refine mp_invS (z := (mX12_copies, 0, 0, 0)) (K' := (0, 0)) (σ1 := A ++ (mp_ms s s img was num pro ask kp kk kf so sz el im pl ra re rm rf sd th ++ B)) (as := [Value.ref 45, Value.ref 46]) (st := []) (st1 := []) dX12_game_46 ssX12_151 (mp_Call.cast (zX12_copies (a := 45) (b := 46) (f := s) (g := m) (mp_lk hA 1 rfl) (mp_lk hA 2 rfl) (by first | with_reducible assumption | omega) (by first | with_reducible assumption | omega)) rfl (congrArg (Prod.mk _) (mp_sts (Ms' := mp_ms s s img was num pro ask kp kk kf so sz el im pl ra re rm rf sd th) hA 2 (Nat.le_of_ble_eq_true rfl) rfl))) ⟨Nat.le_of_ble_eq_true rfl, Nat.le_of_ble_eq_true rfl, Nat.le_of_ble_eq_true rfl, Nat.le_of_ble_eq_true rfl, Nat.le_of_ble_eq_true rfl⟩ rfl rfl rfl rfl ?_
          refine mp_iconst dX12_game_49 ?_
          refine mp_istore (L' := [some (Value.ref 44), some (mp_i k), some (mp_i a), some (mp_i b), some (mp_i w), some (mp_i 0), none, none, none, none]) dX12_game_50 (by decide) rfl ?_
          refine mp_iconst dX12_game_52 ?_
          refine mp_istore (L' := [some (Value.ref 44), some (mp_i k), some (mp_i a), some (mp_i b), some (mp_i w), some (mp_i 0), some (mp_i (-1)), none, none, none]) dX12_game_53 (by decide) rfl ?_
          refine mp_iconst dX12_game_55 ?_
          refine mp_istore (L' := [some (Value.ref 44), some (mp_i k), some (mp_i a), some (mp_i b), some (mp_i w), some (mp_i 0), some (mp_i (-1)), some (mp_i 0), none, none]) dX12_game_56 (by decide) rfl ?_
          refine mp_sg (σ' := A ++ (mp_ms s (mp_ud s (1 + 6 * k + 2) (s (1 + 6 * k + 2))) img was num pro ask kp kk kf so sz el im pl ra re rm rf sd th ++ B)) (by rw [mp_ud_self]) ?_
          refine lX12_game_58 (m := m) (k := k) (a := a) (b := b) (w := w) hA hs h_k h_a h_b h_w 3 0 (0, -1) (s (1 + 6 * k + 2)) ⟨by omega, by omega, by decide, Or.inl rfl⟩ ?_
          show mp_At _ _ 151 [some (Value.ref 44), some (mp_i k), some (mp_i a), some (mp_i b), some (mp_i w), some (mp_i ((sp_gmAll s k a b).1)), some (mp_i ((sp_gmAll s k a b).2)), none, none, none] [] _ _
          refine mp_iload dX12_game_151 rfl ?_
          refine mp_if_ne (tgt := 161) dX12_game_153 rfl ⟨by omega, by omega⟩ (fun h5 => ?_) (fun h5 => ?_)
          · refine mp_iload dX12_game_161 rfl ?_
            exact mp_ireturn (st := []) dX12_game_163 rfl ⟨by decide, by decide⟩ ((by rw [if_pos ⟨by omega, by omega, by omega, by omega⟩, show sp_game s k a b w = (sp_gmAll s k a b).1 from by unfold sp_game; first | (rw [if_neg (by omega), if_pos (by omega)]; done) | (rw [if_neg (by omega), if_neg (by omega)]; done)]))
          · refine mp_iload dX12_game_156 rfl ?_
            refine mp_goto (tgt := 163) dX12_game_158 rfl ?_
            exact mp_ireturn (st := []) dX12_game_163 rfl ⟨by decide, by decide⟩ ((by rw [if_pos ⟨by omega, by omega, by omega, by omega⟩, show sp_game s k a b w = (sp_gmAll s k a b).2 from by unfold sp_game; first | (rw [if_neg (by omega), if_pos (by omega)]; done) | (rw [if_neg (by omega), if_neg (by omega)]; done)]))
        · refine mp_iconst dX12_game_36 ?_
          exact mp_ireturn (st := []) dX12_game_37 rfl ⟨by decide, by decide⟩ ((by rw [if_neg (by omega), show sp_game s k a b w = -1 from if_pos (by omega)]))
theorem zX12_drawn {s m img was num pro ask kp kk kf so sz el : Int → Int} {im pl ra re rm rf sd th : Int} {A B : mp_H}  {n : Int} (hA : A.length = 44) (h_n : 1 ≤ n ∧ n ≤ 100) : mp_Call (mX12_drawn, 0, 0, 0) [Value.ref 44, mp_i n] (A ++ (mp_ms s m img was num pro ask kp kk kf so sz el im pl ra re rm rf sd th ++ B)) (some (mp_i (sp_hb (sp_nx sd) n)), A ++ (mp_ms s m img was num pro ask kp kk kf so sz el im pl ra re rm rf (sp_nx sd) th ++ B)) := by
  refine mp_Call.of (L := [some (Value.ref 44), some (mp_i n)]) pnX12 (Nat.le_of_ble_eq_true rfl) rfl ?_
  refine mp_aload_n dX12_drawn_0 rfl ?_
  refine mp_aload_n dX12_drawn_1 rfl ?_
  refine mp_getfield dX12_drawn_2 fsX12_231_11 (mp_lk hA 0 rfl) rfl ?_
  refine mp_ldc (z := 1103515245) dX12_drawn_5 kcX12_234 rfl ?_
  refine mp_imul (z := sd * 1103515245) dX12_drawn_7 (by first | rfl | omega) ?_
  refine mp_sipush dX12_drawn_8 rfl ?_
  refine mp_iadd (z := (sd * 1103515245) + 12345) dX12_drawn_11 (by first | rfl | omega) ?_
  refine mp_putfield (σ' := A ++ (mp_ms s m img was num pro ask kp kk kf so sz el im pl ra re rm rf ((sd * 1103515245) + 12345) th ++ B)) dX12_drawn_12 fsX12_231_11 rfl (Or.inl rfl) (tyX12_ok 13 (by decide)) (fun _ => ⟨rfl, rfl⟩) (mp_lk hA 0 rfl) (by decide) (Nat.le_of_ble_eq_true rfl) (mp_sts (Ms' := mp_ms s m img was num pro ask kp kk kf so sz el im pl ra re rm rf ((sd * 1103515245) + 12345) th) hA 0 (Nat.le_of_ble_eq_true rfl) rfl) ?_
  refine mp_aload_n dX12_drawn_15 rfl ?_
  refine mp_getfield dX12_drawn_16 fsX12_231_11 (mp_lk hA 0 rfl) rfl ?_
  refine mp_ldc (z := 2147483647) dX12_drawn_19 kcX12_235 rfl ?_
  refine mp_iand (z := ((sd * 1103515245) + 12345) % 2147483648) dX12_drawn_21 (mp_z_low31 _) ?_
  refine mp_ldc (z := 65536) dX12_drawn_22 kcX12_181 rfl ?_
  refine mp_idiv (z := (((sd * 1103515245) + 12345) % 2147483648) / 65536) dX12_drawn_24 ⟨by omega, by omega⟩ ⟨by omega, by omega⟩ rfl ?_
  refine mp_iload_n dX12_drawn_25 rfl ?_
  refine mp_irem (z := ((((sd * 1103515245) + 12345) % 2147483648) / 65536) % n) dX12_drawn_26 ⟨by omega, by omega⟩ ⟨by omega, by omega⟩ rfl ?_
  exact mp_ireturn (st := []) dX12_drawn_27 rfl ⟨by decide, by decide⟩ ((mp_ans (by rfl)))
