/-! A SENTENCE IS READ: the reference at an operand -/
theorem op_B {f0 : Nat} {Y : YS} {X Z : XS} (g : GY Y) (W : WF Z) (c : TokC X) (r : TokR X Z) (rs : RsC X) (h : ¬ XF X 4 0 5 = 40) (k : XF X 4 0 8 < 18) : fX12_operand f0 (Ad Y 12 0) (hp Y Z) = some (0, hp Y (rfR Z 1)) := by
  have lf := r_leafOf (f0 := f0) g W c r rs
  rw [if_neg (by omega)] at lf
  have n1 : ¬ XF X 4 0 8 = 18 := by omega
  have n2 : ¬ (0 : Int) ≤ -1 := by decide
  have sg := r_isSign (f0 := f0) g W c r (s := 40) (by unfold tS; omega)
  have bd : fX12_bad f0 (Ad Y 12 0) (iI 1) (hp Y Z) = some (0, hp Y (rfR Z 1)) := r_bad g
  simp (disch := first | assumption | omega) only [fX12_operand, k_12, li_40, li_0, li_1, ob2, Option.bind_some, iI_add, rw_18 g W c r rs, li_40, sg, lf, bI_i0, ite_n, if_neg n1, if_neg h, iI_le, if_neg n2, bd]
  exact zr_i0
theorem op_C {f0 : Nat} {Y : YS} {X Z : XS} (g : GY Y) (W : WF Z) (c : TokC X) (r : TokR X Z) (rs : RsC X) (h : ¬ XF X 4 0 5 = 40) (k : 19 ≤ XF X 4 0 8) : fX12_operand f0 (Ad Y 12 0) (hp Y Z) = bX12_operand_38 f0 (Ad Y 12 0) 0 0 (iI (XF X 4 0 8 - 19)) (hp Y Z) := by
  have lf := r_leafOf (f0 := f0) g W c r rs
  have kr := key_rg c
  rw [if_pos k] at lf
  have n1 : ¬ XF X 4 0 8 = 18 := by omega
  have n2 : (0 : Int) ≤ XF X 4 0 8 - 19 := by omega
  have sg := r_isSign (f0 := f0) g W c r (s := 40) (by unfold tS; omega)
  have b1 : bI (XF X 4 0 8 = 18) = iI 0 := bI_F n1
  have b2 : bI (XF X 4 0 5 = 40) = iI 0 := bI_F h
  simp (disch := first | assumption | omega) only [fX12_operand, k_12, li_40, li_0, li_1, ob2, Option.bind_some, iI_add, rw_18 g W c r rs, li_40, sg, lf, b1, b2, iI_eq, if_true, iI_le, if_pos n2]
theorem op_N {f0 : Nat} {Y : YS} {X Z : XS} (g : GY Y) (W : WF Z) (c : TokC X) (r : TokR X Z) (rs : RsC X) (h : ¬ XF X 4 0 5 = 40) (k : XF X 4 0 8 = 18) : fX12_operand f0 (Ad Y 12 0) (hp Y Z) = bX12_operand_38 f0 (Ad Y 12 0) (iI 1) (iI 0) (iI (-1)) (hp Y Z) := by
  have lf := r_leafOf (f0 := f0) g W c r rs
  rw [if_neg (by omega)] at lf
  have sg := r_isSign (f0 := f0) g W c r (s := 40) (by unfold tS; omega)
  have b1 : bI (XF X 4 0 8 = 18) = iI 1 := bI_T k
  have b2 : bI (XF X 4 0 5 = 40) = iI 0 := bI_F h
  simp (disch := first | assumption | omega) only [fX12_operand, k_12, li_40, li_0, li_1, ob2, Option.bind_some, iI_add, rw_18 g W c r rs, li_40, sg, lf, b1, b2, iI_eq, Int.reduceEq, if_false]
theorem op_P {f0 : Nat} {Y : YS} {X Z : XS} (g : GY Y) (W : WF Z) (c : TokC X) (r : TokR X Z) (rs : RsC X) (h : XF X 4 0 5 = 40) : fX12_operand f0 (Ad Y 12 0) (hp Y Z) = bX12_operand_38 f0 (Ad Y 12 0) (iI 0) (iI 1) (iI (-1)) (hp Y Z) := by
  have lf := r_leafOf (f0 := f0) g W c r rs
  have k8 : XF X 4 0 8 = -1 := by
    rcases c.2.2.2.2 with k | k | k | k | k
    · exact k.2
    · omega
    · exact k.2.1
    · exact k.2
    · exact k.2
  rw [if_neg (by omega)] at lf
  have sg := r_isSign (f0 := f0) g W c r (s := 40) (by unfold tS; omega)
  have b1 : bI (XF X 4 0 8 = 18) = iI 0 := bI_F (by omega)
  have b2 : bI (XF X 4 0 5 = 40) = iI 1 := bI_T h
  simp (disch := first | assumption | omega) only [fX12_operand, k_12, li_40, li_0, li_1, ob2, Option.bind_some, iI_add, rw_18 g W c r rs, li_40, sg, lf, b1, b2, iI_eq, Int.reduceEq, if_false, if_true]
theorem op38_bad {f0 : Nat} {Y : YS} {Z : XS} (g : GY Y) (W : WF Z) {v1 v2 v3 : Int32} (h : XF Z 12 0 41 = 20 ∨ ¬ XF Z 12 0 43 ≤ 8) : bX12_operand_38 f0 (Ad Y 12 0) v1 v2 v3 (hp Y Z) = some (0, hp Y (rfR Z 4)) := by
  have bd : fX12_bad f0 (Ad Y 12 0) (iI 4) (hp Y Z) = some (0, hp Y (rfR Z 4)) := r_bad g
  by_cases a : XF Z 12 0 41 = 20
  · simp (maxSteps := 4000000) (disch := first | assumption | omega | exact W_fl W _ _ _ | exact W_fh W _ _ _ | exact W_rl W _ _ _ | exact W_rh W _ _ _) only [bX12_operand_38, bX12_operand_56, g_12_41, k_12, li_4, li_20, Option.bind_some, ob2, iI_eq, if_pos a, bd]
    exact zr_i0
  · have b : ¬ XF Z 12 0 43 ≤ 8 := by omega
    simp (maxSteps := 4000000) (disch := first | assumption | omega | exact W_fl W _ _ _ | exact W_fh W _ _ _ | exact W_rl W _ _ _ | exact W_rh W _ _ _) only [bX12_operand_38, bX12_operand_56, g_12_41, g_12_43, k_12, li_4, li_20, li_8, Option.bind_some, ob2, iI_eq, if_neg a, iI_le, if_neg b, bd]
    exact zr_i0
def puZ (Z : XS) (c : Int) : XS := sF (sF (sR Z 77 0 (upi (XR Z 77 0) (XF Z 12 0 42) c)) 12 0 42 (XF Z 12 0 42 + 1)) 12 0 43 (XF Z 12 0 43 + 1)
theorem op84 {f0 : Nat} {Y : YS} {Z : XS} (g : GY Y) (W : WF Z) {v c : Int} (hv : v = 0 ∧ c = 23 ∨ v = 1 ∧ c = 20) (t0 : 0 ≤ XF Z 12 0 42) (t1 : XF Z 12 0 42 < 45) (d0 : 0 ≤ XF Z 12 0 43 ∧ XF Z 12 0 43 ≤ 100) : bX12_operand_84 f0 (Ad Y 12 0) (iI v) (hp Y Z) = some (1, hp Y (puZ Z c)) := by
  have y1 : ∀ r, XF (sR Z 77 0 r) 12 0 42 = XF Z 12 0 42 := fun _ => rfl
  have y2 : ∀ r v, XF (sF (sR Z 77 0 r) 12 0 42 v) 12 0 43 = XF Z 12 0 43 := fun _ _ => rfl
  rcases hv with ⟨e1, e2⟩ | ⟨e1, e2⟩ <;> subst e1 <;> subst e2 <;>
  · simp (disch := first | assumption | omega | exact W_fl W _ _ _ | exact W_fh W _ _ _ | exact W_rl W _ _ _ | exact W_rh W _ _ _) only [bX12_operand_84, bX12_operand_103, g_12_39, g_12_42, g_12_43, s_77, p_12_42, p_12_43, li_0, li_1, li_20, li_23, Option.bind_some, iI_add, iI_eq, Int.reduceEq, if_true, if_false, y1, y2]
    exact zr_i1
theorem op38_push {f0 : Nat} {Y : YS} {Z Z2 : XS} (g : GY Y) (W : WF Z) (W2 : WF Z2) {v1 v2 c : Int} {v3 : Int32} (hv : v1 = 1 ∧ v2 = 0 ∧ c = 20 ∨ v1 = 0 ∧ v2 = 1 ∧ c = 23) (h1 : ¬ XF Z 12 0 41 = 20) (h2 : XF Z 12 0 43 ≤ 8) (nx : fX12_next f0 (Ad Y 12 0) (hp Y (sF Z 12 0 41 (XF Z 12 0 41 + 1))) = some (hp Y Z2)) (t0 : 0 ≤ XF Z2 12 0 42) (t1 : XF Z2 12 0 42 < 45) (d0 : 0 ≤ XF Z2 12 0 43 ∧ XF Z2 12 0 43 ≤ 100) : bX12_operand_38 f0 (Ad Y 12 0) (iI v1) (iI v2) v3 (hp Y Z) = some (1, hp Y (puZ Z2 c)) := by
  rcases hv with ⟨e1, e2, e3⟩ | ⟨e1, e2, e3⟩
  · subst e1; subst e2
    have o := op84 (f0 := f0) (Y := Y) g W2 (v := 1) (c := c) (.inr ⟨rfl, e3⟩) t0 t1 d0
    simp (maxSteps := 4000000) (disch := first | assumption | omega | exact W_fl W _ _ _ | exact W_fh W _ _ _ | exact W_rl W _ _ _ | exact W_rh W _ _ _) only [bX12_operand_38, g_12_41, g_12_43, p_12_41, k_12, li_0, li_1, li_20, li_8, Option.bind_some, iI_add, iI_eq, if_neg h1, iI_le, if_pos h2, nx, Int.reduceEq, if_true, if_false, o]
  · subst e1; subst e2
    have o := op84 (f0 := f0) (Y := Y) g W2 (v := 0) (c := c) (.inl ⟨rfl, e3⟩) t0 t1 d0
    simp (maxSteps := 4000000) (disch := first | assumption | omega | exact W_fl W _ _ _ | exact W_fh W _ _ _ | exact W_rl W _ _ _ | exact W_rh W _ _ _) only [bX12_operand_38, g_12_41, g_12_43, p_12_41, k_12, li_0, li_1, li_20, li_8, Option.bind_some, iI_add, iI_eq, if_neg h1, iI_le, if_pos h2, nx, Int.reduceEq, if_true, if_false, o]
