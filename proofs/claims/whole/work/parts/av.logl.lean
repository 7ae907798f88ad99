/-! A LOG IS READ: one line, from its verb on -/
theorem iLT {a b : Int} (h : a < b) (ha : -2147483648 ≤ a) (ha' : a < 2147483648) (hb : -2147483648 ≤ b) (hb' : b < 2147483648) : iI a < iI b := by rw [iI_lt ha ha' hb hb']; exact h
theorem iNLT {a b : Int} (h : ¬ a < b) (ha : -2147483648 ≤ a) (ha' : a < 2147483648) (hb : -2147483648 ≤ b) (hb' : b < 2147483648) : ¬ iI a < iI b := by rw [iI_lt ha ha' hb hb']; exact h
theorem iLE {a b : Int} (h : a ≤ b) (ha : -2147483648 ≤ a) (ha' : a < 2147483648) (hb : -2147483648 ≤ b) (hb' : b < 2147483648) : iI a ≤ iI b := by rw [iI_le ha ha' hb hb']; exact h
theorem iNLE {a b : Int} (h : ¬ a ≤ b) (ha : -2147483648 ≤ a) (ha' : a < 2147483648) (hb : -2147483648 ≤ b) (hb' : b < 2147483648) : ¬ iI a ≤ iI b := by rw [iI_le ha ha' hb hb']; exact h
theorem iNE {a b : Int} (h : ¬ a = b) (ha : -2147483648 ≤ a) (ha' : a < 2147483648) (hb : -2147483648 ≤ b) (hb' : b < 2147483648) : ¬ iI a = iI b := by rw [iI_eq ha ha' hb hb']; exact h
theorem iEQ {a b : Int} (h : a = b) (ha : -2147483648 ≤ a) (ha' : a < 2147483648) (hb : -2147483648 ≤ b) (hb' : b < 2147483648) : iI a = iI b := by rw [h]
def z87 (Z : XS) (m r : Int) : XS := sR Z 63 0 (upi (upi (XR Z 63 0) (3 * m) r) (3 * m + 1) (XF Z 12 0 18))
def LgZ (Z Z' : XS) (m : Int) : Prop := FrR Z Z' ∧ XF Z' 12 0 15 = XF Z 12 0 15 ∧ ∀ i, i < 3 * m → XR Z' 63 0 i = XR Z 63 0 i
theorem z87_W {Z : XS} (W : WF Z) {m r : Int} (hr : Rg r) : WF (z87 Z m r) := by
  unfold z87
  refine W_R W fun i => ?_
  rw [upi_at]; split
  · exact W.1 _ _ _
  · rw [upi_at]; split
    · exact hr
    · exact W.2 _ _ _
theorem z87_n {Z : XS} {m r : Int} : NxS Z (z87 Z m r) := ⟨fun f hf => by rcases hf with e | e | e | e | e | e <;> subst e <;> rfl, rfl, rfl⟩
theorem z87_F {Z : XS} {m r : Int} : FrR Z (z87 Z m r) := FrR_R FrR_refl (by decide)
theorem lz_fin {X' Z Z2 Z3 : XS} {m r v j : Int} (hj : j = 1 ∨ j = 2) (n2 : NxF (z87 Z m r) Z2) (n3 : NxF (sF Z2 12 0 18 v) Z3) (W3 : WF Z3) (t3 : TokR X' Z3) (hv : Rg v) : WF (sR Z3 63 0 (upi (XR Z3 63 0) (3 * m + j) v)) ∧ TokR X' (sR Z3 63 0 (upi (XR Z3 63 0) (3 * m + j) v)) ∧ LgZ Z (sR Z3 63 0 (upi (XR Z3 63 0) (3 * m + j) v)) m ∧ XR (sR Z3 63 0 (upi (XR Z3 63 0) (3 * m + j) v)) 63 0 (3 * m) = r ∧ XR (sR Z3 63 0 (upi (XR Z3 63 0) (3 * m + j) v)) 63 0 (3 * m + j) = v ∧ (j = 2 → XR (sR Z3 63 0 (upi (XR Z3 63 0) (3 * m + j) v)) 63 0 (3 * m + 1) = XF Z 12 0 18) := by
  have e63 : XR Z3 63 0 = upi (upi (XR Z 63 0) (3 * m) r) (3 * m + 1) (XF Z 12 0 18) := by rw [n3.2.1]; show XR Z2 63 0 = _; rw [n2.2.1]; rfl
  have y : XR (sR Z3 63 0 (upi (XR Z3 63 0) (3 * m + j) v)) 63 0 = upi (XR Z3 63 0) (3 * m + j) v := rfl
  refine ⟨?_, TokR_s RdS_refl ⟨fun f hf => by rcases hf with e | e | e | e | e | e <;> subst e <;> rfl, rfl, rfl⟩ t3, ⟨?_, ?_, fun i hi => ?_⟩, ?_, ?_, fun j2 => ?_⟩
  · refine W_R W3 fun i => ?_
    rw [upi_at]; split
    · exact hv
    · exact W3.2 _ _ _
  · exact FrR_R (FrR_trans (FrR_trans z87_F (FrR_nx n2)) (FrR_trans (FrR_F FrR_refl (by decide)) (FrR_nx n3))) (by decide)
  · show XF Z3 12 0 15 = _
    rw [n3.1 12 0 15 (by omega)]; show XF Z2 12 0 15 = _
    rw [n2.1 12 0 15 (by omega)]; rfl
  · rw [y, upi_ne _ _ (by omega), e63, upi_ne _ _ (by omega), upi_ne _ _ (by omega)]
  · rw [y, upi_ne _ _ (by omega), e63, upi_ne _ _ (by omega), upi_eq]
  · rw [y, upi_eq]
  · rw [y, upi_ne _ _ (by omega), e63, upi_eq]
theorem r_238 {f0 : Nat} {Y : YS} {Z : XS} {m v : Int} (g : GY Y) (m0 : 0 ≤ m) (m1 : m < 40) (h : XF Z 12 0 18 = v) : bX12_logLine_238 f0 (Ad Y 12 0) (iI (3 * m)) (hp Y Z) = some (1, hp Y (sR Z 63 0 (upi (XR Z 63 0) (3 * m + 1) v))) := by
  simp (disch := first | assumption | omega) only [bX12_logLine_238, g_12_8, g_12_18, s_63, li_1, iI_add, Option.bind_some, iI_add, h]
  exact zr_i1
theorem r87_0 {f0 : Nat} {Y : YS} {Z Z2 : XS} {S : Int → Int} {m : Int} (g : GY Y) (m0 : 0 ≤ m) (m1 : m < 40) (h36 : XF Z 12 0 36 = m) (e : fX12_next f0 (Ad Y 12 0) (hp Y (z87 Z m 0)) = some (hp Y Z2)) (hS : XR Z2 61 0 = S) : bX12_logLine_87 f0 (Ad Y 12 0) (iI (3 * m)) (iI 0) (hp Y Z) = ob2 (fX12_takesName f0 (Ad Y 12 0) (iI 8) (iI (S 1)) (hp Y Z2)) fun x h => if x = iI 0 then zr (iI 0) h else bX12_logLine_238 f0 (Ad Y 12 0) (iI (3 * m)) h := by
  have n40 : ¬ m = 40 := by omega
  have y18 : ∀ r, XF (sR Z 63 0 r) 12 0 18 = XF Z 12 0 18 := fun _ => rfl
  have y63 : ∀ r, XR (sR Z 63 0 r) 63 0 = r := fun _ => rfl
  have l0 := l_61 (Y := Y) (X := Z2) g (i := 0) (by decide) (by decide)
  have l1 := l_61 (Y := Y) (X := Z2) g (i := 1) (by decide) (by decide)
  have l2 := l_61 (Y := Y) (X := Z2) g (i := 2) (by decide) (by decide)
  rw [hS] at l0 l1 l2
  unfold z87 at e
  unfold bX12_logLine_87
  simp (disch := first | assumption | omega) only [g_12_36, g_12_8, g_12_18, g_12_6, k_12, s_63, h36, Option.bind_some, li_0, li_1, li_2, li_3, li_4, li_8, li_16, li_40, li_60, iI_eq, iI_add, if_neg n40, y18, y63, sR_sR, e, Int.reduceEq, if_true, if_false, bX12_logLine_216, bX12_logLine_229, l0, l1, l2]
  try rfl
theorem r87_1 {f0 : Nat} {Y : YS} {Z Z2 : XS} {S : Int → Int} {m : Int} (g : GY Y) (m0 : 0 ≤ m) (m1 : m < 40) (h36 : XF Z 12 0 36 = m) (e : fX12_next f0 (Ad Y 12 0) (hp Y (z87 Z m 1)) = some (hp Y Z2)) (hS : XR Z2 61 0 = S) : bX12_logLine_87 f0 (Ad Y 12 0) (iI (3 * m)) (iI 1) (hp Y Z) = ob2 (fX12_takesName f0 (Ad Y 12 0) (iI 0) (iI (S 0)) (hp Y Z2)) fun x h => if x = iI 0 then zr (iI 0) h else bX12_logLine_238 f0 (Ad Y 12 0) (iI (3 * m)) h := by
  have n40 : ¬ m = 40 := by omega
  have y18 : ∀ r, XF (sR Z 63 0 r) 12 0 18 = XF Z 12 0 18 := fun _ => rfl
  have y63 : ∀ r, XR (sR Z 63 0 r) 63 0 = r := fun _ => rfl
  have l0 := l_61 (Y := Y) (X := Z2) g (i := 0) (by decide) (by decide)
  have l1 := l_61 (Y := Y) (X := Z2) g (i := 1) (by decide) (by decide)
  have l2 := l_61 (Y := Y) (X := Z2) g (i := 2) (by decide) (by decide)
  rw [hS] at l0 l1 l2
  unfold z87 at e
  unfold bX12_logLine_87
  simp (disch := first | assumption | omega) only [g_12_36, g_12_8, g_12_18, g_12_6, k_12, s_63, h36, Option.bind_some, li_0, li_1, li_2, li_3, li_4, li_8, li_16, li_40, li_60, iI_eq, iI_add, if_neg n40, y18, y63, sR_sR, e, Int.reduceEq, if_true, if_false, bX12_logLine_216, bX12_logLine_229, l0, l1, l2]
  try rfl
theorem r87_2 {f0 : Nat} {Y : YS} {Z Z2 : XS} {S : Int → Int} {m : Int} (g : GY Y) (m0 : 0 ≤ m) (m1 : m < 40) (h36 : XF Z 12 0 36 = m) (e : fX12_next f0 (Ad Y 12 0) (hp Y (z87 Z m 2)) = some (hp Y Z2)) (hS : XR Z2 61 0 = S) : bX12_logLine_87 f0 (Ad Y 12 0) (iI (3 * m)) (iI 2) (hp Y Z) = ob2 (fX12_takes f0 (Ad Y 12 0) (iI 1) (iI 60) (hp Y Z2)) fun x h => if x = iI 0 then zr (iI 0) h else bX12_logLine_238 f0 (Ad Y 12 0) (iI (3 * m)) h := by
  have n40 : ¬ m = 40 := by omega
  have y18 : ∀ r, XF (sR Z 63 0 r) 12 0 18 = XF Z 12 0 18 := fun _ => rfl
  have y63 : ∀ r, XR (sR Z 63 0 r) 63 0 = r := fun _ => rfl
  have l0 := l_61 (Y := Y) (X := Z2) g (i := 0) (by decide) (by decide)
  have l1 := l_61 (Y := Y) (X := Z2) g (i := 1) (by decide) (by decide)
  have l2 := l_61 (Y := Y) (X := Z2) g (i := 2) (by decide) (by decide)
  rw [hS] at l0 l1 l2
  unfold z87 at e
  unfold bX12_logLine_87
  simp (disch := first | assumption | omega) only [g_12_36, g_12_8, g_12_18, g_12_6, k_12, s_63, h36, Option.bind_some, li_0, li_1, li_2, li_3, li_4, li_8, li_16, li_40, li_60, iI_eq, iI_add, if_neg n40, y18, y63, sR_sR, e, Int.reduceEq, if_true, if_false, bX12_logLine_216, bX12_logLine_229, l0, l1, l2]
  try rfl
theorem r87_3 {f0 : Nat} {Y : YS} {Z Z2 : XS} {S : Int → Int} {m : Int} (g : GY Y) (m0 : 0 ≤ m) (m1 : m < 40) (h36 : XF Z 12 0 36 = m) (e : fX12_next f0 (Ad Y 12 0) (hp Y (z87 Z m 3)) = some (hp Y Z2)) (hS : XR Z2 61 0 = S) : bX12_logLine_87 f0 (Ad Y 12 0) (iI (3 * m)) (iI 3) (hp Y Z) = zr (iI 1) (hp Y Z2) := by
  have n40 : ¬ m = 40 := by omega
  have y18 : ∀ r, XF (sR Z 63 0 r) 12 0 18 = XF Z 12 0 18 := fun _ => rfl
  have y63 : ∀ r, XR (sR Z 63 0 r) 63 0 = r := fun _ => rfl
  have l0 := l_61 (Y := Y) (X := Z2) g (i := 0) (by decide) (by decide)
  have l1 := l_61 (Y := Y) (X := Z2) g (i := 1) (by decide) (by decide)
  have l2 := l_61 (Y := Y) (X := Z2) g (i := 2) (by decide) (by decide)
  rw [hS] at l0 l1 l2
  unfold z87 at e
  unfold bX12_logLine_87
  simp (disch := first | assumption | omega) only [g_12_36, g_12_8, g_12_18, g_12_6, k_12, s_63, h36, Option.bind_some, li_0, li_1, li_2, li_3, li_4, li_8, li_16, li_40, li_60, iI_eq, iI_add, if_neg n40, y18, y63, sR_sR, e, Int.reduceEq, if_true, if_false, bX12_logLine_216, bX12_logLine_229, l0, l1, l2]
  try rfl
theorem r87_4 {f0 : Nat} {Y : YS} {Z Z2 : XS} {S : Int → Int} {m : Int} (g : GY Y) (m0 : 0 ≤ m) (m1 : m < 40) (h36 : XF Z 12 0 36 = m) (e : fX12_next f0 (Ad Y 12 0) (hp Y (z87 Z m 4)) = some (hp Y Z2)) (hS : XR Z2 61 0 = S) : bX12_logLine_87 f0 (Ad Y 12 0) (iI (3 * m)) (iI 4) (hp Y Z) = ob2 (fX12_isWord f0 (Ad Y 12 0) 119182682386035 (hp Y Z2)) fun x158 h158 => (if x158 = iI 0 then (ckO 12 h158 (Ad Y 12 0)).bind fun _ => ob2 (fX12_bad f0 (Ad Y 12 0) (iI 1) h158) fun x166 h166 => zr x166 h166 else (ckO 12 h158 (Ad Y 12 0)).bind fun _ => (fX12_next f0 (Ad Y 12 0) h158).bind fun h171 => (gfN 12 6 h171 (Ad Y 12 0)).bind fun x178 => (ldI 1 h171 x178 (iI 2)).bind fun x182 => (ckO 12 h171 (Ad Y 12 0)).bind fun _ => ob2 (fX12_takesName f0 (Ad Y 12 0) (iI 16) x182 h171) fun x183 h183 => (if x183 = iI 0 then zr (iI 0) h183 else (gfN 12 8 h183 (Ad Y 12 0)).bind fun x192 => (gfI 12 18 h183 (Ad Y 12 0)).bind fun x199 => (stI 1 h183 x192 (iI (3 * m + 2)) x199).bind fun h202 => zr (iI 1) h202)) := by
  have n40 : ¬ m = 40 := by omega
  have y18 : ∀ r, XF (sR Z 63 0 r) 12 0 18 = XF Z 12 0 18 := fun _ => rfl
  have y63 : ∀ r, XR (sR Z 63 0 r) 63 0 = r := fun _ => rfl
  have l0 := l_61 (Y := Y) (X := Z2) g (i := 0) (by decide) (by decide)
  have l1 := l_61 (Y := Y) (X := Z2) g (i := 1) (by decide) (by decide)
  have l2 := l_61 (Y := Y) (X := Z2) g (i := 2) (by decide) (by decide)
  rw [hS] at l0 l1 l2
  unfold z87 at e
  unfold bX12_logLine_87
  simp (disch := first | assumption | omega) only [g_12_36, g_12_8, g_12_18, g_12_6, k_12, s_63, h36, Option.bind_some, li_0, li_1, li_2, li_3, li_4, li_8, li_16, li_40, li_60, iI_eq, iI_add, if_neg n40, y18, y63, sR_sR, e, Int.reduceEq, if_true, if_false, bX12_logLine_216, bX12_logLine_229, l0, l1, l2]
  try rfl
theorem upi_self {r : Int → Int} {m : Int} : upi r m (r m) = r := funext fun j => by
  rw [upi_at]; split
  · rename_i h; rw [h]
  · rfl
theorem LgD_rd {X X1 X' : XS} {c o w : Int} (r : RdF X X1) (lt : XF X 4 0 6 ≤ XF X1 4 0 6) (h : LgD X1 X' c o w) : LgD X X' c o w := by
  obtain ⟨a1, a2, a3, a4, a5, a6, a7, a8, a9⟩ := h
  rw [r.1 2 0 5 (by omega), r.2.1] at a7 a8 a9
  exact ⟨a1, FrC_trans (FrC_rd r) a2, a3, by omega, by rw [a5]; exact r.1 2 0 5 (by omega), by rw [a6]; exact r.1 4 0 10 (by omega), a7, a8, a9⟩
theorem LgD_14 {X : XS} {v1 : Int} (W : WF X) (c : TokC X) (h1 : Rg v1) : LgD X (lgP X v1 14) 14 (XR X 41 0 (XF X 2 0 5)) v1 :=
  ⟨lgP_W W h1 ⟨by decide, by decide⟩, lgP_Fr, TokC_s lgP_Rd c, Int.le_refl _, rfl, rfl, rfl, upi_self.symm, rfl⟩
