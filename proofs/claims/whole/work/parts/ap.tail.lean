/-! A SENTENCE IS TAKEN: the reference's tail -/
def tlS (S H : Int → Int) (n m : Int) : Int → Int := fun j => if 466 ≤ j ∧ j < 466 + n then H (j - 466) else if j = 465 then m else S j
theorem r_tail {f0 : Nat} {Y : YS} {Z : XS} (g : GY Y) (W : WF Z) {m : Int} (m0 : 0 ≤ m) (m1 : m ≤ 40) (h40 : XF Z 12 0 40 = m) (hf : 200 ≤ f0) : ∀ f, bX12_sentence_48 f0 (f + 1) (Ad Y 12 0) (iI 0) (hp Y Z) = some (iI (XF Z 12 0 41), hp Y (sR Z 61 0 (tlS (XR Z 61 0) (XR Z 63 0) (3 * m) m))) := by
  intro f
  have i0 : tlS (XR Z 61 0) (XR Z 63 0) 0 m = upi (XR Z 61 0) 465 m := funext fun j => by
    unfold tlS; rw [upi_at, if_neg (by omega)]
  have e0 : bX12_sentence_48 f0 (f + 1) (Ad Y 12 0) (iI 0) (hp Y Z) = bX12_sentence_146 f0 f0 (Ad Y 12 0) (iI 0) (hp Y (sR Z 61 0 (tlS (XR Z 61 0) (XR Z 63 0) 0 m))) := by
    rw [i0]
    simp (disch := first | assumption | omega) only [bX12_sentence_48, g_12_6, g_12_40, g_12_44, g_12_11, g_12_42, g_12_16, k_12, s61, lm_1, li_0, li_1, li_465, li_22, ob2, iI_add, iI_sub, Option.bind_some, iI_neg, s_61, iI_eq, if_true, h40]
  rw [e0]
  refine lp (fun f (i : Int) => bX12_sentence_146 f0 f (Ad Y 12 0) (iI i) (hp Y (sR Z 61 0 (tlS (XR Z 61 0) (XR Z 63 0) i m)))) (fun i => 0 ≤ i ∧ i ≤ 3 * m) (fun i => (3 * m - i).toNat) (fun r => r = _) ?_ f0 0 ⟨by omega, by omega⟩ (by omega)
  intro f i ⟨i0, i1⟩
  have y40 : ∀ S, XF (sR Z 61 0 S) 12 0 40 = m := fun _ => h40
  have y41 : ∀ S, XF (sR Z 61 0 S) 12 0 41 = XF Z 12 0 41 := fun _ => rfl
  have y63 : ∀ S, XR (sR Z 61 0 S) 63 0 = XR Z 63 0 := fun _ => rfl
  have y61 : ∀ S, XR (sR Z 61 0 S) 61 0 = S := fun _ => rfl
  by_cases c : 3 * m ≤ i
  · left
    have e : i = 3 * m := by omega
    simp (disch := first | assumption | omega | exact W_fl W _ _ _ | exact W_fh W _ _ _ | exact W_rl W _ _ _ | exact W_rh W _ _ _) only [bX12_sentence_146, g_12_40, g_12_41, g_12_6, g_12_8, l61, s61, l_63, s_63, li_0, li_1, li_3, li_466, iI_add, iI_mul, Option.bind_some, y40, y41, iI_mul, iI_le, if_pos c]
    rw [e]
  · right
    refine ⟨i + 1, ?_, ⟨by omega, by omega⟩, by omega⟩
    have u : upi (tlS (XR Z 61 0) (XR Z 63 0) i m) (466 + i) (XR Z 63 0 i) = tlS (XR Z 61 0) (XR Z 63 0) (i + 1) m := funext fun j => by
      rw [upi_at]; unfold tlS
      by_cases q : j = 466 + i
      · rw [if_pos q, if_pos (by omega), q, show 466 + i - 466 = i by omega]
      · rw [if_neg q]
        by_cases q2 : 466 ≤ j ∧ j < 466 + i
        · rw [if_pos q2, if_pos (by omega)]
        · rw [if_neg q2, if_neg (show ¬ (466 ≤ j ∧ j < 466 + (i + 1)) by omega)]
    have l6 := l_63 (Y := Y) (X := sR Z 61 0 (tlS (XR Z 61 0) (XR Z 63 0) i m)) g (i := i) (by omega) (by omega)
    have s6 := s_61 (Y := Y) (X := sR Z 61 0 (tlS (XR Z 61 0) (XR Z 63 0) i m)) g (i := 466 + i) (v := XR Z 63 0 i) (by omega) (by omega)
    rw [y61, sR_sR, u] at s6
    rw [y63] at l6
    have c' : ¬ 3 * m ≤ i := c
    simp (disch := first | assumption | omega | exact W_fl W _ _ _ | exact W_fh W _ _ _ | exact W_rl W _ _ _ | exact W_rh W _ _ _) only [bX12_sentence_146, g_12_40 g, g_12_6 g, g_12_8 g, Option.bind_some, li_3, li_466, li_1, y40, iI_mul, iI_le, if_neg c', iI_add, l6, s6]
