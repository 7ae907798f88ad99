/-! WHAT MAY BE SAID OF A PORT: all steps of the reference -/
def b0 (b : Bool) : Int := if b = true then 1 else 0
theorem b0_t : b0 true = 1 := rfl
theorem b0_f : b0 false = 0 := rfl
theorem b0_rg (b : Bool) : Rg (b0 b) := by cases b <;> exact ⟨by decide, by decide⟩
theorem vn_1 : (vp_nar .boolean (iI 1)).toInt = 1 := by decide +kernel
theorem vn_0 : (vp_nar .boolean (iI 0)).toInt = 0 := by decide +kernel
theorem r_isSaid {f0 : Nat} {Y : YS} {X : XS} (h : Inv Y X) {p : Int} (p0 : 0 ≤ p) (p1 : p < XR X 25 0 0) (hn : 0 < XF X 8 0 3) (hf : 300 ≤ f0) : ∃ r', (∀ i, Rg (r' i)) ∧ fX12_isSaid f0 (Ad Y 12 0) (iI p) (hp Y X) = some (bI (eV X (XF X 8 0 3).toNat 0 p = true), hp Y (sR X 78 0 r')) := by
  have g := h.1.1; have W := h.2.1
  have sn := h.2.2.2.2.2.2.2.2.2.1
  have s40 := sn.2.1
  have s465 := sn.1
  have Ws : WS (XR X 61 0) := fun i => W.2 61 0 i
  have z0 : hp Y X = hp Y (sR X 78 0 (XR X 78 0)) := by rw [sR_self]
  have e1 : fX12_isSaid f0 (Ad Y 12 0) (iI p) (hp Y X) = bX12_isSaid_4 f0 f0 (Ad Y 12 0) (iI p) (iI (hgS (XR X 36 0) 0)) (iI ((0 : Nat) : Int)) (hp Y X) := rfl
  rw [e1, z0]
  refine lp (fun f (s : Nat × (Int → Int)) => bX12_isSaid_4 f0 f (Ad Y 12 0) (iI p) (iI (hgS (XR X 36 0) s.1)) (iI (s.1 : Int)) (hp Y (sR X 78 0 s.2))) (fun s => (s.1 : Int) ≤ XF X 8 0 3 ∧ (∀ i, Rg (s.2 i)) ∧ ∀ a, 0 ≤ a → a < hgS (XR X 36 0) s.1 → s.2 a = b0 (eV X s.1 a p)) (fun s => (XF X 8 0 3 - s.1).toNat) (fun r => ∃ r', (∀ i, Rg (r' i)) ∧ r = some (bI (eV X (XF X 8 0 3).toNat 0 p = true), hp Y (sR X 78 0 r'))) ?_ f0 (0, XR X 78 0) ⟨by simp only; omega, fun i => W.2 78 0 i, fun a a0 a1 => by have : hgS (XR X 36 0) 0 = 0 := rfl; simp only at a1; omega⟩ (by simp only; omega)
  rintro f ⟨i, r⟩ ⟨h1, h2, h3⟩
  simp only at h1 h2 h3 ⊢
  have hb := hg_b (st := XR X 36 0) i (fun j hj => (sn.2.2 j (by omega)).2)
  obtain ⟨H, eH⟩ : ∃ H, H = hgS (XR X 36 0) i := ⟨_, rfl⟩
  rw [← eH] at hb h3 ⊢
  have y61 : XR (sR X 78 0 r) 61 0 = XR X 61 0 := rfl
  have y78 : XR (sR X 78 0 r) 78 0 = r := rfl
  have h0 := Inv_78 h h2
  by_cases c : XF X 8 0 3 ≤ i
  · left
    refine ⟨r, h2, ?_⟩
    have ei : i = (XF X 8 0 3).toNat := by omega
    have r0 := h3 0 (by omega) (by omega)
    rw [← ei]
    cases e : eV X i 0 p
    · rw [e, b0_f] at r0
      rw [bI_F (by decide)]
      simp (disch := first | assumption | omega | exact W_fl W _ _ _ | exact W_fh W _ _ _ | exact W_rl W _ _ _ | exact W_rh W _ _ _ | exact WS_l Ws _ | exact WS_h Ws _) only [bX12_isSaid_4, g_12_6, g_12_45, k_12, l61, s61, l_78, s_78, li_0, li_1, li_465, li_466, li_3, li_20, li_21, li_22, li_2, ob2, iI_add, iI_mul, iI_sub, Option.bind_some, l_61, y61, s465, iI_le, if_pos c, y78, r0, zr_i0]
    · rw [e, b0_t] at r0
      rw [bI_T (by decide)]
      simp (disch := first | assumption | omega | exact W_fl W _ _ _ | exact W_fh W _ _ _ | exact W_rl W _ _ _ | exact W_rh W _ _ _ | exact WS_l Ws _ | exact WS_h Ws _) only [bX12_isSaid_4, g_12_6, g_12_45, k_12, l61, s61, l_78, s_78, li_0, li_1, li_465, li_466, li_3, li_20, li_21, li_22, li_2, ob2, iI_add, iI_mul, iI_sub, Option.bind_some, l_61, y61, s465, iI_le, if_pos c, y78, r0, zr_i1]
  · right
    obtain ⟨⟨d1, d2, d3⟩, o1, o2, o3, -, -, -⟩ := sn.2.2 i (by omega)
    have up : ∀ (a : Int) (b : Bool), ∀ j, Rg (upi r a (b0 b) j) := fun a b j => by
      rw [upi_at]; split
      · exact b0_rg b
      · exact h2 j
    by_cases c18 : XR X 36 0 i = 18
    · have H1 : ¬ H < 1 := by have := o2 c18; omega
      have ra := h3 (H - 1) (by omega) (by omega)
      have dd : XR X 61 0 (466 + 3 * i) = 20 := by rw [← d1]; unfold cdR; rw [if_pos c18]
      refine ⟨(i + 1, upi r (H - 1) (b0 (!eV X i (H - 1) p))), ?_, ⟨by simp only; omega, up _ _, fun a a0 a1 => ?_⟩, by simp only; omega⟩
      · simp only
        rw [hg_18 c18, ← eH]
        cases e : eV X i (H - 1) p
        · rw [e, b0_f] at ra
          simp (disch := first | assumption | omega | exact W_fl W _ _ _ | exact W_fh W _ _ _ | exact W_rl W _ _ _ | exact W_rh W _ _ _ | exact WS_l Ws _ | exact WS_h Ws _) only [bX12_isSaid_4, bX12_isSaid_60, bX12_isSaid_206, g_12_6, g_12_45, k_12, l61, s61, l_78, s_78, li_0, li_1, li_465, li_466, li_3, li_20, li_21, li_22, li_2, ob2, iI_add, iI_mul, iI_sub, Option.bind_some, l_61, y61, s465, iI_le, if_neg c, iI_mul, iI_add, dd, iI_eq, Int.reduceEq, if_true, iI_sub, y78, ra, vn_1, sR_sR]
          rfl
        · rw [e, b0_t] at ra
          simp (disch := first | assumption | omega | exact W_fl W _ _ _ | exact W_fh W _ _ _ | exact W_rl W _ _ _ | exact W_rh W _ _ _ | exact WS_l Ws _ | exact WS_h Ws _) only [bX12_isSaid_4, bX12_isSaid_60, bX12_isSaid_206, g_12_6, g_12_45, k_12, l61, s61, l_78, s_78, li_0, li_1, li_465, li_466, li_3, li_20, li_21, li_22, li_2, ob2, iI_add, iI_mul, iI_sub, Option.bind_some, l_61, y61, s465, iI_le, if_neg c, iI_mul, iI_add, dd, iI_eq, Int.reduceEq, if_true, if_false, iI_sub, y78, ra, vn_0, sR_sR]
          rfl
      · simp only at a1 ⊢
        rw [hg_18 c18, ← eH] at a1
        have ev : eV X (i + 1) a p = if a = H - 1 then !eV X i a p else eV X i a p := by rw [eH]; exact ev_18 c18 a p
        rw [ev, upi_at]
        by_cases d : a = H - 1
        · simp only [if_pos d, if_true, d]
        · simp only [if_neg d]; exact h3 a a0 a1
    by_cases c17 : XR X 36 0 i = 17
    · have H1 : ¬ H < 2 := by have := o3 (.inl c17); omega
      have ra := h3 (H + -1 - 1) (by omega) (by omega)
      have rb := h3 (H + -1) (by omega) (by omega)
      have dd : XR X 61 0 (466 + 3 * i) = 21 := by rw [← d1]; unfold cdR; rw [if_neg c18, if_pos c17]
      refine ⟨(i + 1, upi r (H + -1 - 1) (b0 (eV X i (H + -1 - 1) p && eV X i (H + -1) p))), ?_, ⟨by simp only; omega, up _ _, fun a a0 a1 => ?_⟩, by simp only; omega⟩
      · simp only
        rw [hg_17 (.inl c17), ← eH]
        cases e : eV X i (H + -1 - 1) p
        · rw [e, b0_f] at ra
          simp (disch := first | assumption | omega | exact W_fl W _ _ _ | exact W_fh W _ _ _ | exact W_rl W _ _ _ | exact W_rh W _ _ _ | exact WS_l Ws _ | exact WS_h Ws _) only [bX12_isSaid_4, bX12_isSaid_88, bX12_isSaid_134, bX12_isSaid_163, bX12_isSaid_206, g_12_6, g_12_45, k_12, l61, s61, l_78, s_78, li_0, li_1, li_465, li_466, li_3, li_20, li_21, li_22, li_2, ob2, iI_add, iI_mul, iI_sub, lm_1, Option.bind_some, iI_neg, l_61, y61, s465, iI_le, if_neg c, iI_mul, iI_add, dd, iI_eq, Int.reduceEq, if_true, if_false, iI_neg, iI_sub, y78, ra, vn_0, sR_sR]
          rfl
        · rw [e, b0_t] at ra
          cases e' : eV X i (H + -1) p
          · rw [e', b0_f] at rb
            simp (disch := first | assumption | omega | exact W_fl W _ _ _ | exact W_fh W _ _ _ | exact W_rl W _ _ _ | exact W_rh W _ _ _ | exact WS_l Ws _ | exact WS_h Ws _) only [bX12_isSaid_4, bX12_isSaid_88, bX12_isSaid_134, bX12_isSaid_163, bX12_isSaid_206, g_12_6, g_12_45, k_12, l61, s61, l_78, s_78, li_0, li_1, li_465, li_466, li_3, li_20, li_21, li_22, li_2, ob2, iI_add, iI_mul, iI_sub, lm_1, Option.bind_some, iI_neg, l_61, y61, s465, iI_le, if_neg c, iI_mul, iI_add, dd, iI_eq, Int.reduceEq, if_true, if_false, iI_neg, iI_sub, y78, ra, rb, vn_0, sR_sR]
            rfl
          · rw [e', b0_t] at rb
            simp (disch := first | assumption | omega | exact W_fl W _ _ _ | exact W_fh W _ _ _ | exact W_rl W _ _ _ | exact W_rh W _ _ _ | exact WS_l Ws _ | exact WS_h Ws _) only [bX12_isSaid_4, bX12_isSaid_88, bX12_isSaid_134, bX12_isSaid_163, bX12_isSaid_206, g_12_6, g_12_45, k_12, l61, s61, l_78, s_78, li_0, li_1, li_465, li_466, li_3, li_20, li_21, li_22, li_2, ob2, iI_add, iI_mul, iI_sub, lm_1, Option.bind_some, iI_neg, l_61, y61, s465, iI_le, if_neg c, iI_mul, iI_add, dd, iI_eq, Int.reduceEq, if_true, if_false, iI_neg, iI_sub, y78, ra, rb, vn_1, sR_sR]
            rfl
      · simp only at a1 ⊢
        rw [hg_17 (.inl c17), ← eH] at a1
        have ev : eV X (i + 1) a p = if a = H - 2 then (eV X i a p && eV X i (a + 1) p) else eV X i a p := by rw [eH]; exact ev_17 c17 a p
        rw [ev, upi_at]
        by_cases d : a = H - 2
        · simp only [if_pos d, show H + -1 = a + 1 by omega, Int.add_sub_cancel, if_true]
        · simp only [if_neg d, if_neg (show ¬ a = H + -1 - 1 by omega)]; exact h3 a a0 (by omega)
    by_cases c16 : XR X 36 0 i = 16
    · have H1 : ¬ H < 2 := by have := o3 (.inr c16); omega
      have ra := h3 (H + -1 - 1) (by omega) (by omega)
      have rb := h3 (H + -1) (by omega) (by omega)
      have dd : XR X 61 0 (466 + 3 * i) = 22 := by rw [← d1]; unfold cdR; rw [if_neg c18, if_neg c17, if_pos c16]
      refine ⟨(i + 1, upi r (H + -1 - 1) (b0 (eV X i (H + -1 - 1) p || eV X i (H + -1) p))), ?_, ⟨by simp only; omega, up _ _, fun a a0 a1 => ?_⟩, by simp only; omega⟩
      · simp only
        rw [hg_17 (.inr c16), ← eH]
        cases e : eV X i (H + -1 - 1) p
        · rw [e, b0_f] at ra
          cases e' : eV X i (H + -1) p
          · rw [e', b0_f] at rb
            simp (disch := first | assumption | omega | exact W_fl W _ _ _ | exact W_fh W _ _ _ | exact W_rl W _ _ _ | exact W_rh W _ _ _ | exact WS_l Ws _ | exact WS_h Ws _) only [bX12_isSaid_4, bX12_isSaid_88, bX12_isSaid_158, bX12_isSaid_163, bX12_isSaid_206, g_12_6, g_12_45, k_12, l61, s61, l_78, s_78, li_0, li_1, li_465, li_466, li_3, li_20, li_21, li_22, li_2, ob2, iI_add, iI_mul, iI_sub, lm_1, Option.bind_some, iI_neg, l_61, y61, s465, iI_le, if_neg c, iI_mul, iI_add, dd, iI_eq, Int.reduceEq, if_true, if_false, iI_neg, iI_sub, y78, ra, rb, vn_0, sR_sR]
            rfl
          · rw [e', b0_t] at rb
            simp (disch := first | assumption | omega | exact W_fl W _ _ _ | exact W_fh W _ _ _ | exact W_rl W _ _ _ | exact W_rh W _ _ _ | exact WS_l Ws _ | exact WS_h Ws _) only [bX12_isSaid_4, bX12_isSaid_88, bX12_isSaid_158, bX12_isSaid_163, bX12_isSaid_206, g_12_6, g_12_45, k_12, l61, s61, l_78, s_78, li_0, li_1, li_465, li_466, li_3, li_20, li_21, li_22, li_2, ob2, iI_add, iI_mul, iI_sub, lm_1, Option.bind_some, iI_neg, l_61, y61, s465, iI_le, if_neg c, iI_mul, iI_add, dd, iI_eq, Int.reduceEq, if_true, if_false, iI_neg, iI_sub, y78, ra, rb, vn_1, sR_sR]
            rfl
        · rw [e, b0_t] at ra
          simp (disch := first | assumption | omega | exact W_fl W _ _ _ | exact W_fh W _ _ _ | exact W_rl W _ _ _ | exact W_rh W _ _ _ | exact WS_l Ws _ | exact WS_h Ws _) only [bX12_isSaid_4, bX12_isSaid_88, bX12_isSaid_158, bX12_isSaid_163, bX12_isSaid_206, g_12_6, g_12_45, k_12, l61, s61, l_78, s_78, li_0, li_1, li_465, li_466, li_3, li_20, li_21, li_22, li_2, ob2, iI_add, iI_mul, iI_sub, lm_1, Option.bind_some, iI_neg, l_61, y61, s465, iI_le, if_neg c, iI_mul, iI_add, dd, iI_eq, Int.reduceEq, if_true, if_false, iI_neg, iI_sub, y78, ra, vn_1, sR_sR]
          rfl
      · simp only at a1 ⊢
        rw [hg_17 (.inr c16), ← eH] at a1
        have ev : eV X (i + 1) a p = if a = H - 2 then (eV X i a p || eV X i (a + 1) p) else eV X i a p := by rw [eH]; exact ev_16 c16 a p
        rw [ev, upi_at]
        by_cases d : a = H - 2
        · simp only [if_pos d, show H + -1 = a + 1 by omega, Int.add_sub_cancel, if_true]
        · simp only [if_neg d, if_neg (show ¬ a = H + -1 - 1 by omega)]; exact h3 a a0 (by omega)
    have cl : 19 ≤ XR X 36 0 i := by omega
    have dd : XR X 61 0 (466 + 3 * i) = XR X 36 0 i - 19 := by rw [← d1]; unfold cdR; rw [if_neg c18, if_neg c17, if_neg c16]
    have n1 : ¬ XR X 36 0 i - 19 = 20 := by omega
    have n2 : ¬ XR X 36 0 i - 19 = 21 := by omega
    have n3 : ¬ XR X 36 0 i - 19 = 22 := by omega
    have dd1 : XR X 61 0 (466 + 3 * i + 1) = XR X 37 0 i := by rw [d2, show (466 : Int) + 3 * i + 1 = 467 + 3 * i by omega]
    have dd2 : XR X 61 0 (466 + 3 * i + 2) = XR X 38 0 i := by rw [d3, show (466 : Int) + 3 * i + 2 = 468 + 3 * i by omega]
    have lf : ans (lfP X i p) (fX12_isLeaf f0 (Ad Y 12 0) (iI p) (iI (XR X 36 0 i - 19)) (iI (XR X 37 0 i)) (iI (XR X 38 0 i)) (hp Y (sR X 78 0 r))) (hp Y (sR X 78 0 r)) := r_isLeaf (f0 := f0) h0 (i := i) (by omega) (show (i : Int) < XF X 8 0 3 by omega) p0 p1 cl hf
    refine ⟨(i + 1, upi r H (b0 (lfB X i p))), ?_, ⟨by simp only; omega, up _ _, fun a a0 a1 => ?_⟩, by simp only; omega⟩
    · simp only
      rw [hg_l cl, ← eH]
      by_cases e : lfP X i p
      · have q := lf.1 e
        rw [lfB_i.mpr e, b0_t]
        simp (disch := first | assumption | omega | exact W_fl W _ _ _ | exact W_fh W _ _ _ | exact W_rl W _ _ _ | exact W_rh W _ _ _ | exact WS_l Ws _ | exact WS_h Ws _) only [bX12_isSaid_4, bX12_isSaid_206, g_12_6, g_12_45, k_12, l61, s61, l_78, s_78, li_0, li_1, li_465, li_466, li_3, li_20, li_21, li_22, li_2, ob2, iI_add, iI_mul, iI_sub, Option.bind_some, l_61, y61, s465, iI_le, if_neg c, iI_mul, iI_add, dd, dd1, dd2, iI_eq, if_neg n1, if_neg n2, if_neg n3, q, y78, vn_1, sR_sR]
        rfl
      · have q := lf.2 e
        have lfn : lfB X i p = false := by
          cases w : lfB X i p
          · rfl
          · exact absurd (lfB_i.mp w) e
        rw [lfn, b0_f]
        simp (disch := first | assumption | omega | exact W_fl W _ _ _ | exact W_fh W _ _ _ | exact W_rl W _ _ _ | exact W_rh W _ _ _ | exact WS_l Ws _ | exact WS_h Ws _) only [bX12_isSaid_4, bX12_isSaid_206, g_12_6, g_12_45, k_12, l61, s61, l_78, s_78, li_0, li_1, li_465, li_466, li_3, li_20, li_21, li_22, li_2, ob2, iI_add, iI_mul, iI_sub, Option.bind_some, l_61, y61, s465, iI_le, if_neg c, iI_mul, iI_add, dd, dd1, dd2, iI_eq, if_neg n1, if_neg n2, if_neg n3, q, y78, vn_0, sR_sR]
        rfl
    · simp only at a1 ⊢
      rw [hg_l cl, ← eH] at a1
      have ev : eV X (i + 1) a p = if a = H then lfB X i p else eV X i a p := by rw [eH]; exact ev_l cl a p
      rw [ev, upi_at]
      by_cases d : a = H
      · simp only [if_pos d, if_true]
      · simp only [if_neg d]; exact h3 a a0 (by omega)
