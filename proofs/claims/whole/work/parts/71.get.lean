/-! now, count, logged, first, safe, outruns -/
theorem op_now {f0 : Nat} {Y : YS} {X : XS} (h : Inv Y X) {w : Int} (rg_w : Rg w) : ∃ v X1 X2, fX11_now f0 (Ad Y 11 0) (iI w) (hp Y X) = some (v, hp Y X1) ∧ fX12_now f0 (Ad Y 12 0) (iI w) (hp Y X1) = some (v, hp Y X2) ∧ Inv Y X2 := by
  have g := h.1.1; have W := h.2.1
  have se := h.2.2.2.2.2.1; have hC := se.1; have hR := se.2.1
  have g6 := SeO_0 g
  have c0 := hC.1; have c3 := hC.2.1; have c4 := hC.2.2.1; have c5 := hC.2.2.2.1
  have e0 := hR.1.1; have e1 := hR.1.2.1; have e2 := hR.1.2.2.1; have e3 := hR.1.2.2.2.1
  have sh := h.2.2.2.2.2.2.2.2.1
  have p0 := sh.1 0 (by omega)
  have gk0 := ShO_k g p0
  have cd := sh.2.2.2.1.1; have rl := sh.2.2.2.1.2
  have cs : CShip X (XP X 0) 0 := cd
  have sf := inv_S se cd rl
  have Ws : WS (XR X 61 0) := fun i => W.2 61 0 i
  have WA : WF (sF X 12 0 0 0) := W_F W (by decide) (by decide)
  have z := Z61 (Y := Y) (X := sF X 12 0 0 0) (S := XR X 61 0) rfl
  have hP := inv_PostR se h.2.2.2.2.2.2.2.1
  have th := Inv_th h (v := 0) ⟨by decide, by decide⟩
  have rz : Rg (0 : Int) := ⟨by decide, by decide⟩
  have w1 := rg_w.1; have w2 := rg_w.2
  have r1 := rl.1
  have gg : ∀ f, (shG X (XP X 0)).1 f = XF X 10 (XP X 0) f := fun f => rfl
  simp only [gg] at r1
  have v1 : XF X 10 (XP X 0) 2 = if 0 < XR X 61 0 0 ∧ 0 < XR X 61 0 1 then XR X 61 0 313 else -1 := by
    by_cases q : isSe (XR X 61 0)
    · rw [if_pos q]; exact (rl.2.1 q).1
    · rw [if_neg q]; exact (rl.2.2.1 q).1
  have v2 : XF X 10 (XP X 0) 3 = if 0 < XR X 61 0 0 ∧ 0 < XR X 61 0 1 then XR X 61 0 314 else -1 := by
    by_cases q : isSe (XR X 61 0)
    · rw [if_pos q]; exact (rl.2.1 q).2
    · rw [if_neg q]; exact (rl.2.2.1 q).2
  have c6 : XF X 10 (XP X 0) 6 = 0 ∨ XF X 10 (XP X 0) 6 = 1 := cd.2.2.2.1
  obtain ⟨r11, r12, r13, r14, r15, r16⟩ := r1
  by_cases k0 : w = 0
  · subst k0
    refine ⟨iI (XR X 61 0 312), X, sF X 12 0 0 0, ?_, ?_, th⟩
    · simp (disch := first | assumption | omega | exact W_fl W _ _ _ | exact W_fh W _ _ _ | exact W_rl W _ _ _ | exact W_rh W _ _ _ | exact WS_l Ws _ | exact WS_h Ws _) only [fX11_now, g_11_11, g_10_1, g_10_2, g_10_3, g_10_4, g_10_5, g_10_6, g_10_7, g_10_8, lm_1, li_0, li_1, li_2, li_3, li_4, li_5, li_6, li_7, Option.bind_some, iI_add, iI_neg, iI_eq, r11, if_true]
    · simp (disch := first | assumption | omega | exact W_fl W _ _ _ | exact W_fh W _ _ _ | exact W_rl W _ _ _ | exact W_rh W _ _ _ | exact WS_l Ws _ | exact WS_h Ws _) only [fX12_now, g_12_6, p_12_0, k_12, l61, lm_1, li_0, li_312, li_1, li_313, li_2, li_314, li_3, li_315, li_4, li_316, li_5, li_317, li_6, li_318, li_7, li_319, ob2, Option.bind_some, iI_add, iI_neg, z, iI_eq, if_true]
  by_cases k1 : w = 1
  · subst k1
    by_cases q : 0 < XR X 61 0 0 ∧ 0 < XR X 61 0 1
    · rw [if_pos q] at v1
      refine ⟨iI (XR X 61 0 313), X, sF X 12 0 0 0, ?_, ?_, th⟩
      · simp (disch := first | assumption | omega | exact W_fl W _ _ _ | exact W_fh W _ _ _ | exact W_rl W _ _ _ | exact W_rh W _ _ _ | exact WS_l Ws _ | exact WS_h Ws _) only [fX11_now, g_11_11, g_10_1, g_10_2, g_10_3, g_10_4, g_10_5, g_10_6, g_10_7, g_10_8, lm_1, li_0, li_1, li_2, li_3, li_4, li_5, li_6, li_7, Option.bind_some, iI_add, iI_neg, iI_eq, if_neg k0, v1, if_true]
      · simp (disch := first | assumption | omega | exact W_fl W _ _ _ | exact W_fh W _ _ _ | exact W_rl W _ _ _ | exact W_rh W _ _ _ | exact WS_l Ws _ | exact WS_h Ws _) only [fX12_now, g_12_6, p_12_0, k_12, l61, lm_1, li_0, li_312, li_1, li_313, li_2, li_314, li_3, li_315, li_4, li_316, li_5, li_317, li_6, li_318, li_7, li_319, ob2, Option.bind_some, iI_add, iI_neg, z, iI_eq, if_neg k0, r_isSea, bI_i0, ite_n, if_pos q, if_true]
    · rw [if_neg q] at v1
      refine ⟨iI (-1), X, sF X 12 0 0 0, ?_, ?_, th⟩
      · simp (disch := first | assumption | omega | exact W_fl W _ _ _ | exact W_fh W _ _ _ | exact W_rl W _ _ _ | exact W_rh W _ _ _ | exact WS_l Ws _ | exact WS_h Ws _) only [fX11_now, g_11_11, g_10_1, g_10_2, g_10_3, g_10_4, g_10_5, g_10_6, g_10_7, g_10_8, lm_1, li_0, li_1, li_2, li_3, li_4, li_5, li_6, li_7, Option.bind_some, iI_add, iI_neg, iI_eq, if_neg k0, v1, if_true]
      · simp (disch := first | assumption | omega | exact W_fl W _ _ _ | exact W_fh W _ _ _ | exact W_rl W _ _ _ | exact W_rh W _ _ _ | exact WS_l Ws _ | exact WS_h Ws _) only [fX12_now, g_12_6, p_12_0, k_12, l61, lm_1, li_0, li_312, li_1, li_313, li_2, li_314, li_3, li_315, li_4, li_316, li_5, li_317, li_6, li_318, li_7, li_319, ob2, Option.bind_some, iI_add, iI_neg, z, iI_eq, if_neg k0, r_isSea, bI_i0, ite_n, if_neg q, if_true, iI_neg]
  by_cases k2 : w = 2
  · subst k2
    by_cases q : 0 < XR X 61 0 0 ∧ 0 < XR X 61 0 1
    · rw [if_pos q] at v2
      refine ⟨iI (XR X 61 0 314), X, sF X 12 0 0 0, ?_, ?_, th⟩
      · simp (disch := first | assumption | omega | exact W_fl W _ _ _ | exact W_fh W _ _ _ | exact W_rl W _ _ _ | exact W_rh W _ _ _ | exact WS_l Ws _ | exact WS_h Ws _) only [fX11_now, g_11_11, g_10_1, g_10_2, g_10_3, g_10_4, g_10_5, g_10_6, g_10_7, g_10_8, lm_1, li_0, li_1, li_2, li_3, li_4, li_5, li_6, li_7, Option.bind_some, iI_add, iI_neg, iI_eq, if_neg k0, if_neg k1, v2, if_true]
      · simp (disch := first | assumption | omega | exact W_fl W _ _ _ | exact W_fh W _ _ _ | exact W_rl W _ _ _ | exact W_rh W _ _ _ | exact WS_l Ws _ | exact WS_h Ws _) only [fX12_now, g_12_6, p_12_0, k_12, l61, lm_1, li_0, li_312, li_1, li_313, li_2, li_314, li_3, li_315, li_4, li_316, li_5, li_317, li_6, li_318, li_7, li_319, ob2, Option.bind_some, iI_add, iI_neg, z, iI_eq, if_neg k0, if_neg k1, r_isSea, bI_i0, ite_n, if_pos q, if_true]
    · rw [if_neg q] at v2
      refine ⟨iI (-1), X, sF X 12 0 0 0, ?_, ?_, th⟩
      · simp (disch := first | assumption | omega | exact W_fl W _ _ _ | exact W_fh W _ _ _ | exact W_rl W _ _ _ | exact W_rh W _ _ _ | exact WS_l Ws _ | exact WS_h Ws _) only [fX11_now, g_11_11, g_10_1, g_10_2, g_10_3, g_10_4, g_10_5, g_10_6, g_10_7, g_10_8, lm_1, li_0, li_1, li_2, li_3, li_4, li_5, li_6, li_7, Option.bind_some, iI_add, iI_neg, iI_eq, if_neg k0, if_neg k1, v2, if_true]
      · simp (disch := first | assumption | omega | exact W_fl W _ _ _ | exact W_fh W _ _ _ | exact W_rl W _ _ _ | exact W_rh W _ _ _ | exact WS_l Ws _ | exact WS_h Ws _) only [fX12_now, g_12_6, p_12_0, k_12, l61, lm_1, li_0, li_312, li_1, li_313, li_2, li_314, li_3, li_315, li_4, li_316, li_5, li_317, li_6, li_318, li_7, li_319, ob2, Option.bind_some, iI_add, iI_neg, z, iI_eq, if_neg k0, if_neg k1, r_isSea, bI_i0, ite_n, if_neg q, if_true, iI_neg]
  by_cases k3 : w = 3
  · subst k3
    refine ⟨iI (XR X 61 0 315), X, sF X 12 0 0 0, ?_, ?_, th⟩
    · simp (disch := first | assumption | omega | exact W_fl W _ _ _ | exact W_fh W _ _ _ | exact W_rl W _ _ _ | exact W_rh W _ _ _ | exact WS_l Ws _ | exact WS_h Ws _) only [fX11_now, g_11_11, g_10_1, g_10_2, g_10_3, g_10_4, g_10_5, g_10_6, g_10_7, g_10_8, lm_1, li_0, li_1, li_2, li_3, li_4, li_5, li_6, li_7, Option.bind_some, iI_add, iI_neg, iI_eq, r12, if_neg k0, if_neg k1, if_neg k2, if_true]
    · simp (disch := first | assumption | omega | exact W_fl W _ _ _ | exact W_fh W _ _ _ | exact W_rl W _ _ _ | exact W_rh W _ _ _ | exact WS_l Ws _ | exact WS_h Ws _) only [fX12_now, g_12_6, p_12_0, k_12, l61, lm_1, li_0, li_312, li_1, li_313, li_2, li_314, li_3, li_315, li_4, li_316, li_5, li_317, li_6, li_318, li_7, li_319, ob2, Option.bind_some, iI_add, iI_neg, z, iI_eq, if_neg k0, if_neg k1, if_neg k2, if_true]
  by_cases k4 : w = 4
  · subst k4
    refine ⟨iI (XR X 61 0 316), X, sF X 12 0 0 0, ?_, ?_, th⟩
    · simp (disch := first | assumption | omega | exact W_fl W _ _ _ | exact W_fh W _ _ _ | exact W_rl W _ _ _ | exact W_rh W _ _ _ | exact WS_l Ws _ | exact WS_h Ws _) only [fX11_now, g_11_11, g_10_1, g_10_2, g_10_3, g_10_4, g_10_5, g_10_6, g_10_7, g_10_8, lm_1, li_0, li_1, li_2, li_3, li_4, li_5, li_6, li_7, Option.bind_some, iI_add, iI_neg, iI_eq, r13, if_neg k0, if_neg k1, if_neg k2, if_neg k3, if_true]
    · simp (disch := first | assumption | omega | exact W_fl W _ _ _ | exact W_fh W _ _ _ | exact W_rl W _ _ _ | exact W_rh W _ _ _ | exact WS_l Ws _ | exact WS_h Ws _) only [fX12_now, g_12_6, p_12_0, k_12, l61, lm_1, li_0, li_312, li_1, li_313, li_2, li_314, li_3, li_315, li_4, li_316, li_5, li_317, li_6, li_318, li_7, li_319, ob2, Option.bind_some, iI_add, iI_neg, z, iI_eq, if_neg k0, if_neg k1, if_neg k2, if_neg k3, if_true]
  by_cases k5 : w = 5
  · subst k5
    refine ⟨iI (XR X 61 0 317), X, sF X 12 0 0 0, ?_, ?_, th⟩
    · rcases c6 with q | q
      · rw [← r14, q]
        simp (disch := first | assumption | omega | exact W_fl W _ _ _ | exact W_fh W _ _ _ | exact W_rl W _ _ _ | exact W_rh W _ _ _ | exact WS_l Ws _ | exact WS_h Ws _) only [fX11_now, g_11_11, g_10_1, g_10_2, g_10_3, g_10_4, g_10_5, g_10_6, g_10_7, g_10_8, lm_1, li_0, li_1, li_2, li_3, li_4, li_5, li_6, li_7, Option.bind_some, iI_add, iI_neg, iI_eq, q, if_neg k0, if_neg k1, if_neg k2, if_neg k3, if_neg k4, if_true]
      · rw [← r14, q]
        have n1 : ¬ (1 : Int) = 0 := by decide
        simp (disch := first | assumption | omega | exact W_fl W _ _ _ | exact W_fh W _ _ _ | exact W_rl W _ _ _ | exact W_rh W _ _ _ | exact WS_l Ws _ | exact WS_h Ws _) only [fX11_now, g_11_11, g_10_1, g_10_2, g_10_3, g_10_4, g_10_5, g_10_6, g_10_7, g_10_8, lm_1, li_0, li_1, li_2, li_3, li_4, li_5, li_6, li_7, Option.bind_some, iI_add, iI_neg, iI_eq, q, if_neg k0, if_neg k1, if_neg k2, if_neg k3, if_neg k4, if_true, if_neg n1]
    · simp (disch := first | assumption | omega | exact W_fl W _ _ _ | exact W_fh W _ _ _ | exact W_rl W _ _ _ | exact W_rh W _ _ _ | exact WS_l Ws _ | exact WS_h Ws _) only [fX12_now, g_12_6, p_12_0, k_12, l61, lm_1, li_0, li_312, li_1, li_313, li_2, li_314, li_3, li_315, li_4, li_316, li_5, li_317, li_6, li_318, li_7, li_319, ob2, Option.bind_some, iI_add, iI_neg, z, iI_eq, if_neg k0, if_neg k1, if_neg k2, if_neg k3, if_neg k4, if_true]
  by_cases k6 : w = 6
  · subst k6
    refine ⟨iI (XR X 61 0 318), X, sF X 12 0 0 0, ?_, ?_, th⟩
    · simp (disch := first | assumption | omega | exact W_fl W _ _ _ | exact W_fh W _ _ _ | exact W_rl W _ _ _ | exact W_rh W _ _ _ | exact WS_l Ws _ | exact WS_h Ws _) only [fX11_now, g_11_11, g_10_1, g_10_2, g_10_3, g_10_4, g_10_5, g_10_6, g_10_7, g_10_8, lm_1, li_0, li_1, li_2, li_3, li_4, li_5, li_6, li_7, Option.bind_some, iI_add, iI_neg, iI_eq, r15, if_neg k0, if_neg k1, if_neg k2, if_neg k3, if_neg k4, if_neg k5, if_true]
    · simp (disch := first | assumption | omega | exact W_fl W _ _ _ | exact W_fh W _ _ _ | exact W_rl W _ _ _ | exact W_rh W _ _ _ | exact WS_l Ws _ | exact WS_h Ws _) only [fX12_now, g_12_6, p_12_0, k_12, l61, lm_1, li_0, li_312, li_1, li_313, li_2, li_314, li_3, li_315, li_4, li_316, li_5, li_317, li_6, li_318, li_7, li_319, ob2, Option.bind_some, iI_add, iI_neg, z, iI_eq, if_neg k0, if_neg k1, if_neg k2, if_neg k3, if_neg k4, if_neg k5, if_true]
  by_cases k7 : w = 7
  · subst k7
    refine ⟨iI (XR X 61 0 319), X, sF X 12 0 0 0, ?_, ?_, th⟩
    · simp (disch := first | assumption | omega | exact W_fl W _ _ _ | exact W_fh W _ _ _ | exact W_rl W _ _ _ | exact W_rh W _ _ _ | exact WS_l Ws _ | exact WS_h Ws _) only [fX11_now, g_11_11, g_10_1, g_10_2, g_10_3, g_10_4, g_10_5, g_10_6, g_10_7, g_10_8, lm_1, li_0, li_1, li_2, li_3, li_4, li_5, li_6, li_7, Option.bind_some, iI_add, iI_neg, iI_eq, r16, if_neg k0, if_neg k1, if_neg k2, if_neg k3, if_neg k4, if_neg k5, if_neg k6, if_true]
    · simp (disch := first | assumption | omega | exact W_fl W _ _ _ | exact W_fh W _ _ _ | exact W_rl W _ _ _ | exact W_rh W _ _ _ | exact WS_l Ws _ | exact WS_h Ws _) only [fX12_now, g_12_6, p_12_0, k_12, l61, lm_1, li_0, li_312, li_1, li_313, li_2, li_314, li_3, li_315, li_4, li_316, li_5, li_317, li_6, li_318, li_7, li_319, ob2, Option.bind_some, iI_add, iI_neg, z, iI_eq, if_neg k0, if_neg k1, if_neg k2, if_neg k3, if_neg k4, if_neg k5, if_neg k6, if_true]
  refine ⟨iI (-1), X, sF X 12 0 0 0, ?_, ?_, th⟩
  · simp (disch := first | assumption | omega | exact W_fl W _ _ _ | exact W_fh W _ _ _ | exact W_rl W _ _ _ | exact W_rh W _ _ _ | exact WS_l Ws _ | exact WS_h Ws _) only [fX11_now, g_11_11, g_10_1, g_10_2, g_10_3, g_10_4, g_10_5, g_10_6, g_10_7, g_10_8, lm_1, li_0, li_1, li_2, li_3, li_4, li_5, li_6, li_7, Option.bind_some, iI_add, iI_neg, iI_eq, if_neg k0, if_neg k1, if_neg k2, if_neg k3, if_neg k4, if_neg k5, if_neg k6, if_neg k7, iI_neg]
  · simp (disch := first | assumption | omega | exact W_fl W _ _ _ | exact W_fh W _ _ _ | exact W_rl W _ _ _ | exact W_rh W _ _ _ | exact WS_l Ws _ | exact WS_h Ws _) only [fX12_now, g_12_6, p_12_0, k_12, l61, lm_1, li_0, li_312, li_1, li_313, li_2, li_314, li_3, li_315, li_4, li_316, li_5, li_317, li_6, li_318, li_7, li_319, ob2, Option.bind_some, iI_add, iI_neg, z, iI_eq, if_neg k0, if_neg k1, if_neg k2, if_neg k3, if_neg k4, if_neg k5, if_neg k6, if_neg k7, iI_neg]
