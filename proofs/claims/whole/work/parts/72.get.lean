/-! count, logged, first, safe, outruns, soonest, where -/
theorem op_count {f0 : Nat} {Y : YS} {X : XS} (h : Inv Y X) {w : Int} (rg_w : Rg w) : ∃ v X1 X2, fX11_count f0 (Ad Y 11 0) (iI w) (hp Y X) = some (v, hp Y X1) ∧ fX12_count f0 (Ad Y 12 0) (iI w) (hp Y X1) = some (v, hp Y X2) ∧ Inv Y X2 := by
  have g := h.1.1; have W := h.2.1
  have se := h.2.2.2.2.2.1; have hC := se.1; have hR := se.2.1
  have g6 := SeO_0 g
  have c0 := hC.1; have c3 := hC.2.1; have c4 := hC.2.2.1; have c5 := hC.2.2.2.1
  have e0 := hR.1.1; have e1 := hR.1.2.1; have e2 := hR.1.2.2.1; have e3 := hR.1.2.2.2.1
  have sh := h.2.2.2.2.2.2.2.2.1
  have p0 := sh.1 0 (by omega)
  have gk0 := ShO_k g p0
  have cd := sh.2.2.2.1.1; have rl := sh.2.2.2.1.2
  have cs : CShip X (XP X 0) 0 := cd
  have sf := inv_S se cd rl
  have Ws : WS (XR X 61 0) := fun i => W.2 61 0 i
  have WA : WF (sF X 12 0 0 0) := W_F W (by decide) (by decide)
  have z := Z61 (Y := Y) (X := sF X 12 0 0 0) (S := XR X 61 0) rfl
  have hP := inv_PostR se h.2.2.2.2.2.2.2.1
  have th := Inv_th h (v := 0) ⟨by decide, by decide⟩
  have rz : Rg (0 : Int) := ⟨by decide, by decide⟩
  have w1 := rg_w.1; have w2 := rg_w.2
  obtain ⟨r0, r3, r4, r5, r1, r2, r6, r7⟩ := hR.1
  have t := h.2.2.1.2.2
  have f2 : XF (sF X 12 0 0 0) 12 0 2 = XF X 12 0 2 := rfl
  have f2' : XF (sR (sF X 12 0 0 0) 61 0 (XR X 61 0)) 12 0 2 = XF X 12 0 2 := rfl
  have n0 : ¬ w < 0 → ¬ 5 < w → 0 ≤ w ∧ w < 7 := by omega
  by_cases k0 : w = 0
  · subst k0
    refine ⟨iI (XR X 61 0 0), X, sF X 12 0 0 0, ?_, ?_, th⟩
    · have a1 : ¬ (0 : Int) < 0 := by decide
      have a2 : ¬ (5 : Int) < 0 := by decide
      simp (disch := first | assumption | omega | exact W_fl W _ _ _ | exact W_fh W _ _ _ | exact W_rl W _ _ _ | exact W_rh W _ _ _ | exact WS_l Ws _ | exact WS_h Ws _) only [fX11_count, g_11_4, g_6_1, l_25, li_0, li_5, Option.bind_some, iI_add, iI_lt, if_neg a1, if_neg a2, r0]
    · simp (disch := first | assumption | omega | exact W_fl W _ _ _ | exact W_fh W _ _ _ | exact W_rl W _ _ _ | exact W_rh W _ _ _ | exact WS_l Ws _ | exact WS_h Ws _) only [fX12_count, g_12_6, g_12_2, p_12_0, l61, lm_1, li_0, li_1, li_4, li_2, li_5, li_3, li_6, li_7, Option.bind_some, iI_add, iI_neg, z, iI_eq, if_true]
  by_cases k1 : w = 1
  · subst k1
    refine ⟨iI (XR X 61 0 4), X, sF X 12 0 0 0, ?_, ?_, th⟩
    · have a1 : ¬ (1 : Int) < 0 := by decide
      have a2 : ¬ (5 : Int) < 1 := by decide
      simp (disch := first | assumption | omega | exact W_fl W _ _ _ | exact W_fh W _ _ _ | exact W_rl W _ _ _ | exact W_rh W _ _ _ | exact WS_l Ws _ | exact WS_h Ws _) only [fX11_count, g_11_4, g_6_1, l_25, li_0, li_5, Option.bind_some, iI_add, iI_lt, if_neg a1, if_neg a2, r1]
    · simp (disch := first | assumption | omega | exact W_fl W _ _ _ | exact W_fh W _ _ _ | exact W_rl W _ _ _ | exact W_rh W _ _ _ | exact WS_l Ws _ | exact WS_h Ws _) only [fX12_count, g_12_6, g_12_2, p_12_0, l61, lm_1, li_0, li_1, li_4, li_2, li_5, li_3, li_6, li_7, Option.bind_some, iI_add, iI_neg, z, iI_eq, if_neg k0, if_true]
  by_cases k2 : w = 2
  · subst k2
    refine ⟨iI (XR X 61 0 5), X, sF X 12 0 0 0, ?_, ?_, th⟩
    · have a1 : ¬ (2 : Int) < 0 := by decide
      have a2 : ¬ (5 : Int) < 2 := by decide
      simp (disch := first | assumption | omega | exact W_fl W _ _ _ | exact W_fh W _ _ _ | exact W_rl W _ _ _ | exact W_rh W _ _ _ | exact WS_l Ws _ | exact WS_h Ws _) only [fX11_count, g_11_4, g_6_1, l_25, li_0, li_5, Option.bind_some, iI_add, iI_lt, if_neg a1, if_neg a2, r2]
    · simp (disch := first | assumption | omega | exact W_fl W _ _ _ | exact W_fh W _ _ _ | exact W_rl W _ _ _ | exact W_rh W _ _ _ | exact WS_l Ws _ | exact WS_h Ws _) only [fX12_count, g_12_6, g_12_2, p_12_0, l61, lm_1, li_0, li_1, li_4, li_2, li_5, li_3, li_6, li_7, Option.bind_some, iI_add, iI_neg, z, iI_eq, if_neg k0, if_neg k1, if_true]
  by_cases k3 : w = 3
  · subst k3
    refine ⟨iI (XR X 61 0 1), X, sF X 12 0 0 0, ?_, ?_, th⟩
    · have a1 : ¬ (3 : Int) < 0 := by decide
      have a2 : ¬ (5 : Int) < 3 := by decide
      simp (disch := first | assumption | omega | exact W_fl W _ _ _ | exact W_fh W _ _ _ | exact W_rl W _ _ _ | exact W_rh W _ _ _ | exact WS_l Ws _ | exact WS_h Ws _) only [fX11_count, g_11_4, g_6_1, l_25, li_0, li_5, Option.bind_some, iI_add, iI_lt, if_neg a1, if_neg a2, r3]
    · simp (disch := first | assumption | omega | exact W_fl W _ _ _ | exact W_fh W _ _ _ | exact W_rl W _ _ _ | exact W_rh W _ _ _ | exact WS_l Ws _ | exact WS_h Ws _) only [fX12_count, g_12_6, g_12_2, p_12_0, l61, lm_1, li_0, li_1, li_4, li_2, li_5, li_3, li_6, li_7, Option.bind_some, iI_add, iI_neg, z, iI_eq, if_neg k0, if_neg k1, if_neg k2, if_true]
  by_cases k4 : w = 4
  · subst k4
    refine ⟨iI (XR X 61 0 2), X, sF X 12 0 0 0, ?_, ?_, th⟩
    · have a1 : ¬ (4 : Int) < 0 := by decide
      have a2 : ¬ (5 : Int) < 4 := by decide
      simp (disch := first | assumption | omega | exact W_fl W _ _ _ | exact W_fh W _ _ _ | exact W_rl W _ _ _ | exact W_rh W _ _ _ | exact WS_l Ws _ | exact WS_h Ws _) only [fX11_count, g_11_4, g_6_1, l_25, li_0, li_5, Option.bind_some, iI_add, iI_lt, if_neg a1, if_neg a2, r4]
    · simp (disch := first | assumption | omega | exact W_fl W _ _ _ | exact W_fh W _ _ _ | exact W_rl W _ _ _ | exact W_rh W _ _ _ | exact WS_l Ws _ | exact WS_h Ws _) only [fX12_count, g_12_6, g_12_2, p_12_0, l61, lm_1, li_0, li_1, li_4, li_2, li_5, li_3, li_6, li_7, Option.bind_some, iI_add, iI_neg, z, iI_eq, if_neg k0, if_neg k1, if_neg k2, if_neg k3, if_true]
  by_cases k5 : w = 5
  · subst k5
    refine ⟨iI (XR X 61 0 3), X, sF X 12 0 0 0, ?_, ?_, th⟩
    · have a1 : ¬ (5 : Int) < 0 := by decide
      have a2 : ¬ (5 : Int) < 5 := by decide
      simp (disch := first | assumption | omega | exact W_fl W _ _ _ | exact W_fh W _ _ _ | exact W_rl W _ _ _ | exact W_rh W _ _ _ | exact WS_l Ws _ | exact WS_h Ws _) only [fX11_count, g_11_4, g_6_1, l_25, li_0, li_5, Option.bind_some, iI_add, iI_lt, if_neg a1, if_neg a2, r5]
    · simp (disch := first | assumption | omega | exact W_fl W _ _ _ | exact W_fh W _ _ _ | exact W_rl W _ _ _ | exact W_rh W _ _ _ | exact WS_l Ws _ | exact WS_h Ws _) only [fX12_count, g_12_6, g_12_2, p_12_0, l61, lm_1, li_0, li_1, li_4, li_2, li_5, li_3, li_6, li_7, Option.bind_some, iI_add, iI_neg, z, iI_eq, if_neg k0, if_neg k1, if_neg k2, if_neg k3, if_neg k4, if_true]
  have cl : fX11_count f0 (Ad Y 11 0) (iI w) (hp Y X) = bX11_count_19 f0 (Ad Y 11 0) (iI w) (hp Y X) := by
    by_cases a1 : w < 0
    · simp (disch := first | assumption | omega | exact W_fl W _ _ _ | exact W_fh W _ _ _ | exact W_rl W _ _ _ | exact W_rh W _ _ _ | exact WS_l Ws _ | exact WS_h Ws _) only [fX11_count, li_0, iI_lt, if_pos a1]
    · have a2 : 5 < w := by omega
      simp (disch := first | assumption | omega | exact W_fl W _ _ _ | exact W_fh W _ _ _ | exact W_rl W _ _ _ | exact W_rh W _ _ _ | exact WS_l Ws _ | exact WS_h Ws _) only [fX11_count, li_0, li_5, iI_lt, if_neg a1, if_pos a2]
  rw [cl]
  by_cases k6 : w = 6
  · subst k6
    refine ⟨iI (XR X 61 0 6), X, sF X 12 0 0 0, ?_, ?_, th⟩
    · simp (disch := first | assumption | omega | exact W_fl W _ _ _ | exact W_fh W _ _ _ | exact W_rl W _ _ _ | exact W_rh W _ _ _ | exact WS_l Ws _ | exact WS_h Ws _) only [bX11_count_19, g_11_4, g_6_2, g_11_1, lm_1, li_6, li_7, li_1, Option.bind_some, iI_add, iI_neg, iI_eq, if_true, r6]
    · simp (disch := first | assumption | omega | exact W_fl W _ _ _ | exact W_fh W _ _ _ | exact W_rl W _ _ _ | exact W_rh W _ _ _ | exact WS_l Ws _ | exact WS_h Ws _) only [fX12_count, g_12_6, g_12_2, p_12_0, l61, lm_1, li_0, li_1, li_4, li_2, li_5, li_3, li_6, li_7, Option.bind_some, iI_add, iI_neg, z, iI_eq, if_neg k0, if_neg k1, if_neg k2, if_neg k3, if_neg k4, if_neg k5, if_true]
  by_cases k7 : w = 7
  · subst k7
    refine ⟨iI (XF X 12 0 2), X, sF X 12 0 0 0, ?_, ?_, th⟩
    · simp (disch := first | assumption | omega | exact W_fl W _ _ _ | exact W_fh W _ _ _ | exact W_rl W _ _ _ | exact W_rh W _ _ _ | exact WS_l Ws _ | exact WS_h Ws _) only [bX11_count_19, g_11_4, g_6_2, g_11_1, lm_1, li_6, li_7, li_1, Option.bind_some, iI_add, iI_neg, iI_eq, if_neg k6, if_true, t]
    · simp (disch := first | assumption | omega | exact W_fl W _ _ _ | exact W_fh W _ _ _ | exact W_rl W _ _ _ | exact W_rh W _ _ _ | exact WS_l Ws _ | exact WS_h Ws _) only [fX12_count, g_12_6, g_12_2, p_12_0, l61, lm_1, li_0, li_1, li_4, li_2, li_5, li_3, li_6, li_7, Option.bind_some, iI_add, iI_neg, z, iI_eq, if_neg k0, if_neg k1, if_neg k2, if_neg k3, if_neg k4, if_neg k5, if_neg k6, if_true, f2']
  refine ⟨iI (-1), X, sF X 12 0 0 0, ?_, ?_, th⟩
  · simp (disch := first | assumption | omega | exact W_fl W _ _ _ | exact W_fh W _ _ _ | exact W_rl W _ _ _ | exact W_rh W _ _ _ | exact WS_l Ws _ | exact WS_h Ws _) only [bX11_count_19, g_11_4, g_6_2, g_11_1, lm_1, li_6, li_7, li_1, Option.bind_some, iI_add, iI_neg, iI_eq, if_neg k6, if_neg k7, iI_neg]
  · simp (disch := first | assumption | omega | exact W_fl W _ _ _ | exact W_fh W _ _ _ | exact W_rl W _ _ _ | exact W_rh W _ _ _ | exact WS_l Ws _ | exact WS_h Ws _) only [fX12_count, g_12_6, g_12_2, p_12_0, l61, lm_1, li_0, li_1, li_4, li_2, li_5, li_3, li_6, li_7, Option.bind_some, iI_add, iI_neg, z, iI_eq, if_neg k0, if_neg k1, if_neg k2, if_neg k3, if_neg k4, if_neg k5, if_neg k6, if_neg k7, iI_neg]
theorem op_logged {f0 : Nat} {Y : YS} {X : XS} (h : Inv Y X) {w : Int} (rg_w : Rg w) : ∃ v X1 X2, fX11_logged f0 (Ad Y 11 0) (iI w) (hp Y X) = some (v, hp Y X1) ∧ fX12_logged f0 (Ad Y 12 0) (iI w) (hp Y X1) = some (v, hp Y X2) ∧ Inv Y X2 := by
  have g := h.1.1; have W := h.2.1
  have se := h.2.2.2.2.2.1; have hC := se.1; have hR := se.2.1
  have g6 := SeO_0 g
  have c0 := hC.1; have c3 := hC.2.1; have c4 := hC.2.2.1; have c5 := hC.2.2.2.1
  have e0 := hR.1.1; have e1 := hR.1.2.1; have e2 := hR.1.2.2.1; have e3 := hR.1.2.2.2.1
  have sh := h.2.2.2.2.2.2.2.2.1
  have p0 := sh.1 0 (by omega)
  have gk0 := ShO_k g p0
  have cd := sh.2.2.2.1.1; have rl := sh.2.2.2.1.2
  have cs : CShip X (XP X 0) 0 := cd
  have sf := inv_S se cd rl
  have Ws : WS (XR X 61 0) := fun i => W.2 61 0 i
  have WA : WF (sF X 12 0 0 0) := W_F W (by decide) (by decide)
  have z := Z61 (Y := Y) (X := sF X 12 0 0 0) (S := XR X 61 0) rfl
  have hP := inv_PostR se h.2.2.2.2.2.2.2.1
  have th := Inv_th h (v := 0) ⟨by decide, by decide⟩
  have rz : Rg (0 : Int) := ⟨by decide, by decide⟩
  have w1 := rg_w.1; have w2 := rg_w.2
  have lo := h.2.2.2.2.2.2.2.2.2.2.1
  obtain ⟨⟨l1, l2⟩, l3⟩ := lo
  have f38 : XF (sF X 12 0 0 0) 12 0 38 = XF X 12 0 38 := rfl
  have x76 : XR (sF X 12 0 0 0) 76 0 = XR X 76 0 := rfl
  have r3 : Rg (3 : Int) := ⟨by decide, by decide⟩
  rcases l2 with q | q
  · have q2 : XF X 12 0 38 = 0 := by omega
    refine ⟨iI (-1), X, sF X 12 0 0 0, ?_, ?_, th⟩
    · simp (disch := first | assumption | omega | exact W_fl W _ _ _ | exact W_fh W _ _ _ | exact W_rl W _ _ _ | exact W_rh W _ _ _ | exact WS_l Ws _ | exact WS_h Ws _) only [fX11_logged, g_11_10, g_2_6, g_2_7, g_2_8, g_2_9, g_2_10, lm_1, li_0, li_1, li_2, li_3, Option.bind_some, iI_add, iI_neg, q, iI_eq, if_true, iI_neg]
    · simp (disch := first | assumption | omega | exact W_fl W _ _ _ | exact W_fh W _ _ _ | exact W_rl W _ _ _ | exact W_rh W _ _ _ | exact WS_l Ws _ | exact WS_h Ws _) only [fX12_logged, g_12_38, g_12_37, p_12_0, l_76, lm_1, li_0, li_1, li_3, ob2, Option.bind_some, iI_add, iI_neg, f38, q2, iI_eq, if_true, iI_neg]
  · have q2 : XF X 12 0 38 = 1 := by omega
    have n1 : ¬ (1 : Int) = 0 := by decide
    obtain ⟨v0, v1, v2, v3, b3⟩ := l3 q
    by_cases k0 : w = 0
    · subst k0
      refine ⟨iI (XR X 76 0 0), X, sF X 12 0 0 0, ?_, ?_, th⟩
      · simp (disch := first | assumption | omega | exact W_fl W _ _ _ | exact W_fh W _ _ _ | exact W_rl W _ _ _ | exact W_rh W _ _ _ | exact WS_l Ws _ | exact WS_h Ws _) only [fX11_logged, g_11_10, g_2_6, g_2_7, g_2_8, g_2_9, g_2_10, lm_1, li_0, li_1, li_2, li_3, Option.bind_some, iI_add, iI_neg, q, iI_eq, if_neg n1, if_true, v0]
      · have c : (0 : Int) ≤ 0 ∧ (0 : Int) ≤ 3 := by decide
        simp (disch := first | assumption | omega | exact W_fl W _ _ _ | exact W_fh W _ _ _ | exact W_rl W _ _ _ | exact W_rh W _ _ _ | exact WS_l Ws _ | exact WS_h Ws _) only [fX12_logged, g_12_38, g_12_37, p_12_0, l_76, lm_1, li_0, li_1, li_3, ob2, Option.bind_some, iI_add, iI_neg, f38, q2, iI_eq, if_neg n1, r_isIn, bI_i0, ite_n, if_pos c, x76]
    by_cases k1 : w = 1
    · subst k1
      refine ⟨iI (XR X 76 0 1), X, sF X 12 0 0 0, ?_, ?_, th⟩
      · simp (disch := first | assumption | omega | exact W_fl W _ _ _ | exact W_fh W _ _ _ | exact W_rl W _ _ _ | exact W_rh W _ _ _ | exact WS_l Ws _ | exact WS_h Ws _) only [fX11_logged, g_11_10, g_2_6, g_2_7, g_2_8, g_2_9, g_2_10, lm_1, li_0, li_1, li_2, li_3, Option.bind_some, iI_add, iI_neg, q, iI_eq, if_neg n1, if_true, v1]
      · have c : (0 : Int) ≤ 1 ∧ (1 : Int) ≤ 3 := by decide
        simp (disch := first | assumption | omega | exact W_fl W _ _ _ | exact W_fh W _ _ _ | exact W_rl W _ _ _ | exact W_rh W _ _ _ | exact WS_l Ws _ | exact WS_h Ws _) only [fX12_logged, g_12_38, g_12_37, p_12_0, l_76, lm_1, li_0, li_1, li_3, ob2, Option.bind_some, iI_add, iI_neg, f38, q2, iI_eq, if_neg n1, r_isIn, bI_i0, ite_n, if_pos c, x76]
    by_cases k2 : w = 2
    · subst k2
      refine ⟨iI (XR X 76 0 2), X, sF X 12 0 0 0, ?_, ?_, th⟩
      · simp (disch := first | assumption | omega | exact W_fl W _ _ _ | exact W_fh W _ _ _ | exact W_rl W _ _ _ | exact W_rh W _ _ _ | exact WS_l Ws _ | exact WS_h Ws _) only [fX11_logged, g_11_10, g_2_6, g_2_7, g_2_8, g_2_9, g_2_10, lm_1, li_0, li_1, li_2, li_3, Option.bind_some, iI_add, iI_neg, q, iI_eq, if_neg n1, if_neg k0, if_neg k1, if_true, v2]
      · have c : (0 : Int) ≤ 2 ∧ (2 : Int) ≤ 3 := by decide
        simp (disch := first | assumption | omega | exact W_fl W _ _ _ | exact W_fh W _ _ _ | exact W_rl W _ _ _ | exact W_rh W _ _ _ | exact WS_l Ws _ | exact WS_h Ws _) only [fX12_logged, g_12_38, g_12_37, p_12_0, l_76, lm_1, li_0, li_1, li_3, ob2, Option.bind_some, iI_add, iI_neg, f38, q2, iI_eq, if_neg n1, r_isIn, bI_i0, ite_n, if_pos c, x76]
    by_cases k3 : w = 3
    · subst k3
      refine ⟨iI (XR X 76 0 3), X, sF X 12 0 0 0, ?_, ?_, th⟩
      · rw [← v3]
        rcases b3 with b | b
        · simp (disch := first | assumption | omega | exact W_fl W _ _ _ | exact W_fh W _ _ _ | exact W_rl W _ _ _ | exact W_rh W _ _ _ | exact WS_l Ws _ | exact WS_h Ws _) only [fX11_logged, g_11_10, g_2_6, g_2_7, g_2_8, g_2_9, g_2_10, lm_1, li_0, li_1, li_2, li_3, Option.bind_some, iI_add, iI_neg, q, iI_eq, if_neg n1, if_neg k0, if_neg k1, if_neg k2, if_true, b]
        · simp (disch := first | assumption | omega | exact W_fl W _ _ _ | exact W_fh W _ _ _ | exact W_rl W _ _ _ | exact W_rh W _ _ _ | exact WS_l Ws _ | exact WS_h Ws _) only [fX11_logged, g_11_10, g_2_6, g_2_7, g_2_8, g_2_9, g_2_10, lm_1, li_0, li_1, li_2, li_3, Option.bind_some, iI_add, iI_neg, q, iI_eq, if_neg n1, if_neg k0, if_neg k1, if_neg k2, if_true, b]
      · have c : (0 : Int) ≤ 3 ∧ (3 : Int) ≤ 3 := by decide
        simp (disch := first | assumption | omega | exact W_fl W _ _ _ | exact W_fh W _ _ _ | exact W_rl W _ _ _ | exact W_rh W _ _ _ | exact WS_l Ws _ | exact WS_h Ws _) only [fX12_logged, g_12_38, g_12_37, p_12_0, l_76, lm_1, li_0, li_1, li_3, ob2, Option.bind_some, iI_add, iI_neg, f38, q2, iI_eq, if_neg n1, r_isIn, bI_i0, ite_n, if_pos c, x76]
    · refine ⟨iI (-1), X, sF X 12 0 0 0, ?_, ?_, th⟩
      · simp (disch := first | assumption | omega | exact W_fl W _ _ _ | exact W_fh W _ _ _ | exact W_rl W _ _ _ | exact W_rh W _ _ _ | exact WS_l Ws _ | exact WS_h Ws _) only [fX11_logged, g_11_10, g_2_6, g_2_7, g_2_8, g_2_9, g_2_10, lm_1, li_0, li_1, li_2, li_3, Option.bind_some, iI_add, iI_neg, q, iI_eq, if_neg n1, if_neg k0, if_neg k1, if_neg k2, if_neg k3, iI_neg]
      · have c : ¬ ((0 : Int) ≤ w ∧ w ≤ 3) := by omega
        simp (disch := first | assumption | omega | exact W_fl W _ _ _ | exact W_fh W _ _ _ | exact W_rl W _ _ _ | exact W_rh W _ _ _ | exact WS_l Ws _ | exact WS_h Ws _) only [fX12_logged, g_12_38, g_12_37, p_12_0, l_76, lm_1, li_0, li_1, li_3, ob2, Option.bind_some, iI_add, iI_neg, f38, q2, iI_eq, if_neg n1, r_isIn, bI_i0, ite_n, if_neg c, iI_neg]
/-- the first office that knows -/
def fsA (kn : Int → Int) : Nat → Int × Int
  | 0 => (-1, 1000000)
  | n + 1 => if kn n < (fsA kn n).2 then ((n : Int), kn n) else fsA kn n
theorem fsA_rg {kn : Int → Int} (h : ∀ i, 0 ≤ i → i < 8 → 0 ≤ kn i) : ∀ n : Nat, n ≤ 8 → (-1 ≤ (fsA kn n).1 ∧ (fsA kn n).1 < 8) ∧ 0 ≤ (fsA kn n).2 ∧ (fsA kn n).2 ≤ 1000000
  | 0, _ => by simp [fsA]
  | n + 1, hn => by
    have ih := fsA_rg h n (by omega)
    have := h n (by omega) (by omega)
    rw [fsA]; split
    · refine ⟨⟨?_, ?_⟩, ?_, ?_⟩
      · show (-1 : Int) ≤ (n : Int); omega
      · show (n : Int) < 8; omega
      · show 0 ≤ kn n; omega
      · show kn n ≤ 1000000; omega
    · exact ih
theorem fsA_c {k k' : Int → Int} : ∀ {n : Nat}, (∀ i : Int, 0 ≤ i → i < (n : Int) → k i = k' i) → fsA k n = fsA k' n
  | 0, _ => rfl
  | n + 1, h => by rw [fsA, fsA, fsA_c (fun i h0 h1 => h i h0 (by omega)), h n (by omega) (by omega)]
theorem op_first {f0 : Nat} {Y : YS} {X : XS} (h : Inv Y X) {s : Int} (rg_s : Rg s) (hf : 2000 ≤ f0) : ∃ v X1 X2, fX11_first f0 (Ad Y 11 0) (iI s) (hp Y X) = some (v, hp Y X1) ∧ fX12_first f0 (Ad Y 12 0) (iI s) (hp Y X1) = some (v, hp Y X2) ∧ Inv Y X2 := by
  have g := h.1.1; have W := h.2.1
  have se := h.2.2.2.2.2.1; have hC := se.1; have hR := se.2.1
  have g6 := SeO_0 g
  have c0 := hC.1; have c3 := hC.2.1; have c4 := hC.2.2.1; have c5 := hC.2.2.2.1
  have e0 := hR.1.1; have e1 := hR.1.2.1; have e2 := hR.1.2.2.1; have e3 := hR.1.2.2.2.1
  have sh := h.2.2.2.2.2.2.2.2.1
  have p0 := sh.1 0 (by omega)
  have gk0 := ShO_k g p0
  have cd := sh.2.2.2.1.1; have rl := sh.2.2.2.1.2
  have cs : CShip X (XP X 0) 0 := cd
  have sf := inv_S se cd rl
  have Ws : WS (XR X 61 0) := fun i => W.2 61 0 i
  have WA : WF (sF X 12 0 0 0) := W_F W (by decide) (by decide)
  have z := Z61 (Y := Y) (X := sF X 12 0 0 0) (S := XR X 61 0) rfl
  have hP := inv_PostR se h.2.2.2.2.2.2.2.1
  have th := Inv_th h (v := 0) ⟨by decide, by decide⟩
  have rz : Rg (0 : Int) := ⟨by decide, by decide⟩
  have s1 := rg_s.1; have s2 := rg_s.2
  have hq : QR (XR (sF X 12 0 0 0) 67 0) := hP.2.2
  have hs := rl.2.2.2.2.2.1
  have s0 := sf.2.2.1.1
  have f20 : 20 ≤ f0 := by omega
  by_cases c : 0 ≤ s ∧ s < XR X 25 0 3
  · have cS : 0 ≤ s ∧ s < XR X 61 0 1 := by omega
    have kr : ∀ i, 0 ≤ i → i < 8 → 0 ≤ XR X 46 (XP X 0) (i * 8 + s) := fun i i0 i8 => (cd.2.2.2.2.2.2.2 (i * 8 + s) (by omega) (by omega)).1
    have ke : ∀ i, 0 ≤ i → i < (((XR X 61 0 0).toNat : Nat) : Int) → XR X 46 (XP X 0) (i * 8 + s) = knA (XR (sF X 12 0 0 0) 67 0) (XR X 61 0) i s := fun i i0 i8 => rl.2.2.2.2.1 i s i0 (by omega) cS.1 cS.2
    have kr2 : ∀ i, 0 ≤ i → i < 8 → 0 ≤ knA (XR (sF X 12 0 0 0) 67 0) (XR X 61 0) i s ∧ knA (XR (sF X 12 0 0 0) 67 0) (XR X 61 0) i s ≤ 1000000 := fun i i0 i8 => knF_rg hq i0 i8 _ (by omega)
    refine ⟨iI (fsA (fun i => XR X 46 (XP X 0) (i * 8 + s)) (XR X 25 0 0).toNat).1, X, sF X 12 0 0 0, ?_, ?_, th⟩
    · have st : fX11_first f0 (Ad Y 11 0) (iI s) (hp Y X) = bX11_first_22 f0 f0 (Ad Y 11 0) (iI s) (iI (fsA (fun i => XR X 46 (XP X 0) (i * 8 + s)) 0).1) (iI (fsA (fun i => XR X 46 (XP X 0) (i * 8 + s)) 0).2) (iI ((0 : Nat) : Int)) (hp Y X) := by
        simp (disch := first | assumption | omega | exact W_fl W _ _ _ | exact W_fh W _ _ _ | exact W_rl W _ _ _ | exact W_rh W _ _ _ | exact WS_l Ws _ | exact WS_h Ws _) only [fX11_first, g_11_4, k_6, lm_1, li_3, li_0, li_1, li_1000000, ob2, Option.bind_some, iI_add, iI_neg, e_has, bI_i0, ite_n, if_pos c, iI_neg]
        rfl
      rw [st]
      refine lp (fun f (i : Nat) => bX11_first_22 f0 f (Ad Y 11 0) (iI s) (iI (fsA (fun i => XR X 46 (XP X 0) (i * 8 + s)) i).1) (iI (fsA (fun i => XR X 46 (XP X 0) (i * 8 + s)) i).2) (iI (i : Int)) (hp Y X)) (fun i => (i : Int) ≤ XR X 25 0 0) (fun i => 9 - i) (fun r => r = _) ?_ f0 0 (by omega) (by omega)
      intro f i hi
      have rg := fsA_rg kr i (by omega)
      by_cases e : XR X 25 0 0 ≤ (i : Int)
      · left
        simp (disch := first | assumption | omega | exact W_fl W _ _ _ | exact W_fh W _ _ _ | exact W_rl W _ _ _ | exact W_rh W _ _ _ | exact WS_l Ws _ | exact WS_h Ws _) only [bX11_first_22, g_11_4, g_6_1, g_11_11, g_10_12, l_25, l_46, li_0, li_1, li_8, iI_add, iI_mul, Option.bind_some, iI_le, if_pos e]
        rw [show (XR X 25 0 0).toNat = i by omega]
      · right
        refine ⟨i + 1, ?_, by omega, by omega⟩
        rw [fsA]
        by_cases a : XR X 46 (XP X 0) ((i : Int) * 8 + s) < (fsA (fun i => XR X 46 (XP X 0) (i * 8 + s)) i).2
        · have a' : ¬ (fsA (fun i => XR X 46 (XP X 0) (i * 8 + s)) i).2 ≤ XR X 46 (XP X 0) ((i : Int) * 8 + s) := by omega
          rw [if_pos a]
          simp (disch := first | assumption | omega | exact W_fl W _ _ _ | exact W_fh W _ _ _ | exact W_rl W _ _ _ | exact W_rh W _ _ _ | exact WS_l Ws _ | exact WS_h Ws _) only [bX11_first_22, bX11_first_74, g_11_4, g_6_1, g_11_11, g_10_12, l_25, l_46, li_0, li_1, li_8, iI_add, iI_mul, Option.bind_some, iI_le, if_neg e, if_neg a']
          rfl
        · have a' : (fsA (fun i => XR X 46 (XP X 0) (i * 8 + s)) i).2 ≤ XR X 46 (XP X 0) ((i : Int) * 8 + s) := by omega
          rw [if_neg a]
          simp (disch := first | assumption | omega | exact W_fl W _ _ _ | exact W_fh W _ _ _ | exact W_rl W _ _ _ | exact W_rh W _ _ _ | exact WS_l Ws _ | exact WS_h Ws _) only [bX11_first_22, bX11_first_74, g_11_4, g_6_1, g_11_11, g_10_12, l_25, l_46, li_0, li_1, li_8, iI_add, iI_mul, Option.bind_some, iI_le, if_neg e, if_pos a']
          rfl
    · rw [e0, fsA_c ke]
      have st : fX12_first f0 (Ad Y 12 0) (iI s) (hp Y X) = bX12_first_24 f0 f0 (Ad Y 12 0) (iI s) (iI (fsA (fun i => knA (XR (sF X 12 0 0 0) 67 0) (XR X 61 0) i s) 0).1) (iI (fsA (fun i => knA (XR (sF X 12 0 0 0) 67 0) (XR X 61 0) i s) 0).2) (iI ((0 : Nat) : Int)) (hp Y (sR (sF X 12 0 0 0) 61 0 (XR X 61 0))) := by
        simp (disch := first | assumption | omega | exact W_fl W _ _ _ | exact W_fh W _ _ _ | exact W_rl W _ _ _ | exact W_rh W _ _ _ | exact WS_l Ws _ | exact WS_h Ws _) only [fX12_first, p_12_0, k_12, lm_1, li_0, li_1, li_1000000, ob2, Option.bind_some, iI_add, iI_neg, z, r_isShip, bI_i0, ite_n, if_pos cS, iI_neg]
        rfl
      rw [st, z]
      refine lp (fun f (i : Nat) => bX12_first_24 f0 f (Ad Y 12 0) (iI s) (iI (fsA (fun i => knA (XR (sF X 12 0 0 0) 67 0) (XR X 61 0) i s) i).1) (iI (fsA (fun i => knA (XR (sF X 12 0 0 0) 67 0) (XR X 61 0) i s) i).2) (iI (i : Int)) (hp Y (sR (sF X 12 0 0 0) 61 0 (XR X 61 0)))) (fun i => (i : Int) ≤ XR X 61 0 0) (fun i => 9 - i) (fun r => r = _) ?_ f0 0 (by omega) (by omega)
      intro f i hi
      have rg := fsA_rg (fun i i0 i8 => (kr2 i i0 i8).1) i (by omega)
      by_cases e : XR X 61 0 0 ≤ (i : Int)
      · left
        simp (disch := first | assumption | omega | exact W_fl W _ _ _ | exact W_fh W _ _ _ | exact W_rl W _ _ _ | exact W_rh W _ _ _ | exact WS_l Ws _ | exact WS_h Ws _) only [bX12_first_24, g_12_6, k_12, l61, li_0, li_1, ob2, iI_add, Option.bind_some, iI_le, if_pos e]
        rw [show (XR X 61 0 0).toNat = i by omega]
      · right
        refine ⟨i + 1, ?_, by omega, by omega⟩
        have kb := kr2 i (by omega) (by omega)
        rw [fsA]
        by_cases a : knA (XR (sF X 12 0 0 0) 67 0) (XR X 61 0) i s < (fsA (fun i => knA (XR (sF X 12 0 0 0) 67 0) (XR X 61 0) i s) i).2
        · rw [if_pos a]
          simp (disch := first | assumption | omega | exact W_fl W _ _ _ | exact W_fh W _ _ _ | exact W_rl W _ _ _ | exact W_rh W _ _ _ | exact WS_l Ws _ | exact WS_h Ws _) only [bX12_first_24, bX12_first_59, g_12_6, k_12, l61, li_0, li_1, ob2, iI_add, Option.bind_some, iI_le, iI_lt, if_neg e, r_knowsFrom, if_pos a]
          rfl
        · rw [if_neg a]
          simp (disch := first | assumption | omega | exact W_fl W _ _ _ | exact W_fh W _ _ _ | exact W_rl W _ _ _ | exact W_rh W _ _ _ | exact WS_l Ws _ | exact WS_h Ws _) only [bX12_first_24, bX12_first_59, g_12_6, k_12, l61, li_0, li_1, ob2, iI_add, Option.bind_some, iI_le, iI_lt, if_neg e, r_knowsFrom, if_neg a]
          rfl
  · have cS : ¬ (0 ≤ s ∧ s < XR X 61 0 1) := by omega
    refine ⟨iI (-1), X, sF X 12 0 0 0, ?_, ?_, th⟩
    · simp (disch := first | assumption | omega | exact W_fl W _ _ _ | exact W_fh W _ _ _ | exact W_rl W _ _ _ | exact W_rh W _ _ _ | exact WS_l Ws _ | exact WS_h Ws _) only [fX11_first, g_11_4, k_6, lm_1, li_3, li_0, li_1, li_1000000, ob2, Option.bind_some, iI_add, iI_neg, e_has, bI_i0, ite_n, if_neg c, iI_neg]
    · simp (disch := first | assumption | omega | exact W_fl W _ _ _ | exact W_fh W _ _ _ | exact W_rl W _ _ _ | exact W_rh W _ _ _ | exact WS_l Ws _ | exact WS_h Ws _) only [fX12_first, p_12_0, k_12, lm_1, li_0, li_1, li_1000000, ob2, Option.bind_some, iI_add, iI_neg, z, r_isShip, bI_i0, ite_n, if_neg cS, iI_neg]
