/-! soonest, where -/
theorem r_soonestOf {f0 : Nat} {Y : YS} {X : XS} (h : Inv Y X) (hf : 2000 ≤ f0) : fX12_soonestOf f0 (Ad Y 12 0) (hp Y (sR (sF X 12 0 0 0) 61 0 (XR X 61 0))) = some (hp Y (sR (sF (sF (sF X 12 0 0 0) 12 0 33 (if canA X (XP X 0) then (glA X (XP X 0) (XR X 25 0 0).toNat).2 else 1000000)) 12 0 34 (if canA X (XP X 0) then (glA X (XP X 0) (XR X 25 0 0).toNat).1 else -1)) 61 0 (XR X 61 0))) := by
  have g := h.1.1; have W := h.2.1
  have se := h.2.2.2.2.2.1; have hC := se.1; have hR := se.2.1
  have g6 := SeO_0 g
  have c0 := hC.1; have c3 := hC.2.1; have c4 := hC.2.2.1; have c5 := hC.2.2.2.1
  have e0 := hR.1.1; have e1 := hR.1.2.1; have e2 := hR.1.2.2.1; have e3 := hR.1.2.2.2.1
  have sh := h.2.2.2.2.2.2.2.2.1
  have p0 := sh.1 0 (by omega)
  have gk0 := ShO_k g p0
  have cd := sh.2.2.2.1.1; have rl := sh.2.2.2.1.2
  have cs : CShip X (XP X 0) 0 := cd
  have sf := inv_S se cd rl
  have Ws : WS (XR X 61 0) := fun i => W.2 61 0 i
  have WA : WF (sF X 12 0 0 0) := W_F W (by decide) (by decide)
  have z := Z61 (Y := Y) (X := sF X 12 0 0 0) (S := XR X 61 0) rfl
  have hP := inv_PostR se h.2.2.2.2.2.2.2.1
  have th := Inv_th h (v := 0) ⟨by decide, by decide⟩
  have rz : Rg (0 : Int) := ⟨by decide, by decide⟩
  have hq : QR (XR (sF X 12 0 0 0) 67 0) := hP.2.2
  have hs := rl.2.2.2.2.2.1
  have s0 := sf.2.2.1.1; have t0 := sf.2.2.1.2.1
  have f20 : 20 ≤ f0 := by omega
  have st : fX12_soonestOf f0 (Ad Y 12 0) (hp Y (sR (sF X 12 0 0 0) 61 0 (XR X 61 0))) = bX12_soonestOf_14 f0 f0 (Ad Y 12 0) (iI ((0 : Nat) : Int)) (hp Y (sR (sF (sF (sF X 12 0 0 0) 12 0 33 (glA X (XP X 0) 0).2) 12 0 34 (glA X (XP X 0) 0).1) 61 0 (XR X 61 0))) := by
    simp (disch := first | assumption | omega | exact W_fl W _ _ _ | exact W_fh W _ _ _ | exact W_rl W _ _ _ | exact W_rh W _ _ _ | exact WS_l Ws _ | exact WS_h Ws _) only [fX12_soonestOf, p_12_33, p_12_34, lm_1, li_1000000, li_1, li_0, Option.bind_some, iI_add, iI_neg, sF_sR, iI_neg]
    rfl
  rw [st]
  by_cases ca : canA X (XP X 0)
  · have ca2 : canS (XR X 61 0) := (rel_sea hR rl).mp ca
    have q3 := sf.2.1 ca2.1
    have f2 : XF X 10 (XP X 0) 2 = XR X 61 0 313 := (rl.2.1 ca2.1).1
    have f3 : XF X 10 (XP X 0) 3 = XR X 61 0 314 := (rl.2.1 ca2.1).2
    have f1 : XF X 10 (XP X 0) 1 = XR X 61 0 312 := rl.1.1
    have fr : ∀ i : Int, 0 ≤ i → i < XR X 61 0 0 → frA X (XP X 0) i = XR X 66 0 (8 * XR X 61 0 313 + i) ∧ 0 ≤ XR X 66 0 (8 * XR X 61 0 313 + i) ∧ XR X 66 0 (8 * XR X 61 0 313 + i) ≤ 1000000 := fun i i0 i8 => by
      refine ⟨?_, hP.2.1 (8 * XR X 61 0 313 + i) (by omega) (by omega)⟩
      unfold frA; rw [if_pos ca.1, f2]; exact ((hP.1 (XR X 61 0 313) i (by omega) (by omega) i0 i8).1).symm
    have frr : ∀ n : Nat, n < 8 → 0 ≤ XF X 10 (XP X 0) 1 + frA X (XP X 0) n := fun n hn => by
      have := cd.1; have d1 : (shG X (XP X 0)).1 1 = XF X 10 (XP X 0) 1 := rfl
      unfold frA
      split
      · have := hC.2.2.2.2.2.2.2.2.2.2.1 (XF X 10 (XP X 0) 2 * 8 + n) (by omega) (by omega); omega
      · omega
    rw [if_pos ca, if_pos ca]
    refine lp (fun f (i : Nat) => bX12_soonestOf_14 f0 f (Ad Y 12 0) (iI (i : Int)) (hp Y (sR (sF (sF (sF X 12 0 0 0) 12 0 33 (glA X (XP X 0) i).2) 12 0 34 (glA X (XP X 0) i).1) 61 0 (XR X 61 0)))) (fun i => (i : Int) ≤ XR X 61 0 0) (fun i => 9 - i) (fun r => r = _) ?_ f0 0 (by omega) (by omega)
    intro f i hi
    have gr := glA_rg frr i (by omega)
    have WG : WF (sF (sF (sF X 12 0 0 0) 12 0 33 (glA X (XP X 0) i).2) 12 0 34 (glA X (XP X 0) i).1) := W_F (W_F WA (by omega) (by omega)) (by omega) (by omega)
    by_cases e : XR X 61 0 0 ≤ (i : Int)
    · left
      simp (maxSteps := 3000000) (disch := first | assumption | omega | exact W_fl W _ _ _ | exact W_fh W _ _ _ | exact W_rl W _ _ _ | exact W_rh W _ _ _ | exact WS_l Ws _ | exact WS_h Ws _) only [bX12_soonestOf_14, g_12_6, g_12_21, g_12_33, k_12, l61, l_66, li_0, li_1, li_313, li_312, li_1000000, li_314, ob2, iI_add, Option.bind_some, iI_le, if_pos e]
      rw [show (XR X 25 0 0).toNat = i by omega]
    · right
      refine ⟨i + 1, ?_, by omega, by omega⟩
      obtain ⟨fr1, fr2, fr3⟩ := fr i (by omega) (by omega)
      have x66 : XR (sR (sF (sF (sF X 12 0 0 0) 12 0 33 (glA X (XP X 0) i).2) 12 0 34 (glA X (XP X 0) i).1) 61 0 (XR X 61 0)) 66 0 = XR X 66 0 := rfl
      have x33 : XF (sR (sF (sF (sF X 12 0 0 0) 12 0 33 (glA X (XP X 0) i).2) 12 0 34 (glA X (XP X 0) i).1) 61 0 (XR X 61 0)) 12 0 33 = (glA X (XP X 0) i).2 := rfl
      have hq2 : QR (XR (sF (sF (sF X 12 0 0 0) 12 0 33 (glA X (XP X 0) i).2) 12 0 34 (glA X (XP X 0) i).1) 67 0) := hq
      have kn : XR X 46 (XP X 0) ((i : Int) * 8 + XR X 61 0 314) = knA (XR (sF (sF (sF X 12 0 0 0) 12 0 33 (glA X (XP X 0) i).2) 12 0 34 (glA X (XP X 0) i).1) 67 0) (XR X 61 0) i (XR X 61 0 314) := rl.2.2.2.2.1 i (XR X 61 0 314) (by omega) (by omega) (by omega) (by omega)
      have kb : 0 ≤ knA (XR (sF (sF (sF X 12 0 0 0) 12 0 33 (glA X (XP X 0) i).2) 12 0 34 (glA X (XP X 0) i).1) 67 0) (XR X 61 0) i (XR X 61 0 314) ∧ knA (XR (sF (sF (sF X 12 0 0 0) 12 0 33 (glA X (XP X 0) i).2) 12 0 34 (glA X (XP X 0) i).1) 67 0) (XR X 61 0) i (XR X 61 0 314) ≤ 1000000 := knF_rg hq2 (by omega) (by omega) _ (by omega)
      have ow : owA X (XP X 0) (XR X 61 0 314) i = owS (XR X 61 0) (XR X 61 0 314) i := rel_ow hR rl (by omega) (by omega) (by omega) (by omega)
      have ob := sf.2.2.2.2.2.1 (XR X 61 0 314) i (by omega) (by omega) (by omega) (by omega)
      have iS2 := ca2
      rw [glA, f1, f2, f3, fr1, kn, ow]
      have e' : ¬ XR X 61 0 0 ≤ (i : Int) := e
      have sF2 : ∀ v w : Int, sF (sF (sR (sF (sF (sF X 12 0 0 0) 12 0 33 (glA X (XP X 0) i).2) 12 0 34 (glA X (XP X 0) i).1) 61 0 (XR X 61 0)) 12 0 33 v) 12 0 34 w = sR (sF (sF (sF X 12 0 0 0) 12 0 33 v) 12 0 34 w) 61 0 (XR X 61 0) := fun v w => by
        rw [sF_sR, sF_sR, sF_cm _ (glA X (XP X 0) i).1 v (by decide), sF_sF, sF_sF]
      by_cases a1 : 1000000 ≤ XR X 66 0 (8 * XR X 61 0 313 + i)
      · rw [if_neg (by omega)]
        simp (maxSteps := 3000000) (disch := first | assumption | omega | exact W_fl W _ _ _ | exact W_fh W _ _ _ | exact W_rl W _ _ _ | exact W_rh W _ _ _ | exact WS_l Ws _ | exact WS_h Ws _) only [bX12_soonestOf_14, bX12_soonestOf_136, g_12_6, g_12_21, g_12_33, k_12, l61, l_66, li_0, li_1, li_313, li_312, li_1000000, li_314, ob2, iI_add, Option.bind_some, iI_le, if_neg e, r_canAct, bI_i0, ite_n, if_pos ca2, r_cell, x66, if_pos a1]
        rfl
      · by_cases a2 : owS (XR X 61 0) (XR X 61 0 314) i = 0
        · rw [if_neg (by omega)]
          simp (maxSteps := 3000000) (disch := first | assumption | omega | exact W_fl W _ _ _ | exact W_fh W _ _ _ | exact W_rl W _ _ _ | exact W_rh W _ _ _ | exact WS_l Ws _ | exact WS_h Ws _) only [bX12_soonestOf_14, bX12_soonestOf_136, g_12_6, g_12_21, g_12_33, k_12, l61, l_66, li_0, li_1, li_313, li_312, li_1000000, li_314, ob2, iI_add, Option.bind_some, iI_le, iI_eq, if_neg e, r_canAct, bI_i0, ite_n, if_pos ca2, r_cell, x66, if_neg a1, r_owed, if_pos a2]
          rfl
        · by_cases a3 : XR X 61 0 312 + XR X 66 0 (8 * XR X 61 0 313 + i) < (glA X (XP X 0) i).2
          · by_cases a4 : (i : Int) = XR X 61 0 313
            · rw [if_pos ⟨.inl a4, by omega, a3⟩]
              simp (maxSteps := 3000000) (disch := first | assumption | omega | exact W_fl W _ _ _ | exact W_fh W _ _ _ | exact W_rl W _ _ _ | exact W_rh W _ _ _ | exact WS_l Ws _ | exact WS_h Ws _) only [bX12_soonestOf_14, bX12_soonestOf_136, bX12_soonestOf_126, g_12_6, g_12_21, g_12_33, k_12, l61, l_66, li_0, li_1, li_313, li_312, li_1000000, li_314, ob2, iI_add, p_12_33, p_12_34, Option.bind_some, iI_le, iI_lt, iI_eq, if_neg e, r_canAct, bI_i0, ite_n, if_pos ca2, r_cell, x66, if_neg a1, r_owed, if_neg a2, x33, if_pos a3, if_pos a4, sF2]
              rfl
            · by_cases a5 : knA (XR (sF (sF (sF X 12 0 0 0) 12 0 33 (glA X (XP X 0) i).2) 12 0 34 (glA X (XP X 0) i).1) 67 0) (XR X 61 0) i (XR X 61 0 314) ≤ XR X 61 0 312 + XR X 66 0 (8 * XR X 61 0 313 + i)
              · have a6 : ¬ XR X 61 0 312 + XR X 66 0 (8 * XR X 61 0 313 + i) < knA (XR (sF (sF (sF X 12 0 0 0) 12 0 33 (glA X (XP X 0) i).2) 12 0 34 (glA X (XP X 0) i).1) 67 0) (XR X 61 0) i (XR X 61 0 314) := by omega
                rw [if_neg (fun w => w.1.elim a4 a6)]
                simp (maxSteps := 3000000) (disch := first | assumption | omega | exact W_fl W _ _ _ | exact W_fh W _ _ _ | exact W_rl W _ _ _ | exact W_rh W _ _ _ | exact WS_l Ws _ | exact WS_h Ws _) only [bX12_soonestOf_14, bX12_soonestOf_136, bX12_soonestOf_126, g_12_6, g_12_21, g_12_33, k_12, l61, l_66, li_0, li_1, li_313, li_312, li_1000000, li_314, ob2, iI_add, p_12_33, p_12_34, Option.bind_some, iI_le, iI_lt, iI_eq, if_neg e, r_canAct, bI_i0, ite_n, if_pos ca2, r_cell, x66, if_neg a1, r_owed, if_neg a2, x33, if_pos a3, if_neg a4, r_knowsFrom, if_pos a5, if_neg a6]
                rfl
              · have a6 : XR X 61 0 312 + XR X 66 0 (8 * XR X 61 0 313 + i) < knA (XR (sF (sF (sF X 12 0 0 0) 12 0 33 (glA X (XP X 0) i).2) 12 0 34 (glA X (XP X 0) i).1) 67 0) (XR X 61 0) i (XR X 61 0 314) := by omega
                rw [if_pos ⟨.inr a6, by omega, a3⟩]
                simp (maxSteps := 3000000) (disch := first | assumption | omega | exact W_fl W _ _ _ | exact W_fh W _ _ _ | exact W_rl W _ _ _ | exact W_rh W _ _ _ | exact WS_l Ws _ | exact WS_h Ws _) only [bX12_soonestOf_14, bX12_soonestOf_136, bX12_soonestOf_126, g_12_6, g_12_21, g_12_33, k_12, l61, l_66, li_0, li_1, li_313, li_312, li_1000000, li_314, ob2, iI_add, p_12_33, p_12_34, Option.bind_some, iI_le, iI_lt, iI_eq, if_neg e, r_canAct, bI_i0, ite_n, if_pos ca2, r_cell, x66, if_neg a1, r_owed, if_neg a2, x33, if_pos a3, if_neg a4, r_knowsFrom, if_neg a5, if_pos a6, sF2]
                rfl
          · rw [if_neg (fun w => a3 w.2.2)]
            simp (maxSteps := 3000000) (disch := first | assumption | omega | exact W_fl W _ _ _ | exact W_fh W _ _ _ | exact W_rl W _ _ _ | exact W_rh W _ _ _ | exact WS_l Ws _ | exact WS_h Ws _) only [bX12_soonestOf_14, bX12_soonestOf_136, bX12_soonestOf_126, g_12_6, g_12_21, g_12_33, k_12, l61, l_66, li_0, li_1, li_313, li_312, li_1000000, li_314, ob2, iI_add, p_12_33, p_12_34, Option.bind_some, iI_le, iI_lt, iI_eq, if_neg e, r_canAct, bI_i0, ite_n, if_pos ca2, r_cell, x66, if_neg a1, r_owed, if_neg a2, x33, if_neg a3]
            rfl
  · have ca2 : ¬ canS (XR X 61 0) := fun q => ca ((rel_sea hR rl).mpr q)
    rw [if_neg ca, if_neg ca]
    obtain ⟨f, hf1⟩ : ∃ f, f0 = f + 1 := ⟨f0 - 1, by omega⟩
    have un : bX12_soonestOf_14 f0 f0 (Ad Y 12 0) (iI ((0 : Nat) : Int)) (hp Y (sR (sF (sF (sF X 12 0 0 0) 12 0 33 (glA X (XP X 0) 0).2) 12 0 34 (glA X (XP X 0) 0).1) 61 0 (XR X 61 0))) = bX12_soonestOf_14 f0 (f + 1) (Ad Y 12 0) (iI ((0 : Nat) : Int)) (hp Y (sR (sF (sF (sF X 12 0 0 0) 12 0 33 (glA X (XP X 0) 0).2) 12 0 34 (glA X (XP X 0) 0).1) 61 0 (XR X 61 0))) := by rw [← hf1]
    rw [un]
    have WG : WF (sF (sF (sF X 12 0 0 0) 12 0 33 (glA X (XP X 0) 0).2) 12 0 34 (glA X (XP X 0) 0).1) := W_F (W_F WA (show -2147483648 ≤ (1000000 : Int) by decide) (show (1000000 : Int) < 2147483648 by decide)) (show -2147483648 ≤ (-1 : Int) by decide) (show (-1 : Int) < 2147483648 by decide)
    by_cases e : XR X 61 0 0 ≤ (0 : Int)
    · simp (maxSteps := 3000000) (disch := first | assumption | omega | exact W_fl W _ _ _ | exact W_fh W _ _ _ | exact W_rl W _ _ _ | exact W_rh W _ _ _ | exact WS_l Ws _ | exact WS_h Ws _) only [bX12_soonestOf_14, g_12_6, g_12_21, g_12_33, k_12, l61, l_66, li_0, li_1, li_313, li_312, li_1000000, li_314, ob2, iI_add, Option.bind_some, Int.natCast_zero, iI_le, if_pos e]
      rfl
    · simp (maxSteps := 3000000) (disch := first | assumption | omega | exact W_fl W _ _ _ | exact W_fh W _ _ _ | exact W_rl W _ _ _ | exact W_rh W _ _ _ | exact WS_l Ws _ | exact WS_h Ws _) only [bX12_soonestOf_14, g_12_6, g_12_21, g_12_33, k_12, l61, l_66, li_0, li_1, li_313, li_312, li_1000000, li_314, ob2, iI_add, Option.bind_some, Int.natCast_zero, iI_le, if_neg e, r_canAct, bI_i0, ite_n, if_neg ca2]
      rfl
