/-! safe, outruns, soonest, where -/
theorem mns_all : ∀ m : Nat, m < 9 → ∀ B : Nat, B < 256 → iI ((2 ^ m : Nat) : Int) - iI 1 &&& (iI (B : Int) ^^^ iI (-1)) = iI ((mns (2 ^ m - 1) B : Nat) : Int) := by decide +kernel
theorem op_safe {f0 : Nat} {Y : YS} {X : XS} (h : Inv Y X) {p : Int} (rg_p : Rg p) (hf : 2000 ≤ f0) : ∃ v X1 X2, fX11_safe f0 (Ad Y 11 0) (iI p) (hp Y X) = some (v, hp Y X1) ∧ fX12_safe f0 (Ad Y 12 0) (iI p) (hp Y X1) = some (v, hp Y X2) ∧ Inv Y X2 := by
  have g := h.1.1; have W := h.2.1
  have se := h.2.2.2.2.2.1; have hC := se.1; have hR := se.2.1
  have g6 := SeO_0 g
  have c0 := hC.1; have c3 := hC.2.1; have c4 := hC.2.2.1; have c5 := hC.2.2.2.1
  have e0 := hR.1.1; have e1 := hR.1.2.1; have e2 := hR.1.2.2.1; have e3 := hR.1.2.2.2.1
  have sh := h.2.2.2.2.2.2.2.2.1
  have p0 := sh.1 0 (by omega)
  have gk0 := ShO_k g p0
  have cd := sh.2.2.2.1.1; have rl := sh.2.2.2.1.2
  have cs : CShip X (XP X 0) 0 := cd
  have sf := inv_S se cd rl
  have Ws : WS (XR X 61 0) := fun i => W.2 61 0 i
  have WA : WF (sF X 12 0 0 0) := W_F W (by decide) (by decide)
  have z := Z61 (Y := Y) (X := sF X 12 0 0 0) (S := XR X 61 0) rfl
  have hP := inv_PostR se h.2.2.2.2.2.2.2.1
  have th := Inv_th h (v := 0) ⟨by decide, by decide⟩
  have rz : Rg (0 : Int) := ⟨by decide, by decide⟩
  have s1 := rg_p.1; have s2 := rg_p.2
  have hq : QR (XR (sF X 12 0 0 0) 67 0) := hP.2.2
  have hs := rl.2.2.2.2.2.1
  have s0 := sf.2.2.1.1; have t0 := sf.2.2.1.2.1
  have f20 : 20 ≤ f0 := by omega
  by_cases c : 0 ≤ p ∧ p < XR X 25 0 0
  · have cS : 0 ≤ p ∧ p < XR X 61 0 0 := by omega
    by_cases ca : canA X (XP X 0)
    · have ca2 : canS (XR X 61 0) := (rel_sea hR rl).mp ca
      have q3 := sf.2.1 ca2.1
      have f2 : XF X 10 (XP X 0) 2 = XR X 61 0 313 := (rl.2.1 ca2.1).1
      have f1 : XF X 10 (XP X 0) 1 = XR X 61 0 312 := rl.1.1
      have w : XR X 26 0 (XF X 10 (XP X 0) 2 * 8 + p) = XR X 61 0 (8 + (8 * XR X 61 0 313 + p)) := by
        rw [f2, (hR.2.1 (XR X 61 0 313 * 8 + p) (by omega) (by omega)).1, show XR X 61 0 313 * 8 + p = 8 * XR X 61 0 313 + p by omega]
      have wl := sf.2.2.2.2.1 (8 * XR X 61 0 313 + p) (by omega) (by omega)
      by_cases a : XR X 61 0 (8 + (8 * XR X 61 0 313 + p)) = 0
      · have a' : ¬ (canA X (XP X 0) ∧ 0 < XR X 26 0 (XF X 10 (XP X 0) 2 * 8 + p)) := fun q => by rw [w] at q; omega
        refine ⟨iI (-1), X, sF X 12 0 0 0, ?_, ?_, th⟩
        · simp (disch := first | assumption | omega | exact W_fl W _ _ _ | exact W_fh W _ _ _ | exact W_rl W _ _ _ | exact W_rh W _ _ _ | exact WS_l Ws _ | exact WS_h Ws _) only [fX11_safe, g_11_4, g_11_11, k_6, k_10, lm_1, li_0, li_1, ob2, Option.bind_some, iI_add, iI_neg, e_has, e_canSailTo, bI_i0, ite_n, if_pos c, if_neg a', iI_neg]
        · simp (disch := first | assumption | omega | exact W_fl W _ _ _ | exact W_fh W _ _ _ | exact W_rl W _ _ _ | exact W_rh W _ _ _ | exact WS_l Ws _ | exact WS_h Ws _) only [fX12_safe, g_12_6, p_12_0, k_12, l61, lm_1, li_0, li_1, li_313, li_8, li_312, li_31, ob2, iI_add, iI_sub, Option.bind_some, iI_neg, z, r_isPort, r_canAct, bI_i0, ite_n, if_pos cS, if_pos ca2, r_cell, iI_eq, if_pos a, iI_neg]
      · have a' : canA X (XP X 0) ∧ 0 < XR X 26 0 (XF X 10 (XP X 0) 2 * 8 + p) := ⟨ca, by rw [w]; omega⟩
        refine ⟨iI ((bs (sfB X (XP X 0) p (XF X 10 (XP X 0) 1 + XR X 26 0 (XF X 10 (XP X 0) 2 * 8 + p))) (XR X 25 0 3).toNat : Nat) : Int), X, sF X 12 0 0 0, ?_, ?_, th⟩
        · simp (disch := first | exact ca.1 | first | assumption | omega | exact W_fl W _ _ _ | exact W_fh W _ _ _ | exact W_rl W _ _ _ | exact W_rh W _ _ _ | exact WS_l Ws _ | exact WS_h Ws _) only [fX11_safe, g_11_4, g_11_11, k_6, k_10, lm_1, li_0, li_1, ob2, Option.bind_some, iI_add, iI_neg, e_has, e_canSailTo, bI_i0, ite_n, if_pos c, if_pos a', e_safeNamesTo]
        · have m9 : (XR X 61 0 1).toNat < 9 := by omega
          have dd : Rg (XR X 61 0 312 + XR X 61 0 (8 + (8 * XR X 61 0 313 + p))) := ⟨by omega, by omega⟩
          have bl := bs_lt (kaB (XR (sF X 12 0 0 0) 67 0) (XR X 61 0) p (XR X 61 0 312 + XR X 61 0 (8 + (8 * XR X 61 0 313 + p)))) (XR X 61 0 1).toNat
          have b256 : bs (kaB (XR (sF X 12 0 0 0) 67 0) (XR X 61 0) p (XR X 61 0 312 + XR X 61 0 (8 + (8 * XR X 61 0 313 + p)))) (XR X 61 0 1).toNat < 256 := by
            have : 2 ^ (XR X 61 0 1).toNat ≤ 2 ^ 8 := Nat.pow_le_pow_right (by decide) (by omega)
            omega
          have mm := mns_all _ m9 _ b256
          have one : (iI 1) <<< (iI (XR X 61 0 1) &&& iI 31) = iI ((2 ^ (XR X 61 0 1).toNat : Nat) : Int) := by
            have := ib_one (i := (XR X 61 0 1).toNat) (by omega)
            rw [show (((XR X 61 0 1).toNat : Nat) : Int) = XR X 61 0 1 by omega] at this
            exact this
          have key : mns (2 ^ (XR X 61 0 1).toNat - 1) (bs (kaB (XR (sF X 12 0 0 0) 67 0) (XR X 61 0) p (XR X 61 0 312 + XR X 61 0 (8 + (8 * XR X 61 0 313 + p)))) (XR X 61 0 1).toNat) = bs (sfB X (XP X 0) p (XF X 10 (XP X 0) 1 + XR X 26 0 (XF X 10 (XP X 0) 2 * 8 + p))) (XR X 25 0 3).toNat := by
            apply Nat.eq_of_testBit_eq; intro i
            rw [mns_bit, full_bit, bs_bit, bs_bit, e1, w, f1]
            by_cases q : i < (XR X 61 0 1).toNat
            · have kn : XR X 46 (XP X 0) (p * 8 + (i : Int)) = knA (XR (sF X 12 0 0 0) 67 0) (XR X 61 0) p i := rl.2.2.2.2.1 p i cS.1 cS.2 (by omega) (by omega)
              unfold kaB sfB
              rw [kn]
              by_cases v : knA (XR (sF X 12 0 0 0) 67 0) (XR X 61 0) p i ≤ XR X 61 0 312 + XR X 61 0 (8 + (8 * XR X 61 0 313 + p))
              · have v' : ¬ XR X 61 0 312 + XR X 61 0 (8 + (8 * XR X 61 0 313 + p)) < knA (XR (sF X 12 0 0 0) 67 0) (XR X 61 0) p i := by omega
                simp [q, v, v']
              · have v' : XR X 61 0 312 + XR X 61 0 (8 + (8 * XR X 61 0 313 + p)) < knA (XR (sF X 12 0 0 0) 67 0) (XR X 61 0) p i := by omega
                simp [q, v, v']
            · simp [q]
          rw [← key, ← mm]
          simp (disch := first | assumption | omega | exact W_fl W _ _ _ | exact W_fh W _ _ _ | exact W_rl W _ _ _ | exact W_rh W _ _ _ | exact WS_l Ws _ | exact WS_h Ws _) only [fX12_safe, g_12_6, p_12_0, k_12, l61, lm_1, li_0, li_1, li_313, li_8, li_312, li_31, ob2, iI_add, iI_sub, Option.bind_some, iI_neg, z, r_isPort, r_canAct, bI_i0, ite_n, if_pos cS, if_pos ca2, r_cell, iI_eq, if_neg a, r_knownAt, one]
    · have ca2 : ¬ canS (XR X 61 0) := fun q => ca ((rel_sea hR rl).mpr q)
      have a' : ¬ (canA X (XP X 0) ∧ 0 < XR X 26 0 (XF X 10 (XP X 0) 2 * 8 + p)) := fun q => ca q.1
      refine ⟨iI (-1), X, sF X 12 0 0 0, ?_, ?_, th⟩
      · simp (disch := first | assumption | omega | exact W_fl W _ _ _ | exact W_fh W _ _ _ | exact W_rl W _ _ _ | exact W_rh W _ _ _ | exact WS_l Ws _ | exact WS_h Ws _) only [fX11_safe, g_11_4, g_11_11, k_6, k_10, lm_1, li_0, li_1, ob2, Option.bind_some, iI_add, iI_neg, e_has, e_canSailTo, bI_i0, ite_n, if_pos c, if_neg a', iI_neg]
      · simp (disch := first | assumption | omega | exact W_fl W _ _ _ | exact W_fh W _ _ _ | exact W_rl W _ _ _ | exact W_rh W _ _ _ | exact WS_l Ws _ | exact WS_h Ws _) only [fX12_safe, g_12_6, p_12_0, k_12, l61, lm_1, li_0, li_1, li_313, li_8, li_312, li_31, ob2, iI_add, iI_sub, Option.bind_some, iI_neg, z, r_isPort, r_canAct, bI_i0, ite_n, if_pos cS, if_neg ca2, iI_neg]
  · have cS : ¬ (0 ≤ p ∧ p < XR X 61 0 0) := by omega
    refine ⟨iI (-1), X, sF X 12 0 0 0, ?_, ?_, th⟩
    · simp (disch := first | assumption | omega | exact W_fl W _ _ _ | exact W_fh W _ _ _ | exact W_rl W _ _ _ | exact W_rh W _ _ _ | exact WS_l Ws _ | exact WS_h Ws _) only [fX11_safe, g_11_4, g_11_11, k_6, k_10, lm_1, li_0, li_1, ob2, Option.bind_some, iI_add, iI_neg, e_has, bI_i0, ite_n, if_neg c, iI_neg]
    · simp (disch := first | assumption | omega | exact W_fl W _ _ _ | exact W_fh W _ _ _ | exact W_rl W _ _ _ | exact W_rh W _ _ _ | exact WS_l Ws _ | exact WS_h Ws _) only [fX12_safe, g_12_6, p_12_0, k_12, l61, lm_1, li_0, li_1, li_313, li_8, li_312, li_31, ob2, iI_add, iI_sub, Option.bind_some, iI_neg, z, r_isPort, bI_i0, ite_n, if_neg cS, iI_neg]
theorem op_outruns {f0 : Nat} {Y : YS} {X : XS} (h : Inv Y X) {p : Int} (rg_p : Rg p) (hf : 2000 ≤ f0) : ∃ v X1 X2, fX11_outruns f0 (Ad Y 11 0) (iI p) (hp Y X) = some (v, hp Y X1) ∧ fX12_outruns f0 (Ad Y 12 0) (iI p) (hp Y X1) = some (v, hp Y X2) ∧ Inv Y X2 := by
  have g := h.1.1; have W := h.2.1
  have se := h.2.2.2.2.2.1; have hC := se.1; have hR := se.2.1
  have g6 := SeO_0 g
  have c0 := hC.1; have c3 := hC.2.1; have c4 := hC.2.2.1; have c5 := hC.2.2.2.1
  have e0 := hR.1.1; have e1 := hR.1.2.1; have e2 := hR.1.2.2.1; have e3 := hR.1.2.2.2.1
  have sh := h.2.2.2.2.2.2.2.2.1
  have p0 := sh.1 0 (by omega)
  have gk0 := ShO_k g p0
  have cd := sh.2.2.2.1.1; have rl := sh.2.2.2.1.2
  have cs : CShip X (XP X 0) 0 := cd
  have sf := inv_S se cd rl
  have Ws : WS (XR X 61 0) := fun i => W.2 61 0 i
  have WA : WF (sF X 12 0 0 0) := W_F W (by decide) (by decide)
  have z := Z61 (Y := Y) (X := sF X 12 0 0 0) (S := XR X 61 0) rfl
  have hP := inv_PostR se h.2.2.2.2.2.2.2.1
  have th := Inv_th h (v := 0) ⟨by decide, by decide⟩
  have rz : Rg (0 : Int) := ⟨by decide, by decide⟩
  have s1 := rg_p.1; have s2 := rg_p.2
  have hq : QR (XR (sF X 12 0 0 0) 67 0) := hP.2.2
  have hs := rl.2.2.2.2.2.1
  have s0 := sf.2.2.1.1; have t0 := sf.2.2.1.2.1
  have f20 : 20 ≤ f0 := by omega
  have x66 : XR (sR (sF X 12 0 0 0) 61 0 (XR X 61 0)) 66 0 = XR X 66 0 := rfl
  by_cases c : 0 ≤ p ∧ p < XR X 25 0 0
  · have cS : 0 ≤ p ∧ p < XR X 61 0 0 := by omega
    by_cases fh : 0 < XR X 25 0 0 ∧ 0 < XR X 25 0 3
    · have iS : 0 < XR X 61 0 0 ∧ 0 < XR X 61 0 1 := by rw [← e0, ← e1]; exact fh
      have q3 := sf.2.1 iS
      have f2 : XF X 10 (XP X 0) 2 = XR X 61 0 313 := (rl.2.1 iS).1
      have f3 : XF X 10 (XP X 0) 3 = XR X 61 0 314 := (rl.2.1 iS).2
      have f1 : XF X 10 (XP X 0) 1 = XR X 61 0 312 := rl.1.1
      have fr : frA X (XP X 0) p = XR X 66 0 (8 * XR X 61 0 313 + p) := by
        unfold frA; rw [if_pos fh, f2]; exact ((hP.1 (XR X 61 0 313) p (by omega) (by omega) cS.1 cS.2).1).symm
      have lo := hP.2.1 (8 * XR X 61 0 313 + p) (by omega) (by omega)
      have kn : XR X 46 (XP X 0) (p * 8 + XR X 61 0 314) = knA (XR (sF X 12 0 0 0) 67 0) (XR X 61 0) p (XR X 61 0 314) := rl.2.2.2.2.1 p (XR X 61 0 314) cS.1 cS.2 (by omega) (by omega)
      have kb : 0 ≤ knA (XR (sF X 12 0 0 0) 67 0) (XR X 61 0) p (XR X 61 0 314) ∧ knA (XR (sF X 12 0 0 0) 67 0) (XR X 61 0) p (XR X 61 0 314) ≤ 1000000 := knF_rg hq cS.1 (by omega) _ (by omega)
      by_cases a : XR X 66 0 (8 * XR X 61 0 313 + p) < 1000000
      · by_cases b : knA (XR (sF X 12 0 0 0) 67 0) (XR X 61 0) p (XR X 61 0 314) ≤ XR X 61 0 312 + XR X 66 0 (8 * XR X 61 0 313 + p)
        · refine ⟨iI 0, X, sF X 12 0 0 0, ?_, ?_, th⟩
          · simp (disch := first | assumption | omega | exact W_fl W _ _ _ | exact W_fh W _ _ _ | exact W_rl W _ _ _ | exact W_rh W _ _ _ | exact WS_l Ws _ | exact WS_h Ws _) only [fX11_outruns, g_11_4, g_11_11, g_10_1, g_10_12, g_10_3, k_6, k_10, l_46, lm_1, li_0, li_1, li_1000000, li_8, ob2, iI_add, iI_mul, Option.bind_some, iI_neg, e_has, e_isForHer, e_farTo, bI_i0, ite_n, if_pos c, if_pos fh, fr, f1, f3, kn, iI_lt, iI_le, if_pos a, if_pos b]
          · simp (disch := first | assumption | omega | exact W_fl W _ _ _ | exact W_fh W _ _ _ | exact W_rl W _ _ _ | exact W_rh W _ _ _ | exact WS_l Ws _ | exact WS_h Ws _) only [fX12_outruns, g_12_21, g_12_6, p_12_0, k_12, l61, l_66, lm_1, li_0, li_1, li_313, li_1000000, li_312, li_314, ob2, iI_add, Option.bind_some, iI_neg, z, r_isPort, r_isSea, bI_i0, ite_n, if_pos cS, if_pos iS, r_cell, x66, iI_lt, iI_le, if_pos a, r_knowsFrom, if_pos b]
        · refine ⟨iI 1, X, sF X 12 0 0 0, ?_, ?_, th⟩
          · simp (disch := first | assumption | omega | exact W_fl W _ _ _ | exact W_fh W _ _ _ | exact W_rl W _ _ _ | exact W_rh W _ _ _ | exact WS_l Ws _ | exact WS_h Ws _) only [fX11_outruns, g_11_4, g_11_11, g_10_1, g_10_12, g_10_3, k_6, k_10, l_46, lm_1, li_0, li_1, li_1000000, li_8, ob2, iI_add, iI_mul, Option.bind_some, iI_neg, e_has, e_isForHer, e_farTo, bI_i0, ite_n, if_pos c, if_pos fh, fr, f1, f3, kn, iI_lt, iI_le, if_pos a, if_neg b]
          · simp (disch := first | assumption | omega | exact W_fl W _ _ _ | exact W_fh W _ _ _ | exact W_rl W _ _ _ | exact W_rh W _ _ _ | exact WS_l Ws _ | exact WS_h Ws _) only [fX12_outruns, g_12_21, g_12_6, p_12_0, k_12, l61, l_66, lm_1, li_0, li_1, li_313, li_1000000, li_312, li_314, ob2, iI_add, Option.bind_some, iI_neg, z, r_isPort, r_isSea, bI_i0, ite_n, if_pos cS, if_pos iS, r_cell, x66, iI_lt, iI_le, if_pos a, r_knowsFrom, if_neg b]
      · refine ⟨iI (-1), X, sF X 12 0 0 0, ?_, ?_, th⟩
        · simp (disch := first | assumption | omega | exact W_fl W _ _ _ | exact W_fh W _ _ _ | exact W_rl W _ _ _ | exact W_rh W _ _ _ | exact WS_l Ws _ | exact WS_h Ws _) only [fX11_outruns, g_11_4, g_11_11, g_10_1, g_10_12, g_10_3, k_6, k_10, l_46, lm_1, li_0, li_1, li_1000000, li_8, ob2, iI_add, iI_mul, Option.bind_some, iI_neg, e_has, e_isForHer, e_farTo, bI_i0, ite_n, if_pos c, if_pos fh, fr, iI_lt, if_neg a, iI_neg]
        · simp (disch := first | assumption | omega | exact W_fl W _ _ _ | exact W_fh W _ _ _ | exact W_rl W _ _ _ | exact W_rh W _ _ _ | exact WS_l Ws _ | exact WS_h Ws _) only [fX12_outruns, g_12_21, g_12_6, p_12_0, k_12, l61, l_66, lm_1, li_0, li_1, li_313, li_1000000, li_312, li_314, ob2, iI_add, Option.bind_some, iI_neg, z, r_isPort, r_isSea, bI_i0, ite_n, if_pos cS, if_pos iS, r_cell, x66, iI_lt, if_neg a, iI_neg]
    · have iS : ¬ (0 < XR X 61 0 0 ∧ 0 < XR X 61 0 1) := by rw [← e0, ← e1]; exact fh
      refine ⟨iI (-1), X, sF X 12 0 0 0, ?_, ?_, th⟩
      · simp (disch := first | assumption | omega | exact W_fl W _ _ _ | exact W_fh W _ _ _ | exact W_rl W _ _ _ | exact W_rh W _ _ _ | exact WS_l Ws _ | exact WS_h Ws _) only [fX11_outruns, g_11_4, g_11_11, g_10_1, g_10_12, g_10_3, k_6, k_10, l_46, lm_1, li_0, li_1, li_1000000, li_8, ob2, iI_add, iI_mul, Option.bind_some, iI_neg, e_has, e_isForHer, bI_i0, ite_n, if_pos c, if_neg fh, iI_neg]
      · simp (disch := first | assumption | omega | exact W_fl W _ _ _ | exact W_fh W _ _ _ | exact W_rl W _ _ _ | exact W_rh W _ _ _ | exact WS_l Ws _ | exact WS_h Ws _) only [fX12_outruns, g_12_21, g_12_6, p_12_0, k_12, l61, l_66, lm_1, li_0, li_1, li_313, li_1000000, li_312, li_314, ob2, iI_add, Option.bind_some, iI_neg, z, r_isPort, r_isSea, bI_i0, ite_n, if_pos cS, if_neg iS, iI_neg]
  · have cS : ¬ (0 ≤ p ∧ p < XR X 61 0 0) := by omega
    refine ⟨iI (-1), X, sF X 12 0 0 0, ?_, ?_, th⟩
    · simp (disch := first | assumption | omega | exact W_fl W _ _ _ | exact W_fh W _ _ _ | exact W_rl W _ _ _ | exact W_rh W _ _ _ | exact WS_l Ws _ | exact WS_h Ws _) only [fX11_outruns, g_11_4, g_11_11, g_10_1, g_10_12, g_10_3, k_6, k_10, l_46, lm_1, li_0, li_1, li_1000000, li_8, ob2, iI_add, iI_mul, Option.bind_some, iI_neg, e_has, bI_i0, ite_n, if_neg c, iI_neg]
    · simp (disch := first | assumption | omega | exact W_fl W _ _ _ | exact W_fh W _ _ _ | exact W_rl W _ _ _ | exact W_rh W _ _ _ | exact WS_l Ws _ | exact WS_h Ws _) only [fX12_outruns, g_12_21, g_12_6, p_12_0, k_12, l61, l_66, lm_1, li_0, li_1, li_313, li_1000000, li_312, li_314, ob2, iI_add, Option.bind_some, iI_neg, z, r_isPort, bI_i0, ite_n, if_neg cS, iI_neg]
