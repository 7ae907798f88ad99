/-! LINES OF A WAY, A MAIL -/
theorem L_2 {f0 : Nat} {Y : YS} {X : XS} (g : GY Y) (c : LC X) (hk : XF X 4 0 8 = 2) (hf : 2000 ≤ f0) : LineO f0 Y X := by
  have W := c.1; have tc := c.2.1; have dc := c.2.2.2.1
  have so := (key_1 tc (by rw [hk]; decide)).1
  have hs1 : isN 0 := (.inl rfl)
  have hs2 : isN 0 := .inl rfl
  have g1 := SeO_1 g
  by_cases room : ¬ XR X 25 1 2 < msK 2
  · have rc := rf_C W tc (k := 4) (by decide) (by decide)
    refine ⟨rfC X 4, .inl ⟨rl_full g W hk (by decide) (by decide) room, rc.1, rc.2.1, rc.2.2, fun Z hz => ?_⟩⟩
    have rr := rf_R hz.1 tc hz.2.1 (k := 4) (by decide) (by decide)
    refine ⟨rfR Z 4, ?_, rr.1, rr.2.1, rr.2.2⟩
    have full : XR Z 62 0 5 = 20 := by
      have e := hz.2.2.2.1.1
      unfold CnR at e
      have rm : ¬ XR X 25 1 2 < 20 := room
      have := dc.1; omega
    rw [ln_2 g hz.1 tc hz.2.1 c.2.2.1 hk]
    simp (maxSteps := 4000000) (disch := first | assumption | omega) only [fX12_readWay, g_12_7, g_12_18, k_12, l_62, s_62, li_4, li_0, li_30, li_8, li_1, ob2, iI_add, iI_mul, Option.bind_some, li_4, li_5, li_8, li_16, li_20, li_40, li_72, full, r_bad g]
    rw [if_pos trivial]; rfl
  have room : XR X 25 1 2 < msK 2 := Classical.byContradiction room
  have rm : XR X 25 1 2 < 20 := room
  obtain ⟨X1, e1, r1, W1, t1, lt1, k1⟩ := j_step (f0 := f0) g W tc (by rw [so]; decide) hf
  have c1 : LC X1 := LC_rd c r1 W1 t1
  have rl : fX7_readLine f0 (Ad Y 7 0) (hp Y X) = bX7_readLine_81 f0 (Ad Y 7 0) (iI 2) (hp Y X) := rl_in g W hk (by decide) (by decide) room
  have rlF : ∀ X', fX7_readPair f0 (Ad Y 7 0) (iI 0) (iI 0) (Ad Y 27 1) (iI 40) (hp Y X1) = some (0, hp Y X') → fX7_readLine f0 (Ad Y 7 0) (hp Y X) = some (0, hp Y X') := fun X' e => by
    rw [rl]
    simp (maxSteps := 4000000) (disch := first | assumption | omega | exact W_fl W _ _ _ | exact W_fh W _ _ _ | exact W_rl W _ _ _ | exact W_rh W _ _ _) only [bX7_readLine_81, fX7_readRest, g_7_0, g_7_1, g_6_1, k_4, k_7, l_25, s_25, li_0, li_6, li_1, ob2, iI_add, g_6_3, g_6_4, g_6_5, g_6_6, g_6_7, li_20, li_2, li_40, li_3, li_4, li_5, li_7, li_8, li_250, li_9, li_10, Option.bind_some, e1, iI_eq, Int.reduceEq, if_true, if_false, e]
    rfl
  have lst : ∀ Z, LR X Z → ∃ Z1, fX12_next f0 (Ad Y 12 0) (hp Y Z) = some (hp Y Z1) ∧ NxF Z Z1 ∧ LR X1 Z1 := fun Z hz => by
    obtain ⟨Z1, z1, n1, WZ1, tr1⟩ := k1 Z hz.1 hz.2.1
    exact ⟨Z1, z1, n1, LR_nx hz r1 n1 WZ1 tr1⟩
  have cnt : ∀ Z, LR X Z → ¬ XR Z 62 0 5 = 20 ∧ XR X 25 1 2 = XR Z 62 0 5 := fun Z hz => by
    have e := hz.2.2.2.1.1
    unfold CnR at e
    omega
  obtain ⟨a, X2, hA | hA⟩ := j_tn (f0 := f0) g c1 hs1 hf
  · obtain ⟨_, eA, WA, FA, faA, kA⟩ := hA
    refine ⟨X2, .inl ⟨rlF X2 ?_, WA, FrC_trans (FrC_rd r1) FA, faA, fun Z hz => ?_⟩⟩
    · simp (maxSteps := 4000000) (disch := first | assumption | omega) only [fX7_readPair, g_7_0, g_7_1, g_6_0, k_4, lm_1, li_1, li_0, ob2, Option.bind_some, iI_add, iI_neg, iI_neg, eA, if_true]
      rfl
    · obtain ⟨Z1, z1, n1, h1⟩ := lst Z hz
      obtain ⟨⟨Z2, z2, w2, f2, fa2⟩, _⟩ := kA Z1 h1
      refine ⟨Z2, ?_, w2, FrR_trans (FrR_nx n1) f2, fa2⟩
      have z2' : fX12_takesName f0 (Ad Y 12 0) (iI 30) (iI (XR Z1 62 0 0)) (hp Y Z1) = some (0, hp Y Z2) := z2
      have ne := (cnt Z hz).1; have w1 := W_rl hz.1 62 0 5; have w2 := W_rh hz.1 62 0 5
      rw [ln_2 g hz.1 tc hz.2.1 c.2.2.1 hk]
      simp (maxSteps := 4000000) (disch := first | assumption | omega) only [fX12_readWay, fX12_readWay, g_12_7, g_12_18, k_12, l_62, s_62, li_4, li_0, li_30, li_8, li_1, ob2, iI_add, iI_mul, Option.bind_some, li_4, li_5, li_8, li_16, li_20, li_40, li_72, li_136, li_200, li_250, iI_eq, iI_le, Int.reduceEq, if_true, if_false, if_neg ne, z1, z2']
      rfl
  obtain ⟨a0, eA, soA, sA, r2, c2, lt2, kA⟩ := hA
  have a8 : a < 8 := by
    have := (DC_nm c1.2.2.2.1 hs1).2.1; omega
  have na : ¬ a = -1 := by omega
  have lst2 : ∀ Z, LR X Z → ∃ Z1 Z2, fX12_next f0 (Ad Y 12 0) (hp Y Z) = some (hp Y Z1) ∧ fX12_takesName f0 (Ad Y 12 0) (iI 30) (iI (XR Z1 62 0 0)) (hp Y Z1) = some (1, hp Y Z2) ∧ LR X2 Z2 ∧ FrR Z Z2 ∧ XF Z2 12 0 18 = a ∧ XR Z1 62 0 = XR Z 62 0 ∧ XR Z2 62 0 = XR Z 62 0 := fun Z hz => by
    obtain ⟨Z1, z1, n1, h1⟩ := lst Z hz
    obtain ⟨_, _, Z2, _, tn, n2, h2, f2, g18, z62⟩ := kA Z1 h1
    have q62 : XR Z1 62 0 = XR Z 62 0 := by rw [n1.2.1]
    exact ⟨Z1, Z2, z1, tn, h2, FrR_trans (FrR_nx n1) f2, g18, q62, z62.trans q62⟩
  obtain ⟨b, X3, hB | hB⟩ := j_tn (f0 := f0) g c2 hs2 hf
  · obtain ⟨_, eB, WB, FB, faB, kB⟩ := hB
    refine ⟨X3, .inl ⟨rlF X3 ?_, WB, FrC_trans (FrC_rd (Rd_trans r1 r2)) FB, faB, fun Z hz => ?_⟩⟩
    · simp (maxSteps := 4000000) (disch := first | assumption | omega) only [fX7_readPair, g_7_0, g_7_1, g_6_0, k_4, lm_1, li_1, li_0, ob2, Option.bind_some, iI_add, iI_neg, iI_neg, eA, iI_eq, if_neg na, sA, eB, if_true]
      rfl
    · obtain ⟨Z1, Z2, z1, tn, h2, f2, g18, q1, q2⟩ := lst2 Z hz
      obtain ⟨_, Z3, z3, w3, f3, fa3⟩ := kB Z2 h2
      refine ⟨Z3, ?_, w3, FrR_trans f2 f3, fa3⟩
      have z3' : fX12_looksAt f0 (Ad Y 12 0) (iI 30) (iI (XR Z2 62 0 0)) (hp Y Z2) = some (0, hp Y Z3) := z3
      have ne := (cnt Z hz).1; have w1 := W_rl hz.1 62 0 5; have w2 := W_rh hz.1 62 0 5
      rw [ln_2 g hz.1 tc hz.2.1 c.2.2.1 hk]
      simp (maxSteps := 4000000) (disch := first | assumption | omega) only [fX12_readWay, fX12_readWay, g_12_7, g_12_18, k_12, l_62, s_62, li_4, li_0, li_30, li_8, li_1, ob2, iI_add, iI_mul, Option.bind_some, li_4, li_5, li_8, li_16, li_20, li_40, li_72, li_136, li_200, li_250, iI_eq, iI_le, Int.reduceEq, if_true, if_false, if_neg ne, z1, tn, g18, z3']
      rfl
  obtain ⟨b0, eB, soB, sB, r3, c3, lt3, kB⟩ := hB
  have b8 : b < 8 := by
    have := (DC_nm c2.2.2.2.1 hs2).2.1; omega
  have nb : ¬ b = -1 := by omega
  have W2 := c2.1
  have tab := c2.2.2.2.1.2.2.1 (a * 8 + b) (by omega) (by omega)
  have cell : ∀ Z2, LR X2 Z2 → XR Z2 62 0 (72 + 8 * a + b) = XR X2 27 1 (a * 8 + b) := fun Z2 h2 => by
    have := h2.2.2.2.1.2.1.1 (a * 8 + b) (by omega) (by omega)
    rw [show 72 + 8 * a + b = 72 + (a * 8 + b) by omega]
    first | exact this.1.symm | exact this.2.1.symm | exact this.2.2.1.symm | exact this.2.2.2.symm
  by_cases bad : a = b ∨ ¬ XR X2 27 1 (a * 8 + b) = 0
  · have rc := rf_C W2 c2.2.1 (k := 3) (by decide) (by decide)
    refine ⟨rfC X2 3, .inl ⟨rlF _ ?_, rc.1, FrC_trans (FrC_rd (Rd_trans r1 r2)) rc.2.1, rc.2.2, fun Z hz => ?_⟩⟩
    · by_cases ab : a = b
      · have ab1 : (1 : Int) ≠ 0 := by decide
        simp (maxSteps := 4000000) (disch := first | assumption | omega | exact W_fl W _ _ _ | exact W_fh W _ _ _ | exact W_rl W _ _ _ | exact W_rh W _ _ _) only [fX7_readPair, bX7_readPair_73, bX7_readPair_74, bX7_readPair_94, g_7_0, g_7_1, g_6_0, k_4, lm_1, li_1, li_0, ob2, li_8, iI_add, iI_mul, li_3, Option.bind_some, iI_neg, l_27, s_27, iI_neg, eA, iI_eq, Int.reduceEq, if_true, if_false, if_neg na, sA, eB, if_neg nb, e_refuse g, if_pos ab]
        rfl
      · have tl : ¬ XR X2 27 1 (a * 8 + b) = 0 := by omega
        simp (maxSteps := 4000000) (disch := first | assumption | omega | exact W_fl W _ _ _ | exact W_fh W _ _ _ | exact W_rl W _ _ _ | exact W_rh W _ _ _) only [fX7_readPair, bX7_readPair_73, bX7_readPair_74, bX7_readPair_94, g_7_0, g_7_1, g_6_0, k_4, lm_1, li_1, li_0, ob2, li_8, iI_add, iI_mul, li_3, Option.bind_some, iI_neg, l_27, s_27, iI_neg, eA, iI_eq, Int.reduceEq, if_true, if_false, if_neg na, sA, eB, if_neg nb, e_refuse g, if_neg ab, if_neg tl]
        rfl
    · obtain ⟨Z1, Z2, z1, tn, h2, f2, g18, q1, q2⟩ := lst2 Z hz
      obtain ⟨bb, z3, _⟩ := kB Z2 h2
      have h3 := LR_18 h2 (v := b) ⟨by omega, by omega⟩
      have rr := rf_R h3.1 c2.2.1 h3.2.1 (k := 3) (by decide) (by decide)
      refine ⟨rfR (sF Z2 12 0 18 b) 3, ?_, rr.1, FrR_trans f2 (FrR_trans (FrR_F FrR_refl (by decide)) rr.2.1), rr.2.2⟩
      have z3' : fX12_looksAt f0 (Ad Y 12 0) (iI 30) (iI (XR Z2 62 0 0)) (hp Y Z2) = some (1, hp Y (sF Z2 12 0 18 b)) := z3
      have f18 : XF (sF Z2 12 0 18 b) 12 0 18 = b := rfl
      have f62 : XR (sF Z2 12 0 18 b) 62 0 = XR Z2 62 0 := rfl
      have ce := cell Z2 h2
      by_cases ab : a = b
      · have ne := (cnt Z hz).1; have w1 := W_rl hz.1 62 0 5; have w2 := W_rh hz.1 62 0 5
        rw [ln_2 g hz.1 tc hz.2.1 c.2.2.1 hk]
        simp (maxSteps := 4000000) (disch := first | assumption | omega) only [fX12_readWay, bX12_readWay_91, g_12_7, g_12_18, k_12, l_62, s_62, li_4, li_0, li_30, li_8, li_1, ob2, iI_add, iI_mul, li_3, Option.bind_some, li_4, li_5, li_8, li_16, li_20, li_40, li_72, li_136, li_200, li_250, iI_eq, iI_le, Int.reduceEq, if_true, if_false, if_neg ne, z1, tn, g18, z3', f18, if_pos ab, r_bad g]
        rfl
      · have tl : ¬ XR X2 27 1 (a * 8 + b) ≤ 0 := by omega
        have ne := (cnt Z hz).1; have w1 := W_rl hz.1 62 0 5; have w2 := W_rh hz.1 62 0 5
        rw [ln_2 g hz.1 tc hz.2.1 c.2.2.1 hk]
        simp (maxSteps := 4000000) (disch := first | assumption | omega) only [fX12_readWay, bX12_readWay_91, g_12_7, g_12_18, k_12, l_62, s_62, li_4, li_0, li_30, li_8, li_1, ob2, iI_add, iI_mul, li_3, Option.bind_some, li_4, li_5, li_8, li_16, li_20, li_40, li_72, li_136, li_200, li_250, iI_eq, iI_le, Int.reduceEq, if_true, if_false, if_neg ne, z1, tn, g18, z3', f18, if_neg ab, f62, ce, if_neg tl, r_bad g]
        rfl
  have ab : ¬ a = b := by omega
  have tl : XR X2 27 1 (a * 8 + b) = 0 := by omega
  have tle : XR X2 27 1 (a * 8 + b) ≤ 0 := by omega
  have lst3 : ∀ Z, LR X Z → ∃ Z1 Z2 Z4, fX12_next f0 (Ad Y 12 0) (hp Y Z) = some (hp Y Z1) ∧ fX12_takesName f0 (Ad Y 12 0) (iI 30) (iI (XR Z1 62 0 0)) (hp Y Z1) = some (1, hp Y Z2) ∧ XF Z2 12 0 18 = a ∧ fX12_looksAt f0 (Ad Y 12 0) (iI 30) (iI (XR Z2 62 0 0)) (hp Y Z2) = some (1, hp Y (sF Z2 12 0 18 b)) ∧ XR Z2 62 0 (72 + 8 * a + b) = XR X2 27 1 (a * 8 + b) ∧ fX12_next f0 (Ad Y 12 0) (hp Y (sF Z2 12 0 18 b)) = some (hp Y Z4) ∧ LR X3 Z4 ∧ FrR Z Z4 ∧ XR Z4 62 0 = XR Z 62 0 ∧ (a < XR Z 62 0 0 ∧ b < XR Z 62 0 0) := fun Z hz => by
    obtain ⟨Z1, Z2, z1, tn, h2, f2, g18, q1, q2⟩ := lst2 Z hz
    obtain ⟨bb, z3, Z4, z4, _, _, h4, f4, _, q4⟩ := kB Z2 h2
    have am := LR_cn h2 hs1
    have bm := bb.2
    have aa : a < XR X2 25 1 0 := by rw [(DrS_rd r2).1]; exact a0.2
    have am' : XR X2 25 1 0 = XR Z2 62 0 0 := am
    have bm' : b < XR Z2 62 0 0 := bm
    rw [q2] at am' bm'
    exact ⟨Z1, Z2, Z4, z1, tn, g18, z3, cell Z2 h2, z4, h4, FrR_trans f2 f4, q4.trans q2, by omega, bm'⟩
  obtain ⟨v, X4, e4, hN | hN⟩ := j_num (f0 := f0) g c3.1 c3.2.1 (lo := 1) (hi := 40) (by decide) (by decide) (by decide)
  · obtain ⟨v1, W4, F4, fa4, _, _, k4⟩ := hN
    have e4' : fX4_lookNumber f0 (Ad Y 4 0) (iI 1) (iI 40) (hp Y X3) = some (iI (-1), hp Y X4) := by rw [← v1]; exact e4
    refine ⟨X4, .inl ⟨rlF X4 ?_, W4, FrC_trans (FrC_rd (Rd_trans (Rd_trans r1 r2) r3)) F4, fa4, fun Z hz => ?_⟩⟩
    · simp (maxSteps := 4000000) (disch := first | assumption | omega | exact W_fl W _ _ _ | exact W_fh W _ _ _ | exact W_rl W _ _ _ | exact W_rh W _ _ _) only [fX7_readPair, bX7_readPair_73, bX7_readPair_74, bX7_readPair_94, g_7_0, g_7_1, g_6_0, k_4, lm_1, li_1, li_0, ob2, li_8, iI_add, iI_mul, li_3, Option.bind_some, iI_neg, l_27, s_27, iI_neg, eA, iI_eq, Int.reduceEq, if_true, if_false, if_neg na, sA, eB, if_neg nb, if_neg ab, if_pos tl, sB, e4']
      rfl
    · obtain ⟨Z1, Z2, Z4, z1, tn, g18, z3', ce, z4, h4, f4, q4, _⟩ := lst3 Z hz
      obtain ⟨Z5, z5, w5, f5, fa5⟩ := k4 Z4 h4.1 h4.2.1
      refine ⟨Z5, ?_, w5, FrR_trans f4 f5, fa5⟩
      have f18 : XF (sF Z2 12 0 18 b) 12 0 18 = b := rfl
      have f62 : XR (sF Z2 12 0 18 b) 62 0 = XR Z2 62 0 := rfl
      have ne := (cnt Z hz).1; have w1 := W_rl hz.1 62 0 5; have w2 := W_rh hz.1 62 0 5
      rw [ln_2 g hz.1 tc hz.2.1 c.2.2.1 hk]
      simp (maxSteps := 4000000) (disch := first | assumption | omega) only [fX12_readWay, fX12_readWay, g_12_7, g_12_18, k_12, l_62, s_62, li_4, li_0, li_30, li_8, li_1, ob2, iI_add, iI_mul, Option.bind_some, li_4, li_5, li_8, li_16, li_20, li_40, li_72, li_136, li_200, li_250, iI_eq, iI_le, Int.reduceEq, if_true, if_false, if_neg ne, z1, tn, g18, z3', f18, if_neg ab, f62, ce, if_pos tle, z4, z5]
      rfl
  obtain ⟨vr, e4x, so4, v9, k4⟩ := hN
  rw [e4x] at e4
  have nv : ¬ v = -1 := by omega
  have dc3 := c3.2.2.2.1
  have W3 := c3.1
  have W5 : WF (sR X3 27 1 (upi (XR X3 27 1) (a * 8 + b) v)) := W_u W3 (by omega) (by omega)
  have sd5 : RdS X3 (sR X3 27 1 (upi (XR X3 27 1) (a * 8 + b) v)) := ⟨fun _ => rfl, rfl, rfl, rfl⟩
  have t5 := TokC_s sd5 c3.2.1
  have dc5 : DC (sR X3 27 1 (upi (XR X3 27 1) (a * 8 + b) v)) := DC_27 dc3 (by omega) (by omega)
  obtain ⟨X6, s6, r6, W6, t6, lt6, k6⟩ := j_step (f0 := f0) g W5 t5 (by show XF X3 4 0 5 ≠ 0; rw [so4]; decide) hf
  have dc6 : DC X6 := DC_s (DrS_rd r6) dc5
  have rp : fX7_readPair f0 (Ad Y 7 0) (iI 0) (iI 0) (Ad Y 27 1) (iI 40) (hp Y X1) = some (1, hp Y X6) := by
    simp (maxSteps := 4000000) (disch := first | assumption | omega | exact W_fl W _ _ _ | exact W_fh W _ _ _ | exact W_rl W _ _ _ | exact W_rh W _ _ _) only [fX7_readPair, bX7_readPair_73, bX7_readPair_74, bX7_readPair_94, g_7_0, g_7_1, g_6_0, k_4, lm_1, li_1, li_0, ob2, li_8, iI_add, iI_mul, li_3, Option.bind_some, iI_neg, l_27, s_27, iI_neg, eA, iI_eq, Int.reduceEq, if_true, if_false, if_neg na, sA, eB, if_neg nb, if_neg ab, if_pos tl, sB, e4, if_neg nv, s6]
    rfl
  have x6T : XR X6 27 1 = upi (XR X3 27 1) (a * 8 + b) v := by rw [r6.2.1]; rfl
  have x6R : ∀ t, t ≠ 27 → XR X6 t 1 = XR X t 1 := fun t ht => by
    rw [r6.2.1, XR_sR, if_neg (fun q => ht q.1), r3.2.1, r2.2.1, r1.2.1]
  have x625 : XR X6 25 1 = XR X 25 1 := x6R 25 (by decide)
  have x3T : XR X3 27 1 = XR X 27 1 := by rw [r3.2.1, r2.2.1, r1.2.1]
  have x6F : ∀ s k f, ¬ (s = 4 ∧ k = 0 ∧ 4 ≤ f ∧ f ≤ 9) → XF X6 s k f = XF X s k f := fun s k f q => by
    rw [r6.1 s k f q]; show XF X3 s k f = _; rw [r3.1 s k f q, r2.1 s k f q, r1.1 s k f q]
  have x6J : ∀ s k, ¬ (s = 4 ∧ k = 0) → XJ X6 s k = XJ X s k := fun s k q => by
    rw [r6.2.2.1 s k q]; show XJ X3 s k = _; rw [r3.2.2.1 s k q, r2.2.2.1 s k q, r1.2.2.1 s k q]
  have fr6 : FrC X X6 := FrC_trans (FrC_R (FrC_rd (Rd_trans (Rd_trans r1 r2) r3)) (by decide)) (FrC_rd r6)
  have lt6' : XF X 4 0 6 < XF X6 4 0 6 := by
    have : XF (sR X3 27 1 (upi (XR X3 27 1) (a * 8 + b) v)) 4 0 6 = XF X3 4 0 6 := rfl
    omega
  have rs6 : RsC X6 := fun i hi => by rw [x6J 21 0 (by omega)]; exact c.2.2.1 i hi
  have f10 : XF X6 4 0 10 = 0 := by rw [x6F 4 0 10 (by omega)]; exact c.2.2.2.2
  have lst5 : ∀ Z, LR X Z → ∃ Z1 Z2 Z4 Z5, fX12_next f0 (Ad Y 12 0) (hp Y Z) = some (hp Y Z1) ∧ fX12_takesName f0 (Ad Y 12 0) (iI 30) (iI (XR Z1 62 0 0)) (hp Y Z1) = some (1, hp Y Z2) ∧ XF Z2 12 0 18 = a ∧ fX12_looksAt f0 (Ad Y 12 0) (iI 30) (iI (XR Z2 62 0 0)) (hp Y Z2) = some (1, hp Y (sF Z2 12 0 18 b)) ∧ XR Z2 62 0 (72 + 8 * a + b) = XR X2 27 1 (a * 8 + b) ∧ fX12_next f0 (Ad Y 12 0) (hp Y (sF Z2 12 0 18 b)) = some (hp Y Z4) ∧ fX12_takes f0 (Ad Y 12 0) (iI 1) (iI 40) (hp Y Z4) = some (1, hp Y Z5) ∧ XF Z5 12 0 18 = v ∧ XR Z5 62 0 = XR Z 62 0 ∧ (a < XR Z 62 0 0 ∧ b < XR Z 62 0 0) ∧ WF Z5 ∧ TokR X6 Z5 ∧ RsR Z5 ∧ FrR Z Z5 ∧ XJ Z5 64 0 = XJ Z4 64 0 ∧ LR X3 Z4 ∧ XF Z5 12 0 20 = XF Z4 12 0 20 ∧ XF Z5 12 0 15 = 0 ∧ XR Z4 62 0 = XR Z 62 0 := fun Z hz => by
    obtain ⟨Z1, Z2, Z4, z1, tn, g18, z3', ce, z4, h4, f4, q4, qb⟩ := lst3 Z hz
    have tk := k4 Z4 h4.1 h4.2.1
    have h18 := LR_18 h4 (v := v) ⟨by omega, by omega⟩
    obtain ⟨Z5, z5, n5, WZ5, tr5⟩ := k6 (sF Z4 12 0 18 v) h18.1 (TokR_s sd5 NxS_refl h18.2.1)
    rw [z5] at tk
    refine ⟨Z1, Z2, Z4, Z5, z1, tn, g18, z3', ce, z4, tk.trans zr_i1, n5.1 12 0 18 (by omega), by rw [n5.2.1]; exact q4, qb, WZ5, tr5, RsR_nx n5 h18.2.2.1, FrR_trans f4 (FrR_trans (FrR_F FrR_refl (by decide)) (FrR_nx n5)), n5.2.2.1 64 0 (by omega), h4, n5.1 12 0 20 (by omega), ?_, q4⟩
    rw [n5.1 12 0 15 (by omega)]; exact h4.2.2.2.2.2
  have nb' : ∀ Z, LR X Z → 0 ≤ XR Z 62 0 0 ∧ XR Z 62 0 0 ≤ 8 ∧ XR Z 62 0 1 ≤ 8 := fun Z hz => by
    have := LR_nc c hz 0 (.inl rfl); have h3 := LR_nc c hz 3 (.inr (.inl rfl))
    exact ⟨this.1, this.2, h3.2⟩
  obtain ⟨X8, hX8⟩ : ∃ X8, X8 = sR X6 25 1 (upi (XR X6 25 1) 2 (XR X6 25 1 2 + 1)) := ⟨_, rfl⟩
  have mr : 0 ≤ XR X 25 1 2 ∧ XR X 25 1 2 ≤ 20 := by have := dc.1; omega
  have sd8 : RdS X6 X8 := by rw [hX8]; exact ⟨fun _ => rfl, rfl, rfl, rfl⟩
  have W8 : WF X8 := by rw [hX8, x625]; exact W_R W6 fun i => by
                                          rw [upi_at]; split
                                          · exact ⟨by omega, by omega⟩
                                          · exact W.2 _ _ _
  have dc8 : DC X8 := by rw [hX8]; exact DC_cn dc6 (by decide) (by rw [x625]; exact room)
  have t8 : TokC X8 := TokC_s sd8 (TokC_s RdS_refl t6)
  have f108 : XF X8 4 0 10 = 0 := by rw [sd8.1, (RdS_refl (Z := X6)).1]; exact f10
  have rs8 : RsC X8 := fun i hi => by rw [sd8.2.2.1, (RdS_refl (Z := X6)).2.2.1]; exact rs6 i hi
  refine ⟨X8, .inr ⟨?_, ⟨W8, t8, rs8, dc8, f108⟩, by rw [hX8]; exact FrC_R fr6 (by decide), Sy_e (by rw [hX8]; exact x6R 26 (by decide)), by rw [hX8]; exact lt6', fun Z hz => ?_⟩⟩
  · rw [rl, hX8]
    simp (maxSteps := 4000000) (disch := first | assumption | omega) only [bX7_readLine_81, fX7_readRest, g_7_0, g_7_1, g_6_1, k_4, k_7, l_25, s_25, li_0, li_6, li_1, ob2, iI_add, g_6_3, g_6_4, g_6_5, g_6_6, g_6_7, li_20, li_2, li_40, li_3, li_4, li_5, li_7, li_8, li_250, li_9, li_10, Option.bind_some, e1, iI_eq, iI_lt, Int.reduceEq, Int.reduceLT, if_true, if_false, rp, zr_i1, l_25, s_25]
    try rfl
  · obtain ⟨Z1, Z2, Z4, Z5, z1, tn, g18, z3', ce, z4, tk, g5, q5, qb, WZ5, tr5, rz5, f5, j5, h4, h20, h15, q4⟩ := lst5 Z hz
    have n0 := nb' Z hz
    have cnz := cnt Z hz
    have ne := cnz.1
    have w1 := W_rl hz.1 62 0 5; have w2 := W_rh hz.1 62 0 5
    have zs := h4.2.2.2.1.2.2.1
    rw [q4] at zs
    have f18 : XF (sF Z2 12 0 18 b) 12 0 18 = b := rfl
    have f62 : XR (sF Z2 12 0 18 b) 62 0 = XR Z2 62 0 := rfl
    obtain ⟨H6, hH6⟩ : ∃ H6, H6 = upi (XR Z 62 0) (72 + 8 * a + b) v := ⟨_, rfl⟩
    have H6c : H6 5 = XR Z 62 0 5 := by rw [hH6, upi_at, if_neg (by omega)]
    have y62 : ∀ r, XR (sR Z5 62 0 r) 62 0 = r := fun r => rfl
    have tb : TbR X6 H6 := by
      have t1 := TbR_s (DrS_rd r6) (TbR_27 h4.2.2.2.1.2.1 (i := a * 8 + b) (v := v) (by omega) (by omega))
      rw [q4] at t1
      rw [hH6, show 72 + 8 * a + b = 72 + (a * 8 + b) by omega]; exact t1
    have zz : ZeS H6 := by
      have t := ZeS_72 (a := a) (b := b) (v := v) zs (by omega) (by omega) (by omega) (by omega) (by omega) (by omega) (by omega)
      rw [hH6, show 72 + 8 * a + b = 72 + (8 * a + b) by omega]; exact t
    have cn6 : CnR X6 H6 := by
      have t := CnR_o (CnR_s (X' := X6) (by rw [x625, r3.2.1, r2.2.1, r1.2.1]) (by rw [r6.1 6 1 2 (by omega)]; rfl) h4.2.2.2.1.1) (k := 72 + 8 * a + b) (v := v) (by omega)
      rw [q4] at t; rw [hH6]; exact t
    have S6 : ∀ j, 0 ≤ j → j ≤ 3 → H6 j = XR Z 62 0 j := fun j j0 j3 => by rw [hH6, upi_at, if_neg (by omega)]
    obtain ⟨Z8, hZ8⟩ : ∃ Z8, Z8 = sR Z5 62 0 (upi H6 5 (H6 5 + 1)) := ⟨_, rfl⟩
    have q8 : XR Z8 62 0 = upi H6 5 (H6 5 + 1) := by rw [hZ8]; rfl
    have W8z : WF Z8 := by
      rw [hZ8]; refine W_R WZ5 fun i => ?_
      rw [upi_at, H6c]; split
      · exact ⟨by omega, by omega⟩
      · rw [hH6]; simp only [upi_at]; (repeat' split) <;> first | exact ⟨by omega, by omega⟩ | exact hz.1.2 _ _ _
    have nz : NxS Z5 Z8 := by rw [hZ8]; exact ⟨fun _ _ => rfl, rfl, rfl⟩
    refine ⟨Z8, ?_, ⟨W8z, TokR_s sd8 nz tr5, fun i hi => by rw [hZ8]; exact rz5 i hi, ⟨?_, ?_, ?_, ?_⟩, ?_, by rw [hZ8]; exact h15⟩, by rw [hZ8]; exact FrR_R f5 (by decide)⟩
    · rw [ln_2 g hz.1 tc hz.2.1 c.2.2.1 hk]
      simp (maxSteps := 4000000) (disch := first | assumption | omega) only [fX12_readWay, bX12_readWay_157, g_12_7, g_12_18, k_12, l_62, s_62, li_4, li_0, li_30, li_8, li_1, ob2, iI_add, iI_mul, Option.bind_some, li_4, li_5, li_8, li_16, li_20, li_40, li_72, li_136, li_200, li_250, iI_eq, iI_le, Int.reduceEq, if_true, if_false, if_neg ne, z1, tn, g18, z3', f18, if_neg ab, f62, ce, if_pos tle, z4, tk, g5, q5, y62, sR_sR, ← hH6, zr_i1, ← hZ8]
      try rfl
    · rw [q8, hX8]; exact CnR_cn cn6 (by decide)
    · rw [q8, hX8]; exact TbR_H (fun j hj => by rw [upi_at, if_neg (by omega)]) tb
    · rw [q8]; exact ZeS_cnt zz (by decide) (by decide) (by omega)
    · rw [hZ8, hX8]; show XF Z5 12 0 20 = XF X6 7 0 2
      skip
      rw [h20, h4.2.2.2.1.2.2.2, r6.1 7 0 2 (by omega)]; rfl
    · have d := h4.2.2.2.2.1
      rw [q4] at d
      have d2 := NamI_S9 (S' := XR Z8 62 0) (fun j j0 j3 => by rw [q8, upi_at, if_neg (by omega)]; exact S6 j j0 j3) d
      have b23 : XR X8 23 1 = XR X3 23 1 := by rw [hX8]; show XR X6 23 1 = _; rw [r6.2.1]; rfl
      have b24 : XR X8 24 1 = XR X3 24 1 := by rw [hX8]; show XR X6 24 1 = _; rw [r6.2.1]; rfl
      have b22 : XJ X8 22 1 = XJ X3 22 1 := by rw [hX8]; show XJ X6 22 1 = _; rw [r6.2.2.1 22 1 (by omega)]; rfl
      have b3 : XF X8 3 1 3 = XF X3 3 1 3 := by rw [hX8]; show XF X6 3 1 3 = _; rw [r6.1 3 1 3 (by omega)]; rfl
      have b64 : XJ Z8 64 0 = XJ Z4 64 0 := by rw [hZ8]; exact j5
      unfold DN; rw [b23, b24, b22, b3, b64]; exact d2
theorem L_1 {f0 : Nat} {Y : YS} {X : XS} (g : GY Y) (c : LC X) (hk : XF X 4 0 8 = 1) (sy : Sy X) (hf : 2000 ≤ f0) : LineO f0 Y X := by
  have W := c.1; have tc := c.2.1; have dc := c.2.2.2.1
  have so := (key_1 tc (by rw [hk]; decide)).1
  have hs1 : isN 0 := (.inl rfl)
  have hs2 : isN 0 := .inl rfl
  have g1 := SeO_1 g
  by_cases room : ¬ XR X 25 1 1 < msK 1
  · have rc := rf_C W tc (k := 4) (by decide) (by decide)
    refine ⟨rfC X 4, .inl ⟨rl_full g W hk (by decide) (by decide) room, rc.1, rc.2.1, rc.2.2, fun Z hz => ?_⟩⟩
    have rr := rf_R hz.1 tc hz.2.1 (k := 4) (by decide) (by decide)
    refine ⟨rfR Z 4, ?_, rr.1, rr.2.1, rr.2.2⟩
    have full : XR Z 62 0 4 = 16 := by
      have e := hz.2.2.2.1.1
      unfold CnR at e
      have rm : ¬ XR X 25 1 1 < 16 := room
      have := dc.1; omega
    rw [ln_1 g hz.1 tc hz.2.1 c.2.2.1 hk]
    simp (maxSteps := 4000000) (disch := first | assumption | omega) only [fX12_readWay, g_12_7, g_12_18, k_12, l_62, s_62, li_4, li_0, li_30, li_8, li_1, ob2, iI_add, iI_mul, Option.bind_some, li_4, li_5, li_8, li_16, li_20, li_40, li_72, full, r_bad g]
    rw [if_pos trivial]; rfl
  have room : XR X 25 1 1 < msK 1 := Classical.byContradiction room
  have rm : XR X 25 1 1 < 16 := room
  obtain ⟨X1, e1, r1, W1, t1, lt1, k1⟩ := j_step (f0 := f0) g W tc (by rw [so]; decide) hf
  have c1 : LC X1 := LC_rd c r1 W1 t1
  have rl : fX7_readLine f0 (Ad Y 7 0) (hp Y X) = bX7_readLine_81 f0 (Ad Y 7 0) (iI 1) (hp Y X) := rl_in g W hk (by decide) (by decide) room
  have rlF : ∀ X', fX7_readPair f0 (Ad Y 7 0) (iI 0) (iI 0) (Ad Y 26 1) (iI 20) (hp Y X1) = some (0, hp Y X') → fX7_readLine f0 (Ad Y 7 0) (hp Y X) = some (0, hp Y X') := fun X' e => by
    rw [rl]
    simp (maxSteps := 4000000) (disch := first | assumption | omega | exact W_fl W _ _ _ | exact W_fh W _ _ _ | exact W_rl W _ _ _ | exact W_rh W _ _ _) only [bX7_readLine_81, fX7_readRest, g_7_0, g_7_1, g_6_1, k_4, k_7, l_25, s_25, li_0, li_6, li_1, ob2, iI_add, g_6_3, g_6_4, g_6_5, g_6_6, g_6_7, li_20, li_2, li_40, li_3, li_4, li_5, li_7, li_8, li_250, li_9, li_10, Option.bind_some, e1, iI_eq, Int.reduceEq, if_true, if_false, e]
    rfl
  have lst : ∀ Z, LR X Z → ∃ Z1, fX12_next f0 (Ad Y 12 0) (hp Y Z) = some (hp Y Z1) ∧ NxF Z Z1 ∧ LR X1 Z1 := fun Z hz => by
    obtain ⟨Z1, z1, n1, WZ1, tr1⟩ := k1 Z hz.1 hz.2.1
    exact ⟨Z1, z1, n1, LR_nx hz r1 n1 WZ1 tr1⟩
  have cnt : ∀ Z, LR X Z → ¬ XR Z 62 0 4 = 16 ∧ XR X 25 1 1 = XR Z 62 0 4 := fun Z hz => by
    have e := hz.2.2.2.1.1
    unfold CnR at e
    omega
  obtain ⟨a, X2, hA | hA⟩ := j_tn (f0 := f0) g c1 hs1 hf
  · obtain ⟨_, eA, WA, FA, faA, kA⟩ := hA
    refine ⟨X2, .inl ⟨rlF X2 ?_, WA, FrC_trans (FrC_rd r1) FA, faA, fun Z hz => ?_⟩⟩
    · simp (maxSteps := 4000000) (disch := first | assumption | omega) only [fX7_readPair, g_7_0, g_7_1, g_6_0, k_4, lm_1, li_1, li_0, ob2, Option.bind_some, iI_add, iI_neg, iI_neg, eA, if_true]
      rfl
    · obtain ⟨Z1, z1, n1, h1⟩ := lst Z hz
      obtain ⟨⟨Z2, z2, w2, f2, fa2⟩, _⟩ := kA Z1 h1
      refine ⟨Z2, ?_, w2, FrR_trans (FrR_nx n1) f2, fa2⟩
      have z2' : fX12_takesName f0 (Ad Y 12 0) (iI 30) (iI (XR Z1 62 0 0)) (hp Y Z1) = some (0, hp Y Z2) := z2
      have ne := (cnt Z hz).1; have w1 := W_rl hz.1 62 0 4; have w2 := W_rh hz.1 62 0 4
      rw [ln_1 g hz.1 tc hz.2.1 c.2.2.1 hk]
      simp (maxSteps := 4000000) (disch := first | assumption | omega) only [fX12_readWay, fX12_readWay, g_12_7, g_12_18, k_12, l_62, s_62, li_4, li_0, li_30, li_8, li_1, ob2, iI_add, iI_mul, Option.bind_some, li_4, li_5, li_8, li_16, li_20, li_40, li_72, li_136, li_200, li_250, iI_eq, iI_le, Int.reduceEq, if_true, if_false, if_neg ne, z1, z2']
      rfl
  obtain ⟨a0, eA, soA, sA, r2, c2, lt2, kA⟩ := hA
  have a8 : a < 8 := by
    have := (DC_nm c1.2.2.2.1 hs1).2.1; omega
  have na : ¬ a = -1 := by omega
  have lst2 : ∀ Z, LR X Z → ∃ Z1 Z2, fX12_next f0 (Ad Y 12 0) (hp Y Z) = some (hp Y Z1) ∧ fX12_takesName f0 (Ad Y 12 0) (iI 30) (iI (XR Z1 62 0 0)) (hp Y Z1) = some (1, hp Y Z2) ∧ LR X2 Z2 ∧ FrR Z Z2 ∧ XF Z2 12 0 18 = a ∧ XR Z1 62 0 = XR Z 62 0 ∧ XR Z2 62 0 = XR Z 62 0 := fun Z hz => by
    obtain ⟨Z1, z1, n1, h1⟩ := lst Z hz
    obtain ⟨_, _, Z2, _, tn, n2, h2, f2, g18, z62⟩ := kA Z1 h1
    have q62 : XR Z1 62 0 = XR Z 62 0 := by rw [n1.2.1]
    exact ⟨Z1, Z2, z1, tn, h2, FrR_trans (FrR_nx n1) f2, g18, q62, z62.trans q62⟩
  obtain ⟨b, X3, hB | hB⟩ := j_tn (f0 := f0) g c2 hs2 hf
  · obtain ⟨_, eB, WB, FB, faB, kB⟩ := hB
    refine ⟨X3, .inl ⟨rlF X3 ?_, WB, FrC_trans (FrC_rd (Rd_trans r1 r2)) FB, faB, fun Z hz => ?_⟩⟩
    · simp (maxSteps := 4000000) (disch := first | assumption | omega) only [fX7_readPair, g_7_0, g_7_1, g_6_0, k_4, lm_1, li_1, li_0, ob2, Option.bind_some, iI_add, iI_neg, iI_neg, eA, iI_eq, if_neg na, sA, eB, if_true]
      rfl
    · obtain ⟨Z1, Z2, z1, tn, h2, f2, g18, q1, q2⟩ := lst2 Z hz
      obtain ⟨_, Z3, z3, w3, f3, fa3⟩ := kB Z2 h2
      refine ⟨Z3, ?_, w3, FrR_trans f2 f3, fa3⟩
      have z3' : fX12_looksAt f0 (Ad Y 12 0) (iI 30) (iI (XR Z2 62 0 0)) (hp Y Z2) = some (0, hp Y Z3) := z3
      have ne := (cnt Z hz).1; have w1 := W_rl hz.1 62 0 4; have w2 := W_rh hz.1 62 0 4
      rw [ln_1 g hz.1 tc hz.2.1 c.2.2.1 hk]
      simp (maxSteps := 4000000) (disch := first | assumption | omega) only [fX12_readWay, fX12_readWay, g_12_7, g_12_18, k_12, l_62, s_62, li_4, li_0, li_30, li_8, li_1, ob2, iI_add, iI_mul, Option.bind_some, li_4, li_5, li_8, li_16, li_20, li_40, li_72, li_136, li_200, li_250, iI_eq, iI_le, Int.reduceEq, if_true, if_false, if_neg ne, z1, tn, g18, z3']
      rfl
  obtain ⟨b0, eB, soB, sB, r3, c3, lt3, kB⟩ := hB
  have b8 : b < 8 := by
    have := (DC_nm c2.2.2.2.1 hs2).2.1; omega
  have nb : ¬ b = -1 := by omega
  have W2 := c2.1
  have tab := c2.2.2.2.1.2.2.1 (a * 8 + b) (by omega) (by omega)
  have cell : ∀ Z2, LR X2 Z2 → XR Z2 62 0 (8 + 8 * a + b) = XR X2 26 1 (a * 8 + b) := fun Z2 h2 => by
    have := h2.2.2.2.1.2.1.1 (a * 8 + b) (by omega) (by omega)
    rw [show 8 + 8 * a + b = 8 + (a * 8 + b) by omega]
    first | exact this.1.symm | exact this.2.1.symm | exact this.2.2.1.symm | exact this.2.2.2.symm
  by_cases bad : a = b ∨ ¬ XR X2 26 1 (a * 8 + b) = 0
  · have rc := rf_C W2 c2.2.1 (k := 3) (by decide) (by decide)
    refine ⟨rfC X2 3, .inl ⟨rlF _ ?_, rc.1, FrC_trans (FrC_rd (Rd_trans r1 r2)) rc.2.1, rc.2.2, fun Z hz => ?_⟩⟩
    · by_cases ab : a = b
      · have ab1 : (1 : Int) ≠ 0 := by decide
        simp (maxSteps := 4000000) (disch := first | assumption | omega | exact W_fl W _ _ _ | exact W_fh W _ _ _ | exact W_rl W _ _ _ | exact W_rh W _ _ _) only [fX7_readPair, bX7_readPair_73, bX7_readPair_74, bX7_readPair_94, g_7_0, g_7_1, g_6_0, k_4, lm_1, li_1, li_0, ob2, li_8, iI_add, iI_mul, li_3, Option.bind_some, iI_neg, l_26, s_26, iI_neg, eA, iI_eq, Int.reduceEq, if_true, if_false, if_neg na, sA, eB, if_neg nb, e_refuse g, if_pos ab]
        rfl
      · have tl : ¬ XR X2 26 1 (a * 8 + b) = 0 := by omega
        simp (maxSteps := 4000000) (disch := first | assumption | omega | exact W_fl W _ _ _ | exact W_fh W _ _ _ | exact W_rl W _ _ _ | exact W_rh W _ _ _) only [fX7_readPair, bX7_readPair_73, bX7_readPair_74, bX7_readPair_94, g_7_0, g_7_1, g_6_0, k_4, lm_1, li_1, li_0, ob2, li_8, iI_add, iI_mul, li_3, Option.bind_some, iI_neg, l_26, s_26, iI_neg, eA, iI_eq, Int.reduceEq, if_true, if_false, if_neg na, sA, eB, if_neg nb, e_refuse g, if_neg ab, if_neg tl]
        rfl
    · obtain ⟨Z1, Z2, z1, tn, h2, f2, g18, q1, q2⟩ := lst2 Z hz
      obtain ⟨bb, z3, _⟩ := kB Z2 h2
      have h3 := LR_18 h2 (v := b) ⟨by omega, by omega⟩
      have rr := rf_R h3.1 c2.2.1 h3.2.1 (k := 3) (by decide) (by decide)
      refine ⟨rfR (sF Z2 12 0 18 b) 3, ?_, rr.1, FrR_trans f2 (FrR_trans (FrR_F FrR_refl (by decide)) rr.2.1), rr.2.2⟩
      have z3' : fX12_looksAt f0 (Ad Y 12 0) (iI 30) (iI (XR Z2 62 0 0)) (hp Y Z2) = some (1, hp Y (sF Z2 12 0 18 b)) := z3
      have f18 : XF (sF Z2 12 0 18 b) 12 0 18 = b := rfl
      have f62 : XR (sF Z2 12 0 18 b) 62 0 = XR Z2 62 0 := rfl
      have ce := cell Z2 h2
      by_cases ab : a = b
      · have ne := (cnt Z hz).1; have w1 := W_rl hz.1 62 0 4; have w2 := W_rh hz.1 62 0 4
        rw [ln_1 g hz.1 tc hz.2.1 c.2.2.1 hk]
        simp (maxSteps := 4000000) (disch := first | assumption | omega) only [fX12_readWay, bX12_readWay_91, g_12_7, g_12_18, k_12, l_62, s_62, li_4, li_0, li_30, li_8, li_1, ob2, iI_add, iI_mul, li_3, Option.bind_some, li_4, li_5, li_8, li_16, li_20, li_40, li_72, li_136, li_200, li_250, iI_eq, iI_le, Int.reduceEq, if_true, if_false, if_neg ne, z1, tn, g18, z3', f18, if_pos ab, r_bad g]
        rfl
      · have tl : ¬ XR X2 26 1 (a * 8 + b) ≤ 0 := by omega
        have ne := (cnt Z hz).1; have w1 := W_rl hz.1 62 0 4; have w2 := W_rh hz.1 62 0 4
        rw [ln_1 g hz.1 tc hz.2.1 c.2.2.1 hk]
        simp (maxSteps := 4000000) (disch := first | assumption | omega) only [fX12_readWay, bX12_readWay_91, g_12_7, g_12_18, k_12, l_62, s_62, li_4, li_0, li_30, li_8, li_1, ob2, iI_add, iI_mul, li_3, Option.bind_some, li_4, li_5, li_8, li_16, li_20, li_40, li_72, li_136, li_200, li_250, iI_eq, iI_le, Int.reduceEq, if_true, if_false, if_neg ne, z1, tn, g18, z3', f18, if_neg ab, f62, ce, if_neg tl, r_bad g]
        rfl
  have ab : ¬ a = b := by omega
  have tl : XR X2 26 1 (a * 8 + b) = 0 := by omega
  have tle : XR X2 26 1 (a * 8 + b) ≤ 0 := by omega
  have lst3 : ∀ Z, LR X Z → ∃ Z1 Z2 Z4, fX12_next f0 (Ad Y 12 0) (hp Y Z) = some (hp Y Z1) ∧ fX12_takesName f0 (Ad Y 12 0) (iI 30) (iI (XR Z1 62 0 0)) (hp Y Z1) = some (1, hp Y Z2) ∧ XF Z2 12 0 18 = a ∧ fX12_looksAt f0 (Ad Y 12 0) (iI 30) (iI (XR Z2 62 0 0)) (hp Y Z2) = some (1, hp Y (sF Z2 12 0 18 b)) ∧ XR Z2 62 0 (8 + 8 * a + b) = XR X2 26 1 (a * 8 + b) ∧ fX12_next f0 (Ad Y 12 0) (hp Y (sF Z2 12 0 18 b)) = some (hp Y Z4) ∧ LR X3 Z4 ∧ FrR Z Z4 ∧ XR Z4 62 0 = XR Z 62 0 ∧ (a < XR Z 62 0 0 ∧ b < XR Z 62 0 0) := fun Z hz => by
    obtain ⟨Z1, Z2, z1, tn, h2, f2, g18, q1, q2⟩ := lst2 Z hz
    obtain ⟨bb, z3, Z4, z4, _, _, h4, f4, _, q4⟩ := kB Z2 h2
    have am := LR_cn h2 hs1
    have bm := bb.2
    have aa : a < XR X2 25 1 0 := by rw [(DrS_rd r2).1]; exact a0.2
    have am' : XR X2 25 1 0 = XR Z2 62 0 0 := am
    have bm' : b < XR Z2 62 0 0 := bm
    rw [q2] at am' bm'
    exact ⟨Z1, Z2, Z4, z1, tn, g18, z3, cell Z2 h2, z4, h4, FrR_trans f2 f4, q4.trans q2, by omega, bm'⟩
  obtain ⟨v, X4, e4, hN | hN⟩ := j_num (f0 := f0) g c3.1 c3.2.1 (lo := 1) (hi := 20) (by decide) (by decide) (by decide)
  · obtain ⟨v1, W4, F4, fa4, _, _, k4⟩ := hN
    have e4' : fX4_lookNumber f0 (Ad Y 4 0) (iI 1) (iI 20) (hp Y X3) = some (iI (-1), hp Y X4) := by rw [← v1]; exact e4
    refine ⟨X4, .inl ⟨rlF X4 ?_, W4, FrC_trans (FrC_rd (Rd_trans (Rd_trans r1 r2) r3)) F4, fa4, fun Z hz => ?_⟩⟩
    · simp (maxSteps := 4000000) (disch := first | assumption | omega | exact W_fl W _ _ _ | exact W_fh W _ _ _ | exact W_rl W _ _ _ | exact W_rh W _ _ _) only [fX7_readPair, bX7_readPair_73, bX7_readPair_74, bX7_readPair_94, g_7_0, g_7_1, g_6_0, k_4, lm_1, li_1, li_0, ob2, li_8, iI_add, iI_mul, li_3, Option.bind_some, iI_neg, l_26, s_26, iI_neg, eA, iI_eq, Int.reduceEq, if_true, if_false, if_neg na, sA, eB, if_neg nb, if_neg ab, if_pos tl, sB, e4']
      rfl
    · obtain ⟨Z1, Z2, Z4, z1, tn, g18, z3', ce, z4, h4, f4, q4, _⟩ := lst3 Z hz
      obtain ⟨Z5, z5, w5, f5, fa5⟩ := k4 Z4 h4.1 h4.2.1
      refine ⟨Z5, ?_, w5, FrR_trans f4 f5, fa5⟩
      have f18 : XF (sF Z2 12 0 18 b) 12 0 18 = b := rfl
      have f62 : XR (sF Z2 12 0 18 b) 62 0 = XR Z2 62 0 := rfl
      have ne := (cnt Z hz).1; have w1 := W_rl hz.1 62 0 4; have w2 := W_rh hz.1 62 0 4
      rw [ln_1 g hz.1 tc hz.2.1 c.2.2.1 hk]
      simp (maxSteps := 4000000) (disch := first | assumption | omega) only [fX12_readWay, fX12_readWay, g_12_7, g_12_18, k_12, l_62, s_62, li_4, li_0, li_30, li_8, li_1, ob2, iI_add, iI_mul, Option.bind_some, li_4, li_5, li_8, li_16, li_20, li_40, li_72, li_136, li_200, li_250, iI_eq, iI_le, Int.reduceEq, if_true, if_false, if_neg ne, z1, tn, g18, z3', f18, if_neg ab, f62, ce, if_pos tle, z4, z5]
      rfl
  obtain ⟨vr, e4x, so4, v9, k4⟩ := hN
  rw [e4x] at e4
  have nv : ¬ v = -1 := by omega
  have dc3 := c3.2.2.2.1
  have W3 := c3.1
  have W5 : WF (sR X3 26 1 (upi (XR X3 26 1) (a * 8 + b) v)) := W_u W3 (by omega) (by omega)
  have sd5 : RdS X3 (sR X3 26 1 (upi (XR X3 26 1) (a * 8 + b) v)) := ⟨fun _ => rfl, rfl, rfl, rfl⟩
  have t5 := TokC_s sd5 c3.2.1
  have dc5 : DC (sR X3 26 1 (upi (XR X3 26 1) (a * 8 + b) v)) := DC_26 dc3 (by omega) (by omega)
  obtain ⟨X6, s6, r6, W6, t6, lt6, k6⟩ := j_step (f0 := f0) g W5 t5 (by show XF X3 4 0 5 ≠ 0; rw [so4]; decide) hf
  have dc6 : DC X6 := DC_s (DrS_rd r6) dc5
  have rp : fX7_readPair f0 (Ad Y 7 0) (iI 0) (iI 0) (Ad Y 26 1) (iI 20) (hp Y X1) = some (1, hp Y X6) := by
    simp (maxSteps := 4000000) (disch := first | assumption | omega | exact W_fl W _ _ _ | exact W_fh W _ _ _ | exact W_rl W _ _ _ | exact W_rh W _ _ _) only [fX7_readPair, bX7_readPair_73, bX7_readPair_74, bX7_readPair_94, g_7_0, g_7_1, g_6_0, k_4, lm_1, li_1, li_0, ob2, li_8, iI_add, iI_mul, li_3, Option.bind_some, iI_neg, l_26, s_26, iI_neg, eA, iI_eq, Int.reduceEq, if_true, if_false, if_neg na, sA, eB, if_neg nb, if_neg ab, if_pos tl, sB, e4, if_neg nv, s6]
    rfl
  have x6T : XR X6 26 1 = upi (XR X3 26 1) (a * 8 + b) v := by rw [r6.2.1]; rfl
  have x6R : ∀ t, t ≠ 26 → XR X6 t 1 = XR X t 1 := fun t ht => by
    rw [r6.2.1, XR_sR, if_neg (fun q => ht q.1), r3.2.1, r2.2.1, r1.2.1]
  have x625 : XR X6 25 1 = XR X 25 1 := x6R 25 (by decide)
  have x3T : XR X3 26 1 = XR X 26 1 := by rw [r3.2.1, r2.2.1, r1.2.1]
  have x6F : ∀ s k f, ¬ (s = 4 ∧ k = 0 ∧ 4 ≤ f ∧ f ≤ 9) → XF X6 s k f = XF X s k f := fun s k f q => by
    rw [r6.1 s k f q]; show XF X3 s k f = _; rw [r3.1 s k f q, r2.1 s k f q, r1.1 s k f q]
  have x6J : ∀ s k, ¬ (s = 4 ∧ k = 0) → XJ X6 s k = XJ X s k := fun s k q => by
    rw [r6.2.2.1 s k q]; show XJ X3 s k = _; rw [r3.2.2.1 s k q, r2.2.2.1 s k q, r1.2.2.1 s k q]
  have fr6 : FrC X X6 := FrC_trans (FrC_R (FrC_rd (Rd_trans (Rd_trans r1 r2) r3)) (by decide)) (FrC_rd r6)
  have lt6' : XF X 4 0 6 < XF X6 4 0 6 := by
    have : XF (sR X3 26 1 (upi (XR X3 26 1) (a * 8 + b) v)) 4 0 6 = XF X3 4 0 6 := rfl
    omega
  have rs6 : RsC X6 := fun i hi => by rw [x6J 21 0 (by omega)]; exact c.2.2.1 i hi
  have f10 : XF X6 4 0 10 = 0 := by rw [x6F 4 0 10 (by omega)]; exact c.2.2.2.2
  have lst5 : ∀ Z, LR X Z → ∃ Z1 Z2 Z4 Z5, fX12_next f0 (Ad Y 12 0) (hp Y Z) = some (hp Y Z1) ∧ fX12_takesName f0 (Ad Y 12 0) (iI 30) (iI (XR Z1 62 0 0)) (hp Y Z1) = some (1, hp Y Z2) ∧ XF Z2 12 0 18 = a ∧ fX12_looksAt f0 (Ad Y 12 0) (iI 30) (iI (XR Z2 62 0 0)) (hp Y Z2) = some (1, hp Y (sF Z2 12 0 18 b)) ∧ XR Z2 62 0 (8 + 8 * a + b) = XR X2 26 1 (a * 8 + b) ∧ fX12_next f0 (Ad Y 12 0) (hp Y (sF Z2 12 0 18 b)) = some (hp Y Z4) ∧ fX12_takes f0 (Ad Y 12 0) (iI 1) (iI 20) (hp Y Z4) = some (1, hp Y Z5) ∧ XF Z5 12 0 18 = v ∧ XR Z5 62 0 = XR Z 62 0 ∧ (a < XR Z 62 0 0 ∧ b < XR Z 62 0 0) ∧ WF Z5 ∧ TokR X6 Z5 ∧ RsR Z5 ∧ FrR Z Z5 ∧ XJ Z5 64 0 = XJ Z4 64 0 ∧ LR X3 Z4 ∧ XF Z5 12 0 20 = XF Z4 12 0 20 ∧ XF Z5 12 0 15 = 0 ∧ XR Z4 62 0 = XR Z 62 0 := fun Z hz => by
    obtain ⟨Z1, Z2, Z4, z1, tn, g18, z3', ce, z4, h4, f4, q4, qb⟩ := lst3 Z hz
    have tk := k4 Z4 h4.1 h4.2.1
    have h18 := LR_18 h4 (v := v) ⟨by omega, by omega⟩
    obtain ⟨Z5, z5, n5, WZ5, tr5⟩ := k6 (sF Z4 12 0 18 v) h18.1 (TokR_s sd5 NxS_refl h18.2.1)
    rw [z5] at tk
    refine ⟨Z1, Z2, Z4, Z5, z1, tn, g18, z3', ce, z4, tk.trans zr_i1, n5.1 12 0 18 (by omega), by rw [n5.2.1]; exact q4, qb, WZ5, tr5, RsR_nx n5 h18.2.2.1, FrR_trans f4 (FrR_trans (FrR_F FrR_refl (by decide)) (FrR_nx n5)), n5.2.2.1 64 0 (by omega), h4, n5.1 12 0 20 (by omega), ?_, q4⟩
    rw [n5.1 12 0 15 (by omega)]; exact h4.2.2.2.2.2
  have nb' : ∀ Z, LR X Z → 0 ≤ XR Z 62 0 0 ∧ XR Z 62 0 0 ≤ 8 ∧ XR Z 62 0 1 ≤ 8 := fun Z hz => by
    have := LR_nc c hz 0 (.inl rfl); have h3 := LR_nc c hz 3 (.inr (.inl rfl))
    exact ⟨this.1, this.2, h3.2⟩
  have x0 : XR X 26 1 (a * 8 + b) = 0 := by rw [r2.2.1, r1.2.1] at tl; exact tl
  have x6b : XR X6 26 1 (b * 8 + a) = 0 := by
    rw [x6T, upi_at, if_neg (by omega), x3T, sy b a b0.1 b8 a0.1 a8]; exact x0
  have mi := e_mirror (f0 := f0) (Y := Y) (X := X6) (r := XR X6 26 1) (a := a) (b := b) (v := v) g W6 (fun i => W6.2 _ _ i) a0.1 a8 b0.1 b8 ab (by omega) (by omega) (by rw [x6T, upi_eq]) x6b (fun p q p0 p8 q0 q8 h1 h2 => by
    rw [x6T, upi_at, upi_at, if_neg (by omega), if_neg (by omega), x3T]; exact sy p q p0 p8 q0 q8) (by omega)
  rw [sR_self] at mi
  obtain ⟨X7, hX7⟩ : ∃ X7, X7 = sR X6 26 1 (upi (XR X6 26 1) (b * 8 + a) v) := ⟨_, rfl⟩
  rw [← hX7] at mi
  have sd7 : RdS X6 X7 := by rw [hX7]; exact ⟨fun _ => rfl, rfl, rfl, rfl⟩
  have W7 : WF X7 := by rw [hX7]; exact W_u W6 (by omega) (by omega)
  have dc7 : DC X7 := by rw [hX7]; exact DC_26 dc6 (by omega) (by omega)
  have x725 : XR X7 25 1 = XR X 25 1 := by rw [hX7]; exact x625
  obtain ⟨X8, hX8⟩ : ∃ X8, X8 = sR X7 25 1 (upi (XR X7 25 1) 1 (XR X7 25 1 1 + 1)) := ⟨_, rfl⟩
  have mr : 0 ≤ XR X 25 1 1 ∧ XR X 25 1 1 ≤ 20 := by have := dc.1; omega
  have sd8 : RdS X7 X8 := by rw [hX8]; exact ⟨fun _ => rfl, rfl, rfl, rfl⟩
  have W8 : WF X8 := by rw [hX8, x725]; exact W_R W7 fun i => by
                                          rw [upi_at]; split
                                          · exact ⟨by omega, by omega⟩
                                          · exact W.2 _ _ _
  have dc8 : DC X8 := by rw [hX8]; exact DC_cn dc7 (by decide) (by rw [x725]; exact room)
  have t8 : TokC X8 := TokC_s sd8 (TokC_s sd7 t6)
  have f108 : XF X8 4 0 10 = 0 := by rw [sd8.1, sd7.1]; exact f10
  have rs8 : RsC X8 := fun i hi => by rw [sd8.2.2.1, sd7.2.2.1]; exact rs6 i hi
  refine ⟨X8, .inr ⟨?_, ⟨W8, t8, rs8, dc8, f108⟩, by rw [hX8, hX7]; exact FrC_R (FrC_R fr6 (by decide)) (by decide), fun _ p q p0 p8 q0 q8 => ?_, by rw [hX8, hX7]; exact lt6', fun Z hz => ?_⟩⟩
  · rw [rl, hX8]
    simp (maxSteps := 4000000) (disch := first | assumption | omega) only [bX7_readLine_81, fX7_readRest, g_7_0, g_7_1, g_6_1, k_4, k_7, l_25, s_25, li_0, li_6, li_1, ob2, iI_add, g_6_3, g_6_4, g_6_5, g_6_6, g_6_7, li_20, li_2, li_40, li_3, li_4, li_5, li_7, li_8, li_250, li_9, li_10, Option.bind_some, e1, iI_eq, iI_lt, Int.reduceEq, Int.reduceLT, if_true, if_false, rp, mi, zr_i1, l_25, s_25]
    try rfl
  · have e26 : XR X8 26 1 = upi (upi (XR X 26 1) (a * 8 + b) v) (b * 8 + a) v := by rw [hX8, hX7]; show upi (XR X6 26 1) (b * 8 + a) v = _; rw [x6T, x3T]
    rw [e26, upi_at, upi_at, upi_at, upi_at]
    have := sy p q p0 p8 q0 q8
    by_cases k1 : p * 8 + q = b * 8 + a
    · rw [if_pos k1]
      rw [if_neg (by omega), if_pos (by omega)]
    · rw [if_neg k1]
      by_cases k2 : p * 8 + q = a * 8 + b
      · rw [if_pos k2, if_pos (by omega)]
      · rw [if_neg k2, if_neg (by omega), if_neg (by omega)]; exact this
  · obtain ⟨Z1, Z2, Z4, Z5, z1, tn, g18, z3', ce, z4, tk, g5, q5, qb, WZ5, tr5, rz5, f5, j5, h4, h20, h15, q4⟩ := lst5 Z hz
    have n0 := nb' Z hz
    have cnz := cnt Z hz
    have ne := cnz.1
    have w1 := W_rl hz.1 62 0 4; have w2 := W_rh hz.1 62 0 4
    have zs := h4.2.2.2.1.2.2.1
    rw [q4] at zs
    have f18 : XF (sF Z2 12 0 18 b) 12 0 18 = b := rfl
    have f62 : XR (sF Z2 12 0 18 b) 62 0 = XR Z2 62 0 := rfl
    obtain ⟨H6, hH6⟩ : ∃ H6, H6 = upi (upi (XR Z 62 0) (8 + 8 * a + b) v) (8 + 8 * b + a) v := ⟨_, rfl⟩
    have H6c : H6 4 = XR Z 62 0 4 := by rw [hH6, upi_at, if_neg (by omega), upi_at, if_neg (by omega)]
    have y18 : ∀ r, XF (sR Z5 62 0 r) 12 0 18 = v := fun r => g5
    have y62 : ∀ r, XR (sR Z5 62 0 r) 62 0 = r := fun r => rfl
    have tb : TbR X7 H6 := by
      have t1 := TbR_26 h4.2.2.2.1.2.1 (i := a * 8 + b) (v := v) (by omega) (by omega)
      rw [q4] at t1
      have t2 := TbR_26 (TbR_s (DrS_rd r6) t1) (i := b * 8 + a) (v := v) (by omega) (by omega)
      rw [hX7, hH6, show 8 + 8 * a + b = 8 + (a * 8 + b) by omega, show 8 + 8 * b + a = 8 + (b * 8 + a) by omega]; exact t2
    have zz : ZeS H6 := by
      have t := ZeS_8 (v := v) zs (a := a) (b := b) (by omega) (by omega) (by omega) (by omega) (by omega)
      rw [hH6, show 8 + 8 * a + b = 8 + (8 * a + b) by omega, show 8 + 8 * b + a = 8 + (8 * b + a) by omega]; exact t
    have cn6 : CnR X7 H6 := by
      have t := CnR_o (CnR_o (CnR_s (X' := X7) (by rw [x725, r3.2.1, r2.2.1, r1.2.1]) (by rw [hX7]; show XF X6 6 1 2 = _; rw [r6.1 6 1 2 (by omega)]; rfl) h4.2.2.2.1.1) (k := 8 + 8 * a + b) (v := v) (by omega)) (k := 8 + 8 * b + a) (v := v) (by omega)
      rw [q4] at t; rw [hH6]; exact t
    have S6 : ∀ j, 0 ≤ j → j ≤ 3 → H6 j = XR Z 62 0 j := fun j j0 j3 => by rw [hH6, upi_at, if_neg (by omega), upi_at, if_neg (by omega)]
    obtain ⟨Z8, hZ8⟩ : ∃ Z8, Z8 = sR Z5 62 0 (upi H6 4 (H6 4 + 1)) := ⟨_, rfl⟩
    have q8 : XR Z8 62 0 = upi H6 4 (H6 4 + 1) := by rw [hZ8]; rfl
    have W8z : WF Z8 := by
      rw [hZ8]; refine W_R WZ5 fun i => ?_
      rw [upi_at, H6c]; split
      · exact ⟨by omega, by omega⟩
      · rw [hH6]; simp only [upi_at]; (repeat' split) <;> first | exact ⟨by omega, by omega⟩ | exact hz.1.2 _ _ _
    have nz : NxS Z5 Z8 := by rw [hZ8]; exact ⟨fun _ _ => rfl, rfl, rfl⟩
    refine ⟨Z8, ?_, ⟨W8z, TokR_s sd8 nz (TokR_s sd7 NxS_refl tr5), fun i hi => by rw [hZ8]; exact rz5 i hi, ⟨?_, ?_, ?_, ?_⟩, ?_, by rw [hZ8]; exact h15⟩, by rw [hZ8]; exact FrR_R f5 (by decide)⟩
    · rw [ln_1 g hz.1 tc hz.2.1 c.2.2.1 hk]
      simp (maxSteps := 4000000) (disch := first | assumption | omega) only [fX12_readWay, bX12_readWay_157, g_12_7, g_12_18, k_12, l_62, s_62, li_4, li_0, li_30, li_8, li_1, ob2, iI_add, iI_mul, Option.bind_some, li_4, li_5, li_8, li_16, li_20, li_40, li_72, li_136, li_200, li_250, iI_eq, iI_le, Int.reduceEq, if_true, if_false, if_neg ne, z1, tn, g18, z3', f18, if_neg ab, f62, ce, if_pos tle, z4, tk, g5, q5, y18, y62, sR_sR, ← hH6, zr_i1, ← hZ8]
      try rfl
    · rw [q8, hX8]; exact CnR_cn cn6 (by decide)
    · rw [q8, hX8]; exact TbR_H (fun j hj => by rw [upi_at, if_neg (by omega)]) tb
    · rw [q8]; exact ZeS_cnt zz (by decide) (by decide) (by omega)
    · rw [hZ8, hX8]; show XF Z5 12 0 20 = XF X7 7 0 2
      rw [hX7]; show _ = XF X6 7 0 2
      rw [h20, h4.2.2.2.1.2.2.2, r6.1 7 0 2 (by omega)]; rfl
    · have d := h4.2.2.2.2.1
      rw [q4] at d
      have d2 := NamI_S9 (S' := XR Z8 62 0) (fun j j0 j3 => by rw [q8, upi_at, if_neg (by omega)]; exact S6 j j0 j3) d
      have b23 : XR X8 23 1 = XR X3 23 1 := by rw [hX8, hX7]; show XR X6 23 1 = _; rw [r6.2.1]; rfl
      have b24 : XR X8 24 1 = XR X3 24 1 := by rw [hX8, hX7]; show XR X6 24 1 = _; rw [r6.2.1]; rfl
      have b22 : XJ X8 22 1 = XJ X3 22 1 := by rw [hX8, hX7]; show XJ X6 22 1 = _; rw [r6.2.2.1 22 1 (by omega)]; rfl
      have b3 : XF X8 3 1 3 = XF X3 3 1 3 := by rw [hX8, hX7]; show XF X6 3 1 3 = _; rw [r6.1 3 1 3 (by omega)]; rfl
      have b64 : XJ Z8 64 0 = XJ Z4 64 0 := by rw [hZ8]; exact j5
      unfold DN; rw [b23, b24, b22, b3, b64]; exact d2
