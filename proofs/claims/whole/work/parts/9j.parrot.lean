/-! A LINE OF THE PARROT -/
theorem L_7 {f0 : Nat} {Y : YS} {X : XS} (g : GY Y) (c : LC X) (hk : XF X 4 0 8 = 7) (hf : 2000 ≤ f0) : LineO f0 Y X := by
  have W := c.1; have tc := c.2.1; have dc := c.2.2.2.1
  have so := (key_1 tc (by rw [hk]; decide)).1
  have g1 := SeO_1 g
  have n0 : ¬ XF X 4 0 8 = 0 := by omega
  have n1 : ¬ XF X 4 0 8 = 1 := by omega
  have n2 : ¬ XF X 4 0 8 = 2 := by omega
  have n3 : ¬ XF X 4 0 8 = 3 := by omega
  have n4 : ¬ XF X 4 0 8 = 4 := by omega
  have n5 : ¬ XF X 4 0 8 = 5 := by omega
  have n6 : ¬ XF X 4 0 8 = 6 := by omega
  have n8 : ¬ XF X 4 0 8 = 8 := by omega
  have n9 : ¬ XF X 4 0 8 = 9 := by omega
  have n10 : ¬ XF X 4 0 8 = 10 := by omega
  have p01 : XF X 7 0 2 = 0 ∨ XF X 7 0 2 = 1 := dc.2.2.2.2.2
  by_cases told : ¬ XF X 7 0 2 = 0
  · have rc := rf_C W tc (k := 3) (by decide) (by decide)
    refine ⟨rfC X 3, .inl ⟨?_, rc.1, rc.2.1, rc.2.2, fun Z hz => ?_⟩⟩
    · simp (disch := first | assumption | omega | exact W_fl W _ _ _ | exact W_fh W _ _ _ | exact W_rl W _ _ _ | exact W_rh W _ _ _) only [fX7_readLine, bX7_readLine_59, g_7_0, g_4_8, g_7_1, g_6_1, k_4, l_25, li_0, li_10, li_6, li_4, ob2, g_7_2, li_7, li_3, Option.bind_some, iI_add, hk, iI_lt, iI_le, iI_eq, Int.reduceEq, Int.reduceLT, Int.reduceLE, if_true, if_false, if_neg told, e_refuse g]
      rfl
    · have rr := rf_R hz.1 tc hz.2.1 (k := 3) (by decide) (by decide)
      refine ⟨rfR Z 3, ?_, rr.1, rr.2.1, rr.2.2⟩
      have cr := c.2.2.1
      have h20 := hz.2.2.2.1.2.2.2
      have w1 := W_fl hz.1 12 0 20; have w2 := W_fh hz.1 12 0 20
      simp (maxSteps := 4000000) (disch := first | assumption | omega) only [fX12_line, g_12_20, g_12_7, g_12_18, z_12_20, k_12, l_62, s_62, li_0, li_1, li_12, li_6, li_3, li_38, li_264, li_200, li_136, li_72, li_5, li_20, li_40, li_8, li_4, li_16, li_2, li_46, li_30, ob2, iI_add, Option.bind_some, rw_0 g hz.1 tc hz.2.1 cr, rw_1 g hz.1 tc hz.2.1 cr, rw_2 g hz.1 tc hz.2.1 cr, rw_3 g hz.1 tc hz.2.1 cr, rw_4 g hz.1 tc hz.2.1 cr, rw_5 g hz.1 tc hz.2.1 cr, rw_6 g hz.1 tc hz.2.1 cr, rw_7 g hz.1 tc hz.2.1 cr, rw_8 g hz.1 tc hz.2.1 cr, rw_9 g hz.1 tc hz.2.1 cr, rw_10 g hz.1 tc hz.2.1 cr, bI_i0, ite_n, if_neg n0, if_neg n1, if_neg n2, if_neg n3, if_neg n4, if_neg n5, if_neg n6, if_neg n8, if_neg n9, if_neg n10, if_pos hk, h20, iI_eq, if_neg told, r_bad g]
      rfl
  have told : XF X 7 0 2 = 0 := Classical.byContradiction told
  obtain ⟨X1, e1, r1, W1, t1, lt1, k1⟩ := j_step (f0 := f0) g W tc (by rw [so]; decide) hf
  have c1 : LC X1 := LC_rd c r1 W1 t1
  have rl : fX7_readLine f0 (Ad Y 7 0) (hp Y X) = bX7_readLine_81 f0 (Ad Y 7 0) (iI 7) (hp Y X) := by
    simp (disch := first | assumption | omega | exact W_fl W _ _ _ | exact W_fh W _ _ _ | exact W_rl W _ _ _ | exact W_rh W _ _ _) only [fX7_readLine, bX7_readLine_59, g_7_0, g_4_8, g_7_1, g_6_1, k_4, l_25, li_0, li_10, li_6, li_4, ob2, g_7_2, li_7, li_3, Option.bind_some, iI_add, hk, iI_lt, iI_le, iI_eq, Int.reduceEq, Int.reduceLT, Int.reduceLE, if_true, if_false, told]
  have lst : ∀ Z, LR X Z → ∃ Z1, fX12_next f0 (Ad Y 12 0) (hp Y (sF Z 12 0 20 1)) = some (hp Y Z1) ∧ NxF (sF Z 12 0 20 1) Z1 ∧ WF Z1 ∧ TokR X1 Z1 := fun Z hz => k1 _ (W_F hz.1 (by decide) (by decide)) hz.2.1
  obtain ⟨v, X2, e2, hN | hN⟩ := j_num (f0 := f0) g W1 t1 (lo := 0) (hi := 12) (by decide) (by decide) (by decide)
  · obtain ⟨v1, W2, F2, fa2, _, _, k2⟩ := hN
    have e2' : fX4_lookNumber f0 (Ad Y 4 0) (iI 0) (iI 12) (hp Y X1) = some (iI (-1), hp Y X2) := by rw [← v1]; exact e2
    refine ⟨X2, .inl ⟨?_, W2, FrC_trans (FrC_rd r1) F2, fa2, fun Z hz => ?_⟩⟩
    · rw [rl]
      simp (disch := first | assumption | omega | exact W_fl W _ _ _ | exact W_fh W _ _ _ | exact W_rl W _ _ _ | exact W_rh W _ _ _) only [bX7_readLine_81, fX7_readRest, fX7_readParrot, g_7_0, g_7_1, g_6_1, k_4, k_7, l_25, s_25, li_0, li_6, li_1, ob2, iI_add, g_6_3, g_6_4, g_6_5, g_6_6, g_6_7, li_20, li_2, li_40, li_3, li_4, li_5, li_7, li_8, li_250, li_9, li_10, p_6_2, z_7_2, lm_1, li_12, Option.bind_some, iI_neg, e1, iI_neg, iI_eq, Int.reduceEq, if_true, if_false, e2']
      rfl
    · obtain ⟨Z1, z1, m1, WZ1, tr1⟩ := lst Z hz
      obtain ⟨Z2, z2, w2, f2, fa2⟩ := k2 Z1 WZ1 tr1
      refine ⟨Z2, ?_, w2, FrR_trans (FrR_trans (FrR_F FrR_refl (by decide)) (FrR_nx m1)) f2, fa2⟩
      have cr := c.2.2.1
      have h20 := hz.2.2.2.1.2.2.2
      rw [told] at h20
      have zz := z_12_20 (Y := Y) (X := Z) g (v := 1) (.inr rfl)
      simp (maxSteps := 4000000) (disch := first | assumption | omega) only [fX12_line, g_12_20, g_12_7, g_12_18, z_12_20, k_12, l_62, s_62, li_0, li_1, li_12, li_6, li_3, li_38, li_264, li_200, li_136, li_72, li_5, li_20, li_40, li_8, li_4, li_16, li_2, li_46, li_30, ob2, iI_add, Option.bind_some, rw_0 g hz.1 tc hz.2.1 cr, rw_1 g hz.1 tc hz.2.1 cr, rw_2 g hz.1 tc hz.2.1 cr, rw_3 g hz.1 tc hz.2.1 cr, rw_4 g hz.1 tc hz.2.1 cr, rw_5 g hz.1 tc hz.2.1 cr, rw_6 g hz.1 tc hz.2.1 cr, rw_7 g hz.1 tc hz.2.1 cr, rw_8 g hz.1 tc hz.2.1 cr, rw_9 g hz.1 tc hz.2.1 cr, rw_10 g hz.1 tc hz.2.1 cr, bI_i0, ite_n, if_neg n0, if_neg n1, if_neg n2, if_neg n3, if_neg n4, if_neg n5, if_neg n6, if_neg n8, if_neg n9, if_neg n10, if_pos hk, h20, iI_eq, if_true, zz, z1, z2]
      rfl
  obtain ⟨vr, e2x, so2, v9, k2⟩ := hN
  rw [e2x] at e2
  have nv : ¬ v = -1 := by omega
  obtain ⟨X3, hX3⟩ : ∃ X3, X3 = sF (sF X1 6 1 2 v) 7 0 2 1 := ⟨_, rfl⟩
  have sd3 : RdS X1 X3 := by rw [hX3]; exact ⟨fun _ => rfl, rfl, rfl, rfl⟩
  have W3 : WF X3 := by rw [hX3]; exact W_F (W_F W1 (by omega) (by omega)) (by decide) (by decide)
  have dc3 : DC X3 := by
    rw [hX3]
    obtain ⟨h1, h2, h3, h4, h5, h6⟩ := c1.2.2.2.1
    exact ⟨h1, h2, h3, h4, vr, .inr rfl⟩
  obtain ⟨X4, e4, r4, W4, t4, lt4, k4⟩ := j_step (f0 := f0) g W3 (TokC_s sd3 t1) (by rw [sd3.1]; rw [so2]; decide) hf
  have D4 := DrS_rd r4
  have c4 : LC X4 := ⟨W4, t4, Rs_rd r4 (by rw [hX3]; exact c1.2.2.1), DC_s D4 dc3, by rw [r4.1 4 0 10 (by omega), sd3.1]; exact c1.2.2.2.2⟩
  have x26 : XR X4 26 1 = XR X 26 1 := by rw [r4.2.1, hX3]; show XR X1 26 1 = _; rw [r1.2.1]
  refine ⟨X4, .inr ⟨?_, c4, FrC_trans (by rw [hX3]; exact FrC_F (FrC_F (FrC_rd r1) (by decide)) (by decide)) (FrC_rd r4), Sy_e x26, by rw [sd3.1] at lt4; omega, fun Z hz => ?_⟩⟩
  · rw [rl]
    have zz := z_7_2 (Y := Y) (X := sF X1 6 1 2 v) g (v := 1) (.inr rfl)
    rw [← hX3] at zz
    simp (maxSteps := 4000000) (disch := first | assumption | omega | exact W_fl W _ _ _ | exact W_fh W _ _ _ | exact W_rl W _ _ _ | exact W_rh W _ _ _) only [bX7_readLine_81, fX7_readRest, fX7_readParrot, g_7_0, g_7_1, g_6_1, k_4, k_7, l_25, s_25, li_0, li_6, li_1, ob2, iI_add, g_6_3, g_6_4, g_6_5, g_6_6, g_6_7, li_20, li_2, li_40, li_3, li_4, li_5, li_7, li_8, li_250, li_9, li_10, p_6_2, z_7_2, lm_1, li_12, Option.bind_some, iI_neg, e1, iI_neg, iI_eq, iI_lt, Int.reduceEq, Int.reduceLT, if_true, if_false, e2, if_neg nv, zz, e4, zr_i1]
  · obtain ⟨Z1, z1, m1, WZ1, tr1⟩ := lst Z hz
    have tk := k2 Z1 WZ1 tr1
    obtain ⟨Z2, z2, m2, WZ2, tr2⟩ := k4 (sF Z1 12 0 18 v) (W_F WZ1 (by omega) (by omega)) (TokR_s sd3 ⟨fun f hf => by rcases hf with h | h | h | h | h | h <;> subst h <;> rfl, rfl, rfl⟩ tr1)
    rw [z2] at tk
    have tk' := tk.trans zr_i1
    have q62 : XR Z2 62 0 = XR Z 62 0 := by rw [m2.2.1]; show XR Z1 62 0 = _; rw [m1.2.1]; rfl
    have g18 : XF Z2 12 0 18 = v := m2.1 12 0 18 (by omega)
    obtain ⟨Z3, hZ3⟩ : ∃ Z3, Z3 = sR Z2 62 0 (upi (XR Z2 62 0) 6 v) := ⟨_, rfl⟩
    have u62 : XR Z3 62 0 = upi (XR Z 62 0) 6 v := by rw [hZ3, q62]; rfl
    refine ⟨Z3, ?_, ⟨?_, ?_, fun i hi => ?_, ⟨?_, ?_, ?_, ?_⟩, ?_, ?_⟩, ?_⟩
    · have cr := c.2.2.1
      have h20 := hz.2.2.2.1.2.2.2
      rw [told] at h20
      have zz := z_12_20 (Y := Y) (X := Z) g (v := 1) (.inr rfl)
      simp (maxSteps := 4000000) (disch := first | assumption | omega) only [fX12_line, g_12_20, g_12_7, g_12_18, z_12_20, k_12, l_62, s_62, li_0, li_1, li_12, li_6, li_3, li_38, li_264, li_200, li_136, li_72, li_5, li_20, li_40, li_8, li_4, li_16, li_2, li_46, li_30, ob2, iI_add, Option.bind_some, rw_0 g hz.1 tc hz.2.1 cr, rw_1 g hz.1 tc hz.2.1 cr, rw_2 g hz.1 tc hz.2.1 cr, rw_3 g hz.1 tc hz.2.1 cr, rw_4 g hz.1 tc hz.2.1 cr, rw_5 g hz.1 tc hz.2.1 cr, rw_6 g hz.1 tc hz.2.1 cr, rw_7 g hz.1 tc hz.2.1 cr, rw_8 g hz.1 tc hz.2.1 cr, rw_9 g hz.1 tc hz.2.1 cr, rw_10 g hz.1 tc hz.2.1 cr, bI_i0, ite_n, if_neg n0, if_neg n1, if_neg n2, if_neg n3, if_neg n4, if_neg n5, if_neg n6, if_neg n8, if_neg n9, if_neg n10, if_pos hk, h20, iI_eq, Int.reduceEq, if_true, if_false, zz, z1, tk', g18, ← hZ3]
      exact zr_i1
    · rw [hZ3]; exact W_u WZ2 (by omega) (by omega)
    · exact TokR_s RdS_refl (by rw [hZ3]; exact ⟨fun _ _ => rfl, rfl, rfl⟩) tr2
    · have : XJ Z3 65 0 = XJ Z 65 0 := by rw [hZ3]; show XJ Z2 65 0 = _; rw [m2.2.2.1 65 0 (by omega)]; show XJ Z1 65 0 = _; rw [m1.2.2.1 65 0 (by omega)]; rfl
      rw [this]; exact hz.2.2.1 i hi
    · have e25 : XR X4 25 1 = XR X 25 1 := by rw [r4.2.1, hX3]; show XR X1 25 1 = _; rw [r1.2.1]
      have e6 : XF X4 6 1 2 = v := by rw [r4.1 6 1 2 (by omega), hX3]; rfl
      have h := hz.2.2.2.1.1
      unfold CnR at *
      rw [e25, e6, u62]
      simp only [upi_at]
      simp
      omega
    · rw [u62]
      have tb : TbR X4 (XR Z 62 0) := TbR_s D4 (by
        have t1 := TbR_s (DrS_rd r1) hz.2.2.2.1.2.1
        rw [hX3]; exact t1)
      exact TbR_H (fun j hj => by rw [upi_at, if_neg (by omega)]) tb
    · rw [u62]
      have zs := hz.2.2.2.1.2.2.1
      have o : ∀ j, j ≠ 6 → upi (XR Z 62 0) 6 v j = XR Z 62 0 j := fun j hj => by rw [upi_at, if_neg hj]
      refine ⟨fun x y x0 x1 y0 y1 => ?_, fun s s0 s1 r hr => ?_⟩
      · rw [o 0 (by omega), o 1 (by omega), o (8 + (8 * x + y)) (by omega), o (72 + (8 * x + y)) (by omega), o (136 + (8 * x + y)) (by omega), o (8 + (8 * y + x)) (by omega)]
        exact zs.1 x y x0 x1 y0 y1
      · rw [o (264 + s) (by omega)] at hr
        rw [o 2 (by omega)]; exact zs.2 s s0 s1 r hr
    · rw [hZ3]; show XF Z2 12 0 20 = _; rw [m2.1 12 0 20 (by omega)]; show XF Z1 12 0 20 = _; rw [m1.1 12 0 20 (by omega), r4.1 7 0 2 (by omega), hX3]; rfl
    · have d := NamI_S9 (S' := XR Z3 62 0) (fun j j0 j3 => by rw [u62, upi_at, if_neg (by omega)]) hz.2.2.2.2.1
      have d1 : DN X1 Z (XR Z3 62 0) := DN_s (DrS_rd r1) rfl d
      have d3 : DN X3 Z (XR Z3 62 0) := by rw [hX3]; exact d1
      exact DN_s D4 (by rw [hZ3]; show XJ Z2 64 0 = _; rw [m2.2.2.1 64 0 (by omega)]; show XJ Z1 64 0 = _; rw [m1.2.2.1 64 0 (by omega)]; rfl) d3
    · rw [hZ3]; show XF Z2 12 0 15 = 0; rw [m2.1 12 0 15 (by omega)]; show XF Z1 12 0 15 = 0; rw [m1.1 12 0 15 (by omega)]; exact hz.2.2.2.2.2
    · rw [hZ3]; exact FrR_R (FrR_trans (FrR_F (FrR_trans (FrR_F FrR_refl (by decide)) (FrR_nx m1)) (by decide)) (FrR_nx m2)) (by decide)
