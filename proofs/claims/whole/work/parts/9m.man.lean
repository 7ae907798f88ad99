/-! A LINE OF A MAN, AS A LINE -/
theorem L_5 {f0 : Nat} {Y : YS} {X : XS} (g : GY Y) (c : LC X) (hk : XF X 4 0 8 = 5) (hf : 2000 ≤ f0) : LineO f0 Y X := by
  have W := c.1; have tc := c.2.1; have dc := c.2.2.2.1
  have so := (key_1 tc (by rw [hk]; decide)).1
  have hs : isN 5 := .inr (.inr (.inr rfl))
  have g1 := SeO_1 g
  by_cases room : ¬ XR X 25 1 5 < msK 5
  · have rc := rf_C W tc (k := 4) (by decide) (by decide)
    refine ⟨rfC X 4, .inl ⟨rl_full g W hk (by decide) (by decide) room, rc.1, rc.2.1, rc.2.2, fun Z hz => ?_⟩⟩
    have rr := rf_R hz.1 tc hz.2.1 (k := 4) (by decide) (by decide)
    refine ⟨rfR Z 4, ?_, rr.1, rr.2.1, rr.2.2⟩
    have full : XR Z 62 0 3 = 8 := by
      have e := hz.2.2.2.1.1
      unfold CnR at e
      have rm : ¬ XR X 25 1 5 < 8 := room
      have := dc.1; omega
    rw [ln_5 g hz.1 tc hz.2.1 c.2.2.1 hk]
    simp (disch := first | assumption | omega) only [fX12_readMan, g_12_7, k_12, l_62, s_62, li_3, li_8, li_4, li_52, li_0, li_272, ob2, iI_add, Option.bind_some, full, r_bad g]
    rw [if_pos trivial]; rfl
  have room : XR X 25 1 5 < msK 5 := Classical.byContradiction room
  have rm : XR X 25 1 5 < 8 := room
  obtain ⟨X1, e1, r, W1, t1, lt, k⟩ := j_step (f0 := f0) g W tc (by rw [so]; decide) hf
  have c1 : LC X1 := LC_rd c r W1 t1
  have x25 : XR X1 25 1 = XR X 25 1 := (DrS_rd r).1
  have dc1 := c1.2.2.2.1
  have hn : 0 ≤ XF X1 3 1 3 ∧ XF X1 3 1 3 < 30 := by
    have h1 := dc1.1; have h2 := dc1.2.1.1
    rw [x25] at h1 h2; omega
  have cnt : ∀ Z, LR X Z → XR X 25 1 5 = XR Z 62 0 3 := fun Z hz => by
    have e := hz.2.2.2.1.1
    unfold CnR at e
    omega
  obtain ⟨m, hm⟩ : ∃ m, m = XR X 25 1 5 := ⟨_, rfl⟩
  have mr : 0 ≤ m ∧ m < 8 := by have := dc.1; omega
  have rl : fX7_readLine f0 (Ad Y 7 0) (hp Y X) = bX7_readLine_81 f0 (Ad Y 7 0) (iI 5) (hp Y X) := rl_in g W hk (by decide) (by decide) room
  obtain ⟨X2, h | h⟩ := e_readName (f0 := f0) g W1 t1 hn hs hf
  · obtain ⟨e2, W2, F2, fa, ff⟩ := h
    refine ⟨X2, .inl ⟨?_, W2, FrC_trans (FrC_rd r) F2, fa, fun Z hz => ?_⟩⟩
    · rw [rl]
      simp (disch := first | assumption | omega | exact W_fl W _ _ _ | exact W_fh W _ _ _ | exact W_rl W _ _ _ | exact W_rh W _ _ _) only [bX7_readLine_81, fX7_readRest, g_7_0, g_7_1, g_6_1, k_4, k_7, l_25, s_25, li_0, li_6, li_1, ob2, iI_add, g_6_3, g_6_4, g_6_5, g_6_6, g_6_7, li_20, li_2, li_40, li_3, li_4, li_5, li_7, li_8, li_250, li_9, li_10, Option.bind_some, e1, iI_eq, Int.reduceEq, if_true, if_false, e2]
      rfl
    · obtain ⟨Z1, z1, n1, WZ1, tr1⟩ := k Z hz.1 hz.2.1
      have h1 : LR X1 Z1 := LR_nx hz r n1 WZ1 tr1
      have ct := cnt Z hz
      have ne : ¬ XR Z 62 0 3 = 8 := by omega
      have fr := r_fresh (f0 := f0) g WZ1 t1 tr1 c1.2.2.1 h1.2.2.1 h1.2.2.2.2.1 (LR_nc c1 h1) (to := 52 + XR Z 62 0 3) (by omega) (by omega) (by omega)
      rcases ff with ⟨q, e⟩ | ⟨q, e, ex⟩
      · have rr := rf_R WZ1 t1 tr1 (k := 1) (by decide) (by decide)
        refine ⟨rfR Z1 1, ?_, rr.1, FrR_trans (FrR_nx n1) rr.2.1, by rw [e]; exact rr.2.2⟩
        rw [ln_5 g hz.1 tc hz.2.1 c.2.2.1 hk]
        have f1 := fr.1 q
        simp (disch := first | assumption | omega) only [fX12_readMan, g_12_7, k_12, l_62, s_62, li_3, li_8, li_4, li_52, li_0, li_272, ob2, iI_add, Option.bind_some, iI_eq, if_neg ne, z1, f1, if_true]
        rfl
      · have rr := rf_R WZ1 t1 tr1 (k := 3) (by decide) (by decide)
        refine ⟨rfR Z1 3, ?_, rr.1, FrR_trans (FrR_nx n1) rr.2.1, by rw [e]; exact rr.2.2⟩
        rw [ln_5 g hz.1 tc hz.2.1 c.2.2.1 hk]
        have f1 := fr.2.1 q ex
        simp (disch := first | assumption | omega) only [fX12_readMan, g_12_7, k_12, l_62, s_62, li_3, li_8, li_4, li_52, li_0, li_272, ob2, iI_add, Option.bind_some, iI_eq, if_neg ne, z1, f1, if_true]
        rfl
  obtain ⟨e2, q, no, r2, W2, t2, lt2, k2⟩ := h
  obtain ⟨a1, a2, a3, a4, a5, a6, a7, a8, a9, a10, a11, a12, a13, a14⟩ := DrS_rd r2
  have y25 : XR X2 25 1 = XR X 25 1 := a1.trans x25
  have y23 : XR X2 23 1 = upi (XR X1 23 1) (XF X1 3 1 3) 5 := a9
  have y24 : XR X2 24 1 = upi (XR X1 24 1) (XF X1 3 1 3) (XR X1 25 1 5) := a10
  have y3 : XF X2 3 1 3 = XF X1 3 1 3 + 1 := a12
  have y31 : XR X2 31 1 = XR X1 31 1 := a7
  have z31 : XR X2 31 1 m = 0 := by
    rw [y31]; exact (dc1.2.2.2.1 m mr.1 mr.2).2 (by rw [x25]; omega)
  have rs2 : RsC X2 := fun i hi => by rw [r2.2.2.1 21 0 (by omega)]; exact c1.2.2.1 i hi
  have nm2 : NmS X2 1 4 := by
    have nm1 := DC_nm dc1 (s := 4) (.inr (.inr (.inl rfl)))
    refine ⟨by omega, by rw [y25, ← x25]; exact nm1.2.1, fun i i0 i1 e => ?_⟩
    rw [y3] at i1
    rw [y23, upi_at] at e
    by_cases z : i = XF X1 3 1 3
    · rw [if_pos z] at e; omega
    · rw [if_neg z] at e
      rw [y24, upi_at, if_neg z, y25, ← x25]
      exact nm1.2.2 i i0 (by omega) e
  have sc : SkC X2 m 0 := ⟨W2, t2, rs2, nm2, by rw [y25]; have := dc.1; omega, mr, by rw [z31]; decide, by rw [z31]; rfl⟩
  have b2 := t2.1.2; have b3 := t2.2.2.1
  obtain ⟨X3, hh⟩ := sk_loop (f0 := f0) g hf m 1000 X2 f0 f0 0 (by omega) (by omega) (by omega) sc
  /- the reference comes to its loop -/
  have lst : ∀ Z, LR X Z → ∃ Z4, fX12_line f0 (Ad Y 12 0) (hp Y Z) = ob2 (bX12_readMan_47 f0 f0 (Ad Y 12 0) (iI m) (hp Y Z4)) (fun x h => zr x h) ∧ SkR X2 Z4 m ∧ FrR Z Z4 ∧ XR Z4 62 0 = upi (XR Z 62 0) (272 + m) 0 ∧ XF Z4 12 0 20 = XF Z 12 0 20 ∧ XF Z4 12 0 15 = 0 := fun Z hz => by
    obtain ⟨Z1, z1, n1, WZ1, tr1⟩ := k Z hz.1 hz.2.1
    have h1 : LR X1 Z1 := LR_nx hz r n1 WZ1 tr1
    have z62 : XR Z1 62 0 = XR Z 62 0 := by rw [n1.2.1]
    have ct := cnt Z hz
    have ne : ¬ XR Z 62 0 3 = 8 := by omega
    have to : 52 + XR Z 62 0 3 = 30 + (nbS 5 + XR X1 25 1 5) := by rw [x25, ct]; show 52 + XR Z 62 0 3 = 30 + (22 + XR Z 62 0 3); omega
    have fr := r_fresh (f0 := f0) g WZ1 t1 tr1 c1.2.2.1 h1.2.2.1 h1.2.2.2.2.1 (LR_nc c1 h1) (to := 52 + XR Z 62 0 3) (by omega) (by omega) (by omega)
    have f1 := fr.2.2 q no
    obtain ⟨Z2, hZ2⟩ : ∃ Z2, Z2 = sJ Z1 64 0 (upi (XJ Z1 64 0) (52 + XR Z 62 0 3) (XJ Z1 12 0 17)) := ⟨_, rfl⟩
    rw [← hZ2] at f1
    have tr2 : TokR X1 Z2 := TokR_s RdS_refl (by rw [hZ2]; exact ⟨fun _ _ => rfl, rfl, rfl⟩) tr1
    obtain ⟨Z3, z3, n3, WZ3, tr3⟩ := k2 Z2 (by rw [hZ2]; exact W_J WZ1) tr2
    rw [z3] at f1
    have f1' := f1.trans zr_i1
    have u62 : XR Z3 62 0 = XR Z 62 0 := by rw [n3.2.1, hZ2]; exact z62
    have dn := j_named (Z := Z) (X3 := X3) (Z4 := Z3) c hs c1 (by rw [x25]; exact rm) no r2 h1 q.1 (by rw [← to, ← hZ2]; exact n3)
    obtain ⟨Z4, hZ4⟩ : ∃ Z4, Z4 = sR Z3 62 0 (upi (XR Z 62 0) (272 + m) 0) := ⟨_, rfl⟩
    have v62 : XR Z4 62 0 = upi (XR Z 62 0) (272 + m) 0 := by rw [hZ4]; rfl
    have W4 : WF Z4 := by
      rw [hZ4]; refine W_R WZ3 fun i => ?_
      rw [upi_at]; split
      · exact ⟨by decide, by decide⟩
      · exact hz.1.2 _ _ _
    have oS : ∀ j, 0 ≤ j → j ≤ 3 → upi (XR Z4 62 0) 3 (m + 1) j = upi (XR Z1 62 0) (ciS 5) (XR X1 25 1 5 + 1) j := fun j j0 j3 => by
      show upi (XR Z4 62 0) 3 (m + 1) j = upi (XR Z1 62 0) 3 (XR X1 25 1 5 + 1) j
      rw [v62, z62, x25, ← hm]
      by_cases e : j = 3
      · rw [e, upi_eq, upi_eq]
      · rw [upi_at, if_neg e, upi_at, if_neg (by omega), upi_at, if_neg e]
    refine ⟨Z4, ?_, ⟨W4, TokR_s RdS_refl (by rw [hZ4]; exact ⟨fun _ _ => rfl, rfl, rfl⟩) tr3, fun i hi => ?_, ?_, fun s hs' => ?_, ?_, ?_⟩, ?_, v62, ?_, ?_⟩
    · rw [ln_5 g hz.1 tc hz.2.1 c.2.2.1 hk]
      have hmz : XR Z 62 0 3 = m := by omega
      rw [hmz] at f1'
      have ne' : ¬ m = 8 := by omega
      simp (maxSteps := 4000000) (disch := first | assumption | omega) only [fX12_readMan, g_12_7, k_12, l_62, s_62, li_3, li_8, li_4, li_52, li_0, li_272, ob2, iI_add, Option.bind_some, li_1, hmz, iI_eq, if_neg ne', z1, f1', Int.reduceEq, if_false, u62, ← hZ4]
    · have : XJ Z4 65 0 = XJ Z1 65 0 := by rw [hZ4]; show XJ Z3 65 0 = _; rw [n3.2.2.1 65 0 (by omega), hZ2]; rfl
      rw [this]; exact h1.2.2.1 i hi
    · have d1 := NamI_S9 (S' := upi (XR Z4 62 0) 3 (m + 1)) oS dn
      have e64 : XJ Z4 64 0 = XJ Z3 64 0 := by rw [hZ4]; rfl
      unfold DN; rw [e64]; exact d1
    · have cr := ci_rg s
      have q1 := nc_up (S := XR Z1 62 0) (s := 5) (s' := s) (m := XR X1 25 1 5 + 1) hs hs'
      have q2 := LR_nc c1 h1 s hs'
      rw [nc_ci, oS _ cr.1 cr.2]
      rw [nc_ci] at q1
      rw [q1]
      split
      · rw [x25]; omega
      · exact q2
    · rw [v62, upi_eq, z31]
    · rw [v62, upi_at, if_neg (by omega)]; omega
    · rw [hZ4]; refine FrR_R (FrR_trans ?_ (FrR_nx n3)) (by decide)
      rw [hZ2]; exact FrR_64 (FrR_nx n1) (by omega)
    · rw [hZ4]; show XF Z3 12 0 20 = _; rw [n3.1 12 0 20 (by omega), hZ2]; show XF Z1 12 0 20 = _; rw [n1.1 12 0 20 (by omega)]
    · rw [hZ4]; show XF Z3 12 0 15 = 0; rw [n3.1 12 0 15 (by omega), hZ2]; exact h1.2.2.2.2.2
  have e2m : XR X2 25 1 5 = m := by rw [y25, hm]
  rcases hh with ⟨h1, h2, h3, h4, h5⟩ | ⟨h1, h2, h3, h4, h5, h6, h7⟩
  · refine ⟨X3, .inl ⟨?_, h2, FrC_trans (FrC_trans (FrC_ad (FrC_rd r)) (FrC_rd r2)) h3, h4, fun Z hz => ?_⟩⟩
    · rw [rl]
      simp (maxSteps := 4000000) (disch := first | assumption | omega | exact W_fl W _ _ _ | exact W_fh W _ _ _ | exact W_rl W _ _ _ | exact W_rh W _ _ _) only [bX7_readLine_81, fX7_readRest, fX7_readSkills, g_7_0, g_7_1, g_6_1, k_4, k_7, l_25, s_25, li_0, li_6, li_1, ob2, iI_add, g_6_3, g_6_4, g_6_5, g_6_6, g_6_7, li_20, li_2, li_40, li_3, li_4, li_5, li_7, li_8, li_250, li_9, li_10, Option.bind_some, e1, iI_eq, Int.reduceEq, if_true, if_false, e2, e2m, h1]
      rfl
    · obtain ⟨Z4, z1, z2, z3, _⟩ := lst Z hz
      obtain ⟨Z5, y1, y2, y3, y4⟩ := h5 Z4 z2
      exact ⟨Z5, by rw [z1, y1]; rfl, y2, FrR_trans z3 y3, y4⟩
  · obtain ⟨X4, hX4⟩ : ∃ X4, X4 = sR X3 25 1 (upi (XR X3 25 1) 5 (XR X3 25 1 5 + 1)) := ⟨_, rfl⟩
    have sd : RdS X3 X4 := by rw [hX4]; exact ⟨fun _ => rfl, rfl, rfl, rfl⟩
    have u25 : XR X3 25 1 = XR X1 25 1 := by rw [h2.2.1 25 1 (by omega), y25, x25]
    have v25 : XR X4 25 1 = upi (XR X1 25 1) 5 (XR X1 25 1 5 + 1) := by rw [hX4]; show upi (XR X3 25 1) 5 (XR X3 25 1 5 + 1) = _; rw [u25]
    have v23 : XR X4 23 1 = upi (XR X1 23 1) (XF X1 3 1 3) 5 := by rw [hX4]; show XR X3 23 1 = _; rw [h2.2.1 23 1 (by omega)]; exact y23
    have v24 : XR X4 24 1 = upi (XR X1 24 1) (XF X1 3 1 3) (XR X1 25 1 5) := by rw [hX4]; show XR X3 24 1 = _; rw [h2.2.1 24 1 (by omega)]; exact y24
    have v3 : XF X4 3 1 3 = XF X1 3 1 3 + 1 := by rw [hX4]; show XF X3 3 1 3 = _; rw [h2.1 3 1 3 (by omega)]; exact y3
    have v6 : XF X4 6 1 2 = XF X1 6 1 2 := by rw [hX4]; show XF X3 6 1 2 = _; rw [h2.1 6 1 2 (by omega)]; exact a13
    have v7 : XF X4 7 0 2 = XF X1 7 0 2 := by rw [hX4]; show XF X3 7 0 2 = _; rw [h2.1 7 0 2 (by omega)]; exact a14
    have vt : ∀ t, 26 ≤ t → t ≤ 32 → t ≠ 31 → XR X4 t 1 = XR X1 t 1 := fun t q1 q2 q3 => by
      rw [hX4, XR_sR, if_neg (by omega), h2.2.1 t 1 (by omega), r2.2.1]
      unfold adC
      rw [XR_sF, XR_sR, if_neg (by omega), XR_sR, if_neg (by omega), XR_sJ]
    have v31 : ∀ i, XR X4 31 1 i = if i = m then XR X3 31 1 m else XR X1 31 1 i := fun i => by
      rw [hX4]; show XR X3 31 1 i = _
      split
      · rename_i e; rw [e]
      · rename_i e; rw [h2.2.2.1 i e, y31]
    have v22 : XJ X4 22 1 = XJ X2 22 1 := by rw [hX4]; show XJ X3 22 1 = _; exact h2.2.2.2.1 22 1 (by omega)
    have dc4 : DC X4 := DC_ad (w := XJ X1 4 0 7) dc1 hs (by rw [x25]; exact rm) v25 v23 v24 v3 (fun t q1 q2 => vt t q1 (by omega) (by omega)) (fun i i0 i8 => by
      rw [v31 i, v25, upi_eq, x25, ← hm]
      by_cases e : i = m
      · rw [if_pos e]; exact ⟨h5, fun z => by omega⟩
      · rw [if_neg e]
        have d := dc1.2.2.2.1 i i0 i8
        exact ⟨d.1, fun z => d.2 (by rw [x25]; omega)⟩) v6 v7
    have W4 : WF X4 := by
      rw [hX4, u25, x25]; refine W_R h3 fun i => ?_
      rw [upi_at]; split
      · exact ⟨by omega, by omega⟩
      · exact W.2 _ _ _
    have f10 : XF X4 4 0 10 = 0 := by rw [sd.1, h2.1 4 0 10 (by omega), r2.1 4 0 10 (by omega)]; exact c1.2.2.2.2
    have rs4 : RsC X4 := fun i hi => by rw [sd.2.2.1, h2.2.2.2.1 21 0 (by omega)]; exact rs2 i hi
    refine ⟨X4, .inr ⟨?_, ⟨W4, TokC_s sd h4, rs4, dc4, f10⟩, by rw [hX4]; exact FrC_R (FrC_trans (FrC_trans (FrC_ad (FrC_rd r)) (FrC_rd r2)) (SkF_C h2)) (by decide), Sy_e ((vt 26 (by decide) (by decide) (by decide)).trans (DrS_rd r).2.1), by rw [sd.1]; omega, fun Z hz => ?_⟩⟩
    · rw [rl, hX4]
      simp (maxSteps := 4000000) (disch := first | assumption | omega | exact W_fl W _ _ _ | exact W_fh W _ _ _ | exact W_rl W _ _ _ | exact W_rh W _ _ _) only [bX7_readLine_81, fX7_readRest, fX7_readSkills, g_7_0, g_7_1, g_6_1, k_4, k_7, l_25, s_25, li_0, li_6, li_1, ob2, iI_add, g_6_3, g_6_4, g_6_5, g_6_6, g_6_7, li_20, li_2, li_40, li_3, li_4, li_5, li_7, li_8, li_250, li_9, li_10, Option.bind_some, e1, iI_eq, iI_lt, Int.reduceEq, Int.reduceLT, if_true, if_false, e2, e2m, h1, zr_i1]
    · obtain ⟨Z4, z1, z2, z3, z62, z20, z15⟩ := lst Z hz
      obtain ⟨Z5, y1, y2, y3, y4, y5⟩ := h7 Z4 z2
      have ct := cnt Z hz
      have q5 : XR Z5 62 0 = upi (upi (XR Z 62 0) (272 + m) (XR X3 31 1 m)) 3 (m + 1) := by rw [y5, z62, upi_upi]
      have o : ∀ j, j ≠ 3 → j ≠ 272 + m → XR Z5 62 0 j = XR Z 62 0 j := fun j q1 q2 => by rw [q5, upi_at, if_neg q1, upi_at, if_neg q2]
      have D1 := DrS_rd r
      have cn := CnR_s D1.1 D1.2.2.2.2.2.2.2.2.2.2.2.2.1 hz.2.2.2.1.1
      have tb := TbR_s D1 hz.2.2.2.1.2.1
      refine ⟨Z5, by rw [z1, y1]; exact zr_i1, ⟨y2, TokR_s sd NxS_refl y3, fun i hi => ?_, ⟨?_, ?_, ?_, ?_⟩, ?_, ?_⟩, FrR_trans z3 (SkZ_R y4)⟩
      · rw [y4.2.2.1 65 0 (by omega)]; exact z2.2.2.1 i hi
      · have z3' : XR Z5 62 0 3 = m + 1 := by rw [q5, upi_eq]
        unfold CnR at *
        rw [v25, v6, o 0 (by omega) (by omega), o 1 (by omega) (by omega), o 2 (by omega) (by omega), o 4 (by omega) (by omega), o 5 (by omega) (by omega), o 6 (by omega) (by omega), o 7 (by omega) (by omega), z3', x25, ← hm]
        rw [x25] at cn
        simp only [upi_at]
        simp
        omega
      · obtain ⟨u1, u2, u3, u4⟩ := tb
        refine ⟨fun j j0 j1 => ?_, fun j j0 j1 => ?_, fun s t s0 s1 t0 t1 => ?_, fun j j0 j1 => ?_⟩
        · rw [vt 26 (by decide) (by decide) (by decide), vt 27 (by decide) (by decide) (by decide), vt 28 (by decide) (by decide) (by decide), vt 29 (by decide) (by decide) (by decide), o (8 + j) (by omega) (by omega), o (72 + j) (by omega) (by omega), o (136 + j) (by omega) (by omega), o (200 + j) (by omega) (by omega)]
          exact u1 j j0 j1
        · rw [o (264 + j) (by omega) (by omega), v31 j]
          refine ⟨(u2 j j0 j1).1, ?_⟩
          by_cases e : j = m
          · rw [if_pos e, q5, upi_at, if_neg (by omega), e, upi_eq]
          · rw [if_neg e, o (272 + j) (by omega) (by omega)]; exact (u2 j j0 j1).2
        · rw [vt 30 (by decide) (by decide) (by decide), o (264 + s) (by omega) (by omega)]; exact u3 s t s0 s1 t0 t1
        · rw [o 7 (by omega) (by omega)] at j1
          have j16 : j < 16 := by have := dc.1; have e := hz.2.2.2.1.1; unfold CnR at e; omega
          rw [vt 32 (by decide) (by decide) (by decide), o (280 + j) (by omega) (by omega), o (296 + j) (by omega) (by omega)]; exact u4 j j0 j1
      · have zs := hz.2.2.2.1.2.2.1
        refine ⟨fun x y x0 x1 y0 y1 => ?_, fun s s0 s1 r hr => ?_⟩
        · rw [o 0 (by omega) (by omega), o 1 (by omega) (by omega), o (8 + (8 * x + y)) (by omega) (by omega), o (72 + (8 * x + y)) (by omega) (by omega), o (136 + (8 * x + y)) (by omega) (by omega), o (8 + (8 * y + x)) (by omega) (by omega)]
          exact zs.1 x y x0 x1 y0 y1
        · rw [o (264 + s) (by omega) (by omega)] at hr
          rw [o 2 (by omega) (by omega)]; exact zs.2 s s0 s1 r hr
      · rw [y4.1 12 0 20 (by omega), z20, v7, (DrS_rd r).2.2.2.2.2.2.2.2.2.2.2.2.2]; exact hz.2.2.2.1.2.2.2
      · have dn := z2.2.2.2.1
        have oS : ∀ j, 0 ≤ j → j ≤ 3 → XR Z5 62 0 j = upi (XR Z4 62 0) 3 (m + 1) j := fun j j0 j3 => by
          rw [y5]
          by_cases e : j = 3
          · rw [e, upi_eq, upi_eq]
          · rw [upi_at, if_neg e, upi_at, if_neg (by omega), upi_at, if_neg e]
        have d1 := NamI_S9 (S' := XR Z5 62 0) oS dn
        have w23 : XR X4 23 1 = XR X2 23 1 := by rw [v23, y23]
        have w24 : XR X4 24 1 = XR X2 24 1 := by rw [v24, y24]
        have w3 : XF X4 3 1 3 = XF X2 3 1 3 := by rw [v3]; exact a12.symm
        have e64 : XJ Z5 64 0 = XJ Z4 64 0 := y4.2.2.1 64 0 (by omega)
        unfold DN; rw [w23, w24, v22, w3, e64]; exact d1
      · rw [y4.1 12 0 15 (by omega)]; exact z15
