/-! A LINE OF A PORT, A SHIP, A ROLE -/
theorem L_0 {f0 : Nat} {Y : YS} {X : XS} (g : GY Y) (c : LC X) (hk : XF X 4 0 8 = 0) (hf : 2000 ≤ f0) : LineO f0 Y X := by
  have W := c.1; have tc := c.2.1; have dc := c.2.2.2.1
  have so := (key_1 tc (by rw [hk]; decide)).1
  have hs : isN 0 := (.inl rfl)
  by_cases room : XR X 25 1 0 < msK 0
  · obtain ⟨X1, e1, r, W1, t1, lt, k⟩ := j_step (f0 := f0) g W tc (by rw [so]; decide) hf
    have c1 : LC X1 := LC_rd c r W1 t1
    have x25 : XR X1 25 1 = XR X 25 1 := (DrS_rd r).1
    have rm : XR X 25 1 0 < 8 := room
    have hn : 0 ≤ XF X1 3 1 3 ∧ XF X1 3 1 3 < 30 := by
      have h1 := c1.2.2.2.1.1; have h2 := c1.2.2.2.1.2.1.1
      rw [x25] at h1 h2; omega
    have cnt : ∀ Z, LR X Z → XR X 25 1 0 = XR Z 62 0 0 := fun Z hz => by
      have e := hz.2.2.2.1.1
      unfold CnR at e
      omega
    have mr : 0 ≤ XR X 25 1 0 ∧ XR X 25 1 0 ≤ 8 := by have := dc.1; omega
    obtain ⟨X2, h | h⟩ := e_readName (f0 := f0) g W1 t1 hn hs hf
    · obtain ⟨e2, W2, F2, fa, ff⟩ := h
      refine ⟨X2, .inl ⟨?_, W2, FrC_trans (FrC_rd r) F2, fa, fun Z hz => ?_⟩⟩
      · rw [rl_in g W hk (by decide) (by decide) room]
        simp (disch := first | assumption | omega | exact W_fl W _ _ _ | exact W_fh W _ _ _ | exact W_rl W _ _ _ | exact W_rh W _ _ _) only [bX7_readLine_81, g_7_0, g_7_1, g_6_1, k_4, k_7, l_25, s_25, li_0, li_6, li_1, ob2, iI_add, Option.bind_some, e1, rr_0 g, e2]
        rfl
      · obtain ⟨Z1, z1, n1, WZ1, tr1⟩ := k Z hz.1 hz.2.1
        have h1 : LR X1 Z1 := LR_nx hz r n1 WZ1 tr1
        have z62 : XR Z1 62 0 = XR Z 62 0 := by rw [n1.2.1]
        have ct := cnt Z hz
        have ne : ¬ XR Z 62 0 0 = 8 := by omega
        have fr := r_fresh (f0 := f0) g WZ1 t1 tr1 c1.2.2.1 h1.2.2.1 h1.2.2.2.2.1 (LR_nc c1 h1) (to := 30 + XR Z 62 0 0) (by omega) (by omega) (by omega)
        have wz1 := W_rl hz.1 62 0 0; have wz2 := W_rh hz.1 62 0 0
        rcases ff with ⟨q, e⟩ | ⟨q, e, ex⟩
        · have rr := rf_R WZ1 t1 tr1 (k := 1) (by decide) (by decide)
          refine ⟨rfR Z1 1, ?_, rr.1, FrR_trans (FrR_nx n1) rr.2.1, by rw [e]; exact rr.2.2⟩
          rw [ln_0 g hz.1 tc hz.2.1 c.2.2.1 hk]
          have f1 := fr.1 q
          simp (disch := first | assumption | omega) only [fX12_tells, g_12_7, k_12, l_62, s_62, li_4, li_0, li_1, ob2, iI_add, Option.bind_some, li_2, li_6, li_8, li_30, li_38, li_46, iI_eq, if_neg ne, z1, z62, f1]
          rfl
        · have rr := rf_R WZ1 t1 tr1 (k := 3) (by decide) (by decide)
          refine ⟨rfR Z1 3, ?_, rr.1, FrR_trans (FrR_nx n1) rr.2.1, by rw [e]; exact rr.2.2⟩
          rw [ln_0 g hz.1 tc hz.2.1 c.2.2.1 hk]
          have f1 := fr.2.1 q ex
          simp (disch := first | assumption | omega) only [fX12_tells, g_12_7, k_12, l_62, s_62, li_4, li_0, li_1, ob2, iI_add, Option.bind_some, li_2, li_6, li_8, li_30, li_38, li_46, iI_eq, if_neg ne, z1, z62, f1]
          rfl
    · obtain ⟨e2, q, no, r2, W2, t2, lt2, k2⟩ := h
      have y25 : XR X2 25 1 = XR X 25 1 := by rw [(DrS_rd r2).1]; exact x25
      obtain ⟨X3, hX3⟩ : ∃ X3, X3 = sR X2 25 1 (upi (XR X2 25 1) 0 (XR X2 25 1 0 + 1)) := ⟨_, rfl⟩
      have sd : RdS X2 X3 := by rw [hX3]; exact ⟨fun _ => rfl, rfl, rfl, rfl⟩
      have v25 : XR X3 25 1 = upi (XR X1 25 1) 0 (XR X1 25 1 0 + 1) := by
        rw [hX3]; show upi (XR X2 25 1) 0 (XR X2 25 1 0 + 1) = _; rw [y25, x25]
      obtain ⟨a1, a2, a3, a4, a5, a6, a7, a8, a9, a10, a11, a12, a13, a14⟩ := DrS_rd r2
      have v23 : XR X3 23 1 = upi (XR X1 23 1) (XF X1 3 1 3) 0 := by rw [hX3]; exact a9
      have v24 : XR X3 24 1 = upi (XR X1 24 1) (XF X1 3 1 3) (XR X1 25 1 0) := by rw [hX3]; exact a10
      have v3 : XF X3 3 1 3 = XF X1 3 1 3 + 1 := by rw [hX3]; exact a12
      have v6 : XF X3 6 1 2 = XF X1 6 1 2 := by rw [hX3]; exact a13
      have v7 : XF X3 7 0 2 = XF X1 7 0 2 := by rw [hX3]; exact a14
      have vt : ∀ t, 26 ≤ t → t ≤ 32 → XR X3 t 1 = XR X1 t 1 := fun t h1 h2 => by
        have : XR X3 t 1 = XR X2 t 1 := by rw [hX3, XR_sR, if_neg (by omega)]
        rw [this, r2.2.1]
        unfold adC
        rw [XR_sF, XR_sR, if_neg (by omega), XR_sR, if_neg (by omega), XR_sJ]
      have dc1 := c1.2.2.2.1
      have dc3 : DC X3 := DC_ad (w := XJ X1 4 0 7) dc1 hs (by rw [x25]; exact rm) v25 v23 v24 v3 (fun t h1 h2 => vt t h1 (by omega)) (fun i i0 i8 => by
        rw [vt 31 (by decide) (by decide), v25, upi_at, if_neg (by decide)]
        exact dc1.2.2.2.1 i i0 i8) v6 v7
      have W3 : WF X3 := by
        rw [hX3, y25]; exact W_R W2 fun i => by
          rw [upi_at]; split
          · exact ⟨by omega, by omega⟩
          · exact W.2 _ _ _
      have f10 : XF X3 4 0 10 = 0 := by rw [sd.1, r2.1 4 0 10 (by omega)]; exact c1.2.2.2.2
      have rs3 : RsC X3 := fun i hi => by rw [sd.2.2.1, r2.2.2.1 21 0 (by omega)]; exact c1.2.2.1 i hi
      have fr3 : FrC X X3 := by rw [hX3]; exact FrC_R (FrC_trans (FrC_ad (FrC_rd r)) (FrC_rd r2)) (by decide)
      have lt3 : XF X 4 0 6 < XF X3 4 0 6 := by rw [sd.1]; omega
      refine ⟨X3, .inr ⟨?_, ⟨W3, TokC_s sd t2, rs3, dc3, f10⟩, fr3, Sy_e ((vt 26 (by decide) (by decide)).trans (DrS_rd r).2.1), lt3, fun Z hz => ?_⟩⟩
      · rw [rl_in g W hk (by decide) (by decide) room]
        have g1 := SeO_1 g
        have n6 : ¬ (6 : Int) < 0 := by decide
        have n1 : ¬ (1 : Int) = 0 := by decide
        rw [hX3]
        have z11 : ∀ h : Hp, zr 1 h = some (1, h) := fun h => zr_i1
        simp (disch := first | assumption | omega | exact W_fl W _ _ _ | exact W_fh W _ _ _ | exact W_rl W _ _ _ | exact W_rh W _ _ _) only [bX7_readLine_81, g_7_0, g_7_1, g_6_1, k_4, k_7, l_25, s_25, li_0, li_6, li_1, ob2, iI_add, Option.bind_some, e1, rr_0 g, e2, ob2_some, zr_i1, iI_eq, if_neg n1, iI_lt, if_neg n6]
      · obtain ⟨Z1, z1, n1, WZ1, tr1⟩ := k Z hz.1 hz.2.1
        have h1 : LR X1 Z1 := LR_nx hz r n1 WZ1 tr1
        have z62 : XR Z1 62 0 = XR Z 62 0 := by rw [n1.2.1]
        have ct := cnt Z hz
        have ne : ¬ XR Z 62 0 0 = 8 := by omega
        have to : 30 + XR Z 62 0 0 = 30 + (nbS 0 + XR X1 25 1 0) := by rw [x25, ct]; show 30 + XR Z 62 0 0 = 30 + ((30 - 30) + XR Z 62 0 0); omega
        have fr := r_fresh (f0 := f0) g WZ1 t1 tr1 c1.2.2.1 h1.2.2.1 h1.2.2.2.2.1 (LR_nc c1 h1) (to := 30 + XR Z 62 0 0) (by omega) (by omega) (by omega)
        have f1 := fr.2.2 q no
        obtain ⟨Z2, hZ2⟩ : ∃ Z2, Z2 = sJ Z1 64 0 (upi (XJ Z1 64 0) (30 + XR Z 62 0 0) (XJ Z1 12 0 17)) := ⟨_, rfl⟩
        rw [← hZ2] at f1
        have W2' : WF Z2 := by rw [hZ2]; exact W_J WZ1
        have tr2 : TokR X1 Z2 := TokR_s RdS_refl (by rw [hZ2]; exact ⟨fun _ _ => rfl, rfl, rfl⟩) tr1
        obtain ⟨Z3, z3, n3, WZ3, tr3⟩ := k2 Z2 W2' tr2
        rw [z3] at f1
        have u62 : XR Z3 62 0 = XR Z 62 0 := by rw [n3.2.1, hZ2]; exact z62
        obtain ⟨Z4, hZ4⟩ : ∃ Z4, Z4 = sR Z3 62 0 (upi (XR Z3 62 0) 0 (XR Z3 62 0 0 + 1)) := ⟨_, rfl⟩
        have wz1 := W_rl hz.1 62 0 0; have wz2 := W_rh hz.1 62 0 0
        have W4 : WF Z4 := by
          rw [hZ4, u62]
          refine W_R WZ3 fun i => ?_
          rw [upi_at]; split
          · exact ⟨by omega, by omega⟩
          · exact hz.1.2 _ _ _
        have w62 : XR Z4 62 0 = upi (XR Z1 62 0) (ciS 0) (XR X1 25 1 0 + 1) := by
          rw [hZ4, z62, x25, ct]; show upi (XR Z3 62 0) 0 (XR Z3 62 0 0 + 1) = _; rw [u62]; rfl
        have w20 : XF Z4 12 0 20 = XF Z1 12 0 20 := by rw [hZ4]; show XF Z3 12 0 20 = _; rw [n3.1 12 0 20 (by omega), hZ2]; rfl
        have nz : NxS Z3 Z4 := by rw [hZ4]; exact ⟨fun _ _ => rfl, rfl, rfl⟩
        have dn := j_named (Z := Z) (X3 := X3) (Z4 := Z4) c hs c1 (by rw [x25]; exact rm) no r2 h1 q.1 (by rw [← to, ← hZ2]; exact n3)
        refine ⟨Z4, ?_, ⟨W4, TokR_s sd nz tr3, fun i hi => ?_, DR_ad h1.2.2.2.1 hs v25 vt v6 v7 w62 w20, ?_, ?_⟩, ?_⟩
        · rw [ln_0 g hz.1 tc hz.2.1 c.2.2.1 hk, hZ4]
          have n10 : ¬ (1 : Int) = 0 := by decide
          simp (disch := first | assumption | omega) only [fX12_tells, g_12_7, k_12, l_62, s_62, li_4, li_0, li_1, ob2, iI_add, Option.bind_some, li_2, li_6, li_8, li_30, li_38, li_46, iI_eq, if_neg ne, z1, z62, f1, zr_i1]
          try simp (disch := first | assumption | omega) only [fX12_tells, g_12_7, k_12, l_62, s_62, li_4, li_0, li_1, ob2, iI_add, Option.bind_some, li_2, li_6, li_8, li_30, li_38, li_46, iI_eq, if_neg n10, zr_i1]
        · have : XJ Z4 65 0 = XJ Z1 65 0 := by rw [hZ4]; show XJ Z3 65 0 = _; rw [n3.2.2.1 65 0 (by omega), hZ2]; rfl
          rw [this]; exact h1.2.2.1 i hi
        · have e64 : XJ Z4 64 0 = XJ Z3 64 0 := by rw [hZ4]; rfl
          have b23 : XR X3 23 1 = XR X2 23 1 := by rw [hX3]; rfl
          have b24 : XR X3 24 1 = XR X2 24 1 := by rw [hX3]; rfl
          have b22 : XJ X3 22 1 = XJ X2 22 1 := by rw [hX3]; rfl
          have b3 : XF X3 3 1 3 = XF X2 3 1 3 := by rw [hX3]; rfl
          rw [w62]; unfold DN; rw [e64, b23, b24, b22, b3]; exact dn
        · rw [hZ4]; show XF Z3 12 0 15 = 0; rw [n3.1 12 0 15 (by omega), hZ2]; exact h1.2.2.2.2.2
        · rw [hZ4]; refine FrR_R (FrR_trans ?_ (FrR_nx n3)) (by decide)
          rw [hZ2]; exact FrR_64 (FrR_nx n1) (by omega)
  · have rc := rf_C W tc (k := 4) (by decide) (by decide)
    refine ⟨rfC X 4, .inl ⟨rl_full g W hk (by decide) (by decide) room, rc.1, rc.2.1, rc.2.2, fun Z hz => ?_⟩⟩
    have rr := rf_R hz.1 tc hz.2.1 (k := 4) (by decide) (by decide)
    refine ⟨rfR Z 4, ?_, rr.1, rr.2.1, rr.2.2⟩
    have full : XR Z 62 0 0 = 8 := by
      have e := hz.2.2.2.1.1
      unfold CnR at e
      have rm : ¬ XR X 25 1 0 < 8 := room
      have := dc.1; omega
    rw [ln_0 g hz.1 tc hz.2.1 c.2.2.1 hk]
    simp (disch := first | assumption | omega) only [fX12_tells, g_12_7, k_12, l_62, s_62, li_4, li_0, li_1, ob2, iI_add, Option.bind_some, li_2, li_6, li_8, li_30, li_38, li_46, full, r_bad g]
    rw [if_pos trivial]; rfl
theorem L_3 {f0 : Nat} {Y : YS} {X : XS} (g : GY Y) (c : LC X) (hk : XF X 4 0 8 = 3) (hf : 2000 ≤ f0) : LineO f0 Y X := by
  have W := c.1; have tc := c.2.1; have dc := c.2.2.2.1
  have so := (key_1 tc (by rw [hk]; decide)).1
  have hs : isN 3 := (.inr (.inl rfl))
  by_cases room : XR X 25 1 3 < msK 3
  · obtain ⟨X1, e1, r, W1, t1, lt, k⟩ := j_step (f0 := f0) g W tc (by rw [so]; decide) hf
    have c1 : LC X1 := LC_rd c r W1 t1
    have x25 : XR X1 25 1 = XR X 25 1 := (DrS_rd r).1
    have rm : XR X 25 1 3 < 8 := room
    have hn : 0 ≤ XF X1 3 1 3 ∧ XF X1 3 1 3 < 30 := by
      have h1 := c1.2.2.2.1.1; have h2 := c1.2.2.2.1.2.1.1
      rw [x25] at h1 h2; omega
    have cnt : ∀ Z, LR X Z → XR X 25 1 3 = XR Z 62 0 1 := fun Z hz => by
      have e := hz.2.2.2.1.1
      unfold CnR at e
      omega
    have mr : 0 ≤ XR X 25 1 3 ∧ XR X 25 1 3 ≤ 8 := by have := dc.1; omega
    obtain ⟨X2, h | h⟩ := e_readName (f0 := f0) g W1 t1 hn hs hf
    · obtain ⟨e2, W2, F2, fa, ff⟩ := h
      refine ⟨X2, .inl ⟨?_, W2, FrC_trans (FrC_rd r) F2, fa, fun Z hz => ?_⟩⟩
      · rw [rl_in g W hk (by decide) (by decide) room]
        simp (disch := first | assumption | omega | exact W_fl W _ _ _ | exact W_fh W _ _ _ | exact W_rl W _ _ _ | exact W_rh W _ _ _) only [bX7_readLine_81, g_7_0, g_7_1, g_6_1, k_4, k_7, l_25, s_25, li_0, li_6, li_1, ob2, iI_add, Option.bind_some, e1, rr_3 g, e2]
        rfl
      · obtain ⟨Z1, z1, n1, WZ1, tr1⟩ := k Z hz.1 hz.2.1
        have h1 : LR X1 Z1 := LR_nx hz r n1 WZ1 tr1
        have z62 : XR Z1 62 0 = XR Z 62 0 := by rw [n1.2.1]
        have ct := cnt Z hz
        have ne : ¬ XR Z 62 0 1 = 8 := by omega
        have fr := r_fresh (f0 := f0) g WZ1 t1 tr1 c1.2.2.1 h1.2.2.1 h1.2.2.2.2.1 (LR_nc c1 h1) (to := 38 + XR Z 62 0 1) (by omega) (by omega) (by omega)
        have wz1 := W_rl hz.1 62 0 1; have wz2 := W_rh hz.1 62 0 1
        rcases ff with ⟨q, e⟩ | ⟨q, e, ex⟩
        · have rr := rf_R WZ1 t1 tr1 (k := 1) (by decide) (by decide)
          refine ⟨rfR Z1 1, ?_, rr.1, FrR_trans (FrR_nx n1) rr.2.1, by rw [e]; exact rr.2.2⟩
          rw [ln_3 g hz.1 tc hz.2.1 c.2.2.1 hk]
          have f1 := fr.1 q
          simp (disch := first | assumption | omega) only [fX12_tells, g_12_7, k_12, l_62, s_62, li_4, li_0, li_1, ob2, iI_add, Option.bind_some, li_2, li_6, li_8, li_30, li_38, li_46, iI_eq, if_neg ne, z1, z62, f1]
          rfl
        · have rr := rf_R WZ1 t1 tr1 (k := 3) (by decide) (by decide)
          refine ⟨rfR Z1 3, ?_, rr.1, FrR_trans (FrR_nx n1) rr.2.1, by rw [e]; exact rr.2.2⟩
          rw [ln_3 g hz.1 tc hz.2.1 c.2.2.1 hk]
          have f1 := fr.2.1 q ex
          simp (disch := first | assumption | omega) only [fX12_tells, g_12_7, k_12, l_62, s_62, li_4, li_0, li_1, ob2, iI_add, Option.bind_some, li_2, li_6, li_8, li_30, li_38, li_46, iI_eq, if_neg ne, z1, z62, f1]
          rfl
    · obtain ⟨e2, q, no, r2, W2, t2, lt2, k2⟩ := h
      have y25 : XR X2 25 1 = XR X 25 1 := by rw [(DrS_rd r2).1]; exact x25
      obtain ⟨X3, hX3⟩ : ∃ X3, X3 = sR X2 25 1 (upi (XR X2 25 1) 3 (XR X2 25 1 3 + 1)) := ⟨_, rfl⟩
      have sd : RdS X2 X3 := by rw [hX3]; exact ⟨fun _ => rfl, rfl, rfl, rfl⟩
      have v25 : XR X3 25 1 = upi (XR X1 25 1) 3 (XR X1 25 1 3 + 1) := by
        rw [hX3]; show upi (XR X2 25 1) 3 (XR X2 25 1 3 + 1) = _; rw [y25, x25]
      obtain ⟨a1, a2, a3, a4, a5, a6, a7, a8, a9, a10, a11, a12, a13, a14⟩ := DrS_rd r2
      have v23 : XR X3 23 1 = upi (XR X1 23 1) (XF X1 3 1 3) 3 := by rw [hX3]; exact a9
      have v24 : XR X3 24 1 = upi (XR X1 24 1) (XF X1 3 1 3) (XR X1 25 1 3) := by rw [hX3]; exact a10
      have v3 : XF X3 3 1 3 = XF X1 3 1 3 + 1 := by rw [hX3]; exact a12
      have v6 : XF X3 6 1 2 = XF X1 6 1 2 := by rw [hX3]; exact a13
      have v7 : XF X3 7 0 2 = XF X1 7 0 2 := by rw [hX3]; exact a14
      have vt : ∀ t, 26 ≤ t → t ≤ 32 → XR X3 t 1 = XR X1 t 1 := fun t h1 h2 => by
        have : XR X3 t 1 = XR X2 t 1 := by rw [hX3, XR_sR, if_neg (by omega)]
        rw [this, r2.2.1]
        unfold adC
        rw [XR_sF, XR_sR, if_neg (by omega), XR_sR, if_neg (by omega), XR_sJ]
      have dc1 := c1.2.2.2.1
      have dc3 : DC X3 := DC_ad (w := XJ X1 4 0 7) dc1 hs (by rw [x25]; exact rm) v25 v23 v24 v3 (fun t h1 h2 => vt t h1 (by omega)) (fun i i0 i8 => by
        rw [vt 31 (by decide) (by decide), v25, upi_at, if_neg (by decide)]
        exact dc1.2.2.2.1 i i0 i8) v6 v7
      have W3 : WF X3 := by
        rw [hX3, y25]; exact W_R W2 fun i => by
          rw [upi_at]; split
          · exact ⟨by omega, by omega⟩
          · exact W.2 _ _ _
      have f10 : XF X3 4 0 10 = 0 := by rw [sd.1, r2.1 4 0 10 (by omega)]; exact c1.2.2.2.2
      have rs3 : RsC X3 := fun i hi => by rw [sd.2.2.1, r2.2.2.1 21 0 (by omega)]; exact c1.2.2.1 i hi
      have fr3 : FrC X X3 := by rw [hX3]; exact FrC_R (FrC_trans (FrC_ad (FrC_rd r)) (FrC_rd r2)) (by decide)
      have lt3 : XF X 4 0 6 < XF X3 4 0 6 := by rw [sd.1]; omega
      refine ⟨X3, .inr ⟨?_, ⟨W3, TokC_s sd t2, rs3, dc3, f10⟩, fr3, Sy_e ((vt 26 (by decide) (by decide)).trans (DrS_rd r).2.1), lt3, fun Z hz => ?_⟩⟩
      · rw [rl_in g W hk (by decide) (by decide) room]
        have g1 := SeO_1 g
        have n6 : ¬ (6 : Int) < 3 := by decide
        have n1 : ¬ (1 : Int) = 0 := by decide
        rw [hX3]
        have z11 : ∀ h : Hp, zr 1 h = some (1, h) := fun h => zr_i1
        simp (disch := first | assumption | omega | exact W_fl W _ _ _ | exact W_fh W _ _ _ | exact W_rl W _ _ _ | exact W_rh W _ _ _) only [bX7_readLine_81, g_7_0, g_7_1, g_6_1, k_4, k_7, l_25, s_25, li_0, li_6, li_1, ob2, iI_add, Option.bind_some, e1, rr_3 g, e2, ob2_some, zr_i1, iI_eq, if_neg n1, iI_lt, if_neg n6]
      · obtain ⟨Z1, z1, n1, WZ1, tr1⟩ := k Z hz.1 hz.2.1
        have h1 : LR X1 Z1 := LR_nx hz r n1 WZ1 tr1
        have z62 : XR Z1 62 0 = XR Z 62 0 := by rw [n1.2.1]
        have ct := cnt Z hz
        have ne : ¬ XR Z 62 0 1 = 8 := by omega
        have to : 38 + XR Z 62 0 1 = 30 + (nbS 3 + XR X1 25 1 3) := by rw [x25, ct]; show 38 + XR Z 62 0 1 = 30 + ((38 - 30) + XR Z 62 0 1); omega
        have fr := r_fresh (f0 := f0) g WZ1 t1 tr1 c1.2.2.1 h1.2.2.1 h1.2.2.2.2.1 (LR_nc c1 h1) (to := 38 + XR Z 62 0 1) (by omega) (by omega) (by omega)
        have f1 := fr.2.2 q no
        obtain ⟨Z2, hZ2⟩ : ∃ Z2, Z2 = sJ Z1 64 0 (upi (XJ Z1 64 0) (38 + XR Z 62 0 1) (XJ Z1 12 0 17)) := ⟨_, rfl⟩
        rw [← hZ2] at f1
        have W2' : WF Z2 := by rw [hZ2]; exact W_J WZ1
        have tr2 : TokR X1 Z2 := TokR_s RdS_refl (by rw [hZ2]; exact ⟨fun _ _ => rfl, rfl, rfl⟩) tr1
        obtain ⟨Z3, z3, n3, WZ3, tr3⟩ := k2 Z2 W2' tr2
        rw [z3] at f1
        have u62 : XR Z3 62 0 = XR Z 62 0 := by rw [n3.2.1, hZ2]; exact z62
        obtain ⟨Z4, hZ4⟩ : ∃ Z4, Z4 = sR Z3 62 0 (upi (XR Z3 62 0) 1 (XR Z3 62 0 1 + 1)) := ⟨_, rfl⟩
        have wz1 := W_rl hz.1 62 0 1; have wz2 := W_rh hz.1 62 0 1
        have W4 : WF Z4 := by
          rw [hZ4, u62]
          refine W_R WZ3 fun i => ?_
          rw [upi_at]; split
          · exact ⟨by omega, by omega⟩
          · exact hz.1.2 _ _ _
        have w62 : XR Z4 62 0 = upi (XR Z1 62 0) (ciS 3) (XR X1 25 1 3 + 1) := by
          rw [hZ4, z62, x25, ct]; show upi (XR Z3 62 0) 1 (XR Z3 62 0 1 + 1) = _; rw [u62]; rfl
        have w20 : XF Z4 12 0 20 = XF Z1 12 0 20 := by rw [hZ4]; show XF Z3 12 0 20 = _; rw [n3.1 12 0 20 (by omega), hZ2]; rfl
        have nz : NxS Z3 Z4 := by rw [hZ4]; exact ⟨fun _ _ => rfl, rfl, rfl⟩
        have dn := j_named (Z := Z) (X3 := X3) (Z4 := Z4) c hs c1 (by rw [x25]; exact rm) no r2 h1 q.1 (by rw [← to, ← hZ2]; exact n3)
        refine ⟨Z4, ?_, ⟨W4, TokR_s sd nz tr3, fun i hi => ?_, DR_ad h1.2.2.2.1 hs v25 vt v6 v7 w62 w20, ?_, ?_⟩, ?_⟩
        · rw [ln_3 g hz.1 tc hz.2.1 c.2.2.1 hk, hZ4]
          have n10 : ¬ (1 : Int) = 0 := by decide
          simp (disch := first | assumption | omega) only [fX12_tells, g_12_7, k_12, l_62, s_62, li_4, li_0, li_1, ob2, iI_add, Option.bind_some, li_2, li_6, li_8, li_30, li_38, li_46, iI_eq, if_neg ne, z1, z62, f1, zr_i1]
          try simp (disch := first | assumption | omega) only [fX12_tells, g_12_7, k_12, l_62, s_62, li_4, li_0, li_1, ob2, iI_add, Option.bind_some, li_2, li_6, li_8, li_30, li_38, li_46, iI_eq, if_neg n10, zr_i1]
        · have : XJ Z4 65 0 = XJ Z1 65 0 := by rw [hZ4]; show XJ Z3 65 0 = _; rw [n3.2.2.1 65 0 (by omega), hZ2]; rfl
          rw [this]; exact h1.2.2.1 i hi
        · have e64 : XJ Z4 64 0 = XJ Z3 64 0 := by rw [hZ4]; rfl
          have b23 : XR X3 23 1 = XR X2 23 1 := by rw [hX3]; rfl
          have b24 : XR X3 24 1 = XR X2 24 1 := by rw [hX3]; rfl
          have b22 : XJ X3 22 1 = XJ X2 22 1 := by rw [hX3]; rfl
          have b3 : XF X3 3 1 3 = XF X2 3 1 3 := by rw [hX3]; rfl
          rw [w62]; unfold DN; rw [e64, b23, b24, b22, b3]; exact dn
        · rw [hZ4]; show XF Z3 12 0 15 = 0; rw [n3.1 12 0 15 (by omega), hZ2]; exact h1.2.2.2.2.2
        · rw [hZ4]; refine FrR_R (FrR_trans ?_ (FrR_nx n3)) (by decide)
          rw [hZ2]; exact FrR_64 (FrR_nx n1) (by omega)
  · have rc := rf_C W tc (k := 4) (by decide) (by decide)
    refine ⟨rfC X 4, .inl ⟨rl_full g W hk (by decide) (by decide) room, rc.1, rc.2.1, rc.2.2, fun Z hz => ?_⟩⟩
    have rr := rf_R hz.1 tc hz.2.1 (k := 4) (by decide) (by decide)
    refine ⟨rfR Z 4, ?_, rr.1, rr.2.1, rr.2.2⟩
    have full : XR Z 62 0 1 = 8 := by
      have e := hz.2.2.2.1.1
      unfold CnR at e
      have rm : ¬ XR X 25 1 3 < 8 := room
      have := dc.1; omega
    rw [ln_3 g hz.1 tc hz.2.1 c.2.2.1 hk]
    simp (disch := first | assumption | omega) only [fX12_tells, g_12_7, k_12, l_62, s_62, li_4, li_0, li_1, ob2, iI_add, Option.bind_some, li_2, li_6, li_8, li_30, li_38, li_46, full, r_bad g]
    rw [if_pos trivial]; rfl
theorem L_4 {f0 : Nat} {Y : YS} {X : XS} (g : GY Y) (c : LC X) (hk : XF X 4 0 8 = 4) (hf : 2000 ≤ f0) : LineO f0 Y X := by
  have W := c.1; have tc := c.2.1; have dc := c.2.2.2.1
  have so := (key_1 tc (by rw [hk]; decide)).1
  have hs : isN 4 := (.inr (.inr (.inl rfl)))
  by_cases room : XR X 25 1 4 < msK 4
  · obtain ⟨X1, e1, r, W1, t1, lt, k⟩ := j_step (f0 := f0) g W tc (by rw [so]; decide) hf
    have c1 : LC X1 := LC_rd c r W1 t1
    have x25 : XR X1 25 1 = XR X 25 1 := (DrS_rd r).1
    have rm : XR X 25 1 4 < 6 := room
    have hn : 0 ≤ XF X1 3 1 3 ∧ XF X1 3 1 3 < 30 := by
      have h1 := c1.2.2.2.1.1; have h2 := c1.2.2.2.1.2.1.1
      rw [x25] at h1 h2; omega
    have cnt : ∀ Z, LR X Z → XR X 25 1 4 = XR Z 62 0 2 := fun Z hz => by
      have e := hz.2.2.2.1.1
      unfold CnR at e
      omega
    have mr : 0 ≤ XR X 25 1 4 ∧ XR X 25 1 4 ≤ 8 := by have := dc.1; omega
    obtain ⟨X2, h | h⟩ := e_readName (f0 := f0) g W1 t1 hn hs hf
    · obtain ⟨e2, W2, F2, fa, ff⟩ := h
      refine ⟨X2, .inl ⟨?_, W2, FrC_trans (FrC_rd r) F2, fa, fun Z hz => ?_⟩⟩
      · rw [rl_in g W hk (by decide) (by decide) room]
        simp (disch := first | assumption | omega | exact W_fl W _ _ _ | exact W_fh W _ _ _ | exact W_rl W _ _ _ | exact W_rh W _ _ _) only [bX7_readLine_81, g_7_0, g_7_1, g_6_1, k_4, k_7, l_25, s_25, li_0, li_6, li_1, ob2, iI_add, Option.bind_some, e1, rr_4 g, e2]
        rfl
      · obtain ⟨Z1, z1, n1, WZ1, tr1⟩ := k Z hz.1 hz.2.1
        have h1 : LR X1 Z1 := LR_nx hz r n1 WZ1 tr1
        have z62 : XR Z1 62 0 = XR Z 62 0 := by rw [n1.2.1]
        have ct := cnt Z hz
        have ne : ¬ XR Z 62 0 2 = 6 := by omega
        have fr := r_fresh (f0 := f0) g WZ1 t1 tr1 c1.2.2.1 h1.2.2.1 h1.2.2.2.2.1 (LR_nc c1 h1) (to := 46 + XR Z 62 0 2) (by omega) (by omega) (by omega)
        have wz1 := W_rl hz.1 62 0 2; have wz2 := W_rh hz.1 62 0 2
        rcases ff with ⟨q, e⟩ | ⟨q, e, ex⟩
        · have rr := rf_R WZ1 t1 tr1 (k := 1) (by decide) (by decide)
          refine ⟨rfR Z1 1, ?_, rr.1, FrR_trans (FrR_nx n1) rr.2.1, by rw [e]; exact rr.2.2⟩
          rw [ln_4 g hz.1 tc hz.2.1 c.2.2.1 hk]
          have f1 := fr.1 q
          simp (disch := first | assumption | omega) only [fX12_tells, g_12_7, k_12, l_62, s_62, li_4, li_0, li_1, ob2, iI_add, Option.bind_some, li_2, li_6, li_8, li_30, li_38, li_46, iI_eq, if_neg ne, z1, z62, f1]
          rfl
        · have rr := rf_R WZ1 t1 tr1 (k := 3) (by decide) (by decide)
          refine ⟨rfR Z1 3, ?_, rr.1, FrR_trans (FrR_nx n1) rr.2.1, by rw [e]; exact rr.2.2⟩
          rw [ln_4 g hz.1 tc hz.2.1 c.2.2.1 hk]
          have f1 := fr.2.1 q ex
          simp (disch := first | assumption | omega) only [fX12_tells, g_12_7, k_12, l_62, s_62, li_4, li_0, li_1, ob2, iI_add, Option.bind_some, li_2, li_6, li_8, li_30, li_38, li_46, iI_eq, if_neg ne, z1, z62, f1]
          rfl
    · obtain ⟨e2, q, no, r2, W2, t2, lt2, k2⟩ := h
      have y25 : XR X2 25 1 = XR X 25 1 := by rw [(DrS_rd r2).1]; exact x25
      obtain ⟨X3, hX3⟩ : ∃ X3, X3 = sR X2 25 1 (upi (XR X2 25 1) 4 (XR X2 25 1 4 + 1)) := ⟨_, rfl⟩
      have sd : RdS X2 X3 := by rw [hX3]; exact ⟨fun _ => rfl, rfl, rfl, rfl⟩
      have v25 : XR X3 25 1 = upi (XR X1 25 1) 4 (XR X1 25 1 4 + 1) := by
        rw [hX3]; show upi (XR X2 25 1) 4 (XR X2 25 1 4 + 1) = _; rw [y25, x25]
      obtain ⟨a1, a2, a3, a4, a5, a6, a7, a8, a9, a10, a11, a12, a13, a14⟩ := DrS_rd r2
      have v23 : XR X3 23 1 = upi (XR X1 23 1) (XF X1 3 1 3) 4 := by rw [hX3]; exact a9
      have v24 : XR X3 24 1 = upi (XR X1 24 1) (XF X1 3 1 3) (XR X1 25 1 4) := by rw [hX3]; exact a10
      have v3 : XF X3 3 1 3 = XF X1 3 1 3 + 1 := by rw [hX3]; exact a12
      have v6 : XF X3 6 1 2 = XF X1 6 1 2 := by rw [hX3]; exact a13
      have v7 : XF X3 7 0 2 = XF X1 7 0 2 := by rw [hX3]; exact a14
      have vt : ∀ t, 26 ≤ t → t ≤ 32 → XR X3 t 1 = XR X1 t 1 := fun t h1 h2 => by
        have : XR X3 t 1 = XR X2 t 1 := by rw [hX3, XR_sR, if_neg (by omega)]
        rw [this, r2.2.1]
        unfold adC
        rw [XR_sF, XR_sR, if_neg (by omega), XR_sR, if_neg (by omega), XR_sJ]
      have dc1 := c1.2.2.2.1
      have dc3 : DC X3 := DC_ad (w := XJ X1 4 0 7) dc1 hs (by rw [x25]; exact rm) v25 v23 v24 v3 (fun t h1 h2 => vt t h1 (by omega)) (fun i i0 i8 => by
        rw [vt 31 (by decide) (by decide), v25, upi_at, if_neg (by decide)]
        exact dc1.2.2.2.1 i i0 i8) v6 v7
      have W3 : WF X3 := by
        rw [hX3, y25]; exact W_R W2 fun i => by
          rw [upi_at]; split
          · exact ⟨by omega, by omega⟩
          · exact W.2 _ _ _
      have f10 : XF X3 4 0 10 = 0 := by rw [sd.1, r2.1 4 0 10 (by omega)]; exact c1.2.2.2.2
      have rs3 : RsC X3 := fun i hi => by rw [sd.2.2.1, r2.2.2.1 21 0 (by omega)]; exact c1.2.2.1 i hi
      have fr3 : FrC X X3 := by rw [hX3]; exact FrC_R (FrC_trans (FrC_ad (FrC_rd r)) (FrC_rd r2)) (by decide)
      have lt3 : XF X 4 0 6 < XF X3 4 0 6 := by rw [sd.1]; omega
      refine ⟨X3, .inr ⟨?_, ⟨W3, TokC_s sd t2, rs3, dc3, f10⟩, fr3, Sy_e ((vt 26 (by decide) (by decide)).trans (DrS_rd r).2.1), lt3, fun Z hz => ?_⟩⟩
      · rw [rl_in g W hk (by decide) (by decide) room]
        have g1 := SeO_1 g
        have n6 : ¬ (6 : Int) < 4 := by decide
        have n1 : ¬ (1 : Int) = 0 := by decide
        rw [hX3]
        have z11 : ∀ h : Hp, zr 1 h = some (1, h) := fun h => zr_i1
        simp (disch := first | assumption | omega | exact W_fl W _ _ _ | exact W_fh W _ _ _ | exact W_rl W _ _ _ | exact W_rh W _ _ _) only [bX7_readLine_81, g_7_0, g_7_1, g_6_1, k_4, k_7, l_25, s_25, li_0, li_6, li_1, ob2, iI_add, Option.bind_some, e1, rr_4 g, e2, ob2_some, zr_i1, iI_eq, if_neg n1, iI_lt, if_neg n6]
      · obtain ⟨Z1, z1, n1, WZ1, tr1⟩ := k Z hz.1 hz.2.1
        have h1 : LR X1 Z1 := LR_nx hz r n1 WZ1 tr1
        have z62 : XR Z1 62 0 = XR Z 62 0 := by rw [n1.2.1]
        have ct := cnt Z hz
        have ne : ¬ XR Z 62 0 2 = 6 := by omega
        have to : 46 + XR Z 62 0 2 = 30 + (nbS 4 + XR X1 25 1 4) := by rw [x25, ct]; show 46 + XR Z 62 0 2 = 30 + ((46 - 30) + XR Z 62 0 2); omega
        have fr := r_fresh (f0 := f0) g WZ1 t1 tr1 c1.2.2.1 h1.2.2.1 h1.2.2.2.2.1 (LR_nc c1 h1) (to := 46 + XR Z 62 0 2) (by omega) (by omega) (by omega)
        have f1 := fr.2.2 q no
        obtain ⟨Z2, hZ2⟩ : ∃ Z2, Z2 = sJ Z1 64 0 (upi (XJ Z1 64 0) (46 + XR Z 62 0 2) (XJ Z1 12 0 17)) := ⟨_, rfl⟩
        rw [← hZ2] at f1
        have W2' : WF Z2 := by rw [hZ2]; exact W_J WZ1
        have tr2 : TokR X1 Z2 := TokR_s RdS_refl (by rw [hZ2]; exact ⟨fun _ _ => rfl, rfl, rfl⟩) tr1
        obtain ⟨Z3, z3, n3, WZ3, tr3⟩ := k2 Z2 W2' tr2
        rw [z3] at f1
        have u62 : XR Z3 62 0 = XR Z 62 0 := by rw [n3.2.1, hZ2]; exact z62
        obtain ⟨Z4, hZ4⟩ : ∃ Z4, Z4 = sR Z3 62 0 (upi (XR Z3 62 0) 2 (XR Z3 62 0 2 + 1)) := ⟨_, rfl⟩
        have wz1 := W_rl hz.1 62 0 2; have wz2 := W_rh hz.1 62 0 2
        have W4 : WF Z4 := by
          rw [hZ4, u62]
          refine W_R WZ3 fun i => ?_
          rw [upi_at]; split
          · exact ⟨by omega, by omega⟩
          · exact hz.1.2 _ _ _
        have w62 : XR Z4 62 0 = upi (XR Z1 62 0) (ciS 4) (XR X1 25 1 4 + 1) := by
          rw [hZ4, z62, x25, ct]; show upi (XR Z3 62 0) 2 (XR Z3 62 0 2 + 1) = _; rw [u62]; rfl
        have w20 : XF Z4 12 0 20 = XF Z1 12 0 20 := by rw [hZ4]; show XF Z3 12 0 20 = _; rw [n3.1 12 0 20 (by omega), hZ2]; rfl
        have nz : NxS Z3 Z4 := by rw [hZ4]; exact ⟨fun _ _ => rfl, rfl, rfl⟩
        have dn := j_named (Z := Z) (X3 := X3) (Z4 := Z4) c hs c1 (by rw [x25]; exact rm) no r2 h1 q.1 (by rw [← to, ← hZ2]; exact n3)
        refine ⟨Z4, ?_, ⟨W4, TokR_s sd nz tr3, fun i hi => ?_, DR_ad h1.2.2.2.1 hs v25 vt v6 v7 w62 w20, ?_, ?_⟩, ?_⟩
        · rw [ln_4 g hz.1 tc hz.2.1 c.2.2.1 hk, hZ4]
          have n10 : ¬ (1 : Int) = 0 := by decide
          simp (disch := first | assumption | omega) only [fX12_tells, g_12_7, k_12, l_62, s_62, li_4, li_0, li_1, ob2, iI_add, Option.bind_some, li_2, li_6, li_8, li_30, li_38, li_46, iI_eq, if_neg ne, z1, z62, f1, zr_i1]
          try simp (disch := first | assumption | omega) only [fX12_tells, g_12_7, k_12, l_62, s_62, li_4, li_0, li_1, ob2, iI_add, Option.bind_some, li_2, li_6, li_8, li_30, li_38, li_46, iI_eq, if_neg n10, zr_i1]
        · have : XJ Z4 65 0 = XJ Z1 65 0 := by rw [hZ4]; show XJ Z3 65 0 = _; rw [n3.2.2.1 65 0 (by omega), hZ2]; rfl
          rw [this]; exact h1.2.2.1 i hi
        · have e64 : XJ Z4 64 0 = XJ Z3 64 0 := by rw [hZ4]; rfl
          have b23 : XR X3 23 1 = XR X2 23 1 := by rw [hX3]; rfl
          have b24 : XR X3 24 1 = XR X2 24 1 := by rw [hX3]; rfl
          have b22 : XJ X3 22 1 = XJ X2 22 1 := by rw [hX3]; rfl
          have b3 : XF X3 3 1 3 = XF X2 3 1 3 := by rw [hX3]; rfl
          rw [w62]; unfold DN; rw [e64, b23, b24, b22, b3]; exact dn
        · rw [hZ4]; show XF Z3 12 0 15 = 0; rw [n3.1 12 0 15 (by omega), hZ2]; exact h1.2.2.2.2.2
        · rw [hZ4]; refine FrR_R (FrR_trans ?_ (FrR_nx n3)) (by decide)
          rw [hZ2]; exact FrR_64 (FrR_nx n1) (by omega)
  · have rc := rf_C W tc (k := 4) (by decide) (by decide)
    refine ⟨rfC X 4, .inl ⟨rl_full g W hk (by decide) (by decide) room, rc.1, rc.2.1, rc.2.2, fun Z hz => ?_⟩⟩
    have rr := rf_R hz.1 tc hz.2.1 (k := 4) (by decide) (by decide)
    refine ⟨rfR Z 4, ?_, rr.1, rr.2.1, rr.2.2⟩
    have full : XR Z 62 0 2 = 6 := by
      have e := hz.2.2.2.1.1
      unfold CnR at e
      have rm : ¬ XR X 25 1 4 < 6 := room
      have := dc.1; omega
    rw [ln_4 g hz.1 tc hz.2.1 c.2.2.1 hk]
    simp (disch := first | assumption | omega) only [fX12_tells, g_12_7, k_12, l_62, s_62, li_4, li_0, li_1, ob2, iI_add, Option.bind_some, li_2, li_6, li_8, li_30, li_38, li_46, full, r_bad g]
    rw [if_pos trivial]; rfl
