/-! A LINE OF RAIN -/
theorem r_rainL {f0 : Nat} {Y : YS} {Z : XS} (g : GY Y) (W : WF Z) {k d : Int} (k0 : 0 ≤ k) (k1 : k < 16) (hd : XF Z 12 0 14 = d) (hf : 200 ≤ f0) :
    ((∃ i, 0 ≤ i ∧ i < k ∧ XR Z 62 0 (280 + i) = XR Z 62 0 (280 + k) ∧ XR Z 62 0 (296 + i) = d) → bX12_readRain_86 f0 f0 (Ad Y 12 0) (iI k) (iI 0) (hp Y Z) = some (0, hp Y (rfR Z 3))) ∧
    ((∀ i, 0 ≤ i → i < k → ¬ (XR Z 62 0 (280 + i) = XR Z 62 0 (280 + k) ∧ XR Z 62 0 (296 + i) = d)) → ∀ Z5, fX12_next f0 (Ad Y 12 0) (hp Y (sR Z 62 0 (upi (XR Z 62 0) (296 + k) d))) = some (hp Y Z5) → bX12_readRain_86 f0 f0 (Ad Y 12 0) (iI k) (iI 0) (hp Y Z) = some (1, hp Y (sR Z5 62 0 (upi (XR Z5 62 0) 7 (XR Z5 62 0 7 + 1))))) := by
  have d1 := W_fl W 12 0 14; have d2 := W_fh W 12 0 14
  rw [hd] at d1 d2
  have go : ∀ (f : Nat) (i : Int), 0 ≤ i → i < k → ¬ (XR Z 62 0 (280 + i) = XR Z 62 0 (280 + k) ∧ XR Z 62 0 (296 + i) = d) → bX12_readRain_86 f0 (f + 1) (Ad Y 12 0) (iI k) (iI i) (hp Y Z) = bX12_readRain_86 f0 f (Ad Y 12 0) (iI k) (iI (i + 1)) (hp Y Z) := by
    intro f i i0 i1 ne
    have c : ¬ k ≤ i := by omega
    by_cases e : XR Z 62 0 (280 + i) = XR Z 62 0 (280 + k)
    · have e2 : ¬ XR Z 62 0 (296 + i) = d := fun z => ne ⟨e, z⟩
      simp (disch := first | assumption | omega | exact W_fl W _ _ _ | exact W_fh W _ _ _ | exact W_rl W _ _ _ | exact W_rh W _ _ _) only [bX12_readRain_86, bX12_readRain_137, g_12_7, g_12_14, k_12, l_62, s_62, li_0, li_1, li_296, li_7, li_280, li_3, ob2, iI_add, Option.bind_some, iI_le, iI_eq, if_neg c, if_pos e, hd, if_neg e2]
    · simp (disch := first | assumption | omega | exact W_fl W _ _ _ | exact W_fh W _ _ _ | exact W_rl W _ _ _ | exact W_rh W _ _ _) only [bX12_readRain_86, bX12_readRain_137, g_12_7, g_12_14, k_12, l_62, s_62, li_0, li_1, li_296, li_7, li_280, li_3, ob2, iI_add, Option.bind_some, iI_le, iI_eq, if_neg c, if_neg e]
  refine ⟨fun ⟨j, j0, j1, j2, j3⟩ => ?_, fun no Z5 z5 => ?_⟩
  · refine lp (fun f (i : Int) => bX12_readRain_86 f0 f (Ad Y 12 0) (iI k) (iI i) (hp Y Z)) (fun i => 0 ≤ i ∧ i ≤ j) (fun i => (16 - i).toNat) (fun r => r = _) ?_ f0 0 ⟨by omega, by omega⟩ (by show (16 - (0 : Int)).toNat < f0; omega)
    rintro f i ⟨i0, i1⟩
    by_cases q : XR Z 62 0 (280 + i) = XR Z 62 0 (280 + k) ∧ XR Z 62 0 (296 + i) = d
    · left
      have c : ¬ k ≤ i := by omega
      have q1 := q.1; have q2 := q.2
      simp (disch := first | assumption | omega | exact W_fl W _ _ _ | exact W_fh W _ _ _ | exact W_rl W _ _ _ | exact W_rh W _ _ _) only [bX12_readRain_86, g_12_7, g_12_14, k_12, l_62, s_62, li_0, li_1, li_296, li_7, li_280, li_3, ob2, iI_add, Option.bind_some, iI_le, iI_eq, if_neg c, if_pos q1, hd, if_pos q2, r_bad g]
      rfl
    · right
      have : i ≠ j := fun z => q (by rw [z]; exact ⟨j2, j3⟩)
      exact ⟨i + 1, go f i i0 (by omega) q, ⟨by omega, by omega⟩, by show (16 - (i + 1)).toNat < (16 - i).toNat; omega⟩
  · refine lp (fun f (i : Int) => bX12_readRain_86 f0 f (Ad Y 12 0) (iI k) (iI i) (hp Y Z)) (fun i => 0 ≤ i ∧ i ≤ k) (fun i => (16 - i).toNat) (fun r => r = _) ?_ f0 0 ⟨by omega, by omega⟩ (by show (16 - (0 : Int)).toNat < f0; omega)
    rintro f i ⟨i0, i1⟩
    by_cases c : k ≤ i
    · left
      simp (disch := first | assumption | omega | exact W_fl W _ _ _ | exact W_fh W _ _ _ | exact W_rl W _ _ _ | exact W_rh W _ _ _) only [bX12_readRain_86, g_12_7, g_12_14, k_12, l_62, s_62, li_0, li_1, li_296, li_7, li_280, li_3, ob2, iI_add, Option.bind_some, iI_le, iI_eq, if_pos c, hd, z5]
      exact zr_i1
    · right
      exact ⟨i + 1, go f i i0 (by omega) (no i i0 (by omega)), ⟨by omega, by omega⟩, by show (16 - (i + 1)).toNat < (16 - i).toNat; omega⟩
theorem L_6 {f0 : Nat} {Y : YS} {X : XS} (g : GY Y) (c : LC X) (hk : XF X 4 0 8 = 6) (hf : 2000 ≤ f0) : LineO f0 Y X := by
  have W := c.1; have tc := c.2.1; have dc := c.2.2.2.1
  have so := (key_1 tc (by rw [hk]; decide)).1
  have hs1 : isN 0 := .inl rfl
  have g1 := SeO_1 g
  by_cases room : ¬ XR X 25 1 6 < msK 6
  · have rc := rf_C W tc (k := 4) (by decide) (by decide)
    refine ⟨rfC X 4, .inl ⟨rl_full g W hk (by decide) (by decide) room, rc.1, rc.2.1, rc.2.2, fun Z hz => ?_⟩⟩
    have rr := rf_R hz.1 tc hz.2.1 (k := 4) (by decide) (by decide)
    refine ⟨rfR Z 4, ?_, rr.1, rr.2.1, rr.2.2⟩
    have full : XR Z 62 0 7 = 16 := by
      have e := hz.2.2.2.1.1
      unfold CnR at e
      have rm : ¬ XR X 25 1 6 < 16 := room
      have := dc.1; omega
    rw [ln_6 g hz.1 tc hz.2.1 c.2.2.1 hk]
    simp (disch := first | assumption | omega) only [fX12_readRain, g_12_7, g_12_18, g_12_11, g_12_14, k_12, l_62, s_62, li_7, li_16, li_4, li_0, li_30, li_280, li_2, li_99, li_1, ob2, iI_add, Option.bind_some, full, r_bad g]
    rw [if_pos trivial]; rfl
  have room : XR X 25 1 6 < msK 6 := Classical.byContradiction room
  have rm : XR X 25 1 6 < 16 := room
  have m0 : 0 ≤ XR X 25 1 6 := by have := dc.1; omega
  obtain ⟨X1, e1, r1, W1, t1, lt1, k1⟩ := j_step (f0 := f0) g W tc (by rw [so]; decide) hf
  have c1 : LC X1 := LC_rd c r1 W1 t1
  have rl : fX7_readLine f0 (Ad Y 7 0) (hp Y X) = bX7_readLine_81 f0 (Ad Y 7 0) (iI 6) (hp Y X) := rl_in g W hk (by decide) (by decide) room
  have rlF : ∀ X', fX7_readRain f0 (Ad Y 7 0) (hp Y X1) = some (0, hp Y X') → fX7_readLine f0 (Ad Y 7 0) (hp Y X) = some (0, hp Y X') := fun X' e => by
    rw [rl]
    simp (disch := first | assumption | omega | exact W_fl W _ _ _ | exact W_fh W _ _ _ | exact W_rl W _ _ _ | exact W_rh W _ _ _) only [bX7_readLine_81, fX7_readRest, g_7_0, g_7_1, g_6_1, k_4, k_7, l_25, s_25, li_0, li_6, li_1, ob2, iI_add, g_6_3, g_6_4, g_6_5, g_6_6, g_6_7, li_20, li_2, li_40, li_3, li_4, li_5, li_7, li_8, li_250, li_9, li_10, Option.bind_some, e1, iI_eq, Int.reduceEq, if_true, if_false, e]
    rfl
  have lst : ∀ Z, LR X Z → ∃ Z1, fX12_next f0 (Ad Y 12 0) (hp Y Z) = some (hp Y Z1) ∧ NxF Z Z1 ∧ LR X1 Z1 := fun Z hz => by
    obtain ⟨Z1, z1, n1, WZ1, tr1⟩ := k1 Z hz.1 hz.2.1
    exact ⟨Z1, z1, n1, LR_nx hz r1 n1 WZ1 tr1⟩
  have cnt : ∀ Z, LR X Z → ¬ XR Z 62 0 7 = 16 ∧ XR X 25 1 6 = XR Z 62 0 7 := fun Z hz => by
    have e := hz.2.2.2.1.1
    unfold CnR at e
    omega
  obtain ⟨p, X2, hA | hA⟩ := j_tn (f0 := f0) g c1 hs1 hf
  · obtain ⟨_, eA, WA, FA, faA, kA⟩ := hA
    refine ⟨X2, .inl ⟨rlF X2 ?_, WA, FrC_trans (FrC_rd r1) FA, faA, fun Z hz => ?_⟩⟩
    · simp (disch := first | assumption | omega) only [fX7_readRain, g_7_0, g_7_1, g_6_0, g_6_9, g_6_1, k_4, k_6, l_25, s_25, l_32, s_32, lm_1, li_0, li_1, li_99, li_6, li_100, li_3, ob2, iI_add, iI_mul, Option.bind_some, iI_neg, iI_neg, eA, if_true]
      rfl
    · obtain ⟨Z1, z1, n1, h1⟩ := lst Z hz
      obtain ⟨⟨Z2, z2, w2, f2, fa2⟩, _⟩ := kA Z1 h1
      refine ⟨Z2, ?_, w2, FrR_trans (FrR_nx n1) f2, fa2⟩
      have z2' : fX12_takesName f0 (Ad Y 12 0) (iI 30) (iI (XR Z1 62 0 0)) (hp Y Z1) = some (0, hp Y Z2) := z2
      have ne := (cnt Z hz).1; have w1 := W_rl hz.1 62 0 7; have w2 := W_rh hz.1 62 0 7
      rw [ln_6 g hz.1 tc hz.2.1 c.2.2.1 hk]
      simp (disch := first | assumption | omega) only [fX12_readRain, g_12_7, g_12_18, g_12_11, g_12_14, k_12, l_62, s_62, li_7, li_16, li_4, li_0, li_30, li_280, li_2, li_99, li_1, ob2, iI_add, Option.bind_some, iI_eq, if_neg ne, z1, z2', if_true]
      rfl
  obtain ⟨a0, eA, soA, sA, r2, c2, lt2, kA⟩ := hA
  have a8 : p < 8 := by
    have := (DC_nm c1.2.2.2.1 hs1).2.1; omega
  have na : ¬ p = -1 := by omega
  have W2 := c2.1
  have x225 : XR X2 25 1 = XR X 25 1 := by rw [r2.2.1, r1.2.1]
  /- the reference as far as the port is put down -/
  have lst2 : ∀ Z, LR X Z → ∃ Z1 Z2, fX12_next f0 (Ad Y 12 0) (hp Y Z) = some (hp Y Z1) ∧ fX12_takesName f0 (Ad Y 12 0) (iI 30) (iI (XR Z1 62 0 0)) (hp Y Z1) = some (1, hp Y Z2) ∧ LR X2 Z2 ∧ FrR Z Z2 ∧ XF Z2 12 0 18 = p ∧ XR Z2 62 0 = XR Z 62 0 := fun Z hz => by
    obtain ⟨Z1, z1, n1, h1⟩ := lst Z hz
    obtain ⟨_, _, Z2, _, tn, n2, h2, f2, g18, z62⟩ := kA Z1 h1
    exact ⟨Z1, Z2, z1, tn, h2, FrR_trans (FrR_nx n1) f2, g18, z62.trans (by rw [n1.2.1])⟩
  have z3w : ∀ Z Z2, LR X Z → LR X2 Z2 → XR Z2 62 0 = XR Z 62 0 → WF (sR Z2 62 0 (upi (XR Z 62 0) (280 + XR Z 62 0 7) p)) ∧ TokR X2 (sR Z2 62 0 (upi (XR Z 62 0) (280 + XR Z 62 0 7) p)) := fun Z Z2 hz h2 q => ⟨W_R h2.1 fun i => by
    rw [upi_at]; split
    · exact ⟨by omega, by omega⟩
    · exact hz.1.2 _ _ _, TokR_s RdS_refl ⟨fun _ _ => rfl, rfl, rfl⟩ h2.2.1⟩
  obtain ⟨d, X3, e3, hN | hN⟩ := j_num (f0 := f0) g W2 c2.2.1 (lo := 0) (hi := 99) (by decide) (by decide) (by decide)
  · obtain ⟨v1, W3, F3, fa3, y2, y1, _⟩ := hN
    have e3' : fX4_lookNumber f0 (Ad Y 4 0) (iI 0) (iI 99) (hp Y X2) = some (iI (-1), hp Y X3) := by rw [← v1]; exact e3
    refine ⟨X3, .inl ⟨rlF X3 ?_, W3, FrC_trans (FrC_rd (Rd_trans r1 r2)) F3, fa3, fun Z hz => ?_⟩⟩
    · simp (disch := first | assumption | omega) only [fX7_readRain, g_7_0, g_7_1, g_6_0, g_6_9, g_6_1, k_4, k_6, l_25, s_25, l_32, s_32, lm_1, li_0, li_1, li_99, li_6, li_100, li_3, ob2, iI_add, iI_mul, Option.bind_some, iI_neg, iI_neg, eA, iI_eq, if_neg na, sA, e3', if_true]
      rfl
    · obtain ⟨Z1, Z2, z1, tn, h2, f2, g18, q62⟩ := lst2 Z hz
      obtain ⟨w3, tr3⟩ := z3w Z Z2 hz h2 q62
      obtain ⟨Z3, hZ3⟩ : ∃ Z3, Z3 = sR Z2 62 0 (upi (XR Z 62 0) (280 + XR Z 62 0 7) p) := ⟨_, rfl⟩
      rw [← hZ3] at w3 tr3
      have fr3 : FrR Z Z3 := by rw [hZ3]; exact FrR_R f2 (by decide)
      have ce := cnt Z hz
      have ne := ce.1; have w1 := W_rl hz.1 62 0 7; have w2 := W_rh hz.1 62 0 7
      have t1 := W_fl w3 12 0 11; have t2 := W_fh w3 12 0 11
      by_cases s2 : XF X2 4 0 5 = 2
      · have rr := rf_R w3 c2.2.1 tr3 (k := 2) (by decide) (by decide)
        refine ⟨rfR Z3 2, ?_, rr.1, FrR_trans fr3 rr.2.1, by rw [(y2 s2).2]; exact rr.2.2⟩
        have tk : XF Z3 12 0 11 = 2 := by rw [tk_2 c2.2.1 tr3]; exact s2
        have nu := (tr3.2.2.2.2.2.1 s2).2
        have vr : 0 ≤ XF X2 4 0 9 ∧ XF X2 4 0 9 ≤ 999 := by
          rcases c2.2.1.2.2.2.2 with k | k | k | k | k
          · omega
          · omega
          · exact k.2.2
          · omega
          · have := k.1; omega
        have big : ¬ XF X2 4 0 9 ≤ 99 := fun z => (y2 s2).1 ⟨vr.1, z⟩
        rw [ln_6 g hz.1 tc hz.2.1 c.2.2.1 hk]
        simp (maxSteps := 4000000) (disch := first | assumption | omega) only [fX12_readRain, g_12_7, g_12_18, g_12_11, g_12_14, k_12, l_62, s_62, li_7, li_16, li_4, li_0, li_30, li_280, li_2, li_99, li_1, ob2, iI_add, Option.bind_some, iI_eq, iI_le, Int.reduceEq, if_false, if_neg ne, z1, tn, g18, q62, ← hZ3, if_pos tk, nu, if_neg big, r_bad g]
        rfl
      · have rr := rf_R w3 c2.2.1 tr3 (k := 1) (by decide) (by decide)
        refine ⟨rfR Z3 1, ?_, rr.1, FrR_trans fr3 rr.2.1, by rw [y1 s2]; exact rr.2.2⟩
        have tk : ¬ XF Z3 12 0 11 = 2 := by rw [tk_2 c2.2.1 tr3]; exact s2
        rw [ln_6 g hz.1 tc hz.2.1 c.2.2.1 hk]
        simp (maxSteps := 4000000) (disch := first | assumption | omega) only [fX12_readRain, g_12_7, g_12_18, g_12_11, g_12_14, k_12, l_62, s_62, li_7, li_16, li_4, li_0, li_30, li_280, li_2, li_99, li_1, ob2, iI_add, Option.bind_some, iI_eq, iI_le, Int.reduceEq, if_false, if_neg ne, z1, tn, g18, q62, ← hZ3, if_neg tk, r_bad g]
        rfl
  obtain ⟨vr, e3x, so3, v9, _⟩ := hN
  rw [e3x] at e3
  have nd : ¬ d = -1 := by omega
  have ra := e_rainsAt (f0 := f0) (X := X2) g1 W2 (p := p) (d := d) a0.1 a8 vr.1 (by omega) (by rw [x225]; omega) (by omega)
  /- the reference comes to its loop -/
  have lst3 : ∀ Z, LR X Z → ∃ Z2 Z3, LR X2 Z2 ∧ FrR Z Z2 ∧ XR Z2 62 0 = XR Z 62 0 ∧ Z3 = sR Z2 62 0 (upi (XR Z 62 0) (280 + XR Z 62 0 7) p) ∧ WF Z3 ∧ TokR X2 Z3 ∧ XF Z3 12 0 14 = d ∧ fX12_line f0 (Ad Y 12 0) (hp Y Z) = ob2 (bX12_readRain_86 f0 f0 (Ad Y 12 0) (iI (XR Z 62 0 7)) (iI 0) (hp Y Z3)) (fun x h => zr x h) := fun Z hz => by
    obtain ⟨Z1, Z2, z1, tn, h2, f2, g18, q62⟩ := lst2 Z hz
    obtain ⟨w3, tr3⟩ := z3w Z Z2 hz h2 q62
    obtain ⟨Z3, hZ3⟩ : ∃ Z3, Z3 = sR Z2 62 0 (upi (XR Z 62 0) (280 + XR Z 62 0 7) p) := ⟨_, rfl⟩
    rw [← hZ3] at w3 tr3
    have ce := cnt Z hz
    have ne := ce.1; have w1 := W_rl hz.1 62 0 7; have w2 := W_rh hz.1 62 0 7
    have tk : XF Z3 12 0 11 = 2 := by rw [tk_2 c2.2.1 tr3]; exact so3
    have nu : XF Z3 12 0 14 = d := ((tr3.2.2.2.2.2.1 so3).2).trans v9
    have sm : d ≤ 99 := vr.2
    refine ⟨Z2, Z3, h2, f2, q62, hZ3, w3, tr3, nu, ?_⟩
    rw [ln_6 g hz.1 tc hz.2.1 c.2.2.1 hk]
    simp (maxSteps := 4000000) (disch := first | assumption | omega) only [fX12_readRain, g_12_7, g_12_18, g_12_11, g_12_14, k_12, l_62, s_62, li_7, li_16, li_4, li_0, li_30, li_280, li_2, li_99, li_1, ob2, iI_add, Option.bind_some, iI_eq, iI_le, Int.reduceEq, if_false, if_neg ne, z1, tn, g18, q62, ← hZ3, if_pos tk, nu, if_pos sm]
  have mt : ∀ Z Z3, LR X Z → Z3 = sR Z3 62 0 (upi (XR Z 62 0) (280 + XR Z 62 0 7) p) → ∀ i, 0 ≤ i → i < XR Z 62 0 7 → ((XR Z3 62 0 (280 + i) = XR Z3 62 0 (280 + XR Z 62 0 7) ∧ XR Z3 62 0 (296 + i) = d) ↔ rainB X2 1 p d i = true) := fun Z Z3 hz e i i0 i1 => by
    have ce := (cnt Z hz).2
    have q : XR Z3 62 0 = upi (XR Z 62 0) (280 + XR Z 62 0 7) p := by rw [e]; rfl
    have t := hz.2.2.2.1.2.1.2.2.2 i i0 i1
    have x32 : XR X2 32 1 i = XR X 32 1 i := by rw [r2.2.1, r1.2.1]
    rw [q, upi_eq, upi_at, if_neg (by omega), upi_at, if_neg (by omega)]
    unfold rainB
    rw [decide_eq_true_eq, x32, t.1, show d % 100 = d by omega]
    omega
  by_cases told : anyB (rainB X2 1 p d) (XR X2 25 1 6).toNat = true
  · have rc := rf_C W2 c2.2.1 (k := 3) (by decide) (by decide)
    refine ⟨rfC X2 3, .inl ⟨rlF _ ?_, rc.1, FrC_trans (FrC_rd (Rd_trans r1 r2)) rc.2.1, rc.2.2, fun Z hz => ?_⟩⟩
    · simp (maxSteps := 4000000) (disch := first | assumption | omega) only [fX7_readRain, g_7_0, g_7_1, g_6_0, g_6_9, g_6_1, k_4, k_6, l_25, s_25, l_32, s_32, lm_1, li_0, li_1, li_99, li_6, li_100, li_3, ob2, iI_add, iI_mul, Option.bind_some, iI_neg, iI_neg, eA, iI_eq, if_neg na, sA, e3, if_neg nd, ra, bI_i0, ite_n, if_pos told, e_refuse g]
      rfl
    · obtain ⟨Z2, Z3, h2, f2, q62, hZ3, w3, tr3, nu, le⟩ := lst3 Z hz
      have rr := rf_R w3 c2.2.1 tr3 (k := 3) (by decide) (by decide)
      refine ⟨rfR Z3 3, ?_, rr.1, FrR_trans (by rw [hZ3]; exact FrR_R f2 (by decide)) rr.2.1, rr.2.2⟩
      have ce := (cnt Z hz).2
      have m := mt Z Z3 hz (by rw [hZ3, sR_sR])
      obtain ⟨i, i1, i2⟩ := (anyB_iff _ _).mp told
      rw [x225] at i1
      rw [le, (r_rainL (f0 := f0) g w3 (k := XR Z 62 0 7) (by omega) (by omega) nu (by omega)).1 ⟨i, by omega, by omega, (m i (by omega) (by omega)).mpr i2⟩]
      rfl
  obtain ⟨X4, hX4⟩ : ∃ X4, X4 = sR X2 32 1 (upi (XR X2 32 1) (XR X2 25 1 6) (p * 100 + d)) := ⟨_, rfl⟩
  have sd4 : RdS X2 X4 := by rw [hX4]; exact ⟨fun _ => rfl, rfl, rfl, rfl⟩
  have W4 : WF X4 := by rw [hX4]; exact W_u W2 (by omega) (by omega)
  obtain ⟨X5, e5, r5, W5, t5, lt5, k5⟩ := j_step (f0 := f0) g W4 (TokC_s sd4 c2.2.1) (by rw [sd4.1, so3]; decide) hf
  have D5 := DrS_rd r5
  have dc4 : DC X4 := by
    rw [hX4]
    obtain ⟨h1, h2, h3, h4, h5, h6⟩ := c2.2.2.2.1
    exact ⟨h1, h2, h3, h4, h5, h6⟩
  have dc5 : DC X5 := DC_s D5 dc4
  have x525 : XR X5 25 1 = XR X 25 1 := by rw [D5.1, hX4]; exact x225
  obtain ⟨X6, hX6⟩ : ∃ X6, X6 = sR X5 25 1 (upi (XR X5 25 1) 6 (XR X5 25 1 6 + 1)) := ⟨_, rfl⟩
  have sd6 : RdS X5 X6 := by rw [hX6]; exact ⟨fun _ => rfl, rfl, rfl, rfl⟩
  have W6 : WF X6 := by
    rw [hX6, x525]; refine W_R W5 fun i => ?_
    rw [upi_at]; split
    · exact ⟨by omega, by omega⟩
    · exact W.2 _ _ _
  have f10 : XF X6 4 0 10 = 0 := by rw [sd6.1, r5.1 4 0 10 (by omega), sd4.1]; exact c2.2.2.2.2
  have rs6 : RsC X6 := fun i hi => by rw [sd6.2.2.1, r5.2.2.1 21 0 (by omega), sd4.2.2.1]; exact c2.2.2.1 i hi
  have dc6 : DC X6 := by rw [hX6]; exact DC_cn dc5 (by decide) (by rw [x525]; exact room)
  have x26 : XR X6 26 1 = XR X 26 1 := by rw [hX6]; show XR X5 26 1 = _; rw [r5.2.1, hX4]; show XR X2 26 1 = _; rw [r2.2.1, r1.2.1]
  refine ⟨X6, .inr ⟨?_, ⟨W6, TokC_s sd6 t5, rs6, dc6, f10⟩, by rw [hX6]; exact FrC_R (FrC_trans (by rw [hX4]; exact FrC_R (FrC_rd (Rd_trans r1 r2)) (by decide)) (FrC_rd r5)) (by decide), Sy_e x26, by rw [sd6.1]; rw [sd4.1] at lt5; omega, fun Z hz => ?_⟩⟩
  · rw [rl, hX6]
    have m1 : 0 ≤ XR X2 25 1 6 ∧ XR X2 25 1 6 < 16 := by rw [x225]; exact ⟨m0, rm⟩
    have m2 := m1.1; have m3 := m1.2
    have rr : fX7_readRain f0 (Ad Y 7 0) (hp Y X1) = some (1, hp Y X5) := by
      simp (maxSteps := 4000000) (disch := first | assumption | omega) only [fX7_readRain, g_7_0, g_7_1, g_6_0, g_6_9, g_6_1, k_4, k_6, l_25, s_25, l_32, s_32, lm_1, li_0, li_1, li_99, li_6, li_100, li_3, ob2, iI_add, iI_mul, Option.bind_some, iI_neg, iI_neg, eA, iI_eq, if_neg na, sA, e3, if_neg nd, ra, bI_i0, ite_n, if_neg told, ← hX4, e5]
      exact zr_i1
    simp (disch := first | assumption | omega) only [bX7_readLine_81, fX7_readRest, g_7_0, g_7_1, g_6_1, k_4, k_7, l_25, s_25, li_0, li_6, li_1, ob2, iI_add, g_6_3, g_6_4, g_6_5, g_6_6, g_6_7, li_20, li_2, li_40, li_3, li_4, li_5, li_7, li_8, li_250, li_9, li_10, Option.bind_some, e1, iI_eq, iI_lt, Int.reduceEq, Int.reduceLT, if_true, if_false, rr, zr_i1]
  · obtain ⟨Z2, Z3, h2, f2, q62, hZ3, w3, tr3, nu, le⟩ := lst3 Z hz
    have ce := (cnt Z hz).2
    have m := mt Z Z3 hz (by rw [hZ3, sR_sR])
    obtain ⟨H3, hH3⟩ : ∃ H3, H3 = XR Z3 62 0 := ⟨_, rfl⟩
    have q3 : XR Z3 62 0 = upi (XR Z 62 0) (280 + XR Z 62 0 7) p := by rw [hZ3]; rfl
    obtain ⟨Z4, hZ4⟩ : ∃ Z4, Z4 = sR Z3 62 0 (upi (XR Z3 62 0) (296 + XR Z 62 0 7) d) := ⟨_, rfl⟩
    have wz4 : WF Z4 := by rw [hZ4]; exact W_u w3 (by omega) (by omega)
    obtain ⟨Z5, z5, n5, wz5, tr5⟩ := k5 Z4 wz4 (TokR_s sd4 (by rw [hZ4]; exact ⟨fun _ _ => rfl, rfl, rfl⟩) tr3)
    have q5 : XR Z5 62 0 = upi (upi (XR Z 62 0) (280 + XR Z 62 0 7) p) (296 + XR Z 62 0 7) d := by rw [n5.2.1, hZ4, q3]; rfl
    have q57 : XR Z5 62 0 7 = XR Z 62 0 7 := by rw [q5, upi_at, if_neg (by omega), upi_at, if_neg (by omega)]
    have lo := (r_rainL (f0 := f0) g w3 (k := XR Z 62 0 7) (by omega) (by omega) nu (by omega)).2 (fun i i0 i1 z => told ((anyB_iff _ _).mpr ⟨i.toNat, by rw [x225]; omega, by rw [show ((i.toNat : Nat) : Int) = i by omega]; exact (m i i0 i1).mp z⟩)) Z5 (by rw [← hZ4]; exact z5)
    obtain ⟨Z6, hZ6⟩ : ∃ Z6, Z6 = sR Z5 62 0 (upi (XR Z5 62 0) 7 (XR Z5 62 0 7 + 1)) := ⟨_, rfl⟩
    rw [← hZ6] at lo
    have q6 : XR Z6 62 0 = upi (upi (upi (XR Z 62 0) (280 + XR Z 62 0 7) p) (296 + XR Z 62 0 7) d) 7 (XR Z 62 0 7 + 1) := by rw [hZ6]; show upi (XR Z5 62 0) 7 (XR Z5 62 0 7 + 1) = _; rw [q57, q5]
    have o : ∀ j, (j < 280 ∧ j ≠ 7) → XR Z6 62 0 j = XR Z 62 0 j := fun j hj => by rw [q6, upi_at, if_neg (by omega), upi_at, if_neg (by omega), upi_at, if_neg (by omega)]
    have D2 := hz.2.2.2.1
    refine ⟨Z6, by rw [le, lo]; exact zr_i1, ⟨?_, TokR_s sd6 (by rw [hZ6]; exact ⟨fun _ _ => rfl, rfl, rfl⟩) tr5, fun i hi => ?_, ⟨?_, ?_, ?_, ?_⟩, ?_, ?_⟩, ?_⟩
    · rw [hZ6]; exact W_u wz5 (by omega) (by omega)
    · have : XJ Z6 65 0 = XJ Z2 65 0 := by rw [hZ6]; show XJ Z5 65 0 = _; rw [n5.2.2.1 65 0 (by omega), hZ4, hZ3]; rfl
      rw [this]; exact h2.2.2.1 i hi
    · have h := D2.1
      have e6 : XF X6 6 1 2 = XF X 6 1 2 := by rw [hX6]; show XF X5 6 1 2 = _; rw [r5.1 6 1 2 (by omega), hX4]; show XF X2 6 1 2 = _; rw [r2.1 6 1 2 (by omega), r1.1 6 1 2 (by omega)]
      have e25 : XR X6 25 1 = upi (XR X 25 1) 6 (XR X 25 1 6 + 1) := by rw [hX6, ← x525]; rfl
      have z7 : XR Z6 62 0 7 = XR Z 62 0 7 + 1 := by rw [q6, upi_eq]
      unfold CnR at *
      rw [e25, e6, o 0 (by omega), o 1 (by omega), o 2 (by omega), o 3 (by omega), o 4 (by omega), o 5 (by omega), o 6 (by omega), z7]
      simp only [upi_at]
      simp
      omega
    · obtain ⟨u1, u2, u3, u4⟩ := D2.2.1
      have xt : ∀ t, t ≠ 25 → t ≠ 32 → XR X6 t 1 = XR X t 1 := fun t h1 h2 => by
        rw [hX6, XR_sR, if_neg (by omega), r5.2.1, hX4, XR_sR, if_neg (by omega), r2.2.1, r1.2.1]
      have x32 : XR X6 32 1 = upi (XR X 32 1) (XR X 25 1 6) (p * 100 + d) := by
        rw [hX6]; show XR X5 32 1 = _; rw [r5.2.1, hX4]; show upi (XR X2 32 1) (XR X2 25 1 6) (p * 100 + d) = _; rw [x225, r2.2.1, r1.2.1]
      refine ⟨fun j j0 j1 => ?_, fun j j0 j1 => ?_, fun s t s0 s1 t0 t1 => ?_, fun j j0 j1 => ?_⟩
      · rw [xt 26 (by decide) (by decide), xt 27 (by decide) (by decide), xt 28 (by decide) (by decide), xt 29 (by decide) (by decide), o (8 + j) (by omega), o (72 + j) (by omega), o (136 + j) (by omega), o (200 + j) (by omega)]
        exact u1 j j0 j1
      · rw [xt 31 (by decide) (by decide), o (264 + j) (by omega), o (272 + j) (by omega)]; exact u2 j j0 j1
      · rw [xt 30 (by decide) (by decide), o (264 + s) (by omega)]; exact u3 s t s0 s1 t0 t1
      · have z7 : XR Z6 62 0 7 = XR Z 62 0 7 + 1 := by rw [q6, upi_eq]
        rw [z7] at j1
        rw [x32, q6, upi_at]
        by_cases k : j = XR X 25 1 6
        · rw [if_pos k, upi_at, if_neg (by omega), upi_at, if_neg (by omega), upi_at, if_pos (by omega), upi_at, if_neg (by omega), upi_at, if_pos (by omega)]
          omega
        · rw [if_neg k, upi_at, if_neg (by omega), upi_at, if_neg (by omega), upi_at, if_neg (by omega), upi_at, if_neg (by omega), upi_at, if_neg (by omega), upi_at, if_neg (by omega)]
          exact u4 j j0 (by omega)
    · have zs := D2.2.2.1
      refine ⟨fun x y x0 x1 y0 y1 => ?_, fun s s0 s1 r hr => ?_⟩
      · rw [o 0 (by omega), o 1 (by omega), o (8 + (8 * x + y)) (by omega), o (72 + (8 * x + y)) (by omega), o (136 + (8 * x + y)) (by omega), o (8 + (8 * y + x)) (by omega)]
        exact zs.1 x y x0 x1 y0 y1
      · rw [o (264 + s) (by omega)] at hr
        rw [o 2 (by omega)]; exact zs.2 s s0 s1 r hr
    · rw [hZ6, hX6]; show XF Z5 12 0 20 = XF X5 7 0 2
      rw [n5.1 12 0 20 (by omega), hZ4, hZ3, r5.1 7 0 2 (by omega), hX4]; show XF Z2 12 0 20 = XF X2 7 0 2; exact h2.2.2.2.1.2.2.2
    · have d1 := NamI_S9 (S' := XR Z6 62 0) (fun j j0 j3 => by rw [o j (by omega), q62]) h2.2.2.2.2.1
      have d3 : DN X4 Z2 (XR Z6 62 0) := by rw [hX4]; exact d1
      have d5 : DN X5 Z6 (XR Z6 62 0) := DN_s D5 (by rw [hZ6]; show XJ Z5 64 0 = _; rw [n5.2.2.1 64 0 (by omega), hZ4, hZ3]; rfl) d3
      have : DN X6 Z6 (XR Z6 62 0) := by
        have a1 : XR X6 23 1 = XR X5 23 1 := by rw [hX6]; rfl
        have a2 : XR X6 24 1 = XR X5 24 1 := by rw [hX6]; rfl
        have a3 : XJ X6 22 1 = XJ X5 22 1 := by rw [hX6]; rfl
        have a4 : XF X6 3 1 3 = XF X5 3 1 3 := by rw [hX6]; rfl
        unfold DN; rw [a1, a2, a3, a4]; exact d5
      exact this
    · rw [hZ6]; show XF Z5 12 0 15 = 0; rw [n5.1 12 0 15 (by omega), hZ4, hZ3]; exact h2.2.2.2.2.2
    · rw [hZ6]; refine FrR_R (FrR_trans ?_ (FrR_nx n5)) (by decide)
      rw [hZ4, hZ3]; exact FrR_R (FrR_R f2 (by decide)) (by decide)
