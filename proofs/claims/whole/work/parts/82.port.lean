/-! port, as a call -/
theorem op_port {f0 : Nat} {Y : YS} {X : XS} (h : Inv Y X) {p : Int} (rg_p : Rg p) {w : Int} (rg_w : Rg w) (hf : 2000 ≤ f0) : OPT Y X (fL_port f0 (Ad Y 11 0) (iI p) (iI w) (Ad Y 90 0)) (fX12_port f0 (Ad Y 12 0) (iI p) (iI w)) := by
  have g := h.1.1; have W := h.2.1
  have se := h.2.2.2.2.2.1; have hC := se.1; have hR := se.2.1
  have g6 := SeO_0 g
  have c0 := hC.1; have c3 := hC.2.1; have c4 := hC.2.2.1; have c5 := hC.2.2.2.1
  have e0 := hR.1.1; have e1 := hR.1.2.1; have e2 := hR.1.2.2.1; have e3 := hR.1.2.2.2.1
  have sh := h.2.2.2.2.2.2.2.2.1
  have p0 := sh.1 0 (by omega)
  have gk0 := ShO_k g p0
  have cd := sh.2.2.2.1.1; have rl := sh.2.2.2.1.2
  have cs : CShip X (XP X 0) 0 := cd
  have sf := inv_S se cd rl
  have Ws : WS (XR X 61 0) := fun i => W.2 61 0 i
  have WA : WF (sF X 12 0 0 0) := W_F W (by decide) (by decide)
  have z := Z61 (Y := Y) (X := sF X 12 0 0 0) (S := XR X 61 0) rfl
  have hP := inv_PostR se h.2.2.2.2.2.2.2.1
  have th := Inv_th h (v := 0) ⟨by decide, by decide⟩
  have rz : Rg (0 : Int) := ⟨by decide, by decide⟩
  have p1 := rg_p.1; have p2 := rg_p.2; have w1 := rg_w.1; have w2 := rg_w.2
  have f20 : 20 ≤ f0 := by omega
  have hq : QR (XR X 67 0) := hP.2.2
  have hs := rl.2.2.2.2.2.1
  have s0 := sf.2.2.1.1; have t0 := sf.2.2.1.2.1; have u7 := sf.2.2.1.2.2.2.2
  have zs := se.2.2.2.1.1
  have rg5 : Rg (5 : Int) := ⟨by decide, by decide⟩
  have d12 := sf.1
  by_cases c : (0 ≤ p ∧ p < XR X 61 0 0) ∧ (0 ≤ w ∧ w ≤ 5)
  · have cX : 0 ≤ p ∧ p < XR X 25 0 0 := by omega
    have f1 : XF X 10 (XP X 0) 1 = XR X 61 0 312 := rl.1.1
    have rd : Rg (XR X 61 0 312) := ⟨by omega, by omega⟩
    have c1 : ¬ w < 0 := by omega
    -- what both answer
    have main : ∃ V : Int, fX11_port f0 (Ad Y 11 0) (iI p) (iI w) (hp Y X) = some (some (iI V), hp Y X) ∧ ∀ Z, WF Z → XR Z 67 0 = XR X 67 0 → bX12_port_42 f0 f0 (Ad Y 12 0) (iI p) (iI w) (iI 0) (iI 0) (iI 0) (iI 0) (hp Y (sR Z 61 0 (XR X 61 0))) = some (iI V, hp Y (sR Z 61 0 (XR X 61 0))) := by
      have c88 : (8 : Int) ≤ 8 := by decide
      by_cases k0 : w = 0
      · subst k0
        refine ⟨((bs (kaB (XR X 67 0) (XR X 61 0) p (XR X 61 0 312)) (XR X 61 0 1).toNat : Nat) : Int), ?_, fun Z WZ hZ => ?_⟩
        · have be : bs (knB X (XP X 0) p (XF X 10 (XP X 0) 1)) (XR X 25 0 3).toNat = bs (kaB (XR X 67 0) (XR X 61 0) p (XR X 61 0 312)) (XR X 61 0 1).toNat := by
            rw [e1]
            refine bs_eq (fun i => ?_)
            by_cases q : i < (XR X 61 0 1).toNat
            · have kn : XR X 46 (XP X 0) (p * 8 + (i : Int)) = knA (XR X 67 0) (XR X 61 0) p i := rl.2.2.2.2.1 p i c.1.1 c.1.2 (by omega) (by omega)
              unfold knB kaB
              rw [kn, f1]
            · constructor <;> (intro v; exact absurd v.1 q)
          simp (disch := first | assumption | omega | exact W_fl W _ _ _ | exact W_fh W _ _ _ | exact W_rl W _ _ _ | exact W_rh W _ _ _ | exact WS_l Ws _ | exact WS_h Ws _) only [fX11_port, g_11_4, g_11_11, g_10_9, g_10_1, k_6, k_10, l_43, li_0, li_5, li_1, li_2, li_3, li_4, ob2, Option.bind_some, iI_add, e_has, bI_i0, ite_n, if_pos cX, iI_lt, iI_le, iI_eq, if_neg c1, if_pos c.2.2, if_true, e_namesKnownAt, be]
        · obtain ⟨f, _, e⟩ := r_port42 (f0 := f0) (Z := Z) (w := 0) g Ws (k := p) (by omega) (by omega) f20
          rw [e]
          have hq2 : QR (XR Z 67 0) := by rw [hZ]; exact hq
          have ka := r_knownAt (f0 := f0) (X := Z) g WZ Ws s0 t0 hq2 hs (p := p) (d := XR X 61 0 312) (by omega) (by omega) rd f20
          rw [hZ] at ka
          simp (disch := first | assumption | omega | exact W_fl W _ _ _ | exact W_fh W _ _ _ | exact W_rl W _ _ _ | exact W_rh W _ _ _ | exact WS_l Ws _ | exact WS_h Ws _) only [bX12_port_42, g_12_6, k_12, l61, li_0, li_1, li_8, li_312, li_2, li_320, li_3, li_4, li_136, li_31, ob2, iI_add, Option.bind_some, iI_le, iI_eq, if_pos c88, if_true, ka]
      by_cases k1 : w = 1
      · subst k1
        refine ⟨((bs (pB1 (XR X 61 0) p) 8 : Nat) : Int), ?_, fun Z WZ hZ => ?_⟩
        · have be : bs (wantB X 0 p) (XR X 25 0 3).toNat = bs (pB1 (XR X 61 0) p) 8 := by
            rw [e1]
            refine bs_eq (fun i => ?_)
            unfold wantB pB1
            simp only [decide_eq_true_eq]
            by_cases i8 : i < 8
            · have rr := (hR.2.1 ((i : Int) * 8 + p) (by omega) (by omega)).2.2.1
              rw [rr, show (i : Int) * 8 + p = 8 * i + p by omega]
              have zz := (zs i p (by omega) (by omega) (by omega) (by omega)).2.1
              constructor
              · intro v; exact ⟨i8, v.2⟩
              · intro v
                refine ⟨?_, v.2⟩
                apply Classical.byContradiction; intro nn
                have := zz (.inl (by omega)); omega
            · constructor <;> (intro v; have := v.1; omega)
          simp (disch := first | assumption | omega | exact W_fl W _ _ _ | exact W_fh W _ _ _ | exact W_rl W _ _ _ | exact W_rh W _ _ _ | exact WS_l Ws _ | exact WS_h Ws _) only [fX11_port, g_11_4, g_11_11, g_10_9, g_10_1, k_6, k_10, l_43, li_0, li_5, li_1, li_2, li_3, li_4, ob2, Option.bind_some, iI_add, e_has, bI_i0, ite_n, if_pos cX, iI_lt, iI_le, iI_eq, if_neg c1, if_pos c.2.2, if_neg k0, if_true, e_wantedAt, be]
        · obtain ⟨f, _, e⟩ := r_port42 (f0 := f0) (Z := Z) (w := 1) g Ws (k := p) (by omega) (by omega) f20
          rw [e]
          simp (disch := first | assumption | omega | exact W_fl W _ _ _ | exact W_fh W _ _ _ | exact W_rl W _ _ _ | exact W_rh W _ _ _ | exact WS_l Ws _ | exact WS_h Ws _) only [bX12_port_42, g_12_6, k_12, l61, li_0, li_1, li_8, li_312, li_2, li_320, li_3, li_4, li_136, li_31, ob2, iI_add, Option.bind_some, iI_le, iI_eq, if_pos c88, if_neg k0, if_true]
      by_cases k2 : w = 2
      · subst k2
        refine ⟨XR X 61 0 (320 + p), ?_, fun Z WZ hZ => ?_⟩
        · have rr : XR X 43 (XP X 0) p = XR X 61 0 (320 + p) := (rl.2.2.2.1 p (by omega) (by omega)).1
          simp (disch := first | assumption | omega | exact W_fl W _ _ _ | exact W_fh W _ _ _ | exact W_rl W _ _ _ | exact W_rh W _ _ _ | exact WS_l Ws _ | exact WS_h Ws _) only [fX11_port, g_11_4, g_11_11, g_10_9, g_10_1, k_6, k_10, l_43, li_0, li_5, li_1, li_2, li_3, li_4, ob2, Option.bind_some, iI_add, e_has, bI_i0, ite_n, if_pos cX, iI_lt, iI_le, iI_eq, if_neg c1, if_pos c.2.2, if_neg k0, if_neg k1, if_true, rr]
        · obtain ⟨f, _, e⟩ := r_port42 (f0 := f0) (Z := Z) (w := 2) g Ws (k := p) (by omega) (by omega) f20
          rw [e]
          simp (disch := first | assumption | omega | exact W_fl W _ _ _ | exact W_fh W _ _ _ | exact W_rl W _ _ _ | exact W_rh W _ _ _ | exact WS_l Ws _ | exact WS_h Ws _) only [bX12_port_42, g_12_6, k_12, l61, li_0, li_1, li_8, li_312, li_2, li_320, li_3, li_4, li_136, li_31, ob2, iI_add, Option.bind_some, iI_le, iI_eq, if_pos c88, if_neg k0, if_neg k1, if_true]
      by_cases k3 : w = 3
      · subst k3
        have rn := rel_rain hC hR (p := p) (t := XR X 61 0 312) (by omega) (by omega)
        unfold rnD at rn
        have c6 := hC.2.2.2.2.1
        by_cases q : anyB (raB (XR X 61 0) p (XR X 61 0 312)) (XR X 61 0 7).toNat = true
        · have q2 : anyB (rainB X 0 p (XR X 61 0 312)) (XR X 25 0 6).toNat = true := by rw [rn]; exact q
          refine ⟨1, ?_, fun Z WZ hZ => ?_⟩
          · simp (disch := first | assumption | omega | exact W_fl W _ _ _ | exact W_fh W _ _ _ | exact W_rl W _ _ _ | exact W_rh W _ _ _ | exact WS_l Ws _ | exact WS_h Ws _) only [fX11_port, g_11_4, g_11_11, g_10_9, g_10_1, k_6, k_10, l_43, li_0, li_5, li_1, li_2, li_3, li_4, ob2, Option.bind_some, iI_add, e_has, bI_i0, ite_n, if_pos cX, iI_lt, iI_le, iI_eq, if_neg c1, if_pos c.2.2, if_neg k0, if_neg k1, if_neg k2, if_true, f1, e_rainsAt, if_pos q2]
          · obtain ⟨f, _, e⟩ := r_port42 (f0 := f0) (Z := Z) (w := 3) g Ws (k := p) (by omega) (by omega) f20
            rw [e]
            have ra := r_isRain (f0 := f0) (X := Z) g WZ Ws u7 (p := p) (d := XR X 61 0 312) (by omega) (by omega) (by omega) (by omega) f20
            simp (disch := first | assumption | omega | exact W_fl W _ _ _ | exact W_fh W _ _ _ | exact W_rl W _ _ _ | exact W_rh W _ _ _ | exact WS_l Ws _ | exact WS_h Ws _) only [bX12_port_42, g_12_6, k_12, l61, li_0, li_1, li_8, li_312, li_2, li_320, li_3, li_4, li_136, li_31, ob2, iI_add, Option.bind_some, iI_le, iI_eq, if_pos c88, if_neg k0, if_neg k1, if_neg k2, if_true, ra, bI_i0, ite_n, if_pos q]
        · have q2 : ¬ anyB (rainB X 0 p (XR X 61 0 312)) (XR X 25 0 6).toNat = true := by rw [rn]; exact q
          refine ⟨0, ?_, fun Z WZ hZ => ?_⟩
          · simp (disch := first | assumption | omega | exact W_fl W _ _ _ | exact W_fh W _ _ _ | exact W_rl W _ _ _ | exact W_rh W _ _ _ | exact WS_l Ws _ | exact WS_h Ws _) only [fX11_port, g_11_4, g_11_11, g_10_9, g_10_1, k_6, k_10, l_43, li_0, li_5, li_1, li_2, li_3, li_4, ob2, Option.bind_some, iI_add, e_has, bI_i0, ite_n, if_pos cX, iI_lt, iI_le, iI_eq, if_neg c1, if_pos c.2.2, if_neg k0, if_neg k1, if_neg k2, if_true, f1, e_rainsAt, if_neg q2]
          · obtain ⟨f, _, e⟩ := r_port42 (f0 := f0) (Z := Z) (w := 3) g Ws (k := p) (by omega) (by omega) f20
            rw [e]
            have ra := r_isRain (f0 := f0) (X := Z) g WZ Ws u7 (p := p) (d := XR X 61 0 312) (by omega) (by omega) (by omega) (by omega) f20
            simp (disch := first | assumption | omega | exact W_fl W _ _ _ | exact W_fh W _ _ _ | exact W_rl W _ _ _ | exact W_rh W _ _ _ | exact WS_l Ws _ | exact WS_h Ws _) only [bX12_port_42, g_12_6, k_12, l61, li_0, li_1, li_8, li_312, li_2, li_320, li_3, li_4, li_136, li_31, ob2, iI_add, Option.bind_some, iI_le, iI_eq, if_pos c88, if_neg k0, if_neg k1, if_neg k2, if_true, ra, bI_i0, ite_n, if_neg q]
      by_cases k4 : w = 4
      · subst k4
        refine ⟨((bs (pB2 (XR X 61 0) p) 8 : Nat) : Int), ?_, fun Z WZ hZ => ?_⟩
        · have be : bs (wayB X 0 p) (XR X 25 0 0).toNat = bs (pB2 (XR X 61 0) p) 8 := by
            rw [e0]
            refine bs_eq (fun i => ?_)
            unfold wayB pB2
            simp only [decide_eq_true_eq]
            by_cases i8 : i < 8
            · have rr := (hR.2.1 (p * 8 + (i : Int)) (by omega) (by omega)).1
              rw [rr, show p * 8 + (i : Int) = 8 * p + i by omega]
              have zz := (zs p i (by omega) (by omega) (by omega) (by omega)).1
              constructor
              · intro v; exact ⟨i8, v.2⟩
              · intro v
                refine ⟨?_, v.2⟩
                apply Classical.byContradiction; intro nn
                have := (zz (.inr (by omega))).1; omega
            · constructor <;> (intro v; have := v.1; omega)
          simp (disch := first | assumption | omega | exact W_fl W _ _ _ | exact W_fh W _ _ _ | exact W_rl W _ _ _ | exact W_rh W _ _ _ | exact WS_l Ws _ | exact WS_h Ws _) only [fX11_port, g_11_4, g_11_11, g_10_9, g_10_1, k_6, k_10, l_43, li_0, li_5, li_1, li_2, li_3, li_4, ob2, Option.bind_some, iI_add, e_has, bI_i0, ite_n, if_pos cX, iI_lt, iI_le, iI_eq, if_neg c1, if_pos c.2.2, if_neg k0, if_neg k1, if_neg k2, if_neg k3, if_true, e_waysFrom, be]
        · obtain ⟨f, _, e⟩ := r_port42 (f0 := f0) (Z := Z) (w := 4) g Ws (k := p) (by omega) (by omega) f20
          rw [e]
          simp (disch := first | assumption | omega | exact W_fl W _ _ _ | exact W_fh W _ _ _ | exact W_rl W _ _ _ | exact W_rh W _ _ _ | exact WS_l Ws _ | exact WS_h Ws _) only [bX12_port_42, g_12_6, k_12, l61, li_0, li_1, li_8, li_312, li_2, li_320, li_3, li_4, li_136, li_31, ob2, iI_add, Option.bind_some, iI_le, iI_eq, if_pos c88, if_neg k0, if_neg k1, if_neg k2, if_neg k3, if_true]
      · refine ⟨((bs (pB3 (XR X 61 0) p) 8 : Nat) : Int), ?_, fun Z WZ hZ => ?_⟩
        · have be : bs (mailB X 0 p) (XR X 25 0 0).toNat = bs (pB3 (XR X 61 0) p) 8 := by
            rw [e0]
            refine bs_eq (fun i => ?_)
            unfold mailB pB3
            simp only [decide_eq_true_eq]
            by_cases i8 : i < 8
            · have rr := (hR.2.1 ((i : Int) * 8 + p) (by omega) (by omega)).2.1
              rw [rr, show (i : Int) * 8 + p = 8 * i + p by omega]
              have zz := (zs i p (by omega) (by omega) (by omega) (by omega)).1
              constructor
              · intro v; exact ⟨i8, v.2⟩
              · intro v
                refine ⟨?_, v.2⟩
                apply Classical.byContradiction; intro nn
                have := (zz (.inl (by omega))).2; omega
            · constructor <;> (intro v; have := v.1; omega)
          simp (disch := first | assumption | omega | exact W_fl W _ _ _ | exact W_fh W _ _ _ | exact W_rl W _ _ _ | exact W_rh W _ _ _ | exact WS_l Ws _ | exact WS_h Ws _) only [fX11_port, g_11_4, g_11_11, g_10_9, g_10_1, k_6, k_10, l_43, li_0, li_5, li_1, li_2, li_3, li_4, ob2, Option.bind_some, iI_add, e_has, bI_i0, ite_n, if_pos cX, iI_lt, iI_le, iI_eq, if_neg c1, if_pos c.2.2, if_neg k0, if_neg k1, if_neg k2, if_neg k3, if_neg k4, e_mailsTo, be]
        · obtain ⟨f, _, e⟩ := r_port42 (f0 := f0) (Z := Z) (w := w) g Ws (k := p) (by omega) (by omega) f20
          rw [e]
          simp (disch := first | assumption | omega | exact W_fl W _ _ _ | exact W_fh W _ _ _ | exact W_rl W _ _ _ | exact W_rh W _ _ _ | exact WS_l Ws _ | exact WS_h Ws _) only [bX12_port_42, g_12_6, k_12, l61, li_0, li_1, li_8, li_312, li_2, li_320, li_3, li_4, li_136, li_31, ob2, iI_add, Option.bind_some, iI_le, iI_eq, if_pos c88, if_neg k0, if_neg k1, if_neg k2, if_neg k3, if_neg k4]
    obtain ⟨V, cl, rf⟩ := main
    have zX := Z61 (Y := Y) (X := sJ X 90 0 (upi (XJ X 90 0) 0 (Int32.toInt64 (iI V)))) (S := XR X 61 0) rfl
    have W90 : WF (sF (sJ X 90 0 (upi (XJ X 90 0) 0 (Int32.toInt64 (iI V)))) 12 0 0 0) := WA
    refine ⟨0, sJ X 90 0 (upi (XJ X 90 0) 0 (Int32.toInt64 (iI V))), iI V, sF (sJ X 90 0 (upi (XJ X 90 0) 0 (Int32.toInt64 (iI V)))) 12 0 0 0, ?_, ?_, rfl, .inl rfl, fun _ => upi_eq (XJ X 90 0) 0 _, Inv_th (Inv_90 h) rz⟩
    · simp (disch := first | assumption | omega | exact W_fl W _ _ _ | exact W_fh W _ _ _ | exact W_rl W _ _ _ | exact W_rh W _ _ _ | exact WS_l Ws _ | exact WS_h Ws _) only [fL_port, k_11, li_0, li_1, Option.bind_some, iI_add, cl, s_90]
    · have ti := r_throwsIf (f0 := f0) (Y := Y) (X := sR (sJ X 90 0 (upi (XJ X 90 0) 0 (Int32.toInt64 (iI V)))) 61 0 (XR X 61 0)) g (c := False)
      rw [← bI_00] at ti
      have z3 := Z61 (Y := Y) (X := sF (sJ X 90 0 (upi (XJ X 90 0) 0 (Int32.toInt64 (iI V)))) 12 0 0 0) (S := XR X 61 0) rfl
      rw [zX, z3]
      simp (disch := first | assumption | omega | exact W_fl W _ _ _ | exact W_fh W _ _ _ | exact W_rl W _ _ _ | exact W_rh W _ _ _ | exact WS_l Ws _ | exact WS_h Ws _) only [fX12_port, bX12_port_23, k_12, li_0, li_5, ob2, Option.bind_some, iI_add, r_isPort, r_isIn, bI_i0, ite_n, if_pos c.1, if_pos c.2, ti, if_false, sF_sR, iI_eq, if_true, rf _ W90 rfl]
  · have cl : fX11_port f0 (Ad Y 11 0) (iI p) (iI w) (hp Y X) = some (none, hp Y X) := by
      by_cases a1 : 0 ≤ p ∧ p < XR X 25 0 0
      · by_cases a2 : w < 0
        · simp (disch := first | assumption | omega | exact W_fl W _ _ _ | exact W_fh W _ _ _ | exact W_rl W _ _ _ | exact W_rh W _ _ _ | exact WS_l Ws _ | exact WS_h Ws _) only [fX11_port, bX11_port_21, g_11_4, g_11_11, g_10_9, g_10_1, k_6, k_10, l_43, li_0, li_5, li_1, li_2, li_3, li_4, ob2, Option.bind_some, iI_add, e_has, bI_i0, ite_n, if_pos a1, iI_lt, if_pos a2]
        · have a3 : ¬ w ≤ 5 := fun q => c ⟨by omega, by omega⟩
          simp (disch := first | assumption | omega | exact W_fl W _ _ _ | exact W_fh W _ _ _ | exact W_rl W _ _ _ | exact W_rh W _ _ _ | exact WS_l Ws _ | exact WS_h Ws _) only [fX11_port, bX11_port_21, g_11_4, g_11_11, g_10_9, g_10_1, k_6, k_10, l_43, li_0, li_5, li_1, li_2, li_3, li_4, ob2, Option.bind_some, iI_add, e_has, bI_i0, ite_n, if_pos a1, iI_lt, iI_le, if_neg a2, if_neg a3]
      · simp (disch := first | assumption | omega | exact W_fl W _ _ _ | exact W_fh W _ _ _ | exact W_rl W _ _ _ | exact W_rh W _ _ _ | exact WS_l Ws _ | exact WS_h Ws _) only [fX11_port, bX11_port_21, g_11_4, g_11_11, g_10_9, g_10_1, k_6, k_10, l_43, li_0, li_5, li_1, li_2, li_3, li_4, ob2, Option.bind_some, iI_add, e_has, bI_i0, ite_n, if_neg a1]
    have zX := Z61 (Y := Y) (X := X) (S := XR X 61 0) rfl
    refine ⟨1, X, iI 0, sF X 12 0 0 1, ?_, ?_, rfl, .inr rfl, fun q => absurd q (by decide), Inv_th h ⟨by decide, by decide⟩⟩
    · simp (disch := first | assumption | omega | exact W_fl W _ _ _ | exact W_fh W _ _ _ | exact W_rl W _ _ _ | exact W_rh W _ _ _ | exact WS_l Ws _ | exact WS_h Ws _) only [fL_port, k_11, li_0, li_1, Option.bind_some, iI_add, cl]
    · have ti := r_throwsIf (f0 := f0) (Y := Y) (X := sR X 61 0 (XR X 61 0)) g (c := True)
      rw [← bI_1] at ti
      have n11 : ¬ (1 : Int) = 0 := by decide
      have z3 := Z61 (Y := Y) (X := sF X 12 0 0 1) (S := XR X 61 0) rfl
      rw [zX, z3]
      by_cases a : 0 ≤ p ∧ p < XR X 61 0 0
      · have b : ¬ (0 ≤ w ∧ w ≤ 5) := fun q => c ⟨a, q⟩
        simp (disch := first | assumption | omega | exact W_fl W _ _ _ | exact W_fh W _ _ _ | exact W_rl W _ _ _ | exact W_rh W _ _ _ | exact WS_l Ws _ | exact WS_h Ws _) only [fX12_port, bX12_port_23, bX12_port_18, k_12, li_0, li_5, ob2, li_1, Option.bind_some, iI_add, r_isPort, r_isIn, bI_i0, ite_n, if_pos a, if_neg b, ti, if_true, sF_sR, iI_eq, if_neg n11]
      · simp (disch := first | assumption | omega | exact W_fl W _ _ _ | exact W_fh W _ _ _ | exact W_rl W _ _ _ | exact W_rh W _ _ _ | exact WS_l Ws _ | exact WS_h Ws _) only [fX12_port, bX12_port_23, bX12_port_18, k_12, li_0, li_5, ob2, li_1, Option.bind_some, iI_add, r_isPort, bI_i0, ite_n, if_neg a, ti, if_true, sF_sR, iI_eq, if_neg n11]
