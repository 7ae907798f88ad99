/-! net; end -/
abbrev OPT (Y : YS) (X : XS) (c : Hp → Option (Int32 × Hp)) (m : Hp → Option (Int32 × Hp)) : Prop := ∃ (t : Int) (X1 : XS) (v : Int32) (X2 : XS), c (hp Y X) = some (iI t, hp Y X1) ∧ m (hp Y X1) = some (v, hp Y X2) ∧ XF X2 12 0 0 = t ∧ (t = 0 ∨ t = 1) ∧ (t = 0 → XJ X2 90 0 0 = Int32.toInt64 v) ∧ Inv Y X2
theorem Inv_90 {Y : YS} {X : XS} (h : Inv Y X) {r : Int → Int64} : Inv Y (sJ X 90 0 r) := ⟨h.1, h.2.1, h.2.2⟩
theorem r_throwsIf {f0 : Nat} {Y : YS} {X : XS} (g : GY Y) {c : Prop} [Decidable c] : fX12_throwsIf f0 (Ad Y 12 0) (bI c) (hp Y X) = some (bI c, hp Y (sF X 12 0 0 (if c then 1 else 0))) := by
  by_cases q : c
  · rw [bI_T q, if_pos q, li_1]
    have n1 : ¬ (1 : Int) = 0 := by decide
    simp (disch := first | assumption | omega) only [fX12_throwsIf, bX12_throwsIf_10, li_0, li_1, p_12_0, Option.bind_some, iI_add, iI_eq, if_neg n1, zr_i1]
  · rw [bI_F q, if_neg q, li_0]
    simp (disch := first | assumption | omega) only [fX12_throwsIf, bX12_throwsIf_10, li_0, li_1, p_12_0, Option.bind_some, iI_add, iI_eq, if_true, zr_i0]
theorem bI_1 : iI 1 = bI True := rfl
theorem bI_00 : iI 0 = bI False := rfl
def ntS (S : Int → Int) (s : Int) : Nat → Int
  | 0 => 0
  | n + 1 => ntS S s n + (owS S s n - S (136 + (8 * s + n)))
theorem op_net {f0 : Nat} {Y : YS} {X : XS} (h : Inv Y X) {s : Int} (rg_s : Rg s) (hf : 2000 ≤ f0) : OPT Y X (fL_net f0 (Ad Y 11 0) (iI s) (Ad Y 90 0)) (fX12_net f0 (Ad Y 12 0) (iI s)) := by
  have g := h.1.1; have W := h.2.1
  have se := h.2.2.2.2.2.1; have hC := se.1; have hR := se.2.1
  have g6 := SeO_0 g
  have c0 := hC.1; have c3 := hC.2.1; have c4 := hC.2.2.1; have c5 := hC.2.2.2.1
  have e0 := hR.1.1; have e1 := hR.1.2.1; have e2 := hR.1.2.2.1; have e3 := hR.1.2.2.2.1
  have sh := h.2.2.2.2.2.2.2.2.1
  have p0 := sh.1 0 (by omega)
  have gk0 := ShO_k g p0
  have cd := sh.2.2.2.1.1; have rl := sh.2.2.2.1.2
  have cs : CShip X (XP X 0) 0 := cd
  have sf := inv_S se cd rl
  have Ws : WS (XR X 61 0) := fun i => W.2 61 0 i
  have WA : WF (sF X 12 0 0 0) := W_F W (by decide) (by decide)
  have z := Z61 (Y := Y) (X := sF X 12 0 0 0) (S := XR X 61 0) rfl
  have hP := inv_PostR se h.2.2.2.2.2.2.2.1
  have th := Inv_th h (v := 0) ⟨by decide, by decide⟩
  have rz : Rg (0 : Int) := ⟨by decide, by decide⟩
  have s1 := rg_s.1; have s2 := rg_s.2
  by_cases c : 0 ≤ s ∧ s < XR X 25 0 3
  · have cS : 0 ≤ s ∧ s < XR X 61 0 1 := by omega
    have cl : fX11_net f0 (Ad Y 11 0) (iI s) (hp Y X) = some (some (iI (ntS (XR X 61 0) s (XR X 61 0 0).toNat)), hp Y X) := by
      have st : fX11_net f0 (Ad Y 11 0) (iI s) (hp Y X) = bX11_net_24 f0 f0 (Ad Y 11 0) (iI s) (iI (ntS (XR X 61 0) s 0)) (iI ((0 : Nat) : Int)) (hp Y X) := by
        simp (disch := first | assumption | omega | exact W_fl W _ _ _ | exact W_fh W _ _ _ | exact W_rl W _ _ _ | exact W_rh W _ _ _ | exact WS_l Ws _ | exact WS_h Ws _) only [fX11_net, g_11_4, k_6, li_3, li_0, ob2, Option.bind_some, iI_add, e_has, bI_i0, ite_n, if_pos c]
        rfl
      rw [st]
      refine lp (fun f (i : Nat) => bX11_net_24 f0 f (Ad Y 11 0) (iI s) (iI (ntS (XR X 61 0) s i)) (iI (i : Int)) (hp Y X)) (fun i => (i : Int) ≤ XR X 25 0 0) (fun i => 9 - i) (fun r => r = _) ?_ f0 0 (by omega) (by omega)
      intro f i hi
      by_cases e : XR X 25 0 0 ≤ (i : Int)
      · left
        simp (disch := first | assumption | omega | exact W_fl W _ _ _ | exact W_fh W _ _ _ | exact W_rl W _ _ _ | exact W_rh W _ _ _ | exact WS_l Ws _ | exact WS_h Ws _) only [bX11_net_24, g_11_4, g_6_1, g_11_11, g_6_5, k_10, l_25, l_28, li_0, li_1, li_8, ob2, iI_add, iI_mul, iI_sub, Option.bind_some, iI_le, if_pos e]
        rw [show (XR X 61 0 0).toNat = i by omega]
      · right
        refine ⟨i + 1, ?_, by omega, by omega⟩
        have oo : owA X (XP X 0) s i = owS (XR X 61 0) s i := rel_ow hR rl (by omega) (by omega) (by omega) (by omega)
        have rr := (hR.2.1 (s * 8 + i) (by omega) (by omega)).2.2.1
        have rr2 : XR X 28 0 (s * 8 + (i : Int)) = XR X 61 0 (136 + (8 * s + (i : Int))) := by rw [rr, show s * 8 + (i : Int) = 8 * s + i by omega]
        rw [ntS]
        simp (disch := first | assumption | omega | exact W_fl W _ _ _ | exact W_fh W _ _ _ | exact W_rl W _ _ _ | exact W_rh W _ _ _ | exact WS_l Ws _ | exact WS_h Ws _) only [bX11_net_24, g_11_4, g_6_1, g_11_11, g_6_5, k_10, l_25, l_28, li_0, li_1, li_8, ob2, iI_add, iI_mul, iI_sub, Option.bind_some, iI_le, if_neg e, e_owedTo, oo, rr2]
        rfl
    have rf : ∀ Z, WF Z → bX12_net_26 f0 f0 (Ad Y 12 0) (iI s) (iI 0) (iI 0) (hp Y (sR Z 61 0 (XR X 61 0))) = some (iI (ntS (XR X 61 0) s (XR X 61 0 0).toNat), hp Y (sR Z 61 0 (XR X 61 0))) := by
      intro Z W
      have st : bX12_net_26 f0 f0 (Ad Y 12 0) (iI s) (iI 0) (iI 0) (hp Y (sR Z 61 0 (XR X 61 0))) = bX12_net_26 f0 f0 (Ad Y 12 0) (iI s) (iI (ntS (XR X 61 0) s 0)) (iI ((0 : Nat) : Int)) (hp Y (sR Z 61 0 (XR X 61 0))) := rfl
      rw [st]
      refine lp (fun f (i : Nat) => bX12_net_26 f0 f (Ad Y 12 0) (iI s) (iI (ntS (XR X 61 0) s i)) (iI (i : Int)) (hp Y (sR Z 61 0 (XR X 61 0)))) (fun i => (i : Int) ≤ XR X 61 0 0) (fun i => 9 - i) (fun r => r = _) ?_ f0 0 (by omega) (by omega)
      intro f i hi
      by_cases e : XR X 61 0 0 ≤ (i : Int)
      · left
        simp (disch := first | assumption | omega | exact W_fl W _ _ _ | exact W_fh W _ _ _ | exact W_rl W _ _ _ | exact W_rh W _ _ _ | exact WS_l Ws _ | exact WS_h Ws _) only [bX12_net_26, g_12_6, k_12, l61, li_0, li_1, li_136, ob2, iI_add, iI_sub, Option.bind_some, iI_le, if_pos e]
        rw [show (XR X 61 0 0).toNat = i by omega]
      · right
        refine ⟨i + 1, ?_, by omega, by omega⟩
        rw [ntS]
        simp (disch := first | assumption | omega | exact W_fl W _ _ _ | exact W_fh W _ _ _ | exact W_rl W _ _ _ | exact W_rh W _ _ _ | exact WS_l Ws _ | exact WS_h Ws _) only [bX12_net_26, g_12_6, k_12, l61, li_0, li_1, li_136, ob2, iI_add, iI_sub, Option.bind_some, iI_le, if_neg e, r_owed, r_cell]
        rfl
    have zX := Z61 (Y := Y) (X := sJ X 90 0 (upi (XJ X 90 0) 0 (Int32.toInt64 (iI (ntS (XR X 61 0) s (XR X 61 0 0).toNat))))) (S := XR X 61 0) rfl
    refine ⟨0, sJ X 90 0 (upi (XJ X 90 0) 0 (Int32.toInt64 (iI (ntS (XR X 61 0) s (XR X 61 0 0).toNat)))), iI (ntS (XR X 61 0) s (XR X 61 0 0).toNat), sF (sJ X 90 0 (upi (XJ X 90 0) 0 (Int32.toInt64 (iI (ntS (XR X 61 0) s (XR X 61 0 0).toNat))))) 12 0 0 0, ?_, ?_, rfl, .inl rfl, fun _ => ?_, Inv_th (Inv_90 h) rz⟩
    · simp (disch := first | assumption | omega | exact W_fl W _ _ _ | exact W_fh W _ _ _ | exact W_rl W _ _ _ | exact W_rh W _ _ _ | exact WS_l Ws _ | exact WS_h Ws _) only [fL_net, k_11, li_0, li_1, Option.bind_some, iI_add, cl, s_90]
    · have ti := r_throwsIf (f0 := f0) (Y := Y) (X := sR (sJ X 90 0 (upi (XJ X 90 0) 0 (Int32.toInt64 (iI (ntS (XR X 61 0) s (XR X 61 0 0).toNat))))) 61 0 (XR X 61 0)) g (c := False)
      rw [← bI_00] at ti
      have z3 := Z61 (Y := Y) (X := sF (sJ X 90 0 (upi (XJ X 90 0) 0 (Int32.toInt64 (iI (ntS (XR X 61 0) s (XR X 61 0 0).toNat))))) 12 0 0 0) (S := XR X 61 0) rfl
      rw [zX, z3]
      simp (disch := first | assumption | omega | exact W_fl W _ _ _ | exact W_fh W _ _ _ | exact W_rl W _ _ _ | exact W_rh W _ _ _ | exact WS_l Ws _ | exact WS_h Ws _) only [fX12_net, bX12_net_14, k_12, li_0, li_1, ob2, Option.bind_some, iI_add, r_isShip, bI_i0, ite_n, if_pos cS, ti, if_false, sF_sR, iI_eq, if_true, rf _ (show WF (sF (sJ X 90 0 (upi (XJ X 90 0) 0 (Int32.toInt64 (iI (ntS (XR X 61 0) s (XR X 61 0 0).toNat))))) 12 0 0 0) from WA)]
    · exact upi_eq (XJ X 90 0) 0 _
  · have cS : ¬ (0 ≤ s ∧ s < XR X 61 0 1) := by omega
    have cl : fX11_net f0 (Ad Y 11 0) (iI s) (hp Y X) = some (none, hp Y X) := by
      simp (disch := first | assumption | omega | exact W_fl W _ _ _ | exact W_fh W _ _ _ | exact W_rl W _ _ _ | exact W_rh W _ _ _ | exact WS_l Ws _ | exact WS_h Ws _) only [fX11_net, g_11_4, k_6, li_3, li_0, ob2, Option.bind_some, iI_add, e_has, bI_i0, ite_n, if_neg c]
    have zX := Z61 (Y := Y) (X := X) (S := XR X 61 0) rfl
    refine ⟨1, X, iI 0, sF X 12 0 0 1, ?_, ?_, rfl, .inr rfl, fun q => absurd q (by decide), Inv_th h ⟨by decide, by decide⟩⟩
    · simp (disch := first | assumption | omega | exact W_fl W _ _ _ | exact W_fh W _ _ _ | exact W_rl W _ _ _ | exact W_rh W _ _ _ | exact WS_l Ws _ | exact WS_h Ws _) only [fL_net, k_11, li_0, li_1, Option.bind_some, iI_add, cl]
    · have ti := r_throwsIf (f0 := f0) (Y := Y) (X := sR X 61 0 (XR X 61 0)) g (c := True)
      rw [← bI_1] at ti
      have z3 := Z61 (Y := Y) (X := sF X 12 0 0 1) (S := XR X 61 0) rfl
      have n1 : ¬ (1 : Int) = 0 := by decide
      rw [zX, z3]
      simp (disch := first | assumption | omega | exact W_fl W _ _ _ | exact W_fh W _ _ _ | exact W_rl W _ _ _ | exact W_rh W _ _ _ | exact WS_l Ws _ | exact WS_h Ws _) only [fX12_net, bX12_net_14, k_12, li_0, li_1, ob2, Option.bind_some, iI_add, r_isShip, bI_i0, ite_n, if_neg cS, ti, if_true, sF_sR, iI_eq, if_neg n1]
theorem Inv_tap {Y : YS} {X : XS} (h : Inv Y X) {r : Int → Int} {n : Int} (hr : ∀ i, -128 ≤ r i ∧ r i < 128) (n0 : 0 ≤ n) (n1 : n ≤ 940) : Inv Y (sF (sR (sF (sF (sR X 20 0 r) 11 0 1 n) 12 0 0 0) 60 0 r) 12 0 2 n) := by
  obtain ⟨g, W, t, re, fl, se, na, po, sh, sn, lo, i0, i1⟩ := h
  refine ⟨g, W_F (W_R (W_F (W_F (W_R W (fun i => ⟨by have := hr i; omega, by have := hr i; omega⟩)) (by omega) (by omega)) (by decide) (by decide)) (fun i => ⟨by have := hr i; omega, by have := hr i; omega⟩)) (by omega) (by omega), ⟨fun i _ _ => ⟨rfl, hr i⟩, ⟨n0, n1⟩, rfl⟩, re, fl, se, na, po, sh, sn, lo, i0, i1⟩
theorem op_end {f0 : Nat} {Y : YS} {X : XS} (h : Inv Y X) {n : Int} (rg_n : Rg n) : ∃ v X1 X2, fX11_end f0 (Ad Y 11 0) (iI n) (hp Y X) = some (v, hp Y X1) ∧ fX12_end f0 (Ad Y 12 0) (iI n) (hp Y X1) = some (v, hp Y X2) ∧ Inv Y X2 := by
  have g := h.1.1; have W := h.2.1
  have se := h.2.2.2.2.2.1; have hC := se.1; have hR := se.2.1
  have g6 := SeO_0 g
  have c0 := hC.1; have c3 := hC.2.1; have c4 := hC.2.2.1; have c5 := hC.2.2.2.1
  have e0 := hR.1.1; have e1 := hR.1.2.1; have e2 := hR.1.2.2.1; have e3 := hR.1.2.2.2.1
  have sh := h.2.2.2.2.2.2.2.2.1
  have p0 := sh.1 0 (by omega)
  have gk0 := ShO_k g p0
  have cd := sh.2.2.2.1.1; have rl := sh.2.2.2.1.2
  have cs : CShip X (XP X 0) 0 := cd
  have sf := inv_S se cd rl
  have Ws : WS (XR X 61 0) := fun i => W.2 61 0 i
  have WA : WF (sF X 12 0 0 0) := W_F W (by decide) (by decide)
  have z := Z61 (Y := Y) (X := sF X 12 0 0 0) (S := XR X 61 0) rfl
  have hP := inv_PostR se h.2.2.2.2.2.2.2.1
  have th := Inv_th h (v := 0) ⟨by decide, by decide⟩
  have rz : Rg (0 : Int) := ⟨by decide, by decide⟩
  have n1 := rg_n.1; have n2 := rg_n.2
  have t := h.2.2.1
  obtain ⟨t1, t2, t3⟩ := t
  have f2 : XF (sF X 12 0 0 0) 12 0 2 = XF X 12 0 2 := rfl
  have f2' : XF (sF (sF X 11 0 1 n) 12 0 0 0) 12 0 2 = XF X 12 0 2 := rfl
  by_cases c : n < 0
  · refine ⟨iI 0, X, sF X 12 0 0 0, ?_, ?_, th⟩
    · simp (disch := first | assumption | omega | exact W_fl W _ _ _ | exact W_fh W _ _ _ | exact W_rl W _ _ _ | exact W_rh W _ _ _ | exact WS_l Ws _ | exact WS_h Ws _) only [fX11_end, g_11_1, p_11_1, li_0, li_1, Option.bind_some, iI_add, iI_lt, if_pos c, zr_i0]
    · simp (disch := first | assumption | omega | exact W_fl W _ _ _ | exact W_fh W _ _ _ | exact W_rl W _ _ _ | exact W_rh W _ _ _ | exact WS_l Ws _ | exact WS_h Ws _) only [fX12_end, g_12_2, p_12_0, p_12_2, li_0, li_1, Option.bind_some, iI_add, iI_lt, if_pos c, zr_i0]
  · by_cases a : n ≤ XF X 11 0 1
    · have a' : n ≤ XF X 12 0 2 := by omega
      refine ⟨iI 1, sF X 11 0 1 n, sF (sF (sF X 11 0 1 n) 12 0 0 0) 12 0 2 n, ?_, ?_, ?_⟩
      · simp (disch := first | assumption | omega | exact W_fl W _ _ _ | exact W_fh W _ _ _ | exact W_rl W _ _ _ | exact W_rh W _ _ _ | exact WS_l Ws _ | exact WS_h Ws _) only [fX11_end, g_11_1, p_11_1, li_0, li_1, Option.bind_some, iI_add, iI_lt, iI_le, if_neg c, if_pos a, zr_i1]
      · simp (disch := first | assumption | omega | exact W_fl W _ _ _ | exact W_fh W _ _ _ | exact W_rl W _ _ _ | exact W_rh W _ _ _ | exact WS_l Ws _ | exact WS_h Ws _) only [fX12_end, g_12_2, p_12_0, p_12_2, li_0, li_1, Option.bind_some, iI_add, iI_lt, iI_le, if_neg c, f2', if_pos a', zr_i1]
      · obtain ⟨g', W', t', re, fl, se', na, po, sh', sn, lo, i0, i1⟩ := h
        exact ⟨g', W_F (W_F (W_F W' n1 n2) (by decide) (by decide)) n1 n2, ⟨t'.1, ⟨by show 0 ≤ n; omega, by show n ≤ 940; omega⟩, rfl⟩, re, fl, se', na, po, sh', sn, lo, i0, i1⟩
    · have a' : ¬ n ≤ XF X 12 0 2 := by omega
      refine ⟨iI 0, X, sF X 12 0 0 0, ?_, ?_, th⟩
      · simp (disch := first | assumption | omega | exact W_fl W _ _ _ | exact W_fh W _ _ _ | exact W_rl W _ _ _ | exact W_rh W _ _ _ | exact WS_l Ws _ | exact WS_h Ws _) only [fX11_end, g_11_1, p_11_1, li_0, li_1, Option.bind_some, iI_add, iI_lt, iI_le, if_neg c, if_neg a, zr_i0]
      · simp (disch := first | assumption | omega | exact W_fl W _ _ _ | exact W_fh W _ _ _ | exact W_rl W _ _ _ | exact W_rh W _ _ _ | exact WS_l Ws _ | exact WS_h Ws _) only [fX12_end, g_12_2, p_12_0, p_12_2, li_0, li_1, Option.bind_some, iI_add, iI_lt, iI_le, if_neg c, f2, if_neg a', zr_i0]
