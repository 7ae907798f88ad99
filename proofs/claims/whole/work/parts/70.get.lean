/-! WHAT IS ASKED: the plain answers -/
theorem op_fault {f0 : Nat} {Y : YS} {X : XS} (h : Inv Y X) : ∃ v X1 X2, fX11_fault f0 (Ad Y 11 0)  (hp Y X) = some (v, hp Y X1) ∧ fX12_fault f0 (Ad Y 12 0)  (hp Y X1) = some (v, hp Y X2) ∧ Inv Y X2 := by
  have g := h.1.1; have W := h.2.1
  have se := h.2.2.2.2.2.1; have hC := se.1; have hR := se.2.1
  have g6 := SeO_0 g
  have c0 := hC.1; have c3 := hC.2.1; have c4 := hC.2.2.1; have c5 := hC.2.2.2.1
  have e0 := hR.1.1; have e1 := hR.1.2.1; have e2 := hR.1.2.2.1; have e3 := hR.1.2.2.2.1
  have sh := h.2.2.2.2.2.2.2.2.1
  have p0 := sh.1 0 (by omega)
  have gk0 := ShO_k g p0
  have cd := sh.2.2.2.1.1; have rl := sh.2.2.2.1.2
  have cs : CShip X (XP X 0) 0 := cd
  have sf := inv_S se cd rl
  have Ws : WS (XR X 61 0) := fun i => W.2 61 0 i
  have WA : WF (sF X 12 0 0 0) := W_F W (by decide) (by decide)
  have z := Z61 (Y := Y) (X := sF X 12 0 0 0) (S := XR X 61 0) rfl
  have hP := inv_PostR se h.2.2.2.2.2.2.2.1
  have th := Inv_th h (v := 0) ⟨by decide, by decide⟩
  have rz : Rg (0 : Int) := ⟨by decide, by decide⟩
  have fl := h.2.2.2.2.1
  have f15 : XF (sF X 12 0 0 0) 12 0 15 = XF X 12 0 15 := rfl
  refine ⟨iI (XF X 11 0 3), X, sF X 12 0 0 0, ?_, ?_, th⟩
  · simp (disch := first | assumption | omega) only [fX11_fault, g_11_3, Option.bind_some, iI_add]
  · simp (disch := first | assumption | omega) only [fX12_fault, g_12_15, p_12_0, li_0, Option.bind_some, iI_add, f15, fl]
theorem hp2 {p q n : Int} : (0 ≤ p ∧ p < n ∧ 0 ≤ q ∧ q < n) ↔ ((0 ≤ p ∧ p < n) ∧ (0 ≤ q ∧ q < n)) := by omega
theorem op_way {f0 : Nat} {Y : YS} {X : XS} (h : Inv Y X) {p : Int} (rg_p : Rg p) {q : Int} (rg_q : Rg q) : ∃ v X1 X2, fX11_way f0 (Ad Y 11 0) (iI p) (iI q) (hp Y X) = some (v, hp Y X1) ∧ fX12_way f0 (Ad Y 12 0) (iI p) (iI q) (hp Y X1) = some (v, hp Y X2) ∧ Inv Y X2 := by
  have g := h.1.1; have W := h.2.1
  have se := h.2.2.2.2.2.1; have hC := se.1; have hR := se.2.1
  have g6 := SeO_0 g
  have c0 := hC.1; have c3 := hC.2.1; have c4 := hC.2.2.1; have c5 := hC.2.2.2.1
  have e0 := hR.1.1; have e1 := hR.1.2.1; have e2 := hR.1.2.2.1; have e3 := hR.1.2.2.2.1
  have sh := h.2.2.2.2.2.2.2.2.1
  have p0 := sh.1 0 (by omega)
  have gk0 := ShO_k g p0
  have cd := sh.2.2.2.1.1; have rl := sh.2.2.2.1.2
  have cs : CShip X (XP X 0) 0 := cd
  have sf := inv_S se cd rl
  have Ws : WS (XR X 61 0) := fun i => W.2 61 0 i
  have WA : WF (sF X 12 0 0 0) := W_F W (by decide) (by decide)
  have z := Z61 (Y := Y) (X := sF X 12 0 0 0) (S := XR X 61 0) rfl
  have hP := inv_PostR se h.2.2.2.2.2.2.2.1
  have th := Inv_th h (v := 0) ⟨by decide, by decide⟩
  have rz : Rg (0 : Int) := ⟨by decide, by decide⟩
  have p1 := rg_p.1; have p2 := rg_p.2; have q1 := rg_q.1; have q2 := rg_q.2
  by_cases c : 0 ≤ p ∧ p < XR X 25 0 0 ∧ 0 ≤ q ∧ q < XR X 25 0 0
  · have cp : 0 ≤ p ∧ p < XR X 61 0 0 := by omega
    have cq : 0 ≤ q ∧ q < XR X 61 0 0 := by omega
    have rr := hR.2.1 (p * 8 + q) (by omega) (by omega)
    have zs := se.2.2.2.1.1 p q (by omega) (by omega) (by omega) (by omega)
    have wy := sf.2.2.2.2.1 (8 * p + q) (by omega) (by omega)
    have rr1 : XR X 26 0 (p * 8 + q) = XR X 61 0 (8 + (8 * p + q)) := by rw [show p * 8 + q = 8 * p + q by omega] at rr ⊢; first | exact rr.1 | exact rr.2.1
    have lo : 0 ≤ XR X 61 0 (8 + (8 * p + q)) := by omega
    by_cases a : XR X 61 0 (8 + (8 * p + q)) = 0
    · have a' : XR X 61 0 (8 + (8 * p + q)) ≤ 0 := by omega
      refine ⟨iI (-1), X, sF X 12 0 0 0, ?_, ?_, th⟩
      · simp (disch := first | assumption | omega | exact W_fl W _ _ _ | exact W_fh W _ _ _ | exact W_rl W _ _ _ | exact W_rh W _ _ _ | exact WS_l Ws _ | exact WS_h Ws _) only [fX11_way, fX11_orNone, g_11_4, g_6_3, k_6, l_26, lm_1, li_0, li_1, li_8, ob2, iI_add, iI_mul, Option.bind_some, iI_neg, e_hasPorts, bI_i0, ite_n, if_pos c, rr1, iI_eq, if_pos a, iI_neg]
      · simp (disch := first | assumption | omega | exact W_fl W _ _ _ | exact W_fh W _ _ _ | exact W_rl W _ _ _ | exact W_rh W _ _ _ | exact WS_l Ws _ | exact WS_h Ws _) only [fX12_way, fX12_told, p_12_0, k_12, li_0, li_8, ob2, g_12_6, l61, lm_1, li_1, iI_add, Option.bind_some, iI_neg, z, r_isPort, bI_i0, ite_n, if_pos cp, if_pos cq, r_cell, iI_le, if_pos a', iI_neg]
    · have a' : ¬ XR X 61 0 (8 + (8 * p + q)) ≤ 0 := by omega
      refine ⟨iI (XR X 61 0 (8 + (8 * p + q))), X, sF X 12 0 0 0, ?_, ?_, th⟩
      · simp (disch := first | assumption | omega | exact W_fl W _ _ _ | exact W_fh W _ _ _ | exact W_rl W _ _ _ | exact W_rh W _ _ _ | exact WS_l Ws _ | exact WS_h Ws _) only [fX11_way, fX11_orNone, g_11_4, g_6_3, k_6, l_26, lm_1, li_0, li_1, li_8, ob2, iI_add, iI_mul, Option.bind_some, iI_neg, e_hasPorts, bI_i0, ite_n, if_pos c, rr1, iI_eq, if_neg a]
      · simp (disch := first | assumption | omega | exact W_fl W _ _ _ | exact W_fh W _ _ _ | exact W_rl W _ _ _ | exact W_rh W _ _ _ | exact WS_l Ws _ | exact WS_h Ws _) only [fX12_way, fX12_told, p_12_0, k_12, li_0, li_8, ob2, g_12_6, l61, lm_1, li_1, iI_add, Option.bind_some, iI_neg, z, r_isPort, bI_i0, ite_n, if_pos cp, if_pos cq, r_cell, iI_le, if_neg a']
  · refine ⟨iI (-1), X, sF X 12 0 0 0, ?_, ?_, th⟩
    · simp (disch := first | assumption | omega | exact W_fl W _ _ _ | exact W_fh W _ _ _ | exact W_rl W _ _ _ | exact W_rh W _ _ _ | exact WS_l Ws _ | exact WS_h Ws _) only [fX11_way, g_11_4, g_6_3, k_6, l_26, lm_1, li_0, li_1, li_8, ob2, iI_add, iI_mul, Option.bind_some, iI_neg, e_hasPorts, bI_i0, ite_n, if_neg c, iI_neg]
    · by_cases cp : 0 ≤ p ∧ p < XR X 61 0 0
      · have cq : ¬ (0 ≤ q ∧ q < XR X 61 0 0) := by omega
        simp (disch := first | assumption | omega | exact W_fl W _ _ _ | exact W_fh W _ _ _ | exact W_rl W _ _ _ | exact W_rh W _ _ _ | exact WS_l Ws _ | exact WS_h Ws _) only [fX12_way, fX12_told, p_12_0, k_12, li_0, li_8, ob2, g_12_6, l61, lm_1, li_1, iI_add, Option.bind_some, iI_neg, z, r_isPort, bI_i0, ite_n, if_pos cp, if_neg cq, iI_neg]
      · simp (disch := first | assumption | omega | exact W_fl W _ _ _ | exact W_fh W _ _ _ | exact W_rl W _ _ _ | exact W_rh W _ _ _ | exact WS_l Ws _ | exact WS_h Ws _) only [fX12_way, fX12_told, p_12_0, k_12, li_0, li_8, ob2, g_12_6, l61, lm_1, li_1, iI_add, Option.bind_some, iI_neg, z, r_isPort, bI_i0, ite_n, if_neg cp, iI_neg]
theorem op_mail {f0 : Nat} {Y : YS} {X : XS} (h : Inv Y X) {p : Int} (rg_p : Rg p) {q : Int} (rg_q : Rg q) : ∃ v X1 X2, fX11_mail f0 (Ad Y 11 0) (iI p) (iI q) (hp Y X) = some (v, hp Y X1) ∧ fX12_mail f0 (Ad Y 12 0) (iI p) (iI q) (hp Y X1) = some (v, hp Y X2) ∧ Inv Y X2 := by
  have g := h.1.1; have W := h.2.1
  have se := h.2.2.2.2.2.1; have hC := se.1; have hR := se.2.1
  have g6 := SeO_0 g
  have c0 := hC.1; have c3 := hC.2.1; have c4 := hC.2.2.1; have c5 := hC.2.2.2.1
  have e0 := hR.1.1; have e1 := hR.1.2.1; have e2 := hR.1.2.2.1; have e3 := hR.1.2.2.2.1
  have sh := h.2.2.2.2.2.2.2.2.1
  have p0 := sh.1 0 (by omega)
  have gk0 := ShO_k g p0
  have cd := sh.2.2.2.1.1; have rl := sh.2.2.2.1.2
  have cs : CShip X (XP X 0) 0 := cd
  have sf := inv_S se cd rl
  have Ws : WS (XR X 61 0) := fun i => W.2 61 0 i
  have WA : WF (sF X 12 0 0 0) := W_F W (by decide) (by decide)
  have z := Z61 (Y := Y) (X := sF X 12 0 0 0) (S := XR X 61 0) rfl
  have hP := inv_PostR se h.2.2.2.2.2.2.2.1
  have th := Inv_th h (v := 0) ⟨by decide, by decide⟩
  have rz : Rg (0 : Int) := ⟨by decide, by decide⟩
  have p1 := rg_p.1; have p2 := rg_p.2; have q1 := rg_q.1; have q2 := rg_q.2
  by_cases c : 0 ≤ p ∧ p < XR X 25 0 0 ∧ 0 ≤ q ∧ q < XR X 25 0 0
  · have cp : 0 ≤ p ∧ p < XR X 61 0 0 := by omega
    have cq : 0 ≤ q ∧ q < XR X 61 0 0 := by omega
    have rr := hR.2.1 (p * 8 + q) (by omega) (by omega)
    have zs := se.2.2.2.1.1 p q (by omega) (by omega) (by omega) (by omega)
    have wy := sf.2.2.2.2.1 (8 * p + q) (by omega) (by omega)
    have rr1 : XR X 27 0 (p * 8 + q) = XR X 61 0 (72 + (8 * p + q)) := by rw [show p * 8 + q = 8 * p + q by omega] at rr ⊢; first | exact rr.1 | exact rr.2.1
    have lo : 0 ≤ XR X 61 0 (72 + (8 * p + q)) := by omega
    by_cases a : XR X 61 0 (72 + (8 * p + q)) = 0
    · have a' : XR X 61 0 (72 + (8 * p + q)) ≤ 0 := by omega
      refine ⟨iI (-1), X, sF X 12 0 0 0, ?_, ?_, th⟩
      · simp (disch := first | assumption | omega | exact W_fl W _ _ _ | exact W_fh W _ _ _ | exact W_rl W _ _ _ | exact W_rh W _ _ _ | exact WS_l Ws _ | exact WS_h Ws _) only [fX11_mail, fX11_orNone, g_11_4, g_6_4, k_6, l_27, lm_1, li_0, li_1, li_8, ob2, iI_add, iI_mul, Option.bind_some, iI_neg, e_hasPorts, bI_i0, ite_n, if_pos c, rr1, iI_eq, if_pos a, iI_neg]
      · simp (disch := first | assumption | omega | exact W_fl W _ _ _ | exact W_fh W _ _ _ | exact W_rl W _ _ _ | exact W_rh W _ _ _ | exact WS_l Ws _ | exact WS_h Ws _) only [fX12_mail, fX12_told, p_12_0, k_12, li_0, li_72, ob2, g_12_6, l61, lm_1, li_1, iI_add, Option.bind_some, iI_neg, z, r_isPort, bI_i0, ite_n, if_pos cp, if_pos cq, r_cell, iI_le, if_pos a', iI_neg]
    · have a' : ¬ XR X 61 0 (72 + (8 * p + q)) ≤ 0 := by omega
      refine ⟨iI (XR X 61 0 (72 + (8 * p + q))), X, sF X 12 0 0 0, ?_, ?_, th⟩
      · simp (disch := first | assumption | omega | exact W_fl W _ _ _ | exact W_fh W _ _ _ | exact W_rl W _ _ _ | exact W_rh W _ _ _ | exact WS_l Ws _ | exact WS_h Ws _) only [fX11_mail, fX11_orNone, g_11_4, g_6_4, k_6, l_27, lm_1, li_0, li_1, li_8, ob2, iI_add, iI_mul, Option.bind_some, iI_neg, e_hasPorts, bI_i0, ite_n, if_pos c, rr1, iI_eq, if_neg a]
      · simp (disch := first | assumption | omega | exact W_fl W _ _ _ | exact W_fh W _ _ _ | exact W_rl W _ _ _ | exact W_rh W _ _ _ | exact WS_l Ws _ | exact WS_h Ws _) only [fX12_mail, fX12_told, p_12_0, k_12, li_0, li_72, ob2, g_12_6, l61, lm_1, li_1, iI_add, Option.bind_some, iI_neg, z, r_isPort, bI_i0, ite_n, if_pos cp, if_pos cq, r_cell, iI_le, if_neg a']
  · refine ⟨iI (-1), X, sF X 12 0 0 0, ?_, ?_, th⟩
    · simp (disch := first | assumption | omega | exact W_fl W _ _ _ | exact W_fh W _ _ _ | exact W_rl W _ _ _ | exact W_rh W _ _ _ | exact WS_l Ws _ | exact WS_h Ws _) only [fX11_mail, g_11_4, g_6_4, k_6, l_27, lm_1, li_0, li_1, li_8, ob2, iI_add, iI_mul, Option.bind_some, iI_neg, e_hasPorts, bI_i0, ite_n, if_neg c, iI_neg]
    · by_cases cp : 0 ≤ p ∧ p < XR X 61 0 0
      · have cq : ¬ (0 ≤ q ∧ q < XR X 61 0 0) := by omega
        simp (disch := first | assumption | omega | exact W_fl W _ _ _ | exact W_fh W _ _ _ | exact W_rl W _ _ _ | exact W_rh W _ _ _ | exact WS_l Ws _ | exact WS_h Ws _) only [fX12_mail, fX12_told, p_12_0, k_12, li_0, li_72, ob2, g_12_6, l61, lm_1, li_1, iI_add, Option.bind_some, iI_neg, z, r_isPort, bI_i0, ite_n, if_pos cp, if_neg cq, iI_neg]
      · simp (disch := first | assumption | omega | exact W_fl W _ _ _ | exact W_fh W _ _ _ | exact W_rl W _ _ _ | exact W_rh W _ _ _ | exact WS_l Ws _ | exact WS_h Ws _) only [fX12_mail, fX12_told, p_12_0, k_12, li_0, li_72, ob2, g_12_6, l61, lm_1, li_1, iI_add, Option.bind_some, iI_neg, z, r_isPort, bI_i0, ite_n, if_neg cp, iI_neg]
theorem op_far {f0 : Nat} {Y : YS} {X : XS} (h : Inv Y X) {p : Int} (rg_p : Rg p) {q : Int} (rg_q : Rg q) : ∃ v X1 X2, fX11_far f0 (Ad Y 11 0) (iI p) (iI q) (hp Y X) = some (v, hp Y X1) ∧ fX12_far f0 (Ad Y 12 0) (iI p) (iI q) (hp Y X1) = some (v, hp Y X2) ∧ Inv Y X2 := by
  have g := h.1.1; have W := h.2.1
  have se := h.2.2.2.2.2.1; have hC := se.1; have hR := se.2.1
  have g6 := SeO_0 g
  have c0 := hC.1; have c3 := hC.2.1; have c4 := hC.2.2.1; have c5 := hC.2.2.2.1
  have e0 := hR.1.1; have e1 := hR.1.2.1; have e2 := hR.1.2.2.1; have e3 := hR.1.2.2.2.1
  have sh := h.2.2.2.2.2.2.2.2.1
  have p0 := sh.1 0 (by omega)
  have gk0 := ShO_k g p0
  have cd := sh.2.2.2.1.1; have rl := sh.2.2.2.1.2
  have cs : CShip X (XP X 0) 0 := cd
  have sf := inv_S se cd rl
  have Ws : WS (XR X 61 0) := fun i => W.2 61 0 i
  have WA : WF (sF X 12 0 0 0) := W_F W (by decide) (by decide)
  have z := Z61 (Y := Y) (X := sF X 12 0 0 0) (S := XR X 61 0) rfl
  have hP := inv_PostR se h.2.2.2.2.2.2.2.1
  have th := Inv_th h (v := 0) ⟨by decide, by decide⟩
  have rz : Rg (0 : Int) := ⟨by decide, by decide⟩
  have p1 := rg_p.1; have p2 := rg_p.2; have q1 := rg_q.1; have q2 := rg_q.2
  by_cases c : 0 ≤ p ∧ p < XR X 25 0 0 ∧ 0 ≤ q ∧ q < XR X 25 0 0
  · have cp : 0 ≤ p ∧ p < XR X 61 0 0 := by omega
    have cq : 0 ≤ q ∧ q < XR X 61 0 0 := by omega
    have rr := (hP.1 p q cp.1 cp.2 cq.1 cq.2).1
    have lo := hP.2.1 (8 * p + q) (by omega) (by omega)
    have x66 : XR (sR (sF X 12 0 0 0) 61 0 (XR X 61 0)) 66 0 = XR X 66 0 := rfl
    by_cases a : XR X 66 0 (8 * p + q) < 1000000
    · have a' : ¬ 1000000 ≤ XR X 66 0 (8 * p + q) := by omega
      refine ⟨iI (XR X 66 0 (8 * p + q)), X, sF X 12 0 0 0, ?_, ?_, th⟩
      · simp (disch := first | assumption | omega | exact W_fl W _ _ _ | exact W_fh W _ _ _ | exact W_rl W _ _ _ | exact W_rh W _ _ _ | exact WS_l Ws _ | exact WS_h Ws _) only [fX11_far, fX11_orNever, g_11_4, g_6_11, k_6, l_34, lm_1, li_0, li_1, li_8, ob2, iI_add, iI_mul, li_1000000, Option.bind_some, iI_neg, e_hasPorts, bI_i0, ite_n, if_pos c, ← rr, iI_lt, if_pos a]
      · simp (disch := first | assumption | omega | exact W_fl W _ _ _ | exact W_fh W _ _ _ | exact W_rl W _ _ _ | exact W_rh W _ _ _ | exact WS_l Ws _ | exact WS_h Ws _) only [fX12_far, g_12_21, p_12_0, k_12, l_66, lm_1, li_0, li_1, li_1000000, ob2, Option.bind_some, iI_add, iI_neg, z, r_isPort, bI_i0, ite_n, if_pos cp, if_pos cq, r_cell, x66, iI_le, if_neg a']
    · have a' : 1000000 ≤ XR X 66 0 (8 * p + q) := by omega
      refine ⟨iI (-1), X, sF X 12 0 0 0, ?_, ?_, th⟩
      · simp (disch := first | assumption | omega | exact W_fl W _ _ _ | exact W_fh W _ _ _ | exact W_rl W _ _ _ | exact W_rh W _ _ _ | exact WS_l Ws _ | exact WS_h Ws _) only [fX11_far, fX11_orNever, g_11_4, g_6_11, k_6, l_34, lm_1, li_0, li_1, li_8, ob2, iI_add, iI_mul, li_1000000, Option.bind_some, iI_neg, e_hasPorts, bI_i0, ite_n, if_pos c, ← rr, iI_lt, if_neg a, iI_neg]
      · simp (disch := first | assumption | omega | exact W_fl W _ _ _ | exact W_fh W _ _ _ | exact W_rl W _ _ _ | exact W_rh W _ _ _ | exact WS_l Ws _ | exact WS_h Ws _) only [fX12_far, g_12_21, p_12_0, k_12, l_66, lm_1, li_0, li_1, li_1000000, ob2, Option.bind_some, iI_add, iI_neg, z, r_isPort, bI_i0, ite_n, if_pos cp, if_pos cq, r_cell, x66, iI_le, if_pos a', iI_neg]
  · refine ⟨iI (-1), X, sF X 12 0 0 0, ?_, ?_, th⟩
    · simp (disch := first | assumption | omega | exact W_fl W _ _ _ | exact W_fh W _ _ _ | exact W_rl W _ _ _ | exact W_rh W _ _ _ | exact WS_l Ws _ | exact WS_h Ws _) only [fX11_far, g_11_4, g_6_11, k_6, l_34, lm_1, li_0, li_1, li_8, ob2, iI_add, iI_mul, Option.bind_some, iI_neg, e_hasPorts, bI_i0, ite_n, if_neg c, iI_neg]
    · by_cases cp : 0 ≤ p ∧ p < XR X 61 0 0
      · have cq : ¬ (0 ≤ q ∧ q < XR X 61 0 0) := by omega
        simp (disch := first | assumption | omega | exact W_fl W _ _ _ | exact W_fh W _ _ _ | exact W_rl W _ _ _ | exact W_rh W _ _ _ | exact WS_l Ws _ | exact WS_h Ws _) only [fX12_far, g_12_21, p_12_0, k_12, l_66, lm_1, li_0, li_1, li_1000000, ob2, Option.bind_some, iI_add, iI_neg, z, r_isPort, bI_i0, ite_n, if_pos cp, if_neg cq, iI_neg]
      · simp (disch := first | assumption | omega | exact W_fl W _ _ _ | exact W_fh W _ _ _ | exact W_rl W _ _ _ | exact W_rh W _ _ _ | exact WS_l Ws _ | exact WS_h Ws _) only [fX12_far, g_12_21, p_12_0, k_12, l_66, lm_1, li_0, li_1, li_1000000, ob2, Option.bind_some, iI_add, iI_neg, z, r_isPort, bI_i0, ite_n, if_neg cp, iI_neg]
theorem r_doesHear {f0 : Nat} {Y : YS} {X : XS} {S : Int → Int} (g : GY Y) (hq : QR (XR X 67 0)) {p q : Int} (p0 : 0 ≤ p) (p8 : p < 8) (q0 : 0 ≤ q) (q8 : q < 8) : fX12_doesHear f0 (Ad Y 12 0) (iI p) (iI q) (hp Y (sR X 61 0 S)) = some (bI (p ≠ q ∧ XR X 67 0 (8 * p + q) < 1000000), hp Y (sR X 61 0 S)) := by
  have lo := hq (8 * p + q) (by omega) (by omega)
  by_cases c : p = q
  · simp (disch := first | assumption | omega) only [fX12_doesHear, g_12_22, l_67, li_0, li_1000000, li_1, ob2, Option.bind_some, iI_add, iI_eq, if_pos c]
    rw [zr_i0, bI_F (fun w => w.1 c)]
  · by_cases a : 1000000 ≤ XR X 67 0 (8 * p + q)
    · simp (disch := first | assumption | omega) only [fX12_doesHear, g_12_22, l_67, li_0, li_1000000, li_1, ob2, Option.bind_some, iI_add, iI_eq, if_neg c, r_cell, XR_r63, XR_r66, XR_r67, XR_r68, XR_r69, XR_r70, XR_r71, XR_r72, XR_r60, XR_r62, XF_sR, XJ_sR, XP_sR, XM_sR, sF_sR, iI_le, if_pos a]
      rw [zr_i0, bI_F (fun w => by omega)]
    · simp (disch := first | assumption | omega) only [fX12_doesHear, g_12_22, l_67, li_0, li_1000000, li_1, ob2, Option.bind_some, iI_add, iI_eq, if_neg c, r_cell, XR_r63, XR_r66, XR_r67, XR_r68, XR_r69, XR_r70, XR_r71, XR_r72, XR_r60, XR_r62, XF_sR, XJ_sR, XP_sR, XM_sR, sF_sR, iI_le, if_neg a]
      rw [zr_i1, bI_T ⟨c, by omega⟩]
theorem op_hears {f0 : Nat} {Y : YS} {X : XS} (h : Inv Y X) {p : Int} (rg_p : Rg p) {q : Int} (rg_q : Rg q) : ∃ v X1 X2, fX11_hears f0 (Ad Y 11 0) (iI p) (iI q) (hp Y X) = some (v, hp Y X1) ∧ fX12_hears f0 (Ad Y 12 0) (iI p) (iI q) (hp Y X1) = some (v, hp Y X2) ∧ Inv Y X2 := by
  have g := h.1.1; have W := h.2.1
  have se := h.2.2.2.2.2.1; have hC := se.1; have hR := se.2.1
  have g6 := SeO_0 g
  have c0 := hC.1; have c3 := hC.2.1; have c4 := hC.2.2.1; have c5 := hC.2.2.2.1
  have e0 := hR.1.1; have e1 := hR.1.2.1; have e2 := hR.1.2.2.1; have e3 := hR.1.2.2.2.1
  have sh := h.2.2.2.2.2.2.2.2.1
  have p0 := sh.1 0 (by omega)
  have gk0 := ShO_k g p0
  have cd := sh.2.2.2.1.1; have rl := sh.2.2.2.1.2
  have cs : CShip X (XP X 0) 0 := cd
  have sf := inv_S se cd rl
  have Ws : WS (XR X 61 0) := fun i => W.2 61 0 i
  have WA : WF (sF X 12 0 0 0) := W_F W (by decide) (by decide)
  have z := Z61 (Y := Y) (X := sF X 12 0 0 0) (S := XR X 61 0) rfl
  have hP := inv_PostR se h.2.2.2.2.2.2.2.1
  have th := Inv_th h (v := 0) ⟨by decide, by decide⟩
  have rz : Rg (0 : Int) := ⟨by decide, by decide⟩
  have p1 := rg_p.1; have p2 := rg_p.2; have q1 := rg_q.1; have q2 := rg_q.2
  have x67 : XR (sR (sF X 12 0 0 0) 61 0 (XR X 61 0)) 67 0 = XR X 67 0 := rfl
  have hq : QR (XR (sF X 12 0 0 0) 67 0) := hP.2.2
  have y67 : XR (sF X 12 0 0 0) 67 0 = XR X 67 0 := rfl
  by_cases c : (0 ≤ p ∧ p < XR X 61 0 0) ∧ (0 ≤ q ∧ q < XR X 61 0 0)
  · have rr := (hP.1 p q c.1.1 c.1.2 c.2.1 c.2.2).2
    by_cases a : p ≠ q ∧ XR X 67 0 (8 * p + q) < 1000000
    · have a2 : 0 ≤ p ∧ p < XR X 25 0 0 ∧ 0 ≤ q ∧ q < XR X 25 0 0 ∧ p ≠ q ∧ XR X 35 0 (p * 8 + q) < 1000000 := by omega
      refine ⟨iI (XR X 67 0 (8 * p + q)), X, sF X 12 0 0 0, ?_, ?_, th⟩
      · simp (disch := first | assumption | omega | exact W_fl W _ _ _ | exact W_fh W _ _ _ | exact W_rl W _ _ _ | exact W_rh W _ _ _ | exact WS_l Ws _ | exact WS_h Ws _) only [fX11_hears, g_11_4, g_6_12, k_6, l_35, lm_1, li_0, li_1, li_8, ob2, iI_add, iI_mul, Option.bind_some, iI_neg, e_hearsFrom, bI_i0, ite_n, if_pos a2]
        rw [rr]
      · simp (disch := first | assumption | omega | exact W_fl W _ _ _ | exact W_fh W _ _ _ | exact W_rl W _ _ _ | exact W_rh W _ _ _ | exact WS_l Ws _ | exact WS_h Ws _) only [fX12_hears, g_12_22, p_12_0, k_12, l_67, lm_1, li_0, li_1, ob2, Option.bind_some, iI_add, iI_neg, z, r_isPort, bI_i0, ite_n, if_pos c.1, if_pos c.2, r_doesHear, y67, if_pos a, r_cell, x67]
    · have a2 : ¬ (0 ≤ p ∧ p < XR X 25 0 0 ∧ 0 ≤ q ∧ q < XR X 25 0 0 ∧ p ≠ q ∧ XR X 35 0 (p * 8 + q) < 1000000) := fun w => a ⟨w.2.2.2.2.1, by omega⟩
      refine ⟨iI (-1), X, sF X 12 0 0 0, ?_, ?_, th⟩
      · simp (disch := first | assumption | omega | exact W_fl W _ _ _ | exact W_fh W _ _ _ | exact W_rl W _ _ _ | exact W_rh W _ _ _ | exact WS_l Ws _ | exact WS_h Ws _) only [fX11_hears, g_11_4, g_6_12, k_6, l_35, lm_1, li_0, li_1, li_8, ob2, iI_add, iI_mul, Option.bind_some, iI_neg, e_hearsFrom, bI_i0, ite_n, if_neg a2, iI_neg]
      · simp (disch := first | assumption | omega | exact W_fl W _ _ _ | exact W_fh W _ _ _ | exact W_rl W _ _ _ | exact W_rh W _ _ _ | exact WS_l Ws _ | exact WS_h Ws _) only [fX12_hears, g_12_22, p_12_0, k_12, l_67, lm_1, li_0, li_1, ob2, Option.bind_some, iI_add, iI_neg, z, r_isPort, bI_i0, ite_n, if_pos c.1, if_pos c.2, r_doesHear, y67, if_neg a, iI_neg]
  · have a2 : ¬ (0 ≤ p ∧ p < XR X 25 0 0 ∧ 0 ≤ q ∧ q < XR X 25 0 0 ∧ p ≠ q ∧ XR X 35 0 (p * 8 + q) < 1000000) := fun w => c (by omega)
    refine ⟨iI (-1), X, sF X 12 0 0 0, ?_, ?_, th⟩
    · simp (disch := first | assumption | omega | exact W_fl W _ _ _ | exact W_fh W _ _ _ | exact W_rl W _ _ _ | exact W_rh W _ _ _ | exact WS_l Ws _ | exact WS_h Ws _) only [fX11_hears, g_11_4, g_6_12, k_6, l_35, lm_1, li_0, li_1, li_8, ob2, iI_add, iI_mul, Option.bind_some, iI_neg, e_hearsFrom, bI_i0, ite_n, if_neg a2, iI_neg]
    · by_cases cp : 0 ≤ p ∧ p < XR X 61 0 0
      · have cq : ¬ (0 ≤ q ∧ q < XR X 61 0 0) := fun w => c ⟨cp, w⟩
        simp (disch := first | assumption | omega | exact W_fl W _ _ _ | exact W_fh W _ _ _ | exact W_rl W _ _ _ | exact W_rh W _ _ _ | exact WS_l Ws _ | exact WS_h Ws _) only [fX12_hears, g_12_22, p_12_0, k_12, l_67, lm_1, li_0, li_1, ob2, Option.bind_some, iI_add, iI_neg, z, r_isPort, bI_i0, ite_n, if_pos cp, if_neg cq, iI_neg]
      · simp (disch := first | assumption | omega | exact W_fl W _ _ _ | exact W_fh W _ _ _ | exact W_rl W _ _ _ | exact W_rh W _ _ _ | exact WS_l Ws _ | exact WS_h Ws _) only [fX12_hears, g_12_22, p_12_0, k_12, l_67, lm_1, li_0, li_1, ob2, Option.bind_some, iI_add, iI_neg, z, r_isPort, bI_i0, ite_n, if_neg cp, iI_neg]
theorem op_price {f0 : Nat} {Y : YS} {X : XS} (h : Inv Y X) {s : Int} (rg_s : Rg s) {p : Int} (rg_p : Rg p) {w : Int} (rg_w : Rg w) : ∃ v X1 X2, fX11_price f0 (Ad Y 11 0) (iI s) (iI p) (iI w) (hp Y X) = some (v, hp Y X1) ∧ fX12_price f0 (Ad Y 12 0) (iI s) (iI p) (iI w) (hp Y X1) = some (v, hp Y X2) ∧ Inv Y X2 := by
  have g := h.1.1; have W := h.2.1
  have se := h.2.2.2.2.2.1; have hC := se.1; have hR := se.2.1
  have g6 := SeO_0 g
  have c0 := hC.1; have c3 := hC.2.1; have c4 := hC.2.2.1; have c5 := hC.2.2.2.1
  have e0 := hR.1.1; have e1 := hR.1.2.1; have e2 := hR.1.2.2.1; have e3 := hR.1.2.2.2.1
  have sh := h.2.2.2.2.2.2.2.2.1
  have p0 := sh.1 0 (by omega)
  have gk0 := ShO_k g p0
  have cd := sh.2.2.2.1.1; have rl := sh.2.2.2.1.2
  have cs : CShip X (XP X 0) 0 := cd
  have sf := inv_S se cd rl
  have Ws : WS (XR X 61 0) := fun i => W.2 61 0 i
  have WA : WF (sF X 12 0 0 0) := W_F W (by decide) (by decide)
  have z := Z61 (Y := Y) (X := sF X 12 0 0 0) (S := XR X 61 0) rfl
  have hP := inv_PostR se h.2.2.2.2.2.2.2.1
  have th := Inv_th h (v := 0) ⟨by decide, by decide⟩
  have rz : Rg (0 : Int) := ⟨by decide, by decide⟩
  have p1 := rg_p.1; have p2 := rg_p.2; have s1 := rg_s.1; have s2 := rg_s.2; have w1 := rg_w.1; have w2 := rg_w.2
  by_cases c : (0 ≤ s ∧ s < XR X 25 0 3) ∧ (0 ≤ p ∧ p < XR X 25 0 0)
  · have cs1 : 0 ≤ s ∧ s < XR X 61 0 1 := by omega
    have cp1 : 0 ≤ p ∧ p < XR X 61 0 0 := by omega
    by_cases a : w = 0
    · have rr := (hR.2.1 (s * 8 + p) (by omega) (by omega)).2.2.1
      rw [show s * 8 + p = 8 * s + p by omega] at rr
      have w3 : ¬ w < 0 := by omega
      have w4 : w ≤ 1 := by omega
      refine ⟨iI (XR X 61 0 (136 + (8 * s + p))), X, sF X 12 0 0 0, ?_, ?_, th⟩
      · simp (disch := first | assumption | omega | exact W_fl W _ _ _ | exact W_fh W _ _ _ | exact W_rl W _ _ _ | exact W_rh W _ _ _ | exact WS_l Ws _ | exact WS_h Ws _) only [fX11_price, g_11_4, g_6_5, g_11_11, k_6, k_10, l_28, lm_1, li_3, li_0, li_1, li_8, ob2, iI_add, iI_mul, Option.bind_some, iI_neg, e_has, bI_i0, ite_n, if_pos c.1, if_pos c.2, iI_lt, iI_le, iI_eq, if_neg w3, if_pos w4, if_pos a]
        rw [show s * 8 + p = 8 * s + p by omega, rr]
      · simp (disch := first | assumption | omega | exact W_fl W _ _ _ | exact W_fh W _ _ _ | exact W_rl W _ _ _ | exact W_rh W _ _ _ | exact WS_l Ws _ | exact WS_h Ws _) only [fX12_price, g_12_6, p_12_0, k_12, l61, lm_1, li_0, li_1, li_136, ob2, iI_add, Option.bind_some, iI_neg, z, r_isShip, r_isPort, bI_i0, ite_n, if_pos cs1, if_pos cp1, iI_eq, if_pos a, r_cell]
    · by_cases b : w = 1
      · have w3 : ¬ w < 0 := by omega
        have w4 : w ≤ 1 := by omega
        have oo := rel_ow hR rl (s := s) (p := p) (by omega) (by omega) (by omega) (by omega)
        have oo2 : owA X (XP X 0) s p = owS (XR X 61 0) s p := oo
        refine ⟨iI (owS (XR X 61 0) s p), X, sF X 12 0 0 0, ?_, ?_, th⟩
        · simp (disch := first | assumption | omega | exact W_fl W _ _ _ | exact W_fh W _ _ _ | exact W_rl W _ _ _ | exact W_rh W _ _ _ | exact WS_l Ws _ | exact WS_h Ws _) only [fX11_price, g_11_4, g_6_5, g_11_11, k_6, k_10, l_28, lm_1, li_3, li_0, li_1, li_8, ob2, iI_add, iI_mul, Option.bind_some, iI_neg, e_has, bI_i0, ite_n, if_pos c.1, if_pos c.2, iI_lt, iI_le, iI_eq, if_neg w3, if_pos w4, if_neg a, e_owedTo, oo2]
        · simp (disch := first | assumption | omega | exact W_fl W _ _ _ | exact W_fh W _ _ _ | exact W_rl W _ _ _ | exact W_rh W _ _ _ | exact WS_l Ws _ | exact WS_h Ws _) only [fX12_price, g_12_6, p_12_0, k_12, l61, lm_1, li_0, li_1, li_136, ob2, iI_add, Option.bind_some, iI_neg, z, r_isShip, r_isPort, bI_i0, ite_n, if_pos cs1, if_pos cp1, iI_eq, if_neg a, if_pos b, r_owed]
      · refine ⟨iI (-1), X, sF X 12 0 0 0, ?_, ?_, th⟩
        · by_cases w3 : w < 0
          · simp (disch := first | assumption | omega | exact W_fl W _ _ _ | exact W_fh W _ _ _ | exact W_rl W _ _ _ | exact W_rh W _ _ _ | exact WS_l Ws _ | exact WS_h Ws _) only [fX11_price, g_11_4, g_6_5, g_11_11, k_6, k_10, l_28, lm_1, li_3, li_0, li_1, li_8, ob2, iI_add, iI_mul, Option.bind_some, iI_neg, e_has, bI_i0, ite_n, if_pos c.1, if_pos c.2, iI_lt, if_pos w3, iI_neg]
          · have w4 : ¬ w ≤ 1 := by omega
            simp (disch := first | assumption | omega | exact W_fl W _ _ _ | exact W_fh W _ _ _ | exact W_rl W _ _ _ | exact W_rh W _ _ _ | exact WS_l Ws _ | exact WS_h Ws _) only [fX11_price, g_11_4, g_6_5, g_11_11, k_6, k_10, l_28, lm_1, li_3, li_0, li_1, li_8, ob2, iI_add, iI_mul, Option.bind_some, iI_neg, e_has, bI_i0, ite_n, if_pos c.1, if_pos c.2, iI_lt, iI_le, if_neg w3, if_neg w4, iI_neg]
        · simp (disch := first | assumption | omega | exact W_fl W _ _ _ | exact W_fh W _ _ _ | exact W_rl W _ _ _ | exact W_rh W _ _ _ | exact WS_l Ws _ | exact WS_h Ws _) only [fX12_price, g_12_6, p_12_0, k_12, l61, lm_1, li_0, li_1, li_136, ob2, iI_add, Option.bind_some, iI_neg, z, r_isShip, r_isPort, bI_i0, ite_n, if_pos cs1, if_pos cp1, iI_eq, if_neg a, if_neg b, iI_neg]
  · refine ⟨iI (-1), X, sF X 12 0 0 0, ?_, ?_, th⟩
    · by_cases ca : 0 ≤ s ∧ s < XR X 25 0 3
      · have cb : ¬ (0 ≤ p ∧ p < XR X 25 0 0) := fun w => c ⟨ca, w⟩
        simp (disch := first | assumption | omega | exact W_fl W _ _ _ | exact W_fh W _ _ _ | exact W_rl W _ _ _ | exact W_rh W _ _ _ | exact WS_l Ws _ | exact WS_h Ws _) only [fX11_price, g_11_4, g_6_5, g_11_11, k_6, k_10, l_28, lm_1, li_3, li_0, li_1, li_8, ob2, iI_add, iI_mul, Option.bind_some, iI_neg, e_has, bI_i0, ite_n, if_pos ca, if_neg cb, iI_neg]
      · simp (disch := first | assumption | omega | exact W_fl W _ _ _ | exact W_fh W _ _ _ | exact W_rl W _ _ _ | exact W_rh W _ _ _ | exact WS_l Ws _ | exact WS_h Ws _) only [fX11_price, g_11_4, g_6_5, g_11_11, k_6, k_10, l_28, lm_1, li_3, li_0, li_1, li_8, ob2, iI_add, iI_mul, Option.bind_some, iI_neg, e_has, bI_i0, ite_n, if_neg ca, iI_neg]
    · by_cases ca : 0 ≤ s ∧ s < XR X 61 0 1
      · have cb : ¬ (0 ≤ p ∧ p < XR X 61 0 0) := by omega
        simp (disch := first | assumption | omega | exact W_fl W _ _ _ | exact W_fh W _ _ _ | exact W_rl W _ _ _ | exact W_rh W _ _ _ | exact WS_l Ws _ | exact WS_h Ws _) only [fX12_price, g_12_6, p_12_0, k_12, l61, lm_1, li_0, li_1, li_136, ob2, iI_add, Option.bind_some, iI_neg, z, r_isShip, r_isPort, bI_i0, ite_n, if_pos ca, if_neg cb, iI_neg]
      · simp (disch := first | assumption | omega | exact W_fl W _ _ _ | exact W_fh W _ _ _ | exact W_rl W _ _ _ | exact W_rh W _ _ _ | exact WS_l Ws _ | exact WS_h Ws _) only [fX12_price, g_12_6, p_12_0, k_12, l61, lm_1, li_0, li_1, li_136, ob2, iI_add, Option.bind_some, iI_neg, z, r_isShip, bI_i0, ite_n, if_neg ca, iI_neg]
theorem op_man {f0 : Nat} {Y : YS} {X : XS} (h : Inv Y X) {m : Int} (rg_m : Rg m) : ∃ v X1 X2, fX11_man f0 (Ad Y 11 0) (iI m) (hp Y X) = some (v, hp Y X1) ∧ fX12_man f0 (Ad Y 12 0) (iI m) (hp Y X1) = some (v, hp Y X2) ∧ Inv Y X2 := by
  have g := h.1.1; have W := h.2.1
  have se := h.2.2.2.2.2.1; have hC := se.1; have hR := se.2.1
  have g6 := SeO_0 g
  have c0 := hC.1; have c3 := hC.2.1; have c4 := hC.2.2.1; have c5 := hC.2.2.2.1
  have e0 := hR.1.1; have e1 := hR.1.2.1; have e2 := hR.1.2.2.1; have e3 := hR.1.2.2.2.1
  have sh := h.2.2.2.2.2.2.2.2.1
  have p0 := sh.1 0 (by omega)
  have gk0 := ShO_k g p0
  have cd := sh.2.2.2.1.1; have rl := sh.2.2.2.1.2
  have cs : CShip X (XP X 0) 0 := cd
  have sf := inv_S se cd rl
  have Ws : WS (XR X 61 0) := fun i => W.2 61 0 i
  have WA : WF (sF X 12 0 0 0) := W_F W (by decide) (by decide)
  have z := Z61 (Y := Y) (X := sF X 12 0 0 0) (S := XR X 61 0) rfl
  have hP := inv_PostR se h.2.2.2.2.2.2.2.1
  have th := Inv_th h (v := 0) ⟨by decide, by decide⟩
  have rz : Rg (0 : Int) := ⟨by decide, by decide⟩
  have m1 := rg_m.1; have m2 := rg_m.2
  by_cases c : 0 ≤ m ∧ m < XR X 25 0 5
  · have cS : 0 ≤ m ∧ m < XR X 61 0 3 := by omega
    have rr := (rl.2.2.2.1 m (by omega) (by omega)).2
    have rr2 : XR X 45 (XP X 0) m = XR X 61 0 (328 + m) := rr
    refine ⟨iI (XR X 61 0 (328 + m)), X, sF X 12 0 0 0, ?_, ?_, th⟩
    · simp (disch := first | assumption | omega | exact W_fl W _ _ _ | exact W_fh W _ _ _ | exact W_rl W _ _ _ | exact W_rh W _ _ _ | exact WS_l Ws _ | exact WS_h Ws _) only [fX11_man, g_11_4, g_11_11, g_10_11, k_6, l_45, lm_1, li_5, li_0, li_1, ob2, Option.bind_some, iI_add, iI_neg, e_has, bI_i0, ite_n, if_pos c, rr2]
    · simp (disch := first | assumption | omega | exact W_fl W _ _ _ | exact W_fh W _ _ _ | exact W_rl W _ _ _ | exact W_rh W _ _ _ | exact WS_l Ws _ | exact WS_h Ws _) only [fX12_man, g_12_6, p_12_0, k_12, l61, lm_1, li_0, li_1, li_328, ob2, iI_add, Option.bind_some, iI_neg, z, r_isMan, bI_i0, ite_n, if_pos cS]
  · have cS : ¬ (0 ≤ m ∧ m < XR X 61 0 3) := by omega
    refine ⟨iI (-1), X, sF X 12 0 0 0, ?_, ?_, th⟩
    · simp (disch := first | assumption | omega | exact W_fl W _ _ _ | exact W_fh W _ _ _ | exact W_rl W _ _ _ | exact W_rh W _ _ _ | exact WS_l Ws _ | exact WS_h Ws _) only [fX11_man, g_11_4, g_11_11, g_10_11, k_6, l_45, lm_1, li_5, li_0, li_1, ob2, Option.bind_some, iI_add, iI_neg, e_has, bI_i0, ite_n, if_neg c, iI_neg]
    · simp (disch := first | assumption | omega | exact W_fl W _ _ _ | exact W_fh W _ _ _ | exact W_rl W _ _ _ | exact W_rh W _ _ _ | exact WS_l Ws _ | exact WS_h Ws _) only [fX12_man, g_12_6, p_12_0, k_12, l61, lm_1, li_0, li_1, li_328, ob2, iI_add, Option.bind_some, iI_neg, z, r_isMan, bI_i0, ite_n, if_neg cS, iI_neg]
theorem op_needs {f0 : Nat} {Y : YS} {X : XS} (h : Inv Y X) {s : Int} (rg_s : Rg s) : ∃ v X1 X2, fX11_needs f0 (Ad Y 11 0) (iI s) (hp Y X) = some (v, hp Y X1) ∧ fX12_needs f0 (Ad Y 12 0) (iI s) (hp Y X1) = some (v, hp Y X2) ∧ Inv Y X2 := by
  have g := h.1.1; have W := h.2.1
  have se := h.2.2.2.2.2.1; have hC := se.1; have hR := se.2.1
  have g6 := SeO_0 g
  have c0 := hC.1; have c3 := hC.2.1; have c4 := hC.2.2.1; have c5 := hC.2.2.2.1
  have e0 := hR.1.1; have e1 := hR.1.2.1; have e2 := hR.1.2.2.1; have e3 := hR.1.2.2.2.1
  have sh := h.2.2.2.2.2.2.2.2.1
  have p0 := sh.1 0 (by omega)
  have gk0 := ShO_k g p0
  have cd := sh.2.2.2.1.1; have rl := sh.2.2.2.1.2
  have cs : CShip X (XP X 0) 0 := cd
  have sf := inv_S se cd rl
  have Ws : WS (XR X 61 0) := fun i => W.2 61 0 i
  have WA : WF (sF X 12 0 0 0) := W_F W (by decide) (by decide)
  have z := Z61 (Y := Y) (X := sF X 12 0 0 0) (S := XR X 61 0) rfl
  have hP := inv_PostR se h.2.2.2.2.2.2.2.1
  have th := Inv_th h (v := 0) ⟨by decide, by decide⟩
  have rz : Rg (0 : Int) := ⟨by decide, by decide⟩
  have m1 := rg_s.1; have m2 := rg_s.2
  by_cases c : 0 ≤ s ∧ s < XR X 25 0 3
  · have cS : 0 ≤ s ∧ s < XR X 61 0 1 := by omega
    have rr2 := (hR.2.2.1 s (by omega) (by omega)).1
    refine ⟨iI (XR X 61 0 (264 + s)), X, sF X 12 0 0 0, ?_, ?_, th⟩
    · simp (disch := first | assumption | omega | exact W_fl W _ _ _ | exact W_fh W _ _ _ | exact W_rl W _ _ _ | exact W_rh W _ _ _ | exact WS_l Ws _ | exact WS_h Ws _) only [fX11_needs, g_11_4, g_6_10, k_6, l_33, lm_1, li_3, li_0, li_1, ob2, Option.bind_some, iI_add, iI_neg, e_has, bI_i0, ite_n, if_pos c, rr2]
    · simp (disch := first | assumption | omega | exact W_fl W _ _ _ | exact W_fh W _ _ _ | exact W_rl W _ _ _ | exact W_rh W _ _ _ | exact WS_l Ws _ | exact WS_h Ws _) only [fX12_needs, g_12_6, p_12_0, k_12, l61, lm_1, li_0, li_1, li_264, ob2, iI_add, Option.bind_some, iI_neg, z, r_isShip, bI_i0, ite_n, if_pos cS]
  · have cS : ¬ (0 ≤ s ∧ s < XR X 61 0 1) := by omega
    refine ⟨iI (-1), X, sF X 12 0 0 0, ?_, ?_, th⟩
    · simp (disch := first | assumption | omega | exact W_fl W _ _ _ | exact W_fh W _ _ _ | exact W_rl W _ _ _ | exact W_rh W _ _ _ | exact WS_l Ws _ | exact WS_h Ws _) only [fX11_needs, g_11_4, g_6_10, k_6, l_33, lm_1, li_3, li_0, li_1, ob2, Option.bind_some, iI_add, iI_neg, e_has, bI_i0, ite_n, if_neg c, iI_neg]
    · simp (disch := first | assumption | omega | exact W_fl W _ _ _ | exact W_fh W _ _ _ | exact W_rl W _ _ _ | exact W_rh W _ _ _ | exact WS_l Ws _ | exact WS_h Ws _) only [fX12_needs, g_12_6, p_12_0, k_12, l61, lm_1, li_0, li_1, li_264, ob2, iI_add, Option.bind_some, iI_neg, z, r_isShip, bI_i0, ite_n, if_neg cS, iI_neg]
theorem op_knows {f0 : Nat} {Y : YS} {X : XS} (h : Inv Y X) {p : Int} (rg_p : Rg p) {s : Int} (rg_s : Rg s) (hf : 2000 ≤ f0) : ∃ v X1 X2, fX11_knows f0 (Ad Y 11 0) (iI p) (iI s) (hp Y X) = some (v, hp Y X1) ∧ fX12_knows f0 (Ad Y 12 0) (iI p) (iI s) (hp Y X1) = some (v, hp Y X2) ∧ Inv Y X2 := by
  have g := h.1.1; have W := h.2.1
  have se := h.2.2.2.2.2.1; have hC := se.1; have hR := se.2.1
  have g6 := SeO_0 g
  have c0 := hC.1; have c3 := hC.2.1; have c4 := hC.2.2.1; have c5 := hC.2.2.2.1
  have e0 := hR.1.1; have e1 := hR.1.2.1; have e2 := hR.1.2.2.1; have e3 := hR.1.2.2.2.1
  have sh := h.2.2.2.2.2.2.2.2.1
  have p0 := sh.1 0 (by omega)
  have gk0 := ShO_k g p0
  have cd := sh.2.2.2.1.1; have rl := sh.2.2.2.1.2
  have cs : CShip X (XP X 0) 0 := cd
  have sf := inv_S se cd rl
  have Ws : WS (XR X 61 0) := fun i => W.2 61 0 i
  have WA : WF (sF X 12 0 0 0) := W_F W (by decide) (by decide)
  have z := Z61 (Y := Y) (X := sF X 12 0 0 0) (S := XR X 61 0) rfl
  have hP := inv_PostR se h.2.2.2.2.2.2.2.1
  have th := Inv_th h (v := 0) ⟨by decide, by decide⟩
  have rz : Rg (0 : Int) := ⟨by decide, by decide⟩
  have p1 := rg_p.1; have p2 := rg_p.2; have s1 := rg_s.1; have s2 := rg_s.2
  have hq : QR (XR (sF X 12 0 0 0) 67 0) := hP.2.2
  have hs := rl.2.2.2.2.2.1
  have s0 := sf.2.2.1.1
  have f20 : 20 ≤ f0 := by omega
  by_cases c : (0 ≤ p ∧ p < XR X 25 0 0) ∧ (0 ≤ s ∧ s < XR X 25 0 3)
  · have cp : 0 ≤ p ∧ p < XR X 61 0 0 := by omega
    have cs1 : 0 ≤ s ∧ s < XR X 61 0 1 := by omega
    have rr := rl.2.2.2.2.1 p s cp.1 cp.2 cs1.1 cs1.2
    have rr2 : XR X 46 (XP X 0) (p * 8 + s) = knA (XR (sF X 12 0 0 0) 67 0) (XR X 61 0) p s := rr
    have lo := cd.2.2.2.2.2.2.2 (p * 8 + s) (by omega) (by omega)
    have lo2 : 0 ≤ knA (XR (sF X 12 0 0 0) 67 0) (XR X 61 0) p s ∧ knA (XR (sF X 12 0 0 0) 67 0) (XR X 61 0) p s ≤ 1000000 := by rw [← rr2]; exact lo
    by_cases a : knA (XR (sF X 12 0 0 0) 67 0) (XR X 61 0) p s < 1000000
    · refine ⟨iI (knA (XR (sF X 12 0 0 0) 67 0) (XR X 61 0) p s), X, sF X 12 0 0 0, ?_, ?_, th⟩
      · simp (disch := first | assumption | omega | exact W_fl W _ _ _ | exact W_fh W _ _ _ | exact W_rl W _ _ _ | exact W_rh W _ _ _ | exact WS_l Ws _ | exact WS_h Ws _) only [fX11_knows, fX11_orNever, g_11_4, g_11_11, g_10_12, k_6, l_46, lm_1, li_0, li_1, li_3, li_8, ob2, iI_add, iI_mul, li_1000000, Option.bind_some, iI_neg, e_has, bI_i0, ite_n, if_pos c.1, if_pos c.2, rr2, iI_lt, if_pos a]
      · simp (disch := first | assumption | omega | exact W_fl W _ _ _ | exact W_fh W _ _ _ | exact W_rl W _ _ _ | exact W_rh W _ _ _ | exact WS_l Ws _ | exact WS_h Ws _) only [fX12_knows, p_12_0, k_12, lm_1, li_0, li_1, li_1000000, ob2, Option.bind_some, iI_add, iI_neg, z, r_isPort, r_isShip, bI_i0, ite_n, if_pos cp, if_pos cs1, r_knowsFrom, iI_lt, if_pos a]
    · refine ⟨iI (-1), X, sF X 12 0 0 0, ?_, ?_, th⟩
      · simp (disch := first | assumption | omega | exact W_fl W _ _ _ | exact W_fh W _ _ _ | exact W_rl W _ _ _ | exact W_rh W _ _ _ | exact WS_l Ws _ | exact WS_h Ws _) only [fX11_knows, fX11_orNever, g_11_4, g_11_11, g_10_12, k_6, l_46, lm_1, li_0, li_1, li_3, li_8, ob2, iI_add, iI_mul, li_1000000, Option.bind_some, iI_neg, e_has, bI_i0, ite_n, if_pos c.1, if_pos c.2, rr2, iI_lt, if_neg a, iI_neg]
      · simp (disch := first | assumption | omega | exact W_fl W _ _ _ | exact W_fh W _ _ _ | exact W_rl W _ _ _ | exact W_rh W _ _ _ | exact WS_l Ws _ | exact WS_h Ws _) only [fX12_knows, p_12_0, k_12, lm_1, li_0, li_1, li_1000000, ob2, Option.bind_some, iI_add, iI_neg, z, r_isPort, r_isShip, bI_i0, ite_n, if_pos cp, if_pos cs1, r_knowsFrom, iI_lt, if_neg a, iI_neg]
  · refine ⟨iI (-1), X, sF X 12 0 0 0, ?_, ?_, th⟩
    · by_cases ca : 0 ≤ p ∧ p < XR X 25 0 0
      · have cb : ¬ (0 ≤ s ∧ s < XR X 25 0 3) := fun w => c ⟨ca, w⟩
        simp (disch := first | assumption | omega | exact W_fl W _ _ _ | exact W_fh W _ _ _ | exact W_rl W _ _ _ | exact W_rh W _ _ _ | exact WS_l Ws _ | exact WS_h Ws _) only [fX11_knows, g_11_4, g_11_11, g_10_12, k_6, l_46, lm_1, li_0, li_1, li_3, li_8, ob2, iI_add, iI_mul, Option.bind_some, iI_neg, e_has, bI_i0, ite_n, if_pos ca, if_neg cb, iI_neg]
      · simp (disch := first | assumption | omega | exact W_fl W _ _ _ | exact W_fh W _ _ _ | exact W_rl W _ _ _ | exact W_rh W _ _ _ | exact WS_l Ws _ | exact WS_h Ws _) only [fX11_knows, g_11_4, g_11_11, g_10_12, k_6, l_46, lm_1, li_0, li_1, li_3, li_8, ob2, iI_add, iI_mul, Option.bind_some, iI_neg, e_has, bI_i0, ite_n, if_neg ca, iI_neg]
    · by_cases ca : 0 ≤ p ∧ p < XR X 61 0 0
      · have cb : ¬ (0 ≤ s ∧ s < XR X 61 0 1) := by omega
        simp (disch := first | assumption | omega | exact W_fl W _ _ _ | exact W_fh W _ _ _ | exact W_rl W _ _ _ | exact W_rh W _ _ _ | exact WS_l Ws _ | exact WS_h Ws _) only [fX12_knows, p_12_0, k_12, lm_1, li_0, li_1, li_1000000, ob2, Option.bind_some, iI_add, iI_neg, z, r_isPort, r_isShip, bI_i0, ite_n, if_pos ca, if_neg cb, iI_neg]
      · simp (disch := first | assumption | omega | exact W_fl W _ _ _ | exact W_fh W _ _ _ | exact W_rl W _ _ _ | exact W_rh W _ _ _ | exact WS_l Ws _ | exact WS_h Ws _) only [fX12_knows, p_12_0, k_12, lm_1, li_0, li_1, li_1000000, ob2, Option.bind_some, iI_add, iI_neg, z, r_isPort, bI_i0, ite_n, if_neg ca, iI_neg]
