/-! LINES OF NEEDS, OF THE PARROT, AND WHAT IS NO LINE -/
theorem L_n {f0 : Nat} {Y : YS} {X : XS} (g : GY Y) (c : LC X) (hk : XF X 4 0 8 < 0 ∨ 10 < XF X 4 0 8) : LineO f0 Y X := by
  have W := c.1; have tc := c.2.1
  have kr := key_rg tc
  have rc := rf_C W tc (k := 1) (by decide) (by decide)
  refine ⟨rfC X 1, .inl ⟨?_, rc.1, rc.2.1, rc.2.2, fun Z hz => ?_⟩⟩
  · by_cases k0 : XF X 4 0 8 < 0
    · simp (disch := first | assumption | omega | exact W_fl W _ _ _ | exact W_fh W _ _ _ | exact W_rl W _ _ _ | exact W_rh W _ _ _) only [fX7_readLine, bX7_readLine_18, g_7_0, g_4_8, g_7_1, g_6_1, k_4, l_25, li_0, li_10, li_6, li_4, ob2, li_1, Option.bind_some, iI_add, iI_lt, if_pos k0, e_refuse g]
      rfl
    · have k1 : ¬ XF X 4 0 8 ≤ 10 := by omega
      simp (disch := first | assumption | omega | exact W_fl W _ _ _ | exact W_fh W _ _ _ | exact W_rl W _ _ _ | exact W_rh W _ _ _) only [fX7_readLine, bX7_readLine_18, g_7_0, g_4_8, g_7_1, g_6_1, k_4, l_25, li_0, li_10, li_6, li_4, ob2, li_1, Option.bind_some, iI_add, iI_lt, iI_le, if_neg k0, if_neg k1, e_refuse g]
      rfl
  · have rr := rf_R hz.1 tc hz.2.1 (k := 1) (by decide) (by decide)
    exact ⟨_, ln_n g hz.1 tc hz.2.1 c.2.2.1 hk, rr.1, rr.2.1, rr.2.2⟩
/-- the reference takes a role -/
theorem r_role {f0 : Nat} {Y : YS} {Z : XS} (g : GY Y) (W : WF Z) {s : Int} (s0 : 0 ≤ s) (s1 : s < 312) (h0 : 0 ≤ XR Z 62 0 s) (h1 : XR Z 62 0 s < 64) :
    (∀ Z', fX12_looksAt f0 (Ad Y 12 0) (iI 46) (iI (XR Z 62 0 2)) (hp Y Z) = some (0, hp Y Z') → fX12_takesRole f0 (Ad Y 12 0) (iI s) (hp Y Z) = some (0, hp Y Z')) ∧
    (∀ b, 0 ≤ b → b < 8 → fX12_looksAt f0 (Ad Y 12 0) (iI 46) (iI (XR Z 62 0 2)) (hp Y Z) = some (1, hp Y (sF Z 12 0 18 b)) → (bitI (XR Z 62 0 s) b = true → fX12_takesRole f0 (Ad Y 12 0) (iI s) (hp Y Z) = some (0, hp Y (rfR (sF Z 12 0 18 b) 3))) ∧ (¬ bitI (XR Z 62 0 s) b = true → fX12_takesRole f0 (Ad Y 12 0) (iI s) (hp Y Z) = (fX12_next f0 (Ad Y 12 0) (hp Y (sR (sF Z 12 0 18 b) 62 0 (upi (XR Z 62 0) s (ior (XR Z 62 0 s) (pw b)))))).bind fun h => zr 1 h)) := by
  refine ⟨fun Z' e => ?_, fun b b0 b1 e => ⟨fun q => ?_, fun q => ?_⟩⟩
  · simp (disch := first | assumption | omega) only [fX12_takesRole, g_12_7, g_12_18, k_12, l_62, s_62, li_2, li_46, li_0, li_1, li_31, li_3, ob2, Option.bind_some, iI_add, e, iI_eq, if_true]
    rfl
  · have f18 : XF (sF Z 12 0 18 b) 12 0 18 = b := rfl
    have f62 : XR (sF Z 12 0 18 b) 62 0 = XR Z 62 0 := rfl
    simp (disch := first | assumption | omega) only [fX12_takesRole, g_12_7, g_12_18, k_12, l_62, s_62, li_2, li_46, li_0, li_1, li_31, li_3, ob2, Option.bind_some, iI_add, e, iI_eq, Int.reduceEq, if_false, f18, f62, r_bitOf, bI_i0, ite_n, if_pos q, r_bad g]
    rfl
  · have f18 : XF (sF Z 12 0 18 b) 12 0 18 = b := rfl
    have f62 : XR (sF Z 12 0 18 b) 62 0 = XR Z 62 0 := rfl
    simp (disch := first | assumption | omega) only [fX12_takesRole, g_12_7, g_12_18, k_12, l_62, s_62, li_2, li_46, li_0, li_1, li_31, li_3, ob2, Option.bind_some, iI_add, e, iI_eq, Int.reduceEq, if_false, f18, f62, r_bitOf, bI_i0, ite_n, if_neg q, ii_one, iI_or]
theorem DC_30 {X : XS} (h : DC X) {i : Int} : DC (sR X 30 1 (upi (XR X 30 1) i 1)) := by
  obtain ⟨h1, h2, h3, h4, h5, h6⟩ := h
  refine ⟨h1, h2, fun j j0 j1 => ?_, h4, h5, h6⟩
  have q := h3 j j0 j1
  have zz : 0 ≤ upi (XR X 30 1) i 1 j ∧ upi (XR X 30 1) i 1 j ≤ 1 := by
    rw [upi_at]; split
    · omega
    · exact q.2.2.2.2
  exact ⟨q.1, q.2.1, q.2.2.1, q.2.2.2.1, zz⟩
theorem ior_64 {x b : Int} (h0 : 0 ≤ x) (h1 : x < 64) (b0 : 0 ≤ b) (b6 : b < 6) : (0 ≤ ior x (pw b) ∧ ior x (pw b) < 64) ∧ ∀ c : Int, 0 ≤ c → bitI (ior x (pw b)) c = (bitI x c || decide (c = b)) := by
  have q := ior_bit (a := x) (b := b) h0 (by omega) b0 (by omega)
  exact ⟨⟨q.1, q.2.1 6 (by omega) (by omega)⟩, q.2.2⟩
theorem TbR_30 {X : XS} {H : Int → Int} (h : TbR X H) {a b : Int} (a0 : 0 ≤ a) (a8 : a < 8) (b0 : 0 ≤ b) (b6 : b < 6) : TbR (sR X 30 1 (upi (XR X 30 1) (a * 8 + b) 1)) (upi H (264 + a) (ior (H (264 + a)) (pw b))) := by
  obtain ⟨h1, h2, h3, h4⟩ := h
  have q := ior_64 (h2 a a0 a8).1.1 (h2 a a0 a8).1.2 b0 b6
  have o : ∀ j, ¬ (264 ≤ j ∧ j < 272) → upi H (264 + a) (ior (H (264 + a)) (pw b)) j = H j := fun j hj => by rw [upi_at, if_neg (by omega)]
  refine ⟨fun j j0 j1 => ?_, fun j j0 j1 => ?_, fun s t s0 s1 t0 t1 => ?_, fun j j0 j1 => ?_⟩
  · rw [o (8 + j) (by omega), o (72 + j) (by omega), o (136 + j) (by omega), o (200 + j) (by omega)]; exact h1 j j0 j1
  · rw [o (272 + j) (by omega), upi_at]
    refine ⟨?_, (h2 j j0 j1).2⟩
    split
    · exact q.1
    · exact (h2 j j0 j1).1
  · show upi (XR X 30 1) (a * 8 + b) 1 (s * 8 + t) = _
    rw [upi_at, upi_at]
    by_cases e : s = a
    · rw [if_pos (show 264 + s = 264 + a by omega), q.2 t t0]
      by_cases e2 : t = b
      · rw [if_pos (by omega), if_pos (by simp [e2])]
      · rw [if_neg (by omega), h3 s t s0 s1 t0 t1, e]
        congr 1
        simp [e2]
    · rw [if_neg (show ¬ s * 8 + t = a * 8 + b by omega), if_neg (show ¬ 264 + s = 264 + a by omega)]; exact h3 s t s0 s1 t0 t1
  · rw [o 7 (by omega)] at j1
    rw [o (280 + j) (by omega), o (296 + j) (by omega)]; exact h4 j j0 j1
theorem ZeS_264 {S : Int → Int} (h : ZeS S) {a b : Int} (a0 : 0 ≤ a) (a8 : a < 8) (b0 : 0 ≤ b) (b6 : b < 6) (h0 : 0 ≤ S (264 + a)) (h1 : S (264 + a) < 64) (b2 : b < S 2) : ZeS (upi S (264 + a) (ior (S (264 + a)) (pw b))) := by
  have q := ior_64 h0 h1 b0 b6
  have o : ∀ j, ¬ (264 ≤ j ∧ j < 272) → upi S (264 + a) (ior (S (264 + a)) (pw b)) j = S j := fun j hj => by rw [upi_at, if_neg (by omega)]
  refine ⟨fun x y x0 x1 y0 y1 => ?_, fun s s0 s1 r hr => ?_⟩
  · rw [o 0 (by omega), o 1 (by omega), o (8 + (8 * x + y)) (by omega), o (72 + (8 * x + y)) (by omega), o (136 + (8 * x + y)) (by omega), o (8 + (8 * y + x)) (by omega)]
    exact h.1 x y x0 x1 y0 y1
  · rw [o 2 (by omega)]
    rw [upi_at] at hr
    by_cases e : 264 + s = 264 + a
    · rw [if_pos e] at hr
      have k := q.2 (r : Int) (by omega)
      have k2 : bitI (ior (S (264 + a)) (pw b)) (r : Int) = true := by unfold bitI; simpa using hr
      rw [k2] at k
      have k3 : bitI (S (264 + a)) r = true ∨ (r : Int) = b := by
        have := k.symm
        rw [Bool.or_eq_true, decide_eq_true_eq] at this; exact this
      rcases k3 with k3 | k3
      · exact h.2 a a0 a8 r (by unfold bitI at k3; simpa using k3)
      · omega
    · rw [if_neg e] at hr; exact h.2 s s0 s1 r hr
theorem L_10 {f0 : Nat} {Y : YS} {X : XS} (g : GY Y) (c : LC X) (hk : XF X 4 0 8 = 10) (hf : 2000 ≤ f0) : LineO f0 Y X := by
  have W := c.1; have tc := c.2.1; have dc := c.2.2.2.1
  have so := (key_1 tc (by rw [hk]; decide)).1
  have hs1 : isN 3 := .inr (.inl rfl)
  have hs2 : isN 4 := .inr (.inr (.inl rfl))
  have g1 := SeO_1 g
  have n0 : ¬ XF X 4 0 8 = 0 := by omega
  have n1 : ¬ XF X 4 0 8 = 1 := by omega
  have n2 : ¬ XF X 4 0 8 = 2 := by omega
  have n3 : ¬ XF X 4 0 8 = 3 := by omega
  have n4 : ¬ XF X 4 0 8 = 4 := by omega
  have n5 : ¬ XF X 4 0 8 = 5 := by omega
  have n6 : ¬ XF X 4 0 8 = 6 := by omega
  have n8 : ¬ XF X 4 0 8 = 8 := by omega
  have n9 : ¬ XF X 4 0 8 = 9 := by omega
  obtain ⟨X1, e1, r1, W1, t1, lt1, k1⟩ := j_step (f0 := f0) g W tc (by rw [so]; decide) hf
  have c1 : LC X1 := LC_rd c r1 W1 t1
  have rl : fX7_readLine f0 (Ad Y 7 0) (hp Y X) = bX7_readLine_81 f0 (Ad Y 7 0) (iI 10) (hp Y X) := rl_hi g W hk (by decide) (by decide)
  have rlF : ∀ X', fX7_readPair f0 (Ad Y 7 0) (iI 3) (iI 4) (Ad Y 30 1) (iI 0) (hp Y X1) = some (0, hp Y X') → fX7_readLine f0 (Ad Y 7 0) (hp Y X) = some (0, hp Y X') := fun X' e => by
    rw [rl]
    simp (disch := first | assumption | omega | exact W_fl W _ _ _ | exact W_fh W _ _ _ | exact W_rl W _ _ _ | exact W_rh W _ _ _) only [bX7_readLine_81, fX7_readRest, g_7_0, g_7_1, g_6_1, k_4, k_7, l_25, s_25, li_0, li_6, li_1, ob2, iI_add, g_6_3, g_6_4, g_6_5, g_6_6, g_6_7, li_20, li_2, li_40, li_3, li_4, li_5, li_7, li_8, li_250, li_9, li_10, Option.bind_some, e1, iI_eq, Int.reduceEq, if_true, if_false, e]
    rfl
  have rlT : ∀ X', fX7_readPair f0 (Ad Y 7 0) (iI 3) (iI 4) (Ad Y 30 1) (iI 0) (hp Y X1) = some (1, hp Y X') → fX7_readLine f0 (Ad Y 7 0) (hp Y X) = bX7_readLine_117 f0 (Ad Y 7 0) (hp Y X') := fun X' e => by
    rw [rl]
    simp (disch := first | assumption | omega | exact W_fl W _ _ _ | exact W_fh W _ _ _ | exact W_rl W _ _ _ | exact W_rh W _ _ _) only [bX7_readLine_81, fX7_readRest, g_7_0, g_7_1, g_6_1, k_4, k_7, l_25, s_25, li_0, li_6, li_1, ob2, iI_add, g_6_3, g_6_4, g_6_5, g_6_6, g_6_7, li_20, li_2, li_40, li_3, li_4, li_5, li_7, li_8, li_250, li_9, li_10, Option.bind_some, e1, iI_eq, iI_lt, Int.reduceEq, Int.reduceLT, if_true, if_false, e, zr_i1]
  have lst : ∀ Z, LR X Z → ∃ Z1, fX12_next f0 (Ad Y 12 0) (hp Y Z) = some (hp Y Z1) ∧ NxF Z Z1 ∧ LR X1 Z1 := fun Z hz => by
    obtain ⟨Z1, z1, n1, WZ1, tr1⟩ := k1 Z hz.1 hz.2.1
    exact ⟨Z1, z1, n1, LR_nx hz r1 n1 WZ1 tr1⟩
  have rfF : ∀ Z Z1 Z', LR X Z → fX12_next f0 (Ad Y 12 0) (hp Y Z) = some (hp Y Z1) → fX12_takesName f0 (Ad Y 12 0) (iI 38) (iI (XR Z1 62 0 1)) (hp Y Z1) = some (0, hp Y Z') → fX12_line f0 (Ad Y 12 0) (hp Y Z) = some (0, hp Y Z') := fun Z Z1 Z' hz z1 e => by
    have cr := c.2.2.1
    simp (maxSteps := 4000000) (disch := first | assumption | omega) only [fX12_line, g_12_20, g_12_7, g_12_18, z_12_20, k_12, l_62, s_62, li_0, li_1, li_12, li_6, li_3, li_38, li_264, li_200, li_136, li_72, li_5, li_20, li_40, li_8, li_4, li_16, li_2, li_46, li_30, ob2, iI_add, Option.bind_some, rw_0 g hz.1 tc hz.2.1 cr, rw_1 g hz.1 tc hz.2.1 cr, rw_2 g hz.1 tc hz.2.1 cr, rw_3 g hz.1 tc hz.2.1 cr, rw_4 g hz.1 tc hz.2.1 cr, rw_5 g hz.1 tc hz.2.1 cr, rw_6 g hz.1 tc hz.2.1 cr, rw_8 g hz.1 tc hz.2.1 cr, rw_9 g hz.1 tc hz.2.1 cr, rw_10 g hz.1 tc hz.2.1 cr, bI_i0, ite_n, if_neg n0, if_neg n1, if_neg n2, if_neg n3, if_neg n4, if_neg n5, if_neg n6, if_neg n8, if_neg n9, if_pos hk, z1, e, if_true]
    rfl
  have rfG : ∀ Z Z1 Z2 x Z', LR X Z → fX12_next f0 (Ad Y 12 0) (hp Y Z) = some (hp Y Z1) → fX12_takesName f0 (Ad Y 12 0) (iI 38) (iI (XR Z1 62 0 1)) (hp Y Z1) = some (1, hp Y Z2) → fX12_takesRole f0 (Ad Y 12 0) (iI (264 + XF Z2 12 0 18)) (hp Y Z2) = some (iI x, hp Y Z') → x = 0 ∨ x = 1 → fX12_line f0 (Ad Y 12 0) (hp Y Z) = some (iI x, hp Y Z') := fun Z Z1 Z2 x Z' hz z1 e e2 hx => by
    have cr := c.2.2.1
    simp (maxSteps := 4000000) (disch := first | assumption | omega) only [fX12_line, g_12_20, g_12_7, g_12_18, z_12_20, k_12, l_62, s_62, li_0, li_1, li_12, li_6, li_3, li_38, li_264, li_200, li_136, li_72, li_5, li_20, li_40, li_8, li_4, li_16, li_2, li_46, li_30, ob2, iI_add, Option.bind_some, rw_0 g hz.1 tc hz.2.1 cr, rw_1 g hz.1 tc hz.2.1 cr, rw_2 g hz.1 tc hz.2.1 cr, rw_3 g hz.1 tc hz.2.1 cr, rw_4 g hz.1 tc hz.2.1 cr, rw_5 g hz.1 tc hz.2.1 cr, rw_6 g hz.1 tc hz.2.1 cr, rw_8 g hz.1 tc hz.2.1 cr, rw_9 g hz.1 tc hz.2.1 cr, rw_10 g hz.1 tc hz.2.1 cr, bI_i0, ite_n, if_neg n0, if_neg n1, if_neg n2, if_neg n3, if_neg n4, if_neg n5, if_neg n6, if_neg n8, if_neg n9, if_pos hk, z1, e, iI_eq, Int.reduceEq, if_false, e2]
    rcases hx with q | q <;> subst q
    · exact zr_i0
    · exact zr_i1
  obtain ⟨a, X2, hA | hA⟩ := j_tn (f0 := f0) g c1 hs1 hf
  · obtain ⟨_, eA, WA, FA, faA, kA⟩ := hA
    refine ⟨X2, .inl ⟨rlF X2 ?_, WA, FrC_trans (FrC_rd r1) FA, faA, fun Z hz => ?_⟩⟩
    · simp (disch := first | assumption | omega) only [fX7_readPair, g_7_0, g_7_1, g_6_0, k_4, lm_1, li_1, li_0, ob2, Option.bind_some, iI_add, iI_neg, iI_neg, eA, if_true]
      rfl
    · obtain ⟨Z1, z1, n1, h1⟩ := lst Z hz
      obtain ⟨⟨Z2, z2, w2, f2, fa2⟩, _⟩ := kA Z1 h1
      exact ⟨Z2, rfF Z Z1 Z2 hz z1 z2, w2, FrR_trans (FrR_nx n1) f2, fa2⟩
  obtain ⟨a0, eA, soA, sA, r2, c2, lt2, kA⟩ := hA
  have a8 : a < 8 := by
    have := (DC_nm c1.2.2.2.1 hs1).2.1; omega
  have na : ¬ a = -1 := by omega
  have W2 := c2.1
  have lst2 : ∀ Z, LR X Z → ∃ Z1 Z2, fX12_next f0 (Ad Y 12 0) (hp Y Z) = some (hp Y Z1) ∧ fX12_takesName f0 (Ad Y 12 0) (iI 38) (iI (XR Z1 62 0 1)) (hp Y Z1) = some (1, hp Y Z2) ∧ LR X2 Z2 ∧ FrR Z Z2 ∧ XF Z2 12 0 18 = a := fun Z hz => by
    obtain ⟨Z1, z1, n1, h1⟩ := lst Z hz
    obtain ⟨_, _, Z2, _, tn, n2, h2, f2, g18, z62⟩ := kA Z1 h1
    exact ⟨Z1, Z2, z1, tn, h2, FrR_trans (FrR_nx n1) f2, g18⟩
  obtain ⟨b, X3, eB, hB | hB⟩ := j_look (f0 := f0) g1 W2 c2.2.1 c2.2.2.1 (DC_nm c2.2.2.2.1 hs2) hs2 (by omega)
  · obtain ⟨b1, WB, FB, faB, kB⟩ := hB
    have eB' : fX4_look f0 (Ad Y 4 0) (Ad Y 3 1) (iI 4) (hp Y X2) = some (iI (-1), hp Y X3) := by rw [← b1]; exact eB
    refine ⟨X3, .inl ⟨rlF X3 ?_, WB, FrC_trans (FrC_rd (Rd_trans r1 r2)) FB, faB, fun Z hz => ?_⟩⟩
    · simp (disch := first | assumption | omega) only [fX7_readPair, g_7_0, g_7_1, g_6_0, k_4, lm_1, li_1, li_0, ob2, Option.bind_some, iI_add, iI_neg, iI_neg, eA, iI_eq, if_neg na, sA, eB', if_true]
      rfl
    · obtain ⟨Z1, Z2, z1, tn, h2, f2, g18⟩ := lst2 Z hz
      obtain ⟨Z3, z3, w3, f3, fa3⟩ := kB Z2 _ 30 46 (LkZ_of c2 h2) rfl
      have tb := h2.2.2.2.1.2.1.2.1 a a0.1 a8
      have rr := (r_role (f0 := f0) g h2.1 (s := 264 + a) (by omega) (by omega) tb.1.1 tb.1.2).1 Z3 z3
      exact ⟨Z3, rfG Z Z1 Z2 0 Z3 hz z1 tn (by rw [g18]; exact rr) (.inl rfl), w3, FrR_trans f2 f3, fa3⟩
  obtain ⟨b0, eX, soB, kyB, kB⟩ := hB
  have b6 : b < 6 := by
    have := c2.2.2.2.1.1; omega
  have nb : ¬ b = -1 := by omega
  rw [eX] at eB
  have tab : ∀ Z2, LR X2 Z2 → XR X2 30 1 (a * 8 + b) = if bitI (XR Z2 62 0 (264 + a)) b = true then 1 else 0 := fun Z2 h2 => h2.2.2.2.1.2.1.2.2.1 a b a0.1 a8 b0.1 (by omega)
  by_cases tl : ¬ XR X2 30 1 (a * 8 + b) = 0
  · have rc := rf_C W2 c2.2.1 (k := 3) (by decide) (by decide)
    refine ⟨rfC X2 3, .inl ⟨rlF _ ?_, rc.1, FrC_trans (FrC_rd (Rd_trans r1 r2)) rc.2.1, rc.2.2, fun Z hz => ?_⟩⟩
    · simp (maxSteps := 4000000) (disch := first | assumption | omega | exact W_rl W2 _ _ _ | exact W_rh W2 _ _ _) only [fX7_readPair, bX7_readPair_73, bX7_readPair_74, bX7_readPair_94, g_7_0, g_7_1, g_6_0, k_4, lm_1, li_1, li_0, ob2, li_8, iI_add, iI_mul, li_3, Option.bind_some, iI_neg, l_30, iI_neg, eA, iI_eq, Int.reduceEq, if_true, if_false, if_neg na, sA, eB, if_neg nb, e_refuse g, if_neg tl]
      rfl
    · obtain ⟨Z1, Z2, z1, tn, h2, f2, g18⟩ := lst2 Z hz
      obtain ⟨bb, z3⟩ := kB Z2 _ 30 46 (LkZ_of c2 h2) rfl
      have tb := h2.2.2.2.1.2.1.2.1 a a0.1 a8
      have bit : bitI (XR Z2 62 0 (264 + a)) b = true := by
        apply Classical.byContradiction; intro k
        have := tab Z2 h2
        rw [if_neg k] at this; exact tl this
      have rr := ((r_role (f0 := f0) g h2.1 (s := 264 + a) (by omega) (by omega) tb.1.1 tb.1.2).2 b b0.1 (by omega) z3).1 bit
      have h3 := LR_18 h2 (v := b) ⟨by omega, by omega⟩
      have rq := rf_R h3.1 c2.2.1 h3.2.1 (k := 3) (by decide) (by decide)
      exact ⟨_, rfG Z Z1 Z2 0 _ hz z1 tn (by rw [g18]; exact rr) (.inl rfl), rq.1, FrR_trans f2 (FrR_trans (FrR_F FrR_refl (by decide)) rq.2.1), rq.2.2⟩
  have tl : XR X2 30 1 (a * 8 + b) = 0 := Classical.byContradiction tl
  obtain ⟨X4, e4, r4, W4, t4, lt4, k4⟩ := j_step (f0 := f0) g W2 c2.2.1 (by rw [soB]; decide) hf
  have c4 : LC X4 := LC_rd c2 r4 W4 t4
  obtain ⟨X5, hX5⟩ : ∃ X5, X5 = sR X4 30 1 (upi (XR X4 30 1) (a * 8 + b) 1) := ⟨_, rfl⟩
  have sd5 : RdS X4 X5 := by rw [hX5]; exact ⟨fun _ => rfl, rfl, rfl, rfl⟩
  have c5 : LC X5 := by rw [hX5]; exact ⟨W_u W4 (by decide) (by decide), TokC_s ⟨fun _ => rfl, rfl, rfl, rfl⟩ t4, c4.2.2.1, DC_30 c4.2.2.2.1, c4.2.2.2.2⟩
  refine ⟨X5, .inr ⟨rlT X5 ?_, c5, by rw [hX5]; exact FrC_R (FrC_rd (Rd_trans (Rd_trans r1 r2) r4)) (by decide), Sy_e (by rw [hX5]; show XR X4 26 1 = _; rw [r4.2.1, r2.2.1, r1.2.1]), by rw [sd5.1]; omega, fun Z hz => ?_⟩⟩
  · rw [hX5]
    simp (maxSteps := 4000000) (disch := first | assumption | omega | exact W_rl W2 _ _ _ | exact W_rh W2 _ _ _) only [fX7_readPair, bX7_readPair_73, bX7_readPair_74, g_7_0, g_7_1, g_6_0, k_4, lm_1, li_1, li_0, ob2, li_8, iI_add, iI_mul, Option.bind_some, iI_neg, l_30, s_30, iI_neg, eA, iI_eq, Int.reduceEq, if_true, if_false, if_neg na, sA, eB, if_neg nb, if_pos tl, e4]
    rfl
  · obtain ⟨Z1, Z2, z1, tn, h2, f2, g18⟩ := lst2 Z hz
    obtain ⟨bb, z3⟩ := kB Z2 _ 30 46 (LkZ_of c2 h2) rfl
    have tb := h2.2.2.2.1.2.1.2.1 a a0.1 a8
    have bit : ¬ bitI (XR Z2 62 0 (264 + a)) b = true := fun k => by
      have := tab Z2 h2
      rw [if_pos k, tl] at this; omega
    have rr := ((r_role (f0 := f0) g h2.1 (s := 264 + a) (by omega) (by omega) tb.1.1 tb.1.2).2 b b0.1 (by omega) z3).2 bit
    have h3 := LR_18 h2 (v := b) ⟨by omega, by omega⟩
    obtain ⟨H, hH⟩ : ∃ H, H = upi (XR Z2 62 0) (264 + a) (ior (XR Z2 62 0 (264 + a)) (pw b)) := ⟨_, rfl⟩
    obtain ⟨Z3, hZ3⟩ : ∃ Z3, Z3 = sR (sF Z2 12 0 18 b) 62 0 H := ⟨_, rfl⟩
    rw [← hH, ← hZ3] at rr
    have WZ3 : WF Z3 := by
      rw [hZ3]; refine W_R h3.1 fun i => ?_
      rw [hH, upi_at]; split
      · exact ior_rg _ _
      · exact h2.1.2 _ _ _
    obtain ⟨Z4, z4, n4, WZ4, tr4⟩ := k4 Z3 WZ3 (TokR_s RdS_refl (by rw [hZ3]; exact ⟨fun _ _ => rfl, rfl, rfl⟩) h3.2.1)
    rw [z4] at rr
    have bm : b < XR Z2 62 0 2 := bb.2
    have q62 : XR Z4 62 0 = H := by rw [n4.2.1, hZ3]; rfl
    have D4 := DrS_rd r4
    refine ⟨Z4, rfG Z Z1 Z2 1 Z4 hz z1 tn (by rw [g18]; exact rr.trans zr_i1) (.inr rfl), ⟨WZ4, TokR_s sd5 NxS_refl tr4, fun i hi => ?_, ⟨?_, ?_, ?_, ?_⟩, ?_, ?_⟩, FrR_trans f2 (FrR_trans (by rw [hZ3]; exact FrR_R (FrR_F FrR_refl (by decide)) (by decide)) (FrR_nx n4))⟩
    · rw [n4.2.2.1 65 0 (by omega), hZ3]; exact h2.2.2.1 i hi
    · rw [q62, hH]; exact CnR_o (CnR_s (by rw [hX5]; exact D4.1) (by rw [hX5]; exact D4.2.2.2.2.2.2.2.2.2.2.2.2.1) h2.2.2.2.1.1) (by omega)
    · rw [q62, hH, hX5]; exact TbR_30 (TbR_s D4 h2.2.2.2.1.2.1) a0.1 a8 b0.1 b6
    · rw [q62, hH]; exact ZeS_264 h2.2.2.2.1.2.2.1 a0.1 a8 b0.1 b6 tb.1.1 tb.1.2 bm
    · rw [n4.1 12 0 20 (by omega), hZ3, hX5]; show XF Z2 12 0 20 = XF X4 7 0 2; rw [D4.2.2.2.2.2.2.2.2.2.2.2.2.2]; exact h2.2.2.2.1.2.2.2
    · have d := NamI_S9 (S' := XR Z4 62 0) (fun j j0 j3 => by rw [q62, hH, upi_at, if_neg (by omega)]) h2.2.2.2.2.1
      have d2 : DN X4 Z4 (XR Z4 62 0) := DN_s (Z := Z2) D4 (by rw [n4.2.2.1 64 0 (by omega), hZ3]; rfl) d
      rw [hX5]; exact d2
    · rw [n4.1 12 0 15 (by omega), hZ3]; exact h2.2.2.2.2.2
