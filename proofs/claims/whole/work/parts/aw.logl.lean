theorem lo_67 {f0 : Nat} {Y : YS} {X : XS} {S : Int → Int} {v1 v2 r : Int} (g : GY Y) (W : WF X) (c : TokC X) (kl : KL X S) (hnc : ∀ s, isN s → ncS S s ≤ 8) (m0 : 0 ≤ XF X 2 0 5) (m1 : XF X 2 0 5 ≤ 40) (h5 : XF X 4 0 5 ≠ 0) (h1 : Rg v1) (hv : (v2 = 11 ∧ r = 1) ∨ (v2 = 12 ∧ r = 0) ∨ (v2 = 13 ∧ r = 2) ∨ (v2 = 14 ∧ r = 3) ∨ (v2 = 15 ∧ r = 4 ∧ 0 ≤ v1 ∧ v1 < S 3)) (hf : 2000 ≤ f0) :
    ∃ X', (bX2_readLine_67 f0 (Ad Y 2 0) (iI v1) (iI v2) (hp Y X) = some (0, hp Y X') ∧ WF X' ∧ FrC X X' ∧ FaC X' ∧ ∀ Z, LZ X Z S → XF Z 12 0 36 = XF X 2 0 5 → ∃ Z', bX12_logLine_87 f0 (Ad Y 12 0) (iI (3 * XF X 2 0 5)) (iI r) (hp Y Z) = some (0, hp Y Z') ∧ WF Z' ∧ FrR Z Z' ∧ FaR X' Z') ∨ (XF X 2 0 5 < 40 ∧ ∃ o, bX2_readLine_67 f0 (Ad Y 2 0) (iI v1) (iI v2) (hp Y X) = bX2_readLine_169 f0 (Ad Y 2 0) (hp Y X') ∧ LgD X X' v2 o v1 ∧ ∀ Z, LZ X Z S → XF Z 12 0 36 = XF X 2 0 5 → (r = 4 → XF Z 12 0 18 = v1) → ∃ Z', bX12_logLine_87 f0 (Ad Y 12 0) (iI (3 * XF X 2 0 5)) (iI r) (hp Y Z) = some (1, hp Y Z') ∧ WF Z' ∧ TokR X' Z' ∧ LgZ Z Z' (XF X 2 0 5) ∧ LnR S v2 o v1 (XR Z' 63 0 (3 * XF X 2 0 5)) (XR Z' 63 0 (3 * XF X 2 0 5 + 1)) (XR Z' 63 0 (3 * XF X 2 0 5 + 2))) := by
  obtain ⟨m, hm⟩ : ∃ m, m = XF X 2 0 5 := ⟨_, rfl⟩
  rw [← hm] at m0 m1 ⊢
  have rr : Rg r := ⟨by omega, by omega⟩
  have h2 : Rg v2 := ⟨by omega, by omega⟩
  by_cases lt : m < 40
  · obtain ⟨X1, e1, r1, W1, c1, lt1, k1⟩ := j_step (f0 := f0) g W c h5 hf
    have x15 : XF X1 2 0 5 = m := by rw [hm]; exact r1.1 2 0 5 (by omega)
    have kl1 := KL_fr (FrC_rd r1) kl
    have cl : ¬ v2 = 15 → bX2_readLine_67 f0 (Ad Y 2 0) (iI v1) (iI v2) (hp Y X) = bX2_readLine_107 f0 (Ad Y 2 0) (iI v1) (iI v2) (hp Y X1) := fun q => by
      unfold bX2_readLine_67
      simp (disch := first | assumption | omega) only [g_2_5, g_2_0, k_4, ← hm, li_40, li_15, iI_lt, if_pos lt, Option.bind_some, e1, iI_eq, if_neg q]
    have ref : ∀ Z, LZ X Z S → XF Z 12 0 36 = m → ∃ Z2, fX12_next f0 (Ad Y 12 0) (hp Y (z87 Z m r)) = some (hp Y Z2) ∧ NxF (z87 Z m r) Z2 ∧ LZ X1 Z2 S ∧ XR Z2 61 0 = S ∧ FrR Z Z2 := fun Z hz h36 => by
      obtain ⟨Z2, u1, u2, u3, u4⟩ := k1 _ (z87_W (m := m) hz.1 rr) (TokR_s RdS_refl z87_n hz.2.1)
      have fz : FrR Z Z2 := FrR_trans z87_F (FrR_nx u2)
      have kz := KZ_R (FrC_rd r1) fz hz.2.2
      exact ⟨Z2, u1, u2, ⟨u3, u4, kz⟩, kz.2.2.2, fz⟩
    have ob0 : ∀ {h : Hp} {K : Int32 → Hp → Option (Int32 × Hp)}, (ob2 (some (0, h)) fun x h => if x = iI 0 then zr (iI 0) h else K x h) = some (0, h) := fun {h} {K} => by rw [ob2_some, if_pos li_0]; exact zr_i0
    have ob1 : ∀ {h : Hp} {K : Int32 → Hp → Option (Int32 × Hp)}, (ob2 (some (1, h)) fun x h => if x = iI 0 then zr (iI 0) h else K x h) = K 1 h := fun {h} {K} => by rw [ob2_some, if_neg (by decide)]
    have lgd : ∀ {X' : XS} {o : Int}, LgD X1 X' v2 o v1 → LgD X X' v2 o v1 := fun q => LgD_rd r1 (by omega) q
    rcases hv with ⟨q2, q3⟩ | ⟨q2, q3⟩ | ⟨q2, q3⟩ | ⟨q2, q3⟩ | ⟨q2, q3, q4, q5⟩
    · subst q2; subst q3
      obtain ⟨X', hh⟩ := lo_n (f0 := f0) (S := S) (v1 := v1) (v2 := 11) (s := 0) g W1 c1 kl1 hnc (by omega) (by omega) h1 (.inl ⟨rfl, rfl⟩) hf
      rcases hh with ⟨a1, a2, a3, a4, a5⟩ | ⟨o, po, a1, a2, a3⟩
      · refine ⟨X', .inl ⟨by rw [cl (by decide)]; exact a1, a2, FrC_trans (FrC_rd r1) a3, a4, fun Z hz h36 => ?_⟩⟩
        obtain ⟨Z2, u1, u2, u3, u4, u5⟩ := ref Z hz h36
        obtain ⟨Z', l1, l2, l3, l4⟩ := a5 Z2 u3
        exact ⟨Z', by rw [r87_1 g m0 lt h36 u1 u4]; exact (congrArg (fun z => ob2 z _) l1).trans ob0, l2, FrR_trans u5 l3, l4⟩
      · refine ⟨X', .inr ⟨lt, o, by rw [cl (by decide)]; exact a1, lgd a2, fun Z hz h36 _ => ?_⟩⟩
        obtain ⟨Z2, u1, u2, u3, u4, u5⟩ := ref Z hz h36
        obtain ⟨Z3, l1, l2, l3, l4⟩ := a3 Z2 u3
        have po2 : o < S 0 := po.2
        have z18 : XF Z3 12 0 18 = o := by rw [l3.1 12 0 18 (by omega)]; rfl
        have n8 := hnc 0 (.inl rfl)
        have n8' : S 0 ≤ 8 := n8
        obtain ⟨b1, b2, b3, b4, b5, _⟩ := lz_fin (j := 1) (.inl rfl) u2 l3 l2 l4 (v := o) ⟨by omega, by omega⟩
        exact ⟨_, by rw [r87_1 g m0 lt h36 u1 u4]; exact (congrArg (fun z => ob2 z _) l1).trans (ob1.trans (r_238 g m0 lt z18)), b1, b2, b3, .inl ⟨rfl, b4, b5, po.1, po2⟩⟩
    · subst q2; subst q3
      obtain ⟨X', hh⟩ := lo_n (f0 := f0) (S := S) (v1 := v1) (v2 := 12) (s := 3) g W1 c1 kl1 hnc (by omega) (by omega) h1 (.inr (.inl ⟨rfl, rfl⟩)) hf
      rcases hh with ⟨a1, a2, a3, a4, a5⟩ | ⟨o, po, a1, a2, a3⟩
      · refine ⟨X', .inl ⟨by rw [cl (by decide)]; exact a1, a2, FrC_trans (FrC_rd r1) a3, a4, fun Z hz h36 => ?_⟩⟩
        obtain ⟨Z2, u1, u2, u3, u4, u5⟩ := ref Z hz h36
        obtain ⟨Z', l1, l2, l3, l4⟩ := a5 Z2 u3
        exact ⟨Z', by rw [r87_0 g m0 lt h36 u1 u4]; exact (congrArg (fun z => ob2 z _) l1).trans ob0, l2, FrR_trans u5 l3, l4⟩
      · refine ⟨X', .inr ⟨lt, o, by rw [cl (by decide)]; exact a1, lgd a2, fun Z hz h36 _ => ?_⟩⟩
        obtain ⟨Z2, u1, u2, u3, u4, u5⟩ := ref Z hz h36
        obtain ⟨Z3, l1, l2, l3, l4⟩ := a3 Z2 u3
        have po2 : o < S 1 := po.2
        have z18 : XF Z3 12 0 18 = o := by rw [l3.1 12 0 18 (by omega)]; rfl
        have n8 := hnc 3 (.inr (.inl rfl))
        have n8' : S 1 ≤ 8 := n8
        obtain ⟨b1, b2, b3, b4, b5, _⟩ := lz_fin (j := 1) (.inl rfl) u2 l3 l2 l4 (v := o) ⟨by omega, by omega⟩
        exact ⟨_, by rw [r87_0 g m0 lt h36 u1 u4]; exact (congrArg (fun z => ob2 z _) l1).trans (ob1.trans (r_238 g m0 lt z18)), b1, b2, b3, .inr (.inl ⟨rfl, b4, b5, po.1, po2⟩)⟩
    · subst q2; subst q3
      obtain ⟨X', hh⟩ := lo_13 (f0 := f0) (S := S) (v1 := v1) g W1 c1 (by omega) (by omega) h1 hf
      rcases hh with ⟨a1, a2, a3, a4, a5⟩ | ⟨o, po, a1, a2, a3⟩
      · refine ⟨X', .inl ⟨by rw [cl (by decide)]; exact a1, a2, FrC_trans (FrC_rd r1) a3, a4, fun Z hz h36 => ?_⟩⟩
        obtain ⟨Z2, u1, u2, u3, u4, u5⟩ := ref Z hz h36
        obtain ⟨Z', l1, l2, l3, l4⟩ := a5 Z2 u3
        exact ⟨Z', by rw [r87_2 g m0 lt h36 u1 u4]; exact (congrArg (fun z => ob2 z _) l1).trans ob0, l2, FrR_trans u5 l3, l4⟩
      · refine ⟨X', .inr ⟨lt, o, by rw [cl (by decide)]; exact a1, lgd a2, fun Z hz h36 _ => ?_⟩⟩
        obtain ⟨Z2, u1, u2, u3, u4, u5⟩ := ref Z hz h36
        obtain ⟨Z3, l1, l2, l3, l4⟩ := a3 Z2 u3
        have z18 : XF Z3 12 0 18 = o := by rw [l3.1 12 0 18 (by omega)]; rfl
        obtain ⟨b1, b2, b3, b4, b5, _⟩ := lz_fin (j := 1) (.inl rfl) u2 l3 l2 l4 (v := o) ⟨by omega, by omega⟩
        exact ⟨_, by rw [r87_2 g m0 lt h36 u1 u4]; exact (congrArg (fun z => ob2 z _) l1).trans (ob1.trans (r_238 g m0 lt z18)), b1, b2, b3, .inr (.inr (.inl ⟨rfl, b4, b5, po⟩))⟩
    · subst q2; subst q3
      refine ⟨lgP X1 v1 14, .inr ⟨lt, XR X1 41 0 m, ?_, lgd (by rw [← x15]; exact LgD_14 W1 c1 h1), fun Z hz h36 _ => ?_⟩⟩
      · rw [cl (by decide)]
        have y1 : ∀ r, XF (sR X1 40 0 r) 2 0 5 = XF X1 2 0 5 := fun _ => rfl
        have y2 : ∀ r, XR (sR X1 40 0 r) 42 0 = XR X1 42 0 := fun _ => rfl
        have x1a : 0 ≤ XF X1 2 0 5 := by omega
        have x1b : XF X1 2 0 5 < 40 := by omega
        unfold bX2_readLine_107 lgP
        simp (disch := first | assumption | omega) only [g_2_2, g_2_4, g_2_5, s_40, s_42, Option.bind_some, y1, y2, li_14, if_true]
      · obtain ⟨Z2, u1, u2, u3, u4, u5⟩ := ref Z hz h36
        have e63 : XR Z2 63 0 = upi (upi (XR Z 63 0) (3 * m) 3) (3 * m + 1) (XF Z 12 0 18) := by rw [u2.2.1]; rfl
        refine ⟨Z2, by rw [r87_3 g m0 lt h36 u1 u4]; exact zr_i1, u3.1, TokR_s lgP_Rd NxS_refl u3.2.1, ⟨u5, ?_, fun i hi => ?_⟩, .inr (.inr (.inr (.inl ⟨rfl, ?_⟩)))⟩
        · rw [u2.1 12 0 15 (by omega)]; rfl
        · rw [e63, upi_ne _ _ (by omega), upi_ne _ _ (by omega)]
        · rw [e63, upi_ne _ _ (by omega), upi_eq]
    · subst q2; subst q3
      have cl' : bX2_readLine_67 f0 (Ad Y 2 0) (iI v1) (iI 15) (hp Y X) = ob2 (fX2_passLearns f0 (Ad Y 2 0) (hp Y X1)) fun x h => if x = 0 then zr 0 h else bX2_readLine_107 f0 (Ad Y 2 0) (iI v1) (iI 15) h := by
        unfold bX2_readLine_67
        rw [g_2_5 g, Option.bind_some, ← hm, li_40, if_pos (iLT lt (by omega) (by omega) (by omega) (by omega)), g_2_0 g, Option.bind_some, k_4 g, e1, Option.bind_some, li_15, if_pos rfl, k_2 g]
      have kr := key_rg c1
      by_cases q15 : XF X1 4 0 8 = 15
      · have k5 := (key_1 c1 (by omega)).1
        obtain ⟨X2, e2, r2, W2, c2, lt2, k2⟩ := j_step (f0 := f0) g W1 c1 (by omega) hf
        have pl : fX2_passLearns f0 (Ad Y 2 0) (hp Y X1) = some (1, hp Y X2) := by
          simp (disch := first | assumption | omega) only [fX2_passLearns, g_2_0, g_4_8, k_4, li_15, li_1, ob2, Option.bind_some, iI_add, q15, if_true, e2]
          exact zr_i1
        have kl2 := KL_fr (FrC_rd r2) kl1
        have x25 : XF X2 2 0 5 = m := by rw [r2.1 2 0 5 (by omega)]; exact x15
        obtain ⟨X', hh⟩ := lo_n (f0 := f0) (S := S) (v1 := v1) (v2 := 15) (s := 4) g W2 c2 kl2 hnc (by omega) (by omega) h1 (.inr (.inr ⟨rfl, rfl⟩)) hf
        have cc : bX2_readLine_67 f0 (Ad Y 2 0) (iI v1) (iI 15) (hp Y X) = bX2_readLine_107 f0 (Ad Y 2 0) (iI v1) (iI 15) (hp Y X2) := by
          rw [cl', pl, ob2_some, if_neg (by decide)]
        have ref2 : ∀ Z, LZ X Z S → XF Z 12 0 36 = m → ∃ Z3, bX12_logLine_87 f0 (Ad Y 12 0) (iI (3 * m)) (iI 4) (hp Y Z) = (ob2 (fX12_takesName f0 (Ad Y 12 0) (iI 16) (iI (S 2)) (hp Y Z3)) fun x183 h183 => (if x183 = iI 0 then zr (iI 0) h183 else (gfN 12 8 h183 (Ad Y 12 0)).bind fun x192 => (gfI 12 18 h183 (Ad Y 12 0)).bind fun x199 => (stI 1 h183 x192 (iI (3 * m + 2)) x199).bind fun h202 => zr (iI 1) h202)) ∧ NxF (z87 Z m 4) Z3 ∧ LZ X2 Z3 S ∧ FrR Z Z3 := fun Z hz h36 => by
          obtain ⟨Z2, u1, u2, u3, u4, u5⟩ := ref Z hz h36
          obtain ⟨Z3, w1, w2, w3, w4⟩ := k2 Z2 u3.1 u3.2.1
          have fz : FrR Z Z3 := FrR_trans u5 (FrR_nx w2)
          have kz := KZ_R (FrC_rd r2) (FrR_nx w2) u3.2.2
          have l2 := l_61 (Y := Y) (X := Z3) g (i := 2) (by decide) (by decide)
          rw [kz.2.2.2] at l2
          refine ⟨Z3, ?_, Nx_trans u2 w2, ⟨w3, w4, kz⟩, fz⟩
          rw [r87_4 g m0 lt h36 u1 u4, rw_15 g u3.1 c1 u3.2.1 kl1.1, ob2_some, if_neg (by rw [bI_T q15]; decide), k_12 g, w1, Option.bind_some, g_12_6 g, Option.bind_some, l2, Option.bind_some, k_12 g]
        rcases hh with ⟨a1, a2, a3, a4, a5⟩ | ⟨o, po, a1, a2, a3⟩
        · refine ⟨X', .inl ⟨by rw [cc]; exact a1, a2, FrC_trans (FrC_trans (FrC_rd r1) (FrC_rd r2)) a3, a4, fun Z hz h36 => ?_⟩⟩
          obtain ⟨Z3, u1, u2, u3, u5⟩ := ref2 Z hz h36
          obtain ⟨Z', l1, l2, l3, l4⟩ := a5 Z3 u3
          exact ⟨Z', by rw [u1]; exact (congrArg (fun z => ob2 z _) l1).trans ob0, l2, FrR_trans u5 l3, l4⟩
        · refine ⟨X', .inr ⟨lt, o, by rw [cc]; exact a1, lgd (LgD_rd r2 (by omega) a2), fun Z hz h36 z18 => ?_⟩⟩
          obtain ⟨Z3, u1, u2, u3, u5⟩ := ref2 Z hz h36
          obtain ⟨Z4, l1, l2, l3, l4⟩ := a3 Z3 u3
          have po2 : o < S 2 := po.2
          have z18' : XF Z4 12 0 18 = o := by rw [l3.1 12 0 18 (by omega)]; rfl
          have n8 := hnc 4 (.inr (.inr (.inl rfl)))
          have n8' : S 2 ≤ 8 := n8
          obtain ⟨b1, b2, b3, b4, b5, b6⟩ := lz_fin (j := 2) (.inr rfl) u2 l3 l2 l4 (v := o) ⟨by omega, by omega⟩
          refine ⟨_, ?_, b1, b2, b3, .inr (.inr (.inr (.inr ⟨rfl, b4, (b6 rfl).trans (z18 rfl), b5, ⟨q4, q5⟩, po.1, po2⟩)))⟩
          rw [u1]
          refine (congrArg (fun z => ob2 z _) l1).trans (ob1.trans ?_)
          rw [g_12_8 g, Option.bind_some, g_12_18 g, Option.bind_some, z18', s_63 g (by omega) (by omega), Option.bind_some]
          exact zr_i1
      · have rc := rf_C W1 c1 (k := 1) (by decide) (by decide)
        have pl : fX2_passLearns f0 (Ad Y 2 0) (hp Y X1) = some (0, hp Y (rfC X1 1)) := by
          simp (disch := first | assumption | omega) only [fX2_passLearns, g_2_0, g_4_8, k_4, li_15, li_1, ob2, Option.bind_some, iI_add, iI_eq, if_neg q15, e_refuse g, ob2_some]
          exact zr_i0
        refine ⟨rfC X1 1, .inl ⟨?_, rc.1, FrC_trans (FrC_rd r1) rc.2.1, rc.2.2, fun Z hz h36 => ?_⟩⟩
        · rw [cl', pl, ob2_some, if_pos rfl]; exact zr_i0
        · obtain ⟨Z2, u1, u2, u3, u4, u5⟩ := ref Z hz h36
          have rr' := rf_R u3.1 c1 u3.2.1 (k := 1) (by decide) (by decide)
          refine ⟨rfR Z2 1, ?_, rr'.1, FrR_trans u5 rr'.2.1, rr'.2.2⟩
          rw [r87_4 g m0 lt h36 u1 u4, rw_15 g u3.1 c1 u3.2.1 kl1.1, ob2_some, if_pos (by rw [bI_F q15]; rfl), k_12 g, r_bad g, ob2_some]
          exact zr_i0
  · have e40 : m = 40 := by omega
    have rc := rf_C W c (k := 4) (by decide) (by decide)
    refine ⟨rfC X 4, .inl ⟨?_, rc.1, rc.2.1, rc.2.2, fun Z hz h36 => ?_⟩⟩
    · unfold bX2_readLine_67
      rw [g_2_5 g, Option.bind_some, ← hm, li_40, if_neg (iNLT lt (by omega) (by omega) (by omega) (by omega)), g_2_0 g, Option.bind_some, k_4 g, li_4, e_refuse g, ob2_some]
      exact zr_i0
    · have rr' := rf_R hz.1 c hz.2.1 (k := 4) (by decide) (by decide)
      refine ⟨rfR Z 4, ?_, rr'.1, rr'.2.1, rr'.2.2⟩
      unfold bX12_logLine_87
      rw [g_12_36 g, Option.bind_some, h36, e40, li_40, if_pos rfl, k_12 g, li_4, r_bad g, ob2_some]
      exact zr_i0
