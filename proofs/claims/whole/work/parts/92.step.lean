/-! TOKENS: the class's step -/
theorem e_findR {f0 : Nat} {Y : YS} {X : XS} (g : GY Y) (hf : 200 ≤ f0) : ∃ k : Int, fX4_findReserved f0 (Ad Y 4 0) (hp Y X) = some (iI k, hp Y X) ∧ (-1 ≤ k ∧ k ≤ 26) ∧ (k = -1 → ∀ i : Int, 0 ≤ i → i < 27 → XJ X 21 0 i ≠ XJ X 4 0 7) ∧ (0 ≤ k → XJ X 21 0 k = XJ X 4 0 7) := by
  have z : fX4_findReserved f0 (Ad Y 4 0) (hp Y X) = bX4_findReserved_2 f0 f0 (Ad Y 4 0) (iI 0) (hp Y X) := rfl
  rw [z]
  refine lp (fun f (i : Int) => bX4_findReserved_2 f0 f (Ad Y 4 0) (iI i) (hp Y X)) (fun i => (0 ≤ i ∧ i ≤ 27) ∧ ∀ j, 0 ≤ j → j < i → XJ X 21 0 j ≠ XJ X 4 0 7) (fun i => (27 - i).toNat) (fun r => ∃ k : Int, r = some (iI k, hp Y X) ∧ (-1 ≤ k ∧ k ≤ 26) ∧ (k = -1 → ∀ i : Int, 0 ≤ i → i < 27 → XJ X 21 0 i ≠ XJ X 4 0 7) ∧ (0 ≤ k → XJ X 21 0 k = XJ X 4 0 7)) ?_ f0 0 ⟨⟨by omega, by omega⟩, fun j j0 j1 => by omega⟩ (by show (27 - (0 : Int)).toNat < f0; omega)
  rintro f i ⟨⟨i0, i1⟩, hI⟩
  by_cases c : (27 : Int) ≤ i
  · left
    refine ⟨-1, ?_, ⟨by omega, by omega⟩, fun _ j j0 j1 => hI j j0 (by omega), fun q => by omega⟩
    simp (disch := first | assumption | omega) only [bX4_findReserved_2, g_4_1, g_4_7, l_21, lm_1, li_0, li_1, li_27, iI_add, Option.bind_some, iI_neg, iI_le, if_pos c, iI_neg]
  · by_cases e : XJ X 21 0 i = XJ X 4 0 7
    · left
      refine ⟨i, ?_, ⟨by omega, by omega⟩, fun q => by omega, fun _ => e⟩
      simp (disch := first | assumption | omega) only [bX4_findReserved_2, g_4_1, g_4_7, l_21, lm_1, li_0, li_1, li_27, iI_add, Option.bind_some, iI_neg, iI_le, if_neg c, lg_eq, if_pos e]
    · right
      refine ⟨i + 1, ?_, ⟨⟨by omega, by omega⟩, fun j j0 j1 => ?_⟩, by show (27 - (i + 1)).toNat < (27 - i).toNat; omega⟩
      · simp (disch := first | assumption | omega) only [bX4_findReserved_2, g_4_1, g_4_7, l_21, lm_1, li_0, li_1, li_27, iI_add, Option.bind_some, iI_neg, iI_le, if_neg c, lg_eq, if_neg e]
      · by_cases q : j = i
        · rw [q]; exact e
        · exact hI j j0 (by omega)
/-- what stays when the reader goes on -/
def RdF (X X' : XS) : Prop := (∀ s k f, ¬ (s = 4 ∧ k = 0 ∧ 4 ≤ f ∧ f ≤ 9) → XF X' s k f = XF X s k f) ∧ XR X' = XR X ∧ (∀ s k, ¬ (s = 4 ∧ k = 0) → XJ X' s k = XJ X s k) ∧ XP X' = XP X ∧ XM X' = XM X
theorem Rd_refl {X : XS} : RdF X X := ⟨fun _ _ _ _ => rfl, rfl, fun _ _ _ => rfl, rfl, rfl⟩
theorem Rd_trans {X X1 X2 : XS} (h : RdF X X1) (h' : RdF X1 X2) : RdF X X2 := ⟨fun s k f q => (h'.1 s k f q).trans (h.1 s k f q), h'.2.1.trans h.2.1, fun s k q => (h'.2.2.1 s k q).trans (h.2.2.1 s k q), h'.2.2.2.1.trans h.2.2.2.1, h'.2.2.2.2.trans h.2.2.2.2⟩
theorem Rd_F {X X' : XS} (h : RdF X X') {f : Nat} {v : Int} (h1 : 4 ≤ f) (h2 : f ≤ 9) : RdF X (sF X' 4 0 f v) := by
  refine ⟨fun s k f' q => ?_, h.2.1, h.2.2.1, h.2.2.2⟩
  rw [XF_sF, if_neg (fun z => q ⟨z.1, z.2.1, by omega, by omega⟩)]
  exact h.1 s k f' q
theorem Rd_J {X X' : XS} (h : RdF X X') {r : Int → Int64} : RdF X (sJ X' 4 0 r) := by
  refine ⟨h.1, h.2.1, fun s k q => ?_, h.2.2.2⟩
  rw [XJ_sJ, if_neg (fun z => q ⟨z.1, z.2⟩)]
  exact h.2.2.1 s k q
theorem Rd_rn {X X' : XS} (h : RdF X X') {i v : Int} {w : Int64} : RdF X (rn X' i w v) := Rd_F (Rd_F (Rd_J h) (by decide) (by decide)) (by decide) (by decide)
def KeyC (X : XS) : Prop := (-1 ≤ XF X 4 0 8 ∧ XF X 4 0 8 ≤ 26) ∧ (XF X 4 0 8 = -1 → ∀ i : Int, 0 ≤ i → i < 27 → XJ X 21 0 i ≠ XJ X 4 0 7) ∧ (0 ≤ XF X 4 0 8 → XJ X 21 0 (XF X 4 0 8) = XJ X 4 0 7)
/-- what step leaves, seen from the place q where blanks end -/
def StP (X : XS) (q : Int) : Prop :=
  (XF X 4 0 3 ≤ q ∧ XF X 4 0 5 = 0 ∧ XF X 4 0 8 = -1 ∧ XF X 4 0 6 = XF X 4 0 3 ∧ XF X 4 0 4 = q) ∨
  (q < XF X 4 0 3 ∧ XF X 4 0 6 = q ∧
    ((¬ tA (XR X 20 0 q) ∧ ¬ tD (XR X 20 0 q) ∧ XF X 4 0 4 = q + 1 ∧ XF X 4 0 8 = -1 ∧ (tS (XR X 20 0 q) ∧ XF X 4 0 5 = XR X 20 0 q ∨ ¬ tS (XR X 20 0 q) ∧ XF X 4 0 5 = 3)) ∨
     (q < XF X 4 0 4 ∧ XF X 4 0 4 ≤ XF X 4 0 2 ∧ (XF X 4 0 4 < XF X 4 0 2 → ¬ tA (XR X 20 0 (XF X 4 0 4)) ∧ ¬ tD (XR X 20 0 (XF X 4 0 4))) ∧
      ∃ L, RunI (XR X 20 0) q (XF X 4 0 4) L (XJ X 4 0 7) (XF X 4 0 9) ∧
       ((L = XF X 4 0 4 - q ∧ XF X 4 0 4 - q ≤ 7 ∧ XF X 4 0 5 = 1 ∧ KeyC X) ∨
        (¬ (L = XF X 4 0 4 - q ∧ XF X 4 0 4 - q ≤ 7) ∧ XF X 4 0 8 = -1 ∧ (L = 0 ∧ XF X 4 0 4 - q ≤ 3 ∧ XF X 4 0 5 = 2 ∨ ¬ (L = 0 ∧ XF X 4 0 4 - q ≤ 3) ∧ XF X 4 0 5 = 3))))))
theorem W_rn {X : XS} (W : WF X) {i v : Int} {w : Int64} (h1 : Rg i) (h2 : Rg v) : WF (rn X i w v) := W_F (W_F (W_J W) h2.1 h2.2) h1.1 h1.2
theorem e_s52 {f0 : Nat} {Y : YS} {X : XS} (g : GY Y) (W : WF X) {q : Int} (hq : XF X 4 0 4 = q) (q0 : 0 ≤ q) (qs : q ≤ XF X 4 0 2) (st : 0 ≤ XF X 4 0 3 ∧ XF X 4 0 3 ≤ XF X 4 0 2) (sz : XF X 4 0 2 ≤ 940) (ht : ∀ i, 0 ≤ i → i < 940 → -128 ≤ XR X 20 0 i ∧ XR X 20 0 i < 128) (hf : 2000 ≤ f0) : ∃ X', bX4_step_52 f0 (Ad Y 4 0) (hp Y X) = some (hp Y X') ∧ RdF X X' ∧ WF X' ∧ StP X' q := by
  by_cases c : q < XF X 4 0 3
  · obtain ⟨X1, hX1⟩ : ∃ X1, X1 = sF (sF X 4 0 8 (-1)) 4 0 6 q := ⟨_, rfl⟩
    have R1 : RdF X X1 := by rw [hX1]; exact Rd_F (Rd_F Rd_refl (by decide) (by decide)) (by decide) (by decide)
    have W1 : WF X1 := by rw [hX1]; exact W_F (W_F W (by decide) (by decide)) (by omega) (by omega)
    have x4 : XF X1 4 0 4 = q := by rw [hX1]; exact hq
    have x6 : XF X1 4 0 6 = q := by rw [hX1]; rfl
    have x8 : XF X1 4 0 8 = -1 := by rw [hX1]; rfl
    have x2 : XF X1 4 0 2 = XF X 4 0 2 := by rw [hX1]; rfl
    have x3 : XF X1 4 0 3 = XF X 4 0 3 := by rw [hX1]; rfl
    have y4 : XF (sF X 4 0 8 (-1)) 4 0 4 = q := hq
    have y3 : XF (sF X 4 0 8 (-1)) 4 0 3 = XF X 4 0 3 := rfl
    have x20 : XR X1 20 0 = XR X 20 0 := by rw [hX1]; rfl
    obtain ⟨e, L, w, v, er, ⟨e0, e1⟩, hI, hn⟩ := e_run (f0 := f0) (X := X1) g W1 x4 x6 q0 (by omega) (by omega) hf
    have hL := hI.1
    have hv := hI.2.2.2.2.2.2.2.1.1
    rw [x20] at hI hn
    rw [x2] at e1 hn
    have c2 : ¬ XF X 4 0 3 < q := by omega
    have W2 : WF (rn X1 e w v) := W_rn W1 ⟨by omega, by omega⟩ ⟨by omega, by omega⟩
    have R2 : RdF X (rn X1 e w v) := Rd_rn R1
    have z8 : XF (rn X1 e w v) 4 0 8 = -1 := x8
    have z6 : XF (rn X1 e w v) 4 0 6 = q := x6
    have z3 : XF (rn X1 e w v) 4 0 3 = XF X 4 0 3 := x3
    have z20 : XR (rn X1 e w v) 20 0 = XR X 20 0 := x20
    by_cases d : e - q = 0
    · have eq : e = q := by omega
      have na := hn (by omega)
      have tq := ht e (by omega) (by omega)
      have sg := sgI_rg (t := XR X 20 0 e)
      rw [eq] at na
      have dc := by_ch tq.1 tq.2
      have ix := e_idx (f0 := f0) (h := hp Y (rn X1 e w v)) tq.1 tq.2 (by omega)
      by_cases sn : sgI (XR X 20 0 e) < 0
      · refine ⟨sF (sF (rn X1 e w v) 4 0 5 3) 4 0 4 (e + 1), ?_, Rd_F (Rd_F R2 (by decide) (by decide)) (by decide) (by decide), W_F (W_F W2 (by decide) (by decide)) (by omega) (by omega), .inr ⟨?_, ?_, .inl ⟨?_, ?_, ?_, ?_, .inr ⟨?_, ?_⟩⟩⟩⟩
        · have zz : XF (sF (rn X1 e w v) 4 0 5 3) 4 0 4 = e := rfl
          simp (disch := first | assumption | omega) only [bX4_step_52, bX4_step_144, g_4_4, g_4_3, g_4_6, g_4_0, p_4_8, p_4_6, p_4_5, k_4, l_20, lm_1, li_1, li_0, li_255, li_65536, li_3, li_7, ob2, iI_sub, p_4_4, iI_add, Option.bind_some, iI_neg, y4, y3, iI_lt, if_neg c2, iI_neg, ← hX1, x4, x3, if_pos c, er, rn_f4, z6, iI_sub, iI_eq, if_pos d, z20, ii_dy, dc, ix, if_pos sn, zz]
        · show q < XF X1 4 0 3; omega
        · exact z6
        · show ¬ tA (XR X1 20 0 q); rw [x20]; exact na.1
        · show ¬ tD (XR X1 20 0 q); rw [x20]; exact na.2
        · show e + 1 = q + 1; omega
        · exact z8
        · show ¬ tS (XR X1 20 0 q); rw [x20]; rw [← eq]; exact sgI_n.mp sn
        · rfl
      · refine ⟨sF (sF (rn X1 e w v) 4 0 5 (XR X 20 0 e)) 4 0 4 (e + 1), ?_, Rd_F (Rd_F R2 (by decide) (by decide)) (by decide) (by decide), W_F (W_F W2 (by omega) (by omega)) (by omega) (by omega), .inr ⟨?_, ?_, .inl ⟨?_, ?_, ?_, ?_, .inl ⟨?_, ?_⟩⟩⟩⟩
        · have zz : ∀ t, XF (sF (rn X1 e w v) 4 0 5 t) 4 0 4 = e := fun t => rfl
          simp (disch := first | assumption | omega) only [bX4_step_52, bX4_step_144, g_4_4, g_4_3, g_4_6, g_4_0, p_4_8, p_4_6, p_4_5, k_4, l_20, lm_1, li_1, li_0, li_255, li_65536, li_3, li_7, ob2, iI_sub, p_4_4, iI_add, Option.bind_some, iI_neg, y4, y3, iI_lt, if_neg c2, iI_neg, ← hX1, x4, x3, if_pos c, er, rn_f4, z6, iI_sub, iI_eq, if_pos d, z20, ii_dy, dc, ix, if_neg sn, zz]
        · show q < XF X1 4 0 3; omega
        · exact z6
        · show ¬ tA (XR X1 20 0 q); rw [x20]; exact na.1
        · show ¬ tD (XR X1 20 0 q); rw [x20]; exact na.2
        · show e + 1 = q + 1; omega
        · exact z8
        · show tS (XR X1 20 0 q); rw [x20, ← eq]; exact Classical.byContradiction fun k => sn (sgI_n.mpr k)
        · show XR X 20 0 e = XR X1 20 0 q; rw [x20, eq]
    · by_cases wd : L = e - q ∧ e - q ≤ 7
      · have n7 : ¬ 7 < e - q := by omega
        have wL := wd.1
        obtain ⟨k, fr, k1, k2, k3⟩ := e_findR (f0 := f0) (Y := Y) (X := sF (rn X1 e w v) 4 0 5 1) g (by omega)
        refine ⟨sF (sF (rn X1 e w v) 4 0 5 1) 4 0 8 k, ?_, Rd_F (Rd_F R2 (by decide) (by decide)) (by decide) (by decide), W_F (W_F W2 (by decide) (by decide)) (by omega) (by omega), .inr ⟨?_, ?_, .inr ⟨?_, ?_, ?_, L, ?_, .inl ⟨?_, ?_, ?_, ?_⟩⟩⟩⟩
        · simp (disch := first | assumption | omega) only [bX4_step_52, g_4_4, g_4_3, g_4_6, g_4_0, p_4_8, p_4_6, p_4_5, k_4, l_20, lm_1, li_1, li_0, li_255, li_65536, li_3, li_7, ob2, iI_sub, Option.bind_some, iI_add, iI_neg, y4, y3, iI_lt, if_neg c2, iI_neg, ← hX1, x4, x3, if_pos c, er, rn_f4, z6, iI_sub, iI_eq, if_neg d, if_pos wL, if_neg n7, fr]
        · show q < XF X1 4 0 3; omega
        · exact z6
        · show q < e; omega
        · show e ≤ XF X1 4 0 2; omega
        · show e < XF X1 4 0 2 → ¬ tA (XR X1 20 0 e) ∧ ¬ tD (XR X1 20 0 e); rw [x20, x2]; exact hn
        · show RunI (XR X1 20 0) q e L w v; rw [x20]; exact hI
        · exact wL
        · exact wd.2
        · rfl
        · exact ⟨k1, k2, k3⟩
      · have k187 : fX4_readRun f0 (Ad Y 4 0) (hp Y X1) = some (iI L, hp Y (rn X1 e w v)) → bX4_step_52 f0 (Ad Y 4 0) (hp Y X) = bX4_step_187 f0 (Ad Y 4 0) (iI L) (iI (e - q)) (hp Y (rn X1 e w v)) := by
          intro er
          by_cases wL : L = e - q
          · have n7 : 7 < e - q := by omega
            simp (disch := first | assumption | omega) only [bX4_step_52, g_4_4, g_4_3, g_4_6, g_4_0, p_4_8, p_4_6, p_4_5, k_4, l_20, lm_1, li_1, li_0, li_255, li_65536, li_3, li_7, ob2, iI_sub, Option.bind_some, iI_add, iI_neg, y4, y3, iI_lt, if_neg c2, iI_neg, ← hX1, x4, x3, if_pos c, er, rn_f4, z6, iI_sub, iI_eq, if_neg d, if_pos wL, if_pos n7]
          · simp (disch := first | assumption | omega) only [bX4_step_52, g_4_4, g_4_3, g_4_6, g_4_0, p_4_8, p_4_6, p_4_5, k_4, l_20, lm_1, li_1, li_0, li_255, li_65536, li_3, li_7, ob2, iI_sub, Option.bind_some, iI_add, iI_neg, y4, y3, iI_lt, if_neg c2, iI_neg, ← hX1, x4, x3, if_pos c, er, rn_f4, z6, iI_sub, iI_eq, if_neg d, if_neg wL]
        rw [k187 er]
        have fin : ∀ so, StP (sF (rn X1 e w v) 4 0 5 so) q ↔ StP (sF (rn X1 e w v) 4 0 5 so) q := fun _ => Iff.rfl
        by_cases dg : L = 0 ∧ e - q ≤ 3
        · have d0 := dg.1
          have n3 : ¬ 3 < e - q := by omega
          refine ⟨sF (rn X1 e w v) 4 0 5 2, ?_, Rd_F R2 (by decide) (by decide), W_F W2 (by decide) (by decide), .inr ⟨?_, ?_, .inr ⟨?_, ?_, ?_, L, ?_, .inr ⟨?_, ?_, .inl ⟨?_, ?_, ?_⟩⟩⟩⟩⟩
          · simp (disch := first | assumption | omega) only [bX4_step_187, bX4_step_202, li_0, li_3, li_2, p_4_5, Option.bind_some, iI_add, iI_lt, iI_eq, if_pos d0, if_neg n3]
          · show q < XF X1 4 0 3; omega
          · exact z6
          · show q < e; omega
          · show e ≤ XF X1 4 0 2; omega
          · show e < XF X1 4 0 2 → ¬ tA (XR X1 20 0 e) ∧ ¬ tD (XR X1 20 0 e); rw [x20, x2]; exact hn
          · show RunI (XR X1 20 0) q e L w v; rw [x20]; exact hI
          · exact wd
          · exact z8
          · exact d0
          · exact dg.2
          · rfl
        · refine ⟨sF (rn X1 e w v) 4 0 5 3, ?_, Rd_F R2 (by decide) (by decide), W_F W2 (by decide) (by decide), .inr ⟨?_, ?_, .inr ⟨?_, ?_, ?_, L, ?_, .inr ⟨?_, ?_, .inr ⟨?_, ?_⟩⟩⟩⟩⟩
          · by_cases d0 : L = 0
            · have n3 : 3 < e - q := by omega
              simp (disch := first | assumption | omega) only [bX4_step_187, bX4_step_202, bX4_step_201, li_0, li_3, li_2, p_4_5, Option.bind_some, iI_add, iI_lt, iI_eq, if_pos d0, if_pos n3]
            · simp (disch := first | assumption | omega) only [bX4_step_187, bX4_step_202, bX4_step_201, li_0, li_3, li_2, p_4_5, Option.bind_some, iI_add, iI_lt, iI_eq, if_neg d0]
          · show q < XF X1 4 0 3; omega
          · exact z6
          · show q < e; omega
          · show e ≤ XF X1 4 0 2; omega
          · show e < XF X1 4 0 2 → ¬ tA (XR X1 20 0 e) ∧ ¬ tD (XR X1 20 0 e); rw [x20, x2]; exact hn
          · show RunI (XR X1 20 0) q e L w v; rw [x20]; exact hI
          · exact wd
          · exact z8
          · exact dg
          · rfl
  · have y4 : XF (sF X 4 0 8 (-1)) 4 0 4 = q := hq
    have y3 : XF (sF X 4 0 8 (-1)) 4 0 3 = XF X 4 0 3 := rfl
    have u4 : XF (sF (sF X 4 0 8 (-1)) 4 0 6 (XF X 4 0 3)) 4 0 4 = q := hq
    have u3 : XF (sF (sF X 4 0 8 (-1)) 4 0 6 (XF X 4 0 3)) 4 0 3 = XF X 4 0 3 := rfl
    have hm : (if XF X 4 0 3 < q then iI (XF X 4 0 3) else iI q) = iI (XF X 4 0 3) := by
      split
      · rfl
      · rw [show q = XF X 4 0 3 by omega]
    refine ⟨sF (sF (sF X 4 0 8 (-1)) 4 0 6 (XF X 4 0 3)) 4 0 5 0, ?_, Rd_F (Rd_F (Rd_F Rd_refl (by decide) (by decide)) (by decide) (by decide)) (by decide) (by decide), W_F (W_F (W_F W (by decide) (by decide)) (by omega) (by omega)) (by decide) (by decide), .inl ⟨?_, rfl, rfl, rfl, hq⟩⟩
    · simp (disch := first | assumption | omega) only [bX4_step_52, g_4_4, g_4_3, g_4_6, g_4_0, p_4_8, p_4_6, p_4_5, k_4, l_20, lm_1, li_1, li_0, li_255, li_65536, li_3, li_7, ob2, iI_sub, Option.bind_some, iI_add, iI_neg, y4, y3, iI_lt, iI_neg, hm, u4, u3, if_neg c]
    · show XF X 4 0 3 ≤ q; omega
theorem e_step {f0 : Nat} {Y : YS} {X : XS} (g : GY Y) (W : WF X) {a : Int} (ha : XF X 4 0 4 = a) (a0 : 0 ≤ a) (asz : a ≤ XF X 4 0 2) (st : 0 ≤ XF X 4 0 3 ∧ XF X 4 0 3 ≤ XF X 4 0 2) (sz : XF X 4 0 2 ≤ 940) (ht : ∀ i, 0 ≤ i → i < 940 → -128 ≤ XR X 20 0 i ∧ XR X 20 0 i < 128) (hf : 2000 ≤ f0) : ∃ X' q, fX4_step f0 (Ad Y 4 0) (hp Y X) = some (hp Y X') ∧ RdF X X' ∧ WF X' ∧ StP X' q ∧ (a ≤ q ∧ (q ≤ XF X 4 0 3 ∨ q = a)) ∧ (∀ j, a ≤ j → j < q → tW (XR X 20 0 j)) ∧ (q < XF X 4 0 3 → ¬ tW (XR X 20 0 q)) := by
  have z : fX4_step f0 (Ad Y 4 0) (hp Y X) = bX4_step_0 f0 f0 (Ad Y 4 0) (hp Y (sF X 4 0 4 a)) := by
    rw [← ha, sF_self]; rfl
  rw [z]
  refine lp (fun f (i : Int) => bX4_step_0 f0 f (Ad Y 4 0) (hp Y (sF X 4 0 4 i))) (fun i => (a ≤ i ∧ (i ≤ XF X 4 0 3 ∨ i = a)) ∧ ∀ j, a ≤ j → j < i → tW (XR X 20 0 j)) (fun i => (940 - i).toNat) (fun r => ∃ X' q, r = some (hp Y X') ∧ RdF X X' ∧ WF X' ∧ StP X' q ∧ (a ≤ q ∧ (q ≤ XF X 4 0 3 ∨ q = a)) ∧ (∀ j, a ≤ j → j < q → tW (XR X 20 0 j)) ∧ (q < XF X 4 0 3 → ¬ tW (XR X 20 0 q))) ?_ f0 a ⟨⟨by omega, .inr rfl⟩, fun j j0 j1 => by omega⟩ (by show (940 - a).toNat < f0; omega)
  rintro f i ⟨⟨i0, i1⟩, hI⟩
  have f4 : XF (sF X 4 0 4 i) 4 0 4 = i := rfl
  have f3 : XF (sF X 4 0 4 i) 4 0 3 = XF X 4 0 3 := rfl
  have f20 : XR (sF X 4 0 4 i) 20 0 = XR X 20 0 := rfl
  have t1 := W_rl W 20 0 i; have t2 := W_rh W 20 0 i
  have Wi : WF (sF X 4 0 4 i) := W_F W (by omega) (by omega)
  have e52 := e_s52 (f0 := f0) (X := sF X 4 0 4 i) g Wi (q := i) rfl (by omega) (by show i ≤ XF X 4 0 2; omega) st sz ht hf
  obtain ⟨X', e1, e2, e3, e4⟩ := e52
  have r1 : RdF X X' := Rd_trans (Rd_F Rd_refl (by decide) (by decide)) e2
  by_cases c : XF X 4 0 3 ≤ i
  · left
    refine ⟨X', i, ?_, r1, e3, e4, ⟨i0, i1⟩, hI, fun q => by omega⟩
    rw [← e1]
    simp (disch := first | assumption | omega) only [bX4_step_0, g_4_4, g_4_3, g_4_0, l_20, li_0, li_1, li_32, li_10, iI_add, Option.bind_some, f4, f3, iI_le, if_pos c]
  · by_cases w1 : XR X 20 0 i = 32
    · right
      refine ⟨i + 1, ?_, ⟨⟨by omega, by omega⟩, fun j j0 j1 => ?_⟩, by show (940 - (i + 1)).toNat < (940 - i).toNat; omega⟩
      · simp (disch := first | assumption | omega) only [bX4_step_0, bX4_step_39, g_4_4, g_4_3, g_4_0, l_20, li_0, li_1, li_32, li_10, iI_add, p_4_4, Option.bind_some, f4, f3, f20, iI_le, iI_eq, if_neg c, if_pos w1, sF_sF]
      · by_cases q : j = i
        · rw [q]; exact .inl w1
        · exact hI j j0 (by omega)
    · by_cases w2 : XR X 20 0 i = 10
      · right
        refine ⟨i + 1, ?_, ⟨⟨by omega, by omega⟩, fun j j0 j1 => ?_⟩, by show (940 - (i + 1)).toNat < (940 - i).toNat; omega⟩
        · simp (disch := first | assumption | omega) only [bX4_step_0, bX4_step_39, g_4_4, g_4_3, g_4_0, l_20, li_0, li_1, li_32, li_10, iI_add, p_4_4, Option.bind_some, f4, f3, f20, iI_le, iI_eq, if_neg c, if_neg w1, if_pos w2, sF_sF]
        · by_cases q : j = i
          · rw [q]; exact .inr w2
          · exact hI j j0 (by omega)
      · left
        refine ⟨X', i, ?_, r1, e3, e4, ⟨i0, i1⟩, hI, fun _ q => by omega⟩
        rw [← e1]
        simp (disch := first | assumption | omega) only [bX4_step_0, g_4_4, g_4_3, g_4_0, l_20, li_0, li_1, li_32, li_10, iI_add, Option.bind_some, f4, f3, f20, iI_le, iI_eq, if_neg c, if_neg w1, if_neg w2]
