/-! sea, AS A CALL -/
def clX (X : XS) : XS := sR (sR (sR (sR (sR (sR (sF (sR (sF X 3 1 3 0) 25 1 (flr 0 (XR X 25 1) 7)) 6 1 2 0) 26 1 (flr 0 (XR X 26 1) 64)) 27 1 (flr 0 (XR X 27 1) 64)) 28 1 (flr 0 (XR X 28 1) 64)) 29 1 (flr 0 (XR X 29 1) 64)) 30 1 (flr 0 (XR X 30 1) 64)) 31 1 (flr 0 (XR X 31 1) 8)
theorem e_clear {f0 : Nat} {Y : YS} {X : XS} (g : GY Y) (hf : 2000 ≤ f0) : fX6_clear f0 (Ad Y 6 1) (hp Y X) = some (hp Y (clX X)) := by
  have g1 := SeO_1 g
  have f25 := fun X : XS => e_fill (f0 := f0) (Y := Y) (X := X) (s := 25) (k := 1) (n := 7) (by decide) (by decide) (fun X i v h0 h1 => s_25 g1 h0 h1) (n_25 g1) 0 hf
  have f26 := fun X : XS => e_fill (f0 := f0) (Y := Y) (X := X) (s := 26) (k := 1) (n := 64) (by decide) (by decide) (fun X i v h0 h1 => s_26 g1 h0 h1) (n_26 g1) 0 hf
  have f27 := fun X : XS => e_fill (f0 := f0) (Y := Y) (X := X) (s := 27) (k := 1) (n := 64) (by decide) (by decide) (fun X i v h0 h1 => s_27 g1 h0 h1) (n_27 g1) 0 hf
  have f28 := fun X : XS => e_fill (f0 := f0) (Y := Y) (X := X) (s := 28) (k := 1) (n := 64) (by decide) (by decide) (fun X i v h0 h1 => s_28 g1 h0 h1) (n_28 g1) 0 hf
  have f29 := fun X : XS => e_fill (f0 := f0) (Y := Y) (X := X) (s := 29) (k := 1) (n := 64) (by decide) (by decide) (fun X i v h0 h1 => s_29 g1 h0 h1) (n_29 g1) 0 hf
  have f30 := fun X : XS => e_fill (f0 := f0) (Y := Y) (X := X) (s := 30) (k := 1) (n := 64) (by decide) (by decide) (fun X i v h0 h1 => s_30 g1 h0 h1) (n_30 g1) 0 hf
  have f31 := fun X : XS => e_fill (f0 := f0) (Y := Y) (X := X) (s := 31) (k := 1) (n := 8) (by decide) (by decide) (fun X i v h0 h1 => s_31 g1 h0 h1) (n_31 g1) 0 hf
  simp (disch := first | assumption | omega) only [fX6_clear, g_6_0, g_6_1, g_6_3, g_6_4, g_6_5, g_6_6, g_6_7, g_6_8, p_3_3, p_6_2, li_0, Option.bind_some, iI_add, f25, f26, f27, f28, f29, f30, f31]
  rfl
theorem flr_in {r : Int → Int} {n i : Int} (h0 : 0 ≤ i) (h1 : i < n) : flr 0 r n i = 0 := by unfold flr; rw [if_pos ⟨h0, h1⟩]
theorem flr_W {r : Int → Int} {n : Int} (h : ∀ i, Rg (r i)) : ∀ i, Rg (flr 0 r n i) := fun i => by unfold flr; split; exact ⟨by decide, by decide⟩; exact h i
/-- the draft at first -/
theorem cl_C {X : XS} (W : WF X) (t : TokC X) (rs : RsC X) (f10 : XF X 4 0 10 = 0) : LC (sF (clX X) 7 0 2 0) ∧ Sy (sF (clX X) 7 0 2 0) ∧ FrC X (sF (clX X) 7 0 2 0) := by
  have e25 : ∀ i, 0 ≤ i → i < 7 → XR (sF (clX X) 7 0 2 0) 25 1 i = 0 := fun i i0 i1 => flr_in i0 i1
  refine ⟨⟨?_, TokC_s (X := X) ⟨fun _ => rfl, rfl, rfl, rfl⟩ t, rs, ⟨?_, ⟨?_, fun i i0 i1 => ?_⟩, fun i i0 i1 => ?_, fun i i0 i1 => ?_, ⟨Int.le_refl _, by show (0 : Int) ≤ 12; decide⟩, .inl rfl⟩, f10⟩, fun p q p0 p8 q0 q8 => ?_, ?_⟩
  · unfold clX
    exact W_F (W_R (W_R (W_R (W_R (W_R (W_R (W_F (W_R (W_F W (by decide) (by decide)) (flr_W fun i => W.2 _ _ _)) (by decide) (by decide)) (flr_W fun i => W.2 _ _ _)) (flr_W fun i => W.2 _ _ _)) (flr_W fun i => W.2 _ _ _)) (flr_W fun i => W.2 _ _ _)) (flr_W fun i => W.2 _ _ _)) (flr_W fun i => W.2 _ _ _)) (by decide) (by decide)
  · rw [e25 0 (by decide) (by decide), e25 1 (by decide) (by decide), e25 2 (by decide) (by decide), e25 3 (by decide) (by decide), e25 4 (by decide) (by decide), e25 5 (by decide) (by decide), e25 6 (by decide) (by decide)]
    decide
  · rw [e25 0 (by decide) (by decide), e25 3 (by decide) (by decide), e25 4 (by decide) (by decide), e25 5 (by decide) (by decide)]; rfl
  · have : i < 0 := i1
    omega
  · have h : ∀ t, flr 0 (XR X t 1) 64 i = 0 := fun t => flr_in i0 i1
    show (0 ≤ flr 0 (XR X 26 1) 64 i ∧ flr 0 (XR X 26 1) 64 i ≤ 20) ∧ (0 ≤ flr 0 (XR X 27 1) 64 i ∧ flr 0 (XR X 27 1) 64 i ≤ 40) ∧ (0 ≤ flr 0 (XR X 28 1) 64 i ∧ flr 0 (XR X 28 1) 64 i ≤ 250) ∧ (0 ≤ flr 0 (XR X 29 1) 64 i ∧ flr 0 (XR X 29 1) 64 i ≤ 250) ∧ 0 ≤ flr 0 (XR X 30 1) 64 i ∧ flr 0 (XR X 30 1) 64 i ≤ 1
    rw [h 26, h 27, h 28, h 29, h 30]; decide
  · have : XR (sF (clX X) 7 0 2 0) 31 1 i = 0 := flr_in i0 i1
    rw [this]; exact ⟨by decide, fun _ => rfl⟩
  · show flr 0 (XR X 26 1) 64 (p * 8 + q) = flr 0 (XR X 26 1) 64 (q * 8 + p)
    rw [flr_in (by omega) (by omega), flr_in (by omega) (by omega)]
  · unfold clX
    exact FrC_F (FrC_R (FrC_R (FrC_R (FrC_R (FrC_R (FrC_R (FrC_F (FrC_R (FrC_F FrC_refl (by decide)) (by decide)) (by decide)) (by decide)) (by decide)) (by decide)) (by decide)) (by decide)) (by decide)) (by decide)
theorem cl_R {X Z : XS} (WZ : WF Z) (tr : TokR X Z) (rz : RsR Z) (h62 : ∀ i, 0 ≤ i → i < 312 → XR Z 62 0 i = 0) (h20 : XF Z 12 0 20 = 0) (h15 : XF Z 12 0 15 = 0) : LR (sF (clX X) 7 0 2 0) Z := by
  have e25 : ∀ i, 0 ≤ i → i < 7 → XR (sF (clX X) 7 0 2 0) 25 1 i = 0 := fun i i0 i1 => flr_in i0 i1
  refine ⟨WZ, TokR_s (X := X) ⟨fun _ => rfl, rfl, rfl, rfl⟩ NxS_refl tr, rz, ⟨?_, ⟨fun i i0 i1 => ?_, fun i i0 i1 => ?_, fun s t s0 s1 t0 t1 => ?_, fun i i0 i1 => ?_⟩, ⟨fun a b a0 a1 b0 b1 => ?_, fun s s0 s1 r hr => ?_⟩, h20⟩, ⟨⟨?_, ?_⟩, fun i i0 i1 => ?_, fun s k hs k0 k1 => ?_, fun i i' i0 i1 => ?_⟩, h15⟩
  · unfold CnR
    rw [e25 0 (by decide) (by decide), e25 1 (by decide) (by decide), e25 2 (by decide) (by decide), e25 3 (by decide) (by decide), e25 4 (by decide) (by decide), e25 5 (by decide) (by decide), e25 6 (by decide) (by decide), h62 0 (by decide) (by decide), h62 1 (by decide) (by decide), h62 2 (by decide) (by decide), h62 3 (by decide) (by decide), h62 4 (by decide) (by decide), h62 5 (by decide) (by decide), h62 6 (by decide) (by decide), h62 7 (by decide) (by decide)]
    exact ⟨rfl, rfl, rfl, rfl, rfl, rfl, rfl, rfl⟩
  · rw [h62 (8 + i) (by omega) (by omega), h62 (72 + i) (by omega) (by omega), h62 (136 + i) (by omega) (by omega), h62 (200 + i) (by omega) (by omega)]
    exact ⟨flr_in i0 i1, flr_in i0 i1, flr_in i0 i1, flr_in i0 i1⟩
  · rw [h62 (264 + i) (by omega) (by omega), h62 (272 + i) (by omega) (by omega)]
    exact ⟨by decide, flr_in i0 i1⟩
  · rw [h62 (264 + s) (by omega) (by omega), if_neg (by unfold bitI; simp)]
    exact flr_in (by omega) (by omega)
  · rw [h62 7 (by decide) (by decide)] at i1; omega
  · rw [h62 0 (by decide) (by decide), h62 1 (by decide) (by decide), h62 (8 + (8 * a + b)) (by omega) (by omega), h62 (72 + (8 * a + b)) (by omega) (by omega), h62 (136 + (8 * a + b)) (by omega) (by omega), h62 (8 + (8 * b + a)) (by omega) (by omega)]
    exact ⟨fun _ => ⟨rfl, rfl⟩, fun _ => rfl, rfl, by decide⟩
  · rw [h62 (264 + s) (by omega) (by omega)] at hr; simp at hr
  · exact Int.le_refl _
  · rw [h62 0 (by decide) (by decide), h62 1 (by decide) (by decide), h62 2 (by decide) (by decide), h62 3 (by decide) (by decide)]; rfl
  · have : i < 0 := i1
    omega
  · rw [nc_ci, h62 _ (ci_rg s).1 (by have := (ci_rg s).2; omega)] at k1; omega
  · have : i < 0 := i1
    omega
/-- h is emptied -/
theorem r_h0 {f0 : Nat} {Y : YS} {Z : XS} (g : GY Y) (hf : 2000 ≤ f0) : bX12_sea_29 f0 f0 (Ad Y 12 0) (iI 0) (hp Y Z) = (fX12_next f0 (Ad Y 12 0) (hp Y (sR Z 62 0 (flr 0 (XR Z 62 0) 312)))).bind fun h50 => bX12_sea_53 f0 f0 (Ad Y 12 0) h50 := by
  have z : bX12_sea_29 f0 f0 (Ad Y 12 0) (iI 0) (hp Y Z) = bX12_sea_29 f0 f0 (Ad Y 12 0) (iI 0) (hp Y (sR Z 62 0 (flr 0 (XR Z 62 0) 0))) := by rw [flr_0, sR_self]
  rw [z]
  refine lp (fun f (k : Int) => bX12_sea_29 f0 f (Ad Y 12 0) (iI k) (hp Y (sR Z 62 0 (flr 0 (XR Z 62 0) k)))) (fun k => 0 ≤ k ∧ k ≤ 312) (fun k => (313 - k).toNat) (fun z => z = _) ?_ f0 0 ⟨by omega, by omega⟩ (by show (313 - (0 : Int)).toNat < f0; omega)
  rintro f k ⟨k0, k1⟩
  by_cases c : (312 : Int) ≤ k
  · left
    have ke : k = 312 := by omega
    subst ke
    simp (disch := first | assumption | omega) only [bX12_sea_29, g_12_7, k_12, s_62, li_0, li_1, li_312, iI_add, Option.bind_some, iI_le, if_pos c]
  · right
    refine ⟨k + 1, ?_, ⟨by omega, by omega⟩, by show (313 - (k + 1)).toNat < (313 - k).toNat; omega⟩
    have x62 : ∀ t, XR (sR Z 62 0 t) 62 0 = t := fun t => rfl
    rw [← flr_s 0 (XR Z 62 0) k0]
    simp (disch := first | assumption | omega) only [bX12_sea_29, g_12_7, k_12, s_62, li_0, li_1, li_312, iI_add, Option.bind_some, iI_le, if_neg c, x62, sR_sR]
/-- the reference up to its lines -/
def rfI (Z : XS) (m : Int) : XS := sF (sF (sF (sF (sF (sF Z 12 0 0 0) 12 0 3 (XF Z 12 0 2)) 12 0 2 0) 12 0 4 0) 12 0 5 m) 12 0 15 0
theorem rfI_tx {Z : XS} {m : Int} : TxF Z (rfI Z m) := TxF_F (TxF_F (TxF_F (TxF_F (TxF_F (TxF_F TxF_refl (by decide)) (by decide)) (by decide)) (by decide)) (by decide)) (by decide)
theorem r_seaI {f0 : Nat} {Y : YS} {Z : XS} (g : GY Y) (hf : 2000 ≤ f0) : fX12_sea f0 (Ad Y 12 0) (hp Y Z) = bX12_sea_29 f0 f0 (Ad Y 12 0) (iI 0) (hp Y (sF (sF (rfI Z 900) 12 0 19 0) 12 0 20 0)) := by
  have f2 : XF (sF Z 12 0 0 0) 12 0 2 = XF Z 12 0 2 := rfl
  have zz := z_12_20 (Y := Y) (X := sF (rfI Z 900) 12 0 19 0) g (v := 0) (.inl rfl)
  unfold rfI at *
  simp (disch := first | assumption | omega) only [fX12_sea, fX12_taken, p_12_0, p_12_15, p_12_19, z_12_20, k_12, li_0, li_900, g_12_2, p_12_3, p_12_2, p_12_4, p_12_5, Option.bind_some, iI_add, f2, zz]
