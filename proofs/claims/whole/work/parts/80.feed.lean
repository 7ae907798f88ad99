/-! feed, as a call -/
theorem op_feed {f0 : Nat} {Y : YS} {X : XS} (h : Inv Y X) {a b c d e : Int32} (hf : 2000 ≤ f0) : ∃ v X1 X2, fX11_feed f0 (Ad Y 11 0) a b c d e (hp Y X) = some (v, hp Y X1) ∧ fX12_feed f0 (Ad Y 12 0) a b c d e (hp Y X1) = some (v, hp Y X2) ∧ Inv Y X2 := by
  have g := h.1.1; have W := h.2.1
  have f20 : 20 ≤ f0 := by omega
  have th := Inv_th h (v := 0) ⟨by decide, by decide⟩
  obtain ⟨t1, t2, t3⟩ := h.2.2.1
  obtain ⟨n, hn⟩ : ∃ n, n = XF X 11 0 1 := ⟨_, rfl⟩
  rw [← hn] at t2 t3
  have f2 : XF (sF X 12 0 0 0) 12 0 2 = XF X 12 0 2 := rfl
  by_cases q : n + 20 ≤ 940
  · have e20 : X = sF (sR X 20 0 (XR X 20 0)) 11 0 1 n := by
      rw [sR_self, hn]; exact sF_self.symm
    have cl : fX11_feed f0 (Ad Y 11 0) a b c d e (hp Y X) = some (iI (n + 20), hp Y (sF (sR X 20 0 (pt20 (XR X 20 0) n a b c d e)) 11 0 1 (n + 20))) := by
      have x1 : ∀ r m, XF (sF (sR X 20 0 r) 11 0 1 m) 11 0 1 = m := fun r m => rfl
      conv => lhs; rw [e20]
      simp (disch := first | assumption | omega) only [fX11_feed, g_11_1, k_11, lm_1, li_20, li_940, li_1, iI_add, Option.bind_some, iI_neg, x1, iI_le, if_pos q, cl_put g W]
      rw [show n + 4 + 4 + 4 + 4 + 4 = n + 20 by omega]
      unfold pt20
      rw [show n + 4 + 4 = n + 8 by omega, show n + 8 + 4 = n + 12 by omega, show n + 12 + 4 = n + 16 by omega]
    obtain ⟨Z, hZ⟩ : ∃ Z, Z = sF (sF (sR X 20 0 (pt20 (XR X 20 0) n a b c d e)) 11 0 1 (n + 20)) 12 0 0 0 := ⟨_, rfl⟩
    have R20 : RgF (pt20 (XR X 20 0) n a b c d e) := pt20_rf (fun i => W.2 _ _ _)
    have R60 : RgF (pt20 (XR X 60 0) n a b c d e) := pt20_rf (fun i => W.2 _ _ _)
    have WZ : WF Z := by rw [hZ]; exact W_F (W_F (W_R W R20) (by omega) (by omega)) (by decide) (by decide)
    have z2 : XF Z 12 0 2 = n := by rw [hZ]; exact t3.symm
    have z60 : XR Z 60 0 = XR X 60 0 := by rw [hZ]; rfl
    have e60 : Z = sF (sR Z 60 0 (XR X 60 0)) 12 0 2 n := by
      rw [← z60, sR_self, ← z2]; exact sF_self.symm
    have rf : fX12_feed f0 (Ad Y 12 0) a b c d e (hp Y (sF (sR X 20 0 (pt20 (XR X 20 0) n a b c d e)) 11 0 1 (n + 20))) = some (iI (n + 20), hp Y (sF (sR Z 60 0 (pt20 (XR X 60 0) n a b c d e)) 12 0 2 (n + 20))) := by
      have x1 : ∀ r m, XF (sF (sR Z 60 0 r) 12 0 2 m) 12 0 2 = m := fun r m => rfl
      have hz2 : hp Y Z = hp Y (sF (sR Z 60 0 (XR X 60 0)) 12 0 2 n) := by rw [← e60]
      simp (disch := first | assumption | omega) only [fX12_feed, g_12_2, p_12_0, k_12, lm_1, li_0, li_20, li_940, li_1, iI_add, Option.bind_some, iI_neg, ← hZ, z2, iI_le, if_pos q]
      rw [hz2]
      simp (disch := first | assumption | omega) only [fX12_feed, g_12_2, p_12_0, k_12, lm_1, li_0, li_20, li_940, li_1, iI_add, Option.bind_some, iI_neg, x1, iI_le, if_pos q, r_put g WZ]
      rw [show n + 4 + 4 + 4 + 4 + 4 = n + 20 by omega]
      unfold pt20
      rw [show n + 4 + 4 = n + 8 by omega, show n + 8 + 4 = n + 12 by omega, show n + 12 + 4 = n + 16 by omega]
    refine ⟨_, _, _, cl, rf, ?_⟩
    obtain ⟨g', W', t', re, fl, se', na, po, sh', sn, lo, i0, i1⟩ := h
    have W2 : WF (sF (sR Z 60 0 (pt20 (XR X 60 0) n a b c d e)) 12 0 2 (n + 20)) := W_F (W_R WZ R60) (by omega) (by omega)
    subst hZ
    exact ⟨g', W2, ⟨fun i j0 j1 => pt20_e t1 i j0 j1, ⟨by show 0 ≤ n + 20; omega, by show n + 20 ≤ 940; omega⟩, rfl⟩, re, fl, se', na, po, sh', sn, lo, i0, i1⟩
  · refine ⟨iI (-1), X, sF X 12 0 0 0, ?_, ?_, th⟩
    · simp (disch := first | assumption | omega) only [fX11_feed, g_11_1, k_11, lm_1, li_20, li_940, li_1, iI_add, Option.bind_some, iI_neg, ← hn, iI_le, if_neg q, iI_neg]
    · simp (disch := first | assumption | omega) only [fX12_feed, g_12_2, p_12_0, k_12, lm_1, li_0, li_20, li_940, li_1, iI_add, Option.bind_some, iI_neg, f2, ← t3, iI_le, if_neg q, iI_neg]
