/-! sea, AS A CALL -/
theorem op_sea {f0 : Nat} {Y : YS} {X : XS} (h : Inv Y X) (hf : 2000 ≤ f0) : ∃ v X1 X2, fX11_sea f0 (Ad Y 11 0) (hp Y X) = some (v, hp Y X1) ∧ fX12_sea f0 (Ad Y 12 0) (hp Y X1) = some (v, hp Y X2) ∧ Inv Y X2 := by
  have hI := h
  obtain ⟨gy, W, tp, re, fl, se, na, po, sh, sn, lo, im0, im1⟩ := h
  have g := gy.1
  have g1 := SeO_1 g; have g0 := SeO_0 g
  obtain ⟨n, hn⟩ : ∃ n, n = XF X 11 0 1 := ⟨_, rfl⟩
  have n0 : 0 ≤ n ∧ n ≤ 940 := by rw [hn]; exact tp.2.1
  obtain ⟨X0, hX0⟩ : ∃ X0, X0 = sF X 11 0 1 0 := ⟨_, rfl⟩
  have W0 : WF X0 := by rw [hX0]; exact W_F W (by decide) (by decide)
  have x20 : XR X0 20 0 = XR X 20 0 := by rw [hX0]; rfl
  obtain ⟨Xo, eo, Wo, to, fo, so, ⟨oF, oR, oJ, oP, oM⟩, ko⟩ := j_open (f0 := f0) (X := X0) g W0 (fun i i0 i1 => by rw [x20]; exact (tp.1 i i0 i1).2) n0.1 n0.2 (m := 900) (by decide) (by decide) hf
  rw [x20] at ko
  have t0 : TxF X X0 := by rw [hX0]; exact TxF_F TxF_refl (by decide)
  have tO : TxF X0 Xo := ⟨fun s k f q => oF s k f (by omega), fun s k _ => by rw [oR], fun s k q => oJ s k (by omega), fun i _ => by rw [oJ 64 0 (by omega)], oP, oM⟩
  have rso : RsC Xo := fun i hi => by rw [oJ 21 0 (by omega), hX0]; exact (re i hi).1
  obtain ⟨c2, sy2, F2⟩ := cl_C Wo to rso fo
  obtain ⟨X2, hX2⟩ : ∃ X2, X2 = sF (clX Xo) 7 0 2 0 := ⟨_, rfl⟩
  rw [← hX2] at c2 sy2 F2
  have t2 : TxF X X2 := TxF_trans (TxF_trans t0 tO) (TxF_C F2)
  have rd : fX7_read f0 (Ad Y 7 0) (iI n) (hp Y X0) = bX7_read_25 f0 f0 (Ad Y 7 0) (iI 0) (hp Y X2) := by
    have zz := z_7_2 (Y := Y) (X := clX Xo) g (v := 0) (.inl rfl)
    rw [← hX2] at zz
    simp (disch := first | assumption | omega) only [fX7_read, g_7_0, g_7_1, z_7_2, k_4, k_6, li_900, li_0, Option.bind_some, iI_add, eo, e_clear g hf, zz]
  have tk : fX11_takeTape f0 (Ad Y 11 0) (hp Y X) = some (iI n, hp Y X0) := by
    rw [hX0, hn]
    simp (disch := first | assumption | omega) only [fX11_takeTape, g_11_1, p_11_1, li_0, Option.bind_some, iI_add]
  have b2 := c2.2.1.1.2; have b3 := c2.2.1.2.2.1
  have st9 : XF X2 4 0 3 ≤ 900 := by rw [F2.1 4 0 3 (by omega)]; exact so
  obtain ⟨X3, hh⟩ := sea_loop (f0 := f0) g hf 1000 X2 f0 f0 0 (by omega) (by omega) (by omega) c2 sy2 (by decide) b3.1 st9
  rcases hh with ⟨e3, W3, F3, fa3, k3⟩ | ⟨l, e3, c3, sy3, F3, lr, k3⟩
  · obtain ⟨Xc, hXc⟩ : ∃ Xc, Xc = sF X3 11 0 3 (XF X3 4 0 10) := ⟨_, rfl⟩
    have f1 := fa3.1; have f2 := fa3.2
    have Wc : WF Xc := by rw [hXc]; exact W_F W3 (by omega) (by omega)
    have tc : TxF X Xc := by rw [hXc]; exact TxF_F (TxF_trans t2 (TxF_C F3)) (by decide)
    have c12 : ∀ f, XF Xc 12 0 f = XF X 12 0 f := fun f => by
      rw [hXc]; show XF X3 12 0 f = _
      rw [F3.1 12 0 f (by omega), F2.1 12 0 f (by omega), oF 12 0 f (by omega), hX0]; rfl
    have rzc : RsR Xc := fun i hi => by rw [tc.2.2.1 65 0 (by omega)]; exact (re i hi).2
    obtain ⟨Zn, s1, lrn, h19, tn, nF, nR, nJ, n2, nP, nM⟩ := r_seaN (f0 := f0) (Y := Y) (X := X) g Wc rzc (by rw [c12]; exact tp.2.2.symm.trans hn.symm) n0 (fun i i0 i1 => by rw [tc.2.1 60 0 (by omega)]; exact (tp.1 i i0 i1).1) ko hf
    rw [← hX2] at lrn
    obtain ⟨Zf, y1, y2, ⟨Z2, y3⟩, y4⟩ := k3 Zn lrn
    have fr : FrR (sF Zn 12 0 19 0) (sF Zf 12 0 19 0) := by
      rcases y3 with ⟨a1, a2⟩ | ⟨a1, a2⟩
      · have a3 := FrR_trans a1 a2
        refine ⟨fun s k f q => ?_, a3.2.1, a3.2.2.1, a3.2.2.2⟩
        rw [XF_sF, XF_sF]; split
        · rfl
        · exact a3.1 s k f q
      · exact FrR_trans a2 a1
    have fF : ∀ s k f, ¬ (s = 12 ∧ k = 0 ∧ (f = 4 ∨ 11 ≤ f ∧ f ≤ 16 ∨ 18 ≤ f ∧ f ≤ 20)) → XF Zf s k f = XF Zn s k f := fun s k f q => by
      have := fr.1 s k f (by omega)
      rw [XF_sF, if_neg (by omega), XF_sF, if_neg (by omega)] at this
      exact this
    refine ⟨iI (-1 - XF X3 4 0 11), Xc, Zf, ?_, by rw [s1]; exact y1, Inv_tx hI y2 (TxF_trans (TxF_trans tc tn) (TxF_19 (TxF_R fr))) ⟨?_, ?_⟩ ?_⟩
    · have ne : ¬ XF X3 4 0 10 = 0 := by omega
      have z10 : XF (sF X3 11 0 3 (XF X3 4 0 10)) 4 0 10 = XF X3 4 0 10 := rfl
      have z11 : XF (sF X3 11 0 3 (XF X3 4 0 10)) 4 0 11 = XF X3 4 0 11 := rfl
      rw [hXc]
      simp (disch := first | assumption | omega) only [fX11_sea, g_11_6, g_11_2, g_4_10, g_11_4, g_11_5, g_11_11, g_11_7, g_4_11, p_11_3, p_11_14, k_11, k_7, k_6, k_10, k_8, lm_1, li_0, li_1, ob2, iI_sub, Option.bind_some, iI_add, iI_neg, tk, rd, e3, z10, iI_eq, if_neg ne, z11, iI_neg, iI_sub]
    · rw [fF 11 0 1 (by omega), nF 11 0 1 (by omega), hXc]; show XF X3 11 0 1 = 0
      rw [F3.1 11 0 1 (by omega), F2.1 11 0 1 (by omega), oF 11 0 1 (by omega), hX0]; rfl
    · rw [fF 12 0 2 (by omega)]; exact n2
    · rw [fF 11 0 3 (by omega), nF 11 0 3 (by omega), hXc]; show XF X3 4 0 10 = _; exact y4.1.symm
  · obtain ⟨X4, hX4⟩ : ∃ X4, X4 = sF (cc X3) 11 0 3 0 := ⟨_, rfl⟩
    obtain ⟨X6, hX6⟩ : ∃ X6, X6 = seaCp X4 0 1 := ⟨_, rfl⟩
    obtain ⟨k, hk⟩ : ∃ k, k = XP X 0 := ⟨_, rfl⟩
    have k10 : k < 10 := by rw [hk]; exact sh.1 0 (by decide)
    obtain ⟨d, hd⟩ : ∃ d, d = shG X6 k := ⟨_, rfl⟩
    obtain ⟨Xc, hXc⟩ : ∃ Xc, Xc = sF (sF (shS X6 k (stD X6 d)) 8 0 3 0) 11 0 14 0 := ⟨_, rfl⟩
    have dc3 := c3.2.2.2.1
    have W4 : WF X4 := by rw [hX4]; exact W_F (cc_W c3.1 dc3) (by decide) (by decide)
    have W6 : WF X6 := by rw [hX6]; exact sc_W W4
    have Wd : WD d := by rw [hd]; exact WD_G W6 k
    have p6 : XP X6 = XP X := by
      rw [hX6, (sc_P).1, hX4]; show XP X3 = _
      rw [F3.2.2.2.1, F2.2.2.2.1, oP, hX0]; rfl
    have m6 : XM X6 = XM X := by
      rw [hX6, (sc_P).2, hX4]; show XM X3 = _
      rw [F3.2.2.2.2, F2.2.2.2.2, oM, hX0]; rfl
    /- what the class's state is beside X -/
    have c6F : ∀ s k f, ¬ (s = 4 ∨ s = 7 ∨ s = 9 ∨ (k = 1 ∧ (s = 3 ∨ s = 6 ∨ s = 8)) ∨ (s = 2 ∧ f = 5) ∨ (s = 11 ∧ (f = 1 ∨ f = 3)) ∨ (k = 0 ∧ (s = 3 ∨ s = 6))) → XF X6 s k f = XF X s k f := fun s k f q => by
      rw [hX6, sc_F (by omega), hX4, XF_sF, if_neg (by omega)]
      show XF X3 s k f = _
      rw [F3.1 s k f (by omega), F2.1 s k f (by omega), oF s k f (by omega), hX0, XF_sF, if_neg (by omega)]
    have c6R : ∀ s k, ¬ ((k = 1 ∧ 23 ≤ s ∧ s ≤ 38) ∨ s = 40 ∨ s = 41 ∨ s = 42 ∨ (k = 0 ∧ 23 ≤ s ∧ s ≤ 35)) → XR X6 s k = XR X s k := fun s k q => by
      rw [hX6, sc_R (by omega), hX4]
      show XR (cc X3) s k = _
      unfold cc
      rw [XR_sR, if_neg (by omega), XR_sR, if_neg (by omega), XR_sR, if_neg (by omega), F3.2.1 s k (by omega), F2.2.1 s k (by omega), oR, hX0]; rfl
    have c6J : ∀ s k, ¬ (s = 4 ∨ s = 22 ∧ k = 1 ∨ s = 22 ∧ k = 0) → XJ X6 s k = XJ X s k := fun s k q => by
      rw [hX6, sc_J (by omega), hX4]
      show XJ X3 s k = _
      rw [F3.2.2.1 s k (by omega), F2.2.2.1 s k (by omega), oJ s k (by omega), hX0]; rfl
    have Wst : WD (stD X6 d) ∧ True := ⟨by
      sorry, trivial⟩
    sorry
