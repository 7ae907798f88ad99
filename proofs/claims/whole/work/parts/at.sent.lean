theorem op_sentence {f0 : Nat} {Y : YS} {X : XS} (h : Inv Y X) (hf : 2000 ≤ f0) : ∃ v X1 X2, fX11_sentence f0 (Ad Y 11 0) (hp Y X) = some (v, hp Y X1) ∧ fX12_sentence f0 (Ad Y 12 0) (hp Y X1) = some (v, hp Y X2) ∧ Inv Y X2 := by
  have hI := h
  obtain ⟨gy, W, tp, re, fl, se, na, po, sh, sn, lo, im0, im1⟩ := h
  have g := gy.1
  obtain ⟨n, hn⟩ : ∃ n, n = XF X 11 0 1 := ⟨_, rfl⟩
  have n0 : 0 ≤ n ∧ n ≤ 940 := by rw [hn]; exact tp.2.1
  obtain ⟨X0, hX0⟩ : ∃ X0, X0 = sF X 11 0 1 0 := ⟨_, rfl⟩
  have W0 : WF X0 := by rw [hX0]; exact W_F W (by decide) (by decide)
  have x20 : XR X0 20 0 = XR X 20 0 := by rw [hX0]; rfl
  have kc0 : KC X0 (XR X 61 0) := by
    have kc := inv_KC hI
    rw [hX0]; exact kc
  have t0 : TxF X X0 := by rw [hX0]; exact TxF_F TxF_refl (by decide)
  have tk : fX11_takeTape f0 (Ad Y 11 0) (hp Y X) = some (iI n, hp Y X0) := by
    rw [hX0, hn]
    simp (disch := first | assumption | omega) only [fX11_takeTape, g_11_1, p_11_1, li_0, Option.bind_some, iI_add]
  obtain ⟨b, X3, e3, W3, tx3, y3, hh⟩ := j_sen (f0 := f0) (Y := Y) (X := X0) (S := XR X 61 0) (n := n) g W0 (fun i i0 i1 => by rw [x20]; exact (tp.1 i i0 i1).2) kc0 n0.1 n0.2 hf
  have y30 : XF X3 11 0 1 = 0 := by rw [y3.1, hX0]; rfl
  have y32 : XF X3 12 0 2 = XF X 12 0 2 := by rw [y3.2, hX0]; rfl
  have t3 : TxF X X3 := TxF_trans t0 tx3
  rcases hh with ⟨fa, kk⟩ | ⟨z10, b9, ds, kk⟩
  · obtain ⟨Xc, hXc⟩ : ∃ Xc, Xc = sF X3 11 0 3 (XF X3 4 0 10) := ⟨_, rfl⟩
    have f1 := fa.1; have f2 := fa.2
    have Wc : WF Xc := by rw [hXc]; exact W_F W3 (by omega) (by omega)
    have tc : TxF X Xc := by rw [hXc]; exact TxF_F t3 (by decide)
    have c2 : XF Xc 12 0 2 = XF X 12 0 2 := by rw [hXc]; exact y32
    have si := SnI_of hI Wc (tc.2.1 60 0 (by omega)) (tc.2.1 61 0 (by omega)) (tc.2.2.1 65 0 (by omega)) tc.2.2.2.1 c2
    rw [← hX0, ← hn] at si
    obtain ⟨Z', l1, l2, l3, l4⟩ := kk (seI Xc) si
    refine ⟨iI (-1 - XF X3 4 0 11), Xc, Z', ?_, by rw [r_senI g]; exact l1, Inv_tx hI l2 (TxF_trans (TxF_trans tc seI_tx) l3.1) ⟨?_, ?_⟩ ?_⟩
    · have ne : ¬ XF X3 4 0 10 = 0 := by omega
      have q10 : XF (sF X3 11 0 3 (XF X3 4 0 10)) 4 0 10 = XF X3 4 0 10 := rfl
      have q11 : XF (sF X3 11 0 3 (XF X3 4 0 10)) 4 0 11 = XF X3 4 0 11 := rfl
      rw [hXc]
      simp (disch := first | assumption | omega) only [fX11_sentence, g_11_9, g_11_2, g_4_10, g_11_7, g_11_8, g_4_11, p_11_3, k_11, k_9, k_8, lm_1, li_0, li_1, ob2, iI_sub, Option.bind_some, iI_add, iI_neg, tk, e3, q10, iI_eq, if_neg ne, q11, iI_neg, iI_sub]
    · rw [l3.2.1, hXc]; exact y30
    · rw [l3.2.2.2]; rfl
    · rw [l3.2.2.1, l4.1, hXc]; rfl
  · obtain ⟨X4, hX4⟩ : ∃ X4, X4 = sF X3 11 0 3 0 := ⟨_, rfl⟩
    obtain ⟨Xc, hXc⟩ : ∃ Xc, Xc = snCp X4 0 1 := ⟨_, rfl⟩
    have W4 : WF X4 := by rw [hX4]; exact W_F W3 (by decide) (by decide)
    have Wc : WF Xc := by rw [hXc]; exact sn_W W4
    have t4 : TxF X X4 := by rw [hX4]; exact TxF_F t3 (by decide)
    have c2 : XF Xc 12 0 2 = XF X 12 0 2 := by rw [hXc, sn_F (by omega), hX4]; exact y32
    have cR : ∀ s k, ¬ (k = 0 ∧ 36 ≤ s ∧ s ≤ 38) → XR Xc s k = XR X4 s k := fun s k q => by rw [hXc]; exact sn_R q
    have cF : ∀ s k f, ¬ (k = 0 ∧ s = 8 ∧ f = 3) → XF Xc s k f = XF X4 s k f := fun s k f q => by rw [hXc]; exact sn_F q
    have cJ : ∀ s k, XJ Xc s k = XJ X4 s k := fun s k => by rw [hXc]; rfl
    have si := SnI_of hI Wc (by rw [cR 60 0 (by omega)]; exact t4.2.1 60 0 (by omega)) (by rw [cR 61 0 (by omega)]; exact t4.2.1 61 0 (by omega)) (by rw [cJ]; exact t4.2.2.1 65 0 (by omega)) (fun i i1 => by rw [cJ]; exact t4.2.2.2.1 i i1) c2
    rw [← hX0, ← hn] at si
    obtain ⟨Z', l1, l2, l3, l4⟩ := kk (seI Xc) si
    obtain ⟨m, hm⟩ : ∃ m, m = XF X3 8 1 3 := ⟨_, rfl⟩
    obtain ⟨H, hH⟩ : ∃ H, H = XR Z' 63 0 := ⟨_, rfl⟩
    rw [← hm, ← hH] at l1
    have d1 := ds.1
    have p2 := l4.2.1; have p3 := l4.2.2.1; have p4 := l4.2.2.2.1
    have m0 : 0 ≤ m ∧ m ≤ 40 := by omega
    obtain ⟨S', hS'⟩ : ∃ S', S' = tlS (XR X 61 0) H (3 * m) m := ⟨_, rfl⟩
    rw [← hS'] at l1
    have eS : ∀ j, 0 ≤ j → j < 465 → S' j = XR X 61 0 j := fun j j0 j1 => by rw [hS']; unfold tlS; rw [if_neg (by omega), if_neg (by omega)]
    have e465 : S' 465 = m := by rw [hS']; unfold tlS; rw [if_neg (by omega), if_pos rfl]
    have eH : ∀ a, 0 ≤ a → a < 3 * m → S' (466 + a) = H a := fun a a0 a1 => by
      rw [hS']; unfold tlS; rw [if_pos (by omega), show 466 + a - 466 = a by omega]
    have sn4 : SntX X4 1 S' := by
      have f8 : XF X4 8 1 3 = m := by rw [hX4, hm]; rfl
      have r36 : ∀ s, XR X4 s 1 = XR X3 s 1 := fun s => by rw [hX4]; rfl
      refine ⟨by rw [f8]; exact e465, by rw [f8]; exact m0, fun i hi => ?_⟩
      rw [f8] at hi
      rw [r36 36, r36 37, r36 38]
      obtain ⟨a1, a2, a3⟩ := p4 i (by omega) (by omega)
      rw [← hH] at a1 a2 a3
      have o := ds.2 i (by omega)
      refine ⟨⟨by rw [a1]; exact (eH (3 * i) (by omega) (by omega)).symm, by rw [a2, show (467 : Int) + 3 * i = 466 + (3 * i + 1) by omega]; exact (eH (3 * i + 1) (by omega) (by omega)).symm, by rw [a3, show (468 : Int) + 3 * i = 466 + (3 * i + 2) by omega]; exact (eH (3 * i + 2) (by omega) (by omega)).symm⟩, ?_⟩
      unfold stO at *
      rw [eS 0 (by decide) (by decide), eS 1 (by decide) (by decide)]
      exact o
    have snc : SntX Xc 0 S' := by rw [hXc]; exact sn_Snt sn4
    have tz : TxF Xc Z' := TxF_trans seI_tx l3.1.1
    obtain ⟨Zf, hZf⟩ : ∃ Zf, Zf = sR Z' 61 0 S' := ⟨_, rfl⟩
    have zF : ∀ s k f, XF Zf s k f = XF Z' s k f := fun s k f => by rw [hZf]; rfl
    have zJ : ∀ s k, XJ Zf s k = XJ Z' s k := fun s k => by rw [hZf]; rfl
    have zR : ∀ s k, ¬ s = 61 → XR Zf s k = XR Z' s k := fun s k q => by rw [hZf, XR_sR, if_neg (by omega)]
    have z61 : XR Zf 61 0 = S' := by rw [hZf]; rfl
    have Wf : WF Zf := by
      rw [hZf]
      refine W_R l2 (fun i => ?_)
      rw [hS']; unfold tlS; (repeat' split)
      · rw [hH]; exact l2.2 _ _ _
      · exact ⟨by omega, by omega⟩
      · exact W.2 _ _ _
    refine ⟨iI b, Xc, Zf, ?_, by rw [r_senI g, hZf]; exact l1, ?_⟩
    · have q10 : XF X4 4 0 10 = 0 := by rw [hX4]; exact z10
      have st0 := StO_0 g
      have cp := e_snCp (f0 := f0) (Y := Y) (X := X4) (j := 0) (k := 1) (StO_0 g) (StO_1 g) (by decide)
      rw [← hXc] at cp
      simp (disch := first | assumption | omega) only [fX11_sentence, g_11_9, g_11_2, g_4_10, g_11_7, g_11_8, g_4_11, p_11_3, k_11, k_9, k_8, lm_1, li_0, li_1, ob2, iI_sub, Option.bind_some, iI_add, iI_neg, tk, e3, z10, ← hX4, q10, if_true, cp]
    · refine Inv_tn hI Wf (fun s k f q => ?_) (fun s k q => ?_) (fun s k q => ?_) (fun i i1 => ?_) ?_ ?_ ⟨?_, ?_⟩ ?_ z61 eS ?_
      · rw [zF, tz.1 s k f (by omega), cF s k f (by omega)]; exact t4.1 s k f (by omega)
      · rw [zR s k (by omega), tz.2.1 s k (by omega), cR s k (by omega)]; exact t4.2.1 s k (by omega)
      · rw [zJ, tz.2.2.1 s k (by omega), cJ]; exact t4.2.2.1 s k (by omega)
      · rw [zJ, tz.2.2.2.1 i i1, cJ]; exact t4.2.2.2.1 i i1
      · rw [hZf]; show XP Z' = _; rw [tz.2.2.2.2.1, hXc]; exact t4.2.2.2.2.1
      · rw [hZf]; show XM Z' = _; rw [tz.2.2.2.2.2, hXc]; exact t4.2.2.2.2.2
      · rw [zF, l3.1.2.1]; show XF Xc 11 0 1 = 0; rw [cF 11 0 1 (by omega), hX4]; exact y30
      · rw [zF, l3.1.2.2.2]; rfl
      · rw [zF, zF, l3.1.2.2.1, l3.2]; show XF Xc 11 0 3 = 0; rw [cF 11 0 3 (by omega), hX4]; rfl
      · unfold SntX at *
        rw [zR 36 0 (by omega), zR 37 0 (by omega), zR 38 0 (by omega), zF, tz.2.1 36 0 (by omega), tz.2.1 37 0 (by omega), tz.2.1 38 0 (by omega), tz.1 8 0 3 (by omega)]
        exact snc
