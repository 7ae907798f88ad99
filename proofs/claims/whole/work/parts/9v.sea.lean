/-! sea, AS A CALL -/
theorem op_sea {f0 : Nat} {Y : YS} {X : XS} (h : Inv Y X) (hf : 2000 ≤ f0) : ∃ v X1 X2, fX11_sea f0 (Ad Y 11 0) (hp Y X) = some (v, hp Y X1) ∧ fX12_sea f0 (Ad Y 12 0) (hp Y X1) = some (v, hp Y X2) ∧ Inv Y X2 := by
  have hI := h
  obtain ⟨gy, W, tp, re, fl, se, na, po, sh, sn, lo, im0, im1⟩ := h
  have g := gy.1
  have g1 := SeO_1 g; have g0 := SeO_0 g
  obtain ⟨n, hn⟩ : ∃ n, n = XF X 11 0 1 := ⟨_, rfl⟩
  have n0 : 0 ≤ n ∧ n ≤ 940 := by rw [hn]; exact tp.2.1
  obtain ⟨X0, hX0⟩ : ∃ X0, X0 = sF X 11 0 1 0 := ⟨_, rfl⟩
  have W0 : WF X0 := by rw [hX0]; exact W_F W (by decide) (by decide)
  have x20 : XR X0 20 0 = XR X 20 0 := by rw [hX0]; rfl
  obtain ⟨Xo, eo, Wo, to, fo, so, ⟨oF, oR, oJ, oP, oM⟩, ko⟩ := j_open (f0 := f0) (X := X0) g W0 (fun i i0 i1 => by rw [x20]; exact (tp.1 i i0 i1).2) n0.1 n0.2 (m := 900) (by decide) (by decide) hf
  rw [x20] at ko
  have t0 : TxF X X0 := by rw [hX0]; exact TxF_F TxF_refl (by decide)
  have tO : TxF X0 Xo := ⟨fun s k f q => oF s k f (by omega), fun s k _ => by rw [oR], fun s k q => oJ s k (by omega), fun i _ => by rw [oJ 64 0 (by omega)], oP, oM⟩
  have rso : RsC Xo := fun i hi => by rw [oJ 21 0 (by omega), hX0]; exact (re i hi).1
  obtain ⟨c2, sy2, F2⟩ := cl_C Wo to rso fo
  obtain ⟨X2, hX2⟩ : ∃ X2, X2 = sF (clX Xo) 7 0 2 0 := ⟨_, rfl⟩
  rw [← hX2] at c2 sy2 F2
  have t2 : TxF X X2 := TxF_trans (TxF_trans t0 tO) (TxF_C F2)
  have rd : fX7_read f0 (Ad Y 7 0) (iI n) (hp Y X0) = bX7_read_25 f0 f0 (Ad Y 7 0) (iI 0) (hp Y X2) := by
    have zz := z_7_2 (Y := Y) (X := clX Xo) g (v := 0) (.inl rfl)
    rw [← hX2] at zz
    simp (disch := first | assumption | omega) only [fX7_read, g_7_0, g_7_1, z_7_2, k_4, k_6, li_900, li_0, Option.bind_some, iI_add, eo, e_clear g hf, zz]
  have tk : fX11_takeTape f0 (Ad Y 11 0) (hp Y X) = some (iI n, hp Y X0) := by
    rw [hX0, hn]
    simp (disch := first | assumption | omega) only [fX11_takeTape, g_11_1, p_11_1, li_0, Option.bind_some, iI_add]
  have b2 := c2.2.1.1.2; have b3 := c2.2.1.2.2.1
  have st9 : XF X2 4 0 3 ≤ 900 := by rw [F2.1 4 0 3 (by omega)]; exact so
  obtain ⟨X3, hh⟩ := sea_loop (f0 := f0) g hf 1000 X2 f0 f0 0 (by omega) (by omega) (by omega) c2 sy2 (by decide) b3.1 st9
  rcases hh with ⟨e3, W3, F3, fa3, k3⟩ | ⟨l, e3, c3, sy3, F3, lr, k3⟩
  · obtain ⟨Xc, hXc⟩ : ∃ Xc, Xc = sF X3 11 0 3 (XF X3 4 0 10) := ⟨_, rfl⟩
    have f1 := fa3.1; have f2 := fa3.2
    have Wc : WF Xc := by rw [hXc]; exact W_F W3 (by omega) (by omega)
    have tc : TxF X Xc := by rw [hXc]; exact TxF_F (TxF_trans t2 (TxF_C F3)) (by decide)
    have c12 : ∀ f, XF Xc 12 0 f = XF X 12 0 f := fun f => by
      rw [hXc]; show XF X3 12 0 f = _
      rw [F3.1 12 0 f (by omega), F2.1 12 0 f (by omega), oF 12 0 f (by omega), hX0]; rfl
    have rzc : RsR Xc := fun i hi => by rw [tc.2.2.1 65 0 (by omega)]; exact (re i hi).2
    obtain ⟨Zn, s1, lrn, h19, tn, nF, nR, nJ, n2, nP, nM⟩ := r_seaN (f0 := f0) (Y := Y) (X := X) g Wc rzc (by rw [c12]; exact tp.2.2.symm.trans hn.symm) n0 (fun i i0 i1 => by rw [tc.2.1 60 0 (by omega)]; exact (tp.1 i i0 i1).1) ko hf
    rw [← hX2] at lrn
    obtain ⟨Zf, y1, y2, ⟨Z2, y3⟩, y4⟩ := k3 Zn lrn
    have fr : FrR (sF Zn 12 0 19 0) (sF Zf 12 0 19 0) := by
      rcases y3 with ⟨a1, a2⟩ | ⟨a1, a2⟩
      · have a3 := FrR_trans a1 a2
        refine ⟨fun s k f q => ?_, a3.2.1, a3.2.2.1, a3.2.2.2⟩
        rw [XF_sF, XF_sF]; split
        · rfl
        · exact a3.1 s k f q
      · exact FrR_trans a2 a1
    have fF : ∀ s k f, ¬ (s = 12 ∧ k = 0 ∧ (f = 4 ∨ 11 ≤ f ∧ f ≤ 16 ∨ 18 ≤ f ∧ f ≤ 20)) → XF Zf s k f = XF Zn s k f := fun s k f q => by
      have := fr.1 s k f (by omega)
      rw [XF_sF, if_neg (by omega), XF_sF, if_neg (by omega)] at this
      exact this
    refine ⟨iI (-1 - XF X3 4 0 11), Xc, Zf, ?_, by rw [s1]; exact y1, Inv_tx hI y2 (TxF_trans (TxF_trans tc tn) (TxF_19 (TxF_R fr))) ⟨?_, ?_⟩ ?_⟩
    · have ne : ¬ XF X3 4 0 10 = 0 := by omega
      have z10 : XF (sF X3 11 0 3 (XF X3 4 0 10)) 4 0 10 = XF X3 4 0 10 := rfl
      have z11 : XF (sF X3 11 0 3 (XF X3 4 0 10)) 4 0 11 = XF X3 4 0 11 := rfl
      rw [hXc]
      simp (disch := first | assumption | omega) only [fX11_sea, g_11_6, g_11_2, g_4_10, g_11_4, g_11_5, g_11_11, g_11_7, g_4_11, p_11_3, p_11_14, k_11, k_7, k_6, k_10, k_8, lm_1, li_0, li_1, ob2, iI_sub, Option.bind_some, iI_add, iI_neg, tk, rd, e3, z10, iI_eq, if_neg ne, z11, iI_neg, iI_sub]
    · rw [fF 11 0 1 (by omega), nF 11 0 1 (by omega), hXc]; show XF X3 11 0 1 = 0
      rw [F3.1 11 0 1 (by omega), F2.1 11 0 1 (by omega), oF 11 0 1 (by omega), hX0]; rfl
    · rw [fF 12 0 2 (by omega)]; exact n2
    · rw [fF 11 0 3 (by omega), nF 11 0 3 (by omega), hXc]; show XF X3 4 0 10 = _; exact y4.1.symm
  · obtain ⟨X4, hX4⟩ : ∃ X4, X4 = sF (cc X3) 11 0 3 0 := ⟨_, rfl⟩
    obtain ⟨X6, hX6⟩ : ∃ X6, X6 = seaCp X4 0 1 := ⟨_, rfl⟩
    obtain ⟨k, hk⟩ : ∃ k, k = XP X 0 := ⟨_, rfl⟩
    have k10 : k < 10 := by rw [hk]; exact sh.1 0 (by decide)
    obtain ⟨d, hd⟩ : ∃ d, d = shG X6 k := ⟨_, rfl⟩
    obtain ⟨Xc, hXc⟩ : ∃ Xc, Xc = sF (sF (shS X6 k (stD X6 d)) 8 0 3 0) 11 0 14 0 := ⟨_, rfl⟩
    have dc3 := c3.2.2.2.1
    have W4 : WF X4 := by rw [hX4]; exact W_F (cc_W c3.1 dc3) (by decide) (by decide)
    have W6 : WF X6 := by rw [hX6]; exact sc_W W4
    have Wd : WD d := by rw [hd]; exact WD_G W6 k
    have p6 : XP X6 = XP X := by
      rw [hX6, (sc_P).1, hX4]; show XP X3 = _
      rw [F3.2.2.2.1, F2.2.2.2.1, oP, hX0]; rfl
    have m6 : XM X6 = XM X := by
      rw [hX6, (sc_P).2, hX4]; show XM X3 = _
      rw [F3.2.2.2.2, F2.2.2.2.2, oM, hX0]; rfl
    /- what the class's state is beside X -/
    have c6F : ∀ s k f, ¬ (s = 4 ∨ s = 7 ∨ s = 9 ∨ (k = 1 ∧ (s = 3 ∨ s = 6 ∨ s = 8)) ∨ (s = 2 ∧ f = 5) ∨ (s = 11 ∧ (f = 1 ∨ f = 3)) ∨ (k = 0 ∧ (s = 3 ∨ s = 6))) → XF X6 s k f = XF X s k f := fun s k f q => by
      rw [hX6, sc_F (by omega), hX4, XF_sF, if_neg (by omega)]
      show XF X3 s k f = _
      rw [F3.1 s k f (by omega), F2.1 s k f (by omega), oF s k f (by omega), hX0, XF_sF, if_neg (by omega)]
    have c6R : ∀ s k, ¬ ((k = 1 ∧ 23 ≤ s ∧ s ≤ 38) ∨ s = 40 ∨ s = 41 ∨ s = 42 ∨ (k = 0 ∧ 23 ≤ s ∧ s ≤ 35)) → XR X6 s k = XR X s k := fun s k q => by
      rw [hX6, sc_R (by omega), hX4]
      show XR (cc X3) s k = _
      unfold cc
      rw [XR_sR, if_neg (by omega), XR_sR, if_neg (by omega), XR_sR, if_neg (by omega), F3.2.1 s k (by omega), F2.2.1 s k (by omega), oR, hX0]; rfl
    have c6J : ∀ s k, ¬ (s = 4 ∨ s = 22 ∧ k = 1 ∨ s = 22 ∧ k = 0) → XJ X6 s k = XJ X s k := fun s k q => by
      rw [hX6, sc_J (by omega), hX4]
      show XJ X3 s k = _
      rw [F3.2.2.1 s k (by omega), F2.2.2.1 s k (by omega), oJ s k (by omega), hX0]; rfl
    /- the reference on X itself, for what follows of the draft alone -/
    have rzX : RsR X := fun i hi => (re i hi).2
    obtain ⟨Zg, _, lrg, h19g, _⟩ := r_seaN (f0 := f0) (Y := Y) (X := X) g W rzX (tp.2.2.symm.trans hn.symm) n0 (fun i i0 i1 => (tp.1 i i0 i1).1) ko hf
    rw [← hX2] at lrg
    obtain ⟨Z4g, _, lr4g, _⟩ := k3 Zg lrg h19g
    have sI4 : ∀ Z4, LR X3 Z4 → SeaI X6 0 (XR Z4 62 0) := fun Z4 q => by
      have q1 : SeaI X4 1 (XR Z4 62 0) := by rw [hX4]; exact cc_SeaI c3 q
      rw [hX6]; exact sc_SeaI q1
    obtain ⟨hC6, _, hk6, _⟩ := sI4 Z4g lr4g
    obtain ⟨w0, d0⟩ := st_0_cd W6 Wd hC6 hk6
    have wst := (st_s_cd hC6 (XR X6 25 0 3).toNat w0 d0).1
    have Wc : WF Xc := by rw [hXc]; exact W_F (W_F (W_sh W6 wst) (by decide) (by decide)) (by decide) (by decide)
    have gk := ShO_k g k10
    have sg := StO_0 g
    have cl : fX11_sea f0 (Ad Y 11 0) (hp Y X) = some (iI l, hp Y Xc) := by
      have z10 : XF (cc X3) 4 0 10 = 0 := c3.2.2.2.2
      have z10' : XF X4 4 0 10 = 0 := by rw [hX4]; exact c3.2.2.2.2
      have con := e_conclude (f0 := f0) (Y := Y) g c3.1 dc3 (by omega)
      have cp := e_seaCp (f0 := f0) (X := X4) g0 g1 (by decide)
      rw [← hX6] at cp
      have pk : XP X6 0 = k := by rw [p6, hk]
      have ds := d_start (f0 := f0) (X := X6) (k := k) (d := d) g k10 W6 Wd hC6 hk6 hf
      have id6 : shS X6 k d = X6 := by rw [hd]; exact sh_id X6 k
      rw [id6] at ds
      rw [hXc]
      simp (disch := first | assumption | omega) only [fX11_sea, fX8_clear, g_11_6, g_11_2, g_4_10, g_11_4, g_11_5, g_11_11, g_11_7, g_4_11, p_11_3, p_11_14, k_11, k_7, k_6, k_10, k_8, lm_1, li_0, li_1, ob2, iI_sub, p_8_3, Option.bind_some, iI_add, iI_neg, tk, rd, e3, con, z10, ← hX4, z10', if_true, cp, pk, ds]
    have c12 : ∀ f, XF Xc 12 0 f = XF X 12 0 f := fun f => by
      rw [hXc, XF_sF, if_neg (by omega), XF_sF, if_neg (by omega), sh_f (by decide), c6F 12 0 f (by omega)]
    have rzc : RsR Xc := fun i hi => by rw [hXc]; show XJ X6 65 0 _ = _; rw [c6J 65 0 (by omega)]; exact (re i hi).2
    have xcR : ∀ s k', s < 43 ∨ 46 < s → XR Xc s k' = XR X6 s k' := fun s k' q => by
      rw [hXc]; show XR (shS X6 k (stD X6 d)) s k' = _
      rcases q with q | q
      · exact sh_k0 q
      · exact sh_k9 q
    obtain ⟨Zn, s1, lrn, h19, tn, nF, nR, nJ, n2, nP, nM⟩ := r_seaN (f0 := f0) (Y := Y) (X := X) g Wc rzc (by rw [c12]; exact tp.2.2.symm.trans hn.symm) n0 (fun i i0 i1 => by rw [xcR 60 0 (by omega), c6R 60 0 (by omega)]; exact (tp.1 i i0 i1).1) ko hf
    rw [← hX2] at lrn
    obtain ⟨Z4, y1, lr4, fr, h19'⟩ := k3 Zn lrn h19
    have fF : ∀ s k f, ¬ (s = 12 ∧ k = 0 ∧ (f = 4 ∨ 11 ≤ f ∧ f ≤ 16 ∨ 18 ≤ f ∧ f ≤ 20)) → XF Z4 s k f = XF Zn s k f := fun s k f q => by
      have := fr.1 s k f (by omega)
      rw [XF_sF, if_neg (by omega), XF_sF, if_neg (by omega)] at this
      exact this
    have sI := sI4 Z4 lr4
    have r8 : ∀ i, 0 ≤ i → i < 64 → 0 ≤ XR Z4 62 0 (8 + i) ∧ XR Z4 62 0 (8 + i) ≤ 1000 := fun i i0 i1 => by
      have a := sI.1.2.2.2.2.2.2.1 i i0 i1; rw [(sI.2.1.2.1 i i0 i1).1] at a; omega
    have r72 : ∀ i, 0 ≤ i → i < 64 → 0 ≤ XR Z4 62 0 (72 + i) ∧ XR Z4 62 0 (72 + i) ≤ 1000 := fun i i0 i1 => by
      obtain ⟨d1, d2, d3⟩ := div8 i0 i1
      have := (sI.2.2.2.1.1 (i / 8) (i % 8) d2.1 d2.2 d3.1 d3.2).2.2.2; rw [d1] at this; omega
    have r98 := r_sea98 (f0 := f0) (Y := Y) g lr4.1 r8 r72 hf
    rw [h19'] at r98
    obtain ⟨Zf, hZf⟩ : ∃ Zf, Zf = seZ Z4 := ⟨_, rfl⟩
    rw [← hZf] at r98
    refine ⟨iI l, Xc, Zf, cl, by rw [s1, y1]; exact r98, ?_⟩
    obtain ⟨S, hS⟩ : ∃ S, S = bgS (cpS (XR Z4 62 0) (XR Z4 61 0) 646) := ⟨_, rfl⟩
    have z61 : XR Zf 61 0 = S := by rw [hZf, hS]; rfl
    have z66 : XR Zf 66 0 = fwG 8 8 (dgT (ini0 (fun i => S (8 + i)) (XR Z4 66 0) 64) 8) := by rw [hZf, hS]; rfl
    have z67 : XR Zf 67 0 = fwG 8 8 (dgT (ini0 (fun i => S (72 + i)) (XR Z4 67 0) 64) 8) := by rw [hZf, hS]; rfl
    have Slo : ∀ j, 0 ≤ j → j < 312 → S j = XR Z4 62 0 j := fun j j0 j1 => by rw [hS, bg_lo j1, cpS_lo j0 j1]
    have zF : ∀ s k' f, s ≠ 12 → XF Zf s k' f = XF Xc s k' f := fun s k' f q => by
      have : XF Zf s k' f = XF Z4 s k' f := by
        rw [hZf]; unfold seZ
        rw [XF_sF, if_neg (by omega)]; rfl
      rw [this, fF s k' f (by omega), nF s k' f q]
    have zR : ∀ s k', ¬ (s = 61 ∨ s = 62 ∨ s = 63 ∨ s = 66 ∨ s = 67 ∨ s = 77) → XR Zf s k' = XR Xc s k' := fun s k' q => by
      have : XR Zf s k' = XR Z4 s k' := by
        rw [hZf]; unfold seZ bgZ
        rw [XR_sF, XR_sR, if_neg (by omega), XR_sR, if_neg (by omega), XR_sR, if_neg (by omega)]; rfl
      rw [this]
      have := fr.2.1 s k' (by omega)
      exact this.trans (nR s k' (by omega))
    have zJ : ∀ s k', ¬ (s = 12 ∨ s = 64) → XJ Zf s k' = XJ Xc s k' := fun s k' q => by
      have : XJ Zf s k' = XJ Z4 s k' := by
        rw [hZf]; unfold seZ bgZ
        rw [XJ_sF, XJ_sR, XJ_sR, XJ_sR, XJ_sJ, if_neg (by omega)]
      rw [this]
      have := fr.2.2.1 s k' (by omega)
      exact this.trans (nJ s k' (by omega))
    have zP : XP Zf = XP X := by
      rw [hZf]; show XP Z4 = _
      have := fr.2.2.2.2.1
      have t1 : XP Z4 = XP Zn := this
      rw [t1, nP, hXc]; show XP X6 = _; exact p6
    have zM : XM Zf = XM X := by
      rw [hZf]; show XM Z4 = _
      have := fr.2.2.2.2.2
      have t1 : XM Z4 = XM Zn := this
      rw [t1, nM, hXc]; show XM X6 = _; exact m6
    have W9 : WF Zf := by
      have WS4 : WS (cpS (XR Z4 62 0) (XR Z4 61 0) 646) := fun j => by unfold cpS; (repeat' split) <;> first | exact lr4.1.2 _ _ _ | exact ⟨by decide, by decide⟩
      have q66 : ∀ (st : Int) (q : Int → Int), (∀ i, Rg (q i)) → (∀ i, 0 ≤ i → i < 64 → 0 ≤ S (st + i) ∧ S (st + i) ≤ 1000) → ∀ i, Rg (fwG 8 8 (dgT (ini0 (fun i => S (st + i)) q 64) 8) i) := fun st q hq hs i => by
        by_cases c : 0 ≤ i ∧ i < 64
        · have := fwG_rg (n := 8) (r := dgT (ini0 (fun i => S (st + i)) q 64) 8) (by decide) (fun i i0 i1 => by
            rw [dgT_ini i i0 i1]; have q9 : 0 ≤ (fun i => S (st + i)) i ∧ (fun i => S (st + i)) i ≤ 1000 := hs i i0 i1; unfold iniW; generalize (fun i => S (st + i)) i = w9 at *; (repeat' split) <;> omega) 8 (by decide) i c.1 c.2
          exact ⟨by omega, by omega⟩
        · have o : ∀ m : Nat, m ≤ 8 → fwG 8 m (dgT (ini0 (fun i => S (st + i)) q 64) 8) i = q i := fun m => by
            induction m with
            | zero => intro _; show dgT (ini0 (fun i => S (st + i)) q 64) 8 i = _; unfold dgT ini0; rw [if_neg (by omega), if_neg c]
            | succ m ih =>
              intro hm
              show fwS 8 m (fwG 8 m (dgT (ini0 (fun i => S (st + i)) q 64) 8)) i = _
              unfold fwS; rw [if_neg (by omega)]; exact ih (by omega)
          rw [o 8 (by decide)]; exact hq i
      have s8 : ∀ i, 0 ≤ i → i < 64 → 0 ≤ S (8 + i) ∧ S (8 + i) ≤ 1000 := fun i i0 i1 => by rw [Slo _ (by omega) (by omega)]; exact r8 i i0 i1
      have s72 : ∀ i, 0 ≤ i → i < 64 → 0 ≤ S (72 + i) ∧ S (72 + i) ≤ 1000 := fun i i0 i1 => by rw [Slo _ (by omega) (by omega)]; exact r72 i i0 i1
      rw [hZf]; unfold seZ bgZ
      rw [← hS]
      exact W_F (W_R (W_R (W_R (W_J lr4.1) (by rw [hS]; exact bg_W WS4)) (q66 8 _ (fun i => lr4.1.2 _ _ _) s8)) (q66 72 _ (fun i => lr4.1.2 _ _ _) s72)) (by decide) (by decide)
    have xR : ∀ t, t < 43 → XR Zf t 0 = XR X6 t 0 := fun t q => by rw [zR t 0 (by omega)]; exact xcR t 0 (.inl q)
    have xF : ∀ s k' f, s ≠ 12 → s ≠ 10 → s ≠ 8 → s ≠ 11 → XF Zf s k' f = XF X6 s k' f := fun s k' f q1 q2 q3 q4 => by
      rw [zF s k' f q1, hXc, XF_sF, if_neg (by omega), XF_sF, if_neg (by omega), sh_f q2]
    have SI : SeaI Zf 0 S := by
      refine SeaI_S (S := XR Z4 62 0) Slo ?_
      have q := sI
      unfold SeaI CSea SeaR SeaW at *
      rw [xR 25 (by decide), xR 26 (by decide), xR 27 (by decide), xR 28 (by decide), xR 29 (by decide), xR 31 (by decide), xR 32 (by decide), xR 33 (by decide), xR 34 (by decide), xR 35 (by decide), xF 6 0 2 (by decide) (by decide) (by decide) (by decide)]
      exact q
    have PW : PostW Zf S := fun i i0 i1 => by
      rw [z66, z67]
      unfold frs pst
      exact ⟨fwG_c (by decide) dgT_ini 8 (by decide) i i0 i1, fwG_c (by decide) dgT_ini 8 (by decide) i i0 i1⟩
    have bs := bg_st (H := XR Z4 62 0) (S := XR Z4 61 0)
    rw [← hS] at bs
    have rel := rel_start (X := Zf) (d := d) W9 Wd SI (inv_PostR SI PW) bs.1
    rw [bs.2.1] at rel
    have sde : stD Zf d = stD X6 d := stD_c (xR 25 (by decide)) (xR 28 (by decide)) (xR 31 (by decide)) (xR 35 (by decide)) d
    rw [sde] at rel
    have shf : ∀ k', shG Zf k' = if k' = k then stD X6 d else shG X k' := fun k' => by
      have e1 : shG Zf k' = shG (shS X6 k (stD X6 d)) k' := by
        unfold shG
        rw [zR 43 k' (by omega), zR 44 k' (by omega), zR 45 k' (by omega), zR 46 k' (by omega), hXc]
        have : XF Zf 10 k' = XF (shS X6 k (stD X6 d)) 10 k' := funext fun f => by rw [zF 10 k' f (by decide), hXc]; rfl
        rw [this]; rfl
      rw [e1, shG_sh]
      by_cases e : k' = k
      · rw [if_pos e, if_pos e]
      · rw [if_neg e, if_neg e]
        unfold shG
        rw [c6R 43 k' (by omega), c6R 44 k' (by omega), c6R 45 k' (by omega), c6R 46 k' (by omega)]
        have : XF X6 10 k' = XF X 10 k' := funext fun f => c6F 10 k' f (by omega)
        rw [this]
    have oF' : ∀ s k' f, ¬ (s = 4 ∨ s = 7 ∨ s = 9 ∨ (k' = 1 ∧ (s = 3 ∨ s = 6 ∨ s = 8)) ∨ (s = 2 ∧ f = 5) ∨ s = 11 ∨ (k' = 0 ∧ (s = 3 ∨ s = 6 ∨ s = 8)) ∨ s = 10 ∨ s = 12) → XF Zf s k' f = XF X s k' f := fun s k' f q => by
      rw [zF s k' f (by omega), hXc, XF_sF, if_neg (by omega), XF_sF, if_neg (by omega), sh_f (by omega), c6F s k' f (by omega)]
    have oR' : ∀ s k', s ≤ 38 → 2 ≤ k' → XR Zf s k' = XR X s k' := fun s k' q1 q2 => by
      rw [zR s k' (by omega), xcR s k' (by omega), c6R s k' (by omega)]
    have sea2 : ∀ j S', 2 ≤ j → SeaI X j S' → SeaI Zf j S' := fun j S' hj q => by
      unfold SeaI CSea SeaR SeaW at *
      rw [oR' 25 j (by omega) hj, oR' 26 j (by omega) hj, oR' 27 j (by omega) hj, oR' 28 j (by omega) hj, oR' 29 j (by omega) hj, oR' 31 j (by omega) hj, oR' 32 j (by omega) hj, oR' 33 j (by omega) hj, oR' 34 j (by omega) hj, oR' 35 j (by omega) hj, oF' 6 j 2 (by omega)]
      exact q
    have hiR : ∀ s k', 46 < s → ¬ (s = 61 ∨ s = 62 ∨ s = 63 ∨ s = 66 ∨ s = 67 ∨ s = 77) → XR Zf s k' = XR X s k' := fun s k' q1 q2 => by
      rw [zR s k' q2, xcR s k' (.inr q1), c6R s k' (by omega)]
    have hiJ : ∀ s k', ¬ (s = 12 ∨ s = 64 ∨ s = 4 ∨ s = 22 ∧ k' < 2) → XJ Zf s k' = XJ X s k' := fun s k' q => by
      rw [zJ s k' (by omega), hXc]; show XJ X6 s k' = _; exact c6J s k' (by omega)
    have img : ∀ i, ImgI Y X i → ImgI Y Zf i := fun i hi => by
      have e79 : kpS Zf i = kpS X i := by unfold kpS; rw [hiR 79 0 (by omega) (by omega)]
      have e80 : kpN Zf i = kpN X i := by unfold kpN; rw [hiJ 80 0 (by omega)]
      refine ⟨by rw [hiR 81 0 (by omega) (by omega), zM]; exact hi.1, fun m => ?_⟩
      rw [zM] at m
      obtain ⟨a, b, c, d', e, f⟩ := hi.2 m
      rw [e79, e80, shf (i + 10), if_neg (by omega)]
      refine ⟨a, sea2 (i + 2) _ (by omega) b, ?_, ?_, ?_, f⟩
      · unfold NamX at *; rw [hiJ 22 (i + 2) (by omega), oR' 23 (i + 2) (by omega) (by omega), oR' 24 (i + 2) (by omega) (by omega), oF' 3 (i + 2) 3 (by omega)]; exact c
      · unfold SntX at *; rw [oR' 36 (i + 2) (by omega) (by omega), oR' 37 (i + 2) (by omega) (by omega), oR' 38 (i + 2) (by omega) (by omega), oF' 8 (i + 2) 3 (by omega)]; exact d'
      · rw [oR' 25 (i + 2) (by omega) (by omega)]; exact e
    have f14 : XF Zf 11 0 14 = 0 := by rw [zF 11 0 14 (by decide), hXc]; rfl
    have f29 : XF Zf 12 0 29 = 0 := by rw [hZf]; rfl
    have f38 : XF Zf 12 0 38 = XF X 12 0 38 := by
      have t1 : XF Zf 12 0 38 = XF Z4 12 0 38 := by rw [hZf]; rfl
      rw [t1, fF 12 0 38 (by omega), tn.1 12 0 38 (by omega), c12]
    refine ⟨gy, W9, ⟨fun i i0 i1 => ?_, ?_, ?_⟩, fun i hi => ?_, ?_, by rw [z61]; exact SI, ?_, by rw [z61]; exact PW, ?_, ?_, ?_, img 0 im0, img 1 im1⟩
    · rw [zR 20 0 (by omega), xcR 20 0 (by omega), c6R 20 0 (by omega), hiR 60 0 (by omega) (by omega)]; exact tp.1 i i0 i1
    · have : XF Zf 11 0 1 = 0 := by
        rw [zF 11 0 1 (by decide), hXc]; show XF X6 11 0 1 = 0
        rw [hX6, sc_F (by omega), hX4]; show XF X3 11 0 1 = 0
        rw [F3.1 11 0 1 (by omega), F2.1 11 0 1 (by omega), oF 11 0 1 (by omega), hX0]; rfl
      rw [this]; decide
    · have e1 : XF Zf 11 0 1 = 0 := by
        rw [zF 11 0 1 (by decide), hXc]; show XF X6 11 0 1 = 0
        rw [hX6, sc_F (by omega), hX4]; show XF X3 11 0 1 = 0
        rw [F3.1 11 0 1 (by omega), F2.1 11 0 1 (by omega), oF 11 0 1 (by omega), hX0]; rfl
      have e2 : XF Zf 12 0 2 = 0 := by
        have t1 : XF Zf 12 0 2 = XF Z4 12 0 2 := by rw [hZf]; rfl
        rw [t1, fF 12 0 2 (by omega)]; exact n2
      rw [e1, e2]
    · rw [hiJ 21 0 (by omega), hiJ 65 0 (by omega)]; exact re i hi
    · have e1 : XF Zf 11 0 3 = 0 := by
        rw [zF 11 0 3 (by decide), hXc]; show XF X6 11 0 3 = 0
        rw [hX6, sc_F (by omega), hX4]; rfl
      have e2 : XF Zf 12 0 15 = 0 := by
        have t1 : XF Zf 12 0 15 = XF Z4 12 0 15 := by rw [hZf]; rfl
        rw [t1]; exact lr4.2.2.2.2.2
      rw [e1, e2]
    · have dn := lr4.2.2.2.2.1
      have n30 : XF X4 3 1 3 ≤ 30 := by
        have t1 : XF X4 3 1 3 = XF X3 3 1 3 := by rw [hX4]; rfl
        have a := dc3.1; have b := dc3.2.1.1; rw [t1]; omega
      have q4 : NamX X4 1 (XR Z4 62 0) (fun i => XJ Z4 64 0 (30 + i)) := by rw [hX4]; exact dn
      have q6 := sc_Nam (j := 0) q4 n30
      rw [← hX6] at q6
      have q7 := NamI_S9 (S' := S) (fun j j0 j3 => Slo j j0 (by omega)) q6
      have z64 : ∀ i, 0 ≤ i → i < 30 → XJ Zf 64 0 i = XJ Z4 64 0 (30 + i) := fun i i0 i1 => by
        rw [hZf]; show cpN (XJ Z4 64 0) 30 i = _
        unfold cpN; rw [if_pos ⟨i0, i1⟩]
      have q8 := NamI_nm (SeaI_b SI) (nm' := XJ Zf 64 0) (fun i i0 i1 => z64 i i0 i1) q7
      rw [z61]
      have j22 : XJ Zf 22 0 = XJ X6 22 0 := by rw [zJ 22 0 (by omega), hXc]; rfl
      unfold NamX
      rw [j22, xR 23 (by decide), xR 24 (by decide), xF 3 0 3 (by decide) (by decide) (by decide) (by decide)]
      exact q8
    · rw [z61]
      refine ⟨by rw [zP]; exact sh.1, by rw [zP]; exact sh.2.1, fun k' => ?_, ?_, ?_, fun i hi => by rw [f14] at hi; omega⟩
      · have := congrArg (fun z : D5 => z.1 6) (shf k')
        have t1 : XF Zf 10 k' 6 = (if k' = k then stD X6 d else shG X k').1 6 := this
        rw [t1]
        split
        · exact rel.2.2.2.2.1
        · exact sh.2.2.1 k'
      · rw [zP, ← hk, shf k, if_pos rfl]; exact ⟨rel.2, rel.1⟩
      · rw [f14, f29]; decide
    · rw [z61]
      have e8 : XF Zf 8 0 3 = 0 := by rw [zF 8 0 3 (by decide), hXc]; rfl
      unfold SntX
      rw [e8]
      exact ⟨bs.2.2, by decide, fun i hi => by omega⟩
    · unfold LogI at *
      rw [oF' 2 0 6 (by omega), oF' 2 0 7 (by omega), oF' 2 0 8 (by omega), oF' 2 0 9 (by omega), oF' 2 0 10 (by omega), f38, hiR 76 0 (by omega) (by omega)]
      exact lo
