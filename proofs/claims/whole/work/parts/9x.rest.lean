/-! restore, AS A CALL -/
theorem op_restore {f0 : Nat} {Y : YS} {X : XS} (h : Inv Y X) {k : Int} (rg_k : Rg k) (hf : 2000 ≤ f0) : ∃ v X1 X2, fX11_restore f0 (Ad Y 11 0) (iI k) (hp Y X) = some (v, hp Y X1) ∧ fX12_restore f0 (Ad Y 12 0) (iI k) (hp Y X1) = some (v, hp Y X2) ∧ Inv Y X2 := by
  have hI := h
  have th := Inv_th h (v := 0) ⟨by decide, by decide⟩
  obtain ⟨gy, W, tp, re, fl, se, na, po, sh, sn, lo, im0, im1⟩ := h
  have g := gy.1
  have g0 := SeO_0 g; have st0 := StO_0 g
  have r1 := rg_k.1; have r2 := rg_k.2
  have isin := r_isIn9 (f0 := f0) (h := hp Y (sF X 12 0 0 0)) (a := k) (b := 0) (c := 1) rg_k ⟨by decide, by decide⟩ ⟨by decide, by decide⟩
  by_cases k2 : 0 ≤ k ∧ k < 2
  · have kc1 : ¬ k < 0 := by omega
    have kc2 : ¬ (2 : Int) ≤ k := by omega
    have kin : 0 ≤ k ∧ k ≤ 1 := by omega
    have k20 := k2.1; have k21 := k2.2
    obtain ⟨q, hq⟩ : ∃ q : Nat, (q : Int) = k := ⟨k.toNat, by omega⟩
    have qk : k.toNat = q := by omega
    have q2 : q < 2 := by omega
    have imq : ImgI Y X q := by
      rcases (by omega : q = 0 ∨ q = 1) with e | e <;> subst e
      · exact im0
      · exact im1
    have e81 : XR X 81 0 k = if XM X q = true then 1 else 0 := by rw [← hq]; exact imq.1.1
    have f81 : XR (sF X 12 0 0 0) 81 0 = XR X 81 0 := rfl
    by_cases m : XM X q = true
    · rw [if_pos m] at e81
      obtain ⟨⟨oI, oS, oH, oT⟩, sI, nI, tI, cI, rI⟩ := imq.2 m
      obtain ⟨p, hp0⟩ : ∃ p, p = XP X 0 := ⟨_, rfl⟩
      have p10 : p < 10 := by rw [hp0]; exact sh.1 0 (by decide)
      have gp := ShO_k g p10
      obtain ⟨X1, hX1⟩ : ∃ X1, X1 = seaCp X 0 (q + 2) := ⟨_, rfl⟩
      have W1 : WF X1 := by rw [hX1]; exact sc_W W
      have x1F : ∀ s k' f, ¬ (k' = 0 ∧ (s = 3 ∧ f = 3 ∨ s = 6 ∧ f = 2)) → XF X1 s k' f = XF X s k' f := fun s k' f z => by rw [hX1]; exact sc_F z
      have x1R : ∀ s k', ¬ (k' = 0 ∧ 23 ≤ s ∧ s ≤ 35) → XR X1 s k' = XR X s k' := fun s k' z => by rw [hX1]; exact sc_R z
      have x1J : ∀ s k', ¬ (k' = 0 ∧ s = 22) → XJ X1 s k' = XJ X s k' := fun s k' z => by rw [hX1]; exact sc_J z
      have x1P : XP X1 = XP X ∧ XM X1 = XM X := by rw [hX1]; exact sc_P
      have g1e : ∀ k', shG X1 k' = shG X k' := fun k' => by
        unfold shG
        rw [x1R 43 k' (by omega), x1R 44 k' (by omega), x1R 45 k' (by omega), x1R 46 k' (by omega)]
        have : XF X1 10 k' = XF X 10 k' := funext fun f => x1F 10 k' f (by omega)
        rw [this]
      obtain ⟨d, hd⟩ : ∃ d, d = cpD (shG X1 p) (shG X (q + 10)) := ⟨_, rfl⟩
      have Wd : WD d := by rw [hd]; exact WD_cp (WD_G W1 p) (WD_G W (q + 10))
      obtain ⟨X2, hX2⟩ : ∃ X2, X2 = shS X1 p d := ⟨_, rfl⟩
      have W2 : WF X2 := by rw [hX2]; exact W_sh W1 Wd
      obtain ⟨X3, hX3⟩ : ∃ X3, X3 = snCp X2 0 (q + 2) := ⟨_, rfl⟩
      have W3 : WF X3 := by rw [hX3]; exact sn_W W2
      obtain ⟨Xc, hXc⟩ : ∃ Xc, Xc = sF X3 11 0 14 0 := ⟨_, rfl⟩
      have Wc : WF Xc := by rw [hXc]; exact W_F W3 (by decide) (by decide)
      have cl : fX11_restore f0 (Ad Y 11 0) (iI k) (hp Y X) = some (1, hp Y Xc) := by
        have ldq := l_48 (X := X) g k2.1 k2.2
        rw [qk, if_pos m] at ldq
        have ldn := l_48n (X := X) g k2.1 k2.2 (by rw [qk]; exact m)
        rw [qk] at ldn
        have c1 := e_seaCp (f0 := f0) (X := X) g0 oS (by omega)
        rw [← hX1] at c1
        have pk : XP X1 0 = p := by rw [x1P.1, hp0]
        have h6 : XF X1 10 (q + 10) 6 = 0 ∨ XF X1 10 (q + 10) 6 = 1 := by rw [x1F 10 (q + 10) 6 (by omega)]; exact sh.2.2.1 _
        have c2 := d_copyFrom (f0 := f0) (X := X1) (d := shG X1 p) gp oH (by omega) W1 h6
        rw [sh_id, g1e (q + 10), ← hd, ← hX2] at c2
        have c3 := e_snCp (f0 := f0) (X := X2) st0 oT (by omega)
        rw [← hX3] at c3
        rw [hXc]
        have nn : ¬ (some (Ad Y 1 q) = (none : Option Nat)) := by simp
        simp (disch := first | assumption | omega) only [fX11_restore, g_11_15, g_11_4, g_1_0, g_11_11, g_1_1, g_11_7, g_1_2, p_11_14, k_6, k_10, k_8, l_48, li_0, li_2, li_1, Option.bind_some, iI_add, iI_lt, iI_le, if_neg kc1, if_neg kc2, ldq, if_neg nn, ldn, c1, pk, c2, c3]
        exact zr_i1
      have xcR : ∀ s k', ¬ (k' = 0 ∧ 23 ≤ s ∧ s ≤ 38) → ¬ (43 ≤ s ∧ s ≤ 46) → XR Xc s k' = XR X s k' := fun s k' z1 z2 => by
        rw [hXc]; show XR X3 s k' = _
        rw [hX3, sn_R (by omega), hX2]
        by_cases c : s < 43
        · rw [sh_k0 c, x1R s k' (by omega)]
        · rw [sh_k9 (by omega), x1R s k' (by omega)]
      have xcF : ∀ s k' f, ¬ (k' = 0 ∧ (s = 3 ∨ s = 6 ∨ s = 8)) → s ≠ 10 → ¬ (s = 11 ∧ f = 14) → XF Xc s k' f = XF X s k' f := fun s k' f z1 z2 z3 => by
        rw [hXc, XF_sF, if_neg (by omega), hX3, sn_F (by omega), hX2, sh_f z2, x1F s k' f (by omega)]
      have xcJ : ∀ s k', ¬ (k' = 0 ∧ s = 22) → XJ Xc s k' = XJ X s k' := fun s k' z => by
        rw [hXc]; show XJ X3 s k' = _
        rw [hX3]; show XJ X2 s k' = _
        rw [hX2]; show XJ X1 s k' = _
        exact x1J s k' z
      obtain ⟨Z0, hZ0⟩ : ∃ Z0, Z0 = sF Xc 12 0 0 0 := ⟨_, rfl⟩
      have WZ0 : WF Z0 := by rw [hZ0]; exact W_F Wc (by decide) (by decide)
      have z79 : XR Z0 79 0 = XR X 79 0 := by rw [hZ0]; show XR Xc 79 0 = _; exact xcR 79 0 (by omega) (by omega)
      have z80 : XJ Z0 80 0 = XJ X 80 0 := by rw [hZ0]; show XJ Xc 80 0 = _; exact xcJ 80 0 (by omega)
      have kp : ∀ j, XR Z0 79 0 (646 * k + j) = kpS X q j := fun j => by rw [z79, ← hq]
      have a8 : ∀ i, 0 ≤ i → i < 64 → 0 ≤ kpS X q (8 + i) ∧ kpS X q (8 + i) ≤ 1000 := fun i i0 i1 => by
        have a := sI.1.2.2.2.2.2.2.1 i i0 i1; rw [(sI.2.1.2.1 i i0 i1).1] at a; omega
      have a72 : ∀ i, 0 ≤ i → i < 64 → 0 ≤ kpS X q (72 + i) ∧ kpS X q (72 + i) ≤ 1000 := fun i i0 i1 => by
        obtain ⟨d1, d2, d3⟩ := div8 i0 i1
        have := (sI.2.2.2.1.1 (i / 8) (i % 8) d2.1 d2.2 d3.1 d3.2).2.2.2; rw [d1] at this; omega
      have rr := r_rest (f0 := f0) (Y := Y) (Z := Z0) (k := k) g WZ0 k2.1 k2.2 (fun i i0 i1 => by rw [kp]; exact a8 i i0 i1) (fun i i0 i1 => by rw [kp]; exact a72 i i0 i1) hf
      obtain ⟨S, hS⟩ : ∃ S, S = rtS (fun j => XR Z0 79 0 (646 * k + j)) (XR Z0 61 0) 646 := ⟨_, rfl⟩
      obtain ⟨N, hN⟩ : ∃ N, N = rtN (fun j => XJ Z0 80 0 (30 * k + j)) (XJ Z0 64 0) 30 := ⟨_, rfl⟩
      obtain ⟨Zf, hZf⟩ : ∃ Zf, Zf = sF (wyZ (sJ Z0 64 0 N) S) 12 0 29 0 := ⟨_, rfl⟩
      rw [← hS, ← hN, ← hZf] at rr
      have Sk : ∀ j, 0 ≤ j → j < 646 → S j = kpS X q j := fun j j0 j1 => by rw [hS]; unfold rtS; rw [if_pos ⟨j0, j1⟩]; exact kp j
      have Nk : ∀ j, 0 ≤ j → j < 30 → N j = kpN X q j := fun j j0 j1 => by rw [hN]; unfold rtN; rw [if_pos ⟨j0, j1⟩, z80, ← hq]
      refine ⟨1, Xc, Zf, cl, ?_, ?_⟩
      · have f81c : XR (sF Xc 12 0 0 0) 81 0 k = 1 := by show XR Xc 81 0 k = 1; rw [xcR 81 0 (by omega) (by omega)]; exact e81
        have isc := r_isIn9 (f0 := f0) (h := hp Y (sF Xc 12 0 0 0)) (a := k) (b := 0) (c := 1) rg_k ⟨by decide, by decide⟩ ⟨by decide, by decide⟩
        rw [← hZ0] at isc f81c
        simp (disch := first | assumption | omega) only [fX12_restore, g_12_48, p_12_0, l_81, li_0, li_1, ob2, Option.bind_some, iI_add, isc, bI_i0, ite_n, if_pos kin, f81c, iI_eq, Int.reduceEq, if_false, ← hZ0, rr]
      · have z61 : XR Zf 61 0 = S := by rw [hZf]; rfl
        have z66 : XR Zf 66 0 = fwG 8 8 (dgT (ini0 (fun i => S (8 + i)) (XR Z0 66 0) 64) 8) := by rw [hZf]; rfl
        have z67 : XR Zf 67 0 = fwG 8 8 (dgT (ini0 (fun i => S (72 + i)) (XR Z0 67 0) 64) 8) := by rw [hZf]; rfl
        have z64 : XJ Zf 64 0 = N := by rw [hZf]; rfl
        have zF : ∀ s k' f, ¬ (s = 12 ∧ (f = 0 ∨ f = 29)) → XF Zf s k' f = XF Xc s k' f := fun s k' f z => by
          rw [hZf, XF_sF, if_neg (by omega)]; show XF Z0 s k' f = _
          rw [hZ0, XF_sF, if_neg (by omega)]
        have zR : ∀ s k', ¬ (s = 61 ∨ s = 66 ∨ s = 67) → XR Zf s k' = XR Xc s k' := fun s k' z => by
          rw [hZf, XR_sF]; unfold wyZ; rw [XR_sR, if_neg (by omega), XR_sR, if_neg (by omega), XR_sR, if_neg (by omega), hZ0]; rfl
        have zJ : ∀ s k', s ≠ 64 → XJ Zf s k' = XJ Xc s k' := fun s k' z => by
          rw [hZf, XJ_sF]; unfold wyZ; rw [XJ_sR, XJ_sR, XJ_sR, XJ_sJ, if_neg (fun w => z w.1), hZ0]; rfl
        have zP : XP Zf = XP X := by rw [hZf, hZ0, hXc, hX3, hX2]; show XP X1 = _; exact x1P.1
        have zM : XM Zf = XM X := by rw [hZf, hZ0, hXc, hX3, hX2]; show XM X1 = _; exact x1P.2
        have q66 : ∀ (st : Int) (q : Int → Int), (∀ i, Rg (q i)) → (∀ i, 0 ≤ i → i < 64 → 0 ≤ S (st + i) ∧ S (st + i) ≤ 1000) → ∀ i, Rg (fwG 8 8 (dgT (ini0 (fun i => S (st + i)) q 64) 8) i) := fun st q hq hs i => by
          by_cases c : 0 ≤ i ∧ i < 64
          · have := fwG_rg (n := 8) (r := dgT (ini0 (fun i => S (st + i)) q 64) 8) (by decide) (fun i i0 i1 => by
              rw [dgT_ini i i0 i1]; have q9 : 0 ≤ (fun i => S (st + i)) i ∧ (fun i => S (st + i)) i ≤ 1000 := hs i i0 i1; unfold iniW; generalize (fun i => S (st + i)) i = w9 at *; (repeat' split) <;> omega) 8 (by decide) i c.1 c.2
            exact ⟨by omega, by omega⟩
          · have o : ∀ m : Nat, m ≤ 8 → fwG 8 m (dgT (ini0 (fun i => S (st + i)) q 64) 8) i = q i := fun m => by
              induction m with
              | zero => intro _; show dgT (ini0 (fun i => S (st + i)) q 64) 8 i = _; unfold dgT ini0; rw [if_neg (by omega), if_neg c]
              | succ m ih =>
                intro hm
                show fwS 8 m (fwG 8 m (dgT (ini0 (fun i => S (st + i)) q 64) 8)) i = _
                unfold fwS; rw [if_neg (by omega)]; exact ih (by omega)
            rw [o 8 (by decide)]; exact hq i
        have W9 : WF Zf := by
          rw [hZf]; unfold wyZ
          refine W_F (W_R (W_R (W_R (W_J WZ0) (fun i => ?_)) (q66 8 _ (fun i => WZ0.2 _ _ _) (fun i i0 i1 => by rw [Sk _ (by omega) (by omega)]; exact a8 i i0 i1))) (q66 72 _ (fun i => WZ0.2 _ _ _) (fun i i0 i1 => by rw [Sk _ (by omega) (by omega)]; exact a72 i i0 i1))) (by decide) (by decide)
          rw [hS]; unfold rtS; split
          · exact WZ0.2 _ _ _
          · exact WZ0.2 _ _ _
        have xR0 : ∀ t, 23 ≤ t → t ≤ 35 → XR Zf t 0 = XR X1 t 0 := fun t t0 t1 => by
          rw [zR t 0 (by omega), hXc]; show XR X3 t 0 = _; rw [hX3, sn_R (by omega), hX2, sh_k0 (by omega)]
        have xF0 : ∀ s f, s = 3 ∨ s = 6 → XF Zf s 0 f = XF X1 s 0 f := fun s f hs => by
          rw [zF s 0 f (by omega), hXc, XF_sF, if_neg (by omega), hX3, sn_F (by omega), hX2, sh_f (by omega)]
        have SI : SeaI Zf 0 S := by
          refine SeaI_S (S := kpS X q) (fun j j0 j1 => Sk j j0 (by omega)) ?_
          have w := sc_SeaI (j := 0) sI
          rw [← hX1] at w
          unfold SeaI CSea SeaR SeaW at *
          rw [xR0 25 (by decide) (by decide), xR0 26 (by decide) (by decide), xR0 27 (by decide) (by decide), xR0 28 (by decide) (by decide), xR0 29 (by decide) (by decide), xR0 31 (by decide) (by decide), xR0 32 (by decide) (by decide), xR0 33 (by decide) (by decide), xR0 34 (by decide) (by decide), xR0 35 (by decide) (by decide), xF0 6 2 (by decide)]
          exact w
        have PW : PostW Zf S := fun i i0 i1 => by
          rw [z66, z67]
          unfold frs pst
          exact ⟨fwG_c (by decide) dgT_ini 8 (by decide) i i0 i1, fwG_c (by decide) dgT_ini 8 (by decide) i i0 i1⟩
        have c8 : S 0 ≤ 8 ∧ S 1 ≤ 8 := by
          have a := SI.1.1; have b := SI.1.2.1; have e := SI.2.1.1; omega
        have k8 : kpS X q 0 ≤ 8 ∧ kpS X q 1 ≤ 8 := by rw [← Sk 0 (by decide) (by decide), ← Sk 1 (by decide) (by decide)]; exact c8
        have shf : ∀ k', shG Zf k' = if k' = p then d else shG X k' := fun k' => by
          have e1 : shG Zf k' = shG X2 k' := by
            unfold shG
            have a1 : ∀ t, 43 ≤ t → t ≤ 46 → XR Zf t k' = XR X2 t k' := fun t t0 t1 => by
              rw [zR t k' (by omega), hXc]; show XR X3 t k' = _; rw [hX3, sn_R (by omega)]
            rw [a1 43 (by decide) (by decide), a1 44 (by decide) (by decide), a1 45 (by decide) (by decide), a1 46 (by decide) (by decide)]
            have : XF Zf 10 k' = XF X2 10 k' := funext fun f => by rw [zF 10 k' f (by omega), hXc, XF_sF, if_neg (by omega), hX3, sn_F (by omega)]
            rw [this]
          rw [e1, hX2, shG_sh, g1e]
        have sq : SEq d (shG X (q + 10)) := by rw [hd]; exact SEq_cp _ _
        have relS : RelS Zf d S := by
          refine rel_seq c8 sq (RelS_S k8 (fun j j0 j1 => Sk j j0 j1) ?_)
          rw [Rel_q]
          refine Rel_qq k8.1 (fun i i0 i1 => ?_) rI
          rw [(PW i i0 i1).2]
          unfold pst
          exact fwG_c (by decide) (iniW_c (fun j j0 j1 => (Sk (72 + j) (by omega) (by omega)).symm)) 8 (by decide) i i0 i1
        have cdS : CD Zf d := by
          refine CD_seq sq ?_
          rw [CD_n]
          have e0 : XR Zf 25 0 0 = XR X 25 (q + 2) 0 := by rw [xR0 25 (by decide) (by decide), hX1]; exact sc_25 (by decide) (by decide)
          have e3 : XR Zf 25 0 3 = XR X 25 (q + 2) 3 := by rw [xR0 25 (by decide) (by decide), hX1]; exact sc_25 (by decide) (by decide)
          rw [e0, e3]; exact cI
        have img : ∀ i, ImgI Y X i → ImgI Y Zf i := fun i hi => by
          have e79 : kpS Zf i = kpS X i := by unfold kpS; rw [zR 79 0 (by omega), xcR 79 0 (by omega) (by omega)]
          have e80 : kpN Zf i = kpN X i := by unfold kpN; rw [zJ 80 0 (by omega), xcJ 80 0 (by omega)]
          have rr' : ∀ t, t ≤ 38 → XR Zf t (i + 2) = XR X t (i + 2) := fun t t1 => by rw [zR t _ (by omega), xcR t _ (by omega) (by omega)]
          refine ⟨by rw [zR 81 0 (by omega), xcR 81 0 (by omega) (by omega), zM]; exact hi.1, fun m' => ?_⟩
          rw [zM] at m'
          obtain ⟨a, b, c, d', e, f⟩ := hi.2 m'
          rw [e79, e80, shf (i + 10), if_neg (by omega)]
          refine ⟨a, ?_, ?_, ?_, ?_, f⟩
          · unfold SeaI CSea SeaR SeaW at *
            rw [rr' 25 (by omega), rr' 26 (by omega), rr' 27 (by omega), rr' 28 (by omega), rr' 29 (by omega), rr' 31 (by omega), rr' 32 (by omega), rr' 33 (by omega), rr' 34 (by omega), rr' 35 (by omega), zF 6 (i + 2) 2 (by omega), xcF 6 (i + 2) 2 (by omega) (by omega) (by omega)]
            exact b
          · unfold NamX at *; rw [zJ 22 (i + 2) (by omega), xcJ 22 (i + 2) (by omega), rr' 23 (by omega), rr' 24 (by omega), zF 3 (i + 2) 3 (by omega), xcF 3 (i + 2) 3 (by omega) (by omega) (by omega)]; exact c
          · unfold SntX at *; rw [rr' 36 (by omega), rr' 37 (by omega), rr' 38 (by omega), zF 8 (i + 2) 3 (by omega), xcF 8 (i + 2) 3 (by omega) (by omega) (by omega)]; exact d'
          · rw [rr' 25 (by omega)]; exact e
        have f14 : XF Zf 11 0 14 = 0 := by rw [zF 11 0 14 (by omega), hXc]; rfl
        have f29 : XF Zf 12 0 29 = 0 := by rw [hZf]; rfl
        refine ⟨gy, W9, ⟨fun i i0 i1 => ?_, ?_, ?_⟩, fun i hi => ?_, ?_, by rw [z61]; exact SI, ?_, by rw [z61]; exact PW, ?_, ?_, ?_, img 0 im0, img 1 im1⟩
        · rw [zR 20 0 (by omega), xcR 20 0 (by omega) (by omega), zR 60 0 (by omega), xcR 60 0 (by omega) (by omega)]; exact tp.1 i i0 i1
        · rw [zF 11 0 1 (by omega), xcF 11 0 1 (by omega) (by omega) (by omega)]; exact tp.2.1
        · rw [zF 11 0 1 (by omega), xcF 11 0 1 (by omega) (by omega) (by omega), zF 12 0 2 (by omega), xcF 12 0 2 (by omega) (by omega) (by omega)]; exact tp.2.2
        · rw [zJ 21 0 (by omega), xcJ 21 0 (by omega), zJ 65 0 (by omega), xcJ 65 0 (by omega)]; exact re i hi
        · rw [zF 11 0 3 (by omega), xcF 11 0 3 (by omega) (by omega) (by omega), zF 12 0 15 (by omega), xcF 12 0 15 (by omega) (by omega) (by omega)]; exact fl
        · have n30 : XF X 3 (q + 2) 3 ≤ 30 := by
            have a := nI.1.2; have b := sI.1; have e := sI.2.1.1
            have b1 := b.1; have b2 := b.2.1; have b3 := b.2.2.1; have b4 := b.2.2.2.1
            omega
          have w := sc_Nam (j := 0) nI n30
          rw [← hX1] at w
          have w2 := NamI_S9 (S' := S) (fun j j0 j3 => Sk j j0 (by omega)) w
          have w3 := NamI_nm (SeaI_b SI) (nm' := XJ Zf 64 0) (fun i i0 i1 => by rw [z64]; exact Nk i i0 i1) w2
          have j22 : XJ Zf 22 0 = XJ X1 22 0 := by rw [zJ 22 0 (by omega), hXc, hX3, hX2]; rfl
          rw [z61]; unfold NamX
          rw [j22, xR0 23 (by decide) (by decide), xR0 24 (by decide) (by decide), xF0 3 3 (by decide)]
          exact w3
        · rw [z61]
          refine ⟨by rw [zP]; exact sh.1, by rw [zP]; exact sh.2.1, fun k' => ?_, ?_, ?_, fun i hi => by rw [f14] at hi; omega⟩
          · have := congrArg (fun z : D5 => z.1 6) (shf k')
            have t1 : XF Zf 10 k' 6 = (if k' = p then d else shG X k').1 6 := this
            rw [t1]
            split
            · exact cdS.2.2.2.1
            · exact sh.2.2.1 k'
          · rw [zP, ← hp0, shf p, if_pos rfl]; exact ⟨cdS, relS⟩
          · rw [f14, f29]; decide
        · have w : SntX X2 (q + 2) (kpS X q) := by
            unfold SntX at *
            rw [hX2, sh_k0 (by decide), sh_k0 (by decide), sh_k0 (by decide), sh_f (by decide), x1R 36 _ (by omega), x1R 37 _ (by omega), x1R 38 _ (by omega), x1F 8 _ 3 (by omega)]
            exact tI
          have w2 := sn_Snt (j := 0) w
          rw [← hX3] at w2
          have w3 : SntX X3 0 S := SntI_c (fun _ _ _ => rfl) (fun _ _ _ => rfl) (fun _ _ _ => rfl) Sk w2
          rw [z61]; unfold SntX at *
          have a1 : ∀ t, 36 ≤ t → t ≤ 38 → XR Zf t 0 = XR X3 t 0 := fun t t0 t1 => by rw [zR t 0 (by omega), hXc]; rfl
          rw [a1 36 (by decide) (by decide), a1 37 (by decide) (by decide), a1 38 (by decide) (by decide), zF 8 0 3 (by omega), hXc, XF_sF, if_neg (by omega)]
          exact w3
        · unfold LogI at *
          rw [zF 2 0 6 (by omega), zF 2 0 7 (by omega), zF 2 0 8 (by omega), zF 2 0 9 (by omega), zF 2 0 10 (by omega), zF 12 0 38 (by omega), zR 76 0 (by omega), xcF 2 0 6 (by omega) (by omega) (by omega), xcF 2 0 7 (by omega) (by omega) (by omega), xcF 2 0 8 (by omega) (by omega) (by omega), xcF 2 0 9 (by omega) (by omega) (by omega), xcF 2 0 10 (by omega) (by omega) (by omega), xcF 12 0 38 (by omega) (by omega) (by omega), xcR 76 0 (by omega) (by omega)]
          exact lo
    · rw [if_neg m] at e81
      refine ⟨0, X, sF X 12 0 0 0, ?_, ?_, th⟩
      · have ldq := l_48 (X := X) g k2.1 k2.2
        rw [qk, if_neg m] at ldq
        simp (disch := first | assumption | omega) only [fX11_restore, g_11_15, g_11_4, g_1_0, g_11_11, g_1_1, g_11_7, g_1_2, p_11_14, k_6, k_10, k_8, l_48, li_0, li_2, li_1, Option.bind_some, iI_add, iI_lt, iI_le, if_neg kc1, if_neg kc2, ldq, if_true]
        exact zr_i0
      · simp (disch := first | assumption | omega) only [fX12_restore, g_12_48, p_12_0, l_81, li_0, li_1, ob2, Option.bind_some, iI_add, isin, bI_i0, ite_n, if_pos kin, f81, e81, if_true]
        exact zr_i0
  · refine ⟨0, X, sF X 12 0 0 0, ?_, ?_, th⟩
    · by_cases c : k < 0
      · simp (disch := first | assumption | omega) only [fX11_restore, g_11_15, g_11_4, g_1_0, g_11_11, g_1_1, g_11_7, g_1_2, p_11_14, k_6, k_10, k_8, l_48, li_0, li_2, li_1, Option.bind_some, iI_add, iI_lt, if_pos c]
        exact zr_i0
      · have c2 : (2 : Int) ≤ k := by omega
        simp (disch := first | assumption | omega) only [fX11_restore, g_11_15, g_11_4, g_1_0, g_11_11, g_1_1, g_11_7, g_1_2, p_11_14, k_6, k_10, k_8, l_48, li_0, li_2, li_1, Option.bind_some, iI_add, iI_lt, iI_le, if_neg c, if_pos c2]
        exact zr_i0
    · have kin : ¬ (0 ≤ k ∧ k ≤ 1) := by omega
      simp (disch := first | assumption | omega) only [fX12_restore, g_12_48, p_12_0, l_81, li_0, li_1, ob2, Option.bind_some, iI_add, isin, bI_i0, ite_n, if_neg kin]
      exact zr_i0
