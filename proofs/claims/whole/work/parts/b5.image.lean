/-! image, AS A CALL -/
theorem im_33 {f0 : Nat} {Y : YS} {X : XS} {q : Nat} {K : Int32 → Hp → Prop} (gy : GY Y ∧ U11 Y) (W : WF X) (hM : InvM X) (oth : ∀ q', q' ≠ q → q' < 2 → ImgI Y X q') (m : XM X q = true) (ow : OwI Y q) (q2 : q < 2) (hf : 2000 ≤ f0) (hK : ∀ X1 X2, fX12_image f0 (Ad Y 12 0) (iI (q : Int)) (hp Y X1) = some (1, hp Y X2) → Inv Y X2 → K 1 (hp Y X1)) : bX11_image_33 f0 K (Ad Y 11 0) (iI (q : Int)) (hp Y X) := by
  obtain ⟨g, u⟩ := gy
  have hM' := hM
  obtain ⟨tp, re, fl, se, na, po, sh, sn, lo⟩ := hM
  obtain ⟨oI, oS, oH, oT⟩ := ow
  have g0 := SeO_0 g
  have st0 := StO_0 g
  obtain ⟨S, hS⟩ : ∃ S, S = XR X 61 0 := ⟨_, rfl⟩
  obtain ⟨p, hp0⟩ : ∃ p, p = XP X 0 := ⟨_, rfl⟩
  have p10 : p < 10 := by rw [hp0]; exact sh.1 0 (by decide)
  have gp := ShO_k g p10
  obtain ⟨X1, hX1⟩ : ∃ X1, X1 = seaCp X (q + 2) 0 := ⟨_, rfl⟩
  have W1 : WF X1 := by rw [hX1]; exact sc_W W
  have x1F : ∀ s k' f, ¬ (k' = q + 2 ∧ (s = 3 ∧ f = 3 ∨ s = 6 ∧ f = 2)) → XF X1 s k' f = XF X s k' f := fun s k' f z => by rw [hX1]; exact sc_F z
  have x1R : ∀ s k', ¬ (k' = q + 2 ∧ 23 ≤ s ∧ s ≤ 35) → XR X1 s k' = XR X s k' := fun s k' z => by rw [hX1]; exact sc_R z
  have x1J : ∀ s k', ¬ (k' = q + 2 ∧ s = 22) → XJ X1 s k' = XJ X s k' := fun s k' z => by rw [hX1]; exact sc_J z
  have x1P : XP X1 = XP X ∧ XM X1 = XM X := by rw [hX1]; exact sc_P
  have g1e : ∀ k', shG X1 k' = shG X k' := fun k' => by
    unfold shG
    rw [x1R 43 k' (by omega), x1R 44 k' (by omega), x1R 45 k' (by omega), x1R 46 k' (by omega)]
    have : XF X1 10 k' = XF X 10 k' := funext fun f => x1F 10 k' f (by omega)
    rw [this]
  obtain ⟨d, hd⟩ : ∃ d, d = cpD (shG X1 (q + 10)) (shG X p) := ⟨_, rfl⟩
  have Wd : WD d := by rw [hd]; exact WD_cp (WD_G W1 _) (WD_G W p)
  have sq : SEq d (shG X p) := by rw [hd]; exact SEq_cp _ _
  obtain ⟨X2, hX2⟩ : ∃ X2, X2 = shS X1 (q + 10) d := ⟨_, rfl⟩
  have W2 : WF X2 := by rw [hX2]; exact W_sh W1 Wd
  obtain ⟨X3, hX3⟩ : ∃ X3, X3 = snCp X2 (q + 2) 0 := ⟨_, rfl⟩
  have W3 : WF X3 := by rw [hX3]; exact sn_W W2
  obtain ⟨X4, hX4⟩ : ∃ X4, X4 = imR X3 (q : Int) := ⟨_, rfl⟩
  have rf := r_img (f0 := f0) (Y := Y) (Z := X3) (q := (q : Int)) g (by omega) (by omega) hf
  rw [← hX4] at rf
  have x2R : ∀ s k', ¬ (k' = q + 10 ∧ 43 ≤ s ∧ s ≤ 46) → XR X2 s k' = XR X1 s k' := fun s k' z => by
    rw [hX2]; exact (LvF_sh (k := q + 10) (X := X1) (d := d)).2.1 s k' z
  have x2F : ∀ s k' f, ¬ (s = 10 ∧ k' = q + 10) → XF X2 s k' f = XF X1 s k' f := fun s k' f z => by
    rw [hX2]
    show (if s = 10 ∧ k' = q + 10 then d.1 f else X1.1 s k' f) = _
    rw [if_neg z]; rfl
  have x3R : ∀ s k', ¬ (k' = q + 2 ∧ 36 ≤ s ∧ s ≤ 38) → XR X3 s k' = XR X2 s k' := fun s k' z => by rw [hX3]; exact sn_R z
  have x3F : ∀ s k' f, ¬ (k' = q + 2 ∧ s = 8 ∧ f = 3) → XF X3 s k' f = XF X2 s k' f := fun s k' f z => by rw [hX3]; exact sn_F z
  have x4F : ∀ s k' f, ¬ (s = 12 ∧ k' = 0 ∧ f = 0) → XF X4 s k' f = XF X3 s k' f := fun s k' f z => by
    rw [hX4]; unfold imR; show XF (sF X3 12 0 0 0) s k' f = _; rw [XF_sF, if_neg z]
  have x4R : ∀ s k', ¬ (k' = 0 ∧ (s = 79 ∨ s = 81)) → XR X4 s k' = XR X3 s k' := fun s k' z => by
    rw [hX4]; unfold imR; rw [XR_sR, if_neg (by omega), XR_sJ, XR_sR, if_neg (by omega)]; rfl
  have x4J : ∀ s k', ¬ (s = 80 ∧ k' = 0) → XJ X4 s k' = XJ X3 s k' := fun s k' z => by
    rw [hX4]; unfold imR; rw [XJ_sR, XJ_sJ, if_neg z]; rfl
  have x3J : ∀ s k', XJ X3 s k' = XJ X1 s k' := fun s k' => by rw [hX3, hX2]; rfl
  have r79 : XR X4 79 0 = kpR (XR X3 61 0) (XR X3 79 0) (646 * (q : Int)) 646 := by
    rw [hX4]; unfold imR; rw [XR_sR, if_neg (by omega), XR_sJ]; rfl
  have r80 : XJ X4 80 0 = kpR (XJ X3 64 0) (XJ X3 80 0) (30 * (q : Int)) 30 := by rw [hX4]; rfl
  have r81 : XR X4 81 0 = upi (XR X3 81 0) (q : Int) 1 := by rw [hX4]; rfl
  have b61 : XR X3 61 0 = S := by rw [x3R 61 0 (by omega), x2R 61 0 (by omega), x1R 61 0 (by omega), hS]
  have b79 : XR X3 79 0 = XR X 79 0 := by rw [x3R 79 0 (by omega), x2R 79 0 (by omega), x1R 79 0 (by omega)]
  have b81 : XR X3 81 0 = XR X 81 0 := by rw [x3R 81 0 (by omega), x2R 81 0 (by omega), x1R 81 0 (by omega)]
  have b80 : XJ X3 80 0 = XJ X 80 0 := by rw [x3J, x1J 80 0 (by omega)]
  have b64 : XJ X3 64 0 = XJ X 64 0 := by rw [x3J, x1J 64 0 (by omega)]
  rw [b61, b79] at r79
  rw [b64, b80] at r80
  rw [b81] at r81
  have W4 : WF X4 := by
    rw [hX4]; unfold imR
    refine W_R (W_J (W_R (W_F W3 (by decide) (by decide)) fun j => ?_)) fun j => ?_
    · unfold kpR; split
      · exact W3.2 _ _ _
      · exact W3.2 _ _ _
    · rw [upi_at]; split
      · exact ⟨by decide, by decide⟩
      · exact W3.2 _ _ _
  have ff : ImF q X X4 := by
    refine ⟨fun s k f z => ?_, fun s k z => ?_, fun s k z => ?_, ?_, fun j _ => ?_, fun j z => ?_, fun j z => ?_, fun j z => ?_⟩
    · rw [x4F s k f (by omega), x3F s k f (by omega), x2F s k f (by omega)]; exact x1F s k f (by omega)
    · rw [x4R s k (by omega), x3R s k (by omega), x2R s k (by omega)]; exact x1R s k (by omega)
    · rw [x4J s k (by omega), x3J]; exact x1J s k (by omega)
    · rw [hX4, hX3, hX2]; exact x1P.1
    · rw [hX4, hX3, hX2]; show XM X1 j = _; rw [x1P.2]
    · rw [r79]; unfold kpR; rw [if_neg z]
    · rw [r80]; unfold kpR; rw [if_neg z]
    · rw [r81, upi_ne _ _ z]
  have m4 : XM X4 q = true := by
    have : XM X4 = XM X1 := by rw [hX4, hX3, hX2]; rfl
    rw [this, x1P.2]; exact m
  have sg : shG X4 (q + 10) = d := by
    have e1 : shG X4 (q + 10) = shG X2 (q + 10) := by
      unfold shG
      rw [x4R 43 _ (by omega), x4R 44 _ (by omega), x4R 45 _ (by omega), x4R 46 _ (by omega), x3R 43 _ (by omega), x3R 44 _ (by omega), x3R 45 _ (by omega), x3R 46 _ (by omega)]
      have : XF X4 10 (q + 10) = XF X2 10 (q + 10) := funext fun f => by rw [x4F 10 _ f (by omega), x3F 10 _ f (by omega)]
      rw [this]
    rw [e1, hX2, shG_sh, if_pos rfl]
  have h6 : XF X4 10 (q + 10) 6 = 0 ∨ XF X4 10 (q + 10) 6 = 1 := by
    have e : XF X4 10 (q + 10) 6 = d.1 6 := by rw [← sg]; rfl
    rw [e, sq.1 6 (by decide) (by decide)]
    exact sh.2.2.1 p
  obtain ⟨tp4, re4, fl4, se4, na4, po4, sh4, sn4, lo4⟩ := ImF_M ff h6 hM'
  have kS : ∀ j, 0 ≤ j → j < 646 → kpS X4 q j = S j := fun j j0 j1 => by
    unfold kpS; rw [r79]; unfold kpR; rw [if_pos (by omega), show 646 * (q : Int) + j - 646 * (q : Int) = j by omega]
  have kN : ∀ j, 0 ≤ j → j < 30 → kpN X4 q j = XJ X 64 0 j := fun j j0 j1 => by
    unfold kpN; rw [r80]; unfold kpR; rw [if_pos (by omega), show 30 * (q : Int) + j - 30 * (q : Int) = j by omega]
  have rr : ∀ t, 23 ≤ t → t ≤ 35 → XR X4 t (q + 2) = XR X1 t (q + 2) := fun t t0 t1 => by rw [x4R t _ (by omega), x3R t _ (by omega), x2R t _ (by omega)]
  rw [← hS] at se na po sh sn
  have sI : SeaI X4 (q + 2) (kpS X4 q) := by
    refine SeaI_S (S := S) (fun j j0 j1 => kS j j0 (by omega)) ?_
    have w := sc_SeaI (j := q + 2) se
    rw [← hX1] at w
    unfold SeaI CSea SeaR SeaW at *
    rw [rr 25 (by decide) (by decide), rr 26 (by decide) (by decide), rr 27 (by decide) (by decide), rr 28 (by decide) (by decide), rr 29 (by decide) (by decide), rr 31 (by decide) (by decide), rr 32 (by decide) (by decide), rr 33 (by decide) (by decide), rr 34 (by decide) (by decide), rr 35 (by decide) (by decide), x4F 6 (q + 2) 2 (by omega), x3F 6 (q + 2) 2 (by omega), x2F 6 (q + 2) 2 (by omega)]
    exact w
  have h8 : S 0 ≤ 8 ∧ S 1 ≤ 8 := by
    have a := se.1.1; have b := se.1.2.1; have e := se.2.1.1; omega
  have nI : NamX X4 (q + 2) (kpS X4 q) (kpN X4 q) := by
    have n30 : XF X 3 0 3 ≤ 30 := by
      have a := na.1.2; have b := se.1; have e := se.2.1.1
      have b1 := b.1; have b2 := b.2.1; have b3 := b.2.2.1; have b4 := b.2.2.2.1
      omega
    have w := sc_Nam (j := q + 2) na n30
    rw [← hX1] at w
    have q1 := NamI_S9 (S' := kpS X4 q) (fun j j0 j1 => kS j j0 (by omega)) w
    have q3 := NamI_nm (SeaI_b sI) (nm' := kpN X4 q) (fun i i0 i1 => kN i i0 i1) q1
    unfold NamX at *
    rw [x4J 22 (q + 2) (by omega), x3J, rr 23 (by decide) (by decide), rr 24 (by decide) (by decide), x4F 3 (q + 2) 3 (by omega), x3F 3 (q + 2) 3 (by omega), x2F 3 (q + 2) 3 (by omega)]
    exact q3
  have tI : SntX X4 (q + 2) (kpS X4 q) := by
    have w : SntX X2 0 S := by
      unfold SntX at *
      rw [x2R 36 0 (by omega), x2R 37 0 (by omega), x2R 38 0 (by omega), x2F 8 0 3 (by omega), x1R 36 0 (by omega), x1R 37 0 (by omega), x1R 38 0 (by omega), x1F 8 0 3 (by omega)]
      exact sn
    have w2 := sn_Snt (j := q + 2) w
    rw [← hX3] at w2
    have w3 := SntI_c (S' := kpS X4 q) (fun _ _ _ => rfl) (fun _ _ _ => rfl) (fun _ _ _ => rfl) kS w2
    unfold SntX at *
    rw [x4R 36 (q + 2) (by omega), x4R 37 (q + 2) (by omega), x4R 38 (q + 2) (by omega), x4F 8 (q + 2) 3 (by omega)]
    exact w3
  have c25 : ∀ i, 0 ≤ i → i < 7 → XR X4 25 (q + 2) i = XR X 25 0 i := fun i i0 i1 => by
    rw [rr 25 (by decide) (by decide), hX1]; exact sc_25 i0 i1
  have cI : CDn (XR X4 25 (q + 2) 0) (XR X4 25 (q + 2) 3) (shG X4 (q + 10)) := by
    rw [c25 0 (by decide) (by decide), c25 3 (by decide) (by decide), sg]
    have := CD_seq sq (by rw [hp0]; exact sh.2.2.2.1.1)
    rw [CD_n] at this; exact this
  have rI : RelQ (pst (kpS X4 q)) (shG X4 (q + 10)) (kpS X4 q) := by
    rw [sg]
    have r0 : RelS X d S := rel_seq h8 sq (by rw [hp0]; exact sh.2.2.2.1.2)
    have r1 : RelS X d (kpS X4 q) := RelS_S h8 kS r0
    rw [Rel_q] at r1
    refine Rel_qq (by rw [kS 0 (by decide) (by decide)]; exact h8.1) (fun i i0 i6 => ?_) r1
    rw [(po i i0 i6).2]
    exact (post_c (fun j j0 j1 => kS j j0 (by omega)) i0 i6).2.symm
  have imq : ImgI Y X4 q := ⟨⟨by rw [r81, upi_eq, m4]; rfl, fun z => by rw [m4] at z; cases z⟩, fun _ => ⟨⟨oI, oS, oH, oT⟩, sI, nI, tI, cI, rI⟩⟩
  have im : ∀ q', q' < 2 → ImgI Y X4 q' := fun q' h' => by
    by_cases e : q' = q
    · rw [e]; exact imq
    · exact ImF_o ff e h' id id (oth q' e h')
  have inv : Inv Y X4 := ⟨⟨g, u⟩, W4, tp4, re4, fl4, se4, na4, po4, sh4, sn4, lo4, im 0 (by decide), im 1 (by decide)⟩
  have qt : ((q : Int)).toNat = q := by omega
  have ldn := l_48n (Y := Y) (X := X) g (i := (q : Int)) (by omega) (by omega) (by rw [qt]; exact m)
  rw [qt] at ldn
  have c1 := e_seaCp (f0 := f0) (X := X) (j := q + 2) (k := 0) oS g0 (by omega)
  rw [← hX1] at c1
  have c2 := d_copyFrom (f0 := f0) (X := X1) (d := shG X1 (q + 10)) oH gp (by omega) W1 (by rw [x1F 10 p 6 (by omega)]; exact sh.2.2.1 _)
  rw [sh_id, g1e p, ← hd, ← hX2] at c2
  have c3 := e_snCp (f0 := f0) (X := X2) (j := q + 2) (k := 0) oT st0 (by omega)
  rw [← hX3] at c3
  have pk : XP X1 0 = p := by rw [x1P.1, hp0]
  have g11 := g_11_11 (Y := Y) (X := X1) g
  rw [pk] at g11
  unfold bX11_image_33
  exact ⟨_, g_11_15 g, _, ldn, _, g_1_0 oI, _, g_11_4 g, _, ck_Y g (oS.2 6 (by decide)) rfl, _, c1, _, g_1_1 oI, _, g11, _, ck_Y g (oH.2 10 (by decide)) rfl, _, c2, _, g_1_2 oI, _, g_11_7 g, _, ck_Y g (oT.2 8 (by decide)) rfl, _, c3, .inr rfl, hK X3 X4 rf inv⟩
theorem op_image {f0 : Nat} {Y : YS} {X : XS} (h : Inv Y X) {k : Int} (rg_k : Rg k) (hf : 2000 ≤ f0) {K : Int32 → Hp → Prop} (hK : ∀ v Y2 X1 X2, SameA Y Y2 → fX12_image f0 (Ad Y2 12 0) (iI k) (hp Y2 X1) = some (v, hp Y2 X2) → Inv Y2 X2 → K v (hp Y2 X1)) : wX11_image f0 (Ad Y 11 0) (iI k) (hp Y X) K := by
  have hI := h
  obtain ⟨gy, W, tp, re, fl, se, na, po, sh, sn, lo, im0, im1⟩ := h
  have g := gy.1
  have v1 := rg_k.1; have v2 := rg_k.2
  have r0 : Rg (0 : Int) := ⟨by decide, by decide⟩
  have r1 : Rg (1 : Int) := ⟨by decide, by decide⟩
  have no : ¬ (0 ≤ k ∧ k ≤ 1) → K 0 (hp Y X) := fun nk => by
    refine hK 0 Y X (sF X 12 0 0 0) (fun _ _ _ => rfl) ?_ (Inv_th hI r0)
    unfold fX12_image
    rw [li_0, p_12_0 g, Option.bind_some, li_1, r_isIn9 rg_k r0 r1, ob2_some, if_pos (by rw [bI_F nk]; rfl)]
    exact zr_i0
  unfold wX11_image
  by_cases c0 : k < 0
  · rw [if_pos (show iI k < (0 : Int32) from iLT c0 v1 v2 (by decide) (by decide))]
    exact ⟨.inl rfl, no (by omega)⟩
  · rw [if_neg (show ¬ iI k < (0 : Int32) from iNLT c0 v1 v2 (by decide) (by decide))]
    by_cases c2 : k < 2
    · rw [if_pos (show iI k < (2 : Int32) from iLT c2 v1 v2 (by decide) (by decide))]
      obtain ⟨q, hq⟩ : ∃ q : Nat, (q : Int) = k := ⟨k.toNat, by omega⟩
      have qk : k.toNat = q := by omega
      have q2 : q < 2 := by omega
      have im : ∀ q', q' < 2 → ImgI Y X q' := fun q' h' => by
        rcases (by omega : q' = 0 ∨ q' = 1) with e | e <;> subst e
        · exact im0
        · exact im1
      have hM : InvM X := ⟨tp, re, fl, se, na, po, sh, sn, lo⟩
      have lq := l_48 (Y := Y) (X := X) g (i := k) (by omega) c2
      rw [qk] at lq
      refine ⟨_, g_11_15 g, _, lq, ?_⟩
      by_cases m : XM X q = true
      · rw [if_pos m, if_neg (fun z => by cases z)]
        rw [← hq]
        refine im_33 gy W hM (fun q' _ h' => im q' h') m ((im q q2).2 m).1 q2 hf (fun X1 X2 e i => ?_)
        rw [hq] at e
        exact hK 1 Y X1 X2 (fun _ _ _ => rfl) e i
      · rw [if_neg m, if_pos rfl]
        have mf : XM X q = false := by cases e : XM X q <;> simp_all
        have imn := (im q q2).1.2 mf
        refine ⟨_, g_11_15 g, ?_⟩
        rw [← hq]
        refine im_make gy q2 imn sh.1 (fun Y' same gy' ow oth => ?_)
        have W' : WF (imZ X q) := by
          refine ⟨fun s k f => ?_, fun s k i => ?_⟩
          · show Rg (if _ then (0 : Int) else X.1 s k f)
            split
            · exact ⟨by decide, by decide⟩
            · exact W.1 s k f
          · show Rg ((if _ then (fun _ => (0 : Int)) else X.2.1 s k) i)
            split
            · show Rg (0 : Int)
              exact ⟨by decide, by decide⟩
            · exact W.2 s k i
        have ff : ImF q X (imZ X q) := by
          refine ⟨fun s k f z => ?_, fun s k z => ?_, fun s k z => ?_, rfl, fun j z => ?_, fun j z => rfl, fun j z => rfl, fun j z => rfl⟩
          · show (if _ then (0 : Int) else X.1 s k f) = _
            rw [if_neg (by omega)]; rfl
          · show (if _ then (fun _ => (0 : Int)) else X.2.1 s k) = _
            rw [if_neg (by omega)]; rfl
          · show (if _ then (fun _ => (0 : Int64)) else X.2.2.1 s k) = _
            rw [if_neg (by omega)]; rfl
          · show (if j = q then true else X.2.2.2.2 j) = _
            rw [if_neg z]; rfl
        have h6 : XF (imZ X q) 10 (q + 10) 6 = 0 ∨ XF (imZ X q) 10 (q + 10) 6 = 1 := by
          left
          show (if _ then (0 : Int) else X.1 10 (q + 10) 6) = 0
          rw [if_pos (by omega)]
        have hM' := ImF_M ff h6 hM
        have m' : XM (imZ X q) q = true := by show (if q = q then true else X.2.2.2.2 q) = true; rw [if_pos rfl]
        have s11 := same 11 0 (g.2.2.2.1 _ (by decide))
        rw [← s11]
        refine im_33 gy' W' hM' (fun q' ne h' => ImF_o ff ne h' (oth q' ne h').1 (oth q' ne h').2 (im q' h')) m' ow q2 hf (fun X1 X2 e i => ?_)
        rw [hq] at e
        exact hK 1 Y' X1 X2 same e i
    · rw [if_neg (show ¬ iI k < (2 : Int32) from iNLT c2 v1 v2 (by decide) (by decide))]
      exact ⟨.inl rfl, no (by omega)⟩
