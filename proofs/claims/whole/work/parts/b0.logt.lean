/-! log: how it begins and ends -/
def LgI (Z X : XS) (n : Int) (S : Int → Int) : Prop := WF Z ∧ (∀ i, 0 ≤ i → i < 940 → XR X 20 0 i = XR Z 60 0 i) ∧ (XF Z 12 0 3 = n ∧ XF Z 12 0 4 = 0 ∧ XF Z 12 0 5 = 400) ∧ KZ X Z S ∧ XF Z 12 0 36 = 0
abbrev Lg1 (f0 : Nat) (Y : YS) (v : Int) (Z : XS) : Option (Int32 × Hp) := (fX12_next f0 (Ad Y 12 0) (hp Y Z)).bind fun h => bX12_log_39 f0 f0 (Ad Y 12 0) (iI v) h
theorem j_lgr {f0 : Nat} {Y : YS} {X : XS} {S : Int → Int} {n v : Int} (g : GY Y) (W : WF X) (bt : byR (XR X 20 0)) (kl : KL X S) (hnc : ∀ s, isN s → ncS S s ≤ 8) (n0 : 0 ≤ n) (n1 : n ≤ 940) (hf : 2000 ≤ f0) : ∃ b X', fX2_read f0 (Ad Y 2 0) (iI n) (hp Y X) = some (b, hp Y X') ∧ WF X' ∧ TxF X X' ∧ (XF X' 11 0 1 = XF X 11 0 1 ∧ XF X' 12 0 2 = XF X 12 0 2) ∧ ((b = 0 ∧ FaC X' ∧ ∀ Z, LgI Z X n S → ∃ Z', Lg1 f0 Y v Z = some (iI (-2 - XF X' 4 0 11), hp Y Z') ∧ WF Z' ∧ TxE Z Z' ∧ FaR X' Z') ∨ (b = 1 ∧ XF X' 4 0 10 = 0 ∧ (0 ≤ XF X' 2 0 5 ∧ XF X' 2 0 5 ≤ 40) ∧ ∀ Z, LgI Z X n S → ∃ Z', Lg1 f0 Y v Z = Lt f0 Y v Z' ∧ WF Z' ∧ TxO Z Z' ∧ XF Z' 12 0 36 = XF X' 2 0 5 ∧ LgX X' Z' S)) := by
  obtain ⟨Xo, eo, Wo, to, fo, so, ⟨oF, oR, oJ, oP, oM⟩, ko⟩ := j_open (f0 := f0) (X := X) g W bt n0 n1 (m := 400) (by decide) (by decide) hf
  obtain ⟨X2, hX2⟩ : ∃ X2, X2 = sF Xo 2 0 5 0 := ⟨_, rfl⟩
  have W2 : WF X2 := by rw [hX2]; exact W_F Wo (by decide) (by decide)
  have rs2 : RdS Xo X2 := by rw [hX2]; exact ⟨fun _ => rfl, rfl, rfl, rfl⟩
  have t2 := TokC_s rs2 to
  have x3 : XF X2 3 0 3 = XF X 3 0 3 := by rw [hX2]; exact oF 3 0 3 (by omega)
  have xR : XR X2 = XR X := by rw [hX2]; exact oR
  have xJ : ∀ s k, ¬ s = 4 → XJ X2 s k = XJ X s k := fun s k q => by rw [hX2]; exact oJ s k q
  have x5 : XF X2 2 0 5 = 0 := by rw [hX2]; rfl
  have z2 : XF X2 4 0 10 = 0 := by rw [hX2]; exact fo
  have kl2 : KL X2 S := by
    unfold KL RsC NmS at *
    rw [xR, xJ 21 0 (by omega), x3]; exact kl
  have tx2 : TxF X X2 := by
    rw [hX2]
    exact TxF_F ⟨fun s k f q => oF s k f (by omega), fun s k _ => by rw [oR], fun s k q => oJ s k (by omega), fun i _ => by rw [oJ 64 0 (by omega)], oP, oM⟩ (by decide)
  have y2 : XF X2 11 0 1 = XF X 11 0 1 := by rw [hX2]; exact oF 11 0 1 (by omega)
  have y2' : XF X2 12 0 2 = XF X 12 0 2 := by rw [hX2]; exact oF 12 0 2 (by omega)
  obtain ⟨b, X3, e3, W3, f3, hh⟩ := j_logL (f0 := f0) (Y := Y) (S := S) (v := v) g hnc hf 40 f0 X2 (by omega) (by omega) W2 t2 kl2 (by omega) (by omega) z2
  have y3 : XF X3 11 0 1 = XF X 11 0 1 ∧ XF X3 12 0 2 = XF X 12 0 2 := ⟨by rw [f3.1 11 0 1 (by omega)]; exact y2, by rw [f3.1 12 0 2 (by omega)]; exact y2'⟩
  have cl : fX2_read f0 (Ad Y 2 0) (iI n) (hp Y X) = some (b, hp Y X3) := by
    rw [x5] at e3
    unfold fX2_read
    rw [g_2_0 g, Option.bind_some, k_4 g, li_400, eo, Option.bind_some, li_0, p_2_5 g, Option.bind_some, ← hX2]
    exact e3
  have pre : ∀ Z, LgI Z X n S → ∃ Z1, Lg1 f0 Y v Z = Lr f0 Y v f0 Z1 ∧ TxO Z Z1 ∧ LZ X2 Z1 S ∧ XF Z1 12 0 36 = XF X2 2 0 5 ∧ LgX X2 Z1 S := fun Z hs => by
    obtain ⟨WZ, tp, ⟨h3, h4, h5⟩, kz, h36⟩ := hs
    obtain ⟨Z1, u1, u2, u3, u4⟩ := ko Z WZ tp h3 h4 h5
    have tx : TxO Z Z1 := TxO_nx TxO_refl u2
    have kz2 : KZ X2 Z1 S := by
      refine KZ_fr FrC_refl tx ⟨kz.1, ?_, kz.2.2⟩
      rw [xJ 22 0 (by omega), xR, x3]; exact kz.2.1
    exact ⟨Z1, by unfold Lg1; rw [u1]; rfl, tx, ⟨u3, TokR_s rs2 NxS_refl u4, kz2⟩, by rw [u2.1 12 0 36 (by omega), x5]; exact h36, fun i i0 i1 => by omega⟩
  refine ⟨b, X3, cl, W3, TxF_trans tx2 (TxF_C f3), y3, ?_⟩
  rcases hh with ⟨b0, fa, kk⟩ | ⟨b1, z3, mm, kk⟩
  · refine .inl ⟨b0, fa, fun Z hs => ?_⟩
    obtain ⟨Z1, q1, q2, q3, q4, q5⟩ := pre Z hs
    obtain ⟨Z', l1, l2, l3, l4⟩ := kk Z1 f0 q3 q4 q5 (by omega)
    exact ⟨Z', by rw [q1]; exact l1, l2, TxOE q2 l3, l4⟩
  · refine .inr ⟨b1, z3, mm, fun Z hs => ?_⟩
    obtain ⟨Z1, q1, q2, q3, q4, q5⟩ := pre Z hs
    obtain ⟨Z', l1, l2, l3, l4, l5⟩ := kk Z1 f0 q3 q4 q5 (by omega)
    exact ⟨Z', by rw [q1]; exact l1, l2, TxO_trans q2 l3, l4, l5⟩
def lgI (Z : XS) : XS := sF (rfI Z 400) 12 0 36 0
theorem lgI_tx {Z : XS} : TxF Z (lgI Z) := TxF_F rfI_tx (by decide)
theorem r_logI {f0 : Nat} {Y : YS} {Z : XS} (g : GY Y) {v : Int} (hv : v = 0 ∨ v = 1) : fX12_log f0 (Ad Y 12 0) (iI v) (hp Y Z) = Lg1 f0 Y v (lgI Z) := by
  have f2 : XF (sF Z 12 0 0 0) 12 0 2 = XF Z 12 0 2 := rfl
  have hv' : 0 ≤ v ∧ v ≤ 1 := by omega
  have rv : Rg v := ⟨by omega, by omega⟩
  have r0 : Rg (0 : Int) := ⟨by decide, by decide⟩
  have r1 : Rg (1 : Int) := ⟨by decide, by decide⟩
  unfold Lg1 lgI rfI
  simp (disch := first | assumption | omega) only [fX12_log, fX12_taken, p_12_0, p_12_15, p_12_36, k_12, lm_1000, li_0, li_1, li_1000, li_400, ob2, g_12_2, p_12_3, p_12_2, p_12_4, p_12_5, Option.bind_some, iI_add, iI_neg, f2, r_isIn9, bI_i0, ite_n, if_pos hv']
theorem inv_KL {Y : YS} {X : XS} (h : Inv Y X) : KL X (XR X 61 0) := by
  obtain ⟨gy, W, tp, re, fl, se, na, po, sh, sn, lo, im0, im1⟩ := h
  refine ⟨fun i hi => (re i hi).1, fun s hs => ⟨inv_Nm se na hs, ?_⟩⟩
  have hR := se.2.1
  have e0 := hR.1.1; have e1 := hR.1.2.1; have e2 := hR.1.2.2.1; have e3 := hR.1.2.2.2.1
  rcases hs with q | q | q | q <;> subst q
  · exact e0
  · exact e1
  · exact e2
  · exact e3
theorem LgI_of {Y : YS} {X Xc : XS} (h : Inv Y X) (Wc : WF Xc) (r60 : XR Xc 60 0 = XR X 60 0) (r61 : XR Xc 61 0 = XR X 61 0) (j65 : XJ Xc 65 0 = XJ X 65 0) (j64 : ∀ i, i < 30 → XJ Xc 64 0 i = XJ X 64 0 i) (f2 : XF Xc 12 0 2 = XF X 12 0 2) : LgI (lgI Xc) (sF X 11 0 1 0) (XF X 11 0 1) (XR X 61 0) := by
  obtain ⟨gy, W, tp, re, fl, se, na, po, sh, sn, lo, im0, im1⟩ := h
  have v2 := Wc.1 12 0 2
  refine ⟨?_, fun i i0 i1 => ?_, ⟨?_, rfl, rfl⟩, ⟨?_, ?_, inv_nc se, ?_⟩, rfl⟩
  · unfold lgI rfI
    exact W_F (W_F (W_F (W_F (W_F (W_F (W_F Wc (by decide) (by decide)) v2.1 v2.2) (by decide) (by decide)) (by decide) (by decide)) (by decide) (by decide)) (by decide) (by decide)) (by decide) (by decide)
  · show XR X 20 0 i = XR Xc 60 0 i
    rw [r60]; exact (tp.1 i i0 i1).1
  · show XF Xc 12 0 2 = _
    rw [f2]; exact tp.2.2.symm
  · intro i hi
    show XJ Xc 65 0 _ = _
    rw [j65]; exact (re i hi).2
  · show NamI (XJ X 22 0) (XR X 23 0) (XR X 24 0) (XF X 3 0 3) (XR X 61 0) (fun i => XJ Xc 64 0 (0 + i))
    exact NamI_nm (SeaI_b se) (fun i _ i1 => by rw [Int.zero_add]; exact j64 i i1) na
  · exact r61
theorem Inv_lg {Y : YS} {X X' : XS} (h : Inv Y X) (W' : WF X') (tF : ∀ s k f, ¬ (s = 4 ∨ s = 7 ∨ s = 9 ∨ (k = 1 ∧ (s = 3 ∨ s = 6 ∨ s = 8)) ∨ s = 2 ∨ s = 10 ∨ (s = 11 ∧ (f = 1 ∨ f = 3 ∨ f = 14)) ∨ s = 12) → XF X' s k f = XF X s k f) (tS : ∀ k, 10 ≤ k → shG X' k = shG X k) (tR : ∀ s k, ¬ ((k = 1 ∧ 23 ≤ s ∧ s ≤ 38) ∨ (40 ≤ s ∧ s ≤ 46) ∨ s = 61 ∨ s = 62 ∨ s = 63 ∨ (68 ≤ s ∧ s ≤ 72) ∨ s = 76 ∨ s = 77) → XR X' s k = XR X s k) (tJ : ∀ s k, ¬ (s = 4 ∨ (s = 22 ∧ k = 1) ∨ s = 12 ∨ s = 64) → XJ X' s k = XJ X s k) (t64 : ∀ i, i < 30 → XJ X' 64 0 i = XJ X 64 0 i) (tM : XM X' = XM X) (h1 : XF X' 11 0 1 = 0 ∧ XF X' 12 0 2 = 0) (hf : XF X' 11 0 3 = XF X' 12 0 15) {S' : Int → Int} (e61 : XR X' 61 0 = S') (eS : ∀ j, (j < 312 ∨ 465 ≤ j) → S' j = XR X 61 0 j) (shp : ShpI X' S') (lg : LogI X') : Inv Y X' := by
  obtain ⟨gy, W, tp, re, fl, se, na, po, sh, sn, lo, i0, i1⟩ := h
  have sea : ∀ j S, j ≠ 1 → SeaI X j S → SeaI X' j S := fun j S hj q => by
    unfold SeaI CSea SeaR SeaW at *
    rw [tR 25 j (by omega), tR 26 j (by omega), tR 27 j (by omega), tR 28 j (by omega), tR 29 j (by omega), tR 31 j (by omega), tR 32 j (by omega), tR 33 j (by omega), tR 34 j (by omega), tR 35 j (by omega), tF 6 j 2 (by omega)]
    exact q
  have img : ∀ k, ImgI Y X k → ImgI Y X' k := fun k hk => by
    have e79 : kpS X' k = kpS X k := by unfold kpS; rw [tR 79 0 (by omega)]
    have e80 : kpN X' k = kpN X k := by unfold kpN; rw [tJ 80 0 (by omega)]
    refine ⟨by rw [tR 81 0 (by omega), tM]; exact hk.1, fun m => ?_⟩
    rw [tM] at m
    obtain ⟨a, b, c, d, e, f⟩ := hk.2 m
    rw [e79, e80, tS (k + 10) (by omega)]
    refine ⟨a, sea (k + 2) _ (by omega) b, ?_, ?_, ?_, f⟩
    · unfold NamX at *; rw [tJ 22 (k + 2) (by omega), tR 23 (k + 2) (by omega), tR 24 (k + 2) (by omega), tF 3 (k + 2) 3 (by omega)]; exact c
    · unfold SntX at *; rw [tR 36 (k + 2) (by omega), tR 37 (k + 2) (by omega), tR 38 (k + 2) (by omega), tF 8 (k + 2) 3 (by omega)]; exact d
    · rw [tR 25 (k + 2) (by omega)]; exact e
  have eS3 : ∀ j, 0 ≤ j → j < 312 → S' j = XR X 61 0 j := fun j j0 j1 => eS j (.inl j1)
  refine ⟨gy, W', ⟨?_, ?_, ?_⟩, ?_, hf, ?_, ?_, ?_, by rw [e61]; exact shp, ?_, lg, img 0 i0, img 1 i1⟩
  · rw [tR 20 0 (by omega), tR 60 0 (by omega)]; exact tp.1
  · rw [h1.1]; decide
  · rw [h1.1, h1.2]
  · unfold ResI at *; rw [tJ 21 0 (by omega), tJ 65 0 (by omega)]; exact re
  · rw [e61]; exact SeaI_S eS3 (sea 0 _ (by decide) se)
  · rw [e61]
    have q1 := NamI_nm (SeaI_b se) (nm' := XJ X' 64 0) (fun i _ i1 => t64 i i1) na
    have q2 := NamI_S9 (S' := S') (fun j j0 j1 => eS j (.inl (by omega))) q1
    unfold NamX at *; rw [tJ 22 0 (by omega), tR 23 0 (by omega), tR 24 0 (by omega), tF 3 0 3 (by omega)]; exact q2
  · unfold PostW at *; rw [tR 66 0 (by omega), tR 67 0 (by omega), e61]
    intro i i0 i6
    have q := post_c eS3 i0 i6
    rw [q.1, q.2]; exact po i i0 i6
  · rw [e61]
    have q := SntI_S (S' := S') (fun j j0 j1 => eS j j1) sn
    unfold SntX at *; rw [tR 36 0 (by omega), tR 37 0 (by omega), tR 38 0 (by omega), tF 8 0 3 (by omega)]; exact q
def z4 (r : Int → Int) : Int → Int := upi (upi (upi (upi r 0 0) 1 0) 2 0) 3 0
theorem r_89 {f0 : Nat} {Y : YS} {Z : XS} {S : Int → Int} {v1 : Int32} (g : GY Y) (f : Nat) : bX12_log_89 f0 (f + 5) (Ad Y 12 0) v1 0 (hp Y (sR Z 61 0 S)) = bX12_log_111 f0 f0 (Ad Y 12 0) v1 (iI (-1)) (iI 0) (hp Y (sR (sR Z 76 0 (z4 (XR Z 76 0))) 61 0 S)) := by
  have y : ∀ r, XR (sR Z 76 0 r) 76 0 = r := fun _ => rfl
  have st : ∀ (fu : Nat) (r : Int → Int) (i : Int), 0 ≤ i → i < 4 → bX12_log_89 f0 (fu + 1) (Ad Y 12 0) v1 (iI i) (hp Y (sR (sR Z 76 0 r) 61 0 S)) = bX12_log_89 f0 fu (Ad Y 12 0) v1 (iI (i + 1)) (hp Y (sR (sR Z 76 0 (upi r i 0)) 61 0 S)) := fun fu r i i0 i1 => by
    rw [bX12_log_89, li_4, if_neg (iNLE (by omega) (by omega) (by omega) (by omega) (by omega)), g_12_37 g, Option.bind_some, li_0, s76 g i0 i1, Option.bind_some, y, sR_sR, li_1, iI_add]
  have z : bX12_log_89 f0 (f + 5) (Ad Y 12 0) v1 0 (hp Y (sR Z 61 0 S)) = bX12_log_89 f0 (f + 5) (Ad Y 12 0) v1 (iI 0) (hp Y (sR (sR Z 76 0 (XR Z 76 0)) 61 0 S)) := by rw [sR_self]; rfl
  rw [z, st _ _ 0 (by decide) (by decide), st _ _ (0 + 1) (by decide) (by decide), st _ _ (0 + 1 + 1) (by decide) (by decide), st _ _ (0 + 1 + 1 + 1) (by decide) (by decide), bX12_log_89, li_4, if_pos (iLE (by decide) (by decide) (by decide) (by decide) (by decide))]
  rfl
theorem r_244 {f0 : Nat} {Y : YS} {Z : XS} {S u : Int → Int} {M : Int} {v2 : Int32} (g : GY Y) (W : WF Z) (hM : XF Z 12 0 29 = M) (m0 : 1 ≤ M) (m8 : M ≤ 8) (hf : 2000 ≤ f0) : bX12_log_244 f0 f0 (Ad Y 12 0) (iI 1) v2 0 (hp Y (sR (sR Z 71 0 u) 61 0 S)) = some (v2, hp Y (sR (sR Z 71 0 (put153 u (153 * (M - 1)) (fun x => XR Z 72 0 (x - 312)) 153)) 61 0 S)) := by
  have z : bX12_log_244 f0 f0 (Ad Y 12 0) (iI 1) v2 0 (hp Y (sR (sR Z 71 0 u) 61 0 S)) = bX12_log_244 f0 f0 (Ad Y 12 0) (iI 1) v2 (iI 0) (hp Y (sR (sR Z 71 0 (put153 u (153 * (M - 1)) (fun x => XR Z 72 0 (x - 312)) 0)) 61 0 S)) := by
    rw [put_0]; rfl
  rw [z]
  refine lp (fun f (i : Int) => bX12_log_244 f0 f (Ad Y 12 0) (iI 1) v2 (iI i) (hp Y (sR (sR Z 71 0 (put153 u (153 * (M - 1)) (fun x => XR Z 72 0 (x - 312)) i)) 61 0 S))) (fun i => 0 ≤ i ∧ i ≤ 153) (fun i => (154 - i).toNat) (fun r => r = _) ?_ f0 0 ⟨by omega, by omega⟩ (by omega)
  intro f i ⟨hi, hi2⟩
  have x29 : ∀ r, XF (sR (sR Z 71 0 r) 61 0 S) 12 0 29 = M := fun _ => hM
  have x72 : ∀ r, XR (sR (sR Z 71 0 r) 61 0 S) 72 0 = XR Z 72 0 := fun _ => rfl
  by_cases c : (153 : Int) ≤ i
  · left
    have n1 : ¬ (1 : Int) = 0 := by decide
    simp (disch := first | assumption | omega) only [bX12_log_244, bX12_log_280, bX12_log_288, li_153, li_0, iI_le, if_pos c, iI_eq, if_neg n1]
    rw [show i = 153 by omega]
  · right
    refine ⟨i + 1, ?_, ⟨by omega, by omega⟩, by omega⟩
    have ps := put_s (u := u) (o := 153 * (M - 1)) (S := fun x => XR Z 72 0 (x - 312)) hi
    rw [show 312 + i - 312 = i by omega] at ps
    have ld := l_72 (Y := Y) (X := sR (sR Z 71 0 (put153 u (153 * (M - 1)) (fun x => XR Z 72 0 (x - 312)) i)) 61 0 S) g (i := i) hi (by omega)
    rw [x72] at ld
    have sd := s_71 (Y := Y) (X := sR (sR Z 71 0 (put153 u (153 * (M - 1)) (fun x => XR Z 72 0 (x - 312)) i)) 61 0 S) g (i := 153 * (M - 1) + i) (v := XR Z 72 0 i) (by omega) (by omega)
    rw [XR_71, sR_71, ps] at sd
    have c' : ¬ (153 : Int) ≤ i := c
    show bX12_log_244 f0 (f + 1) (Ad Y 12 0) (iI 1) v2 (iI i) _ = _
    rw [bX12_log_244, li_153, if_neg (iNLE c' (by omega) (by omega) (by omega) (by omega)), g_12_27 g, Option.bind_some, g_12_29 g, Option.bind_some, x29, g_12_28 g, Option.bind_some, ld, Option.bind_some, li_1, iI_sub, iI_mul, iI_add, sd, Option.bind_some, iI_add]
theorem kpU_put {u S S' T : Int → Int} {m : Int} (m0 : 0 ≤ m) (hT : ∀ i, 0 ≤ i → i < 153 → T (312 + i) = S (312 + i)) : put153 (kpU u S' m) (153 * (kpM m - 1)) T 153 = kpU u S m := funext fun j => by
  unfold kpU kpM
  by_cases e : m = 8
  · simp only [if_pos e]
    unfold put153
    by_cases q : 153 * ((8 : Int) - 1) ≤ j ∧ j < 153 * (8 - 1) + 153
    · rw [if_pos q, if_pos (by omega), hT _ (by omega) (by omega), show (153 : Int) * (8 - 1) = 1071 by decide]
    · rw [if_neg q, if_neg (by omega), if_neg (by omega)]
  · simp only [if_neg e]
    unfold put153
    rw [show m + 1 - 1 = m by omega]
    by_cases q : 153 * m ≤ j ∧ j < 153 * m + 153
    · rw [if_pos q, if_pos q, hT _ (by omega) (by omega)]
    · rw [if_neg q, if_neg q, if_neg q]
/-- her end in the reference: what was right, and what is kept of it -/
def edZ (Z : XS) (S : Int → Int) : XS := sF (sR Z 76 0 (upi (upi (XR Z 76 0) 2 (S 312)) 3 (S 317))) 12 0 38 1
theorem r_191 {f0 : Nat} {Y : YS} {Z : XS} {S : Int → Int} {v : Int} {w : Int32} (g : GY Y) : bX12_log_191 f0 (Ad Y 12 0) (iI v) w (hp Y (sR Z 61 0 S)) = (if iI v = iI 1 then (if iI (XR Z 76 0 1) ≤ iI 0 then bX12_log_280 f0 (Ad Y 12 0) (iI v) w (hp Y (sR (edZ Z S) 61 0 S)) else (fX12_keep f0 (Ad Y 12 0) (hp Y (sR (edZ Z S) 61 0 S))).bind fun h239 => bX12_log_244 f0 f0 (Ad Y 12 0) (iI v) w 0 h239) else bX12_log_280 f0 (Ad Y 12 0) (iI v) w (hp Y (sR (edZ Z S) 61 0 S))) := by
  have zz := z_12_38 (Y := Y) (X := sR (sR Z 76 0 (upi (upi (XR Z 76 0) 2 (S 312)) 3 (S 317))) 61 0 S) g (v := 1) (.inr rfl)
  rw [sF_sR] at zz
  have y : ∀ r, XR (sR Z 76 0 r) 76 0 = r := fun _ => rfl
  have l1 := l76 (Y := Y) (Z := edZ Z S) (S := S) g (i := 1) (by decide) (by decide)
  have e1 : XR (edZ Z S) 76 0 1 = XR Z 76 0 1 := by
    show upi (upi (XR Z 76 0) 2 (S 312)) 3 (S 317) 1 = _
    rw [upi_ne _ _ (by decide), upi_ne _ _ (by decide)]
  rw [e1] at l1
  unfold bX12_log_191
  rw [g_12_37 g, Option.bind_some, g_12_6 g, Option.bind_some, li_312, l61 g (by decide) (by decide), Option.bind_some, li_2, s76 g (by decide) (by decide), Option.bind_some, g_12_37 g, Option.bind_some, g_12_6 g, Option.bind_some, li_317, l61 g (by decide) (by decide), Option.bind_some, li_3, s76 g (by decide) (by decide), Option.bind_some, y, sR_sR, li_1, zz, Option.bind_some, g_12_37 g, Option.bind_some]
  show (if iI v = iI 1 then (ldI 1 (hp Y (sR (edZ Z S) 61 0 S)) (Ad Y 76 0) (iI 1)).bind fun x234 => (if x234 ≤ 0 then _ else (ckO 12 (hp Y (sR (edZ Z S) 61 0 S)) (Ad Y 12 0)).bind fun _ => _) else _) = _
  rw [l1, Option.bind_some, k_12 g]
  rfl
