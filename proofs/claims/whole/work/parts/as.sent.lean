/-! sentence, AS A CALL -/
theorem inv_Nm {X : XS} {S : Int → Int} {nm : Int → Int64} (se : SeaI X 0 S) (na : NamX X 0 S nm) {s : Int} (hs : isN s) : NmS X 0 s := by
  obtain ⟨hC, hR, _⟩ := se
  have c0 := hC.1; have c3 := hC.2.1; have c4 := hC.2.2.1; have c5 := hC.2.2.2.1
  have e0 := hR.1.1; have e1 := hR.1.2.1; have e2 := hR.1.2.2.1; have e3 := hR.1.2.2.2.1
  have n1 := na.1
  have ec : XR X 25 0 s = ncS S s := by
    rcases hs with q | q | q | q <;> subst q
    · exact e0
    · exact e1
    · exact e2
    · exact e3
  refine ⟨⟨n1.1, by omega⟩, ?_, fun i i0 i1 hi => ?_⟩
  · rcases hs with q | q | q | q <;> subst q <;> omega
  · have q := (na.2.1 i i0 i1).2.1
    rw [hi] at q
    rw [ec]; exact q
theorem inv_KC {Y : YS} {X : XS} (h : Inv Y X) : KC X (XR X 61 0) := by
  obtain ⟨gy, W, tp, re, fl, se, na, po, sh, sn, lo, im0, im1⟩ := h
  exact ⟨fun i hi => (re i hi).1, ⟨inv_Nm se na (.inl rfl), inv_Nm se na (.inr (.inl rfl))⟩, se.2.1.1.1, se.2.1.1.2.1⟩
theorem inv_nc {X : XS} {S : Int → Int} (se : SeaI X 0 S) : ∀ s, isN s → (0 ≤ ncS S s ∧ ncS S s ≤ 8) ∧ nbS s + ncS S s ≤ 30 := fun s hs => by
  refine ⟨?_, SeaI_b se s hs⟩
  obtain ⟨hC, hR, _⟩ := se
  have c0 := hC.1; have c3 := hC.2.1; have c4 := hC.2.2.1; have c5 := hC.2.2.2.1
  have e0 := hR.1.1; have e1 := hR.1.2.1; have e2 := hR.1.2.2.1; have e3 := hR.1.2.2.2.1
  rcases hs with q | q | q | q <;> subst q
  · show 0 ≤ S 0 ∧ S 0 ≤ 8; omega
  · show 0 ≤ S 1 ∧ S 1 ≤ 8; omega
  · show 0 ≤ S 2 ∧ S 2 ≤ 8; omega
  · show 0 ≤ S 3 ∧ S 3 ≤ 8; omega
theorem SnI_of {Y : YS} {X Xc : XS} (h : Inv Y X) (Wc : WF Xc) (r60 : XR Xc 60 0 = XR X 60 0) (r61 : XR Xc 61 0 = XR X 61 0) (j65 : XJ Xc 65 0 = XJ X 65 0) (j64 : ∀ i, i < 30 → XJ Xc 64 0 i = XJ X 64 0 i) (f2 : XF Xc 12 0 2 = XF X 12 0 2) : SnI (seI Xc) (sF X 11 0 1 0) (XF X 11 0 1) (XR X 61 0) := by
  obtain ⟨gy, W, tp, re, fl, se, na, po, sh, sn, lo, im0, im1⟩ := h
  have v2 := Wc.1 12 0 2
  refine ⟨?_, fun i i0 i1 => ?_, ⟨?_, rfl, rfl⟩, ⟨?_, ?_, inv_nc se, ?_⟩, rfl, rfl, rfl, rfl, rfl⟩
  · unfold seI rfI
    exact W_F (W_F (W_F (W_F (W_F (W_F (W_F (W_F (W_F (W_F (W_F Wc (by decide) (by decide)) v2.1 v2.2) (by decide) (by decide)) (by decide) (by decide)) (by decide) (by decide)) (by decide) (by decide)) (by decide) (by decide)) (by decide) (by decide)) (by decide) (by decide)) (by decide) (by decide)) (by decide) (by decide)
  · show XR X 20 0 i = XR Xc 60 0 i
    rw [r60]; exact (tp.1 i i0 i1).1
  · show XF Xc 12 0 2 = _
    rw [f2]; exact tp.2.2.symm
  · intro i hi
    show XJ Xc 65 0 _ = _
    rw [j65]; exact (re i hi).2
  · show NamI (XJ X 22 0) (XR X 23 0) (XR X 24 0) (XF X 3 0 3) (XR X 61 0) (fun i => XJ Xc 64 0 (0 + i))
    exact NamI_nm (SeaI_b se) (fun i _ i1 => by rw [Int.zero_add]; exact j64 i i1) na
  · exact r61
theorem RelS_5 {X : XS} {d : D5} {S S' : Int → Int} (h8 : S 0 ≤ 8 ∧ S 1 ≤ 8) (e : ∀ j, 0 ≤ j → j < 465 → S' j = S j) (h : RelS X d S) : RelS X d S' := by
  obtain ⟨a, b, b', c, k, r, t, u⟩ := h
  have se : isSe S' = isSe S := by unfold isSe; rw [e 0 (by decide) (by decide), e 1 (by decide) (by decide)]
  refine ⟨?_, ?_, ?_, fun i i0 i1 => ?_, fun p s p0 p1 s0 s1 => ?_, fun i i0 i1 => ?_, fun s p s0 s1 p0 p1 => ?_, ?_, fun p p0 p1 => ?_⟩
  · rw [e 312 (by decide) (by decide), e 315 (by decide) (by decide), e 316 (by decide) (by decide), e 317 (by decide) (by decide), e 318 (by decide) (by decide), e 319 (by decide) (by decide)]; exact a
  · rw [se, e 313 (by decide) (by decide), e 314 (by decide) (by decide)]; exact b
  · rw [se]; exact b'
  · rw [e _ (by omega) (by omega), e _ (by omega) (by omega)]; exact c i i0 i1
  · rw [e 0 (by decide) (by decide)] at p1
    rw [e 1 (by decide) (by decide)] at s1
    rw [k p s p0 p1 s0 s1]
    exact (knA_congr (e 0 (by decide) (by decide)) h8.1 (fun i i0 i8 => e _ (by omega) (by omega))).symm
  · rw [e _ (by omega) (by omega)]; exact r i i0 i1
  · rw [e _ (by omega) (by omega)]; exact t s p s0 s1 p0 p1
  · rw [e 464 (by decide) (by decide)]; exact u.1
  · rw [e 464 (by decide) (by decide), se, e _ (by omega) (by omega)]; exact u.2 p p0 p1
theorem Inv_tn {Y : YS} {X X' : XS} (h : Inv Y X) (W' : WF X') (tF : ∀ s k f, ¬ (s = 4 ∨ s = 7 ∨ s = 9 ∨ (k = 1 ∧ (s = 3 ∨ s = 6 ∨ s = 8)) ∨ (k = 0 ∧ s = 8) ∨ (s = 2 ∧ f = 5) ∨ (s = 11 ∧ (f = 1 ∨ f = 3)) ∨ (s = 12 ∧ (f = 0 ∨ 2 ≤ f ∧ f ≤ 5 ∨ 11 ≤ f ∧ f ≤ 16 ∨ 18 ≤ f ∧ f ≤ 20 ∨ f = 36 ∨ 40 ≤ f ∧ f ≤ 44))) → XF X' s k f = XF X s k f) (tR : ∀ s k, ¬ ((k = 1 ∧ 23 ≤ s ∧ s ≤ 38) ∨ (k = 0 ∧ 36 ≤ s ∧ s ≤ 38) ∨ s = 40 ∨ s = 41 ∨ s = 42 ∨ s = 61 ∨ s = 62 ∨ s = 63 ∨ s = 77) → XR X' s k = XR X s k) (tJ : ∀ s k, ¬ (s = 4 ∨ (s = 22 ∧ k = 1) ∨ s = 12 ∨ s = 64) → XJ X' s k = XJ X s k) (t64 : ∀ i, i < 30 → XJ X' 64 0 i = XJ X 64 0 i) (tP : XP X' = XP X) (tM : XM X' = XM X) (h1 : XF X' 11 0 1 = 0 ∧ XF X' 12 0 2 = 0) (hf : XF X' 11 0 3 = XF X' 12 0 15) {S' : Int → Int} (e61 : XR X' 61 0 = S') (eS : ∀ j, 0 ≤ j → j < 465 → S' j = XR X 61 0 j) (snt : SntX X' 0 S') : Inv Y X' := by
  obtain ⟨gy, W, tp, re, fl, se, na, po, sh, sn, lo, i0, i1⟩ := h
  have sea : ∀ j S, j ≠ 1 → SeaI X j S → SeaI X' j S := fun j S hj q => by
    unfold SeaI CSea SeaR SeaW at *
    rw [tR 25 j (by omega), tR 26 j (by omega), tR 27 j (by omega), tR 28 j (by omega), tR 29 j (by omega), tR 31 j (by omega), tR 32 j (by omega), tR 33 j (by omega), tR 34 j (by omega), tR 35 j (by omega), tF 6 j 2 (by omega)]
    exact q
  have shg : ∀ k, shG X' k = shG X k := fun k => by
    unfold shG
    rw [tR 43 k (by omega), tR 44 k (by omega), tR 45 k (by omega), tR 46 k (by omega)]
    have : XF X' 10 k = XF X 10 k := funext fun f => tF 10 k f (by omega)
    rw [this]
  have img : ∀ k, ImgI Y X k → ImgI Y X' k := fun k hk => by
    have e79 : kpS X' k = kpS X k := by unfold kpS; rw [tR 79 0 (by omega)]
    have e80 : kpN X' k = kpN X k := by unfold kpN; rw [tJ 80 0 (by omega)]
    refine ⟨by rw [tR 81 0 (by omega), tM]; exact hk.1, fun m => ?_⟩
    rw [tM] at m
    obtain ⟨a, b, c, d, e, f⟩ := hk.2 m
    rw [e79, e80, shg (k + 10)]
    refine ⟨a, sea (k + 2) _ (by omega) b, ?_, ?_, ?_, f⟩
    · unfold NamX at *; rw [tJ 22 (k + 2) (by omega), tR 23 (k + 2) (by omega), tR 24 (k + 2) (by omega), tF 3 (k + 2) 3 (by omega)]; exact c
    · unfold SntX at *; rw [tR 36 (k + 2) (by omega), tR 37 (k + 2) (by omega), tR 38 (k + 2) (by omega), tF 8 (k + 2) 3 (by omega)]; exact d
    · rw [tR 25 (k + 2) (by omega)]; exact e
  have eS3 : ∀ j, 0 ≤ j → j < 312 → S' j = XR X 61 0 j := fun j j0 j1 => eS j j0 (by omega)
  have h8 : XR X 61 0 0 ≤ 8 ∧ XR X 61 0 1 ≤ 8 := by
    have a := se.1.1; have b := se.1.2.1; have e := se.2.1.1; omega
  refine ⟨gy, W', ⟨?_, ?_, ?_⟩, ?_, hf, ?_, ?_, ?_, ?_, by rw [e61]; exact snt, ?_, img 0 i0, img 1 i1⟩
  · rw [tR 20 0 (by omega), tR 60 0 (by omega)]; exact tp.1
  · rw [h1.1]; decide
  · rw [h1.1, h1.2]
  · unfold ResI at *; rw [tJ 21 0 (by omega), tJ 65 0 (by omega)]; exact re
  · rw [e61]; exact SeaI_S eS3 (sea 0 _ (by decide) se)
  · rw [e61]
    have q1 := NamI_nm (SeaI_b se) (nm' := XJ X' 64 0) (fun i _ i1 => t64 i i1) na
    have q2 := NamI_S9 (S' := S') (fun j j0 j1 => eS j j0 (by omega)) q1
    unfold NamX at *; rw [tJ 22 0 (by omega), tR 23 0 (by omega), tR 24 0 (by omega), tF 3 0 3 (by omega)]; exact q2
  · unfold PostW at *; rw [tR 66 0 (by omega), tR 67 0 (by omega), e61]
    intro i i0 i6
    have q := post_c eS3 i0 i6
    rw [q.1, q.2]; exact po i i0 i6
  · have k10 : ∀ k, XF X' 10 k 6 = XF X 10 k 6 := fun k => tF 10 k 6 (by omega)
    have cd : ∀ d, CD X' d = CD X d := fun d => by rw [CD_n, CD_n, tR 25 0 (by omega)]
    have rl : ∀ d S, RelS X' d S = RelS X d S := fun d S => by rw [Rel_q, Rel_q, tR 67 0 (by omega)]
    unfold ShpI at *
    rw [e61, tP, tF 11 0 14 (by omega), tF 12 0 29 (by omega), tR 71 0 (by omega)]
    simp only [shg, cd, rl, k10]
    obtain ⟨s1, s2, s3, ⟨s4, s5⟩, s6, s7⟩ := sh
    refine ⟨s1, s2, s3, ⟨s4, RelS_5 h8 eS s5⟩, s6, fun i hi => ⟨(s7 i hi).1, RelS_5 ?_ ?_ (s7 i hi).2⟩⟩
    · unfold blk; exact h8
    · intro j j0 j1
      unfold blk; split
      · rfl
      · exact eS j j0 j1
  · unfold LogI at *; rw [tF 2 0 6 (by omega), tF 2 0 7 (by omega), tF 2 0 8 (by omega), tF 2 0 9 (by omega), tF 2 0 10 (by omega), tF 12 0 38 (by omega), tR 76 0 (by omega)]; exact lo
