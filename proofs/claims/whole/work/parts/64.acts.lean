/-! takes, learn, sail, paint: both answer the same -/
theorem take_cd {X : XS} {d : D5} (Wd : WD d) (hC : CSea X 0) (hd : CD X d) : WD (takeA X d).2 ∧ CD X (takeA X d).2 := by
  unfold takeA
  (repeat' split)
  · exact ⟨Wd, hd⟩
  · rename_i c _
    have c0 := hC.1; have c3 := hC.2.1
    have q := hd.2.1 c.1
    have t := hd.2.2.2.2.2.1 (d.1 3) (by omega) (by omega)
    have hb := ior_bit (a := d.2.2.1 (d.1 3)) (b := d.1 2) t.1 (by omega) (by omega) (by omega)
    have hb2 := hb.2.1 8 (by omega) (by omega)
    have w := WD_F Wd (f := 5) (v := wr (d.1 5 + owD X d (d.1 3) (d.1 2))) (wr_rg _).1 (wr_rg _).2
    refine ⟨⟨w.1, w.2.1, fun i => ?_, w.2.2.2.1, w.2.2.2.2⟩, hd.1, hd.2.1, hd.2.2.1, hd.2.2.2.1, hd.2.2.2.2.1, fun i i0 i8 => ?_, hd.2.2.2.2.2.2⟩
    · show Rg (upi d.2.2.1 (d.1 3) (ior (d.2.2.1 (d.1 3)) (pw (d.1 2))) i)
      rw [upi_at]; split
      · exact ior_rg _ _
      · exact Wd.2.2.1 i
    · show 0 ≤ upi d.2.2.1 (d.1 3) (ior (d.2.2.1 (d.1 3)) (pw (d.1 2))) i ∧ upi d.2.2.1 (d.1 3) (ior (d.2.2.1 (d.1 3)) (pw (d.1 2))) i < 256
      rw [upi_at]; split
      · exact ⟨hb.1, by simpa using hb2⟩
      · exact hd.2.2.2.2.2.1 i i0 i8
  · exact ⟨Wd, hd⟩
theorem teach_cd {X : XS} {d : D5} (Wd : WD d) (hd : CD X d) {m r : Int} (m0 : 0 ≤ m) (m8 : m < 8) (r0 : 0 ≤ r) (r6 : r < 6) : WD (teachA X d m r).2 ∧ CD X (teachA X d m r).2 := by
  unfold teachA
  (repeat' split)
  · exact ⟨Wd, hd⟩
  · exact ⟨Wd, hd⟩
  · have t := hd.2.2.2.2.2.2.1 m m0 m8
    have d1 := hd.1
    have hb := ior_bit (a := d.2.2.2.1 m) (b := r) t.1 (by omega) (by omega) (by omega)
    have hb2 := hb.2.1 6 (by omega) (by omega)
    have w := WD_F Wd (f := 1) (v := d.1 1 + 3) (by omega) (by omega)
    refine ⟨⟨w.1, w.2.1, w.2.2.1, fun i => ?_, w.2.2.2.2⟩, ⟨by show 0 ≤ d.1 1 + 3; omega, by show d.1 1 + 3 ≤ 999; omega⟩, hd.2.1, hd.2.2.1, hd.2.2.2.1, fun i i0 i8 => ⟨(hd.2.2.2.2.1 i i0 i8).1, by have := (hd.2.2.2.2.1 i i0 i8).2; show d.2.1 i ≤ d.1 1 + 3; omega⟩, hd.2.2.2.2.2.1, fun i i0 i8 => ?_, hd.2.2.2.2.2.2.2⟩
    · show Rg (upi d.2.2.2.1 m (ior (d.2.2.2.1 m) (pw r)) i)
      rw [upi_at]; split
      · exact ior_rg _ _
      · exact Wd.2.2.2.1 i
    · show 0 ≤ upi d.2.2.2.1 m (ior (d.2.2.2.1 m) (pw r)) i ∧ upi d.2.2.2.1 m (ior (d.2.2.2.1 m) (pw r)) i < 64
      rw [upi_at]; split
      · exact ⟨hb.1, by simpa using hb2⟩
      · exact hd.2.2.2.2.2.2.1 i i0 i8
  · exact ⟨Wd, hd⟩
theorem sail_out {q S : Int → Int} {p : Int} (p0 : 0 ≤ p) (p8 : p < 8) (h4 : 0 ≤ S 314 ∧ S 314 < 8) (h5 : S 315 < 8) : ∀ j, (j < 312 ∨ 465 ≤ j) → seenS q (sail5 S p) p j = S j := fun j hj => by
  have o : ∀ i, i ≠ 312 → i ≠ 313 → i ≠ 320 + p → i ≠ 464 → i ≠ 319 → sail5 S p i = S i := fun i a1 a2 a3 a4 a5 => by
    unfold sail5; rw [upi_ne _ _ a5, upi_ne _ _ a4, upi_ne _ _ a3, upi_ne _ _ a2, upi_ne _ _ a1]
  have e4 : sail5 S p 314 = S 314 := o _ (by omega) (by omega) (by omega) (by omega) (by omega)
  have e5 : sail5 S p 315 = S 315 := o _ (by omega) (by omega) (by omega) (by omega) (by omega)
  have oj := o j (by omega) (by omega) (by omega) (by omega) (by omega)
  unfold seenS
  split
  · rw [upi_ne _ _ (by omega), upi_ne _ _ (by omega)]; exact oj
  · split
    · exact oj
    · rename_i c
      have c1 : ¬ sail5 S p 315 < 0 := fun z => c (.inl z)
      rw [learnS_o (by omega), learnS_o (by omega)]; exact oj
theorem sail_ws {q S : Int → Int} (Ws : WS S) {p : Int} (h1 : 0 ≤ S 312 + S (8 + (8 * S 313 + p)) ∧ S 312 + S (8 + (8 * S 313 + p)) ≤ 999) (p0 : 0 ≤ p) (p8 : p < 8) (hc : 0 ≤ S (320 + p) ∧ S (320 + p) ≤ 999) : WS (seenS q (sail5 S p) p) := by
  have W5 : WS (sail5 S p) := WS_u (WS_u (WS_u (WS_u (WS_u Ws (by omega) (by omega)) (by omega) (by omega)) (by omega) (by omega)) (ior_rg _ _).1 (ior_rg _ _).2) (wr_rg _).1 (wr_rg _).2
  have e312 : sail5 S p 312 = S 312 + S (8 + (8 * S 313 + p)) := by
    unfold sail5; simp (disch := omega) only [upi_ne, upi_eq]
  unfold seenS
  split
  · exact WS_u (WS_u W5 (by decide) (by decide)) (wr_rg _).1 (wr_rg _).2
  · split
    · exact W5
    · exact learnS_ws (learnS_ws W5 (by omega) (by omega)) (by omega) (by omega)
theorem op_takes {f0 : Nat} {Y : YS} {X : XS} (h : Inv Y X) (hf : 2000 ≤ f0) : ∃ v X1 X2, fX11_takes f0 (Ad Y 11 0)  (hp Y X) = some (v, hp Y X1) ∧ fX12_takes_ f0 (Ad Y 12 0)  (hp Y X1) = some (v, hp Y X2) ∧ Inv Y X2 := by
  have g := h.1.1; have W := h.2.1
  have se := h.2.2.2.2.2.1; have hC := se.1; have hR := se.2.1
  have g6 := SeO_0 g
  have c0 := hC.1; have c3 := hC.2.1; have c4 := hC.2.2.1; have c5 := hC.2.2.2.1
  have e0 := hR.1.1; have e1 := hR.1.2.1; have e2 := hR.1.2.2.1; have e3 := hR.1.2.2.2.1
  have sfx := inv_S se h.2.2.2.2.2.2.2.2.1.2.2.2.1.1 h.2.2.2.2.2.2.2.2.1.2.2.2.1.2
  obtain ⟨ecp, Wd, cd, rl, ⟨p1, p0⟩, m14⟩ := cp_her (f0 := f0) h
  have gk1 := ShO_k g p1
  have sf := inv_S se cd rl
  have W0 : WS (XR X 61 0) := fun i => W.2 61 0 i
  have a2 := d_takeOwed (f0 := f0) (k := XP X 1) g p1 W Wd hC cd
  have rr := rel_take hC hR cd rl
  have wcd := take_cd Wd hC cd
  obtain ⟨r, hr⟩ : ∃ r, r = (takeA X (tcp X)).1 := ⟨_, rfl⟩
  obtain ⟨d, hd⟩ : ∃ d, d = (takeA X (tcp X)).2 := ⟨_, rfl⟩
  rw [← hr, ← hd] at a2 rr
  rw [← hd] at wcd
  have rb : 0 ≤ r ∧ r ≤ 9 := by rw [hr]; unfold takeA; (repeat' split) <;> simp
  have k := cl_keep (f0 := f0) h (r := r) (d := d) rb.1 (by omega) (by omega)
  refine ⟨iI r, AR X r d, ?_⟩
  have cl : fX11_takes f0 (Ad Y 11 0)  (hp Y X) = some (iI r, hp Y (AR X r d)) := by
    simp (disch := first | assumption | omega) only [fX11_takes, g_11_12, g_11_11, k_10, k_11, ob2, Option.bind_some, iI_add, iI_lt, iI_le, ecp, XP_sh, a2, k]
  have WA : WF (sF (AR X r d) 12 0 0 0) := W_F (AR_W h wcd.1) (by decide) (by decide)
  have z := Z61 (Y := Y) (X := sF (AR X r d) 12 0 0 0) (S := XR X 61 0) AR_61
  have r0 : Rg (0 : Int) := ⟨by decide, by decide⟩
  have r29 : 0 ≤ XF (AR X r d) 12 0 29 ∧ XF (AR X r d) 12 0 29 ≤ 8 := by
    rw [AR_f]; have := h.2.2.2.2.2.2.2.2.1.2.2.2.2.1; omega
  have q67 : XR (AR X r d) 67 0 = XR X 67 0 := AR_r (by omega)
  have ww := r_whyTake (f0 := f0) (X := sF (AR X r d) 12 0 0 0) g WA W0 (fun q => by have := sf.2.1 q.1; omega) sf.2.2.2.2.2.1
  have sz : Scr (sF (AR X r d) 12 0 0 0) (sF (AR X r d) 12 0 0 0) := Scr_refl WA
  have r29z : 0 ≤ XF (sF (AR X r d) 12 0 0 0) 12 0 29 ∧ XF (sF (AR X r d) 12 0 0 0) 12 0 29 ≤ 8 := r29
  rw [← rr.1] at ww
  have WZ := Scr_W WA sz
  have q67z : XR (sF (AR X r d) 12 0 0 0) 67 0 = XR X 67 0 := q67
  by_cases q : r = 0
  · have q' : r ≤ 0 := by omega
    have kk := r_keep (f0 := f0) (X := (sF (AR X r d) 12 0 0 0)) (S := XR X 61 0) g W0 r29z hf
    have mk := kpM_rg r29z
    have WK : WF (sF (sR (sF (AR X r d) 12 0 0 0) 71 0 (kpU (XR (sF (AR X r d) 12 0 0 0) 71 0) (XR X 61 0) (XF (sF (AR X r d) 12 0 0 0) 12 0 29))) 12 0 29 (kpM (XF (sF (AR X r d) 12 0 0 0) 12 0 29))) := W_F (W_R WZ (kpU_rg (fun i => WZ.2 _ _ _) W0)) (by omega) (by omega)
    have dd := r_takesAll (f0 := f0) (X := sF (sR (sF (AR X r d) 12 0 0 0) 71 0 (kpU (XR (sF (AR X r d) 12 0 0 0) 71 0) (XR X 61 0) (XF (sF (AR X r d) 12 0 0 0) 12 0 29))) 12 0 29 (kpM (XF (sF (AR X r d) 12 0 0 0) 12 0 29))) g WK W0 (by have cc := sf.2.1 (show isSe (XR X 61 0) from by apply Classical.byContradiction; intro w; have := rr.1; unfold whyTakeS at this; rw [if_neg (fun v => w v.1)] at this; omega); omega)
    refine ⟨_, cl, ?_, act_end h wcd.1 wcd.2 (S' := takeS (XR X 61 0)) ?_ (fun j hj => by unfold takeS; have cc := sf.2.1 (show isSe (XR X 61 0) from by apply Classical.byContradiction; intro w; have := rr.1; unfold whyTakeS at this; rw [if_neg (fun v => w v.1)] at this; omega); rw [upi_ne _ _ (by omega), upi_ne _ _ (by omega)]) rr.2 q sz⟩
    · simp (disch := first | assumption | omega) only [fX12_takes_, p_12_0, k_12, li_0, ob2, Option.bind_some, iI_add, bI_i0, ite_n, z, iI_le, ww, kk, dd, if_pos q']
      rw [q]
      try rfl
    · exact WS_u (WS_u W0 (wr_rg _).1 (wr_rg _).2) (by decide) (by decide)
  · have q' : ¬ r ≤ 0 := by omega
    have sz2 : Scr (sF (shS X (XP X 1) d) 12 0 0 0) (sF (AR X r d) 12 0 0 0) := by have e := (show AR X r d = shS X (XP X 1) d from if_neg q); first | (rw [e]; rw [e] at sz; exact sz) | (rw [e] at sz; exact sz)
    refine ⟨_, cl, ?_, Inv_not h wcd.1 wcd.2.2.2.2.1 (Z := sR (sF (AR X r d) 12 0 0 0) 61 0 (XR X 61 0)) ?_⟩
    · simp (disch := first | assumption | omega) only [fX12_takes_, p_12_0, k_12, li_0, ob2, Option.bind_some, iI_add, bI_i0, ite_n, z, iI_le, ww, if_neg q']
    · have : sR (sF (AR X r d) 12 0 0 0) 61 0 (XR X 61 0) = (sF (AR X r d) 12 0 0 0) := by
        have : XR (sF (AR X r d) 12 0 0 0) 61 0 = XR X 61 0 := AR_61 (r := r) (d := d)
        rw [← this, sR_self]
      rw [this]; exact sz2
theorem op_sail {f0 : Nat} {Y : YS} {X : XS} (h : Inv Y X) {p : Int} (rg_p : Rg p) (hf : 2000 ≤ f0) : ∃ v X1 X2, fX11_sail f0 (Ad Y 11 0) (iI p) (hp Y X) = some (v, hp Y X1) ∧ fX12_sail f0 (Ad Y 12 0) (iI p) (hp Y X1) = some (v, hp Y X2) ∧ Inv Y X2 := by
  have g := h.1.1; have W := h.2.1
  have se := h.2.2.2.2.2.1; have hC := se.1; have hR := se.2.1
  have g6 := SeO_0 g
  have p1 := rg_p.1; have p2 := rg_p.2
  have c0 := hC.1; have c3 := hC.2.1; have c4 := hC.2.2.1; have c5 := hC.2.2.2.1
  have e0 := hR.1.1; have e1 := hR.1.2.1; have e2 := hR.1.2.2.1; have e3 := hR.1.2.2.2.1
  have sfx := inv_S se h.2.2.2.2.2.2.2.2.1.2.2.2.1.1 h.2.2.2.2.2.2.2.2.1.2.2.2.1.2
  by_cases c : 0 ≤ p ∧ p < XR X 25 0 0
  · obtain ⟨ecp, Wd, cd, rl, ⟨p1, p0⟩, m14⟩ := cp_her (f0 := f0) h
    have gk1 := ShO_k g p1
    have sf := inv_S se cd rl
    have W0 : WS (XR X 61 0) := fun i => W.2 61 0 i
    have cS : 0 ≤ p ∧ p < XR X 61 0 0 := by omega
    have hP := inv_PostR se h.2.2.2.2.2.2.2.1
    have a2 := d_sailTo (f0 := f0) (k := XP X 1) g p1 W Wd hC cd (p := p) c.1 c.2 (by omega)
    have rr := rel_sail hC hR hP Wd cd rl (p := p) c.1 cS.2
    have wcd := sail_cd Wd hC cd (p := p) c.1 c.2
    obtain ⟨r, hr⟩ : ∃ r, r = (sailA X (tcp X) p).1 := ⟨_, rfl⟩
    obtain ⟨d, hd⟩ : ∃ d, d = (sailA X (tcp X) p).2 := ⟨_, rfl⟩
    rw [← hr, ← hd] at a2 rr
    rw [← hd] at wcd
    have rb : 0 ≤ r ∧ r ≤ 9 := by rw [hr]; exact sailA_rg
    have k := cl_keep (f0 := f0) h (r := r) (d := d) rb.1 (by omega) (by omega)
    refine ⟨iI r, AR X r d, ?_⟩
    have cl : fX11_sail f0 (Ad Y 11 0) (iI p) (hp Y X) = some (iI r, hp Y (AR X r d)) := by
      simp (disch := first | assumption | omega) only [fX11_sail, g_11_4, g_11_12, g_11_11, k_6, k_10, k_11, lm_1, li_0, li_1, ob2, Option.bind_some, iI_add, iI_neg, e_has, bI_i0, ite_n, if_pos c, iI_lt, iI_le, ecp, XP_sh, a2, k]
    have WA : WF (sF (AR X r d) 12 0 0 0) := W_F (AR_W h wcd.1) (by decide) (by decide)
    have z := Z61 (Y := Y) (X := sF (AR X r d) 12 0 0 0) (S := XR X 61 0) AR_61
    have r0 : Rg (0 : Int) := ⟨by decide, by decide⟩
    have r29 : 0 ≤ XF (AR X r d) 12 0 29 ∧ XF (AR X r d) 12 0 29 ≤ 8 := by
      rw [AR_f]; have := h.2.2.2.2.2.2.2.2.1.2.2.2.2.1; omega
    have q67 : XR (AR X r d) 67 0 = XR X 67 0 := AR_r (by omega)
    have ww := r_whySail (f0 := f0) (X := sF (AR X r d) 12 0 0 0) g WA W0 sf.1 (fun q => by have := sf.2.1 q.1; omega) sf.2.2.2.2.1 (p := p) (by omega) (by omega)
    have sz : Scr (sF (AR X r d) 12 0 0 0) (sF (AR X r d) 12 0 0 0) := Scr_refl WA
    have r29z : 0 ≤ XF (sF (AR X r d) 12 0 0 0) 12 0 29 ∧ XF (sF (AR X r d) 12 0 0 0) 12 0 29 ≤ 8 := r29
    rw [← rr.1] at ww
    have WZ := Scr_W WA sz
    have q67z : XR (sF (AR X r d) 12 0 0 0) 67 0 = XR X 67 0 := q67
    by_cases q : r = 0
    · have q' : r ≤ 0 := by omega
      have kk := r_keep (f0 := f0) (X := (sF (AR X r d) 12 0 0 0)) (S := XR X 61 0) g W0 r29z hf
      have mk := kpM_rg r29z
      have WK : WF (sF (sR (sF (AR X r d) 12 0 0 0) 71 0 (kpU (XR (sF (AR X r d) 12 0 0 0) 71 0) (XR X 61 0) (XF (sF (AR X r d) 12 0 0 0) 12 0 29))) 12 0 29 (kpM (XF (sF (AR X r d) 12 0 0 0) 12 0 29))) := W_F (W_R WZ (kpU_rg (fun i => WZ.2 _ _ _) W0)) (by omega) (by omega)
      have why0 := rr.1
      have cw : canS (XR X 61 0) := by apply Classical.byContradiction; intro w; unfold whySailS at why0; rw [if_neg w] at why0; omega
      have s3 := sf.2.1 cw.1
      have w20 := sf.2.2.2.2.1 (8 * XR X 61 0 313 + p) (by omega) (by omega)
      have hw : 0 ≤ XR X 61 0 (8 + (8 * XR X 61 0 313 + p)) ∧ XR X 61 0 312 + XR X 61 0 (8 + (8 * XR X 61 0 313 + p)) ≤ 999 := by
        unfold whySailS lateS at why0; rw [if_pos cw] at why0
        refine ⟨by omega, ?_⟩
        apply Classical.byContradiction; intro w
        have w2 : ¬ XR X 61 0 (8 + (8 * XR X 61 0 313 + p)) = 0 := by omega
        rw [if_neg w2, if_pos (by omega)] at why0; omega
      have dd := r_sails (f0 := f0) (X := sF (sR (sF (AR X r d) 12 0 0 0) 71 0 (kpU (XR (sF (AR X r d) 12 0 0 0) 71 0) (XR X 61 0) (XF (sF (AR X r d) 12 0 0 0) 12 0 29))) 12 0 29 (kpM (XF (sF (AR X r d) 12 0 0 0) 12 0 29))) g WK W0 sf.2.2.1.1 sf.2.2.1.2.1 sf.2.2.1.2.2.2.2 (by show QR (XR (sF (AR X r d) 12 0 0 0) 67 0); rw [q67z]; exact hP.2.2) rl.2.2.2.2.2.1 (by omega) (by omega) sf.2.2.2.1 sf.1.1 (p := p) (by omega) (by omega) hw (sf.2.2.2.2.2.2 p (by omega) (by omega)).2 (by omega)
      rw [show XR (sF (sR (sF (AR X r d) 12 0 0 0) 71 0 (kpU (XR (sF (AR X r d) 12 0 0 0) 71 0) (XR X 61 0) (XF (sF (AR X r d) 12 0 0 0) 12 0 29))) 12 0 29 (kpM (XF (sF (AR X r d) 12 0 0 0) 12 0 29))) 67 0 = XR X 67 0 from q67z] at dd
      refine ⟨_, cl, ?_, act_end h wcd.1 wcd.2 (S' := seenS (XR X 67 0) (sail5 (XR X 61 0) p) p) ?_ (sail_out (by omega) (by omega) (by omega) sf.2.2.2.1.2) rr.2 q sz⟩
      · simp (disch := first | assumption | omega) only [fX12_sail, p_12_0, k_12, lm_1, li_0, li_1, ob2, Option.bind_some, iI_add, iI_neg, r_isPort, if_pos cS, bI_i0, ite_n, z, iI_le, ww, kk, dd, if_pos q']
        rw [q]
        try rfl
      · exact sail_ws W0 (by omega) (by omega) (by omega) (sf.2.2.2.2.2.2 p (by omega) (by omega)).2
    · have q' : ¬ r ≤ 0 := by omega
      have sz2 : Scr (sF (shS X (XP X 1) d) 12 0 0 0) (sF (AR X r d) 12 0 0 0) := by have e := (show AR X r d = shS X (XP X 1) d from if_neg q); first | (rw [e]; rw [e] at sz; exact sz) | (rw [e] at sz; exact sz)
      refine ⟨_, cl, ?_, Inv_not h wcd.1 wcd.2.2.2.2.1 (Z := sR (sF (AR X r d) 12 0 0 0) 61 0 (XR X 61 0)) ?_⟩
      · simp (disch := first | assumption | omega) only [fX12_sail, p_12_0, k_12, lm_1, li_0, li_1, ob2, Option.bind_some, iI_add, iI_neg, r_isPort, if_pos cS, bI_i0, ite_n, z, iI_le, ww, if_neg q']
      · have : sR (sF (AR X r d) 12 0 0 0) 61 0 (XR X 61 0) = (sF (AR X r d) 12 0 0 0) := by
          have : XR (sF (AR X r d) 12 0 0 0) 61 0 = XR X 61 0 := AR_61 (r := r) (d := d)
          rw [← this, sR_self]
        rw [this]; exact sz2
  · refine ⟨iI (-1), X, sF X 12 0 0 0, ?_, ?_, Inv_th h ⟨by decide, by decide⟩⟩
    · simp (disch := first | assumption | omega) only [fX11_sail, g_11_4, g_11_12, g_11_11, k_6, k_10, k_11, lm_1, li_0, li_1, ob2, Option.bind_some, iI_add, iI_neg, e_has, bI_i0, ite_n, if_neg c, iI_neg]
    · have cS : ¬ (0 ≤ p ∧ p < XR X 61 0 0) := by omega
      have z := Z61 (Y := Y) (X := sF X 12 0 0 0) (S := XR X 61 0) rfl
      simp (disch := first | assumption | omega) only [fX12_sail, p_12_0, k_12, lm_1, li_0, li_1, ob2, Option.bind_some, iI_add, iI_neg, z, r_isPort, bI_i0, ite_n, if_neg cS, iI_neg]
theorem op_paint {f0 : Nat} {Y : YS} {X : XS} (h : Inv Y X) {s : Int} (rg_s : Rg s) (hf : 2000 ≤ f0) : ∃ v X1 X2, fX11_paint f0 (Ad Y 11 0) (iI s) (hp Y X) = some (v, hp Y X1) ∧ fX12_paint f0 (Ad Y 12 0) (iI s) (hp Y X1) = some (v, hp Y X2) ∧ Inv Y X2 := by
  have g := h.1.1; have W := h.2.1
  have se := h.2.2.2.2.2.1; have hC := se.1; have hR := se.2.1
  have g6 := SeO_0 g
  have s1 := rg_s.1; have s2 := rg_s.2
  have c0 := hC.1; have c3 := hC.2.1; have c4 := hC.2.2.1; have c5 := hC.2.2.2.1
  have e0 := hR.1.1; have e1 := hR.1.2.1; have e2 := hR.1.2.2.1; have e3 := hR.1.2.2.2.1
  have sfx := inv_S se h.2.2.2.2.2.2.2.2.1.2.2.2.1.1 h.2.2.2.2.2.2.2.2.1.2.2.2.1.2
  by_cases c : 0 ≤ s ∧ s < XR X 25 0 3
  · obtain ⟨ecp, Wd, cd, rl, ⟨p1, p0⟩, m14⟩ := cp_her (f0 := f0) h
    have gk1 := ShO_k g p1
    have sf := inv_S se cd rl
    have W0 : WS (XR X 61 0) := fun i => W.2 61 0 i
    have cS : 0 ≤ s ∧ s < XR X 61 0 1 := by omega
    have a2 := d_paintAs (f0 := f0) (k := XP X 1) g p1 W Wd hC cd (s := s) c.1 c.2 (by omega)
    have rr := rel_paint se cd rl (s := s) c.1 cS.2
    have wcd := paint_cd Wd hC cd (s := s) c.1 c.2
    obtain ⟨r, hr⟩ : ∃ r, r = (paintA X (tcp X) s).1 := ⟨_, rfl⟩
    obtain ⟨d, hd⟩ : ∃ d, d = (paintA X (tcp X) s).2 := ⟨_, rfl⟩
    rw [← hr, ← hd] at a2 rr
    rw [← hd] at wcd
    have rb : 0 ≤ r ∧ r ≤ 9 := by rw [hr]; exact paintA_rg
    have k := cl_keep (f0 := f0) h (r := r) (d := d) rb.1 (by omega) (by omega)
    refine ⟨iI r, AR X r d, ?_⟩
    have cl : fX11_paint f0 (Ad Y 11 0) (iI s) (hp Y X) = some (iI r, hp Y (AR X r d)) := by
      simp (disch := first | assumption | omega) only [fX11_paint, g_11_4, g_11_12, g_11_11, k_6, k_10, k_11, lm_1, li_3, li_0, li_1, ob2, Option.bind_some, iI_add, iI_neg, e_has, bI_i0, ite_n, if_pos c, iI_lt, iI_le, ecp, XP_sh, a2, k]
    have WA : WF (sF (AR X r d) 12 0 0 0) := W_F (AR_W h wcd.1) (by decide) (by decide)
    have z := Z61 (Y := Y) (X := sF (AR X r d) 12 0 0 0) (S := XR X 61 0) AR_61
    have r0 : Rg (0 : Int) := ⟨by decide, by decide⟩
    have r29 : 0 ≤ XF (AR X r d) 12 0 29 ∧ XF (AR X r d) 12 0 29 ≤ 8 := by
      rw [AR_f]; have := h.2.2.2.2.2.2.2.2.1.2.2.2.2.1; omega
    have q67 : XR (AR X r d) 67 0 = XR X 67 0 := AR_r (by omega)
    obtain ⟨Z, sz, -, ww⟩ := r_whyPaint (f0 := f0) (X := sF (AR X r d) 12 0 0 0) g WA W0 sf.1 (s := s) (inv_CH se cd rl (by omega) (by omega)) (by omega)
    have r29z : 0 ≤ XF Z 12 0 29 ∧ XF Z 12 0 29 ≤ 8 := by
      obtain ⟨_, _, _, _, _, ez, -⟩ := sz
      subst ez
      exact r29
    rw [← rr.1] at ww
    have WZ := Scr_W WA sz
    have q67z : XR Z 67 0 = XR X 67 0 := by
      obtain ⟨_, _, _, _, _, ez, -⟩ := sz
      subst ez
      exact q67
    by_cases q : r = 0
    · have q' : r ≤ 0 := by omega
      have kk := r_keep (f0 := f0) (X := Z) (S := XR X 61 0) g W0 r29z hf
      have mk := kpM_rg r29z
      have WK : WF (sF (sR Z 71 0 (kpU (XR Z 71 0) (XR X 61 0) (XF Z 12 0 29))) 12 0 29 (kpM (XF Z 12 0 29))) := W_F (W_R WZ (kpU_rg (fun i => WZ.2 _ _ _) W0)) (by omega) (by omega)
      have dd := r_paints (f0 := f0) (X := sF (sR Z 71 0 (kpU (XR Z 71 0) (XR X 61 0) (XF Z 12 0 29))) 12 0 29 (kpM (XF Z 12 0 29))) g W0 WK sf.1 (s := s) (by omega) (by omega)
      refine ⟨_, cl, ?_, act_end h wcd.1 wcd.2 (S' := paintS (XR X 61 0) s) ?_ (fun j hj => by unfold paintS; rw [upi_ne _ _ (by omega), upi_ne _ _ (by omega), upi_ne _ _ (by omega), upi_ne _ _ (by omega)]) rr.2 q sz⟩
      · simp (disch := first | assumption | omega) only [fX12_paint, p_12_0, k_12, lm_1, li_0, li_1, ob2, Option.bind_some, iI_add, iI_neg, r_isShip, if_pos cS, bI_i0, ite_n, z, iI_le, ww, kk, dd, if_pos q']
        rw [q]
        try rfl
      · exact WS_u (WS_u (WS_u (WS_u W0 (W0 _).1 (W0 _).2) (by omega) (by omega)) (ior_rg _ _).1 (ior_rg _ _).2) (by omega) (by omega)
    · have q' : ¬ r ≤ 0 := by omega
      have sz2 : Scr (sF (shS X (XP X 1) d) 12 0 0 0) Z := by have e := (show AR X r d = shS X (XP X 1) d from if_neg q); first | (rw [e]; rw [e] at sz; exact sz) | (rw [e] at sz; exact sz)
      refine ⟨_, cl, ?_, Inv_not h wcd.1 wcd.2.2.2.2.1 (Z := sR Z 61 0 (XR X 61 0)) ?_⟩
      · simp (disch := first | assumption | omega) only [fX12_paint, p_12_0, k_12, lm_1, li_0, li_1, ob2, Option.bind_some, iI_add, iI_neg, r_isShip, if_pos cS, bI_i0, ite_n, z, iI_le, ww, if_neg q']
      · have : sR Z 61 0 (XR X 61 0) = Z := by
          have : XR Z 61 0 = XR X 61 0 := by
            obtain ⟨_, _, _, _, _, ez, -⟩ := sz
            subst ez
            exact AR_61 (r := r) (d := d)
          rw [← this, sR_self]
        rw [this]; exact sz2
  · refine ⟨iI (-1), X, sF X 12 0 0 0, ?_, ?_, Inv_th h ⟨by decide, by decide⟩⟩
    · simp (disch := first | assumption | omega) only [fX11_paint, g_11_4, g_11_12, g_11_11, k_6, k_10, k_11, lm_1, li_3, li_0, li_1, ob2, Option.bind_some, iI_add, iI_neg, e_has, bI_i0, ite_n, if_neg c, iI_neg]
    · have cS : ¬ (0 ≤ s ∧ s < XR X 61 0 1) := by omega
      have z := Z61 (Y := Y) (X := sF X 12 0 0 0) (S := XR X 61 0) rfl
      simp (disch := first | assumption | omega) only [fX12_paint, p_12_0, k_12, lm_1, li_0, li_1, ob2, Option.bind_some, iI_add, iI_neg, z, r_isShip, bI_i0, ite_n, if_neg cS, iI_neg]
theorem op_learn {f0 : Nat} {Y : YS} {X : XS} (h : Inv Y X) {m : Int} (rg_m : Rg m) {t : Int} (rg_t : Rg t) (hf : 2000 ≤ f0) : ∃ v X1 X2, fX11_learn f0 (Ad Y 11 0) (iI m) (iI t) (hp Y X) = some (v, hp Y X1) ∧ fX12_learn f0 (Ad Y 12 0) (iI m) (iI t) (hp Y X1) = some (v, hp Y X2) ∧ Inv Y X2 := by
  have g := h.1.1; have W := h.2.1
  have se := h.2.2.2.2.2.1; have hC := se.1; have hR := se.2.1
  have g6 := SeO_0 g
  have m1 := rg_m.1; have m2 := rg_m.2
  have t1 := rg_t.1; have t2 := rg_t.2
  have c0 := hC.1; have c3 := hC.2.1; have c4 := hC.2.2.1; have c5 := hC.2.2.2.1
  have e0 := hR.1.1; have e1 := hR.1.2.1; have e2 := hR.1.2.2.1; have e3 := hR.1.2.2.2.1
  have sfx := inv_S se h.2.2.2.2.2.2.2.2.1.2.2.2.1.1 h.2.2.2.2.2.2.2.2.1.2.2.2.1.2
  by_cases c : (0 ≤ m ∧ m < XR X 25 0 5) ∧ (0 ≤ t ∧ t < XR X 25 0 4)
  · obtain ⟨ecp, Wd, cd, rl, ⟨p1, p0⟩, m14⟩ := cp_her (f0 := f0) h
    have gk1 := ShO_k g p1
    have sf := inv_S se cd rl
    have W0 : WS (XR X 61 0) := fun i => W.2 61 0 i
    have cS : (0 ≤ m ∧ m < XR X 61 0 3) ∧ (0 ≤ t ∧ t ≤ XR X 61 0 2 - 1) := by omega
    have r2 : Rg (XR X 61 0 2 - 1) := ⟨by omega, by omega⟩
    have a2 := d_teach (f0 := f0) (k := XP X 1) g p1 W Wd cd (m := m) (r := t) (by omega) (by omega) (by omega) (by omega)
    have rr := rel_teach hC hR rl (m := m) (r := t) (by omega) (by omega)
    have wcd := teach_cd Wd cd (m := m) (r := t) (by omega) (by omega) (by omega) (by omega)
    obtain ⟨r, hr⟩ : ∃ r, r = (teachA X (tcp X) m t).1 := ⟨_, rfl⟩
    obtain ⟨d, hd⟩ : ∃ d, d = (teachA X (tcp X) m t).2 := ⟨_, rfl⟩
    rw [← hr, ← hd] at a2 rr
    rw [← hd] at wcd
    have rb : 0 ≤ r ∧ r ≤ 9 := by rw [hr]; unfold teachA; (repeat' split) <;> simp
    have k := cl_keep (f0 := f0) h (r := r) (d := d) rb.1 (by omega) (by omega)
    refine ⟨iI r, AR X r d, ?_⟩
    have cl : fX11_learn f0 (Ad Y 11 0) (iI m) (iI t) (hp Y X) = some (iI r, hp Y (AR X r d)) := by
      simp (disch := first | assumption | omega) only [fX11_learn, g_11_4, g_11_12, g_11_11, k_6, k_10, k_11, lm_1, li_5, li_0, li_1, li_4, ob2, Option.bind_some, iI_add, iI_neg, e_has, bI_i0, ite_n, if_pos c.1, if_pos c.2, iI_lt, iI_le, ecp, XP_sh, a2, k]
    have WA : WF (sF (AR X r d) 12 0 0 0) := W_F (AR_W h wcd.1) (by decide) (by decide)
    have z := Z61 (Y := Y) (X := sF (AR X r d) 12 0 0 0) (S := XR X 61 0) AR_61
    have r0 : Rg (0 : Int) := ⟨by decide, by decide⟩
    have r29 : 0 ≤ XF (AR X r d) 12 0 29 ∧ XF (AR X r d) 12 0 29 ≤ 8 := by
      rw [AR_f]; have := h.2.2.2.2.2.2.2.2.1.2.2.2.2.1; omega
    have q67 : XR (AR X r d) 67 0 = XR X 67 0 := AR_r (by omega)
    have ww := r_whyLearn (f0 := f0) (X := sF (AR X r d) 12 0 0 0) g WA W0 sf.1 (fun i i0 i8 => (sf.2.2.2.2.2.2 i i0 i8).1) (m := m) (r := t) (by omega) (by omega) (by omega) (by omega)
    have sz : Scr (sF (AR X r d) 12 0 0 0) (sF (AR X r d) 12 0 0 0) := Scr_refl WA
    have r29z : 0 ≤ XF (sF (AR X r d) 12 0 0 0) 12 0 29 ∧ XF (sF (AR X r d) 12 0 0 0) 12 0 29 ≤ 8 := r29
    rw [← rr.1] at ww
    have WZ := Scr_W WA sz
    have q67z : XR (sF (AR X r d) 12 0 0 0) 67 0 = XR X 67 0 := q67
    by_cases q : r = 0
    · have q' : r ≤ 0 := by omega
      have kk := r_keep (f0 := f0) (X := (sF (AR X r d) 12 0 0 0)) (S := XR X 61 0) g W0 r29z hf
      have mk := kpM_rg r29z
      have WK : WF (sF (sR (sF (AR X r d) 12 0 0 0) 71 0 (kpU (XR (sF (AR X r d) 12 0 0 0) 71 0) (XR X 61 0) (XF (sF (AR X r d) 12 0 0 0) 12 0 29))) 12 0 29 (kpM (XF (sF (AR X r d) 12 0 0 0) 12 0 29))) := W_F (W_R WZ (kpU_rg (fun i => WZ.2 _ _ _) W0)) (by omega) (by omega)
      have dd := r_learns (f0 := f0) (X := sF (sR (sF (AR X r d) 12 0 0 0) 71 0 (kpU (XR (sF (AR X r d) 12 0 0 0) 71 0) (XR X 61 0) (XF (sF (AR X r d) 12 0 0 0) 12 0 29))) 12 0 29 (kpM (XF (sF (AR X r d) 12 0 0 0) 12 0 29))) g WK W0 sf.1 (m := m) (r := t) (by omega) (by omega) (by omega) (by omega)
      refine ⟨_, cl, ?_, act_end h wcd.1 wcd.2 (S' := teachS (XR X 61 0) m t) ?_ (fun j hj => by unfold teachS; rw [upi_ne _ _ (by omega), upi_ne _ _ (by omega)]) rr.2 q sz⟩
      · simp (disch := first | assumption | omega) only [fX12_learn, g_12_6, p_12_0, k_12, l61, lm_1, li_0, li_1, li_2, ob2, iI_sub, Option.bind_some, iI_add, iI_neg, r_isMan, if_pos cS.1, r_isIn, if_pos cS.2, bI_i0, ite_n, z, iI_le, ww, kk, dd, if_pos q']
        rw [q]
        try rfl
      · exact WS_u (WS_u W0 (ior_rg _ _).1 (ior_rg _ _).2) (by omega) (by omega)
    · have q' : ¬ r ≤ 0 := by omega
      have sz2 : Scr (sF (shS X (XP X 1) d) 12 0 0 0) (sF (AR X r d) 12 0 0 0) := by have e := (show AR X r d = shS X (XP X 1) d from if_neg q); first | (rw [e]; rw [e] at sz; exact sz) | (rw [e] at sz; exact sz)
      refine ⟨_, cl, ?_, Inv_not h wcd.1 wcd.2.2.2.2.1 (Z := sR (sF (AR X r d) 12 0 0 0) 61 0 (XR X 61 0)) ?_⟩
      · simp (disch := first | assumption | omega) only [fX12_learn, g_12_6, p_12_0, k_12, l61, lm_1, li_0, li_1, li_2, ob2, iI_sub, Option.bind_some, iI_add, iI_neg, r_isMan, if_pos cS.1, r_isIn, if_pos cS.2, bI_i0, ite_n, z, iI_le, ww, if_neg q']
      · have : sR (sF (AR X r d) 12 0 0 0) 61 0 (XR X 61 0) = (sF (AR X r d) 12 0 0 0) := by
          have : XR (sF (AR X r d) 12 0 0 0) 61 0 = XR X 61 0 := AR_61 (r := r) (d := d)
          rw [← this, sR_self]
        rw [this]; exact sz2
  · refine ⟨iI (-1), X, sF X 12 0 0 0, ?_, ?_, Inv_th h ⟨by decide, by decide⟩⟩
    · by_cases c1 : 0 ≤ m ∧ m < XR X 25 0 5
      · have c2 : ¬ (0 ≤ t ∧ t < XR X 25 0 4) := fun q => c ⟨c1, q⟩
        simp (disch := first | assumption | omega) only [fX11_learn, g_11_4, g_11_12, g_11_11, k_6, k_10, k_11, lm_1, li_5, li_0, li_1, li_4, ob2, Option.bind_some, iI_add, iI_neg, e_has, bI_i0, ite_n, if_pos c1, if_neg c2, iI_neg]
      · simp (disch := first | assumption | omega) only [fX11_learn, g_11_4, g_11_12, g_11_11, k_6, k_10, k_11, lm_1, li_5, li_0, li_1, li_4, ob2, Option.bind_some, iI_add, iI_neg, e_has, bI_i0, ite_n, if_neg c1, iI_neg]
    · have z := Z61 (Y := Y) (X := sF X 12 0 0 0) (S := XR X 61 0) rfl
      have r0 : Rg (0 : Int) := ⟨by decide, by decide⟩
      have r2 : Rg (XR X 61 0 2 - 1) := ⟨by omega, by omega⟩
      by_cases c1 : 0 ≤ m ∧ m < XR X 61 0 3
      · have c2 : ¬ (0 ≤ t ∧ t ≤ XR X 61 0 2 - 1) := by omega
        simp (disch := first | assumption | omega) only [fX12_learn, g_12_6, p_12_0, k_12, l61, lm_1, li_0, li_1, li_2, ob2, iI_sub, Option.bind_some, iI_add, iI_neg, z, r_isMan, r_isIn, bI_i0, ite_n, if_pos c1, if_neg c2, iI_neg]
      · simp (disch := first | assumption | omega) only [fX12_learn, g_12_6, p_12_0, k_12, l61, lm_1, li_0, li_1, li_2, ob2, iI_sub, Option.bind_some, iI_add, iI_neg, z, r_isMan, bI_i0, ite_n, if_neg c1, iI_neg]
