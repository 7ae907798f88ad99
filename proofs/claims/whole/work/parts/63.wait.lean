/-! waits, takes, learn, sail, paint, undo: both answer the same -/
theorem inv_S {X : XS} {d : D5} {S : Int → Int} (hS : SeaI X 0 S) (hd : CD X d) (h : RelS X d S) : (0 ≤ S 312 ∧ S 312 ≤ 999) ∧ (isSe S → (0 ≤ S 313 ∧ S 313 < S 0) ∧ 0 ≤ S 314 ∧ S 314 < S 1) ∧ ((0 ≤ S 0 ∧ S 0 ≤ 8) ∧ (0 ≤ S 1 ∧ S 1 ≤ 8) ∧ (0 ≤ S 2 ∧ S 2 ≤ 6) ∧ (0 ≤ S 3 ∧ S 3 ≤ 8) ∧ 0 ≤ S 7 ∧ S 7 ≤ 16) ∧ (-1 ≤ S 315 ∧ S 315 < 8) ∧ (∀ i, 0 ≤ i → i < 64 → 0 ≤ S (8 + i) ∧ S (8 + i) ≤ 20) ∧ (∀ s p, 0 ≤ s → s < 8 → 0 ≤ p → p < 8 → 0 ≤ owS S s p ∧ owS S s p ≤ 250) ∧ (∀ i, 0 ≤ i → i < 8 → (0 ≤ S (328 + i) ∧ S (328 + i) < 64) ∧ 0 ≤ S (320 + i) ∧ S (320 + i) ≤ 999) := by
  have hC := hS.1; have hR := hS.2.1
  have c0 := hC.1; have c3 := hC.2.1; have c4 := hC.2.2.1; have c5 := hC.2.2.2.1; have c6 := hC.2.2.2.2.1
  have e0 := hR.1.1; have e1 := hR.1.2.1; have e2 := hR.1.2.2.1; have e3 := hR.1.2.2.2.1; have e7 := hR.1.2.2.2.2.2.2.2
  have d1 := hd.1; have d4 := hd.2.2.1
  have a1 := h.1.1; have a2 := h.1.2.1
  refine ⟨by omega, fun q => ?_, by omega, by omega, fun i i0 i6 => ?_, fun s p s0 s8 p0 p8 => ?_, fun i i0 i8 => ⟨?_, ?_⟩⟩
  · have := hd.2.1 ((rel_fh hR).mpr q); have b := h.2.1 q; omega
  · have := hC.2.2.2.2.2.2.1 i i0 i6; rw [(hR.2.1 i i0 i6).1] at this; exact this
  · rw [← rel_ow hR h s0 s8 p0 p8]; exact owD_rg hC s0 s8 p0 p8
  · have := hd.2.2.2.2.2.2.1 i i0 i8; rw [(h.2.2.2.1 i i0 i8).2] at this; exact this
  · have := hd.2.2.2.2.1 i i0 i8; rw [(h.2.2.2.1 i i0 i8).1] at this; omega
abbrev tcp (X : XS) : D5 := cpD (shG X (XP X 1)) (shG X (XP X 0))
theorem cp_her {f0 : Nat} {Y : YS} {X : XS} (h : Inv Y X) : (fX10_copyFrom f0 (Ad Y 10 (XP X 1)) (Ad Y 10 (XP X 0)) (hp Y X) = some (hp Y (shS X (XP X 1) (tcp X)))) ∧ WD (tcp X) ∧ CD X (tcp X) ∧ RelS X (tcp X) (XR X 61 0) ∧ (XP X 1 < 10 ∧ XP X 0 < 10) ∧ (0 ≤ XF X 11 0 14 ∧ XF X 11 0 14 ≤ 8) := by
  have g := h.1.1; have W := h.2.1
  have sh := h.2.2.2.2.2.2.2.2.1
  have p1 := sh.1 1 (by omega); have p0 := sh.1 0 (by omega)
  have ne : XP X 0 ≠ XP X 1 := fun q => absurd (sh.2.1 0 1 (by omega) (by omega) q) (by decide)
  have se := h.2.2.2.2.2.1
  have hC := se.1; have hR := se.2.1
  have c0 := hC.1; have c3 := hC.2.1; have e0 := hR.1.1; have e1 := hR.1.2.1
  refine ⟨?_, WD_cp (WD_G W _) (WD_G W _), CD_seq (SEq_cp _ _) sh.2.2.2.1.1, rel_seq (by omega) (SEq_cp _ _) sh.2.2.2.1.2, ⟨p1, p0⟩, sh.2.2.2.2.1.2⟩
  have := d_copyFrom (f0 := f0) (X := X) (d := shG X (XP X 1)) (ShO_k g p1) (ShO_k g p0) ne W (sh.2.2.1 _)
  rw [sh_id] at this
  exact this
abbrev AR (X : XS) (r : Int) (d : D5) : XS := if r = 0 then KT (shS X (XP X 1) d) else shS X (XP X 1) d
theorem cl_keep {f0 : Nat} {Y : YS} {X : XS} (h : Inv Y X) {r : Int} {d : D5} (r0 : 0 ≤ r) (r1 : r ≤ 1000) (hf : 20 ≤ f0) : fX11_keepIfDone f0 (Ad Y 11 0) (iI r) (hp Y (shS X (XP X 1) d)) = some (iI r, hp Y (AR X r d)) := by
  have sh := h.2.2.2.2.2.2.2.2.1
  have f14 : XF (shS X (XP X 1) d) 11 0 14 = XF X 11 0 14 := by rw [XF_sh, if_neg (fun q => absurd q.1 (by decide))]
  exact k_done h.1.1 h.1.2 (X := shS X (XP X 1) d) sh.1 (by rw [f14]; exact sh.2.2.2.2.1.2) r0 r1 hf
theorem AR_61 {X : XS} {r : Int} {d : D5} : XR (AR X r d) 61 0 = XR X 61 0 := by
  have : XR (shS X (XP X 1) d) 61 0 = XR X 61 0 := by rw [XR_sh]; split <;> rfl
  unfold AR; split
  · exact this
  · exact this
theorem AR_W {Y : YS} {X : XS} {r : Int} {d : D5} (h : Inv Y X) (Wd : WD d) : WF (AR X r d) := by
  have sh := h.2.2.2.2.2.2.2.2.1
  have f14 : XF (shS X (XP X 1) d) 11 0 14 = XF X 11 0 14 := by rw [XF_sh, if_neg (fun q => absurd q.1 (by decide))]
  unfold AR; split
  · exact W_kt (W_sh h.2.1 Wd) (by rw [f14]; exact sh.2.2.2.2.1.2)
  · exact W_sh h.2.1 Wd
theorem AR_f {X : XS} {r : Int} {d : D5} {f : Nat} : XF (AR X r d) 12 0 f = XF X 12 0 f := by
  have : XF (shS X (XP X 1) d) 12 0 f = XF X 12 0 f := by rw [XF_sh, if_neg (fun q => absurd q.1 (by decide))]
  unfold AR; split
  · exact this
  · exact this
theorem AR_r {X : XS} {r : Int} {d : D5} {s : Nat} (hs : s ≠ 43 ∧ s ≠ 44 ∧ s ≠ 45 ∧ s ≠ 46) : XR (AR X r d) s 0 = XR X s 0 := by
  have : XR (shS X (XP X 1) d) s 0 = XR X s 0 := by rw [XR_sh]; split <;> simp [hs]
  unfold AR; split
  · exact this
  · exact this
/-- the reference's state ahead of its act, as a row beside the rest -/
theorem Z61 {Y : YS} {X : XS} {S : Int → Int} (h : XR X 61 0 = S) : hp Y X = hp Y (sR X 61 0 S) := by rw [← h, sR_self]
theorem act_end {Y : YS} {X Z : XS} {d : D5} {r : Int} {S' : Int → Int} (h : Inv Y X) (Wd : WD d) (cd : CD X d) (Ws : WS S') (ho : ∀ j, (j < 312 ∨ 465 ≤ j) → S' j = XR X 61 0 j) (hr : r = 0 → RelS X d S') (r0 : r = 0) (hz : Scr (sF (AR X r d) 12 0 0 0) Z) : Inv Y (sR (sF (sR Z 71 0 (kpU (XR Z 71 0) (XR X 61 0) (XF Z 12 0 29))) 12 0 29 (kpM (XF Z 12 0 29))) 61 0 S') := by
  have hz2 : Scr (sF (KT (shS X (XP X 1) d)) 12 0 0 0) Z := by unfold AR at hz; rw [if_pos r0] at hz; exact hz
  have e71 : XR Z 71 0 = XR X 71 0 := by
    obtain ⟨c, n, w, k, v, e, -⟩ := hz
    subst e
    exact AR_r (r := r) (d := d) (by omega)
  have e29 : XF Z 12 0 29 = XF X 12 0 29 := by
    obtain ⟨c, n, w, k, v, e, -⟩ := hz
    subst e
    exact AR_f (r := r) (d := d)
  exact Inv_done h Wd cd Ws ho (hr r0) hz2 rfl (by rw [e71, e29]) (by rw [e29])
theorem op_waits {f0 : Nat} {Y : YS} {X : XS} (h : Inv Y X) {n : Int} (hn : Rg n) (hf : 2000 ≤ f0) : ∃ v X1 X2, fX11_waits f0 (Ad Y 11 0) (iI n) (hp Y X) = some (v, hp Y X1) ∧ fX12_waits f0 (Ad Y 12 0) (iI n) (hp Y X1) = some (v, hp Y X2) ∧ Inv Y X2 := by
  have g := h.1.1; have W := h.2.1
  have n1 := hn.1; have n2 := hn.2
  by_cases c : 1 ≤ n ∧ n ≤ 60
  · obtain ⟨e1, Wd, cd, rl, ⟨p1, p0⟩, m14⟩ := cp_her (f0 := f0) h
    have gk1 := ShO_k g p1
    have se := h.2.2.2.2.2.1
    have sf := inv_S se cd rl
    have W0 := fun i => W.2 61 0 i
    have a2 := d_waitFor (f0 := f0) (k := XP X 1) (n := n) g p1 W Wd cd (by omega) (by omega)
    have rr := rel_wait se.1 se.2.1 rl (n := n)
    obtain ⟨r, hr⟩ : ∃ r, r = (waitA X (tcp X) n).1 := ⟨_, rfl⟩
    obtain ⟨d, hd⟩ : ∃ d, d = (waitA X (tcp X) n).2 := ⟨_, rfl⟩
    rw [← hr, ← hd] at a2 rr
    have rb : 0 ≤ r ∧ r ≤ 9 := by rw [hr]; unfold waitA; (repeat' split) <;> simp
    have k := cl_keep (f0 := f0) h (r := r) (d := d) rb.1 (by omega) (by omega)
    have wcd : WD d ∧ CD X d := by
      rw [hd]; unfold waitA
      (repeat' split)
      · exact ⟨Wd, cd⟩
      · exact ⟨WD_F Wd (by have := cd.1; omega) (by omega), ⟨by have := cd.1; exact ⟨by show 0 ≤ (tcp X).1 1 + n; omega, by show (tcp X).1 1 + n ≤ 999; omega⟩, cd.2.1, cd.2.2.1, cd.2.2.2.1, fun i i0 i8 => ⟨(cd.2.2.2.2.1 i i0 i8).1, by have := (cd.2.2.2.2.1 i i0 i8).2; show (tcp X).2.1 i ≤ (tcp X).1 1 + n; omega⟩, cd.2.2.2.2.2⟩⟩
      · exact ⟨Wd, cd⟩
    have c1 : ¬ n < 1 := by omega
    refine ⟨iI r, AR X r d, ?_⟩
    have cl : fX11_waits f0 (Ad Y 11 0) (iI n) (hp Y X) = some (iI r, hp Y (AR X r d)) := by
      simp (disch := first | assumption | omega) only [fX11_waits, g_11_12, g_11_11, k_10, k_11, lm_1, li_1, li_60, ob2, Option.bind_some, iI_add, iI_neg, iI_lt, iI_le, if_neg c1, if_pos c.2, e1, XP_sh, a2, k]
    have WA : WF (sF (AR X r d) 12 0 0 0) := W_F (AR_W h wcd.1) (by decide) (by decide)
    have z := Z61 (Y := Y) (X := sF (AR X r d) 12 0 0 0) (S := XR X 61 0) AR_61
    have b1 : Rg (1 : Int) := ⟨by decide, by decide⟩
    have b60 : Rg (60 : Int) := ⟨by decide, by decide⟩
    have ww := r_whyWait (f0 := f0) (X := sF (AR X r d) 12 0 0 0) g WA W0 sf.1 (n := n) (by omega) (by omega)
    rw [← rr.1] at ww
    by_cases q : r = 0
    · have q' : r ≤ 0 := by omega
      have kk := r_keep (f0 := f0) (X := sF (AR X r d) 12 0 0 0) (S := XR X 61 0) g W0 (by
        show 0 ≤ XF (AR X r d) 12 0 29 ∧ XF (AR X r d) 12 0 29 ≤ 8
        rw [AR_f]; have := h.2.2.2.2.2.2.2.2.1.2.2.2.2.1; omega) hf
      refine ⟨_, cl, ?_, act_end h wcd.1 wcd.2 (S' := upi (XR X 61 0) 312 (XR X 61 0 312 + n)) ?_ (fun j hj => upi_ne _ _ (by omega)) rr.2 q (Scr_refl WA)⟩
      · have wv : wr (XR X 61 0 312 + n) = XR X 61 0 312 + n := wr_id (by omega) (by omega)
        simp (disch := first | assumption | omega) only [fX12_waits, g_12_6, p_12_0, k_12, l61, s61, lm_1, li_0, li_1, li_60, li_312, ob2, iI_add, Option.bind_some, iI_neg, r_isIn, bI_i0, ite_n, if_pos c, z, ww, iI_le, if_pos q', kk, wv]
        rw [q]
      · exact WS_u W0 (by omega) (by omega)
    · have q' : ¬ r ≤ 0 := by omega
      refine ⟨_, cl, ?_, Inv_not h wcd.1 wcd.2.2.2.2.1 (Z := sF (AR X r d) 12 0 0 0) ?_⟩
      · simp (disch := first | assumption | omega) only [fX12_waits, g_12_6, p_12_0, k_12, l61, s61, lm_1, li_0, li_1, li_60, li_312, ob2, iI_add, Option.bind_some, iI_neg, r_isIn, bI_i0, ite_n, if_pos c, z, ww, iI_le, if_neg q']
      · have : AR X r d = shS X (XP X 1) d := if_neg q
        rw [this] at WA ⊢
        exact Scr_refl WA
  · refine ⟨iI (-1), X, sF X 12 0 0 0, ?_, ?_, Inv_th h ⟨by decide, by decide⟩⟩
    · by_cases c1 : n < 1
      · simp (disch := first | assumption | omega) only [fX11_waits, g_11_12, g_11_11, k_10, k_11, lm_1, li_1, li_60, ob2, Option.bind_some, iI_add, iI_neg, iI_lt, if_pos c1, iI_neg]
      · have c2 : ¬ n ≤ 60 := by omega
        simp (disch := first | assumption | omega) only [fX11_waits, g_11_12, g_11_11, k_10, k_11, lm_1, li_1, li_60, ob2, Option.bind_some, iI_add, iI_neg, iI_lt, iI_le, if_neg c1, if_neg c2, iI_neg]
    · have b1 : Rg (1 : Int) := ⟨by decide, by decide⟩
      have b60 : Rg (60 : Int) := ⟨by decide, by decide⟩
      simp (disch := first | assumption | omega) only [fX12_waits, g_12_6, p_12_0, k_12, l61, s61, lm_1, li_0, li_1, li_60, li_312, ob2, iI_add, Option.bind_some, iI_neg, r_isIn, bI_i0, ite_n, if_neg c, iI_neg]
