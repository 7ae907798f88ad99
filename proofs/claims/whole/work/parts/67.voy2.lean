/-! a voyage's second half; all of them -/
theorem VR_67 {X Z0 : XS} {S0 : Int → Int} {d : D5} {Z : XS} {S : Int → Int} (h : VR X Z0 S0 d Z S) : XR Z 67 0 = XR Z0 67 0 := Scr_67 h.1
theorem sail_2 {X : XS} {d : D5} {p : Int} (h : (sailA X d p).1 = 0) : (sailA X d p).2.1 2 = p ∧ canD X d := by
  unfold sailA at *
  by_cases c : canD X d
  · rw [if_pos c] at h ⊢
    by_cases a : XR X 26 0 (d.1 2 * 8 + p) = 0
    · rw [if_pos a] at h; exact absurd (show (2 : Int) = 0 from h) (by decide)
    · rw [if_neg a] at h ⊢
      by_cases b : 999 < d.1 1 + XR X 26 0 (d.1 2 * 8 + p)
      · rw [if_pos b] at h; exact absurd (show (9 : Int) = 0 from h) (by decide)
      · rw [if_neg b]
        refine ⟨?_, c⟩
        show (seenD X (sail1 X d p)).1 2 = p
        unfold seenD
        (repeat' split) <;> rfl
  · rw [if_neg c] at h; exact absurd (show (1 : Int) = 0 from h) (by decide)
theorem vr_2 {f0 : Nat} {Y : YS} {X Z0 : XS} {S0 : Int → Int} {d : D5} {Z : XS} {S : Int → Int} (g : GY Y) (WZ : WF Z0) (hS : SeaI X 0 S0) (hP : PostR X S0) (h67 : XR Z0 67 0 = XR X 67 0) (hs : isSe S0) (h : VR X Z0 S0 d Z S) (hf : 2000 ≤ f0) {gg : Nat → Int32 → Int32 → Hp → Option (Int32 × Hp)} {n : Int32} {i : Int} : ∃ Z' S', VR X Z0 S0 (voy2 X d) Z' S' ∧ bX12_draws_58 f0 gg (Ad Y 12 0) n (iI i) (hp Y (sR Z 61 0 S)) = gg (Ad Y 12 0) n (iI (i + 1)) (hp Y (sR Z' 61 0 S')) := by
  have W := Scr_W WZ h.1
  have sI := VR_sea hS h
  have hC := sI.1; have hR := sI.2.1
  have sf := inv_S sI h.2.2.2.2.2.1 h.2.2.2.2.1
  have Ws := h.2.2.1
  have o0 := h.2.2.2.1 0 (by omega); have o1 := h.2.2.2.1 1 (by omega)
  have s0 : 0 < S 0 := by rw [o0]; exact hs.1
  have seS : isSe S := by unfold isSe; rw [o0, o1]; exact hs
  have e00 : XR X 25 0 0 = S 0 := hR.1.1
  have h1 := VR_draw h
  have W1 := Scr_W WZ h1.1
  have e3 := r_draw (f0 := f0) (S := S) g W h.2.1 (n := S 0) (by omega) (by omega)
  have dr := drV_rg (s := drS (d.1 13)) (n := S 0) s0
  obtain ⟨p, hp'⟩ : ∃ p, p = drV (drS (d.1 13)) (S 0) := ⟨_, rfl⟩
  rw [← hp'] at dr e3
  have rp := rel_sail hC hR (VR_post hP h) h1.2.2.2.2.2.2 h1.2.2.2.2.2.1 h1.2.2.2.2.1 (p := p) dr.1 dr.2
  have cdp := sail_cd h1.2.2.2.2.2.2 hC h1.2.2.2.2.2.1 (p := p) dr.1 (by omega)
  have rb := sailA_rg (X := X) (d := upF d 13 (drS (d.1 13))) (p := p)
  have ws := r_whySail (f0 := f0) (X := sF Z 12 0 35 (drS (d.1 13))) g W1 Ws sf.1 (fun q => by have := sf.2.1 q.1; omega) sf.2.2.2.2.1 (p := p) dr.1 (by omega)
  rw [← rp.1] at ws
  obtain ⟨e, he⟩ : ∃ e, e = sailA X (upF d 13 (drS (d.1 13))) p := ⟨_, rfl⟩
  have v2 : voy2 X d = if e.1 = 0 then (if e.2.1 6 = 0 then (if XF X 6 0 2 ≤ drV (drS (e.2.1 13)) 12 then upF e.2 13 (drS (e.2.1 13)) else tellD X (upF e.2 13 (drS (e.2.1 13))) (e.2.1 2) (e.2.1 3)) else e.2) else e.2 := by
    unfold voy2; simp only []; rw [e00, ← hp', ← he]
  have x13 : e.2.1 13 = drS (d.1 13) := by rw [he, sail_13]; rfl
  by_cases q : e.1 = 0
  · have q2 : (sailA X (upF d 13 (drS (d.1 13))) p).1 = 0 := by rw [← he]; exact q
    obtain ⟨t2, can⟩ := sail_2 q2
    have cS : canS S := (rel_sea hR h1.2.2.2.2.1).mp can
    have s3 := sf.2.1 cS.1
    have w20 := sf.2.2.2.2.1 (8 * S 313 + p) (by omega) (by omega)
    have hw : 0 ≤ S (8 + (8 * S 313 + p)) ∧ S 312 + S (8 + (8 * S 313 + p)) ≤ 999 := by
      have why0 := rp.1
      rw [q2] at why0
      unfold whySailS lateS at why0; rw [if_pos cS] at why0
      refine ⟨by omega, ?_⟩
      apply Classical.byContradiction; intro w
      have w2 : ¬ S (8 + (8 * S 313 + p)) = 0 := by omega
      rw [if_neg w2, if_pos (by omega)] at why0; omega
    have x67 : XR (sF Z 12 0 35 (drS (d.1 13))) 67 0 = XR X 67 0 := (VR_67 h).trans h67
    have es := r_sails (f0 := f0) (X := sF Z 12 0 35 (drS (d.1 13))) g W1 Ws sf.2.2.1.1 sf.2.2.1.2.1 sf.2.2.1.2.2.2.2 (by rw [x67]; exact hP.2.2) h.2.2.2.2.1.2.2.2.2.2.1 (by omega) (by omega) sf.2.2.2.1 sf.1.1 (p := p) (by omega) (by omega) hw (sf.2.2.2.2.2.2 p (by omega) (by omega)).2 (by omega)
    rw [x67] at es
    obtain ⟨S', hS'⟩ : ∃ S', S' = seenS (XR X 67 0) (sail5 S p) p := ⟨_, rfl⟩
    rw [← hS'] at es
    have Ws' : WS S' := by rw [hS']; exact sail_ws Ws (by omega) (by omega) (by omega) (sf.2.2.2.2.2.2 p (by omega) (by omega)).2
    have o' : ∀ j, (j < 312 ∨ 465 ≤ j) → S' j = S0 j := fun j hj => by
      rw [hS', sail_out (by omega) (by omega) (by omega) sf.2.2.2.1.2 j hj]; exact h.2.2.2.1 j hj
    have rl' : RelS X e.2 S' := by rw [he, hS']; exact rp.2 q2
    have cd' : WD e.2 ∧ CD X e.2 := by rw [he]; exact cdp
    have h3 : VR X Z0 S0 e.2 (sF Z 12 0 35 (drS (d.1 13))) S' := ⟨h1.1, by rw [x13]; rfl, Ws', o', rl', cd'.2, cd'.1⟩
    have c317 : e.2.1 6 = S' 317 := rl'.1.2.2.2.1
    have sI' := VR_sea hS h3
    have sf' := inv_S sI' cd'.2 rl'
    by_cases a : e.2.1 6 = 0
    · have a' : S' 317 = 0 := by omega
      have e4 := r_draw (f0 := f0) (S := S') g W1 (show XF (sF Z 12 0 35 (drS (d.1 13))) 12 0 35 = drS (d.1 13) from rfl) (n := 12) (by omega) (by omega)
      have d12 := drV_rg (s := drS (drS (d.1 13))) (n := 12) (by omega)
      have h4 := VR_draw h3
      rw [x13] at h4
      have W4 := Scr_W WZ h4.1
      have par : XF X 6 0 2 = S' 6 := sI'.2.1.1.2.2.2.2.2.2.1
      have pr := hC.2.2.2.2.2.1
      by_cases b : XF X 6 0 2 ≤ drV (drS (e.2.1 13)) 12
      · rw [if_pos q, if_pos a, if_pos b] at v2
        rw [x13] at v2 b
        refine ⟨_, S', by rw [v2]; exact h4, ?_⟩
        have b' : S' 6 ≤ drV (drS (drS (d.1 13))) 12 := by omega
        have q1 : (sailA X (upF d 13 (drS (d.1 13))) p).1 = 0 := q2
        simp (disch := first | exact Ws' _ |>.1 | exact Ws' _ |>.2 | first | assumption | omega | exact W_fl W _ _ _ | exact W_fh W _ _ _ | exact W_rl W _ _ _ | exact W_rh W _ _ _ | exact WS_l Ws _ | exact WS_h Ws _) only [bX12_draws_58, bX12_draws_134, g_12_6, k_12, l61, li_0, li_317, li_12, li_6, li_314, li_312, ob2, li_1, iI_add, Option.bind_some, e3, ws, iI_eq, if_pos q1, es, if_pos a', e4, iI_le, if_pos b']
      · rw [if_pos q, if_pos a, if_neg b] at v2
        rw [x13] at v2 b
        have b' : ¬ S' 6 ≤ drV (drS (drS (d.1 13))) 12 := by omega
        have tt := h3.2.2.2.2.1.1.1
        have i12 := h4.2.2.2.2.2.1.1
        have seS' : isSe S' := by unfold isSe; rw [o' 0 (by omega), o' 1 (by omega)]; exact hs
        have f3 := (rl'.2.1 seS')
        have n3 := cd'.2.2.1 ((rel_fh sI'.2.1).mpr seS')
        have e2p : e.2.1 2 = p := by rw [he]; exact t2
        have e01 : XR X 25 0 0 = S' 0 := sI'.2.1.1.1
        have e03 : XR X 25 0 3 = S' 1 := sI'.2.1.1.2.1
        have tl := rel_tell sI'.1 sI'.2.1 (VR_post hP h3) h4.2.2.2.2.1 h4.2.2.2.2.2.1 (p := p) (s := e.2.1 3) (by omega) (by omega) (by omega) (by omega)
        have tc := tl_cd (s := e.2.1 3) h4.2.2.2.2.2.2 sI'.1 h4.2.2.2.2.2.1 (p := p) (by omega) (by omega)
        have dd1 : (upF e.2 13 (drS (drS (d.1 13)))).1 1 = S' 312 := tt
        rw [dd1, f3.2] at tl
        have el := r_learnsName (f0 := f0) (X := sF (sF Z 12 0 35 (drS (d.1 13))) 12 0 35 (drS (drS (d.1 13)))) g W4 Ws' (p := p) (s := S' 314) (d := S' 312) (by omega) (by omega) (by omega) (by omega) (by omega) (by omega)
        refine ⟨_, learnS S' p (S' 314) (S' 312), ⟨h4.1, ?_, learnS_ws Ws' (by omega) (by omega), fun j hj => ?_, ?_, ?_, ?_⟩, ?_⟩
        · rw [v2]; exact h4.2.1
        · rw [learnS_o (by omega)]; exact o' j hj
        · rw [v2, e2p, f3.2]; exact tl
        · rw [v2, e2p, f3.2]; rw [f3.2] at tc; exact tc.2
        · rw [v2, e2p, f3.2]; rw [f3.2] at tc; exact tc.1
        · have q1 : (sailA X (upF d 13 (drS (d.1 13))) p).1 = 0 := q2
          simp (disch := first | exact Ws' _ |>.1 | exact Ws' _ |>.2 | first | assumption | omega | exact W_fl W _ _ _ | exact W_fh W _ _ _ | exact W_rl W _ _ _ | exact W_rh W _ _ _ | exact WS_l Ws _ | exact WS_h Ws _) only [bX12_draws_58, bX12_draws_134, g_12_6, k_12, l61, li_0, li_317, li_12, li_6, li_314, li_312, ob2, li_1, iI_add, Option.bind_some, e3, ws, iI_eq, if_pos q1, es, if_pos a', e4, iI_le, if_neg b', el]
    · rw [if_pos q, if_neg a] at v2
      have a' : ¬ S' 317 = 0 := by omega
      refine ⟨_, S', by rw [v2]; exact h3, ?_⟩
      have q1 : (sailA X (upF d 13 (drS (d.1 13))) p).1 = 0 := q2
      have a2 : ¬ iI (S' 317) = iI 0 := by rw [iI_eq (Ws' _).1 (Ws' _).2 (by decide) (by decide)]; exact a'
      simp (disch := first | assumption | omega | exact W_fl W _ _ _ | exact W_fh W _ _ _ | exact W_rl W _ _ _ | exact W_rh W _ _ _ | exact WS_l Ws _ | exact WS_h Ws _) only [bX12_draws_58, bX12_draws_134, g_12_6, k_12, l61, li_0, li_317, li_12, li_6, li_314, li_312, ob2, li_1, iI_add, Option.bind_some, e3, ws, iI_eq, if_pos q1, es, if_neg a2]
  · have q2 : ¬ (sailA X (upF d 13 (drS (d.1 13))) p).1 = 0 := by rw [← he]; exact q
    rw [if_neg q] at v2
    refine ⟨_, S, by rw [v2, he, sail_no q2]; exact h1, ?_⟩
    simp (disch := first | assumption | omega | exact W_fl W _ _ _ | exact W_fh W _ _ _ | exact W_rl W _ _ _ | exact W_rh W _ _ _ | exact WS_l Ws _ | exact WS_h Ws _) only [bX12_draws_58, bX12_draws_134, g_12_6, k_12, l61, li_0, li_317, li_12, li_6, li_314, li_312, ob2, li_1, iI_add, Option.bind_some, e3, ws, iI_eq, if_neg q2]
theorem r_draws {f0 : Nat} {Y : YS} {X Z0 : XS} {S0 : Int → Int} {d : D5} (g : GY Y) (WZ : WF Z0) (hS : SeaI X 0 S0) (hP : PostR X S0) (h67 : XR Z0 67 0 = XR X 67 0) (hs : isSe S0) (W0 : WS S0) (rl : RelS X d S0) (cd : CD X d) (wd : WD d) {n sd : Int} (n0 : 0 ≤ n) (n1 : n ≤ 60) (hsd : Rg sd) (hf : 2000 ≤ f0) : ∃ Z' S', VR X Z0 S0 (voys X n.toNat (upF d 13 sd)).2 Z' S' ∧ fX12_draws f0 (Ad Y 12 0) (iI n) (iI sd) (hp Y (sR Z0 61 0 S0)) = some (iI (voys X n.toNat (upF d 13 sd)).1, hp Y (sR Z' 61 0 S')) := by
  have hfh := (rel_fh hS.2.1).mpr hs
  have st : VR X Z0 S0 (upF d 13 sd) (sF Z0 12 0 35 sd) S0 := ⟨Scr_35 (Scr_refl WZ) hsd, rfl, W0, fun j _ => rfl, rl, cd_13 cd _, WD_F wd hsd.1 hsd.2⟩
  have z : fX12_draws f0 (Ad Y 12 0) (iI n) (iI sd) (hp Y (sR Z0 61 0 S0)) = bX12_draws_7 f0 f0 (Ad Y 12 0) (iI n) (iI ((0 : Nat) : Int)) (hp Y (sR (sF Z0 12 0 35 sd) 61 0 S0)) := by
    simp (disch := first | assumption | omega) only [fX12_draws, p_12_35, li_0, Option.bind_some, iI_add, sF_sR]
    rfl
  rw [z]
  refine lp (fun f (t : Nat × XS × (Int → Int)) => bX12_draws_7 f0 f (Ad Y 12 0) (iI n) (iI (t.1 : Int)) (hp Y (sR t.2.1 61 0 t.2.2))) (fun t => (t.1 : Int) ≤ n ∧ (voys X t.1 (upF d 13 sd)).1 = (t.1 : Int) ∧ VR X Z0 S0 (voys X t.1 (upF d 13 sd)).2 t.2.1 t.2.2) (fun t => 61 - t.1) (fun r => ∃ Z' S', VR X Z0 S0 (voys X n.toNat (upF d 13 sd)).2 Z' S' ∧ r = some (iI (voys X n.toNat (upF d 13 sd)).1, hp Y (sR Z' 61 0 S'))) ?_ f0 (0, _, _) ⟨by simp only; omega, rfl, st⟩ (by simp only; omega)
  intro f ⟨i, Z, S⟩ ⟨h1, h2, h3⟩
  simp only at h1 h2 h3 ⊢
  have W := Scr_W WZ h3.1
  have Ws := h3.2.2.1
  have sI := VR_sea hS h3
  by_cases e : n ≤ (i : Int)
  · left
    have en : n.toNat = i := by omega
    rw [en]
    refine ⟨Z, S, h3, ?_⟩
    rw [h2]
    simp (disch := first | assumption | omega | exact W_fl W _ _ _ | exact W_fh W _ _ _ | exact W_rl W _ _ _ | exact W_rh W _ _ _ | exact WS_l Ws _ | exact WS_h Ws _) only [bX12_draws_7, bX12_draws_140, g_12_6, k_12, l61, li_0, li_1, li_317, li_3, ob2, iI_add, Option.bind_some, iI_le, if_pos e]
  · by_cases a : S 317 = 0
    · right
      have can : canD X (voys X i (upF d 13 sd)).2 := ⟨hfh, by rw [h3.2.2.2.2.1.1.2.2.2.1]; exact a⟩
      obtain ⟨Z1, S1, v1, e1⟩ := vr_1 (f0 := f0) g WZ hS hs h3 hf (gg := bX12_draws_7 f0 f) (n := iI n) (i := iI (i : Int)) rfl
      obtain ⟨Z2, S2, v2, e2⟩ := vr_2 (f0 := f0) g WZ hS hP h67 hs v1 hf (gg := bX12_draws_7 f0 f) (n := iI n) (i := (i : Int))
      refine ⟨(i + 1, Z2, S2), ?_, ⟨by simp only; omega, ?_, ?_⟩, by simp only; omega⟩
      · refine Eq.trans ?_ (e1.trans e2)
        simp (disch := first | assumption | omega | exact W_fl W _ _ _ | exact W_fh W _ _ _ | exact W_rl W _ _ _ | exact W_rh W _ _ _ | exact WS_l Ws _ | exact WS_h Ws _) only [bX12_draws_7, li_317, li_0, li_3, li_1, Option.bind_some, g_12_6, l61, k_12, iI_le, iI_eq, if_neg e, if_pos a]
        rfl
      · show (voys X (i + 1) (upF d 13 sd)).1 = _
        rw [voys, if_pos can]
        show (voys X i (upF d 13 sd)).1 + 1 = _
        rw [h2]; rfl
      · show VR X Z0 S0 (voys X (i + 1) (upF d 13 sd)).2 Z2 S2
        rw [voys, if_pos can]; exact v2
    · left
      have can : ¬ canD X (voys X i (upF d 13 sd)).2 := fun q => a (by rw [← h3.2.2.2.2.1.1.2.2.2.1]; exact q.2)
      rw [voys_stop can (show i ≤ n.toNat by omega)]
      refine ⟨Z, S, h3, ?_⟩
      rw [h2]
      simp (disch := first | assumption | omega | exact W_fl W _ _ _ | exact W_fh W _ _ _ | exact W_rl W _ _ _ | exact W_rh W _ _ _ | exact WS_l Ws _ | exact WS_h Ws _) only [bX12_draws_7, bX12_draws_140, g_12_6, k_12, l61, li_0, li_1, li_317, li_3, ob2, iI_add, Option.bind_some, iI_le, iI_eq, if_neg e, if_neg a]
