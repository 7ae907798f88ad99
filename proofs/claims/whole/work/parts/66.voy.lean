/-! VOYAGES BY DRAWS, here and there -/
theorem r_draw {f0 : Nat} {Y : YS} {Z : XS} {S : Int → Int} {sd : Int} (g : GY Y) (W : WF Z) (hsd : XF Z 12 0 35 = sd) {n : Int} (h0 : 1 ≤ n) (h1 : n ≤ 1000) : fX12_draw f0 (Ad Y 12 0) (iI n) (hp Y (sR Z 61 0 S)) = some (iI (drV (drS sd) n), hp Y (sR (sF Z 12 0 35 (drS sd)) 61 0 S)) := by
  have hz : nz (iI n) = some () := nz_i (by omega) (by omega) (by omega)
  have u := drU_rg (drS sd)
  have hm : iI (drU (drS sd)) - iI (drU (drS sd)) / iI n * iI n = iI (drU (drS sd) % n) := iI_mod u.1 (by omega) (by omega) (by omega)
  have e : iI sd * iI 1103515245 + iI 12345 = iI (drS sd) := by unfold drS; rw [iI_wr, iI_mul, iI_add]
  have f1 : XF (sR Z 61 0 S) 12 0 35 = sd := hsd
  have f2 : ∀ v, XF (sR (sF Z 12 0 35 v) 61 0 S) 12 0 35 = v := fun v => rfl
  have li : (1103515245 : Int32) = iI 1103515245 := rfl
  have li2 : (12345 : Int32) = iI 12345 := rfl
  unfold fX12_draw
  rw [g_12_35 g, Option.bind_some, f1, li, li2, e, p_12_35 g, Option.bind_some, sF_sR, g_12_35 g, Option.bind_some, f2, hz, Option.bind_some]
  have e8 : (Int32.toUInt32 (iI (drS sd)) >>> (Int32.toUInt32 8 &&& Int32.toUInt32 31)).toInt32 = iI (drU (drS sd)) := drU_e _
  rw [e8, hm]
  rfl
theorem paint_no {X : XS} {d : D5} {s : Int} (h : (paintA X d s).1 ≠ 0) : (paintA X d s).2 = d := by
  unfold paintA at *
  (repeat' split at h) <;> first | exact absurd rfl h | skip
  all_goals (repeat' split) <;> first | rfl | (exfalso; simp_all; done) | skip
  all_goals simp_all
theorem sail_no {X : XS} {d : D5} {s : Int} (h : (sailA X d s).1 ≠ 0) : (sailA X d s).2 = d := by
  unfold sailA at *
  by_cases c : canD X d
  · rw [if_pos c] at h ⊢
    by_cases a : XR X 26 0 (d.1 2 * 8 + s) = 0
    · rw [if_pos a]
    · rw [if_neg a] at h ⊢
      by_cases b : 999 < d.1 1 + XR X 26 0 (d.1 2 * 8 + s)
      · rw [if_pos b]
      · rw [if_neg b] at h; exact absurd rfl h
  · rw [if_neg c]
theorem paint_13 {X : XS} {d : D5} {s : Int} : (paintA X d s).2.1 13 = d.1 13 := by
  unfold paintA
  (repeat' split) <;> rfl
theorem seen_13 {X : XS} {d : D5} : (seenD X d).1 13 = d.1 13 := by
  unfold seenD
  (repeat' split) <;> rfl
theorem sail_13 {X : XS} {d : D5} {s : Int} : (sailA X d s).2.1 13 = d.1 13 := by
  unfold sailA
  by_cases c : canD X d
  · rw [if_pos c]
    by_cases a : XR X 26 0 (d.1 2 * 8 + s) = 0
    · rw [if_pos a]
    · rw [if_neg a]
      by_cases b : 999 < d.1 1 + XR X 26 0 (d.1 2 * 8 + s)
      · rw [if_pos b]
      · rw [if_neg b]
        show (seenD X (sail1 X d s)).1 13 = _
        rw [seen_13]; rfl
  · rw [if_neg c]
/-- the two of them beside each other -/
def VR (X Z0 : XS) (S0 : Int → Int) (d : D5) (Z : XS) (S : Int → Int) : Prop := Scr Z0 Z ∧ XF Z 12 0 35 = d.1 13 ∧ WS S ∧ (∀ j, (j < 312 ∨ 465 ≤ j) → S j = S0 j) ∧ RelS X d S ∧ CD X d ∧ WD d
theorem VR_sea {X Z0 : XS} {S0 : Int → Int} {d : D5} {Z : XS} {S : Int → Int} (hS : SeaI X 0 S0) (h : VR X Z0 S0 d Z S) : SeaI X 0 S := SeaI_S (fun j _ hj => h.2.2.2.1 j (.inl hj)) hS
theorem VR_post {X Z0 : XS} {S0 : Int → Int} {d : D5} {Z : XS} {S : Int → Int} (hP : PostR X S0) (h : VR X Z0 S0 d Z S) : PostR X S := ⟨by rw [h.2.2.2.1 0 (by omega)]; exact hP.1, hP.2⟩
theorem Scr_67 {X Z : XS} (h : Scr X Z) : XR Z 67 0 = XR X 67 0 := by
  obtain ⟨c, n, w, k, v, e, -⟩ := h
  subst e; rfl
theorem VR_draw {X Z0 : XS} {S0 : Int → Int} {d : D5} {Z : XS} {S : Int → Int} (h : VR X Z0 S0 d Z S) : VR X Z0 S0 (upF d 13 (drS (d.1 13))) (sF Z 12 0 35 (drS (d.1 13))) S := by
  obtain ⟨a, b, c, e, r, cd, wd⟩ := h
  exact ⟨Scr_35 a (drS_rg _), rfl, c, e, r, cd_13 cd _, WD_F wd (drS_rg _).1 (drS_rg _).2⟩
theorem vr_1 {f0 : Nat} {Y : YS} {X Z0 : XS} {S0 : Int → Int} {d : D5} {Z : XS} {S : Int → Int} (g : GY Y) (WZ : WF Z0) (hS : SeaI X 0 S0) (hs : isSe S0) (h : VR X Z0 S0 d Z S) (hf : 2000 ≤ f0) {gg : Nat → Int32 → Int32 → Hp → Option (Int32 × Hp)} {n i : Int32} {k : Hp → Option (Int32 × Hp)} (hk : k = fun hh => bX12_draws_58 f0 gg (Ad Y 12 0) n i hh) : ∃ Z' S', VR X Z0 S0 (voy1 X d) Z' S' ∧ (ob2 (fX12_draw f0 (Ad Y 12 0) (iI 3) (hp Y (sR Z 61 0 S))) fun x25 h25 => (if x25 = iI 0 then (gfN 12 6 h25 (Ad Y 12 0)).bind fun x33 => (ldI 1 h25 x33 (iI 1)).bind fun x37 => (ckO 12 h25 (Ad Y 12 0)).bind fun _ => ob2 (fX12_draw f0 (Ad Y 12 0) x37 h25) fun x38 h38 => (ckO 12 h38 (Ad Y 12 0)).bind fun _ => ob2 (fX12_whyPaint f0 (Ad Y 12 0) x38 h38) fun x46 h46 => (if x46 = iI 0 then (ckO 12 h46 (Ad Y 12 0)).bind fun _ => (fX12_paints f0 (Ad Y 12 0) x38 h46).bind fun h55 => k h55 else k h46) else k h25)) = k (hp Y (sR Z' 61 0 S')) := by
  have W := Scr_W WZ h.1
  have sI := VR_sea hS h
  have sf := inv_S sI h.2.2.2.2.2.1 h.2.2.2.2.1
  have Ws := h.2.2.1
  have o0 := h.2.2.2.1 0 (by omega); have o1 := h.2.2.2.1 1 (by omega)
  have s1 : 0 < S 1 := by rw [o1]; exact hs.2
  have dr := drV_rg (s := drS (d.1 13)) (n := 3) (by omega)
  have e3 := r_draw (f0 := f0) (S := S) g W h.2.1 (n := 3) (by omega) (by omega)
  have e31 : XR X 25 0 3 = S 1 := sI.2.1.1.2.1
  by_cases c : drV (drS (d.1 13)) 3 = 0
  · have h1 := VR_draw h
    have W1 := Scr_W WZ h1.1
    have h2 := VR_draw h1
    have W2 := Scr_W WZ h2.1
    have x13 : (upF d 13 (drS (d.1 13))).1 13 = drS (d.1 13) := rfl
    rw [x13] at h2 W2
    have e4 := r_draw (f0 := f0) (S := S) g W1 h1.2.1 (n := S 1) (by omega) (by omega)
    rw [x13] at e4
    have ds := drV_rg (s := drS (drS (d.1 13))) (n := S 1) s1
    obtain ⟨s, hs'⟩ : ∃ s, s = drV (drS (drS (d.1 13))) (S 1) := ⟨_, rfl⟩
    rw [← hs'] at ds e4
    have hh := inv_CH sI h2.2.2.2.2.2.1 h2.2.2.2.2.1 (s := s) (by omega) (by omega)
    obtain ⟨Z', sz, z35, ew⟩ := r_whyPaint (f0 := f0) g W2 Ws sf.1 hh (by omega)
    have rp := rel_paint sI h2.2.2.2.2.2.1 h2.2.2.2.2.1 (s := s) (by omega) (by omega)
    have cdp := paint_cd h2.2.2.2.2.2.2 sI.1 h2.2.2.2.2.2.1 (s := s) (by omega) (by omega)
    have rb := paintA_rg (X := X) (d := upF (upF d 13 (drS (d.1 13))) 13 (drS (drS (d.1 13)))) (p := s)
    have v1 : voy1 X d = (paintA X (upF (upF d 13 (drS (d.1 13))) 13 (drS (drS (d.1 13)))) s).2 := by
      unfold voy1; rw [if_pos c, e31, hs']
    have sz' : Scr Z0 Z' := by
      obtain ⟨c', n', w', k', v, ez, q1, q2, q3, q4, q5⟩ := sz
      rw [ez]; exact Scr_35 (Scr_scr h2.1 q1 q2 q3 q4) q5
    rw [v1]
    rw [← rp.1] at ew
    by_cases q : (paintA X (upF (upF d 13 (drS (d.1 13))) 13 (drS (drS (d.1 13)))) s).1 = 0
    · have ep := r_paints (f0 := f0) (X := Z') g Ws (Scr_W WZ sz') sf.1 (s := s) (by omega) (by omega)
      refine ⟨Z', paintS S s, ⟨sz', ?_, ?_, fun j hj => ?_, rp.2 q, cdp.2, cdp.1⟩, ?_⟩
      · rw [z35, paint_13]; rfl
      · exact WS_u (WS_u (WS_u (WS_u Ws (Ws _).1 (Ws _).2) (by omega) (by omega)) (ior_rg _ _).1 (ior_rg _ _).2) (by omega) (by omega)
      · rw [← h.2.2.2.1 j hj]; unfold paintS; rw [upi_ne _ _ (by omega), upi_ne _ _ (by omega), upi_ne _ _ (by omega), upi_ne _ _ (by omega)]
      · simp (disch := first | assumption | omega | exact W_fl W _ _ _ | exact W_fh W _ _ _ | exact W_rl W _ _ _ | exact W_rh W _ _ _ | exact WS_l Ws _ | exact WS_h Ws _) only [e3, ob2, Option.bind_some, iI_eq, if_pos c, g_12_6, l61, k_12, e4, ew, if_pos q, ep]
    · refine ⟨Z', S, ⟨sz', ?_, Ws, h.2.2.2.1, ?_, cdp.2, cdp.1⟩, ?_⟩
      · rw [z35, paint_13]; rfl
      · rw [paint_no q]; exact h2.2.2.2.2.1
      · simp (disch := first | assumption | omega | exact W_fl W _ _ _ | exact W_fh W _ _ _ | exact W_rl W _ _ _ | exact W_rh W _ _ _ | exact WS_l Ws _ | exact WS_h Ws _) only [e3, ob2, Option.bind_some, iI_eq, if_pos c, g_12_6, l61, k_12, e4, ew, if_neg q]
  · have v1 : voy1 X d = upF d 13 (drS (d.1 13)) := by unfold voy1; rw [if_neg c]
    rw [v1]
    refine ⟨_, S, VR_draw h, ?_⟩
    simp (disch := first | assumption | omega | exact W_fl W _ _ _ | exact W_fh W _ _ _ | exact W_rl W _ _ _ | exact W_rh W _ _ _ | exact WS_l Ws _ | exact WS_h Ws _) only [e3, ob2, Option.bind_some, iI_eq, if_neg c]
