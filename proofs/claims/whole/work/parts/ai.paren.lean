/-! A SENTENCE IS READ: one in brackets -/
theorem L_end {f0 f : Nat} {Y : YS} {X Z : XS} (g : GY Y) (W : WF Z) (c : TokC X) (r : TokR X Z) {t i j k : Int} (pn : PenR X Z t i j k) (hb : t = 0 ∨ XR Z 77 0 (t - 1) = 23) (hd : k ≤ XF Z 12 0 43 ∧ XF Z 12 0 43 ≤ 100) (h44 : XF Z 12 0 44 = 1) (h11 : XF Z 12 0 11 = 0) (hf : 20 ≤ f0) : ∃ Z2, WF Z2 ∧ CdF Z Z2 ∧ PenR X Z2 t 0 0 0 ∧ TokR X Z2 ∧ (0 < t → Lp f0 Y (f + 1) Z = bX12_sentence_125 f0 (Ad Y 12 0) (hp Y (rfR Z2 1))) ∧ (t = 0 → Lp f0 Y (f + 1) Z = bX12_sentence_48 f0 f (Ad Y 12 0) (iI 0) (hp Y Z2)) := by
  have p1 := pn.1
  obtain ⟨Z1, e1, W1, f1, pn1, d1⟩ := r_nots (f0 := f0) (Y := Y) g W pn (by
    rcases hb with w | w
    · exact .inr (.inr (.inl w))
    · exact .inr (.inr (.inr (by omega)))) (by omega) hf
  have r1 := TokR_s RdS_id (CdF_nx f1) r
  obtain ⟨Z2, e2, W2, f2, pn2, d2⟩ := r_joins (f0 := f0) (Y := Y) g W1 (v := 22) (.inl rfl) pn1 (by
    rw [f1.2.1 77 0 (by omega)]
    rcases hb with w | w
    · exact .inl w
    · exact .inr ⟨by omega, fun q => by omega⟩) hf
  have r2 := TokR_s RdS_id (CdF_nx f2) r1
  have z42 : XF Z2 12 0 42 = t := by have := pn2.2.1.1; omega
  have bd : fX12_bad f0 (Ad Y 12 0) (iI 1) (hp Y Z2) = some (0, hp Y (rfR Z2 1)) := r_bad g
  refine ⟨Z2, W2, CdF_trans f1 f2, pn2, r2, fun t0 => ?_, fun t0 => ?_⟩
  · have n : ¬ t ≤ 0 := by omega
    unfold Lp
    simp (disch := first | assumption | omega) only [bX12_sentence_48, bX12_sentence_125, g_12_6, g_12_40, g_12_44, g_12_11, g_12_42, g_12_16, k_12, s61, lm_1, li_0, li_1, li_465, li_22, ob2, iI_add, iI_sub, Option.bind_some, iI_neg, iI_eq, Int.reduceEq, if_false, if_true, h44, h11, e1, li_22, e2, z42, iI_le, if_neg n, bd]
  · have n : t ≤ 0 := by omega
    unfold Lp
    simp (disch := first | assumption | omega) only [bX12_sentence_48, g_12_6, g_12_40, g_12_44, g_12_11, g_12_42, g_12_16, k_12, s61, lm_1, li_0, li_1, li_465, li_22, ob2, iI_add, iI_sub, Option.bind_some, iI_neg, iI_eq, Int.reduceEq, if_false, if_true, h44, h11, e1, li_22, e2, z42, iI_le, if_pos n]
theorem PenR_pop {X Z : XS} {t v : Int} (h : PenR X Z (t + 1) 0 0 0) (t0 : 0 ≤ t) : PenR X (sF (sF Z 12 0 42 (t + 1 - 1)) 12 0 43 v) t 0 0 0 := by
  obtain ⟨h1, h2, h3, h4, h5, h6⟩ := h
  exact ⟨⟨by omega, h1.2⟩, ⟨show t + 1 - 1 = _ by omega, h2.2⟩, h3, h4, h5, fun a a0 a1 => by omega⟩
theorem L_bbad {f0 f : Nat} {Y : YS} {Z Z' : XS} (g : GY Y) (W : WF Z) (h : XF Z 12 0 44 = 1) (h1 : ¬ XF Z 12 0 11 = 0) (e : fX12_behind f0 (Ad Y 12 0) (hp Y Z) = some (0, hp Y Z')) : Lp f0 Y (f + 1) Z = bX12_sentence_125 f0 (Ad Y 12 0) (hp Y Z') := by
  rw [L_be g W h h1, e, ob2_some]; exact if_pos rfl
theorem L_bok {f0 f : Nat} {Y : YS} {Z Z' : XS} (g : GY Y) (W : WF Z) (h : XF Z 12 0 44 = 1) (h1 : ¬ XF Z 12 0 11 = 0) (e : fX12_behind f0 (Ad Y 12 0) (hp Y Z) = some (1, hp Y Z')) : Lp f0 Y (f + 1) Z = Lp f0 Y f Z' := by
  rw [L_be g W h h1, e, ob2_some]; exact if_neg (by decide)
/-- behind a condition that is not gone on with, nor closed -/
theorem L_stop {f0 f : Nat} {Y : YS} {X Z : XS} (g : GY Y) (W : WF Z) (c : TokC X) (r : TokR X Z) (rs : RsC X) {t i j k : Int} (pn : PenR X Z t i j k) (t0 : 0 < t) (hb : XR Z 77 0 (t - 1) = 23) (hd : k ≤ XF Z 12 0 43 ∧ XF Z 12 0 43 ≤ 100) (h44 : XF Z 12 0 44 = 1) (n16 : ¬ XF X 4 0 8 = 16) (n17 : ¬ XF X 4 0 8 = 17) (n41 : ¬ XF X 4 0 5 = 41) (hf : 20 ≤ f0) : ∃ Z', Lp f0 Y (f + 1) Z = some (iI (-1 - XF (rfC X 1) 4 0 11), hp Y Z') ∧ WF Z' ∧ TxE Z Z' ∧ FaR (rfC X 1) Z' := by
  by_cases h11 : XF Z 12 0 11 = 0
  · obtain ⟨Z2, W2, f2, p2, r2, k1, _⟩ := L_end (f0 := f0) (f := f) (Y := Y) g W c r pn (.inr hb) hd h44 h11 hf
    have rr := rf_R W2 c r2 (k := 1) (by omega) (by omega)
    have fc : FaC (rfC X 1) := ⟨⟨by show (1 : Int) ≤ 1; omega, by show (1 : Int) ≤ 4; omega⟩, by have := c.1.2; have := c.2.2.1; constructor <;> (show _ ≤ _) <;> (first | (show 0 ≤ XF X 4 0 6; omega) | (show XF X 4 0 6 ≤ 940; omega))⟩
    exact ⟨rfR Z2 1, by rw [k1 t0]; exact s125 g fc rr.2.2, rr.1, TxOE (CdF_tx f2) (TxE_R rr.2.1), rr.2.2⟩
  · obtain ⟨Z2, W2, f2, p2, d2, r2, k1, _⟩ := be_x (f0 := f0) (Y := Y) g W c r rs pn (.inr hb) hd n16 n17 hf
    have rr := rf_R W2 c r2 (k := 1) (by omega) (by omega)
    have fc : FaC (rfC X 1) := ⟨⟨by show (1 : Int) ≤ 1; omega, by show (1 : Int) ≤ 4; omega⟩, by have := c.1.2; have := c.2.2.1; constructor <;> (show _ ≤ _) <;> (first | (show 0 ≤ XF X 4 0 6; omega) | (show XF X 4 0 6 ≤ 940; omega))⟩
    exact ⟨rfR Z2 1, by rw [L_bbad g W h44 h11 (k1 (fun w => n41 w.1))]; exact s125 g fc rr.2.2, rr.1, TxOE (CdF_tx f2) (TxE_R rr.2.1), rr.2.2⟩
