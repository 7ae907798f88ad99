/-! A SENTENCE IS READ: the reference behind a condition -/
theorem CdF_nx {Z Z' : XS} (f : CdF Z Z') : NxS Z Z' := ⟨fun k hk => f.1 12 0 k (by omega), f.2.1 60 0 (by omega), by rw [f.2.2.1]⟩
theorem CdF_tx {Z Z' : XS} (f : CdF Z Z') : TxO Z Z' := ⟨⟨⟨fun s k n q => f.1 s k n (by omega), fun s k q => f.2.1 s k (by omega), fun s k _ => by rw [f.2.2.1], fun i _ => by rw [f.2.2.1], f.2.2.2.1, f.2.2.2.2⟩, f.1 11 0 1 (by omega), f.1 11 0 3 (by omega), f.1 12 0 2 (by omega)⟩, f.1 12 0 15 (by omega)⟩
theorem be_x {f0 : Nat} {Y : YS} {X Z : XS} (g : GY Y) (W : WF Z) (c : TokC X) (r : TokR X Z) (rs : RsC X) {t i j k : Int} (pn : PenR X Z t i j k) (hb : t = 0 ∨ XR Z 77 0 (t - 1) = 23) (hd : k ≤ XF Z 12 0 43 ∧ XF Z 12 0 43 ≤ 100) (n16 : ¬ XF X 4 0 8 = 16) (n17 : ¬ XF X 4 0 8 = 17) (hf : 20 ≤ f0) : ∃ Z2, WF Z2 ∧ CdF Z Z2 ∧ PenR X Z2 t 0 0 0 ∧ XF Z2 12 0 43 = XF Z 12 0 43 - k ∧ TokR X Z2 ∧ (¬ (XF X 4 0 5 = 41 ∧ 0 < t) → fX12_behind f0 (Ad Y 12 0) (hp Y Z) = some (0, hp Y (rfR Z2 1))) ∧ (XF X 4 0 5 = 41 → 0 < t → fX12_behind f0 (Ad Y 12 0) (hp Y Z) = (fX12_next f0 (Ad Y 12 0) (hp Y (sF (sF Z2 12 0 42 (t - 1)) 12 0 43 (XF Z 12 0 43 - k - 1)))).bind fun h => zr 1 h) := by
  have p1 := pn.1
  obtain ⟨Z1, e1, W1, f1, pn1, d1⟩ := r_nots (f0 := f0) (Y := Y) g W pn (by
    rcases hb with w | w
    · exact .inr (.inr (.inl w))
    · exact .inr (.inr (.inr (by omega)))) (by omega) hf
  have r1 := TokR_s RdS_id (CdF_nx f1) r
  obtain ⟨Z2, e2, W2, f2, pn2, d2⟩ := r_joins (f0 := f0) (Y := Y) g W1 (v := 22) (.inl rfl) pn1 (by
    rw [f1.2.1 77 0 (by omega)]
    rcases hb with w | w
    · exact .inl w
    · exact .inr ⟨by omega, fun q => by omega⟩) hf
  have f12 := CdF_trans f1 f2
  have r2 := TokR_s RdS_id (CdF_nx f2) r1
  have z42 : XF Z2 12 0 42 = t := by have := pn2.2.1.1; omega
  have sg := r_isSign (f0 := f0) (Y := Y) g W2 c r2 (s := 41) (by unfold tS; omega)
  have bd : fX12_bad f0 (Ad Y 12 0) (iI 1) (hp Y Z2) = some (0, hp Y (rfR Z2 1)) := r_bad g
  have d43 : XF Z2 12 0 43 = XF Z 12 0 43 - k := by omega
  refine ⟨Z2, W2, f12, pn2, d43, r2, fun q => ?_, fun q t0 => ?_⟩
  · by_cases a : XF X 4 0 5 = 41
    · have b : t = 0 := by omega
      simp (disch := first | assumption | omega) only [fX12_behind, bX12_behind_114, g_12_42, g_12_43, p_12_42, p_12_43, k_12, li_0, li_22, li_41, li_1, ob2, iI_sub, Option.bind_some, iI_add, e1, rw_17 g W1 c r1 rs, rw_16 g W1 c r1 rs, bI_i0, ite_n, if_neg n17, if_neg n16, li_22, e2, li_41, sg, if_pos a, z42, iI_eq, if_pos b, bd]
      exact zr_i0
    · simp (disch := first | assumption | omega) only [fX12_behind, bX12_behind_114, g_12_42, g_12_43, p_12_42, p_12_43, k_12, li_0, li_22, li_41, li_1, ob2, iI_sub, Option.bind_some, iI_add, e1, rw_17 g W1 c r1 rs, rw_16 g W1 c r1 rs, bI_i0, ite_n, if_neg n17, if_neg n16, li_22, e2, li_41, sg, if_neg a, bd]
      exact zr_i0
  · have b : ¬ t = 0 := by omega
    have y43 : ∀ v, XF (sF Z2 12 0 42 v) 12 0 43 = XF Z 12 0 43 - k := fun v => d43
    simp (disch := first | assumption | omega) only [fX12_behind, g_12_42, g_12_43, p_12_42, p_12_43, k_12, li_0, li_22, li_41, li_1, ob2, iI_sub, Option.bind_some, iI_add, e1, rw_17 g W1 c r1 rs, rw_16 g W1 c r1 rs, bI_i0, ite_n, if_neg n17, if_neg n16, li_22, e2, li_41, sg, if_pos q, z42, iI_eq, if_neg b, iI_sub, y43]
def jnZ (Z : XS) (t c : Int) : XS := sF (sF (sR Z 77 0 (upi (XR Z 77 0) t c)) 12 0 42 (t + 1)) 12 0 44 0
theorem be_j {f0 : Nat} {Y : YS} {X Z : XS} (g : GY Y) (W : WF Z) (c : TokC X) (r : TokR X Z) (rs : RsC X) {t i j k v : Int} (pn : PenR X Z t i j k) (hv : v = 22 ∧ XF X 4 0 8 = 16 ∧ (t = 0 ∨ XR Z 77 0 (t - 1) = 23) ∨ v = 21 ∧ XF X 4 0 8 = 17 ∧ i = 0 ∧ (t = 0 ∨ XR Z 77 0 (t - 1) ≠ 20 ∧ XR Z 77 0 (t - 1) ≠ 21)) (hd : k ≤ XF Z 12 0 43 ∧ XF Z 12 0 43 ≤ 100) (hf : 20 ≤ f0) : ∃ Z2, WF Z2 ∧ CdF Z Z2 ∧ PenR X Z2 t 0 0 0 ∧ XF Z2 12 0 43 = XF Z 12 0 43 - k ∧ TokR X Z2 ∧ fX12_behind f0 (Ad Y 12 0) (hp Y Z) = (fX12_next f0 (Ad Y 12 0) (hp Y (jnZ Z2 t v))).bind fun h => zr 1 h := by
  have p1 := pn.1
  obtain ⟨Z1, e1, W1, f1, pn1, d1⟩ := r_nots (f0 := f0) (Y := Y) g W pn (by
    rcases hv with ⟨_, _, w | w⟩ | ⟨_, _, _, w | w⟩
    · exact .inr (.inr (.inl w))
    · exact .inr (.inr (.inr (by omega)))
    · exact .inr (.inr (.inl w))
    · exact .inr (.inr (.inr w.1))) (by omega) hf
  have r1 := TokR_s RdS_id (CdF_nx f1) r
  obtain ⟨Z2, e2, W2, f2, pn2, d2⟩ := r_joins (f0 := f0) (Y := Y) g W1 (v := v) (by omega) pn1 (by
    rw [f1.2.1 77 0 (by omega)]
    rcases hv with ⟨v1, _, w | w⟩ | ⟨v1, _, _, w | w⟩
    · exact .inl w
    · exact .inr ⟨by omega, fun q => by omega⟩
    · exact .inl w
    · exact .inr ⟨w.2, fun q => v1⟩) hf
  have f12 := CdF_trans f1 f2
  have r2 := TokR_s RdS_id (CdF_nx f2) r1
  have z42 : XF Z2 12 0 42 = t := by have := pn2.2.1.1; omega
  have y42 : ∀ r, XF (sR Z2 77 0 r) 12 0 42 = t := fun _ => z42
  refine ⟨Z2, W2, f12, pn2, by omega, r2, ?_⟩
  unfold jnZ
  rcases hv with ⟨v1, k16, _⟩ | ⟨v1, k17, _⟩
  · subst v1
    have n17 : ¬ XF X 4 0 8 = 17 := by omega
    simp (disch := first | assumption | omega) only [fX12_behind, bX12_behind_24, bX12_behind_42, bX12_behind_70, g_12_42, g_12_43, p_12_42, p_12_43, k_12, li_0, li_22, li_41, li_1, ob2, iI_sub, li_21, g_12_39, z_12_44, iI_add, Option.bind_some, s_77, li_21, li_22, e1, rw_17 g W1 c r1 rs, rw_16 g W1 c r1 rs, rw_17 g W2 c r2 rs, bI_i0, ite_n, if_neg n17, if_pos k16, e2, z42, y42]
  · subst v1
    simp (disch := first | assumption | omega) only [fX12_behind, bX12_behind_24, bX12_behind_42, bX12_behind_70, g_12_42, g_12_43, p_12_42, p_12_43, k_12, li_0, li_22, li_41, li_1, ob2, iI_sub, li_21, g_12_39, z_12_44, iI_add, Option.bind_some, s_77, li_21, li_22, e1, rw_17 g W1 c r1 rs, rw_17 g W2 c r2 rs, bI_i0, ite_n, if_pos k17, e2, z42, y42]
