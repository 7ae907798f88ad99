/-! A SENTENCE IS READ: what waits is written -/
theorem PenR_cg {X Z Z' : XS} {t i j k : Int} (h : PenR X Z t i j k) (e40 : XF Z' 12 0 40 = XF Z 12 0 40) (e41 : XF Z' 12 0 41 = XF Z 12 0 41) (e42 : XF Z' 12 0 42 = XF Z 12 0 42) (e63 : XR Z' 63 0 = XR Z 63 0) (e77 : XR Z' 77 0 = XR Z 77 0) : PenR X Z' t i j k := by
  unfold PenR at *
  rw [e40, e41, e42, e63, e77]
  exact h
def CdF (Z Z' : XS) : Prop := (∀ s k f, ¬ (s = 12 ∧ k = 0 ∧ (f = 40 ∨ f = 42 ∨ f = 43)) → XF Z' s k f = XF Z s k f) ∧ (∀ s k, ¬ (s = 63 ∧ k = 0) → XR Z' s k = XR Z s k) ∧ XJ Z' = XJ Z ∧ XP Z' = XP Z ∧ XM Z' = XM Z
theorem CdF_refl {Z : XS} : CdF Z Z := ⟨fun _ _ _ _ => rfl, fun _ _ _ => rfl, rfl, rfl, rfl⟩
theorem CdF_trans {Z Z1 Z2 : XS} (h : CdF Z Z1) (h' : CdF Z1 Z2) : CdF Z Z2 := ⟨fun s k f q => (h'.1 s k f q).trans (h.1 s k f q), fun s k q => (h'.2.1 s k q).trans (h.2.1 s k q), h'.2.2.1.trans h.2.2.1, h'.2.2.2.1.trans h.2.2.2.1, h'.2.2.2.2.trans h.2.2.2.2⟩
theorem CdF_F {Z Z' : XS} (h : CdF Z Z') {f : Nat} {v : Int} (c : f = 40 ∨ f = 42 ∨ f = 43) : CdF Z (sF Z' 12 0 f v) := by
  refine ⟨fun s' k' f' q => ?_, h.2.1, h.2.2⟩
  rw [XF_sF, if_neg (fun z => q ⟨z.1, z.2.1, by rw [z.2.2]; exact c⟩)]
  exact h.1 s' k' f' q
theorem CdF_R {Z Z' : XS} (h : CdF Z Z') {r : Int → Int} : CdF Z (sR Z' 63 0 r) := by
  refine ⟨h.1, fun s' k' q => ?_, h.2.2⟩
  rw [XR_sR, if_neg q]
  exact h.2.1 s' k' q
theorem CdF_cd {Z Z' : XS} (h : CdF Z Z') {a b c : Int} : CdF Z (cdZ Z' a b c) := CdF_F (CdF_R h) (by omega)
theorem WF_cd {Z : XS} (W : WF Z) {a b c : Int} (ha : Rg a) (hb : Rg b) (hc : Rg c) (m0 : 0 ≤ XF Z 12 0 40) (m1 : XF Z 12 0 40 < 45) : WF (cdZ Z a b c) := by
  unfold cdZ
  refine W_F (W_R W fun i => ?_) (by omega) (by omega)
  simp only [upi_at]
  split
  · exact hc
  · split
    · exact hb
    · split
      · exact ha
      · exact W.2 63 0 i
theorem r_nots {f0 : Nat} {Y : YS} {X Z0 : XS} (g : GY Y) (W0 : WF Z0) {t i j k0 : Int} (h0 : PenR X Z0 t i j k0) (hb : i = 1 ∨ j = 1 ∨ t = 0 ∨ XR Z0 77 0 (t - 1) ≠ 20) (hd : 0 ≤ XF Z0 12 0 43 ∧ XF Z0 12 0 43 ≤ 100) (hf : 20 ≤ f0) : ∃ Z', fX12_nots f0 (Ad Y 12 0) (hp Y Z0) = some (hp Y Z') ∧ WF Z' ∧ CdF Z0 Z' ∧ PenR X Z' t i j 0 ∧ XF Z' 12 0 43 = XF Z0 12 0 43 - k0 := by
  have st : fX12_nots f0 (Ad Y 12 0) (hp Y Z0) = bX12_nots_0 f0 f0 (Ad Y 12 0) (hp Y Z0) := rfl
  rw [st]
  refine lp (fun f (s : XS × Int) => bX12_nots_0 f0 f (Ad Y 12 0) (hp Y s.1)) (fun s => WF s.1 ∧ CdF Z0 s.1 ∧ PenR X s.1 t i j s.2 ∧ XF s.1 12 0 43 = XF Z0 12 0 43 - k0 + s.2) (fun s => s.2.toNat) (fun r => ∃ Z', r = some (hp Y Z') ∧ WF Z' ∧ CdF Z0 Z' ∧ PenR X Z' t i j 0 ∧ XF Z' 12 0 43 = XF Z0 12 0 43 - k0) ?_ f0 (Z0, k0) ⟨W0, CdF_refl, h0, by simp only; omega⟩ (by have := h0.1; simp only; omega)
  rintro f ⟨Z, k⟩ ⟨W, fr, h, e43⟩
  simp only at W fr h e43 ⊢
  have hk := h
  obtain ⟨h1, h2, h3, h4, h5, h6⟩ := hk
  have h01 := h0.1
  have e77 : XR Z 77 0 = XR Z0 77 0 := fr.2.1 77 0 (by omega)
  by_cases c : k = 0
  · left
    subst c
    refine ⟨Z, ?_, W, fr, h, by omega⟩
    by_cases e : XF Z 12 0 42 ≤ 0
    · simp (disch := first | assumption | omega | exact W_fl W _ _ _ | exact W_fh W _ _ _ | exact W_rl W _ _ _ | exact W_rh W _ _ _) only [bX12_nots_0, g_12_42, g_12_39, g_12_43, p_12_42, p_12_43, k_12, l_77, li_0, li_1, li_20, iI_add, iI_sub, Option.bind_some, iI_le, if_pos e]
    · have e20 : ¬ XR Z 77 0 (XF Z 12 0 42 - 1) = 20 := by
        by_cases q : i = 1 ∨ j = 1
        · rw [h6 (XF Z 12 0 42 - 1) (by omega) (by omega)]
          (repeat' split) <;> omega
        · rw [show XF Z 12 0 42 - 1 = t - 1 by omega, e77]
          rcases hb with w | w | w | w
          · omega
          · omega
          · omega
          · exact w
      simp (disch := first | assumption | omega | exact W_fl W _ _ _ | exact W_fh W _ _ _ | exact W_rl W _ _ _ | exact W_rh W _ _ _) only [bX12_nots_0, g_12_42, g_12_39, g_12_43, p_12_42, p_12_43, k_12, l_77, li_0, li_1, li_20, iI_add, iI_sub, Option.bind_some, iI_le, if_neg e, iI_sub, iI_eq, if_neg e20]
  · right
    have e : ¬ XF Z 12 0 42 ≤ 0 := by omega
    have e20 : XR Z 77 0 (XF Z 12 0 42 - 1) = 20 := by
      rw [h6 (XF Z 12 0 42 - 1) (by omega) (by omega), if_neg (by omega), if_neg (by omega)]
    have s18 : XR X 36 1 (XF Z 12 0 40) = 18 := by
      rw [(h5 (XF Z 12 0 40) (by omega) (by omega)).2.2, if_pos (by omega)]
    obtain ⟨Z1, hZ1⟩ : ∃ Z1, Z1 = sF (sF Z 12 0 42 (XF Z 12 0 42 - 1)) 12 0 43 (XF Z 12 0 43 - 1) := ⟨_, rfl⟩
    have z40 : XF Z1 12 0 40 = XF Z 12 0 40 := by rw [hZ1]; rfl
    have W1 : WF Z1 := by rw [hZ1]; exact W_F (W_F W (by omega) (by omega)) (by omega) (by omega)
    have cd := r_code (f0 := f0) (Y := Y) (Z := Z1) g (a := 20) (b := 0) (c := 0) (by omega) (by omega)
    have y43 : ∀ v, XF (sF Z 12 0 42 v) 12 0 43 = XF Z 12 0 43 := fun _ => rfl
    refine ⟨(cdZ Z1 20 0 0, k - 1), ?_, ⟨WF_cd W1 ⟨by decide, by decide⟩ ⟨by decide, by decide⟩ ⟨by decide, by decide⟩ (by omega) (by omega), ?_, ?_, ?_⟩, by simp only; omega⟩
    · simp only
      simp (disch := first | assumption | omega | exact W_fl W _ _ _ | exact W_fh W _ _ _ | exact W_rl W _ _ _ | exact W_rh W _ _ _) only [bX12_nots_0, g_12_42, g_12_39, g_12_43, p_12_42, p_12_43, k_12, l_77, li_0, li_1, li_20, iI_add, iI_sub, Option.bind_some, iI_le, if_neg e, iI_sub, iI_eq, e20, if_true, y43, ← hZ1, li_20, cd]
    · refine CdF_cd ?_
      rw [hZ1]; exact CdF_F (CdF_F fr (by omega)) (by omega)
    · refine PenR_cg (PenR_pp (i' := i) (j' := j) (k' := k - 1) h s18 (.inl ⟨rfl, by omega, rfl, rfl, rfl⟩)) ?_ ?_ ?_ ?_ ?_ <;> (rw [hZ1]; rfl)
    · show XF (cdZ Z1 20 0 0) 12 0 43 = _
      have : XF (cdZ Z1 20 0 0) 12 0 43 = XF Z 12 0 43 - 1 := by rw [hZ1]; rfl
      rw [this]; simp only; omega
theorem r_joins {f0 : Nat} {Y : YS} {X Z0 : XS} (g : GY Y) (W0 : WF Z0) {t i0 j0 v : Int} (hv : v = 22 ∨ v = 21 ∧ i0 = 0) (h0 : PenR X Z0 t i0 j0 0) (hb : t = 0 ∨ XR Z0 77 0 (t - 1) ≠ 21 ∧ (XR Z0 77 0 (t - 1) = 22 → v = 21)) (hf : 20 ≤ f0) : ∃ Z', fX12_joins f0 (Ad Y 12 0) (iI v) (hp Y Z0) = some (hp Y Z') ∧ WF Z' ∧ CdF Z0 Z' ∧ PenR X Z' t 0 0 0 ∧ XF Z' 12 0 43 = XF Z0 12 0 43 := by
  have st : fX12_joins f0 (Ad Y 12 0) (iI v) (hp Y Z0) = bX12_joins_0 f0 f0 (Ad Y 12 0) (iI v) (hp Y Z0) := rfl
  rw [st]
  refine lp (fun f (s : XS × Int × Int) => bX12_joins_0 f0 f (Ad Y 12 0) (iI v) (hp Y s.1)) (fun s => WF s.1 ∧ CdF Z0 s.1 ∧ PenR X s.1 t s.2.1 s.2.2 0 ∧ (v = 22 ∨ s.2.1 = 0) ∧ XF s.1 12 0 43 = XF Z0 12 0 43) (fun s => (s.2.1 + s.2.2).toNat) (fun r => ∃ Z', r = some (hp Y Z') ∧ WF Z' ∧ CdF Z0 Z' ∧ PenR X Z' t 0 0 0 ∧ XF Z' 12 0 43 = XF Z0 12 0 43) ?_ f0 (Z0, i0, j0) ⟨W0, CdF_refl, h0, by simp only; omega, rfl⟩ (by have := h0.1; simp only; omega)
  rintro f ⟨Z, i, j⟩ ⟨W, fr, h, hi, e43⟩
  simp only at W fr h hi e43 ⊢
  have hk := h
  obtain ⟨h1, h2, h3, h4, h5, h6⟩ := hk
  have h01 := h0.1
  have e77 : XR Z 77 0 = XR Z0 77 0 := fr.2.1 77 0 (by omega)
  by_cases c : i = 0 ∧ j = 0
  · left
    obtain ⟨c1, c2⟩ := c
    subst c1; subst c2
    refine ⟨Z, ?_, W, fr, h, e43⟩
    by_cases e : XF Z 12 0 42 ≤ 0
    · simp (disch := first | assumption | omega | exact W_fl W _ _ _ | exact W_fh W _ _ _ | exact W_rl W _ _ _ | exact W_rh W _ _ _) only [bX12_joins_0, g_12_42, g_12_39, l_77, li_0, li_1, li_21, li_22, iI_add, iI_sub, Option.bind_some, iI_le, if_pos e]
    · have et : XF Z 12 0 42 - 1 = t - 1 := by omega
      have hb' : XR Z 77 0 (t - 1) ≠ 21 ∧ (XR Z 77 0 (t - 1) = 22 → v = 21) := by
        rw [e77]
        rcases hb with w | w
        · omega
        · exact w
      have n1 : ¬ XR Z 77 0 (t - 1) = 21 := hb'.1
      by_cases n2 : XR Z 77 0 (t - 1) = 22
      · have n3 : ¬ v = 22 := by have := hb'.2 n2; omega
        simp (disch := first | assumption | omega | exact W_fl W _ _ _ | exact W_fh W _ _ _ | exact W_rl W _ _ _ | exact W_rh W _ _ _) only [bX12_joins_0, g_12_42, g_12_39, l_77, li_0, li_1, li_21, li_22, iI_add, iI_sub, Option.bind_some, iI_le, if_neg e, iI_sub, et, iI_eq, if_neg n1, if_pos n2, if_neg n3]
      · simp (disch := first | assumption | omega | exact W_fl W _ _ _ | exact W_fh W _ _ _ | exact W_rl W _ _ _ | exact W_rh W _ _ _) only [bX12_joins_0, g_12_42, g_12_39, l_77, li_0, li_1, li_21, li_22, iI_add, iI_sub, Option.bind_some, iI_le, if_neg e, iI_sub, et, iI_eq, if_neg n1, if_neg n2]
  · right
    have e : ¬ XF Z 12 0 42 ≤ 0 := by omega
    obtain ⟨Z1, hZ1⟩ : ∃ Z1, Z1 = sF Z 12 0 42 (XF Z 12 0 42 - 1) := ⟨_, rfl⟩
    have z40 : XF Z1 12 0 40 = XF Z 12 0 40 := by rw [hZ1]; rfl
    have z42 : XF Z1 12 0 42 = XF Z 12 0 42 - 1 := by rw [hZ1]; rfl
    have z77 : XR Z1 77 0 = XR Z 77 0 := by rw [hZ1]; rfl
    have W1 : WF Z1 := by rw [hZ1]; exact W_F W (by omega) (by omega)
    by_cases cj : j = 1
    · have e21 : XR Z 77 0 (XF Z 12 0 42 - 1) = 21 := by
        rw [h6 (XF Z 12 0 42 - 1) (by omega) (by omega), if_neg (by omega), if_pos (by omega)]
      have s17 : XR X 36 1 (XF Z 12 0 40) = 17 := by
        rw [(h5 (XF Z 12 0 40) (by omega) (by omega)).2.2, if_neg (by omega), if_pos (by omega)]
      have cd := r_code (f0 := f0) (Y := Y) (Z := Z1) g (a := 21) (b := 0) (c := 0) (by omega) (by omega)
      refine ⟨(cdZ Z1 21 0 0, i, 0), ?_, ⟨WF_cd W1 ⟨by decide, by decide⟩ ⟨by decide, by decide⟩ ⟨by decide, by decide⟩ (by omega) (by omega), ?_, ?_, hi, ?_⟩, by simp only; omega⟩
      · simp (disch := first | assumption | omega | exact W_fl W _ _ _ | exact W_fh W _ _ _ | exact W_rl W _ _ _ | exact W_rh W _ _ _) only [bX12_joins_0, bX12_joins_45, g_12_42, g_12_39, l_77, li_0, li_1, li_21, li_22, iI_add, iI_sub, p_12_42, k_12, Option.bind_some, iI_le, if_neg e, iI_sub, iI_eq, e21, if_true, ← hZ1, z42, z77, cd]
      · refine CdF_cd ?_
        rw [hZ1]; exact CdF_F fr (by omega)
      · refine PenR_cg (PenR_pp (i' := i) (j' := 0) (k' := 0) h s17 (.inr (.inl ⟨rfl, rfl, cj, rfl, rfl, rfl⟩))) ?_ ?_ ?_ ?_ ?_ <;> (rw [hZ1]; rfl)
      · show XF (cdZ Z1 21 0 0) 12 0 43 = _
        have : XF (cdZ Z1 21 0 0) 12 0 43 = XF Z 12 0 43 := by rw [hZ1]; rfl
        rw [this]; exact e43
    · have cj0 : j = 0 := by omega
      have ci : i = 1 := by omega
      have v22 : v = 22 := by omega
      have e22 : XR Z 77 0 (XF Z 12 0 42 - 1) = 22 := by
        rw [h6 (XF Z 12 0 42 - 1) (by omega) (by omega), if_pos (by omega)]
      have s16 : XR X 36 1 (XF Z 12 0 40) = 16 := by
        rw [(h5 (XF Z 12 0 40) (by omega) (by omega)).2.2, if_neg (by omega), if_neg (by omega)]
      have cd := r_code (f0 := f0) (Y := Y) (Z := Z1) g (a := 22) (b := 0) (c := 0) (by omega) (by omega)
      refine ⟨(cdZ Z1 22 0 0, 0, 0), ?_, ⟨WF_cd W1 ⟨by decide, by decide⟩ ⟨by decide, by decide⟩ ⟨by decide, by decide⟩ (by omega) (by omega), ?_, ?_, .inr rfl, ?_⟩, by simp only; omega⟩
      · simp (disch := first | assumption | omega | exact W_fl W _ _ _ | exact W_fh W _ _ _ | exact W_rl W _ _ _ | exact W_rh W _ _ _) only [bX12_joins_0, bX12_joins_45, g_12_42, g_12_39, l_77, li_0, li_1, li_21, li_22, iI_add, iI_sub, p_12_42, k_12, Option.bind_some, iI_le, if_neg e, iI_sub, iI_eq, e22, Int.reduceEq, if_true, if_false, if_pos v22, ← hZ1, z42, z77, cd]
      · refine CdF_cd ?_
        rw [hZ1]; exact CdF_F fr (by omega)
      · refine PenR_cg (PenR_pp (i' := 0) (j' := 0) (k' := 0) h s16 (.inr (.inr ⟨rfl, rfl, cj0, ci, rfl, rfl, rfl⟩))) ?_ ?_ ?_ ?_ ?_ <;> (rw [hZ1]; rfl)
      · show XF (cdZ Z1 22 0 0) 12 0 43 = _
        have : XF (cdZ Z1 22 0 0) 12 0 43 = XF Z 12 0 43 := by rw [hZ1]; rfl
        rw [this]; exact e43
