/-! A SENTENCE IS READ: a plain condition with a number -/
theorem tk_5 {X Z : XS} (c : TokC X) (r : TokR X Z) : (XF Z 12 0 11 = 3 ∧ 60 ≤ XF Z 12 0 14 ∧ XF Z 12 0 14 ≤ 62) ↔ (60 ≤ XF X 4 0 5 ∧ XF X 4 0 5 ≤ 62) := by
  have so := so_rg c
  obtain ⟨tb, t12, t0, t4, t1, t2, t3, tsg⟩ := r
  constructor
  · intro w
    rcases c.2.2.2.2 with k | k | k | k | k
    · have := t0 k.1; have := tb.2.2; have := c.1.2; omega
    · have := (t1 k.1).1; omega
    · have := (t2 k.1).1; omega
    · have := t3 k.1; omega
    · have := tsg k.1; omega
  · intro w
    have := tsg (by unfold tS; omega)
    omega
theorem tk_11 {X Z : XS} (c : TokC X) (r : TokR X Z) : XF Z 12 0 11 = 2 ↔ XF X 4 0 5 = 2 := by rw [tk_2 c r]
theorem pl_v {f0 : Nat} {Y : YS} {X : XS} {S : Int → Int} (g : GY Y) (W : WF X) (c : TokC X) (ds : DSn X S) (rm : XF X 8 1 3 + hgX X + 2 ≤ 2 * XF X 9 0 3) {q : Int} (q0 : 24 ≤ q) (q1 : q ≤ 26) (hf : 2000 ≤ f0) : ∃ b X', fX9_readPlain f0 (Ad Y 9 0) (iI q) (hp Y X) = some (b, hp Y X') ∧ WF X' ∧ FrC X X' ∧ ((b = 0 ∧ PlF f0 Y X X' S q) ∨ (b = 1 ∧ PlT f0 Y X X' S q)) := by
  have so := so_rg c
  have n1 : ¬ q = 22 := by omega
  have n2 : ¬ q = 23 := by omega
  have n3 : ¬ q < 24 := by omega
  have n4 : 3 ≤ q - 19 := by omega
  have n5 : 5 ≤ q - 19 := by omega
  have zz : ∀ Z, pfZ 12 44 (hp Y Z) (Ad Y 12 0) (iI 1) = some (hp Y (sF Z 12 0 44 1)) := fun Z => z_12_44 g (.inr rfl)
  have sz : ∀ Z, NxS Z (sF Z 12 0 44 1) := fun Z => ⟨fun f hf => by rcases hf with e | e | e | e | e | e <;> subst e <;> rfl, rfl, rfl⟩
  have tz : ∀ Z, TxO Z (sF Z 12 0 44 1) := fun Z => TxO_F TxO_refl (by omega)
  have y11 : ∀ Z, XF (sF Z 12 0 44 1) 12 0 11 = XF Z 12 0 11 := fun Z => rfl
  have y14 : ∀ Z, XF (sF Z 12 0 44 1) 12 0 14 = XF Z 12 0 14 := fun Z => rfl
  by_cases a : 60 ≤ XF X 4 0 5 ∧ XF X 4 0 5 ≤ 62
  · obtain ⟨X1, e1, r1, W1, t1, lt, k1⟩ := j_step (f0 := f0) g W c (by omega) hf
    have cl1 : fX9_readPlain f0 (Ad Y 9 0) (iI q) (hp Y X) = bX9_readPlain_89 f0 (Ad Y 9 0) (iI q) (iI (XF X 4 0 5)) (hp Y X) := by
      by_cases a0 : XF X 4 0 5 = 60
      · simp (disch := first | assumption | omega) only [fX9_readPlain, g_9_0, g_9_1, g_4_5, k_4, li_22, li_3, li_0, li_23, li_24, li_60, li_61, li_62, li_1, ob2, Option.bind_some, iI_add, iI_eq, if_neg n1, if_neg n2, iI_lt, if_neg n3, if_pos a0]
      · by_cases a1 : XF X 4 0 5 = 61
        · simp (disch := first | assumption | omega) only [fX9_readPlain, g_9_0, g_9_1, g_4_5, k_4, li_22, li_3, li_0, li_23, li_24, li_60, li_61, li_62, li_1, ob2, Option.bind_some, iI_add, iI_eq, if_neg n1, if_neg n2, iI_lt, if_neg n3, if_neg a0, if_pos a1]
        · have a2 : XF X 4 0 5 = 62 := by omega
          simp (disch := first | assumption | omega) only [fX9_readPlain, g_9_0, g_9_1, g_4_5, k_4, li_22, li_3, li_0, li_23, li_24, li_60, li_61, li_62, li_1, ob2, Option.bind_some, iI_add, iI_eq, if_neg n1, if_neg n2, iI_lt, if_neg n3, if_neg a0, if_neg a1, if_pos a2]
    obtain ⟨v, X2, e2, hh⟩ := j_num (f0 := f0) (Y := Y) g W1 t1 (lo := 0) (hi := 999) (by omega) (by omega) (by omega)
    have cl : fX9_readPlain f0 (Ad Y 9 0) (iI q) (hp Y X) = bX9_readPlain_108 f0 (Ad Y 9 0) (iI q) (iI (XF X 4 0 5)) (iI v) (hp Y X2) := by
      rw [cl1]
      simp (disch := first | assumption | omega) only [bX9_readPlain_89, g_9_0, k_4, li_0, li_999, ob2, Option.bind_some, iI_add, e1, e2]
    rw [cl]
    have opn : ∀ Z Z1, TokR X Z → fX12_next f0 (Ad Y 12 0) (hp Y (sF Z 12 0 44 1)) = some (hp Y Z1) → WF Z1 → opl f0 (Ad Y 12 0) (iI (q - 19)) (hp Y Z) = if XF Z1 12 0 11 = 2 then (fX12_code f0 (Ad Y 12 0) (iI (q - 19)) (iI (XF X 4 0 5)) (iI (XF Z1 12 0 14)) (hp Y Z1)).bind fun h265 => (ckO 12 h265 (Ad Y 12 0)).bind fun _ => (fX12_next f0 (Ad Y 12 0) h265).bind fun h269 => zr 1 h269 else some (0, hp Y (rfR Z1 1)) := fun Z Z1 r ex WZ1 => by
      have b := (tk_5 c r).mpr a
      have b1 := b.1
      have b2 : ¬ XF Z 12 0 14 < 60 := by omega
      have b3 := b.2.2
      have b4 : XF Z 12 0 14 = XF X 4 0 5 := by have := r.2.2.2.2.2.2.2 (by unfold tS; omega); exact this.2
      have w1 := W_fl WZ1 12 0 11; have w2 := W_fh WZ1 12 0 11
      rw [b4] at b2 b3
      have bd : fX12_bad f0 (Ad Y 12 0) (iI 1) (hp Y Z1) = some (0, hp Y (rfR Z1 1)) := r_bad g
      by_cases d : XF Z1 12 0 11 = 2
      · rw [if_pos d]
        simp (disch := first | assumption | omega) only [opl, bX12_operand_38, g_12_41, g_12_43, g_12_11, g_12_14, p_12_41, z_12_44, k_12, li_20, li_8, li_1, li_0, li_3, li_5, li_60, li_62, li_2, ob2, iI_add, Option.bind_some, zz, iI_le, if_pos n4, if_pos n5, y11, y14, b1, b4, iI_eq, if_true, iI_lt, if_neg b2, if_pos b3, ex, if_pos d]
      · rw [if_neg d]
        simp (disch := first | assumption | omega) only [opl, bX12_operand_38, g_12_41, g_12_43, g_12_11, g_12_14, p_12_41, z_12_44, k_12, li_20, li_8, li_1, li_0, li_3, li_5, li_60, li_62, li_2, ob2, iI_add, Option.bind_some, zz, iI_le, if_pos n4, if_pos n5, y11, y14, b1, b4, iI_eq, if_true, iI_lt, if_neg b2, if_pos b3, ex, if_neg d, bd]
        exact zr_i0
    rcases hh with ⟨v1, W2, fr, fa, f1, f2, kk⟩ | ⟨v0, eX, k5, k9, kk⟩
    · have n2' : XF X1 4 0 5 ≠ 2 := fun w => by
        have := (f1 w).1
        have vr : 0 ≤ XF X1 4 0 9 ∧ XF X1 4 0 9 ≤ 999 := by
          rcases t1.2.2.2.2 with k | k | k | k | k
          · omega
          · omega
          · exact k.2.2
          · omega
          · have := k.1; omega
        omega
      have eX2 := f2 n2'
      subst v1
      refine ⟨0, X2, ?_, W2, FrC_trans (FrC_rd r1) fr, .inl ⟨rfl, fa, fun Z t WZ r kz p => ?_⟩⟩
      · simp (disch := first | assumption | omega) only [bX9_readPlain_108, g_9_0, k_4, lm_1, li_1, li_0, li_22, Option.bind_some, iI_add, iI_neg, iI_neg, iI_eq, if_true]
        exact zr_i0
      · have Wz : WF (sF Z 12 0 44 1) := W_F WZ (by decide) (by decide)
        obtain ⟨Z1, l1, l2, l3, l4⟩ := k1 _ Wz (TokR_s RdS_id (sz Z) r)
        have rr := rf_R l3 t1 l4 (k := 1) (by omega) (by omega)
        refine ⟨rfR Z1 1, ?_, rr.1, TxOE (TxO_nx (tz Z) l2) (TxE_R rr.2.1), by rw [eX2]; exact rr.2.2⟩
        rw [opn Z Z1 r l1 l3, if_neg (fun w => n2' ((tk_11 t1 l4).mp w))]
    · obtain rfl : X1 = X2 := eX.symm
      have ds1 := DSn_x r1 ds
      have hx := hgX_x r1
      have m1 := r1.1 8 1 3 (by omega)
      have o1 := r1.1 9 0 3 (by omega)
      obtain ⟨X3, e3, W3, f3, t3, ds3, h3, mm3, o3, z3, p3, k3⟩ := pl_put (f0 := f0) (Y := Y) (S := S) g W1 t1 (by omega) ds1 (by omega) (q := q) (b := XF X 4 0 5) (v := v) (by omega) (by omega) ⟨by omega, by omega⟩ v0 ⟨fun w => by omega, fun w => by omega, fun w => ⟨a, v0⟩⟩ hf
      refine ⟨1, X3, e3, W3, FrC_trans (FrC_rd r1) f3, .inr ⟨rfl, t3, ds3, by omega, by omega, by omega, by rw [z3]; exact r1.1 4 0 10 (by omega), by omega, fun Z t WZ r kz p => ?_⟩⟩
      have Wz : WF (sF Z 12 0 44 1) := W_F WZ (by decide) (by decide)
      obtain ⟨Z1, l1, l2, l3, l4⟩ := k1 _ Wz (TokR_s RdS_id (sz Z) r)
      have pz : PenR X Z1 t 0 0 0 := PenR_nx l2 (PenR_cg p rfl rfl rfl rfl rfl)
      obtain ⟨Z', u1, u2, u3, u4, u5, u6, u7, u8⟩ := k3 Z1 t l3 l4 (PenR_x r1 pz)
      have q3 := pz.2.2.1; have q2 := pz.2.1
      have cd := r_code (f0 := f0) (Y := Y) (Z := Z1) g (a := q - 19) (b := XF X 4 0 5) (c := v) (by omega) (by omega)
      refine ⟨Z', ?_, u2, TxO_trans (TxO_nx (tz Z) l2) u3, u4, u5, by rw [u6, l2.1 12 0 43 (by omega)]; rfl, by rw [u7, l2.1 12 0 44 (by omega)]; rfl, by rw [u8, l2.2.1]; rfl⟩
      have v14 : XF Z1 12 0 14 = v := by rw [(l4.2.2.2.2.2.1 k5).2]; exact k9
      rw [opn Z Z1 r l1 l3, if_pos ((tk_11 t1 l4).mpr k5), v14]
      simp (disch := first | assumption | omega) only [cd, Option.bind_some, k_12 g, u1]
      exact zr_i1
  · have rc := rf_C W c (k := 1) (by omega) (by omega)
    have a0 : ¬ XF X 4 0 5 = 60 := by omega
    have a1 : ¬ XF X 4 0 5 = 61 := by omega
    have a2 : ¬ XF X 4 0 5 = 62 := by omega
    have rfe : fX4_refuse f0 (Ad Y 4 0) (iI 1) (hp Y X) = some (0, hp Y (rfC X 1)) := e_refuse g
    refine ⟨0, rfC X 1, ?_, rc.1, rc.2.1, .inl ⟨rfl, rc.2.2, fun Z t WZ r kz p => ?_⟩⟩
    · simp (disch := first | assumption | omega) only [fX9_readPlain, g_9_0, g_9_1, g_4_5, k_4, li_22, li_3, li_0, li_23, li_24, li_60, li_61, li_62, li_1, ob2, Option.bind_some, iI_add, iI_eq, if_neg n1, if_neg n2, iI_lt, if_neg n3, if_neg a0, if_neg a1, if_neg a2, rfe]
      exact zr_i0
    · have Wz : WF (sF Z 12 0 44 1) := W_F WZ (by decide) (by decide)
      have rr := rf_R Wz c (TokR_s RdS_id (sz Z) r) (k := 1) (by omega) (by omega)
      refine ⟨rfR (sF Z 12 0 44 1) 1, ?_, rr.1, TxOE (tz Z) (TxE_R rr.2.1), rr.2.2⟩
      have bd : fX12_bad f0 (Ad Y 12 0) (iI 1) (hp Y (sF Z 12 0 44 1)) = some (0, hp Y (rfR (sF Z 12 0 44 1) 1)) := r_bad g
      have w1 := W_fl WZ 12 0 11; have w2 := W_fh WZ 12 0 11; have w3 := W_fl WZ 12 0 14; have w4 := W_fh WZ 12 0 14
      have nb : ¬ (XF Z 12 0 11 = 3 ∧ 60 ≤ XF Z 12 0 14 ∧ XF Z 12 0 14 ≤ 62) := fun w => a ((tk_5 c r).mp w)
      by_cases b1 : XF Z 12 0 11 = 3
      · by_cases b2 : XF Z 12 0 14 < 60
        · simp (disch := first | assumption | omega) only [opl, bX12_operand_38, bX12_operand_227, g_12_41, g_12_43, g_12_11, g_12_14, p_12_41, z_12_44, k_12, li_20, li_8, li_1, li_0, li_3, li_5, li_60, li_62, li_2, ob2, iI_add, Option.bind_some, zz, iI_le, if_pos n4, if_pos n5, y11, y14, b1, iI_eq, if_true, iI_lt, if_pos b2, bd]
          exact zr_i0
        · have b3 : ¬ XF Z 12 0 14 ≤ 62 := by omega
          simp (disch := first | assumption | omega) only [opl, bX12_operand_38, bX12_operand_227, g_12_41, g_12_43, g_12_11, g_12_14, p_12_41, z_12_44, k_12, li_20, li_8, li_1, li_0, li_3, li_5, li_60, li_62, li_2, ob2, iI_add, Option.bind_some, zz, iI_le, if_pos n4, if_pos n5, y11, y14, b1, iI_eq, if_true, iI_lt, if_neg b2, if_neg b3, bd]
          exact zr_i0
      · simp (disch := first | assumption | omega) only [opl, bX12_operand_38, bX12_operand_227, g_12_41, g_12_43, g_12_11, g_12_14, p_12_41, z_12_44, k_12, li_20, li_8, li_1, li_0, li_3, li_5, li_60, li_62, li_2, ob2, iI_add, Option.bind_some, zz, iI_le, if_pos n4, if_pos n5, y11, iI_eq, if_neg b1, bd]
        exact zr_i0
