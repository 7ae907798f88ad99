/-! ALL LINES -/
theorem j_lineO {f0 : Nat} {Y : YS} {X : XS} (g : GY Y) (c : LC X) (sy : Sy X) (hf : 2000 ≤ f0) : LineO f0 Y X := by
  have kr := key_rg c.2.1
  by_cases n : XF X 4 0 8 < 0 ∨ 10 < XF X 4 0 8
  · exact L_n g c n
  · rcases (by omega : XF X 4 0 8 = 0 ∨ XF X 4 0 8 = 1 ∨ XF X 4 0 8 = 2 ∨ XF X 4 0 8 = 3 ∨ XF X 4 0 8 = 4 ∨ XF X 4 0 8 = 5 ∨ XF X 4 0 8 = 6 ∨ XF X 4 0 8 = 7 ∨ XF X 4 0 8 = 8 ∨ XF X 4 0 8 = 9 ∨ XF X 4 0 8 = 10) with h | h | h | h | h | h | h | h | h | h | h
    · exact L_0 g c h hf
    · exact L_1 g c h sy hf
    · exact L_2 g c h hf
    · exact L_3 g c h hf
    · exact L_4 g c h hf
    · exact L_5 g c h hf
    · exact L_6 g c h hf
    · exact L_7 g c h hf
    · exact L_8 g c h hf
    · exact L_9 g c h hf
    · exact L_10 g c h hf
theorem j_line {f0 : Nat} {Y : YS} {X : XS} (g : GY Y) (c : LC X) (sy : Sy X) (hf : 2000 ≤ f0) : ∃ X',
    (fX7_readLine f0 (Ad Y 7 0) (hp Y X) = some (0, hp Y X') ∧ WF X' ∧ FrC X X' ∧ FaC X' ∧ ∀ Z, LR X Z → ∃ Z', (fX12_line f0 (Ad Y 12 0) (hp Y Z) = some (0, hp Y Z') ∨ ∃ Z1, fX12_line f0 (Ad Y 12 0) (hp Y Z) = some (1, hp Y Z1) ∧ fX12_sign f0 (Ad Y 12 0) (iI 59) (hp Y Z1) = some (0, hp Y Z')) ∧ WF Z' ∧ FrR Z Z' ∧ FaR X' Z') ∨
    (fX7_readLine f0 (Ad Y 7 0) (hp Y X) = some (1, hp Y X') ∧ LC X' ∧ Sy X' ∧ FrC X X' ∧ XF X 4 0 6 < XF X' 4 0 6 ∧ ∀ Z, LR X Z → ∃ Z1 Z', fX12_line f0 (Ad Y 12 0) (hp Y Z) = some (1, hp Y Z1) ∧ fX12_sign f0 (Ad Y 12 0) (iI 59) (hp Y Z1) = some (1, hp Y Z') ∧ LR X' Z' ∧ FrR Z Z') := by
  obtain ⟨X1, h | h⟩ := j_lineO (f0 := f0) g c sy hf
  · obtain ⟨e, W1, F1, fa, k⟩ := h
    refine ⟨X1, .inl ⟨e, W1, F1, fa, fun Z hz => ?_⟩⟩
    obtain ⟨Z', z1, z2⟩ := k Z hz
    exact ⟨Z', .inl z1, z2⟩
  · obtain ⟨e, c1, F1, sy1, lt1, k⟩ := h
    obtain ⟨X2, h | h⟩ := j_sign (f0 := f0) g c1.1 c1.2.1 (s := 59) (.inl rfl) hf
    · obtain ⟨so, e2, r2, W2, t2, lt2, k2⟩ := h
      refine ⟨X2, .inr ⟨?_, LC_rd c1 r2 W2 t2, Sy_e (by rw [r2.2.1]) (sy1 sy), FrC_trans F1 (FrC_rd r2), by omega, fun Z hz => ?_⟩⟩
      · rw [e]
        simp (disch := first | assumption | omega) only [bX7_readLine_117, g_7_0, k_4, li_59, ob2, Option.bind_some, iI_add, e2]
        exact zr_i1
      · obtain ⟨Z1, z1, z2, z3⟩ := k Z hz
        obtain ⟨Z2, y1, y2, y3, y4⟩ := k2 Z1 z2.1 z2.2.1
        exact ⟨Z1, Z2, z1, y1, LR_nx z2 r2 y2 y3 y4, FrR_trans z3 (FrR_nx y2)⟩
    · obtain ⟨so, e2, W2, F2, fa2, k2⟩ := h
      refine ⟨X2, .inl ⟨?_, W2, FrC_trans F1 F2, fa2, fun Z hz => ?_⟩⟩
      · rw [e]
        simp (disch := first | assumption | omega) only [bX7_readLine_117, g_7_0, k_4, li_59, ob2, Option.bind_some, iI_add, e2]
        exact zr_i0
      · obtain ⟨Z1, z1, z2, z3⟩ := k Z hz
        obtain ⟨Z2, y1, y2, y3, y4⟩ := k2 Z1 z2.1 z2.2.1
        exact ⟨Z2, .inr ⟨Z1, z1, y1⟩, y2, FrR_trans z3 y3, y4⟩
theorem sea_loop {f0 : Nat} {Y : YS} (g : GY Y) (hf : 2000 ≤ f0) (n : Nat) : ∀ (X : XS) (f f' : Nat) (l : Int), (XF X 4 0 3 - XF X 4 0 6).toNat ≤ n → n < f → n < f' → LC X → Sy X → 0 ≤ l → l ≤ XF X 4 0 6 → XF X 4 0 3 ≤ 900 → ∃ X',
    (bX7_read_25 f0 f (Ad Y 7 0) (iI l) (hp Y X) = some (iI (-1), hp Y X') ∧ WF X' ∧ FrC X X' ∧ FaC X' ∧ ∀ Z, LR X Z → ∃ Z', bX12_sea_53 f0 f' (Ad Y 12 0) (hp Y Z) = some (iI (-1 - XF X' 4 0 11), hp Y Z') ∧ WF Z' ∧ (∃ Z2, FrR Z Z2 ∧ FrR Z2 Z' ∨ FrR (sF Z2 12 0 19 0) (sF Z' 12 0 19 0) ∧ FrR (sF Z 12 0 19 0) (sF Z2 12 0 19 0)) ∧ FaR X' Z') ∨
    ∃ l', (bX7_read_25 f0 f (Ad Y 7 0) (iI l) (hp Y X) = (fX6_conclude f0 (Ad Y 6 1) (hp Y X')).bind (fun h => some (iI l', h)) ∧ LC X' ∧ Sy X' ∧ FrC X X' ∧ (0 ≤ l' ∧ l' ≤ 900) ∧ ∀ Z, LR X Z → XF Z 12 0 19 = l → ∃ Z', bX12_sea_53 f0 f' (Ad Y 12 0) (hp Y Z) = bX12_sea_98 f0 f0 (Ad Y 12 0) (iI 0) (hp Y Z') ∧ LR X' Z' ∧ FrR (sF Z 12 0 19 0) (sF Z' 12 0 19 0) ∧ XF Z' 12 0 19 = l') := by
  have c19 : ∀ {Z Z' : XS}, FrR Z Z' → FrR (sF Z 12 0 19 0) (sF Z' 12 0 19 0) := fun {Z Z'} h => by
    refine ⟨fun s k f q => ?_, h.2.1, h.2.2.1, h.2.2.2⟩
    rw [XF_sF, XF_sF]; split
    · rfl
    · exact h.1 s k f q
  induction n using Nat.strongRecOn with
  | _ n ih =>
  intro X f f' l hn hf1 hf2 hc sy l0 l1 st
  have W := hc.1; have tc := hc.2.1
  have g1 := SeO_1 g
  have sr := so_rg tc
  have b := tc.1.2; have b3 := tc.2.2.1
  obtain ⟨f1, rfl⟩ : ∃ f1, f = f1 + 1 := ⟨f - 1, by omega⟩
  obtain ⟨f2, rfl⟩ : ∃ f2, f' = f2 + 1 := ⟨f' - 1, by omega⟩
  by_cases so : XF X 4 0 5 = 0
  · by_cases en : XF X 4 0 2 = XF X 4 0 3
    · have pe := (e_passEnd (f0 := f0) g W tc).1 ⟨so, en⟩
      refine ⟨X, .inr ⟨l, ?_, hc, sy, FrC_refl, by omega, fun Z hz h19 => ?_⟩⟩
      · by_cases c : (900 : Int) ≤ l
        · simp (disch := first | assumption | omega | exact W_fl W _ _ _ | exact W_fh W _ _ _ | exact W_rl W _ _ _ | exact W_rh W _ _ _) only [bX7_read_25, bX7_read_57, g_7_0, g_4_5, k_7, lm_1, li_0, li_1, li_900, ob2, iI_add, g_7_1, k_4, k_6, Option.bind_some, iI_neg, iI_le, if_pos c, pe, iI_eq, Int.reduceEq, if_false]
        · simp (disch := first | assumption | omega | exact W_fl W _ _ _ | exact W_fh W _ _ _ | exact W_rl W _ _ _ | exact W_rh W _ _ _) only [bX7_read_25, bX7_read_57, g_7_0, g_4_5, k_7, lm_1, li_0, li_1, li_900, ob2, iI_add, g_7_1, k_4, k_6, Option.bind_some, iI_neg, iI_le, if_neg c, iI_eq, if_pos so, pe, Int.reduceEq, if_false]
      · refine ⟨Z, ?_, hz, FrR_refl, h19⟩
        have tk := (tk_0 tc hz.2.1).mpr ⟨so, en⟩
        have w1 := W_fl hz.1 12 0 11; have w2 := W_fh hz.1 12 0 11
        simp (disch := first | assumption | omega) only [bX12_sea_53, g_12_11, g_12_19, p_12_19, k_12, li_0, li_1, li_59, ob2, iI_add, Option.bind_some, iI_eq, if_pos tk]
    · have pe := (e_passEnd (f0 := f0) g W tc).2 (fun z => en z.2)
      have rc := rf_C W tc (k := 1) (by decide) (by decide)
      refine ⟨rfC X 1, .inl ⟨?_, rc.1, rc.2.1, rc.2.2, fun Z hz => ?_⟩⟩
      · by_cases c : (900 : Int) ≤ l
        · simp (disch := first | assumption | omega | exact W_fl W _ _ _ | exact W_fh W _ _ _ | exact W_rl W _ _ _ | exact W_rh W _ _ _) only [bX7_read_25, bX7_read_57, g_7_0, g_4_5, k_7, lm_1, li_0, li_1, li_900, ob2, iI_add, g_7_1, k_4, k_6, Option.bind_some, iI_neg, iI_le, if_pos c, pe, iI_eq, iI_neg, if_true]
        · simp (disch := first | assumption | omega | exact W_fl W _ _ _ | exact W_fh W _ _ _ | exact W_rl W _ _ _ | exact W_rh W _ _ _) only [bX7_read_25, bX7_read_57, g_7_0, g_4_5, k_7, lm_1, li_0, li_1, li_900, ob2, iI_add, g_7_1, k_4, k_6, Option.bind_some, iI_neg, iI_le, if_neg c, iI_eq, if_pos so, pe, iI_neg, if_true]
      · have rr := rf_R hz.1 tc hz.2.1 (k := 1) (by decide) (by decide)
        refine ⟨rfR Z 1, ?_, rr.1, ⟨Z, .inl ⟨FrR_refl, rr.2.1⟩⟩, rr.2.2⟩
        have tk : ¬ XF Z 12 0 11 = 0 := fun z => en ((tk_0 tc hz.2.1).mp z).2
        have w1 := W_fl hz.1 12 0 11; have w2 := W_fh hz.1 12 0 11
        have k1 : XF X 4 0 8 < 0 := by
          rcases tc.2.2.2.2 with k | k | k | k | k
          · omega
          · omega
          · omega
          · omega
          · omega
        have ln := ln_n (f0 := f0) g hz.1 tc hz.2.1 hc.2.2.1 (.inl k1)
        have fa : XF (rfR Z 1) 12 0 16 = XF (rfC X 1) 4 0 11 := rr.2.2.2
        simp (disch := first | assumption | omega) only [bX12_sea_53, bX12_sea_76, g_12_11, g_12_19, p_12_19, k_12, li_0, li_1, li_59, ob2, iI_add, g_12_16, lm_1, iI_sub, Option.bind_some, iI_neg, iI_eq, if_neg tk, ln, if_true, fa, iI_neg, iI_sub]
  · have tc4 := tc.2.2.2.1 so
    have c : ¬ (900 : Int) ≤ l := by omega
    obtain ⟨X1, h | h⟩ := j_line (f0 := f0) g hc sy hf
    · obtain ⟨e, W1, F1, fa, k⟩ := h
      refine ⟨X1, .inl ⟨?_, W1, F1, fa, fun Z hz => ?_⟩⟩
      · simp (disch := first | assumption | omega | exact W_fl W _ _ _ | exact W_fh W _ _ _ | exact W_rl W _ _ _ | exact W_rh W _ _ _) only [bX7_read_25, g_7_0, g_4_5, k_7, lm_1, li_0, li_1, li_900, ob2, iI_add, Option.bind_some, iI_neg, iI_le, if_neg c, iI_eq, if_neg so, e, iI_neg, if_true]
      · obtain ⟨Z', z1, z2, z3, z4⟩ := k Z hz
        refine ⟨Z', ?_, z2, ⟨Z, .inl ⟨FrR_refl, z3⟩⟩, z4⟩
        have tk : ¬ XF Z 12 0 11 = 0 := fun z => so ((tk_0 tc hz.2.1).mp z).1
        have w1 := W_fl hz.1 12 0 11; have w2 := W_fh hz.1 12 0 11
        have fa' := z4.2
        rcases z1 with z1 | ⟨Z1, z1, y1⟩
        · simp (disch := first | assumption | omega) only [bX12_sea_53, bX12_sea_76, g_12_11, g_12_19, p_12_19, k_12, li_0, li_1, li_59, ob2, iI_add, g_12_16, lm_1, iI_sub, Option.bind_some, iI_neg, iI_eq, if_neg tk, z1, if_true, fa', iI_neg, iI_sub]
        · simp (disch := first | assumption | omega) only [bX12_sea_53, bX12_sea_76, g_12_11, g_12_19, p_12_19, k_12, li_0, li_1, li_59, ob2, iI_add, g_12_16, lm_1, iI_sub, Option.bind_some, iI_neg, iI_eq, if_neg tk, z1, Int.reduceEq, if_false, y1, if_true, fa', iI_neg, iI_sub]
    · obtain ⟨e, c1, sy1, F1, lt1, k⟩ := h
      have f3 := F1.1 4 0 3 (by omega)
      have b1 := c1.2.1.1.2
      obtain ⟨X', hh⟩ := ih (n - 1) (by omega) X1 f1 f2 (l + 1) (by omega) (by omega) (by omega) c1 sy1 (by omega) (by omega) (by omega)
      have cl : bX7_read_25 f0 (f1 + 1) (Ad Y 7 0) (iI l) (hp Y X) = bX7_read_25 f0 f1 (Ad Y 7 0) (iI (l + 1)) (hp Y X1) := by
        simp (disch := first | assumption | omega | exact W_fl W _ _ _ | exact W_fh W _ _ _ | exact W_rl W _ _ _ | exact W_rh W _ _ _) only [bX7_read_25, g_7_0, g_4_5, k_7, lm_1, li_0, li_1, li_900, ob2, iI_add, Option.bind_some, iI_neg, iI_le, if_neg c, iI_eq, if_neg so, e, Int.reduceEq, if_false]
      have rf : ∀ Z, LR X Z → ∃ Z3, bX12_sea_53 f0 (f2 + 1) (Ad Y 12 0) (hp Y Z) = bX12_sea_53 f0 f2 (Ad Y 12 0) (hp Y Z3) ∧ LR X1 Z3 ∧ FrR (sF Z 12 0 19 0) (sF Z3 12 0 19 0) ∧ (XF Z 12 0 19 = l → XF Z3 12 0 19 = l + 1) := fun Z hz => by
        obtain ⟨Z1, Z2, z1, y1, y2, y3⟩ := k Z hz
        have tk : ¬ XF Z 12 0 11 = 0 := fun z => so ((tk_0 tc hz.2.1).mp z).1
        have w1 := W_fl hz.1 12 0 11; have w2 := W_fh hz.1 12 0 11
        have q19 : XF Z2 12 0 19 = XF Z 12 0 19 := y3.1 12 0 19 (by omega)
        obtain ⟨v, hv⟩ : ∃ v, v = XF Z2 12 0 19 + 1 := ⟨_, rfl⟩
        refine ⟨sF Z2 12 0 19 (wr v), ?_, ?_, ?_, fun h => ?_⟩
        · have ew : iI (XF Z2 12 0 19 + 1) = iI (wr v) := by rw [hv]; exact (iI_of _).symm
          simp (disch := first | assumption | omega) only [bX12_sea_53, g_12_11, g_12_19, p_12_19, k_12, li_0, li_1, li_59, ob2, iI_add, Option.bind_some, iI_eq, if_neg tk, z1, Int.reduceEq, if_false, y1, ew]
        · have wg := iI_rg (iI v)
          exact ⟨W_F y2.1 wg.1 wg.2, y2.2.1, y2.2.2.1, y2.2.2.2.1, y2.2.2.2.2.1, y2.2.2.2.2.2⟩
        · rw [sF_sF]; exact c19 y3
        · show wr v = l + 1
          rw [hv, q19, h]; exact wr_id (by omega) (by omega)
      refine ⟨X', ?_⟩
      rcases hh with ⟨h1, h2, h3, h4, h5⟩ | ⟨l', h1, h2, h3, h4, h5, h6⟩
      · left
        refine ⟨by rw [cl]; exact h1, h2, FrC_trans F1 h3, h4, fun Z hz => ?_⟩
        obtain ⟨Z3, z1, z2, z3, z4⟩ := rf Z hz
        obtain ⟨Z', y1, y2, ⟨Z4, y3⟩, y4⟩ := h5 Z3 z2
        refine ⟨Z', by rw [z1]; exact y1, y2, ⟨Z3, .inr ⟨?_, z3⟩⟩, y4⟩
        rcases y3 with ⟨a1, a2⟩ | ⟨a1, a2⟩
        · exact c19 (FrR_trans a1 a2)
        · exact FrR_trans a2 a1
      · right
        refine ⟨l', by rw [cl]; exact h1, h2, h3, FrC_trans F1 h4, h5, fun Z hz h19 => ?_⟩
        obtain ⟨Z3, z1, z2, z3, z4⟩ := rf Z hz
        obtain ⟨Z', y1, y2, y3, y4⟩ := h6 Z3 z2 (z4 h19)
        exact ⟨Z', by rw [z1]; exact y1, y2, FrR_trans z3 y3, y4⟩
