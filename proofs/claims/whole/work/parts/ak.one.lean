/-! A SENTENCE IS READ: one condition, whole -/
theorem j_one {f0 : Nat} {Y : YS} {S : Int → Int} {d : Int} {rr : Nat → Nat → Int32 → Hp → Option (Int32 × Hp)} (g : GY Y) (d0 : 1 ≤ d) (d9 : d ≤ 9) (hf : 2000 ≤ f0) (i0 : d ≤ 8 → JR f0 Y S 0 (d + 1) (rr 0)) (i2 : d ≤ 8 → JR f0 Y S 2 (d + 1) (rr 2)) : JR f0 Y S 2 d (fX9_readOne f0 rr) := by
  intro X W c kc ds
  have so := so_rg c
  have kr := key_rg c
  have o0 := ds.1.2.2
  by_cases B : ¬ XF X 4 0 5 = 40 ∧ XF X 4 0 8 < 18
  · obtain ⟨b1, b2⟩ := B
    have rfe : fX4_refuse f0 (Ad Y 4 0) (iI 1) (hp Y X) = some (0, hp Y (rfC X 1)) := e_refuse g
    refine one_bad g W c (k := 1) (by omega) (by omega) ?_ (fun Z t f p => op_B g p.1 c p.2.1 kc.1 b1 b2)
    simp (disch := first | assumption | omega | exact W_fl W _ _ _ | exact W_fh W _ _ _ | exact W_rl W _ _ _ | exact W_rh W _ _ _) only [fX9_readOne, bX9_readOne_25, bX9_readOne_42, g_9_0, g_4_8, g_4_5, li_40, li_1, li_0, li_18, li_26, k_4, ob2, Option.bind_some, iI_add, iI_eq, if_neg b1, if_true, iI_lt, if_pos b2, rfe]
    exact zr_i0
  · by_cases lim : XF X 9 0 3 = 20 ∨ d = 9
    · have rfe : fX4_refuse f0 (Ad Y 4 0) (iI 4) (hp Y X) = some (0, hp Y (rfC X 4)) := e_refuse g
      refine one_bad g W c (k := 4) (by omega) (by omega) ?_ (fun Z t f p => ?_)
      · have lim2 : 20 ≤ XF X 9 0 3 ∨ ¬ 20 ≤ XF X 9 0 3 ∧ ¬ d ≤ 8 := by omega
        by_cases b1 : XF X 4 0 5 = 40
        · rcases lim2 with l | ⟨l, l'⟩
          · simp (disch := first | assumption | omega | exact W_fl W _ _ _ | exact W_fh W _ _ _ | exact W_rl W _ _ _ | exact W_rh W _ _ _) only [fX9_readOne, bX9_readOne_25, bX9_readOne_51, bX9_readOne_66, g_9_0, g_4_8, g_4_5, li_40, li_1, li_0, li_18, li_26, g_9_3, g_9_2, p_9_3, k_4, k_9, k_8, li_20, li_8, li_2, li_41, ob2, iI_add, li_4, Option.bind_some, iI_eq, b1, Int.reduceEq, if_true, if_false, iI_le, if_pos l, rfe]
            exact zr_i0
          · simp (disch := first | assumption | omega | exact W_fl W _ _ _ | exact W_fh W _ _ _ | exact W_rl W _ _ _ | exact W_rh W _ _ _) only [fX9_readOne, bX9_readOne_25, bX9_readOne_51, bX9_readOne_66, g_9_0, g_4_8, g_4_5, li_40, li_1, li_0, li_18, li_26, g_9_3, g_9_2, p_9_3, k_4, k_9, k_8, li_20, li_8, li_2, li_41, ob2, iI_add, li_4, Option.bind_some, iI_eq, b1, Int.reduceEq, if_true, if_false, iI_le, if_neg l, if_neg l', rfe]
            exact zr_i0
        · have n1 : ¬ XF X 4 0 8 < 18 := by omega
          have n2 := kr.2
          rcases lim2 with l | ⟨l, l'⟩
          · simp (disch := first | assumption | omega | exact W_fl W _ _ _ | exact W_fh W _ _ _ | exact W_rl W _ _ _ | exact W_rh W _ _ _) only [fX9_readOne, bX9_readOne_25, bX9_readOne_51, bX9_readOne_66, g_9_0, g_4_8, g_4_5, li_40, li_1, li_0, li_18, li_26, g_9_3, g_9_2, p_9_3, k_4, k_9, k_8, li_20, li_8, li_2, li_41, ob2, iI_add, li_4, Option.bind_some, iI_eq, if_neg b1, if_true, iI_lt, if_neg n1, iI_le, if_pos n2, if_pos l, rfe]
            exact zr_i0
          · simp (disch := first | assumption | omega | exact W_fl W _ _ _ | exact W_fh W _ _ _ | exact W_rl W _ _ _ | exact W_rh W _ _ _) only [fX9_readOne, bX9_readOne_25, bX9_readOne_51, bX9_readOne_66, g_9_0, g_4_8, g_4_5, li_40, li_1, li_0, li_18, li_26, g_9_3, g_9_2, p_9_3, k_4, k_9, k_8, li_20, li_8, li_2, li_41, ob2, iI_add, li_4, Option.bind_some, iI_eq, if_neg b1, if_true, iI_lt, if_neg n1, iI_le, if_pos n2, if_neg l, if_neg l', rfe]
            exact zr_i0
      · obtain ⟨WZ, r, kz, pn, p43, p44, pf, pb, pt⟩ := p
        have e41 := pn.2.1.2.2
        have bad : ∀ v1 v2 v3, bX12_operand_38 f0 (Ad Y 12 0) v1 v2 v3 (hp Y Z) = some (0, hp Y (rfR Z 4)) := fun v1 v2 v3 => op38_bad g WZ (by omega)
        by_cases b1 : XF X 4 0 5 = 40
        · rw [op_P g WZ c r kc.1 b1]; exact bad _ _ _
        · by_cases b2 : XF X 4 0 8 = 18
          · rw [op_N g WZ c r kc.1 b1 b2]; exact bad _ _ _
          · rw [op_C g WZ c r kc.1 b1 (by omega)]; exact bad _ _ _
    · have ho : XF X 9 0 3 < 20 := by omega
      have d8 : d ≤ 8 := by omega
      by_cases b1 : XF X 4 0 5 = 40
      · exact j_paren g W c kc ds d0 d8 b1 ho hf (i0 d8)
      · by_cases b2 : XF X 4 0 8 = 18
        · exact j_not g W c kc ds d0 d8 b1 b2 ho hf (i2 d8)
        · exact j_leaf g W c kc ds d0 d8 b1 (by omega) ho hf
