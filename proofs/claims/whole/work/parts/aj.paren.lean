/-! A SENTENCE IS READ: one in brackets, here and there -/
theorem j_paren {f0 : Nat} {Y : YS} {X : XS} {S : Int → Int} {d : Int} {rr : Nat → Nat → Int32 → Hp → Option (Int32 × Hp)} (g : GY Y) (W : WF X) (c : TokC X) (kc : KC X S) (ds : DSn X S) (d0 : 1 ≤ d) (d8 : d ≤ 8) (h40 : XF X 4 0 5 = 40) (ho : XF X 9 0 3 < 20) (hf : 2000 ≤ f0) (ih : JR f0 Y S 0 (d + 1) (rr 0)) : ∃ b X', fX9_readOne f0 rr (Ad Y 9 0) (iI d) (hp Y X) = some (b, hp Y X') ∧ WF X' ∧ FrC X X' ∧ ((b = 0 ∧ JF f0 Y S 2 d X X') ∨ (b = 1 ∧ JT f0 Y S 2 d X X')) := by
  have so := so_rg c
  have o0 := ds.1.2.2.1
  obtain ⟨X2, e2, W2, c2, kc2, ds2, f2, h2, m2, o2, lt, e43, e10, rf⟩ := one_go (f0 := f0) (Y := Y) (d := d) g W c kc ds (by omega) ho hf
  obtain ⟨b, X3, e3, W3, f3, hh⟩ := ih X2 W2 c2 kc2 ds2
  have n3 : ¬ 20 ≤ XF X 9 0 3 := by omega
  have kc3 := KC_fr f3 kc2
  have ref : ∀ Z t f, RPre X Z S 2 t d (XF X 4 0 3 + 5) f → ∃ f1 Z3, Lp f0 Y f Z = Lp f0 Y f1 Z3 ∧ TxO Z Z3 ∧ (∀ a, 0 ≤ a → a < t → XR Z3 77 0 a = XR Z 77 0 a) ∧ XR Z3 77 0 t = 23 ∧ 0 ≤ t ∧ RPre X2 Z3 S 0 (t + 1) (d + 1) (XF X2 4 0 3 + 5) f1 := fun Z t f p => by
    obtain ⟨f1, Z2, q1, q2, q3, q4, q5, q6, q7, q8, q9, q10, q11, q12, q13⟩ := rf Z t f p
    obtain ⟨WZ, r, kz, pn, p43, p44, pf, pb, pt⟩ := p
    have p1 := pn.1
    have op : fX12_operand f0 (Ad Y 12 0) (hp Y Z) = some (1, hp Y (puZ Z2 23)) := by
      rw [op_P g WZ c r kc.1 h40]
      exact op38_push g WZ q3 (.inr ⟨rfl, rfl, rfl⟩) (by omega) (by omega) q2 (by omega) (by omega) (by omega)
    refine ⟨f1, puZ Z2 23, by rw [q1]; exact L_ok g p44 op, TxO_trans q11 (TxO_F (TxO_F (TxO_Rr TxO_refl (by omega)) (by omega)) (by omega)), fun a a0 a1 => ?_, ?_, by omega, by rw [e43]; exact pu_pre (Z := Z) d0 d8 pt q3 q4 q5 q6 q7 q8 q9 q13 (.inr ⟨rfl, rfl⟩)⟩
    · show upi (XR Z2 77 0) (XF Z2 12 0 42) 23 a = _
      rw [upi_ne _ _ (by omega), q10]
    · show upi (XR Z2 77 0) (XF Z2 12 0 42) 23 t = _
      rw [q9, upi_eq]
  rcases hh with ⟨b0, fa, kk⟩ | ⟨b1, t3, ds3, kx3, h3, s3, o3, z3, p3, kk⟩
  · subst b0
    refine ⟨0, X3, ?_, W3, FrC_trans f2 f3, .inl ⟨rfl, fa, fun Z t f p => ?_⟩⟩
    · simp (disch := first | assumption | omega | exact W_fl W _ _ _ | exact W_fh W _ _ _ | exact W_rl W _ _ _ | exact W_rh W _ _ _) only [fX9_readOne, bX9_readOne_25, bX9_readOne_51, g_9_0, g_4_8, g_4_5, li_40, li_1, li_0, li_18, li_26, g_9_3, g_9_2, p_9_3, k_4, k_9, k_8, li_20, li_8, li_2, li_41, ob2, iI_add, Option.bind_some, iI_eq, h40, Int.reduceEq, if_true, if_false, iI_le, if_neg n3, if_pos d8, e2, e3]
      exact zr_i0
    · obtain ⟨f1, Z3, q1, q2, q3, q4, q5, q6⟩ := ref Z t f p
      obtain ⟨Z', l1, l2, l3, l4⟩ := kk Z3 (t + 1) f1 q6
      exact ⟨Z', by rw [q1]; exact l1, l2, TxOE q2 l3, l4⟩
  · subst b1
    have so3 := so_rg t3
    have n16 := kx3.2 (by decide)
    have n17 := kx3.1 (by decide)
    have lim3 : XF X3 4 0 3 = XF X2 4 0 3 := f3.1 4 0 3 (by omega)
    have c3 := t3.2.2.1
    by_cases n41 : XF X3 4 0 5 = 41
    · obtain ⟨X4, e4, r4, W4, t4, lt4, k4⟩ := j_step (f0 := f0) g W3 t3 (by omega) hf
      have ps : fX4_passSign f0 (Ad Y 4 0) (iI 41) (hp Y X3) = some (1, hp Y X4) := by
        simp (disch := first | assumption | omega) only [fX4_passSign, g_4_5, k_4, li_1, ob2, Option.bind_some, iI_add, iI_eq, if_pos n41, e4]
        exact zr_i1
      have m4 := r4.1 8 1 3 (by omega)
      have o4 := r4.1 9 0 3 (by omega)
      refine ⟨1, X4, ?_, W4, FrC_trans (FrC_trans f2 f3) (FrC_rd r4), .inr ⟨rfl, t4, DSn_x r4 ds3, ⟨fun w => absurd w (by decide), fun w => absurd w (by decide)⟩, by rw [hgX_x r4]; omega, by rw [m4, o4]; omega, by omega, (r4.1 4 0 10 (by omega)).trans (z3.trans e10), by omega, fun Z t f p => ?_⟩⟩
      · simp (disch := first | assumption | omega | exact W_fl W _ _ _ | exact W_fh W _ _ _ | exact W_rl W _ _ _ | exact W_rh W _ _ _) only [fX9_readOne, bX9_readOne_25, bX9_readOne_51, g_9_0, g_4_8, g_4_5, li_40, li_1, li_0, li_18, li_26, g_9_3, g_9_2, p_9_3, k_4, k_9, k_8, li_20, li_8, li_2, li_41, ob2, iI_add, Option.bind_some, iI_eq, h40, Int.reduceEq, if_true, if_false, iI_le, if_neg n3, if_pos d8, e2, e3, li_41, ps]
        exact zr_i1
      · obtain ⟨f1, Z3, q1, q2, q3, q4, q5, q6⟩ := ref Z t f p
        obtain ⟨f', Z', l1, l2, l3, l4, ⟨i, j, k, l5, l6, l7, l8, l9⟩, l10, l11, l12⟩ := kk Z3 (t + 1) f1 q6
        have z77 : XR Z' 77 0 (t + 1 - 1) = 23 := by rw [show t + 1 - 1 = t by omega, l11 t q5 (by omega)]; exact q4
        have s11 := (l4.2.2.2.2.2.2.2 (by unfold tS; omega)).1
        obtain ⟨Z4, W4', g4, p4, d4, r4', _, k5⟩ := be_x (f0 := f0) (Y := Y) g l2 t3 l4 kc3.1 l5 (.inr z77) (by omega) n16 n17 (by omega)
        have Wc : WF (sF (sF Z4 12 0 42 (t + 1 - 1)) 12 0 43 (XF Z' 12 0 43 - k - 1)) := W_F (W_F W4' (by have := p4.1; omega) (by have := p4.1; omega)) (by omega) (by omega)
        have nc : NxS Z4 (sF (sF Z4 12 0 42 (t + 1 - 1)) 12 0 43 (XF Z' 12 0 43 - k - 1)) := ⟨fun f hf => by rcases hf with e | e | e | e | e | e <;> subst e <;> rfl, rfl, rfl⟩
        obtain ⟨Z5, u1, u2, u3, u4⟩ := k4 _ Wc (TokR_s RdS_id nc r4')
        have be : fX12_behind f0 (Ad Y 12 0) (hp Y Z') = some (1, hp Y Z5) := by
          rw [k5 n41 (by omega), u1]; exact zr_i1
        obtain ⟨f', rfl⟩ : ∃ n, f' = n + 1 := ⟨f' - 1, by omega⟩
        refine ⟨f', Z5, by rw [q1, l1]; exact L_bok g l2 l10 (by omega) be, u3, TxO_nx (TxO_trans (TxO_trans q2 l3) (TxO_F (TxO_F (CdF_tx g4) (by omega)) (by omega))) u2, u4, ⟨0, 0, 0, PenR_nx u2 (PenR_x r4 (PenR_pop p4 q5)), ?_, fun _ => rfl, fun _ => rfl, by omega⟩, ?_, fun a a0 a1 => ?_, by omega⟩
        · rw [u2.1 12 0 43 (by omega)]; show XF Z' 12 0 43 - k - 1 = d + 0; omega
        · rw [u2.1 12 0 44 (by omega)]; show XF Z4 12 0 44 = 1; rw [g4.1 12 0 44 (by omega)]; exact l10
        · rw [u2.2.1]; show XR Z4 77 0 a = _; rw [g4.2.1 77 0 (by omega), l11 a a0 (by omega)]; exact q3 a a0 a1
    · have rc := rf_C W3 t3 (k := 1) (by omega) (by omega)
      have rfe : fX4_refuse f0 (Ad Y 4 0) (iI 1) (hp Y X3) = some (0, hp Y (rfC X3 1)) := e_refuse g
      have ps : fX4_passSign f0 (Ad Y 4 0) (iI 41) (hp Y X3) = some (0, hp Y (rfC X3 1)) := by
        simp (disch := first | assumption | omega) only [fX4_passSign, g_4_5, k_4, li_1, ob2, Option.bind_some, iI_add, iI_eq, if_neg n41, rfe]
        exact zr_i0
      refine ⟨0, rfC X3 1, ?_, rc.1, FrC_trans (FrC_trans f2 f3) rc.2.1, .inl ⟨rfl, rc.2.2, fun Z t f p => ?_⟩⟩
      · simp (disch := first | assumption | omega | exact W_fl W _ _ _ | exact W_fh W _ _ _ | exact W_rl W _ _ _ | exact W_rh W _ _ _) only [fX9_readOne, bX9_readOne_25, bX9_readOne_51, g_9_0, g_4_8, g_4_5, li_40, li_1, li_0, li_18, li_26, g_9_3, g_9_2, p_9_3, k_4, k_9, k_8, li_20, li_8, li_2, li_41, ob2, iI_add, Option.bind_some, iI_eq, h40, Int.reduceEq, if_true, if_false, iI_le, if_neg n3, if_pos d8, e2, e3, li_41, ps]
        exact zr_i0
      · obtain ⟨f1, Z3, q1, q2, q3, q4, q5, q6⟩ := ref Z t f p
        obtain ⟨f', Z', l1, l2, l3, l4, ⟨i, j, k, l5, l6, l7, l8, l9⟩, l10, l11, l12⟩ := kk Z3 (t + 1) f1 q6
        have z77 : XR Z' 77 0 (t + 1 - 1) = 23 := by rw [show t + 1 - 1 = t by omega, l11 t q5 (by omega)]; exact q4
        obtain ⟨f', rfl⟩ : ∃ n, f' = n + 1 := ⟨f' - 1, by omega⟩
        obtain ⟨Z5, u1, u2, u3, u4⟩ := L_stop (f0 := f0) (f := f') (Y := Y) g l2 t3 l4 kc3.1 l5 (by omega) z77 (by omega) l10 n16 n17 n41 (by omega)
        exact ⟨Z5, by rw [q1, l1]; exact u1, u2, TxOE (TxO_trans q2 l3) u3, u4⟩
