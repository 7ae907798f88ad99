/-! A SENTENCE IS READ: NOT, here and there -/
theorem pu_pre {X Z Z2 : XS} {S : Int → Int} {t d c K lv : Int} {f1 : Nat} (d0 : 1 ≤ d) (d8 : d ≤ 8) (pt : t ≤ 3 * (d - 1) + 2) (W2 : WF Z2) (r : TokR X Z2) (kz : KZ X Z2 S) (pn : PenR X Z2 t 0 0 0) (e43 : XF Z2 12 0 43 = d) (e44 : XF Z2 12 0 44 = 0) (e42 : XF Z2 12 0 42 = t) (hk : K ≤ f1 + XF X 4 0 6) (hc : lv = 2 ∧ c = 20 ∨ lv = 0 ∧ c = 23) : RPre X (puZ Z2 c) S lv (t + 1) (d + 1) K f1 := by
  have p1 := pn.1
  have tx : TxO Z2 (puZ Z2 c) := TxO_F (TxO_F (TxO_Rr TxO_refl (by omega)) (by omega)) (by omega)
  refine ⟨?_, TokR_s RdS_id ⟨fun f hf => by rcases hf with e | e | e | e | e | e <;> subst e <;> rfl, rfl, rfl⟩ r, KZ_fr FrC_refl tx kz, ?_, ?_, e44, hk, ?_, ?_⟩
  · unfold puZ
    refine W_F (W_F (W_R W2 fun i => ?_) (by omega) (by omega)) (by omega) (by omega)
    rw [upi_at]; split
    · exact ⟨by omega, by omega⟩
    · exact W2.2 77 0 i
  · unfold puZ
    rw [e42]
    exact PenR_push pn (by omega)
  · show XF Z2 12 0 43 + 1 = d + 1
    omega
  · have e77 : XR (puZ Z2 c) 77 0 (t + 1 - 1) = c := by
      show upi (XR Z2 77 0) (XF Z2 12 0 42) c (t + 1 - 1) = c
      rw [e42, show t + 1 - 1 = t by omega, upi_eq]
    unfold bsC
    rw [e77]
    omega
  · omega
theorem j_not {f0 : Nat} {Y : YS} {X : XS} {S : Int → Int} {d : Int} {rr : Nat → Nat → Int32 → Hp → Option (Int32 × Hp)} (g : GY Y) (W : WF X) (c : TokC X) (kc : KC X S) (ds : DSn X S) (d0 : 1 ≤ d) (d8 : d ≤ 8) (h40 : ¬ XF X 4 0 5 = 40) (hk : XF X 4 0 8 = 18) (ho : XF X 9 0 3 < 20) (hf : 2000 ≤ f0) (ih : JR f0 Y S 2 (d + 1) (rr 2)) : ∃ b X', fX9_readOne f0 rr (Ad Y 9 0) (iI d) (hp Y X) = some (b, hp Y X') ∧ WF X' ∧ FrC X X' ∧ ((b = 0 ∧ JF f0 Y S 2 d X X') ∨ (b = 1 ∧ JT f0 Y S 2 d X X')) := by
  have so := so_rg c
  have st := StO_1 g
  have o0 := ds.1.2.2.1
  have k1 := (key_1 c (by omega)).1
  obtain ⟨X2, e2, W2, c2, kc2, ds2, f2, h2, m2, o2, lt, e43, e10, rf⟩ := one_go (f0 := f0) (Y := Y) (d := d) g W c kc ds (by omega) ho hf
  have db := ds.1.2.1
  obtain ⟨b, X3, e3, W3, f3, hh⟩ := ih X2 W2 c2 kc2 ds2
  have n1 : ¬ XF X 4 0 8 < 18 := by omega
  have n2 : XF X 4 0 8 ≤ 26 := by omega
  have n3 : ¬ 20 ≤ XF X 9 0 3 := by omega
  have ref : ∀ Z t f, RPre X Z S 2 t d (XF X 4 0 3 + 5) f → ∃ f1 Z3, Lp f0 Y f Z = Lp f0 Y f1 Z3 ∧ TxO Z Z3 ∧ (∀ a, 0 ≤ a → a < t → XR Z3 77 0 a = XR Z 77 0 a) ∧ XR Z3 77 0 t = 20 ∧ 0 ≤ t ∧ RPre X2 Z3 S 2 (t + 1) (d + 1) (XF X2 4 0 3 + 5) f1 := fun Z t f p => by
    obtain ⟨f1, Z2, q1, q2, q3, q4, q5, q6, q7, q8, q9, q10, q11, q12, q13⟩ := rf Z t f p
    obtain ⟨WZ, r, kz, pn, p43, p44, pf, pb, pt⟩ := p
    have p1 := pn.1
    have op : fX12_operand f0 (Ad Y 12 0) (hp Y Z) = some (1, hp Y (puZ Z2 20)) := by
      rw [op_N g WZ c r kc.1 h40 hk]
      exact op38_push g WZ q3 (.inl ⟨rfl, rfl, rfl⟩) (by omega) (by omega) q2 (by omega) (by omega) (by omega)
    refine ⟨f1, puZ Z2 20, by rw [q1]; exact L_ok g p44 op, TxO_trans q11 (TxO_F (TxO_F (TxO_Rr TxO_refl (by omega)) (by omega)) (by omega)), fun a a0 a1 => ?_, ?_, by omega, by rw [e43]; exact pu_pre (Z := Z) d0 d8 pt q3 q4 q5 q6 q7 q8 q9 q13 (.inl ⟨rfl, rfl⟩)⟩
    · show upi (XR Z2 77 0) (XF Z2 12 0 42) 20 a = _
      rw [upi_ne _ _ (by omega), q10]
    · show upi (XR Z2 77 0) (XF Z2 12 0 42) 20 t = _
      rw [q9, upi_eq]
  rcases hh with ⟨b0, fa, kk⟩ | ⟨b1, t3, ds3, kx3, h3, s3, o3, z3, p3, kk⟩
  · subst b0
    refine ⟨0, X3, ?_, W3, FrC_trans f2 f3, .inl ⟨rfl, fa, fun Z t f p => ?_⟩⟩
    · simp (disch := first | assumption | omega | exact W_fl W _ _ _ | exact W_fh W _ _ _ | exact W_rl W _ _ _ | exact W_rh W _ _ _) only [fX9_readOne, bX9_readOne_25, bX9_readOne_51, g_9_0, g_4_8, g_4_5, li_40, li_1, li_0, li_18, li_26, g_9_3, g_9_2, p_9_3, k_4, k_9, k_8, li_20, li_8, li_2, li_41, ob2, iI_add, Option.bind_some, iI_eq, if_neg h40, if_true, iI_lt, if_neg n1, iI_le, if_pos n2, if_neg n3, if_pos d8, e2, if_pos hk, e3]
      exact zr_i0
    · obtain ⟨f1, Z3, q1, q2, q3, q4, q5, q6⟩ := ref Z t f p
      obtain ⟨Z', l1, l2, l3, l4⟩ := kk Z3 (t + 1) f1 q6
      exact ⟨Z', by rw [q1]; exact l1, l2, TxOE q2 l3, l4⟩
  · subst b1
    have d3 := ds3.1
    have hr3 := hgX_rg ds3
    have hr2 := hgX_rg ds2
    have dd : XF X3 8 1 3 + hgX X3 ≤ 2 * XF X3 9 0 3 := d3.2.1
    have dd0 : XF X 8 1 3 + hgX X ≤ 2 * XF X 9 0 3 := db
    have ad := e_addS (f0 := f0) (Y := Y) st W3 (a := 18) (b := 0) (c := 0) d3.1 (by omega)
    have rz : Rg (0 : Int) := ⟨by decide, by decide⟩
    have hd : (if (18 : Int) = 18 then (0 : Int) else if (18 : Int) = 17 ∨ (18 : Int) = 16 then -1 else 1) = 0 := by decide
    refine ⟨1, adX X3 18 0 0, ?_, ad_W W3 ⟨by decide, by decide⟩ rz rz d3.1 (by omega), FrC_trans (FrC_trans f2 f3) ad_Fr, .inr ⟨rfl, TokC_s ad_Rd t3, DSn_ad ds3 (by rw [hd]; omega) ⟨by omega, fun _ => by omega, fun w => by omega, fun w => by omega, fun w => by omega, fun w => by omega⟩, ⟨fun w => absurd w (by decide), fun w => absurd w (by decide)⟩, by rw [ad_hg d3.1, hd]; omega, by rw [ad_m, ad_o]; omega, by rw [ad_o]; omega, (show XF X3 4 0 10 = XF X 4 0 10 from z3.trans e10), ?_, fun Z t f p => ?_⟩⟩
    · simp (disch := first | assumption | omega | exact W_fl W _ _ _ | exact W_fh W _ _ _ | exact W_rl W _ _ _ | exact W_rh W _ _ _) only [fX9_readOne, bX9_readOne_25, bX9_readOne_51, g_9_0, g_4_8, g_4_5, li_40, li_1, li_0, li_18, li_26, g_9_3, g_9_2, p_9_3, k_4, k_9, k_8, li_20, li_8, li_2, li_41, ob2, iI_add, Option.bind_some, iI_eq, if_neg h40, if_true, iI_lt, if_neg n1, iI_le, if_pos n2, if_neg n3, if_pos d8, e2, if_pos hk, e3, Int.reduceEq, if_false, ad]
      exact zr_i1
    · show XF X 4 0 6 ≤ XF X3 4 0 6
      omega
    · obtain ⟨f1, Z3, q1, q2, q3, q4, q5, q6⟩ := ref Z t f p
      obtain ⟨f', Z', l1, l2, l3, l4, ⟨i, j, k, l5, l6, l7, l8, l9⟩, l10, l11, l12⟩ := kk Z3 (t + 1) f1 q6
      have i0 := l7 (by decide)
      have j0 := l8 (by decide)
      subst i0; subst j0
      have z77 : XR Z' 77 0 t = 20 := by rw [l11 t q5 (by omega)]; exact q4
      refine ⟨f', Z', by rw [q1]; exact l1, l2, TxO_trans q2 l3, TokR_s ad_Rd ⟨fun _ _ => rfl, rfl, rfl⟩ l4, ⟨0, 0, k + 1, PenR_wait l5 q5 (by omega) (.inl ⟨rfl, z77, rfl, rfl, rfl, rfl, rfl, by omega⟩), by omega, fun _ => rfl, fun _ => rfl, by omega⟩, l10, fun a a0 a1 => by rw [l11 a a0 (by omega)]; exact q3 a a0 a1, ?_⟩
      show XF X 4 0 3 + 5 ≤ f' + XF X3 4 0 6
      rw [← e43]; exact l12
