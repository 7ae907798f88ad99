/-! A SENTENCE IS READ: the first of one condition -/
theorem L_bad {f0 f : Nat} {Y : YS} {Z Z' : XS} (g : GY Y) (h : XF Z 12 0 44 = 0) (e : fX12_operand f0 (Ad Y 12 0) (hp Y Z) = some (0, hp Y Z')) : Lp f0 Y (f + 1) Z = bX12_sentence_125 f0 (Ad Y 12 0) (hp Y Z') := by
  rw [L_op g h, e, ob2_some]; exact if_pos rfl
theorem L_ok {f0 f : Nat} {Y : YS} {Z Z' : XS} (g : GY Y) (h : XF Z 12 0 44 = 0) (e : fX12_operand f0 (Ad Y 12 0) (hp Y Z) = some (1, hp Y Z')) : Lp f0 Y (f + 1) Z = Lp f0 Y f Z' := by
  rw [L_op g h, e, ob2_some]; exact if_neg (by decide)
theorem one_bad {f0 : Nat} {Y : YS} {X : XS} {S : Int → Int} {d : Int} {rr : Nat → Nat → Int32 → Hp → Option (Int32 × Hp)} (g : GY Y) (W : WF X) (c : TokC X) {k : Int} (k1 : 1 ≤ k) (k4 : k ≤ 4) (e : fX9_readOne f0 rr (Ad Y 9 0) (iI d) (hp Y X) = some (0, hp Y (rfC X k))) (er : ∀ Z t f, RPre X Z S 2 t d (XF X 4 0 3 + 5) f → fX12_operand f0 (Ad Y 12 0) (hp Y Z) = some (0, hp Y (rfR Z k))) : ∃ b X', fX9_readOne f0 rr (Ad Y 9 0) (iI d) (hp Y X) = some (b, hp Y X') ∧ WF X' ∧ FrC X X' ∧ ((b = 0 ∧ JF f0 Y S 2 d X X') ∨ (b = 1 ∧ JT f0 Y S 2 d X X')) := by
  have rc := rf_C W c (k := k) k1 k4
  refine ⟨0, rfC X k, e, rc.1, rc.2.1, .inl ⟨rfl, rc.2.2, fun Z t f p => ?_⟩⟩
  have q := er Z t f p
  obtain ⟨WZ, r, kz, pn, p43, p44, pf, pb, pt⟩ := p
  have c3 := c.2.2.1
  obtain ⟨f, rfl⟩ : ∃ f1, f = f1 + 1 := ⟨f - 1, by omega⟩
  have rr := rf_R WZ c r (k := k) k1 k4
  refine ⟨rfR Z k, ?_, rr.1, TxE_R rr.2.1, rr.2.2⟩
  rw [L_bad g p44 q]
  exact s125 g rc.2.2 rr.2.2
/-- it is one that may be: both go on by a token -/
theorem one_go {f0 : Nat} {Y : YS} {X : XS} {S : Int → Int} {d : Int} (g : GY Y) (W : WF X) (c : TokC X) (kc : KC X S) (ds : DSn X S) (ne : XF X 4 0 5 ≠ 0) (ho : XF X 9 0 3 < 20) (hf : 2000 ≤ f0) : ∃ X2, fX4_step f0 (Ad Y 4 0) (hp Y (sF X 9 0 3 (XF X 9 0 3 + 1))) = some (hp Y X2) ∧ WF X2 ∧ TokC X2 ∧ KC X2 S ∧ DSn X2 S ∧ FrC X X2 ∧ hgX X2 = hgX X ∧ XF X2 8 1 3 = XF X 8 1 3 ∧ XF X2 9 0 3 = XF X 9 0 3 + 1 ∧ XF X 4 0 6 < XF X2 4 0 6 ∧ XF X2 4 0 3 = XF X 4 0 3 ∧ XF X2 4 0 10 = XF X 4 0 10 ∧ ∀ Z t f, RPre X Z S 2 t d (XF X 4 0 3 + 5) f → ∃ f1 Z2, f = f1 + 1 ∧ fX12_next f0 (Ad Y 12 0) (hp Y (sF Z 12 0 41 (XF Z 12 0 41 + 1))) = some (hp Y Z2) ∧ WF Z2 ∧ TokR X2 Z2 ∧ KZ X2 Z2 S ∧ PenR X2 Z2 t 0 0 0 ∧ XF Z2 12 0 43 = d ∧ XF Z2 12 0 44 = 0 ∧ XF Z2 12 0 42 = t ∧ XR Z2 77 0 = XR Z 77 0 ∧ TxO Z Z2 ∧ XF Z 12 0 41 = XF X 9 0 3 ∧ XF X 4 0 3 + 5 ≤ f1 + XF X2 4 0 6 := by
  obtain ⟨W1, c1, kc1, ds1, fr1⟩ := one_C W c kc ds ho
  obtain ⟨X2, e1, r1, W2, t1, lt, k1⟩ := j_step (f0 := f0) g W1 c1 ne hf
  refine ⟨X2, e1, W2, t1, KC_fr (FrC_rd r1) kc1, DSn_x r1 ds1, FrC_trans fr1 (FrC_rd r1), by rw [hgX_x r1]; rfl, by rw [r1.1 8 1 3 (by omega)]; rfl, by rw [r1.1 9 0 3 (by omega)]; rfl, lt, by rw [r1.1 4 0 3 (by omega)]; rfl, by rw [r1.1 4 0 10 (by omega)]; rfl, fun Z t f p => ?_⟩
  obtain ⟨WZ, r, kz, pn, p43, p44, pf, pb, pt⟩ := p
  have c3 := c.2.2.1
  have e41 : XF Z 12 0 41 = XF X 9 0 3 := pn.2.1.2.2
  have lt' : XF X 4 0 6 < XF X2 4 0 6 := lt
  have Wz1 : WF (sF Z 12 0 41 (XF Z 12 0 41 + 1)) := W_F WZ (by have := ds.1; omega) (by omega)
  have sz : NxS Z (sF Z 12 0 41 (XF Z 12 0 41 + 1)) := ⟨fun f hf => by rcases hf with e | e | e | e | e | e <;> subst e <;> rfl, rfl, rfl⟩
  have tz : TxO Z (sF Z 12 0 41 (XF Z 12 0 41 + 1)) := TxO_F TxO_refl (by omega)
  obtain ⟨Z2, l1, l2, l3, l4⟩ := k1 _ Wz1 (TokR_s ⟨fun _ => rfl, rfl, rfl, rfl⟩ sz r)
  have tz2 := TxO_nx tz l2
  have pn1 : PenR (sF X 9 0 3 (XF X 9 0 3 + 1)) (sF Z 12 0 41 (XF Z 12 0 41 + 1)) t 0 0 0 := by rw [e41]; exact PenR_o pn
  have e42 : XF Z 12 0 42 = t + 0 + 0 + 0 := pn.2.1.1
  refine ⟨f - 1, Z2, by omega, l1, l3, l4, KZ_fr (FrC_trans fr1 (FrC_rd r1)) tz2 kz, PenR_nx l2 (PenR_x r1 pn1), ?_, ?_, ?_, ?_, tz2, e41, by omega⟩
  · rw [l2.1 12 0 43 (by omega)]; exact p43
  · rw [l2.1 12 0 44 (by omega)]; exact p44
  · rw [l2.1 12 0 42 (by omega)]; show XF Z 12 0 42 = t; omega
  · rw [l2.2.1]; rfl
/-- a plain one -/
theorem j_leaf {f0 : Nat} {Y : YS} {X : XS} {S : Int → Int} {d : Int} {rr : Nat → Nat → Int32 → Hp → Option (Int32 × Hp)} (g : GY Y) (W : WF X) (c : TokC X) (kc : KC X S) (ds : DSn X S) (d0 : 1 ≤ d) (d8 : d ≤ 8) (h40 : ¬ XF X 4 0 5 = 40) (hk : 19 ≤ XF X 4 0 8) (ho : XF X 9 0 3 < 20) (hf : 2000 ≤ f0) : ∃ b X', fX9_readOne f0 rr (Ad Y 9 0) (iI d) (hp Y X) = some (b, hp Y X') ∧ WF X' ∧ FrC X X' ∧ ((b = 0 ∧ JF f0 Y S 2 d X X') ∨ (b = 1 ∧ JT f0 Y S 2 d X X')) := by
  have kr := key_rg c
  have so := so_rg c
  have o0 := ds.1.2.2.1
  have k1 := (key_1 c (by omega)).1
  obtain ⟨X2, e2, W2, c2, kc2, ds2, f2, h2, m2, o2, lt, e43, e10, rf⟩ := one_go (f0 := f0) (Y := Y) (d := d) g W c kc ds (by omega) ho hf
  have db := ds.1.2.1
  obtain ⟨b, X3, e3, W3, f3, hh⟩ := j_plain (f0 := f0) (Y := Y) g W2 c2 kc2 ds2 (by rw [h2, m2, o2]; unfold hgX; omega) hk kr.2 hf
  have n1 : ¬ XF X 4 0 8 < 18 := by omega
  have n2 := kr.2
  have n3 : ¬ 20 ≤ XF X 9 0 3 := by omega
  have n4 : ¬ XF X 4 0 8 = 18 := by omega
  have cl : fX9_readOne f0 rr (Ad Y 9 0) (iI d) (hp Y X) = ob2 (fX9_readPlain f0 (Ad Y 9 0) (iI (XF X 4 0 8)) (hp Y X2)) fun x h => zr x h := by
    simp (disch := first | assumption | omega | exact W_fl W _ _ _ | exact W_fh W _ _ _ | exact W_rl W _ _ _ | exact W_rh W _ _ _) only [fX9_readOne, bX9_readOne_25, bX9_readOne_51, g_9_0, g_4_8, g_4_5, li_40, li_1, li_0, li_18, li_26, g_9_3, g_9_2, p_9_3, k_4, k_9, k_8, li_20, li_8, li_2, li_41, ob2, iI_add, Option.bind_some, iI_eq, if_neg h40, if_true, iI_lt, if_neg n1, iI_le, if_pos n2, if_neg n3, if_pos d8, e2, if_neg n4]
  have ref : ∀ Z t f, RPre X Z S 2 t d (XF X 4 0 3 + 5) f → ∃ f1 Z2, f = f1 + 1 ∧ fX12_operand f0 (Ad Y 12 0) (hp Y Z) = opl f0 (Ad Y 12 0) (iI (XF X 4 0 8 - 19)) (hp Y Z2) ∧ WF Z2 ∧ TokR X2 Z2 ∧ KZ X2 Z2 S ∧ PenR X2 Z2 t 0 0 0 ∧ XF Z2 12 0 43 = d ∧ XR Z2 77 0 = XR Z 77 0 ∧ TxO Z Z2 ∧ XF Z 12 0 44 = 0 ∧ XF X 4 0 3 + 5 ≤ f1 + XF X2 4 0 6 := fun Z t f p => by
    obtain ⟨f1, Z2, q1, q2, q3, q4, q5, q6, q7, q8, q9, q10, q11, q12, q13⟩ := rf Z t f p
    obtain ⟨WZ, r, kz, pn, p43, p44, pf, pb, pt⟩ := p
    refine ⟨f1, Z2, q1, ?_, q3, q4, q5, q6, q7, q10, q11, p44, q13⟩
    rw [op_C g WZ c r kc.1 h40 hk, op38_l (iI (XF Z 12 0 41)) (iI (XF Z 12 0 43)) (g_12_41 g) (by rw [li_20, iI_eq (by omega) (by omega) (by omega) (by omega)]; omega) (g_12_43 g) (by rw [li_8, iI_le (by omega) (by omega) (by omega) (by omega)]; omega), li_1, iI_add, p_12_41 g, Option.bind_some, k_12 g, q2, Option.bind_some]
  rcases hh with ⟨b0, fa, kk⟩ | ⟨b1, t3, ds3, h3, mm3, o3, z3, p3, kk⟩
  · subst b0
    refine ⟨0, X3, by rw [cl, e3]; exact zr_i0, W3, FrC_trans f2 f3, .inl ⟨rfl, fa, fun Z t f p => ?_⟩⟩
    obtain ⟨f1, Z2, q1, q2, q3, q4, q5, q6, q7, q10, q11, p44, q13⟩ := ref Z t f p
    obtain ⟨Z', l1, l2, l3, l4⟩ := kk Z2 t q3 q4 q5 q6
    refine ⟨Z', ?_, l2, TxOE q11 l3, l4⟩
    rw [q1, L_bad g p44 (q2.trans l1)]
    exact s125 g fa l4
  · subst b1
    refine ⟨1, X3, by rw [cl, e3]; exact zr_i1, W3, FrC_trans f2 f3, .inr ⟨rfl, t3, ds3, ⟨fun w => absurd w (by decide), fun w => absurd w (by decide)⟩, by omega, by omega, by omega, by rw [z3]; exact e10, by omega, fun Z t f p => ?_⟩⟩
    obtain ⟨f1, Z2, q1, q2, q3, q4, q5, q6, q7, q10, q11, p44, q13⟩ := ref Z t f p
    obtain ⟨Z', l1, l2, l3, l4, l5, l6, l7, l8⟩ := kk Z2 t q3 q4 q5 q6
    refine ⟨f1, Z', ?_, l2, TxO_trans q11 l3, l4, ⟨0, 0, 0, l5, by omega, fun _ => rfl, fun _ => rfl, by omega⟩, l7, fun a _ _ => by rw [l8, q10], by omega⟩
    rw [q1, L_ok g p44 (q2.trans l1)]
