/-! A SENTENCE IS READ: a plain condition with a name or a number -/
theorem NxS_nx {Z Z' : XS} (f : ∀ f, f = 3 ∨ f = 4 ∨ f = 5 ∨ f = 11 ∨ f = 12 ∨ f = 14 → XF Z' 12 0 f = XF Z 12 0 f) (h : XR Z' 60 0 = XR Z 60 0) (j : XJ Z' 12 0 = XJ Z 12 0) : NxS Z Z' := ⟨f, h, j⟩
theorem RdS_id {X : XS} : RdS X X := ⟨fun _ => rfl, rfl, rfl, rfl⟩
theorem PenR_x {X X' Z : XS} {t i j k : Int} (f : RdF X X') (h : PenR X Z t i j k) : PenR X' Z t i j k := by
  unfold PenR at *
  rw [f.1 8 1 3 (by omega), f.1 9 0 3 (by omega), f.2.1]
  exact h
theorem DSn_x {X X' : XS} {S : Int → Int} (f : RdF X X') (h : DSn X S) : DSn X' S := by
  unfold DSn at *
  rw [f.1 8 1 3 (by omega), f.1 9 0 3 (by omega), f.2.1]
  exact h
theorem hgX_x {X X' : XS} (f : RdF X X') : hgX X' = hgX X := by
  unfold hgX
  rw [f.1 8 1 3 (by omega), f.2.1]
theorem PenR_nx {X Z Z' : XS} {t i j k : Int} (n : NxF Z Z') (h : PenR X Z t i j k) : PenR X Z' t i j k := PenR_cg h (n.1 12 0 40 (by omega)) (n.1 12 0 41 (by omega)) (n.1 12 0 42 (by omega)) (by rw [n.2.1]) (by rw [n.2.1])
/-- a step with a value: the class goes on and puts it down, the reference puts it down and goes on -/
theorem pl_put {f0 : Nat} {Y : YS} {X : XS} {S : Int → Int} (g : GY Y) (W : WF X) (c : TokC X) (ne : XF X 4 0 5 ≠ 0) (ds : DSn X S) (rm : XF X 8 1 3 + hgX X + 2 ≤ 2 * XF X 9 0 3) {q b v : Int} (q0 : 22 ≤ q) (q1 : q ≤ 26) (hb : 0 ≤ b ∧ b ≤ 62) (hv : 0 ≤ v ∧ v ≤ 999) (o : (q = 22 → 0 ≤ v ∧ v < S 1) ∧ (q = 23 → 0 ≤ v ∧ v < S 0) ∧ (24 ≤ q → (60 ≤ b ∧ b ≤ 62) ∧ 0 ≤ v ∧ v ≤ 999)) (hf : 2000 ≤ f0) : ∃ X', bX9_readPlain_108 f0 (Ad Y 9 0) (iI q) (iI b) (iI v) (hp Y X) = some (1, hp Y X') ∧ WF X' ∧ FrC X X' ∧ TokC X' ∧ DSn X' S ∧ hgX X' = hgX X + 1 ∧ XF X' 8 1 3 = XF X 8 1 3 + 1 ∧ XF X' 9 0 3 = XF X 9 0 3 ∧ XF X' 4 0 10 = XF X 4 0 10 ∧ XF X 4 0 6 ≤ XF X' 4 0 6 ∧ ∀ Z t, WF Z → TokR X Z → PenR X Z t 0 0 0 → ∃ Z', (fX12_next f0 (Ad Y 12 0) (hp Y (cdZ Z (q - 19) b v))) = some (hp Y Z') ∧ WF Z' ∧ TxO Z Z' ∧ TokR X' Z' ∧ PenR X' Z' t 0 0 0 ∧ XF Z' 12 0 43 = XF Z 12 0 43 ∧ XF Z' 12 0 44 = XF Z 12 0 44 ∧ XR Z' 77 0 = XR Z 77 0 := by
  have so := StO_1 g
  obtain ⟨X1, e1, r1, W1, t1, lt, k1⟩ := j_step (f0 := f0) g W c ne hf
  have ds1 := DSn_x r1 ds
  have hx := hgX_x r1
  have hr := hgX_rg ds1
  have d1 := ds1.1
  have m1 := r1.1 8 1 3 (by omega)
  have o1 := r1.1 9 0 3 (by omega)
  have rq : Rg q := ⟨by omega, by omega⟩
  have rb : Rg b := ⟨by omega, by omega⟩
  have rv : Rg v := ⟨by omega, by omega⟩
  have hd : (if q = 18 then (0 : Int) else if q = 17 ∨ q = 16 then -1 else 1) = 1 := by rw [if_neg (by omega), if_neg (by omega)]
  have ad := e_addS (f0 := f0) (Y := Y) so W1 (a := q) (b := b) (c := v) d1.1 (by omega)
  have n1 : ¬ v = -1 := by omega
  have n2 : ¬ q < 22 := by omega
  refine ⟨adX X1 q b v, ?_, ad_W W1 rq rb rv d1.1 (by omega), FrC_trans (FrC_rd r1) ad_Fr, TokC_s ad_Rd t1, DSn_ad ds1 (by rw [hd]; omega) ⟨by omega, fun w => by omega, fun w => by omega, o⟩, by rw [ad_hg d1.1, hd]; omega, by rw [ad_m, m1], by rw [ad_o]; exact o1, (show XF X1 4 0 10 = XF X 4 0 10 from r1.1 4 0 10 (by omega)), ?_, fun Z t WZ r p => ?_⟩
  · simp (disch := first | assumption | omega) only [bX9_readPlain_108, bX9_readPlain_128, g_9_0, k_4, lm_1, li_1, li_0, li_22, g_9_2, k_8, Option.bind_some, iI_add, iI_neg, iI_neg, iI_eq, if_neg n1, iI_lt, if_neg n2, e1, ad]
    exact zr_i1
  · show XF X 4 0 6 ≤ XF X1 4 0 6
    omega
  · have p3 := p.2.2.1; have p2 := p.2.1
    have sz : NxS Z (cdZ Z (q - 19) b v) := ⟨fun f hf => by rcases hf with e | e | e | e | e | e <;> subst e <;> rfl, rfl, rfl⟩
    have Wc : WF (cdZ Z (q - 19) b v) := WF_cd WZ ⟨by omega, by omega⟩ rb rv (by omega) (by omega)
    obtain ⟨Z', l1, l2, l3, l4⟩ := k1 _ Wc (TokR_s RdS_id sz r)
    refine ⟨Z', l1, l3, TxO_nx (TxO_cd TxO_refl) l2, TokR_s ad_Rd ⟨fun _ _ => rfl, rfl, rfl⟩ l4, PenR_nx l2 (PenR_leaf (PenR_x r1 p) (by omega) (by omega)), ?_, ?_, ?_⟩
    · rw [l2.1 12 0 43 (by omega)]; rfl
    · rw [l2.1 12 0 44 (by omega)]; rfl
    · rw [l2.2.1]; rfl
theorem pl_n {f0 : Nat} {Y : YS} {X : XS} {S : Int → Int} (g : GY Y) (W : WF X) (c : TokC X) (kc : KC X S) (ds : DSn X S) (rm : XF X 8 1 3 + hgX X + 2 ≤ 2 * XF X 9 0 3) {q s : Int} (hq : q = 22 ∧ s = 3 ∨ q = 23 ∧ s = 0) (hf : 2000 ≤ f0) : ∃ b X', fX9_readPlain f0 (Ad Y 9 0) (iI q) (hp Y X) = some (b, hp Y X') ∧ WF X' ∧ FrC X X' ∧ ((b = 0 ∧ PlF f0 Y X X' S q) ∨ (b = 1 ∧ PlT f0 Y X X' S q)) := by
  obtain ⟨rs, ⟨nm0, nm3⟩, c0, c3⟩ := kc
  have hs : isN s := by unfold isN; omega
  have nm : NmS X 0 s := by rcases hq with e | e <;> rw [e.2] <;> assumption
  have sn : XR X 25 0 s ≤ 8 := nm.2.1
  obtain ⟨v, X', e, hh⟩ := j_look (f0 := f0) (SeO_0 g) W c rs nm hs (by omega)
  have cl : fX9_readPlain f0 (Ad Y 9 0) (iI q) (hp Y X) = bX9_readPlain_108 f0 (Ad Y 9 0) (iI q) (iI 0) (iI v) (hp Y X') := by
    rcases hq with w | w
    · rw [w.2] at e
      have w1 := w.1
      simp (disch := first | assumption | omega) only [fX9_readPlain, g_9_0, g_9_1, g_4_5, k_4, li_22, li_3, li_0, li_23, li_24, li_60, li_61, li_62, li_1, ob2, Option.bind_some, iI_add, iI_eq, w1, if_true, e]
    · rw [w.2] at e
      have w1 := w.1
      simp (disch := first | assumption | omega) only [fX9_readPlain, g_9_0, g_9_1, g_4_5, k_4, li_22, li_3, li_0, li_23, li_24, li_60, li_61, li_62, li_1, ob2, Option.bind_some, iI_add, iI_eq, w1, Int.reduceEq, if_true, if_false, e]
  rw [cl]
  have zz : ∀ Z, pfZ 12 44 (hp Y Z) (Ad Y 12 0) (iI 1) = some (hp Y (sF Z 12 0 44 1)) := fun Z => z_12_44 g (.inr rfl)
  have opn : ∀ Z, XR Z 61 0 = S → opl f0 (Ad Y 12 0) (iI (q - 19)) (hp Y Z) = ob2 (fX12_looksAt f0 (Ad Y 12 0) (iI (0 + nbS s)) (iI (ncS S s)) (hp Y (sF Z 12 0 44 1))) fun x177 h177 => (if x177 = 0 then zr 0 h177 else (gfI 12 18 h177 (Ad Y 12 0)).bind fun x189 => (ckO 12 h177 (Ad Y 12 0)).bind fun _ => (fX12_code f0 (Ad Y 12 0) (iI (q - 19)) 0 x189 h177).bind fun h192 => (ckO 12 h192 (Ad Y 12 0)).bind fun _ => (fX12_next f0 (Ad Y 12 0) h192).bind fun h196 => zr 1 h196) := fun Z hS => by
    have y61 : XR (sF Z 12 0 44 1) 61 0 = S := hS
    have n4 : 3 ≤ q - 19 := by omega
    have n5 : ¬ 5 ≤ q - 19 := by omega
    rcases hq with w | w
    · obtain ⟨w1, w2⟩ := w
      subst w1; subst w2
      have b1 : nbS 3 = 8 := rfl
      have b2 : ncS S 3 = S 1 := rfl
      simp (disch := first | assumption | omega) only [opl, bX12_operand_162, bX12_operand_176, g_12_6, li_3, li_1, li_0, g_12_18, k_12, ob2, Option.bind_some, iI_add, li_8, li_1, li_3, li_5, li_0, zz, iI_le, Int.reduceSub, Int.reduceLE, if_true, if_false, iI_eq, k_12 g, l_61, y61, b1, b2, Int.zero_add]
    · obtain ⟨w1, w2⟩ := w
      subst w1; subst w2
      have b1 : nbS 0 = 0 := rfl
      have b2 : ncS S 0 = S 0 := rfl
      simp (disch := first | assumption | omega) only [opl, bX12_operand_162, bX12_operand_176, g_12_6, li_3, li_1, li_0, g_12_18, k_12, ob2, Option.bind_some, iI_add, li_8, li_1, li_3, li_5, li_0, zz, iI_le, Int.reduceSub, Int.reduceLE, Int.reduceEq, if_true, if_false, iI_eq, k_12 g, l_61, y61, b1, b2, Int.zero_add]
  have sz : ∀ Z, NxS Z (sF Z 12 0 44 1) := fun Z => ⟨fun f hf => by rcases hf with e | e | e | e | e | e <;> subst e <;> rfl, rfl, rfl⟩
  have tz : ∀ Z, TxO Z (sF Z 12 0 44 1) := fun Z => TxO_F TxO_refl (by omega)
  rcases hh with ⟨v1, W', fr, fa, kk⟩ | ⟨v0, eX, k5, k8, kk⟩
  · subst v1
    refine ⟨0, X', ?_, W', fr, .inl ⟨rfl, fa, fun Z t WZ r kz p => ?_⟩⟩
    · simp (disch := first | assumption | omega) only [bX9_readPlain_108, g_9_0, k_4, lm_1, li_1, li_0, li_22, Option.bind_some, iI_add, iI_neg, iI_neg, iI_eq, if_true]
      exact zr_i0
    · have W1 : WF (sF Z 12 0 44 1) := W_F WZ (by decide) (by decide)
      obtain ⟨Z', l1, l2, l3, l4⟩ := kk (sF Z 12 0 44 1) S 0 (0 + nbS s) (KZ_L W1 (TokR_s RdS_id (sz Z) r) (KZ_fr FrC_refl (tz Z) kz)) rfl
      refine ⟨Z', ?_, l2, TxOE (tz Z) (TxE_R l3), l4⟩
      rw [opn Z kz.2.2.2, l1]
      exact zr_i0
  · subst eX
    have hv : 0 ≤ v ∧ v ≤ 999 := by omega
    obtain ⟨X2, e2, W2, f2, t2, ds2, h2, mm2, o2, z2, p2, k2⟩ := pl_put (f0 := f0) (Y := Y) (S := S) g W c (by omega) ds rm (q := q) (b := 0) (v := v) (by omega) (by omega) ⟨by omega, by omega⟩ hv ⟨fun w => ⟨by omega, by rw [← c3, show (3 : Int) = s by omega]; exact v0.2⟩, fun w => ⟨by omega, by rw [← c0, show (0 : Int) = s by omega]; exact v0.2⟩, fun w => by omega⟩ hf
    refine ⟨1, X2, e2, W2, f2, .inr ⟨rfl, t2, ds2, h2, mm2, o2, z2, p2, fun Z t WZ r kz p => ?_⟩⟩
    have W1 : WF (sF Z 12 0 44 1) := W_F WZ (by decide) (by decide)
    obtain ⟨l0, l1⟩ := kk (sF Z 12 0 44 1) S 0 (0 + nbS s) (KZ_L W1 (TokR_s RdS_id (sz Z) r) (KZ_fr FrC_refl (tz Z) kz)) rfl
    obtain ⟨Z2, hZ2⟩ : ∃ Z2, Z2 = sF (sF Z 12 0 44 1) 12 0 18 v := ⟨_, rfl⟩
    rw [← hZ2] at l1
    have Wz2 : WF Z2 := by rw [hZ2]; exact W_F W1 (by omega) (by omega)
    have s2 : NxS Z Z2 := by rw [hZ2]; exact ⟨fun f hf => by rcases hf with e | e | e | e | e | e <;> subst e <;> rfl, rfl, rfl⟩
    have p3 := p.2.2.1; have pp2 := p.2.1
    have z40 : XF Z2 12 0 40 = XF Z 12 0 40 := by rw [hZ2]; rfl
    have z18 : XF Z2 12 0 18 = v := by rw [hZ2]; rfl
    have pz : PenR _ Z2 t 0 0 0 := PenR_cg p z40 (by rw [hZ2]; rfl) (by rw [hZ2]; rfl) (by rw [hZ2]; rfl) (by rw [hZ2]; rfl)
    obtain ⟨Z', m1, m2, m3, m4, m5, m6, m7, m8⟩ := k2 Z2 t Wz2 (TokR_s RdS_id s2 r) pz
    have cd := r_code (f0 := f0) (Y := Y) (Z := Z2) g (a := q - 19) (b := 0) (c := v) (by omega) (by omega)
    refine ⟨Z', ?_, m2, TxO_trans (by rw [hZ2]; exact TxO_F (tz Z) (by omega)) m3, m4, m5, by rw [m6, hZ2]; rfl, by rw [m7, hZ2]; rfl, by rw [m8, hZ2]; rfl⟩
    rw [opn Z kz.2.2.2, l1]
    simp (disch := first | assumption | omega) only [ob2, Option.bind_some, li_1, li_0, iI_eq, Int.reduceEq, if_false, g_12_18 g, z18, k_12 g, cd, m1]
    exact zr_i1
