/-! A LOG IS READ: what is kept of a line, and its object -/
def LnR (S : Int → Int) (c o w r p q : Int) : Prop := (c = 11 ∧ r = 1 ∧ p = o ∧ 0 ≤ o ∧ o < S 0) ∨ (c = 12 ∧ r = 0 ∧ p = o ∧ 0 ≤ o ∧ o < S 1) ∨ (c = 13 ∧ r = 2 ∧ p = o ∧ 1 ≤ o ∧ o ≤ 60) ∨ (c = 14 ∧ r = 3) ∨ (c = 15 ∧ r = 4 ∧ p = w ∧ q = o ∧ (0 ≤ w ∧ w < S 3) ∧ 0 ≤ o ∧ o < S 2)
def KL (X : XS) (S : Int → Int) : Prop := RsC X ∧ ∀ s, isN s → NmS X 0 s ∧ XR X 25 0 s = ncS S s
theorem KL_fr {X X' : XS} {S : Int → Int} (f : FrC X X') (h : KL X S) : KL X' S := by
  unfold KL RsC NmS at *
  rw [f.2.2.1 21 0 (by omega), f.2.1 25 0 (by omega), f.2.1 23 0 (by omega), f.2.1 24 0 (by omega), f.1 3 0 3 (by omega)]
  exact h
theorem KZ_R {X X' Z Z' : XS} {S : Int → Int} (f : FrC X X') (t : FrR Z Z') (h : KZ X Z S) : KZ X' Z' S := by
  obtain ⟨h1, h2, h3, h4⟩ := h
  refine ⟨?_, ?_, h3, by rw [t.2.1 61 0 (by omega)]; exact h4⟩
  · unfold RsR at *; rw [t.2.2.1 65 0 (by omega)]; exact h1
  · rw [f.2.2.1 22 0 (by omega), f.2.1 23 0 (by omega), f.2.1 24 0 (by omega), f.1 3 0 3 (by omega)]
    exact NamI_nm (fun s hs => (h3 s hs).2) (fun i _ i1 => t.2.2.2.1 (0 + i) (by omega)) h2
def lgP (X : XS) (v1 v2 : Int) : XS := sR (sR X 40 0 (upi (XR X 40 0) (XF X 2 0 5) v2)) 42 0 (upi (XR X 42 0) (XF X 2 0 5) v1)
theorem lgP_W {X : XS} (W : WF X) {v1 v2 : Int} (h1 : Rg v1) (h2 : Rg v2) : WF (lgP X v1 v2) := by
  unfold lgP
  refine W_R (W_R W fun i => ?_) fun i => ?_
  · rw [upi_at]; split
    · exact h2
    · exact W.2 _ _ _
  · rw [upi_at]; split
    · exact h1
    · exact W.2 _ _ _
theorem lgP_Rd {X : XS} {v1 v2 : Int} : RdS X (lgP X v1 v2) := ⟨fun _ => rfl, rfl, rfl, rfl⟩
theorem lgP_Fr {X : XS} {v1 v2 : Int} : FrC X (lgP X v1 v2) := FrC_R (FrC_R FrC_refl (by decide)) (by decide)
/-- what a line that was read has changed: its act, its object, its man -/
def LgD (X X' : XS) (c o w : Int) : Prop := WF X' ∧ FrC X X' ∧ TokC X' ∧ XF X 4 0 6 ≤ XF X' 4 0 6 ∧ XF X' 2 0 5 = XF X 2 0 5 ∧ XF X' 4 0 10 = XF X 4 0 10 ∧ XR X' 40 0 = upi (XR X 40 0) (XF X 2 0 5) c ∧ XR X' 41 0 = upi (XR X 41 0) (XF X 2 0 5) o ∧ XR X' 42 0 = upi (XR X 42 0) (XF X 2 0 5) w
def LZ (X Z : XS) (S : Int → Int) : Prop := WF Z ∧ TokR X Z ∧ KZ X Z S
theorem lo_put {f0 : Nat} {Y : YS} {X : XS} {S : Int → Int} {T : Hp → Option (Int32 × Hp)} {P : Int → Prop} {v1 v2 : Int} (g : GY Y) (W : WF X) (c : TokC X) (m0 : 0 ≤ XF X 2 0 5) (m1 : XF X 2 0 5 < 40) (h1 : Rg v1) (h2 : Rg v2) (n14 : ¬ v2 = 14) (hP : ∀ v, P v → 0 ≤ v ∧ v ≤ 999) (hf : 2000 ≤ f0)
    (hl : ∃ v X3, fX2_lookObject f0 (Ad Y 2 0) (iI v2) (hp Y (lgP X v1 v2)) = some (iI v, hp Y X3) ∧ ((v = -1 ∧ WF X3 ∧ FrC (lgP X v1 v2) X3 ∧ XF X3 2 0 5 = XF X 2 0 5 ∧ FaC X3 ∧ ∀ Z, LZ (lgP X v1 v2) Z S → ∃ Z', T (hp Y Z) = some (0, hp Y Z') ∧ WF Z' ∧ FrR Z Z' ∧ FaR X3 Z') ∨ (P v ∧ X3 = lgP X v1 v2 ∧ XF X 4 0 5 ≠ 0 ∧ ∀ Z, LZ (lgP X v1 v2) Z S → T (hp Y Z) = (fX12_next f0 (Ad Y 12 0) (hp Y (sF Z 12 0 18 v))).bind fun h => zr 1 h))) :
    ∃ X', (bX2_readLine_107 f0 (Ad Y 2 0) (iI v1) (iI v2) (hp Y X) = some (0, hp Y X') ∧ WF X' ∧ FrC X X' ∧ FaC X' ∧ ∀ Z, LZ X Z S → ∃ Z', T (hp Y Z) = some (0, hp Y Z') ∧ WF Z' ∧ FrR Z Z' ∧ FaR X' Z') ∨ (∃ v, P v ∧ bX2_readLine_107 f0 (Ad Y 2 0) (iI v1) (iI v2) (hp Y X) = bX2_readLine_169 f0 (Ad Y 2 0) (hp Y X') ∧ LgD X X' v2 v v1 ∧ ∀ Z, LZ X Z S → ∃ Z', T (hp Y Z) = some (1, hp Y Z') ∧ WF Z' ∧ NxF (sF Z 12 0 18 v) Z' ∧ TokR X' Z') := by
  obtain ⟨v, X3, el, hh⟩ := hl
  obtain ⟨X2, hX2⟩ : ∃ X2, X2 = lgP X v1 v2 := ⟨_, rfl⟩
  have W2 : WF X2 := by rw [hX2]; exact lgP_W W h1 h2
  have c2 : TokC X2 := by rw [hX2]; exact TokC_s lgP_Rd c
  have f2 : FrC X X2 := by rw [hX2]; exact lgP_Fr
  have rd2 : RdS X X2 := by rw [hX2]; exact lgP_Rd
  have x25 : XF X2 2 0 5 = XF X 2 0 5 := by rw [hX2]; rfl
  have x41 : XR X2 41 0 = XR X 41 0 := by rw [hX2]; rfl
  have lz : ∀ Z, LZ X Z S → LZ X2 Z S := fun Z h => ⟨h.1, TokR_s rd2 NxS_refl h.2.1, KZ_R f2 FrR_refl h.2.2⟩
  have y1 : ∀ r, XF (sR X 40 0 r) 2 0 5 = XF X 2 0 5 := fun _ => rfl
  have y2 : ∀ r, XR (sR X 40 0 r) 42 0 = XR X 42 0 := fun _ => rfl
  rw [← hX2] at el hh
  have el' : fX2_lookObject f0 (Ad Y 2 0) (iI v2) (hp Y (sR (sR X 40 0 (upi (XR X 40 0) (XF X 2 0 5) v2)) 42 0 (upi (XR X 42 0) (XF X 2 0 5) v1))) = some (iI v, hp Y X3) := by rw [hX2] at el; exact el
  have y3 : ∀ r r', XF (sR (sR X 40 0 r) 42 0 r') 2 0 5 = XF X 2 0 5 := fun _ _ => rfl
  have cl : bX2_readLine_107 f0 (Ad Y 2 0) (iI v1) (iI v2) (hp Y X) = (stI 1 (hp Y X3) (Ad Y 41 0) (iI (XF X 2 0 5)) (iI v)).bind fun h146 => (gfN 2 3 h146 (Ad Y 2 0)).bind fun x148 => (gfI 2 5 h146 (Ad Y 2 0)).bind fun x152 => (ldI 1 h146 x148 x152).bind fun x155 => (if x155 = (-1) then zr 0 h146 else (gfN 2 0 h146 (Ad Y 2 0)).bind fun x163 => (ckO 4 h146 x163).bind fun _ => (fX4_step f0 x163 h146).bind fun h166 => bX2_readLine_169 f0 (Ad Y 2 0) h166) := by
    have v2a := h2.1; have v2b := h2.2
    unfold bX2_readLine_107
    simp (disch := first | assumption | omega) only [g_2_2, g_2_3, g_2_4, g_2_5, k_2, s_40, s_42, Option.bind_some, y1, y2, y3, li_14, iI_eq, if_neg n14, el', ob2_some]
  have x35 : XF X3 2 0 5 = XF X 2 0 5 := by
    rcases hh with ⟨_, _, _, q, _⟩ | ⟨_, q, _⟩
    · exact q
    · rw [q]; exact x25
  have vr : Rg v := by
    rcases hh with ⟨q, _⟩ | ⟨q, _⟩
    · rw [q]; exact ⟨by decide, by decide⟩
    · have := hP v q; exact ⟨by omega, by omega⟩
  obtain ⟨X4, hX4⟩ : ∃ X4, X4 = sR X3 41 0 (upi (XR X3 41 0) (XF X 2 0 5) v) := ⟨_, rfl⟩
  have x45 : XF X4 2 0 5 = XF X 2 0 5 := by rw [hX4]; exact x35
  have l41 : XR X4 41 0 (XF X 2 0 5) = v := by rw [hX4]; exact upi_eq _ _ _
  have st : stI 1 (hp Y X3) (Ad Y 41 0) (iI (XF X 2 0 5)) (iI v) = some (hp Y X4) := by rw [hX4]; exact s_41 g m0 m1
  have ld := l_41 (Y := Y) (X := X4) g m0 m1
  rw [l41] at ld
  have W4 : WF X3 → WF X4 := fun w => by
    rw [hX4]
    refine W_R w fun i => ?_
    rw [upi_at]; split
    · exact vr
    · exact w.2 _ _ _
  rw [st, Option.bind_some, g_2_3 g, Option.bind_some, g_2_5 g, Option.bind_some, x45, ld, Option.bind_some] at cl
  rcases hh with ⟨q1, w3, f3, _, fa, kk⟩ | ⟨pv, q2, q3, kk⟩
  · refine ⟨X4, .inl ⟨?_, W4 w3, ?_, ?_, fun Z hz => ?_⟩⟩
    · rw [cl, if_pos (by rw [q1]; rfl)]; exact zr_i0
    · rw [hX4]; exact FrC_R (FrC_trans f2 f3) (by decide)
    · rw [hX4]; exact fa
    · obtain ⟨Z', l1, l2, l3, l4⟩ := kk Z (lz Z hz)
      exact ⟨Z', l1, l2, l3, by rw [hX4]; exact l4⟩
  · subst q2
    have v0 := hP v pv
    have w4 := W4 W2
    have rd4 : RdS X X4 := by rw [hX4]; exact ⟨rd2.1, rd2.2.1, rd2.2.2.1, rd2.2.2.2⟩
    have c4 := TokC_s rd4 c
    obtain ⟨X5, e5, r5, W5, c5, lt5, k5⟩ := j_step (f0 := f0) g w4 c4 (by rw [rd4.1 5]; exact q3) hf
    rw [rd4.1 6] at lt5
    have nv : ¬ iI v = (-1 : Int32) := by
      rw [show (-1 : Int32) = iI (-1) from rfl, iI_eq (by omega) (by omega) (by omega) (by omega)]; omega
    refine ⟨X5, .inr ⟨v, pv, ?_, ⟨W5, ?_, c5, by omega, ?_, ?_, ?_, ?_, ?_⟩, fun Z hz => ?_⟩⟩
    · rw [cl, if_neg nv, g_2_0 g, Option.bind_some, k_4 g, e5, Option.bind_some]
    · refine FrC_trans (FrC_trans f2 ?_) (FrC_rd r5)
      rw [hX4]; exact FrC_R FrC_refl (by decide)
    · rw [r5.1 2 0 5 (by omega)]; exact x45
    · rw [r5.1 4 0 10 (by omega)]; exact rd4.1 10
    · rw [r5.2.1, hX4, hX2]; rfl
    · rw [r5.2.1, hX4]; show upi (XR X3 41 0) _ _ = _; rw [x41]
    · rw [r5.2.1, hX4, hX2]; rfl
    · have wz : WF (sF Z 12 0 18 v) := W_F hz.1 (by omega) (by omega)
      have sz : NxS Z (sF Z 12 0 18 v) := ⟨fun f hf => by rcases hf with e | e | e | e | e | e <;> subst e <;> rfl, rfl, rfl⟩
      obtain ⟨Z', u1, u2, u3, u4⟩ := k5 _ wz (TokR_s rd4 sz hz.2.1)
      exact ⟨Z', by rw [kk Z (lz Z hz), u1]; exact zr_i1, u3, u2, u4⟩
theorem lo_n {f0 : Nat} {Y : YS} {X : XS} {S : Int → Int} {v1 v2 s : Int} (g : GY Y) (W : WF X) (c : TokC X) (kl : KL X S) (hnc : ∀ s, isN s → ncS S s ≤ 8) (m0 : 0 ≤ XF X 2 0 5) (m1 : XF X 2 0 5 < 40) (h1 : Rg v1) (hs : v2 = 11 ∧ s = 0 ∨ v2 = 12 ∧ s = 3 ∨ v2 = 15 ∧ s = 4) (hf : 2000 ≤ f0) :
    ∃ X', (bX2_readLine_107 f0 (Ad Y 2 0) (iI v1) (iI v2) (hp Y X) = some (0, hp Y X') ∧ WF X' ∧ FrC X X' ∧ FaC X' ∧ ∀ Z, LZ X Z S → ∃ Z', fX12_takesName f0 (Ad Y 12 0) (iI (nbS s)) (iI (ncS S s)) (hp Y Z) = some (0, hp Y Z') ∧ WF Z' ∧ FrR Z Z' ∧ FaR X' Z') ∨ (∃ v, (0 ≤ v ∧ v < ncS S s) ∧ bX2_readLine_107 f0 (Ad Y 2 0) (iI v1) (iI v2) (hp Y X) = bX2_readLine_169 f0 (Ad Y 2 0) (hp Y X') ∧ LgD X X' v2 v v1 ∧ ∀ Z, LZ X Z S → ∃ Z', fX12_takesName f0 (Ad Y 12 0) (iI (nbS s)) (iI (ncS S s)) (hp Y Z) = some (1, hp Y Z') ∧ WF Z' ∧ NxF (sF Z 12 0 18 v) Z' ∧ TokR X' Z') := by
  have is : isN s := by unfold isN; omega
  have h2 : Rg v2 := ⟨by omega, by omega⟩
  have w2 := lgP_W (X := X) W h1 h2
  have f2 : FrC X (lgP X v1 v2) := lgP_Fr
  have kl2 := KL_fr f2 kl
  have n8 := hnc s is
  refine lo_put (P := fun v => 0 ≤ v ∧ v < ncS S s) g W c m0 m1 h1 h2 (by omega) (fun v pv => ⟨pv.1, by omega⟩) hf ?_
  obtain ⟨v, X3, e3, hh⟩ := j_look (f0 := f0) (SeO_0 g) w2 (TokC_s lgP_Rd c) kl2.1 (kl2.2 s is).1 is (by omega)
  refine ⟨v, X3, ?_, ?_⟩
  · obtain ⟨X2, hX2⟩ : ∃ X2, X2 = lgP X v1 v2 := ⟨_, rfl⟩
    rw [← hX2] at e3 ⊢
    rcases hs with q | q | q <;> (rw [q.2] at e3; rw [q.1]; unfold fX2_lookObject; simp (disch := first | assumption | omega) only [g_2_0, g_2_1, k_4, li_11, li_12, li_13, li_0, li_3, li_4, iI_eq, Int.reduceEq, if_true, if_false, Option.bind_some, e3, ob2_some])
  · rcases hh with ⟨q1, w3, f3, fa, kk⟩ | ⟨v0, q2, q3, q4, kk⟩
    · obtain ⟨v', X3', e3', hh', _⟩ := e_look (f0 := f0) (SeO_0 g) w2 (TokC_s lgP_Rd c) (kl2.2 s is).1 is (by omega)
      refine .inl ⟨q1, w3, f3, ?_, fa, fun Z hz => ?_⟩
      · have ee := e3.symm.trans e3'
        have e5 : gfI 2 5 (hp Y X3) (Ad Y 2 0) = gfI 2 5 (hp Y X3') (Ad Y 2 0) := by
          have := congrArg (fun z => z.map (fun q => gfI 2 5 q.2 (Ad Y 2 0))) ee
          exact Option.some.inj this
        rw [g_2_5 g, g_2_5 g] at e5
        have x5 : XF X3' 2 0 5 = XF X 2 0 5 := by
          rcases hh' with ⟨_, k, ek, _⟩ | ⟨_, _, ek, _⟩
          · rw [ek]; rfl
          · rw [ek]; rfl
        rw [x5] at e5
        have e6 := Option.some.inj e5
        have r3 := w3.1 2 0 5
        rw [iI_eq r3.1 r3.2 (by omega) (by omega)] at e6
        exact e6
      · obtain ⟨Z', l1, l2, l3, l4⟩ := kk Z S 0 (nbS s) (KZ_L hz.1 hz.2.1 hz.2.2) (by omega)
        refine ⟨Z', ?_, l2, l3, l4⟩
        simp (disch := first | assumption | omega) only [fX12_takesName, k_12, li_0, li_1, ob2, Option.bind_some, iI_add, l1, ob2_some, if_true]
        exact zr_i0
    · refine .inr ⟨⟨v0.1, by rw [← (kl2.2 s is).2]; exact v0.2⟩, q2, by show XF X 4 0 5 ≠ 0; have : XF X 4 0 5 = 1 := q3; omega, fun Z hz => ?_⟩
      obtain ⟨_, l1⟩ := kk Z S 0 (nbS s) (KZ_L hz.1 hz.2.1 hz.2.2) (by omega)
      have n1 : ¬ (1 : Int) = 0 := by decide
      have l1' : fX12_looksAt f0 (Ad Y 12 0) (iI (nbS s)) (iI (ncS S s)) (hp Y Z) = some (iI 1, hp Y (sF Z 12 0 18 v)) := l1
      simp (disch := first | assumption | omega) only [fX12_takesName, k_12, li_0, li_1, ob2, Option.bind_some, iI_add, l1', ob2_some, iI_eq, if_neg n1]
theorem lo_13 {f0 : Nat} {Y : YS} {X : XS} {S : Int → Int} {v1 : Int} (g : GY Y) (W : WF X) (c : TokC X) (m0 : 0 ≤ XF X 2 0 5) (m1 : XF X 2 0 5 < 40) (h1 : Rg v1) (hf : 2000 ≤ f0) :
    ∃ X', (bX2_readLine_107 f0 (Ad Y 2 0) (iI v1) (iI 13) (hp Y X) = some (0, hp Y X') ∧ WF X' ∧ FrC X X' ∧ FaC X' ∧ ∀ Z, LZ X Z S → ∃ Z', fX12_takes f0 (Ad Y 12 0) (iI 1) (iI 60) (hp Y Z) = some (0, hp Y Z') ∧ WF Z' ∧ FrR Z Z' ∧ FaR X' Z') ∨ (∃ v, (1 ≤ v ∧ v ≤ 60) ∧ bX2_readLine_107 f0 (Ad Y 2 0) (iI v1) (iI 13) (hp Y X) = bX2_readLine_169 f0 (Ad Y 2 0) (hp Y X') ∧ LgD X X' 13 v v1 ∧ ∀ Z, LZ X Z S → ∃ Z', fX12_takes f0 (Ad Y 12 0) (iI 1) (iI 60) (hp Y Z) = some (1, hp Y Z') ∧ WF Z' ∧ NxF (sF Z 12 0 18 v) Z' ∧ TokR X' Z') := by
  have h2 : Rg (13 : Int) := ⟨by decide, by decide⟩
  have w2 := lgP_W (X := X) W h1 h2
  refine lo_put (P := fun v => 1 ≤ v ∧ v ≤ 60) g W c m0 m1 h1 h2 (by decide) (fun v pv => by omega) hf ?_
  obtain ⟨v, X3, e3, hh⟩ := j_num (f0 := f0) g w2 (TokC_s lgP_Rd c) (lo := 1) (hi := 60) (by decide) (by decide) (by decide)
  refine ⟨v, X3, ?_, ?_⟩
  · obtain ⟨X2, hX2⟩ : ∃ X2, X2 = lgP X v1 13 := ⟨_, rfl⟩
    rw [← hX2] at e3 ⊢
    unfold fX2_lookObject
    simp (disch := first | assumption | omega) only [g_2_0, k_4, li_11, li_12, li_13, li_1, li_60, iI_eq, Int.reduceEq, if_true, if_false, Option.bind_some, e3, ob2_some]
  · rcases hh with ⟨q1, w3, f3, fa, ka, kb, kk⟩ | ⟨v0, q2, q3, q4, kk⟩
    · refine .inl ⟨q1, w3, f3, ?_, fa, fun Z hz => kk Z hz.1 hz.2.1⟩
      by_cases q : XF (lgP X v1 13) 4 0 5 = 2
      · rw [(ka q).2]; rfl
      · rw [kb q]; rfl
    · exact .inr ⟨v0, q2, by show XF X 4 0 5 ≠ 0; have : XF X 4 0 5 = 2 := q3; omega, fun Z hz => kk Z hz.1 hz.2.1⟩
