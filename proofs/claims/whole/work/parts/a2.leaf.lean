/-! WHAT MAY BE SAID OF A PORT: one step of the reference -/
theorem r_isLeaf {f0 : Nat} {Y : YS} {X : XS} (h : Inv Y X) {i p : Int} (i0 : 0 ≤ i) (i1 : i < XF X 8 0 3) (p0 : 0 ≤ p) (p1 : p < XR X 25 0 0) (hl : 19 ≤ XR X 36 0 i) (hf : 300 ≤ f0) : ans (lfP X i p) (fX12_isLeaf f0 (Ad Y 12 0) (iI p) (iI (XR X 36 0 i - 19)) (iI (XR X 37 0 i)) (iI (XR X 38 0 i)) (hp Y X)) (hp Y X) := by
  have g := h.1.1; have W := h.2.1
  have se := h.2.2.2.2.2.1; have hC := se.1; have hR := se.2.1
  have c0 := hC.1; have c3 := hC.2.1
  have e0 := hR.1.1; have e1 := hR.1.2.1
  have sh := h.2.2.2.2.2.2.2.2.1
  have k10 := sh.1 0 (by omega)
  have cd := sh.2.2.2.1.1; have rl := sh.2.2.2.1.2
  have sn := h.2.2.2.2.2.2.2.2.2.1
  have s40 := sn.2.1
  have sf := inv_S se cd rl
  have Ws : WS (XR X 61 0) := fun i => W.2 61 0 i
  have hP := inv_PostR se h.2.2.2.2.2.2.2.1
  have z := Z61 (Y := Y) (X := X) (S := XR X 61 0) rfl
  obtain ⟨n, hn⟩ : ∃ n : Nat, (n : Int) = i := ⟨i.toNat, by omega⟩
  have so := (sn.2.2 n (by omega)).2
  unfold stO at so
  rw [hn] at so
  obtain ⟨o1, o2, o3, o4, o5, o6⟩ := so
  obtain ⟨⟨q1, q4, q5, q6, q7, q8⟩, qs, qn, qc, qk, qr, qt, qb⟩ := rl
  have q1' : XF X 10 (XP X 0) 1 = XR X 61 0 312 := q1
  have q6' : XF X 10 (XP X 0) 6 = XR X 61 0 317 := q6
  have sea : (0 < XR X 25 0 0 ∧ 0 < XR X 25 0 3) ↔ isSe (XR X 61 0) := by unfold isSe; rw [e0, e1]
  have kk : ∀ s, 0 ≤ s → s < XR X 61 0 1 → XR X 46 (XP X 0) (p * 8 + s) = knA (XR X 67 0) (XR X 61 0) p s := fun s s0 s1 => qk p s p0 (by omega) s0 s1
  have w1 := W_rl W 37 0 i; have w2 := W_rh W 37 0 i; have w3 := W_rl W 38 0 i; have w4 := W_rh W 38 0 i
  have f20 : 20 ≤ f0 := by omega
  have b0 := sf.2.2.1.1; have b1 := sf.2.2.1.2.1
  have dr := sf.1
  unfold lfP
  by_cases a19 : XR X 36 0 i = 19
  · rw [if_pos a19]
    by_cases c : isSe (XR X 61 0)
    · have d2 : XF X 10 (XP X 0) 2 = XR X 61 0 313 := (qs c).1
      rw [d2, z]
      refine ans_b ?_
      simp (disch := first | assumption | omega | exact W_fl W _ _ _ | exact W_fh W _ _ _ | exact W_rl W _ _ _ | exact W_rh W _ _ _ | exact WS_l Ws _ | exact WS_h Ws _) only [fX12_isLeaf, g_12_6, g_12_21, k_12, l61, l_66, li_0, li_313, li_1, li_464, li_2, li_3, li_312, li_4, li_5, li_1000000, li_6, ob2, Option.bind_some, iI_add, a19, Int.reduceSub, iI_eq, Int.reduceEq, if_true, r_isSea g W Ws, bI_i0, ite_n, if_pos c]
      (repeat' split) <;> first | (rw [zr_i0, bI_F (by omega)]) | (rw [zr_i1, bI_T (by omega)])
    · have d2 : XF X 10 (XP X 0) 2 = -1 := (qn c).1
      rw [d2, z]
      refine ans_i (P := False) ⟨fun w => w.elim, fun w => by omega⟩ ⟨fun w => w.elim, fun _ => ?_⟩
      simp (disch := first | assumption | omega | exact W_fl W _ _ _ | exact W_fh W _ _ _ | exact W_rl W _ _ _ | exact W_rh W _ _ _ | exact WS_l Ws _ | exact WS_h Ws _) only [fX12_isLeaf, g_12_6, g_12_21, k_12, l61, l_66, li_0, li_313, li_1, li_464, li_2, li_3, li_312, li_4, li_5, li_1000000, li_6, ob2, Option.bind_some, iI_add, a19, Int.reduceSub, iI_eq, Int.reduceEq, if_true, r_isSea g W Ws, bI_i0, ite_n, if_neg c]
      exact zr_i0
  rw [if_neg a19]
  by_cases a20 : XR X 36 0 i = 20
  · rw [if_pos a20]
    have cc : XR X 43 (XP X 0) p = XR X 61 0 (320 + p) := (qc p p0 (by omega)).1
    rw [cc, z]
    refine ans_i (P := bitI (XR X 61 0 464) p = true) (by rw [qb.2 p p0 (by omega), sea]) (ans_b ?_)
    have q464 := qb.1
    simp (disch := first | assumption | omega | exact W_fl W _ _ _ | exact W_fh W _ _ _ | exact W_rl W _ _ _ | exact W_rh W _ _ _ | exact WS_l Ws _ | exact WS_h Ws _) only [fX12_isLeaf, g_12_6, g_12_21, k_12, l61, l_66, li_0, li_313, li_1, li_464, li_2, li_3, li_312, li_4, li_5, li_1000000, li_6, ob2, Option.bind_some, iI_add, a20, Int.reduceSub, iI_eq, Int.reduceEq, if_true, if_false, r_bitOf]
    unfold bI zr; split <;> rfl
  rw [if_neg a20]
  by_cases a21 : XR X 36 0 i = 21
  · rw [if_pos a21, z]
    by_cases c : canS (XR X 61 0)
    · have c1 : isSe (XR X 61 0) := c.1
      have c2 : XR X 61 0 317 = 0 := c.2
      have d2 : XF X 10 (XP X 0) 2 = XR X 61 0 313 := (qs c1).1
      have d3 : XF X 10 (XP X 0) 3 = XR X 61 0 314 := (qs c1).2
      have pr := sf.2.1 c1
      have wy : XR X 26 0 (XR X 61 0 313 * 8 + p) = XR X 61 0 (8 + (8 * XR X 61 0 313 + p)) := by
        rw [show XR X 61 0 313 * 8 + p = 8 * XR X 61 0 313 + p by omega]; exact (hR.2.1 _ (by omega) (by omega)).1
      have kn := kk (XR X 61 0 314) pr.2.1 pr.2.2
      have wr := hC.2.2.2.2.2.2.1 (8 * XR X 61 0 313 + p) (by omega) (by omega)
      rw [(hR.2.1 _ (by omega) (by omega)).1] at wr
      have kr := hC.2.2.2.2.2.2.2.2.2.2.2
      have kb : 0 ≤ knA (XR X 67 0) (XR X 61 0) p (XR X 61 0 314) ∧ knA (XR X 67 0) (XR X 61 0) p (XR X 61 0 314) ≤ 1000000 := by
        rw [← kn]; exact cd.2.2.2.2.2.2.2 _ (by omega) (by omega)
      have kf := r_knowsFrom (f0 := f0) (X := X) g W Ws b0 hP.2.2 qr (p := p) (s := XR X 61 0 314) p0 (by omega) pr.2.1 (by omega) f20
      have cA : canA X (XP X 0) := ⟨sea.mpr c1, by rw [q6']; exact c2⟩
      rw [d2, d3, wy, q1', kn]
      by_cases a : XR X 61 0 (8 + (8 * XR X 61 0 313 + p)) ≤ 0
      · refine ans_i (P := False) ⟨fun w => w.elim, fun w => by omega⟩ ⟨fun w => w.elim, fun _ => ?_⟩
        simp (disch := first | assumption | omega | exact W_fl W _ _ _ | exact W_fh W _ _ _ | exact W_rl W _ _ _ | exact W_rh W _ _ _ | exact WS_l Ws _ | exact WS_h Ws _) only [fX12_isLeaf, fX12_isSafe, g_12_6, g_12_21, k_12, l61, l_66, li_0, li_313, li_1, li_464, li_2, li_3, li_312, li_4, li_5, li_1000000, li_6, ob2, li_8, li_314, iI_add, Option.bind_some, a21, Int.reduceSub, iI_eq, Int.reduceEq, if_true, if_false, r_canAct g W Ws, bI_i0, ite_n, if_pos c, r_cell, iI_le, if_pos a]
        rfl
      · have a' : 0 < XR X 61 0 (8 + (8 * XR X 61 0 313 + p)) := by omega
        refine ans_i (P := XR X 61 0 312 + XR X 61 0 (8 + (8 * XR X 61 0 313 + p)) < knA (XR X 67 0) (XR X 61 0) p (XR X 61 0 314)) ⟨fun w => ⟨⟨cA, a'⟩, w⟩, fun w => w.2⟩ (ans_b ?_)
        by_cases b : knA (XR X 67 0) (XR X 61 0) p (XR X 61 0 314) ≤ XR X 61 0 312 + XR X 61 0 (8 + (8 * XR X 61 0 313 + p))
        · rw [bI_F (by omega)]
          simp (disch := first | assumption | omega | exact W_fl W _ _ _ | exact W_fh W _ _ _ | exact W_rl W _ _ _ | exact W_rh W _ _ _ | exact WS_l Ws _ | exact WS_h Ws _) only [fX12_isLeaf, fX12_isSafe, g_12_6, g_12_21, k_12, l61, l_66, li_0, li_313, li_1, li_464, li_2, li_3, li_312, li_4, li_5, li_1000000, li_6, ob2, li_8, li_314, iI_add, Option.bind_some, a21, Int.reduceSub, iI_eq, Int.reduceEq, if_true, if_false, r_canAct g W Ws, bI_i0, ite_n, if_pos c, r_cell, iI_le, if_neg a, kf, if_pos b]
          rfl
        · rw [bI_T (by omega)]
          simp (disch := first | assumption | omega | exact W_fl W _ _ _ | exact W_fh W _ _ _ | exact W_rl W _ _ _ | exact W_rh W _ _ _ | exact WS_l Ws _ | exact WS_h Ws _) only [fX12_isLeaf, fX12_isSafe, g_12_6, g_12_21, k_12, l61, l_66, li_0, li_313, li_1, li_464, li_2, li_3, li_312, li_4, li_5, li_1000000, li_6, ob2, li_8, li_314, iI_add, Option.bind_some, a21, Int.reduceSub, iI_eq, Int.reduceEq, if_true, if_false, r_canAct g W Ws, bI_i0, ite_n, if_pos c, r_cell, iI_le, if_neg a, kf, if_neg b]
          rfl
    · have cA : ¬ canA X (XP X 0) := fun w => c ⟨sea.mp w.1, by rw [← q6']; exact w.2⟩
      refine ans_i (P := False) ⟨fun w => w.elim, fun w => cA w.1.1⟩ ⟨fun w => w.elim, fun _ => ?_⟩
      simp (disch := first | assumption | omega | exact W_fl W _ _ _ | exact W_fh W _ _ _ | exact W_rl W _ _ _ | exact W_rh W _ _ _ | exact WS_l Ws _ | exact WS_h Ws _) only [fX12_isLeaf, fX12_isSafe, g_12_6, g_12_21, k_12, l61, l_66, li_0, li_313, li_1, li_464, li_2, li_3, li_312, li_4, li_5, li_1000000, li_6, ob2, li_8, li_314, iI_add, Option.bind_some, a21, Int.reduceSub, iI_eq, Int.reduceEq, if_true, if_false, r_canAct g W Ws, bI_i0, ite_n, if_neg c]
      rfl
  rw [if_neg a21]
  by_cases a22 : XR X 36 0 i = 22
  · rw [if_pos a22]
    have v := o4 a22
    have kf := r_knowsFrom (f0 := f0) (X := X) g W Ws b0 hP.2.2 qr (p := p) (s := XR X 38 0 i) p0 (by omega) v.1 (by omega) f20
    have kn := kk (XR X 38 0 i) v.1 v.2
    have kb : 0 ≤ knA (XR X 67 0) (XR X 61 0) p (XR X 38 0 i) ∧ knA (XR X 67 0) (XR X 61 0) p (XR X 38 0 i) ≤ 1000000 := by
      rw [← kn]; exact cd.2.2.2.2.2.2.2 _ (by omega) (by omega)
    rw [kn, q1', z]
    refine ans_b ?_
    by_cases b : XR X 61 0 312 < knA (XR X 67 0) (XR X 61 0) p (XR X 38 0 i)
    · rw [bI_F (by omega)]
      simp (disch := first | assumption | omega | exact W_fl W _ _ _ | exact W_fh W _ _ _ | exact W_rl W _ _ _ | exact W_rh W _ _ _ | exact WS_l Ws _ | exact WS_h Ws _) only [fX12_isLeaf, g_12_6, g_12_21, k_12, l61, l_66, li_0, li_313, li_1, li_464, li_2, li_3, li_312, li_4, li_5, li_1000000, li_6, ob2, Option.bind_some, iI_add, a22, Int.reduceSub, iI_eq, Int.reduceEq, if_true, if_false, kf, iI_lt, if_pos b]
      exact zr_i0
    · rw [bI_T (by omega)]
      simp (disch := first | assumption | omega | exact W_fl W _ _ _ | exact W_fh W _ _ _ | exact W_rl W _ _ _ | exact W_rh W _ _ _ | exact WS_l Ws _ | exact WS_h Ws _) only [fX12_isLeaf, g_12_6, g_12_21, k_12, l61, l_66, li_0, li_313, li_1, li_464, li_2, li_3, li_312, li_4, li_5, li_1000000, li_6, ob2, Option.bind_some, iI_add, a22, Int.reduceSub, iI_eq, Int.reduceEq, if_true, if_false, kf, iI_lt, if_neg b]
      exact zr_i1
  rw [if_neg a22]
  by_cases a23 : XR X 36 0 i = 23
  · rw [if_pos a23]
    have v := o5 a23
    have po := (hP.1 (XR X 38 0 i) p v.1 v.2 p0 (by omega)).2
    have dh := r_doesHear (f0 := f0) (Y := Y) (X := X) (S := XR X 61 0) g hP.2.2 (p := XR X 38 0 i) (q := p) v.1 (by omega) p0 (by omega)
    rw [z]
    refine ans_i (P := XR X 38 0 i ≠ p ∧ XR X 67 0 (8 * XR X 38 0 i + p) < 1000000) (by rw [po]; constructor <;> intro w <;> omega) (ans_b ?_)
    simp (disch := first | assumption | omega | exact W_fl W _ _ _ | exact W_fh W _ _ _ | exact W_rl W _ _ _ | exact W_rh W _ _ _ | exact WS_l Ws _ | exact WS_h Ws _) only [fX12_isLeaf, g_12_6, g_12_21, k_12, l61, l_66, li_0, li_313, li_1, li_464, li_2, li_3, li_312, li_4, li_5, li_1000000, li_6, ob2, Option.bind_some, iI_add, a23, Int.reduceSub, iI_eq, Int.reduceEq, if_true, if_false, dh]
    unfold bI zr; split <;> rfl
  rw [if_neg a23]
  have q := o6 (by omega)
  have fin : ∀ x r, Rg x → r = bX12_isLeaf_176 f0 (iI (XR X 37 0 i)) (iI (XR X 38 0 i)) (iI x) (hp Y X) → ans (cmpP (XR X 37 0 i) (XR X 38 0 i) x) r (hp Y X) := fun x r hx e => by
    rw [e]; exact r_cmp q.1 ⟨by omega, by omega⟩ hx
  by_cases a24 : XR X 36 0 i = 24
  · rw [if_pos a24]
    unfold frA
    by_cases c : isSe (XR X 61 0)
    · rw [if_pos (sea.mpr c)]
      have d2 : XF X 10 (XP X 0) 2 = XR X 61 0 313 := (qs c).1
      have pr := sf.2.1 c
      have po := (hP.1 (XR X 61 0 313) p pr.1.1 pr.1.2 p0 (by omega)).1
      have fr := hP.2.1 (8 * XR X 61 0 313 + p) (by omega) (by omega)
      rw [d2, ← po]
      refine fin _ _ ⟨by omega, by omega⟩ ?_
      rw [z]
      have x66 : XR (sR X 61 0 (XR X 61 0)) 66 0 = XR X 66 0 := rfl
      simp (disch := first | assumption | omega | exact W_fl W _ _ _ | exact W_fh W _ _ _ | exact W_rl W _ _ _ | exact W_rh W _ _ _ | exact WS_l Ws _ | exact WS_h Ws _) only [fX12_isLeaf, g_12_6, g_12_21, k_12, l61, l_66, li_0, li_313, li_1, li_464, li_2, li_3, li_312, li_4, li_5, li_1000000, li_6, ob2, Option.bind_some, iI_add, a24, Int.reduceSub, iI_eq, Int.reduceEq, if_true, if_false, r_isSea g W Ws, bI_i0, ite_n, if_pos c, r_cell, x66]
    · rw [if_neg (fun w => c (sea.mp w))]
      refine fin _ _ ⟨by decide, by decide⟩ ?_
      rw [z]
      simp (disch := first | assumption | omega | exact W_fl W _ _ _ | exact W_fh W _ _ _ | exact W_rl W _ _ _ | exact W_rh W _ _ _ | exact WS_l Ws _ | exact WS_h Ws _) only [fX12_isLeaf, g_12_6, g_12_21, k_12, l61, l_66, li_0, li_313, li_1, li_464, li_2, li_3, li_312, li_4, li_5, li_1000000, li_6, ob2, Option.bind_some, iI_add, a24, Int.reduceSub, iI_eq, Int.reduceEq, if_true, if_false, r_isSea g W Ws, bI_i0, ite_n, if_neg c]
  rw [if_neg a24]
  by_cases a25 : XR X 36 0 i = 25
  · rw [if_pos a25]
    have eb : bs (knB X (XP X 0) p (XF X 10 (XP X 0) 1)) (XR X 25 0 3).toNat = bs (kaB (XR X 67 0) (XR X 61 0) p (XR X 61 0 312)) (XR X 61 0 1).toNat := bs_eq fun j => by
      unfold knB kaB
      rw [e1, q1']
      constructor
      · rintro ⟨j1, j2⟩
        refine ⟨j1, ?_⟩
        rw [kk j (by omega) (by omega)] at j2; exact j2
      · rintro ⟨j1, j2⟩
        refine ⟨j1, ?_⟩
        rw [kk j (by omega) (by omega)]; exact j2
    rw [eb]
    have bl := bs_lt (kaB (XR X 67 0) (XR X 61 0) p (XR X 61 0 312)) (XR X 61 0 1).toNat
    have b8 : 2 ^ (XR X 61 0 1).toNat ≤ 2 ^ 8 := Nat.pow_le_pow_right (by decide) (by omega)
    have pr := pc_rg (bs (kaB (XR X 67 0) (XR X 61 0) p (XR X 61 0 312)) (XR X 61 0 1).toNat)
    refine fin _ _ ⟨by omega, by omega⟩ ?_
    have ka := r_knownAt (f0 := f0) (X := X) g W Ws b0 b1 hP.2.2 qr (p := p) (d := XR X 61 0 312) p0 (by omega) ⟨by omega, by omega⟩ f20
    have bt := r_bits (f0 := f0) (h := hp Y (sR X 61 0 (XR X 61 0))) (N := bs (kaB (XR X 67 0) (XR X 61 0) p (XR X 61 0 312)) (XR X 61 0 1).toNat) (by omega) (by omega)
    rw [z]
    simp (disch := first | assumption | omega | exact W_fl W _ _ _ | exact W_fh W _ _ _ | exact W_rl W _ _ _ | exact W_rh W _ _ _ | exact WS_l Ws _ | exact WS_h Ws _) only [fX12_isLeaf, g_12_6, g_12_21, k_12, l61, l_66, li_0, li_313, li_1, li_464, li_2, li_3, li_312, li_4, li_5, li_1000000, li_6, ob2, Option.bind_some, iI_add, a25, Int.reduceSub, iI_eq, Int.reduceEq, if_true, if_false, ka, bt]
  rw [if_neg a25]
  have a26 : XR X 36 0 i = 26 := by omega
  refine fin _ _ ⟨by omega, by omega⟩ ?_
  simp (disch := first | assumption | omega | exact W_fl W _ _ _ | exact W_fh W _ _ _ | exact W_rl W _ _ _ | exact W_rh W _ _ _ | exact WS_l Ws _ | exact WS_h Ws _) only [fX12_isLeaf, g_12_6, g_12_21, k_12, l61, l_66, li_0, li_313, li_1, li_464, li_2, li_3, li_312, li_4, li_5, li_1000000, li_6, ob2, Option.bind_some, iI_add, a26, Int.reduceSub, iI_eq, Int.reduceEq, if_true, if_false]
