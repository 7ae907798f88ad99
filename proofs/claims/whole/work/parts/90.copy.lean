/-! A SEA, A SENTENCE COPIED -/
def seaCp (X : XS) (j k : Nat) : XS := sR (sR (sR (sR (sR (sR (sR (sR (sR (sR (sF (sR (sF (sR (sR (sJ (X) 22 j (cprJ (XJ X 22 k) (XJ X 22 j) 30)) 23 j (cpr (XR X 23 k) (XR X 23 j) 30)) 24 j (cpr (XR X 24 k) (XR X 24 j) 30)) 3 j 3 (XF X 3 k 3)) 25 j (cpr (XR X 25 k) (XR X 25 j) 7)) 6 j 2 (XF X 6 k 2)) 26 j (cpr (XR X 26 k) (XR X 26 j) 64)) 27 j (cpr (XR X 27 k) (XR X 27 j) 64)) 28 j (cpr (XR X 28 k) (XR X 28 j) 64)) 29 j (cpr (XR X 29 k) (XR X 29 j) 64)) 30 j (cpr (XR X 30 k) (XR X 30 j) 64)) 31 j (cpr (XR X 31 k) (XR X 31 j) 8)) 32 j (cpr (XR X 32 k) (XR X 32 j) 16)) 33 j (cpr (XR X 33 k) (XR X 33 j) 8)) 34 j (cpr (XR X 34 k) (XR X 34 j) 64)) 35 j (cpr (XR X 35 k) (XR X 35 j) 64)
theorem e_seaCp {f0 : Nat} {Y : YS} {X : XS} {j k : Nat} (gj : SeO Y j) (gk : SeO Y k) (ne : k ≠ j) : fX6_copyFrom f0 (Ad Y 6 j) (Ad Y 6 k) (hp Y X) = some (hp Y (seaCp X j k)) := by
  have g := gj.1
  simp (maxSteps := 10000000) (disch := first | assumption | omega) only [fX6_copyFrom, fX3_copyFrom, g_6_0, g_6_1, g_6_2, g_6_3, g_6_4, g_6_5, g_6_6, g_6_7, g_6_8, g_6_9, g_6_10, g_6_11, g_6_12, p_6_2, k_3, n_25, c_25, n_26, c_26, n_27, c_27, n_28, c_28, n_29, c_29, n_30, c_30, n_31, c_31, n_32, c_32, n_33, c_33, n_34, c_34, n_35, c_35, li_0, li_64, li_8, g_3_0, g_3_1, g_3_2, g_3_3, p_3_3, c_22, c_23, c_24, li_30, Option.bind_some, iI_add, c_22, c_23, c_24, c_25, c_26, c_27, c_28, c_29, c_30, c_31, c_32, c_33, c_34, c_35, XF_sF, XF_sR, XF_sJ, XF_sP, XF_sG, XR_sF, XR_sR, XR_sJ, XR_sP, XR_sG, XJ_sF, XJ_sR, XJ_sJ, XJ_sP, XJ_sG, XP_sF, XP_sR, XP_sJ, XP_sP, XP_sG, XM_sF, XM_sR, XM_sJ, XM_sP, XM_sG, upi_at, and_true, true_and, if_true, if_false, ite_true, ite_false, eq_self, and_self, not_true_eq_false, not_false_eq_true, false_and, and_false, Nat.reduceEqDiff, Nat.reduceAdd, reduceCtorEq, ne]
  rfl
theorem sc_25 {X : XS} {j k : Nat} {i : Int} (h0 : 0 ≤ i) (h1 : i < 7) : XR (seaCp X j k) 25 j i = XR X 25 k i := by
  unfold seaCp
  simp only [XR_sR, XR_sF, XR_sJ, and_true, true_and, if_true, if_false, ite_true, ite_false, eq_self, and_self, not_true_eq_false, not_false_eq_true, false_and, and_false, Nat.reduceEqDiff, Nat.reduceAdd, reduceCtorEq]
  exact cpr_in h0 h1
theorem sc_26 {X : XS} {j k : Nat} {i : Int} (h0 : 0 ≤ i) (h1 : i < 64) : XR (seaCp X j k) 26 j i = XR X 26 k i := by
  unfold seaCp
  simp only [XR_sR, XR_sF, XR_sJ, and_true, true_and, if_true, if_false, ite_true, ite_false, eq_self, and_self, not_true_eq_false, not_false_eq_true, false_and, and_false, Nat.reduceEqDiff, Nat.reduceAdd, reduceCtorEq]
  exact cpr_in h0 h1
theorem sc_27 {X : XS} {j k : Nat} {i : Int} (h0 : 0 ≤ i) (h1 : i < 64) : XR (seaCp X j k) 27 j i = XR X 27 k i := by
  unfold seaCp
  simp only [XR_sR, XR_sF, XR_sJ, and_true, true_and, if_true, if_false, ite_true, ite_false, eq_self, and_self, not_true_eq_false, not_false_eq_true, false_and, and_false, Nat.reduceEqDiff, Nat.reduceAdd, reduceCtorEq]
  exact cpr_in h0 h1
theorem sc_28 {X : XS} {j k : Nat} {i : Int} (h0 : 0 ≤ i) (h1 : i < 64) : XR (seaCp X j k) 28 j i = XR X 28 k i := by
  unfold seaCp
  simp only [XR_sR, XR_sF, XR_sJ, and_true, true_and, if_true, if_false, ite_true, ite_false, eq_self, and_self, not_true_eq_false, not_false_eq_true, false_and, and_false, Nat.reduceEqDiff, Nat.reduceAdd, reduceCtorEq]
  exact cpr_in h0 h1
theorem sc_29 {X : XS} {j k : Nat} {i : Int} (h0 : 0 ≤ i) (h1 : i < 64) : XR (seaCp X j k) 29 j i = XR X 29 k i := by
  unfold seaCp
  simp only [XR_sR, XR_sF, XR_sJ, and_true, true_and, if_true, if_false, ite_true, ite_false, eq_self, and_self, not_true_eq_false, not_false_eq_true, false_and, and_false, Nat.reduceEqDiff, Nat.reduceAdd, reduceCtorEq]
  exact cpr_in h0 h1
theorem sc_30 {X : XS} {j k : Nat} {i : Int} (h0 : 0 ≤ i) (h1 : i < 64) : XR (seaCp X j k) 30 j i = XR X 30 k i := by
  unfold seaCp
  simp only [XR_sR, XR_sF, XR_sJ, and_true, true_and, if_true, if_false, ite_true, ite_false, eq_self, and_self, not_true_eq_false, not_false_eq_true, false_and, and_false, Nat.reduceEqDiff, Nat.reduceAdd, reduceCtorEq]
  exact cpr_in h0 h1
theorem sc_31 {X : XS} {j k : Nat} {i : Int} (h0 : 0 ≤ i) (h1 : i < 8) : XR (seaCp X j k) 31 j i = XR X 31 k i := by
  unfold seaCp
  simp only [XR_sR, XR_sF, XR_sJ, and_true, true_and, if_true, if_false, ite_true, ite_false, eq_self, and_self, not_true_eq_false, not_false_eq_true, false_and, and_false, Nat.reduceEqDiff, Nat.reduceAdd, reduceCtorEq]
  exact cpr_in h0 h1
theorem sc_32 {X : XS} {j k : Nat} {i : Int} (h0 : 0 ≤ i) (h1 : i < 16) : XR (seaCp X j k) 32 j i = XR X 32 k i := by
  unfold seaCp
  simp only [XR_sR, XR_sF, XR_sJ, and_true, true_and, if_true, if_false, ite_true, ite_false, eq_self, and_self, not_true_eq_false, not_false_eq_true, false_and, and_false, Nat.reduceEqDiff, Nat.reduceAdd, reduceCtorEq]
  exact cpr_in h0 h1
theorem sc_33 {X : XS} {j k : Nat} {i : Int} (h0 : 0 ≤ i) (h1 : i < 8) : XR (seaCp X j k) 33 j i = XR X 33 k i := by
  unfold seaCp
  simp only [XR_sR, XR_sF, XR_sJ, and_true, true_and, if_true, if_false, ite_true, ite_false, eq_self, and_self, not_true_eq_false, not_false_eq_true, false_and, and_false, Nat.reduceEqDiff, Nat.reduceAdd, reduceCtorEq]
  exact cpr_in h0 h1
theorem sc_34 {X : XS} {j k : Nat} {i : Int} (h0 : 0 ≤ i) (h1 : i < 64) : XR (seaCp X j k) 34 j i = XR X 34 k i := by
  unfold seaCp
  simp only [XR_sR, XR_sF, XR_sJ, and_true, true_and, if_true, if_false, ite_true, ite_false, eq_self, and_self, not_true_eq_false, not_false_eq_true, false_and, and_false, Nat.reduceEqDiff, Nat.reduceAdd, reduceCtorEq]
  exact cpr_in h0 h1
theorem sc_35 {X : XS} {j k : Nat} {i : Int} (h0 : 0 ≤ i) (h1 : i < 64) : XR (seaCp X j k) 35 j i = XR X 35 k i := by
  unfold seaCp
  simp only [XR_sR, XR_sF, XR_sJ, and_true, true_and, if_true, if_false, ite_true, ite_false, eq_self, and_self, not_true_eq_false, not_false_eq_true, false_and, and_false, Nat.reduceEqDiff, Nat.reduceAdd, reduceCtorEq]
  exact cpr_in h0 h1
theorem sc_23 {X : XS} {j k : Nat} {i : Int} (h0 : 0 ≤ i) (h1 : i < 30) : XR (seaCp X j k) 23 j i = XR X 23 k i := by
  unfold seaCp
  simp only [XR_sR, XR_sF, XR_sJ, and_true, true_and, if_true, if_false, ite_true, ite_false, eq_self, and_self, not_true_eq_false, not_false_eq_true, false_and, and_false, Nat.reduceEqDiff, Nat.reduceAdd, reduceCtorEq]
  exact cpr_in h0 h1
theorem sc_24 {X : XS} {j k : Nat} {i : Int} (h0 : 0 ≤ i) (h1 : i < 30) : XR (seaCp X j k) 24 j i = XR X 24 k i := by
  unfold seaCp
  simp only [XR_sR, XR_sF, XR_sJ, and_true, true_and, if_true, if_false, ite_true, ite_false, eq_self, and_self, not_true_eq_false, not_false_eq_true, false_and, and_false, Nat.reduceEqDiff, Nat.reduceAdd, reduceCtorEq]
  exact cpr_in h0 h1
theorem sc_22 {X : XS} {j k : Nat} {i : Int} (h0 : 0 ≤ i) (h1 : i < 30) : XJ (seaCp X j k) 22 j i = XJ X 22 k i := by
  unfold seaCp
  simp only [XJ_sR, XJ_sF, XJ_sJ, and_true, true_and, if_true, if_false, ite_true, ite_false, eq_self, and_self, not_true_eq_false, not_false_eq_true, false_and, and_false, Nat.reduceEqDiff, Nat.reduceAdd, reduceCtorEq]
  exact if_pos ⟨h0, h1⟩
theorem sc_f3 {X : XS} {j k : Nat} : XF (seaCp X j k) 3 j 3 = XF X 3 k 3 := by
  unfold seaCp
  simp only [XF_sR, XF_sF, XF_sJ, and_true, true_and, if_true, if_false, ite_true, ite_false, eq_self, and_self, not_true_eq_false, not_false_eq_true, false_and, and_false, Nat.reduceEqDiff, Nat.reduceAdd, reduceCtorEq]
theorem sc_f6 {X : XS} {j k : Nat} : XF (seaCp X j k) 6 j 2 = XF X 6 k 2 := by
  unfold seaCp
  simp only [XF_sR, XF_sF, XF_sJ, and_true, true_and, if_true, if_false, ite_true, ite_false, eq_self, and_self, not_true_eq_false, not_false_eq_true, false_and, and_false, Nat.reduceEqDiff, Nat.reduceAdd, reduceCtorEq]
/-- nothing else -/
theorem sc_R {X : XS} {j k s k' : Nat} (h : ¬ (k' = j ∧ 23 ≤ s ∧ s ≤ 35)) : XR (seaCp X j k) s k' = XR X s k' := by
  have n : ∀ t, 23 ≤ t → t ≤ 35 → ¬ (s = t ∧ k' = j) := fun t h1 h2 q => h ⟨q.2, by omega, by omega⟩
  unfold seaCp
  simp only [XR_sR, XR_sF, XR_sJ]
  rw [if_neg (n 35 (by decide) (by decide)), if_neg (n 34 (by decide) (by decide)), if_neg (n 33 (by decide) (by decide)), if_neg (n 32 (by decide) (by decide)), if_neg (n 31 (by decide) (by decide)), if_neg (n 30 (by decide) (by decide)), if_neg (n 29 (by decide) (by decide)), if_neg (n 28 (by decide) (by decide)), if_neg (n 27 (by decide) (by decide)), if_neg (n 26 (by decide) (by decide)), if_neg (n 25 (by decide) (by decide)), if_neg (n 24 (by decide) (by decide)), if_neg (n 23 (by decide) (by decide))]
theorem sc_F {X : XS} {j k s k' f : Nat} (h : ¬ (k' = j ∧ (s = 3 ∧ f = 3 ∨ s = 6 ∧ f = 2))) : XF (seaCp X j k) s k' f = XF X s k' f := by
  unfold seaCp
  simp only [XF_sR, XF_sF, XF_sJ]
  rw [if_neg (fun q => h ⟨q.2.1, .inr ⟨q.1, q.2.2⟩⟩), if_neg (fun q => h ⟨q.2.1, .inl ⟨q.1, q.2.2⟩⟩)]
theorem sc_J {X : XS} {j k s k' : Nat} (h : ¬ (k' = j ∧ s = 22)) : XJ (seaCp X j k) s k' = XJ X s k' := by
  unfold seaCp
  simp only [XJ_sR, XJ_sF, XJ_sJ]
  rw [if_neg (fun q => h ⟨q.2, q.1⟩)]
theorem sc_P {X : XS} {j k : Nat} : XP (seaCp X j k) = XP X ∧ XM (seaCp X j k) = XM X := ⟨rfl, rfl⟩
theorem cpr_W {r q : Int → Int} {n : Int} (h1 : ∀ i, Rg (r i)) (h2 : ∀ i, Rg (q i)) : ∀ i, Rg (cpr r q n i) := fun i => cpr_rg h1 h2 i
theorem sc_W {X : XS} {j k : Nat} (W : WF X) : WF (seaCp X j k) := by
  have c : ∀ s n, ∀ i, Rg (cpr (XR X s k) (XR X s j) n i) := fun s n => cpr_W (fun i => W.2 _ _ _) (fun i => W.2 _ _ _)
  unfold seaCp
  exact W_R (W_R (W_R (W_R (W_R (W_R (W_R (W_R (W_R (W_R (W_F (W_R (W_F (W_R (W_R (W_J W) (c 23 30)) (c 24 30)) (W.1 _ _ _).1 (W.1 _ _ _).2) (c 25 7)) (W.1 _ _ _).1 (W.1 _ _ _).2) (c 26 64)) (c 27 64)) (c 28 64)) (c 29 64)) (c 30 64)) (c 31 8)) (c 32 16)) (c 33 8)) (c 34 64)) (c 35 64)
/-- what holds of a sea holds of its copy -/
theorem sc_SeaI {X : XS} {j k : Nat} {S : Int → Int} (h : SeaI X k S) : SeaI (seaCp X j k) j S := by
  obtain ⟨hC, hR, hk, hZ, hW⟩ := h
  have q0 := sc_25 (X := X) (j := j) (k := k) (i := 0) (by omega) (by omega); have q1 := sc_25 (X := X) (j := j) (k := k) (i := 1) (by omega) (by omega); have q2 := sc_25 (X := X) (j := j) (k := k) (i := 2) (by omega) (by omega); have q3 := sc_25 (X := X) (j := j) (k := k) (i := 3) (by omega) (by omega); have q4 := sc_25 (X := X) (j := j) (k := k) (i := 4) (by omega) (by omega); have q5 := sc_25 (X := X) (j := j) (k := k) (i := 5) (by omega) (by omega); have q6 := sc_25 (X := X) (j := j) (k := k) (i := 6) (by omega) (by omega)
  have f6 := sc_f6 (X := X) (j := j) (k := k)
  have c0 := hC.1
  refine ⟨?_, ?_, fun i i0 i8 => by rw [sc_31 i0 i8]; exact hk i i0 i8, hZ, ?_⟩
  · unfold CSea at *
    rw [q0, q3, q4, q5, q6, f6]
    obtain ⟨a1, a2, a3, a4, a5, a6, a7, a8, a9, a10, a11, a12⟩ := hC
    exact ⟨a1, a2, a3, a4, a5, a6, fun i i0 i6 => by rw [sc_26 i0 i6]; exact a7 i i0 i6, fun i i0 i6 => by rw [sc_28 i0 i6]; exact a8 i i0 i6, fun i i0 i6 => by rw [sc_29 i0 i6]; exact a9 i i0 i6, fun i i0 i6 => by rw [sc_33 i0 i6]; exact a10 i i0 i6, fun i i0 i6 => by rw [sc_34 i0 i6]; exact a11 i i0 i6, fun i i0 i6 => by rw [sc_35 i0 i6]; exact a12 i i0 i6⟩
  · unfold SeaR at *
    rw [q0, q1, q2, q3, q4, q5, q6, f6]
    obtain ⟨b1, b2, b3, b4⟩ := hR
    have c6 := hC.2.2.2.2.1
    have e7 := b1.2.2.2.2.2.2.2
    exact ⟨b1, fun i i0 i6 => by rw [sc_26 i0 i6, sc_27 i0 i6, sc_28 i0 i6, sc_29 i0 i6]; exact b2 i i0 i6, fun i i0 i6 => by rw [sc_33 i0 i6, sc_31 i0 i6]; exact b3 i i0 i6, fun i i0 i6 => by rw [sc_32 i0 (by omega)]; exact b4 i i0 i6⟩
  · intro a b a0 an b0 bn
    rw [q0] at an bn ⊢
    rw [sc_34 (by omega) (by omega), sc_35 (by omega) (by omega)]
    have := hW a b a0 an b0 bn
    rw [this.1, this.2]
    have n8 : (XR X 25 k 0).toNat ≤ 8 := by omega
    exact ⟨fwG_c (by omega) (iniW_c (fun i i0 i6 => (sc_26 i0 i6).symm)) _ n8 _ (by omega) (by omega), fwG_c (by omega) (iniW_c (fun i i0 i6 => (sc_27 i0 i6).symm)) _ n8 _ (by omega) (by omega)⟩
theorem sc_Nam {X : XS} {j k : Nat} {S : Int → Int} {nm : Int → Int64} (h : NamX X k S nm) (hb : XF X 3 k 3 ≤ 30) : NamX (seaCp X j k) j S nm := by
  unfold NamX at *
  rw [sc_f3]
  obtain ⟨a, b, c, d⟩ := h
  refine ⟨a, fun i i0 i1 => ?_, fun s m hs m0 m1 => ?_, fun i i' i0 i1 i0' i1' e => ?_⟩
  · rw [sc_22 i0 (by omega), sc_23 i0 (by omega), sc_24 i0 (by omega)]; exact b i i0 i1
  · obtain ⟨i, i0, i1, i2, i3⟩ := c s m hs m0 m1
    exact ⟨i, i0, i1, by rw [sc_23 i0 (by omega)]; exact i2, by rw [sc_24 i0 (by omega)]; exact i3⟩
  · rw [sc_22 i0 (by omega), sc_22 i0' (by omega)] at e
    exact d i i' i0 i1 i0' i1' e
