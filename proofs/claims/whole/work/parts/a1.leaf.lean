/-! WHAT MAY BE SAID OF A PORT: one step -/
theorem bits_1 : ∀ N : Nat, N < 256 → 0 < N → (N &&& (N - 1)) < N ∧ pc (N &&& (N - 1)) = pc N - 1 := by decide +kernel
theorem r_bits {f0 : Nat} {h : Hp} {N : Nat} (hN : N < 256) (hf : 300 ≤ f0) : fX12_bits f0 (iI (N : Int)) h = some (iI (pc N), h) := by
  have z : fX12_bits f0 (iI (N : Int)) h = bX12_bits_4 f0 f0 (iI (pc N - pc N)) (iI (N : Int)) h := by
    rw [show pc N - pc N = 0 by omega]; rfl
  rw [z]
  refine lp (fun f (M : Nat) => bX12_bits_4 f0 f (iI (pc N - pc M)) (iI (M : Int)) h) (fun M => M < 256) (fun M => M) (fun r => r = _) ?_ f0 N hN (by omega)
  intro f M hM
  by_cases c : (M : Int) = 0
  · left
    have e : M = 0 := by omega
    subst e
    have p0 : pc 0 = 0 := by decide +kernel
    simp (disch := omega) only [bX12_bits_4, li_0, iI_eq, if_pos c, p0]
    rw [Int.sub_zero]
  · right
    obtain ⟨b1, b2⟩ := bits_1 M hM (by omega)
    refine ⟨M &&& (M - 1), ?_, by omega, b1⟩
    have e1 : iI (M : Int) &&& iI ((M : Int) - 1) = iI ((M &&& (M - 1) : Nat) : Int) := by
      rw [show (M : Int) - 1 = ((M - 1 : Nat) : Int) by omega, ib_and]
    simp (disch := omega) only [bX12_bits_4, li_0, li_1, iI_eq, if_neg c, iI_add, iI_sub, e1]
    rw [b2, show pc N - pc M + 1 = pc N - (pc M - 1) by omega]
def cmpP (sg va x : Int) : Prop := if sg = 60 then x < va else if sg = 61 then x = va else va < x
def lfP (X : XS) (i p : Int) : Prop :=
  if XR X 36 0 i = 19 then XF X 10 (XP X 0) 2 = p else if XR X 36 0 i = 20 then ((0 < XR X 25 0 0 ∧ 0 < XR X 25 0 3) ∧ (p = 0 ∨ 0 < XR X 43 (XP X 0) p)) else if XR X 36 0 i = 21 then ((canA X (XP X 0) ∧ 0 < XR X 26 0 (XF X 10 (XP X 0) 2 * 8 + p)) ∧ XF X 10 (XP X 0) 1 + XR X 26 0 (XF X 10 (XP X 0) 2 * 8 + p) < XR X 46 (XP X 0) (p * 8 + XF X 10 (XP X 0) 3)) else if XR X 36 0 i = 22 then XR X 46 (XP X 0) (p * 8 + XR X 38 0 i) ≤ XF X 10 (XP X 0) 1 else if XR X 36 0 i = 23 then (0 ≤ XR X 38 0 i ∧ XR X 38 0 i < XR X 25 0 0 ∧ 0 ≤ p ∧ p < XR X 25 0 0 ∧ XR X 38 0 i ≠ p ∧ XR X 35 0 (XR X 38 0 i * 8 + p) < 1000000) else cmpP (XR X 37 0 i) (XR X 38 0 i) (if XR X 36 0 i = 24 then frA X (XP X 0) p else if XR X 36 0 i = 25 then pc (bs (knB X (XP X 0) p (XF X 10 (XP X 0) 1)) (XR X 25 0 3).toNat) else p)
/-- an answer of the machine, to a question -/
def ans (P : Prop) (r : Option (Int32 × Hp)) (h : Hp) : Prop := (P → r = some (1, h)) ∧ (¬ P → r = some (0, h))
theorem ans_b {P : Prop} [Decidable P] {r : Option (Int32 × Hp)} {h : Hp} (e : r = some (bI P, h)) : ans P r h := ⟨fun q => by rw [e, bI_T q], fun q => by rw [e, bI_F q]⟩
theorem ans_i {P Q : Prop} {r : Option (Int32 × Hp)} {h : Hp} (e : P ↔ Q) (a : ans P r h) : ans Q r h := ⟨fun q => a.1 (e.mpr q), fun q => a.2 (fun w => q (e.mp w))⟩
theorem e_cmp {f0 : Nat} {Y : YS} {X : XS} (g : GY Y) (W : WF X) {i x : Int} (i0 : 0 ≤ i) (i1 : i < 40) (hx : Rg x) (hs : 60 ≤ XR X 37 0 i ∧ XR X 37 0 i ≤ 62) : ans (cmpP (XR X 37 0 i) (XR X 38 0 i) x) (fX8_compares f0 (Ad Y 8 0) (iI x) (iI i) (hp Y X)) (hp Y X) := by
  have st := StO_0 g
  have x1 := hx.1; have x2 := hx.2
  unfold cmpP
  by_cases a : XR X 37 0 i = 60
  · rw [if_pos a]
    refine ans_b ?_
    simp (disch := first | assumption | omega | exact W_fl W _ _ _ | exact W_fh W _ _ _ | exact W_rl W _ _ _ | exact W_rh W _ _ _) only [fX8_compares, g_8_1, g_8_2, l_37, l_38, li_60, li_0, li_1, li_62, Option.bind_some, iI_add, iI_eq, if_pos a, iI_le]
    (repeat' split) <;> first | (rw [zr_i0, bI_F (by omega)]) | (rw [zr_i1, bI_T (by omega)])
  · rw [if_neg a]
    by_cases b : XR X 37 0 i = 61
    · rw [if_pos b]
      have c : ¬ XR X 37 0 i = 62 := by omega
      refine ans_b ?_
      simp (disch := first | assumption | omega | exact W_fl W _ _ _ | exact W_fh W _ _ _ | exact W_rl W _ _ _ | exact W_rh W _ _ _) only [fX8_compares, g_8_1, g_8_2, l_37, l_38, li_60, li_0, li_1, li_62, Option.bind_some, iI_add, iI_eq, if_neg a, if_neg c]
      (repeat' split) <;> first | (rw [zr_i0, bI_F (by omega)]) | (rw [zr_i1, bI_T (by omega)])
    · rw [if_neg b]
      have c : XR X 37 0 i = 62 := by omega
      refine ans_b ?_
      simp (disch := first | assumption | omega | exact W_fl W _ _ _ | exact W_fh W _ _ _ | exact W_rl W _ _ _ | exact W_rh W _ _ _) only [fX8_compares, g_8_1, g_8_2, l_37, l_38, li_60, li_0, li_1, li_62, Option.bind_some, iI_add, iI_eq, if_neg a, if_pos c, iI_le]
      (repeat' split) <;> first | (rw [zr_i0, bI_F (by omega)]) | (rw [zr_i1, bI_T (by omega)])
theorem r_cmp {f0 : Nat} {h : Hp} {sg va x : Int} (hs : 60 ≤ sg ∧ sg ≤ 62) (hv : Rg va) (hx : Rg x) : ans (cmpP sg va x) (bX12_isLeaf_176 f0 (iI sg) (iI va) (iI x) h) h := by
  have x1 := hx.1; have x2 := hx.2; have v1 := hv.1; have v2 := hv.2
  unfold cmpP
  by_cases a : sg = 60
  · rw [if_pos a]
    refine ans_b ?_
    simp (disch := omega) only [bX12_isLeaf_176, li_60, li_0, li_1, li_61, Option.bind_some, iI_add, iI_eq, if_pos a, iI_le]
    (repeat' split) <;> first | (rw [zr_i0, bI_F (by omega)]) | (rw [zr_i1, bI_T (by omega)])
  · rw [if_neg a]
    by_cases b : sg = 61
    · rw [if_pos b]
      refine ans_b ?_
      simp (disch := omega) only [bX12_isLeaf_176, li_60, li_0, li_1, li_61, Option.bind_some, iI_add, iI_eq, if_neg a, if_pos b]
      (repeat' split) <;> first | (rw [zr_i0, bI_F (by omega)]) | (rw [zr_i1, bI_T (by omega)])
    · rw [if_neg b]
      refine ans_b ?_
      simp (disch := omega) only [bX12_isLeaf_176, li_60, li_0, li_1, li_61, Option.bind_some, iI_add, iI_eq, if_neg a, if_neg b, iI_le]
      (repeat' split) <;> first | (rw [zr_i0, bI_F (by omega)]) | (rw [zr_i1, bI_T (by omega)])
theorem e_holds {f0 : Nat} {Y : YS} {X : XS} (h : Inv Y X) {i p : Int} (i0 : 0 ≤ i) (i1 : i < XF X 8 0 3) (p0 : 0 ≤ p) (p1 : p < XR X 25 0 0) (hl : 19 ≤ XR X 36 0 i) (hf : 300 ≤ f0) : ans (lfP X i p) (fX8_holds f0 (Ad Y 8 0) (Ad Y 10 (XP X 0)) (iI i) (iI p) (hp Y X)) (hp Y X) := by
  have g := h.1.1; have W := h.2.1
  have se := h.2.2.2.2.2.1; have hC := se.1
  have c0 := hC.1; have c3 := hC.2.1
  have sh := h.2.2.2.2.2.2.2.2.1
  have k10 := sh.1 0 (by omega)
  have gk := ShO_k g k10
  have cs : CShip X (XP X 0) 0 := sh.2.2.2.1.1
  have sn := h.2.2.2.2.2.2.2.2.2.1
  have st := StO_0 g
  have g0 := SeO_0 g
  have s40 := sn.2.1
  obtain ⟨n, hn⟩ : ∃ n : Nat, (n : Int) = i := ⟨i.toNat, by omega⟩
  have so := (sn.2.2 n (by omega)).2
  unfold stO at so
  rw [hn] at so
  obtain ⟨o1, o2, o3, o4, o5, o6⟩ := so
  have f20 : 20 ≤ f0 := by omega
  have e1 := sh.2.2.2.1.1.1
  have sR := se.2.1.1
  unfold lfP
  by_cases a19 : XR X 36 0 i = 19
  · rw [if_pos a19]
    refine ans_b ?_
    simp (disch := first | assumption | omega | exact W_fl W _ _ _ | exact W_fh W _ _ _ | exact W_rl W _ _ _ | exact W_rh W _ _ _) only [fX8_holds, g_8_0, g_10_2, g_8_2, g10s, k_10, k_6, k_8, l_36, l_38, li_19, li_1, li_0, li_20, li_21, li_22, li_23, li_24, li_25, ob2, Option.bind_some, iI_add, a19, iI_eq, Int.reduceEq, if_true]
    (repeat' split) <;> first | (rw [zr_i0, bI_F (by omega)]) | (rw [zr_i1, bI_T (by omega)])
  rw [if_neg a19]
  by_cases a20 : XR X 36 0 i = 20
  · rw [if_pos a20]
    refine ans_b ?_
    simp (disch := first | assumption | omega | exact W_fl W _ _ _ | exact W_fh W _ _ _ | exact W_rl W _ _ _ | exact W_rh W _ _ _) only [fX8_holds, g_8_0, g_10_2, g_8_2, g10s, k_10, k_6, k_8, l_36, l_38, li_19, li_1, li_0, li_20, li_21, li_22, li_23, li_24, li_25, ob2, Option.bind_some, iI_add, a20, iI_eq, Int.reduceEq, if_true, if_false, e_hasBeenAt g k10 W]
    unfold bI zr; split <;> rfl
  rw [if_neg a20]
  by_cases a21 : XR X 36 0 i = 21
  · rw [if_pos a21]
    refine ans_b ?_
    simp (disch := first | assumption | omega | exact W_fl W _ _ _ | exact W_fh W _ _ _ | exact W_rl W _ _ _ | exact W_rh W _ _ _) only [fX8_holds, g_8_0, g_10_2, g_8_2, g10s, k_10, k_6, k_8, l_36, l_38, li_19, li_1, li_0, li_20, li_21, li_22, li_23, li_24, li_25, ob2, Option.bind_some, iI_add, a21, iI_eq, Int.reduceEq, if_true, if_false, e_isSafeTo g k10 W hC cs]
    unfold bI zr; split <;> rfl
  rw [if_neg a21]
  by_cases a22 : XR X 36 0 i = 22
  · rw [if_pos a22]
    have q := o4 a22
    have q1 := sR.2.1
    refine ans_b ?_
    simp (disch := first | assumption | omega | exact W_fl W _ _ _ | exact W_fh W _ _ _ | exact W_rl W _ _ _ | exact W_rh W _ _ _) only [fX8_holds, g_8_0, g_10_2, g_8_2, g10s, k_10, k_6, k_8, l_36, l_38, li_19, li_1, li_0, li_20, li_21, li_22, li_23, li_24, li_25, ob2, Option.bind_some, iI_add, a22, iI_eq, Int.reduceEq, if_true, if_false, e_knowsNow g k10 W]
    unfold bI zr; split <;> rfl
  rw [if_neg a22]
  by_cases a23 : XR X 36 0 i = 23
  · rw [if_pos a23]
    have q := o5 a23
    have hf := e_hearsFrom (f0 := f0) (X := X) g0 W (p := XR X 38 0 i) (q := p) ⟨by omega, by omega⟩ ⟨by omega, by omega⟩ (by omega)
    refine ans_b ?_
    simp (disch := first | assumption | omega | exact W_fl W _ _ _ | exact W_fh W _ _ _ | exact W_rl W _ _ _ | exact W_rh W _ _ _) only [fX8_holds, g_8_0, g_10_2, g_8_2, g10s, k_10, k_6, k_8, l_36, l_38, li_19, li_1, li_0, li_20, li_21, li_22, li_23, li_24, li_25, ob2, Option.bind_some, iI_add, a23, iI_eq, Int.reduceEq, if_true, if_false, hf]
    unfold bI zr; split <;> rfl
  rw [if_neg a23]
  have q := o6 (by omega)
  have fin : ∀ x r, Rg x → r = ob2 (fX8_compares f0 (Ad Y 8 0) (iI x) (iI i) (hp Y X)) (fun a h => zr a h) → ans (cmpP (XR X 37 0 i) (XR X 38 0 i) x) r (hp Y X) := fun x r hx e => by
    have c := e_cmp (f0 := f0) g W i0 (by omega) hx q.1
    refine ⟨fun w => ?_, fun w => ?_⟩
    · rw [e, c.1 w]; exact zr_i1
    · rw [e, c.2 w]; exact zr_i0
  by_cases a24 : XR X 36 0 i = 24
  · rw [if_pos a24]
    have fr : 0 ≤ frA X (XP X 0) p ∧ frA X (XP X 0) p ≤ 1000000 := by
      unfold frA
      split
      · rename_i w
        have := (cs.2.1 w).1
        exact hC.2.2.2.2.2.2.2.2.2.2.1 _ (by omega) (by omega)
      · omega
    refine fin _ _ ⟨by omega, by omega⟩ ?_
    simp (disch := first | assumption | omega | exact W_fl W _ _ _ | exact W_fh W _ _ _ | exact W_rl W _ _ _ | exact W_rh W _ _ _) only [fX8_holds, g_8_0, g_10_2, g_8_2, g10s, k_10, k_6, k_8, l_36, l_38, li_19, li_1, li_0, li_20, li_21, li_22, li_23, li_24, li_25, ob2, Option.bind_some, iI_add, a24, iI_eq, Int.reduceEq, if_true, if_false, e_farTo g k10 W hC cs]
  rw [if_neg a24]
  by_cases a25 : XR X 36 0 i = 25
  · rw [if_pos a25]
    have bl := bs_lt (knB X (XP X 0) p (XF X 10 (XP X 0) 1)) (XR X 25 0 3).toNat
    have b8 : 2 ^ (XR X 25 0 3).toNat ≤ 2 ^ 8 := Nat.pow_le_pow_right (by decide) (by omega)
    have pr := pc_rg (bs (knB X (XP X 0) p (XF X 10 (XP X 0) 1)) (XR X 25 0 3).toNat)
    refine fin _ _ ⟨by omega, by omega⟩ ?_
    have nk := e_namesKnownAt (f0 := f0) g k10 W hC (p := p) p0 (by omega) f20
    have bc := bc_e (f0 := f0) (h := hp Y X) (x := bs (knB X (XP X 0) p (XF X 10 (XP X 0) 1)) (XR X 25 0 3).toNat) (by omega)
    simp (disch := first | assumption | omega | exact W_fl W _ _ _ | exact W_fh W _ _ _ | exact W_rl W _ _ _ | exact W_rh W _ _ _) only [fX8_holds, g_8_0, g_10_2, g_8_2, g10s, k_10, k_6, k_8, l_36, l_38, li_19, li_1, li_0, li_20, li_21, li_22, li_23, li_24, li_25, ob2, Option.bind_some, iI_add, a25, iI_eq, Int.reduceEq, if_true, if_false, nk, bc]
  rw [if_neg a25]
  have a26 : XR X 36 0 i = 26 := by omega
  refine fin _ _ ⟨by omega, by omega⟩ ?_
  simp (disch := first | assumption | omega | exact W_fl W _ _ _ | exact W_fh W _ _ _ | exact W_rl W _ _ _ | exact W_rh W _ _ _) only [fX8_holds, g_8_0, g_10_2, g_8_2, g10s, k_10, k_6, k_8, l_36, l_38, li_19, li_1, li_0, li_20, li_21, li_22, li_23, li_24, li_25, ob2, Option.bind_some, iI_add, a26, iI_eq, Int.reduceEq, if_true, if_false]
