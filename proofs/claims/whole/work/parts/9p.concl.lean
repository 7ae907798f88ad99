/-! WHAT FOLLOWS FROM THE LINES -/
def roP (N : Int → Int) (s : Int) : Int → Bool := fun r => decide (N (s * 8 + r) = 1)
def rlT (N q : Int → Int) (m : Int) : Int → Int := fun j => if 0 ≤ j ∧ j < m then ((bs (roP N j) 8 : Nat) : Int) else q j
theorem shl0 : ∀ i : Nat, i < 8 → iI 0 <<< (iI (i : Int) &&& iI 31) = iI 0 := by decide +kernel
theorem or0 (a : Int) : iI a ||| iI 0 = iI a := by
  apply Int32.toBitVec_inj.mp
  rw [Int32.toBitVec_or]
  show (iI a).toBitVec ||| (0 : BitVec 32) = _
  simp
theorem e_roles {f0 : Nat} {Y : YS} {X : XS} (g : GY Y) (hN : ∀ i, 0 ≤ i → i < 64 → XR X 30 1 i = 0 ∨ XR X 30 1 i = 1) (hf : 200 ≤ f0) : bX6_conclude_26 f0 f0 (Ad Y 6 1) (iI 0) (hp Y X) = some (hp Y (sR X 33 1 (rlT (XR X 30 1) (XR X 33 1) 8))) := by
  have g1 := SeO_1 g
  obtain ⟨q, hq⟩ : ∃ q, q = XR X 33 1 := ⟨_, rfl⟩
  obtain ⟨N, hNn⟩ : ∃ N, N = XR X 30 1 := ⟨_, rfl⟩
  rw [← hq, ← hNn]
  rw [← hNn] at hN
  have x33 : ∀ t, XR (sR X 33 1 t) 33 1 = t := fun t => rfl
  have x30 : ∀ t, XR (sR X 33 1 t) 30 1 = N := fun t => hNn.symm
  have z : bX6_conclude_26 f0 f0 (Ad Y 6 1) (iI 0) (hp Y X) = bX6_conclude_26 f0 f0 (Ad Y 6 1) (iI 0) (hp Y (sR X 33 1 (rlT N q 0))) := by
    have : rlT N q 0 = q := funext fun j => by unfold rlT; rw [if_neg (by omega)]
    rw [this, hq, sR_self]
  rw [z]
  refine lp (fun f (s : Int) => bX6_conclude_26 f0 f (Ad Y 6 1) (iI s) (hp Y (sR X 33 1 (rlT N q s)))) (fun s => 0 ≤ s ∧ s ≤ 8) (fun s => (9 - s).toNat) (fun z => z = _) ?_ f0 0 ⟨by omega, by omega⟩ (by show (9 - (0 : Int)).toNat < f0; omega)
  rintro f s ⟨s0, s1⟩
  by_cases c : (8 : Int) ≤ s
  · left
    simp (disch := first | assumption | omega) only [bX6_conclude_26, g_6_10, s_33, li_0, li_1, li_8, iI_add, Option.bind_some, iI_le, if_pos c]
    rw [show s = 8 by omega]
  · right
    refine ⟨s + 1, ?_, ⟨by omega, by omega⟩, by show (9 - (s + 1)).toNat < (9 - s).toNat; omega⟩
    have st : bX6_conclude_26 f0 (f + 1) (Ad Y 6 1) (iI s) (hp Y (sR X 33 1 (rlT N q s))) = bX6_conclude_41 f0 (bX6_conclude_26 f0 f) f0 (Ad Y 6 1) (iI s) (iI 0) (hp Y (sR X 33 1 (upi (rlT N q s) s ((bs (roP N s) (0 : Int).toNat : Nat) : Int)))) := by
      simp (disch := first | assumption | omega) only [bX6_conclude_26, g_6_10, s_33, li_0, li_1, li_8, iI_add, Option.bind_some, iI_le, if_neg c, x33, sR_sR]
      rfl
    rw [st]
    refine lp (fun f' (r : Int) => bX6_conclude_41 f0 (bX6_conclude_26 f0 f) f' (Ad Y 6 1) (iI s) (iI r) (hp Y (sR X 33 1 (upi (rlT N q s) s ((bs (roP N s) r.toNat : Nat) : Int))))) (fun r => 0 ≤ r ∧ r ≤ 8) (fun r => (9 - r).toNat) (fun z => z = _) ?_ f0 0 ⟨by omega, by omega⟩ (by show (9 - (0 : Int)).toNat < f0; omega)
    rintro f' r ⟨r0, r1⟩
    by_cases d : (8 : Int) ≤ r
    · left
      simp (disch := first | assumption | omega) only [bX6_conclude_41, g_6_10, g_6_7, l_30, s_30, l_33, s_33, li_0, li_1, li_8, li_31, iI_add, iI_mul, Option.bind_some, iI_le, if_pos d]
      have : upi (rlT N q s) s ((bs (roP N s) r.toNat : Nat) : Int) = rlT N q (s + 1) := funext fun j => by
        rw [upi_at, show r.toNat = 8 by omega]; unfold rlT
        by_cases e : j = s
        · rw [if_pos e, if_pos (by omega), e]
        · rw [if_neg e]
          by_cases k : 0 ≤ j ∧ j < s
          · rw [if_pos k, if_pos (show 0 ≤ j ∧ j < s + 1 by omega)]
          · rw [if_neg k, if_neg (show ¬ (0 ≤ j ∧ j < s + 1) by omega)]
      rw [this]
    · right
      refine ⟨r + 1, ?_, ⟨by omega, by omega⟩, by show (9 - (r + 1)).toNat < (9 - r).toNat; omega⟩
      have h := hN (s * 8 + r) (by omega) (by omega)
      have bl := bs_lt (roP N s) (r + 1).toNat
      have b8 : 2 ^ (r + 1).toNat ≤ 2 ^ 8 := Nat.pow_le_pow_right (by decide) (by omega)
      rcases h with h | h
      · have p0 : ¬ roP N s r = true := by unfold roP; rw [h]; decide
        have e1 := shl0 r.toNat (by omega)
        rw [show ((r.toNat : Nat) : Int) = r by omega] at e1
        have e2 := ib_pass (p := roP N s) r0 p0
        simp (disch := first | assumption | omega) only [bX6_conclude_41, g_6_10, g_6_7, l_30, s_30, l_33, s_33, li_0, li_1, li_8, li_31, iI_add, iI_mul, Option.bind_some, iI_le, if_neg d, x33, x30, upi_eq, h, e1, or0, sR_sR, upi_upi]
        have e3 : ((bs (roP N s) r.toNat : Nat) : Int) = ((bs (roP N s) (r + 1).toNat : Nat) : Int) := by
          rw [show (r + 1).toNat = r.toNat + 1 by omega, ← bs_not (by rw [show ((r.toNat : Nat) : Int) = r by omega]; exact p0)]
        rw [e3]
      · have p1 : roP N s r = true := by unfold roP; rw [h]; decide
        have e2 := ib_put (p := roP N s) r0 (by omega) p1
        simp (disch := first | assumption | omega) only [bX6_conclude_41, g_6_10, g_6_7, l_30, s_30, l_33, s_33, li_0, li_1, li_8, li_31, iI_add, iI_mul, Option.bind_some, iI_le, if_neg d, x33, x30, upi_eq, h, e2, sR_sR, upi_upi]
def ccA (X : XS) (st su : Nat) : Int → Int := fwG (XR X 25 1 0) (XR X 25 1 0).toNat (dgT (ini0 (XR X st 1) (XR X su 1) 64) (XR X 25 1 0))
def cc (X : XS) : XS := sR (sR (sR X 34 1 (ccA X 26 34)) 35 1 (ccA X 27 35)) 33 1 (rlT (XR X 30 1) (XR X 33 1) 8)
theorem e_conclude {f0 : Nat} {Y : YS} {X : XS} (g : GY Y) (W : WF X) (d : DC X) (hf : 200 ≤ f0) : fX6_conclude f0 (Ad Y 6 1) (hp Y X) = some (hp Y (cc X)) := by
  have g1 := SeO_1 g
  have n := d.1.1
  have A := e_short_26 (f0 := f0) (X := X) g rfl n.1 n.2 (fun i i0 i1 => by have := (d.2.2.1 i i0 i1).1; omega) hf
  have A' : fX6_shortest f0 (Ad Y 6 1) (Ad Y 26 1) (Ad Y 34 1) (hp Y X) = some (hp Y (sR X 34 1 (ccA X 26 34))) := A
  have rg : ∀ i, 0 ≤ i → i < 64 → 0 ≤ XR X 27 1 i ∧ XR X 27 1 i ≤ 1000 := fun i i0 i1 => by have := (d.2.2.1 i i0 i1).2.1; omega
  have B' : fX6_shortest f0 (Ad Y 6 1) (Ad Y 27 1) (Ad Y 35 1) (hp Y (sR X 34 1 (ccA X 26 34))) = some (hp Y (sR (sR X 34 1 (ccA X 26 34)) 35 1 (ccA X 27 35))) := e_short_27 (f0 := f0) (X := sR X 34 1 (ccA X 26 34)) g rfl n.1 n.2 rg hf
  have C := e_roles (f0 := f0) (Y := Y) (X := sR (sR X 34 1 (ccA X 26 34)) 35 1 (ccA X 27 35)) g (fun i i0 i1 => by have := (d.2.2.1 i i0 i1).2.2.2.2; show XR X 30 1 i = 0 ∨ XR X 30 1 i = 1; omega) hf
  simp (disch := first | assumption | omega) only [fX6_conclude, g_6_3, g_6_11, g_6_4, g_6_12, k_6, li_0, Option.bind_some, iI_add, A', B', C]
  rfl
theorem fwG_rg {n : Int} {r : Int → Int} (n8 : n ≤ 8) (h : ∀ i, 0 ≤ i → i < 64 → 0 ≤ r i ∧ r i ≤ 1000000) : ∀ m : Nat, (m : Int) ≤ n → ∀ i, 0 ≤ i → i < 64 → 0 ≤ fwG n m r i ∧ fwG n m r i ≤ 1000000
  | 0, _, i, i0, i1 => h i i0 i1
  | m + 1, hm, i, i0, i1 => by
    have ih := fwG_rg n8 h m (by omega)
    have v0 := ih i i0 i1
    show 0 ≤ fwS n m (fwG n m r) i ∧ fwS n m (fwG n m r) i ≤ 1000000
    unfold fwS
    split
    · rename_i c
      have v1 := ih (8 * (i / 8) + m) (by omega) (by omega)
      have v2 := ih (8 * m + i % 8) (by omega) (by omega)
      split
      · omega
      · exact v0
    · exact v0
theorem bs_self : ∀ v : Nat, v < 64 → bs (fun r => bitI (v : Int) r) 8 = v := by decide +kernel
theorem ccA_rg {X : XS} {st su : Nat} (n : 0 ≤ XR X 25 1 0 ∧ XR X 25 1 0 ≤ 8) (h : ∀ i, 0 ≤ i → i < 64 → 0 ≤ XR X st 1 i ∧ XR X st 1 i ≤ 1000) : ∀ i, 0 ≤ i → i < 64 → 0 ≤ ccA X st su i ∧ ccA X st su i ≤ 1000000 := by
  unfold ccA
  refine fwG_rg n.2 (fun i i0 i1 => ?_) _ (by omega)
  rw [dgT_ini i i0 i1]
  have := h i i0 i1
  unfold iniW
  (repeat' split) <;> omega
theorem ccA_W {X : XS} {st su : Nat} (n : 0 ≤ XR X 25 1 0 ∧ XR X 25 1 0 ≤ 8) : ∀ {a b : Int}, 0 ≤ a → a < XR X 25 1 0 → 0 ≤ b → b < XR X 25 1 0 → ccA X st su (8 * a + b) = fwG (XR X 25 1 0) (XR X 25 1 0).toNat (iniW (XR X 25 1 0) (XR X st 1)) (8 * a + b) := fun a0 a1 b0 b1 => fwG_c n.2 dgT_ini _ (by omega) _ (by omega) (by omega)
theorem cc_SeaI {X Z : XS} (c : LC X) (h : LR X Z) : SeaI (cc X) 1 (XR Z 62 0) := by
  have d := c.2.2.2.1
  have cn := h.2.2.2.1.1
  obtain ⟨t1, t2, t3, t4⟩ := h.2.2.2.1.2.1
  have zs := h.2.2.2.1.2.2.1
  obtain ⟨d1, d2, d3, d4, d5, d6⟩ := d
  have nn := d1.1
  have e33 : ∀ i, 0 ≤ i → i < 8 → XR (cc X) 33 1 i = XR Z 62 0 (264 + i) := fun i i0 i8 => by
    show rlT (XR X 30 1) (XR X 33 1) 8 i = _
    unfold rlT; rw [if_pos ⟨i0, i8⟩]
    have b := (t2 i i0 i8).1
    have e : bs (roP (XR X 30 1) i) 8 = bs (fun r => bitI (((XR Z 62 0 (264 + i)).toNat : Nat) : Int) r) 8 := bs_eq fun r => by
      constructor
      · rintro ⟨r1, r2⟩
        refine ⟨r1, ?_⟩
        unfold roP at r2
        rw [decide_eq_true_eq, t3 i r i0 i8 (by omega) (by omega)] at r2
        rw [show (((XR Z 62 0 (264 + i)).toNat : Nat) : Int) = XR Z 62 0 (264 + i) by omega]
        apply Classical.byContradiction; intro k
        rw [if_neg k] at r2; omega
      · rintro ⟨r1, r2⟩
        refine ⟨r1, ?_⟩
        rw [show (((XR Z 62 0 (264 + i)).toNat : Nat) : Int) = XR Z 62 0 (264 + i) by omega] at r2
        unfold roP
        rw [decide_eq_true_eq, t3 i r i0 i8 (by omega) (by omega), if_pos r2]
    rw [e, bs_self _ (by omega)]; omega
  have r26 : ∀ i, 0 ≤ i → i < 64 → 0 ≤ XR X 26 1 i ∧ XR X 26 1 i ≤ 1000 := fun i i0 i1 => by have := (d3 i i0 i1).1; omega
  have r27 : ∀ i, 0 ≤ i → i < 64 → 0 ≤ XR X 27 1 i ∧ XR X 27 1 i ≤ 1000 := fun i i0 i1 => by have := (d3 i i0 i1).2.1; omega
  refine ⟨⟨d1.1, d1.2.2.2.1, d1.2.2.2.2.1, d1.2.2.2.2.2.1, d1.2.2.2.2.2.2, d5, fun i i0 i1 => (d3 i i0 i1).1, fun i i0 i1 => (d3 i i0 i1).2.2.1, fun i i0 i1 => (d3 i i0 i1).2.2.2.1, fun i i0 i1 => ?_, fun i i0 i1 => ccA_rg nn r26 i i0 i1, fun i i0 i1 => ccA_rg nn r27 i i0 i1⟩, ⟨cn, fun i i0 i1 => t1 i i0 i1, fun i i0 i1 => ⟨e33 i i0 i1, (t2 i i0 i1).2⟩, fun i i0 i1 => t4 i i0 i1⟩, fun i i0 i1 => (d4 i i0 i1).1, zs, fun a b a0 a1 b0 b1 => ⟨ccA_W nn a0 a1 b0 b1, ccA_W nn a0 a1 b0 b1⟩⟩
  rw [e33 i i0 i1]; exact (t2 i i0 i1).1
theorem cc_W {X : XS} (W : WF X) (d : DC X) : WF (cc X) := by
  have nn := d.1.1
  have g : ∀ st su, (∀ i, 0 ≤ i → i < 64 → 0 ≤ XR X st 1 i ∧ XR X st 1 i ≤ 1000) → (∀ i, Rg (XR X su 1 i)) → ∀ i, Rg (ccA X st su i) := fun st su h1 h2 i => by
    by_cases k : 0 ≤ i ∧ i < 64
    · have := ccA_rg (su := su) nn h1 i k.1 k.2; exact ⟨by omega, by omega⟩
    · have o : ∀ m : Nat, fwG (XR X 25 1 0) m (dgT (ini0 (XR X st 1) (XR X su 1) 64) (XR X 25 1 0)) i = XR X su 1 i := fun m => by
        induction m with
        | zero =>
          show dgT (ini0 (XR X st 1) (XR X su 1) 64) (XR X 25 1 0) i = _
          unfold dgT ini0
          rw [if_neg (by omega), if_neg k]
        | succ m ih =>
          show fwS (XR X 25 1 0) m (fwG (XR X 25 1 0) m (dgT (ini0 (XR X st 1) (XR X su 1) 64) (XR X 25 1 0))) i = _
          unfold fwS
          rw [if_neg (by omega)]; exact ih
      unfold ccA
      rw [o]; exact h2 i
  unfold cc
  refine W_R (W_R (W_R W (g 26 34 (fun i i0 i1 => by have := (d.2.2.1 i i0 i1).1; omega) (fun i => W.2 _ _ _))) (g 27 35 (fun i i0 i1 => by have := (d.2.2.1 i i0 i1).2.1; omega) (fun i => W.2 _ _ _))) (fun i => ?_)
  unfold rlT; split
  · have := bs_lt (roP (XR X 30 1) i) 8
    exact ⟨by omega, by omega⟩
  · exact W.2 _ _ _
