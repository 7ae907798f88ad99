/-! A REGISTER'S SHIPS: the class -/
theorem ii_mns (a b : Nat) : iI (a : Int) &&& (iI (b : Int) ^^^ iI (-1)) = iI ((mns a b : Nat) : Int) := by
  apply Int32.toBitVec_inj.mp
  rw [Int32.toBitVec_and, Int32.toBitVec_xor, iI_bv, iI_bv, iI_bv]
  apply BitVec.eq_of_getLsbD_eq; intro i hi
  have m1 : (iI (-1)).toBitVec = BitVec.allOnes 32 := by decide
  rw [m1]
  simp only [BitVec.getLsbD_and, BitVec.getLsbD_xor, BitVec.getLsbD_allOnes, BitVec.getLsbD_ofNat, mns_bit, hi, decide_true, Bool.true_and]
  cases a.testBit i <;> cases b.testBit i <;> rfl
def dy (v : Int) : Int := if v < 0 then v + 256 else v
theorem dy_all : ∀ k : Nat, k < 256 → iI ((k : Int) - 128) &&& iI 255 = iI (dy ((k : Int) - 128)) := by decide +kernel
theorem ii_dy {v : Int} (h0 : -128 ≤ v) (h1 : v < 128) : iI v &&& iI 255 = iI (dy v) := by
  have := dy_all (v + 128).toNat (by omega)
  rw [show (((v + 128).toNat : Nat) : Int) - 128 = v by omega] at this
  exact this
theorem dy_rg {v : Int} (h0 : -128 ≤ v) (h1 : v < 128) : 0 ≤ dy v ∧ dy v < 256 := by unfold dy; split <;> omega
theorem dy_id {v : Int} (h : 0 ≤ v) : dy v = v := by unfold dy; rw [if_neg (by omega)]
/-- pairs: apart, and one behind another -/
def ab (x : Int) : Int := if 0 ≤ x then x else 0 - x
def apF (T q : Int → Int) (i : Int) : Int → Bool := fun j => decide (ab (dy (T (2 * i + 1)) - dy (T (2 * j + 1))) < q (8 * T (2 * i) + T (2 * j)))
def flF (T q : Int → Int) : Int → Int → Bool := fun i j => if dy (T (2 * j + 1)) - dy (T (2 * i + 1)) = 0 ∧ T (2 * i) = T (2 * j) then decide (i < j) else decide (0 < dy (T (2 * j + 1)) - dy (T (2 * i + 1)) ∧ q (8 * T (2 * i) + T (2 * j)) ≤ dy (T (2 * j + 1)) - dy (T (2 * i + 1)))
def TO (X : XS) (n : Int) : Prop := (∀ i, 0 ≤ i → i < 940 → -128 ≤ XR X 20 0 i ∧ XR X 20 0 i < 128) ∧ ∀ i, 0 ≤ i → i < n → 0 ≤ XR X 20 0 (2 * i) ∧ XR X 20 0 (2 * i) < XR X 25 0 0
theorem e_findApart {f0 : Nat} {Y : YS} {X : XS} (g : GY Y) (W : WF X) (hC : CSea X 0) {n i : Int} (n10 : n ≤ 10) (hT : TO X n) (i0 : 0 ≤ i) (i1 : i < n) (hf : 20 ≤ f0) : fX5_findApart f0 (Ad Y 5 0) (iI i) (iI n) (hp Y X) = some (iI ((bs (apF (XR X 20 0) (XR X 34 0) i) n.toNat : Nat) : Int), hp Y X) := by
  have g6 := SeO_0 g
  have s8 := hC.1
  rw [show (hp Y X) = hp Y X from rfl]
  have st : fX5_findApart f0 (Ad Y 5 0) (iI i) (iI n) (hp Y X) = bX5_findApart_5 f0 f0 (Ad Y 5 0) (iI i) (iI n) (iI ((bs (apF (XR X 20 0) (XR X 34 0) i) 0 : Nat) : Int)) (iI ((0 : Nat) : Int)) (hp Y X) := rfl
  rw [st]
  refine lp (fun f (j : Nat) => bX5_findApart_5 f0 f (Ad Y 5 0) (iI i) (iI n) (iI ((bs (apF (XR X 20 0) (XR X 34 0) i) j : Nat) : Int)) (iI (j : Int)) (hp Y X)) (fun j => (j : Int) ≤ n) (fun j => 11 - j) (fun r => r = _) ?_ f0 0 (by omega) (by omega)
  intro f j hj
  by_cases c : n ≤ (j : Int)
  · left
    simp (disch := first | assumption | omega) only [bX5_findApart_5, g_5_1, g_5_0, g_6_11, l_20, l_34, li_0, li_1, li_2, li_8, li_255, li_31, iI_add, iI_mul, iI_sub, Option.bind_some, iI_le, if_pos c]
    rw [show n.toNat = j by omega]
  · right
    refine ⟨j + 1, ?_, by omega, by omega⟩
    have ti := hT.2 i i0 i1; have tj := hT.2 j (by omega) (by omega)
    have bi := hT.1 (2 * i + 1) (by omega) (by omega); have bj := hT.1 (2 * (j : Int) + 1) (by omega) (by omega)
    have di := dy_rg bi.1 bi.2; have dj := dy_rg bj.1 bj.2
    have fr := hC.2.2.2.2.2.2.2.2.2.2.1 (8 * XR X 20 0 (2 * i) + XR X 20 0 (2 * (j : Int))) (by omega) (by omega)
    have e8 : XR X 20 0 (2 * i) * 8 + XR X 20 0 (2 * (j : Int)) = 8 * XR X 20 0 (2 * i) + XR X 20 0 (2 * (j : Int)) := by omega
    have yi := ii_dy bi.1 bi.2; have yj := ii_dy bj.1 bj.2
    have av : (if (0 : Int) ≤ dy (XR X 20 0 (2 * i + 1)) - dy (XR X 20 0 (2 * (j : Int) + 1)) then iI (dy (XR X 20 0 (2 * i + 1)) - dy (XR X 20 0 (2 * (j : Int) + 1))) else iI (0 - (dy (XR X 20 0 (2 * i + 1)) - dy (XR X 20 0 (2 * (j : Int) + 1))))) = iI (ab (dy (XR X 20 0 (2 * i + 1)) - dy (XR X 20 0 (2 * (j : Int) + 1)))) := by unfold ab; split <;> rfl
    have ar : 0 ≤ ab (dy (XR X 20 0 (2 * i + 1)) - dy (XR X 20 0 (2 * (j : Int) + 1))) ∧ ab (dy (XR X 20 0 (2 * i + 1)) - dy (XR X 20 0 (2 * (j : Int) + 1))) ≤ 256 := by unfold ab; split <;> omega
    by_cases a : XR X 34 0 (8 * XR X 20 0 (2 * i) + XR X 20 0 (2 * (j : Int))) ≤ ab (dy (XR X 20 0 (2 * i + 1)) - dy (XR X 20 0 (2 * (j : Int) + 1)))
    · have ps := ib_pass (p := apF (XR X 20 0) (XR X 34 0) i) (i := (j : Int)) (by omega) (by unfold apF; simp; omega)
      rw [show ((j : Int)).toNat = j from rfl, show ((j : Int) + 1).toNat = j + 1 by omega] at ps
      rw [← ps]
      simp (disch := first | assumption | omega) only [bX5_findApart_5, bX5_findApart_87, g_5_1, g_5_0, g_6_11, l_20, l_34, li_0, li_1, li_2, li_8, li_255, li_31, iI_add, iI_mul, iI_sub, Option.bind_some, iI_le, if_neg c, yi, yj, e8, av, if_pos a]
      rfl
    · have ps := ib_put (p := apF (XR X 20 0) (XR X 34 0) i) (i := (j : Int)) (by omega) (by omega) (by unfold apF; simp; omega)
      rw [show ((j : Int)).toNat = j from rfl, show ((j : Int) + 1).toNat = j + 1 by omega] at ps
      rw [← ps]
      simp (disch := first | assumption | omega) only [bX5_findApart_5, bX5_findApart_87, g_5_1, g_5_0, g_6_11, l_20, l_34, li_0, li_1, li_2, li_8, li_255, li_31, iI_add, iI_mul, iI_sub, Option.bind_some, iI_le, if_neg c, yi, yj, e8, av, if_neg a]
      rfl
/-- a set of which each two are apart -/
def apS (ap : Int → Int) (n A : Nat) : Bool := !(anyB (fun i => A.testBit i.toNat && decide (¬ mns (clr A i.toNat) (ap i).toNat = 0)) n)
theorem e_areApart {f0 : Nat} {Y : YS} {X : XS} {ap : Int → Int} (g : GY Y) (hX : XR X 50 0 = ap) {n : Int} {A : Nat} (hA : A < 1024) (n0 : 0 ≤ n) (n10 : n ≤ 10) (ha : ∀ i, 0 ≤ i → i < n → 0 ≤ ap i ∧ ap i < 1024) (hf : 20 ≤ f0) : fX5_areApart f0 (Ad Y 5 0) (iI (A : Int)) (iI n) (hp Y X) = some (iI (b01 (apS ap n.toNat A)), hp Y X) := by
  have st : fX5_areApart f0 (Ad Y 5 0) (iI (A : Int)) (iI n) (hp Y X) = bX5_areApart_2 f0 f0 (Ad Y 5 0) (iI (A : Int)) (iI n) (iI ((0 : Nat) : Int)) (hp Y X) := rfl
  rw [st]
  refine lp (fun f (i : Nat) => bX5_areApart_2 f0 f (Ad Y 5 0) (iI (A : Int)) (iI n) (iI (i : Int)) (hp Y X)) (fun i => (i : Int) ≤ n ∧ anyB (fun i => A.testBit i.toNat && decide (¬ mns (clr A i.toNat) (ap i).toNat = 0)) i = false) (fun i => 11 - i) (fun r => r = _) ?_ f0 0 ⟨by omega, rfl⟩ (by omega)
  intro f i ⟨hi, inv⟩
  by_cases c : n ≤ (i : Int)
  · left
    have : apS ap n.toNat A = true := by unfold apS; rw [show n.toNat = i by omega, inv]; rfl
    rw [this]
    simp (disch := first | assumption | omega) only [bX5_areApart_2, g_5_2, l_50, lm_1, li_0, li_1, li_31, iI_add, Option.bind_some, iI_neg, iI_le, if_pos c, zr_i1]
    rfl
  · have ai := ha i (by omega) (by omega)
    have stp : anyB (fun i => A.testBit i.toNat && decide (¬ mns (clr A i.toNat) (ap i).toNat = 0)) (i + 1) = (A.testBit i && decide (¬ mns (clr A i) (ap (i : Int)).toNat = 0)) := by
      rw [anyB, inv]; simp
    by_cases a : A.testBit i = true
    · have a' : A.testBit ((i : Int)).toNat = true := a
      have cl := ii_clr (a := A) (b := (i : Int)) hA (by omega) (by omega)
      have mm := ii_mns (clr A i) (ap (i : Int)).toNat
      rw [show (((ap (i : Int)).toNat : Nat) : Int) = ap (i : Int) by omega] at mm
      have ml : mns (clr A i) (ap (i : Int)).toNat < 1024 := Nat.lt_of_le_of_lt mns_le (clr_lt hA)
      rw [show ((i : Int)).toNat = i from rfl] at cl
      by_cases b : ((mns (clr A i) (ap (i : Int)).toNat : Nat) : Int) = 0
      · right
        refine ⟨i + 1, ?_, ⟨by omega, by rw [stp, a]; simp; omega⟩, by omega⟩
        simp (disch := first | assumption | omega) only [bX5_areApart_2, bX5_areApart_40, g_5_2, l_50, lm_1, li_0, li_1, li_31, iI_add, Option.bind_some, iI_neg, iI_le, if_neg c, ii_bitN, bI_i0, ite_n, if_pos a', hX, ii_one, iI_neg, cl, mm, iI_eq, if_pos b]
        rfl
      · left
        have : apS ap n.toNat A = false := by
          unfold apS
          have : anyB (fun i => A.testBit i.toNat && decide (¬ mns (clr A i.toNat) (ap i).toNat = 0)) n.toNat = true := (anyB_iff _ _).mpr ⟨i, by omega, by rw [a']; simp; omega⟩
          rw [this]; rfl
        rw [this]
        simp (disch := first | assumption | omega) only [bX5_areApart_2, bX5_areApart_40, g_5_2, l_50, lm_1, li_0, li_1, li_31, iI_add, Option.bind_some, iI_neg, iI_le, if_neg c, ii_bitN, bI_i0, ite_n, if_pos a', hX, ii_one, iI_neg, cl, mm, iI_eq, if_neg b, zr_i0]
        rfl
    · have a' : ¬ A.testBit ((i : Int)).toNat = true := a
      right
      refine ⟨i + 1, ?_, ⟨by omega, by rw [stp]; simp at a; simp [a]⟩, by omega⟩
      simp (disch := first | assumption | omega) only [bX5_areApart_2, bX5_areApart_40, g_5_2, l_50, lm_1, li_0, li_1, li_31, iI_add, Option.bind_some, iI_neg, iI_le, if_neg c, ii_bitN, bI_i0, ite_n, if_neg a']
      rfl
def apV (ap : Int → Int) (n A : Nat) : Int := if apS ap n A = true then pc A else 0
theorem mx_rg {g : Nat → Int} (h : ∀ i, g i ≤ 10) : ∀ n, 0 ≤ mx g n ∧ mx g n ≤ 10
  | 0 => by simp [mx]
  | n + 1 => by have := mx_rg h n; have := h n; rw [mx]; split <;> omega
theorem apV_rg (ap : Int → Int) (n A : Nat) : apV ap n A ≤ 10 := by unfold apV; have := pc_rg A; split <;> omega
theorem e_mostApart {f0 : Nat} {Y : YS} {X : XS} {ap : Int → Int} (g : GY Y) (hX : XR X 50 0 = ap) {n : Int} (n0 : 0 ≤ n) (n10 : n ≤ 10) (ha : ∀ i, 0 ≤ i → i < n → 0 ≤ ap i ∧ ap i < 1024) (hf : 2000 ≤ f0) : fX5_mostApart f0 (Ad Y 5 0) (iI n) (hp Y X) = some (iI (mx (apV ap n.toNat) (2 ^ n.toNat)), hp Y X) := by
  have z0 : apV ap n.toNat 0 = 0 := by unfold apV; split <;> rfl
  have m1 : mx (apV ap n.toNat) 1 = 0 := by rw [mx, z0]; rfl
  have st : fX5_mostApart f0 (Ad Y 5 0) (iI n) (hp Y X) = bX5_mostApart_4 f0 f0 (Ad Y 5 0) (iI n) (iI (mx (apV ap n.toNat) 1)) (iI ((1 : Nat) : Int)) (hp Y X) := by rw [m1]; rfl
  rw [st]
  have P1 : 1 ≤ 2 ^ n.toNat := Nat.one_le_two_pow
  have P2 : 2 ^ n.toNat ≤ 2 ^ 10 := Nat.pow_le_pow_right (by decide) (by omega)
  have P3 : (2 : Nat) ^ 10 = 1024 := by decide
  have one : (iI 1) <<< (iI n &&& iI 31) = iI ((2 ^ n.toNat : Nat) : Int) := by
    have := ib_one (i := n.toNat) (by omega)
    rw [show ((n.toNat : Nat) : Int) = n by omega] at this
    exact this
  refine lp (fun f (s : Nat) => bX5_mostApart_4 f0 f (Ad Y 5 0) (iI n) (iI (mx (apV ap n.toNat) s)) (iI (s : Int)) (hp Y X)) (fun s => s ≤ 2 ^ n.toNat) (fun s => 1025 - s) (fun r => r = _) ?_ f0 1 (by omega) (by omega)
  intro f s hs
  have mr := mx_rg (apV_rg ap n.toNat) s
  by_cases c : ((2 ^ n.toNat : Nat) : Int) ≤ (s : Int)
  · left
    simp (disch := first | assumption | omega) only [bX5_mostApart_4, k_5, li_0, li_1, li_31, ob2, iI_add, Option.bind_some, one, iI_le, if_pos c]
    rw [show s = 2 ^ n.toNat by omega]
  · right
    refine ⟨s + 1, ?_, by omega, by omega⟩
    have pr := pc_rg s
    have bc := bc_e (f0 := f0) (x := s) (h := hp Y X) (by omega)
    rw [mx]
    by_cases a : pc s ≤ mx (apV ap n.toNat) s
    · rw [if_neg (by unfold apV at *; split <;> omega)]
      simp (disch := first | assumption | omega) only [bX5_mostApart_4, bX5_mostApart_35, k_5, li_0, li_1, li_31, ob2, iI_add, Option.bind_some, one, iI_le, if_neg c, bc, if_pos a]
      rfl
    · have ar := e_areApart (f0 := f0) (A := s) g hX (n := n) (by omega) n0 n10 ha (by omega)
      cases b : apS ap n.toNat s with
      | true =>
        have v : apV ap n.toNat s = pc s := by unfold apV; rw [if_pos b]
        have z1 : b01 true = 1 := rfl
        have n11 : ¬ (1 : Int) = 0 := by decide
        rw [b, z1] at ar
        rw [if_pos (by rw [v]; omega), v]
        simp (disch := first | assumption | omega) only [bX5_mostApart_4, bX5_mostApart_35, k_5, li_0, li_1, li_31, ob2, iI_add, Option.bind_some, one, iI_le, if_neg c, bc, if_neg a, ar, iI_eq, if_neg n11]
        rfl
      | false =>
        have v : apV ap n.toNat s = 0 := by unfold apV; rw [if_neg (by rw [b]; decide)]
        have z1 : b01 false = 0 := rfl
        rw [b, z1] at ar
        rw [if_neg (by rw [v]; omega)]
        simp (disch := first | assumption | omega) only [bX5_mostApart_4, bX5_mostApart_35, k_5, li_0, li_1, li_31, ob2, iI_add, Option.bind_some, one, iI_le, if_neg c, bc, if_neg a, ar, if_true]
        rfl
