/-! THE CLASS'S SHIP -/
theorem SeO_0 {Y : YS} (g : GY Y) : SeO Y 0 := ⟨g, fun s hs => g.2.2.2.1 _ (by revert s; decide)⟩
theorem SeO_1 {Y : YS} (g : GY Y) : SeO Y 1 := ⟨g, fun s hs => g.2.2.2.1 _ (by revert s; decide)⟩
theorem StO_0 {Y : YS} (g : GY Y) : StO Y 0 := ⟨g, fun s hs => g.2.2.2.1 _ (by revert s; decide)⟩
theorem StO_1 {Y : YS} (g : GY Y) : StO Y 1 := ⟨g, fun s hs => g.2.2.2.1 _ (by revert s; decide)⟩
theorem shp_in : ∀ k, k < 10 → ∀ s ∈ [10, 43, 44, 45, 46], (s, k) ∈ idl0 := by decide
theorem ShO_k {Y : YS} (g : GY Y) {k : Nat} (hk : k < 10) : ShO Y k := ⟨g, fun s hs => g.2.2.2.1 _ (shp_in k hk s hs)⟩
theorem g10s {Y : YS} {X : XS} {k : Nat} (g : ShO Y k) (hk : k < 10) : gfN 10 0 (hp Y X) (Ad Y 10 k) = some (Ad Y 6 0) := by
  rw [g_10_0 g, show shs k = 0 from if_pos hk]
/-- how many of each, at sea j: what bounds hold -/
def CSea (X : XS) (j : Nat) : Prop :=
  (0 ≤ XR X 25 j 0 ∧ XR X 25 j 0 ≤ 8) ∧ (0 ≤ XR X 25 j 3 ∧ XR X 25 j 3 ≤ 8) ∧ (0 ≤ XR X 25 j 4 ∧ XR X 25 j 4 ≤ 6) ∧ (0 ≤ XR X 25 j 5 ∧ XR X 25 j 5 ≤ 8) ∧ (0 ≤ XR X 25 j 6 ∧ XR X 25 j 6 ≤ 16) ∧ (0 ≤ XF X 6 j 2 ∧ XF X 6 j 2 ≤ 12) ∧
  (∀ i, 0 ≤ i → i < 64 → 0 ≤ XR X 26 j i ∧ XR X 26 j i ≤ 20) ∧ (∀ i, 0 ≤ i → i < 64 → 0 ≤ XR X 28 j i ∧ XR X 28 j i ≤ 250) ∧ (∀ i, 0 ≤ i → i < 64 → 0 ≤ XR X 29 j i ∧ XR X 29 j i ≤ 250) ∧
  (∀ i, 0 ≤ i → i < 8 → 0 ≤ XR X 33 j i ∧ XR X 33 j i < 64) ∧ (∀ i, 0 ≤ i → i < 64 → 0 ≤ XR X 34 j i ∧ XR X 34 j i ≤ 1000000) ∧ (∀ i, 0 ≤ i → i < 64 → 0 ≤ XR X 35 j i ∧ XR X 35 j i ≤ 1000000)
abbrev forHer (X : XS) (j : Nat) : Prop := 0 < XR X 25 j 0 ∧ 0 < XR X 25 j 3
def CShip (X : XS) (k j : Nat) : Prop :=
  (0 ≤ XF X 10 k 1 ∧ XF X 10 k 1 ≤ 999) ∧ (forHer X j → (0 ≤ XF X 10 k 2 ∧ XF X 10 k 2 < XR X 25 j 0) ∧ (0 ≤ XF X 10 k 3 ∧ XF X 10 k 3 < XR X 25 j 3)) ∧ (-1 ≤ XF X 10 k 4 ∧ (XF X 10 k 4 = -1 ∨ XF X 10 k 4 < XR X 25 j 3)) ∧ (XF X 10 k 6 = 0 ∨ XF X 10 k 6 = 1) ∧
  (∀ i, 0 ≤ i → i < 8 → 0 ≤ XR X 43 k i ∧ XR X 43 k i ≤ XF X 10 k 1) ∧ (∀ i, 0 ≤ i → i < 8 → 0 ≤ XR X 44 k i ∧ XR X 44 k i < 256) ∧ (∀ i, 0 ≤ i → i < 8 → 0 ≤ XR X 45 k i ∧ XR X 45 k i < 64) ∧ (∀ i, 0 ≤ i → i < 64 → 0 ≤ XR X 46 k i ∧ XR X 46 k i ≤ 1000000)
abbrev canA (X : XS) (k : Nat) : Prop := (0 < XR X 25 0 0 ∧ 0 < XR X 25 0 3) ∧ XF X 10 k 6 = 0
theorem e_canAct {f0 : Nat} {Y : YS} {X : XS} {k : Nat} (g : GY Y) (hk : k < 10) (W : WF X) : fX10_canAct f0 (Ad Y 10 k) (hp Y X) = some (bI (canA X k), hp Y X) := by
  have gk := ShO_k g hk; have gs := SeO_0 g
  simp (disch := first | assumption | omega | exact W_fl W _ _ _ | exact W_fh W _ _ _ | exact W_rl W _ _ _ | exact W_rh W _ _ _) only [iI_lt, iI_le, iI_eq, bI_i0, ite_n, ii_bit, ii_one, iI_or, fX10_canAct, g10s, g_10_6, k_6, li_0, li_1, ob2, Option.bind_some, iI_add, e_isForHer]
  (repeat' split) <;> first | (rw [zr_i0, bI_F (by omega)]) | (rw [zr_i1, bI_T (by omega)])
theorem e_isLate {f0 : Nat} {Y : YS} {X : XS} {k : Nat} (g : GY Y) (hk : k < 10) (W : WF X) (h : 0 ≤ XF X 10 k 1 ∧ XF X 10 k 1 ≤ 999) {d : Int} (h0 : 0 ≤ d) (h1 : d ≤ 1000) : fX10_isLate f0 (Ad Y 10 k) (iI d) (hp Y X) = some (bI (999 < XF X 10 k 1 + d), hp Y X) := by
  have gk := ShO_k g hk
  simp (disch := first | assumption | omega | exact W_fl W _ _ _ | exact W_fh W _ _ _ | exact W_rl W _ _ _ | exact W_rh W _ _ _) only [iI_lt, iI_le, iI_eq, bI_i0, ite_n, ii_bit, ii_one, iI_or, fX10_isLate, g_10_1, li_999, li_0, li_1, iI_add, Option.bind_some]
  (repeat' split) <;> first | (rw [zr_i0, bI_F (by omega)]) | (rw [zr_i1, bI_T (by omega)])
def owA (X : XS) (k : Nat) (s p : Int) : Int := if bitI (XR X 44 k s) p = true then 0 else XR X 29 0 (s * 8 + p)
theorem e_owedTo {f0 : Nat} {Y : YS} {X : XS} {k : Nat} (g : GY Y) (hk : k < 10) (W : WF X) (hS : CShip X k 0) {s p : Int} (s0 : 0 ≤ s) (s1 : s < 8) (p0 : 0 ≤ p) (p1 : p < 8) : fX10_owedTo f0 (Ad Y 10 k) (iI s) (iI p) (hp Y X) = some (iI (owA X k s p), hp Y X) := by
  have gk := ShO_k g hk; have gs := SeO_0 g
  have ht := hS.2.2.2.2.2.1 s s0 s1
  simp (disch := first | assumption | omega | exact W_fl W _ _ _ | exact W_fh W _ _ _ | exact W_rl W _ _ _ | exact W_rh W _ _ _) only [iI_lt, iI_le, iI_eq, bI_i0, ite_n, ii_bit, ii_one, iI_or, fX10_owedTo, g_10_10, g10s, g_6_6, l_29, l_44, li_31, li_1, li_0, li_8, iI_add, iI_mul, Option.bind_some]
  unfold owA
  split <;> rfl
theorem e_knowsNow {f0 : Nat} {Y : YS} {X : XS} {k : Nat} (g : GY Y) (hk : k < 10) (W : WF X) {s p : Int} (s0 : 0 ≤ s) (s1 : s < 8) (p0 : 0 ≤ p) (p1 : p < 8) : fX10_knowsNow f0 (Ad Y 10 k) (iI p) (iI s) (hp Y X) = some (bI (XR X 46 k (p * 8 + s) ≤ XF X 10 k 1), hp Y X) := by
  have gk := ShO_k g hk; have gs := SeO_0 g
  simp (disch := first | assumption | omega | exact W_fl W _ _ _ | exact W_fh W _ _ _ | exact W_rl W _ _ _ | exact W_rh W _ _ _) only [iI_lt, iI_le, iI_eq, bI_i0, ite_n, ii_bit, ii_one, iI_or, fX10_knowsNow, g_10_12, g_10_1, l_46, li_8, li_0, li_1, iI_add, iI_mul, Option.bind_some]
  (repeat' split) <;> first | (rw [zr_i0, bI_F (by omega)]) | (rw [zr_i1, bI_T (by omega)])
def knB (X : XS) (k : Nat) (p d : Int) : Int → Bool := fun s => decide (XR X 46 k (p * 8 + s) ≤ d)
theorem e_namesKnownAt {f0 : Nat} {Y : YS} {X : XS} {k : Nat} (g : GY Y) (hk : k < 10) (W : WF X) (hC : CSea X 0) {p : Int} (p0 : 0 ≤ p) (p1 : p < 8) (hf : 20 ≤ f0) : fX10_namesKnownAt f0 (Ad Y 10 k) (iI p) (hp Y X) = some (iI ((bs (knB X k p (XF X 10 k 1)) (XR X 25 0 3).toNat : Nat) : Int), hp Y X) := by
  have gk := ShO_k g hk; have gs := SeO_0 g
  have c3 := hC.2.1
  simp only [fX10_namesKnownAt, li_0]
  rw [show (iI 0 : Int32) = iI ((bs (knB X k p (XF X 10 k 1)) (0 : Int).toNat : Nat) : Int) from rfl]
  refine lp (fun f (i : Int) => bX10_namesKnownAt_4 f0 f (Ad Y 10 k) (iI p) (iI ((bs (knB X k p (XF X 10 k 1)) i.toNat : Nat) : Int)) (iI i) (hp Y X)) (fun i => 0 ≤ i ∧ i ≤ XR X 25 0 3) (fun i => (17 - i).toNat) (fun r => r = _) ?_ f0 0 ⟨by omega, by omega⟩ (by omega)
  intro f i ⟨hi, hk⟩
  by_cases c : XR X 25 0 3 ≤ i
  · left
    simp (disch := first | assumption | omega | exact W_fl W _ _ _ | exact W_fh W _ _ _ | exact W_rl W _ _ _ | exact W_rh W _ _ _) only [iI_lt, iI_le, iI_eq, bI_i0, ite_n, ii_bit, ii_one, iI_or, bX10_namesKnownAt_4, g10s, g_6_1, k_10, l_25, li_0, li_1, li_3, li_31, ob2, iI_add, Option.bind_some, if_pos c]
    rw [show i = XR X 25 0 3 by omega]
  · right
    refine ⟨i + 1, ?_, ⟨by omega, by omega⟩, by omega⟩
    by_cases e : XR X 46 k (p * 8 + i) ≤ XF X 10 k 1
    · rw [← ib_put hi (by omega) (by simp [knB]; omega)]
      simp (disch := first | assumption | omega | exact W_fl W _ _ _ | exact W_fh W _ _ _ | exact W_rl W _ _ _ | exact W_rh W _ _ _) only [bX10_namesKnownAt_4, bX10_namesKnownAt_32, g10s, g_6_1, k_10, l_25, li_0, li_1, li_3, li_31, ob2, iI_add, Option.bind_some, e_knowsNow, iI_le, bI_i0, ite_n, if_neg c, if_pos e]
    · rw [← ib_pass hi (by simp [knB]; omega)]
      simp (disch := first | assumption | omega | exact W_fl W _ _ _ | exact W_fh W _ _ _ | exact W_rl W _ _ _ | exact W_rh W _ _ _) only [bX10_namesKnownAt_4, bX10_namesKnownAt_32, g10s, g_6_1, k_10, l_25, li_0, li_1, li_3, li_31, ob2, iI_add, Option.bind_some, e_knowsNow, iI_le, bI_i0, ite_n, if_neg c, if_neg e]
theorem e_canSailTo {f0 : Nat} {Y : YS} {X : XS} {k : Nat} (g : GY Y) (hk : k < 10) (W : WF X) (hC : CSea X 0) (hS : CShip X k 0) {p : Int} (p0 : 0 ≤ p) (p1 : p < 8) : fX10_canSailTo f0 (Ad Y 10 k) (iI p) (hp Y X) = some (bI (canA X k ∧ 0 < XR X 26 0 (XF X 10 k 2 * 8 + p)), hp Y X) := by
  have gk := ShO_k g hk; have gs := SeO_0 g
  simp (disch := first | assumption | omega | exact W_fl W _ _ _ | exact W_fh W _ _ _ | exact W_rl W _ _ _ | exact W_rh W _ _ _) only [iI_lt, iI_le, iI_eq, bI_i0, ite_n, ii_bit, ii_one, iI_or, fX10_canSailTo, g10s, g_6_3, g_10_2, k_10, l_26, li_0, li_8, li_1, ob2, iI_add, iI_mul, Option.bind_some, e_canAct]
  by_cases c : canA X k
  · have hp1 := (hS.2.1 c.1).1
    have := hC.1
    rw [if_pos c]
    simp (disch := first | assumption | omega | exact W_fl W _ _ _ | exact W_fh W _ _ _ | exact W_rl W _ _ _ | exact W_rh W _ _ _) only [l_26, Option.bind_some, iI_le]
    (repeat' split) <;> first | (rw [zr_i0, bI_F (by omega)]) | (rw [zr_i1, bI_T (by omega)])
  · rw [if_neg c, zr_i0, bI_F (fun q => c q.1)]
def sfB (X : XS) (k : Nat) (p d : Int) : Int → Bool := fun s => decide (d < XR X 46 k (p * 8 + s))
theorem e_safeNamesTo {f0 : Nat} {Y : YS} {X : XS} {k : Nat} (g : GY Y) (hk : k < 10) (W : WF X) (hC : CSea X 0) (hS : CShip X k 0) (hH : forHer X 0) {p : Int} (p0 : 0 ≤ p) (p1 : p < 8) (hf : 20 ≤ f0) : fX10_safeNamesTo f0 (Ad Y 10 k) (iI p) (hp Y X) = some (iI ((bs (sfB X k p (XF X 10 k 1 + XR X 26 0 (XF X 10 k 2 * 8 + p))) (XR X 25 0 3).toNat : Nat) : Int), hp Y X) := by
  have gk := ShO_k g hk; have gs := SeO_0 g
  have c0 := hC.1; have c3 := hC.2.1; have hp1 := (hS.2.1 hH).1; have hd := hS.1
  have hw := hC.2.2.2.2.2.2.1 (XF X 10 k 2 * 8 + p) (by omega) (by omega)
  simp (disch := first | assumption | omega | exact W_fl W _ _ _ | exact W_fh W _ _ _ | exact W_rl W _ _ _ | exact W_rh W _ _ _) only [iI_lt, iI_le, iI_eq, bI_i0, ite_n, ii_bit, ii_one, iI_or, fX10_safeNamesTo, g_10_1, g10s, g_6_3, g_10_2, l_26, li_8, li_0, iI_add, iI_mul, Option.bind_some]
  generalize hD : XF X 10 k 1 + XR X 26 0 (XF X 10 k 2 * 8 + p) = D at *
  rw [show (iI 0 : Int32) = iI ((bs (sfB X k p D) (0 : Int).toNat : Nat) : Int) from rfl]
  refine lp (fun f (i : Int) => bX10_safeNamesTo_28 f0 f (Ad Y 10 k) (iI p) (iI D) (iI ((bs (sfB X k p D) i.toNat : Nat) : Int)) (iI i) (hp Y X)) (fun i => 0 ≤ i ∧ i ≤ XR X 25 0 3) (fun i => (17 - i).toNat) (fun r => r = _) ?_ f0 0 ⟨by omega, by omega⟩ (by omega)
  intro f i ⟨hi, hk⟩
  by_cases c : XR X 25 0 3 ≤ i
  · left
    simp (disch := first | assumption | omega | exact W_fl W _ _ _ | exact W_fh W _ _ _ | exact W_rl W _ _ _ | exact W_rh W _ _ _) only [iI_lt, iI_le, iI_eq, bI_i0, ite_n, ii_bit, ii_one, iI_or, bX10_safeNamesTo_28, g10s, g_6_1, g_10_12, l_25, l_46, li_0, li_1, li_3, li_8, li_31, iI_add, iI_mul, Option.bind_some, if_pos c]
    rw [show i = XR X 25 0 3 by omega]
  · right
    refine ⟨i + 1, ?_, ⟨by omega, by omega⟩, by omega⟩
    by_cases e : XR X 46 k (p * 8 + i) ≤ D
    · rw [← ib_pass hi (by simp [sfB]; omega)]
      simp (disch := first | assumption | omega | exact W_fl W _ _ _ | exact W_fh W _ _ _ | exact W_rl W _ _ _ | exact W_rh W _ _ _) only [bX10_safeNamesTo_28, bX10_safeNamesTo_65, g10s, g_6_1, g_10_12, l_25, l_46, li_0, li_1, li_3, li_8, li_31, iI_add, iI_mul, Option.bind_some, iI_le, if_neg c, if_pos e]
    · rw [← ib_put hi (by omega) (by simp [sfB]; omega)]
      simp (disch := first | assumption | omega | exact W_fl W _ _ _ | exact W_fh W _ _ _ | exact W_rl W _ _ _ | exact W_rh W _ _ _) only [bX10_safeNamesTo_28, bX10_safeNamesTo_65, g10s, g_6_1, g_10_12, l_25, l_46, li_0, li_1, li_3, li_8, li_31, iI_add, iI_mul, Option.bind_some, iI_le, if_neg c, if_neg e]
theorem e_isSafeTo {f0 : Nat} {Y : YS} {X : XS} {k : Nat} (g : GY Y) (hk : k < 10) (W : WF X) (hC : CSea X 0) (hS : CShip X k 0) {p : Int} (p0 : 0 ≤ p) (p1 : p < 8) (hf : 20 ≤ f0) : fX10_isSafeTo f0 (Ad Y 10 k) (iI p) (hp Y X) = some (bI ((canA X k ∧ 0 < XR X 26 0 (XF X 10 k 2 * 8 + p)) ∧ XF X 10 k 1 + XR X 26 0 (XF X 10 k 2 * 8 + p) < XR X 46 k (p * 8 + XF X 10 k 3)), hp Y X) := by
  have gk := ShO_k g hk; have gs := SeO_0 g
  have c3 := hC.2.1
  simp (disch := first | assumption | omega | exact W_fl W _ _ _ | exact W_fh W _ _ _ | exact W_rl W _ _ _ | exact W_rh W _ _ _) only [iI_lt, iI_le, iI_eq, bI_i0, ite_n, ii_bit, ii_one, iI_or, fX10_isSafeTo, g_10_3, k_10, li_0, li_31, li_1, ob2, Option.bind_some, iI_add, e_canSailTo]
  by_cases c : canA X k ∧ 0 < XR X 26 0 (XF X 10 k 2 * 8 + p)
  · have hn := (hS.2.1 c.1.1).2
    have hb := bs_lt (sfB X k p (XF X 10 k 1 + XR X 26 0 (XF X 10 k 2 * 8 + p))) (XR X 25 0 3).toNat
    have h8 : 2 ^ (XR X 25 0 3).toNat ≤ 2 ^ 8 := Nat.pow_le_pow_right (by decide) (by omega)
    rw [if_pos c]
    simp (disch := first | exact c.1.1 | first | assumption | omega | exact W_fl W _ _ _ | exact W_fh W _ _ _ | exact W_rl W _ _ _ | exact W_rh W _ _ _) only [e_safeNamesTo, g_10_3, k_10, li_0, li_31, li_1, ob2, Option.bind_some, iI_add, ii_bit, bI_i0, ite_n]
    have hbit : bitI (((bs (sfB X k p (XF X 10 k 1 + XR X 26 0 (XF X 10 k 2 * 8 + p))) (XR X 25 0 3).toNat : Nat) : Int)) (XF X 10 k 3) = true ↔ XF X 10 k 1 + XR X 26 0 (XF X 10 k 2 * 8 + p) < XR X 46 k (p * 8 + XF X 10 k 3) := by
      unfold bitI
      rw [Int.toNat_natCast, bs_bit, show (((XF X 10 k 3).toNat : Nat) : Int) = XF X 10 k 3 by omega, decide_eq_true (show (XF X 10 k 3).toNat < (XR X 25 0 3).toNat by omega)]
      simp [sfB]
    by_cases e : XF X 10 k 1 + XR X 26 0 (XF X 10 k 2 * 8 + p) < XR X 46 k (p * 8 + XF X 10 k 3)
    · rw [if_pos (hbit.mpr e), zr_i1, bI_T ⟨c, e⟩]
    · rw [if_neg (fun q => e (hbit.mp q)), zr_i0, bI_F (fun q => e q.2)]
  · rw [if_neg c, zr_i0, bI_F (fun q => c q.1)]
theorem e_hasBeenAt {f0 : Nat} {Y : YS} {X : XS} {k : Nat} (g : GY Y) (hk : k < 10) (W : WF X) {p : Int} (p0 : 0 ≤ p) (p1 : p < 8) : fX10_hasBeenAt f0 (Ad Y 10 k) (iI p) (hp Y X) = some (bI ((0 < XR X 25 0 0 ∧ 0 < XR X 25 0 3) ∧ (p = 0 ∨ 0 < XR X 43 k p)), hp Y X) := by
  have gk := ShO_k g hk; have gs := SeO_0 g
  simp (disch := first | assumption | omega | exact W_fl W _ _ _ | exact W_fh W _ _ _ | exact W_rl W _ _ _ | exact W_rh W _ _ _) only [iI_lt, iI_le, iI_eq, bI_i0, ite_n, ii_bit, ii_one, iI_or, fX10_hasBeenAt, bX10_hasBeenAt_23, g10s, g_10_9, k_6, l_43, li_0, ob2, li_1, Option.bind_some, iI_add, e_isForHer]
  (repeat' split) <;> first | (rw [zr_i0, bI_F (by omega)]) | (rw [zr_i1, bI_T (by omega)])
def frA (X : XS) (k : Nat) (p : Int) : Int := if 0 < XR X 25 0 0 ∧ 0 < XR X 25 0 3 then XR X 34 0 (XF X 10 k 2 * 8 + p) else 1000000
theorem e_farTo {f0 : Nat} {Y : YS} {X : XS} {k : Nat} (g : GY Y) (hk : k < 10) (W : WF X) (hC : CSea X 0) (hS : CShip X k 0) {p : Int} (p0 : 0 ≤ p) (p1 : p < 8) : fX10_farTo f0 (Ad Y 10 k) (iI p) (hp Y X) = some (iI (frA X k p), hp Y X) := by
  have gk := ShO_k g hk; have gs := SeO_0 g
  simp (disch := first | assumption | omega | exact W_fl W _ _ _ | exact W_fh W _ _ _ | exact W_rl W _ _ _ | exact W_rh W _ _ _) only [iI_lt, iI_le, iI_eq, bI_i0, ite_n, ii_bit, ii_one, iI_or, fX10_farTo, g10s, g_6_11, g_10_2, k_6, l_34, li_0, li_1000000, li_8, ob2, iI_add, iI_mul, Option.bind_some, e_isForHer]
  unfold frA
  by_cases c : forHer X 0
  · have := (hS.2.1 c).1; have := hC.1
    rw [if_pos c, if_pos c]
    simp (disch := first | assumption | omega | exact W_fl W _ _ _ | exact W_fh W _ _ _ | exact W_rl W _ _ _ | exact W_rh W _ _ _) only [l_34, Option.bind_some]
  · rw [if_neg c, if_neg c]
/-- the port where she can soonest be, among the first n -/
def glA (X : XS) (k : Nat) : Nat → Int × Int
  | 0 => (-1, 1000000)
  | n + 1 => if ((n : Int) = XF X 10 k 2 ∨ XF X 10 k 1 + frA X k n < XR X 46 k ((n : Int) * 8 + XF X 10 k 3)) ∧ 0 < owA X k (XF X 10 k 3) n ∧ XF X 10 k 1 + frA X k n < (glA X k n).2 then ((n : Int), XF X 10 k 1 + frA X k n) else glA X k n
theorem glA_rg {X : XS} {k : Nat} (h : ∀ n : Nat, n < 8 → 0 ≤ XF X 10 k 1 + frA X k n) : ∀ n : Nat, n ≤ 8 → (-1 ≤ (glA X k n).1 ∧ (glA X k n).1 < n) ∧ 0 ≤ (glA X k n).2 ∧ (glA X k n).2 ≤ 1000000
  | 0, _ => by simp [glA]
  | n + 1, hn => by
    have ih := glA_rg h n (by omega)
    have h1 := h n (by omega)
    rw [glA]
    split
    · rename_i c
      refine ⟨⟨?_, ?_⟩, ?_, ?_⟩ <;> simp only [] <;> omega
    · refine ⟨⟨?_, ?_⟩, ?_, ?_⟩ <;> omega
theorem e_goal {f0 : Nat} {Y : YS} {X : XS} {k : Nat} (g : GY Y) (hk : k < 10) (W : WF X) (hC : CSea X 0) (hS : CShip X k 0) (hf : 20 ≤ f0) : fX10_goal f0 (Ad Y 10 k) (hp Y X) = some (iI (if canA X k then (glA X k (XR X 25 0 0).toNat).1 else -1), hp Y X) := by
  have gk := ShO_k g hk; have gs := SeO_0 g
  simp (disch := first | assumption | omega | exact W_fl W _ _ _ | exact W_fh W _ _ _ | exact W_rl W _ _ _ | exact W_rh W _ _ _) only [iI_lt, iI_le, iI_eq, bI_i0, ite_n, ii_bit, ii_one, iI_or, fX10_goal, k_10, lm_1, li_0, li_1, li_1000000, ob2, Option.bind_some, iI_add, iI_neg, e_canAct]
  by_cases c : canA X k
  · rw [if_pos c, if_pos c]
    have c0 := hC.1; have c3 := hC.2.1; have hp1 := (hS.2.1 c.1).1; have hn1 := (hS.2.1 c.1).2; have hd := hS.1
    have hfr : ∀ n : Int, 0 ≤ n → n < 8 → 0 ≤ frA X k n ∧ frA X k n ≤ 1000000 := fun n n0 n8 => by
      unfold frA; rw [if_pos c.1]; exact hC.2.2.2.2.2.2.2.2.2.2.1 _ (by omega) (by omega)
    have hrg := glA_rg (X := X) (k := k) (fun n hn => by have := hfr n (by omega) (by omega); omega)
    refine lp (fun f (i : Int) => bX10_goal_16 f0 f (Ad Y 10 k) (iI (glA X k i.toNat).1) (iI (glA X k i.toNat).2) (iI i) (hp Y X)) (fun i => 0 ≤ i ∧ i ≤ XR X 25 0 0) (fun i => (17 - i).toNat) (fun r => r = _) ?_ f0 0 ⟨by omega, by omega⟩ (by omega)
    intro f i ⟨hi, hk⟩
    by_cases ci : XR X 25 0 0 ≤ i
    · left
      simp (disch := first | assumption | omega | exact W_fl W _ _ _ | exact W_fh W _ _ _ | exact W_rl W _ _ _ | exact W_rh W _ _ _) only [iI_lt, iI_le, iI_eq, bI_i0, ite_n, ii_bit, ii_one, iI_or, bX10_goal_16, g10s, g_6_1, g_10_1, g_10_2, g_10_12, g_10_3, k_10, l_25, l_46, li_0, li_1, li_8, ob2, iI_add, iI_mul, Option.bind_some, if_pos ci]
      rw [show i = XR X 25 0 0 by omega]
    · right
      refine ⟨i + 1, ?_, ⟨by omega, by omega⟩, by omega⟩
      have hw : (0 ≤ owA X k (XF X 10 k 3) i ∧ owA X k (XF X 10 k 3) i ≤ 250) := by
        unfold owA; split
        · omega
        · exact hC.2.2.2.2.2.2.2.2.1 _ (by omega) (by omega)
      have hfi := hfr i hi (by omega)
      have hg2 := hrg i.toNat (by omega)
      have hkn := hS.2.2.2.2.2.2.2 (i * 8 + XF X 10 k 3) (by omega) (by omega)
      have e2 : (i + 1).toNat = i.toNat + 1 := by omega
      have ei : ((i.toNat : Nat) : Int) = i := by omega
      rw [e2, glA, ei]
      have z : ¬ (1 : Int) = 0 := by decide
      by_cases a1 : i = XF X 10 k 2
      · by_cases a2 : owA X k (XF X 10 k 3) i ≤ 0
        · rw [if_neg (by omega)]
          simp (disch := first | assumption | omega | exact W_fl W _ _ _ | exact W_fh W _ _ _ | exact W_rl W _ _ _ | exact W_rh W _ _ _) only [bX10_goal_16, bX10_goal_68, bX10_goal_73, bX10_goal_103, g10s, g_6_1, g_10_1, g_10_2, g_10_12, g_10_3, k_10, l_25, l_46, li_0, li_1, li_8, ob2, iI_add, iI_mul, Option.bind_some, e_farTo, e_owedTo, iI_le, iI_eq, if_neg ci, if_pos a1, if_neg z, if_pos a2]
        · by_cases a3 : (glA X k i.toNat).2 ≤ XF X 10 k 1 + frA X k i
          · rw [if_neg (by omega)]
            simp (disch := first | assumption | omega | exact W_fl W _ _ _ | exact W_fh W _ _ _ | exact W_rl W _ _ _ | exact W_rh W _ _ _) only [bX10_goal_16, bX10_goal_68, bX10_goal_73, bX10_goal_103, g10s, g_6_1, g_10_1, g_10_2, g_10_12, g_10_3, k_10, l_25, l_46, li_0, li_1, li_8, ob2, iI_add, iI_mul, Option.bind_some, e_farTo, e_owedTo, iI_le, iI_eq, if_neg ci, if_pos a1, if_neg z, if_neg a2, if_pos a3]
          · rw [if_pos (by omega)]
            simp (disch := first | assumption | omega | exact W_fl W _ _ _ | exact W_fh W _ _ _ | exact W_rl W _ _ _ | exact W_rh W _ _ _) only [bX10_goal_16, bX10_goal_68, bX10_goal_73, bX10_goal_103, g10s, g_6_1, g_10_1, g_10_2, g_10_12, g_10_3, k_10, l_25, l_46, li_0, li_1, li_8, ob2, iI_add, iI_mul, Option.bind_some, e_farTo, e_owedTo, iI_le, iI_eq, if_neg ci, if_pos a1, if_neg z, if_neg a2, if_neg a3]
      · by_cases a0 : XR X 46 k (i * 8 + XF X 10 k 3) ≤ XF X 10 k 1 + frA X k i
        · rw [if_neg (by omega)]
          simp (disch := first | assumption | omega | exact W_fl W _ _ _ | exact W_fh W _ _ _ | exact W_rl W _ _ _ | exact W_rh W _ _ _) only [bX10_goal_16, bX10_goal_68, bX10_goal_73, bX10_goal_103, g10s, g_6_1, g_10_1, g_10_2, g_10_12, g_10_3, k_10, l_25, l_46, li_0, li_1, li_8, ob2, iI_add, iI_mul, Option.bind_some, e_farTo, e_owedTo, iI_le, iI_eq, if_neg ci, if_neg a1, if_pos a0, if_true]
        · by_cases a2 : owA X k (XF X 10 k 3) i ≤ 0
          · rw [if_neg (by omega)]
            simp (disch := first | assumption | omega | exact W_fl W _ _ _ | exact W_fh W _ _ _ | exact W_rl W _ _ _ | exact W_rh W _ _ _) only [bX10_goal_16, bX10_goal_68, bX10_goal_73, bX10_goal_103, g10s, g_6_1, g_10_1, g_10_2, g_10_12, g_10_3, k_10, l_25, l_46, li_0, li_1, li_8, ob2, iI_add, iI_mul, Option.bind_some, e_farTo, e_owedTo, iI_le, iI_eq, if_neg ci, if_neg a1, if_neg a0, if_neg z, if_pos a2]
          · by_cases a3 : (glA X k i.toNat).2 ≤ XF X 10 k 1 + frA X k i
            · rw [if_neg (by omega)]
              simp (disch := first | assumption | omega | exact W_fl W _ _ _ | exact W_fh W _ _ _ | exact W_rl W _ _ _ | exact W_rh W _ _ _) only [bX10_goal_16, bX10_goal_68, bX10_goal_73, bX10_goal_103, g10s, g_6_1, g_10_1, g_10_2, g_10_12, g_10_3, k_10, l_25, l_46, li_0, li_1, li_8, ob2, iI_add, iI_mul, Option.bind_some, e_farTo, e_owedTo, iI_le, iI_eq, if_neg ci, if_neg a1, if_neg a0, if_neg z, if_neg a2, if_pos a3]
            · rw [if_pos (by omega)]
              simp (disch := first | assumption | omega | exact W_fl W _ _ _ | exact W_fh W _ _ _ | exact W_rl W _ _ _ | exact W_rh W _ _ _) only [bX10_goal_16, bX10_goal_68, bX10_goal_73, bX10_goal_103, g10s, g_6_1, g_10_1, g_10_2, g_10_12, g_10_3, k_10, l_25, l_46, li_0, li_1, li_8, ob2, iI_add, iI_mul, Option.bind_some, e_farTo, e_owedTo, iI_le, iI_eq, if_neg ci, if_neg a1, if_neg a0, if_neg z, if_neg a2, if_neg a3]
  · rw [if_neg c, if_neg c]
