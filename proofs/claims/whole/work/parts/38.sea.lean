/-! THE CLASS'S SEA: what its methods answer -/
def WF (X : XS) : Prop := (∀ s k f, Rg (XF X s k f)) ∧ ∀ s k i, Rg (XR X s k i)
theorem W_fl {X : XS} (W : WF X) (s k f : Nat) : -2147483648 ≤ XF X s k f := (W.1 s k f).1
theorem W_fh {X : XS} (W : WF X) (s k f : Nat) : XF X s k f < 2147483648 := (W.1 s k f).2
theorem W_rl {X : XS} (W : WF X) (s k : Nat) (i : Int) : -2147483648 ≤ XR X s k i := (W.2 s k i).1
theorem W_rh {X : XS} (W : WF X) (s k : Nat) (i : Int) : XR X s k i < 2147483648 := (W.2 s k i).2
theorem W_F {X : XS} (W : WF X) {s k f : Nat} {v : Int} (h1 : -2147483648 ≤ v) (h2 : v < 2147483648) : WF (sF X s k f v) := ⟨fun s' k' f' => by
  rw [XF_sF]; split
  · exact ⟨h1, h2⟩
  · exact W.1 _ _ _, W.2⟩
theorem W_R {X : XS} (W : WF X) {s k : Nat} {r : Int → Int} (h : ∀ i, Rg (r i)) : WF (sR X s k r) := ⟨W.1, fun s' k' i => by
  rw [XR_sR]; split
  · exact h i
  · exact W.2 _ _ _⟩
theorem W_u {X : XS} (W : WF X) {s k : Nat} {i v : Int} (h1 : -2147483648 ≤ v) (h2 : v < 2147483648) : WF (sR X s k (upi (XR X s k) i v)) := W_R W fun j => by
  rw [upi_at]; split
  · exact ⟨h1, h2⟩
  · exact W.2 _ _ _
theorem W_J {X : XS} (W : WF X) {s k : Nat} {r : Int → Int64} : WF (sJ X s k r) := W
theorem W_P {X : XS} (W : WF X) {i v : Nat} : WF (sP X i v) := W
theorem W_G {X : XS} (W : WF X) {i : Nat} {v : Bool} : WF (sG X i v) := W
/-- whether p holds for one below n -/
def anyB (p : Int → Bool) : Nat → Bool
  | 0 => false
  | n + 1 => anyB p n || p (n : Int)
theorem anyB_iff (p : Int → Bool) : ∀ n : Nat, anyB p n = true ↔ ∃ i : Nat, i < n ∧ p (i : Int) = true
  | 0 => by simp [anyB]
  | n + 1 => by
    rw [anyB, Bool.or_eq_true, anyB_iff p n]
    constructor
    · rintro (⟨i, h1, h2⟩ | h)
      · exact ⟨i, by omega, h2⟩
      · exact ⟨n, by omega, h⟩
    · rintro ⟨i, h1, h2⟩
      by_cases e : i = n
      · subst e; exact .inr h2
      · exact .inl ⟨i, by omega, h2⟩
theorem anyB_f {p : Int → Bool} {n : Nat} (h : anyB p n = false) {i : Int} (h0 : 0 ≤ i) (h1 : i < (n : Int)) : p i = false := by
  cases e : p i with
  | false => rfl
  | true =>
    have : anyB p n = true := (anyB_iff p n).mpr ⟨i.toNat, by omega, by rw [show ((i.toNat : Nat) : Int) = i by omega]; exact e⟩
    rw [h] at this; cases this
/-- the sum of r below n -/
def sumI (r : Int → Int) : Nat → Int
  | 0 => 0
  | n + 1 => sumI r n + r (n : Int)
theorem sumI_s {r : Int → Int} {i : Int} (h : 0 ≤ i) : sumI r (i + 1).toNat = sumI r i.toNat + r i := by
  rw [show (i + 1).toNat = i.toNat + 1 by omega, sumI, show ((i.toNat : Nat) : Int) = i by omega]
theorem e_has {f0 : Nat} {Y : YS} {X : XS} {j : Nat} (g : SeO Y j) (W : WF X) {s n : Int} (hs : 0 ≤ s) (hs' : s < 7) (hn : Rg n) : fX6_has f0 (Ad Y 6 j) (iI s) (iI n) (hp Y X) = some (bI (0 ≤ n ∧ n < XR X 25 j s), hp Y X) := by
  have h1 := hn.1; have h2 := hn.2
  simp (disch := first | assumption | omega | exact W_fl W _ _ _ | exact W_fh W _ _ _ | exact W_rl W _ _ _ | exact W_rh W _ _ _) only [iI_lt, iI_le, iI_eq, bI_i0, ite_n, fX6_has, g_6_1, l_25, li_0, li_1, Option.bind_some, iI_add]
  (repeat' split) <;> first | (rw [zr_i0, bI_F (by omega)]) | (rw [zr_i1, bI_T (by omega)])
theorem e_isForHer {f0 : Nat} {Y : YS} {X : XS} {j : Nat} (g : SeO Y j) (W : WF X) : fX6_isForHer f0 (Ad Y 6 j) (hp Y X) = some (bI (0 < XR X 25 j 0 ∧ 0 < XR X 25 j 3), hp Y X) := by
  simp (disch := first | assumption | omega | exact W_fl W _ _ _ | exact W_fh W _ _ _ | exact W_rl W _ _ _ | exact W_rh W _ _ _) only [iI_lt, iI_le, iI_eq, bI_i0, ite_n, fX6_isForHer, g_6_1, l_25, li_0, li_3, li_1, Option.bind_some, iI_add]
  (repeat' split) <;> first | (rw [zr_i0, bI_F (by omega)]) | (rw [zr_i1, bI_T (by omega)])
theorem e_hasPorts {f0 : Nat} {Y : YS} {X : XS} {j : Nat} (g : SeO Y j) (W : WF X) {p q : Int} (hp1 : Rg p) (hq : Rg q) : fX6_hasPorts f0 (Ad Y 6 j) (iI p) (iI q) (hp Y X) = some (bI (0 ≤ p ∧ p < XR X 25 j 0 ∧ 0 ≤ q ∧ q < XR X 25 j 0), hp Y X) := by
  simp (disch := first | assumption | omega | exact W_fl W _ _ _ | exact W_fh W _ _ _ | exact W_rl W _ _ _ | exact W_rh W _ _ _) only [iI_lt, iI_le, iI_eq, bI_i0, ite_n, fX6_hasPorts, k_6, li_0, li_1, ob2, Option.bind_some, iI_add, e_has]
  (repeat' split) <;> first | (rw [zr_i0, bI_F (by omega)]) | (rw [zr_i1, bI_T (by omega)])
theorem e_hearsFrom {f0 : Nat} {Y : YS} {X : XS} {j : Nat} (g : SeO Y j) (W : WF X) {p q : Int} (hp1 : Rg p) (hq : Rg q) (hP : XR X 25 j 0 ≤ 8) : fX6_hearsFrom f0 (Ad Y 6 j) (iI p) (iI q) (hp Y X) = some (bI (0 ≤ p ∧ p < XR X 25 j 0 ∧ 0 ≤ q ∧ q < XR X 25 j 0 ∧ p ≠ q ∧ XR X 35 j (p * 8 + q) < 1000000), hp Y X) := by
  have h1 := hp1.1; have h2 := hp1.2; have h3 := hq.1; have h4 := hq.2
  simp (disch := first | assumption | omega | exact W_fl W _ _ _ | exact W_fh W _ _ _ | exact W_rl W _ _ _ | exact W_rh W _ _ _) only [iI_lt, iI_le, iI_eq, bI_i0, ite_n, fX6_hearsFrom, g_6_12, k_6, l_35, li_0, li_8, li_1000000, li_1, ob2, iI_add, iI_mul, Option.bind_some, e_hasPorts]
  by_cases c : 0 ≤ p ∧ p < XR X 25 j 0 ∧ 0 ≤ q ∧ q < XR X 25 j 0
  · simp (disch := first | assumption | omega | exact W_fl W _ _ _ | exact W_fh W _ _ _ | exact W_rl W _ _ _ | exact W_rh W _ _ _) only [if_pos c, l_35, Option.bind_some, iI_le]
    (repeat' split) <;> first | (rw [zr_i0, bI_F (by omega)]) | (rw [zr_i1, bI_T (by omega)])
  · rw [if_neg c, zr_i0, bI_F (by omega)]
def rainB (X : XS) (j : Nat) (p d : Int) : Int → Bool := fun i => decide (XR X 32 j i = p * 100 + d % 100)
theorem e_rainsAt {f0 : Nat} {Y : YS} {X : XS} {j : Nat} (g : SeO Y j) (W : WF X) {p d : Int} (h0 : 0 ≤ p) (h8 : p < 8) (hd : 0 ≤ d) (hd' : d < 2000) (hN : XR X 25 j 6 ≤ 16) (hf : 20 ≤ f0) : fX6_rainsAt f0 (Ad Y 6 j) (iI p) (iI d) (hp Y X) = some (bI (anyB (rainB X j p d) (XR X 25 j 6).toNat = true), hp Y X) := by
  have hz : nz (iI 100) = some () := nz_i (by decide) (by decide) (by decide)
  have hm : iI d - iI d / iI 100 * iI 100 = iI (d % 100) := iI_mod hd (by omega) (by decide) (by decide)
  simp only [fX6_rainsAt, li_100, hz, Option.bind_some, hm, iI_mul, iI_add, li_0]
  refine lp (fun f (i : Int) => bX6_rainsAt_13 f0 f (Ad Y 6 j) (iI (p * 100 + d % 100)) (iI i) (hp Y X)) (fun i => (0 ≤ i ∧ i ≤ 16) ∧ ∀ k : Int, 0 ≤ k → k < i → ¬ rainB X j p d k = true) (fun i => (17 - i).toNat) (fun r => r = some (bI (anyB (rainB X j p d) (XR X 25 j 6).toNat = true), hp Y X)) ?_ f0 0 ⟨⟨by omega, by omega⟩, fun k _ _ => by omega⟩ (by omega)
  intro f i ⟨⟨hi, hi'⟩, hk⟩
  by_cases c : XR X 25 j 6 ≤ i
  · left
    simp (disch := first | assumption | omega | exact W_fl W _ _ _ | exact W_fh W _ _ _ | exact W_rl W _ _ _ | exact W_rh W _ _ _) only [iI_lt, iI_le, iI_eq, bI_i0, ite_n, bX6_rainsAt_13, g_6_1, g_6_9, l_25, l_32, li_0, li_1, li_6, iI_add, Option.bind_some, if_pos c]
    rw [zr_i0, bI_F]
    rw [anyB_iff]
    rintro ⟨k, k1, k2⟩
    exact hk k (by omega) (by omega) k2
  · by_cases e : XR X 32 j i = p * 100 + d % 100
    · left
      simp (disch := first | assumption | omega | exact W_fl W _ _ _ | exact W_fh W _ _ _ | exact W_rl W _ _ _ | exact W_rh W _ _ _) only [iI_lt, iI_le, iI_eq, bI_i0, ite_n, bX6_rainsAt_13, g_6_1, g_6_9, l_25, l_32, li_0, li_1, li_6, iI_add, Option.bind_some, if_neg c, if_pos e]
      rw [zr_i1, bI_T]
      rw [anyB_iff]
      exact ⟨i.toNat, by omega, by rw [show ((i.toNat : Nat) : Int) = i by omega]; simp [rainB, e]⟩
    · right
      refine ⟨i + 1, ?_, ⟨⟨by omega, by omega⟩, fun k k1 k2 => ?_⟩, by omega⟩
      · simp (disch := first | assumption | omega | exact W_fl W _ _ _ | exact W_fh W _ _ _ | exact W_rl W _ _ _ | exact W_rh W _ _ _) only [iI_lt, iI_le, iI_eq, bI_i0, ite_n, bX6_rainsAt_13, g_6_1, g_6_9, l_25, l_32, li_0, li_1, li_6, iI_add, Option.bind_some, if_neg c, if_neg e]
      · by_cases q : k = i
        · subst q; simp [rainB, e]
        · exact hk k k1 (by omega)
theorem e_wantedForAt {f0 : Nat} {Y : YS} {X : XS} {j : Nat} (g : SeO Y j) (W : WF X) {p : Int} (h0 : 0 ≤ p) (h8 : p < 8) (hN : XR X 25 j 3 ≤ 8) (hN0 : 0 ≤ XR X 25 j 3) (hf : 20 ≤ f0) : fX6_wantedForAt f0 (Ad Y 6 j) (iI p) (hp Y X) = some (iI (sumI (fun s => XR X 28 j (s * 8 + p)) (XR X 25 j 3).toNat), hp Y X) := by
  simp only [fX6_wantedForAt, li_0]
  refine lp (fun f (i : Int) => bX6_wantedForAt_4 f0 f (Ad Y 6 j) (iI p) (iI (sumI (fun s => XR X 28 j (s * 8 + p)) i.toNat)) (iI i) (hp Y X)) (fun i => 0 ≤ i ∧ i ≤ XR X 25 j 3) (fun i => (17 - i).toNat) (fun r => r = _) ?_ f0 0 ⟨by omega, by omega⟩ (by omega)
  intro f i ⟨hi, hk⟩
  by_cases c : XR X 25 j 3 ≤ i
  · left
    simp (disch := first | assumption | omega | exact W_fl W _ _ _ | exact W_fh W _ _ _ | exact W_rl W _ _ _ | exact W_rh W _ _ _) only [iI_lt, iI_le, iI_eq, bI_i0, ite_n, bX6_wantedForAt_4, g_6_1, g_6_5, l_25, l_28, li_0, li_1, li_3, li_8, iI_add, iI_mul, Option.bind_some, if_pos c]
    rw [show i = XR X 25 j 3 by omega]
  · right
    refine ⟨i + 1, ?_, ⟨by omega, by omega⟩, by omega⟩
    simp (disch := first | assumption | omega | exact W_fl W _ _ _ | exact W_fh W _ _ _ | exact W_rl W _ _ _ | exact W_rh W _ _ _) only [iI_lt, iI_le, iI_eq, bI_i0, ite_n, bX6_wantedForAt_4, g_6_1, g_6_5, l_25, l_28, li_0, li_1, li_3, li_8, iI_add, iI_mul, Option.bind_some, if_neg c]
    rw [sumI_s hi]
def wantB (X : XS) (j : Nat) (p : Int) : Int → Bool := fun i => decide (0 < XR X 28 j (i * 8 + p))
theorem e_wantedAt {f0 : Nat} {Y : YS} {X : XS} {j : Nat} (g : SeO Y j) (W : WF X) {p : Int} (h0 : 0 ≤ p) (h8 : p < 8) (hN : XR X 25 j 3 ≤ 8) (hN0 : 0 ≤ XR X 25 j 3) (hf : 20 ≤ f0) : fX6_wantedAt f0 (Ad Y 6 j) (iI p) (hp Y X) = some (iI ((bs (wantB X j p) (XR X 25 j 3).toNat : Nat) : Int), hp Y X) := by
  simp only [fX6_wantedAt, li_0]
  rw [show (iI 0 : Int32) = iI ((bs (wantB X j p) (0 : Int).toNat : Nat) : Int) from rfl]
  refine lp (fun f (i : Int) => bX6_wantedAt_4 f0 f (Ad Y 6 j) (iI p) (iI ((bs (wantB X j p) i.toNat : Nat) : Int)) (iI i) (hp Y X)) (fun i => 0 ≤ i ∧ i ≤ XR X 25 j 3) (fun i => (17 - i).toNat) (fun r => r = _) ?_ f0 0 ⟨by omega, by omega⟩ (by omega)
  intro f i ⟨hi, hk⟩
  by_cases c : XR X 25 j 3 ≤ i
  · left
    simp (disch := first | assumption | omega | exact W_fl W _ _ _ | exact W_fh W _ _ _ | exact W_rl W _ _ _ | exact W_rh W _ _ _) only [iI_lt, iI_le, iI_eq, bI_i0, ite_n, bX6_wantedAt_4, g_6_1, g_6_5, l_25, l_28, li_0, li_1, li_3, li_8, li_31, iI_add, iI_mul, Option.bind_some, if_pos c]
    rw [show i = XR X 25 j 3 by omega]
  · right
    refine ⟨i + 1, ?_, ⟨by omega, by omega⟩, by omega⟩
    by_cases e : XR X 28 j (i * 8 + p) ≤ 0
    · simp (disch := first | assumption | omega | exact W_fl W _ _ _ | exact W_fh W _ _ _ | exact W_rl W _ _ _ | exact W_rh W _ _ _) only [iI_lt, iI_le, iI_eq, bI_i0, ite_n, bX6_wantedAt_4, bX6_wantedAt_34, g_6_1, g_6_5, l_25, l_28, li_0, li_1, li_3, li_8, li_31, iI_add, iI_mul, Option.bind_some, if_neg c, if_pos e]
      rw [← ib_pass hi (by simp [wantB]; omega)]
    · simp (disch := first | assumption | omega | exact W_fl W _ _ _ | exact W_fh W _ _ _ | exact W_rl W _ _ _ | exact W_rh W _ _ _) only [iI_lt, iI_le, iI_eq, bI_i0, ite_n, bX6_wantedAt_4, bX6_wantedAt_34, g_6_1, g_6_5, l_25, l_28, li_0, li_1, li_3, li_8, li_31, iI_add, iI_mul, Option.bind_some, if_neg c, if_neg e]
      rw [ib_put hi (by omega) (by simp [wantB]; omega)]
def wayB (X : XS) (j : Nat) (p : Int) : Int → Bool := fun i => decide (0 < XR X 26 j (p * 8 + i))
theorem e_waysFrom {f0 : Nat} {Y : YS} {X : XS} {j : Nat} (g : SeO Y j) (W : WF X) {p : Int} (h0 : 0 ≤ p) (h8 : p < 8) (hN : XR X 25 j 0 ≤ 8) (hN0 : 0 ≤ XR X 25 j 0) (hf : 20 ≤ f0) : fX6_waysFrom f0 (Ad Y 6 j) (iI p) (hp Y X) = some (iI ((bs (wayB X j p) (XR X 25 j 0).toNat : Nat) : Int), hp Y X) := by
  simp only [fX6_waysFrom, li_0]
  rw [show (iI 0 : Int32) = iI ((bs (wayB X j p) (0 : Int).toNat : Nat) : Int) from rfl]
  refine lp (fun f (i : Int) => bX6_waysFrom_4 f0 f (Ad Y 6 j) (iI p) (iI ((bs (wayB X j p) i.toNat : Nat) : Int)) (iI i) (hp Y X)) (fun i => 0 ≤ i ∧ i ≤ XR X 25 j 0) (fun i => (17 - i).toNat) (fun r => r = _) ?_ f0 0 ⟨by omega, by omega⟩ (by omega)
  intro f i ⟨hi, hk⟩
  by_cases c : XR X 25 j 0 ≤ i
  · left
    simp (disch := first | assumption | omega | exact W_fl W _ _ _ | exact W_fh W _ _ _ | exact W_rl W _ _ _ | exact W_rh W _ _ _) only [iI_lt, iI_le, iI_eq, bI_i0, ite_n, bX6_waysFrom_4, g_6_1, g_6_3, l_25, l_26, li_0, li_1, li_8, li_31, iI_add, iI_mul, Option.bind_some, if_pos c]
    rw [show i = XR X 25 j 0 by omega]
  · right
    refine ⟨i + 1, ?_, ⟨by omega, by omega⟩, by omega⟩
    by_cases e : XR X 26 j (p * 8 + i) ≤ 0
    · simp (disch := first | assumption | omega | exact W_fl W _ _ _ | exact W_fh W _ _ _ | exact W_rl W _ _ _ | exact W_rh W _ _ _) only [iI_lt, iI_le, iI_eq, bI_i0, ite_n, bX6_waysFrom_4, bX6_waysFrom_34, g_6_1, g_6_3, l_25, l_26, li_0, li_1, li_8, li_31, iI_add, iI_mul, Option.bind_some, if_neg c, if_pos e]
      rw [← ib_pass hi (by simp [wayB]; omega)]
    · simp (disch := first | assumption | omega | exact W_fl W _ _ _ | exact W_fh W _ _ _ | exact W_rl W _ _ _ | exact W_rh W _ _ _) only [iI_lt, iI_le, iI_eq, bI_i0, ite_n, bX6_waysFrom_4, bX6_waysFrom_34, g_6_1, g_6_3, l_25, l_26, li_0, li_1, li_8, li_31, iI_add, iI_mul, Option.bind_some, if_neg c, if_neg e]
      rw [ib_put hi (by omega) (by simp [wayB]; omega)]
def mailB (X : XS) (j : Nat) (p : Int) : Int → Bool := fun i => decide (0 < XR X 27 j (i * 8 + p))
theorem e_mailsTo {f0 : Nat} {Y : YS} {X : XS} {j : Nat} (g : SeO Y j) (W : WF X) {p : Int} (h0 : 0 ≤ p) (h8 : p < 8) (hN : XR X 25 j 0 ≤ 8) (hN0 : 0 ≤ XR X 25 j 0) (hf : 20 ≤ f0) : fX6_mailsTo f0 (Ad Y 6 j) (iI p) (hp Y X) = some (iI ((bs (mailB X j p) (XR X 25 j 0).toNat : Nat) : Int), hp Y X) := by
  simp only [fX6_mailsTo, li_0]
  rw [show (iI 0 : Int32) = iI ((bs (mailB X j p) (0 : Int).toNat : Nat) : Int) from rfl]
  refine lp (fun f (i : Int) => bX6_mailsTo_4 f0 f (Ad Y 6 j) (iI p) (iI ((bs (mailB X j p) i.toNat : Nat) : Int)) (iI i) (hp Y X)) (fun i => 0 ≤ i ∧ i ≤ XR X 25 j 0) (fun i => (17 - i).toNat) (fun r => r = _) ?_ f0 0 ⟨by omega, by omega⟩ (by omega)
  intro f i ⟨hi, hk⟩
  by_cases c : XR X 25 j 0 ≤ i
  · left
    simp (disch := first | assumption | omega | exact W_fl W _ _ _ | exact W_fh W _ _ _ | exact W_rl W _ _ _ | exact W_rh W _ _ _) only [iI_lt, iI_le, iI_eq, bI_i0, ite_n, bX6_mailsTo_4, g_6_1, g_6_4, l_25, l_27, li_0, li_1, li_8, li_31, iI_add, iI_mul, Option.bind_some, if_pos c]
    rw [show i = XR X 25 j 0 by omega]
  · right
    refine ⟨i + 1, ?_, ⟨by omega, by omega⟩, by omega⟩
    by_cases e : XR X 27 j (i * 8 + p) ≤ 0
    · simp (disch := first | assumption | omega | exact W_fl W _ _ _ | exact W_fh W _ _ _ | exact W_rl W _ _ _ | exact W_rh W _ _ _) only [iI_lt, iI_le, iI_eq, bI_i0, ite_n, bX6_mailsTo_4, bX6_mailsTo_34, g_6_1, g_6_4, l_25, l_27, li_0, li_1, li_8, li_31, iI_add, iI_mul, Option.bind_some, if_neg c, if_pos e]
      rw [← ib_pass hi (by simp [mailB]; omega)]
    · simp (disch := first | assumption | omega | exact W_fl W _ _ _ | exact W_fh W _ _ _ | exact W_rl W _ _ _ | exact W_rh W _ _ _) only [iI_lt, iI_le, iI_eq, bI_i0, ite_n, bX6_mailsTo_4, bX6_mailsTo_34, g_6_1, g_6_4, l_25, l_27, li_0, li_1, li_8, li_31, iI_add, iI_mul, Option.bind_some, if_neg c, if_neg e]
      rw [ib_put hi (by omega) (by simp [mailB]; omega)]
