/-! THE REFERENCE: its row s as S -/
def WS (S : Int → Int) : Prop := ∀ i, Rg (S i)
theorem WS_l {S : Int → Int} (h : WS S) (i : Int) : -2147483648 ≤ S i := (h i).1
theorem WS_h {S : Int → Int} (h : WS S) (i : Int) : S i < 2147483648 := (h i).2
theorem upi_eq {α : Type} (r : Int → α) (i : Int) (v : α) : upi r i v i = v := if_pos rfl
theorem upi_ne {α : Type} (r : Int → α) {i : Int} (v : α) {j : Int} (h : j ≠ i) : upi r i v j = r j := if_neg h
theorem WS_u {S : Int → Int} (h : WS S) {i v : Int} (h1 : -2147483648 ≤ v) (h2 : v < 2147483648) : WS (upi S i v) := fun j => by
  rw [upi_at]; split
  · exact ⟨h1, h2⟩
  · exact h j
theorem l61 {Y : YS} {X : XS} {S : Int → Int} (g : GY Y) {i : Int} (h0 : 0 ≤ i) (hi : i < 646) : ldI 1 (hp Y (sR X 61 0 S)) (Ad Y 61 0) (iI i) = some (iI (S i)) := by
  rw [l_61 g h0 hi, XR_self]
theorem s61 {Y : YS} {X : XS} {S : Int → Int} (g : GY Y) {i v : Int} (h0 : 0 ≤ i) (hi : i < 646) : stI 1 (hp Y (sR X 61 0 S)) (Ad Y 61 0) (iI i) (iI v) = some (hp Y (sR X 61 0 (upi S i (wr v)))) := by
  rw [← iI_wr v, s_61 g h0 hi, XR_self, sR_sR]
theorem XR_r60 (X : XS) (S : Int → Int) : XR (sR X 61 0 S) 60 0 = XR X 60 0 := by rw [XR_sR, if_neg (fun q => absurd q.1 (by decide))]
theorem XR_r62 (X : XS) (S : Int → Int) : XR (sR X 61 0 S) 62 0 = XR X 62 0 := by rw [XR_sR, if_neg (fun q => absurd q.1 (by decide))]
theorem XR_r63 (X : XS) (S : Int → Int) : XR (sR X 61 0 S) 63 0 = XR X 63 0 := by rw [XR_sR, if_neg (fun q => absurd q.1 (by decide))]
theorem XR_r66 (X : XS) (S : Int → Int) : XR (sR X 61 0 S) 66 0 = XR X 66 0 := by rw [XR_sR, if_neg (fun q => absurd q.1 (by decide))]
theorem XR_r67 (X : XS) (S : Int → Int) : XR (sR X 61 0 S) 67 0 = XR X 67 0 := by rw [XR_sR, if_neg (fun q => absurd q.1 (by decide))]
theorem XR_r68 (X : XS) (S : Int → Int) : XR (sR X 61 0 S) 68 0 = XR X 68 0 := by rw [XR_sR, if_neg (fun q => absurd q.1 (by decide))]
theorem XR_r69 (X : XS) (S : Int → Int) : XR (sR X 61 0 S) 69 0 = XR X 69 0 := by rw [XR_sR, if_neg (fun q => absurd q.1 (by decide))]
theorem XR_r70 (X : XS) (S : Int → Int) : XR (sR X 61 0 S) 70 0 = XR X 70 0 := by rw [XR_sR, if_neg (fun q => absurd q.1 (by decide))]
theorem XR_r71 (X : XS) (S : Int → Int) : XR (sR X 61 0 S) 71 0 = XR X 71 0 := by rw [XR_sR, if_neg (fun q => absurd q.1 (by decide))]
theorem XR_r72 (X : XS) (S : Int → Int) : XR (sR X 61 0 S) 72 0 = XR X 72 0 := by rw [XR_sR, if_neg (fun q => absurd q.1 (by decide))]
theorem XR_r73 (X : XS) (S : Int → Int) : XR (sR X 61 0 S) 73 0 = XR X 73 0 := by rw [XR_sR, if_neg (fun q => absurd q.1 (by decide))]
theorem XR_r74 (X : XS) (S : Int → Int) : XR (sR X 61 0 S) 74 0 = XR X 74 0 := by rw [XR_sR, if_neg (fun q => absurd q.1 (by decide))]
theorem XR_r75 (X : XS) (S : Int → Int) : XR (sR X 61 0 S) 75 0 = XR X 75 0 := by rw [XR_sR, if_neg (fun q => absurd q.1 (by decide))]
theorem XR_r76 (X : XS) (S : Int → Int) : XR (sR X 61 0 S) 76 0 = XR X 76 0 := by rw [XR_sR, if_neg (fun q => absurd q.1 (by decide))]
theorem XR_r77 (X : XS) (S : Int → Int) : XR (sR X 61 0 S) 77 0 = XR X 77 0 := by rw [XR_sR, if_neg (fun q => absurd q.1 (by decide))]
theorem XR_r78 (X : XS) (S : Int → Int) : XR (sR X 61 0 S) 78 0 = XR X 78 0 := by rw [XR_sR, if_neg (fun q => absurd q.1 (by decide))]
theorem XR_r79 (X : XS) (S : Int → Int) : XR (sR X 61 0 S) 79 0 = XR X 79 0 := by rw [XR_sR, if_neg (fun q => absurd q.1 (by decide))]
theorem XR_r81 (X : XS) (S : Int → Int) : XR (sR X 61 0 S) 81 0 = XR X 81 0 := by rw [XR_sR, if_neg (fun q => absurd q.1 (by decide))]
theorem sF_sR (X : XS) (s k : Nat) (r : Int → Int) (s' k' f : Nat) (v : Int) : sF (sR X s k r) s' k' f v = sR (sF X s' k' f v) s k r := rfl
theorem W_r {X : XS} {S : Int → Int} (W : WF X) (Ws : WS S) : WF (sR X 61 0 S) := W_R W Ws
theorem r_isSea {f0 : Nat} {Y : YS} {X : XS} {S : Int → Int} (g : GY Y) (W : WF X) (Ws : WS S) : fX12_isSea f0 (Ad Y 12 0) (hp Y (sR X 61 0 S)) = some (bI (0 < S 0 ∧ 0 < S 1), hp Y (sR X 61 0 S)) := by
  simp (disch := first | assumption | omega | exact W_fl W _ _ _ | exact W_fh W _ _ _ | exact W_rl W _ _ _ | exact W_rh W _ _ _ | exact WS_l Ws _ | exact WS_h Ws _) only [fX12_isSea, g_12_6, l61, li_0, li_1, Option.bind_some, iI_add, iI_le]
  (repeat' split) <;> first | (rw [zr_i0, bI_F (by omega)]) | (rw [zr_i1, bI_T (by omega)])
theorem r_isIn {f0 : Nat} {h : Hp} {p a b : Int} (hp1 : Rg p) (ha : Rg a) (hb : Rg b) : fX12_isIn f0 (iI p) (iI a) (iI b) h = some (bI (a ≤ p ∧ p ≤ b), h) := by
  have p1 := hp1.1; have p2 := hp1.2; have p3 := ha.1; have p4 := ha.2; have p5 := hb.1; have p6 := hb.2
  simp (disch := first | assumption | omega) only [fX12_isIn, li_0, li_1, Option.bind_some, iI_add, iI_lt]
  (repeat' split) <;> first | (rw [zr_i0, bI_F (by omega)]) | (rw [zr_i1, bI_T (by omega)])
theorem zr_bI {c : Prop} [Decidable c] {h : Hp} : zr (bI c) h = some (bI c, h) := by
  unfold bI; split
  · exact zr_1
  · exact zr_0
theorem r_cell {f0 : Nat} {h : Hp} {a b : Int} : fX12_cell f0 (iI a) (iI b) h = some (iI (8 * a + b), h) := by
  simp only [fX12_cell, li_8, iI_add, iI_mul, Option.bind_some]
theorem r_isPort {f0 : Nat} {Y : YS} {X : XS} {S : Int → Int} (g : GY Y) {p : Int} (hp1 : Rg p) (hS : 0 ≤ S 0 ∧ S 0 ≤ 8) : fX12_isPort f0 (Ad Y 12 0) (iI p) (hp Y (sR X 61 0 S)) = some (bI (0 ≤ p ∧ p < S 0), hp Y (sR X 61 0 S)) := by
  have hb : Rg (S 0 - 1) := ⟨by omega, by omega⟩
  have h0 : Rg (0 : Int) := ⟨by decide, by decide⟩
  have e : (0 ≤ p ∧ p ≤ S 0 - 1) ↔ (0 ≤ p ∧ p < S 0) := by omega
  simp (disch := first | assumption | omega) only [fX12_isPort, g_12_6, l61, li_0, li_1, ob2, iI_sub, Option.bind_some, iI_add, r_isIn, zr_bI]
  simp only [bI, e]
theorem r_isShip {f0 : Nat} {Y : YS} {X : XS} {S : Int → Int} (g : GY Y) {p : Int} (hp1 : Rg p) (hS : 0 ≤ S 1 ∧ S 1 ≤ 8) : fX12_isShip f0 (Ad Y 12 0) (iI p) (hp Y (sR X 61 0 S)) = some (bI (0 ≤ p ∧ p < S 1), hp Y (sR X 61 0 S)) := by
  have hb : Rg (S 1 - 1) := ⟨by omega, by omega⟩
  have h0 : Rg (0 : Int) := ⟨by decide, by decide⟩
  have e : (0 ≤ p ∧ p ≤ S 1 - 1) ↔ (0 ≤ p ∧ p < S 1) := by omega
  simp (disch := first | assumption | omega) only [fX12_isShip, g_12_6, l61, li_1, li_0, ob2, iI_sub, Option.bind_some, iI_add, r_isIn, zr_bI]
  simp only [bI, e]
theorem r_isMan {f0 : Nat} {Y : YS} {X : XS} {S : Int → Int} (g : GY Y) {p : Int} (hp1 : Rg p) (hS : 0 ≤ S 3 ∧ S 3 ≤ 8) : fX12_isMan f0 (Ad Y 12 0) (iI p) (hp Y (sR X 61 0 S)) = some (bI (0 ≤ p ∧ p < S 3), hp Y (sR X 61 0 S)) := by
  have hb : Rg (S 3 - 1) := ⟨by omega, by omega⟩
  have h0 : Rg (0 : Int) := ⟨by decide, by decide⟩
  have e : (0 ≤ p ∧ p ≤ S 3 - 1) ↔ (0 ≤ p ∧ p < S 3) := by omega
  simp (disch := first | assumption | omega) only [fX12_isMan, g_12_6, l61, li_3, li_0, li_1, ob2, iI_sub, Option.bind_some, iI_add, r_isIn, zr_bI]
  simp only [bI, e]
def owS (S : Int → Int) (s p : Int) : Int := if S (400 + (8 * s + p)) = 1 then 0 else S (200 + (8 * s + p))
theorem r_owed {f0 : Nat} {Y : YS} {X : XS} {S : Int → Int} (g : GY Y) (Ws : WS S) (W : WF X) {s p : Int} (s0 : 0 ≤ s) (s1 : s < 8) (p0 : 0 ≤ p) (p1 : p < 8) : fX12_owed f0 (Ad Y 12 0) (iI s) (iI p) (hp Y (sR X 61 0 S)) = some (iI (owS S s p), hp Y (sR X 61 0 S)) := by
  simp (disch := first | assumption | omega | exact W_fl W _ _ _ | exact W_fh W _ _ _ | exact W_rl W _ _ _ | exact W_rh W _ _ _ | exact WS_l Ws _ | exact WS_h Ws _) only [fX12_owed, g_12_6, l61, li_400, li_1, li_0, li_200, ob2, iI_add, Option.bind_some, r_cell, iI_eq]
  unfold owS
  split <;> rfl
/-- from which day on an office knows a ship, by the first n offices -/
def knF (q S : Int → Int) (port ship : Int) : Nat → Int
  | 0 => 1000000
  | n + 1 => if 0 < S (336 + (8 * ship + n)) then (if S (336 + (8 * ship + n)) - 1 + q (8 * n + port) ≤ knF q S port ship n then S (336 + (8 * ship + n)) - 1 + q (8 * n + port) else knF q S port ship n) else knF q S port ship n
def QR (q : Int → Int) : Prop := ∀ i, 0 ≤ i → i < 64 → 0 ≤ q i ∧ q i ≤ 1000000
def SR (S : Int → Int) : Prop := ∀ i, 0 ≤ i → i < 64 → 0 ≤ S (336 + i) ∧ S (336 + i) ≤ 1000
theorem knF_rg {q S : Int → Int} (hq : QR q) {port ship : Int} (p0 : 0 ≤ port) (p8 : port < 8) : ∀ n : Nat, n ≤ 8 → 0 ≤ knF q S port ship n ∧ knF q S port ship n ≤ 1000000
  | 0, _ => by simp [knF]
  | n + 1, hn => by
    have ih := knF_rg (S := S) (ship := ship) hq p0 p8 n (by omega)
    have h1 := hq (8 * n + port) (by omega) (by omega)
    rw [knF]
    (repeat' split) <;> omega
abbrev knA (q S : Int → Int) (port ship : Int) : Int := knF q S port ship (S 0).toNat
theorem r_knowsFrom {f0 : Nat} {Y : YS} {X : XS} {S : Int → Int} (g : GY Y) (W : WF X) (Ws : WS S) (h0 : 0 ≤ S 0 ∧ S 0 ≤ 8) (hq : QR (XR X 67 0)) (hs : SR S) {p s : Int} (p0 : 0 ≤ p) (p1 : p < 8) (s0 : 0 ≤ s) (s1 : s < 8) (hf : 20 ≤ f0) : fX12_knowsFrom f0 (Ad Y 12 0) (iI p) (iI s) (hp Y (sR X 61 0 S)) = some (iI (knA (XR X 67 0) S p s), hp Y (sR X 61 0 S)) := by
  simp only [fX12_knowsFrom, li_1000000, li_0]
  refine lp (fun f (i : Int) => bX12_knowsFrom_7 f0 f (Ad Y 12 0) (iI p) (iI s) (iI (knF (XR X 67 0) S p s i.toNat)) (iI i) (hp Y (sR X 61 0 S))) (fun i => 0 ≤ i ∧ i ≤ S 0) (fun i => (17 - i).toNat) (fun r => r = _) ?_ f0 0 ⟨by omega, by omega⟩ (by omega)
  intro f i ⟨hi, hi2⟩
  by_cases c : S 0 ≤ i
  · left
    simp (disch := first | assumption | omega | exact W_fl W _ _ _ | exact W_fh W _ _ _ | exact W_rl W _ _ _ | exact W_rh W _ _ _ | exact WS_l Ws _ | exact WS_h Ws _) only [bX12_knowsFrom_7, g_12_6, g_12_22, l61, l_67, li_0, li_1, li_336, ob2, iI_add, iI_sub, Option.bind_some, iI_le, if_pos c]
    rw [show i = S 0 by omega]
  · right
    refine ⟨i + 1, ?_, ⟨by omega, by omega⟩, by omega⟩
    have ei : ((i.toNat : Nat) : Int) = i := by omega
    have hk := knF_rg (S := S) (ship := s) hq p0 p1 i.toNat (by omega)
    have hp1 := hq (8 * i + p) (by omega) (by omega)
    have hs1 := hs (8 * s + i) (by omega) (by omega)
    rw [show (i + 1).toNat = i.toNat + 1 by omega, knF, ei]
    by_cases a : 0 < S (336 + (8 * s + i))
    · have a' : ¬ S (336 + (8 * s + i)) ≤ 0 := by omega
      rw [if_pos a]
      by_cases b : S (336 + (8 * s + i)) - 1 + XR X 67 0 (8 * i + p) ≤ knF (XR X 67 0) S p s i.toNat
      · rw [if_pos b]
        simp (disch := first | assumption | omega | exact W_fl W _ _ _ | exact W_fh W _ _ _ | exact W_rl W _ _ _ | exact W_rh W _ _ _ | exact WS_l Ws _ | exact WS_h Ws _) only [bX12_knowsFrom_7, bX12_knowsFrom_70, fX12_lesser, g_12_6, g_12_22, l61, l_67, li_0, li_1, li_336, ob2, iI_add, iI_sub, Option.bind_some, XR_r63, XR_r66, XR_r67, XR_r68, XR_r69, XR_r70, XR_r71, XR_r72, XR_r60, XR_r62, XF_sR, XJ_sR, XP_sR, XM_sR, sF_sR, r_cell, iI_le, if_neg c, if_neg a', if_pos b]
      · rw [if_neg b]
        simp (disch := first | assumption | omega | exact W_fl W _ _ _ | exact W_fh W _ _ _ | exact W_rl W _ _ _ | exact W_rh W _ _ _ | exact WS_l Ws _ | exact WS_h Ws _) only [bX12_knowsFrom_7, bX12_knowsFrom_70, fX12_lesser, g_12_6, g_12_22, l61, l_67, li_0, li_1, li_336, ob2, iI_add, iI_sub, Option.bind_some, XR_r63, XR_r66, XR_r67, XR_r68, XR_r69, XR_r70, XR_r71, XR_r72, XR_r60, XR_r62, XF_sR, XJ_sR, XP_sR, XM_sR, sF_sR, r_cell, iI_le, if_neg c, if_neg a', if_neg b]
    · have a' : S (336 + (8 * s + i)) ≤ 0 := by omega
      rw [if_neg a]
      simp (disch := first | assumption | omega | exact W_fl W _ _ _ | exact W_fh W _ _ _ | exact W_rl W _ _ _ | exact W_rh W _ _ _ | exact WS_l Ws _ | exact WS_h Ws _) only [bX12_knowsFrom_7, bX12_knowsFrom_70, g_12_6, g_12_22, l61, l_67, li_0, li_1, li_336, ob2, iI_add, iI_sub, Option.bind_some, XR_r63, XR_r66, XR_r67, XR_r68, XR_r69, XR_r70, XR_r71, XR_r72, XR_r60, XR_r62, XF_sR, XJ_sR, XP_sR, XM_sR, sF_sR, r_cell, iI_le, if_neg c, if_pos a']
def kaB (q S : Int → Int) (p d : Int) : Int → Bool := fun s => decide (knA q S p s ≤ d)
theorem r_knownAt {f0 : Nat} {Y : YS} {X : XS} {S : Int → Int} (g : GY Y) (W : WF X) (Ws : WS S) (h0 : 0 ≤ S 0 ∧ S 0 ≤ 8) (h1 : 0 ≤ S 1 ∧ S 1 ≤ 8) (hq : QR (XR X 67 0)) (hs : SR S) {p d : Int} (p0 : 0 ≤ p) (p1 : p < 8) (hd : Rg d) (hf : 20 ≤ f0) : fX12_knownAt f0 (Ad Y 12 0) (iI p) (iI d) (hp Y (sR X 61 0 S)) = some (iI ((bs (kaB (XR X 67 0) S p d) (S 1).toNat : Nat) : Int), hp Y (sR X 61 0 S)) := by
  have d1 := hd.1; have d2 := hd.2
  simp only [fX12_knownAt, li_0]
  rw [show (iI 0 : Int32) = iI ((bs (kaB (XR X 67 0) S p d) (0 : Int).toNat : Nat) : Int) from rfl]
  refine lp (fun f (i : Int) => bX12_knownAt_5 f0 f (Ad Y 12 0) (iI p) (iI d) (iI ((bs (kaB (XR X 67 0) S p d) i.toNat : Nat) : Int)) (iI i) (hp Y (sR X 61 0 S))) (fun i => 0 ≤ i ∧ i ≤ S 1) (fun i => (17 - i).toNat) (fun r => r = _) ?_ f0 0 ⟨by omega, by omega⟩ (by omega)
  intro f i ⟨hi, hi2⟩
  by_cases c : S 1 ≤ i
  · left
    simp (disch := first | assumption | omega | exact W_fl W _ _ _ | exact W_fh W _ _ _ | exact W_rl W _ _ _ | exact W_rh W _ _ _ | exact WS_l Ws _ | exact WS_h Ws _) only [bX12_knownAt_5, g_12_6, k_12, l61, li_0, li_1, li_31, ob2, iI_add, Option.bind_some, iI_le, if_pos c]
    rw [show i = S 1 by omega]
  · right
    refine ⟨i + 1, ?_, ⟨by omega, by omega⟩, by omega⟩
    have hk : 0 ≤ knA (XR X 67 0) S p i ∧ knA (XR X 67 0) S p i ≤ 1000000 := knF_rg (S := S) (ship := i) hq p0 p1 (S 0).toNat (by omega)
    by_cases e : d < knA (XR X 67 0) S p i
    · have ee := ib_pass (p := kaB (XR X 67 0) S p d) hi (by simp [kaB]; omega)
      rw [← ee]
      have e4 : iI ((bs (kaB (XR X 67 0) S p d) i.toNat : Nat) : Int) ||| iI 0 = iI ((bs (kaB (XR X 67 0) S p d) i.toNat : Nat) : Int) := by
        rw [show (0 : Int) = ((0 : Nat) : Int) from rfl, ib_or, Nat.or_zero]
      simp (disch := first | assumption | omega | exact W_fl W _ _ _ | exact W_fh W _ _ _ | exact W_rl W _ _ _ | exact W_rh W _ _ _ | exact WS_l Ws _ | exact WS_h Ws _) only [bX12_knownAt_5, bX12_knownAt_36, g_12_6, k_12, l61, li_0, li_1, li_31, ob2, iI_add, Option.bind_some, iI_le, iI_lt, if_neg c, r_knowsFrom, if_pos e, e4]
    · rw [← ib_put hi (by omega) (by simp [kaB]; omega)]
      simp (disch := first | assumption | omega | exact W_fl W _ _ _ | exact W_fh W _ _ _ | exact W_rl W _ _ _ | exact W_rh W _ _ _ | exact WS_l Ws _ | exact WS_h Ws _) only [bX12_knownAt_5, bX12_knownAt_36, g_12_6, k_12, l61, li_0, li_1, li_31, ob2, iI_add, Option.bind_some, iI_le, iI_lt, if_neg c, r_knowsFrom, if_neg e]
def raB (S : Int → Int) (p d : Int) : Int → Bool := fun i => decide (S (280 + i) = p ∧ S (296 + i) = d % 100)
theorem r_isRain {f0 : Nat} {Y : YS} {X : XS} {S : Int → Int} (g : GY Y) (W : WF X) (Ws : WS S) (h7 : 0 ≤ S 7 ∧ S 7 ≤ 16) {p d : Int} (p0 : 0 ≤ p) (p1 : p < 8) (hd : 0 ≤ d) (hd' : d < 2000) (hf : 20 ≤ f0) : fX12_isRain f0 (Ad Y 12 0) (iI p) (iI d) (hp Y (sR X 61 0 S)) = some (bI (anyB (raB S p d) (S 7).toNat = true), hp Y (sR X 61 0 S)) := by
  have hz : nz (iI 100) = some () := nz_i (by decide) (by decide) (by decide)
  have hm : iI d - iI d / iI 100 * iI 100 = iI (d % 100) := iI_mod hd (by omega) (by decide) (by decide)
  simp only [fX12_isRain, li_0]
  refine lp (fun f (i : Int) => bX12_isRain_5 f0 f (Ad Y 12 0) (iI p) (iI d) (iI (if anyB (raB S p d) i.toNat = true then 1 else 0)) (iI i) (hp Y (sR X 61 0 S))) (fun i => 0 ≤ i ∧ i ≤ S 7) (fun i => (17 - i).toNat) (fun r => r = _) ?_ f0 0 ⟨by omega, by omega⟩ (by omega)
  intro f i ⟨hi, hi2⟩
  by_cases c : S 7 ≤ i
  · left
    simp (disch := first | assumption | omega | exact W_fl W _ _ _ | exact W_fh W _ _ _ | exact W_rl W _ _ _ | exact W_rh W _ _ _ | exact WS_l Ws _ | exact WS_h Ws _) only [bX12_isRain_5, g_12_6, l61, li_0, li_1, li_7, li_280, li_296, li_100, iI_add, iI_mul, iI_sub, Option.bind_some, iI_le, if_pos c]
    rw [show i = S 7 by omega, ← bI_i, zr_bI]
  · right
    refine ⟨i + 1, ?_, ⟨by omega, by omega⟩, by omega⟩
    have ei : ((i.toNat : Nat) : Int) = i := by omega
    rw [show (i + 1).toNat = i.toNat + 1 by omega, anyB, ei]
    have z : ¬ (1 : Int) = 0 := by decide
    by_cases a : anyB (raB S p d) i.toNat = true
    · rw [if_pos a, if_pos (by simp [a])]
      simp (disch := first | assumption | omega | exact W_fl W _ _ _ | exact W_fh W _ _ _ | exact W_rl W _ _ _ | exact W_rh W _ _ _ | exact WS_l Ws _ | exact WS_h Ws _) only [bX12_isRain_5, bX12_isRain_54, bX12_isRain_59, g_12_6, l61, li_0, li_1, li_7, li_280, li_296, li_100, iI_add, iI_mul, iI_sub, Option.bind_some, iI_le, iI_eq, if_neg c, if_neg z]
    · rw [if_neg a]
      by_cases b : S (280 + i) = p
      · by_cases b2 : S (296 + i) = d % 100
        · rw [if_pos (by simp [raB, b, b2])]
          simp (disch := first | assumption | omega | exact W_fl W _ _ _ | exact W_fh W _ _ _ | exact W_rl W _ _ _ | exact W_rh W _ _ _ | exact WS_l Ws _ | exact WS_h Ws _) only [bX12_isRain_5, bX12_isRain_54, bX12_isRain_59, g_12_6, l61, li_0, li_1, li_7, li_280, li_296, li_100, iI_add, iI_mul, iI_sub, Option.bind_some, iI_le, iI_eq, if_neg c, if_true, if_pos b, hz, hm, if_pos b2]
        · rw [if_neg (by simp [raB, b, b2, a])]
          simp (disch := first | assumption | omega | exact W_fl W _ _ _ | exact W_fh W _ _ _ | exact W_rl W _ _ _ | exact W_rh W _ _ _ | exact WS_l Ws _ | exact WS_h Ws _) only [bX12_isRain_5, bX12_isRain_58, bX12_isRain_59, g_12_6, l61, li_0, li_1, li_7, li_280, li_296, li_100, iI_add, iI_mul, iI_sub, Option.bind_some, iI_le, iI_eq, if_neg c, if_true, if_pos b, hz, hm, if_neg b2]
      · rw [if_neg (by simp [raB, b, a])]
        simp (disch := first | assumption | omega | exact W_fl W _ _ _ | exact W_fh W _ _ _ | exact W_rl W _ _ _ | exact W_rh W _ _ _ | exact WS_l Ws _ | exact WS_h Ws _) only [bX12_isRain_5, bX12_isRain_58, bX12_isRain_59, g_12_6, l61, li_0, li_1, li_7, li_280, li_296, li_100, iI_add, iI_mul, iI_sub, Option.bind_some, iI_le, iI_eq, if_neg c, if_true, if_neg b]
/-! its acts, as functions on S -/
abbrev canS (S : Int → Int) : Prop := (0 < S 0 ∧ 0 < S 1) ∧ S 317 = 0
theorem r_canAct {f0 : Nat} {Y : YS} {X : XS} {S : Int → Int} (g : GY Y) (W : WF X) (Ws : WS S) : fX12_canAct f0 (Ad Y 12 0) (hp Y (sR X 61 0 S)) = some (bI (canS S), hp Y (sR X 61 0 S)) := by
  simp (disch := first | assumption | omega | exact W_fl W _ _ _ | exact W_fh W _ _ _ | exact W_rl W _ _ _ | exact W_rh W _ _ _ | exact WS_l Ws _ | exact WS_h Ws _) only [fX12_canAct, g_12_6, k_12, l61, li_0, li_317, li_1, ob2, Option.bind_some, iI_add, r_isSea, bI_i0, ite_n, iI_eq]
  (repeat' split) <;> first | (rw [zr_i0, bI_F (by omega)]) | (rw [zr_i1, bI_T (by omega)])
def lateS (S : Int → Int) (n : Int) : Int := if 999 < S 312 + n then 9 else 0
theorem r_late {f0 : Nat} {Y : YS} {X : XS} {S : Int → Int} (g : GY Y) (h : 0 ≤ S 312 ∧ S 312 ≤ 999) {n : Int} (h0 : 0 ≤ n) (h1 : n ≤ 1000) : fX12_late f0 (Ad Y 12 0) (iI n) (hp Y (sR X 61 0 S)) = some (iI (lateS S n), hp Y (sR X 61 0 S)) := by
  simp (disch := first | assumption | omega) only [fX12_late, g_12_6, l61, li_312, li_999, li_0, li_9, iI_add, Option.bind_some, iI_le]
  unfold lateS
  by_cases c : S 312 + n ≤ 999
  · rw [if_pos c, if_neg (by omega)]
  · rw [if_neg c, if_pos (by omega)]
def whySailS (S : Int → Int) (p : Int) : Int := if canS S then (if S (8 + (8 * S 313 + p)) = 0 then 2 else lateS S (S (8 + (8 * S 313 + p)))) else 1
theorem r_whySail {f0 : Nat} {Y : YS} {X : XS} {S : Int → Int} (g : GY Y) (W : WF X) (Ws : WS S) (h : 0 ≤ S 312 ∧ S 312 ≤ 999) (hp1 : canS S → 0 ≤ S 313 ∧ S 313 < 8) (hw : ∀ i, 0 ≤ i → i < 64 → 0 ≤ S (8 + i) ∧ S (8 + i) ≤ 20) {p : Int} (p0 : 0 ≤ p) (p1 : p < 8) : fX12_whySail f0 (Ad Y 12 0) (iI p) (hp Y (sR X 61 0 S)) = some (iI (whySailS S p), hp Y (sR X 61 0 S)) := by
  unfold whySailS
  by_cases c : canS S
  · have q := hp1 c
    have w := hw (8 * S 313 + p) (by omega) (by omega)
    rw [if_pos c]
    by_cases a : S (8 + (8 * S 313 + p)) = 0
    · rw [if_pos a]
      simp (disch := first | assumption | omega | exact W_fl W _ _ _ | exact W_fh W _ _ _ | exact W_rl W _ _ _ | exact W_rh W _ _ _ | exact WS_l Ws _ | exact WS_h Ws _) only [fX12_whySail, g_12_6, k_12, l61, li_0, li_1, li_313, li_8, li_2, ob2, iI_add, Option.bind_some, r_canAct, bI_i0, ite_n, if_pos c, r_cell, iI_eq, if_pos a]
    · rw [if_neg a]
      simp (disch := first | assumption | omega | exact W_fl W _ _ _ | exact W_fh W _ _ _ | exact W_rl W _ _ _ | exact W_rh W _ _ _ | exact WS_l Ws _ | exact WS_h Ws _) only [fX12_whySail, g_12_6, k_12, l61, li_0, li_1, li_313, li_8, li_2, ob2, iI_add, Option.bind_some, r_canAct, bI_i0, ite_n, if_pos c, r_cell, iI_eq, if_neg a, r_late]
  · rw [if_neg c]
    simp (disch := first | assumption | omega | exact W_fl W _ _ _ | exact W_fh W _ _ _ | exact W_rl W _ _ _ | exact W_rh W _ _ _ | exact WS_l Ws _ | exact WS_h Ws _) only [fX12_whySail, g_12_6, k_12, l61, li_0, li_1, li_313, li_8, li_2, ob2, iI_add, Option.bind_some, r_canAct, bI_i0, ite_n, if_neg c]
def whyWaitS (S : Int → Int) (n : Int) : Int := if canS S then lateS S n else 1
theorem r_whyWait {f0 : Nat} {Y : YS} {X : XS} {S : Int → Int} (g : GY Y) (W : WF X) (Ws : WS S) (h : 0 ≤ S 312 ∧ S 312 ≤ 999) {n : Int} (n0 : 0 ≤ n) (n1 : n ≤ 1000) : fX12_whyWait f0 (Ad Y 12 0) (iI n) (hp Y (sR X 61 0 S)) = some (iI (whyWaitS S n), hp Y (sR X 61 0 S)) := by
  unfold whyWaitS
  by_cases c : canS S
  · rw [if_pos c]
    simp (disch := first | assumption | omega | exact W_fl W _ _ _ | exact W_fh W _ _ _ | exact W_rl W _ _ _ | exact W_rh W _ _ _ | exact WS_l Ws _ | exact WS_h Ws _) only [fX12_whyWait, k_12, li_0, li_1, ob2, Option.bind_some, iI_add, r_canAct, bI_i0, ite_n, if_pos c, r_late]
  · rw [if_neg c]
    simp (disch := first | assumption | omega | exact W_fl W _ _ _ | exact W_fh W _ _ _ | exact W_rl W _ _ _ | exact W_rh W _ _ _ | exact WS_l Ws _ | exact WS_h Ws _) only [fX12_whyWait, k_12, li_0, li_1, ob2, Option.bind_some, iI_add, r_canAct, bI_i0, ite_n, if_neg c]
def whyTakeS (S : Int → Int) : Int := if canS S then (if owS S (S 314) (S 313) = 0 then 2 else 0) else 1
theorem r_whyTake {f0 : Nat} {Y : YS} {X : XS} {S : Int → Int} (g : GY Y) (W : WF X) (Ws : WS S) (hp1 : canS S → (0 ≤ S 313 ∧ S 313 < 8) ∧ 0 ≤ S 314 ∧ S 314 < 8) (ho : ∀ s p, 0 ≤ s → s < 8 → 0 ≤ p → p < 8 → 0 ≤ owS S s p ∧ owS S s p ≤ 250) : fX12_whyTake f0 (Ad Y 12 0) (hp Y (sR X 61 0 S)) = some (iI (whyTakeS S), hp Y (sR X 61 0 S)) := by
  unfold whyTakeS
  by_cases c : canS S
  · have q := hp1 c
    have w := ho (S 314) (S 313) (by omega) (by omega) (by omega) (by omega)
    rw [if_pos c]
    by_cases a : owS S (S 314) (S 313) = 0
    · rw [if_pos a]
      simp (disch := first | assumption | omega | exact W_fl W _ _ _ | exact W_fh W _ _ _ | exact W_rl W _ _ _ | exact W_rh W _ _ _ | exact WS_l Ws _ | exact WS_h Ws _) only [fX12_whyTake, g_12_6, k_12, l61, li_0, li_1, li_314, li_313, li_2, ob2, Option.bind_some, iI_add, r_canAct, bI_i0, ite_n, if_pos c, r_owed, iI_eq, if_pos a]
    · rw [if_neg a]
      simp (disch := first | assumption | omega | exact W_fl W _ _ _ | exact W_fh W _ _ _ | exact W_rl W _ _ _ | exact W_rh W _ _ _ | exact WS_l Ws _ | exact WS_h Ws _) only [fX12_whyTake, g_12_6, k_12, l61, li_0, li_1, li_314, li_313, li_2, ob2, Option.bind_some, iI_add, r_canAct, bI_i0, ite_n, if_pos c, r_owed, iI_eq, if_neg a]
  · rw [if_neg c]
    simp (disch := first | assumption | omega | exact W_fl W _ _ _ | exact W_fh W _ _ _ | exact W_rl W _ _ _ | exact W_rh W _ _ _ | exact WS_l Ws _ | exact WS_h Ws _) only [fX12_whyTake, g_12_6, k_12, l61, li_0, li_1, li_314, li_313, li_2, ob2, Option.bind_some, iI_add, r_canAct, bI_i0, ite_n, if_neg c]
theorem r_bitOf {f0 : Nat} {h : Hp} {a b : Int} (h0 : 0 ≤ a) (h1 : a < 2147483648) (h2 : 0 ≤ b) (h3 : b < 32) : fX12_bitOf f0 (iI a) (iI b) h = some (bI (bitI a b = true), h) := by
  simp (disch := first | assumption | omega) only [fX12_bitOf, li_31, li_1, li_0, Option.bind_some, iI_add, ii_bit, bI_i1]
  (repeat' split) <;> rename_i c
  · rw [zr_i1, bI_T c]
  · rw [zr_i0, bI_F c]
def whyLearnS (S : Int → Int) (m r : Int) : Int := if canS S then (if bitI (S (328 + m)) r = true then 2 else lateS S 3) else 1
theorem r_whyLearn {f0 : Nat} {Y : YS} {X : XS} {S : Int → Int} (g : GY Y) (W : WF X) (Ws : WS S) (h : 0 ≤ S 312 ∧ S 312 ≤ 999) (hk : ∀ i, 0 ≤ i → i < 8 → 0 ≤ S (328 + i) ∧ S (328 + i) < 64) {m r : Int} (m0 : 0 ≤ m) (m1 : m < 8) (r0 : 0 ≤ r) (r1 : r < 6) : fX12_whyLearn f0 (Ad Y 12 0) (iI m) (iI r) (hp Y (sR X 61 0 S)) = some (iI (whyLearnS S m r), hp Y (sR X 61 0 S)) := by
  unfold whyLearnS
  have k := hk m m0 m1
  by_cases c : canS S
  · rw [if_pos c]
    by_cases a : bitI (S (328 + m)) r = true
    · rw [if_pos a]
      simp (disch := first | assumption | omega | exact W_fl W _ _ _ | exact W_fh W _ _ _ | exact W_rl W _ _ _ | exact W_rh W _ _ _ | exact WS_l Ws _ | exact WS_h Ws _) only [fX12_whyLearn, g_12_6, k_12, l61, li_0, li_1, li_328, li_3, li_2, ob2, iI_add, Option.bind_some, r_canAct, bI_i0, ite_n, if_pos c, r_bitOf, if_pos a]
    · rw [if_neg a]
      simp (disch := first | assumption | omega | exact W_fl W _ _ _ | exact W_fh W _ _ _ | exact W_rl W _ _ _ | exact W_rh W _ _ _ | exact WS_l Ws _ | exact WS_h Ws _) only [fX12_whyLearn, g_12_6, k_12, l61, li_0, li_1, li_328, li_3, li_2, ob2, iI_add, Option.bind_some, r_canAct, bI_i0, ite_n, if_pos c, r_bitOf, if_neg a, r_late]
  · rw [if_neg c]
    simp (disch := first | assumption | omega | exact W_fl W _ _ _ | exact W_fh W _ _ _ | exact W_rl W _ _ _ | exact W_rh W _ _ _ | exact WS_l Ws _ | exact WS_h Ws _) only [fX12_whyLearn, g_12_6, k_12, l61, li_0, li_1, li_328, li_3, li_2, ob2, iI_add, Option.bind_some, r_canAct, bI_i0, ite_n, if_neg c]
def paintS (S : Int → Int) (s : Int) : Int → Int := upi (upi (upi (upi S 315 (S 314)) 314 s) 318 (ior (S 318) (pw s))) 312 (S 312 + 1)
theorem r_paints {f0 : Nat} {Y : YS} {X : XS} {S : Int → Int} (g : GY Y) (Ws : WS S) (W : WF X) (h : 0 ≤ S 312 ∧ S 312 ≤ 999) {s : Int} (s0 : 0 ≤ s) (s1 : s < 8) : fX12_paints f0 (Ad Y 12 0) (iI s) (hp Y (sR X 61 0 S)) = some (hp Y (sR X 61 0 (paintS S s))) := by
  have i1 := (ior_rg (S 318) (pw s)).1; have i2 := (ior_rg (S 318) (pw s)).2
  simp (disch := first | assumption | omega | exact W_fl W _ _ _ | exact W_fh W _ _ _ | exact W_rl W _ _ _ | exact W_rh W _ _ _ | exact WS_l Ws _ | exact WS_h Ws _) only [fX12_paints, g_12_6, l61, s61, li_314, li_315, li_318, li_1, li_31, li_312, iI_add, Option.bind_some, upi_eq, upi_ne, wr_id, ii_one, iI_or]
  rfl
def learnS (S : Int → Int) (p s d : Int) : Int → Int := if S (336 + (8 * s + p)) = 0 ∨ d + 1 < S (336 + (8 * s + p)) then upi S (336 + (8 * s + p)) (d + 1) else S
theorem r_learnsName {f0 : Nat} {Y : YS} {X : XS} {S : Int → Int} (g : GY Y) (W : WF X) (Ws : WS S) {p s d : Int} (p0 : 0 ≤ p) (p1 : p < 8) (s0 : 0 ≤ s) (s1 : s < 8) (d0 : 0 ≤ d) (d1 : d ≤ 999) : fX12_learnsName f0 (Ad Y 12 0) (iI p) (iI s) (iI d) (hp Y (sR X 61 0 S)) = some (hp Y (sR X 61 0 (learnS S p s d))) := by
  unfold learnS
  by_cases a : S (336 + (8 * s + p)) = 0
  · rw [if_pos (.inl a)]
    simp (disch := first | assumption | omega | exact W_fl W _ _ _ | exact W_fh W _ _ _ | exact W_rl W _ _ _ | exact W_rh W _ _ _ | exact WS_l Ws _ | exact WS_h Ws _) only [fX12_learnsName, bX12_learnsName_34, g_12_6, l61, li_336, li_0, li_1, ob2, iI_add, s61, Option.bind_some, r_cell, iI_eq, if_pos a, wr_id]
  · by_cases b : S (336 + (8 * s + p)) ≤ d + 1
    · rw [if_neg (by omega)]
      simp (disch := first | assumption | omega | exact W_fl W _ _ _ | exact W_fh W _ _ _ | exact W_rl W _ _ _ | exact W_rh W _ _ _ | exact WS_l Ws _ | exact WS_h Ws _) only [fX12_learnsName, bX12_learnsName_34, g_12_6, l61, li_336, li_0, li_1, ob2, iI_add, s61, Option.bind_some, r_cell, iI_eq, iI_le, if_neg a, if_pos b]
    · rw [if_pos (by omega)]
      simp (disch := first | assumption | omega | exact W_fl W _ _ _ | exact W_fh W _ _ _ | exact W_rl W _ _ _ | exact W_rh W _ _ _ | exact WS_l Ws _ | exact WS_h Ws _) only [fX12_learnsName, bX12_learnsName_34, g_12_6, l61, li_336, li_0, li_1, ob2, iI_add, s61, Option.bind_some, r_cell, iI_eq, iI_le, if_neg a, if_neg b, wr_id]
def takeS (S : Int → Int) : Int → Int := upi (upi S 316 (wr (S 316 + owS S (S 314) (S 313)))) (400 + (8 * S 314 + S 313)) 1
theorem r_takesAll {f0 : Nat} {Y : YS} {X : XS} {S : Int → Int} (g : GY Y) (W : WF X) (Ws : WS S) (hp1 : (0 ≤ S 313 ∧ S 313 < 8) ∧ 0 ≤ S 314 ∧ S 314 < 8) : fX12_takesAll f0 (Ad Y 12 0) (hp Y (sR X 61 0 S)) = some (hp Y (sR X 61 0 (takeS S))) := by
  have z : wr 1 = 1 := wr_id (by decide) (by decide)
  simp (disch := first | assumption | omega | exact W_fl W _ _ _ | exact W_fh W _ _ _ | exact W_rl W _ _ _ | exact W_rh W _ _ _ | exact WS_l Ws _ | exact WS_h Ws _) only [fX12_takesAll, g_12_6, k_12, l61, s61, li_316, li_314, li_313, li_400, li_1, ob2, iI_add, Option.bind_some, r_owed, r_cell, upi_ne, z]
  rfl
def teachS (S : Int → Int) (m r : Int) : Int → Int := upi (upi S (328 + m) (ior (S (328 + m)) (pw r))) 312 (S 312 + 3)
theorem r_learns {f0 : Nat} {Y : YS} {X : XS} {S : Int → Int} (g : GY Y) (W : WF X) (Ws : WS S) (h : 0 ≤ S 312 ∧ S 312 ≤ 999) {m r : Int} (m0 : 0 ≤ m) (m1 : m < 8) (r0 : 0 ≤ r) (r1 : r < 6) : fX12_learns f0 (Ad Y 12 0) (iI m) (iI r) (hp Y (sR X 61 0 S)) = some (hp Y (sR X 61 0 (teachS S m r))) := by
  have i1 := (ior_rg (S (328 + m)) (pw r)).1; have i2 := (ior_rg (S (328 + m)) (pw r)).2
  simp (disch := first | assumption | omega | exact W_fl W _ _ _ | exact W_fh W _ _ _ | exact W_rl W _ _ _ | exact W_rh W _ _ _ | exact WS_l Ws _ | exact WS_h Ws _) only [fX12_learns, g_12_6, l61, s61, li_328, li_1, li_31, li_312, li_3, iI_add, Option.bind_some, upi_eq, upi_ne, wr_id, ii_one, iI_or]
  rfl
theorem sumI_congr {r q : Int → Int} : ∀ {n : Nat}, (∀ i : Int, 0 ≤ i → i < (n : Int) → r i = q i) → sumI r n = sumI q n
  | 0, _ => rfl
  | n + 1, h => by
    rw [sumI, sumI, sumI_congr (fun i h0 h1 => h i h0 (by omega)), h n (by omega) (by omega)]
def sail5 (S : Int → Int) (p : Int) : Int → Int := upi (upi (upi (upi (upi S 312 (S 312 + S (8 + (8 * S 313 + p)))) 313 p) (320 + p) (S (320 + p) + 1)) 464 (ior (S 464) (pw p))) 319 (wr (S 319 + 1))
def seenS (q S : Int → Int) (p : Int) : Int → Int :=
  if knA q S p (S 314) ≤ S 312 then upi (upi S 317 1) 316 (wr (S 316 - sumI (fun k => S (136 + (8 * k + p))) (S 1).toNat))
  else if S 315 < 0 ∨ ¬ anyB (raB S p (S 312)) (S 7).toNat = true then S else learnS (learnS S p (S 314) (S 312)) p (S 315) (S 312)
theorem upi_upi {α : Type} (r : Int → α) (i : Int) (v w : α) : upi (upi r i v) i w = upi r i w := funext fun j => by
  rw [upi_at, upi_at, upi_at]; split <;> rfl
theorem wr_sub (a b : Int) : wr (wr a - b) = wr (a - b) := by
  unfold wr
  congr 1
  rw [← iI_sub, iI_of, iI_sub]
theorem learnS_o {S : Int → Int} {p s d i : Int} (h : i ≠ 336 + (8 * s + p)) : learnS S p s d i = S i := by
  unfold learnS; split
  · exact upi_ne S _ h
  · rfl
theorem learnS_ws {S : Int → Int} (Ws : WS S) {p s d : Int} (d0 : 0 ≤ d) (d1 : d ≤ 999) : WS (learnS S p s d) := by
  unfold learnS; split
  · exact WS_u Ws (by omega) (by omega)
  · exact Ws
theorem r_sails {f0 : Nat} {Y : YS} {X : XS} {S : Int → Int} (g : GY Y) (W : WF X) (Ws : WS S) (h0 : 0 ≤ S 0 ∧ S 0 ≤ 8) (h1 : 0 ≤ S 1 ∧ S 1 ≤ 8) (h7 : 0 ≤ S 7 ∧ S 7 ≤ 16) (hq : QR (XR X 67 0)) (hs : SR S) (h313 : 0 ≤ S 313 ∧ S 313 < 8) (h314 : 0 ≤ S 314 ∧ S 314 < 8) (h315 : -1 ≤ S 315 ∧ S 315 < 8) (h312 : 0 ≤ S 312) {p : Int} (p0 : 0 ≤ p) (p1 : p < 8) (hw : 0 ≤ S (8 + (8 * S 313 + p)) ∧ S 312 + S (8 + (8 * S 313 + p)) ≤ 999) (hc : 0 ≤ S (320 + p) ∧ S (320 + p) ≤ 999) (hf : 20 ≤ f0) : fX12_sails f0 (Ad Y 12 0) (iI p) (hp Y (sR X 61 0 S)) = some (hp Y (sR X 61 0 (seenS (XR X 67 0) (sail5 S p) p))) := by
  have i1 := (ior_rg (S 464) (pw p)).1; have i2 := (ior_rg (S 464) (pw p)).2
  have Ws5 : WS (sail5 S p) := WS_u (WS_u (WS_u (WS_u (WS_u Ws (by omega) (by omega)) (by omega) (by omega)) (by omega) (by omega)) i1 i2) (wr_rg _).1 (wr_rg _).2
  have o : ∀ i, i ≠ 312 → i ≠ 313 → i ≠ 320 + p → i ≠ 464 → i ≠ 319 → sail5 S p i = S i := fun i a1 a2 a3 a4 a5 => by
    unfold sail5; rw [upi_ne _ _ a5, upi_ne _ _ a4, upi_ne _ _ a3, upi_ne _ _ a2, upi_ne _ _ a1]
  have e312 : sail5 S p 312 = S 312 + S (8 + (8 * S 313 + p)) := by
    unfold sail5; simp (disch := omega) only [upi_ne, upi_eq]
  have e0 : sail5 S p 0 = S 0 := o 0 (by omega) (by omega) (by omega) (by omega) (by omega)
  have e1 : sail5 S p 1 = S 1 := o 1 (by omega) (by omega) (by omega) (by omega) (by omega)
  have e7 : sail5 S p 7 = S 7 := o 7 (by omega) (by omega) (by omega) (by omega) (by omega)
  have e314 : sail5 S p 314 = S 314 := o 314 (by omega) (by omega) (by omega) (by omega) (by omega)
  have e315 : sail5 S p 315 = S 315 := o 315 (by omega) (by omega) (by omega) (by omega) (by omega)
  have g0 : 0 ≤ sail5 S p 0 ∧ sail5 S p 0 ≤ 8 := by rw [e0]; exact h0
  have g1 : 0 ≤ sail5 S p 1 ∧ sail5 S p 1 ≤ 8 := by rw [e1]; exact h1
  have g7 : 0 ≤ sail5 S p 7 ∧ sail5 S p 7 ≤ 16 := by rw [e7]; exact h7
  have gs : SR (sail5 S p) := fun i i0 i6 => by rw [o _ (by omega) (by omega) (by omega) (by omega) (by omega)]; exact hs i i0 i6
  have w1 := hw.1; have w2 := hw.2
  have hk : 0 ≤ knA (XR X 67 0) (sail5 S p) p (sail5 S p 314) ∧ knA (XR X 67 0) (sail5 S p) p (sail5 S p 314) ≤ 1000000 := knF_rg hq p0 p1 _ (by omega)
  have five : upi (upi (upi (upi (upi S 312 (S 312 + S (8 + (8 * S 313 + p)))) 313 p) (320 + p) (S (320 + p) + 1)) 464 (ior (S 464) (pw p))) 319 (wr (S 319 + 1)) = sail5 S p := rfl
  have coin : ∀ (S : Int → Int), WS S → (0 ≤ S 1 ∧ S 1 ≤ 8) → bX12_sails_115 f0 f0 (Ad Y 12 0) (iI p) (iI 0) (hp Y (sR X 61 0 S)) = some (hp Y (sR X 61 0 (upi S 316 (wr (S 316 - sumI (fun k => S (136 + (8 * k + p))) (S 1).toNat))))) := by
    intro S Ws hh1
    have e0 : sR X 61 0 S = sR X 61 0 (upi S 316 (wr (S 316 - sumI (fun k => S (136 + (8 * k + p))) (0 : Int).toNat))) := by
      congr 1
      funext j
      rw [upi_at]; split
      · rename_i c
        rw [c, show sumI (fun k => S (136 + (8 * k + p))) (0 : Int).toNat = 0 from rfl, Int.sub_zero, wr_id (Ws 316).1 (Ws 316).2]
      · rfl
    rw [e0]
    refine lp (fun f (i : Int) => bX12_sails_115 f0 f (Ad Y 12 0) (iI p) (iI i) (hp Y (sR X 61 0 (upi S 316 (wr (S 316 - sumI (fun k => S (136 + (8 * k + p))) i.toNat)))))) (fun i => 0 ≤ i ∧ i ≤ S 1) (fun i => (17 - i).toNat) (fun r => r = _) ?_ f0 0 ⟨by omega, by omega⟩ (by omega)
    intro f i ⟨hi, hi2⟩
    by_cases c : S 1 ≤ i
    · left
      simp (disch := first | assumption | omega | exact W_fl W _ _ _ | exact W_fh W _ _ _ | exact W_rl W _ _ _ | exact W_rh W _ _ _ | exact WS_l Ws _ | exact WS_h Ws _) only [bX12_sails_115, g_12_6, l61, s61, li_0, li_1, li_316, li_136, ob2, iI_add, iI_sub, Option.bind_some, upi_ne, iI_le, if_pos c]
      rw [show i = S 1 by omega]
    · right
      refine ⟨i + 1, ?_, ⟨by omega, by omega⟩, by omega⟩
      rw [sumI_s hi]
      simp (disch := first | assumption | omega | exact W_fl W _ _ _ | exact W_fh W _ _ _ | exact W_rl W _ _ _ | exact W_rh W _ _ _ | exact WS_l Ws _ | exact WS_h Ws _) only [bX12_sails_115, g_12_6, l61, s61, li_0, li_1, li_316, li_136, ob2, iI_add, iI_sub, Option.bind_some, upi_ne, upi_eq, upi_upi, r_cell, iI_le, if_neg c, wr_sub]
      congr 5
      omega
  unfold seenS
  by_cases a : knA (XR X 67 0) (sail5 S p) p (sail5 S p 314) ≤ sail5 S p 312
  · rw [if_pos a]
    have a' : ¬ sail5 S p 312 < knA (XR X 67 0) (sail5 S p) p (sail5 S p 314) := by omega
    have c1 := coin (upi (sail5 S p) 317 1) (WS_u Ws5 (by decide) (by decide)) (by rw [upi_ne _ _ (by decide)]; exact g1)
    have z : wr 1 = 1 := wr_id (by decide) (by decide)
    simp (disch := first | omega | exact Ws5 _ |>.1 | exact Ws5 _ |>.2 | first | assumption | omega | exact W_fl W _ _ _ | exact W_fh W _ _ _ | exact W_rl W _ _ _ | exact W_rh W _ _ _ | exact WS_l Ws _ | exact WS_h Ws _) only [fX12_sails, g_12_6, k_12, l61, s61, li_312, li_313, li_8, li_320, li_1, li_464, li_31, li_319, li_314, li_315, li_0, li_317, ob2, iI_add, Option.bind_some, r_cell, upi_eq, upi_ne, wr_id, ii_one, iI_or, five, r_knowsFrom, iI_lt, if_neg a', z, c1]
    rw [sumI_congr (q := fun k => sail5 S p (136 + (8 * k + p))) (fun i j0 j1 => upi_ne _ _ (by omega))]
  · rw [if_neg a]
    have a' : sail5 S p 312 < knA (XR X 67 0) (sail5 S p) p (sail5 S p 314) := by omega
    by_cases b : sail5 S p 315 < 0
    · rw [if_pos (.inl b)]
      simp (disch := first | omega | exact Ws5 _ |>.1 | exact Ws5 _ |>.2 | first | assumption | omega | exact W_fl W _ _ _ | exact W_fh W _ _ _ | exact W_rl W _ _ _ | exact W_rh W _ _ _ | exact WS_l Ws _ | exact WS_h Ws _) only [fX12_sails, g_12_6, k_12, l61, s61, li_312, li_313, li_8, li_320, li_1, li_464, li_31, li_319, li_314, li_315, li_0, li_317, ob2, iI_add, Option.bind_some, r_cell, upi_eq, upi_ne, wr_id, ii_one, iI_or, five, r_knowsFrom, iI_lt, if_pos a', if_pos b]
    · by_cases c : anyB (raB (sail5 S p) p (sail5 S p 312)) (sail5 S p 7).toNat = true
      · rw [if_neg (by simp only [c, not_true_eq_false, or_false]; exact b)]
        have wl := learnS_ws Ws5 (p := p) (s := sail5 S p 314) (d := sail5 S p 312) (by omega) (by omega)
        have l315 : learnS (sail5 S p) p (sail5 S p 314) (sail5 S p 312) 315 = sail5 S p 315 := learnS_o (by omega)
        have l312 : learnS (sail5 S p) p (sail5 S p 314) (sail5 S p 312) 312 = sail5 S p 312 := learnS_o (by omega)
        simp (disch := first | omega | exact Ws5 _ |>.1 | exact Ws5 _ |>.2 | first | assumption | omega | exact W_fl W _ _ _ | exact W_fh W _ _ _ | exact W_rl W _ _ _ | exact W_rh W _ _ _ | exact WS_l Ws _ | exact WS_h Ws _) only [fX12_sails, g_12_6, k_12, l61, s61, li_312, li_313, li_8, li_320, li_1, li_464, li_31, li_319, li_314, li_315, li_0, li_317, ob2, iI_add, Option.bind_some, r_cell, upi_eq, upi_ne, wr_id, ii_one, iI_or, five, r_knowsFrom, iI_lt, if_pos a', if_neg b, r_isRain, bI_i0, ite_n, if_pos c, r_learnsName, l315, l312]
      · rw [if_pos (.inr c)]
        simp (disch := first | omega | exact Ws5 _ |>.1 | exact Ws5 _ |>.2 | first | assumption | omega | exact W_fl W _ _ _ | exact W_fh W _ _ _ | exact W_rl W _ _ _ | exact W_rh W _ _ _ | exact WS_l Ws _ | exact WS_h Ws _) only [fX12_sails, g_12_6, k_12, l61, s61, li_312, li_313, li_8, li_320, li_1, li_464, li_31, li_319, li_314, li_315, li_0, li_317, ob2, iI_add, Option.bind_some, r_cell, upi_eq, upi_ne, wr_id, ii_one, iI_or, five, r_knowsFrom, iI_lt, if_pos a', if_neg b, r_isRain, bI_i0, ite_n, if_neg c]
