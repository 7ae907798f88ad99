/-! WHAT HOLDS BETWEEN CALLS -/
def iniW (n : Int) (r : Int → Int) : Int → Int := fun i => if i / 8 = i % 8 ∧ i / 8 < n then 0 else if r i = 0 then 1000000 else r i
def frs (S : Int → Int) : Int → Int := fwG 8 8 (iniW 8 (fun i => S (8 + i)))
def pst (S : Int → Int) : Int → Int := fwG 8 8 (iniW 8 (fun i => S (72 + i)))
def PostW (X : XS) (S : Int → Int) : Prop := ∀ i, 0 ≤ i → i < 64 → XR X 66 0 i = frs S i ∧ XR X 67 0 i = pst S i
def SeaW (X : XS) (j : Nat) : Prop := ∀ a b, 0 ≤ a → a < XR X 25 j 0 → 0 ≤ b → b < XR X 25 j 0 → XR X 34 j (8 * a + b) = fwG (XR X 25 j 0) (XR X 25 j 0).toNat (iniW (XR X 25 j 0) (XR X 26 j)) (8 * a + b) ∧ XR X 35 j (8 * a + b) = fwG (XR X 25 j 0) (XR X 25 j 0).toNat (iniW (XR X 25 j 0) (XR X 27 j)) (8 * a + b)
/-- nothing is told of what isn't there; ways go both ways -/
def ZeS (S : Int → Int) : Prop :=
  (∀ a b, 0 ≤ a → a < 8 → 0 ≤ b → b < 8 → (S 0 ≤ a ∨ S 0 ≤ b → S (8 + (8 * a + b)) = 0 ∧ S (72 + (8 * a + b)) = 0) ∧ (S 1 ≤ a ∨ S 0 ≤ b → S (136 + (8 * a + b)) = 0) ∧ S (8 + (8 * a + b)) = S (8 + (8 * b + a)) ∧ (0 ≤ S (72 + (8 * a + b)) ∧ S (72 + (8 * a + b)) ≤ 40)) ∧
  ∀ s, 0 ≤ s → s < 8 → ∀ r : Nat, (S (264 + s)).toNat.testBit r = true → (r : Int) < S 2
def SeaI (X : XS) (j : Nat) (S : Int → Int) : Prop := CSea X j ∧ SeaR X j S ∧ (∀ i, 0 ≤ i → i < 8 → 0 ≤ XR X 31 j i ∧ XR X 31 j i < 64) ∧ ZeS S ∧ SeaW X j
/-- the sorts of names, here and there -/
def nbS (s : Int) : Int := if s = 0 then 0 else if s = 3 then 8 else if s = 4 then 16 else 22
def ncS (S : Int → Int) (s : Int) : Int := if s = 0 then S 0 else if s = 3 then S 1 else if s = 4 then S 2 else S 3
abbrev isN (s : Int) : Prop := s = 0 ∨ s = 3 ∨ s = 4 ∨ s = 5
def NamI (w : Int → Int64) (so nu : Int → Int) (n : Int) (S : Int → Int) (nm : Int → Int64) : Prop :=
  (0 ≤ n ∧ n = S 0 + S 1 + S 2 + S 3) ∧
  (∀ i, 0 ≤ i → i < n → isN (so i) ∧ (0 ≤ nu i ∧ nu i < ncS S (so i)) ∧ WR (w i) (nm (nbS (so i) + nu i))) ∧
  (∀ s k, isN s → 0 ≤ k → k < ncS S s → ∃ i, 0 ≤ i ∧ i < n ∧ so i = s ∧ nu i = k) ∧
  ∀ i i', 0 ≤ i → i < n → 0 ≤ i' → i' < n → w i = w i' → i = i'
abbrev NamX (X : XS) (j : Nat) (S : Int → Int) (nm : Int → Int64) : Prop := NamI (XJ X 22 j) (XR X 23 j) (XR X 24 j) (XF X 3 j 3) S nm
/-- a sentence -/
def cdR (s : Int) : Int := if s = 18 then 20 else if s = 17 then 21 else if s = 16 then 22 else s - 19
def hgS (st : Int → Int) : Nat → Int
  | 0 => 0
  | n + 1 => hgS st n + (if st n = 18 then 0 else if st n = 17 ∨ st n = 16 then -1 else 1)
def stO (st sg va : Int → Int) (S : Int → Int) (i : Nat) : Prop :=
  (16 ≤ st i ∧ st i ≤ 26) ∧ (st i = 18 → 1 ≤ hgS st i) ∧ (st i = 17 ∨ st i = 16 → 2 ≤ hgS st i) ∧ (st i = 22 → 0 ≤ va i ∧ va i < S 1) ∧ (st i = 23 → 0 ≤ va i ∧ va i < S 0) ∧ (24 ≤ st i → (60 ≤ sg i ∧ sg i ≤ 62) ∧ 0 ≤ va i ∧ va i ≤ 999)
def SntI (st sg va : Int → Int) (n : Int) (S : Int → Int) : Prop :=
  S 465 = n ∧ (0 ≤ n ∧ n ≤ 40) ∧ ∀ i : Nat, (i : Int) < n → (cdR (st i) = S (466 + 3 * i) ∧ sg i = S (467 + 3 * i) ∧ va i = S (468 + 3 * i)) ∧ stO st sg va S i
abbrev SntX (X : XS) (j : Nat) (S : Int → Int) : Prop := SntI (XR X 36 j) (XR X 37 j) (XR X 38 j) (XF X 8 j 3) S
/-- a ship, beside a row of the reference -/
abbrev CDn (n m : Int) (d : D5) : Prop :=
  (0 ≤ d.1 1 ∧ d.1 1 ≤ 999) ∧ (0 < n ∧ 0 < m → (0 ≤ d.1 2 ∧ d.1 2 < n) ∧ (0 ≤ d.1 3 ∧ d.1 3 < m)) ∧ (-1 ≤ d.1 4 ∧ (d.1 4 = -1 ∨ d.1 4 < m)) ∧ (d.1 6 = 0 ∨ d.1 6 = 1) ∧
  (∀ i, 0 ≤ i → i < 8 → 0 ≤ d.2.1 i ∧ d.2.1 i ≤ d.1 1) ∧ (∀ i, 0 ≤ i → i < 8 → 0 ≤ d.2.2.1 i ∧ d.2.2.1 i < 256) ∧ (∀ i, 0 ≤ i → i < 8 → 0 ≤ d.2.2.2.1 i ∧ d.2.2.2.1 i < 64) ∧ (∀ i, 0 ≤ i → i < 64 → 0 ≤ d.2.2.2.2 i ∧ d.2.2.2.2 i ≤ 1000000)
theorem CD_n {X : XS} {d : D5} : CD X d = CDn (XR X 25 0 0) (XR X 25 0 3) d := rfl
def RelQ (q : Int → Int) (d : D5) (S : Int → Int) : Prop := RelS (sR ((fun _ _ _ => 0), (fun _ _ _ => 0), (fun _ _ _ => 0), (fun _ => 0), (fun _ => false)) 67 0 q) d S
theorem Rel_q {X : XS} {d : D5} {S : Int → Int} : RelS X d S = RelQ (XR X 67 0) d S := rfl
theorem knF_q {q q' S : Int → Int} {p s : Int} (p0 : 0 ≤ p) (p8 : p < 8) : ∀ {n : Nat}, n ≤ 8 → (∀ i, 0 ≤ i → i < 64 → q i = q' i) → knF q S p s n = knF q' S p s n
  | 0, _, _ => rfl
  | n + 1, hn, h => by rw [knF, knF, knF_q p0 p8 (by omega) h, h (8 * n + p) (by omega) (by omega)]
theorem Rel_qq {q q' S : Int → Int} {d : D5} (h8 : S 0 ≤ 8) (h : ∀ i, 0 ≤ i → i < 64 → q i = q' i) (r : RelQ q d S) : RelQ q' d S := by
  obtain ⟨a, b, b', c, k, r, t, u⟩ := r
  refine ⟨a, b, b', c, fun p s p0 p1 s0 s1 => ?_, r, t, u⟩
  rw [k p s p0 p1 s0 s1]
  exact knF_q p0 (by omega) (by omega) h
/-- s with the ship of another row -/
def blk (S u : Int → Int) (o : Int) : Int → Int := fun j => if 312 ≤ j ∧ j < 465 then u (o + (j - 312)) else S j
def ShpI (X : XS) (S : Int → Int) : Prop :=
  (∀ i, i < 10 → XP X i < 10) ∧ (∀ i j, i < 10 → j < 10 → XP X i = XP X j → i = j) ∧ (∀ k, XF X 10 k 6 = 0 ∨ XF X 10 k 6 = 1) ∧
  (CD X (shG X (XP X 0)) ∧ RelS X (shG X (XP X 0)) S) ∧
  (XF X 11 0 14 = XF X 12 0 29 ∧ 0 ≤ XF X 11 0 14 ∧ XF X 11 0 14 ≤ 8) ∧
  ∀ i : Nat, (i : Int) < XF X 11 0 14 → CD X (shG X (XP X (2 + i))) ∧ RelS X (shG X (XP X (2 + i))) (blk S (XR X 71 0) (153 * i))
def TapI (X : XS) : Prop := (∀ i, 0 ≤ i → i < 940 → XR X 20 0 i = XR X 60 0 i ∧ -128 ≤ XR X 20 0 i ∧ XR X 20 0 i < 128) ∧ (0 ≤ XF X 11 0 1 ∧ XF X 11 0 1 ≤ 940) ∧ XF X 11 0 1 = XF X 12 0 2
def LogI (X : XS) : Prop := (XF X 2 0 6 = XF X 12 0 38 ∧ (XF X 2 0 6 = 0 ∨ XF X 2 0 6 = 1)) ∧ (XF X 2 0 6 = 1 → XF X 2 0 7 = XR X 76 0 0 ∧ XF X 2 0 8 = XR X 76 0 1 ∧ XF X 2 0 9 = XR X 76 0 2 ∧ XF X 2 0 10 = XR X 76 0 3 ∧ (XF X 2 0 10 = 0 ∨ XF X 2 0 10 = 1))
abbrev kpS (X : XS) (k : Nat) : Int → Int := fun j => XR X 79 0 (646 * k + j)
abbrev kpN (X : XS) (k : Nat) : Int → Int64 := fun j => XJ X 80 0 (30 * k + j)
/-- an image that is not there yet: nothing of it lies in the heap -/
def ImN (Y : YS) (k : Nat) : Prop := ((1, k) ∉ Y.2 ∧ (∀ s ∈ [3, 6, 22, 23, 24, 25, 26, 27, 28, 29, 30, 31, 32, 33, 34, 35, 8, 36, 37, 38, 39], (s, k + 2) ∉ Y.2) ∧ ∀ s ∈ [10, 43, 44, 45, 46], (s, k + 10) ∉ Y.2) ∧ ∀ j, (48, j) ∈ Y.2 → j = 0
def ImgI (Y : YS) (X : XS) (k : Nat) : Prop := ((XR X 81 0 k = if XM X k = true then 1 else 0) ∧ (XM X k = false → ImN Y k)) ∧ (XM X k = true → (ImO Y k ∧ SeO Y (k + 2) ∧ ShO Y (k + 10) ∧ StO Y (k + 2)) ∧ SeaI X (k + 2) (kpS X k) ∧ NamX X (k + 2) (kpS X k) (kpN X k) ∧ SntX X (k + 2) (kpS X k) ∧ CDn (XR X 25 (k + 2) 0) (XR X 25 (k + 2) 3) (shG X (k + 10)) ∧ RelQ (pst (kpS X k)) (shG X (k + 10)) (kpS X k))
def wds : List (List Nat) := [[112, 111, 114, 116], [119, 97, 121], [109, 97, 105, 108], [115, 104, 105, 112], [114, 111, 108, 101], [109, 97, 110], [114, 97, 105, 110], [112, 97, 114, 114, 111, 116], [119, 97, 110, 116, 101, 100], [111, 119, 101, 100], [110, 101, 101, 100, 115], [115, 97, 105, 108, 115], [112, 97, 105, 110, 116, 115], [119, 97, 105, 116, 115], [116, 97, 107, 101, 115], [108, 101, 97, 114, 110, 115], [111, 114], [97, 110, 100], [110, 111, 116], [104, 101, 114, 101], [98, 101, 101, 110], [115, 97, 102, 101], [107, 110, 111, 119, 115], [104, 101, 97, 114, 115], [102, 97, 114], [110, 97, 109, 101, 115], [110, 117, 109, 98, 101, 114]]
def wdB (i j : Nat) : Nat := (wds.getD i []).getD j 0
def wdL (i : Nat) : Nat := (wds.getD i []).length
def prm (i : Nat) : Nat := ([0, 1, 2, 3, 6, 8, 9, 10, 4, 5, 7, 11, 12, 13, 14, 15, 16, 17, 18, 19, 20, 21, 22, 23, 24, 25, 26] : List Nat).getD i 0
def ResI (X : XS) : Prop := ∀ i : Nat, i < 27 → XJ X 21 0 (i : Int) = jN (v5 (wdB i) (wdL i)) ∧ XJ X 65 0 (prm i : Int) = jN (v8 (wdB i) (wdL i))
theorem wd_ok : ∀ i, i < 27 → (1 ≤ wdL i ∧ wdL i ≤ 7) ∧ ∀ j, j < wdL i → 97 ≤ wdB i j ∧ wdB i j ≤ 122 := by decide +kernel
theorem prm_ex : ∀ k, k < 27 → ∃ i, i < 27 ∧ prm i = k := by decide +kernel
theorem prm_lt : ∀ i, i < 27 → prm i < 27 := by decide +kernel
theorem WR_res {i : Nat} (h : i < 27) : WR (jN (v5 (wdB i) (wdL i))) (jN (v8 (wdB i) (wdL i))) := ⟨wdL i, wdB i, (wd_ok i h).1, (wd_ok i h).2, rfl, rfl⟩
def Inv2 (Y : YS) (X : XS) : Prop :=
  TapI X ∧ ResI X ∧ XF X 11 0 3 = XF X 12 0 15 ∧ SeaI X 0 (XR X 61 0) ∧ NamX X 0 (XR X 61 0) (XJ X 64 0) ∧ PostW X (XR X 61 0) ∧ ShpI X (XR X 61 0) ∧ SntX X 0 (XR X 61 0) ∧ LogI X ∧ ImgI Y X 0 ∧ ImgI Y X 1
def Inv (Y : YS) (X : XS) : Prop := (GY Y ∧ U11 Y) ∧ WF X ∧ Inv2 Y X
