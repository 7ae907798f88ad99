/-! SHORTEST SUMS: the class's, and the reference's -/
def ini0 (r q : Int → Int) (m : Int) : Int → Int := fun j => if 0 ≤ j ∧ j < m then (if r j = 0 then 1000000 else r j) else q j
theorem ini0_0 {r q : Int → Int} : ini0 r q 0 = q := funext fun j => by unfold ini0; rw [if_neg (by omega)]
theorem ini0_s {r q : Int → Int} {m v : Int} (m0 : 0 ≤ m) (hv : v = if r m = 0 then 1000000 else r m) : upi (ini0 r q m) m v = ini0 r q (m + 1) := funext fun j => by
  rw [upi_at]; unfold ini0
  by_cases e : j = m
  · rw [if_pos e, if_pos (by omega), e, hv]
  · rw [if_neg e]
    by_cases c : 0 ≤ j ∧ j < m
    · rw [if_pos c, if_pos (show 0 ≤ j ∧ j < m + 1 by omega)]
    · rw [if_neg c, if_neg (show ¬ (0 ≤ j ∧ j < m + 1) by omega)]
def dgT (R : Int → Int) (p : Int) : Int → Int := fun j => if 0 ≤ j ∧ j / 8 = j % 8 ∧ j / 8 < p then 0 else R j
theorem dgT_0 {R : Int → Int} : dgT R 0 = R := funext fun j => by unfold dgT; rw [if_neg (by omega)]
theorem dgT_s {R : Int → Int} {p : Int} (p0 : 0 ≤ p) (p8 : p < 8) : upi (dgT R p) (8 * p + p) 0 = dgT R (p + 1) := funext fun j => by
  rw [upi_at]; unfold dgT
  by_cases e : j = 8 * p + p
  · rw [if_pos e, if_pos (by omega)]
  · rw [if_neg e]
    by_cases c : 0 ≤ j ∧ j / 8 = j % 8 ∧ j / 8 < p
    · rw [if_pos c, if_pos (by omega)]
    · rw [if_neg c, if_neg (by omega)]
theorem dgT_ini {r q : Int → Int} {n : Int} : ∀ i, 0 ≤ i → i < 64 → dgT (ini0 r q 64) n i = iniW n r i := fun i i0 i1 => by
  unfold dgT ini0 iniW
  by_cases c : i / 8 = i % 8 ∧ i / 8 < n
  · rw [if_pos ⟨i0, c⟩, if_pos c]
  · rw [if_neg (fun z => c z.2), if_neg c, if_pos ⟨i0, i1⟩]
theorem FB_c {n : Int} {r r' : Int → Int} (n8 : n ≤ 8) (h : ∀ i, 0 ≤ i → i < 64 → r' i = r i) (b : FB n r) : FB n r' := fun a c a0 an c0 cn => by rw [h (8 * a + c) (by omega) (by omega)]; exact b a c a0 an c0 cn
theorem i8 (a b : Int) : a * 8 + b = 8 * a + b := by omega
theorem e_short_26 {f0 : Nat} {Y : YS} {X : XS} {n : Int} (g : GY Y) (hn : XR X 25 1 0 = n) (n0 : 0 ≤ n) (n8 : n ≤ 8) (hr : ∀ i, 0 ≤ i → i < 64 → 0 ≤ XR X 26 1 i ∧ XR X 26 1 i ≤ 1000) (hf : 200 ≤ f0) : fX6_shortest f0 (Ad Y 6 1) (Ad Y 26 1) (Ad Y 34 1) (hp Y X) = some (hp Y (sR X 34 1 (fwG n n.toNat (dgT (ini0 (XR X 26 1) (XR X 34 1) 64) n)))) := by
  have g1 := SeO_1 g
  obtain ⟨q, hq⟩ : ∃ q, q = XR X 34 1 := ⟨_, rfl⟩
  obtain ⟨r, hrr⟩ : ∃ r, r = XR X 26 1 := ⟨_, rfl⟩
  rw [← hq, ← hrr]
  rw [← hrr] at hr
  have z : fX6_shortest f0 (Ad Y 6 1) (Ad Y 26 1) (Ad Y 34 1) (hp Y X) = bX6_shortest_10 f0 f0 (Ad Y 26 1) (Ad Y 34 1) (iI n) (iI 0) (hp Y (sR X 34 1 (ini0 r q 0))) := by
    rw [ini0_0, hq, sR_self]
    simp (disch := first | assumption | omega) only [fX6_shortest, g_6_1, l_25, li_0, Option.bind_some, iI_add, hn]
  rw [z]
  have x2 : ∀ t, XR (sR X 34 1 t) 34 1 = t := fun t => rfl
  have x1 : ∀ t, XR (sR X 34 1 t) 26 1 = r := fun t => hrr.symm
  obtain ⟨T, hT⟩ : ∃ T, T = dgT (ini0 r q 64) n := ⟨_, rfl⟩
  have B0 : FB n T := by rw [hT]; exact FB_c n8 dgT_ini (ini_FB (m := n) (by omega) hr n8)
  have s3 : bX6_shortest_72 f0 f0 (Ad Y 34 1) (iI n) (iI 0) (hp Y (sR X 34 1 T)) = some (hp Y (sR X 34 1 (fwG n n.toNat T))) := by
    refine lp (fun f (k : Nat) => bX6_shortest_72 f0 f (Ad Y 34 1) (iI n) (iI (k : Int)) (hp Y (sR X 34 1 (fwG n k T)))) (fun k => (k : Int) ≤ n) (fun k => 9 - k) (fun z => z = _) ?_ f0 0 (by show ((0 : Nat) : Int) ≤ n; omega) (by omega)
    intro f k hk
    by_cases c : n ≤ (k : Int)
    · left
      simp (disch := first | assumption | omega) only [bX6_shortest_72, li_0, li_1, iI_add, Option.bind_some, iI_le, if_pos c]
      rw [show k = n.toNat by omega]
    · right
      refine ⟨k + 1, ?_, by omega, by omega⟩
      have Bk := (fwG_all n8 B0 k (by omega)).1
      obtain ⟨R, hR⟩ : ∃ R, R = fwG n k T := ⟨_, rfl⟩
      have eR : fwG n (k + 1) T = fwS n k R := by rw [hR]; rfl
      rw [← hR] at Bk
      rw [eR, ← hR, show ((k + 1 : Nat) : Int) = (k : Int) + 1 by omega]
      have s2 : bX6_shortest_72 f0 (f + 1) (Ad Y 34 1) (iI n) (iI (k : Int)) (hp Y (sR X 34 1 R)) = bX6_shortest_81 f0 (bX6_shortest_72 f0 f) f0 (Ad Y 34 1) (iI n) (iI (k : Int)) (iI 0) (hp Y (sR X 34 1 (fwP n k 0 0 R))) := by
        rw [fwP_0]
        simp (disch := first | assumption | omega) only [bX6_shortest_72, li_0, li_1, iI_add, Option.bind_some, iI_le, if_neg c]
      rw [s2]
      refine lp (fun f' (p : Int) => bX6_shortest_81 f0 (bX6_shortest_72 f0 f) f' (Ad Y 34 1) (iI n) (iI (k : Int)) (iI p) (hp Y (sR X 34 1 (fwP n k p 0 R)))) (fun p => 0 ≤ p ∧ p ≤ n) (fun p => (9 - p).toNat) (fun z => z = _) ?_ f0 0 ⟨by omega, by omega⟩ (by show (9 - (0 : Int)).toNat < f0; omega)
      rintro f' p ⟨p0, p1⟩
      by_cases d : n ≤ p
      · left
        simp (disch := first | assumption | omega) only [bX6_shortest_81, li_0, li_1, iI_add, Option.bind_some, iI_le, if_pos d]
        rw [show p = n by omega, fwP_end]
      · right
        refine ⟨p + 1, ?_, ⟨by omega, by omega⟩, by show (9 - (p + 1)).toNat < (9 - p).toNat; omega⟩
        have s1 : bX6_shortest_81 f0 (bX6_shortest_72 f0 f) (f' + 1) (Ad Y 34 1) (iI n) (iI (k : Int)) (iI p) (hp Y (sR X 34 1 (fwP n k p 0 R))) = bX6_shortest_90 f0 (bX6_shortest_72 f0 f) (bX6_shortest_81 f0 (bX6_shortest_72 f0 f) f') f0 (Ad Y 34 1) (iI n) (iI (k : Int)) (iI p) (iI 0) (hp Y (sR X 34 1 (fwP n k p 0 R))) := by
          simp (disch := first | assumption | omega) only [bX6_shortest_81, li_0, li_1, iI_add, Option.bind_some, iI_le, if_neg d]
        rw [s1]
        refine lp (fun f2 (b : Int) => bX6_shortest_90 f0 (bX6_shortest_72 f0 f) (bX6_shortest_81 f0 (bX6_shortest_72 f0 f) f') f2 (Ad Y 34 1) (iI n) (iI (k : Int)) (iI p) (iI b) (hp Y (sR X 34 1 (fwP n k p b R)))) (fun b => 0 ≤ b ∧ b ≤ n) (fun b => (9 - b).toNat) (fun z => z = _) ?_ f0 0 ⟨by omega, by omega⟩ (by show (9 - (0 : Int)).toNat < f0; omega)
        rintro f2 b ⟨b0, b1⟩
        by_cases e : n ≤ b
        · left
          simp (disch := first | assumption | omega) only [bX6_shortest_90, li_0, li_1, li_8, iI_add, iI_mul, Option.bind_some, iI_le, if_pos e]
          rw [show b = n by omega, fwP_row]
        · right
          refine ⟨b + 1, ?_, ⟨by omega, by omega⟩, by show (9 - (b + 1)).toNat < (9 - b).toNat; omega⟩
          have kk : R (8 * (k : Int) + k) = 0 := (Bk k k (by omega) (by omega) (by omega) (by omega)).2.1 rfl
          have nn : ∀ a, 0 ≤ a → a < n → 0 ≤ R (8 * a + k) ∧ 0 ≤ R (8 * (k : Int) + a) := fun a a0 an => ⟨(Bk a k a0 an (by omega) (by omega)).1.1, (Bk k a (by omega) (by omega) a0 an).1.1⟩
          have v1 := (fwP_kk (a0 := p) (b0 := b) kk nn (by omega) (by omega) n8 p0 (by omega)).1
          have v2 := (fwP_kk (a0 := p) (b0 := b) kk nn (by omega) (by omega) n8 b0 (by omega)).2
          have v3 : fwP n k p b R (8 * p + b) = R (8 * p + b) := by unfold fwP; rw [if_neg (by omega)]
          have r1 := (Bk p k p0 (by omega) (by omega) (by omega)).1
          have r2 := (Bk k b (by omega) (by omega) b0 (by omega)).1
          have r3 := (Bk p b p0 (by omega) b0 (by omega)).1
          rw [← fwP_s n8 p0 (by omega) b0 (by omega) _ rfl]
          simp (disch := first | assumption | omega) only [bX6_shortest_90, li_0, li_1, li_8, iI_add, iI_mul, Option.bind_some, l_34, s_34, iI_le, if_neg e, x2, i8, v1, v2, v3, iI_lt, iI_ite, sR_sR]
          rfl
  have s2 : bX6_shortest_46 f0 f0 (Ad Y 34 1) (iI n) (iI 0) (hp Y (sR X 34 1 (dgT (ini0 r q 64) 0))) = some (hp Y (sR X 34 1 (fwG n n.toNat T))) := by
    refine lp (fun f (p : Int) => bX6_shortest_46 f0 f (Ad Y 34 1) (iI n) (iI p) (hp Y (sR X 34 1 (dgT (ini0 r q 64) p)))) (fun p => 0 ≤ p ∧ p ≤ n) (fun p => (9 - p).toNat) (fun z => z = _) ?_ f0 0 ⟨by omega, by omega⟩ (by show (9 - (0 : Int)).toNat < f0; omega)
    rintro f p ⟨p0, p1⟩
    by_cases c : n ≤ p
    · left
      rw [← s3, hT]
      simp (disch := first | assumption | omega) only [bX6_shortest_46, li_0, li_1, li_8, iI_add, iI_mul, Option.bind_some, iI_le, if_pos c]
      rw [show p = n by omega]
    · right
      refine ⟨p + 1, ?_, ⟨by omega, by omega⟩, by show (9 - (p + 1)).toNat < (9 - p).toNat; omega⟩
      rw [← dgT_s p0 (by omega)]
      simp (disch := first | assumption | omega) only [bX6_shortest_46, li_0, li_1, li_8, iI_add, iI_mul, Option.bind_some, l_34, s_34, iI_le, if_neg c, x2, i8, sR_sR]
  rw [hT] at s2
  refine lp (fun f (i : Int) => bX6_shortest_10 f0 f (Ad Y 26 1) (Ad Y 34 1) (iI n) (iI i) (hp Y (sR X 34 1 (ini0 r q i)))) (fun i => 0 ≤ i ∧ i ≤ 64) (fun i => (65 - i).toNat) (fun z => z = _) ?_ f0 0 ⟨by omega, by omega⟩ (by show (65 - (0 : Int)).toNat < f0; omega)
  rintro f i ⟨i0, i1⟩
  by_cases c : (64 : Int) ≤ i
  · left
    rw [← s2, dgT_0]
    simp (disch := first | assumption | omega) only [bX6_shortest_10, li_0, li_1, li_64, li_1000000, iI_add, Option.bind_some, iI_le, if_pos c]
    rw [show i = 64 by omega]
  · right
    refine ⟨i + 1, ?_, ⟨by omega, by omega⟩, by show (65 - (i + 1)).toNat < (65 - i).toNat; omega⟩
    have h := hr i i0 (by omega)
    rw [← ini0_s i0 rfl]
    by_cases e : r i = 0
    · rw [if_pos e]
      simp (disch := first | assumption | omega) only [bX6_shortest_10, bX6_shortest_36, li_0, li_1, li_64, li_1000000, iI_add, Option.bind_some, l_26, l_34, s_34, iI_le, iI_eq, if_neg c, x1, x2, if_pos e, sR_sR]
    · rw [if_neg e]
      simp (disch := first | assumption | omega) only [bX6_shortest_10, bX6_shortest_36, li_0, li_1, li_64, li_1000000, iI_add, Option.bind_some, l_26, l_34, s_34, iI_le, iI_eq, if_neg c, x1, x2, if_neg e, sR_sR]
theorem e_short_27 {f0 : Nat} {Y : YS} {X : XS} {n : Int} (g : GY Y) (hn : XR X 25 1 0 = n) (n0 : 0 ≤ n) (n8 : n ≤ 8) (hr : ∀ i, 0 ≤ i → i < 64 → 0 ≤ XR X 27 1 i ∧ XR X 27 1 i ≤ 1000) (hf : 200 ≤ f0) : fX6_shortest f0 (Ad Y 6 1) (Ad Y 27 1) (Ad Y 35 1) (hp Y X) = some (hp Y (sR X 35 1 (fwG n n.toNat (dgT (ini0 (XR X 27 1) (XR X 35 1) 64) n)))) := by
  have g1 := SeO_1 g
  obtain ⟨q, hq⟩ : ∃ q, q = XR X 35 1 := ⟨_, rfl⟩
  obtain ⟨r, hrr⟩ : ∃ r, r = XR X 27 1 := ⟨_, rfl⟩
  rw [← hq, ← hrr]
  rw [← hrr] at hr
  have z : fX6_shortest f0 (Ad Y 6 1) (Ad Y 27 1) (Ad Y 35 1) (hp Y X) = bX6_shortest_10 f0 f0 (Ad Y 27 1) (Ad Y 35 1) (iI n) (iI 0) (hp Y (sR X 35 1 (ini0 r q 0))) := by
    rw [ini0_0, hq, sR_self]
    simp (disch := first | assumption | omega) only [fX6_shortest, g_6_1, l_25, li_0, Option.bind_some, iI_add, hn]
  rw [z]
  have x2 : ∀ t, XR (sR X 35 1 t) 35 1 = t := fun t => rfl
  have x1 : ∀ t, XR (sR X 35 1 t) 27 1 = r := fun t => hrr.symm
  obtain ⟨T, hT⟩ : ∃ T, T = dgT (ini0 r q 64) n := ⟨_, rfl⟩
  have B0 : FB n T := by rw [hT]; exact FB_c n8 dgT_ini (ini_FB (m := n) (by omega) hr n8)
  have s3 : bX6_shortest_72 f0 f0 (Ad Y 35 1) (iI n) (iI 0) (hp Y (sR X 35 1 T)) = some (hp Y (sR X 35 1 (fwG n n.toNat T))) := by
    refine lp (fun f (k : Nat) => bX6_shortest_72 f0 f (Ad Y 35 1) (iI n) (iI (k : Int)) (hp Y (sR X 35 1 (fwG n k T)))) (fun k => (k : Int) ≤ n) (fun k => 9 - k) (fun z => z = _) ?_ f0 0 (by show ((0 : Nat) : Int) ≤ n; omega) (by omega)
    intro f k hk
    by_cases c : n ≤ (k : Int)
    · left
      simp (disch := first | assumption | omega) only [bX6_shortest_72, li_0, li_1, iI_add, Option.bind_some, iI_le, if_pos c]
      rw [show k = n.toNat by omega]
    · right
      refine ⟨k + 1, ?_, by omega, by omega⟩
      have Bk := (fwG_all n8 B0 k (by omega)).1
      obtain ⟨R, hR⟩ : ∃ R, R = fwG n k T := ⟨_, rfl⟩
      have eR : fwG n (k + 1) T = fwS n k R := by rw [hR]; rfl
      rw [← hR] at Bk
      rw [eR, ← hR, show ((k + 1 : Nat) : Int) = (k : Int) + 1 by omega]
      have s2 : bX6_shortest_72 f0 (f + 1) (Ad Y 35 1) (iI n) (iI (k : Int)) (hp Y (sR X 35 1 R)) = bX6_shortest_81 f0 (bX6_shortest_72 f0 f) f0 (Ad Y 35 1) (iI n) (iI (k : Int)) (iI 0) (hp Y (sR X 35 1 (fwP n k 0 0 R))) := by
        rw [fwP_0]
        simp (disch := first | assumption | omega) only [bX6_shortest_72, li_0, li_1, iI_add, Option.bind_some, iI_le, if_neg c]
      rw [s2]
      refine lp (fun f' (p : Int) => bX6_shortest_81 f0 (bX6_shortest_72 f0 f) f' (Ad Y 35 1) (iI n) (iI (k : Int)) (iI p) (hp Y (sR X 35 1 (fwP n k p 0 R)))) (fun p => 0 ≤ p ∧ p ≤ n) (fun p => (9 - p).toNat) (fun z => z = _) ?_ f0 0 ⟨by omega, by omega⟩ (by show (9 - (0 : Int)).toNat < f0; omega)
      rintro f' p ⟨p0, p1⟩
      by_cases d : n ≤ p
      · left
        simp (disch := first | assumption | omega) only [bX6_shortest_81, li_0, li_1, iI_add, Option.bind_some, iI_le, if_pos d]
        rw [show p = n by omega, fwP_end]
      · right
        refine ⟨p + 1, ?_, ⟨by omega, by omega⟩, by show (9 - (p + 1)).toNat < (9 - p).toNat; omega⟩
        have s1 : bX6_shortest_81 f0 (bX6_shortest_72 f0 f) (f' + 1) (Ad Y 35 1) (iI n) (iI (k : Int)) (iI p) (hp Y (sR X 35 1 (fwP n k p 0 R))) = bX6_shortest_90 f0 (bX6_shortest_72 f0 f) (bX6_shortest_81 f0 (bX6_shortest_72 f0 f) f') f0 (Ad Y 35 1) (iI n) (iI (k : Int)) (iI p) (iI 0) (hp Y (sR X 35 1 (fwP n k p 0 R))) := by
          simp (disch := first | assumption | omega) only [bX6_shortest_81, li_0, li_1, iI_add, Option.bind_some, iI_le, if_neg d]
        rw [s1]
        refine lp (fun f2 (b : Int) => bX6_shortest_90 f0 (bX6_shortest_72 f0 f) (bX6_shortest_81 f0 (bX6_shortest_72 f0 f) f') f2 (Ad Y 35 1) (iI n) (iI (k : Int)) (iI p) (iI b) (hp Y (sR X 35 1 (fwP n k p b R)))) (fun b => 0 ≤ b ∧ b ≤ n) (fun b => (9 - b).toNat) (fun z => z = _) ?_ f0 0 ⟨by omega, by omega⟩ (by show (9 - (0 : Int)).toNat < f0; omega)
        rintro f2 b ⟨b0, b1⟩
        by_cases e : n ≤ b
        · left
          simp (disch := first | assumption | omega) only [bX6_shortest_90, li_0, li_1, li_8, iI_add, iI_mul, Option.bind_some, iI_le, if_pos e]
          rw [show b = n by omega, fwP_row]
        · right
          refine ⟨b + 1, ?_, ⟨by omega, by omega⟩, by show (9 - (b + 1)).toNat < (9 - b).toNat; omega⟩
          have kk : R (8 * (k : Int) + k) = 0 := (Bk k k (by omega) (by omega) (by omega) (by omega)).2.1 rfl
          have nn : ∀ a, 0 ≤ a → a < n → 0 ≤ R (8 * a + k) ∧ 0 ≤ R (8 * (k : Int) + a) := fun a a0 an => ⟨(Bk a k a0 an (by omega) (by omega)).1.1, (Bk k a (by omega) (by omega) a0 an).1.1⟩
          have v1 := (fwP_kk (a0 := p) (b0 := b) kk nn (by omega) (by omega) n8 p0 (by omega)).1
          have v2 := (fwP_kk (a0 := p) (b0 := b) kk nn (by omega) (by omega) n8 b0 (by omega)).2
          have v3 : fwP n k p b R (8 * p + b) = R (8 * p + b) := by unfold fwP; rw [if_neg (by omega)]
          have r1 := (Bk p k p0 (by omega) (by omega) (by omega)).1
          have r2 := (Bk k b (by omega) (by omega) b0 (by omega)).1
          have r3 := (Bk p b p0 (by omega) b0 (by omega)).1
          rw [← fwP_s n8 p0 (by omega) b0 (by omega) _ rfl]
          simp (disch := first | assumption | omega) only [bX6_shortest_90, li_0, li_1, li_8, iI_add, iI_mul, Option.bind_some, l_35, s_35, iI_le, if_neg e, x2, i8, v1, v2, v3, iI_lt, iI_ite, sR_sR]
          rfl
  have s2 : bX6_shortest_46 f0 f0 (Ad Y 35 1) (iI n) (iI 0) (hp Y (sR X 35 1 (dgT (ini0 r q 64) 0))) = some (hp Y (sR X 35 1 (fwG n n.toNat T))) := by
    refine lp (fun f (p : Int) => bX6_shortest_46 f0 f (Ad Y 35 1) (iI n) (iI p) (hp Y (sR X 35 1 (dgT (ini0 r q 64) p)))) (fun p => 0 ≤ p ∧ p ≤ n) (fun p => (9 - p).toNat) (fun z => z = _) ?_ f0 0 ⟨by omega, by omega⟩ (by show (9 - (0 : Int)).toNat < f0; omega)
    rintro f p ⟨p0, p1⟩
    by_cases c : n ≤ p
    · left
      rw [← s3, hT]
      simp (disch := first | assumption | omega) only [bX6_shortest_46, li_0, li_1, li_8, iI_add, iI_mul, Option.bind_some, iI_le, if_pos c]
      rw [show p = n by omega]
    · right
      refine ⟨p + 1, ?_, ⟨by omega, by omega⟩, by show (9 - (p + 1)).toNat < (9 - p).toNat; omega⟩
      rw [← dgT_s p0 (by omega)]
      simp (disch := first | assumption | omega) only [bX6_shortest_46, li_0, li_1, li_8, iI_add, iI_mul, Option.bind_some, l_35, s_35, iI_le, if_neg c, x2, i8, sR_sR]
  rw [hT] at s2
  refine lp (fun f (i : Int) => bX6_shortest_10 f0 f (Ad Y 27 1) (Ad Y 35 1) (iI n) (iI i) (hp Y (sR X 35 1 (ini0 r q i)))) (fun i => 0 ≤ i ∧ i ≤ 64) (fun i => (65 - i).toNat) (fun z => z = _) ?_ f0 0 ⟨by omega, by omega⟩ (by show (65 - (0 : Int)).toNat < f0; omega)
  rintro f i ⟨i0, i1⟩
  by_cases c : (64 : Int) ≤ i
  · left
    rw [← s2, dgT_0]
    simp (disch := first | assumption | omega) only [bX6_shortest_10, li_0, li_1, li_64, li_1000000, iI_add, Option.bind_some, iI_le, if_pos c]
    rw [show i = 64 by omega]
  · right
    refine ⟨i + 1, ?_, ⟨by omega, by omega⟩, by show (65 - (i + 1)).toNat < (65 - i).toNat; omega⟩
    have h := hr i i0 (by omega)
    rw [← ini0_s i0 rfl]
    by_cases e : r i = 0
    · rw [if_pos e]
      simp (disch := first | assumption | omega) only [bX6_shortest_10, bX6_shortest_36, li_0, li_1, li_64, li_1000000, iI_add, Option.bind_some, l_27, l_35, s_35, iI_le, iI_eq, if_neg c, x1, x2, if_pos e, sR_sR]
    · rw [if_neg e]
      simp (disch := first | assumption | omega) only [bX6_shortest_10, bX6_shortest_36, li_0, li_1, li_64, li_1000000, iI_add, Option.bind_some, l_27, l_35, s_35, iI_le, iI_eq, if_neg c, x1, x2, if_neg e, sR_sR]
theorem r_lesser {f0 : Nat} {h : Hp} {a b : Int} (ha : Rg a) (hb : Rg b) : fX12_lesser f0 (iI a) (iI b) h = some (iI (if b < a then b else a), h) := by
  have a1 := ha.1; have a2 := ha.2; have b1 := hb.1; have b2 := hb.2
  simp (disch := omega) only [fX12_lesser, Option.bind_some, iI_add, iI_lt, iI_le]
  (repeat' split) <;> first | rfl | (exfalso; omega) | (congr 2; congr 1; omega)
theorem r_ways_8 {f0 : Nat} {Y : YS} {Z : XS} {S : Int → Int} (g : GY Y) (hS : XR Z 61 0 = S) (hr : ∀ i, 0 ≤ i → i < 64 → 0 ≤ S (8 + i) ∧ S (8 + i) ≤ 1000) (hf : 200 ≤ f0) : fX12_waysOf f0 (Ad Y 12 0) (iI 8) (Ad Y 66 0) (hp Y Z) = some (hp Y (sR Z 66 0 (fwG 8 8 (dgT (ini0 (fun i => S (8 + i)) (XR Z 66 0) 64) 8)))) := by
  obtain ⟨q, hq⟩ : ∃ q, q = XR Z 66 0 := ⟨_, rfl⟩
  rw [← hq]
  have z : fX12_waysOf f0 (Ad Y 12 0) (iI 8) (Ad Y 66 0) (hp Y Z) = bX12_waysOf_2 f0 f0 (Ad Y 12 0) (iI 8) (Ad Y 66 0) (iI 0) (hp Y (sR Z 66 0 (ini0 (fun i => S (8 + i)) q 0))) := by
    rw [ini0_0, hq, sR_self]; rfl
  rw [z]
  have x2 : ∀ t, XR (sR Z 66 0 t) 66 0 = t := fun t => rfl
  have x1 : ∀ t, XR (sR Z 66 0 t) 61 0 = S := fun t => hS
  obtain ⟨T, hT⟩ : ∃ T, T = dgT (ini0 (fun i => S (8 + i)) q 64) 8 := ⟨_, rfl⟩
  have B0 : FB 8 T := by rw [hT]; exact FB_c (by omega) dgT_ini (ini_FB (m := 8) (by omega) hr (by omega))
  have s3 : bX12_waysOf_66 f0 f0 (Ad Y 66 0) (iI 0) (hp Y (sR Z 66 0 T)) = some (hp Y (sR Z 66 0 (fwG 8 8 T))) := by
    refine lp (fun f (k : Nat) => bX12_waysOf_66 f0 f (Ad Y 66 0) (iI (k : Int)) (hp Y (sR Z 66 0 (fwG 8 k T)))) (fun k => k ≤ 8) (fun k => 9 - k) (fun z => z = _) ?_ f0 0 (by omega) (by omega)
    intro f k hk
    by_cases c : (8 : Int) ≤ (k : Int)
    · left
      simp (disch := first | assumption | omega) only [bX12_waysOf_66, li_0, li_1, li_8, iI_add, Option.bind_some, iI_le, if_pos c]
      rw [show k = 8 by omega]
    · right
      refine ⟨k + 1, ?_, by omega, by omega⟩
      have Bk := (fwG_all (n := 8) (by omega) B0 k (by omega)).1
      obtain ⟨R, hR⟩ : ∃ R, R = fwG 8 k T := ⟨_, rfl⟩
      have eR : fwG 8 (k + 1) T = fwS 8 k R := by rw [hR]; rfl
      rw [← hR] at Bk
      rw [eR, ← hR, show ((k + 1 : Nat) : Int) = (k : Int) + 1 by omega]
      have s2 : bX12_waysOf_66 f0 (f + 1) (Ad Y 66 0) (iI (k : Int)) (hp Y (sR Z 66 0 R)) = bX12_waysOf_75 f0 (bX12_waysOf_66 f0 f) f0 (Ad Y 66 0) (iI (k : Int)) (iI 0) (hp Y (sR Z 66 0 (fwP 8 k 0 0 R))) := by
        rw [fwP_0]
        simp (disch := first | assumption | omega) only [bX12_waysOf_66, li_0, li_1, li_8, iI_add, Option.bind_some, iI_le, if_neg c]
      rw [s2]
      refine lp (fun f' (p : Int) => bX12_waysOf_75 f0 (bX12_waysOf_66 f0 f) f' (Ad Y 66 0) (iI (k : Int)) (iI p) (hp Y (sR Z 66 0 (fwP 8 k p 0 R)))) (fun p => 0 ≤ p ∧ p ≤ 8) (fun p => (9 - p).toNat) (fun z => z = _) ?_ f0 0 ⟨by omega, by omega⟩ (by show (9 - (0 : Int)).toNat < f0; omega)
      rintro f' p ⟨p0, p1⟩
      by_cases d : (8 : Int) ≤ p
      · left
        simp (disch := first | assumption | omega) only [bX12_waysOf_75, li_0, li_1, li_8, iI_add, Option.bind_some, iI_le, if_pos d]
        rw [show p = 8 by omega, fwP_end]
      · right
        refine ⟨p + 1, ?_, ⟨by omega, by omega⟩, by show (9 - (p + 1)).toNat < (9 - p).toNat; omega⟩
        have s1 : bX12_waysOf_75 f0 (bX12_waysOf_66 f0 f) (f' + 1) (Ad Y 66 0) (iI (k : Int)) (iI p) (hp Y (sR Z 66 0 (fwP 8 k p 0 R))) = bX12_waysOf_85 f0 (bX12_waysOf_66 f0 f) (bX12_waysOf_75 f0 (bX12_waysOf_66 f0 f) f') f0 (Ad Y 66 0) (iI (k : Int)) (iI p) (iI 0) (hp Y (sR Z 66 0 (fwP 8 k p 0 R))) := by
          simp (disch := first | assumption | omega) only [bX12_waysOf_75, li_0, li_1, li_8, iI_add, Option.bind_some, iI_le, if_neg d]
        rw [s1]
        refine lp (fun f2 (b : Int) => bX12_waysOf_85 f0 (bX12_waysOf_66 f0 f) (bX12_waysOf_75 f0 (bX12_waysOf_66 f0 f) f') f2 (Ad Y 66 0) (iI (k : Int)) (iI p) (iI b) (hp Y (sR Z 66 0 (fwP 8 k p b R)))) (fun b => 0 ≤ b ∧ b ≤ 8) (fun b => (9 - b).toNat) (fun z => z = _) ?_ f0 0 ⟨by omega, by omega⟩ (by show (9 - (0 : Int)).toNat < f0; omega)
        rintro f2 b ⟨b0, b1⟩
        by_cases e : (8 : Int) ≤ b
        · left
          simp (disch := first | assumption | omega) only [bX12_waysOf_85, li_0, li_1, li_8, ob2, iI_add, Option.bind_some, iI_le, if_pos e]
          rw [show b = 8 by omega, fwP_row]
        · right
          refine ⟨b + 1, ?_, ⟨by omega, by omega⟩, by show (9 - (b + 1)).toNat < (9 - b).toNat; omega⟩
          have kk : R (8 * (k : Int) + k) = 0 := (Bk k k (by omega) (by omega) (by omega) (by omega)).2.1 rfl
          have nn : ∀ a, 0 ≤ a → a < 8 → 0 ≤ R (8 * a + k) ∧ 0 ≤ R (8 * (k : Int) + a) := fun a a0 an => ⟨(Bk a k a0 an (by omega) (by omega)).1.1, (Bk k a (by omega) (by omega) a0 an).1.1⟩
          have v1 := (fwP_kk (a0 := p) (b0 := b) kk nn (by omega) (by omega) (by omega) p0 (by omega)).1
          have v2 := (fwP_kk (a0 := p) (b0 := b) kk nn (by omega) (by omega) (by omega) b0 (by omega)).2
          have v3 : fwP 8 k p b R (8 * p + b) = R (8 * p + b) := by unfold fwP; rw [if_neg (by omega)]
          have r1 := (Bk p k p0 (by omega) (by omega) (by omega)).1
          have r2 := (Bk k b (by omega) (by omega) b0 (by omega)).1
          have r3 := (Bk p b p0 (by omega) b0 (by omega)).1
          have le := r_lesser (f0 := f0) (h := hp Y (sR Z 66 0 (fwP 8 k p b R))) (a := R (8 * p + b)) (b := R (8 * p + k) + R (8 * (k : Int) + b)) ⟨by omega, by omega⟩ ⟨by omega, by omega⟩
          rw [← fwP_s (n := 8) (by omega) p0 (by omega) b0 (by omega) _ rfl]
          simp (disch := first | assumption | omega) only [bX12_waysOf_85, li_0, li_1, li_8, ob2, iI_add, Option.bind_some, l_66, s_66, iI_le, if_neg e, r_cell, x2, v1, v2, v3, le, sR_sR]
          rfl
  have s2 : bX12_waysOf_44 f0 f0 (Ad Y 66 0) (iI 0) (hp Y (sR Z 66 0 (dgT (ini0 (fun i => S (8 + i)) q 64) 0))) = some (hp Y (sR Z 66 0 (fwG 8 8 T))) := by
    refine lp (fun f (p : Int) => bX12_waysOf_44 f0 f (Ad Y 66 0) (iI p) (hp Y (sR Z 66 0 (dgT (ini0 (fun i => S (8 + i)) q 64) p)))) (fun p => 0 ≤ p ∧ p ≤ 8) (fun p => (9 - p).toNat) (fun z => z = _) ?_ f0 0 ⟨by omega, by omega⟩ (by show (9 - (0 : Int)).toNat < f0; omega)
    rintro f p ⟨p0, p1⟩
    by_cases c : (8 : Int) ≤ p
    · left
      rw [← s3, hT]
      simp (disch := first | assumption | omega) only [bX12_waysOf_44, li_0, li_1, li_8, ob2, iI_add, Option.bind_some, iI_le, if_pos c]
      rw [show p = 8 by omega]
    · right
      refine ⟨p + 1, ?_, ⟨by omega, by omega⟩, by show (9 - (p + 1)).toNat < (9 - p).toNat; omega⟩
      rw [← dgT_s p0 (by omega)]
      simp (disch := first | assumption | omega) only [bX12_waysOf_44, li_0, li_1, li_8, ob2, iI_add, Option.bind_some, l_66, s_66, iI_le, if_neg c, r_cell, x2, sR_sR]
  rw [hT] at s2
  refine lp (fun f (i : Int) => bX12_waysOf_2 f0 f (Ad Y 12 0) (iI 8) (Ad Y 66 0) (iI i) (hp Y (sR Z 66 0 (ini0 (fun i => S (8 + i)) q i)))) (fun i => 0 ≤ i ∧ i ≤ 64) (fun i => (65 - i).toNat) (fun z => z = _) ?_ f0 0 ⟨by omega, by omega⟩ (by show (65 - (0 : Int)).toNat < f0; omega)
  rintro f i ⟨i0, i1⟩
  by_cases c : (64 : Int) ≤ i
  · left
    rw [← s2, dgT_0]
    simp (disch := first | assumption | omega) only [bX12_waysOf_2, g_12_6, l61, li_0, li_1, li_64, li_1000000, iI_add, Option.bind_some, iI_le, if_pos c]
    rw [show i = 64 by omega]
  · right
    refine ⟨i + 1, ?_, ⟨by omega, by omega⟩, by show (65 - (i + 1)).toNat < (65 - i).toNat; omega⟩
    have h := hr i i0 (by omega)
    rw [← ini0_s i0 rfl]
    by_cases e : S (8 + i) = 0
    · have e' : S (8 + i) ≤ 0 := by omega
      rw [if_pos e]
      simp (disch := first | assumption | omega) only [bX12_waysOf_2, bX12_waysOf_35, g_12_6, l61, li_0, li_1, li_64, li_1000000, iI_add, Option.bind_some, l_61, s_66, iI_le, if_neg c, x1, x2, if_pos e', sR_sR]
    · have e' : ¬ S (8 + i) ≤ 0 := by omega
      rw [if_neg e]
      simp (disch := first | assumption | omega) only [bX12_waysOf_2, bX12_waysOf_35, g_12_6, l61, li_0, li_1, li_64, li_1000000, iI_add, Option.bind_some, l_61, s_66, iI_le, if_neg c, x1, x2, if_neg e', sR_sR]
theorem r_ways_72 {f0 : Nat} {Y : YS} {Z : XS} {S : Int → Int} (g : GY Y) (hS : XR Z 61 0 = S) (hr : ∀ i, 0 ≤ i → i < 64 → 0 ≤ S (72 + i) ∧ S (72 + i) ≤ 1000) (hf : 200 ≤ f0) : fX12_waysOf f0 (Ad Y 12 0) (iI 72) (Ad Y 67 0) (hp Y Z) = some (hp Y (sR Z 67 0 (fwG 8 8 (dgT (ini0 (fun i => S (72 + i)) (XR Z 67 0) 64) 8)))) := by
  obtain ⟨q, hq⟩ : ∃ q, q = XR Z 67 0 := ⟨_, rfl⟩
  rw [← hq]
  have z : fX12_waysOf f0 (Ad Y 12 0) (iI 72) (Ad Y 67 0) (hp Y Z) = bX12_waysOf_2 f0 f0 (Ad Y 12 0) (iI 72) (Ad Y 67 0) (iI 0) (hp Y (sR Z 67 0 (ini0 (fun i => S (72 + i)) q 0))) := by
    rw [ini0_0, hq, sR_self]; rfl
  rw [z]
  have x2 : ∀ t, XR (sR Z 67 0 t) 67 0 = t := fun t => rfl
  have x1 : ∀ t, XR (sR Z 67 0 t) 61 0 = S := fun t => hS
  obtain ⟨T, hT⟩ : ∃ T, T = dgT (ini0 (fun i => S (72 + i)) q 64) 8 := ⟨_, rfl⟩
  have B0 : FB 8 T := by rw [hT]; exact FB_c (by omega) dgT_ini (ini_FB (m := 8) (by omega) hr (by omega))
  have s3 : bX12_waysOf_66 f0 f0 (Ad Y 67 0) (iI 0) (hp Y (sR Z 67 0 T)) = some (hp Y (sR Z 67 0 (fwG 8 8 T))) := by
    refine lp (fun f (k : Nat) => bX12_waysOf_66 f0 f (Ad Y 67 0) (iI (k : Int)) (hp Y (sR Z 67 0 (fwG 8 k T)))) (fun k => k ≤ 8) (fun k => 9 - k) (fun z => z = _) ?_ f0 0 (by omega) (by omega)
    intro f k hk
    by_cases c : (8 : Int) ≤ (k : Int)
    · left
      simp (disch := first | assumption | omega) only [bX12_waysOf_66, li_0, li_1, li_8, iI_add, Option.bind_some, iI_le, if_pos c]
      rw [show k = 8 by omega]
    · right
      refine ⟨k + 1, ?_, by omega, by omega⟩
      have Bk := (fwG_all (n := 8) (by omega) B0 k (by omega)).1
      obtain ⟨R, hR⟩ : ∃ R, R = fwG 8 k T := ⟨_, rfl⟩
      have eR : fwG 8 (k + 1) T = fwS 8 k R := by rw [hR]; rfl
      rw [← hR] at Bk
      rw [eR, ← hR, show ((k + 1 : Nat) : Int) = (k : Int) + 1 by omega]
      have s2 : bX12_waysOf_66 f0 (f + 1) (Ad Y 67 0) (iI (k : Int)) (hp Y (sR Z 67 0 R)) = bX12_waysOf_75 f0 (bX12_waysOf_66 f0 f) f0 (Ad Y 67 0) (iI (k : Int)) (iI 0) (hp Y (sR Z 67 0 (fwP 8 k 0 0 R))) := by
        rw [fwP_0]
        simp (disch := first | assumption | omega) only [bX12_waysOf_66, li_0, li_1, li_8, iI_add, Option.bind_some, iI_le, if_neg c]
      rw [s2]
      refine lp (fun f' (p : Int) => bX12_waysOf_75 f0 (bX12_waysOf_66 f0 f) f' (Ad Y 67 0) (iI (k : Int)) (iI p) (hp Y (sR Z 67 0 (fwP 8 k p 0 R)))) (fun p => 0 ≤ p ∧ p ≤ 8) (fun p => (9 - p).toNat) (fun z => z = _) ?_ f0 0 ⟨by omega, by omega⟩ (by show (9 - (0 : Int)).toNat < f0; omega)
      rintro f' p ⟨p0, p1⟩
      by_cases d : (8 : Int) ≤ p
      · left
        simp (disch := first | assumption | omega) only [bX12_waysOf_75, li_0, li_1, li_8, iI_add, Option.bind_some, iI_le, if_pos d]
        rw [show p = 8 by omega, fwP_end]
      · right
        refine ⟨p + 1, ?_, ⟨by omega, by omega⟩, by show (9 - (p + 1)).toNat < (9 - p).toNat; omega⟩
        have s1 : bX12_waysOf_75 f0 (bX12_waysOf_66 f0 f) (f' + 1) (Ad Y 67 0) (iI (k : Int)) (iI p) (hp Y (sR Z 67 0 (fwP 8 k p 0 R))) = bX12_waysOf_85 f0 (bX12_waysOf_66 f0 f) (bX12_waysOf_75 f0 (bX12_waysOf_66 f0 f) f') f0 (Ad Y 67 0) (iI (k : Int)) (iI p) (iI 0) (hp Y (sR Z 67 0 (fwP 8 k p 0 R))) := by
          simp (disch := first | assumption | omega) only [bX12_waysOf_75, li_0, li_1, li_8, iI_add, Option.bind_some, iI_le, if_neg d]
        rw [s1]
        refine lp (fun f2 (b : Int) => bX12_waysOf_85 f0 (bX12_waysOf_66 f0 f) (bX12_waysOf_75 f0 (bX12_waysOf_66 f0 f) f') f2 (Ad Y 67 0) (iI (k : Int)) (iI p) (iI b) (hp Y (sR Z 67 0 (fwP 8 k p b R)))) (fun b => 0 ≤ b ∧ b ≤ 8) (fun b => (9 - b).toNat) (fun z => z = _) ?_ f0 0 ⟨by omega, by omega⟩ (by show (9 - (0 : Int)).toNat < f0; omega)
        rintro f2 b ⟨b0, b1⟩
        by_cases e : (8 : Int) ≤ b
        · left
          simp (disch := first | assumption | omega) only [bX12_waysOf_85, li_0, li_1, li_8, ob2, iI_add, Option.bind_some, iI_le, if_pos e]
          rw [show b = 8 by omega, fwP_row]
        · right
          refine ⟨b + 1, ?_, ⟨by omega, by omega⟩, by show (9 - (b + 1)).toNat < (9 - b).toNat; omega⟩
          have kk : R (8 * (k : Int) + k) = 0 := (Bk k k (by omega) (by omega) (by omega) (by omega)).2.1 rfl
          have nn : ∀ a, 0 ≤ a → a < 8 → 0 ≤ R (8 * a + k) ∧ 0 ≤ R (8 * (k : Int) + a) := fun a a0 an => ⟨(Bk a k a0 an (by omega) (by omega)).1.1, (Bk k a (by omega) (by omega) a0 an).1.1⟩
          have v1 := (fwP_kk (a0 := p) (b0 := b) kk nn (by omega) (by omega) (by omega) p0 (by omega)).1
          have v2 := (fwP_kk (a0 := p) (b0 := b) kk nn (by omega) (by omega) (by omega) b0 (by omega)).2
          have v3 : fwP 8 k p b R (8 * p + b) = R (8 * p + b) := by unfold fwP; rw [if_neg (by omega)]
          have r1 := (Bk p k p0 (by omega) (by omega) (by omega)).1
          have r2 := (Bk k b (by omega) (by omega) b0 (by omega)).1
          have r3 := (Bk p b p0 (by omega) b0 (by omega)).1
          have le := r_lesser (f0 := f0) (h := hp Y (sR Z 67 0 (fwP 8 k p b R))) (a := R (8 * p + b)) (b := R (8 * p + k) + R (8 * (k : Int) + b)) ⟨by omega, by omega⟩ ⟨by omega, by omega⟩
          rw [← fwP_s (n := 8) (by omega) p0 (by omega) b0 (by omega) _ rfl]
          simp (disch := first | assumption | omega) only [bX12_waysOf_85, li_0, li_1, li_8, ob2, iI_add, Option.bind_some, l_67, s_67, iI_le, if_neg e, r_cell, x2, v1, v2, v3, le, sR_sR]
          rfl
  have s2 : bX12_waysOf_44 f0 f0 (Ad Y 67 0) (iI 0) (hp Y (sR Z 67 0 (dgT (ini0 (fun i => S (72 + i)) q 64) 0))) = some (hp Y (sR Z 67 0 (fwG 8 8 T))) := by
    refine lp (fun f (p : Int) => bX12_waysOf_44 f0 f (Ad Y 67 0) (iI p) (hp Y (sR Z 67 0 (dgT (ini0 (fun i => S (72 + i)) q 64) p)))) (fun p => 0 ≤ p ∧ p ≤ 8) (fun p => (9 - p).toNat) (fun z => z = _) ?_ f0 0 ⟨by omega, by omega⟩ (by show (9 - (0 : Int)).toNat < f0; omega)
    rintro f p ⟨p0, p1⟩
    by_cases c : (8 : Int) ≤ p
    · left
      rw [← s3, hT]
      simp (disch := first | assumption | omega) only [bX12_waysOf_44, li_0, li_1, li_8, ob2, iI_add, Option.bind_some, iI_le, if_pos c]
      rw [show p = 8 by omega]
    · right
      refine ⟨p + 1, ?_, ⟨by omega, by omega⟩, by show (9 - (p + 1)).toNat < (9 - p).toNat; omega⟩
      rw [← dgT_s p0 (by omega)]
      simp (disch := first | assumption | omega) only [bX12_waysOf_44, li_0, li_1, li_8, ob2, iI_add, Option.bind_some, l_67, s_67, iI_le, if_neg c, r_cell, x2, sR_sR]
  rw [hT] at s2
  refine lp (fun f (i : Int) => bX12_waysOf_2 f0 f (Ad Y 12 0) (iI 72) (Ad Y 67 0) (iI i) (hp Y (sR Z 67 0 (ini0 (fun i => S (72 + i)) q i)))) (fun i => 0 ≤ i ∧ i ≤ 64) (fun i => (65 - i).toNat) (fun z => z = _) ?_ f0 0 ⟨by omega, by omega⟩ (by show (65 - (0 : Int)).toNat < f0; omega)
  rintro f i ⟨i0, i1⟩
  by_cases c : (64 : Int) ≤ i
  · left
    rw [← s2, dgT_0]
    simp (disch := first | assumption | omega) only [bX12_waysOf_2, g_12_6, l61, li_0, li_1, li_64, li_1000000, iI_add, Option.bind_some, iI_le, if_pos c]
    rw [show i = 64 by omega]
  · right
    refine ⟨i + 1, ?_, ⟨by omega, by omega⟩, by show (65 - (i + 1)).toNat < (65 - i).toNat; omega⟩
    have h := hr i i0 (by omega)
    rw [← ini0_s i0 rfl]
    by_cases e : S (72 + i) = 0
    · have e' : S (72 + i) ≤ 0 := by omega
      rw [if_pos e]
      simp (disch := first | assumption | omega) only [bX12_waysOf_2, bX12_waysOf_35, g_12_6, l61, li_0, li_1, li_64, li_1000000, iI_add, Option.bind_some, l_61, s_67, iI_le, if_neg c, x1, x2, if_pos e', sR_sR]
    · have e' : ¬ S (72 + i) ≤ 0 := by omega
      rw [if_neg e]
      simp (disch := first | assumption | omega) only [bX12_waysOf_2, bX12_waysOf_35, g_12_6, l61, li_0, li_1, li_64, li_1000000, iI_add, Option.bind_some, l_61, s_67, iI_le, if_neg c, x1, x2, if_neg e', sR_sR]
