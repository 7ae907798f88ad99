/-! A REGISTER'S SHIPS: both answer the same -/
theorem far_facts {X : XS} {S : Int → Int} (hS : SeaI X 0 S) : FB 8 (frs S) ∧ Ftr 8 8 (frs S) ∧ Fsy 8 (frs S) := by
  obtain ⟨hC, hR, hk, hZ, hW⟩ := hS
  have wr : ∀ i, 0 ≤ i → i < 64 → 0 ≤ S (8 + i) ∧ S (8 + i) ≤ 1000 := fun i i0 i6 => by
    have := hC.2.2.2.2.2.2.1 i i0 i6; rw [(hR.2.1 i i0 i6).1] at this; omega
  have a := fwG_all (n := 8) (r := iniW 8 (fun i => S (8 + i))) (by omega) (ini_FB (m := 8) (by omega) wr (by omega)) 8 (by omega)
  refine ⟨a.1, a.2.1, a.2.2 (fun x y x0 x8 y0 y8 => ?_)⟩
  unfold iniW
  rw [show (8 * x + y) / 8 = x by omega, show (8 * x + y) % 8 = y by omega, show (8 * y + x) / 8 = y by omega, show (8 * y + x) % 8 = x by omega]
  have sy := (hZ.1 x y x0 x8 y0 y8).2.2.1
  by_cases e : x = y
  · subst e; rfl
  · rw [if_neg (show ¬ (x = y ∧ x < 8) from fun w => e w.1), if_neg (show ¬ (y = x ∧ y < 8) from fun w => e w.1.symm)]
    simp only [sy]
/-- what a table of ways must be -/
def QF (q : Int → Int) : Prop := (∀ a b, 0 ≤ a → a < 8 → 0 ≤ b → b < 8 → (0 ≤ q (8 * a + b)) ∧ (a = b → q (8 * a + b) = 0) ∧ (a ≠ b → 1 ≤ q (8 * a + b)) ∧ q (8 * a + b) = q (8 * b + a)) ∧ ∀ a b c, 0 ≤ a → a < 8 → 0 ≤ b → b < 8 → 0 ≤ c → c < 8 → q (8 * a + c) ≤ q (8 * a + b) + q (8 * b + c)
theorem fl_tr {T q : Int → Int} {n : Nat} (hq : QF q) (hT : ∀ i : Int, 0 ≤ i → i < (n : Int) → 0 ≤ T (2 * i) ∧ T (2 * i) < 8) : ∀ i j k : Nat, i < n → j < n → k < n → flF T q i j = true → flF T q j k = true → flF T q i k = true := by
  intro i j k hi hj hk a b
  have ti := hT i (by omega) (by omega); have tj := hT j (by omega) (by omega); have tk := hT k (by omega) (by omega)
  have tr := hq.2 (T (2 * i)) (T (2 * j)) (T (2 * k)) ti.1 ti.2 tj.1 tj.2 tk.1 tk.2
  unfold flF at *
  by_cases c1 : dy (T (2 * (j : Int) + 1)) - dy (T (2 * (i : Int) + 1)) = 0 ∧ T (2 * (i : Int)) = T (2 * (j : Int))
  · rw [if_pos c1, decide_eq_true_eq] at a
    by_cases c2 : dy (T (2 * (k : Int) + 1)) - dy (T (2 * (j : Int) + 1)) = 0 ∧ T (2 * (j : Int)) = T (2 * (k : Int))
    · rw [if_pos c2, decide_eq_true_eq] at b
      rw [if_pos ⟨by omega, by omega⟩, decide_eq_true_eq]; omega
    · rw [if_neg c2, decide_eq_true_eq] at b
      rw [if_neg (fun w => c2 ⟨by omega, by omega⟩), decide_eq_true_eq, c1.2]
      exact ⟨by omega, by omega⟩
  · rw [if_neg c1, decide_eq_true_eq] at a
    by_cases c2 : dy (T (2 * (k : Int) + 1)) - dy (T (2 * (j : Int) + 1)) = 0 ∧ T (2 * (j : Int)) = T (2 * (k : Int))
    · rw [if_neg (fun w => c1 ⟨by omega, by omega⟩), decide_eq_true_eq, ← c2.2]
      exact ⟨by omega, by omega⟩
    · rw [if_neg c2, decide_eq_true_eq] at b
      rw [if_neg (fun w => by omega), decide_eq_true_eq]
      exact ⟨by omega, by omega⟩
theorem ap_fl {T q : Int → Int} (hq : QF q) {i j : Int} (hi : 0 ≤ T (2 * i) ∧ T (2 * i) < 8) (hj : 0 ≤ T (2 * j) ∧ T (2 * j) < 8) (ne : i ≠ j) : apF T q i j = true ↔ (flF T q i j = false ∧ flF T q j i = false) := by
  have q1 := hq.1 (T (2 * i)) (T (2 * j)) hi.1 hi.2 hj.1 hj.2
  have A1 : apF T q i j = decide (ab (dy (T (2 * i + 1)) - dy (T (2 * j + 1))) < q (8 * T (2 * i) + T (2 * j))) := rfl
  have F1 : flF T q i j = if dy (T (2 * j + 1)) - dy (T (2 * i + 1)) = 0 ∧ T (2 * i) = T (2 * j) then decide (i < j) else decide (0 < dy (T (2 * j + 1)) - dy (T (2 * i + 1)) ∧ q (8 * T (2 * i) + T (2 * j)) ≤ dy (T (2 * j + 1)) - dy (T (2 * i + 1))) := rfl
  have F2 : flF T q j i = if dy (T (2 * i + 1)) - dy (T (2 * j + 1)) = 0 ∧ T (2 * j) = T (2 * i) then decide (j < i) else decide (0 < dy (T (2 * i + 1)) - dy (T (2 * j + 1)) ∧ q (8 * T (2 * j) + T (2 * i)) ≤ dy (T (2 * i + 1)) - dy (T (2 * j + 1))) := rfl
  rw [← q1.2.2.2] at F2
  have abv : ∀ x : Int, ab x = if 0 ≤ x then x else 0 - x := fun x => rfl
  have av := abv (dy (T (2 * i + 1)) - dy (T (2 * j + 1)))
  rw [A1, decide_eq_true_eq]
  generalize dy (T (2 * i + 1)) = x at *
  generalize dy (T (2 * j + 1)) = y at *
  generalize q (8 * T (2 * i) + T (2 * j)) = Q at *
  have avc : (0 ≤ x - y ∧ ab (x - y) = x - y) ∨ (x - y < 0 ∧ ab (x - y) = 0 - (x - y)) := by
    by_cases w : 0 ≤ x - y
    · rw [if_pos w] at av; exact .inl ⟨w, av⟩
    · rw [if_neg w] at av; exact .inr ⟨by omega, av⟩
  by_cases c : y - x = 0
  · by_cases e : T (2 * i) = T (2 * j)
    · rw [if_pos ⟨c, e⟩] at F1
      rw [if_pos ⟨by omega, e.symm⟩] at F2
      rw [F1, F2, decide_eq_false_iff_not, decide_eq_false_iff_not]
      have := q1.2.1 e
      omega
    · rw [if_neg (fun w => e w.2)] at F1
      rw [if_neg (fun w => e w.2.symm)] at F2
      rw [F1, F2, decide_eq_false_iff_not, decide_eq_false_iff_not]
      have := q1.2.2.1 e
      omega
  · rw [if_neg (fun w => c w.1)] at F1
    rw [if_neg (fun w => c (by omega))] at F2
    rw [F1, F2, decide_eq_false_iff_not, decide_eq_false_iff_not]
    omega
theorem reg_eq {T q ap : Int → Int} {n : Nat} (n10 : n ≤ 10) (hq : QF q) (hT : ∀ i : Int, 0 ≤ i → i < (n : Int) → 0 ≤ T (2 * i) ∧ T (2 * i) < 8) (ha : ∀ i : Nat, i < n → ap (i : Int) = ((bs (apF T q (i : Int)) n : Nat) : Int)) : (n : Int) - mx (mst (flF T q) n n) (2 ^ n) = mx (apV ap n) (2 ^ n) := by
  have full : sbs (2 ^ n - 1) (2 ^ n - 1) := fun i h => h
  have P := Nat.two_pow_pos n
  obtain ⟨r1, t, t1, t2, t3⟩ := reg_m (F := flF T q) n10 n (Nat.le_refl n) (2 ^ n - 1) full
  obtain ⟨d1, A, a1, a2, a3⟩ := dil (F := flF T q) n10 (fl_tr hq hT)
  obtain ⟨L, hL⟩ : ∃ L, L = lackG (skF (flF T q) n) (2 ^ n - 1) (2 ^ n - 1) := ⟨_, rfl⟩
  rw [← hL] at r1 t3 d1 a3
  have sub : ∀ t, t < 2 ^ n → sbs t (2 ^ n - 1) := fun t ht i hi => by
    rw [full_bit]
    by_cases c : i < n
    · simpa using c
    · rw [bit_ge ht (by omega)] at hi; exact absurd hi (by decide)
  have e1 : (n : Int) - L = mx (mst (flF T q) n n) (2 ^ n) := by
    refine mx_char ?_ (fun s hs => ?_) ?_
    · have := (pc_rg t).1; omega
    · unfold mst
      by_cases c : rch (flF T q) n n s = true
      · rw [if_pos c]; have := r1 s (sub s hs) c; omega
      · rw [if_neg c]; have := (pc_rg t).1; omega
    · right
      refine ⟨t, sbs_lt t1, ?_⟩
      unfold mst; rw [if_pos t2]; omega
  have ok : ∀ A, A < 2 ^ n → (apS ap n A = true ↔ anti (flF T q) A) := fun A hA => by
    have bn : ∀ i, A.testBit i = true → i < n := fun i hi => by
      apply Classical.byContradiction; intro w
      rw [bit_ge hA (by omega)] at hi; exact absurd hi (by decide)
    unfold apS
    rw [Bool.not_eq_true']
    constructor
    · intro h i j hi hj
      by_cases e : i = j
      · subst e; exact fl_ii
      · have hz := anyB_f h (i := (i : Int)) (by omega) (by have := bn i hi; omega)
        simp only [show ((i : Int)).toNat = i from rfl, hi, Bool.true_and, decide_eq_false_iff_not, Classical.not_not] at hz
        have bit : (mns (clr A i) (ap (i : Int)).toNat).testBit j = false := by rw [hz]; exact Nat.zero_testBit j
        rw [mns_bit, clr_bit, hj, ha i (bn i hi)] at bit
        rw [show ((bs (apF T q (i : Int)) n : Nat) : Int).toNat = bs (apF T q (i : Int)) n from rfl, bs_bit] at bit
        have jn := bn j hj
        have ne : ¬ j = i := fun w => e w.symm
        simp [jn, ne] at bit
        exact ((ap_fl hq (hT i (by omega) (by have := bn i hi; omega)) (hT j (by omega) (by omega)) (by omega)).mp bit).1
    · intro h
      cases c : anyB (fun i => A.testBit i.toNat && decide (¬ mns (clr A i.toNat) (ap i).toNat = 0)) n with
      | false => rfl
      | true =>
        exfalso
        obtain ⟨i, i1, i2⟩ := (anyB_iff _ n).mp c
        simp only [show ((i : Int)).toNat = i from rfl, Bool.and_eq_true, decide_eq_true_eq] at i2
        apply i2.2
        apply Nat.eq_of_testBit_eq; intro j
        rw [Nat.zero_testBit, mns_bit, clr_bit, ha i i1, show ((bs (apF T q (i : Int)) n : Nat) : Int).toNat = bs (apF T q (i : Int)) n from rfl, bs_bit]
        by_cases hj : A.testBit j = true
        · by_cases e : j = i
          · simp [e]
          · have jn := bn j hj
            have := (ap_fl hq (hT i (by omega) (by omega)) (hT j (by omega) (by omega)) (show (i : Int) ≠ (j : Int) by omega)).mpr ⟨h i j i2.1 hj, h j i hj i2.1⟩
            simp [this, jn]
        · simp at hj; simp [hj]
  have e2 : L = mx (apV ap n) (2 ^ n) := by
    refine mx_char (by rw [← a3]; exact (pc_rg A).1) (fun s hs => ?_) (.inr ⟨A, sbs_lt a1, ?_⟩)
    · unfold apV
      by_cases c : apS ap n s = true
      · rw [if_pos c]; exact d1 s (sub s hs) ((ok s hs).mp c)
      · rw [if_neg c, ← a3]; exact (pc_rg A).1
    · unfold apV; rw [if_pos ((ok A (sbs_lt a1)).mpr a2)]; exact a3
  omega
