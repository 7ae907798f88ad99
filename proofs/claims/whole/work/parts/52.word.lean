/-! WORDS: five bits a letter from above, and eight bits a letter -/
def jN (n : Nat) : Int64 := Int64.ofNat n
theorem jN_bv (n : Nat) : (jN n).toBitVec = BitVec.ofNat 64 n := rfl
theorem jN_or (a b : Nat) : jN a ||| jN b = jN (a ||| b) := by
  apply Int64.toBitVec_inj.mp
  rw [Int64.toBitVec_or, jN_bv, jN_bv, jN_bv]
  apply BitVec.eq_of_toNat_eq
  simp only [BitVec.toNat_or, BitVec.toNat_ofNat]
  apply Nat.eq_of_testBit_eq; intro i
  simp only [Nat.testBit_or, Nat.testBit_mod_two_pow]
  cases decide (i < 64) <;> simp
theorem jN_and (a b : Nat) : jN a &&& jN b = jN (a &&& b) := by
  apply Int64.toBitVec_inj.mp
  rw [Int64.toBitVec_and, jN_bv, jN_bv, jN_bv]
  apply BitVec.eq_of_toNat_eq
  simp only [BitVec.toNat_and, BitVec.toNat_ofNat]
  apply Nat.eq_of_testBit_eq; intro i
  simp only [Nat.testBit_and, Nat.testBit_mod_two_pow]
  cases decide (i < 64) <;> simp
theorem jN_sm : ∀ i : Nat, i < 64 → ((Int32.toInt64 (iI (i : Int)) &&& 63).toBitVec.smod 64).toNat = i := by decide +kernel
theorem jN_shl {a i : Nat} (h : i < 64) : jN a <<< (Int32.toInt64 (iI (i : Int)) &&& 63) = jN (a <<< i) := by
  apply Int64.toBitVec_inj.mp
  rw [Int64.toBitVec_shiftLeft, BitVec.shiftLeft_eq', jN_sm i h, jN_bv, jN_bv]
  apply BitVec.eq_of_toNat_eq
  simp [BitVec.toNat_shiftLeft, Nat.shiftLeft_eq]
theorem jN_shr {a i : Nat} (ha : a < 9223372036854775808) (h : i < 64) : jN a >>> (Int32.toInt64 (iI (i : Int)) &&& 63) = jN (a >>> i) := by
  apply Int64.toBitVec_inj.mp
  rw [Int64.toBitVec_shiftRight, BitVec.sshiftRight_eq', jN_sm i h, jN_bv, jN_bv]
  rw [BitVec.sshiftRight_eq_of_msb_false]
  · apply BitVec.eq_of_toNat_eq
    have h2 : a >>> i < 18446744073709551616 := by
      have := Nat.shiftRight_le a i
      omega
    simp [BitVec.toNat_ushiftRight]
    rw [Nat.mod_eq_of_lt (show a < 18446744073709551616 by omega), Nat.mod_eq_of_lt h2]
  · rw [BitVec.msb_eq_decide]
    simp
    rw [Nat.mod_eq_of_lt (show a < 18446744073709551616 by omega)]
    omega
theorem jN_eq {a b : Nat} (ha : a < 9223372036854775808) (hb : b < 9223372036854775808) : jN a = jN b ↔ a = b := by
  constructor
  · intro h
    have h1 := congrArg (fun x : Int64 => x.toBitVec.toNat) h
    simp only [jN_bv, BitVec.toNat_ofNat] at h1
    rw [Nat.mod_eq_of_lt (by omega), Nat.mod_eq_of_lt (by omega)] at h1
    exact h1
  · intro h; rw [h]
theorem jN_lt {a b : Nat} (ha : a < 9223372036854775808) (hb : b < 9223372036854775808) : jN a < jN b ↔ a < b := by
  rw [Int64.lt_iff_toInt_lt]
  unfold jN
  rw [Int64.toInt_ofNat_of_lt (by omega), Int64.toInt_ofNat_of_lt (by omega)]
  omega
theorem iI_64 {a : Nat} (h : a < 2147483648) : Int32.toInt64 (iI (a : Int)) = jN a := by
  apply Int64.toInt_inj.mp
  rw [Int32.toInt_toInt64]
  unfold jN iI
  rw [Int64.toInt_ofNat_of_lt (by omega), Int32.toInt_ofInt_of_le (by omega) (by omega)]
theorem jN_32 {a : Nat} (h : a < 9223372036854775808) : Int64.toInt32 (jN a) = iI (a : Int) := by
  apply Int32.toBitVec_inj.mp
  rw [Int64.toBitVec_toInt32, jN_bv, show (iI (a : Int)).toBitVec = BitVec.ofNat 32 a by unfold iI; rw [Int32.ofInt_eq_ofNat]; rfl]
  apply BitVec.eq_of_toNat_eq
  rw [BitVec.signExtend_eq_setWidth_of_le _ (by decide)]
  simp only [BitVec.toNat_setWidth, BitVec.toNat_ofNat]
  omega
/-- letters b below n, as 1 .. 26 from above -/
def v5 (b : Nat → Nat) : Nat → Nat
  | 0 => 0
  | n + 1 => v5 b n + (b n - 96) * 2 ^ (30 - 5 * n)
def v8 (b : Nat → Nat) : Nat → Nat
  | 0 => 0
  | n + 1 => v8 b n * 256 + b n
abbrev isL (b : Nat → Nat) (n : Nat) : Prop := ∀ i, i < n → 97 ≤ b i ∧ b i ≤ 122
def dg (b : Nat → Nat) (n i : Nat) : Nat := if i < n then b i - 96 else 0
theorem dg_lt {b : Nat → Nat} {n : Nat} (h : isL b n) (i : Nat) : dg b n i < 32 := by
  unfold dg
  split
  · rename_i q; have := h i q; omega
  · omega
def p5 : Nat → Nat
  | 0 => 1073741824
  | 1 => 33554432
  | 2 => 1048576
  | 3 => 32768
  | 4 => 1024
  | 5 => 32
  | _ => 1
theorem p5_e : ∀ n, n < 7 → 2 ^ (30 - 5 * n) = p5 n := by decide +kernel
theorem v5_sum {b : Nat → Nat} {n : Nat} (hn : n ≤ 7) : v5 b n = dg b n 0 * 1073741824 + dg b n 1 * 33554432 + dg b n 2 * 1048576 + dg b n 3 * 32768 + dg b n 4 * 1024 + dg b n 5 * 32 + dg b n 6 := by
  have e : ∀ n, n < 7 → v5 b (n + 1) = v5 b n + (b n - 96) * p5 n := fun n h => by rw [v5, p5_e n h]
  have e0 := e 0 (by decide); have e1 := e 1 (by decide); have e2 := e 2 (by decide); have e3 := e 3 (by decide); have e4 := e 4 (by decide); have e5 := e 5 (by decide); have e6 := e 6 (by decide)
  have z : v5 b 0 = 0 := rfl
  simp only [p5, Nat.reduceAdd, Nat.zero_add] at e0 e1 e2 e3 e4 e5 e6
  rcases (by omega : n = 0 ∨ n = 1 ∨ n = 2 ∨ n = 3 ∨ n = 4 ∨ n = 5 ∨ n = 6 ∨ n = 7) with h | h | h | h | h | h | h | h <;> subst h <;> simp only [dg, Nat.reduceLT, if_true, if_false] <;> omega
theorem v5_dg {b : Nat → Nat} {n : Nat} (hn : n ≤ 7) (h : isL b n) : ∀ i, i < 7 → v5 b n >>> (30 - 5 * i) % 32 = dg b n i := by
  intro i hi
  rw [v5_sum hn, Nat.shiftRight_eq_div_pow]
  have d0 := dg_lt h 0; have d1 := dg_lt h 1; have d2 := dg_lt h 2; have d3 := dg_lt h 3; have d4 := dg_lt h 4; have d5 := dg_lt h 5; have d6 := dg_lt h 6
  rw [p5_e i hi]
  rcases (by omega : i = 0 ∨ i = 1 ∨ i = 2 ∨ i = 3 ∨ i = 4 ∨ i = 5 ∨ i = 6) with e | e | e | e | e | e | e <;> subst e <;> simp only [p5] <;> omega
theorem v5_lt {b : Nat → Nat} {n : Nat} (hn : n ≤ 7) (h : isL b n) : v5 b n < 34359738368 := by
  rw [v5_sum hn]
  have d0 := dg_lt h 0; have d1 := dg_lt h 1; have d2 := dg_lt h 2; have d3 := dg_lt h 3; have d4 := dg_lt h 4; have d5 := dg_lt h 5; have d6 := dg_lt h 6
  omega
theorem v8_lt {b : Nat → Nat} : ∀ {n : Nat}, isL b n → v8 b n < 256 ^ n
  | 0, _ => by simp [v8]
  | n + 1, h => by
    have ih := v8_lt (n := n) (fun i hi => h i (by omega))
    have := h n (by omega)
    rw [v8, Nat.pow_succ]; omega
theorem v8_lt7 {b : Nat → Nat} {n : Nat} (hn : n ≤ 7) (h : isL b n) : v8 b n < 9223372036854775808 := by
  have := v8_lt h
  have h2 : 256 ^ n ≤ 256 ^ 7 := Nat.pow_le_pow_right (by decide) hn
  have h3 : 256 ^ 7 = 72057594037927936 := by decide
  omega
theorem v8_inj {b c : Nat → Nat} : ∀ {n m : Nat}, isL b n → isL c m → v8 b n = v8 c m → n = m ∧ ∀ i, i < n → b i = c i
  | 0, 0, _, _, _ => ⟨rfl, fun i hi => by omega⟩
  | 0, m + 1, _, h, e => by
    have := h m (by omega)
    rw [v8, v8] at e; omega
  | n + 1, 0, h, _, e => by
    have := h n (by omega)
    rw [v8, v8] at e; omega
  | n + 1, m + 1, h, h', e => by
    have h1 := h n (by omega); have h2 := h' m (by omega)
    rw [v8, v8] at e
    have ih := v8_inj (n := n) (m := m) (fun i hi => h i (by omega)) (fun i hi => h' i (by omega)) (by omega)
    refine ⟨by omega, fun i hi => ?_⟩
    by_cases q : i = n
    · rw [q]
      have : n = m := ih.1
      rw [← this] at e; rw [← this] at h2; omega
    · exact ih.2 i (by omega)
theorem v5_inj {b c : Nat → Nat} {n m : Nat} (hn : n ≤ 7) (hm : m ≤ 7) (h : isL b n) (h' : isL c m) (e : v5 b n = v5 c m) : n = m ∧ ∀ i, i < n → b i = c i := by
  have d : ∀ i, i < 7 → dg b n i = dg c m i := fun i hi => by rw [← v5_dg hn h i hi, ← v5_dg hm h' i hi, e]
  have nm : n = m := by
    rcases Nat.lt_trichotomy n m with q | q | q
    · have := d n (by omega); have h2 := h' n (by omega)
      unfold dg at this; rw [if_neg (by omega), if_pos q] at this; omega
    · exact q
    · have := d m (by omega); have h2 := h m (by omega)
      unfold dg at this; rw [if_pos q, if_neg (by omega)] at this; omega
  refine ⟨nm, fun i hi => ?_⟩
  have := d i (by omega); have h1 := h i hi; have h2 := h' i (by omega)
  unfold dg at this; rw [if_pos hi, if_pos (by omega)] at this; omega
theorem v_congr {b c : Nat → Nat} : ∀ {n : Nat}, (∀ i, i < n → b i = c i) → v5 b n = v5 c n ∧ v8 b n = v8 c n
  | 0, _ => ⟨rfl, rfl⟩
  | n + 1, h => by
    have ih := v_congr (n := n) (fun i hi => h i (by omega))
    rw [v5, v5, v8, v8, ih.1, ih.2, h n (by omega)]; exact ⟨rfl, rfl⟩
/-- the same word, here and there -/
def WR (x y : Int64) : Prop := ∃ (n : Nat) (b : Nat → Nat), (1 ≤ n ∧ n ≤ 7) ∧ isL b n ∧ x = jN (v5 b n) ∧ y = jN (v8 b n)
theorem WR_eq {x y x' y' : Int64} (h : WR x y) (h' : WR x' y') : x = x' ↔ y = y' := by
  obtain ⟨n, b, n7, l, e1, e2⟩ := h
  obtain ⟨m, c, m7, l', e3, e4⟩ := h'
  have a1 := v5_lt n7.2 l; have a2 := v5_lt m7.2 l'; have a3 := v8_lt7 n7.2 l; have a4 := v8_lt7 m7.2 l'
  rw [e1, e2, e3, e4, jN_eq (by omega) (by omega), jN_eq a3 a4]
  constructor
  · intro e
    obtain ⟨q, r⟩ := v5_inj n7.2 m7.2 l l' e
    subst q; exact (v_congr r).2
  · intro e
    obtain ⟨q, r⟩ := v8_inj l l' e
    subst q; exact (v_congr r).1
theorem WR_n0 {x y : Int64} (h : WR x y) : x ≠ 0 ∧ y ≠ 0 := by
  obtain ⟨n, b, n7, l, e1, e2⟩ := h
  have a1 := v5_lt n7.2 l; have a3 := v8_lt7 n7.2 l
  have l0 := l 0 (by omega)
  constructor
  · intro z
    have e : jN (v5 b n) = jN 0 := by rw [← e1, z]; rfl
    rw [jN_eq (by omega) (by omega)] at e
    have := v5_dg n7.2 l 0 (by omega)
    rw [e] at this
    unfold dg at this; rw [if_pos (by omega)] at this
    simp at this; omega
  · intro z
    have e : jN (v8 b n) = jN 0 := by rw [← e2, z]; rfl
    rw [jN_eq (by omega) (by omega)] at e
    obtain ⟨k, rfl⟩ : ∃ k, n = k + 1 := ⟨n - 1, by omega⟩
    rw [v8] at e
    have := l k (by omega)
    omega
/-- one letter more -/
theorem v5_put {b : Nat → Nat} {n : Nat} (hn : n < 7) (h : isL b (n + 1)) : v5 b n ||| ((b n - 96) <<< (30 - 5 * n)) = v5 b (n + 1) := by
  have hb := h n (by omega)
  have hl : isL b n := fun i hi => h i (by omega)
  rw [Nat.shiftLeft_eq, v5]
  have q5 : ∀ n, n < 7 → 2 ^ (35 - 5 * n) = 32 * p5 n := by decide +kernel
  have key : v5 b n = 2 ^ (35 - 5 * n) * (v5 b n / 2 ^ (35 - 5 * n)) := by
    have s := v5_sum (b := b) (n := n) (by omega)
    rw [q5 n hn]
    generalize v5 b n = w at *
    rcases (by omega : n = 0 ∨ n = 1 ∨ n = 2 ∨ n = 3 ∨ n = 4 ∨ n = 5 ∨ n = 6) with e | e | e | e | e | e | e <;> subst e <;> simp only [dg, p5, Nat.reduceLT, if_true, if_false, Nat.reduceMul] at s ⊢ <;> omega
  have lt : (b n - 96) * 2 ^ (30 - 5 * n) < 2 ^ (35 - 5 * n) := by
    rw [show 35 - 5 * n = (30 - 5 * n) + 5 by omega, Nat.pow_add, Nat.mul_comm (2 ^ (30 - 5 * n)) (2 ^ 5)]
    exact Nat.mul_lt_mul_of_pos_right (by omega) (Nat.two_pow_pos _)
  rw [key, Nat.two_pow_add_eq_or_of_lt lt]
theorem v8_put {b : Nat → Nat} {n : Nat} (h : b n < 256) : v8 b n <<< 8 ||| b n = v8 b (n + 1) := by
  rw [v8, Nat.shiftLeft_eq, Nat.mul_comm (v8 b n) (2 ^ 8), ← Nat.two_pow_add_eq_or_of_lt (by omega), Nat.mul_comm]
