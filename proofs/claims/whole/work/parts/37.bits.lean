/-! BITS: a set of small numbers as a Nat; shifts; division; the rest -/
theorem iI_bv (n : Nat) : (iI (n : Int)).toBitVec = BitVec.ofNat 32 n := by
  unfold iI; rw [Int32.ofInt_eq_ofNat]; rfl
theorem ib_or (a b : Nat) : iI (a : Int) ||| iI (b : Int) = iI ((a ||| b : Nat) : Int) := by
  apply Int32.toBitVec_inj.mp
  rw [Int32.toBitVec_or, iI_bv, iI_bv, iI_bv]
  apply BitVec.eq_of_toNat_eq
  simp only [BitVec.toNat_or, BitVec.toNat_ofNat]
  apply Nat.eq_of_testBit_eq; intro i
  simp only [Nat.testBit_or, Nat.testBit_mod_two_pow]
  cases decide (i < 32) <;> simp
theorem ib_and (a b : Nat) : iI (a : Int) &&& iI (b : Int) = iI ((a &&& b : Nat) : Int) := by
  apply Int32.toBitVec_inj.mp
  rw [Int32.toBitVec_and, iI_bv, iI_bv, iI_bv]
  apply BitVec.eq_of_toNat_eq
  simp only [BitVec.toNat_and, BitVec.toNat_ofNat]
  apply Nat.eq_of_testBit_eq; intro i
  simp only [Nat.testBit_and, Nat.testBit_mod_two_pow]
  cases decide (i < 32) <;> simp
/-- the shift's own count -/
theorem ib_31 {i : Nat} (h : i < 32) : iI (i : Int) &&& iI 31 = iI (i : Int) := by
  rw [show (31 : Int) = ((31 : Nat) : Int) from rfl, ib_and, Nat.and_two_pow_sub_one_eq_mod i 5, Nat.mod_eq_of_lt h]
theorem ib_smod : ∀ i : Nat, i < 32 → ((iI (i : Int)).toBitVec.smod 32).toNat = i := by decide +kernel
theorem ib_shl {a i : Nat} (h : i < 32) : iI (a : Int) <<< (iI (i : Int) &&& iI 31) = iI ((a <<< i : Nat) : Int) := by
  rw [ib_31 h]
  apply Int32.toBitVec_inj.mp
  rw [Int32.toBitVec_shiftLeft, BitVec.shiftLeft_eq', ib_smod i h, iI_bv, iI_bv]
  apply BitVec.eq_of_toNat_eq
  simp [BitVec.toNat_shiftLeft, Nat.shiftLeft_eq]
theorem ib_shr {a i : Nat} (ha : a < 2147483648) (h : i < 32) : iI (a : Int) >>> (iI (i : Int) &&& iI 31) = iI ((a >>> i : Nat) : Int) := by
  rw [ib_31 h]
  apply Int32.toBitVec_inj.mp
  rw [Int32.toBitVec_shiftRight, BitVec.sshiftRight_eq', ib_smod i h, iI_bv, iI_bv]
  rw [BitVec.sshiftRight_eq_of_msb_false]
  · apply BitVec.eq_of_toNat_eq
    have h2 : a >>> i < 4294967296 := by
      have := Nat.shiftRight_le a i
      omega
    simp [BitVec.toNat_ushiftRight]
    rw [Nat.mod_eq_of_lt (show a < 4294967296 by omega), Nat.mod_eq_of_lt h2]
  · rw [BitVec.msb_eq_decide]
    simp
    rw [Nat.mod_eq_of_lt (show a < 4294967296 by omega)]
    omega
theorem ib_bit {a i : Nat} (ha : a < 2147483648) (h : i < 32) : (iI (a : Int) >>> (iI (i : Int) &&& iI 31)) &&& iI 1 = bI (a.testBit i = true) := by
  rw [ib_shr ha h, show (1 : Int) = ((1 : Nat) : Int) from rfl, ib_and]
  unfold Nat.testBit bI
  rw [Nat.and_comm 1 (a >>> i)]
  rcases Nat.mod_two_eq_zero_or_one (a >>> i) with e | e
  · simp [Nat.and_one_is_mod, e, show (iI 0 : Int32) = 0 from rfl]
  · simp [Nat.and_one_is_mod, e, show (iI 1 : Int32) = 1 from rfl]
theorem ib_one {i : Nat} (h : i < 32) : (iI 1) <<< (iI (i : Int) &&& iI 31) = iI ((2 ^ i : Nat) : Int) := by
  rw [show (1 : Int) = ((1 : Nat) : Int) from rfl, ib_shl h, Nat.shiftLeft_eq, Nat.one_mul]
theorem iI_div {a b : Int} (ha : 0 ≤ a) (ha' : a < 2147483648) (hb : 0 < b) (hb' : b < 2147483648) : iI a / iI b = iI (a / b) := by
  unfold iI
  rw [← Int32.ofInt_tdiv (by have : Int32.minValue.toInt = -2147483648 := by decide
                             omega) (by have : Int32.maxValue.toInt = 2147483647 := by decide
                                        omega) (by have : Int32.minValue.toInt = -2147483648 := by decide
                                                   omega) (by have : Int32.maxValue.toInt = 2147483647 := by decide
                                                              omega), Int.tdiv_eq_ediv_of_nonneg ha]
theorem iI_mod {a b : Int} (ha : 0 ≤ a) (ha' : a < 2147483648) (hb : 0 < b) (hb' : b < 2147483648) : iI a - iI a / iI b * iI b = iI (a % b) := by
  rw [iI_div ha ha' hb hb', iI_mul, iI_sub]
  congr 1
  have := Int.mul_ediv_add_emod a b
  rw [Int.mul_comm] at this
  omega
theorem nz_i {a : Int} (h : a ≠ 0) (h1 : -2147483648 ≤ a) (h2 : a < 2147483648) : nz (iI a) = some () := by
  unfold nz
  rw [if_neg]
  rw [show (0 : Int32) = iI 0 from rfl, iI_eq h1 h2 (by decide) (by decide)]
  exact h
/-- the set of those below n for which p holds -/
def bs (p : Int → Bool) : Nat → Nat
  | 0 => 0
  | n + 1 => bs p n ||| (if p (n : Int) = true then 2 ^ n else 0)
theorem bs_bit (p : Int → Bool) : ∀ (n i : Nat), (bs p n).testBit i = (decide (i < n) && p (i : Int))
  | 0, i => by simp [bs]
  | n + 1, i => by
    rw [bs, Nat.testBit_or, bs_bit p n i]
    by_cases h : i = n
    · subst h
      cases hp : p (i : Int) <;> simp [Nat.testBit_two_pow_self]
    · have e : (if p (n : Int) = true then 2 ^ n else 0).testBit i = false := by
        split
        · exact Nat.testBit_two_pow_of_ne (Ne.symm h)
        · simp
      rw [e]
      have : (i < n + 1) ↔ i < n := by omega
      simp [this]
theorem bs_lt (p : Int → Bool) (n : Nat) : bs p n < 2 ^ n := by
  apply Nat.lt_pow_two_of_testBit
  intro i hi
  rw [bs_bit]
  simp; omega
theorem bs_eq {p q : Int → Bool} {n m : Nat} (h : ∀ i : Nat, (i < n ∧ p (i : Int) = true) ↔ (i < m ∧ q (i : Int) = true)) : bs p n = bs q m := by
  apply Nat.eq_of_testBit_eq; intro i
  rw [bs_bit, bs_bit]
  have := h i
  by_cases a : i < n ∧ p (i : Int) = true
  · have b := this.mp a
    simp [a.1, a.2, b.1, b.2]
  · have b : ¬ (i < m ∧ q (i : Int) = true) := fun q => a (this.mpr q)
    have e1 : (decide (i < n) && p (i : Int)) = false := by
      rw [Bool.eq_false_iff]; intro z; simp at z; exact a z
    have e2 : (decide (i < m) && q (i : Int)) = false := by
      rw [Bool.eq_false_iff]; intro z; simp at z; exact b z
    rw [e1, e2]
theorem bs_set {p : Int → Bool} {n : Nat} (h : p (n : Int) = true) : bs p n ||| 2 ^ n = bs p (n + 1) := by rw [bs, if_pos h]
theorem bs_not {p : Int → Bool} {n : Nat} (h : ¬ p (n : Int) = true) : bs p n = bs p (n + 1) := by rw [bs, if_neg h, Nat.or_zero]
theorem bs_z {p : Int → Bool} : iI 0 = iI ((bs p 0 : Nat) : Int) := rfl
/-- the loop's step on a set -/
theorem ib_put {p : Int → Bool} {i : Int} (h0 : 0 ≤ i) (h1 : i < 31) (h : p i = true) : iI ((bs p i.toNat : Nat) : Int) ||| ((iI 1) <<< (iI i &&& iI 31)) = iI ((bs p (i + 1).toNat : Nat) : Int) := by
  have e : i = (i.toNat : Int) := by omega
  have e2 : (i + 1).toNat = i.toNat + 1 := by omega
  rw [e2, ← bs_set (by rw [← e]; exact h)]
  rw [show iI i = iI (i.toNat : Int) by rw [← e], ib_one (by omega), ib_or]
theorem ib_pass {p : Int → Bool} {i : Int} (h0 : 0 ≤ i) (h : ¬ p i = true) : iI ((bs p i.toNat : Nat) : Int) = iI ((bs p (i + 1).toNat : Nat) : Int) := by
  have e : i = (i.toNat : Int) := by omega
  have e2 : (i + 1).toNat = i.toNat + 1 := by omega
  rw [e2, ← bs_not (by rw [← e]; exact h)]
/-! the same, of Ints -/
def wr (a : Int) : Int := (iI a).toInt
theorem iI_wr (a : Int) : iI (wr a) = iI a := iI_of _
theorem wr_rg (a : Int) : Rg (wr a) := iI_rg _
theorem wr_id {a : Int} (h1 : -2147483648 ≤ a) (h2 : a < 2147483648) : wr a = a := iI_to ⟨h1, h2⟩
def bitI (a b : Int) : Bool := a.toNat.testBit b.toNat
def pw (b : Int) : Int := ((2 ^ b.toNat : Nat) : Int)
def ior (a b : Int) : Int := (iI a ||| iI b).toInt
theorem ior_rg (a b : Int) : Rg (ior a b) := iI_rg _
theorem iI_or (a b : Int) : iI a ||| iI b = iI (ior a b) := (iI_of _).symm
theorem ii_one {b : Int} (h0 : 0 ≤ b) (h1 : b < 31) : (iI 1) <<< (iI b &&& iI 31) = iI (pw b) := by
  have e : iI b = iI ((b.toNat : Nat) : Int) := congrArg iI (by omega)
  rw [e, ib_one (by omega)]
  rfl
theorem ii_bit {a b : Int} (h0 : 0 ≤ a) (h1 : a < 2147483648) (h2 : 0 ≤ b) (h3 : b < 32) : (iI a >>> (iI b &&& iI 31)) &&& iI 1 = bI (bitI a b = true) := by
  have e : iI a = iI ((a.toNat : Nat) : Int) := congrArg iI (by omega)
  have e2 : iI b = iI ((b.toNat : Nat) : Int) := congrArg iI (by omega)
  rw [e, e2, ib_bit (by omega) (by omega)]
  rfl
theorem ior_nat (a b : Nat) (h : a ||| b < 2147483648) : ior (a : Int) (b : Int) = ((a ||| b : Nat) : Int) := by
  unfold ior; rw [ib_or, iI_to ⟨by omega, by omega⟩]
theorem ior_bit {a b : Int} (h0 : 0 ≤ a) (h1 : a < 1073741824) (h2 : 0 ≤ b) (h3 : b < 30) : 0 ≤ ior a (pw b) ∧ (∀ n : Nat, a < ((2 ^ n : Nat) : Int) → b < (n : Int) → ior a (pw b) < ((2 ^ n : Nat) : Int)) ∧ ∀ c : Int, 0 ≤ c → bitI (ior a (pw b)) c = (bitI a c || decide (c = b)) := by
  have e : a = ((a.toNat : Nat) : Int) := by omega
  have hl : a.toNat ||| 2 ^ b.toNat < 2 ^ 30 := Nat.or_lt_two_pow (by omega) (Nat.pow_lt_pow_right (by decide) (by omega))
  have e3 : ior a (pw b) = ((a.toNat ||| 2 ^ b.toNat : Nat) : Int) := by
    have := ior_nat a.toNat (2 ^ b.toNat) (by omega)
    rw [← e] at this; exact this
  rw [e3]
  refine ⟨by omega, fun n hn hb => ?_, fun c hc => ?_⟩
  · have : a.toNat ||| 2 ^ b.toNat < 2 ^ n := Nat.or_lt_two_pow (by omega) (Nat.pow_lt_pow_right (by decide) (by omega))
    omega
  · unfold bitI
    rw [Int.toNat_natCast, Nat.testBit_or]
    congr 1
    by_cases q : c = b
    · subst q; simp [Nat.testBit_two_pow_self]
    · rw [Nat.testBit_two_pow_of_ne (by omega)]; simp [q]
