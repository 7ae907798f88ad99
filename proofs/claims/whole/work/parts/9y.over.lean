/-! ONE NAME PAINTED OVER ANOTHER -/
def mxL (b : Nat → Nat) (n : Nat) (c : Nat → Nat) (m : Nat) (i : Nat) : Nat := if dg c m i < dg b n i then dg b n i else dg c m i
def mxW (b : Nat → Nat) (n : Nat) (c : Nat → Nat) (m : Nat) : Nat → Nat := fun i => mxL b n c m i + 96
def mxN (n m : Nat) : Nat := if m < n then n else m
theorem mx_isL {b c : Nat → Nat} {n m : Nat} (hb : isL b n) (hc : isL c m) : isL (mxW b n c m) (mxN n m) := fun i hi => by
  have h1 := hb i; have h2 := hc i
  unfold mxW mxL mxN dg at *
  by_cases c1 : i < n
  · have := h1 c1
    rw [if_pos c1]
    by_cases c2 : i < m
    · have := h2 c2
      rw [if_pos c2]; split <;> omega
    · rw [if_neg c2]; split <;> omega
  · rw [if_neg c1]
    have c2 : i < m := by split at hi <;> omega
    have := h2 c2
    rw [if_pos c2]; split <;> omega
theorem mxL_0 {b c : Nat → Nat} {n m i : Nat} (h : mxN n m ≤ i) : mxL b n c m i = 0 := by
  unfold mxL dg mxN at *
  have h1 : ¬ i < n := by split at h <;> omega
  have h2 : ¬ i < m := by split at h <;> omega
  rw [if_neg h1, if_neg h2]; rfl
theorem mx_32 {b c : Nat → Nat} {n m i : Nat} (hb : isL b n) (hc : isL c m) : mxL b n c m i < 32 := by
  have h1 := dg_lt hb i; have h2 := dg_lt hc i
  unfold mxL; split <;> omega
theorem mx_v5 {b c : Nat → Nat} {n m : Nat} (hn : n ≤ 7) (hm : m ≤ 7) : ∀ k : Nat, mxN n m + k ≤ 7 → v5 (mxW b n c m) (mxN n m + k) = v5 (mxW b n c m) (mxN n m)
  | 0, _ => rfl
  | k + 1, h => by
    show v5 (mxW b n c m) (mxN n m + k) + (mxW b n c m (mxN n m + k) - 96) * 2 ^ (30 - 5 * (mxN n m + k)) = _
    have : mxW b n c m (mxN n m + k) - 96 = 0 := by unfold mxW; rw [mxL_0 (by omega)]
    rw [this, Nat.zero_mul, Nat.add_zero]
    exact mx_v5 hn hm k (by omega)
theorem mx_put {b c : Nat → Nat} {n m i : Nat} (hn : n ≤ 7) (hm : m ≤ 7) (hb : isL b n) (hc : isL c m) (hi : i < 7) : v5 (mxW b n c m) i ||| (mxL b n c m i <<< (30 - 5 * i)) = v5 (mxW b n c m) (i + 1) := by
  by_cases k : i < mxN n m
  · have := v5_put (b := mxW b n c m) hi (fun j hj => mx_isL hb hc j (by omega))
    have e : mxW b n c m i - 96 = mxL b n c m i := by unfold mxW; omega
    rw [e] at this; exact this
  · have z : mxL b n c m i = 0 := mxL_0 (by omega)
    rw [z, Nat.zero_shiftLeft, Nat.or_zero]
    show _ = v5 (mxW b n c m) i + (mxW b n c m i - 96) * 2 ^ (30 - 5 * i)
    have : mxW b n c m i - 96 = 0 := by unfold mxW; rw [z]
    rw [this, Nat.zero_mul, Nat.add_zero]
theorem mx_WR {b c : Nat → Nat} {n m : Nat} (hn : 1 ≤ n ∧ n ≤ 7) (hm : 1 ≤ m ∧ m ≤ 7) (hb : isL b n) (hc : isL c m) : WR (jN (v5 (mxW b n c m) 7)) (jN (v8 (mxW b n c m) (mxN n m))) := by
  have N7 : 1 ≤ mxN n m ∧ mxN n m ≤ 7 := by unfold mxN; split <;> omega
  refine ⟨mxN n m, mxW b n c m, N7, mx_isL hb hc, ?_, rfl⟩
  have := mx_v5 (b := b) (c := c) hn.2 hm.2 (7 - mxN n m) (by omega)
  rw [show mxN n m + (7 - mxN n m) = 7 by omega] at this
  rw [this]
theorem jN_31 {a i : Nat} (ha : a < 9223372036854775808) (hi : i ≤ 30) : ((jN a >>> (Int32.toInt64 (iI (i : Int)) &&& 63)) &&& 31) = jN (a >>> i % 32) := by
  rw [jN_shr ha (by omega), show (31 : Int64) = jN 31 from rfl, jN_and]
  have : a >>> i &&& 31 = a >>> i % 32 := Nat.and_two_pow_sub_one_eq_mod (a >>> i) 5
  rw [this]
/-- the class's mix -/
theorem e_mix {f0 : Nat} {Y : YS} {X : XS} {b c : Nat → Nat} {n m : Nat} (g : GY Y) (hn : n ≤ 7) (hm : m ≤ 7) (hb : isL b n) (hc : isL c m) (hf : 20 ≤ f0) : bX6_shipOver_28 f0 f0 (Ad Y 6 0) (jN (v5 b n)) (jN (v5 c m)) 0 (iI 30) (hp Y X) = ob2 (fX3_find f0 (Ad Y 3 0) (jN (v5 (mxW b n c m) 7)) (iI 3) (hp Y X)) (fun a h => some (a, h)) := by
  have g0 := SeO_0 g
  have l1 := v5_lt hn hb; have l2 := v5_lt hm hc
  have z : bX6_shipOver_28 f0 f0 (Ad Y 6 0) (jN (v5 b n)) (jN (v5 c m)) 0 (iI 30) (hp Y X) = bX6_shipOver_28 f0 f0 (Ad Y 6 0) (jN (v5 b n)) (jN (v5 c m)) (jN (v5 (mxW b n c m) 0)) (iI (30 - 5 * ((0 : Nat) : Int))) (hp Y X) := rfl
  rw [z]
  refine lp (fun f (i : Nat) => bX6_shipOver_28 f0 f (Ad Y 6 0) (jN (v5 b n)) (jN (v5 c m)) (jN (v5 (mxW b n c m) i)) (iI (30 - 5 * (i : Int))) (hp Y X)) (fun i => i ≤ 7) (fun i => 8 - i) (fun z => z = _) ?_ f0 0 (by omega) (by omega)
  intro f i hi
  by_cases k : 30 - 5 * (i : Int) < 0
  · left
    have ie : i = 7 := by omega
    subst ie
    simp (disch := first | assumption | omega) only [bX6_shipOver_28, g_6_0, k_3, lm_5, li_0, li_1, li_3, li_63, li_31, li_5, ob2, iI_add, Option.bind_some, iI_neg, iI_lt, if_pos k]
  · right
    refine ⟨i + 1, ?_, by omega, by omega⟩
    have e30 : (30 : Int) - 5 * (i : Int) = ((30 - 5 * i : Nat) : Int) := by omega
    have s1 := jN_31 (a := v5 b n) (i := 30 - 5 * i) (by omega) (by omega)
    have s2 := jN_31 (a := v5 c m) (i := 30 - 5 * i) (by omega) (by omega)
    rw [v5_dg hn hb i (by omega), ← e30] at s1
    rw [v5_dg hm hc i (by omega), ← e30] at s2
    have d1 := dg_lt hb i; have d2 := dg_lt hc i
    have mx : (if jN (dg c m i) < jN (dg b n i) then jN (dg b n i) else jN (dg c m i)) = jN (mxL b n c m i) := by
      unfold mxL
      by_cases q : dg c m i < dg b n i
      · rw [if_pos q, if_pos ((jN_lt (by omega) (by omega)).mpr q)]
      · rw [if_neg q, if_neg (fun z => q ((jN_lt (by omega) (by omega)).mp z))]
    have sh := jN_shl (a := mxL b n c m i) (i := 30 - 5 * i) (by omega)
    rw [← e30] at sh
    have k' := k
    simp (disch := first | assumption | omega) only [bX6_shipOver_28, g_6_0, k_3, lm_5, li_0, li_1, li_3, li_63, li_31, li_5, ob2, iI_add, Option.bind_some, iI_neg, iI_lt, if_neg k, s1, s2, mx, sh, jN_or, mx_put hn hm hb hc (show i < 7 by omega), iI_neg]
    rw [show 30 - 5 * (i : Int) + -5 = 30 - 5 * ((i + 1 : Nat) : Int) by omega]
theorem jN_ushr {a : Nat} (h : a < 9223372036854775808) : ((Int64.toUInt64 (jN a) >>> ((Int32.toInt64 (iI 8)).toUInt64 &&& Int64.toUInt64 63)).toInt64) = jN (a >>> 8) := by
  have e : ((Int32.toInt64 (iI 8)).toUInt64 &&& Int64.toUInt64 63) = (8 : UInt64) := by decide
  rw [e]
  apply Int64.toBitVec_inj.mp
  show ((Int64.toUInt64 (jN a)) >>> (8 : UInt64)).toBitVec = _
  rw [UInt64.toBitVec_shiftRight]
  show (BitVec.ofNat 64 a) >>> ((8 : UInt64).toBitVec % 64) = BitVec.ofNat 64 (a >>> 8)
  apply BitVec.eq_of_toNat_eq
  have h2 : a >>> 8 < 18446744073709551616 := by have := Nat.shiftRight_le a 8; omega
  rw [show ((8 : UInt64).toBitVec % 64) = (8 : BitVec 64) by decide]
  simp [BitVec.toNat_ushiftRight]
  rw [Nat.mod_eq_of_lt (show a < 18446744073709551616 by omega), Nat.mod_eq_of_lt h2]
theorem v8_sh {b : Nat → Nat} {n : Nat} (h : isL b (n + 1)) : v8 b (n + 1) >>> 8 = v8 b n := by
  have := h n (by omega)
  rw [v8, Nat.shiftRight_eq_div_pow]; omega
theorem r_letters {f0 : Nat} {h : Hp} {b : Nat → Nat} {n : Nat} (hn : n ≤ 7) (hb : isL b n) (hf : 20 ≤ f0) : fX12_lettersOf f0 (jN (v8 b n)) h = some (iI (n : Int), h) := by
  have z : fX12_lettersOf f0 (jN (v8 b n)) h = bX12_lettersOf_4 f0 f0 (iI ((0 : Nat) : Int)) (jN (v8 b (n - 0))) h := rfl
  rw [z]
  refine lp (fun f (i : Nat) => bX12_lettersOf_4 f0 f (iI (i : Int)) (jN (v8 b (n - i))) h) (fun i => i ≤ n) (fun i => n - i) (fun z => z = _) ?_ f0 0 (by omega) (by omega)
  intro f i hi
  have lb : isL b (n - i) := fun j hj => hb j (by omega)
  have lt := v8_lt7 (n := n - i) (by omega) lb
  by_cases k : n - i = 0
  · left
    have e0 : v8 b (n - i) = 0 := by rw [k]; rfl
    have q : jN (v8 b (n - i)) = 0 := by rw [e0]; rfl
    simp (disch := first | assumption | omega) only [bX12_lettersOf_4, li_0, lg_eq, if_pos q]
    rw [show i = n by omega]
  · right
    refine ⟨i + 1, ?_, by omega, by omega⟩
    have q : ¬ jN (v8 b (n - i)) = 0 := fun z => by
      have e : v8 b (n - i) = 0 := (jN_eq lt (by decide)).mp z
      obtain ⟨j, hj⟩ : ∃ j, n - i = j + 1 := ⟨n - i - 1, by omega⟩
      rw [hj, v8] at e
      have := lb j (by omega); omega
    obtain ⟨j, hj⟩ : ∃ j, n - i = j + 1 := ⟨n - i - 1, by omega⟩
    have sh := jN_ushr lt
    have v : v8 b (n - i) >>> 8 = v8 b (n - (i + 1)) := by rw [hj, v8_sh (by rw [← hj]; exact lb), show n - (i + 1) = j by omega]
    rw [v] at sh
    simp (disch := first | assumption | omega) only [bX12_lettersOf_4, li_0, li_1, li_8, lg_eq, if_neg q, sh, iI_add]
    rw [show (i : Int) + 1 = ((i + 1 : Nat) : Int) by omega]
theorem v8_at {b : Nat → Nat} : ∀ (d k : Nat), isL b (k + 1 + d) → v8 b (k + 1 + d) >>> (8 * d) = v8 b (k + 1)
  | 0, k, _ => by rw [Nat.mul_zero, Nat.shiftRight_zero]
  | d + 1, k, h => by
    rw [show 8 * (d + 1) = 8 + 8 * d by omega, Nat.shiftRight_add, show k + 1 + (d + 1) = (k + 1 + d) + 1 by omega, v8_sh (by rw [show k + 1 + d + 1 = k + 1 + (d + 1) by omega]; exact h)]
    exact v8_at d k (fun j hj => h j (by omega))
theorem r_letter {f0 : Nat} {h : Hp} {b : Nat → Nat} {n k : Nat} (hn : n ≤ 7) (hb : isL b n) (hk : k < n) (hf : 20 ≤ f0) : fX12_letterOf f0 (jN (v8 b n)) (iI (k : Int)) h = some (iI ((b k : Nat) : Int), h) := by
  have lt := v8_lt7 hn hb
  have bk := hb k hk
  have e8 : (8 : Int) * ((n : Int) - 1 - (k : Int)) = ((8 * (n - 1 - k) : Nat) : Int) := by omega
  have sr := jN_shr (a := v8 b n) (i := 8 * (n - 1 - k)) lt (by omega)
  have va := v8_at (b := b) (n - 1 - k) k (by rw [show k + 1 + (n - 1 - k) = n by omega]; exact hb)
  rw [show k + 1 + (n - 1 - k) = n by omega] at va
  rw [va, ← e8] at sr
  have lk := v8_lt7 (b := b) (n := k + 1) (by omega) (fun j hj => hb j (by omega))
  have m256 : v8 b (k + 1) &&& 255 = b k := by
    have : v8 b (k + 1) &&& 255 = v8 b (k + 1) % 256 := Nat.and_two_pow_sub_one_eq_mod _ 8
    rw [this, v8]; omega
  have an : iI ((v8 b (k + 1) : Nat) : Int) &&& iI 255 = iI ((b k : Nat) : Int) := by
    rw [show iI 255 = iI ((255 : Nat) : Int) from rfl, ib_and, m256]
  simp (disch := first | assumption | omega) only [fX12_letterOf, li_8, li_1, li_63, li_255, ob2, iI_mul, iI_sub, Option.bind_some, iI_add, r_letters hn hb hf, iI_sub, iI_mul, sr, jN_32 lk, an]
