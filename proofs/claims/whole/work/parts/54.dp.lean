/-! THE FEWEST TO LEARN, role by role -/
def cN (N r : Nat) : Int := cnt (fun i => N.testBit i.toNat) r
def sfx (N : Nat) (k : Int) : Nat := bs (fun r => N.testBit r.toNat && decide (k ≤ cN N r.toNat)) 6
def mns (M t : Nat) : Nat := M ^^^ (M &&& t)
theorem mns_bit (M t i : Nat) : (mns M t).testBit i = (M.testBit i && !t.testBit i) := by
  unfold mns; rw [Nat.testBit_xor, Nat.testBit_and]
  cases M.testBit i <;> cases t.testBit i <;> rfl
theorem mns_put {M t m : Nat} : clr (mns M t) m = mns M (t ||| 2 ^ m) := by
  apply Nat.eq_of_testBit_eq; intro i
  rw [clr_bit, mns_bit, mns_bit, put_bit]
  by_cases c : i = m
  · simp [c]
  · simp [c]
theorem mns_le {M t : Nat} : mns M t ≤ M := by
  have : mns M t &&& M = mns M t := sub_iff.mpr (fun i hi => by rw [mns_bit] at hi; simp at hi; exact hi.1)
  rw [← this]; exact Nat.and_le_right
theorem mns_0 {M : Nat} : mns M 0 = M := by unfold mns; simp
theorem cN_s (N r : Nat) : cN N (r + 1) = cN N r + (if N.testBit r = true then 1 else 0) := rfl
theorem cN_mono {N : Nat} {r : Nat} : ∀ {r' : Nat}, r ≤ r' → cN N r ≤ cN N r'
  | 0, h => by rw [show r = 0 by omega]; exact Int.le_refl _
  | r' + 1, h => by
    by_cases e : r = r' + 1
    · rw [e]; exact Int.le_refl _
    · have := cN_mono (N := N) (r := r) (r' := r') (by omega)
      rw [cN_s]; split <;> omega
theorem cN_lt {N r r' : Nat} (h : N.testBit r = true) (hr : r < r') : cN N r < cN N r' := by
  have := cN_mono (N := N) (r := r + 1) (r' := r') (by omega)
  rw [cN_s, if_pos h] at this; omega
theorem cN_inj {N r r' : Nat} (h : N.testBit r = true) (h' : N.testBit r' = true) (e : cN N r = cN N r') : r = r' := by
  rcases Nat.lt_trichotomy r r' with q | q | q
  · have := cN_lt h q; omega
  · exact q
  · have := cN_lt h' q; omega
theorem cN_rg (N r : Nat) : 0 ≤ cN N r ∧ cN N r ≤ r := cnt_rg _ r
theorem sfx_bit {N : Nat} {k : Int} {i : Nat} : (sfx N k).testBit i = (decide (i < 6) && (N.testBit i && decide (k ≤ cN N i))) := by
  unfold sfx; rw [bs_bit]; rfl
theorem sfx_lt {N : Nat} {k : Int} : sfx N k < 64 := bs_lt _ 6
theorem sfx_0 {N : Nat} (hN : N < 64) : sfx N 0 = N := by
  apply Nat.eq_of_testBit_eq; intro i
  rw [sfx_bit]
  by_cases c : i < 6
  · have := (cN_rg N i).1; simp [c, this]
  · rw [bit_ge (n := 6) hN (by omega)]; simp
theorem sfx_s {N r : Nat} (hN : N < 64) (h : N.testBit r = true) : clr (sfx N (cN N r)) r = sfx N (cN N r + 1) ∧ (sfx N (cN N r)).testBit r = true ∧ r < 6 := by
  have r6 : r < 6 := by
    apply Classical.byContradiction; intro q
    rw [bit_ge (n := 6) hN (by omega)] at h; exact absurd h (by decide)
  refine ⟨?_, by rw [sfx_bit, h]; simp [r6], r6⟩
  apply Nat.eq_of_testBit_eq; intro i
  rw [clr_bit, sfx_bit, sfx_bit]
  by_cases c : i = r
  · subst c; simp; omega
  · by_cases d : N.testBit i = true
    · have : cN N i ≠ cN N r := fun e => c (cN_inj d h e)
      have e1 : (cN N r ≤ cN N i) ↔ (cN N r + 1 ≤ cN N i) := by omega
      simp [c, d, e1]
    · simp [d]
theorem sfx_end {N : Nat} {k : Int} (h : cN N 6 ≤ k) : sfx N k = 0 := by
  apply Nat.eq_of_testBit_eq; intro i
  rw [sfx_bit, Nat.zero_testBit]
  by_cases c : i < 6
  · by_cases d : N.testBit i = true
    · have := cN_lt d c; simp [d]; omega
    · simp [d]
  · simp [c]
theorem cN_ex {N : Nat} {k : Int} (k0 : 0 ≤ k) : ∀ n : Nat, k < cN N n → ∃ r, r < n ∧ N.testBit r = true ∧ cN N r = k
  | 0, h => by have := (cN_rg N 0).2; omega
  | n + 1, h => by
    by_cases c : k < cN N n
    · obtain ⟨r, r1, r2⟩ := cN_ex k0 n c
      exact ⟨r, by omega, r2⟩
    · rw [cN_s] at h
      by_cases d : N.testBit n = true
      · rw [if_pos d] at h; exact ⟨n, by omega, d, by omega⟩
      · rw [if_neg d] at h; omega
theorem pc_6 {N : Nat} (hN : N < 64) : pc N = cN N 6 := by
  show cnt (fun i => N.testBit i.toNat) 6 + (if N.testBit 6 = true then 1 else 0) + (if N.testBit 7 = true then 1 else 0) + (if N.testBit 8 = true then 1 else 0) + (if N.testBit 9 = true then 1 else 0) = _
  rw [bit_ge (n := 6) hN (by decide), bit_ge (n := 6) hN (by decide), bit_ge (n := 6) hN (by decide), bit_ge (n := 6) hN (by decide)]
  simp [cN]
def dpV (sk : Int → Int) (N M : Nat) (k : Int) (t : Nat) : Int := if pc (sfx N k) ≤ pc (mns M t) then lackF sk (sfx N k) (mns M t) else 1000000
theorem dpV_rg (sk : Int → Int) (N M : Nat) (k : Int) (t : Nat) : 0 ≤ dpV sk N M k t ∧ dpV sk N M k t ≤ 1000000 := by
  unfold dpV
  have := lackF_rg sk (sfx N k) (mns M t)
  split <;> omega
/-- the least over the men below m -/
def bmV (sk : Int → Int) (N M : Nat) (k : Int) (r t : Nat) : Nat → Int
  | 0 => 1000000
  | m + 1 => if t.testBit m = true then bmV sk N M k r t m else (if cst sk m r + dpV sk N M (k + 1) (t ||| 2 ^ m) < bmV sk N M k r t m then cst sk m r + dpV sk N M (k + 1) (t ||| 2 ^ m) else bmV sk N M k r t m)
theorem bmV_le {sk : Int → Int} {N M : Nat} {k : Int} {r t : Nat} : ∀ {n : Nat}, bmV sk N M k r t n ≤ 1000000 ∧ ∀ m, m < n → t.testBit m = false → bmV sk N M k r t n ≤ cst sk m r + dpV sk N M (k + 1) (t ||| 2 ^ m)
  | 0 => ⟨by simp [bmV], fun m h => by omega⟩
  | n + 1 => by
    have ih := bmV_le (sk := sk) (N := N) (M := M) (k := k) (r := r) (t := t) (n := n)
    rw [bmV]
    refine ⟨by (repeat' split) <;> omega, fun m hm hb => ?_⟩
    by_cases e : m = n
    · subst e
      rw [if_neg (by rw [hb]; decide)]
      split <;> omega
    · have := ih.2 m (by omega) hb
      (repeat' split) <;> omega
theorem bmV_is {sk : Int → Int} {N M : Nat} {k : Int} {r t : Nat} : ∀ {n : Nat}, bmV sk N M k r t n = 1000000 ∨ ∃ m, m < n ∧ t.testBit m = false ∧ bmV sk N M k r t n = cst sk m r + dpV sk N M (k + 1) (t ||| 2 ^ m)
  | 0 => .inl rfl
  | n + 1 => by
    have ih := bmV_is (sk := sk) (N := N) (M := M) (k := k) (r := r) (t := t) (n := n)
    rw [bmV]
    by_cases c : t.testBit n = true
    · rw [if_pos c]
      rcases ih with h | ⟨m, h1, h2, h3⟩
      · exact .inl h
      · exact .inr ⟨m, by omega, h2, h3⟩
    · rw [if_neg c]
      split
      · exact .inr ⟨n, by omega, by simpa using c, rfl⟩
      · rcases ih with h | ⟨m, h1, h2, h3⟩
        · exact .inl h
        · exact .inr ⟨m, by omega, h2, h3⟩
theorem cst_rg (sk : Int → Int) (m r : Nat) : 0 ≤ cst sk m r ∧ cst sk m r ≤ 1 := by unfold cst; split <;> omega
/-- the step of the table is Hall's -/
theorem bm_dp {sk : Int → Int} {N r t men : Nat} (hN : N < 64) (hm : men ≤ 8) (h : N.testBit r = true) : bmV sk N (2 ^ men - 1) (cN N r) r t men = dpV sk N (2 ^ men - 1) (cN N r) t := by
  obtain ⟨s1, s2, r6⟩ := sfx_s hN h
  have hM : 2 ^ men - 1 < 256 := by
    have : 2 ^ men ≤ 2 ^ 8 := Nat.pow_le_pow_right (by decide) hm
    have : 0 < 2 ^ men := Nat.two_pow_pos men
    omega
  have hMt : mns (2 ^ men - 1) t < 256 := Nat.lt_of_le_of_lt mns_le hM
  have p1 := pc_clr (by omega) s2
  rw [s1] at p1
  have le := bmV_le (sk := sk) (N := N) (M := 2 ^ men - 1) (k := cN N r) (r := r) (t := t) (n := men)
  have is := bmV_is (sk := sk) (N := N) (M := 2 ^ men - 1) (k := cN N r) (r := r) (t := t) (n := men)
  have inM : ∀ m, m < men → t.testBit m = false → (mns (2 ^ men - 1) t).testBit m = true := fun m hm2 hb => by rw [mns_bit, full_bit, hb]; simp [hm2]
  by_cases c : pc (sfx N (cN N r)) ≤ pc (mns (2 ^ men - 1) t)
  · have v : dpV sk N (2 ^ men - 1) (cN N r) t = lackF sk (sfx N (cN N r)) (mns (2 ^ men - 1) t) := by unfold dpV; rw [if_pos c]
    have term : ∀ m, m < men → t.testBit m = false → dpV sk N (2 ^ men - 1) (cN N r + 1) (t ||| 2 ^ m) = lackF sk (clr (sfx N (cN N r)) r) (clr (mns (2 ^ men - 1) t) m) := fun m hm2 hb => by
      have p2 := pc_clr (T := mns (2 ^ men - 1) t) (r := m) (by omega) (inM m hm2 hb)
      unfold dpV
      rw [← mns_put, s1, if_pos (by omega)]
    rw [v]
    obtain ⟨m, m8, m1, m2⟩ := hallF (sk := sk) sfx_lt hMt r6 s2 c
    rw [mns_bit, full_bit] at m1; simp at m1
    apply Int.le_antisymm
    · have := le.2 m m1.1 m1.2
      rw [term m m1.1 m1.2] at this
      omega
    · rcases is with q | ⟨m', h1, h2, h3⟩
      · have := lackF_rg sk (sfx N (cN N r)) (mns (2 ^ men - 1) t); omega
      · rw [h3, term m' h1 h2]
        exact hallF_le sfx_lt hMt r6 (by omega) (inM m' h1 h2)
  · have v : dpV sk N (2 ^ men - 1) (cN N r) t = 1000000 := by unfold dpV; rw [if_neg c]
    rw [v]
    rcases is with q | ⟨m, h1, h2, h3⟩
    · exact q
    · have p2 := pc_clr (T := mns (2 ^ men - 1) t) (r := m) (by omega) (inM m h1 h2)
      have w : dpV sk N (2 ^ men - 1) (cN N r + 1) (t ||| 2 ^ m) = 1000000 := by
        unfold dpV; rw [← mns_put, if_neg (by omega)]
      have := cst_rg sk m r
      have := le.1
      omega
/-- a man is found, the first one -/
theorem ff_ref {sk : Int → Int} {N r t men : Nat} (hN : N < 64) (hm : men ≤ 8) (h : N.testBit r = true) (hc : pc (sfx N (cN N r)) ≤ pc (mns (2 ^ men - 1) t)) :
    ∃ m : Nat, m < men ∧ t.testBit m = false ∧ cst sk m r + dpV sk N (2 ^ men - 1) (cN N r + 1) (t ||| 2 ^ m) = dpV sk N (2 ^ men - 1) (cN N r) t ∧ (∀ j, j < m → t.testBit j = true ∨ cst sk j r + dpV sk N (2 ^ men - 1) (cN N r + 1) (t ||| 2 ^ j) ≠ dpV sk N (2 ^ men - 1) (cN N r) t) ∧ ffA sk (r : Int) (sfx N (cN N r)) (mns (2 ^ men - 1) t) = (m : Int) ∧ pc (sfx N (cN N r + 1)) ≤ pc (mns (2 ^ men - 1) (t ||| 2 ^ m)) := by
  obtain ⟨s1, s2, r6⟩ := sfx_s hN h
  have hM : 2 ^ men - 1 < 256 := by
    have : 2 ^ men ≤ 2 ^ 8 := Nat.pow_le_pow_right (by decide) hm
    have : 0 < 2 ^ men := Nat.two_pow_pos men
    omega
  have hMt : mns (2 ^ men - 1) t < 256 := Nat.lt_of_le_of_lt mns_le hM
  have p1 := pc_clr (by omega) s2
  rw [s1] at p1
  have inM : ∀ m, m < men → t.testBit m = false → (mns (2 ^ men - 1) t).testBit m = true := fun m hm2 hb => by rw [mns_bit, full_bit, hb]; simp [hm2]
  have v : dpV sk N (2 ^ men - 1) (cN N r) t = lackF sk (sfx N (cN N r)) (mns (2 ^ men - 1) t) := by unfold dpV; rw [if_pos hc]
  have term : ∀ m, m < men → t.testBit m = false → dpV sk N (2 ^ men - 1) (cN N r + 1) (t ||| 2 ^ m) = lackF sk (clr (sfx N (cN N r)) r) (clr (mns (2 ^ men - 1) t) m) := fun m hm2 hb => by
    have p2 := pc_clr (T := mns (2 ^ men - 1) t) (r := m) (by omega) (inM m hm2 hb)
    unfold dpV
    rw [← mns_put, s1, if_pos (by omega)]
  obtain ⟨m0, m8, m1, m2⟩ := hallF (sk := sk) sfx_lt hMt r6 s2 hc
  rw [mns_bit, full_bit] at m1; simp at m1
  obtain ⟨m, hm1, ⟨hm2, hm3⟩, hm4⟩ := am_ex (P := fun m => (m < men ∧ t.testBit m = false) ∧ cst sk m r + dpV sk N (2 ^ men - 1) (cN N r + 1) (t ||| 2 ^ m) = dpV sk N (2 ^ men - 1) (cN N r) t) (fun m => -(m : Int)) men ⟨m0, m1.1, m1, by rw [term m0 m1.1 m1.2, v, m2]⟩
  have first : ∀ j, j < m → t.testBit j = true ∨ cst sk j r + dpV sk N (2 ^ men - 1) (cN N r + 1) (t ||| 2 ^ j) ≠ dpV sk N (2 ^ men - 1) (cN N r) t := by
    intro j hj
    cases b : t.testBit j
    · right; intro e
      have := hm4 j (by omega) ⟨⟨by omega, b⟩, e⟩
      omega
    · exact .inl rfl
  refine ⟨m, hm1, hm2.2, hm3, first, ?_, ?_⟩
  · unfold ffA
    refine fb_is (by omega) (by omega) ?_ ?_
    · unfold ffB
      simp only [Bool.and_eq_true, decide_eq_true_eq]
      refine ⟨inM m hm1 hm2.2, ?_⟩
      rw [show ((m : Int)).toNat = m from rfl, show ((r : Int)).toNat = r from rfl, ← v, ← hm3, term m hm1 hm2.2]
    · intro j j0 jm q
      unfold ffB at q
      simp only [Bool.and_eq_true, decide_eq_true_eq] at q
      have q1 := q.1
      rw [mns_bit, full_bit] at q1; simp at q1
      rcases first j.toNat (by omega) with z | z
      · rw [z] at q1; exact absurd q1.2 (by decide)
      · apply z
        rw [term j.toNat (by omega) q1.2, v]
        have q2 := q.2
        rw [show ((r : Int)).toNat = r from rfl] at q2
        unfold cst
        rw [show ((j.toNat : Nat) : Int) = j by omega]
        exact q2
  · have p2 := pc_clr (T := mns (2 ^ men - 1) t) (r := m) (by omega) (inM m hm1 hm2.2)
    rw [← mns_put]; omega
