/-! DILWORTH, by the deficiency of Hall -/
def skF (F : Int → Int → Bool) (n : Nat) : Int → Int := fun j => ((bs (fun i => F i j) n : Nat) : Int)
def rch (F : Int → Int → Bool) (n : Nat) : Nat → Nat → Bool
  | 0, t => decide (t = 0)
  | i + 1, t => rch F n i t || anyB (fun j => t.testBit j.toNat && F (i : Int) j && rch F n i (clr t j.toNat)) n
theorem sk_bitF {F : Int → Int → Bool} {n i j : Nat} : bitI (skF F n (j : Int)) (i : Int) = (decide (i < n) && F (i : Int) (j : Int)) := by
  unfold skF bitI
  rw [show (((bs (fun i => F i (j : Int)) n : Nat) : Int)).toNat = bs (fun i => F i (j : Int)) n from rfl, show ((i : Int)).toNat = i from rfl, bs_bit]
theorem full_bit (n i : Nat) : (2 ^ n - 1).testBit i = decide (i < n) := Nat.testBit_two_pow_sub_one n i
theorem full_clr (i : Nat) : clr (2 ^ (i + 1) - 1) i = 2 ^ i - 1 := by
  apply Nat.eq_of_testBit_eq; intro k
  rw [clr_bit, full_bit, full_bit]
  by_cases c : k = i
  · subst c; simp
  · simp only [c, decide_false, Bool.not_false, Bool.and_true, decide_eq_decide]; omega
abbrev sbs (a b : Nat) : Prop := ∀ i, a.testBit i = true → b.testBit i = true
theorem put_bit (t j i : Nat) : (t ||| 2 ^ j).testBit i = (t.testBit i || decide (i = j)) := by
  rw [Nat.testBit_or]
  by_cases c : i = j
  · subst c; simp [Nat.testBit_two_pow_self]
  · rw [Nat.testBit_two_pow_of_ne (Ne.symm c)]; simp [c]
theorem clr_put {t j : Nat} (h : ¬ t.testBit j = true) : clr (t ||| 2 ^ j) j = t := by
  apply Nat.eq_of_testBit_eq; intro i
  rw [clr_bit, put_bit]
  by_cases c : i = j
  · subst c; simp at h; simp [h]
  · simp [c]
theorem reg_m {F : Int → Int → Bool} {n : Nat} (hn : n ≤ 10) : ∀ i : Nat, i ≤ n → ∀ M : Nat, sbs M (2 ^ n - 1) → (∀ t, sbs t M → rch F n i t = true → lackG (skF F n) (2 ^ i - 1) M ≤ (i : Int) - pc t) ∧ ∃ t, sbs t M ∧ rch F n i t = true ∧ (i : Int) - pc t = lackG (skF F n) (2 ^ i - 1) M
  | 0, _, M, hM => by
    have z : lackG (skF F n) (2 ^ 0 - 1) M = 0 := by
      obtain ⟨T, hT, hs, e⟩ := lack_is (skF F n) (2 ^ 0 - 1) M
      have : T = 0 := by
        apply Nat.eq_of_testBit_eq; intro i
        rw [Nat.zero_testBit]
        cases c : T.testBit i
        · rfl
        · have := hs i c; simp at this
      subst this
      have := lackG_rg (skF F n) (2 ^ 0 - 1) M
      have h2 := (knG_rg (skF F n) 0 M).1
      have h3 : pc 0 = 0 := by decide
      unfold fk at e; omega
    rw [z]
    have h3 : pc 0 = 0 := by decide
    refine ⟨fun t _ h => ?_, 0, fun i hi => by simp at hi, by simp [rch], by rw [h3]; rfl⟩
    unfold rch at h; simp at h; subst h; rw [h3]; decide
  | i + 1, hi, M, hM => by
    have IH := reg_m (F := F) hn i (by omega)
    have ar : (2 ^ (i + 1) - 1).testBit i = true := by rw [full_bit]; simp
    have up : ∀ t, sbs t M → rch F n (i + 1) t = true → lackG (skF F n) (2 ^ (i + 1) - 1) M ≤ ((i + 1 : Nat) : Int) - pc t := by
      intro t ht hr
      rw [rch] at hr; simp only [Bool.or_eq_true] at hr
      rcases hr with hr | hr
      · have h1 := (IH M hM).1 t ht hr
        have h2 := lack_skip (sk := skF F n) (M := M) (r := i) (by omega) ar
        rw [full_clr] at h2
        omega
      · obtain ⟨j, jn, hj⟩ := (anyB_iff _ n).mp hr
        simp only [Bool.and_eq_true] at hj
        obtain ⟨⟨j1, j2⟩, j3⟩ := hj
        have e : ((j : Int)).toNat = j := rfl
        rw [e] at j1 j3
        have h1 := (IH (clr M j) (fun k hk => hM k (clr_sub hk))).1 (clr t j) (fun k hk => by rw [clr_bit] at *; simp at *; exact ⟨ht k hk.1, hk.2⟩) j3
        have h2 := hall_le (sk := skF F n) (a := 2 ^ (i + 1) - 1) (r := i) (by omega) (by omega) (ht j j1)
        rw [full_clr, cst, if_pos (by rw [sk_bitF, j2]; simp; omega)] at h2
        have h3 := pc_clr (by omega) j1
        omega
    refine ⟨up, ?_⟩
    rcases hall_ex (sk := skF F n) (M := M) (r := i) (by omega) ar with ⟨j, j10, j1, j2, h⟩ | ⟨h, _⟩
    · rw [full_clr] at h
      rw [sk_bitF] at j2; simp at j2
      have jn : j < n := by have := hM j j1; rw [full_bit] at this; simpa using this
      obtain ⟨t, t1, t2, t3⟩ := (IH (clr M j) (fun k hk => hM k (clr_sub hk))).2
      have nj : ¬ t.testBit j = true := fun q => by have := t1 j q; rw [clr_bit] at this; simp at this
      have s1 : sbs (t ||| 2 ^ j) M := fun k hk => by
        rw [put_bit] at hk; simp at hk
        rcases hk with q | q
        · exact clr_sub (t1 k q)
        · subst q; exact j1
      have s2 : rch F n (i + 1) (t ||| 2 ^ j) = true := by
        rw [rch]; simp only [Bool.or_eq_true]; right
        refine (anyB_iff _ n).mpr ⟨j, jn, ?_⟩
        simp only [Bool.and_eq_true]
        refine ⟨⟨?_, j2.2⟩, ?_⟩
        · show (t ||| 2 ^ j).testBit j = true
          rw [put_bit]; simp
        · show rch F n i (clr (t ||| 2 ^ j) j) = true
          rw [clr_put nj]; exact t2
      refine ⟨_, s1, s2, ?_⟩
      have h4 := up _ s1 s2
      have h3 := pc_clr (T := t ||| 2 ^ j) (r := j) (by omega) (by rw [put_bit]; simp)
      rw [clr_put nj] at h3
      omega
    · rw [full_clr] at h
      obtain ⟨t, t1, t2, t3⟩ := (IH M hM).2
      have s2 : rch F n (i + 1) t = true := by rw [rch, t2]; rfl
      refine ⟨t, t1, s2, ?_⟩
      have h4 := up _ t1 s2
      omega
abbrev anti (F : Int → Int → Bool) (A : Nat) : Prop := ∀ i j : Nat, A.testBit i = true → A.testBit j = true → F (i : Int) (j : Int) = false
def aboveF (F : Int → Int → Bool) (n A : Nat) : Int → Bool := fun i => A.testBit i.toNat || anyB (fun a => A.testBit a.toNat && F a i) n
def bareF (F : Int → Int → Bool) (n T : Nat) : Int → Bool := fun i => T.testBit i.toNat && !(anyB (fun a => T.testBit a.toNat && F a i) n)
theorem sbs_lt {a n : Nat} (h : sbs a (2 ^ n - 1)) : a < 2 ^ n := by
  have := sub_iff.mpr h
  have h2 : a ≤ 2 ^ n - 1 := by rw [← this]; exact Nat.and_le_right
  have : 0 < 2 ^ n := Nat.two_pow_pos n
  omega
theorem dil {F : Int → Int → Bool} {n : Nat} (hn : n ≤ 10) (tr : ∀ i j k : Nat, i < n → j < n → k < n → F i j = true → F j k = true → F i k = true) : (∀ A, sbs A (2 ^ n - 1) → anti F A → pc A ≤ lackG (skF F n) (2 ^ n - 1) (2 ^ n - 1)) ∧ ∃ A, sbs A (2 ^ n - 1) ∧ anti F A ∧ pc A = lackG (skF F n) (2 ^ n - 1) (2 ^ n - 1) := by
  have le10 : (2 : Nat) ^ n ≤ 1024 := Nat.pow_le_pow_right (by decide) hn
  have up : ∀ A, sbs A (2 ^ n - 1) → anti F A → pc A ≤ lackG (skF F n) (2 ^ n - 1) (2 ^ n - 1) := by
    intro A hA ha
    have hb : ∀ i : Nat, (bs (aboveF F n A) n).testBit i = (decide (i < n) && aboveF F n A i) := fun i => bs_bit _ n i
    have h1 := lack_le (sk := skF F n) (M := 2 ^ n - 1) (a := 2 ^ n - 1) (T := bs (aboveF F n A) n) (Nat.lt_of_lt_of_le (bs_lt _ n) le10) (fun i hi => by rw [hb] at hi; rw [full_bit]; simp at *; exact hi.1)
    have h2 : pc A + knG (skF F n) (bs (aboveF F n A) n) (2 ^ n - 1) ≤ pc (bs (aboveF F n A) n) := by
      have o := cnt_oa (fun i => A.testBit i.toNat) (kwB (skF F n) (bs (aboveF F n A) n) (2 ^ n - 1)) 10
      have kw : ∀ i : Int, 0 ≤ i → kwB (skF F n) (bs (aboveF F n A) n) (2 ^ n - 1) i = true → i.toNat < n ∧ ∃ a : Nat, a < n ∧ A.testBit a = true ∧ F (a : Int) i = true := by
        intro i i0 hk
        unfold kwB at hk
        simp only [Bool.and_eq_true, decide_eq_true_eq] at hk
        obtain ⟨k1, k2⟩ := hk
        rw [full_bit] at k1; simp at k1
        refine ⟨k1, ?_⟩
        have : ∃ b : Nat, ((skF F n i).toNat &&& bs (aboveF F n A) n).testBit b = true := by
          apply Classical.byContradiction; intro q
          apply k2
          apply Nat.eq_of_testBit_eq; intro b; rw [Nat.zero_testBit]
          cases c : ((skF F n i).toNat &&& bs (aboveF F n A) n).testBit b
          · rfl
          · exact absurd ⟨b, c⟩ q
        obtain ⟨b, hb2⟩ := this
        rw [Nat.testBit_and] at hb2; simp only [Bool.and_eq_true] at hb2
        obtain ⟨b1, b2⟩ := hb2
        have b3 : bitI (skF F n ((i.toNat : Nat) : Int)) (b : Int) = true := by
          rw [show ((i.toNat : Nat) : Int) = i by omega]; exact b1
        rw [sk_bitF] at b3
        rw [show ((i.toNat : Nat) : Int) = i by omega] at b3
        simp only [Bool.and_eq_true, decide_eq_true_eq] at b3
        rw [hb] at b2
        unfold aboveF at b2
        simp only [Bool.and_eq_true, decide_eq_true_eq, Bool.or_eq_true] at b2
        rcases b2.2 with q | q
        · exact ⟨b, b3.1, q, b3.2⟩
        · obtain ⟨a, an, qa⟩ := (anyB_iff _ n).mp q
          simp only [Bool.and_eq_true] at qa
          refine ⟨a, an, qa.1, ?_⟩
          have := tr a b i.toNat an b3.1 k1 qa.2 (by rw [show ((i.toNat : Nat) : Int) = i by omega]; exact b3.2)
          rw [show ((i.toNat : Nat) : Int) = i by omega] at this; exact this
      have d : cnt (fun i => A.testBit i.toNat && kwB (skF F n) (bs (aboveF F n A) n) (2 ^ n - 1) i) 10 ≤ cnt (fun _ => false) 10 := cnt_le (fun i i0 i1 h => by
        simp only [Bool.and_eq_true] at h
        obtain ⟨_, a, an, qa, qf⟩ := kw i i0 h.2
        have := ha a i.toNat qa h.1
        rw [show ((i.toNat : Nat) : Int) = i by omega, qf] at this
        exact absurd this (by decide))
      have z : cnt (fun _ => false) 10 = 0 := by decide
      have u : cnt (fun i => A.testBit i.toNat || kwB (skF F n) (bs (aboveF F n A) n) (2 ^ n - 1) i) 10 ≤ pc (bs (aboveF F n A) n) := cnt_le (fun i i0 i1 h => by
        rw [hb]
        simp only [Bool.and_eq_true, decide_eq_true_eq]
        simp only [Bool.or_eq_true] at h
        unfold aboveF
        rcases h with h | h
        · refine ⟨?_, by rw [show ((i.toNat : Nat) : Int) = i by omega, h]; rfl⟩
          have := hA _ h; rw [full_bit] at this; simpa using this
        · obtain ⟨k1, a, an, qa, qf⟩ := kw i i0 h
          refine ⟨k1, ?_⟩
          simp only [Bool.or_eq_true]; right
          refine (anyB_iff _ n).mpr ⟨a, an, ?_⟩
          rw [show ((i.toNat : Nat) : Int) = i by omega]
          simp only [Bool.and_eq_true]; exact ⟨qa, qf⟩)
      have r := (cnt_rg (fun i => A.testBit i.toNat && kwB (skF F n) (bs (aboveF F n A) n) (2 ^ n - 1) i) 10).1
      have e1 : pc A = cnt (fun i => A.testBit i.toNat) 10 := rfl
      unfold knG
      omega
    unfold fk at h1
    omega
  refine ⟨up, ?_⟩
  obtain ⟨T, hT, hs, e⟩ := lack_is (skF F n) (2 ^ n - 1) (2 ^ n - 1)
  have hb : ∀ i : Nat, (bs (bareF F n T) n).testBit i = (decide (i < n) && bareF F n T i) := fun i => bs_bit _ n i
  have s1 : sbs (bs (bareF F n T) n) (2 ^ n - 1) := fun i hi => by rw [hb] at hi; rw [full_bit]; simp at *; exact hi.1
  have s2 : anti F (bs (bareF F n T) n) := by
    intro i j hi hj
    rw [hb] at hi hj
    unfold bareF at hi hj
    simp only [Bool.and_eq_true, decide_eq_true_eq, Bool.not_eq_true'] at hi hj
    cases c : F (i : Int) (j : Int)
    · rfl
    · have := anyB_f hj.2.2 (i := (i : Int)) (by omega) (by omega)
      have q : T.testBit i = true := hi.2.1
      simp only [show ((i : Int)).toNat = i from rfl, q, c] at this
      exact absurd this (by decide)
  refine ⟨_, s1, s2, Int.le_antisymm (up _ s1 s2) ?_⟩
  have h2 : pc T ≤ pc (bs (bareF F n T) n) + knG (skF F n) T (2 ^ n - 1) := by
    have o := cnt_oa (fun i => (bs (bareF F n T) n).testBit i.toNat) (kwB (skF F n) T (2 ^ n - 1)) 10
    have r := (cnt_rg (fun i => (bs (bareF F n T) n).testBit i.toNat && kwB (skF F n) T (2 ^ n - 1) i) 10).1
    have u : pc T ≤ cnt (fun i => (bs (bareF F n T) n).testBit i.toNat || kwB (skF F n) T (2 ^ n - 1) i) 10 := cnt_le (fun i i0 i1 h => by
      have ei : ((i.toNat : Nat) : Int) = i := by omega
      have hin : i.toNat < n := by have := hs _ h; rw [full_bit] at this; simpa using this
      simp only [Bool.or_eq_true]
      rw [hb]
      cases c : anyB (fun a => T.testBit a.toNat && F a i) n
      · left
        unfold bareF
        simp only [Bool.and_eq_true, decide_eq_true_eq, Bool.not_eq_true', ei]
        exact ⟨hin, h, c⟩
      · right
        obtain ⟨a, an, qa⟩ := (anyB_iff _ n).mp c
        simp only [Bool.and_eq_true] at qa
        unfold kwB
        simp only [Bool.and_eq_true, decide_eq_true_eq]
        refine ⟨by rw [full_bit]; simpa using hin, fun z => ?_⟩
        have b3 : bitI (skF F n ((i.toNat : Nat) : Int)) (a : Int) = true := by
          rw [sk_bitF, ei, qa.2]; simpa using an
        have : ((skF F n i).toNat &&& T).testBit a = true := by
          rw [Nat.testBit_and]; simp only [Bool.and_eq_true]
          refine ⟨?_, qa.1⟩
          rw [ei] at b3; exact b3
        rw [z, Nat.zero_testBit] at this
        exact absurd this (by decide))
    have e1 : pc (bs (bareF F n T) n) = cnt (fun i => (bs (bareF F n T) n).testBit i.toNat) 10 := rfl
    unfold knG
    omega
  unfold fk at e
  omega
