/-! HALL: one role less, one man less -/
theorem cnt_le {p q : Int → Bool} : ∀ {n : Nat}, (∀ i : Int, 0 ≤ i → i < (n : Int) → p i = true → q i = true) → cnt p n ≤ cnt q n
  | 0, _ => by simp [cnt]
  | n + 1, h => by
    have ih := cnt_le (p := p) (q := q) (n := n) (fun i h0 h1 => h i h0 (by omega))
    have := h n (by omega) (by omega)
    rw [cnt, cnt]
    by_cases c : p (n : Int) = true
    · rw [if_pos c, if_pos (this c)]; omega
    · rw [if_neg c]; split <;> omega
theorem cnt_lt {p q : Int → Bool} {j : Int} (j0 : 0 ≤ j) (hj : q j = true) (hj' : ¬ p j = true) : ∀ {n : Nat}, j < (n : Int) → (∀ i : Int, 0 ≤ i → i < (n : Int) → p i = true → q i = true) → cnt p n + 1 ≤ cnt q n
  | 0, hn, _ => by omega
  | n + 1, hn, h => by
    rw [cnt, cnt]
    by_cases e : j = (n : Int)
    · rw [← e, if_pos hj, if_neg hj']
      have := cnt_le (p := p) (q := q) (n := n) (fun i h0 h1 => h i h0 (by omega))
      omega
    · have ih := cnt_lt (p := p) (q := q) j0 hj hj' (n := n) (by omega) (fun i h0 h1 => h i h0 (by omega))
      have := h n (by omega) (by omega)
      by_cases c : p (n : Int) = true
      · rw [if_pos c, if_pos (this c)]; omega
      · rw [if_neg c]; split <;> omega
theorem cnt_oa (p q : Int → Bool) : ∀ n : Nat, cnt (fun i => p i || q i) n + cnt (fun i => p i && q i) n = cnt p n + cnt q n
  | 0 => rfl
  | n + 1 => by
    have := cnt_oa p q n
    rw [cnt, cnt, cnt, cnt]
    cases p (n : Int) <;> cases q (n : Int) <;> simp <;> omega
theorem sub_iff {T a : Nat} : T &&& a = T ↔ ∀ i, T.testBit i = true → a.testBit i = true := by
  constructor
  · intro h i hi
    rw [← h, Nat.testBit_and] at hi
    simp at hi; exact hi.2
  · intro h
    apply Nat.eq_of_testBit_eq
    intro i
    rw [Nat.testBit_and]
    have := h i
    cases c : T.testBit i <;> simp_all
theorem pc_oa (a b : Nat) : pc (a ||| b) + pc (a &&& b) = pc a + pc b := by
  have := cnt_oa (fun i => a.testBit i.toNat) (fun i => b.testBit i.toNat) 10
  unfold pc
  rw [← this]
  congr 1
  · congr 1; funext i; rw [Nat.testBit_or]
  · congr 1; funext i; rw [Nat.testBit_and]
theorem meet_or (s a b : Nat) : ¬ s &&& (a ||| b) = 0 ↔ (¬ s &&& a = 0 ∨ ¬ s &&& b = 0) := by
  rw [Nat.and_or_distrib_left]
  constructor
  · intro h
    by_cases c : s &&& a = 0
    · right; intro d; exact h (by rw [c, d]; rfl)
    · exact .inl c
  · intro h e
    have : ∀ i, ((s &&& a) ||| (s &&& b)).testBit i = false := fun i => by rw [e]; exact Nat.zero_testBit i
    rcases h with h | h
    · apply h; apply Nat.eq_of_testBit_eq; intro i; have := this i; rw [Nat.testBit_or] at this; simp at this; rw [Nat.zero_testBit, Nat.testBit_and]; cases c1 : s.testBit i <;> simp_all
    · apply h; apply Nat.eq_of_testBit_eq; intro i; have := this i; rw [Nat.testBit_or] at this; simp at this; rw [Nat.zero_testBit, Nat.testBit_and]; cases c1 : s.testBit i <;> simp_all
theorem meet_sub {s a b : Nat} (hab : ∀ i, a.testBit i = true → b.testBit i = true) (h : ¬ s &&& a = 0) : ¬ s &&& b = 0 := by
  intro e; apply h
  apply Nat.eq_of_testBit_eq; intro i
  have : (s &&& b).testBit i = false := by rw [e]; exact Nat.zero_testBit i
  rw [Nat.testBit_and] at this
  rw [Nat.zero_testBit, Nat.testBit_and]
  have h2 := hab i
  cases c1 : s.testBit i <;> cases c2 : a.testBit i <;> simp_all
theorem meet_bit {s r : Nat} : ¬ s &&& 2 ^ r = 0 ↔ s.testBit r = true := by
  constructor
  · intro h
    cases c : s.testBit r
    · exfalso; apply h
      apply Nat.eq_of_testBit_eq; intro i
      rw [Nat.zero_testBit, Nat.testBit_and]
      by_cases e : i = r
      · subst e; simp [c]
      · rw [Nat.testBit_two_pow_of_ne (Ne.symm e)]; simp
    · rfl
  · intro h e
    have : (s &&& 2 ^ r).testBit r = false := by rw [e]; exact Nat.zero_testBit r
    rw [Nat.testBit_and, h, Nat.testBit_two_pow_self] at this
    exact absurd this (by decide)
def knG (sk : Int → Int) (T M : Nat) : Int := cnt (kwB sk T M) 10
theorem knG_rg (sk : Int → Int) (T M : Nat) : 0 ≤ knG sk T M ∧ knG sk T M ≤ 10 := cnt_rg _ 10
def lkG (sk : Int → Int) (a M T : Nat) : Int := if T &&& a = T then pc T - knG sk T M else 0
def lackG (sk : Int → Int) (a M : Nat) : Int := mx (lkG sk a M) 1024
theorem lackG_rg (sk : Int → Int) (a M : Nat) : 0 ≤ lackG sk a M := mx_0 _ _
theorem knG_oa (sk : Int → Int) (a b M : Nat) : knG sk (a ||| b) M + knG sk (a &&& b) M ≤ knG sk a M + knG sk b M := by
  unfold knG
  rw [← cnt_oa (kwB sk a M) (kwB sk b M)]
  have h1 : cnt (kwB sk (a ||| b) M) 10 ≤ cnt (fun i => kwB sk a M i || kwB sk b M i) 10 := cnt_le (fun i _ _ h => by
    unfold kwB at *
    have := (meet_or (sk i).toNat a b)
    simp only [Bool.and_eq_true, decide_eq_true_eq, Bool.or_eq_true] at *
    rcases this.mp h.2 with q | q
    · exact .inl ⟨h.1, q⟩
    · exact .inr ⟨h.1, q⟩)
  have h2 : cnt (kwB sk (a &&& b) M) 10 ≤ cnt (fun i => kwB sk a M i && kwB sk b M i) 10 := cnt_le (fun i _ _ h => by
    unfold kwB at *
    simp only [Bool.and_eq_true, decide_eq_true_eq] at *
    refine ⟨⟨h.1, meet_sub (fun j hj => ?_) h.2⟩, h.1, meet_sub (fun j hj => ?_) h.2⟩ <;>
    · rw [Nat.testBit_and] at hj; simp at hj; first | exact hj.1 | exact hj.2)
  omega
def fk (sk : Int → Int) (M T : Nat) : Int := pc T - knG sk T M
theorem lack_le {sk : Int → Int} {a M T : Nat} (hT : T < 1024) (h : ∀ i, T.testBit i = true → a.testBit i = true) : fk sk M T ≤ lackG sk a M := by
  have := mx_le (lkG sk a M) 1024 T hT
  unfold lkG at this
  rw [if_pos (sub_iff.mpr h)] at this
  exact this
theorem lack_is (sk : Int → Int) (a M : Nat) : ∃ T, T < 1024 ∧ (∀ i, T.testBit i = true → a.testBit i = true) ∧ fk sk M T = lackG sk a M := by
  have z : fk sk M 0 = 0 := by
    have : knG sk 0 M = 0 := by
      have h : cnt (kwB sk 0 M) 10 ≤ cnt (fun _ => false) 10 := cnt_le (fun i _ _ h => by simp [kwB] at h)
      have h2 : cnt (fun _ => false) 10 = 0 := rfl
      have := knG_rg sk 0 M
      unfold knG at *; omega
    unfold fk; rw [this]; rfl
  rcases mx_is (lkG sk a M) 1024 with h | ⟨i, hi, e⟩
  · exact ⟨0, by decide, fun i hi => by simp at hi, by rw [z]; exact h.symm⟩
  · by_cases c : i &&& a = i
    · refine ⟨i, hi, sub_iff.mp c, ?_⟩
      unfold lkG at e; rw [if_pos c] at e; exact e
    · unfold lkG at e; rw [if_neg c] at e
      exact ⟨0, by decide, fun i hi => by simp at hi, by rw [z]; exact e⟩
theorem am_ex {P : Nat → Prop} (g : Nat → Int) : ∀ n : Nat, (∃ x, x < n ∧ P x) → ∃ x, x < n ∧ P x ∧ ∀ y, y < n → P y → g y ≤ g x
  | 0, ⟨x, h, _⟩ => by omega
  | n + 1, ⟨x, h, hp⟩ => by
    by_cases ex : ∃ x, x < n ∧ P x
    · obtain ⟨z, z1, z2, z3⟩ := am_ex g n ex
      by_cases c : P n ∧ g z < g n
      · refine ⟨n, by omega, c.1, fun y hy py => ?_⟩
        by_cases e : y = n
        · subst e; omega
        · have := z3 y (by omega) py; have := c.2; omega
      · refine ⟨z, by omega, z2, fun y hy py => ?_⟩
        by_cases e : y = n
        · subst e
          by_cases c2 : g z < g y
          · exact absurd ⟨py, c2⟩ c
          · omega
        · exact z3 y (by omega) py
    · have : x = n := by
        apply Classical.byContradiction; intro q
        exact ex ⟨x, by omega, hp⟩
      subst this
      exact ⟨x, by omega, hp, fun y hy py => by
        by_cases e : y = x
        · subst e; omega
        · exact absurd ⟨y, by omega, py⟩ ex⟩
theorem or_lt {a b : Nat} (ha : a < 1024) (hb : b < 1024) : a ||| b < 1024 := Nat.or_lt_two_pow (n := 10) ha hb
theorem and_lt {a b : Nat} (ha : a < 1024) : a &&& b < 1024 := Nat.lt_of_le_of_lt Nat.and_le_left ha
theorem pc_clr {T r : Nat} (hr : r < 10) (h : T.testBit r = true) : pc T = pc (clr T r) + 1 := by
  have e : T = clr T r ||| 2 ^ r := by
    apply Nat.eq_of_testBit_eq; intro i
    rw [Nat.testBit_or, clr_bit]
    by_cases c : i = r
    · subst c; simp [h, Nat.testBit_two_pow_self]
    · rw [Nat.testBit_two_pow_of_ne (Ne.symm c)]; simp [c]
  have e2 : clr T r &&& 2 ^ r = 0 := by
    apply Nat.eq_of_testBit_eq; intro i
    rw [Nat.testBit_and, clr_bit, Nat.zero_testBit]
    by_cases c : i = r
    · subst c; simp
    · rw [Nat.testBit_two_pow_of_ne (Ne.symm c)]; simp
  have h1 := pc_oa (clr T r) (2 ^ r)
  rw [← e, e2] at h1
  have h2 : pc 0 = 0 := by decide
  have h3 : ∀ r, r < 10 → pc (2 ^ r) = 1 := by decide
  have := h3 r hr
  omega
abbrev cst (sk : Int → Int) (m r : Nat) : Int := if bitI (sk (m : Int)) (r : Int) = true then 0 else 1
theorem sk_bit {sk : Int → Int} {m r : Nat} : bitI (sk (m : Int)) (r : Int) = ((sk (m : Int)).toNat).testBit r := rfl
theorem knG_mono {sk : Int → Int} {T T' M M' : Nat} (h1 : ∀ i, T.testBit i = true → T'.testBit i = true) (h2 : ∀ i, M.testBit i = true → M'.testBit i = true) : knG sk T M ≤ knG sk T' M' := cnt_le (fun i _ _ h => by
  unfold kwB at *
  simp only [Bool.and_eq_true, decide_eq_true_eq] at *
  exact ⟨h2 _ h.1, meet_sub h1 h.2⟩)
theorem clr_sub {a r i : Nat} (h : (clr a r).testBit i = true) : a.testBit i = true := by
  rw [clr_bit] at h; simp at h; exact h.1
theorem hall_le {sk : Int → Int} {a M r m : Nat} (hr : r < 10) (hm8 : m < 10) (hm : M.testBit m = true) : lackG sk a M ≤ cst sk m r + lackG sk (clr a r) (clr M m) := by
  obtain ⟨T, hT, hs, e⟩ := lack_is sk a M
  rw [← e]
  have hc : 0 ≤ cst sk m r := by unfold cst; split <;> omega
  by_cases c : T.testBit r = true
  · have h1 := pc_clr (by omega) c
    have hs' : ∀ i, (clr T r).testBit i = true → (clr a r).testBit i = true := fun i hi => by
      rw [clr_bit] at *; simp at *; exact ⟨hs i hi.1, hi.2⟩
    have hl : clr T r < 1024 := by
      apply Nat.lt_of_le_of_lt _ hT
      rw [← sub_iff.mpr (fun i (hi : (clr T r).testBit i = true) => clr_sub hi)]
      exact Nat.and_le_right
    have h2 := lack_le (sk := sk) (M := clr M m) hl hs'
    unfold fk at *
    by_cases k : bitI (sk (m : Int)) (r : Int) = true
    · rw [cst, if_pos k]
      have h3 : knG sk (clr T r) (clr M m) + 1 ≤ knG sk T M := by
        refine cnt_lt (j := (m : Int)) (by omega) ?_ ?_ (by omega) (fun i _ _ h => ?_)
        · unfold kwB
          simp only [Bool.and_eq_true, decide_eq_true_eq]
          refine ⟨hm, meet_sub (a := 2 ^ r) (fun i hi => ?_) (meet_bit.mpr k)⟩
          by_cases q : i = r
          · subst q; exact c
          · rw [Nat.testBit_two_pow_of_ne (Ne.symm q)] at hi; exact absurd hi (by decide)
        · unfold kwB
          simp [clr_bit]
        · unfold kwB at *
          simp only [Bool.and_eq_true, decide_eq_true_eq] at *
          exact ⟨clr_sub h.1, meet_sub (fun i => clr_sub) h.2⟩
      omega
    · rw [cst, if_neg k]
      have h3 : knG sk (clr T r) (clr M m) ≤ knG sk T M := knG_mono (fun i => clr_sub) (fun i => clr_sub)
      omega
  · have hs' : ∀ i, T.testBit i = true → (clr a r).testBit i = true := fun i hi => by
      rw [clr_bit]; simp
      refine ⟨hs i hi, fun q => ?_⟩
      subst q; exact c hi
    have h2 := lack_le (sk := sk) (M := clr M m) hT hs'
    have h3 : knG sk T (clr M m) ≤ knG sk T M := knG_mono (fun i h => h) (fun i => clr_sub)
    unfold fk at *
    omega
theorem hall_ex {sk : Int → Int} {a M r : Nat} (hr : r < 10) (har : a.testBit r = true) : (∃ m, m < 10 ∧ M.testBit m = true ∧ bitI (sk (m : Int)) (r : Int) = true ∧ lackG sk (clr a r) (clr M m) ≤ lackG sk a M) ∨ (lackG sk (clr a r) M + 1 ≤ lackG sk a M ∧ (pc a ≤ pc M → ∃ m, m < 10 ∧ M.testBit m = true ∧ lackG sk (clr a r) (clr M m) + 1 ≤ lackG sk a M)) := by
  obtain ⟨e, he⟩ : ∃ e, e = lackG sk (clr a r) M := ⟨_, rfl⟩
  have e0 : 0 ≤ e := by rw [he]; exact lackG_rg _ _ _
  obtain ⟨T0, t1, t2, t3⟩ := lack_is sk (clr a r) M
  obtain ⟨T, hT, ⟨hs, ht⟩, hmx⟩ := am_ex (P := fun T => (∀ i, T.testBit i = true → (clr a r).testBit i = true) ∧ fk sk M T = e) pc 1024 ⟨T0, t1, t2, by rw [t3, he]⟩
  have tight : ∀ U, U < 1024 → (∀ i, U.testBit i = true → (clr a r).testBit i = true) → e ≤ fk sk M U → ∀ i, i < 10 → U.testBit i = true → T.testBit i = true := by
    intro U hU hUs hUe i i10 hi
    apply Classical.byContradiction; intro ni
    have g1 : fk sk M (T ||| U) ≤ e := by
      rw [he]; refine lack_le (or_lt hT hU) (fun j hj => ?_)
      rw [Nat.testBit_or] at hj; simp at hj
      rcases hj with q | q
      · exact hs j q
      · exact hUs j q
    have g2 : fk sk M (T &&& U) ≤ e := by
      rw [he]; refine lack_le (and_lt hT) (fun j hj => ?_)
      rw [Nat.testBit_and] at hj; simp at hj
      exact hs j hj.1
    have g3 := pc_oa T U; have g4 := knG_oa sk T U M
    have g5 : fk sk M (T ||| U) = e := by unfold fk at *; omega
    have g6 := hmx (T ||| U) (or_lt hT hU) ⟨fun j hj => by
      rw [Nat.testBit_or] at hj; simp at hj
      rcases hj with q | q
      · exact hs j q
      · exact hUs j q, g5⟩
    have g7 : pc T + 1 ≤ pc (T ||| U) := cnt_lt (j := (i : Int)) (by omega) (by simp [Nat.testBit_or, hi]) (by simpa using ni) (by omega) (fun j _ _ h => by simp [Nat.testBit_or, h])
    omega
  have free : ∀ m : Nat, m < 10 → (sk (m : Int)).toNat &&& T = 0 → lackG sk (clr a r) (clr M m) ≤ e := by
    intro m hm8 hz
    obtain ⟨U, hU, hUs, hUe⟩ := lack_is sk (clr a r) (clr M m)
    rw [← hUe]
    have hle := lack_le (sk := sk) (M := M) hU hUs
    rw [← he] at hle
    by_cases z : (sk (m : Int)).toNat &&& U = 0
    · have : knG sk U M ≤ knG sk U (clr M m) := cnt_le (fun i i0 i8 h => by
        unfold kwB at *
        simp only [Bool.and_eq_true, decide_eq_true_eq] at *
        refine ⟨?_, h.2⟩
        rw [clr_bit]; simp [h.1]
        intro q
        apply h.2
        rw [show i = (m : Int) by omega]; exact z)
      unfold fk at *; omega
    · have nt : ¬ e ≤ fk sk M U := fun q => z (by
        apply Classical.byContradiction; intro w
        have := meet_sub (b := T) (fun i hi => tight U hU hUs q i (by
          apply Classical.byContradiction; intro ge
          have := Nat.testBit_lt_two_pow (Nat.lt_of_lt_of_le hU (Nat.pow_le_pow_right (n := 2) (by decide) (show 10 ≤ i by omega)))
          rw [this] at hi; exact absurd hi (by decide)) hi) w
        exact this hz)
      have : knG sk U M ≤ knG sk U (clr M m) + 1 := by
        have h1 : knG sk U M ≤ cnt (fun i => kwB sk U (clr M m) i || decide (i = (m : Int))) 10 := cnt_le (fun i i0 i8 h => by
          unfold kwB at *
          simp only [Bool.and_eq_true, decide_eq_true_eq, Bool.or_eq_true] at *
          by_cases q : i = (m : Int)
          · exact .inr q
          · refine .inl ⟨?_, h.2⟩
            rw [clr_bit]; simp [h.1]; omega)
        have h2 := cnt_oa (kwB sk U (clr M m)) (fun i => decide (i = (m : Int))) 10
        have h3 := (cnt_rg (fun i => kwB sk U (clr M m) i && decide (i = (m : Int))) 10).1
        have h4 : ∀ m : Nat, m < 10 → cnt (fun i => decide (i = (m : Int))) 10 ≤ 1 := by decide +kernel
        have := h4 m hm8
        unfold knG at *; omega
      unfold fk at *; omega
  have mono : e ≤ lackG sk a M := by
    rw [← ht]; exact lack_le hT (fun i hi => clr_sub (hs i hi))
  by_cases c : ∃ m : Nat, m < 10 ∧ M.testBit m = true ∧ bitI (sk (m : Int)) (r : Int) = true ∧ (sk (m : Int)).toNat &&& T = 0
  · obtain ⟨m, m8, m1, m2, m3⟩ := c
    refine .inl ⟨m, m8, m1, m2, ?_⟩
    have := free m m8 m3
    omega
  · have nr : ¬ T.testBit r = true := fun q => by have := hs r q; rw [clr_bit] at this; simp at this
    have d1 : e + 1 ≤ lackG sk a M := by
      have h2r : (2 : Nat) ^ r < 1024 := by
        have : ∀ r, r < 10 → (2 : Nat) ^ r < 1024 := by decide
        exact this r hr
      have g := lack_le (sk := sk) (M := M) (a := a) (or_lt hT h2r) (fun i hi => by
        rw [Nat.testBit_or] at hi; simp at hi
        rcases hi with q | q
        · exact clr_sub (hs i q)
        · by_cases w : i = r
          · subst w; exact har
          · rw [Nat.testBit_two_pow_of_ne (Ne.symm w)] at q; exact absurd q (by decide))
      have g1 := pc_oa T (2 ^ r)
      have g2 : T &&& 2 ^ r = 0 := Classical.byContradiction fun q => nr (meet_bit.mp q)
      rw [g2] at g1
      have g3 : ∀ r, r < 10 → pc (2 ^ r) = 1 := by decide
      have g4 := g3 r hr
      have g5 : pc 0 = 0 := by decide
      have g6 : knG sk (T ||| 2 ^ r) M ≤ knG sk T M := cnt_le (fun i i0 i8 h => by
        unfold kwB at *
        simp only [Bool.and_eq_true, decide_eq_true_eq] at *
        refine ⟨h.1, ?_⟩
        rcases (meet_or _ _ _).mp h.2 with q | q
        · exact q
        · intro z
          refine c ⟨i.toNat, by omega, h.1, ?_, ?_⟩
          · rw [show ((i.toNat : Nat) : Int) = i by omega]; exact meet_bit.mp q
          · rw [show ((i.toNat : Nat) : Int) = i by omega]; exact z)
      unfold fk at *; omega
    refine .inr ⟨by rw [← he]; exact d1, fun hc => ?_⟩
    by_cases c2 : ∃ m : Nat, m < 10 ∧ M.testBit m = true ∧ (sk (m : Int)).toNat &&& T = 0
    · obtain ⟨m, m8, m1, m3⟩ := c2
      refine ⟨m, m8, m1, ?_⟩
      have := free m m8 m3
      omega
    · exfalso
      have h1 : cnt (fun i => M.testBit i.toNat) 10 ≤ knG sk T M := cnt_le (fun i i0 i8 h => by
        unfold kwB
        simp only [Bool.and_eq_true, decide_eq_true_eq]
        refine ⟨h, fun z => c2 ⟨i.toNat, by omega, h, ?_⟩⟩
        rw [show ((i.toNat : Nat) : Int) = i by omega]; exact z)
      have h2 : pc M = cnt (fun i => M.testBit i.toNat) 10 := by
        rfl
      have h3 : pc T ≤ pc (clr a r) := cnt_le (fun i _ _ h => hs _ h)
      have h4 := pc_clr (by omega) har
      unfold fk at ht; omega
theorem hall {sk : Int → Int} {a M r : Nat} (hr : r < 10) (har : a.testBit r = true) (hc : pc a ≤ pc M) : ∃ m, m < 10 ∧ M.testBit m = true ∧ cst sk m r + lackG sk (clr a r) (clr M m) = lackG sk a M := by
  rcases hall_ex (sk := sk) (M := M) hr har with ⟨m, m8, m1, m2, h⟩ | ⟨_, h⟩
  · refine ⟨m, m8, m1, Int.le_antisymm ?_ (hall_le hr m8 m1)⟩
    rw [cst, if_pos m2]; omega
  · obtain ⟨m, m8, m1, h⟩ := h hc
    refine ⟨m, m8, m1, Int.le_antisymm ?_ (hall_le hr m8 m1)⟩
    unfold cst; split <;> omega
theorem lack_skip {sk : Int → Int} {a M r : Nat} (hr : r < 10) (har : a.testBit r = true) : lackG sk a M ≤ lackG sk (clr a r) M + 1 := by
  obtain ⟨T, hT, hs, e⟩ := lack_is sk a M
  rw [← e]
  have hl : clr T r < 1024 := by
    apply Nat.lt_of_le_of_lt _ hT
    rw [← sub_iff.mpr (fun i (hi : (clr T r).testBit i = true) => clr_sub hi)]
    exact Nat.and_le_right
  have h2 := lack_le (sk := sk) (M := M) hl (a := clr a r) (fun i hi => by
    rw [clr_bit] at *; simp at *; exact ⟨hs i hi.1, hi.2⟩)
  have h3 : knG sk (clr T r) M ≤ knG sk T M := knG_mono (fun i => clr_sub) (fun i h => h)
  have h4 : pc T ≤ pc (clr T r) + 1 := by
    by_cases c : T.testBit r = true
    · rw [pc_clr hr c]; omega
    · have : clr T r = T := by
        apply Nat.eq_of_testBit_eq; intro i; rw [clr_bit]
        by_cases q : i = r
        · subst q; simp at c; simp [c]
        · simp [q]
      rw [this]; omega
  unfold fk at *
  omega
theorem bit_ge {a n i : Nat} (h : a < 2 ^ n) (hi : n ≤ i) : a.testBit i = false := Nat.testBit_lt_two_pow (Nat.lt_of_lt_of_le h (Nat.pow_le_pow_right (by decide) hi))
theorem knG_F {sk : Int → Int} {T M : Nat} (hM : M < 256) : knG sk T M = knw sk T M := by
  have a8 : kwB sk T M 8 = false := by unfold kwB; rw [show M.testBit (8 : Int).toNat = false from bit_ge (n := 8) hM (by decide)]; rfl
  have a9 : kwB sk T M 9 = false := by unfold kwB; rw [show M.testBit (9 : Int).toNat = false from bit_ge (n := 8) hM (by decide)]; rfl
  show cnt (kwB sk T M) 8 + (if kwB sk T M 8 = true then 1 else 0) + (if kwB sk T M 9 = true then 1 else 0) = cnt (kwB sk T M) 8
  rw [a8, a9]; simp
theorem lackG_F {sk : Int → Int} {a M : Nat} (ha : a < 64) (hM : M < 256) : lackF sk a M = lackG sk a M := by
  obtain ⟨T, hT, hs, e⟩ := lack_is sk a M
  have hT6 : T < 64 := Nat.lt_of_le_of_lt (by rw [← sub_iff.mpr hs]; exact Nat.and_le_right) ha
  have h1 := mx_le (lkV sk a M) 64 T hT6
  have z : lkV sk a M T = fk sk M T := by unfold lkV fk; rw [if_pos (sub_iff.mpr hs), knG_F hM]
  refine Int.le_antisymm ?_ (by rw [← e, ← z]; exact h1)
  unfold lackF
  rcases mx_is (lkV sk a M) 64 with h | ⟨i, hi, q⟩
  · rw [h]; exact lackG_rg _ _ _
  · rw [← q]
    unfold lkV
    by_cases c : i &&& a = i
    · rw [if_pos c, ← knG_F hM]
      exact lack_le (by omega) (sub_iff.mp c)
    · rw [if_neg c]; exact lackG_rg _ _ _
theorem clr_lt {a b n : Nat} (h : a < n) : clr a b < n := by
  apply Nat.lt_of_le_of_lt _ h
  rw [← sub_iff.mpr (fun i (hi : (clr a b).testBit i = true) => clr_sub hi)]
  exact Nat.and_le_right
theorem hallF_le {sk : Int → Int} {a M r m : Nat} (ha : a < 64) (hM : M < 256) (hr : r < 6) (hm8 : m < 8) (hm : M.testBit m = true) : lackF sk a M ≤ cst sk m r + lackF sk (clr a r) (clr M m) := by
  rw [lackG_F ha hM, lackG_F (clr_lt ha) (clr_lt hM)]
  exact hall_le (by omega) (by omega) hm
theorem hallF {sk : Int → Int} {a M r : Nat} (ha : a < 64) (hM : M < 256) (hr : r < 6) (har : a.testBit r = true) (hc : pc a ≤ pc M) : ∃ m, m < 8 ∧ M.testBit m = true ∧ cst sk m r + lackF sk (clr a r) (clr M m) = lackF sk a M := by
  obtain ⟨m, m8, m1, h⟩ := hall (sk := sk) (r := r) (by omega) har hc
  refine ⟨m, ?_, m1, ?_⟩
  · apply Classical.byContradiction; intro q
    rw [bit_ge (n := 8) hM (by omega)] at m1; exact absurd m1 (by decide)
  · rw [lackG_F ha hM, lackG_F (clr_lt ha) (clr_lt hM)]; exact h
