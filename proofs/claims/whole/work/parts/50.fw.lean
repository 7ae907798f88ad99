/-! THE SHORTEST, stage by stage -/
def fwS (n k : Int) (r : Int → Int) : Int → Int := fun i => if 0 ≤ i ∧ i / 8 < n ∧ i % 8 < n then (if r (8 * (i / 8) + k) + r (8 * k + i % 8) < r i then r (8 * (i / 8) + k) + r (8 * k + i % 8) else r i) else r i
theorem fwS_at {n k : Int} {r : Int → Int} {a b : Int} (a0 : 0 ≤ a) (an : a < n) (b0 : 0 ≤ b) (bn : b < n) (b8 : b < 8) : fwS n k r (8 * a + b) = if r (8 * a + k) + r (8 * k + b) < r (8 * a + b) then r (8 * a + k) + r (8 * k + b) else r (8 * a + b) := by
  unfold fwS
  rw [show (8 * a + b) / 8 = a by omega, show (8 * a + b) % 8 = b by omega, if_pos ⟨by omega, an, bn⟩]
def FB (n : Int) (r : Int → Int) : Prop := ∀ a b, 0 ≤ a → a < n → 0 ≤ b → b < n → (0 ≤ r (8 * a + b) ∧ r (8 * a + b) ≤ 1000000) ∧ (a = b → r (8 * a + b) = 0) ∧ (a ≠ b → 1 ≤ r (8 * a + b))
theorem fw_FB {n k : Int} {r : Int → Int} (n8 : n ≤ 8) (h : FB n r) (k0 : 0 ≤ k) (kn : k < n) : FB n (fwS n k r) := fun a b a0 an b0 bn => by
  rw [fwS_at a0 an b0 bn (by omega)]
  have h1 := h a b a0 an b0 bn; have h2 := h a k a0 an k0 kn; have h3 := h k b k0 kn b0 bn
  by_cases e : a = b
  · have := h1.2.1 e
    rw [if_neg (by omega)]; exact h1
  · by_cases e1 : a = k
    · have := h2.2.1 e1
      have q : r (8 * k + b) = r (8 * a + b) := by rw [e1]
      rw [if_neg (by omega)]; exact h1
    · have := h2.2.2 e1; have := h1.2.2 e
      split
      · exact ⟨by omega, fun q => absurd q e, fun _ => by omega⟩
      · exact h1
def Fsy (n : Int) (r : Int → Int) : Prop := ∀ a b, 0 ≤ a → a < n → 0 ≤ b → b < n → r (8 * a + b) = r (8 * b + a)
theorem fw_sy {n k : Int} {r : Int → Int} (n8 : n ≤ 8) (h : Fsy n r) (k0 : 0 ≤ k) (kn : k < n) : Fsy n (fwS n k r) := fun a b a0 an b0 bn => by
  rw [fwS_at a0 an b0 bn (by omega), fwS_at b0 bn a0 an (by omega), h a b a0 an b0 bn, h a k a0 an k0 kn, h k b k0 kn b0 bn, Int.add_comm]
def Ftr (n m : Int) (r : Int → Int) : Prop := ∀ a b c, 0 ≤ a → a < n → 0 ≤ b → b < m → 0 ≤ c → c < n → r (8 * a + c) ≤ r (8 * a + b) + r (8 * b + c)
theorem fw_tr {n k : Int} {r : Int → Int} (n8 : n ≤ 8) (hB : FB n r) (h : Ftr n k r) (k0 : 0 ≤ k) (kn : k < n) : Ftr n (k + 1) (fwS n k r) := fun a b c a0 an b0 bk c0 cn => by
  have bn : b < n := by omega
  rw [fwS_at a0 an c0 cn (by omega), fwS_at a0 an b0 bn (by omega), fwS_at b0 bn c0 cn (by omega)]
  have kk := (hB k k k0 kn k0 kn).2.1 rfl
  by_cases e : b = k
  · subst e
    rw [kk]
    (repeat' split) <;> omega
  · have t1 := h a b c a0 an b0 (by omega) c0 cn
    have t2 := h k b c k0 kn b0 (by omega) c0 cn
    have t3 := h a b k a0 an b0 (by omega) k0 kn
    have p1 := (hB k b k0 kn b0 bn).1.1; have p2 := (hB b k b0 bn k0 kn).1.1
    (repeat' split) <;> omega
def fwG (n : Int) : Nat → (Int → Int) → Int → Int
  | 0, r => r
  | m + 1, r => fwS n m (fwG n m r)
theorem fwG_all {n : Int} {r : Int → Int} (n8 : n ≤ 8) (hB : FB n r) : ∀ m : Nat, (m : Int) ≤ n → FB n (fwG n m r) ∧ Ftr n m (fwG n m r) ∧ (Fsy n r → Fsy n (fwG n m r))
  | 0, _ => ⟨hB, fun a b c _ _ b0 b1 => by omega, fun h => h⟩
  | m + 1, hm => by
    have ih := fwG_all n8 hB m (by omega)
    refine ⟨fw_FB n8 ih.1 (by omega) (by omega), ?_, fun h => fw_sy n8 (ih.2.2 h) (by omega) (by omega)⟩
    have := fw_tr n8 ih.1 ih.2.1 (k := m) (by omega) (by omega)
    rw [show ((m + 1 : Nat) : Int) = (m : Int) + 1 by omega]; exact this
def FRR (n : Int) (rc rr : Int → Int) : Prop := (∀ a b, 0 ≤ a → a < n → 0 ≤ b → b < n → rr (8 * a + b) = rc (8 * a + b)) ∧ ∀ a b, 0 ≤ a → a < 8 → 0 ≤ b → b < 8 → a ≠ b → (n ≤ a ∨ n ≤ b) → rr (8 * a + b) = 1000000
theorem frr_s {n k : Int} {rc rr : Int → Int} (n8 : n ≤ 8) (hB : FB 8 rr) (h : FRR n rc rr) (k0 : 0 ≤ k) (kn : k < n) : FRR n (fwS n k rc) (fwS 8 k rr) := by
  refine ⟨fun a b a0 an b0 bn => ?_, fun a b a0 an b0 bn ne hh => ?_⟩
  · rw [fwS_at a0 (by omega) b0 (by omega) (by omega), fwS_at a0 an b0 bn (by omega), h.1 a b a0 an b0 bn, h.1 a k a0 an k0 kn, h.1 k b k0 kn b0 bn]
  · rw [fwS_at a0 (by omega) b0 (by omega) (by omega)]
    have v := h.2 a b a0 an b0 bn ne hh
    have p1 := (hB a k a0 an k0 (by omega)).1; have p2 := (hB k b k0 (by omega) b0 bn).1
    rcases hh with hh | hh
    · have := h.2 a k a0 an k0 (by omega) (by omega) (.inl hh)
      rw [if_neg (by omega)]; exact v
    · have := h.2 k b k0 (by omega) b0 bn (by omega) (.inr hh)
      rw [if_neg (by omega)]; exact v
theorem frr_t {n k : Int} {rc rr : Int → Int} (hB : FB 8 rr) (h : FRR n rc rr) (kn : n ≤ k) (k0 : 0 ≤ k) (k8 : k < 8) : FRR n rc (fwS 8 k rr) := by
  have st : ∀ a b, 0 ≤ a → a < 8 → 0 ≤ b → b < 8 → fwS 8 k rr (8 * a + b) = rr (8 * a + b) := by
    intro a b a0 an b0 bn
    rw [fwS_at a0 (by omega) b0 (by omega) (by omega)]
    have p1 := (hB a k a0 an k0 (by omega)); have p2 := (hB k b k0 (by omega) b0 bn); have p3 := (hB a b a0 an b0 bn).1
    by_cases e1 : a = k
    · have q : rr (8 * k + b) = rr (8 * a + b) := by rw [e1]
      have := p1.2.1 e1
      rw [if_neg (by omega)]
    · have := h.2 a k a0 an k0 k8 e1 (.inr kn)
      rw [if_neg (by omega)]
  refine ⟨fun a b a0 an b0 bn => ?_, fun a b a0 an b0 bn ne hh => ?_⟩
  · rw [st a b a0 (by omega) b0 (by omega)]; exact h.1 a b a0 an b0 bn
  · rw [st a b a0 an b0 bn]; exact h.2 a b a0 an b0 bn ne hh
theorem frr_all {n : Int} {rc rr : Int → Int} (n0 : 0 ≤ n) (n8 : n ≤ 8) (hB : FB 8 rr) (h : FRR n rc rr) : FRR n (fwG n n.toNat rc) (fwG 8 8 rr) := by
  have a1 : ∀ m : Nat, (m : Int) ≤ n → FRR n (fwG n m rc) (fwG 8 m rr) := by
    intro m
    induction m with
    | zero => intro _; exact h
    | succ m ih => intro hm; exact frr_s n8 (fwG_all (by omega) hB m (by omega)).1 (ih (by omega)) (by omega) (by omega)
  have a2 : ∀ m : Nat, n.toNat + m ≤ 8 → FRR n (fwG n n.toNat rc) (fwG 8 (n.toNat + m) rr) := by
    intro m
    induction m with
    | zero => intro _; exact a1 n.toNat (by omega)
    | succ m ih =>
      intro hm
      show FRR n _ (fwS 8 ((n.toNat + m : Nat) : Int) (fwG 8 (n.toNat + m) rr))
      exact frr_t (k := ((n.toNat + m : Nat) : Int)) (fwG_all (by omega) hB (n.toNat + m) (by omega)).1 (ih (by omega)) (by omega) (by omega) (by omega)
  have := a2 (8 - n.toNat) (by omega)
  rw [show n.toNat + (8 - n.toNat) = 8 by omega] at this
  exact this
/-- in place: behind (a0, b0) of a stage -/
def fwP (n k a0 b0 : Int) (r : Int → Int) : Int → Int := fun i => if i / 8 < a0 ∨ (i / 8 = a0 ∧ i % 8 < b0) then fwS n k r i else r i
theorem fwP_0 {n k : Int} {r : Int → Int} : fwP n k 0 0 r = r := funext fun i => by
  unfold fwP
  split
  · unfold fwS; rw [if_neg (by omega)]
  · rfl
theorem fwP_row {n k a : Int} {r : Int → Int} : fwP n k a n r = fwP n k (a + 1) 0 r := funext fun i => by
  unfold fwP
  by_cases c : i / 8 < a ∨ (i / 8 = a ∧ i % 8 < n)
  · rw [if_pos c, if_pos (by omega)]
  · rw [if_neg c]
    split
    · unfold fwS; rw [if_neg (by omega)]
    · rfl
theorem fwP_end {n k : Int} {r : Int → Int} : fwP n k n 0 r = fwS n k r := funext fun i => by
  unfold fwP
  by_cases c : i / 8 < n ∨ (i / 8 = n ∧ i % 8 < 0)
  · rw [if_pos c]
  · rw [if_neg c]; unfold fwS; rw [if_neg (by omega)]
theorem fwP_kk {n k a0 b0 : Int} {r : Int → Int} (kk : r (8 * k + k) = 0) (h0 : ∀ a, 0 ≤ a → a < n → 0 ≤ r (8 * a + k) ∧ 0 ≤ r (8 * k + a)) (k0 : 0 ≤ k) (kn : k < n) (n8 : n ≤ 8) {a : Int} (a0' : 0 ≤ a) (an : a < n) : fwP n k a0 b0 r (8 * a + k) = r (8 * a + k) ∧ fwP n k a0 b0 r (8 * k + a) = r (8 * k + a) := by
  have := h0 a a0' an
  unfold fwP
  constructor
  · split
    · rw [fwS_at a0' an k0 kn (by omega), kk, if_neg (by omega)]
    · rfl
  · split
    · rw [fwS_at k0 kn a0' an (by omega), kk, if_neg (by omega)]
    · rfl
theorem fwP_s {n k a b : Int} {r : Int → Int} (n8 : n ≤ 8) (a0 : 0 ≤ a) (an : a < n) (b0 : 0 ≤ b) (bn : b < n) (v : Int) (hv : v = if r (8 * a + k) + r (8 * k + b) < r (8 * a + b) then r (8 * a + k) + r (8 * k + b) else r (8 * a + b)) : (fun j => if j = 8 * a + b then v else fwP n k a b r j) = fwP n k a (b + 1) r := funext fun i => by
  by_cases e : i = 8 * a + b
  · rw [if_pos e]
    unfold fwP
    rw [e, if_pos (by omega), fwS_at a0 an b0 bn (by omega), hv]
  · rw [if_neg e]
    unfold fwP
    by_cases c : i / 8 < a ∨ (i / 8 = a ∧ i % 8 < b)
    · rw [if_pos c, if_pos (by omega)]
    · rw [if_neg c, if_neg (by omega)]
