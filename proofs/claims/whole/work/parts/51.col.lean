/-! THE FIRST ROW OF NAMES -/
def okP (C : Int → Int → Bool) (g : Int → Int) (p n : Int) : Prop := ∀ q, 0 ≤ q → q < p → g q = n → C p q = false
def Ext (C : Int → Int → Bool) (N c : Int) (g : Int → Int) (p : Int) : Prop := ∃ f : Int → Int, (∀ q, 0 ≤ q → q < p → f q = g q) ∧ ∀ i, p ≤ i → i < N → (0 ≤ f i ∧ f i < c) ∧ okP C f i (f i)
def LF (C : Int → Int → Bool) (N c : Int) (g : Int → Int) : Prop := ∀ p, 0 ≤ p → p < N → ((0 ≤ g p ∧ g p < c) ∧ okP C g p (g p)) ∧ ∀ n, 0 ≤ n → n < g p → ¬ (okP C g p n ∧ Ext C N c (upi g p n) (p + 1))
theorem okP_c {C : Int → Int → Bool} {f g : Int → Int} {p n : Int} (h : ∀ q, 0 ≤ q → q < p → f q = g q) : okP C f p n ↔ okP C g p n := by
  constructor
  · intro o q q0 q1 e; exact o q q0 q1 (by rw [h q q0 q1, e])
  · intro o q q0 q1 e; exact o q q0 q1 (by rw [← h q q0 q1, e])
theorem Ext_c {C : Int → Int → Bool} {N c : Int} {f g : Int → Int} {p : Int} (h : ∀ q, 0 ≤ q → q < p → f q = g q) (e : Ext C N c f p) : Ext C N c g p := by
  obtain ⟨x, x1, x2⟩ := e
  exact ⟨x, fun q q0 q1 => by rw [x1 q q0 q1, h q q0 q1], x2⟩
theorem Ext_m {C : Int → Int → Bool} {N c c' : Int} {g : Int → Int} {p : Int} (hc : c ≤ c') (e : Ext C N c g p) : Ext C N c' g p := by
  obtain ⟨x, x1, x2⟩ := e
  exact ⟨x, x1, fun i i0 i1 => ⟨⟨(x2 i i0 i1).1.1, by have := (x2 i i0 i1).1.2; omega⟩, (x2 i i0 i1).2⟩⟩
theorem Ext_all {C : Int → Int → Bool} {N : Int} {g : Int → Int} : Ext C N N g 0 := ⟨fun i => i, fun q q0 q1 => by omega, fun i i0 i1 => ⟨⟨i0, i1⟩, fun q q0 q1 (e : q = i) => by omega⟩⟩
theorem Ext_cons {C : Int → Int → Bool} {N c : Int} {f g : Int → Int} {p : Int} (hf : ∀ q, 0 ≤ q → q < p → f q = g q) (hv : ∀ i, p ≤ i → i < N → (0 ≤ f i ∧ f i < c) ∧ okP C f i (f i)) : Ext C N c (upi g p (f p)) (p + 1) :=
  ⟨f, fun q q0 q1 => by
    rw [upi_at]; split
    · rename_i e; rw [e]
    · exact hf q q0 (by omega), fun i i0 i1 => hv i (by omega) i1⟩
theorem LF_ext {C : Int → Int → Bool} {N c : Int} {g x : Int → Int} (h : LF C N c g) : Ext C N c x 0 := ⟨g, fun q q0 q1 => by omega, fun i i0 i1 => (h i i0 i1).1⟩
theorem LF_u {C : Int → Int → Bool} {N c : Int} {g g' : Int → Int} (h : LF C N c g) (h' : LF C N c g') : ∀ n : Nat, (n : Int) ≤ N → ∀ q, 0 ≤ q → q < (n : Int) → g q = g' q
  | 0, _, q, q0, q1 => by omega
  | n + 1, hn, q, q0, q1 => by
    have ih := LF_u h h' n (by omega)
    by_cases e : q = (n : Int)
    · subst e
      have lt : ∀ {g g' : Int → Int}, LF C N c g → LF C N c g' → (∀ q, 0 ≤ q → q < (n : Int) → g q = g' q) → ¬ g n < g' n := by
        intro g g' h h' ih c1
        refine (h' n (by omega) (by omega)).2 (g n) (h n (by omega) (by omega)).1.1.1 c1 ⟨(okP_c ih).mp (h n (by omega) (by omega)).1.2, ?_⟩
        exact Ext_cons ih (fun i i0 i1 => (h i (by omega) i1).1)
      have a := lt h h' ih
      have b := lt h' h (fun q q0 q1 => (ih q q0 q1).symm)
      omega
    · exact ih q q0 (by omega)
/-- two names change places, behind the first row -/
def swp (a b x : Int) : Int := if x = a then b else if x = b then a else x
theorem Ext_swap {C : Int → Int → Bool} {N c : Int} {f g : Int → Int} {p u : Int} (pN : p < N) (hg : ∀ q, 0 ≤ q → q < p → 0 ≤ g q ∧ g q < u) (u0 : 0 ≤ u) (hf : ∀ q, 0 ≤ q → q < p → f q = g q) (hv : ∀ i, p ≤ i → i < N → (0 ≤ f i ∧ f i < c) ∧ okP C f i (f i)) (hu : u < f p) : okP C g p u ∧ Ext C N c (upi g p u) (p + 1) := by
  refine ⟨fun q q0 q1 e => by have := hg q q0 q1; omega, ?_⟩
  have fix : ∀ q, 0 ≤ q → q < p → swp u (f p) (f q) = g q := by
    intro q q0 q1
    have := hg q q0 q1
    rw [hf q q0 q1]
    unfold swp; rw [if_neg (by omega), if_neg (by omega)]
  have inj : ∀ a b, swp u (f p) a = swp u (f p) b → a = b := by
    intro a b
    unfold swp
    (repeat' split) <;> omega
  have fp : swp u (f p) (f p) = u := by
    unfold swp
    rw [if_neg (by omega), if_pos rfl]
  have := Ext_cons (C := C) (N := N) (c := c) (f := fun i => swp u (f p) (f i)) (g := g) (p := p) fix (fun i i0 i1 => by
    have h := hv i i0 i1
    have hp := hv p (by omega) pN
    refine ⟨?_, fun q q0 q1 e => h.2 q q0 q1 (inj _ _ e)⟩
    show 0 ≤ swp u (f p) (f i) ∧ swp u (f p) (f i) < c
    have h1 := h.1; have h2 := hp.1
    unfold swp
    (repeat' split) <;> omega)
  rw [fp] at this
  exact this
theorem no_ext {C : Int → Int → Bool} {N c : Int} {g : Int → Int} {p u n : Int} (pN : p < N) (hg : ∀ q, 0 ≤ q → q < p → 0 ≤ g q ∧ g q < u) (u0 : 0 ≤ u) (hn : u < n ∨ c ≤ n) (h : ∀ n', 0 ≤ n' → n' < n → ¬ (okP C g p n' ∧ Ext C N c (upi g p n') (p + 1))) : ¬ Ext C N c g p := by
  intro ⟨f, f1, f2⟩
  have hp := f2 p (by omega) pN
  by_cases c1 : f p < n
  · exact h (f p) hp.1.1 c1 ⟨(okP_c f1).mp hp.2, Ext_cons f1 f2⟩
  · have un : u < n := by omega
    exact h u u0 un (Ext_swap pN hg u0 f1 f2 (by omega))
theorem no_ext2 {C : Int → Int → Bool} {N c : Int} {g : Int → Int} {p : Int} (pN : p < N) (h : ∀ n', 0 ≤ n' → n' < c → ¬ (okP C g p n' ∧ Ext C N c (upi g p n') (p + 1))) : ¬ Ext C N c g p := by
  intro ⟨f, f1, f2⟩
  have hp := f2 p (by omega) pN
  exact h (f p) hp.1.1 hp.1.2 ⟨(okP_c f1).mp hp.2, Ext_cons f1 f2⟩
/-- how far the search is -/
def hrn (g : Int → Int) : Nat → Nat
  | 0 => 0
  | p + 1 => hrn g p * 20 + (2 * g p + 1).toNat
theorem hrn_c {f g : Int → Int} : ∀ {p : Nat}, (∀ q, 0 ≤ q → q < (p : Int) → f q = g q) → hrn f p = hrn g p
  | 0, _ => rfl
  | p + 1, h => by rw [hrn, hrn, hrn_c (fun q q0 q1 => h q q0 (by omega)), h p (by omega) (by omega)]
theorem hrn_lt {g : Int → Int} : ∀ {p : Nat}, (∀ q, 0 ≤ q → q < (p : Int) → 0 ≤ g q ∧ g q ≤ 8) → hrn g p < 20 ^ p
  | 0, _ => by rw [hrn]; decide
  | p + 1, h => by
    have ih := hrn_lt (p := p) (fun q q0 q1 => h q q0 (by omega))
    have := h p (by omega) (by omega)
    rw [hrn, Nat.pow_succ]
    omega
def msr (g : Int → Int) (p : Nat) : Nat := (hrn g p * 20 + (2 * (g p + 1)).toNat) * 20 ^ (7 - p)
theorem msr_lt {g : Int → Int} {p : Nat} (p8 : p < 8) (h : ∀ q, 0 ≤ q → q < (p : Int) → 0 ≤ g q ∧ g q ≤ 8) (hp : -1 ≤ g p ∧ g p ≤ 8) : msr g p < 20 ^ 8 := by
  have h1 := hrn_lt h
  have h2 : hrn g p * 20 + (2 * (g p + 1)).toNat < 20 ^ (p + 1) := by rw [Nat.pow_succ]; omega
  have h3 : (20 : Nat) ^ 8 = 20 ^ (p + 1) * 20 ^ (7 - p) := by rw [← Nat.pow_add]; congr 1; omega
  rw [h3]
  exact Nat.mul_lt_mul_of_pos_right h2 (Nat.pow_pos (by decide))
theorem msr_in {g : Int → Int} {p : Nat} (hp : -1 ≤ g p) : msr g p < msr (upi g p (g p + 1)) p := by
  unfold msr
  rw [hrn_c (f := upi g p (g p + 1)) (g := g) (fun q q0 q1 => upi_ne _ _ (by omega)), upi_eq]
  exact Nat.mul_lt_mul_of_pos_right (by omega) (Nat.pow_pos (by decide))
theorem msr_up {g : Int → Int} {p : Nat} (p7 : p < 7) (hp : -1 ≤ g p) : msr g p < msr (upi (upi g p (g p + 1)) ((p + 1 : Nat) : Int) (-1)) (p + 1) := by
  unfold msr
  rw [hrn, hrn_c (f := upi (upi g p (g p + 1)) ((p + 1 : Nat) : Int) (-1)) (g := g) (fun q q0 q1 => by rw [upi_ne _ _ (by omega), upi_ne _ _ (by omega)]), upi_eq, upi_ne _ _ (by omega), upi_eq]
  rw [show 7 - p = (7 - (p + 1)) + 1 by omega, Nat.pow_succ, Nat.mul_comm (20 ^ (7 - (p + 1))) 20, ← Nat.mul_assoc]
  exact Nat.mul_lt_mul_of_pos_right (by omega) (Nat.pow_pos (by decide))
theorem msr_dn {g : Int → Int} {p : Nat} (p7 : p + 1 < 8) (h0 : 0 ≤ g p) (hp : -1 ≤ g ((p + 1 : Nat) : Int) ∧ g ((p + 1 : Nat) : Int) ≤ 8) {v : Int} : msr g (p + 1) < msr (upi g ((p + 1 : Nat) : Int) v) p := by
  unfold msr
  rw [hrn_c (f := upi g ((p + 1 : Nat) : Int) v) (g := g) (fun q q0 q1 => upi_ne _ _ (by omega)), upi_ne _ _ (by omega), hrn]
  rw [show 7 - p = (7 - (p + 1)) + 1 by omega, Nat.pow_succ, Nat.mul_comm (20 ^ (7 - (p + 1))) 20, ← Nat.mul_assoc]
  exact Nat.mul_lt_mul_of_pos_right (by omega) (Nat.pow_pos (by decide))
