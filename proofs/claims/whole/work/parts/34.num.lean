/-! NUMBERS: an int as iI of an Int; all of arithmetic goes through, order and equality within the range -/
def iI (a : Int) : Int32 := Int32.ofInt a
def Rg (a : Int) : Prop := -2147483648 ≤ a ∧ a < 2147483648
theorem iI_to {a : Int} (h : Rg a) : (iI a).toInt = a := Int32.toInt_ofInt_of_le (by have := h.1; omega) (by have := h.2; omega)
theorem iI_of (x : Int32) : iI x.toInt = x := Int32.ofInt_toInt x
theorem iI_rg (x : Int32) : Rg x.toInt := ⟨by have := Int32.le_toInt x; omega, by have := Int32.toInt_lt x; omega⟩
theorem iI_ex (x : Int32) : ∃ a, Rg a ∧ x = iI a := ⟨x.toInt, iI_rg x, (iI_of x).symm⟩
theorem iI_add (a b : Int) : iI a + iI b = iI (a + b) := (Int32.ofInt_add a b).symm
theorem iI_sub (a b : Int) : iI a - iI b = iI (a - b) := (Int32.ofInt_sub a b).symm
theorem iI_mul (a b : Int) : iI a * iI b = iI (a * b) := (Int32.ofInt_mul a b).symm
theorem iI_neg (a : Int) : - iI a = iI (- a) := (Int32.ofInt_neg a).symm
theorem iI_lt {a b : Int} (ha : -2147483648 ≤ a) (ha' : a < 2147483648) (hb : -2147483648 ≤ b) (hb' : b < 2147483648) : (iI a < iI b) = (a < b) := by
  rw [Int32.lt_iff_toInt_lt, iI_to ⟨ha, ha'⟩, iI_to ⟨hb, hb'⟩]
theorem iI_le {a b : Int} (ha : -2147483648 ≤ a) (ha' : a < 2147483648) (hb : -2147483648 ≤ b) (hb' : b < 2147483648) : (iI a ≤ iI b) = (a ≤ b) := by
  rw [Int32.le_iff_toInt_le, iI_to ⟨ha, ha'⟩, iI_to ⟨hb, hb'⟩]
theorem iI_eq {a b : Int} (ha : -2147483648 ≤ a) (ha' : a < 2147483648) (hb : -2147483648 ≤ b) (hb' : b < 2147483648) : (iI a = iI b) = (a = b) := by
  rw [← Int32.toInt_inj, iI_to ⟨ha, ha'⟩, iI_to ⟨hb, hb'⟩]
theorem iI_clamp {a : Int} (h0 : 0 ≤ a) (h1 : a < 2147483648) : (iI a).toNatClampNeg = a.toNat := by
  rw [← Int32.toNat_toInt, iI_to ⟨by omega, h1⟩]
theorem iI_nat (n : Nat) : Int32.ofNat n = iI (n : Int) := Int32.ofInt_eq_ofNat.symm
theorem iI_ite {c : Prop} [Decidable c] (a b : Int) : (if c then iI a else iI b) = iI (if c then a else b) := by split <;> rfl
def bI (c : Prop) [Decidable c] : Int32 := if c then 1 else 0
theorem bI_0 {c : Prop} [Decidable c] : (bI c = 0) = ¬ c := by unfold bI; split <;> simp_all
theorem bI_T {c : Prop} [Decidable c] (h : c) : bI c = 1 := if_pos h
theorem bI_F {c : Prop} [Decidable c] (h : ¬ c) : bI c = 0 := if_neg h
theorem bI_i {c : Prop} [Decidable c] : bI c = iI (if c then 1 else 0) := by unfold bI; split <;> rfl
theorem zr_b {c : Prop} [Decidable c] {h : Hp} : (if c then zr 1 h else zr 0 h) = some (bI c, h) := by unfold bI zr; split <;> rfl
theorem zr_nb {c : Prop} [Decidable c] {h : Hp} : (if c then zr 0 h else zr 1 h) = some (bI (¬ c), h) := by unfold bI zr; split <;> simp_all
theorem inB_i {a : Int} {n : Nat} (h0 : 0 ≤ a) (h1 : a < (n : Int)) (hn : n < 2147483648) : inB (iI a) n = true := by
  have h2 : ¬ iI a < (0 : Int32) := by
    have : (0 : Int32) = iI 0 := rfl
    rw [this, iI_lt (by omega) (by omega) (by decide) (by decide)]; omega
  have h3 : a.toNat < n := by omega
  simp [inB, h2, iI_clamp h0 (by omega), h3]
/-- a loop that ends: b (f+1) s is the end, or b f of a lesser state -/
theorem lp {α σ : Type} (b : Nat → σ → Option α) (P : σ → Prop) (μ : σ → Nat) (Q : Option α → Prop) (h : ∀ f s, P s → Q (b (f + 1) s) ∨ ∃ s', b (f + 1) s = b f s' ∧ P s' ∧ μ s' < μ s) : ∀ f s, P s → μ s < f → Q (b f s) := by
  intro f
  induction f with
  | zero => intro s _ hm; omega
  | succ f ih =>
    intro s hp hm
    rcases h f s hp with q | ⟨s', e, hp', hm'⟩
    · exact q
    · rw [e]; exact ih s' hp' (by omega)
theorem zr_i0 {h : Hp} : zr (iI 0) h = some (0, h) := by simp [zr, show (iI 0 : Int32) = 0 from rfl]
theorem zr_i1 {h : Hp} : zr (iI 1) h = some (1, h) := by simp [zr, show (iI 1 : Int32) = 1 from rfl]
theorem bI_i0 {c : Prop} [Decidable c] : (bI c = iI 0) = ¬ c := bI_0
theorem bI_ne {c : Prop} [Decidable c] : (¬ bI c = iI 0) = c := by rw [bI_i0]; simp
theorem bI_i1 {c : Prop} [Decidable c] : (bI c = iI 1) = c := by unfold bI; split <;> simp_all [show (iI 1 : Int32) = 1 from rfl]
theorem ite_n {α : Type} {c : Prop} [Decidable c] {a b : α} : (if ¬ c then a else b) = if c then b else a := by split <;> simp_all
