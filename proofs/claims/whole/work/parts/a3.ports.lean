/-! WHAT MAY BE SAID OF A PORT: the class's pile of sets -/
noncomputable def lfB (X : XS) (i p : Int) : Bool := @decide (lfP X i p) (Classical.propDecidable _)
theorem lfB_i {X : XS} {i p : Int} : lfB X i p = true ↔ lfP X i p := by unfold lfB; exact @decide_eq_true_iff _ (Classical.propDecidable _)
def evT (st : Int → Int) (lf : Int → Int → Bool) : Nat → Int → Int → Bool
  | 0, _, _ => false
  | n + 1, h, p => if st n = 18 then (if h = hgS st n - 1 then !evT st lf n h p else evT st lf n h p) else if st n = 17 then (if h = hgS st n - 2 then (evT st lf n h p && evT st lf n (h + 1) p) else evT st lf n h p) else if st n = 16 then (if h = hgS st n - 2 then (evT st lf n h p || evT st lf n (h + 1) p) else evT st lf n h p) else if h = hgS st n then lf n p else evT st lf n h p
theorem hg_b {st sg va S : Int → Int} : ∀ n : Nat, (∀ i : Nat, i < n → stO st sg va S i) → (0 ≤ hgS st n ∧ hgS st n ≤ n) ∧ (0 < n → 1 ≤ hgS st n)
  | 0, _ => ⟨⟨Int.le_refl 0, Int.le_refl 0⟩, fun w => by omega⟩
  | n + 1, a => by
    have IH := hg_b n (fun i hi => a i (by omega))
    obtain ⟨o1, o2, o3, -, -, -⟩ := a n (by omega)
    have e : hgS st (n + 1) = hgS st n + (if st n = 18 then 0 else if st n = 17 ∨ st n = 16 then -1 else 1) := rfl
    rw [e]
    by_cases c : st n = 18
    · have := o2 c
      rw [if_pos c]
      exact ⟨⟨by omega, by omega⟩, fun _ => by omega⟩
    · rw [if_neg c]
      by_cases d : st n = 17 ∨ st n = 16
      · have := o3 d
        rw [if_pos d]
        exact ⟨⟨by omega, by omega⟩, fun _ => by omega⟩
      · rw [if_neg d]
        exact ⟨⟨by omega, by omega⟩, fun _ => by omega⟩
theorem bs_and {p q : Int → Bool} {n : Nat} : bs p n &&& bs q n = bs (fun x => p x && q x) n := Nat.eq_of_testBit_eq fun i => by
  rw [Nat.testBit_and, bs_bit, bs_bit, bs_bit]
  cases decide (i < n) <;> simp
theorem bs_or {p q : Int → Bool} {n : Nat} : bs p n ||| bs q n = bs (fun x => p x || q x) n := Nat.eq_of_testBit_eq fun i => by
  rw [Nat.testBit_or, bs_bit, bs_bit, bs_bit]
  cases decide (i < n) <;> simp
theorem bs_inv {p : Int → Bool} {n : Nat} : mns (2 ^ n - 1) (bs p n) = bs (fun x => !p x) n := Nat.eq_of_testBit_eq fun i => by
  rw [mns_bit, bs_bit, bs_bit, Nat.testBit_two_pow_sub_one]
  cases decide (i < n) <;> simp
theorem ib_inv : ∀ n : Nat, n < 9 → ∀ x : Nat, x < 256 → iI ((2 ^ n - 1 : Nat) : Int) &&& (iI (x : Int) ^^^ iI (-1)) = iI ((mns (2 ^ n - 1) x : Nat) : Int) := by decide +kernel
theorem ib_all : ∀ n : Nat, n < 9 → (iI 1 <<< (iI (n : Int) &&& iI 31)) - iI 1 = iI ((2 ^ n - 1 : Nat) : Int) := by decide +kernel
theorem e_ports {f0 : Nat} {Y : YS} {X : XS} (h : Inv Y X) {i : Int} (i0 : 0 ≤ i) (i1 : i < XF X 8 0 3) (hl : 19 ≤ XR X 36 0 i) (hf : 300 ≤ f0) : fX8_portsOfStep f0 (Ad Y 8 0) (Ad Y 10 (XP X 0)) (iI i) (hp Y X) = some (iI ((bs (lfB X i) (XR X 25 0 0).toNat : Nat) : Int), hp Y X) := by
  have g := h.1.1; have W := h.2.1
  have se := h.2.2.2.2.2.1; have hC := se.1
  have c0 := hC.1
  have sh := h.2.2.2.2.2.2.2.2.1
  have k10 := sh.1 0 (by omega)
  have gk := ShO_k g k10
  have st := StO_0 g
  have g0 := SeO_0 g
  simp only [fX8_portsOfStep, li_0]
  rw [show (iI 0 : Int32) = iI ((bs (lfB X i) (0 : Int).toNat : Nat) : Int) from rfl]
  refine lp (fun f (p : Int) => bX8_portsOfStep_5 f0 f (Ad Y 8 0) (Ad Y 10 (XP X 0)) (iI i) (iI ((bs (lfB X i) p.toNat : Nat) : Int)) (iI p) (hp Y X)) (fun p => 0 ≤ p ∧ p ≤ XR X 25 0 0) (fun p => (17 - p).toNat) (fun r => r = _) ?_ f0 0 ⟨by omega, by omega⟩ (by omega)
  intro f p ⟨p0, p1⟩
  by_cases c : XR X 25 0 0 ≤ p
  · left
    simp (disch := first | assumption | omega | exact W_fl W _ _ _ | exact W_fh W _ _ _ | exact W_rl W _ _ _ | exact W_rh W _ _ _) only [bX8_portsOfStep_5, g10s, g_6_1, k_8, l_25, li_0, li_1, li_31, ob2, iI_add, Option.bind_some, iI_le, if_pos c]
    rw [show p = XR X 25 0 0 by omega]
  · right
    refine ⟨p + 1, ?_, ⟨by omega, by omega⟩, by omega⟩
    have eh := e_holds (f0 := f0) h i0 i1 p0 (show p < XR X 25 0 0 by omega) hl hf
    by_cases e : lfP X i p
    · have q := eh.1 e
      rw [← ib_put p0 (by omega) (lfB_i.mpr e)]
      simp (disch := first | assumption | omega | exact W_fl W _ _ _ | exact W_fh W _ _ _ | exact W_rl W _ _ _ | exact W_rh W _ _ _) only [bX8_portsOfStep_5, bX8_portsOfStep_37, g10s, g_6_1, k_8, l_25, li_0, li_1, li_31, ob2, iI_add, Option.bind_some, iI_le, if_neg c, q, iI_eq, Int.reduceEq, if_false, iI_add]
    · have q := eh.2 e
      rw [← ib_pass p0 (fun w => e (lfB_i.mp w))]
      simp (disch := first | assumption | omega | exact W_fl W _ _ _ | exact W_fh W _ _ _ | exact W_rl W _ _ _ | exact W_rh W _ _ _) only [bX8_portsOfStep_5, bX8_portsOfStep_37, g10s, g_6_1, k_8, l_25, li_0, li_1, li_31, ob2, iI_add, Option.bind_some, iI_le, if_neg c, q, iI_eq, Int.reduceEq, if_true, iI_add]
