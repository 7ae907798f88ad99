/-! port -/
theorem ib_or0 (a : Nat) : iI (a : Int) ||| iI 0 = iI (a : Int) := by rw [show (0 : Int) = ((0 : Nat) : Int) from rfl, ib_or, Nat.or_zero]
def pB1 (S : Int → Int) (k : Int) : Int → Bool := fun n => decide (0 < S (136 + (8 * n + k)))
def pB2 (S : Int → Int) (k : Int) : Int → Bool := fun n => decide (0 < S (8 + (8 * k + n)))
def pB3 (S : Int → Int) (k : Int) : Int → Bool := fun n => decide (0 < S (72 + (8 * n + k)))
theorem bs_sel {p : Int → Bool} {n : Nat} (hn : n < 31) {v : Int} (hv : p (n : Int) = decide (0 < v)) : iI ((bs p n : Nat) : Int) ||| (if v ≤ 0 then iI 0 else (iI 1) <<< (iI (n : Int) &&& iI 31)) = iI ((bs p (n + 1) : Nat) : Int) := by
  by_cases c : v ≤ 0
  · rw [if_pos c, ib_or0]
    have := ib_pass (p := p) (i := (n : Int)) (by omega) (by rw [hv]; simp; omega)
    rw [show ((n : Int)).toNat = n from rfl, show ((n : Int) + 1).toNat = n + 1 by omega] at this
    exact this
  · rw [if_neg c]
    have := ib_put (p := p) (i := (n : Int)) (by omega) (by omega) (by rw [hv]; simp; omega)
    rw [show ((n : Int)).toNat = n from rfl, show ((n : Int) + 1).toNat = n + 1 by omega] at this
    exact this
/-- the reference's three sets, then the rest of its answer -/
theorem r_port42 {f0 : Nat} {Y : YS} {Z : XS} {S : Int → Int} {k w : Int} (g : GY Y) (Ws : WS S) (k0 : 0 ≤ k) (k8 : k < 8) (hf : 20 ≤ f0) : ∃ f, 5 ≤ f ∧ bX12_port_42 f0 f0 (Ad Y 12 0) (iI k) (iI w) (iI 0) (iI 0) (iI 0) (iI 0) (hp Y (sR Z 61 0 S)) = bX12_port_42 f0 (f + 1) (Ad Y 12 0) (iI k) (iI w) (iI ((bs (pB1 S k) 8 : Nat) : Int)) (iI ((bs (pB2 S k) 8 : Nat) : Int)) (iI ((bs (pB3 S k) 8 : Nat) : Int)) (iI 8) (hp Y (sR Z 61 0 S)) := by
  have step : ∀ (f n : Nat), n < 8 → bX12_port_42 f0 (f + 1) (Ad Y 12 0) (iI k) (iI w) (iI ((bs (pB1 S k) n : Nat) : Int)) (iI ((bs (pB2 S k) n : Nat) : Int)) (iI ((bs (pB3 S k) n : Nat) : Int)) (iI (n : Int)) (hp Y (sR Z 61 0 S)) = bX12_port_42 f0 f (Ad Y 12 0) (iI k) (iI w) (iI ((bs (pB1 S k) (n + 1) : Nat) : Int)) (iI ((bs (pB2 S k) (n + 1) : Nat) : Int)) (iI ((bs (pB3 S k) (n + 1) : Nat) : Int)) (iI ((n + 1 : Nat) : Int)) (hp Y (sR Z 61 0 S)) := by
    intro f n hn
    have c : ¬ (8 : Int) ≤ (n : Int) := by omega
    have e1 := bs_sel (p := pB1 S k) (n := n) (by omega) (v := S (136 + (8 * (n : Int) + k))) rfl
    have e2 := bs_sel (p := pB2 S k) (n := n) (by omega) (v := S (8 + (8 * k + (n : Int)))) rfl
    have e3 := bs_sel (p := pB3 S k) (n := n) (by omega) (v := S (72 + (8 * (n : Int) + k))) rfl
    rw [← e1, ← e2, ← e3]
    by_cases a1 : S (136 + (8 * (n : Int) + k)) ≤ 0 <;> by_cases a2 : S (8 + (8 * k + (n : Int))) ≤ 0 <;> by_cases a3 : S (72 + (8 * (n : Int) + k)) ≤ 0 <;>
    · simp (disch := first | assumption | omega | exact WS_l Ws _ | exact WS_h Ws _) only [bX12_port_42, bX12_port_76, bX12_port_105, bX12_port_135, g_12_6, k_12, l61, li_0, li_1, li_8, li_312, li_2, li_320, li_3, li_4, li_136, li_31, ob2, iI_add, li_72, Option.bind_some, iI_le, if_neg c, r_cell, a1, a2, a3, if_true, if_false]
      rfl
  obtain ⟨f, hff⟩ : ∃ f, f0 = f + 9 := ⟨f0 - 9, by omega⟩
  refine ⟨f, by omega, ?_⟩
  have st : bX12_port_42 f0 f0 (Ad Y 12 0) (iI k) (iI w) (iI 0) (iI 0) (iI 0) (iI 0) (hp Y (sR Z 61 0 S)) = bX12_port_42 f0 (f + 9) (Ad Y 12 0) (iI k) (iI w) (iI ((bs (pB1 S k) 0 : Nat) : Int)) (iI ((bs (pB2 S k) 0 : Nat) : Int)) (iI ((bs (pB3 S k) 0 : Nat) : Int)) (iI ((0 : Nat) : Int)) (hp Y (sR Z 61 0 S)) := by rw [← hff]; rfl
  rw [st, step _ 0 (by omega), step _ 1 (by omega), step _ 2 (by omega), step _ 3 (by omega), step _ 4 (by omega), step _ 5 (by omega), step _ 6 (by omega), step _ 7 (by omega)]
  rfl
