/-! A REGISTER'S SHIPS: the reference's rounds -/
def rgZ (Z : XS) (a b : Int → Int) : XS := sR (sR Z 74 0 a) 75 0 b
theorem rg_xa (Z : XS) (a b : Int → Int) : XR (rgZ Z a b) 74 0 = a := rfl
theorem rg_xb (Z : XS) (a b : Int → Int) : XR (rgZ Z a b) 75 0 = b := rfl
theorem rg_sa (Z : XS) (a b r : Int → Int) : sR (rgZ Z a b) 74 0 r = rgZ Z r b := by unfold rgZ; rw [sR_cm _ 0 0 b r (by decide), sR_sR]
theorem rg_sb (Z : XS) (a b r : Int → Int) : sR (rgZ Z a b) 75 0 r = rgZ Z a r := by unfold rgZ; rw [sR_sR]
abbrev FF (Z : XS) : Int → Int → Bool := flF (XR Z 60 0) (XR Z 66 0)
abbrev RA (Z : XS) (n i : Nat) (a : Int → Int) : Prop := RgF a ∧ ∀ t : Nat, t < 2 ^ n → a (t : Int) = mst (FF Z) n i t
abbrev RB (Z : XS) (n i s j : Nat) (b : Int → Int) : Prop := RgF b ∧ ∀ t : Nat, t < 2 ^ n → b (t : Int) = mpr (FF Z) n i s j t
theorem mst_rg (F : Int → Int → Bool) (n i t : Nat) : -1 ≤ mst F n i t ∧ mst F n i t ≤ 10 := by unfold mst; have := pc_rg t; split <;> omega
theorem mpr_rg (F : Int → Int → Bool) (n i s j t : Nat) : -1 ≤ mpr F n i s j t ∧ mpr F n i s j t ≤ 10 := by unfold mpr; have := pc_rg t; split <;> omega
theorem fl_ii {T q : Int → Int} {i : Int} : flF T q i i = false := by unfold flF; rw [if_pos ⟨by omega, rfl⟩]; exact decide_eq_false (by omega)
theorem put_n {s j n : Nat} (hs : s < 2 ^ n) (hj : j < n) : s ||| 2 ^ j < 2 ^ n := Nat.or_lt_two_pow hs (Nat.pow_lt_pow_right (by decide) hj)
theorem pw_n {n : Nat} (h : n ≤ 10) : 1 ≤ 2 ^ n ∧ 2 ^ n ≤ 1024 := by
  have : ∀ n, n ≤ 10 → 1 ≤ 2 ^ n ∧ 2 ^ n ≤ 1024 := by decide
  exact this n h
theorem one_n {n : Nat} (h : n ≤ 10) : (iI 1) <<< (iI (n : Int) &&& iI 31) = iI ((2 ^ n : Nat) : Int) := ib_one (by omega)
theorem g161 {f0 : Nat} {Y : YS} {Z : XS} {S a b : Int → Int} {n i s : Nat} (g : GY Y) (n10 : n ≤ 10) (hR : REG Z S n) (hi : i < n) (hs : s < 2 ^ n) (ra : RA Z n i a) (rb : RB Z n i s 0 b) (hr : rch (FF Z) n i s = true) {g105 : Nat → Int32 → Int32 → Hp → Option (Int32 × Hp)} {g139 : Nat → Int32 → Int32 → Int32 → Hp → Option (Int32 × Hp)} (hf : 20 ≤ f0) : ∃ b', RB Z n i (s + 1) 0 b' ∧ bX12_register_161 f0 g105 g139 f0 (Ad Y 12 0) (iI (n : Int)) (iI (i : Int)) (iI (s : Int)) (iI 0) (hp Y (rgZ Z a b)) = g139 (Ad Y 12 0) (iI (n : Int)) (iI (i : Int)) (iI ((s : Int) + 1)) (hp Y (rgZ Z a b')) := by
  have pn := pw_n n10
  refine lp (fun f (z : Nat × (Int → Int)) => bX12_register_161 f0 g105 g139 f (Ad Y 12 0) (iI (n : Int)) (iI (i : Int)) (iI (s : Int)) (iI (z.1 : Int)) (hp Y (rgZ Z a z.2))) (fun z => z.1 ≤ n ∧ RB Z n i s z.1 z.2) (fun z => 11 - z.1) (fun r => ∃ b', RB Z n i (s + 1) 0 b' ∧ r = g139 (Ad Y 12 0) (iI (n : Int)) (iI (i : Int)) (iI ((s : Int) + 1)) (hp Y (rgZ Z a b'))) ?_ f0 (0, b) ⟨by simp only; omega, rb⟩ (by simp only; omega)
  intro f ⟨j, w⟩ ⟨hj, rw1, rw2⟩
  simp only at hj rw1 rw2 ⊢
  by_cases c : (n : Int) ≤ (j : Int)
  · left
    have jn : j = n := by omega
    subst jn
    refine ⟨w, ⟨rw1, fun t ht => by rw [rw2 t ht, mpr_row]⟩, ?_⟩
    simp (disch := first | assumption | omega) only [bX12_register_161, bX12_register_231, g_12_32, g_12_31, k_12, l_74, s_74, l_75, s_75, li_0, li_1, li_31, ob2, iI_add, Option.bind_some, iI_le, if_pos c]
  · right
    have cf := r_canFollow (f0 := f0) (Z := rgZ Z a w) (S := S) (n := (n : Int)) (i := (i : Int)) (j := (j : Int)) g (by omega) hR (by omega) (by omega) (by omega) (by omega)
    have cf2 : fX12_canFollow f0 (Ad Y 12 0) (iI (i : Int)) (iI (j : Int)) (hp Y (rgZ Z a w)) = some (iI (b01 (FF Z (i : Int) (j : Int))), hp Y (rgZ Z a w)) := cf
    have same : ∀ (hh : ¬ (s.testBit j = false ∧ FF Z (i : Int) (j : Int) = true)), RB Z n i s (j + 1) w := fun hh => ⟨rw1, fun t ht => by rw [rw2 t ht]; exact mpr_same (fun q => hh ⟨q.1, q.2.1⟩)⟩
    by_cases k1 : s.testBit j = true
    · have k1' : bitI (s : Int) (j : Int) = true := k1
      refine ⟨(j + 1, w), ?_, ⟨by simp only; omega, same (fun q => by rw [k1] at q; exact absurd q.1 (by decide))⟩, by simp only; omega⟩
      simp (disch := first | assumption | omega) only [bX12_register_161, bX12_register_225, g_12_32, g_12_31, k_12, l_74, s_74, l_75, s_75, li_0, li_1, li_31, ob2, iI_add, Option.bind_some, iI_le, if_neg c, r_bitOf, bI_i0, ite_n, if_pos k1']
      rfl
    · have k1' : ¬ bitI (s : Int) (j : Int) = true := k1
      have sj : s.testBit j = false := by simpa using k1
      by_cases k2 : (i : Int) = (j : Int)
      · refine ⟨(j + 1, w), ?_, ⟨by simp only; omega, same (fun q => by rw [← k2] at q; rw [show FF Z (i : Int) (i : Int) = false from fl_ii] at q; exact absurd q.2 (by decide))⟩, by simp only; omega⟩
        simp (disch := first | assumption | omega) only [bX12_register_161, bX12_register_225, g_12_32, g_12_31, k_12, l_74, s_74, l_75, s_75, li_0, li_1, li_31, ob2, iI_add, Option.bind_some, iI_le, iI_eq, if_neg c, r_bitOf, bI_i0, ite_n, if_neg k1', if_pos k2]
        rfl
      · cases k3 : FF Z (i : Int) (j : Int) with
        | false =>
          have z0 : b01 false = 0 := rfl
          rw [k3, z0] at cf2
          refine ⟨(j + 1, w), ?_, ⟨by simp only; omega, same (fun q => by rw [k3] at q; exact absurd q.2 (by decide))⟩, by simp only; omega⟩
          simp (disch := first | assumption | omega) only [bX12_register_161, bX12_register_225, g_12_32, g_12_31, k_12, l_74, s_74, l_75, s_75, li_0, li_1, li_31, ob2, iI_add, Option.bind_some, iI_le, iI_eq, if_neg c, r_bitOf, bI_i0, ite_n, if_neg k1', if_neg k2, cf2, if_true]
          rfl
        | true =>
          have z1 : b01 true = 1 := rfl
          have n11 : ¬ (1 : Int) = 0 := by decide
          rw [k3, z1] at cf2
          have pl := put_n (n := n) hs (show j < n by omega)
          have nw := mpr_new (F := FF Z) (n := n) (i := i) (s := s) (j := j) (by omega) sj k3 hr
          have pcs : pc (s ||| 2 ^ j) = pc s + 1 := by
            have := pc_clr (T := s ||| 2 ^ j) (r := j) (by omega) (by rw [put_bit]; simp)
            rw [clr_put (by rw [sj]; decide)] at this; exact this
          have as : a (s : Int) = pc s := by rw [ra.2 s hs]; unfold mst; rw [if_pos hr]
          have ws : w ((s ||| 2 ^ j : Nat) : Int) = mpr (FF Z) n i s j (s ||| 2 ^ j) := rw2 _ pl
          have wr1 : -1 ≤ w ((s ||| 2 ^ j : Nat) : Int) ∧ w ((s ||| 2 ^ j : Nat) : Int) ≤ pc (s ||| 2 ^ j) := by
            rw [ws]; unfold mpr; have := pc_rg (s ||| 2 ^ j); split <;> omega
          have pr := pc_rg (s ||| 2 ^ j); have pr2 := pc_rg s
          have gre : fX12_greater f0 (iI (w ((s ||| 2 ^ j : Nat) : Int))) (iI (pc s + 1)) (hp Y (rgZ Z a w)) = some (iI (pc s + 1), hp Y (rgZ Z a w)) := by
            have q : w ((s ||| 2 ^ j : Nat) : Int) ≤ pc s + 1 := by omega
            simp (disch := first | assumption | omega) only [fX12_greater, Option.bind_some, iI_add, iI_le, if_pos q]
          refine ⟨(j + 1, upi w ((s ||| 2 ^ j : Nat) : Int) (pc s + 1)), ?_, ⟨by simp only; omega, RgF_u rw1 (by omega) (by omega), fun t ht => ?_⟩, by simp only; omega⟩
          · have l1 : ((s ||| 2 ^ j : Nat) : Int) < 1024 := by omega
            have l2 : (s : Int) < 1024 := by omega
            have jl : j < 32 := by omega
            simp (disch := first | assumption | omega) only [bX12_register_161, bX12_register_225, g_12_32, g_12_31, k_12, l_74, s_74, l_75, s_75, li_0, li_1, li_31, ob2, iI_add, Option.bind_some, iI_le, iI_eq, if_neg c, r_bitOf, bI_i0, ite_n, if_neg k1', if_neg k2, cf2, if_neg n11, ib_one, ib_or, rg_xa, rg_xb, as, gre, rg_sb]
            rfl
          · show upi w ((s ||| 2 ^ j : Nat) : Int) (pc s + 1) (t : Int) = _
            by_cases e : t = s ||| 2 ^ j
            · subst e; rw [upi_eq, nw, pcs]
            · rw [upi_ne _ _ (by omega), rw2 t ht]; exact mpr_same (fun q => e q.2.2)
theorem g139' {f0 : Nat} {Y : YS} {Z : XS} {S a b : Int → Int} {n i : Nat} (g : GY Y) (n10 : n ≤ 10) (hR : REG Z S n) (hi : i < n) (ra : RA Z n i a) (rb : RA Z n i b) {g105 : Nat → Int32 → Int32 → Hp → Option (Int32 × Hp)} (hf : 2000 ≤ f0) : ∃ b', RA Z n (i + 1) b' ∧ bX12_register_139 f0 g105 f0 (Ad Y 12 0) (iI (n : Int)) (iI (i : Int)) (iI 0) (hp Y (rgZ Z a b)) = bX12_register_239 f0 g105 f0 (Ad Y 12 0) (iI (n : Int)) (iI (i : Int)) (iI 0) (hp Y (rgZ Z a b')) := by
  have pn := pw_n n10
  have one := one_n n10
  refine lp (fun f (z : Nat × (Int → Int)) => bX12_register_139 f0 g105 f (Ad Y 12 0) (iI (n : Int)) (iI (i : Int)) (iI (z.1 : Int)) (hp Y (rgZ Z a z.2))) (fun z => z.1 ≤ 2 ^ n ∧ RB Z n i z.1 0 z.2) (fun z => 1025 - z.1) (fun r => ∃ b', RA Z n (i + 1) b' ∧ r = bX12_register_239 f0 g105 f0 (Ad Y 12 0) (iI (n : Int)) (iI (i : Int)) (iI 0) (hp Y (rgZ Z a b'))) ?_ f0 (0, b) ⟨by simp only; omega, rb.1, fun t ht => by show b (t : Int) = mpr (FF Z) n i 0 0 t; rw [rb.2 t ht, mpr_0]⟩ (by simp only; omega)
  intro f ⟨s, w⟩ ⟨hs, rw1, rw2⟩
  simp only at hs rw1 rw2 ⊢
  by_cases c : ((2 ^ n : Nat) : Int) ≤ (s : Int)
  · left
    have e : s = 2 ^ n := by omega
    subst e
    refine ⟨w, ⟨rw1, fun t ht => by rw [rw2 t ht, mpr_end ht]⟩, ?_⟩
    simp (disch := first | assumption | omega) only [bX12_register_139, g_12_31, l_74, li_0, li_1, li_31, iI_add, Option.bind_some, one, iI_le, if_pos c]
  · right
    have s2 : s < 2 ^ n := by omega
    have as := ra.2 s s2
    have mr := mst_rg (FF Z) n i s
    cases hr : rch (FF Z) n i s with
    | true =>
      have av : (0 : Int) ≤ a (s : Int) := by rw [as]; unfold mst; rw [if_pos hr]; exact (pc_rg s).1
      have ab : a (s : Int) ≤ 10 := by rw [as]; exact mr.2
      obtain ⟨b', r1, r2⟩ := g161 (f0 := f0) (S := S) g n10 hR hi s2 ra ⟨rw1, rw2⟩ hr (g105 := g105) (g139 := bX12_register_139 f0 g105 f) (by omega)
      refine ⟨(s + 1, b'), ?_, ⟨by simp only; omega, r1⟩, by simp only; omega⟩
      simp (disch := first | assumption | omega) only [bX12_register_139, g_12_31, l_74, li_0, li_1, li_31, iI_add, Option.bind_some, one, iI_le, if_neg c, rg_xa, if_pos av, r2]
      rfl
    | false =>
      have av : ¬ (0 : Int) ≤ a (s : Int) := by rw [as]; unfold mst; rw [if_neg (by rw [hr]; decide)]; decide
      have ab : -1 ≤ a (s : Int) := by rw [as]; exact mr.1
      refine ⟨(s + 1, w), ?_, ⟨by simp only; omega, rw1, fun t ht => by show w (t : Int) = mpr (FF Z) n i (s + 1) 0 t; rw [rw2 t ht, mpr_skip hr]⟩, by simp only; omega⟩
      simp (disch := first | assumption | omega) only [bX12_register_139, bX12_register_231, g_12_31, l_74, li_0, li_1, li_31, iI_add, Option.bind_some, one, iI_le, if_neg c, rg_xa, if_neg av]
      rfl
theorem g112 {f0 : Nat} {Y : YS} {Z : XS} {a b : Int → Int} {n i : Nat} (g : GY Y) (n10 : n ≤ 10) (ra : RA Z n i a) (rb : RgF b) {g105 : Nat → Int32 → Int32 → Hp → Option (Int32 × Hp)} (hf : 2000 ≤ f0) : ∃ b', RA Z n i b' ∧ bX12_register_112 f0 g105 f0 (Ad Y 12 0) (iI (n : Int)) (iI (i : Int)) (iI 0) (hp Y (rgZ Z a b)) = bX12_register_139 f0 g105 f0 (Ad Y 12 0) (iI (n : Int)) (iI (i : Int)) (iI 0) (hp Y (rgZ Z a b')) := by
  have pn := pw_n n10
  have one := one_n n10
  refine lp (fun f (z : Nat × (Int → Int)) => bX12_register_112 f0 g105 f (Ad Y 12 0) (iI (n : Int)) (iI (i : Int)) (iI (z.1 : Int)) (hp Y (rgZ Z a z.2))) (fun z => z.1 ≤ 2 ^ n ∧ RgF z.2 ∧ ∀ t : Nat, t < z.1 → z.2 (t : Int) = a (t : Int)) (fun z => 1025 - z.1) (fun r => ∃ b', RA Z n i b' ∧ r = bX12_register_139 f0 g105 f0 (Ad Y 12 0) (iI (n : Int)) (iI (i : Int)) (iI 0) (hp Y (rgZ Z a b'))) ?_ f0 (0, b) ⟨by simp only; omega, rb, fun t ht => by simp only at ht; omega⟩ (by simp only; omega)
  intro f ⟨s, w⟩ ⟨hs, rw1, rw2⟩
  simp only at hs rw1 rw2 ⊢
  by_cases c : ((2 ^ n : Nat) : Int) ≤ (s : Int)
  · left
    refine ⟨w, ⟨rw1, fun t ht => by rw [rw2 t (by omega), ra.2 t ht]⟩, ?_⟩
    simp (disch := first | assumption | omega) only [bX12_register_112, g_12_32, g_12_31, l_74, s_74, l_75, s_75, li_0, li_1, li_31, iI_add, Option.bind_some, one, iI_le, if_pos c]
  · right
    refine ⟨(s + 1, upi w (s : Int) (a (s : Int))), ?_, ⟨by simp only; omega, RgF_u rw1 (ra.1 _).1 (ra.1 _).2, fun t ht => ?_⟩, by simp only; omega⟩
    · simp (disch := first | assumption | omega) only [bX12_register_112, g_12_32, g_12_31, l_74, s_74, l_75, s_75, li_0, li_1, li_31, iI_add, Option.bind_some, one, iI_le, if_neg c, rg_xa, rg_xb, rg_sb]
      rfl
    · simp only at ht
      show upi w (s : Int) (a (s : Int)) (t : Int) = a (t : Int)
      by_cases e : t = s
      · subst e; rw [upi_eq]
      · rw [upi_ne _ _ (by omega)]; exact rw2 t (by omega)
theorem g239 {f0 : Nat} {Y : YS} {Z : XS} {a b : Int → Int} {n i : Nat} (g : GY Y) (n10 : n ≤ 10) (ra : RgF a) (rb : RA Z n (i + 1) b) {g105 : Nat → Int32 → Int32 → Hp → Option (Int32 × Hp)} (hf : 2000 ≤ f0) : ∃ a', RA Z n (i + 1) a' ∧ bX12_register_239 f0 g105 f0 (Ad Y 12 0) (iI (n : Int)) (iI (i : Int)) (iI 0) (hp Y (rgZ Z a b)) = g105 (Ad Y 12 0) (iI (n : Int)) (iI ((i : Int) + 1)) (hp Y (rgZ Z a' b)) := by
  have pn := pw_n n10
  have one := one_n n10
  refine lp (fun f (z : Nat × (Int → Int)) => bX12_register_239 f0 g105 f (Ad Y 12 0) (iI (n : Int)) (iI (i : Int)) (iI (z.1 : Int)) (hp Y (rgZ Z z.2 b))) (fun z => z.1 ≤ 2 ^ n ∧ RgF z.2 ∧ ∀ t : Nat, t < z.1 → z.2 (t : Int) = b (t : Int)) (fun z => 1025 - z.1) (fun r => ∃ a', RA Z n (i + 1) a' ∧ r = g105 (Ad Y 12 0) (iI (n : Int)) (iI ((i : Int) + 1)) (hp Y (rgZ Z a' b))) ?_ f0 (0, a) ⟨by simp only; omega, ra, fun t ht => by simp only at ht; omega⟩ (by simp only; omega)
  intro f ⟨s, w⟩ ⟨hs, rw1, rw2⟩
  simp only at hs rw1 rw2 ⊢
  by_cases c : ((2 ^ n : Nat) : Int) ≤ (s : Int)
  · left
    refine ⟨w, ⟨rw1, fun t ht => by rw [rw2 t (by omega), rb.2 t ht]⟩, ?_⟩
    simp (disch := first | assumption | omega) only [bX12_register_239, g_12_31, g_12_32, l_74, s_74, l_75, s_75, li_0, li_1, li_31, iI_add, Option.bind_some, one, iI_le, if_pos c]
  · right
    refine ⟨(s + 1, upi w (s : Int) (b (s : Int))), ?_, ⟨by simp only; omega, RgF_u rw1 (rb.1 _).1 (rb.1 _).2, fun t ht => ?_⟩, by simp only; omega⟩
    · simp (disch := first | assumption | omega) only [bX12_register_239, g_12_31, g_12_32, l_74, s_74, l_75, s_75, li_0, li_1, li_31, iI_add, Option.bind_some, one, iI_le, if_neg c, rg_xa, rg_xb, rg_sa]
      rfl
    · simp only at ht
      show upi w (s : Int) (b (s : Int)) (t : Int) = b (t : Int)
      by_cases e : t = s
      · subst e; rw [upi_eq]
      · rw [upi_ne _ _ (by omega)]; exact rw2 t (by omega)
theorem g274 {f0 : Nat} {Y : YS} {Z : XS} {a b : Int → Int} {n : Nat} (g : GY Y) (n10 : n ≤ 10) (ra : RA Z n n a) (hf : 2000 ≤ f0) : bX12_register_274 f0 f0 (Ad Y 12 0) (iI (n : Int)) (iI 0) (iI 0) (hp Y (rgZ Z a b)) = some (iI ((n : Int) - mx (mst (FF Z) n n) (2 ^ n)), hp Y (rgZ Z a b)) := by
  have pn := pw_n n10
  have one := one_n n10
  have st : bX12_register_274 f0 f0 (Ad Y 12 0) (iI (n : Int)) (iI 0) (iI 0) (hp Y (rgZ Z a b)) = bX12_register_274 f0 f0 (Ad Y 12 0) (iI (n : Int)) (iI (mx (mst (FF Z) n n) 0)) (iI ((0 : Nat) : Int)) (hp Y (rgZ Z a b)) := rfl
  rw [st]
  refine lp (fun f (s : Nat) => bX12_register_274 f0 f (Ad Y 12 0) (iI (n : Int)) (iI (mx (mst (FF Z) n n) s)) (iI (s : Int)) (hp Y (rgZ Z a b))) (fun s => s ≤ 2 ^ n) (fun s => 1025 - s) (fun r => r = _) ?_ f0 0 (by omega) (by omega)
  intro f s hs
  have mr := mx_rg (fun t => (mst_rg (FF Z) n n t).2) s
  by_cases c : ((2 ^ n : Nat) : Int) ≤ (s : Int)
  · left
    simp (disch := first | assumption | omega) only [bX12_register_274, g_12_31, l_74, li_0, li_1, li_31, ob2, iI_add, iI_sub, Option.bind_some, one, iI_le, if_pos c]
    rw [show s = 2 ^ n by omega]
  · right
    refine ⟨s + 1, ?_, by omega, by omega⟩
    have as := ra.2 s (by omega)
    have sr := mst_rg (FF Z) n n s
    have gre : fX12_greater f0 (iI (mx (mst (FF Z) n n) s)) (iI (mst (FF Z) n n s)) (hp Y (rgZ Z a b)) = some (iI (mx (mst (FF Z) n n) (s + 1)), hp Y (rgZ Z a b)) := by
      rw [mx]
      by_cases q : mx (mst (FF Z) n n) s ≤ mst (FF Z) n n s
      · have e : (if mx (mst (FF Z) n n) s < mst (FF Z) n n s then mst (FF Z) n n s else mx (mst (FF Z) n n) s) = mst (FF Z) n n s := by split <;> omega
        rw [e]
        simp (disch := first | assumption | omega) only [fX12_greater, Option.bind_some, iI_add, iI_le, if_pos q]
      · rw [if_neg (by omega)]
        simp (disch := first | assumption | omega) only [fX12_greater, Option.bind_some, iI_add, iI_le, if_neg q]
    simp (disch := first | assumption | omega) only [bX12_register_274, g_12_31, l_74, li_0, li_1, li_31, ob2, iI_add, iI_sub, Option.bind_some, one, iI_le, if_neg c, rg_xa, as, gre]
    rfl
