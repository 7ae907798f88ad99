/-! lasts -/
def gdv (b : Int) : Nat → Int
  | 0 => 1
  | d + 1 => if (d : Int) + 1 ≤ 1 then 1 else if (12 : Int) % ((d : Int) + 1) = 0 ∧ b % ((d : Int) + 1) = 0 then (d : Int) + 1 else gdv b d
theorem e_gd {f0 : Nat} {h : Hp} {b : Int} (b0 : 0 ≤ b) (b1 : b ≤ 12) (hf : 20 ≤ f0) : fX11_greatestDivisor f0 (iI 12) (iI b) h = some (iI (gdv b 12), h) := by
  have st : fX11_greatestDivisor f0 (iI 12) (iI b) h = bX11_greatestDivisor_2 f0 f0 (iI 12) (iI b) (iI ((12 : Nat) : Int)) h := rfl
  rw [st]
  refine lp (fun f (d : Nat) => bX11_greatestDivisor_2 f0 f (iI 12) (iI b) (iI (d : Int)) h) (fun d => (1 ≤ d ∧ d ≤ 12) ∧ gdv b d = gdv b 12) (fun d => d) (fun r => r = _) ?_ f0 12 ⟨⟨by omega, by omega⟩, rfl⟩ (by omega)
  intro f d ⟨hd, e⟩
  obtain ⟨d', rfl⟩ : ∃ d', d = d' + 1 := ⟨d - 1, by omega⟩
  have hz : nz (iI ((d' + 1 : Nat) : Int)) = some () := nz_i (by omega) (by omega) (by omega)
  have m12 : iI 12 - iI 12 / iI ((d' + 1 : Nat) : Int) * iI ((d' + 1 : Nat) : Int) = iI (12 % ((d' + 1 : Nat) : Int)) := iI_mod (by omega) (by omega) (by omega) (by omega)
  have mb : iI b - iI b / iI ((d' + 1 : Nat) : Int) * iI ((d' + 1 : Nat) : Int) = iI (b % ((d' + 1 : Nat) : Int)) := iI_mod (by omega) (by omega) (by omega) (by omega)
  have r12 : 0 ≤ (12 : Int) % ((d' + 1 : Nat) : Int) ∧ (12 : Int) % ((d' + 1 : Nat) : Int) < ((d' + 1 : Nat) : Int) := ⟨Int.emod_nonneg _ (by omega), Int.emod_lt_of_pos _ (by omega)⟩
  have rb : 0 ≤ b % ((d' + 1 : Nat) : Int) ∧ b % ((d' + 1 : Nat) : Int) < ((d' + 1 : Nat) : Int) := ⟨Int.emod_nonneg _ (by omega), Int.emod_lt_of_pos _ (by omega)⟩
  have cst : ((d' + 1 : Nat) : Int) = (d' : Int) + 1 := by omega
  rw [gdv, ← cst] at e
  by_cases c : ((d' + 1 : Nat) : Int) ≤ 1
  · left
    rw [if_pos c] at e
    rw [← e]
    simp (disch := first | assumption | omega) only [bX11_greatestDivisor_2, li_0, li_1, iI_add, iI_mul, iI_sub, Option.bind_some, iI_le, if_pos c]
  · rw [if_neg c] at e
    by_cases a : (12 : Int) % ((d' + 1 : Nat) : Int) = 0
    · by_cases a2 : b % ((d' + 1 : Nat) : Int) = 0
      · left
        rw [if_pos ⟨a, a2⟩] at e
        rw [← e]
        simp (disch := first | assumption | omega) only [bX11_greatestDivisor_2, li_0, li_1, iI_add, iI_mul, iI_sub, Option.bind_some, iI_le, if_neg c, hz, m12, mb, iI_eq, if_pos a, if_pos a2]
      · right
        rw [if_neg (fun w => a2 w.2)] at e
        refine ⟨d', ?_, ⟨by omega, e⟩, by omega⟩
        simp (disch := first | assumption | omega) only [bX11_greatestDivisor_2, bX11_greatestDivisor_21, li_0, li_1, iI_add, iI_mul, iI_sub, lm_1, Option.bind_some, iI_neg, iI_le, if_neg c, hz, m12, mb, iI_eq, if_pos a, if_neg a2]
        rw [show ((d' + 1 : Nat) : Int) + -1 = (d' : Int) by omega]
    · right
      rw [if_neg (fun w => a w.1)] at e
      refine ⟨d', ?_, ⟨by omega, e⟩, by omega⟩
      simp (disch := first | assumption | omega) only [bX11_greatestDivisor_2, bX11_greatestDivisor_21, li_0, li_1, iI_add, iI_mul, iI_sub, lm_1, Option.bind_some, iI_neg, iI_le, if_neg c, hz, m12, mb, iI_eq, if_neg a]
      rw [show ((d' + 1 : Nat) : Int) + -1 = (d' : Int) by omega]
theorem r_part {f0 : Nat} {h : Hp} {u b : Nat} {w : Int} (hu : u < 2147483648) (hb : b < 3000000) (b0 : 0 < b) (hw : Rg w) (hf : 3000010 ≤ f0) : fX12_part f0 (iI (u : Int)) (iI (b : Int)) (iI w) h = some (iI (((if w = 0 then u else b) / Nat.gcd u b : Nat) : Int), h) := by
  have w1 := hw.1; have w2 := hw.2
  have st : fX12_part f0 (iI (u : Int)) (iI (b : Int)) (iI w) h = bX12_part_5 f0 f0 (iI (u : Int)) (iI (b : Int)) (iI w) (iI (u : Int)) (iI (b : Int)) h := rfl
  rw [st]
  have g0 : 0 < Nat.gcd u b := Nat.gcd_pos_of_pos_right _ b0
  refine lp (fun f (z : Nat × Nat) => bX12_part_5 f0 f (iI (u : Int)) (iI (b : Int)) (iI w) (iI (z.1 : Int)) (iI (z.2 : Int)) h) (fun z => Nat.gcd z.1 z.2 = Nat.gcd u b ∧ z.1 < 2147483648 ∧ z.2 < 2147483648) (fun z => z.2) (fun r => r = _) ?_ f0 (u, b) ⟨rfl, hu, by simp only; omega⟩ (by simp only; omega)
  intro f ⟨x, y⟩ ⟨e, hx, hy⟩
  simp only at e hx hy ⊢
  by_cases c : (y : Int) = 0
  · left
    have y0 : y = 0 := by omega
    rw [y0, Nat.gcd_zero_right] at e
    have hz : nz (iI (x : Int)) = some () := nz_i (by omega) (by omega) (by omega)
    by_cases a : w = 0
    · rw [if_pos a]
      have dv : iI (u : Int) / iI (x : Int) = iI ((u / Nat.gcd u b : Nat) : Int) := by rw [iI_div (by omega) (by omega) (by omega) (by omega), ← e]; rfl
      simp (disch := first | assumption | omega) only [bX12_part_5, bX12_part_35, li_0, li_1, iI_add, iI_mul, iI_sub, Option.bind_some, iI_eq, if_pos c, if_pos a, hz, dv]
    · rw [if_neg a]
      have dv : iI (b : Int) / iI (x : Int) = iI ((b / Nat.gcd u b : Nat) : Int) := by rw [iI_div (by omega) (by omega) (by omega) (by omega), ← e]; rfl
      simp (disch := first | assumption | omega) only [bX12_part_5, bX12_part_35, li_0, li_1, iI_add, iI_mul, iI_sub, Option.bind_some, iI_eq, if_pos c, if_neg a, hz, dv]
  · right
    have y0 : 0 < y := by omega
    have hz : nz (iI (y : Int)) = some () := nz_i (by omega) (by omega) (by omega)
    have md : iI (x : Int) - iI (x : Int) / iI (y : Int) * iI (y : Int) = iI ((x % y : Nat) : Int) := by rw [iI_mod (by omega) (by omega) (by omega) (by omega)]; rfl
    have lt := Nat.mod_lt x y0
    refine ⟨(y, x % y), ?_, ⟨?_, by simp only; omega, by simp only; omega⟩, by simp only; omega⟩
    · simp (disch := first | assumption | omega) only [bX12_part_5, li_0, li_1, iI_add, iI_mul, iI_sub, Option.bind_some, iI_eq, if_neg c, hz, md]
    · simp only
      rw [← e, Nat.gcd_comm x y, Nat.gcd_rec y x, Nat.gcd_comm]
/-- the whole of it, over all that can be -/
theorem lasts_all : ∀ p, p < 13 → ∀ n, n < 7 → (((((12 - p : Nat) : Int) / gdv ((12 - p : Nat) : Int) 12) ^ n = (((12 - p) ^ n / Nat.gcd ((12 - p) ^ n) (12 ^ n) : Nat) : Int)) ∧ (((12 : Int) / gdv ((12 - p : Nat) : Int) 12) ^ n = ((12 ^ n / Nat.gcd ((12 - p) ^ n) (12 ^ n) : Nat) : Int))) ∧ (1 ≤ gdv ((12 - p : Nat) : Int) 12 ∧ gdv ((12 - p : Nat) : Int) 12 ≤ 12) ∧ (12 - p) ^ n < 3000000 ∧ 12 ^ n < 3000000 := by decide +kernel
theorem e_pow {f0 : Nat} {h : Hp} {n r : Int} (n0 : 0 ≤ n) (n1 : n ≤ 6) (hf : 20 ≤ f0) : bX11_lasts_76 f0 f0 (iI n) (iI r) (iI 1) (iI 0) h = some (some (iI (r ^ n.toNat)), h) := by
  have st : bX11_lasts_76 f0 f0 (iI n) (iI r) (iI 1) (iI 0) h = bX11_lasts_76 f0 f0 (iI n) (iI r) (iI (r ^ 0)) (iI ((0 : Nat) : Int)) h := by rw [Int.pow_zero]; rfl
  rw [st]
  refine lp (fun f (i : Nat) => bX11_lasts_76 f0 f (iI n) (iI r) (iI (r ^ i)) (iI (i : Int)) h) (fun i => (i : Int) ≤ n) (fun i => 9 - i) (fun r => r = _) ?_ f0 0 (by omega) (by omega)
  intro f i hi
  by_cases c : n ≤ (i : Int)
  · left
    simp (disch := first | assumption | omega) only [bX11_lasts_76, li_0, li_1, iI_add, iI_mul, Option.bind_some, iI_le, if_pos c]
    rw [show n.toNat = i by omega]
  · right
    refine ⟨i + 1, ?_, by omega, by omega⟩
    simp (disch := first | assumption | omega) only [bX11_lasts_76, li_0, li_1, iI_add, iI_mul, Option.bind_some, iI_le, if_neg c]
    rw [Int.pow_succ]; rfl
theorem r_pows {f0 : Nat} {Y : YS} {Z : XS} {S : Int → Int} {n w : Int} {q : Nat} (g : GY Y) (n0 : 0 ≤ n) (n1 : n ≤ 6) (hS : 12 - S 6 = (q : Int)) (h1 : q ^ n.toNat < 3000000) (h2 : 12 ^ n.toNat < 3000000) (hw : Rg w) (hf : 3000010 ≤ f0) : bX12_lasts_41 f0 f0 (Ad Y 12 0) (iI n) (iI w) (iI 1) (iI 1) (iI 0) (hp Y (sR Z 61 0 S)) = some (iI (((if w = 0 then q ^ n.toNat else 12 ^ n.toNat) / Nat.gcd (q ^ n.toNat) (12 ^ n.toNat) : Nat) : Int), hp Y (sR Z 61 0 S)) := by
  have st : bX12_lasts_41 f0 f0 (Ad Y 12 0) (iI n) (iI w) (iI 1) (iI 1) (iI 0) (hp Y (sR Z 61 0 S)) = bX12_lasts_41 f0 f0 (Ad Y 12 0) (iI n) (iI w) (iI ((q ^ 0 : Nat) : Int)) (iI ((12 ^ 0 : Nat) : Int)) (iI ((0 : Nat) : Int)) (hp Y (sR Z 61 0 S)) := rfl
  rw [st]
  refine lp (fun f (i : Nat) => bX12_lasts_41 f0 f (Ad Y 12 0) (iI n) (iI w) (iI ((q ^ i : Nat) : Int)) (iI ((12 ^ i : Nat) : Int)) (iI (i : Int)) (hp Y (sR Z 61 0 S))) (fun i => (i : Int) ≤ n) (fun i => 9 - i) (fun r => r = _) ?_ f0 0 (by omega) (by omega)
  intro f i hi
  by_cases c : n ≤ (i : Int)
  · left
    have ei : n.toNat = i := by omega
    rw [ei] at h1 h2 ⊢
    have rp := r_part (f0 := f0) (h := hp Y (sR Z 61 0 S)) (u := q ^ i) (b := 12 ^ i) (w := w) (by omega) h2 (Nat.pow_pos (by decide)) hw hf
    simp (disch := first | assumption | omega) only [bX12_lasts_41, g_12_6, l61, li_0, li_1, li_6, li_12, ob2, iI_add, iI_mul, iI_sub, Option.bind_some, iI_le, if_pos c, rp]
  · right
    refine ⟨i + 1, ?_, by omega, by omega⟩
    simp (disch := first | assumption | omega) only [bX12_lasts_41, g_12_6, l61, li_0, li_1, li_6, li_12, ob2, iI_add, iI_mul, iI_sub, Option.bind_some, iI_le, if_neg c, hS]
    rw [Nat.pow_succ, Nat.pow_succ]; rfl
theorem op_lasts {f0 : Nat} {Y : YS} {X : XS} (h : Inv Y X) {n : Int} (rg_n : Rg n) {w : Int} (rg_w : Rg w) (hf : 4000000 ≤ f0) : OPT Y X (fL_lasts f0 (Ad Y 11 0) (iI n) (iI w) (Ad Y 90 0)) (fX12_lasts f0 (Ad Y 12 0) (iI n) (iI w)) := by
  have g := h.1.1; have W := h.2.1
  have se := h.2.2.2.2.2.1; have hC := se.1; have hR := se.2.1
  have g6 := SeO_0 g
  have c0 := hC.1; have c3 := hC.2.1; have c4 := hC.2.2.1; have c5 := hC.2.2.2.1
  have e0 := hR.1.1; have e1 := hR.1.2.1; have e2 := hR.1.2.2.1; have e3 := hR.1.2.2.2.1
  have sh := h.2.2.2.2.2.2.2.2.1
  have p0 := sh.1 0 (by omega)
  have gk0 := ShO_k g p0
  have cd := sh.2.2.2.1.1; have rl := sh.2.2.2.1.2
  have cs : CShip X (XP X 0) 0 := cd
  have sf := inv_S se cd rl
  have Ws : WS (XR X 61 0) := fun i => W.2 61 0 i
  have WA : WF (sF X 12 0 0 0) := W_F W (by decide) (by decide)
  have z := Z61 (Y := Y) (X := sF X 12 0 0 0) (S := XR X 61 0) rfl
  have hP := inv_PostR se h.2.2.2.2.2.2.2.1
  have th := Inv_th h (v := 0) ⟨by decide, by decide⟩
  have rz : Rg (0 : Int) := ⟨by decide, by decide⟩
  have n1 := rg_n.1; have n2 := rg_n.2; have w1 := rg_w.1; have w2 := rg_w.2
  have pr := hC.2.2.2.2.2.1
  have r6 : XF X 6 0 2 = XR X 61 0 6 := hR.1.2.2.2.2.2.2.1
  have rg6 : Rg (6 : Int) := ⟨by decide, by decide⟩
  have rg1 : Rg (1 : Int) := ⟨by decide, by decide⟩
  by_cases c : (0 ≤ n ∧ n ≤ 6) ∧ (0 ≤ w ∧ w ≤ 1)
  · obtain ⟨p, hp'⟩ : ∃ p : Nat, XF X 6 0 2 = (p : Int) := ⟨(XF X 6 0 2).toNat, by omega⟩
    have la := lasts_all p (by omega) n.toNat (by omega)
    obtain ⟨⟨l1, l2⟩, ⟨l3, l4⟩, l5, l6⟩ := la
    have q12 : 12 - XF X 6 0 2 = ((12 - p : Nat) : Int) := by omega
    have gd := e_gd (f0 := f0) (h := hp Y X) (b := ((12 - p : Nat) : Int)) (by omega) (by omega) (by omega)
    obtain ⟨G, hG⟩ : ∃ G, G = gdv ((12 - p : Nat) : Int) 12 := ⟨_, rfl⟩
    rw [← hG] at l1 l2 l3 l4 gd
    have c1 : ¬ n < 0 := by omega
    have c2 : ¬ 6 < n := by omega
    have c3 : ¬ w < 0 := by omega
    have g0 : ¬ G = 0 := by omega
    have hz : nz (iI G) = some () := nz_i (by omega) (by omega) (by omega)
    have d1 : iI ((12 - p : Nat) : Int) / iI G = iI (((12 - p : Nat) : Int) / G) := iI_div (by omega) (by omega) (by omega) (by omega)
    have d2 : iI 12 / iI G = iI (12 / G) := iI_div (by omega) (by omega) (by omega) (by omega)
    obtain ⟨V, hV⟩ : ∃ V : Int, V = (((if w = 0 then (12 - p) ^ n.toNat else 12 ^ n.toNat) / Nat.gcd ((12 - p) ^ n.toNat) (12 ^ n.toNat) : Nat) : Int) := ⟨_, rfl⟩
    have cl : fX11_lasts f0 (Ad Y 11 0) (iI n) (iI w) (hp Y X) = some (some (iI V), hp Y X) := by
      by_cases a : w = 0
      · have pw := e_pow (f0 := f0) (h := hp Y X) (n := n) (r := ((12 - p : Nat) : Int) / G) (by omega) (by omega) (by omega)
        rw [l1] at pw
        rw [hV, if_pos a]
        simp (disch := first | assumption | omega | exact W_fl W _ _ _ | exact W_fh W _ _ _ | exact W_rl W _ _ _ | exact W_rh W _ _ _ | exact WS_l Ws _ | exact WS_h Ws _) only [fX11_lasts, bX11_lasts_65, bX11_lasts_68, g_11_4, g_6_2, li_0, li_6, li_1, li_12, ob2, iI_sub, Option.bind_some, iI_add, iI_lt, iI_le, if_neg c1, if_neg c2, if_neg c3, if_pos c.2.2, q12, gd, iI_eq, if_neg g0, if_pos a, hz, d1, pw]
      · have pw := e_pow (f0 := f0) (h := hp Y X) (n := n) (r := 12 / G) (by omega) (by omega) (by omega)
        rw [l2] at pw
        rw [hV, if_neg a]
        simp (disch := first | assumption | omega | exact W_fl W _ _ _ | exact W_fh W _ _ _ | exact W_rl W _ _ _ | exact W_rh W _ _ _ | exact WS_l Ws _ | exact WS_h Ws _) only [fX11_lasts, bX11_lasts_65, bX11_lasts_68, g_11_4, g_6_2, li_0, li_6, li_1, li_12, ob2, iI_sub, Option.bind_some, iI_add, iI_lt, iI_le, if_neg c1, if_neg c2, if_neg c3, if_pos c.2.2, q12, gd, iI_eq, if_neg g0, if_neg a, hz, d2, pw]
    have zX := Z61 (Y := Y) (X := sJ X 90 0 (upi (XJ X 90 0) 0 (Int32.toInt64 (iI V)))) (S := XR X 61 0) rfl
    refine ⟨0, sJ X 90 0 (upi (XJ X 90 0) 0 (Int32.toInt64 (iI V))), iI V, sF (sJ X 90 0 (upi (XJ X 90 0) 0 (Int32.toInt64 (iI V)))) 12 0 0 0, ?_, ?_, rfl, .inl rfl, fun _ => upi_eq (XJ X 90 0) 0 _, Inv_th (Inv_90 h) rz⟩
    · simp (disch := first | assumption | omega | exact W_fl W _ _ _ | exact W_fh W _ _ _ | exact W_rl W _ _ _ | exact W_rh W _ _ _ | exact WS_l Ws _ | exact WS_h Ws _) only [fL_lasts, k_11, li_0, li_1, Option.bind_some, iI_add, cl, s_90]
    · have ti := r_throwsIf (f0 := f0) (Y := Y) (X := sR (sJ X 90 0 (upi (XJ X 90 0) 0 (Int32.toInt64 (iI V)))) 61 0 (XR X 61 0)) g (c := False)
      rw [← bI_00] at ti
      have z3 := Z61 (Y := Y) (X := sF (sJ X 90 0 (upi (XJ X 90 0) 0 (Int32.toInt64 (iI V)))) 12 0 0 0) (S := XR X 61 0) rfl
      have rp := r_pows (f0 := f0) (Z := sF (sJ X 90 0 (upi (XJ X 90 0) 0 (Int32.toInt64 (iI V)))) 12 0 0 0) (S := XR X 61 0) (n := n) (w := w) (q := 12 - p) g (by omega) (by omega) (by omega) l5 l6 rg_w (by omega)
      rw [← hV] at rp
      rw [zX, z3]
      simp (disch := first | assumption | omega | exact W_fl W _ _ _ | exact W_fh W _ _ _ | exact W_rl W _ _ _ | exact W_rh W _ _ _ | exact WS_l Ws _ | exact WS_h Ws _) only [fX12_lasts, bX12_lasts_25, li_0, li_6, li_1, ob2, k_12, Option.bind_some, iI_add, r_isIn, bI_i0, ite_n, if_pos c.1, if_pos c.2, ti, if_false, sF_sR, iI_eq, if_true, rp]
  · have cl : fX11_lasts f0 (Ad Y 11 0) (iI n) (iI w) (hp Y X) = some (none, hp Y X) := by
      by_cases a1 : n < 0
      · simp (disch := first | assumption | omega | exact W_fl W _ _ _ | exact W_fh W _ _ _ | exact W_rl W _ _ _ | exact W_rh W _ _ _ | exact WS_l Ws _ | exact WS_h Ws _) only [fX11_lasts, bX11_lasts_19, g_11_4, g_6_2, li_0, li_6, li_1, li_12, ob2, iI_sub, Option.bind_some, iI_add, iI_lt, if_pos a1]
      · by_cases a2 : 6 < n
        · simp (disch := first | assumption | omega | exact W_fl W _ _ _ | exact W_fh W _ _ _ | exact W_rl W _ _ _ | exact W_rh W _ _ _ | exact WS_l Ws _ | exact WS_h Ws _) only [fX11_lasts, bX11_lasts_19, g_11_4, g_6_2, li_0, li_6, li_1, li_12, ob2, iI_sub, Option.bind_some, iI_add, iI_lt, if_neg a1, if_pos a2]
        · by_cases a3 : w < 0
          · simp (disch := first | assumption | omega | exact W_fl W _ _ _ | exact W_fh W _ _ _ | exact W_rl W _ _ _ | exact W_rh W _ _ _ | exact WS_l Ws _ | exact WS_h Ws _) only [fX11_lasts, bX11_lasts_19, g_11_4, g_6_2, li_0, li_6, li_1, li_12, ob2, iI_sub, Option.bind_some, iI_add, iI_lt, if_neg a1, if_neg a2, if_pos a3]
          · have a4 : ¬ w ≤ 1 := by omega
            simp (disch := first | assumption | omega | exact W_fl W _ _ _ | exact W_fh W _ _ _ | exact W_rl W _ _ _ | exact W_rh W _ _ _ | exact WS_l Ws _ | exact WS_h Ws _) only [fX11_lasts, bX11_lasts_19, g_11_4, g_6_2, li_0, li_6, li_1, li_12, ob2, iI_sub, Option.bind_some, iI_add, iI_lt, iI_le, if_neg a1, if_neg a2, if_neg a3, if_neg a4]
    have zX := Z61 (Y := Y) (X := X) (S := XR X 61 0) rfl
    refine ⟨1, X, iI 0, sF X 12 0 0 1, ?_, ?_, rfl, .inr rfl, fun q => absurd q (by decide), Inv_th h ⟨by decide, by decide⟩⟩
    · simp (disch := first | assumption | omega | exact W_fl W _ _ _ | exact W_fh W _ _ _ | exact W_rl W _ _ _ | exact W_rh W _ _ _ | exact WS_l Ws _ | exact WS_h Ws _) only [fL_lasts, k_11, li_0, li_1, Option.bind_some, iI_add, cl]
    · have ti := r_throwsIf (f0 := f0) (Y := Y) (X := X) g (c := True)
      rw [← bI_1] at ti
      have n11 : ¬ (1 : Int) = 0 := by decide
      by_cases a : 0 ≤ n ∧ n ≤ 6
      · have b : ¬ (0 ≤ w ∧ w ≤ 1) := fun q => c ⟨a, q⟩
        simp (disch := first | assumption | omega | exact W_fl W _ _ _ | exact W_fh W _ _ _ | exact W_rl W _ _ _ | exact W_rh W _ _ _ | exact WS_l Ws _ | exact WS_h Ws _) only [fX12_lasts, bX12_lasts_25, bX12_lasts_20, li_0, li_6, li_1, ob2, k_12, Option.bind_some, iI_add, r_isIn, bI_i0, ite_n, if_pos a, if_neg b, ti, if_true, iI_eq, if_neg n11]
      · simp (disch := first | assumption | omega | exact W_fl W _ _ _ | exact W_fh W _ _ _ | exact W_rl W _ _ _ | exact W_rh W _ _ _ | exact WS_l Ws _ | exact WS_h Ws _) only [fX12_lasts, bX12_lasts_25, bX12_lasts_20, li_0, li_6, li_1, ob2, k_12, Option.bind_some, iI_add, r_isIn, bI_i0, ite_n, if_neg a, ti, if_true, iI_eq, if_neg n11]
