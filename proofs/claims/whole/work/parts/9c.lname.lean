/-! A LINE WITH A NAME: here and there -/
def msK (k : Int) : Int := if k = 0 then 8 else if k = 1 then 16 else if k = 2 then 20 else if k = 3 then 8 else if k = 4 then 6 else if k = 5 then 8 else 16
theorem msK_n : ∀ k : Nat, k < 7 → mostI (iI (k : Int)) = some (iI (msK (k : Int))) := by decide +kernel
theorem msK_i {k : Int} (k0 : 0 ≤ k) (k6 : k ≤ 6) : mostI (iI k) = some (iI (msK k)) := by
  have := msK_n k.toNat (by omega)
  rw [show ((k.toNat : Nat) : Int) = k by omega] at this
  exact this
theorem msK_rg (k : Int) : 6 ≤ msK k ∧ msK k ≤ 20 := by unfold msK; (repeat' split) <;> omega
theorem rl_in {f0 : Nat} {Y : YS} {X : XS} (g : GY Y) (W : WF X) {k : Int} (hk : XF X 4 0 8 = k) (k0 : 0 ≤ k) (k6 : k ≤ 6) (room : XR X 25 1 k < msK k) : fX7_readLine f0 (Ad Y 7 0) (hp Y X) = bX7_readLine_81 f0 (Ad Y 7 0) (iI k) (hp Y X) := by
  have g1 := SeO_1 g
  have c1 : ¬ k < 0 := by omega
  have c2 : k ≤ 10 := by omega
  have c3 : ¬ 6 < k := by omega
  have c4 : ¬ k = 7 := by omega
  have mr := msK_rg k
  simp (disch := first | assumption | omega | exact W_fl W _ _ _ | exact W_fh W _ _ _ | exact W_rl W _ _ _ | exact W_rh W _ _ _) only [fX7_readLine, bX7_readLine_59, g_7_0, g_4_8, g_7_1, g_6_1, k_4, l_25, li_0, li_10, li_6, li_4, ob2, g_7_2, li_7, li_3, Option.bind_some, iI_add, hk, iI_lt, iI_le, iI_eq, if_neg c1, if_pos c2, if_neg c3, if_neg c4, msK_i k0 k6, if_pos room]
theorem rl_full {f0 : Nat} {Y : YS} {X : XS} (g : GY Y) (W : WF X) {k : Int} (hk : XF X 4 0 8 = k) (k0 : 0 ≤ k) (k6 : k ≤ 6) (room : ¬ XR X 25 1 k < msK k) : fX7_readLine f0 (Ad Y 7 0) (hp Y X) = some (0, hp Y (rfC X 4)) := by
  have g1 := SeO_1 g
  have c1 : ¬ k < 0 := by omega
  have c2 : k ≤ 10 := by omega
  have c3 : ¬ 6 < k := by omega
  have mr := msK_rg k
  simp (disch := first | assumption | omega | exact W_fl W _ _ _ | exact W_fh W _ _ _ | exact W_rl W _ _ _ | exact W_rh W _ _ _) only [fX7_readLine, g_7_0, g_4_8, g_7_1, g_6_1, k_4, l_25, li_0, li_10, li_6, li_4, ob2, Option.bind_some, iI_add, hk, iI_lt, iI_le, iI_eq, if_neg c1, if_pos c2, if_neg c3, msK_i k0 k6, if_neg room, e_refuse g]
  exact zr_i0
theorem rr_0 {f0 : Nat} {Y : YS} {X : XS} (g : GY Y) : fX7_readRest f0 (Ad Y 7 0) (iI 0) (hp Y X) = ob2 (fX7_readName f0 (Ad Y 7 0) (iI 0) (hp Y X)) (fun x h => zr x h) := by
  simp (disch := first | assumption | omega) only [fX7_readRest, k_7, li_1, li_2, li_3, li_4, li_5, li_6, li_7, li_8, li_9, li_10, iI_eq, Int.reduceEq, if_true, if_false]
theorem rr_3 {f0 : Nat} {Y : YS} {X : XS} (g : GY Y) : fX7_readRest f0 (Ad Y 7 0) (iI 3) (hp Y X) = ob2 (fX7_readName f0 (Ad Y 7 0) (iI 3) (hp Y X)) (fun x h => zr x h) := by
  simp (disch := first | assumption | omega) only [fX7_readRest, k_7, li_1, li_2, li_3, li_4, li_5, li_6, li_7, li_8, li_9, li_10, iI_eq, Int.reduceEq, if_true, if_false]
theorem rr_4 {f0 : Nat} {Y : YS} {X : XS} (g : GY Y) : fX7_readRest f0 (Ad Y 7 0) (iI 4) (hp Y X) = ob2 (fX7_readName f0 (Ad Y 7 0) (iI 4) (hp Y X)) (fun x h => zr x h) := by
  simp (disch := first | assumption | omega) only [fX7_readRest, k_7, li_1, li_2, li_3, li_4, li_5, li_6, li_7, li_8, li_9, li_10, iI_eq, Int.reduceEq, if_true, if_false]
theorem DR_ad {X X3 Z Z4 : XS} {s : Int} (h : DR X Z) (hs : isN s) (e25 : XR X3 25 1 = upi (XR X 25 1) s (XR X 25 1 s + 1)) (et : ∀ t, 26 ≤ t → t ≤ 32 → XR X3 t 1 = XR X t 1) (e6 : XF X3 6 1 2 = XF X 6 1 2) (e7 : XF X3 7 0 2 = XF X 7 0 2) (z62 : XR Z4 62 0 = upi (XR Z 62 0) (ciS s) (XR X 25 1 s + 1)) (z20 : XF Z4 12 0 20 = XF Z 12 0 20) : DR X3 Z4 := by
  obtain ⟨h1, h2, h3, h4⟩ := h
  have cr := ci_rg s
  have o : ∀ j, 4 ≤ j → XR Z4 62 0 j = XR Z 62 0 j := fun j hj => by rw [z62, upi_at, if_neg (by omega)]
  have ms : XR Z 62 0 (ciS s) = XR X 25 1 s := by
    unfold CnR at h1
    rcases hs with q | q | q | q <;> subst q
    · show XR Z 62 0 0 = _; omega
    · show XR Z 62 0 1 = _; omega
    · show XR Z 62 0 2 = _; omega
    · show XR Z 62 0 3 = _; omega
  refine ⟨?_, ?_, ?_, by rw [z20, e7]; exact h4⟩
  · unfold CnR at *
    rw [e25, e6, z62]
    simp only [upi_at]
    rcases hs with q | q | q | q <;> subst q <;> unfold ciS <;> simp <;> omega
  · obtain ⟨t1, t2, t3, t4⟩ := h2
    refine ⟨fun i i0 i1 => ?_, fun i i0 i1 => ?_, fun s t s0 s1 t0 t1 => ?_, fun i i0 i1 => ?_⟩
    · rw [et 26 (by decide) (by decide), et 27 (by decide) (by decide), et 28 (by decide) (by decide), et 29 (by decide) (by decide), o _ (by omega), o _ (by omega), o _ (by omega), o _ (by omega)]
      exact t1 i i0 i1
    · rw [et 31 (by decide) (by decide), o _ (by omega), o _ (by omega)]; exact t2 i i0 i1
    · rw [et 30 (by decide) (by decide), o _ (by omega)]; exact t3 s t s0 s1 t0 t1
    · rw [o 7 (by omega)] at i1
      rw [et 32 (by decide) (by decide), o _ (by omega), o _ (by omega)]; exact t4 i i0 i1
  · rw [z62]
    exact ZeS_cnt h3 cr.1 (by omega) (by omega)
theorem cap_rg (s : Int) : capN s ≤ 8 := by unfold capN; split <;> omega
theorem nm_up {Z1 : XS} {y : Int64} {S : Int → Int} {s m : Int} (hs : isN s) (hm : m = ncS S s) (m0 : 0 ≤ m) (hc : m < capN s) (cap : ∀ s', isN s' → ncS S s' ≤ capN s') : ∀ s' k, isN s' → 0 ≤ k → k < ncS (upi S (ciS s) (m + 1)) s' → (fun i => upi (XJ Z1 64 0) (30 + (nbS s + m)) y (30 + i)) (nbS s' + k) = if s' = s ∧ k = m then y else (fun i => XJ Z1 64 0 (30 + i)) (nbS s' + k) := fun s' k hs' k0 k1 => by
  rw [nc_up hs hs'] at k1
  have kc : k < capN s' := by
    have := cap s' hs'
    split at k1
    · rename_i e; rw [e]; omega
    · omega
  show upi (XJ Z1 64 0) (30 + (nbS s + m)) y (30 + (nbS s' + k)) = _
  rw [upi_at]
  by_cases q : s' = s ∧ k = m
  · rw [if_pos q, if_pos (by rw [q.1, q.2])]
  · rw [if_neg q, if_neg (fun z => q (nb_inj hs hs' k0 kc m0 hc (by omega)))]
theorem LR_cap {X Z : XS} (c : LC X) (h : LR X Z) : ∀ s, isN s → ncS (XR Z 62 0) s ≤ capN s := fun s hs => by
  have d := c.2.2.2.1.1; have e := h.2.2.2.1.1
  unfold CnR at e
  rcases hs with q | q | q | q <;> subst q
  · show XR Z 62 0 0 ≤ 8; omega
  · show XR Z 62 0 1 ≤ 8; omega
  · show XR Z 62 0 2 ≤ 6; omega
  · show XR Z 62 0 3 ≤ 8; omega
/-- both have a name more -/
theorem j_named {X X1 X2 X3 Z Z1 Z3 Z4 : XS} {s : Int} (c : LC X) (hs : isN s) (c1 : LC X1) (r1 : XR X1 25 1 s < capN s) (no : ∀ i, 0 ≤ i → i < XF X1 3 1 3 → XJ X1 22 1 i ≠ XJ X1 4 0 7) (r2 : RdF (adC X1 (XJ X1 4 0 7) s (XR X1 25 1 s)) X2) (h1 : LR X1 Z1) (so : XF X1 4 0 5 = 1) (n3 : NxF (sJ Z1 64 0 (upi (XJ Z1 64 0) (30 + (nbS s + XR X1 25 1 s)) (XJ Z1 12 0 17))) Z3) : DN X2 Z3 (upi (XR Z1 62 0) (ciS s) (XR X1 25 1 s + 1)) := by
  have cn := LR_nc c1 h1
  have mm : XR X1 25 1 s = ncS (XR Z1 62 0) s := by
    have e := h1.2.2.2.1.1
    unfold CnR at e
    rcases hs with q | q | q | q <;> subst q
    · show _ = XR Z1 62 0 0; omega
    · show _ = XR Z1 62 0 1; omega
    · show _ = XR Z1 62 0 2; omega
    · show _ = XR Z1 62 0 3; omega
  have z64 : XJ Z3 64 0 = upi (XJ Z1 64 0) (30 + (nbS s + XR X1 25 1 s)) (XJ Z1 12 0 17) := n3.2.2.1 64 0 (by omega)
  have d := DrS_rd r2
  obtain ⟨a1, a2, a3, a4, a5, a6, a7, a8, a9, a10, a11, a12, a13, a14⟩ := d
  unfold DN
  rw [a9, a10, a11, a12, z64]
  exact NamI_add h1.2.2.2.2.1 (h1.2.1.2.2.2.2.1 so).2 hs mm cn no (nm_up hs mm (by rw [mm]; exact (cn s hs).1) r1 (LR_cap c1 h1))
