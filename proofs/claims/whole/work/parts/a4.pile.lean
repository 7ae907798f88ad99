/-! WHAT MAY BE SAID OF A PORT: all steps of the class -/
theorem hg_18 {st : Int → Int} {n : Nat} (c : st n = 18) : hgS st (n + 1) = hgS st n := by
  show hgS st n + _ = _; rw [if_pos c]; omega
theorem hg_17 {st : Int → Int} {n : Nat} (c : st n = 17 ∨ st n = 16) : hgS st (n + 1) = hgS st n + -1 := by
  show hgS st n + _ = _; rw [if_neg (by omega), if_pos c]
theorem hg_l {st : Int → Int} {n : Nat} (c : 19 ≤ st n) : hgS st (n + 1) = hgS st n + 1 := by
  show hgS st n + _ = _; rw [if_neg (by omega), if_neg (by omega)]
theorem ev_18 {st : Int → Int} {lf : Int → Int → Bool} {n : Nat} (c : st n = 18) (h p : Int) : evT st lf (n + 1) h p = if h = hgS st n - 1 then !evT st lf n h p else evT st lf n h p := by
  rw [evT, if_pos c]
theorem ev_17 {st : Int → Int} {lf : Int → Int → Bool} {n : Nat} (c : st n = 17) (h p : Int) : evT st lf (n + 1) h p = if h = hgS st n - 2 then (evT st lf n h p && evT st lf n (h + 1) p) else evT st lf n h p := by
  rw [evT, if_neg (by omega), if_pos c]
theorem ev_16 {st : Int → Int} {lf : Int → Int → Bool} {n : Nat} (c : st n = 16) (h p : Int) : evT st lf (n + 1) h p = if h = hgS st n - 2 then (evT st lf n h p || evT st lf n (h + 1) p) else evT st lf n h p := by
  rw [evT, if_neg (by omega), if_neg (by omega), if_pos c]
theorem ev_l {st : Int → Int} {lf : Int → Int → Bool} {n : Nat} (c : 19 ≤ st n) (h p : Int) : evT st lf (n + 1) h p = if h = hgS st n then lf n p else evT st lf n h p := by
  rw [evT, if_neg (by omega), if_neg (by omega), if_neg (by omega)]
theorem Inv_39 {Y : YS} {X : XS} (h : Inv Y X) {r : Int → Int} (hr : ∀ i, Rg (r i)) : Inv Y (sR X 39 0 r) := ⟨h.1, W_R h.2.1 hr, h.2.2⟩
theorem Inv_78 {Y : YS} {X : XS} (h : Inv Y X) {r : Int → Int} (hr : ∀ i, Rg (r i)) : Inv Y (sR X 78 0 r) := ⟨h.1, W_R h.2.1 hr, h.2.2⟩
noncomputable abbrev eV (X : XS) : Nat → Int → Int → Bool := evT (XR X 36 0) (lfB X)
theorem e_portsFor {f0 : Nat} {Y : YS} {X : XS} (h : Inv Y X) (hn : 0 < XF X 8 0 3) (hf : 300 ≤ f0) : ∃ r', (∀ i, Rg (r' i)) ∧ fX8_portsFor f0 (Ad Y 8 0) (Ad Y 10 (XP X 0)) (hp Y X) = some (iI ((bs (eV X (XF X 8 0 3).toNat 0) (XR X 25 0 0).toNat : Nat) : Int), hp Y (sR X 39 0 r')) := by
  have g := h.1.1; have W := h.2.1
  have se := h.2.2.2.2.2.1; have hC := se.1
  have c0 := hC.1
  have sh := h.2.2.2.2.2.2.2.2.1
  have k10 := sh.1 0 (by omega)
  have gk := ShO_k g k10
  have st := StO_0 g
  have g0 := SeO_0 g
  have sn := h.2.2.2.2.2.2.2.2.2.1
  have s40 := sn.2.1
  have al := ib_all (XR X 25 0 0).toNat (by omega)
  rw [show ((XR X 25 0 0).toNat : Int) = XR X 25 0 0 by omega] at al
  obtain ⟨n, en⟩ : ∃ n : Nat, n = (XR X 25 0 0).toNat := ⟨_, rfl⟩
  rw [← en] at al ⊢
  have z0 : hp Y X = hp Y (sR X 39 0 (XR X 39 0)) := by rw [sR_self]
  have bl : ∀ p : Int → Bool, bs p n < 256 := fun p => by
    have b1 := bs_lt p n
    have b8 : 2 ^ n ≤ 2 ^ 8 := Nat.pow_le_pow_right (by decide) (by omega)
    omega
  have e1 : fX8_portsFor f0 (Ad Y 8 0) (Ad Y 10 (XP X 0)) (hp Y X) = bX8_portsFor_19 f0 f0 (Ad Y 8 0) (Ad Y 10 (XP X 0)) (iI ((2 ^ n - 1 : Nat) : Int)) (iI (hgS (XR X 36 0) 0)) (iI ((0 : Nat) : Int)) (hp Y X) := by
    simp (disch := first | assumption | omega | exact W_fl W _ _ _ | exact W_fh W _ _ _ | exact W_rl W _ _ _ | exact W_rh W _ _ _) only [fX8_portsFor, g10s, g_6_1, l_25, li_0, li_1, li_31, iI_sub, Option.bind_some, iI_add, al]
    rfl
  rw [e1, z0]
  refine lp (fun f (s : Nat × (Int → Int)) => bX8_portsFor_19 f0 f (Ad Y 8 0) (Ad Y 10 (XP X 0)) (iI ((2 ^ n - 1 : Nat) : Int)) (iI (hgS (XR X 36 0) s.1)) (iI (s.1 : Int)) (hp Y (sR X 39 0 s.2))) (fun s => (s.1 : Int) ≤ XF X 8 0 3 ∧ (∀ i, Rg (s.2 i)) ∧ ∀ a, 0 ≤ a → a < hgS (XR X 36 0) s.1 → s.2 a = ((bs (eV X s.1 a) n : Nat) : Int)) (fun s => (XF X 8 0 3 - s.1).toNat) (fun r => ∃ r', (∀ i, Rg (r' i)) ∧ r = some (iI ((bs (eV X (XF X 8 0 3).toNat 0) n : Nat) : Int), hp Y (sR X 39 0 r'))) ?_ f0 (0, XR X 39 0) ⟨by simp only; omega, fun i => W.2 39 0 i, fun a a0 a1 => by have : hgS (XR X 36 0) 0 = 0 := rfl; simp only at a1; omega⟩ (by simp only; omega)
  rintro f ⟨i, r⟩ ⟨h1, h2, h3⟩
  simp only at h1 h2 h3 ⊢
  have hb := hg_b (st := XR X 36 0) i (fun j hj => (sn.2.2 j (by omega)).2)
  obtain ⟨H, eH⟩ : ∃ H, H = hgS (XR X 36 0) i := ⟨_, rfl⟩
  rw [← eH] at hb h3 ⊢
  have y36 : XR (sR X 39 0 r) 36 0 = XR X 36 0 := rfl
  have y39 : XR (sR X 39 0 r) 39 0 = r := rfl
  have y8 : XF (sR X 39 0 r) 8 0 3 = XF X 8 0 3 := rfl
  have h0 := Inv_39 h h2
  by_cases c : XF X 8 0 3 ≤ i
  · left
    refine ⟨r, h2, ?_⟩
    have ei : i = (XF X 8 0 3).toNat := by omega
    have r0 := h3 0 (by omega) (by omega)
    simp (disch := first | assumption | omega | exact W_fl W _ _ _ | exact W_fh W _ _ _ | exact W_rl W _ _ _ | exact W_rh W _ _ _) only [bX8_portsFor_19, g_8_3, g_8_4, g_8_0, l_36, s_36, l_39, s_39, lm_1, li_0, li_1, li_18, iI_add, iI_sub, Option.bind_some, iI_neg, y8, iI_le, if_pos c, y39, r0]
    rw [ei]
  · right
    have so := (sn.2.2 i (by omega)).2
    obtain ⟨o1, o2, o3, -, -, -⟩ := so
    have rg : ∀ p : Int → Bool, Rg ((bs p n : Nat) : Int) := fun p => ⟨by omega, by have := bl p; omega⟩
    have up : ∀ (a : Int) (p : Int → Bool), ∀ j, Rg (upi r a ((bs p n : Nat) : Int) j) := fun a p j => by
      rw [upi_at]; split
      · exact rg p
      · exact h2 j
    by_cases c18 : XR X 36 0 i = 18
    · have H1 : ¬ H < 1 := by have := o2 c18; omega
      have ra := h3 (H - 1) (by omega) (by omega)
      have iv := ib_inv n (by omega) _ (bl (eV X i (H - 1)))
      rw [bs_inv] at iv
      refine ⟨(i + 1, upi r (H - 1) ((bs (fun p => !eV X i (H - 1) p) n : Nat) : Int)), ?_, ⟨by simp only; omega, up _ _, fun a a0 a1 => ?_⟩, by simp only; omega⟩
      · simp (disch := first | assumption | omega | exact W_fl W _ _ _ | exact W_fh W _ _ _ | exact W_rl W _ _ _ | exact W_rh W _ _ _) only [bX8_portsFor_19, bX8_portsFor_164, g_8_3, g_8_4, g_8_0, l_36, s_36, l_39, s_39, lm_1, li_0, li_1, li_18, iI_add, iI_sub, Option.bind_some, iI_neg, y8, y36, iI_le, if_neg c, c18, iI_eq, Int.reduceEq, if_true, iI_lt, if_neg H1, iI_sub, y39, ra, iI_neg, iv, sR_sR, iI_add]
        rw [hg_18 c18, ← eH]; rfl
      · simp only at a1 ⊢
        rw [hg_18 c18, ← eH] at a1
        have ev : eV X (i + 1) a = fun p => if a = H - 1 then !eV X i a p else eV X i a p := funext fun p => by rw [eH]; exact ev_18 c18 a p
        rw [ev, upi_at]
        by_cases d : a = H - 1
        · simp only [if_pos d, if_true, d]
        · simp only [if_neg d]; exact h3 a a0 a1
    by_cases c17 : XR X 36 0 i = 17
    · have H1 : ¬ H < 2 := by have := o3 (.inl c17); omega
      have ra := h3 (H + -1 - 1) (by omega) (by omega)
      have rb := h3 (H + -1) (by omega) (by omega)
      refine ⟨(i + 1, upi r (H + -1 - 1) ((bs (fun p => eV X i (H + -1 - 1) p && eV X i (H + -1) p) n : Nat) : Int)), ?_, ⟨by simp only; omega, up _ _, fun a a0 a1 => ?_⟩, by simp only; omega⟩
      · simp (disch := first | assumption | omega | exact W_fl W _ _ _ | exact W_fh W _ _ _ | exact W_rl W _ _ _ | exact W_rh W _ _ _) only [bX8_portsFor_19, bX8_portsFor_164, bX8_portsFor_68, g_8_3, g_8_4, g_8_0, l_36, s_36, l_39, s_39, lm_1, li_0, li_1, li_18, iI_add, iI_sub, li_17, li_2, Option.bind_some, iI_neg, y8, y36, iI_le, if_neg c, c17, iI_eq, Int.reduceEq, if_true, if_false, iI_lt, if_neg H1, iI_sub, y39, ra, rb, iI_neg, ib_and, bs_and, sR_sR, iI_add]
        rw [hg_17 (.inl c17), ← eH]; rfl
      · simp only at a1 ⊢
        rw [hg_17 (.inl c17), ← eH] at a1
        have ev : eV X (i + 1) a = fun p => if a = H - 2 then (eV X i a p && eV X i (a + 1) p) else eV X i a p := funext fun p => by rw [eH]; exact ev_17 c17 a p
        rw [ev, upi_at]
        by_cases d : a = H - 2
        · simp only [if_pos d, show H + -1 = a + 1 by omega, Int.add_sub_cancel, if_true]
        · simp only [if_neg d, if_neg (show ¬ a = H + -1 - 1 by omega)]; exact h3 a a0 (by omega)
    by_cases c16 : XR X 36 0 i = 16
    · have H1 : ¬ H < 2 := by have := o3 (.inr c16); omega
      have ra := h3 (H + -1 - 1) (by omega) (by omega)
      have rb := h3 (H + -1) (by omega) (by omega)
      refine ⟨(i + 1, upi r (H + -1 - 1) ((bs (fun p => eV X i (H + -1 - 1) p || eV X i (H + -1) p) n : Nat) : Int)), ?_, ⟨by simp only; omega, up _ _, fun a a0 a1 => ?_⟩, by simp only; omega⟩
      · simp (disch := first | assumption | omega | exact W_fl W _ _ _ | exact W_fh W _ _ _ | exact W_rl W _ _ _ | exact W_rh W _ _ _) only [bX8_portsFor_19, bX8_portsFor_164, bX8_portsFor_68, bX8_portsFor_108, g_8_3, g_8_4, g_8_0, l_36, s_36, l_39, s_39, lm_1, li_0, li_1, li_18, iI_add, iI_sub, li_17, li_2, li_16, Option.bind_some, iI_neg, y8, y36, iI_le, if_neg c, c16, iI_eq, Int.reduceEq, if_true, if_false, iI_lt, if_neg H1, iI_sub, y39, ra, rb, iI_neg, ib_or, bs_or, sR_sR, iI_add]
        rw [hg_17 (.inr c16), ← eH]; rfl
      · simp only at a1 ⊢
        rw [hg_17 (.inr c16), ← eH] at a1
        have ev : eV X (i + 1) a = fun p => if a = H - 2 then (eV X i a p || eV X i (a + 1) p) else eV X i a p := funext fun p => by rw [eH]; exact ev_16 c16 a p
        rw [ev, upi_at]
        by_cases d : a = H - 2
        · simp only [if_pos d, show H + -1 = a + 1 by omega, Int.add_sub_cancel, if_true]
        · simp only [if_neg d, if_neg (show ¬ a = H + -1 - 1 by omega)]; exact h3 a a0 (by omega)
    have cl : 19 ≤ XR X 36 0 i := by omega
    have ep : fX8_portsOfStep f0 (Ad Y 8 0) (Ad Y 10 (XP X 0)) (iI (i : Int)) (hp Y (sR X 39 0 r)) = some (iI ((bs (lfB X i) n : Nat) : Int), hp Y (sR X 39 0 r)) := by
      rw [en]
      exact e_ports (f0 := f0) h0 (i := i) (by omega) (show (i : Int) < XF X 8 0 3 by omega) cl hf
    refine ⟨(i + 1, upi r H ((bs (lfB X i) n : Nat) : Int)), ?_, ⟨by simp only; omega, up _ _, fun a a0 a1 => ?_⟩, by simp only; omega⟩
    · simp (disch := first | assumption | omega | exact W_fl W _ _ _ | exact W_fh W _ _ _ | exact W_rl W _ _ _ | exact W_rh W _ _ _) only [bX8_portsFor_19, bX8_portsFor_164, bX8_portsFor_68, bX8_portsFor_108, bX8_portsFor_148, g_8_3, g_8_4, g_8_0, l_36, s_36, l_39, s_39, lm_1, li_0, li_1, li_18, iI_add, iI_sub, li_17, li_2, li_16, k_8, ob2, Option.bind_some, iI_neg, y8, y36, iI_le, if_neg c, if_neg c18, if_neg c17, if_neg c16, iI_eq, y39, ep, sR_sR, iI_add]
      rw [hg_l cl, ← eH]; rfl
    · simp only at a1 ⊢
      rw [hg_l cl, ← eH] at a1
      have ev : eV X (i + 1) a = fun p => if a = H then lfB X i p else eV X i a p := funext fun p => by rw [eH]; exact ev_l cl a p
      rw [ev, upi_at]
      by_cases d : a = H
      · simp only [if_pos d, if_true]
      · simp only [if_neg d]; exact h3 a a0 (by omega)
