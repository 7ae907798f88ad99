/-! soonest, where: both answer the same -/
theorem gl_day {X : XS} {k : Nat} : ∀ n : Nat, (glA X k n).1 = -1 ∨ ((0 ≤ (glA X k n).1 ∧ (glA X k n).1 < n) ∧ (glA X k n).2 = XF X 10 k 1 + frA X k (glA X k n).1)
  | 0 => .inl rfl
  | n + 1 => by
    have ih := gl_day (X := X) (k := k) n
    rw [glA]; split
    · right
      exact ⟨⟨by show (0 : Int) ≤ (n : Int); omega, by show (n : Int) < ((n + 1 : Nat) : Int); omega⟩, rfl⟩
    · rcases ih with q | q
      · exact .inl q
      · exact .inr ⟨⟨q.1.1, by have := q.1.2; omega⟩, q.2⟩
theorem Inv_33 {Y : YS} {X : XS} (h : Inv Y X) {a b : Int} (ha : Rg a) (hb : Rg b) : Inv Y (sF (sF (sF X 12 0 0 0) 12 0 33 a) 12 0 34 b) := ⟨h.1, W_F (W_F (W_F h.2.1 (by decide) (by decide)) ha.1 ha.2) hb.1 hb.2, h.2.2⟩
theorem gl_rg {Y : YS} {X : XS} (h : Inv Y X) : ∀ n : Nat, n ≤ 8 → (-1 ≤ (glA X (XP X 0) n).1 ∧ (glA X (XP X 0) n).1 < n) ∧ 0 ≤ (glA X (XP X 0) n).2 ∧ (glA X (XP X 0) n).2 ≤ 1000000 := by
  have g := h.1.1; have W := h.2.1
  have se := h.2.2.2.2.2.1; have hC := se.1; have hR := se.2.1
  have g6 := SeO_0 g
  have c0 := hC.1; have c3 := hC.2.1; have c4 := hC.2.2.1; have c5 := hC.2.2.2.1
  have e0 := hR.1.1; have e1 := hR.1.2.1; have e2 := hR.1.2.2.1; have e3 := hR.1.2.2.2.1
  have sh := h.2.2.2.2.2.2.2.2.1
  have p0 := sh.1 0 (by omega)
  have gk0 := ShO_k g p0
  have cd := sh.2.2.2.1.1; have rl := sh.2.2.2.1.2
  have cs : CShip X (XP X 0) 0 := cd
  have sf := inv_S se cd rl
  have Ws : WS (XR X 61 0) := fun i => W.2 61 0 i
  have WA : WF (sF X 12 0 0 0) := W_F W (by decide) (by decide)
  have z := Z61 (Y := Y) (X := sF X 12 0 0 0) (S := XR X 61 0) rfl
  have hP := inv_PostR se h.2.2.2.2.2.2.2.1
  have th := Inv_th h (v := 0) ⟨by decide, by decide⟩
  have rz : Rg (0 : Int) := ⟨by decide, by decide⟩
  refine glA_rg (fun n hn => ?_)
  have := cd.1; have d1 : (shG X (XP X 0)).1 1 = XF X 10 (XP X 0) 1 := rfl
  unfold frA
  split
  · rename_i fh
    have q := cd.2.1 fh
    have q2 : (shG X (XP X 0)).1 2 = XF X 10 (XP X 0) 2 := rfl
    have := hC.2.2.2.2.2.2.2.2.2.2.1 (XF X 10 (XP X 0) 2 * 8 + n) (by omega) (by omega); omega
  · omega
theorem op_where {f0 : Nat} {Y : YS} {X : XS} (h : Inv Y X) (hf : 2000 ≤ f0) : ∃ v X1 X2, fX11_where f0 (Ad Y 11 0)  (hp Y X) = some (v, hp Y X1) ∧ fX12_where f0 (Ad Y 12 0)  (hp Y X1) = some (v, hp Y X2) ∧ Inv Y X2 := by
  have g := h.1.1; have W := h.2.1
  have se := h.2.2.2.2.2.1; have hC := se.1; have hR := se.2.1
  have g6 := SeO_0 g
  have c0 := hC.1; have c3 := hC.2.1; have c4 := hC.2.2.1; have c5 := hC.2.2.2.1
  have e0 := hR.1.1; have e1 := hR.1.2.1; have e2 := hR.1.2.2.1; have e3 := hR.1.2.2.2.1
  have sh := h.2.2.2.2.2.2.2.2.1
  have p0 := sh.1 0 (by omega)
  have gk0 := ShO_k g p0
  have cd := sh.2.2.2.1.1; have rl := sh.2.2.2.1.2
  have cs : CShip X (XP X 0) 0 := cd
  have sf := inv_S se cd rl
  have Ws : WS (XR X 61 0) := fun i => W.2 61 0 i
  have WA : WF (sF X 12 0 0 0) := W_F W (by decide) (by decide)
  have z := Z61 (Y := Y) (X := sF X 12 0 0 0) (S := XR X 61 0) rfl
  have hP := inv_PostR se h.2.2.2.2.2.2.2.1
  have th := Inv_th h (v := 0) ⟨by decide, by decide⟩
  have rz : Rg (0 : Int) := ⟨by decide, by decide⟩
  have f20 : 20 ≤ f0 := by omega
  have so := r_soonestOf (f0 := f0) h hf
  have gr := gl_rg h (XR X 25 0 0).toNat (by omega)
  obtain ⟨a, ha⟩ : ∃ a, a = (if canA X (XP X 0) then (glA X (XP X 0) (XR X 25 0 0).toNat).2 else 1000000) := ⟨_, rfl⟩
  obtain ⟨b, hb⟩ : ∃ b, b = (if canA X (XP X 0) then (glA X (XP X 0) (XR X 25 0 0).toNat).1 else -1) := ⟨_, rfl⟩
  have ra : Rg a := by rw [ha]; split <;> exact ⟨by omega, by omega⟩
  have rb : Rg b := by rw [hb]; split <;> exact ⟨by omega, by omega⟩
  rw [← ha, ← hb] at so
  have z2 := Z61 (Y := Y) (X := sF (sF (sF X 12 0 0 0) 12 0 33 a) 12 0 34 b) (S := XR X 61 0) rfl
  refine ⟨iI b, X, sF (sF (sF X 12 0 0 0) 12 0 33 a) 12 0 34 b, ?_, ?_, Inv_33 h ra rb⟩
  · simp (disch := first | assumption | omega | exact W_fl W _ _ _ | exact W_fh W _ _ _ | exact W_rl W _ _ _ | exact W_rh W _ _ _ | exact WS_l Ws _ | exact WS_h Ws _) only [fX11_where, g_11_11, k_10, ob2, Option.bind_some, iI_add, e_goal, ← hb]
  · have x34 : XF (sR (sF (sF (sF X 12 0 0 0) 12 0 33 a) 12 0 34 b) 61 0 (XR X 61 0)) 12 0 34 = b := rfl
    simp (disch := first | assumption | omega | exact W_fl W _ _ _ | exact W_fh W _ _ _ | exact W_rl W _ _ _ | exact W_rh W _ _ _ | exact WS_l Ws _ | exact WS_h Ws _) only [fX12_where, g_12_34, p_12_0, k_12, li_0, Option.bind_some, iI_add, z, so, x34, z2]
theorem op_soonest {f0 : Nat} {Y : YS} {X : XS} (h : Inv Y X) (hf : 2000 ≤ f0) : ∃ v X1 X2, fX11_soonest f0 (Ad Y 11 0)  (hp Y X) = some (v, hp Y X1) ∧ fX12_soonest f0 (Ad Y 12 0)  (hp Y X1) = some (v, hp Y X2) ∧ Inv Y X2 := by
  have g := h.1.1; have W := h.2.1
  have se := h.2.2.2.2.2.1; have hC := se.1; have hR := se.2.1
  have g6 := SeO_0 g
  have c0 := hC.1; have c3 := hC.2.1; have c4 := hC.2.2.1; have c5 := hC.2.2.2.1
  have e0 := hR.1.1; have e1 := hR.1.2.1; have e2 := hR.1.2.2.1; have e3 := hR.1.2.2.2.1
  have sh := h.2.2.2.2.2.2.2.2.1
  have p0 := sh.1 0 (by omega)
  have gk0 := ShO_k g p0
  have cd := sh.2.2.2.1.1; have rl := sh.2.2.2.1.2
  have cs : CShip X (XP X 0) 0 := cd
  have sf := inv_S se cd rl
  have Ws : WS (XR X 61 0) := fun i => W.2 61 0 i
  have WA : WF (sF X 12 0 0 0) := W_F W (by decide) (by decide)
  have z := Z61 (Y := Y) (X := sF X 12 0 0 0) (S := XR X 61 0) rfl
  have hP := inv_PostR se h.2.2.2.2.2.2.2.1
  have th := Inv_th h (v := 0) ⟨by decide, by decide⟩
  have rz : Rg (0 : Int) := ⟨by decide, by decide⟩
  have f20 : 20 ≤ f0 := by omega
  have so := r_soonestOf (f0 := f0) h hf
  have gr := gl_rg h (XR X 25 0 0).toNat (by omega)
  have gd := gl_day (X := X) (k := XP X 0) (XR X 25 0 0).toNat
  obtain ⟨a, ha⟩ : ∃ a, a = (if canA X (XP X 0) then (glA X (XP X 0) (XR X 25 0 0).toNat).2 else 1000000) := ⟨_, rfl⟩
  obtain ⟨b, hb⟩ : ∃ b, b = (if canA X (XP X 0) then (glA X (XP X 0) (XR X 25 0 0).toNat).1 else -1) := ⟨_, rfl⟩
  have ra : Rg a := by rw [ha]; split <;> exact ⟨by omega, by omega⟩
  have rb : Rg b := by rw [hb]; split <;> exact ⟨by omega, by omega⟩
  have rb1 := rb.1; have rb2 := rb.2
  have ab : b = -1 ∨ ((0 ≤ b ∧ b < 8) ∧ a = XF X 10 (XP X 0) 1 + frA X (XP X 0) b) := by
    rw [ha, hb]; split
    · rcases gd with q | q
      · exact .inl q
      · exact .inr ⟨by omega, q.2⟩
    · exact .inl rfl
  rw [← ha, ← hb] at so
  have z2 := Z61 (Y := Y) (X := sF (sF (sF X 12 0 0 0) 12 0 33 a) 12 0 34 b) (S := XR X 61 0) rfl
  have x34 : XF (sR (sF (sF (sF X 12 0 0 0) 12 0 33 a) 12 0 34 b) 61 0 (XR X 61 0)) 12 0 34 = b := rfl
  have x33 : XF (sR (sF (sF (sF X 12 0 0 0) 12 0 33 a) 12 0 34 b) 61 0 (XR X 61 0)) 12 0 33 = a := rfl
  by_cases q : b = -1
  · have q' : ¬ 0 ≤ b := by omega
    refine ⟨iI (-1), X, sF (sF (sF X 12 0 0 0) 12 0 33 a) 12 0 34 b, ?_, ?_, Inv_33 h ra rb⟩
    · simp (disch := first | assumption | omega | exact W_fl W _ _ _ | exact W_fh W _ _ _ | exact W_rl W _ _ _ | exact W_rh W _ _ _ | exact WS_l Ws _ | exact WS_h Ws _) only [fX11_soonest, g_11_11, g_10_1, k_10, lm_1, li_1, ob2, iI_add, Option.bind_some, iI_neg, e_goal, ← hb, iI_neg, iI_eq, if_pos q]
    · simp (disch := first | assumption | omega | exact W_fl W _ _ _ | exact W_fh W _ _ _ | exact W_rl W _ _ _ | exact W_rh W _ _ _ | exact WS_l Ws _ | exact WS_h Ws _) only [fX12_soonest, g_12_34, g_12_33, p_12_0, k_12, lm_1, li_0, li_1, Option.bind_some, iI_add, iI_neg, z, so, x34, z2, iI_le, if_neg q', iI_neg]
  · have q' : 0 ≤ b := by omega
    obtain ⟨b8, av⟩ := ab.resolve_left q
    refine ⟨iI a, X, sF (sF (sF X 12 0 0 0) 12 0 33 a) 12 0 34 b, ?_, ?_, Inv_33 h ra rb⟩
    · rw [av]
      simp (disch := first | assumption | omega | exact W_fl W _ _ _ | exact W_fh W _ _ _ | exact W_rl W _ _ _ | exact W_rh W _ _ _ | exact WS_l Ws _ | exact WS_h Ws _) only [fX11_soonest, g_11_11, g_10_1, k_10, lm_1, li_1, ob2, iI_add, Option.bind_some, iI_neg, e_goal, ← hb, iI_neg, iI_eq, if_neg q, e_farTo]
    · simp (disch := first | assumption | omega | exact W_fl W _ _ _ | exact W_fh W _ _ _ | exact W_rl W _ _ _ | exact W_rh W _ _ _ | exact WS_l Ws _ | exact WS_h Ws _) only [fX12_soonest, g_12_34, g_12_33, p_12_0, k_12, lm_1, li_0, li_1, Option.bind_some, iI_add, iI_neg, z, so, x34, x33, z2, iI_le, if_pos q']
