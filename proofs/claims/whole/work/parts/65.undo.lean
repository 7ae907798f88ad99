/-! undo -/
theorem op_undo {f0 : Nat} {Y : YS} {X : XS} (h : Inv Y X) (hf : 2000 ≤ f0) : ∃ v X1 X2, fX11_undo f0 (Ad Y 11 0) (hp Y X) = some (v, hp Y X1) ∧ fX12_undo f0 (Ad Y 12 0) (hp Y X1) = some (v, hp Y X2) ∧ Inv Y X2 := by
  have g := h.1.1; have W := h.2.1
  have sh := h.2.2.2.2.2.2.2.2.1
  obtain ⟨p1, p2, z, ⟨hc, hq⟩, ⟨m1, m2, m3⟩, past⟩ := sh
  have W0 : WS (XR X 61 0) := fun i => W.2 61 0 i
  by_cases c : 1 ≤ XF X 11 0 14
  · obtain ⟨m, hm⟩ : ∃ m : Nat, XF X 11 0 14 = (m : Int) + 1 := ⟨(XF X 11 0 14 - 1).toNat, by omega⟩
    have pm := past m (by omega)
    have cl := k_undo (f0 := f0) (X := X) g h.1.2 rfl c m3 (p1 0 (by omega))
    obtain ⟨X1, hX1⟩ : ∃ X1, X1 = sF (setP X (fun j => if j = (XF X 11 0 14 - 1).toNat + 2 then XP X 0 else if j = 0 then XP X ((XF X 11 0 14 - 1).toNat + 2) else XP X j)) 11 0 14 (XF X 11 0 14 - 1) := ⟨_, rfl⟩
    rw [← hX1] at cl
    have W1 : WF X1 := by rw [hX1]; exact W_F (X := setP X _) W (by omega) (by omega)
    have f29 : XF X1 12 0 29 = XF X 12 0 29 := by rw [hX1]; rfl
    have x61 : XR X1 61 0 = XR X 61 0 := by rw [hX1]; rfl
    have x71 : XR X1 71 0 = XR X 71 0 := by rw [hX1]; rfl
    have WZ : WF (sF (sF X1 12 0 0 0) 12 0 29 (m : Int)) := W_F (W_F W1 (by decide) (by decide)) (by omega) (by omega)
    have c29 : ¬ XF X1 12 0 29 = 0 := by omega
    have e29 : XF X1 12 0 29 - 1 = (m : Int) := by omega
    have zz := Z61 (Y := Y) (X := sF (sF X1 12 0 0 0) 12 0 29 (m : Int)) (S := XR X 61 0) x61
    have uu := r_undo26 (f0 := f0) (X := sF (sF X1 12 0 0 0) 12 0 29 (m : Int)) (S := XR X 61 0) (m := (m : Int)) g WZ W0 rfl (by omega) (by omega) (by omega)
    have ff : XF (sF X1 12 0 0 0) 12 0 29 = XF X1 12 0 29 := rfl
    refine ⟨_, _, sR (sF (sF X1 12 0 0 0) 12 0 29 (m : Int)) 61 0 (blk (XR X 61 0) (XR X 71 0) (153 * m)), cl, ?_, ?_⟩
    · have x71b : XR (sF (sF X1 12 0 0 0) 12 0 29 (m : Int)) 71 0 = XR X 71 0 := x71
      rw [x71b] at uu
      have w1 := (W.1 12 0 29).1
      simp (disch := first | assumption | omega) only [fX12_undo, g_12_29, p_12_0, p_12_29, lm_1, li_0, li_1, iI_sub, Option.bind_some, iI_add, iI_neg, ff, iI_eq, if_neg c29, e29, zz, uu]
      rw [show XF X 11 0 14 - 1 = (m : Int) by omega]
    · have pm2 : (XF X 11 0 14 - 1).toNat + 2 = 2 + m := by omega
      have XPe : XP X1 = (fun j => if j = 2 + m then XP X 0 else if j = 0 then XP X (2 + m) else XP X j) := by
        rw [hX1]
        show (fun j => if j = (XF X 11 0 14 - 1).toNat + 2 then XP X 0 else if j = 0 then XP X ((XF X 11 0 14 - 1).toNat + 2) else XP X j) = _
        rw [pm2]
      have Wb : WS (blk (XR X 61 0) (XR X 71 0) (153 * m)) := fun i => by
        unfold blk; split
        · exact W.2 71 0 _
        · exact W0 i
      have cg : Cg X X1 := by rw [hX1]; exact Cg_tr Cg_P Cg_14
      have ho : ∀ j, (j < 312 ∨ 465 ≤ j) → blk (XR X 61 0) (XR X 71 0) (153 * m) j = XR X 61 0 j := fun j hj => by unfold blk; rw [if_neg (by omega)]
      refine Inv_cg h (Cg_tr cg (Cg_tr (Cg_tr (Cg_F (f := 0) (v := 0) (by omega)) (Cg_F (f := 29) (v := (m : Int)) (by omega))) (Cg_R (s := 61) (r := blk (XR X 61 0) (XR X 71 0) (153 * m)) (by omega)))) (S' := blk (XR X 61 0) (XR X 71 0) (153 * m)) rfl ho ?_ (W_R WZ Wb)
      have sg : ∀ k, shG (sR (sF (sF X1 12 0 0 0) 12 0 29 (m : Int)) 61 0 (blk (XR X 61 0) (XR X 71 0) (153 * m))) k = shG X k := fun k => by rw [hX1]; rfl
      have e25 : XR X1 25 0 = XR X 25 0 := by rw [hX1]; rfl
      have e67 : XR X1 67 0 = XR X 67 0 := by rw [hX1]; rfl
      have CDe : ∀ {d}, CD X d → CD (sR (sF (sF X1 12 0 0 0) 12 0 29 (m : Int)) 61 0 (blk (XR X 61 0) (XR X 71 0) (153 * m))) d := fun {d} q => by
        show CDn (XR X1 25 0 0) (XR X1 25 0 3) d
        rw [e25]; exact q
      have Re : ∀ {d S}, RelS X d S → RelS (sR (sF (sF X1 12 0 0 0) 12 0 29 (m : Int)) 61 0 (blk (XR X 61 0) (XR X 71 0) (153 * m))) d S := fun {d S} q => by
        show RelQ (XR X1 67 0) d S
        rw [e67]; exact q
      have XPz : XP (sR (sF (sF X1 12 0 0 0) 12 0 29 (m : Int)) 61 0 (blk (XR X 61 0) (XR X 71 0) (153 * m))) = XP X1 := rfl
      refine ⟨fun i hi => ?_, fun i j hi hj e => ?_, fun k => ?_, ?_, ?_, fun i hi => ?_⟩
      · rw [XPz, XPe]
        show (if i = 2 + m then XP X 0 else if i = 0 then XP X (2 + m) else XP X i) < 10
        (repeat' split) <;> exact p1 _ (by omega)
      · rw [XPz, XPe] at e
        have e' : (if i = 2 + m then XP X 0 else if i = 0 then XP X (2 + m) else XP X i) = (if j = 2 + m then XP X 0 else if j = 0 then XP X (2 + m) else XP X j) := e
        by_cases i2 : i = 2 + m
        · by_cases j2 : j = 2 + m
          · omega
          · rw [if_pos i2, if_neg j2] at e'
            by_cases j0 : j = 0
            · rw [if_pos j0] at e'; have := p2 0 (2 + m) (by omega) (by omega) e'; omega
            · rw [if_neg j0] at e'; have := p2 0 j (by omega) hj e'; omega
        · rw [if_neg i2] at e'
          by_cases i0 : i = 0
          · rw [if_pos i0] at e'
            by_cases j2 : j = 2 + m
            · rw [if_pos j2] at e'; have := p2 (2 + m) 0 (by omega) (by omega) e'; omega
            · rw [if_neg j2] at e'
              by_cases j0 : j = 0
              · omega
              · rw [if_neg j0] at e'; have := p2 (2 + m) j (by omega) hj e'; omega
          · rw [if_neg i0] at e'
            by_cases j2 : j = 2 + m
            · rw [if_pos j2] at e'; have := p2 i 0 hi (by omega) e'; omega
            · rw [if_neg j2] at e'
              by_cases j0 : j = 0
              · rw [if_pos j0] at e'; have := p2 i (2 + m) hi (by omega) e'; omega
              · rw [if_neg j0] at e'; exact p2 i j hi hj e'
      · have e := congrArg (fun d : D5 => d.1 6) (sg k)
        have e' : XF (sR (sF (sF X1 12 0 0 0) 12 0 29 (m : Int)) 61 0 (blk (XR X 61 0) (XR X 71 0) (153 * m))) 10 k 6 = XF X 10 k 6 := e
        rw [e']; exact z k
      · rw [XPz, XPe, sg]
        show CD _ (shG X (if 0 = 2 + m then XP X 0 else if 0 = 0 then XP X (2 + m) else XP X 0)) ∧ RelS _ (shG X (if 0 = 2 + m then XP X 0 else if 0 = 0 then XP X (2 + m) else XP X 0)) _
        rw [if_neg (by omega), if_pos rfl]
        exact ⟨CDe pm.1, Re pm.2⟩
      · have a : XF (sR (sF (sF X1 12 0 0 0) 12 0 29 (m : Int)) 61 0 (blk (XR X 61 0) (XR X 71 0) (153 * m))) 11 0 14 = XF X1 11 0 14 := rfl
        have b : XF X1 11 0 14 = XF X 11 0 14 - 1 := by rw [hX1]; rfl
        have c' : XF (sR (sF (sF X1 12 0 0 0) 12 0 29 (m : Int)) 61 0 (blk (XR X 61 0) (XR X 71 0) (153 * m))) 12 0 29 = (m : Int) := rfl
        rw [a, b, c']; omega
      · have a : XF (sR (sF (sF X1 12 0 0 0) 12 0 29 (m : Int)) 61 0 (blk (XR X 61 0) (XR X 71 0) (153 * m))) 11 0 14 = XF X1 11 0 14 := rfl
        have b : XF X1 11 0 14 = XF X 11 0 14 - 1 := by rw [hX1]; rfl
        rw [a, b] at hi
        have pi := past i (by omega)
        have x71c : XR (sR (sF (sF X1 12 0 0 0) 12 0 29 (m : Int)) 61 0 (blk (XR X 61 0) (XR X 71 0) (153 * m))) 71 0 = XR X 71 0 := x71
        have bb : blk (blk (XR X 61 0) (XR X 71 0) (153 * m)) (XR X 71 0) (153 * i) = blk (XR X 61 0) (XR X 71 0) (153 * i) := funext fun j => by
          unfold blk; by_cases w : 312 ≤ j ∧ j < 465
          · rw [if_pos w, if_pos w]
          · rw [if_neg w, if_neg w, if_neg w]
        rw [XPz, XPe, sg, x71c, bb]
        show CD _ (shG X (if 2 + i = 2 + m then XP X 0 else if 2 + i = 0 then XP X (2 + m) else XP X (2 + i))) ∧ RelS _ (shG X (if 2 + i = 2 + m then XP X 0 else if 2 + i = 0 then XP X (2 + m) else XP X (2 + i))) _
        rw [if_neg (by omega), if_neg (by omega)]
        exact ⟨CDe pi.1, Re pi.2⟩
  · have c29 : XF X 12 0 29 = 0 := by omega
    have ff : XF (sF X 12 0 0 0) 12 0 29 = XF X 12 0 29 := rfl
    refine ⟨iI (-1), X, sF X 12 0 0 0, ?_, ?_, Inv_th h ⟨by decide, by decide⟩⟩
    · simp (disch := first | assumption | omega) only [fX11_undo, g_11_14, g_11_11, g_11_13, p_11_14, p_11_11, k_10, l_47, s_47, lm_1, li_1, iI_sub, Option.bind_some, iI_add, iI_neg, iI_le, if_neg c, iI_neg]
    · have z0 : ¬ (0 : Int) = 1 := by decide
      simp (disch := first | assumption | omega) only [fX12_undo, g_12_29, p_12_0, p_12_29, lm_1, li_0, li_1, iI_sub, Option.bind_some, iI_add, iI_neg, ff, c29, if_true, iI_neg]
