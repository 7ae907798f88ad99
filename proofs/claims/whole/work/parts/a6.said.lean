/-! said, AS A CALL -/
theorem pc_8 {N n : Nat} (hN : N < 2 ^ n) (n8 : n ≤ 8) : pc N = cN N n := by
  have k : ∀ d : Nat, cN N (n + d) = cN N n := fun d => by
    induction d with
    | zero => rfl
    | succ d ih =>
      have := cN_s N (n + d)
      rw [bit_ge hN (show n ≤ n + d by omega)] at this
      rw [← Nat.add_assoc, this, ih, if_neg (by decide), Int.add_zero]
  have := k (10 - n)
  rw [show n + (10 - n) = 10 by omega] at this
  exact this
theorem r_said {f0 : Nat} {Y : YS} {X : XS} (h : Inv Y X) (hn : 0 < XF X 8 0 3) (hf : 300 ≤ f0) {k : Int} (k0 : -1 ≤ k) (rk : Rg k) {M n : Nat} (en : n = (XR X 25 0 0).toNat) (eM : M = bs (eV X (XF X 8 0 3).toNat 0) n) : ∃ r', (∀ i, Rg (r' i)) ∧ bX12_said_27 f0 f0 (Ad Y 12 0) (iI k) (iI 0) (iI 0) (hp Y X) = some (iI (if k = -1 then pc M else fb (baB M k) 8), hp Y (sR X 78 0 r')) := by
  have g := h.1.1; have W := h.2.1
  have se := h.2.2.2.2.2.1; have hC := se.1; have hR := se.2.1
  have c0 := hC.1
  have e0 := hR.1.1
  have r1 := rk.1; have r2 := rk.2
  have Ws : WS (XR X 61 0) := fun i => W.2 61 0 i
  have ML : M < 2 ^ n := by rw [eM]; exact bs_lt _ _
  have z0 : hp Y X = hp Y (sR X 78 0 (XR X 78 0)) := by rw [sR_self]
  rw [z0, show (iI 0 : Int32) = iI (cN M 0) from rfl]
  rw [show bX12_said_27 f0 f0 (Ad Y 12 0) (iI k) (iI (cN M 0)) (iI (cN M 0)) (hp Y (sR X 78 0 (XR X 78 0))) = bX12_said_27 f0 f0 (Ad Y 12 0) (iI k) (iI (cN M 0)) (iI ((0 : Nat) : Int)) (hp Y (sR X 78 0 (XR X 78 0))) from rfl]
  refine lp (fun f (s : Nat × (Int → Int)) => bX12_said_27 f0 f (Ad Y 12 0) (iI k) (iI (cN M s.1)) (iI (s.1 : Int)) (hp Y (sR X 78 0 s.2))) (fun s => s.1 ≤ n ∧ (∀ i, Rg (s.2 i)) ∧ ∀ j : Int, 0 ≤ j → j < (s.1 : Int) → ¬ baB M k j = true) (fun s => 9 - s.1) (fun r => ∃ r', (∀ i, Rg (r' i)) ∧ r = some (iI (if k = -1 then pc M else fb (baB M k) 8), hp Y (sR X 78 0 r'))) ?_ f0 (0, XR X 78 0) ⟨by simp only; omega, fun i => W.2 78 0 i, fun j j0 j1 => by simp only at j1; omega⟩ (by simp only; omega)
  rintro f ⟨p, r⟩ ⟨h1, h2, h3⟩
  simp only at h1 h2 h3 ⊢
  have y61 : XR (sR X 78 0 r) 61 0 = XR X 61 0 := rfl
  have h0 := Inv_78 h h2
  have cr := cN_rg M p
  by_cases c : XR X 61 0 0 ≤ p
  · left
    refine ⟨r, h2, ?_⟩
    have ep : p = n := by omega
    by_cases e : k = -1
    · rw [if_pos e, pc_8 ML (by omega), ← ep]
      simp (disch := first | assumption | omega | exact W_fl W _ _ _ | exact W_fh W _ _ _ | exact W_rl W _ _ _ | exact W_rh W _ _ _ | exact WS_l Ws _ | exact WS_h Ws _) only [bX12_said_27, g_12_6, k_12, l61, lm_1, li_0, li_1, ob2, iI_add, Option.bind_some, iI_neg, l_61, y61, iI_le, if_pos c, iI_neg, iI_eq, if_pos e]
    · rw [if_neg e, fb_no (p := baB M k) (n := 8) (fun j j0 j1 w => by
        by_cases v : j < (p : Int)
        · exact h3 j j0 v w
        · unfold baB at w
          rw [bit_ge ML (show n ≤ j.toNat by omega)] at w
          exact absurd w (by simp))]
      simp (disch := first | assumption | omega | exact W_fl W _ _ _ | exact W_fh W _ _ _ | exact W_rl W _ _ _ | exact W_rh W _ _ _ | exact WS_l Ws _ | exact WS_h Ws _) only [bX12_said_27, g_12_6, k_12, l61, lm_1, li_0, li_1, ob2, iI_add, Option.bind_some, iI_neg, l_61, y61, iI_le, if_pos c, iI_neg, iI_eq, if_neg e]
  · have cs := cN_s M p
    have tb : M.testBit p = eV X (XF X 8 0 3).toNat 0 p := by
      rw [eM, bs_bit, show decide (p < n) = true from decide_eq_true (by omega), Bool.true_and]
    obtain ⟨r', hr', q⟩ := r_isSaid (f0 := f0) h0 (p := p) (by omega) (show (p : Int) < XR X 25 0 0 by omega) hn hf
    have q' : fX12_isSaid f0 (Ad Y 12 0) (iI (p : Int)) (hp Y (sR X 78 0 r)) = some (bI (M.testBit p = true), hp Y (sR X 78 0 r')) := by
      rw [tb]; rw [sR_sR] at q; exact q
    by_cases a : M.testBit p = true
    · rw [if_pos a] at cs
      rw [bI_T a] at q'
      by_cases b : cN M p = k
      · left
        refine ⟨r', hr', ?_⟩
        have ek : ¬ k = -1 := by omega
        rw [if_neg ek, fb_is (p := baB M k) (n := 8) (i := p) (by omega) (by omega) (by unfold baB; rw [show ((p : Int)).toNat = p from rfl, a, b]; simp) h3]
        simp (disch := first | assumption | omega | exact W_fl W _ _ _ | exact W_fh W _ _ _ | exact W_rl W _ _ _ | exact W_rh W _ _ _ | exact WS_l Ws _ | exact WS_h Ws _) only [bX12_said_27, g_12_6, k_12, l61, lm_1, li_0, li_1, ob2, iI_add, Option.bind_some, iI_neg, l_61, y61, iI_le, if_neg c, q', iI_eq, Int.reduceEq, if_false, if_pos b]
      · right
        refine ⟨(p + 1, r'), ?_, ⟨by simp only; omega, hr', fun j j0 j1 => ?_⟩, by simp only; omega⟩
        · simp only
          rw [cs]
          simp (disch := first | assumption | omega | exact W_fl W _ _ _ | exact W_fh W _ _ _ | exact W_rl W _ _ _ | exact W_rh W _ _ _ | exact WS_l Ws _ | exact WS_h Ws _) only [bX12_said_27, bX12_said_58, g_12_6, k_12, l61, lm_1, li_0, li_1, ob2, iI_add, Option.bind_some, iI_neg, l_61, y61, iI_le, if_neg c, q', iI_eq, Int.reduceEq, if_false, if_neg b]
          rfl
        · simp only at j1
          by_cases e : j = (p : Int)
          · subst e; unfold baB; simp [b]
          · exact h3 j j0 (by omega)
    · rw [if_neg a, Int.add_zero] at cs
      rw [bI_F a] at q'
      right
      refine ⟨(p + 1, r'), ?_, ⟨by simp only; omega, hr', fun j j0 j1 => ?_⟩, by simp only; omega⟩
      · simp only
        rw [cs]
        simp (disch := first | assumption | omega | exact W_fl W _ _ _ | exact W_fh W _ _ _ | exact W_rl W _ _ _ | exact W_rh W _ _ _ | exact WS_l Ws _ | exact WS_h Ws _) only [bX12_said_27, bX12_said_58, g_12_6, k_12, l61, lm_1, li_0, li_1, ob2, iI_add, Option.bind_some, iI_neg, l_61, y61, iI_le, if_neg c, q', iI_eq, Int.reduceEq, if_true]
        rfl
      · simp only at j1
        by_cases e : j = (p : Int)
        · subst e; unfold baB; simp at a; simp [a]
        · exact h3 j j0 (by omega)
theorem op_said {f0 : Nat} {Y : YS} {X : XS} (h : Inv Y X) {k : Int} (rg_k : Rg k) (hf : 300 ≤ f0) : ∃ v X1 X2, fX11_said f0 (Ad Y 11 0) (iI k) (hp Y X) = some (v, hp Y X1) ∧ fX12_said f0 (Ad Y 12 0) (iI k) (hp Y X1) = some (v, hp Y X2) ∧ Inv Y X2 := by
  have g := h.1.1; have W := h.2.1
  have se := h.2.2.2.2.2.1; have hC := se.1
  have c0 := hC.1
  have r1 := rg_k.1; have r2 := rg_k.2
  have sn := h.2.2.2.2.2.2.2.2.2.1
  have s465 := sn.1
  have s40 := sn.2.1
  have st := StO_0 g
  have sh := h.2.2.2.2.2.2.2.2.1
  have k10 := sh.1 0 (by omega)
  have gk := ShO_k g k10
  have rz : Rg (0 : Int) := ⟨by decide, by decide⟩
  by_cases c : XF X 8 0 3 ≤ 0
  · have c' : XF X 8 0 3 = 0 := by omega
    refine ⟨iI (-1), X, sF X 12 0 0 0, ?_, ?_, Inv_th h rz⟩
    · simp (disch := first | assumption | omega | exact W_fl W _ _ _ | exact W_fh W _ _ _ | exact W_rl W _ _ _ | exact W_rh W _ _ _) only [fX11_said, fX8_isThere, g_11_7, g_11_11, k_8, lm_1, li_0, li_1, ob2, g_8_3, Option.bind_some, iI_add, iI_neg, iI_le, if_pos c, zr_i0, iI_eq, if_true, iI_neg]
    · have y61 : XR (sF X 12 0 0 0) 61 0 = XR X 61 0 := rfl
      simp (disch := first | assumption | omega | exact W_fl W _ _ _ | exact W_fh W _ _ _ | exact W_rl W _ _ _ | exact W_rh W _ _ _) only [fX12_said, g_12_6, p_12_0, l61, lm_1, li_0, li_465, li_1, Option.bind_some, iI_add, iI_neg, l_61, y61, s465, c', iI_eq, if_true, iI_neg]
  · have hn : 0 < XF X 8 0 3 := by omega
    obtain ⟨r1', hr1, e1⟩ := e_portsFor (f0 := f0) h hn hf
    obtain ⟨n, en⟩ : ∃ n, n = (XR X 25 0 0).toNat := ⟨_, rfl⟩
    obtain ⟨M, eM⟩ : ∃ M, M = bs (eV X (XF X 8 0 3).toNat 0) n := ⟨_, rfl⟩
    rw [← en, ← eM] at e1
    have ML : M < 2 ^ n := by rw [eM]; exact bs_lt _ _
    have b8 : 2 ^ n ≤ 2 ^ 8 := Nat.pow_le_pow_right (by decide) (by omega)
    have hA := Inv_th (Inv_39 h hr1) (v := 0) rz
    have y61 : XR (sF (sR X 39 0 r1') 12 0 0 0) 61 0 = XR X 61 0 := rfl
    have cn : ¬ XF X 8 0 3 = 0 := by omega
    have bc := bc_e (f0 := f0) (h := hp Y (sR X 39 0 r1')) (x := M) (by omega)
    have ba := e_bitAt (f0 := f0) (h := hp Y (sR X 39 0 r1')) (N := M) (k := k) (by omega) rg_k (by omega)
    have cl : fX11_said f0 (Ad Y 11 0) (iI k) (hp Y X) = some (iI (if k = -1 then pc M else fb (baB M k) 8), hp Y (sR X 39 0 r1')) := by
      by_cases e : k = -1
      · rw [if_pos e]
        simp (disch := first | assumption | omega | exact W_fl W _ _ _ | exact W_fh W _ _ _ | exact W_rl W _ _ _ | exact W_rh W _ _ _) only [fX11_said, fX8_isThere, g_11_7, g_11_11, k_8, lm_1, li_0, li_1, ob2, g_8_3, Option.bind_some, iI_add, iI_neg, iI_le, if_neg c, zr_i1, iI_eq, Int.reduceEq, if_false, e1, iI_neg, if_pos e, bc]
      · rw [if_neg e]
        simp (disch := first | assumption | omega | exact W_fl W _ _ _ | exact W_fh W _ _ _ | exact W_rl W _ _ _ | exact W_rh W _ _ _) only [fX11_said, fX8_isThere, g_11_7, g_11_11, k_8, lm_1, li_0, li_1, ob2, g_8_3, Option.bind_some, iI_add, iI_neg, iI_le, if_neg c, zr_i1, iI_eq, Int.reduceEq, if_false, e1, iI_neg, if_neg e, ba]
    by_cases k0 : -1 ≤ k
    · obtain ⟨r2', hr2, e2⟩ := r_said (f0 := f0) hA hn hf k0 rg_k (M := M) (n := n) en eM
      refine ⟨_, _, _, cl, ?_, Inv_78 hA hr2⟩
      simp (disch := first | assumption | omega | exact W_fl W _ _ _ | exact W_fh W _ _ _ | exact W_rl W _ _ _ | exact W_rh W _ _ _) only [fX12_said, g_12_6, p_12_0, l61, lm_1, li_0, li_465, li_1, Option.bind_some, iI_add, iI_neg, l_61, y61, s465, iI_eq, if_neg cn, iI_neg, iI_le, if_pos k0, e2]
    · have fn : fb (baB M k) 8 = -1 := fb_no (fun j j0 j1 w => by
        unfold baB at w; simp only [Bool.and_eq_true, decide_eq_true_eq] at w
        have := (cN_rg M j.toNat).1
        omega)
      rw [if_neg (by omega), fn] at cl
      refine ⟨_, _, _, cl, ?_, hA⟩
      simp (disch := first | assumption | omega | exact W_fl W _ _ _ | exact W_fh W _ _ _ | exact W_rl W _ _ _ | exact W_rh W _ _ _) only [fX12_said, g_12_6, p_12_0, l61, lm_1, li_0, li_465, li_1, Option.bind_some, iI_add, iI_neg, l_61, y61, s465, iI_eq, if_neg cn, iI_neg, iI_le, if_neg k0]
