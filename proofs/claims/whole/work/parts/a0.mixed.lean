/-! mixed, AS A CALL -/
theorem mix_in {f0 : Nat} {Y : YS} {X : XS} (h : Inv Y X) {k s : Int} (rg_k : Rg k) (s0 : 0 ≤ s) (s1 : s < XR X 25 0 3) (hf : 200 ≤ f0) (g4 g16 : Nat → Int32 → Int32 → Int32 → Hp → Option (Int32 × Hp)) : ∀ (d : Nat) (t n : Int) (f1 f2 : Nat), (XR X 25 0 3 - t).toNat = d → s < t → t ≤ XR X 25 0 3 → 0 ≤ n → n + d ≤ 1000 → d < f1 → d < f2 →
    (∃ v, Rg v ∧ (k < -1 → v = -1) ∧ bX11_mixed_22 f0 g4 f1 (Ad Y 11 0) (iI k) (iI n) (iI s) (iI t) (hp Y X) = some (iI v, hp Y X) ∧ bX12_mixed_31 f0 g16 f2 (Ad Y 12 0) (iI k) (iI n) (iI s) (iI t) (hp Y (sF X 12 0 0 0)) = some (iI v, hp Y (sF X 12 0 0 0))) ∨
    (∃ n', (0 ≤ n' ∧ n' ≤ n + d) ∧ bX11_mixed_22 f0 g4 f1 (Ad Y 11 0) (iI k) (iI n) (iI s) (iI t) (hp Y X) = g4 (Ad Y 11 0) (iI k) (iI n') (iI (s + 1)) (hp Y X) ∧ bX12_mixed_31 f0 g16 f2 (Ad Y 12 0) (iI k) (iI n) (iI s) (iI t) (hp Y (sF X 12 0 0 0)) = g16 (Ad Y 12 0) (iI k) (iI n') (iI (s + 1)) (hp Y (sF X 12 0 0 0))) := by
  have g := h.1.1; have W := h.2.1
  have se := h.2.2.2.2.2.1; have hC := se.1; have hR := se.2.1
  have g6 := SeO_0 g
  have c0 := hC.1; have c3 := hC.2.1; have c4 := hC.2.2.1; have c5 := hC.2.2.2.1
  have e0 := hR.1.1; have e1 := hR.1.2.1; have e2 := hR.1.2.2.1; have e3 := hR.1.2.2.2.1
  have sh := h.2.2.2.2.2.2.2.2.1
  have p0 := sh.1 0 (by omega)
  have gk0 := ShO_k g p0
  have cd := sh.2.2.2.1.1; have rl := sh.2.2.2.1.2
  have cs : CShip X (XP X 0) 0 := cd
  have sf := inv_S se cd rl
  have Ws : WS (XR X 61 0) := fun i => W.2 61 0 i
  have WA : WF (sF X 12 0 0 0) := W_F W (by decide) (by decide)
  have z := Z61 (Y := Y) (X := sF X 12 0 0 0) (S := XR X 61 0) rfl
  have hP := inv_PostR se h.2.2.2.2.2.2.2.1
  have th := Inv_th h (v := 0) ⟨by decide, by decide⟩
  have rz : Rg (0 : Int) := ⟨by decide, by decide⟩
  have r1 := rg_k.1; have r2 := rg_k.2
  intro d
  induction d using Nat.strongRecOn with
  | _ d ih =>
  intro t n f1 f2 hd st t1 n0 n1 hf1 hf2
  obtain ⟨f1, rfl⟩ : ∃ f, f1 = f + 1 := ⟨f1 - 1, by omega⟩
  obtain ⟨f2, rfl⟩ : ∃ f, f2 = f + 1 := ⟨f2 - 1, by omega⟩
  by_cases c : XR X 25 0 3 ≤ t
  · have c' : XR X 61 0 1 ≤ t := by omega
    right
    refine ⟨n, by omega, ?_, ?_⟩
    · simp (disch := first | assumption | omega | exact W_fl W _ _ _ | exact W_fh W _ _ _ | exact W_rl W _ _ _ | exact W_rh W _ _ _ | exact WS_l Ws _ | exact WS_h Ws _) only [bX11_mixed_22, g_11_4, g_6_1, k_6, l_25, lm_1, li_0, li_1, li_3, li_10, ob2, iI_add, iI_mul, Option.bind_some, iI_neg, iI_le, if_pos c]
    · simp (disch := first | assumption | omega | exact W_fl W _ _ _ | exact W_fh W _ _ _ | exact W_rl W _ _ _ | exact W_rh W _ _ _ | exact WS_l Ws _ | exact WS_h Ws _) only [bX12_mixed_31, g_12_6, k_12, l61, li_0, li_1, li_10, ob2, iI_add, iI_mul, Option.bind_some, z, iI_le, if_pos c']
  · have c' : ¬ XR X 61 0 1 ≤ t := by omega
    obtain ⟨v, vr, ev, er⟩ := j_over (f0 := f0) h s0 s1 (show 0 ≤ t by omega) (show t < XR X 25 0 3 by omega) hf
    rw [z] at er
    have IH := ih (d - 1) (by omega) (t + 1)
    have w1 := vr.1; have w2 := vr.2
    have pass : (v = -1 ∨ v = s ∨ v = t) → ((bX11_mixed_22 f0 g4 (f1 + 1) (Ad Y 11 0) (iI k) (iI n) (iI s) (iI t) (hp Y X) = bX11_mixed_22 f0 g4 f1 (Ad Y 11 0) (iI k) (iI n) (iI s) (iI (t + 1)) (hp Y X)) ∧ (bX12_mixed_31 f0 g16 (f2 + 1) (Ad Y 12 0) (iI k) (iI n) (iI s) (iI t) (hp Y (sF X 12 0 0 0)) = bX12_mixed_31 f0 g16 f2 (Ad Y 12 0) (iI k) (iI n) (iI s) (iI (t + 1)) (hp Y (sF X 12 0 0 0)))) := fun q => by
      by_cases q1 : v = -1
      · have q1' : v < 0 := by omega
        constructor
        · simp (disch := first | assumption | omega | exact W_fl W _ _ _ | exact W_fh W _ _ _ | exact W_rl W _ _ _ | exact W_rh W _ _ _ | exact WS_l Ws _ | exact WS_h Ws _) only [bX11_mixed_22, bX11_mixed_86, g_11_4, g_6_1, k_6, l_25, lm_1, li_0, li_1, li_3, li_10, ob2, iI_add, iI_mul, Option.bind_some, iI_neg, iI_le, if_neg c, ev, iI_neg, iI_eq, if_pos q1]
        · simp (disch := first | assumption | omega | exact W_fl W _ _ _ | exact W_fh W _ _ _ | exact W_rl W _ _ _ | exact W_rh W _ _ _ | exact WS_l Ws _ | exact WS_h Ws _) only [bX12_mixed_31, bX12_mixed_88, g_12_6, k_12, l61, li_0, li_1, li_10, ob2, iI_add, iI_mul, Option.bind_some, z, iI_le, if_neg c', er, iI_lt, if_pos q1']
      · have q1' : ¬ v < 0 := by omega
        by_cases q2 : v = s
        · constructor
          · simp (disch := first | assumption | omega | exact W_fl W _ _ _ | exact W_fh W _ _ _ | exact W_rl W _ _ _ | exact W_rh W _ _ _ | exact WS_l Ws _ | exact WS_h Ws _) only [bX11_mixed_22, bX11_mixed_86, g_11_4, g_6_1, k_6, l_25, lm_1, li_0, li_1, li_3, li_10, ob2, iI_add, iI_mul, Option.bind_some, iI_neg, iI_le, if_neg c, ev, iI_neg, iI_eq, if_neg q1, if_pos q2]
          · simp (disch := first | assumption | omega | exact W_fl W _ _ _ | exact W_fh W _ _ _ | exact W_rl W _ _ _ | exact W_rh W _ _ _ | exact WS_l Ws _ | exact WS_h Ws _) only [bX12_mixed_31, bX12_mixed_88, g_12_6, k_12, l61, li_0, li_1, li_10, ob2, iI_add, iI_mul, Option.bind_some, z, iI_le, if_neg c', er, iI_lt, if_neg q1', iI_eq, if_pos q2]
        · have q3 : v = t := by omega
          constructor
          · simp (disch := first | assumption | omega | exact W_fl W _ _ _ | exact W_fh W _ _ _ | exact W_rl W _ _ _ | exact W_rh W _ _ _ | exact WS_l Ws _ | exact WS_h Ws _) only [bX11_mixed_22, bX11_mixed_86, g_11_4, g_6_1, k_6, l_25, lm_1, li_0, li_1, li_3, li_10, ob2, iI_add, iI_mul, Option.bind_some, iI_neg, iI_le, if_neg c, ev, iI_neg, iI_eq, if_neg q1, if_neg q2, if_pos q3]
          · simp (disch := first | assumption | omega | exact W_fl W _ _ _ | exact W_fh W _ _ _ | exact W_rl W _ _ _ | exact W_rh W _ _ _ | exact WS_l Ws _ | exact WS_h Ws _) only [bX12_mixed_31, bX12_mixed_88, g_12_6, k_12, l61, li_0, li_1, li_10, ob2, iI_add, iI_mul, Option.bind_some, z, iI_le, if_neg c', er, iI_lt, if_neg q1', iI_eq, if_neg q2, if_pos q3]
    by_cases q : v = -1 ∨ v = s ∨ v = t
    · obtain ⟨p1, p2⟩ := pass q
      rw [p1, p2]
      rcases IH n f1 f2 (by omega) (by omega) (by omega) n0 (by omega) (by omega) (by omega) with a | ⟨n', a1, a2⟩
      · exact .inl a
      · exact .inr ⟨n', by omega, a2⟩
    · have q1 : ¬ v = -1 := fun w => q (.inl w)
      have q2 : ¬ v = s := fun w => q (.inr (.inl w))
      have q3 : ¬ v = t := fun w => q (.inr (.inr w))
      have q1' : ¬ v < 0 := by omega
      by_cases e : n = k
      · left
        refine ⟨10 * s + t, ⟨by omega, by omega⟩, fun w => by omega, ?_, ?_⟩
        · simp (disch := first | assumption | omega | exact W_fl W _ _ _ | exact W_fh W _ _ _ | exact W_rl W _ _ _ | exact W_rh W _ _ _ | exact WS_l Ws _ | exact WS_h Ws _) only [bX11_mixed_22, g_11_4, g_6_1, k_6, l_25, lm_1, li_0, li_1, li_3, li_10, ob2, iI_add, iI_mul, Option.bind_some, iI_neg, iI_le, if_neg c, ev, iI_neg, iI_eq, if_neg q1, if_neg q2, if_neg q3, if_pos e]
        · simp (disch := first | assumption | omega | exact W_fl W _ _ _ | exact W_fh W _ _ _ | exact W_rl W _ _ _ | exact W_rh W _ _ _ | exact WS_l Ws _ | exact WS_h Ws _) only [bX12_mixed_31, g_12_6, k_12, l61, li_0, li_1, li_10, ob2, iI_add, iI_mul, Option.bind_some, z, iI_le, if_neg c', er, iI_lt, if_neg q1', iI_eq, if_neg q2, if_neg q3, if_pos e]
      · have p1 : bX11_mixed_22 f0 g4 (f1 + 1) (Ad Y 11 0) (iI k) (iI n) (iI s) (iI t) (hp Y X) = bX11_mixed_22 f0 g4 f1 (Ad Y 11 0) (iI k) (iI (n + 1)) (iI s) (iI (t + 1)) (hp Y X) := by
          simp (disch := first | assumption | omega | exact W_fl W _ _ _ | exact W_fh W _ _ _ | exact W_rl W _ _ _ | exact W_rh W _ _ _ | exact WS_l Ws _ | exact WS_h Ws _) only [bX11_mixed_22, bX11_mixed_86, g_11_4, g_6_1, k_6, l_25, lm_1, li_0, li_1, li_3, li_10, ob2, iI_add, iI_mul, Option.bind_some, iI_neg, iI_le, if_neg c, ev, iI_neg, iI_eq, if_neg q1, if_neg q2, if_neg q3, if_neg e]
        have p2 : bX12_mixed_31 f0 g16 (f2 + 1) (Ad Y 12 0) (iI k) (iI n) (iI s) (iI t) (hp Y (sR (sF X 12 0 0 0) 61 0 (XR X 61 0))) = bX12_mixed_31 f0 g16 f2 (Ad Y 12 0) (iI k) (iI (n + 1)) (iI s) (iI (t + 1)) (hp Y (sR (sF X 12 0 0 0) 61 0 (XR X 61 0))) := by
          simp (disch := first | assumption | omega | exact W_fl W _ _ _ | exact W_fh W _ _ _ | exact W_rl W _ _ _ | exact W_rh W _ _ _ | exact WS_l Ws _ | exact WS_h Ws _) only [bX12_mixed_31, bX12_mixed_88, g_12_6, k_12, l61, li_0, li_1, li_10, ob2, iI_add, iI_mul, Option.bind_some, iI_le, if_neg c', er, iI_lt, if_neg q1', iI_eq, if_neg q2, if_neg q3, if_neg e]
        rw [← z] at p2
        rw [p1, p2]
        rcases IH (n + 1) f1 f2 (by omega) (by omega) (by omega) (by omega) (by omega) (by omega) (by omega) with a | ⟨n', a1, a2⟩
        · exact .inl a
        · exact .inr ⟨n', by omega, a2⟩
theorem mix_out {f0 : Nat} {Y : YS} {X : XS} (h : Inv Y X) {k : Int} (rg_k : Rg k) (hf : 200 ≤ f0) : ∀ (d : Nat) (s n : Int) (f1 f2 : Nat), (XR X 25 0 3 - s).toNat = d → 0 ≤ s → s ≤ XR X 25 0 3 → 0 ≤ n → n + 10 * d ≤ 1000 → d < f1 → d < f2 →
    ∃ v, Rg v ∧ (k < -1 → v = -1) ∧ bX11_mixed_4 f0 f1 (Ad Y 11 0) (iI k) (iI n) (iI s) (hp Y X) = some (iI v, hp Y X) ∧ bX12_mixed_16 f0 f2 (Ad Y 12 0) (iI k) (iI n) (iI s) (hp Y (sF X 12 0 0 0)) = some (iI v, hp Y (sF X 12 0 0 0)) := by
  have g := h.1.1; have W := h.2.1
  have se := h.2.2.2.2.2.1; have hC := se.1; have hR := se.2.1
  have g6 := SeO_0 g
  have c0 := hC.1; have c3 := hC.2.1; have c4 := hC.2.2.1; have c5 := hC.2.2.2.1
  have e0 := hR.1.1; have e1 := hR.1.2.1; have e2 := hR.1.2.2.1; have e3 := hR.1.2.2.2.1
  have sh := h.2.2.2.2.2.2.2.2.1
  have p0 := sh.1 0 (by omega)
  have gk0 := ShO_k g p0
  have cd := sh.2.2.2.1.1; have rl := sh.2.2.2.1.2
  have cs : CShip X (XP X 0) 0 := cd
  have sf := inv_S se cd rl
  have Ws : WS (XR X 61 0) := fun i => W.2 61 0 i
  have WA : WF (sF X 12 0 0 0) := W_F W (by decide) (by decide)
  have z := Z61 (Y := Y) (X := sF X 12 0 0 0) (S := XR X 61 0) rfl
  have hP := inv_PostR se h.2.2.2.2.2.2.2.1
  have th := Inv_th h (v := 0) ⟨by decide, by decide⟩
  have rz : Rg (0 : Int) := ⟨by decide, by decide⟩
  have r1 := rg_k.1; have r2 := rg_k.2
  intro d
  induction d using Nat.strongRecOn with
  | _ d ih =>
  intro s n f1 f2 hd s0 s1 n0 n1 hf1 hf2
  obtain ⟨f1, rfl⟩ : ∃ f, f1 = f + 1 := ⟨f1 - 1, by omega⟩
  obtain ⟨f2, rfl⟩ : ∃ f, f2 = f + 1 := ⟨f2 - 1, by omega⟩
  by_cases c : XR X 25 0 3 ≤ s
  · have c' : XR X 61 0 1 ≤ s := by omega
    by_cases e : k = -1
    · refine ⟨n, ⟨by omega, by omega⟩, fun w => by omega, ?_, ?_⟩
      · simp (disch := first | assumption | omega | exact W_fl W _ _ _ | exact W_fh W _ _ _ | exact W_rl W _ _ _ | exact W_rh W _ _ _ | exact WS_l Ws _ | exact WS_h Ws _) only [bX11_mixed_4, g_11_4, g_6_1, l_25, lm_1, li_0, li_1, li_3, iI_add, Option.bind_some, iI_neg, iI_le, if_pos c, iI_neg, iI_eq, if_pos e]
      · simp (disch := first | assumption | omega | exact W_fl W _ _ _ | exact W_fh W _ _ _ | exact W_rl W _ _ _ | exact W_rh W _ _ _ | exact WS_l Ws _ | exact WS_h Ws _) only [bX12_mixed_16, g_12_6, l61, lm_1, li_0, li_1, iI_add, Option.bind_some, iI_neg, z, iI_le, if_pos c', iI_neg, iI_eq, if_pos e]
    · refine ⟨-1, ⟨by decide, by decide⟩, fun _ => rfl, ?_, ?_⟩
      · simp (disch := first | assumption | omega | exact W_fl W _ _ _ | exact W_fh W _ _ _ | exact W_rl W _ _ _ | exact W_rh W _ _ _ | exact WS_l Ws _ | exact WS_h Ws _) only [bX11_mixed_4, g_11_4, g_6_1, l_25, lm_1, li_0, li_1, li_3, iI_add, Option.bind_some, iI_neg, iI_le, if_pos c, iI_neg, iI_eq, if_neg e]
      · simp (disch := first | assumption | omega | exact W_fl W _ _ _ | exact W_fh W _ _ _ | exact W_rl W _ _ _ | exact W_rh W _ _ _ | exact WS_l Ws _ | exact WS_h Ws _) only [bX12_mixed_16, g_12_6, l61, lm_1, li_0, li_1, iI_add, Option.bind_some, iI_neg, z, iI_le, if_pos c', iI_neg, iI_eq, if_neg e]
  · have c' : ¬ XR X 61 0 1 ≤ s := by omega
    have p1 : bX11_mixed_4 f0 (f1 + 1) (Ad Y 11 0) (iI k) (iI n) (iI s) (hp Y X) = bX11_mixed_22 f0 (bX11_mixed_4 f0 f1) f0 (Ad Y 11 0) (iI k) (iI n) (iI s) (iI (s + 1)) (hp Y X) := by
      simp (disch := first | assumption | omega | exact W_fl W _ _ _ | exact W_fh W _ _ _ | exact W_rl W _ _ _ | exact W_rh W _ _ _ | exact WS_l Ws _ | exact WS_h Ws _) only [bX11_mixed_4, g_11_4, g_6_1, l_25, lm_1, li_0, li_1, li_3, iI_add, Option.bind_some, iI_neg, iI_le, if_neg c]
    have p2 : bX12_mixed_16 f0 (f2 + 1) (Ad Y 12 0) (iI k) (iI n) (iI s) (hp Y (sF X 12 0 0 0)) = bX12_mixed_31 f0 (bX12_mixed_16 f0 f2) f0 (Ad Y 12 0) (iI k) (iI n) (iI s) (iI (s + 1)) (hp Y (sF X 12 0 0 0)) := by
      simp (disch := first | assumption | omega | exact W_fl W _ _ _ | exact W_fh W _ _ _ | exact W_rl W _ _ _ | exact W_rh W _ _ _ | exact WS_l Ws _ | exact WS_h Ws _) only [bX12_mixed_16, g_12_6, l61, lm_1, li_0, li_1, iI_add, Option.bind_some, iI_neg, z, iI_le, if_neg c']
    rw [p1, p2]
    rcases mix_in (f0 := f0) h rg_k s0 (by omega) hf (bX11_mixed_4 f0 f1) (bX12_mixed_16 f0 f2) _ (s + 1) n f0 f0 rfl (by omega) (by omega) n0 (by omega) (by omega) (by omega) with a | ⟨n', a1, a2, a3⟩
    · exact a
    · rw [a2, a3]
      exact ih (d - 1) (by omega) (s + 1) n' f1 f2 (by omega) (by omega) (by omega) (by omega) (by omega) (by omega) (by omega)
theorem op_mixed {f0 : Nat} {Y : YS} {X : XS} (h : Inv Y X) {k : Int} (rg_k : Rg k) (hf : 200 ≤ f0) : ∃ v X1 X2, fX11_mixed f0 (Ad Y 11 0) (iI k) (hp Y X) = some (v, hp Y X1) ∧ fX12_mixed f0 (Ad Y 12 0) (iI k) (hp Y X1) = some (v, hp Y X2) ∧ Inv Y X2 := by
  have g := h.1.1; have W := h.2.1
  have se := h.2.2.2.2.2.1; have hC := se.1; have hR := se.2.1
  have g6 := SeO_0 g
  have c0 := hC.1; have c3 := hC.2.1; have c4 := hC.2.2.1; have c5 := hC.2.2.2.1
  have e0 := hR.1.1; have e1 := hR.1.2.1; have e2 := hR.1.2.2.1; have e3 := hR.1.2.2.2.1
  have sh := h.2.2.2.2.2.2.2.2.1
  have p0 := sh.1 0 (by omega)
  have gk0 := ShO_k g p0
  have cd := sh.2.2.2.1.1; have rl := sh.2.2.2.1.2
  have cs : CShip X (XP X 0) 0 := cd
  have sf := inv_S se cd rl
  have Ws : WS (XR X 61 0) := fun i => W.2 61 0 i
  have WA : WF (sF X 12 0 0 0) := W_F W (by decide) (by decide)
  have z := Z61 (Y := Y) (X := sF X 12 0 0 0) (S := XR X 61 0) rfl
  have hP := inv_PostR se h.2.2.2.2.2.2.2.1
  have th := Inv_th h (v := 0) ⟨by decide, by decide⟩
  have rz : Rg (0 : Int) := ⟨by decide, by decide⟩
  have r1 := rg_k.1; have r2 := rg_k.2
  obtain ⟨v, vr, vn, e1, e2⟩ := mix_out (f0 := f0) h rg_k hf _ 0 0 f0 f0 rfl (by omega) (by omega) (by omega) (by omega) (by omega) (by omega)
  have cl : fX11_mixed f0 (Ad Y 11 0) (iI k) (hp Y X) = some (iI v, hp Y X) := e1
  by_cases c : -1 ≤ k
  · refine ⟨iI v, X, sF X 12 0 0 0, cl, ?_, th⟩
    simp (disch := first | assumption | omega) only [fX12_mixed, p_12_0, lm_1, li_0, li_1, Option.bind_some, iI_add, iI_neg, iI_neg, iI_le, if_pos c, e2]
  · rw [vn (by omega)] at cl
    refine ⟨iI (-1), X, sF X 12 0 0 0, cl, ?_, th⟩
    simp (disch := first | assumption | omega) only [fX12_mixed, p_12_0, lm_1, li_0, li_1, Option.bind_some, iI_add, iI_neg, iI_neg, iI_le, if_neg c]
