/-! lacks, plays -/
def baB (N : Nat) (k : Int) : Int → Bool := fun i => N.testBit i.toNat && decide (cN N i.toNat = k)
theorem e_bitAt {f0 : Nat} {h : Hp} {N : Nat} {k : Int} (hN : N < 256) (hk : Rg k) (hf : 20 ≤ f0) : fX11_bitAt f0 (iI (N : Int)) (iI k) h = some (iI (fb (baB N k) 8), h) := by
  have k1 := hk.1; have k2 := hk.2
  have st : fX11_bitAt f0 (iI (N : Int)) (iI k) h = bX11_bitAt_4 f0 f0 (iI (N : Int)) (iI k) (iI (cN N 0)) (iI ((0 : Nat) : Int)) h := rfl
  rw [st]
  refine lp (fun f (i : Nat) => bX11_bitAt_4 f0 f (iI (N : Int)) (iI k) (iI (cN N i)) (iI (i : Int)) h) (fun i => i ≤ 8 ∧ ∀ j : Int, 0 ≤ j → j < (i : Int) → ¬ baB N k j = true) (fun i => 9 - i) (fun r => r = _) ?_ f0 0 ⟨by omega, fun j h1 h2 => by omega⟩ (by omega)
  intro f i ⟨hi, hn⟩
  have cr := cN_rg N i
  by_cases c : (8 : Int) ≤ (i : Int)
  · left
    have : i = 8 := by omega
    subst this
    simp (disch := first | assumption | omega) only [bX11_bitAt_4, lm_1, li_0, li_1, li_8, li_31, iI_add, Option.bind_some, iI_neg, iI_le, if_pos c, iI_neg]
    rw [fb_no hn]
  · have cs := cN_s N i
    by_cases a : N.testBit i = true
    · have a' : N.testBit ((i : Int)).toNat = true := a
      rw [if_pos a] at cs
      by_cases b : cN N i = k
      · left
        have e : fb (baB N k) 8 = (i : Int) := fb_is (by omega) (by omega) (by unfold baB; rw [show ((i : Int)).toNat = i from rfl, a, b]; simp) hn
        rw [e]
        simp (disch := first | assumption | omega) only [bX11_bitAt_4, lm_1, li_0, li_1, li_8, li_31, iI_add, Option.bind_some, iI_neg, iI_le, if_neg c, ii_bitN, bI_i0, ite_n, if_pos a', iI_eq, if_pos b]
      · right
        refine ⟨i + 1, ?_, ⟨by omega, fun j j0 j1 => ?_⟩, by omega⟩
        · rw [cs]
          simp (disch := first | assumption | omega) only [bX11_bitAt_4, bX11_bitAt_31, lm_1, li_0, li_1, li_8, li_31, iI_add, Option.bind_some, iI_neg, iI_le, if_neg c, ii_bitN, bI_i0, ite_n, if_pos a', iI_eq, if_neg b]
          rfl
        · by_cases e : j = (i : Int)
          · subst e; unfold baB; simp [b]
          · exact hn j j0 (by omega)
    · have a' : ¬ N.testBit ((i : Int)).toNat = true := a
      rw [if_neg a, Int.add_zero] at cs
      right
      refine ⟨i + 1, ?_, ⟨by omega, fun j j0 j1 => ?_⟩, by omega⟩
      · rw [cs]
        simp (disch := first | assumption | omega) only [bX11_bitAt_4, bX11_bitAt_31, lm_1, li_0, li_1, li_8, li_31, iI_add, Option.bind_some, iI_neg, iI_le, if_neg c, ii_bitN, bI_i0, ite_n, if_neg a']
        rfl
      · by_cases e : j = (i : Int)
        · subst e; unfold baB; simp at a; simp [a]
        · exact hn j j0 (by omega)
theorem plA_c {sk sk' : Int → Int} (h : ∀ m, 0 ≤ m → m < 8 → sk m = sk' m) {a M n : Nat} : plA sk a M n = plA sk' a M n := by
  have fbc : ∀ {p q : Int → Bool} (n : Nat), (∀ i : Int, 0 ≤ i → i < (n : Int) → p i = q i) → fb p n = fb q n := by
    intro p q n
    induction n with
    | zero => intro _; rfl
    | succ n ih => intro h; rw [fb, fb, ih (fun i i0 i1 => h i i0 (by omega)), h n (by omega) (by omega)]
  have ff : ∀ r a M, ffA sk r a M = ffA sk' r a M := fun r a M => by
    unfold ffA
    refine fbc 8 (fun i i0 i8 => ?_)
    unfold ffB
    rw [h i i0 (by omega), lackF_c h, lackF_c h]
  have pl : ∀ n, plS sk a M n = plS sk' a M n := by
    intro n
    induction n with
    | zero => rfl
    | succ n ih => rw [plS, plS, ih]; congr 1; funext t; rw [ff]
  unfold plA; rw [pl]
theorem Inv_scr {Y : YS} {X Z : XS} (h : Inv Y X) (hz : Scr (sF X 12 0 0 0) Z) : Inv Y Z := by
  have W1 : WF (sF X 12 0 0 0) := W_F h.2.1 (by decide) (by decide)
  have W2 := Scr_W W1 hz
  obtain ⟨c, n, w, k, v, e, -⟩ := hz
  subst e
  exact ⟨h.1, W2, h.2.2⟩
theorem op_lacks {f0 : Nat} {Y : YS} {X : XS} (h : Inv Y X) {s : Int} (rg_s : Rg s) (hf : 2000 ≤ f0) : ∃ v X1 X2, fX11_lacks f0 (Ad Y 11 0) (iI s) (hp Y X) = some (v, hp Y X1) ∧ fX12_lacks f0 (Ad Y 12 0) (iI s) (hp Y X1) = some (v, hp Y X2) ∧ Inv Y X2 := by
  have g := h.1.1; have W := h.2.1
  have se := h.2.2.2.2.2.1; have hC := se.1; have hR := se.2.1
  have g6 := SeO_0 g
  have c0 := hC.1; have c3 := hC.2.1; have c4 := hC.2.2.1; have c5 := hC.2.2.2.1
  have e0 := hR.1.1; have e1 := hR.1.2.1; have e2 := hR.1.2.2.1; have e3 := hR.1.2.2.2.1
  have sh := h.2.2.2.2.2.2.2.2.1
  have p0 := sh.1 0 (by omega)
  have gk0 := ShO_k g p0
  have cd := sh.2.2.2.1.1; have rl := sh.2.2.2.1.2
  have cs : CShip X (XP X 0) 0 := cd
  have sf := inv_S se cd rl
  have Ws : WS (XR X 61 0) := fun i => W.2 61 0 i
  have WA : WF (sF X 12 0 0 0) := W_F W (by decide) (by decide)
  have z := Z61 (Y := Y) (X := sF X 12 0 0 0) (S := XR X 61 0) rfl
  have hP := inv_PostR se h.2.2.2.2.2.2.2.1
  have th := Inv_th h (v := 0) ⟨by decide, by decide⟩
  have rz : Rg (0 : Int) := ⟨by decide, by decide⟩
  have s1 := rg_s.1; have s2 := rg_s.2
  have Wd := WD_G W (XP X 0)
  by_cases c : 0 ≤ s ∧ s < XR X 25 0 3
  · have cS : 0 ≤ s ∧ s < XR X 61 0 1 := by omega
    have hh := inv_CH se cd rl (s := s) (by omega) (by omega)
    have n33 := hC.2.2.2.2.2.2.2.2.2.1 s (by omega) (by omega)
    have e33 := (hR.2.2.1 s (by omega) (by omega)).1
    have hm := d_hasMenFor (f0 := f0) (d := shG X (XP X 0)) g p0 W hC (s := s) (by omega) (by omega)
    have am := d_allMen (f0 := f0) (d := shG X (XP X 0)) g p0 hC
    have M8 : allM X < 256 := by
      unfold allM
      have : 2 ^ (XR X 25 0 5).toNat ≤ 2 ^ 8 := Nat.pow_le_pow_right (by decide) (by omega)
      have : 0 < 2 ^ (XR X 25 0 5).toNat := Nat.two_pow_pos _
      omega
    have lk := d_lacking (f0 := f0) (d := shG X (XP X 0)) g p0 W Wd cd (a := (XR X 33 0 s).toNat) (M := allM X) (by omega) M8 (by omega)
    rw [sh_id] at hm am lk
    rw [show (((XR X 33 0 s).toNat : Nat) : Int) = XR X 33 0 s by omega] at lk
    obtain ⟨c', n, w, hp1, e⟩ := r_lacksOf (f0 := f0) g hh WA Ws (by omega)
    have c6 := cN_rg (cNN (XR X 61 0) s) 6
    have iv := Inv_scr h (Scr_scr (Scr_refl WA) hp1.1 hp1.2.1 hp1.2.2.1 (k := cN (cNN (XR X 61 0) s) 6) ⟨by omega, by omega⟩)
    have z2 := Z61 (Y := Y) (X := scr (sF X 12 0 0 0) c' n w (cN (cNN (XR X 61 0) s) 6)) (S := XR X 61 0) rfl
    refine ⟨iI (lacksS (XR X 61 0) s), X, _, ?_, ?_, iv⟩
    · unfold lacksS
      rw [← rel_lack hC hR rl hh]
      by_cases q : pc (XR X 33 0 s).toNat ≤ XR X 25 0 5
      · have q' : pc (cNN (XR X 61 0) s) ≤ XR X 61 0 3 := by rw [e33, e3] at q; exact q
        rw [if_pos q']
        simp (disch := first | assumption | omega | exact W_fl W _ _ _ | exact W_fh W _ _ _ | exact W_rl W _ _ _ | exact W_rh W _ _ _ | exact WS_l Ws _ | exact WS_h Ws _) only [fX11_lacks, g_11_4, g_11_11, g_6_10, k_6, k_10, l_33, lm_1, li_3, li_0, li_1, ob2, Option.bind_some, iI_add, iI_neg, e_has, bI_i0, ite_n, if_pos c, hm, if_pos q, am, lk]
      · have q' : ¬ pc (cNN (XR X 61 0) s) ≤ XR X 61 0 3 := by rw [e33, e3] at q; exact q
        rw [if_neg q']
        simp (disch := first | assumption | omega | exact W_fl W _ _ _ | exact W_fh W _ _ _ | exact W_rl W _ _ _ | exact W_rh W _ _ _ | exact WS_l Ws _ | exact WS_h Ws _) only [fX11_lacks, g_11_4, g_11_11, g_6_10, k_6, k_10, l_33, lm_1, li_3, li_0, li_1, ob2, Option.bind_some, iI_add, iI_neg, e_has, bI_i0, ite_n, if_pos c, hm, if_neg q, iI_neg]
    · simp (disch := first | assumption | omega | exact W_fl W _ _ _ | exact W_fh W _ _ _ | exact W_rl W _ _ _ | exact W_rh W _ _ _ | exact WS_l Ws _ | exact WS_h Ws _) only [fX12_lacks, p_12_0, k_12, lm_1, li_0, li_1, ob2, Option.bind_some, iI_add, iI_neg, z, r_isShip, bI_i0, ite_n, if_pos cS, e, z2]
  · have cS : ¬ (0 ≤ s ∧ s < XR X 61 0 1) := by omega
    refine ⟨iI (-1), X, sF X 12 0 0 0, ?_, ?_, th⟩
    · simp (disch := first | assumption | omega | exact W_fl W _ _ _ | exact W_fh W _ _ _ | exact W_rl W _ _ _ | exact W_rh W _ _ _ | exact WS_l Ws _ | exact WS_h Ws _) only [fX11_lacks, g_11_4, g_11_11, g_6_10, k_6, k_10, l_33, lm_1, li_3, li_0, li_1, ob2, Option.bind_some, iI_add, iI_neg, e_has, bI_i0, ite_n, if_neg c, iI_neg]
    · simp (disch := first | assumption | omega | exact W_fl W _ _ _ | exact W_fh W _ _ _ | exact W_rl W _ _ _ | exact W_rh W _ _ _ | exact WS_l Ws _ | exact WS_h Ws _) only [fX12_lacks, p_12_0, k_12, lm_1, li_0, li_1, ob2, Option.bind_some, iI_add, iI_neg, z, r_isShip, bI_i0, ite_n, if_neg cS, iI_neg]
theorem op_plays {f0 : Nat} {Y : YS} {X : XS} (h : Inv Y X) {s : Int} (rg_s : Rg s) {k : Int} (rg_k : Rg k) (hf : 2000 ≤ f0) : ∃ v X1 X2, fX11_plays f0 (Ad Y 11 0) (iI s) (iI k) (hp Y X) = some (v, hp Y X1) ∧ fX12_plays f0 (Ad Y 12 0) (iI s) (iI k) (hp Y X1) = some (v, hp Y X2) ∧ Inv Y X2 := by
  have g := h.1.1; have W := h.2.1
  have se := h.2.2.2.2.2.1; have hC := se.1; have hR := se.2.1
  have g6 := SeO_0 g
  have c0 := hC.1; have c3 := hC.2.1; have c4 := hC.2.2.1; have c5 := hC.2.2.2.1
  have e0 := hR.1.1; have e1 := hR.1.2.1; have e2 := hR.1.2.2.1; have e3 := hR.1.2.2.2.1
  have sh := h.2.2.2.2.2.2.2.2.1
  have p0 := sh.1 0 (by omega)
  have gk0 := ShO_k g p0
  have cd := sh.2.2.2.1.1; have rl := sh.2.2.2.1.2
  have cs : CShip X (XP X 0) 0 := cd
  have sf := inv_S se cd rl
  have Ws : WS (XR X 61 0) := fun i => W.2 61 0 i
  have WA : WF (sF X 12 0 0 0) := W_F W (by decide) (by decide)
  have z := Z61 (Y := Y) (X := sF X 12 0 0 0) (S := XR X 61 0) rfl
  have hP := inv_PostR se h.2.2.2.2.2.2.2.1
  have th := Inv_th h (v := 0) ⟨by decide, by decide⟩
  have rz : Rg (0 : Int) := ⟨by decide, by decide⟩
  have s1 := rg_s.1; have s2 := rg_s.2; have k1 := rg_k.1; have k2 := rg_k.2
  have Wd := WD_G W (XP X 0)
  by_cases c : 0 ≤ s ∧ s < XR X 25 0 3
  · have cS : 0 ≤ s ∧ s < XR X 61 0 1 := by omega
    have hh := inv_CH se cd rl (s := s) (by omega) (by omega)
    have n33 := hC.2.2.2.2.2.2.2.2.2.1 s (by omega) (by omega)
    have e33 := (hR.2.2.1 s (by omega) (by omega)).1
    have hm := d_hasMenFor (f0 := f0) (d := shG X (XP X 0)) g p0 W hC (s := s) (by omega) (by omega)
    rw [sh_id] at hm
    obtain ⟨N, hN⟩ : ∃ N : Nat, N = (XR X 33 0 s).toNat := ⟨_, rfl⟩
    have N64 : N < 64 := by omega
    have nn : XR X 33 0 s = (N : Int) := by omega
    have nN : cNN (XR X 61 0) s = N := by rw [hN, e33]
    obtain ⟨c', n, w, hp1, e⟩ := r_lacksOf (f0 := f0) g hh WA Ws (by omega)
    rw [nN] at e
    have c6 := cN_rg N 6
    have iv := Inv_scr h (Scr_scr (Scr_refl WA) hp1.1 hp1.2.1 hp1.2.2.1 (k := cN N 6) ⟨by omega, by omega⟩)
    have z2 := Z61 (Y := Y) (X := scr (sF X 12 0 0 0) c' n w (cN N 6)) (S := XR X 61 0) rfl
    have ba := e_bitAt (f0 := f0) (h := hp Y X) (N := N) (k := k) (by omega) rg_k (by omega)
    have lr := lackF_rg (cSK (XR X 61 0)) N (cMM (XR X 61 0))
    have x26 : XF (sR (scr (sF X 12 0 0 0) c' n w (cN N 6)) 61 0 (XR X 61 0)) 12 0 26 = cN N 6 := rfl
    have rk6 : Rg (cN N 6 - 1) := ⟨by omega, by omega⟩
    by_cases q : pc N ≤ XR X 25 0 5
    · have lv : lacksS (XR X 61 0) s = lackF (cSK (XR X 61 0)) N (cMM (XR X 61 0)) := by
        unfold lacksS; rw [nN, if_pos (by rw [← e3]; exact q)]
      rw [lv] at e
      have lp0 : 0 ≤ lackF (cSK (XR X 61 0)) N (cMM (XR X 61 0)) := lr.1
      have pca := hp1.2.2.2.2 (by rw [nN, ← e3]; exact q)
      by_cases kk : 0 ≤ k ∧ k ≤ cN N 6 - 1
      · obtain ⟨r, r6, hr, er⟩ := cN_ex (N := N) (k := k) kk.1 6 (by omega)
        have fbv : fb (baB N k) 8 = (r : Int) := fb_is (by omega) (by omega) (by unfold baB; rw [show ((r : Int)).toNat = r from rfl, hr, er]; simp) (fun j j0 j1 w => by
          unfold baB at w; simp only [Bool.and_eq_true, decide_eq_true_eq] at w
          have := cN_inj w.1 hr (by rw [w.2, er]); omega)
        have pv := pca r (by rw [nN]; exact hr)
        rw [nN, er] at pv
        have po := d_playerOf (f0 := f0) (d := shG X (XP X 0)) g p0 W Wd hC cd (r := (r : Int)) (by omega) (by omega) (a := N) N64 (by omega)
        rw [sh_id, show ((r : Int) + 1).toNat = r + 1 by omega] at po
        have pe : plA (shG X (XP X 0)).2.2.2.1 N (allM X) (r + 1) = plA (cSK (XR X 61 0)) N (cMM (XR X 61 0)) (r + 1) := by
          unfold allM; rw [e3]; exact plA_c (fun m m0 m8 => (rl.2.2.2.1 m m0 m8).2)
        rw [pe] at po
        refine ⟨iI (c' k), X, _, ?_, ?_, iv⟩
        · have rn : ¬ (r : Int) = -1 := by omega
          rw [pv]
          rw [← hN] at hm
          simp (disch := first | assumption | omega | exact W_fl W _ _ _ | exact W_fh W _ _ _ | exact W_rl W _ _ _ | exact W_rh W _ _ _ | exact WS_l Ws _ | exact WS_h Ws _) only [fX11_plays, g_11_4, g_11_11, g_6_10, k_6, k_10, l_33, lm_1, li_3, li_0, li_1, ob2, Option.bind_some, iI_add, iI_neg, e_has, bI_i0, ite_n, if_pos c, hm, if_pos q, nn, ba, fbv, iI_neg, iI_eq, if_neg rn, po]
        · simp (disch := first | assumption | omega | exact W_fl W _ _ _ | exact W_fh W _ _ _ | exact W_rl W _ _ _ | exact W_rh W _ _ _ | exact WS_l Ws _ | exact WS_h Ws _) only [fX12_plays, g_12_26, g_12_23, p_12_0, k_12, l_68, lm_1, li_0, li_1, ob2, iI_sub, Option.bind_some, iI_add, iI_neg, z, r_isShip, bI_i0, ite_n, if_pos cS, e, iI_le, if_pos lp0, x26, r_isIn, if_pos kk, XR_c68, z2]
      · have fbv : fb (baB N k) 8 = -1 := fb_no (fun j j0 j1 w => by
          unfold baB at w; simp only [Bool.and_eq_true, decide_eq_true_eq] at w
          have a1 := (cN_rg N j.toNat).1
          have a2 : j.toNat < 6 := by
            apply Classical.byContradiction; intro v
            have := bit_ge (n := 6) N64 (show 6 ≤ j.toNat by omega)
            rw [this] at w; exact absurd w.1 (by decide)
          have := cN_lt w.1 a2; omega)
        refine ⟨iI (-1), X, _, ?_, ?_, iv⟩
        · rw [← hN] at hm
          simp (disch := first | assumption | omega | exact W_fl W _ _ _ | exact W_fh W _ _ _ | exact W_rl W _ _ _ | exact W_rh W _ _ _ | exact WS_l Ws _ | exact WS_h Ws _) only [fX11_plays, g_11_4, g_11_11, g_6_10, k_6, k_10, l_33, lm_1, li_3, li_0, li_1, ob2, Option.bind_some, iI_add, iI_neg, e_has, bI_i0, ite_n, if_pos c, hm, if_pos q, nn, ba, fbv, iI_neg, iI_eq, if_true]
        · simp (disch := first | assumption | omega | exact W_fl W _ _ _ | exact W_fh W _ _ _ | exact W_rl W _ _ _ | exact W_rh W _ _ _ | exact WS_l Ws _ | exact WS_h Ws _) only [fX12_plays, g_12_26, g_12_23, p_12_0, k_12, l_68, lm_1, li_0, li_1, ob2, iI_sub, Option.bind_some, iI_add, iI_neg, z, r_isShip, bI_i0, ite_n, if_pos cS, e, iI_le, if_pos lp0, x26, r_isIn, if_neg kk, z2, iI_neg]
    · have lv : lacksS (XR X 61 0) s = -1 := by
        unfold lacksS; rw [nN, if_neg (by rw [← e3]; exact q)]
      rw [lv] at e
      have lp0 : ¬ (0 : Int) ≤ -1 := by decide
      refine ⟨iI (-1), X, _, ?_, ?_, iv⟩
      · rw [← hN] at hm
        simp (disch := first | assumption | omega | exact W_fl W _ _ _ | exact W_fh W _ _ _ | exact W_rl W _ _ _ | exact W_rh W _ _ _ | exact WS_l Ws _ | exact WS_h Ws _) only [fX11_plays, g_11_4, g_11_11, g_6_10, k_6, k_10, l_33, lm_1, li_3, li_0, li_1, ob2, Option.bind_some, iI_add, iI_neg, e_has, bI_i0, ite_n, if_pos c, hm, if_neg q, iI_neg]
      · simp (disch := first | assumption | omega | exact W_fl W _ _ _ | exact W_fh W _ _ _ | exact W_rl W _ _ _ | exact W_rh W _ _ _ | exact WS_l Ws _ | exact WS_h Ws _) only [fX12_plays, g_12_26, g_12_23, p_12_0, k_12, l_68, lm_1, li_0, li_1, ob2, iI_sub, Option.bind_some, iI_add, iI_neg, z, r_isShip, bI_i0, ite_n, if_pos cS, e, iI_le, if_neg lp0, z2, iI_neg]
  · have cS : ¬ (0 ≤ s ∧ s < XR X 61 0 1) := by omega
    refine ⟨iI (-1), X, sF X 12 0 0 0, ?_, ?_, th⟩
    · simp (disch := first | assumption | omega | exact W_fl W _ _ _ | exact W_fh W _ _ _ | exact W_rl W _ _ _ | exact W_rh W _ _ _ | exact WS_l Ws _ | exact WS_h Ws _) only [fX11_plays, g_11_4, g_11_11, g_6_10, k_6, k_10, l_33, lm_1, li_3, li_0, li_1, ob2, Option.bind_some, iI_add, iI_neg, e_has, bI_i0, ite_n, if_neg c, iI_neg]
    · simp (disch := first | assumption | omega | exact W_fl W _ _ _ | exact W_fh W _ _ _ | exact W_rl W _ _ _ | exact W_rh W _ _ _ | exact WS_l Ws _ | exact WS_h Ws _) only [fX12_plays, g_12_26, g_12_23, p_12_0, k_12, l_68, lm_1, li_0, li_1, ob2, iI_sub, Option.bind_some, iI_add, iI_neg, z, r_isShip, bI_i0, ite_n, if_neg cS, iI_neg]
