/-! register, as a call -/
theorem x50 (X : XS) (r : Int → Int) : XR (sR X 50 0 r) 50 0 = r := rfl
theorem s50 (X : XS) (r r' : Int → Int) : sR (sR X 50 0 r) 50 0 r' = sR X 50 0 r' := sR_sR ..
theorem cl_reg {f0 : Nat} {Y : YS} {X : XS} {r : Int → Int} (g : GY Y) (W : WF X) (hC : CSea X 0) {n : Nat} (n10 : n ≤ 10) (hT : TO X n) (rr : RgF r) (hf : 2000 ≤ f0) : ∃ ap, RgF ap ∧ (∀ i : Nat, i < n → ap (i : Int) = ((bs (apF (XR X 20 0) (XR X 34 0) (i : Int)) n : Nat) : Int)) ∧ bX5_fewest_59 f0 f0 (Ad Y 5 0) (iI (n : Int)) (iI 0) (hp Y (sR X 50 0 r)) = some (iI (mx (apV ap n) (2 ^ n)), hp Y (sR X 50 0 ap)) := by
  have bl : ∀ i : Int, bs (apF (XR X 20 0) (XR X 34 0) i) n < 1024 := fun i => Nat.lt_of_lt_of_le (bs_lt _ n) (pw_n n10).2
  refine lp (fun f (z : Nat × (Int → Int)) => bX5_fewest_59 f0 f (Ad Y 5 0) (iI (n : Int)) (iI (z.1 : Int)) (hp Y (sR X 50 0 z.2))) (fun z => z.1 ≤ n ∧ RgF z.2 ∧ ∀ i : Nat, i < z.1 → z.2 (i : Int) = ((bs (apF (XR X 20 0) (XR X 34 0) (i : Int)) n : Nat) : Int)) (fun z => 11 - z.1) (fun q => ∃ ap, RgF ap ∧ (∀ i : Nat, i < n → ap (i : Int) = ((bs (apF (XR X 20 0) (XR X 34 0) (i : Int)) n : Nat) : Int)) ∧ q = some (iI (mx (apV ap n) (2 ^ n)), hp Y (sR X 50 0 ap))) ?_ f0 (0, r) ⟨by simp only; omega, rr, fun i hi => by simp only at hi; omega⟩ (by simp only; omega)
  intro f ⟨i, w⟩ ⟨hi, rw1, rw2⟩
  simp only at hi rw1 rw2 ⊢
  by_cases c : (n : Int) ≤ (i : Int)
  · left
    have e : i = n := by omega
    subst e
    have ma := e_mostApart (f0 := f0) (X := sR X 50 0 w) (ap := w) g rfl (n := (i : Int)) (by omega) (by omega) (fun k k0 k1 => by
      have := rw2 k.toNat (by omega)
      rw [show ((k.toNat : Nat) : Int) = k by omega] at this
      rw [this]; have := bl k; omega) hf
    rw [show ((i : Int)).toNat = i from rfl] at ma
    refine ⟨w, rw1, rw2, ?_⟩
    simp (disch := first | assumption | omega) only [bX5_fewest_59, g_5_2, k_5, s_50, li_0, li_1, ob2, iI_add, Option.bind_some, iI_le, if_pos c, ma]
  · right
    have W2 : WF (sR X 50 0 w) := W_R W rw1
    have fa := e_findApart (f0 := f0) (X := sR X 50 0 w) (n := (n : Int)) (i := (i : Int)) g W2 hC (by omega) hT (by omega) (by omega) (by omega)
    rw [show ((n : Int)).toNat = n from rfl] at fa
    have fa2 : fX5_findApart f0 (Ad Y 5 0) (iI (i : Int)) (iI (n : Int)) (hp Y (sR X 50 0 w)) = some (iI ((bs (apF (XR X 20 0) (XR X 34 0) (i : Int)) n : Nat) : Int), hp Y (sR X 50 0 w)) := fa
    have bi := bl i
    refine ⟨(i + 1, upi w (i : Int) ((bs (apF (XR X 20 0) (XR X 34 0) (i : Int)) n : Nat) : Int)), ?_, ⟨by simp only; omega, RgF_u rw1 (by omega) (by omega), fun k hk => ?_⟩, by simp only; omega⟩
    · simp (disch := first | assumption | omega) only [bX5_fewest_59, g_5_2, k_5, s_50, li_0, li_1, ob2, iI_add, Option.bind_some, iI_le, if_neg c, fa2, x50, s50]
      rfl
    · simp only at hk
      show upi w (i : Int) _ (k : Int) = _
      by_cases e : k = i
      · subst e; rw [upi_eq]
      · rw [upi_ne _ _ (by omega)]; exact rw2 k (by omega)
theorem rf_reg {f0 : Nat} {Y : YS} {Z : XS} {S a b : Int → Int} (g : GY Y) {n : Nat} (n10 : n ≤ 10) (hR : REG Z S n) (ra : RgF a) (rb : RgF b) (hf : 2000 ≤ f0) : ∃ a' b', RgF a' ∧ RgF b' ∧ bX12_register_75 f0 f0 (Ad Y 12 0) (iI (n : Int)) (iI 0) (hp Y (rgZ Z a b)) = some (iI ((n : Int) - mx (mst (FF Z) n n) (2 ^ n)), hp Y (rgZ Z a' b')) := by
  have pn := pw_n n10
  have one := one_n n10
  -- the rounds
  have rounds : ∀ (a b : Int → Int), RA Z n 0 a → RgF b → ∃ a' b', RgF a' ∧ RgF b' ∧ bX12_register_105 f0 f0 (Ad Y 12 0) (iI (n : Int)) (iI 0) (hp Y (rgZ Z a b)) = some (iI ((n : Int) - mx (mst (FF Z) n n) (2 ^ n)), hp Y (rgZ Z a' b')) := by
    intro a b ra rb
    refine lp (fun f (z : Nat × (Int → Int) × (Int → Int)) => bX12_register_105 f0 f (Ad Y 12 0) (iI (n : Int)) (iI (z.1 : Int)) (hp Y (rgZ Z z.2.1 z.2.2))) (fun z => z.1 ≤ n ∧ RA Z n z.1 z.2.1 ∧ RgF z.2.2) (fun z => 11 - z.1) (fun q => ∃ a' b', RgF a' ∧ RgF b' ∧ q = some (iI ((n : Int) - mx (mst (FF Z) n n) (2 ^ n)), hp Y (rgZ Z a' b'))) ?_ f0 (0, a, b) ⟨by simp only; omega, ra, rb⟩ (by simp only; omega)
    intro f ⟨i, u, v⟩ ⟨hi, r1, r2⟩
    simp only at hi r1 r2 ⊢
    by_cases c : (n : Int) ≤ (i : Int)
    · left
      have e : i = n := by omega
      subst e
      have fi := g274 (f0 := f0) (b := v) g n10 r1 hf
      refine ⟨u, v, r1.1, r2, ?_⟩
      simp (disch := first | assumption | omega) only [bX12_register_105, li_0, li_1, iI_add, Option.bind_some, iI_le, if_pos c, fi]
    · right
      obtain ⟨v1, p1, q1⟩ := g112 (f0 := f0) g n10 r1 r2 (g105 := bX12_register_105 f0 f) hf
      obtain ⟨v2, p2, q2⟩ := g139' (f0 := f0) (S := S) g n10 hR (show i < n by omega) r1 p1 (g105 := bX12_register_105 f0 f) hf
      obtain ⟨u2, p3, q3⟩ := g239 (f0 := f0) g n10 r1.1 p2 (g105 := bX12_register_105 f0 f) hf
      refine ⟨(i + 1, u2, v2), ?_, ⟨by simp only; omega, p3, p2.1⟩, by simp only; omega⟩
      simp (disch := first | assumption | omega) only [bX12_register_105, li_0, li_1, iI_add, Option.bind_some, iI_le, if_neg c, q1, q2, q3]
      rfl
  refine lp (fun f (z : Nat × (Int → Int)) => bX12_register_75 f0 f (Ad Y 12 0) (iI (n : Int)) (iI (z.1 : Int)) (hp Y (rgZ Z z.2 b))) (fun z => z.1 ≤ 2 ^ n ∧ RgF z.2 ∧ ∀ t : Nat, t < z.1 → z.2 (t : Int) = mst (FF Z) n 0 t) (fun z => 1025 - z.1) (fun q => ∃ a' b', RgF a' ∧ RgF b' ∧ q = some (iI ((n : Int) - mx (mst (FF Z) n n) (2 ^ n)), hp Y (rgZ Z a' b'))) ?_ f0 (0, a) ⟨by simp only; omega, ra, fun t ht => by simp only at ht; omega⟩ (by simp only; omega)
  intro f ⟨s, w⟩ ⟨hs, rw1, rw2⟩
  simp only at hs rw1 rw2 ⊢
  by_cases c : ((2 ^ n : Nat) : Int) ≤ (s : Int)
  · left
    obtain ⟨a', b', r1, r2, r3⟩ := rounds w b ⟨rw1, fun t ht => rw2 t (by omega)⟩ rb
    refine ⟨a', b', r1, r2, ?_⟩
    simp (disch := first | assumption | omega) only [bX12_register_75, g_12_31, lm_1, li_0, li_1, li_31, iI_add, Option.bind_some, iI_neg, one, iI_le, if_pos c, r3]
  · right
    by_cases e : (s : Int) = 0
    · refine ⟨(s + 1, upi w (s : Int) 0), ?_, ⟨by simp only; omega, RgF_u rw1 (by decide) (by decide), fun t ht => ?_⟩, by simp only; omega⟩
      · simp (disch := first | assumption | omega) only [bX12_register_75, bX12_register_96, g_12_31, lm_1, li_0, li_1, li_31, iI_add, Option.bind_some, iI_neg, one, iI_le, iI_eq, if_neg c, if_pos e, s_74, rg_xa, rg_sa]
        rfl
      · simp only at ht
        show upi w (s : Int) 0 (t : Int) = _
        have t0 : t = 0 := by omega
        subst t0
        rw [show s = 0 by omega, upi_eq]
        unfold mst; rw [if_pos (by rfl)]; decide
    · refine ⟨(s + 1, upi w (s : Int) (-1)), ?_, ⟨by simp only; omega, RgF_u rw1 (by decide) (by decide), fun t ht => ?_⟩, by simp only; omega⟩
      · simp (disch := first | assumption | omega) only [bX12_register_75, bX12_register_96, g_12_31, lm_1, li_0, li_1, li_31, iI_add, Option.bind_some, iI_neg, one, iI_le, iI_eq, if_neg c, if_neg e, s_74, rg_xa, rg_sa, iI_neg]
        rfl
      · simp only at ht
        show upi w (s : Int) (-1) (t : Int) = _
        by_cases q : t = s
        · subst q
          rw [upi_eq]
          unfold mst; rw [if_neg (by unfold rch; simp; omega)]
        · rw [upi_ne _ _ (by omega)]; exact rw2 t (by omega)
theorem Inv_reg {Y : YS} {X : XS} (h : Inv Y X) {ap a b : Int → Int} {m : Int} (r1 : RgF ap) (r2 : RgF a) (r3 : RgF b) (rm : Rg m) : Inv Y (rgZ (sF (sF (sF (sF (sF (sR (sF X 11 0 1 0) 50 0 ap) 12 0 0 0) 12 0 3 m) 12 0 2 0) 12 0 4 0) 12 0 5 940) a b) := by
  obtain ⟨g', W', t', re, fl, se', na, po, sh', sn, lo, i0, i1⟩ := h
  refine ⟨g', ?_, ⟨t'.1, ⟨by show (0 : Int) ≤ 0; decide, by show (0 : Int) ≤ 940; decide⟩, rfl⟩, re, fl, se', na, po, sh', sn, lo, i0, i1⟩
  exact W_R (W_R (W_F (W_F (W_F (W_F (W_F (W_R (W_F W' (by decide) (by decide)) r1) (by decide) (by decide)) rm.1 rm.2) (by decide) (by decide)) (by decide) (by decide)) (by decide) (by decide)) r2) r3
theorem op_register {f0 : Nat} {Y : YS} {X : XS} (h : Inv Y X) (hf : 2000 ≤ f0) : ∃ v X1 X2, fX11_register f0 (Ad Y 11 0)  (hp Y X) = some (v, hp Y X1) ∧ fX12_register f0 (Ad Y 12 0)  (hp Y X1) = some (v, hp Y X2) ∧ Inv Y X2 := by
  have g := h.1.1; have W := h.2.1
  have se := h.2.2.2.2.2.1; have hC := se.1; have hR := se.2.1
  have g6 := SeO_0 g
  have c0 := hC.1; have c3 := hC.2.1; have c4 := hC.2.2.1; have c5 := hC.2.2.2.1
  have e0 := hR.1.1; have e1 := hR.1.2.1; have e2 := hR.1.2.2.1; have e3 := hR.1.2.2.2.1
  have sh := h.2.2.2.2.2.2.2.2.1
  have p0 := sh.1 0 (by omega)
  have gk0 := ShO_k g p0
  have cd := sh.2.2.2.1.1; have rl := sh.2.2.2.1.2
  have cs : CShip X (XP X 0) 0 := cd
  have sf := inv_S se cd rl
  have Ws : WS (XR X 61 0) := fun i => W.2 61 0 i
  have WA : WF (sF X 12 0 0 0) := W_F W (by decide) (by decide)
  have z := Z61 (Y := Y) (X := sF X 12 0 0 0) (S := XR X 61 0) rfl
  have hP := inv_PostR se h.2.2.2.2.2.2.2.1
  have th := Inv_th h (v := 0) ⟨by decide, by decide⟩
  have rz : Rg (0 : Int) := ⟨by decide, by decide⟩
  obtain ⟨t1, t2, t3⟩ := h.2.2.1
  obtain ⟨m, hm⟩ : ∃ m, m = XF X 11 0 1 := ⟨_, rfl⟩
  rw [← hm] at t2 t3
  have s0 := sf.2.2.1.1
  have ff := far_facts se
  have hz2 : nz (iI 2) = some () := nz_i (by decide) (by decide) (by decide)
  have dv : iI m / iI 2 = iI (m / 2) := iI_div (by omega) (by omega) (by decide) (by decide)
  have md : iI m - iI (m / 2) * iI 2 = iI (m % 2) := by rw [← dv]; exact iI_mod (by omega) (by omega) (by decide) (by decide)
  have md2 : iI m - iI m / iI 2 * iI 2 = iI (m % 2) := iI_mod (by omega) (by omega) (by decide) (by decide)
  have X1 : ∀ r, WF (sR (sF X 11 0 1 0) 50 0 r) ↔ WF (sR (sF X 11 0 1 0) 50 0 r) := fun r => Iff.rfl
  have rga : RgF (XR X 74 0) := fun i => W.2 _ _ _
  have rgb : RgF (XR X 75 0) := fun i => W.2 _ _ _
  have rgp : RgF (XR X 50 0) := fun i => W.2 _ _ _
  have e50 : sR (sF X 11 0 1 0) 50 0 (XR X 50 0) = sF X 11 0 1 0 := sR_self (sF X 11 0 1 0) 50 0
  have ez : ∀ (ap : Int → Int), sF (sF (sF (sF (sF (sR (sF X 11 0 1 0) 50 0 ap) 12 0 0 0) 12 0 3 m) 12 0 2 0) 12 0 4 0) 12 0 5 940 = rgZ (sF (sF (sF (sF (sF (sR (sF X 11 0 1 0) 50 0 ap) 12 0 0 0) 12 0 3 m) 12 0 2 0) 12 0 4 0) 12 0 5 940) (XR X 74 0) (XR X 75 0) := fun ap => by
    unfold rgZ
    have a : sR (sF (sF (sF (sF (sF (sR (sF X 11 0 1 0) 50 0 ap) 12 0 0 0) 12 0 3 m) 12 0 2 0) 12 0 4 0) 12 0 5 940) 74 0 (XR X 74 0) = sF (sF (sF (sF (sF (sR (sF X 11 0 1 0) 50 0 ap) 12 0 0 0) 12 0 3 m) 12 0 2 0) 12 0 4 0) 12 0 5 940 := sR_self _ 74 0
    rw [a]
    exact (sR_self _ 75 0).symm
  have tk : ∀ ap : Int → Int, fX12_taken f0 (Ad Y 12 0) (iI 940) (hp Y (sF (sR (sF X 11 0 1 0) 50 0 ap) 12 0 0 0)) = some (hp Y (sF (sF (sF (sF (sF (sR (sF X 11 0 1 0) 50 0 ap) 12 0 0 0) 12 0 3 m) 12 0 2 0) 12 0 4 0) 12 0 5 940)) := fun ap => by
    have x2 : XF (sF (sR (sF X 11 0 1 0) 50 0 ap) 12 0 0 0) 12 0 2 = m := t3.symm
    simp (disch := first | assumption | omega) only [fX12_taken, g_12_2, p_12_3, p_12_2, p_12_4, p_12_5, li_0, Option.bind_some, iI_add, x2]
  have x3 : ∀ ap, XF (sF (sF (sF (sF (sF (sR (sF X 11 0 1 0) 50 0 ap) 12 0 0 0) 12 0 3 m) 12 0 2 0) 12 0 4 0) 12 0 5 940) 12 0 3 = m := fun ap => rfl
  have rg4 : Rg (4 : Int) := ⟨by decide, by decide⟩
  have rg20 : Rg (20 : Int) := ⟨by decide, by decide⟩
  have rgm : Rg m := ⟨by omega, by omega⟩
  have inv0 : ∀ {ap a b : Int → Int}, RgF ap → RgF a → RgF b → Inv Y (rgZ (sF (sF (sF (sF (sF (sR (sF X 11 0 1 0) 50 0 ap) 12 0 0 0) 12 0 3 m) 12 0 2 0) 12 0 4 0) 12 0 5 940) a b) := fun r1 r2 r3 => Inv_reg h r1 r2 r3 rgm
  have xs1 : XF (sF X 11 0 1 0) 11 0 1 = 0 := rfl
  by_cases c1 : m - m / 2 * 2 = 0
  · by_cases c2 : m / 2 < 2 ∨ 10 < m / 2
    · refine ⟨iI (-1), sR (sF X 11 0 1 0) 50 0 (XR X 50 0), _, ?_, ?_, inv0 rgp rga rgb⟩
      · rw [e50]
        by_cases c3 : m / 2 < 2
        · simp (disch := first | assumption | omega) only [fX11_register, fX11_takeTape, fX5_fewest, g_11_17, k_11, k_5, ob2, g_11_1, p_11_1, li_0, lm_1, li_2, li_1, li_10, iI_mul, iI_sub, Option.bind_some, iI_add, iI_neg, ← hm, hz2, dv, md, iI_eq, iI_lt, if_pos c1, if_pos c3, iI_neg]
        · have c4 : ¬ m / 2 ≤ 10 := by omega
          simp (disch := first | assumption | omega) only [fX11_register, fX11_takeTape, fX5_fewest, g_11_17, k_11, k_5, ob2, g_11_1, p_11_1, li_0, lm_1, li_2, li_1, li_10, iI_mul, iI_sub, Option.bind_some, iI_add, iI_neg, ← hm, hz2, dv, md, iI_eq, iI_lt, iI_le, if_pos c1, if_neg c3, if_neg c4, iI_neg]
      · have n1 : ¬ m - m / 2 * 2 = 1 := by omega
        have n2 : ¬ (4 ≤ m ∧ m ≤ 20) := by omega
        rw [← ez]
        simp (disch := first | assumption | omega) only [fX12_register, g_12_3, p_12_0, k_12, lm_1, li_0, li_940, li_2, li_1, li_4, li_20, ob2, iI_mul, iI_sub, Option.bind_some, iI_add, iI_neg, tk, x3, hz2, dv, md, iI_eq, if_neg n1, r_isIn, bI_i0, ite_n, if_neg n2, iI_neg]
    · obtain ⟨n, hn⟩ : ∃ n : Nat, m / 2 = (n : Int) := ⟨(m / 2).toNat, by omega⟩
      have nb : 2 ≤ n ∧ n ≤ 10 := by omega
      have k0 : m - (n : Int) * 2 = 0 := by omega
      have k1 : ¬ (n : Int) < 2 := by omega
      have k2 : (n : Int) ≤ 10 := by omega
      have k3 : ¬ m - (n : Int) * 2 = 1 := by omega
      have k4 : 4 ≤ m ∧ m ≤ 20 := by omega
      -- all of them ports, or not
      by_cases all : ∀ i : Int, 0 ≤ i → i < (n : Int) → 0 ≤ XR X 20 0 (2 * i) ∧ XR X 20 0 (2 * i) < XR X 61 0 0
      · have hT : TO (sF X 11 0 1 0) n := ⟨fun i i0 i1 => (t1 i i0 i1).2, fun i i0 i1 => by show 0 ≤ XR X 20 0 (2 * i) ∧ XR X 20 0 (2 * i) < XR X 25 0 0; rw [e0]; exact all i i0 i1⟩
        have WT : WF (sF X 11 0 1 0) := W_F W (by decide) (by decide)
        obtain ⟨ap, r1, r2, r3⟩ := cl_reg (f0 := f0) (X := sF X 11 0 1 0) (r := XR X 50 0) g WT hC nb.2 hT rgp hf
        have chk : ∀ Z, XR Z 20 0 = XR X 20 0 → XR Z 25 0 = XR X 25 0 → WF Z → bX5_fewest_25 f0 f0 (Ad Y 5 0) (iI (n : Int)) (iI 0) (hp Y Z) = bX5_fewest_59 f0 f0 (Ad Y 5 0) (iI (n : Int)) (iI 0) (hp Y Z) := by
          intro Z z20 z25 WZ
          refine lp (fun f (i : Nat) => bX5_fewest_25 f0 f (Ad Y 5 0) (iI (n : Int)) (iI (i : Int)) (hp Y Z)) (fun i => i ≤ n) (fun i => 11 - i) (fun q => q = bX5_fewest_59 f0 f0 (Ad Y 5 0) (iI (n : Int)) (iI 0) (hp Y Z)) ?_ f0 0 (by omega) (by omega)
          intro f i hi
          by_cases c : (n : Int) ≤ (i : Int)
          · left
            simp (disch := first | assumption | omega) only [bX5_fewest_25, g_5_0, g_5_1, k_6, l_20, lm_1, li_0, li_1, li_2, ob2, iI_add, iI_mul, Option.bind_some, iI_neg, iI_le, if_pos c]
          · right
            refine ⟨i + 1, ?_, by omega, by omega⟩
            have ti := all i (by omega) (by omega)
            have q : 0 ≤ XR X 20 0 (2 * (i : Int)) ∧ XR X 20 0 (2 * (i : Int)) < XR X 25 0 0 := by omega
            have rt : Rg (XR X 20 0 (2 * (i : Int))) := ⟨by omega, by omega⟩
            have hs := e_has (f0 := f0) (X := Z) g6 WZ (s := 0) (n := XR X 20 0 (2 * (i : Int))) (by omega) (by omega) rt
            rw [z25] at hs
            simp (disch := first | assumption | omega) only [bX5_fewest_25, g_5_0, g_5_1, k_6, l_20, lm_1, li_0, li_1, li_2, ob2, iI_add, iI_mul, Option.bind_some, iI_neg, iI_le, if_neg c, z20, hs, bI_i0, ite_n, if_pos q]
            rfl
        have c25 := chk (sF X 11 0 1 0) rfl rfl WT
        rw [← e50, r3] at c25
        rw [e50] at c25
        -- the reference
        obtain ⟨Z, hZ⟩ : ∃ Z, Z = sF (sF (sF (sF (sF (sR (sF X 11 0 1 0) 50 0 ap) 12 0 0 0) 12 0 3 m) 12 0 2 0) 12 0 4 0) 12 0 5 940 := ⟨_, rfl⟩
        have z60 : XR Z 60 0 = XR X 60 0 := by rw [hZ]; rfl
        have z66 : XR Z 66 0 = XR X 66 0 := by rw [hZ]; rfl
        have z61 : XR Z 61 0 = XR X 61 0 := by rw [hZ]; rfl
        have z3 : XF Z 12 0 3 = m := by rw [hZ]; rfl
        have tt : ∀ i, 0 ≤ i → i < 940 → XR X 60 0 i = XR X 20 0 i := fun i i0 i1 => ((t1 i i0 i1).1).symm
        have hRG : REG Z (XR X 61 0) n := by
          refine ⟨fun i i0 i1 => ?_, fun i i0 i1 => ?_, ?_, s0⟩
          · rw [z60, tt i i0 i1]; exact (t1 i i0 i1).2
          · rw [z60, tt _ (by omega) (by omega)]; exact all i i0 i1
          · rw [z66]; exact hP.2.1
        have eZ : Z = rgZ Z (XR X 74 0) (XR X 75 0) := by rw [hZ]; exact ez ap
        obtain ⟨a', b', q1, q2, q3⟩ := rf_reg (f0 := f0) (Z := Z) (S := XR X 61 0) (a := XR X 74 0) (b := XR X 75 0) g nb.2 hRG rga rgb hf
        rw [← eZ] at q3
        have c46 : bX12_register_46 f0 f0 (Ad Y 12 0) (iI (n : Int)) (iI 0) (hp Y Z) = bX12_register_75 f0 f0 (Ad Y 12 0) (iI (n : Int)) (iI 0) (hp Y Z) := by
          have zz : hp Y Z = hp Y (sR Z 61 0 (XR X 61 0)) := Z61 z61
          refine lp (fun f (i : Nat) => bX12_register_46 f0 f (Ad Y 12 0) (iI (n : Int)) (iI (i : Int)) (hp Y Z)) (fun i => i ≤ n) (fun i => 11 - i) (fun q => q = bX12_register_75 f0 f0 (Ad Y 12 0) (iI (n : Int)) (iI 0) (hp Y Z)) ?_ f0 0 (by omega) (by omega)
          intro f i hi
          by_cases c : (n : Int) ≤ (i : Int)
          · left
            simp (disch := first | assumption | omega) only [bX12_register_46, k_12, lm_1, li_0, li_1, li_2, ob2, iI_add, iI_mul, Option.bind_some, iI_neg, iI_le, if_pos c]
          · right
            refine ⟨i + 1, ?_, by omega, by omega⟩
            have ti := hRG.2.1 i (by omega) (by omega)
            have oc := r_octet (f0 := f0) (Z := Z) g (k := 2 * (i : Int)) (by omega) (by omega) (by omega)
            rw [dy_id ti.1] at oc
            have ip := r_isPort (f0 := f0) (X := Z) (S := XR X 61 0) g (p := XR Z 60 0 (2 * (i : Int))) ⟨by omega, by omega⟩ s0
            rw [← zz] at ip
            simp (disch := first | assumption | omega) only [bX12_register_46, k_12, lm_1, li_0, li_1, li_2, ob2, iI_add, iI_mul, Option.bind_some, iI_neg, iI_le, if_neg c, oc, ip, bI_i0, ite_n, if_pos ti]
            rfl
        -- equal
        have fre : ∀ a b, 0 ≤ a → a < 8 → 0 ≤ b → b < 8 → XR X 66 0 (8 * a + b) = frs (XR X 61 0) (8 * a + b) := fun a b a0 a8 b0 b8 => (h.2.2.2.2.2.2.2.1 (8 * a + b) (by omega) (by omega)).1
        have hQF : QF (XR X 66 0) := by
          refine ⟨fun a b a0 a8 b0 b8 => ?_, fun a b c a0 a8 b0 b8 c0 c8 => ?_⟩
          · rw [fre a b a0 a8 b0 b8, fre b a b0 b8 a0 a8]
            have q := ff.1 a b a0 a8 b0 b8
            exact ⟨q.1.1, q.2.1, q.2.2, ff.2.2 a b a0 a8 b0 b8⟩
          · rw [fre a c a0 a8 c0 c8, fre a b a0 a8 b0 b8, fre b c b0 b8 c0 c8]
            exact ff.2.1 a b c a0 a8 b0 b8 c0 c8
        have hT8 : ∀ i : Int, 0 ≤ i → i < (n : Int) → 0 ≤ XR X 60 0 (2 * i) ∧ XR X 60 0 (2 * i) < 8 := fun i i0 i1 => by
          rw [tt _ (by omega) (by omega)]; have := all i i0 i1; omega
        have hap : ∀ i : Nat, i < n → ap (i : Int) = ((bs (apF (XR X 60 0) (XR X 66 0) (i : Int)) n : Nat) : Int) := fun i hi => by
          rw [r2 i hi]
          congr 1
          refine bs_eq (fun j => ?_)
          have : j < n → apF (XR (sF X 11 0 1 0) 20 0) (XR (sF X 11 0 1 0) 34 0) (i : Int) (j : Int) = apF (XR X 60 0) (XR X 66 0) (i : Int) (j : Int) := fun hj => by
            have ti := all i (by omega) (by omega); have tj := all j (by omega) (by omega)
            unfold apF
            rw [tt (2 * (i : Int) + 1) (by omega) (by omega), tt (2 * (j : Int) + 1) (by omega) (by omega), tt (2 * (i : Int)) (by omega) (by omega), tt (2 * (j : Int)) (by omega) (by omega)]
            have pp := (hP.1 (XR X 20 0 (2 * (i : Int))) (XR X 20 0 (2 * (j : Int))) ti.1 ti.2 tj.1 tj.2).1
            rw [pp, show XR X 20 0 (2 * (i : Int)) * 8 + XR X 20 0 (2 * (j : Int)) = 8 * XR X 20 0 (2 * (i : Int)) + XR X 20 0 (2 * (j : Int)) by omega]
            rfl
          constructor
          · intro w; exact ⟨w.1, by rw [← this w.1]; exact w.2⟩
          · intro w; exact ⟨w.1, by rw [this w.1]; exact w.2⟩
        have eq := reg_eq (T := XR X 60 0) (q := XR X 66 0) (ap := ap) nb.2 hQF hT8 hap
        have eq2 : (n : Int) - mx (mst (FF Z) n n) (2 ^ n) = mx (apV ap n) (2 ^ n) := by
          have : FF Z = flF (XR X 60 0) (XR X 66 0) := by unfold FF; rw [z60, z66]
          rw [this]; exact eq
        rw [eq2] at q3
        refine ⟨iI (mx (apV ap n) (2 ^ n)), sR (sF X 11 0 1 0) 50 0 ap, rgZ Z a' b', ?_, ?_, by rw [hZ]; exact inv0 r1 q1 q2⟩
        · simp (disch := first | assumption | omega) only [fX11_register, fX11_takeTape, fX5_fewest, g_11_17, k_11, k_5, ob2, g_11_1, p_11_1, li_0, lm_1, li_2, li_1, li_10, iI_mul, iI_sub, Option.bind_some, iI_add, iI_neg, ← hm, hz2, dv, md, iI_eq, iI_lt, iI_le, hn, if_pos k0, if_neg k1, if_pos k2, c25]
        · simp (disch := first | assumption | omega) only [fX12_register, g_12_3, p_12_0, k_12, lm_1, li_0, li_940, li_2, li_1, li_4, li_20, ob2, iI_mul, iI_sub, Option.bind_some, iI_add, iI_neg, tk, ← hZ, z3, hz2, dv, md, iI_eq, if_neg k3, r_isIn, bI_i0, ite_n, if_pos k4, hn, c46, q3]
      · have WT : WF (sF X 11 0 1 0) := W_F W (by decide) (by decide)
        have chk : bX5_fewest_25 f0 f0 (Ad Y 5 0) (iI (n : Int)) (iI 0) (hp Y (sF X 11 0 1 0)) = some (iI (-1), hp Y (sF X 11 0 1 0)) := by
          refine lp (fun f (i : Nat) => bX5_fewest_25 f0 f (Ad Y 5 0) (iI (n : Int)) (iI (i : Int)) (hp Y (sF X 11 0 1 0))) (fun i => i ≤ n ∧ ∀ j : Int, 0 ≤ j → j < (i : Int) → 0 ≤ XR X 20 0 (2 * j) ∧ XR X 20 0 (2 * j) < XR X 61 0 0) (fun i => 11 - i) (fun q => q = some (iI (-1), hp Y (sF X 11 0 1 0))) ?_ f0 0 ⟨by omega, fun j j0 j1 => by omega⟩ (by omega)
          intro f i ⟨hi, inv⟩
          have c : ¬ (n : Int) ≤ (i : Int) := fun w => all (fun j j0 j1 => inv j j0 (by omega))
          have bt := (t1 (2 * (i : Int)) (by omega) (by omega)).2
          have rt : Rg (XR X 20 0 (2 * (i : Int))) := ⟨by omega, by omega⟩
          have hs := e_has (f0 := f0) (X := sF X 11 0 1 0) g6 WT (s := 0) (n := XR X 20 0 (2 * (i : Int))) (by omega) (by omega) rt
          have z20 : XR (sF X 11 0 1 0) 20 0 = XR X 20 0 := rfl
          have z25 : XR (sF X 11 0 1 0) 25 0 = XR X 25 0 := rfl
          rw [z25] at hs
          by_cases q : 0 ≤ XR X 20 0 (2 * (i : Int)) ∧ XR X 20 0 (2 * (i : Int)) < XR X 25 0 0
          · right
            refine ⟨i + 1, ?_, ⟨by omega, fun j j0 j1 => ?_⟩, by omega⟩
            · simp (disch := first | assumption | omega) only [bX5_fewest_25, g_5_0, g_5_1, k_6, l_20, lm_1, li_0, li_1, li_2, ob2, iI_add, iI_mul, Option.bind_some, iI_neg, iI_le, if_neg c, z20, hs, bI_i0, ite_n, if_pos q]
              rfl
            · by_cases e : j = (i : Int)
              · subst e; omega
              · exact inv j j0 (by omega)
          · left
            simp (disch := first | assumption | omega) only [bX5_fewest_25, g_5_0, g_5_1, k_6, l_20, lm_1, li_0, li_1, li_2, ob2, iI_add, iI_mul, Option.bind_some, iI_neg, iI_le, if_neg c, z20, hs, bI_i0, ite_n, if_neg q, iI_neg]
        obtain ⟨Z, hZ⟩ : ∃ Z, Z = sF (sF (sF (sF (sF (sR (sF X 11 0 1 0) 50 0 (XR X 50 0)) 12 0 0 0) 12 0 3 m) 12 0 2 0) 12 0 4 0) 12 0 5 940 := ⟨_, rfl⟩
        have z60 : XR Z 60 0 = XR X 60 0 := by rw [hZ]; rfl
        have z61 : XR Z 61 0 = XR X 61 0 := by rw [hZ]; rfl
        have z3 : XF Z 12 0 3 = m := by rw [hZ]; rfl
        have c46 : bX12_register_46 f0 f0 (Ad Y 12 0) (iI (n : Int)) (iI 0) (hp Y Z) = some (iI (-1), hp Y Z) := by
          have zz : hp Y Z = hp Y (sR Z 61 0 (XR X 61 0)) := Z61 z61
          refine lp (fun f (i : Nat) => bX12_register_46 f0 f (Ad Y 12 0) (iI (n : Int)) (iI (i : Int)) (hp Y Z)) (fun i => i ≤ n ∧ ∀ j : Int, 0 ≤ j → j < (i : Int) → 0 ≤ XR X 20 0 (2 * j) ∧ XR X 20 0 (2 * j) < XR X 61 0 0) (fun i => 11 - i) (fun q => q = some (iI (-1), hp Y Z)) ?_ f0 0 ⟨by omega, fun j j0 j1 => by omega⟩ (by omega)
          intro f i ⟨hi, inv⟩
          have c : ¬ (n : Int) ≤ (i : Int) := fun w => all (fun j j0 j1 => inv j j0 (by omega))
          have tb := t1 (2 * (i : Int)) (by omega) (by omega)
          have bt := tb.2
          have oc := r_octet (f0 := f0) (Z := Z) g (k := 2 * (i : Int)) (by omega) (by omega) (by rw [z60, ← tb.1]; exact bt)
          rw [z60, ← tb.1] at oc
          have dr := dy_rg bt.1 bt.2
          have ip := r_isPort (f0 := f0) (X := Z) (S := XR X 61 0) g (p := dy (XR X 20 0 (2 * (i : Int)))) ⟨by omega, by omega⟩ s0
          rw [← zz] at ip
          by_cases q : 0 ≤ dy (XR X 20 0 (2 * (i : Int))) ∧ dy (XR X 20 0 (2 * (i : Int))) < XR X 61 0 0
          · right
            have dd : XR X 20 0 (2 * (i : Int)) = dy (XR X 20 0 (2 * (i : Int))) := by
              have q2 := q.2
              unfold dy at q2 ⊢
              split
              · rename_i w; rw [if_pos w] at q2; omega
              · rfl
            refine ⟨i + 1, ?_, ⟨by omega, fun j j0 j1 => ?_⟩, by omega⟩
            · simp (disch := first | assumption | omega) only [bX12_register_46, k_12, lm_1, li_0, li_1, li_2, ob2, iI_add, iI_mul, Option.bind_some, iI_neg, iI_le, if_neg c, oc, ip, bI_i0, ite_n, if_pos q]
              rfl
            · by_cases e : j = (i : Int)
              · subst e; rw [dd]; exact q
              · exact inv j j0 (by omega)
          · left
            simp (disch := first | assumption | omega) only [bX12_register_46, k_12, lm_1, li_0, li_1, li_2, ob2, iI_add, iI_mul, Option.bind_some, iI_neg, iI_le, if_neg c, oc, ip, bI_i0, ite_n, if_neg q, iI_neg]
        refine ⟨iI (-1), sR (sF X 11 0 1 0) 50 0 (XR X 50 0), _, ?_, ?_, inv0 rgp rga rgb⟩
        · rw [e50]
          simp (disch := first | assumption | omega) only [fX11_register, fX11_takeTape, fX5_fewest, g_11_17, k_11, k_5, ob2, g_11_1, p_11_1, li_0, lm_1, li_2, li_1, li_10, iI_mul, iI_sub, Option.bind_some, iI_add, iI_neg, ← hm, hz2, dv, md, iI_eq, iI_lt, iI_le, hn, if_pos k0, if_neg k1, if_pos k2, chk]
        · rw [← ez, ← hZ]
          simp (disch := first | assumption | omega) only [fX12_register, g_12_3, p_12_0, k_12, lm_1, li_0, li_940, li_2, li_1, li_4, li_20, ob2, iI_mul, iI_sub, Option.bind_some, iI_add, iI_neg, tk, ← hZ, z3, hz2, dv, md, iI_eq, if_neg k3, r_isIn, bI_i0, ite_n, if_pos k4, hn, c46]
  · refine ⟨iI (-1), sR (sF X 11 0 1 0) 50 0 (XR X 50 0), _, ?_, ?_, inv0 rgp rga rgb⟩
    · rw [e50]
      simp (disch := first | assumption | omega) only [fX11_register, fX11_takeTape, fX5_fewest, g_11_17, k_11, k_5, ob2, g_11_1, p_11_1, li_0, lm_1, li_2, li_1, li_10, iI_mul, iI_sub, Option.bind_some, iI_add, iI_neg, ← hm, hz2, dv, md, iI_eq, if_neg c1, iI_neg]
    · have n1 : m - m / 2 * 2 = 1 := by omega
      rw [← ez]
      simp (disch := first | assumption | omega) only [fX12_register, g_12_3, p_12_0, k_12, lm_1, li_0, li_940, li_2, li_1, li_4, li_20, ob2, iI_mul, iI_sub, Option.bind_some, iI_add, iI_neg, tk, x3, hz2, dv, md, iI_eq, if_pos n1, iI_neg]
