/-! WHAT HOLDS AFTER A TEXT THAT WAS NOT TAKEN -/
theorem NamI_nm {w : Int → Int64} {so nu : Int → Int} {n : Int} {S : Int → Int} {nm nm' : Int → Int64} (b : ∀ s, isN s → nbS s + ncS S s ≤ 30) (e : ∀ i, 0 ≤ i → i < 30 → nm' i = nm i) (h : NamI w so nu n S nm) : NamI w so nu n S nm' := by
  obtain ⟨h1, h2, h3, h4⟩ := h
  refine ⟨h1, fun i i0 i1 => ?_, h3, h4⟩
  obtain ⟨a, b', c⟩ := h2 i i0 i1
  have nb := nb_rg a
  have bb := b _ a
  exact ⟨a, b', by rw [e _ (by omega) (by omega)]; exact c⟩
theorem SeaI_b {X : XS} {j : Nat} {S : Int → Int} (h : SeaI X j S) : ∀ s, isN s → nbS s + ncS S s ≤ 30 := fun s hs => by
  obtain ⟨hC, hR, _⟩ := h
  have c0 := hC.1; have c3 := hC.2.1; have c4 := hC.2.2.1; have c5 := hC.2.2.2.1
  have e := hR.1
  rcases hs with q | q | q | q <;> subst q
  · show 0 + S 0 ≤ 30; omega
  · show 8 + S 1 ≤ 30; omega
  · show 16 + S 2 ≤ 30; omega
  · show 22 + S 3 ≤ 30; omega
/-- all that a text may touch: of both -/
def TxF (X X' : XS) : Prop :=
  (∀ s k f, ¬ (s = 4 ∨ s = 7 ∨ s = 9 ∨ (k = 1 ∧ (s = 3 ∨ s = 6 ∨ s = 8)) ∨ (s = 2 ∧ f = 5) ∨ (s = 11 ∧ (f = 1 ∨ f = 3)) ∨ (s = 12 ∧ (f = 0 ∨ 2 ≤ f ∧ f ≤ 5 ∨ 11 ≤ f ∧ f ≤ 16 ∨ 18 ≤ f ∧ f ≤ 20 ∨ f = 36 ∨ 40 ≤ f ∧ f ≤ 44))) → XF X' s k f = XF X s k f) ∧
  (∀ s k, ¬ ((k = 1 ∧ 23 ≤ s ∧ s ≤ 38) ∨ s = 40 ∨ s = 41 ∨ s = 42 ∨ s = 62 ∨ s = 63 ∨ s = 77) → XR X' s k = XR X s k) ∧
  (∀ s k, ¬ (s = 4 ∨ (s = 22 ∧ k = 1) ∨ s = 12 ∨ s = 64) → XJ X' s k = XJ X s k) ∧ (∀ i, i < 30 → XJ X' 64 0 i = XJ X 64 0 i) ∧ XP X' = XP X ∧ XM X' = XM X
theorem TxF_refl {X : XS} : TxF X X := ⟨fun _ _ _ _ => rfl, fun _ _ _ => rfl, fun _ _ _ => rfl, fun _ _ => rfl, rfl, rfl⟩
theorem TxF_trans {X X1 X2 : XS} (h : TxF X X1) (h' : TxF X1 X2) : TxF X X2 := ⟨fun s k f q => (h'.1 s k f q).trans (h.1 s k f q), fun s k q => (h'.2.1 s k q).trans (h.2.1 s k q), fun s k q => (h'.2.2.1 s k q).trans (h.2.2.1 s k q), fun i q => (h'.2.2.2.1 i q).trans (h.2.2.2.1 i q), h'.2.2.2.2.1.trans h.2.2.2.2.1, h'.2.2.2.2.2.trans h.2.2.2.2.2⟩
theorem TxF_C {X X' : XS} (h : FrC X X') : TxF X X' := ⟨fun s k f q => h.1 s k f (by omega), fun s k q => h.2.1 s k (by omega), fun s k q => h.2.2.1 s k (by omega), fun i _ => by rw [h.2.2.1 64 0 (by omega)], h.2.2.2⟩
theorem TxF_R {X X' : XS} (h : FrR X X') : TxF X X' := ⟨fun s k f q => h.1 s k f (by omega), fun s k q => h.2.1 s k (by omega), fun s k q => h.2.2.1 s k (by omega), h.2.2.2⟩
theorem TxF_F {X X' : XS} (h : TxF X X') {s k f : Nat} {v : Int} (c : s = 4 ∨ s = 7 ∨ s = 9 ∨ (k = 1 ∧ (s = 3 ∨ s = 6 ∨ s = 8)) ∨ (s = 2 ∧ f = 5) ∨ (s = 11 ∧ (f = 1 ∨ f = 3)) ∨ (s = 12 ∧ (f = 0 ∨ 2 ≤ f ∧ f ≤ 5 ∨ 11 ≤ f ∧ f ≤ 16 ∨ 18 ≤ f ∧ f ≤ 20 ∨ f = 36 ∨ 40 ≤ f ∧ f ≤ 44))) : TxF X (sF X' s k f v) := by
  refine ⟨fun s' k' f' q => ?_, h.2.1, h.2.2.1, h.2.2.2⟩
  rw [XF_sF, if_neg (fun z => q (by rw [z.1, z.2.1, z.2.2]; exact c))]
  exact h.1 s' k' f' q
theorem TxF_Rr {X X' : XS} (h : TxF X X') {s k : Nat} {r : Int → Int} (c : (k = 1 ∧ 23 ≤ s ∧ s ≤ 38) ∨ s = 40 ∨ s = 41 ∨ s = 42 ∨ s = 62 ∨ s = 63 ∨ s = 77) : TxF X (sR X' s k r) := by
  refine ⟨h.1, fun s' k' q => ?_, h.2.2.1, h.2.2.2⟩
  rw [XR_sR, if_neg (fun z => q (by rw [z.1, z.2]; exact c))]
  exact h.2.1 s' k' q
theorem Inv_tx {Y : YS} {X X' : XS} (h : Inv Y X) (W' : WF X') (t : TxF X X') (h1 : XF X' 11 0 1 = 0 ∧ XF X' 12 0 2 = 0) (hf : XF X' 11 0 3 = XF X' 12 0 15) : Inv Y X' := by
  obtain ⟨gy, W, tp, re, fl, se, na, po, sh, sn, lo, i0, i1⟩ := h
  obtain ⟨tF, tR, tJ, t64, tP, tM⟩ := t
  have sea : ∀ j S, j ≠ 1 → SeaI X j S → SeaI X' j S := fun j S hj q => by
    unfold SeaI CSea SeaR SeaW at *
    rw [tR 25 j (by omega), tR 26 j (by omega), tR 27 j (by omega), tR 28 j (by omega), tR 29 j (by omega), tR 31 j (by omega), tR 32 j (by omega), tR 33 j (by omega), tR 34 j (by omega), tR 35 j (by omega), tF 6 j 2 (by omega)]
    exact q
  have shg : ∀ k, shG X' k = shG X k := fun k => by
    unfold shG
    rw [tR 43 k (by omega), tR 44 k (by omega), tR 45 k (by omega), tR 46 k (by omega)]
    have : XF X' 10 k = XF X 10 k := funext fun f => tF 10 k f (by omega)
    rw [this]
  have img : ∀ k, ImgI Y X k → ImgI Y X' k := fun k hk => by
    have e79 : kpS X' k = kpS X k := by unfold kpS; rw [tR 79 0 (by omega)]
    have e80 : kpN X' k = kpN X k := by unfold kpN; rw [tJ 80 0 (by omega)]
    refine ⟨by rw [tR 81 0 (by omega), tM]; exact hk.1, fun m => ?_⟩
    rw [tM] at m
    obtain ⟨a, b, c, d, e, f⟩ := hk.2 m
    rw [e79, e80, shg (k + 10)]
    refine ⟨a, sea (k + 2) _ (by omega) b, ?_, ?_, ?_, f⟩
    · unfold NamX at *; rw [tJ 22 (k + 2) (by omega), tR 23 (k + 2) (by omega), tR 24 (k + 2) (by omega), tF 3 (k + 2) 3 (by omega)]; exact c
    · unfold SntX at *; rw [tR 36 (k + 2) (by omega), tR 37 (k + 2) (by omega), tR 38 (k + 2) (by omega), tF 8 (k + 2) 3 (by omega)]; exact d
    · rw [tR 25 (k + 2) (by omega)]; exact e
  have s61 := tR 61 0 (by omega)
  refine ⟨gy, W', ⟨?_, ?_, ?_⟩, ?_, hf, ?_, ?_, ?_, ?_, ?_, ?_, img 0 i0, img 1 i1⟩
  · rw [tR 20 0 (by omega), tR 60 0 (by omega)]; exact tp.1
  · rw [h1.1]; decide
  · rw [h1.1, h1.2]
  · unfold ResI at *; rw [tJ 21 0 (by omega), tJ 65 0 (by omega)]; exact re
  · rw [s61]; exact sea 0 _ (by decide) se
  · rw [s61]
    have := NamI_nm (SeaI_b se) (nm' := XJ X' 64 0) (fun i _ i1 => t64 i i1) na
    unfold NamX at *; rw [tJ 22 0 (by omega), tR 23 0 (by omega), tR 24 0 (by omega), tF 3 0 3 (by omega)]; exact this
  · unfold PostW at *; rw [tR 66 0 (by omega), tR 67 0 (by omega), s61]; exact po
  · have k10 : ∀ k, XF X' 10 k 6 = XF X 10 k 6 := fun k => tF 10 k 6 (by omega)
    have cd : ∀ d, CD X' d = CD X d := fun d => by rw [CD_n, CD_n, tR 25 0 (by omega)]
    have rl : ∀ d S, RelS X' d S = RelS X d S := fun d S => by rw [Rel_q, Rel_q, tR 67 0 (by omega)]
    unfold ShpI at *
    rw [s61, tP, tF 11 0 14 (by omega), tF 12 0 29 (by omega), tR 71 0 (by omega)]
    simp only [shg, cd, rl, k10]
    exact sh
  · unfold SntX at *; rw [s61, tR 36 0 (by omega), tR 37 0 (by omega), tR 38 0 (by omega), tF 8 0 3 (by omega)]; exact sn
  · unfold LogI at *; rw [tF 2 0 6 (by omega), tF 2 0 7 (by omega), tF 2 0 8 (by omega), tF 2 0 9 (by omega), tF 2 0 10 (by omega), tF 12 0 38 (by omega), tR 76 0 (by omega)]; exact lo
/-- a text is opened: here and there -/
theorem j_open {f0 : Nat} {Y : YS} {X : XS} (g : GY Y) (W : WF X) (bt : byR (XR X 20 0)) {n m : Int} (n0 : 0 ≤ n) (n1 : n ≤ 940) (m0 : 0 ≤ m) (m1 : m ≤ 900) (hf : 2000 ≤ f0) : ∃ X', fX4_open f0 (Ad Y 4 0) (iI n) (iI m) (hp Y X) = some (hp Y X') ∧ WF X' ∧ TokC X' ∧ XF X' 4 0 10 = 0 ∧ XF X' 4 0 3 ≤ m ∧ ((∀ s k f, ¬ s = 4 → XF X' s k f = XF X s k f) ∧ XR X' = XR X ∧ (∀ s k, ¬ s = 4 → XJ X' s k = XJ X s k) ∧ XP X' = XP X ∧ XM X' = XM X) ∧ ∀ Z, WF Z → (∀ i, 0 ≤ i → i < 940 → XR X 20 0 i = XR Z 60 0 i) → XF Z 12 0 3 = n → XF Z 12 0 4 = 0 → XF Z 12 0 5 = m → ∃ Z', fX12_next f0 (Ad Y 12 0) (hp Y Z) = some (hp Y Z') ∧ NxF Z Z' ∧ WF Z' ∧ TokR X' Z' := by
  obtain ⟨X1, hX1⟩ : ∃ X1, X1 = sF (sF (sF (sF (sF X 4 0 2 n) 4 0 3 (if m < n then m else n)) 4 0 4 0) 4 0 10 0) 4 0 11 0 := ⟨_, rfl⟩
  have sm : 0 ≤ (if m < n then m else n) ∧ (if m < n then m else n) ≤ n ∧ (if m < n then m else n) ≤ m := by split <;> omega
  have W1 : WF X1 := by rw [hX1]; exact W_F (W_F (W_F (W_F (W_F W (by omega) (by omega)) (by omega) (by omega)) (by decide) (by decide)) (by decide) (by decide)) (by decide) (by decide)
  have b1 : TBC X1 := by rw [hX1]; exact ⟨bt, sm.1, sm.2.1, n1⟩
  have f2 : XF X1 4 0 2 = n := by rw [hX1]; rfl
  have f3 : XF X1 4 0 3 = if m < n then m else n := by rw [hX1]; rfl
  obtain ⟨X2, e2, r2, W2, t2, _, k2⟩ := j_step0 (f0 := f0) g W1 b1 (a := 0) (by rw [hX1]; rfl) (by decide) (by rw [f2]; exact n0) hf
  refine ⟨X2, ?_, W2, t2, by rw [r2.1 4 0 10 (by omega), hX1]; rfl, by rw [r2.1 4 0 3 (by omega), f3]; exact sm.2.2, ⟨fun s k f q => ?_, by rw [r2.2.1, hX1]; rfl, fun s k q => by rw [r2.2.2.1 s k (by omega), hX1]; rfl, by rw [r2.2.2.2.1, hX1]; rfl, by rw [r2.2.2.2.2, hX1]; rfl⟩, fun Z WZ tt h3 h4 h5 => k2 Z WZ ⟨by rw [hX1]; exact tt, by rw [h3, f2], ?_⟩ h4⟩
  · have y2 : ∀ v, XF (sF X 4 0 2 v) 4 0 2 = v := fun v => rfl
    have c : ¬ (940 : Int) < n := by omega
    have ln : aln 0 (hp Y X) (Ad Y 20 0) = some (iI 940) := n_20 g
    simp (disch := first | assumption | omega) only [fX4_open, g_4_0, g_4_2, p_4_2, p_4_3, p_4_4, p_4_10, p_4_11, k_4, n_20, li_0, Option.bind_some, iI_add, ln, iI_lt, if_neg c, y2, iI_ite, ← hX1, e2]
  · rw [r2.1 s k f (by omega), hX1, XF_sF, if_neg (by omega), XF_sF, if_neg (by omega), XF_sF, if_neg (by omega), XF_sF, if_neg (by omega), XF_sF, if_neg (by omega)]
  · rw [f2, f3, h5]
    by_cases c : m < n
    · rw [if_pos c]; exact .inr ⟨c, rfl⟩
    · rw [if_neg c]; exact .inl ⟨by omega, rfl⟩
