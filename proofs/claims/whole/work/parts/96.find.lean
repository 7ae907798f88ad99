/-! NAMES LOOKED UP: here and there -/
def NmS (X : XS) (j : Nat) (s : Int) : Prop := (0 ≤ XF X 3 j 3 ∧ XF X 3 j 3 ≤ 30) ∧ XR X 25 j s ≤ 8 ∧ ∀ i, 0 ≤ i → i < XF X 3 j 3 → XR X 23 j i = s → 0 ≤ XR X 24 j i ∧ XR X 24 j i < XR X 25 j s
theorem e_find {f0 : Nat} {Y : YS} {X : XS} {j : Nat} (g : SeO Y j) (W : WF X) (hn : 0 ≤ XF X 3 j 3 ∧ XF X 3 j 3 ≤ 30) {w : Int64} {s : Int} (hs : Rg s) (hf : 200 ≤ f0) : ∃ v, fX3_find f0 (Ad Y 3 j) w (iI s) (hp Y X) = some (iI v, hp Y X) ∧ ((v = -1 ∧ ∀ i, 0 ≤ i → i < XF X 3 j 3 → ¬ (XJ X 22 j i = w ∧ XR X 23 j i = s)) ∨ ∃ i, 0 ≤ i ∧ i < XF X 3 j 3 ∧ XJ X 22 j i = w ∧ XR X 23 j i = s ∧ v = XR X 24 j i) := by
  have s1 := hs.1; have s2 := hs.2
  have z : fX3_find f0 (Ad Y 3 j) w (iI s) (hp Y X) = bX3_find_3 f0 f0 (Ad Y 3 j) w (iI s) (iI 0) (hp Y X) := rfl
  rw [z]
  refine lp (fun f (i : Int) => bX3_find_3 f0 f (Ad Y 3 j) w (iI s) (iI i) (hp Y X)) (fun i => (0 ≤ i ∧ i ≤ XF X 3 j 3) ∧ ∀ k, 0 ≤ k → k < i → ¬ (XJ X 22 j k = w ∧ XR X 23 j k = s)) (fun i => (30 - i).toNat) (fun r => ∃ v, r = some (iI v, hp Y X) ∧ ((v = -1 ∧ ∀ i, 0 ≤ i → i < XF X 3 j 3 → ¬ (XJ X 22 j i = w ∧ XR X 23 j i = s)) ∨ ∃ i, 0 ≤ i ∧ i < XF X 3 j 3 ∧ XJ X 22 j i = w ∧ XR X 23 j i = s ∧ v = XR X 24 j i)) ?_ f0 0 ⟨⟨by omega, by omega⟩, fun k k0 k1 => by omega⟩ (by show (30 - (0 : Int)).toNat < f0; omega)
  rintro f i ⟨⟨i0, i1⟩, hI⟩
  by_cases c : XF X 3 j 3 ≤ i
  · left
    refine ⟨-1, ?_, .inl ⟨rfl, fun k k0 k1 => hI k k0 (by omega)⟩⟩
    simp (disch := first | assumption | omega | exact W_fl W _ _ _ | exact W_fh W _ _ _ | exact W_rl W _ _ _ | exact W_rh W _ _ _) only [bX3_find_3, g_3_3, g_3_0, g_3_1, g_3_2, l_22, l_23, l_24, lm_1, li_0, li_1, iI_add, Option.bind_some, iI_neg, iI_le, if_pos c, iI_neg]
  · by_cases e : XJ X 22 j i = w
    · by_cases e2 : XR X 23 j i = s
      · left
        refine ⟨XR X 24 j i, ?_, .inr ⟨i, i0, by omega, e, e2, rfl⟩⟩
        simp (disch := first | assumption | omega | exact W_fl W _ _ _ | exact W_fh W _ _ _ | exact W_rl W _ _ _ | exact W_rh W _ _ _) only [bX3_find_3, g_3_3, g_3_0, g_3_1, g_3_2, l_22, l_23, l_24, lm_1, li_0, li_1, iI_add, Option.bind_some, iI_neg, iI_le, if_neg c, lg_eq, if_pos e, iI_eq, if_pos e2]
      · right
        refine ⟨i + 1, ?_, ⟨⟨by omega, by omega⟩, fun k k0 k1 => ?_⟩, by show (30 - (i + 1)).toNat < (30 - i).toNat; omega⟩
        · simp (disch := first | assumption | omega | exact W_fl W _ _ _ | exact W_fh W _ _ _ | exact W_rl W _ _ _ | exact W_rh W _ _ _) only [bX3_find_3, bX3_find_43, g_3_3, g_3_0, g_3_1, g_3_2, l_22, l_23, l_24, lm_1, li_0, li_1, iI_add, Option.bind_some, iI_neg, iI_le, if_neg c, lg_eq, if_pos e, iI_eq, if_neg e2]
        · by_cases q : k = i
          · rw [q]; exact fun z => e2 z.2
          · exact hI k k0 (by omega)
    · right
      refine ⟨i + 1, ?_, ⟨⟨by omega, by omega⟩, fun k k0 k1 => ?_⟩, by show (30 - (i + 1)).toNat < (30 - i).toNat; omega⟩
      · simp (disch := first | assumption | omega | exact W_fl W _ _ _ | exact W_fh W _ _ _ | exact W_rl W _ _ _ | exact W_rh W _ _ _) only [bX3_find_3, bX3_find_43, g_3_3, g_3_0, g_3_1, g_3_2, l_22, l_23, l_24, lm_1, li_0, li_1, iI_add, Option.bind_some, iI_neg, iI_le, if_neg c, lg_eq, if_neg e]
      · by_cases q : k = i
        · rw [q]; exact fun z => e z.1
        · exact hI k k0 (by omega)
theorem r_find {f0 : Nat} {Y : YS} {Z : XS} (g : GY Y) {b m : Int} (b0 : 0 ≤ b) (m0 : 0 ≤ m) (bm : b + m ≤ 60) (hf : 200 ≤ f0) : ∃ v, fX12_find f0 (Ad Y 12 0) (iI b) (iI m) (hp Y Z) = some (iI v, hp Y Z) ∧ ((v = -1 ∧ ∀ k, 0 ≤ k → k < m → XJ Z 64 0 (b + k) ≠ XJ Z 12 0 17) ∨ (0 ≤ v ∧ v < m ∧ XJ Z 64 0 (b + v) = XJ Z 12 0 17)) := by
  have z : fX12_find f0 (Ad Y 12 0) (iI b) (iI m) (hp Y Z) = bX12_find_2 f0 f0 (Ad Y 12 0) (iI b) (iI m) (iI 0) (hp Y Z) := rfl
  rw [z]
  refine lp (fun f (i : Int) => bX12_find_2 f0 f (Ad Y 12 0) (iI b) (iI m) (iI i) (hp Y Z)) (fun i => (0 ≤ i ∧ i ≤ m) ∧ ∀ k, 0 ≤ k → k < i → XJ Z 64 0 (b + k) ≠ XJ Z 12 0 17) (fun i => (m - i).toNat) (fun r => ∃ v, r = some (iI v, hp Y Z) ∧ ((v = -1 ∧ ∀ k, 0 ≤ k → k < m → XJ Z 64 0 (b + k) ≠ XJ Z 12 0 17) ∨ (0 ≤ v ∧ v < m ∧ XJ Z 64 0 (b + v) = XJ Z 12 0 17))) ?_ f0 0 ⟨⟨by omega, by omega⟩, fun k k0 k1 => by omega⟩ (by show (m - (0 : Int)).toNat < f0; omega)
  rintro f i ⟨⟨i0, i1⟩, hI⟩
  by_cases c : m ≤ i
  · left
    refine ⟨-1, ?_, .inl ⟨rfl, fun k k0 k1 => hI k k0 (by omega)⟩⟩
    simp (disch := first | assumption | omega) only [bX12_find_2, g_12_9, g_12_17, l_64, lm_1, li_0, li_1, iI_add, Option.bind_some, iI_neg, iI_le, if_pos c, iI_neg]
  · by_cases e : XJ Z 64 0 (b + i) = XJ Z 12 0 17
    · left
      refine ⟨i, ?_, .inr ⟨i0, by omega, e⟩⟩
      simp (disch := first | assumption | omega) only [bX12_find_2, g_12_9, g_12_17, l_64, lm_1, li_0, li_1, iI_add, Option.bind_some, iI_neg, iI_le, if_neg c, lg_eq, if_pos e]
    · right
      refine ⟨i + 1, ?_, ⟨⟨by omega, by omega⟩, fun k k0 k1 => ?_⟩, by show (m - (i + 1)).toNat < (m - i).toNat; omega⟩
      · simp (disch := first | assumption | omega) only [bX12_find_2, g_12_9, g_12_17, l_64, lm_1, li_0, li_1, iI_add, Option.bind_some, iI_neg, iI_le, if_neg c, lg_eq, if_neg e]
      · by_cases q : k = i
        · rw [q]; exact e
        · exact hI k k0 (by omega)
theorem nam_find {w : Int → Int64} {so nu : Int → Int} {n : Int} {S : Int → Int} {nm : Int → Int64} (h : NamI w so nu n S nm) {x y : Int64} (hw : WR x y) {s v v' : Int} (hs : isN s) (hc : (v = -1 ∧ ∀ i, 0 ≤ i → i < n → ¬ (w i = x ∧ so i = s)) ∨ ∃ i, 0 ≤ i ∧ i < n ∧ w i = x ∧ so i = s ∧ v = nu i) (hr : (v' = -1 ∧ ∀ k, 0 ≤ k → k < ncS S s → nm (nbS s + k) ≠ y) ∨ (0 ≤ v' ∧ v' < ncS S s ∧ nm (nbS s + v') = y)) : v' = v := by
  obtain ⟨h1, h2, h3, h4⟩ := h
  have back : ∀ k, 0 ≤ k → k < ncS S s → nm (nbS s + k) = y → ∃ i, 0 ≤ i ∧ i < n ∧ so i = s ∧ nu i = k ∧ w i = x := fun k k0 k1 k2 => by
    obtain ⟨i, i0, i1, i2, i3⟩ := h3 s k hs k0 k1
    have q := (h2 i i0 i1).2.2
    rw [i2, i3] at q
    exact ⟨i, i0, i1, i2, i3, (WR_eq q hw).mpr k2⟩
  rcases hc with ⟨c1, c2⟩ | ⟨i, i0, i1, i2, i3, i4⟩
  · rcases hr with ⟨r1, r2⟩ | ⟨r0, r1, r2⟩
    · omega
    · obtain ⟨i, i0, i1, i2, i3, i4⟩ := back v' r0 r1 r2
      exact absurd ⟨i4, i2⟩ (c2 i i0 i1)
  · have q := h2 i i0 i1
    rw [i3, ← i4] at q
    have qy : nm (nbS s + v) = y := (WR_eq q.2.2 hw).mp i2
    rcases hr with ⟨r1, r2⟩ | ⟨r0, r1, r2⟩
    · exact absurd qy (r2 v q.2.1.1 q.2.1.2)
    · obtain ⟨k, k0, k1, k2, k3, k4⟩ := back v' r0 r1 r2
      have : i = k := h4 i k i0 i1 k0 k1 (i2.trans k4.symm)
      rw [i4, this, k3]
theorem e_look {f0 : Nat} {Y : YS} {X : XS} {j : Nat} (g : SeO Y j) (W : WF X) (c : TokC X) {s : Int} (n : NmS X j s) (hs : isN s) (hf : 200 ≤ f0) : ∃ v X', fX4_look f0 (Ad Y 4 0) (Ad Y 3 j) (iI s) (hp Y X) = some (iI v, hp Y X') ∧ ((v = -1 ∧ ∃ k, X' = rfC X k ∧ 1 ≤ k ∧ k ≤ 4 ∧ (XF X 4 0 5 = 1 ∧ XF X 4 0 8 = -1 → k = 3) ∧ (¬ (XF X 4 0 5 = 1 ∧ XF X 4 0 8 = -1) → k = 1)) ∨ (0 ≤ v ∧ v < XR X 25 j s ∧ X' = X ∧ XF X 4 0 5 = 1 ∧ XF X 4 0 8 = -1)) ∧ (XF X 4 0 5 = 1 ∧ XF X 4 0 8 = -1 → (v = -1 ∧ ∀ i, 0 ≤ i → i < XF X 3 j 3 → ¬ (XJ X 22 j i = XJ X 4 0 7 ∧ XR X 23 j i = s)) ∨ ∃ i, 0 ≤ i ∧ i < XF X 3 j 3 ∧ XJ X 22 j i = XJ X 4 0 7 ∧ XR X 23 j i = s ∧ v = XR X 24 j i) := by
  have gg := g.1
  by_cases q : XF X 4 0 5 = 1 ∧ XF X 4 0 8 = -1
  · obtain ⟨v, e, h⟩ := e_find (f0 := f0) g W n.1 (w := XJ X 4 0 7) (s := s) ⟨by omega, by omega⟩ hf
    by_cases v1 : v = -1
    · refine ⟨-1, rfC X 3, ?_, .inl ⟨rfl, 3, rfl, by omega, by omega, fun _ => rfl, fun z => absurd q z⟩, fun _ => by rw [v1] at h; exact h⟩
      have hv : -2147483648 ≤ v ∧ v < 2147483648 := by omega
      subst v1
      simp (disch := first | assumption | omega) only [fX4_look, bX4_look_36, g_4_7, k_4, k_3, lm_1, li_0, li_1, li_3, ob2, Option.bind_some, iI_add, iI_neg, e_isName gg W, bI_i0, ite_n, if_pos q, e, iI_neg, e_refuse gg]
      rw [if_pos trivial]
    · have hh : ∃ i, 0 ≤ i ∧ i < XF X 3 j 3 ∧ XJ X 22 j i = XJ X 4 0 7 ∧ XR X 23 j i = s ∧ v = XR X 24 j i := by
        rcases h with h | h
        · exact absurd h.1 v1
        · exact h
      obtain ⟨i, i0, i1, i2, i3, i4⟩ := hh
      have q2 := n.2.2 i i0 i1 i3
      rw [← i4] at q2
      have q8 := n.2.1
      refine ⟨v, X, ?_, .inr ⟨q2.1, q2.2, rfl, q⟩, fun _ => h⟩
      simp (disch := first | assumption | omega) only [fX4_look, bX4_look_36, g_4_7, k_4, k_3, lm_1, li_0, li_1, li_3, ob2, Option.bind_some, iI_add, iI_neg, e_isName gg W, bI_i0, ite_n, if_pos q, e, iI_neg, iI_eq, if_neg v1]
  · refine ⟨-1, rfC X 1, ?_, .inl ⟨rfl, 1, rfl, by omega, by omega, fun z => absurd z q, fun _ => rfl⟩, fun z => absurd z q⟩
    simp (disch := first | assumption | omega) only [fX4_look, g_4_7, k_4, k_3, lm_1, li_0, li_1, li_3, ob2, Option.bind_some, iI_add, iI_neg, e_isName gg W, bI_i0, ite_n, if_neg q, iI_neg, e_refuse gg]
theorem nb_rg {s : Int} (hs : isN s) : 0 ≤ nbS s ∧ nbS s ≤ 22 := by unfold nbS; (repeat' split) <;> omega
/-- the same in the reference, with the class's answer -/
theorem r_look {f0 : Nat} {Y : YS} {X Z : XS} {j : Nat} {S : Int → Int} {o : Int} (g : GY Y) (W : WF Z) (c : TokC X) (r : TokR X Z) (rs : RsC X) (rz : RsR Z) (hn : NamI (XJ X 22 j) (XR X 23 j) (XR X 24 j) (XF X 3 j 3) S (fun i => XJ Z 64 0 (o + i))) (o0 : 0 ≤ o) (o1 : o ≤ 30) {s v : Int} (hs : isN s) (nc : 0 ≤ ncS S s ∧ ncS S s ≤ 8) (hc : XF X 4 0 5 = 1 ∧ XF X 4 0 8 = -1 → (v = -1 ∧ ∀ i, 0 ≤ i → i < XF X 3 j 3 → ¬ (XJ X 22 j i = XJ X 4 0 7 ∧ XR X 23 j i = s)) ∨ ∃ i, 0 ≤ i ∧ i < XF X 3 j 3 ∧ XJ X 22 j i = XJ X 4 0 7 ∧ XR X 23 j i = s ∧ v = XR X 24 j i) {b : Int} (hb : b = o + nbS s) (hf : 200 ≤ f0) :
    (¬ (XF X 4 0 5 = 1 ∧ XF X 4 0 8 = -1) → fX12_looksAt f0 (Ad Y 12 0) (iI b) (iI (ncS S s)) (hp Y Z) = some (0, hp Y (rfR Z 1))) ∧
    (XF X 4 0 5 = 1 ∧ XF X 4 0 8 = -1 → v = -1 → ∃ Z', fX12_looksAt f0 (Ad Y 12 0) (iI b) (iI (ncS S s)) (hp Y Z) = some (0, hp Y Z') ∧ WF Z' ∧ FrR Z Z' ∧ FaR (rfC X 3) Z') ∧
    (XF X 4 0 5 = 1 ∧ XF X 4 0 8 = -1 → v ≠ -1 → (0 ≤ v ∧ v < ncS S s) ∧ fX12_looksAt f0 (Ad Y 12 0) (iI b) (iI (ncS S s)) (hp Y Z) = some (1, hp Y (sF Z 12 0 18 v))) := by
  have nb := nb_rg hs
  refine ⟨fun q => ?_, fun q hv => ?_, fun q hv => ?_⟩
  · simp (disch := first | assumption | omega) only [fX12_looksAt, g_12_18, p_12_18, k_12, li_0, li_1, li_3, ob2, Option.bind_some, iI_add, r_isName g W c r rs rz hf, bI_i0, ite_n, if_neg q, r_bad g]
    exact zr_i0
  · have wr := (r.2.2.2.2.1 q.1).2
    obtain ⟨v', e, h⟩ := r_find (f0 := f0) (Z := Z) (b := b) (m := ncS S s) g (by omega) nc.1 (by omega) hf
    have h' : (v' = -1 ∧ ∀ k, 0 ≤ k → k < ncS S s → (fun i => XJ Z 64 0 (o + i)) (nbS s + k) ≠ XJ Z 12 0 17) ∨ (0 ≤ v' ∧ v' < ncS S s ∧ (fun i => XJ Z 64 0 (o + i)) (nbS s + v') = XJ Z 12 0 17) := by
      have ea : ∀ k : Int, o + (nbS s + k) = b + k := fun k => by omega
      simp only [ea]; exact h
    have vv := nam_find hn wr hs (hc q) h'
    rw [vv, hv] at e
    have f18 : XF (sF Z 12 0 18 (-1)) 12 0 18 = -1 := rfl
    have n0 : ¬ (0 : Int) ≤ -1 := by omega
    obtain ⟨Z', hZ'⟩ : ∃ Z', Z' = rfR (sF Z 12 0 18 (-1)) 3 := ⟨_, rfl⟩
    have c3 := c.2.2.1; have b3 := c.1.2; have r2 := r.2.1
    refine ⟨Z', ?_, ?_, ?_, ?_⟩
    · simp (disch := first | assumption | omega) only [fX12_looksAt, g_12_18, p_12_18, k_12, li_0, li_1, li_3, ob2, Option.bind_some, iI_add, r_isName g W c r rs rz hf, bI_i0, ite_n, if_pos q, e, f18, iI_le, if_neg n0, r_bad g, hZ']
      rw [if_pos trivial]; exact zr_i0
    · rw [hZ']; exact W_F (W_F (W_F W (by decide) (by decide)) (by decide) (by decide)) (by show -2147483648 ≤ XF Z 12 0 12; omega) (by show XF Z 12 0 12 < 2147483648; omega)
    · rw [hZ']; exact FrR_F (FrR_F (FrR_F FrR_refl (by decide)) (by decide)) (by decide)
    · rw [hZ']; exact ⟨rfl, r2⟩
  · have wr := (r.2.2.2.2.1 q.1).2
    obtain ⟨v', e, h⟩ := r_find (f0 := f0) (Z := Z) (b := b) (m := ncS S s) g (by omega) nc.1 (by omega) hf
    have h' : (v' = -1 ∧ ∀ k, 0 ≤ k → k < ncS S s → (fun i => XJ Z 64 0 (o + i)) (nbS s + k) ≠ XJ Z 12 0 17) ∨ (0 ≤ v' ∧ v' < ncS S s ∧ (fun i => XJ Z 64 0 (o + i)) (nbS s + v') = XJ Z 12 0 17) := by
      have ea : ∀ k : Int, o + (nbS s + k) = b + k := fun k => by omega
      simp only [ea]; exact h
    have vv := nam_find hn wr hs (hc q) h'
    rw [vv] at e h
    have v0 : 0 ≤ v ∧ v < ncS S s := by
      rcases h with h | h
      · exact absurd h.1 hv
      · exact ⟨h.1, h.2.1⟩
    have v1 := v0.1
    refine ⟨v0, ?_⟩
    have f18 : XF (sF Z 12 0 18 v) 12 0 18 = v := rfl
    simp (disch := first | assumption | omega) only [fX12_looksAt, bX12_looksAt_38, g_12_18, p_12_18, k_12, li_0, li_1, li_3, ob2, Option.bind_some, iI_add, r_isName g W c r rs rz hf, bI_i0, ite_n, if_pos q, e, f18, iI_le, if_pos v1]
    exact zr_i1
