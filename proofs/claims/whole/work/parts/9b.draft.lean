/-! THE DRAFT OF A SEA: here and there -/
def DC (X : XS) : Prop :=
  ((0 ≤ XR X 25 1 0 ∧ XR X 25 1 0 ≤ 8) ∧ (0 ≤ XR X 25 1 1 ∧ XR X 25 1 1 ≤ 16) ∧ (0 ≤ XR X 25 1 2 ∧ XR X 25 1 2 ≤ 20) ∧ (0 ≤ XR X 25 1 3 ∧ XR X 25 1 3 ≤ 8) ∧ (0 ≤ XR X 25 1 4 ∧ XR X 25 1 4 ≤ 6) ∧ (0 ≤ XR X 25 1 5 ∧ XR X 25 1 5 ≤ 8) ∧ (0 ≤ XR X 25 1 6 ∧ XR X 25 1 6 ≤ 16)) ∧
  (XF X 3 1 3 = XR X 25 1 0 + XR X 25 1 3 + XR X 25 1 4 + XR X 25 1 5 ∧ ∀ i, 0 ≤ i → i < XF X 3 1 3 → isN (XR X 23 1 i) ∧ 0 ≤ XR X 24 1 i ∧ XR X 24 1 i < XR X 25 1 (XR X 23 1 i)) ∧
  (∀ i, 0 ≤ i → i < 64 → (0 ≤ XR X 26 1 i ∧ XR X 26 1 i ≤ 20) ∧ (0 ≤ XR X 27 1 i ∧ XR X 27 1 i ≤ 40) ∧ (0 ≤ XR X 28 1 i ∧ XR X 28 1 i ≤ 250) ∧ (0 ≤ XR X 29 1 i ∧ XR X 29 1 i ≤ 250) ∧ (0 ≤ XR X 30 1 i ∧ XR X 30 1 i ≤ 1)) ∧
  (∀ i, 0 ≤ i → i < 8 → (0 ≤ XR X 31 1 i ∧ XR X 31 1 i < 64) ∧ (XR X 25 1 5 ≤ i → XR X 31 1 i = 0)) ∧
  (0 ≤ XF X 6 1 2 ∧ XF X 6 1 2 ≤ 12) ∧ (XF X 7 0 2 = 0 ∨ XF X 7 0 2 = 1)
def CnR (X : XS) (H : Int → Int) : Prop := XR X 25 1 0 = H 0 ∧ XR X 25 1 3 = H 1 ∧ XR X 25 1 4 = H 2 ∧ XR X 25 1 5 = H 3 ∧ XR X 25 1 1 = H 4 ∧ XR X 25 1 2 = H 5 ∧ XF X 6 1 2 = H 6 ∧ XR X 25 1 6 = H 7
def TbR (X : XS) (H : Int → Int) : Prop :=
  (∀ i, 0 ≤ i → i < 64 → XR X 26 1 i = H (8 + i) ∧ XR X 27 1 i = H (72 + i) ∧ XR X 28 1 i = H (136 + i) ∧ XR X 29 1 i = H (200 + i)) ∧
  (∀ i, 0 ≤ i → i < 8 → (0 ≤ H (264 + i) ∧ H (264 + i) < 64) ∧ XR X 31 1 i = H (272 + i)) ∧
  (∀ s t, 0 ≤ s → s < 8 → 0 ≤ t → t < 8 → XR X 30 1 (s * 8 + t) = if bitI (H (264 + s)) t = true then 1 else 0) ∧
  (∀ i, 0 ≤ i → i < H 7 → XR X 32 1 i = 100 * H (280 + i) + H (296 + i) ∧ (0 ≤ H (280 + i) ∧ H (280 + i) < 8) ∧ 0 ≤ H (296 + i) ∧ H (296 + i) ≤ 99)
def DR (X Z : XS) : Prop := CnR X (XR Z 62 0) ∧ TbR X (XR Z 62 0) ∧ ZeS (XR Z 62 0) ∧ XF Z 12 0 20 = XF X 7 0 2
abbrev DN (X Z : XS) (S : Int → Int) : Prop := NamI (XJ X 22 1) (XR X 23 1) (XR X 24 1) (XF X 3 1 3) S (fun i => XJ Z 64 0 (30 + i))
def LC (X : XS) : Prop := WF X ∧ TokC X ∧ RsC X ∧ DC X ∧ XF X 4 0 10 = 0
def LR (X Z : XS) : Prop := WF Z ∧ TokR X Z ∧ RsR Z ∧ DR X Z ∧ DN X Z (XR Z 62 0) ∧ XF Z 12 0 15 = 0
/-- the class's draft as it is read -/
def DrS (X X' : XS) : Prop := XR X' 25 1 = XR X 25 1 ∧ XR X' 26 1 = XR X 26 1 ∧ XR X' 27 1 = XR X 27 1 ∧ XR X' 28 1 = XR X 28 1 ∧ XR X' 29 1 = XR X 29 1 ∧ XR X' 30 1 = XR X 30 1 ∧ XR X' 31 1 = XR X 31 1 ∧ XR X' 32 1 = XR X 32 1 ∧ XR X' 23 1 = XR X 23 1 ∧ XR X' 24 1 = XR X 24 1 ∧ XJ X' 22 1 = XJ X 22 1 ∧ XF X' 3 1 3 = XF X 3 1 3 ∧ XF X' 6 1 2 = XF X 6 1 2 ∧ XF X' 7 0 2 = XF X 7 0 2
theorem DrS_rd {X X' : XS} (r : RdF X X') : DrS X X' := ⟨by rw [r.2.1], by rw [r.2.1], by rw [r.2.1], by rw [r.2.1], by rw [r.2.1], by rw [r.2.1], by rw [r.2.1], by rw [r.2.1], by rw [r.2.1], by rw [r.2.1], r.2.2.1 22 1 (by omega), r.1 3 1 3 (by omega), r.1 6 1 2 (by omega), r.1 7 0 2 (by omega)⟩
theorem DC_s {X X' : XS} (s : DrS X X') (h : DC X) : DC X' := by
  obtain ⟨a1, a2, a3, a4, a5, a6, a7, a8, a9, a10, a11, a12, a13, a14⟩ := s
  unfold DC at *
  rw [a1, a2, a3, a4, a5, a6, a7, a9, a10, a12, a13, a14]; exact h
theorem DR_s {X X' Z Z' : XS} (s : DrS X X') (z : XR Z' 62 0 = XR Z 62 0) (z20 : XF Z' 12 0 20 = XF Z 12 0 20) (h : DR X Z) : DR X' Z' := by
  obtain ⟨a1, a2, a3, a4, a5, a6, a7, a8, a9, a10, a11, a12, a13, a14⟩ := s
  unfold DR CnR TbR at *
  rw [a1, a2, a3, a4, a5, a6, a7, a8, a13, a14, z, z20]; exact h
theorem DN_s {X X' Z Z' : XS} {S : Int → Int} (s : DrS X X') (z : XJ Z' 64 0 = XJ Z 64 0) (h : DN X Z S) : DN X' Z' S := by
  obtain ⟨a1, a2, a3, a4, a5, a6, a7, a8, a9, a10, a11, a12, a13, a14⟩ := s
  unfold DN at *
  rw [a9, a10, a11, a12, z]; exact h
theorem Rs_rd {X X' : XS} (r : RdF X X') (h : RsC X) : RsC X' := fun i hi => by rw [r.2.2.1 21 0 (by omega)]; exact h i hi
theorem RsR_nx {Z Z' : XS} (r : NxF Z Z') (h : RsR Z) : RsR Z' := fun i hi => by rw [r.2.2.1 65 0 (by omega)]; exact h i hi
theorem LC_rd {X X' : XS} (h : LC X) (r : RdF X X') (W : WF X') (t : TokC X') : LC X' := ⟨W, t, Rs_rd r h.2.2.1, DC_s (DrS_rd r) h.2.2.2.1, by rw [r.1 4 0 10 (by omega)]; exact h.2.2.2.2⟩
theorem LR_nx {X X' Z Z' : XS} (h : LR X Z) (r : RdF X X') (z : NxF Z Z') (W : WF Z') (t : TokR X' Z') : LR X' Z' := ⟨W, t, RsR_nx z h.2.2.1, DR_s (DrS_rd r) (by rw [z.2.1]) (z.1 12 0 20 (by omega)) h.2.2.2.1, (by rw [z.2.1]; exact DN_s (DrS_rd r) (z.2.2.1 64 0 (by omega)) h.2.2.2.2.1), by rw [z.1 12 0 15 (by omega)]; exact h.2.2.2.2.2⟩
theorem LR_nc {X Z : XS} (c : LC X) (h : LR X Z) : ∀ s, isN s → 0 ≤ ncS (XR Z 62 0) s ∧ ncS (XR Z 62 0) s ≤ 8 := fun s hs => by
  have d := c.2.2.2.1.1; have e := h.2.2.2.1.1
  unfold CnR at e
  rcases hs with q | q | q | q <;> subst q
  · show 0 ≤ XR Z 62 0 0 ∧ XR Z 62 0 0 ≤ 8; omega
  · show 0 ≤ XR Z 62 0 1 ∧ XR Z 62 0 1 ≤ 8; omega
  · show 0 ≤ XR Z 62 0 2 ∧ XR Z 62 0 2 ≤ 8; omega
  · show 0 ≤ XR Z 62 0 3 ∧ XR Z 62 0 3 ≤ 8; omega
def Sy (X : XS) : Prop := ∀ p q, 0 ≤ p → p < 8 → 0 ≤ q → q < 8 → XR X 26 1 (p * 8 + q) = XR X 26 1 (q * 8 + p)
theorem Sy_e {X X' : XS} (e : XR X' 26 1 = XR X 26 1) (h : Sy X) : Sy X' := by unfold Sy at *; rw [e]; exact h
/-- what a line comes to, but for its last sign -/
def LineO (f0 : Nat) (Y : YS) (X : XS) : Prop := ∃ X',
  (fX7_readLine f0 (Ad Y 7 0) (hp Y X) = some (0, hp Y X') ∧ WF X' ∧ FrC X X' ∧ FaC X' ∧ ∀ Z, LR X Z → ∃ Z', fX12_line f0 (Ad Y 12 0) (hp Y Z) = some (0, hp Y Z') ∧ WF Z' ∧ FrR Z Z' ∧ FaR X' Z') ∨
  (fX7_readLine f0 (Ad Y 7 0) (hp Y X) = bX7_readLine_117 f0 (Ad Y 7 0) (hp Y X') ∧ LC X' ∧ FrC X X' ∧ (Sy X → Sy X') ∧ XF X 4 0 6 < XF X' 4 0 6 ∧ ∀ Z, LR X Z → ∃ Z', fX12_line f0 (Ad Y 12 0) (hp Y Z) = some (1, hp Y Z') ∧ LR X' Z' ∧ FrR Z Z')
def capN (s : Int) : Int := if s = 4 then 6 else 8
theorem nb_inj {s s' k m : Int} (hs : isN s) (hs' : isN s') (k0 : 0 ≤ k) (k1 : k < capN s') (m0 : 0 ≤ m) (m1 : m < capN s) (e : nbS s' + k = nbS s + m) : s' = s ∧ k = m := by
  unfold nbS capN at *
  rcases hs with q | q | q | q <;> rcases hs' with p | p | p | p <;> subst q <;> subst p <;> simp at * <;> omega
theorem ZeS_cnt {S : Int → Int} (h : ZeS S) {c v : Int} (c0 : 0 ≤ c) (c1 : c ≤ 7) (hv : S c ≤ v) : ZeS (upi S c v) := by
  have o : ∀ j, 8 ≤ j → upi S c v j = S j := fun j hj => by rw [upi_at, if_neg (by omega)]
  have m : ∀ j, S j ≤ upi S c v j := fun j => by
    rw [upi_at]; split
    · rename_i q; rw [q]; exact hv
    · exact Int.le_refl _
  have m0 := m 0; have m1 := m 1; have m2 := m 2
  refine ⟨fun a b a0 a1 b0 b1 => ?_, fun s s0 s1 r hr => ?_⟩
  · obtain ⟨h1, h2, h3, h4⟩ := h.1 a b a0 a1 b0 b1
    rw [o (8 + (8 * a + b)) (by omega), o (72 + (8 * a + b)) (by omega), o (136 + (8 * a + b)) (by omega), o (8 + (8 * b + a)) (by omega)]
    exact ⟨fun q => h1 (by omega), fun q => h2 (by omega), h3, h4⟩
  · rw [o (264 + s) (by omega)] at hr
    have := h.2 s s0 s1 r hr
    omega
theorem FrC_ad {X X' : XS} (h : FrC X X') {w : Int64} {s m : Int} : FrC X (adC X' w s m) := FrC_F (FrC_R (FrC_R (FrC_J h (by decide)) (by decide)) (by decide)) (by decide)
/-- a name more, counted -/
def adR (X : XS) (w : Int64) (s : Int) : XS := sR (adC X w s (XR X 25 1 s)) 25 1 (upi (XR X 25 1) s (XR X 25 1 s + 1))
theorem DC_ad {X X3 : XS} {s : Int} {w : Int64} (h : DC X) (hs : isN s) (hm : XR X 25 1 s < capN s) (e25 : XR X3 25 1 = upi (XR X 25 1) s (XR X 25 1 s + 1)) (e23 : XR X3 23 1 = upi (XR X 23 1) (XF X 3 1 3) s) (e24 : XR X3 24 1 = upi (XR X 24 1) (XF X 3 1 3) (XR X 25 1 s)) (e3 : XF X3 3 1 3 = XF X 3 1 3 + 1) (et : ∀ t, 26 ≤ t → t ≤ 30 → XR X3 t 1 = XR X t 1) (e31 : ∀ i, 0 ≤ i → i < 8 → (0 ≤ XR X3 31 1 i ∧ XR X3 31 1 i < 64) ∧ (XR X3 25 1 5 ≤ i → XR X3 31 1 i = 0)) (e6 : XF X3 6 1 2 = XF X 6 1 2) (e7 : XF X3 7 0 2 = XF X 7 0 2) : DC X3 := by
  obtain ⟨h1, ⟨h2, h3⟩, h4, h5, h6, h7⟩ := h
  have ms : 0 ≤ XR X 25 1 s := by rcases hs with q | q | q | q <;> subst q <;> omega
  refine ⟨?_, ⟨?_, fun i i0 i1 => ?_⟩, ?_, e31, by rw [e6]; exact h6, by rw [e7]; exact h7⟩
  · rw [e25]
    unfold capN at hm
    simp only [upi_at]
    rcases hs with q | q | q | q <;> subst q <;> simp at hm ⊢ <;> omega
  · rw [e3, e25, h2]
    simp only [upi_at]
    rcases hs with q | q | q | q <;> subst q <;> simp <;> omega
  · rw [e3] at i1
    rw [e23, e24, e25, upi_at, upi_at]
    by_cases q : i = XF X 3 1 3
    · rw [if_pos q, if_pos q, upi_eq]
      exact ⟨hs, ms, by omega⟩
    · rw [if_neg q, if_neg q]
      obtain ⟨p1, p2, p3⟩ := h3 i i0 (by omega)
      refine ⟨p1, p2, ?_⟩
      rw [upi_at]
      split
      · rename_i z; rw [z] at p3; omega
      · exact p3
  · rw [et 26 (by decide) (by decide), et 27 (by decide) (by decide), et 28 (by decide) (by decide), et 29 (by decide) (by decide), et 30 (by decide) (by decide)]
    exact h4
