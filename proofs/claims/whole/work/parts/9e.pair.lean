/-! TWO THAT ARE TOLD TOGETHER: helps -/
theorem DC_nm {X : XS} (h : DC X) {s : Int} (hs : isN s) : NmS X 1 s := by
  obtain ⟨h1, ⟨h2, h3⟩, _⟩ := h
  refine ⟨⟨by omega, by omega⟩, ?_, fun i i0 i1 e => ?_⟩
  · rcases hs with q | q | q | q <;> subst q <;> omega
  · have := (h3 i i0 i1).2
    rw [e] at this; exact this
theorem LkZ_of {X Z : XS} (c : LC X) (h : LR X Z) : LkZ X Z 1 (XR Z 62 0) 30 := ⟨h.1, h.2.1, h.2.2.1, h.2.2.2.2.1, LR_nc c h, by decide, by decide⟩
theorem LR_18 {X Z : XS} (h : LR X Z) {v : Int} (hv : Rg v) : LR X (sF Z 12 0 18 v) := ⟨W_F h.1 hv.1 hv.2, h.2.1, h.2.2.1, h.2.2.2.1, h.2.2.2.2.1, h.2.2.2.2.2⟩
theorem LR_cn {X Z : XS} (h : LR X Z) {s : Int} (hs : isN s) : XR X 25 1 s = ncS (XR Z 62 0) s := by
  have e := h.2.2.2.1.1
  unfold CnR at e
  rcases hs with q | q | q | q <;> subst q
  · show _ = XR Z 62 0 0; omega
  · show _ = XR Z 62 0 1; omega
  · show _ = XR Z 62 0 2; omega
  · show _ = XR Z 62 0 3; omega
/-- a name that was told is passed -/
theorem j_tn {f0 : Nat} {Y : YS} {X : XS} (g : GY Y) (c : LC X) {s : Int} (hs : isN s) (hf : 2000 ≤ f0) : ∃ v X', (v = -1 ∧ fX4_look f0 (Ad Y 4 0) (Ad Y 3 1) (iI s) (hp Y X) = some (iI (-1), hp Y X') ∧ WF X' ∧ FrC X X' ∧ FaC X' ∧ ∀ Z, LR X Z → (∃ Z', fX12_takesName f0 (Ad Y 12 0) (iI (30 + nbS s)) (iI (ncS (XR Z 62 0) s)) (hp Y Z) = some (0, hp Y Z') ∧ WF Z' ∧ FrR Z Z' ∧ FaR X' Z') ∧ ∃ Z', fX12_looksAt f0 (Ad Y 12 0) (iI (30 + nbS s)) (iI (ncS (XR Z 62 0) s)) (hp Y Z) = some (0, hp Y Z') ∧ WF Z' ∧ FrR Z Z' ∧ FaR X' Z') ∨ ((0 ≤ v ∧ v < XR X 25 1 s) ∧ fX4_look f0 (Ad Y 4 0) (Ad Y 3 1) (iI s) (hp Y X) = some (iI v, hp Y X) ∧ XF X 4 0 5 = 1 ∧ fX4_step f0 (Ad Y 4 0) (hp Y X) = some (hp Y X') ∧ RdF X X' ∧ LC X' ∧ XF X 4 0 6 < XF X' 4 0 6 ∧ ∀ Z, LR X Z → (0 ≤ v ∧ v < ncS (XR Z 62 0) s) ∧ fX12_looksAt f0 (Ad Y 12 0) (iI (30 + nbS s)) (iI (ncS (XR Z 62 0) s)) (hp Y Z) = some (1, hp Y (sF Z 12 0 18 v)) ∧ ∃ Z', fX12_next f0 (Ad Y 12 0) (hp Y (sF Z 12 0 18 v)) = some (hp Y Z') ∧ fX12_takesName f0 (Ad Y 12 0) (iI (30 + nbS s)) (iI (ncS (XR Z 62 0) s)) (hp Y Z) = some (1, hp Y Z') ∧ NxF (sF Z 12 0 18 v) Z' ∧ LR X' Z' ∧ FrR Z Z' ∧ XF Z' 12 0 18 = v ∧ XR Z' 62 0 = XR Z 62 0) := by
  have W := c.1; have tc := c.2.1
  obtain ⟨v, X', e, h | h⟩ := j_look (f0 := f0) (SeO_1 g) W tc c.2.2.1 (DC_nm c.2.2.2.1 hs) hs (by omega)
  · obtain ⟨v1, W', F', fa, k⟩ := h
    refine ⟨v, X', .inl ⟨v1, by rw [← v1]; exact e, W', F', fa, fun Z hz => ?_⟩⟩
    obtain ⟨Z', z1, z2, z3, z4⟩ := k Z _ 30 (30 + nbS s) (LkZ_of c hz) rfl
    refine ⟨⟨Z', ?_, z2, z3, z4⟩, Z', z1, z2, z3, z4⟩
    simp (disch := first | assumption | omega) only [fX12_takesName, k_12, li_0, li_1, ob2, Option.bind_some, iI_add, z1]
    rfl
  · obtain ⟨v0, e1, q1, q2, k⟩ := h
    obtain ⟨X1, s1, r, W1, t1, lt, k1⟩ := j_step (f0 := f0) g W tc (by rw [q1]; decide) hf
    refine ⟨v, X1, .inr ⟨v0, by rw [e1] at e; exact e, q1, s1, r, LC_rd c r W1 t1, lt, fun Z hz => ?_⟩⟩
    obtain ⟨b0, z1⟩ := k Z _ 30 (30 + nbS s) (LkZ_of c hz) rfl
    have b8 := LR_nc c hz s hs
    have h18 := LR_18 hz (v := v) ⟨by omega, by omega⟩
    obtain ⟨Z', y1, y2, y3, y4⟩ := k1 _ h18.1 h18.2.1
    refine ⟨b0, z1, Z', y1, ?_, y2, LR_nx h18 r y2 y3 y4, FrR_trans (FrR_F FrR_refl (by decide)) (FrR_nx y2), y2.1 12 0 18 (by omega), by rw [y2.2.1]; rfl⟩
    have n1 : ¬ (1 : Int) = 0 := by decide
    simp (disch := first | assumption | omega) only [fX12_takesName, k_12, li_0, li_1, ob2, Option.bind_some, iI_add, z1, ob2_some, iI_eq, if_neg n1, y1]
    exact zr_i1
/-- ways go both ways -/
def mrr (r : Int → Int) (a b v p : Int) : Int → Int := if b * 8 + a < p then upi r (b * 8 + a) v else r
theorem e_mirror {f0 : Nat} {Y : YS} {X : XS} (g : GY Y) (W : WF X) {r : Int → Int} {a b v : Int} (hr : RgF r) (a0 : 0 ≤ a) (a8 : a < 8) (b0 : 0 ≤ b) (b8 : b < 8) (ne : a ≠ b) (v0 : 0 < v) (v9 : v ≤ 999) (hv : r (a * 8 + b) = v) (hz : r (b * 8 + a) = 0) (sy : ∀ p q, 0 ≤ p → p < 8 → 0 ≤ q → q < 8 → ¬ (p = a ∧ q = b) → ¬ (p = b ∧ q = a) → r (p * 8 + q) = r (q * 8 + p)) (hf : 200 ≤ f0) : fX7_mirrorWays f0 (Ad Y 7 0) (hp Y (sR X 26 1 r)) = some (1, hp Y (sR X 26 1 (upi r (b * 8 + a) v))) := by
  have g1 := SeO_1 g
  have st : fX7_mirrorWays f0 (Ad Y 7 0) (hp Y (sR X 26 1 r)) = bX7_mirrorWays_2 f0 f0 (Ad Y 7 0) (iI 0) (hp Y (sR X 26 1 (mrr r a b v (0 * 8)))) := by
    have : mrr r a b v (0 * 8) = r := by unfold mrr; rw [if_neg (by omega)]
    rw [this]; rfl
  rw [st]
  have fin : mrr r a b v 64 = upi r (b * 8 + a) v := by unfold mrr; rw [if_pos (by omega)]
  have at_ : ∀ m p q, 0 ≤ p → p < 8 → 0 ≤ q → q < 8 → mrr r a b v m (p * 8 + q) = if p = b ∧ q = a ∧ b * 8 + a < m then v else r (p * 8 + q) := fun m p q p0 p8 q0 q8 => by
    unfold mrr
    by_cases k : b * 8 + a < m
    · rw [if_pos k, upi_at]
      by_cases e : p * 8 + q = b * 8 + a
      · rw [if_pos e, if_pos (by omega)]
      · rw [if_neg e, if_neg (by omega)]
    · rw [if_neg k, if_neg (by omega)]
  have x26 : ∀ r', XR (sR X 26 1 r') 26 1 = r' := fun r' => rfl
  refine lp (fun f (p : Int) => bX7_mirrorWays_2 f0 f (Ad Y 7 0) (iI p) (hp Y (sR X 26 1 (mrr r a b v (p * 8))))) (fun p => 0 ≤ p ∧ p ≤ 8) (fun p => (8 - p).toNat) (fun z => z = _) ?_ f0 0 ⟨by omega, by omega⟩ (by show (8 - (0 : Int)).toNat < f0; omega)
  rintro f p ⟨p0, p8⟩
  by_cases c : (8 : Int) ≤ p
  · left
    have pe : p = 8 := by omega
    simp (disch := first | assumption | omega) only [bX7_mirrorWays_2, li_0, li_1, li_8, iI_add, Option.bind_some, iI_le, if_pos c]
    rw [pe, show (8 : Int) * 8 = 64 by decide, fin]; exact zr_i1
  · right
    refine ⟨p + 1, ?_, ⟨by omega, by omega⟩, by show (8 - (p + 1)).toNat < (8 - p).toNat; omega⟩
    have s1 : bX7_mirrorWays_2 f0 (f + 1) (Ad Y 7 0) (iI p) (hp Y (sR X 26 1 (mrr r a b v (p * 8)))) = bX7_mirrorWays_10 f0 (bX7_mirrorWays_2 f0 f) f0 (Ad Y 7 0) (iI p) (iI 0) (hp Y (sR X 26 1 (mrr r a b v (p * 8 + 0)))) := by
      simp (disch := first | assumption | omega) only [bX7_mirrorWays_2, li_0, li_1, li_8, iI_add, Option.bind_some, iI_le, if_neg c]
      rw [Int.add_zero]
    rw [s1]
    refine lp (fun f' (q : Int) => bX7_mirrorWays_10 f0 (bX7_mirrorWays_2 f0 f) f' (Ad Y 7 0) (iI p) (iI q) (hp Y (sR X 26 1 (mrr r a b v (p * 8 + q))))) (fun q => 0 ≤ q ∧ q ≤ 8) (fun q => (8 - q).toNat) (fun z => z = _) ?_ f0 0 ⟨by omega, by omega⟩ (by show (8 - (0 : Int)).toNat < f0; omega)
    rintro f' q ⟨q0, q8⟩
    by_cases d : (8 : Int) ≤ q
    · left
      simp (disch := first | assumption | omega) only [bX7_mirrorWays_10, g_7_1, g_6_3, l_26, s_26, li_0, li_1, li_8, iI_add, iI_mul, Option.bind_some, iI_le, if_pos d]
      rw [show p * 8 + q = (p + 1) * 8 by omega]
    · right
      refine ⟨q + 1, ?_, ⟨by omega, by omega⟩, by show (8 - (q + 1)).toNat < (8 - q).toNat; omega⟩
      have e1 := at_ (p * 8 + q) p q p0 (by omega) q0 (by omega)
      have e2 := at_ (p * 8 + q) q p q0 (by omega) p0 (by omega)
      rw [if_neg (by omega)] at e1
      obtain ⟨y, hy⟩ : ∃ y, y = mrr r a b v (p * 8 + q) (q * 8 + p) := ⟨_, rfl⟩
      have hx : (if r (p * 8 + q) < y then y else r (p * 8 + q)) = if p = b ∧ q = a then v else r (p * 8 + q) := by
        by_cases k1 : p = b ∧ q = a
        · have ey : y = v := by
            rw [hy, e2, if_neg (by omega), k1.1, k1.2]; exact hv
          have ex : r (p * 8 + q) = 0 := by rw [k1.1, k1.2]; exact hz
          rw [if_pos k1, ey, ex, if_pos v0]
        · by_cases k2 : p = a ∧ q = b
          · have ex : r (p * 8 + q) = v := by rw [k2.1, k2.2]; exact hv
            have ey : y = v ∨ y = 0 := by
              rw [hy, e2]; split
              · exact .inl rfl
              · right; rw [k2.1, k2.2]; exact hz
            rw [if_neg k1, ex]
            split <;> omega
          · have ey : y = r (p * 8 + q) := by
              rw [hy, e2, if_neg (by omega)]; exact (sy p q p0 (by omega) q0 (by omega) k2 k1).symm
            rw [if_neg k1, ey, if_neg (by omega)]
      have wx : upi (mrr r a b v (p * 8 + q)) (p * 8 + q) (if p = b ∧ q = a then v else r (p * 8 + q)) = mrr r a b v (p * 8 + (q + 1)) := by
        funext j
        rw [upi_at]
        by_cases k1 : p = b ∧ q = a
        · rw [if_pos k1]
          have m1 : mrr r a b v (p * 8 + q) = r := by unfold mrr; rw [if_neg (by omega)]
          have m2 : mrr r a b v (p * 8 + (q + 1)) = upi r (b * 8 + a) v := by unfold mrr; rw [if_pos (by omega)]
          rw [m1, m2, upi_at, k1.1, k1.2]
        · rw [if_neg k1]
          have : mrr r a b v (p * 8 + (q + 1)) = mrr r a b v (p * 8 + q) := by
            unfold mrr
            by_cases k : b * 8 + a < p * 8 + q
            · rw [if_pos k, if_pos (by omega)]
            · rw [if_neg k, if_neg (by omega)]
          rw [this]
          split
          · rename_i z; rw [z, e1]
          · rfl
      have yr : Rg y := by
        rw [hy]; unfold mrr; split
        · rw [upi_at]; split
          · exact ⟨by omega, by omega⟩
          · exact hr _
        · exact hr _
      have y1 := yr.1; have y2 := yr.2
      have x1 := (hr (p * 8 + q)).1; have x2 := (hr (p * 8 + q)).2
      rw [← wx]
      simp (disch := first | assumption | omega) only [bX7_mirrorWays_10, g_7_1, g_6_3, l_26, s_26, li_0, li_1, li_8, iI_add, iI_mul, Option.bind_some, iI_le, if_neg d, x26, e1, ← hy, iI_lt, iI_ite, hx, sR_sR]
