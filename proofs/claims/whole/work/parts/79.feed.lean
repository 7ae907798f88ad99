/-! feed -/
theorem byte_n {x : BitVec 32} {n : Nat} (hn : n ≤ 24) : BitVec.signExtend 8 (x >>> n) = BitVec.signExtend 8 (x.sshiftRight n) := by
  rw [BitVec.signExtend_eq_setWidth_of_le _ (by decide), BitVec.signExtend_eq_setWidth_of_le _ (by decide)]
  apply BitVec.eq_of_getLsbD_eq; intro i hi
  simp only [BitVec.getLsbD_setWidth, BitVec.getLsbD_ushiftRight, BitVec.getLsbD_sshiftRight]
  have h1 : ¬ 32 ≤ i := by omega
  have h2 : n + i < 32 := by omega
  simp [h1, h2]
theorem byte_eq (v : Int32) (k : Int) (hk : k = 24 ∨ k = 16 ∨ k = 8 ∨ k = 0) : (Int32.toInt8 ((Int32.toUInt32 v >>> (Int32.toUInt32 (iI k) &&& Int32.toUInt32 (iI 31))).toInt32)).toInt32 = (Int32.toInt8 (v >>> (iI k &&& iI 31))).toInt32 := by
  congr 1
  apply Int8.toBitVec_inj.mp
  show BitVec.signExtend 8 ((Int32.toUInt32 v >>> (Int32.toUInt32 (iI k) &&& Int32.toUInt32 (iI 31))).toBitVec) = BitVec.signExtend 8 ((v >>> (iI k &&& iI 31)).toBitVec)
  rcases hk with h | h | h | h <;> subst h
  · rw [show (Int32.toUInt32 (iI 24) &&& Int32.toUInt32 (iI 31)) = (24 : UInt32) by decide, show (iI 24 &&& iI 31) = (24 : Int32) by decide]
    exact byte_n (x := v.toBitVec) (n := 24) (by decide)
  · rw [show (Int32.toUInt32 (iI 16) &&& Int32.toUInt32 (iI 31)) = (16 : UInt32) by decide, show (iI 16 &&& iI 31) = (16 : Int32) by decide]
    exact byte_n (x := v.toBitVec) (n := 16) (by decide)
  · rw [show (Int32.toUInt32 (iI 8) &&& Int32.toUInt32 (iI 31)) = (8 : UInt32) by decide, show (iI 8 &&& iI 31) = (8 : Int32) by decide]
    exact byte_n (x := v.toBitVec) (n := 8) (by decide)
  · rw [show (Int32.toUInt32 (iI 0) &&& Int32.toUInt32 (iI 31)) = (0 : UInt32) by decide, show (iI 0 &&& iI 31) = (0 : Int32) by decide]
    exact byte_n (x := v.toBitVec) (n := 0) (by decide)
/-- one byte of a number, as it is put -/
def byV (v : Int32) (k : Int) : Int := (vp_nar .byte ((Int32.toInt8 (v >>> (iI k &&& iI 31))).toInt32)).toInt
theorem byV_rg (v : Int32) (k : Int) : -128 ≤ byV v k ∧ byV v k < 128 := by
  have : ∀ w : Int32, -128 ≤ (vp_nar .byte w).toInt ∧ (vp_nar .byte w).toInt < 128 := by
    intro w
    have e : vp_nar .byte w = w.toInt8.toInt32 := rfl
    rw [e, Int8.toInt_toInt32]
    exact ⟨by have := Int8.le_toInt w.toInt8; omega, by have := Int8.toInt_lt w.toInt8; omega⟩
  exact this _
def pt4 (r : Int → Int) (n : Int) (v : Int32) : Int → Int := upi (upi (upi (upi r n (byV v 24)) (n + 1) (byV v 16)) (n + 2) (byV v 8)) (n + 3) (byV v 0)
theorem pt4_rg {r : Int → Int} {n : Int} {v : Int32} (h : ∀ i, -128 ≤ r i ∧ r i < 128) : ∀ i, -128 ≤ pt4 r n v i ∧ pt4 r n v i < 128 := fun i => by
  unfold pt4
  simp only [upi_at]
  (repeat' split) <;> first | exact byV_rg v _ | exact h i
theorem cl_put {f0 : Nat} {Y : YS} {X : XS} (g : GY Y) (W : WF X) {r : Int → Int} {n : Int} (n0 : 0 ≤ n) (n1 : n ≤ 936) {v : Int32} (hf : 20 ≤ f0) : fX11_putBytes f0 (Ad Y 11 0) v (hp Y (sF (sR X 20 0 r) 11 0 1 n)) = some (hp Y (sF (sR X 20 0 (pt4 r n v)) 11 0 1 (n + 4))) := by
  obtain ⟨f, hff⟩ : ∃ f, f0 = f + 5 := ⟨f0 - 5, by omega⟩
  have st : fX11_putBytes f0 (Ad Y 11 0) v (hp Y (sF (sR X 20 0 r) 11 0 1 n)) = bX11_putBytes_3 f0 (f + 5) (Ad Y 11 0) v (iI 24) (hp Y (sF (sR X 20 0 r) 11 0 1 n)) := by rw [← hff]; rfl
  rw [st]
  have x20 : ∀ r n, XR (sF (sR X 20 0 r) 11 0 1 n) 20 0 = r := fun r n => rfl
  have x1 : ∀ r n, XF (sF (sR X 20 0 r) 11 0 1 n) 11 0 1 = n := fun r n => rfl
  have s20 : ∀ r n r', sR (sF (sR X 20 0 r) 11 0 1 n) 20 0 r' = sF (sR X 20 0 r') 11 0 1 n := fun r n r' => by rw [← sF_sR, sR_sR]
  have s1 : ∀ r n n', sF (sF (sR X 20 0 r) 11 0 1 n) 11 0 1 n' = sF (sR X 20 0 r) 11 0 1 n' := fun r n n' => by rw [sF_sF]
  have step : ∀ (f : Nat) (r : Int → Int) (n k : Int), 0 ≤ n → n < 940 → (k = 24 ∨ k = 16 ∨ k = 8 ∨ k = 0) → bX11_putBytes_3 f0 (f + 1) (Ad Y 11 0) v (iI k) (hp Y (sF (sR X 20 0 r) 11 0 1 n)) = bX11_putBytes_3 f0 f (Ad Y 11 0) v (iI (k - 8)) (hp Y (sF (sR X 20 0 (upi r n (byV v k))) 11 0 1 (n + 1))) := by
    intro f r n k n0 n1 hk
    have c1 : ¬ k < 0 := by omega
    have c2 : ¬ 940 ≤ n := by omega
    have by' := byte_eq v k hk
    simp (disch := first | assumption | omega) only [bX11_putBytes_3, g_11_1, g_11_0, p_11_1, s_20, lm_8, li_0, li_1, li_940, li_31, li_8, iI_add, Option.bind_some, iI_neg, iI_lt, iI_le, if_neg c1, x1, if_neg c2, by', x20, s20, s1, iI_neg]
    rw [show k + -8 = k - 8 by omega]
    rfl
  rw [step _ _ _ 24 n0 (by omega) (by omega), step _ _ _ _ (by omega) (by omega) (by omega), step _ _ _ _ (by omega) (by omega) (by omega), step _ _ _ _ (by omega) (by omega) (by omega)]
  have c3 : (24 - 8 - 8 - 8 - 8 : Int) < 0 := by decide
  simp (disch := first | assumption | omega) only [bX11_putBytes_3, g_11_1, g_11_0, p_11_1, s_20, lm_8, li_0, li_1, li_940, li_31, li_8, iI_add, Option.bind_some, iI_neg, iI_lt, if_pos c3]
  rw [show n + 1 + 1 + 1 + 1 = n + 4 by omega]
  unfold pt4
  rw [show n + 1 + 1 = n + 2 by omega, show n + 2 + 1 = n + 3 by omega]
  rfl
theorem r_put {f0 : Nat} {Y : YS} {X : XS} (g : GY Y) (W : WF X) {r : Int → Int} {n : Int} (n0 : 0 ≤ n) (n1 : n ≤ 936) {v : Int32} (hf : 20 ≤ f0) : fX12_four f0 (Ad Y 12 0) v (hp Y (sF (sR X 60 0 r) 12 0 2 n)) = some (hp Y (sF (sR X 60 0 (pt4 r n v)) 12 0 2 (n + 4))) := by
  obtain ⟨f, hff⟩ : ∃ f, f0 = f + 5 := ⟨f0 - 5, by omega⟩
  have st : fX12_four f0 (Ad Y 12 0) v (hp Y (sF (sR X 60 0 r) 12 0 2 n)) = bX12_four_3 f0 (f + 5) (Ad Y 12 0) v (iI 24) (hp Y (sF (sR X 60 0 r) 12 0 2 n)) := by rw [← hff]; rfl
  rw [st]
  have x20 : ∀ r n, XR (sF (sR X 60 0 r) 12 0 2 n) 60 0 = r := fun r n => rfl
  have x1 : ∀ r n, XF (sF (sR X 60 0 r) 12 0 2 n) 12 0 2 = n := fun r n => rfl
  have s20 : ∀ r n r', sR (sF (sR X 60 0 r) 12 0 2 n) 60 0 r' = sF (sR X 60 0 r') 12 0 2 n := fun r n r' => by rw [← sF_sR, sR_sR]
  have s1 : ∀ r n n', sF (sF (sR X 60 0 r) 12 0 2 n) 12 0 2 n' = sF (sR X 60 0 r) 12 0 2 n' := fun r n n' => by rw [sF_sF]
  have step : ∀ (f : Nat) (r : Int → Int) (n k : Int), 0 ≤ n → n < 940 → (k = 24 ∨ k = 16 ∨ k = 8 ∨ k = 0) → bX12_four_3 f0 (f + 1) (Ad Y 12 0) v (iI k) (hp Y (sF (sR X 60 0 r) 12 0 2 n)) = bX12_four_3 f0 f (Ad Y 12 0) v (iI (k - 8)) (hp Y (sF (sR X 60 0 (upi r n (byV v k))) 12 0 2 (n + 1))) := by
    intro f r n k n0 n1 hk
    have c1 : ¬ k < 0 := by omega
    simp (disch := first | assumption | omega) only [bX12_four_3, g_12_1, g_12_2, p_12_2, s_60, lm_8, li_0, li_1, li_31, li_8, iI_add, Option.bind_some, iI_neg, iI_lt, iI_le, if_neg c1, x1, x20, s20, s1, iI_neg]
    rw [show k + -8 = k - 8 by omega]
    rfl
  rw [step _ _ _ 24 n0 (by omega) (by omega), step _ _ _ _ (by omega) (by omega) (by omega), step _ _ _ _ (by omega) (by omega) (by omega), step _ _ _ _ (by omega) (by omega) (by omega)]
  have c3 : (24 - 8 - 8 - 8 - 8 : Int) < 0 := by decide
  simp (disch := first | assumption | omega) only [bX12_four_3, g_12_1, g_12_2, p_12_2, s_60, lm_8, li_0, li_1, li_31, li_8, iI_add, Option.bind_some, iI_neg, iI_lt, if_pos c3]
  rw [show n + 1 + 1 + 1 + 1 = n + 4 by omega]
  unfold pt4
  rw [show n + 1 + 1 = n + 2 by omega, show n + 2 + 1 = n + 3 by omega]
  rfl
theorem sF_self {X : XS} {s k f : Nat} : sF X s k f (XF X s k f) = X := by
  unfold sF up3
  refine Prod.ext ?_ rfl
  funext a b c
  show (if a = s ∧ b = k ∧ c = f then XF X s k f else X.1 a b c) = X.1 a b c
  split
  · rename_i h; rw [h.1, h.2.1, h.2.2]; rfl
  · rfl
def pt20 (r : Int → Int) (n : Int) (a b c d e : Int32) : Int → Int := pt4 (pt4 (pt4 (pt4 (pt4 r n a) (n + 4) b) (n + 8) c) (n + 12) d) (n + 16) e
theorem pt4_rf {r : Int → Int} {n : Int} {v : Int32} (h : RgF r) : RgF (pt4 r n v) := fun i => by
  unfold pt4
  simp only [upi_at]
  (repeat' split) <;> first | exact h i | exact ⟨by have := byV_rg v 24; omega, by have := byV_rg v 24; omega⟩ | exact ⟨by have := byV_rg v 16; omega, by have := byV_rg v 16; omega⟩ | exact ⟨by have := byV_rg v 8; omega, by have := byV_rg v 8; omega⟩ | exact ⟨by have := byV_rg v 0; omega, by have := byV_rg v 0; omega⟩
theorem pt20_rf {r : Int → Int} {n : Int} {a b c d e : Int32} (h : RgF r) : RgF (pt20 r n a b c d e) := pt4_rf (pt4_rf (pt4_rf (pt4_rf (pt4_rf h))))
theorem pt4_e {r q : Int → Int} {n : Int} {v : Int32} (h : ∀ i, 0 ≤ i → i < 940 → r i = q i ∧ -128 ≤ r i ∧ r i < 128) : ∀ i, 0 ≤ i → i < 940 → pt4 r n v i = pt4 q n v i ∧ -128 ≤ pt4 r n v i ∧ pt4 r n v i < 128 := fun i i0 i1 => by
  have := h i i0 i1
  unfold pt4
  simp only [upi_at]
  (repeat' split) <;> first | exact this | exact ⟨rfl, byV_rg v _⟩
theorem pt20_e {r q : Int → Int} {n : Int} {a b c d e : Int32} (h : ∀ i, 0 ≤ i → i < 940 → r i = q i ∧ -128 ≤ r i ∧ r i < 128) : ∀ i, 0 ≤ i → i < 940 → pt20 r n a b c d e i = pt20 q n a b c d e i ∧ -128 ≤ pt20 r n a b c d e i ∧ pt20 r n a b c d e i < 128 := pt4_e (pt4_e (pt4_e (pt4_e (pt4_e h))))
