/-! A SENTENCE IS READ: one step is put down, here and there -/
theorem e_addS {f0 : Nat} {Y : YS} {X : XS} (g : StO Y 1) (W : WF X) {a b c : Int} (m0 : 0 ≤ XF X 8 1 3) (m1 : XF X 8 1 3 < 40) : fX8_add f0 (Ad Y 8 1) (iI a) (iI b) (iI c) (hp Y X) = some (hp Y (sF (sR (sR (sR X 36 1 (upi (XR X 36 1) (XF X 8 1 3) a)) 37 1 (upi (XR X 37 1) (XF X 8 1 3) b)) 38 1 (upi (XR X 38 1) (XF X 8 1 3) c)) 8 1 3 (XF X 8 1 3 + 1))) := by
  have y1 : ∀ r, XF (sR X 36 1 r) 8 1 3 = XF X 8 1 3 := fun _ => rfl
  have y2 : ∀ r r', XF (sR (sR X 36 1 r) 37 1 r') 8 1 3 = XF X 8 1 3 := fun _ _ => rfl
  have y3 : ∀ r r' r'', XF (sR (sR (sR X 36 1 r) 37 1 r') 38 1 r'') 8 1 3 = XF X 8 1 3 := fun _ _ _ => rfl
  have z1 : ∀ r, XR (sR X 36 1 r) 37 1 = XR X 37 1 := fun _ => rfl
  have z2 : ∀ r r', XR (sR (sR X 36 1 r) 37 1 r') 38 1 = XR X 38 1 := fun _ _ => rfl
  simp (disch := first | assumption | omega) only [fX8_add, g_8_3, g_8_0, g_8_1, g_8_2, p_8_3, s_36, s_37, s_38, li_40, li_1, iI_add, Option.bind_some, iI_lt, if_pos m1, y1, y2, y3, z1, z2, iI_add]
def cdZ (Z : XS) (a b c : Int) : XS := sF (sR Z 63 0 (upi (upi (upi (XR Z 63 0) (3 * XF Z 12 0 40) a) (3 * XF Z 12 0 40 + 1) b) (3 * XF Z 12 0 40 + 2) c)) 12 0 40 (XF Z 12 0 40 + 1)
theorem r_code {f0 : Nat} {Y : YS} {Z : XS} (g : GY Y) {a b c : Int} (m0 : 0 ≤ XF Z 12 0 40) (m1 : XF Z 12 0 40 < 45) : fX12_code f0 (Ad Y 12 0) (iI a) (iI b) (iI c) (hp Y Z) = some (hp Y (cdZ Z a b c)) := by
  have y1 : ∀ r, XF (sR Z 63 0 r) 12 0 40 = XF Z 12 0 40 := fun _ => rfl
  have z1 : ∀ r, XR (sR Z 63 0 r) 63 0 = r := fun _ => rfl
  simp (disch := first | assumption | omega) only [fX12_code, g_12_8, g_12_40, p_12_40, s_63, li_3, li_1, li_2, iI_add, iI_mul, Option.bind_some, iI_mul, iI_add, y1, z1, sR_sR]
  rfl
/-- what waits on the stack of the reference -/
def PenR (X Z : XS) (t i j k : Int) : Prop :=
  ((0 ≤ t ∧ t ≤ 30) ∧ (0 ≤ i ∧ i ≤ 1) ∧ (0 ≤ j ∧ j ≤ 1) ∧ 0 ≤ k ∧ k ≤ 9) ∧ (XF Z 12 0 42 = t + i + j + k ∧ XF Z 12 0 40 + i + j + k = XF X 8 1 3 ∧ XF Z 12 0 41 = XF X 9 0 3) ∧ (0 ≤ XF Z 12 0 40 ∧ XF X 8 1 3 ≤ 40) ∧
  (∀ a, 0 ≤ a → a < XF Z 12 0 40 → cdR (XR X 36 1 a) = XR Z 63 0 (3 * a) ∧ XR X 37 1 a = XR Z 63 0 (3 * a + 1) ∧ XR X 38 1 a = XR Z 63 0 (3 * a + 2)) ∧
  (∀ a, XF Z 12 0 40 ≤ a → a < XF X 8 1 3 → XR X 37 1 a = 0 ∧ XR X 38 1 a = 0 ∧ XR X 36 1 a = if a < XF Z 12 0 40 + k then 18 else if a < XF Z 12 0 40 + k + j then 17 else 16) ∧
  (∀ a, t ≤ a → a < t + i + j + k → XR Z 77 0 a = if a < t + i then 22 else if a < t + i + j then 21 else 20)
/-- the next one that waits is written: its kind s is the class's step, c its code -/
def ppZ (Z : XS) (c : Int) : XS := cdZ (sF Z 12 0 42 (XF Z 12 0 42 - 1)) c 0 0
theorem pp_40 {Z : XS} {c : Int} : XF (ppZ Z c) 12 0 40 = XF Z 12 0 40 + 1 := rfl
theorem pp_42 {Z : XS} {c : Int} : XF (ppZ Z c) 12 0 42 = XF Z 12 0 42 - 1 := rfl
theorem pp_41 {Z : XS} {c : Int} : XF (ppZ Z c) 12 0 41 = XF Z 12 0 41 := rfl
theorem pp_77 {Z : XS} {c : Int} : XR (ppZ Z c) 77 0 = XR Z 77 0 := rfl
theorem pp_63 {Z : XS} {c : Int} : XR (ppZ Z c) 63 0 = upi (upi (upi (XR Z 63 0) (3 * XF Z 12 0 40) c) (3 * XF Z 12 0 40 + 1) 0) (3 * XF Z 12 0 40 + 2) 0 := rfl
theorem PenR_pp {X Z : XS} {t i j k i' j' k' s : Int} (h : PenR X Z t i j k) (hs : XR X 36 1 (XF Z 12 0 40) = s) (hc : (s = 18 ∧ 1 ≤ k ∧ i' = i ∧ j' = j ∧ k' = k - 1) ∨ (s = 17 ∧ k = 0 ∧ j = 1 ∧ i' = i ∧ j' = 0 ∧ k' = 0) ∨ (s = 16 ∧ k = 0 ∧ j = 0 ∧ i = 1 ∧ i' = 0 ∧ j' = 0 ∧ k' = 0)) : PenR X (ppZ Z (cdR s)) t i' j' k' := by
  obtain ⟨h1, h2, h3, h4, h5, h6⟩ := h
  refine ⟨⟨h1.1, by omega, by omega, by omega, by omega⟩, ⟨by rw [pp_42]; omega, by rw [pp_40]; omega, by rw [pp_41]; exact h2.2.2⟩, ⟨by rw [pp_40]; omega, h3.2⟩, fun a a0 a1 => ?_, fun a a0 a1 => ?_, fun a a0 a1 => ?_⟩
  · rw [pp_40] at a1
    rw [pp_63]
    by_cases e : a = XF Z 12 0 40
    · subst e
      have q := h5 (XF Z 12 0 40) (by omega) (by omega)
      refine ⟨?_, ?_, ?_⟩
      · rw [upi_ne _ _ (by omega), upi_ne _ _ (by omega), upi_eq, hs]
      · rw [upi_ne _ _ (by omega), upi_eq]; exact q.1
      · rw [upi_eq]; exact q.2.1
    · have q := h4 a a0 (by omega)
      refine ⟨?_, ?_, ?_⟩
      · rw [upi_ne _ _ (by omega), upi_ne _ _ (by omega), upi_ne _ _ (by omega)]; exact q.1
      · rw [upi_ne _ _ (by omega), upi_ne _ _ (by omega), upi_ne _ _ (by omega)]; exact q.2.1
      · rw [upi_ne _ _ (by omega), upi_ne _ _ (by omega), upi_ne _ _ (by omega)]; exact q.2.2
  · rw [pp_40] at a0 ⊢
    have q := h5 a (by omega) a1
    refine ⟨q.1, q.2.1, ?_⟩
    rw [q.2.2]
    rcases hc with c | c | c
    · (repeat' split) <;> omega
    · (repeat' split) <;> omega
    · (repeat' split) <;> omega
  · rw [pp_77, h6 a a0 (by omega)]
    rcases hc with c | c | c
    · (repeat' split) <;> omega
    · (repeat' split) <;> omega
    · (repeat' split) <;> omega
