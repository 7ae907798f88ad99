/-! A SENTENCE IS READ: one condition, here and there -/
abbrev Lp (f0 : Nat) (Y : YS) (f : Nat) (Z : XS) : Option (Int32 × Hp) := bX12_sentence_48 f0 f (Ad Y 12 0) (iI 1) (hp Y Z)
theorem L_op {f0 f : Nat} {Y : YS} {Z : XS} (g : GY Y) (h : XF Z 12 0 44 = 0) : Lp f0 Y (f + 1) Z = ob2 (fX12_operand f0 (Ad Y 12 0) (hp Y Z)) fun x h => if x = 0 then bX12_sentence_125 f0 (Ad Y 12 0) h else bX12_sentence_48 f0 f (Ad Y 12 0) 1 h := by
  unfold Lp
  simp (disch := first | assumption | omega) only [bX12_sentence_48, bX12_sentence_101, g_12_6, g_12_40, g_12_44, g_12_11, g_12_42, g_12_16, k_12, s61, lm_1, li_0, li_1, li_465, li_22, ob2, iI_add, iI_sub, Option.bind_some, iI_neg, iI_eq, Int.reduceEq, if_false, if_true, h]
theorem L_be {f0 f : Nat} {Y : YS} {Z : XS} (g : GY Y) (W : WF Z) (h : XF Z 12 0 44 = 1) (h1 : ¬ XF Z 12 0 11 = 0) : Lp f0 Y (f + 1) Z = ob2 (fX12_behind f0 (Ad Y 12 0) (hp Y Z)) fun x h => if x = 0 then bX12_sentence_125 f0 (Ad Y 12 0) h else bX12_sentence_48 f0 f (Ad Y 12 0) 1 h := by
  unfold Lp
  simp (disch := first | assumption | omega | exact W_fl W _ _ _ | exact W_fh W _ _ _ | exact W_rl W _ _ _ | exact W_rh W _ _ _) only [bX12_sentence_48, bX12_sentence_101, g_12_6, g_12_40, g_12_44, g_12_11, g_12_42, g_12_16, k_12, s61, lm_1, li_0, li_1, li_465, li_22, ob2, iI_add, iI_sub, Option.bind_some, iI_neg, iI_eq, Int.reduceEq, if_false, if_true, h, if_neg h1]
theorem s125 {f0 : Nat} {Y : YS} {X Z : XS} (g : GY Y) (f : FaC X) (r : FaR X Z) : bX12_sentence_125 f0 (Ad Y 12 0) (hp Y Z) = some (iI (-1 - XF X 4 0 11), hp Y Z) := by
  have r2 := r.2; have f2 := f.2
  simp (disch := first | assumption | omega) only [bX12_sentence_125, g_12_16, lm_1, li_1, iI_sub, Option.bind_some, iI_add, iI_neg, r2]
theorem PenR_push {X Z : XS} {t c d : Int} (h : PenR X Z t 0 0 0) (ht : t ≤ 29) : PenR X (sF (sF (sR Z 77 0 (upi (XR Z 77 0) t c)) 12 0 42 (t + 1)) 12 0 43 d) (t + 1) 0 0 0 := by
  obtain ⟨h1, h2, h3, h4, h5, h6⟩ := h
  exact ⟨⟨by omega, h1.2⟩, ⟨show t + 1 = _ by omega, h2.2⟩, h3, h4, h5, fun a a0 a1 => by omega⟩
theorem PenR_o {X Z : XS} {t i j k o : Int} (h : PenR X Z t i j k) : PenR (sF X 9 0 3 o) (sF Z 12 0 41 o) t i j k := by
  obtain ⟨h1, h2, h3, h4, h5, h6⟩ := h
  exact ⟨h1, ⟨h2.1, h2.2.1, rfl⟩, h3, h4, h5, h6⟩
def bsC (lv : Int) (Z : XS) (t : Int) : Prop := t = 0 ∨ lv = 2 ∨ (lv = 1 ∧ XR Z 77 0 (t - 1) ≠ 20 ∧ XR Z 77 0 (t - 1) ≠ 21) ∨ (lv = 0 ∧ XR Z 77 0 (t - 1) = 23)
def RPre (X Z : XS) (S : Int → Int) (lv t d K : Int) (f : Nat) : Prop := WF Z ∧ TokR X Z ∧ KZ X Z S ∧ PenR X Z t 0 0 0 ∧ XF Z 12 0 43 = d ∧ XF Z 12 0 44 = 0 ∧ K ≤ f + XF X 4 0 6 ∧ bsC lv Z t ∧ t ≤ 3 * (d - 1) + lv
def RPost (X' Z Z' : XS) (lv t d K : Int) (f' : Nat) : Prop := WF Z' ∧ TxO Z Z' ∧ TokR X' Z' ∧ (∃ i j k, PenR X' Z' t i j k ∧ XF Z' 12 0 43 = d + k ∧ (1 ≤ lv → i = 0) ∧ (2 ≤ lv → j = 0) ∧ d + k ≤ 9) ∧ XF Z' 12 0 44 = 1 ∧ (∀ a, 0 ≤ a → a < t → XR Z' 77 0 a = XR Z 77 0 a) ∧ K ≤ f' + XF X' 4 0 6
def JF (f0 : Nat) (Y : YS) (S : Int → Int) (lv d : Int) (X X' : XS) : Prop := FaC X' ∧ ∀ Z t f, RPre X Z S lv t d (XF X 4 0 3 + 5) f → ∃ Z', Lp f0 Y f Z = some (iI (-1 - XF X' 4 0 11), hp Y Z') ∧ WF Z' ∧ TxE Z Z' ∧ FaR X' Z'
def JT (f0 : Nat) (Y : YS) (S : Int → Int) (lv d : Int) (X X' : XS) : Prop := TokC X' ∧ DSn X' S ∧ ((lv ≤ 1 → XF X' 4 0 8 ≠ 17) ∧ (lv ≤ 0 → XF X' 4 0 8 ≠ 16)) ∧ hgX X' = hgX X + 1 ∧ 2 * XF X 9 0 3 + XF X' 8 1 3 + 1 ≤ 2 * XF X' 9 0 3 + XF X 8 1 3 ∧ XF X 9 0 3 < XF X' 9 0 3 ∧ XF X' 4 0 10 = XF X 4 0 10 ∧ XF X 4 0 6 ≤ XF X' 4 0 6 ∧ ∀ Z t f, RPre X Z S lv t d (XF X 4 0 3 + 5) f → ∃ f' Z', Lp f0 Y f Z = Lp f0 Y f' Z' ∧ RPost X' Z Z' lv t d (XF X 4 0 3 + 5) f'
def JR (f0 : Nat) (Y : YS) (S : Int → Int) (lv d : Int) (rr : Nat → Int32 → Hp → Option (Int32 × Hp)) : Prop := ∀ X, WF X → TokC X → KC X S → DSn X S → ∃ b X', rr (Ad Y 9 0) (iI d) (hp Y X) = some (b, hp Y X') ∧ WF X' ∧ FrC X X' ∧ ((b = 0 ∧ JF f0 Y S lv d X X') ∨ (b = 1 ∧ JT f0 Y S lv d X X'))
theorem j_plain {f0 : Nat} {Y : YS} {X : XS} {S : Int → Int} (g : GY Y) (W : WF X) (c : TokC X) (kc : KC X S) (ds : DSn X S) (rm : XF X 8 1 3 + hgX X + 2 ≤ 2 * XF X 9 0 3) {q : Int} (q0 : 19 ≤ q) (q1 : q ≤ 26) (hf : 2000 ≤ f0) : ∃ b X', fX9_readPlain f0 (Ad Y 9 0) (iI q) (hp Y X) = some (b, hp Y X') ∧ WF X' ∧ FrC X X' ∧ ((b = 0 ∧ PlF f0 Y X X' S q) ∨ (b = 1 ∧ PlT f0 Y X X' S q)) := by
  by_cases a : q < 22
  · obtain ⟨X', e, W', f, p⟩ := pl_0 (f0 := f0) (Y := Y) g W c ds rm q0 a
    exact ⟨1, X', e, W', f, .inr ⟨rfl, p⟩⟩
  · by_cases b : q < 24
    · exact pl_n (s := if q = 22 then 3 else 0) g W c kc ds rm (by split <;> omega) hf
    · exact pl_v g W c ds rm (by omega) q1 hf
/-- the class's count of conditions, and the reference's -/
theorem one_C {X : XS} {S : Int → Int} (W : WF X) (c : TokC X) (kc : KC X S) (ds : DSn X S) (h : XF X 9 0 3 < 20) : WF (sF X 9 0 3 (XF X 9 0 3 + 1)) ∧ TokC (sF X 9 0 3 (XF X 9 0 3 + 1)) ∧ KC (sF X 9 0 3 (XF X 9 0 3 + 1)) S ∧ DSn (sF X 9 0 3 (XF X 9 0 3 + 1)) S ∧ FrC X (sF X 9 0 3 (XF X 9 0 3 + 1)) := by
  have d1 := ds.1
  have fr : FrC X (sF X 9 0 3 (XF X 9 0 3 + 1)) := FrC_F FrC_refl (by omega)
  have e9 : XF (sF X 9 0 3 (XF X 9 0 3 + 1)) 9 0 3 = XF X 9 0 3 + 1 := rfl
  refine ⟨W_F W (by omega) (by omega), TokC_s ⟨fun _ => rfl, rfl, rfl, rfl⟩ c, KC_fr fr kc, ⟨⟨d1.1, ?_, by rw [e9]; omega, by rw [e9]; omega⟩, ds.2⟩, fr⟩
  have := d1.2.1
  rw [e9]
  show XF X 8 1 3 + hgS (XR X 36 1) (XF X 8 1 3).toNat ≤ _
  omega
