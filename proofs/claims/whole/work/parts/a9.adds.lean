/-! A SENTENCE IS READ: what a step does to the counts -/
def adX (X : XS) (a b c : Int) : XS := sF (sR (sR (sR X 36 1 (upi (XR X 36 1) (XF X 8 1 3) a)) 37 1 (upi (XR X 37 1) (XF X 8 1 3) b)) 38 1 (upi (XR X 38 1) (XF X 8 1 3) c)) 8 1 3 (XF X 8 1 3 + 1)
theorem ad_m {X : XS} {a b c : Int} : XF (adX X a b c) 8 1 3 = XF X 8 1 3 + 1 := rfl
theorem ad_o {X : XS} {a b c : Int} : XF (adX X a b c) 9 0 3 = XF X 9 0 3 := rfl
theorem ad_36 {X : XS} {a b c : Int} : XR (adX X a b c) 36 1 = upi (XR X 36 1) (XF X 8 1 3) a := rfl
theorem ad_37 {X : XS} {a b c : Int} : XR (adX X a b c) 37 1 = upi (XR X 37 1) (XF X 8 1 3) b := rfl
theorem ad_38 {X : XS} {a b c : Int} : XR (adX X a b c) 38 1 = upi (XR X 38 1) (XF X 8 1 3) c := rfl
theorem ad_Rd {X : XS} {a b c : Int} : RdS X (adX X a b c) := ⟨fun _ => rfl, rfl, rfl, rfl⟩
theorem ad_W {X : XS} (W : WF X) {a b c : Int} (ha : Rg a) (hb : Rg b) (hc : Rg c) (m0 : 0 ≤ XF X 8 1 3) (m1 : XF X 8 1 3 < 40) : WF (adX X a b c) := by
  unfold adX
  refine W_F (W_R (W_R (W_R W fun i => ?_) fun i => ?_) fun i => ?_) (by omega) (by omega)
  · rw [upi_at]; split
    · exact ha
    · exact W.2 36 1 i
  · rw [upi_at]; split
    · exact hb
    · exact W.2 37 1 i
  · rw [upi_at]; split
    · exact hc
    · exact W.2 38 1 i
theorem FrC_tr {X X1 X2 : XS} (h : FrC X X1) (h' : FrC X1 X2) : FrC X X2 := ⟨fun s k f q => (h'.1 s k f q).trans (h.1 s k f q), fun s k q => (h'.2.1 s k q).trans (h.2.1 s k q), fun s k q => (h'.2.2.1 s k q).trans (h.2.2.1 s k q), h'.2.2.2.1.trans h.2.2.2.1, h'.2.2.2.2.trans h.2.2.2.2⟩
theorem ad_Fr {X : XS} {a b c : Int} : FrC X (adX X a b c) := by
  unfold adX
  refine ⟨fun s k f q => ?_, fun s k q => ?_, fun _ _ _ => rfl, rfl, rfl⟩
  · rw [XF_sF, if_neg (by omega)]; rfl
  · show XR (sR (sR (sR X 36 1 _) 37 1 _) 38 1 _) s k = _
    rw [XR_sR, if_neg (by omega), XR_sR, if_neg (by omega), XR_sR, if_neg (by omega)]
theorem hg_c {st st' : Int → Int} : ∀ n : Nat, (∀ a : Nat, a < n → st a = st' a) → hgS st n = hgS st' n
  | 0, _ => rfl
  | n + 1, h => by
    show hgS st n + _ = hgS st' n + _
    rw [hg_c n (fun a ha => h a (by omega)), h n (by omega)]
theorem stO_c {st sg va st' sg' va' S : Int → Int} {i : Nat} (h : ∀ a : Nat, a ≤ i → st a = st' a) (h1 : sg i = sg' i) (h2 : va i = va' i) (o : stO st sg va S i) : stO st' sg' va' S i := by
  unfold stO at *
  rw [← hg_c i (fun a ha => h a (by omega)), ← h i (by omega), ← h1, ← h2]
  exact o
def DSn (X : XS) (S : Int → Int) : Prop := (0 ≤ XF X 8 1 3 ∧ XF X 8 1 3 + hgS (XR X 36 1) (XF X 8 1 3).toNat ≤ 2 * XF X 9 0 3 ∧ 0 ≤ XF X 9 0 3 ∧ XF X 9 0 3 ≤ 20) ∧ ∀ a : Nat, (a : Int) < XF X 8 1 3 → stO (XR X 36 1) (XR X 37 1) (XR X 38 1) S a
abbrev hgX (X : XS) : Int := hgS (XR X 36 1) (XF X 8 1 3).toNat
theorem hgX_rg {X : XS} {S : Int → Int} (h : DSn X S) : 0 ≤ hgX X ∧ hgX X ≤ XF X 8 1 3 := by
  have := (hg_b (st := XR X 36 1) (XF X 8 1 3).toNat (fun i hi => h.2 i (by omega))).1
  have := h.1.1
  unfold hgX; omega
theorem ad_hg {X : XS} {s b c : Int} (m0 : 0 ≤ XF X 8 1 3) : hgX (adX X s b c) = hgX X + (if s = 18 then 0 else if s = 17 ∨ s = 16 then -1 else 1) := by
  unfold hgX
  rw [ad_m, ad_36, show (XF X 8 1 3 + 1).toNat = (XF X 8 1 3).toNat + 1 by omega]
  show hgS _ (XF X 8 1 3).toNat + _ = _
  rw [hg_c (st' := XR X 36 1) _ (fun a ha => upi_ne _ _ (by omega)), show (((XF X 8 1 3).toNat : Nat) : Int) = XF X 8 1 3 by omega, upi_eq]
theorem DSn_ad {X : XS} {S : Int → Int} {s b c : Int} (h : DSn X S) (hb : XF X 8 1 3 + 1 + (hgX X + (if s = 18 then 0 else if s = 17 ∨ s = 16 then -1 else 1)) ≤ 2 * XF X 9 0 3) (o : (16 ≤ s ∧ s ≤ 26) ∧ (s = 18 → 1 ≤ hgX X) ∧ (s = 17 ∨ s = 16 → 2 ≤ hgX X) ∧ (s = 22 → 0 ≤ c ∧ c < S 1) ∧ (s = 23 → 0 ≤ c ∧ c < S 0) ∧ (24 ≤ s → (60 ≤ b ∧ b ≤ 62) ∧ 0 ≤ c ∧ c ≤ 999)) : DSn (adX X s b c) S := by
  have m0 := h.1.1
  refine ⟨⟨by rw [ad_m]; omega, ?_, by rw [ad_o]; exact h.1.2.2⟩, fun a ha => ?_⟩
  · have := ad_hg (X := X) (s := s) (b := b) (c := c) m0
    unfold hgX at this hb
    rw [this, ad_m, ad_o]; exact hb
  · rw [ad_m] at ha
    rw [ad_36, ad_37, ad_38]
    by_cases e : (a : Int) = XF X 8 1 3
    · unfold stO
      have ea : a = (XF X 8 1 3).toNat := by omega
      rw [hg_c (st' := XR X 36 1) a (fun q hq => upi_ne _ _ (by omega)), e, upi_eq, upi_eq, upi_eq, ea]
      exact o
    · exact stO_c (fun q hq => (upi_ne _ _ (by omega)).symm) (upi_ne _ _ e).symm (upi_ne _ _ e).symm (h.2 a (by omega))
theorem PenR_leaf {X Z : XS} {t s b c : Int} (h : PenR X Z t 0 0 0) (hs : 19 ≤ s) (m1 : XF X 8 1 3 < 40) : PenR (adX X s b c) (cdZ Z (s - 19) b c) t 0 0 0 := by
  obtain ⟨h1, h2, h3, h4, h5, h6⟩ := h
  have z40 : XF (cdZ Z (s - 19) b c) 12 0 40 = XF Z 12 0 40 + 1 := rfl
  have z41 : XF (cdZ Z (s - 19) b c) 12 0 41 = XF Z 12 0 41 := rfl
  have z42 : XF (cdZ Z (s - 19) b c) 12 0 42 = XF Z 12 0 42 := rfl
  have z63 : XR (cdZ Z (s - 19) b c) 63 0 = upi (upi (upi (XR Z 63 0) (3 * XF Z 12 0 40) (s - 19)) (3 * XF Z 12 0 40 + 1) b) (3 * XF Z 12 0 40 + 2) c := rfl
  refine ⟨h1, ⟨by rw [z42]; exact h2.1, by rw [z40, ad_m]; omega, by rw [z41, ad_o]; exact h2.2.2⟩, ⟨by rw [z40]; omega, by rw [ad_m]; omega⟩, fun a a0 a1 => ?_, fun a a0 a1 => by rw [z40] at a0; rw [ad_m] at a1; omega, fun a a0 a1 => by omega⟩
  rw [z40] at a1
  rw [z63, ad_36, ad_37, ad_38]
  by_cases e : a = XF Z 12 0 40
  · have e' : a = XF X 8 1 3 := by omega
    rw [← e', upi_eq, upi_eq, upi_eq, ← e, upi_eq]
    refine ⟨?_, ?_, rfl⟩
    · rw [upi_ne _ _ (by omega), upi_ne _ _ (by omega), upi_eq]
      unfold cdR
      rw [if_neg (by omega), if_neg (by omega), if_neg (by omega)]
    · rw [upi_ne _ _ (by omega), upi_eq]
  · have q := h4 a a0 (by omega)
    have e' : a ≠ XF X 8 1 3 := by omega
    rw [upi_ne _ _ e', upi_ne _ _ e', upi_ne _ _ e']
    refine ⟨?_, ?_, ?_⟩
    · rw [upi_ne _ _ (by omega), upi_ne _ _ (by omega), upi_ne _ _ (by omega)]; exact q.1
    · rw [upi_ne _ _ (by omega), upi_ne _ _ (by omega), upi_ne _ _ (by omega)]; exact q.2.1
    · rw [upi_ne _ _ (by omega), upi_ne _ _ (by omega), upi_ne _ _ (by omega)]; exact q.2.2
theorem PenR_wait {X Z : XS} {t i j k i' j' k' s : Int} (h : PenR X Z (t + 1) i j k) (t0 : 0 ≤ t) (m1 : XF X 8 1 3 < 40) (hc : (s = 18 ∧ XR Z 77 0 t = 20 ∧ i = 0 ∧ j = 0 ∧ i' = 0 ∧ j' = 0 ∧ k' = k + 1 ∧ k ≤ 8) ∨ (s = 17 ∧ XR Z 77 0 t = 21 ∧ i = 0 ∧ j = 0 ∧ i' = 0 ∧ j' = 1 ∧ k' = k) ∨ (s = 16 ∧ XR Z 77 0 t = 22 ∧ i = 0 ∧ i' = 1 ∧ j' = j ∧ k' = k)) : PenR (adX X s 0 0) Z t i' j' k' := by
  obtain ⟨h1, h2, h3, h4, h5, h6⟩ := h
  refine ⟨⟨by omega, by omega, by omega, by omega, by omega⟩, ⟨by omega, by rw [ad_m]; omega, by rw [ad_o]; exact h2.2.2⟩, ⟨by omega, by rw [ad_m]; omega⟩, fun a a0 a1 => ?_, fun a a0 a1 => ?_, fun a a0 a1 => ?_⟩
  · rw [ad_36, ad_37, ad_38, upi_ne _ _ (by omega), upi_ne _ _ (by omega), upi_ne _ _ (by omega)]
    exact h4 a a0 a1
  · rw [ad_m] at a1
    rw [ad_36, ad_37, ad_38]
    by_cases e : a = XF X 8 1 3
    · rw [e, upi_eq, upi_eq, upi_eq]
      refine ⟨rfl, rfl, ?_⟩
      rcases hc with c | c | c <;> ((repeat' split) <;> omega)
    · have q := h5 a a0 (by omega)
      rw [upi_ne _ _ e, upi_ne _ _ e, upi_ne _ _ e]
      refine ⟨q.1, q.2.1, ?_⟩
      rw [q.2.2]
      rcases hc with c | c | c <;> ((repeat' split) <;> omega)
  · by_cases e : a = t
    · rw [e]
      rcases hc with c | c | c
      · rw [c.2.1, if_neg (by omega), if_neg (by omega)]
      · rw [c.2.1, if_neg (by omega), if_pos (by omega)]
      · rw [c.2.1, if_pos (by omega)]
    · rw [h6 a (by omega) (by omega)]
      rcases hc with c | c | c <;> ((repeat' split) <;> omega)
theorem r_leafOf {f0 : Nat} {Y : YS} {X Z : XS} (g : GY Y) (W : WF Z) (c : TokC X) (r : TokR X Z) (rs : RsC X) : fX12_leafOf f0 (Ad Y 12 0) (hp Y Z) = some (iI (if 19 ≤ XF X 4 0 8 then XF X 4 0 8 - 19 else -1), hp Y Z) := by
  have kr := key_rg c
  by_cases q : 19 ≤ XF X 4 0 8
  · rw [if_pos q]
    rcases (by omega : XF X 4 0 8 = 19 ∨ XF X 4 0 8 = 20 ∨ XF X 4 0 8 = 21 ∨ XF X 4 0 8 = 22 ∨ XF X 4 0 8 = 23 ∨ XF X 4 0 8 = 24 ∨ XF X 4 0 8 = 25 ∨ XF X 4 0 8 = 26) with e | e | e | e | e | e | e | e <;>
      simp (disch := first | assumption | omega) only [fX12_leafOf, ob2_some, k_12, rw_19 g W c r rs, rw_20 g W c r rs, rw_21 g W c r rs, rw_22 g W c r rs, rw_23 g W c r rs, rw_24 g W c r rs, rw_25 g W c r rs, rw_26 g W c r rs, li_0, li_1, li_2, li_3, li_4, li_5, li_6, li_7, bI_i0, ite_n, e, Int.reduceEq, if_true, if_false, Int.reduceSub]
  · rw [if_neg q]
    have n19 : ¬ XF X 4 0 8 = 19 := by omega
    have n20 : ¬ XF X 4 0 8 = 20 := by omega
    have n21 : ¬ XF X 4 0 8 = 21 := by omega
    have n22 : ¬ XF X 4 0 8 = 22 := by omega
    have n23 : ¬ XF X 4 0 8 = 23 := by omega
    have n24 : ¬ XF X 4 0 8 = 24 := by omega
    have n25 : ¬ XF X 4 0 8 = 25 := by omega
    have n26 : ¬ XF X 4 0 8 = 26 := by omega
    simp (disch := first | assumption | omega) only [fX12_leafOf, ob2_some, k_12, rw_19 g W c r rs, rw_20 g W c r rs, rw_21 g W c r rs, rw_22 g W c r rs, rw_23 g W c r rs, rw_24 g W c r rs, rw_25 g W c r rs, rw_26 g W c r rs, li_0, li_1, bI_i0, ite_n, if_neg n19, if_neg n20, if_neg n21, if_neg n22, if_neg n23, if_neg n24, if_neg n25, if_neg n26, iI_neg]
