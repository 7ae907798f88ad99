/-! A SENTENCE IS READ, from its first letter to its end -/
def SnI (Z X : XS) (n : Int) (S : Int → Int) : Prop := WF Z ∧ (∀ i, 0 ≤ i → i < 940 → XR X 20 0 i = XR Z 60 0 i) ∧ (XF Z 12 0 3 = n ∧ XF Z 12 0 4 = 0 ∧ XF Z 12 0 5 = 200) ∧ KZ X Z S ∧ (XF Z 12 0 40 = 0 ∧ XF Z 12 0 41 = 0 ∧ XF Z 12 0 42 = 0 ∧ XF Z 12 0 43 = 1 ∧ XF Z 12 0 44 = 0)
abbrev Sn1 (f0 : Nat) (Y : YS) (Z : XS) : Option (Int32 × Hp) := (fX12_next f0 (Ad Y 12 0) (hp Y Z)).bind fun h => bX12_sentence_48 f0 f0 (Ad Y 12 0) (iI 1) h
theorem j_sen {f0 : Nat} {Y : YS} {X : XS} {S : Int → Int} {n : Int} (g : GY Y) (W : WF X) (bt : byR (XR X 20 0)) (kc : KC X S) (n0 : 0 ≤ n) (n1 : n ≤ 940) (hf : 2000 ≤ f0) : ∃ b X', fX9_read f0 (Ad Y 9 0) (iI n) (hp Y X) = some (iI b, hp Y X') ∧ WF X' ∧ TxF X X' ∧ (XF X' 11 0 1 = XF X 11 0 1 ∧ XF X' 12 0 2 = XF X 12 0 2) ∧ ((FaC X' ∧ ∀ Z, SnI Z X n S → ∃ Z', Sn1 f0 Y Z = some (iI (-1 - XF X' 4 0 11), hp Y Z') ∧ WF Z' ∧ TxE Z Z' ∧ FaR X' Z') ∨ (XF X' 4 0 10 = 0 ∧ b = XF X' 9 0 3 ∧ DSn X' S ∧ ∀ Z, SnI Z X n S → ∃ Z', Sn1 f0 Y Z = some (iI b, hp Y (sR Z' 61 0 (tlS S (XR Z' 63 0) (3 * XF X' 8 1 3) (XF X' 8 1 3)))) ∧ WF Z' ∧ TxO Z Z' ∧ PenR X' Z' 0 0 0 0)) := by
  obtain ⟨Xo, eo, Wo, to, fo, so, ⟨oF, oR, oJ, oP, oM⟩, ko⟩ := j_open (f0 := f0) (X := X) g W bt n0 n1 (m := 200) (by decide) (by decide) hf
  obtain ⟨X2, hX2⟩ : ∃ X2, X2 = sF (sF Xo 8 1 3 0) 9 0 3 0 := ⟨_, rfl⟩
  have W2 : WF X2 := by rw [hX2]; exact W_F (W_F Wo (by decide) (by decide)) (by decide) (by decide)
  have rs2 : RdS Xo X2 := by rw [hX2]; exact ⟨fun _ => rfl, rfl, rfl, rfl⟩
  have t2 := TokC_s rs2 to
  have x3 : XF X2 3 0 3 = XF X 3 0 3 := by rw [hX2]; exact oF 3 0 3 (by omega)
  have xR : XR X2 = XR X := by rw [hX2]; exact oR
  have xJ : ∀ s k, ¬ s = 4 → XJ X2 s k = XJ X s k := fun s k q => by rw [hX2]; exact oJ s k q
  have m2 : XF X2 8 1 3 = 0 := by rw [hX2]; rfl
  have o2 : XF X2 9 0 3 = 0 := by rw [hX2]; rfl
  have z2 : XF X2 4 0 10 = 0 := by rw [hX2]; exact fo
  have kc2 : KC X2 S := by
    unfold KC RsC NmS at *
    rw [xR, xJ 21 0 (by omega), x3]; exact kc
  have ds2 : DSn X2 S := by
    refine ⟨⟨by omega, ?_, by omega, by omega⟩, fun a ha => by omega⟩
    rw [m2, o2]; show 0 + hgS (XR X2 36 1) 0 ≤ _; exact Int.le_refl _
  have tx2 : TxF X X2 := by
    rw [hX2]
    exact TxF_F (TxF_F ⟨fun s k f q => oF s k f (by omega), fun s k _ => by rw [oR], fun s k q => oJ s k (by omega), fun i _ => by rw [oJ 64 0 (by omega)], oP, oM⟩ (by decide)) (by decide)
  have y2 : XF X2 11 0 1 = XF X 11 0 1 := by rw [hX2]; exact oF 11 0 1 (by omega)
  have y2' : XF X2 12 0 2 = XF X 12 0 2 := by rw [hX2]; exact oF 12 0 2 (by omega)
  obtain ⟨b, X3, e3, W3, f3, hh⟩ := (j_rec (f0 := f0) (Y := Y) (S := S) g hf 40 1 (by decide) (by decide)).1 (by decide) X2 W2 t2 kc2 ds2
  have tx3 : TxF X X3 := TxF_trans tx2 (TxF_C f3)
  have y3 : XF X3 11 0 1 = XF X 11 0 1 ∧ XF X3 12 0 2 = XF X 12 0 2 := ⟨by rw [f3.1 11 0 1 (by omega)]; exact y2, by rw [f3.1 12 0 2 (by omega)]; exact y2'⟩
  have cl : fX9_read f0 (Ad Y 9 0) (iI n) (hp Y X) = if b = 0 then some (iI (-1), hp Y X3) else ob2 (fX4_passEnd f0 (Ad Y 4 0) (hp Y X3)) fun x h => if x = 0 then some (iI (-1), h) else (gfI 9 3 h (Ad Y 9 0)).bind fun x => some (x, h) := by
    rw [show (iI (-1)) = (-1 : Int32) from rfl]
    have st1 := StO_1 g
    have e3' : rX9 f0 40 0 (Ad Y 9 0) (iI 1) (hp Y (sF (sF Xo 8 1 3 0) 9 0 3 0)) = some (b, hp Y X3) := by rw [← hX2]; exact e3
    simp (disch := first | assumption | omega) only [fX9_read, fX8_clear, g_9_0, g_9_2, k_4, k_8, k_9, p_8_3, p_9_3, li_200, li_1, Option.bind_some, eo, li_0, e3', ob2]
    rfl
  have pre : ∀ Z, SnI Z X n S → ∃ Z1, Sn1 f0 Y Z = Lp f0 Y f0 Z1 ∧ TxO Z Z1 ∧ XR Z1 61 0 = S ∧ RPre X2 Z1 S 0 0 1 (XF X2 4 0 3 + 5) f0 := fun Z hs => by
    obtain ⟨WZ, tp, ⟨h3, h4, h5⟩, kz, h40, h41, h42, h43, h44⟩ := hs
    obtain ⟨Z1, u1, u2, u3, u4⟩ := ko Z WZ tp h3 h4 h5
    have tx : TxO Z Z1 := TxO_nx TxO_refl u2
    have kz2 : KZ X2 Z1 S := by
      refine KZ_fr FrC_refl tx ⟨kz.1, ?_, kz.2.2⟩
      rw [xJ 22 0 (by omega), xR, x3]; exact kz.2.1
    have q40 := (u2.1 12 0 40 (by omega)).trans h40
    have q41 := (u2.1 12 0 41 (by omega)).trans h41
    have q42 := (u2.1 12 0 42 (by omega)).trans h42
    have tc := t2.1.2; have tc3 := t2.2.2.1
    refine ⟨Z1, by unfold Sn1; rw [u1]; rfl, tx, kz2.2.2.2, u3, TokR_s rs2 NxS_refl u4, kz2, ⟨⟨by omega, by omega, by omega, by omega, by omega⟩, ⟨by omega, by omega, by omega⟩, ⟨by omega, by omega⟩, fun a a0 a1 => by omega, fun a a0 a1 => by omega, fun a a0 a1 => by omega⟩, (u2.1 12 0 43 (by omega)).trans h43, (u2.1 12 0 44 (by omega)).trans h44, by omega, .inl rfl, by omega⟩
  rcases hh with ⟨b0, fa, kk⟩ | ⟨b1, t3, ds3, kx, h3, s3, o3, z3, p3, kk⟩
  · refine ⟨-1, X3, by rw [cl, if_pos b0], W3, tx3, y3, .inl ⟨fa, fun Z hs => ?_⟩⟩
    obtain ⟨Z1, q1, q2, _, q3⟩ := pre Z hs
    obtain ⟨Z', l1, l2, l3, l4⟩ := kk Z1 0 f0 q3
    exact ⟨Z', by rw [q1]; exact l1, l2, TxOE q2 l3, l4⟩
  · have bn : ¬ b = 0 := by rw [b1]; decide
    have c3 := t3.2.2.1
    have e43 : XF X3 4 0 3 = XF X2 4 0 3 := f3.1 4 0 3 (by omega)
    obtain ⟨pe1, pe0⟩ := e_passEnd (f0 := f0) (Y := Y) g W3 t3
    by_cases en : XF X3 4 0 5 = 0 ∧ XF X3 4 0 2 = XF X3 4 0 3
    · refine ⟨XF X3 9 0 3, X3, ?_, W3, tx3, y3, .inr ⟨z3.trans z2, rfl, ds3, fun Z hs => ?_⟩⟩
      · rw [cl, if_neg bn, pe1 en, ob2_some, if_neg (by decide), g_9_3 g, Option.bind_some]
      · obtain ⟨Z1, q1, q2, q61, q3⟩ := pre Z hs
        obtain ⟨f', Z', l1, l2, l3, l4, ⟨i, j, k, l5, l6, l7, l8, l9⟩, l10, l11, l12⟩ := kk Z1 0 f0 q3
        have h11 : XF Z' 12 0 11 = 0 := (tk_0 t3 l4).2 en
        obtain ⟨f', rfl⟩ : ∃ m, f' = m + 2 := ⟨f' - 2, by omega⟩
        have p5 := l5.1
        obtain ⟨Z2, W2', g2, pn2, r2, _, kE⟩ := L_end (f0 := f0) (f := f' + 1) (Y := Y) g l2 t3 l4 l5 (.inl rfl) ⟨by omega, by omega⟩ l10 h11 (by omega)
        have p2 := pn2.2.1; have p3' := pn2.2.2.1
        have z61 : XR Z2 61 0 = S := by rw [g2.2.1 61 0 (by omega), l3.1.1.2.1 61 0 (by omega)]; exact q61
        have tl := r_tail (f0 := f0) (Y := Y) (Z := Z2) g W2' (m := XF X3 8 1 3) (by omega) (by omega) (by omega) (by omega) f'
        rw [z61] at tl
        refine ⟨Z2, ?_, W2', TxO_trans (TxO_trans q2 l3) (CdF_tx g2), pn2⟩
        rw [q1, l1, kE rfl, tl, p2.2.2]
    · obtain ⟨w1, w2, w3⟩ := rf_C W3 t3 (k := 1) (by decide) (by decide)
      refine ⟨-1, rfC X3 1, ?_, w1, TxF_trans tx3 (TxF_C w2), y3, .inl ⟨w3, fun Z hs => ?_⟩⟩
      · rw [cl, if_neg bn, pe0 en, ob2_some, if_pos rfl]
      · obtain ⟨Z1, q1, q2, q61, q3⟩ := pre Z hs
        obtain ⟨f', Z', l1, l2, l3, l4, ⟨i, j, k, l5, l6, l7, l8, l9⟩, l10, l11, l12⟩ := kk Z1 0 f0 q3
        have h11 : ¬ XF Z' 12 0 11 = 0 := fun w => en ((tk_0 t3 l4).1 w)
        obtain ⟨f', rfl⟩ : ∃ m, f' = m + 1 := ⟨f' - 1, by omega⟩
        have p5 := l5.1
        obtain ⟨Z2, W2', g2, pn2, d2, r2, k1, _⟩ := be_x (f0 := f0) (Y := Y) g l2 t3 l4 (KC_fr f3 kc2).1 l5 (.inl rfl) ⟨by omega, by omega⟩ (kx.2 (by decide)) (kx.1 (by decide)) (by omega)
        have rr := rf_R W2' t3 r2 (k := 1) (by decide) (by decide)
        refine ⟨rfR Z2 1, ?_, rr.1, TxOE (TxO_trans (TxO_trans q2 l3) (CdF_tx g2)) (TxE_R rr.2.1), rr.2.2⟩
        rw [q1, l1, L_bbad g l2 l10 h11 (k1 (fun w => by omega))]
        exact s125 g w3 rr.2.2
