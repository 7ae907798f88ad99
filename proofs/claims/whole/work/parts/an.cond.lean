/-! A SENTENCE IS READ: conditions joined by OR -/
theorem j_condL {f0 : Nat} {Y : YS} {S : Int → Int} {d : Int} {rr : Nat → Nat → Int32 → Hp → Option (Int32 × Hp)} (g : GY Y) (d0 : 1 ≤ d) (d9 : d ≤ 9) (hf : 2000 ≤ f0) (ih : JR f0 Y S 1 d (rr 1)) {X0 : XS} (ds0 : DSn X0 S) : ∀ (n f : Nat) (X : XS) (v2 : Int), (20 - v2).toNat = n → n < f → 0 ≤ v2 → WF X → FrC X0 X → TokC X → XF X 4 0 8 ≠ 17 → KC X S → DSn X S → hgX X = hgX X0 + 1 → 2 * XF X0 9 0 3 + XF X 8 1 3 + 1 ≤ 2 * XF X 9 0 3 + XF X0 8 1 3 → XF X0 9 0 3 < XF X 9 0 3 → XF X 4 0 10 = XF X0 4 0 10 → v2 + 1 ≤ XF X 9 0 3 → XF X0 4 0 6 ≤ XF X 4 0 6 → (∀ Z t f, RPre X0 Z S 0 t d (XF X0 4 0 3 + 5) f → ∃ f' Z', Lp f0 Y f Z = Lp f0 Y f' Z' ∧ RPost X Z Z' 0 t d (XF X0 4 0 3 + 5) f') → ∃ b X', bX9_readCond_12 f0 rr f (Ad Y 9 0) (iI d) (iI v2) (hp Y X) = some (b, hp Y X') ∧ WF X' ∧ FrC X0 X' ∧ ((b = 0 ∧ JF f0 Y S 0 d X0 X') ∨ (b = 1 ∧ JT f0 Y S 0 d X0 X')) := by
  intro n
  induction n using Nat.strongRecOn with
  | _ n IH =>
  intro f X v2 hn hnf v0 W fr c n17 kc ds hg sl on z10 vo ps post
  obtain ⟨f, rfl⟩ : ∃ m, f = m + 1 := ⟨f - 1, by omega⟩
  have o20 := ds.1.2.2.2
  have kr := key_rg c
  have hr0 := hgX_rg ds0
  have st := StO_1 g
  have nv : ¬ 20 ≤ v2 := by omega
  by_cases k17 : XF X 4 0 8 = 16
  · have k1 := (key_1 c (by omega)).1
    obtain ⟨X1, e1, r1, W1, c1, lt1, k1'⟩ := j_step (f0 := f0) g W c (by omega) hf
    have kc1 := KC_fr (FrC_rd r1) kc
    have m1 := r1.1 8 1 3 (by omega)
    have o1 := r1.1 9 0 3 (by omega)
    have l1 : XF X1 4 0 3 = XF X0 4 0 3 := by rw [r1.1 4 0 3 (by omega)]; exact fr.1 4 0 3 (by omega)
    have h1 := hgX_x r1
    have fr1 := FrC_trans fr (FrC_rd r1)
    obtain ⟨b, X2, e2, W2, f2, hh⟩ := ih X1 W1 c1 kc1 (DSn_x r1 ds)
    have ref : ∀ Z t f, RPre X0 Z S 0 t d (XF X0 4 0 3 + 5) f → ∃ f1 Z3, Lp f0 Y f Z = Lp f0 Y f1 Z3 ∧ TxO Z Z3 ∧ (∀ a, 0 ≤ a → a < t → XR Z3 77 0 a = XR Z 77 0 a) ∧ XR Z3 77 0 t = 22 ∧ 0 ≤ t ∧ RPre X1 Z3 S 1 (t + 1) d (XF X1 4 0 3 + 5) f1 := fun Z t f p => by
      obtain ⟨f', Z', q1, q2, q3, q4, ⟨i, j, k, q5, q6, q7, q8, q9⟩, q10, q11, q12⟩ := post Z t f p
      obtain ⟨WZ, r, kz, pn, p43, p44, pf, pb, pt⟩ := p
      have p1 := pn.1
      have c3 := c.2.2.1
      have l3 : XF X 4 0 3 = XF X0 4 0 3 := fr.1 4 0 3 (by omega)
      have hb : t = 0 ∨ XR Z' 77 0 (t - 1) = 23 := by
        rcases pb with w | w | w | w
        · exact .inl w
        · omega
        · omega
        · by_cases t0 : t = 0
          · exact .inl t0
          · right; rw [q11 (t - 1) (by omega) (by omega)]; exact w.2
      have s11 := (q4.2.2.2.2.1 k1).1
      obtain ⟨Z2, W2', g2, pn2, d2, r2, be⟩ := be_j (f0 := f0) (Y := Y) g q2 c q4 kc.1 q5 (v := 22) (.inl ⟨rfl, k17, hb⟩) (by omega) (by omega)
      obtain ⟨Z3, u1, u2, u3, u4⟩ := k1' _ (WF_jn W2' (t := t) (c := 22) (by omega) ⟨by decide, by decide⟩) (TokR_s RdS_id jn_nx r2)
      have bo : fX12_behind f0 (Ad Y 12 0) (hp Y Z') = some (1, hp Y Z3) := by rw [be, u1]; exact zr_i1
      obtain ⟨f', rfl⟩ : ∃ m, f' = m + 1 := ⟨f' - 1, by omega⟩
      have tx : TxO Z Z3 := TxO_nx (TxO_trans (TxO_trans q3 (CdF_tx g2)) jn_tx) u2
      obtain ⟨a1, a2, a3⟩ := jn_pre (X := X) (Z2 := Z2) (S := S) (t := t) (d := d) (c := 22) (K := XF X1 4 0 3 + 5) (lv := 1) (f1 := f') (Z3 := Z3) (X1 := X1) (by omega) d9 (by omega) u3 u4 (KZ_fr fr1 tx kz) pn2 r1 u2 (by omega) (by omega) (.inr ⟨rfl, rfl⟩)
      exact ⟨f', Z3, by rw [q1]; exact L_bok g q2 q10 (by omega) bo, tx, fun a a0 at' => by rw [a3 a at', g2.2.1 77 0 (by omega)]; exact q11 a a0 at', a2, by omega, a1⟩
    rcases hh with ⟨b0, fa, kk⟩ | ⟨b1, t2, ds2, kx2, h2, s2, o2, z2, p2, kk⟩
    · subst b0
      refine ⟨0, X2, ?_, W2, FrC_trans fr1 f2, .inl ⟨rfl, fa, fun Z t f p => ?_⟩⟩
      · simp (disch := first | assumption | omega | exact W_fl W _ _ _ | exact W_fh W _ _ _ | exact W_rl W _ _ _ | exact W_rh W _ _ _) only [bX9_readCond_12, g_9_0, g_4_8, g_9_2, k_4, k_9, k_8, li_0, li_1, li_20, li_16, ob2, iI_add, Option.bind_some, iI_le, if_neg nv, iI_eq, if_pos k17, e1, e2, if_true]
        exact zr_i0
      · obtain ⟨f1, Z3, q1, q2, q3, q4, q5, q6⟩ := ref Z t f p
        obtain ⟨Z', l1, l2, l3, l4⟩ := kk Z3 (t + 1) f1 q6
        exact ⟨Z', by rw [q1]; exact l1, l2, TxOE q2 l3, l4⟩
    · subst b1
      have d2 := ds2.1
      have dd : XF X2 8 1 3 + hgX X2 ≤ 2 * XF X2 9 0 3 := d2.2.1
      have ad := e_addS (f0 := f0) (Y := Y) st W2 (a := 16) (b := 0) (c := 0) d2.1 (by omega)
      have rz : Rg (0 : Int) := ⟨by decide, by decide⟩
      have hd : (if (16 : Int) = 18 then (0 : Int) else if (16 : Int) = 17 ∨ (16 : Int) = 16 then -1 else 1) = -1 := by decide
      have cl : bX9_readCond_12 f0 rr (f + 1) (Ad Y 9 0) (iI d) (iI v2) (hp Y X) = bX9_readCond_12 f0 rr f (Ad Y 9 0) (iI d) (iI (v2 + 1)) (hp Y (adX X2 16 0 0)) := by
        simp (disch := first | assumption | omega | exact W_fl W _ _ _ | exact W_fh W _ _ _ | exact W_rl W _ _ _ | exact W_rh W _ _ _) only [bX9_readCond_12, g_9_0, g_4_8, g_9_2, k_4, k_9, k_8, li_0, li_1, li_20, li_16, ob2, iI_add, Option.bind_some, iI_le, if_neg nv, iI_eq, if_pos k17, e1, e2, Int.reduceEq, if_false, ad]
        rfl
      rw [cl]
      refine IH (n - 1) (by omega) f (adX X2 16 0 0) (v2 + 1) (by omega) (by omega) (by omega) (ad_W W2 ⟨by decide, by decide⟩ rz rz d2.1 (by omega)) (FrC_trans (FrC_trans fr1 f2) ad_Fr) (TokC_s ad_Rd t2) (kx2.1 (by decide)) (KC_fr ad_Fr (KC_fr f2 kc1)) (DSn_ad ds2 (by rw [hd]; omega) ⟨by omega, fun w => by omega, fun _ => by omega, fun w => by omega, fun w => by omega, fun w => by omega⟩) (by rw [ad_hg d2.1, hd]; omega) (by rw [ad_m, ad_o]; omega) (by rw [ad_o]; omega) (show XF X2 4 0 10 = XF X0 4 0 10 from z2.trans ((r1.1 4 0 10 (by omega)).trans z10)) (by rw [ad_o]; omega) (show XF X0 4 0 6 ≤ XF X2 4 0 6 by omega) (fun Z t f p => ?_)
      obtain ⟨f1, Z3, q1, q2, q3, q4, q5, q6⟩ := ref Z t f p
      obtain ⟨f', Z', l1', l2, l3, l4, ⟨i, j, k, l5, l6, l7, l8, l9⟩, l10, l11, l12⟩ := kk Z3 (t + 1) f1 q6
      have i0 := l7 (by decide)
      subst i0
      have z77 : XR Z' 77 0 t = 22 := by rw [l11 t q5 (by omega)]; exact q4
      refine ⟨f', Z', by rw [q1]; exact l1', l2, TxO_trans q2 l3, TokR_s ad_Rd ⟨fun _ _ => rfl, rfl, rfl⟩ l4, ⟨1, j, k, PenR_wait l5 q5 (by omega) (.inr (.inr ⟨rfl, z77, rfl, rfl, rfl, rfl⟩)), l6, fun w => absurd w (by decide), fun w => absurd w (by decide), l9⟩, l10, fun a a0 a1 => by rw [l11 a a0 (by omega)]; exact q3 a a0 a1, ?_⟩
      show XF X0 4 0 3 + 5 ≤ f' + XF X2 4 0 6
      rw [← l1]; exact l12
  · refine ⟨1, X, ?_, W, fr, .inr ⟨rfl, c, ds, ⟨fun _ => n17, fun _ => k17⟩, hg, sl, on, z10, ps, post⟩⟩
    simp (disch := first | assumption | omega | exact W_fl W _ _ _ | exact W_fh W _ _ _ | exact W_rl W _ _ _ | exact W_rh W _ _ _) only [bX9_readCond_12, g_9_0, g_4_8, g_9_2, k_4, k_9, k_8, li_0, li_1, li_20, li_16, ob2, iI_add, Option.bind_some, iI_le, if_neg nv, iI_eq, if_neg k17]
    exact zr_i1
