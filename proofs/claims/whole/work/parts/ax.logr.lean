/-! A LOG IS READ: line by line -/
theorem ll_12 {f0 : Nat} {Y : YS} {X Z : XS} {S : Int → Int} (g : GY Y) (c : TokC X) (kl : KL X S) (hz : LZ X Z S) (k : XF X 4 0 8 = 12) : fX12_logLine f0 (Ad Y 12 0) (hp Y Z) = bX12_logLine_87 f0 (Ad Y 12 0) (iI (3 * XF Z 12 0 36)) (iI 0) (hp Y Z) := by
  obtain ⟨W, r, kz⟩ := hz
  have rs := kl.1
  unfold fX12_logLine
  simp (disch := first | assumption | omega) only [g_12_36, k_12, Option.bind_some, rw_11 g W c r rs, rw_12 g W c r rs, rw_13 g W c r rs, rw_14 g W c r rs, ob2_some, li_0, li_1, li_2, li_3, li_4, bI_i0, ite_n, k, Int.reduceEq, if_true, if_false, bX12_logLine_64, iI_mul, iI_eq]
theorem ll_11 {f0 : Nat} {Y : YS} {X Z : XS} {S : Int → Int} (g : GY Y) (c : TokC X) (kl : KL X S) (hz : LZ X Z S) (k : XF X 4 0 8 = 11) : fX12_logLine f0 (Ad Y 12 0) (hp Y Z) = bX12_logLine_87 f0 (Ad Y 12 0) (iI (3 * XF Z 12 0 36)) (iI 1) (hp Y Z) := by
  obtain ⟨W, r, kz⟩ := hz
  have rs := kl.1
  unfold fX12_logLine
  simp (disch := first | assumption | omega) only [g_12_36, k_12, Option.bind_some, rw_11 g W c r rs, rw_12 g W c r rs, rw_13 g W c r rs, rw_14 g W c r rs, ob2_some, li_0, li_1, li_2, li_3, li_4, bI_i0, ite_n, k, Int.reduceEq, if_true, if_false, bX12_logLine_64, iI_mul, iI_eq]
theorem ll_13 {f0 : Nat} {Y : YS} {X Z : XS} {S : Int → Int} (g : GY Y) (c : TokC X) (kl : KL X S) (hz : LZ X Z S) (k : XF X 4 0 8 = 13) : fX12_logLine f0 (Ad Y 12 0) (hp Y Z) = bX12_logLine_87 f0 (Ad Y 12 0) (iI (3 * XF Z 12 0 36)) (iI 2) (hp Y Z) := by
  obtain ⟨W, r, kz⟩ := hz
  have rs := kl.1
  unfold fX12_logLine
  simp (disch := first | assumption | omega) only [g_12_36, k_12, Option.bind_some, rw_11 g W c r rs, rw_12 g W c r rs, rw_13 g W c r rs, rw_14 g W c r rs, ob2_some, li_0, li_1, li_2, li_3, li_4, bI_i0, ite_n, k, Int.reduceEq, if_true, if_false, bX12_logLine_64, iI_mul, iI_eq]
theorem ll_14 {f0 : Nat} {Y : YS} {X Z : XS} {S : Int → Int} (g : GY Y) (c : TokC X) (kl : KL X S) (hz : LZ X Z S) (k : XF X 4 0 8 = 14) : fX12_logLine f0 (Ad Y 12 0) (hp Y Z) = bX12_logLine_87 f0 (Ad Y 12 0) (iI (3 * XF Z 12 0 36)) (iI 3) (hp Y Z) := by
  obtain ⟨W, r, kz⟩ := hz
  have rs := kl.1
  unfold fX12_logLine
  simp (disch := first | assumption | omega) only [g_12_36, k_12, Option.bind_some, rw_11 g W c r rs, rw_12 g W c r rs, rw_13 g W c r rs, rw_14 g W c r rs, ob2_some, li_0, li_1, li_2, li_3, li_4, bI_i0, ite_n, k, Int.reduceEq, if_true, if_false, bX12_logLine_64, iI_mul, iI_eq]
theorem ll_4 {f0 : Nat} {Y : YS} {X Z : XS} {S : Int → Int} (g : GY Y) (c : TokC X) (kl : KL X S) (hz : LZ X Z S) (k : ¬ (11 ≤ XF X 4 0 8 ∧ XF X 4 0 8 ≤ 14)) : fX12_logLine f0 (Ad Y 12 0) (hp Y Z) = ob2 (fX12_looksAt f0 (Ad Y 12 0) (iI 22) (iI (S 3)) (hp Y Z)) fun x h => if x = iI 0 then zr (iI 0) h else bX12_logLine_87 f0 (Ad Y 12 0) (iI (3 * XF Z 12 0 36)) (iI 4) h := by
  obtain ⟨W, r, kz⟩ := hz
  have rs := kl.1
  have n11 : ¬ XF X 4 0 8 = 11 := by omega
  have n12 : ¬ XF X 4 0 8 = 12 := by omega
  have n13 : ¬ XF X 4 0 8 = 13 := by omega
  have n14 : ¬ XF X 4 0 8 = 14 := by omega
  have l3 := l_61 (Y := Y) (X := Z) g (i := 3) (by decide) (by decide)
  rw [kz.2.2.2] at l3
  unfold fX12_logLine
  simp (disch := first | assumption | omega) only [g_12_36, g_12_6, k_12, Option.bind_some, rw_11 g W c r rs, rw_12 g W c r rs, rw_13 g W c r rs, rw_14 g W c r rs, ob2_some, li_0, li_3, li_4, li_22, bI_i0, ite_n, if_neg n11, if_neg n12, if_neg n13, if_neg n14, if_true, bX12_logLine_64, iI_mul, l3]
theorem ll_no {f0 : Nat} {Y : YS} {X Z : XS} {S : Int → Int} (g : GY Y) (c : TokC X) (kl : KL X S) (hz : LZ X Z S) (k : ¬ (11 ≤ XF X 4 0 8 ∧ XF X 4 0 8 ≤ 14)) (nn : ¬ (XF X 4 0 5 = 1 ∧ XF X 4 0 8 = -1)) (hf : 2000 ≤ f0) : fX12_logLine f0 (Ad Y 12 0) (hp Y Z) = some (0, hp Y (rfR Z 1)) := by
  rw [ll_4 g c kl hz k]
  obtain ⟨W, r, kz⟩ := hz
  have is5 : isN 5 := by decide
  have nc := (kz.2.2.1 5 is5).1
  have q := (r_look (f0 := f0) (Y := Y) (s := 5) (v := 0) (b := 22) (o := 0) g W c r kl.1 kz.1 kz.2.1 (by decide) (by decide) is5 nc (fun w => absurd w nn) rfl (by omega)).1 nn
  have q' : fX12_looksAt f0 (Ad Y 12 0) (iI 22) (iI (S 3)) (hp Y Z) = some (0, hp Y (rfR Z 1)) := q
  rw [q', ob2_some, if_pos li_0]; exact zr_i0
theorem j_lline {f0 : Nat} {Y : YS} {X : XS} {S : Int → Int} (g : GY Y) (W : WF X) (c : TokC X) (kl : KL X S) (hnc : ∀ s, isN s → ncS S s ≤ 8) (m0 : 0 ≤ XF X 2 0 5) (m1 : XF X 2 0 5 ≤ 40) (hf : 2000 ≤ f0) :
    ∃ X', (fX2_readLine f0 (Ad Y 2 0) (hp Y X) = some (0, hp Y X') ∧ WF X' ∧ FrC X X' ∧ FaC X' ∧ ∀ Z, LZ X Z S → XF Z 12 0 36 = XF X 2 0 5 → ∃ Z', fX12_logLine f0 (Ad Y 12 0) (hp Y Z) = some (0, hp Y Z') ∧ WF Z' ∧ FrR Z Z' ∧ FaR X' Z') ∨ (XF X 2 0 5 < 40 ∧ ∃ a o w, fX2_readLine f0 (Ad Y 2 0) (hp Y X) = bX2_readLine_169 f0 (Ad Y 2 0) (hp Y X') ∧ LgD X X' a o w ∧ ∀ Z, LZ X Z S → XF Z 12 0 36 = XF X 2 0 5 → ∃ Z', fX12_logLine f0 (Ad Y 12 0) (hp Y Z) = some (1, hp Y Z') ∧ WF Z' ∧ TokR X' Z' ∧ LgZ Z Z' (XF X 2 0 5) ∧ LnR S a o w (XR Z' 63 0 (3 * XF X 2 0 5)) (XR Z' 63 0 (3 * XF X 2 0 5 + 1)) (XR Z' 63 0 (3 * XF X 2 0 5 + 2))) := by
  have kr := key_rg c
  by_cases nm : XF X 4 0 5 = 1 ∧ XF X 4 0 8 = -1
  · have is5 : isN 5 := by decide
    obtain ⟨v, X', e, hh⟩ := j_look (f0 := f0) (SeO_0 g) W c kl.1 (kl.2 5 is5).1 is5 (by omega)
    have cl : fX2_readLine f0 (Ad Y 2 0) (hp Y X) = if iI v = (-1 : Int32) then zr 0 (hp Y X') else bX2_readLine_67 f0 (Ad Y 2 0) (iI v) 15 (hp Y X') := by
      unfold fX2_readLine
      rw [g_2_0 g, Option.bind_some, g_4_8 g, Option.bind_some, Option.bind_some, k_4 g, e_isName g W, ob2_some, if_neg (by rw [bI_T nm]; decide), g_2_0 g, Option.bind_some, g_2_1 g, Option.bind_some, k_4 g, li_5, e, ob2_some]
    have k4 : ¬ (11 ≤ XF X 4 0 8 ∧ XF X 4 0 8 ≤ 14) := by omega
    rcases hh with ⟨v1, w1, f1, fa, kk⟩ | ⟨v0, eX, q5, q8, kk⟩
    · refine ⟨X', .inl ⟨by rw [cl, v1, if_pos (show iI (-1) = (-1 : Int32) from rfl)]; exact zr_i0, w1, f1, fa, fun Z hz h36 => ?_⟩⟩
      obtain ⟨Z', l1, l2, l3, l4⟩ := kk Z S 0 22 (KZ_L hz.1 hz.2.1 hz.2.2) rfl
      have l1' : fX12_looksAt f0 (Ad Y 12 0) (iI 22) (iI (S 3)) (hp Y Z) = some (0, hp Y Z') := l1
      refine ⟨Z', ?_, l2, l3, l4⟩
      rw [ll_4 g c kl hz k4, l1', ob2_some, if_pos li_0]; exact zr_i0
    · subst eX
      have n8 := hnc 5 is5
      have e25 := (kl.2 5 is5).2
      have vS : v < S 3 := by have : XR X' 25 0 5 = S 3 := e25; omega
      have n8' : S 3 ≤ 8 := n8
      have nv : ¬ iI v = (-1 : Int32) := by
        rw [show (-1 : Int32) = iI (-1) from rfl, iI_eq (by omega) (by omega) (by omega) (by omega)]; omega
      rw [if_neg nv, li_15] at cl
      obtain ⟨X2, hh⟩ := lo_67 (f0 := f0) (S := S) (v1 := v) (v2 := 15) (r := 4) g W c kl hnc m0 m1 (by omega) ⟨by omega, by omega⟩ (.inr (.inr (.inr (.inr ⟨rfl, rfl, v0.1, vS⟩)))) hf
      have ref : ∀ Z, LZ X' Z S → LZ X' (sF Z 12 0 18 v) S ∧ FrR Z (sF Z 12 0 18 v) ∧ fX12_logLine f0 (Ad Y 12 0) (hp Y Z) = bX12_logLine_87 f0 (Ad Y 12 0) (iI (3 * XF Z 12 0 36)) (iI 4) (hp Y (sF Z 12 0 18 v)) := fun Z hz => by
        obtain ⟨_, l1⟩ := kk Z S 0 22 (KZ_L hz.1 hz.2.1 hz.2.2) rfl
        have l1' : fX12_looksAt f0 (Ad Y 12 0) (iI 22) (iI (S 3)) (hp Y Z) = some (1, hp Y (sF Z 12 0 18 v)) := l1
        have fz : FrR Z (sF Z 12 0 18 v) := FrR_F FrR_refl (by decide)
        have sz : NxS Z (sF Z 12 0 18 v) := ⟨fun f hf => by rcases hf with e | e | e | e | e | e <;> subst e <;> rfl, rfl, rfl⟩
        refine ⟨⟨W_F hz.1 (by omega) (by omega), TokR_s RdS_refl sz hz.2.1, KZ_R FrC_refl fz hz.2.2⟩, fz, ?_⟩
        rw [ll_4 g c kl hz k4, l1', ob2_some, if_neg (by decide)]
      rcases hh with ⟨a1, a2, a3, a4, a5⟩ | ⟨lt, o, a1, a2, a3⟩
      · refine ⟨X2, .inl ⟨by rw [cl]; exact a1, a2, a3, a4, fun Z hz h36 => ?_⟩⟩
        obtain ⟨u1, u2, u3⟩ := ref Z hz
        obtain ⟨Z', l1, l2, l3, l4⟩ := a5 _ u1 h36
        exact ⟨Z', by rw [u3, h36]; exact l1, l2, FrR_trans u2 l3, l4⟩
      · refine ⟨X2, .inr ⟨lt, 15, o, v, by rw [cl]; exact a1, a2, fun Z hz h36 => ?_⟩⟩
        obtain ⟨u1, u2, u3⟩ := ref Z hz
        obtain ⟨Z', l1, l2, l3, l4, l5⟩ := a3 _ u1 h36 (fun _ => rfl)
        exact ⟨Z', by rw [u3, h36]; exact l1, l2, l3, ⟨FrR_trans u2 l4.1, l4.2.1, l4.2.2⟩, l5⟩
  · by_cases kk : 11 ≤ XF X 4 0 8 ∧ XF X 4 0 8 ≤ 14
    · have q5 := (key_1 c (by omega)).1
      have cl : fX2_readLine f0 (Ad Y 2 0) (hp Y X) = bX2_readLine_67 f0 (Ad Y 2 0) (iI (-1)) (iI (XF X 4 0 8)) (hp Y X) := by
        unfold fX2_readLine
        rw [g_2_0 g, Option.bind_some, g_4_8 g, Option.bind_some, Option.bind_some, k_4 g, e_isName g W, ob2_some, if_pos (by rw [bI_F nm]), li_11, if_neg (iNLT (by omega) (by omega) (by omega) (by omega) (by omega)), li_14, if_pos (iLE kk.2 (by omega) (by omega) (by omega) (by omega))]
        rfl
      obtain ⟨r, hr⟩ : ∃ r : Int, (XF X 4 0 8 = 11 ∧ r = 1) ∨ (XF X 4 0 8 = 12 ∧ r = 0) ∨ (XF X 4 0 8 = 13 ∧ r = 2) ∨ (XF X 4 0 8 = 14 ∧ r = 3) := by
        rcases (by omega : XF X 4 0 8 = 11 ∨ XF X 4 0 8 = 12 ∨ XF X 4 0 8 = 13 ∨ XF X 4 0 8 = 14) with q | q | q | q
        · exact ⟨1, .inl ⟨q, rfl⟩⟩
        · exact ⟨0, .inr (.inl ⟨q, rfl⟩)⟩
        · exact ⟨2, .inr (.inr (.inl ⟨q, rfl⟩))⟩
        · exact ⟨3, .inr (.inr (.inr ⟨q, rfl⟩))⟩
      have ref : ∀ Z, LZ X Z S → fX12_logLine f0 (Ad Y 12 0) (hp Y Z) = bX12_logLine_87 f0 (Ad Y 12 0) (iI (3 * XF Z 12 0 36)) (iI r) (hp Y Z) := fun Z hz => by
        rcases hr with ⟨q, q'⟩ | ⟨q, q'⟩ | ⟨q, q'⟩ | ⟨q, q'⟩ <;> rw [q']
        · exact ll_11 g c kl hz q
        · exact ll_12 g c kl hz q
        · exact ll_13 g c kl hz q
        · exact ll_14 g c kl hz q
      obtain ⟨X2, hh⟩ := lo_67 (f0 := f0) (S := S) (v1 := -1) (v2 := XF X 4 0 8) (r := r) g W c kl hnc m0 m1 (by omega) ⟨by decide, by decide⟩ (by omega) hf
      rcases hh with ⟨a1, a2, a3, a4, a5⟩ | ⟨lt, o, a1, a2, a3⟩
      · refine ⟨X2, .inl ⟨by rw [cl]; exact a1, a2, a3, a4, fun Z hz h36 => ?_⟩⟩
        obtain ⟨Z', l1, l2, l3, l4⟩ := a5 Z hz h36
        exact ⟨Z', by rw [ref Z hz, h36]; exact l1, l2, l3, l4⟩
      · refine ⟨X2, .inr ⟨lt, XF X 4 0 8, o, -1, by rw [cl]; exact a1, a2, fun Z hz h36 => ?_⟩⟩
        obtain ⟨Z', l1, l2, l3, l4, l5⟩ := a3 Z hz h36 (fun w => by omega)
        exact ⟨Z', by rw [ref Z hz, h36]; exact l1, l2, l3, l4, l5⟩
    · have rc := rf_C W c (k := 1) (by decide) (by decide)
      refine ⟨rfC X 1, .inl ⟨?_, rc.1, rc.2.1, rc.2.2, fun Z hz h36 => ?_⟩⟩
      · unfold fX2_readLine
        rw [g_2_0 g, Option.bind_some, g_4_8 g, Option.bind_some, Option.bind_some, k_4 g, e_isName g W, ob2_some, if_pos (by rw [bI_F nm]), li_11]
        have b58 : bX2_readLine_58 f0 (Ad Y 2 0) (hp Y X) = some (0, hp Y (rfC X 1)) := by
          unfold bX2_readLine_58
          rw [g_2_0 g, Option.bind_some, k_4 g, li_1, e_refuse g, ob2_some]; exact zr_i0
        by_cases q : XF X 4 0 8 < 11
        · rw [if_pos (iLT q (by omega) (by omega) (by omega) (by omega))]; exact b58
        · rw [if_neg (iNLT q (by omega) (by omega) (by omega) (by omega)), li_14, if_neg (iNLE (by omega) (by omega) (by omega) (by omega) (by omega))]; exact b58
      · have rr := rf_R hz.1 c hz.2.1 (k := 1) (by decide) (by decide)
        exact ⟨rfR Z 1, ll_no g c kl hz kk nm hf, rr.1, rr.2.1, rr.2.2⟩
def LgX (X Z : XS) (S : Int → Int) : Prop := ∀ i, 0 ≤ i → i < XF X 2 0 5 → LnR S (XR X 40 0 i) (XR X 41 0 i) (XR X 42 0 i) (XR Z 63 0 (3 * i)) (XR Z 63 0 (3 * i + 1)) (XR Z 63 0 (3 * i + 2))
abbrev Lr (f0 : Nat) (Y : YS) (v : Int) (f : Nat) (Z : XS) : Option (Int32 × Hp) := bX12_log_39 f0 f (Ad Y 12 0) (iI v) (hp Y Z)
abbrev Lt (f0 : Nat) (Y : YS) (v : Int) (Z : XS) : Option (Int32 × Hp) := (fX12_tries f0 (Ad Y 12 0) (hp Y Z)).bind fun h => bX12_log_89 f0 f0 (Ad Y 12 0) (iI v) 0 h
theorem s62 {f0 : Nat} {Y : YS} {X Z : XS} (g : GY Y) (r : FaR X Z) : bX12_log_62 f0 (Ad Y 12 0) (hp Y Z) = some (iI (-2 - XF X 4 0 11), hp Y Z) := by
  unfold bX12_log_62
  rw [g_12_16 g, Option.bind_some, r.2, show (-2 : Int32) = iI (-2) from rfl, iI_sub]
theorem TxO_36 {X X' : XS} (h : TxO X X') {v : Int} : TxO X (sF X' 12 0 36 v) := ⟨⟨TxF_F h.1.1 (by decide), h.1.2⟩, h.2⟩
theorem j_logL {f0 : Nat} {Y : YS} {S : Int → Int} {v : Int} (g : GY Y) (hnc : ∀ s, isN s → ncS S s ≤ 8) (hf : 2000 ≤ f0) : ∀ (n f : Nat) (X : XS), (40 - XF X 2 0 5).toNat = n → n < f → WF X → TokC X → KL X S → 0 ≤ XF X 2 0 5 → XF X 2 0 5 ≤ 40 → XF X 4 0 10 = 0 → ∃ b X', bX2_read_18 f0 f (Ad Y 2 0) (iI (XF X 2 0 5)) (hp Y X) = some (b, hp Y X') ∧ WF X' ∧ FrC X X' ∧ ((b = 0 ∧ FaC X' ∧ ∀ Z f', LZ X Z S → XF Z 12 0 36 = XF X 2 0 5 → LgX X Z S → n < f' → ∃ Z', Lr f0 Y v f' Z = some (iI (-2 - XF X' 4 0 11), hp Y Z') ∧ WF Z' ∧ TxE Z Z' ∧ FaR X' Z') ∨ (b = 1 ∧ XF X' 4 0 10 = 0 ∧ (0 ≤ XF X' 2 0 5 ∧ XF X' 2 0 5 ≤ 40) ∧ ∀ Z f', LZ X Z S → XF Z 12 0 36 = XF X 2 0 5 → LgX X Z S → n < f' → ∃ Z', Lr f0 Y v f' Z = Lt f0 Y v Z' ∧ WF Z' ∧ TxO Z Z' ∧ XF Z' 12 0 36 = XF X' 2 0 5 ∧ LgX X' Z' S)) := by
  intro n
  induction n using Nat.strongRecOn with
  | _ n IH =>
  intro f X hn hnf W c kl m0 m1 z10
  obtain ⟨f, rfl⟩ : ∃ m, f = m + 1 := ⟨f - 1, by omega⟩
  have sr := so_rg c
  have nv : ¬ (40 : Int) < XF X 2 0 5 := by omega
  by_cases q5 : XF X 4 0 5 = 0
  · have kn : XF X 4 0 8 = -1 := by
      rcases Decidable.em (XF X 4 0 8 = -1) with w | w
      · exact w
      · have := (key_1 c w).1; omega
    obtain ⟨pe1, pe0⟩ := e_passEnd (f0 := f0) (Y := Y) g W c
    have cl : bX2_read_18 f0 (f + 1) (Ad Y 2 0) (iI (XF X 2 0 5)) (hp Y X) = ob2 (fX4_passEnd f0 (Ad Y 4 0) (hp Y X)) fun x h => zr x h := by
      simp (disch := first | assumption | omega) only [bX2_read_18, bX2_read_59, li_40, li_0, iI_lt, if_neg nv, g_2_0, g_4_5, k_4, Option.bind_some, q5, if_true]
    by_cases en : XF X 4 0 5 = 0 ∧ XF X 4 0 2 = XF X 4 0 3
    · refine ⟨1, X, by rw [cl, pe1 en, ob2_some]; exact zr_i1, W, FrC_refl, .inr ⟨rfl, z10, ⟨m0, m1⟩, fun Z f' hz h36 lx hn' => ?_⟩⟩
      obtain ⟨f', rfl⟩ : ∃ m, f' = m + 1 := ⟨f' - 1, by omega⟩
      have h11 : XF Z 12 0 11 = 0 := (tk_0 c hz.2.1).2 en
      refine ⟨Z, ?_, hz.1, TxO_refl, h36, lx⟩
      unfold Lr Lt
      rw [bX12_log_39, g_12_11 g, Option.bind_some, h11, if_pos (show iI 0 = (0 : Int32) from rfl), k_12 g]
    · have rc := rf_C W c (k := 1) (by decide) (by decide)
      refine ⟨0, rfC X 1, by rw [cl, pe0 en, ob2_some]; exact zr_i0, rc.1, rc.2.1, .inl ⟨rfl, rc.2.2, fun Z f' hz h36 lx hn' => ?_⟩⟩
      obtain ⟨f', rfl⟩ : ∃ m, f' = m + 1 := ⟨f' - 1, by omega⟩
      have h11 : ¬ XF Z 12 0 11 = 0 := fun w => en ((tk_0 c hz.2.1).1 w)
      have rr := rf_R hz.1 c hz.2.1 (k := 1) (by decide) (by decide)
      have r11 := hz.1.1 12 0 11
      refine ⟨rfR Z 1, ?_, rr.1, TxE_R rr.2.1, rr.2.2⟩
      unfold Lr
      rw [bX12_log_39, g_12_11 g, Option.bind_some, li_0, if_neg (iNE h11 r11.1 r11.2 (by decide) (by decide)), k_12 g, ll_no g c kl hz (by omega) (by omega) hf, ob2_some, if_pos li_0]
      exact s62 g rr.2.2
  · have cl : bX2_read_18 f0 (f + 1) (Ad Y 2 0) (iI (XF X 2 0 5)) (hp Y X) = ob2 (fX2_readLine f0 (Ad Y 2 0) (hp Y X)) fun x35 h35 => (if x35 = 0 then zr 0 h35 else (gfI 2 5 h35 (Ad Y 2 0)).bind fun x45 => (pf 2 5 h35 (Ad Y 2 0) (.int (x45 + 1))).bind fun h50 => (bX2_read_18 f0 f) (Ad Y 2 0) (iI (XF X 2 0 5) + 1) h50) := by
      rw [bX2_read_18, li_40, if_neg (iNLT nv (by omega) (by omega) (by omega) (by omega)), g_2_0 g, Option.bind_some, g_4_5 g, Option.bind_some, li_0, if_neg (iNE q5 (by omega) (by omega) (by omega) (by omega)), k_2 g]
    have rl : ∀ Z f', LZ X Z S → Lr f0 Y v (f' + 1) Z = ob2 (fX12_logLine f0 (Ad Y 12 0) (hp Y Z)) fun x47 h47 => (if x47 = 0 then bX12_log_62 f0 (Ad Y 12 0) h47 else (ckO 12 h47 (Ad Y 12 0)).bind fun _ => ob2 (fX12_sign f0 (Ad Y 12 0) 59 h47) fun x56 h56 => (if x56 = 0 then bX12_log_62 f0 (Ad Y 12 0) h56 else (gfI 12 36 h56 (Ad Y 12 0)).bind fun x72 => (pf 12 36 h56 (Ad Y 12 0) (.int (x72 + 1))).bind fun h77 => (bX12_log_39 f0 f') (Ad Y 12 0) (iI v) h77)) := fun Z f' hz => by
      have h11 : ¬ XF Z 12 0 11 = 0 := fun w => q5 ((tk_0 c hz.2.1).1 w).1
      have r11 := hz.1.1 12 0 11
      unfold Lr
      rw [bX12_log_39, g_12_11 g, Option.bind_some, li_0, if_neg (iNE h11 r11.1 r11.2 (by decide) (by decide)), k_12 g]
    obtain ⟨X1, hh⟩ := j_lline (f0 := f0) (S := S) g W c kl hnc m0 m1 hf
    rcases hh with ⟨a1, a2, a3, a4, a5⟩ | ⟨lt, a, o, w, a1, a2, a3⟩
    · refine ⟨0, X1, by rw [cl, a1, ob2_some, if_pos rfl]; exact zr_i0, a2, a3, .inl ⟨rfl, a4, fun Z f' hz h36 lx hn' => ?_⟩⟩
      obtain ⟨f', rfl⟩ : ∃ m, f' = m + 1 := ⟨f' - 1, by omega⟩
      obtain ⟨Z', l1, l2, l3, l4⟩ := a5 Z hz h36
      refine ⟨Z', ?_, l2, TxE_R l3, l4⟩
      rw [rl Z f' hz, l1, ob2_some, if_pos rfl]
      exact s62 g l4
    · obtain ⟨d1, d2, d3, d4, d5, d6, d7, d8, d9⟩ := a2
      have ts : tS 59 := by decide
      obtain ⟨X2, hs⟩ := j_sign (f0 := f0) g d1 d3 ts hf
      have c169 : ∀ b X', fX4_passSign f0 (Ad Y 4 0) (iI 59) (hp Y X1) = some (iI b, hp Y X') → bX2_readLine_169 f0 (Ad Y 2 0) (hp Y X1) = zr (iI b) (hp Y X') := fun b X' q => by
        unfold bX2_readLine_169
        rw [g_2_0 g, Option.bind_some, k_4 g, li_59, q, ob2_some]
      rcases hs with ⟨s5, s1, s2, s3, s4, s6, s7⟩ | ⟨s5, s1, s2, s3, s4, s7⟩
      · have x25 : XF X2 2 0 5 = XF X 2 0 5 := by rw [s2.1 2 0 5 (by omega)]; exact d5
        obtain ⟨X3, hX3⟩ : ∃ X3, X3 = sF X2 2 0 5 (XF X 2 0 5 + 1) := ⟨_, rfl⟩
        have x35 : XF X3 2 0 5 = XF X 2 0 5 + 1 := by rw [hX3]; rfl
        have f3 : FrC X X3 := by rw [hX3]; exact FrC_F (FrC_trans d2 (FrC_rd s2)) (by decide)
        have W3 : WF X3 := by rw [hX3]; exact W_F s3 (by omega) (by omega)
        have rd3 : RdS X2 X3 := by rw [hX3]; exact ⟨fun _ => rfl, rfl, rfl, rfl⟩
        have x3R : ∀ s, XR X3 s 0 = XR X1 s 0 := fun s => by rw [hX3]; show XR X2 s 0 = _; rw [s2.2.1]
        have cc : bX2_read_18 f0 (f + 1) (Ad Y 2 0) (iI (XF X 2 0 5)) (hp Y X) = bX2_read_18 f0 f (Ad Y 2 0) (iI (XF X3 2 0 5)) (hp Y X3) := by
          rw [cl, a1, c169 1 X2 s1, zr_i1, ob2_some, if_neg (by decide), g_2_5 g, Option.bind_some, x25, li_1, iI_add, p_2_5 g, Option.bind_some, ← hX3, x35]
        obtain ⟨b, X', e', W', f', hh⟩ := IH (n - 1) (by omega) f X3 (by omega) (by omega) W3 (TokC_s rd3 s4) (KL_fr f3 kl) (by omega) (by omega) (by rw [rd3.1 10, s2.1 4 0 10 (by omega), d6]; exact z10)
        have ref : ∀ Z f', LZ X Z S → XF Z 12 0 36 = XF X 2 0 5 → LgX X Z S → ∃ Z3, Lr f0 Y v (f' + 1) Z = Lr f0 Y v f' Z3 ∧ TxO Z Z3 ∧ LZ X3 Z3 S ∧ XF Z3 12 0 36 = XF X3 2 0 5 ∧ LgX X3 Z3 S := fun Z f' hz h36 lx => by
          obtain ⟨Z1, l1, l2, l3, l4, l5⟩ := a3 Z hz h36
          obtain ⟨Z2, u1, u2, u3, u4⟩ := s7 Z1 l2 l3
          obtain ⟨Z3, hZ3⟩ : ∃ Z3, Z3 = sF Z2 12 0 36 (XF X 2 0 5 + 1) := ⟨_, rfl⟩
          have z36 : XF Z2 12 0 36 = XF X 2 0 5 := by rw [u2.1 12 0 36 (by omega), l4.1.1 12 0 36 (by omega)]; exact h36
          have tz : TxO Z Z3 := by rw [hZ3]; exact TxO_36 (TxO_nx ⟨TxE_R l4.1, l4.2.1⟩ u2)
          have z63 : XR Z3 63 0 = XR Z1 63 0 := by rw [hZ3]; show XR Z2 63 0 = _; rw [u2.2.1]
          have n3 : NxS Z2 Z3 := by rw [hZ3]; exact ⟨fun f hf => by rcases hf with e | e | e | e | e | e <;> subst e <;> rfl, rfl, rfl⟩
          refine ⟨Z3, ?_, tz, ⟨by rw [hZ3]; exact W_F u3 (by omega) (by omega), TokR_s rd3 n3 u4, KZ_fr f3 tz hz.2.2⟩, by rw [x35, hZ3]; rfl, fun i i0 i1 => ?_⟩
          · rw [rl Z f' hz, l1, ob2_some, if_neg (by decide), k_12 g, li_59, u1, ob2_some, if_neg (by decide), g_12_36 g, Option.bind_some, z36, li_1, iI_add, p_12_36 g, Option.bind_some, ← hZ3]
          · rw [x35] at i1
            rw [x3R, x3R, x3R, d7, d8, d9, z63]
            by_cases q : i = XF X 2 0 5
            · rw [q, upi_eq, upi_eq, upi_eq]; exact l5
            · rw [upi_ne _ _ q, upi_ne _ _ q, upi_ne _ _ q, l4.2.2 (3 * i) (by omega), l4.2.2 (3 * i + 1) (by omega), l4.2.2 (3 * i + 2) (by omega)]
              exact lx i i0 (by omega)
        rcases hh with ⟨b0, fa, kk⟩ | ⟨b1, zz, mm, kk⟩
        · refine ⟨b, X', by rw [cc]; exact e', W', FrC_trans f3 f', .inl ⟨b0, fa, fun Z g' hz h36 lx hn' => ?_⟩⟩
          obtain ⟨g', rfl⟩ : ∃ m, g' = m + 1 := ⟨g' - 1, by omega⟩
          obtain ⟨Z3, u1, u2, u3, u4, u5⟩ := ref Z g' hz h36 lx
          obtain ⟨Z', l1, l2, l3, l4⟩ := kk Z3 g' u3 u4 u5 (by omega)
          exact ⟨Z', by rw [u1]; exact l1, l2, TxOE u2 l3, l4⟩
        · refine ⟨b, X', by rw [cc]; exact e', W', FrC_trans f3 f', .inr ⟨b1, zz, mm, fun Z g' hz h36 lx hn' => ?_⟩⟩
          obtain ⟨g', rfl⟩ : ∃ m, g' = m + 1 := ⟨g' - 1, by omega⟩
          obtain ⟨Z3, u1, u2, u3, u4, u5⟩ := ref Z g' hz h36 lx
          obtain ⟨Z', l1, l2, l3, l4, l5⟩ := kk Z3 g' u3 u4 u5 (by omega)
          exact ⟨Z', by rw [u1]; exact l1, l2, TxO_trans u2 l3, l4, l5⟩
      · refine ⟨0, X2, by rw [cl, a1, c169 0 X2 s1, zr_i0, ob2_some, if_pos rfl]; exact zr_i0, s2, FrC_trans d2 s3, .inl ⟨rfl, s4, fun Z f' hz h36 lx hn' => ?_⟩⟩
        obtain ⟨f', rfl⟩ : ∃ m, f' = m + 1 := ⟨f' - 1, by omega⟩
        obtain ⟨Z1, l1, l2, l3, l4, l5⟩ := a3 Z hz h36
        obtain ⟨Z2, u1, u2, u3, u4⟩ := s7 Z1 l2 l3
        refine ⟨Z2, ?_, u2, TxE_R (FrR_trans l4.1 u3), u4⟩
        rw [rl Z f' hz, l1, ob2_some, if_neg (by decide), k_12 g, li_59, u1, ob2_some, if_pos rfl]
        exact s62 g u4
