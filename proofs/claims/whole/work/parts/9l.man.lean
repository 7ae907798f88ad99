/-! A LINE OF A MAN -/
def SkF (X X' : XS) (m : Int) : Prop := (∀ s k f, ¬ (s = 4 ∧ k = 0 ∧ 4 ≤ f ∧ f ≤ 9) → XF X' s k f = XF X s k f) ∧ (∀ t k, ¬ (t = 31 ∧ k = 1) → XR X' t k = XR X t k) ∧ (∀ i, i ≠ m → XR X' 31 1 i = XR X 31 1 i) ∧ (∀ s k, ¬ (s = 4 ∧ k = 0) → XJ X' s k = XJ X s k) ∧ XP X' = XP X ∧ XM X' = XM X
def SkZ (Z Z' : XS) : Prop := (∀ s k f, ¬ (s = 12 ∧ k = 0 ∧ (f = 4 ∨ 11 ≤ f ∧ f ≤ 14 ∨ f = 18)) → XF Z' s k f = XF Z s k f) ∧ (∀ t k, ¬ t = 62 → XR Z' t k = XR Z t k) ∧ (∀ s k, ¬ (s = 12 ∧ k = 0) → XJ Z' s k = XJ Z s k) ∧ XP Z' = XP Z ∧ XM Z' = XM Z
theorem SkF_refl {X : XS} {m : Int} : SkF X X m := ⟨fun _ _ _ _ => rfl, fun _ _ _ => rfl, fun _ _ => rfl, fun _ _ _ => rfl, rfl, rfl⟩
theorem SkZ_refl {X : XS} : SkZ X X := ⟨fun _ _ _ _ => rfl, fun _ _ _ => rfl, fun _ _ _ => rfl, rfl, rfl⟩
theorem SkF_trans {X X1 X2 : XS} {m : Int} (h : SkF X X1 m) (h' : SkF X1 X2 m) : SkF X X2 m := ⟨fun s k f q => (h'.1 s k f q).trans (h.1 s k f q), fun s k q => (h'.2.1 s k q).trans (h.2.1 s k q), fun i q => (h'.2.2.1 i q).trans (h.2.2.1 i q), fun s k q => (h'.2.2.2.1 s k q).trans (h.2.2.2.1 s k q), h'.2.2.2.2.1.trans h.2.2.2.2.1, h'.2.2.2.2.2.trans h.2.2.2.2.2⟩
theorem SkZ_trans {X X1 X2 : XS} (h : SkZ X X1) (h' : SkZ X1 X2) : SkZ X X2 := ⟨fun s k f q => (h'.1 s k f q).trans (h.1 s k f q), fun s k q => (h'.2.1 s k q).trans (h.2.1 s k q), fun s k q => (h'.2.2.1 s k q).trans (h.2.2.1 s k q), h'.2.2.2.1.trans h.2.2.2.1, h'.2.2.2.2.trans h.2.2.2.2⟩
theorem SkF_rd {X X' : XS} {m : Int} (h : RdF X X') : SkF X X' m := ⟨h.1, fun _ _ _ => by rw [h.2.1], fun _ _ => by rw [h.2.1], h.2.2.1, h.2.2.2⟩
theorem SkZ_nx {X X' : XS} (h : NxF X X') : SkZ X X' := ⟨fun s k f q => h.1 s k f (by omega), fun _ _ _ => by rw [h.2.1], h.2.2.1, h.2.2.2⟩
theorem SkF_C {X X' : XS} {m : Int} (h : SkF X X' m) : FrC X X' := ⟨fun s k f q => h.1 s k f (by omega), fun t k q => h.2.1 t k (by omega), fun s k q => h.2.2.2.1 s k (by omega), h.2.2.2.2⟩
theorem SkZ_R {X X' : XS} (h : SkZ X X') : FrR X X' := ⟨fun s k f q => h.1 s k f (by omega), fun t k q => h.2.1 t k (by omega), fun s k q => h.2.2.1 s k (by omega), fun i _ => by rw [h.2.2.1 64 0 (by omega)], h.2.2.2⟩
def SkC (X : XS) (m i : Int) : Prop := WF X ∧ TokC X ∧ RsC X ∧ NmS X 1 4 ∧ XR X 25 1 4 ≤ 6 ∧ (0 ≤ m ∧ m < 8) ∧ (0 ≤ XR X 31 1 m ∧ XR X 31 1 m < 64) ∧ pc (XR X 31 1 m).toNat = i
def SkR (X Z : XS) (m : Int) : Prop := WF Z ∧ TokR X Z ∧ RsR Z ∧ DN X Z (upi (XR Z 62 0) 3 (m + 1)) ∧ (∀ s, isN s → 0 ≤ ncS (upi (XR Z 62 0) 3 (m + 1)) s ∧ ncS (upi (XR Z 62 0) 3 (m + 1)) s ≤ 8) ∧ XR Z 62 0 (272 + m) = XR X 31 1 m ∧ XR Z 62 0 3 = m
theorem pc_6a : ∀ n, n < 64 → pc n ≤ 6 := by decide +kernel
theorem pc_6b : ∀ r, r < 6 → ∀ n, n < 64 → n.testBit r = false → pc (n ||| 2 ^ r) = pc n + 1 := by decide +kernel
theorem pc_ior {v r : Int} (v0 : 0 ≤ v) (v1 : v < 64) (r0 : 0 ≤ r) (r6 : r < 6) (h : ¬ bitI v r = true) : pc (ior v (pw r)).toNat = pc v.toNat + 1 := by
  have hl : v.toNat ||| 2 ^ r.toNat < 2 ^ 6 := Nat.or_lt_two_pow (by omega) (Nat.pow_lt_pow_right (by decide) (by omega))
  have e := ior_nat v.toNat (2 ^ r.toNat) (by omega)
  rw [show ((v.toNat : Nat) : Int) = v by omega] at e
  have e2 : ior v (pw r) = ((v.toNat ||| 2 ^ r.toNat : Nat) : Int) := e
  rw [e2, Int.toNat_natCast]
  exact pc_6b r.toNat (by omega) v.toNat (by omega) (by unfold bitI at h; simpa using h)
theorem most4 : mostI (iI 4) = some (iI 6) := by decide +kernel
theorem sk_loop {f0 : Nat} {Y : YS} (g : GY Y) (hf : 2000 ≤ f0) (m : Int) (n : Nat) : ∀ (X : XS) (f f' : Nat) (i : Int), (XF X 4 0 3 - XF X 4 0 6).toNat ≤ n → n < f → n < f' → SkC X m i → ∃ X',
    (bX7_readSkills_12 f0 f (Ad Y 7 0) (iI m) (iI i) (hp Y X) = some (0, hp Y X') ∧ WF X' ∧ FrC X X' ∧ FaC X' ∧ ∀ Z, SkR X Z m → ∃ Z', bX12_readMan_47 f0 f' (Ad Y 12 0) (iI m) (hp Y Z) = some (0, hp Y Z') ∧ WF Z' ∧ FrR Z Z' ∧ FaR X' Z') ∨
    (bX7_readSkills_12 f0 f (Ad Y 7 0) (iI m) (iI i) (hp Y X) = some (1, hp Y X') ∧ SkF X X' m ∧ WF X' ∧ TokC X' ∧ (0 ≤ XR X' 31 1 m ∧ XR X' 31 1 m < 64) ∧ XF X 4 0 6 ≤ XF X' 4 0 6 ∧ ∀ Z, SkR X Z m → ∃ Z', bX12_readMan_47 f0 f' (Ad Y 12 0) (iI m) (hp Y Z) = some (1, hp Y Z') ∧ WF Z' ∧ TokR X' Z' ∧ SkZ Z Z' ∧ XR Z' 62 0 = upi (upi (XR Z 62 0) (272 + m) (XR X' 31 1 m)) 3 (m + 1)) := by
  induction n using Nat.strongRecOn with
  | _ n ih =>
  intro X f f' i hn hf1 hf2 hc
  obtain ⟨W, tc, rs, nm, r6, m8, sk, pi⟩ := hc
  have g1 := SeO_1 g
  have m0 := m8.1; have m1 := m8.2
  have hs4 : isN 4 := .inr (.inr (.inl rfl))
  have i6 := pc_6a (XR X 31 1 m).toNat (by omega)
  have ir := pc_rg (XR X 31 1 m).toNat
  have i0 : ¬ (6 : Int) < i := by omega
  have sr := so_rg tc
  obtain ⟨f1, rfl⟩ : ∃ f1, f = f1 + 1 := ⟨f - 1, by omega⟩
  obtain ⟨f2, rfl⟩ : ∃ f2, f' = f2 + 1 := ⟨f' - 1, by omega⟩
  by_cases sg : XF X 4 0 5 = 59
  · refine ⟨X, .inr ⟨?_, SkF_refl, W, tc, sk, Int.le_refl _, fun Z hz => ?_⟩⟩
    · simp (disch := first | assumption | omega | exact W_fl W _ _ _ | exact W_fh W _ _ _ | exact W_rl W _ _ _ | exact W_rh W _ _ _) only [bX7_readSkills_12, g_7_0, g_4_5, g_7_1, g_6_0, g_6_8, k_4, l_31, s_31, lm_1, li_0, li_1, li_4, li_59, li_31, li_3, ob2, iI_add, Option.bind_some, iI_neg, most4, iI_lt, if_neg i0, iI_eq, if_pos sg]
      exact zr_i1
    · obtain ⟨WZ, tr, rz, dn, nc, h272, h3⟩ := hz
      have m9 : m + 1 ≤ 9 := by omega
      refine ⟨sR Z 62 0 (upi (XR Z 62 0) 3 (m + 1)), ?_, W_R WZ fun j => ?_, TokR_s RdS_refl ⟨fun _ _ => rfl, rfl, rfl⟩ tr, ⟨fun _ _ _ _ => rfl, fun t k q => by rw [XR_sR, if_neg (fun z => q z.1)], fun _ _ _ => rfl, rfl, rfl⟩, ?_⟩
      · simp (disch := first | assumption | omega) only [bX12_readMan_47, g_12_7, k_12, l_62, s_62, li_0, li_1, li_59, li_272, li_3, ob2, iI_add, Option.bind_some, r_isSign g WZ tc tr (s := 59) (.inl rfl), bI_i0, ite_n, if_pos sg, h3]
        exact zr_i1
      · rw [upi_at]; split
        · exact ⟨by omega, by omega⟩
        · exact WZ.2 _ _ _
      · show upi (XR Z 62 0) 3 (m + 1) = _
        congr 1
        funext j
        rw [upi_at]; split
        · rename_i e; rw [e, h272]
        · rfl
  · obtain ⟨r, X1, eL, hL | hL⟩ := j_look (f0 := f0) g1 W tc rs nm hs4 (by omega)
    · obtain ⟨r1, W1, F1, fa1, k1⟩ := hL
      have eL' : fX4_look f0 (Ad Y 4 0) (Ad Y 3 1) (iI 4) (hp Y X) = some (iI (-1), hp Y X1) := by rw [← r1]; exact eL
      refine ⟨X1, .inl ⟨?_, W1, F1, fa1, fun Z hz => ?_⟩⟩
      · simp (disch := first | assumption | omega | exact W_fl W _ _ _ | exact W_fh W _ _ _ | exact W_rl W _ _ _ | exact W_rh W _ _ _) only [bX7_readSkills_12, g_7_0, g_4_5, g_7_1, g_6_0, g_6_8, k_4, l_31, s_31, lm_1, li_0, li_1, li_4, li_59, li_31, li_3, ob2, iI_add, Option.bind_some, iI_neg, most4, iI_lt, if_neg i0, iI_eq, if_neg sg, iI_neg, eL', if_true]
        rfl
      · obtain ⟨WZ, tr, rz, dn, nc, h272, h3⟩ := hz
        obtain ⟨Z', z1, z2, z3, z4⟩ := k1 Z _ 30 46 ⟨WZ, tr, rz, dn, nc, by decide, by decide⟩ rfl
        have z1' : fX12_looksAt f0 (Ad Y 12 0) (iI 46) (iI (XR Z 62 0 2)) (hp Y Z) = some (0, hp Y Z') := z1
        have tr1 := (r_role (f0 := f0) g WZ (s := 272 + m) (by omega) (by omega) (by rw [h272]; exact sk.1) (by rw [h272]; exact sk.2)).1 Z' z1'
        refine ⟨Z', ?_, z2, z3, z4⟩
        simp (disch := first | assumption | omega) only [bX12_readMan_47, g_12_7, k_12, l_62, s_62, li_0, li_1, li_59, li_272, li_3, ob2, iI_add, Option.bind_some, r_isSign g WZ tc tr (s := 59) (.inl rfl), bI_i0, ite_n, if_neg sg, tr1, if_true]
        rfl
    · obtain ⟨r0, eX, so1, ky, k1⟩ := hL
      rw [eX] at eL
      have r8 : r < 6 := by omega
      have nr : ¬ r = -1 := by omega
      have r0' := r0.1
      have tc4 := tc.2.2.2.1 (by omega)
      by_cases bt : bitI (XR X 31 1 m) r = true
      · have rc := rf_C W tc (k := 3) (by decide) (by decide)
        refine ⟨rfC X 3, .inl ⟨?_, rc.1, rc.2.1, rc.2.2, fun Z hz => ?_⟩⟩
        · have s1 := sk.1; have s2 := sk.2
          simp (disch := first | assumption | omega | exact W_fl W _ _ _ | exact W_fh W _ _ _ | exact W_rl W _ _ _ | exact W_rh W _ _ _) only [bX7_readSkills_12, g_7_0, g_4_5, g_7_1, g_6_0, g_6_8, k_4, l_31, s_31, lm_1, li_0, li_1, li_4, li_59, li_31, li_3, ob2, iI_add, Option.bind_some, iI_neg, most4, iI_lt, if_neg i0, iI_eq, if_neg sg, iI_neg, eL, if_neg nr, ii_bit, bI_i0, ite_n, if_pos bt, e_refuse g]
          rfl
        · obtain ⟨WZ, tr, rz, dn, nc, h272, h3⟩ := hz
          obtain ⟨bb, z1⟩ := k1 Z _ 30 46 ⟨WZ, tr, rz, dn, nc, by decide, by decide⟩ rfl
          have z1' : fX12_looksAt f0 (Ad Y 12 0) (iI 46) (iI (XR Z 62 0 2)) (hp Y Z) = some (1, hp Y (sF Z 12 0 18 r)) := z1
          have tr1 := ((r_role (f0 := f0) g WZ (s := 272 + m) (by omega) (by omega) (by rw [h272]; exact sk.1) (by rw [h272]; exact sk.2)).2 r r0.1 (by omega) z1').1 (by rw [h272]; exact bt)
          have W18 : WF (sF Z 12 0 18 r) := W_F WZ (by omega) (by omega)
          have t18 : TokR X (sF Z 12 0 18 r) := tr
          have rq := rf_R W18 tc t18 (k := 3) (by decide) (by decide)
          refine ⟨_, ?_, rq.1, FrR_trans (FrR_F FrR_refl (by decide)) rq.2.1, rq.2.2⟩
          simp (disch := first | assumption | omega) only [bX12_readMan_47, g_12_7, k_12, l_62, s_62, li_0, li_1, li_59, li_272, li_3, ob2, iI_add, Option.bind_some, r_isSign g WZ tc tr (s := 59) (.inl rfl), bI_i0, ite_n, if_neg sg, tr1, if_true]
          rfl
      · have io := ior_64 sk.1 sk.2 r0.1 r8
        obtain ⟨v, hv⟩ : ∃ v, v = ior (XR X 31 1 m) (pw r) := ⟨_, rfl⟩
        rw [← hv] at io
        have io1 := io.1
        obtain ⟨X2, hX2⟩ : ∃ X2, X2 = sR X 31 1 (upi (XR X 31 1) m v) := ⟨_, rfl⟩
        have sd : RdS X X2 := by rw [hX2]; exact ⟨fun _ => rfl, rfl, rfl, rfl⟩
        have W2 : WF X2 := by rw [hX2]; exact W_u W (by omega) (by omega)
        obtain ⟨X3, e3, r3, W3, t3, lt3, k3⟩ := j_step (f0 := f0) g W2 (TokC_s sd tc) (by rw [sd.1]; omega) hf
        have x31 : XR X3 31 1 = upi (XR X 31 1) m v := by rw [r3.2.1, hX2]; rfl
        have xR : ∀ t k, ¬ (t = 31 ∧ k = 1) → XR X3 t k = XR X t k := fun t k q => by rw [r3.2.1, hX2, XR_sR, if_neg (fun z => q ⟨z.1, z.2⟩)]
        have xF : ∀ s k f, ¬ (s = 4 ∧ k = 0 ∧ 4 ≤ f ∧ f ≤ 9) → XF X3 s k f = XF X s k f := fun s k f q => by rw [r3.1 s k f q, hX2]; rfl
        have xJ : ∀ s k, ¬ (s = 4 ∧ k = 0) → XJ X3 s k = XJ X s k := fun s k q => by rw [r3.2.2.1 s k q, hX2]; rfl
        have xm : XR X3 31 1 m = v := by rw [x31, upi_eq]
        have sf : SkF X X3 m := ⟨xF, xR, fun j hj => by rw [x31, upi_at, if_neg hj], xJ, by rw [r3.2.2.2.1, hX2]; rfl, by rw [r3.2.2.2.2, hX2]; rfl⟩
        have sc3 : SkC X3 m (i + 1) := by
          refine ⟨W3, t3, fun j hj => by rw [xJ 21 0 (by omega)]; exact rs j hj, ?_, by rw [xR 25 1 (by omega)]; exact r6, m8, by rw [xm]; exact io1, by rw [xm, hv, pc_ior sk.1 sk.2 r0.1 r8 bt, pi]⟩
          unfold NmS at *
          rw [xF 3 1 3 (by omega), xR 25 1 (by omega), xR 23 1 (by omega), xR 24 1 (by omega)]; exact nm
        have fs := xF 4 0 3 (by omega)
        rw [sd.1] at lt3
        obtain ⟨X', hh⟩ := ih (n - 1) (by omega) X3 f1 f2 (i + 1) (by omega) (by omega) (by omega) sc3
        have cl : bX7_readSkills_12 f0 (f1 + 1) (Ad Y 7 0) (iI m) (iI i) (hp Y X) = bX7_readSkills_12 f0 f1 (Ad Y 7 0) (iI m) (iI (i + 1)) (hp Y X3) := by
          have s1 := sk.1; have s2 := sk.2
          simp (disch := first | assumption | omega | exact W_fl W _ _ _ | exact W_fh W _ _ _ | exact W_rl W _ _ _ | exact W_rh W _ _ _) only [bX7_readSkills_12, g_7_0, g_4_5, g_7_1, g_6_0, g_6_8, k_4, l_31, s_31, lm_1, li_0, li_1, li_4, li_59, li_31, li_3, ob2, iI_add, Option.bind_some, iI_neg, most4, iI_lt, if_neg i0, iI_eq, if_neg sg, iI_neg, eL, if_neg nr, ii_bit, bI_i0, ite_n, if_neg bt, ii_one, iI_or, ← hv, ← hX2, e3]
        have rf : ∀ Z, SkR X Z m → ∃ Z3, bX12_readMan_47 f0 (f2 + 1) (Ad Y 12 0) (iI m) (hp Y Z) = bX12_readMan_47 f0 f2 (Ad Y 12 0) (iI m) (hp Y Z3) ∧ SkR X3 Z3 m ∧ SkZ Z Z3 ∧ XR Z3 62 0 = upi (XR Z 62 0) (272 + m) v := fun Z hz => by
          obtain ⟨WZ, tr, rz, dn, nc, h272, h3⟩ := hz
          obtain ⟨bb, z1⟩ := k1 Z _ 30 46 ⟨WZ, tr, rz, dn, nc, by decide, by decide⟩ rfl
          have z1' : fX12_looksAt f0 (Ad Y 12 0) (iI 46) (iI (XR Z 62 0 2)) (hp Y Z) = some (1, hp Y (sF Z 12 0 18 r)) := z1
          have tr1 := ((r_role (f0 := f0) g WZ (s := 272 + m) (by omega) (by omega) (by rw [h272]; exact sk.1) (by rw [h272]; exact sk.2)).2 r r0.1 (by omega) z1').2 (by rw [h272]; exact bt)
          rw [h272, ← hv] at tr1
          obtain ⟨Z2, hZ2⟩ : ∃ Z2, Z2 = sR (sF Z 12 0 18 r) 62 0 (upi (XR Z 62 0) (272 + m) v) := ⟨_, rfl⟩
          rw [← hZ2] at tr1
          have WZ2 : WF Z2 := by
            rw [hZ2]; refine W_R (W_F WZ (by omega) (by omega)) fun j => ?_
            rw [upi_at]; split
            · exact ⟨by omega, by omega⟩
            · exact WZ.2 _ _ _
          obtain ⟨Z3, z3, n3, WZ3, tr3⟩ := k3 Z2 WZ2 (TokR_s sd (by rw [hZ2]; exact ⟨fun f hf => by rcases hf with h | h | h | h | h | h <;> subst h <;> rfl, rfl, rfl⟩) tr)
          rw [z3] at tr1
          have tr1' := tr1.trans zr_i1
          have q62 : XR Z3 62 0 = upi (XR Z 62 0) (272 + m) v := by rw [n3.2.1, hZ2]; rfl
          have o : ∀ j, 0 ≤ j → j ≤ 3 → upi (XR Z3 62 0) 3 (m + 1) j = upi (XR Z 62 0) 3 (m + 1) j := fun j j0 j3 => by
            rw [q62]
            by_cases e : j = 3
            · rw [e, upi_eq, upi_eq]
            · rw [upi_at, if_neg e, upi_at, if_neg (by omega), upi_at, if_neg e]
          refine ⟨Z3, ?_, ⟨WZ3, tr3, fun j hj => ?_, ?_, fun s hs => ?_, ?_, ?_⟩, ?_, q62⟩
          · simp (disch := first | assumption | omega) only [bX12_readMan_47, g_12_7, k_12, l_62, s_62, li_0, li_1, li_59, li_272, li_3, ob2, iI_add, Option.bind_some, r_isSign g WZ tc tr (s := 59) (.inl rfl), bI_i0, ite_n, if_neg sg, tr1', iI_eq, Int.reduceEq, if_false]
          · rw [n3.2.2.1 65 0 (by omega), hZ2]; exact rz j hj
          · have d1 := NamI_S9 (S' := upi (XR Z3 62 0) 3 (m + 1)) o dn
            have a1 : XJ Z3 64 0 = XJ Z 64 0 := by rw [n3.2.2.1 64 0 (by omega), hZ2]; rfl
            unfold DN; rw [xJ 22 1 (by omega), xR 23 1 (by omega), xR 24 1 (by omega), xF 3 1 3 (by omega), a1]; exact d1
          · have cr := ci_rg s
            have q := nc s hs
            rw [nc_ci] at q ⊢
            rw [o _ cr.1 cr.2]; exact q
          · rw [q62, upi_eq, xm]
          · rw [q62, upi_at, if_neg (by omega)]; exact h3
          · refine SkZ_trans ?_ (SkZ_nx n3)
            rw [hZ2]
            refine ⟨fun s k f q => ?_, fun t k q => by rw [XR_sR, if_neg (fun z => q z.1)]; rfl, fun _ _ _ => rfl, rfl, rfl⟩
            rw [XF_sR, XF_sF, if_neg (by omega)]
        refine ⟨X', ?_⟩
        rcases hh with ⟨h1, h2, h3, h4, h5⟩ | ⟨h1, h2, h3, h4, h5, h6, h7⟩
        · left
          refine ⟨by rw [cl]; exact h1, h2, FrC_trans (SkF_C sf) h3, h4, fun Z hz => ?_⟩
          obtain ⟨Z3, z1, z2, z3, z4⟩ := rf Z hz
          obtain ⟨Z', y1, y2, y3, y4⟩ := h5 Z3 z2
          exact ⟨Z', by rw [z1]; exact y1, y2, FrR_trans (SkZ_R z3) y3, y4⟩
        · right
          refine ⟨by rw [cl]; exact h1, SkF_trans sf h2, h3, h4, h5, by omega, fun Z hz => ?_⟩
          obtain ⟨Z3, z1, z2, z3, z4⟩ := rf Z hz
          obtain ⟨Z', y1, y2, y3, y4, y5⟩ := h7 Z3 z2
          refine ⟨Z', by rw [z1]; exact y1, y2, y3, SkZ_trans z3 y4, ?_⟩
          rw [y5, z4, upi_upi]
