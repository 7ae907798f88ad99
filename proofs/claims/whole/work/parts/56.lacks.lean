/-! THE REFERENCE'S CASTS, from their start -/
theorem pc_full {m : Nat} (h : m ≤ 8) : pc (2 ^ m - 1) = (m : Int) := by
  have : ∀ m : Nat, m ≤ 8 → pc (2 ^ m - 1) = (m : Int) := by decide +kernel
  exact this m h
def CPost (S : Int → Int) (s : Int) (c n w : Int → Int) : Prop := RgF c ∧ RgF n ∧ RgF w ∧ w 0 = dpV (cSK S) (cNN S s) (cMM S) 0 0 ∧ (pc (cNN S s) ≤ S 3 → PCA S s c)
theorem c101 {f0 : Nat} {Y : YS} {X : XS} {S c n w : Int → Int} {s : Int} (g : GY Y) (hh : CH S s) (Ws : WS S) (hw : RgF w) (hc : RgF c) (hn : RgF n) (hnd : ndd S s n) (lv : LV S s w (cN (cNN S s) 6)) (hf : 1000 ≤ f0) : ∃ c' w', CPost S s c' n w' ∧ bX12_casts_101 f0 f0 (Ad Y 12 0) (iI (cN (cNN S s) 6 - 1)) (hp Y (sR (scr X c n w (cN (cNN S s) 6)) 61 0 S)) = some (hp Y (sR (scr X c' n w' (cN (cNN S s) 6)) 61 0 S)) := by
  have hN : cNN S s < 64 := by have := hh.2.2.2.1; show (S (264 + s)).toNat < 64; omega
  have hm := hh.2.2.1
  have c6 := cN_rg (cNN S s) 6
  refine lp (fun f (z : Int × (Int → Int)) => bX12_casts_101 f0 f (Ad Y 12 0) (iI z.1) (hp Y (sR (scr X c n z.2 (cN (cNN S s) 6)) 61 0 S))) (fun z => RgF z.2 ∧ (-1 ≤ z.1 ∧ z.1 < cN (cNN S s) 6) ∧ LV S s z.2 (z.1 + 1)) (fun z => (z.1 + 1).toNat) (fun r => ∃ c' w', CPost S s c' n w' ∧ r = some (hp Y (sR (scr X c' n w' (cN (cNN S s) 6)) 61 0 S))) ?_ f0 (cN (cNN S s) 6 - 1, w) ⟨hw, ⟨by simp only; omega, by simp only; omega⟩, by simp only [Int.sub_add_cancel]; exact lv⟩ (by simp only; omega)
  intro f ⟨k, w⟩ ⟨h1, h2, h3⟩
  simp only at h1 h2 h3 ⊢
  have dr := dpV_rg (cSK S) (cNN S s) (cMM S) 0 0
  by_cases e : k < 0
  · left
    have lv0 : LV S s w 0 := fun j j0 j1 => h3 j (by omega) j1
    have w0 : w 0 = dpV (cSK S) (cNN S s) (cMM S) 0 0 := lv0 0 (by omega) (by omega) (by omega) 0 (by omega)
    have vv : dpV (cSK S) (cNN S s) (cMM S) 0 0 = if pc (cNN S s) ≤ S 3 then lackF (cSK S) (cNN S s) (cMM S) else 1000000 := by
      unfold dpV
      rw [mns_0, sfx_0 hN, pc_full (by omega)]
      have : (((S 3).toNat : Nat) : Int) = S 3 := by omega
      rw [this]
    have lr := lackF_rg (cSK S) (cNN S s) (cMM S)
    by_cases q : pc (cNN S s) ≤ S 3
    · rw [if_pos q] at vv
      have q' : dpV (cSK S) (cNN S s) (cMM S) 0 0 < 1000000 := by omega
      obtain ⟨c', k1, k2, k3⟩ := c225 (f0 := f0) (X := X) g hh Ws h1 hc hnd lv0 (by rw [pc_full (m := (S 3).toNat) (by omega)]; omega) hf
      refine ⟨c', w, ⟨k1, hn, h1, w0, fun _ => k2⟩, ?_⟩
      simp (disch := first | assumption | omega | exact W_fl W _ _ _ | exact W_fh W _ _ _ | exact W_rl W _ _ _ | exact W_rh W _ _ _ | exact WS_l Ws _ | exact WS_h Ws _) only [bX12_casts_101, g_12_25, l_70, li_0, li_1, li_1000000, iI_add, Option.bind_some, XR_c70, iI_lt, if_pos e, w0, if_pos q', k3]
    · rw [if_neg q] at vv
      have q' : ¬ dpV (cSK S) (cNN S s) (cMM S) 0 0 < 1000000 := by omega
      refine ⟨c, w, ⟨hc, hn, h1, w0, fun z => absurd z q⟩, ?_⟩
      simp (disch := first | assumption | omega | exact W_fl W _ _ _ | exact W_fh W _ _ _ | exact W_rl W _ _ _ | exact W_rh W _ _ _ | exact WS_l Ws _ | exact WS_h Ws _) only [bX12_casts_101, g_12_25, l_70, li_0, li_1, li_1000000, iI_add, Option.bind_some, XR_c70, iI_lt, if_pos e, w0, if_neg q']
  · right
    obtain ⟨r, r6, hr, er⟩ := cN_ex (N := cNN S s) (k := k) (by omega) 6 (by omega)
    obtain ⟨w', k1, k2, k3⟩ := c107 (f0 := f0) (X := X) (c := c) (k := cN (cNN S s) 6) (n := n) g hh Ws h1 (g101 := bX12_casts_101 f0 f) hr er.symm (by rw [← er]; exact hnd r hr) h3 hf
    refine ⟨(k - 1, w'), ?_, ⟨k1, ⟨by simp only; omega, by simp only; omega⟩, by simp only [Int.sub_add_cancel]; exact k2⟩, by simp only; omega⟩
    simp (disch := first | assumption | omega | exact W_fl W _ _ _ | exact W_fh W _ _ _ | exact W_rl W _ _ _ | exact W_rh W _ _ _ | exact WS_l Ws _ | exact WS_h Ws _) only [bX12_casts_101, g_12_25, l_70, li_0, li_1, li_1000000, iI_add, Option.bind_some, iI_lt, if_neg e, k3]
theorem c65 {f0 : Nat} {Y : YS} {X : XS} {S c n w : Int → Int} {s : Int} (g : GY Y) (hh : CH S s) (Ws : WS S) (hw : RgF w) (hc : RgF c) (hn : RgF n) (hnd : ndd S s n) (hf : 1000 ≤ f0) : ∃ c' w', CPost S s c' n w' ∧ bX12_casts_65 f0 f0 (Ad Y 12 0) (iI 0) (hp Y (sR (scr X c n w (cN (cNN S s) 6)) 61 0 S)) = some (hp Y (sR (scr X c' n w' (cN (cNN S s) 6)) 61 0 S)) := by
  have c6 := cN_rg (cNN S s) 6
  refine lp (fun f (z : Nat × (Int → Int)) => bX12_casts_65 f0 f (Ad Y 12 0) (iI (z.1 : Int)) (hp Y (sR (scr X c n z.2 (cN (cNN S s) 6)) 61 0 S))) (fun z => RgF z.2 ∧ z.1 ≤ 256 ∧ ∀ t : Nat, t < z.1 → z.2 (256 * cN (cNN S s) 6 + (t : Int)) = 0) (fun z => 257 - z.1) (fun r => ∃ c' w', CPost S s c' n w' ∧ r = some (hp Y (sR (scr X c' n w' (cN (cNN S s) 6)) 61 0 S))) ?_ f0 (0, w) ⟨hw, by simp only; omega, fun t h => by simp only at h; omega⟩ (by simp only; omega)
  intro f ⟨t, w⟩ ⟨h1, h2, h3⟩
  simp only at h1 h2 h3 ⊢
  by_cases e : (256 : Int) ≤ (t : Int)
  · left
    have lv : LV S s w (cN (cNN S s) 6) := fun j j0 j1 j2 t' ht' => by
      rw [show j = cN (cNN S s) 6 by omega, h3 t' (by omega)]
      unfold dpV
      rw [sfx_end (Int.le_refl _)]
      have p0 : pc 0 = 0 := by decide
      have lf : lackF (cSK S) 0 (mns (cMM S) t') = 0 := by
        unfold lackF
        rcases mx_is (lkV (cSK S) 0 (mns (cMM S) t')) 64 with q | ⟨i, i1, i2⟩
        · exact q
        · rw [← i2]
          unfold lkV
          split
          · rename_i z
            have iz : i = 0 := by simpa using z.symm
            subst iz
            have := mx_0 (lkV (cSK S) 0 (mns (cMM S) t')) 64
            rw [← i2] at this
            unfold lkV at this
            rw [if_pos (by decide)] at this
            have := (knw_rg (cSK S) 0 (mns (cMM S) t')).1
            omega
          · rfl
      rw [p0, lf, if_pos (pc_rg _).1]
    obtain ⟨c', w', k1, k2⟩ := c101 (f0 := f0) (X := X) g hh Ws h1 hc hn hnd lv hf
    refine ⟨c', w', k1, ?_⟩
    simp (disch := first | assumption | omega | exact W_fl W _ _ _ | exact W_fh W _ _ _ | exact W_rl W _ _ _ | exact W_rh W _ _ _ | exact WS_l Ws _ | exact WS_h Ws _) only [bX12_casts_65, g_12_26, g_12_25, s_70, li_0, li_1, li_256, iI_add, iI_mul, iI_sub, Option.bind_some, iI_le, if_pos e, XF_c26, k2]
  · right
    refine ⟨(t + 1, upi w (256 * cN (cNN S s) 6 + (t : Int)) 0), ?_, ⟨RgF_u h1 (by decide) (by decide), by simp only; omega, fun t' ht' => ?_⟩, by simp only; omega⟩
    · simp (disch := first | assumption | omega | exact W_fl W _ _ _ | exact W_fh W _ _ _ | exact W_rl W _ _ _ | exact W_rh W _ _ _ | exact WS_l Ws _ | exact WS_h Ws _) only [bX12_casts_65, g_12_26, g_12_25, s_70, li_0, li_1, li_256, iI_add, iI_mul, iI_sub, Option.bind_some, iI_le, if_neg e, XF_c26, XR_c70, sR_c70]
      rfl
    · simp only at ht'
      show upi w (256 * cN (cNN S s) 6 + (t : Int)) 0 _ = 0
      by_cases q : t' = t
      · subst q; rw [upi_eq]
      · rw [upi_ne _ _ (by omega)]; exact h3 t' (by omega)
theorem scr_id {X : XS} : scr X (XR X 68 0) (XR X 69 0) (XR X 70 0) (XF X 12 0 26) = X := by
  unfold scr
  rw [sR_self, sR_self, sR_self]
  unfold sF up3
  refine Prod.ext ?_ rfl
  funext a b c
  show (if a = 12 ∧ b = 0 ∧ c = 26 then XF X 12 0 26 else X.1 a b c) = X.1 a b c
  split
  · rename_i h; rw [h.1, h.2.1, h.2.2]; rfl
  · rfl
theorem r_casts {f0 : Nat} {Y : YS} {X : XS} {S : Int → Int} {s : Int} (g : GY Y) (hh : CH S s) (W : WF X) (Ws : WS S) (hf : 1000 ≤ f0) : ∃ c n w, CPost S s c n w ∧ fX12_casts f0 (Ad Y 12 0) (iI s) (hp Y (sR X 61 0 S)) = some (hp Y (sR (scr X c n w (cN (cNN S s) 6)) 61 0 S)) := by
  have hN : cNN S s < 64 := by have := hh.2.2.2.1; show (S (264 + s)).toNat < 64; omega
  have n1 := hh.2.2.2.1
  have r2 := hh.2.1
  have s8 := hh.1
  have hc : RgF (XR X 68 0) := fun i => W.2 68 0 i
  have hw : RgF (XR X 70 0) := fun i => W.2 70 0 i
  have z : fX12_casts f0 (Ad Y 12 0) (iI s) (hp Y (sR X 61 0 S)) = bX12_casts_7 f0 f0 (Ad Y 12 0) (iI s) (iI 0) (hp Y (sR (scr X (XR X 68 0) (XR X 69 0) (XR X 70 0) 0) 61 0 S)) := by
    conv => lhs; rw [← scr_id (X := X)]
    simp (disch := first | assumption | omega | exact W_fl W _ _ _ | exact W_fh W _ _ _ | exact W_rl W _ _ _ | exact W_rh W _ _ _ | exact WS_l Ws _ | exact WS_h Ws _) only [fX12_casts, p_12_26, li_0, Option.bind_some, iI_add, sF_c26]
  rw [z]
  refine lp (fun f (z : Nat × (Int → Int)) => bX12_casts_7 f0 f (Ad Y 12 0) (iI s) (iI (z.1 : Int)) (hp Y (sR (scr X (XR X 68 0) z.2 (XR X 70 0) (cN (cNN S s) z.1)) 61 0 S))) (fun z => RgF z.2 ∧ (z.1 : Int) ≤ S 2 ∧ ∀ r : Nat, r < z.1 → (cNN S s).testBit r = true → z.2 (cN (cNN S s) r) = (r : Int)) (fun z => 17 - z.1) (fun r => ∃ c n w, CPost S s c n w ∧ r = some (hp Y (sR (scr X c n w (cN (cNN S s) 6)) 61 0 S))) ?_ f0 (0, XR X 69 0) ⟨fun i => W.2 69 0 i, by simp only; omega, fun r h => by simp only at h; omega⟩ (by simp only; omega)
  intro f ⟨r, n⟩ ⟨h1, h2, h3⟩
  simp only at h1 h2 h3 ⊢
  have cr := cN_rg (cNN S s) r
  by_cases e : S 2 ≤ (r : Int)
  · left
    have c66 : cN (cNN S s) r = cN (cNN S s) 6 := by
      apply Int.le_antisymm (cN_mono (by omega))
      apply Int.not_lt.mp
      intro q
      obtain ⟨r', a1, a2, a3⟩ := cN_ex (N := cNN S s) cr.1 6 q
      have b1 := hh.2.2.2.2.1 r' a2
      have := cN_lt a2 (show r' < r by omega)
      omega
    have nd : ndd S s n := fun r' hr' => h3 r' (by have := hh.2.2.2.2.1 r' hr'; omega) hr'
    obtain ⟨c', w', k1, k2⟩ := c65 (f0 := f0) (X := X) g hh Ws hw hc h1 nd hf
    refine ⟨c', n, w', k1, ?_⟩
    rw [c66]
    simp (disch := first | assumption | omega | exact W_fl W _ _ _ | exact W_fh W _ _ _ | exact W_rl W _ _ _ | exact W_rh W _ _ _ | exact WS_l Ws _ | exact WS_h Ws _) only [bX12_casts_7, g_12_6, g_12_24, g_12_26, p_12_26, l61, s61, l_69, s_69, li_0, li_1, li_2, li_264, ob2, iI_add, Option.bind_some, iI_le, if_pos e, k2]
  · right
    have lz : ∀ r', (cNN S s).testBit r' = true → n (cN (cNN S s) r') = n (cN (cNN S s) r') := fun _ _ => rfl
    by_cases a : (cNN S s).testBit r = true
    · have a' : bitI (S (264 + s)) (r : Int) = true := a
      have cs := cN_s (cNN S s) r
      rw [if_pos a] at cs
      have cl := cN_rg (cNN S s) (r + 1)
      refine ⟨(r + 1, upi n (cN (cNN S s) r) (r : Int)), ?_, ⟨RgF_u h1 (by omega) (by omega), by simp only; omega, fun r' hr' hb' => ?_⟩, by simp only; omega⟩
      · simp only [cs]
        simp (disch := first | assumption | omega | exact W_fl W _ _ _ | exact W_fh W _ _ _ | exact W_rl W _ _ _ | exact W_rh W _ _ _ | exact WS_l Ws _ | exact WS_h Ws _) only [bX12_casts_7, bX12_casts_57, g_12_6, g_12_24, g_12_26, p_12_26, l61, s61, l_69, s_69, li_0, li_1, li_2, li_264, ob2, iI_add, Option.bind_some, iI_le, if_neg e, r_bitOf, bI_i0, ite_n, if_pos a', XF_c26, XR_c69, sR_c69, sF_c26]
        rfl
      · simp only at hr'
        show upi n (cN (cNN S s) r) (r : Int) (cN (cNN S s) r') = _
        by_cases q : r' = r
        · subst q; rw [upi_eq]
        · have := cN_lt hb' (show r' < r by omega)
          rw [upi_ne _ _ (by omega)]; exact h3 r' (by omega) hb'
    · have a' : ¬ bitI (S (264 + s)) (r : Int) = true := a
      have cs := cN_s (cNN S s) r
      rw [if_neg a, Int.add_zero] at cs
      refine ⟨(r + 1, n), ?_, ⟨h1, by simp only; omega, fun r' hr' hb' => ?_⟩, by simp only; omega⟩
      · simp only [cs]
        simp (disch := first | assumption | omega | exact W_fl W _ _ _ | exact W_fh W _ _ _ | exact W_rl W _ _ _ | exact W_rh W _ _ _ | exact WS_l Ws _ | exact WS_h Ws _) only [bX12_casts_7, bX12_casts_57, g_12_6, g_12_24, g_12_26, p_12_26, l61, s61, l_69, s_69, li_0, li_1, li_2, li_264, ob2, iI_add, Option.bind_some, iI_le, if_neg e, r_bitOf, bI_i0, ite_n, if_neg a']
        rfl
      · simp only at hr'
        by_cases q : r' = r
        · subst q; exact absurd hb' a
        · exact h3 r' (by omega) hb'
def lacksS (S : Int → Int) (s : Int) : Int := if pc (cNN S s) ≤ S 3 then lackF (cSK S) (cNN S s) (cMM S) else -1
theorem r_lacksOf {f0 : Nat} {Y : YS} {X : XS} {S : Int → Int} {s : Int} (g : GY Y) (hh : CH S s) (W : WF X) (Ws : WS S) (hf : 1000 ≤ f0) : ∃ c n w, CPost S s c n w ∧ fX12_lacksOf f0 (Ad Y 12 0) (iI s) (hp Y (sR X 61 0 S)) = some (iI (lacksS S s), hp Y (sR (scr X c n w (cN (cNN S s) 6)) 61 0 S)) := by
  obtain ⟨c, n, w, hp1, e⟩ := r_casts (f0 := f0) g hh W Ws hf
  refine ⟨c, n, w, hp1, ?_⟩
  have hN : cNN S s < 64 := by have := hh.2.2.2.1; show (S (264 + s)).toNat < 64; omega
  have hm := hh.2.2.1
  have w0 := hp1.2.2.2.1
  have lr := lackF_rg (cSK S) (cNN S s) (cMM S)
  have vv : dpV (cSK S) (cNN S s) (cMM S) 0 0 = if pc (cNN S s) ≤ S 3 then lackF (cSK S) (cNN S s) (cMM S) else 1000000 := by
    unfold dpV
    rw [mns_0, sfx_0 hN, pc_full (by omega)]
    have : (((S 3).toNat : Nat) : Int) = S 3 := by omega
    rw [this]
  rw [vv] at w0
  unfold lacksS
  by_cases q : pc (cNN S s) ≤ S 3
  · rw [if_pos q] at w0 ⊢
    have q' : lackF (cSK S) (cNN S s) (cMM S) < 1000000 := by omega
    simp (disch := first | assumption | omega | exact W_fl W _ _ _ | exact W_fh W _ _ _ | exact W_rl W _ _ _ | exact W_rh W _ _ _ | exact WS_l Ws _ | exact WS_h Ws _) only [fX12_lacksOf, g_12_25, k_12, l_70, lm_1, li_0, li_1000000, li_1, Option.bind_some, iI_add, iI_neg, e, XR_c70, w0, iI_lt, if_pos q']
  · rw [if_neg q] at w0 ⊢
    have q' : ¬ (1000000 : Int) < 1000000 := by omega
    simp (disch := first | assumption | omega | exact W_fl W _ _ _ | exact W_fh W _ _ _ | exact W_rl W _ _ _ | exact W_rh W _ _ _ | exact WS_l Ws _ | exact WS_h Ws _) only [fX12_lacksOf, g_12_25, k_12, l_70, lm_1, li_0, li_1000000, li_1, Option.bind_some, iI_add, iI_neg, e, XR_c70, w0, iI_lt, if_neg q', iI_neg]
