/-! THE REFERENCE'S CASTS -/
def scr (X : XS) (c n w : Int → Int) (k : Int) : XS := sF (sR (sR (sR X 68 0 c) 69 0 n) 70 0 w) 12 0 26 k
theorem XR_c68 (X : XS) (c n w S : Int → Int) (k : Int) : XR (sR (scr X c n w k) 61 0 S) 68 0 = c := rfl
theorem XR_c69 (X : XS) (c n w S : Int → Int) (k : Int) : XR (sR (scr X c n w k) 61 0 S) 69 0 = n := rfl
theorem XR_c70 (X : XS) (c n w S : Int → Int) (k : Int) : XR (sR (scr X c n w k) 61 0 S) 70 0 = w := rfl
theorem XF_c26 (X : XS) (c n w S : Int → Int) (k : Int) : XF (sR (scr X c n w k) 61 0 S) 12 0 26 = k := rfl
theorem sR_cm (X : XS) {s s' : Nat} (k k' : Nat) (r r' : Int → Int) (h : s ≠ s') : sR (sR X s k r) s' k' r' = sR (sR X s' k' r') s k r := by
  unfold sR up2
  refine Prod.ext rfl (Prod.ext ?_ rfl)
  funext a b
  by_cases c1 : a = s ∧ b = k
  · by_cases c2 : a = s' ∧ b = k'
    · exact absurd (c1.1.symm.trans c2.1) h
    · simp only [c1, and_self, if_true]
      rw [if_neg (fun z => h z.1)]
  · by_cases c2 : a = s' ∧ b = k'
    · simp only [c2, and_self, if_true]
      rw [if_neg (fun z => h z.1.symm)]
    · simp only [if_neg c1, if_neg c2]
theorem sR_c68 (X : XS) (c n w S c' : Int → Int) (k : Int) : sR (sR (scr X c n w k) 61 0 S) 68 0 c' = sR (scr X c' n w k) 61 0 S := by
  unfold scr
  rw [sR_cm _ 0 0 S c' (by decide), ← sF_sR, ← sF_sR, sR_cm _ 0 0 w c' (by decide), sR_cm _ 0 0 n c' (by decide), sR_sR]; rfl
theorem sR_c69 (X : XS) (c n w S c' : Int → Int) (k : Int) : sR (sR (scr X c n w k) 61 0 S) 69 0 c' = sR (scr X c c' w k) 61 0 S := by
  unfold scr
  rw [sR_cm _ 0 0 S c' (by decide), ← sF_sR, ← sF_sR, sR_cm _ 0 0 w c' (by decide), sR_sR]; rfl
theorem sR_c70 (X : XS) (c n w S c' : Int → Int) (k : Int) : sR (sR (scr X c n w k) 61 0 S) 70 0 c' = sR (scr X c n c' k) 61 0 S := by
  unfold scr
  rw [sR_cm _ 0 0 S c' (by decide), ← sF_sR, ← sF_sR, sR_sR]; rfl
theorem sF_sF (X : XS) (s k f : Nat) (v v' : Int) : sF (sF X s k f v) s k f v' = sF X s k f v' := by
  unfold sF up3
  refine Prod.ext ?_ rfl
  funext a b c
  by_cases h : a = s ∧ b = k ∧ c = f
  · simp only [h, and_self, if_true]
  · simp only [if_neg h]
theorem sF_c26 (X : XS) (c n w S : Int → Int) (k k' : Int) : sF (sR (scr X c n w k) 61 0 S) 12 0 26 k' = sR (scr X c n w k') 61 0 S := by
  rw [sF_sR]; unfold scr; rw [sF_sF]
def CH (S : Int → Int) (s : Int) : Prop := (0 ≤ s ∧ s < 8) ∧ (0 ≤ S 2 ∧ S 2 ≤ 6) ∧ (0 ≤ S 3 ∧ S 3 ≤ 8) ∧ (0 ≤ S (264 + s) ∧ S (264 + s) < 64) ∧ (∀ r : Nat, (S (264 + s)).toNat.testBit r = true → (r : Int) < S 2) ∧ ∀ m, 0 ≤ m → m < 8 → 0 ≤ S (328 + m) ∧ S (328 + m) < 64
abbrev cNN (S : Int → Int) (s : Int) : Nat := (S (264 + s)).toNat
abbrev cMM (S : Int → Int) : Nat := 2 ^ (S 3).toNat - 1
abbrev cSK (S : Int → Int) : Int → Int := fun m => S (328 + m)
def RgF (w : Int → Int) : Prop := ∀ i, Rg (w i)
theorem RgF_l {w : Int → Int} (h : RgF w) (i : Int) : -2147483648 ≤ w i := (h i).1
theorem RgF_h {w : Int → Int} (h : RgF w) (i : Int) : w i < 2147483648 := (h i).2
theorem RgF_u {w : Int → Int} (h : RgF w) {i v : Int} (h1 : -2147483648 ≤ v) (h2 : v < 2147483648) : RgF (upi w i v) := fun j => by
  rw [upi_at]; split
  · exact ⟨h1, h2⟩
  · exact h j
theorem W_scr {X : XS} {c n w : Int → Int} {k : Int} (W : WF X) (hc : RgF c) (hn : RgF n) (hw : RgF w) (h1 : -2147483648 ≤ k) (h2 : k < 2147483648) : WF (scr X c n w k) := W_F (W_R (W_R (W_R W hc) hn) hw) h1 h2
theorem r_costOf {f0 : Nat} {Y : YS} {X : XS} {S c n w : Int → Int} {k s : Int} (g : GY Y) (hh : CH S s) {m r : Nat} {j : Int} (m8 : m < 8) (j0 : 0 ≤ j) (j6 : j < 6) (hn : n j = (r : Int)) (r6 : r < 6) : fX12_costOf f0 (Ad Y 12 0) (iI (m : Int)) (iI j) (hp Y (sR (scr X c n w k) 61 0 S)) = some (iI (cst (cSK S) m r), hp Y (sR (scr X c n w k) 61 0 S)) := by
  have q := hh.2.2.2.2.2 m (by omega) (by omega)
  by_cases b : bitI (S (328 + (m : Int))) (r : Int) = true
  · rw [cst, if_pos b]
    simp (disch := first | assumption | omega) only [fX12_costOf, g_12_6, g_12_24, l61, l_69, li_328, li_0, li_1, ob2, iI_add, Option.bind_some, XR_c69, hn, r_bitOf, bI_i0, ite_n, if_pos b]
  · rw [cst, if_neg b]
    simp (disch := first | assumption | omega) only [fX12_costOf, g_12_6, g_12_24, l61, l_69, li_328, li_0, li_1, ob2, iI_add, Option.bind_some, XR_c69, hn, r_bitOf, bI_i0, ite_n, if_neg b]
def LV (S : Int → Int) (s : Int) (w : Int → Int) (k : Int) : Prop := ∀ j, k ≤ j → 0 ≤ j → j ≤ cN (cNN S s) 6 → ∀ t : Nat, t < 256 → w (256 * j + (t : Int)) = dpV (cSK S) (cNN S s) (cMM S) j t
theorem put_lt {t m : Nat} (ht : t < 256) (hm : m < 8) : t ||| 2 ^ m < 256 := by
  have : ∀ m, m < 8 → 2 ^ m < 256 := by decide
  exact Nat.or_lt_two_pow (n := 8) ht (this m hm)
theorem c122 {f0 : Nat} {Y : YS} {X : XS} {S c n w : Int → Int} {k s j : Int} (g : GY Y) (hh : CH S s) (Ws : WS S) (hw : RgF w) {g101 : Nat → Int32 → Hp → Option Hp} {g107 : Nat → Int32 → Int32 → Hp → Option Hp} {r t : Nat} (ht : t < 256) (hb : (cNN S s).testBit r = true) (hj : j = cN (cNN S s) r) (hn : n j = (r : Int)) (lv : LV S s w (j + 1)) (hf : 20 ≤ f0) : bX12_casts_122 f0 g101 g107 f0 (Ad Y 12 0) (iI j) (iI (t : Int)) (iI 1000000) (iI 0) (hp Y (sR (scr X c n w k) 61 0 S)) = g107 (Ad Y 12 0) (iI j) (iI ((t : Int) + 1)) (hp Y (sR (scr X c n (upi w (256 * j + (t : Int)) (dpV (cSK S) (cNN S s) (cMM S) j t)) k) 61 0 S)) := by
  have hN : cNN S s < 64 := by have := hh.2.2.2.1; show (S (264 + s)).toNat < 64; omega
  have hm := hh.2.2.1
  obtain ⟨s1, s2, r6⟩ := sfx_s hN hb
  have j6 : 0 ≤ j ∧ j < 6 ∧ j + 1 ≤ cN (cNN S s) 6 := by
    have h1 := cN_rg (cNN S s) r; have h2 := cN_lt hb r6; have h3 := cN_rg (cNN S s) 6; omega
  rw [show (1000000 : Int) = bmV (cSK S) (cNN S s) (cMM S) j r t 0 from rfl]
  refine lp (fun f (m : Nat) => bX12_casts_122 f0 g101 g107 f (Ad Y 12 0) (iI j) (iI (t : Int)) (iI (bmV (cSK S) (cNN S s) (cMM S) j r t m)) (iI (m : Int)) (hp Y (sR (scr X c n w k) 61 0 S))) (fun m => (m : Int) ≤ S 3) (fun m => 17 - m) (fun r => r = _) ?_ f0 0 (by omega) (by omega)
  intro f m hi
  have bl := (bmV_le (sk := cSK S) (N := cNN S s) (M := cMM S) (k := j) (r := r) (t := t) (n := m)).1
  have b0 : 0 ≤ bmV (cSK S) (cNN S s) (cMM S) j r t m := by
    rcases bmV_is (sk := cSK S) (N := cNN S s) (M := cMM S) (k := j) (r := r) (t := t) (n := m) with q | ⟨m', _, _, q⟩
    · omega
    · have := cst_rg (cSK S) m' r; have := (dpV_rg (cSK S) (cNN S s) (cMM S) (j + 1) (t ||| 2 ^ m')).1; omega
  by_cases e : S 3 ≤ (m : Int)
  · left
    have em : m = (S 3).toNat := by omega
    have fin : bmV (cSK S) (cNN S s) (cMM S) j r t m = dpV (cSK S) (cNN S s) (cMM S) j t := by
      rw [hj, em]; exact bm_dp hN (by omega) hb
    simp (disch := first | assumption | omega | exact W_fl W _ _ _ | exact W_fh W _ _ _ | exact W_rl W _ _ _ | exact W_rh W _ _ _ | exact WS_l Ws _ | exact WS_h Ws _) only [bX12_casts_122, g_12_6, g_12_25, k_12, l61, s61, l_70, s_70, li_0, li_1, li_3, li_256, li_31, ob2, iI_add, iI_mul, Option.bind_some, iI_le, if_pos e, XR_c70, sR_c70, fin]
  · right
    refine ⟨m + 1, ?_, by omega, by omega⟩
    rw [bmV]
    have m32 : m < 32 := by omega
    by_cases a : t.testBit m = true
    · have a' : bitI (t : Int) (m : Int) = true := a
      rw [if_pos a]
      simp (disch := first | assumption | omega | exact W_fl W _ _ _ | exact W_fh W _ _ _ | exact W_rl W _ _ _ | exact W_rh W _ _ _ | exact WS_l Ws _ | exact WS_h Ws _) only [bX12_casts_122, bX12_casts_176, g_12_6, g_12_25, k_12, l61, s61, l_70, s_70, li_0, li_1, li_3, li_256, li_31, ob2, iI_add, iI_mul, Option.bind_some, iI_le, if_neg e, r_bitOf, bI_i0, ite_n, if_pos a']
      rfl
    · have a' : ¬ bitI (t : Int) (m : Int) = true := a
      rw [if_neg a]
      have p8 := put_lt (m := m) ht (by omega)
      have wv := lv (j + 1) (by omega) (by omega) (by omega) (t ||| 2 ^ m) p8
      have cr := cst_rg (cSK S) m r; have dr := dpV_rg (cSK S) (cNN S s) (cMM S) (j + 1) (t ||| 2 ^ m)
      have co := r_costOf (f0 := f0) (X := X) (c := c) (w := w) (k := k) g hh (m := m) (r := r) (j := j) (by omega) j6.1 j6.2.1 hn r6
      by_cases q : cst (cSK S) m r + dpV (cSK S) (cNN S s) (cMM S) (j + 1) (t ||| 2 ^ m) < bmV (cSK S) (cNN S s) (cMM S) j r t m
      · rw [if_pos q]
        have q' : cst (cSK S) m r + dpV (cSK S) (cNN S s) (cMM S) (j + 1) (t ||| 2 ^ m) ≤ bmV (cSK S) (cNN S s) (cMM S) j r t m := by omega
        simp (disch := first | assumption | omega | exact W_fl W _ _ _ | exact W_fh W _ _ _ | exact W_rl W _ _ _ | exact W_rh W _ _ _ | exact WS_l Ws _ | exact WS_h Ws _) only [bX12_casts_122, bX12_casts_176, fX12_lesser, g_12_6, g_12_25, k_12, l61, s61, l_70, s_70, li_0, li_1, li_3, li_256, li_31, ob2, iI_add, iI_mul, Option.bind_some, iI_le, iI_lt, if_neg e, r_bitOf, bI_i0, ite_n, if_neg a', co, ib_one, ib_or, XR_c70, wv, if_pos q']
        rfl
      · rw [if_neg q]
        by_cases q' : cst (cSK S) m r + dpV (cSK S) (cNN S s) (cMM S) (j + 1) (t ||| 2 ^ m) ≤ bmV (cSK S) (cNN S s) (cMM S) j r t m
        · have eq : cst (cSK S) m r + dpV (cSK S) (cNN S s) (cMM S) (j + 1) (t ||| 2 ^ m) = bmV (cSK S) (cNN S s) (cMM S) j r t m := by omega
          simp (disch := first | assumption | omega | exact W_fl W _ _ _ | exact W_fh W _ _ _ | exact W_rl W _ _ _ | exact W_rh W _ _ _ | exact WS_l Ws _ | exact WS_h Ws _) only [bX12_casts_122, bX12_casts_176, fX12_lesser, g_12_6, g_12_25, k_12, l61, s61, l_70, s_70, li_0, li_1, li_3, li_256, li_31, ob2, iI_add, iI_mul, Option.bind_some, iI_le, iI_lt, if_neg e, r_bitOf, bI_i0, ite_n, if_neg a', co, ib_one, ib_or, XR_c70, wv, if_pos q']
          rw [eq]
          rfl
        · simp (disch := first | assumption | omega | exact W_fl W _ _ _ | exact W_fh W _ _ _ | exact W_rl W _ _ _ | exact W_rh W _ _ _ | exact WS_l Ws _ | exact WS_h Ws _) only [bX12_casts_122, bX12_casts_176, fX12_lesser, g_12_6, g_12_25, k_12, l61, s61, l_70, s_70, li_0, li_1, li_3, li_256, li_31, ob2, iI_add, iI_mul, Option.bind_some, iI_le, iI_lt, if_neg e, r_bitOf, bI_i0, ite_n, if_neg a', co, ib_one, ib_or, XR_c70, wv, if_neg q']
          rfl
theorem c107 {f0 : Nat} {Y : YS} {X : XS} {S c n w : Int → Int} {k s j : Int} (g : GY Y) (hh : CH S s) (Ws : WS S) (hw : RgF w) {g101 : Nat → Int32 → Hp → Option Hp} {r : Nat} (hb : (cNN S s).testBit r = true) (hj : j = cN (cNN S s) r) (hn : n j = (r : Int)) (lv : LV S s w (j + 1)) (hf : 1000 ≤ f0) : ∃ w', RgF w' ∧ LV S s w' j ∧ bX12_casts_107 f0 g101 f0 (Ad Y 12 0) (iI j) (iI 0) (hp Y (sR (scr X c n w k) 61 0 S)) = g101 (Ad Y 12 0) (iI (j - 1)) (hp Y (sR (scr X c n w' k) 61 0 S)) := by
  have hN : cNN S s < 64 := by have := hh.2.2.2.1; show (S (264 + s)).toNat < 64; omega
  obtain ⟨s1, s2, r6⟩ := sfx_s hN hb
  have j6 : 0 ≤ j ∧ j < 6 ∧ j + 1 ≤ cN (cNN S s) 6 := by
    have h1 := cN_rg (cNN S s) r; have h2 := cN_lt hb r6; have h3 := cN_rg (cNN S s) 6; omega
  have c6 := (cN_rg (cNN S s) 6).2
  refine lp (fun f (z : Nat × (Int → Int)) => bX12_casts_107 f0 g101 f (Ad Y 12 0) (iI j) (iI (z.1 : Int)) (hp Y (sR (scr X c n z.2 k) 61 0 S))) (fun z => z.1 ≤ 256 ∧ RgF z.2 ∧ LV S s z.2 (j + 1) ∧ ∀ t' : Nat, t' < z.1 → z.2 (256 * j + (t' : Int)) = dpV (cSK S) (cNN S s) (cMM S) j t') (fun z => 257 - z.1) (fun r => ∃ w', RgF w' ∧ LV S s w' j ∧ r = g101 (Ad Y 12 0) (iI (j - 1)) (hp Y (sR (scr X c n w' k) 61 0 S))) ?_ f0 (0, w) ⟨by omega, hw, lv, fun t' h => by omega⟩ (by omega)
  intro f ⟨t, w⟩ ⟨h1, h2, h3, h4⟩
  simp only at h1 h2 h3 h4 ⊢
  by_cases e : (256 : Int) ≤ (t : Int)
  · left
    refine ⟨w, h2, fun i i0 i1 i2 t' ht' => ?_, ?_⟩
    · by_cases q : i = j
      · subst q; exact h4 t' (by omega)
      · exact h3 i (by omega) i1 i2 t' ht'
    · simp (disch := first | assumption | omega | exact W_fl W _ _ _ | exact W_fh W _ _ _ | exact W_rl W _ _ _ | exact W_rh W _ _ _ | exact WS_l Ws _ | exact WS_h Ws _) only [bX12_casts_107, lm_1, li_0, li_1, li_256, li_1000000, iI_add, Option.bind_some, iI_neg, iI_le, if_pos e]
      rfl
  · right
    have dr := dpV_rg (cSK S) (cNN S s) (cMM S) j t
    refine ⟨(t + 1, upi w (256 * j + (t : Int)) (dpV (cSK S) (cNN S s) (cMM S) j t)), ?_, ⟨by omega, RgF_u h2 (by omega) (by omega), fun i i0 i1 i2 t' ht' => ?_, fun t' ht' => ?_⟩, by simp only; omega⟩
    · have cc := c122 (f0 := f0) (X := X) (c := c) (k := k) g hh Ws h2 (g101 := g101) (g107 := bX12_casts_107 f0 g101 f) (t := t) (by omega) hb hj hn h3 (by omega)
      simp (disch := first | assumption | omega | exact W_fl W _ _ _ | exact W_fh W _ _ _ | exact W_rl W _ _ _ | exact W_rh W _ _ _ | exact WS_l Ws _ | exact WS_h Ws _) only [bX12_casts_107, lm_1, li_0, li_1, li_256, li_1000000, iI_add, Option.bind_some, iI_neg, iI_le, if_neg e, cc]
      rfl
    · show upi w (256 * j + (t : Int)) _ _ = _
      rw [upi_ne _ _ (by omega)]; exact h3 i i0 i1 i2 t' ht'
    · simp only at ht'
      show upi w (256 * j + (t : Int)) _ _ = _
      by_cases q : t' = t
      · subst q; rw [upi_eq]
      · rw [upi_ne _ _ (by omega)]; exact h4 t' (by omega)
theorem c236 {f0 : Nat} {Y : YS} {X : XS} {S c n w : Int → Int} {k s j : Int} (g : GY Y) (hh : CH S s) (Ws : WS S) (hw : RgF w) {g225 : Nat → Int32 → Int32 → Hp → Option Hp} {r t m0 : Nat} (ht : t < 256) (hb : (cNN S s).testBit r = true) (hj : j = cN (cNN S s) r) (hn : n j = (r : Int)) (lv : LV S s w j) (m8 : m0 < 8) (f1 : t.testBit m0 = false) (f2 : cst (cSK S) m0 r + dpV (cSK S) (cNN S s) (cMM S) (j + 1) (t ||| 2 ^ m0) = dpV (cSK S) (cNN S s) (cMM S) j t) (f3 : ∀ i, i < m0 → t.testBit i = true ∨ cst (cSK S) i r + dpV (cSK S) (cNN S s) (cMM S) (j + 1) (t ||| 2 ^ i) ≠ dpV (cSK S) (cNN S s) (cMM S) j t) (hf : 20 ≤ f0) : bX12_casts_236 f0 g225 f0 (Ad Y 12 0) (iI (t : Int)) (iI j) (iI 0) (hp Y (sR (scr X c n w k) 61 0 S)) = g225 (Ad Y 12 0) (iI ((t ||| 2 ^ m0 : Nat) : Int)) (iI (j + 1)) (hp Y (sR (scr X (upi c j (m0 : Int)) n w k) 61 0 S)) := by
  have hN : cNN S s < 64 := by have := hh.2.2.2.1; show (S (264 + s)).toNat < 64; omega
  obtain ⟨s1, s2, r6⟩ := sfx_s hN hb
  have j6 : 0 ≤ j ∧ j < 6 ∧ j + 1 ≤ cN (cNN S s) 6 := by
    have h1 := cN_rg (cNN S s) r; have h2 := cN_lt hb r6; have h3 := cN_rg (cNN S s) 6; omega
  refine lp (fun f (m : Nat) => bX12_casts_236 f0 g225 f (Ad Y 12 0) (iI (t : Int)) (iI j) (iI (m : Int)) (hp Y (sR (scr X c n w k) 61 0 S))) (fun m => m ≤ m0) (fun m => 17 - m) (fun r => r = _) ?_ f0 0 (by omega) (by omega)
  intro f m hi
  have m32 : m < 32 := by omega
  have p8 := put_lt (m := m) ht (by omega)
  have wv := lv (j + 1) (by omega) (by omega) (by omega) (t ||| 2 ^ m) p8
  have wv0 := lv j (by omega) (by omega) (by omega) t ht
  have cr := cst_rg (cSK S) m r; have dr := dpV_rg (cSK S) (cNN S s) (cMM S) (j + 1) (t ||| 2 ^ m); have dr0 := dpV_rg (cSK S) (cNN S s) (cMM S) j t
  have co := r_costOf (f0 := f0) (X := X) (c := c) (w := w) (k := k) g hh (m := m) (r := r) (j := j) (by omega) j6.1 j6.2.1 hn r6
  by_cases e : m = m0
  · left
    subst e
    have a' : ¬ bitI (t : Int) (m : Int) = true := by rw [show bitI (t : Int) (m : Int) = t.testBit m from rfl, f1]; decide
    simp (disch := first | assumption | omega | exact W_fl W _ _ _ | exact W_fh W _ _ _ | exact W_rl W _ _ _ | exact W_rh W _ _ _ | exact WS_l Ws _ | exact WS_h Ws _) only [bX12_casts_236, g_12_25, g_12_23, k_12, l_68, s_68, l_70, s_70, li_0, li_1, li_256, li_31, ob2, iI_add, iI_mul, Option.bind_some, r_bitOf, bI_i0, ite_n, if_neg a', co, ib_one, ib_or, XR_c70, XR_c68, wv, wv0, iI_eq, if_pos f2, sR_c68]
  · right
    refine ⟨m + 1, ?_, by omega, by omega⟩
    by_cases a : t.testBit m = true
    · have a' : bitI (t : Int) (m : Int) = true := a
      simp (disch := first | assumption | omega | exact W_fl W _ _ _ | exact W_fh W _ _ _ | exact W_rl W _ _ _ | exact W_rh W _ _ _ | exact WS_l Ws _ | exact WS_h Ws _) only [bX12_casts_236, bX12_casts_287, g_12_25, g_12_23, k_12, l_68, s_68, l_70, s_70, li_0, li_1, li_256, li_31, ob2, iI_add, iI_mul, Option.bind_some, r_bitOf, bI_i0, ite_n, if_pos a']
      rfl
    · have a' : ¬ bitI (t : Int) (m : Int) = true := a
      have ne := (f3 m (by omega)).resolve_left a
      simp (disch := first | assumption | omega | exact W_fl W _ _ _ | exact W_fh W _ _ _ | exact W_rl W _ _ _ | exact W_rh W _ _ _ | exact WS_l Ws _ | exact WS_h Ws _) only [bX12_casts_236, bX12_casts_287, g_12_25, g_12_23, k_12, l_68, s_68, l_70, s_70, li_0, li_1, li_256, li_31, ob2, iI_add, iI_mul, Option.bind_some, r_bitOf, bI_i0, ite_n, if_neg a', co, ib_one, ib_or, XR_c70, wv, wv0, iI_eq, if_neg ne]
      rfl
theorem plS_skip {sk : Int → Int} {a M : Nat} {n : Nat} {z : Nat × Nat × Int} (h : plS sk a M n = some z) : ∀ {r : Nat}, n ≤ r → (∀ i, n ≤ i → i < r → z.2.1.testBit i = false) → plS sk a M r = some z
  | 0, hr, _ => by rw [show n = 0 by omega] at h; exact h
  | r + 1, hr, hb => by
    by_cases e : n = r + 1
    · rw [← e]; exact h
    · have ih := plS_skip h (r := r) (by omega) (fun i i0 i1 => hb i i0 (by omega))
      rw [plS, ih]
      show (if z.2.1.testBit r = true then _ else some z) = some z
      rw [if_neg (by rw [hb r (by omega) (by omega)]; decide)]
abbrev ndd (S : Int → Int) (s : Int) (n : Int → Int) : Prop := ∀ r : Nat, (cNN S s).testBit r = true → n (cN (cNN S s) r) = (r : Int)
abbrev PCA (S : Int → Int) (s : Int) (c : Int → Int) : Prop := ∀ r : Nat, (cNN S s).testBit r = true → c (cN (cNN S s) r) = plA (cSK S) (cNN S s) (cMM S) (r + 1)
theorem c225 {f0 : Nat} {Y : YS} {X : XS} {S c n w : Int → Int} {s : Int} (g : GY Y) (hh : CH S s) (Ws : WS S) (hw : RgF w) (hc : RgF c) (hnd : ndd S s n) (lv : LV S s w 0) (hpc : pc (cNN S s) ≤ pc (cMM S)) (hf : 1000 ≤ f0) : ∃ c', RgF c' ∧ PCA S s c' ∧ bX12_casts_225 f0 f0 (Ad Y 12 0) (iI 0) (iI 0) (hp Y (sR (scr X c n w (cN (cNN S s) 6)) 61 0 S)) = some (hp Y (sR (scr X c' n w (cN (cNN S s) 6)) 61 0 S)) := by
  have hN : cNN S s < 64 := by have := hh.2.2.2.1; show (S (264 + s)).toNat < 64; omega
  have hm := hh.2.2.1
  have c6 := cN_rg (cNN S s) 6
  have hM : cMM S < 256 := by
    have : 2 ^ (S 3).toNat ≤ 2 ^ 8 := Nat.pow_le_pow_right (by decide) (by omega)
    have : 0 < 2 ^ (S 3).toNat := Nat.two_pow_pos _
    show 2 ^ (S 3).toNat - 1 < 256
    omega
  refine lp (fun f (z : Int × Nat × (Int → Int)) => bX12_casts_225 f0 f (Ad Y 12 0) (iI (z.2.1 : Int)) (iI z.1) (hp Y (sR (scr X z.2.2 n w (cN (cNN S s) 6)) 61 0 S))) (fun z => RgF z.2.2 ∧ z.2.1 < 256 ∧ (0 ≤ z.1 ∧ z.1 ≤ cN (cNN S s) 6) ∧ ∃ (a : Nat) (pl : Int), a ≤ 6 ∧ cN (cNN S s) a = z.1 ∧ plS (cSK S) (cNN S s) (cMM S) a = some (mns (cMM S) z.2.1, sfx (cNN S s) z.1, pl) ∧ pc (sfx (cNN S s) z.1) ≤ pc (mns (cMM S) z.2.1) ∧ ∀ r : Nat, r < a → (cNN S s).testBit r = true → z.2.2 (cN (cNN S s) r) = plA (cSK S) (cNN S s) (cMM S) (r + 1)) (fun z => (7 - z.1).toNat) (fun r => ∃ c', RgF c' ∧ PCA S s c' ∧ r = some (hp Y (sR (scr X c' n w (cN (cNN S s) 6)) 61 0 S))) ?_ f0 (0, 0, c) ?_ (by simp only; omega)
  · intro f ⟨k, t, c⟩ ⟨h1, h2, h3, a, pl, a6, h4, h5, h6, h7⟩
    simp only at h1 h2 h3 h4 h5 h6 h7 ⊢
    by_cases e : cN (cNN S s) 6 ≤ k
    · left
      refine ⟨c, h1, fun r hr => ?_, ?_⟩
      · refine h7 r ?_ hr
        apply Classical.byContradiction; intro q
        have r6 := (sfx_s hN hr).2.2
        have b1 := cN_lt hr r6; have b2 := cN_mono (N := cNN S s) (r := a) (r' := r) (by omega)
        omega
      · simp (disch := first | assumption | omega | exact W_fl W _ _ _ | exact W_fh W _ _ _ | exact W_rl W _ _ _ | exact W_rh W _ _ _ | exact WS_l Ws _ | exact WS_h Ws _) only [bX12_casts_225, g_12_26, li_0, li_1, iI_add, Option.bind_some, XF_c26, iI_le, if_pos e]
    · right
      obtain ⟨r, r6, hr, er⟩ := cN_ex (N := cNN S s) h3.1 6 (by omega)
      have ar : a ≤ r := by
        apply Classical.byContradiction; intro q
        have := cN_lt hr (show r < a by omega); omega
      subst er
      obtain ⟨m, m1, m2, m3, m4, m5, m6⟩ := ff_ref (sk := cSK S) (t := t) (men := (S 3).toNat) hN (by omega) hr h6
      have sk := plS_skip h5 ar (fun i i0 i1 => by
        show (sfx (cNN S s) (cN (cNN S s) r)).testBit i = false
        rw [sfx_bit]
        by_cases d : (cNN S s).testBit i = true
        · have := cN_lt d i1; simp; intro _ _; omega
        · simp [d])
      obtain ⟨s1, s2, _⟩ := sfx_s hN hr
      have nx : plS (cSK S) (cNN S s) (cMM S) (r + 1) = some (mns (cMM S) (t ||| 2 ^ m), sfx (cNN S s) (cN (cNN S s) r + 1), (m : Int)) := by
        rw [plS, sk]
        show (if (sfx (cNN S s) (cN (cNN S s) r)).testBit r = true then (if ffA (cSK S) r (sfx (cNN S s) (cN (cNN S s) r)) (mns (cMM S) t) = -1 then none else some (clr (mns (cMM S) t) (ffA (cSK S) r (sfx (cNN S s) (cN (cNN S s) r)) (mns (cMM S) t)).toNat, clr (sfx (cNN S s) (cN (cNN S s) r)) r, ffA (cSK S) r (sfx (cNN S s) (cN (cNN S s) r)) (mns (cMM S) t))) else _) = _
        rw [if_pos s2, m5, if_neg (by omega), s1, show ((m : Int)).toNat = m from rfl, mns_put]
      have pa : plA (cSK S) (cNN S s) (cMM S) (r + 1) = (m : Int) := by unfold plA; rw [nx]
      refine ⟨(cN (cNN S s) r + 1, t ||| 2 ^ m, upi c (cN (cNN S s) r) (m : Int)), ?_, ⟨RgF_u h1 (by omega) (by omega), put_lt h2 (by omega), ⟨by simp only; omega, by simp only; omega⟩, r + 1, (m : Int), by omega, ?_, nx, m6, ?_⟩, by simp only; omega⟩
      · have cc := c236 (f0 := f0) (X := X) (c := c) (k := cN (cNN S s) 6) (n := n) g hh Ws hw (g225 := bX12_casts_225 f0 f) h2 hr rfl (hnd r hr) (fun j j0 j1 => lv j j1 j1) (show m < 8 by omega) m2 m3 m4 (by omega)
        simp (disch := first | assumption | omega | exact W_fl W _ _ _ | exact W_fh W _ _ _ | exact W_rl W _ _ _ | exact W_rh W _ _ _ | exact WS_l Ws _ | exact WS_h Ws _) only [bX12_casts_225, g_12_26, li_0, li_1, iI_add, Option.bind_some, XF_c26, iI_le, if_neg e, cc]
      · show cN (cNN S s) (r + 1) = cN (cNN S s) r + 1
        rw [cN_s, if_pos hr]
      · intro r' hr' hb'
        show upi c (cN (cNN S s) r) (m : Int) (cN (cNN S s) r') = _
        by_cases q : r' = r
        · subst q; rw [upi_eq, pa]
        · have lt := cN_lt hb' (show r' < r by omega)
          rw [upi_ne _ _ (by omega)]
          refine h7 r' ?_ hb'
          apply Classical.byContradiction; intro z
          have := cN_mono (N := cNN S s) (r := a) (r' := r') (by omega)
          omega
  · refine ⟨hc, by simp only; omega, ⟨by simp only; omega, by simp only; omega⟩, 0, -1, by omega, rfl, ?_, ?_, fun r hr => by omega⟩
    · show some (cMM S, cNN S s, (-1 : Int)) = some (mns (cMM S) 0, sfx (cNN S s) 0, (-1 : Int))
      rw [mns_0, sfx_0 hN]
    · show pc (sfx (cNN S s) 0) ≤ pc (mns (cMM S) 0)
      rw [mns_0, sfx_0 hN]; exact hpc
