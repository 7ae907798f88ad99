/-! A REGISTER'S SHIPS: the reference -/
def REG (Z : XS) (S : Int → Int) (n : Int) : Prop := (∀ i, 0 ≤ i → i < 940 → -128 ≤ XR Z 60 0 i ∧ XR Z 60 0 i < 128) ∧ (∀ i, 0 ≤ i → i < n → 0 ≤ XR Z 60 0 (2 * i) ∧ XR Z 60 0 (2 * i) < S 0) ∧ QR (XR Z 66 0) ∧ (0 ≤ S 0 ∧ S 0 ≤ 8)
theorem r_octet {f0 : Nat} {Y : YS} {Z : XS} (g : GY Y) {k : Int} (k0 : 0 ≤ k) (k1 : k < 940) (hb : -128 ≤ XR Z 60 0 k ∧ XR Z 60 0 k < 128) : fX12_octet f0 (Ad Y 12 0) (iI k) (hp Y Z) = some (iI (dy (XR Z 60 0 k)), hp Y Z) := by
  have yk := ii_dy hb.1 hb.2
  simp (disch := first | assumption | omega) only [fX12_octet, g_12_1, l_60, li_255, Option.bind_some, iI_add, yk]
theorem r_cf52 {f0 : Nat} {Y : YS} {Z : XS} {i j D a b : Int} (g : GY Y) (D0 : -300 ≤ D) (D1 : D ≤ 300) (o3 : fX12_octet f0 (Ad Y 12 0) (iI (2 * i)) (hp Y Z) = some (iI a, hp Y Z)) (o4 : fX12_octet f0 (Ad Y 12 0) (iI (2 * j)) (hp Y Z) = some (iI b, hp Y Z)) (ab0 : 0 ≤ 8 * a + b) (ab1 : 8 * a + b < 64) (fr : 0 ≤ XR Z 66 0 (8 * a + b) ∧ XR Z 66 0 (8 * a + b) ≤ 1000000) : bX12_canFollow_52 f0 (Ad Y 12 0) (iI i) (iI j) (iI D) (hp Y Z) = some (iI (b01 (decide (0 < D ∧ XR Z 66 0 (8 * a + b) ≤ D))), hp Y Z) := by
  by_cases c : D ≤ 0
  · have e : decide (0 < D ∧ XR Z 66 0 (8 * a + b) ≤ D) = false := decide_eq_false (by omega)
    rw [e]
    simp (disch := first | assumption | omega) only [bX12_canFollow_52, g_12_21, k_12, l_66, li_0, li_2, li_1, ob2, iI_mul, Option.bind_some, iI_add, iI_le, if_pos c, zr_i0]
    rfl
  · by_cases d : D < XR Z 66 0 (8 * a + b)
    · have e : decide (0 < D ∧ XR Z 66 0 (8 * a + b) ≤ D) = false := decide_eq_false (by omega)
      rw [e]
      simp (disch := first | assumption | omega) only [bX12_canFollow_52, g_12_21, k_12, l_66, li_0, li_2, li_1, ob2, iI_mul, Option.bind_some, iI_add, iI_le, if_neg c, o3]
      rw [o4, Option.bind_some]
      simp (disch := first | assumption | omega) only [r_cell, Option.bind_some, l_66 g ab0 ab1, iI_lt, if_pos d, zr_i0]
      rfl
    · have e : decide (0 < D ∧ XR Z 66 0 (8 * a + b) ≤ D) = true := decide_eq_true (by omega)
      rw [e]
      simp (disch := first | assumption | omega) only [bX12_canFollow_52, g_12_21, k_12, l_66, li_0, li_2, li_1, ob2, iI_mul, Option.bind_some, iI_add, iI_le, if_neg c, o3]
      rw [o4, Option.bind_some]
      simp (disch := first | assumption | omega) only [r_cell, Option.bind_some, l_66 g ab0 ab1, iI_lt, if_neg d, zr_i1]
      rfl
theorem r_cf {f0 : Nat} {Y : YS} {Z : XS} {i j a b x y : Int} (g : GY Y) (rgi : Rg i) (rgj : Rg j) (o1 : fX12_octet f0 (Ad Y 12 0) (iI (2 * i + 1)) (hp Y Z) = some (iI x, hp Y Z)) (o2 : fX12_octet f0 (Ad Y 12 0) (iI (2 * j + 1)) (hp Y Z) = some (iI y, hp Y Z)) (o3 : fX12_octet f0 (Ad Y 12 0) (iI (2 * i)) (hp Y Z) = some (iI a, hp Y Z)) (o4 : fX12_octet f0 (Ad Y 12 0) (iI (2 * j)) (hp Y Z) = some (iI b, hp Y Z)) (x0 : 0 ≤ x ∧ x < 256) (y0 : 0 ≤ y ∧ y < 256) (a0 : 0 ≤ a ∧ a < 8) (b0 : 0 ≤ b ∧ b < 8) (fr : 0 ≤ XR Z 66 0 (8 * a + b) ∧ XR Z 66 0 (8 * a + b) ≤ 1000000) : fX12_canFollow f0 (Ad Y 12 0) (iI i) (iI j) (hp Y Z) = some (iI (b01 (if y - x = 0 ∧ a = b then decide (i < j) else decide (0 < y - x ∧ XR Z 66 0 (8 * a + b) ≤ y - x))), hp Y Z) := by
  have i1 := rgi.1; have i2 := rgi.2; have j1 := rgj.1; have j2 := rgj.2
  have e52 := r_cf52 (i := i) (j := j) (D := y - x) g (by omega) (by omega) o3 o4 (by omega) (by omega) fr
  by_cases c : y - x = 0
  · by_cases d : a = b
    · rw [if_pos ⟨c, d⟩]
      by_cases w : j ≤ i
      · have e : decide (i < j) = false := decide_eq_false (by omega)
        rw [e]
        simp (disch := first | assumption | omega) only [fX12_canFollow, k_12, li_2, li_1, li_0, ob2, iI_add, iI_mul, iI_sub, Option.bind_some, o2]
        rw [o1, Option.bind_some]
        simp (disch := first | assumption | omega) only [iI_sub, iI_eq, if_pos c, k_12, o3, Option.bind_some]
        rw [o4, Option.bind_some]
        simp (disch := first | assumption | omega) only [k_12, iI_eq, iI_le, if_pos d, if_pos w, zr_i0]
        rfl
      · have e : decide (i < j) = true := decide_eq_true (by omega)
        rw [e]
        simp (disch := first | assumption | omega) only [fX12_canFollow, k_12, li_2, li_1, li_0, ob2, iI_add, iI_mul, iI_sub, Option.bind_some, o2]
        rw [o1, Option.bind_some]
        simp (disch := first | assumption | omega) only [iI_sub, iI_eq, if_pos c, k_12, o3, Option.bind_some]
        rw [o4, Option.bind_some]
        simp (disch := first | assumption | omega) only [k_12, iI_eq, iI_le, if_pos d, if_neg w, zr_i1]
        rfl
    · rw [if_neg (fun w => d w.2)]
      simp (disch := first | assumption | omega) only [fX12_canFollow, k_12, li_2, li_1, li_0, ob2, iI_add, iI_mul, iI_sub, Option.bind_some, o2]
      rw [o1, Option.bind_some]
      simp (disch := first | assumption | omega) only [iI_sub, iI_eq, if_pos c, k_12, o3, Option.bind_some]
      rw [o4, Option.bind_some]
      simp (disch := first | assumption | omega) only [k_12, iI_eq, if_neg d, e52]
  · rw [if_neg (fun w => c w.1)]
    simp (disch := first | assumption | omega) only [fX12_canFollow, k_12, li_2, li_1, li_0, ob2, iI_add, iI_mul, iI_sub, Option.bind_some, o2]
    rw [o1, Option.bind_some]
    simp (disch := first | assumption | omega) only [k_12, iI_sub, iI_eq, if_neg c, e52]
theorem r_canFollow {f0 : Nat} {Y : YS} {Z : XS} {S : Int → Int} {n i j : Int} (g : GY Y) (n10 : n ≤ 10) (hR : REG Z S n) (i0 : 0 ≤ i) (i1 : i < n) (j0 : 0 ≤ j) (j1 : j < n) : fX12_canFollow f0 (Ad Y 12 0) (iI i) (iI j) (hp Y Z) = some (iI (b01 (flF (XR Z 60 0) (XR Z 66 0) i j)), hp Y Z) := by
  have bi := hR.1 (2 * i + 1) (by omega) (by omega); have bj := hR.1 (2 * j + 1) (by omega) (by omega)
  have ti := hR.2.1 i i0 i1; have tj := hR.2.1 j j0 j1
  have s8 := hR.2.2.2
  have di := dy_rg bi.1 bi.2; have dj := dy_rg bj.1 bj.2
  have o1 := r_octet (f0 := f0) (Z := Z) g (k := 2 * i + 1) (by omega) (by omega) bi
  have o2 := r_octet (f0 := f0) (Z := Z) g (k := 2 * j + 1) (by omega) (by omega) bj
  have o3 := r_octet (f0 := f0) (Z := Z) g (k := 2 * i) (by omega) (by omega) (by omega)
  have o4 := r_octet (f0 := f0) (Z := Z) g (k := 2 * j) (by omega) (by omega) (by omega)
  rw [dy_id ti.1] at o3; rw [dy_id tj.1] at o4
  have fr := hR.2.2.1 (8 * XR Z 60 0 (2 * i) + XR Z 60 0 (2 * j)) (by omega) (by omega)
  exact r_cf g ⟨by omega, by omega⟩ ⟨by omega, by omega⟩ o1 o2 o3 o4 di dj (by omega) (by omega) fr
/-- the table of the reachable, half way through a round -/
def mst (F : Int → Int → Bool) (n i t : Nat) : Int := if rch F n i t = true then pc t else -1
def par (F : Int → Int → Bool) (n i s j0 t : Nat) : Bool := rch F n i t || anyB (fun j => t.testBit j.toNat && F (i : Int) j && rch F n i (clr t j.toNat) && (decide (clr t j.toNat < s) || (decide (clr t j.toNat = s) && decide (j.toNat < j0)))) n
def mpr (F : Int → Int → Bool) (n i s j0 t : Nat) : Int := if par F n i s j0 t = true then pc t else -1
theorem par_iff {F : Int → Int → Bool} {n i s j0 t : Nat} : par F n i s j0 t = true ↔ (rch F n i t = true ∨ ∃ j : Nat, j < n ∧ t.testBit j = true ∧ F (i : Int) (j : Int) = true ∧ rch F n i (clr t j) = true ∧ (clr t j < s ∨ (clr t j = s ∧ j < j0))) := by
  unfold par
  rw [Bool.or_eq_true, anyB_iff]
  constructor
  · rintro (h | ⟨j, j1, j2⟩)
    · exact .inl h
    · simp only [show ((j : Int)).toNat = j from rfl, Bool.and_eq_true, Bool.or_eq_true, decide_eq_true_eq] at j2
      exact .inr ⟨j, j1, j2.1.1.1, j2.1.1.2, j2.1.2, j2.2⟩
  · rintro (h | ⟨j, j1, a, b, c, d⟩)
    · exact .inl h
    · refine .inr ⟨j, j1, ?_⟩
      simp only [show ((j : Int)).toNat = j from rfl, Bool.and_eq_true, Bool.or_eq_true, decide_eq_true_eq]
      exact ⟨⟨⟨a, b⟩, c⟩, d⟩
theorem mpr_0 {F : Int → Int → Bool} {n i t : Nat} : mpr F n i 0 0 t = mst F n i t := by
  unfold mpr mst
  have : par F n i 0 0 t = true ↔ rch F n i t = true := by
    rw [par_iff]
    constructor
    · rintro (h | ⟨j, _, _, _, _, d⟩)
      · exact h
      · omega
    · exact .inl
  by_cases c : rch F n i t = true
  · rw [if_pos c, if_pos (this.mpr c)]
  · rw [if_neg c, if_neg (fun w => c (this.mp w))]
theorem mpr_e {F : Int → Int → Bool} {n i s j0 s' j0' t : Nat} (h : par F n i s j0 t = true ↔ par F n i s' j0' t = true) : mpr F n i s j0 t = mpr F n i s' j0' t := by
  unfold mpr
  by_cases c : par F n i s j0 t = true
  · rw [if_pos c, if_pos (h.mp c)]
  · rw [if_neg c, if_neg (fun w => c (h.mpr w))]
theorem mpr_row {F : Int → Int → Bool} {n i s t : Nat} : mpr F n i s n t = mpr F n i (s + 1) 0 t := mpr_e (by
  rw [par_iff, par_iff]
  constructor
  · rintro (h | ⟨j, a, b, c, d, e⟩)
    · exact .inl h
    · exact .inr ⟨j, a, b, c, d, by omega⟩
  · rintro (h | ⟨j, a, b, c, d, e⟩)
    · exact .inl h
    · exact .inr ⟨j, a, b, c, d, by omega⟩)
theorem mpr_skip {F : Int → Int → Bool} {n i s t : Nat} (h : rch F n i s = false) : mpr F n i s 0 t = mpr F n i (s + 1) 0 t := mpr_e (by
  rw [par_iff, par_iff]
  constructor
  · rintro (h | ⟨j, a, b, c, d, e⟩)
    · exact .inl h
    · exact .inr ⟨j, a, b, c, d, by omega⟩
  · rintro (h2 | ⟨j, a, b, c, d, e⟩)
    · exact .inl h2
    · refine .inr ⟨j, a, b, c, d, ?_⟩
      by_cases q : clr t j = s
      · rw [q, h] at d; exact absurd d (by decide)
      · omega)
theorem mpr_end {F : Int → Int → Bool} {n i t : Nat} (ht : t < 2 ^ n) : mpr F n i (2 ^ n) 0 t = mst F n (i + 1) t := by
  unfold mpr mst
  have : par F n i (2 ^ n) 0 t = true ↔ rch F n (i + 1) t = true := by
    rw [par_iff, rch, Bool.or_eq_true, anyB_iff]
    constructor
    · rintro (h | ⟨j, a, b, c, d, e⟩)
      · exact .inl h
      · exact .inr ⟨j, a, by simp only [show ((j : Int)).toNat = j from rfl, Bool.and_eq_true]; exact ⟨⟨b, c⟩, d⟩⟩
    · rintro (h | ⟨j, a, b⟩)
      · exact .inl h
      · simp only [show ((j : Int)).toNat = j from rfl, Bool.and_eq_true] at b
        exact .inr ⟨j, a, b.1.1, b.1.2, b.2, .inl (Nat.lt_of_lt_of_le (clr_lt ht) (Nat.le_refl _))⟩
  by_cases c : rch F n (i + 1) t = true
  · rw [if_pos c, if_pos (this.mpr c)]
  · rw [if_neg c, if_neg (fun w => c (this.mp w))]
theorem mpr_same {F : Int → Int → Bool} {n i s j t : Nat} (h : ¬ (s.testBit j = false ∧ F (i : Int) (j : Int) = true ∧ t = s ||| 2 ^ j)) : mpr F n i s j t = mpr F n i s (j + 1) t := mpr_e (by
  rw [par_iff, par_iff]
  constructor
  · rintro (h | ⟨k, a, b, c, d, e⟩)
    · exact .inl h
    · exact .inr ⟨k, a, b, c, d, by omega⟩
  · rintro (h2 | ⟨k, a, b, c, d, e⟩)
    · exact .inl h2
    · refine .inr ⟨k, a, b, c, d, ?_⟩
      by_cases q : clr t k = s ∧ k = j
      · exfalso
        obtain ⟨q1, q2⟩ := q
        subst q2
        apply h
        refine ⟨?_, c, ?_⟩
        · rw [← q1, clr_bit]; simp
        · rw [← q1]
          apply Nat.eq_of_testBit_eq; intro x
          rw [put_bit, clr_bit]
          by_cases y : x = k
          · subst y; simp [b]
          · simp [y]
      · omega)
theorem mpr_new {F : Int → Int → Bool} {n i s j : Nat} (jn : j < n) (h1 : s.testBit j = false) (h2 : F (i : Int) (j : Int) = true) (h3 : rch F n i s = true) : mpr F n i s (j + 1) (s ||| 2 ^ j) = pc (s ||| 2 ^ j) := by
  unfold mpr
  rw [if_pos]
  rw [par_iff]
  have cp : clr (s ||| 2 ^ j) j = s := clr_put (by rw [h1]; decide)
  exact .inr ⟨j, jn, by rw [put_bit]; simp, h2, by rw [cp]; exact h3, .inr ⟨cp, by omega⟩⟩
