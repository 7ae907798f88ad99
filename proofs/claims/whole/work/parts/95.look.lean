/-! WHAT THE TOKEN AHEAD IS: here and there -/
def RsC (X : XS) : Prop := ∀ i : Nat, i < 27 → XJ X 21 0 (i : Int) = jN (v5 (wdB i) (wdL i))
def RsR (Z : XS) : Prop := ∀ i : Nat, i < 27 → XJ Z 65 0 (prm i : Int) = jN (v8 (wdB i) (wdL i))
theorem v5_dist : ∀ i, i < 27 → ∀ j, j < 27 → v5 (wdB i) (wdL i) = v5 (wdB j) (wdL j) → i = j := by decide +kernel
theorem v5_small : ∀ i, i < 27 → v5 (wdB i) (wdL i) < 9223372036854775808 := by decide +kernel
theorem tk_1 {X Z : XS} (c : TokC X) (r : TokR X Z) : (XF Z 12 0 11 = 1) = (XF X 4 0 5 = 1) := by
  obtain ⟨b, _, _, _, c5⟩ := c
  obtain ⟨_, _, r1, _, r2, r3, r4, r5⟩ := r
  have b2 := b.2
  apply propext
  rcases c5 with h | h | h | h | h
  · have q := r1 h.1
    by_cases e : XF X 4 0 2 = XF X 4 0 3
    · have := q.1 e; omega
    · have := q.2 (by omega); omega
  · have := r2 h.1; exact ⟨fun _ => h.1, fun _ => this.1⟩
  · have := r3 h.1; omega
  · have := r4 h.1; omega
  · have := r5 h.1; have := h.1; omega
theorem tk_2 {X Z : XS} (c : TokC X) (r : TokR X Z) : (XF Z 12 0 11 = 2) = (XF X 4 0 5 = 2) := by
  obtain ⟨b, _, _, _, c5⟩ := c
  obtain ⟨_, _, r1, _, r2, r3, r4, r5⟩ := r
  have b2 := b.2
  apply propext
  rcases c5 with h | h | h | h | h
  · have q := r1 h.1
    by_cases e : XF X 4 0 2 = XF X 4 0 3
    · have := q.1 e; omega
    · have := q.2 (by omega); omega
  · have := r2 h.1; have := this.1; have := h.1; omega
  · have := r3 h.1; omega
  · have := r4 h.1; omega
  · have := r5 h.1; have := h.1; omega
theorem tk_3 {X Z : XS} (c : TokC X) (r : TokR X Z) : (XF Z 12 0 11 = 3) ↔ tS (XF X 4 0 5) := by
  obtain ⟨b, _, _, _, c5⟩ := c
  obtain ⟨_, _, r1, _, r2, r3, r4, r5⟩ := r
  have b2 := b.2
  rcases c5 with h | h | h | h | h
  · have q := r1 h.1
    by_cases e : XF X 4 0 2 = XF X 4 0 3
    · have := q.1 e; omega
    · have := q.2 (by omega); omega
  · have := r2 h.1; have := this.1; have := h.1; omega
  · have := r3 h.1; omega
  · have := r4 h.1; omega
  · have := r5 h.1; exact ⟨fun _ => h.1, fun _ => this.1⟩
theorem tk_0 {X Z : XS} (c : TokC X) (r : TokR X Z) : (XF Z 12 0 11 = 0) ↔ (XF X 4 0 5 = 0 ∧ XF X 4 0 2 = XF X 4 0 3) := by
  obtain ⟨b, _, _, _, c5⟩ := c
  obtain ⟨_, _, r1, _, r2, r3, r4, r5⟩ := r
  have b2 := b.2
  rcases c5 with h | h | h | h | h
  · have q := r1 h.1
    by_cases e : XF X 4 0 2 = XF X 4 0 3
    · have := q.1 e; omega
    · have := q.2 (by omega); omega
  · have := r2 h.1; have := this.1; have := h.1; omega
  · have := r3 h.1; omega
  · have := r4 h.1; omega
  · have := r5 h.1; have := h.1; omega
theorem key_1 {X : XS} (c : TokC X) (h : XF X 4 0 8 ≠ -1) : XF X 4 0 5 = 1 ∧ KeyC X := by
  rcases c.2.2.2.2 with k | k | k | k | k
  · exact absurd k.2 h
  · exact k
  · exact absurd k.2.1 h
  · exact absurd k.2 h
  · exact absurd k.2 h
theorem key_rg {X : XS} (c : TokC X) : -1 ≤ XF X 4 0 8 ∧ XF X 4 0 8 ≤ 26 := by
  rcases c.2.2.2.2 with k | k | k | k | k
  · omega
  · exact k.2.1
  · omega
  · omega
  · omega
theorem so_rg {X : XS} (c : TokC X) : 0 ≤ XF X 4 0 5 ∧ XF X 4 0 5 ≤ 62 := by
  rcases c.2.2.2.2 with k | k | k | k | k
  · omega
  · omega
  · omega
  · omega
  · have := k.1; omega
theorem key_w {X Z : XS} (c : TokC X) (r : TokR X Z) (rs : RsC X) {i : Nat} (hi : i < 27) (h1 : XF X 4 0 5 = 1) : XJ Z 12 0 17 = jN (v8 (wdB i) (wdL i)) ↔ XF X 4 0 8 = (i : Int) := by
  have wr := (r.2.2.2.2.1 h1).2
  have kc : KeyC X := by
    rcases c.2.2.2.2 with k | k | k | k | k
    · omega
    · exact k.2
    · omega
    · omega
    · have := k.1; omega
  rw [← WR_eq wr (WR_res hi)]
  obtain ⟨k1, k2, k3⟩ := kc
  constructor
  · intro e
    have ne : XF X 4 0 8 ≠ -1 := fun z => k2 z i (by omega) (by omega) ((rs i hi).trans e.symm)
    have k0 : 0 ≤ XF X 4 0 8 := by omega
    have q := k3 k0
    obtain ⟨k, hk⟩ : ∃ k : Nat, (k : Int) = XF X 4 0 8 := ⟨(XF X 4 0 8).toNat, by omega⟩
    rw [← hk] at q
    rw [rs k (by omega), e] at q
    have := v5_dist k (by omega) i hi ((jN_eq (v5_small k (by omega)) (v5_small i hi)).mp q)
    omega
  · intro e
    have q := k3 (by omega)
    rw [e, rs i hi] at q
    exact q.symm
theorem r_isWord {f0 : Nat} {Y : YS} {X Z : XS} (g : GY Y) (W : WF Z) (c : TokC X) (r : TokR X Z) (rs : RsC X) (i : Nat) (hi : i < 27) : fX12_isWord f0 (Ad Y 12 0) (jN (v8 (wdB i) (wdL i))) (hp Y Z) = some (bI (XF X 4 0 8 = (i : Int)), hp Y Z) := by
  have w1 := W_fl W 12 0 11; have w2 := W_fh W 12 0 11
  by_cases h1 : XF X 4 0 5 = 1
  · have t1 : XF Z 12 0 11 = 1 := by rw [tk_1 c r]; exact h1
    have kw := key_w c r rs hi h1
    by_cases e : XF X 4 0 8 = (i : Int)
    · have e' := kw.mpr e
      simp (disch := first | assumption | omega) only [fX12_isWord, g_12_11, g_12_17, li_1, li_0, Option.bind_some, iI_add, iI_eq, if_pos t1, lg_eq, if_pos e']
      rw [zr_i1, bI_T e]
    · have e' : ¬ XJ Z 12 0 17 = jN (v8 (wdB i) (wdL i)) := fun z => e (kw.mp z)
      simp (disch := first | assumption | omega) only [fX12_isWord, g_12_11, g_12_17, li_1, li_0, Option.bind_some, iI_add, iI_eq, if_pos t1, lg_eq, if_neg e']
      rw [zr_i0, bI_F e]
  · have t1 : ¬ XF Z 12 0 11 = 1 := by rw [tk_1 c r]; exact h1
    have e : ¬ XF X 4 0 8 = (i : Int) := fun z => h1 (key_1 c (by omega)).1
    simp (disch := first | assumption | omega) only [fX12_isWord, g_12_11, g_12_17, li_1, li_0, Option.bind_some, iI_add, iI_eq, if_neg t1]
    rw [zr_i0, bI_F e]
theorem r_isName {f0 : Nat} {Y : YS} {X Z : XS} (g : GY Y) (W : WF Z) (c : TokC X) (r : TokR X Z) (rs : RsC X) (rz : RsR Z) (hf : 200 ≤ f0) : fX12_isName f0 (Ad Y 12 0) (hp Y Z) = some (bI (XF X 4 0 5 = 1 ∧ XF X 4 0 8 = -1), hp Y Z) := by
  have w1 := W_fl W 12 0 11; have w2 := W_fh W 12 0 11
  have z : fX12_isName f0 (Ad Y 12 0) (hp Y Z) = bX12_isName_16 f0 f0 (Ad Y 12 0) (iI (if XF X 4 0 5 = 1 then 1 else 0)) (iI 0) (hp Y Z) := by
    by_cases h1 : XF X 4 0 5 = 1
    · have t1 : XF Z 12 0 11 = 1 := by rw [tk_1 c r]; exact h1
      simp (disch := first | assumption | omega) only [fX12_isName, bX12_isName_13, g_12_11, li_1, li_0, Option.bind_some, iI_add, iI_eq, if_pos t1, if_pos h1]
    · have t1 : ¬ XF Z 12 0 11 = 1 := by rw [tk_1 c r]; exact h1
      simp (disch := first | assumption | omega) only [fX12_isName, bX12_isName_13, g_12_11, li_1, li_0, Option.bind_some, iI_add, iI_eq, if_neg t1, if_neg h1]
  rw [z]
  have res : (XF X 4 0 5 = 1 ∧ ∀ j : Int, 0 ≤ j → j < 27 → XJ Z 65 0 j ≠ XJ Z 12 0 17) ↔ (XF X 4 0 5 = 1 ∧ XF X 4 0 8 = -1) := by
    constructor
    · intro q
      refine ⟨q.1, Classical.byContradiction fun e => ?_⟩
      have kr := key_rg c
      obtain ⟨k, hk⟩ : ∃ k : Nat, (k : Int) = XF X 4 0 8 := ⟨(XF X 4 0 8).toNat, by omega⟩
      have hw := (key_w c r rs (i := k) (by omega) q.1).mpr hk.symm
      have pl := prm_lt k (by omega)
      exact q.2 (prm k) (by omega) (by omega) (by rw [rz k (by omega), hw])
    · intro q
      refine ⟨q.1, fun j j0 j1 e => ?_⟩
      obtain ⟨i, i1, i2⟩ := prm_ex j.toNat (by omega)
      have hz := rz i i1
      rw [i2, show ((j.toNat : Nat) : Int) = j by omega, e] at hz
      have := (key_w c r rs i1 q.1).mp hz
      omega
  refine lp (fun f (s : Int × Int) => bX12_isName_16 f0 f (Ad Y 12 0) (iI s.2) (iI s.1) (hp Y Z)) (fun s => (0 ≤ s.1 ∧ s.1 ≤ 27) ∧ (s.2 = 0 ∨ s.2 = 1) ∧ (s.2 = 1 → XF X 4 0 5 = 1 ∧ ∀ j, 0 ≤ j → j < s.1 → XJ Z 65 0 j ≠ XJ Z 12 0 17) ∧ (s.2 = 0 → ¬ (XF X 4 0 5 = 1 ∧ ∀ j, 0 ≤ j → j < 27 → XJ Z 65 0 j ≠ XJ Z 12 0 17))) (fun s => (27 - s.1).toNat) (fun r => r = _) ?_ f0 (0, if XF X 4 0 5 = 1 then 1 else 0) ⟨⟨by show (0 : Int) ≤ 0; omega, by show (0 : Int) ≤ 27; omega⟩, ?_, ?_, ?_⟩ (by show (27 - (0 : Int)).toNat < f0; omega)
  · rintro f ⟨i, b⟩ ⟨⟨i0, i1⟩, b01, h1, h0⟩
    dsimp only at i0 i1 b01 h1 h0 ⊢
    by_cases q : (27 : Int) ≤ i
    · left
      rcases b01 with e | e
      · rw [bI_F (fun z => h0 e (res.mpr z))]
        subst e
        simp (disch := first | assumption | omega) only [bX12_isName_16, g_12_17, g_12_10, l_65, li_0, li_1, li_27, iI_add, Option.bind_some, iI_le, if_pos q]
        exact zr_i0
      · have k := h1 e
        rw [bI_T (res.mp ⟨k.1, fun j j0 j1 => k.2 j j0 (by omega)⟩)]
        subst e
        simp (disch := first | assumption | omega) only [bX12_isName_16, g_12_17, g_12_10, l_65, li_0, li_1, li_27, iI_add, Option.bind_some, iI_le, if_pos q]
        exact zr_i1
    · right
      rcases b01 with e | e
      · refine ⟨(i + 1, 0), ?_, ⟨⟨by show 0 ≤ i + 1; omega, by show i + 1 ≤ 27; omega⟩, .inl rfl, fun k => by have : (0 : Int) = 1 := k; omega, fun _ => h0 e⟩, by show (27 - (i + 1)).toNat < (27 - i).toNat; omega⟩
        simp (disch := first | assumption | omega) only [bX12_isName_16, bX12_isName_44, bX12_isName_45, g_12_17, g_12_10, l_65, li_0, li_1, li_27, iI_add, Option.bind_some, iI_le, iI_eq, if_neg q, if_pos e]
      · have n0 : ¬ b = 0 := by omega
        by_cases w : XJ Z 12 0 17 = XJ Z 65 0 i
        · refine ⟨(i + 1, 0), ?_, ⟨⟨by show 0 ≤ i + 1; omega, by show i + 1 ≤ 27; omega⟩, .inl rfl, fun k => by have : (0 : Int) = 1 := k; omega, fun _ k => k.2 i i0 (by omega) w.symm⟩, by show (27 - (i + 1)).toNat < (27 - i).toNat; omega⟩
          simp (disch := first | assumption | omega) only [bX12_isName_16, bX12_isName_44, bX12_isName_45, g_12_17, g_12_10, l_65, li_0, li_1, li_27, iI_add, Option.bind_some, iI_le, iI_eq, if_neg q, if_neg n0, lg_eq, if_pos w]
        · refine ⟨(i + 1, 1), ?_, ⟨⟨by show 0 ≤ i + 1; omega, by show i + 1 ≤ 27; omega⟩, .inr rfl, fun _ => ⟨(h1 e).1, fun j j0 j1 => ?_⟩, fun k => by have : (1 : Int) = 0 := k; omega⟩, by show (27 - (i + 1)).toNat < (27 - i).toNat; omega⟩
          · simp (disch := first | assumption | omega) only [bX12_isName_16, bX12_isName_44, bX12_isName_45, g_12_17, g_12_10, l_65, li_0, li_1, li_27, iI_add, Option.bind_some, iI_le, iI_eq, if_neg q, if_neg n0, lg_eq, if_neg w]
          · by_cases k : j = i
            · rw [k]; exact fun z => w z.symm
            · exact (h1 e).2 j j0 (by have : j < i + 1 := j1; omega)
  · show (if XF X 4 0 5 = 1 then (1 : Int) else 0) = 0 ∨ (if XF X 4 0 5 = 1 then (1 : Int) else 0) = 1
    split
    · exact .inr rfl
    · exact .inl rfl
  · intro k
    refine ⟨?_, fun j j0 j1 => by have : j < 0 := j1; omega⟩
    apply Classical.byContradiction; intro n
    have k' : (if XF X 4 0 5 = 1 then (1 : Int) else 0) = 1 := k
    rw [if_neg n] at k'; omega
  · intro k q
    have k' : (if XF X 4 0 5 = 1 then (1 : Int) else 0) = 0 := k
    rw [if_pos q.1] at k'; omega
theorem e_isName {f0 : Nat} {Y : YS} {X : XS} (g : GY Y) (W : WF X) : fX4_isName f0 (Ad Y 4 0) (hp Y X) = some (bI (XF X 4 0 5 = 1 ∧ XF X 4 0 8 = -1), hp Y X) := by
  simp (disch := first | assumption | omega | exact W_fl W _ _ _ | exact W_fh W _ _ _ | exact W_rl W _ _ _ | exact W_rh W _ _ _ | exact Wd_fl Wd _ | exact Wd_fh Wd _ | exact Wd_4l Wd _ | exact Wd_4h Wd _ | exact Wd_1l Wd _ | exact Wd_1h Wd _ | exact Wd_2l Wd _ | exact Wd_2h Wd _ | exact Wd_3l Wd _ | exact Wd_3h Wd _) only [iI_lt, iI_le, iI_eq, bI_i0, ite_n, ii_bit, ii_one, iI_or, fX4_isName, g_4_5, g_4_8, lm_1, li_1, li_0, Option.bind_some, iI_add, iI_neg]
  (repeat' split) <;> first | (rw [zr_i0, bI_F (by omega)]) | (rw [zr_i1, bI_T (by omega)])
theorem r_isSign {f0 : Nat} {Y : YS} {X Z : XS} (g : GY Y) (W : WF Z) (c : TokC X) (r : TokR X Z) {s : Int} (hs : tS s) : fX12_isSign f0 (Ad Y 12 0) (iI s) (hp Y Z) = some (bI (XF X 4 0 5 = s), hp Y Z) := by
  have w1 := W_fl W 12 0 11; have w2 := W_fh W 12 0 11; have w3 := W_fl W 12 0 14; have w4 := W_fh W 12 0 14
  by_cases h : tS (XF X 4 0 5)
  · have t := r.2.2.2.2.2.2.2 h
    have t1 := t.1
    by_cases e : XF X 4 0 5 = s
    · have e' : XF Z 12 0 14 = s := by omega
      simp (disch := first | assumption | omega) only [fX12_isSign, g_12_11, g_12_14, li_3, li_1, li_0, Option.bind_some, iI_add, iI_eq, if_pos t1, if_pos e']
      rw [zr_i1, bI_T e]
    · have e' : ¬ XF Z 12 0 14 = s := by omega
      simp (disch := first | assumption | omega) only [fX12_isSign, g_12_11, g_12_14, li_3, li_1, li_0, Option.bind_some, iI_add, iI_eq, if_pos t1, if_neg e']
      rw [zr_i0, bI_F e]
  · have t1 : ¬ XF Z 12 0 11 = 3 := fun z => h ((tk_3 c r).mp z)
    have e : ¬ XF X 4 0 5 = s := fun z => h (by rw [z]; exact hs)
    simp (disch := first | assumption | omega) only [fX12_isSign, g_12_11, g_12_14, li_3, li_1, li_0, Option.bind_some, iI_add, iI_eq, if_neg t1]
    rw [zr_i0, bI_F e]
theorem e_refuse {f0 : Nat} {Y : YS} {X : XS} (g : GY Y) {k : Int} : fX4_refuse f0 (Ad Y 4 0) (iI k) (hp Y X) = some (0, hp Y (sF (sF X 4 0 10 k) 4 0 11 (XF X 4 0 6))) := by
  have f6 : XF (sF X 4 0 10 k) 4 0 6 = XF X 4 0 6 := rfl
  simp (disch := first | assumption | omega) only [fX4_refuse, g_4_6, p_4_10, p_4_11, li_0, Option.bind_some, iI_add, f6]
  exact zr_i0
theorem r_bad {f0 : Nat} {Y : YS} {Z : XS} (g : GY Y) {k : Int} : fX12_bad f0 (Ad Y 12 0) (iI k) (hp Y Z) = some (0, hp Y (sF (sF Z 12 0 15 k) 12 0 16 (XF Z 12 0 12))) := by
  have f6 : XF (sF Z 12 0 15 k) 12 0 12 = XF Z 12 0 12 := rfl
  simp (disch := first | assumption | omega) only [fX12_bad, g_12_12, p_12_15, p_12_16, li_0, Option.bind_some, iI_add, f6]
  exact zr_i0
/-- what a text that is read may change: the class, the reference -/
def FrC (X X' : XS) : Prop := (∀ s k f, ¬ (s = 4 ∧ k = 0 ∧ 4 ≤ f ∨ s = 7 ∨ s = 9 ∨ (k = 1 ∧ (s = 3 ∨ s = 6 ∨ s = 8)) ∨ (s = 2 ∧ f = 5)) → XF X' s k f = XF X s k f) ∧ (∀ s k, ¬ ((k = 1 ∧ 23 ≤ s ∧ s ≤ 38) ∨ s = 40 ∨ s = 41 ∨ s = 42) → XR X' s k = XR X s k) ∧ (∀ s k, ¬ (s = 4 ∧ k = 0 ∨ s = 22 ∧ k = 1) → XJ X' s k = XJ X s k) ∧ XP X' = XP X ∧ XM X' = XM X
def FrR (Z Z' : XS) : Prop := (∀ s k f, ¬ (s = 12 ∧ k = 0 ∧ (f = 4 ∨ 11 ≤ f ∧ f ≤ 16 ∨ f = 18 ∨ f = 20)) → XF Z' s k f = XF Z s k f) ∧ (∀ s k, ¬ (s = 62 ∨ s = 63 ∨ s = 77) → XR Z' s k = XR Z s k) ∧ (∀ s k, ¬ (s = 12 ∧ k = 0 ∨ s = 64) → XJ Z' s k = XJ Z s k) ∧ (∀ i, i < 30 → XJ Z' 64 0 i = XJ Z 64 0 i) ∧ XP Z' = XP Z ∧ XM Z' = XM Z
theorem FrC_refl {X : XS} : FrC X X := ⟨fun _ _ _ _ => rfl, fun _ _ _ => rfl, fun _ _ _ => rfl, rfl, rfl⟩
theorem FrR_refl {X : XS} : FrR X X := ⟨fun _ _ _ _ => rfl, fun _ _ _ => rfl, fun _ _ _ => rfl, fun _ _ => rfl, rfl, rfl⟩
theorem FrC_trans {X X1 X2 : XS} (h : FrC X X1) (h' : FrC X1 X2) : FrC X X2 := ⟨fun s k f q => (h'.1 s k f q).trans (h.1 s k f q), fun s k q => (h'.2.1 s k q).trans (h.2.1 s k q), fun s k q => (h'.2.2.1 s k q).trans (h.2.2.1 s k q), h'.2.2.2.1.trans h.2.2.2.1, h'.2.2.2.2.trans h.2.2.2.2⟩
theorem FrR_trans {X X1 X2 : XS} (h : FrR X X1) (h' : FrR X1 X2) : FrR X X2 := ⟨fun s k f q => (h'.1 s k f q).trans (h.1 s k f q), fun s k q => (h'.2.1 s k q).trans (h.2.1 s k q), fun s k q => (h'.2.2.1 s k q).trans (h.2.2.1 s k q), fun i q => (h'.2.2.2.1 i q).trans (h.2.2.2.1 i q), h'.2.2.2.2.1.trans h.2.2.2.2.1, h'.2.2.2.2.2.trans h.2.2.2.2.2⟩
theorem FrC_rd {X X' : XS} (h : RdF X X') : FrC X X' := ⟨fun s k f q => h.1 s k f (by omega), fun s k _ => by rw [h.2.1], fun s k q => h.2.2.1 s k (by omega), h.2.2.2⟩
theorem FrR_nx {X X' : XS} (h : NxF X X') : FrR X X' := ⟨fun s k f q => h.1 s k f (by omega), fun s k _ => by rw [h.2.1], fun s k q => h.2.2.1 s k (by omega), fun i _ => by rw [h.2.2.1 64 0 (by omega)], h.2.2.2⟩
theorem FrC_F {X X' : XS} (h : FrC X X') {s k f : Nat} {v : Int} (c : s = 4 ∧ k = 0 ∧ 4 ≤ f ∨ s = 7 ∨ s = 9 ∨ (k = 1 ∧ (s = 3 ∨ s = 6 ∨ s = 8)) ∨ (s = 2 ∧ f = 5)) : FrC X (sF X' s k f v) := by
  refine ⟨fun s' k' f' q => ?_, h.2.1, h.2.2.1, h.2.2.2⟩
  rw [XF_sF, if_neg (fun z => q (by rw [z.1, z.2.1, z.2.2]; exact c))]
  exact h.1 s' k' f' q
theorem FrC_R {X X' : XS} (h : FrC X X') {s k : Nat} {r : Int → Int} (c : (k = 1 ∧ 23 ≤ s ∧ s ≤ 38) ∨ s = 40 ∨ s = 41 ∨ s = 42) : FrC X (sR X' s k r) := by
  refine ⟨h.1, fun s' k' q => ?_, h.2.2.1, h.2.2.2⟩
  rw [XR_sR, if_neg (fun z => q (by rw [z.1, z.2]; exact c))]
  exact h.2.1 s' k' q
theorem FrC_J {X X' : XS} (h : FrC X X') {s k : Nat} {r : Int → Int64} (c : s = 4 ∧ k = 0 ∨ s = 22 ∧ k = 1) : FrC X (sJ X' s k r) := by
  refine ⟨h.1, h.2.1, fun s' k' q => ?_, h.2.2.2⟩
  rw [XJ_sJ, if_neg (fun z => q (by rw [z.1, z.2]; exact c))]
  exact h.2.2.1 s' k' q
theorem FrR_F {X X' : XS} (h : FrR X X') {f : Nat} {v : Int} (c : f = 4 ∨ 11 ≤ f ∧ f ≤ 16 ∨ f = 18 ∨ f = 20) : FrR X (sF X' 12 0 f v) := by
  refine ⟨fun s' k' f' q => ?_, h.2.1, h.2.2.1, h.2.2.2⟩
  rw [XF_sF, if_neg (fun z => q ⟨z.1, z.2.1, by rw [z.2.2]; exact c⟩)]
  exact h.1 s' k' f' q
theorem FrR_R {X X' : XS} (h : FrR X X') {s k : Nat} {r : Int → Int} (c : s = 62 ∨ s = 63 ∨ s = 77) : FrR X (sR X' s k r) := by
  refine ⟨h.1, fun s' k' q => ?_, h.2.2.1, h.2.2.2⟩
  rw [XR_sR, if_neg (fun z => q (by rw [z.1]; exact c))]
  exact h.2.1 s' k' q
theorem FrR_64 {X X' : XS} (h : FrR X X') {i : Int} {v : Int64} (hi : 30 ≤ i) : FrR X (sJ X' 64 0 (upi (XJ X' 64 0) i v)) := by
  refine ⟨h.1, h.2.1, fun s' k' q => ?_, fun j hj => ?_, h.2.2.2.2⟩
  · rw [XJ_sJ, if_neg (fun z => q (by omega))]
    exact h.2.2.1 s' k' q
  · rw [XJ_sJ, if_pos ⟨rfl, rfl⟩, upi_at, if_neg (by omega)]
    exact h.2.2.2.1 j hj
/-- a fault, here and there -/
def FaC (X : XS) : Prop := (1 ≤ XF X 4 0 10 ∧ XF X 4 0 10 ≤ 4) ∧ 0 ≤ XF X 4 0 11 ∧ XF X 4 0 11 ≤ 940
def FaR (X Z : XS) : Prop := XF Z 12 0 15 = XF X 4 0 10 ∧ XF Z 12 0 16 = XF X 4 0 11
abbrev rfC (X : XS) (k : Int) : XS := sF (sF X 4 0 10 k) 4 0 11 (XF X 4 0 6)
abbrev rfR (Z : XS) (k : Int) : XS := sF (sF Z 12 0 15 k) 12 0 16 (XF Z 12 0 12)
theorem rf_C {X : XS} (W : WF X) (c : TokC X) {k : Int} (h1 : 1 ≤ k) (h2 : k ≤ 4) : WF (rfC X k) ∧ FrC X (rfC X k) ∧ FaC (rfC X k) := by
  have c3 := c.2.2.1; have b := c.1.2
  exact ⟨W_F (W_F W (by omega) (by omega)) (by omega) (by omega), FrC_F (FrC_F FrC_refl (by decide)) (by decide), ⟨h1, h2⟩, c3.1, by show XF X 4 0 6 ≤ 940; omega⟩
theorem rf_R {X Z : XS} (W : WF Z) (c : TokC X) (r : TokR X Z) {k : Int} (h1 : 1 ≤ k) (h2 : k ≤ 4) : WF (rfR Z k) ∧ FrR Z (rfR Z k) ∧ FaR (rfC X k) (rfR Z k) := by
  have c3 := c.2.2.1; have b := c.1.2; have r2 := r.2.1
  exact ⟨W_F (W_F W (by omega) (by omega)) (by omega) (by omega), FrR_F (FrR_F FrR_refl (by decide)) (by decide), rfl, r2⟩
