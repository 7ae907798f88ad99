/-! TOKENS: the reference goes on to the next one -/
def NxF (Z Z' : XS) : Prop := (∀ s k f, ¬ (s = 12 ∧ k = 0 ∧ (f = 4 ∨ 11 ≤ f ∧ f ≤ 14)) → XF Z' s k f = XF Z s k f) ∧ XR Z' = XR Z ∧ (∀ s k, ¬ (s = 12 ∧ k = 0) → XJ Z' s k = XJ Z s k) ∧ XP Z' = XP Z ∧ XM Z' = XM Z
theorem Nx_refl {X : XS} : NxF X X := ⟨fun _ _ _ _ => rfl, rfl, fun _ _ _ => rfl, rfl, rfl⟩
theorem Nx_trans {X X1 X2 : XS} (h : NxF X X1) (h' : NxF X1 X2) : NxF X X2 := ⟨fun s k f q => (h'.1 s k f q).trans (h.1 s k f q), h'.2.1.trans h.2.1, fun s k q => (h'.2.2.1 s k q).trans (h.2.2.1 s k q), h'.2.2.2.1.trans h.2.2.2.1, h'.2.2.2.2.trans h.2.2.2.2⟩
theorem Nx_F {X X' : XS} (h : NxF X X') {f : Nat} {v : Int} (h1 : f = 4 ∨ 11 ≤ f ∧ f ≤ 14) : NxF X (sF X' 12 0 f v) := by
  refine ⟨fun s k f' q => ?_, h.2.1, h.2.2.1, h.2.2.2⟩
  rw [XF_sF, if_neg (fun z => q ⟨z.1, z.2.1, by omega⟩)]
  exact h.1 s k f' q
theorem Nx_J {X X' : XS} (h : NxF X X') {r : Int → Int64} : NxF X (sJ X' 12 0 r) := by
  refine ⟨h.1, h.2.1, fun s k q => ?_, h.2.2.2⟩
  rw [XJ_sJ, if_neg (fun z => q ⟨z.1, z.2⟩)]
  exact h.2.2.1 s k q
abbrev byR (r : Int → Int) : Prop := ∀ i, 0 ≤ i → i < 940 → -128 ≤ r i ∧ r i < 128
theorem r_peek1 {f0 : Nat} {Y : YS} {Z : XS} (g : GY Y) (ht : byR (XR Z 60 0)) {p : Int} (hp0 : XF Z 12 0 4 = p) (h0 : 0 ≤ p) (h1 : p < XF Z 12 0 3) (h2 : XF Z 12 0 3 ≤ 940) : fX12_peek f0 (Ad Y 12 0) (hp Y Z) = some (iI (dy (XR Z 60 0 p)), hp Y Z) := by
  have c : ¬ XF Z 12 0 3 ≤ p := by omega
  have t := ht p h0 (by omega)
  have t1 := t.1; have t2 := t.2
  simp (disch := first | assumption | omega) only [fX12_peek, g_12_4, g_12_3, g_12_1, l_60, lm_1, li_1, li_255, Option.bind_some, iI_add, iI_neg, hp0, iI_le, if_neg c, ii_dy]
theorem r_peek0 {f0 : Nat} {Y : YS} {Z : XS} (g : GY Y) {p : Int} (hp0 : XF Z 12 0 4 = p) (h0 : 0 ≤ p) (h1 : XF Z 12 0 3 ≤ p) (h2 : p ≤ 940) (h3 : 0 ≤ XF Z 12 0 3) : fX12_peek f0 (Ad Y 12 0) (hp Y Z) = some (iI (-1), hp Y Z) := by
  simp (disch := first | assumption | omega) only [fX12_peek, g_12_4, g_12_3, g_12_1, l_60, lm_1, li_1, li_255, Option.bind_some, iI_add, iI_neg, hp0, iI_le, if_pos h1, iI_neg]
theorem r_isSmall {f0 : Nat} {h : Hp} {c : Int} (hc : Rg c) : fX12_isSmall f0 (iI c) h = some (bI (97 ≤ c ∧ c ≤ 122), h) := by
  have h1 := hc.1; have h2 := hc.2
  simp (disch := omega) only [fX12_isSmall, li_97, li_0, li_122, li_1, Option.bind_some, iI_add, iI_lt]
  (repeat' split) <;> first | (rw [zr_i0, bI_F (by omega)]) | (rw [zr_i1, bI_T (by omega)])
theorem r_isDigit {f0 : Nat} {h : Hp} {c : Int} (hc : Rg c) : fX12_isDigit f0 (iI c) h = some (bI (48 ≤ c ∧ c ≤ 57), h) := by
  have h1 := hc.1; have h2 := hc.2
  simp (disch := omega) only [fX12_isDigit, li_48, li_0, li_57, li_1, Option.bind_some, iI_add, iI_lt]
  (repeat' split) <;> first | (rw [zr_i0, bI_F (by omega)]) | (rw [zr_i1, bI_T (by omega)])
theorem dy_p {t : Int} (h : 0 ≤ t) : dy t = t := dy_id h
theorem dy_ne {t c : Int} (c0 : 0 ≤ c) (c1 : c < 128) (h0 : -128 ≤ t) : dy t = c ↔ t = c := by unfold dy; split <;> omega
theorem dy_in {t a b : Int} (c0 : 0 ≤ a) (c1 : b < 128) (h0 : -128 ≤ t) : (a ≤ dy t ∧ dy t ≤ b) ↔ (a ≤ t ∧ t ≤ b) := by unfold dy; split <;> omega
theorem r_skip {f0 : Nat} {Y : YS} {Z : XS} (g : GY Y) (W : WF Z) (ht : byR (XR Z 60 0)) {p q : Int} (hp0 : XF Z 12 0 4 = p) (p0 : 0 ≤ p) (pq : p ≤ q) (qs : q ≤ XF Z 12 0 3) (sz : XF Z 12 0 3 ≤ 940) (ws : ∀ j, p ≤ j → j < q → tW (XR Z 60 0 j)) (hq : q < XF Z 12 0 3 → ¬ tW (XR Z 60 0 q)) (hf : 2000 ≤ f0) : fX12_next f0 (Ad Y 12 0) (hp Y Z) = if XF Z 12 0 5 < XF Z 12 0 3 ∧ XF Z 12 0 5 ≤ q then some (hp Y (sF (sF (sF (sF (sF Z 12 0 4 q) 12 0 12 q) 12 0 13 0) 12 0 12 (XF Z 12 0 5)) 12 0 11 4)) else bX12_next_80 f0 (Ad Y 12 0) (hp Y (sF (sF (sF Z 12 0 4 q) 12 0 12 q) 12 0 13 0)) := by
  have z : fX12_next f0 (Ad Y 12 0) (hp Y Z) = bX12_next_0 f0 f0 (Ad Y 12 0) (hp Y (sF Z 12 0 4 p)) := by
    rw [← hp0, sF_self]; rfl
  rw [z]
  refine lp (fun f (i : Int) => bX12_next_0 f0 f (Ad Y 12 0) (hp Y (sF Z 12 0 4 i))) (fun i => p ≤ i ∧ i ≤ q) (fun i => (q - i).toNat) (fun r => r = _) ?_ f0 p ⟨by omega, pq⟩ (by show (q - p).toNat < f0; omega)
  rintro f i ⟨i0, i1⟩
  have f4 : XF (sF Z 12 0 4 i) 12 0 4 = i := rfl
  have w1 := W_fl W 12 0 5; have w2 := W_fh W 12 0 5
  by_cases c : i < q
  · have pk := r_peek1 (f0 := f0) (Z := sF Z 12 0 4 i) g ht (p := i) rfl (by omega) (show i < XF Z 12 0 3 by omega) sz
    have f60 : XR (sF Z 12 0 4 i) 60 0 = XR Z 60 0 := rfl
    rw [f60] at pk
    have tb := ht i (by omega) (by omega)
    have dr := dy_rg tb.1 tb.2
    right
    refine ⟨i + 1, ?_, ⟨by omega, by omega⟩, by show (q - (i + 1)).toNat < (q - i).toNat; omega⟩
    rcases ws i i0 c with e | e
    · have d1 := (dy_ne (c := 32) (by omega) (by omega) tb.1).mpr e
      simp (disch := first | assumption | omega) only [bX12_next_0, bX12_next_18, g_12_4, g_12_3, g_12_5, p_12_12, p_12_13, p_12_11, k_12, li_0, li_1, li_32, li_10, li_4, ob2, iI_add, p_12_4, Option.bind_some, pk, iI_eq, if_pos d1, f4, sF_sF]
    · have d1 := (dy_ne (c := 10) (by omega) (by omega) tb.1).mpr e
      have d2 : ¬ dy (XR Z 60 0 i) = 32 := by omega
      simp (disch := first | assumption | omega) only [bX12_next_0, bX12_next_18, g_12_4, g_12_3, g_12_5, p_12_12, p_12_13, p_12_11, k_12, li_0, li_1, li_32, li_10, li_4, ob2, iI_add, p_12_4, Option.bind_some, pk, iI_eq, if_neg d2, if_pos d1, f4, sF_sF]
  · have iq : i = q := by omega
    subst iq
    left
    obtain ⟨cc, hcc, pk, d1, d2⟩ : ∃ cc : Int, (-1 ≤ cc ∧ cc < 256) ∧ fX12_peek f0 (Ad Y 12 0) (hp Y (sF Z 12 0 4 i)) = some (iI cc, hp Y (sF Z 12 0 4 i)) ∧ ¬ cc = 32 ∧ ¬ cc = 10 := by
      by_cases e : i < XF Z 12 0 3
      · have pk := r_peek1 (f0 := f0) (Z := sF Z 12 0 4 i) g ht (p := i) rfl (by omega) (show i < XF Z 12 0 3 by omega) sz
        have f60 : XR (sF Z 12 0 4 i) 60 0 = XR Z 60 0 := rfl
        rw [f60] at pk
        have tb := ht i (by omega) (by omega)
        have dr := dy_rg tb.1 tb.2
        refine ⟨_, by omega, pk, fun k => hq e (.inl ((dy_ne (by omega) (by omega) tb.1).mp k)), fun k => hq e (.inr ((dy_ne (by omega) (by omega) tb.1).mp k))⟩
      · exact ⟨-1, by omega, r_peek0 (p := i) g rfl (by omega) (show XF Z 12 0 3 ≤ i by omega) (by omega) (show 0 ≤ XF Z 12 0 3 by omega), by omega, by omega⟩
    have g3 : XF (sF (sF (sF Z 12 0 4 i) 12 0 12 i) 12 0 13 0) 12 0 3 = XF Z 12 0 3 := rfl
    have g5 : XF (sF (sF (sF Z 12 0 4 i) 12 0 12 i) 12 0 13 0) 12 0 5 = XF Z 12 0 5 := rfl
    have g4 : XF (sF (sF (sF Z 12 0 4 i) 12 0 12 i) 12 0 13 0) 12 0 4 = i := rfl
    by_cases c1 : XF Z 12 0 3 ≤ XF Z 12 0 5
    · rw [if_neg (by omega)]
      simp (disch := first | assumption | omega) only [bX12_next_0, g_12_4, g_12_3, g_12_5, p_12_12, p_12_13, p_12_11, k_12, li_0, li_1, li_32, li_10, li_4, ob2, iI_add, Option.bind_some, pk, iI_eq, if_neg d1, if_neg d2, f4, g3, g5, iI_le, if_pos c1]
    · by_cases c2 : i < XF Z 12 0 5
      · rw [if_neg (by omega)]
        simp (disch := first | assumption | omega) only [bX12_next_0, g_12_4, g_12_3, g_12_5, p_12_12, p_12_13, p_12_11, k_12, li_0, li_1, li_32, li_10, li_4, ob2, iI_add, Option.bind_some, pk, iI_eq, if_neg d1, if_neg d2, f4, g3, g5, g4, iI_le, iI_lt, if_neg c1, if_pos c2]
      · rw [if_pos (by omega)]
        simp (disch := first | assumption | omega) only [bX12_next_0, g_12_4, g_12_3, g_12_5, p_12_12, p_12_13, p_12_11, k_12, li_0, li_1, li_32, li_10, li_4, ob2, iI_add, Option.bind_some, pk, iI_eq, if_neg d1, if_neg d2, f4, g3, g5, g4, iI_le, iI_lt, if_neg c1, if_neg c2]
/-- a run of letters and digits -/
def rz (Z : XS) (q i : Int) (w : Int64) (n : Int) : XS := sF (sF (sF (sJ Z 12 0 (upi (XJ Z 12 0) 17 w)) 12 0 14 n) 12 0 13 (i - q)) 12 0 4 i
theorem rz_14 {Z : XS} {q i n n' : Int} {w : Int64} : sF (rz Z q i w n) 12 0 14 n' = rz Z q i w n' := by
  unfold rz
  rw [sF_cm _ i n' (by decide), sF_cm _ (i - q) n' (by decide), sF_sF]
theorem rz_17 {Z : XS} {q i n : Int} {w w' : Int64} : sJ (rz Z q i w n) 12 0 (upi (XJ (rz Z q i w n) 12 0) 17 w') = rz Z q i w' n := by
  have e : upi (XJ (rz Z q i w n) 12 0) 17 w' = upi (XJ Z 12 0) 17 w' := by
    show upi (upi (XJ Z 12 0) 17 w) 17 w' = _
    rw [upi_upi]
  rw [e]
  show sF (sF (sF (sJ (sJ Z 12 0 _) 12 0 _) 12 0 14 n) 12 0 13 (i - q)) 12 0 4 i = _
  rw [sJ_sJ]; rfl
theorem rz_nx {Z : XS} {q i n : Int} {w : Int64} : sF (sF (rz Z q i w n) 12 0 13 (i - q + 1)) 12 0 4 (i + 1) = rz Z q (i + 1) w n := by
  unfold rz
  rw [sF_cm _ i (i - q + 1) (by decide), sF_sF, sF_sF, show i + 1 - q = i - q + 1 by omega]
theorem rz_f4 {Z : XS} {q i n : Int} {w : Int64} : XF (rz Z q i w n) 12 0 4 = i := rfl
theorem rz_f13 {Z : XS} {q i n : Int} {w : Int64} : XF (rz Z q i w n) 12 0 13 = i - q := rfl
theorem rz_f14 {Z : XS} {q i n : Int} {w : Int64} : XF (rz Z q i w n) 12 0 14 = n := rfl
theorem rz_j {Z : XS} {q i n : Int} {w : Int64} : XJ (rz Z q i w n) 12 0 17 = w := rfl
theorem rz_f4b {Z : XS} {q i n v : Int} {w : Int64} : XF (sF (rz Z q i w n) 12 0 13 v) 12 0 4 = i := rfl
theorem rz_00 {Z : XS} {q : Int} (h4 : XF Z 12 0 4 = q) (h13 : XF Z 12 0 13 = 0) : rz Z q q 0 0 = sF (sJ Z 12 0 (upi (XJ Z 12 0) 17 0)) 12 0 14 0 := by
  unfold rz
  have a1 : XF (sF (sJ Z 12 0 (upi (XJ Z 12 0) 17 0)) 12 0 14 0) 12 0 13 = q - q := by
    show XF Z 12 0 13 = q - q; omega
  have b1 := sF_self (X := sF (sJ Z 12 0 (upi (XJ Z 12 0) 17 0)) 12 0 14 0) (s := 12) (k := 0) (f := 13)
  rw [a1] at b1
  rw [b1]
  have a2 : XF (sF (sJ Z 12 0 (upi (XJ Z 12 0) 17 0)) 12 0 14 0) 12 0 4 = q := h4
  have b2 := sF_self (X := sF (sJ Z 12 0 (upi (XJ Z 12 0) 17 0)) 12 0 14 0) (s := 12) (k := 0) (f := 4)
  rw [a2] at b2
  exact b2
def RunZ (T : Int → Int) (q i sm al : Int) (w : Int64) (n : Int) : Prop :=
  (al = 0 ∨ al = 1) ∧ (al = 1 → ∀ j, q ≤ j → j < i → (tA (T j) ↔ sm = 1)) ∧ (al = 0 → ∃ j, q ≤ j ∧ j < i ∧ ¬ (tA (T j) ↔ sm = 1)) ∧ (al = 1 → sm = 1 → i - q ≤ 7 → w = jN (v8 (bnA T q) (i - q).toNat)) ∧ ((0 ≤ n ∧ n ≤ 8214) ∧ (i - q = 0 → n = 0) ∧ (i - q = 1 → n ≤ 74) ∧ (i - q = 2 → n ≤ 814)) ∧ (al = 1 → sm = 0 → i - q ≤ 3 → n = nv T q (i - q).toNat)
theorem RunZ_0 {T : Int → Int} {q sm : Int} : RunZ T q q sm 1 0 0 := by
  refine ⟨.inr rfl, fun _ j j0 j1 => by omega, fun e => by omega, fun _ _ _ => ?_, ⟨⟨by omega, by omega⟩, fun _ => rfl, fun _ => by omega, fun _ => by omega⟩, fun _ _ _ => ?_⟩
  · rw [show (q - q).toNat = 0 by omega]; rfl
  · rw [show (q - q).toNat = 0 by omega]; rfl
theorem RunZ_s {T : Int → Int} {q i sm al al' n n' : Int} {w w' : Int64} (i0 : q ≤ i) (h : RunZ T q i sm al w n) (t : tA (T i) ∨ tD (T i)) (ha : al' = if al = 1 ∧ (tA (T i) ↔ sm = 1) then 1 else 0) (hw : al = 1 → sm = 1 → i - q ≤ 6 → w = jN (v8 (bnA T q) (i - q).toNat) → w' = jN (v8 (bnA T q) ((i - q).toNat + 1))) (hn : n' = if 3 ≤ i - q then n else 10 * n + T i - 48) : RunZ T q (i + 1) sm al' w' n' := by
  obtain ⟨h1, h2, h3, h4, h5, h6⟩ := h
  have a1 : al' = 1 → al = 1 ∧ (tA (T i) ↔ sm = 1) := fun e => by
    by_cases c : al = 1 ∧ (tA (T i) ↔ sm = 1)
    · exact c
    · rw [if_neg c] at ha; omega
  refine ⟨by rw [ha]; split <;> omega, fun e j j0 j1 => ?_, fun e => ?_, fun e1 e2 e3 => ?_, ?_, fun e1 e2 e3 => ?_⟩
  · by_cases k : j = i
    · rw [k]; exact (a1 e).2
    · exact h2 (a1 e).1 j j0 (by clear h3; omega)
  · by_cases c : al = 1
    · refine ⟨i, i0, by clear h3; omega, fun k => ?_⟩
      rw [if_pos ⟨c, k⟩] at ha; omega
    · obtain ⟨j, j0, j1, j2⟩ := h3 (by clear h3; omega)
      exact ⟨j, j0, by clear h3; omega, j2⟩
  · rw [show (i + 1 - q).toNat = (i - q).toNat + 1 by clear h3; omega]
    exact hw (a1 e1).1 e2 (by clear h3; omega) (h4 (a1 e1).1 e2 (by clear h3; omega))
  · obtain ⟨h81, h82, h83, h84⟩ := h5
    by_cases c : 3 ≤ i - q
    · rw [if_pos c] at hn; subst hn
      exact ⟨h81, fun e => by clear h3; omega, fun e => by clear h3; omega, fun e => by clear h3; omega⟩
    · rw [if_neg c] at hn; subst hn
      rcases (by clear h3; omega : i - q = 0 ∨ i - q = 1 ∨ i - q = 2) with e | e | e
      · have := h82 e; exact ⟨by clear h3; omega, fun e => by clear h3; omega, fun e => by clear h3; omega, fun e => by clear h3; omega⟩
      · have := h83 e; exact ⟨by clear h3; omega, fun e => by clear h3; omega, fun e => by clear h3; omega, fun e => by clear h3; omega⟩
      · have := h84 e; exact ⟨by clear h3; omega, fun e => by clear h3; omega, fun e => by clear h3; omega, fun e => by clear h3; omega⟩
  · rw [if_neg (by clear h3; omega)] at hn
    rw [show (i + 1 - q).toNat = (i - q).toNat + 1 by clear h3; omega, nv, show q + ((i - q).toNat : Int) = i by clear h3; omega, ← h6 (a1 e1).1 e2 (by clear h3; omega)]
    clear h3; omega
theorem run_put8 {T : Int → Int} {q i : Int} {n : Nat} (hi : i = q + n) (t0 : 0 ≤ T i) (t1 : T i < 128) : (jN (v8 (bnA T q) n) <<< (Int32.toInt64 (iI 8) &&& 63)) ||| Int32.toInt64 (iI (T i)) = jN (v8 (bnA T q) (n + 1)) := by
  have e1 : T i = ((bnA T q n : Nat) : Int) := by unfold bnA; rw [← hi]; omega
  have hb : bnA T q n < 256 := by omega
  have sh := jN_shl (a := v8 (bnA T q) n) (i := 8) (by decide)
  rw [show iI 8 = iI ((8 : Nat) : Int) from rfl, sh, e1, iI_64 (by omega), jN_or, v8_put hb]
def tkR (sm al k : Int) : Int := if al = 0 then 4 else if sm = 0 then (if k ≤ 3 then 2 else 4) else (if k ≤ 7 then 1 else 4)
theorem r_run {f0 : Nat} {Y : YS} {Z : XS} (g : GY Y) (ht : byR (XR Z 60 0)) {q e : Int} (h4 : XF Z 12 0 4 = q) (h13 : XF Z 12 0 13 = 0) (q0 : 0 ≤ q) (qe : q < e) (es : e ≤ XF Z 12 0 3) (sz : XF Z 12 0 3 ≤ 940) (hr : ∀ j, q ≤ j → j < e → tA (XR Z 60 0 j) ∨ tD (XR Z 60 0 j)) (he : e < XF Z 12 0 3 → ¬ tA (XR Z 60 0 e) ∧ ¬ tD (XR Z 60 0 e)) (hf : 2000 ≤ f0) : ∃ sm al w n, (sm = if tA (XR Z 60 0 q) then 1 else 0) ∧ bX12_next_164 f0 (Ad Y 12 0) (iI (dy (XR Z 60 0 q))) (hp Y Z) = some (hp Y (sF (rz Z q e w n) 12 0 11 (tkR sm al (e - q)))) ∧ RunZ (XR Z 60 0) q e sm al w n := by
  obtain ⟨sm, hsm⟩ : ∃ sm : Int, sm = if tA (XR Z 60 0 q) then 1 else 0 := ⟨_, rfl⟩
  have sm01 : sm = 0 ∨ sm = 1 := by rw [hsm]; split <;> omega
  have tq := ht q q0 (by omega)
  have dq := dy_rg tq.1 tq.2
  have z : bX12_next_164 f0 (Ad Y 12 0) (iI (dy (XR Z 60 0 q))) (hp Y Z) = bX12_next_181 f0 f0 (Ad Y 12 0) (iI sm) (iI 1) (hp Y (rz Z q q 0 0)) := by
    have bs : bI (97 ≤ dy (XR Z 60 0 q) ∧ dy (XR Z 60 0 q) ≤ 122) = iI sm := by
      rw [bI_i, hsm]
      congr 1
      by_cases c : tA (XR Z 60 0 q)
      · rw [if_pos c, if_pos ((dy_in (by omega) (by omega) tq.1).mpr c)]
      · rw [if_neg c, if_neg (fun k => c ((dy_in (by omega) (by omega) tq.1).mp k))]
    rw [rz_00 h4 h13]
    simp (disch := first | assumption | omega) only [bX12_next_164, p_12_17, p_12_14, li_0, li_1, ob2, Option.bind_some, iI_add, r_isSmall (show Rg (dy (XR Z 60 0 q)) from ⟨by omega, by omega⟩), bs]
  rw [z]
  suffices H : ∃ al w n, bX12_next_181 f0 f0 (Ad Y 12 0) (iI sm) (iI 1) (hp Y (rz Z q q 0 0)) = some (hp Y (sF (rz Z q e w n) 12 0 11 (tkR sm al (e - q)))) ∧ RunZ (XR Z 60 0) q e sm al w n by
    obtain ⟨al, w, n, H1, H2⟩ := H
    exact ⟨sm, al, w, n, hsm, H1, H2⟩
  refine lp (fun f (s : Int × Int × Int64 × Int) => bX12_next_181 f0 f (Ad Y 12 0) (iI sm) (iI s.2.1) (hp Y (rz Z q s.1 s.2.2.1 s.2.2.2))) (fun s => (q ≤ s.1 ∧ s.1 ≤ e) ∧ RunZ (XR Z 60 0) q s.1 sm s.2.1 s.2.2.1 s.2.2.2) (fun s => (e - s.1).toNat) (fun r => ∃ al w n, r = some (hp Y (sF (rz Z q e w n) 12 0 11 (tkR sm al (e - q)))) ∧ RunZ (XR Z 60 0) q e sm al w n) ?_ f0 (q, 1, 0, 0) ⟨⟨by show q ≤ q; omega, by show q ≤ e; omega⟩, RunZ_0⟩ (by show (e - q).toNat < f0; omega)
  rintro f ⟨i, al, w, n⟩ ⟨⟨i0, i1⟩, hI⟩
  dsimp only at i0 i1 hI ⊢
  have al01 := hI.1
  have hn := hI.2.2.2.2.1.1
  by_cases c : i < e
  · have tb := ht i (by omega) (by omega)
    have tr := hr i i0 c
    have di : dy (XR Z 60 0 i) = XR Z 60 0 i := dy_id (by omega)
    have pk : ∀ w n, fX12_peek f0 (Ad Y 12 0) (hp Y (rz Z q i w n)) = some (iI (XR Z 60 0 i), hp Y (rz Z q i w n)) := fun w n => by
      have := r_peek1 (f0 := f0) (Z := rz Z q i w n) g ht (p := i) rfl (by omega) (show i < XF Z 12 0 3 by omega) sz
      rw [this]
      show some (iI (dy (XR Z 60 0 i)), _) = _
      rw [di]
    have rt : Rg (XR Z 60 0 i) := ⟨by omega, by omega⟩
    have k1 : bX12_next_181 f0 (f + 1) (Ad Y 12 0) (iI sm) (iI al) (hp Y (rz Z q i w n)) = bX12_next_201 f0 (bX12_next_181 f0 f) (Ad Y 12 0) (iI sm) (iI al) (hp Y (rz Z q i w n)) := by
      by_cases cA : tA (XR Z 60 0 i)
      · simp (disch := first | assumption | omega) only [bX12_next_181, g_12_13, k_12, li_0, li_1, li_3, li_7, ob2, iI_add, Option.bind_some, pk, r_isSmall rt, bI_i0, ite_n, if_pos cA]
      · have cD : 48 ≤ XR Z 60 0 i ∧ XR Z 60 0 i ≤ 57 := tr.resolve_left cA
        simp (disch := first | assumption | omega) only [bX12_next_181, g_12_13, k_12, li_0, li_1, li_3, li_7, ob2, iI_add, Option.bind_some, pk, r_isSmall rt, r_isDigit rt, bI_i0, ite_n, if_neg cA, if_pos cD]
    obtain ⟨al', hal⟩ : ∃ al' : Int, al' = if al = 1 ∧ (tA (XR Z 60 0 i) ↔ sm = 1) then 1 else 0 := ⟨_, rfl⟩
    have k2 : bX12_next_201 f0 (bX12_next_181 f0 f) (Ad Y 12 0) (iI sm) (iI al) (hp Y (rz Z q i w n)) = bX12_next_221 f0 (bX12_next_181 f0 f) (Ad Y 12 0) (iI sm) (iI al') (hp Y (rz Z q i w n)) := by
      by_cases c1 : al = 0
      · rw [if_neg (by omega)] at hal
        simp (disch := first | assumption | omega) only [bX12_next_201, bX12_next_220, k_12, li_0, li_1, ob2, Option.bind_some, iI_add, iI_eq, if_pos c1, hal]
      · by_cases cA : tA (XR Z 60 0 i)
        · by_cases c2 : (1 : Int) = sm
          · rw [if_pos ⟨by omega, ⟨fun _ => by omega, fun _ => cA⟩⟩] at hal
            simp (disch := first | assumption | omega) only [bX12_next_201, k_12, li_0, li_1, ob2, Option.bind_some, iI_add, iI_eq, if_neg c1, pk, r_isSmall rt, bI_i, if_pos cA, if_pos c2, hal]
          · rw [if_neg (fun k => c2 (k.2.mp cA).symm)] at hal
            simp (disch := first | assumption | omega) only [bX12_next_201, bX12_next_220, k_12, li_0, li_1, ob2, Option.bind_some, iI_add, iI_eq, if_neg c1, pk, r_isSmall rt, bI_i, if_pos cA, if_neg c2, hal]
        · by_cases c2 : (0 : Int) = sm
          · rw [if_pos ⟨by omega, ⟨fun k => absurd k cA, fun _ => by omega⟩⟩] at hal
            simp (disch := first | assumption | omega) only [bX12_next_201, k_12, li_0, li_1, ob2, Option.bind_some, iI_add, iI_eq, if_neg c1, pk, r_isSmall rt, bI_i, if_neg cA, if_pos c2, hal]
          · rw [if_neg (fun k => cA (k.2.mpr (by omega)))] at hal
            simp (disch := first | assumption | omega) only [bX12_next_201, bX12_next_220, k_12, li_0, li_1, ob2, Option.bind_some, iI_add, iI_eq, if_neg c1, pk, r_isSmall rt, bI_i, if_neg cA, if_neg c2, hal]
    obtain ⟨w', hw, k3⟩ : ∃ w' : Int64, (al = 1 → sm = 1 → i - q ≤ 6 → w = jN (v8 (bnA (XR Z 60 0) q) (i - q).toNat) → w' = jN (v8 (bnA (XR Z 60 0) q) ((i - q).toNat + 1))) ∧ bX12_next_221 f0 (bX12_next_181 f0 f) (Ad Y 12 0) (iI sm) (iI al') (hp Y (rz Z q i w n)) = bX12_next_248 f0 (bX12_next_181 f0 f) (Ad Y 12 0) (iI sm) (iI al') (hp Y (rz Z q i w' n)) := by
      by_cases c1 : 7 ≤ i - q
      · refine ⟨w, fun _ _ k => by omega, ?_⟩
        simp (disch := first | assumption | omega) only [bX12_next_221, g_12_13, g_12_17, p_12_17, k_12, li_7, li_8, li_63, ob2, Option.bind_some, iI_add, rz_f13, iI_le, if_pos c1]
      · refine ⟨(w <<< (Int32.toInt64 (iI 8) &&& 63)) ||| Int32.toInt64 (iI (XR Z 60 0 i)), fun _ _ _ k => ?_, ?_⟩
        · rw [k]; exact run_put8 (by omega) (by omega) (by omega)
        · simp (disch := first | assumption | omega) only [bX12_next_221, g_12_13, g_12_17, p_12_17, k_12, li_7, li_8, li_63, ob2, Option.bind_some, iI_add, rz_f13, rz_j, iI_le, if_neg c1, pk, rz_17]
    obtain ⟨n', hn', k4⟩ : ∃ n' : Int, (n' = if 3 ≤ i - q then n else 10 * n + XR Z 60 0 i - 48) ∧ bX12_next_248 f0 (bX12_next_181 f0 f) (Ad Y 12 0) (iI sm) (iI al') (hp Y (rz Z q i w' n)) = bX12_next_275 f0 (bX12_next_181 f0 f) (Ad Y 12 0) (iI sm) (iI al') (hp Y (rz Z q i w' n')) := by
      by_cases c1 : 3 ≤ i - q
      · refine ⟨n, by rw [if_pos c1], ?_⟩
        simp (disch := first | assumption | omega) only [bX12_next_248, g_12_13, g_12_14, p_12_14, k_12, li_3, li_10, li_48, ob2, iI_add, iI_mul, iI_sub, Option.bind_some, rz_f13, iI_le, if_pos c1]
      · refine ⟨10 * n + XR Z 60 0 i - 48, by rw [if_neg c1], ?_⟩
        simp (disch := first | assumption | omega) only [bX12_next_248, g_12_13, g_12_14, p_12_14, k_12, li_3, li_10, li_48, ob2, iI_add, iI_mul, iI_sub, Option.bind_some, rz_f13, rz_f14, iI_le, if_neg c1, pk, iI_sub, rz_14]
    have k5 : bX12_next_275 f0 (bX12_next_181 f0 f) (Ad Y 12 0) (iI sm) (iI al') (hp Y (rz Z q i w' n')) = bX12_next_181 f0 f (Ad Y 12 0) (iI sm) (iI al') (hp Y (rz Z q (i + 1) w' n')) := by
      simp (disch := first | assumption | omega) only [bX12_next_275, g_12_13, g_12_4, p_12_13, p_12_4, li_1, iI_add, Option.bind_some, rz_f13, rz_f4b, rz_nx]
    right
    refine ⟨(i + 1, al', w', n'), ?_, ⟨⟨by show q ≤ i + 1; omega, by show i + 1 ≤ e; omega⟩, RunZ_s i0 hI tr hal hw hn'⟩, by show (e - (i + 1)).toNat < (e - i).toNat; omega⟩
    rw [k1, k2, k3, k4, k5]
  · have ie : i = e := by omega
    subst ie
    left
    refine ⟨al, w, n, ?_, hI⟩
    obtain ⟨cc, hcc, pk, d1, d2⟩ : ∃ cc : Int, (-1 ≤ cc ∧ cc < 256) ∧ fX12_peek f0 (Ad Y 12 0) (hp Y (rz Z q i w n)) = some (iI cc, hp Y (rz Z q i w n)) ∧ ¬ (97 ≤ cc ∧ cc ≤ 122) ∧ ¬ (48 ≤ cc ∧ cc ≤ 57) := by
      by_cases e : i < XF Z 12 0 3
      · have pk := r_peek1 (f0 := f0) (Z := rz Z q i w n) g ht (p := i) rfl (by omega) (show i < XF Z 12 0 3 by omega) sz
        have tb := ht i (by omega) (by omega)
        have dr := dy_rg tb.1 tb.2
        exact ⟨dy (XR Z 60 0 i), by omega, pk, fun k => (he e).1 ((dy_in (by omega) (by omega) tb.1).mp k), fun k => (he e).2 ((dy_in (by omega) (by omega) tb.1).mp k)⟩
      · exact ⟨-1, by omega, r_peek0 (p := i) g rfl (by omega) (show XF Z 12 0 3 ≤ i by omega) (by omega) (show 0 ≤ XF Z 12 0 3 by omega), by omega, by omega⟩
    have rc : Rg cc := ⟨by omega, by omega⟩
    unfold tkR
    by_cases a0 : al = 0
    · rw [if_pos a0]
      simp (disch := first | assumption | omega) only [bX12_next_181, bX12_next_320, bX12_next_333, g_12_13, k_12, li_0, li_1, li_3, li_7, ob2, iI_add, li_4, p_12_11, Option.bind_some, pk, r_isSmall rc, r_isDigit rc, bI_i0, ite_n, if_neg d1, if_neg d2, iI_eq, if_pos a0]
    · rw [if_neg a0]
      by_cases s0 : sm = 0
      · rw [if_pos s0]
        by_cases l3 : i - q ≤ 3
        · rw [if_pos l3]
          simp (disch := first | assumption | omega) only [bX12_next_181, bX12_next_317, bX12_next_333, g_12_13, k_12, li_0, li_1, li_3, li_7, ob2, iI_add, li_2, p_12_11, Option.bind_some, pk, r_isSmall rc, r_isDigit rc, bI_i0, ite_n, if_neg d1, if_neg d2, iI_eq, iI_le, if_neg a0, rz_f13, if_pos s0, if_pos l3]
        · rw [if_neg l3]
          simp (disch := first | assumption | omega) only [bX12_next_181, bX12_next_317, bX12_next_320, bX12_next_333, g_12_13, k_12, li_0, li_1, li_3, li_7, ob2, iI_add, li_2, li_4, p_12_11, Option.bind_some, pk, r_isSmall rc, r_isDigit rc, bI_i0, ite_n, if_neg d1, if_neg d2, iI_eq, iI_le, if_neg a0, rz_f13, if_pos s0, if_neg l3]
      · rw [if_neg s0]
        by_cases l3 : i - q ≤ 7
        · rw [if_pos l3]
          simp (disch := first | assumption | omega) only [bX12_next_181, bX12_next_317, bX12_next_333, g_12_13, k_12, li_0, li_1, li_3, li_7, ob2, iI_add, li_2, p_12_11, Option.bind_some, pk, r_isSmall rc, r_isDigit rc, bI_i0, ite_n, if_neg d1, if_neg d2, iI_eq, iI_le, if_neg a0, rz_f13, if_neg s0, if_pos l3]
        · rw [if_neg l3]
          simp (disch := first | assumption | omega) only [bX12_next_181, bX12_next_317, bX12_next_320, bX12_next_333, g_12_13, k_12, li_0, li_1, li_3, li_7, ob2, iI_add, li_2, li_4, p_12_11, Option.bind_some, pk, r_isSmall rc, r_isDigit rc, bI_i0, ite_n, if_neg d1, if_neg d2, iI_eq, iI_le, if_neg a0, rz_f13, if_neg s0, if_neg l3]
