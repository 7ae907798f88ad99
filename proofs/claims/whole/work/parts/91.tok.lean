/-! TOKENS: the class goes on to the next one -/
abbrev tA (t : Int) : Prop := 97 ≤ t ∧ t ≤ 122
abbrev tD (t : Int) : Prop := 48 ≤ t ∧ t ≤ 57
abbrev tW (t : Int) : Prop := t = 32 ∨ t = 10
abbrev tS (t : Int) : Prop := t = 59 ∨ t = 60 ∨ t = 61 ∨ t = 62 ∨ t = 40 ∨ t = 41
theorem lg_eq {x y : Int64} : (lg_cmp x y = iI 0) = (x = y) := by
  apply propext
  unfold lg_cmp
  constructor
  · intro h
    by_cases c : x > y
    · rw [if_pos c] at h; exact absurd h (by decide)
    · rw [if_neg c] at h
      by_cases e : x = y
      · exact e
      · rw [if_neg e] at h; exact absurd h (by decide)
  · intro h
    subst h
    rw [if_neg (fun h => absurd (Int64.lt_iff_toInt_lt.mp h) (by omega)), if_pos rfl]; rfl
theorem byt_a : ∀ n : Nat, n < 256 → ((Int32.toUInt32 (iI (dy ((n : Int) - 128))) % 65536).toInt32) = iI (dy ((n : Int) - 128)) := by decide +kernel
theorem by_ch {t : Int} (h0 : -128 ≤ t) (h1 : t < 128) : ((Int32.toUInt32 (iI (dy t)) % 65536).toInt32) = iI (dy t) := by
  have := byt_a (t + 128).toNat (by omega)
  rw [show (((t + 128).toNat : Nat) : Int) - 128 = t by omega] at this
  exact this
theorem byt_b : ∀ n : Nat, n < 256 → (Int32.toInt8 (iI (dy ((n : Int) - 128)))).toInt32 = iI ((n : Int) - 128) := by decide +kernel
theorem by_si {t : Int} (h0 : -128 ≤ t) (h1 : t < 128) : (Int32.toInt8 (iI (dy t))).toInt32 = iI t := by
  have := byt_b (t + 128).toNat (by omega)
  rw [show (((t + 128).toNat : Nat) : Int) - 128 = t by omega] at this
  exact this
theorem ob2_id {α : Type} {x : Option (α × Hp)} : ob2 x (fun a h => some (a, h)) = x := by cases x <;> rfl
theorem ob2_some {α β : Type} {a : α} {h : Hp} {f : α → Hp → Option β} : ob2 (some (a, h)) f = f a h := rfl
def sgI (t : Int) : Int := if t = 59 then 0 else if t = 60 then 1 else if t = 61 then 2 else if t = 62 then 3 else if t = 40 then 4 else if t = 41 then 5 else -1
theorem sgI_n {t : Int} : sgI t < 0 ↔ ¬ tS t := by unfold sgI; (repeat' split) <;> omega
theorem sgI_rg {t : Int} : -1 ≤ sgI t ∧ sgI t ≤ 5 := by unfold sgI; (repeat' split) <;> omega
theorem e_idx {f0 : Nat} {h : Hp} {t : Int} (h0 : -128 ≤ t) (h1 : t < 128) (hf : 20 ≤ f0) : fJ0_indexOf_0f7a4_s1 f0 (iI (dy t)) h = some (iI (sgI t), h) := by
  obtain ⟨f, hff⟩ : ∃ f, f0 = f + 7 := ⟨f0 - 7, by omega⟩
  have dr := dy_rg h0 h1
  have c1 : ¬ iI (dy t) < 0 := by rw [li_0, iI_lt (by omega) (by omega) (by omega) (by omega)]; omega
  have c2 : ¬ 255 < iI (dy t) := by rw [li_255, iI_lt (by omega) (by omega) (by omega) (by omega)]; omega
  have ce : fJ1_canEncode_9a6ad f0 (iI (dy t)) h = some (1, h) := by
    unfold fJ1_canEncode_9a6ad
    rw [if_neg c1, if_neg c2]; rfl
  have ix : fJ1_indexOf_4cfef_b1 f0 (iI (dy t)) 0 6 h = bJ1_indexOfChar_4cfef_b1_7 f0 (f + 7) (iI 6) (iI t) (iI 0) h := by
    unfold fJ1_indexOf_4cfef_b1
    rw [ce, ob2_some, if_neg (show ¬ (1 : Int32) = 0 by decide), if_pos (show (if (0 : Int32) < 0 then (0 : Int32) else 0) < (if (6 : Int32) < 6 then 6 else 6) by decide), ob2_id, if_neg (show ¬ (0 : Int32) < 0 by decide), if_neg (show ¬ (6 : Int32) < 6 by decide)]
    unfold fJ1_indexOfChar_4cfef_b1
    rw [by_si h0 h1, ← hff]; rfl
  have il : fJ0_isLatin1_aae02_s1 f0 h = some (1, h) := zr_i1
  have ln : fJ0_length_8abf5_s1 f0 h = some (6, h) := by
    unfold fJ0_length_8abf5_s1 fJ0_coder_7d493_s1
    rw [show zr 0 h = some (0, h) from zr_i0, ob2_some, show ((6 : Int32) >>> (0 &&& 31)) = 6 by decide]
  have st : fJ0_indexOf_0f7a4_s1 f0 (iI (dy t)) h = bJ1_indexOfChar_4cfef_b1_7 f0 (f + 7) (iI 6) (iI t) (iI 0) h := by
    rw [← ix]
    unfold fJ0_indexOf_0f7a4_s1
    rw [ob2_id]
    unfold fJ0_indexOf_7cf53_s1
    rw [il, ob2_some, if_neg (show ¬ (1 : Int32) = 0 by decide), ln, ob2_some, ob2_id]
  rw [st]
  have step : ∀ (f : Nat) (i c : Int), 0 ≤ i → i < 6 → byS 1 (iI i) = some (iI c) → Rg c → bJ1_indexOfChar_4cfef_b1_7 f0 (f + 1) (iI 6) (iI t) (iI i) h = if t = c then some (iI i, h) else bJ1_indexOfChar_4cfef_b1_7 f0 f (iI 6) (iI t) (iI (i + 1)) h := by
    intro f i c i0 i6 hb hc
    have k1 := hc.1; have k2 := hc.2
    have q : ¬ (6 : Int) ≤ i := by omega
    have e : (c = t) = (t = c) := propext eq_comm
    simp (disch := omega) only [bJ1_indexOfChar_4cfef_b1_7, iI_le, if_neg q, hb, Option.bind_some, iI_eq, li_1, iI_add, e]
  have fin : ∀ f : Nat, bJ1_indexOfChar_4cfef_b1_7 f0 (f + 1) (iI 6) (iI t) (iI 6) h = some (iI (-1), h) := by
    intro f
    have q : (6 : Int) ≤ 6 := by omega
    simp (disch := omega) only [bJ1_indexOfChar_4cfef_b1_7, iI_le, if_pos q, lm_1, iI_neg, li_1]
  rw [step _ 0 59 (by omega) (by omega) rfl ⟨by decide, by decide⟩, step _ (0 + 1) 60 (by omega) (by omega) rfl ⟨by decide, by decide⟩, step _ (0 + 1 + 1) 61 (by omega) (by omega) rfl ⟨by decide, by decide⟩, step _ (0 + 1 + 1 + 1) 62 (by omega) (by omega) rfl ⟨by decide, by decide⟩, step _ (0 + 1 + 1 + 1 + 1) 40 (by omega) (by omega) rfl ⟨by decide, by decide⟩, step _ (0 + 1 + 1 + 1 + 1 + 1) 41 (by omega) (by omega) rfl ⟨by decide, by decide⟩, show (0 + 1 + 1 + 1 + 1 + 1 + 1 : Int) = 6 by decide, fin]
  unfold sgI
  (repeat' split) <;> rfl
theorem sJ_sJ (X : XS) (s k : Nat) (r r' : Int → Int64) : sJ (sJ X s k r) s k r' = sJ X s k r' := by
  unfold sJ up2
  refine Prod.ext rfl (Prod.ext rfl (Prod.ext ?_ rfl))
  funext a b
  show (if a = s ∧ b = k then r' else if a = s ∧ b = k then r else X.2.2.1 a b) = if a = s ∧ b = k then r' else X.2.2.1 a b
  split <;> rfl
def rn (X : XS) (i : Int) (w : Int64) (v : Int) : XS := sF (sF (sJ X 4 0 (upi (XJ X 4 0) 7 w)) 4 0 9 v) 4 0 4 i
theorem rn_4 {X : XS} {i v i' : Int} {w : Int64} : sF (rn X i w v) 4 0 4 i' = rn X i' w v := by unfold rn; rw [sF_sF]
theorem rn_9 {X : XS} {i v v' : Int} {w : Int64} : sF (rn X i w v) 4 0 9 v' = rn X i w v' := by unfold rn; rw [sF_cm _ i v' (by decide), sF_sF]
theorem rn_7 {X : XS} {i v : Int} {w w' : Int64} : sJ (rn X i w v) 4 0 (upi (XJ (rn X i w v) 4 0) 7 w') = rn X i w' v := by
  have e : upi (XJ (rn X i w v) 4 0) 7 w' = upi (XJ X 4 0) 7 w' := by
    show upi (upi (XJ X 4 0) 7 w) 7 w' = _
    rw [upi_upi]
  rw [e]
  show sF (sF (sJ (sJ X 4 0 _) 4 0 _) 4 0 9 v) 4 0 4 i = _
  rw [sJ_sJ]; rfl
theorem rn_f4 {X : XS} {i v : Int} {w : Int64} : XF (rn X i w v) 4 0 4 = i := rfl
theorem rn_f9 {X : XS} {i v : Int} {w : Int64} : XF (rn X i w v) 4 0 9 = v := rfl
theorem rn_f2 {X : XS} {i v : Int} {w : Int64} : XF (rn X i w v) 4 0 2 = XF X 4 0 2 := rfl
theorem rn_f3 {X : XS} {i v : Int} {w : Int64} : XF (rn X i w v) 4 0 3 = XF X 4 0 3 := rfl
theorem rn_f6 {X : XS} {i v : Int} {w : Int64} : XF (rn X i w v) 4 0 6 = XF X 4 0 6 := rfl
theorem rn_j7 {X : XS} {i v : Int} {w : Int64} : XJ (rn X i w v) 4 0 7 = w := rfl
theorem rn_R {X : XS} {i v : Int} {w : Int64} : XR (rn X i w v) = XR X := rfl
/-- digits as a number; letters from a place on -/
def nv (T : Int → Int) (a : Int) : Nat → Int
  | 0 => 0
  | n + 1 => nv T a n * 10 + T (a + n) - 48
def bnA (T : Int → Int) (a : Int) : Nat → Nat := fun j => (T (a + j)).toNat
def RunI (T : Int → Int) (a i L : Int) (w : Int64) (v : Int) : Prop :=
  (0 ≤ L ∧ L ≤ i - a) ∧ (∀ j, a ≤ j → j < i → tA (T j) ∨ tD (T j)) ∧ (L = i - a → ∀ j, a ≤ j → j < i → tA (T j)) ∧ (L ≠ i - a → ∃ j, a ≤ j ∧ j < i ∧ ¬ tA (T j)) ∧ (L = 0 → ∀ j, a ≤ j → j < i → tD (T j)) ∧ (L ≠ 0 → ∃ j, a ≤ j ∧ j < i ∧ tA (T j)) ∧ (L = i - a → i - a ≤ 7 → w = jN (v5 (bnA T a) (i - a).toNat)) ∧ ((0 ≤ v ∧ v ≤ 999) ∧ (i - a = 0 → v = 0) ∧ (i - a = 1 → v ≤ 9) ∧ (i - a = 2 → v ≤ 99)) ∧ (L = 0 → i - a ≤ 3 → v = nv T a (i - a).toNat)
theorem RunI_0 {T : Int → Int} {a : Int} : RunI T a a 0 0 0 := by
  refine ⟨⟨by omega, by omega⟩, fun j j0 j1 => by omega, fun _ j j0 j1 => by omega, fun q => by omega, fun _ j j0 j1 => by omega, fun q => by omega, fun _ _ => ?_, ⟨⟨by omega, by omega⟩, fun _ => rfl, fun _ => by omega, fun _ => by omega⟩, fun _ _ => ?_⟩
  · rw [show (a - a).toNat = 0 by omega]; rfl
  · rw [show (a - a).toNat = 0 by omega]; rfl
theorem RunI_A {T : Int → Int} {a i L v : Int} {w w' : Int64} (i0 : a ≤ i) (h : RunI T a i L w v) (t : tA (T i)) (hw : L = i - a → i - a ≤ 6 → w = jN (v5 (bnA T a) (i - a).toNat) → (∀ j, a ≤ j → j < i + 1 → tA (T j)) → w' = jN (v5 (bnA T a) ((i - a).toNat + 1))) : RunI T a (i + 1) (L + 1) w' v := by
  obtain ⟨h1, h2, h3, h4, h5, h6, h7, h8, h9⟩ := h
  have allA : L = i - a → ∀ j, a ≤ j → j < i + 1 → tA (T j) := fun e j j0 j1 => by
    by_cases q : j = i
    · rw [q]; exact t
    · exact h3 e j j0 (by omega)
  refine ⟨⟨by omega, by omega⟩, fun j j0 j1 => ?_, fun e => allA (by omega), fun e => ?_, fun e => by omega, fun _ => ⟨i, i0, by omega, t⟩, fun e1 e2 => ?_, ⟨h8.1, fun e => by omega, fun e => by have := h8.2.1 (by omega); omega, fun e => by have := h8.2.2.1 (by omega); omega⟩, fun e => by omega⟩
  · by_cases q : j = i
    · rw [q]; exact .inl t
    · exact h2 j j0 (by omega)
  · obtain ⟨j, j0, j1, j2⟩ := h4 (by omega)
    exact ⟨j, j0, by omega, j2⟩
  · rw [show (i + 1 - a).toNat = (i - a).toNat + 1 by omega]
    exact hw (by omega) (by omega) (h7 (by omega) (by omega)) (allA (by omega))
theorem RunI_D {T : Int → Int} {a i L v v' : Int} {w : Int64} (i0 : a ≤ i) (h : RunI T a i L w v) (t : tD (T i)) (hv : v' = if 3 ≤ i - a then v else v * 10 + T i - 48) : RunI T a (i + 1) L w v' := by
  obtain ⟨h1, h2, h3, h4, h5, h6, h7, h8, h9⟩ := h
  refine ⟨⟨by omega, by omega⟩, fun j j0 j1 => ?_, fun e => by omega, fun e => ⟨i, i0, by omega, by omega⟩, fun e j j0 j1 => ?_, fun e => ?_, fun e => by omega, ?_, fun e1 e2 => ?_⟩
  · by_cases q : j = i
    · rw [q]; exact .inr t
    · exact h2 j j0 (by omega)
  · by_cases q : j = i
    · rw [q]; exact t
    · exact h5 e j j0 (by omega)
  · obtain ⟨j, j0, j1, j2⟩ := h6 e
    exact ⟨j, j0, by omega, j2⟩
  · obtain ⟨h81, h82, h83, h84⟩ := h8
    by_cases c : 3 ≤ i - a
    · rw [if_pos c] at hv; subst hv
      exact ⟨h81, fun e => by omega, fun e => by omega, fun e => by omega⟩
    · rw [if_neg c] at hv; subst hv
      rcases (by omega : i - a = 0 ∨ i - a = 1 ∨ i - a = 2) with e | e | e
      · have := h82 e; exact ⟨by omega, fun e => by omega, fun e => by omega, fun e => by omega⟩
      · have := h83 e; exact ⟨by omega, fun e => by omega, fun e => by omega, fun e => by omega⟩
      · have := h84 e; exact ⟨by omega, fun e => by omega, fun e => by omega, fun e => by omega⟩
  · rw [if_neg (by omega)] at hv
    rw [show (i + 1 - a).toNat = (i - a).toNat + 1 by omega, nv, show a + ((i - a).toNat : Int) = i by omega, ← h9 e1 (by omega)]
    exact hv
theorem run_put {T : Int → Int} {a i : Int} {n : Nat} (hi : i = a + n) (hn : n < 7) (h : ∀ j, a ≤ j → j < i + 1 → tA (T j)) : jN (v5 (bnA T a) n) ||| (Int32.toInt64 (iI (T i - 97 + 1)) <<< (Int32.toInt64 (iI (30 - 5 * (n : Int))) &&& 63)) = jN (v5 (bnA T a) (n + 1)) := by
  have hl : isL (bnA T a) (n + 1) := fun j hj => by
    have := h (a + j) (by omega) (by omega)
    unfold bnA; omega
  have hb := hl n (by omega)
  have e1 : T i - 97 + 1 = ((bnA T a n - 96 : Nat) : Int) := by
    have := h i (by omega) (by omega)
    unfold bnA at hb ⊢
    rw [← hi] at hb ⊢
    omega
  have e2 : 30 - 5 * (n : Int) = ((30 - 5 * n : Nat) : Int) := by omega
  rw [e1, e2, iI_64 (by omega), jN_shl (by omega), jN_or, v5_put hn hl]
theorem e_run {f0 : Nat} {Y : YS} {X : XS} (g : GY Y) (W : WF X) {a : Int} (ha : XF X 4 0 4 = a) (hs : XF X 4 0 6 = a) (a0 : 0 ≤ a) (as : a ≤ XF X 4 0 2) (sz : XF X 4 0 2 ≤ 940) (hf : 2000 ≤ f0) : ∃ e L w v, fX4_readRun f0 (Ad Y 4 0) (hp Y X) = some (iI L, hp Y (rn X e w v)) ∧ (a ≤ e ∧ e ≤ XF X 4 0 2) ∧ RunI (XR X 20 0) a e L w v ∧ (e < XF X 4 0 2 → ¬ tA (XR X 20 0 e) ∧ ¬ tD (XR X 20 0 e)) := by
  have z : fX4_readRun f0 (Ad Y 4 0) (hp Y X) = bX4_readRun_15 f0 f0 (Ad Y 4 0) (iI 0) (iI (30 - 5 * 0)) (hp Y (rn X a 0 0)) := by
    have e1 : rn X a 0 0 = sF (sJ X 4 0 (upi (XJ X 4 0) 7 0)) 4 0 9 0 := by
      have h := sF_self (X := sF (sJ X 4 0 (upi (XJ X 4 0) 7 0)) 4 0 9 0) (s := 4) (k := 0) (f := 4)
      have : XF (sF (sJ X 4 0 (upi (XJ X 4 0) 7 0)) 4 0 9 0) 4 0 4 = a := ha
      rw [this] at h
      exact h
    rw [e1]
    simp (disch := first | assumption | omega) only [fX4_readRun, p_4_7, p_4_9, li_0, li_30, Option.bind_some, iI_add]
    rfl
  rw [z]
  refine lp (fun f (s : Int × Int × Int64 × Int) => bX4_readRun_15 f0 f (Ad Y 4 0) (iI s.2.1) (iI (30 - 5 * s.2.1)) (hp Y (rn X s.1 s.2.2.1 s.2.2.2))) (fun s => (a ≤ s.1 ∧ s.1 ≤ XF X 4 0 2) ∧ RunI (XR X 20 0) a s.1 s.2.1 s.2.2.1 s.2.2.2) (fun s => (XF X 4 0 2 - s.1).toNat) (fun r => ∃ e L w v, r = some (iI L, hp Y (rn X e w v)) ∧ (a ≤ e ∧ e ≤ XF X 4 0 2) ∧ RunI (XR X 20 0) a e L w v ∧ (e < XF X 4 0 2 → ¬ tA (XR X 20 0 e) ∧ ¬ tD (XR X 20 0 e))) ?_ f0 (a, 0, 0, 0) ⟨⟨by show a ≤ a; omega, as⟩, RunI_0⟩ (by show (XF X 4 0 2 - a).toNat < f0; omega)
  rintro f ⟨i, L, w, v⟩ ⟨⟨i0, i1⟩, hI⟩
  dsimp only at i0 i1 hI ⊢
  have hL := hI.1
  have t1 := W_rl W 20 0 i; have t2 := W_rh W 20 0 i
  by_cases c : XF X 4 0 2 ≤ i
  · left
    refine ⟨i, L, w, v, ?_, ⟨i0, i1⟩, hI, fun q => by omega⟩
    simp (disch := first | assumption | omega) only [bX4_readRun_15, g_4_4, g_4_2, g_4_0, g_4_7, l_20, li_0, li_1, li_97, li_122, li_63, iI_add, iI_sub, Option.bind_some, rn_f4, rn_f2, iI_le, if_pos c]
  · by_cases cA : tA (XR X 20 0 i)
    · have n1 : ¬ XR X 20 0 i < 97 := by omega
      have n2 : ¬ 122 < XR X 20 0 i := by omega
      right
      by_cases sh : 0 ≤ 30 - 5 * L
      · refine ⟨(i + 1, L + 1, w ||| (Int32.toInt64 (iI (XR X 20 0 i - 97 + 1)) <<< (Int32.toInt64 (iI (30 - 5 * L)) &&& 63)), v), ?_, ⟨⟨by show a ≤ i + 1; omega, by show i + 1 ≤ _; omega⟩, ?_⟩, by show (XF X 4 0 2 - (i + 1)).toNat < (XF X 4 0 2 - i).toNat; omega⟩
        · simp (disch := first | assumption | omega) only [bX4_readRun_15, bX4_readRun_70, bX4_readRun_136, g_4_4, g_4_2, g_4_0, g_4_7, l_20, li_0, li_1, li_97, li_122, li_63, iI_add, iI_sub, p_4_7, lm_5, li_5, p_4_4, Option.bind_some, iI_neg, rn_f4, rn_f2, rn_R, rn_j7, iI_le, iI_lt, if_neg c, if_neg n1, if_neg n2, if_pos sh, iI_sub, rn_7, rn_4, iI_neg]
          rw [show 30 - 5 * L + -5 = 30 - 5 * (L + 1) by omega]
        · refine RunI_A i0 hI cA fun e1 e2 e3 e4 => ?_
          have := run_put (T := XR X 20 0) (a := a) (i := i) (n := (i - a).toNat) (by omega) (by omega) e4
          rw [show (((i - a).toNat : Nat) : Int) = L by omega] at this
          rw [e3]; exact this
      · refine ⟨(i + 1, L + 1, w ||| 0, v), ?_, ⟨⟨by show a ≤ i + 1; omega, by show i + 1 ≤ _; omega⟩, ?_⟩, by show (XF X 4 0 2 - (i + 1)).toNat < (XF X 4 0 2 - i).toNat; omega⟩
        · simp (disch := first | assumption | omega) only [bX4_readRun_15, bX4_readRun_70, bX4_readRun_136, g_4_4, g_4_2, g_4_0, g_4_7, l_20, li_0, li_1, li_97, li_122, li_63, iI_add, iI_sub, p_4_7, lm_5, li_5, p_4_4, Option.bind_some, iI_neg, rn_f4, rn_f2, rn_R, rn_j7, iI_le, iI_lt, if_neg c, if_neg n1, if_neg n2, if_neg sh, iI_sub, rn_7, rn_4, iI_neg]
          rw [show 30 - 5 * L + -5 = 30 - 5 * (L + 1) by omega]
        · exact RunI_A i0 hI cA fun e1 e2 e3 e4 => by omega
    · have key : bX4_readRun_15 f0 (f + 1) (Ad Y 4 0) (iI L) (iI (30 - 5 * L)) (hp Y (rn X i w v)) = bX4_readRun_83 f0 (bX4_readRun_15 f0 f) (Ad Y 4 0) (iI L) (iI (30 - 5 * L)) (iI (XR X 20 0 i)) (hp Y (rn X i w v)) := by
        by_cases n1 : XR X 20 0 i < 97
        · simp (disch := first | assumption | omega) only [bX4_readRun_15, g_4_4, g_4_2, g_4_0, g_4_7, l_20, li_0, li_1, li_97, li_122, li_63, iI_add, iI_sub, Option.bind_some, rn_f4, rn_f2, rn_R, rn_j7, iI_le, iI_lt, if_neg c, if_pos n1]
        · have n2 : 122 < XR X 20 0 i := by omega
          simp (disch := first | assumption | omega) only [bX4_readRun_15, g_4_4, g_4_2, g_4_0, g_4_7, l_20, li_0, li_1, li_97, li_122, li_63, iI_add, iI_sub, Option.bind_some, rn_f4, rn_f2, rn_R, rn_j7, iI_le, iI_lt, if_neg c, if_neg n1, if_pos n2]
      rw [key]
      by_cases cD : tD (XR X 20 0 i)
      · have n1 : ¬ XR X 20 0 i < 48 := by omega
        have n2 : ¬ 57 < XR X 20 0 i := by omega
        right
        refine ⟨(i + 1, L, w, if 3 ≤ i - a then v else v * 10 + XR X 20 0 i - 48), ?_, ⟨⟨by show a ≤ i + 1; omega, by show i + 1 ≤ _; omega⟩, RunI_D i0 hI cD rfl⟩, by show (XF X 4 0 2 - (i + 1)).toNat < (XF X 4 0 2 - i).toNat; omega⟩
        by_cases sh : 3 ≤ i - a
        · simp (disch := first | assumption | omega) only [bX4_readRun_83, bX4_readRun_128, bX4_readRun_136, g_4_4, g_4_6, g_4_9, li_48, li_57, li_3, li_10, iI_add, iI_mul, iI_sub, p_4_9, p_4_4, li_1, Option.bind_some, rn_f4, rn_f2, rn_f6, rn_f9, hs, rn_R, iI_le, iI_lt, if_neg n1, if_neg n2, iI_sub, if_pos sh, rn_9, rn_4]
        · simp (disch := first | assumption | omega) only [bX4_readRun_83, bX4_readRun_128, bX4_readRun_136, g_4_4, g_4_6, g_4_9, li_48, li_57, li_3, li_10, iI_add, iI_mul, iI_sub, p_4_9, p_4_4, li_1, Option.bind_some, rn_f4, rn_f2, rn_f6, rn_f9, hs, rn_R, iI_le, iI_lt, if_neg n1, if_neg n2, iI_sub, if_neg sh, rn_9, rn_4]
      · left
        refine ⟨i, L, w, v, ?_, ⟨i0, i1⟩, hI, fun _ => ⟨cA, cD⟩⟩
        by_cases n1 : XR X 20 0 i < 48
        · simp (disch := first | assumption | omega) only [bX4_readRun_83, bX4_readRun_134, g_4_4, g_4_6, g_4_9, li_48, li_57, li_3, li_10, iI_add, iI_mul, iI_sub, Option.bind_some, iI_lt, if_pos n1]
        · have n2 : 57 < XR X 20 0 i := by omega
          simp (disch := first | assumption | omega) only [bX4_readRun_83, bX4_readRun_134, g_4_4, g_4_6, g_4_9, li_48, li_57, li_3, li_10, iI_add, iI_mul, iI_sub, Option.bind_some, iI_lt, if_neg n1, if_pos n2]
