/-! A LOG IS LIVED: line by line -/
theorem s76r {X : XS} {S r : Int → Int} : sR (sR X 61 0 S) 76 0 r = sR (sR X 76 0 r) 61 0 S := by
  rw [sR_cm _ 0 0 S r (by decide)]
theorem s76 {Y : YS} {Z : XS} {S : Int → Int} (g : GY Y) {i v : Int} (h0 : 0 ≤ i) (hi : i < 4) : stI 1 (hp Y (sR Z 61 0 S)) (Ad Y 76 0) (iI i) (iI v) = some (hp Y (sR (sR Z 76 0 (upi (XR Z 76 0) i v)) 61 0 S)) := by
  rw [s_76 g h0 hi, s76r]; rfl
theorem l76 {Y : YS} {Z : XS} {S : Int → Int} (g : GY Y) {i : Int} (h0 : 0 ≤ i) (hi : i < 4) : ldI 1 (hp Y (sR Z 61 0 S)) (Ad Y 76 0) (iI i) = some (iI (XR Z 76 0 i)) := l_76 (X := sR Z 61 0 S) g h0 hi
theorem l63 {Y : YS} {Z : XS} {S : Int → Int} (g : GY Y) {i : Int} (h0 : 0 ≤ i) (hi : i < 135) : ldI 1 (hp Y (sR Z 61 0 S)) (Ad Y 63 0) (iI i) = some (iI (XR Z 63 0 i)) := l_63 (X := sR Z 61 0 S) g h0 hi
def LvF (k : Nat) (X X' : XS) : Prop := (∀ s k' f, ¬ (s = 2 ∧ k' = 0 ∧ 7 ≤ f) → ¬ (s = 10 ∧ k' = k) → XF X' s k' f = XF X s k' f) ∧ (∀ s k', ¬ (k' = k ∧ 43 ≤ s ∧ s ≤ 46) → XR X' s k' = XR X s k') ∧ XJ X' = XJ X ∧ XP X' = XP X ∧ XM X' = XM X
theorem LvF_refl {k : Nat} {X : XS} : LvF k X X := ⟨fun _ _ _ _ _ => rfl, fun _ _ _ => rfl, rfl, rfl, rfl⟩
theorem LvF_trans {k : Nat} {X X1 X2 : XS} (h : LvF k X X1) (h' : LvF k X1 X2) : LvF k X X2 := ⟨fun s k' f q q' => (h'.1 s k' f q q').trans (h.1 s k' f q q'), fun s k' q => (h'.2.1 s k' q).trans (h.2.1 s k' q), h'.2.2.1.trans h.2.2.1, h'.2.2.2.1.trans h.2.2.2.1, h'.2.2.2.2.trans h.2.2.2.2⟩
theorem LvF_sh {k : Nat} {X : XS} {d : D5} : LvF k X (shS X k d) := by
  refine ⟨fun s k' f _ q => ?_, fun s k' q => ?_, rfl, rfl, rfl⟩
  · show (if s = 10 ∧ k' = k then d.1 f else X.1 s k' f) = _
    rw [if_neg q]; rfl
  · show (if k' = k then (if s = 43 then d.2.1 else if s = 44 then d.2.2.1 else if s = 45 then d.2.2.2.1 else if s = 46 then d.2.2.2.2 else X.2.1 s k') else X.2.1 s k') = _
    split
    · rw [if_neg (by omega), if_neg (by omega), if_neg (by omega), if_neg (by omega)]; rfl
    · rfl
theorem LvF_F {k : Nat} {X X' : XS} (h : LvF k X X') {f : Nat} {v : Int} (c : 7 ≤ f) : LvF k X (sF X' 2 0 f v) := by
  refine ⟨fun s k' f' q q' => ?_, h.2.1, h.2.2⟩
  rw [XF_sF, if_neg (by omega)]; exact h.1 s k' f' q q'
def LvB (X : XS) (k : Nat) (S : Int → Int) : Prop := WF X ∧ SeaI X 0 S ∧ PostR X S ∧ CD X (shG X k) ∧ RelS X (shG X k) S
theorem LvB_lv {k : Nat} {X X' : XS} {S S' : Int → Int} {d : D5} (f : LvF k X X') (W' : WF X') (se : SeaI X 0 S) (po : PostR X S) (hd : shG X' k = d) (cd : CD X d) (rl : RelS X d S') (hS : ∀ j, (j < 312 ∨ 465 ≤ j) → S' j = S j) : LvB X' k S' := by
  have r25 := f.2.1 25 0 (by omega)
  refine ⟨W', ?_, ?_, ?_, ?_⟩
  · refine SeaI_S (S := S) (fun j _ j1 => hS j (.inl j1)) ?_
    unfold SeaI CSea SeaR SeaW at *
    rw [r25, f.2.1 26 0 (by omega), f.2.1 27 0 (by omega), f.2.1 28 0 (by omega), f.2.1 29 0 (by omega), f.2.1 31 0 (by omega), f.2.1 32 0 (by omega), f.2.1 33 0 (by omega), f.2.1 34 0 (by omega), f.2.1 35 0 (by omega), f.1 6 0 2 (by omega) (by omega)]
    exact se
  · unfold PostR at *
    rw [f.2.1 66 0 (by omega), f.2.1 67 0 (by omega), f.2.1 34 0 (by omega), f.2.1 35 0 (by omega), hS 0 (by omega)]
    exact po
  · rw [hd, CD_n, r25]; exact cd
  · rw [hd, Rel_q, f.2.1 67 0 (by omega)]; exact rl
/-- what the reference's living may touch -/
def VZ (Z Z' : XS) : Prop := (∀ s k f, ¬ (s = 12 ∧ k = 0 ∧ (f = 26 ∨ f = 35)) → XF Z' s k f = XF Z s k f) ∧ (∀ s k, ¬ (k = 0 ∧ (s = 68 ∨ s = 69 ∨ s = 70 ∨ s = 76)) → XR Z' s k = XR Z s k) ∧ XJ Z' = XJ Z ∧ XP Z' = XP Z ∧ XM Z' = XM Z
theorem VZ_refl {X : XS} : VZ X X := ⟨fun _ _ _ _ => rfl, fun _ _ _ => rfl, rfl, rfl, rfl⟩
theorem VZ_trans {X X1 X2 : XS} (h : VZ X X1) (h' : VZ X1 X2) : VZ X X2 := ⟨fun s k f q => (h'.1 s k f q).trans (h.1 s k f q), fun s k q => (h'.2.1 s k q).trans (h.2.1 s k q), h'.2.2.1.trans h.2.2.1, h'.2.2.2.1.trans h.2.2.2.1, h'.2.2.2.2.trans h.2.2.2.2⟩
theorem VZ_76 {X X' : XS} (h : VZ X X') {r : Int → Int} : VZ X (sR X' 76 0 r) := by
  refine ⟨h.1, fun s k q => ?_, h.2.2⟩
  rw [XR_sR, if_neg (by omega)]; exact h.2.1 s k q
theorem VZ_scr {X X' : XS} (h : Scr X X') : VZ X X' ∧ XR X' 76 0 = XR X 76 0 := by
  obtain ⟨c, n, w, k, v, e, -⟩ := h
  subst e
  refine ⟨⟨fun s k' f q => ?_, fun s k' q => ?_, rfl, rfl, rfl⟩, rfl⟩
  · unfold scr; rw [XF_sF, if_neg (by omega), XF_sF, if_neg (by omega)]; rfl
  · unfold scr
    show XR (sR (sR (sR X 68 0 c) 69 0 n) 70 0 w) s k' = _
    rw [XR_sR, if_neg (by omega), XR_sR, if_neg (by omega), XR_sR, if_neg (by omega)]
theorem W_76 {Z : XS} (W : WF Z) {i v : Int} (hv : Rg v) : WF (sR Z 76 0 (upi (XR Z 76 0) i v)) := W_R W fun j => by
  rw [upi_at]; split
  · exact hv
  · exact W.2 _ _ _
def LnC (S : Int → Int) (c o w : Int) : Prop := (c = 11 ∧ 0 ≤ o ∧ o < S 0) ∨ (c = 12 ∧ 0 ≤ o ∧ o < S 1) ∨ (c = 13 ∧ 1 ≤ o ∧ o ≤ 60) ∨ c = 14 ∨ (c = 15 ∧ (0 ≤ w ∧ w < S 3) ∧ 0 ≤ o ∧ o < S 2)
theorem LnR_C {S : Int → Int} {c o w r p q : Int} (h : LnR S c o w r p q) : LnC S c o w := by
  rcases h with ⟨a, b, c, d, e⟩ | ⟨a, b, c, d, e⟩ | ⟨a, b, c, d, e⟩ | ⟨a, b⟩ | ⟨a, b, c, c', d, e, e'⟩
  · exact .inl ⟨a, d, e⟩
  · exact .inr (.inl ⟨a, d, e⟩)
  · exact .inr (.inr (.inl ⟨a, d, e⟩))
  · exact .inr (.inr (.inr (.inl a)))
  · exact .inr (.inr (.inr (.inr ⟨a, d, e, e'⟩)))
theorem LnR_S {S S' : Int → Int} (h : ∀ j, j < 312 → S' j = S j) {c o w r p q : Int} (l : LnR S c o w r p q) : LnR S' c o w r p q := by
  unfold LnR at *
  rw [h 0 (by omega), h 1 (by omega), h 2 (by omega), h 3 (by omega)]; exact l
theorem LnC_S {S S' : Int → Int} (h : ∀ j, j < 312 → S' j = S j) {c o w : Int} (l : LnC S c o w) : LnC S' c o w := by
  unfold LnC at *
  rw [h 0 (by omega), h 1 (by omega), h 2 (by omega), h 3 (by omega)]; exact l
/-- one line is lived -/
def DoL (f0 : Nat) (Y : YS) (X : XS) (k : Nat) (S : Int → Int) (c o w : Int) (C : Option (Int32 × Hp)) : Prop := ∃ a d' S', C = some (iI a, hp Y (shS X k d')) ∧ (0 ≤ a ∧ a ≤ 49) ∧ WD d' ∧ CD X d' ∧ WS S' ∧ (∀ j, (j < 312 ∨ 465 ≤ j) → S' j = S j) ∧ RelS X d' S' ∧ (a ≠ 0 → d' = shG X k ∧ S' = S) ∧ ∀ Z r p q, WF Z → XR Z 67 0 = XR X 67 0 → LnR S c o w r p q → ∃ Z', fX12_does f0 (Ad Y 12 0) (iI r) (iI p) (iI q) (hp Y (sR Z 61 0 S)) = some (iI a, hp Y (sR Z' 61 0 S')) ∧ Scr Z Z'
theorem j_liveLine {f0 : Nat} {Y : YS} {X : XS} {k : Nat} {S : Int → Int} {i : Int} (g : GY Y) (hk : k < 10) (b : LvB X k S) (Ws : WS S) (i0 : 0 ≤ i) (i1 : i < 40) (ln : LnC S (XR X 40 0 i) (XR X 41 0 i) (XR X 42 0 i)) (hf : 2000 ≤ f0) : DoL f0 Y X k S (XR X 40 0 i) (XR X 41 0 i) (XR X 42 0 i) (fX2_liveLine f0 (Ad Y 2 0) (Ad Y 10 k) (iI i) (hp Y X)) := by
  obtain ⟨W, se, po, cd, rl⟩ := b
  have Wd := WD_G W k
  have gk := ShO_k g hk
  have id := sh_id X k
  have sf := inv_S se cd rl
  obtain ⟨⟨_, s0⟩, ⟨_, s1⟩, ⟨_, s2⟩, ⟨_, s3⟩, _⟩ := sf.2.2.1
  have l40 := l_40 (Y := Y) (X := X) g i0 i1
  have l41 := l_41 (Y := Y) (X := X) g i0 i1
  have l42 := l_42 (Y := Y) (X := X) g i0 i1
  rcases ln with ⟨a, d, e⟩ | ⟨a, d, e⟩ | ⟨a, d, e⟩ | a | ⟨a, ⟨d, d'⟩, e, e'⟩
  · have cl : fX2_liveLine f0 (Ad Y 2 0) (Ad Y 10 k) (iI i) (hp Y X) = plC f0 10 (fX10_sailTo f0 (Ad Y 10 k) (iI (XR X 41 0 i)) (hp Y X)) := by
      unfold fX2_liveLine plC
      simp (disch := first | assumption | omega) only [g_2_2, g_2_3, Option.bind_some, l40, l41, a, li_11, li_10, if_true, k_10]
    obtain ⟨a', d2, S', h1, h2, h3, h4, h5, h6, h7, h8, h9⟩ := do_sail (f0 := f0) (Y := Y) (X := X) (k := k) (d := shG X k) (S := S) g hk W Wd se po cd rl Ws d e hf
    rw [id] at h1
    refine ⟨a', d2, S', by rw [cl]; exact h1, h2, h3, h4, h5, h6, h7, h8, fun Z r p q WZ h67 ln => ?_⟩
    rcases ln with ⟨w, w1, w2, _⟩ | ⟨w, _⟩ | ⟨w, _⟩ | ⟨w, _⟩ | ⟨w, _⟩
    · obtain ⟨Z', z1, z2⟩ := h9 Z (iI p) (iI q) WZ h67
      exact ⟨Z', by rw [w1, w2]; exact z1, z2⟩
    · omega
    · omega
    · omega
    · omega
  · have cl : fX2_liveLine f0 (Ad Y 2 0) (Ad Y 10 k) (iI i) (hp Y X) = fX10_paintAs f0 (Ad Y 10 k) (iI (XR X 41 0 i)) (hp Y X) := by
      unfold fX2_liveLine
      simp (disch := first | assumption | omega) only [g_2_2, g_2_3, Option.bind_some, l40, l41, a, li_11, li_12, iI_eq, Int.reduceEq, if_true, if_false, k_10]
      cases fX10_paintAs f0 (Ad Y 10 k) (iI (XR X 41 0 i)) (hp Y X) <;> rfl
    obtain ⟨a', d2, S', h1, h2, h3, h4, h5, h6, h7, h8, h9⟩ := do_paint (f0 := f0) (Y := Y) (X := X) (k := k) (d := shG X k) (S := S) g hk W Wd se cd rl Ws d e hf
    rw [id] at h1
    refine ⟨a', d2, S', by rw [cl]; exact h1, h2, h3, h4, h5, h6, h7, h8, fun Z r p q WZ h67 ln => ?_⟩
    rcases ln with ⟨w, _⟩ | ⟨w, w1, w2, _⟩ | ⟨w, _⟩ | ⟨w, _⟩ | ⟨w, _⟩
    · omega
    · obtain ⟨Z', z1, z2⟩ := h9 Z (iI p) (iI q) WZ h67
      exact ⟨Z', by rw [w1, w2]; exact z1, z2⟩
    · omega
    · omega
    · omega
  · have cl : fX2_liveLine f0 (Ad Y 2 0) (Ad Y 10 k) (iI i) (hp Y X) = plC f0 20 (fX10_waitFor f0 (Ad Y 10 k) (iI (XR X 41 0 i)) (hp Y X)) := by
      unfold fX2_liveLine plC
      simp (disch := first | assumption | omega) only [g_2_2, g_2_3, Option.bind_some, l40, l41, a, li_11, li_12, li_13, li_20, iI_eq, Int.reduceEq, if_true, if_false, k_10]
    obtain ⟨a', d2, S', h1, h2, h3, h4, h5, h6, h7, h8, h9⟩ := do_wait (f0 := f0) (Y := Y) (X := X) (k := k) (d := shG X k) (S := S) g hk W Wd se cd rl Ws d e
    rw [id] at h1
    refine ⟨a', d2, S', by rw [cl]; exact h1, h2, h3, h4, h5, h6, h7, h8, fun Z r p q WZ h67 ln => ?_⟩
    rcases ln with ⟨w, _⟩ | ⟨w, _⟩ | ⟨w, w1, w2, _⟩ | ⟨w, _⟩ | ⟨w, _⟩
    · omega
    · omega
    · obtain ⟨Z', z1, z2⟩ := h9 Z (iI p) (iI q) WZ h67
      exact ⟨Z', by rw [w1, w2]; exact z1, z2⟩
    · omega
    · omega
  · have cl : fX2_liveLine f0 (Ad Y 2 0) (Ad Y 10 k) (iI i) (hp Y X) = plC f0 30 (fX10_takeOwed f0 (Ad Y 10 k) (hp Y X)) := by
      unfold fX2_liveLine plC
      simp (disch := first | assumption | omega) only [g_2_2, Option.bind_some, l40, a, li_11, li_12, li_13, li_14, li_30, iI_eq, Int.reduceEq, if_true, if_false, k_10]
    obtain ⟨a', d2, S', h1, h2, h3, h4, h5, h6, h7, h8, h9⟩ := do_take (f0 := f0) (Y := Y) (X := X) (k := k) (d := shG X k) (S := S) g hk W Wd se cd rl Ws
    rw [id] at h1
    refine ⟨a', d2, S', by rw [cl]; exact h1, h2, h3, h4, h5, h6, h7, h8, fun Z r p q WZ h67 ln => ?_⟩
    rcases ln with ⟨w, _⟩ | ⟨w, _⟩ | ⟨w, _⟩ | ⟨w, w1⟩ | ⟨w, _⟩
    · omega
    · omega
    · omega
    · obtain ⟨Z', z1, z2⟩ := h9 Z (iI p) (iI q) WZ h67
      exact ⟨Z', by rw [w1]; exact z1, z2⟩
    · omega
  · have cl : fX2_liveLine f0 (Ad Y 2 0) (Ad Y 10 k) (iI i) (hp Y X) = plC f0 40 (fX10_teach f0 (Ad Y 10 k) (iI (XR X 42 0 i)) (iI (XR X 41 0 i)) (hp Y X)) := by
      unfold fX2_liveLine plC
      simp (disch := first | assumption | omega) only [g_2_2, g_2_3, g_2_4, Option.bind_some, l40, l41, l42, a, li_11, li_12, li_13, li_14, li_40, iI_eq, Int.reduceEq, if_true, if_false, k_10]
    obtain ⟨a', d2, S', h1, h2, h3, h4, h5, h6, h7, h8, h9⟩ := do_teach (f0 := f0) (Y := Y) (X := X) (k := k) (d := shG X k) (S := S) (m := XR X 42 0 i) (t := XR X 41 0 i) g hk W Wd se cd rl Ws d (by omega) e (by omega)
    rw [id] at h1
    refine ⟨a', d2, S', by rw [cl]; exact h1, h2, h3, h4, h5, h6, h7, h8, fun Z r p q WZ h67 ln => ?_⟩
    rcases ln with ⟨w, _⟩ | ⟨w, _⟩ | ⟨w, _⟩ | ⟨w, _⟩ | ⟨w, w1, w2, w3, _⟩
    · omega
    · omega
    · omega
    · omega
    · obtain ⟨Z', z1, z2⟩ := h9 Z (iI p) (iI q) WZ h67
      exact ⟨Z', by rw [w1, w2, w3]; exact z1, z2⟩
theorem j_live {f0 : Nat} {Y : YS} {k : Nat} {m v1 : Int} (g : GY Y) (hk : k < 10) (m1 : m ≤ 40) (hf : 2000 ≤ f0) : ∀ (n f : Nat) (X : XS) (S : Int → Int) (i : Int), (m - i).toNat = n → n + 1 < f → 0 ≤ i → i ≤ m → XF X 2 0 5 = m → XF X 2 0 7 = 0 → XF X 2 0 8 = i → LvB X k S → WS S → (∀ j, i ≤ j → j < m → LnC S (XR X 40 0 j) (XR X 41 0 j) (XR X 42 0 j)) →
    ∃ X' S' a i', bX2_live_15 f0 f (Ad Y 2 0) (Ad Y 10 k) (hp Y X) = bX2_live_66 f0 (Ad Y 2 0) (Ad Y 10 k) (hp Y X') ∧ LvF k X X' ∧ LvB X' k S' ∧ WS S' ∧ (∀ j, (j < 312 ∨ 465 ≤ j) → S' j = S j) ∧ (XF X' 2 0 7 = a ∧ XF X' 2 0 8 = i') ∧ (0 ≤ a ∧ a ≤ 49) ∧ (i ≤ i' ∧ i' ≤ m) ∧ (i' = i → S' = S) ∧
    ∀ Z f', n + 1 < f' → XF Z 12 0 36 = m → XR Z 76 0 0 = 0 → XR Z 76 0 1 = i → WF Z → XR Z 67 0 = XR X 67 0 → (∀ j, i ≤ j → j < m → LnR S (XR X 40 0 j) (XR X 41 0 j) (XR X 42 0 j) (XR Z 63 0 (3 * j)) (XR Z 63 0 (3 * j + 1)) (XR Z 63 0 (3 * j + 2))) → ∃ Z', bX12_log_111 f0 f' (Ad Y 12 0) (iI v1) (iI (-1)) (iI i) (hp Y (sR Z 61 0 S)) = bX12_log_191 f0 (Ad Y 12 0) (iI v1) (iI (if a = 0 then -1 else i')) (hp Y (sR Z' 61 0 S')) ∧ VZ Z Z' ∧ WF Z' ∧ XR Z' 76 0 0 = a ∧ XR Z' 76 0 1 = i' := by
  intro n
  induction n using Nat.strongRecOn with
  | _ n IH =>
  intro f X S i hn hnf i0 im x5 x7 x8 b Ws lc
  obtain ⟨f, rfl⟩ : ∃ q, f = q + 1 := ⟨f - 1, by omega⟩
  by_cases q : m ≤ i
  · refine ⟨X, S, 0, i, ?_, LvF_refl, b, Ws, fun _ _ => rfl, ⟨x7, x8⟩, by decide, ⟨by omega, im⟩, fun _ => rfl, fun Z f' hnf' z36 z760 z761 WZ h67 ln => ⟨Z, ?_, VZ_refl, WZ, z760, z761⟩⟩
    · rw [bX2_live_15, g_2_8 g, Option.bind_some, g_2_5 g, Option.bind_some, x8, x5, if_pos (iLE q (by omega) (by omega) (by omega) (by omega))]
    · obtain ⟨f', rfl⟩ : ∃ q, f' = q + 1 := ⟨f' - 1, by omega⟩
      have z36' : XF (sR Z 61 0 S) 12 0 36 = m := z36
      rw [bX12_log_111, g_12_36 g, Option.bind_some, z36', if_pos (iLE q (by omega) (by omega) (by omega) (by omega)), if_pos rfl]
  · obtain ⟨a, d', S1, e1, ab, wd, cd, Ws1, hS1, rl1, no, rf1⟩ := j_liveLine (f0 := f0) (Y := Y) g hk b Ws i0 (by omega) (lc i (by omega) (by omega)) hf
    obtain ⟨X1, hX1⟩ : ∃ X1, X1 = sF (shS X k d') 2 0 7 a := ⟨_, rfl⟩
    have f1 : LvF k X X1 := by rw [hX1]; exact LvF_F LvF_sh (by decide)
    have W1 : WF X1 := by rw [hX1]; exact W_F (W_sh b.1 wd) (by omega) (by omega)
    have g1 : shG X1 k = d' := by
      have : shG X1 k = shG (shS X k d') k := by rw [hX1]; rfl
      rw [this, shG_sh, if_pos rfl]
    have b1 : LvB X1 k S1 := LvB_lv f1 W1 b.2.1 b.2.2.1 g1 cd rl1 hS1
    have x17 : XF X1 2 0 7 = a := by rw [hX1]; rfl
    have x18 : XF X1 2 0 8 = i := by rw [hX1]; show XF (shS X k d') 2 0 8 = i; rw [sh_f (by decide)]; exact x8
    have x15 : XF X1 2 0 5 = m := by rw [f1.1 2 0 5 (by omega) (by omega)]; exact x5
    have cl : bX2_live_15 f0 (f + 1) (Ad Y 2 0) (Ad Y 10 k) (hp Y X) = if iI a = iI 0 then (pf 2 8 (hp Y X1) (Ad Y 2 0) (.int (iI (i + 1)))).bind fun h => bX2_live_15 f0 f (Ad Y 2 0) (Ad Y 10 k) h else bX2_live_15 f0 f (Ad Y 2 0) (Ad Y 10 k) (hp Y X1) := by
      rw [bX2_live_15, g_2_8 g, Option.bind_some, g_2_5 g, Option.bind_some, x8, x5, if_neg (iNLE q (by omega) (by omega) (by omega) (by omega)), g_2_7 g, Option.bind_some, x7, if_pos (show iI 0 = (0 : Int32) from rfl), Option.bind_some, k_2 g, e1, ob2_some, p_2_7 g, Option.bind_some, ← hX1, g_2_7 g, Option.bind_some, x17, g_2_8 g, Option.bind_some, x18, li_1, iI_add]
      rfl
    have n1 : ¬ (0 : Int) ≤ -1 := by decide
    have rf : ∀ Z f', XF Z 12 0 36 = m → XR Z 76 0 1 = i → WF Z → XR Z 67 0 = XR X 67 0 → LnR S (XR X 40 0 i) (XR X 41 0 i) (XR X 42 0 i) (XR Z 63 0 (3 * i)) (XR Z 63 0 (3 * i + 1)) (XR Z 63 0 (3 * i + 2)) → ∃ Z2, (bX12_log_111 f0 (f' + 1) (Ad Y 12 0) (iI v1) (iI (-1)) (iI i) (hp Y (sR Z 61 0 S)) = if a ≤ 0 then (stI 1 (hp Y (sR Z2 61 0 S1)) (Ad Y 76 0) (iI 1) (iI (i + 1))).bind fun h => bX12_log_111 f0 f' (Ad Y 12 0) (iI v1) (iI (-1)) (iI (i + 1)) h else bX12_log_111 f0 f' (Ad Y 12 0) (iI v1) (iI i) (iI (i + 1)) (hp Y (sR Z2 61 0 S1))) ∧ VZ Z Z2 ∧ WF Z2 ∧ XR Z2 76 0 0 = a ∧ XR Z2 76 0 1 = i := fun Z f' z36 z761 WZ h67 ln => by
      obtain ⟨Z1, e2, sz⟩ := rf1 Z _ _ _ WZ h67 ln
      obtain ⟨vz, v76⟩ := VZ_scr sz
      have WZ1 := Scr_W WZ sz
      obtain ⟨Z2, hZ2⟩ : ∃ Z2, Z2 = sR Z1 76 0 (upi (XR Z1 76 0) 0 a) := ⟨_, rfl⟩
      have z36' : XF (sR Z 61 0 S) 12 0 36 = m := z36
      have z2a : XR Z2 76 0 0 = a := by rw [hZ2]; show upi (XR Z1 76 0) 0 a 0 = a; exact upi_eq _ _ _
      have z2b : XR Z2 76 0 1 = i := by rw [hZ2]; show upi (XR Z1 76 0) 0 a 1 = i; rw [upi_ne _ _ (by decide), v76]; exact z761
      refine ⟨Z2, ?_, by rw [hZ2]; exact VZ_76 vz, by rw [hZ2]; exact W_76 WZ1 ⟨by omega, by omega⟩, z2a, z2b⟩
      rw [bX12_log_111, g_12_36 g, Option.bind_some, z36', if_neg (iNLE q (by omega) (by omega) (by omega) (by omega)), li_0, if_neg (iNLE n1 (by decide) (by decide) (by decide) (by decide))]
      simp (disch := first | assumption | omega) only [g_12_37, g_12_8, k_12, Option.bind_some, li_3, li_1, li_2, iI_mul, iI_add, l63, e2, ob2_some, s76, ← hZ2, l76, z2a, z2b, iI_le, bX12_log_185]
    by_cases ea : a = 0
    · obtain ⟨X2, hX2⟩ : ∃ X2, X2 = sF X1 2 0 8 (i + 1) := ⟨_, rfl⟩
      have f2 : LvF k X1 X2 := by rw [hX2]; exact LvF_F LvF_refl (by decide)
      have fx : LvF k X X2 := LvF_trans f1 f2
      have W2 : WF X2 := by rw [hX2]; exact W_F W1 (by omega) (by omega)
      have g2 : shG X2 k = shG X1 k := by rw [hX2]; rfl
      have b2 : LvB X2 k S1 := LvB_lv f2 W2 b1.2.1 b1.2.2.1 g2 b1.2.2.2.1 b1.2.2.2.2 (fun _ _ => rfl)
      obtain ⟨X', S', a', i', h1, h3, h4, h7, h8, h9, h10, h11, h12, h13⟩ := IH (n - 1) (by omega) f X2 S1 (i + 1) (by omega) (by omega) (by omega) (by omega) (by rw [fx.1 2 0 5 (by omega) (by omega)]; exact x5) (by rw [hX2]; show XF X1 2 0 7 = 0; omega) (by rw [hX2]; rfl) b2 Ws1 (fun j j0 j1 => by
        rw [fx.2.1 40 0 (by omega), fx.2.1 41 0 (by omega), fx.2.1 42 0 (by omega)]
        exact LnC_S (fun j hj => hS1 j (.inl hj)) (lc j (by omega) j1))
      refine ⟨X', S', a', i', ?_, LvF_trans fx h3, h4, h7, fun j hj => by rw [h8 j hj]; exact hS1 j hj, h9, h10, ⟨by omega, h11.2⟩, fun w => by omega, fun Z f' hnf' z36 z760 z761 WZ h67 ln => ?_⟩
      · rw [cl, if_pos (by rw [ea]), p_2_8 g, Option.bind_some, ← hX2]; exact h1
      · obtain ⟨f', rfl⟩ : ∃ q, f' = q + 1 := ⟨f' - 1, by omega⟩
        obtain ⟨Z2, r1, r2, r3, r4, r5⟩ := rf Z f' z36 z761 WZ h67 (ln i (by omega) (by omega))
        obtain ⟨Z3, hZ3⟩ : ∃ Z3, Z3 = sR Z2 76 0 (upi (XR Z2 76 0) 1 (i + 1)) := ⟨_, rfl⟩
        have vz3 : VZ Z Z3 := by rw [hZ3]; exact VZ_76 r2
        obtain ⟨Z', t1, t2, t3, t4⟩ := h13 Z3 f' (by omega) (by rw [vz3.1 12 0 36 (by omega)]; exact z36) (by rw [hZ3]; show upi (XR Z2 76 0) 1 (i + 1) 0 = 0; rw [upi_ne _ _ (by decide)]; omega) (by rw [hZ3]; show upi (XR Z2 76 0) 1 (i + 1) 1 = i + 1; exact upi_eq _ _ _) (by rw [hZ3]; exact W_76 r3 ⟨by omega, by omega⟩) (by rw [vz3.2.1 67 0 (by omega), fx.2.1 67 0 (by omega)]; exact h67) (fun j j0 j1 => by
          rw [fx.2.1 40 0 (by omega), fx.2.1 41 0 (by omega), fx.2.1 42 0 (by omega), vz3.2.1 63 0 (by omega)]
          exact LnR_S (fun j hj => hS1 j (.inl hj)) (ln j (by omega) j1))
        exact ⟨Z', by rw [r1, if_pos (by omega), s76 g (by decide) (by decide), Option.bind_some, ← hZ3]; exact t1, VZ_trans vz3 t2, t3, t4⟩
    · obtain ⟨nd, nS⟩ := no ea
      obtain ⟨f, rfl⟩ : ∃ q, f = q + 1 := ⟨f - 1, by omega⟩
      refine ⟨X1, S1, a, i, ?_, f1, b1, Ws1, hS1, ⟨x17, x18⟩, ab, ⟨by omega, im⟩, fun _ => nS, fun Z f' hnf' z36 z760 z761 WZ h67 ln => ?_⟩
      · rw [cl, if_neg (by rw [iI_eq (by omega) (by omega) (by decide) (by decide)]; exact ea), bX2_live_15, g_2_8 g, Option.bind_some, g_2_5 g, Option.bind_some, x18, x15, if_neg (iNLE q (by omega) (by omega) (by omega) (by omega)), g_2_7 g, Option.bind_some, x17, li_0, if_neg (iNE ea (by omega) (by omega) (by decide) (by decide))]
      · obtain ⟨f', rfl⟩ : ∃ q, f' = q + 2 := ⟨f' - 2, by omega⟩
        obtain ⟨Z2, r1, r2, r3, r4, r5⟩ := rf Z (f' + 1) z36 z761 WZ h67 (ln i (by omega) (by omega))
        have z36b : XF (sR Z2 61 0 S1) 12 0 36 = m := by show XF Z2 12 0 36 = m; rw [r2.1 12 0 36 (by omega)]; exact z36
        refine ⟨Z2, ?_, r2, r3, r4, r5⟩
        rw [r1, if_neg (by omega), bX12_log_111, g_12_36 g, Option.bind_some, z36b, if_neg ea]
        by_cases q2 : m ≤ i + 1
        · rw [if_pos (iLE q2 (by omega) (by omega) (by omega) (by omega))]
        · rw [if_neg (iNLE q2 (by omega) (by omega) (by omega) (by omega)), li_0, if_pos (iLE i0 (by decide) (by decide) (by omega) (by omega))]
