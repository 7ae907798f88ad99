/-! AN ACT, DONE OR NOT -/
theorem fwG_c {n : Int} (n8 : n ≤ 8) {r r' : Int → Int} (h : ∀ i, 0 ≤ i → i < 64 → r i = r' i) : ∀ m : Nat, m ≤ 8 → ∀ i, 0 ≤ i → i < 64 → fwG n m r i = fwG n m r' i
  | 0, _ => h
  | m + 1, hm => fun i i0 i6 => by
    have ih := fwG_c n8 h m (by omega)
    show fwS n m (fwG n m r) i = fwS n m (fwG n m r') i
    unfold fwS
    rw [ih i i0 i6]
    by_cases c : 0 ≤ i ∧ i / 8 < n ∧ i % 8 < n
    · rw [if_pos c, if_pos c, ih (8 * (i / 8) + m) (by omega) (by omega), ih (8 * m + i % 8) (by omega) (by omega)]
    · rw [if_neg c, if_neg c]
theorem iniW_c {n : Int} {r r' : Int → Int} (h : ∀ i, 0 ≤ i → i < 64 → r i = r' i) : ∀ i, 0 ≤ i → i < 64 → iniW n r i = iniW n r' i := fun i i0 i6 => by
  unfold iniW; rw [h i i0 i6]
theorem post_c {S S' : Int → Int} (h : ∀ j, 0 ≤ j → j < 312 → S' j = S j) {i : Int} (i0 : 0 ≤ i) (i6 : i < 64) : frs S' i = frs S i ∧ pst S' i = pst S i :=
  ⟨fwG_c (by omega) (iniW_c (fun i i0 i6 => h (8 + i) (by omega) (by omega))) 8 (by omega) i i0 i6, fwG_c (by omega) (iniW_c (fun i i0 i6 => h (72 + i) (by omega) (by omega))) 8 (by omega) i i0 i6⟩
abbrev outE (S S' : Int → Int) : Prop := ∀ j, 0 ≤ j → (j < 312 ∨ 465 ≤ j) → S' j = S j
theorem SeaR_S {X : XS} {j : Nat} {S S' : Int → Int} (h : ∀ j, 0 ≤ j → j < 312 → S' j = S j) (hC : CSea X j) (hR : SeaR X j S) : SeaR X j S' := by
  refine ⟨?_, fun i i0 i6 => ?_, fun i i0 i8 => ?_, fun i i0 i7 => ?_⟩
  · rw [h _ (by omega) (by omega), h _ (by omega) (by omega), h _ (by omega) (by omega), h _ (by omega) (by omega), h _ (by omega) (by omega), h _ (by omega) (by omega), h _ (by omega) (by omega), h _ (by omega) (by omega)]; exact hR.1
  · rw [h _ (by omega) (by omega), h _ (by omega) (by omega), h _ (by omega) (by omega), h _ (by omega) (by omega)]; exact hR.2.1 i i0 i6
  · rw [h _ (by omega) (by omega), h _ (by omega) (by omega)]; exact hR.2.2.1 i i0 i8
  · rw [h _ (by omega) (by omega)] at i7
    have c6 := hC.2.2.2.2.1; have := hR.1.2.2.2.2.2.2.2
    rw [h _ (by omega) (by omega), h _ (by omega) (by omega)]; exact hR.2.2.2 i i0 i7
theorem ZeS_S {S S' : Int → Int} (h : ∀ j, 0 ≤ j → j < 312 → S' j = S j) (hZ : ZeS S) : ZeS S' := by
  refine ⟨fun a b a0 a8 b0 b8 => ?_, fun s s0 s8 => ?_⟩
  · rw [h 0 (by omega) (by omega), h 1 (by omega) (by omega), h _ (by omega) (by omega), h _ (by omega) (by omega), h _ (by omega) (by omega), h _ (by omega) (by omega)]; exact hZ.1 a b a0 a8 b0 b8
  · rw [h 2 (by omega) (by omega), h _ (by omega) (by omega)]; exact hZ.2 s s0 s8
theorem SeaI_S {X : XS} {j : Nat} {S S' : Int → Int} (h : ∀ j, 0 ≤ j → j < 312 → S' j = S j) (hS : SeaI X j S) : SeaI X j S' :=
  ⟨hS.1, SeaR_S h hS.1 hS.2.1, hS.2.2.1, ZeS_S h hS.2.2.2.1, hS.2.2.2.2⟩
theorem NamI_S {w : Int → Int64} {so nu : Int → Int} {n : Int} {S S' : Int → Int} {nm : Int → Int64} (h : ∀ j, 0 ≤ j → j < 312 → S' j = S j) (hN : NamI w so nu n S nm) : NamI w so nu n S' nm := by
  have e : ncS S' = ncS S := funext fun s => by unfold ncS; rw [h 0 (by omega) (by omega), h 1 (by omega) (by omega), h 2 (by omega) (by omega), h 3 (by omega) (by omega)]
  unfold NamI at *
  rw [e, h 0 (by omega) (by omega), h 1 (by omega) (by omega), h 2 (by omega) (by omega), h 3 (by omega) (by omega)]
  exact hN
theorem SntI_S {st sg va : Int → Int} {n : Int} {S S' : Int → Int} (h : outE S S') (hT : SntI st sg va n S) : SntI st sg va n S' := by
  obtain ⟨a, b, c⟩ := hT
  refine ⟨by rw [h _ (by omega) (by omega)]; exact a, b, fun i hi => ?_⟩
  have := c i hi
  unfold stO at *
  rw [h 0 (by omega) (by omega), h 1 (by omega) (by omega), h (466 + 3 * i) (by omega) (by omega), h (467 + 3 * i) (by omega) (by omega), h (468 + 3 * i) (by omega) (by omega)]
  exact this
theorem kp1_lt {p : Nat → Nat} {m : Nat} (h : ∀ i, i < 10 → p i < 10) (m8 : m < 8) : ∀ i, i < 10 → kp1 p m i < 10 := fun i hi => by
  unfold kp1
  (repeat' split) <;> first | exact h _ (by omega) | exact h _ hi
theorem kp1_inj {p : Nat → Nat} {m : Nat} (h : ∀ i j, i < 10 → j < 10 → p i = p j → i = j) (m8 : m < 8) : ∀ i j, i < 10 → j < 10 → kp1 p m i = kp1 p m j → i = j := fun i j hi hj e => by
  unfold kp1 at e
  by_cases i0 : i = 0
  · by_cases j0 : j = 0
    · omega
    · by_cases j1 : j = 1
      · simp only [i0, j0, j1, if_true, if_false, Nat.one_ne_zero] at e; have := h 1 (m + 2) (by omega) (by omega) e; omega
      · by_cases j2 : j = m + 2
        · rw [if_pos i0, if_neg j0, if_neg j1, if_pos j2] at e; have := h 1 0 (by omega) (by omega) e; omega
        · rw [if_pos i0, if_neg j0, if_neg j1, if_neg j2] at e; have := h 1 j (by omega) hj e; omega
  · by_cases i1 : i = 1
    · by_cases j0 : j = 0
      · rw [if_neg i0, if_pos i1, if_pos j0] at e; have := h (m + 2) 1 (by omega) (by omega) e; omega
      · by_cases j1 : j = 1
        · omega
        · by_cases j2 : j = m + 2
          · rw [if_neg i0, if_pos i1, if_neg j0, if_neg j1, if_pos j2] at e; have := h (m + 2) 0 (by omega) (by omega) e; omega
          · rw [if_neg i0, if_pos i1, if_neg j0, if_neg j1, if_neg j2] at e; have := h (m + 2) j (by omega) hj e; omega
    · by_cases i2 : i = m + 2
      · by_cases j0 : j = 0
        · rw [if_neg i0, if_neg i1, if_pos i2, if_pos j0] at e; have := h 0 1 (by omega) (by omega) e; omega
        · by_cases j1 : j = 1
          · rw [if_neg i0, if_neg i1, if_pos i2, if_neg j0, if_pos j1] at e; have := h 0 (m + 2) (by omega) (by omega) e; omega
          · by_cases j2 : j = m + 2
            · omega
            · rw [if_neg i0, if_neg i1, if_pos i2, if_neg j0, if_neg j1, if_neg j2] at e; have := h 0 j (by omega) hj e; omega
      · by_cases j0 : j = 0
        · rw [if_neg i0, if_neg i1, if_neg i2, if_pos j0] at e; have := h i 1 hi (by omega) e; omega
        · by_cases j1 : j = 1
          · rw [if_neg i0, if_neg i1, if_neg i2, if_neg j0, if_pos j1] at e; have := h i (m + 2) hi (by omega) e; omega
          · by_cases j2 : j = m + 2
            · rw [if_neg i0, if_neg i1, if_neg i2, if_neg j0, if_neg j1, if_pos j2] at e; have := h i 0 hi (by omega) e; omega
            · rw [if_neg i0, if_neg i1, if_neg i2, if_neg j0, if_neg j1, if_neg j2] at e; exact h i j hi hj e
theorem rot8_lt {p : Nat → Nat} (h : ∀ i, i < 10 → p i < 10) : ∀ i, i < 10 → rot8 p i < 10 := fun i hi => by
  unfold rot8 rotI
  (repeat' split) <;> first | exact h _ (by omega) | exact h _ hi
theorem rot8_inj {p : Nat → Nat} (h : ∀ i j, i < 10 → j < 10 → p i = p j → i = j) : ∀ i j, i < 10 → j < 10 → rot8 p i = rot8 p j → i = j := by
  have idx : ∀ i, i < 10 → ∃ i', i' < 10 ∧ rot8 p i = p i' ∧ i' = (if i = 9 then 2 else if 2 ≤ i then i + 1 else i) := by
    intro i hi
    unfold rot8 rotI
    by_cases c : i = 9
    · exact ⟨2, by omega, by rw [if_pos c], by rw [if_pos c]⟩
    · by_cases c2 : 2 ≤ i
      · exact ⟨i + 1, by omega, by rw [if_neg c, if_pos (by omega)], by rw [if_neg c, if_pos c2]⟩
      · exact ⟨i, hi, by rw [if_neg c, if_neg (by omega)], by rw [if_neg c, if_neg c2]⟩
  intro i j hi hj e
  obtain ⟨i', a1, a2, a3⟩ := idx i hi
  obtain ⟨j', b1, b2, b3⟩ := idx j hj
  have := h i' j' a1 b1 (by rw [← a2, ← b2, e])
  rw [a3, b3] at this
  (repeat' split at this) <;> omega
theorem kpP_ok {p : Nat → Nat} {m : Int} (m0 : 0 ≤ m) (m8 : m ≤ 8) (h : ∀ i, i < 10 → p i < 10) (h2 : ∀ i j, i < 10 → j < 10 → p i = p j → i = j) : (∀ i, i < 10 → kpP p m i < 10) ∧ (∀ i j, i < 10 → j < 10 → kpP p m i = kpP p m j → i = j) ∧ kpP p m 0 = p 1 ∧ ∀ i : Nat, (i : Int) < kpM m → kpP p m (2 + i) = if (i : Int) + 1 = kpM m then p 0 else p (2 + i + (if m = 8 then 1 else 0)) := by
  unfold kpP kpM
  by_cases c : m = 8
  · simp only [if_pos c]
    refine ⟨kp1_lt (rot8_lt h) (by omega), kp1_inj (rot8_inj h2) (by omega), rfl, fun i hi => ?_⟩
    unfold kp1
    rw [if_neg (by omega), if_neg (by omega)]
    by_cases e : i = 7
    · subst e; rfl
    · rw [if_neg (by omega), if_neg (by omega)]
      unfold rot8 rotI
      rw [if_neg (by omega), if_pos (by omega)]
  · simp only [if_neg c]
    refine ⟨kp1_lt h (by omega), kp1_inj h2 (by omega), rfl, fun i hi => ?_⟩
    unfold kp1
    rw [if_neg (by omega), if_neg (by omega)]
    by_cases e : (i : Int) = m
    · rw [if_pos (by omega), if_pos (by omega)]
    · rw [if_neg (by omega), if_neg (by omega)]; rfl
theorem kpU_blk {u S S' : Int → Int} {m : Int} (m0 : 0 ≤ m) (m8 : m ≤ 8) (hS : ∀ j, (j < 312 ∨ 465 ≤ j) → S' j = S j) {i : Nat} (hi : (i : Int) < kpM m) : blk S' (kpU u S m) (153 * i) = if (i : Int) + 1 = kpM m then S else blk S u (153 * ((i : Int) + (if m = 8 then 1 else 0))) := by
  unfold kpM at *
  funext j
  unfold blk kpU
  by_cases b : 312 ≤ j ∧ j < 465
  · rw [if_pos b]
    by_cases c : m = 8
    · simp only [if_pos c] at hi ⊢
      unfold put153
      by_cases e : (i : Int) + 1 = 8
      · rw [if_pos (by omega), if_pos e, show 312 + (153 * (i : Int) + (j - 312) - 1071) = j by omega]
      · rw [if_neg (by omega), if_neg e, if_pos b]
        unfold shf
        rw [if_pos (by omega)]
        congr 1 <;> omega
    · simp only [if_neg c] at hi ⊢
      unfold put153
      by_cases e : (i : Int) + 1 = m + 1
      · rw [if_pos (by omega), if_pos e, show 312 + (153 * (i : Int) + (j - 312) - 153 * m) = j by omega]
      · rw [if_neg (by omega), if_neg e, if_pos b]
        congr 1 <;> omega
  · rw [if_neg b, hS j (by omega)]
    by_cases e : (i : Int) + 1 = if m = 8 then 8 else m + 1
    · rw [if_pos e]
    · rw [if_neg e, if_neg b]
theorem ShpI_done {X X2 : XS} {S S' : Int → Int} {d : D5} (h : ShpI X S) (hP : XP X2 = kpP (XP X) (XF X 11 0 14)) (h14 : XF X2 11 0 14 = kpM (XF X 11 0 14)) (h29 : XF X2 12 0 29 = kpM (XF X 12 0 29)) (h71 : XR X2 71 0 = kpU (XR X 71 0) S (XF X 12 0 29)) (h25 : XR X2 25 0 = XR X 25 0) (h67 : XR X2 67 0 = XR X 67 0) (hd : ∀ k, shG X2 k = if k = XP X 1 then d else shG X k) (hS : ∀ j, (j < 312 ∨ 465 ≤ j) → S' j = S j) (cd : CD X d) (hr : RelS X d S') : ShpI X2 S' := by
  obtain ⟨p1, p2, z, ⟨hc, hq⟩, ⟨m1, m2, m3⟩, past⟩ := h
  obtain ⟨k1, k2, k3, k4⟩ := kpP_ok (p := XP X) m2 m3 p1 p2
  have CDe : ∀ {d}, CD X d → CD X2 d := fun {d} q => by unfold CD forHer at *; rw [h25]; exact q
  have Re : ∀ {d S}, RelS X d S → RelS X2 d S := fun {d S} q => by unfold RelS at *; rw [h67]; exact q
  refine ⟨by rw [hP]; exact k1, by rw [hP]; exact k2, fun k => ?_, ?_, ?_, fun i hi => ?_⟩
  · have e : XF X2 10 k 6 = (shG X2 k).1 6 := rfl
    rw [e, hd k]
    split
    · exact cd.2.2.2.1
    · exact z k
  · rw [hP, k3, hd, if_pos rfl]
    exact ⟨CDe cd, Re hr⟩
  · rw [h14, h29, ← m1]
    refine ⟨rfl, ?_⟩
    unfold kpM; split <;> omega
  · rw [h14] at hi
    have hne : ∀ i, i ≠ 1 → i < 10 → XP X i ≠ XP X 1 := fun i h1 h2 q => h1 (p2 i 1 h2 (by omega) q)
    rw [hP, k4 i hi, hd, h71, ← m1, kpU_blk m2 m3 hS hi]
    by_cases e : (i : Int) + 1 = kpM (XF X 11 0 14)
    · rw [if_pos e, if_pos e, if_neg (hne 0 (by omega) (by omega))]
      exact ⟨CDe hc, Re hq⟩
    · rw [if_neg e, if_neg e]
      unfold kpM at e hi
      by_cases c : XF X 11 0 14 = 8
      · simp only [if_pos c] at e hi ⊢
        rw [if_neg (hne (2 + i + 1) (by omega) (by omega))]
        have := past (i + 1) (by omega)
        rw [show 2 + (i + 1) = 2 + i + 1 by omega] at this
        exact ⟨CDe this.1, Re (by rw [show (i : Int) + 1 = ((i + 1 : Nat) : Int) by omega]; exact this.2)⟩
      · simp only [if_neg c] at e hi ⊢
        rw [if_neg (hne (2 + i + 0) (by omega) (by omega))]
        have := past i (by omega)
        exact ⟨CDe this.1, Re (by rw [Int.add_zero]; exact this.2)⟩
theorem ShpI_not {X X2 : XS} {S : Int → Int} {d : D5} (h : ShpI X S) (hP : XP X2 = XP X) (h14 : XF X2 11 0 14 = XF X 11 0 14) (h29 : XF X2 12 0 29 = XF X 12 0 29) (h71 : XR X2 71 0 = XR X 71 0) (h25 : XR X2 25 0 = XR X 25 0) (h67 : XR X2 67 0 = XR X 67 0) (hd : ∀ k, shG X2 k = if k = XP X 1 then d else shG X k) (cd : d.1 6 = 0 ∨ d.1 6 = 1) : ShpI X2 S := by
  obtain ⟨p1, p2, z, ⟨hc, hq⟩, ⟨m1, m2, m3⟩, past⟩ := h
  have CDe : ∀ {d}, CD X d → CD X2 d := fun {d} q => by unfold CD forHer at *; rw [h25]; exact q
  have Re : ∀ {d S}, RelS X d S → RelS X2 d S := fun {d S} q => by unfold RelS at *; rw [h67]; exact q
  have hne : ∀ i, i ≠ 1 → i < 10 → XP X i ≠ XP X 1 := fun i h1 h2 q => h1 (p2 i 1 h2 (by omega) q)
  refine ⟨by rw [hP]; exact p1, by rw [hP]; exact p2, fun k => ?_, ?_, ?_, fun i hi => ?_⟩
  · have e : XF X2 10 k 6 = (shG X2 k).1 6 := rfl
    rw [e, hd k]
    split
    · exact cd
    · exact z k
  · rw [hP, hd, if_neg (hne 0 (by omega) (by omega))]
    exact ⟨CDe hc, Re hq⟩
  · rw [h14, h29]; exact ⟨m1, m2, m3⟩
  · rw [h14] at hi
    rw [hP, hd, if_neg (hne (2 + i) (by omega) (by omega)), h71]
    exact ⟨CDe (past i hi).1, Re (past i hi).2⟩
