/-! CLASS AND REFERENCE, SIDE BY SIDE: the sea and a ship -/
def SeaR (X : XS) (j : Nat) (S : Int → Int) : Prop :=
  (XR X 25 j 0 = S 0 ∧ XR X 25 j 3 = S 1 ∧ XR X 25 j 4 = S 2 ∧ XR X 25 j 5 = S 3 ∧ XR X 25 j 1 = S 4 ∧ XR X 25 j 2 = S 5 ∧ XF X 6 j 2 = S 6 ∧ XR X 25 j 6 = S 7) ∧
  (∀ i, 0 ≤ i → i < 64 → XR X 26 j i = S (8 + i) ∧ XR X 27 j i = S (72 + i) ∧ XR X 28 j i = S (136 + i) ∧ XR X 29 j i = S (200 + i)) ∧
  (∀ i, 0 ≤ i → i < 8 → XR X 33 j i = S (264 + i) ∧ XR X 31 j i = S (272 + i)) ∧
  (∀ i, 0 ≤ i → i < S 7 → XR X 32 j i = 100 * S (280 + i) + S (296 + i) ∧ (0 ≤ S (280 + i) ∧ S (280 + i) < 8) ∧ 0 ≤ S (296 + i) ∧ S (296 + i) ≤ 99)
def PostR (X : XS) (S : Int → Int) : Prop := (∀ p q, 0 ≤ p → p < S 0 → 0 ≤ q → q < S 0 → XR X 66 0 (8 * p + q) = XR X 34 0 (p * 8 + q) ∧ XR X 67 0 (8 * p + q) = XR X 35 0 (p * 8 + q)) ∧ QR (XR X 66 0) ∧ QR (XR X 67 0)
abbrev isSe (S : Int → Int) : Prop := 0 < S 0 ∧ 0 < S 1
def RelS (X : XS) (d : D5) (S : Int → Int) : Prop :=
  (d.1 1 = S 312 ∧ d.1 4 = S 315 ∧ d.1 5 = S 316 ∧ d.1 6 = S 317 ∧ d.1 7 = S 318 ∧ d.1 8 = S 319) ∧
  (isSe S → d.1 2 = S 313 ∧ d.1 3 = S 314) ∧ (¬ isSe S → d.1 2 = -1 ∧ d.1 3 = -1) ∧
  (∀ i, 0 ≤ i → i < 8 → d.2.1 i = S (320 + i) ∧ d.2.2.2.1 i = S (328 + i)) ∧
  (∀ p s, 0 ≤ p → p < S 0 → 0 ≤ s → s < S 1 → d.2.2.2.2 (p * 8 + s) = knA (XR X 67 0) S p s) ∧ SR S ∧
  (∀ s p, 0 ≤ s → s < 8 → 0 ≤ p → p < 8 → S (400 + (8 * s + p)) = if bitI (d.2.2.1 s) p = true then 1 else 0) ∧
  ((0 ≤ S 464 ∧ S 464 < 256) ∧ ∀ p, 0 ≤ p → p < 8 → (bitI (S 464) p = true ↔ isSe S ∧ (p = 0 ∨ 0 < S (320 + p))))
theorem knF_congr {q S S' : Int → Int} {p s : Int} : ∀ {n : Nat}, (∀ i : Int, 0 ≤ i → i < (n : Int) → S' (336 + (8 * s + i)) = S (336 + (8 * s + i))) → knF q S' p s n = knF q S p s n
  | 0, _ => rfl
  | n + 1, h => by
    rw [knF, knF, knF_congr (fun i h0 h1 => h i h0 (by omega)), h n (by omega) (by omega)]
theorem knA_congr {q S S' : Int → Int} {p s : Int} (h0 : S' 0 = S 0) (hb : S 0 ≤ 8) (h : ∀ i : Int, 0 ≤ i → i < 8 → S' (336 + (8 * s + i)) = S (336 + (8 * s + i))) : knA q S' p s = knA q S p s := by
  unfold knA
  rw [h0]
  exact knF_congr (fun i i0 i1 => h i i0 (by omega))
theorem kn_learn {q S : Int → Int} {p s d p' : Int} (d0 : 0 ≤ d) (p0 : 0 ≤ p) (hS : SR S) (hp8 : p < 8) (s0 : 0 ≤ s) (s8 : s < 8) : ∀ n : Nat, knF q (learnS S p s d) p' s n = if p < (n : Int) then (if d + q (8 * p + p') < knF q S p' s n then d + q (8 * p + p') else knF q S p' s n) else knF q S p' s n
  | 0 => by rw [if_neg (by omega)]; rfl
  | n + 1 => by
    have ih := kn_learn (q := q) (p' := p') (d := d) d0 p0 hS hp8 s0 s8 n
    rw [knF, ih]
    by_cases e : p = (n : Int)
    · subst e
      rw [if_neg (show ¬ (n : Int) < (n : Int) by omega), if_pos (show (n : Int) < ((n + 1 : Nat) : Int) by omega)]
      have hs1 := hS (8 * s + n) (by omega) (by omega)
      have hL : learnS S n s d (336 + (8 * s + n)) = if S (336 + (8 * s + n)) = 0 ∨ d + 1 < S (336 + (8 * s + n)) then d + 1 else S (336 + (8 * s + n)) := by
        unfold learnS; split
        · rw [upi_eq]
        · rfl
      rw [hL, knF]
      generalize S (336 + (8 * s + n)) = v at *
      generalize knF q S p' s n = w at *
      generalize q (8 * n + p') = u at *
      (repeat' split) <;> omega
    · rw [learnS_o (show (336 + (8 * s + (n : Int))) ≠ 336 + (8 * s + p) by omega), knF]
      generalize S (336 + (8 * s + n)) = v at *
      generalize knF q S p' s n = w at *
      generalize q (8 * n + p') = u at *
      generalize q (8 * p + p') = u' at *
      by_cases a : p < (n : Int)
      · rw [if_pos a, if_pos (show p < ((n + 1 : Nat) : Int) by omega)]
        (repeat' split) <;> omega
      · rw [if_neg a, if_neg (show ¬ p < ((n + 1 : Nat) : Int) by omega)]
theorem learn_SR {S : Int → Int} (h : SR S) {p s d : Int} (d0 : 0 ≤ d) (d1 : d ≤ 999) : SR (learnS S p s d) := fun i i0 i6 => by
  have := h i i0 i6
  unfold learnS; split
  · rw [upi_at]; split <;> omega
  · exact this
theorem rel_tell {X : XS} {d : D5} {S : Int → Int} (hC : CSea X 0) (hS : SeaR X 0 S) (hP : PostR X S) (h : RelS X d S) (hd : CD X d) {p s : Int} (p0 : 0 ≤ p) (p1 : p < S 0) (s0 : 0 ≤ s) (s1 : s < S 1) : RelS X (tellD X d p s) (learnS S p s (d.1 1)) := by
  obtain ⟨⟨a1, a2, a3, a4, a5, a6⟩, b, b', c, k, r, t, u⟩ := h
  have c0 := hC.1; have c3 := hC.2.1; have e0 := hS.1.1; have e1 := hS.1.2.1; have h1 := hd.1
  have o : ∀ i, (i < 336 ∨ 399 < i) → learnS S p s (d.1 1) i = S i := fun i hi => learnS_o (by omega)
  have o0 := o 0 (by omega); have o1 := o 1 (by omega)
  refine ⟨⟨?_, ?_, ?_, ?_, ?_, ?_⟩, ?_, ?_, fun i i0 i8 => ?_, fun p' s' q0 q1 t0 t1 => ?_, learn_SR r h1.1 h1.2, fun s' p' t0 t1 q0 q1 => ?_, ⟨?_, fun p' q0 q1 => ?_⟩⟩
  · rw [o _ (by omega)]; exact a1
  · rw [o _ (by omega)]; exact a2
  · rw [o _ (by omega)]; exact a3
  · rw [o _ (by omega)]; exact a4
  · rw [o _ (by omega)]; exact a5
  · rw [o _ (by omega)]; exact a6
  · unfold isSe; rw [o0, o1, o _ (by omega), o _ (by omega)]; exact b
  · unfold isSe; rw [o0, o1]; exact b'
  · rw [o _ (by omega), o _ (by omega)]; exact c i i0 i8
  · rw [o0] at q1; rw [o1] at t1
    have kk := k p' s' q0 q1 t0 t1
    show tlR X d p s (XR X 25 0 0) (p' * 8 + s') = _
    have m1 : (p' * 8 + s') % 8 = s' := by omega
    have m2 : (p' * 8 + s') / 8 = p' := by omega
    have hpo := (hP.1 p p' p0 p1 q0 q1).2
    unfold tlR
    rw [m1, m2]
    by_cases e : s' = s
    · subst e
      rw [if_pos ⟨rfl, by omega, by omega⟩]
      unfold knA
      rw [o0, kn_learn h1.1 p0 r (by omega) s0 (by omega), if_pos (show p < ((S 0).toNat : Int) by omega), ← hpo]
      unfold knA at kk
      rw [← kk]
    · rw [if_neg (fun q => e q.1), kk]
      exact (knA_congr o0 (by omega) (fun i i0 i8 => learnS_o (by omega))).symm
  · rw [o _ (by omega)]; exact t s' p' t0 t1 q0 q1
  · rw [o _ (by omega)]; exact u.1
  · unfold isSe; rw [o0, o1, o _ (by omega), o _ (by omega)]; exact u.2 p' q0 q1
theorem rel_sea {X : XS} {d : D5} {S : Int → Int} (hS : SeaR X 0 S) (h : RelS X d S) : canD X d ↔ canS S := by
  unfold canD canS
  rw [hS.1.1, hS.1.2.1, h.1.2.2.2.1]
theorem rel_fh {X : XS} {S : Int → Int} {j : Nat} (hS : SeaR X j S) : forHer X j ↔ isSe S := by
  unfold forHer isSe
  rw [hS.1.1, hS.1.2.1]
/-- waits -/
theorem rel_wait {X : XS} {d : D5} {S : Int → Int} (hC : CSea X 0) (hS : SeaR X 0 S) (h : RelS X d S) {n : Int} : (waitA X d n).1 = whyWaitS S n ∧ ((waitA X d n).1 = 0 → RelS X (waitA X d n).2 (upi S 312 (S 312 + n))) := by
  have a1 := h.1.1; have c0 := hC.1; have e0 := hS.1.1
  unfold waitA whyWaitS lateS
  by_cases c : canD X d
  · rw [if_pos c, if_pos ((rel_sea hS h).mp c), a1]
    by_cases e : 999 < S 312 + n
    · rw [if_pos e, if_pos e]; exact ⟨rfl, fun q => absurd q (by simp)⟩
    · rw [if_neg e, if_neg e]
      refine ⟨rfl, fun _ => ?_⟩
      obtain ⟨⟨a1, a2, a3, a4, a5, a6⟩, b, b', cc, k, r, t, u⟩ := h
      have o : ∀ i, i ≠ 312 → upi S 312 (S 312 + n) i = S i := fun i hi => upi_ne _ _ hi
      have o0 := o 0 (by omega); have o1 := o 1 (by omega)
      refine ⟨⟨?_, ?_, ?_, ?_, ?_, ?_⟩, ?_, ?_, fun i i0 i8 => ?_, fun p' s' q0 q1 t0 t1 => ?_, fun i i0 i6 => ?_, fun s' p' t0 t1 q0 q1 => ?_, ⟨?_, fun p' q0 q1 => ?_⟩⟩
      · rw [upi_eq]; rfl
      · rw [o _ (by omega)]; exact a2
      · rw [o _ (by omega)]; exact a3
      · rw [o _ (by omega)]; exact a4
      · rw [o _ (by omega)]; exact a5
      · rw [o _ (by omega)]; exact a6
      · unfold isSe; rw [o0, o1, o _ (by omega), o _ (by omega)]; exact b
      · unfold isSe; rw [o0, o1]; exact b'
      · rw [o _ (by omega), o _ (by omega)]; exact cc i i0 i8
      · rw [o0] at q1; rw [o1] at t1
        rw [knA_congr (S' := upi S 312 (S 312 + n)) o0 (by omega) (fun i i0 i8 => o _ (by omega))]
        exact k p' s' q0 q1 t0 t1
      · rw [o _ (by omega)]; exact r i i0 i6
      · rw [o _ (by omega)]; exact t s' p' t0 t1 q0 q1
      · rw [o _ (by omega)]; exact u.1
      · unfold isSe; rw [o0, o1, o _ (by omega), o _ (by omega)]; exact u.2 p' q0 q1
  · rw [if_neg c, if_neg (fun q => c ((rel_sea hS h).mpr q))]
    exact ⟨rfl, fun q => absurd q (by simp)⟩
/-- takes -/
theorem rel_ow {X : XS} {d : D5} {S : Int → Int} (hS : SeaR X 0 S) (h : RelS X d S) {s p : Int} (s0 : 0 ≤ s) (s1 : s < 8) (p0 : 0 ≤ p) (p1 : p < 8) : owD X d s p = owS S s p := by
  unfold owD owS
  rw [h.2.2.2.2.2.2.1 s p s0 s1 p0 p1, (hS.2.1 (s * 8 + p) (by omega) (by omega)).2.2.2, show s * 8 + p = 8 * s + p by omega]
  by_cases c : bitI (d.2.2.1 s) p = true
  · rw [if_pos c, if_pos c, if_pos rfl]
  · rw [if_neg c, if_neg c, if_neg (by decide)]
theorem rel_take {X : XS} {d : D5} {S : Int → Int} (hC : CSea X 0) (hS : SeaR X 0 S) (hd : CD X d) (h : RelS X d S) : (takeA X d).1 = whyTakeS S ∧ ((takeA X d).1 = 0 → RelS X (takeA X d).2 (takeS S)) := by
  have c0 := hC.1; have c3 := hC.2.1; have e0 := hS.1.1; have e1 := hS.1.2.1
  unfold takeA whyTakeS
  by_cases c : canD X d
  · have cS := (rel_sea hS h).mp c
    obtain ⟨f2, f3⟩ := h.2.1 cS.1
    have q1 := (hd.2.1 c.1).1; have q2 := (hd.2.1 c.1).2
    rw [if_pos c, if_pos cS, rel_ow hS h (by omega) (by omega) (by omega) (by omega), f2, f3]
    by_cases e : owS S (S 314) (S 313) = 0
    · rw [if_pos e, if_pos e]; exact ⟨rfl, fun q => absurd q (by simp)⟩
    · rw [if_neg e, if_neg e]
      refine ⟨rfl, fun _ => ?_⟩
      obtain ⟨⟨a1, a2, a3, a4, a5, a6⟩, b, b', cc, k, r, t, u⟩ := h
      have o : ∀ i, i ≠ 316 → (i < 400 ∨ 463 < i) → takeS S i = S i := fun i h1 h2 => by
        unfold takeS; rw [upi_ne _ _ (by omega), upi_ne _ _ h1]
      have o0 := o 0 (by omega) (by omega); have o1 := o 1 (by omega) (by omega)
      refine ⟨⟨?_, ?_, ?_, ?_, ?_, ?_⟩, ?_, ?_, fun i i0 i8 => ?_, fun p' s' q0 q1 t0 t1 => ?_, fun i i0 i6 => ?_, fun s' p' t0 t1 q0 q1 => ?_, ⟨?_, fun p' q0 q1 => ?_⟩⟩
      · rw [o _ (by omega) (by omega)]; exact a1
      · rw [o _ (by omega) (by omega)]; exact a2
      · unfold takeS
        rw [upi_ne _ _ (by omega), upi_eq, ← a3]; rfl
      · rw [o _ (by omega) (by omega)]; exact a4
      · rw [o _ (by omega) (by omega)]; exact a5
      · rw [o _ (by omega) (by omega)]; exact a6
      · unfold isSe; rw [o0, o1, o _ (by omega) (by omega), o _ (by omega) (by omega)]; exact b
      · unfold isSe; rw [o0, o1]; exact b'
      · rw [o _ (by omega) (by omega), o _ (by omega) (by omega)]; exact cc i i0 i8
      · rw [o0] at q1; rw [o1] at t1
        rw [knA_congr (S' := takeS S) o0 (by omega) (fun i i0 i8 => o _ (by omega) (by omega))]
        exact k p' s' q0 q1 t0 t1
      · rw [o _ (by omega) (by omega)]; exact r i i0 i6
      · have tt := t s' p' t0 t1 q0 q1
        have hb := ior_bit (a := d.2.2.1 (S 314)) (b := S 313) (hd.2.2.2.2.2.1 _ (by omega) (by omega)).1 (by have := hd.2.2.2.2.2.1 (S 314) (by omega) (by omega); omega) (by omega) (by omega)
        show takeS S _ = if bitI (upi d.2.2.1 (S 314) (ior (d.2.2.1 (S 314)) (pw (S 313))) s') p' = true then 1 else 0
        unfold takeS
        by_cases e2 : s' = S 314
        · subst e2
          rw [upi_eq, hb.2.2 p' q0]
          by_cases e3 : p' = S 313
          · subst e3; rw [upi_eq]; simp
          · rw [upi_ne _ _ (by omega), upi_ne _ _ (by omega), tt]; simp [e3]
        · rw [upi_ne d.2.2.1 _ e2, upi_ne _ _ (by omega), upi_ne _ _ (by omega)]; exact tt
      · rw [o _ (by omega) (by omega)]; exact u.1
      · unfold isSe; rw [o0, o1, o _ (by omega) (by omega), o _ (by omega) (by omega)]; exact u.2 p' q0 q1
  · rw [if_neg c, if_neg (fun q => c ((rel_sea hS h).mpr q))]
    exact ⟨rfl, fun q => absurd q (by simp)⟩
/-- teaches -/
theorem rel_teach {X : XS} {d : D5} {S : Int → Int} (hC : CSea X 0) (hS : SeaR X 0 S) (h : RelS X d S) {m r : Int} (m0 : 0 ≤ m) (m8 : m < 8) : (teachA X d m r).1 = whyLearnS S m r ∧ ((teachA X d m r).1 = 0 → RelS X (teachA X d m r).2 (teachS S m r)) := by
  have a1 := h.1.1; have c0 := hC.1; have e0 := hS.1.1
  unfold teachA whyLearnS lateS
  by_cases c : canD X d
  · rw [if_pos c, if_pos ((rel_sea hS h).mp c), a1, (h.2.2.2.1 m m0 m8).2]
    by_cases e : bitI (S (328 + m)) r = true
    · rw [if_pos e, if_pos e]; exact ⟨rfl, fun q => absurd q (by simp)⟩
    · rw [if_neg e, if_neg e]
      by_cases e2 : 999 < S 312 + 3
      · rw [if_pos e2, if_pos e2]; exact ⟨rfl, fun q => absurd q (by simp)⟩
      · rw [if_neg e2, if_neg e2]
        refine ⟨rfl, fun _ => ?_⟩
        obtain ⟨⟨a1, a2, a3, a4, a5, a6⟩, b, b', cc, k, rr, t, u⟩ := h
        have o : ∀ i, i ≠ 312 → (i < 328 ∨ 335 < i) → teachS S m r i = S i := fun i h1 h2 => by
          unfold teachS; rw [upi_ne _ _ h1, upi_ne _ _ (by omega)]
        have o0 := o 0 (by omega) (by omega); have o1 := o 1 (by omega) (by omega)
        refine ⟨⟨?_, ?_, ?_, ?_, ?_, ?_⟩, ?_, ?_, fun i i0 i8 => ⟨?_, ?_⟩, fun p' s' q0 q1 t0 t1 => ?_, fun i i0 i6 => ?_, fun s' p' t0 t1 q0 q1 => ?_, ⟨?_, fun p' q0 q1 => ?_⟩⟩
        · unfold teachS; rw [upi_eq]; rfl
        · rw [o _ (by omega) (by omega)]; exact a2
        · rw [o _ (by omega) (by omega)]; exact a3
        · rw [o _ (by omega) (by omega)]; exact a4
        · rw [o _ (by omega) (by omega)]; exact a5
        · rw [o _ (by omega) (by omega)]; exact a6
        · unfold isSe; rw [o0, o1, o _ (by omega) (by omega), o _ (by omega) (by omega)]; exact b
        · unfold isSe; rw [o0, o1]; exact b'
        · rw [o _ (by omega) (by omega)]; exact (cc i i0 i8).1
        · show upi d.2.2.2.1 m (ior (S (328 + m)) (pw r)) i = teachS S m r (328 + i)
          unfold teachS
          rw [upi_ne _ _ (show 328 + i ≠ 312 by omega)]
          by_cases e3 : i = m
          · subst e3; rw [upi_eq, upi_eq]
          · rw [upi_ne _ _ e3, upi_ne _ _ (by omega)]; exact (cc i i0 i8).2
        · rw [o0] at q1; rw [o1] at t1
          rw [knA_congr (S' := teachS S m r) o0 (by omega) (fun i i0 i8 => o _ (by omega) (by omega))]
          exact k p' s' q0 q1 t0 t1
        · rw [o _ (by omega) (by omega)]; exact rr i i0 i6
        · rw [o _ (by omega) (by omega)]; exact t s' p' t0 t1 q0 q1
        · rw [o _ (by omega) (by omega)]; exact u.1
        · unfold isSe; rw [o0, o1, o _ (by omega) (by omega), o _ (by omega) (by omega)]; exact u.2 p' q0 q1
  · rw [if_neg c, if_neg (fun q => c ((rel_sea hS h).mpr q))]
    exact ⟨rfl, fun q => absurd q (by simp)⟩
