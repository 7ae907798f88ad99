/-! she sails, here and there -/
theorem anyB_c {p q : Int → Bool} : ∀ {n : Nat}, (∀ i : Int, 0 ≤ i → i < (n : Int) → p i = q i) → anyB p n = anyB q n
  | 0, _ => rfl
  | n + 1, h => by rw [anyB, anyB, anyB_c (fun i h0 h1 => h i h0 (by omega)), h n (by omega) (by omega)]
theorem rel_rain {X : XS} {S : Int → Int} (hC : CSea X 0) (hS : SeaR X 0 S) {p t : Int} (p0 : 0 ≤ p) (p8 : p < 8) : rnD X p t = anyB (raB S p t) (S 7).toNat := by
  unfold rnD
  have h7 := hS.1.2.2.2.2.2.2.2
  have c6 := hC.2.2.2.2.1
  rw [h7] at *
  refine anyB_c (fun i i0 i1 => ?_)
  have := hS.2.2.2 i i0 (by omega)
  unfold rainB raB
  rw [this.1]
  have e : (100 * S (280 + i) + S (296 + i) = p * 100 + t % 100) ↔ (S (280 + i) = p ∧ S (296 + i) = t % 100) := by omega
  simp only [e]
theorem rel_wf {X : XS} {S : Int → Int} (hC : CSea X 0) (hS : SeaR X 0 S) {p : Int} (p0 : 0 ≤ p) (p8 : p < 8) : wfD X p = sumI (fun k => S (136 + (8 * k + p))) (S 1).toNat := by
  unfold wfD
  have c3 := hC.2.1
  rw [hS.1.2.1] at *
  refine sumI_congr (fun i i0 i1 => ?_)
  have := (hS.2.1 (i * 8 + p) (by omega) (by omega)).2.2.1
  rw [this, show i * 8 + p = 8 * i + p by omega]
theorem rel_sail5 {X : XS} {d : D5} {S : Int → Int} (hC : CSea X 0) (hS : SeaR X 0 S) (hd : CD X d) (h : RelS X d S) (hs : isSe S) {p : Int} (p0 : 0 ≤ p) (p1 : p < S 0) (h1 : d.1 1 + XR X 26 0 (d.1 2 * 8 + p) ≤ 999) : RelS X (sail1 X d p) (sail5 S p) := by
  obtain ⟨⟨a1, a2, a3, a4, a5, a6⟩, b, b', cc, k, r, t, u⟩ := h
  have c0 := hC.1; have e0 := hS.1.1; have e1 := hS.1.2.1; have c3 := hC.2.1
  have hfh := (rel_fh hS).mpr hs
  have q := hd.2.1 hfh
  have w : XR X 26 0 (d.1 2 * 8 + p) = S (8 + (8 * S 313 + p)) := by
    rw [(b hs).1] at *
    rw [(hS.2.1 (S 313 * 8 + p) (by omega) (by omega)).1, show S 313 * 8 + p = 8 * S 313 + p by omega]
  have o : ∀ i, i ≠ 312 → i ≠ 313 → i ≠ 320 + p → i ≠ 464 → i ≠ 319 → sail5 S p i = S i := fun i a1 a2 a3 a4 a5 => by
    unfold sail5; rw [upi_ne _ _ a5, upi_ne _ _ a4, upi_ne _ _ a3, upi_ne _ _ a2, upi_ne _ _ a1]
  have o0 := o 0 (by omega) (by omega) (by omega) (by omega) (by omega); have o1 := o 1 (by omega) (by omega) (by omega) (by omega) (by omega)
  have hb := ior_bit (a := S 464) (b := p) u.1.1 (by omega) p0 (by omega)
  have s464 : sail5 S p 464 = ior (S 464) (pw p) := by unfold sail5; rw [upi_ne _ _ (by omega), upi_eq]
  have sc : ∀ i, 0 ≤ i → i < 8 → sail5 S p (320 + i) = upi d.2.1 p (d.2.1 p + 1) i := fun i i0 i8 => by
    unfold sail5
    rw [upi_ne _ _ (by omega), upi_ne _ _ (by omega)]
    by_cases e : i = p
    · subst e; rw [upi_eq, upi_eq, (cc i i0 i8).1]
    · rw [upi_ne _ _ (by omega), upi_ne _ _ (by omega), upi_ne _ _ (by omega), upi_ne _ _ e, (cc i i0 i8).1]
  refine ⟨⟨?_, ?_, ?_, ?_, ?_, ?_⟩, fun _ => ⟨?_, ?_⟩, fun hn => ?_, fun i i0 i8 => ⟨?_, ?_⟩, fun p' s' q0 q1 t0 t1 => ?_, fun i i0 i6 => ?_, fun s' p' t0 t1 q0 q1 => ?_, ⟨?_, fun p' q0 q1 => ?_⟩⟩
  · show d.1 1 + XR X 26 0 (d.1 2 * 8 + p) = _
    unfold sail5
    rw [upi_ne _ _ (by omega), upi_ne _ _ (by omega), upi_ne _ _ (by omega), upi_ne _ _ (by omega), upi_eq, w, a1]
  · rw [o _ (by omega) (by omega) (by omega) (by omega) (by omega)]; exact a2
  · rw [o _ (by omega) (by omega) (by omega) (by omega) (by omega)]; exact a3
  · rw [o _ (by omega) (by omega) (by omega) (by omega) (by omega)]; exact a4
  · rw [o _ (by omega) (by omega) (by omega) (by omega) (by omega)]; exact a5
  · show wr (d.1 8 + 1) = _
    unfold sail5; rw [upi_eq, a6]
  · show p = _
    unfold sail5
    rw [upi_ne _ _ (by omega), upi_ne _ _ (by omega), upi_ne _ _ (by omega), upi_eq]
  · rw [o _ (by omega) (by omega) (by omega) (by omega) (by omega)]; exact (b hs).2
  · unfold isSe at hn; rw [o0, o1] at hn; exact absurd hs hn
  · exact (sc i i0 i8).symm
  · rw [o _ (by omega) (by omega) (by omega) (by omega) (by omega)]; exact (cc i i0 i8).2
  · rw [o0] at q1; rw [o1] at t1
    rw [knA_congr (S' := sail5 S p) o0 (by omega) (fun i i0 i8 => o _ (by omega) (by omega) (by omega) (by omega) (by omega))]
    exact k p' s' q0 q1 t0 t1
  · rw [o _ (by omega) (by omega) (by omega) (by omega) (by omega)]; exact r i i0 i6
  · rw [o _ (by omega) (by omega) (by omega) (by omega) (by omega)]; exact t s' p' t0 t1 q0 q1
  · rw [s464]
    exact ⟨hb.1, by have := hb.2.1 8 (by omega) (by omega); simpa using this⟩
  · rw [s464, hb.2.2 p' q0, sc p' q0 q1]
    have uu := u.2 p' q0 q1
    have c1 := (hd.2.2.2.2.1 p p0 (by omega)).1
    unfold isSe at *
    rw [o0, o1]
    by_cases e : p' = p
    · subst e
      rw [upi_eq]
      simp only [decide_true, Bool.or_true, true_iff]
      exact ⟨hs, .inr (by omega)⟩
    · rw [upi_ne _ _ e, (cc p' q0 q1).1]
      simp only [e, decide_false, Bool.or_false]
      exact uu
theorem rel_seen {X : XS} {d : D5} {S : Int → Int} (hC : CSea X 0) (hS : SeaR X 0 S) (hP : PostR X S) (Wd : WD d) (hd : CD X d) (h : RelS X d S) (hs : isSe S) {p : Int} (hp : d.1 2 = p) : RelS X (seenD X d) (seenS (XR X 67 0) S p) := by
  have hfh := (rel_fh hS).mpr hs
  have q := hd.2.1 hfh
  have e0 := hS.1.1; have e1 := hS.1.2.1; have c0 := hC.1; have c3 := hC.2.1
  have f3 := (h.2.1 hs).2
  have a1 := h.1.1; have a2 := h.1.2.1; have a3 := h.1.2.2.1
  unfold seenD seenS
  rw [hp] at q ⊢
  have kk := h.2.2.2.2.1 p (d.1 3) (by omega) (by omega) (by omega) (by omega)
  rw [kk, f3, a1]
  by_cases c : knA (XR X 67 0) S p (S 314) ≤ S 312
  · rw [if_pos c, if_pos c]
    obtain ⟨⟨a1, a2, a3, a4, a5, a6⟩, b, b', cc, k, r, t, u⟩ := h
    have o : ∀ i, i ≠ 316 → i ≠ 317 → upi (upi S 317 1) 316 (wr (S 316 - sumI (fun k => S (136 + (8 * k + p))) (S 1).toNat)) i = S i := fun i h1 h2 => by rw [upi_ne _ _ h1, upi_ne _ _ h2]
    have o0 := o 0 (by omega) (by omega); have o1 := o 1 (by omega) (by omega)
    refine ⟨⟨?_, ?_, ?_, ?_, ?_, ?_⟩, ?_, ?_, fun i i0 i8 => ?_, fun p' s' q0 q1 t0 t1 => ?_, fun i i0 i6 => ?_, fun s' p' t0 t1 q0 q1 => ?_, ⟨?_, fun p' q0 q1 => ?_⟩⟩
    · rw [o _ (by omega) (by omega)]; exact a1
    · rw [o _ (by omega) (by omega)]; exact a2
    · show wr (d.1 5 - wfD X p) = _
      rw [upi_eq, rel_wf hC hS (by omega) (by omega), a3]
    · rw [upi_ne _ _ (by omega), upi_eq]; rfl
    · rw [o _ (by omega) (by omega)]; exact a5
    · rw [o _ (by omega) (by omega)]; exact a6
    · unfold isSe; rw [o0, o1, o _ (by omega) (by omega), o _ (by omega) (by omega)]; exact b
    · unfold isSe; rw [o0, o1]; exact b'
    · rw [o _ (by omega) (by omega), o _ (by omega) (by omega)]; exact cc i i0 i8
    · rw [o0] at q1; rw [o1] at t1
      rw [knA_congr (S' := upi (upi S 317 1) 316 (wr (S 316 - sumI (fun k => S (136 + (8 * k + p))) (S 1).toNat))) o0 (by omega) (fun i i0 i8 => o _ (by omega) (by omega))]
      exact k p' s' q0 q1 t0 t1
    · rw [o _ (by omega) (by omega)]; exact r i i0 i6
    · rw [o _ (by omega) (by omega)]; exact t s' p' t0 t1 q0 q1
    · rw [o _ (by omega) (by omega)]; exact u.1
    · unfold isSe; rw [o0, o1, o _ (by omega) (by omega), o _ (by omega) (by omega)]; exact u.2 p' q0 q1
  · rw [if_neg c, if_neg c, rel_rain hC hS (by omega) (by omega)]
    have bf := hd.2.2.1
    by_cases e : S 315 < 0 ∨ ¬ anyB (raB S p (S 312)) (S 7).toNat = true
    · rw [if_pos e, if_neg (fun z => e.elim (fun w => by omega) (fun w => w z.2))]
      exact h
    · have e1 : ¬ S 315 < 0 := fun w => e (.inl w)
      have e2 : anyB (raB S p (S 312)) (S 7).toNat = true := Classical.byContradiction fun w => e (.inr w)
      rw [if_neg e, if_pos ⟨by omega, e2⟩]
      have t1 := rel_tell hC hS hP h hd (p := p) (s := S 314) (by omega) (by omega) (by omega) (by omega)
      have cd1 := tl_cd (s := S 314) Wd hC hd (p := p) (by omega) (by omega)
      have o : ∀ i, (i < 336 ∨ 399 < i) → learnS S p (S 314) (d.1 1) i = S i := fun i hi => learnS_o (by omega)
      have hS' : SeaR X 0 (learnS S p (S 314) (d.1 1)) := by
        refine ⟨?_, fun i i0 i6 => ?_, fun i i0 i8 => ?_, fun i i0 i7 => ?_⟩
        · rw [o _ (by omega), o _ (by omega), o _ (by omega), o _ (by omega), o _ (by omega), o _ (by omega), o _ (by omega), o _ (by omega)]; exact hS.1
        · rw [o _ (by omega), o _ (by omega), o _ (by omega), o _ (by omega)]; exact hS.2.1 i i0 i6
        · rw [o _ (by omega), o _ (by omega)]; exact hS.2.2.1 i i0 i8
        · rw [o _ (by omega)] at i7
          have c6 := hC.2.2.2.2.1; have := hS.1.2.2.2.2.2.2.2
          rw [o _ (by omega), o _ (by omega)]; exact hS.2.2.2 i i0 i7
      have hP' : PostR X (learnS S p (S 314) (d.1 1)) := ⟨by rw [o 0 (by omega)]; exact hP.1, hP.2⟩
      have t2 := rel_tell hC hS' hP' t1 cd1.2 (p := p) (s := S 315) (by omega) (by rw [o 0 (by omega)]; omega) (by omega) (by rw [o 1 (by omega)]; omega)
      have dd : (tellD X d p (S 314)).1 1 = d.1 1 := rfl
      rw [dd, a1] at t2
      rw [a2]
      exact t2
theorem rel_sail {X : XS} {d : D5} {S : Int → Int} (hC : CSea X 0) (hS : SeaR X 0 S) (hP : PostR X S) (Wd : WD d) (hd : CD X d) (h : RelS X d S) {p : Int} (p0 : 0 ≤ p) (p1 : p < S 0) : (sailA X d p).1 = whySailS S p ∧ ((sailA X d p).1 = 0 → RelS X (sailA X d p).2 (seenS (XR X 67 0) (sail5 S p) p)) := by
  have c0 := hC.1; have e0 := hS.1.1; have c3 := hC.2.1; have e1 := hS.1.2.1
  unfold sailA whySailS lateS
  by_cases c : canD X d
  · have cS := (rel_sea hS h).mp c
    have q := hd.2.1 c.1
    have f2 := (h.2.1 cS.1).1
    have w : XR X 26 0 (d.1 2 * 8 + p) = S (8 + (8 * S 313 + p)) := by
      have q2 := q.1
      rw [f2] at q2 ⊢
      rw [(hS.2.1 (S 313 * 8 + p) (by omega) (by omega)).1, show S 313 * 8 + p = 8 * S 313 + p by omega]
    have w0 := hC.2.2.2.2.2.2.1 (d.1 2 * 8 + p) (by omega) (by omega)
    rw [if_pos c, if_pos cS, w, h.1.1]
    by_cases e : S (8 + (8 * S 313 + p)) = 0
    · rw [if_pos e, if_pos e]; exact ⟨rfl, fun q => absurd q (by simp)⟩
    · rw [if_neg e, if_neg e]
      by_cases e2 : 999 < S 312 + S (8 + (8 * S 313 + p))
      · rw [if_pos e2, if_pos e2]; exact ⟨rfl, fun q => absurd q (by simp)⟩
      · rw [if_neg e2, if_neg e2]
        refine ⟨rfl, fun _ => ?_⟩
        have a1 := h.1.1
        have le : d.1 1 + XR X 26 0 (d.1 2 * 8 + p) ≤ 999 := by rw [w, a1]; omega
        have cd := sail1_cd Wd hC hd c.1 (p := p) p0 (by omega) (by rw [w]; exact e) le
        have rr := rel_sail5 hC hS hd h cS.1 p0 p1 le
        have o : ∀ i, i < 312 → sail5 S p i = S i := fun i hi => by
          unfold sail5; rw [upi_ne _ _ (by omega), upi_ne _ _ (by omega), upi_ne _ _ (by omega), upi_ne _ _ (by omega), upi_ne _ _ (by omega)]
        have hS' : SeaR X 0 (sail5 S p) := by
          refine ⟨?_, fun i i0 i6 => ?_, fun i i0 i8 => ?_, fun i i0 i7 => ?_⟩
          · rw [o _ (by omega), o _ (by omega), o _ (by omega), o _ (by omega), o _ (by omega), o _ (by omega), o _ (by omega), o _ (by omega)]; exact hS.1
          · rw [o _ (by omega), o _ (by omega), o _ (by omega), o _ (by omega)]; exact hS.2.1 i i0 i6
          · rw [o _ (by omega), o _ (by omega)]; exact hS.2.2.1 i i0 i8
          · rw [o _ (by omega)] at i7
            have c6 := hC.2.2.2.2.1; have := hS.1.2.2.2.2.2.2.2
            rw [o _ (by omega), o _ (by omega)]; exact hS.2.2.2 i i0 i7
        have hP' : PostR X (sail5 S p) := ⟨by rw [o 0 (by omega)]; exact hP.1, hP.2⟩
        exact rel_seen hC hS' hP' cd.1 cd.2 rr (by unfold isSe; rw [o 0 (by omega), o 1 (by omega)]; exact cS.1) rfl
  · rw [if_neg c, if_neg (fun q => c ((rel_sea hS h).mpr q))]
    exact ⟨rfl, fun q => absurd q (by simp)⟩
/-- painted -/
theorem rel_paint1 {X : XS} {d : D5} {S : Int → Int} (hC : CSea X 0) (hS : SeaR X 0 S) (h : RelS X d S) (hs : isSe S) {s : Int} (s0 : 0 ≤ s) (s1 : s < 8) : RelS X (paint1 d s) (paintS S s) := by
  obtain ⟨⟨a1, a2, a3, a4, a5, a6⟩, b, b', cc, k, r, t, u⟩ := h
  have c0 := hC.1; have e0 := hS.1.1
  have o : ∀ i, i ≠ 312 → i ≠ 314 → i ≠ 315 → i ≠ 318 → paintS S s i = S i := fun i h1 h2 h3 h4 => by
    unfold paintS; rw [upi_ne _ _ h1, upi_ne _ _ h4, upi_ne _ _ h2, upi_ne _ _ h3]
  have o0 := o 0 (by omega) (by omega) (by omega) (by omega); have o1 := o 1 (by omega) (by omega) (by omega) (by omega)
  refine ⟨⟨?_, ?_, ?_, ?_, ?_, ?_⟩, fun _ => ⟨?_, ?_⟩, fun hn => ?_, fun i i0 i8 => ?_, fun p' s' q0 q1 t0 t1 => ?_, fun i i0 i6 => ?_, fun s' p' t0 t1 q0 q1 => ?_, ⟨?_, fun p' q0 q1 => ?_⟩⟩
  · unfold paintS; rw [upi_eq, ← a1]; rfl
  · unfold paintS; rw [upi_ne _ _ (by omega), upi_ne _ _ (by omega), upi_ne _ _ (by omega), upi_eq, ← (b hs).2]; rfl
  · rw [o _ (by omega) (by omega) (by omega) (by omega)]; exact a3
  · rw [o _ (by omega) (by omega) (by omega) (by omega)]; exact a4
  · unfold paintS; rw [upi_ne _ _ (by omega), upi_eq, ← a5]; rfl
  · rw [o _ (by omega) (by omega) (by omega) (by omega)]; exact a6
  · rw [o _ (by omega) (by omega) (by omega) (by omega)]; exact (b hs).1
  · unfold paintS; rw [upi_ne _ _ (by omega), upi_ne _ _ (by omega), upi_eq]; rfl
  · unfold isSe at hn; rw [o0, o1] at hn; exact absurd hs hn
  · rw [o _ (by omega) (by omega) (by omega) (by omega), o _ (by omega) (by omega) (by omega) (by omega)]; exact cc i i0 i8
  · rw [o0] at q1; rw [o1] at t1
    rw [knA_congr (S' := paintS S s) o0 (by omega) (fun i i0 i8 => o _ (by omega) (by omega) (by omega) (by omega))]
    exact k p' s' q0 q1 t0 t1
  · rw [o _ (by omega) (by omega) (by omega) (by omega)]; exact r i i0 i6
  · rw [o _ (by omega) (by omega) (by omega) (by omega)]; exact t s' p' t0 t1 q0 q1
  · rw [o _ (by omega) (by omega) (by omega) (by omega)]; exact u.1
  · unfold isSe; rw [o0, o1, o _ (by omega) (by omega) (by omega) (by omega), o _ (by omega) (by omega) (by omega) (by omega)]; exact u.2 p' q0 q1
