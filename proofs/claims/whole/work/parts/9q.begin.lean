/-! HER START: here and there -/
def fS (S : Int → Int) (s n : Int) : Int → Int := fun j => if 336 ≤ j ∧ j < 400 then (if ((j - 336) / 8 < s ∨ ((j - 336) / 8 = s ∧ (j - 336) % 8 < n)) ∧ 0 < S (j - 200) then 1 else 0) else S j
theorem fS_o {S : Int → Int} {s n : Int} {j : Int} (h : ¬ (336 ≤ j ∧ j < 400)) : fS S s n j = S j := by unfold fS; rw [if_neg h]
theorem fS_at {S : Int → Int} {s n a b : Int} (a0 : 0 ≤ a) (a8 : a < 8) (b0 : 0 ≤ b) (b8 : b < 8) : fS S s n (336 + (8 * a + b)) = if (a < s ∨ (a = s ∧ b < n)) ∧ 0 < S (136 + (8 * a + b)) then 1 else 0 := by
  unfold fS
  rw [if_pos (by omega), show (336 + (8 * a + b) - 336) / 8 = a by omega, show (336 + (8 * a + b) - 336) % 8 = b by omega, show 336 + (8 * a + b) - 200 = 136 + (8 * a + b) by omega]
theorem fS_ext {S T T' : Int → Int} (h1 : ∀ j, ¬ (336 ≤ j ∧ j < 400) → T j = T' j) (h2 : ∀ a b, 0 ≤ a → a < 8 → 0 ≤ b → b < 8 → T (336 + (8 * a + b)) = T' (336 + (8 * a + b))) : T = T' := funext fun j => by
  by_cases c : 336 ≤ j ∧ j < 400
  · have := h2 ((j - 336) / 8) ((j - 336) % 8) (by omega) (by omega) (by omega) (by omega)
    rw [show 336 + (8 * ((j - 336) / 8) + (j - 336) % 8) = j by omega] at this
    exact this
  · exact h1 j c
theorem fS_s {S : Int → Int} {s n : Int} (s0 : 0 ≤ s) (s8 : s < 8) (n0 : 0 ≤ n) (n8 : n < 8) : fS S s (n + 1) = if 0 < S (136 + (8 * s + n)) then learnS (fS S s n) n s 0 else fS S s n := by
  have z : fS S s n (336 + (8 * s + n)) = 0 := by rw [fS_at s0 s8 n0 n8, if_neg (by omega)]
  by_cases w : 0 < S (136 + (8 * s + n))
  · rw [if_pos w]
    unfold learnS
    rw [if_pos (.inl z)]
    refine fS_ext (S := S) (fun j hj => ?_) (fun a b a0 a8 b0 b8 => ?_)
    · rw [fS_o hj, upi_at, if_neg (by omega), fS_o hj]
    · rw [fS_at a0 a8 b0 b8, upi_at]
      by_cases e : 336 + (8 * a + b) = 336 + (8 * s + n)
      · have e1 : a = s := by omega
        have e2 : b = n := by omega
        rw [if_pos e, if_pos ⟨by omega, by rw [e1, e2]; exact w⟩]; rfl
      · rw [if_neg e, fS_at a0 a8 b0 b8]
        by_cases k : (a < s ∨ (a = s ∧ b < n)) ∧ 0 < S (136 + (8 * a + b))
        · rw [if_pos k, if_pos ⟨by omega, k.2⟩]
        · rw [if_neg k, if_neg (fun q => k ⟨by omega, q.2⟩)]
  · rw [if_neg w]
    refine fS_ext (S := S) (fun j hj => by rw [fS_o hj, fS_o hj]) (fun a b a0 a8 b0 b8 => ?_)
    rw [fS_at a0 a8 b0 b8, fS_at a0 a8 b0 b8]
    by_cases k : (a < s ∨ (a = s ∧ b < n)) ∧ 0 < S (136 + (8 * a + b))
    · rw [if_pos k, if_pos ⟨by omega, k.2⟩]
    · rw [if_neg k, if_neg (fun q => k ⟨?_, q.2⟩)]
      have : ¬ (a = s ∧ b = n) := fun z => w (by rw [← z.1, ← z.2]; exact q.2)
      have := q.1
      omega
theorem fS_row {S : Int → Int} {s : Int} (z : ∀ b, S 0 ≤ b → 0 ≤ b → b < 8 → S (136 + (8 * s + b)) = 0) (s0 : 0 ≤ s) (s8 : s < 8) (n0 : 0 ≤ S 0) : fS S s (S 0) = fS S (s + 1) 0 := by
  refine fS_ext (S := S) (fun j hj => by rw [fS_o hj, fS_o hj]) (fun a b a0 a8 b0 b8 => ?_)
  rw [fS_at a0 a8 b0 b8, fS_at a0 a8 b0 b8]
  by_cases k : (a < s ∨ (a = s ∧ b < S 0)) ∧ 0 < S (136 + (8 * a + b))
  · rw [if_pos k, if_pos ⟨by omega, k.2⟩]
  · rw [if_neg k, if_neg (fun q => k ⟨?_, q.2⟩)]
    by_cases e : a = s
    · right
      refine ⟨e, ?_⟩
      apply Classical.byContradiction; intro h
      have := z b (by omega) b0 b8
      rw [← e] at this
      have := q.2; omega
    · left; omega
/-- what the reference's row is at her start, but for what offices know -/
def st0R (S : Int → Int) : Prop := S 312 = 0 ∧ S 313 = 0 ∧ S 314 = 0 ∧ S 315 = -1 ∧ S 316 = 0 ∧ S 317 = 0 ∧ S 318 = (if isSe S then 1 else 0) ∧ S 319 = 0 ∧ (∀ i, 0 ≤ i → i < 8 → S (320 + i) = 0 ∧ S (328 + i) = S (272 + i)) ∧ (∀ i, 0 ≤ i → i < 64 → S (400 + i) = 0) ∧ S 464 = (if isSe S then 1 else 0)
theorem rel_start {X : XS} {d : D5} {S : Int → Int} (W : WF X) (Wd : WD d) (hI : SeaI X 0 S) (hP : PostR X S) (h : st0R S) : RelS X (stD X d) (fS S 8 0) ∧ CD X (stD X d) := by
  obtain ⟨hC, hR, hk, hZ, hW⟩ := hI
  have e0 := hR.1.1; have e1 := hR.1.2.1
  have c0 := hC.1; have c3 := hC.2.1
  obtain ⟨z1, z2, z3, z4, z5, z6, z7, z8, z9, z10, z11⟩ := h
  obtain ⟨w0, d0⟩ := st_0_cd W Wd hC hk
  have sR' : ∀ s n, SeaR X 0 (fS S s n) := fun s n => by
    unfold SeaR at *
    obtain ⟨a, b, c, e⟩ := hR
    refine ⟨?_, fun i i0 i1 => ?_, fun i i0 i1 => ?_, fun i i0 i1 => ?_⟩
    · simp (disch := omega) only [fS_o]; exact a
    · simp (disch := omega) only [fS_o]; exact b i i0 i1
    · simp (disch := omega) only [fS_o]; exact c i i0 i1
    · rw [fS_o (by omega)] at i1
      have i16 : i < 16 := by have := hC.2.2.2.2.1; have := a.2.2.2.2.2.2.2; omega
      rw [fS_o (by omega), fS_o (by omega)]; exact e i i0 i1
  have pR' : ∀ s n, PostR X (fS S s n) := fun s n => by
    unfold PostR at *
    rw [fS_o (by omega)]; exact hP
  have se : ∀ s n, isSe (fS S s n) = isSe S := fun s n => by unfold isSe; rw [fS_o (by omega), fS_o (by omega)]
  have fh : forHer X 0 ↔ isSe S := by unfold isSe; constructor <;> intro q <;> omega
  have base : RelS X (st_0 X d) (fS S 0 0) := by
    have s0 : ∀ i, 0 ≤ i → i < 64 → fS S 0 0 (336 + i) = 0 := fun i i0 i1 => by
      have := fS_at (S := S) (s := 0) (n := 0) (a := i / 8) (b := i % 8) (by omega) (by omega) (by omega) (by omega)
      rw [show 8 * (i / 8) + i % 8 = i by omega] at this
      rw [this, if_neg (by omega)]
    refine ⟨⟨?_, ?_, ?_, ?_, ?_, ?_⟩, fun q => ?_, fun q => ?_, fun i i0 i8 => ?_, fun p s p0 p1 s0' s1 => ?_, fun i i0 i1 => ?_, fun s p s0' s8 p0 p8 => ?_, ?_, fun p p0 p8 => ?_⟩
    · rw [fS_o (by omega), z1]; rfl
    · rw [fS_o (by omega), z4]; rfl
    · rw [fS_o (by omega), z5]; rfl
    · rw [fS_o (by omega), z6]; rfl
    · rw [fS_o (by omega), z7]
      show (if forHer X 0 then (1 : Int) else 0) = _
      by_cases k : isSe S
      · rw [if_pos (fh.mpr k), if_pos k]
      · rw [if_neg (fun z => k (fh.mp z)), if_neg k]
    · rw [fS_o (by omega), z8]; rfl
    · rw [se] at q
      rw [fS_o (by omega), fS_o (by omega), z2, z3]
      show (if forHer X 0 then (0 : Int) else -1) = 0 ∧ (if forHer X 0 then (0 : Int) else -1) = 0
      rw [if_pos (fh.mpr q)]; exact ⟨rfl, rfl⟩
    · rw [se] at q
      show (if forHer X 0 then (0 : Int) else -1) = -1 ∧ (if forHer X 0 then (0 : Int) else -1) = -1
      rw [if_neg (fun z => q (fh.mp z))]; exact ⟨rfl, rfl⟩
    · rw [fS_o (by omega), fS_o (by omega), (z9 i i0 i8).1, (z9 i i0 i8).2]
      constructor
      · show flr 0 d.2.1 8 i = 0
        unfold flr; rw [if_pos ⟨i0, i8⟩]
      · show cpr (XR X 31 0) d.2.2.2.1 8 i = _
        rw [cpr_in i0 i8]; exact (hR.2.2.1 i i0 i8).2
    · rw [fS_o (by omega)] at p1 s1
      show flr 1000000 d.2.2.2.2 64 (p * 8 + s) = _
      unfold flr; rw [if_pos (by omega)]
      have kz : ∀ n : Nat, n ≤ 8 → knF (XR X 67 0) (fS S 0 0) p s n = 1000000 := fun n => by
        induction n with
        | zero => intro _; rfl
        | succ n ih =>
          intro hn
          rw [knF, s0 (8 * s + n) (by omega) (by omega), if_neg (by omega)]
          exact ih (by omega)
      unfold knA
      rw [fS_o (by omega), kz _ (by omega)]
    · rw [s0 i i0 i1]; omega
    · rw [fS_o (by omega), z10 (8 * s + p) (by omega) (by omega)]
      show (0 : Int) = if bitI (flr 0 d.2.2.1 8 s) p = true then 1 else 0
      have : flr 0 d.2.2.1 8 s = 0 := by unfold flr; rw [if_pos ⟨s0', s8⟩]
      rw [this, if_neg (by unfold bitI; simp)]
    · rw [fS_o (by omega), z11]; split <;> omega
    · rw [fS_o (by omega), fS_o (by omega), (z9 p p0 p8).1, se, z11]
      by_cases k : isSe S
      · rw [if_pos k]
        have : bitI 1 p = true ↔ p = 0 := by
          have q : ∀ n : Nat, n < 8 → (bitI 1 (n : Int) = true ↔ n = 0) := by decide +kernel
          have := q p.toNat (by omega)
          rw [show ((p.toNat : Nat) : Int) = p by omega] at this
          rw [this]; omega
        rw [this]
        constructor
        · intro e; exact ⟨k, .inl e⟩
        · rintro ⟨_, e | e⟩
          · exact e
          · omega
      · rw [if_neg k]
        constructor
        · intro e; unfold bitI at e; simp at e
        · intro e; exact absurd e.1 k
  have day : ∀ (n : Nat) (s : Int) (e : D5), e.1 1 = 0 → (st_p X s n e).1 1 = 0 := fun n s e he => by
    induction n with
    | zero => exact he
    | succ n ih => rw [st_p]; split <;> exact ih
  have inner : ∀ (s : Int) (e : D5), 0 ≤ s → s < S 1 → WD e → CD X e → e.1 1 = 0 → RelS X e (fS S s 0) → ∀ n : Nat, (n : Int) ≤ S 0 → RelS X (st_p X s n e) (fS S s n) := fun s e s0 s1 we ce he hr n => by
    induction n with
    | zero => intro _; exact hr
    | succ n ih =>
      intro hn
      have ih := ih (by omega)
      obtain ⟨wn, cn⟩ := st_p_cd hC (s := s) n (by omega) we ce
      have wt : XR X 28 0 (s * 8 + n) = S (136 + (8 * s + n)) := by rw [show s * 8 + (n : Int) = 8 * s + n by omega]; exact (hR.2.1 (8 * s + n) (by omega) (by omega)).2.2.1
      rw [st_p, wt, show ((n + 1 : Nat) : Int) = (n : Int) + 1 by omega, fS_s s0 (by omega) (by omega) (by omega)]
      by_cases k : 0 < S (136 + (8 * s + n))
      · rw [if_pos k, if_pos k]
        have t := rel_tell hC (sR' s n) (pR' s n) ih cn (p := n) (s := s) (by omega) (by rw [fS_o (by omega)]; omega) s0 (by rw [fS_o (by omega)]; exact s1)
        rw [day n s e he] at t
        exact t
      · rw [if_neg k, if_neg k]; exact ih
  have outer : ∀ m : Nat, (m : Int) ≤ S 1 → (RelS X (st_s X m (st_0 X d)) (fS S m 0) ∧ (st_s X m (st_0 X d)).1 1 = 0) := fun m => by
    induction m with
    | zero => intro _; exact ⟨base, rfl⟩
    | succ m ih =>
      intro hm
      obtain ⟨i1, i2⟩ := ih (by omega)
      obtain ⟨wm, cm⟩ := st_s_cd hC m w0 d0
      have q := inner m _ (by omega) (by omega) wm cm i2 i1 (XR X 25 0 0).toNat (by omega)
      rw [show (((XR X 25 0 0).toNat : Nat) : Int) = S 0 by omega, fS_row (fun b b1 b0 b8 => (hZ.1 m b (by omega) (by omega) b0 b8).2.1 (.inr b1)) (by omega) (by omega) (by omega)] at q
      exact ⟨by rw [show ((m + 1 : Nat) : Int) = (m : Int) + 1 by omega]; exact q, day _ _ _ i2⟩
  have last : fS S (S 1) 0 = fS S 8 0 := by
    refine fS_ext (S := S) (fun j hj => by rw [fS_o hj, fS_o hj]) (fun a b a0 a8 b0 b8 => ?_)
    rw [fS_at a0 a8 b0 b8, fS_at a0 a8 b0 b8]
    by_cases k : (a < S 1 ∨ (a = S 1 ∧ b < 0)) ∧ 0 < S (136 + (8 * a + b))
    · rw [if_pos k, if_pos ⟨by omega, k.2⟩]
    · rw [if_neg k, if_neg (fun q => k ⟨?_, q.2⟩)]
      left
      apply Classical.byContradiction; intro h
      have := (hZ.1 a b a0 a8 b0 b8).2.1 (.inl (by omega))
      have := q.2; omega
  have o := outer (XR X 25 0 3).toNat (by omega)
  rw [show (((XR X 25 0 3).toNat : Nat) : Int) = S 1 by omega, last] at o
  exact ⟨o.1, (st_s_cd hC _ w0 d0).2⟩
