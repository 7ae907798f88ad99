/-! TOKENS: here and there -/
def TBC (X : XS) : Prop := byR (XR X 20 0) ∧ (0 ≤ XF X 4 0 3 ∧ XF X 4 0 3 ≤ XF X 4 0 2 ∧ XF X 4 0 2 ≤ 940)
def TB (X Z : XS) : Prop := (∀ i, 0 ≤ i → i < 940 → XR X 20 0 i = XR Z 60 0 i) ∧ XF Z 12 0 3 = XF X 4 0 2 ∧ (XF X 4 0 2 ≤ XF Z 12 0 5 ∧ XF X 4 0 3 = XF X 4 0 2 ∨ XF Z 12 0 5 < XF X 4 0 2 ∧ XF X 4 0 3 = XF Z 12 0 5)
def TokC (X : XS) : Prop := TBC X ∧ (0 ≤ XF X 4 0 4 ∧ XF X 4 0 4 ≤ XF X 4 0 2) ∧ (0 ≤ XF X 4 0 6 ∧ XF X 4 0 6 ≤ XF X 4 0 3) ∧ (XF X 4 0 5 ≠ 0 → XF X 4 0 6 < XF X 4 0 4 ∧ XF X 4 0 6 < XF X 4 0 3) ∧ ((XF X 4 0 5 = 0 ∧ XF X 4 0 8 = -1) ∨ (XF X 4 0 5 = 1 ∧ KeyC X) ∨ (XF X 4 0 5 = 2 ∧ XF X 4 0 8 = -1 ∧ 0 ≤ XF X 4 0 9 ∧ XF X 4 0 9 ≤ 999) ∨ (XF X 4 0 5 = 3 ∧ XF X 4 0 8 = -1) ∨ (tS (XF X 4 0 5) ∧ XF X 4 0 8 = -1))
def TokR (X Z : XS) : Prop := TB X Z ∧ XF Z 12 0 12 = XF X 4 0 6 ∧ (XF X 4 0 5 = 0 → (XF X 4 0 2 = XF X 4 0 3 → XF Z 12 0 11 = 0) ∧ (XF X 4 0 3 < XF X 4 0 2 → XF Z 12 0 11 = 4)) ∧ (XF X 4 0 5 ≠ 0 → XF Z 12 0 4 = XF X 4 0 4) ∧ (XF X 4 0 5 = 1 → XF Z 12 0 11 = 1 ∧ WR (XJ X 4 0 7) (XJ Z 12 0 17)) ∧ (XF X 4 0 5 = 2 → XF Z 12 0 11 = 2 ∧ XF Z 12 0 14 = XF X 4 0 9) ∧ (XF X 4 0 5 = 3 → XF Z 12 0 11 = 4) ∧ (tS (XF X 4 0 5) → XF Z 12 0 11 = 3 ∧ XF Z 12 0 14 = XF X 4 0 5)
theorem StP_C {X : XS} {q : Int} (b : TBC X) (h : StP X q) (q0 : 0 ≤ q) (qs : q ≤ XF X 4 0 2) : TokC X := by
  have b2 := b.2
  rcases h with ⟨a1, a2, a3, a4, a5⟩ | ⟨a1, a2, a3⟩
  · exact ⟨b, by omega, by omega, fun k => absurd a2 k, .inl ⟨a2, a3⟩⟩
  · rcases a3 with ⟨c1, c2, c3, c4, c5⟩ | ⟨c1, c2, c3, L, c4, c5⟩
    · refine ⟨b, by omega, by omega, fun _ => by omega, ?_⟩
      rcases c5 with ⟨d1, d2⟩ | ⟨d1, d2⟩
      · exact .inr (.inr (.inr (.inr ⟨by rw [d2]; exact d1, c4⟩)))
      · exact .inr (.inr (.inr (.inl ⟨d2, c4⟩)))
    · refine ⟨b, by omega, by omega, fun _ => by omega, ?_⟩
      rcases c5 with ⟨d1, d2, d3, d4⟩ | ⟨d1, d2, ⟨d3, d4, d5⟩ | ⟨d3, d4⟩⟩
      · exact .inr (.inl ⟨d3, d4⟩)
      · exact .inr (.inr (.inl ⟨d5, d2, c4.2.2.2.2.2.2.2.1.1⟩))
      · exact .inr (.inr (.inr (.inl ⟨d4, d2⟩)))
theorem ex_ws (T : Int → Int) (s : Int) : ∀ (n : Nat) (a : Int), (s - a).toNat = n → a ≤ s → ∃ q, a ≤ q ∧ q ≤ s ∧ (∀ j, a ≤ j → j < q → tW (T j)) ∧ (q < s → ¬ tW (T q))
  | 0, a, h, h2 => ⟨a, by omega, by omega, fun j j0 j1 => by omega, fun k => by omega⟩
  | n + 1, a, h, h2 => by
    by_cases c : tW (T a)
    · obtain ⟨q, q1, q2, q3, q4⟩ := ex_ws T s n (a + 1) (by omega) (by omega)
      refine ⟨q, by omega, q2, fun j j0 j1 => ?_, q4⟩
      by_cases e : j = a
      · rw [e]; exact c
      · exact q3 j (by omega) j1
    · exact ⟨a, by omega, by omega, fun j j0 j1 => by omega, fun _ => c⟩
theorem RunI_c {T T' : Int → Int} {q e L v : Int} {w : Int64} (h : RunI T q e L w v) (hT : ∀ j, q ≤ j → j < e → T' j = T j) (qe : q ≤ e) : RunI T' q e L w v := by
  obtain ⟨h1, h2, h3, h4, h5, h6, h7, h8, h9⟩ := h
  have bc : ∀ n : Nat, q + n ≤ e → ∀ i, i < n → bnA T' q i = bnA T q i := fun n hn i hi => by unfold bnA; rw [hT _ (by omega) (by omega)]
  have nc : ∀ n : Nat, q + n ≤ e → nv T' q n = nv T q n := fun n => by
    induction n with
    | zero => intro _; rfl
    | succ n ih => intro hn; rw [nv, nv, ih (by omega), hT _ (by omega) (by omega)]
  refine ⟨h1, fun j j0 j1 => by rw [hT j j0 j1]; exact h2 j j0 j1, fun k j j0 j1 => by rw [hT j j0 j1]; exact h3 k j j0 j1, fun k => ?_, fun k j j0 j1 => by rw [hT j j0 j1]; exact h5 k j j0 j1, fun k => ?_, fun k1 k2 => ?_, h8, fun k1 k2 => ?_⟩
  · obtain ⟨j, j0, j1, j2⟩ := h4 k
    exact ⟨j, j0, j1, by rw [hT j j0 j1]; exact j2⟩
  · obtain ⟨j, j0, j1, j2⟩ := h6 k
    exact ⟨j, j0, j1, by rw [hT j j0 j1]; exact j2⟩
  · rw [(v_congr (bc _ (by omega))).1]; exact h7 k1 k2
  · rw [nc _ (by omega)]; exact h9 k1 k2
theorem tok_run {T : Int → Int} {q e L v sm al n : Int} {w w' : Int64} (qe : q < e) (cI : RunI T q e L w v) (hz : RunZ T q e sm al w' n) (hsm : sm = if tA (T q) then 1 else 0) : ((L = e - q ∧ e - q ≤ 7) → tkR sm al (e - q) = 1 ∧ WR w w') ∧ ((L = 0 ∧ e - q ≤ 3) → tkR sm al (e - q) = 2 ∧ n = v) ∧ (¬ (L = e - q ∧ e - q ≤ 7) → ¬ (L = 0 ∧ e - q ≤ 3) → tkR sm al (e - q) = 4) := by
  obtain ⟨i1, i2, i3, i4, i5, i6, i7, i8, i9⟩ := cI
  obtain ⟨k1, k2, k3, k4, k5, k6⟩ := hz
  have sm01 : sm = 0 ∨ sm = 1 := by rw [hsm]; split; exact .inr rfl; exact .inl rfl
  refine ⟨fun lw => ?_, fun ld => ?_, fun n1 n2 => ?_⟩
  · have allA := i3 lw.1
    have s1 : sm = 1 := by rw [hsm, if_pos (allA q (Int.le_refl q) qe)]
    have al1 : al = 1 := by
      rcases k1 with k0 | k0
      · obtain ⟨j, j0, j1, j2⟩ := k3 k0
        exact absurd ⟨fun _ => s1, fun _ => allA j j0 j1⟩ j2
      · exact k0
    have l1 := lw.1; have l2 := lw.2
    constructor
    · unfold tkR; rw [if_neg (by rw [al1]; decide), if_neg (by rw [s1]; decide), if_pos l2]
    · refine ⟨(e - q).toNat, bnA T q, ?_, fun i hi => ?_, i7 l1 l2, k4 al1 s1 l2⟩
      · clear i2 i3 i4 i5 i6 i7 i8 i9 k2 k3 k4 k5 k6; omega
      · have a1 : q ≤ q + (i : Int) := by clear i2 i3 i4 i5 i6 i7 i8 i9 k2 k3 k4 k5 k6; omega
        have a2 : q + (i : Int) < e := by clear i2 i3 i4 i5 i6 i7 i8 i9 k2 k3 k4 k5 k6; omega
        have := allA (q + i) a1 a2
        unfold bnA
        clear i2 i3 i4 i5 i6 i7 i8 i9 k2 k3 k4 k5 k6; omega
  · have allD := i5 ld.1
    have nA : ∀ j, q ≤ j → j < e → ¬ tA (T j) := fun j j0 j1 z => by have := allD j j0 j1; clear i2 i3 i4 i5 i6 i7 i8 i9 k2 k3 k4 k5 k6; omega
    have s0 : sm = 0 := by rw [hsm, if_neg (nA q (Int.le_refl q) qe)]
    have al1 : al = 1 := by
      rcases k1 with k0 | k0
      · obtain ⟨j, j0, j1, j2⟩ := k3 k0
        exact absurd ⟨fun z => absurd z (nA j j0 j1), fun z => absurd (s0.symm.trans z) (by decide)⟩ j2
      · exact k0
    constructor
    · unfold tkR; rw [if_neg (by rw [al1]; decide), if_pos s0, if_pos ld.2]
    · rw [k6 al1 s0 ld.2]; exact (i9 ld.1 ld.2).symm
  · unfold tkR
    by_cases a0 : al = 0
    · rw [if_pos a0]
    · rw [if_neg a0]
      have al1 : al = 1 := k1.resolve_left a0
      have ev := k2 al1
      by_cases s0 : sm = 0
      · rw [if_pos s0]
        have L0 : L = 0 := by
          apply Classical.byContradiction; intro k
          obtain ⟨j, j0, j1, j2⟩ := i6 k
          exact absurd (s0.symm.trans ((ev j j0 j1).mp j2)) (by decide)
        rw [if_neg (fun z => n2 ⟨L0, z⟩)]
      · rw [if_neg s0]
        have Le : L = e - q := by
          apply Classical.byContradiction; intro k
          obtain ⟨j, j0, j1, j2⟩ := i4 k
          exact j2 ((ev j j0 j1).mpr (sm01.resolve_left s0))
        rw [if_neg (fun z => n1 ⟨Le, z⟩)]
theorem r_next {f0 : Nat} {Y : YS} {X Z : XS} (g : GY Y) (W : WF Z) {a q : Int} (b : TBC X) (st : StP X q) (tb : TB X Z) (ha : XF Z 12 0 4 = a) (a0 : 0 ≤ a) (aq : a ≤ q) (asz : a ≤ XF X 4 0 2) (hq : q ≤ XF X 4 0 3 ∨ q = a) (ws : ∀ j, a ≤ j → j < q → tW (XR X 20 0 j)) (nw : q < XF X 4 0 3 → ¬ tW (XR X 20 0 q)) (hf : 2000 ≤ f0) : ∃ Z', fX12_next f0 (Ad Y 12 0) (hp Y Z) = some (hp Y Z') ∧ NxF Z Z' ∧ WF Z' ∧ TokR X Z' := by
  obtain ⟨tt, ts, tl⟩ := tb
  have b1 := b.1; have b2 := b.2
  have ht : byR (XR Z 60 0) := fun i i0 i1 => by rw [← tt i i0 i1]; exact b1 i i0 i1
  have w1 := W_fl W 12 0 5; have w2 := W_fh W 12 0 5
  rcases st with ⟨a1, a2, a3, a4, a5⟩ | ⟨a1, a2, a3⟩
  · obtain ⟨p, p1, p2, p3, p4⟩ := ex_ws (XR Z 60 0) (XF Z 12 0 3) _ q rfl (by omega)
    have ws2 : ∀ j, a ≤ j → j < p → tW (XR Z 60 0 j) := fun j j0 j1 => by
      by_cases k : j < q
      · rw [← tt j (by omega) (by omega)]; exact ws j j0 k
      · exact p3 j (by omega) j1
    have sk := r_skip (f0 := f0) g W ht ha a0 (by omega) p2 (by omega) ws2 p4 hf
    by_cases c : XF Z 12 0 5 < XF X 4 0 2
    · rw [if_pos (by omega)] at sk
      refine ⟨_, sk, Nx_F (Nx_F (Nx_F (Nx_F (Nx_F Nx_refl (by decide)) (by decide)) (by decide)) (by decide)) (by decide), W_F (W_F (W_F (W_F (W_F W (by omega) (by omega)) (by omega) (by omega)) (by decide) (by decide)) (by omega) (by omega)) (by decide) (by decide), ⟨tt, ts, tl⟩, ?_, fun _ => ⟨fun k => by omega, fun _ => rfl⟩, fun k => absurd a2 k, fun k => by omega, fun k => by omega, fun k => by omega, fun k => by omega⟩
      show XF Z 12 0 5 = XF X 4 0 6; omega
    · rw [if_neg (by omega)] at sk
      obtain ⟨Z1, hZ1⟩ : ∃ Z1, Z1 = sF (sF (sF Z 12 0 4 p) 12 0 12 p) 12 0 13 0 := ⟨_, rfl⟩
      rw [← hZ1] at sk
      have pk := r_peek0 (f0 := f0) (Y := Y) (Z := Z1) g (p := p) (by rw [hZ1]; rfl) (by omega) (by rw [hZ1]; show XF Z 12 0 3 ≤ p; omega) (by omega) (by rw [hZ1]; show 0 ≤ XF Z 12 0 3; omega)
      refine ⟨sF Z1 12 0 11 0, ?_, ?_, ?_, ⟨?_, ?_, ?_⟩, ?_, fun _ => ⟨fun _ => rfl, fun k => by omega⟩, fun k => absurd a2 k, fun k => by omega, fun k => by omega, fun k => by omega, fun k => by omega⟩
      · rw [sk]
        simp (disch := first | assumption | omega) only [bX12_next_80, p_12_11, k_12, li_0, li_59, li_40, li_41, li_60, li_62, ob2, Option.bind_some, iI_add, pk, iI_le]
        rw [if_neg (by decide)]
      · rw [hZ1]; exact Nx_F (Nx_F (Nx_F (Nx_F Nx_refl (by decide)) (by decide)) (by decide)) (by decide)
      · rw [hZ1]; exact W_F (W_F (W_F (W_F W (by omega) (by omega)) (by omega) (by omega)) (by decide) (by decide)) (by decide) (by decide)
      · rw [hZ1]; exact tt
      · rw [hZ1]; exact ts
      · rw [hZ1]; exact tl
      · rw [hZ1]; show p = XF X 4 0 6; omega
  · have tq : XR X 20 0 q = XR Z 60 0 q := tt q (by omega) (by omega)
    have bq := ht q (by omega) (by omega)
    have dq := dy_rg bq.1 bq.2
    have sk := r_skip (f0 := f0) g W ht ha a0 aq (by omega) (by omega) (fun j j0 j1 => by rw [← tt j (by omega) (by omega)]; exact ws j j0 j1) (fun _ => by rw [← tq]; exact nw a1) hf
    rw [if_neg (by omega)] at sk
    obtain ⟨Z1, hZ1⟩ : ∃ Z1, Z1 = sF (sF (sF Z 12 0 4 q) 12 0 12 q) 12 0 13 0 := ⟨_, rfl⟩
    rw [← hZ1] at sk
    have N1 : NxF Z Z1 := by rw [hZ1]; exact Nx_F (Nx_F (Nx_F Nx_refl (by decide)) (by decide)) (by decide)
    have W1 : WF Z1 := by rw [hZ1]; exact W_F (W_F (W_F W (by omega) (by omega)) (by omega) (by omega)) (by decide) (by decide)
    have z60 : XR Z1 60 0 = XR Z 60 0 := by rw [hZ1]; rfl
    have z3 : XF Z1 12 0 3 = XF Z 12 0 3 := by rw [hZ1]; rfl
    have z4 : XF Z1 12 0 4 = q := by rw [hZ1]; rfl
    have z12 : XF Z1 12 0 12 = q := by rw [hZ1]; rfl
    have z13 : XF Z1 12 0 13 = 0 := by rw [hZ1]; rfl
    have tb1 : TB X Z1 := by rw [hZ1]; exact ⟨tt, ts, tl⟩
    have pk := r_peek1 (f0 := f0) (Y := Y) (Z := Z1) g (by rw [z60]; exact ht) z4 (by omega) (by rw [z3]; omega) (by rw [z3]; omega)
    rw [z60] at pk
    have c0 : 0 ≤ dy (XR Z 60 0 q) := dq.1
    have rc : Rg (dy (XR Z 60 0 q)) := ⟨by omega, by omega⟩
    rcases a3 with ⟨c1, c2, c3, c4, c5⟩ | ⟨c1, c2, c3, L, c4, c5⟩
    · rw [tq] at c1 c2 c5
      have d1 : ¬ (97 ≤ dy (XR Z 60 0 q) ∧ dy (XR Z 60 0 q) ≤ 122) := fun k => c1 ((dy_in (by omega) (by omega) bq.1).mp k)
      have d2 : ¬ (48 ≤ dy (XR Z 60 0 q) ∧ dy (XR Z 60 0 q) ≤ 57) := fun k => c2 ((dy_in (by omega) (by omega) bq.1).mp k)
      have w4 : ∀ u v, XF (sF (sF Z1 12 0 11 u) 12 0 14 v) 12 0 4 = q := fun u v => z4
      rcases c5 with ⟨e1, e2⟩ | ⟨e1, e2⟩
      · have de : dy (XR Z 60 0 q) = XR Z 60 0 q := dy_id (by omega)
        refine ⟨sF (sF (sF Z1 12 0 11 3) 12 0 14 (dy (XR Z 60 0 q))) 12 0 4 (q + 1), ?_, Nx_F (Nx_F (Nx_F N1 (by decide)) (by decide)) (by decide), W_F (W_F (W_F W1 (by decide) (by decide)) (by omega) (by omega)) (by omega) (by omega), tb1, ?_, fun k => by omega, fun _ => ?_, fun k => by omega, fun k => by omega, fun k => by omega, fun _ => ⟨rfl, ?_⟩⟩
        · rw [sk]
          simp (disch := first | assumption | omega) only [bX12_next_80, bX12_next_140, bX12_next_144, bX12_next_145, p_12_11, k_12, li_0, li_59, li_40, li_41, li_60, li_62, ob2, li_3, li_4, g_12_4, p_12_14, p_12_4, li_1, iI_add, Option.bind_some, pk, iI_le, if_pos c0, r_isSmall rc, r_isDigit rc, bI_i0, ite_n, if_neg d1, if_neg d2, iI_eq, iI_lt, w4]
          (repeat' split) <;> first | rfl | (exfalso; omega)
        · show XF Z1 12 0 12 = XF X 4 0 6; omega
        · show q + 1 = XF X 4 0 4; omega
        · show dy (XR Z 60 0 q) = XF X 4 0 5; omega
      · refine ⟨sF (sF (sF Z1 12 0 11 4) 12 0 14 (dy (XR Z 60 0 q))) 12 0 4 (q + 1), ?_, Nx_F (Nx_F (Nx_F N1 (by decide)) (by decide)) (by decide), W_F (W_F (W_F W1 (by decide) (by decide)) (by omega) (by omega)) (by omega) (by omega), tb1, ?_, fun k => by omega, fun _ => ?_, fun k => by omega, fun k => by omega, fun k => rfl, fun k => by omega⟩
        · have n1 := dy_ne (t := XR Z 60 0 q) (c := 59) (by omega) (by omega) bq.1
          have n2 := dy_ne (t := XR Z 60 0 q) (c := 40) (by omega) (by omega) bq.1
          have n3 := dy_ne (t := XR Z 60 0 q) (c := 41) (by omega) (by omega) bq.1
          have n4 := dy_in (t := XR Z 60 0 q) (a := 60) (b := 62) (by omega) (by omega) bq.1
          rw [sk]
          simp (disch := first | assumption | omega) only [bX12_next_80, bX12_next_140, bX12_next_144, bX12_next_145, p_12_11, k_12, li_0, li_59, li_40, li_41, li_60, li_62, ob2, li_3, li_4, g_12_4, p_12_14, p_12_4, li_1, iI_add, Option.bind_some, pk, iI_le, if_pos c0, r_isSmall rc, r_isDigit rc, bI_i0, ite_n, if_neg d1, if_neg d2, iI_eq, iI_lt, w4]
          (repeat' split) <;> first | rfl | (exfalso; omega)
        · show XF Z1 12 0 12 = XF X 4 0 6; omega
        · show q + 1 = XF X 4 0 4; omega
    · obtain ⟨e, he⟩ : ∃ e, e = XF X 4 0 4 := ⟨_, rfl⟩
      rw [← he] at c1 c2 c3 c4 c5
      have cI := RunI_c (T' := XR Z 60 0) c4 (fun j j0 j1 => (tt j (by omega) (by omega)).symm) (by omega)
      have i2 := cI.2.1
      have e1 : e ≤ 940 := by omega
      obtain ⟨sm, al, w, n, hsm, hr, hz⟩ := r_run (f0 := f0) (Y := Y) (Z := Z1) g (by rw [z60]; exact ht) z4 z13 (by omega) c1 (by rw [z3]; omega) (by rw [z3]; omega) (by rw [z60]; exact i2) (fun k => by rw [z60, ← tt e (by omega) (by rw [z3] at k; omega)]; rw [z3] at k; exact c3 (by omega)) hf
      rw [z60] at hr hz hsm
      have hn := hz.2.2.2.2.1.1
      have q80 : bX12_next_80 f0 (Ad Y 12 0) (hp Y Z1) = bX12_next_164 f0 (Ad Y 12 0) (iI (dy (XR Z 60 0 q))) (hp Y Z1) := by
        by_cases cA : 97 ≤ dy (XR Z 60 0 q) ∧ dy (XR Z 60 0 q) ≤ 122
        · simp (disch := first | assumption | omega) only [bX12_next_80, p_12_11, k_12, li_0, li_59, li_40, li_41, li_60, li_62, ob2, Option.bind_some, iI_add, pk, iI_le, if_pos c0, r_isSmall rc, bI_i0, ite_n, if_pos cA]
        · have cD : 48 ≤ dy (XR Z 60 0 q) ∧ dy (XR Z 60 0 q) ≤ 57 := by
            rcases i2 q (Int.le_refl q) c1 with k | k
            · exact absurd ((dy_in (by decide) (by decide) bq.1).mpr k) cA
            · exact (dy_in (by decide) (by decide) bq.1).mpr k
          simp (disch := first | assumption | omega) only [bX12_next_80, p_12_11, k_12, li_0, li_59, li_40, li_41, li_60, li_62, ob2, Option.bind_some, iI_add, pk, iI_le, if_pos c0, r_isSmall rc, r_isDigit rc, bI_i0, ite_n, if_neg cA, if_pos cD]
      have tkr : 0 ≤ tkR sm al (e - q) ∧ tkR sm al (e - q) ≤ 4 := by unfold tkR; (repeat' split) <;> decide
      have q1 : -2147483648 ≤ e - q ∧ e - q < 2147483648 := by omega
      have q2 : -2147483648 ≤ e ∧ e < 2147483648 := by omega
      have N2 : NxF Z (sF (rz Z1 q e w n) 12 0 11 (tkR sm al (e - q))) := Nx_F (Nx_F (Nx_F (Nx_F (Nx_J N1) (by decide)) (by decide)) (by decide)) (by decide)
      have W2 : WF (sF (rz Z1 q e w n) 12 0 11 (tkR sm al (e - q))) := W_F (W_F (W_F (W_F (W_J W1) (Int.le_trans (by decide) hn.1) (Int.lt_of_le_of_lt hn.2 (by decide))) q1.1 q1.2) q2.1 q2.2) (Int.le_trans (by decide) tkr.1) (Int.lt_of_le_of_lt tkr.2 (by decide))
      have tr := tok_run c1 cI hz hsm
      have k12 : XF Z1 12 0 12 = XF X 4 0 6 := z12.trans a2.symm
      refine ⟨_, by rw [sk, q80, hr], N2, W2, tb1, k12, ?_⟩
      rcases c5 with ⟨d1, d2, d3, d4⟩ | ⟨d1, d2, ⟨d3, d4, d5⟩ | ⟨d3, d4⟩⟩
      · have t := tr.1 ⟨d1, d2⟩
        exact ⟨fun k => absurd (d3.symm.trans k) (by decide), fun _ => he, fun _ => t, fun k => absurd (d3.symm.trans k) (by decide), fun k => absurd (d3.symm.trans k) (by decide), fun k => by rw [d3] at k; exact absurd k (by decide)⟩
      · have t := tr.2.1 ⟨d3, d4⟩
        exact ⟨fun k => absurd (d5.symm.trans k) (by decide), fun _ => he, fun k => absurd (d5.symm.trans k) (by decide), fun _ => t, fun k => absurd (d5.symm.trans k) (by decide), fun k => by rw [d5] at k; exact absurd k (by decide)⟩
      · have t := tr.2.2 d1 d3
        exact ⟨fun k => absurd (d4.symm.trans k) (by decide), fun _ => he, fun k => absurd (d4.symm.trans k) (by decide), fun k => absurd (d4.symm.trans k) (by decide), fun _ => t, fun k => by rw [d4] at k; exact absurd k (by decide)⟩
theorem TBC_rd {X X' : XS} (r : RdF X X') (b : TBC X) : TBC X' := by
  unfold TBC at *
  rw [r.2.1, r.1 4 0 3 (by omega), r.1 4 0 2 (by omega)]; exact b
theorem TB_rd {X X' Z : XS} (r : RdF X X') (b : TB X Z) : TB X' Z := by
  unfold TB at *
  rw [r.2.1, r.1 4 0 3 (by omega), r.1 4 0 2 (by omega)]; exact b
theorem j_step0 {f0 : Nat} {Y : YS} {X : XS} (g : GY Y) (W : WF X) (b : TBC X) {a : Int} (ha : XF X 4 0 4 = a) (a0 : 0 ≤ a) (asz : a ≤ XF X 4 0 2) (hf : 2000 ≤ f0) : ∃ X', fX4_step f0 (Ad Y 4 0) (hp Y X) = some (hp Y X') ∧ RdF X X' ∧ WF X' ∧ TokC X' ∧ (XF X' 4 0 6 = XF X 4 0 3 ∨ a ≤ XF X' 4 0 6) ∧ ∀ Z, WF Z → TB X Z → XF Z 12 0 4 = a → ∃ Z', fX12_next f0 (Ad Y 12 0) (hp Y Z) = some (hp Y Z') ∧ NxF Z Z' ∧ WF Z' ∧ TokR X' Z' := by
  have b2 := b.2
  obtain ⟨X', q, e1, r, W', st, ⟨q0, q1⟩, ws, nw⟩ := e_step (f0 := f0) g W ha a0 asz ⟨by omega, by omega⟩ (by omega) b.1 hf
  have b' := TBC_rd r b
  have f3 := r.1 4 0 3 (by omega); have f2 := r.1 4 0 2 (by omega)
  have r20 : XR X' 20 0 = XR X 20 0 := by rw [r.2.1]
  refine ⟨X', e1, r, W', StP_C b' st (by omega) (by omega), ?_, fun Z WZ tb hz => ?_⟩
  · rcases st with ⟨a1, a2, a3, a4, a5⟩ | ⟨a1, a2, a3⟩
    · exact .inl (by omega)
    · exact .inr (by omega)
  · exact r_next g WZ b' st (TB_rd r tb) hz a0 q0 (by omega) (by omega) (by rw [r20]; exact ws) (by rw [r20, f3]; exact nw) hf
theorem j_step {f0 : Nat} {Y : YS} {X : XS} (g : GY Y) (W : WF X) (h : TokC X) (ne : XF X 4 0 5 ≠ 0) (hf : 2000 ≤ f0) : ∃ X', fX4_step f0 (Ad Y 4 0) (hp Y X) = some (hp Y X') ∧ RdF X X' ∧ WF X' ∧ TokC X' ∧ XF X 4 0 6 < XF X' 4 0 6 ∧ ∀ Z, WF Z → TokR X Z → ∃ Z', fX12_next f0 (Ad Y 12 0) (hp Y Z) = some (hp Y Z') ∧ NxF Z Z' ∧ WF Z' ∧ TokR X' Z' := by
  obtain ⟨b, h1, h2, h3, h4⟩ := h
  have h3' := h3 ne
  obtain ⟨X', e1, r, W', t, k, j⟩ := j_step0 (f0 := f0) g W b (a := XF X 4 0 4) rfl h1.1 h1.2 hf
  exact ⟨X', e1, r, W', t, by omega, fun Z WZ tr => j Z WZ tr.1 (tr.2.2.2.1 ne)⟩
