/-! NAMES FOR ALL PORTS: the reference's search; names, nameOf -/
theorem x73 (Z : XS) (r S : Int → Int) : XR (sR (sR Z 73 0 r) 61 0 S) 73 0 = r := rfl
theorem s73 (Z : XS) (r r' S : Int → Int) : sR (sR (sR Z 73 0 r) 61 0 S) 73 0 r' = sR (sR Z 73 0 r') 61 0 S := by rw [sR_cm _ 0 0 S r' (by decide), sR_sR]
theorem y67 (Z : XS) (r : Int → Int) : XR (sR Z 73 0 r) 67 0 = XR Z 67 0 := rfl
theorem r_fits {f0 : Nat} {Y : YS} {Z : XS} {S gv : Int → Int} (g : GY Y) (hq : QR (XR Z 67 0)) (h0 : 0 ≤ S 0 ∧ S 0 ≤ 8) (rn : RgF gv) {p n : Int} (p0 : 0 ≤ p) (p1 : p < S 0) (rg : Rg n) (hf : 20 ≤ f0) : ∃ b : Bool, (b = true ↔ okP (cfl (XR Z 67 0)) gv p n) ∧ fX12_fits f0 (Ad Y 12 0) (iI p) (iI n) (hp Y (sR (sR Z 73 0 gv) 61 0 S)) = some (iI (b01 b), hp Y (sR (sR Z 73 0 gv) 61 0 S)) := by
  have n1 := rg.1; have n2 := rg.2
  have hq2 : QR (XR (sR Z 73 0 gv) 67 0) := hq
  refine lp (fun f (q : Int) => bX12_fits_2 f0 f (Ad Y 12 0) (iI p) (iI n) (iI q) (hp Y (sR (sR Z 73 0 gv) 61 0 S))) (fun q => 0 ≤ q ∧ q ≤ p ∧ ∀ j, 0 ≤ j → j < q → gv j = n → cfl (XR Z 67 0) p j = false) (fun q => (9 - q).toNat) (fun r => ∃ b : Bool, (b = true ↔ okP (cfl (XR Z 67 0)) gv p n) ∧ r = some (iI (b01 b), hp Y (sR (sR Z 73 0 gv) 61 0 S))) ?_ f0 0 ⟨by omega, by omega, fun j h1 h2 => by omega⟩ (by omega)
  intro f q ⟨q0, qp, inv⟩
  by_cases c : p ≤ q
  · left
    refine ⟨true, ⟨fun _ j j0 j1 e => inv j j0 (by omega) e, fun _ => rfl⟩, ?_⟩
    simp (disch := first | assumption | omega) only [bX12_fits_2, g_12_30, k_12, l_73, li_0, li_1, ob2, iI_add, Option.bind_some, iI_le, if_pos c, zr_i1]
    rfl
  · have nl := (rn q).1; have nh := (rn q).2
    by_cases a : gv q = n
    · have E1 := r_doesHear (f0 := f0) (X := sR Z 73 0 gv) (S := S) g hq2 (p := p) (q := q) (by omega) (by omega) (by omega) (by omega)
      have E2 := r_doesHear (f0 := f0) (X := sR Z 73 0 gv) (S := S) g hq2 (p := q) (q := p) (by omega) (by omega) (by omega) (by omega)
      rw [y67] at E1 E2
      by_cases b1 : p ≠ q ∧ XR Z 67 0 (8 * p + q) < 1000000
      · left
        refine ⟨false, ⟨fun w => absurd w (by decide), fun w => ?_⟩, ?_⟩
        · have := w q q0 (by omega) a
          unfold cfl at this; rw [decide_eq_false_iff_not] at this; exact absurd (.inl b1) this
        · simp (disch := first | assumption | omega) only [bX12_fits_2, g_12_30, k_12, l_73, li_0, li_1, ob2, iI_add, Option.bind_some, iI_le, if_neg c, x73, iI_eq, if_pos a, E1, bI_i0, ite_n, if_pos b1, zr_i0]
          rfl
      · by_cases b2 : q ≠ p ∧ XR Z 67 0 (8 * q + p) < 1000000
        · left
          refine ⟨false, ⟨fun w => absurd w (by decide), fun w => ?_⟩, ?_⟩
          · have := w q q0 (by omega) a
            unfold cfl at this; rw [decide_eq_false_iff_not] at this; exact absurd (.inr b2) this
          · simp (disch := first | assumption | omega) only [bX12_fits_2, g_12_30, k_12, l_73, li_0, li_1, ob2, iI_add, Option.bind_some, iI_le, if_neg c, x73, iI_eq, if_pos a, E1, E2, bI_i0, ite_n, if_neg b1, if_pos b2, zr_i0]
            rfl
        · right
          refine ⟨q + 1, ?_, ⟨by omega, by omega, fun j j0 j1 e => ?_⟩, by omega⟩
          · simp (disch := first | assumption | omega) only [bX12_fits_2, bX12_fits_37, g_12_30, k_12, l_73, li_0, li_1, ob2, iI_add, Option.bind_some, iI_le, if_neg c, x73, iI_eq, if_pos a, E1, E2, bI_i0, ite_n, if_neg b1, if_neg b2]
          · by_cases ej : j = q
            · subst ej; unfold cfl; rw [decide_eq_false_iff_not]
              exact fun w => w.elim b1 b2
            · exact inv j j0 (by omega) e
    · right
      refine ⟨q + 1, ?_, ⟨by omega, by omega, fun j j0 j1 e => ?_⟩, by omega⟩
      · simp (disch := first | assumption | omega) only [bX12_fits_2, bX12_fits_37, g_12_30, k_12, l_73, li_0, li_1, ob2, iI_add, Option.bind_some, iI_le, if_neg c, x73, iI_eq, if_neg a]
      · by_cases ej : j = q
        · subst ej; exact absurd e a
        · exact inv j j0 (by omega) e
abbrev GB (C : Int → Int → Bool) (N c : Int) (gv gv' : Int → Int) (b : Bool) : Prop := RgF gv' ∧ (b = true → LF C N c gv') ∧ (b = false → ¬ Ext C N c gv 0)
theorem r_givesBy {f0 : Nat} {Y : YS} {Z : XS} {S gv : Int → Int} (g : GY Y) (Ws : WS S) (hq : QR (XR Z 67 0)) (h0 : 1 ≤ S 0 ∧ S 0 ≤ 8) (rn : RgF gv) {c : Int} (c1 : 1 ≤ c) (c8 : c ≤ 8) (hf : 30000000000 ≤ f0) : ∃ gv' b, GB (cfl (XR Z 67 0)) (S 0) c gv gv' b ∧ fX12_givesBy f0 (Ad Y 12 0) (iI c) (hp Y (sR (sR Z 73 0 gv) 61 0 S)) = some (iI (b01 b), hp Y (sR (sR Z 73 0 gv') 61 0 S)) := by
  have st : fX12_givesBy f0 (Ad Y 12 0) (iI c) (hp Y (sR (sR Z 73 0 gv) 61 0 S)) = bX12_givesBy_9 f0 f0 (Ad Y 12 0) (iI c) (iI 0) (hp Y (sR (sR Z 73 0 (upi gv 0 (-1))) 61 0 S)) := by
    simp (disch := first | assumption | omega) only [fX12_givesBy, g_12_30, s_73, lm_1, li_0, li_1, Option.bind_some, iI_add, iI_neg, x73, s73, iI_neg]
  rw [st]
  have fin : ∀ (m : Int → Int) (p : Int), bX12_givesBy_89 f0 (iI p) (hp Y (sR (sR Z 73 0 m) 61 0 S)) = bX12_givesBy_89 f0 (iI p) (hp Y (sR (sR Z 73 0 m) 61 0 S)) := fun _ _ => rfl
  refine lp (fun f (z : Int × (Int → Int)) => bX12_givesBy_9 f0 f (Ad Y 12 0) (iI c) (iI z.1) (hp Y (sR (sR Z 73 0 z.2) 61 0 S))) (fun z => (-1 ≤ z.1 ∧ z.1 ≤ S 0) ∧ RgF z.2 ∧ (z.1 = -1 → ¬ Ext (cfl (XR Z 67 0)) (S 0) c gv 0) ∧ (∀ p, 0 ≤ p → p < z.1 → ((0 ≤ z.2 p ∧ z.2 p < c) ∧ okP (cfl (XR Z 67 0)) z.2 p (z.2 p)) ∧ ∀ n, 0 ≤ n → n < z.2 p → ¬ (okP (cfl (XR Z 67 0)) z.2 p n ∧ Ext (cfl (XR Z 67 0)) (S 0) c (upi z.2 p n) (p + 1))) ∧ (0 ≤ z.1 → z.1 < S 0 → (-1 ≤ z.2 z.1 ∧ z.2 z.1 < c) ∧ ∀ n, 0 ≤ n → n ≤ z.2 z.1 → ¬ (okP (cfl (XR Z 67 0)) z.2 z.1 n ∧ Ext (cfl (XR Z 67 0)) (S 0) c (upi z.2 z.1 n) (z.1 + 1)))) (fun z => if z.1 < 0 ∨ S 0 ≤ z.1 then 0 else 20 ^ 8 - msr z.2 z.1.toNat) (fun r => ∃ gv' b, GB (cfl (XR Z 67 0)) (S 0) c gv gv' b ∧ r = some (iI (b01 b), hp Y (sR (sR Z 73 0 gv') 61 0 S))) ?_ f0 (0, upi gv 0 (-1)) ?_ ?_
  · intro f ⟨p, m⟩ ⟨⟨pl, ph⟩, rm, ex, pre, cur⟩
    simp only at pl ph rm ex pre cur ⊢
    by_cases k1 : p < 0
    · left
      refine ⟨m, false, ⟨rm, fun w => absurd w (by decide), fun _ => ex (by omega)⟩, ?_⟩
      simp (disch := first | assumption | omega) only [bX12_givesBy_9, bX12_givesBy_89, g_12_6, g_12_30, k_12, l61, s61, l_73, s_73, lm_1, li_0, li_1, ob2, iI_add, Option.bind_some, iI_neg, iI_lt, if_pos k1, zr_i0]
      rfl
    · by_cases k2 : S 0 ≤ p
      · left
        refine ⟨m, true, ⟨rm, fun _ i i0 i1 => pre i i0 (by omega), fun w => absurd w (by decide)⟩, ?_⟩
        simp (disch := first | assumption | omega) only [bX12_givesBy_9, bX12_givesBy_89, g_12_6, g_12_30, k_12, l61, s61, l_73, s_73, lm_1, li_0, li_1, ob2, iI_add, Option.bind_some, iI_neg, iI_lt, iI_le, if_neg k1, if_pos k2, zr_i1]
        rfl
      · right
        obtain ⟨⟨v0, v1⟩, cu⟩ := cur (by omega) (by omega)
        obtain ⟨P, hP⟩ : ∃ P : Nat, p = (P : Int) := ⟨p.toNat, by omega⟩
        subst hP
        have pt : ((P : Int)).toNat = P := rfl
        have preb : ∀ q, 0 ≤ q → q < (P : Int) → 0 ≤ m q ∧ m q ≤ 8 := fun q q0 q1 => by have := (pre q q0 q1).1.1; omega
        have mlt := msr_lt (g := m) (p := P) (by omega) preb (by omega)
        have msin := msr_in (g := m) (p := P) v0
        obtain ⟨m1, hm1⟩ : ∃ m1, m1 = upi m (P : Int) (m (P : Int) + 1) := ⟨_, rfl⟩
        have rm1 : RgF m1 := by rw [hm1]; exact RgF_u rm (by omega) (by omega)
        have m1p : m1 (P : Int) = m (P : Int) + 1 := by rw [hm1, upi_eq]
        have m1q : ∀ q, 0 ≤ q → q < (P : Int) → m1 q = m q := fun q q0 q1 => by rw [hm1, upi_ne _ _ (by omega)]
        have cu1 : ∀ n, 0 ≤ n → n < m1 (P : Int) → ¬ (okP (cfl (XR Z 67 0)) m1 (P : Int) n ∧ Ext (cfl (XR Z 67 0)) (S 0) c (upi m1 (P : Int) n) ((P : Int) + 1)) := fun n n0 n1 w => cu n n0 (by omega) ⟨(okP_c m1q).mp w.1, Ext_c (fun q q0 q1 => by
          by_cases eq : q = (P : Int)
          · subst eq; rw [upi_eq, upi_eq]
          · rw [upi_ne _ _ eq, upi_ne _ _ eq, m1q q q0 (by omega)]) w.2⟩
        have pre1 : ∀ i, 0 ≤ i → i < (P : Int) → ((0 ≤ m1 i ∧ m1 i < c) ∧ okP (cfl (XR Z 67 0)) m1 i (m1 i)) ∧ ∀ n, 0 ≤ n → n < m1 i → ¬ (okP (cfl (XR Z 67 0)) m1 i n ∧ Ext (cfl (XR Z 67 0)) (S 0) c (upi m1 i n) (i + 1)) := fun i i0 i1 => by
          have pi := pre i i0 i1
          have cq : ∀ q, 0 ≤ q → q < i → m1 q = m q := fun q q0 q1 => m1q q q0 (by omega)
          rw [m1q i i0 i1]
          refine ⟨⟨pi.1.1, (okP_c cq).mpr pi.1.2⟩, fun n n0 n1 w => pi.2 n n0 n1 ⟨(okP_c cq).mp w.1, Ext_c (fun q q0 q1 => ?_) w.2⟩⟩
          by_cases eq : q = i
          · subst eq; rw [upi_eq, upi_eq]
          · rw [upi_ne _ _ eq, upi_ne _ _ eq, m1q q q0 (by omega)]
        by_cases k3 : m (P : Int) + 1 = c
        · have noE : ¬ Ext (cfl (XR Z 67 0)) (S 0) c m1 (P : Int) := no_ext2 (by omega) (fun n n0 n1 => cu1 n n0 (by omega))
          refine ⟨((P : Int) - 1, m1), ?_, ⟨⟨by simp only; omega, by simp only; omega⟩, rm1, fun w => ?_, fun i i0 i1 => ?_, fun a0 a1 => ?_⟩, ?_⟩
          · have k3' : m1 (P : Int) = c := by omega
            simp (disch := first | assumption | omega) only [bX12_givesBy_9, g_12_6, g_12_30, k_12, l61, s61, l_73, s_73, lm_1, li_0, li_1, ob2, iI_add, Option.bind_some, iI_neg, iI_lt, iI_le, if_neg k1, if_neg k2, x73, s73, ← hm1, m1p, iI_eq, if_pos k3, iI_neg]
            rfl
          · simp only at w
            have p0 : (P : Int) = 0 := by omega
            exact fun e => noE (Ext_c (fun q q0 q1 => by omega) (by rw [p0]; exact e))
          · simp only at i1
            exact pre1 i i0 (by omega)
          · simp only at a0 a1 ⊢
            have pi := pre1 ((P : Int) - 1) (by omega) (by omega)
            refine ⟨⟨by omega, pi.1.1.2⟩, fun n n0 n1 w => ?_⟩
            by_cases en : n = m1 ((P : Int) - 1)
            · apply noE
              have w2 := w.2
              rw [show (P : Int) - 1 + 1 = (P : Int) by omega] at w2
              refine Ext_c (fun q q0 q1 => ?_) w2
              by_cases eq : q = (P : Int) - 1
              · subst eq; rw [upi_eq, en]
              · rw [upi_ne _ _ eq]
            · exact pi.2 n n0 (by omega) w
          · simp only
            rw [if_neg (by omega : ¬ ((P : Int) < 0 ∨ S 0 ≤ (P : Int)))]
            by_cases p0 : P = 0
            · rw [if_pos (by omega)]; rw [pt]; omega
            · obtain ⟨Q, rfl⟩ : ∃ Q, P = Q + 1 := ⟨P - 1, by omega⟩
              rw [if_neg (by omega), pt, show (((Q + 1 : Nat) : Int) - 1).toNat = Q by omega, hm1]
              have dn := msr_dn (g := m) (p := Q) (by omega) (preb Q (by omega) (by omega)).1 (by omega) (v := m ((Q + 1 : Nat) : Int) + 1)
              have lt2 := msr_lt (g := upi m ((Q + 1 : Nat) : Int) (m ((Q + 1 : Nat) : Int) + 1)) (p := Q) (by omega) (fun q q0 q1 => by rw [upi_ne _ _ (by omega)]; exact preb q q0 (by omega)) (by rw [upi_ne _ _ (by omega)]; have := preb Q (by omega) (by omega); omega)
              omega
        · obtain ⟨b, hb, ef⟩ := r_fits (f0 := f0) (Z := Z) (S := S) (gv := m1) g hq (by omega) rm1 (p := (P : Int)) (n := m (P : Int) + 1) (by omega) (by omega) ⟨by omega, by omega⟩ (by omega)
          cases b with
          | false =>
            have z0 : (b01 false) = 0 := rfl
            refine ⟨((P : Int), m1), ?_, ⟨⟨by simp only; omega, by simp only; omega⟩, rm1, fun w => by simp only at w; omega, pre1, fun a0 a1 => ?_⟩, ?_⟩
            · simp (disch := first | assumption | omega) only [bX12_givesBy_9, g_12_6, g_12_30, k_12, l61, s61, l_73, s_73, lm_1, li_0, li_1, ob2, iI_add, Option.bind_some, iI_neg, iI_lt, iI_le, if_neg k1, if_neg k2, x73, s73, ← hm1, m1p, iI_eq, if_neg k3, ef, z0, if_true]
            · simp only
              refine ⟨⟨by omega, by omega⟩, fun n n0 n1 w => ?_⟩
              by_cases en : n = m1 (P : Int)
              · have := hb.mpr (by rw [← m1p, ← en]; exact w.1)
                exact absurd this (by decide)
              · exact cu1 n n0 (by omega) w
            · simp only
              rw [if_neg (by omega : ¬ ((P : Int) < 0 ∨ S 0 ≤ (P : Int))), if_neg (by omega : ¬ ((P : Int) < 0 ∨ S 0 ≤ (P : Int))), pt, hm1]
              have lt2 := msr_lt (g := upi m (P : Int) (m (P : Int) + 1)) (p := P) (by omega) (fun q q0 q1 => by rw [upi_ne _ _ (by omega)]; exact preb q q0 q1) (by rw [upi_eq]; omega)
              omega
          | true =>
            have ok := hb.mp rfl
            have z1 : (b01 true) = 1 := rfl
            have n10 : ¬ (1 : Int) = 0 := by decide
            by_cases k4 : S 0 ≤ (P : Int) + 1
            · refine ⟨((P : Int) + 1, m1), ?_, ⟨⟨by simp only; omega, by simp only; omega⟩, rm1, fun w => by simp only at w; omega, fun i i0 i1 => ?_, fun a0 a1 => by simp only at a1; omega⟩, ?_⟩
              · simp (disch := first | assumption | omega) only [bX12_givesBy_9, g_12_6, g_12_30, k_12, l61, s61, l_73, s_73, lm_1, li_0, li_1, ob2, iI_add, Option.bind_some, iI_neg, iI_lt, iI_le, if_neg k1, if_neg k2, x73, s73, ← hm1, m1p, iI_eq, if_neg k3, ef, z1, if_neg n10, if_pos k4]
              · simp only at i1 ⊢
                by_cases ei : i = (P : Int)
                · subst ei
                  exact ⟨⟨⟨by omega, by omega⟩, by rw [m1p]; exact ok⟩, cu1⟩
                · exact pre1 i i0 (by omega)
              · simp only
                rw [if_pos (by omega), if_neg (by omega : ¬ ((P : Int) < 0 ∨ S 0 ≤ (P : Int))), pt]
                omega
            · have cq : ∀ q, 0 ≤ q → q < (P : Int) + 1 → upi m1 ((P : Int) + 1) (-1) q = m1 q := fun q q0 q1 => upi_ne _ _ (by omega)
              refine ⟨((P : Int) + 1, upi m1 ((P : Int) + 1) (-1)), ?_, ⟨⟨by simp only; omega, by simp only; omega⟩, RgF_u rm1 (by decide) (by decide), fun w => by simp only at w; omega, fun i i0 i1 => ?_, fun a0 a1 => ?_⟩, ?_⟩
              · simp (disch := first | assumption | omega) only [bX12_givesBy_9, g_12_6, g_12_30, k_12, l61, s61, l_73, s_73, lm_1, li_0, li_1, ob2, iI_add, Option.bind_some, iI_neg, iI_lt, iI_le, if_neg k1, if_neg k2, x73, s73, ← hm1, m1p, iI_eq, if_neg k3, ef, z1, if_neg n10, if_neg k4, iI_neg]
              · simp only at i1
                have base : ((0 ≤ m1 i ∧ m1 i < c) ∧ okP (cfl (XR Z 67 0)) m1 i (m1 i)) ∧ ∀ n, 0 ≤ n → n < m1 i → ¬ (okP (cfl (XR Z 67 0)) m1 i n ∧ Ext (cfl (XR Z 67 0)) (S 0) c (upi m1 i n) (i + 1)) := by
                  by_cases ei : i = (P : Int)
                  · subst ei
                    exact ⟨⟨⟨by omega, by omega⟩, by rw [m1p]; exact ok⟩, cu1⟩
                  · exact pre1 i i0 (by omega)
                show ((0 ≤ upi m1 ((P : Int) + 1) (-1) i ∧ upi m1 ((P : Int) + 1) (-1) i < c) ∧ okP _ (upi m1 ((P : Int) + 1) (-1)) i (upi m1 ((P : Int) + 1) (-1) i)) ∧ ∀ n, 0 ≤ n → n < upi m1 ((P : Int) + 1) (-1) i → ¬ (okP _ (upi m1 ((P : Int) + 1) (-1)) i n ∧ Ext _ (S 0) c (upi (upi m1 ((P : Int) + 1) (-1)) i n) (i + 1))
                rw [cq i i0 i1]
                have ci : ∀ q, 0 ≤ q → q < i → upi m1 ((P : Int) + 1) (-1) q = m1 q := fun q q0 q1 => cq q q0 (by omega)
                refine ⟨⟨base.1.1, (okP_c ci).mpr base.1.2⟩, fun n n0 n1 w => base.2 n n0 n1 ⟨(okP_c ci).mp w.1, Ext_c (fun q q0 q1 => ?_) w.2⟩⟩
                by_cases eq : q = i
                · subst eq; rw [upi_eq, upi_eq]
                · rw [upi_ne _ _ eq, upi_ne _ _ eq, ci q q0 (by omega)]
              · simp only
                rw [upi_eq]
                exact ⟨⟨by omega, by omega⟩, fun n n0 n1 => by omega⟩
              · simp only
                rw [if_neg (by omega), if_neg (by omega : ¬ ((P : Int) < 0 ∨ S 0 ≤ (P : Int))), pt, show ((P : Int) + 1).toNat = P + 1 by omega, hm1]
                have upm := msr_up (g := m) (p := P) (by omega) v0
                have lt2 := msr_lt (g := upi (upi m (P : Int) (m (P : Int) + 1)) ((P + 1 : Nat) : Int) (-1)) (p := P + 1) (by omega) (fun q q0 q1 => by
                  rw [upi_ne _ _ (by omega)]
                  by_cases eq : q = (P : Int)
                  · subst eq; rw [upi_eq]; omega
                  · rw [upi_ne _ _ eq]; exact preb q q0 (by omega)) (by rw [upi_eq]; omega)
                have ee : ((P : Int) + 1) = ((P + 1 : Nat) : Int) := by omega
                rw [ee]
                omega
  · refine ⟨⟨by simp only; omega, by simp only; omega⟩, RgF_u rn (by decide) (by decide), fun w => by simp only at w; omega, fun i i0 i1 => by simp only at i1; omega, fun _ _ => ?_⟩
    simp only
    rw [upi_eq]
    exact ⟨⟨by omega, by omega⟩, fun n n0 n1 => by omega⟩
  · simp only
    split
    · omega
    · have : (20 : Nat) ^ 8 = 25600000000 := by decide
      omega
theorem r_fewestNames {f0 : Nat} {Y : YS} {Z : XS} {S gv : Int → Int} (g : GY Y) (Ws : WS S) (hq : QR (XR Z 67 0)) (h0 : 0 ≤ S 0 ∧ S 0 ≤ 8) (rn : RgF gv) (hf : 30000000000 ≤ f0) : ∃ gv' v, RgF gv' ∧ (0 ≤ v ∧ v ≤ S 0) ∧ (∀ c, 0 ≤ c → c < v → ¬ Ext (cfl (XR Z 67 0)) (S 0) c gv 0) ∧ LF (cfl (XR Z 67 0)) (S 0) v gv' ∧ fX12_fewestNames f0 (Ad Y 12 0) (hp Y (sR (sR Z 73 0 gv) 61 0 S)) = some (iI v, hp Y (sR (sR Z 73 0 gv') 61 0 S)) := by
  by_cases a : S 0 = 0
  · refine ⟨gv, 0, rn, ⟨by omega, by omega⟩, fun c c0 c1 => by omega, fun p p0 p1 => by omega, ?_⟩
    simp (disch := first | assumption | omega) only [fX12_fewestNames, g_12_6, l61, li_0, li_1, Option.bind_some, iI_add, iI_eq, if_pos a]
  · have st : fX12_fewestNames f0 (Ad Y 12 0) (hp Y (sR (sR Z 73 0 gv) 61 0 S)) = bX12_fewestNames_13 f0 f0 (Ad Y 12 0) (iI 1) (hp Y (sR (sR Z 73 0 gv) 61 0 S)) := by
      simp (disch := first | assumption | omega) only [fX12_fewestNames, g_12_6, l61, li_0, li_1, Option.bind_some, iI_add, iI_eq, if_neg a]
    rw [st]
    refine lp (fun f (z : Int × (Int → Int)) => bX12_fewestNames_13 f0 f (Ad Y 12 0) (iI z.1) (hp Y (sR (sR Z 73 0 z.2) 61 0 S))) (fun z => (1 ≤ z.1 ∧ z.1 ≤ S 0) ∧ RgF z.2 ∧ ∀ c, 0 ≤ c → c < z.1 → ¬ Ext (cfl (XR Z 67 0)) (S 0) c gv 0) (fun z => (10 - z.1).toNat) (fun r => ∃ gv' v, RgF gv' ∧ (0 ≤ v ∧ v ≤ S 0) ∧ (∀ c, 0 ≤ c → c < v → ¬ Ext (cfl (XR Z 67 0)) (S 0) c gv 0) ∧ LF (cfl (XR Z 67 0)) (S 0) v gv' ∧ r = some (iI v, hp Y (sR (sR Z 73 0 gv') 61 0 S))) ?_ f0 (1, gv) ⟨⟨by simp only; omega, by simp only; omega⟩, rn, fun c c0 c1 => ?_⟩ (by simp only; omega)
    · intro f ⟨c, m⟩ ⟨⟨c1, cN⟩, rm, inv⟩
      simp only at c1 cN rm inv ⊢
      obtain ⟨m', b, ⟨g1, g2, g3⟩, eb⟩ := r_givesBy (f0 := f0) (Z := Z) (S := S) (gv := m) g Ws hq (by omega) rm c1 (by omega) hf
      cases b with
      | true =>
        left
        have z1 : (b01 true) = 1 := rfl
        have n10 : ¬ (1 : Int) = 0 := by decide
        refine ⟨m', c, g1, ⟨by omega, cN⟩, inv, g2 rfl, ?_⟩
        simp (disch := first | assumption | omega) only [bX12_fewestNames_13, k_12, li_0, li_1, ob2, iI_add, Option.bind_some, eb, z1, iI_eq, if_neg n10]
      | false =>
        right
        have z0 : (b01 false) = 0 := rfl
        have ne := g3 rfl
        have lt : c < S 0 := by
          apply Classical.byContradiction; intro w
          exact ne (Ext_m (by omega) Ext_all)
        refine ⟨(c + 1, m'), ?_, ⟨⟨by simp only; omega, by simp only; omega⟩, g1, fun c' a0 a1 w => ?_⟩, by simp only; omega⟩
        · simp (disch := first | assumption | omega) only [bX12_fewestNames_13, k_12, li_0, li_1, ob2, iI_add, Option.bind_some, eb, z0, if_true]
        · simp only at a1
          by_cases ec : c' = c
          · subst ec; exact ne (Ext_c (fun q q0 q1 => by omega) w)
          · exact inv c' a0 (by omega) w
    · simp only at c1
      have cz : c = 0 := by omega
      subst cz
      intro ⟨x, _, x2⟩
      have := (x2 0 (by omega) (by omega)).1; omega
theorem Inv_al {Y : YS} {X : XS} (h : Inv Y X) {nm gv : Int → Int} (r1 : RgF nm) (r2 : RgF gv) : Inv Y (sR (sF (sR X 49 0 nm) 12 0 0 0) 73 0 gv) := ⟨h.1, W_R (W_F (W_R h.2.1 r1) (by decide) (by decide)) r2, h.2.2⟩
theorem al_both {f0 : Nat} {Y : YS} {X : XS} (h : Inv Y X) (hf : 30000000000 ≤ f0) : ∃ nm gv v, RgF nm ∧ RgF gv ∧ (0 ≤ v ∧ v ≤ 8) ∧ (∀ q, 0 ≤ q → q < XR X 61 0 0 → nm q = gv q) ∧ fX0_fewest f0 (Ad Y 0 0) (hp Y X) = some (iI v, hp Y (sR X 49 0 nm)) ∧ fX12_fewestNames f0 (Ad Y 12 0) (hp Y (sR (sF (sR X 49 0 nm) 12 0 0 0) 61 0 (XR X 61 0))) = some (iI v, hp Y (sR (sR (sF (sR X 49 0 nm) 12 0 0 0) 73 0 gv) 61 0 (XR X 61 0))) := by
  have g := h.1.1; have W := h.2.1
  have se := h.2.2.2.2.2.1; have hC := se.1; have hR := se.2.1
  have g6 := SeO_0 g
  have c0 := hC.1; have c3 := hC.2.1; have c4 := hC.2.2.1; have c5 := hC.2.2.2.1
  have e0 := hR.1.1; have e1 := hR.1.2.1; have e2 := hR.1.2.2.1; have e3 := hR.1.2.2.2.1
  have sh := h.2.2.2.2.2.2.2.2.1
  have p0 := sh.1 0 (by omega)
  have gk0 := ShO_k g p0
  have cd := sh.2.2.2.1.1; have rl := sh.2.2.2.1.2
  have cs : CShip X (XP X 0) 0 := cd
  have sf := inv_S se cd rl
  have Ws : WS (XR X 61 0) := fun i => W.2 61 0 i
  have WA : WF (sF X 12 0 0 0) := W_F W (by decide) (by decide)
  have z := Z61 (Y := Y) (X := sF X 12 0 0 0) (S := XR X 61 0) rfl
  have hP := inv_PostR se h.2.2.2.2.2.2.2.1
  have th := Inv_th h (v := 0) ⟨by decide, by decide⟩
  have rz : Rg (0 : Int) := ⟨by decide, by decide⟩
  have s0 := sf.2.2.1.1
  obtain ⟨nm, v, n1, n2, n3, n4, n5⟩ := e_fewest (f0 := f0) (S := XR X 61 0) (nm := XR X 49 0) g W hC e0 hP (fun i => W.2 _ _ _) (by omega)
  rw [sR_self] at n5
  have WZ : WF (sF (sR X 49 0 nm) 12 0 0 0) := W_F (W_R W n1) (by decide) (by decide)
  obtain ⟨gv, u, m1, m2, m3, m4, m5⟩ := r_fewestNames (f0 := f0) (Z := sF (sR X 49 0 nm) 12 0 0 0) (S := XR X 61 0) (gv := XR (sF (sR X 49 0 nm) 12 0 0 0) 73 0) g Ws hP.2.2 s0 (fun i => WZ.2 _ _ _) hf
  rw [sR_self] at m5
  have x67 : XR (sF (sR X 49 0 nm) 12 0 0 0) 67 0 = XR X 67 0 := rfl
  rw [x67] at m3 m4
  have uv : u = v := by
    apply Int.le_antisymm
    · apply Int.not_lt.mp; intro w
      exact m3 v n2.1 w (LF_ext n4)
    · apply Int.not_lt.mp; intro w
      exact n3 u m2.1 w (LF_ext m4)
  subst uv
  have e := LF_u n4 m4 (XR X 61 0 0).toNat (by omega)
  exact ⟨nm, gv, u, n1, m1, ⟨n2.1, by omega⟩, fun q q0 q1 => e q q0 (by omega), n5, m5⟩
theorem op_names {f0 : Nat} {Y : YS} {X : XS} (h : Inv Y X) (hf : 30000000000 ≤ f0) : ∃ v X1 X2, fX11_names f0 (Ad Y 11 0)  (hp Y X) = some (v, hp Y X1) ∧ fX12_names f0 (Ad Y 12 0)  (hp Y X1) = some (v, hp Y X2) ∧ Inv Y X2 := by
  have g := h.1.1; have W := h.2.1
  have se := h.2.2.2.2.2.1; have hC := se.1; have hR := se.2.1
  have g6 := SeO_0 g
  have c0 := hC.1; have c3 := hC.2.1; have c4 := hC.2.2.1; have c5 := hC.2.2.2.1
  have e0 := hR.1.1; have e1 := hR.1.2.1; have e2 := hR.1.2.2.1; have e3 := hR.1.2.2.2.1
  have sh := h.2.2.2.2.2.2.2.2.1
  have p0 := sh.1 0 (by omega)
  have gk0 := ShO_k g p0
  have cd := sh.2.2.2.1.1; have rl := sh.2.2.2.1.2
  have cs : CShip X (XP X 0) 0 := cd
  have sf := inv_S se cd rl
  have Ws : WS (XR X 61 0) := fun i => W.2 61 0 i
  have WA : WF (sF X 12 0 0 0) := W_F W (by decide) (by decide)
  have z := Z61 (Y := Y) (X := sF X 12 0 0 0) (S := XR X 61 0) rfl
  have hP := inv_PostR se h.2.2.2.2.2.2.2.1
  have th := Inv_th h (v := 0) ⟨by decide, by decide⟩
  have rz : Rg (0 : Int) := ⟨by decide, by decide⟩
  obtain ⟨nm, gv, v, r1, r2, vb, eq, cl, rf⟩ := al_both (f0 := f0) h hf
  have z1 := Z61 (Y := Y) (X := sF (sR X 49 0 nm) 12 0 0 0) (S := XR X 61 0) rfl
  have z2 := Z61 (Y := Y) (X := sR (sF (sR X 49 0 nm) 12 0 0 0) 73 0 gv) (S := XR X 61 0) rfl
  refine ⟨iI v, sR X 49 0 nm, sR (sF (sR X 49 0 nm) 12 0 0 0) 73 0 gv, ?_, ?_, Inv_al h r1 r2⟩
  · simp (disch := first | assumption | omega | exact W_fl W _ _ _ | exact W_fh W _ _ _ | exact W_rl W _ _ _ | exact W_rh W _ _ _ | exact WS_l Ws _ | exact WS_h Ws _) only [fX11_names, g_11_16, k_0, ob2, Option.bind_some, iI_add, cl]
  · simp (disch := first | assumption | omega | exact W_fl W _ _ _ | exact W_fh W _ _ _ | exact W_rl W _ _ _ | exact W_rh W _ _ _ | exact WS_l Ws _ | exact WS_h Ws _) only [fX12_names, p_12_0, k_12, li_0, ob2, Option.bind_some, iI_add, z1, rf, z2]
theorem op_nameOf {f0 : Nat} {Y : YS} {X : XS} (h : Inv Y X) {p : Int} (rg_p : Rg p) (hf : 30000000000 ≤ f0) : ∃ v X1 X2, fX11_nameOf f0 (Ad Y 11 0) (iI p) (hp Y X) = some (v, hp Y X1) ∧ fX12_nameOf f0 (Ad Y 12 0) (iI p) (hp Y X1) = some (v, hp Y X2) ∧ Inv Y X2 := by
  have g := h.1.1; have W := h.2.1
  have se := h.2.2.2.2.2.1; have hC := se.1; have hR := se.2.1
  have g6 := SeO_0 g
  have c0 := hC.1; have c3 := hC.2.1; have c4 := hC.2.2.1; have c5 := hC.2.2.2.1
  have e0 := hR.1.1; have e1 := hR.1.2.1; have e2 := hR.1.2.2.1; have e3 := hR.1.2.2.2.1
  have sh := h.2.2.2.2.2.2.2.2.1
  have p0 := sh.1 0 (by omega)
  have gk0 := ShO_k g p0
  have cd := sh.2.2.2.1.1; have rl := sh.2.2.2.1.2
  have cs : CShip X (XP X 0) 0 := cd
  have sf := inv_S se cd rl
  have Ws : WS (XR X 61 0) := fun i => W.2 61 0 i
  have WA : WF (sF X 12 0 0 0) := W_F W (by decide) (by decide)
  have z := Z61 (Y := Y) (X := sF X 12 0 0 0) (S := XR X 61 0) rfl
  have hP := inv_PostR se h.2.2.2.2.2.2.2.1
  have th := Inv_th h (v := 0) ⟨by decide, by decide⟩
  have rz : Rg (0 : Int) := ⟨by decide, by decide⟩
  have p1 := rg_p.1; have p2 := rg_p.2
  by_cases c : 0 ≤ p ∧ p < XR X 25 0 0
  · have cS : 0 ≤ p ∧ p < XR X 61 0 0 := by omega
    obtain ⟨nm, gv, v, r1, r2, vb, eq, cl, rf⟩ := al_both (f0 := f0) h hf
    have z1 := Z61 (Y := Y) (X := sF (sR X 49 0 nm) 12 0 0 0) (S := XR X 61 0) rfl
    have z2 := Z61 (Y := Y) (X := sR (sF (sR X 49 0 nm) 12 0 0 0) 73 0 gv) (S := XR X 61 0) rfl
    have x1 : XR (sR X 49 0 nm) 49 0 = nm := rfl
    refine ⟨iI (nm p), sR X 49 0 nm, sR (sF (sR X 49 0 nm) 12 0 0 0) 73 0 gv, ?_, ?_, Inv_al h r1 r2⟩
    · simp (disch := first | assumption | omega | exact W_fl W _ _ _ | exact W_fh W _ _ _ | exact W_rl W _ _ _ | exact W_rh W _ _ _ | exact WS_l Ws _ | exact WS_h Ws _) only [fX11_nameOf, g_11_4, g_11_16, g_0_1, k_6, k_0, l_49, lm_1, li_0, li_1, ob2, Option.bind_some, iI_add, iI_neg, e_has, bI_i0, ite_n, if_pos c, cl, x1]
    · simp (disch := first | assumption | omega | exact W_fl W _ _ _ | exact W_fh W _ _ _ | exact W_rl W _ _ _ | exact W_rh W _ _ _ | exact WS_l Ws _ | exact WS_h Ws _) only [fX12_nameOf, g_12_30, p_12_0, k_12, l_73, lm_1, li_0, li_1, ob2, Option.bind_some, iI_add, iI_neg, z1, r_isPort, bI_i0, ite_n, if_pos cS, rf, x73, z2]
      rw [eq p cS.1 cS.2]
  · have cS : ¬ (0 ≤ p ∧ p < XR X 61 0 0) := by omega
    refine ⟨iI (-1), X, sF X 12 0 0 0, ?_, ?_, th⟩
    · simp (disch := first | assumption | omega | exact W_fl W _ _ _ | exact W_fh W _ _ _ | exact W_rl W _ _ _ | exact W_rh W _ _ _ | exact WS_l Ws _ | exact WS_h Ws _) only [fX11_nameOf, g_11_4, g_11_16, g_0_1, k_6, k_0, l_49, lm_1, li_0, li_1, ob2, Option.bind_some, iI_add, iI_neg, e_has, bI_i0, ite_n, if_neg c, iI_neg]
    · simp (disch := first | assumption | omega | exact W_fl W _ _ _ | exact W_fh W _ _ _ | exact W_rl W _ _ _ | exact W_rh W _ _ _ | exact WS_l Ws _ | exact WS_h Ws _) only [fX12_nameOf, g_12_30, p_12_0, k_12, l_73, lm_1, li_0, li_1, ob2, Option.bind_some, iI_add, iI_neg, z, r_isPort, bI_i0, ite_n, if_neg cS, iI_neg]
