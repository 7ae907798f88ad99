/-! NAMES FOR ALL PORTS: the class's search -/
def cfl (q : Int → Int) : Int → Int → Bool := fun a b => decide ((a ≠ b ∧ q (8 * a + b) < 1000000) ∨ (b ≠ a ∧ q (8 * b + a) < 1000000))
theorem x49 (X : XS) (r : Int → Int) : XR (sR X 49 0 r) 49 0 = r := rfl
theorem s49 (X : XS) (r r' : Int → Int) : sR (sR X 49 0 r) 49 0 r' = sR X 49 0 r' := sR_sR ..
def b01 (b : Bool) : Int := if b = true then 1 else 0
theorem zr_b1 {b : Bool} {h : Hp} : zr (iI (b01 b)) h = some (iI (b01 b), h) := by
  cases b
  · exact zr_i0
  · exact zr_i1
theorem hears_q {X : XS} {S : Int → Int} (hP : PostR X S) (e0 : XR X 25 0 0 = S 0) {p q : Int} (p0 : 0 ≤ p) (p1 : p < S 0) (q0 : 0 ≤ q) (q1 : q < S 0) : (0 ≤ p ∧ p < XR X 25 0 0 ∧ 0 ≤ q ∧ q < XR X 25 0 0 ∧ p ≠ q ∧ XR X 35 0 (p * 8 + q) < 1000000) ↔ (p ≠ q ∧ XR X 67 0 (8 * p + q) < 1000000) := by
  rw [(hP.1 p q p0 p1 q0 q1).2]
  constructor
  · intro w; exact w.2.2.2.2
  · intro w; exact ⟨p0, by omega, q0, by omega, w⟩
theorem e_isFree {f0 : Nat} {Y : YS} {X : XS} {S nm : Int → Int} (g : GY Y) (W : WF X) (hC : CSea X 0) (e0 : XR X 25 0 0 = S 0) (hP : PostR X S) (hn : RgF nm) {p n : Int} (p0 : 0 ≤ p) (p1 : p < S 0) (rn : Rg n) (hf : 20 ≤ f0) : ∃ b : Bool, (b = true ↔ okP (cfl (XR X 67 0)) nm p n) ∧ fX0_isFree f0 (Ad Y 0 0) (iI p) (iI n) (hp Y (sR X 49 0 nm)) = some (iI (b01 b), hp Y (sR X 49 0 nm)) := by
  have g6 := SeO_0 g
  have c0 := hC.1
  have n1 := rn.1; have n2 := rn.2
  have W2 : WF (sR X 49 0 nm) := W_R W hn
  have hC2 : XR (sR X 49 0 nm) 25 0 0 ≤ 8 := c0.2
  refine lp (fun f (q : Int) => bX0_isFree_2 f0 f (Ad Y 0 0) (iI p) (iI n) (iI q) (hp Y (sR X 49 0 nm))) (fun q => 0 ≤ q ∧ q ≤ p ∧ ∀ j, 0 ≤ j → j < q → nm j = n → cfl (XR X 67 0) p j = false) (fun q => (9 - q).toNat) (fun r => ∃ b : Bool, (b = true ↔ okP (cfl (XR X 67 0)) nm p n) ∧ r = some (iI (b01 b), hp Y (sR X 49 0 nm))) ?_ f0 0 ⟨by omega, by omega, fun j h1 h2 => by omega⟩ (by omega)
  intro f q ⟨q0, qp, inv⟩
  by_cases c : p ≤ q
  · left
    refine ⟨true, ⟨fun _ j j0 j1 e => inv j j0 (by omega) e, fun _ => rfl⟩, ?_⟩
    simp (disch := first | assumption | omega) only [bX0_isFree_2, g_0_1, g_0_0, k_6, l_49, li_0, li_1, ob2, iI_add, Option.bind_some, iI_le, if_pos c, zr_i1]
    rfl
  · have nl := (hn q).1; have nh := (hn q).2
    by_cases a : nm q = n
    · have h1 := hears_q hP e0 (p := p) (q := q) p0 p1 q0 (by omega)
      have h2 := hears_q hP e0 (p := q) (q := p) q0 (by omega) p0 p1
      have E1 := e_hearsFrom (f0 := f0) (X := sR X 49 0 nm) g6 W2 (p := p) (q := q) ⟨by omega, by omega⟩ ⟨by omega, by omega⟩ hC2
      have E2 := e_hearsFrom (f0 := f0) (X := sR X 49 0 nm) g6 W2 (p := q) (q := p) ⟨by omega, by omega⟩ ⟨by omega, by omega⟩ hC2
      have y25 : XR (sR X 49 0 nm) 25 0 = XR X 25 0 := rfl
      have y35 : XR (sR X 49 0 nm) 35 0 = XR X 35 0 := rfl
      rw [y25, y35] at E1 E2
      by_cases b1 : p ≠ q ∧ XR X 67 0 (8 * p + q) < 1000000
      · left
        refine ⟨false, ⟨fun w => absurd w (by decide), fun w => ?_⟩, ?_⟩
        · have := w q q0 (by omega) a
          unfold cfl at this; rw [decide_eq_false_iff_not] at this; exact absurd (.inl b1) this
        · simp (disch := first | assumption | omega) only [bX0_isFree_2, g_0_1, g_0_0, k_6, l_49, li_0, li_1, ob2, iI_add, Option.bind_some, iI_le, if_neg c, x49, iI_eq, if_pos a, E1, bI_i0, ite_n, if_pos (h1.mpr b1), zr_i0]
          rfl
      · have nb1 := fun w => b1 (h1.mp w)
        by_cases b2 : q ≠ p ∧ XR X 67 0 (8 * q + p) < 1000000
        · left
          refine ⟨false, ⟨fun w => absurd w (by decide), fun w => ?_⟩, ?_⟩
          · have := w q q0 (by omega) a
            unfold cfl at this; rw [decide_eq_false_iff_not] at this; exact absurd (.inr b2) this
          · simp (disch := first | assumption | omega) only [bX0_isFree_2, g_0_1, g_0_0, k_6, l_49, li_0, li_1, ob2, iI_add, Option.bind_some, iI_le, if_neg c, x49, iI_eq, if_pos a, E1, E2, bI_i0, ite_n, if_neg nb1, if_pos (h2.mpr b2), zr_i0]
            rfl
        · right
          have nb2 := fun w => b2 (h2.mp w)
          refine ⟨q + 1, ?_, ⟨by omega, by omega, fun j j0 j1 e => ?_⟩, by omega⟩
          · simp (disch := first | assumption | omega) only [bX0_isFree_2, bX0_isFree_43, g_0_1, g_0_0, k_6, l_49, li_0, li_1, ob2, iI_add, Option.bind_some, iI_le, if_neg c, x49, iI_eq, if_pos a, E1, E2, bI_i0, ite_n, if_neg nb1, if_neg nb2]
          · by_cases ej : j = q
            · subst ej; unfold cfl; rw [decide_eq_false_iff_not]
              exact fun w => w.elim b1 b2
            · exact inv j j0 (by omega) e
    · right
      refine ⟨q + 1, ?_, ⟨by omega, by omega, fun j j0 j1 e => ?_⟩, by omega⟩
      · simp (disch := first | assumption | omega) only [bX0_isFree_2, bX0_isFree_43, g_0_1, g_0_0, k_6, l_49, li_0, li_1, ob2, iI_add, Option.bind_some, iI_le, if_neg c, x49, iI_eq, if_neg a]
      · by_cases ej : j = q
        · subst ej; exact absurd e a
        · exact inv j j0 (by omega) e
def GvP (C : Int → Int → Bool) (N c : Int) (p : Int) (nm nm' : Int → Int) (b : Bool) : Prop := RgF nm' ∧ (∀ q, 0 ≤ q → q < p → nm' q = nm q) ∧ (b = true → ∀ i, p ≤ i → i < N → (((0 ≤ nm' i ∧ nm' i < c) ∧ nm' i ≤ i) ∧ okP C nm' i (nm' i)) ∧ ∀ n, 0 ≤ n → n < nm' i → ¬ (okP C nm' i n ∧ Ext C N c (upi nm' i n) (i + 1))) ∧ (b = false → ¬ Ext C N c nm p)
theorem e_give {f0 : Nat} {Y : YS} {X : XS} {S : Int → Int} (g : GY Y) (W : WF X) (hC : CSea X 0) (e0 : XR X 25 0 0 = S 0) (hP : PostR X S) {c : Int} (c0' : 0 ≤ c) (c8 : c ≤ 8) (hf : 20 ≤ f0) : ∀ (d : Nat) (p u : Int) (nm : Int → Int), S 0 - p < (d : Int) → 0 ≤ p → p ≤ S 0 → 0 ≤ u → u ≤ p → RgF nm → (∀ q, 0 ≤ q → q < p → 0 ≤ nm q ∧ nm q < u) → ∃ nm' b, GvP (cfl (XR X 67 0)) (S 0) c p nm nm' b ∧ rX0 f0 d 0 (Ad Y 0 0) (iI p) (iI u) (iI c) (hp Y (sR X 49 0 nm)) = some (iI (b01 b), hp Y (sR X 49 0 nm'))
  | 0, p, u, nm, h1, _, h3, _, _, _, _ => by omega
  | d + 1, p, u, nm, h1, p0, pN, u0, up, rn, hn => by
    have g6 := SeO_0 g
    have s8 := hC.1
    have y25 : ∀ nm, XR (sR X 49 0 nm) 25 0 = XR X 25 0 := fun nm => rfl
    have st : rX0 f0 (d + 1) 0 (Ad Y 0 0) (iI p) (iI u) (iI c) (hp Y (sR X 49 0 nm)) = fX0_giveFrom f0 (rX0 f0 d) (Ad Y 0 0) (iI p) (iI u) (iI c) (hp Y (sR X 49 0 nm)) := by
      rw [rX0, if_pos rfl]
    rw [st]
    by_cases a : p < S 0
    · have lop : ∃ nm' b, GvP (cfl (XR X 67 0)) (S 0) c p nm nm' b ∧ bX0_giveFrom_18 f0 (rX0 f0 d) f0 (Ad Y 0 0) (iI p) (iI u) (iI c) (iI 0) (hp Y (sR X 49 0 nm)) = some (iI (b01 b), hp Y (sR X 49 0 nm')) := by
        refine lp (fun f (z : Int × (Int → Int)) => bX0_giveFrom_18 f0 (rX0 f0 d) f (Ad Y 0 0) (iI p) (iI u) (iI c) (iI z.1) (hp Y (sR X 49 0 z.2))) (fun z => (0 ≤ z.1 ∧ z.1 ≤ 9) ∧ RgF z.2 ∧ (∀ q, 0 ≤ q → q < p → z.2 q = nm q) ∧ ∀ n', 0 ≤ n' → n' < z.1 → ¬ (okP (cfl (XR X 67 0)) nm p n' ∧ Ext (cfl (XR X 67 0)) (S 0) c (upi nm p n') (p + 1))) (fun z => (10 - z.1).toNat) (fun r => ∃ nm' b, GvP (cfl (XR X 67 0)) (S 0) c p nm nm' b ∧ r = some (iI (b01 b), hp Y (sR X 49 0 nm'))) ?_ f0 (0, nm) ⟨⟨by simp only; omega, by simp only; omega⟩, rn, fun q _ _ => rfl, fun n' h1 h2 => by simp only at h2; omega⟩ (by simp only; omega)
        intro f ⟨n, m⟩ ⟨⟨n0, n9⟩, rm, pre, inv⟩
        simp only at n0 n9 rm pre inv ⊢
        by_cases k1 : u < n
        · left
          refine ⟨m, false, ⟨rm, pre, fun w => absurd w (by decide), fun _ => no_ext a hn u0 (.inl k1) inv⟩, ?_⟩
          simp (disch := first | assumption | omega) only [bX0_giveFrom_18, g_0_1, k_0, s_49, li_0, li_1, ob2, iI_add, Option.bind_some, iI_lt, if_pos k1, zr_i0]
          rfl
        · by_cases k2 : c ≤ n
          · left
            refine ⟨m, false, ⟨rm, pre, fun w => absurd w (by decide), fun _ => no_ext a hn u0 (.inr k2) inv⟩, ?_⟩
            simp (disch := first | assumption | omega) only [bX0_giveFrom_18, g_0_1, k_0, s_49, li_0, li_1, ob2, iI_add, Option.bind_some, iI_lt, iI_le, if_neg k1, if_pos k2, zr_i0]
            rfl
          · obtain ⟨b, hb, ef⟩ := e_isFree (f0 := f0) g W hC e0 hP rm (p := p) (n := n) p0 a ⟨by omega, by omega⟩ hf
            have okm : okP (cfl (XR X 67 0)) m p n ↔ okP (cfl (XR X 67 0)) nm p n := okP_c pre
            cases b with
            | false =>
              right
              have no : ¬ okP (cfl (XR X 67 0)) nm p n := fun w => by have := hb.mpr (okm.mpr w); exact absurd this (by decide)
              refine ⟨(n + 1, m), ?_, ⟨⟨by simp only; omega, by simp only; omega⟩, rm, pre, fun n' a0 a1 w => ?_⟩, by simp only; omega⟩
              · have z0 : (b01 false) = 0 := rfl
                simp (disch := first | assumption | omega) only [bX0_giveFrom_18, bX0_giveFrom_72, g_0_1, k_0, s_49, li_0, li_1, ob2, iI_add, Option.bind_some, iI_lt, iI_le, if_neg k1, if_neg k2, ef, z0, if_true]
              · simp only at a1
                by_cases en : n' = n
                · subst en; exact no w.1
                · exact inv n' a0 (by omega) w
            | true =>
              have ok : okP (cfl (XR X 67 0)) nm p n := okm.mp (hb.mp rfl)
              obtain ⟨u', hu'⟩ : ∃ u', u' = if u < n + 1 then n + 1 else u := ⟨_, rfl⟩
              have u'b : u ≤ u' ∧ n + 1 ≤ u' ∧ u' ≤ p + 1 := by rw [hu']; split <;> omega
              obtain ⟨m', b', gv, er⟩ := e_give (S := S) g W hC e0 hP c0' c8 hf d (p + 1) u' (upi m p n) (by omega) (by omega) (by omega) (by omega) (by omega) (RgF_u rm (by omega) (by omega)) (fun q q0 q1 => by
                by_cases eq : q = p
                · subst eq; rw [upi_eq]; omega
                · rw [upi_ne _ _ eq, pre q q0 (by omega)]; have := hn q q0 (by omega); omega)
              obtain ⟨g1, g2, g3, g4⟩ := gv
              have z1 : (b01 true) = 1 := rfl
              have n10 : ¬ (1 : Int) = 0 := by decide
              have iu2 : (if u < n + 1 then iI (n + 1) else iI u) = iI u' := by rw [hu']; split <;> rfl
              have pe : ∀ q, 0 ≤ q → q < p → m' q = nm q := fun q q0 q1 => by rw [g2 q q0 (by omega), upi_ne _ _ (by omega), pre q q0 q1]
              have mp : m' p = n := by rw [g2 p p0 (by omega), upi_eq]
              cases b' with
              | false =>
                right
                refine ⟨(n + 1, m'), ?_, ⟨⟨by simp only; omega, by simp only; omega⟩, g1, pe, fun n' a0 a1 w => ?_⟩, by simp only; omega⟩
                · have z0 : (b01 false) = 0 := rfl
                  simp (disch := first | assumption | omega) only [bX0_giveFrom_18, bX0_giveFrom_72, g_0_1, k_0, s_49, li_0, li_1, ob2, iI_add, Option.bind_some, iI_lt, iI_le, if_neg k1, if_neg k2, ef, z1, iI_eq, if_neg n10, x49, s49, iu2, er, z0, if_true]
                · simp only at a1
                  by_cases en : n' = n
                  · subst en
                    refine g4 rfl (Ext_c (fun q q0 q1 => ?_) w.2)
                    by_cases eq : q = p
                    · subst eq; rw [upi_eq, upi_eq]
                    · rw [upi_ne _ _ eq, upi_ne _ _ eq, pre q q0 (by omega)]
                  · exact inv n' a0 (by omega) w
              | true =>
                left
                refine ⟨m', true, ⟨g1, pe, fun _ i i0 i1 => ?_, fun w => absurd w (by decide)⟩, ?_⟩
                · by_cases ei : i = p
                  · subst ei
                    rw [mp]
                    refine ⟨⟨⟨⟨n0, by omega⟩, by omega⟩, (okP_c pe).mpr ok⟩, fun n' a0 a1 w => inv n' a0 a1 ⟨(okP_c pe).mp w.1, Ext_c (fun q q0 q1 => ?_) w.2⟩⟩
                    by_cases eq : q = i
                    · subst eq; rw [upi_eq, upi_eq]
                    · rw [upi_ne _ _ eq, upi_ne _ _ eq, pe q q0 (by omega)]
                  · exact g3 rfl i (by omega) i1
                · simp (disch := first | assumption | omega) only [bX0_giveFrom_18, bX0_giveFrom_72, g_0_1, k_0, s_49, li_0, li_1, ob2, iI_add, Option.bind_some, iI_lt, iI_le, if_neg k1, if_neg k2, ef, z1, iI_eq, if_neg n10, x49, s49, iu2, er, zr_i1]
      obtain ⟨nm', b, h1, h2⟩ := lop
      refine ⟨nm', b, h1, ?_⟩
      have a' : p < XR X 25 0 0 := by omega
      simp (disch := first | assumption | omega) only [fX0_giveFrom, g_0_0, g_6_1, l_25, li_0, li_1, Option.bind_some, iI_add, y25, iI_lt, if_pos a', h2]
    · have a' : ¬ p < XR X 25 0 0 := by omega
      refine ⟨nm, true, ⟨rn, fun q _ _ => rfl, fun _ i i0 i1 => by omega, fun w => absurd w (by decide)⟩, ?_⟩
      simp (disch := first | assumption | omega) only [fX0_giveFrom, g_0_0, g_6_1, l_25, li_0, li_1, Option.bind_some, iI_add, y25, iI_lt, if_neg a', zr_i1]
      rfl
theorem e_fewest {f0 : Nat} {Y : YS} {X : XS} {S nm : Int → Int} (g : GY Y) (W : WF X) (hC : CSea X 0) (e0 : XR X 25 0 0 = S 0) (hP : PostR X S) (rn : RgF nm) (hf : 20 ≤ f0) : ∃ nm' v, RgF nm' ∧ (0 ≤ v ∧ v ≤ S 0) ∧ (∀ c, 0 ≤ c → c < v → ¬ Ext (cfl (XR X 67 0)) (S 0) c nm 0) ∧ LF (cfl (XR X 67 0)) (S 0) v nm' ∧ fX0_fewest f0 (Ad Y 0 0) (hp Y (sR X 49 0 nm)) = some (iI v, hp Y (sR X 49 0 nm')) := by
  have g6 := SeO_0 g
  have s8 := hC.1
  have y25 : ∀ nm, XR (sR X 49 0 nm) 25 0 = XR X 25 0 := fun nm => rfl
  refine lp (fun f (z : Int × (Int → Int)) => bX0_fewest_2 f0 f (Ad Y 0 0) (iI z.1) (hp Y (sR X 49 0 z.2))) (fun z => (0 ≤ z.1 ∧ z.1 ≤ S 0) ∧ RgF z.2 ∧ ∀ c, 0 ≤ c → c < z.1 → ¬ Ext (cfl (XR X 67 0)) (S 0) c nm 0) (fun z => (10 - z.1).toNat) (fun r => ∃ nm' v, RgF nm' ∧ (0 ≤ v ∧ v ≤ S 0) ∧ (∀ c, 0 ≤ c → c < v → ¬ Ext (cfl (XR X 67 0)) (S 0) c nm 0) ∧ LF (cfl (XR X 67 0)) (S 0) v nm' ∧ r = some (iI v, hp Y (sR X 49 0 nm'))) ?_ f0 (0, nm) ⟨⟨by simp only; omega, by simp only; omega⟩, rn, fun c h1 h2 => by simp only at h2; omega⟩ (by simp only; omega)
  intro f ⟨c, m⟩ ⟨⟨c0, cN⟩, rm, inv⟩
  simp only at c0 cN rm inv ⊢
  by_cases a : XR X 25 0 0 ≤ c
  · left
    obtain ⟨m', b, ⟨g1, g2, g3, g4⟩, er⟩ := e_give (S := S) g W hC e0 hP (c := 8) (by omega) (by omega) hf 20 0 0 m (by omega) (by omega) (by omega) (by omega) (by omega) rm (fun q q0 q1 => by omega)
    have bt : b = true := by
      cases b
      · exact absurd (Ext_m (by omega) Ext_all) (g4 rfl)
      · rfl
    subst bt
    refine ⟨m', c, g1, ⟨c0, cN⟩, inv, fun i i0 i1 => ?_, ?_⟩
    · obtain ⟨h1, h2⟩ := g3 rfl i i0 i1
      exact ⟨⟨⟨h1.1.1.1, by have := h1.1.2; omega⟩, h1.2⟩, fun n n0 n1 w => h2 n n0 n1 ⟨w.1, Ext_m (by omega) w.2⟩⟩
    · simp (disch := first | assumption | omega) only [bX0_fewest_2, g_0_0, g_6_1, k_0, l_25, li_0, li_1, li_20, li_8, ob2, iI_add, Option.bind_some, y25, iI_le, if_pos a, er]
      rw [show XR X 25 0 0 = c by omega]
  · obtain ⟨m', b, ⟨g1, g2, g3, g4⟩, er⟩ := e_give (S := S) g W hC e0 hP (c := c) (by omega) (by omega) hf 20 0 0 m (by omega) (by omega) (by omega) (by omega) (by omega) rm (fun q q0 q1 => by omega)
    cases b with
    | false =>
      right
      have z0 : (b01 false) = 0 := rfl
      refine ⟨(c + 1, m'), ?_, ⟨⟨by simp only; omega, by simp only; omega⟩, g1, fun c' a0 a1 w => ?_⟩, by simp only; omega⟩
      · simp (disch := first | assumption | omega) only [bX0_fewest_2, g_0_0, g_6_1, k_0, l_25, li_0, li_1, li_20, li_8, ob2, iI_add, Option.bind_some, y25, iI_le, if_neg a, er, z0, if_true]
      · simp only at a1
        by_cases ec : c' = c
        · subst ec; exact g4 rfl (Ext_c (fun q q0 q1 => by omega) w)
        · exact inv c' a0 (by omega) w
    | true =>
      left
      have z1 : (b01 true) = 1 := rfl
      have n10 : ¬ (1 : Int) = 0 := by decide
      refine ⟨m', c, g1, ⟨c0, cN⟩, inv, fun i i0 i1 => ?_, ?_⟩
      · obtain ⟨h1, h2⟩ := g3 rfl i i0 i1
        exact ⟨⟨h1.1.1, h1.2⟩, h2⟩
      · simp (disch := first | assumption | omega) only [bX0_fewest_2, g_0_0, g_6_1, k_0, l_25, li_0, li_1, li_20, li_8, ob2, iI_add, Option.bind_some, y25, iI_le, if_neg a, er, z1, iI_eq, if_neg n10]
