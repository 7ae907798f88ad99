/-! over, mixed, AS CALLS -/
theorem r_grt {f0 : Nat} {h : Hp} {a b : Int} (ha : Rg a) (hb : Rg b) : fX12_greater f0 (iI a) (iI b) h = some (iI (if b < a then a else b), h) := by
  have a1 := ha.1; have a2 := ha.2; have b1 := hb.1; have b2 := hb.2
  simp (disch := omega) only [fX12_greater, Option.bind_some, iI_add, iI_lt, iI_le]
  (repeat' split) <;> first | rfl | (exfalso; omega) | (congr 2; congr 1; omega)
theorem e_wordOf {f0 : Nat} {Y : YS} {X : XS} {S : Int → Int} {nm : Int → Int64} (g : GY Y) (W : WF X) (hN : NamX X 0 S nm) (n30 : XF X 3 0 3 ≤ 30) {s : Int} (s0 : 0 ≤ s) (s1 : s < S 1) (s8 : s < 8) (hf : 200 ≤ f0) : ∃ x, fX3_wordOf f0 (Ad Y 3 0) (iI 3) (iI s) (hp Y X) = some (x, hp Y X) ∧ WR x (nm (8 + s)) := by
  have g0 := SeO_0 g
  obtain ⟨h1, h2, h3, h4⟩ := hN
  obtain ⟨j, j0, j1, j2, j3⟩ := h3 3 s (.inr (.inl rfl)) s0 s1
  have z : fX3_wordOf f0 (Ad Y 3 0) (iI 3) (iI s) (hp Y X) = bX3_wordOf_2 f0 f0 (Ad Y 3 0) (iI 3) (iI s) (iI 0) (hp Y X) := rfl
  rw [z]
  refine lp (fun f (i : Int) => bX3_wordOf_2 f0 f (Ad Y 3 0) (iI 3) (iI s) (iI i) (hp Y X)) (fun i => 0 ≤ i ∧ i ≤ j) (fun i => (30 - i).toNat) (fun r => ∃ x, r = some (x, hp Y X) ∧ WR x (nm (8 + s))) ?_ f0 0 ⟨by omega, j0⟩ (by show (30 - (0 : Int)).toNat < f0; omega)
  rintro f i ⟨i0, i1⟩
  have c : ¬ XF X 3 0 3 ≤ i := by omega
  by_cases a : XR X 23 0 i = 3
  · by_cases b : XR X 24 0 i = s
    · left
      refine ⟨XJ X 22 0 i, ?_, ?_⟩
      · simp (disch := first | assumption | omega | exact W_fl W _ _ _ | exact W_fh W _ _ _ | exact W_rl W _ _ _ | exact W_rh W _ _ _) only [bX3_wordOf_2, g_3_3, g_3_1, g_3_2, g_3_0, l_22, l_23, l_24, li_0, li_1, iI_add, Option.bind_some, iI_le, if_neg c, iI_eq, if_pos a, if_pos b]
      · have q := (h2 i i0 (by omega)).2.2
        rw [a, b] at q; exact q
    · right
      have : i ≠ j := fun z => b (by rw [z]; exact j3)
      refine ⟨i + 1, ?_, ⟨by omega, by omega⟩, by show (30 - (i + 1)).toNat < (30 - i).toNat; omega⟩
      simp (disch := first | assumption | omega | exact W_fl W _ _ _ | exact W_fh W _ _ _ | exact W_rl W _ _ _ | exact W_rh W _ _ _) only [bX3_wordOf_2, bX3_wordOf_37, g_3_3, g_3_1, g_3_2, g_3_0, l_22, l_23, l_24, li_0, li_1, iI_add, Option.bind_some, iI_le, if_neg c, iI_eq, if_pos a, if_neg b]
  · right
    have : i ≠ j := fun z => a (by rw [z]; exact j2)
    refine ⟨i + 1, ?_, ⟨by omega, by omega⟩, by show (30 - (i + 1)).toNat < (30 - i).toNat; omega⟩
    simp (disch := first | assumption | omega | exact W_fl W _ _ _ | exact W_fh W _ _ _ | exact W_rl W _ _ _ | exact W_rh W _ _ _) only [bX3_wordOf_2, bX3_wordOf_37, g_3_3, g_3_1, g_3_2, g_3_0, l_22, l_23, l_24, li_0, li_1, iI_add, Option.bind_some, iI_le, if_neg c, iI_eq, if_neg a]
/-- the reference's mix, and its place -/
theorem r_mix {f0 : Nat} {Y : YS} {Z : XS} {b c : Nat → Nat} {n m : Nat} {s t : Int} (g : GY Y) (hn : n ≤ 7) (hm : m ≤ 7) (hb : isL b n) (hc : isL c m) (s0 : 0 ≤ s) (s8 : s < 8) (t0 : 0 ≤ t) (t8 : t < 8) (e1 : XJ Z 64 0 (8 + s) = jN (v8 b n)) (e2 : XJ Z 64 0 (8 + t) = jN (v8 c m)) (n1 : 0 ≤ XR Z 61 0 1) (n8 : XR Z 61 0 1 ≤ 8) (hf : 200 ≤ f0) : ∃ v, fX12_overOf f0 (Ad Y 12 0) (iI s) (iI t) (hp Y Z) = some (iI v, hp Y Z) ∧ ((v = -1 ∧ ∀ k, 0 ≤ k → k < XR Z 61 0 1 → XJ Z 64 0 (8 + k) ≠ jN (v8 (mxW b n c m) (mxN n m))) ∨ (0 ≤ v ∧ v < XR Z 61 0 1 ∧ XJ Z 64 0 (8 + v) = jN (v8 (mxW b n c m) (mxN n m)))) := by
  have f20 : 20 ≤ f0 := by omega
  have l1 := fun h => r_letters (f0 := f0) (h := h) hn hb f20
  have l2 := fun h => r_letters (f0 := f0) (h := h) hm hc f20
  have gN : ((if (m : Int) < (n : Int) then (n : Int) else (m : Int))) = ((mxN n m : Nat) : Int) := by unfold mxN; split <;> split <;> omega
  have N7 : mxN n m ≤ 7 := by unfold mxN; split <;> omega
  have z : fX12_overOf f0 (Ad Y 12 0) (iI s) (iI t) (hp Y Z) = bX12_overOf_41 f0 f0 (Ad Y 12 0) (jN (v8 b n)) (jN (v8 c m)) (iI ((mxN n m : Nat) : Int)) (jN (v8 (mxW b n c m) 0)) (iI ((0 : Nat) : Int)) (hp Y Z) := by
    have gr := r_grt (f0 := f0) (h := hp Y Z) (a := (n : Int)) (b := (m : Int)) ⟨by omega, by omega⟩ ⟨by omega, by omega⟩
    rw [gN] at gr
    simp (disch := first | assumption | omega) only [fX12_overOf, g_12_9, l_64, li_8, li_0, ob2, iI_add, Option.bind_some, e1, e2, l1, l2, gr]
    rfl
  rw [z]
  suffices H : ∃ v, bX12_overOf_117 f0 f0 (Ad Y 12 0) (jN (v8 (mxW b n c m) (mxN n m))) (iI 0) (hp Y Z) = some (iI v, hp Y Z) ∧ ((v = -1 ∧ ∀ k, 0 ≤ k → k < XR Z 61 0 1 → XJ Z 64 0 (8 + k) ≠ jN (v8 (mxW b n c m) (mxN n m))) ∨ (0 ≤ v ∧ v < XR Z 61 0 1 ∧ XJ Z 64 0 (8 + v) = jN (v8 (mxW b n c m) (mxN n m)))) by
    obtain ⟨v, h1, h2⟩ := H
    refine ⟨v, ?_, h2⟩
    rw [← h1]
    refine lp (fun f (k : Nat) => bX12_overOf_41 f0 f (Ad Y 12 0) (jN (v8 b n)) (jN (v8 c m)) (iI ((mxN n m : Nat) : Int)) (jN (v8 (mxW b n c m) k)) (iI (k : Int)) (hp Y Z)) (fun k => k ≤ mxN n m) (fun k => 8 - k) (fun z => z = _) ?_ f0 0 (by omega) (by omega)
    intro f k hk
    by_cases q : ((mxN n m : Nat) : Int) ≤ (k : Int)
    · left
      simp (disch := first | assumption | omega) only [bX12_overOf_41, li_0, li_1, ob2, iI_add, Option.bind_some, iI_le, if_pos q]
      rw [show k = mxN n m by omega]
    · right
      refine ⟨k + 1, ?_, by omega, by omega⟩
      have isl := mx_isL hb hc k (by omega)
      have put := v8_put (b := mxW b n c m) (n := k) (by omega)
      have sh := jN_shl (a := v8 (mxW b n c m) k) (i := 8) (by decide)
      have sh' : jN (v8 (mxW b n c m) k) <<< (Int32.toInt64 (iI 8) &&& 63) = jN (v8 (mxW b n c m) k <<< 8) := sh
      have fin : ∀ x y : Int, Rg x → Rg y → (if y < x then x else y) = ((mxW b n c m k : Nat) : Int) → bX12_overOf_90 f0 (bX12_overOf_41 f0 f) (Ad Y 12 0) (jN (v8 b n)) (jN (v8 c m)) (iI ((mxN n m : Nat) : Int)) (jN (v8 (mxW b n c m) k)) (iI (k : Int)) (iI x) (iI y) (hp Y Z) = bX12_overOf_41 f0 f (Ad Y 12 0) (jN (v8 b n)) (jN (v8 c m)) (iI ((mxN n m : Nat) : Int)) (jN (v8 (mxW b n c m) (k + 1))) (iI ((k + 1 : Nat) : Int)) (hp Y Z) := fun x y hx hy e => by
        have gr := r_grt (f0 := f0) (h := hp Y Z) hx hy
        rw [e] at gr
        simp (disch := first | assumption | omega) only [bX12_overOf_90, li_8, li_63, li_1, ob2, iI_add, Option.bind_some, gr, sh', iI_64 (show mxW b n c m k < 2147483648 by omega), jN_or, put]
        rw [show (k : Int) + 1 = ((k + 1 : Nat) : Int) by omega]
      have hbk := fun q : k < n => hb k q
      have hck := fun q : k < m => hc k q
      by_cases k1 : k < n
      · have q1 : ¬ (n : Int) ≤ (k : Int) := by omega
        have b1 := hbk k1
        have la := r_letter (f0 := f0) (h := hp Y Z) hn hb k1 f20
        by_cases k2 : k < m
        · have q2 : ¬ (m : Int) ≤ (k : Int) := by omega
          have b2 := hck k2
          have lb := r_letter (f0 := f0) (h := hp Y Z) hm hc k2 f20
          rw [← fin (b k : Int) (c k : Int) ⟨by omega, by omega⟩ ⟨by omega, by omega⟩ (by unfold mxW mxL dg; rw [if_pos k1, if_pos k2]; split <;> split <;> omega)]
          simp (disch := first | assumption | omega) only [bX12_overOf_41, bX12_overOf_67, li_0, li_1, ob2, iI_add, Option.bind_some, iI_le, if_neg q, l1, if_neg q1, la, l2, if_neg q2, lb]
        · have q2 : (m : Int) ≤ (k : Int) := by omega
          rw [← fin (b k : Int) 0 ⟨by omega, by omega⟩ ⟨by decide, by decide⟩ (by unfold mxW mxL dg; rw [if_pos k1, if_neg k2]; split <;> split <;> omega)]
          simp (disch := first | assumption | omega) only [bX12_overOf_41, bX12_overOf_67, li_0, li_1, ob2, iI_add, Option.bind_some, iI_le, if_neg q, l1, if_neg q1, la, l2, if_pos q2]
      · have q1 : (n : Int) ≤ (k : Int) := by omega
        have k2 : k < m := by unfold mxN at hk q; split at q <;> omega
        have q2 : ¬ (m : Int) ≤ (k : Int) := by omega
        have b2 := hck k2
        have lb := r_letter (f0 := f0) (h := hp Y Z) hm hc k2 f20
        rw [← fin 0 (c k : Int) ⟨by decide, by decide⟩ ⟨by omega, by omega⟩ (by unfold mxW mxL dg; rw [if_neg k1, if_pos k2]; split <;> split <;> omega)]
        simp (disch := first | assumption | omega) only [bX12_overOf_41, bX12_overOf_67, li_0, li_1, ob2, iI_add, Option.bind_some, iI_le, if_neg q, l1, if_pos q1, l2, if_neg q2, lb]
  obtain ⟨w, hw⟩ : ∃ w, w = jN (v8 (mxW b n c m) (mxN n m)) := ⟨_, rfl⟩
  rw [← hw]
  refine lp (fun f (k : Int) => bX12_overOf_117 f0 f (Ad Y 12 0) w (iI k) (hp Y Z)) (fun k => (0 ≤ k ∧ k ≤ XR Z 61 0 1) ∧ ∀ j, 0 ≤ j → j < k → XJ Z 64 0 (8 + j) ≠ w) (fun k => (9 - k).toNat) (fun r => ∃ v, r = some (iI v, hp Y Z) ∧ ((v = -1 ∧ ∀ k, 0 ≤ k → k < XR Z 61 0 1 → XJ Z 64 0 (8 + k) ≠ w) ∨ (0 ≤ v ∧ v < XR Z 61 0 1 ∧ XJ Z 64 0 (8 + v) = w))) ?_ f0 0 ⟨⟨by omega, by omega⟩, fun j j0 j1 => by omega⟩ (by show (9 - (0 : Int)).toNat < f0; omega)
  rintro f k ⟨⟨k0, k1⟩, hk⟩
  by_cases q : XR Z 61 0 1 ≤ k
  · left
    refine ⟨-1, ?_, .inl ⟨rfl, fun j j0 j1 => hk j j0 (by omega)⟩⟩
    simp (disch := first | assumption | omega) only [bX12_overOf_117, g_12_6, g_12_9, l61, l_64, lm_1, li_0, li_1, li_8, iI_add, Option.bind_some, iI_neg, l_61, iI_le, if_pos q, iI_neg]
  · by_cases e : XJ Z 64 0 (8 + k) = w
    · left
      refine ⟨k, ?_, .inr ⟨k0, by omega, e⟩⟩
      simp (disch := first | assumption | omega) only [bX12_overOf_117, g_12_6, g_12_9, l61, l_64, lm_1, li_0, li_1, li_8, iI_add, Option.bind_some, iI_neg, l_61, iI_le, if_neg q, lg_eq, if_pos e]
    · right
      refine ⟨k + 1, ?_, ⟨⟨by omega, by omega⟩, fun j j0 j1 => ?_⟩, by show (9 - (k + 1)).toNat < (9 - k).toNat; omega⟩
      · simp (disch := first | assumption | omega) only [bX12_overOf_117, g_12_6, g_12_9, l61, l_64, lm_1, li_0, li_1, li_8, iI_add, Option.bind_some, iI_neg, l_61, iI_le, if_neg q, lg_eq, if_neg e]
      · by_cases z : j = k
        · rw [z]; exact e
        · exact hk j j0 (by omega)
theorem j_over {f0 : Nat} {Y : YS} {X : XS} (h : Inv Y X) {s t : Int} (s0 : 0 ≤ s) (s1 : s < XR X 25 0 3) (t0 : 0 ≤ t) (t1 : t < XR X 25 0 3) (hf : 200 ≤ f0) : ∃ v, (-1 ≤ v ∧ v < 8) ∧ fX6_shipOver f0 (Ad Y 6 0) (iI s) (iI t) (hp Y X) = some (iI v, hp Y X) ∧ fX12_overOf f0 (Ad Y 12 0) (iI s) (iI t) (hp Y (sF X 12 0 0 0)) = some (iI v, hp Y (sF X 12 0 0 0)) := by
  obtain ⟨gy, W, tp, re, fl, se, na, po, sh, sn, lo, im0, im1⟩ := h
  have g := gy.1
  have g0 := SeO_0 g
  have c3 := se.1.2.1; have e1 := se.2.1.1.2.1
  have n30 : XF X 3 0 3 ≤ 30 := by
    have a := na.1.2; have b := se.1; have e := se.2.1.1
    have b1 := b.1; have b2 := b.2.1; have b3 := b.2.2.1; have b4 := b.2.2.2.1
    omega
  obtain ⟨x, ex, n, b, n7, lb, x1, x2⟩ := e_wordOf (f0 := f0) g W na n30 s0 (by omega) (by omega) hf
  obtain ⟨y, ey, m, c, m7, lc, y1, y2⟩ := e_wordOf (f0 := f0) g W na n30 t0 (by omega) (by omega) hf
  obtain ⟨v, ev, hv⟩ := e_find (f0 := f0) g0 W ⟨na.1.1, n30⟩ (w := jN (v5 (mxW b n c m) 7)) (s := 3) ⟨by decide, by decide⟩ hf
  obtain ⟨v', er, hr⟩ := r_mix (f0 := f0) (Y := Y) (Z := sF X 12 0 0 0) g n7.2 m7.2 lb lc s0 (by omega) t0 (by omega) x2 y2 (by show 0 ≤ XR X 61 0 1; omega) (by show XR X 61 0 1 ≤ 8; omega) hf
  have vv : v' = v := nam_find na (mx_WR n7 m7 lb lc) (.inr (.inl rfl)) hv hr
  rw [vv] at er hr
  have vr : -1 ≤ v ∧ v < 8 := by
    rcases hr with ⟨a, _⟩ | ⟨a1, a2, _⟩
    · omega
    · have : v < XR X 61 0 1 := a2
      omega
  refine ⟨v, vr, ?_, er⟩
  have mx := e_mix (f0 := f0) (Y := Y) (X := X) g n7.2 m7.2 lb lc (by omega)
  rw [ev] at mx
  subst x1
  subst y1
  simp (disch := first | assumption | omega) only [fX6_shipOver, g_6_0, k_3, li_3, li_0, li_30, ob2, Option.bind_some, iI_add, ex, ey]
  exact mx
theorem op_over {f0 : Nat} {Y : YS} {X : XS} (h : Inv Y X) {s : Int} (rg_s : Rg s) {t : Int} (rg_t : Rg t) (hf : 200 ≤ f0) : ∃ v X1 X2, fX11_over f0 (Ad Y 11 0) (iI s) (iI t) (hp Y X) = some (v, hp Y X1) ∧ fX12_over f0 (Ad Y 12 0) (iI s) (iI t) (hp Y X1) = some (v, hp Y X2) ∧ Inv Y X2 := by
  have g := h.1.1; have W := h.2.1
  have se := h.2.2.2.2.2.1; have hC := se.1; have hR := se.2.1
  have g6 := SeO_0 g
  have c0 := hC.1; have c3 := hC.2.1; have c4 := hC.2.2.1; have c5 := hC.2.2.2.1
  have e0 := hR.1.1; have e1 := hR.1.2.1; have e2 := hR.1.2.2.1; have e3 := hR.1.2.2.2.1
  have sh := h.2.2.2.2.2.2.2.2.1
  have p0 := sh.1 0 (by omega)
  have gk0 := ShO_k g p0
  have cd := sh.2.2.2.1.1; have rl := sh.2.2.2.1.2
  have cs : CShip X (XP X 0) 0 := cd
  have sf := inv_S se cd rl
  have Ws : WS (XR X 61 0) := fun i => W.2 61 0 i
  have WA : WF (sF X 12 0 0 0) := W_F W (by decide) (by decide)
  have z := Z61 (Y := Y) (X := sF X 12 0 0 0) (S := XR X 61 0) rfl
  have hP := inv_PostR se h.2.2.2.2.2.2.2.1
  have th := Inv_th h (v := 0) ⟨by decide, by decide⟩
  have rz : Rg (0 : Int) := ⟨by decide, by decide⟩
  have s1 := rg_s.1; have s2 := rg_s.2; have t1 := rg_t.1; have t2 := rg_t.2
  by_cases a : 0 ≤ s ∧ s < XR X 25 0 3
  · have a' : 0 ≤ s ∧ s < XR X 61 0 1 := by omega
    by_cases b : 0 ≤ t ∧ t < XR X 25 0 3
    · have b' : 0 ≤ t ∧ t < XR X 61 0 1 := by omega
      by_cases e : s = t
      · refine ⟨iI (-1), X, sF X 12 0 0 0, ?_, ?_, th⟩
        · simp (disch := first | assumption | omega | exact W_fl W _ _ _ | exact W_fh W _ _ _ | exact W_rl W _ _ _ | exact W_rh W _ _ _ | exact WS_l Ws _ | exact WS_h Ws _) only [fX11_over, g_11_4, k_6, lm_1, li_3, li_0, li_1, ob2, Option.bind_some, iI_add, iI_neg, e_has, bI_i0, ite_n, if_pos a, if_pos b, iI_eq, if_pos e, iI_neg]
        · simp (disch := first | assumption | omega | exact W_fl W _ _ _ | exact W_fh W _ _ _ | exact W_rl W _ _ _ | exact W_rh W _ _ _ | exact WS_l Ws _ | exact WS_h Ws _) only [fX12_over, p_12_0, k_12, lm_1, li_0, li_1, ob2, Option.bind_some, iI_add, iI_neg, z, r_isShip, bI_i0, ite_n, if_pos a', if_pos b', iI_eq, if_pos e, iI_neg]
      · obtain ⟨v, vr, ev, er⟩ := j_over (f0 := f0) h a.1 a.2 b.1 b.2 hf
        rw [z] at er
        refine ⟨iI v, X, sF X 12 0 0 0, ?_, ?_, th⟩
        · simp (disch := first | assumption | omega | exact W_fl W _ _ _ | exact W_fh W _ _ _ | exact W_rl W _ _ _ | exact W_rh W _ _ _ | exact WS_l Ws _ | exact WS_h Ws _) only [fX11_over, g_11_4, k_6, lm_1, li_3, li_0, li_1, ob2, Option.bind_some, iI_add, iI_neg, e_has, bI_i0, ite_n, if_pos a, if_pos b, iI_eq, if_neg e, ev]
        · simp (disch := first | assumption | omega | exact W_fl W _ _ _ | exact W_fh W _ _ _ | exact W_rl W _ _ _ | exact W_rh W _ _ _ | exact WS_l Ws _ | exact WS_h Ws _) only [fX12_over, p_12_0, k_12, lm_1, li_0, li_1, ob2, Option.bind_some, iI_add, iI_neg, z, r_isShip, bI_i0, ite_n, if_pos a', if_pos b', iI_eq, if_neg e, er]
    · have b' : ¬ (0 ≤ t ∧ t < XR X 61 0 1) := by omega
      refine ⟨iI (-1), X, sF X 12 0 0 0, ?_, ?_, th⟩
      · simp (disch := first | assumption | omega | exact W_fl W _ _ _ | exact W_fh W _ _ _ | exact W_rl W _ _ _ | exact W_rh W _ _ _ | exact WS_l Ws _ | exact WS_h Ws _) only [fX11_over, g_11_4, k_6, lm_1, li_3, li_0, li_1, ob2, Option.bind_some, iI_add, iI_neg, e_has, bI_i0, ite_n, if_pos a, if_neg b, iI_neg]
      · simp (disch := first | assumption | omega | exact W_fl W _ _ _ | exact W_fh W _ _ _ | exact W_rl W _ _ _ | exact W_rh W _ _ _ | exact WS_l Ws _ | exact WS_h Ws _) only [fX12_over, p_12_0, k_12, lm_1, li_0, li_1, ob2, Option.bind_some, iI_add, iI_neg, z, r_isShip, bI_i0, ite_n, if_pos a', if_neg b', iI_neg]
  · have a' : ¬ (0 ≤ s ∧ s < XR X 61 0 1) := by omega
    refine ⟨iI (-1), X, sF X 12 0 0 0, ?_, ?_, th⟩
    · simp (disch := first | assumption | omega | exact W_fl W _ _ _ | exact W_fh W _ _ _ | exact W_rl W _ _ _ | exact W_rh W _ _ _ | exact WS_l Ws _ | exact WS_h Ws _) only [fX11_over, g_11_4, k_6, lm_1, li_3, li_0, li_1, ob2, Option.bind_some, iI_add, iI_neg, e_has, bI_i0, ite_n, if_neg a, iI_neg]
    · simp (disch := first | assumption | omega | exact W_fl W _ _ _ | exact W_fh W _ _ _ | exact W_rl W _ _ _ | exact W_rh W _ _ _ | exact WS_l Ws _ | exact WS_h Ws _) only [fX12_over, p_12_0, k_12, lm_1, li_0, li_1, ob2, Option.bind_some, iI_add, iI_neg, z, r_isShip, bI_i0, ite_n, if_neg a', iI_neg]
