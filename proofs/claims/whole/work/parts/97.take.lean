/-! A NAME, A NUMBER, A SIGN, THE END: here and there -/
def LkZ (X Z : XS) (j : Nat) (S : Int → Int) (o : Int) : Prop := WF Z ∧ TokR X Z ∧ RsR Z ∧ NamI (XJ X 22 j) (XR X 23 j) (XR X 24 j) (XF X 3 j 3) S (fun i => XJ Z 64 0 (o + i)) ∧ (∀ s, isN s → 0 ≤ ncS S s ∧ ncS S s ≤ 8) ∧ 0 ≤ o ∧ o ≤ 30
theorem j_look {f0 : Nat} {Y : YS} {X : XS} {j : Nat} (g : SeO Y j) (W : WF X) (c : TokC X) (rs : RsC X) {s : Int} (n : NmS X j s) (hs : isN s) (hf : 200 ≤ f0) : ∃ v X', fX4_look f0 (Ad Y 4 0) (Ad Y 3 j) (iI s) (hp Y X) = some (iI v, hp Y X') ∧ ((v = -1 ∧ WF X' ∧ FrC X X' ∧ FaC X' ∧ ∀ Z S o b, LkZ X Z j S o → b = o + nbS s → ∃ Z', fX12_looksAt f0 (Ad Y 12 0) (iI b) (iI (ncS S s)) (hp Y Z) = some (0, hp Y Z') ∧ WF Z' ∧ FrR Z Z' ∧ FaR X' Z') ∨ ((0 ≤ v ∧ v < XR X 25 j s) ∧ X' = X ∧ XF X 4 0 5 = 1 ∧ XF X 4 0 8 = -1 ∧ ∀ Z S o b, LkZ X Z j S o → b = o + nbS s → (0 ≤ v ∧ v < ncS S s) ∧ fX12_looksAt f0 (Ad Y 12 0) (iI b) (iI (ncS S s)) (hp Y Z) = some (1, hp Y (sF Z 12 0 18 v)))) := by
  obtain ⟨v, X', e, h, hh⟩ := e_look (f0 := f0) g W c n hs hf
  refine ⟨v, X', e, ?_⟩
  rcases h with ⟨v1, k, k1, k2, k3, k4, k5⟩ | ⟨v0, v1, e1, q1, q2⟩
  · left
    have rc := rf_C W c (k := k) k2 k3
    refine ⟨v1, by rw [k1]; exact rc.1, by rw [k1]; exact rc.2.1, by rw [k1]; exact rc.2.2, fun Z S o b hz hb => ?_⟩
    obtain ⟨WZ, r, rz, hn, nc, o0, o1⟩ := hz
    have L := r_look (f0 := f0) (Y := Y) g.1 WZ c r rs rz hn o0 o1 hs (nc s hs) hh hb hf
    by_cases q : XF X 4 0 5 = 1 ∧ XF X 4 0 8 = -1
    · obtain ⟨Z', l1, l2, l3, l4⟩ := L.2.1 q v1
      exact ⟨Z', l1, l2, l3, by rw [k1, k4 q]; exact l4⟩
    · have rr := rf_R WZ c r (k := 1) (by omega) (by omega)
      exact ⟨_, L.1 q, rr.1, rr.2.1, by rw [k1, k5 q]; exact rr.2.2⟩
  · right
    refine ⟨⟨v0, v1⟩, e1, q1, q2, fun Z S o b hz hb => ?_⟩
    obtain ⟨WZ, r, rz, hn, nc, o0, o1⟩ := hz
    have L := r_look (f0 := f0) (Y := Y) g.1 WZ c r rs rz hn o0 o1 hs (nc s hs) hh hb hf
    exact L.2.2 ⟨q1, q2⟩ (by omega)
theorem r_isIn9 {f0 : Nat} {h : Hp} {a b c : Int} (ha : Rg a) (hb : Rg b) (hc : Rg c) : fX12_isIn f0 (iI a) (iI b) (iI c) h = some (bI (b ≤ a ∧ a ≤ c), h) := by
  have a1 := ha.1; have a2 := ha.2; have b1 := hb.1; have b2 := hb.2; have c1 := hc.1; have c2 := hc.2
  simp (disch := omega) only [fX12_isIn, li_0, li_1, Option.bind_some, iI_add, iI_lt]
  (repeat' split) <;> first | (rw [zr_i0, bI_F (by omega)]) | (rw [zr_i1, bI_T (by omega)])
theorem j_num {f0 : Nat} {Y : YS} {X : XS} (g : GY Y) (W : WF X) (c : TokC X) {lo hi : Int} (l0 : 0 ≤ lo) (h9 : hi ≤ 999) (lh : lo ≤ hi) : ∃ v X', fX4_lookNumber f0 (Ad Y 4 0) (iI lo) (iI hi) (hp Y X) = some (iI v, hp Y X') ∧ ((v = -1 ∧ WF X' ∧ FrC X X' ∧ FaC X' ∧ (XF X 4 0 5 = 2 → ¬ (lo ≤ XF X 4 0 9 ∧ XF X 4 0 9 ≤ hi) ∧ X' = rfC X 2) ∧ (XF X 4 0 5 ≠ 2 → X' = rfC X 1) ∧ ∀ Z, WF Z → TokR X Z → ∃ Z', fX12_takes f0 (Ad Y 12 0) (iI lo) (iI hi) (hp Y Z) = some (0, hp Y Z') ∧ WF Z' ∧ FrR Z Z' ∧ FaR X' Z') ∨ ((lo ≤ v ∧ v ≤ hi) ∧ X' = X ∧ XF X 4 0 5 = 2 ∧ XF X 4 0 9 = v ∧ ∀ Z, WF Z → TokR X Z → fX12_takes f0 (Ad Y 12 0) (iI lo) (iI hi) (hp Y Z) = (fX12_next f0 (Ad Y 12 0) (hp Y (sF Z 12 0 18 v))).bind fun h => zr 1 h)) := by
  have sr := so_rg c
  by_cases q : XF X 4 0 5 = 2
  · have vr : 0 ≤ XF X 4 0 9 ∧ XF X 4 0 9 ≤ 999 := by
      rcases c.2.2.2.2 with k | k | k | k | k
      · omega
      · omega
      · exact k.2.2
      · omega
      · have := k.1; omega
    by_cases i : lo ≤ XF X 4 0 9 ∧ XF X 4 0 9 ≤ hi
    · have i1 : ¬ XF X 4 0 9 < lo := by omega
      have i2 := i.2
      refine ⟨XF X 4 0 9, X, ?_, .inr ⟨i, rfl, q, rfl, fun Z WZ r => ?_⟩⟩
      · simp (disch := first | assumption | omega) only [fX4_lookNumber, g_4_5, g_4_9, k_4, lm_1, li_2, li_1, ob2, Option.bind_some, iI_add, iI_neg, iI_eq, if_pos q, iI_lt, if_neg i1, iI_le, if_pos i2]
      · have t := r.2.2.2.2.2.1 q
        have t1 := t.1
        simp (disch := first | assumption | omega) only [fX12_takes, g_12_11, g_12_14, p_12_18, k_12, li_2, li_0, li_1, ob2, Option.bind_some, iI_add, iI_eq, if_pos t1, t.2, r_isIn9 (show Rg (XF X 4 0 9) from ⟨by omega, by omega⟩) (show Rg lo from ⟨by omega, by omega⟩) (show Rg hi from ⟨by omega, by omega⟩), bI_i0, ite_n, if_pos i]
    · have rc := rf_C W c (k := 2) (by omega) (by omega)
      refine ⟨-1, rfC X 2, ?_, .inl ⟨rfl, rc.1, rc.2.1, rc.2.2, fun _ => ⟨i, rfl⟩, fun z => absurd q z, fun Z WZ r => ?_⟩⟩
      · by_cases i1 : XF X 4 0 9 < lo
        · simp (disch := first | assumption | omega) only [fX4_lookNumber, bX4_lookNumber_32, g_4_5, g_4_9, k_4, lm_1, li_2, li_1, ob2, Option.bind_some, iI_add, iI_neg, iI_eq, if_pos q, iI_lt, if_pos i1, e_refuse g, iI_neg]
        · have i2 : ¬ XF X 4 0 9 ≤ hi := by omega
          simp (disch := first | assumption | omega) only [fX4_lookNumber, bX4_lookNumber_32, g_4_5, g_4_9, k_4, lm_1, li_2, li_1, ob2, Option.bind_some, iI_add, iI_neg, iI_eq, if_pos q, iI_lt, if_neg i1, iI_le, if_neg i2, e_refuse g, iI_neg]
      · have t := r.2.2.2.2.2.1 q
        have t1 := t.1
        have rr := rf_R WZ c r (k := 2) (by omega) (by omega)
        refine ⟨_, ?_, rr⟩
        simp (disch := first | assumption | omega) only [fX12_takes, g_12_11, g_12_14, p_12_18, k_12, li_2, li_0, li_1, ob2, Option.bind_some, iI_add, iI_eq, if_pos t1, t.2, r_isIn9 (show Rg (XF X 4 0 9) from ⟨by omega, by omega⟩) (show Rg lo from ⟨by omega, by omega⟩) (show Rg hi from ⟨by omega, by omega⟩), bI_i0, ite_n, if_neg i, r_bad g]
        exact zr_i0
  · have rc := rf_C W c (k := 1) (by omega) (by omega)
    refine ⟨-1, rfC X 1, ?_, .inl ⟨rfl, rc.1, rc.2.1, rc.2.2, fun z => absurd z q, fun _ => rfl, fun Z WZ r => ?_⟩⟩
    · simp (disch := first | assumption | omega) only [fX4_lookNumber, g_4_5, g_4_9, k_4, lm_1, li_2, li_1, ob2, Option.bind_some, iI_add, iI_neg, iI_eq, if_neg q, e_refuse g, iI_neg]
    · have t1 : ¬ XF Z 12 0 11 = 2 := by rw [tk_2 c r]; exact q
      have w1 := W_fl WZ 12 0 11; have w2 := W_fh WZ 12 0 11
      have rr := rf_R WZ c r (k := 1) (by omega) (by omega)
      refine ⟨_, ?_, rr⟩
      simp (disch := first | assumption | omega) only [fX12_takes, g_12_11, g_12_14, p_12_18, k_12, li_2, li_0, li_1, ob2, Option.bind_some, iI_add, iI_eq, if_neg t1, r_bad g]
      exact zr_i0
theorem j_sign {f0 : Nat} {Y : YS} {X : XS} (g : GY Y) (W : WF X) (c : TokC X) {s : Int} (hs : tS s) (hf : 2000 ≤ f0) : ∃ X', (XF X 4 0 5 = s ∧ fX4_passSign f0 (Ad Y 4 0) (iI s) (hp Y X) = some (1, hp Y X') ∧ RdF X X' ∧ WF X' ∧ TokC X' ∧ XF X 4 0 6 < XF X' 4 0 6 ∧ ∀ Z, WF Z → TokR X Z → ∃ Z', fX12_sign f0 (Ad Y 12 0) (iI s) (hp Y Z) = some (1, hp Y Z') ∧ NxF Z Z' ∧ WF Z' ∧ TokR X' Z') ∨ (XF X 4 0 5 ≠ s ∧ fX4_passSign f0 (Ad Y 4 0) (iI s) (hp Y X) = some (0, hp Y X') ∧ WF X' ∧ FrC X X' ∧ FaC X' ∧ ∀ Z, WF Z → TokR X Z → ∃ Z', fX12_sign f0 (Ad Y 12 0) (iI s) (hp Y Z) = some (0, hp Y Z') ∧ WF Z' ∧ FrR Z Z' ∧ FaR X' Z') := by
  have sr := so_rg c
  by_cases q : XF X 4 0 5 = s
  · obtain ⟨X', e1, r, W', t, lt, k⟩ := j_step (f0 := f0) g W c (by omega) hf
    refine ⟨X', .inl ⟨q, ?_, r, W', t, lt, fun Z WZ rr => ?_⟩⟩
    · simp (disch := first | assumption | omega) only [fX4_passSign, g_4_5, k_4, li_1, ob2, Option.bind_some, iI_add, iI_eq, if_pos q, e1]
      exact zr_i1
    · obtain ⟨Z', l1, l2, l3, l4⟩ := k Z WZ rr
      refine ⟨Z', ?_, l2, l3, l4⟩
      simp (disch := first | assumption | omega) only [fX12_sign, k_12, li_0, li_1, ob2, Option.bind_some, iI_add, r_isSign g WZ c rr hs, bI_i0, ite_n, if_pos q, l1]
      exact zr_i1
  · have rc := rf_C W c (k := 1) (by omega) (by omega)
    refine ⟨rfC X 1, .inr ⟨q, ?_, rc.1, rc.2.1, rc.2.2, fun Z WZ r => ?_⟩⟩
    · simp (disch := first | assumption | omega) only [fX4_passSign, g_4_5, k_4, li_1, ob2, Option.bind_some, iI_add, iI_eq, if_neg q, e_refuse g]
      exact zr_i0
    · have rr := rf_R WZ c r (k := 1) (by omega) (by omega)
      refine ⟨_, ?_, rr⟩
      simp (disch := first | assumption | omega) only [fX12_sign, k_12, li_0, li_1, ob2, Option.bind_some, iI_add, r_isSign g WZ c r hs, bI_i0, ite_n, if_neg q, r_bad g]
      exact zr_i0
theorem e_passEnd {f0 : Nat} {Y : YS} {X : XS} (g : GY Y) (W : WF X) (c : TokC X) : (XF X 4 0 5 = 0 ∧ XF X 4 0 2 = XF X 4 0 3 → fX4_passEnd f0 (Ad Y 4 0) (hp Y X) = some (1, hp Y X)) ∧ (¬ (XF X 4 0 5 = 0 ∧ XF X 4 0 2 = XF X 4 0 3) → fX4_passEnd f0 (Ad Y 4 0) (hp Y X) = some (0, hp Y (rfC X 1))) := by
  have sr := so_rg c
  have b := c.1.2
  refine ⟨fun q => ?_, fun q => ?_⟩
  · have q1 := q.1; have q2 := q.2
    simp (disch := first | assumption | omega) only [fX4_passEnd, bX4_passEnd_26, g_4_5, g_4_2, g_4_3, li_0, li_1, Option.bind_some, iI_add, iI_eq, if_pos q1, if_pos q2]
    exact zr_i1
  · by_cases q1 : XF X 4 0 5 = 0
    · have q2 : ¬ XF X 4 0 2 = XF X 4 0 3 := fun z => q ⟨q1, z⟩
      simp (disch := first | assumption | omega) only [fX4_passEnd, bX4_passEnd_18, g_4_5, g_4_2, g_4_3, li_0, k_4, li_1, ob2, Option.bind_some, iI_add, iI_eq, if_pos q1, if_neg q2, e_refuse g]
      rw [if_pos trivial]; exact zr_i0
    · simp (disch := first | assumption | omega) only [fX4_passEnd, bX4_passEnd_18, g_4_5, g_4_2, g_4_3, li_0, k_4, li_1, ob2, Option.bind_some, iI_add, iI_eq, if_neg q1, e_refuse g]
      rw [if_pos trivial]; exact zr_i0
