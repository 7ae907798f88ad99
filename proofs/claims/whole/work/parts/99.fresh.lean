/-! A NEW NAME: the reference -/
theorem nam_back {w : Int → Int64} {so nu : Int → Int} {n : Int} {S : Int → Int} {nm : Int → Int64} (h : NamI w so nu n S nm) {x y : Int64} (hw : WR x y) {s k : Int} (hs : isN s) (k0 : 0 ≤ k) (k1 : k < ncS S s) (k2 : nm (nbS s + k) = y) : ∃ i, 0 ≤ i ∧ i < n ∧ so i = s ∧ nu i = k ∧ w i = x := by
  obtain ⟨h1, h2, h3, h4⟩ := h
  obtain ⟨i, i0, i1, i2, i3⟩ := h3 s k hs k0 k1
  have q := (h2 i i0 i1).2.2
  rw [i2, i3] at q
  exact ⟨i, i0, i1, i2, i3, (WR_eq q hw).mpr k2⟩
theorem r_fresh {f0 : Nat} {Y : YS} {X Z : XS} (g : GY Y) (W : WF Z) (c : TokC X) (r : TokR X Z) (rs : RsC X) (rz : RsR Z) (hn : NamI (XJ X 22 1) (XR X 23 1) (XR X 24 1) (XF X 3 1 3) (XR Z 62 0) (fun i => XJ Z 64 0 (30 + i))) (hm : ∀ s, isN s → 0 ≤ ncS (XR Z 62 0) s ∧ ncS (XR Z 62 0) s ≤ 8) {to : Int} (t0 : 30 ≤ to) (t1 : to < 60) (hf : 200 ≤ f0) :
    (¬ (XF X 4 0 5 = 1 ∧ XF X 4 0 8 = -1) → fX12_fresh f0 (Ad Y 12 0) (iI to) (hp Y Z) = some (0, hp Y (rfR Z 1))) ∧
    (XF X 4 0 5 = 1 ∧ XF X 4 0 8 = -1 → (∃ i, 0 ≤ i ∧ i < XF X 3 1 3 ∧ XJ X 22 1 i = XJ X 4 0 7) → fX12_fresh f0 (Ad Y 12 0) (iI to) (hp Y Z) = some (0, hp Y (rfR Z 3))) ∧
    (XF X 4 0 5 = 1 ∧ XF X 4 0 8 = -1 → (∀ i, 0 ≤ i → i < XF X 3 1 3 → XJ X 22 1 i ≠ XJ X 4 0 7) → fX12_fresh f0 (Ad Y 12 0) (iI to) (hp Y Z) = (fX12_next f0 (Ad Y 12 0) (hp Y (sJ Z 64 0 (upi (XJ Z 64 0) to (XJ Z 12 0 17))))).bind fun h => zr 1 h) := by
  have m0 : 0 ≤ XR Z 62 0 0 ∧ XR Z 62 0 0 ≤ 8 := hm 0 (.inl rfl)
  have m1 : 0 ≤ XR Z 62 0 1 ∧ XR Z 62 0 1 ≤ 8 := hm 3 (.inr (.inl rfl))
  have m2 : 0 ≤ XR Z 62 0 2 ∧ XR Z 62 0 2 ≤ 8 := hm 4 (.inr (.inr (.inl rfl)))
  have m3 : 0 ≤ XR Z 62 0 3 ∧ XR Z 62 0 3 ≤ 8 := hm 5 (.inr (.inr (.inr rfl)))
  obtain ⟨v1, e1, s1⟩ := r_find (f0 := f0) (Z := Z) (b := 30) (m := XR Z 62 0 0) g (by omega) m0.1 (by omega) hf
  obtain ⟨v2, e2, s2⟩ := r_find (f0 := f0) (Z := Z) (b := 38) (m := XR Z 62 0 1) g (by omega) m1.1 (by omega) hf
  obtain ⟨v3, e3, s3⟩ := r_find (f0 := f0) (Z := Z) (b := 46) (m := XR Z 62 0 2) g (by omega) m2.1 (by omega) hf
  obtain ⟨v4, e4, s4⟩ := r_find (f0 := f0) (Z := Z) (b := 52) (m := XR Z 62 0 3) g (by omega) m3.1 (by omega) hf
  have b1 : -1 ≤ v1 ∧ v1 < 8 := by rcases s1 with ⟨s, _⟩ | ⟨s, s_, _⟩ <;> omega
  have b2 : -1 ≤ v2 ∧ v2 < 8 := by rcases s2 with ⟨s, _⟩ | ⟨s, s_, _⟩ <;> omega
  have b3 : -1 ≤ v3 ∧ v3 < 8 := by rcases s3 with ⟨s, _⟩ | ⟨s, s_, _⟩ <;> omega
  have b4 : -1 ≤ v4 ∧ v4 < 8 := by rcases s4 with ⟨s, _⟩ | ⟨s, s_, _⟩ <;> omega
  refine ⟨fun q => ?_, fun q h => ?_, fun q h => ?_⟩
  · simp (disch := first | assumption | omega | exact W_fl W _ _ _ | exact W_fh W _ _ _ | exact W_rl W _ _ _ | exact W_rh W _ _ _) only [fX12_fresh, g_12_7, g_12_9, g_12_17, k_12, l_62, s_62, l_64, s_64, li_0, li_1, li_30, li_38, li_2, li_46, li_3, li_52, ob2, Option.bind_some, iI_add, r_isName g W c r rs rz hf, bI_i0, ite_n, if_neg q, r_bad g]
    exact zr_i0
  · have wr := (r.2.2.2.2.1 q.1).2
    have key : 0 ≤ v1 ∨ 0 ≤ v2 ∨ 0 ≤ v3 ∨ 0 ≤ v4 := by
      obtain ⟨i, i0, i1, i2⟩ := h
      obtain ⟨a, b, d⟩ := hn.2.1 i i0 i1
      have d' : XJ Z 64 0 (30 + (nbS (XR X 23 1 i) + XR X 24 1 i)) = XJ Z 12 0 17 := (WR_eq d wr).mp i2
      generalize XR X 24 1 i = k at *
      rcases a with a | a | a | a <;> rw [a] at b d'
      · left
        rcases s1 with s | s
        · exact absurd (by rw [← d']; exact congrArg _ (by show 30 + k = 30 + (0 + k); omega)) (s.2 k b.1 b.2)
        · exact s.1
      · right; left
        rcases s2 with s | s
        · exact absurd (by rw [← d']; exact congrArg _ (by show 38 + k = 30 + (8 + k); omega)) (s.2 k b.1 b.2)
        · exact s.1
      · right; right; left
        rcases s3 with s | s
        · exact absurd (by rw [← d']; exact congrArg _ (by show 46 + k = 30 + (16 + k); omega)) (s.2 k b.1 b.2)
        · exact s.1
      · right; right; right
        rcases s4 with s | s
        · exact absurd (by rw [← d']; exact congrArg _ (by show 52 + k = 30 + (22 + k); omega)) (s.2 k b.1 b.2)
        · exact s.1
    by_cases k1 : 0 ≤ v1
    · simp (disch := first | assumption | omega | exact W_fl W _ _ _ | exact W_fh W _ _ _ | exact W_rl W _ _ _ | exact W_rh W _ _ _) only [fX12_fresh, bX12_fresh_73, g_12_7, g_12_9, g_12_17, k_12, l_62, s_62, l_64, s_64, li_0, li_1, li_30, li_38, li_2, li_46, li_3, li_52, ob2, Option.bind_some, iI_add, r_isName g W c r rs rz hf, bI_i0, ite_n, if_pos q, e1, iI_le, if_pos k1, r_bad g]
      exact zr_i0
    · by_cases k2 : 0 ≤ v2
      · simp (disch := first | assumption | omega | exact W_fl W _ _ _ | exact W_fh W _ _ _ | exact W_rl W _ _ _ | exact W_rh W _ _ _) only [fX12_fresh, bX12_fresh_73, g_12_7, g_12_9, g_12_17, k_12, l_62, s_62, l_64, s_64, li_0, li_1, li_30, li_38, li_2, li_46, li_3, li_52, ob2, Option.bind_some, iI_add, r_isName g W c r rs rz hf, bI_i0, ite_n, if_pos q, e1, iI_le, if_neg k1, e2, if_pos k2, r_bad g]
        exact zr_i0
      · by_cases k3 : 0 ≤ v3
        · simp (disch := first | assumption | omega | exact W_fl W _ _ _ | exact W_fh W _ _ _ | exact W_rl W _ _ _ | exact W_rh W _ _ _) only [fX12_fresh, bX12_fresh_73, g_12_7, g_12_9, g_12_17, k_12, l_62, s_62, l_64, s_64, li_0, li_1, li_30, li_38, li_2, li_46, li_3, li_52, ob2, Option.bind_some, iI_add, r_isName g W c r rs rz hf, bI_i0, ite_n, if_pos q, e1, iI_le, if_neg k1, e2, if_neg k2, e3, if_pos k3, r_bad g]
          exact zr_i0
        · have k4 : ¬ v4 < 0 := by omega
          simp (disch := first | assumption | omega | exact W_fl W _ _ _ | exact W_fh W _ _ _ | exact W_rl W _ _ _ | exact W_rh W _ _ _) only [fX12_fresh, bX12_fresh_73, g_12_7, g_12_9, g_12_17, k_12, l_62, s_62, l_64, s_64, li_0, li_1, li_30, li_38, li_2, li_46, li_3, li_52, ob2, Option.bind_some, iI_add, r_isName g W c r rs rz hf, bI_i0, ite_n, if_pos q, e1, iI_le, iI_lt, if_neg k1, e2, if_neg k2, e3, if_neg k3, e4, if_neg k4, r_bad g]
          exact zr_i0
  · have wr := (r.2.2.2.2.1 q.1).2
    have no : ∀ s, isN s → ∀ k, 0 ≤ k → k < ncS (XR Z 62 0) s → XJ Z 64 0 (30 + (nbS s + k)) ≠ XJ Z 12 0 17 := fun s hs k k0 k1 z => by
      obtain ⟨i, i0, i1, _, _, i4⟩ := nam_back hn wr hs k0 k1 z
      exact h i i0 i1 i4
    have k1 : ¬ 0 ≤ v1 := fun z => by
      rcases s1 with s | s
      · have := s.1; omega
      · exact no 0 (.inl rfl) v1 s.1 s.2.1 (by rw [← s.2.2]; exact congrArg _ (by show 30 + (0 + v1) = 30 + v1; omega))
    have k2 : ¬ 0 ≤ v2 := fun z => by
      rcases s2 with s | s
      · have := s.1; omega
      · exact no 3 (.inr (.inl rfl)) v2 s.1 s.2.1 (by rw [← s.2.2]; exact congrArg _ (by show 30 + (8 + v2) = 38 + v2; omega))
    have k3 : ¬ 0 ≤ v3 := fun z => by
      rcases s3 with s | s
      · have := s.1; omega
      · exact no 4 (.inr (.inr (.inl rfl))) v3 s.1 s.2.1 (by rw [← s.2.2]; exact congrArg _ (by show 30 + (16 + v3) = 46 + v3; omega))
    have k4 : v4 < 0 := by
      rcases s4 with s | s
      · have := s.1; omega
      · exact absurd (by rw [← s.2.2]; exact congrArg _ (by show 30 + (22 + v4) = 52 + v4; omega)) (no 5 (.inr (.inr (.inr rfl))) v4 s.1 s.2.1)
    simp (disch := first | assumption | omega | exact W_fl W _ _ _ | exact W_fh W _ _ _ | exact W_rl W _ _ _ | exact W_rh W _ _ _) only [fX12_fresh, g_12_7, g_12_9, g_12_17, k_12, l_62, s_62, l_64, s_64, li_0, li_1, li_30, li_38, li_2, li_46, li_3, li_52, ob2, Option.bind_some, iI_add, r_isName g W c r rs rz hf, bI_i0, ite_n, if_pos q, e1, iI_le, iI_lt, if_neg k1, e2, if_neg k2, e3, if_neg k3, e4, if_pos k4]
