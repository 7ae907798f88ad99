/-! A NEW NAME: here and there -/
/-- the reader's part of a state -/
def RdS (X X' : XS) : Prop := (∀ f, XF X' 4 0 f = XF X 4 0 f) ∧ XR X' 20 0 = XR X 20 0 ∧ XJ X' 21 0 = XJ X 21 0 ∧ XJ X' 4 0 = XJ X 4 0
def NxS (Z Z' : XS) : Prop := (∀ f, f = 3 ∨ f = 4 ∨ f = 5 ∨ f = 11 ∨ f = 12 ∨ f = 14 → XF Z' 12 0 f = XF Z 12 0 f) ∧ XR Z' 60 0 = XR Z 60 0 ∧ XJ Z' 12 0 = XJ Z 12 0
theorem TokC_s {X X' : XS} (s : RdS X X') (c : TokC X) : TokC X' := by
  unfold TokC TBC KeyC at *
  rw [s.1 2, s.1 3, s.1 4, s.1 5, s.1 6, s.1 8, s.1 9, s.2.1, s.2.2.1, s.2.2.2]
  exact c
theorem TokR_s {X X' Z Z' : XS} (s : RdS X X') (z : NxS Z Z') (r : TokR X Z) : TokR X' Z' := by
  unfold TokR TB at *
  rw [s.1 2, s.1 3, s.1 4, s.1 5, s.1 6, s.1 9, s.2.1, s.2.2.2, z.1 3 (by decide), z.1 4 (by decide), z.1 5 (by decide), z.1 11 (by decide), z.1 12 (by decide), z.1 14 (by decide), z.2.1, z.2.2]
  exact r
theorem NxS_refl {Z : XS} : NxS Z Z := ⟨fun _ _ => rfl, rfl, rfl⟩
theorem RdS_refl {Z : XS} : RdS Z Z := ⟨fun _ => rfl, rfl, rfl, rfl⟩
theorem e_isTold {f0 : Nat} {Y : YS} {X : XS} {j : Nat} (g : SeO Y j) (W : WF X) (hn : 0 ≤ XF X 3 j 3 ∧ XF X 3 j 3 ≤ 30) {w : Int64} (hf : 200 ≤ f0) : (fX3_isTold f0 (Ad Y 3 j) w (hp Y X) = some (0, hp Y X) ∧ ∀ i, 0 ≤ i → i < XF X 3 j 3 → XJ X 22 j i ≠ w) ∨ (fX3_isTold f0 (Ad Y 3 j) w (hp Y X) = some (1, hp Y X) ∧ ∃ i, 0 ≤ i ∧ i < XF X 3 j 3 ∧ XJ X 22 j i = w) := by
  have z : fX3_isTold f0 (Ad Y 3 j) w (hp Y X) = bX3_isTold_2 f0 f0 (Ad Y 3 j) w (iI 0) (hp Y X) := rfl
  rw [z]
  refine lp (fun f (i : Int) => bX3_isTold_2 f0 f (Ad Y 3 j) w (iI i) (hp Y X)) (fun i => (0 ≤ i ∧ i ≤ XF X 3 j 3) ∧ ∀ k, 0 ≤ k → k < i → XJ X 22 j k ≠ w) (fun i => (30 - i).toNat) (fun r => (r = some (0, hp Y X) ∧ ∀ i, 0 ≤ i → i < XF X 3 j 3 → XJ X 22 j i ≠ w) ∨ (r = some (1, hp Y X) ∧ ∃ i, 0 ≤ i ∧ i < XF X 3 j 3 ∧ XJ X 22 j i = w)) ?_ f0 0 ⟨⟨by omega, by omega⟩, fun k k0 k1 => by omega⟩ (by show (30 - (0 : Int)).toNat < f0; omega)
  rintro f i ⟨⟨i0, i1⟩, hI⟩
  by_cases c : XF X 3 j 3 ≤ i
  · left; left
    refine ⟨?_, fun k k0 k1 => hI k k0 (by omega)⟩
    simp (disch := first | assumption | omega | exact W_fl W _ _ _ | exact W_fh W _ _ _ | exact W_rl W _ _ _ | exact W_rh W _ _ _) only [bX3_isTold_2, g_3_3, g_3_0, l_22, li_0, li_1, iI_add, Option.bind_some, iI_le, if_pos c]
    exact zr_i0
  · by_cases e : XJ X 22 j i = w
    · left; right
      refine ⟨?_, i, i0, by omega, e⟩
      simp (disch := first | assumption | omega | exact W_fl W _ _ _ | exact W_fh W _ _ _ | exact W_rl W _ _ _ | exact W_rh W _ _ _) only [bX3_isTold_2, g_3_3, g_3_0, l_22, li_0, li_1, iI_add, Option.bind_some, iI_le, if_neg c, lg_eq, if_pos e]
      exact zr_i1
    · right
      refine ⟨i + 1, ?_, ⟨⟨by omega, by omega⟩, fun k k0 k1 => ?_⟩, by show (30 - (i + 1)).toNat < (30 - i).toNat; omega⟩
      · simp (disch := first | assumption | omega | exact W_fl W _ _ _ | exact W_fh W _ _ _ | exact W_rl W _ _ _ | exact W_rh W _ _ _) only [bX3_isTold_2, g_3_3, g_3_0, l_22, li_0, li_1, iI_add, Option.bind_some, iI_le, if_neg c, lg_eq, if_neg e]
      · by_cases q : k = i
        · rw [q]; exact e
        · exact hI k k0 (by omega)
/-- the table with one more name -/
def adC (X : XS) (w : Int64) (s m : Int) : XS := sF (sR (sR (sJ X 22 1 (upi (XJ X 22 1) (XF X 3 1 3) w)) 23 1 (upi (XR X 23 1) (XF X 3 1 3) s)) 24 1 (upi (XR X 24 1) (XF X 3 1 3) m)) 3 1 3 (XF X 3 1 3 + 1)
theorem e_add {f0 : Nat} {Y : YS} {X : XS} (g : GY Y) (W : WF X) (hn : 0 ≤ XF X 3 1 3 ∧ XF X 3 1 3 < 30) {w : Int64} {s m : Int} : fX3_add f0 (Ad Y 3 1) w (iI s) (iI m) (hp Y X) = some (hp Y (adC X w s m)) := by
  have g1 := SeO_1 g
  have c := hn.2
  have n0 := hn.1
  have a1 : ∀ r, XF (sJ X 22 1 r) 3 1 3 = XF X 3 1 3 := fun r => rfl
  have a2 : ∀ r q, XF (sR (sJ X 22 1 r) 23 1 q) 3 1 3 = XF X 3 1 3 := fun r q => rfl
  have a3 : ∀ r q p, XF (sR (sR (sJ X 22 1 r) 23 1 q) 24 1 p) 3 1 3 = XF X 3 1 3 := fun r q p => rfl
  have b1 : ∀ r, XR (sJ X 22 1 r) 23 1 = XR X 23 1 := fun r => rfl
  have b2 : ∀ r q, XR (sR (sJ X 22 1 r) 23 1 q) 24 1 = XR X 24 1 := fun r q => rfl
  simp (disch := first | assumption | omega | exact W_fl W _ _ _ | exact W_fh W _ _ _ | exact W_rl W _ _ _ | exact W_rh W _ _ _) only [fX3_add, g_3_3, g_3_0, g_3_1, g_3_2, p_3_3, s_22, s_23, s_24, li_30, li_1, iI_add, Option.bind_some, iI_lt, if_pos c, a1, a2, a3, b1, b2]
  rfl
theorem W_ad {X : XS} (W : WF X) {w : Int64} {s m : Int} (hs : Rg s) (hm : Rg m) (hn : 0 ≤ XF X 3 1 3 ∧ XF X 3 1 3 < 30) : WF (adC X w s m) := by
  unfold adC
  refine W_F (W_R (W_R (W_J W) (fun i => ?_)) (fun i => ?_)) (by omega) (by omega)
  · rw [upi_at]; split
    · exact hs
    · exact W.2 _ _ _
  · rw [upi_at]; split
    · exact hm
    · exact W.2 _ _ _
/-- counts with one more of a sort -/
def ciS (s : Int) : Int := if s = 0 then 0 else if s = 3 then 1 else if s = 4 then 2 else 3
theorem ci_rg (s : Int) : 0 ≤ ciS s ∧ ciS s ≤ 3 := by unfold ciS; (repeat' split) <;> omega
theorem nc_ci {S : Int → Int} (s : Int) : ncS S s = S (ciS s) := by unfold ncS ciS; (repeat' split) <;> rfl
theorem nc_up {S : Int → Int} {s s' m : Int} (hs : isN s) (hs' : isN s') : ncS (upi S (ciS s) m) s' = if s' = s then m else ncS S s' := by
  rw [nc_ci, nc_ci, upi_at]
  have : ciS s' = ciS s ↔ s' = s := by
    unfold ciS
    rcases hs with h | h | h | h <;> rcases hs' with h' | h' | h' | h' <;> subst h <;> subst h' <;> simp
  by_cases e : s' = s
  · rw [if_pos e, if_pos (this.mpr e)]
  · rw [if_neg e, if_neg (fun z => e (this.mp z))]
theorem NamI_add {w : Int → Int64} {so nu : Int → Int} {n : Int} {S : Int → Int} {nm nm' : Int → Int64} (h : NamI w so nu n S nm) {x y : Int64} (hw : WR x y) {s m : Int} (hs : isN s) (hm : m = ncS S s) (m0 : ∀ s, isN s → 0 ≤ ncS S s ∧ ncS S s ≤ 8) (hx : ∀ i, 0 ≤ i → i < n → w i ≠ x) (h' : ∀ s' k, isN s' → 0 ≤ k → k < ncS (upi S (ciS s) (m + 1)) s' → nm' (nbS s' + k) = if s' = s ∧ k = m then y else nm (nbS s' + k)) : NamI (upi w n x) (upi so n s) (upi nu n m) (n + 1) (upi S (ciS s) (m + 1)) nm' := by
  obtain ⟨⟨n0, h1⟩, h2, h3, h4⟩ := h
  have mm := m0 s hs
  rw [← hm] at mm
  refine ⟨⟨by omega, ?_⟩, fun i i0 i1 => ?_, fun s' k hs' k0 k1 => ?_, fun i i' i0 i1 i0' i1' e => ?_⟩
  · have := @nc_up S s 0 (m + 1) hs (.inl rfl); have := @nc_up S s 3 (m + 1) hs (.inr (.inl rfl)); have := @nc_up S s 4 (m + 1) hs (.inr (.inr (.inl rfl))); have := @nc_up S s 5 (m + 1) hs (.inr (.inr (.inr rfl)))
    have z : ∀ S : Int → Int, S 0 + S 1 + S 2 + S 3 = ncS S 0 + ncS S 3 + ncS S 4 + ncS S 5 := fun S => rfl
    rw [z] at h1 ⊢
    rcases hs with q | q | q | q <;> subst q <;> simp at * <;> omega
  · rw [upi_at, upi_at, upi_at]
    by_cases q : i = n
    · rw [if_pos q, if_pos q, if_pos q]
      have e := h' s m hs mm.1 (by rw [nc_up hs hs, if_pos rfl]; omega)
      rw [if_pos ⟨rfl, rfl⟩] at e
      refine ⟨hs, ⟨mm.1, by rw [nc_up hs hs, if_pos rfl]; omega⟩, by rw [e]; exact hw⟩
    · rw [if_neg q, if_neg q, if_neg q]
      obtain ⟨a, b, c⟩ := h2 i i0 (by omega)
      have b' : nu i < ncS (upi S (ciS s) (m + 1)) (so i) := by
        rw [nc_up hs a]; split
        · rename_i z; rw [z, ← hm] at b; omega
        · exact b.2
      have e := h' (so i) (nu i) a b.1 b'
      have ne : ¬ (so i = s ∧ nu i = m) := fun z => by have := b.2; rw [z.1, ← hm] at this; omega
      rw [if_neg ne] at e
      exact ⟨a, ⟨b.1, b'⟩, by rw [e]; exact c⟩
  · rw [nc_up hs hs'] at k1
    by_cases q : s' = s ∧ k = m
    · refine ⟨n, n0, by omega, ?_, ?_⟩
      · rw [upi_eq, q.1]
      · rw [upi_eq, q.2]
    · have k1' : k < ncS S s' := by
        by_cases e : s' = s
        · rw [if_pos e] at k1
          have : k ≠ m := fun z => q ⟨e, z⟩
          rw [e, ← hm]; omega
        · rw [if_neg e] at k1; exact k1
      obtain ⟨i, i0, i1, i2, i3⟩ := h3 s' k hs' k0 k1'
      refine ⟨i, i0, by omega, ?_, ?_⟩
      · rw [upi_at, if_neg (by omega)]; exact i2
      · rw [upi_at, if_neg (by omega)]; exact i3
  · rw [upi_at, upi_at] at e
    by_cases q : i = n
    · by_cases q' : i' = n
      · omega
      · rw [if_pos q, if_neg q'] at e
        exact absurd e.symm (hx i' i0' (by omega))
    · by_cases q' : i' = n
      · rw [if_neg q, if_pos q'] at e
        exact absurd e (hx i i0 (by omega))
      · rw [if_neg q, if_neg q'] at e
        exact h4 i i' i0 (by omega) i0' (by omega) e
theorem e_readName {f0 : Nat} {Y : YS} {X : XS} (g : GY Y) (W : WF X) (c : TokC X) (hn : 0 ≤ XF X 3 1 3 ∧ XF X 3 1 3 < 30) {s : Int} (hs : isN s) (hf : 2000 ≤ f0) : ∃ X', ((fX7_readName f0 (Ad Y 7 0) (iI s) (hp Y X) = some (0, hp Y X') ∧ WF X' ∧ FrC X X' ∧ FaC X' ∧ (¬ (XF X 4 0 5 = 1 ∧ XF X 4 0 8 = -1) ∧ X' = rfC X 1 ∨ (XF X 4 0 5 = 1 ∧ XF X 4 0 8 = -1) ∧ X' = rfC X 3 ∧ ∃ i, 0 ≤ i ∧ i < XF X 3 1 3 ∧ XJ X 22 1 i = XJ X 4 0 7)) ∨ (fX7_readName f0 (Ad Y 7 0) (iI s) (hp Y X) = some (1, hp Y X') ∧ (XF X 4 0 5 = 1 ∧ XF X 4 0 8 = -1) ∧ (∀ i, 0 ≤ i → i < XF X 3 1 3 → XJ X 22 1 i ≠ XJ X 4 0 7) ∧ RdF (adC X (XJ X 4 0 7) s (XR X 25 1 s)) X' ∧ WF X' ∧ TokC X' ∧ XF X 4 0 6 < XF X' 4 0 6 ∧ ∀ Z, WF Z → TokR X Z → ∃ Z', fX12_next f0 (Ad Y 12 0) (hp Y Z) = some (hp Y Z') ∧ NxF Z Z' ∧ WF Z' ∧ TokR X' Z')) := by
  have g1 := SeO_1 g
  by_cases q : XF X 4 0 5 = 1 ∧ XF X 4 0 8 = -1
  · rcases e_isTold (f0 := f0) g1 W ⟨hn.1, by omega⟩ (w := XJ X 4 0 7) (by omega) with ⟨e, h⟩ | ⟨e, h⟩
    · have ed := e_add (f0 := f0) g W hn (w := XJ X 4 0 7) (s := s) (m := XR X 25 1 s)
      have Wa := W_ad W (w := XJ X 4 0 7) (s := s) (m := XR X 25 1 s) ⟨by omega, by omega⟩ (W.2 _ _ _) hn
      have sd : RdS X (adC X (XJ X 4 0 7) s (XR X 25 1 s)) := ⟨fun _ => rfl, rfl, rfl, rfl⟩
      have ca := TokC_s sd c
      obtain ⟨X', e1, r, W', t, lt, k⟩ := j_step (f0 := f0) g Wa ca (by show XF X 4 0 5 ≠ 0; omega) hf
      refine ⟨X', .inr ⟨?_, q, h, r, W', t, lt, fun Z WZ rr => k Z WZ (TokR_s sd NxS_refl rr)⟩⟩
      simp (disch := first | assumption | omega | exact W_fl W _ _ _ | exact W_fh W _ _ _ | exact W_rl W _ _ _ | exact W_rh W _ _ _) only [fX7_readName, g_7_0, g_7_1, g_6_0, g_4_7, g_6_1, k_4, k_3, l_25, li_0, li_1, li_3, ob2, Option.bind_some, iI_add, e_isName g W, bI_i0, ite_n, if_pos q, e, ed, e1]
      rw [if_pos trivial]; exact zr_i1
    · have rc := rf_C W c (k := 3) (by omega) (by omega)
      refine ⟨rfC X 3, .inl ⟨?_, rc.1, rc.2.1, rc.2.2, .inr ⟨q, rfl, h⟩⟩⟩
      have n10 : ¬ (1 : Int) = 0 := by decide
      simp (disch := first | assumption | omega | exact W_fl W _ _ _ | exact W_fh W _ _ _ | exact W_rl W _ _ _ | exact W_rh W _ _ _) only [fX7_readName, g_7_0, g_7_1, g_6_0, g_4_7, g_6_1, k_4, k_3, l_25, li_0, li_1, li_3, ob2, Option.bind_some, iI_add, e_isName g W, bI_i0, ite_n, if_pos q, e, iI_eq, if_neg n10, e_refuse g]
      exact zr_i0
  · have rc := rf_C W c (k := 1) (by omega) (by omega)
    refine ⟨rfC X 1, .inl ⟨?_, rc.1, rc.2.1, rc.2.2, .inl ⟨q, rfl⟩⟩⟩
    simp (disch := first | assumption | omega | exact W_fl W _ _ _ | exact W_fh W _ _ _ | exact W_rl W _ _ _ | exact W_rh W _ _ _) only [fX7_readName, g_7_0, g_7_1, g_6_0, g_4_7, g_6_1, k_4, k_3, l_25, li_0, li_1, li_3, ob2, Option.bind_some, iI_add, e_isName g W, bI_i0, ite_n, if_neg q, e_refuse g]
    exact zr_i0
