/-! TABLES OF THE DRAFT -/
theorem CnR_o {X : XS} {H : Int → Int} (h : CnR X H) {k v : Int} (hk : 8 ≤ k) : CnR X (upi H k v) := by
  unfold CnR at *
  rw [upi_at, upi_at, upi_at, upi_at, upi_at, upi_at, upi_at, upi_at, if_neg (by omega), if_neg (by omega), if_neg (by omega), if_neg (by omega), if_neg (by omega), if_neg (by omega), if_neg (by omega), if_neg (by omega)]
  exact h
theorem DC_26 {X : XS} (h : DC X) {i v : Int} (v0 : 0 ≤ v) (v1 : v ≤ 20) : DC (sR X 26 1 (upi (XR X 26 1) i v)) := by
  obtain ⟨h1, h2, h3, h4, h5, h6⟩ := h
  refine ⟨h1, h2, fun j j0 j1 => ?_, h4, h5, h6⟩
  have q := h3 j j0 j1
  have z : XR (sR X 26 1 (upi (XR X 26 1) i v)) 26 1 = upi (XR X 26 1) i v := rfl
  have zz : 0 ≤ upi (XR X 26 1) i v j ∧ upi (XR X 26 1) i v j ≤ 20 := by
    rw [upi_at]; split
    · omega
    · exact q.1
  first | exact ⟨zz, q.2⟩ | exact ⟨q.1, zz, q.2.2⟩ | exact ⟨q.1, q.2.1, zz, q.2.2.2⟩ | exact ⟨q.1, q.2.1, q.2.2.1, zz, q.2.2.2.2⟩
theorem DC_27 {X : XS} (h : DC X) {i v : Int} (v0 : 0 ≤ v) (v1 : v ≤ 40) : DC (sR X 27 1 (upi (XR X 27 1) i v)) := by
  obtain ⟨h1, h2, h3, h4, h5, h6⟩ := h
  refine ⟨h1, h2, fun j j0 j1 => ?_, h4, h5, h6⟩
  have q := h3 j j0 j1
  have z : XR (sR X 27 1 (upi (XR X 27 1) i v)) 27 1 = upi (XR X 27 1) i v := rfl
  have zz : 0 ≤ upi (XR X 27 1) i v j ∧ upi (XR X 27 1) i v j ≤ 40 := by
    rw [upi_at]; split
    · omega
    · exact q.2.1
  first | exact ⟨zz, q.2⟩ | exact ⟨q.1, zz, q.2.2⟩ | exact ⟨q.1, q.2.1, zz, q.2.2.2⟩ | exact ⟨q.1, q.2.1, q.2.2.1, zz, q.2.2.2.2⟩
theorem DC_28 {X : XS} (h : DC X) {i v : Int} (v0 : 0 ≤ v) (v1 : v ≤ 250) : DC (sR X 28 1 (upi (XR X 28 1) i v)) := by
  obtain ⟨h1, h2, h3, h4, h5, h6⟩ := h
  refine ⟨h1, h2, fun j j0 j1 => ?_, h4, h5, h6⟩
  have q := h3 j j0 j1
  have z : XR (sR X 28 1 (upi (XR X 28 1) i v)) 28 1 = upi (XR X 28 1) i v := rfl
  have zz : 0 ≤ upi (XR X 28 1) i v j ∧ upi (XR X 28 1) i v j ≤ 250 := by
    rw [upi_at]; split
    · omega
    · exact q.2.2.1
  first | exact ⟨zz, q.2⟩ | exact ⟨q.1, zz, q.2.2⟩ | exact ⟨q.1, q.2.1, zz, q.2.2.2⟩ | exact ⟨q.1, q.2.1, q.2.2.1, zz, q.2.2.2.2⟩
theorem DC_29 {X : XS} (h : DC X) {i v : Int} (v0 : 0 ≤ v) (v1 : v ≤ 250) : DC (sR X 29 1 (upi (XR X 29 1) i v)) := by
  obtain ⟨h1, h2, h3, h4, h5, h6⟩ := h
  refine ⟨h1, h2, fun j j0 j1 => ?_, h4, h5, h6⟩
  have q := h3 j j0 j1
  have z : XR (sR X 29 1 (upi (XR X 29 1) i v)) 29 1 = upi (XR X 29 1) i v := rfl
  have zz : 0 ≤ upi (XR X 29 1) i v j ∧ upi (XR X 29 1) i v j ≤ 250 := by
    rw [upi_at]; split
    · omega
    · exact q.2.2.2.1
  first | exact ⟨zz, q.2⟩ | exact ⟨q.1, zz, q.2.2⟩ | exact ⟨q.1, q.2.1, zz, q.2.2.2⟩ | exact ⟨q.1, q.2.1, q.2.2.1, zz, q.2.2.2.2⟩
theorem TbR_26 {X : XS} {H : Int → Int} (h : TbR X H) {i v : Int} (i0 : 0 ≤ i) (i1 : i < 64) : TbR (sR X 26 1 (upi (XR X 26 1) i v)) (upi H (8 + i) v) := by
  obtain ⟨h1, h2, h3, h4⟩ := h
  have o : ∀ j, ¬ (8 ≤ j ∧ j < 8 + 64) → upi H (8 + i) v j = H j := fun j hj => by rw [upi_at, if_neg (by omega)]
  have z : ∀ t, t ≠ 26 → XR (sR X 26 1 (upi (XR X 26 1) i v)) t 1 = XR X t 1 := fun t ht => by rw [XR_sR, if_neg (fun q => ht q.1)]
  have zz : XR (sR X 26 1 (upi (XR X 26 1) i v)) 26 1 = upi (XR X 26 1) i v := rfl
  refine ⟨fun j j0 j1 => ?_, fun j j0 j1 => ?_, fun s t s0 s1 t0 t1 => ?_, fun j j0 j1 => ?_⟩
  · have q := h1 j j0 j1
    have e : upi (XR X 26 1) i v j = upi H (8 + i) v (8 + j) := by
      rw [upi_at, upi_at]
      by_cases k : j = i
      · rw [if_pos k, if_pos (by omega)]
      · rw [if_neg k, if_neg (by omega)]
        first | exact q.1 | exact q.2.1 | exact q.2.2.1 | exact q.2.2.2
    refine ⟨?_, ?_, ?_, ?_⟩
    · first | exact e | (rw [z 26 (by decide), o (8 + j) (by omega)]; exact q.1)
    · first | exact e | (rw [z 27 (by decide), o (72 + j) (by omega)]; exact q.2.1)
    · first | exact e | (rw [z 28 (by decide), o (136 + j) (by omega)]; exact q.2.2.1)
    · first | exact e | (rw [z 29 (by decide), o (200 + j) (by omega)]; exact q.2.2.2)
  · rw [z 31 (by decide), o (264 + j) (by omega), o (272 + j) (by omega)]; exact h2 j j0 j1
  · rw [z 30 (by decide), o (264 + s) (by omega)]; exact h3 s t s0 s1 t0 t1
  · rw [o 7 (by omega)] at j1
    by_cases k : j < 16
    · rw [z 32 (by decide), o (280 + j) (by omega), o (296 + j) (by omega)]; exact h4 j j0 j1
    · rw [z 32 (by decide), o (280 + j) (by omega), o (296 + j) (by omega)]; exact h4 j j0 j1
theorem TbR_27 {X : XS} {H : Int → Int} (h : TbR X H) {i v : Int} (i0 : 0 ≤ i) (i1 : i < 64) : TbR (sR X 27 1 (upi (XR X 27 1) i v)) (upi H (72 + i) v) := by
  obtain ⟨h1, h2, h3, h4⟩ := h
  have o : ∀ j, ¬ (72 ≤ j ∧ j < 72 + 64) → upi H (72 + i) v j = H j := fun j hj => by rw [upi_at, if_neg (by omega)]
  have z : ∀ t, t ≠ 27 → XR (sR X 27 1 (upi (XR X 27 1) i v)) t 1 = XR X t 1 := fun t ht => by rw [XR_sR, if_neg (fun q => ht q.1)]
  have zz : XR (sR X 27 1 (upi (XR X 27 1) i v)) 27 1 = upi (XR X 27 1) i v := rfl
  refine ⟨fun j j0 j1 => ?_, fun j j0 j1 => ?_, fun s t s0 s1 t0 t1 => ?_, fun j j0 j1 => ?_⟩
  · have q := h1 j j0 j1
    have e : upi (XR X 27 1) i v j = upi H (72 + i) v (72 + j) := by
      rw [upi_at, upi_at]
      by_cases k : j = i
      · rw [if_pos k, if_pos (by omega)]
      · rw [if_neg k, if_neg (by omega)]
        first | exact q.1 | exact q.2.1 | exact q.2.2.1 | exact q.2.2.2
    refine ⟨?_, ?_, ?_, ?_⟩
    · first | exact e | (rw [z 26 (by decide), o (8 + j) (by omega)]; exact q.1)
    · first | exact e | (rw [z 27 (by decide), o (72 + j) (by omega)]; exact q.2.1)
    · first | exact e | (rw [z 28 (by decide), o (136 + j) (by omega)]; exact q.2.2.1)
    · first | exact e | (rw [z 29 (by decide), o (200 + j) (by omega)]; exact q.2.2.2)
  · rw [z 31 (by decide), o (264 + j) (by omega), o (272 + j) (by omega)]; exact h2 j j0 j1
  · rw [z 30 (by decide), o (264 + s) (by omega)]; exact h3 s t s0 s1 t0 t1
  · rw [o 7 (by omega)] at j1
    by_cases k : j < 16
    · rw [z 32 (by decide), o (280 + j) (by omega), o (296 + j) (by omega)]; exact h4 j j0 j1
    · rw [z 32 (by decide), o (280 + j) (by omega), o (296 + j) (by omega)]; exact h4 j j0 j1
theorem TbR_28 {X : XS} {H : Int → Int} (h : TbR X H) {i v : Int} (i0 : 0 ≤ i) (i1 : i < 64) : TbR (sR X 28 1 (upi (XR X 28 1) i v)) (upi H (136 + i) v) := by
  obtain ⟨h1, h2, h3, h4⟩ := h
  have o : ∀ j, ¬ (136 ≤ j ∧ j < 136 + 64) → upi H (136 + i) v j = H j := fun j hj => by rw [upi_at, if_neg (by omega)]
  have z : ∀ t, t ≠ 28 → XR (sR X 28 1 (upi (XR X 28 1) i v)) t 1 = XR X t 1 := fun t ht => by rw [XR_sR, if_neg (fun q => ht q.1)]
  have zz : XR (sR X 28 1 (upi (XR X 28 1) i v)) 28 1 = upi (XR X 28 1) i v := rfl
  refine ⟨fun j j0 j1 => ?_, fun j j0 j1 => ?_, fun s t s0 s1 t0 t1 => ?_, fun j j0 j1 => ?_⟩
  · have q := h1 j j0 j1
    have e : upi (XR X 28 1) i v j = upi H (136 + i) v (136 + j) := by
      rw [upi_at, upi_at]
      by_cases k : j = i
      · rw [if_pos k, if_pos (by omega)]
      · rw [if_neg k, if_neg (by omega)]
        first | exact q.1 | exact q.2.1 | exact q.2.2.1 | exact q.2.2.2
    refine ⟨?_, ?_, ?_, ?_⟩
    · first | exact e | (rw [z 26 (by decide), o (8 + j) (by omega)]; exact q.1)
    · first | exact e | (rw [z 27 (by decide), o (72 + j) (by omega)]; exact q.2.1)
    · first | exact e | (rw [z 28 (by decide), o (136 + j) (by omega)]; exact q.2.2.1)
    · first | exact e | (rw [z 29 (by decide), o (200 + j) (by omega)]; exact q.2.2.2)
  · rw [z 31 (by decide), o (264 + j) (by omega), o (272 + j) (by omega)]; exact h2 j j0 j1
  · rw [z 30 (by decide), o (264 + s) (by omega)]; exact h3 s t s0 s1 t0 t1
  · rw [o 7 (by omega)] at j1
    by_cases k : j < 16
    · rw [z 32 (by decide), o (280 + j) (by omega), o (296 + j) (by omega)]; exact h4 j j0 j1
    · rw [z 32 (by decide), o (280 + j) (by omega), o (296 + j) (by omega)]; exact h4 j j0 j1
theorem TbR_29 {X : XS} {H : Int → Int} (h : TbR X H) {i v : Int} (i0 : 0 ≤ i) (i1 : i < 64) : TbR (sR X 29 1 (upi (XR X 29 1) i v)) (upi H (200 + i) v) := by
  obtain ⟨h1, h2, h3, h4⟩ := h
  have o : ∀ j, ¬ (200 ≤ j ∧ j < 200 + 64) → upi H (200 + i) v j = H j := fun j hj => by rw [upi_at, if_neg (by omega)]
  have z : ∀ t, t ≠ 29 → XR (sR X 29 1 (upi (XR X 29 1) i v)) t 1 = XR X t 1 := fun t ht => by rw [XR_sR, if_neg (fun q => ht q.1)]
  have zz : XR (sR X 29 1 (upi (XR X 29 1) i v)) 29 1 = upi (XR X 29 1) i v := rfl
  refine ⟨fun j j0 j1 => ?_, fun j j0 j1 => ?_, fun s t s0 s1 t0 t1 => ?_, fun j j0 j1 => ?_⟩
  · have q := h1 j j0 j1
    have e : upi (XR X 29 1) i v j = upi H (200 + i) v (200 + j) := by
      rw [upi_at, upi_at]
      by_cases k : j = i
      · rw [if_pos k, if_pos (by omega)]
      · rw [if_neg k, if_neg (by omega)]
        first | exact q.1 | exact q.2.1 | exact q.2.2.1 | exact q.2.2.2
    refine ⟨?_, ?_, ?_, ?_⟩
    · first | exact e | (rw [z 26 (by decide), o (8 + j) (by omega)]; exact q.1)
    · first | exact e | (rw [z 27 (by decide), o (72 + j) (by omega)]; exact q.2.1)
    · first | exact e | (rw [z 28 (by decide), o (136 + j) (by omega)]; exact q.2.2.1)
    · first | exact e | (rw [z 29 (by decide), o (200 + j) (by omega)]; exact q.2.2.2)
  · rw [z 31 (by decide), o (264 + j) (by omega), o (272 + j) (by omega)]; exact h2 j j0 j1
  · rw [z 30 (by decide), o (264 + s) (by omega)]; exact h3 s t s0 s1 t0 t1
  · rw [o 7 (by omega)] at j1
    by_cases k : j < 16
    · rw [z 32 (by decide), o (280 + j) (by omega), o (296 + j) (by omega)]; exact h4 j j0 j1
    · rw [z 32 (by decide), o (280 + j) (by omega), o (296 + j) (by omega)]; exact h4 j j0 j1
theorem ZeS_72 {S : Int → Int} (h : ZeS S) {a b v : Int} (a0 : 0 ≤ a) (b0 : 0 ≤ b) (a1 : a < S 0) (b1 : b < S 0) (s8 : S 0 ≤ 8) (v0 : 0 ≤ v) (v1 : v ≤ 40) : ZeS (upi S (72 + (8 * a + b)) v) := by
  have o : ∀ j, ¬ (72 ≤ j ∧ j < 136) → upi S (72 + (8 * a + b)) v j = S j := fun j hj => by rw [upi_at, if_neg (by omega)]
  refine ⟨fun x y x0 x1 y0 y1 => ?_, fun s s0 s1 r hr => ?_⟩
  · obtain ⟨h1, h2, h3, h4⟩ := h.1 x y x0 x1 y0 y1
    rw [o 0 (by omega), o 1 (by omega), o (8 + (8 * x + y)) (by omega), o (136 + (8 * x + y)) (by omega), o (8 + (8 * y + x)) (by omega), upi_at]
    by_cases k : 72 + (8 * x + y) = 72 + (8 * a + b)
    · rw [if_pos k]
      exact ⟨fun q => by omega, h2, h3, v0, v1⟩
    · rw [if_neg k]; exact ⟨h1, h2, h3, h4⟩
  · rw [o (264 + s) (by omega)] at hr
    rw [o 2 (by omega)]; exact h.2 s s0 s1 r hr
theorem ZeS_136 {S : Int → Int} (h : ZeS S) {a b v : Int} (a0 : 0 ≤ a) (b0 : 0 ≤ b) (a1 : a < S 1) (b1 : b < S 0) (s8 : S 0 ≤ 8) (s8' : S 1 ≤ 8) : ZeS (upi S (136 + (8 * a + b)) v) := by
  have o : ∀ j, ¬ (136 ≤ j ∧ j < 200) → upi S (136 + (8 * a + b)) v j = S j := fun j hj => by rw [upi_at, if_neg (by omega)]
  refine ⟨fun x y x0 x1 y0 y1 => ?_, fun s s0 s1 r hr => ?_⟩
  · obtain ⟨h1, h2, h3, h4⟩ := h.1 x y x0 x1 y0 y1
    rw [o 0 (by omega), o 1 (by omega), o (8 + (8 * x + y)) (by omega), o (72 + (8 * x + y)) (by omega), o (8 + (8 * y + x)) (by omega), upi_at]
    by_cases k : 136 + (8 * x + y) = 136 + (8 * a + b)
    · rw [if_pos k]
      exact ⟨h1, fun q => by omega, h3, h4⟩
    · rw [if_neg k]; exact ⟨h1, h2, h3, h4⟩
  · rw [o (264 + s) (by omega)] at hr
    rw [o 2 (by omega)]; exact h.2 s s0 s1 r hr
theorem ZeS_200 {S : Int → Int} (h : ZeS S) {i v : Int} (i0 : 0 ≤ i) (i1 : i < 64) : ZeS (upi S (200 + i) v) := by
  have o : ∀ j, ¬ (200 ≤ j ∧ j < 264) → upi S (200 + i) v j = S j := fun j hj => by rw [upi_at, if_neg (by omega)]
  refine ⟨fun x y x0 x1 y0 y1 => ?_, fun s s0 s1 r hr => ?_⟩
  · rw [o 0 (by omega), o 1 (by omega), o (8 + (8 * x + y)) (by omega), o (72 + (8 * x + y)) (by omega), o (136 + (8 * x + y)) (by omega), o (8 + (8 * y + x)) (by omega)]
    exact h.1 x y x0 x1 y0 y1
  · rw [o (264 + s) (by omega)] at hr
    rw [o 2 (by omega)]; exact h.2 s s0 s1 r hr
theorem ZeS_8 {S : Int → Int} (h : ZeS S) {a b v : Int} (a0 : 0 ≤ a) (b0 : 0 ≤ b) (a1 : a < S 0) (b1 : b < S 0) (s8 : S 0 ≤ 8) : ZeS (upi (upi S (8 + (8 * a + b)) v) (8 + (8 * b + a)) v) := by
  have o : ∀ j, ¬ (8 ≤ j ∧ j < 72) → upi (upi S (8 + (8 * a + b)) v) (8 + (8 * b + a)) v j = S j := fun j hj => by rw [upi_at, if_neg (by omega), upi_at, if_neg (by omega)]
  have w : ∀ x y, 0 ≤ x → x < 8 → 0 ≤ y → y < 8 → upi (upi S (8 + (8 * a + b)) v) (8 + (8 * b + a)) v (8 + (8 * x + y)) = if (x = b ∧ y = a) ∨ (x = a ∧ y = b) then v else S (8 + (8 * x + y)) := fun x y x0 x1 y0 y1 => by
    rw [upi_at, upi_at]
    by_cases k1 : x = b ∧ y = a
    · rw [if_pos (by omega), if_pos (.inl k1)]
    · rw [if_neg (by omega)]
      by_cases k2 : x = a ∧ y = b
      · rw [if_pos (by omega), if_pos (.inr k2)]
      · rw [if_neg (by omega), if_neg (by omega)]
  refine ⟨fun x y x0 x1 y0 y1 => ?_, fun s s0 s1 r hr => ?_⟩
  · obtain ⟨h1, h2, h3, h4⟩ := h.1 x y x0 x1 y0 y1
    rw [o 0 (by omega), o 1 (by omega), o (72 + (8 * x + y)) (by omega), o (136 + (8 * x + y)) (by omega), w x y x0 x1 y0 y1, w y x y0 y1 x0 x1]
    refine ⟨fun q => ⟨?_, (h1 q).2⟩, h2, ?_, h4⟩
    · rw [if_neg (by omega)]; exact (h1 q).1
    · by_cases k : (x = b ∧ y = a) ∨ (x = a ∧ y = b)
      · rw [if_pos k, if_pos (by omega)]
      · rw [if_neg k, if_neg (by omega)]; exact h3
  · rw [o (264 + s) (by omega)] at hr
    rw [o 2 (by omega)]; exact h.2 s s0 s1 r hr
/-- one more of a sort without a name -/
theorem DC_cn {X : XS} (h : DC X) {k : Int} (hk : k = 1 ∨ k = 2 ∨ k = 6) (m : XR X 25 1 k < msK k) : DC (sR X 25 1 (upi (XR X 25 1) k (XR X 25 1 k + 1))) := by
  obtain ⟨h1, ⟨h2, h3⟩, h4, h5, h6, h7⟩ := h
  have z : ∀ j, j ≠ k → upi (XR X 25 1) k (XR X 25 1 k + 1) j = XR X 25 1 j := fun j hj => by rw [upi_at, if_neg hj]
  have zk : upi (XR X 25 1) k (XR X 25 1 k + 1) k = XR X 25 1 k + 1 := upi_eq ..
  have n0 := z 0 (by omega); have n3 := z 3 (by omega); have n4 := z 4 (by omega); have n5 := z 5 (by omega)
  have e : XR (sR X 25 1 (upi (XR X 25 1) k (XR X 25 1 k + 1))) 25 1 = upi (XR X 25 1) k (XR X 25 1 k + 1) := rfl
  refine ⟨?_, ⟨?_, fun i i0 i1 => ?_⟩, h4, ?_, h6, h7⟩
  · rw [e]
    unfold msK at m
    rcases hk with q | q | q <;> subst q
    · have n2 := z 2 (by decide); have n6 := z 6 (by decide)
      rw [n0, n3, n4, n5, n2, n6, zk]; simp at m; omega
    · have n1 := z 1 (by decide); have n6 := z 6 (by decide)
      rw [n0, n3, n4, n5, n1, n6, zk]; simp at m; omega
    · have n1 := z 1 (by decide); have n2 := z 2 (by decide)
      rw [n0, n3, n4, n5, n1, n2, zk]; simp at m; omega
  · rw [e, n0, n3, n4, n5]; exact h2
  · obtain ⟨p1, p2, p3⟩ := h3 i i0 i1
    refine ⟨p1, p2, ?_⟩
    show XR X 24 1 i < upi (XR X 25 1) k (XR X 25 1 k + 1) (XR X 23 1 i)
    rw [z _ (by omega)]; exact p3
  · rw [e, n5]; exact h5
theorem CnR_cn {X : XS} {H : Int → Int} (h : CnR X H) {k l : Int} (hk : k = 1 ∧ l = 4 ∨ k = 2 ∧ l = 5 ∨ k = 6 ∧ l = 7) : CnR (sR X 25 1 (upi (XR X 25 1) k (XR X 25 1 k + 1))) (upi H l (H l + 1)) := by
  unfold CnR at *
  have e : XR (sR X 25 1 (upi (XR X 25 1) k (XR X 25 1 k + 1))) 25 1 = upi (XR X 25 1) k (XR X 25 1 k + 1) := rfl
  have e6 : XF (sR X 25 1 (upi (XR X 25 1) k (XR X 25 1 k + 1))) 6 1 2 = XF X 6 1 2 := rfl
  rw [e, e6]
  simp only [upi_at]
  rcases hk with ⟨q, p⟩ | ⟨q, p⟩ | ⟨q, p⟩ <;> subst q <;> subst p <;> simp <;> omega
theorem NamI_S9 {w : Int → Int64} {so nu : Int → Int} {n : Int} {S S' : Int → Int} {nm : Int → Int64} (e : ∀ j, 0 ≤ j → j ≤ 3 → S' j = S j) (h : NamI w so nu n S nm) : NamI w so nu n S' nm := by
  have nc : ∀ s, ncS S' s = ncS S s := fun s => by
    have r := ci_rg s
    rw [nc_ci, nc_ci, e _ r.1 r.2]
  unfold NamI at *
  rw [e 0 (by decide) (by decide), e 1 (by decide) (by decide), e 2 (by decide) (by decide), e 3 (by decide) (by decide)]
  simp only [nc]
  exact h
theorem TbR_s {X X' : XS} {H : Int → Int} (s : DrS X X') (h : TbR X H) : TbR X' H := by
  obtain ⟨a1, a2, a3, a4, a5, a6, a7, a8, a9, a10, a11, a12, a13, a14⟩ := s
  unfold TbR at *
  rw [a2, a3, a4, a5, a6, a7, a8]; exact h
theorem CnR_s {X X' : XS} {H : Int → Int} (e : XR X' 25 1 = XR X 25 1) (e6 : XF X' 6 1 2 = XF X 6 1 2) (h : CnR X H) : CnR X' H := by
  unfold CnR at *
  rw [e, e6]; exact h
theorem TbR_H {X : XS} {H H' : Int → Int} (e : ∀ j, 7 ≤ j → H' j = H j) (h : TbR X H) : TbR X H' := by
  obtain ⟨h1, h2, h3, h4⟩ := h
  refine ⟨fun j j0 j1 => ?_, fun j j0 j1 => ?_, fun s t s0 s1 t0 t1 => ?_, fun j j0 j1 => ?_⟩
  · rw [e _ (by omega), e _ (by omega), e _ (by omega), e _ (by omega)]; exact h1 j j0 j1
  · rw [e _ (by omega), e _ (by omega)]; exact h2 j j0 j1
  · rw [e _ (by omega)]; exact h3 s t s0 s1 t0 t1
  · rw [e 7 (by omega)] at j1
    rw [e _ (by omega), e _ (by omega)]; exact h4 j j0 j1
theorem rl_hi {f0 : Nat} {Y : YS} {X : XS} (g : GY Y) (W : WF X) {k : Int} (hk : XF X 4 0 8 = k) (k0 : 8 ≤ k) (k6 : k ≤ 10) : fX7_readLine f0 (Ad Y 7 0) (hp Y X) = bX7_readLine_81 f0 (Ad Y 7 0) (iI k) (hp Y X) := by
  have c1 : ¬ k < 0 := by omega
  have c2 : k ≤ 10 := by omega
  have c3 : 6 < k := by omega
  have c4 : ¬ k = 7 := by omega
  simp (disch := first | assumption | omega | exact W_fl W _ _ _ | exact W_fh W _ _ _ | exact W_rl W _ _ _ | exact W_rh W _ _ _) only [fX7_readLine, bX7_readLine_59, g_7_0, g_4_8, g_7_1, g_6_1, k_4, l_25, li_0, li_10, li_6, li_4, ob2, g_7_2, li_7, li_3, Option.bind_some, iI_add, hk, iI_lt, iI_le, iI_eq, if_neg c1, if_pos c2, if_pos c3, if_neg c4]
