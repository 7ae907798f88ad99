/-! WHICH WORD IT IS: the reference -/
theorem rw_0 {f0 : Nat} {Y : YS} {X Z : XS} (g : GY Y) (W : WF Z) (c : TokC X) (r : TokR X Z) (rs : RsC X) : fX12_isWord f0 (Ad Y 12 0) 1886351988 (hp Y Z) = some (bI (XF X 4 0 8 = 0), hp Y Z) := by
  have h := r_isWord (f0 := f0) g W c r rs 0 (by decide)
  rw [show jN (v8 (wdB 0) (wdL 0)) = (1886351988 : Int64) by decide +kernel] at h
  exact h
theorem rw_1 {f0 : Nat} {Y : YS} {X Z : XS} (g : GY Y) (W : WF Z) (c : TokC X) (r : TokR X Z) (rs : RsC X) : fX12_isWord f0 (Ad Y 12 0) 7823737 (hp Y Z) = some (bI (XF X 4 0 8 = 1), hp Y Z) := by
  have h := r_isWord (f0 := f0) g W c r rs 1 (by decide)
  rw [show jN (v8 (wdB 1) (wdL 1)) = (7823737 : Int64) by decide +kernel] at h
  exact h
theorem rw_2 {f0 : Nat} {Y : YS} {X Z : XS} (g : GY Y) (W : WF Z) (c : TokC X) (r : TokR X Z) (rs : RsC X) : fX12_isWord f0 (Ad Y 12 0) 1835100524 (hp Y Z) = some (bI (XF X 4 0 8 = 2), hp Y Z) := by
  have h := r_isWord (f0 := f0) g W c r rs 2 (by decide)
  rw [show jN (v8 (wdB 2) (wdL 2)) = (1835100524 : Int64) by decide +kernel] at h
  exact h
theorem rw_3 {f0 : Nat} {Y : YS} {X Z : XS} (g : GY Y) (W : WF Z) (c : TokC X) (r : TokR X Z) (rs : RsC X) : fX12_isWord f0 (Ad Y 12 0) 1936222576 (hp Y Z) = some (bI (XF X 4 0 8 = 3), hp Y Z) := by
  have h := r_isWord (f0 := f0) g W c r rs 3 (by decide)
  rw [show jN (v8 (wdB 3) (wdL 3)) = (1936222576 : Int64) by decide +kernel] at h
  exact h
theorem rw_4 {f0 : Nat} {Y : YS} {X Z : XS} (g : GY Y) (W : WF Z) (c : TokC X) (r : TokR X Z) (rs : RsC X) : fX12_isWord f0 (Ad Y 12 0) 1919904869 (hp Y Z) = some (bI (XF X 4 0 8 = 4), hp Y Z) := by
  have h := r_isWord (f0 := f0) g W c r rs 4 (by decide)
  rw [show jN (v8 (wdB 4) (wdL 4)) = (1919904869 : Int64) by decide +kernel] at h
  exact h
theorem rw_5 {f0 : Nat} {Y : YS} {X Z : XS} (g : GY Y) (W : WF Z) (c : TokC X) (r : TokR X Z) (rs : RsC X) : fX12_isWord f0 (Ad Y 12 0) 7168366 (hp Y Z) = some (bI (XF X 4 0 8 = 5), hp Y Z) := by
  have h := r_isWord (f0 := f0) g W c r rs 5 (by decide)
  rw [show jN (v8 (wdB 5) (wdL 5)) = (7168366 : Int64) by decide +kernel] at h
  exact h
theorem rw_6 {f0 : Nat} {Y : YS} {X Z : XS} (g : GY Y) (W : WF Z) (c : TokC X) (r : TokR X Z) (rs : RsC X) : fX12_isWord f0 (Ad Y 12 0) 1918986606 (hp Y Z) = some (bI (XF X 4 0 8 = 6), hp Y Z) := by
  have h := r_isWord (f0 := f0) g W c r rs 6 (by decide)
  rw [show jN (v8 (wdB 6) (wdL 6)) = (1918986606 : Int64) by decide +kernel] at h
  exact h
theorem rw_7 {f0 : Nat} {Y : YS} {X Z : XS} (g : GY Y) (W : WF Z) (c : TokC X) (r : TokR X Z) (rs : RsC X) : fX12_isWord f0 (Ad Y 12 0) 123563834240884 (hp Y Z) = some (bI (XF X 4 0 8 = 7), hp Y Z) := by
  have h := r_isWord (f0 := f0) g W c r rs 7 (by decide)
  rw [show jN (v8 (wdB 7) (wdL 7)) = (123563834240884 : Int64) by decide +kernel] at h
  exact h
theorem rw_8 {f0 : Nat} {Y : YS} {X Z : XS} (g : GY Y) (W : WF Z) (c : TokC X) (r : TokR X Z) (rs : RsC X) : fX12_isWord f0 (Ad Y 12 0) 131260348654948 (hp Y Z) = some (bI (XF X 4 0 8 = 8), hp Y Z) := by
  have h := r_isWord (f0 := f0) g W c r rs 8 (by decide)
  rw [show jN (v8 (wdB 8) (wdL 8)) = (131260348654948 : Int64) by decide +kernel] at h
  exact h
theorem rw_9 {f0 : Nat} {Y : YS} {X Z : XS} (g : GY Y) (W : WF Z) (c : TokC X) (r : TokR X Z) (rs : RsC X) : fX12_isWord f0 (Ad Y 12 0) 1870095716 (hp Y Z) = some (bI (XF X 4 0 8 = 9), hp Y Z) := by
  have h := r_isWord (f0 := f0) g W c r rs 9 (by decide)
  rw [show jN (v8 (wdB 9) (wdL 9)) = (1870095716 : Int64) by decide +kernel] at h
  exact h
theorem rw_10 {f0 : Nat} {Y : YS} {X Z : XS} (g : GY Y) (W : WF Z) (c : TokC X) (r : TokR X Z) (rs : RsC X) : fX12_isWord f0 (Ad Y 12 0) 474147546227 (hp Y Z) = some (bI (XF X 4 0 8 = 10), hp Y Z) := by
  have h := r_isWord (f0 := f0) g W c r rs 10 (by decide)
  rw [show jN (v8 (wdB 10) (wdL 10)) = (474147546227 : Int64) by decide +kernel] at h
  exact h
theorem rw_11 {f0 : Nat} {Y : YS} {X Z : XS} (g : GY Y) (W : WF Z) (c : TokC X) (r : TokR X Z) (rs : RsC X) : fX12_isWord f0 (Ad Y 12 0) 495555538035 (hp Y Z) = some (bI (XF X 4 0 8 = 11), hp Y Z) := by
  have h := r_isWord (f0 := f0) g W c r rs 11 (by decide)
  rw [show jN (v8 (wdB 11) (wdL 11)) = (495555538035 : Int64) by decide +kernel] at h
  exact h
theorem rw_12 {f0 : Nat} {Y : YS} {X Z : XS} (g : GY Y) (W : WF Z) (c : TokC X) (r : TokR X Z) (rs : RsC X) : fX12_isWord f0 (Ad Y 12 0) 123563682985075 (hp Y Z) = some (bI (XF X 4 0 8 = 12), hp Y Z) := by
  have h := r_isWord (f0 := f0) g W c r rs 12 (by decide)
  rw [show jN (v8 (wdB 12) (wdL 12)) = (123563682985075 : Int64) by decide +kernel] at h
  exact h
theorem rw_13 {f0 : Nat} {Y : YS} {X Z : XS} (g : GY Y) (W : WF Z) (c : TokC X) (r : TokR X Z) (rs : RsC X) : fX12_isWord f0 (Ad Y 12 0) 512735409267 (hp Y Z) = some (bI (XF X 4 0 8 = 13), hp Y Z) := by
  have h := r_isWord (f0 := f0) g W c r rs 13 (by decide)
  rw [show jN (v8 (wdB 13) (wdL 13)) = (512735409267 : Int64) by decide +kernel] at h
  exact h
theorem rw_14 {f0 : Nat} {Y : YS} {X Z : XS} (g : GY Y) (W : WF Z) (c : TokC X) (r : TokR X Z) (rs : RsC X) : fX12_isWord f0 (Ad Y 12 0) 499850634611 (hp Y Z) = some (bI (XF X 4 0 8 = 14), hp Y Z) := by
  have h := r_isWord (f0 := f0) g W c r rs 14 (by decide)
  rw [show jN (v8 (wdB 14) (wdL 14)) = (499850634611 : Int64) by decide +kernel] at h
  exact h
theorem rw_15 {f0 : Nat} {Y : YS} {X Z : XS} (g : GY Y) (W : WF Z) (c : TokC X) (r : TokR X Z) (rs : RsC X) : fX12_isWord f0 (Ad Y 12 0) 119182682386035 (hp Y Z) = some (bI (XF X 4 0 8 = 15), hp Y Z) := by
  have h := r_isWord (f0 := f0) g W c r rs 15 (by decide)
  rw [show jN (v8 (wdB 15) (wdL 15)) = (119182682386035 : Int64) by decide +kernel] at h
  exact h
theorem rw_16 {f0 : Nat} {Y : YS} {X Z : XS} (g : GY Y) (W : WF Z) (c : TokC X) (r : TokR X Z) (rs : RsC X) : fX12_isWord f0 (Ad Y 12 0) 28530 (hp Y Z) = some (bI (XF X 4 0 8 = 16), hp Y Z) := by
  have h := r_isWord (f0 := f0) g W c r rs 16 (by decide)
  rw [show jN (v8 (wdB 16) (wdL 16)) = (28530 : Int64) by decide +kernel] at h
  exact h
theorem rw_17 {f0 : Nat} {Y : YS} {X Z : XS} (g : GY Y) (W : WF Z) (c : TokC X) (r : TokR X Z) (rs : RsC X) : fX12_isWord f0 (Ad Y 12 0) 6385252 (hp Y Z) = some (bI (XF X 4 0 8 = 17), hp Y Z) := by
  have h := r_isWord (f0 := f0) g W c r rs 17 (by decide)
  rw [show jN (v8 (wdB 17) (wdL 17)) = (6385252 : Int64) by decide +kernel] at h
  exact h
theorem rw_18 {f0 : Nat} {Y : YS} {X Z : XS} (g : GY Y) (W : WF Z) (c : TokC X) (r : TokR X Z) (rs : RsC X) : fX12_isWord f0 (Ad Y 12 0) 7237492 (hp Y Z) = some (bI (XF X 4 0 8 = 18), hp Y Z) := by
  have h := r_isWord (f0 := f0) g W c r rs 18 (by decide)
  rw [show jN (v8 (wdB 18) (wdL 18)) = (7237492 : Int64) by decide +kernel] at h
  exact h
theorem rw_19 {f0 : Nat} {Y : YS} {X Z : XS} (g : GY Y) (W : WF Z) (c : TokC X) (r : TokR X Z) (rs : RsC X) : fX12_isWord f0 (Ad Y 12 0) 1751478885 (hp Y Z) = some (bI (XF X 4 0 8 = 19), hp Y Z) := by
  have h := r_isWord (f0 := f0) g W c r rs 19 (by decide)
  rw [show jN (v8 (wdB 19) (wdL 19)) = (1751478885 : Int64) by decide +kernel] at h
  exact h
theorem rw_20 {f0 : Nat} {Y : YS} {X Z : XS} (g : GY Y) (W : WF Z) (c : TokC X) (r : TokR X Z) (rs : RsC X) : fX12_isWord f0 (Ad Y 12 0) 1650812270 (hp Y Z) = some (bI (XF X 4 0 8 = 20), hp Y Z) := by
  have h := r_isWord (f0 := f0) g W c r rs 20 (by decide)
  rw [show jN (v8 (wdB 20) (wdL 20)) = (1650812270 : Int64) by decide +kernel] at h
  exact h
theorem rw_21 {f0 : Nat} {Y : YS} {X Z : XS} (g : GY Y) (W : WF Z) (c : TokC X) (r : TokR X Z) (rs : RsC X) : fX12_isWord f0 (Ad Y 12 0) 1935763045 (hp Y Z) = some (bI (XF X 4 0 8 = 21), hp Y Z) := by
  have h := r_isWord (f0 := f0) g W c r rs 21 (by decide)
  rw [show jN (v8 (wdB 21) (wdL 21)) = (1935763045 : Int64) by decide +kernel] at h
  exact h
theorem rw_22 {f0 : Nat} {Y : YS} {X Z : XS} (g : GY Y) (W : WF Z) (c : TokC X) (r : TokR X Z) (rs : RsC X) : fX12_isWord f0 (Ad Y 12 0) 461414299507 (hp Y Z) = some (bI (XF X 4 0 8 = 22), hp Y Z) := by
  have h := r_isWord (f0 := f0) g W c r rs 22 (by decide)
  rw [show jN (v8 (wdB 22) (wdL 22)) = (461414299507 : Int64) by decide +kernel] at h
  exact h
theorem rw_23 {f0 : Nat} {Y : YS} {X Z : XS} (g : GY Y) (W : WF Z) (c : TokC X) (r : TokR X Z) (rs : RsC X) : fX12_isWord f0 (Ad Y 12 0) 448377483891 (hp Y Z) = some (bI (XF X 4 0 8 = 23), hp Y Z) := by
  have h := r_isWord (f0 := f0) g W c r rs 23 (by decide)
  rw [show jN (v8 (wdB 23) (wdL 23)) = (448377483891 : Int64) by decide +kernel] at h
  exact h
theorem rw_24 {f0 : Nat} {Y : YS} {X Z : XS} (g : GY Y) (W : WF Z) (c : TokC X) (r : TokR X Z) (rs : RsC X) : fX12_isWord f0 (Ad Y 12 0) 6709618 (hp Y Z) = some (bI (XF X 4 0 8 = 24), hp Y Z) := by
  have h := r_isWord (f0 := f0) g W c r rs 24 (by decide)
  rw [show jN (v8 (wdB 24) (wdL 24)) = (6709618 : Int64) by decide +kernel] at h
  exact h
theorem rw_25 {f0 : Nat} {Y : YS} {X Z : XS} (g : GY Y) (W : WF Z) (c : TokC X) (r : TokR X Z) (rs : RsC X) : fX12_isWord f0 (Ad Y 12 0) 474080961907 (hp Y Z) = some (bI (XF X 4 0 8 = 25), hp Y Z) := by
  have h := r_isWord (f0 := f0) g W c r rs 25 (by decide)
  rw [show jN (v8 (wdB 25) (wdL 25)) = (474080961907 : Int64) by decide +kernel] at h
  exact h
theorem rw_26 {f0 : Nat} {Y : YS} {X Z : XS} (g : GY Y) (W : WF Z) (c : TokC X) (r : TokR X Z) (rs : RsC X) : fX12_isWord f0 (Ad Y 12 0) 121450625394034 (hp Y Z) = some (bI (XF X 4 0 8 = 26), hp Y Z) := by
  have h := r_isWord (f0 := f0) g W c r rs 26 (by decide)
  rw [show jN (v8 (wdB 26) (wdL 26)) = (121450625394034 : Int64) by decide +kernel] at h
  exact h
theorem ob2_zr {x : Option (Int32 × Hp)} (h : ∀ v h', x = some (v, h') → v = 0 ∨ v = 1) : ob2 x (fun a h => zr a h) = x := by
  cases x with
  | none => rfl
  | some p =>
    obtain ⟨v, h'⟩ := p
    have := h v h' rfl
    show zr v h' = some (v, h')
    unfold zr; rw [if_pos this]
theorem ln_0 {f0 : Nat} {Y : YS} {X Z : XS} (g : GY Y) (W : WF Z) (c : TokC X) (r : TokR X Z) (rs : RsC X) (hk : XF X 4 0 8 = 0) : fX12_line f0 (Ad Y 12 0) (hp Y Z) = ob2 (fX12_tells f0 (Ad Y 12 0) 0 8 30 (hp Y Z)) (fun x h => zr x h) := by
  simp (disch := first | assumption | omega) only [fX12_line, ob2_some, k_12, rw_0 g W c r rs, li_0, bI_i0, ite_n, if_pos hk]
theorem ln_3 {f0 : Nat} {Y : YS} {X Z : XS} (g : GY Y) (W : WF Z) (c : TokC X) (r : TokR X Z) (rs : RsC X) (hk : XF X 4 0 8 = 3) : fX12_line f0 (Ad Y 12 0) (hp Y Z) = ob2 (fX12_tells f0 (Ad Y 12 0) 1 8 38 (hp Y Z)) (fun x h => zr x h) := by
  have n0 : ¬ XF X 4 0 8 = 0 := by omega
  simp (disch := first | assumption | omega) only [fX12_line, ob2_some, k_12, rw_0 g W c r rs, rw_3 g W c r rs, li_0, bI_i0, ite_n, if_neg n0, if_pos hk]
theorem ln_4 {f0 : Nat} {Y : YS} {X Z : XS} (g : GY Y) (W : WF Z) (c : TokC X) (r : TokR X Z) (rs : RsC X) (hk : XF X 4 0 8 = 4) : fX12_line f0 (Ad Y 12 0) (hp Y Z) = ob2 (fX12_tells f0 (Ad Y 12 0) 2 6 46 (hp Y Z)) (fun x h => zr x h) := by
  have n0 : ¬ XF X 4 0 8 = 0 := by omega
  have n3 : ¬ XF X 4 0 8 = 3 := by omega
  simp (disch := first | assumption | omega) only [fX12_line, ob2_some, k_12, rw_0 g W c r rs, rw_3 g W c r rs, rw_4 g W c r rs, li_0, bI_i0, ite_n, if_neg n0, if_neg n3, if_pos hk]
theorem ln_1 {f0 : Nat} {Y : YS} {X Z : XS} (g : GY Y) (W : WF Z) (c : TokC X) (r : TokR X Z) (rs : RsC X) (hk : XF X 4 0 8 = 1) : fX12_line f0 (Ad Y 12 0) (hp Y Z) = ob2 (fX12_readWay f0 (Ad Y 12 0) 8 4 16 20 (hp Y Z)) (fun x h => zr x h) := by
  have n0 : ¬ XF X 4 0 8 = 0 := by omega
  have n3 : ¬ XF X 4 0 8 = 3 := by omega
  have n4 : ¬ XF X 4 0 8 = 4 := by omega
  simp (disch := first | assumption | omega) only [fX12_line, ob2_some, k_12, rw_0 g W c r rs, rw_3 g W c r rs, rw_4 g W c r rs, rw_1 g W c r rs, li_0, bI_i0, ite_n, if_neg n0, if_neg n3, if_neg n4, if_pos hk]
theorem ln_2 {f0 : Nat} {Y : YS} {X Z : XS} (g : GY Y) (W : WF Z) (c : TokC X) (r : TokR X Z) (rs : RsC X) (hk : XF X 4 0 8 = 2) : fX12_line f0 (Ad Y 12 0) (hp Y Z) = ob2 (fX12_readWay f0 (Ad Y 12 0) 72 5 20 40 (hp Y Z)) (fun x h => zr x h) := by
  have n0 : ¬ XF X 4 0 8 = 0 := by omega
  have n3 : ¬ XF X 4 0 8 = 3 := by omega
  have n4 : ¬ XF X 4 0 8 = 4 := by omega
  have n1 : ¬ XF X 4 0 8 = 1 := by omega
  simp (disch := first | assumption | omega) only [fX12_line, ob2_some, k_12, rw_0 g W c r rs, rw_3 g W c r rs, rw_4 g W c r rs, rw_1 g W c r rs, rw_2 g W c r rs, li_0, bI_i0, ite_n, if_neg n0, if_neg n3, if_neg n4, if_neg n1, if_pos hk]
theorem ln_8 {f0 : Nat} {Y : YS} {X Z : XS} (g : GY Y) (W : WF Z) (c : TokC X) (r : TokR X Z) (rs : RsC X) (hk : XF X 4 0 8 = 8) : fX12_line f0 (Ad Y 12 0) (hp Y Z) = ob2 (fX12_readPrice f0 (Ad Y 12 0) 136 (hp Y Z)) (fun x h => zr x h) := by
  have n0 : ¬ XF X 4 0 8 = 0 := by omega
  have n3 : ¬ XF X 4 0 8 = 3 := by omega
  have n4 : ¬ XF X 4 0 8 = 4 := by omega
  have n1 : ¬ XF X 4 0 8 = 1 := by omega
  have n2 : ¬ XF X 4 0 8 = 2 := by omega
  simp (disch := first | assumption | omega) only [fX12_line, ob2_some, k_12, rw_0 g W c r rs, rw_3 g W c r rs, rw_4 g W c r rs, rw_1 g W c r rs, rw_2 g W c r rs, rw_8 g W c r rs, li_0, bI_i0, ite_n, if_neg n0, if_neg n3, if_neg n4, if_neg n1, if_neg n2, if_pos hk]
theorem ln_9 {f0 : Nat} {Y : YS} {X Z : XS} (g : GY Y) (W : WF Z) (c : TokC X) (r : TokR X Z) (rs : RsC X) (hk : XF X 4 0 8 = 9) : fX12_line f0 (Ad Y 12 0) (hp Y Z) = ob2 (fX12_readPrice f0 (Ad Y 12 0) 200 (hp Y Z)) (fun x h => zr x h) := by
  have n0 : ¬ XF X 4 0 8 = 0 := by omega
  have n3 : ¬ XF X 4 0 8 = 3 := by omega
  have n4 : ¬ XF X 4 0 8 = 4 := by omega
  have n1 : ¬ XF X 4 0 8 = 1 := by omega
  have n2 : ¬ XF X 4 0 8 = 2 := by omega
  have n8 : ¬ XF X 4 0 8 = 8 := by omega
  simp (disch := first | assumption | omega) only [fX12_line, ob2_some, k_12, rw_0 g W c r rs, rw_3 g W c r rs, rw_4 g W c r rs, rw_1 g W c r rs, rw_2 g W c r rs, rw_8 g W c r rs, rw_9 g W c r rs, li_0, bI_i0, ite_n, if_neg n0, if_neg n3, if_neg n4, if_neg n1, if_neg n2, if_neg n8, if_pos hk]
theorem ln_5 {f0 : Nat} {Y : YS} {X Z : XS} (g : GY Y) (W : WF Z) (c : TokC X) (r : TokR X Z) (rs : RsC X) (hk : XF X 4 0 8 = 5) : fX12_line f0 (Ad Y 12 0) (hp Y Z) = ob2 (fX12_readMan f0 (Ad Y 12 0) (hp Y Z)) (fun x h => zr x h) := by
  have n0 : ¬ XF X 4 0 8 = 0 := by omega
  have n3 : ¬ XF X 4 0 8 = 3 := by omega
  have n4 : ¬ XF X 4 0 8 = 4 := by omega
  have n1 : ¬ XF X 4 0 8 = 1 := by omega
  have n2 : ¬ XF X 4 0 8 = 2 := by omega
  have n8 : ¬ XF X 4 0 8 = 8 := by omega
  have n9 : ¬ XF X 4 0 8 = 9 := by omega
  simp (disch := first | assumption | omega) only [fX12_line, ob2_some, k_12, rw_0 g W c r rs, rw_3 g W c r rs, rw_4 g W c r rs, rw_1 g W c r rs, rw_2 g W c r rs, rw_8 g W c r rs, rw_9 g W c r rs, rw_5 g W c r rs, li_0, bI_i0, ite_n, if_neg n0, if_neg n3, if_neg n4, if_neg n1, if_neg n2, if_neg n8, if_neg n9, if_pos hk]
theorem ln_6 {f0 : Nat} {Y : YS} {X Z : XS} (g : GY Y) (W : WF Z) (c : TokC X) (r : TokR X Z) (rs : RsC X) (hk : XF X 4 0 8 = 6) : fX12_line f0 (Ad Y 12 0) (hp Y Z) = ob2 (fX12_readRain f0 (Ad Y 12 0) (hp Y Z)) (fun x h => zr x h) := by
  have n0 : ¬ XF X 4 0 8 = 0 := by omega
  have n3 : ¬ XF X 4 0 8 = 3 := by omega
  have n4 : ¬ XF X 4 0 8 = 4 := by omega
  have n1 : ¬ XF X 4 0 8 = 1 := by omega
  have n2 : ¬ XF X 4 0 8 = 2 := by omega
  have n8 : ¬ XF X 4 0 8 = 8 := by omega
  have n9 : ¬ XF X 4 0 8 = 9 := by omega
  have n5 : ¬ XF X 4 0 8 = 5 := by omega
  simp (disch := first | assumption | omega) only [fX12_line, ob2_some, k_12, rw_0 g W c r rs, rw_3 g W c r rs, rw_4 g W c r rs, rw_1 g W c r rs, rw_2 g W c r rs, rw_8 g W c r rs, rw_9 g W c r rs, rw_5 g W c r rs, rw_6 g W c r rs, li_0, bI_i0, ite_n, if_neg n0, if_neg n3, if_neg n4, if_neg n1, if_neg n2, if_neg n8, if_neg n9, if_neg n5, if_pos hk]
theorem ln_n {f0 : Nat} {Y : YS} {X Z : XS} (g : GY Y) (W : WF Z) (c : TokC X) (r : TokR X Z) (rs : RsC X) (hk : XF X 4 0 8 < 0 ∨ 10 < XF X 4 0 8) : fX12_line f0 (Ad Y 12 0) (hp Y Z) = some (0, hp Y (rfR Z 1)) := by
  have n0 : ¬ XF X 4 0 8 = 0 := by omega
  have n3 : ¬ XF X 4 0 8 = 3 := by omega
  have n4 : ¬ XF X 4 0 8 = 4 := by omega
  have n1 : ¬ XF X 4 0 8 = 1 := by omega
  have n2 : ¬ XF X 4 0 8 = 2 := by omega
  have n8 : ¬ XF X 4 0 8 = 8 := by omega
  have n9 : ¬ XF X 4 0 8 = 9 := by omega
  have n5 : ¬ XF X 4 0 8 = 5 := by omega
  have n6 : ¬ XF X 4 0 8 = 6 := by omega
  have n10 : ¬ XF X 4 0 8 = 10 := by omega
  have n7 : ¬ XF X 4 0 8 = 7 := by omega
  simp (disch := first | assumption | omega) only [fX12_line, ob2_some, k_12, rw_0 g W c r rs, rw_3 g W c r rs, rw_4 g W c r rs, rw_1 g W c r rs, rw_2 g W c r rs, rw_8 g W c r rs, rw_9 g W c r rs, rw_5 g W c r rs, rw_6 g W c r rs, rw_10 g W c r rs, rw_7 g W c r rs, li_0, bI_i0, ite_n, if_neg n0, if_neg n3, if_neg n4, if_neg n1, if_neg n2, if_neg n8, if_neg n9, if_neg n5, if_neg n6, if_neg n10, if_neg n7, li_1, r_bad g]
  exact zr_i0
