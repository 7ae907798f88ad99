/-! who plays a role; painting; draws -/
theorem bitI_N (M : Nat) (i : Int) : bitI (M : Int) i = M.testBit i.toNat := rfl
/-- the least below n for which p holds; -1: none -/
def fb (p : Int → Bool) : Nat → Int
  | 0 => -1
  | n + 1 => if fb p n = -1 then (if p (n : Int) = true then (n : Int) else -1) else fb p n
theorem fb_no {p : Int → Bool} : ∀ {n : Nat}, (∀ i : Int, 0 ≤ i → i < (n : Int) → ¬ p i = true) → fb p n = -1
  | 0, _ => rfl
  | n + 1, h => by
    rw [fb, fb_no (fun i h0 h1 => h i h0 (by omega)), if_pos rfl, if_neg (h n (by omega) (by omega))]
theorem fb_is {p : Int → Bool} : ∀ {n : Nat} {i : Int}, 0 ≤ i → i < (n : Int) → p i = true → (∀ j : Int, 0 ≤ j → j < i → ¬ p j = true) → fb p n = i
  | 0, i, h0, h1, _, _ => by omega
  | n + 1, i, h0, h1, hp, hn => by
    rw [fb]
    by_cases e : i = (n : Int)
    · subst e
      rw [fb_no (fun j j0 j1 => hn j j0 j1), if_pos rfl, if_pos hp]
    · rw [fb_is h0 (by omega) hp hn, if_neg (by omega)]
theorem fb_rg (p : Int → Bool) : ∀ n : Nat, -1 ≤ fb p n ∧ fb p n < n
  | 0 => by simp [fb]
  | n + 1 => by
    have := fb_rg p n
    rw [fb]; (repeat' split) <;> omega
def ffB (sk : Int → Int) (r : Int) (a M : Nat) (w : Int) : Int → Bool := fun m => M.testBit m.toNat && decide ((if bitI (sk m) r = true then 0 else 1) + lackF sk (clr a r.toNat) (clr M m.toNat) = w)
def ffA (sk : Int → Int) (r : Int) (a M : Nat) : Int := fb (ffB sk r a M (lackF sk a M)) 8
theorem d_firstFitting {f0 : Nat} {Y : YS} {X : XS} {k : Nat} {d : D5} (g : GY Y) (hk : k < 10) (W : WF X) (Wd : WD d) (hd : CD X d) {r : Int} (r0 : 0 ≤ r) (r1 : r < 6) {a M : Nat} (ha : a < 64) (hM : M < 256) (hf : 100 ≤ f0) : fX10_firstFitting f0 (Ad Y 10 k) (iI r) (iI (a : Int)) (iI (M : Int)) (hp Y (shS X k d)) = some (iI (ffA d.2.2.2.1 r a M), hp Y (shS X k d)) := by
  have gk := ShO_k g hk
  simp (disch := first | assumption | omega | exact W_fl W _ _ _ | exact W_fh W _ _ _ | exact W_rl W _ _ _ | exact W_rh W _ _ _ | exact Wd_fl Wd _ | exact Wd_fh Wd _ | exact Wd_4l Wd _ | exact Wd_4h Wd _ | exact Wd_1l Wd _ | exact Wd_1h Wd _ | exact Wd_2l Wd _ | exact Wd_2h Wd _ | exact Wd_3l Wd _ | exact Wd_3h Wd _) only [iI_lt, iI_le, iI_eq, bI_i0, ite_n, ii_bit, ii_one, iI_or, fX10_firstFitting, k_10, li_0, ob2, Option.bind_some, iI_add, d_lacking]
  have hw := lackF_rg d.2.2.2.1 a M
  unfold ffA
  generalize lackF d.2.2.2.1 a M = w at *
  refine lp (fun f (i : Int) => bX10_firstFitting_11 f0 f (Ad Y 10 k) (iI r) (iI (a : Int)) (iI (M : Int)) (iI w) (iI i) (hp Y (shS X k d))) (fun i => (0 ≤ i ∧ i ≤ 8) ∧ ∀ j : Int, 0 ≤ j → j < i → ¬ ffB d.2.2.2.1 r a M w j = true) (fun i => (17 - i).toNat) (fun r => r = _) ?_ f0 0 ⟨⟨by omega, by omega⟩, fun j _ _ => by omega⟩ (by omega)
  intro f i ⟨⟨hi, hi8⟩, hj⟩
  by_cases c : 8 ≤ i
  · left
    simp (disch := first | assumption | omega | exact W_fl W _ _ _ | exact W_fh W _ _ _ | exact W_rl W _ _ _ | exact W_rh W _ _ _ | exact Wd_fl Wd _ | exact Wd_fh Wd _ | exact Wd_4l Wd _ | exact Wd_4h Wd _ | exact Wd_1l Wd _ | exact Wd_1h Wd _ | exact Wd_2l Wd _ | exact Wd_2h Wd _ | exact Wd_3l Wd _ | exact Wd_3h Wd _) only [iI_lt, iI_le, iI_eq, bI_i0, ite_n, ii_bit, ii_one, iI_or, bX10_firstFitting_11, g_10_11, l_45, lm_1, li_0, li_1, li_8, li_31, iI_add, Option.bind_some, iI_neg, if_pos c]
    rw [fb_no (fun j j0 j1 => hj j j0 (by omega))]
  · have hs := hd.2.2.2.2.2.2.1 i hi (by omega)
    have hl := lackF_rg d.2.2.2.1 (clr a r.toNat) (clr M i.toNat)
    have ha2 : clr a r.toNat < 64 := Nat.lt_of_le_of_lt (clr_le (by omega) (by omega)) ha
    have hM2 : clr M i.toNat < 256 := Nat.lt_of_le_of_lt (clr_le (by omega) (by omega)) hM
    have hnext : (¬ ffB d.2.2.2.1 r a M w i = true) → ((0 ≤ i + 1 ∧ i + 1 ≤ 8) ∧ ∀ j : Int, 0 ≤ j → j < i + 1 → ¬ ffB d.2.2.2.1 r a M w j = true) := fun h => ⟨⟨by omega, by omega⟩, fun j j0 j1 => by
      by_cases q : j = i
      · rw [q]; exact h
      · exact hj j j0 (by omega)⟩
    by_cases a1 : M.testBit i.toNat = true
    · by_cases a2 : bitI (d.2.2.2.1 i) r = true
      · by_cases a3 : 0 + lackF d.2.2.2.1 (clr a r.toNat) (clr M i.toNat) = w
        · left
          simp (disch := first | omega | first | assumption | omega | exact W_fl W _ _ _ | exact W_fh W _ _ _ | exact W_rl W _ _ _ | exact W_rh W _ _ _ | exact Wd_fl Wd _ | exact Wd_fh Wd _ | exact Wd_4l Wd _ | exact Wd_4h Wd _ | exact Wd_1l Wd _ | exact Wd_1h Wd _ | exact Wd_2l Wd _ | exact Wd_2h Wd _ | exact Wd_3l Wd _ | exact Wd_3h Wd _) only [bX10_firstFitting_11, bX10_firstFitting_49, g_10_11, l_45, lm_1, li_0, li_1, li_8, li_31, iI_add, k_10, ob2, Option.bind_some, iI_neg, XF_shk, XF_sh6, XF_sh12, XF_sh11, XF_sh4, XR_sh43, XR_sh44, XR_sh45, XR_sh46, XR_sh25, XR_sh26, XR_sh27, XR_sh28, XR_sh29, XR_sh31, XR_sh32, XR_sh33, XR_sh34, XR_sh35, sF_sh, sR_sh43, sR_sh44, sR_sh45, sR_sh46, XJ_sh, XP_sh, XM_sh, iI_le, iI_eq, ii_bit, ii_one, ii_clr, d_lacking, bI_i0, ite_n, if_neg c, if_pos (show bitI (M : Int) i = true from a1), if_pos a2, if_pos a3]
          rw [fb_is hi (by omega) (by simp only [ffB, a1, a2, Bool.true_and, if_true]; exact decide_eq_true a3) hj]
        · right
          refine ⟨i + 1, ?_, hnext (by simp only [ffB, a1, a2, Bool.true_and, if_true]; simpa using a3), by omega⟩
          simp (disch := first | omega | first | assumption | omega | exact W_fl W _ _ _ | exact W_fh W _ _ _ | exact W_rl W _ _ _ | exact W_rh W _ _ _ | exact Wd_fl Wd _ | exact Wd_fh Wd _ | exact Wd_4l Wd _ | exact Wd_4h Wd _ | exact Wd_1l Wd _ | exact Wd_1h Wd _ | exact Wd_2l Wd _ | exact Wd_2h Wd _ | exact Wd_3l Wd _ | exact Wd_3h Wd _) only [bX10_firstFitting_11, bX10_firstFitting_49, bX10_firstFitting_81, g_10_11, l_45, lm_1, li_0, li_1, li_8, li_31, iI_add, k_10, ob2, Option.bind_some, iI_neg, XF_shk, XF_sh6, XF_sh12, XF_sh11, XF_sh4, XR_sh43, XR_sh44, XR_sh45, XR_sh46, XR_sh25, XR_sh26, XR_sh27, XR_sh28, XR_sh29, XR_sh31, XR_sh32, XR_sh33, XR_sh34, XR_sh35, sF_sh, sR_sh43, sR_sh44, sR_sh45, sR_sh46, XJ_sh, XP_sh, XM_sh, iI_le, iI_eq, ii_bit, ii_one, ii_clr, d_lacking, bI_i0, ite_n, if_neg c, if_pos (show bitI (M : Int) i = true from a1), if_pos a2, if_neg a3]
      · by_cases a3 : 1 + lackF d.2.2.2.1 (clr a r.toNat) (clr M i.toNat) = w
        · left
          simp (disch := first | omega | first | assumption | omega | exact W_fl W _ _ _ | exact W_fh W _ _ _ | exact W_rl W _ _ _ | exact W_rh W _ _ _ | exact Wd_fl Wd _ | exact Wd_fh Wd _ | exact Wd_4l Wd _ | exact Wd_4h Wd _ | exact Wd_1l Wd _ | exact Wd_1h Wd _ | exact Wd_2l Wd _ | exact Wd_2h Wd _ | exact Wd_3l Wd _ | exact Wd_3h Wd _) only [bX10_firstFitting_11, bX10_firstFitting_49, g_10_11, l_45, lm_1, li_0, li_1, li_8, li_31, iI_add, k_10, ob2, Option.bind_some, iI_neg, XF_shk, XF_sh6, XF_sh12, XF_sh11, XF_sh4, XR_sh43, XR_sh44, XR_sh45, XR_sh46, XR_sh25, XR_sh26, XR_sh27, XR_sh28, XR_sh29, XR_sh31, XR_sh32, XR_sh33, XR_sh34, XR_sh35, sF_sh, sR_sh43, sR_sh44, sR_sh45, sR_sh46, XJ_sh, XP_sh, XM_sh, iI_le, iI_eq, ii_bit, ii_one, ii_clr, d_lacking, bI_i0, ite_n, if_neg c, if_pos (show bitI (M : Int) i = true from a1), if_neg a2, if_pos a3]
          rw [fb_is hi (by omega) (by simp only [ffB, a1, if_neg a2, Bool.true_and]; exact decide_eq_true a3) hj]
        · right
          refine ⟨i + 1, ?_, hnext (by simp only [ffB, a1, if_neg a2, Bool.true_and]; simpa using a3), by omega⟩
          simp (disch := first | omega | first | assumption | omega | exact W_fl W _ _ _ | exact W_fh W _ _ _ | exact W_rl W _ _ _ | exact W_rh W _ _ _ | exact Wd_fl Wd _ | exact Wd_fh Wd _ | exact Wd_4l Wd _ | exact Wd_4h Wd _ | exact Wd_1l Wd _ | exact Wd_1h Wd _ | exact Wd_2l Wd _ | exact Wd_2h Wd _ | exact Wd_3l Wd _ | exact Wd_3h Wd _) only [bX10_firstFitting_11, bX10_firstFitting_49, bX10_firstFitting_81, g_10_11, l_45, lm_1, li_0, li_1, li_8, li_31, iI_add, k_10, ob2, Option.bind_some, iI_neg, XF_shk, XF_sh6, XF_sh12, XF_sh11, XF_sh4, XR_sh43, XR_sh44, XR_sh45, XR_sh46, XR_sh25, XR_sh26, XR_sh27, XR_sh28, XR_sh29, XR_sh31, XR_sh32, XR_sh33, XR_sh34, XR_sh35, sF_sh, sR_sh43, sR_sh44, sR_sh45, sR_sh46, XJ_sh, XP_sh, XM_sh, iI_le, iI_eq, ii_bit, ii_one, ii_clr, d_lacking, bI_i0, ite_n, if_neg c, if_pos (show bitI (M : Int) i = true from a1), if_neg a2, if_neg a3]
    · right
      refine ⟨i + 1, ?_, hnext (by simp [ffB, a1]), by omega⟩
      simp (disch := first | omega | first | assumption | omega | exact W_fl W _ _ _ | exact W_fh W _ _ _ | exact W_rl W _ _ _ | exact W_rh W _ _ _ | exact Wd_fl Wd _ | exact Wd_fh Wd _ | exact Wd_4l Wd _ | exact Wd_4h Wd _ | exact Wd_1l Wd _ | exact Wd_1h Wd _ | exact Wd_2l Wd _ | exact Wd_2h Wd _ | exact Wd_3l Wd _ | exact Wd_3h Wd _) only [bX10_firstFitting_11, bX10_firstFitting_81, g_10_11, l_45, lm_1, li_0, li_1, li_8, li_31, iI_add, Option.bind_some, iI_neg, XF_shk, XF_sh6, XF_sh12, XF_sh11, XF_sh4, XR_sh43, XR_sh44, XR_sh45, XR_sh46, XR_sh25, XR_sh26, XR_sh27, XR_sh28, XR_sh29, XR_sh31, XR_sh32, XR_sh33, XR_sh34, XR_sh35, sF_sh, sR_sh43, sR_sh44, sR_sh45, sR_sh46, XJ_sh, XP_sh, XM_sh, iI_le, ii_bitN, bI_i0, ite_n, if_neg c, if_neg a1]
theorem pw_men {m : Int} (h0 : 0 ≤ m) (h8 : m ≤ 8) : iI (pw m - 1) = iI ((2 ^ m.toNat - 1 : Nat) : Int) ∧ 2 ^ m.toNat - 1 < 256 := by
  have h1 : 0 < 2 ^ m.toNat := Nat.two_pow_pos _
  have h2 : 2 ^ m.toNat ≤ 2 ^ 8 := Nat.pow_le_pow_right (by decide) (by omega)
  refine ⟨congrArg iI ?_, by omega⟩
  unfold pw; omega
def allM (X : XS) : Nat := 2 ^ (XR X 25 0 5).toNat - 1
theorem d_allMen {f0 : Nat} {Y : YS} {X : XS} {k : Nat} {d : D5} (g : GY Y) (hk : k < 10) (hC : CSea X 0) : fX10_allMen f0 (Ad Y 10 k) (hp Y (shS X k d)) = some (iI (allM X : Int), hp Y (shS X k d)) := by
  have gk := ShO_k g hk; have gs := SeO_0 g
  have h5 := hC.2.2.2.1
  simp (disch := first | assumption | omega) only [fX10_allMen, g10s, g_6_1, l_25, li_5, li_1, li_31, iI_sub, Option.bind_some, iI_add, ii_one, XF_shk, XF_sh6, XF_sh12, XF_sh11, XF_sh4, XR_sh43, XR_sh44, XR_sh45, XR_sh46, XR_sh25, XR_sh26, XR_sh27, XR_sh28, XR_sh29, XR_sh31, XR_sh32, XR_sh33, XR_sh34, XR_sh35, sF_sh, sR_sh43, sR_sh44, sR_sh45, sR_sh46, XJ_sh, XP_sh, XM_sh]
  rw [(pw_men h5.1 h5.2).1]; rfl
theorem d_hasMenFor {f0 : Nat} {Y : YS} {X : XS} {k : Nat} {d : D5} (g : GY Y) (hk : k < 10) (W : WF X) (hC : CSea X 0) {s : Int} (s0 : 0 ≤ s) (s8 : s < 8) : fX10_hasMenFor f0 (Ad Y 10 k) (iI s) (hp Y (shS X k d)) = some (bI (pc (XR X 33 0 s).toNat ≤ XR X 25 0 5), hp Y (shS X k d)) := by
  have gk := ShO_k g hk; have gs := SeO_0 g
  have h5 := hC.2.2.2.1
  have hr := hC.2.2.2.2.2.2.2.2.2.1 s s0 s8
  have hpc := pc_rg (XR X 33 0 s).toNat
  have e : iI (XR X 33 0 s) = iI (((XR X 33 0 s).toNat : Nat) : Int) := congrArg iI (by omega)
  simp (disch := first | omega | first | assumption | omega | exact W_fl W _ _ _ | exact W_fh W _ _ _ | exact W_rl W _ _ _ | exact W_rh W _ _ _ | exact Wd_fl Wd _ | exact Wd_fh Wd _ | exact Wd_4l Wd _ | exact Wd_4h Wd _ | exact Wd_1l Wd _ | exact Wd_1h Wd _ | exact Wd_2l Wd _ | exact Wd_2h Wd _ | exact Wd_3l Wd _ | exact Wd_3h Wd _) only [fX10_hasMenFor, g10s, g_6_10, g_6_1, l_25, l_33, li_5, li_0, li_1, ob2, Option.bind_some, iI_add, XF_shk, XF_sh6, XF_sh12, XF_sh11, XF_sh4, XR_sh43, XR_sh44, XR_sh45, XR_sh46, XR_sh25, XR_sh26, XR_sh27, XR_sh28, XR_sh29, XR_sh31, XR_sh32, XR_sh33, XR_sh34, XR_sh35, sF_sh, sR_sh43, sR_sh44, sR_sh45, sR_sh46, XJ_sh, XP_sh, XM_sh, e, bc_e, iI_lt]
  (repeat' split) <;> first | (rw [zr_i0, bI_F (by omega)]) | (rw [zr_i1, bI_T (by omega)])
/-- the players of the first n roles: men left, roles left, the last player; none: one can't be given -/
def plS (sk : Int → Int) (a M : Nat) : Nat → Option (Nat × Nat × Int)
  | 0 => some (M, a, -1)
  | n + 1 => (plS sk a M n).bind fun t => if t.2.1.testBit n = true then (if ffA sk n t.2.1 t.1 = -1 then none else some (clr t.1 (ffA sk n t.2.1 t.1).toNat, clr t.2.1 n, ffA sk n t.2.1 t.1)) else some t
def plA (sk : Int → Int) (a M n : Nat) : Int := match plS sk a M n with
  | none => -1
  | some t => t.2.2
theorem plS_n {sk : Int → Int} {a M : Nat} {n m : Nat} (h : plS sk a M n = none) (hm : n ≤ m) : plS sk a M m = none := by
  induction m with
  | zero => rw [show n = 0 by omega] at h; exact h
  | succ m ih =>
    by_cases e : n = m + 1
    · rw [← e]; exact h
    · rw [plS, ih (by omega)]; rfl
theorem d_playerOf {f0 : Nat} {Y : YS} {X : XS} {k : Nat} {d : D5} (g : GY Y) (hk : k < 10) (W : WF X) (Wd : WD d) (hC : CSea X 0) (hd : CD X d) {r : Int} (r0 : 0 ≤ r) (r1 : r < 6) {a : Nat} (ha : a < 64) (hf : 100 ≤ f0) : fX10_playerOf f0 (Ad Y 10 k) (iI r) (iI (a : Int)) (hp Y (shS X k d)) = some (iI (plA d.2.2.2.1 a (allM X) (r + 1).toNat), hp Y (shS X k d)) := by
  have gk := ShO_k g hk
  have h5 := hC.2.2.2.1
  have hMM : allM X < 256 := (pw_men h5.1 h5.2).2
  simp (disch := first | assumption | omega) only [fX10_playerOf, k_10, lm_1, li_1, li_0, ob2, Option.bind_some, iI_add, iI_neg, d_allMen]
  refine lp (fun f (s : Int × Nat × Nat × Int) => bX10_playerOf_14 f0 f (Ad Y 10 k) (iI r) (iI (s.2.1 : Int)) (iI (s.2.2.1 : Int)) (iI s.2.2.2) (iI s.1) (hp Y (shS X k d))) (fun s => (0 ≤ s.1 ∧ s.1 ≤ r + 1) ∧ s.2.1 < 256 ∧ s.2.2.1 < 64 ∧ plS d.2.2.2.1 a (allM X) s.1.toNat = some s.2) (fun s => (17 - s.1).toNat) (fun r => r = _) ?_ f0 (0, allM X, a, -1) ⟨⟨by simp, by simp only []; omega⟩, hMM, ha, rfl⟩ (by simp only []; omega)
  intro f s ⟨⟨h0, h1⟩, hM, ha', hp1⟩
  by_cases c : r < s.1
  · left
    simp (disch := first | omega | first | assumption | omega | exact W_fl W _ _ _ | exact W_fh W _ _ _ | exact W_rl W _ _ _ | exact W_rh W _ _ _ | exact Wd_fl Wd _ | exact Wd_fh Wd _ | exact Wd_4l Wd _ | exact Wd_4h Wd _ | exact Wd_1l Wd _ | exact Wd_1h Wd _ | exact Wd_2l Wd _ | exact Wd_2h Wd _ | exact Wd_3l Wd _ | exact Wd_3h Wd _) only [bX10_playerOf_14, k_10, lm_1, li_0, li_1, li_31, ob2, iI_add, Option.bind_some, iI_neg, iI_lt, if_pos c]
    rw [show (r + 1).toNat = s.1.toNat by omega]
    unfold plA
    rw [hp1]
  · have e2 : (s.1 + 1).toNat = s.1.toNat + 1 := by omega
    have e3 : ((s.1.toNat : Nat) : Int) = s.1 := by omega
    have hff := fb_rg (ffB d.2.2.2.1 s.1 s.2.2.1 s.2.1 (lackF d.2.2.2.1 s.2.2.1 s.2.1)) 8
    have hff' : -1 ≤ ffA d.2.2.2.1 s.1 s.2.2.1 s.2.1 ∧ ffA d.2.2.2.1 s.1 s.2.2.1 s.2.1 < 8 := hff
    by_cases a1 : s.2.2.1.testBit s.1.toNat = true
    · by_cases a2 : ffA d.2.2.2.1 s.1 s.2.2.1 s.2.1 = -1
      · left
        simp (disch := first | omega | first | assumption | omega | exact W_fl W _ _ _ | exact W_fh W _ _ _ | exact W_rl W _ _ _ | exact W_rh W _ _ _ | exact Wd_fl Wd _ | exact Wd_fh Wd _ | exact Wd_4l Wd _ | exact Wd_4h Wd _ | exact Wd_1l Wd _ | exact Wd_1h Wd _ | exact Wd_2l Wd _ | exact Wd_2h Wd _ | exact Wd_3l Wd _ | exact Wd_3h Wd _) only [bX10_playerOf_14, k_10, lm_1, li_0, li_1, li_31, ob2, iI_add, Option.bind_some, iI_neg, iI_lt, iI_eq, if_neg c, ii_bitN, bI_i0, ite_n, if_pos a1, d_firstFitting, if_pos a2]
        have : plS d.2.2.2.1 a (allM X) (s.1.toNat + 1) = none := by
          rw [plS, hp1]; simp only [Option.bind_some, if_pos a1, e3, if_pos a2]
        unfold plA
        rw [plS_n this (by omega)]
      · right
        refine ⟨(s.1 + 1, clr s.2.1 (ffA d.2.2.2.1 s.1 s.2.2.1 s.2.1).toNat, clr s.2.2.1 s.1.toNat, ffA d.2.2.2.1 s.1 s.2.2.1 s.2.1), ?_, ⟨⟨?_, ?_⟩, ?_, ?_, ?_⟩, ?_⟩
        · simp (disch := first | omega | first | assumption | omega | exact W_fl W _ _ _ | exact W_fh W _ _ _ | exact W_rl W _ _ _ | exact W_rh W _ _ _ | exact Wd_fl Wd _ | exact Wd_fh Wd _ | exact Wd_4l Wd _ | exact Wd_4h Wd _ | exact Wd_1l Wd _ | exact Wd_1h Wd _ | exact Wd_2l Wd _ | exact Wd_2h Wd _ | exact Wd_3l Wd _ | exact Wd_3h Wd _) only [bX10_playerOf_14, bX10_playerOf_72, k_10, lm_1, li_0, li_1, li_31, ob2, iI_add, Option.bind_some, iI_neg, iI_lt, iI_eq, if_neg c, ii_bitN, bI_i0, ite_n, if_pos a1, d_firstFitting, if_neg a2, ii_one, ii_clr]
        · simp only []; omega
        · simp only []; omega
        · exact Nat.lt_of_le_of_lt (clr_le (by omega) (by omega)) hM
        · exact Nat.lt_of_le_of_lt (clr_le (by omega) (by omega)) ha'
        · simp only []
          rw [e2, plS, hp1]; simp only [Option.bind_some, if_pos a1, e3, if_neg a2]
        · simp only []; omega
    · right
      refine ⟨(s.1 + 1, s.2), ?_, ⟨⟨?_, ?_⟩, hM, ha', ?_⟩, ?_⟩
      · simp (disch := first | omega | first | assumption | omega | exact W_fl W _ _ _ | exact W_fh W _ _ _ | exact W_rl W _ _ _ | exact W_rh W _ _ _ | exact Wd_fl Wd _ | exact Wd_fh Wd _ | exact Wd_4l Wd _ | exact Wd_4h Wd _ | exact Wd_1l Wd _ | exact Wd_1h Wd _ | exact Wd_2l Wd _ | exact Wd_2h Wd _ | exact Wd_3l Wd _ | exact Wd_3h Wd _) only [bX10_playerOf_14, bX10_playerOf_72, k_10, lm_1, li_0, li_1, li_31, ob2, iI_add, Option.bind_some, iI_neg, iI_lt, iI_eq, if_neg c, ii_bitN, bI_i0, ite_n, if_neg a1]
      · simp only []; omega
      · simp only []; omega
      · simp only []
        rw [e2, plS, hp1]; simp only [Option.bind_some, if_neg a1]
      · simp only []; omega
/-- paints -/
def paint1 (d : D5) (s : Int) : D5 := upF (upF (upF (upF d 1 (d.1 1 + 1)) 4 (d.1 3)) 3 s) 7 (ior (d.1 7) (pw s))
def paintA (X : XS) (d : D5) (s : Int) : Int × D5 := if canD X d then (if d.1 3 = s then (2, d) else if lackF d.2.2.2.1 (XR X 33 0 s).toNat (allM X) ≤ 0 then (if 999 < d.1 1 + 1 then (9, d) else (0, paint1 d s)) else (3, d)) else (1, d)
theorem paint_cd {X : XS} {d : D5} (Wd : WD d) (hC : CSea X 0) (hd : CD X d) {s : Int} (s0 : 0 ≤ s) (s8 : s < XR X 25 0 3) : WD (paintA X d s).2 ∧ CD X (paintA X d s).2 := by
  have h1 := hd.1; have c3 := hC.2.1
  unfold paintA
  (repeat' split) <;> first | exact ⟨Wd, hd⟩ | skip
  rename_i c _ _ b
  have hn := (hd.2.1 c.1).2
  refine ⟨WD_F (WD_F (WD_F (WD_F Wd (by omega) (by omega)) (by omega) (by omega)) (by omega) (by omega)) (ior_rg _ _).1 (ior_rg _ _).2, ?_⟩
  refine ⟨⟨?_, ?_⟩, fun hH => ⟨(hd.2.1 hH).1, s0, s8⟩, ⟨?_, .inr hn.2⟩, hd.2.2.2.1, fun i i0 i8 => ?_, hd.2.2.2.2.2⟩
  · show 0 ≤ d.1 1 + 1; omega
  · show d.1 1 + 1 ≤ 999; omega
  · show -1 ≤ d.1 3; omega
  · have := hd.2.2.2.2.1 i i0 i8
    show 0 ≤ d.2.1 i ∧ d.2.1 i ≤ d.1 1 + 1
    omega
theorem d_paintAs {f0 : Nat} {Y : YS} {X : XS} {k : Nat} {d : D5} (g : GY Y) (hk : k < 10) (W : WF X) (Wd : WD d) (hC : CSea X 0) (hd : CD X d) {s : Int} (s0 : 0 ≤ s) (s8 : s < XR X 25 0 3) (hf : 100 ≤ f0) : fX10_paintAs f0 (Ad Y 10 k) (iI s) (hp Y (shS X k d)) = some (iI (paintA X d s).1, hp Y (shS X k (paintA X d s).2)) := by
  have gk := ShO_k g hk; have gs := SeO_0 g
  have h1 := hd.1; have c3 := hC.2.1
  have h5 := hC.2.2.2.1
  have hMM : allM X < 256 := (pw_men h5.1 h5.2).2
  have hr := hC.2.2.2.2.2.2.2.2.2.1 s s0 (by omega)
  have e : iI (XR X 33 0 s) = iI (((XR X 33 0 s).toNat : Nat) : Int) := congrArg iI (by omega)
  have hl := lackF_rg d.2.2.2.1 (XR X 33 0 s).toNat (allM X)
  unfold paintA
  by_cases c : canD X d
  · have hn := (hd.2.1 c.1).2
    rw [if_pos c]
    by_cases a : d.1 3 = s
    · rw [if_pos a]
      simp (disch := first | omega | first | assumption | omega | exact W_fl W _ _ _ | exact W_fh W _ _ _ | exact W_rl W _ _ _ | exact W_rh W _ _ _ | exact Wd_fl Wd _ | exact Wd_fh Wd _ | exact Wd_4l Wd _ | exact Wd_4h Wd _ | exact Wd_1l Wd _ | exact Wd_1h Wd _ | exact Wd_2l Wd _ | exact Wd_2h Wd _ | exact Wd_3l Wd _ | exact Wd_3h Wd _) only [fX10_paintAs, g_10_3, g10s, g_6_10, g_10_1, g_10_7, p_10_1, p_10_4, p_10_3, p_10_7, k_10, l_33, li_0, li_1, li_2, li_31, li_9, li_3, ob2, iI_add, Option.bind_some, XF_shk, XF_sh6, XF_sh12, XF_sh11, XF_sh4, XR_sh43, XR_sh44, XR_sh45, XR_sh46, XR_sh25, XR_sh26, XR_sh27, XR_sh28, XR_sh29, XR_sh31, XR_sh32, XR_sh33, XR_sh34, XR_sh35, sF_sh, sR_sh43, sR_sh44, sR_sh45, sR_sh46, XJ_sh, XP_sh, XM_sh, iI_eq, d_canAct, bI_i0, ite_n, if_pos c, if_pos a]
    · rw [if_neg a]
      by_cases b : lackF d.2.2.2.1 (XR X 33 0 s).toNat (allM X) ≤ 0
      · rw [if_pos b]
        by_cases b2 : 999 < d.1 1 + 1
        · rw [if_pos b2]
          simp (disch := first | omega | first | assumption | omega | exact W_fl W _ _ _ | exact W_fh W _ _ _ | exact W_rl W _ _ _ | exact W_rh W _ _ _ | exact Wd_fl Wd _ | exact Wd_fh Wd _ | exact Wd_4l Wd _ | exact Wd_4h Wd _ | exact Wd_1l Wd _ | exact Wd_1h Wd _ | exact Wd_2l Wd _ | exact Wd_2h Wd _ | exact Wd_3l Wd _ | exact Wd_3h Wd _) only [fX10_paintAs, g_10_3, g10s, g_6_10, g_10_1, g_10_7, p_10_1, p_10_4, p_10_3, p_10_7, k_10, l_33, li_0, li_1, li_2, li_31, li_9, li_3, ob2, iI_add, Option.bind_some, XF_shk, XF_sh6, XF_sh12, XF_sh11, XF_sh4, XR_sh43, XR_sh44, XR_sh45, XR_sh46, XR_sh25, XR_sh26, XR_sh27, XR_sh28, XR_sh29, XR_sh31, XR_sh32, XR_sh33, XR_sh34, XR_sh35, sF_sh, sR_sh43, sR_sh44, sR_sh45, sR_sh46, XJ_sh, XP_sh, XM_sh, iI_eq, iI_le, d_canAct, d_allMen, e, d_lacking, d_isLate, bI_i0, ite_n, if_pos c, if_neg a, if_pos b, if_pos b2]
        · rw [if_neg b2]
          simp (disch := first | omega | first | assumption | omega | exact W_fl W _ _ _ | exact W_fh W _ _ _ | exact W_rl W _ _ _ | exact W_rh W _ _ _ | exact Wd_fl Wd _ | exact Wd_fh Wd _ | exact Wd_4l Wd _ | exact Wd_4h Wd _ | exact Wd_1l Wd _ | exact Wd_1h Wd _ | exact Wd_2l Wd _ | exact Wd_2h Wd _ | exact Wd_3l Wd _ | exact Wd_3h Wd _) only [fX10_paintAs, g_10_3, g10s, g_6_10, g_10_1, g_10_7, p_10_1, p_10_4, p_10_3, p_10_7, k_10, l_33, li_0, li_1, li_2, li_31, li_9, li_3, ob2, iI_add, Option.bind_some, XF_shk, XF_sh6, XF_sh12, XF_sh11, XF_sh4, XR_sh43, XR_sh44, XR_sh45, XR_sh46, XR_sh25, XR_sh26, XR_sh27, XR_sh28, XR_sh29, XR_sh31, XR_sh32, XR_sh33, XR_sh34, XR_sh35, sF_sh, sR_sh43, sR_sh44, sR_sh45, sR_sh46, XJ_sh, XP_sh, XM_sh, iI_eq, iI_le, d_canAct, d_allMen, e, d_lacking, d_isLate, bI_i0, ite_n, if_pos c, if_neg a, if_pos b, if_neg b2, upF_1, upF_2, and_true, true_and, if_true, if_false, ite_true, ite_false, eq_self, and_self, not_true_eq_false, not_false_eq_true, false_and, and_false, Nat.reduceEqDiff, Nat.reduceAdd, reduceCtorEq, ii_one, iI_or]
          rfl
      · rw [if_neg b]
        simp (disch := first | omega | first | assumption | omega | exact W_fl W _ _ _ | exact W_fh W _ _ _ | exact W_rl W _ _ _ | exact W_rh W _ _ _ | exact Wd_fl Wd _ | exact Wd_fh Wd _ | exact Wd_4l Wd _ | exact Wd_4h Wd _ | exact Wd_1l Wd _ | exact Wd_1h Wd _ | exact Wd_2l Wd _ | exact Wd_2h Wd _ | exact Wd_3l Wd _ | exact Wd_3h Wd _) only [fX10_paintAs, g_10_3, g10s, g_6_10, g_10_1, g_10_7, p_10_1, p_10_4, p_10_3, p_10_7, k_10, l_33, li_0, li_1, li_2, li_31, li_9, li_3, ob2, iI_add, Option.bind_some, XF_shk, XF_sh6, XF_sh12, XF_sh11, XF_sh4, XR_sh43, XR_sh44, XR_sh45, XR_sh46, XR_sh25, XR_sh26, XR_sh27, XR_sh28, XR_sh29, XR_sh31, XR_sh32, XR_sh33, XR_sh34, XR_sh35, sF_sh, sR_sh43, sR_sh44, sR_sh45, sR_sh46, XJ_sh, XP_sh, XM_sh, iI_eq, iI_le, d_canAct, d_allMen, e, d_lacking, bI_i0, ite_n, if_pos c, if_neg a, if_neg b]
  · rw [if_neg c]
    simp (disch := first | omega | first | assumption | omega | exact W_fl W _ _ _ | exact W_fh W _ _ _ | exact W_rl W _ _ _ | exact W_rh W _ _ _ | exact Wd_fl Wd _ | exact Wd_fh Wd _ | exact Wd_4l Wd _ | exact Wd_4h Wd _ | exact Wd_1l Wd _ | exact Wd_1h Wd _ | exact Wd_2l Wd _ | exact Wd_2h Wd _ | exact Wd_3l Wd _ | exact Wd_3h Wd _) only [fX10_paintAs, g_10_3, g10s, g_6_10, g_10_1, g_10_7, p_10_1, p_10_4, p_10_3, p_10_7, k_10, l_33, li_0, li_1, li_2, li_31, li_9, li_3, ob2, iI_add, Option.bind_some, XF_shk, XF_sh6, XF_sh12, XF_sh11, XF_sh4, XR_sh43, XR_sh44, XR_sh45, XR_sh46, XR_sh25, XR_sh26, XR_sh27, XR_sh28, XR_sh29, XR_sh31, XR_sh32, XR_sh33, XR_sh34, XR_sh35, sF_sh, sR_sh43, sR_sh44, sR_sh45, sR_sh46, XJ_sh, XP_sh, XM_sh, d_canAct, bI_i0, ite_n, if_neg c]
