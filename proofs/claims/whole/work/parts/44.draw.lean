/-! draws; a copy; the start -/
def drS (s : Int) : Int := wr (s * 1103515245 + 12345)
def drU (s : Int) : Int := ((Int32.toUInt32 (iI s) >>> (Int32.toUInt32 8 &&& Int32.toUInt32 31)).toInt32).toInt
def drV (s n : Int) : Int := drU s % n
theorem drU_rg (s : Int) : 0 ≤ drU s ∧ drU s < 16777216 := by
  unfold drU
  generalize Int32.toUInt32 (iI s) = u
  have h : (u >>> (Int32.toUInt32 8 &&& Int32.toUInt32 31)).toNat < 16777216 := by
    have e : (Int32.toUInt32 8 &&& Int32.toUInt32 31) = 8 := by decide
    rw [e, UInt32.toNat_shiftRight]
    have := u.toNat_lt
    simp [Nat.shiftRight_eq_div_pow]
    omega
  generalize u >>> (Int32.toUInt32 8 &&& Int32.toUInt32 31) = v at *
  have e2 : v.toInt32.toInt = (v.toNat : Int) := by
    show (v.toBitVec).toInt = _
    rw [BitVec.toInt_eq_toNat_of_lt]
    · rfl
    · show 2 * v.toNat < 2 ^ 32; omega
  omega
theorem drU_e (s : Int) : (Int32.toUInt32 (iI s) >>> (Int32.toUInt32 8 &&& Int32.toUInt32 31)).toInt32 = iI (drU s) := (iI_of _).symm
theorem drU_e2 (s : Int) : (Int32.toUInt32 (iI s) >>> (Int32.toUInt32 (iI 8) &&& Int32.toUInt32 (iI 31))).toInt32 = iI (drU s) := (iI_of _).symm
theorem d_draw {f0 : Nat} {Y : YS} {X : XS} {k : Nat} {d : D5} (g : GY Y) (hk : k < 10) (W : WF X) (Wd : WD d) {n : Int} (h0 : 1 ≤ n) (h1 : n ≤ 1000) : fX10_draw f0 (Ad Y 10 k) (iI n) (hp Y (shS X k d)) = some (iI (drV (drS (d.1 13)) n), hp Y (shS X k (upF d 13 (drS (d.1 13))))) := by
  have gk := ShO_k g hk
  have hz : nz (iI n) = some () := nz_i (by omega) (by omega) (by omega)
  have hu := drU_rg (drS (d.1 13))
  have hs : wr (d.1 13 * 1103515245 + 12345) = drS (d.1 13) := rfl
  simp (disch := first | assumption | omega | exact W_fl W _ _ _ | exact W_fh W _ _ _ | exact W_rl W _ _ _ | exact W_rh W _ _ _ | exact Wd_fl Wd _ | exact Wd_fh Wd _ | exact Wd_4l Wd _ | exact Wd_4h Wd _ | exact Wd_1l Wd _ | exact Wd_1h Wd _ | exact Wd_2l Wd _ | exact Wd_2h Wd _ | exact Wd_3l Wd _ | exact Wd_3h Wd _) only [fX10_draw, g_10_13, q_10_13, li_1103515245, li_12345, li_1, li_8, li_31, li_0, iI_add, iI_mul, iI_sub, Option.bind_some, li_1103515245, li_12345, XF_shk, XF_sh6, XF_sh12, XF_sh11, XF_sh4, XR_sh43, XR_sh44, XR_sh45, XR_sh46, XR_sh25, XR_sh26, XR_sh27, XR_sh28, XR_sh29, XR_sh31, XR_sh32, XR_sh33, XR_sh34, XR_sh35, sF_sh, sR_sh43, sR_sh44, sR_sh45, sR_sh46, XJ_sh, XP_sh, XM_sh, iI_le, if_pos h0, upF_1, and_true, true_and, if_true, if_false, ite_true, ite_false, eq_self, and_self, not_true_eq_false, not_false_eq_true, false_and, and_false, Nat.reduceEqDiff, Nat.reduceAdd, reduceCtorEq, hz, hs, drU_e2]
  rw [iI_mod hu.1 (by omega) (by omega) (by omega)]
  rfl
theorem drV_rg {s n : Int} (h : 0 < n) : 0 ≤ drV s n ∧ drV s n < n := ⟨Int.emod_nonneg _ (by omega), Int.emod_lt_of_pos _ h⟩
def voy1 (X : XS) (d : D5) : D5 := if drV (drS (d.1 13)) 3 = 0 then (paintA X (upF (upF d 13 (drS (d.1 13))) 13 (drS (drS (d.1 13)))) (drV (drS (drS (d.1 13))) (XR X 25 0 3))).2 else upF d 13 (drS (d.1 13))
def voy2 (X : XS) (d : D5) : D5 :=
  let e := sailA X (upF d 13 (drS (d.1 13))) (drV (drS (d.1 13)) (XR X 25 0 0))
  if e.1 = 0 then (if e.2.1 6 = 0 then (if XF X 6 0 2 ≤ drV (drS (e.2.1 13)) 12 then upF e.2 13 (drS (e.2.1 13)) else tellD X (upF e.2 13 (drS (e.2.1 13))) (e.2.1 2) (e.2.1 3)) else e.2) else e.2
theorem drS_rg (s : Int) : Rg (drS s) := wr_rg _
theorem cd_13 {X : XS} {d : D5} (hd : CD X d) (v : Int) : CD X (upF d 13 v) := ⟨hd.1, hd.2.1, hd.2.2.1, hd.2.2.2.1, hd.2.2.2.2⟩
theorem sailA_rg {X : XS} {d : D5} {p : Int} : 0 ≤ (sailA X d p).1 ∧ (sailA X d p).1 ≤ 9 := by
  unfold sailA; (repeat' split) <;> simp
theorem paintA_rg {X : XS} {d : D5} {p : Int} : 0 ≤ (paintA X d p).1 ∧ (paintA X d p).1 ≤ 9 := by
  unfold paintA; (repeat' split) <;> simp
theorem voy1_cd {X : XS} {d : D5} (Wd : WD d) (hC : CSea X 0) (hd : CD X d) (hH : forHer X 0) : WD (voy1 X d) ∧ CD X (voy1 X d) := by
  unfold voy1
  have r := drV_rg (s := drS (drS (d.1 13))) hH.2
  split
  · exact paint_cd (WD_F (WD_F Wd (drS_rg _).1 (drS_rg _).2) (drS_rg _).1 (drS_rg _).2) hC (cd_13 (cd_13 hd _) _) r.1 r.2
  · exact ⟨WD_F Wd (drS_rg _).1 (drS_rg _).2, cd_13 hd _⟩
theorem voy2_cd {X : XS} {d : D5} (Wd : WD d) (hC : CSea X 0) (hd : CD X d) (hH : forHer X 0) : WD (voy2 X d) ∧ CD X (voy2 X d) := by
  unfold voy2
  have r := drV_rg (s := drS (d.1 13)) hH.1
  have c0 := hC.1
  obtain ⟨w, c⟩ := sail_cd (WD_F (f := 13) Wd (drS_rg (d.1 13)).1 (drS_rg _).2) hC (cd_13 hd (drS (d.1 13))) r.1 r.2
  simp only []
  (repeat' split) <;> first | exact ⟨w, c⟩ | exact ⟨WD_F w (drS_rg _).1 (drS_rg _).2, cd_13 c _⟩ | skip
  have q := (c.2.1 hH).1
  exact tl_cd (WD_F w (drS_rg _).1 (drS_rg _).2) hC (cd_13 c _) (by omega) (by omega)
theorem d_drawVoyage {f0 : Nat} {Y : YS} {X : XS} {k : Nat} {d : D5} (g : GY Y) (hk : k < 10) (W : WF X) (Wd : WD d) (hC : CSea X 0) (hd : CD X d) (hH : forHer X 0) (hf : 100 ≤ f0) : fX10_drawVoyage f0 (Ad Y 10 k) (hp Y (shS X k d)) = some (hp Y (shS X k (voy2 X (voy1 X d)))) := by
  have gk := ShO_k g hk; have gs := SeO_0 g
  have c0 := hC.1; have c3 := hC.2.1; have c6 := hC.2.2.2.2.2.1
  have hH1 := hH.1; have hH2 := hH.2
  have key : ∀ d : D5, WD d → CD X d → bX10_drawVoyage_26 f0 (Ad Y 10 k) (hp Y (shS X k d)) = some (hp Y (shS X k (voy2 X d))) := by
    intro d Wd hd
    have r := drV_rg (s := drS (d.1 13)) hH.1
    have Wd2 : WD (upF d 13 (drS (d.1 13))) := WD_F Wd (drS_rg _).1 (drS_rg _).2
    have hd2 : CD X (upF d 13 (drS (d.1 13))) := cd_13 hd _
    obtain ⟨w, c⟩ := sail_cd Wd2 hC hd2 r.1 r.2
    have hs := d_sailTo (f0 := f0) (k := k) g hk W Wd2 hC hd2 r.1 r.2 (by omega)
    have hrg := sailA_rg (X := X) (d := upF d 13 (drS (d.1 13))) (p := drV (drS (d.1 13)) (XR X 25 0 0))
    simp (disch := first | assumption | omega | exact W_fl W _ _ _ | exact W_fh W _ _ _ | exact W_rl W _ _ _ | exact W_rh W _ _ _ | exact Wd_fl Wd _ | exact Wd_fh Wd _ | exact Wd_4l Wd _ | exact Wd_4h Wd _ | exact Wd_1l Wd _ | exact Wd_1h Wd _ | exact Wd_2l Wd _ | exact Wd_2h Wd _ | exact Wd_3l Wd _ | exact Wd_3h Wd _) only [bX10_drawVoyage_26, g10s, g_6_1, g_10_6, g_6_2, g_10_2, g_10_3, k_10, l_25, li_0, li_12, ob2, Option.bind_some, iI_add, XF_shk, XF_sh6, XF_sh12, XF_sh11, XF_sh4, XR_sh43, XR_sh44, XR_sh45, XR_sh46, XR_sh25, XR_sh26, XR_sh27, XR_sh28, XR_sh29, XR_sh31, XR_sh32, XR_sh33, XR_sh34, XR_sh35, sF_sh, sR_sh43, sR_sh44, sR_sh45, sR_sh46, XJ_sh, XP_sh, XM_sh, d_draw, hs]
    unfold voy2
    simp only []
    generalize sailA X (upF d 13 (drS (d.1 13))) (drV (drS (d.1 13)) (XR X 25 0 0)) = e at *
    by_cases a : e.1 = 0
    · rw [if_pos a]
      by_cases b : e.2.1 6 = 0
      · rw [if_pos b]
        have r2 := drV_rg (s := drS (e.2.1 13)) (n := 12) (by decide)
        have q := c.2.1 hH
        have w2 : WD (upF e.2 13 (drS (e.2.1 13))) := WD_F w (drS_rg _).1 (drS_rg _).2
        have c2 : CD X (upF e.2 13 (drS (e.2.1 13))) := cd_13 c _
        have e6 : e.2.1 6 = 0 := b
        by_cases b2 : XF X 6 0 2 ≤ drV (drS (e.2.1 13)) 12
        · rw [if_pos b2]
          simp (disch := first | assumption | omega | exact W_fl W _ _ _ | exact W_fh W _ _ _ | exact W_rl W _ _ _ | exact W_rh W _ _ _ | exact Wd_fl Wd _ | exact Wd_fh Wd _ | exact Wd_4l Wd _ | exact Wd_4h Wd _ | exact Wd_1l Wd _ | exact Wd_1h Wd _ | exact Wd_2l Wd _ | exact Wd_2h Wd _ | exact Wd_3l Wd _ | exact Wd_3h Wd _) only [g10s, g_6_1, g_10_6, g_6_2, g_10_2, g_10_3, k_10, l_25, li_0, li_12, ob2, Option.bind_some, iI_add, XF_shk, XF_sh6, XF_sh12, XF_sh11, XF_sh4, XR_sh43, XR_sh44, XR_sh45, XR_sh46, XR_sh25, XR_sh26, XR_sh27, XR_sh28, XR_sh29, XR_sh31, XR_sh32, XR_sh33, XR_sh34, XR_sh35, sF_sh, sR_sh43, sR_sh44, sR_sh45, sR_sh46, XJ_sh, XP_sh, XM_sh, d_draw, iI_eq, iI_le, if_pos a, if_pos b, if_pos b2, upF_1, and_true, true_and, if_true, if_false, ite_true, ite_false, eq_self, and_self, not_true_eq_false, not_false_eq_true, false_and, and_false, Nat.reduceEqDiff, Nat.reduceAdd, reduceCtorEq]
        · rw [if_neg b2]
          simp (disch := first | assumption | omega | exact W_fl W _ _ _ | exact W_fh W _ _ _ | exact W_rl W _ _ _ | exact W_rh W _ _ _ | exact Wd_fl Wd _ | exact Wd_fh Wd _ | exact Wd_4l Wd _ | exact Wd_4h Wd _ | exact Wd_1l Wd _ | exact Wd_1h Wd _ | exact Wd_2l Wd _ | exact Wd_2h Wd _ | exact Wd_3l Wd _ | exact Wd_3h Wd _) only [g10s, g_6_1, g_10_6, g_6_2, g_10_2, g_10_3, k_10, l_25, li_0, li_12, ob2, Option.bind_some, iI_add, XF_shk, XF_sh6, XF_sh12, XF_sh11, XF_sh4, XR_sh43, XR_sh44, XR_sh45, XR_sh46, XR_sh25, XR_sh26, XR_sh27, XR_sh28, XR_sh29, XR_sh31, XR_sh32, XR_sh33, XR_sh34, XR_sh35, sF_sh, sR_sh43, sR_sh44, sR_sh45, sR_sh46, XJ_sh, XP_sh, XM_sh, d_draw, iI_eq, iI_le, if_pos a, if_pos b, if_neg b2, upF_1, and_true, true_and, if_true, if_false, ite_true, ite_false, eq_self, and_self, not_true_eq_false, not_false_eq_true, false_and, and_false, Nat.reduceEqDiff, Nat.reduceAdd, reduceCtorEq, d_tell]
      · rw [if_neg b]
        have := w.1 6
        have t1 := this.1; have t2 := this.2
        simp (disch := first | assumption | omega | exact W_fl W _ _ _ | exact W_fh W _ _ _ | exact W_rl W _ _ _ | exact W_rh W _ _ _ | exact Wd_fl Wd _ | exact Wd_fh Wd _ | exact Wd_4l Wd _ | exact Wd_4h Wd _ | exact Wd_1l Wd _ | exact Wd_1h Wd _ | exact Wd_2l Wd _ | exact Wd_2h Wd _ | exact Wd_3l Wd _ | exact Wd_3h Wd _) only [g10s, g_6_1, g_10_6, g_6_2, g_10_2, g_10_3, k_10, l_25, li_0, li_12, ob2, Option.bind_some, iI_add, XF_shk, XF_sh6, XF_sh12, XF_sh11, XF_sh4, XR_sh43, XR_sh44, XR_sh45, XR_sh46, XR_sh25, XR_sh26, XR_sh27, XR_sh28, XR_sh29, XR_sh31, XR_sh32, XR_sh33, XR_sh34, XR_sh35, sF_sh, sR_sh43, sR_sh44, sR_sh45, sR_sh46, XJ_sh, XP_sh, XM_sh, iI_eq, if_pos a, if_neg b]
    · rw [if_neg a]
      simp (disch := first | assumption | omega | exact W_fl W _ _ _ | exact W_fh W _ _ _ | exact W_rl W _ _ _ | exact W_rh W _ _ _ | exact Wd_fl Wd _ | exact Wd_fh Wd _ | exact Wd_4l Wd _ | exact Wd_4h Wd _ | exact Wd_1l Wd _ | exact Wd_1h Wd _ | exact Wd_2l Wd _ | exact Wd_2h Wd _ | exact Wd_3l Wd _ | exact Wd_3h Wd _) only [iI_eq, if_neg a]
  have Wd2 : WD (upF d 13 (drS (d.1 13))) := WD_F Wd (drS_rg _).1 (drS_rg _).2
  have r := drV_rg (s := drS (drS (d.1 13))) hH.2
  have r3 := drV_rg (s := drS (d.1 13)) (n := 3) (by decide)
  obtain ⟨w1, c1⟩ := voy1_cd Wd hC hd hH
  have k1 := key _ w1 c1
  unfold voy1 at k1 ⊢
  by_cases a : drV (drS (d.1 13)) 3 = 0
  · simp only [if_pos a] at k1 ⊢
    have hp1 := d_paintAs (f0 := f0) (k := k) (s := drV (drS (drS (d.1 13))) (XR X 25 0 3)) g hk W (WD_F (f := 13) Wd2 (drS_rg (drS (d.1 13))).1 (drS_rg _).2) hC (cd_13 (cd_13 hd _) _) r.1 r.2 hf
    have u13 : (upF d 13 (drS (d.1 13))).1 13 = drS (d.1 13) := rfl
    simp (disch := first | assumption | omega | exact W_fl W _ _ _ | exact W_fh W _ _ _ | exact W_rl W _ _ _ | exact W_rh W _ _ _ | exact Wd_fl Wd _ | exact Wd_fh Wd _ | exact Wd_4l Wd _ | exact Wd_4h Wd _ | exact Wd_1l Wd _ | exact Wd_1h Wd _ | exact Wd_2l Wd _ | exact Wd_2h Wd _ | exact Wd_3l Wd _ | exact Wd_3h Wd _) only [fX10_drawVoyage, g10s, g_6_1, k_10, l_25, li_3, li_0, ob2, Option.bind_some, iI_add, XF_shk, XF_sh6, XF_sh12, XF_sh11, XF_sh4, XR_sh43, XR_sh44, XR_sh45, XR_sh46, XR_sh25, XR_sh26, XR_sh27, XR_sh28, XR_sh29, XR_sh31, XR_sh32, XR_sh33, XR_sh34, XR_sh35, sF_sh, sR_sh43, sR_sh44, sR_sh45, sR_sh46, XJ_sh, XP_sh, XM_sh, d_draw, iI_eq, if_pos a, u13, hp1, k1]
  · simp only [if_neg a] at k1 ⊢
    simp (disch := first | assumption | omega | exact W_fl W _ _ _ | exact W_fh W _ _ _ | exact W_rl W _ _ _ | exact W_rh W _ _ _ | exact Wd_fl Wd _ | exact Wd_fh Wd _ | exact Wd_4l Wd _ | exact Wd_4h Wd _ | exact Wd_1l Wd _ | exact Wd_1h Wd _ | exact Wd_2l Wd _ | exact Wd_2h Wd _ | exact Wd_3l Wd _ | exact Wd_3h Wd _) only [fX10_drawVoyage, g10s, g_6_1, k_10, l_25, li_3, li_0, ob2, Option.bind_some, iI_add, XF_shk, XF_sh6, XF_sh12, XF_sh11, XF_sh4, XR_sh43, XR_sh44, XR_sh45, XR_sh46, XR_sh25, XR_sh26, XR_sh27, XR_sh28, XR_sh29, XR_sh31, XR_sh32, XR_sh33, XR_sh34, XR_sh35, sF_sh, sR_sh43, sR_sh44, sR_sh45, sR_sh46, XJ_sh, XP_sh, XM_sh, d_draw, iI_eq, if_neg a, k1]
/-- n voyages -/
def voys (X : XS) : Nat → D5 → Int × D5
  | 0, d => (0, d)
  | n + 1, d => if canD X (voys X n d).2 then ((voys X n d).1 + 1, voy2 X (voy1 X (voys X n d).2)) else voys X n d
theorem voys_cd {X : XS} (hC : CSea X 0) (hH : forHer X 0) : ∀ (n : Nat) {d : D5}, WD d → CD X d → WD (voys X n d).2 ∧ CD X (voys X n d).2 ∧ 0 ≤ (voys X n d).1 ∧ (voys X n d).1 ≤ n
  | 0, d, Wd, hd => ⟨Wd, hd, by simp [voys], by simp [voys]⟩
  | n + 1, d, Wd, hd => by
    obtain ⟨w, c, b1, b2⟩ := voys_cd hC hH n Wd hd
    rw [voys]
    split
    · obtain ⟨w1, c1⟩ := voy1_cd w hC c hH
      obtain ⟨w2, c2⟩ := voy2_cd w1 hC c1 hH
      exact ⟨w2, c2, by simp only []; omega, by simp only []; omega⟩
    · exact ⟨w, c, b1, by omega⟩
theorem voys_stop {X : XS} {d : D5} {n m : Nat} (h : ¬ canD X (voys X n d).2) (hm : n ≤ m) : voys X m d = voys X n d := by
  induction m with
  | zero => rw [show n = 0 by omega]
  | succ m ih =>
    by_cases e : n = m + 1
    · rw [e]
    · rw [voys, ih (by omega), if_neg h]
theorem voys_all {X : XS} {d : D5} : ∀ n : Nat, (∀ m, m < n → canD X (voys X m d).2) → (voys X n d).1 = n
  | 0, _ => rfl
  | n + 1, h => by
    rw [voys, if_pos (h n (by omega))]
    simp only []
    rw [voys_all n (fun m hm => h m (by omega))]; omega
theorem d_drawVoyages {f0 : Nat} {Y : YS} {X : XS} {k : Nat} {d : D5} (g : GY Y) (hk : k < 10) (W : WF X) (Wd : WD d) (hC : CSea X 0) (hd : CD X d) (hH : forHer X 0) {n sd : Int} (n0 : 0 ≤ n) (n1 : n ≤ 60) (hsd : Rg sd) (hf : 100 ≤ f0) : fX10_drawVoyages f0 (Ad Y 10 k) (iI n) (iI sd) (hp Y (shS X k d)) = some (iI (voys X n.toNat (upF d 13 sd)).1, hp Y (shS X k (voys X n.toNat (upF d 13 sd)).2)) := by
  have gk := ShO_k g hk
  simp (disch := first | assumption | omega | exact W_fl W _ _ _ | exact W_fh W _ _ _ | exact W_rl W _ _ _ | exact W_rh W _ _ _ | exact Wd_fl Wd _ | exact Wd_fh Wd _ | exact Wd_4l Wd _ | exact Wd_4h Wd _ | exact Wd_1l Wd _ | exact Wd_1h Wd _ | exact Wd_2l Wd _ | exact Wd_2h Wd _ | exact Wd_3l Wd _ | exact Wd_3h Wd _) only [fX10_drawVoyages, p_10_13, Option.bind_some, XF_shk, XF_sh6, XF_sh12, XF_sh11, XF_sh4, XR_sh43, XR_sh44, XR_sh45, XR_sh46, XR_sh25, XR_sh26, XR_sh27, XR_sh28, XR_sh29, XR_sh31, XR_sh32, XR_sh33, XR_sh34, XR_sh35, sF_sh, sR_sh43, sR_sh44, sR_sh45, sR_sh46, XJ_sh, XP_sh, XM_sh, li_0]
  have w0 : WD (upF d 13 sd) := WD_F Wd hsd.1 hsd.2
  have c0 : CD X (upF d 13 sd) := cd_13 hd _
  generalize upF d 13 sd = e at *
  refine lp (fun f (i : Int) => bX10_drawVoyages_7 f0 f (Ad Y 10 k) (iI n) (iI i) (hp Y (shS X k (voys X i.toNat e).2))) (fun i => (0 ≤ i ∧ i ≤ n) ∧ ∀ m : Nat, (m : Int) < i → canD X (voys X m e).2) (fun i => (70 - i).toNat) (fun r => r = _) ?_ f0 0 ⟨⟨by omega, by omega⟩, fun m hm => by omega⟩ (by omega)
  intro f i ⟨⟨h0, h1⟩, hm⟩
  obtain ⟨w, c, b1, b2⟩ := voys_cd hC hH i.toNat w0 c0
  have e1 : (voys X i.toNat e).1 = i := by
    rw [voys_all i.toNat (fun m h => hm m (by omega))]; omega
  by_cases a : n ≤ i
  · left
    simp (disch := first | assumption | omega | exact W_fl W _ _ _ | exact W_fh W _ _ _ | exact W_rl W _ _ _ | exact W_rh W _ _ _ | exact Wd_fl Wd _ | exact Wd_fh Wd _ | exact Wd_4l Wd _ | exact Wd_4h Wd _ | exact Wd_1l Wd _ | exact Wd_1h Wd _ | exact Wd_2l Wd _ | exact Wd_2h Wd _ | exact Wd_3l Wd _ | exact Wd_3h Wd _) only [bX10_drawVoyages_7, bX10_drawVoyages_29, k_10, li_0, li_1, ob2, iI_add, Option.bind_some, iI_le, if_pos a]
    rw [show n = i by omega, e1]
  · by_cases b : canD X (voys X i.toNat e).2
    · right
      refine ⟨i + 1, ?_, ⟨⟨by omega, by omega⟩, fun m h => ?_⟩, by omega⟩
      · rw [show (i + 1).toNat = i.toNat + 1 by omega, voys, if_pos b]
        simp (disch := first | assumption | omega | exact W_fl W _ _ _ | exact W_fh W _ _ _ | exact W_rl W _ _ _ | exact W_rh W _ _ _ | exact Wd_fl Wd _ | exact Wd_fh Wd _ | exact Wd_4l Wd _ | exact Wd_4h Wd _ | exact Wd_1l Wd _ | exact Wd_1h Wd _ | exact Wd_2l Wd _ | exact Wd_2h Wd _ | exact Wd_3l Wd _ | exact Wd_3h Wd _) only [bX10_drawVoyages_7, k_10, li_0, li_1, ob2, iI_add, Option.bind_some, iI_le, if_neg a, d_canAct, bI_i0, ite_n, if_pos b, d_drawVoyage]
      · by_cases q : (m : Int) < i
        · exact hm m q
        · rw [show m = i.toNat by omega]; exact b
    · left
      simp (disch := first | assumption | omega | exact W_fl W _ _ _ | exact W_fh W _ _ _ | exact W_rl W _ _ _ | exact W_rh W _ _ _ | exact Wd_fl Wd _ | exact Wd_fh Wd _ | exact Wd_4l Wd _ | exact Wd_4h Wd _ | exact Wd_1l Wd _ | exact Wd_1h Wd _ | exact Wd_2l Wd _ | exact Wd_2h Wd _ | exact Wd_3l Wd _ | exact Wd_3h Wd _) only [bX10_drawVoyages_7, bX10_drawVoyages_29, k_10, li_0, li_1, ob2, iI_add, Option.bind_some, iI_le, if_neg a, d_canAct, bI_i0, ite_n, if_neg b]
      rw [voys_stop b (show i.toNat ≤ n.toNat by omega), e1]
