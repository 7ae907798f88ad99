/-! HER ACTS, as functions on a ship's contents -/
abbrev canD (X : XS) (d : D5) : Prop := (0 < XR X 25 0 0 ∧ 0 < XR X 25 0 3) ∧ d.1 6 = 0
def CD (X : XS) (d : D5) : Prop :=
  (0 ≤ d.1 1 ∧ d.1 1 ≤ 999) ∧ (forHer X 0 → (0 ≤ d.1 2 ∧ d.1 2 < XR X 25 0 0) ∧ (0 ≤ d.1 3 ∧ d.1 3 < XR X 25 0 3)) ∧ (-1 ≤ d.1 4 ∧ (d.1 4 = -1 ∨ d.1 4 < XR X 25 0 3)) ∧ (d.1 6 = 0 ∨ d.1 6 = 1) ∧
  (∀ i, 0 ≤ i → i < 8 → 0 ≤ d.2.1 i ∧ d.2.1 i ≤ d.1 1) ∧ (∀ i, 0 ≤ i → i < 8 → 0 ≤ d.2.2.1 i ∧ d.2.2.1 i < 256) ∧ (∀ i, 0 ≤ i → i < 8 → 0 ≤ d.2.2.2.1 i ∧ d.2.2.2.1 i < 64) ∧ (∀ i, 0 ≤ i → i < 64 → 0 ≤ d.2.2.2.2 i ∧ d.2.2.2.2 i ≤ 1000000)
theorem CD_sh {X : XS} {k : Nat} {d : D5} (h : CD X d) : CShip (shS X k d) k 0 := by
  unfold CShip forHer
  simp only [XF_shk, XF_sh6, XF_sh12, XF_sh11, XF_sh4, XR_sh43, XR_sh44, XR_sh45, XR_sh46, XR_sh25, XR_sh26, XR_sh27, XR_sh28, XR_sh29, XR_sh31, XR_sh32, XR_sh33, XR_sh34, XR_sh35, sF_sh, sR_sh43, sR_sh44, sR_sh45, sR_sh46, XJ_sh, XP_sh, XM_sh]
  exact h
theorem CS_sh {X : XS} {k : Nat} {d : D5} (h : CSea X 0) : CSea (shS X k d) 0 := by
  unfold CSea
  simp only [XF_shk, XF_sh6, XF_sh12, XF_sh11, XF_sh4, XR_sh43, XR_sh44, XR_sh45, XR_sh46, XR_sh25, XR_sh26, XR_sh27, XR_sh28, XR_sh29, XR_sh31, XR_sh32, XR_sh33, XR_sh34, XR_sh35, sF_sh, sR_sh43, sR_sh44, sR_sh45, sR_sh46, XJ_sh, XP_sh, XM_sh]
  exact h
theorem d_canAct {f0 : Nat} {Y : YS} {X : XS} {k : Nat} {d : D5} (g : GY Y) (hk : k < 10) (W : WF X) (Wd : WD d) : fX10_canAct f0 (Ad Y 10 k) (hp Y (shS X k d)) = some (bI (canD X d), hp Y (shS X k d)) := by
  have Ws := W_sh W Wd (k := k)
  rw [e_canAct g hk Ws]
  simp only [canA, XF_shk, XF_sh6, XF_sh12, XF_sh11, XF_sh4, XR_sh43, XR_sh44, XR_sh45, XR_sh46, XR_sh25, XR_sh26, XR_sh27, XR_sh28, XR_sh29, XR_sh31, XR_sh32, XR_sh33, XR_sh34, XR_sh35, sF_sh, sR_sh43, sR_sh44, sR_sh45, sR_sh46, XJ_sh, XP_sh, XM_sh]
theorem d_isLate {f0 : Nat} {Y : YS} {X : XS} {k : Nat} {d : D5} (g : GY Y) (hk : k < 10) (W : WF X) (Wd : WD d) (h : 0 ≤ d.1 1 ∧ d.1 1 ≤ 999) {n : Int} (h0 : 0 ≤ n) (h1 : n ≤ 1000) : fX10_isLate f0 (Ad Y 10 k) (iI n) (hp Y (shS X k d)) = some (bI (999 < d.1 1 + n), hp Y (shS X k d)) := by
  have Ws := W_sh W Wd (k := k)
  rw [e_isLate g hk Ws (by simpa only [XF_shk, XF_sh6, XF_sh12, XF_sh11, XF_sh4, XR_sh43, XR_sh44, XR_sh45, XR_sh46, XR_sh25, XR_sh26, XR_sh27, XR_sh28, XR_sh29, XR_sh31, XR_sh32, XR_sh33, XR_sh34, XR_sh35, sF_sh, sR_sh43, sR_sh44, sR_sh45, sR_sh46, XJ_sh, XP_sh, XM_sh] using h) h0 h1]
  simp only [XF_shk, XF_sh6, XF_sh12, XF_sh11, XF_sh4, XR_sh43, XR_sh44, XR_sh45, XR_sh46, XR_sh25, XR_sh26, XR_sh27, XR_sh28, XR_sh29, XR_sh31, XR_sh32, XR_sh33, XR_sh34, XR_sh35, sF_sh, sR_sh43, sR_sh44, sR_sh45, sR_sh46, XJ_sh, XP_sh, XM_sh]
def owD (X : XS) (d : D5) (s p : Int) : Int := if bitI (d.2.2.1 s) p = true then 0 else XR X 29 0 (s * 8 + p)
theorem d_owedTo {f0 : Nat} {Y : YS} {X : XS} {k : Nat} {d : D5} (g : GY Y) (hk : k < 10) (W : WF X) (Wd : WD d) (hd : CD X d) {s p : Int} (s0 : 0 ≤ s) (s1 : s < 8) (p0 : 0 ≤ p) (p1 : p < 8) : fX10_owedTo f0 (Ad Y 10 k) (iI s) (iI p) (hp Y (shS X k d)) = some (iI (owD X d s p), hp Y (shS X k d)) := by
  have Ws := W_sh W Wd (k := k)
  rw [e_owedTo g hk Ws (CD_sh hd) s0 s1 p0 p1]
  simp only [owA, owD, XF_shk, XF_sh6, XF_sh12, XF_sh11, XF_sh4, XR_sh43, XR_sh44, XR_sh45, XR_sh46, XR_sh25, XR_sh26, XR_sh27, XR_sh28, XR_sh29, XR_sh31, XR_sh32, XR_sh33, XR_sh34, XR_sh35, sF_sh, sR_sh43, sR_sh44, sR_sh45, sR_sh46, XJ_sh, XP_sh, XM_sh]
/-- waits -/
def waitA (X : XS) (d : D5) (n : Int) : Int × D5 := if canD X d then (if 999 < d.1 1 + n then (9, d) else (0, upF d 1 (d.1 1 + n))) else (1, d)
theorem d_waitFor {f0 : Nat} {Y : YS} {X : XS} {k : Nat} {d : D5} (g : GY Y) (hk : k < 10) (W : WF X) (Wd : WD d) (hd : CD X d) {n : Int} (h0 : 0 ≤ n) (h1 : n ≤ 1000) : fX10_waitFor f0 (Ad Y 10 k) (iI n) (hp Y (shS X k d)) = some (iI (waitA X d n).1, hp Y (shS X k (waitA X d n).2)) := by
  have gk := ShO_k g hk
  have h2 := hd.1
  simp (disch := first | assumption | omega | exact W_fl W _ _ _ | exact W_fh W _ _ _ | exact W_rl W _ _ _ | exact W_rh W _ _ _ | exact Wd_fl Wd _ | exact Wd_fh Wd _ | exact Wd_4l Wd _ | exact Wd_4h Wd _ | exact Wd_1l Wd _ | exact Wd_1h Wd _ | exact Wd_2l Wd _ | exact Wd_2h Wd _ | exact Wd_3l Wd _ | exact Wd_3h Wd _) only [iI_lt, iI_le, iI_eq, bI_i0, ite_n, ii_bit, ii_one, iI_or, fX10_waitFor, g_10_1, p_10_1, k_10, li_0, li_1, li_9, ob2, iI_add, Option.bind_some, d_canAct, d_isLate, XF_shk, XF_sh6, XF_sh12, XF_sh11, XF_sh4, XR_sh43, XR_sh44, XR_sh45, XR_sh46, XR_sh25, XR_sh26, XR_sh27, XR_sh28, XR_sh29, XR_sh31, XR_sh32, XR_sh33, XR_sh34, XR_sh35, sF_sh, sR_sh43, sR_sh44, sR_sh45, sR_sh46, XJ_sh, XP_sh, XM_sh]
  unfold waitA
  by_cases c : canD X d
  · simp only [if_pos c]
    by_cases e : 999 < d.1 1 + n
    · simp only [if_pos e]
    · simp only [if_neg e]
  · simp only [if_neg c]
/-- takes what is owed -/
def takeA (X : XS) (d : D5) : Int × D5 := if canD X d then (if owD X d (d.1 3) (d.1 2) = 0 then (2, d) else (0, ((upF d 5 (wr (d.1 5 + owD X d (d.1 3) (d.1 2)))).1, d.2.1, upi d.2.2.1 (d.1 3) (ior (d.2.2.1 (d.1 3)) (pw (d.1 2))), d.2.2.2))) else (1, d)
theorem owD_rg {X : XS} {d : D5} (hC : CSea X 0) {s p : Int} (s0 : 0 ≤ s) (s1 : s < 8) (p0 : 0 ≤ p) (p1 : p < 8) : 0 ≤ owD X d s p ∧ owD X d s p ≤ 250 := by
  unfold owD; split
  · omega
  · exact hC.2.2.2.2.2.2.2.2.1 _ (by omega) (by omega)
theorem d_takeOwed {f0 : Nat} {Y : YS} {X : XS} {k : Nat} {d : D5} (g : GY Y) (hk : k < 10) (W : WF X) (Wd : WD d) (hC : CSea X 0) (hd : CD X d) : fX10_takeOwed f0 (Ad Y 10 k) (hp Y (shS X k d)) = some (iI (takeA X d).1, hp Y (shS X k (takeA X d).2)) := by
  have gk := ShO_k g hk
  simp (disch := first | assumption | omega | exact W_fl W _ _ _ | exact W_fh W _ _ _ | exact W_rl W _ _ _ | exact W_rh W _ _ _ | exact Wd_fl Wd _ | exact Wd_fh Wd _ | exact Wd_4l Wd _ | exact Wd_4h Wd _ | exact Wd_1l Wd _ | exact Wd_1h Wd _ | exact Wd_2l Wd _ | exact Wd_2h Wd _ | exact Wd_3l Wd _ | exact Wd_3h Wd _) only [iI_lt, iI_le, iI_eq, bI_i0, ite_n, ii_bit, ii_one, iI_or, fX10_takeOwed, g_10_3, g_10_2, g_10_5, g_10_10, q_10_5, k_10, l_44, s_44, li_0, li_1, li_2, li_31, ob2, iI_add, Option.bind_some, d_canAct, XF_shk, XF_sh6, XF_sh12, XF_sh11, XF_sh4, XR_sh43, XR_sh44, XR_sh45, XR_sh46, XR_sh25, XR_sh26, XR_sh27, XR_sh28, XR_sh29, XR_sh31, XR_sh32, XR_sh33, XR_sh34, XR_sh35, sF_sh, sR_sh43, sR_sh44, sR_sh45, sR_sh46, XJ_sh, XP_sh, XM_sh]
  unfold takeA
  by_cases c : canD X d
  · have c0 := hC.1; have c3 := hC.2.1; have hp1 := (hd.2.1 c.1).1; have hn1 := (hd.2.1 c.1).2
    have ho := owD_rg (d := d) hC (s := d.1 3) (p := d.1 2) (by omega) (by omega) (by omega) (by omega)
    simp only [if_pos c]
    by_cases e : owD X d (d.1 3) (d.1 2) = 0
    · simp (disch := first | assumption | omega | exact W_fl W _ _ _ | exact W_fh W _ _ _ | exact W_rl W _ _ _ | exact W_rh W _ _ _ | exact Wd_fl Wd _ | exact Wd_fh Wd _ | exact Wd_4l Wd _ | exact Wd_4h Wd _ | exact Wd_1l Wd _ | exact Wd_1h Wd _ | exact Wd_2l Wd _ | exact Wd_2h Wd _ | exact Wd_3l Wd _ | exact Wd_3h Wd _) only [d_owedTo, Option.bind_some, iI_eq, if_pos e]
    · simp (disch := first | assumption | omega | exact W_fl W _ _ _ | exact W_fh W _ _ _ | exact W_rl W _ _ _ | exact W_rh W _ _ _ | exact Wd_fl Wd _ | exact Wd_fh Wd _ | exact Wd_4l Wd _ | exact Wd_4h Wd _ | exact Wd_1l Wd _ | exact Wd_1h Wd _ | exact Wd_2l Wd _ | exact Wd_2h Wd _ | exact Wd_3l Wd _ | exact Wd_3h Wd _) only [d_owedTo, if_neg e, g_10_3, g_10_2, g_10_5, g_10_10, q_10_5, k_10, l_44, s_44, li_0, li_1, li_2, li_31, ob2, iI_add, Option.bind_some, iI_eq, ii_one, iI_or, XF_shk, XF_sh6, XF_sh12, XF_sh11, XF_sh4, XR_sh43, XR_sh44, XR_sh45, XR_sh46, XR_sh25, XR_sh26, XR_sh27, XR_sh28, XR_sh29, XR_sh31, XR_sh32, XR_sh33, XR_sh34, XR_sh35, sF_sh, sR_sh43, sR_sh44, sR_sh45, sR_sh46, XJ_sh, XP_sh, XM_sh, upF_2]
      simp (disch := first | assumption | omega | exact W_fl W _ _ _ | exact W_fh W _ _ _ | exact W_rl W _ _ _ | exact W_rh W _ _ _ | exact Wd_fl Wd _ | exact Wd_fh Wd _ | exact Wd_4l Wd _ | exact Wd_4h Wd _ | exact Wd_1l Wd _ | exact Wd_1h Wd _ | exact Wd_2l Wd _ | exact Wd_2h Wd _ | exact Wd_3l Wd _ | exact Wd_3h Wd _) only [g_10_3, g_10_2, g_10_5, g_10_10, q_10_5, k_10, l_44, s_44, li_0, li_1, li_2, li_31, ob2, iI_add, Option.bind_some, iI_eq, ii_one, iI_or, XF_shk, XF_sh6, XF_sh12, XF_sh11, XF_sh4, XR_sh43, XR_sh44, XR_sh45, XR_sh46, XR_sh25, XR_sh26, XR_sh27, XR_sh28, XR_sh29, XR_sh31, XR_sh32, XR_sh33, XR_sh34, XR_sh35, sF_sh, sR_sh43, sR_sh44, sR_sh45, sR_sh46, XJ_sh, XP_sh, XM_sh, upF_1, upF_2, and_true, true_and, if_true, if_false, ite_true, ite_false, eq_self, and_self, not_true_eq_false, not_false_eq_true, false_and, and_false, Nat.reduceEqDiff, Nat.reduceAdd, reduceCtorEq]
  · simp only [if_neg c]
/-- teaches -/
def teachA (X : XS) (d : D5) (m r : Int) : Int × D5 := if canD X d then (if bitI (d.2.2.2.1 m) r = true then (2, d) else if 999 < d.1 1 + 3 then (9, d) else (0, ((upF d 1 (d.1 1 + 3)).1, d.2.1, d.2.2.1, upi d.2.2.2.1 m (ior (d.2.2.2.1 m) (pw r)), d.2.2.2.2))) else (1, d)
theorem d_teach {f0 : Nat} {Y : YS} {X : XS} {k : Nat} {d : D5} (g : GY Y) (hk : k < 10) (W : WF X) (Wd : WD d) (hd : CD X d) {m r : Int} (m0 : 0 ≤ m) (m1 : m < 8) (r0 : 0 ≤ r) (r1 : r < 6) : fX10_teach f0 (Ad Y 10 k) (iI m) (iI r) (hp Y (shS X k d)) = some (iI (teachA X d m r).1, hp Y (shS X k (teachA X d m r).2)) := by
  have gk := ShO_k g hk
  have h2 := hd.1
  have hs := hd.2.2.2.2.2.2.1 m m0 m1
  simp (disch := first | assumption | omega | exact W_fl W _ _ _ | exact W_fh W _ _ _ | exact W_rl W _ _ _ | exact W_rh W _ _ _ | exact Wd_fl Wd _ | exact Wd_fh Wd _ | exact Wd_4l Wd _ | exact Wd_4h Wd _ | exact Wd_1l Wd _ | exact Wd_1h Wd _ | exact Wd_2l Wd _ | exact Wd_2h Wd _ | exact Wd_3l Wd _ | exact Wd_3h Wd _) only [iI_lt, iI_le, iI_eq, bI_i0, ite_n, ii_bit, ii_one, iI_or, fX10_teach, g_10_11, g_10_1, p_10_1, k_10, l_45, s_45, li_0, li_1, li_31, li_3, li_9, li_2, ob2, iI_add, Option.bind_some, d_canAct, d_isLate, XF_shk, XF_sh6, XF_sh12, XF_sh11, XF_sh4, XR_sh43, XR_sh44, XR_sh45, XR_sh46, XR_sh25, XR_sh26, XR_sh27, XR_sh28, XR_sh29, XR_sh31, XR_sh32, XR_sh33, XR_sh34, XR_sh35, sF_sh, sR_sh43, sR_sh44, sR_sh45, sR_sh46, XJ_sh, XP_sh, XM_sh]
  unfold teachA
  by_cases c : canD X d
  · simp only [if_pos c]
    by_cases e : bitI (d.2.2.2.1 m) r = true
    · simp only [if_pos e]
    · simp only [if_neg e]
      by_cases e2 : 999 < d.1 1 + 3
      · simp only [if_pos e2]
      · simp only [if_neg e2]
        simp (disch := first | assumption | omega | exact W_fl W _ _ _ | exact W_fh W _ _ _ | exact W_rl W _ _ _ | exact W_rh W _ _ _ | exact Wd_fl Wd _ | exact Wd_fh Wd _ | exact Wd_4l Wd _ | exact Wd_4h Wd _ | exact Wd_1l Wd _ | exact Wd_1h Wd _ | exact Wd_2l Wd _ | exact Wd_2h Wd _ | exact Wd_3l Wd _ | exact Wd_3h Wd _) only [g_10_11, g_10_1, p_10_1, k_10, l_45, s_45, li_0, li_1, li_31, li_3, li_9, li_2, ob2, iI_add, Option.bind_some, ii_one, iI_or, XF_shk, XF_sh6, XF_sh12, XF_sh11, XF_sh4, XR_sh43, XR_sh44, XR_sh45, XR_sh46, XR_sh25, XR_sh26, XR_sh27, XR_sh28, XR_sh29, XR_sh31, XR_sh32, XR_sh33, XR_sh34, XR_sh35, sF_sh, sR_sh43, sR_sh44, sR_sh45, sR_sh46, XJ_sh, XP_sh, XM_sh, upF_2]
  · simp only [if_neg c]
/-- an office tells on -/
def tlR (X : XS) (d : D5) (p s n : Int) : Int → Int := fun i => if i % 8 = s ∧ 0 ≤ i ∧ i / 8 < n then (if d.1 1 + XR X 35 0 (p * 8 + i / 8) < d.2.2.2.2 i then d.1 1 + XR X 35 0 (p * 8 + i / 8) else d.2.2.2.2 i) else d.2.2.2.2 i
def tellD (X : XS) (d : D5) (p s : Int) : D5 := (d.1, d.2.1, d.2.2.1, d.2.2.2.1, tlR X d p s (XR X 25 0 0))
theorem d_tell {f0 : Nat} {Y : YS} {X : XS} {k : Nat} {d : D5} (g : GY Y) (hk : k < 10) (W : WF X) (Wd : WD d) (hC : CSea X 0) (hd : CD X d) {p s : Int} (p0 : 0 ≤ p) (p1 : p < 8) (s0 : 0 ≤ s) (s1 : s < 8) (hf : 20 ≤ f0) : fX10_tell f0 (Ad Y 10 k) (iI p) (iI s) (hp Y (shS X k d)) = some (hp Y (shS X k (tellD X d p s))) := by
  have gk := ShO_k g hk; have gs := SeO_0 g
  have c0 := hC.1; have h2 := hd.1
  simp only [fX10_tell, li_0]
  have z : tlR X d p s 0 = d.2.2.2.2 := by
    funext i
    unfold tlR
    rw [if_neg (by omega)]
  have e0 : shS X k d = shS X k (d.1, d.2.1, d.2.2.1, d.2.2.2.1, tlR X d p s 0) := by rw [z]
  rw [e0]
  refine lp (fun f (i : Int) => bX10_tell_2 f0 f (Ad Y 10 k) (iI p) (iI s) (iI i) (hp Y (shS X k (d.1, d.2.1, d.2.2.1, d.2.2.2.1, tlR X d p s i)))) (fun i => 0 ≤ i ∧ i ≤ XR X 25 0 0) (fun i => (17 - i).toNat) (fun r => r = _) ?_ f0 0 ⟨by omega, by omega⟩ (by omega)
  intro f i ⟨hi, hk⟩
  by_cases c : XR X 25 0 0 ≤ i
  · left
    simp (disch := first | assumption | omega | exact W_fl W _ _ _ | exact W_fh W _ _ _ | exact W_rl W _ _ _ | exact W_rh W _ _ _ | exact Wd_fl Wd _ | exact Wd_fh Wd _ | exact Wd_4l Wd _ | exact Wd_4h Wd _ | exact Wd_1l Wd _ | exact Wd_1h Wd _ | exact Wd_2l Wd _ | exact Wd_2h Wd _ | exact Wd_3l Wd _ | exact Wd_3h Wd _) only [iI_lt, iI_le, iI_eq, bI_i0, ite_n, ii_bit, ii_one, iI_or, bX10_tell_2, g10s, g_6_1, g_10_1, g_6_12, g_10_12, l_25, s_25, l_35, s_35, l_46, s_46, li_0, li_1, li_8, iI_add, iI_mul, Option.bind_some, XF_shk, XF_sh6, XF_sh12, XF_sh11, XF_sh4, XR_sh43, XR_sh44, XR_sh45, XR_sh46, XR_sh25, XR_sh26, XR_sh27, XR_sh28, XR_sh29, XR_sh31, XR_sh32, XR_sh33, XR_sh34, XR_sh35, sF_sh, sR_sh43, sR_sh44, sR_sh45, sR_sh46, XJ_sh, XP_sh, XM_sh, if_pos c]
    rw [show i = XR X 25 0 0 by omega]; rfl
  · right
    refine ⟨i + 1, ?_, ⟨by omega, by omega⟩, by omega⟩
    have hpo := hC.2.2.2.2.2.2.2.2.2.2.2 (p * 8 + i) (by omega) (by omega)
    have hkn := hd.2.2.2.2.2.2.2 (i * 8 + s) (by omega) (by omega)
    have e1 : tlR X d p s i (i * 8 + s) = d.2.2.2.2 (i * 8 + s) := by
      unfold tlR; rw [if_neg (by omega)]
    simp (disch := first | assumption | omega | exact W_fl W _ _ _ | exact W_fh W _ _ _ | exact W_rl W _ _ _ | exact W_rh W _ _ _ | exact Wd_fl Wd _ | exact Wd_fh Wd _ | exact Wd_4l Wd _ | exact Wd_4h Wd _ | exact Wd_1l Wd _ | exact Wd_1h Wd _ | exact Wd_2l Wd _ | exact Wd_2h Wd _ | exact Wd_3l Wd _ | exact Wd_3h Wd _) only [iI_lt, iI_le, iI_eq, bI_i0, ite_n, ii_bit, ii_one, iI_or, bX10_tell_2, g10s, g_6_1, g_10_1, g_6_12, g_10_12, l_25, s_25, l_35, s_35, l_46, s_46, li_0, li_1, li_8, iI_add, iI_mul, Option.bind_some, XF_shk, XF_sh6, XF_sh12, XF_sh11, XF_sh4, XR_sh43, XR_sh44, XR_sh45, XR_sh46, XR_sh25, XR_sh26, XR_sh27, XR_sh28, XR_sh29, XR_sh31, XR_sh32, XR_sh33, XR_sh34, XR_sh35, sF_sh, sR_sh43, sR_sh44, sR_sh45, sR_sh46, XJ_sh, XP_sh, XM_sh, if_neg c, iI_ite, e1]
    congr 7
    funext j
    rw [upi_at]
    unfold tlR
    by_cases q : j = i * 8 + s
    · have q1 : j / 8 = i := by omega
      rw [if_pos q, if_pos (show j % 8 = s ∧ 0 ≤ j ∧ j / 8 < i + 1 by omega), q1, q]
    · rw [if_neg q]
      by_cases q2 : j % 8 = s ∧ 0 ≤ j ∧ j / 8 < i
      · rw [if_pos q2, if_pos (show j % 8 = s ∧ 0 ≤ j ∧ j / 8 < i + 1 by omega)]
      · rw [if_neg q2, if_neg (show ¬ (j % 8 = s ∧ 0 ≤ j ∧ j / 8 < i + 1) by omega)]
theorem tl_cd {X : XS} {d : D5} (Wd : WD d) (hC : CSea X 0) (hd : CD X d) {p s : Int} (p0 : 0 ≤ p) (p1 : p < 8) : WD (tellD X d p s) ∧ CD X (tellD X d p s) := by
  have c0 := hC.1; have h2 := hd.1
  have hr : ∀ i, (0 ≤ i ∧ i < 64 → 0 ≤ tlR X d p s (XR X 25 0 0) i ∧ tlR X d p s (XR X 25 0 0) i ≤ 1000000) ∧ Rg (tlR X d p s (XR X 25 0 0) i) := by
    intro i
    unfold tlR
    split
    · rename_i c
      have hpo := hC.2.2.2.2.2.2.2.2.2.2.2 (p * 8 + i / 8) (by omega) (by omega)
      split
      · rename_i c2
        refine ⟨fun h => ?_, ?_, ?_⟩
        · have := hd.2.2.2.2.2.2.2 i h.1 h.2
          omega
        · omega
        · omega
      · exact ⟨fun h => hd.2.2.2.2.2.2.2 i h.1 h.2, Wd.2.2.2.2 i⟩
    · exact ⟨fun h => hd.2.2.2.2.2.2.2 i h.1 h.2, Wd.2.2.2.2 i⟩
  exact ⟨⟨Wd.1, Wd.2.1, Wd.2.2.1, Wd.2.2.2.1, fun i => (hr i).2⟩, hd.1, hd.2.1, hd.2.2.1, hd.2.2.2.1, hd.2.2.2.2.1, hd.2.2.2.2.2.1, hd.2.2.2.2.2.2.1, fun i h1 h2 => (hr i).1 ⟨h1, h2⟩⟩
def rnD (X : XS) (p day : Int) : Bool := anyB (rainB X 0 p day) (XR X 25 0 6).toNat
def wfD (X : XS) (p : Int) : Int := sumI (fun s => XR X 28 0 (s * 8 + p)) (XR X 25 0 3).toNat
theorem d_rainsAt {f0 : Nat} {Y : YS} {X : XS} {k : Nat} {d : D5} (g : GY Y) (W : WF X) (Wd : WD d) (hC : CSea X 0) {p t : Int} (h0 : 0 ≤ p) (h8 : p < 8) (hd : 0 ≤ t) (hd' : t < 2000) (hf : 20 ≤ f0) : fX6_rainsAt f0 (Ad Y 6 0) (iI p) (iI t) (hp Y (shS X k d)) = some (bI (rnD X p t = true), hp Y (shS X k d)) := by
  rw [e_rainsAt (SeO_0 g) (W_sh W Wd) h0 h8 hd hd' (CS_sh hC).2.2.2.2.1.2 hf]
  unfold rainB rnD rainB
  simp only [XF_shk, XF_sh6, XF_sh12, XF_sh11, XF_sh4, XR_sh43, XR_sh44, XR_sh45, XR_sh46, XR_sh25, XR_sh26, XR_sh27, XR_sh28, XR_sh29, XR_sh31, XR_sh32, XR_sh33, XR_sh34, XR_sh35, sF_sh, sR_sh43, sR_sh44, sR_sh45, sR_sh46, XJ_sh, XP_sh, XM_sh]
theorem d_wantedForAt {f0 : Nat} {Y : YS} {X : XS} {k : Nat} {d : D5} (g : GY Y) (W : WF X) (Wd : WD d) (hC : CSea X 0) {p : Int} (h0 : 0 ≤ p) (h8 : p < 8) (hf : 20 ≤ f0) : fX6_wantedForAt f0 (Ad Y 6 0) (iI p) (hp Y (shS X k d)) = some (iI (wfD X p), hp Y (shS X k d)) := by
  rw [e_wantedForAt (SeO_0 g) (W_sh W Wd) h0 h8 (CS_sh hC).2.1.2 (CS_sh hC).2.1.1 hf]
  unfold wfD
  simp only [XF_shk, XF_sh6, XF_sh12, XF_sh11, XF_sh4, XR_sh43, XR_sh44, XR_sh45, XR_sh46, XR_sh25, XR_sh26, XR_sh27, XR_sh28, XR_sh29, XR_sh31, XR_sh32, XR_sh33, XR_sh34, XR_sh35, sF_sh, sR_sh43, sR_sh44, sR_sh45, sR_sh46, XJ_sh, XP_sh, XM_sh]
/-- she is seen -/
def seenD (X : XS) (d : D5) : D5 :=
  if d.2.2.2.2 (d.1 2 * 8 + d.1 3) ≤ d.1 1 then upF (upF d 6 1) 5 (wr (d.1 5 - wfD X (d.1 2)))
  else if d.1 4 ≠ -1 ∧ rnD X (d.1 2) (d.1 1) = true then tellD X (tellD X d (d.1 2) (d.1 3)) (d.1 2) (d.1 4) else d
theorem d_beSeen {f0 : Nat} {Y : YS} {X : XS} {k : Nat} {d : D5} (g : GY Y) (hk : k < 10) (W : WF X) (Wd : WD d) (hC : CSea X 0) (hd : CD X d) (hH : forHer X 0) (hf : 20 ≤ f0) : fX10_beSeen f0 (Ad Y 10 k) (hp Y (shS X k d)) = some (hp Y (shS X k (seenD X d))) := by
  have gk := ShO_k g hk; have gs := SeO_0 g
  have c0 := hC.1; have c3 := hC.2.1; have hp1 := (hd.2.1 hH).1; have hn1 := (hd.2.1 hH).2; have h1 := hd.1
  have hkn := hd.2.2.2.2.2.2.2 (d.1 2 * 8 + d.1 3) (by omega) (by omega)
  have hb := hd.2.2.1
  unfold seenD
  by_cases a : d.2.2.2.2 (d.1 2 * 8 + d.1 3) ≤ d.1 1
  · rw [if_pos a]
    have Wd2 : WD (upF d 6 1) := WD_F Wd (by decide) (by decide)
    have hn : ¬ d.1 1 < d.2.2.2.2 (d.1 2 * 8 + d.1 3) := by omega
    have z : (1 : Int) = 0 ∨ (1 : Int) = 1 := by decide
    simp (disch := first | assumption | omega | exact W_fl W _ _ _ | exact W_fh W _ _ _ | exact W_rl W _ _ _ | exact W_rh W _ _ _ | exact Wd_fl Wd _ | exact Wd_fh Wd _ | exact Wd_4l Wd _ | exact Wd_4h Wd _ | exact Wd_1l Wd _ | exact Wd_1h Wd _ | exact Wd_2l Wd _ | exact Wd_2h Wd _ | exact Wd_3l Wd _ | exact Wd_3h Wd _) only [fX10_beSeen, g_10_12, g_10_2, g_10_3, g_10_1, g_10_4, g10s, g_10_5, q_10_5, z_10_6, k_6, k_10, l_46, lm_1, li_8, li_1, li_0, ob2, iI_add, iI_mul, iI_sub, Option.bind_some, iI_neg, XF_shk, XF_sh6, XF_sh12, XF_sh11, XF_sh4, XR_sh43, XR_sh44, XR_sh45, XR_sh46, XR_sh25, XR_sh26, XR_sh27, XR_sh28, XR_sh29, XR_sh31, XR_sh32, XR_sh33, XR_sh34, XR_sh35, sF_sh, sR_sh43, sR_sh44, sR_sh45, sR_sh46, XJ_sh, XP_sh, XM_sh, iI_lt, if_neg hn, upF_1, upF_2, and_true, true_and, if_true, if_false, ite_true, ite_false, eq_self, and_self, not_true_eq_false, not_false_eq_true, false_and, and_false, Nat.reduceEqDiff, Nat.reduceAdd, reduceCtorEq, d_wantedForAt]
  · rw [if_neg a]
    have hn : d.1 1 < d.2.2.2.2 (d.1 2 * 8 + d.1 3) := by omega
    by_cases b : d.1 4 = -1
    · rw [if_neg (fun q => q.1 b)]
      simp (disch := first | assumption | omega | exact W_fl W _ _ _ | exact W_fh W _ _ _ | exact W_rl W _ _ _ | exact W_rh W _ _ _ | exact Wd_fl Wd _ | exact Wd_fh Wd _ | exact Wd_4l Wd _ | exact Wd_4h Wd _ | exact Wd_1l Wd _ | exact Wd_1h Wd _ | exact Wd_2l Wd _ | exact Wd_2h Wd _ | exact Wd_3l Wd _ | exact Wd_3h Wd _) only [fX10_beSeen, g_10_12, g_10_2, g_10_3, g_10_1, g_10_4, g10s, g_10_5, q_10_5, z_10_6, k_6, k_10, l_46, lm_1, li_8, li_1, li_0, ob2, iI_add, iI_mul, iI_sub, Option.bind_some, iI_neg, XF_shk, XF_sh6, XF_sh12, XF_sh11, XF_sh4, XR_sh43, XR_sh44, XR_sh45, XR_sh46, XR_sh25, XR_sh26, XR_sh27, XR_sh28, XR_sh29, XR_sh31, XR_sh32, XR_sh33, XR_sh34, XR_sh35, sF_sh, sR_sh43, sR_sh44, sR_sh45, sR_sh46, XJ_sh, XP_sh, XM_sh, iI_lt, iI_eq, if_pos hn, if_pos b]
    · by_cases e : rnD X (d.1 2) (d.1 1) = true
      · rw [if_pos ⟨b, e⟩]
        have t1 := tl_cd Wd hC hd (p := d.1 2) (s := d.1 3) (by omega) (by omega)
        have t2 : ∀ f, (tellD X d (d.1 2) (d.1 3)).1 f = d.1 f := fun _ => rfl
        have w2 := t1.1; have w3 := t1.2
        simp (disch := first | assumption | omega | exact W_fl W _ _ _ | exact W_fh W _ _ _ | exact W_rl W _ _ _ | exact W_rh W _ _ _ | exact Wd_fl Wd _ | exact Wd_fh Wd _ | exact Wd_4l Wd _ | exact Wd_4h Wd _ | exact Wd_1l Wd _ | exact Wd_1h Wd _ | exact Wd_2l Wd _ | exact Wd_2h Wd _ | exact Wd_3l Wd _ | exact Wd_3h Wd _) only [fX10_beSeen, g_10_12, g_10_2, g_10_3, g_10_1, g_10_4, g10s, g_10_5, q_10_5, z_10_6, k_6, k_10, l_46, lm_1, li_8, li_1, li_0, ob2, iI_add, iI_mul, iI_sub, Option.bind_some, iI_neg, XF_shk, XF_sh6, XF_sh12, XF_sh11, XF_sh4, XR_sh43, XR_sh44, XR_sh45, XR_sh46, XR_sh25, XR_sh26, XR_sh27, XR_sh28, XR_sh29, XR_sh31, XR_sh32, XR_sh33, XR_sh34, XR_sh35, sF_sh, sR_sh43, sR_sh44, sR_sh45, sR_sh46, XJ_sh, XP_sh, XM_sh, iI_lt, iI_eq, if_pos hn, if_neg b, d_rainsAt, bI_i0, ite_n, if_pos e, d_tell, t2]
      · rw [if_neg (fun q => e q.2)]
        simp (disch := first | assumption | omega | exact W_fl W _ _ _ | exact W_fh W _ _ _ | exact W_rl W _ _ _ | exact W_rh W _ _ _ | exact Wd_fl Wd _ | exact Wd_fh Wd _ | exact Wd_4l Wd _ | exact Wd_4h Wd _ | exact Wd_1l Wd _ | exact Wd_1h Wd _ | exact Wd_2l Wd _ | exact Wd_2h Wd _ | exact Wd_3l Wd _ | exact Wd_3h Wd _) only [fX10_beSeen, g_10_12, g_10_2, g_10_3, g_10_1, g_10_4, g10s, g_10_5, q_10_5, z_10_6, k_6, k_10, l_46, lm_1, li_8, li_1, li_0, ob2, iI_add, iI_mul, iI_sub, Option.bind_some, iI_neg, XF_shk, XF_sh6, XF_sh12, XF_sh11, XF_sh4, XR_sh43, XR_sh44, XR_sh45, XR_sh46, XR_sh25, XR_sh26, XR_sh27, XR_sh28, XR_sh29, XR_sh31, XR_sh32, XR_sh33, XR_sh34, XR_sh35, sF_sh, sR_sh43, sR_sh44, sR_sh45, sR_sh46, XJ_sh, XP_sh, XM_sh, iI_lt, iI_eq, if_pos hn, if_neg b, d_rainsAt, bI_i0, ite_n, if_neg e]
theorem seen_cd {X : XS} {d : D5} (Wd : WD d) (hC : CSea X 0) (hd : CD X d) (hH : forHer X 0) : WD (seenD X d) ∧ CD X (seenD X d) := by
  have c0 := hC.1; have hp1 := (hd.2.1 hH).1
  unfold seenD
  split
  · refine ⟨WD_F (WD_F Wd (by decide) (by decide)) (wr_rg _).1 (wr_rg _).2, ?_⟩
    exact ⟨hd.1, hd.2.1, hd.2.2.1, .inr rfl, hd.2.2.2.2⟩
  · split
    · have t1 := tl_cd Wd hC hd (p := d.1 2) (s := d.1 3) (by omega) (by omega)
      exact tl_cd t1.1 hC t1.2 (p := d.1 2) (s := d.1 4) (by omega) (by omega)
    · exact ⟨Wd, hd⟩
/-- sails -/
def sail1 (X : XS) (d : D5) (p : Int) : D5 := ((upF (upF (upF d 1 (d.1 1 + XR X 26 0 (d.1 2 * 8 + p))) 2 p) 8 (wr (d.1 8 + 1))).1, upi d.2.1 p (d.2.1 p + 1), d.2.2)
def sailA (X : XS) (d : D5) (p : Int) : Int × D5 := if canD X d then (if XR X 26 0 (d.1 2 * 8 + p) = 0 then (2, d) else if 999 < d.1 1 + XR X 26 0 (d.1 2 * 8 + p) then (9, d) else (0, seenD X (sail1 X d p))) else (1, d)
theorem sail1_cd {X : XS} {d : D5} (Wd : WD d) (hC : CSea X 0) (hd : CD X d) (hH : forHer X 0) {p : Int} (p0 : 0 ≤ p) (p1 : p < XR X 25 0 0) (h1 : XR X 26 0 (d.1 2 * 8 + p) ≠ 0) (h2 : d.1 1 + XR X 26 0 (d.1 2 * 8 + p) ≤ 999) : WD (sail1 X d p) ∧ CD X (sail1 X d p) := by
  have c0 := hC.1; have hp1 := (hd.2.1 hH).1; have h3 := hd.1
  have hw := hC.2.2.2.2.2.2.1 (d.1 2 * 8 + p) (by omega) (by omega)
  have hc := hd.2.2.2.2.1 p p0 (by omega)
  refine ⟨⟨(WD_F (WD_F (WD_F Wd (by omega) (by omega)) (by omega) (by omega)) (wr_rg _).1 (wr_rg _).2).1, fun i => ?_, Wd.2.2⟩, ?_⟩
  · show Rg (upi d.2.1 p (d.2.1 p + 1) i)
    rw [upi_at]; split
    · exact ⟨by omega, by omega⟩
    · exact Wd.2.1 i
  · refine ⟨⟨?_, ?_⟩, fun _ => ⟨⟨p0, p1⟩, (hd.2.1 hH).2⟩, hd.2.2.1, hd.2.2.2.1, fun i i0 i8 => ?_, hd.2.2.2.2.2⟩
    · show 0 ≤ d.1 1 + XR X 26 0 (d.1 2 * 8 + p); omega
    · show d.1 1 + XR X 26 0 (d.1 2 * 8 + p) ≤ 999; omega
    · have := hd.2.2.2.2.1 i i0 i8
      show 0 ≤ upi d.2.1 p (d.2.1 p + 1) i ∧ upi d.2.1 p (d.2.1 p + 1) i ≤ d.1 1 + XR X 26 0 (d.1 2 * 8 + p)
      rw [upi_at]; split <;> omega
theorem d_sailTo {f0 : Nat} {Y : YS} {X : XS} {k : Nat} {d : D5} (g : GY Y) (hk : k < 10) (W : WF X) (Wd : WD d) (hC : CSea X 0) (hd : CD X d) {p : Int} (p0 : 0 ≤ p) (p1 : p < XR X 25 0 0) (hf : 20 ≤ f0) : fX10_sailTo f0 (Ad Y 10 k) (iI p) (hp Y (shS X k d)) = some (iI (sailA X d p).1, hp Y (shS X k (sailA X d p).2)) := by
  have gk := ShO_k g hk; have gs := SeO_0 g
  have c0 := hC.1; have h2 := hd.1
  unfold sailA
  by_cases c : canD X d
  · have hp1 := (hd.2.1 c.1).1
    have hw := hC.2.2.2.2.2.2.1 (d.1 2 * 8 + p) (by omega) (by omega)
    rw [if_pos c]
    by_cases a : XR X 26 0 (d.1 2 * 8 + p) = 0
    · rw [if_pos a]
      simp (disch := first | assumption | omega | exact W_fl W _ _ _ | exact W_fh W _ _ _ | exact W_rl W _ _ _ | exact W_rh W _ _ _ | exact Wd_fl Wd _ | exact Wd_fh Wd _ | exact Wd_4l Wd _ | exact Wd_4h Wd _ | exact Wd_1l Wd _ | exact Wd_1h Wd _ | exact Wd_2l Wd _ | exact Wd_2h Wd _ | exact Wd_3l Wd _ | exact Wd_3h Wd _) only [fX10_sailTo, g10s, g_6_3, g_10_2, g_10_1, g_10_9, g_10_8, p_10_1, p_10_2, q_10_8, k_10, l_26, s_26, l_43, s_43, li_0, li_1, li_8, li_2, li_9, ob2, iI_add, iI_mul, Option.bind_some, XF_shk, XF_sh6, XF_sh12, XF_sh11, XF_sh4, XR_sh43, XR_sh44, XR_sh45, XR_sh46, XR_sh25, XR_sh26, XR_sh27, XR_sh28, XR_sh29, XR_sh31, XR_sh32, XR_sh33, XR_sh34, XR_sh35, sF_sh, sR_sh43, sR_sh44, sR_sh45, sR_sh46, XJ_sh, XP_sh, XM_sh, iI_eq, d_canAct, bI_i0, ite_n, if_pos c, if_pos a]
    · rw [if_neg a]
      by_cases b : 999 < d.1 1 + XR X 26 0 (d.1 2 * 8 + p)
      · rw [if_pos b]
        simp (disch := first | assumption | omega | exact W_fl W _ _ _ | exact W_fh W _ _ _ | exact W_rl W _ _ _ | exact W_rh W _ _ _ | exact Wd_fl Wd _ | exact Wd_fh Wd _ | exact Wd_4l Wd _ | exact Wd_4h Wd _ | exact Wd_1l Wd _ | exact Wd_1h Wd _ | exact Wd_2l Wd _ | exact Wd_2h Wd _ | exact Wd_3l Wd _ | exact Wd_3h Wd _) only [fX10_sailTo, g10s, g_6_3, g_10_2, g_10_1, g_10_9, g_10_8, p_10_1, p_10_2, q_10_8, k_10, l_26, s_26, l_43, s_43, li_0, li_1, li_8, li_2, li_9, ob2, iI_add, iI_mul, Option.bind_some, XF_shk, XF_sh6, XF_sh12, XF_sh11, XF_sh4, XR_sh43, XR_sh44, XR_sh45, XR_sh46, XR_sh25, XR_sh26, XR_sh27, XR_sh28, XR_sh29, XR_sh31, XR_sh32, XR_sh33, XR_sh34, XR_sh35, sF_sh, sR_sh43, sR_sh44, sR_sh45, sR_sh46, XJ_sh, XP_sh, XM_sh, iI_eq, d_canAct, d_isLate, bI_i0, ite_n, if_pos c, if_neg a, if_pos b]
      · rw [if_neg b]
        obtain ⟨w1, d1⟩ := sail1_cd Wd hC hd c.1 p0 p1 a (by omega)
        have hs := d_beSeen (f0 := f0) (k := k) g hk W w1 hC d1 c.1 hf
        simp (disch := first | assumption | omega | exact W_fl W _ _ _ | exact W_fh W _ _ _ | exact W_rl W _ _ _ | exact W_rh W _ _ _ | exact Wd_fl Wd _ | exact Wd_fh Wd _ | exact Wd_4l Wd _ | exact Wd_4h Wd _ | exact Wd_1l Wd _ | exact Wd_1h Wd _ | exact Wd_2l Wd _ | exact Wd_2h Wd _ | exact Wd_3l Wd _ | exact Wd_3h Wd _) only [fX10_sailTo, g10s, g_6_3, g_10_2, g_10_1, g_10_9, g_10_8, p_10_1, p_10_2, q_10_8, k_10, l_26, s_26, l_43, s_43, li_0, li_1, li_8, li_2, li_9, ob2, iI_add, iI_mul, Option.bind_some, XF_shk, XF_sh6, XF_sh12, XF_sh11, XF_sh4, XR_sh43, XR_sh44, XR_sh45, XR_sh46, XR_sh25, XR_sh26, XR_sh27, XR_sh28, XR_sh29, XR_sh31, XR_sh32, XR_sh33, XR_sh34, XR_sh35, sF_sh, sR_sh43, sR_sh44, sR_sh45, sR_sh46, XJ_sh, XP_sh, XM_sh, iI_eq, d_canAct, d_isLate, bI_i0, ite_n, if_pos c, if_neg a, if_neg b, upF_1, upF_2, and_true, true_and, if_true, if_false, ite_true, ite_false, eq_self, and_self, not_true_eq_false, not_false_eq_true, false_and, and_false, Nat.reduceEqDiff, Nat.reduceAdd, reduceCtorEq]
        unfold sail1 at hs
        simp only [upF, and_true, true_and, if_true, if_false, ite_true, ite_false, eq_self, and_self, not_true_eq_false, not_false_eq_true, false_and, and_false, Nat.reduceEqDiff, Nat.reduceAdd, reduceCtorEq] at hs ⊢
        rw [hs]; rfl
  · rw [if_neg c]
    simp (disch := first | assumption | omega | exact W_fl W _ _ _ | exact W_fh W _ _ _ | exact W_rl W _ _ _ | exact W_rh W _ _ _ | exact Wd_fl Wd _ | exact Wd_fh Wd _ | exact Wd_4l Wd _ | exact Wd_4h Wd _ | exact Wd_1l Wd _ | exact Wd_1h Wd _ | exact Wd_2l Wd _ | exact Wd_2h Wd _ | exact Wd_3l Wd _ | exact Wd_3h Wd _) only [fX10_sailTo, g10s, g_6_3, g_10_2, g_10_1, g_10_9, g_10_8, p_10_1, p_10_2, q_10_8, k_10, l_26, s_26, l_43, s_43, li_0, li_1, li_8, li_2, li_9, ob2, iI_add, iI_mul, Option.bind_some, XF_shk, XF_sh6, XF_sh12, XF_sh11, XF_sh4, XR_sh43, XR_sh44, XR_sh45, XR_sh46, XR_sh25, XR_sh26, XR_sh27, XR_sh28, XR_sh29, XR_sh31, XR_sh32, XR_sh33, XR_sh34, XR_sh35, sF_sh, sR_sh43, sR_sh44, sR_sh45, sR_sh46, XJ_sh, XP_sh, XM_sh, d_canAct, bI_i0, ite_n, if_neg c]
theorem sail_cd {X : XS} {d : D5} (Wd : WD d) (hC : CSea X 0) (hd : CD X d) {p : Int} (p0 : 0 ≤ p) (p1 : p < XR X 25 0 0) : WD (sailA X d p).2 ∧ CD X (sailA X d p).2 := by
  unfold sailA
  (repeat' split) <;> first | exact ⟨Wd, hd⟩ | skip
  rename_i c a b
  obtain ⟨w1, d1⟩ := sail1_cd Wd hC hd c.1 p0 p1 a (by omega)
  exact seen_cd w1 hC d1 c.1
