theorem yo_X11_where : yok yX11_where 0 := ⟨by decide, by decide, by decide +kernel⟩
set_option maxRecDepth 100000 in
set_option maxHeartbeats 4000000 in
theorem mX11_where {l : Launch} {D : va_G} {cy : Nat → ClassId} {f0 : Nat} {a : Nat} {h : Hp} {r : Int32} {hz : Hp} (e : fX11_where f0 a h = some (r, hz)) : MC l D cy yX11_where cX11_where 1 (some .int) rmX11_where [.ref a] h (some (.int r)) hz := by
  refine mc_of2 (by decide) (Nat.le_of_ble_eq_true rfl) (fun X hl hD hy hin o q => ?_)
  subst hl; subst hD; subst hy
  show G X 1 0 [(0, .ref a)] [] h 0 0
  unfold fX11_where at e
  refine g_aload_n 0 o dX11_where_0 rfl rfl ?_
  obtain ⟨x1, q1, e⟩ := ob e
  refine g_getN 11 o cf11 (by decide) mw_375 dX11_where_1 q1 ?_
  obtain ⟨_, k4, e⟩ := ob e
  obtain ⟨x4, h4, q4, e⟩ := ob2_s e
  refine g_callVv [] o (mX10_goal q4) cf10 (ckO_s k4) mw_959 mw_960 mw_961 mw_13 mw_962 rfl yo_X10_goal rfl rfl (Nat.le_of_ble_eq_true rfl) ⟨by decide, by decide⟩ ⟨rfl, rfl⟩ dX11_where_4 ⟨by decide, by decide⟩ ?_
  exact g_iret o dX11_where_7 (rt_v q e)
set_option maxRecDepth 100000 in
set_option maxHeartbeats 4000000 in
theorem kX11_keepIfDone_8 {X : Cx} (f0 : Nat) (o : Ok X cX11_keepIfDone RX11 2 rmX11_keepIfDone (some .int)) (v1 : Int32) (h : Hp) (r : Int32) (hz : Hp) (q : Rt X (some (.int r)) hz 0 0) (e : bX11_keepIfDone_8 f0 v1 h = some (r, hz)) : G X 2 8 [(1, .int v1)] [] h 0 0 := by
  unfold bX11_keepIfDone_8 at e
  refine g_iload_n 0 o dX11_keepIfDone_8 rfl rfl ?_
  exact g_iret o dX11_keepIfDone_9 (rt_v q e)
theorem yo_X11_keepIfDone : yok yX11_keepIfDone 1 := ⟨by decide, by decide, by decide +kernel⟩
set_option maxRecDepth 100000 in
set_option maxHeartbeats 4000000 in
theorem mX11_keepIfDone {l : Launch} {D : va_G} {cy : Nat → ClassId} {f0 : Nat} {a : Nat} {p0 : Int32} {h : Hp} {r : Int32} {hz : Hp} (e : fX11_keepIfDone f0 a p0 h = some (r, hz)) : MC l D cy yX11_keepIfDone cX11_keepIfDone 2 (some .int) rmX11_keepIfDone [.ref a, .int p0] h (some (.int r)) hz := by
  refine mc_of2 (by decide) (Nat.le_of_ble_eq_true rfl) (fun X hl hD hy hin o q => ?_)
  subst hl; subst hD; subst hy
  show G X 2 0 [(0, .ref a), (1, .int p0)] [] h 0 0
  unfold fX11_keepIfDone at e
  refine g_iload_n 1 o dX11_keepIfDone_0 rfl rfl ?_
  refine g_if_ne (x := p0) 8 o dX11_keepIfDone_1 (by decide) (fun u => ?_) (fun u => ?_)
  · rw [if_neg u] at e
    refine g_sb [1] rfl ?_
    exact kX11_keepIfDone_8 f0 o p0 h r hz q e
  · rw [if_pos u] at e
    refine g_aload_n 0 o dX11_keepIfDone_4 rfl rfl ?_
    obtain ⟨_, k5, e⟩ := ob e
    obtain ⟨h5, q5, e⟩ := ob e
    refine g_callV0 [] o (mX11_keepTrial q5) cf11 (ckO_s k5) mw_794 mw_795 mw_1711 mw_1 mw_796 rfl yo_X11_keepTrial rfl rfl (Nat.le_of_ble_eq_true rfl) ⟨by decide, by decide⟩ ⟨rfl, rfl⟩ dX11_keepIfDone_5 ⟨by decide, by decide⟩ ?_
    refine g_sb [1] rfl ?_
    exact kX11_keepIfDone_8 f0 o p0 h5 r hz q e
theorem yo_X11_paint : yok yX11_paint 1 := ⟨by decide, by decide, by decide +kernel⟩
set_option maxRecDepth 100000 in
set_option maxHeartbeats 4000000 in
theorem mX11_paint {l : Launch} {D : va_G} {cy : Nat → ClassId} {f0 : Nat} {a : Nat} {p0 : Int32} {h : Hp} {r : Int32} {hz : Hp} (e : fX11_paint f0 a p0 h = some (r, hz)) : MC l D cy yX11_paint cX11_paint 2 (some .int) rmX11_paint [.ref a, .int p0] h (some (.int r)) hz := by
  refine mc_of2 (by decide) (Nat.le_of_ble_eq_true rfl) (fun X hl hD hy hin o q => ?_)
  subst hl; subst hD; subst hy
  show G X 2 0 [(0, .ref a), (1, .int p0)] [] h 0 0
  unfold fX11_paint at e
  refine g_aload_n 0 o dX11_paint_0 rfl rfl ?_
  obtain ⟨x1, q1, e⟩ := ob e
  refine g_getN 4 o cf11 (by decide) mw_368 dX11_paint_1 q1 ?_
  refine g_iconst (v := 3) o dX11_paint_4 (by decide) ?_
  refine g_iload_n 1 o dX11_paint_5 rfl rfl ?_
  obtain ⟨_, k6, e⟩ := ob e
  obtain ⟨x6, h6, q6, e⟩ := ob2_s e
  refine g_callVv [.int 3, .int p0] o (mX6_has q6) cf6 (ckO_s k6) mw_824 mw_682 mw_683 mw_7 mw_684 rfl yo_X6_has rfl rfl (Nat.le_of_ble_eq_true rfl) ⟨by decide, by decide⟩ ⟨rfl, rfl⟩ dX11_paint_6 ⟨by decide, by decide⟩ ?_
  refine g_if_ne (x := x6) 14 o dX11_paint_9 (by decide) (fun u => ?_) (fun u => ?_)
  · rw [if_neg u] at e
    refine g_aload_n 0 o dX11_paint_14 rfl rfl ?_
    obtain ⟨x15, q15, e⟩ := ob e
    refine g_getN 12 o cf11 (by decide) mw_376 dX11_paint_15 q15 ?_
    refine g_aload_n 0 o dX11_paint_18 rfl rfl ?_
    obtain ⟨x19, q19, e⟩ := ob e
    refine g_getN 11 o cf11 (by decide) mw_375 dX11_paint_19 q19 ?_
    obtain ⟨_, k22, e⟩ := ob e
    obtain ⟨h22, q22, e⟩ := ob e
    refine g_callV0 [.ref x19] o (mX10_copyFrom q22) cf10 (ckO_s k22) mw_732 mw_733 mw_734 mw_13 mw_735 rfl yo_X10_copyFrom rfl rfl (Nat.le_of_ble_eq_true rfl) ⟨by decide, by decide⟩ ⟨rfl, rfl⟩ dX11_paint_22 ⟨by decide, by decide⟩ ?_
    refine g_aload_n 0 o dX11_paint_25 rfl rfl ?_
    refine g_aload_n 0 o dX11_paint_26 rfl rfl ?_
    obtain ⟨x27, q27, e⟩ := ob e
    refine g_getN 12 o cf11 (by decide) mw_376 dX11_paint_27 q27 ?_
    refine g_iload_n 1 o dX11_paint_30 rfl rfl ?_
    obtain ⟨_, k31, e⟩ := ob e
    obtain ⟨x31, h31, q31, e⟩ := ob2_s e
    refine g_callVv [.int p0] o (mX10_paintAs q31) cf10 (ckO_s k31) mw_972 mw_744 mw_745 mw_13 mw_746 rfl yo_X10_paintAs rfl rfl (Nat.le_of_ble_eq_true rfl) ⟨by decide, by decide⟩ ⟨rfl, rfl⟩ dX11_paint_31 ⟨by decide, by decide⟩ ?_
    obtain ⟨_, k34, e⟩ := ob e
    obtain ⟨x34, h34, q34, e⟩ := ob2_s e
    refine g_callVv [.int x31] o (mX11_keepIfDone q34) cf11 (ckO_s k34) mw_973 mw_974 mw_1719 mw_1 mw_975 rfl yo_X11_keepIfDone rfl rfl (Nat.le_of_ble_eq_true rfl) ⟨by decide, by decide⟩ ⟨rfl, rfl⟩ dX11_paint_34 ⟨by decide, by decide⟩ ?_
    exact g_iret o dX11_paint_37 (rt_v q e)
  · rw [if_pos u] at e
    refine g_iconst (v := -1) o dX11_paint_12 (by decide) ?_
    exact g_iret o dX11_paint_13 (rt_v q e)
theorem yo_X11_sail : yok yX11_sail 1 := ⟨by decide, by decide, by decide +kernel⟩
set_option maxRecDepth 100000 in
set_option maxHeartbeats 4000000 in
theorem mX11_sail {l : Launch} {D : va_G} {cy : Nat → ClassId} {f0 : Nat} {a : Nat} {p0 : Int32} {h : Hp} {r : Int32} {hz : Hp} (e : fX11_sail f0 a p0 h = some (r, hz)) : MC l D cy yX11_sail cX11_sail 2 (some .int) rmX11_sail [.ref a, .int p0] h (some (.int r)) hz := by
  refine mc_of2 (by decide) (Nat.le_of_ble_eq_true rfl) (fun X hl hD hy hin o q => ?_)
  subst hl; subst hD; subst hy
  show G X 2 0 [(0, .ref a), (1, .int p0)] [] h 0 0
  unfold fX11_sail at e
  refine g_aload_n 0 o dX11_sail_0 rfl rfl ?_
  obtain ⟨x1, q1, e⟩ := ob e
  refine g_getN 4 o cf11 (by decide) mw_368 dX11_sail_1 q1 ?_
  refine g_iconst (v := 0) o dX11_sail_4 (by decide) ?_
  refine g_iload_n 1 o dX11_sail_5 rfl rfl ?_
  obtain ⟨_, k6, e⟩ := ob e
  obtain ⟨x6, h6, q6, e⟩ := ob2_s e
  refine g_callVv [.int 0, .int p0] o (mX6_has q6) cf6 (ckO_s k6) mw_824 mw_682 mw_683 mw_7 mw_684 rfl yo_X6_has rfl rfl (Nat.le_of_ble_eq_true rfl) ⟨by decide, by decide⟩ ⟨rfl, rfl⟩ dX11_sail_6 ⟨by decide, by decide⟩ ?_
  refine g_if_ne (x := x6) 14 o dX11_sail_9 (by decide) (fun u => ?_) (fun u => ?_)
  · rw [if_neg u] at e
    refine g_aload_n 0 o dX11_sail_14 rfl rfl ?_
    obtain ⟨x15, q15, e⟩ := ob e
    refine g_getN 12 o cf11 (by decide) mw_376 dX11_sail_15 q15 ?_
    refine g_aload_n 0 o dX11_sail_18 rfl rfl ?_
    obtain ⟨x19, q19, e⟩ := ob e
    refine g_getN 11 o cf11 (by decide) mw_375 dX11_sail_19 q19 ?_
    obtain ⟨_, k22, e⟩ := ob e
    obtain ⟨h22, q22, e⟩ := ob e
    refine g_callV0 [.ref x19] o (mX10_copyFrom q22) cf10 (ckO_s k22) mw_732 mw_733 mw_734 mw_13 mw_735 rfl yo_X10_copyFrom rfl rfl (Nat.le_of_ble_eq_true rfl) ⟨by decide, by decide⟩ ⟨rfl, rfl⟩ dX11_sail_22 ⟨by decide, by decide⟩ ?_
    refine g_aload_n 0 o dX11_sail_25 rfl rfl ?_
    refine g_aload_n 0 o dX11_sail_26 rfl rfl ?_
    obtain ⟨x27, q27, e⟩ := ob e
    refine g_getN 12 o cf11 (by decide) mw_376 dX11_sail_27 q27 ?_
    refine g_iload_n 1 o dX11_sail_30 rfl rfl ?_
    obtain ⟨_, k31, e⟩ := ob e
    obtain ⟨x31, h31, q31, e⟩ := ob2_s e
    refine g_callVv [.int p0] o (mX10_sailTo q31) cf10 (ckO_s k31) mw_980 mw_764 mw_765 mw_13 mw_766 rfl yo_X10_sailTo rfl rfl (Nat.le_of_ble_eq_true rfl) ⟨by decide, by decide⟩ ⟨rfl, rfl⟩ dX11_sail_31 ⟨by decide, by decide⟩ ?_
    obtain ⟨_, k34, e⟩ := ob e
    obtain ⟨x34, h34, q34, e⟩ := ob2_s e
    refine g_callVv [.int x31] o (mX11_keepIfDone q34) cf11 (ckO_s k34) mw_973 mw_974 mw_1719 mw_1 mw_975 rfl yo_X11_keepIfDone rfl rfl (Nat.le_of_ble_eq_true rfl) ⟨by decide, by decide⟩ ⟨rfl, rfl⟩ dX11_sail_34 ⟨by decide, by decide⟩ ?_
    exact g_iret o dX11_sail_37 (rt_v q e)
  · rw [if_pos u] at e
    refine g_iconst (v := -1) o dX11_sail_12 (by decide) ?_
    exact g_iret o dX11_sail_13 (rt_v q e)
theorem yo_X11_waits : yok yX11_waits 1 := ⟨by decide, by decide, by decide +kernel⟩
set_option maxRecDepth 100000 in
set_option maxHeartbeats 4000000 in
theorem mX11_waits {l : Launch} {D : va_G} {cy : Nat → ClassId} {f0 : Nat} {a : Nat} {p0 : Int32} {h : Hp} {r : Int32} {hz : Hp} (e : fX11_waits f0 a p0 h = some (r, hz)) : MC l D cy yX11_waits cX11_waits 2 (some .int) rmX11_waits [.ref a, .int p0] h (some (.int r)) hz := by
  refine mc_of2 (by decide) (Nat.le_of_ble_eq_true rfl) (fun X hl hD hy hin o q => ?_)
  subst hl; subst hD; subst hy
  show G X 2 0 [(0, .ref a), (1, .int p0)] [] h 0 0
  unfold fX11_waits at e
  refine g_iload_n 1 o dX11_waits_0 rfl rfl ?_
  refine g_iconst (v := 1) o dX11_waits_1 (by decide) ?_
  refine g_icmp_lt (x := p0) (y := 1) 11 o dX11_waits_2 (by decide) (fun u => ?_) (fun u => ?_)
  · rw [if_pos u] at e
    refine g_iconst (v := -1) o dX11_waits_11 (by decide) ?_
    exact g_iret o dX11_waits_12 (rt_v q e)
  · rw [if_neg u] at e
    refine g_iload_n 1 o dX11_waits_5 rfl rfl ?_
    refine g_bipush (v := 60) o dX11_waits_6 (by decide) ?_
    refine g_icmp_le (x := p0) (y := 60) 13 o dX11_waits_8 (by decide) (fun u => ?_) (fun u => ?_)
    · rw [if_pos u] at e
      refine g_aload_n 0 o dX11_waits_13 rfl rfl ?_
      obtain ⟨x14, q14, e⟩ := ob e
      refine g_getN 12 o cf11 (by decide) mw_376 dX11_waits_14 q14 ?_
      refine g_aload_n 0 o dX11_waits_17 rfl rfl ?_
      obtain ⟨x18, q18, e⟩ := ob e
      refine g_getN 11 o cf11 (by decide) mw_375 dX11_waits_18 q18 ?_
      obtain ⟨_, k21, e⟩ := ob e
      obtain ⟨h21, q21, e⟩ := ob e
      refine g_callV0 [.ref x18] o (mX10_copyFrom q21) cf10 (ckO_s k21) mw_732 mw_733 mw_734 mw_13 mw_735 rfl yo_X10_copyFrom rfl rfl (Nat.le_of_ble_eq_true rfl) ⟨by decide, by decide⟩ ⟨rfl, rfl⟩ dX11_waits_21 ⟨by decide, by decide⟩ ?_
      refine g_aload_n 0 o dX11_waits_24 rfl rfl ?_
      refine g_aload_n 0 o dX11_waits_25 rfl rfl ?_
      obtain ⟨x26, q26, e⟩ := ob e
      refine g_getN 12 o cf11 (by decide) mw_376 dX11_waits_26 q26 ?_
      refine g_iload_n 1 o dX11_waits_29 rfl rfl ?_
      obtain ⟨_, k30, e⟩ := ob e
      obtain ⟨x30, h30, q30, e⟩ := ob2_s e
      refine g_callVv [.int p0] o (mX10_waitFor q30) cf10 (ckO_s k30) mw_985 mw_779 mw_780 mw_13 mw_781 rfl yo_X10_waitFor rfl rfl (Nat.le_of_ble_eq_true rfl) ⟨by decide, by decide⟩ ⟨rfl, rfl⟩ dX11_waits_30 ⟨by decide, by decide⟩ ?_
      obtain ⟨_, k33, e⟩ := ob e
      obtain ⟨x33, h33, q33, e⟩ := ob2_s e
      refine g_callVv [.int x30] o (mX11_keepIfDone q33) cf11 (ckO_s k33) mw_973 mw_974 mw_1719 mw_1 mw_975 rfl yo_X11_keepIfDone rfl rfl (Nat.le_of_ble_eq_true rfl) ⟨by decide, by decide⟩ ⟨rfl, rfl⟩ dX11_waits_33 ⟨by decide, by decide⟩ ?_
      exact g_iret o dX11_waits_36 (rt_v q e)
    · rw [if_neg u] at e
      refine g_iconst (v := -1) o dX11_waits_11 (by decide) ?_
      exact g_iret o dX11_waits_12 (rt_v q e)
theorem yo_X11_takes : yok yX11_takes 0 := ⟨by decide, by decide, by decide +kernel⟩
set_option maxRecDepth 100000 in
set_option maxHeartbeats 4000000 in
theorem mX11_takes {l : Launch} {D : va_G} {cy : Nat → ClassId} {f0 : Nat} {a : Nat} {h : Hp} {r : Int32} {hz : Hp} (e : fX11_takes f0 a h = some (r, hz)) : MC l D cy yX11_takes cX11_takes 1 (some .int) rmX11_takes [.ref a] h (some (.int r)) hz := by
  refine mc_of2 (by decide) (Nat.le_of_ble_eq_true rfl) (fun X hl hD hy hin o q => ?_)
  subst hl; subst hD; subst hy
  show G X 1 0 [(0, .ref a)] [] h 0 0
  unfold fX11_takes at e
  refine g_aload_n 0 o dX11_takes_0 rfl rfl ?_
  obtain ⟨x1, q1, e⟩ := ob e
  refine g_getN 12 o cf11 (by decide) mw_376 dX11_takes_1 q1 ?_
  refine g_aload_n 0 o dX11_takes_4 rfl rfl ?_
  obtain ⟨x5, q5, e⟩ := ob e
  refine g_getN 11 o cf11 (by decide) mw_375 dX11_takes_5 q5 ?_
  obtain ⟨_, k8, e⟩ := ob e
  obtain ⟨h8, q8, e⟩ := ob e
  refine g_callV0 [.ref x5] o (mX10_copyFrom q8) cf10 (ckO_s k8) mw_732 mw_733 mw_734 mw_13 mw_735 rfl yo_X10_copyFrom rfl rfl (Nat.le_of_ble_eq_true rfl) ⟨by decide, by decide⟩ ⟨rfl, rfl⟩ dX11_takes_8 ⟨by decide, by decide⟩ ?_
  refine g_aload_n 0 o dX11_takes_11 rfl rfl ?_
  refine g_aload_n 0 o dX11_takes_12 rfl rfl ?_
  obtain ⟨x13, q13, e⟩ := ob e
  refine g_getN 12 o cf11 (by decide) mw_376 dX11_takes_13 q13 ?_
  obtain ⟨_, k16, e⟩ := ob e
  obtain ⟨x16, h16, q16, e⟩ := ob2_s e
  refine g_callVv [] o (mX10_takeOwed q16) cf10 (ckO_s k16) mw_990 mw_783 mw_784 mw_13 mw_785 rfl yo_X10_takeOwed rfl rfl (Nat.le_of_ble_eq_true rfl) ⟨by decide, by decide⟩ ⟨rfl, rfl⟩ dX11_takes_16 ⟨by decide, by decide⟩ ?_
  obtain ⟨_, k19, e⟩ := ob e
  obtain ⟨x19, h19, q19, e⟩ := ob2_s e
  refine g_callVv [.int x16] o (mX11_keepIfDone q19) cf11 (ckO_s k19) mw_973 mw_974 mw_1719 mw_1 mw_975 rfl yo_X11_keepIfDone rfl rfl (Nat.le_of_ble_eq_true rfl) ⟨by decide, by decide⟩ ⟨rfl, rfl⟩ dX11_takes_19 ⟨by decide, by decide⟩ ?_
  exact g_iret o dX11_takes_22 (rt_v q e)
theorem yo_X11_learn : yok yX11_learn 2 := ⟨by decide, by decide, by decide +kernel⟩
set_option maxRecDepth 100000 in
set_option maxHeartbeats 4000000 in
theorem mX11_learn {l : Launch} {D : va_G} {cy : Nat → ClassId} {f0 : Nat} {a : Nat} {p0 : Int32} {p1 : Int32} {h : Hp} {r : Int32} {hz : Hp} (e : fX11_learn f0 a p0 p1 h = some (r, hz)) : MC l D cy yX11_learn cX11_learn 3 (some .int) rmX11_learn [.ref a, .int p0, .int p1] h (some (.int r)) hz := by
  refine mc_of2 (by decide) (Nat.le_of_ble_eq_true rfl) (fun X hl hD hy hin o q => ?_)
  subst hl; subst hD; subst hy
  show G X 3 0 [(0, .ref a), (1, .int p0), (2, .int p1)] [] h 0 0
  unfold fX11_learn at e
  refine g_aload_n 0 o dX11_learn_0 rfl rfl ?_
  obtain ⟨x1, q1, e⟩ := ob e
  refine g_getN 4 o cf11 (by decide) mw_368 dX11_learn_1 q1 ?_
  refine g_iconst (v := 5) o dX11_learn_4 (by decide) ?_
  refine g_iload_n 1 o dX11_learn_5 rfl rfl ?_
  obtain ⟨_, k6, e⟩ := ob e
  obtain ⟨x6, h6, q6, e⟩ := ob2_s e
  refine g_callVv [.int 5, .int p0] o (mX6_has q6) cf6 (ckO_s k6) mw_824 mw_682 mw_683 mw_7 mw_684 rfl yo_X6_has rfl rfl (Nat.le_of_ble_eq_true rfl) ⟨by decide, by decide⟩ ⟨rfl, rfl⟩ dX11_learn_6 ⟨by decide, by decide⟩ ?_
  refine g_if_eq (x := x6) 24 o dX11_learn_9 (by decide) (fun u => ?_) (fun u => ?_)
  · rw [if_pos u] at e
    refine g_iconst (v := -1) o dX11_learn_24 (by decide) ?_
    exact g_iret o dX11_learn_25 (rt_v q e)
  · rw [if_neg u] at e
    refine g_aload_n 0 o dX11_learn_12 rfl rfl ?_
    obtain ⟨x13, q13, e⟩ := ob e
    refine g_getN 4 o cf11 (by decide) mw_368 dX11_learn_13 q13 ?_
    refine g_iconst (v := 4) o dX11_learn_16 (by decide) ?_
    refine g_iload_n 2 o dX11_learn_17 rfl rfl ?_
    obtain ⟨_, k18, e⟩ := ob e
    obtain ⟨x18, h18, q18, e⟩ := ob2_s e
    refine g_callVv [.int 4, .int p1] o (mX6_has q18) cf6 (ckO_s k18) mw_824 mw_682 mw_683 mw_7 mw_684 rfl yo_X6_has rfl rfl (Nat.le_of_ble_eq_true rfl) ⟨by decide, by decide⟩ ⟨rfl, rfl⟩ dX11_learn_18 ⟨by decide, by decide⟩ ?_
    refine g_if_ne (x := x18) 26 o dX11_learn_21 (by decide) (fun u => ?_) (fun u => ?_)
    · rw [if_neg u] at e
      refine g_aload_n 0 o dX11_learn_26 rfl rfl ?_
      obtain ⟨x27, q27, e⟩ := ob e
      refine g_getN 12 o cf11 (by decide) mw_376 dX11_learn_27 q27 ?_
      refine g_aload_n 0 o dX11_learn_30 rfl rfl ?_
      obtain ⟨x31, q31, e⟩ := ob e
      refine g_getN 11 o cf11 (by decide) mw_375 dX11_learn_31 q31 ?_
      obtain ⟨_, k34, e⟩ := ob e
      obtain ⟨h34, q34, e⟩ := ob e
      refine g_callV0 [.ref x31] o (mX10_copyFrom q34) cf10 (ckO_s k34) mw_732 mw_733 mw_734 mw_13 mw_735 rfl yo_X10_copyFrom rfl rfl (Nat.le_of_ble_eq_true rfl) ⟨by decide, by decide⟩ ⟨rfl, rfl⟩ dX11_learn_34 ⟨by decide, by decide⟩ ?_
      refine g_aload_n 0 o dX11_learn_37 rfl rfl ?_
      refine g_aload_n 0 o dX11_learn_38 rfl rfl ?_
      obtain ⟨x39, q39, e⟩ := ob e
      refine g_getN 12 o cf11 (by decide) mw_376 dX11_learn_39 q39 ?_
      refine g_iload_n 1 o dX11_learn_42 rfl rfl ?_
      refine g_iload_n 2 o dX11_learn_43 rfl rfl ?_
      obtain ⟨_, k44, e⟩ := ob e
      obtain ⟨x44, h44, q44, e⟩ := ob2_s e
      refine g_callVv [.int p0, .int p1] o (mX10_teach q44) cf10 (ckO_s k44) mw_995 mw_791 mw_792 mw_13 mw_793 rfl yo_X10_teach rfl rfl (Nat.le_of_ble_eq_true rfl) ⟨by decide, by decide⟩ ⟨rfl, rfl⟩ dX11_learn_44 ⟨by decide, by decide⟩ ?_
      obtain ⟨_, k47, e⟩ := ob e
      obtain ⟨x47, h47, q47, e⟩ := ob2_s e
      refine g_callVv [.int x44] o (mX11_keepIfDone q47) cf11 (ckO_s k47) mw_973 mw_974 mw_1719 mw_1 mw_975 rfl yo_X11_keepIfDone rfl rfl (Nat.le_of_ble_eq_true rfl) ⟨by decide, by decide⟩ ⟨rfl, rfl⟩ dX11_learn_47 ⟨by decide, by decide⟩ ?_
      exact g_iret o dX11_learn_50 (rt_v q e)
    · rw [if_pos u] at e
      refine g_iconst (v := -1) o dX11_learn_24 (by decide) ?_
      exact g_iret o dX11_learn_25 (rt_v q e)
theorem yo_X10_draw : yok yX10_draw 1 := ⟨by decide, by decide, by decide +kernel⟩
set_option maxRecDepth 100000 in
set_option maxHeartbeats 4000000 in
theorem mX10_draw {l : Launch} {D : va_G} {cy : Nat → ClassId} {f0 : Nat} {a : Nat} {p0 : Int32} {h : Hp} {r : Int32} {hz : Hp} (e : fX10_draw f0 a p0 h = some (r, hz)) : MC l D cy yX10_draw cX10_draw 2 (some .int) rmX10_draw [.ref a, .int p0] h (some (.int r)) hz := by
  refine mc_of2 (by decide) (Nat.le_of_ble_eq_true rfl) (fun X hl hD hy hin o q => ?_)
  subst hl; subst hD; subst hy
  show G X 2 0 [(0, .ref a), (1, .int p0)] [] h 0 0
  unfold fX10_draw at e
  refine g_aload_n 0 o dX10_draw_0 rfl rfl ?_
  refine g_aload_n 0 o dX10_draw_1 rfl rfl ?_
  obtain ⟨x2, q2, e⟩ := ob e
  refine g_getI 13 o cf10 (by decide) mw_304 dX10_draw_2 q2 ?_
  refine g_ldc (v := 1103515245) o dX10_draw_5 mw_1010 ?_
  refine g_imul (x := x2) (y := 1103515245) o dX10_draw_7 ?_
  refine g_sipush (v := 12345) o dX10_draw_8 (by decide) ?_
  refine g_iadd (x := (x2 * 1103515245)) (y := 12345) o dX10_draw_11 ?_
  obtain ⟨h12, q12, e⟩ := ob e
  refine g_put (ty1 := .int) 13 o cf10 (by decide) mw_304 rfl (by decide +kernel) rfl rfl dX10_draw_12 q12 ?_
  refine g_iload_n 1 o dX10_draw_15 rfl rfl ?_
  refine g_iconst (v := 1) o dX10_draw_16 (by decide) ?_
  refine g_icmp_ge (x := p0) (y := 1) 24 o dX10_draw_17 (by decide) (fun u => ?_) (fun u => ?_)
  · rw [if_pos u] at e
    refine g_aload_n 0 o dX10_draw_24 rfl rfl ?_
    obtain ⟨x25, q25, e⟩ := ob e
    refine g_getI 13 o cf10 (by decide) mw_304 dX10_draw_25 q25 ?_
    refine g_bipush (v := 8) o dX10_draw_28 (by decide) ?_
    refine g_iushr (x := x25) (y := 8) o dX10_draw_30 ?_
    refine g_iload_n 1 o dX10_draw_31 rfl rfl ?_
    obtain ⟨_, z32, e⟩ := ob e
    refine g_irem (x := ((Int32.toUInt32 x25 >>> (Int32.toUInt32 8 &&& Int32.toUInt32 31)).toInt32)) (y := p0) o dX10_draw_32 (nz_s z32) ?_
    exact g_iret o dX10_draw_33 (rt_v q e)
  · rw [if_neg u] at e
    refine g_iconst (v := 0) o dX10_draw_20 (by decide) ?_
    refine g_goto 33 o dX10_draw_21 (by decide) ?_
    exact g_iret o dX10_draw_33 (rt_v q e)
set_option maxRecDepth 100000 in
set_option maxHeartbeats 4000000 in
theorem kX10_drawVoyage_26 {X : Cx} (f0 : Nat) (o : Ok X cX10_drawVoyage RX10 2 rmX10_drawVoyage none) (v0 : Nat) (h : Hp) (hz : Hp) (q : Rt X none hz 0 0) (e : bX10_drawVoyage_26 f0 v0 h = some hz) : G X 2 26 [(0, .ref v0)] [] h 0 0 := by
  unfold bX10_drawVoyage_26 at e
  refine g_aload_n 0 o dX10_drawVoyage_26 rfl rfl ?_
  refine g_aload_n 0 o dX10_drawVoyage_27 rfl rfl ?_
  refine g_aload_n 0 o dX10_drawVoyage_28 rfl rfl ?_
  obtain ⟨x29, q29, e⟩ := ob e
  refine g_getN 0 o cf10 (by decide) mw_276 dX10_drawVoyage_29 q29 ?_
  obtain ⟨x32, q32, e⟩ := ob e
  refine g_getN 1 o cf6 (by decide) mw_144 dX10_drawVoyage_32 q32 ?_
  refine g_iconst (v := 0) o dX10_drawVoyage_35 (by decide) ?_
  obtain ⟨x36, q36, e⟩ := ob e
  refine g_iald o dX10_drawVoyage_36 q36 ?_
  obtain ⟨_, k37, e⟩ := ob e
  obtain ⟨x37, h37, q37, e⟩ := ob2_s e
  refine g_callVv [.int x36] o (mX10_draw q37) cf10 (ckO_s k37) mw_1007 mw_1008 mw_1721 mw_13 mw_1009 rfl yo_X10_draw rfl rfl (Nat.le_of_ble_eq_true rfl) ⟨by decide, by decide⟩ ⟨rfl, rfl⟩ dX10_drawVoyage_37 ⟨by decide, by decide⟩ ?_
  obtain ⟨_, k40, e⟩ := ob e
  obtain ⟨x40, h40, q40, e⟩ := ob2_s e
  refine g_callVv [.int x37] o (mX10_sailTo q40) cf10 (ckO_s k40) mw_1012 mw_764 mw_765 mw_13 mw_766 rfl yo_X10_sailTo rfl rfl (Nat.le_of_ble_eq_true rfl) ⟨by decide, by decide⟩ ⟨rfl, rfl⟩ dX10_drawVoyage_40 ⟨by decide, by decide⟩ ?_
  refine g_istore_n [(1, .int x40), (0, .ref v0)] o dX10_drawVoyage_43 rfl (by decide) rfl ?_
  refine g_iload_n 0 o dX10_drawVoyage_44 rfl rfl ?_
  refine g_if_ne (x := x40) 83 o dX10_drawVoyage_45 (by decide) (fun u => ?_) (fun u => ?_)
  · rw [if_neg u] at e
    exact g_vret o dX10_drawVoyage_83 (rt_0 q e)
  · rw [if_pos u] at e
    refine g_aload_n 1 o dX10_drawVoyage_48 rfl rfl ?_
    obtain ⟨x49, q49, e⟩ := ob e
    refine g_getI 6 o cf10 (by decide) mw_290 dX10_drawVoyage_49 q49 ?_
    refine g_if_ne (x := x49) 83 o dX10_drawVoyage_52 (by decide) (fun u => ?_) (fun u => ?_)
    · rw [if_neg u] at e
      exact g_vret o dX10_drawVoyage_83 (rt_0 q e)
    · rw [if_pos u] at e
      refine g_aload_n 1 o dX10_drawVoyage_55 rfl rfl ?_
      refine g_bipush (v := 12) o dX10_drawVoyage_56 (by decide) ?_
      obtain ⟨_, k58, e⟩ := ob e
      obtain ⟨x58, h58, q58, e⟩ := ob2_s e
      refine g_callVv [.int 12] o (mX10_draw q58) cf10 (ckO_s k58) mw_1007 mw_1008 mw_1721 mw_13 mw_1009 rfl yo_X10_draw rfl rfl (Nat.le_of_ble_eq_true rfl) ⟨by decide, by decide⟩ ⟨rfl, rfl⟩ dX10_drawVoyage_58 ⟨by decide, by decide⟩ ?_
      refine g_aload_n 1 o dX10_drawVoyage_61 rfl rfl ?_
      obtain ⟨x62, q62, e⟩ := ob e
      refine g_getN 0 o cf10 (by decide) mw_276 dX10_drawVoyage_62 q62 ?_
      obtain ⟨x65, q65, e⟩ := ob e
      refine g_getI 2 o cf6 (by decide) mw_151 dX10_drawVoyage_65 q65 ?_
      refine g_icmp_ge (x := x58) (y := x65) 83 o dX10_drawVoyage_68 (by decide) (fun u => ?_) (fun u => ?_)
      · rw [if_pos u] at e
        exact g_vret o dX10_drawVoyage_83 (rt_0 q e)
      · rw [if_neg u] at e
        refine g_aload_n 1 o dX10_drawVoyage_71 rfl rfl ?_
        refine g_aload_n 1 o dX10_drawVoyage_72 rfl rfl ?_
        obtain ⟨x73, q73, e⟩ := ob e
        refine g_getI 2 o cf10 (by decide) mw_281 dX10_drawVoyage_73 q73 ?_
        refine g_aload_n 1 o dX10_drawVoyage_76 rfl rfl ?_
        obtain ⟨x77, q77, e⟩ := ob e
        refine g_getI 3 o cf10 (by decide) mw_284 dX10_drawVoyage_77 q77 ?_
        obtain ⟨_, k80, e⟩ := ob e
        obtain ⟨h80, q80, e⟩ := ob e
        refine g_callV0 [.int x73, .int x77] o (mX10_tell q80) cf10 (ckO_s k80) mw_358 mw_359 mw_1683 mw_13 mw_360 rfl yo_X10_tell rfl rfl (Nat.le_of_ble_eq_true rfl) ⟨by decide, by decide⟩ ⟨rfl, rfl⟩ dX10_drawVoyage_80 ⟨by decide, by decide⟩ ?_
        exact g_vret o dX10_drawVoyage_83 (rt_0 q e)
theorem yo_X10_drawVoyage : yok yX10_drawVoyage 0 := ⟨by decide, by decide, by decide +kernel⟩
set_option maxRecDepth 100000 in
set_option maxHeartbeats 4000000 in
theorem mX10_drawVoyage {l : Launch} {D : va_G} {cy : Nat → ClassId} {f0 : Nat} {a : Nat} {h : Hp} {hz : Hp} (e : fX10_drawVoyage f0 a h = some hz) : MC l D cy yX10_drawVoyage cX10_drawVoyage 2 none rmX10_drawVoyage [.ref a] h none hz := by
  refine mc_of2 (by decide) (Nat.le_of_ble_eq_true rfl) (fun X hl hD hy hin o q => ?_)
  subst hl; subst hD; subst hy
  show G X 2 0 [(0, .ref a)] [] h 0 0
  unfold fX10_drawVoyage at e
  refine g_aload_n 0 o dX10_drawVoyage_0 rfl rfl ?_
  refine g_iconst (v := 3) o dX10_drawVoyage_1 (by decide) ?_
  obtain ⟨_, k2, e⟩ := ob e
  obtain ⟨x2, h2, q2, e⟩ := ob2_s e
  refine g_callVv [.int 3] o (mX10_draw q2) cf10 (ckO_s k2) mw_1007 mw_1008 mw_1721 mw_13 mw_1009 rfl yo_X10_draw rfl rfl (Nat.le_of_ble_eq_true rfl) ⟨by decide, by decide⟩ ⟨rfl, rfl⟩ dX10_drawVoyage_2 ⟨by decide, by decide⟩ ?_
  refine g_if_ne (x := x2) 26 o dX10_drawVoyage_5 (by decide) (fun u => ?_) (fun u => ?_)
  · rw [if_neg u] at e
    exact kX10_drawVoyage_26 f0 o a h2 hz q e
  · rw [if_pos u] at e
    refine g_aload_n 0 o dX10_drawVoyage_8 rfl rfl ?_
    refine g_aload_n 0 o dX10_drawVoyage_9 rfl rfl ?_
    refine g_aload_n 0 o dX10_drawVoyage_10 rfl rfl ?_
    obtain ⟨x11, q11, e⟩ := ob e
    refine g_getN 0 o cf10 (by decide) mw_276 dX10_drawVoyage_11 q11 ?_
    obtain ⟨x14, q14, e⟩ := ob e
    refine g_getN 1 o cf6 (by decide) mw_144 dX10_drawVoyage_14 q14 ?_
    refine g_iconst (v := 3) o dX10_drawVoyage_17 (by decide) ?_
    obtain ⟨x18, q18, e⟩ := ob e
    refine g_iald o dX10_drawVoyage_18 q18 ?_
    obtain ⟨_, k19, e⟩ := ob e
    obtain ⟨x19, h19, q19, e⟩ := ob2_s e
    refine g_callVv [.int x18] o (mX10_draw q19) cf10 (ckO_s k19) mw_1007 mw_1008 mw_1721 mw_13 mw_1009 rfl yo_X10_draw rfl rfl (Nat.le_of_ble_eq_true rfl) ⟨by decide, by decide⟩ ⟨rfl, rfl⟩ dX10_drawVoyage_19 ⟨by decide, by decide⟩ ?_
    obtain ⟨_, k22, e⟩ := ob e
    obtain ⟨x22, h22, q22, e⟩ := ob2_s e
    refine g_callVv [.int x19] o (mX10_paintAs q22) cf10 (ckO_s k22) mw_1011 mw_744 mw_745 mw_13 mw_746 rfl yo_X10_paintAs rfl rfl (Nat.le_of_ble_eq_true rfl) ⟨by decide, by decide⟩ ⟨rfl, rfl⟩ dX10_drawVoyage_22 ⟨by decide, by decide⟩ ?_
    refine g_pop o dX10_drawVoyage_25 rfl ?_
    exact kX10_drawVoyage_26 f0 o a h22 hz q e
set_option maxRecDepth 100000 in
set_option maxHeartbeats 4000000 in
theorem kX10_drawVoyages_29 {X : Cx} (f0 : Nat) (o : Ok X cX10_drawVoyages RX10 4 rmX10_drawVoyages (some .int)) (v3 : Int32) (h : Hp) (r : Int32) (hz : Hp) (q : Rt X (some (.int r)) hz 0 0) (e : bX10_drawVoyages_29 f0 v3 h = some (r, hz)) : G X 4 29 [(3, .int v3)] [] h 0 0 := by
  unfold bX10_drawVoyages_29 at e
  refine g_iload_n 0 o dX10_drawVoyages_29 rfl rfl ?_
  exact g_iret o dX10_drawVoyages_30 (rt_v q e)
set_option maxRecDepth 100000 in
set_option maxHeartbeats 4000000 in
theorem kX10_drawVoyages_7 {X : Cx} (f0 : Nat) (o : Ok X cX10_drawVoyages RX10 4 rmX10_drawVoyages (some .int)) (f : Nat) (v0 : Nat) (v1 : Int32) (v3 : Int32) (h : Hp) (r : Int32) (hz : Hp) (q : Rt X (some (.int r)) hz 0 0) (e : bX10_drawVoyages_7 f0 f v0 v1 v3 h = some (r, hz)) : G X 4 7 [(0, .ref v0), (1, .int v1), (3, .int v3)] [] h 0 0 := by
  induction f generalizing v0 v1 v3 h r hz with
  | zero => cases e
  | succ f1 ih =>
    unfold bX10_drawVoyages_7 at e
    refine g_iload_n 2 o dX10_drawVoyages_7 rfl rfl ?_
    refine g_iload_n 1 o dX10_drawVoyages_8 rfl rfl ?_
    refine g_icmp_ge (x := v3) (y := v1) 29 o dX10_drawVoyages_9 (by decide) (fun u => ?_) (fun u => ?_)
    · rw [if_pos u] at e
      refine g_sb [2] rfl ?_
      exact kX10_drawVoyages_29 f0 o v3 h r hz q e
    · rw [if_neg u] at e
      refine g_aload_n 0 o dX10_drawVoyages_12 rfl rfl ?_
      obtain ⟨_, k13, e⟩ := ob e
      obtain ⟨x13, h13, q13, e⟩ := ob2_s e
      refine g_callVv [] o (mX10_canAct q13) cf10 (ckO_s k13) mw_661 mw_662 mw_663 mw_13 mw_664 rfl yo_X10_canAct rfl rfl (Nat.le_of_ble_eq_true rfl) ⟨by decide, by decide⟩ ⟨rfl, rfl⟩ dX10_drawVoyages_13 ⟨by decide, by decide⟩ ?_
      refine g_if_eq (x := x13) 29 o dX10_drawVoyages_16 (by decide) (fun u => ?_) (fun u => ?_)
      · rw [if_pos u] at e
        refine g_sb [2] rfl ?_
        exact kX10_drawVoyages_29 f0 o v3 h13 r hz q e
      · rw [if_neg u] at e
        refine g_aload_n 0 o dX10_drawVoyages_19 rfl rfl ?_
        obtain ⟨_, k20, e⟩ := ob e
        obtain ⟨h20, q20, e⟩ := ob e
        refine g_callV0 [] o (mX10_drawVoyage q20) cf10 (ckO_s k20) mw_1004 mw_1005 mw_1720 mw_13 mw_1006 rfl yo_X10_drawVoyage rfl rfl (Nat.le_of_ble_eq_true rfl) ⟨by decide, by decide⟩ ⟨rfl, rfl⟩ dX10_drawVoyages_20 ⟨by decide, by decide⟩ ?_
        refine g_iinc (k := 2) (v := (v3 + 1)) [(3, .int (v3 + 1)), (0, .ref v0), (1, .int v1)] o dX10_drawVoyages_23 rfl rfl (by decide) rfl ?_
        refine g_goto 7 o dX10_drawVoyages_26 (by decide) ?_
        refine g_sb [1, 2, 0] rfl ?_
        exact ih v0 v1 (v3 + 1) h20 r hz q e
theorem yo_X10_drawVoyages : yok yX10_drawVoyages 2 := ⟨by decide, by decide, by decide +kernel⟩
set_option maxRecDepth 100000 in
set_option maxHeartbeats 4000000 in
theorem mX10_drawVoyages {l : Launch} {D : va_G} {cy : Nat → ClassId} {f0 : Nat} {a : Nat} {p0 : Int32} {p1 : Int32} {h : Hp} {r : Int32} {hz : Hp} (e : fX10_drawVoyages f0 a p0 p1 h = some (r, hz)) : MC l D cy yX10_drawVoyages cX10_drawVoyages 4 (some .int) rmX10_drawVoyages [.ref a, .int p0, .int p1] h (some (.int r)) hz := by
  refine mc_of2 (by decide) (Nat.le_of_ble_eq_true rfl) (fun X hl hD hy hin o q => ?_)
  subst hl; subst hD; subst hy
  show G X 4 0 [(0, .ref a), (1, .int p0), (2, .int p1)] [] h 0 0
  unfold fX10_drawVoyages at e
  refine g_aload_n 0 o dX10_drawVoyages_0 rfl rfl ?_
  refine g_iload_n 2 o dX10_drawVoyages_1 rfl rfl ?_
  obtain ⟨h2, q2, e⟩ := ob e
  refine g_put (ty1 := .int) 13 o cf10 (by decide) mw_304 rfl (by decide +kernel) rfl rfl dX10_drawVoyages_2 q2 ?_
  refine g_iconst (v := 0) o dX10_drawVoyages_5 (by decide) ?_
  refine g_istore_n [(3, .int 0), (0, .ref a), (1, .int p0), (2, .int p1)] o dX10_drawVoyages_6 rfl (by decide) rfl ?_
  refine g_sb [1, 2, 0] rfl ?_
  exact kX10_drawVoyages_7 f0 o f0 a p0 0 h2 r hz q e
set_option maxRecDepth 100000 in
set_option maxHeartbeats 4000000 in
theorem kX11_drawn_52 {X : Cx} (f0 : Nat) (o : Ok X cX11_drawn RX11 4 rmX11_drawn (some .int)) (v3 : Int32) (h : Hp) (r : Int32) (hz : Hp) (q : Rt X (some (.int r)) hz 0 0) (e : bX11_drawn_52 f0 v3 h = some (r, hz)) : G X 4 52 [(3, .int v3)] [] h 0 0 := by
  unfold bX11_drawn_52 at e
  refine g_iload_n 0 o dX11_drawn_52 rfl rfl ?_
  exact g_iret o dX11_drawn_53 (rt_v q e)
theorem yo_X11_drawn : yok yX11_drawn 2 := ⟨by decide, by decide, by decide +kernel⟩
set_option maxRecDepth 100000 in
set_option maxHeartbeats 4000000 in
theorem mX11_drawn {l : Launch} {D : va_G} {cy : Nat → ClassId} {f0 : Nat} {a : Nat} {p0 : Int32} {p1 : Int32} {h : Hp} {r : Int32} {hz : Hp} (e : fX11_drawn f0 a p0 p1 h = some (r, hz)) : MC l D cy yX11_drawn cX11_drawn 4 (some .int) rmX11_drawn [.ref a, .int p0, .int p1] h (some (.int r)) hz := by
  refine mc_of2 (by decide) (Nat.le_of_ble_eq_true rfl) (fun X hl hD hy hin o q => ?_)
  subst hl; subst hD; subst hy
  show G X 4 0 [(0, .ref a), (1, .int p0), (2, .int p1)] [] h 0 0
  unfold fX11_drawn at e
  refine g_iload_n 1 o dX11_drawn_0 rfl rfl ?_
  refine g_iconst (v := 1) o dX11_drawn_1 (by decide) ?_
  refine g_icmp_lt (x := p0) (y := 1) 21 o dX11_drawn_2 (by decide) (fun u => ?_) (fun u => ?_)
  · rw [if_pos u] at e
    refine g_iconst (v := -1) o dX11_drawn_21 (by decide) ?_
    exact g_iret o dX11_drawn_22 (rt_v q e)
  · rw [if_neg u] at e
    refine g_iload_n 1 o dX11_drawn_5 rfl rfl ?_
    refine g_bipush (v := 60) o dX11_drawn_6 (by decide) ?_
    refine g_icmp_gt (x := p0) (y := 60) 21 o dX11_drawn_8 (by decide) (fun u => ?_) (fun u => ?_)
    · rw [if_pos u] at e
      refine g_iconst (v := -1) o dX11_drawn_21 (by decide) ?_
      exact g_iret o dX11_drawn_22 (rt_v q e)
    · rw [if_neg u] at e
      refine g_aload_n 0 o dX11_drawn_11 rfl rfl ?_
      obtain ⟨x12, q12, e⟩ := ob e
      refine g_getN 4 o cf11 (by decide) mw_368 dX11_drawn_12 q12 ?_
      obtain ⟨_, k15, e⟩ := ob e
      obtain ⟨x15, h15, q15, e⟩ := ob2_s e
      refine g_callVv [] o (mX6_isForHer q15) cf6 (ckO_s k15) mw_953 mw_348 mw_349 mw_7 mw_350 rfl yo_X6_isForHer rfl rfl (Nat.le_of_ble_eq_true rfl) ⟨by decide, by decide⟩ ⟨rfl, rfl⟩ dX11_drawn_15 ⟨by decide, by decide⟩ ?_
      refine g_if_ne (x := x15) 23 o dX11_drawn_18 (by decide) (fun u => ?_) (fun u => ?_)
      · rw [if_neg u] at e
        refine g_aload_n 0 o dX11_drawn_23 rfl rfl ?_
        obtain ⟨x24, q24, e⟩ := ob e
        refine g_getN 12 o cf11 (by decide) mw_376 dX11_drawn_24 q24 ?_
        refine g_aload_n 0 o dX11_drawn_27 rfl rfl ?_
        obtain ⟨x28, q28, e⟩ := ob e
        refine g_getN 11 o cf11 (by decide) mw_375 dX11_drawn_28 q28 ?_
        obtain ⟨_, k31, e⟩ := ob e
        obtain ⟨h31, q31, e⟩ := ob e
        refine g_callV0 [.ref x28] o (mX10_copyFrom q31) cf10 (ckO_s k31) mw_732 mw_733 mw_734 mw_13 mw_735 rfl yo_X10_copyFrom rfl rfl (Nat.le_of_ble_eq_true rfl) ⟨by decide, by decide⟩ ⟨rfl, rfl⟩ dX11_drawn_31 ⟨by decide, by decide⟩ ?_
        refine g_aload_n 0 o dX11_drawn_34 rfl rfl ?_
        obtain ⟨x35, q35, e⟩ := ob e
        refine g_getN 12 o cf11 (by decide) mw_376 dX11_drawn_35 q35 ?_
        refine g_iload_n 1 o dX11_drawn_38 rfl rfl ?_
        refine g_iload_n 2 o dX11_drawn_39 rfl rfl ?_
        obtain ⟨_, k40, e⟩ := ob e
        obtain ⟨x40, h40, q40, e⟩ := ob2_s e
        refine g_callVv [.int p0, .int p1] o (mX10_drawVoyages q40) cf10 (ckO_s k40) mw_1000 mw_1001 mw_1002 mw_13 mw_1003 rfl yo_X10_drawVoyages rfl rfl (Nat.le_of_ble_eq_true rfl) ⟨by decide, by decide⟩ ⟨rfl, rfl⟩ dX11_drawn_40 ⟨by decide, by decide⟩ ?_
        refine g_istore_n [(3, .int x40), (0, .ref a), (1, .int p0), (2, .int p1)] o dX11_drawn_43 rfl (by decide) rfl ?_
        refine g_iload_n 0 o dX11_drawn_44 rfl rfl ?_
        refine g_if_le (x := x40) 52 o dX11_drawn_45 (by decide) (fun u => ?_) (fun u => ?_)
        · rw [if_pos u] at e
          refine g_sb [0] rfl ?_
          exact kX11_drawn_52 f0 o x40 h40 r hz q e
        · rw [if_neg u] at e
          refine g_aload_n 1 o dX11_drawn_48 rfl rfl ?_
          obtain ⟨_, k49, e⟩ := ob e
          obtain ⟨h49, q49, e⟩ := ob e
          refine g_callV0 [] o (mX11_keepTrial q49) cf11 (ckO_s k49) mw_794 mw_795 mw_1711 mw_1 mw_796 rfl yo_X11_keepTrial rfl rfl (Nat.le_of_ble_eq_true rfl) ⟨by decide, by decide⟩ ⟨rfl, rfl⟩ dX11_drawn_49 ⟨by decide, by decide⟩ ?_
          refine g_sb [0] rfl ?_
          exact kX11_drawn_52 f0 o x40 h49 r hz q e
      · rw [if_pos u] at e
        refine g_iconst (v := -1) o dX11_drawn_21 (by decide) ?_
        exact g_iret o dX11_drawn_22 (rt_v q e)
set_option maxRecDepth 100000 in
set_option maxHeartbeats 4000000 in
theorem kX11_odds_72 {X : Cx} (f0 : Nat) (g28 : Nat → Int32 → Int32 → Int32 → Int32 → Hp → Option (Int32 × Hp)) (i28 : ∀ (v02 : Nat) (v12 : Int32) (v22 : Int32) (v32 : Int32) (v42 : Int32) (h2 : Hp) (r : Int32) (hz : Hp), Rt X (some (.int r)) hz 0 0 → g28 v02 v12 v22 v32 v42 h2 = some (r, hz) → G X 5 28 [(0, .ref v02), (1, .int v12), (2, .int v22), (3, .int v32), (4, .int v42)] [] h2 0 0) (o : Ok X cX11_odds RX11 5 rmX11_odds (some .int)) (v0 : Nat) (v1 : Int32) (v2 : Int32) (v3 : Int32) (v4 : Int32) (h : Hp) (r : Int32) (hz : Hp) (q : Rt X (some (.int r)) hz 0 0) (e : bX11_odds_72 f0 g28 v0 v1 v2 v3 v4 h = some (r, hz)) : G X 5 72 [(0, .ref v0), (1, .int v1), (2, .int v2), (3, .int v3), (4, .int v4)] [] h 0 0 := by
  unfold bX11_odds_72 at e
  refine g_iinc (k := 4) (v := (v4 + 1)) [(4, .int (v4 + 1)), (0, .ref v0), (1, .int v1), (2, .int v2), (3, .int v3)] o dX11_odds_72 rfl rfl (by decide) rfl ?_
  refine g_goto 28 o dX11_odds_75 (by decide) ?_
  refine g_sb [1, 2, 3, 4, 0] rfl ?_
  exact i28 v0 v1 v2 v3 (v4 + 1) h r hz q e
set_option maxRecDepth 100000 in
set_option maxHeartbeats 4000000 in
theorem kX11_odds_28 {X : Cx} (f0 : Nat) (o : Ok X cX11_odds RX11 5 rmX11_odds (some .int)) (f : Nat) (v0 : Nat) (v1 : Int32) (v2 : Int32) (v3 : Int32) (v4 : Int32) (h : Hp) (r : Int32) (hz : Hp) (q : Rt X (some (.int r)) hz 0 0) (e : bX11_odds_28 f0 f v0 v1 v2 v3 v4 h = some (r, hz)) : G X 5 28 [(0, .ref v0), (1, .int v1), (2, .int v2), (3, .int v3), (4, .int v4)] [] h 0 0 := by
  induction f generalizing v0 v1 v2 v3 v4 h r hz with
  | zero => cases e
  | succ f1 ih =>
    unfold bX11_odds_28 at e
    refine g_iload 4 o dX11_odds_28 rfl ?_
    refine g_iload_n 1 o dX11_odds_30 rfl rfl ?_
    refine g_icmp_ge (x := v4) (y := v1) 78 o dX11_odds_31 (by decide) (fun u => ?_) (fun u => ?_)
    · rw [if_pos u] at e
      refine g_iload_n 3 o dX11_odds_78 rfl rfl ?_
      exact g_iret o dX11_odds_79 (rt_v q e)
    · rw [if_neg u] at e
      refine g_aload_n 0 o dX11_odds_34 rfl rfl ?_
      obtain ⟨x35, q35, e⟩ := ob e
      refine g_getN 12 o cf11 (by decide) mw_376 dX11_odds_35 q35 ?_
      refine g_aload_n 0 o dX11_odds_38 rfl rfl ?_
      obtain ⟨x39, q39, e⟩ := ob e
      refine g_getN 11 o cf11 (by decide) mw_375 dX11_odds_39 q39 ?_
      obtain ⟨_, k42, e⟩ := ob e
      obtain ⟨h42, q42, e⟩ := ob e
      refine g_callV0 [.ref x39] o (mX10_copyFrom q42) cf10 (ckO_s k42) mw_732 mw_733 mw_734 mw_13 mw_735 rfl yo_X10_copyFrom rfl rfl (Nat.le_of_ble_eq_true rfl) ⟨by decide, by decide⟩ ⟨rfl, rfl⟩ dX11_odds_42 ⟨by decide, by decide⟩ ?_
      refine g_aload_n 0 o dX11_odds_45 rfl rfl ?_
      obtain ⟨x46, q46, e⟩ := ob e
      refine g_getN 12 o cf11 (by decide) mw_376 dX11_odds_46 q46 ?_
      refine g_bipush (v := 10) o dX11_odds_49 (by decide) ?_
      refine g_iload_n 2 o dX11_odds_51 rfl rfl ?_
      refine g_iload 4 o dX11_odds_52 rfl ?_
      refine g_iadd (x := v2) (y := v4) o dX11_odds_54 ?_
      obtain ⟨_, k55, e⟩ := ob e
      obtain ⟨x55, h55, q55, e⟩ := ob2_s e
      refine g_callVv [.int 10, .int (v2 + v4)] o (mX10_drawVoyages q55) cf10 (ckO_s k55) mw_1000 mw_1001 mw_1002 mw_13 mw_1003 rfl yo_X10_drawVoyages rfl rfl (Nat.le_of_ble_eq_true rfl) ⟨by decide, by decide⟩ ⟨rfl, rfl⟩ dX11_odds_55 ⟨by decide, by decide⟩ ?_
      refine g_pop o dX11_odds_58 rfl ?_
      refine g_aload_n 0 o dX11_odds_59 rfl rfl ?_
      obtain ⟨x60, q60, e⟩ := ob e
      refine g_getN 12 o cf11 (by decide) mw_376 dX11_odds_60 q60 ?_
      obtain ⟨x63, q63, e⟩ := ob e
      refine g_getI 6 o cf10 (by decide) mw_292 dX11_odds_63 q63 ?_
      refine g_if_ne (x := x63) 72 o dX11_odds_66 (by decide) (fun u => ?_) (fun u => ?_)
      · rw [if_neg u] at e
        exact kX11_odds_72 f0 (bX11_odds_28 f0 f1) ih o v0 v1 v2 v3 v4 h55 r hz q e
      · rw [if_pos u] at e
        refine g_iinc (k := 3) (v := (v3 + 1)) [(3, .int (v3 + 1)), (0, .ref v0), (1, .int v1), (2, .int v2), (4, .int v4)] o dX11_odds_69 rfl rfl (by decide) rfl ?_
        refine g_sb [1, 2, 3, 0, 4] rfl ?_
        exact kX11_odds_72 f0 (bX11_odds_28 f0 f1) ih o v0 v1 v2 (v3 + 1) v4 h55 r hz q e
theorem yo_X11_odds : yok yX11_odds 2 := ⟨by decide, by decide, by decide +kernel⟩
set_option maxRecDepth 100000 in
set_option maxHeartbeats 4000000 in
theorem mX11_odds {l : Launch} {D : va_G} {cy : Nat → ClassId} {f0 : Nat} {a : Nat} {p0 : Int32} {p1 : Int32} {h : Hp} {r : Int32} {hz : Hp} (e : fX11_odds f0 a p0 p1 h = some (r, hz)) : MC l D cy yX11_odds cX11_odds 5 (some .int) rmX11_odds [.ref a, .int p0, .int p1] h (some (.int r)) hz := by
  refine mc_of2 (by decide) (Nat.le_of_ble_eq_true rfl) (fun X hl hD hy hin o q => ?_)
  subst hl; subst hD; subst hy
  show G X 5 0 [(0, .ref a), (1, .int p0), (2, .int p1)] [] h 0 0
  unfold fX11_odds at e
  refine g_iload_n 1 o dX11_odds_0 rfl rfl ?_
  refine g_iconst (v := 1) o dX11_odds_1 (by decide) ?_
  refine g_icmp_lt (x := p0) (y := 1) 21 o dX11_odds_2 (by decide) (fun u => ?_) (fun u => ?_)
  · rw [if_pos u] at e
    refine g_iconst (v := -1) o dX11_odds_21 (by decide) ?_
    exact g_iret o dX11_odds_22 (rt_v q e)
  · rw [if_neg u] at e
    refine g_iload_n 1 o dX11_odds_5 rfl rfl ?_
    refine g_bipush (v := 30) o dX11_odds_6 (by decide) ?_
    refine g_icmp_gt (x := p0) (y := 30) 21 o dX11_odds_8 (by decide) (fun u => ?_) (fun u => ?_)
    · rw [if_pos u] at e
      refine g_iconst (v := -1) o dX11_odds_21 (by decide) ?_
      exact g_iret o dX11_odds_22 (rt_v q e)
    · rw [if_neg u] at e
      refine g_aload_n 0 o dX11_odds_11 rfl rfl ?_
      obtain ⟨x12, q12, e⟩ := ob e
      refine g_getN 4 o cf11 (by decide) mw_368 dX11_odds_12 q12 ?_
      obtain ⟨_, k15, e⟩ := ob e
      obtain ⟨x15, h15, q15, e⟩ := ob2_s e
      refine g_callVv [] o (mX6_isForHer q15) cf6 (ckO_s k15) mw_953 mw_348 mw_349 mw_7 mw_350 rfl yo_X6_isForHer rfl rfl (Nat.le_of_ble_eq_true rfl) ⟨by decide, by decide⟩ ⟨rfl, rfl⟩ dX11_odds_15 ⟨by decide, by decide⟩ ?_
      refine g_if_ne (x := x15) 23 o dX11_odds_18 (by decide) (fun u => ?_) (fun u => ?_)
      · rw [if_neg u] at e
        refine g_iconst (v := 0) o dX11_odds_23 (by decide) ?_
        refine g_istore_n [(3, .int 0), (0, .ref a), (1, .int p0), (2, .int p1)] o dX11_odds_24 rfl (by decide) rfl ?_
        refine g_iconst (v := 0) o dX11_odds_25 (by decide) ?_
        refine g_istore [(4, .int 0), (3, .int 0), (0, .ref a), (1, .int p0), (2, .int p1)] o dX11_odds_26 (by decide) rfl ?_
        refine g_sb [2, 3, 4, 1, 0] rfl ?_
        exact kX11_odds_28 f0 o f0 a p0 p1 0 0 h15 r hz q e
      · rw [if_pos u] at e
        refine g_iconst (v := -1) o dX11_odds_21 (by decide) ?_
        exact g_iret o dX11_odds_22 (rt_v q e)
theorem yo_X11_undo : yok yX11_undo 0 := ⟨by decide, by decide, by decide +kernel⟩
set_option maxRecDepth 100000 in
set_option maxHeartbeats 4000000 in
theorem mX11_undo {l : Launch} {D : va_G} {cy : Nat → ClassId} {f0 : Nat} {a : Nat} {h : Hp} {r : Int32} {hz : Hp} (e : fX11_undo f0 a h = some (r, hz)) : MC l D cy yX11_undo cX11_undo 2 (some .int) rmX11_undo [.ref a] h (some (.int r)) hz := by
  refine mc_of2 (by decide) (Nat.le_of_ble_eq_true rfl) (fun X hl hD hy hin o q => ?_)
  subst hl; subst hD; subst hy
  show G X 2 0 [(0, .ref a)] [] h 0 0
  unfold fX11_undo at e
  refine g_aload_n 0 o dX11_undo_0 rfl rfl ?_
  obtain ⟨x1, q1, e⟩ := ob e
  refine g_getI 14 o cf11 (by decide) mw_378 dX11_undo_1 q1 ?_
  refine g_iconst (v := 1) o dX11_undo_4 (by decide) ?_
  refine g_icmp_ge (x := x1) (y := 1) 10 o dX11_undo_5 (by decide) (fun u => ?_) (fun u => ?_)
  · rw [if_pos u] at e
    refine g_aload_n 0 o dX11_undo_10 rfl rfl ?_
    refine g_dup o dX11_undo_11 rfl ?_
    obtain ⟨x12, q12, e⟩ := ob e
    refine g_getI 14 o cf11 (by decide) mw_378 dX11_undo_12 q12 ?_
    refine g_iconst (v := 1) o dX11_undo_15 (by decide) ?_
    refine g_isub (x := x12) (y := 1) o dX11_undo_16 ?_
    obtain ⟨h17, q17, e⟩ := ob e
    refine g_put (ty1 := .int) 14 o cf11 (by decide) mw_378 rfl (by decide +kernel) rfl rfl dX11_undo_17 q17 ?_
    refine g_aload_n 0 o dX11_undo_20 rfl rfl ?_
    obtain ⟨x21, q21, e⟩ := ob e
    refine g_getN 11 o cf11 (by decide) mw_375 dX11_undo_21 q21 ?_
    refine g_astore_n [(1, .ref x21), (0, .ref a)] o dX11_undo_24 rfl (by decide) rfl ?_
    refine g_aload_n 1 o dX11_undo_25 rfl rfl ?_
    refine g_aload_n 1 o dX11_undo_26 rfl rfl ?_
    obtain ⟨x27, q27, e⟩ := ob e
    refine g_getN 13 o cf11 (by decide) mw_377 dX11_undo_27 q27 ?_
    refine g_aload_n 1 o dX11_undo_30 rfl rfl ?_
    obtain ⟨x31, q31, e⟩ := ob e
    refine g_getI 14 o cf11 (by decide) mw_378 dX11_undo_31 q31 ?_
    obtain ⟨x34, q34, e⟩ := ob e
    refine g_aldN (C := RX10) rfl o dX11_undo_34 q34 ?_
    obtain ⟨h35, q35, e⟩ := ob e
    refine g_put (ty1 := (.object "FalseName$Ship")) 11 o cf11 (by decide) mw_375 rfl (by decide +kernel) rfl rfl dX11_undo_35 q35 ?_
    refine g_aload_n 1 o dX11_undo_38 rfl rfl ?_
    obtain ⟨x39, q39, e⟩ := ob e
    refine g_getN 13 o cf11 (by decide) mw_377 dX11_undo_39 q39 ?_
    refine g_aload_n 1 o dX11_undo_42 rfl rfl ?_
    obtain ⟨x43, q43, e⟩ := ob e
    refine g_getI 14 o cf11 (by decide) mw_378 dX11_undo_43 q43 ?_
    refine g_aload_n 0 o dX11_undo_46 rfl rfl ?_
    obtain ⟨_, k47, e⟩ := ob e
    obtain ⟨h47, q47, e⟩ := ob e
    refine g_astQ o cf10 rfl dX11_undo_47 (ckO_s k47) q47 ?_
    refine g_aload_n 1 o dX11_undo_48 rfl rfl ?_
    obtain ⟨x49, q49, e⟩ := ob e
    refine g_getI 14 o cf11 (by decide) mw_378 dX11_undo_49 q49 ?_
    exact g_iret o dX11_undo_52 (rt_v q e)
  · rw [if_neg u] at e
    refine g_iconst (v := -1) o dX11_undo_8 (by decide) ?_
    exact g_iret o dX11_undo_9 (rt_v q e)
theorem yo_X11_restore : yok yX11_restore 1 := ⟨by decide, by decide, by decide +kernel⟩
set_option maxRecDepth 100000 in
set_option maxHeartbeats 4000000 in
theorem mX11_restore {l : Launch} {D : va_G} {cy : Nat → ClassId} {f0 : Nat} {a : Nat} {p0 : Int32} {h : Hp} {r : Int32} {hz : Hp} (e : fX11_restore f0 a p0 h = some (r, hz)) : MC l D cy yX11_restore cX11_restore 3 (some .boolean) rmX11_restore [.ref a, .int p0] h (some (.int r)) hz := by
  refine mc_of2 (by decide) (Nat.le_of_ble_eq_true rfl) (fun X hl hD hy hin o q => ?_)
  subst hl; subst hD; subst hy
  show G X 3 0 [(0, .ref a), (1, .int p0)] [] h 0 0
  unfold fX11_restore at e
  refine g_iload_n 1 o dX11_restore_0 rfl rfl ?_
  refine g_if_lt (x := p0) 18 o dX11_restore_1 (by decide) (fun u => ?_) (fun u => ?_)
  · rw [if_pos u] at e
    refine g_iconst (v := 0) o dX11_restore_18 (by decide) ?_
    exact g_zret o dX11_restore_19 (zr_s e).1 (rt_v q (zr_s e).2)
  · rw [if_neg u] at e
    refine g_iload_n 1 o dX11_restore_4 rfl rfl ?_
    refine g_iconst (v := 2) o dX11_restore_5 (by decide) ?_
    refine g_icmp_ge (x := p0) (y := 2) 18 o dX11_restore_6 (by decide) (fun u => ?_) (fun u => ?_)
    · rw [if_pos u] at e
      refine g_iconst (v := 0) o dX11_restore_18 (by decide) ?_
      exact g_zret o dX11_restore_19 (zr_s e).1 (rt_v q (zr_s e).2)
    · rw [if_neg u] at e
      refine g_aload_n 0 o dX11_restore_9 rfl rfl ?_
      obtain ⟨x10, q10, e⟩ := ob e
      refine g_getN 15 o cf11 (by decide) mw_379 dX11_restore_10 q10 ?_
      refine g_iload_n 1 o dX11_restore_13 rfl rfl ?_
      obtain ⟨x14, q14, e⟩ := ob e
      refine g_aldQ (C := RX1) rfl o dX11_restore_14 q14 ?_
      refine g_ifnonnullQ (r := x14) 20 o dX11_restore_15 (by decide) (fun u => ?_) (fun u => ?_)
      · rw [if_pos u] at e
        refine g_iconst (v := 0) o dX11_restore_18 (by decide) ?_
        exact g_zret o dX11_restore_19 (zr_s e).1 (rt_v q (zr_s e).2)
      · rw [if_neg u] at e
        refine g_aload_n 0 o dX11_restore_20 rfl rfl ?_
        obtain ⟨x21, q21, e⟩ := ob e
        refine g_getN 15 o cf11 (by decide) mw_379 dX11_restore_21 q21 ?_
        refine g_iload_n 1 o dX11_restore_24 rfl rfl ?_
        obtain ⟨x25, q25, e⟩ := ob e
        refine g_aldN (C := RX1) rfl o dX11_restore_25 q25 ?_
        refine g_astore_n [(2, .ref x25), (0, .ref a), (1, .int p0)] o dX11_restore_26 rfl (by decide) rfl ?_
        refine g_aload_n 1 o dX11_restore_27 rfl rfl ?_
        obtain ⟨x28, q28, e⟩ := ob e
        refine g_getN 4 o cf11 (by decide) mw_368 dX11_restore_28 q28 ?_
        refine g_aload_n 0 o dX11_restore_31 rfl rfl ?_
        obtain ⟨x32, q32, e⟩ := ob e
        refine g_getN 0 o cf1 (by decide) mw_1034 dX11_restore_32 q32 ?_
        obtain ⟨_, k35, e⟩ := ob e
        obtain ⟨h35, q35, e⟩ := ob e
        refine g_callV0 [.ref x32] o (mX6_copyFrom q35) cf6 (ckO_s k35) mw_576 mw_577 mw_578 mw_7 mw_579 rfl yo_X6_copyFrom rfl rfl (Nat.le_of_ble_eq_true rfl) ⟨by decide, by decide⟩ ⟨rfl, rfl⟩ dX11_restore_35 ⟨by decide, by decide⟩ ?_
        refine g_aload_n 1 o dX11_restore_38 rfl rfl ?_
        obtain ⟨x39, q39, e⟩ := ob e
        refine g_getN 11 o cf11 (by decide) mw_375 dX11_restore_39 q39 ?_
        refine g_aload_n 0 o dX11_restore_42 rfl rfl ?_
        obtain ⟨x43, q43, e⟩ := ob e
        refine g_getN 1 o cf1 (by decide) mw_1036 dX11_restore_43 q43 ?_
        obtain ⟨_, k46, e⟩ := ob e
        obtain ⟨h46, q46, e⟩ := ob e
        refine g_callV0 [.ref x43] o (mX10_copyFrom q46) cf10 (ckO_s k46) mw_732 mw_733 mw_734 mw_13 mw_735 rfl yo_X10_copyFrom rfl rfl (Nat.le_of_ble_eq_true rfl) ⟨by decide, by decide⟩ ⟨rfl, rfl⟩ dX11_restore_46 ⟨by decide, by decide⟩ ?_
        refine g_aload_n 1 o dX11_restore_49 rfl rfl ?_
        obtain ⟨x50, q50, e⟩ := ob e
        refine g_getN 7 o cf11 (by decide) mw_371 dX11_restore_50 q50 ?_
        refine g_aload_n 0 o dX11_restore_53 rfl rfl ?_
        obtain ⟨x54, q54, e⟩ := ob e
        refine g_getN 2 o cf1 (by decide) mw_1038 dX11_restore_54 q54 ?_
        obtain ⟨_, k57, e⟩ := ob e
        obtain ⟨h57, q57, e⟩ := ob e
        refine g_callV0 [.ref x54] o (mX8_copyFrom q57) cf8 (ckO_s k57) mw_626 mw_627 mw_628 mw_10 mw_629 rfl yo_X8_copyFrom rfl rfl (Nat.le_of_ble_eq_true rfl) ⟨by decide, by decide⟩ ⟨rfl, rfl⟩ dX11_restore_57 ⟨by decide, by decide⟩ ?_
        refine g_aload_n 1 o dX11_restore_60 rfl rfl ?_
        refine g_iconst (v := 0) o dX11_restore_61 (by decide) ?_
        obtain ⟨h62, q62, e⟩ := ob e
        refine g_put (ty1 := .int) 14 o cf11 (by decide) mw_378 rfl (by decide +kernel) rfl rfl dX11_restore_62 q62 ?_
        refine g_iconst (v := 1) o dX11_restore_65 (by decide) ?_
        exact g_zret o dX11_restore_66 (zr_s e).1 (rt_v q (zr_s e).2)
set_option maxRecDepth 100000 in
set_option maxHeartbeats 4000000 in
theorem kX6_wantedAt_34 {X : Cx} (f0 : Nat) (g4 : Nat → Int32 → Int32 → Int32 → Hp → Option (Int32 × Hp)) (i4 : ∀ (v02 : Nat) (v12 : Int32) (v22 : Int32) (v32 : Int32) (h2 : Hp) (r : Int32) (hz : Hp), Rt X (some (.int r)) hz 0 0 → g4 v02 v12 v22 v32 h2 = some (r, hz) → G X 4 4 [(0, .ref v02), (1, .int v12), (2, .int v22), (3, .int v32)] [] h2 0 0) (o : Ok X cX6_wantedAt RX6 4 rmX6_wantedAt (some .int)) (v0 : Nat) (v1 : Int32) (v2 : Int32) (v3 : Int32) (h : Hp) (r : Int32) (hz : Hp) (q : Rt X (some (.int r)) hz 0 0) (e : bX6_wantedAt_34 f0 g4 v0 v1 v2 v3 h = some (r, hz)) : G X 4 34 [(0, .ref v0), (1, .int v1), (2, .int v2), (3, .int v3)] [] h 0 0 := by
  unfold bX6_wantedAt_34 at e
  refine g_iinc (k := 3) (v := (v3 + 1)) [(3, .int (v3 + 1)), (0, .ref v0), (1, .int v1), (2, .int v2)] o dX6_wantedAt_34 rfl rfl (by decide) rfl ?_
  refine g_goto 4 o dX6_wantedAt_37 (by decide) ?_
  refine g_sb [1, 2, 3, 0] rfl ?_
  exact i4 v0 v1 v2 (v3 + 1) h r hz q e
set_option maxRecDepth 100000 in
set_option maxHeartbeats 4000000 in
theorem kX6_wantedAt_4 {X : Cx} (f0 : Nat) (o : Ok X cX6_wantedAt RX6 4 rmX6_wantedAt (some .int)) (f : Nat) (v0 : Nat) (v1 : Int32) (v2 : Int32) (v3 : Int32) (h : Hp) (r : Int32) (hz : Hp) (q : Rt X (some (.int r)) hz 0 0) (e : bX6_wantedAt_4 f0 f v0 v1 v2 v3 h = some (r, hz)) : G X 4 4 [(0, .ref v0), (1, .int v1), (2, .int v2), (3, .int v3)] [] h 0 0 := by
  induction f generalizing v0 v1 v2 v3 h r hz with
  | zero => cases e
  | succ f1 ih =>
    unfold bX6_wantedAt_4 at e
    refine g_iload_n 3 o dX6_wantedAt_4 rfl rfl ?_
    refine g_aload_n 0 o dX6_wantedAt_5 rfl rfl ?_
    obtain ⟨x6, q6, e⟩ := ob e
    refine g_getN 1 o cf6 (by decide) mw_142 dX6_wantedAt_6 q6 ?_
    refine g_iconst (v := 3) o dX6_wantedAt_9 (by decide) ?_
    obtain ⟨x10, q10, e⟩ := ob e
    refine g_iald o dX6_wantedAt_10 q10 ?_
    refine g_icmp_ge (x := v3) (y := x10) 40 o dX6_wantedAt_11 (by decide) (fun u => ?_) (fun u => ?_)
    · rw [if_pos u] at e
      refine g_iload_n 2 o dX6_wantedAt_40 rfl rfl ?_
      exact g_iret o dX6_wantedAt_41 (rt_v q e)
    · rw [if_neg u] at e
      refine g_aload_n 0 o dX6_wantedAt_14 rfl rfl ?_
      obtain ⟨x15, q15, e⟩ := ob e
      refine g_getN 5 o cf6 (by decide) mw_159 dX6_wantedAt_15 q15 ?_
      refine g_iload_n 3 o dX6_wantedAt_18 rfl rfl ?_
      refine g_bipush (v := 8) o dX6_wantedAt_19 (by decide) ?_
      refine g_imul (x := v3) (y := 8) o dX6_wantedAt_21 ?_
      refine g_iload_n 1 o dX6_wantedAt_22 rfl rfl ?_
      refine g_iadd (x := (v3 * 8)) (y := v1) o dX6_wantedAt_23 ?_
      obtain ⟨x24, q24, e⟩ := ob e
      refine g_iald o dX6_wantedAt_24 q24 ?_
      refine g_if_le (x := x24) 34 o dX6_wantedAt_25 (by decide) (fun u => ?_) (fun u => ?_)
      · rw [if_pos u] at e
        exact kX6_wantedAt_34 f0 (bX6_wantedAt_4 f0 f1) ih o v0 v1 v2 v3 h r hz q e
      · rw [if_neg u] at e
        refine g_iload_n 2 o dX6_wantedAt_28 rfl rfl ?_
        refine g_iconst (v := 1) o dX6_wantedAt_29 (by decide) ?_
        refine g_iload_n 3 o dX6_wantedAt_30 rfl rfl ?_
        refine g_ishl (x := (1 : Int32)) (y := v3) o dX6_wantedAt_31 ?_
        refine g_ior (x := v2) (y := ((1 : Int32) <<< (v3 &&& 31))) o dX6_wantedAt_32 ?_
        refine g_istore_n [(2, .int (v2 ||| ((1 : Int32) <<< (v3 &&& 31)))), (0, .ref v0), (1, .int v1), (3, .int v3)] o dX6_wantedAt_33 rfl (by decide) rfl ?_
        refine g_sb [1, 2, 0, 3] rfl ?_
        exact kX6_wantedAt_34 f0 (bX6_wantedAt_4 f0 f1) ih o v0 v1 (v2 ||| ((1 : Int32) <<< (v3 &&& 31))) v3 h r hz q e
theorem yo_X6_wantedAt : yok yX6_wantedAt 1 := ⟨by decide, by decide, by decide +kernel⟩
set_option maxRecDepth 100000 in
set_option maxHeartbeats 4000000 in
theorem mX6_wantedAt {l : Launch} {D : va_G} {cy : Nat → ClassId} {f0 : Nat} {a : Nat} {p0 : Int32} {h : Hp} {r : Int32} {hz : Hp} (e : fX6_wantedAt f0 a p0 h = some (r, hz)) : MC l D cy yX6_wantedAt cX6_wantedAt 4 (some .int) rmX6_wantedAt [.ref a, .int p0] h (some (.int r)) hz := by
  refine mc_of2 (by decide) (Nat.le_of_ble_eq_true rfl) (fun X hl hD hy hin o q => ?_)
  subst hl; subst hD; subst hy
  show G X 4 0 [(0, .ref a), (1, .int p0)] [] h 0 0
  unfold fX6_wantedAt at e
  refine g_iconst (v := 0) o dX6_wantedAt_0 (by decide) ?_
  refine g_istore_n [(2, .int 0), (0, .ref a), (1, .int p0)] o dX6_wantedAt_1 rfl (by decide) rfl ?_
  refine g_iconst (v := 0) o dX6_wantedAt_2 (by decide) ?_
  refine g_istore_n [(3, .int 0), (2, .int 0), (0, .ref a), (1, .int p0)] o dX6_wantedAt_3 rfl (by decide) rfl ?_
  refine g_sb [2, 3, 1, 0] rfl ?_
  exact kX6_wantedAt_4 f0 o f0 a p0 0 0 h r hz q e
set_option maxRecDepth 100000 in
set_option maxHeartbeats 4000000 in
theorem kX6_waysFrom_34 {X : Cx} (f0 : Nat) (g4 : Nat → Int32 → Int32 → Int32 → Hp → Option (Int32 × Hp)) (i4 : ∀ (v02 : Nat) (v12 : Int32) (v22 : Int32) (v32 : Int32) (h2 : Hp) (r : Int32) (hz : Hp), Rt X (some (.int r)) hz 0 0 → g4 v02 v12 v22 v32 h2 = some (r, hz) → G X 4 4 [(0, .ref v02), (1, .int v12), (2, .int v22), (3, .int v32)] [] h2 0 0) (o : Ok X cX6_waysFrom RX6 4 rmX6_waysFrom (some .int)) (v0 : Nat) (v1 : Int32) (v2 : Int32) (v3 : Int32) (h : Hp) (r : Int32) (hz : Hp) (q : Rt X (some (.int r)) hz 0 0) (e : bX6_waysFrom_34 f0 g4 v0 v1 v2 v3 h = some (r, hz)) : G X 4 34 [(0, .ref v0), (1, .int v1), (2, .int v2), (3, .int v3)] [] h 0 0 := by
  unfold bX6_waysFrom_34 at e
  refine g_iinc (k := 3) (v := (v3 + 1)) [(3, .int (v3 + 1)), (0, .ref v0), (1, .int v1), (2, .int v2)] o dX6_waysFrom_34 rfl rfl (by decide) rfl ?_
  refine g_goto 4 o dX6_waysFrom_37 (by decide) ?_
  refine g_sb [1, 2, 3, 0] rfl ?_
  exact i4 v0 v1 v2 (v3 + 1) h r hz q e
set_option maxRecDepth 100000 in
set_option maxHeartbeats 4000000 in
theorem kX6_waysFrom_4 {X : Cx} (f0 : Nat) (o : Ok X cX6_waysFrom RX6 4 rmX6_waysFrom (some .int)) (f : Nat) (v0 : Nat) (v1 : Int32) (v2 : Int32) (v3 : Int32) (h : Hp) (r : Int32) (hz : Hp) (q : Rt X (some (.int r)) hz 0 0) (e : bX6_waysFrom_4 f0 f v0 v1 v2 v3 h = some (r, hz)) : G X 4 4 [(0, .ref v0), (1, .int v1), (2, .int v2), (3, .int v3)] [] h 0 0 := by
  induction f generalizing v0 v1 v2 v3 h r hz with
  | zero => cases e
  | succ f1 ih =>
    unfold bX6_waysFrom_4 at e
    refine g_iload_n 3 o dX6_waysFrom_4 rfl rfl ?_
    refine g_aload_n 0 o dX6_waysFrom_5 rfl rfl ?_
    obtain ⟨x6, q6, e⟩ := ob e
    refine g_getN 1 o cf6 (by decide) mw_142 dX6_waysFrom_6 q6 ?_
    refine g_iconst (v := 0) o dX6_waysFrom_9 (by decide) ?_
    obtain ⟨x10, q10, e⟩ := ob e
    refine g_iald o dX6_waysFrom_10 q10 ?_
    refine g_icmp_ge (x := v3) (y := x10) 40 o dX6_waysFrom_11 (by decide) (fun u => ?_) (fun u => ?_)
    · rw [if_pos u] at e
      refine g_iload_n 2 o dX6_waysFrom_40 rfl rfl ?_
      exact g_iret o dX6_waysFrom_41 (rt_v q e)
    · rw [if_neg u] at e
      refine g_aload_n 0 o dX6_waysFrom_14 rfl rfl ?_
      obtain ⟨x15, q15, e⟩ := ob e
      refine g_getN 3 o cf6 (by decide) mw_152 dX6_waysFrom_15 q15 ?_
      refine g_iload_n 1 o dX6_waysFrom_18 rfl rfl ?_
      refine g_bipush (v := 8) o dX6_waysFrom_19 (by decide) ?_
      refine g_imul (x := v1) (y := 8) o dX6_waysFrom_21 ?_
      refine g_iload_n 3 o dX6_waysFrom_22 rfl rfl ?_
      refine g_iadd (x := (v1 * 8)) (y := v3) o dX6_waysFrom_23 ?_
      obtain ⟨x24, q24, e⟩ := ob e
      refine g_iald o dX6_waysFrom_24 q24 ?_
      refine g_if_le (x := x24) 34 o dX6_waysFrom_25 (by decide) (fun u => ?_) (fun u => ?_)
      · rw [if_pos u] at e
        exact kX6_waysFrom_34 f0 (bX6_waysFrom_4 f0 f1) ih o v0 v1 v2 v3 h r hz q e
      · rw [if_neg u] at e
        refine g_iload_n 2 o dX6_waysFrom_28 rfl rfl ?_
        refine g_iconst (v := 1) o dX6_waysFrom_29 (by decide) ?_
        refine g_iload_n 3 o dX6_waysFrom_30 rfl rfl ?_
        refine g_ishl (x := (1 : Int32)) (y := v3) o dX6_waysFrom_31 ?_
        refine g_ior (x := v2) (y := ((1 : Int32) <<< (v3 &&& 31))) o dX6_waysFrom_32 ?_
        refine g_istore_n [(2, .int (v2 ||| ((1 : Int32) <<< (v3 &&& 31)))), (0, .ref v0), (1, .int v1), (3, .int v3)] o dX6_waysFrom_33 rfl (by decide) rfl ?_
        refine g_sb [1, 2, 0, 3] rfl ?_
        exact kX6_waysFrom_34 f0 (bX6_waysFrom_4 f0 f1) ih o v0 v1 (v2 ||| ((1 : Int32) <<< (v3 &&& 31))) v3 h r hz q e
theorem yo_X6_waysFrom : yok yX6_waysFrom 1 := ⟨by decide, by decide, by decide +kernel⟩
set_option maxRecDepth 100000 in
set_option maxHeartbeats 4000000 in
theorem mX6_waysFrom {l : Launch} {D : va_G} {cy : Nat → ClassId} {f0 : Nat} {a : Nat} {p0 : Int32} {h : Hp} {r : Int32} {hz : Hp} (e : fX6_waysFrom f0 a p0 h = some (r, hz)) : MC l D cy yX6_waysFrom cX6_waysFrom 4 (some .int) rmX6_waysFrom [.ref a, .int p0] h (some (.int r)) hz := by
  refine mc_of2 (by decide) (Nat.le_of_ble_eq_true rfl) (fun X hl hD hy hin o q => ?_)
  subst hl; subst hD; subst hy
  show G X 4 0 [(0, .ref a), (1, .int p0)] [] h 0 0
  unfold fX6_waysFrom at e
  refine g_iconst (v := 0) o dX6_waysFrom_0 (by decide) ?_
  refine g_istore_n [(2, .int 0), (0, .ref a), (1, .int p0)] o dX6_waysFrom_1 rfl (by decide) rfl ?_
  refine g_iconst (v := 0) o dX6_waysFrom_2 (by decide) ?_
  refine g_istore_n [(3, .int 0), (2, .int 0), (0, .ref a), (1, .int p0)] o dX6_waysFrom_3 rfl (by decide) rfl ?_
  refine g_sb [2, 3, 1, 0] rfl ?_
  exact kX6_waysFrom_4 f0 o f0 a p0 0 0 h r hz q e
set_option maxRecDepth 100000 in
set_option maxHeartbeats 4000000 in
theorem kX6_mailsTo_34 {X : Cx} (f0 : Nat) (g4 : Nat → Int32 → Int32 → Int32 → Hp → Option (Int32 × Hp)) (i4 : ∀ (v02 : Nat) (v12 : Int32) (v22 : Int32) (v32 : Int32) (h2 : Hp) (r : Int32) (hz : Hp), Rt X (some (.int r)) hz 0 0 → g4 v02 v12 v22 v32 h2 = some (r, hz) → G X 4 4 [(0, .ref v02), (1, .int v12), (2, .int v22), (3, .int v32)] [] h2 0 0) (o : Ok X cX6_mailsTo RX6 4 rmX6_mailsTo (some .int)) (v0 : Nat) (v1 : Int32) (v2 : Int32) (v3 : Int32) (h : Hp) (r : Int32) (hz : Hp) (q : Rt X (some (.int r)) hz 0 0) (e : bX6_mailsTo_34 f0 g4 v0 v1 v2 v3 h = some (r, hz)) : G X 4 34 [(0, .ref v0), (1, .int v1), (2, .int v2), (3, .int v3)] [] h 0 0 := by
  unfold bX6_mailsTo_34 at e
  refine g_iinc (k := 3) (v := (v3 + 1)) [(3, .int (v3 + 1)), (0, .ref v0), (1, .int v1), (2, .int v2)] o dX6_mailsTo_34 rfl rfl (by decide) rfl ?_
  refine g_goto 4 o dX6_mailsTo_37 (by decide) ?_
  refine g_sb [1, 2, 3, 0] rfl ?_
  exact i4 v0 v1 v2 (v3 + 1) h r hz q e
set_option maxRecDepth 100000 in
set_option maxHeartbeats 4000000 in
theorem kX6_mailsTo_4 {X : Cx} (f0 : Nat) (o : Ok X cX6_mailsTo RX6 4 rmX6_mailsTo (some .int)) (f : Nat) (v0 : Nat) (v1 : Int32) (v2 : Int32) (v3 : Int32) (h : Hp) (r : Int32) (hz : Hp) (q : Rt X (some (.int r)) hz 0 0) (e : bX6_mailsTo_4 f0 f v0 v1 v2 v3 h = some (r, hz)) : G X 4 4 [(0, .ref v0), (1, .int v1), (2, .int v2), (3, .int v3)] [] h 0 0 := by
  induction f generalizing v0 v1 v2 v3 h r hz with
  | zero => cases e
  | succ f1 ih =>
    unfold bX6_mailsTo_4 at e
    refine g_iload_n 3 o dX6_mailsTo_4 rfl rfl ?_
    refine g_aload_n 0 o dX6_mailsTo_5 rfl rfl ?_
    obtain ⟨x6, q6, e⟩ := ob e
    refine g_getN 1 o cf6 (by decide) mw_142 dX6_mailsTo_6 q6 ?_
    refine g_iconst (v := 0) o dX6_mailsTo_9 (by decide) ?_
    obtain ⟨x10, q10, e⟩ := ob e
    refine g_iald o dX6_mailsTo_10 q10 ?_
    refine g_icmp_ge (x := v3) (y := x10) 40 o dX6_mailsTo_11 (by decide) (fun u => ?_) (fun u => ?_)
    · rw [if_pos u] at e
      refine g_iload_n 2 o dX6_mailsTo_40 rfl rfl ?_
      exact g_iret o dX6_mailsTo_41 (rt_v q e)
    · rw [if_neg u] at e
      refine g_aload_n 0 o dX6_mailsTo_14 rfl rfl ?_
      obtain ⟨x15, q15, e⟩ := ob e
      refine g_getN 4 o cf6 (by decide) mw_156 dX6_mailsTo_15 q15 ?_
      refine g_iload_n 3 o dX6_mailsTo_18 rfl rfl ?_
      refine g_bipush (v := 8) o dX6_mailsTo_19 (by decide) ?_
      refine g_imul (x := v3) (y := 8) o dX6_mailsTo_21 ?_
      refine g_iload_n 1 o dX6_mailsTo_22 rfl rfl ?_
      refine g_iadd (x := (v3 * 8)) (y := v1) o dX6_mailsTo_23 ?_
      obtain ⟨x24, q24, e⟩ := ob e
      refine g_iald o dX6_mailsTo_24 q24 ?_
      refine g_if_le (x := x24) 34 o dX6_mailsTo_25 (by decide) (fun u => ?_) (fun u => ?_)
      · rw [if_pos u] at e
        exact kX6_mailsTo_34 f0 (bX6_mailsTo_4 f0 f1) ih o v0 v1 v2 v3 h r hz q e
      · rw [if_neg u] at e
        refine g_iload_n 2 o dX6_mailsTo_28 rfl rfl ?_
        refine g_iconst (v := 1) o dX6_mailsTo_29 (by decide) ?_
        refine g_iload_n 3 o dX6_mailsTo_30 rfl rfl ?_
        refine g_ishl (x := (1 : Int32)) (y := v3) o dX6_mailsTo_31 ?_
        refine g_ior (x := v2) (y := ((1 : Int32) <<< (v3 &&& 31))) o dX6_mailsTo_32 ?_
        refine g_istore_n [(2, .int (v2 ||| ((1 : Int32) <<< (v3 &&& 31)))), (0, .ref v0), (1, .int v1), (3, .int v3)] o dX6_mailsTo_33 rfl (by decide) rfl ?_
        refine g_sb [1, 2, 0, 3] rfl ?_
        exact kX6_mailsTo_34 f0 (bX6_mailsTo_4 f0 f1) ih o v0 v1 (v2 ||| ((1 : Int32) <<< (v3 &&& 31))) v3 h r hz q e
theorem yo_X6_mailsTo : yok yX6_mailsTo 1 := ⟨by decide, by decide, by decide +kernel⟩
set_option maxRecDepth 100000 in
set_option maxHeartbeats 4000000 in
theorem mX6_mailsTo {l : Launch} {D : va_G} {cy : Nat → ClassId} {f0 : Nat} {a : Nat} {p0 : Int32} {h : Hp} {r : Int32} {hz : Hp} (e : fX6_mailsTo f0 a p0 h = some (r, hz)) : MC l D cy yX6_mailsTo cX6_mailsTo 4 (some .int) rmX6_mailsTo [.ref a, .int p0] h (some (.int r)) hz := by
  refine mc_of2 (by decide) (Nat.le_of_ble_eq_true rfl) (fun X hl hD hy hin o q => ?_)
  subst hl; subst hD; subst hy
  show G X 4 0 [(0, .ref a), (1, .int p0)] [] h 0 0
  unfold fX6_mailsTo at e
  refine g_iconst (v := 0) o dX6_mailsTo_0 (by decide) ?_
  refine g_istore_n [(2, .int 0), (0, .ref a), (1, .int p0)] o dX6_mailsTo_1 rfl (by decide) rfl ?_
  refine g_iconst (v := 0) o dX6_mailsTo_2 (by decide) ?_
  refine g_istore_n [(3, .int 0), (2, .int 0), (0, .ref a), (1, .int p0)] o dX6_mailsTo_3 rfl (by decide) rfl ?_
  refine g_sb [2, 3, 1, 0] rfl ?_
  exact kX6_mailsTo_4 f0 o f0 a p0 0 0 h r hz q e
set_option maxRecDepth 100000 in
set_option maxHeartbeats 4000000 in
theorem kX11_greatestDivisor_21 {X : Cx} (f0 : Nat) (g2 : Int32 → Int32 → Int32 → Hp → Option (Int32 × Hp)) (i2 : ∀ (v02 : Int32) (v12 : Int32) (v22 : Int32) (h2 : Hp) (r : Int32) (hz : Hp), Rt X (some (.int r)) hz 0 0 → g2 v02 v12 v22 h2 = some (r, hz) → G X 3 2 [(0, .int v02), (1, .int v12), (2, .int v22)] [] h2 0 0) (o : Ok X cX11_greatestDivisor RX11 3 rmX11_greatestDivisor (some .int)) (v0 : Int32) (v1 : Int32) (v2 : Int32) (h : Hp) (r : Int32) (hz : Hp) (q : Rt X (some (.int r)) hz 0 0) (e : bX11_greatestDivisor_21 f0 g2 v0 v1 v2 h = some (r, hz)) : G X 3 21 [(0, .int v0), (1, .int v1), (2, .int v2)] [] h 0 0 := by
  unfold bX11_greatestDivisor_21 at e
  refine g_iinc (k := 2) (v := (v2 + (-1))) [(2, .int (v2 + (-1))), (0, .int v0), (1, .int v1)] o dX11_greatestDivisor_21 rfl rfl (by decide) rfl ?_
  refine g_goto 2 o dX11_greatestDivisor_24 (by decide) ?_
  refine g_sb [1, 2, 0] rfl ?_
  exact i2 v0 v1 (v2 + (-1)) h r hz q e
set_option maxRecDepth 100000 in
set_option maxHeartbeats 4000000 in
theorem kX11_greatestDivisor_2 {X : Cx} (f0 : Nat) (o : Ok X cX11_greatestDivisor RX11 3 rmX11_greatestDivisor (some .int)) (f : Nat) (v0 : Int32) (v1 : Int32) (v2 : Int32) (h : Hp) (r : Int32) (hz : Hp) (q : Rt X (some (.int r)) hz 0 0) (e : bX11_greatestDivisor_2 f0 f v0 v1 v2 h = some (r, hz)) : G X 3 2 [(0, .int v0), (1, .int v1), (2, .int v2)] [] h 0 0 := by
  induction f generalizing v0 v1 v2 h r hz with
  | zero => cases e
  | succ f1 ih =>
    unfold bX11_greatestDivisor_2 at e
    refine g_iload_n 2 o dX11_greatestDivisor_2 rfl rfl ?_
    refine g_iconst (v := 1) o dX11_greatestDivisor_3 (by decide) ?_
    refine g_icmp_le (x := v2) (y := 1) 27 o dX11_greatestDivisor_4 (by decide) (fun u => ?_) (fun u => ?_)
    · rw [if_pos u] at e
      refine g_iconst (v := 1) o dX11_greatestDivisor_27 (by decide) ?_
      exact g_iret o dX11_greatestDivisor_28 (rt_v q e)
    · rw [if_neg u] at e
      refine g_iload_n 0 o dX11_greatestDivisor_7 rfl rfl ?_
      refine g_iload_n 2 o dX11_greatestDivisor_8 rfl rfl ?_
      obtain ⟨_, z9, e⟩ := ob e
      refine g_irem (x := v0) (y := v2) o dX11_greatestDivisor_9 (nz_s z9) ?_
      refine g_if_ne (x := (v0 - v0 / v2 * v2)) 21 o dX11_greatestDivisor_10 (by decide) (fun u => ?_) (fun u => ?_)
      · rw [if_neg u] at e
        exact kX11_greatestDivisor_21 f0 (bX11_greatestDivisor_2 f0 f1) ih o v0 v1 v2 h r hz q e
      · rw [if_pos u] at e
        refine g_iload_n 1 o dX11_greatestDivisor_13 rfl rfl ?_
        refine g_iload_n 2 o dX11_greatestDivisor_14 rfl rfl ?_
        obtain ⟨_, z15, e⟩ := ob e
        refine g_irem (x := v1) (y := v2) o dX11_greatestDivisor_15 (nz_s z15) ?_
        refine g_if_ne (x := (v1 - v1 / v2 * v2)) 21 o dX11_greatestDivisor_16 (by decide) (fun u => ?_) (fun u => ?_)
        · rw [if_neg u] at e
          exact kX11_greatestDivisor_21 f0 (bX11_greatestDivisor_2 f0 f1) ih o v0 v1 v2 h r hz q e
        · rw [if_pos u] at e
          refine g_iload_n 2 o dX11_greatestDivisor_19 rfl rfl ?_
          exact g_iret o dX11_greatestDivisor_20 (rt_v q e)
theorem yo_X11_greatestDivisor : yok yX11_greatestDivisor 2 := ⟨by decide, by decide, by decide +kernel⟩
set_option maxRecDepth 100000 in
set_option maxHeartbeats 4000000 in
theorem mX11_greatestDivisor {l : Launch} {D : va_G} {cy : Nat → ClassId} {f0 : Nat} {p0 : Int32} {p1 : Int32} {h : Hp} {r : Int32} {hz : Hp} (e : fX11_greatestDivisor f0 p0 p1 h = some (r, hz)) : MC l D cy yX11_greatestDivisor cX11_greatestDivisor 3 (some .int) rmX11_greatestDivisor [.int p0, .int p1] h (some (.int r)) hz := by
  refine mc_of2 (by decide) (Nat.le_of_ble_eq_true rfl) (fun X hl hD hy hin o q => ?_)
  subst hl; subst hD; subst hy
  show G X 3 0 [(0, .int p0), (1, .int p1)] [] h 0 0
  unfold fX11_greatestDivisor at e
  refine g_iload_n 0 o dX11_greatestDivisor_0 rfl rfl ?_
  refine g_istore_n [(2, .int p0), (0, .int p0), (1, .int p1)] o dX11_greatestDivisor_1 rfl (by decide) rfl ?_
  refine g_sb [1, 2, 0] rfl ?_
  exact kX11_greatestDivisor_2 f0 o f0 p0 p1 p0 h r hz q e
theorem yo_X12_thrown : yok yX12_thrown 0 := ⟨by decide, by decide, by decide +kernel⟩
set_option maxRecDepth 100000 in
set_option maxHeartbeats 4000000 in
theorem mX12_thrown {l : Launch} {D : va_G} {cy : Nat → ClassId} {f0 : Nat} {a : Nat} {h : Hp} {r : Int32} {hz : Hp} (e : fX12_thrown f0 a h = some (r, hz)) : MC l D cy yX12_thrown cX12_thrown 1 (some .int) rmX12_thrown [.ref a] h (some (.int r)) hz := by
  refine mc_of2 (by decide) (Nat.le_of_ble_eq_true rfl) (fun X hl hD hy hin o q => ?_)
  subst hl; subst hD; subst hy
  show G X 1 0 [(0, .ref a)] [] h 0 0
  unfold fX12_thrown at e
  refine g_aload_n 0 o dX12_thrown_0 rfl rfl ?_
  obtain ⟨x1, q1, e⟩ := ob e
  refine g_getI 0 o cf12 (by decide) mw_1186 dX12_thrown_1 q1 ?_
  exact g_iret o dX12_thrown_4 (rt_v q e)
set_option maxRecDepth 100000 in
set_option maxHeartbeats 4000000 in
theorem kX12_four_3 {X : Cx} (f0 : Nat) (o : Ok X cX12_four RX12 3 rmX12_four none) (f : Nat) (v0 : Nat) (v1 : Int32) (v2 : Int32) (h : Hp) (hz : Hp) (q : Rt X none hz 0 0) (e : bX12_four_3 f0 f v0 v1 v2 h = some hz) : G X 3 3 [(0, .ref v0), (1, .int v1), (2, .int v2)] [] h 0 0 := by
  induction f generalizing v0 v1 v2 h hz with
  | zero => cases e
  | succ f1 ih =>
    unfold bX12_four_3 at e
    refine g_iload_n 2 o dX12_four_3 rfl rfl ?_
    refine g_if_lt (x := v2) 36 o dX12_four_4 (by decide) (fun u => ?_) (fun u => ?_)
    · rw [if_pos u] at e
      exact g_vret o dX12_four_36 (rt_0 q e)
    · rw [if_neg u] at e
      refine g_aload_n 0 o dX12_four_7 rfl rfl ?_
      obtain ⟨x8, q8, e⟩ := ob e
      refine g_getN 1 o cf12 (by decide) mw_1187 dX12_four_8 q8 ?_
      refine g_aload_n 0 o dX12_four_11 rfl rfl ?_
      obtain ⟨x12, q12, e⟩ := ob e
      refine g_getI 2 o cf12 (by decide) mw_1188 dX12_four_12 q12 ?_
      refine g_iload_n 1 o dX12_four_15 rfl rfl ?_
      refine g_iload_n 2 o dX12_four_16 rfl rfl ?_
      refine g_ishr (x := v1) (y := v2) o dX12_four_17 ?_
      refine g_i2b (x := (v1 >>> (v2 &&& 31))) o dX12_four_18 ?_
      obtain ⟨h19, q19, e⟩ := ob e
      refine g_bast o dX12_four_19 q19 ?_
      refine g_aload_n 0 o dX12_four_20 rfl rfl ?_
      refine g_dup o dX12_four_21 rfl ?_
      obtain ⟨x22, q22, e⟩ := ob e
      refine g_getI 2 o cf12 (by decide) mw_1188 dX12_four_22 q22 ?_
      refine g_iconst (v := 1) o dX12_four_25 (by decide) ?_
      refine g_iadd (x := x22) (y := 1) o dX12_four_26 ?_
      obtain ⟨h27, q27, e⟩ := ob e
      refine g_put (ty1 := .int) 2 o cf12 (by decide) mw_1188 rfl (by decide +kernel) rfl rfl dX12_four_27 q27 ?_
      refine g_iinc (k := 2) (v := (v2 + (-8))) [(2, .int (v2 + (-8))), (0, .ref v0), (1, .int v1)] o dX12_four_30 rfl rfl (by decide) rfl ?_
      refine g_goto 3 o dX12_four_33 (by decide) ?_
      refine g_sb [1, 2, 0] rfl ?_
      exact ih v0 v1 (v2 + (-8)) h27 hz q e
theorem yo_X12_four : yok yX12_four 1 := ⟨by decide, by decide, by decide +kernel⟩
set_option maxRecDepth 100000 in
set_option maxHeartbeats 4000000 in
theorem mX12_four {l : Launch} {D : va_G} {cy : Nat → ClassId} {f0 : Nat} {a : Nat} {p0 : Int32} {h : Hp} {hz : Hp} (e : fX12_four f0 a p0 h = some hz) : MC l D cy yX12_four cX12_four 3 none rmX12_four [.ref a, .int p0] h none hz := by
  refine mc_of2 (by decide) (Nat.le_of_ble_eq_true rfl) (fun X hl hD hy hin o q => ?_)
  subst hl; subst hD; subst hy
  show G X 3 0 [(0, .ref a), (1, .int p0)] [] h 0 0
  unfold fX12_four at e
  refine g_bipush (v := 24) o dX12_four_0 (by decide) ?_
  refine g_istore_n [(2, .int 24), (0, .ref a), (1, .int p0)] o dX12_four_2 rfl (by decide) rfl ?_
  refine g_sb [1, 2, 0] rfl ?_
  exact kX12_four_3 f0 o f0 a p0 24 h hz q e
theorem yo_X12_feed : yok yX12_feed 5 := ⟨by decide, by decide, by decide +kernel⟩
set_option maxRecDepth 100000 in
set_option maxHeartbeats 4000000 in
theorem mX12_feed {l : Launch} {D : va_G} {cy : Nat → ClassId} {f0 : Nat} {a : Nat} {p0 : Int32} {p1 : Int32} {p2 : Int32} {p3 : Int32} {p4 : Int32} {h : Hp} {r : Int32} {hz : Hp} (e : fX12_feed f0 a p0 p1 p2 p3 p4 h = some (r, hz)) : MC l D cy yX12_feed cX12_feed 6 (some .int) rmX12_feed [.ref a, .int p0, .int p1, .int p2, .int p3, .int p4] h (some (.int r)) hz := by
  refine mc_of2 (by decide) (Nat.le_of_ble_eq_true rfl) (fun X hl hD hy hin o q => ?_)
  subst hl; subst hD; subst hy
  show G X 6 0 [(0, .ref a), (1, .int p0), (2, .int p1), (3, .int p2), (4, .int p3), (5, .int p4)] [] h 0 0
  unfold fX12_feed at e
  refine g_aload_n 0 o dX12_feed_0 rfl rfl ?_
  refine g_iconst (v := 0) o dX12_feed_1 (by decide) ?_
  obtain ⟨h2, q2, e⟩ := ob e
  refine g_put (ty1 := .int) 0 o cf12 (by decide) mw_1186 rfl (by decide +kernel) rfl rfl dX12_feed_2 q2 ?_
  refine g_aload_n 0 o dX12_feed_5 rfl rfl ?_
  obtain ⟨x6, q6, e⟩ := ob e
  refine g_getI 2 o cf12 (by decide) mw_1188 dX12_feed_6 q6 ?_
  refine g_bipush (v := 20) o dX12_feed_9 (by decide) ?_
  refine g_iadd (x := x6) (y := 20) o dX12_feed_11 ?_
  refine g_sipush (v := 940) o dX12_feed_12 (by decide) ?_
  refine g_icmp_le (x := (x6 + 20)) (y := 940) 20 o dX12_feed_15 (by decide) (fun u => ?_) (fun u => ?_)
  · rw [if_pos u] at e
    refine g_aload_n 0 o dX12_feed_20 rfl rfl ?_
    refine g_iload_n 1 o dX12_feed_21 rfl rfl ?_
    obtain ⟨_, k22, e⟩ := ob e
    obtain ⟨h22, q22, e⟩ := ob e
    refine g_callV0 [.int p0] o (mX12_four q22) cf12 (ckO_s k22) mw_1130 mw_1131 mw_1723 mw_19 mw_1133 rfl yo_X12_four rfl rfl (Nat.le_of_ble_eq_true rfl) ⟨by decide, by decide⟩ ⟨rfl, rfl⟩ dX12_feed_22 ⟨by decide, by decide⟩ ?_
    refine g_aload_n 0 o dX12_feed_25 rfl rfl ?_
    refine g_iload_n 2 o dX12_feed_26 rfl rfl ?_
    obtain ⟨_, k27, e⟩ := ob e
    obtain ⟨h27, q27, e⟩ := ob e
    refine g_callV0 [.int p1] o (mX12_four q27) cf12 (ckO_s k27) mw_1130 mw_1131 mw_1723 mw_19 mw_1133 rfl yo_X12_four rfl rfl (Nat.le_of_ble_eq_true rfl) ⟨by decide, by decide⟩ ⟨rfl, rfl⟩ dX12_feed_27 ⟨by decide, by decide⟩ ?_
    refine g_aload_n 0 o dX12_feed_30 rfl rfl ?_
    refine g_iload_n 3 o dX12_feed_31 rfl rfl ?_
    obtain ⟨_, k32, e⟩ := ob e
    obtain ⟨h32, q32, e⟩ := ob e
    refine g_callV0 [.int p2] o (mX12_four q32) cf12 (ckO_s k32) mw_1130 mw_1131 mw_1723 mw_19 mw_1133 rfl yo_X12_four rfl rfl (Nat.le_of_ble_eq_true rfl) ⟨by decide, by decide⟩ ⟨rfl, rfl⟩ dX12_feed_32 ⟨by decide, by decide⟩ ?_
    refine g_aload_n 0 o dX12_feed_35 rfl rfl ?_
    refine g_iload 4 o dX12_feed_36 rfl ?_
    obtain ⟨_, k38, e⟩ := ob e
    obtain ⟨h38, q38, e⟩ := ob e
    refine g_callV0 [.int p3] o (mX12_four q38) cf12 (ckO_s k38) mw_1130 mw_1131 mw_1723 mw_19 mw_1133 rfl yo_X12_four rfl rfl (Nat.le_of_ble_eq_true rfl) ⟨by decide, by decide⟩ ⟨rfl, rfl⟩ dX12_feed_38 ⟨by decide, by decide⟩ ?_
    refine g_aload_n 0 o dX12_feed_41 rfl rfl ?_
    refine g_iload 5 o dX12_feed_42 rfl ?_
    obtain ⟨_, k44, e⟩ := ob e
    obtain ⟨h44, q44, e⟩ := ob e
    refine g_callV0 [.int p4] o (mX12_four q44) cf12 (ckO_s k44) mw_1130 mw_1131 mw_1723 mw_19 mw_1133 rfl yo_X12_four rfl rfl (Nat.le_of_ble_eq_true rfl) ⟨by decide, by decide⟩ ⟨rfl, rfl⟩ dX12_feed_44 ⟨by decide, by decide⟩ ?_
    refine g_aload_n 0 o dX12_feed_47 rfl rfl ?_
    obtain ⟨x48, q48, e⟩ := ob e
    refine g_getI 2 o cf12 (by decide) mw_1188 dX12_feed_48 q48 ?_
    exact g_iret o dX12_feed_51 (rt_v q e)
  · rw [if_neg u] at e
    refine g_iconst (v := -1) o dX12_feed_18 (by decide) ?_
    exact g_iret o dX12_feed_19 (rt_v q e)
theorem yo_X12_end : yok yX12_end 1 := ⟨by decide, by decide, by decide +kernel⟩
set_option maxRecDepth 100000 in
set_option maxHeartbeats 4000000 in
theorem mX12_end {l : Launch} {D : va_G} {cy : Nat → ClassId} {f0 : Nat} {a : Nat} {p0 : Int32} {h : Hp} {r : Int32} {hz : Hp} (e : fX12_end f0 a p0 h = some (r, hz)) : MC l D cy yX12_end cX12_end 2 (some .boolean) rmX12_end [.ref a, .int p0] h (some (.int r)) hz := by
  refine mc_of2 (by decide) (Nat.le_of_ble_eq_true rfl) (fun X hl hD hy hin o q => ?_)
  subst hl; subst hD; subst hy
  show G X 2 0 [(0, .ref a), (1, .int p0)] [] h 0 0
  unfold fX12_end at e
  refine g_aload_n 0 o dX12_end_0 rfl rfl ?_
  refine g_iconst (v := 0) o dX12_end_1 (by decide) ?_
  obtain ⟨h2, q2, e⟩ := ob e
  refine g_put (ty1 := .int) 0 o cf12 (by decide) mw_1186 rfl (by decide +kernel) rfl rfl dX12_end_2 q2 ?_
  refine g_iload_n 1 o dX12_end_5 rfl rfl ?_
  refine g_if_lt (x := p0) 17 o dX12_end_6 (by decide) (fun u => ?_) (fun u => ?_)
  · rw [if_pos u] at e
    refine g_iconst (v := 0) o dX12_end_17 (by decide) ?_
    exact g_zret o dX12_end_18 (zr_s e).1 (rt_v q (zr_s e).2)
  · rw [if_neg u] at e
    refine g_iload_n 1 o dX12_end_9 rfl rfl ?_
    refine g_aload_n 0 o dX12_end_10 rfl rfl ?_
    obtain ⟨x11, q11, e⟩ := ob e
    refine g_getI 2 o cf12 (by decide) mw_1188 dX12_end_11 q11 ?_
    refine g_icmp_le (x := p0) (y := x11) 19 o dX12_end_14 (by decide) (fun u => ?_) (fun u => ?_)
    · rw [if_pos u] at e
      refine g_aload_n 0 o dX12_end_19 rfl rfl ?_
      refine g_iload_n 1 o dX12_end_20 rfl rfl ?_
      obtain ⟨h21, q21, e⟩ := ob e
      refine g_put (ty1 := .int) 2 o cf12 (by decide) mw_1188 rfl (by decide +kernel) rfl rfl dX12_end_21 q21 ?_
      refine g_iconst (v := 1) o dX12_end_24 (by decide) ?_
      exact g_zret o dX12_end_25 (zr_s e).1 (rt_v q (zr_s e).2)
    · rw [if_neg u] at e
      refine g_iconst (v := 0) o dX12_end_17 (by decide) ?_
      exact g_zret o dX12_end_18 (zr_s e).1 (rt_v q (zr_s e).2)
theorem yo_X12_isSea : yok yX12_isSea 0 := ⟨by decide, by decide, by decide +kernel⟩
set_option maxRecDepth 100000 in
set_option maxHeartbeats 4000000 in
theorem mX12_isSea {l : Launch} {D : va_G} {cy : Nat → ClassId} {f0 : Nat} {a : Nat} {h : Hp} {r : Int32} {hz : Hp} (e : fX12_isSea f0 a h = some (r, hz)) : MC l D cy yX12_isSea cX12_isSea 1 (some .boolean) rmX12_isSea [.ref a] h (some (.int r)) hz := by
  refine mc_of2 (by decide) (Nat.le_of_ble_eq_true rfl) (fun X hl hD hy hin o q => ?_)
  subst hl; subst hD; subst hy
  show G X 1 0 [(0, .ref a)] [] h 0 0
  unfold fX12_isSea at e
  refine g_aload_n 0 o dX12_isSea_0 rfl rfl ?_
  obtain ⟨x1, q1, e⟩ := ob e
  refine g_getN 6 o cf12 (by decide) mw_1192 dX12_isSea_1 q1 ?_
  refine g_iconst (v := 0) o dX12_isSea_4 (by decide) ?_
  obtain ⟨x5, q5, e⟩ := ob e
  refine g_iald o dX12_isSea_5 q5 ?_
  refine g_if_le (x := x5) 22 o dX12_isSea_6 (by decide) (fun u => ?_) (fun u => ?_)
  · rw [if_pos u] at e
    refine g_iconst (v := 0) o dX12_isSea_22 (by decide) ?_
    exact g_zret o dX12_isSea_23 (zr_s e).1 (rt_v q (zr_s e).2)
  · rw [if_neg u] at e
    refine g_aload_n 0 o dX12_isSea_9 rfl rfl ?_
    obtain ⟨x10, q10, e⟩ := ob e
    refine g_getN 6 o cf12 (by decide) mw_1192 dX12_isSea_10 q10 ?_
    refine g_iconst (v := 1) o dX12_isSea_13 (by decide) ?_
    obtain ⟨x14, q14, e⟩ := ob e
    refine g_iald o dX12_isSea_14 q14 ?_
    refine g_if_le (x := x14) 22 o dX12_isSea_15 (by decide) (fun u => ?_) (fun u => ?_)
    · rw [if_pos u] at e
      refine g_iconst (v := 0) o dX12_isSea_22 (by decide) ?_
      exact g_zret o dX12_isSea_23 (zr_s e).1 (rt_v q (zr_s e).2)
    · rw [if_neg u] at e
      refine g_iconst (v := 1) o dX12_isSea_18 (by decide) ?_
      refine g_goto 23 o dX12_isSea_19 (by decide) ?_
      exact g_zret o dX12_isSea_23 (zr_s e).1 (rt_v q (zr_s e).2)
theorem yo_X12_cell : yok yX12_cell 2 := ⟨by decide, by decide, by decide +kernel⟩
set_option maxRecDepth 100000 in
set_option maxHeartbeats 4000000 in
theorem mX12_cell {l : Launch} {D : va_G} {cy : Nat → ClassId} {f0 : Nat} {p0 : Int32} {p1 : Int32} {h : Hp} {r : Int32} {hz : Hp} (e : fX12_cell f0 p0 p1 h = some (r, hz)) : MC l D cy yX12_cell cX12_cell 2 (some .int) rmX12_cell [.int p0, .int p1] h (some (.int r)) hz := by
  refine mc_of2 (by decide) (Nat.le_of_ble_eq_true rfl) (fun X hl hD hy hin o q => ?_)
  subst hl; subst hD; subst hy
  show G X 2 0 [(0, .int p0), (1, .int p1)] [] h 0 0
  unfold fX12_cell at e
  refine g_bipush (v := 8) o dX12_cell_0 (by decide) ?_
  refine g_iload_n 0 o dX12_cell_2 rfl rfl ?_
  refine g_imul (x := (8 : Int32)) (y := p0) o dX12_cell_3 ?_
  refine g_iload_n 1 o dX12_cell_4 rfl rfl ?_
  refine g_iadd (x := ((8 : Int32) * p0)) (y := p1) o dX12_cell_5 ?_
  exact g_iret o dX12_cell_6 (rt_v q e)
theorem yo_X12_lesser : yok yX12_lesser 2 := ⟨by decide, by decide, by decide +kernel⟩
set_option maxRecDepth 100000 in
set_option maxHeartbeats 4000000 in
theorem mX12_lesser {l : Launch} {D : va_G} {cy : Nat → ClassId} {f0 : Nat} {p0 : Int32} {p1 : Int32} {h : Hp} {r : Int32} {hz : Hp} (e : fX12_lesser f0 p0 p1 h = some (r, hz)) : MC l D cy yX12_lesser cX12_lesser 2 (some .int) rmX12_lesser [.int p0, .int p1] h (some (.int r)) hz := by
  refine mc_of2 (by decide) (Nat.le_of_ble_eq_true rfl) (fun X hl hD hy hin o q => ?_)
  subst hl; subst hD; subst hy
  show G X 2 0 [(0, .int p0), (1, .int p1)] [] h 0 0
  unfold fX12_lesser at e
  refine g_iload_n 0 o dX12_lesser_0 rfl rfl ?_
  refine g_iload_n 1 o dX12_lesser_1 rfl rfl ?_
  refine g_icmp_ge (x := p0) (y := p1) 9 o dX12_lesser_2 (by decide) (fun u => ?_) (fun u => ?_)
  · rw [if_pos u] at e
    refine g_iload_n 1 o dX12_lesser_9 rfl rfl ?_
    exact g_iret o dX12_lesser_10 (rt_v q e)
  · rw [if_neg u] at e
    refine g_iload_n 0 o dX12_lesser_5 rfl rfl ?_
    refine g_goto 10 o dX12_lesser_6 (by decide) ?_
    exact g_iret o dX12_lesser_10 (rt_v q e)
set_option maxRecDepth 100000 in
set_option maxHeartbeats 4000000 in
theorem kX12_waysOf_35 {X : Cx} (f0 : Nat) (g2 : Nat → Int32 → Nat → Int32 → Hp → Option (Hp)) (i2 : ∀ (v02 : Nat) (v12 : Int32) (v22 : Nat) (v32 : Int32) (h2 : Hp) (hz : Hp), Rt X none hz 0 0 → g2 v02 v12 v22 v32 h2 = some hz → G X 6 2 [(0, .ref v02), (1, .int v12), (2, .ref v22), (3, .int v32)] [] h2 0 0) (o : Ok X cX12_waysOf RX12 6 rmX12_waysOf none) (v0 : Nat) (v1 : Int32) (v2 : Nat) (v3 : Int32) (s0 : Nat) (s1 : Int32) (s2 : Int32) (h : Hp) (hz : Hp) (q : Rt X none hz 0 0) (e : bX12_waysOf_35 f0 g2 v0 v1 v2 v3 s0 s1 s2 h = some hz) : G X 6 35 [(0, .ref v0), (1, .int v1), (2, .ref v2), (3, .int v3)] [.int s2, .int s1, .ref s0] h 0 0 := by
  unfold bX12_waysOf_35 at e
  obtain ⟨h35, q35, e⟩ := ob e
  refine g_iast o dX12_waysOf_35 q35 ?_
  refine g_iinc (k := 3) (v := (v3 + 1)) [(3, .int (v3 + 1)), (0, .ref v0), (1, .int v1), (2, .ref v2)] o dX12_waysOf_36 rfl rfl (by decide) rfl ?_
  refine g_goto 2 o dX12_waysOf_39 (by decide) ?_
  refine g_sb [1, 2, 3, 0] rfl ?_
  exact i2 v0 v1 v2 (v3 + 1) h35 hz q e
set_option maxRecDepth 100000 in
set_option maxHeartbeats 4000000 in
theorem kX12_waysOf_85 {X : Cx} (f0 : Nat) (g66 : Nat → Int32 → Hp → Option (Hp)) (g75 : Nat → Int32 → Int32 → Hp → Option (Hp)) (i66 : ∀ (v22 : Nat) (v32 : Int32) (h2 : Hp) (hz : Hp), Rt X none hz 0 0 → g66 v22 v32 h2 = some hz → G X 6 66 [(2, .ref v22), (3, .int v32)] [] h2 0 0) (i75 : ∀ (v22 : Nat) (v32 : Int32) (v42 : Int32) (h2 : Hp) (hz : Hp), Rt X none hz 0 0 → g75 v22 v32 v42 h2 = some hz → G X 6 75 [(2, .ref v22), (3, .int v32), (4, .int v42)] [] h2 0 0) (o : Ok X cX12_waysOf RX12 6 rmX12_waysOf none) (f : Nat) (v2 : Nat) (v3 : Int32) (v4 : Int32) (v5 : Int32) (h : Hp) (hz : Hp) (q : Rt X none hz 0 0) (e : bX12_waysOf_85 f0 g66 g75 f v2 v3 v4 v5 h = some hz) : G X 6 85 [(2, .ref v2), (3, .int v3), (4, .int v4), (5, .int v5)] [] h 0 0 := by
  induction f generalizing v2 v3 v4 v5 h hz with
  | zero => cases e
  | succ f1 ih =>
    unfold bX12_waysOf_85 at e
    refine g_iload 3 o dX12_waysOf_85 rfl ?_
    refine g_bipush (v := 8) o dX12_waysOf_87 (by decide) ?_
    refine g_icmp_ge (x := v5) (y := 8) 136 o dX12_waysOf_89 (by decide) (fun u => ?_) (fun u => ?_)
    · rw [if_pos u] at e
      refine g_iinc (k := 2) (v := (v4 + 1)) [(4, .int (v4 + 1)), (2, .ref v2), (3, .int v3), (5, .int v5)] o dX12_waysOf_136 rfl rfl (by decide) rfl ?_
      refine g_goto 75 o dX12_waysOf_139 (by decide) ?_
      refine g_sb [1, 2, 0] rfl ?_
      exact i75 v2 v3 (v4 + 1) h hz q e
    · rw [if_neg u] at e
      refine g_aload_n 0 o dX12_waysOf_92 rfl rfl ?_
      refine g_iload 2 o dX12_waysOf_93 rfl ?_
      refine g_iload 3 o dX12_waysOf_95 rfl ?_
      obtain ⟨x97, h97, q97, e⟩ := ob2_s e
      refine g_callSv [.int v4, .int v5] o (mX12_cell q97) mw_1180 mw_1181 mw_19 mw_1182 yo_X12_cell rfl rfl (Nat.le_of_ble_eq_true rfl) ⟨by decide, by decide⟩ ⟨rfl, rfl⟩ dX12_waysOf_97 ⟨by decide, by decide⟩ ?_
      refine g_aload_n 0 o dX12_waysOf_100 rfl rfl ?_
      refine g_iload 2 o dX12_waysOf_101 rfl ?_
      refine g_iload 3 o dX12_waysOf_103 rfl ?_
      obtain ⟨x105, h105, q105, e⟩ := ob2_s e
      refine g_callSv [.int v4, .int v5] o (mX12_cell q105) mw_1180 mw_1181 mw_19 mw_1182 yo_X12_cell rfl rfl (Nat.le_of_ble_eq_true rfl) ⟨by decide, by decide⟩ ⟨rfl, rfl⟩ dX12_waysOf_105 ⟨by decide, by decide⟩ ?_
      obtain ⟨x108, q108, e⟩ := ob e
      refine g_iald o dX12_waysOf_108 q108 ?_
      refine g_aload_n 0 o dX12_waysOf_109 rfl rfl ?_
      refine g_iload 2 o dX12_waysOf_110 rfl ?_
      refine g_iload_n 1 o dX12_waysOf_112 rfl rfl ?_
      obtain ⟨x113, h113, q113, e⟩ := ob2_s e
      refine g_callSv [.int v4, .int v3] o (mX12_cell q113) mw_1180 mw_1181 mw_19 mw_1182 yo_X12_cell rfl rfl (Nat.le_of_ble_eq_true rfl) ⟨by decide, by decide⟩ ⟨rfl, rfl⟩ dX12_waysOf_113 ⟨by decide, by decide⟩ ?_
      obtain ⟨x116, q116, e⟩ := ob e
      refine g_iald o dX12_waysOf_116 q116 ?_
      refine g_aload_n 0 o dX12_waysOf_117 rfl rfl ?_
      refine g_iload_n 1 o dX12_waysOf_118 rfl rfl ?_
      refine g_iload 3 o dX12_waysOf_119 rfl ?_
      obtain ⟨x121, h121, q121, e⟩ := ob2_s e
      refine g_callSv [.int v3, .int v5] o (mX12_cell q121) mw_1180 mw_1181 mw_19 mw_1182 yo_X12_cell rfl rfl (Nat.le_of_ble_eq_true rfl) ⟨by decide, by decide⟩ ⟨rfl, rfl⟩ dX12_waysOf_121 ⟨by decide, by decide⟩ ?_
      obtain ⟨x124, q124, e⟩ := ob e
      refine g_iald o dX12_waysOf_124 q124 ?_
      refine g_iadd (x := x116) (y := x124) o dX12_waysOf_125 ?_
      obtain ⟨x126, h126, q126, e⟩ := ob2_s e
      refine g_callSv [.int x108, .int (x116 + x124)] o (mX12_lesser q126) mw_1183 mw_1184 mw_19 mw_1185 yo_X12_lesser rfl rfl (Nat.le_of_ble_eq_true rfl) ⟨by decide, by decide⟩ ⟨rfl, rfl⟩ dX12_waysOf_126 ⟨by decide, by decide⟩ ?_
      obtain ⟨h129, q129, e⟩ := ob e
      refine g_iast o dX12_waysOf_129 q129 ?_
      refine g_iinc (k := 3) (v := (v5 + 1)) [(5, .int (v5 + 1)), (2, .ref v2), (3, .int v3), (4, .int v4)] o dX12_waysOf_130 rfl rfl (by decide) rfl ?_
      refine g_goto 85 o dX12_waysOf_133 (by decide) ?_
      refine g_sb [1, 2, 3, 0] rfl ?_
      exact ih v2 v3 v4 (v5 + 1) h129 hz q e
set_option maxRecDepth 100000 in
set_option maxHeartbeats 4000000 in
theorem kX12_waysOf_75 {X : Cx} (f0 : Nat) (g66 : Nat → Int32 → Hp → Option (Hp)) (i66 : ∀ (v22 : Nat) (v32 : Int32) (h2 : Hp) (hz : Hp), Rt X none hz 0 0 → g66 v22 v32 h2 = some hz → G X 6 66 [(2, .ref v22), (3, .int v32)] [] h2 0 0) (o : Ok X cX12_waysOf RX12 6 rmX12_waysOf none) (f : Nat) (v2 : Nat) (v3 : Int32) (v4 : Int32) (h : Hp) (hz : Hp) (q : Rt X none hz 0 0) (e : bX12_waysOf_75 f0 g66 f v2 v3 v4 h = some hz) : G X 6 75 [(2, .ref v2), (3, .int v3), (4, .int v4)] [] h 0 0 := by
  induction f generalizing v2 v3 v4 h hz with
  | zero => cases e
  | succ f1 ih =>
    unfold bX12_waysOf_75 at e
    refine g_iload 2 o dX12_waysOf_75 rfl ?_
    refine g_bipush (v := 8) o dX12_waysOf_77 (by decide) ?_
    refine g_icmp_ge (x := v4) (y := 8) 142 o dX12_waysOf_79 (by decide) (fun u => ?_) (fun u => ?_)
    · rw [if_pos u] at e
      refine g_iinc (k := 1) (v := (v3 + 1)) [(3, .int (v3 + 1)), (2, .ref v2), (4, .int v4)] o dX12_waysOf_142 rfl rfl (by decide) rfl ?_
      refine g_goto 66 o dX12_waysOf_145 (by decide) ?_
      refine g_sb [1, 0] rfl ?_
      exact i66 v2 (v3 + 1) h hz q e
    · rw [if_neg u] at e
      refine g_iconst (v := 0) o dX12_waysOf_82 (by decide) ?_
      refine g_istore [(5, .int 0), (2, .ref v2), (3, .int v3), (4, .int v4)] o dX12_waysOf_83 (by decide) rfl ?_
      refine g_sb [1, 2, 3, 0] rfl ?_
      exact kX12_waysOf_85 f0 g66 (bX12_waysOf_75 f0 g66 f1) i66 ih o f0 v2 v3 v4 0 h hz q e
set_option maxRecDepth 100000 in
set_option maxHeartbeats 4000000 in
theorem kX12_waysOf_66 {X : Cx} (f0 : Nat) (o : Ok X cX12_waysOf RX12 6 rmX12_waysOf none) (f : Nat) (v2 : Nat) (v3 : Int32) (h : Hp) (hz : Hp) (q : Rt X none hz 0 0) (e : bX12_waysOf_66 f0 f v2 v3 h = some hz) : G X 6 66 [(2, .ref v2), (3, .int v3)] [] h 0 0 := by
  induction f generalizing v2 v3 h hz with
  | zero => cases e
  | succ f1 ih =>
    unfold bX12_waysOf_66 at e
    refine g_iload_n 1 o dX12_waysOf_66 rfl rfl ?_
    refine g_bipush (v := 8) o dX12_waysOf_67 (by decide) ?_
    refine g_icmp_ge (x := v3) (y := 8) 148 o dX12_waysOf_69 (by decide) (fun u => ?_) (fun u => ?_)
    · rw [if_pos u] at e
      exact g_vret o dX12_waysOf_148 (rt_0 q e)
    · rw [if_neg u] at e
      refine g_iconst (v := 0) o dX12_waysOf_72 (by decide) ?_
      refine g_istore [(4, .int 0), (2, .ref v2), (3, .int v3)] o dX12_waysOf_73 (by decide) rfl ?_
      refine g_sb [1, 2, 0] rfl ?_
      exact kX12_waysOf_75 f0 (bX12_waysOf_66 f0 f1) ih o f0 v2 v3 0 h hz q e
set_option maxRecDepth 100000 in
set_option maxHeartbeats 4000000 in
theorem kX12_waysOf_44 {X : Cx} (f0 : Nat) (o : Ok X cX12_waysOf RX12 6 rmX12_waysOf none) (f : Nat) (v2 : Nat) (v3 : Int32) (h : Hp) (hz : Hp) (q : Rt X none hz 0 0) (e : bX12_waysOf_44 f0 f v2 v3 h = some hz) : G X 6 44 [(2, .ref v2), (3, .int v3)] [] h 0 0 := by
  induction f generalizing v2 v3 h hz with
  | zero => cases e
  | succ f1 ih =>
    unfold bX12_waysOf_44 at e
    refine g_iload_n 1 o dX12_waysOf_44 rfl rfl ?_
    refine g_bipush (v := 8) o dX12_waysOf_45 (by decide) ?_
    refine g_icmp_ge (x := v3) (y := 8) 64 o dX12_waysOf_47 (by decide) (fun u => ?_) (fun u => ?_)
    · rw [if_pos u] at e
      refine g_iconst (v := 0) o dX12_waysOf_64 (by decide) ?_
      refine g_istore_n [(3, .int 0), (2, .ref v2)] o dX12_waysOf_65 rfl (by decide) rfl ?_
      refine g_sb [1, 0] rfl ?_
      exact kX12_waysOf_66 f0 o f0 v2 0 h hz q e
    · rw [if_neg u] at e
      refine g_aload_n 0 o dX12_waysOf_50 rfl rfl ?_
      refine g_iload_n 1 o dX12_waysOf_51 rfl rfl ?_
      refine g_iload_n 1 o dX12_waysOf_52 rfl rfl ?_
      obtain ⟨x53, h53, q53, e⟩ := ob2_s e
      refine g_callSv [.int v3, .int v3] o (mX12_cell q53) mw_1180 mw_1181 mw_19 mw_1182 yo_X12_cell rfl rfl (Nat.le_of_ble_eq_true rfl) ⟨by decide, by decide⟩ ⟨rfl, rfl⟩ dX12_waysOf_53 ⟨by decide, by decide⟩ ?_
      refine g_iconst (v := 0) o dX12_waysOf_56 (by decide) ?_
      obtain ⟨h57, q57, e⟩ := ob e
      refine g_iast o dX12_waysOf_57 q57 ?_
      refine g_iinc (k := 1) (v := (v3 + 1)) [(3, .int (v3 + 1)), (2, .ref v2)] o dX12_waysOf_58 rfl rfl (by decide) rfl ?_
      refine g_goto 44 o dX12_waysOf_61 (by decide) ?_
      refine g_sb [1, 0] rfl ?_
      exact ih v2 (v3 + 1) h57 hz q e
set_option maxRecDepth 100000 in
set_option maxHeartbeats 4000000 in
theorem kX12_waysOf_2 {X : Cx} (f0 : Nat) (o : Ok X cX12_waysOf RX12 6 rmX12_waysOf none) (f : Nat) (v0 : Nat) (v1 : Int32) (v2 : Nat) (v3 : Int32) (h : Hp) (hz : Hp) (q : Rt X none hz 0 0) (e : bX12_waysOf_2 f0 f v0 v1 v2 v3 h = some hz) : G X 6 2 [(0, .ref v0), (1, .int v1), (2, .ref v2), (3, .int v3)] [] h 0 0 := by
  induction f generalizing v0 v1 v2 v3 h hz with
  | zero => cases e
  | succ f1 ih =>
    unfold bX12_waysOf_2 at e
    refine g_iload_n 3 o dX12_waysOf_2 rfl rfl ?_
    refine g_bipush (v := 64) o dX12_waysOf_3 (by decide) ?_
    refine g_icmp_ge (x := v3) (y := 64) 42 o dX12_waysOf_5 (by decide) (fun u => ?_) (fun u => ?_)
    · rw [if_pos u] at e
      refine g_iconst (v := 0) o dX12_waysOf_42 (by decide) ?_
      refine g_istore_n [(3, .int 0), (0, .ref v0), (1, .int v1), (2, .ref v2)] o dX12_waysOf_43 rfl (by decide) rfl ?_
      refine g_sb [3, 0] rfl ?_
      exact kX12_waysOf_44 f0 o f0 v2 0 h hz q e
    · rw [if_neg u] at e
      refine g_aload_n 2 o dX12_waysOf_8 rfl rfl ?_
      refine g_iload_n 3 o dX12_waysOf_9 rfl rfl ?_
      refine g_aload_n 0 o dX12_waysOf_10 rfl rfl ?_
      obtain ⟨x11, q11, e⟩ := ob e
      refine g_getN 6 o cf12 (by decide) mw_1192 dX12_waysOf_11 q11 ?_
      refine g_iload_n 1 o dX12_waysOf_14 rfl rfl ?_
      refine g_iload_n 3 o dX12_waysOf_15 rfl rfl ?_
      refine g_iadd (x := v1) (y := v3) o dX12_waysOf_16 ?_
      obtain ⟨x17, q17, e⟩ := ob e
      refine g_iald o dX12_waysOf_17 q17 ?_
      refine g_if_le (x := x17) 32 o dX12_waysOf_18 (by decide) (fun u => ?_) (fun u => ?_)
      · rw [if_pos u] at e
        refine g_ldc_w (v := 1000000) o dX12_waysOf_32 mw_1179 ?_
        exact kX12_waysOf_35 f0 (bX12_waysOf_2 f0 f1) ih o v0 v1 v2 v3 v2 v3 1000000 h hz q e
      · rw [if_neg u] at e
        refine g_aload_n 0 o dX12_waysOf_21 rfl rfl ?_
        obtain ⟨x22, q22, e⟩ := ob e
        refine g_getN 6 o cf12 (by decide) mw_1192 dX12_waysOf_22 q22 ?_
        refine g_iload_n 1 o dX12_waysOf_25 rfl rfl ?_
        refine g_iload_n 3 o dX12_waysOf_26 rfl rfl ?_
        refine g_iadd (x := v1) (y := v3) o dX12_waysOf_27 ?_
        obtain ⟨x28, q28, e⟩ := ob e
        refine g_iald o dX12_waysOf_28 q28 ?_
        refine g_goto 35 o dX12_waysOf_29 (by decide) ?_
        exact kX12_waysOf_35 f0 (bX12_waysOf_2 f0 f1) ih o v0 v1 v2 v3 v2 v3 x28 h hz q e
theorem yo_X12_waysOf : yok yX12_waysOf 2 := ⟨by decide, by decide, by decide +kernel⟩
set_option maxRecDepth 100000 in
set_option maxHeartbeats 4000000 in
theorem mX12_waysOf {l : Launch} {D : va_G} {cy : Nat → ClassId} {f0 : Nat} {a : Nat} {p0 : Int32} {p1 : Nat} {h : Hp} {hz : Hp} (e : fX12_waysOf f0 a p0 p1 h = some hz) : MC l D cy yX12_waysOf cX12_waysOf 6 none rmX12_waysOf [.ref a, .int p0, .ref p1] h none hz := by
  refine mc_of2 (by decide) (Nat.le_of_ble_eq_true rfl) (fun X hl hD hy hin o q => ?_)
  subst hl; subst hD; subst hy
  show G X 6 0 [(0, .ref a), (1, .int p0), (2, .ref p1)] [] h 0 0
  unfold fX12_waysOf at e
  refine g_iconst (v := 0) o dX12_waysOf_0 (by decide) ?_
  refine g_istore_n [(3, .int 0), (0, .ref a), (1, .int p0), (2, .ref p1)] o dX12_waysOf_1 rfl (by decide) rfl ?_
  refine g_sb [1, 2, 3, 0] rfl ?_
  exact kX12_waysOf_2 f0 o f0 a p0 p1 0 h hz q e
set_option maxRecDepth 100000 in
set_option maxHeartbeats 4000000 in
theorem kX12_begins_118 {X : Cx} (f0 : Nat) (g85 : Nat → Int32 → Hp → Option (Hp)) (i85 : ∀ (v02 : Nat) (v12 : Int32) (h2 : Hp) (hz : Hp), Rt X none hz 0 0 → g85 v02 v12 h2 = some hz → G X 2 85 [(0, .ref v02), (1, .int v12)] [] h2 0 0) (o : Ok X cX12_begins RX12 2 rmX12_begins none) (v0 : Nat) (v1 : Int32) (s0 : Nat) (s1 : Int32) (s2 : Int32) (h : Hp) (hz : Hp) (q : Rt X none hz 0 0) (e : bX12_begins_118 f0 g85 v0 v1 s0 s1 s2 h = some hz) : G X 2 118 [(0, .ref v0), (1, .int v1)] [.int s2, .int s1, .ref s0] h 0 0 := by
  unfold bX12_begins_118 at e
  obtain ⟨h118, q118, e⟩ := ob e
  refine g_iast o dX12_begins_118 q118 ?_
  refine g_iinc (k := 1) (v := (v1 + 1)) [(1, .int (v1 + 1)), (0, .ref v0)] o dX12_begins_119 rfl rfl (by decide) rfl ?_
  refine g_goto 85 o dX12_begins_122 (by decide) ?_
  refine g_sb [1, 0] rfl ?_
  exact i85 v0 (v1 + 1) h118 hz q e
set_option maxRecDepth 100000 in
set_option maxHeartbeats 4000000 in
theorem kX12_begins_85 {X : Cx} (f0 : Nat) (o : Ok X cX12_begins RX12 2 rmX12_begins none) (f : Nat) (v0 : Nat) (v1 : Int32) (h : Hp) (hz : Hp) (q : Rt X none hz 0 0) (e : bX12_begins_85 f0 f v0 v1 h = some hz) : G X 2 85 [(0, .ref v0), (1, .int v1)] [] h 0 0 := by
  induction f generalizing v0 v1 h hz with
  | zero => cases e
  | succ f1 ih =>
    unfold bX12_begins_85 at e
    refine g_iload_n 1 o dX12_begins_85 rfl rfl ?_
    refine g_bipush (v := 64) o dX12_begins_86 (by decide) ?_
    refine g_icmp_ge (x := v1) (y := 64) 125 o dX12_begins_88 (by decide) (fun u => ?_) (fun u => ?_)
    · rw [if_pos u] at e
      refine g_aload_n 0 o dX12_begins_125 rfl rfl ?_
      refine g_bipush (v := 8) o dX12_begins_126 (by decide) ?_
      refine g_aload_n 0 o dX12_begins_128 rfl rfl ?_
      obtain ⟨x129, q129, e⟩ := ob e
      refine g_getN 21 o cf12 (by decide) mw_1207 dX12_begins_129 q129 ?_
      obtain ⟨_, k132, e⟩ := ob e
      obtain ⟨h132, q132, e⟩ := ob e
      refine g_callV0 [.int 8, .ref x129] o (mX12_waysOf q132) cf12 (ckO_s k132) mw_1176 mw_1177 mw_1726 mw_19 mw_1178 rfl yo_X12_waysOf rfl rfl (Nat.le_of_ble_eq_true rfl) ⟨by decide, by decide⟩ ⟨rfl, rfl⟩ dX12_begins_132 ⟨by decide, by decide⟩ ?_
      refine g_aload_n 0 o dX12_begins_135 rfl rfl ?_
      refine g_bipush (v := 72) o dX12_begins_136 (by decide) ?_
      refine g_aload_n 0 o dX12_begins_138 rfl rfl ?_
      obtain ⟨x139, q139, e⟩ := ob e
      refine g_getN 22 o cf12 (by decide) mw_1208 dX12_begins_139 q139 ?_
      obtain ⟨_, k142, e⟩ := ob e
      obtain ⟨h142, q142, e⟩ := ob e
      refine g_callV0 [.int 72, .ref x139] o (mX12_waysOf q142) cf12 (ckO_s k142) mw_1176 mw_1177 mw_1726 mw_19 mw_1178 rfl yo_X12_waysOf rfl rfl (Nat.le_of_ble_eq_true rfl) ⟨by decide, by decide⟩ ⟨rfl, rfl⟩ dX12_begins_142 ⟨by decide, by decide⟩ ?_
      exact g_vret o dX12_begins_145 (rt_0 q e)
    · rw [if_neg u] at e
      refine g_aload_n 0 o dX12_begins_91 rfl rfl ?_
      obtain ⟨x92, q92, e⟩ := ob e
      refine g_getN 6 o cf12 (by decide) mw_1192 dX12_begins_92 q92 ?_
      refine g_sipush (v := 336) o dX12_begins_95 (by decide) ?_
      refine g_iload_n 1 o dX12_begins_98 rfl rfl ?_
      refine g_iadd (x := (336 : Int32)) (y := v1) o dX12_begins_99 ?_
      refine g_aload_n 0 o dX12_begins_100 rfl rfl ?_
      obtain ⟨x101, q101, e⟩ := ob e
      refine g_getN 6 o cf12 (by decide) mw_1192 dX12_begins_101 q101 ?_
      refine g_sipush (v := 136) o dX12_begins_104 (by decide) ?_
      refine g_iload_n 1 o dX12_begins_107 rfl rfl ?_
      refine g_iadd (x := (136 : Int32)) (y := v1) o dX12_begins_108 ?_
      obtain ⟨x109, q109, e⟩ := ob e
      refine g_iald o dX12_begins_109 q109 ?_
      refine g_if_le (x := x109) 117 o dX12_begins_110 (by decide) (fun u => ?_) (fun u => ?_)
      · rw [if_pos u] at e
        refine g_iconst (v := 0) o dX12_begins_117 (by decide) ?_
        exact kX12_begins_118 f0 (bX12_begins_85 f0 f1) ih o v0 v1 x92 ((336 : Int32) + v1) 0 h hz q e
      · rw [if_neg u] at e
        refine g_iconst (v := 1) o dX12_begins_113 (by decide) ?_
        refine g_goto 118 o dX12_begins_114 (by decide) ?_
        exact kX12_begins_118 f0 (bX12_begins_85 f0 f1) ih o v0 v1 x92 ((336 : Int32) + v1) 1 h hz q e
set_option maxRecDepth 100000 in
set_option maxHeartbeats 4000000 in
theorem kX12_begins_51 {X : Cx} (f0 : Nat) (o : Ok X cX12_begins RX12 2 rmX12_begins none) (f : Nat) (v0 : Nat) (v1 : Int32) (h : Hp) (hz : Hp) (q : Rt X none hz 0 0) (e : bX12_begins_51 f0 f v0 v1 h = some hz) : G X 2 51 [(0, .ref v0), (1, .int v1)] [] h 0 0 := by
  induction f generalizing v0 v1 h hz with
  | zero => cases e
  | succ f1 ih =>
    unfold bX12_begins_51 at e
    refine g_iload_n 1 o dX12_begins_51 rfl rfl ?_
    refine g_bipush (v := 8) o dX12_begins_52 (by decide) ?_
    refine g_icmp_ge (x := v1) (y := 8) 83 o dX12_begins_54 (by decide) (fun u => ?_) (fun u => ?_)
    · rw [if_pos u] at e
      refine g_iconst (v := 0) o dX12_begins_83 (by decide) ?_
      refine g_istore_n [(1, .int 0), (0, .ref v0)] o dX12_begins_84 rfl (by decide) rfl ?_
      refine g_sb [1, 0] rfl ?_
      exact kX12_begins_85 f0 o f0 v0 0 h hz q e
    · rw [if_neg u] at e
      refine g_aload_n 0 o dX12_begins_57 rfl rfl ?_
      obtain ⟨x58, q58, e⟩ := ob e
      refine g_getN 6 o cf12 (by decide) mw_1192 dX12_begins_58 q58 ?_
      refine g_sipush (v := 328) o dX12_begins_61 (by decide) ?_
      refine g_iload_n 1 o dX12_begins_64 rfl rfl ?_
      refine g_iadd (x := (328 : Int32)) (y := v1) o dX12_begins_65 ?_
      refine g_aload_n 0 o dX12_begins_66 rfl rfl ?_
      obtain ⟨x67, q67, e⟩ := ob e
      refine g_getN 6 o cf12 (by decide) mw_1192 dX12_begins_67 q67 ?_
      refine g_sipush (v := 272) o dX12_begins_70 (by decide) ?_
      refine g_iload_n 1 o dX12_begins_73 rfl rfl ?_
      refine g_iadd (x := (272 : Int32)) (y := v1) o dX12_begins_74 ?_
      obtain ⟨x75, q75, e⟩ := ob e
      refine g_iald o dX12_begins_75 q75 ?_
      obtain ⟨h76, q76, e⟩ := ob e
      refine g_iast o dX12_begins_76 q76 ?_
      refine g_iinc (k := 1) (v := (v1 + 1)) [(1, .int (v1 + 1)), (0, .ref v0)] o dX12_begins_77 rfl rfl (by decide) rfl ?_
      refine g_goto 51 o dX12_begins_80 (by decide) ?_
      refine g_sb [1, 0] rfl ?_
      exact ih v0 (v1 + 1) h76 hz q e
set_option maxRecDepth 100000 in
set_option maxHeartbeats 4000000 in
theorem kX12_begins_48 {X : Cx} (f0 : Nat) (o : Ok X cX12_begins RX12 2 rmX12_begins none) (v0 : Nat) (s0 : Nat) (s1 : Int32) (s2 : Int32) (h : Hp) (hz : Hp) (q : Rt X none hz 0 0) (e : bX12_begins_48 f0 v0 s0 s1 s2 h = some hz) : G X 2 48 [(0, .ref v0)] [.int s2, .int s1, .ref s0] h 0 0 := by
  unfold bX12_begins_48 at e
  obtain ⟨h48, q48, e⟩ := ob e
  refine g_iast o dX12_begins_48 q48 ?_
  refine g_iconst (v := 0) o dX12_begins_49 (by decide) ?_
  refine g_istore_n [(1, .int 0), (0, .ref v0)] o dX12_begins_50 rfl (by decide) rfl ?_
  refine g_sb [1, 0] rfl ?_
  exact kX12_begins_51 f0 o f0 v0 0 h48 hz q e
set_option maxRecDepth 100000 in
set_option maxHeartbeats 4000000 in
theorem kX12_begins_28 {X : Cx} (f0 : Nat) (o : Ok X cX12_begins RX12 2 rmX12_begins none) (v0 : Nat) (s0 : Nat) (s1 : Int32) (s2 : Int32) (h : Hp) (hz : Hp) (q : Rt X none hz 0 0) (e : bX12_begins_28 f0 v0 s0 s1 s2 h = some hz) : G X 2 28 [(0, .ref v0)] [.int s2, .int s1, .ref s0] h 0 0 := by
  unfold bX12_begins_28 at e
  obtain ⟨h28, q28, e⟩ := ob e
  refine g_iast o dX12_begins_28 q28 ?_
  refine g_aload_n 0 o dX12_begins_29 rfl rfl ?_
  obtain ⟨x30, q30, e⟩ := ob e
  refine g_getN 6 o cf12 (by decide) mw_1192 dX12_begins_30 q30 ?_
  refine g_sipush (v := 464) o dX12_begins_33 (by decide) ?_
  refine g_aload_n 0 o dX12_begins_36 rfl rfl ?_
  obtain ⟨_, k37, e⟩ := ob e
  obtain ⟨x37, h37, q37, e⟩ := ob2_s e
  refine g_callVv [] o (mX12_isSea q37) cf12 (ckO_s k37) mw_1173 mw_1174 mw_1725 mw_19 mw_1175 rfl yo_X12_isSea rfl rfl (Nat.le_of_ble_eq_true rfl) ⟨by decide, by decide⟩ ⟨rfl, rfl⟩ dX12_begins_37 ⟨by decide, by decide⟩ ?_
  refine g_if_eq (x := x37) 47 o dX12_begins_40 (by decide) (fun u => ?_) (fun u => ?_)
  · rw [if_pos u] at e
    refine g_iconst (v := 0) o dX12_begins_47 (by decide) ?_
    exact kX12_begins_48 f0 o v0 x30 464 0 h37 hz q e
  · rw [if_neg u] at e
    refine g_iconst (v := 1) o dX12_begins_43 (by decide) ?_
    refine g_goto 48 o dX12_begins_44 (by decide) ?_
    exact kX12_begins_48 f0 o v0 x30 464 1 h37 hz q e
theorem yo_X12_begins : yok yX12_begins 0 := ⟨by decide, by decide, by decide +kernel⟩
set_option maxRecDepth 100000 in
set_option maxHeartbeats 4000000 in
theorem mX12_begins {l : Launch} {D : va_G} {cy : Nat → ClassId} {f0 : Nat} {a : Nat} {h : Hp} {hz : Hp} (e : fX12_begins f0 a h = some hz) : MC l D cy yX12_begins cX12_begins 2 none rmX12_begins [.ref a] h none hz := by
  refine mc_of2 (by decide) (Nat.le_of_ble_eq_true rfl) (fun X hl hD hy hin o q => ?_)
  subst hl; subst hD; subst hy
  show G X 2 0 [(0, .ref a)] [] h 0 0
  unfold fX12_begins at e
  refine g_aload_n 0 o dX12_begins_0 rfl rfl ?_
  obtain ⟨x1, q1, e⟩ := ob e
  refine g_getN 6 o cf12 (by decide) mw_1192 dX12_begins_1 q1 ?_
  refine g_sipush (v := 315) o dX12_begins_4 (by decide) ?_
  refine g_iconst (v := -1) o dX12_begins_7 (by decide) ?_
  obtain ⟨h8, q8, e⟩ := ob e
  refine g_iast o dX12_begins_8 q8 ?_
  refine g_aload_n 0 o dX12_begins_9 rfl rfl ?_
  obtain ⟨x10, q10, e⟩ := ob e
  refine g_getN 6 o cf12 (by decide) mw_1192 dX12_begins_10 q10 ?_
  refine g_sipush (v := 318) o dX12_begins_13 (by decide) ?_
  refine g_aload_n 0 o dX12_begins_16 rfl rfl ?_
  obtain ⟨_, k17, e⟩ := ob e
  obtain ⟨x17, h17, q17, e⟩ := ob2_s e
  refine g_callVv [] o (mX12_isSea q17) cf12 (ckO_s k17) mw_1173 mw_1174 mw_1725 mw_19 mw_1175 rfl yo_X12_isSea rfl rfl (Nat.le_of_ble_eq_true rfl) ⟨by decide, by decide⟩ ⟨rfl, rfl⟩ dX12_begins_17 ⟨by decide, by decide⟩ ?_
  refine g_if_eq (x := x17) 27 o dX12_begins_20 (by decide) (fun u => ?_) (fun u => ?_)
  · rw [if_pos u] at e
    refine g_iconst (v := 0) o dX12_begins_27 (by decide) ?_
    exact kX12_begins_28 f0 o a x10 318 0 h17 hz q e
  · rw [if_neg u] at e
    refine g_iconst (v := 1) o dX12_begins_23 (by decide) ?_
    refine g_goto 28 o dX12_begins_24 (by decide) ?_
    exact kX12_begins_28 f0 o a x10 318 1 h17 hz q e
