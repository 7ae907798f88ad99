theorem yo_J2_length_9d52b : yok yJ2_length_9d52b 1 := ⟨by decide, by decide, by decide +kernel⟩
set_option maxRecDepth 100000 in
set_option maxHeartbeats 4000000 in
theorem mJ2_length_9d52b {l : Launch} {D : va_G} {cy : Nat → ClassId} {f0 : Nat} {p0 : Nat} {h : Hp} {r : Int32} {hz : Hp} (e : fJ2_length_9d52b f0 p0 h = some (r, hz)) : MC l D cy yJ2_length_9d52b cJ2_length_9d52b 1 (some .int) rmJ2_length_9d52b [.ref p0] h (some (.int r)) hz := by
  refine mc_of2 (by decide) (Nat.le_of_ble_eq_true rfl) (fun X hl hD hy hin o q => ?_)
  show G X 1 0 [(0, .ref p0)] [] h 0 0
  unfold fJ2_length_9d52b at e
  refine g_aload_n 0 o dJ2_length_9d52b_0 rfl rfl ?_
  obtain ⟨x1, q1, e⟩ := ob e
  refine g_alen (by decide) o dJ2_length_9d52b_1 q1 ?_
  refine g_iconst (v := 1) o dJ2_length_9d52b_2 (by decide) ?_
  refine g_ishr (x := x1) (y := 1) o dJ2_length_9d52b_3 ?_
  exact g_iret o dJ2_length_9d52b_4 (rt_v q e)
theorem yo_X7_init : yok yX7_init 2 := ⟨by decide, by decide, by decide +kernel⟩
set_option maxRecDepth 100000 in
set_option maxHeartbeats 4000000 in
theorem mX7_init {l : Launch} {D : va_G} {cy : Nat → ClassId} {f0 : Nat} {a : Nat} {p0 : Nat} {p1 : Nat} {h : Hp} {hz : Hp} (e : fX7_init f0 a p0 p1 h = some hz) : MC l D cy yX7_init cX7_init 3 none rmX7_init [.ref a, .ref p0, .ref p1] h none hz := by
  refine mc_of2 (by decide) (Nat.le_of_ble_eq_true rfl) (fun X hl hD hy hin o q => ?_)
  show G X 3 0 [(0, .ref a), (1, .ref p0), (2, .ref p1)] [] h 0 0
  unfold fX7_init at e
  refine g_aload_n 0 o dX7_init_0 rfl rfl ?_
  refine g_objInit o mw_201 mw_33 mw_34 ⟨by decide, Nat.le_of_ble_eq_true rfl⟩ dX7_init_1 ?_
  refine g_aload_n 0 o dX7_init_4 rfl rfl ?_
  refine g_aload_n 1 o dX7_init_5 rfl rfl ?_
  obtain ⟨h6, q6, e⟩ := ob e
  refine g_putF (ty1 := (.object "FalseName$Reader")) 0 o cf7 (by decide) mw_202 rfl hin rfl (by decide +kernel) rfl rfl dX7_init_6 q6 ?_
  refine g_aload_n 0 o dX7_init_9 rfl rfl ?_
  refine g_aload_n 2 o dX7_init_10 rfl rfl ?_
  obtain ⟨h11, q11, e⟩ := ob e
  refine g_putF (ty1 := (.object "FalseName$Sea")) 1 o cf7 (by decide) mw_203 rfl hin rfl (by decide +kernel) rfl rfl dX7_init_11 q11 ?_
  exact g_vret o dX7_init_14 (rt_0 q e)
theorem yo_X9_init : yok yX9_init 3 := ⟨by decide, by decide, by decide +kernel⟩
set_option maxRecDepth 100000 in
set_option maxHeartbeats 4000000 in
theorem mX9_init {l : Launch} {D : va_G} {cy : Nat → ClassId} {f0 : Nat} {a : Nat} {p0 : Nat} {p1 : Nat} {p2 : Nat} {h : Hp} {hz : Hp} (e : fX9_init f0 a p0 p1 p2 h = some hz) : MC l D cy yX9_init cX9_init 4 none rmX9_init [.ref a, .ref p0, .ref p1, .ref p2] h none hz := by
  refine mc_of2 (by decide) (Nat.le_of_ble_eq_true rfl) (fun X hl hD hy hin o q => ?_)
  show G X 4 0 [(0, .ref a), (1, .ref p0), (2, .ref p1), (3, .ref p2)] [] h 0 0
  unfold fX9_init at e
  refine g_aload_n 0 o dX9_init_0 rfl rfl ?_
  refine g_objInit o mw_228 mw_33 mw_34 ⟨by decide, Nat.le_of_ble_eq_true rfl⟩ dX9_init_1 ?_
  refine g_aload_n 0 o dX9_init_4 rfl rfl ?_
  refine g_aload_n 1 o dX9_init_5 rfl rfl ?_
  obtain ⟨h6, q6, e⟩ := ob e
  refine g_putF (ty1 := (.object "FalseName$Reader")) 0 o cf9 (by decide) mw_229 rfl hin rfl (by decide +kernel) rfl rfl dX9_init_6 q6 ?_
  refine g_aload_n 0 o dX9_init_9 rfl rfl ?_
  refine g_aload_n 2 o dX9_init_10 rfl rfl ?_
  obtain ⟨h11, q11, e⟩ := ob e
  refine g_putF (ty1 := (.object "FalseName$NameTable")) 1 o cf9 (by decide) mw_230 rfl hin rfl (by decide +kernel) rfl rfl dX9_init_11 q11 ?_
  refine g_aload_n 0 o dX9_init_14 rfl rfl ?_
  refine g_aload_n 3 o dX9_init_15 rfl rfl ?_
  obtain ⟨h16, q16, e⟩ := ob e
  refine g_putF (ty1 := (.object "FalseName$Sentence")) 2 o cf9 (by decide) mw_231 rfl hin rfl (by decide +kernel) rfl rfl dX9_init_16 q16 ?_
  exact g_vret o dX9_init_19 (rt_0 q e)
theorem yo_X6_isForHer : yok yX6_isForHer 0 := ⟨by decide, by decide, by decide +kernel⟩
set_option maxRecDepth 100000 in
set_option maxHeartbeats 4000000 in
theorem mX6_isForHer {l : Launch} {D : va_G} {cy : Nat → ClassId} {f0 : Nat} {a : Nat} {h : Hp} {r : Int32} {hz : Hp} (e : fX6_isForHer f0 a h = some (r, hz)) : MC l D cy yX6_isForHer cX6_isForHer 1 (some .boolean) rmX6_isForHer [.ref a] h (some (.int r)) hz := by
  refine mc_of2 (by decide) (Nat.le_of_ble_eq_true rfl) (fun X hl hD hy hin o q => ?_)
  show G X 1 0 [(0, .ref a)] [] h 0 0
  unfold fX6_isForHer at e
  refine g_aload_n 0 o dX6_isForHer_0 rfl rfl ?_
  obtain ⟨x1, q1, e⟩ := ob e
  refine g_getN 1 o cf6 (by decide) mw_142 dX6_isForHer_1 q1 ?_
  refine g_iconst (v := 0) o dX6_isForHer_4 (by decide) ?_
  obtain ⟨x5, q5, e⟩ := ob e
  refine g_iald o dX6_isForHer_5 q5 ?_
  refine g_if_le (x := x5) 22 o dX6_isForHer_6 (by decide) (fun u => ?_) (fun u => ?_)
  · rw [if_pos u] at e
    refine g_iconst (v := 0) o dX6_isForHer_22 (by decide) ?_
    exact g_zret o dX6_isForHer_23 (zr_s e).1 (rt_v q (zr_s e).2)
  · rw [if_neg u] at e
    refine g_aload_n 0 o dX6_isForHer_9 rfl rfl ?_
    obtain ⟨x10, q10, e⟩ := ob e
    refine g_getN 1 o cf6 (by decide) mw_142 dX6_isForHer_10 q10 ?_
    refine g_iconst (v := 3) o dX6_isForHer_13 (by decide) ?_
    obtain ⟨x14, q14, e⟩ := ob e
    refine g_iald o dX6_isForHer_14 q14 ?_
    refine g_if_le (x := x14) 22 o dX6_isForHer_15 (by decide) (fun u => ?_) (fun u => ?_)
    · rw [if_pos u] at e
      refine g_iconst (v := 0) o dX6_isForHer_22 (by decide) ?_
      exact g_zret o dX6_isForHer_23 (zr_s e).1 (rt_v q (zr_s e).2)
    · rw [if_neg u] at e
      refine g_iconst (v := 1) o dX6_isForHer_18 (by decide) ?_
      refine g_goto 23 o dX6_isForHer_19 (by decide) ?_
      exact g_zret o dX6_isForHer_23 (zr_s e).1 (rt_v q (zr_s e).2)
set_option maxRecDepth 100000 in
set_option maxHeartbeats 4000000 in
theorem kJ7_fill_53178_5 {X : Cx} (f0 : Nat) (o : Ok X cJ7_fill_53178 RJ7 4 rmJ7_fill_53178 none) (f : Nat) (v0 : Nat) (v1 : Int32) (v2 : Int32) (v3 : Int32) (h : Hp) (hz : Hp) (q : Rt X none hz 0 0) (e : bJ7_fill_53178_5 f0 f v0 v1 v2 v3 h = some hz) : G X 4 5 [(0, .ref v0), (1, .int v1), (2, .int v2), (3, .int v3)] [] h 0 0 := by
  induction f generalizing v0 v1 v2 v3 h hz with
  | zero => cases e
  | succ f1 ih =>
    unfold bJ7_fill_53178_5 at e
    refine g_iload_n 2 o dJ7_fill_53178_5 rfl rfl ?_
    refine g_iload_n 3 o dJ7_fill_53178_6 rfl rfl ?_
    refine g_icmp_ge (x := v2) (y := v3) 20 o dJ7_fill_53178_7 (by decide) (fun u => ?_) (fun u => ?_)
    · rw [if_pos u] at e
      exact g_vret o dJ7_fill_53178_20 (rt_0 q e)
    · rw [if_neg u] at e
      refine g_aload_n 0 o dJ7_fill_53178_10 rfl rfl ?_
      refine g_iload_n 2 o dJ7_fill_53178_11 rfl rfl ?_
      refine g_iload_n 1 o dJ7_fill_53178_12 rfl rfl ?_
      obtain ⟨h13, q13, e⟩ := ob e
      refine g_iast o dJ7_fill_53178_13 q13 ?_
      refine g_iinc (k := 2) (v := (v2 + 1)) [(2, .int (v2 + 1)), (0, .ref v0), (1, .int v1), (3, .int v3)] o dJ7_fill_53178_14 rfl rfl (by decide) rfl ?_
      refine g_goto 5 o dJ7_fill_53178_17 (by decide) ?_
      refine g_sb [1, 2, 0, 3] rfl ?_
      exact ih v0 v1 (v2 + 1) v3 h13 hz q e
theorem yo_J7_fill_53178 : yok yJ7_fill_53178 2 := ⟨by decide, by decide, by decide +kernel⟩
set_option maxRecDepth 100000 in
set_option maxHeartbeats 4000000 in
theorem mJ7_fill_53178 {l : Launch} {D : va_G} {cy : Nat → ClassId} {f0 : Nat} {p0 : Nat} {p1 : Int32} {h : Hp} {hz : Hp} (e : fJ7_fill_53178 f0 p0 p1 h = some hz) : MC l D cy yJ7_fill_53178 cJ7_fill_53178 4 none rmJ7_fill_53178 [.ref p0, .int p1] h none hz := by
  refine mc_of2 (by decide) (Nat.le_of_ble_eq_true rfl) (fun X hl hD hy hin o q => ?_)
  show G X 4 0 [(0, .ref p0), (1, .int p1)] [] h 0 0
  unfold fJ7_fill_53178 at e
  refine g_iconst (v := 0) o dJ7_fill_53178_0 (by decide) ?_
  refine g_istore_n [(2, .int 0), (0, .ref p0), (1, .int p1)] o dJ7_fill_53178_1 rfl (by decide) rfl ?_
  refine g_aload_n 1 o dJ7_fill_53178_2 rfl rfl ?_
  obtain ⟨x3, q3, e⟩ := ob e
  refine g_alen (by decide) o dJ7_fill_53178_3 q3 ?_
  refine g_istore_n [(3, .int x3), (2, .int 0), (0, .ref p0), (1, .int p1)] o dJ7_fill_53178_4 rfl (by decide) rfl ?_
  refine g_sb [2, 3, 1, 0] rfl ?_
  exact kJ7_fill_53178_5 f0 o f0 p0 p1 0 x3 h hz q e
set_option maxRecDepth 100000 in
set_option maxHeartbeats 4000000 in
theorem kX10_tell_2 {X : Cx} (f0 : Nat) (o : Ok X cX10_tell RX10 5 rmX10_tell none) (f : Nat) (v0 : Nat) (v1 : Int32) (v2 : Int32) (v3 : Int32) (h : Hp) (hz : Hp) (q : Rt X none hz 0 0) (e : bX10_tell_2 f0 f v0 v1 v2 v3 h = some hz) : G X 5 2 [(0, .ref v0), (1, .int v1), (2, .int v2), (3, .int v3)] [] h 0 0 := by
  induction f generalizing v0 v1 v2 v3 h hz with
  | zero => cases e
  | succ f1 ih =>
    unfold bX10_tell_2 at e
    refine g_iload_n 3 o dX10_tell_2 rfl rfl ?_
    refine g_aload_n 0 o dX10_tell_3 rfl rfl ?_
    obtain ⟨x4, q4, e⟩ := ob e
    refine g_getN 0 o cf10 (by decide) mw_276 dX10_tell_4 q4 ?_
    obtain ⟨x7, q7, e⟩ := ob e
    refine g_getN 1 o cf6 (by decide) mw_144 dX10_tell_7 q7 ?_
    refine g_iconst (v := 0) o dX10_tell_10 (by decide) ?_
    obtain ⟨x11, q11, e⟩ := ob e
    refine g_iald o dX10_tell_11 q11 ?_
    refine g_icmp_ge (x := v3) (y := x11) 69 o dX10_tell_12 (by decide) (fun u => ?_) (fun u => ?_)
    · rw [if_pos u] at e
      exact g_vret o dX10_tell_69 (rt_0 q e)
    · rw [if_neg u] at e
      refine g_aload_n 0 o dX10_tell_15 rfl rfl ?_
      obtain ⟨x16, q16, e⟩ := ob e
      refine g_getI 1 o cf10 (by decide) mw_278 dX10_tell_16 q16 ?_
      refine g_aload_n 0 o dX10_tell_19 rfl rfl ?_
      obtain ⟨x20, q20, e⟩ := ob e
      refine g_getN 0 o cf10 (by decide) mw_276 dX10_tell_20 q20 ?_
      obtain ⟨x23, q23, e⟩ := ob e
      refine g_getN 12 o cf6 (by decide) mw_181 dX10_tell_23 q23 ?_
      refine g_iload_n 1 o dX10_tell_26 rfl rfl ?_
      refine g_bipush (v := 8) o dX10_tell_27 (by decide) ?_
      refine g_imul (x := v1) (y := 8) o dX10_tell_29 ?_
      refine g_iload_n 3 o dX10_tell_30 rfl rfl ?_
      refine g_iadd (x := (v1 * 8)) (y := v3) o dX10_tell_31 ?_
      obtain ⟨x32, q32, e⟩ := ob e
      refine g_iald o dX10_tell_32 q32 ?_
      refine g_iadd (x := x16) (y := x32) o dX10_tell_33 ?_
      refine g_istore [(4, .int (x16 + x32)), (0, .ref v0), (1, .int v1), (2, .int v2), (3, .int v3)] o dX10_tell_34 (by decide) rfl ?_
      refine g_aload_n 1 o dX10_tell_36 rfl rfl ?_
      obtain ⟨x37, q37, e⟩ := ob e
      refine g_getN 12 o cf10 (by decide) mw_302 dX10_tell_37 q37 ?_
      refine g_iload_n 4 o dX10_tell_40 rfl rfl ?_
      refine g_bipush (v := 8) o dX10_tell_41 (by decide) ?_
      refine g_imul (x := v3) (y := 8) o dX10_tell_43 ?_
      refine g_iload_n 3 o dX10_tell_44 rfl rfl ?_
      refine g_iadd (x := (v3 * 8)) (y := v2) o dX10_tell_45 ?_
      refine g_aload_n 1 o dX10_tell_46 rfl rfl ?_
      obtain ⟨x47, q47, e⟩ := ob e
      refine g_getN 12 o cf10 (by decide) mw_302 dX10_tell_47 q47 ?_
      refine g_iload_n 4 o dX10_tell_50 rfl rfl ?_
      refine g_bipush (v := 8) o dX10_tell_51 (by decide) ?_
      refine g_imul (x := v3) (y := 8) o dX10_tell_53 ?_
      refine g_iload_n 3 o dX10_tell_54 rfl rfl ?_
      refine g_iadd (x := (v3 * 8)) (y := v2) o dX10_tell_55 ?_
      obtain ⟨x56, q56, e⟩ := ob e
      refine g_iald o dX10_tell_56 q56 ?_
      refine g_iload 0 o dX10_tell_57 rfl ?_
      refine g_mmin (x := x56) (y := (x16 + x32)) o mw_361 mw_362 mw_18 mw_363 ⟨by decide, Nat.le_of_ble_eq_true rfl⟩ ⟨by decide, by decide⟩ dX10_tell_59 ?_
      obtain ⟨h62, q62, e⟩ := ob e
      refine g_iast o dX10_tell_62 q62 ?_
      refine g_iinc (k := 4) (v := (v3 + 1)) [(3, .int (v3 + 1)), (4, .int (x16 + x32)), (0, .ref v0), (1, .int v1), (2, .int v2)] o dX10_tell_63 rfl rfl (by decide) rfl ?_
      refine g_goto 2 o dX10_tell_66 (by decide) ?_
      refine g_sb [2, 3, 4, 0] rfl ?_
      exact ih v0 v1 v2 (v3 + 1) h62 hz q e
theorem yo_X10_tell : yok yX10_tell 2 := ⟨by decide, by decide, by decide +kernel⟩
set_option maxRecDepth 100000 in
set_option maxHeartbeats 4000000 in
theorem mX10_tell {l : Launch} {D : va_G} {cy : Nat → ClassId} {f0 : Nat} {a : Nat} {p0 : Int32} {p1 : Int32} {h : Hp} {hz : Hp} (e : fX10_tell f0 a p0 p1 h = some hz) : MC l D cy yX10_tell cX10_tell 5 none rmX10_tell [.ref a, .int p0, .int p1] h none hz := by
  refine mc_of2 (by decide) (Nat.le_of_ble_eq_true rfl) (fun X hl hD hy hin o q => ?_)
  show G X 5 0 [(0, .ref a), (1, .int p0), (2, .int p1)] [] h 0 0
  unfold fX10_tell at e
  refine g_iconst (v := 0) o dX10_tell_0 (by decide) ?_
  refine g_istore_n [(3, .int 0), (0, .ref a), (1, .int p0), (2, .int p1)] o dX10_tell_1 rfl (by decide) rfl ?_
  refine g_sb [1, 2, 3, 0] rfl ?_
  exact kX10_tell_2 f0 o f0 a p0 p1 0 h hz q e
set_option maxRecDepth 100000 in
set_option maxHeartbeats 4000000 in
theorem kX10_start_168 {X : Cx} (f0 : Nat) (g117 : Nat → Int32 → Hp → Option (Hp)) (g132 : Nat → Int32 → Int32 → Hp → Option (Hp)) (i117 : ∀ (v02 : Nat) (v22 : Int32) (h2 : Hp) (hz : Hp), Rt X none hz 0 0 → g117 v02 v22 h2 = some hz → G X 4 117 [(0, .ref v02), (2, .int v22)] [] h2 0 0) (i132 : ∀ (v02 : Nat) (v22 : Int32) (v32 : Int32) (h2 : Hp) (hz : Hp), Rt X none hz 0 0 → g132 v02 v22 v32 h2 = some hz → G X 4 132 [(0, .ref v02), (2, .int v22), (3, .int v32)] [] h2 0 0) (o : Ok X cX10_start RX10 4 rmX10_start none) (v0 : Nat) (v2 : Int32) (v3 : Int32) (h : Hp) (hz : Hp) (q : Rt X none hz 0 0) (e : bX10_start_168 f0 g117 g132 v0 v2 v3 h = some hz) : G X 4 168 [(0, .ref v0), (2, .int v2), (3, .int v3)] [] h 0 0 := by
  unfold bX10_start_168 at e
  refine g_iinc (k := 2) (v := (v3 + 1)) [(3, .int (v3 + 1)), (0, .ref v0), (2, .int v2)] o dX10_start_168 rfl rfl (by decide) rfl ?_
  refine g_goto 132 o dX10_start_171 (by decide) ?_
  refine g_sb [1, 2, 0] rfl ?_
  exact i132 v0 v2 (v3 + 1) h hz q e
set_option maxRecDepth 100000 in
set_option maxHeartbeats 4000000 in
theorem kX10_start_132 {X : Cx} (f0 : Nat) (g117 : Nat → Int32 → Hp → Option (Hp)) (i117 : ∀ (v02 : Nat) (v22 : Int32) (h2 : Hp) (hz : Hp), Rt X none hz 0 0 → g117 v02 v22 h2 = some hz → G X 4 117 [(0, .ref v02), (2, .int v22)] [] h2 0 0) (o : Ok X cX10_start RX10 4 rmX10_start none) (f : Nat) (v0 : Nat) (v2 : Int32) (v3 : Int32) (h : Hp) (hz : Hp) (q : Rt X none hz 0 0) (e : bX10_start_132 f0 g117 f v0 v2 v3 h = some hz) : G X 4 132 [(0, .ref v0), (2, .int v2), (3, .int v3)] [] h 0 0 := by
  induction f generalizing v0 v2 v3 h hz with
  | zero => cases e
  | succ f1 ih =>
    unfold bX10_start_132 at e
    refine g_iload_n 2 o dX10_start_132 rfl rfl ?_
    refine g_aload_n 0 o dX10_start_133 rfl rfl ?_
    obtain ⟨x134, q134, e⟩ := ob e
    refine g_getN 0 o cf10 (by decide) mw_276 dX10_start_134 q134 ?_
    obtain ⟨x137, q137, e⟩ := ob e
    refine g_getN 1 o cf6 (by decide) mw_144 dX10_start_137 q137 ?_
    refine g_iconst (v := 0) o dX10_start_140 (by decide) ?_
    obtain ⟨x141, q141, e⟩ := ob e
    refine g_iald o dX10_start_141 q141 ?_
    refine g_icmp_ge (x := v3) (y := x141) 174 o dX10_start_142 (by decide) (fun u => ?_) (fun u => ?_)
    · rw [if_pos u] at e
      refine g_iinc (k := 1) (v := (v2 + 1)) [(2, .int (v2 + 1)), (0, .ref v0), (3, .int v3)] o dX10_start_174 rfl rfl (by decide) rfl ?_
      refine g_goto 117 o dX10_start_177 (by decide) ?_
      refine g_sb [1, 0] rfl ?_
      exact i117 v0 (v2 + 1) h hz q e
    · rw [if_neg u] at e
      refine g_aload_n 0 o dX10_start_145 rfl rfl ?_
      obtain ⟨x146, q146, e⟩ := ob e
      refine g_getN 0 o cf10 (by decide) mw_276 dX10_start_146 q146 ?_
      obtain ⟨x149, q149, e⟩ := ob e
      refine g_getN 5 o cf6 (by decide) mw_160 dX10_start_149 q149 ?_
      refine g_iload_n 1 o dX10_start_152 rfl rfl ?_
      refine g_bipush (v := 8) o dX10_start_153 (by decide) ?_
      refine g_imul (x := v2) (y := 8) o dX10_start_155 ?_
      refine g_iload_n 2 o dX10_start_156 rfl rfl ?_
      refine g_iadd (x := (v2 * 8)) (y := v3) o dX10_start_157 ?_
      obtain ⟨x158, q158, e⟩ := ob e
      refine g_iald o dX10_start_158 q158 ?_
      refine g_if_le (x := x158) 168 o dX10_start_159 (by decide) (fun u => ?_) (fun u => ?_)
      · rw [if_pos u] at e
        exact kX10_start_168 f0 g117 (bX10_start_132 f0 g117 f1) i117 ih o v0 v2 v3 h hz q e
      · rw [if_neg u] at e
        refine g_aload_n 0 o dX10_start_162 rfl rfl ?_
        refine g_iload_n 2 o dX10_start_163 rfl rfl ?_
        refine g_iload_n 1 o dX10_start_164 rfl rfl ?_
        obtain ⟨_, k165, e⟩ := ob e
        obtain ⟨h165, q165, e⟩ := ob e
        refine g_callV0 [.int v3, .int v2] o (mX10_tell q165) cf10 (ckO_s k165) mw_358 mw_359 mw_1683 mw_13 mw_360 rfl yo_X10_tell rfl rfl (Nat.le_of_ble_eq_true rfl) ⟨by decide, by decide⟩ ⟨rfl, rfl⟩ dX10_start_165 ⟨by decide, by decide⟩ ?_
        exact kX10_start_168 f0 g117 (bX10_start_132 f0 g117 f1) i117 ih o v0 v2 v3 h165 hz q e
set_option maxRecDepth 100000 in
set_option maxHeartbeats 4000000 in
theorem kX10_start_117 {X : Cx} (f0 : Nat) (o : Ok X cX10_start RX10 4 rmX10_start none) (f : Nat) (v0 : Nat) (v2 : Int32) (h : Hp) (hz : Hp) (q : Rt X none hz 0 0) (e : bX10_start_117 f0 f v0 v2 h = some hz) : G X 4 117 [(0, .ref v0), (2, .int v2)] [] h 0 0 := by
  induction f generalizing v0 v2 h hz with
  | zero => cases e
  | succ f1 ih =>
    unfold bX10_start_117 at e
    refine g_iload_n 1 o dX10_start_117 rfl rfl ?_
    refine g_aload_n 0 o dX10_start_118 rfl rfl ?_
    obtain ⟨x119, q119, e⟩ := ob e
    refine g_getN 0 o cf10 (by decide) mw_276 dX10_start_119 q119 ?_
    obtain ⟨x122, q122, e⟩ := ob e
    refine g_getN 1 o cf6 (by decide) mw_144 dX10_start_122 q122 ?_
    refine g_iconst (v := 3) o dX10_start_125 (by decide) ?_
    obtain ⟨x126, q126, e⟩ := ob e
    refine g_iald o dX10_start_126 q126 ?_
    refine g_icmp_ge (x := v2) (y := x126) 180 o dX10_start_127 (by decide) (fun u => ?_) (fun u => ?_)
    · rw [if_pos u] at e
      exact g_vret o dX10_start_180 (rt_0 q e)
    · rw [if_neg u] at e
      refine g_iconst (v := 0) o dX10_start_130 (by decide) ?_
      refine g_istore_n [(3, .int 0), (0, .ref v0), (2, .int v2)] o dX10_start_131 rfl (by decide) rfl ?_
      refine g_sb [1, 2, 0] rfl ?_
      exact kX10_start_132 f0 (bX10_start_117 f0 f1) ih o f0 v0 v2 0 h hz q e
set_option maxRecDepth 100000 in
set_option maxHeartbeats 4000000 in
theorem kX10_start_64 {X : Cx} (f0 : Nat) (o : Ok X cX10_start RX10 4 rmX10_start none) (v0 : Nat) (s0 : Nat) (s1 : Int32) (h : Hp) (hz : Hp) (q : Rt X none hz 0 0) (e : bX10_start_64 f0 v0 s0 s1 h = some hz) : G X 4 64 [(0, .ref v0)] [.int s1, .ref s0] h 0 0 := by
  unfold bX10_start_64 at e
  obtain ⟨h64, q64, e⟩ := ob e
  refine g_put (ty1 := .int) 7 o cf10 (by decide) mw_293 rfl (by decide +kernel) rfl rfl dX10_start_64 q64 ?_
  refine g_aload_n 0 o dX10_start_67 rfl rfl ?_
  refine g_iconst (v := 0) o dX10_start_68 (by decide) ?_
  obtain ⟨h69, q69, e⟩ := ob e
  refine g_put (ty1 := .int) 8 o cf10 (by decide) mw_295 rfl (by decide +kernel) rfl rfl dX10_start_69 q69 ?_
  refine g_aload_n 0 o dX10_start_72 rfl rfl ?_
  obtain ⟨x73, q73, e⟩ := ob e
  refine g_getN 9 o cf10 (by decide) mw_297 dX10_start_73 q73 ?_
  refine g_iconst (v := 0) o dX10_start_76 (by decide) ?_
  obtain ⟨h77, q77, e⟩ := ob e
  refine g_callS0 [.ref x73, .int 0] o (mJ7_fill_53178 q77) mw_351 mw_352 mw_16 mw_353 yo_J7_fill_53178 rfl rfl (Nat.le_of_ble_eq_true rfl) ⟨by decide, by decide⟩ ⟨rfl, rfl⟩ dX10_start_77 ⟨by decide, by decide⟩ ?_
  refine g_aload_n 0 o dX10_start_80 rfl rfl ?_
  obtain ⟨x81, q81, e⟩ := ob e
  refine g_getN 10 o cf10 (by decide) mw_299 dX10_start_81 q81 ?_
  refine g_iconst (v := 0) o dX10_start_84 (by decide) ?_
  obtain ⟨h85, q85, e⟩ := ob e
  refine g_callS0 [.ref x81, .int 0] o (mJ7_fill_53178 q85) mw_351 mw_352 mw_16 mw_353 yo_J7_fill_53178 rfl rfl (Nat.le_of_ble_eq_true rfl) ⟨by decide, by decide⟩ ⟨rfl, rfl⟩ dX10_start_85 ⟨by decide, by decide⟩ ?_
  refine g_aload_n 0 o dX10_start_88 rfl rfl ?_
  obtain ⟨x89, q89, e⟩ := ob e
  refine g_getN 0 o cf10 (by decide) mw_276 dX10_start_89 q89 ?_
  obtain ⟨x92, q92, e⟩ := ob e
  refine g_getN 8 o cf6 (by decide) mw_169 dX10_start_92 q92 ?_
  refine g_iconst (v := 0) o dX10_start_95 (by decide) ?_
  refine g_aload_n 0 o dX10_start_96 rfl rfl ?_
  obtain ⟨x97, q97, e⟩ := ob e
  refine g_getN 11 o cf10 (by decide) mw_300 dX10_start_97 q97 ?_
  refine g_iconst (v := 0) o dX10_start_100 (by decide) ?_
  refine g_bipush (v := 8) o dX10_start_101 (by decide) ?_
  obtain ⟨h103, q103, e⟩ := ob e
  refine g_cpI (t := 1) (ty := FieldType.int) rfl rfl (fun _ => rfl) o mw_354 mw_356 mw_355 mw_17 ⟨by decide, Nat.le_of_ble_eq_true rfl⟩ dX10_start_103 q103 ?_
  refine g_aload_n 0 o dX10_start_106 rfl rfl ?_
  obtain ⟨x107, q107, e⟩ := ob e
  refine g_getN 12 o cf10 (by decide) mw_302 dX10_start_107 q107 ?_
  refine g_ldc (v := 1000000) o dX10_start_110 mw_357 ?_
  obtain ⟨h112, q112, e⟩ := ob e
  refine g_callS0 [.ref x107, .int 1000000] o (mJ7_fill_53178 q112) mw_351 mw_352 mw_16 mw_353 yo_J7_fill_53178 rfl rfl (Nat.le_of_ble_eq_true rfl) ⟨by decide, by decide⟩ ⟨rfl, rfl⟩ dX10_start_112 ⟨by decide, by decide⟩ ?_
  refine g_iconst (v := 0) o dX10_start_115 (by decide) ?_
  refine g_istore_n [(2, .int 0), (0, .ref v0)] o dX10_start_116 rfl (by decide) rfl ?_
  refine g_sb [1, 0] rfl ?_
  exact kX10_start_117 f0 o f0 v0 0 h112 hz q e
set_option maxRecDepth 100000 in
set_option maxHeartbeats 4000000 in
theorem kX10_start_36 {X : Cx} (f0 : Nat) (o : Ok X cX10_start RX10 4 rmX10_start none) (v0 : Nat) (v1 : Int32) (s0 : Nat) (s1 : Int32) (h : Hp) (hz : Hp) (q : Rt X none hz 0 0) (e : bX10_start_36 f0 v0 v1 s0 s1 h = some hz) : G X 4 36 [(0, .ref v0), (1, .int v1)] [.int s1, .ref s0] h 0 0 := by
  unfold bX10_start_36 at e
  obtain ⟨h36, q36, e⟩ := ob e
  refine g_put (ty1 := .int) 3 o cf10 (by decide) mw_284 rfl (by decide +kernel) rfl rfl dX10_start_36 q36 ?_
  refine g_aload_n 0 o dX10_start_39 rfl rfl ?_
  refine g_iconst (v := -1) o dX10_start_40 (by decide) ?_
  obtain ⟨h41, q41, e⟩ := ob e
  refine g_put (ty1 := .int) 4 o cf10 (by decide) mw_286 rfl (by decide +kernel) rfl rfl dX10_start_41 q41 ?_
  refine g_aload_n 0 o dX10_start_44 rfl rfl ?_
  refine g_iconst (v := 0) o dX10_start_45 (by decide) ?_
  obtain ⟨h46, q46, e⟩ := ob e
  refine g_put (ty1 := .int) 5 o cf10 (by decide) mw_288 rfl (by decide +kernel) rfl rfl dX10_start_46 q46 ?_
  refine g_aload_n 0 o dX10_start_49 rfl rfl ?_
  refine g_iconst (v := 0) o dX10_start_50 (by decide) ?_
  obtain ⟨h51, q51, e⟩ := ob e
  refine g_put (ty1 := .boolean) 6 o cf10 (by decide) mw_290 rfl (by decide +kernel) (nar_z (pfZ_s q51).1).1 (nar_z (pfZ_s q51).1).2 dX10_start_51 (pfZ_s q51).2 ?_
  refine g_aload_n 0 o dX10_start_54 rfl rfl ?_
  refine g_iload_n 1 o dX10_start_55 rfl rfl ?_
  refine g_if_eq (x := v1) 63 o dX10_start_56 (by decide) (fun u => ?_) (fun u => ?_)
  · rw [if_pos u] at e
    refine g_iconst (v := 0) o dX10_start_63 (by decide) ?_
    refine g_sb [0] rfl ?_
    exact kX10_start_64 f0 o v0 v0 0 h51 hz q e
  · rw [if_neg u] at e
    refine g_iconst (v := 1) o dX10_start_59 (by decide) ?_
    refine g_goto 64 o dX10_start_60 (by decide) ?_
    refine g_sb [0] rfl ?_
    exact kX10_start_64 f0 o v0 v0 1 h51 hz q e
set_option maxRecDepth 100000 in
set_option maxHeartbeats 4000000 in
theorem kX10_start_23 {X : Cx} (f0 : Nat) (o : Ok X cX10_start RX10 4 rmX10_start none) (v0 : Nat) (v1 : Int32) (s0 : Nat) (s1 : Int32) (h : Hp) (hz : Hp) (q : Rt X none hz 0 0) (e : bX10_start_23 f0 v0 v1 s0 s1 h = some hz) : G X 4 23 [(0, .ref v0), (1, .int v1)] [.int s1, .ref s0] h 0 0 := by
  unfold bX10_start_23 at e
  obtain ⟨h23, q23, e⟩ := ob e
  refine g_put (ty1 := .int) 2 o cf10 (by decide) mw_281 rfl (by decide +kernel) rfl rfl dX10_start_23 q23 ?_
  refine g_aload_n 0 o dX10_start_26 rfl rfl ?_
  refine g_iload_n 1 o dX10_start_27 rfl rfl ?_
  refine g_if_eq (x := v1) 35 o dX10_start_28 (by decide) (fun u => ?_) (fun u => ?_)
  · rw [if_pos u] at e
    refine g_iconst (v := -1) o dX10_start_35 (by decide) ?_
    exact kX10_start_36 f0 o v0 v1 v0 (-1) h23 hz q e
  · rw [if_neg u] at e
    refine g_iconst (v := 0) o dX10_start_31 (by decide) ?_
    refine g_goto 36 o dX10_start_32 (by decide) ?_
    exact kX10_start_36 f0 o v0 v1 v0 0 h23 hz q e
theorem yo_X10_start : yok yX10_start 0 := ⟨by decide, by decide, by decide +kernel⟩
set_option maxRecDepth 100000 in
set_option maxHeartbeats 4000000 in
theorem mX10_start {l : Launch} {D : va_G} {cy : Nat → ClassId} {f0 : Nat} {a : Nat} {h : Hp} {hz : Hp} (e : fX10_start f0 a h = some hz) : MC l D cy yX10_start cX10_start 4 none rmX10_start [.ref a] h none hz := by
  refine mc_of2 (by decide) (Nat.le_of_ble_eq_true rfl) (fun X hl hD hy hin o q => ?_)
  show G X 4 0 [(0, .ref a)] [] h 0 0
  unfold fX10_start at e
  refine g_aload_n 0 o dX10_start_0 rfl rfl ?_
  obtain ⟨x1, q1, e⟩ := ob e
  refine g_getN 0 o cf10 (by decide) mw_276 dX10_start_1 q1 ?_
  obtain ⟨_, k4, e⟩ := ob e
  obtain ⟨x4, h4, q4, e⟩ := ob2_s e
  refine g_callVv [] o (mX6_isForHer q4) cf6 (ckO_s k4) mw_347 mw_348 mw_349 mw_7 mw_350 rfl yo_X6_isForHer rfl rfl (Nat.le_of_ble_eq_true rfl) ⟨by decide, by decide⟩ ⟨rfl, rfl⟩ dX10_start_4 ⟨by decide, by decide⟩ ?_
  refine g_istore_n [(1, .int x4), (0, .ref a)] o dX10_start_7 rfl (by decide) rfl ?_
  refine g_aload_n 1 o dX10_start_8 rfl rfl ?_
  refine g_iconst (v := 0) o dX10_start_9 (by decide) ?_
  obtain ⟨h10, q10, e⟩ := ob e
  refine g_put (ty1 := .int) 1 o cf10 (by decide) mw_278 rfl (by decide +kernel) rfl rfl dX10_start_10 q10 ?_
  refine g_aload_n 1 o dX10_start_13 rfl rfl ?_
  refine g_iload_n 0 o dX10_start_14 rfl rfl ?_
  refine g_if_eq (x := x4) 22 o dX10_start_15 (by decide) (fun u => ?_) (fun u => ?_)
  · rw [if_pos u] at e
    refine g_iconst (v := -1) o dX10_start_22 (by decide) ?_
    refine g_sb [1, 0] rfl ?_
    exact kX10_start_23 f0 o a x4 a (-1) h10 hz q e
  · rw [if_neg u] at e
    refine g_iconst (v := 0) o dX10_start_18 (by decide) ?_
    refine g_goto 23 o dX10_start_19 (by decide) ?_
    refine g_sb [1, 0] rfl ?_
    exact kX10_start_23 f0 o a x4 a 0 h10 hz q e
set_option maxRecDepth 100000 in
set_option maxHeartbeats 4000000 in
theorem kX11_putBytes_3 {X : Cx} (f0 : Nat) (o : Ok X cX11_putBytes RX11 3 rmX11_putBytes none) (f : Nat) (v0 : Nat) (v1 : Int32) (v2 : Int32) (h : Hp) (hz : Hp) (q : Rt X none hz 0 0) (e : bX11_putBytes_3 f0 f v0 v1 v2 h = some hz) : G X 3 3 [(0, .ref v0), (1, .int v1), (2, .int v2)] [] h 0 0 := by
  induction f generalizing v0 v1 v2 h hz with
  | zero => cases e
  | succ f1 ih =>
    unfold bX11_putBytes_3 at e
    refine g_iload_n 2 o dX11_putBytes_3 rfl rfl ?_
    refine g_if_lt (x := v2) 46 o dX11_putBytes_4 (by decide) (fun u => ?_) (fun u => ?_)
    · rw [if_pos u] at e
      exact g_vret o dX11_putBytes_46 (rt_0 q e)
    · rw [if_neg u] at e
      refine g_aload_n 0 o dX11_putBytes_7 rfl rfl ?_
      obtain ⟨x8, q8, e⟩ := ob e
      refine g_getI 1 o cf11 (by decide) mw_365 dX11_putBytes_8 q8 ?_
      refine g_sipush (v := 940) o dX11_putBytes_11 (by decide) ?_
      refine g_icmp_ge (x := x8) (y := 940) 46 o dX11_putBytes_14 (by decide) (fun u => ?_) (fun u => ?_)
      · rw [if_pos u] at e
        exact g_vret o dX11_putBytes_46 (rt_0 q e)
      · rw [if_neg u] at e
        refine g_aload_n 0 o dX11_putBytes_17 rfl rfl ?_
        obtain ⟨x18, q18, e⟩ := ob e
        refine g_getN 0 o cf11 (by decide) mw_364 dX11_putBytes_18 q18 ?_
        refine g_aload_n 0 o dX11_putBytes_21 rfl rfl ?_
        obtain ⟨x22, q22, e⟩ := ob e
        refine g_getI 1 o cf11 (by decide) mw_365 dX11_putBytes_22 q22 ?_
        refine g_iload_n 1 o dX11_putBytes_25 rfl rfl ?_
        refine g_iload_n 2 o dX11_putBytes_26 rfl rfl ?_
        refine g_iushr (x := v1) (y := v2) o dX11_putBytes_27 ?_
        refine g_i2b (x := ((Int32.toUInt32 v1 >>> (Int32.toUInt32 v2 &&& Int32.toUInt32 31)).toInt32)) o dX11_putBytes_28 ?_
        obtain ⟨h29, q29, e⟩ := ob e
        refine g_bast o dX11_putBytes_29 q29 ?_
        refine g_aload_n 0 o dX11_putBytes_30 rfl rfl ?_
        refine g_dup o dX11_putBytes_31 rfl ?_
        obtain ⟨x32, q32, e⟩ := ob e
        refine g_getI 1 o cf11 (by decide) mw_365 dX11_putBytes_32 q32 ?_
        refine g_iconst (v := 1) o dX11_putBytes_35 (by decide) ?_
        refine g_iadd (x := x32) (y := 1) o dX11_putBytes_36 ?_
        obtain ⟨h37, q37, e⟩ := ob e
        refine g_put (ty1 := .int) 1 o cf11 (by decide) mw_365 rfl (by decide +kernel) rfl rfl dX11_putBytes_37 q37 ?_
        refine g_iinc (k := 2) (v := (v2 + (-8))) [(2, .int (v2 + (-8))), (0, .ref v0), (1, .int v1)] o dX11_putBytes_40 rfl rfl (by decide) rfl ?_
        refine g_goto 3 o dX11_putBytes_43 (by decide) ?_
        refine g_sb [1, 2, 0] rfl ?_
        exact ih v0 v1 (v2 + (-8)) h37 hz q e
theorem yo_X11_putBytes : yok yX11_putBytes 1 := ⟨by decide, by decide, by decide +kernel⟩
set_option maxRecDepth 100000 in
set_option maxHeartbeats 4000000 in
theorem mX11_putBytes {l : Launch} {D : va_G} {cy : Nat → ClassId} {f0 : Nat} {a : Nat} {p0 : Int32} {h : Hp} {hz : Hp} (e : fX11_putBytes f0 a p0 h = some hz) : MC l D cy yX11_putBytes cX11_putBytes 3 none rmX11_putBytes [.ref a, .int p0] h none hz := by
  refine mc_of2 (by decide) (Nat.le_of_ble_eq_true rfl) (fun X hl hD hy hin o q => ?_)
  show G X 3 0 [(0, .ref a), (1, .int p0)] [] h 0 0
  unfold fX11_putBytes at e
  refine g_bipush (v := 24) o dX11_putBytes_0 (by decide) ?_
  refine g_istore_n [(2, .int 24), (0, .ref a), (1, .int p0)] o dX11_putBytes_2 rfl (by decide) rfl ?_
  refine g_sb [1, 2, 0] rfl ?_
  exact kX11_putBytes_3 f0 o f0 a p0 24 h hz q e
theorem yo_X11_feed : yok yX11_feed 5 := ⟨by decide, by decide, by decide +kernel⟩
set_option maxRecDepth 100000 in
set_option maxHeartbeats 4000000 in
theorem mX11_feed {l : Launch} {D : va_G} {cy : Nat → ClassId} {f0 : Nat} {a : Nat} {p0 : Int32} {p1 : Int32} {p2 : Int32} {p3 : Int32} {p4 : Int32} {h : Hp} {r : Int32} {hz : Hp} (e : fX11_feed f0 a p0 p1 p2 p3 p4 h = some (r, hz)) : MC l D cy yX11_feed cX11_feed 6 (some .int) rmX11_feed [.ref a, .int p0, .int p1, .int p2, .int p3, .int p4] h (some (.int r)) hz := by
  refine mc_of2 (by decide) (Nat.le_of_ble_eq_true rfl) (fun X hl hD hy hin o q => ?_)
  show G X 6 0 [(0, .ref a), (1, .int p0), (2, .int p1), (3, .int p2), (4, .int p3), (5, .int p4)] [] h 0 0
  unfold fX11_feed at e
  refine g_aload_n 0 o dX11_feed_0 rfl rfl ?_
  obtain ⟨x1, q1, e⟩ := ob e
  refine g_getI 1 o cf11 (by decide) mw_365 dX11_feed_1 q1 ?_
  refine g_bipush (v := 20) o dX11_feed_4 (by decide) ?_
  refine g_iadd (x := x1) (y := 20) o dX11_feed_6 ?_
  refine g_sipush (v := 940) o dX11_feed_7 (by decide) ?_
  refine g_icmp_le (x := (x1 + 20)) (y := 940) 15 o dX11_feed_10 (by decide) (fun u => ?_) (fun u => ?_)
  · rw [if_pos u] at e
    refine g_aload_n 0 o dX11_feed_15 rfl rfl ?_
    refine g_iload_n 1 o dX11_feed_16 rfl rfl ?_
    obtain ⟨_, k17, e⟩ := ob e
    obtain ⟨h17, q17, e⟩ := ob e
    refine g_callV0 [.int p0] o (mX11_putBytes q17) cf11 (ckO_s k17) mw_404 mw_405 mw_1684 mw_1 mw_406 rfl yo_X11_putBytes rfl rfl (Nat.le_of_ble_eq_true rfl) ⟨by decide, by decide⟩ ⟨rfl, rfl⟩ dX11_feed_17 ⟨by decide, by decide⟩ ?_
    refine g_aload_n 0 o dX11_feed_20 rfl rfl ?_
    refine g_iload_n 2 o dX11_feed_21 rfl rfl ?_
    obtain ⟨_, k22, e⟩ := ob e
    obtain ⟨h22, q22, e⟩ := ob e
    refine g_callV0 [.int p1] o (mX11_putBytes q22) cf11 (ckO_s k22) mw_404 mw_405 mw_1684 mw_1 mw_406 rfl yo_X11_putBytes rfl rfl (Nat.le_of_ble_eq_true rfl) ⟨by decide, by decide⟩ ⟨rfl, rfl⟩ dX11_feed_22 ⟨by decide, by decide⟩ ?_
    refine g_aload_n 0 o dX11_feed_25 rfl rfl ?_
    refine g_iload_n 3 o dX11_feed_26 rfl rfl ?_
    obtain ⟨_, k27, e⟩ := ob e
    obtain ⟨h27, q27, e⟩ := ob e
    refine g_callV0 [.int p2] o (mX11_putBytes q27) cf11 (ckO_s k27) mw_404 mw_405 mw_1684 mw_1 mw_406 rfl yo_X11_putBytes rfl rfl (Nat.le_of_ble_eq_true rfl) ⟨by decide, by decide⟩ ⟨rfl, rfl⟩ dX11_feed_27 ⟨by decide, by decide⟩ ?_
    refine g_aload_n 0 o dX11_feed_30 rfl rfl ?_
    refine g_iload 4 o dX11_feed_31 rfl ?_
    obtain ⟨_, k33, e⟩ := ob e
    obtain ⟨h33, q33, e⟩ := ob e
    refine g_callV0 [.int p3] o (mX11_putBytes q33) cf11 (ckO_s k33) mw_404 mw_405 mw_1684 mw_1 mw_406 rfl yo_X11_putBytes rfl rfl (Nat.le_of_ble_eq_true rfl) ⟨by decide, by decide⟩ ⟨rfl, rfl⟩ dX11_feed_33 ⟨by decide, by decide⟩ ?_
    refine g_aload_n 0 o dX11_feed_36 rfl rfl ?_
    refine g_iload 5 o dX11_feed_37 rfl ?_
    obtain ⟨_, k39, e⟩ := ob e
    obtain ⟨h39, q39, e⟩ := ob e
    refine g_callV0 [.int p4] o (mX11_putBytes q39) cf11 (ckO_s k39) mw_404 mw_405 mw_1684 mw_1 mw_406 rfl yo_X11_putBytes rfl rfl (Nat.le_of_ble_eq_true rfl) ⟨by decide, by decide⟩ ⟨rfl, rfl⟩ dX11_feed_39 ⟨by decide, by decide⟩ ?_
    refine g_aload_n 0 o dX11_feed_42 rfl rfl ?_
    obtain ⟨x43, q43, e⟩ := ob e
    refine g_getI 1 o cf11 (by decide) mw_365 dX11_feed_43 q43 ?_
    exact g_iret o dX11_feed_46 (rt_v q e)
  · rw [if_neg u] at e
    refine g_iconst (v := -1) o dX11_feed_13 (by decide) ?_
    exact g_iret o dX11_feed_14 (rt_v q e)
theorem yo_X11_end : yok yX11_end 1 := ⟨by decide, by decide, by decide +kernel⟩
set_option maxRecDepth 100000 in
set_option maxHeartbeats 4000000 in
theorem mX11_end {l : Launch} {D : va_G} {cy : Nat → ClassId} {f0 : Nat} {a : Nat} {p0 : Int32} {h : Hp} {r : Int32} {hz : Hp} (e : fX11_end f0 a p0 h = some (r, hz)) : MC l D cy yX11_end cX11_end 2 (some .boolean) rmX11_end [.ref a, .int p0] h (some (.int r)) hz := by
  refine mc_of2 (by decide) (Nat.le_of_ble_eq_true rfl) (fun X hl hD hy hin o q => ?_)
  show G X 2 0 [(0, .ref a), (1, .int p0)] [] h 0 0
  unfold fX11_end at e
  refine g_iload_n 1 o dX11_end_0 rfl rfl ?_
  refine g_if_lt (x := p0) 12 o dX11_end_1 (by decide) (fun u => ?_) (fun u => ?_)
  · rw [if_pos u] at e
    refine g_iconst (v := 0) o dX11_end_12 (by decide) ?_
    exact g_zret o dX11_end_13 (zr_s e).1 (rt_v q (zr_s e).2)
  · rw [if_neg u] at e
    refine g_iload_n 1 o dX11_end_4 rfl rfl ?_
    refine g_aload_n 0 o dX11_end_5 rfl rfl ?_
    obtain ⟨x6, q6, e⟩ := ob e
    refine g_getI 1 o cf11 (by decide) mw_365 dX11_end_6 q6 ?_
    refine g_icmp_le (x := p0) (y := x6) 14 o dX11_end_9 (by decide) (fun u => ?_) (fun u => ?_)
    · rw [if_pos u] at e
      refine g_aload_n 0 o dX11_end_14 rfl rfl ?_
      refine g_iload_n 1 o dX11_end_15 rfl rfl ?_
      obtain ⟨h16, q16, e⟩ := ob e
      refine g_put (ty1 := .int) 1 o cf11 (by decide) mw_365 rfl (by decide +kernel) rfl rfl dX11_end_16 q16 ?_
      refine g_iconst (v := 1) o dX11_end_19 (by decide) ?_
      exact g_zret o dX11_end_20 (zr_s e).1 (rt_v q (zr_s e).2)
    · rw [if_neg u] at e
      refine g_iconst (v := 0) o dX11_end_12 (by decide) ?_
      exact g_zret o dX11_end_13 (zr_s e).1 (rt_v q (zr_s e).2)
theorem yo_X11_takeTape : yok yX11_takeTape 0 := ⟨by decide, by decide, by decide +kernel⟩
set_option maxRecDepth 100000 in
set_option maxHeartbeats 4000000 in
theorem mX11_takeTape {l : Launch} {D : va_G} {cy : Nat → ClassId} {f0 : Nat} {a : Nat} {h : Hp} {r : Int32} {hz : Hp} (e : fX11_takeTape f0 a h = some (r, hz)) : MC l D cy yX11_takeTape cX11_takeTape 2 (some .int) rmX11_takeTape [.ref a] h (some (.int r)) hz := by
  refine mc_of2 (by decide) (Nat.le_of_ble_eq_true rfl) (fun X hl hD hy hin o q => ?_)
  show G X 2 0 [(0, .ref a)] [] h 0 0
  unfold fX11_takeTape at e
  refine g_aload_n 0 o dX11_takeTape_0 rfl rfl ?_
  obtain ⟨x1, q1, e⟩ := ob e
  refine g_getI 1 o cf11 (by decide) mw_365 dX11_takeTape_1 q1 ?_
  refine g_istore_n [(1, .int x1), (0, .ref a)] o dX11_takeTape_4 rfl (by decide) rfl ?_
  refine g_aload_n 1 o dX11_takeTape_5 rfl rfl ?_
  refine g_iconst (v := 0) o dX11_takeTape_6 (by decide) ?_
  obtain ⟨h7, q7, e⟩ := ob e
  refine g_put (ty1 := .int) 1 o cf11 (by decide) mw_365 rfl (by decide +kernel) rfl rfl dX11_takeTape_7 q7 ?_
  refine g_iload_n 0 o dX11_takeTape_10 rfl rfl ?_
  exact g_iret o dX11_takeTape_11 (rt_v q e)
set_option maxRecDepth 100000 in
set_option maxHeartbeats 4000000 in
theorem kX4_readRun_136 {X : Cx} (f0 : Nat) (g15 : Nat → Int32 → Int32 → Hp → Option (Int32 × Hp)) (i15 : ∀ (v02 : Nat) (v12 : Int32) (v22 : Int32) (h2 : Hp) (r : Int32) (hz : Hp), Rt X (some (.int r)) hz 0 0 → g15 v02 v12 v22 h2 = some (r, hz) → G X 4 15 [(0, .ref v02), (1, .int v12), (2, .int v22)] [] h2 0 0) (o : Ok X cX4_readRun RX4 4 rmX4_readRun (some .int)) (v0 : Nat) (v1 : Int32) (v2 : Int32) (h : Hp) (r : Int32) (hz : Hp) (q : Rt X (some (.int r)) hz 0 0) (e : bX4_readRun_136 f0 g15 v0 v1 v2 h = some (r, hz)) : G X 4 136 [(0, .ref v0), (1, .int v1), (2, .int v2)] [] h 0 0 := by
  unfold bX4_readRun_136 at e
  refine g_aload_n 0 o dX4_readRun_136 rfl rfl ?_
  refine g_dup o dX4_readRun_137 rfl ?_
  obtain ⟨x138, q138, e⟩ := ob e
  refine g_getI 4 o cf4 (by decide) mw_88 dX4_readRun_138 q138 ?_
  refine g_iconst (v := 1) o dX4_readRun_141 (by decide) ?_
  refine g_iadd (x := x138) (y := 1) o dX4_readRun_142 ?_
  obtain ⟨h143, q143, e⟩ := ob e
  refine g_put (ty1 := .int) 4 o cf4 (by decide) mw_88 rfl (by decide +kernel) rfl rfl dX4_readRun_143 q143 ?_
  refine g_goto 15 o dX4_readRun_146 (by decide) ?_
  exact i15 v0 v1 v2 h143 r hz q e
set_option maxRecDepth 100000 in
set_option maxHeartbeats 4000000 in
theorem kX4_readRun_70 {X : Cx} (f0 : Nat) (g15 : Nat → Int32 → Int32 → Hp → Option (Int32 × Hp)) (i15 : ∀ (v02 : Nat) (v12 : Int32) (v22 : Int32) (h2 : Hp) (r : Int32) (hz : Hp), Rt X (some (.int r)) hz 0 0 → g15 v02 v12 v22 h2 = some (r, hz) → G X 4 15 [(0, .ref v02), (1, .int v12), (2, .int v22)] [] h2 0 0) (o : Ok X cX4_readRun RX4 4 rmX4_readRun (some .int)) (v0 : Nat) (v1 : Int32) (v2 : Int32) (s0 : Nat) (s1 : Int64) (s2 : Int64) (h : Hp) (r : Int32) (hz : Hp) (q : Rt X (some (.int r)) hz 0 0) (e : bX4_readRun_70 f0 g15 v0 v1 v2 s0 s1 s2 h = some (r, hz)) : G X 4 70 [(0, .ref v0), (1, .int v1), (2, .int v2)] [.long s2, .long s1, .ref s0] h 0 0 := by
  unfold bX4_readRun_70 at e
  refine g_lor (x := s1) (y := s2) o dX4_readRun_70 ?_
  obtain ⟨h71, q71, e⟩ := ob e
  refine g_put (ty1 := .long) 7 o cf4 (by decide) mw_94 rfl (by decide +kernel) rfl rfl dX4_readRun_71 q71 ?_
  refine g_iinc (k := 2) (v := (v2 + (-5))) [(2, .int (v2 + (-5))), (0, .ref v0), (1, .int v1)] o dX4_readRun_74 rfl rfl (by decide) rfl ?_
  refine g_iinc (k := 2) (v := (v1 + 1)) [(1, .int (v1 + 1)), (2, .int (v2 + (-5))), (0, .ref v0)] o dX4_readRun_77 rfl rfl (by decide) rfl ?_
  refine g_goto 136 o dX4_readRun_80 (by decide) ?_
  refine g_sb [2, 0, 1] rfl ?_
  exact kX4_readRun_136 f0 g15 i15 o v0 (v1 + 1) (v2 + (-5)) h71 r hz q e
set_option maxRecDepth 100000 in
set_option maxHeartbeats 4000000 in
theorem kX4_readRun_128 {X : Cx} (f0 : Nat) (g15 : Nat → Int32 → Int32 → Hp → Option (Int32 × Hp)) (i15 : ∀ (v02 : Nat) (v12 : Int32) (v22 : Int32) (h2 : Hp) (r : Int32) (hz : Hp), Rt X (some (.int r)) hz 0 0 → g15 v02 v12 v22 h2 = some (r, hz) → G X 4 15 [(0, .ref v02), (1, .int v12), (2, .int v22)] [] h2 0 0) (o : Ok X cX4_readRun RX4 4 rmX4_readRun (some .int)) (v0 : Nat) (v1 : Int32) (v2 : Int32) (s0 : Nat) (s1 : Int32) (h : Hp) (r : Int32) (hz : Hp) (q : Rt X (some (.int r)) hz 0 0) (e : bX4_readRun_128 f0 g15 v0 v1 v2 s0 s1 h = some (r, hz)) : G X 4 128 [(0, .ref v0), (1, .int v1), (2, .int v2)] [.int s1, .ref s0] h 0 0 := by
  unfold bX4_readRun_128 at e
  obtain ⟨h128, q128, e⟩ := ob e
  refine g_put (ty1 := .int) 9 o cf4 (by decide) mw_100 rfl (by decide +kernel) rfl rfl dX4_readRun_128 q128 ?_
  refine g_goto 136 o dX4_readRun_131 (by decide) ?_
  exact kX4_readRun_136 f0 g15 i15 o v0 v1 v2 h128 r hz q e
set_option maxRecDepth 100000 in
set_option maxHeartbeats 4000000 in
theorem kX4_readRun_134 {X : Cx} (f0 : Nat) (o : Ok X cX4_readRun RX4 4 rmX4_readRun (some .int)) (v1 : Int32) (h : Hp) (r : Int32) (hz : Hp) (q : Rt X (some (.int r)) hz 0 0) (e : bX4_readRun_134 f0 v1 h = some (r, hz)) : G X 4 134 [(1, .int v1)] [] h 0 0 := by
  unfold bX4_readRun_134 at e
  refine g_iload_n 0 o dX4_readRun_134 rfl rfl ?_
  exact g_iret o dX4_readRun_135 (rt_v q e)
set_option maxRecDepth 100000 in
set_option maxHeartbeats 4000000 in
theorem kX4_readRun_83 {X : Cx} (f0 : Nat) (g15 : Nat → Int32 → Int32 → Hp → Option (Int32 × Hp)) (i15 : ∀ (v02 : Nat) (v12 : Int32) (v22 : Int32) (h2 : Hp) (r : Int32) (hz : Hp), Rt X (some (.int r)) hz 0 0 → g15 v02 v12 v22 h2 = some (r, hz) → G X 4 15 [(0, .ref v02), (1, .int v12), (2, .int v22)] [] h2 0 0) (o : Ok X cX4_readRun RX4 4 rmX4_readRun (some .int)) (v0 : Nat) (v1 : Int32) (v2 : Int32) (v3 : Int32) (h : Hp) (r : Int32) (hz : Hp) (q : Rt X (some (.int r)) hz 0 0) (e : bX4_readRun_83 f0 g15 v0 v1 v2 v3 h = some (r, hz)) : G X 4 83 [(0, .ref v0), (1, .int v1), (2, .int v2), (3, .int v3)] [] h 0 0 := by
  unfold bX4_readRun_83 at e
  refine g_iload_n 3 o dX4_readRun_83 rfl rfl ?_
  refine g_bipush (v := 48) o dX4_readRun_84 (by decide) ?_
  refine g_icmp_lt (x := v3) (y := 48) 134 o dX4_readRun_86 (by decide) (fun u => ?_) (fun u => ?_)
  · rw [if_pos u] at e
    refine g_sb [1] rfl ?_
    exact kX4_readRun_134 f0 o v1 h r hz q e
  · rw [if_neg u] at e
    refine g_iload_n 3 o dX4_readRun_89 rfl rfl ?_
    refine g_bipush (v := 57) o dX4_readRun_90 (by decide) ?_
    refine g_icmp_gt (x := v3) (y := 57) 134 o dX4_readRun_92 (by decide) (fun u => ?_) (fun u => ?_)
    · rw [if_pos u] at e
      refine g_sb [1] rfl ?_
      exact kX4_readRun_134 f0 o v1 h r hz q e
    · rw [if_neg u] at e
      refine g_aload_n 0 o dX4_readRun_95 rfl rfl ?_
      refine g_aload_n 0 o dX4_readRun_96 rfl rfl ?_
      obtain ⟨x97, q97, e⟩ := ob e
      refine g_getI 4 o cf4 (by decide) mw_88 dX4_readRun_97 q97 ?_
      refine g_aload_n 0 o dX4_readRun_100 rfl rfl ?_
      obtain ⟨x101, q101, e⟩ := ob e
      refine g_getI 6 o cf4 (by decide) mw_93 dX4_readRun_101 q101 ?_
      refine g_isub (x := x97) (y := x101) o dX4_readRun_104 ?_
      refine g_iconst (v := 3) o dX4_readRun_105 (by decide) ?_
      refine g_icmp_ge (x := (x97 - x101)) (y := 3) 124 o dX4_readRun_106 (by decide) (fun u => ?_) (fun u => ?_)
      · rw [if_pos u] at e
        refine g_aload_n 0 o dX4_readRun_124 rfl rfl ?_
        obtain ⟨x125, q125, e⟩ := ob e
        refine g_getI 9 o cf4 (by decide) mw_100 dX4_readRun_125 q125 ?_
        refine g_sb [0, 1, 2] rfl ?_
        exact kX4_readRun_128 f0 g15 i15 o v0 v1 v2 v0 x125 h r hz q e
      · rw [if_neg u] at e
        refine g_aload_n 0 o dX4_readRun_109 rfl rfl ?_
        obtain ⟨x110, q110, e⟩ := ob e
        refine g_getI 9 o cf4 (by decide) mw_100 dX4_readRun_110 q110 ?_
        refine g_bipush (v := 10) o dX4_readRun_113 (by decide) ?_
        refine g_imul (x := x110) (y := 10) o dX4_readRun_115 ?_
        refine g_iload_n 3 o dX4_readRun_116 rfl rfl ?_
        refine g_iadd (x := (x110 * 10)) (y := v3) o dX4_readRun_117 ?_
        refine g_bipush (v := 48) o dX4_readRun_118 (by decide) ?_
        refine g_isub (x := ((x110 * 10) + v3)) (y := 48) o dX4_readRun_120 ?_
        refine g_goto 128 o dX4_readRun_121 (by decide) ?_
        refine g_sb [0, 1, 2] rfl ?_
        exact kX4_readRun_128 f0 g15 i15 o v0 v1 v2 v0 (((x110 * 10) + v3) - 48) h r hz q e
set_option maxRecDepth 100000 in
set_option maxHeartbeats 4000000 in
theorem kX4_readRun_15 {X : Cx} (f0 : Nat) (o : Ok X cX4_readRun RX4 4 rmX4_readRun (some .int)) (f : Nat) (v0 : Nat) (v1 : Int32) (v2 : Int32) (h : Hp) (r : Int32) (hz : Hp) (q : Rt X (some (.int r)) hz 0 0) (e : bX4_readRun_15 f0 f v0 v1 v2 h = some (r, hz)) : G X 4 15 [(0, .ref v0), (1, .int v1), (2, .int v2)] [] h 0 0 := by
  induction f generalizing v0 v1 v2 h r hz with
  | zero => cases e
  | succ f1 ih =>
    unfold bX4_readRun_15 at e
    refine g_aload_n 0 o dX4_readRun_15 rfl rfl ?_
    obtain ⟨x16, q16, e⟩ := ob e
    refine g_getI 4 o cf4 (by decide) mw_88 dX4_readRun_16 q16 ?_
    refine g_aload_n 0 o dX4_readRun_19 rfl rfl ?_
    obtain ⟨x20, q20, e⟩ := ob e
    refine g_getI 2 o cf4 (by decide) mw_86 dX4_readRun_20 q20 ?_
    refine g_icmp_ge (x := x16) (y := x20) 149 o dX4_readRun_23 (by decide) (fun u => ?_) (fun u => ?_)
    · rw [if_pos u] at e
      refine g_iload_n 1 o dX4_readRun_149 rfl rfl ?_
      exact g_iret o dX4_readRun_150 (rt_v q e)
    · rw [if_neg u] at e
      refine g_aload_n 0 o dX4_readRun_26 rfl rfl ?_
      obtain ⟨x27, q27, e⟩ := ob e
      refine g_getN 0 o cf4 (by decide) mw_84 dX4_readRun_27 q27 ?_
      refine g_aload_n 0 o dX4_readRun_30 rfl rfl ?_
      obtain ⟨x31, q31, e⟩ := ob e
      refine g_getI 4 o cf4 (by decide) mw_88 dX4_readRun_31 q31 ?_
      obtain ⟨x34, q34, e⟩ := ob e
      refine g_bald o dX4_readRun_34 q34 ?_
      refine g_istore_n [(3, .int x34), (0, .ref v0), (1, .int v1), (2, .int v2)] o dX4_readRun_35 rfl (by decide) rfl ?_
      refine g_iload_n 0 o dX4_readRun_36 rfl rfl ?_
      refine g_bipush (v := 97) o dX4_readRun_37 (by decide) ?_
      refine g_icmp_lt (x := x34) (y := 97) 83 o dX4_readRun_39 (by decide) (fun u => ?_) (fun u => ?_)
      · rw [if_pos u] at e
        refine g_sb [1, 2, 3, 0] rfl ?_
        exact kX4_readRun_83 f0 (bX4_readRun_15 f0 f1) ih o v0 v1 v2 x34 h r hz q e
      · rw [if_neg u] at e
        refine g_iload_n 0 o dX4_readRun_42 rfl rfl ?_
        refine g_bipush (v := 122) o dX4_readRun_43 (by decide) ?_
        refine g_icmp_gt (x := x34) (y := 122) 83 o dX4_readRun_45 (by decide) (fun u => ?_) (fun u => ?_)
        · rw [if_pos u] at e
          refine g_sb [1, 2, 3, 0] rfl ?_
          exact kX4_readRun_83 f0 (bX4_readRun_15 f0 f1) ih o v0 v1 v2 x34 h r hz q e
        · rw [if_neg u] at e
          refine g_aload_n 1 o dX4_readRun_48 rfl rfl ?_
          refine g_dup o dX4_readRun_49 rfl ?_
          obtain ⟨x50, q50, e⟩ := ob e
          refine g_getJ 7 o cf4 (by decide) mw_94 dX4_readRun_50 q50 ?_
          refine g_iload_n 3 o dX4_readRun_53 rfl rfl ?_
          refine g_if_ge (x := v2) 61 o dX4_readRun_54 (by decide) (fun u => ?_) (fun u => ?_)
          · rw [if_pos u] at e
            refine g_iload_n 0 o dX4_readRun_61 rfl rfl ?_
            refine g_bipush (v := 97) o dX4_readRun_62 (by decide) ?_
            refine g_isub (x := x34) (y := 97) o dX4_readRun_64 ?_
            refine g_iconst (v := 1) o dX4_readRun_65 (by decide) ?_
            refine g_iadd (x := (x34 - 97)) (y := 1) o dX4_readRun_66 ?_
            refine g_i2l (x := ((x34 - 97) + 1)) o dX4_readRun_67 ?_
            refine g_iload_n 3 o dX4_readRun_68 rfl rfl ?_
            refine g_lshl (x := (Int32.toInt64 ((x34 - 97) + 1))) (y := v2) o dX4_readRun_69 ?_
            refine g_sb [1, 2, 3] rfl ?_
            exact kX4_readRun_70 f0 (bX4_readRun_15 f0 f1) ih o v0 v1 v2 v0 x50 ((Int32.toInt64 ((x34 - 97) + 1)) <<< (Int32.toInt64 v2 &&& 63)) h r hz q e
          · rw [if_neg u] at e
            refine g_lconst (v := 0) o dX4_readRun_57 (by decide) ?_
            refine g_goto 70 o dX4_readRun_58 (by decide) ?_
            refine g_sb [1, 2, 3] rfl ?_
            exact kX4_readRun_70 f0 (bX4_readRun_15 f0 f1) ih o v0 v1 v2 v0 x50 0 h r hz q e
theorem yo_X4_readRun : yok yX4_readRun 0 := ⟨by decide, by decide, by decide +kernel⟩
set_option maxRecDepth 100000 in
set_option maxHeartbeats 4000000 in
theorem mX4_readRun {l : Launch} {D : va_G} {cy : Nat → ClassId} {f0 : Nat} {a : Nat} {h : Hp} {r : Int32} {hz : Hp} (e : fX4_readRun f0 a h = some (r, hz)) : MC l D cy yX4_readRun cX4_readRun 4 (some .int) rmX4_readRun [.ref a] h (some (.int r)) hz := by
  refine mc_of2 (by decide) (Nat.le_of_ble_eq_true rfl) (fun X hl hD hy hin o q => ?_)
  show G X 4 0 [(0, .ref a)] [] h 0 0
  unfold fX4_readRun at e
  refine g_iconst (v := 0) o dX4_readRun_0 (by decide) ?_
  refine g_istore_n [(1, .int 0), (0, .ref a)] o dX4_readRun_1 rfl (by decide) rfl ?_
  refine g_bipush (v := 30) o dX4_readRun_2 (by decide) ?_
  refine g_istore_n [(2, .int 30), (1, .int 0), (0, .ref a)] o dX4_readRun_4 rfl (by decide) rfl ?_
  refine g_aload_n 2 o dX4_readRun_5 rfl rfl ?_
  refine g_lconst (v := 0) o dX4_readRun_6 (by decide) ?_
  obtain ⟨h7, q7, e⟩ := ob e
  refine g_put (ty1 := .long) 7 o cf4 (by decide) mw_94 rfl (by decide +kernel) rfl rfl dX4_readRun_7 q7 ?_
  refine g_aload_n 2 o dX4_readRun_10 rfl rfl ?_
  refine g_iconst (v := 0) o dX4_readRun_11 (by decide) ?_
  obtain ⟨h12, q12, e⟩ := ob e
  refine g_put (ty1 := .int) 9 o cf4 (by decide) mw_100 rfl (by decide +kernel) rfl rfl dX4_readRun_12 q12 ?_
  refine g_sb [2, 1, 0] rfl ?_
  exact kX4_readRun_15 f0 o f0 a 0 30 h12 r hz q e
theorem yo_J1_canEncode_9a6ad : yok yJ1_canEncode_9a6ad 1 := ⟨by decide, by decide, by decide +kernel⟩
set_option maxRecDepth 100000 in
set_option maxHeartbeats 4000000 in
theorem mJ1_canEncode_9a6ad {l : Launch} {D : va_G} {cy : Nat → ClassId} {f0 : Nat} {p0 : Int32} {h : Hp} {r : Int32} {hz : Hp} (e : fJ1_canEncode_9a6ad f0 p0 h = some (r, hz)) : MC l D cy yJ1_canEncode_9a6ad cJ1_canEncode_9a6ad 1 (some .boolean) rmJ1_canEncode_9a6ad [.int p0] h (some (.int r)) hz := by
  refine mc_of2 (by decide) (Nat.le_of_ble_eq_true rfl) (fun X hl hD hy hin o q => ?_)
  show G X 1 0 [(0, .int p0)] [] h 0 0
  unfold fJ1_canEncode_9a6ad at e
  refine g_iload_n 0 o dJ1_canEncode_9a6ad_0 rfl rfl ?_
  refine g_if_lt (x := p0) 15 o dJ1_canEncode_9a6ad_1 (by decide) (fun u => ?_) (fun u => ?_)
  · rw [if_pos u] at e
    refine g_iconst (v := 0) o dJ1_canEncode_9a6ad_15 (by decide) ?_
    exact g_zret o dJ1_canEncode_9a6ad_16 (zr_s e).1 (rt_v q (zr_s e).2)
  · rw [if_neg u] at e
    refine g_iload_n 0 o dJ1_canEncode_9a6ad_4 rfl rfl ?_
    refine g_sipush (v := 255) o dJ1_canEncode_9a6ad_5 (by decide) ?_
    refine g_icmp_gt (x := p0) (y := 255) 15 o dJ1_canEncode_9a6ad_8 (by decide) (fun u => ?_) (fun u => ?_)
    · rw [if_pos u] at e
      refine g_iconst (v := 0) o dJ1_canEncode_9a6ad_15 (by decide) ?_
      exact g_zret o dJ1_canEncode_9a6ad_16 (zr_s e).1 (rt_v q (zr_s e).2)
    · rw [if_neg u] at e
      refine g_iconst (v := 1) o dJ1_canEncode_9a6ad_11 (by decide) ?_
      refine g_goto 16 o dJ1_canEncode_9a6ad_12 (by decide) ?_
      exact g_zret o dJ1_canEncode_9a6ad_16 (zr_s e).1 (rt_v q (zr_s e).2)
set_option maxRecDepth 100000 in
set_option maxHeartbeats 4000000 in
theorem kJ1_indexOfChar_4cfef_7 {X : Cx} (f0 : Nat) (o : Ok X cJ1_indexOfChar_4cfef RJ1 6 rmJ1_indexOfChar_4cfef (some .int)) (f : Nat) (v0 : Nat) (v3 : Int32) (v4 : Int32) (v5 : Int32) (h : Hp) (r : Int32) (hz : Hp) (q : Rt X (some (.int r)) hz 0 0) (e : bJ1_indexOfChar_4cfef_7 f0 f v0 v3 v4 v5 h = some (r, hz)) : G X 6 7 [(0, .ref v0), (3, .int v3), (4, .int v4), (5, .int v5)] [] h 0 0 := by
  induction f generalizing v0 v3 v4 v5 h r hz with
  | zero => cases e
  | succ f1 ih =>
    unfold bJ1_indexOfChar_4cfef_7 at e
    refine g_iload 3 o dJ1_indexOfChar_4cfef_7 rfl ?_
    refine g_iload_n 1 o dJ1_indexOfChar_4cfef_9 rfl rfl ?_
    refine g_icmp_ge (x := v5) (y := v3) 31 o dJ1_indexOfChar_4cfef_10 (by decide) (fun u => ?_) (fun u => ?_)
    · rw [if_pos u] at e
      refine g_iconst (v := -1) o dJ1_indexOfChar_4cfef_31 (by decide) ?_
      exact g_iret o dJ1_indexOfChar_4cfef_32 (rt_v q e)
    · rw [if_neg u] at e
      refine g_aload_n 0 o dJ1_indexOfChar_4cfef_13 rfl rfl ?_
      refine g_iload 3 o dJ1_indexOfChar_4cfef_14 rfl ?_
      obtain ⟨x16, q16, e⟩ := ob e
      refine g_bald o dJ1_indexOfChar_4cfef_16 q16 ?_
      refine g_iload 2 o dJ1_indexOfChar_4cfef_17 rfl ?_
      refine g_icmp_ne (x := x16) (y := v4) 25 o dJ1_indexOfChar_4cfef_19 (by decide) (fun u => ?_) (fun u => ?_)
      · rw [if_neg u] at e
        refine g_iinc (k := 3) (v := (v5 + 1)) [(5, .int (v5 + 1)), (0, .ref v0), (3, .int v3), (4, .int v4)] o dJ1_indexOfChar_4cfef_25 rfl rfl (by decide) rfl ?_
        refine g_goto 7 o dJ1_indexOfChar_4cfef_28 (by decide) ?_
        refine g_sb [1, 2, 3, 0] rfl ?_
        exact ih v0 v3 v4 (v5 + 1) h r hz q e
      · rw [if_pos u] at e
        refine g_iload 3 o dJ1_indexOfChar_4cfef_22 rfl ?_
        exact g_iret o dJ1_indexOfChar_4cfef_24 (rt_v q e)
theorem yo_J1_indexOfChar_4cfef : yok yJ1_indexOfChar_4cfef 4 := ⟨by decide, by decide, by decide +kernel⟩
set_option maxRecDepth 100000 in
set_option maxHeartbeats 4000000 in
theorem mJ1_indexOfChar_4cfef {l : Launch} {D : va_G} {cy : Nat → ClassId} {f0 : Nat} {p0 : Nat} {p1 : Int32} {p2 : Int32} {p3 : Int32} {h : Hp} {r : Int32} {hz : Hp} (e : fJ1_indexOfChar_4cfef f0 p0 p1 p2 p3 h = some (r, hz)) : MC l D cy yJ1_indexOfChar_4cfef cJ1_indexOfChar_4cfef 6 (some .int) rmJ1_indexOfChar_4cfef [.ref p0, .int p1, .int p2, .int p3] h (some (.int r)) hz := by
  refine mc_of2 (by decide) (Nat.le_of_ble_eq_true rfl) (fun X hl hD hy hin o q => ?_)
  show G X 6 0 [(0, .ref p0), (1, .int p1), (2, .int p2), (3, .int p3)] [] h 0 0
  unfold fJ1_indexOfChar_4cfef at e
  refine g_iload_n 1 o dJ1_indexOfChar_4cfef_0 rfl rfl ?_
  refine g_i2b (x := p1) o dJ1_indexOfChar_4cfef_1 ?_
  refine g_istore [(4, .int ((Int32.toInt8 p1).toInt32)), (0, .ref p0), (1, .int p1), (2, .int p2), (3, .int p3)] o dJ1_indexOfChar_4cfef_2 (by decide) rfl ?_
  refine g_iload_n 3 o dJ1_indexOfChar_4cfef_4 rfl rfl ?_
  refine g_istore [(5, .int p2), (4, .int ((Int32.toInt8 p1).toInt32)), (0, .ref p0), (1, .int p1), (2, .int p2), (3, .int p3)] o dJ1_indexOfChar_4cfef_5 (by decide) rfl ?_
  refine g_sb [2, 5, 1, 0] rfl ?_
  exact kJ1_indexOfChar_4cfef_7 f0 o f0 p0 p3 ((Int32.toInt8 p1).toInt32) p2 h r hz q e
theorem yo_J1_indexOf_4cfef : yok yJ1_indexOf_4cfef 4 := ⟨by decide, by decide, by decide +kernel⟩
set_option maxRecDepth 100000 in
set_option maxHeartbeats 4000000 in
theorem mJ1_indexOf_4cfef {l : Launch} {D : va_G} {cy : Nat → ClassId} {f0 : Nat} {p0 : Nat} {p1 : Int32} {p2 : Int32} {p3 : Int32} {h : Hp} {r : Int32} {hz : Hp} (e : fJ1_indexOf_4cfef f0 p0 p1 p2 p3 h = some (r, hz)) : MC l D cy yJ1_indexOf_4cfef cJ1_indexOf_4cfef 4 (some .int) rmJ1_indexOf_4cfef [.ref p0, .int p1, .int p2, .int p3] h (some (.int r)) hz := by
  refine mc_of2 (by decide) (Nat.le_of_ble_eq_true rfl) (fun X hl hD hy hin o q => ?_)
  show G X 4 0 [(0, .ref p0), (1, .int p1), (2, .int p2), (3, .int p3)] [] h 0 0
  unfold fJ1_indexOf_4cfef at e
  refine g_iload_n 1 o dJ1_indexOf_4cfef_0 rfl rfl ?_
  obtain ⟨x1, h1, q1, e⟩ := ob2_s e
  refine g_callSv [.int p1] o (mJ1_canEncode_9a6ad q1) mw_446 mw_447 mw_4 mw_448 yo_J1_canEncode_9a6ad rfl rfl (Nat.le_of_ble_eq_true rfl) ⟨by decide, by decide⟩ ⟨rfl, rfl⟩ dJ1_indexOf_4cfef_1 ⟨by decide, by decide⟩ ?_
  refine g_if_ne (x := x1) 9 o dJ1_indexOf_4cfef_4 (by decide) (fun u => ?_) (fun u => ?_)
  · rw [if_neg u] at e
    refine g_iload_n 2 o dJ1_indexOf_4cfef_9 rfl rfl ?_
    refine g_iconst (v := 0) o dJ1_indexOf_4cfef_10 (by decide) ?_
    refine g_mmax (x := p2) (y := 0) o mw_449 mw_450 mw_18 mw_451 ⟨by decide, Nat.le_of_ble_eq_true rfl⟩ ⟨by decide, by decide⟩ dJ1_indexOf_4cfef_11 ?_
    refine g_istore_n [(2, .int (if p2 < 0 then 0 else p2)), (0, .ref p0), (1, .int p1), (3, .int p3)] o dJ1_indexOf_4cfef_14 rfl (by decide) rfl ?_
    refine g_iload_n 3 o dJ1_indexOf_4cfef_15 rfl rfl ?_
    refine g_aload_n 1 o dJ1_indexOf_4cfef_16 rfl rfl ?_
    obtain ⟨x17, q17, e⟩ := ob e
    refine g_alen (by decide) o dJ1_indexOf_4cfef_17 q17 ?_
    refine g_mmin (x := p3) (y := x17) o mw_452 mw_362 mw_18 mw_363 ⟨by decide, Nat.le_of_ble_eq_true rfl⟩ ⟨by decide, by decide⟩ dJ1_indexOf_4cfef_18 ?_
    refine g_istore_n [(3, .int (if x17 < p3 then x17 else p3)), (2, .int (if p2 < 0 then 0 else p2)), (0, .ref p0), (1, .int p1)] o dJ1_indexOf_4cfef_21 rfl (by decide) rfl ?_
    refine g_iload_n 1 o dJ1_indexOf_4cfef_22 rfl rfl ?_
    refine g_iload_n 0 o dJ1_indexOf_4cfef_23 rfl rfl ?_
    refine g_icmp_lt (x := (if p2 < 0 then 0 else p2)) (y := (if x17 < p3 then x17 else p3)) 29 o dJ1_indexOf_4cfef_24 (by decide) (fun u => ?_) (fun u => ?_)
    · rw [if_pos u] at e
      refine g_aload_n 2 o dJ1_indexOf_4cfef_29 rfl rfl ?_
      refine g_iload_n 3 o dJ1_indexOf_4cfef_30 rfl rfl ?_
      refine g_iload_n 1 o dJ1_indexOf_4cfef_31 rfl rfl ?_
      refine g_iload_n 0 o dJ1_indexOf_4cfef_32 rfl rfl ?_
      obtain ⟨x33, h33, q33, e⟩ := ob2_s e
      refine g_callSv [.ref p0, .int p1, .int (if p2 < 0 then 0 else p2), .int (if x17 < p3 then x17 else p3)] o (mJ1_indexOfChar_4cfef q33) mw_453 mw_454 mw_4 mw_455 yo_J1_indexOfChar_4cfef rfl rfl (Nat.le_of_ble_eq_true rfl) ⟨by decide, by decide⟩ ⟨rfl, rfl⟩ dJ1_indexOf_4cfef_33 ⟨by decide, by decide⟩ ?_
      exact g_iret o dJ1_indexOf_4cfef_36 (rt_v q e)
    · rw [if_neg u] at e
      refine g_iconst (v := -1) o dJ1_indexOf_4cfef_27 (by decide) ?_
      exact g_iret o dJ1_indexOf_4cfef_28 (rt_v q e)
  · rw [if_pos u] at e
    refine g_iconst (v := -1) o dJ1_indexOf_4cfef_7 (by decide) ?_
    exact g_iret o dJ1_indexOf_4cfef_8 (rt_v q e)
theorem yo_J11_isValidCodePoint_9a6ad : yok yJ11_isValidCodePoint_9a6ad 1 := ⟨by decide, by decide, by decide +kernel⟩
set_option maxRecDepth 100000 in
set_option maxHeartbeats 4000000 in
theorem mJ11_isValidCodePoint_9a6ad {l : Launch} {D : va_G} {cy : Nat → ClassId} {f0 : Nat} {p0 : Int32} {h : Hp} {r : Int32} {hz : Hp} (e : fJ11_isValidCodePoint_9a6ad f0 p0 h = some (r, hz)) : MC l D cy yJ11_isValidCodePoint_9a6ad cJ11_isValidCodePoint_9a6ad 2 (some .boolean) rmJ11_isValidCodePoint_9a6ad [.int p0] h (some (.int r)) hz := by
  refine mc_of2 (by decide) (Nat.le_of_ble_eq_true rfl) (fun X hl hD hy hin o q => ?_)
  show G X 2 0 [(0, .int p0)] [] h 0 0
  unfold fJ11_isValidCodePoint_9a6ad at e
  refine g_iload_n 0 o dJ11_isValidCodePoint_9a6ad_0 rfl rfl ?_
  refine g_bipush (v := 16) o dJ11_isValidCodePoint_9a6ad_1 (by decide) ?_
  refine g_iushr (x := p0) (y := 16) o dJ11_isValidCodePoint_9a6ad_3 ?_
  refine g_istore_n [(1, .int ((Int32.toUInt32 p0 >>> (Int32.toUInt32 16 &&& Int32.toUInt32 31)).toInt32)), (0, .int p0)] o dJ11_isValidCodePoint_9a6ad_4 rfl (by decide) rfl ?_
  refine g_iload_n 0 o dJ11_isValidCodePoint_9a6ad_5 rfl rfl ?_
  refine g_bipush (v := 17) o dJ11_isValidCodePoint_9a6ad_6 (by decide) ?_
  refine g_icmp_ge (x := ((Int32.toUInt32 p0 >>> (Int32.toUInt32 16 &&& Int32.toUInt32 31)).toInt32)) (y := 17) 15 o dJ11_isValidCodePoint_9a6ad_8 (by decide) (fun u => ?_) (fun u => ?_)
  · rw [if_pos u] at e
    refine g_iconst (v := 0) o dJ11_isValidCodePoint_9a6ad_15 (by decide) ?_
    exact g_zret o dJ11_isValidCodePoint_9a6ad_16 (zr_s e).1 (rt_v q (zr_s e).2)
  · rw [if_neg u] at e
    refine g_iconst (v := 1) o dJ11_isValidCodePoint_9a6ad_11 (by decide) ?_
    refine g_goto 16 o dJ11_isValidCodePoint_9a6ad_12 (by decide) ?_
    exact g_zret o dJ11_isValidCodePoint_9a6ad_16 (zr_s e).1 (rt_v q (zr_s e).2)
set_option maxRecDepth 100000 in
set_option maxHeartbeats 4000000 in
theorem kX4_findReserved_2 {X : Cx} (f0 : Nat) (o : Ok X cX4_findReserved RX4 2 rmX4_findReserved (some .int)) (f : Nat) (v0 : Nat) (v1 : Int32) (h : Hp) (r : Int32) (hz : Hp) (q : Rt X (some (.int r)) hz 0 0) (e : bX4_findReserved_2 f0 f v0 v1 h = some (r, hz)) : G X 2 2 [(0, .ref v0), (1, .int v1)] [] h 0 0 := by
  induction f generalizing v0 v1 h r hz with
  | zero => cases e
  | succ f1 ih =>
    unfold bX4_findReserved_2 at e
    refine g_iload_n 1 o dX4_findReserved_2 rfl rfl ?_
    refine g_bipush (v := 27) o dX4_findReserved_3 (by decide) ?_
    refine g_icmp_ge (x := v1) (y := 27) 30 o dX4_findReserved_5 (by decide) (fun u => ?_) (fun u => ?_)
    · rw [if_pos u] at e
      refine g_iconst (v := -1) o dX4_findReserved_30 (by decide) ?_
      exact g_iret o dX4_findReserved_31 (rt_v q e)
    · rw [if_neg u] at e
      refine g_aload_n 0 o dX4_findReserved_8 rfl rfl ?_
      obtain ⟨x9, q9, e⟩ := ob e
      refine g_getN 1 o cf4 (by decide) mw_85 dX4_findReserved_9 q9 ?_
      refine g_iload_n 1 o dX4_findReserved_12 rfl rfl ?_
      obtain ⟨x13, q13, e⟩ := ob e
      refine g_lald o dX4_findReserved_13 q13 ?_
      refine g_aload_n 0 o dX4_findReserved_14 rfl rfl ?_
      obtain ⟨x15, q15, e⟩ := ob e
      refine g_getJ 7 o cf4 (by decide) mw_94 dX4_findReserved_15 q15 ?_
      refine g_lcmp (x := x13) (y := x15) o dX4_findReserved_18 ?_
      refine g_if_ne (x := (lg_cmp x13 x15)) 24 o dX4_findReserved_19 (by decide) (fun u => ?_) (fun u => ?_)
      · rw [if_neg u] at e
        refine g_iinc (k := 1) (v := (v1 + 1)) [(1, .int (v1 + 1)), (0, .ref v0)] o dX4_findReserved_24 rfl rfl (by decide) rfl ?_
        refine g_goto 2 o dX4_findReserved_27 (by decide) ?_
        refine g_sb [1, 0] rfl ?_
        exact ih v0 (v1 + 1) h r hz q e
      · rw [if_pos u] at e
        refine g_iload_n 1 o dX4_findReserved_22 rfl rfl ?_
        exact g_iret o dX4_findReserved_23 (rt_v q e)
theorem yo_X4_findReserved : yok yX4_findReserved 0 := ⟨by decide, by decide, by decide +kernel⟩
set_option maxRecDepth 100000 in
set_option maxHeartbeats 4000000 in
theorem mX4_findReserved {l : Launch} {D : va_G} {cy : Nat → ClassId} {f0 : Nat} {a : Nat} {h : Hp} {r : Int32} {hz : Hp} (e : fX4_findReserved f0 a h = some (r, hz)) : MC l D cy yX4_findReserved cX4_findReserved 2 (some .int) rmX4_findReserved [.ref a] h (some (.int r)) hz := by
  refine mc_of2 (by decide) (Nat.le_of_ble_eq_true rfl) (fun X hl hD hy hin o q => ?_)
  show G X 2 0 [(0, .ref a)] [] h 0 0
  unfold fX4_findReserved at e
  refine g_iconst (v := 0) o dX4_findReserved_0 (by decide) ?_
  refine g_istore_n [(1, .int 0), (0, .ref a)] o dX4_findReserved_1 rfl (by decide) rfl ?_
  refine g_sb [1, 0] rfl ?_
  exact kX4_findReserved_2 f0 o f0 a 0 h r hz q e
theorem yo_X6_clear : yok yX6_clear 0 := ⟨by decide, by decide, by decide +kernel⟩
set_option maxRecDepth 100000 in
set_option maxHeartbeats 4000000 in
theorem mX6_clear {l : Launch} {D : va_G} {cy : Nat → ClassId} {f0 : Nat} {a : Nat} {h : Hp} {hz : Hp} (e : fX6_clear f0 a h = some hz) : MC l D cy yX6_clear cX6_clear 1 none rmX6_clear [.ref a] h none hz := by
  refine mc_of2 (by decide) (Nat.le_of_ble_eq_true rfl) (fun X hl hD hy hin o q => ?_)
  show G X 1 0 [(0, .ref a)] [] h 0 0
  unfold fX6_clear at e
  refine g_aload_n 0 o dX6_clear_0 rfl rfl ?_
  obtain ⟨x1, q1, e⟩ := ob e
  refine g_getN 0 o cf6 (by decide) mw_139 dX6_clear_1 q1 ?_
  refine g_iconst (v := 0) o dX6_clear_4 (by decide) ?_
  obtain ⟨h5, q5, e⟩ := ob e
  refine g_put (ty1 := .int) 3 o cf3 (by decide) mw_133 rfl (by decide +kernel) rfl rfl dX6_clear_5 q5 ?_
  refine g_aload_n 0 o dX6_clear_8 rfl rfl ?_
  obtain ⟨x9, q9, e⟩ := ob e
  refine g_getN 1 o cf6 (by decide) mw_142 dX6_clear_9 q9 ?_
  refine g_iconst (v := 0) o dX6_clear_12 (by decide) ?_
  obtain ⟨h13, q13, e⟩ := ob e
  refine g_callS0 [.ref x9, .int 0] o (mJ7_fill_53178 q13) mw_498 mw_352 mw_16 mw_353 yo_J7_fill_53178 rfl rfl (Nat.le_of_ble_eq_true rfl) ⟨by decide, by decide⟩ ⟨rfl, rfl⟩ dX6_clear_13 ⟨by decide, by decide⟩ ?_
  refine g_aload_n 0 o dX6_clear_16 rfl rfl ?_
  refine g_iconst (v := 0) o dX6_clear_17 (by decide) ?_
  obtain ⟨h18, q18, e⟩ := ob e
  refine g_put (ty1 := .int) 2 o cf6 (by decide) mw_148 rfl (by decide +kernel) rfl rfl dX6_clear_18 q18 ?_
  refine g_aload_n 0 o dX6_clear_21 rfl rfl ?_
  obtain ⟨x22, q22, e⟩ := ob e
  refine g_getN 3 o cf6 (by decide) mw_152 dX6_clear_22 q22 ?_
  refine g_iconst (v := 0) o dX6_clear_25 (by decide) ?_
  obtain ⟨h26, q26, e⟩ := ob e
  refine g_callS0 [.ref x22, .int 0] o (mJ7_fill_53178 q26) mw_498 mw_352 mw_16 mw_353 yo_J7_fill_53178 rfl rfl (Nat.le_of_ble_eq_true rfl) ⟨by decide, by decide⟩ ⟨rfl, rfl⟩ dX6_clear_26 ⟨by decide, by decide⟩ ?_
  refine g_aload_n 0 o dX6_clear_29 rfl rfl ?_
  obtain ⟨x30, q30, e⟩ := ob e
  refine g_getN 4 o cf6 (by decide) mw_156 dX6_clear_30 q30 ?_
  refine g_iconst (v := 0) o dX6_clear_33 (by decide) ?_
  obtain ⟨h34, q34, e⟩ := ob e
  refine g_callS0 [.ref x30, .int 0] o (mJ7_fill_53178 q34) mw_498 mw_352 mw_16 mw_353 yo_J7_fill_53178 rfl rfl (Nat.le_of_ble_eq_true rfl) ⟨by decide, by decide⟩ ⟨rfl, rfl⟩ dX6_clear_34 ⟨by decide, by decide⟩ ?_
  refine g_aload_n 0 o dX6_clear_37 rfl rfl ?_
  obtain ⟨x38, q38, e⟩ := ob e
  refine g_getN 5 o cf6 (by decide) mw_159 dX6_clear_38 q38 ?_
  refine g_iconst (v := 0) o dX6_clear_41 (by decide) ?_
  obtain ⟨h42, q42, e⟩ := ob e
  refine g_callS0 [.ref x38, .int 0] o (mJ7_fill_53178 q42) mw_498 mw_352 mw_16 mw_353 yo_J7_fill_53178 rfl rfl (Nat.le_of_ble_eq_true rfl) ⟨by decide, by decide⟩ ⟨rfl, rfl⟩ dX6_clear_42 ⟨by decide, by decide⟩ ?_
  refine g_aload_n 0 o dX6_clear_45 rfl rfl ?_
  obtain ⟨x46, q46, e⟩ := ob e
  refine g_getN 6 o cf6 (by decide) mw_163 dX6_clear_46 q46 ?_
  refine g_iconst (v := 0) o dX6_clear_49 (by decide) ?_
  obtain ⟨h50, q50, e⟩ := ob e
  refine g_callS0 [.ref x46, .int 0] o (mJ7_fill_53178 q50) mw_498 mw_352 mw_16 mw_353 yo_J7_fill_53178 rfl rfl (Nat.le_of_ble_eq_true rfl) ⟨by decide, by decide⟩ ⟨rfl, rfl⟩ dX6_clear_50 ⟨by decide, by decide⟩ ?_
  refine g_aload_n 0 o dX6_clear_53 rfl rfl ?_
  obtain ⟨x54, q54, e⟩ := ob e
  refine g_getN 7 o cf6 (by decide) mw_166 dX6_clear_54 q54 ?_
  refine g_iconst (v := 0) o dX6_clear_57 (by decide) ?_
  obtain ⟨h58, q58, e⟩ := ob e
  refine g_callS0 [.ref x54, .int 0] o (mJ7_fill_53178 q58) mw_498 mw_352 mw_16 mw_353 yo_J7_fill_53178 rfl rfl (Nat.le_of_ble_eq_true rfl) ⟨by decide, by decide⟩ ⟨rfl, rfl⟩ dX6_clear_58 ⟨by decide, by decide⟩ ?_
  refine g_aload_n 0 o dX6_clear_61 rfl rfl ?_
  obtain ⟨x62, q62, e⟩ := ob e
  refine g_getN 8 o cf6 (by decide) mw_168 dX6_clear_62 q62 ?_
  refine g_iconst (v := 0) o dX6_clear_65 (by decide) ?_
  obtain ⟨h66, q66, e⟩ := ob e
  refine g_callS0 [.ref x62, .int 0] o (mJ7_fill_53178 q66) mw_498 mw_352 mw_16 mw_353 yo_J7_fill_53178 rfl rfl (Nat.le_of_ble_eq_true rfl) ⟨by decide, by decide⟩ ⟨rfl, rfl⟩ dX6_clear_66 ⟨by decide, by decide⟩ ?_
  exact g_vret o dX6_clear_69 (rt_0 q e)
theorem yo_X4_refuse : yok yX4_refuse 1 := ⟨by decide, by decide, by decide +kernel⟩
set_option maxRecDepth 100000 in
set_option maxHeartbeats 4000000 in
theorem mX4_refuse {l : Launch} {D : va_G} {cy : Nat → ClassId} {f0 : Nat} {a : Nat} {p0 : Int32} {h : Hp} {r : Int32} {hz : Hp} (e : fX4_refuse f0 a p0 h = some (r, hz)) : MC l D cy yX4_refuse cX4_refuse 2 (some .boolean) rmX4_refuse [.ref a, .int p0] h (some (.int r)) hz := by
  refine mc_of2 (by decide) (Nat.le_of_ble_eq_true rfl) (fun X hl hD hy hin o q => ?_)
  show G X 2 0 [(0, .ref a), (1, .int p0)] [] h 0 0
  unfold fX4_refuse at e
  refine g_aload_n 0 o dX4_refuse_0 rfl rfl ?_
  refine g_iload_n 1 o dX4_refuse_1 rfl rfl ?_
  obtain ⟨h2, q2, e⟩ := ob e
  refine g_put (ty1 := .int) 10 o cf4 (by decide) mw_101 rfl (by decide +kernel) rfl rfl dX4_refuse_2 q2 ?_
  refine g_aload_n 0 o dX4_refuse_5 rfl rfl ?_
  refine g_aload_n 0 o dX4_refuse_6 rfl rfl ?_
  obtain ⟨x7, q7, e⟩ := ob e
  refine g_getI 6 o cf4 (by decide) mw_93 dX4_refuse_7 q7 ?_
  obtain ⟨h10, q10, e⟩ := ob e
  refine g_put (ty1 := .int) 11 o cf4 (by decide) mw_103 rfl (by decide +kernel) rfl rfl dX4_refuse_10 q10 ?_
  refine g_iconst (v := 0) o dX4_refuse_13 (by decide) ?_
  exact g_zret o dX4_refuse_14 (zr_s e).1 (rt_v q (zr_s e).2)
theorem yo_X4_isName : yok yX4_isName 0 := ⟨by decide, by decide, by decide +kernel⟩
set_option maxRecDepth 100000 in
set_option maxHeartbeats 4000000 in
theorem mX4_isName {l : Launch} {D : va_G} {cy : Nat → ClassId} {f0 : Nat} {a : Nat} {h : Hp} {r : Int32} {hz : Hp} (e : fX4_isName f0 a h = some (r, hz)) : MC l D cy yX4_isName cX4_isName 1 (some .boolean) rmX4_isName [.ref a] h (some (.int r)) hz := by
  refine mc_of2 (by decide) (Nat.le_of_ble_eq_true rfl) (fun X hl hD hy hin o q => ?_)
  show G X 1 0 [(0, .ref a)] [] h 0 0
  unfold fX4_isName at e
  refine g_aload_n 0 o dX4_isName_0 rfl rfl ?_
  obtain ⟨x1, q1, e⟩ := ob e
  refine g_getI 5 o cf4 (by decide) mw_91 dX4_isName_1 q1 ?_
  refine g_iconst (v := 1) o dX4_isName_4 (by decide) ?_
  refine g_icmp_ne (x := x1) (y := 1) 20 o dX4_isName_5 (by decide) (fun u => ?_) (fun u => ?_)
  · rw [if_neg u] at e
    refine g_iconst (v := 0) o dX4_isName_20 (by decide) ?_
    exact g_zret o dX4_isName_21 (zr_s e).1 (rt_v q (zr_s e).2)
  · rw [if_pos u] at e
    refine g_aload_n 0 o dX4_isName_8 rfl rfl ?_
    obtain ⟨x9, q9, e⟩ := ob e
    refine g_getI 8 o cf4 (by decide) mw_99 dX4_isName_9 q9 ?_
    refine g_iconst (v := -1) o dX4_isName_12 (by decide) ?_
    refine g_icmp_ne (x := x9) (y := (-1)) 20 o dX4_isName_13 (by decide) (fun u => ?_) (fun u => ?_)
    · rw [if_neg u] at e
      refine g_iconst (v := 0) o dX4_isName_20 (by decide) ?_
      exact g_zret o dX4_isName_21 (zr_s e).1 (rt_v q (zr_s e).2)
    · rw [if_pos u] at e
      refine g_iconst (v := 1) o dX4_isName_16 (by decide) ?_
      refine g_goto 21 o dX4_isName_17 (by decide) ?_
      exact g_zret o dX4_isName_21 (zr_s e).1 (rt_v q (zr_s e).2)
set_option maxRecDepth 100000 in
set_option maxHeartbeats 4000000 in
theorem kX3_find_43 {X : Cx} (f0 : Nat) (g3 : Nat → Int64 → Int32 → Int32 → Hp → Option (Int32 × Hp)) (i3 : ∀ (v02 : Nat) (v12 : Int64) (v32 : Int32) (v42 : Int32) (h2 : Hp) (r : Int32) (hz : Hp), Rt X (some (.int r)) hz 0 0 → g3 v02 v12 v32 v42 h2 = some (r, hz) → G X 5 3 [(0, .ref v02), (1, .long v12), (3, .int v32), (4, .int v42)] [] h2 0 0) (o : Ok X cX3_find RX3 5 rmX3_find (some .int)) (v0 : Nat) (v1 : Int64) (v3 : Int32) (v4 : Int32) (h : Hp) (r : Int32) (hz : Hp) (q : Rt X (some (.int r)) hz 0 0) (e : bX3_find_43 f0 g3 v0 v1 v3 v4 h = some (r, hz)) : G X 5 43 [(0, .ref v0), (1, .long v1), (3, .int v3), (4, .int v4)] [] h 0 0 := by
  unfold bX3_find_43 at e
  refine g_iinc (k := 3) (v := (v4 + 1)) [(4, .int (v4 + 1)), (0, .ref v0), (1, .long v1), (3, .int v3)] o dX3_find_43 rfl rfl (by decide) rfl ?_
  refine g_goto 3 o dX3_find_46 (by decide) ?_
  refine g_sb [1, 2, 3, 0] rfl ?_
  exact i3 v0 v1 v3 (v4 + 1) h r hz q e
set_option maxRecDepth 100000 in
set_option maxHeartbeats 4000000 in
theorem kX3_find_3 {X : Cx} (f0 : Nat) (o : Ok X cX3_find RX3 5 rmX3_find (some .int)) (f : Nat) (v0 : Nat) (v1 : Int64) (v3 : Int32) (v4 : Int32) (h : Hp) (r : Int32) (hz : Hp) (q : Rt X (some (.int r)) hz 0 0) (e : bX3_find_3 f0 f v0 v1 v3 v4 h = some (r, hz)) : G X 5 3 [(0, .ref v0), (1, .long v1), (3, .int v3), (4, .int v4)] [] h 0 0 := by
  induction f generalizing v0 v1 v3 v4 h r hz with
  | zero => cases e
  | succ f1 ih =>
    unfold bX3_find_3 at e
    refine g_iload 3 o dX3_find_3 rfl ?_
    refine g_aload_n 0 o dX3_find_5 rfl rfl ?_
    obtain ⟨x6, q6, e⟩ := ob e
    refine g_getI 3 o cf3 (by decide) mw_132 dX3_find_6 q6 ?_
    refine g_icmp_ge (x := v4) (y := x6) 49 o dX3_find_9 (by decide) (fun u => ?_) (fun u => ?_)
    · rw [if_pos u] at e
      refine g_iconst (v := -1) o dX3_find_49 (by decide) ?_
      exact g_iret o dX3_find_50 (rt_v q e)
    · rw [if_neg u] at e
      refine g_aload_n 0 o dX3_find_12 rfl rfl ?_
      obtain ⟨x13, q13, e⟩ := ob e
      refine g_getN 0 o cf3 (by decide) mw_129 dX3_find_13 q13 ?_
      refine g_iload 3 o dX3_find_16 rfl ?_
      obtain ⟨x18, q18, e⟩ := ob e
      refine g_lald o dX3_find_18 q18 ?_
      refine g_lload_n 1 o dX3_find_19 rfl rfl ?_
      refine g_lcmp (x := x18) (y := v1) o dX3_find_20 ?_
      refine g_if_ne (x := (lg_cmp x18 v1)) 43 o dX3_find_21 (by decide) (fun u => ?_) (fun u => ?_)
      · rw [if_neg u] at e
        exact kX3_find_43 f0 (bX3_find_3 f0 f1) ih o v0 v1 v3 v4 h r hz q e
      · rw [if_pos u] at e
        refine g_aload_n 0 o dX3_find_24 rfl rfl ?_
        obtain ⟨x25, q25, e⟩ := ob e
        refine g_getN 1 o cf3 (by decide) mw_130 dX3_find_25 q25 ?_
        refine g_iload 3 o dX3_find_28 rfl ?_
        obtain ⟨x30, q30, e⟩ := ob e
        refine g_iald o dX3_find_30 q30 ?_
        refine g_iload_n 2 o dX3_find_31 rfl rfl ?_
        refine g_icmp_ne (x := x30) (y := v3) 43 o dX3_find_32 (by decide) (fun u => ?_) (fun u => ?_)
        · rw [if_neg u] at e
          exact kX3_find_43 f0 (bX3_find_3 f0 f1) ih o v0 v1 v3 v4 h r hz q e
        · rw [if_pos u] at e
          refine g_aload_n 0 o dX3_find_35 rfl rfl ?_
          obtain ⟨x36, q36, e⟩ := ob e
          refine g_getN 2 o cf3 (by decide) mw_131 dX3_find_36 q36 ?_
          refine g_iload 3 o dX3_find_39 rfl ?_
          obtain ⟨x41, q41, e⟩ := ob e
          refine g_iald o dX3_find_41 q41 ?_
          exact g_iret o dX3_find_42 (rt_v q e)
theorem yo_X3_find : yok yX3_find 2 := ⟨by decide, by decide, by decide +kernel⟩
set_option maxRecDepth 100000 in
set_option maxHeartbeats 4000000 in
theorem mX3_find {l : Launch} {D : va_G} {cy : Nat → ClassId} {f0 : Nat} {a : Nat} {p0 : Int64} {p1 : Int32} {h : Hp} {r : Int32} {hz : Hp} (e : fX3_find f0 a p0 p1 h = some (r, hz)) : MC l D cy yX3_find cX3_find 5 (some .int) rmX3_find [.ref a, .long p0, .int p1] h (some (.int r)) hz := by
  refine mc_of2 (by decide) (Nat.le_of_ble_eq_true rfl) (fun X hl hD hy hin o q => ?_)
  show G X 5 0 [(0, .ref a), (1, .long p0), (3, .int p1)] [] h 0 0
  unfold fX3_find at e
  refine g_iconst (v := 0) o dX3_find_0 (by decide) ?_
  refine g_istore [(4, .int 0), (0, .ref a), (1, .long p0), (3, .int p1)] o dX3_find_1 (by decide) rfl ?_
  refine g_sb [1, 2, 3, 0] rfl ?_
  exact kX3_find_3 f0 o f0 a p0 p1 0 h r hz q e
set_option maxRecDepth 100000 in
set_option maxHeartbeats 4000000 in
theorem kX4_look_36 {X : Cx} (f0 : Nat) (o : Ok X cX4_look RX4 4 rmX4_look (some .int)) (v3 : Int32) (h : Hp) (r : Int32) (hz : Hp) (q : Rt X (some (.int r)) hz 0 0) (e : bX4_look_36 f0 v3 h = some (r, hz)) : G X 4 36 [(3, .int v3)] [] h 0 0 := by
  unfold bX4_look_36 at e
  refine g_iload_n 0 o dX4_look_36 rfl rfl ?_
  exact g_iret o dX4_look_37 (rt_v q e)
theorem yo_X4_look : yok yX4_look 2 := ⟨by decide, by decide, by decide +kernel⟩
set_option maxRecDepth 100000 in
set_option maxHeartbeats 4000000 in
theorem mX4_look {l : Launch} {D : va_G} {cy : Nat → ClassId} {f0 : Nat} {a : Nat} {p0 : Nat} {p1 : Int32} {h : Hp} {r : Int32} {hz : Hp} (e : fX4_look f0 a p0 p1 h = some (r, hz)) : MC l D cy yX4_look cX4_look 4 (some .int) rmX4_look [.ref a, .ref p0, .int p1] h (some (.int r)) hz := by
  refine mc_of2 (by decide) (Nat.le_of_ble_eq_true rfl) (fun X hl hD hy hin o q => ?_)
  show G X 4 0 [(0, .ref a), (1, .ref p0), (2, .int p1)] [] h 0 0
  unfold fX4_look at e
  refine g_aload_n 0 o dX4_look_0 rfl rfl ?_
  obtain ⟨_, k1, e⟩ := ob e
  obtain ⟨x1, h1, q1, e⟩ := ob2_s e
  refine g_callVv [] o (mX4_isName q1) cf4 (ckO_s k1) mw_517 mw_518 mw_519 mw_2 mw_520 rfl yo_X4_isName rfl rfl (Nat.le_of_ble_eq_true rfl) ⟨by decide, by decide⟩ ⟨rfl, rfl⟩ dX4_look_1 ⟨by decide, by decide⟩ ?_
  refine g_if_ne (x := x1) 15 o dX4_look_4 (by decide) (fun u => ?_) (fun u => ?_)
  · rw [if_neg u] at e
    refine g_aload_n 1 o dX4_look_15 rfl rfl ?_
    refine g_aload_n 0 o dX4_look_16 rfl rfl ?_
    obtain ⟨x17, q17, e⟩ := ob e
    refine g_getJ 7 o cf4 (by decide) mw_94 dX4_look_17 q17 ?_
    refine g_iload_n 2 o dX4_look_20 rfl rfl ?_
    obtain ⟨_, k21, e⟩ := ob e
    obtain ⟨x21, h21, q21, e⟩ := ob2_s e
    refine g_callVv [.long x17, .int p1] o (mX3_find q21) cf3 (ckO_s k21) mw_522 mw_523 mw_524 mw_8 mw_525 rfl yo_X3_find rfl rfl (Nat.le_of_ble_eq_true rfl) ⟨by decide, by decide⟩ ⟨rfl, rfl⟩ dX4_look_21 ⟨by decide, by decide⟩ ?_
    refine g_istore_n [(3, .int x21), (0, .ref a), (1, .ref p0), (2, .int p1)] o dX4_look_24 rfl (by decide) rfl ?_
    refine g_iload_n 0 o dX4_look_25 rfl rfl ?_
    refine g_iconst (v := -1) o dX4_look_26 (by decide) ?_
    refine g_icmp_ne (x := x21) (y := (-1)) 36 o dX4_look_27 (by decide) (fun u => ?_) (fun u => ?_)
    · rw [if_neg u] at e
      refine g_sb [0] rfl ?_
      exact kX4_look_36 f0 o x21 h21 r hz q e
    · rw [if_pos u] at e
      refine g_aload_n 1 o dX4_look_30 rfl rfl ?_
      refine g_iconst (v := 3) o dX4_look_31 (by decide) ?_
      obtain ⟨_, k32, e⟩ := ob e
      obtain ⟨x32, h32, q32, e⟩ := ob2_s e
      refine g_callVv [.int 3] o (mX4_refuse q32) cf4 (ckO_s k32) mw_521 mw_503 mw_504 mw_2 mw_505 rfl yo_X4_refuse rfl rfl (Nat.le_of_ble_eq_true rfl) ⟨by decide, by decide⟩ ⟨rfl, rfl⟩ dX4_look_32 ⟨by decide, by decide⟩ ?_
      refine g_pop o dX4_look_35 rfl ?_
      refine g_sb [0] rfl ?_
      exact kX4_look_36 f0 o x21 h32 r hz q e
  · rw [if_pos u] at e
    refine g_aload_n 0 o dX4_look_7 rfl rfl ?_
    refine g_iconst (v := 1) o dX4_look_8 (by decide) ?_
    obtain ⟨_, k9, e⟩ := ob e
    obtain ⟨x9, h9, q9, e⟩ := ob2_s e
    refine g_callVv [.int 1] o (mX4_refuse q9) cf4 (ckO_s k9) mw_521 mw_503 mw_504 mw_2 mw_505 rfl yo_X4_refuse rfl rfl (Nat.le_of_ble_eq_true rfl) ⟨by decide, by decide⟩ ⟨rfl, rfl⟩ dX4_look_9 ⟨by decide, by decide⟩ ?_
    refine g_pop o dX4_look_12 rfl ?_
    refine g_iconst (v := -1) o dX4_look_13 (by decide) ?_
    exact g_iret o dX4_look_14 (rt_v q e)
set_option maxRecDepth 100000 in
set_option maxHeartbeats 4000000 in
theorem kX4_lookNumber_32 {X : Cx} (f0 : Nat) (o : Ok X cX4_lookNumber RX4 3 rmX4_lookNumber (some .int)) (v0 : Nat) (h : Hp) (r : Int32) (hz : Hp) (q : Rt X (some (.int r)) hz 0 0) (e : bX4_lookNumber_32 f0 v0 h = some (r, hz)) : G X 3 32 [(0, .ref v0)] [] h 0 0 := by
  unfold bX4_lookNumber_32 at e
  refine g_aload_n 0 o dX4_lookNumber_32 rfl rfl ?_
  refine g_iconst (v := 2) o dX4_lookNumber_33 (by decide) ?_
  obtain ⟨_, k34, e⟩ := ob e
  obtain ⟨x34, h34, q34, e⟩ := ob2_s e
  refine g_callVv [.int 2] o (mX4_refuse q34) cf4 (ckO_s k34) mw_521 mw_503 mw_504 mw_2 mw_505 rfl yo_X4_refuse rfl rfl (Nat.le_of_ble_eq_true rfl) ⟨by decide, by decide⟩ ⟨rfl, rfl⟩ dX4_lookNumber_34 ⟨by decide, by decide⟩ ?_
  refine g_pop o dX4_lookNumber_37 rfl ?_
  refine g_iconst (v := -1) o dX4_lookNumber_38 (by decide) ?_
  exact g_iret o dX4_lookNumber_39 (rt_v q e)
theorem yo_X4_lookNumber : yok yX4_lookNumber 2 := ⟨by decide, by decide, by decide +kernel⟩
set_option maxRecDepth 100000 in
set_option maxHeartbeats 4000000 in
theorem mX4_lookNumber {l : Launch} {D : va_G} {cy : Nat → ClassId} {f0 : Nat} {a : Nat} {p0 : Int32} {p1 : Int32} {h : Hp} {r : Int32} {hz : Hp} (e : fX4_lookNumber f0 a p0 p1 h = some (r, hz)) : MC l D cy yX4_lookNumber cX4_lookNumber 3 (some .int) rmX4_lookNumber [.ref a, .int p0, .int p1] h (some (.int r)) hz := by
  refine mc_of2 (by decide) (Nat.le_of_ble_eq_true rfl) (fun X hl hD hy hin o q => ?_)
  show G X 3 0 [(0, .ref a), (1, .int p0), (2, .int p1)] [] h 0 0
  unfold fX4_lookNumber at e
  refine g_aload_n 0 o dX4_lookNumber_0 rfl rfl ?_
  obtain ⟨x1, q1, e⟩ := ob e
  refine g_getI 5 o cf4 (by decide) mw_91 dX4_lookNumber_1 q1 ?_
  refine g_iconst (v := 2) o dX4_lookNumber_4 (by decide) ?_
  refine g_icmp_eq (x := x1) (y := 2) 16 o dX4_lookNumber_5 (by decide) (fun u => ?_) (fun u => ?_)
  · rw [if_pos u] at e
    refine g_aload_n 0 o dX4_lookNumber_16 rfl rfl ?_
    obtain ⟨x17, q17, e⟩ := ob e
    refine g_getI 9 o cf4 (by decide) mw_100 dX4_lookNumber_17 q17 ?_
    refine g_iload_n 1 o dX4_lookNumber_20 rfl rfl ?_
    refine g_icmp_lt (x := x17) (y := p0) 32 o dX4_lookNumber_21 (by decide) (fun u => ?_) (fun u => ?_)
    · rw [if_pos u] at e
      refine g_sb [0] rfl ?_
      exact kX4_lookNumber_32 f0 o a h r hz q e
    · rw [if_neg u] at e
      refine g_aload_n 0 o dX4_lookNumber_24 rfl rfl ?_
      obtain ⟨x25, q25, e⟩ := ob e
      refine g_getI 9 o cf4 (by decide) mw_100 dX4_lookNumber_25 q25 ?_
      refine g_iload_n 2 o dX4_lookNumber_28 rfl rfl ?_
      refine g_icmp_le (x := x25) (y := p1) 40 o dX4_lookNumber_29 (by decide) (fun u => ?_) (fun u => ?_)
      · rw [if_pos u] at e
        refine g_aload_n 0 o dX4_lookNumber_40 rfl rfl ?_
        obtain ⟨x41, q41, e⟩ := ob e
        refine g_getI 9 o cf4 (by decide) mw_100 dX4_lookNumber_41 q41 ?_
        exact g_iret o dX4_lookNumber_44 (rt_v q e)
      · rw [if_neg u] at e
        refine g_sb [0] rfl ?_
        exact kX4_lookNumber_32 f0 o a h r hz q e
  · rw [if_neg u] at e
    refine g_aload_n 0 o dX4_lookNumber_8 rfl rfl ?_
    refine g_iconst (v := 1) o dX4_lookNumber_9 (by decide) ?_
    obtain ⟨_, k10, e⟩ := ob e
    obtain ⟨x10, h10, q10, e⟩ := ob2_s e
    refine g_callVv [.int 1] o (mX4_refuse q10) cf4 (ckO_s k10) mw_521 mw_503 mw_504 mw_2 mw_505 rfl yo_X4_refuse rfl rfl (Nat.le_of_ble_eq_true rfl) ⟨by decide, by decide⟩ ⟨rfl, rfl⟩ dX4_lookNumber_10 ⟨by decide, by decide⟩ ?_
    refine g_pop o dX4_lookNumber_13 rfl ?_
    refine g_iconst (v := -1) o dX4_lookNumber_14 (by decide) ?_
    exact g_iret o dX4_lookNumber_15 (rt_v q e)
set_option maxRecDepth 100000 in
set_option maxHeartbeats 4000000 in
theorem kX7_mirrorWays_10 {X : Cx} (f0 : Nat) (g2 : Nat → Int32 → Hp → Option (Int32 × Hp)) (i2 : ∀ (v02 : Nat) (v12 : Int32) (h2 : Hp) (r : Int32) (hz : Hp), Rt X (some (.int r)) hz 0 0 → g2 v02 v12 h2 = some (r, hz) → G X 4 2 [(0, .ref v02), (1, .int v12)] [] h2 0 0) (o : Ok X cX7_mirrorWays RX7 4 rmX7_mirrorWays (some .boolean)) (f : Nat) (v0 : Nat) (v1 : Int32) (v2 : Int32) (h : Hp) (r : Int32) (hz : Hp) (q : Rt X (some (.int r)) hz 0 0) (e : bX7_mirrorWays_10 f0 g2 f v0 v1 v2 h = some (r, hz)) : G X 4 10 [(0, .ref v0), (1, .int v1), (2, .int v2)] [] h 0 0 := by
  induction f generalizing v0 v1 v2 h r hz with
  | zero => cases e
  | succ f1 ih =>
    unfold bX7_mirrorWays_10 at e
    refine g_iload_n 2 o dX7_mirrorWays_10 rfl rfl ?_
    refine g_bipush (v := 8) o dX7_mirrorWays_11 (by decide) ?_
    refine g_icmp_ge (x := v2) (y := 8) 69 o dX7_mirrorWays_13 (by decide) (fun u => ?_) (fun u => ?_)
    · rw [if_pos u] at e
      refine g_iinc (k := 1) (v := (v1 + 1)) [(1, .int (v1 + 1)), (0, .ref v0), (2, .int v2)] o dX7_mirrorWays_69 rfl rfl (by decide) rfl ?_
      refine g_goto 2 o dX7_mirrorWays_72 (by decide) ?_
      refine g_sb [1, 0] rfl ?_
      exact i2 v0 (v1 + 1) h r hz q e
    · rw [if_neg u] at e
      refine g_aload_n 0 o dX7_mirrorWays_16 rfl rfl ?_
      obtain ⟨x17, q17, e⟩ := ob e
      refine g_getN 1 o cf7 (by decide) mw_203 dX7_mirrorWays_17 q17 ?_
      obtain ⟨x20, q20, e⟩ := ob e
      refine g_getN 3 o cf6 (by decide) mw_153 dX7_mirrorWays_20 q20 ?_
      refine g_iload_n 1 o dX7_mirrorWays_23 rfl rfl ?_
      refine g_bipush (v := 8) o dX7_mirrorWays_24 (by decide) ?_
      refine g_imul (x := v1) (y := 8) o dX7_mirrorWays_26 ?_
      refine g_iload_n 2 o dX7_mirrorWays_27 rfl rfl ?_
      refine g_iadd (x := (v1 * 8)) (y := v2) o dX7_mirrorWays_28 ?_
      obtain ⟨x29, q29, e⟩ := ob e
      refine g_iald o dX7_mirrorWays_29 q29 ?_
      refine g_aload_n 0 o dX7_mirrorWays_30 rfl rfl ?_
      obtain ⟨x31, q31, e⟩ := ob e
      refine g_getN 1 o cf7 (by decide) mw_203 dX7_mirrorWays_31 q31 ?_
      obtain ⟨x34, q34, e⟩ := ob e
      refine g_getN 3 o cf6 (by decide) mw_153 dX7_mirrorWays_34 q34 ?_
      refine g_iload_n 2 o dX7_mirrorWays_37 rfl rfl ?_
      refine g_bipush (v := 8) o dX7_mirrorWays_38 (by decide) ?_
      refine g_imul (x := v2) (y := 8) o dX7_mirrorWays_40 ?_
      refine g_iload_n 1 o dX7_mirrorWays_41 rfl rfl ?_
      refine g_iadd (x := (v2 * 8)) (y := v1) o dX7_mirrorWays_42 ?_
      obtain ⟨x43, q43, e⟩ := ob e
      refine g_iald o dX7_mirrorWays_43 q43 ?_
      refine g_mmax (x := x29) (y := x43) o mw_533 mw_450 mw_18 mw_451 ⟨by decide, Nat.le_of_ble_eq_true rfl⟩ ⟨by decide, by decide⟩ dX7_mirrorWays_44 ?_
      refine g_istore_n [(3, .int (if x29 < x43 then x43 else x29)), (0, .ref v0), (1, .int v1), (2, .int v2)] o dX7_mirrorWays_47 rfl (by decide) rfl ?_
      refine g_aload_n 1 o dX7_mirrorWays_48 rfl rfl ?_
      obtain ⟨x49, q49, e⟩ := ob e
      refine g_getN 1 o cf7 (by decide) mw_203 dX7_mirrorWays_49 q49 ?_
      obtain ⟨x52, q52, e⟩ := ob e
      refine g_getN 3 o cf6 (by decide) mw_153 dX7_mirrorWays_52 q52 ?_
      refine g_iload_n 2 o dX7_mirrorWays_55 rfl rfl ?_
      refine g_bipush (v := 8) o dX7_mirrorWays_56 (by decide) ?_
      refine g_imul (x := v1) (y := 8) o dX7_mirrorWays_58 ?_
      refine g_iload_n 3 o dX7_mirrorWays_59 rfl rfl ?_
      refine g_iadd (x := (v1 * 8)) (y := v2) o dX7_mirrorWays_60 ?_
      refine g_iload_n 0 o dX7_mirrorWays_61 rfl rfl ?_
      obtain ⟨h62, q62, e⟩ := ob e
      refine g_iast o dX7_mirrorWays_62 q62 ?_
      refine g_iinc (k := 3) (v := (v2 + 1)) [(2, .int (v2 + 1)), (3, .int (if x29 < x43 then x43 else x29)), (0, .ref v0), (1, .int v1)] o dX7_mirrorWays_63 rfl rfl (by decide) rfl ?_
      refine g_goto 10 o dX7_mirrorWays_66 (by decide) ?_
      refine g_sb [2, 3, 0] rfl ?_
      exact ih v0 v1 (v2 + 1) h62 r hz q e
set_option maxRecDepth 100000 in
set_option maxHeartbeats 4000000 in
theorem kX7_mirrorWays_2 {X : Cx} (f0 : Nat) (o : Ok X cX7_mirrorWays RX7 4 rmX7_mirrorWays (some .boolean)) (f : Nat) (v0 : Nat) (v1 : Int32) (h : Hp) (r : Int32) (hz : Hp) (q : Rt X (some (.int r)) hz 0 0) (e : bX7_mirrorWays_2 f0 f v0 v1 h = some (r, hz)) : G X 4 2 [(0, .ref v0), (1, .int v1)] [] h 0 0 := by
  induction f generalizing v0 v1 h r hz with
  | zero => cases e
  | succ f1 ih =>
    unfold bX7_mirrorWays_2 at e
    refine g_iload_n 1 o dX7_mirrorWays_2 rfl rfl ?_
    refine g_bipush (v := 8) o dX7_mirrorWays_3 (by decide) ?_
    refine g_icmp_ge (x := v1) (y := 8) 75 o dX7_mirrorWays_5 (by decide) (fun u => ?_) (fun u => ?_)
    · rw [if_pos u] at e
      refine g_iconst (v := 1) o dX7_mirrorWays_75 (by decide) ?_
      exact g_zret o dX7_mirrorWays_76 (zr_s e).1 (rt_v q (zr_s e).2)
    · rw [if_neg u] at e
      refine g_iconst (v := 0) o dX7_mirrorWays_8 (by decide) ?_
      refine g_istore_n [(2, .int 0), (0, .ref v0), (1, .int v1)] o dX7_mirrorWays_9 rfl (by decide) rfl ?_
      refine g_sb [1, 2, 0] rfl ?_
      exact kX7_mirrorWays_10 f0 (bX7_mirrorWays_2 f0 f1) ih o f0 v0 v1 0 h r hz q e
theorem yo_X7_mirrorWays : yok yX7_mirrorWays 0 := ⟨by decide, by decide, by decide +kernel⟩
set_option maxRecDepth 100000 in
set_option maxHeartbeats 4000000 in
theorem mX7_mirrorWays {l : Launch} {D : va_G} {cy : Nat → ClassId} {f0 : Nat} {a : Nat} {h : Hp} {r : Int32} {hz : Hp} (e : fX7_mirrorWays f0 a h = some (r, hz)) : MC l D cy yX7_mirrorWays cX7_mirrorWays 4 (some .boolean) rmX7_mirrorWays [.ref a] h (some (.int r)) hz := by
  refine mc_of2 (by decide) (Nat.le_of_ble_eq_true rfl) (fun X hl hD hy hin o q => ?_)
  show G X 4 0 [(0, .ref a)] [] h 0 0
  unfold fX7_mirrorWays at e
  refine g_iconst (v := 0) o dX7_mirrorWays_0 (by decide) ?_
  refine g_istore_n [(1, .int 0), (0, .ref a)] o dX7_mirrorWays_1 rfl (by decide) rfl ?_
  refine g_sb [1, 0] rfl ?_
  exact kX7_mirrorWays_2 f0 o f0 a 0 h r hz q e
set_option maxRecDepth 100000 in
set_option maxHeartbeats 4000000 in
theorem kX6_rainsAt_13 {X : Cx} (f0 : Nat) (o : Ok X cX6_rainsAt RX6 5 rmX6_rainsAt (some .boolean)) (f : Nat) (v0 : Nat) (v3 : Int32) (v4 : Int32) (h : Hp) (r : Int32) (hz : Hp) (q : Rt X (some (.int r)) hz 0 0) (e : bX6_rainsAt_13 f0 f v0 v3 v4 h = some (r, hz)) : G X 5 13 [(0, .ref v0), (3, .int v3), (4, .int v4)] [] h 0 0 := by
  induction f generalizing v0 v3 v4 h r hz with
  | zero => cases e
  | succ f1 ih =>
    unfold bX6_rainsAt_13 at e
    refine g_iload 2 o dX6_rainsAt_13 rfl ?_
    refine g_aload_n 0 o dX6_rainsAt_15 rfl rfl ?_
    obtain ⟨x16, q16, e⟩ := ob e
    refine g_getN 1 o cf6 (by decide) mw_142 dX6_rainsAt_16 q16 ?_
    refine g_bipush (v := 6) o dX6_rainsAt_19 (by decide) ?_
    obtain ⟨x21, q21, e⟩ := ob e
    refine g_iald o dX6_rainsAt_21 q21 ?_
    refine g_icmp_ge (x := v4) (y := x21) 44 o dX6_rainsAt_22 (by decide) (fun u => ?_) (fun u => ?_)
    · rw [if_pos u] at e
      refine g_iconst (v := 0) o dX6_rainsAt_44 (by decide) ?_
      exact g_zret o dX6_rainsAt_45 (zr_s e).1 (rt_v q (zr_s e).2)
    · rw [if_neg u] at e
      refine g_aload_n 0 o dX6_rainsAt_25 rfl rfl ?_
      obtain ⟨x26, q26, e⟩ := ob e
      refine g_getN 9 o cf6 (by decide) mw_171 dX6_rainsAt_26 q26 ?_
      refine g_iload 2 o dX6_rainsAt_29 rfl ?_
      obtain ⟨x31, q31, e⟩ := ob e
      refine g_iald o dX6_rainsAt_31 q31 ?_
      refine g_iload_n 1 o dX6_rainsAt_32 rfl rfl ?_
      refine g_icmp_ne (x := x31) (y := v3) 38 o dX6_rainsAt_33 (by decide) (fun u => ?_) (fun u => ?_)
      · rw [if_neg u] at e
        refine g_iinc (k := 2) (v := (v4 + 1)) [(4, .int (v4 + 1)), (0, .ref v0), (3, .int v3)] o dX6_rainsAt_38 rfl rfl (by decide) rfl ?_
        refine g_goto 13 o dX6_rainsAt_41 (by decide) ?_
        refine g_sb [1, 2, 0] rfl ?_
        exact ih v0 v3 (v4 + 1) h r hz q e
      · rw [if_pos u] at e
        refine g_iconst (v := 1) o dX6_rainsAt_36 (by decide) ?_
        exact g_zret o dX6_rainsAt_37 (zr_s e).1 (rt_v q (zr_s e).2)
theorem yo_X6_rainsAt : yok yX6_rainsAt 2 := ⟨by decide, by decide, by decide +kernel⟩
set_option maxRecDepth 100000 in
set_option maxHeartbeats 4000000 in
theorem mX6_rainsAt {l : Launch} {D : va_G} {cy : Nat → ClassId} {f0 : Nat} {a : Nat} {p0 : Int32} {p1 : Int32} {h : Hp} {r : Int32} {hz : Hp} (e : fX6_rainsAt f0 a p0 p1 h = some (r, hz)) : MC l D cy yX6_rainsAt cX6_rainsAt 5 (some .boolean) rmX6_rainsAt [.ref a, .int p0, .int p1] h (some (.int r)) hz := by
  refine mc_of2 (by decide) (Nat.le_of_ble_eq_true rfl) (fun X hl hD hy hin o q => ?_)
  show G X 5 0 [(0, .ref a), (1, .int p0), (2, .int p1)] [] h 0 0
  unfold fX6_rainsAt at e
  refine g_iload_n 1 o dX6_rainsAt_0 rfl rfl ?_
  refine g_bipush (v := 100) o dX6_rainsAt_1 (by decide) ?_
  refine g_imul (x := p0) (y := 100) o dX6_rainsAt_3 ?_
  refine g_iload_n 2 o dX6_rainsAt_4 rfl rfl ?_
  refine g_bipush (v := 100) o dX6_rainsAt_5 (by decide) ?_
  obtain ⟨_, z7, e⟩ := ob e
  refine g_irem (x := p1) (y := 100) o dX6_rainsAt_7 (nz_s z7) ?_
  refine g_iadd (x := (p0 * 100)) (y := (p1 - p1 / 100 * 100)) o dX6_rainsAt_8 ?_
  refine g_istore_n [(3, .int ((p0 * 100) + (p1 - p1 / 100 * 100))), (0, .ref a), (1, .int p0), (2, .int p1)] o dX6_rainsAt_9 rfl (by decide) rfl ?_
  refine g_iconst (v := 0) o dX6_rainsAt_10 (by decide) ?_
  refine g_istore [(4, .int 0), (3, .int ((p0 * 100) + (p1 - p1 / 100 * 100))), (0, .ref a), (1, .int p0), (2, .int p1)] o dX6_rainsAt_11 (by decide) rfl ?_
  refine g_sb [2, 1, 0] rfl ?_
  exact kX6_rainsAt_13 f0 o f0 a ((p0 * 100) + (p1 - p1 / 100 * 100)) 0 h r hz q e
set_option maxRecDepth 100000 in
set_option maxHeartbeats 4000000 in
theorem kX3_isTold_2 {X : Cx} (f0 : Nat) (o : Ok X cX3_isTold RX3 4 rmX3_isTold (some .boolean)) (f : Nat) (v0 : Nat) (v1 : Int64) (v3 : Int32) (h : Hp) (r : Int32) (hz : Hp) (q : Rt X (some (.int r)) hz 0 0) (e : bX3_isTold_2 f0 f v0 v1 v3 h = some (r, hz)) : G X 4 2 [(0, .ref v0), (1, .long v1), (3, .int v3)] [] h 0 0 := by
  induction f generalizing v0 v1 v3 h r hz with
  | zero => cases e
  | succ f1 ih =>
    unfold bX3_isTold_2 at e
    refine g_iload_n 2 o dX3_isTold_2 rfl rfl ?_
    refine g_aload_n 0 o dX3_isTold_3 rfl rfl ?_
    obtain ⟨x4, q4, e⟩ := ob e
    refine g_getI 3 o cf3 (by decide) mw_132 dX3_isTold_4 q4 ?_
    refine g_icmp_ge (x := v3) (y := x4) 29 o dX3_isTold_7 (by decide) (fun u => ?_) (fun u => ?_)
    · rw [if_pos u] at e
      refine g_iconst (v := 0) o dX3_isTold_29 (by decide) ?_
      exact g_zret o dX3_isTold_30 (zr_s e).1 (rt_v q (zr_s e).2)
    · rw [if_neg u] at e
      refine g_aload_n 0 o dX3_isTold_10 rfl rfl ?_
      obtain ⟨x11, q11, e⟩ := ob e
      refine g_getN 0 o cf3 (by decide) mw_129 dX3_isTold_11 q11 ?_
      refine g_iload_n 2 o dX3_isTold_14 rfl rfl ?_
      obtain ⟨x15, q15, e⟩ := ob e
      refine g_lald o dX3_isTold_15 q15 ?_
      refine g_lload_n 1 o dX3_isTold_16 rfl rfl ?_
      refine g_lcmp (x := x15) (y := v1) o dX3_isTold_17 ?_
      refine g_if_ne (x := (lg_cmp x15 v1)) 23 o dX3_isTold_18 (by decide) (fun u => ?_) (fun u => ?_)
      · rw [if_neg u] at e
        refine g_iinc (k := 2) (v := (v3 + 1)) [(3, .int (v3 + 1)), (0, .ref v0), (1, .long v1)] o dX3_isTold_23 rfl rfl (by decide) rfl ?_
        refine g_goto 2 o dX3_isTold_26 (by decide) ?_
        refine g_sb [1, 2, 0] rfl ?_
        exact ih v0 v1 (v3 + 1) h r hz q e
      · rw [if_pos u] at e
        refine g_iconst (v := 1) o dX3_isTold_21 (by decide) ?_
        exact g_zret o dX3_isTold_22 (zr_s e).1 (rt_v q (zr_s e).2)
theorem yo_X3_isTold : yok yX3_isTold 1 := ⟨by decide, by decide, by decide +kernel⟩
set_option maxRecDepth 100000 in
set_option maxHeartbeats 4000000 in
theorem mX3_isTold {l : Launch} {D : va_G} {cy : Nat → ClassId} {f0 : Nat} {a : Nat} {p0 : Int64} {h : Hp} {r : Int32} {hz : Hp} (e : fX3_isTold f0 a p0 h = some (r, hz)) : MC l D cy yX3_isTold cX3_isTold 4 (some .boolean) rmX3_isTold [.ref a, .long p0] h (some (.int r)) hz := by
  refine mc_of2 (by decide) (Nat.le_of_ble_eq_true rfl) (fun X hl hD hy hin o q => ?_)
  show G X 4 0 [(0, .ref a), (1, .long p0)] [] h 0 0
  unfold fX3_isTold at e
  refine g_iconst (v := 0) o dX3_isTold_0 (by decide) ?_
  refine g_istore_n [(3, .int 0), (0, .ref a), (1, .long p0)] o dX3_isTold_1 rfl (by decide) rfl ?_
  refine g_sb [1, 2, 0] rfl ?_
  exact kX3_isTold_2 f0 o f0 a p0 0 h r hz q e
theorem yo_X3_add : yok yX3_add 3 := ⟨by decide, by decide, by decide +kernel⟩
set_option maxRecDepth 100000 in
set_option maxHeartbeats 4000000 in
theorem mX3_add {l : Launch} {D : va_G} {cy : Nat → ClassId} {f0 : Nat} {a : Nat} {p0 : Int64} {p1 : Int32} {p2 : Int32} {h : Hp} {hz : Hp} (e : fX3_add f0 a p0 p1 p2 h = some hz) : MC l D cy yX3_add cX3_add 5 none rmX3_add [.ref a, .long p0, .int p1, .int p2] h none hz := by
  refine mc_of2 (by decide) (Nat.le_of_ble_eq_true rfl) (fun X hl hD hy hin o q => ?_)
  show G X 5 0 [(0, .ref a), (1, .long p0), (3, .int p1), (4, .int p2)] [] h 0 0
  unfold fX3_add at e
  refine g_aload_n 0 o dX3_add_0 rfl rfl ?_
  obtain ⟨x1, q1, e⟩ := ob e
  refine g_getI 3 o cf3 (by decide) mw_132 dX3_add_1 q1 ?_
  refine g_bipush (v := 30) o dX3_add_4 (by decide) ?_
  refine g_icmp_lt (x := x1) (y := 30) 10 o dX3_add_6 (by decide) (fun u => ?_) (fun u => ?_)
  · rw [if_pos u] at e
    refine g_aload_n 0 o dX3_add_10 rfl rfl ?_
    obtain ⟨x11, q11, e⟩ := ob e
    refine g_getN 0 o cf3 (by decide) mw_129 dX3_add_11 q11 ?_
    refine g_aload_n 0 o dX3_add_14 rfl rfl ?_
    obtain ⟨x15, q15, e⟩ := ob e
    refine g_getI 3 o cf3 (by decide) mw_132 dX3_add_15 q15 ?_
    refine g_lload_n 1 o dX3_add_18 rfl rfl ?_
    obtain ⟨h19, q19, e⟩ := ob e
    refine g_last o dX3_add_19 q19 ?_
    refine g_aload_n 0 o dX3_add_20 rfl rfl ?_
    obtain ⟨x21, q21, e⟩ := ob e
    refine g_getN 1 o cf3 (by decide) mw_130 dX3_add_21 q21 ?_
    refine g_aload_n 0 o dX3_add_24 rfl rfl ?_
    obtain ⟨x25, q25, e⟩ := ob e
    refine g_getI 3 o cf3 (by decide) mw_132 dX3_add_25 q25 ?_
    refine g_iload_n 2 o dX3_add_28 rfl rfl ?_
    obtain ⟨h29, q29, e⟩ := ob e
    refine g_iast o dX3_add_29 q29 ?_
    refine g_aload_n 0 o dX3_add_30 rfl rfl ?_
    obtain ⟨x31, q31, e⟩ := ob e
    refine g_getN 2 o cf3 (by decide) mw_131 dX3_add_31 q31 ?_
    refine g_aload_n 0 o dX3_add_34 rfl rfl ?_
    obtain ⟨x35, q35, e⟩ := ob e
    refine g_getI 3 o cf3 (by decide) mw_132 dX3_add_35 q35 ?_
    refine g_iload 3 o dX3_add_38 rfl ?_
    obtain ⟨h40, q40, e⟩ := ob e
    refine g_iast o dX3_add_40 q40 ?_
    refine g_aload_n 0 o dX3_add_41 rfl rfl ?_
    refine g_dup o dX3_add_42 rfl ?_
    obtain ⟨x43, q43, e⟩ := ob e
    refine g_getI 3 o cf3 (by decide) mw_132 dX3_add_43 q43 ?_
    refine g_iconst (v := 1) o dX3_add_46 (by decide) ?_
    refine g_iadd (x := x43) (y := 1) o dX3_add_47 ?_
    obtain ⟨h48, q48, e⟩ := ob e
    refine g_put (ty1 := .int) 3 o cf3 (by decide) mw_132 rfl (by decide +kernel) rfl rfl dX3_add_48 q48 ?_
    exact g_vret o dX3_add_51 (rt_0 q e)
  · rw [if_neg u] at e
    exact g_vret o dX3_add_9 (rt_0 q e)
set_option maxRecDepth 100000 in
set_option maxHeartbeats 4000000 in
theorem kX4_passEnd_26 {X : Cx} (f0 : Nat) (o : Ok X cX4_passEnd RX4 1 rmX4_passEnd (some .boolean)) (h : Hp) (r : Int32) (hz : Hp) (q : Rt X (some (.int r)) hz 0 0) (e : bX4_passEnd_26 f0 h = some (r, hz)) : G X 1 26 [] [] h 0 0 := by
  unfold bX4_passEnd_26 at e
  refine g_iconst (v := 1) o dX4_passEnd_26 (by decide) ?_
  refine g_goto 31 o dX4_passEnd_27 (by decide) ?_
  exact g_zret o dX4_passEnd_31 (zr_s e).1 (rt_v q (zr_s e).2)
set_option maxRecDepth 100000 in
set_option maxHeartbeats 4000000 in
theorem kX4_passEnd_18 {X : Cx} (f0 : Nat) (o : Ok X cX4_passEnd RX4 1 rmX4_passEnd (some .boolean)) (v0 : Nat) (h : Hp) (r : Int32) (hz : Hp) (q : Rt X (some (.int r)) hz 0 0) (e : bX4_passEnd_18 f0 v0 h = some (r, hz)) : G X 1 18 [(0, .ref v0)] [] h 0 0 := by
  unfold bX4_passEnd_18 at e
  refine g_aload_n 0 o dX4_passEnd_18 rfl rfl ?_
  refine g_iconst (v := 1) o dX4_passEnd_19 (by decide) ?_
  obtain ⟨_, k20, e⟩ := ob e
  obtain ⟨x20, h20, q20, e⟩ := ob2_s e
  refine g_callVv [.int 1] o (mX4_refuse q20) cf4 (ckO_s k20) mw_521 mw_503 mw_504 mw_2 mw_505 rfl yo_X4_refuse rfl rfl (Nat.le_of_ble_eq_true rfl) ⟨by decide, by decide⟩ ⟨rfl, rfl⟩ dX4_passEnd_20 ⟨by decide, by decide⟩ ?_
  refine g_if_eq (x := x20) 30 o dX4_passEnd_23 (by decide) (fun u => ?_) (fun u => ?_)
  · rw [if_pos u] at e
    refine g_iconst (v := 0) o dX4_passEnd_30 (by decide) ?_
    exact g_zret o dX4_passEnd_31 (zr_s e).1 (rt_v q (zr_s e).2)
  · rw [if_neg u] at e
    refine g_sb [] rfl ?_
    exact kX4_passEnd_26 f0 o h20 r hz q e
theorem yo_X4_passEnd : yok yX4_passEnd 0 := ⟨by decide, by decide, by decide +kernel⟩
set_option maxRecDepth 100000 in
set_option maxHeartbeats 4000000 in
theorem mX4_passEnd {l : Launch} {D : va_G} {cy : Nat → ClassId} {f0 : Nat} {a : Nat} {h : Hp} {r : Int32} {hz : Hp} (e : fX4_passEnd f0 a h = some (r, hz)) : MC l D cy yX4_passEnd cX4_passEnd 1 (some .boolean) rmX4_passEnd [.ref a] h (some (.int r)) hz := by
  refine mc_of2 (by decide) (Nat.le_of_ble_eq_true rfl) (fun X hl hD hy hin o q => ?_)
  show G X 1 0 [(0, .ref a)] [] h 0 0
  unfold fX4_passEnd at e
  refine g_aload_n 0 o dX4_passEnd_0 rfl rfl ?_
  obtain ⟨x1, q1, e⟩ := ob e
  refine g_getI 5 o cf4 (by decide) mw_91 dX4_passEnd_1 q1 ?_
  refine g_if_ne (x := x1) 18 o dX4_passEnd_4 (by decide) (fun u => ?_) (fun u => ?_)
  · rw [if_neg u] at e
    exact kX4_passEnd_18 f0 o a h r hz q e
  · rw [if_pos u] at e
    refine g_aload_n 0 o dX4_passEnd_7 rfl rfl ?_
    obtain ⟨x8, q8, e⟩ := ob e
    refine g_getI 2 o cf4 (by decide) mw_86 dX4_passEnd_8 q8 ?_
    refine g_aload_n 0 o dX4_passEnd_11 rfl rfl ?_
    obtain ⟨x12, q12, e⟩ := ob e
    refine g_getI 3 o cf4 (by decide) mw_87 dX4_passEnd_12 q12 ?_
    refine g_icmp_eq (x := x8) (y := x12) 26 o dX4_passEnd_15 (by decide) (fun u => ?_) (fun u => ?_)
    · rw [if_pos u] at e
      refine g_sb [] rfl ?_
      exact kX4_passEnd_26 f0 o h r hz q e
    · rw [if_neg u] at e
      exact kX4_passEnd_18 f0 o a h r hz q e
set_option maxRecDepth 100000 in
set_option maxHeartbeats 4000000 in
theorem kX6_shortest_36 {X : Cx} (f0 : Nat) (g10 : Nat → Nat → Int32 → Int32 → Hp → Option (Hp)) (i10 : ∀ (v12 : Nat) (v22 : Nat) (v32 : Int32) (v42 : Int32) (h2 : Hp) (hz : Hp), Rt X none hz 0 0 → g10 v12 v22 v32 v42 h2 = some hz → G X 8 10 [(1, .ref v12), (2, .ref v22), (3, .int v32), (4, .int v42)] [] h2 0 0) (o : Ok X cX6_shortest RX6 8 rmX6_shortest none) (v1 : Nat) (v2 : Nat) (v3 : Int32) (v4 : Int32) (s0 : Nat) (s1 : Int32) (s2 : Int32) (h : Hp) (hz : Hp) (q : Rt X none hz 0 0) (e : bX6_shortest_36 f0 g10 v1 v2 v3 v4 s0 s1 s2 h = some hz) : G X 8 36 [(1, .ref v1), (2, .ref v2), (3, .int v3), (4, .int v4)] [.int s2, .int s1, .ref s0] h 0 0 := by
  unfold bX6_shortest_36 at e
  obtain ⟨h36, q36, e⟩ := ob e
  refine g_iast o dX6_shortest_36 q36 ?_
  refine g_iinc (k := 3) (v := (v4 + 1)) [(4, .int (v4 + 1)), (1, .ref v1), (2, .ref v2), (3, .int v3)] o dX6_shortest_37 rfl rfl (by decide) rfl ?_
  refine g_goto 10 o dX6_shortest_40 (by decide) ?_
  refine g_sb [1, 2, 3, 0] rfl ?_
  exact i10 v1 v2 v3 (v4 + 1) h36 hz q e
set_option maxRecDepth 100000 in
set_option maxHeartbeats 4000000 in
theorem kX6_shortest_90 {X : Cx} (f0 : Nat) (g72 : Nat → Int32 → Int32 → Hp → Option (Hp)) (g81 : Nat → Int32 → Int32 → Int32 → Hp → Option (Hp)) (i72 : ∀ (v22 : Nat) (v32 : Int32) (v42 : Int32) (h2 : Hp) (hz : Hp), Rt X none hz 0 0 → g72 v22 v32 v42 h2 = some hz → G X 8 72 [(2, .ref v22), (3, .int v32), (4, .int v42)] [] h2 0 0) (i81 : ∀ (v22 : Nat) (v32 : Int32) (v42 : Int32) (v52 : Int32) (h2 : Hp) (hz : Hp), Rt X none hz 0 0 → g81 v22 v32 v42 v52 h2 = some hz → G X 8 81 [(2, .ref v22), (3, .int v32), (4, .int v42), (5, .int v52)] [] h2 0 0) (o : Ok X cX6_shortest RX6 8 rmX6_shortest none) (f : Nat) (v2 : Nat) (v3 : Int32) (v4 : Int32) (v5 : Int32) (v6 : Int32) (h : Hp) (hz : Hp) (q : Rt X none hz 0 0) (e : bX6_shortest_90 f0 g72 g81 f v2 v3 v4 v5 v6 h = some hz) : G X 8 90 [(2, .ref v2), (3, .int v3), (4, .int v4), (5, .int v5), (6, .int v6)] [] h 0 0 := by
  induction f generalizing v2 v3 v4 v5 v6 h hz with
  | zero => cases e
  | succ f1 ih =>
    unfold bX6_shortest_90 at e
    refine g_iload 4 o dX6_shortest_90 rfl ?_
    refine g_iload_n 1 o dX6_shortest_92 rfl rfl ?_
    refine g_icmp_ge (x := v6) (y := v3) 150 o dX6_shortest_93 (by decide) (fun u => ?_) (fun u => ?_)
    · rw [if_pos u] at e
      refine g_iinc (k := 3) (v := (v5 + 1)) [(5, .int (v5 + 1)), (2, .ref v2), (3, .int v3), (4, .int v4), (6, .int v6)] o dX6_shortest_150 rfl rfl (by decide) rfl ?_
      refine g_goto 81 o dX6_shortest_153 (by decide) ?_
      refine g_sb [1, 2, 3, 0] rfl ?_
      exact i81 v2 v3 v4 (v5 + 1) h hz q e
    · rw [if_neg u] at e
      refine g_aload_n 0 o dX6_shortest_96 rfl rfl ?_
      refine g_iload 3 o dX6_shortest_97 rfl ?_
      refine g_bipush (v := 8) o dX6_shortest_99 (by decide) ?_
      refine g_imul (x := v5) (y := 8) o dX6_shortest_101 ?_
      refine g_iload 2 o dX6_shortest_102 rfl ?_
      refine g_iadd (x := (v5 * 8)) (y := v4) o dX6_shortest_104 ?_
      obtain ⟨x105, q105, e⟩ := ob e
      refine g_iald o dX6_shortest_105 q105 ?_
      refine g_aload_n 0 o dX6_shortest_106 rfl rfl ?_
      refine g_iload 2 o dX6_shortest_107 rfl ?_
      refine g_bipush (v := 8) o dX6_shortest_109 (by decide) ?_
      refine g_imul (x := v4) (y := 8) o dX6_shortest_111 ?_
      refine g_iload 4 o dX6_shortest_112 rfl ?_
      refine g_iadd (x := (v4 * 8)) (y := v6) o dX6_shortest_114 ?_
      obtain ⟨x115, q115, e⟩ := ob e
      refine g_iald o dX6_shortest_115 q115 ?_
      refine g_iadd (x := x105) (y := x115) o dX6_shortest_116 ?_
      refine g_istore [(7, .int (x105 + x115)), (2, .ref v2), (3, .int v3), (4, .int v4), (5, .int v5), (6, .int v6)] o dX6_shortest_117 (by decide) rfl ?_
      refine g_aload_n 1 o dX6_shortest_119 rfl rfl ?_
      refine g_iload 4 o dX6_shortest_120 rfl ?_
      refine g_bipush (v := 8) o dX6_shortest_122 (by decide) ?_
      refine g_imul (x := v5) (y := 8) o dX6_shortest_124 ?_
      refine g_iload 5 o dX6_shortest_125 rfl ?_
      refine g_iadd (x := (v5 * 8)) (y := v6) o dX6_shortest_127 ?_
      refine g_aload_n 1 o dX6_shortest_128 rfl rfl ?_
      refine g_iload 4 o dX6_shortest_129 rfl ?_
      refine g_bipush (v := 8) o dX6_shortest_131 (by decide) ?_
      refine g_imul (x := v5) (y := 8) o dX6_shortest_133 ?_
      refine g_iload 5 o dX6_shortest_134 rfl ?_
      refine g_iadd (x := (v5 * 8)) (y := v6) o dX6_shortest_136 ?_
      obtain ⟨x137, q137, e⟩ := ob e
      refine g_iald o dX6_shortest_137 q137 ?_
      refine g_iload 0 o dX6_shortest_138 rfl ?_
      refine g_mmin (x := x137) (y := (x105 + x115)) o mw_575 mw_362 mw_18 mw_363 ⟨by decide, Nat.le_of_ble_eq_true rfl⟩ ⟨by decide, by decide⟩ dX6_shortest_140 ?_
      obtain ⟨h143, q143, e⟩ := ob e
      refine g_iast o dX6_shortest_143 q143 ?_
      refine g_iinc (k := 5) (v := (v6 + 1)) [(6, .int (v6 + 1)), (7, .int (x105 + x115)), (2, .ref v2), (3, .int v3), (4, .int v4), (5, .int v5)] o dX6_shortest_144 rfl rfl (by decide) rfl ?_
      refine g_goto 90 o dX6_shortest_147 (by decide) ?_
      refine g_sb [2, 3, 4, 5, 0] rfl ?_
      exact ih v2 v3 v4 v5 (v6 + 1) h143 hz q e
set_option maxRecDepth 100000 in
set_option maxHeartbeats 4000000 in
theorem kX6_shortest_81 {X : Cx} (f0 : Nat) (g72 : Nat → Int32 → Int32 → Hp → Option (Hp)) (i72 : ∀ (v22 : Nat) (v32 : Int32) (v42 : Int32) (h2 : Hp) (hz : Hp), Rt X none hz 0 0 → g72 v22 v32 v42 h2 = some hz → G X 8 72 [(2, .ref v22), (3, .int v32), (4, .int v42)] [] h2 0 0) (o : Ok X cX6_shortest RX6 8 rmX6_shortest none) (f : Nat) (v2 : Nat) (v3 : Int32) (v4 : Int32) (v5 : Int32) (h : Hp) (hz : Hp) (q : Rt X none hz 0 0) (e : bX6_shortest_81 f0 g72 f v2 v3 v4 v5 h = some hz) : G X 8 81 [(2, .ref v2), (3, .int v3), (4, .int v4), (5, .int v5)] [] h 0 0 := by
  induction f generalizing v2 v3 v4 v5 h hz with
  | zero => cases e
  | succ f1 ih =>
    unfold bX6_shortest_81 at e
    refine g_iload 3 o dX6_shortest_81 rfl ?_
    refine g_iload_n 1 o dX6_shortest_83 rfl rfl ?_
    refine g_icmp_ge (x := v5) (y := v3) 156 o dX6_shortest_84 (by decide) (fun u => ?_) (fun u => ?_)
    · rw [if_pos u] at e
      refine g_iinc (k := 2) (v := (v4 + 1)) [(4, .int (v4 + 1)), (2, .ref v2), (3, .int v3), (5, .int v5)] o dX6_shortest_156 rfl rfl (by decide) rfl ?_
      refine g_goto 72 o dX6_shortest_159 (by decide) ?_
      refine g_sb [1, 2, 0] rfl ?_
      exact i72 v2 v3 (v4 + 1) h hz q e
    · rw [if_neg u] at e
      refine g_iconst (v := 0) o dX6_shortest_87 (by decide) ?_
      refine g_istore [(6, .int 0), (2, .ref v2), (3, .int v3), (4, .int v4), (5, .int v5)] o dX6_shortest_88 (by decide) rfl ?_
      refine g_sb [1, 2, 3, 4, 0] rfl ?_
      exact kX6_shortest_90 f0 g72 (bX6_shortest_81 f0 g72 f1) i72 ih o f0 v2 v3 v4 v5 0 h hz q e
set_option maxRecDepth 100000 in
set_option maxHeartbeats 4000000 in
theorem kX6_shortest_72 {X : Cx} (f0 : Nat) (o : Ok X cX6_shortest RX6 8 rmX6_shortest none) (f : Nat) (v2 : Nat) (v3 : Int32) (v4 : Int32) (h : Hp) (hz : Hp) (q : Rt X none hz 0 0) (e : bX6_shortest_72 f0 f v2 v3 v4 h = some hz) : G X 8 72 [(2, .ref v2), (3, .int v3), (4, .int v4)] [] h 0 0 := by
  induction f generalizing v2 v3 v4 h hz with
  | zero => cases e
  | succ f1 ih =>
    unfold bX6_shortest_72 at e
    refine g_iload 2 o dX6_shortest_72 rfl ?_
    refine g_iload_n 1 o dX6_shortest_74 rfl rfl ?_
    refine g_icmp_ge (x := v4) (y := v3) 162 o dX6_shortest_75 (by decide) (fun u => ?_) (fun u => ?_)
    · rw [if_pos u] at e
      exact g_vret o dX6_shortest_162 (rt_0 q e)
    · rw [if_neg u] at e
      refine g_iconst (v := 0) o dX6_shortest_78 (by decide) ?_
      refine g_istore [(5, .int 0), (2, .ref v2), (3, .int v3), (4, .int v4)] o dX6_shortest_79 (by decide) rfl ?_
      refine g_sb [1, 2, 3, 0] rfl ?_
      exact kX6_shortest_81 f0 (bX6_shortest_72 f0 f1) ih o f0 v2 v3 v4 0 h hz q e
set_option maxRecDepth 100000 in
set_option maxHeartbeats 4000000 in
theorem kX6_shortest_46 {X : Cx} (f0 : Nat) (o : Ok X cX6_shortest RX6 8 rmX6_shortest none) (f : Nat) (v2 : Nat) (v3 : Int32) (v4 : Int32) (h : Hp) (hz : Hp) (q : Rt X none hz 0 0) (e : bX6_shortest_46 f0 f v2 v3 v4 h = some hz) : G X 8 46 [(2, .ref v2), (3, .int v3), (4, .int v4)] [] h 0 0 := by
  induction f generalizing v2 v3 v4 h hz with
  | zero => cases e
  | succ f1 ih =>
    unfold bX6_shortest_46 at e
    refine g_iload 2 o dX6_shortest_46 rfl ?_
    refine g_iload_n 1 o dX6_shortest_48 rfl rfl ?_
    refine g_icmp_ge (x := v4) (y := v3) 69 o dX6_shortest_49 (by decide) (fun u => ?_) (fun u => ?_)
    · rw [if_pos u] at e
      refine g_iconst (v := 0) o dX6_shortest_69 (by decide) ?_
      refine g_istore [(4, .int 0), (2, .ref v2), (3, .int v3)] o dX6_shortest_70 (by decide) rfl ?_
      refine g_sb [1, 2, 0] rfl ?_
      exact kX6_shortest_72 f0 o f0 v2 v3 0 h hz q e
    · rw [if_neg u] at e
      refine g_aload_n 0 o dX6_shortest_52 rfl rfl ?_
      refine g_iload 2 o dX6_shortest_53 rfl ?_
      refine g_bipush (v := 8) o dX6_shortest_55 (by decide) ?_
      refine g_imul (x := v4) (y := 8) o dX6_shortest_57 ?_
      refine g_iload 2 o dX6_shortest_58 rfl ?_
      refine g_iadd (x := (v4 * 8)) (y := v4) o dX6_shortest_60 ?_
      refine g_iconst (v := 0) o dX6_shortest_61 (by decide) ?_
      obtain ⟨h62, q62, e⟩ := ob e
      refine g_iast o dX6_shortest_62 q62 ?_
      refine g_iinc (k := 2) (v := (v4 + 1)) [(4, .int (v4 + 1)), (2, .ref v2), (3, .int v3)] o dX6_shortest_63 rfl rfl (by decide) rfl ?_
      refine g_goto 46 o dX6_shortest_66 (by decide) ?_
      refine g_sb [1, 2, 0] rfl ?_
      exact ih v2 v3 (v4 + 1) h62 hz q e
set_option maxRecDepth 100000 in
set_option maxHeartbeats 4000000 in
theorem kX6_shortest_10 {X : Cx} (f0 : Nat) (o : Ok X cX6_shortest RX6 8 rmX6_shortest none) (f : Nat) (v1 : Nat) (v2 : Nat) (v3 : Int32) (v4 : Int32) (h : Hp) (hz : Hp) (q : Rt X none hz 0 0) (e : bX6_shortest_10 f0 f v1 v2 v3 v4 h = some hz) : G X 8 10 [(1, .ref v1), (2, .ref v2), (3, .int v3), (4, .int v4)] [] h 0 0 := by
  induction f generalizing v1 v2 v3 v4 h hz with
  | zero => cases e
  | succ f1 ih =>
    unfold bX6_shortest_10 at e
    refine g_iload 3 o dX6_shortest_10 rfl ?_
    refine g_bipush (v := 64) o dX6_shortest_12 (by decide) ?_
    refine g_icmp_ge (x := v4) (y := 64) 43 o dX6_shortest_14 (by decide) (fun u => ?_) (fun u => ?_)
    · rw [if_pos u] at e
      refine g_iconst (v := 0) o dX6_shortest_43 (by decide) ?_
      refine g_istore [(4, .int 0), (1, .ref v1), (2, .ref v2), (3, .int v3)] o dX6_shortest_44 (by decide) rfl ?_
      refine g_sb [2, 3, 0] rfl ?_
      exact kX6_shortest_46 f0 o f0 v2 v3 0 h hz q e
    · rw [if_neg u] at e
      refine g_aload_n 1 o dX6_shortest_17 rfl rfl ?_
      refine g_iload 3 o dX6_shortest_18 rfl ?_
      refine g_aload_n 0 o dX6_shortest_20 rfl rfl ?_
      refine g_iload 3 o dX6_shortest_21 rfl ?_
      obtain ⟨x23, q23, e⟩ := ob e
      refine g_iald o dX6_shortest_23 q23 ?_
      refine g_if_ne (x := x23) 32 o dX6_shortest_24 (by decide) (fun u => ?_) (fun u => ?_)
      · rw [if_neg u] at e
        refine g_aload_n 0 o dX6_shortest_32 rfl rfl ?_
        refine g_iload 3 o dX6_shortest_33 rfl ?_
        obtain ⟨x35, q35, e⟩ := ob e
        refine g_iald o dX6_shortest_35 q35 ?_
        exact kX6_shortest_36 f0 (bX6_shortest_10 f0 f1) ih o v1 v2 v3 v4 v2 v4 x35 h hz q e
      · rw [if_pos u] at e
        refine g_ldc (v := 1000000) o dX6_shortest_27 mw_574 ?_
        refine g_goto 36 o dX6_shortest_29 (by decide) ?_
        exact kX6_shortest_36 f0 (bX6_shortest_10 f0 f1) ih o v1 v2 v3 v4 v2 v4 1000000 h hz q e
theorem yo_X6_shortest : yok yX6_shortest 2 := ⟨by decide, by decide, by decide +kernel⟩
set_option maxRecDepth 100000 in
set_option maxHeartbeats 4000000 in
theorem mX6_shortest {l : Launch} {D : va_G} {cy : Nat → ClassId} {f0 : Nat} {a : Nat} {p0 : Nat} {p1 : Nat} {h : Hp} {hz : Hp} (e : fX6_shortest f0 a p0 p1 h = some hz) : MC l D cy yX6_shortest cX6_shortest 8 none rmX6_shortest [.ref a, .ref p0, .ref p1] h none hz := by
  refine mc_of2 (by decide) (Nat.le_of_ble_eq_true rfl) (fun X hl hD hy hin o q => ?_)
  show G X 8 0 [(0, .ref a), (1, .ref p0), (2, .ref p1)] [] h 0 0
  unfold fX6_shortest at e
  refine g_aload_n 0 o dX6_shortest_0 rfl rfl ?_
  obtain ⟨x1, q1, e⟩ := ob e
  refine g_getN 1 o cf6 (by decide) mw_142 dX6_shortest_1 q1 ?_
  refine g_iconst (v := 0) o dX6_shortest_4 (by decide) ?_
  obtain ⟨x5, q5, e⟩ := ob e
  refine g_iald o dX6_shortest_5 q5 ?_
  refine g_istore_n [(3, .int x5), (0, .ref a), (1, .ref p0), (2, .ref p1)] o dX6_shortest_6 rfl (by decide) rfl ?_
  refine g_iconst (v := 0) o dX6_shortest_7 (by decide) ?_
  refine g_istore [(4, .int 0), (3, .int x5), (0, .ref a), (1, .ref p0), (2, .ref p1)] o dX6_shortest_8 (by decide) rfl ?_
  refine g_sb [3, 4, 1, 0] rfl ?_
  exact kX6_shortest_10 f0 o f0 p0 p1 x5 0 h hz q e
