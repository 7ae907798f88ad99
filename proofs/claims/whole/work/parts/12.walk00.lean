theorem yo_X7_init : yok yX7_init 2 := ⟨by decide, by decide, by decide +kernel⟩
set_option maxRecDepth 100000 in
set_option maxHeartbeats 4000000 in
theorem mX7_init {l : Launch} {D : va_G} {cy : Nat → ClassId} {f0 : Nat} {a : Nat} {p0 : Nat} {p1 : Nat} {h : Hp} {hz : Hp} (e : fX7_init f0 a p0 p1 h = some hz) : MC l D cy yX7_init cX7_init 3 none rmX7_init [.ref a, .ref p0, .ref p1] h none hz := by
  refine mc_of2 (by decide) (Nat.le_of_ble_eq_true rfl) (fun X hl hD hy hin o q => ?_)
  subst hl; subst hD; subst hy
  show G X 3 0 [(0, .ref a), (1, .ref p0), (2, .ref p1)] [] h 0 0
  unfold fX7_init at e
  refine g_aload_n 0 o dX7_init_0 rfl rfl ?_
  refine g_objInit o mw_201 mw_33 mw_34 ⟨by decide, Nat.le_of_ble_eq_true rfl⟩ dX7_init_1 ?_
  refine g_aload_n 0 o dX7_init_4 rfl rfl ?_
  refine g_aload_n 1 o dX7_init_5 rfl rfl ?_
  obtain ⟨h6, q6, e⟩ := ob e
  refine g_putF (ty1 := (.object "FalseName$Reader")) 0 o cf7 (by decide) mw_202 rfl hin rfl (by decide +kernel) rfl rfl dX7_init_6 q6 ?_
  refine g_aload_n 0 o dX7_init_9 rfl rfl ?_
  refine g_aload_n 2 o dX7_init_10 rfl rfl ?_
  obtain ⟨h11, q11, e⟩ := ob e
  refine g_putF (ty1 := (.object "FalseName$Sea")) 1 o cf7 (by decide) mw_203 rfl hin rfl (by decide +kernel) rfl rfl dX7_init_11 q11 ?_
  exact g_vret o dX7_init_14 (rt_0 q e)
theorem yo_X9_init : yok yX9_init 3 := ⟨by decide, by decide, by decide +kernel⟩
set_option maxRecDepth 100000 in
set_option maxHeartbeats 4000000 in
theorem mX9_init {l : Launch} {D : va_G} {cy : Nat → ClassId} {f0 : Nat} {a : Nat} {p0 : Nat} {p1 : Nat} {p2 : Nat} {h : Hp} {hz : Hp} (e : fX9_init f0 a p0 p1 p2 h = some hz) : MC l D cy yX9_init cX9_init 4 none rmX9_init [.ref a, .ref p0, .ref p1, .ref p2] h none hz := by
  refine mc_of2 (by decide) (Nat.le_of_ble_eq_true rfl) (fun X hl hD hy hin o q => ?_)
  subst hl; subst hD; subst hy
  show G X 4 0 [(0, .ref a), (1, .ref p0), (2, .ref p1), (3, .ref p2)] [] h 0 0
  unfold fX9_init at e
  refine g_aload_n 0 o dX9_init_0 rfl rfl ?_
  refine g_objInit o mw_228 mw_33 mw_34 ⟨by decide, Nat.le_of_ble_eq_true rfl⟩ dX9_init_1 ?_
  refine g_aload_n 0 o dX9_init_4 rfl rfl ?_
  refine g_aload_n 1 o dX9_init_5 rfl rfl ?_
  obtain ⟨h6, q6, e⟩ := ob e
  refine g_putF (ty1 := (.object "FalseName$Reader")) 0 o cf9 (by decide) mw_229 rfl hin rfl (by decide +kernel) rfl rfl dX9_init_6 q6 ?_
  refine g_aload_n 0 o dX9_init_9 rfl rfl ?_
  refine g_aload_n 2 o dX9_init_10 rfl rfl ?_
  obtain ⟨h11, q11, e⟩ := ob e
  refine g_putF (ty1 := (.object "FalseName$NameTable")) 1 o cf9 (by decide) mw_230 rfl hin rfl (by decide +kernel) rfl rfl dX9_init_11 q11 ?_
  refine g_aload_n 0 o dX9_init_14 rfl rfl ?_
  refine g_aload_n 3 o dX9_init_15 rfl rfl ?_
  obtain ⟨h16, q16, e⟩ := ob e
  refine g_putF (ty1 := (.object "FalseName$Sentence")) 2 o cf9 (by decide) mw_231 rfl hin rfl (by decide +kernel) rfl rfl dX9_init_16 q16 ?_
  exact g_vret o dX9_init_19 (rt_0 q e)
theorem yo_X6_isForHer : yok yX6_isForHer 0 := ⟨by decide, by decide, by decide +kernel⟩
set_option maxRecDepth 100000 in
set_option maxHeartbeats 4000000 in
theorem mX6_isForHer {l : Launch} {D : va_G} {cy : Nat → ClassId} {f0 : Nat} {a : Nat} {h : Hp} {r : Int32} {hz : Hp} (e : fX6_isForHer f0 a h = some (r, hz)) : MC l D cy yX6_isForHer cX6_isForHer 1 (some .boolean) rmX6_isForHer [.ref a] h (some (.int r)) hz := by
  refine mc_of2 (by decide) (Nat.le_of_ble_eq_true rfl) (fun X hl hD hy hin o q => ?_)
  subst hl; subst hD; subst hy
  show G X 1 0 [(0, .ref a)] [] h 0 0
  unfold fX6_isForHer at e
  refine g_aload_n 0 o dX6_isForHer_0 rfl rfl ?_
  obtain ⟨x1, q1, e⟩ := ob e
  refine g_getN 1 o cf6 (by decide) mw_142 dX6_isForHer_1 q1 ?_
  refine g_iconst (v := 0) o dX6_isForHer_4 (by decide) ?_
  obtain ⟨x5, q5, e⟩ := ob e
  refine g_iald o dX6_isForHer_5 q5 ?_
  refine g_if_le (x := x5) 22 o dX6_isForHer_6 (by decide) (fun u => ?_) (fun u => ?_)
  · rw [if_pos u] at e
    refine g_iconst (v := 0) o dX6_isForHer_22 (by decide) ?_
    exact g_zret o dX6_isForHer_23 (zr_s e).1 (rt_v q (zr_s e).2)
  · rw [if_neg u] at e
    refine g_aload_n 0 o dX6_isForHer_9 rfl rfl ?_
    obtain ⟨x10, q10, e⟩ := ob e
    refine g_getN 1 o cf6 (by decide) mw_142 dX6_isForHer_10 q10 ?_
    refine g_iconst (v := 3) o dX6_isForHer_13 (by decide) ?_
    obtain ⟨x14, q14, e⟩ := ob e
    refine g_iald o dX6_isForHer_14 q14 ?_
    refine g_if_le (x := x14) 22 o dX6_isForHer_15 (by decide) (fun u => ?_) (fun u => ?_)
    · rw [if_pos u] at e
      refine g_iconst (v := 0) o dX6_isForHer_22 (by decide) ?_
      exact g_zret o dX6_isForHer_23 (zr_s e).1 (rt_v q (zr_s e).2)
    · rw [if_neg u] at e
      refine g_iconst (v := 1) o dX6_isForHer_18 (by decide) ?_
      refine g_goto 23 o dX6_isForHer_19 (by decide) ?_
      exact g_zret o dX6_isForHer_23 (zr_s e).1 (rt_v q (zr_s e).2)
set_option maxRecDepth 100000 in
set_option maxHeartbeats 4000000 in
theorem kJ7_fill_53178_5 {X : Cx} (f0 : Nat) (o : Ok X cJ7_fill_53178 RJ7 4 rmJ7_fill_53178 none) (f : Nat) (v0 : Nat) (v1 : Int32) (v2 : Int32) (v3 : Int32) (h : Hp) (hz : Hp) (q : Rt X none hz 0 0) (e : bJ7_fill_53178_5 f0 f v0 v1 v2 v3 h = some hz) : G X 4 5 [(0, .ref v0), (1, .int v1), (2, .int v2), (3, .int v3)] [] h 0 0 := by
  induction f generalizing v0 v1 v2 v3 h hz with
  | zero => cases e
  | succ f1 ih =>
    unfold bJ7_fill_53178_5 at e
    refine g_iload_n 2 o dJ7_fill_53178_5 rfl rfl ?_
    refine g_iload_n 3 o dJ7_fill_53178_6 rfl rfl ?_
    refine g_icmp_ge (x := v2) (y := v3) 20 o dJ7_fill_53178_7 (by decide) (fun u => ?_) (fun u => ?_)
    · rw [if_pos u] at e
      exact g_vret o dJ7_fill_53178_20 (rt_0 q e)
    · rw [if_neg u] at e
      refine g_aload_n 0 o dJ7_fill_53178_10 rfl rfl ?_
      refine g_iload_n 2 o dJ7_fill_53178_11 rfl rfl ?_
      refine g_iload_n 1 o dJ7_fill_53178_12 rfl rfl ?_
      obtain ⟨h13, q13, e⟩ := ob e
      refine g_iast o dJ7_fill_53178_13 q13 ?_
      refine g_iinc (k := 2) (v := (v2 + 1)) [(2, .int (v2 + 1)), (0, .ref v0), (1, .int v1), (3, .int v3)] o dJ7_fill_53178_14 rfl rfl (by decide) rfl ?_
      refine g_goto 5 o dJ7_fill_53178_17 (by decide) ?_
      refine g_sb [1, 2, 0, 3] rfl ?_
      exact ih v0 v1 (v2 + 1) v3 h13 hz q e
theorem yo_J7_fill_53178 : yok yJ7_fill_53178 2 := ⟨by decide, by decide, by decide +kernel⟩
set_option maxRecDepth 100000 in
set_option maxHeartbeats 4000000 in
theorem mJ7_fill_53178 {l : Launch} {D : va_G} {cy : Nat → ClassId} {f0 : Nat} {p0 : Nat} {p1 : Int32} {h : Hp} {hz : Hp} (e : fJ7_fill_53178 f0 p0 p1 h = some hz) : MC l D cy yJ7_fill_53178 cJ7_fill_53178 4 none rmJ7_fill_53178 [.ref p0, .int p1] h none hz := by
  refine mc_of2 (by decide) (Nat.le_of_ble_eq_true rfl) (fun X hl hD hy hin o q => ?_)
  subst hl; subst hD; subst hy
  show G X 4 0 [(0, .ref p0), (1, .int p1)] [] h 0 0
  unfold fJ7_fill_53178 at e
  refine g_iconst (v := 0) o dJ7_fill_53178_0 (by decide) ?_
  refine g_istore_n [(2, .int 0), (0, .ref p0), (1, .int p1)] o dJ7_fill_53178_1 rfl (by decide) rfl ?_
  refine g_aload_n 1 o dJ7_fill_53178_2 rfl rfl ?_
  obtain ⟨x3, q3, e⟩ := ob e
  refine g_alen (by decide) o dJ7_fill_53178_3 q3 ?_
  refine g_istore_n [(3, .int x3), (2, .int 0), (0, .ref p0), (1, .int p1)] o dJ7_fill_53178_4 rfl (by decide) rfl ?_
  refine g_sb [2, 3, 1, 0] rfl ?_
  exact kJ7_fill_53178_5 f0 o f0 p0 p1 0 x3 h hz q e
set_option maxRecDepth 100000 in
set_option maxHeartbeats 4000000 in
theorem kX10_tell_2 {X : Cx} (f0 : Nat) (o : Ok X cX10_tell RX10 5 rmX10_tell none) (f : Nat) (v0 : Nat) (v1 : Int32) (v2 : Int32) (v3 : Int32) (h : Hp) (hz : Hp) (q : Rt X none hz 0 0) (e : bX10_tell_2 f0 f v0 v1 v2 v3 h = some hz) : G X 5 2 [(0, .ref v0), (1, .int v1), (2, .int v2), (3, .int v3)] [] h 0 0 := by
  induction f generalizing v0 v1 v2 v3 h hz with
  | zero => cases e
  | succ f1 ih =>
    unfold bX10_tell_2 at e
    refine g_iload_n 3 o dX10_tell_2 rfl rfl ?_
    refine g_aload_n 0 o dX10_tell_3 rfl rfl ?_
    obtain ⟨x4, q4, e⟩ := ob e
    refine g_getN 0 o cf10 (by decide) mw_276 dX10_tell_4 q4 ?_
    obtain ⟨x7, q7, e⟩ := ob e
    refine g_getN 1 o cf6 (by decide) mw_144 dX10_tell_7 q7 ?_
    refine g_iconst (v := 0) o dX10_tell_10 (by decide) ?_
    obtain ⟨x11, q11, e⟩ := ob e
    refine g_iald o dX10_tell_11 q11 ?_
    refine g_icmp_ge (x := v3) (y := x11) 69 o dX10_tell_12 (by decide) (fun u => ?_) (fun u => ?_)
    · rw [if_pos u] at e
      exact g_vret o dX10_tell_69 (rt_0 q e)
    · rw [if_neg u] at e
      refine g_aload_n 0 o dX10_tell_15 rfl rfl ?_
      obtain ⟨x16, q16, e⟩ := ob e
      refine g_getI 1 o cf10 (by decide) mw_278 dX10_tell_16 q16 ?_
      refine g_aload_n 0 o dX10_tell_19 rfl rfl ?_
      obtain ⟨x20, q20, e⟩ := ob e
      refine g_getN 0 o cf10 (by decide) mw_276 dX10_tell_20 q20 ?_
      obtain ⟨x23, q23, e⟩ := ob e
      refine g_getN 12 o cf6 (by decide) mw_181 dX10_tell_23 q23 ?_
      refine g_iload_n 1 o dX10_tell_26 rfl rfl ?_
      refine g_bipush (v := 8) o dX10_tell_27 (by decide) ?_
      refine g_imul (x := v1) (y := 8) o dX10_tell_29 ?_
      refine g_iload_n 3 o dX10_tell_30 rfl rfl ?_
      refine g_iadd (x := (v1 * 8)) (y := v3) o dX10_tell_31 ?_
      obtain ⟨x32, q32, e⟩ := ob e
      refine g_iald o dX10_tell_32 q32 ?_
      refine g_iadd (x := x16) (y := x32) o dX10_tell_33 ?_
      refine g_istore [(4, .int (x16 + x32)), (0, .ref v0), (1, .int v1), (2, .int v2), (3, .int v3)] o dX10_tell_34 (by decide) rfl ?_
      refine g_aload_n 1 o dX10_tell_36 rfl rfl ?_
      obtain ⟨x37, q37, e⟩ := ob e
      refine g_getN 12 o cf10 (by decide) mw_302 dX10_tell_37 q37 ?_
      refine g_iload_n 4 o dX10_tell_40 rfl rfl ?_
      refine g_bipush (v := 8) o dX10_tell_41 (by decide) ?_
      refine g_imul (x := v3) (y := 8) o dX10_tell_43 ?_
      refine g_iload_n 3 o dX10_tell_44 rfl rfl ?_
      refine g_iadd (x := (v3 * 8)) (y := v2) o dX10_tell_45 ?_
      refine g_aload_n 1 o dX10_tell_46 rfl rfl ?_
      obtain ⟨x47, q47, e⟩ := ob e
      refine g_getN 12 o cf10 (by decide) mw_302 dX10_tell_47 q47 ?_
      refine g_iload_n 4 o dX10_tell_50 rfl rfl ?_
      refine g_bipush (v := 8) o dX10_tell_51 (by decide) ?_
      refine g_imul (x := v3) (y := 8) o dX10_tell_53 ?_
      refine g_iload_n 3 o dX10_tell_54 rfl rfl ?_
      refine g_iadd (x := (v3 * 8)) (y := v2) o dX10_tell_55 ?_
      obtain ⟨x56, q56, e⟩ := ob e
      refine g_iald o dX10_tell_56 q56 ?_
      refine g_iload 0 o dX10_tell_57 rfl ?_
      refine g_mmin (x := x56) (y := (x16 + x32)) o mw_361 mw_362 mw_18 mw_363 ⟨by decide, Nat.le_of_ble_eq_true rfl⟩ ⟨by decide, by decide⟩ dX10_tell_59 ?_
      obtain ⟨h62, q62, e⟩ := ob e
      refine g_iast o dX10_tell_62 q62 ?_
      refine g_iinc (k := 4) (v := (v3 + 1)) [(3, .int (v3 + 1)), (4, .int (x16 + x32)), (0, .ref v0), (1, .int v1), (2, .int v2)] o dX10_tell_63 rfl rfl (by decide) rfl ?_
      refine g_goto 2 o dX10_tell_66 (by decide) ?_
      refine g_sb [2, 3, 4, 0] rfl ?_
      exact ih v0 v1 v2 (v3 + 1) h62 hz q e
theorem yo_X10_tell : yok yX10_tell 2 := ⟨by decide, by decide, by decide +kernel⟩
set_option maxRecDepth 100000 in
set_option maxHeartbeats 4000000 in
theorem mX10_tell {l : Launch} {D : va_G} {cy : Nat → ClassId} {f0 : Nat} {a : Nat} {p0 : Int32} {p1 : Int32} {h : Hp} {hz : Hp} (e : fX10_tell f0 a p0 p1 h = some hz) : MC l D cy yX10_tell cX10_tell 5 none rmX10_tell [.ref a, .int p0, .int p1] h none hz := by
  refine mc_of2 (by decide) (Nat.le_of_ble_eq_true rfl) (fun X hl hD hy hin o q => ?_)
  subst hl; subst hD; subst hy
  show G X 5 0 [(0, .ref a), (1, .int p0), (2, .int p1)] [] h 0 0
  unfold fX10_tell at e
  refine g_iconst (v := 0) o dX10_tell_0 (by decide) ?_
  refine g_istore_n [(3, .int 0), (0, .ref a), (1, .int p0), (2, .int p1)] o dX10_tell_1 rfl (by decide) rfl ?_
  refine g_sb [1, 2, 3, 0] rfl ?_
  exact kX10_tell_2 f0 o f0 a p0 p1 0 h hz q e
set_option maxRecDepth 100000 in
set_option maxHeartbeats 4000000 in
theorem kX10_start_168 {X : Cx} (f0 : Nat) (g117 : Nat → Int32 → Hp → Option (Hp)) (g132 : Nat → Int32 → Int32 → Hp → Option (Hp)) (i117 : ∀ (v02 : Nat) (v22 : Int32) (h2 : Hp) (hz : Hp), Rt X none hz 0 0 → g117 v02 v22 h2 = some hz → G X 4 117 [(0, .ref v02), (2, .int v22)] [] h2 0 0) (i132 : ∀ (v02 : Nat) (v22 : Int32) (v32 : Int32) (h2 : Hp) (hz : Hp), Rt X none hz 0 0 → g132 v02 v22 v32 h2 = some hz → G X 4 132 [(0, .ref v02), (2, .int v22), (3, .int v32)] [] h2 0 0) (o : Ok X cX10_start RX10 4 rmX10_start none) (v0 : Nat) (v2 : Int32) (v3 : Int32) (h : Hp) (hz : Hp) (q : Rt X none hz 0 0) (e : bX10_start_168 f0 g117 g132 v0 v2 v3 h = some hz) : G X 4 168 [(0, .ref v0), (2, .int v2), (3, .int v3)] [] h 0 0 := by
  unfold bX10_start_168 at e
  refine g_iinc (k := 2) (v := (v3 + 1)) [(3, .int (v3 + 1)), (0, .ref v0), (2, .int v2)] o dX10_start_168 rfl rfl (by decide) rfl ?_
  refine g_goto 132 o dX10_start_171 (by decide) ?_
  refine g_sb [1, 2, 0] rfl ?_
  exact i132 v0 v2 (v3 + 1) h hz q e
set_option maxRecDepth 100000 in
set_option maxHeartbeats 4000000 in
theorem kX10_start_132 {X : Cx} (f0 : Nat) (g117 : Nat → Int32 → Hp → Option (Hp)) (i117 : ∀ (v02 : Nat) (v22 : Int32) (h2 : Hp) (hz : Hp), Rt X none hz 0 0 → g117 v02 v22 h2 = some hz → G X 4 117 [(0, .ref v02), (2, .int v22)] [] h2 0 0) (o : Ok X cX10_start RX10 4 rmX10_start none) (f : Nat) (v0 : Nat) (v2 : Int32) (v3 : Int32) (h : Hp) (hz : Hp) (q : Rt X none hz 0 0) (e : bX10_start_132 f0 g117 f v0 v2 v3 h = some hz) : G X 4 132 [(0, .ref v0), (2, .int v2), (3, .int v3)] [] h 0 0 := by
  induction f generalizing v0 v2 v3 h hz with
  | zero => cases e
  | succ f1 ih =>
    unfold bX10_start_132 at e
    refine g_iload_n 2 o dX10_start_132 rfl rfl ?_
    refine g_aload_n 0 o dX10_start_133 rfl rfl ?_
    obtain ⟨x134, q134, e⟩ := ob e
    refine g_getN 0 o cf10 (by decide) mw_276 dX10_start_134 q134 ?_
    obtain ⟨x137, q137, e⟩ := ob e
    refine g_getN 1 o cf6 (by decide) mw_144 dX10_start_137 q137 ?_
    refine g_iconst (v := 0) o dX10_start_140 (by decide) ?_
    obtain ⟨x141, q141, e⟩ := ob e
    refine g_iald o dX10_start_141 q141 ?_
    refine g_icmp_ge (x := v3) (y := x141) 174 o dX10_start_142 (by decide) (fun u => ?_) (fun u => ?_)
    · rw [if_pos u] at e
      refine g_iinc (k := 1) (v := (v2 + 1)) [(2, .int (v2 + 1)), (0, .ref v0), (3, .int v3)] o dX10_start_174 rfl rfl (by decide) rfl ?_
      refine g_goto 117 o dX10_start_177 (by decide) ?_
      refine g_sb [1, 0] rfl ?_
      exact i117 v0 (v2 + 1) h hz q e
    · rw [if_neg u] at e
      refine g_aload_n 0 o dX10_start_145 rfl rfl ?_
      obtain ⟨x146, q146, e⟩ := ob e
      refine g_getN 0 o cf10 (by decide) mw_276 dX10_start_146 q146 ?_
      obtain ⟨x149, q149, e⟩ := ob e
      refine g_getN 5 o cf6 (by decide) mw_160 dX10_start_149 q149 ?_
      refine g_iload_n 1 o dX10_start_152 rfl rfl ?_
      refine g_bipush (v := 8) o dX10_start_153 (by decide) ?_
      refine g_imul (x := v2) (y := 8) o dX10_start_155 ?_
      refine g_iload_n 2 o dX10_start_156 rfl rfl ?_
      refine g_iadd (x := (v2 * 8)) (y := v3) o dX10_start_157 ?_
      obtain ⟨x158, q158, e⟩ := ob e
      refine g_iald o dX10_start_158 q158 ?_
      refine g_if_le (x := x158) 168 o dX10_start_159 (by decide) (fun u => ?_) (fun u => ?_)
      · rw [if_pos u] at e
        exact kX10_start_168 f0 g117 (bX10_start_132 f0 g117 f1) i117 ih o v0 v2 v3 h hz q e
      · rw [if_neg u] at e
        refine g_aload_n 0 o dX10_start_162 rfl rfl ?_
        refine g_iload_n 2 o dX10_start_163 rfl rfl ?_
        refine g_iload_n 1 o dX10_start_164 rfl rfl ?_
        obtain ⟨_, k165, e⟩ := ob e
        obtain ⟨h165, q165, e⟩ := ob e
        refine g_callV0 [.int v3, .int v2] o (mX10_tell q165) cf10 (ckO_s k165) mw_358 mw_359 mw_1683 mw_13 mw_360 rfl yo_X10_tell rfl rfl (Nat.le_of_ble_eq_true rfl) ⟨by decide, by decide⟩ ⟨rfl, rfl⟩ dX10_start_165 ⟨by decide, by decide⟩ ?_
        exact kX10_start_168 f0 g117 (bX10_start_132 f0 g117 f1) i117 ih o v0 v2 v3 h165 hz q e
set_option maxRecDepth 100000 in
set_option maxHeartbeats 4000000 in
theorem kX10_start_117 {X : Cx} (f0 : Nat) (o : Ok X cX10_start RX10 4 rmX10_start none) (f : Nat) (v0 : Nat) (v2 : Int32) (h : Hp) (hz : Hp) (q : Rt X none hz 0 0) (e : bX10_start_117 f0 f v0 v2 h = some hz) : G X 4 117 [(0, .ref v0), (2, .int v2)] [] h 0 0 := by
  induction f generalizing v0 v2 h hz with
  | zero => cases e
  | succ f1 ih =>
    unfold bX10_start_117 at e
    refine g_iload_n 1 o dX10_start_117 rfl rfl ?_
    refine g_aload_n 0 o dX10_start_118 rfl rfl ?_
    obtain ⟨x119, q119, e⟩ := ob e
    refine g_getN 0 o cf10 (by decide) mw_276 dX10_start_119 q119 ?_
    obtain ⟨x122, q122, e⟩ := ob e
    refine g_getN 1 o cf6 (by decide) mw_144 dX10_start_122 q122 ?_
    refine g_iconst (v := 3) o dX10_start_125 (by decide) ?_
    obtain ⟨x126, q126, e⟩ := ob e
    refine g_iald o dX10_start_126 q126 ?_
    refine g_icmp_ge (x := v2) (y := x126) 180 o dX10_start_127 (by decide) (fun u => ?_) (fun u => ?_)
    · rw [if_pos u] at e
      exact g_vret o dX10_start_180 (rt_0 q e)
    · rw [if_neg u] at e
      refine g_iconst (v := 0) o dX10_start_130 (by decide) ?_
      refine g_istore_n [(3, .int 0), (0, .ref v0), (2, .int v2)] o dX10_start_131 rfl (by decide) rfl ?_
      refine g_sb [1, 2, 0] rfl ?_
      exact kX10_start_132 f0 (bX10_start_117 f0 f1) ih o f0 v0 v2 0 h hz q e
set_option maxRecDepth 100000 in
set_option maxHeartbeats 4000000 in
theorem kX10_start_64 {X : Cx} (f0 : Nat) (o : Ok X cX10_start RX10 4 rmX10_start none) (v0 : Nat) (s0 : Nat) (s1 : Int32) (h : Hp) (hz : Hp) (q : Rt X none hz 0 0) (e : bX10_start_64 f0 v0 s0 s1 h = some hz) : G X 4 64 [(0, .ref v0)] [.int s1, .ref s0] h 0 0 := by
  unfold bX10_start_64 at e
  obtain ⟨h64, q64, e⟩ := ob e
  refine g_put (ty1 := .int) 7 o cf10 (by decide) mw_293 rfl (by decide +kernel) rfl rfl dX10_start_64 q64 ?_
  refine g_aload_n 0 o dX10_start_67 rfl rfl ?_
  refine g_iconst (v := 0) o dX10_start_68 (by decide) ?_
  obtain ⟨h69, q69, e⟩ := ob e
  refine g_put (ty1 := .int) 8 o cf10 (by decide) mw_295 rfl (by decide +kernel) rfl rfl dX10_start_69 q69 ?_
  refine g_aload_n 0 o dX10_start_72 rfl rfl ?_
  obtain ⟨x73, q73, e⟩ := ob e
  refine g_getN 9 o cf10 (by decide) mw_297 dX10_start_73 q73 ?_
  refine g_iconst (v := 0) o dX10_start_76 (by decide) ?_
  obtain ⟨h77, q77, e⟩ := ob e
  refine g_callS0 [.ref x73, .int 0] o (mJ7_fill_53178 q77) mw_351 mw_352 mw_16 mw_353 yo_J7_fill_53178 rfl rfl (Nat.le_of_ble_eq_true rfl) ⟨by decide, by decide⟩ ⟨rfl, rfl⟩ dX10_start_77 ⟨by decide, by decide⟩ ?_
  refine g_aload_n 0 o dX10_start_80 rfl rfl ?_
  obtain ⟨x81, q81, e⟩ := ob e
  refine g_getN 10 o cf10 (by decide) mw_299 dX10_start_81 q81 ?_
  refine g_iconst (v := 0) o dX10_start_84 (by decide) ?_
  obtain ⟨h85, q85, e⟩ := ob e
  refine g_callS0 [.ref x81, .int 0] o (mJ7_fill_53178 q85) mw_351 mw_352 mw_16 mw_353 yo_J7_fill_53178 rfl rfl (Nat.le_of_ble_eq_true rfl) ⟨by decide, by decide⟩ ⟨rfl, rfl⟩ dX10_start_85 ⟨by decide, by decide⟩ ?_
  refine g_aload_n 0 o dX10_start_88 rfl rfl ?_
  obtain ⟨x89, q89, e⟩ := ob e
  refine g_getN 0 o cf10 (by decide) mw_276 dX10_start_89 q89 ?_
  obtain ⟨x92, q92, e⟩ := ob e
  refine g_getN 8 o cf6 (by decide) mw_169 dX10_start_92 q92 ?_
  refine g_iconst (v := 0) o dX10_start_95 (by decide) ?_
  refine g_aload_n 0 o dX10_start_96 rfl rfl ?_
  obtain ⟨x97, q97, e⟩ := ob e
  refine g_getN 11 o cf10 (by decide) mw_300 dX10_start_97 q97 ?_
  refine g_iconst (v := 0) o dX10_start_100 (by decide) ?_
  refine g_bipush (v := 8) o dX10_start_101 (by decide) ?_
  obtain ⟨h103, q103, e⟩ := ob e
  refine g_cpI (t := 1) (ty := FieldType.int) rfl rfl (fun _ => rfl) o mw_354 mw_356 mw_355 mw_17 ⟨by decide, Nat.le_of_ble_eq_true rfl⟩ dX10_start_103 q103 ?_
  refine g_aload_n 0 o dX10_start_106 rfl rfl ?_
  obtain ⟨x107, q107, e⟩ := ob e
  refine g_getN 12 o cf10 (by decide) mw_302 dX10_start_107 q107 ?_
  refine g_ldc (v := 1000000) o dX10_start_110 mw_357 ?_
  obtain ⟨h112, q112, e⟩ := ob e
  refine g_callS0 [.ref x107, .int 1000000] o (mJ7_fill_53178 q112) mw_351 mw_352 mw_16 mw_353 yo_J7_fill_53178 rfl rfl (Nat.le_of_ble_eq_true rfl) ⟨by decide, by decide⟩ ⟨rfl, rfl⟩ dX10_start_112 ⟨by decide, by decide⟩ ?_
  refine g_iconst (v := 0) o dX10_start_115 (by decide) ?_
  refine g_istore_n [(2, .int 0), (0, .ref v0)] o dX10_start_116 rfl (by decide) rfl ?_
  refine g_sb [1, 0] rfl ?_
  exact kX10_start_117 f0 o f0 v0 0 h112 hz q e
set_option maxRecDepth 100000 in
set_option maxHeartbeats 4000000 in
theorem kX10_start_36 {X : Cx} (f0 : Nat) (o : Ok X cX10_start RX10 4 rmX10_start none) (v0 : Nat) (v1 : Int32) (s0 : Nat) (s1 : Int32) (h : Hp) (hz : Hp) (q : Rt X none hz 0 0) (e : bX10_start_36 f0 v0 v1 s0 s1 h = some hz) : G X 4 36 [(0, .ref v0), (1, .int v1)] [.int s1, .ref s0] h 0 0 := by
  unfold bX10_start_36 at e
  obtain ⟨h36, q36, e⟩ := ob e
  refine g_put (ty1 := .int) 3 o cf10 (by decide) mw_284 rfl (by decide +kernel) rfl rfl dX10_start_36 q36 ?_
  refine g_aload_n 0 o dX10_start_39 rfl rfl ?_
  refine g_iconst (v := -1) o dX10_start_40 (by decide) ?_
  obtain ⟨h41, q41, e⟩ := ob e
  refine g_put (ty1 := .int) 4 o cf10 (by decide) mw_286 rfl (by decide +kernel) rfl rfl dX10_start_41 q41 ?_
  refine g_aload_n 0 o dX10_start_44 rfl rfl ?_
  refine g_iconst (v := 0) o dX10_start_45 (by decide) ?_
  obtain ⟨h46, q46, e⟩ := ob e
  refine g_put (ty1 := .int) 5 o cf10 (by decide) mw_288 rfl (by decide +kernel) rfl rfl dX10_start_46 q46 ?_
  refine g_aload_n 0 o dX10_start_49 rfl rfl ?_
  refine g_iconst (v := 0) o dX10_start_50 (by decide) ?_
  obtain ⟨h51, q51, e⟩ := ob e
  refine g_put (ty1 := .boolean) 6 o cf10 (by decide) mw_290 rfl (by decide +kernel) (nar_z (pfZ_s q51).1).1 (nar_z (pfZ_s q51).1).2 dX10_start_51 (pfZ_s q51).2 ?_
  refine g_aload_n 0 o dX10_start_54 rfl rfl ?_
  refine g_iload_n 1 o dX10_start_55 rfl rfl ?_
  refine g_if_eq (x := v1) 63 o dX10_start_56 (by decide) (fun u => ?_) (fun u => ?_)
  · rw [if_pos u] at e
    refine g_iconst (v := 0) o dX10_start_63 (by decide) ?_
    refine g_sb [0] rfl ?_
    exact kX10_start_64 f0 o v0 v0 0 h51 hz q e
  · rw [if_neg u] at e
    refine g_iconst (v := 1) o dX10_start_59 (by decide) ?_
    refine g_goto 64 o dX10_start_60 (by decide) ?_
    refine g_sb [0] rfl ?_
    exact kX10_start_64 f0 o v0 v0 1 h51 hz q e
set_option maxRecDepth 100000 in
set_option maxHeartbeats 4000000 in
theorem kX10_start_23 {X : Cx} (f0 : Nat) (o : Ok X cX10_start RX10 4 rmX10_start none) (v0 : Nat) (v1 : Int32) (s0 : Nat) (s1 : Int32) (h : Hp) (hz : Hp) (q : Rt X none hz 0 0) (e : bX10_start_23 f0 v0 v1 s0 s1 h = some hz) : G X 4 23 [(0, .ref v0), (1, .int v1)] [.int s1, .ref s0] h 0 0 := by
  unfold bX10_start_23 at e
  obtain ⟨h23, q23, e⟩ := ob e
  refine g_put (ty1 := .int) 2 o cf10 (by decide) mw_281 rfl (by decide +kernel) rfl rfl dX10_start_23 q23 ?_
  refine g_aload_n 0 o dX10_start_26 rfl rfl ?_
  refine g_iload_n 1 o dX10_start_27 rfl rfl ?_
  refine g_if_eq (x := v1) 35 o dX10_start_28 (by decide) (fun u => ?_) (fun u => ?_)
  · rw [if_pos u] at e
    refine g_iconst (v := -1) o dX10_start_35 (by decide) ?_
    exact kX10_start_36 f0 o v0 v1 v0 (-1) h23 hz q e
  · rw [if_neg u] at e
    refine g_iconst (v := 0) o dX10_start_31 (by decide) ?_
    refine g_goto 36 o dX10_start_32 (by decide) ?_
    exact kX10_start_36 f0 o v0 v1 v0 0 h23 hz q e
theorem yo_X10_start : yok yX10_start 0 := ⟨by decide, by decide, by decide +kernel⟩
set_option maxRecDepth 100000 in
set_option maxHeartbeats 4000000 in
theorem mX10_start {l : Launch} {D : va_G} {cy : Nat → ClassId} {f0 : Nat} {a : Nat} {h : Hp} {hz : Hp} (e : fX10_start f0 a h = some hz) : MC l D cy yX10_start cX10_start 4 none rmX10_start [.ref a] h none hz := by
  refine mc_of2 (by decide) (Nat.le_of_ble_eq_true rfl) (fun X hl hD hy hin o q => ?_)
  subst hl; subst hD; subst hy
  show G X 4 0 [(0, .ref a)] [] h 0 0
  unfold fX10_start at e
  refine g_aload_n 0 o dX10_start_0 rfl rfl ?_
  obtain ⟨x1, q1, e⟩ := ob e
  refine g_getN 0 o cf10 (by decide) mw_276 dX10_start_1 q1 ?_
  obtain ⟨_, k4, e⟩ := ob e
  obtain ⟨x4, h4, q4, e⟩ := ob2_s e
  refine g_callVv [] o (mX6_isForHer q4) cf6 (ckO_s k4) mw_347 mw_348 mw_349 mw_7 mw_350 rfl yo_X6_isForHer rfl rfl (Nat.le_of_ble_eq_true rfl) ⟨by decide, by decide⟩ ⟨rfl, rfl⟩ dX10_start_4 ⟨by decide, by decide⟩ ?_
  refine g_istore_n [(1, .int x4), (0, .ref a)] o dX10_start_7 rfl (by decide) rfl ?_
  refine g_aload_n 1 o dX10_start_8 rfl rfl ?_
  refine g_iconst (v := 0) o dX10_start_9 (by decide) ?_
  obtain ⟨h10, q10, e⟩ := ob e
  refine g_put (ty1 := .int) 1 o cf10 (by decide) mw_278 rfl (by decide +kernel) rfl rfl dX10_start_10 q10 ?_
  refine g_aload_n 1 o dX10_start_13 rfl rfl ?_
  refine g_iload_n 0 o dX10_start_14 rfl rfl ?_
  refine g_if_eq (x := x4) 22 o dX10_start_15 (by decide) (fun u => ?_) (fun u => ?_)
  · rw [if_pos u] at e
    refine g_iconst (v := -1) o dX10_start_22 (by decide) ?_
    refine g_sb [1, 0] rfl ?_
    exact kX10_start_23 f0 o a x4 a (-1) h10 hz q e
  · rw [if_neg u] at e
    refine g_iconst (v := 0) o dX10_start_18 (by decide) ?_
    refine g_goto 23 o dX10_start_19 (by decide) ?_
    refine g_sb [1, 0] rfl ?_
    exact kX10_start_23 f0 o a x4 a 0 h10 hz q e
set_option maxRecDepth 100000 in
set_option maxHeartbeats 4000000 in
theorem kX11_putBytes_3 {X : Cx} (f0 : Nat) (o : Ok X cX11_putBytes RX11 3 rmX11_putBytes none) (f : Nat) (v0 : Nat) (v1 : Int32) (v2 : Int32) (h : Hp) (hz : Hp) (q : Rt X none hz 0 0) (e : bX11_putBytes_3 f0 f v0 v1 v2 h = some hz) : G X 3 3 [(0, .ref v0), (1, .int v1), (2, .int v2)] [] h 0 0 := by
  induction f generalizing v0 v1 v2 h hz with
  | zero => cases e
  | succ f1 ih =>
    unfold bX11_putBytes_3 at e
    refine g_iload_n 2 o dX11_putBytes_3 rfl rfl ?_
    refine g_if_lt (x := v2) 46 o dX11_putBytes_4 (by decide) (fun u => ?_) (fun u => ?_)
    · rw [if_pos u] at e
      exact g_vret o dX11_putBytes_46 (rt_0 q e)
    · rw [if_neg u] at e
      refine g_aload_n 0 o dX11_putBytes_7 rfl rfl ?_
      obtain ⟨x8, q8, e⟩ := ob e
      refine g_getI 1 o cf11 (by decide) mw_365 dX11_putBytes_8 q8 ?_
      refine g_sipush (v := 940) o dX11_putBytes_11 (by decide) ?_
      refine g_icmp_ge (x := x8) (y := 940) 46 o dX11_putBytes_14 (by decide) (fun u => ?_) (fun u => ?_)
      · rw [if_pos u] at e
        exact g_vret o dX11_putBytes_46 (rt_0 q e)
      · rw [if_neg u] at e
        refine g_aload_n 0 o dX11_putBytes_17 rfl rfl ?_
        obtain ⟨x18, q18, e⟩ := ob e
        refine g_getN 0 o cf11 (by decide) mw_364 dX11_putBytes_18 q18 ?_
        refine g_aload_n 0 o dX11_putBytes_21 rfl rfl ?_
        obtain ⟨x22, q22, e⟩ := ob e
        refine g_getI 1 o cf11 (by decide) mw_365 dX11_putBytes_22 q22 ?_
        refine g_iload_n 1 o dX11_putBytes_25 rfl rfl ?_
        refine g_iload_n 2 o dX11_putBytes_26 rfl rfl ?_
        refine g_iushr (x := v1) (y := v2) o dX11_putBytes_27 ?_
        refine g_i2b (x := ((Int32.toUInt32 v1 >>> (Int32.toUInt32 v2 &&& Int32.toUInt32 31)).toInt32)) o dX11_putBytes_28 ?_
        obtain ⟨h29, q29, e⟩ := ob e
        refine g_bast o dX11_putBytes_29 q29 ?_
        refine g_aload_n 0 o dX11_putBytes_30 rfl rfl ?_
        refine g_dup o dX11_putBytes_31 rfl ?_
        obtain ⟨x32, q32, e⟩ := ob e
        refine g_getI 1 o cf11 (by decide) mw_365 dX11_putBytes_32 q32 ?_
        refine g_iconst (v := 1) o dX11_putBytes_35 (by decide) ?_
        refine g_iadd (x := x32) (y := 1) o dX11_putBytes_36 ?_
        obtain ⟨h37, q37, e⟩ := ob e
        refine g_put (ty1 := .int) 1 o cf11 (by decide) mw_365 rfl (by decide +kernel) rfl rfl dX11_putBytes_37 q37 ?_
        refine g_iinc (k := 2) (v := (v2 + (-8))) [(2, .int (v2 + (-8))), (0, .ref v0), (1, .int v1)] o dX11_putBytes_40 rfl rfl (by decide) rfl ?_
        refine g_goto 3 o dX11_putBytes_43 (by decide) ?_
        refine g_sb [1, 2, 0] rfl ?_
        exact ih v0 v1 (v2 + (-8)) h37 hz q e
theorem yo_X11_putBytes : yok yX11_putBytes 1 := ⟨by decide, by decide, by decide +kernel⟩
set_option maxRecDepth 100000 in
set_option maxHeartbeats 4000000 in
theorem mX11_putBytes {l : Launch} {D : va_G} {cy : Nat → ClassId} {f0 : Nat} {a : Nat} {p0 : Int32} {h : Hp} {hz : Hp} (e : fX11_putBytes f0 a p0 h = some hz) : MC l D cy yX11_putBytes cX11_putBytes 3 none rmX11_putBytes [.ref a, .int p0] h none hz := by
  refine mc_of2 (by decide) (Nat.le_of_ble_eq_true rfl) (fun X hl hD hy hin o q => ?_)
  subst hl; subst hD; subst hy
  show G X 3 0 [(0, .ref a), (1, .int p0)] [] h 0 0
  unfold fX11_putBytes at e
  refine g_bipush (v := 24) o dX11_putBytes_0 (by decide) ?_
  refine g_istore_n [(2, .int 24), (0, .ref a), (1, .int p0)] o dX11_putBytes_2 rfl (by decide) rfl ?_
  refine g_sb [1, 2, 0] rfl ?_
  exact kX11_putBytes_3 f0 o f0 a p0 24 h hz q e
theorem yo_X11_feed : yok yX11_feed 5 := ⟨by decide, by decide, by decide +kernel⟩
set_option maxRecDepth 100000 in
set_option maxHeartbeats 4000000 in
theorem mX11_feed {l : Launch} {D : va_G} {cy : Nat → ClassId} {f0 : Nat} {a : Nat} {p0 : Int32} {p1 : Int32} {p2 : Int32} {p3 : Int32} {p4 : Int32} {h : Hp} {r : Int32} {hz : Hp} (e : fX11_feed f0 a p0 p1 p2 p3 p4 h = some (r, hz)) : MC l D cy yX11_feed cX11_feed 6 (some .int) rmX11_feed [.ref a, .int p0, .int p1, .int p2, .int p3, .int p4] h (some (.int r)) hz := by
  refine mc_of2 (by decide) (Nat.le_of_ble_eq_true rfl) (fun X hl hD hy hin o q => ?_)
  subst hl; subst hD; subst hy
  show G X 6 0 [(0, .ref a), (1, .int p0), (2, .int p1), (3, .int p2), (4, .int p3), (5, .int p4)] [] h 0 0
  unfold fX11_feed at e
  refine g_aload_n 0 o dX11_feed_0 rfl rfl ?_
  obtain ⟨x1, q1, e⟩ := ob e
  refine g_getI 1 o cf11 (by decide) mw_365 dX11_feed_1 q1 ?_
  refine g_bipush (v := 20) o dX11_feed_4 (by decide) ?_
  refine g_iadd (x := x1) (y := 20) o dX11_feed_6 ?_
  refine g_sipush (v := 940) o dX11_feed_7 (by decide) ?_
  refine g_icmp_le (x := (x1 + 20)) (y := 940) 15 o dX11_feed_10 (by decide) (fun u => ?_) (fun u => ?_)
  · rw [if_pos u] at e
    refine g_aload_n 0 o dX11_feed_15 rfl rfl ?_
    refine g_iload_n 1 o dX11_feed_16 rfl rfl ?_
    obtain ⟨_, k17, e⟩ := ob e
    obtain ⟨h17, q17, e⟩ := ob e
    refine g_callV0 [.int p0] o (mX11_putBytes q17) cf11 (ckO_s k17) mw_404 mw_405 mw_1684 mw_1 mw_406 rfl yo_X11_putBytes rfl rfl (Nat.le_of_ble_eq_true rfl) ⟨by decide, by decide⟩ ⟨rfl, rfl⟩ dX11_feed_17 ⟨by decide, by decide⟩ ?_
    refine g_aload_n 0 o dX11_feed_20 rfl rfl ?_
    refine g_iload_n 2 o dX11_feed_21 rfl rfl ?_
    obtain ⟨_, k22, e⟩ := ob e
    obtain ⟨h22, q22, e⟩ := ob e
    refine g_callV0 [.int p1] o (mX11_putBytes q22) cf11 (ckO_s k22) mw_404 mw_405 mw_1684 mw_1 mw_406 rfl yo_X11_putBytes rfl rfl (Nat.le_of_ble_eq_true rfl) ⟨by decide, by decide⟩ ⟨rfl, rfl⟩ dX11_feed_22 ⟨by decide, by decide⟩ ?_
    refine g_aload_n 0 o dX11_feed_25 rfl rfl ?_
    refine g_iload_n 3 o dX11_feed_26 rfl rfl ?_
    obtain ⟨_, k27, e⟩ := ob e
    obtain ⟨h27, q27, e⟩ := ob e
    refine g_callV0 [.int p2] o (mX11_putBytes q27) cf11 (ckO_s k27) mw_404 mw_405 mw_1684 mw_1 mw_406 rfl yo_X11_putBytes rfl rfl (Nat.le_of_ble_eq_true rfl) ⟨by decide, by decide⟩ ⟨rfl, rfl⟩ dX11_feed_27 ⟨by decide, by decide⟩ ?_
    refine g_aload_n 0 o dX11_feed_30 rfl rfl ?_
    refine g_iload 4 o dX11_feed_31 rfl ?_
    obtain ⟨_, k33, e⟩ := ob e
    obtain ⟨h33, q33, e⟩ := ob e
    refine g_callV0 [.int p3] o (mX11_putBytes q33) cf11 (ckO_s k33) mw_404 mw_405 mw_1684 mw_1 mw_406 rfl yo_X11_putBytes rfl rfl (Nat.le_of_ble_eq_true rfl) ⟨by decide, by decide⟩ ⟨rfl, rfl⟩ dX11_feed_33 ⟨by decide, by decide⟩ ?_
    refine g_aload_n 0 o dX11_feed_36 rfl rfl ?_
    refine g_iload 5 o dX11_feed_37 rfl ?_
    obtain ⟨_, k39, e⟩ := ob e
    obtain ⟨h39, q39, e⟩ := ob e
    refine g_callV0 [.int p4] o (mX11_putBytes q39) cf11 (ckO_s k39) mw_404 mw_405 mw_1684 mw_1 mw_406 rfl yo_X11_putBytes rfl rfl (Nat.le_of_ble_eq_true rfl) ⟨by decide, by decide⟩ ⟨rfl, rfl⟩ dX11_feed_39 ⟨by decide, by decide⟩ ?_
    refine g_aload_n 0 o dX11_feed_42 rfl rfl ?_
    obtain ⟨x43, q43, e⟩ := ob e
    refine g_getI 1 o cf11 (by decide) mw_365 dX11_feed_43 q43 ?_
    exact g_iret o dX11_feed_46 (rt_v q e)
  · rw [if_neg u] at e
    refine g_iconst (v := -1) o dX11_feed_13 (by decide) ?_
    exact g_iret o dX11_feed_14 (rt_v q e)
theorem yo_X11_end : yok yX11_end 1 := ⟨by decide, by decide, by decide +kernel⟩
set_option maxRecDepth 100000 in
set_option maxHeartbeats 4000000 in
theorem mX11_end {l : Launch} {D : va_G} {cy : Nat → ClassId} {f0 : Nat} {a : Nat} {p0 : Int32} {h : Hp} {r : Int32} {hz : Hp} (e : fX11_end f0 a p0 h = some (r, hz)) : MC l D cy yX11_end cX11_end 2 (some .boolean) rmX11_end [.ref a, .int p0] h (some (.int r)) hz := by
  refine mc_of2 (by decide) (Nat.le_of_ble_eq_true rfl) (fun X hl hD hy hin o q => ?_)
  subst hl; subst hD; subst hy
  show G X 2 0 [(0, .ref a), (1, .int p0)] [] h 0 0
  unfold fX11_end at e
  refine g_iload_n 1 o dX11_end_0 rfl rfl ?_
  refine g_if_lt (x := p0) 12 o dX11_end_1 (by decide) (fun u => ?_) (fun u => ?_)
  · rw [if_pos u] at e
    refine g_iconst (v := 0) o dX11_end_12 (by decide) ?_
    exact g_zret o dX11_end_13 (zr_s e).1 (rt_v q (zr_s e).2)
  · rw [if_neg u] at e
    refine g_iload_n 1 o dX11_end_4 rfl rfl ?_
    refine g_aload_n 0 o dX11_end_5 rfl rfl ?_
    obtain ⟨x6, q6, e⟩ := ob e
    refine g_getI 1 o cf11 (by decide) mw_365 dX11_end_6 q6 ?_
    refine g_icmp_le (x := p0) (y := x6) 14 o dX11_end_9 (by decide) (fun u => ?_) (fun u => ?_)
    · rw [if_pos u] at e
      refine g_aload_n 0 o dX11_end_14 rfl rfl ?_
      refine g_iload_n 1 o dX11_end_15 rfl rfl ?_
      obtain ⟨h16, q16, e⟩ := ob e
      refine g_put (ty1 := .int) 1 o cf11 (by decide) mw_365 rfl (by decide +kernel) rfl rfl dX11_end_16 q16 ?_
      refine g_iconst (v := 1) o dX11_end_19 (by decide) ?_
      exact g_zret o dX11_end_20 (zr_s e).1 (rt_v q (zr_s e).2)
    · rw [if_neg u] at e
      refine g_iconst (v := 0) o dX11_end_12 (by decide) ?_
      exact g_zret o dX11_end_13 (zr_s e).1 (rt_v q (zr_s e).2)
theorem yo_X11_takeTape : yok yX11_takeTape 0 := ⟨by decide, by decide, by decide +kernel⟩
set_option maxRecDepth 100000 in
set_option maxHeartbeats 4000000 in
theorem mX11_takeTape {l : Launch} {D : va_G} {cy : Nat → ClassId} {f0 : Nat} {a : Nat} {h : Hp} {r : Int32} {hz : Hp} (e : fX11_takeTape f0 a h = some (r, hz)) : MC l D cy yX11_takeTape cX11_takeTape 2 (some .int) rmX11_takeTape [.ref a] h (some (.int r)) hz := by
  refine mc_of2 (by decide) (Nat.le_of_ble_eq_true rfl) (fun X hl hD hy hin o q => ?_)
  subst hl; subst hD; subst hy
  show G X 2 0 [(0, .ref a)] [] h 0 0
  unfold fX11_takeTape at e
  refine g_aload_n 0 o dX11_takeTape_0 rfl rfl ?_
  obtain ⟨x1, q1, e⟩ := ob e
  refine g_getI 1 o cf11 (by decide) mw_365 dX11_takeTape_1 q1 ?_
  refine g_istore_n [(1, .int x1), (0, .ref a)] o dX11_takeTape_4 rfl (by decide) rfl ?_
  refine g_aload_n 1 o dX11_takeTape_5 rfl rfl ?_
  refine g_iconst (v := 0) o dX11_takeTape_6 (by decide) ?_
  obtain ⟨h7, q7, e⟩ := ob e
  refine g_put (ty1 := .int) 1 o cf11 (by decide) mw_365 rfl (by decide +kernel) rfl rfl dX11_takeTape_7 q7 ?_
  refine g_iload_n 0 o dX11_takeTape_10 rfl rfl ?_
  exact g_iret o dX11_takeTape_11 (rt_v q e)
set_option maxRecDepth 100000 in
set_option maxHeartbeats 4000000 in
theorem kX4_readRun_136 {X : Cx} (f0 : Nat) (g15 : Nat → Int32 → Int32 → Hp → Option (Int32 × Hp)) (i15 : ∀ (v02 : Nat) (v12 : Int32) (v22 : Int32) (h2 : Hp) (r : Int32) (hz : Hp), Rt X (some (.int r)) hz 0 0 → g15 v02 v12 v22 h2 = some (r, hz) → G X 4 15 [(0, .ref v02), (1, .int v12), (2, .int v22)] [] h2 0 0) (o : Ok X cX4_readRun RX4 4 rmX4_readRun (some .int)) (v0 : Nat) (v1 : Int32) (v2 : Int32) (h : Hp) (r : Int32) (hz : Hp) (q : Rt X (some (.int r)) hz 0 0) (e : bX4_readRun_136 f0 g15 v0 v1 v2 h = some (r, hz)) : G X 4 136 [(0, .ref v0), (1, .int v1), (2, .int v2)] [] h 0 0 := by
  unfold bX4_readRun_136 at e
  refine g_aload_n 0 o dX4_readRun_136 rfl rfl ?_
  refine g_dup o dX4_readRun_137 rfl ?_
  obtain ⟨x138, q138, e⟩ := ob e
  refine g_getI 4 o cf4 (by decide) mw_88 dX4_readRun_138 q138 ?_
  refine g_iconst (v := 1) o dX4_readRun_141 (by decide) ?_
  refine g_iadd (x := x138) (y := 1) o dX4_readRun_142 ?_
  obtain ⟨h143, q143, e⟩ := ob e
  refine g_put (ty1 := .int) 4 o cf4 (by decide) mw_88 rfl (by decide +kernel) rfl rfl dX4_readRun_143 q143 ?_
  refine g_goto 15 o dX4_readRun_146 (by decide) ?_
  exact i15 v0 v1 v2 h143 r hz q e
set_option maxRecDepth 100000 in
set_option maxHeartbeats 4000000 in
theorem kX4_readRun_70 {X : Cx} (f0 : Nat) (g15 : Nat → Int32 → Int32 → Hp → Option (Int32 × Hp)) (i15 : ∀ (v02 : Nat) (v12 : Int32) (v22 : Int32) (h2 : Hp) (r : Int32) (hz : Hp), Rt X (some (.int r)) hz 0 0 → g15 v02 v12 v22 h2 = some (r, hz) → G X 4 15 [(0, .ref v02), (1, .int v12), (2, .int v22)] [] h2 0 0) (o : Ok X cX4_readRun RX4 4 rmX4_readRun (some .int)) (v0 : Nat) (v1 : Int32) (v2 : Int32) (s0 : Nat) (s1 : Int64) (s2 : Int64) (h : Hp) (r : Int32) (hz : Hp) (q : Rt X (some (.int r)) hz 0 0) (e : bX4_readRun_70 f0 g15 v0 v1 v2 s0 s1 s2 h = some (r, hz)) : G X 4 70 [(0, .ref v0), (1, .int v1), (2, .int v2)] [.long s2, .long s1, .ref s0] h 0 0 := by
  unfold bX4_readRun_70 at e
  refine g_lor (x := s1) (y := s2) o dX4_readRun_70 ?_
  obtain ⟨h71, q71, e⟩ := ob e
  refine g_put (ty1 := .long) 7 o cf4 (by decide) mw_94 rfl (by decide +kernel) rfl rfl dX4_readRun_71 q71 ?_
  refine g_iinc (k := 2) (v := (v2 + (-5))) [(2, .int (v2 + (-5))), (0, .ref v0), (1, .int v1)] o dX4_readRun_74 rfl rfl (by decide) rfl ?_
  refine g_iinc (k := 2) (v := (v1 + 1)) [(1, .int (v1 + 1)), (2, .int (v2 + (-5))), (0, .ref v0)] o dX4_readRun_77 rfl rfl (by decide) rfl ?_
  refine g_goto 136 o dX4_readRun_80 (by decide) ?_
  refine g_sb [2, 0, 1] rfl ?_
  exact kX4_readRun_136 f0 g15 i15 o v0 (v1 + 1) (v2 + (-5)) h71 r hz q e
set_option maxRecDepth 100000 in
set_option maxHeartbeats 4000000 in
theorem kX4_readRun_128 {X : Cx} (f0 : Nat) (g15 : Nat → Int32 → Int32 → Hp → Option (Int32 × Hp)) (i15 : ∀ (v02 : Nat) (v12 : Int32) (v22 : Int32) (h2 : Hp) (r : Int32) (hz : Hp), Rt X (some (.int r)) hz 0 0 → g15 v02 v12 v22 h2 = some (r, hz) → G X 4 15 [(0, .ref v02), (1, .int v12), (2, .int v22)] [] h2 0 0) (o : Ok X cX4_readRun RX4 4 rmX4_readRun (some .int)) (v0 : Nat) (v1 : Int32) (v2 : Int32) (s0 : Nat) (s1 : Int32) (h : Hp) (r : Int32) (hz : Hp) (q : Rt X (some (.int r)) hz 0 0) (e : bX4_readRun_128 f0 g15 v0 v1 v2 s0 s1 h = some (r, hz)) : G X 4 128 [(0, .ref v0), (1, .int v1), (2, .int v2)] [.int s1, .ref s0] h 0 0 := by
  unfold bX4_readRun_128 at e
  obtain ⟨h128, q128, e⟩ := ob e
  refine g_put (ty1 := .int) 9 o cf4 (by decide) mw_100 rfl (by decide +kernel) rfl rfl dX4_readRun_128 q128 ?_
  refine g_goto 136 o dX4_readRun_131 (by decide) ?_
  exact kX4_readRun_136 f0 g15 i15 o v0 v1 v2 h128 r hz q e
set_option maxRecDepth 100000 in
set_option maxHeartbeats 4000000 in
theorem kX4_readRun_134 {X : Cx} (f0 : Nat) (o : Ok X cX4_readRun RX4 4 rmX4_readRun (some .int)) (v1 : Int32) (h : Hp) (r : Int32) (hz : Hp) (q : Rt X (some (.int r)) hz 0 0) (e : bX4_readRun_134 f0 v1 h = some (r, hz)) : G X 4 134 [(1, .int v1)] [] h 0 0 := by
  unfold bX4_readRun_134 at e
  refine g_iload_n 0 o dX4_readRun_134 rfl rfl ?_
  exact g_iret o dX4_readRun_135 (rt_v q e)
set_option maxRecDepth 100000 in
set_option maxHeartbeats 4000000 in
theorem kX4_readRun_83 {X : Cx} (f0 : Nat) (g15 : Nat → Int32 → Int32 → Hp → Option (Int32 × Hp)) (i15 : ∀ (v02 : Nat) (v12 : Int32) (v22 : Int32) (h2 : Hp) (r : Int32) (hz : Hp), Rt X (some (.int r)) hz 0 0 → g15 v02 v12 v22 h2 = some (r, hz) → G X 4 15 [(0, .ref v02), (1, .int v12), (2, .int v22)] [] h2 0 0) (o : Ok X cX4_readRun RX4 4 rmX4_readRun (some .int)) (v0 : Nat) (v1 : Int32) (v2 : Int32) (v3 : Int32) (h : Hp) (r : Int32) (hz : Hp) (q : Rt X (some (.int r)) hz 0 0) (e : bX4_readRun_83 f0 g15 v0 v1 v2 v3 h = some (r, hz)) : G X 4 83 [(0, .ref v0), (1, .int v1), (2, .int v2), (3, .int v3)] [] h 0 0 := by
  unfold bX4_readRun_83 at e
  refine g_iload_n 3 o dX4_readRun_83 rfl rfl ?_
  refine g_bipush (v := 48) o dX4_readRun_84 (by decide) ?_
  refine g_icmp_lt (x := v3) (y := 48) 134 o dX4_readRun_86 (by decide) (fun u => ?_) (fun u => ?_)
  · rw [if_pos u] at e
    refine g_sb [1] rfl ?_
    exact kX4_readRun_134 f0 o v1 h r hz q e
  · rw [if_neg u] at e
    refine g_iload_n 3 o dX4_readRun_89 rfl rfl ?_
    refine g_bipush (v := 57) o dX4_readRun_90 (by decide) ?_
    refine g_icmp_gt (x := v3) (y := 57) 134 o dX4_readRun_92 (by decide) (fun u => ?_) (fun u => ?_)
    · rw [if_pos u] at e
      refine g_sb [1] rfl ?_
      exact kX4_readRun_134 f0 o v1 h r hz q e
    · rw [if_neg u] at e
      refine g_aload_n 0 o dX4_readRun_95 rfl rfl ?_
      refine g_aload_n 0 o dX4_readRun_96 rfl rfl ?_
      obtain ⟨x97, q97, e⟩ := ob e
      refine g_getI 4 o cf4 (by decide) mw_88 dX4_readRun_97 q97 ?_
      refine g_aload_n 0 o dX4_readRun_100 rfl rfl ?_
      obtain ⟨x101, q101, e⟩ := ob e
      refine g_getI 6 o cf4 (by decide) mw_93 dX4_readRun_101 q101 ?_
      refine g_isub (x := x97) (y := x101) o dX4_readRun_104 ?_
      refine g_iconst (v := 3) o dX4_readRun_105 (by decide) ?_
      refine g_icmp_ge (x := (x97 - x101)) (y := 3) 124 o dX4_readRun_106 (by decide) (fun u => ?_) (fun u => ?_)
      · rw [if_pos u] at e
        refine g_aload_n 0 o dX4_readRun_124 rfl rfl ?_
        obtain ⟨x125, q125, e⟩ := ob e
        refine g_getI 9 o cf4 (by decide) mw_100 dX4_readRun_125 q125 ?_
        refine g_sb [0, 1, 2] rfl ?_
        exact kX4_readRun_128 f0 g15 i15 o v0 v1 v2 v0 x125 h r hz q e
      · rw [if_neg u] at e
        refine g_aload_n 0 o dX4_readRun_109 rfl rfl ?_
        obtain ⟨x110, q110, e⟩ := ob e
        refine g_getI 9 o cf4 (by decide) mw_100 dX4_readRun_110 q110 ?_
        refine g_bipush (v := 10) o dX4_readRun_113 (by decide) ?_
        refine g_imul (x := x110) (y := 10) o dX4_readRun_115 ?_
        refine g_iload_n 3 o dX4_readRun_116 rfl rfl ?_
        refine g_iadd (x := (x110 * 10)) (y := v3) o dX4_readRun_117 ?_
        refine g_bipush (v := 48) o dX4_readRun_118 (by decide) ?_
        refine g_isub (x := ((x110 * 10) + v3)) (y := 48) o dX4_readRun_120 ?_
        refine g_goto 128 o dX4_readRun_121 (by decide) ?_
        refine g_sb [0, 1, 2] rfl ?_
        exact kX4_readRun_128 f0 g15 i15 o v0 v1 v2 v0 (((x110 * 10) + v3) - 48) h r hz q e
set_option maxRecDepth 100000 in
set_option maxHeartbeats 4000000 in
theorem kX4_readRun_15 {X : Cx} (f0 : Nat) (o : Ok X cX4_readRun RX4 4 rmX4_readRun (some .int)) (f : Nat) (v0 : Nat) (v1 : Int32) (v2 : Int32) (h : Hp) (r : Int32) (hz : Hp) (q : Rt X (some (.int r)) hz 0 0) (e : bX4_readRun_15 f0 f v0 v1 v2 h = some (r, hz)) : G X 4 15 [(0, .ref v0), (1, .int v1), (2, .int v2)] [] h 0 0 := by
  induction f generalizing v0 v1 v2 h r hz with
  | zero => cases e
  | succ f1 ih =>
    unfold bX4_readRun_15 at e
    refine g_aload_n 0 o dX4_readRun_15 rfl rfl ?_
    obtain ⟨x16, q16, e⟩ := ob e
    refine g_getI 4 o cf4 (by decide) mw_88 dX4_readRun_16 q16 ?_
    refine g_aload_n 0 o dX4_readRun_19 rfl rfl ?_
    obtain ⟨x20, q20, e⟩ := ob e
    refine g_getI 2 o cf4 (by decide) mw_86 dX4_readRun_20 q20 ?_
    refine g_icmp_ge (x := x16) (y := x20) 149 o dX4_readRun_23 (by decide) (fun u => ?_) (fun u => ?_)
    · rw [if_pos u] at e
      refine g_iload_n 1 o dX4_readRun_149 rfl rfl ?_
      exact g_iret o dX4_readRun_150 (rt_v q e)
    · rw [if_neg u] at e
      refine g_aload_n 0 o dX4_readRun_26 rfl rfl ?_
      obtain ⟨x27, q27, e⟩ := ob e
      refine g_getN 0 o cf4 (by decide) mw_84 dX4_readRun_27 q27 ?_
      refine g_aload_n 0 o dX4_readRun_30 rfl rfl ?_
      obtain ⟨x31, q31, e⟩ := ob e
      refine g_getI 4 o cf4 (by decide) mw_88 dX4_readRun_31 q31 ?_
      obtain ⟨x34, q34, e⟩ := ob e
      refine g_bald o dX4_readRun_34 q34 ?_
      refine g_istore_n [(3, .int x34), (0, .ref v0), (1, .int v1), (2, .int v2)] o dX4_readRun_35 rfl (by decide) rfl ?_
      refine g_iload_n 0 o dX4_readRun_36 rfl rfl ?_
      refine g_bipush (v := 97) o dX4_readRun_37 (by decide) ?_
      refine g_icmp_lt (x := x34) (y := 97) 83 o dX4_readRun_39 (by decide) (fun u => ?_) (fun u => ?_)
      · rw [if_pos u] at e
        refine g_sb [1, 2, 3, 0] rfl ?_
        exact kX4_readRun_83 f0 (bX4_readRun_15 f0 f1) ih o v0 v1 v2 x34 h r hz q e
      · rw [if_neg u] at e
        refine g_iload_n 0 o dX4_readRun_42 rfl rfl ?_
        refine g_bipush (v := 122) o dX4_readRun_43 (by decide) ?_
        refine g_icmp_gt (x := x34) (y := 122) 83 o dX4_readRun_45 (by decide) (fun u => ?_) (fun u => ?_)
        · rw [if_pos u] at e
          refine g_sb [1, 2, 3, 0] rfl ?_
          exact kX4_readRun_83 f0 (bX4_readRun_15 f0 f1) ih o v0 v1 v2 x34 h r hz q e
        · rw [if_neg u] at e
          refine g_aload_n 1 o dX4_readRun_48 rfl rfl ?_
          refine g_dup o dX4_readRun_49 rfl ?_
          obtain ⟨x50, q50, e⟩ := ob e
          refine g_getJ 7 o cf4 (by decide) mw_94 dX4_readRun_50 q50 ?_
          refine g_iload_n 3 o dX4_readRun_53 rfl rfl ?_
          refine g_if_ge (x := v2) 61 o dX4_readRun_54 (by decide) (fun u => ?_) (fun u => ?_)
          · rw [if_pos u] at e
            refine g_iload_n 0 o dX4_readRun_61 rfl rfl ?_
            refine g_bipush (v := 97) o dX4_readRun_62 (by decide) ?_
            refine g_isub (x := x34) (y := 97) o dX4_readRun_64 ?_
            refine g_iconst (v := 1) o dX4_readRun_65 (by decide) ?_
            refine g_iadd (x := (x34 - 97)) (y := 1) o dX4_readRun_66 ?_
            refine g_i2l (x := ((x34 - 97) + 1)) o dX4_readRun_67 ?_
            refine g_iload_n 3 o dX4_readRun_68 rfl rfl ?_
            refine g_lshl (x := (Int32.toInt64 ((x34 - 97) + 1))) (y := v2) o dX4_readRun_69 ?_
            refine g_sb [1, 2, 3] rfl ?_
            exact kX4_readRun_70 f0 (bX4_readRun_15 f0 f1) ih o v0 v1 v2 v0 x50 ((Int32.toInt64 ((x34 - 97) + 1)) <<< (Int32.toInt64 v2 &&& 63)) h r hz q e
          · rw [if_neg u] at e
            refine g_lconst (v := 0) o dX4_readRun_57 (by decide) ?_
            refine g_goto 70 o dX4_readRun_58 (by decide) ?_
            refine g_sb [1, 2, 3] rfl ?_
            exact kX4_readRun_70 f0 (bX4_readRun_15 f0 f1) ih o v0 v1 v2 v0 x50 0 h r hz q e
theorem yo_X4_readRun : yok yX4_readRun 0 := ⟨by decide, by decide, by decide +kernel⟩
set_option maxRecDepth 100000 in
set_option maxHeartbeats 4000000 in
theorem mX4_readRun {l : Launch} {D : va_G} {cy : Nat → ClassId} {f0 : Nat} {a : Nat} {h : Hp} {r : Int32} {hz : Hp} (e : fX4_readRun f0 a h = some (r, hz)) : MC l D cy yX4_readRun cX4_readRun 4 (some .int) rmX4_readRun [.ref a] h (some (.int r)) hz := by
  refine mc_of2 (by decide) (Nat.le_of_ble_eq_true rfl) (fun X hl hD hy hin o q => ?_)
  subst hl; subst hD; subst hy
  show G X 4 0 [(0, .ref a)] [] h 0 0
  unfold fX4_readRun at e
  refine g_iconst (v := 0) o dX4_readRun_0 (by decide) ?_
  refine g_istore_n [(1, .int 0), (0, .ref a)] o dX4_readRun_1 rfl (by decide) rfl ?_
  refine g_bipush (v := 30) o dX4_readRun_2 (by decide) ?_
  refine g_istore_n [(2, .int 30), (1, .int 0), (0, .ref a)] o dX4_readRun_4 rfl (by decide) rfl ?_
  refine g_aload_n 2 o dX4_readRun_5 rfl rfl ?_
  refine g_lconst (v := 0) o dX4_readRun_6 (by decide) ?_
  obtain ⟨h7, q7, e⟩ := ob e
  refine g_put (ty1 := .long) 7 o cf4 (by decide) mw_94 rfl (by decide +kernel) rfl rfl dX4_readRun_7 q7 ?_
  refine g_aload_n 2 o dX4_readRun_10 rfl rfl ?_
  refine g_iconst (v := 0) o dX4_readRun_11 (by decide) ?_
  obtain ⟨h12, q12, e⟩ := ob e
  refine g_put (ty1 := .int) 9 o cf4 (by decide) mw_100 rfl (by decide +kernel) rfl rfl dX4_readRun_12 q12 ?_
  refine g_sb [2, 1, 0] rfl ?_
  exact kX4_readRun_15 f0 o f0 a 0 30 h12 r hz q e
set_option maxRecDepth 100000 in
set_option maxHeartbeats 4000000 in
theorem kX4_findReserved_2 {X : Cx} (f0 : Nat) (o : Ok X cX4_findReserved RX4 2 rmX4_findReserved (some .int)) (f : Nat) (v0 : Nat) (v1 : Int32) (h : Hp) (r : Int32) (hz : Hp) (q : Rt X (some (.int r)) hz 0 0) (e : bX4_findReserved_2 f0 f v0 v1 h = some (r, hz)) : G X 2 2 [(0, .ref v0), (1, .int v1)] [] h 0 0 := by
  induction f generalizing v0 v1 h r hz with
  | zero => cases e
  | succ f1 ih =>
    unfold bX4_findReserved_2 at e
    refine g_iload_n 1 o dX4_findReserved_2 rfl rfl ?_
    refine g_bipush (v := 27) o dX4_findReserved_3 (by decide) ?_
    refine g_icmp_ge (x := v1) (y := 27) 30 o dX4_findReserved_5 (by decide) (fun u => ?_) (fun u => ?_)
    · rw [if_pos u] at e
      refine g_iconst (v := -1) o dX4_findReserved_30 (by decide) ?_
      exact g_iret o dX4_findReserved_31 (rt_v q e)
    · rw [if_neg u] at e
      refine g_aload_n 0 o dX4_findReserved_8 rfl rfl ?_
      obtain ⟨x9, q9, e⟩ := ob e
      refine g_getN 1 o cf4 (by decide) mw_85 dX4_findReserved_9 q9 ?_
      refine g_iload_n 1 o dX4_findReserved_12 rfl rfl ?_
      obtain ⟨x13, q13, e⟩ := ob e
      refine g_lald o dX4_findReserved_13 q13 ?_
      refine g_aload_n 0 o dX4_findReserved_14 rfl rfl ?_
      obtain ⟨x15, q15, e⟩ := ob e
      refine g_getJ 7 o cf4 (by decide) mw_94 dX4_findReserved_15 q15 ?_
      refine g_lcmp (x := x13) (y := x15) o dX4_findReserved_18 ?_
      refine g_if_ne (x := (lg_cmp x13 x15)) 24 o dX4_findReserved_19 (by decide) (fun u => ?_) (fun u => ?_)
      · rw [if_neg u] at e
        refine g_iinc (k := 1) (v := (v1 + 1)) [(1, .int (v1 + 1)), (0, .ref v0)] o dX4_findReserved_24 rfl rfl (by decide) rfl ?_
        refine g_goto 2 o dX4_findReserved_27 (by decide) ?_
        refine g_sb [1, 0] rfl ?_
        exact ih v0 (v1 + 1) h r hz q e
      · rw [if_pos u] at e
        refine g_iload_n 1 o dX4_findReserved_22 rfl rfl ?_
        exact g_iret o dX4_findReserved_23 (rt_v q e)
theorem yo_X4_findReserved : yok yX4_findReserved 0 := ⟨by decide, by decide, by decide +kernel⟩
set_option maxRecDepth 100000 in
set_option maxHeartbeats 4000000 in
theorem mX4_findReserved {l : Launch} {D : va_G} {cy : Nat → ClassId} {f0 : Nat} {a : Nat} {h : Hp} {r : Int32} {hz : Hp} (e : fX4_findReserved f0 a h = some (r, hz)) : MC l D cy yX4_findReserved cX4_findReserved 2 (some .int) rmX4_findReserved [.ref a] h (some (.int r)) hz := by
  refine mc_of2 (by decide) (Nat.le_of_ble_eq_true rfl) (fun X hl hD hy hin o q => ?_)
  subst hl; subst hD; subst hy
  show G X 2 0 [(0, .ref a)] [] h 0 0
  unfold fX4_findReserved at e
  refine g_iconst (v := 0) o dX4_findReserved_0 (by decide) ?_
  refine g_istore_n [(1, .int 0), (0, .ref a)] o dX4_findReserved_1 rfl (by decide) rfl ?_
  refine g_sb [1, 0] rfl ?_
  exact kX4_findReserved_2 f0 o f0 a 0 h r hz q e
theorem yo_J0_isLatin1_aae02_s1 : yok yJ0_isLatin1_aae02 0 := ⟨by decide, by decide, by decide +kernel⟩
set_option maxRecDepth 100000 in
set_option maxHeartbeats 4000000 in
theorem mJ0_isLatin1_aae02_s1 {l : Launch} {D : va_G} {cy : Nat → ClassId} {f0 : Nat} {h : Hp} {r : Int32} {hz : Hp} (e : fJ0_isLatin1_aae02_s1 f0 h = some (r, hz)) : MC l D cy yJ0_isLatin1_aae02 cJ0_isLatin1_aae02 1 (some .boolean) rmJ0_isLatin1_aae02_s1 [.ref (sK D 1)] h (some (.int r)) hz := by
  refine mc_of2 (by decide) (Nat.le_of_ble_eq_true rfl) (fun X hl hD hy hin o q => ?_)
  subst hl; subst hD; subst hy
  show G X 1 0 [(0, .ref (sK (xD X) 1))] [] h 0 0
  unfold fJ0_isLatin1_aae02_s1 at e
  refine g_gstC o mw_49 dJ0_isLatin1_aae02_0 ?_
  refine g_if_eq (x := 1) 17 o dJ0_isLatin1_aae02_3 (by decide) (fun u => absurd u (by decide)) (fun u => ?_)
  refine g_aload_n 0 o dJ0_isLatin1_aae02_6 rfl rfl ?_
  refine g_getSC 1 (by decide) o mw_1682 dJ0_isLatin1_aae02_7 ?_
  refine g_if_ne (x := 0) 17 o dJ0_isLatin1_aae02_10 (by decide) (fun u => absurd u (by decide)) (fun u => ?_)
  refine g_iconst (v := 1) o dJ0_isLatin1_aae02_13 (by decide) ?_
  refine g_goto 18 o dJ0_isLatin1_aae02_14 (by decide) ?_
  exact g_zret o dJ0_isLatin1_aae02_18 (zr_s e).1 (rt_v q (zr_s e).2)
theorem yo_J0_coder_7d493_s1 : yok yJ0_coder_7d493 0 := ⟨by decide, by decide, by decide +kernel⟩
set_option maxRecDepth 100000 in
set_option maxHeartbeats 4000000 in
theorem mJ0_coder_7d493_s1 {l : Launch} {D : va_G} {cy : Nat → ClassId} {f0 : Nat} {h : Hp} {r : Int32} {hz : Hp} (e : fJ0_coder_7d493_s1 f0 h = some (r, hz)) : MC l D cy yJ0_coder_7d493 cJ0_coder_7d493 1 (some .byte) rmJ0_coder_7d493_s1 [.ref (sK D 1)] h (some (.int r)) hz := by
  refine mc_of2 (by decide) (Nat.le_of_ble_eq_true rfl) (fun X hl hD hy hin o q => ?_)
  subst hl; subst hD; subst hy
  show G X 1 0 [(0, .ref (sK (xD X) 1))] [] h 0 0
  unfold fJ0_coder_7d493_s1 at e
  refine g_gstC o mw_49 dJ0_coder_7d493_0 ?_
  refine g_if_eq (x := 1) 13 o dJ0_coder_7d493_3 (by decide) (fun u => absurd u (by decide)) (fun u => ?_)
  refine g_aload_n 0 o dJ0_coder_7d493_6 rfl rfl ?_
  refine g_getSC 1 (by decide) o mw_1682 dJ0_coder_7d493_7 ?_
  refine g_goto 14 o dJ0_coder_7d493_10 (by decide) ?_
  exact g_bret o dJ0_coder_7d493_14 (zr_s e).1 (rt_v q (zr_s e).2)
theorem yo_J0_length_8abf5_s1 : yok yJ0_length_8abf5 0 := ⟨by decide, by decide, by decide +kernel⟩
set_option maxRecDepth 100000 in
set_option maxHeartbeats 4000000 in
theorem mJ0_length_8abf5_s1 {l : Launch} {D : va_G} {cy : Nat → ClassId} {f0 : Nat} {h : Hp} {r : Int32} {hz : Hp} (e : fJ0_length_8abf5_s1 f0 h = some (r, hz)) : MC l D cy yJ0_length_8abf5 cJ0_length_8abf5 1 (some .int) rmJ0_length_8abf5_s1 [.ref (sK D 1)] h (some (.int r)) hz := by
  refine mc_of2 (by decide) (Nat.le_of_ble_eq_true rfl) (fun X hl hD hy hin o q => ?_)
  subst hl; subst hD; subst hy
  show G X 1 0 [(0, .ref (sK (xD X) 1))] [] h 0 0
  unfold fJ0_length_8abf5_s1 at e
  refine g_aload_n 0 o dJ0_length_8abf5_0 rfl rfl ?_
  refine g_getSV 1 (by decide) o mw_1681 dJ0_length_8abf5_1 ?_
  refine g_alenS (v := 6) 1 (by decide) (by decide) o dJ0_length_8abf5_4 ?_
  refine g_aload_n 0 o dJ0_length_8abf5_5 rfl rfl ?_
  obtain ⟨x6, h6, q6, e⟩ := ob2_s e
  refine g_callTv 1 (by decide) [] o (mJ0_coder_7d493_s1 q6) mw_45 mw_46 mw_47 mw_3 mw_48 rfl yo_J0_coder_7d493_s1 rfl rfl (Nat.le_of_ble_eq_true rfl) ⟨by decide, by decide⟩ ⟨rfl, rfl⟩ dJ0_length_8abf5_6 ⟨by decide, by decide⟩ ?_
  refine g_ishr (x := (6 : Int32)) (y := x6) o dJ0_length_8abf5_9 ?_
  exact g_iret o dJ0_length_8abf5_10 (rt_v q e)
theorem yo_J11_isValidCodePoint_9a6ad : yok yJ11_isValidCodePoint_9a6ad 1 := ⟨by decide, by decide, by decide +kernel⟩
set_option maxRecDepth 100000 in
set_option maxHeartbeats 4000000 in
theorem mJ11_isValidCodePoint_9a6ad {l : Launch} {D : va_G} {cy : Nat → ClassId} {f0 : Nat} {p0 : Int32} {h : Hp} {r : Int32} {hz : Hp} (e : fJ11_isValidCodePoint_9a6ad f0 p0 h = some (r, hz)) : MC l D cy yJ11_isValidCodePoint_9a6ad cJ11_isValidCodePoint_9a6ad 2 (some .boolean) rmJ11_isValidCodePoint_9a6ad [.int p0] h (some (.int r)) hz := by
  refine mc_of2 (by decide) (Nat.le_of_ble_eq_true rfl) (fun X hl hD hy hin o q => ?_)
  subst hl; subst hD; subst hy
  show G X 2 0 [(0, .int p0)] [] h 0 0
  unfold fJ11_isValidCodePoint_9a6ad at e
  refine g_iload_n 0 o dJ11_isValidCodePoint_9a6ad_0 rfl rfl ?_
  refine g_bipush (v := 16) o dJ11_isValidCodePoint_9a6ad_1 (by decide) ?_
  refine g_iushr (x := p0) (y := 16) o dJ11_isValidCodePoint_9a6ad_3 ?_
  refine g_istore_n [(1, .int ((Int32.toUInt32 p0 >>> (Int32.toUInt32 16 &&& Int32.toUInt32 31)).toInt32)), (0, .int p0)] o dJ11_isValidCodePoint_9a6ad_4 rfl (by decide) rfl ?_
  refine g_iload_n 0 o dJ11_isValidCodePoint_9a6ad_5 rfl rfl ?_
  refine g_bipush (v := 17) o dJ11_isValidCodePoint_9a6ad_6 (by decide) ?_
  refine g_icmp_ge (x := ((Int32.toUInt32 p0 >>> (Int32.toUInt32 16 &&& Int32.toUInt32 31)).toInt32)) (y := 17) 15 o dJ11_isValidCodePoint_9a6ad_8 (by decide) (fun u => ?_) (fun u => ?_)
  · rw [if_pos u] at e
    refine g_iconst (v := 0) o dJ11_isValidCodePoint_9a6ad_15 (by decide) ?_
    exact g_zret o dJ11_isValidCodePoint_9a6ad_16 (zr_s e).1 (rt_v q (zr_s e).2)
  · rw [if_neg u] at e
    refine g_iconst (v := 1) o dJ11_isValidCodePoint_9a6ad_11 (by decide) ?_
    refine g_goto 16 o dJ11_isValidCodePoint_9a6ad_12 (by decide) ?_
    exact g_zret o dJ11_isValidCodePoint_9a6ad_16 (zr_s e).1 (rt_v q (zr_s e).2)
theorem yo_J11_highSurrogate_5068e : yok yJ11_highSurrogate_5068e 1 := ⟨by decide, by decide, by decide +kernel⟩
set_option maxRecDepth 100000 in
set_option maxHeartbeats 4000000 in
theorem mJ11_highSurrogate_5068e {l : Launch} {D : va_G} {cy : Nat → ClassId} {f0 : Nat} {p0 : Int32} {h : Hp} {r : Int32} {hz : Hp} (e : fJ11_highSurrogate_5068e f0 p0 h = some (r, hz)) : MC l D cy yJ11_highSurrogate_5068e cJ11_highSurrogate_5068e 1 (some .char) rmJ11_highSurrogate_5068e [.int p0] h (some (.int r)) hz := by
  refine mc_of2 (by decide) (Nat.le_of_ble_eq_true rfl) (fun X hl hD hy hin o q => ?_)
  subst hl; subst hD; subst hy
  show G X 1 0 [(0, .int p0)] [] h 0 0
  unfold fJ11_highSurrogate_5068e at e
  refine g_iload_n 0 o dJ11_highSurrogate_5068e_0 rfl rfl ?_
  refine g_bipush (v := 10) o dJ11_highSurrogate_5068e_1 (by decide) ?_
  refine g_iushr (x := p0) (y := 10) o dJ11_highSurrogate_5068e_3 ?_
  refine g_ldc (v := 55232) o dJ11_highSurrogate_5068e_4 mw_486 ?_
  refine g_iadd (x := ((Int32.toUInt32 p0 >>> (Int32.toUInt32 10 &&& Int32.toUInt32 31)).toInt32)) (y := 55232) o dJ11_highSurrogate_5068e_6 ?_
  refine g_i2c (x := (((Int32.toUInt32 p0 >>> (Int32.toUInt32 10 &&& Int32.toUInt32 31)).toInt32) + 55232)) o dJ11_highSurrogate_5068e_7 ?_
  exact g_cret o dJ11_highSurrogate_5068e_8 (cr_s e).1 (rt_v q (cr_s e).2)
theorem yo_J11_lowSurrogate_5068e : yok yJ11_lowSurrogate_5068e 1 := ⟨by decide, by decide, by decide +kernel⟩
set_option maxRecDepth 100000 in
set_option maxHeartbeats 4000000 in
theorem mJ11_lowSurrogate_5068e {l : Launch} {D : va_G} {cy : Nat → ClassId} {f0 : Nat} {p0 : Int32} {h : Hp} {r : Int32} {hz : Hp} (e : fJ11_lowSurrogate_5068e f0 p0 h = some (r, hz)) : MC l D cy yJ11_lowSurrogate_5068e cJ11_lowSurrogate_5068e 1 (some .char) rmJ11_lowSurrogate_5068e [.int p0] h (some (.int r)) hz := by
  refine mc_of2 (by decide) (Nat.le_of_ble_eq_true rfl) (fun X hl hD hy hin o q => ?_)
  subst hl; subst hD; subst hy
  show G X 1 0 [(0, .int p0)] [] h 0 0
  unfold fJ11_lowSurrogate_5068e at e
  refine g_iload_n 0 o dJ11_lowSurrogate_5068e_0 rfl rfl ?_
  refine g_sipush (v := 1023) o dJ11_lowSurrogate_5068e_1 (by decide) ?_
  refine g_iand (x := p0) (y := 1023) o dJ11_lowSurrogate_5068e_4 ?_
  refine g_ldc (v := 56320) o dJ11_lowSurrogate_5068e_5 mw_490 ?_
  refine g_iadd (x := (p0 &&& 1023)) (y := 56320) o dJ11_lowSurrogate_5068e_7 ?_
  refine g_i2c (x := ((p0 &&& 1023) + 56320)) o dJ11_lowSurrogate_5068e_8 ?_
  exact g_cret o dJ11_lowSurrogate_5068e_9 (cr_s e).1 (rt_v q (cr_s e).2)
theorem yo_J2_length_9d52b_b1 : yok yJ2_length_9d52b 1 := ⟨by decide, by decide, by decide +kernel⟩
set_option maxRecDepth 100000 in
set_option maxHeartbeats 4000000 in
theorem mJ2_length_9d52b_b1 {l : Launch} {D : va_G} {cy : Nat → ClassId} {f0 : Nat} {h : Hp} {r : Int32} {hz : Hp} (e : fJ2_length_9d52b_b1 f0 h = some (r, hz)) : MC l D cy yJ2_length_9d52b cJ2_length_9d52b 1 (some .int) rmJ2_length_9d52b_b1 [.ref (sV D 1)] h (some (.int r)) hz := by
  refine mc_of2 (by decide) (Nat.le_of_ble_eq_true rfl) (fun X hl hD hy hin o q => ?_)
  subst hl; subst hD; subst hy
  show G X 1 0 [(0, .ref (sV (xD X) 1))] [] h 0 0
  unfold fJ2_length_9d52b_b1 at e
  refine g_aload_n 0 o dJ2_length_9d52b_0 rfl rfl ?_
  refine g_alenS (v := 6) 1 (by decide) (by decide) o dJ2_length_9d52b_1 ?_
  refine g_iconst (v := 1) o dJ2_length_9d52b_2 (by decide) ?_
  refine g_ishr (x := (6 : Int32)) (y := 1) o dJ2_length_9d52b_3 ?_
  exact g_iret o dJ2_length_9d52b_4 (rt_v q e)
theorem yo_J0_checkBoundsBeginEnd_23922 : yok yJ0_checkBoundsBeginEnd_23922 3 := ⟨by decide, by decide, by decide +kernel⟩
set_option maxRecDepth 100000 in
set_option maxHeartbeats 4000000 in
theorem mJ0_checkBoundsBeginEnd_23922 {l : Launch} {D : va_G} {cy : Nat → ClassId} {f0 : Nat} {p0 : Int32} {p1 : Int32} {p2 : Int32} {h : Hp} {hz : Hp} (e : fJ0_checkBoundsBeginEnd_23922 f0 p0 p1 p2 h = some hz) : MC l D cy yJ0_checkBoundsBeginEnd_23922 cJ0_checkBoundsBeginEnd_23922 3 none rmJ0_checkBoundsBeginEnd_23922 [.int p0, .int p1, .int p2] h none hz := by
  refine mc_of2 (by decide) (Nat.le_of_ble_eq_true rfl) (fun X hl hD hy hin o q => ?_)
  subst hl; subst hD; subst hy
  show G X 3 0 [(0, .int p0), (1, .int p1), (2, .int p2)] [] h 0 0
  unfold fJ0_checkBoundsBeginEnd_23922 at e
  refine g_iload_n 0 o dJ0_checkBoundsBeginEnd_23922_0 rfl rfl ?_
  refine g_iload_n 1 o dJ0_checkBoundsBeginEnd_23922_1 rfl rfl ?_
  refine g_iload_n 2 o dJ0_checkBoundsBeginEnd_23922_2 rfl rfl ?_
  cases e
theorem yo_J2_checkBoundsBeginEnd_d044e_b1 : yok yJ2_checkBoundsBeginEnd_d044e 3 := ⟨by decide, by decide, by decide +kernel⟩
set_option maxRecDepth 100000 in
set_option maxHeartbeats 4000000 in
theorem mJ2_checkBoundsBeginEnd_d044e_b1 {l : Launch} {D : va_G} {cy : Nat → ClassId} {f0 : Nat} {p0 : Int32} {p1 : Int32} {h : Hp} {hz : Hp} (e : fJ2_checkBoundsBeginEnd_d044e_b1 f0 p0 p1 h = some hz) : MC l D cy yJ2_checkBoundsBeginEnd_d044e cJ2_checkBoundsBeginEnd_d044e 3 none rmJ2_checkBoundsBeginEnd_d044e_b1 [.int p0, .int p1, .ref (sV D 1)] h none hz := by
  refine mc_of2 (by decide) (Nat.le_of_ble_eq_true rfl) (fun X hl hD hy hin o q => ?_)
  subst hl; subst hD; subst hy
  show G X 3 0 [(0, .int p0), (1, .int p1), (2, .ref (sV (xD X) 1))] [] h 0 0
  unfold fJ2_checkBoundsBeginEnd_d044e_b1 at e
  refine g_iload_n 0 o dJ2_checkBoundsBeginEnd_d044e_0 rfl rfl ?_
  refine g_iload_n 1 o dJ2_checkBoundsBeginEnd_d044e_1 rfl rfl ?_
  refine g_aload_n 2 o dJ2_checkBoundsBeginEnd_d044e_2 rfl rfl ?_
  obtain ⟨x3, h3, q3, e⟩ := ob2_s e
  refine g_callSv [.ref (sV (xD X) 1)] o (mJ2_length_9d52b_b1 q3) mw_74 mw_75 mw_6 mw_76 yo_J2_length_9d52b_b1 rfl rfl (Nat.le_of_ble_eq_true rfl) ⟨by decide, by decide⟩ ⟨rfl, rfl⟩ dJ2_checkBoundsBeginEnd_d044e_3 ⟨by decide, by decide⟩ ?_
  obtain ⟨h6, q6, e⟩ := ob e
  refine g_callS0 [.int p0, .int p1, .int x3] o (mJ0_checkBoundsBeginEnd_23922 q6) mw_468 mw_469 mw_3 mw_470 yo_J0_checkBoundsBeginEnd_23922 rfl rfl (Nat.le_of_ble_eq_true rfl) ⟨by decide, by decide⟩ ⟨rfl, rfl⟩ dJ2_checkBoundsBeginEnd_d044e_6 ⟨by decide, by decide⟩ ?_
  exact g_vret o dJ2_checkBoundsBeginEnd_d044e_9 (rt_0 q e)
theorem yo_J2_getChar_3b067_b1 : yok yJ2_getChar_3b067 2 := ⟨by decide, by decide, by decide +kernel⟩
set_option maxRecDepth 100000 in
set_option maxHeartbeats 4000000 in
theorem mJ2_getChar_3b067_b1 {l : Launch} {D : va_G} {cy : Nat → ClassId} {f0 : Nat} {p1 : Int32} {h : Hp} {r : Int32} {hz : Hp} (e : fJ2_getChar_3b067_b1 f0 p1 h = some (r, hz)) : MC l D cy yJ2_getChar_3b067 cJ2_getChar_3b067 2 (some .char) rmJ2_getChar_3b067_b1 [.ref (sV D 1), .int p1] h (some (.int r)) hz := by
  refine mc_of2 (by decide) (Nat.le_of_ble_eq_true rfl) (fun X hl hD hy hin o q => ?_)
  subst hl; subst hD; subst hy
  show G X 2 0 [(0, .ref (sV (xD X) 1)), (1, .int p1)] [] h 0 0
  unfold fJ2_getChar_3b067_b1 at e
  cases e
set_option maxRecDepth 100000 in
set_option maxHeartbeats 4000000 in
theorem kJ2_indexOfSupplementary_4cfef_b1_63 {X : Cx} (f0 : Nat) (g28 : Int32 → Int32 → Int32 → Int32 → Hp → Option (Int32 × Hp)) (i28 : ∀ (v32 : Int32) (v42 : Int32) (v52 : Int32) (v62 : Int32) (h2 : Hp) (r : Int32) (hz : Hp), Rt X (some (.int r)) hz 0 0 → g28 v32 v42 v52 v62 h2 = some (r, hz) → G X 7 28 [(0, .ref (sV (xD X) 1)), (3, .int v32), (4, .int v42), (5, .int v52), (6, .int v62)] [] h2 0 0) (o : Ok X cJ2_indexOfSupplementary_4cfef RJ2 7 rmJ2_indexOfSupplementary_4cfef_b1 (some .int)) (v3 : Int32) (v4 : Int32) (v5 : Int32) (v6 : Int32) (h : Hp) (r : Int32) (hz : Hp) (q : Rt X (some (.int r)) hz 0 0) (e : bJ2_indexOfSupplementary_4cfef_b1_63 f0 g28 v3 v4 v5 v6 h = some (r, hz)) : G X 7 63 [(0, .ref (sV (xD X) 1)), (3, .int v3), (4, .int v4), (5, .int v5), (6, .int v6)] [] h 0 0 := by
  unfold bJ2_indexOfSupplementary_4cfef_b1_63 at e
  refine g_iinc (k := 4) (v := (v6 + 1)) [(6, .int (v6 + 1)), (0, .ref (sV (xD X) 1)), (3, .int v3), (4, .int v4), (5, .int v5)] o dJ2_indexOfSupplementary_4cfef_63 rfl rfl (by decide) rfl ?_
  refine g_goto 28 o dJ2_indexOfSupplementary_4cfef_66 (by decide) ?_
  refine g_sb [1, 2, 3, 4, 0] rfl ?_
  exact i28 v3 v4 v5 (v6 + 1) h r hz q e
set_option maxRecDepth 100000 in
set_option maxHeartbeats 4000000 in
theorem kJ2_indexOfSupplementary_4cfef_b1_28 {X : Cx} (f0 : Nat) (o : Ok X cJ2_indexOfSupplementary_4cfef RJ2 7 rmJ2_indexOfSupplementary_4cfef_b1 (some .int)) (f : Nat) (v3 : Int32) (v4 : Int32) (v5 : Int32) (v6 : Int32) (h : Hp) (r : Int32) (hz : Hp) (q : Rt X (some (.int r)) hz 0 0) (e : bJ2_indexOfSupplementary_4cfef_b1_28 f0 f v3 v4 v5 v6 h = some (r, hz)) : G X 7 28 [(0, .ref (sV (xD X) 1)), (3, .int v3), (4, .int v4), (5, .int v5), (6, .int v6)] [] h 0 0 := by
  induction f generalizing v3 v4 v5 v6 h r hz with
  | zero => cases e
  | succ f1 ih =>
    unfold bJ2_indexOfSupplementary_4cfef_b1_28 at e
    refine g_iload 4 o dJ2_indexOfSupplementary_4cfef_28 rfl ?_
    refine g_iload_n 1 o dJ2_indexOfSupplementary_4cfef_30 rfl rfl ?_
    refine g_iconst (v := 1) o dJ2_indexOfSupplementary_4cfef_31 (by decide) ?_
    refine g_isub (x := v3) (y := 1) o dJ2_indexOfSupplementary_4cfef_32 ?_
    refine g_icmp_ge (x := v6) (y := (v3 - 1)) 69 o dJ2_indexOfSupplementary_4cfef_33 (by decide) (fun u => ?_) (fun u => ?_)
    · rw [if_pos u] at e
      refine g_iconst (v := -1) o dJ2_indexOfSupplementary_4cfef_69 (by decide) ?_
      exact g_iret o dJ2_indexOfSupplementary_4cfef_70 (rt_v q e)
    · rw [if_neg u] at e
      refine g_aload_n 0 o dJ2_indexOfSupplementary_4cfef_36 rfl rfl ?_
      refine g_iload 4 o dJ2_indexOfSupplementary_4cfef_37 rfl ?_
      obtain ⟨x39, h39, q39, e⟩ := ob2_s e
      refine g_callSv [.ref (sV (xD X) 1), .int v6] o (mJ2_getChar_3b067_b1 q39) mw_78 mw_79 mw_6 mw_80 yo_J2_getChar_3b067_b1 rfl rfl (Nat.le_of_ble_eq_true rfl) ⟨by decide, by decide⟩ ⟨rfl, rfl⟩ dJ2_indexOfSupplementary_4cfef_39 ⟨by decide, by decide⟩ ?_
      refine g_iload 2 o dJ2_indexOfSupplementary_4cfef_42 rfl ?_
      refine g_icmp_ne (x := x39) (y := v4) 63 o dJ2_indexOfSupplementary_4cfef_44 (by decide) (fun u => ?_) (fun u => ?_)
      · rw [if_neg u] at e
        exact kJ2_indexOfSupplementary_4cfef_b1_63 f0 (bJ2_indexOfSupplementary_4cfef_b1_28 f0 f1) ih o v3 v4 v5 v6 h39 r hz q e
      · rw [if_pos u] at e
        refine g_aload_n 0 o dJ2_indexOfSupplementary_4cfef_47 rfl rfl ?_
        refine g_iload 4 o dJ2_indexOfSupplementary_4cfef_48 rfl ?_
        refine g_iconst (v := 1) o dJ2_indexOfSupplementary_4cfef_50 (by decide) ?_
        refine g_iadd (x := v6) (y := 1) o dJ2_indexOfSupplementary_4cfef_51 ?_
        obtain ⟨x52, h52, q52, e⟩ := ob2_s e
        refine g_callSv [.ref (sV (xD X) 1), .int (v6 + 1)] o (mJ2_getChar_3b067_b1 q52) mw_78 mw_79 mw_6 mw_80 yo_J2_getChar_3b067_b1 rfl rfl (Nat.le_of_ble_eq_true rfl) ⟨by decide, by decide⟩ ⟨rfl, rfl⟩ dJ2_indexOfSupplementary_4cfef_52 ⟨by decide, by decide⟩ ?_
        refine g_iload 3 o dJ2_indexOfSupplementary_4cfef_55 rfl ?_
        refine g_icmp_ne (x := x52) (y := v5) 63 o dJ2_indexOfSupplementary_4cfef_57 (by decide) (fun u => ?_) (fun u => ?_)
        · rw [if_neg u] at e
          exact kJ2_indexOfSupplementary_4cfef_b1_63 f0 (bJ2_indexOfSupplementary_4cfef_b1_28 f0 f1) ih o v3 v4 v5 v6 h52 r hz q e
        · rw [if_pos u] at e
          refine g_iload 4 o dJ2_indexOfSupplementary_4cfef_60 rfl ?_
          exact g_iret o dJ2_indexOfSupplementary_4cfef_62 (rt_v q e)
theorem yo_J2_indexOfSupplementary_4cfef_b1 : yok yJ2_indexOfSupplementary_4cfef 4 := ⟨by decide, by decide, by decide +kernel⟩
set_option maxRecDepth 100000 in
set_option maxHeartbeats 4000000 in
theorem mJ2_indexOfSupplementary_4cfef_b1 {l : Launch} {D : va_G} {cy : Nat → ClassId} {f0 : Nat} {p1 : Int32} {p2 : Int32} {p3 : Int32} {h : Hp} {r : Int32} {hz : Hp} (e : fJ2_indexOfSupplementary_4cfef_b1 f0 p1 p2 p3 h = some (r, hz)) : MC l D cy yJ2_indexOfSupplementary_4cfef cJ2_indexOfSupplementary_4cfef 7 (some .int) rmJ2_indexOfSupplementary_4cfef_b1 [.ref (sV D 1), .int p1, .int p2, .int p3] h (some (.int r)) hz := by
  refine mc_of2 (by decide) (Nat.le_of_ble_eq_true rfl) (fun X hl hD hy hin o q => ?_)
  subst hl; subst hD; subst hy
  show G X 7 0 [(0, .ref (sV (xD X) 1)), (1, .int p1), (2, .int p2), (3, .int p3)] [] h 0 0
  unfold fJ2_indexOfSupplementary_4cfef_b1 at e
  refine g_iload_n 1 o dJ2_indexOfSupplementary_4cfef_0 rfl rfl ?_
  obtain ⟨x1, h1, q1, e⟩ := ob2_s e
  refine g_callSv [.int p1] o (mJ11_isValidCodePoint_9a6ad q1) mw_480 mw_481 mw_20 mw_482 yo_J11_isValidCodePoint_9a6ad rfl rfl (Nat.le_of_ble_eq_true rfl) ⟨by decide, by decide⟩ ⟨rfl, rfl⟩ dJ2_indexOfSupplementary_4cfef_1 ⟨by decide, by decide⟩ ?_
  refine g_if_eq (x := x1) 69 o dJ2_indexOfSupplementary_4cfef_4 (by decide) (fun u => ?_) (fun u => ?_)
  · rw [if_pos u] at e
    refine g_iconst (v := -1) o dJ2_indexOfSupplementary_4cfef_69 (by decide) ?_
    exact g_iret o dJ2_indexOfSupplementary_4cfef_70 (rt_v q e)
  · rw [if_neg u] at e
    refine g_iload_n 1 o dJ2_indexOfSupplementary_4cfef_7 rfl rfl ?_
    obtain ⟨x8, h8, q8, e⟩ := ob2_s e
    refine g_callSv [.int p1] o (mJ11_highSurrogate_5068e q8) mw_483 mw_484 mw_20 mw_485 yo_J11_highSurrogate_5068e rfl rfl (Nat.le_of_ble_eq_true rfl) ⟨by decide, by decide⟩ ⟨rfl, rfl⟩ dJ2_indexOfSupplementary_4cfef_8 ⟨by decide, by decide⟩ ?_
    refine g_istore [(4, .int x8), (0, .ref (sV (xD X) 1)), (1, .int p1), (2, .int p2), (3, .int p3)] o dJ2_indexOfSupplementary_4cfef_11 (by decide) rfl ?_
    refine g_iload_n 2 o dJ2_indexOfSupplementary_4cfef_13 rfl rfl ?_
    obtain ⟨x14, h14, q14, e⟩ := ob2_s e
    refine g_callSv [.int p1] o (mJ11_lowSurrogate_5068e q14) mw_487 mw_488 mw_20 mw_489 yo_J11_lowSurrogate_5068e rfl rfl (Nat.le_of_ble_eq_true rfl) ⟨by decide, by decide⟩ ⟨rfl, rfl⟩ dJ2_indexOfSupplementary_4cfef_14 ⟨by decide, by decide⟩ ?_
    refine g_istore [(5, .int x14), (4, .int x8), (0, .ref (sV (xD X) 1)), (1, .int p1), (2, .int p2), (3, .int p3)] o dJ2_indexOfSupplementary_4cfef_17 (by decide) rfl ?_
    refine g_iload_n 4 o dJ2_indexOfSupplementary_4cfef_19 rfl rfl ?_
    refine g_iload_n 5 o dJ2_indexOfSupplementary_4cfef_20 rfl rfl ?_
    refine g_aload_n 2 o dJ2_indexOfSupplementary_4cfef_21 rfl rfl ?_
    obtain ⟨h22, q22, e⟩ := ob e
    refine g_callS0 [.int p2, .int p3, .ref (sV (xD X) 1)] o (mJ2_checkBoundsBeginEnd_d044e_b1 q22) mw_465 mw_466 mw_6 mw_467 yo_J2_checkBoundsBeginEnd_d044e_b1 rfl rfl (Nat.le_of_ble_eq_true rfl) ⟨by decide, by decide⟩ ⟨rfl, rfl⟩ dJ2_indexOfSupplementary_4cfef_22 ⟨by decide, by decide⟩ ?_
    refine g_iload_n 4 o dJ2_indexOfSupplementary_4cfef_25 rfl rfl ?_
    refine g_istore [(6, .int p2), (5, .int x14), (4, .int x8), (0, .ref (sV (xD X) 1)), (1, .int p1), (2, .int p2), (3, .int p3)] o dJ2_indexOfSupplementary_4cfef_26 (by decide) rfl ?_
    refine g_sb [3, 6, 2, 1, 0] rfl ?_
    exact kJ2_indexOfSupplementary_4cfef_b1_28 f0 o f0 p3 x8 x14 p2 h22 r hz q e
set_option maxRecDepth 100000 in
set_option maxHeartbeats 4000000 in
theorem kJ2_indexOfCharUnsafe_4cfef_b1_3 {X : Cx} (f0 : Nat) (o : Ok X cJ2_indexOfCharUnsafe_4cfef RJ2 5 rmJ2_indexOfCharUnsafe_4cfef_b1 (some .int)) (f : Nat) (v1 : Int32) (v3 : Int32) (v4 : Int32) (h : Hp) (r : Int32) (hz : Hp) (q : Rt X (some (.int r)) hz 0 0) (e : bJ2_indexOfCharUnsafe_4cfef_b1_3 f0 f v1 v3 v4 h = some (r, hz)) : G X 5 3 [(0, .ref (sV (xD X) 1)), (1, .int v1), (3, .int v3), (4, .int v4)] [] h 0 0 := by
  induction f generalizing v1 v3 v4 h r hz with
  | zero => cases e
  | succ f1 ih =>
    unfold bJ2_indexOfCharUnsafe_4cfef_b1_3 at e
    refine g_iload 3 o dJ2_indexOfCharUnsafe_4cfef_3 rfl ?_
    refine g_iload_n 2 o dJ2_indexOfCharUnsafe_4cfef_5 rfl rfl ?_
    refine g_icmp_ge (x := v4) (y := v3) 28 o dJ2_indexOfCharUnsafe_4cfef_6 (by decide) (fun u => ?_) (fun u => ?_)
    · rw [if_pos u] at e
      refine g_iconst (v := -1) o dJ2_indexOfCharUnsafe_4cfef_28 (by decide) ?_
      exact g_iret o dJ2_indexOfCharUnsafe_4cfef_29 (rt_v q e)
    · rw [if_neg u] at e
      refine g_aload_n 0 o dJ2_indexOfCharUnsafe_4cfef_9 rfl rfl ?_
      refine g_iload 3 o dJ2_indexOfCharUnsafe_4cfef_10 rfl ?_
      obtain ⟨x12, h12, q12, e⟩ := ob2_s e
      refine g_callSv [.ref (sV (xD X) 1), .int v4] o (mJ2_getChar_3b067_b1 q12) mw_78 mw_79 mw_6 mw_80 yo_J2_getChar_3b067_b1 rfl rfl (Nat.le_of_ble_eq_true rfl) ⟨by decide, by decide⟩ ⟨rfl, rfl⟩ dJ2_indexOfCharUnsafe_4cfef_12 ⟨by decide, by decide⟩ ?_
      refine g_iload_n 1 o dJ2_indexOfCharUnsafe_4cfef_15 rfl rfl ?_
      refine g_icmp_ne (x := x12) (y := v1) 22 o dJ2_indexOfCharUnsafe_4cfef_16 (by decide) (fun u => ?_) (fun u => ?_)
      · rw [if_neg u] at e
        refine g_iinc (k := 3) (v := (v4 + 1)) [(4, .int (v4 + 1)), (0, .ref (sV (xD X) 1)), (1, .int v1), (3, .int v3)] o dJ2_indexOfCharUnsafe_4cfef_22 rfl rfl (by decide) rfl ?_
        refine g_goto 3 o dJ2_indexOfCharUnsafe_4cfef_25 (by decide) ?_
        refine g_sb [1, 2, 3, 0] rfl ?_
        exact ih v1 v3 (v4 + 1) h12 r hz q e
      · rw [if_pos u] at e
        refine g_iload 3 o dJ2_indexOfCharUnsafe_4cfef_19 rfl ?_
        exact g_iret o dJ2_indexOfCharUnsafe_4cfef_21 (rt_v q e)
theorem yo_J2_indexOfCharUnsafe_4cfef_b1 : yok yJ2_indexOfCharUnsafe_4cfef 4 := ⟨by decide, by decide, by decide +kernel⟩
set_option maxRecDepth 100000 in
set_option maxHeartbeats 4000000 in
theorem mJ2_indexOfCharUnsafe_4cfef_b1 {l : Launch} {D : va_G} {cy : Nat → ClassId} {f0 : Nat} {p1 : Int32} {p2 : Int32} {p3 : Int32} {h : Hp} {r : Int32} {hz : Hp} (e : fJ2_indexOfCharUnsafe_4cfef_b1 f0 p1 p2 p3 h = some (r, hz)) : MC l D cy yJ2_indexOfCharUnsafe_4cfef cJ2_indexOfCharUnsafe_4cfef 5 (some .int) rmJ2_indexOfCharUnsafe_4cfef_b1 [.ref (sV D 1), .int p1, .int p2, .int p3] h (some (.int r)) hz := by
  refine mc_of2 (by decide) (Nat.le_of_ble_eq_true rfl) (fun X hl hD hy hin o q => ?_)
  subst hl; subst hD; subst hy
  show G X 5 0 [(0, .ref (sV (xD X) 1)), (1, .int p1), (2, .int p2), (3, .int p3)] [] h 0 0
  unfold fJ2_indexOfCharUnsafe_4cfef_b1 at e
  refine g_iload_n 2 o dJ2_indexOfCharUnsafe_4cfef_0 rfl rfl ?_
  refine g_istore [(4, .int p2), (0, .ref (sV (xD X) 1)), (1, .int p1), (2, .int p2), (3, .int p3)] o dJ2_indexOfCharUnsafe_4cfef_1 (by decide) rfl ?_
  refine g_sb [1, 2, 4, 0] rfl ?_
  exact kJ2_indexOfCharUnsafe_4cfef_b1_3 f0 o f0 p1 p3 p2 h r hz q e
theorem yo_J2_indexOfChar_4cfef_b1 : yok yJ2_indexOfChar_4cfef 4 := ⟨by decide, by decide, by decide +kernel⟩
set_option maxRecDepth 100000 in
set_option maxHeartbeats 4000000 in
theorem mJ2_indexOfChar_4cfef_b1 {l : Launch} {D : va_G} {cy : Nat → ClassId} {f0 : Nat} {p1 : Int32} {p2 : Int32} {p3 : Int32} {h : Hp} {r : Int32} {hz : Hp} (e : fJ2_indexOfChar_4cfef_b1 f0 p1 p2 p3 h = some (r, hz)) : MC l D cy yJ2_indexOfChar_4cfef cJ2_indexOfChar_4cfef 4 (some .int) rmJ2_indexOfChar_4cfef_b1 [.ref (sV D 1), .int p1, .int p2, .int p3] h (some (.int r)) hz := by
  refine mc_of2 (by decide) (Nat.le_of_ble_eq_true rfl) (fun X hl hD hy hin o q => ?_)
  subst hl; subst hD; subst hy
  show G X 4 0 [(0, .ref (sV (xD X) 1)), (1, .int p1), (2, .int p2), (3, .int p3)] [] h 0 0
  unfold fJ2_indexOfChar_4cfef_b1 at e
  refine g_iload_n 2 o dJ2_indexOfChar_4cfef_0 rfl rfl ?_
  refine g_iload_n 3 o dJ2_indexOfChar_4cfef_1 rfl rfl ?_
  refine g_aload_n 0 o dJ2_indexOfChar_4cfef_2 rfl rfl ?_
  obtain ⟨h3, q3, e⟩ := ob e
  refine g_callS0 [.int p2, .int p3, .ref (sV (xD X) 1)] o (mJ2_checkBoundsBeginEnd_d044e_b1 q3) mw_465 mw_466 mw_6 mw_467 yo_J2_checkBoundsBeginEnd_d044e_b1 rfl rfl (Nat.le_of_ble_eq_true rfl) ⟨by decide, by decide⟩ ⟨rfl, rfl⟩ dJ2_indexOfChar_4cfef_3 ⟨by decide, by decide⟩ ?_
  refine g_aload_n 0 o dJ2_indexOfChar_4cfef_6 rfl rfl ?_
  refine g_iload_n 1 o dJ2_indexOfChar_4cfef_7 rfl rfl ?_
  refine g_iload_n 2 o dJ2_indexOfChar_4cfef_8 rfl rfl ?_
  refine g_iload_n 3 o dJ2_indexOfChar_4cfef_9 rfl rfl ?_
  obtain ⟨x10, h10, q10, e⟩ := ob2_s e
  refine g_callSv [.ref (sV (xD X) 1), .int p1, .int p2, .int p3] o (mJ2_indexOfCharUnsafe_4cfef_b1 q10) mw_474 mw_475 mw_6 mw_476 yo_J2_indexOfCharUnsafe_4cfef_b1 rfl rfl (Nat.le_of_ble_eq_true rfl) ⟨by decide, by decide⟩ ⟨rfl, rfl⟩ dJ2_indexOfChar_4cfef_10 ⟨by decide, by decide⟩ ?_
  exact g_iret o dJ2_indexOfChar_4cfef_13 (rt_v q e)
theorem yo_J2_indexOf_4cfef_b1 : yok yJ2_indexOf_4cfef 4 := ⟨by decide, by decide, by decide +kernel⟩
set_option maxRecDepth 100000 in
set_option maxHeartbeats 4000000 in
theorem mJ2_indexOf_4cfef_b1 {l : Launch} {D : va_G} {cy : Nat → ClassId} {f0 : Nat} {p1 : Int32} {p2 : Int32} {p3 : Int32} {h : Hp} {r : Int32} {hz : Hp} (e : fJ2_indexOf_4cfef_b1 f0 p1 p2 p3 h = some (r, hz)) : MC l D cy yJ2_indexOf_4cfef cJ2_indexOf_4cfef 4 (some .int) rmJ2_indexOf_4cfef_b1 [.ref (sV D 1), .int p1, .int p2, .int p3] h (some (.int r)) hz := by
  refine mc_of2 (by decide) (Nat.le_of_ble_eq_true rfl) (fun X hl hD hy hin o q => ?_)
  subst hl; subst hD; subst hy
  show G X 4 0 [(0, .ref (sV (xD X) 1)), (1, .int p1), (2, .int p2), (3, .int p3)] [] h 0 0
  unfold fJ2_indexOf_4cfef_b1 at e
  refine g_iload_n 2 o dJ2_indexOf_4cfef_0 rfl rfl ?_
  refine g_iconst (v := 0) o dJ2_indexOf_4cfef_1 (by decide) ?_
  refine g_mmax (x := p2) (y := 0) o mw_459 mw_450 mw_18 mw_451 ⟨by decide, Nat.le_of_ble_eq_true rfl⟩ ⟨by decide, by decide⟩ dJ2_indexOf_4cfef_2 ?_
  refine g_istore_n [(2, .int (if p2 < 0 then 0 else p2)), (0, .ref (sV (xD X) 1)), (1, .int p1), (3, .int p3)] o dJ2_indexOf_4cfef_5 rfl (by decide) rfl ?_
  refine g_iload_n 3 o dJ2_indexOf_4cfef_6 rfl rfl ?_
  refine g_aload_n 1 o dJ2_indexOf_4cfef_7 rfl rfl ?_
  refine g_alenS (v := 6) 1 (by decide) (by decide) o dJ2_indexOf_4cfef_8 ?_
  refine g_iconst (v := 1) o dJ2_indexOf_4cfef_9 (by decide) ?_
  refine g_ishr (x := (6 : Int32)) (y := 1) o dJ2_indexOf_4cfef_10 ?_
  refine g_mmin (x := p3) (y := ((6 : Int32) >>> (1 &&& 31))) o mw_460 mw_362 mw_18 mw_363 ⟨by decide, Nat.le_of_ble_eq_true rfl⟩ ⟨by decide, by decide⟩ dJ2_indexOf_4cfef_11 ?_
  refine g_istore_n [(3, .int (if ((6 : Int32) >>> (1 &&& 31)) < p3 then ((6 : Int32) >>> (1 &&& 31)) else p3)), (2, .int (if p2 < 0 then 0 else p2)), (0, .ref (sV (xD X) 1)), (1, .int p1)] o dJ2_indexOf_4cfef_14 rfl (by decide) rfl ?_
  refine g_iload_n 1 o dJ2_indexOf_4cfef_15 rfl rfl ?_
  refine g_iload_n 0 o dJ2_indexOf_4cfef_16 rfl rfl ?_
  refine g_icmp_lt (x := (if p2 < 0 then 0 else p2)) (y := (if ((6 : Int32) >>> (1 &&& 31)) < p3 then ((6 : Int32) >>> (1 &&& 31)) else p3)) 22 o dJ2_indexOf_4cfef_17 (by decide) (fun u => ?_) (fun u => ?_)
  · rw [if_pos u] at e
    refine g_iload_n 3 o dJ2_indexOf_4cfef_22 rfl rfl ?_
    refine g_ldc (v := 65536) o dJ2_indexOf_4cfef_23 mw_461 ?_
    refine g_icmp_ge (x := p1) (y := 65536) 36 o dJ2_indexOf_4cfef_25 (by decide) (fun u => ?_) (fun u => ?_)
    · rw [if_pos u] at e
      refine g_aload_n 2 o dJ2_indexOf_4cfef_36 rfl rfl ?_
      refine g_iload_n 3 o dJ2_indexOf_4cfef_37 rfl rfl ?_
      refine g_iload_n 1 o dJ2_indexOf_4cfef_38 rfl rfl ?_
      refine g_iload_n 0 o dJ2_indexOf_4cfef_39 rfl rfl ?_
      obtain ⟨x40, h40, q40, e⟩ := ob2_s e
      refine g_callSv [.ref (sV (xD X) 1), .int p1, .int (if p2 < 0 then 0 else p2), .int (if ((6 : Int32) >>> (1 &&& 31)) < p3 then ((6 : Int32) >>> (1 &&& 31)) else p3)] o (mJ2_indexOfSupplementary_4cfef_b1 q40) mw_477 mw_478 mw_6 mw_479 yo_J2_indexOfSupplementary_4cfef_b1 rfl rfl (Nat.le_of_ble_eq_true rfl) ⟨by decide, by decide⟩ ⟨rfl, rfl⟩ dJ2_indexOf_4cfef_40 ⟨by decide, by decide⟩ ?_
      exact g_iret o dJ2_indexOf_4cfef_43 (rt_v q e)
    · rw [if_neg u] at e
      refine g_aload_n 2 o dJ2_indexOf_4cfef_28 rfl rfl ?_
      refine g_iload_n 3 o dJ2_indexOf_4cfef_29 rfl rfl ?_
      refine g_iload_n 1 o dJ2_indexOf_4cfef_30 rfl rfl ?_
      refine g_iload_n 0 o dJ2_indexOf_4cfef_31 rfl rfl ?_
      obtain ⟨x32, h32, q32, e⟩ := ob2_s e
      refine g_callSv [.ref (sV (xD X) 1), .int p1, .int (if p2 < 0 then 0 else p2), .int (if ((6 : Int32) >>> (1 &&& 31)) < p3 then ((6 : Int32) >>> (1 &&& 31)) else p3)] o (mJ2_indexOfChar_4cfef_b1 q32) mw_462 mw_463 mw_6 mw_464 yo_J2_indexOfChar_4cfef_b1 rfl rfl (Nat.le_of_ble_eq_true rfl) ⟨by decide, by decide⟩ ⟨rfl, rfl⟩ dJ2_indexOf_4cfef_32 ⟨by decide, by decide⟩ ?_
      exact g_iret o dJ2_indexOf_4cfef_35 (rt_v q e)
  · rw [if_neg u] at e
    refine g_iconst (v := -1) o dJ2_indexOf_4cfef_20 (by decide) ?_
    exact g_iret o dJ2_indexOf_4cfef_21 (rt_v q e)
theorem yo_J1_canEncode_9a6ad : yok yJ1_canEncode_9a6ad 1 := ⟨by decide, by decide, by decide +kernel⟩
set_option maxRecDepth 100000 in
set_option maxHeartbeats 4000000 in
theorem mJ1_canEncode_9a6ad {l : Launch} {D : va_G} {cy : Nat → ClassId} {f0 : Nat} {p0 : Int32} {h : Hp} {r : Int32} {hz : Hp} (e : fJ1_canEncode_9a6ad f0 p0 h = some (r, hz)) : MC l D cy yJ1_canEncode_9a6ad cJ1_canEncode_9a6ad 1 (some .boolean) rmJ1_canEncode_9a6ad [.int p0] h (some (.int r)) hz := by
  refine mc_of2 (by decide) (Nat.le_of_ble_eq_true rfl) (fun X hl hD hy hin o q => ?_)
  subst hl; subst hD; subst hy
  show G X 1 0 [(0, .int p0)] [] h 0 0
  unfold fJ1_canEncode_9a6ad at e
  refine g_iload_n 0 o dJ1_canEncode_9a6ad_0 rfl rfl ?_
  refine g_if_lt (x := p0) 15 o dJ1_canEncode_9a6ad_1 (by decide) (fun u => ?_) (fun u => ?_)
  · rw [if_pos u] at e
    refine g_iconst (v := 0) o dJ1_canEncode_9a6ad_15 (by decide) ?_
    exact g_zret o dJ1_canEncode_9a6ad_16 (zr_s e).1 (rt_v q (zr_s e).2)
  · rw [if_neg u] at e
    refine g_iload_n 0 o dJ1_canEncode_9a6ad_4 rfl rfl ?_
    refine g_sipush (v := 255) o dJ1_canEncode_9a6ad_5 (by decide) ?_
    refine g_icmp_gt (x := p0) (y := 255) 15 o dJ1_canEncode_9a6ad_8 (by decide) (fun u => ?_) (fun u => ?_)
    · rw [if_pos u] at e
      refine g_iconst (v := 0) o dJ1_canEncode_9a6ad_15 (by decide) ?_
      exact g_zret o dJ1_canEncode_9a6ad_16 (zr_s e).1 (rt_v q (zr_s e).2)
    · rw [if_neg u] at e
      refine g_iconst (v := 1) o dJ1_canEncode_9a6ad_11 (by decide) ?_
      refine g_goto 16 o dJ1_canEncode_9a6ad_12 (by decide) ?_
      exact g_zret o dJ1_canEncode_9a6ad_16 (zr_s e).1 (rt_v q (zr_s e).2)
set_option maxRecDepth 100000 in
set_option maxHeartbeats 4000000 in
theorem kJ1_indexOfChar_4cfef_b1_7 {X : Cx} (f0 : Nat) (o : Ok X cJ1_indexOfChar_4cfef RJ1 6 rmJ1_indexOfChar_4cfef_b1 (some .int)) (f : Nat) (v3 : Int32) (v4 : Int32) (v5 : Int32) (h : Hp) (r : Int32) (hz : Hp) (q : Rt X (some (.int r)) hz 0 0) (e : bJ1_indexOfChar_4cfef_b1_7 f0 f v3 v4 v5 h = some (r, hz)) : G X 6 7 [(0, .ref (sV (xD X) 1)), (3, .int v3), (4, .int v4), (5, .int v5)] [] h 0 0 := by
  induction f generalizing v3 v4 v5 h r hz with
  | zero => cases e
  | succ f1 ih =>
    unfold bJ1_indexOfChar_4cfef_b1_7 at e
    refine g_iload 3 o dJ1_indexOfChar_4cfef_7 rfl ?_
    refine g_iload_n 1 o dJ1_indexOfChar_4cfef_9 rfl rfl ?_
    refine g_icmp_ge (x := v5) (y := v3) 31 o dJ1_indexOfChar_4cfef_10 (by decide) (fun u => ?_) (fun u => ?_)
    · rw [if_pos u] at e
      refine g_iconst (v := -1) o dJ1_indexOfChar_4cfef_31 (by decide) ?_
      exact g_iret o dJ1_indexOfChar_4cfef_32 (rt_v q e)
    · rw [if_neg u] at e
      refine g_aload_n 0 o dJ1_indexOfChar_4cfef_13 rfl rfl ?_
      refine g_iload 3 o dJ1_indexOfChar_4cfef_14 rfl ?_
      obtain ⟨x16, q16, e⟩ := ob e
      refine g_baldS 1 (by decide) o dJ1_indexOfChar_4cfef_16 q16 ?_
      refine g_iload 2 o dJ1_indexOfChar_4cfef_17 rfl ?_
      refine g_icmp_ne (x := x16) (y := v4) 25 o dJ1_indexOfChar_4cfef_19 (by decide) (fun u => ?_) (fun u => ?_)
      · rw [if_neg u] at e
        refine g_iinc (k := 3) (v := (v5 + 1)) [(5, .int (v5 + 1)), (0, .ref (sV (xD X) 1)), (3, .int v3), (4, .int v4)] o dJ1_indexOfChar_4cfef_25 rfl rfl (by decide) rfl ?_
        refine g_goto 7 o dJ1_indexOfChar_4cfef_28 (by decide) ?_
        refine g_sb [1, 2, 3, 0] rfl ?_
        exact ih v3 v4 (v5 + 1) h r hz q e
      · rw [if_pos u] at e
        refine g_iload 3 o dJ1_indexOfChar_4cfef_22 rfl ?_
        exact g_iret o dJ1_indexOfChar_4cfef_24 (rt_v q e)
theorem yo_J1_indexOfChar_4cfef_b1 : yok yJ1_indexOfChar_4cfef 4 := ⟨by decide, by decide, by decide +kernel⟩
set_option maxRecDepth 100000 in
set_option maxHeartbeats 4000000 in
theorem mJ1_indexOfChar_4cfef_b1 {l : Launch} {D : va_G} {cy : Nat → ClassId} {f0 : Nat} {p1 : Int32} {p2 : Int32} {p3 : Int32} {h : Hp} {r : Int32} {hz : Hp} (e : fJ1_indexOfChar_4cfef_b1 f0 p1 p2 p3 h = some (r, hz)) : MC l D cy yJ1_indexOfChar_4cfef cJ1_indexOfChar_4cfef 6 (some .int) rmJ1_indexOfChar_4cfef_b1 [.ref (sV D 1), .int p1, .int p2, .int p3] h (some (.int r)) hz := by
  refine mc_of2 (by decide) (Nat.le_of_ble_eq_true rfl) (fun X hl hD hy hin o q => ?_)
  subst hl; subst hD; subst hy
  show G X 6 0 [(0, .ref (sV (xD X) 1)), (1, .int p1), (2, .int p2), (3, .int p3)] [] h 0 0
  unfold fJ1_indexOfChar_4cfef_b1 at e
  refine g_iload_n 1 o dJ1_indexOfChar_4cfef_0 rfl rfl ?_
  refine g_i2b (x := p1) o dJ1_indexOfChar_4cfef_1 ?_
  refine g_istore [(4, .int ((Int32.toInt8 p1).toInt32)), (0, .ref (sV (xD X) 1)), (1, .int p1), (2, .int p2), (3, .int p3)] o dJ1_indexOfChar_4cfef_2 (by decide) rfl ?_
  refine g_iload_n 3 o dJ1_indexOfChar_4cfef_4 rfl rfl ?_
  refine g_istore [(5, .int p2), (4, .int ((Int32.toInt8 p1).toInt32)), (0, .ref (sV (xD X) 1)), (1, .int p1), (2, .int p2), (3, .int p3)] o dJ1_indexOfChar_4cfef_5 (by decide) rfl ?_
  refine g_sb [2, 5, 1, 0] rfl ?_
  exact kJ1_indexOfChar_4cfef_b1_7 f0 o f0 p3 ((Int32.toInt8 p1).toInt32) p2 h r hz q e
theorem yo_J1_indexOf_4cfef_b1 : yok yJ1_indexOf_4cfef 4 := ⟨by decide, by decide, by decide +kernel⟩
set_option maxRecDepth 100000 in
set_option maxHeartbeats 4000000 in
theorem mJ1_indexOf_4cfef_b1 {l : Launch} {D : va_G} {cy : Nat → ClassId} {f0 : Nat} {p1 : Int32} {p2 : Int32} {p3 : Int32} {h : Hp} {r : Int32} {hz : Hp} (e : fJ1_indexOf_4cfef_b1 f0 p1 p2 p3 h = some (r, hz)) : MC l D cy yJ1_indexOf_4cfef cJ1_indexOf_4cfef 4 (some .int) rmJ1_indexOf_4cfef_b1 [.ref (sV D 1), .int p1, .int p2, .int p3] h (some (.int r)) hz := by
  refine mc_of2 (by decide) (Nat.le_of_ble_eq_true rfl) (fun X hl hD hy hin o q => ?_)
  subst hl; subst hD; subst hy
  show G X 4 0 [(0, .ref (sV (xD X) 1)), (1, .int p1), (2, .int p2), (3, .int p3)] [] h 0 0
  unfold fJ1_indexOf_4cfef_b1 at e
  refine g_iload_n 1 o dJ1_indexOf_4cfef_0 rfl rfl ?_
  obtain ⟨x1, h1, q1, e⟩ := ob2_s e
  refine g_callSv [.int p1] o (mJ1_canEncode_9a6ad q1) mw_446 mw_447 mw_4 mw_448 yo_J1_canEncode_9a6ad rfl rfl (Nat.le_of_ble_eq_true rfl) ⟨by decide, by decide⟩ ⟨rfl, rfl⟩ dJ1_indexOf_4cfef_1 ⟨by decide, by decide⟩ ?_
  refine g_if_ne (x := x1) 9 o dJ1_indexOf_4cfef_4 (by decide) (fun u => ?_) (fun u => ?_)
  · rw [if_neg u] at e
    refine g_iload_n 2 o dJ1_indexOf_4cfef_9 rfl rfl ?_
    refine g_iconst (v := 0) o dJ1_indexOf_4cfef_10 (by decide) ?_
    refine g_mmax (x := p2) (y := 0) o mw_449 mw_450 mw_18 mw_451 ⟨by decide, Nat.le_of_ble_eq_true rfl⟩ ⟨by decide, by decide⟩ dJ1_indexOf_4cfef_11 ?_
    refine g_istore_n [(2, .int (if p2 < 0 then 0 else p2)), (0, .ref (sV (xD X) 1)), (1, .int p1), (3, .int p3)] o dJ1_indexOf_4cfef_14 rfl (by decide) rfl ?_
    refine g_iload_n 3 o dJ1_indexOf_4cfef_15 rfl rfl ?_
    refine g_aload_n 1 o dJ1_indexOf_4cfef_16 rfl rfl ?_
    refine g_alenS (v := 6) 1 (by decide) (by decide) o dJ1_indexOf_4cfef_17 ?_
    refine g_mmin (x := p3) (y := 6) o mw_452 mw_362 mw_18 mw_363 ⟨by decide, Nat.le_of_ble_eq_true rfl⟩ ⟨by decide, by decide⟩ dJ1_indexOf_4cfef_18 ?_
    refine g_istore_n [(3, .int (if 6 < p3 then 6 else p3)), (2, .int (if p2 < 0 then 0 else p2)), (0, .ref (sV (xD X) 1)), (1, .int p1)] o dJ1_indexOf_4cfef_21 rfl (by decide) rfl ?_
    refine g_iload_n 1 o dJ1_indexOf_4cfef_22 rfl rfl ?_
    refine g_iload_n 0 o dJ1_indexOf_4cfef_23 rfl rfl ?_
    refine g_icmp_lt (x := (if p2 < 0 then 0 else p2)) (y := (if 6 < p3 then 6 else p3)) 29 o dJ1_indexOf_4cfef_24 (by decide) (fun u => ?_) (fun u => ?_)
    · rw [if_pos u] at e
      refine g_aload_n 2 o dJ1_indexOf_4cfef_29 rfl rfl ?_
      refine g_iload_n 3 o dJ1_indexOf_4cfef_30 rfl rfl ?_
      refine g_iload_n 1 o dJ1_indexOf_4cfef_31 rfl rfl ?_
      refine g_iload_n 0 o dJ1_indexOf_4cfef_32 rfl rfl ?_
      obtain ⟨x33, h33, q33, e⟩ := ob2_s e
      refine g_callSv [.ref (sV (xD X) 1), .int p1, .int (if p2 < 0 then 0 else p2), .int (if 6 < p3 then 6 else p3)] o (mJ1_indexOfChar_4cfef_b1 q33) mw_453 mw_454 mw_4 mw_455 yo_J1_indexOfChar_4cfef_b1 rfl rfl (Nat.le_of_ble_eq_true rfl) ⟨by decide, by decide⟩ ⟨rfl, rfl⟩ dJ1_indexOf_4cfef_33 ⟨by decide, by decide⟩ ?_
      exact g_iret o dJ1_indexOf_4cfef_36 (rt_v q e)
    · rw [if_neg u] at e
      refine g_iconst (v := -1) o dJ1_indexOf_4cfef_27 (by decide) ?_
      exact g_iret o dJ1_indexOf_4cfef_28 (rt_v q e)
  · rw [if_pos u] at e
    refine g_iconst (v := -1) o dJ1_indexOf_4cfef_7 (by decide) ?_
    exact g_iret o dJ1_indexOf_4cfef_8 (rt_v q e)
theorem yo_J0_indexOf_7cf53_s1 : yok yJ0_indexOf_7cf53 2 := ⟨by decide, by decide, by decide +kernel⟩
set_option maxRecDepth 100000 in
set_option maxHeartbeats 4000000 in
theorem mJ0_indexOf_7cf53_s1 {l : Launch} {D : va_G} {cy : Nat → ClassId} {f0 : Nat} {p0 : Int32} {p1 : Int32} {h : Hp} {r : Int32} {hz : Hp} (e : fJ0_indexOf_7cf53_s1 f0 p0 p1 h = some (r, hz)) : MC l D cy yJ0_indexOf_7cf53 cJ0_indexOf_7cf53 3 (some .int) rmJ0_indexOf_7cf53_s1 [.ref (sK D 1), .int p0, .int p1] h (some (.int r)) hz := by
  refine mc_of2 (by decide) (Nat.le_of_ble_eq_true rfl) (fun X hl hD hy hin o q => ?_)
  subst hl; subst hD; subst hy
  show G X 3 0 [(0, .ref (sK (xD X) 1)), (1, .int p0), (2, .int p1)] [] h 0 0
  unfold fJ0_indexOf_7cf53_s1 at e
  refine g_aload_n 0 o dJ0_indexOf_7cf53_0 rfl rfl ?_
  obtain ⟨x1, h1, q1, e⟩ := ob2_s e
  refine g_callTv 1 (by decide) [] o (mJ0_isLatin1_aae02_s1 q1) mw_54 mw_55 mw_56 mw_3 mw_57 rfl yo_J0_isLatin1_aae02_s1 rfl rfl (Nat.le_of_ble_eq_true rfl) ⟨by decide, by decide⟩ ⟨rfl, rfl⟩ dJ0_indexOf_7cf53_1 ⟨by decide, by decide⟩ ?_
  refine g_if_eq (x := x1) 23 o dJ0_indexOf_7cf53_4 (by decide) (fun u => ?_) (fun u => ?_)
  · rw [if_pos u] at e
    refine g_aload_n 0 o dJ0_indexOf_7cf53_23 rfl rfl ?_
    refine g_getSV 1 (by decide) o mw_1681 dJ0_indexOf_7cf53_24 ?_
    refine g_iload_n 1 o dJ0_indexOf_7cf53_27 rfl rfl ?_
    refine g_iload_n 2 o dJ0_indexOf_7cf53_28 rfl rfl ?_
    refine g_aload_n 0 o dJ0_indexOf_7cf53_29 rfl rfl ?_
    obtain ⟨x30, h30, q30, e⟩ := ob2_s e
    refine g_callTv 1 (by decide) [] o (mJ0_length_8abf5_s1 q30) mw_442 mw_42 mw_43 mw_3 mw_44 rfl yo_J0_length_8abf5_s1 rfl rfl (Nat.le_of_ble_eq_true rfl) ⟨by decide, by decide⟩ ⟨rfl, rfl⟩ dJ0_indexOf_7cf53_30 ⟨by decide, by decide⟩ ?_
    obtain ⟨x33, h33, q33, e⟩ := ob2_s e
    refine g_callSv [.ref (sV (xD X) 1), .int p0, .int p1, .int x30] o (mJ2_indexOf_4cfef_b1 q33) mw_456 mw_457 mw_6 mw_458 yo_J2_indexOf_4cfef_b1 rfl rfl (Nat.le_of_ble_eq_true rfl) ⟨by decide, by decide⟩ ⟨rfl, rfl⟩ dJ0_indexOf_7cf53_33 ⟨by decide, by decide⟩ ?_
    exact g_iret o dJ0_indexOf_7cf53_36 (rt_v q e)
  · rw [if_neg u] at e
    refine g_aload_n 0 o dJ0_indexOf_7cf53_7 rfl rfl ?_
    refine g_getSV 1 (by decide) o mw_1681 dJ0_indexOf_7cf53_8 ?_
    refine g_iload_n 1 o dJ0_indexOf_7cf53_11 rfl rfl ?_
    refine g_iload_n 2 o dJ0_indexOf_7cf53_12 rfl rfl ?_
    refine g_aload_n 0 o dJ0_indexOf_7cf53_13 rfl rfl ?_
    obtain ⟨x14, h14, q14, e⟩ := ob2_s e
    refine g_callTv 1 (by decide) [] o (mJ0_length_8abf5_s1 q14) mw_442 mw_42 mw_43 mw_3 mw_44 rfl yo_J0_length_8abf5_s1 rfl rfl (Nat.le_of_ble_eq_true rfl) ⟨by decide, by decide⟩ ⟨rfl, rfl⟩ dJ0_indexOf_7cf53_14 ⟨by decide, by decide⟩ ?_
    obtain ⟨x17, h17, q17, e⟩ := ob2_s e
    refine g_callSv [.ref (sV (xD X) 1), .int p0, .int p1, .int x14] o (mJ1_indexOf_4cfef_b1 q17) mw_443 mw_444 mw_4 mw_445 yo_J1_indexOf_4cfef_b1 rfl rfl (Nat.le_of_ble_eq_true rfl) ⟨by decide, by decide⟩ ⟨rfl, rfl⟩ dJ0_indexOf_7cf53_17 ⟨by decide, by decide⟩ ?_
    refine g_goto 36 o dJ0_indexOf_7cf53_20 (by decide) ?_
    exact g_iret o dJ0_indexOf_7cf53_36 (rt_v q e)
theorem yo_J0_indexOf_0f7a4_s1 : yok yJ0_indexOf_0f7a4 1 := ⟨by decide, by decide, by decide +kernel⟩
set_option maxRecDepth 100000 in
set_option maxHeartbeats 4000000 in
theorem mJ0_indexOf_0f7a4_s1 {l : Launch} {D : va_G} {cy : Nat → ClassId} {f0 : Nat} {p0 : Int32} {h : Hp} {r : Int32} {hz : Hp} (e : fJ0_indexOf_0f7a4_s1 f0 p0 h = some (r, hz)) : MC l D cy yJ0_indexOf_0f7a4 cJ0_indexOf_0f7a4 2 (some .int) rmJ0_indexOf_0f7a4_s1 [.ref (sK D 1), .int p0] h (some (.int r)) hz := by
  refine mc_of2 (by decide) (Nat.le_of_ble_eq_true rfl) (fun X hl hD hy hin o q => ?_)
  subst hl; subst hD; subst hy
  show G X 2 0 [(0, .ref (sK (xD X) 1)), (1, .int p0)] [] h 0 0
  unfold fJ0_indexOf_0f7a4_s1 at e
  refine g_aload_n 0 o dJ0_indexOf_0f7a4_0 rfl rfl ?_
  refine g_iload_n 1 o dJ0_indexOf_0f7a4_1 rfl rfl ?_
  refine g_iconst (v := 0) o dJ0_indexOf_0f7a4_2 (by decide) ?_
  obtain ⟨x3, h3, q3, e⟩ := ob2_s e
  refine g_callTv 1 (by decide) [.int p0, .int 0] o (mJ0_indexOf_7cf53_s1 q3) mw_438 mw_439 mw_440 mw_3 mw_441 rfl yo_J0_indexOf_7cf53_s1 rfl rfl (Nat.le_of_ble_eq_true rfl) ⟨by decide, by decide⟩ ⟨rfl, rfl⟩ dJ0_indexOf_0f7a4_3 ⟨by decide, by decide⟩ ?_
  exact g_iret o dJ0_indexOf_0f7a4_6 (rt_v q e)
set_option maxRecDepth 100000 in
set_option maxHeartbeats 4000000 in
theorem kX4_step_39 {X : Cx} (f0 : Nat) (g0 : Nat → Hp → Option (Hp)) (i0 : ∀ (v02 : Nat) (h2 : Hp) (hz : Hp), Rt X none hz 0 0 → g0 v02 h2 = some hz → G X 3 0 [(0, .ref v02)] [] h2 0 0) (o : Ok X cX4_step RX4 3 rmX4_step none) (v0 : Nat) (h : Hp) (hz : Hp) (q : Rt X none hz 0 0) (e : bX4_step_39 f0 g0 v0 h = some hz) : G X 3 39 [(0, .ref v0)] [] h 0 0 := by
  unfold bX4_step_39 at e
  refine g_aload_n 0 o dX4_step_39 rfl rfl ?_
  refine g_dup o dX4_step_40 rfl ?_
  obtain ⟨x41, q41, e⟩ := ob e
  refine g_getI 4 o cf4 (by decide) mw_88 dX4_step_41 q41 ?_
  refine g_iconst (v := 1) o dX4_step_44 (by decide) ?_
  refine g_iadd (x := x41) (y := 1) o dX4_step_45 ?_
  obtain ⟨h46, q46, e⟩ := ob e
  refine g_put (ty1 := .int) 4 o cf4 (by decide) mw_88 rfl (by decide +kernel) rfl rfl dX4_step_46 q46 ?_
  refine g_goto 0 o dX4_step_49 (by decide) ?_
  exact i0 v0 h46 hz q e
set_option maxRecDepth 100000 in
set_option maxHeartbeats 4000000 in
theorem kX4_step_144 {X : Cx} (f0 : Nat) (o : Ok X cX4_step RX4 3 rmX4_step none) (v0 : Nat) (s0 : Nat) (s1 : Int32) (h : Hp) (hz : Hp) (q : Rt X none hz 0 0) (e : bX4_step_144 f0 v0 s0 s1 h = some hz) : G X 3 144 [(0, .ref v0)] [.int s1, .ref s0] h 0 0 := by
  unfold bX4_step_144 at e
  obtain ⟨h144, q144, e⟩ := ob e
  refine g_put (ty1 := .int) 5 o cf4 (by decide) mw_91 rfl (by decide +kernel) rfl rfl dX4_step_144 q144 ?_
  refine g_aload_n 0 o dX4_step_147 rfl rfl ?_
  refine g_dup o dX4_step_148 rfl ?_
  obtain ⟨x149, q149, e⟩ := ob e
  refine g_getI 4 o cf4 (by decide) mw_88 dX4_step_149 q149 ?_
  refine g_iconst (v := 1) o dX4_step_152 (by decide) ?_
  refine g_iadd (x := x149) (y := 1) o dX4_step_153 ?_
  obtain ⟨h154, q154, e⟩ := ob e
  refine g_put (ty1 := .int) 4 o cf4 (by decide) mw_88 rfl (by decide +kernel) rfl rfl dX4_step_154 q154 ?_
  refine g_goto 205 o dX4_step_157 (by decide) ?_
  exact g_vret o dX4_step_205 (rt_0 q e)
set_option maxRecDepth 100000 in
set_option maxHeartbeats 4000000 in
theorem kX4_step_202 {X : Cx} (f0 : Nat) (o : Ok X cX4_step RX4 3 rmX4_step none) (s0 : Nat) (s1 : Int32) (h : Hp) (hz : Hp) (q : Rt X none hz 0 0) (e : bX4_step_202 f0 s0 s1 h = some hz) : G X 3 202 [] [.int s1, .ref s0] h 0 0 := by
  unfold bX4_step_202 at e
  obtain ⟨h202, q202, e⟩ := ob e
  refine g_put (ty1 := .int) 5 o cf4 (by decide) mw_91 rfl (by decide +kernel) rfl rfl dX4_step_202 q202 ?_
  exact g_vret o dX4_step_205 (rt_0 q e)
set_option maxRecDepth 100000 in
set_option maxHeartbeats 4000000 in
theorem kX4_step_201 {X : Cx} (f0 : Nat) (o : Ok X cX4_step RX4 3 rmX4_step none) (s0 : Nat) (h : Hp) (hz : Hp) (q : Rt X none hz 0 0) (e : bX4_step_201 f0 s0 h = some hz) : G X 3 201 [] [.ref s0] h 0 0 := by
  unfold bX4_step_201 at e
  refine g_iconst (v := 3) o dX4_step_201 (by decide) ?_
  exact kX4_step_202 f0 o s0 3 h hz q e
set_option maxRecDepth 100000 in
set_option maxHeartbeats 4000000 in
theorem kX4_step_187 {X : Cx} (f0 : Nat) (o : Ok X cX4_step RX4 3 rmX4_step none) (v0 : Nat) (v1 : Int32) (v2 : Int32) (h : Hp) (hz : Hp) (q : Rt X none hz 0 0) (e : bX4_step_187 f0 v0 v1 v2 h = some hz) : G X 3 187 [(0, .ref v0), (1, .int v1), (2, .int v2)] [] h 0 0 := by
  unfold bX4_step_187 at e
  refine g_aload_n 0 o dX4_step_187 rfl rfl ?_
  refine g_iload_n 1 o dX4_step_188 rfl rfl ?_
  refine g_if_ne (x := v1) 201 o dX4_step_189 (by decide) (fun u => ?_) (fun u => ?_)
  · rw [if_neg u] at e
    refine g_sb [] rfl ?_
    exact kX4_step_201 f0 o v0 h hz q e
  · rw [if_pos u] at e
    refine g_iload_n 2 o dX4_step_192 rfl rfl ?_
    refine g_iconst (v := 3) o dX4_step_193 (by decide) ?_
    refine g_icmp_gt (x := v2) (y := 3) 201 o dX4_step_194 (by decide) (fun u => ?_) (fun u => ?_)
    · rw [if_pos u] at e
      refine g_sb [] rfl ?_
      exact kX4_step_201 f0 o v0 h hz q e
    · rw [if_neg u] at e
      refine g_iconst (v := 2) o dX4_step_197 (by decide) ?_
      refine g_goto 202 o dX4_step_198 (by decide) ?_
      refine g_sb [] rfl ?_
      exact kX4_step_202 f0 o v0 2 h hz q e
set_option maxRecDepth 100000 in
set_option maxHeartbeats 4000000 in
theorem kX4_step_52 {X : Cx} (f0 : Nat) (o : Ok X cX4_step RX4 3 rmX4_step none) (v0 : Nat) (h : Hp) (hz : Hp) (q : Rt X none hz 0 0) (e : bX4_step_52 f0 v0 h = some hz) : G X 3 52 [(0, .ref v0)] [] h 0 0 := by
  unfold bX4_step_52 at e
  refine g_aload_n 0 o dX4_step_52 rfl rfl ?_
  refine g_iconst (v := -1) o dX4_step_53 (by decide) ?_
  obtain ⟨h54, q54, e⟩ := ob e
  refine g_put (ty1 := .int) 8 o cf4 (by decide) mw_99 rfl (by decide +kernel) rfl rfl dX4_step_54 q54 ?_
  refine g_aload_n 0 o dX4_step_57 rfl rfl ?_
  refine g_aload_n 0 o dX4_step_58 rfl rfl ?_
  obtain ⟨x59, q59, e⟩ := ob e
  refine g_getI 4 o cf4 (by decide) mw_88 dX4_step_59 q59 ?_
  refine g_aload_n 0 o dX4_step_62 rfl rfl ?_
  obtain ⟨x63, q63, e⟩ := ob e
  refine g_getI 3 o cf4 (by decide) mw_87 dX4_step_63 q63 ?_
  refine g_mmin (x := x59) (y := x63) o mw_426 mw_362 mw_18 mw_363 ⟨by decide, Nat.le_of_ble_eq_true rfl⟩ ⟨by decide, by decide⟩ dX4_step_66 ?_
  obtain ⟨h69, q69, e⟩ := ob e
  refine g_put (ty1 := .int) 6 o cf4 (by decide) mw_93 rfl (by decide +kernel) rfl rfl dX4_step_69 q69 ?_
  refine g_aload_n 0 o dX4_step_72 rfl rfl ?_
  obtain ⟨x73, q73, e⟩ := ob e
  refine g_getI 4 o cf4 (by decide) mw_88 dX4_step_73 q73 ?_
  refine g_aload_n 0 o dX4_step_76 rfl rfl ?_
  obtain ⟨x77, q77, e⟩ := ob e
  refine g_getI 3 o cf4 (by decide) mw_87 dX4_step_77 q77 ?_
  refine g_icmp_lt (x := x73) (y := x77) 89 o dX4_step_80 (by decide) (fun u => ?_) (fun u => ?_)
  · rw [if_pos u] at e
    refine g_aload_n 0 o dX4_step_89 rfl rfl ?_
    obtain ⟨_, k90, e⟩ := ob e
    obtain ⟨x90, h90, q90, e⟩ := ob2_s e
    refine g_callVv [] o (mX4_readRun q90) cf4 (ckO_s k90) mw_431 mw_432 mw_1686 mw_2 mw_433 rfl yo_X4_readRun rfl rfl (Nat.le_of_ble_eq_true rfl) ⟨by decide, by decide⟩ ⟨rfl, rfl⟩ dX4_step_90 ⟨by decide, by decide⟩ ?_
    refine g_istore_n [(1, .int x90), (0, .ref v0)] o dX4_step_93 rfl (by decide) rfl ?_
    refine g_aload_n 1 o dX4_step_94 rfl rfl ?_
    obtain ⟨x95, q95, e⟩ := ob e
    refine g_getI 4 o cf4 (by decide) mw_88 dX4_step_95 q95 ?_
    refine g_aload_n 1 o dX4_step_98 rfl rfl ?_
    obtain ⟨x99, q99, e⟩ := ob e
    refine g_getI 6 o cf4 (by decide) mw_93 dX4_step_99 q99 ?_
    refine g_isub (x := x95) (y := x99) o dX4_step_102 ?_
    refine g_istore_n [(2, .int (x95 - x99)), (1, .int x90), (0, .ref v0)] o dX4_step_103 rfl (by decide) rfl ?_
    refine g_iload_n 0 o dX4_step_104 rfl rfl ?_
    refine g_if_ne (x := (x95 - x99)) 160 o dX4_step_105 (by decide) (fun u => ?_) (fun u => ?_)
    · rw [if_neg u] at e
      refine g_iload_n 1 o dX4_step_160 rfl rfl ?_
      refine g_iload_n 0 o dX4_step_161 rfl rfl ?_
      refine g_icmp_ne (x := x90) (y := (x95 - x99)) 187 o dX4_step_162 (by decide) (fun u => ?_) (fun u => ?_)
      · rw [if_neg u] at e
        refine g_sb [2, 1, 0] rfl ?_
        exact kX4_step_187 f0 o v0 x90 (x95 - x99) h90 hz q e
      · rw [if_pos u] at e
        refine g_iload_n 0 o dX4_step_165 rfl rfl ?_
        refine g_bipush (v := 7) o dX4_step_166 (by decide) ?_
        refine g_icmp_gt (x := (x95 - x99)) (y := 7) 187 o dX4_step_168 (by decide) (fun u => ?_) (fun u => ?_)
        · rw [if_pos u] at e
          refine g_sb [2, 1, 0] rfl ?_
          exact kX4_step_187 f0 o v0 x90 (x95 - x99) h90 hz q e
        · rw [if_neg u] at e
          refine g_aload_n 2 o dX4_step_171 rfl rfl ?_
          refine g_iconst (v := 1) o dX4_step_172 (by decide) ?_
          obtain ⟨h173, q173, e⟩ := ob e
          refine g_put (ty1 := .int) 5 o cf4 (by decide) mw_91 rfl (by decide +kernel) rfl rfl dX4_step_173 q173 ?_
          refine g_aload_n 2 o dX4_step_176 rfl rfl ?_
          refine g_aload_n 2 o dX4_step_177 rfl rfl ?_
          obtain ⟨_, k178, e⟩ := ob e
          obtain ⟨x178, h178, q178, e⟩ := ob2_s e
          refine g_callVv [] o (mX4_findReserved q178) cf4 (ckO_s k178) mw_491 mw_492 mw_1687 mw_2 mw_493 rfl yo_X4_findReserved rfl rfl (Nat.le_of_ble_eq_true rfl) ⟨by decide, by decide⟩ ⟨rfl, rfl⟩ dX4_step_178 ⟨by decide, by decide⟩ ?_
          obtain ⟨h181, q181, e⟩ := ob e
          refine g_put (ty1 := .int) 8 o cf4 (by decide) mw_99 rfl (by decide +kernel) rfl rfl dX4_step_181 q181 ?_
          refine g_goto 205 o dX4_step_184 (by decide) ?_
          exact g_vret o dX4_step_205 (rt_0 q e)
    · rw [if_pos u] at e
      refine g_aload_n 2 o dX4_step_108 rfl rfl ?_
      refine g_ldcS1 o dX4_step_109 ?_
      refine g_aload_n 2 o dX4_step_111 rfl rfl ?_
      obtain ⟨x112, q112, e⟩ := ob e
      refine g_getN 0 o cf4 (by decide) mw_84 dX4_step_112 q112 ?_
      refine g_aload_n 2 o dX4_step_115 rfl rfl ?_
      obtain ⟨x116, q116, e⟩ := ob e
      refine g_getI 4 o cf4 (by decide) mw_88 dX4_step_116 q116 ?_
      obtain ⟨x119, q119, e⟩ := ob e
      refine g_bald o dX4_step_119 q119 ?_
      refine g_sipush (v := 255) o dX4_step_120 (by decide) ?_
      refine g_iand (x := x119) (y := 255) o dX4_step_123 ?_
      refine g_i2c (x := (x119 &&& 255)) o dX4_step_124 ?_
      obtain ⟨x125, h125, q125, e⟩ := ob2_s e
      refine g_callTv 1 (by decide) [.int ((Int32.toUInt32 (x119 &&& 255) % 65536).toInt32)] o (mJ0_indexOf_0f7a4_s1 q125) mw_434 mw_435 mw_436 mw_3 mw_437 rfl yo_J0_indexOf_0f7a4_s1 rfl rfl (Nat.le_of_ble_eq_true rfl) ⟨by decide, by decide⟩ ⟨rfl, rfl⟩ dX4_step_125 ⟨by decide, by decide⟩ ?_
      refine g_if_lt (x := x125) 143 o dX4_step_128 (by decide) (fun u => ?_) (fun u => ?_)
      · rw [if_pos u] at e
        refine g_iconst (v := 3) o dX4_step_143 (by decide) ?_
        refine g_sb [2] rfl ?_
        exact kX4_step_144 f0 o v0 v0 3 h125 hz q e
      · rw [if_neg u] at e
        refine g_aload_n 2 o dX4_step_131 rfl rfl ?_
        obtain ⟨x132, q132, e⟩ := ob e
        refine g_getN 0 o cf4 (by decide) mw_84 dX4_step_132 q132 ?_
        refine g_aload_n 2 o dX4_step_135 rfl rfl ?_
        obtain ⟨x136, q136, e⟩ := ob e
        refine g_getI 4 o cf4 (by decide) mw_88 dX4_step_136 q136 ?_
        obtain ⟨x139, q139, e⟩ := ob e
        refine g_bald o dX4_step_139 q139 ?_
        refine g_goto 144 o dX4_step_140 (by decide) ?_
        refine g_sb [2] rfl ?_
        exact kX4_step_144 f0 o v0 v0 x139 h125 hz q e
  · rw [if_neg u] at e
    refine g_aload_n 0 o dX4_step_83 rfl rfl ?_
    refine g_iconst (v := 0) o dX4_step_84 (by decide) ?_
    obtain ⟨h85, q85, e⟩ := ob e
    refine g_put (ty1 := .int) 5 o cf4 (by decide) mw_91 rfl (by decide +kernel) rfl rfl dX4_step_85 q85 ?_
    exact g_vret o dX4_step_88 (rt_0 q e)
set_option maxRecDepth 100000 in
set_option maxHeartbeats 4000000 in
theorem kX4_step_0 {X : Cx} (f0 : Nat) (o : Ok X cX4_step RX4 3 rmX4_step none) (f : Nat) (v0 : Nat) (h : Hp) (hz : Hp) (q : Rt X none hz 0 0) (e : bX4_step_0 f0 f v0 h = some hz) : G X 3 0 [(0, .ref v0)] [] h 0 0 := by
  induction f generalizing v0 h hz with
  | zero => cases e
  | succ f1 ih =>
    unfold bX4_step_0 at e
    refine g_aload_n 0 o dX4_step_0 rfl rfl ?_
    obtain ⟨x1, q1, e⟩ := ob e
    refine g_getI 4 o cf4 (by decide) mw_88 dX4_step_1 q1 ?_
    refine g_aload_n 0 o dX4_step_4 rfl rfl ?_
    obtain ⟨x5, q5, e⟩ := ob e
    refine g_getI 3 o cf4 (by decide) mw_87 dX4_step_5 q5 ?_
    refine g_icmp_ge (x := x1) (y := x5) 52 o dX4_step_8 (by decide) (fun u => ?_) (fun u => ?_)
    · rw [if_pos u] at e
      exact kX4_step_52 f0 o v0 h hz q e
    · rw [if_neg u] at e
      refine g_aload_n 0 o dX4_step_11 rfl rfl ?_
      obtain ⟨x12, q12, e⟩ := ob e
      refine g_getN 0 o cf4 (by decide) mw_84 dX4_step_12 q12 ?_
      refine g_aload_n 0 o dX4_step_15 rfl rfl ?_
      obtain ⟨x16, q16, e⟩ := ob e
      refine g_getI 4 o cf4 (by decide) mw_88 dX4_step_16 q16 ?_
      obtain ⟨x19, q19, e⟩ := ob e
      refine g_bald o dX4_step_19 q19 ?_
      refine g_bipush (v := 32) o dX4_step_20 (by decide) ?_
      refine g_icmp_eq (x := x19) (y := 32) 39 o dX4_step_22 (by decide) (fun u => ?_) (fun u => ?_)
      · rw [if_pos u] at e
        exact kX4_step_39 f0 (bX4_step_0 f0 f1) ih o v0 h hz q e
      · rw [if_neg u] at e
        refine g_aload_n 0 o dX4_step_25 rfl rfl ?_
        obtain ⟨x26, q26, e⟩ := ob e
        refine g_getN 0 o cf4 (by decide) mw_84 dX4_step_26 q26 ?_
        refine g_aload_n 0 o dX4_step_29 rfl rfl ?_
        obtain ⟨x30, q30, e⟩ := ob e
        refine g_getI 4 o cf4 (by decide) mw_88 dX4_step_30 q30 ?_
        obtain ⟨x33, q33, e⟩ := ob e
        refine g_bald o dX4_step_33 q33 ?_
        refine g_bipush (v := 10) o dX4_step_34 (by decide) ?_
        refine g_icmp_ne (x := x33) (y := 10) 52 o dX4_step_36 (by decide) (fun u => ?_) (fun u => ?_)
        · rw [if_neg u] at e
          exact kX4_step_52 f0 o v0 h hz q e
        · rw [if_pos u] at e
          exact kX4_step_39 f0 (bX4_step_0 f0 f1) ih o v0 h hz q e
theorem yo_X4_step : yok yX4_step 0 := ⟨by decide, by decide, by decide +kernel⟩
set_option maxRecDepth 100000 in
set_option maxHeartbeats 4000000 in
theorem mX4_step {l : Launch} {D : va_G} {cy : Nat → ClassId} {f0 : Nat} {a : Nat} {h : Hp} {hz : Hp} (e : fX4_step f0 a h = some hz) : MC l D cy yX4_step cX4_step 3 none rmX4_step [.ref a] h none hz := by
  refine mc_of2 (by decide) (Nat.le_of_ble_eq_true rfl) (fun X hl hD hy hin o q => ?_)
  subst hl; subst hD; subst hy
  show G X 3 0 [(0, .ref a)] [] h 0 0
  unfold fX4_step at e
  exact kX4_step_0 f0 o f0 a h hz q e
theorem yo_X4_open : yok yX4_open 2 := ⟨by decide, by decide, by decide +kernel⟩
set_option maxRecDepth 100000 in
set_option maxHeartbeats 4000000 in
theorem mX4_open {l : Launch} {D : va_G} {cy : Nat → ClassId} {f0 : Nat} {a : Nat} {p0 : Int32} {p1 : Int32} {h : Hp} {hz : Hp} (e : fX4_open f0 a p0 p1 h = some hz) : MC l D cy yX4_open cX4_open 3 none rmX4_open [.ref a, .int p0, .int p1] h none hz := by
  refine mc_of2 (by decide) (Nat.le_of_ble_eq_true rfl) (fun X hl hD hy hin o q => ?_)
  subst hl; subst hD; subst hy
  show G X 3 0 [(0, .ref a), (1, .int p0), (2, .int p1)] [] h 0 0
  unfold fX4_open at e
  refine g_aload_n 0 o dX4_open_0 rfl rfl ?_
  refine g_iload_n 1 o dX4_open_1 rfl rfl ?_
  refine g_aload_n 0 o dX4_open_2 rfl rfl ?_
  obtain ⟨x3, q3, e⟩ := ob e
  refine g_getN 0 o cf4 (by decide) mw_84 dX4_open_3 q3 ?_
  obtain ⟨x6, q6, e⟩ := ob e
  refine g_alen (by decide) o dX4_open_6 q6 ?_
  refine g_mmin (x := p0) (y := x6) o mw_426 mw_362 mw_18 mw_363 ⟨by decide, Nat.le_of_ble_eq_true rfl⟩ ⟨by decide, by decide⟩ dX4_open_7 ?_
  obtain ⟨h10, q10, e⟩ := ob e
  refine g_put (ty1 := .int) 2 o cf4 (by decide) mw_86 rfl (by decide +kernel) rfl rfl dX4_open_10 q10 ?_
  refine g_aload_n 0 o dX4_open_13 rfl rfl ?_
  refine g_aload_n 0 o dX4_open_14 rfl rfl ?_
  obtain ⟨x15, q15, e⟩ := ob e
  refine g_getI 2 o cf4 (by decide) mw_86 dX4_open_15 q15 ?_
  refine g_iload_n 2 o dX4_open_18 rfl rfl ?_
  refine g_mmin (x := x15) (y := p1) o mw_426 mw_362 mw_18 mw_363 ⟨by decide, Nat.le_of_ble_eq_true rfl⟩ ⟨by decide, by decide⟩ dX4_open_19 ?_
  obtain ⟨h22, q22, e⟩ := ob e
  refine g_put (ty1 := .int) 3 o cf4 (by decide) mw_87 rfl (by decide +kernel) rfl rfl dX4_open_22 q22 ?_
  refine g_aload_n 0 o dX4_open_25 rfl rfl ?_
  refine g_iconst (v := 0) o dX4_open_26 (by decide) ?_
  obtain ⟨h27, q27, e⟩ := ob e
  refine g_put (ty1 := .int) 4 o cf4 (by decide) mw_88 rfl (by decide +kernel) rfl rfl dX4_open_27 q27 ?_
  refine g_aload_n 0 o dX4_open_30 rfl rfl ?_
  refine g_iconst (v := 0) o dX4_open_31 (by decide) ?_
  obtain ⟨h32, q32, e⟩ := ob e
  refine g_put (ty1 := .int) 10 o cf4 (by decide) mw_101 rfl (by decide +kernel) rfl rfl dX4_open_32 q32 ?_
  refine g_aload_n 0 o dX4_open_35 rfl rfl ?_
  refine g_iconst (v := 0) o dX4_open_36 (by decide) ?_
  obtain ⟨h37, q37, e⟩ := ob e
  refine g_put (ty1 := .int) 11 o cf4 (by decide) mw_103 rfl (by decide +kernel) rfl rfl dX4_open_37 q37 ?_
  refine g_aload_n 0 o dX4_open_40 rfl rfl ?_
  obtain ⟨_, k41, e⟩ := ob e
  obtain ⟨h41, q41, e⟩ := ob e
  refine g_callV0 [] o (mX4_step q41) cf4 (ckO_s k41) mw_427 mw_428 mw_429 mw_2 mw_430 rfl yo_X4_step rfl rfl (Nat.le_of_ble_eq_true rfl) ⟨by decide, by decide⟩ ⟨rfl, rfl⟩ dX4_open_41 ⟨by decide, by decide⟩ ?_
  exact g_vret o dX4_open_44 (rt_0 q e)
