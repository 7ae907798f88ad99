theorem yo_X6_clear : yok yX6_clear 0 := ⟨by decide, by decide, by decide +kernel⟩
set_option maxRecDepth 100000 in
set_option maxHeartbeats 4000000 in
theorem mX6_clear {l : Launch} {D : va_G} {cy : Nat → ClassId} {f0 : Nat} {a : Nat} {h : Hp} {hz : Hp} (e : fX6_clear f0 a h = some hz) : MC l D cy yX6_clear cX6_clear 1 none rmX6_clear [.ref a] h none hz := by
  refine mc_of2 (by decide) (Nat.le_of_ble_eq_true rfl) (fun X hl hD hy hin o q => ?_)
  subst hl; subst hD; subst hy
  show G X 1 0 [(0, .ref a)] [] h 0 0
  unfold fX6_clear at e
  refine g_aload_n 0 o dX6_clear_0 rfl rfl ?_
  obtain ⟨x1, q1, e⟩ := ob e
  refine g_getN 0 o cf6 (by decide) mw_139 dX6_clear_1 q1 ?_
  refine g_iconst (v := 0) o dX6_clear_4 (by decide) ?_
  obtain ⟨h5, q5, e⟩ := ob e
  refine g_put (ty1 := .int) 3 o cf3 (by decide) mw_133 rfl (by decide +kernel) rfl rfl dX6_clear_5 q5 ?_
  refine g_aload_n 0 o dX6_clear_8 rfl rfl ?_
  obtain ⟨x9, q9, e⟩ := ob e
  refine g_getN 1 o cf6 (by decide) mw_142 dX6_clear_9 q9 ?_
  refine g_iconst (v := 0) o dX6_clear_12 (by decide) ?_
  obtain ⟨h13, q13, e⟩ := ob e
  refine g_callS0 [.ref x9, .int 0] o (mJ7_fill_53178 q13) mw_498 mw_352 mw_16 mw_353 yo_J7_fill_53178 rfl rfl (Nat.le_of_ble_eq_true rfl) ⟨by decide, by decide⟩ ⟨rfl, rfl⟩ dX6_clear_13 ⟨by decide, by decide⟩ ?_
  refine g_aload_n 0 o dX6_clear_16 rfl rfl ?_
  refine g_iconst (v := 0) o dX6_clear_17 (by decide) ?_
  obtain ⟨h18, q18, e⟩ := ob e
  refine g_put (ty1 := .int) 2 o cf6 (by decide) mw_148 rfl (by decide +kernel) rfl rfl dX6_clear_18 q18 ?_
  refine g_aload_n 0 o dX6_clear_21 rfl rfl ?_
  obtain ⟨x22, q22, e⟩ := ob e
  refine g_getN 3 o cf6 (by decide) mw_152 dX6_clear_22 q22 ?_
  refine g_iconst (v := 0) o dX6_clear_25 (by decide) ?_
  obtain ⟨h26, q26, e⟩ := ob e
  refine g_callS0 [.ref x22, .int 0] o (mJ7_fill_53178 q26) mw_498 mw_352 mw_16 mw_353 yo_J7_fill_53178 rfl rfl (Nat.le_of_ble_eq_true rfl) ⟨by decide, by decide⟩ ⟨rfl, rfl⟩ dX6_clear_26 ⟨by decide, by decide⟩ ?_
  refine g_aload_n 0 o dX6_clear_29 rfl rfl ?_
  obtain ⟨x30, q30, e⟩ := ob e
  refine g_getN 4 o cf6 (by decide) mw_156 dX6_clear_30 q30 ?_
  refine g_iconst (v := 0) o dX6_clear_33 (by decide) ?_
  obtain ⟨h34, q34, e⟩ := ob e
  refine g_callS0 [.ref x30, .int 0] o (mJ7_fill_53178 q34) mw_498 mw_352 mw_16 mw_353 yo_J7_fill_53178 rfl rfl (Nat.le_of_ble_eq_true rfl) ⟨by decide, by decide⟩ ⟨rfl, rfl⟩ dX6_clear_34 ⟨by decide, by decide⟩ ?_
  refine g_aload_n 0 o dX6_clear_37 rfl rfl ?_
  obtain ⟨x38, q38, e⟩ := ob e
  refine g_getN 5 o cf6 (by decide) mw_159 dX6_clear_38 q38 ?_
  refine g_iconst (v := 0) o dX6_clear_41 (by decide) ?_
  obtain ⟨h42, q42, e⟩ := ob e
  refine g_callS0 [.ref x38, .int 0] o (mJ7_fill_53178 q42) mw_498 mw_352 mw_16 mw_353 yo_J7_fill_53178 rfl rfl (Nat.le_of_ble_eq_true rfl) ⟨by decide, by decide⟩ ⟨rfl, rfl⟩ dX6_clear_42 ⟨by decide, by decide⟩ ?_
  refine g_aload_n 0 o dX6_clear_45 rfl rfl ?_
  obtain ⟨x46, q46, e⟩ := ob e
  refine g_getN 6 o cf6 (by decide) mw_163 dX6_clear_46 q46 ?_
  refine g_iconst (v := 0) o dX6_clear_49 (by decide) ?_
  obtain ⟨h50, q50, e⟩ := ob e
  refine g_callS0 [.ref x46, .int 0] o (mJ7_fill_53178 q50) mw_498 mw_352 mw_16 mw_353 yo_J7_fill_53178 rfl rfl (Nat.le_of_ble_eq_true rfl) ⟨by decide, by decide⟩ ⟨rfl, rfl⟩ dX6_clear_50 ⟨by decide, by decide⟩ ?_
  refine g_aload_n 0 o dX6_clear_53 rfl rfl ?_
  obtain ⟨x54, q54, e⟩ := ob e
  refine g_getN 7 o cf6 (by decide) mw_166 dX6_clear_54 q54 ?_
  refine g_iconst (v := 0) o dX6_clear_57 (by decide) ?_
  obtain ⟨h58, q58, e⟩ := ob e
  refine g_callS0 [.ref x54, .int 0] o (mJ7_fill_53178 q58) mw_498 mw_352 mw_16 mw_353 yo_J7_fill_53178 rfl rfl (Nat.le_of_ble_eq_true rfl) ⟨by decide, by decide⟩ ⟨rfl, rfl⟩ dX6_clear_58 ⟨by decide, by decide⟩ ?_
  refine g_aload_n 0 o dX6_clear_61 rfl rfl ?_
  obtain ⟨x62, q62, e⟩ := ob e
  refine g_getN 8 o cf6 (by decide) mw_168 dX6_clear_62 q62 ?_
  refine g_iconst (v := 0) o dX6_clear_65 (by decide) ?_
  obtain ⟨h66, q66, e⟩ := ob e
  refine g_callS0 [.ref x62, .int 0] o (mJ7_fill_53178 q66) mw_498 mw_352 mw_16 mw_353 yo_J7_fill_53178 rfl rfl (Nat.le_of_ble_eq_true rfl) ⟨by decide, by decide⟩ ⟨rfl, rfl⟩ dX6_clear_66 ⟨by decide, by decide⟩ ?_
  exact g_vret o dX6_clear_69 (rt_0 q e)
theorem yo_X4_refuse : yok yX4_refuse 1 := ⟨by decide, by decide, by decide +kernel⟩
set_option maxRecDepth 100000 in
set_option maxHeartbeats 4000000 in
theorem mX4_refuse {l : Launch} {D : va_G} {cy : Nat → ClassId} {f0 : Nat} {a : Nat} {p0 : Int32} {h : Hp} {r : Int32} {hz : Hp} (e : fX4_refuse f0 a p0 h = some (r, hz)) : MC l D cy yX4_refuse cX4_refuse 2 (some .boolean) rmX4_refuse [.ref a, .int p0] h (some (.int r)) hz := by
  refine mc_of2 (by decide) (Nat.le_of_ble_eq_true rfl) (fun X hl hD hy hin o q => ?_)
  subst hl; subst hD; subst hy
  show G X 2 0 [(0, .ref a), (1, .int p0)] [] h 0 0
  unfold fX4_refuse at e
  refine g_aload_n 0 o dX4_refuse_0 rfl rfl ?_
  refine g_iload_n 1 o dX4_refuse_1 rfl rfl ?_
  obtain ⟨h2, q2, e⟩ := ob e
  refine g_put (ty1 := .int) 10 o cf4 (by decide) mw_101 rfl (by decide +kernel) rfl rfl dX4_refuse_2 q2 ?_
  refine g_aload_n 0 o dX4_refuse_5 rfl rfl ?_
  refine g_aload_n 0 o dX4_refuse_6 rfl rfl ?_
  obtain ⟨x7, q7, e⟩ := ob e
  refine g_getI 6 o cf4 (by decide) mw_93 dX4_refuse_7 q7 ?_
  obtain ⟨h10, q10, e⟩ := ob e
  refine g_put (ty1 := .int) 11 o cf4 (by decide) mw_103 rfl (by decide +kernel) rfl rfl dX4_refuse_10 q10 ?_
  refine g_iconst (v := 0) o dX4_refuse_13 (by decide) ?_
  exact g_zret o dX4_refuse_14 (zr_s e).1 (rt_v q (zr_s e).2)
theorem yo_X4_isName : yok yX4_isName 0 := ⟨by decide, by decide, by decide +kernel⟩
set_option maxRecDepth 100000 in
set_option maxHeartbeats 4000000 in
theorem mX4_isName {l : Launch} {D : va_G} {cy : Nat → ClassId} {f0 : Nat} {a : Nat} {h : Hp} {r : Int32} {hz : Hp} (e : fX4_isName f0 a h = some (r, hz)) : MC l D cy yX4_isName cX4_isName 1 (some .boolean) rmX4_isName [.ref a] h (some (.int r)) hz := by
  refine mc_of2 (by decide) (Nat.le_of_ble_eq_true rfl) (fun X hl hD hy hin o q => ?_)
  subst hl; subst hD; subst hy
  show G X 1 0 [(0, .ref a)] [] h 0 0
  unfold fX4_isName at e
  refine g_aload_n 0 o dX4_isName_0 rfl rfl ?_
  obtain ⟨x1, q1, e⟩ := ob e
  refine g_getI 5 o cf4 (by decide) mw_91 dX4_isName_1 q1 ?_
  refine g_iconst (v := 1) o dX4_isName_4 (by decide) ?_
  refine g_icmp_ne (x := x1) (y := 1) 20 o dX4_isName_5 (by decide) (fun u => ?_) (fun u => ?_)
  · rw [if_neg u] at e
    refine g_iconst (v := 0) o dX4_isName_20 (by decide) ?_
    exact g_zret o dX4_isName_21 (zr_s e).1 (rt_v q (zr_s e).2)
  · rw [if_pos u] at e
    refine g_aload_n 0 o dX4_isName_8 rfl rfl ?_
    obtain ⟨x9, q9, e⟩ := ob e
    refine g_getI 8 o cf4 (by decide) mw_99 dX4_isName_9 q9 ?_
    refine g_iconst (v := -1) o dX4_isName_12 (by decide) ?_
    refine g_icmp_ne (x := x9) (y := (-1)) 20 o dX4_isName_13 (by decide) (fun u => ?_) (fun u => ?_)
    · rw [if_neg u] at e
      refine g_iconst (v := 0) o dX4_isName_20 (by decide) ?_
      exact g_zret o dX4_isName_21 (zr_s e).1 (rt_v q (zr_s e).2)
    · rw [if_pos u] at e
      refine g_iconst (v := 1) o dX4_isName_16 (by decide) ?_
      refine g_goto 21 o dX4_isName_17 (by decide) ?_
      exact g_zret o dX4_isName_21 (zr_s e).1 (rt_v q (zr_s e).2)
set_option maxRecDepth 100000 in
set_option maxHeartbeats 4000000 in
theorem kX3_find_43 {X : Cx} (f0 : Nat) (g3 : Nat → Int64 → Int32 → Int32 → Hp → Option (Int32 × Hp)) (i3 : ∀ (v02 : Nat) (v12 : Int64) (v32 : Int32) (v42 : Int32) (h2 : Hp) (r : Int32) (hz : Hp), Rt X (some (.int r)) hz 0 0 → g3 v02 v12 v32 v42 h2 = some (r, hz) → G X 5 3 [(0, .ref v02), (1, .long v12), (3, .int v32), (4, .int v42)] [] h2 0 0) (o : Ok X cX3_find RX3 5 rmX3_find (some .int)) (v0 : Nat) (v1 : Int64) (v3 : Int32) (v4 : Int32) (h : Hp) (r : Int32) (hz : Hp) (q : Rt X (some (.int r)) hz 0 0) (e : bX3_find_43 f0 g3 v0 v1 v3 v4 h = some (r, hz)) : G X 5 43 [(0, .ref v0), (1, .long v1), (3, .int v3), (4, .int v4)] [] h 0 0 := by
  unfold bX3_find_43 at e
  refine g_iinc (k := 3) (v := (v4 + 1)) [(4, .int (v4 + 1)), (0, .ref v0), (1, .long v1), (3, .int v3)] o dX3_find_43 rfl rfl (by decide) rfl ?_
  refine g_goto 3 o dX3_find_46 (by decide) ?_
  refine g_sb [1, 2, 3, 0] rfl ?_
  exact i3 v0 v1 v3 (v4 + 1) h r hz q e
set_option maxRecDepth 100000 in
set_option maxHeartbeats 4000000 in
theorem kX3_find_3 {X : Cx} (f0 : Nat) (o : Ok X cX3_find RX3 5 rmX3_find (some .int)) (f : Nat) (v0 : Nat) (v1 : Int64) (v3 : Int32) (v4 : Int32) (h : Hp) (r : Int32) (hz : Hp) (q : Rt X (some (.int r)) hz 0 0) (e : bX3_find_3 f0 f v0 v1 v3 v4 h = some (r, hz)) : G X 5 3 [(0, .ref v0), (1, .long v1), (3, .int v3), (4, .int v4)] [] h 0 0 := by
  induction f generalizing v0 v1 v3 v4 h r hz with
  | zero => cases e
  | succ f1 ih =>
    unfold bX3_find_3 at e
    refine g_iload 3 o dX3_find_3 rfl ?_
    refine g_aload_n 0 o dX3_find_5 rfl rfl ?_
    obtain ⟨x6, q6, e⟩ := ob e
    refine g_getI 3 o cf3 (by decide) mw_132 dX3_find_6 q6 ?_
    refine g_icmp_ge (x := v4) (y := x6) 49 o dX3_find_9 (by decide) (fun u => ?_) (fun u => ?_)
    · rw [if_pos u] at e
      refine g_iconst (v := -1) o dX3_find_49 (by decide) ?_
      exact g_iret o dX3_find_50 (rt_v q e)
    · rw [if_neg u] at e
      refine g_aload_n 0 o dX3_find_12 rfl rfl ?_
      obtain ⟨x13, q13, e⟩ := ob e
      refine g_getN 0 o cf3 (by decide) mw_129 dX3_find_13 q13 ?_
      refine g_iload 3 o dX3_find_16 rfl ?_
      obtain ⟨x18, q18, e⟩ := ob e
      refine g_lald o dX3_find_18 q18 ?_
      refine g_lload_n 1 o dX3_find_19 rfl rfl ?_
      refine g_lcmp (x := x18) (y := v1) o dX3_find_20 ?_
      refine g_if_ne (x := (lg_cmp x18 v1)) 43 o dX3_find_21 (by decide) (fun u => ?_) (fun u => ?_)
      · rw [if_neg u] at e
        exact kX3_find_43 f0 (bX3_find_3 f0 f1) ih o v0 v1 v3 v4 h r hz q e
      · rw [if_pos u] at e
        refine g_aload_n 0 o dX3_find_24 rfl rfl ?_
        obtain ⟨x25, q25, e⟩ := ob e
        refine g_getN 1 o cf3 (by decide) mw_130 dX3_find_25 q25 ?_
        refine g_iload 3 o dX3_find_28 rfl ?_
        obtain ⟨x30, q30, e⟩ := ob e
        refine g_iald o dX3_find_30 q30 ?_
        refine g_iload_n 2 o dX3_find_31 rfl rfl ?_
        refine g_icmp_ne (x := x30) (y := v3) 43 o dX3_find_32 (by decide) (fun u => ?_) (fun u => ?_)
        · rw [if_neg u] at e
          exact kX3_find_43 f0 (bX3_find_3 f0 f1) ih o v0 v1 v3 v4 h r hz q e
        · rw [if_pos u] at e
          refine g_aload_n 0 o dX3_find_35 rfl rfl ?_
          obtain ⟨x36, q36, e⟩ := ob e
          refine g_getN 2 o cf3 (by decide) mw_131 dX3_find_36 q36 ?_
          refine g_iload 3 o dX3_find_39 rfl ?_
          obtain ⟨x41, q41, e⟩ := ob e
          refine g_iald o dX3_find_41 q41 ?_
          exact g_iret o dX3_find_42 (rt_v q e)
theorem yo_X3_find : yok yX3_find 2 := ⟨by decide, by decide, by decide +kernel⟩
set_option maxRecDepth 100000 in
set_option maxHeartbeats 4000000 in
theorem mX3_find {l : Launch} {D : va_G} {cy : Nat → ClassId} {f0 : Nat} {a : Nat} {p0 : Int64} {p1 : Int32} {h : Hp} {r : Int32} {hz : Hp} (e : fX3_find f0 a p0 p1 h = some (r, hz)) : MC l D cy yX3_find cX3_find 5 (some .int) rmX3_find [.ref a, .long p0, .int p1] h (some (.int r)) hz := by
  refine mc_of2 (by decide) (Nat.le_of_ble_eq_true rfl) (fun X hl hD hy hin o q => ?_)
  subst hl; subst hD; subst hy
  show G X 5 0 [(0, .ref a), (1, .long p0), (3, .int p1)] [] h 0 0
  unfold fX3_find at e
  refine g_iconst (v := 0) o dX3_find_0 (by decide) ?_
  refine g_istore [(4, .int 0), (0, .ref a), (1, .long p0), (3, .int p1)] o dX3_find_1 (by decide) rfl ?_
  refine g_sb [1, 2, 3, 0] rfl ?_
  exact kX3_find_3 f0 o f0 a p0 p1 0 h r hz q e
set_option maxRecDepth 100000 in
set_option maxHeartbeats 4000000 in
theorem kX4_look_36 {X : Cx} (f0 : Nat) (o : Ok X cX4_look RX4 4 rmX4_look (some .int)) (v3 : Int32) (h : Hp) (r : Int32) (hz : Hp) (q : Rt X (some (.int r)) hz 0 0) (e : bX4_look_36 f0 v3 h = some (r, hz)) : G X 4 36 [(3, .int v3)] [] h 0 0 := by
  unfold bX4_look_36 at e
  refine g_iload_n 0 o dX4_look_36 rfl rfl ?_
  exact g_iret o dX4_look_37 (rt_v q e)
theorem yo_X4_look : yok yX4_look 2 := ⟨by decide, by decide, by decide +kernel⟩
set_option maxRecDepth 100000 in
set_option maxHeartbeats 4000000 in
theorem mX4_look {l : Launch} {D : va_G} {cy : Nat → ClassId} {f0 : Nat} {a : Nat} {p0 : Nat} {p1 : Int32} {h : Hp} {r : Int32} {hz : Hp} (e : fX4_look f0 a p0 p1 h = some (r, hz)) : MC l D cy yX4_look cX4_look 4 (some .int) rmX4_look [.ref a, .ref p0, .int p1] h (some (.int r)) hz := by
  refine mc_of2 (by decide) (Nat.le_of_ble_eq_true rfl) (fun X hl hD hy hin o q => ?_)
  subst hl; subst hD; subst hy
  show G X 4 0 [(0, .ref a), (1, .ref p0), (2, .int p1)] [] h 0 0
  unfold fX4_look at e
  refine g_aload_n 0 o dX4_look_0 rfl rfl ?_
  obtain ⟨_, k1, e⟩ := ob e
  obtain ⟨x1, h1, q1, e⟩ := ob2_s e
  refine g_callVv [] o (mX4_isName q1) cf4 (ckO_s k1) mw_517 mw_518 mw_519 mw_2 mw_520 rfl yo_X4_isName rfl rfl (Nat.le_of_ble_eq_true rfl) ⟨by decide, by decide⟩ ⟨rfl, rfl⟩ dX4_look_1 ⟨by decide, by decide⟩ ?_
  refine g_if_ne (x := x1) 15 o dX4_look_4 (by decide) (fun u => ?_) (fun u => ?_)
  · rw [if_neg u] at e
    refine g_aload_n 1 o dX4_look_15 rfl rfl ?_
    refine g_aload_n 0 o dX4_look_16 rfl rfl ?_
    obtain ⟨x17, q17, e⟩ := ob e
    refine g_getJ 7 o cf4 (by decide) mw_94 dX4_look_17 q17 ?_
    refine g_iload_n 2 o dX4_look_20 rfl rfl ?_
    obtain ⟨_, k21, e⟩ := ob e
    obtain ⟨x21, h21, q21, e⟩ := ob2_s e
    refine g_callVv [.long x17, .int p1] o (mX3_find q21) cf3 (ckO_s k21) mw_522 mw_523 mw_524 mw_8 mw_525 rfl yo_X3_find rfl rfl (Nat.le_of_ble_eq_true rfl) ⟨by decide, by decide⟩ ⟨rfl, rfl⟩ dX4_look_21 ⟨by decide, by decide⟩ ?_
    refine g_istore_n [(3, .int x21), (0, .ref a), (1, .ref p0), (2, .int p1)] o dX4_look_24 rfl (by decide) rfl ?_
    refine g_iload_n 0 o dX4_look_25 rfl rfl ?_
    refine g_iconst (v := -1) o dX4_look_26 (by decide) ?_
    refine g_icmp_ne (x := x21) (y := (-1)) 36 o dX4_look_27 (by decide) (fun u => ?_) (fun u => ?_)
    · rw [if_neg u] at e
      refine g_sb [0] rfl ?_
      exact kX4_look_36 f0 o x21 h21 r hz q e
    · rw [if_pos u] at e
      refine g_aload_n 1 o dX4_look_30 rfl rfl ?_
      refine g_iconst (v := 3) o dX4_look_31 (by decide) ?_
      obtain ⟨_, k32, e⟩ := ob e
      obtain ⟨x32, h32, q32, e⟩ := ob2_s e
      refine g_callVv [.int 3] o (mX4_refuse q32) cf4 (ckO_s k32) mw_521 mw_503 mw_504 mw_2 mw_505 rfl yo_X4_refuse rfl rfl (Nat.le_of_ble_eq_true rfl) ⟨by decide, by decide⟩ ⟨rfl, rfl⟩ dX4_look_32 ⟨by decide, by decide⟩ ?_
      refine g_pop o dX4_look_35 rfl ?_
      refine g_sb [0] rfl ?_
      exact kX4_look_36 f0 o x21 h32 r hz q e
  · rw [if_pos u] at e
    refine g_aload_n 0 o dX4_look_7 rfl rfl ?_
    refine g_iconst (v := 1) o dX4_look_8 (by decide) ?_
    obtain ⟨_, k9, e⟩ := ob e
    obtain ⟨x9, h9, q9, e⟩ := ob2_s e
    refine g_callVv [.int 1] o (mX4_refuse q9) cf4 (ckO_s k9) mw_521 mw_503 mw_504 mw_2 mw_505 rfl yo_X4_refuse rfl rfl (Nat.le_of_ble_eq_true rfl) ⟨by decide, by decide⟩ ⟨rfl, rfl⟩ dX4_look_9 ⟨by decide, by decide⟩ ?_
    refine g_pop o dX4_look_12 rfl ?_
    refine g_iconst (v := -1) o dX4_look_13 (by decide) ?_
    exact g_iret o dX4_look_14 (rt_v q e)
set_option maxRecDepth 100000 in
set_option maxHeartbeats 4000000 in
theorem kX4_lookNumber_32 {X : Cx} (f0 : Nat) (o : Ok X cX4_lookNumber RX4 3 rmX4_lookNumber (some .int)) (v0 : Nat) (h : Hp) (r : Int32) (hz : Hp) (q : Rt X (some (.int r)) hz 0 0) (e : bX4_lookNumber_32 f0 v0 h = some (r, hz)) : G X 3 32 [(0, .ref v0)] [] h 0 0 := by
  unfold bX4_lookNumber_32 at e
  refine g_aload_n 0 o dX4_lookNumber_32 rfl rfl ?_
  refine g_iconst (v := 2) o dX4_lookNumber_33 (by decide) ?_
  obtain ⟨_, k34, e⟩ := ob e
  obtain ⟨x34, h34, q34, e⟩ := ob2_s e
  refine g_callVv [.int 2] o (mX4_refuse q34) cf4 (ckO_s k34) mw_521 mw_503 mw_504 mw_2 mw_505 rfl yo_X4_refuse rfl rfl (Nat.le_of_ble_eq_true rfl) ⟨by decide, by decide⟩ ⟨rfl, rfl⟩ dX4_lookNumber_34 ⟨by decide, by decide⟩ ?_
  refine g_pop o dX4_lookNumber_37 rfl ?_
  refine g_iconst (v := -1) o dX4_lookNumber_38 (by decide) ?_
  exact g_iret o dX4_lookNumber_39 (rt_v q e)
theorem yo_X4_lookNumber : yok yX4_lookNumber 2 := ⟨by decide, by decide, by decide +kernel⟩
set_option maxRecDepth 100000 in
set_option maxHeartbeats 4000000 in
theorem mX4_lookNumber {l : Launch} {D : va_G} {cy : Nat → ClassId} {f0 : Nat} {a : Nat} {p0 : Int32} {p1 : Int32} {h : Hp} {r : Int32} {hz : Hp} (e : fX4_lookNumber f0 a p0 p1 h = some (r, hz)) : MC l D cy yX4_lookNumber cX4_lookNumber 3 (some .int) rmX4_lookNumber [.ref a, .int p0, .int p1] h (some (.int r)) hz := by
  refine mc_of2 (by decide) (Nat.le_of_ble_eq_true rfl) (fun X hl hD hy hin o q => ?_)
  subst hl; subst hD; subst hy
  show G X 3 0 [(0, .ref a), (1, .int p0), (2, .int p1)] [] h 0 0
  unfold fX4_lookNumber at e
  refine g_aload_n 0 o dX4_lookNumber_0 rfl rfl ?_
  obtain ⟨x1, q1, e⟩ := ob e
  refine g_getI 5 o cf4 (by decide) mw_91 dX4_lookNumber_1 q1 ?_
  refine g_iconst (v := 2) o dX4_lookNumber_4 (by decide) ?_
  refine g_icmp_eq (x := x1) (y := 2) 16 o dX4_lookNumber_5 (by decide) (fun u => ?_) (fun u => ?_)
  · rw [if_pos u] at e
    refine g_aload_n 0 o dX4_lookNumber_16 rfl rfl ?_
    obtain ⟨x17, q17, e⟩ := ob e
    refine g_getI 9 o cf4 (by decide) mw_100 dX4_lookNumber_17 q17 ?_
    refine g_iload_n 1 o dX4_lookNumber_20 rfl rfl ?_
    refine g_icmp_lt (x := x17) (y := p0) 32 o dX4_lookNumber_21 (by decide) (fun u => ?_) (fun u => ?_)
    · rw [if_pos u] at e
      refine g_sb [0] rfl ?_
      exact kX4_lookNumber_32 f0 o a h r hz q e
    · rw [if_neg u] at e
      refine g_aload_n 0 o dX4_lookNumber_24 rfl rfl ?_
      obtain ⟨x25, q25, e⟩ := ob e
      refine g_getI 9 o cf4 (by decide) mw_100 dX4_lookNumber_25 q25 ?_
      refine g_iload_n 2 o dX4_lookNumber_28 rfl rfl ?_
      refine g_icmp_le (x := x25) (y := p1) 40 o dX4_lookNumber_29 (by decide) (fun u => ?_) (fun u => ?_)
      · rw [if_pos u] at e
        refine g_aload_n 0 o dX4_lookNumber_40 rfl rfl ?_
        obtain ⟨x41, q41, e⟩ := ob e
        refine g_getI 9 o cf4 (by decide) mw_100 dX4_lookNumber_41 q41 ?_
        exact g_iret o dX4_lookNumber_44 (rt_v q e)
      · rw [if_neg u] at e
        refine g_sb [0] rfl ?_
        exact kX4_lookNumber_32 f0 o a h r hz q e
  · rw [if_neg u] at e
    refine g_aload_n 0 o dX4_lookNumber_8 rfl rfl ?_
    refine g_iconst (v := 1) o dX4_lookNumber_9 (by decide) ?_
    obtain ⟨_, k10, e⟩ := ob e
    obtain ⟨x10, h10, q10, e⟩ := ob2_s e
    refine g_callVv [.int 1] o (mX4_refuse q10) cf4 (ckO_s k10) mw_521 mw_503 mw_504 mw_2 mw_505 rfl yo_X4_refuse rfl rfl (Nat.le_of_ble_eq_true rfl) ⟨by decide, by decide⟩ ⟨rfl, rfl⟩ dX4_lookNumber_10 ⟨by decide, by decide⟩ ?_
    refine g_pop o dX4_lookNumber_13 rfl ?_
    refine g_iconst (v := -1) o dX4_lookNumber_14 (by decide) ?_
    exact g_iret o dX4_lookNumber_15 (rt_v q e)
set_option maxRecDepth 100000 in
set_option maxHeartbeats 4000000 in
theorem kX7_readPair_94 {X : Cx} (f0 : Nat) (o : Ok X cX7_readPair RX7 9 rmX7_readPair (some .boolean)) (v0 : Nat) (h : Hp) (r : Int32) (hz : Hp) (q : Rt X (some (.int r)) hz 0 0) (e : bX7_readPair_94 f0 v0 h = some (r, hz)) : G X 9 94 [(0, .ref v0)] [] h 0 0 := by
  unfold bX7_readPair_94 at e
  refine g_aload_n 0 o dX7_readPair_94 rfl rfl ?_
  obtain ⟨x95, q95, e⟩ := ob e
  refine g_getN 0 o cf7 (by decide) mw_202 dX7_readPair_95 q95 ?_
  refine g_iconst (v := 3) o dX7_readPair_98 (by decide) ?_
  obtain ⟨_, k99, e⟩ := ob e
  obtain ⟨x99, h99, q99, e⟩ := ob2_s e
  refine g_callVv [.int 3] o (mX4_refuse q99) cf4 (ckO_s k99) mw_502 mw_503 mw_504 mw_2 mw_505 rfl yo_X4_refuse rfl rfl (Nat.le_of_ble_eq_true rfl) ⟨by decide, by decide⟩ ⟨rfl, rfl⟩ dX7_readPair_99 ⟨by decide, by decide⟩ ?_
  exact g_zret o dX7_readPair_102 (zr_s e).1 (rt_v q (zr_s e).2)
set_option maxRecDepth 100000 in
set_option maxHeartbeats 4000000 in
theorem kX7_readPair_74 {X : Cx} (f0 : Nat) (o : Ok X cX7_readPair RX7 9 rmX7_readPair (some .boolean)) (v0 : Nat) (v3 : Nat) (v4 : Int32) (v5 : Int32) (v6 : Int32) (s0 : Int32) (h : Hp) (r : Int32) (hz : Hp) (q : Rt X (some (.int r)) hz 0 0) (e : bX7_readPair_74 f0 v0 v3 v4 v5 v6 s0 h = some (r, hz)) : G X 9 74 [(0, .ref v0), (3, .ref v3), (4, .int v4), (5, .int v5), (6, .int v6)] [.int s0] h 0 0 := by
  unfold bX7_readPair_74 at e
  refine g_istore [(7, .int s0), (0, .ref v0), (3, .ref v3), (4, .int v4), (5, .int v5), (6, .int v6)] o dX7_readPair_74 (by decide) rfl ?_
  refine g_iload 0 o dX7_readPair_76 rfl ?_
  refine g_if_ne (x := s0) 94 o dX7_readPair_78 (by decide) (fun u => ?_) (fun u => ?_)
  · rw [if_neg u] at e
    refine g_sb [1] rfl ?_
    exact kX7_readPair_94 f0 o v0 h r hz q e
  · rw [if_pos u] at e
    refine g_aload_n 2 o dX7_readPair_81 rfl rfl ?_
    refine g_iload 4 o dX7_readPair_82 rfl ?_
    refine g_bipush (v := 8) o dX7_readPair_84 (by decide) ?_
    refine g_imul (x := v5) (y := 8) o dX7_readPair_86 ?_
    refine g_iload 5 o dX7_readPair_87 rfl ?_
    refine g_iadd (x := (v5 * 8)) (y := v6) o dX7_readPair_89 ?_
    obtain ⟨x90, q90, e⟩ := ob e
    refine g_iald o dX7_readPair_90 q90 ?_
    refine g_if_eq (x := x90) 103 o dX7_readPair_91 (by decide) (fun u => ?_) (fun u => ?_)
    · rw [if_pos u] at e
      refine g_aload_n 1 o dX7_readPair_103 rfl rfl ?_
      obtain ⟨x104, q104, e⟩ := ob e
      refine g_getN 0 o cf7 (by decide) mw_202 dX7_readPair_104 q104 ?_
      obtain ⟨_, k107, e⟩ := ob e
      obtain ⟨h107, q107, e⟩ := ob e
      refine g_callV0 [] o (mX4_step q107) cf4 (ckO_s k107) mw_506 mw_428 mw_429 mw_2 mw_430 rfl yo_X4_step rfl rfl (Nat.le_of_ble_eq_true rfl) ⟨by decide, by decide⟩ ⟨rfl, rfl⟩ dX7_readPair_107 ⟨by decide, by decide⟩ ?_
      refine g_iload 3 o dX7_readPair_110 rfl ?_
      refine g_if_ne (x := v4) 128 o dX7_readPair_112 (by decide) (fun u => ?_) (fun u => ?_)
      · rw [if_neg u] at e
        refine g_aload_n 1 o dX7_readPair_128 rfl rfl ?_
        obtain ⟨x129, q129, e⟩ := ob e
        refine g_getN 0 o cf7 (by decide) mw_202 dX7_readPair_129 q129 ?_
        refine g_iconst (v := 1) o dX7_readPair_132 (by decide) ?_
        refine g_iload 3 o dX7_readPair_133 rfl ?_
        obtain ⟨_, k135, e⟩ := ob e
        obtain ⟨x135, h135, q135, e⟩ := ob2_s e
        refine g_callVv [.int 1, .int v4] o (mX4_lookNumber q135) cf4 (ckO_s k135) mw_526 mw_527 mw_528 mw_2 mw_529 rfl yo_X4_lookNumber rfl rfl (Nat.le_of_ble_eq_true rfl) ⟨by decide, by decide⟩ ⟨rfl, rfl⟩ dX7_readPair_135 ⟨by decide, by decide⟩ ?_
        refine g_istore [(8, .int x135), (7, .int s0), (0, .ref v0), (3, .ref v3), (4, .int v4), (5, .int v5), (6, .int v6)] o dX7_readPair_138 (by decide) rfl ?_
        refine g_iload 0 o dX7_readPair_140 rfl ?_
        refine g_iconst (v := -1) o dX7_readPair_142 (by decide) ?_
        refine g_icmp_ne (x := x135) (y := (-1)) 148 o dX7_readPair_143 (by decide) (fun u => ?_) (fun u => ?_)
        · rw [if_neg u] at e
          refine g_aload_n 3 o dX7_readPair_148 rfl rfl ?_
          refine g_iload 5 o dX7_readPair_149 rfl ?_
          refine g_bipush (v := 8) o dX7_readPair_151 (by decide) ?_
          refine g_imul (x := v5) (y := 8) o dX7_readPair_153 ?_
          refine g_iload 6 o dX7_readPair_154 rfl ?_
          refine g_iadd (x := (v5 * 8)) (y := v6) o dX7_readPair_156 ?_
          refine g_iload 0 o dX7_readPair_157 rfl ?_
          obtain ⟨h159, q159, e⟩ := ob e
          refine g_iast o dX7_readPair_159 q159 ?_
          refine g_aload_n 2 o dX7_readPair_160 rfl rfl ?_
          obtain ⟨x161, q161, e⟩ := ob e
          refine g_getN 0 o cf7 (by decide) mw_202 dX7_readPair_161 q161 ?_
          obtain ⟨_, k164, e⟩ := ob e
          obtain ⟨h164, q164, e⟩ := ob e
          refine g_callV0 [] o (mX4_step q164) cf4 (ckO_s k164) mw_506 mw_428 mw_429 mw_2 mw_430 rfl yo_X4_step rfl rfl (Nat.le_of_ble_eq_true rfl) ⟨by decide, by decide⟩ ⟨rfl, rfl⟩ dX7_readPair_164 ⟨by decide, by decide⟩ ?_
          refine g_iconst (v := 1) o dX7_readPair_167 (by decide) ?_
          exact g_zret o dX7_readPair_168 (zr_s e).1 (rt_v q (zr_s e).2)
        · rw [if_pos u] at e
          refine g_iconst (v := 0) o dX7_readPair_146 (by decide) ?_
          exact g_zret o dX7_readPair_147 (zr_s e).1 (rt_v q (zr_s e).2)
      · rw [if_pos u] at e
        refine g_aload_n 2 o dX7_readPair_115 rfl rfl ?_
        refine g_iload 4 o dX7_readPair_116 rfl ?_
        refine g_bipush (v := 8) o dX7_readPair_118 (by decide) ?_
        refine g_imul (x := v5) (y := 8) o dX7_readPair_120 ?_
        refine g_iload 5 o dX7_readPair_121 rfl ?_
        refine g_iadd (x := (v5 * 8)) (y := v6) o dX7_readPair_123 ?_
        refine g_iconst (v := 1) o dX7_readPair_124 (by decide) ?_
        obtain ⟨h125, q125, e⟩ := ob e
        refine g_iast o dX7_readPair_125 q125 ?_
        refine g_iconst (v := 1) o dX7_readPair_126 (by decide) ?_
        exact g_zret o dX7_readPair_127 (zr_s e).1 (rt_v q (zr_s e).2)
    · rw [if_neg u] at e
      refine g_sb [1] rfl ?_
      exact kX7_readPair_94 f0 o v0 h r hz q e
set_option maxRecDepth 100000 in
set_option maxHeartbeats 4000000 in
theorem kX7_readPair_73 {X : Cx} (f0 : Nat) (o : Ok X cX7_readPair RX7 9 rmX7_readPair (some .boolean)) (v0 : Nat) (v3 : Nat) (v4 : Int32) (v5 : Int32) (v6 : Int32) (h : Hp) (r : Int32) (hz : Hp) (q : Rt X (some (.int r)) hz 0 0) (e : bX7_readPair_73 f0 v0 v3 v4 v5 v6 h = some (r, hz)) : G X 9 73 [(0, .ref v0), (3, .ref v3), (4, .int v4), (5, .int v5), (6, .int v6)] [] h 0 0 := by
  unfold bX7_readPair_73 at e
  refine g_iconst (v := 0) o dX7_readPair_73 (by decide) ?_
  exact kX7_readPair_74 f0 o v0 v3 v4 v5 v6 0 h r hz q e
theorem yo_X7_readPair : yok yX7_readPair 4 := ⟨by decide, by decide, by decide +kernel⟩
set_option maxRecDepth 100000 in
set_option maxHeartbeats 4000000 in
theorem mX7_readPair {l : Launch} {D : va_G} {cy : Nat → ClassId} {f0 : Nat} {a : Nat} {p0 : Int32} {p1 : Int32} {p2 : Nat} {p3 : Int32} {h : Hp} {r : Int32} {hz : Hp} (e : fX7_readPair f0 a p0 p1 p2 p3 h = some (r, hz)) : MC l D cy yX7_readPair cX7_readPair 9 (some .boolean) rmX7_readPair [.ref a, .int p0, .int p1, .ref p2, .int p3] h (some (.int r)) hz := by
  refine mc_of2 (by decide) (Nat.le_of_ble_eq_true rfl) (fun X hl hD hy hin o q => ?_)
  subst hl; subst hD; subst hy
  show G X 9 0 [(0, .ref a), (1, .int p0), (2, .int p1), (3, .ref p2), (4, .int p3)] [] h 0 0
  unfold fX7_readPair at e
  refine g_aload_n 0 o dX7_readPair_0 rfl rfl ?_
  obtain ⟨x1, q1, e⟩ := ob e
  refine g_getN 0 o cf7 (by decide) mw_202 dX7_readPair_1 q1 ?_
  refine g_aload_n 0 o dX7_readPair_4 rfl rfl ?_
  obtain ⟨x5, q5, e⟩ := ob e
  refine g_getN 1 o cf7 (by decide) mw_203 dX7_readPair_5 q5 ?_
  obtain ⟨x8, q8, e⟩ := ob e
  refine g_getN 0 o cf6 (by decide) mw_141 dX7_readPair_8 q8 ?_
  refine g_iload_n 1 o dX7_readPair_11 rfl rfl ?_
  obtain ⟨_, k12, e⟩ := ob e
  obtain ⟨x12, h12, q12, e⟩ := ob2_s e
  refine g_callVv [.ref x8, .int p0] o (mX4_look q12) cf4 (ckO_s k12) mw_513 mw_514 mw_515 mw_2 mw_516 rfl yo_X4_look rfl rfl (Nat.le_of_ble_eq_true rfl) ⟨by decide, by decide⟩ ⟨rfl, rfl⟩ dX7_readPair_12 ⟨by decide, by decide⟩ ?_
  refine g_istore [(5, .int x12), (0, .ref a), (1, .int p0), (2, .int p1), (3, .ref p2), (4, .int p3)] o dX7_readPair_15 (by decide) rfl ?_
  refine g_iload 0 o dX7_readPair_17 rfl ?_
  refine g_iconst (v := -1) o dX7_readPair_19 (by decide) ?_
  refine g_icmp_ne (x := x12) (y := (-1)) 25 o dX7_readPair_20 (by decide) (fun u => ?_) (fun u => ?_)
  · rw [if_neg u] at e
    refine g_aload_n 1 o dX7_readPair_25 rfl rfl ?_
    obtain ⟨x26, q26, e⟩ := ob e
    refine g_getN 0 o cf7 (by decide) mw_202 dX7_readPair_26 q26 ?_
    obtain ⟨_, k29, e⟩ := ob e
    obtain ⟨h29, q29, e⟩ := ob e
    refine g_callV0 [] o (mX4_step q29) cf4 (ckO_s k29) mw_506 mw_428 mw_429 mw_2 mw_430 rfl yo_X4_step rfl rfl (Nat.le_of_ble_eq_true rfl) ⟨by decide, by decide⟩ ⟨rfl, rfl⟩ dX7_readPair_29 ⟨by decide, by decide⟩ ?_
    refine g_aload_n 1 o dX7_readPair_32 rfl rfl ?_
    obtain ⟨x33, q33, e⟩ := ob e
    refine g_getN 0 o cf7 (by decide) mw_202 dX7_readPair_33 q33 ?_
    refine g_aload_n 1 o dX7_readPair_36 rfl rfl ?_
    obtain ⟨x37, q37, e⟩ := ob e
    refine g_getN 1 o cf7 (by decide) mw_203 dX7_readPair_37 q37 ?_
    obtain ⟨x40, q40, e⟩ := ob e
    refine g_getN 0 o cf6 (by decide) mw_141 dX7_readPair_40 q40 ?_
    refine g_iload_n 3 o dX7_readPair_43 rfl rfl ?_
    obtain ⟨_, k44, e⟩ := ob e
    obtain ⟨x44, h44, q44, e⟩ := ob2_s e
    refine g_callVv [.ref x40, .int p1] o (mX4_look q44) cf4 (ckO_s k44) mw_513 mw_514 mw_515 mw_2 mw_516 rfl yo_X4_look rfl rfl (Nat.le_of_ble_eq_true rfl) ⟨by decide, by decide⟩ ⟨rfl, rfl⟩ dX7_readPair_44 ⟨by decide, by decide⟩ ?_
    refine g_istore [(6, .int x44), (5, .int x12), (0, .ref a), (1, .int p0), (2, .int p1), (3, .ref p2), (4, .int p3)] o dX7_readPair_47 (by decide) rfl ?_
    refine g_iload 0 o dX7_readPair_49 rfl ?_
    refine g_iconst (v := -1) o dX7_readPair_51 (by decide) ?_
    refine g_icmp_ne (x := x44) (y := (-1)) 57 o dX7_readPair_52 (by decide) (fun u => ?_) (fun u => ?_)
    · rw [if_neg u] at e
      refine g_iload_n 3 o dX7_readPair_57 rfl rfl ?_
      refine g_iload_n 4 o dX7_readPair_58 rfl rfl ?_
      refine g_icmp_ne (x := p0) (y := p1) 73 o dX7_readPair_59 (by decide) (fun u => ?_) (fun u => ?_)
      · rw [if_neg u] at e
        refine g_sb [2, 5, 6, 1, 0] rfl ?_
        exact kX7_readPair_73 f0 o a p2 p3 x12 x44 h44 r hz q e
      · rw [if_pos u] at e
        refine g_iload 1 o dX7_readPair_62 rfl ?_
        refine g_iload 0 o dX7_readPair_64 rfl ?_
        refine g_icmp_ne (x := x12) (y := x44) 73 o dX7_readPair_66 (by decide) (fun u => ?_) (fun u => ?_)
        · rw [if_neg u] at e
          refine g_sb [2, 5, 6, 1, 0] rfl ?_
          exact kX7_readPair_73 f0 o a p2 p3 x12 x44 h44 r hz q e
        · rw [if_pos u] at e
          refine g_iconst (v := 1) o dX7_readPair_69 (by decide) ?_
          refine g_goto 74 o dX7_readPair_70 (by decide) ?_
          refine g_sb [2, 5, 6, 1, 0] rfl ?_
          exact kX7_readPair_74 f0 o a p2 p3 x12 x44 1 h44 r hz q e
    · rw [if_pos u] at e
      refine g_iconst (v := 0) o dX7_readPair_55 (by decide) ?_
      exact g_zret o dX7_readPair_56 (zr_s e).1 (rt_v q (zr_s e).2)
  · rw [if_pos u] at e
    refine g_iconst (v := 0) o dX7_readPair_23 (by decide) ?_
    exact g_zret o dX7_readPair_24 (zr_s e).1 (rt_v q (zr_s e).2)
set_option maxRecDepth 100000 in
set_option maxHeartbeats 4000000 in
theorem kX7_mirrorWays_10 {X : Cx} (f0 : Nat) (g2 : Nat → Int32 → Hp → Option (Int32 × Hp)) (i2 : ∀ (v02 : Nat) (v12 : Int32) (h2 : Hp) (r : Int32) (hz : Hp), Rt X (some (.int r)) hz 0 0 → g2 v02 v12 h2 = some (r, hz) → G X 4 2 [(0, .ref v02), (1, .int v12)] [] h2 0 0) (o : Ok X cX7_mirrorWays RX7 4 rmX7_mirrorWays (some .boolean)) (f : Nat) (v0 : Nat) (v1 : Int32) (v2 : Int32) (h : Hp) (r : Int32) (hz : Hp) (q : Rt X (some (.int r)) hz 0 0) (e : bX7_mirrorWays_10 f0 g2 f v0 v1 v2 h = some (r, hz)) : G X 4 10 [(0, .ref v0), (1, .int v1), (2, .int v2)] [] h 0 0 := by
  induction f generalizing v0 v1 v2 h r hz with
  | zero => cases e
  | succ f1 ih =>
    unfold bX7_mirrorWays_10 at e
    refine g_iload_n 2 o dX7_mirrorWays_10 rfl rfl ?_
    refine g_bipush (v := 8) o dX7_mirrorWays_11 (by decide) ?_
    refine g_icmp_ge (x := v2) (y := 8) 69 o dX7_mirrorWays_13 (by decide) (fun u => ?_) (fun u => ?_)
    · rw [if_pos u] at e
      refine g_iinc (k := 1) (v := (v1 + 1)) [(1, .int (v1 + 1)), (0, .ref v0), (2, .int v2)] o dX7_mirrorWays_69 rfl rfl (by decide) rfl ?_
      refine g_goto 2 o dX7_mirrorWays_72 (by decide) ?_
      refine g_sb [1, 0] rfl ?_
      exact i2 v0 (v1 + 1) h r hz q e
    · rw [if_neg u] at e
      refine g_aload_n 0 o dX7_mirrorWays_16 rfl rfl ?_
      obtain ⟨x17, q17, e⟩ := ob e
      refine g_getN 1 o cf7 (by decide) mw_203 dX7_mirrorWays_17 q17 ?_
      obtain ⟨x20, q20, e⟩ := ob e
      refine g_getN 3 o cf6 (by decide) mw_153 dX7_mirrorWays_20 q20 ?_
      refine g_iload_n 1 o dX7_mirrorWays_23 rfl rfl ?_
      refine g_bipush (v := 8) o dX7_mirrorWays_24 (by decide) ?_
      refine g_imul (x := v1) (y := 8) o dX7_mirrorWays_26 ?_
      refine g_iload_n 2 o dX7_mirrorWays_27 rfl rfl ?_
      refine g_iadd (x := (v1 * 8)) (y := v2) o dX7_mirrorWays_28 ?_
      obtain ⟨x29, q29, e⟩ := ob e
      refine g_iald o dX7_mirrorWays_29 q29 ?_
      refine g_aload_n 0 o dX7_mirrorWays_30 rfl rfl ?_
      obtain ⟨x31, q31, e⟩ := ob e
      refine g_getN 1 o cf7 (by decide) mw_203 dX7_mirrorWays_31 q31 ?_
      obtain ⟨x34, q34, e⟩ := ob e
      refine g_getN 3 o cf6 (by decide) mw_153 dX7_mirrorWays_34 q34 ?_
      refine g_iload_n 2 o dX7_mirrorWays_37 rfl rfl ?_
      refine g_bipush (v := 8) o dX7_mirrorWays_38 (by decide) ?_
      refine g_imul (x := v2) (y := 8) o dX7_mirrorWays_40 ?_
      refine g_iload_n 1 o dX7_mirrorWays_41 rfl rfl ?_
      refine g_iadd (x := (v2 * 8)) (y := v1) o dX7_mirrorWays_42 ?_
      obtain ⟨x43, q43, e⟩ := ob e
      refine g_iald o dX7_mirrorWays_43 q43 ?_
      refine g_mmax (x := x29) (y := x43) o mw_533 mw_450 mw_18 mw_451 ⟨by decide, Nat.le_of_ble_eq_true rfl⟩ ⟨by decide, by decide⟩ dX7_mirrorWays_44 ?_
      refine g_istore_n [(3, .int (if x29 < x43 then x43 else x29)), (0, .ref v0), (1, .int v1), (2, .int v2)] o dX7_mirrorWays_47 rfl (by decide) rfl ?_
      refine g_aload_n 1 o dX7_mirrorWays_48 rfl rfl ?_
      obtain ⟨x49, q49, e⟩ := ob e
      refine g_getN 1 o cf7 (by decide) mw_203 dX7_mirrorWays_49 q49 ?_
      obtain ⟨x52, q52, e⟩ := ob e
      refine g_getN 3 o cf6 (by decide) mw_153 dX7_mirrorWays_52 q52 ?_
      refine g_iload_n 2 o dX7_mirrorWays_55 rfl rfl ?_
      refine g_bipush (v := 8) o dX7_mirrorWays_56 (by decide) ?_
      refine g_imul (x := v1) (y := 8) o dX7_mirrorWays_58 ?_
      refine g_iload_n 3 o dX7_mirrorWays_59 rfl rfl ?_
      refine g_iadd (x := (v1 * 8)) (y := v2) o dX7_mirrorWays_60 ?_
      refine g_iload_n 0 o dX7_mirrorWays_61 rfl rfl ?_
      obtain ⟨h62, q62, e⟩ := ob e
      refine g_iast o dX7_mirrorWays_62 q62 ?_
      refine g_iinc (k := 3) (v := (v2 + 1)) [(2, .int (v2 + 1)), (3, .int (if x29 < x43 then x43 else x29)), (0, .ref v0), (1, .int v1)] o dX7_mirrorWays_63 rfl rfl (by decide) rfl ?_
      refine g_goto 10 o dX7_mirrorWays_66 (by decide) ?_
      refine g_sb [2, 3, 0] rfl ?_
      exact ih v0 v1 (v2 + 1) h62 r hz q e
set_option maxRecDepth 100000 in
set_option maxHeartbeats 4000000 in
theorem kX7_mirrorWays_2 {X : Cx} (f0 : Nat) (o : Ok X cX7_mirrorWays RX7 4 rmX7_mirrorWays (some .boolean)) (f : Nat) (v0 : Nat) (v1 : Int32) (h : Hp) (r : Int32) (hz : Hp) (q : Rt X (some (.int r)) hz 0 0) (e : bX7_mirrorWays_2 f0 f v0 v1 h = some (r, hz)) : G X 4 2 [(0, .ref v0), (1, .int v1)] [] h 0 0 := by
  induction f generalizing v0 v1 h r hz with
  | zero => cases e
  | succ f1 ih =>
    unfold bX7_mirrorWays_2 at e
    refine g_iload_n 1 o dX7_mirrorWays_2 rfl rfl ?_
    refine g_bipush (v := 8) o dX7_mirrorWays_3 (by decide) ?_
    refine g_icmp_ge (x := v1) (y := 8) 75 o dX7_mirrorWays_5 (by decide) (fun u => ?_) (fun u => ?_)
    · rw [if_pos u] at e
      refine g_iconst (v := 1) o dX7_mirrorWays_75 (by decide) ?_
      exact g_zret o dX7_mirrorWays_76 (zr_s e).1 (rt_v q (zr_s e).2)
    · rw [if_neg u] at e
      refine g_iconst (v := 0) o dX7_mirrorWays_8 (by decide) ?_
      refine g_istore_n [(2, .int 0), (0, .ref v0), (1, .int v1)] o dX7_mirrorWays_9 rfl (by decide) rfl ?_
      refine g_sb [1, 2, 0] rfl ?_
      exact kX7_mirrorWays_10 f0 (bX7_mirrorWays_2 f0 f1) ih o f0 v0 v1 0 h r hz q e
theorem yo_X7_mirrorWays : yok yX7_mirrorWays 0 := ⟨by decide, by decide, by decide +kernel⟩
set_option maxRecDepth 100000 in
set_option maxHeartbeats 4000000 in
theorem mX7_mirrorWays {l : Launch} {D : va_G} {cy : Nat → ClassId} {f0 : Nat} {a : Nat} {h : Hp} {r : Int32} {hz : Hp} (e : fX7_mirrorWays f0 a h = some (r, hz)) : MC l D cy yX7_mirrorWays cX7_mirrorWays 4 (some .boolean) rmX7_mirrorWays [.ref a] h (some (.int r)) hz := by
  refine mc_of2 (by decide) (Nat.le_of_ble_eq_true rfl) (fun X hl hD hy hin o q => ?_)
  subst hl; subst hD; subst hy
  show G X 4 0 [(0, .ref a)] [] h 0 0
  unfold fX7_mirrorWays at e
  refine g_iconst (v := 0) o dX7_mirrorWays_0 (by decide) ?_
  refine g_istore_n [(1, .int 0), (0, .ref a)] o dX7_mirrorWays_1 rfl (by decide) rfl ?_
  refine g_sb [1, 0] rfl ?_
  exact kX7_mirrorWays_2 f0 o f0 a 0 h r hz q e
set_option maxRecDepth 100000 in
set_option maxHeartbeats 4000000 in
theorem kX6_rainsAt_13 {X : Cx} (f0 : Nat) (o : Ok X cX6_rainsAt RX6 5 rmX6_rainsAt (some .boolean)) (f : Nat) (v0 : Nat) (v3 : Int32) (v4 : Int32) (h : Hp) (r : Int32) (hz : Hp) (q : Rt X (some (.int r)) hz 0 0) (e : bX6_rainsAt_13 f0 f v0 v3 v4 h = some (r, hz)) : G X 5 13 [(0, .ref v0), (3, .int v3), (4, .int v4)] [] h 0 0 := by
  induction f generalizing v0 v3 v4 h r hz with
  | zero => cases e
  | succ f1 ih =>
    unfold bX6_rainsAt_13 at e
    refine g_iload 2 o dX6_rainsAt_13 rfl ?_
    refine g_aload_n 0 o dX6_rainsAt_15 rfl rfl ?_
    obtain ⟨x16, q16, e⟩ := ob e
    refine g_getN 1 o cf6 (by decide) mw_142 dX6_rainsAt_16 q16 ?_
    refine g_bipush (v := 6) o dX6_rainsAt_19 (by decide) ?_
    obtain ⟨x21, q21, e⟩ := ob e
    refine g_iald o dX6_rainsAt_21 q21 ?_
    refine g_icmp_ge (x := v4) (y := x21) 44 o dX6_rainsAt_22 (by decide) (fun u => ?_) (fun u => ?_)
    · rw [if_pos u] at e
      refine g_iconst (v := 0) o dX6_rainsAt_44 (by decide) ?_
      exact g_zret o dX6_rainsAt_45 (zr_s e).1 (rt_v q (zr_s e).2)
    · rw [if_neg u] at e
      refine g_aload_n 0 o dX6_rainsAt_25 rfl rfl ?_
      obtain ⟨x26, q26, e⟩ := ob e
      refine g_getN 9 o cf6 (by decide) mw_171 dX6_rainsAt_26 q26 ?_
      refine g_iload 2 o dX6_rainsAt_29 rfl ?_
      obtain ⟨x31, q31, e⟩ := ob e
      refine g_iald o dX6_rainsAt_31 q31 ?_
      refine g_iload_n 1 o dX6_rainsAt_32 rfl rfl ?_
      refine g_icmp_ne (x := x31) (y := v3) 38 o dX6_rainsAt_33 (by decide) (fun u => ?_) (fun u => ?_)
      · rw [if_neg u] at e
        refine g_iinc (k := 2) (v := (v4 + 1)) [(4, .int (v4 + 1)), (0, .ref v0), (3, .int v3)] o dX6_rainsAt_38 rfl rfl (by decide) rfl ?_
        refine g_goto 13 o dX6_rainsAt_41 (by decide) ?_
        refine g_sb [1, 2, 0] rfl ?_
        exact ih v0 v3 (v4 + 1) h r hz q e
      · rw [if_pos u] at e
        refine g_iconst (v := 1) o dX6_rainsAt_36 (by decide) ?_
        exact g_zret o dX6_rainsAt_37 (zr_s e).1 (rt_v q (zr_s e).2)
theorem yo_X6_rainsAt : yok yX6_rainsAt 2 := ⟨by decide, by decide, by decide +kernel⟩
set_option maxRecDepth 100000 in
set_option maxHeartbeats 4000000 in
theorem mX6_rainsAt {l : Launch} {D : va_G} {cy : Nat → ClassId} {f0 : Nat} {a : Nat} {p0 : Int32} {p1 : Int32} {h : Hp} {r : Int32} {hz : Hp} (e : fX6_rainsAt f0 a p0 p1 h = some (r, hz)) : MC l D cy yX6_rainsAt cX6_rainsAt 5 (some .boolean) rmX6_rainsAt [.ref a, .int p0, .int p1] h (some (.int r)) hz := by
  refine mc_of2 (by decide) (Nat.le_of_ble_eq_true rfl) (fun X hl hD hy hin o q => ?_)
  subst hl; subst hD; subst hy
  show G X 5 0 [(0, .ref a), (1, .int p0), (2, .int p1)] [] h 0 0
  unfold fX6_rainsAt at e
  refine g_iload_n 1 o dX6_rainsAt_0 rfl rfl ?_
  refine g_bipush (v := 100) o dX6_rainsAt_1 (by decide) ?_
  refine g_imul (x := p0) (y := 100) o dX6_rainsAt_3 ?_
  refine g_iload_n 2 o dX6_rainsAt_4 rfl rfl ?_
  refine g_bipush (v := 100) o dX6_rainsAt_5 (by decide) ?_
  obtain ⟨_, z7, e⟩ := ob e
  refine g_irem (x := p1) (y := 100) o dX6_rainsAt_7 (nz_s z7) ?_
  refine g_iadd (x := (p0 * 100)) (y := (p1 - p1 / 100 * 100)) o dX6_rainsAt_8 ?_
  refine g_istore_n [(3, .int ((p0 * 100) + (p1 - p1 / 100 * 100))), (0, .ref a), (1, .int p0), (2, .int p1)] o dX6_rainsAt_9 rfl (by decide) rfl ?_
  refine g_iconst (v := 0) o dX6_rainsAt_10 (by decide) ?_
  refine g_istore [(4, .int 0), (3, .int ((p0 * 100) + (p1 - p1 / 100 * 100))), (0, .ref a), (1, .int p0), (2, .int p1)] o dX6_rainsAt_11 (by decide) rfl ?_
  refine g_sb [2, 1, 0] rfl ?_
  exact kX6_rainsAt_13 f0 o f0 a ((p0 * 100) + (p1 - p1 / 100 * 100)) 0 h r hz q e
theorem yo_X7_readRain : yok yX7_readRain 0 := ⟨by decide, by decide, by decide +kernel⟩
set_option maxRecDepth 100000 in
set_option maxHeartbeats 4000000 in
theorem mX7_readRain {l : Launch} {D : va_G} {cy : Nat → ClassId} {f0 : Nat} {a : Nat} {h : Hp} {r : Int32} {hz : Hp} (e : fX7_readRain f0 a h = some (r, hz)) : MC l D cy yX7_readRain cX7_readRain 3 (some .boolean) rmX7_readRain [.ref a] h (some (.int r)) hz := by
  refine mc_of2 (by decide) (Nat.le_of_ble_eq_true rfl) (fun X hl hD hy hin o q => ?_)
  subst hl; subst hD; subst hy
  show G X 3 0 [(0, .ref a)] [] h 0 0
  unfold fX7_readRain at e
  refine g_aload_n 0 o dX7_readRain_0 rfl rfl ?_
  obtain ⟨x1, q1, e⟩ := ob e
  refine g_getN 0 o cf7 (by decide) mw_202 dX7_readRain_1 q1 ?_
  refine g_aload_n 0 o dX7_readRain_4 rfl rfl ?_
  obtain ⟨x5, q5, e⟩ := ob e
  refine g_getN 1 o cf7 (by decide) mw_203 dX7_readRain_5 q5 ?_
  obtain ⟨x8, q8, e⟩ := ob e
  refine g_getN 0 o cf6 (by decide) mw_141 dX7_readRain_8 q8 ?_
  refine g_iconst (v := 0) o dX7_readRain_11 (by decide) ?_
  obtain ⟨_, k12, e⟩ := ob e
  obtain ⟨x12, h12, q12, e⟩ := ob2_s e
  refine g_callVv [.ref x8, .int 0] o (mX4_look q12) cf4 (ckO_s k12) mw_513 mw_514 mw_515 mw_2 mw_516 rfl yo_X4_look rfl rfl (Nat.le_of_ble_eq_true rfl) ⟨by decide, by decide⟩ ⟨rfl, rfl⟩ dX7_readRain_12 ⟨by decide, by decide⟩ ?_
  refine g_istore_n [(1, .int x12), (0, .ref a)] o dX7_readRain_15 rfl (by decide) rfl ?_
  refine g_iload_n 0 o dX7_readRain_16 rfl rfl ?_
  refine g_iconst (v := -1) o dX7_readRain_17 (by decide) ?_
  refine g_icmp_ne (x := x12) (y := (-1)) 23 o dX7_readRain_18 (by decide) (fun u => ?_) (fun u => ?_)
  · rw [if_neg u] at e
    refine g_aload_n 1 o dX7_readRain_23 rfl rfl ?_
    obtain ⟨x24, q24, e⟩ := ob e
    refine g_getN 0 o cf7 (by decide) mw_202 dX7_readRain_24 q24 ?_
    obtain ⟨_, k27, e⟩ := ob e
    obtain ⟨h27, q27, e⟩ := ob e
    refine g_callV0 [] o (mX4_step q27) cf4 (ckO_s k27) mw_506 mw_428 mw_429 mw_2 mw_430 rfl yo_X4_step rfl rfl (Nat.le_of_ble_eq_true rfl) ⟨by decide, by decide⟩ ⟨rfl, rfl⟩ dX7_readRain_27 ⟨by decide, by decide⟩ ?_
    refine g_aload_n 1 o dX7_readRain_30 rfl rfl ?_
    obtain ⟨x31, q31, e⟩ := ob e
    refine g_getN 0 o cf7 (by decide) mw_202 dX7_readRain_31 q31 ?_
    refine g_iconst (v := 0) o dX7_readRain_34 (by decide) ?_
    refine g_bipush (v := 99) o dX7_readRain_35 (by decide) ?_
    obtain ⟨_, k37, e⟩ := ob e
    obtain ⟨x37, h37, q37, e⟩ := ob2_s e
    refine g_callVv [.int 0, .int 99] o (mX4_lookNumber q37) cf4 (ckO_s k37) mw_526 mw_527 mw_528 mw_2 mw_529 rfl yo_X4_lookNumber rfl rfl (Nat.le_of_ble_eq_true rfl) ⟨by decide, by decide⟩ ⟨rfl, rfl⟩ dX7_readRain_37 ⟨by decide, by decide⟩ ?_
    refine g_istore_n [(2, .int x37), (1, .int x12), (0, .ref a)] o dX7_readRain_40 rfl (by decide) rfl ?_
    refine g_iload_n 0 o dX7_readRain_41 rfl rfl ?_
    refine g_iconst (v := -1) o dX7_readRain_42 (by decide) ?_
    refine g_icmp_ne (x := x37) (y := (-1)) 48 o dX7_readRain_43 (by decide) (fun u => ?_) (fun u => ?_)
    · rw [if_neg u] at e
      refine g_aload_n 2 o dX7_readRain_48 rfl rfl ?_
      obtain ⟨x49, q49, e⟩ := ob e
      refine g_getN 1 o cf7 (by decide) mw_203 dX7_readRain_49 q49 ?_
      refine g_iload_n 1 o dX7_readRain_52 rfl rfl ?_
      refine g_iload_n 0 o dX7_readRain_53 rfl rfl ?_
      obtain ⟨_, k54, e⟩ := ob e
      obtain ⟨x54, h54, q54, e⟩ := ob2_s e
      refine g_callVv [.int x12, .int x37] o (mX6_rainsAt q54) cf6 (ckO_s k54) mw_537 mw_538 mw_539 mw_7 mw_540 rfl yo_X6_rainsAt rfl rfl (Nat.le_of_ble_eq_true rfl) ⟨by decide, by decide⟩ ⟨rfl, rfl⟩ dX7_readRain_54 ⟨by decide, by decide⟩ ?_
      refine g_if_eq (x := x54) 69 o dX7_readRain_57 (by decide) (fun u => ?_) (fun u => ?_)
      · rw [if_pos u] at e
        refine g_aload_n 2 o dX7_readRain_69 rfl rfl ?_
        obtain ⟨x70, q70, e⟩ := ob e
        refine g_getN 1 o cf7 (by decide) mw_203 dX7_readRain_70 q70 ?_
        obtain ⟨x73, q73, e⟩ := ob e
        refine g_getN 9 o cf6 (by decide) mw_172 dX7_readRain_73 q73 ?_
        refine g_aload_n 2 o dX7_readRain_76 rfl rfl ?_
        obtain ⟨x77, q77, e⟩ := ob e
        refine g_getN 1 o cf7 (by decide) mw_203 dX7_readRain_77 q77 ?_
        obtain ⟨x80, q80, e⟩ := ob e
        refine g_getN 1 o cf6 (by decide) mw_145 dX7_readRain_80 q80 ?_
        refine g_bipush (v := 6) o dX7_readRain_83 (by decide) ?_
        obtain ⟨x85, q85, e⟩ := ob e
        refine g_iald o dX7_readRain_85 q85 ?_
        refine g_iload_n 1 o dX7_readRain_86 rfl rfl ?_
        refine g_bipush (v := 100) o dX7_readRain_87 (by decide) ?_
        refine g_imul (x := x12) (y := 100) o dX7_readRain_89 ?_
        refine g_iload_n 0 o dX7_readRain_90 rfl rfl ?_
        refine g_iadd (x := (x12 * 100)) (y := x37) o dX7_readRain_91 ?_
        obtain ⟨h92, q92, e⟩ := ob e
        refine g_iast o dX7_readRain_92 q92 ?_
        refine g_aload_n 2 o dX7_readRain_93 rfl rfl ?_
        obtain ⟨x94, q94, e⟩ := ob e
        refine g_getN 0 o cf7 (by decide) mw_202 dX7_readRain_94 q94 ?_
        obtain ⟨_, k97, e⟩ := ob e
        obtain ⟨h97, q97, e⟩ := ob e
        refine g_callV0 [] o (mX4_step q97) cf4 (ckO_s k97) mw_506 mw_428 mw_429 mw_2 mw_430 rfl yo_X4_step rfl rfl (Nat.le_of_ble_eq_true rfl) ⟨by decide, by decide⟩ ⟨rfl, rfl⟩ dX7_readRain_97 ⟨by decide, by decide⟩ ?_
        refine g_iconst (v := 1) o dX7_readRain_100 (by decide) ?_
        exact g_zret o dX7_readRain_101 (zr_s e).1 (rt_v q (zr_s e).2)
      · rw [if_neg u] at e
        refine g_aload_n 2 o dX7_readRain_60 rfl rfl ?_
        obtain ⟨x61, q61, e⟩ := ob e
        refine g_getN 0 o cf7 (by decide) mw_202 dX7_readRain_61 q61 ?_
        refine g_iconst (v := 3) o dX7_readRain_64 (by decide) ?_
        obtain ⟨_, k65, e⟩ := ob e
        obtain ⟨x65, h65, q65, e⟩ := ob2_s e
        refine g_callVv [.int 3] o (mX4_refuse q65) cf4 (ckO_s k65) mw_502 mw_503 mw_504 mw_2 mw_505 rfl yo_X4_refuse rfl rfl (Nat.le_of_ble_eq_true rfl) ⟨by decide, by decide⟩ ⟨rfl, rfl⟩ dX7_readRain_65 ⟨by decide, by decide⟩ ?_
        exact g_zret o dX7_readRain_68 (zr_s e).1 (rt_v q (zr_s e).2)
    · rw [if_pos u] at e
      refine g_iconst (v := 0) o dX7_readRain_46 (by decide) ?_
      exact g_zret o dX7_readRain_47 (zr_s e).1 (rt_v q (zr_s e).2)
  · rw [if_pos u] at e
    refine g_iconst (v := 0) o dX7_readRain_21 (by decide) ?_
    exact g_zret o dX7_readRain_22 (zr_s e).1 (rt_v q (zr_s e).2)
theorem yo_X7_readParrot : yok yX7_readParrot 0 := ⟨by decide, by decide, by decide +kernel⟩
set_option maxRecDepth 100000 in
set_option maxHeartbeats 4000000 in
theorem mX7_readParrot {l : Launch} {D : va_G} {cy : Nat → ClassId} {f0 : Nat} {a : Nat} {h : Hp} {r : Int32} {hz : Hp} (e : fX7_readParrot f0 a h = some (r, hz)) : MC l D cy yX7_readParrot cX7_readParrot 2 (some .boolean) rmX7_readParrot [.ref a] h (some (.int r)) hz := by
  refine mc_of2 (by decide) (Nat.le_of_ble_eq_true rfl) (fun X hl hD hy hin o q => ?_)
  subst hl; subst hD; subst hy
  show G X 2 0 [(0, .ref a)] [] h 0 0
  unfold fX7_readParrot at e
  refine g_aload_n 0 o dX7_readParrot_0 rfl rfl ?_
  obtain ⟨x1, q1, e⟩ := ob e
  refine g_getN 0 o cf7 (by decide) mw_202 dX7_readParrot_1 q1 ?_
  refine g_iconst (v := 0) o dX7_readParrot_4 (by decide) ?_
  refine g_bipush (v := 12) o dX7_readParrot_5 (by decide) ?_
  obtain ⟨_, k7, e⟩ := ob e
  obtain ⟨x7, h7, q7, e⟩ := ob2_s e
  refine g_callVv [.int 0, .int 12] o (mX4_lookNumber q7) cf4 (ckO_s k7) mw_526 mw_527 mw_528 mw_2 mw_529 rfl yo_X4_lookNumber rfl rfl (Nat.le_of_ble_eq_true rfl) ⟨by decide, by decide⟩ ⟨rfl, rfl⟩ dX7_readParrot_7 ⟨by decide, by decide⟩ ?_
  refine g_istore_n [(1, .int x7), (0, .ref a)] o dX7_readParrot_10 rfl (by decide) rfl ?_
  refine g_iload_n 0 o dX7_readParrot_11 rfl rfl ?_
  refine g_iconst (v := -1) o dX7_readParrot_12 (by decide) ?_
  refine g_icmp_ne (x := x7) (y := (-1)) 18 o dX7_readParrot_13 (by decide) (fun u => ?_) (fun u => ?_)
  · rw [if_neg u] at e
    refine g_aload_n 1 o dX7_readParrot_18 rfl rfl ?_
    obtain ⟨x19, q19, e⟩ := ob e
    refine g_getN 1 o cf7 (by decide) mw_203 dX7_readParrot_19 q19 ?_
    refine g_iload_n 0 o dX7_readParrot_22 rfl rfl ?_
    obtain ⟨h23, q23, e⟩ := ob e
    refine g_put (ty1 := .int) 2 o cf6 (by decide) mw_149 rfl (by decide +kernel) rfl rfl dX7_readParrot_23 q23 ?_
    refine g_aload_n 1 o dX7_readParrot_26 rfl rfl ?_
    refine g_iconst (v := 1) o dX7_readParrot_27 (by decide) ?_
    obtain ⟨h28, q28, e⟩ := ob e
    refine g_put (ty1 := .boolean) 2 o cf7 (by decide) mw_204 rfl (by decide +kernel) (nar_z (pfZ_s q28).1).1 (nar_z (pfZ_s q28).1).2 dX7_readParrot_28 (pfZ_s q28).2 ?_
    refine g_aload_n 1 o dX7_readParrot_31 rfl rfl ?_
    obtain ⟨x32, q32, e⟩ := ob e
    refine g_getN 0 o cf7 (by decide) mw_202 dX7_readParrot_32 q32 ?_
    obtain ⟨_, k35, e⟩ := ob e
    obtain ⟨h35, q35, e⟩ := ob e
    refine g_callV0 [] o (mX4_step q35) cf4 (ckO_s k35) mw_506 mw_428 mw_429 mw_2 mw_430 rfl yo_X4_step rfl rfl (Nat.le_of_ble_eq_true rfl) ⟨by decide, by decide⟩ ⟨rfl, rfl⟩ dX7_readParrot_35 ⟨by decide, by decide⟩ ?_
    refine g_iconst (v := 1) o dX7_readParrot_38 (by decide) ?_
    exact g_zret o dX7_readParrot_39 (zr_s e).1 (rt_v q (zr_s e).2)
  · rw [if_pos u] at e
    refine g_iconst (v := 0) o dX7_readParrot_16 (by decide) ?_
    exact g_zret o dX7_readParrot_17 (zr_s e).1 (rt_v q (zr_s e).2)
set_option maxRecDepth 100000 in
set_option maxHeartbeats 4000000 in
theorem kX3_isTold_2 {X : Cx} (f0 : Nat) (o : Ok X cX3_isTold RX3 4 rmX3_isTold (some .boolean)) (f : Nat) (v0 : Nat) (v1 : Int64) (v3 : Int32) (h : Hp) (r : Int32) (hz : Hp) (q : Rt X (some (.int r)) hz 0 0) (e : bX3_isTold_2 f0 f v0 v1 v3 h = some (r, hz)) : G X 4 2 [(0, .ref v0), (1, .long v1), (3, .int v3)] [] h 0 0 := by
  induction f generalizing v0 v1 v3 h r hz with
  | zero => cases e
  | succ f1 ih =>
    unfold bX3_isTold_2 at e
    refine g_iload_n 2 o dX3_isTold_2 rfl rfl ?_
    refine g_aload_n 0 o dX3_isTold_3 rfl rfl ?_
    obtain ⟨x4, q4, e⟩ := ob e
    refine g_getI 3 o cf3 (by decide) mw_132 dX3_isTold_4 q4 ?_
    refine g_icmp_ge (x := v3) (y := x4) 29 o dX3_isTold_7 (by decide) (fun u => ?_) (fun u => ?_)
    · rw [if_pos u] at e
      refine g_iconst (v := 0) o dX3_isTold_29 (by decide) ?_
      exact g_zret o dX3_isTold_30 (zr_s e).1 (rt_v q (zr_s e).2)
    · rw [if_neg u] at e
      refine g_aload_n 0 o dX3_isTold_10 rfl rfl ?_
      obtain ⟨x11, q11, e⟩ := ob e
      refine g_getN 0 o cf3 (by decide) mw_129 dX3_isTold_11 q11 ?_
      refine g_iload_n 2 o dX3_isTold_14 rfl rfl ?_
      obtain ⟨x15, q15, e⟩ := ob e
      refine g_lald o dX3_isTold_15 q15 ?_
      refine g_lload_n 1 o dX3_isTold_16 rfl rfl ?_
      refine g_lcmp (x := x15) (y := v1) o dX3_isTold_17 ?_
      refine g_if_ne (x := (lg_cmp x15 v1)) 23 o dX3_isTold_18 (by decide) (fun u => ?_) (fun u => ?_)
      · rw [if_neg u] at e
        refine g_iinc (k := 2) (v := (v3 + 1)) [(3, .int (v3 + 1)), (0, .ref v0), (1, .long v1)] o dX3_isTold_23 rfl rfl (by decide) rfl ?_
        refine g_goto 2 o dX3_isTold_26 (by decide) ?_
        refine g_sb [1, 2, 0] rfl ?_
        exact ih v0 v1 (v3 + 1) h r hz q e
      · rw [if_pos u] at e
        refine g_iconst (v := 1) o dX3_isTold_21 (by decide) ?_
        exact g_zret o dX3_isTold_22 (zr_s e).1 (rt_v q (zr_s e).2)
theorem yo_X3_isTold : yok yX3_isTold 1 := ⟨by decide, by decide, by decide +kernel⟩
set_option maxRecDepth 100000 in
set_option maxHeartbeats 4000000 in
theorem mX3_isTold {l : Launch} {D : va_G} {cy : Nat → ClassId} {f0 : Nat} {a : Nat} {p0 : Int64} {h : Hp} {r : Int32} {hz : Hp} (e : fX3_isTold f0 a p0 h = some (r, hz)) : MC l D cy yX3_isTold cX3_isTold 4 (some .boolean) rmX3_isTold [.ref a, .long p0] h (some (.int r)) hz := by
  refine mc_of2 (by decide) (Nat.le_of_ble_eq_true rfl) (fun X hl hD hy hin o q => ?_)
  subst hl; subst hD; subst hy
  show G X 4 0 [(0, .ref a), (1, .long p0)] [] h 0 0
  unfold fX3_isTold at e
  refine g_iconst (v := 0) o dX3_isTold_0 (by decide) ?_
  refine g_istore_n [(3, .int 0), (0, .ref a), (1, .long p0)] o dX3_isTold_1 rfl (by decide) rfl ?_
  refine g_sb [1, 2, 0] rfl ?_
  exact kX3_isTold_2 f0 o f0 a p0 0 h r hz q e
theorem yo_X3_add : yok yX3_add 3 := ⟨by decide, by decide, by decide +kernel⟩
set_option maxRecDepth 100000 in
set_option maxHeartbeats 4000000 in
theorem mX3_add {l : Launch} {D : va_G} {cy : Nat → ClassId} {f0 : Nat} {a : Nat} {p0 : Int64} {p1 : Int32} {p2 : Int32} {h : Hp} {hz : Hp} (e : fX3_add f0 a p0 p1 p2 h = some hz) : MC l D cy yX3_add cX3_add 5 none rmX3_add [.ref a, .long p0, .int p1, .int p2] h none hz := by
  refine mc_of2 (by decide) (Nat.le_of_ble_eq_true rfl) (fun X hl hD hy hin o q => ?_)
  subst hl; subst hD; subst hy
  show G X 5 0 [(0, .ref a), (1, .long p0), (3, .int p1), (4, .int p2)] [] h 0 0
  unfold fX3_add at e
  refine g_aload_n 0 o dX3_add_0 rfl rfl ?_
  obtain ⟨x1, q1, e⟩ := ob e
  refine g_getI 3 o cf3 (by decide) mw_132 dX3_add_1 q1 ?_
  refine g_bipush (v := 30) o dX3_add_4 (by decide) ?_
  refine g_icmp_lt (x := x1) (y := 30) 10 o dX3_add_6 (by decide) (fun u => ?_) (fun u => ?_)
  · rw [if_pos u] at e
    refine g_aload_n 0 o dX3_add_10 rfl rfl ?_
    obtain ⟨x11, q11, e⟩ := ob e
    refine g_getN 0 o cf3 (by decide) mw_129 dX3_add_11 q11 ?_
    refine g_aload_n 0 o dX3_add_14 rfl rfl ?_
    obtain ⟨x15, q15, e⟩ := ob e
    refine g_getI 3 o cf3 (by decide) mw_132 dX3_add_15 q15 ?_
    refine g_lload_n 1 o dX3_add_18 rfl rfl ?_
    obtain ⟨h19, q19, e⟩ := ob e
    refine g_last o dX3_add_19 q19 ?_
    refine g_aload_n 0 o dX3_add_20 rfl rfl ?_
    obtain ⟨x21, q21, e⟩ := ob e
    refine g_getN 1 o cf3 (by decide) mw_130 dX3_add_21 q21 ?_
    refine g_aload_n 0 o dX3_add_24 rfl rfl ?_
    obtain ⟨x25, q25, e⟩ := ob e
    refine g_getI 3 o cf3 (by decide) mw_132 dX3_add_25 q25 ?_
    refine g_iload_n 2 o dX3_add_28 rfl rfl ?_
    obtain ⟨h29, q29, e⟩ := ob e
    refine g_iast o dX3_add_29 q29 ?_
    refine g_aload_n 0 o dX3_add_30 rfl rfl ?_
    obtain ⟨x31, q31, e⟩ := ob e
    refine g_getN 2 o cf3 (by decide) mw_131 dX3_add_31 q31 ?_
    refine g_aload_n 0 o dX3_add_34 rfl rfl ?_
    obtain ⟨x35, q35, e⟩ := ob e
    refine g_getI 3 o cf3 (by decide) mw_132 dX3_add_35 q35 ?_
    refine g_iload 3 o dX3_add_38 rfl ?_
    obtain ⟨h40, q40, e⟩ := ob e
    refine g_iast o dX3_add_40 q40 ?_
    refine g_aload_n 0 o dX3_add_41 rfl rfl ?_
    refine g_dup o dX3_add_42 rfl ?_
    obtain ⟨x43, q43, e⟩ := ob e
    refine g_getI 3 o cf3 (by decide) mw_132 dX3_add_43 q43 ?_
    refine g_iconst (v := 1) o dX3_add_46 (by decide) ?_
    refine g_iadd (x := x43) (y := 1) o dX3_add_47 ?_
    obtain ⟨h48, q48, e⟩ := ob e
    refine g_put (ty1 := .int) 3 o cf3 (by decide) mw_132 rfl (by decide +kernel) rfl rfl dX3_add_48 q48 ?_
    exact g_vret o dX3_add_51 (rt_0 q e)
  · rw [if_neg u] at e
    exact g_vret o dX3_add_9 (rt_0 q e)
theorem yo_X7_readName : yok yX7_readName 1 := ⟨by decide, by decide, by decide +kernel⟩
set_option maxRecDepth 100000 in
set_option maxHeartbeats 4000000 in
theorem mX7_readName {l : Launch} {D : va_G} {cy : Nat → ClassId} {f0 : Nat} {a : Nat} {p0 : Int32} {h : Hp} {r : Int32} {hz : Hp} (e : fX7_readName f0 a p0 h = some (r, hz)) : MC l D cy yX7_readName cX7_readName 2 (some .boolean) rmX7_readName [.ref a, .int p0] h (some (.int r)) hz := by
  refine mc_of2 (by decide) (Nat.le_of_ble_eq_true rfl) (fun X hl hD hy hin o q => ?_)
  subst hl; subst hD; subst hy
  show G X 2 0 [(0, .ref a), (1, .int p0)] [] h 0 0
  unfold fX7_readName at e
  refine g_aload_n 0 o dX7_readName_0 rfl rfl ?_
  obtain ⟨x1, q1, e⟩ := ob e
  refine g_getN 0 o cf7 (by decide) mw_202 dX7_readName_1 q1 ?_
  obtain ⟨_, k4, e⟩ := ob e
  obtain ⟨x4, h4, q4, e⟩ := ob2_s e
  refine g_callVv [] o (mX4_isName q4) cf4 (ckO_s k4) mw_547 mw_518 mw_519 mw_2 mw_520 rfl yo_X4_isName rfl rfl (Nat.le_of_ble_eq_true rfl) ⟨by decide, by decide⟩ ⟨rfl, rfl⟩ dX7_readName_4 ⟨by decide, by decide⟩ ?_
  refine g_if_ne (x := x4) 19 o dX7_readName_7 (by decide) (fun u => ?_) (fun u => ?_)
  · rw [if_neg u] at e
    refine g_aload_n 0 o dX7_readName_19 rfl rfl ?_
    obtain ⟨x20, q20, e⟩ := ob e
    refine g_getN 1 o cf7 (by decide) mw_203 dX7_readName_20 q20 ?_
    obtain ⟨x23, q23, e⟩ := ob e
    refine g_getN 0 o cf6 (by decide) mw_141 dX7_readName_23 q23 ?_
    refine g_aload_n 0 o dX7_readName_26 rfl rfl ?_
    obtain ⟨x27, q27, e⟩ := ob e
    refine g_getN 0 o cf7 (by decide) mw_202 dX7_readName_27 q27 ?_
    obtain ⟨x30, q30, e⟩ := ob e
    refine g_getJ 7 o cf4 (by decide) mw_95 dX7_readName_30 q30 ?_
    obtain ⟨_, k33, e⟩ := ob e
    obtain ⟨x33, h33, q33, e⟩ := ob2_s e
    refine g_callVv [.long x30] o (mX3_isTold q33) cf3 (ckO_s k33) mw_548 mw_549 mw_550 mw_8 mw_551 rfl yo_X3_isTold rfl rfl (Nat.le_of_ble_eq_true rfl) ⟨by decide, by decide⟩ ⟨rfl, rfl⟩ dX7_readName_33 ⟨by decide, by decide⟩ ?_
    refine g_if_eq (x := x33) 48 o dX7_readName_36 (by decide) (fun u => ?_) (fun u => ?_)
    · rw [if_pos u] at e
      refine g_aload_n 0 o dX7_readName_48 rfl rfl ?_
      obtain ⟨x49, q49, e⟩ := ob e
      refine g_getN 1 o cf7 (by decide) mw_203 dX7_readName_49 q49 ?_
      obtain ⟨x52, q52, e⟩ := ob e
      refine g_getN 0 o cf6 (by decide) mw_141 dX7_readName_52 q52 ?_
      refine g_aload_n 0 o dX7_readName_55 rfl rfl ?_
      obtain ⟨x56, q56, e⟩ := ob e
      refine g_getN 0 o cf7 (by decide) mw_202 dX7_readName_56 q56 ?_
      obtain ⟨x59, q59, e⟩ := ob e
      refine g_getJ 7 o cf4 (by decide) mw_95 dX7_readName_59 q59 ?_
      refine g_iload_n 1 o dX7_readName_62 rfl rfl ?_
      refine g_aload_n 0 o dX7_readName_63 rfl rfl ?_
      obtain ⟨x64, q64, e⟩ := ob e
      refine g_getN 1 o cf7 (by decide) mw_203 dX7_readName_64 q64 ?_
      obtain ⟨x67, q67, e⟩ := ob e
      refine g_getN 1 o cf6 (by decide) mw_145 dX7_readName_67 q67 ?_
      refine g_iload_n 1 o dX7_readName_70 rfl rfl ?_
      obtain ⟨x71, q71, e⟩ := ob e
      refine g_iald o dX7_readName_71 q71 ?_
      obtain ⟨_, k72, e⟩ := ob e
      obtain ⟨h72, q72, e⟩ := ob e
      refine g_callV0 [.long x59, .int p0, .int x71] o (mX3_add q72) cf3 (ckO_s k72) mw_552 mw_553 mw_554 mw_8 mw_555 rfl yo_X3_add rfl rfl (Nat.le_of_ble_eq_true rfl) ⟨by decide, by decide⟩ ⟨rfl, rfl⟩ dX7_readName_72 ⟨by decide, by decide⟩ ?_
      refine g_aload_n 0 o dX7_readName_75 rfl rfl ?_
      obtain ⟨x76, q76, e⟩ := ob e
      refine g_getN 0 o cf7 (by decide) mw_202 dX7_readName_76 q76 ?_
      obtain ⟨_, k79, e⟩ := ob e
      obtain ⟨h79, q79, e⟩ := ob e
      refine g_callV0 [] o (mX4_step q79) cf4 (ckO_s k79) mw_506 mw_428 mw_429 mw_2 mw_430 rfl yo_X4_step rfl rfl (Nat.le_of_ble_eq_true rfl) ⟨by decide, by decide⟩ ⟨rfl, rfl⟩ dX7_readName_79 ⟨by decide, by decide⟩ ?_
      refine g_iconst (v := 1) o dX7_readName_82 (by decide) ?_
      exact g_zret o dX7_readName_83 (zr_s e).1 (rt_v q (zr_s e).2)
    · rw [if_neg u] at e
      refine g_aload_n 0 o dX7_readName_39 rfl rfl ?_
      obtain ⟨x40, q40, e⟩ := ob e
      refine g_getN 0 o cf7 (by decide) mw_202 dX7_readName_40 q40 ?_
      refine g_iconst (v := 3) o dX7_readName_43 (by decide) ?_
      obtain ⟨_, k44, e⟩ := ob e
      obtain ⟨x44, h44, q44, e⟩ := ob2_s e
      refine g_callVv [.int 3] o (mX4_refuse q44) cf4 (ckO_s k44) mw_502 mw_503 mw_504 mw_2 mw_505 rfl yo_X4_refuse rfl rfl (Nat.le_of_ble_eq_true rfl) ⟨by decide, by decide⟩ ⟨rfl, rfl⟩ dX7_readName_44 ⟨by decide, by decide⟩ ?_
      exact g_zret o dX7_readName_47 (zr_s e).1 (rt_v q (zr_s e).2)
  · rw [if_pos u] at e
    refine g_aload_n 0 o dX7_readName_10 rfl rfl ?_
    obtain ⟨x11, q11, e⟩ := ob e
    refine g_getN 0 o cf7 (by decide) mw_202 dX7_readName_11 q11 ?_
    refine g_iconst (v := 1) o dX7_readName_14 (by decide) ?_
    obtain ⟨_, k15, e⟩ := ob e
    obtain ⟨x15, h15, q15, e⟩ := ob2_s e
    refine g_callVv [.int 1] o (mX4_refuse q15) cf4 (ckO_s k15) mw_502 mw_503 mw_504 mw_2 mw_505 rfl yo_X4_refuse rfl rfl (Nat.le_of_ble_eq_true rfl) ⟨by decide, by decide⟩ ⟨rfl, rfl⟩ dX7_readName_15 ⟨by decide, by decide⟩ ?_
    exact g_zret o dX7_readName_18 (zr_s e).1 (rt_v q (zr_s e).2)
set_option maxRecDepth 100000 in
set_option maxHeartbeats 4000000 in
theorem kX7_readSkills_12 {X : Cx} (f0 : Nat) (o : Ok X cX7_readSkills RX7 4 rmX7_readSkills (some .boolean)) (f : Nat) (v0 : Nat) (v1 : Int32) (v2 : Int32) (h : Hp) (r : Int32) (hz : Hp) (q : Rt X (some (.int r)) hz 0 0) (e : bX7_readSkills_12 f0 f v0 v1 v2 h = some (r, hz)) : G X 4 12 [(0, .ref v0), (1, .int v1), (2, .int v2)] [] h 0 0 := by
  induction f generalizing v0 v1 v2 h r hz with
  | zero => cases e
  | succ f1 ih =>
    unfold bX7_readSkills_12 at e
    refine g_iload_n 2 o dX7_readSkills_12 rfl rfl ?_
    refine g_gstM o dX7_readSkills_13 ?_
    refine g_iconst (v := 4) o dX7_readSkills_16 (by decide) ?_
    obtain ⟨x17, q17, e⟩ := ob e
    refine g_ialdM o dX7_readSkills_17 q17 ?_
    refine g_icmp_gt (x := v2) (y := x17) 111 o dX7_readSkills_18 (by decide) (fun u => ?_) (fun u => ?_)
    · rw [if_pos u] at e
      refine g_aload_n 0 o dX7_readSkills_111 rfl rfl ?_
      obtain ⟨x112, q112, e⟩ := ob e
      refine g_getN 0 o cf7 (by decide) mw_202 dX7_readSkills_112 q112 ?_
      refine g_iconst (v := 1) o dX7_readSkills_115 (by decide) ?_
      obtain ⟨_, k116, e⟩ := ob e
      obtain ⟨x116, h116, q116, e⟩ := ob2_s e
      refine g_callVv [.int 1] o (mX4_refuse q116) cf4 (ckO_s k116) mw_502 mw_503 mw_504 mw_2 mw_505 rfl yo_X4_refuse rfl rfl (Nat.le_of_ble_eq_true rfl) ⟨by decide, by decide⟩ ⟨rfl, rfl⟩ dX7_readSkills_116 ⟨by decide, by decide⟩ ?_
      exact g_zret o dX7_readSkills_119 (zr_s e).1 (rt_v q (zr_s e).2)
    · rw [if_neg u] at e
      refine g_aload_n 0 o dX7_readSkills_21 rfl rfl ?_
      obtain ⟨x22, q22, e⟩ := ob e
      refine g_getN 0 o cf7 (by decide) mw_202 dX7_readSkills_22 q22 ?_
      obtain ⟨x25, q25, e⟩ := ob e
      refine g_getI 5 o cf4 (by decide) mw_90 dX7_readSkills_25 q25 ?_
      refine g_bipush (v := 59) o dX7_readSkills_28 (by decide) ?_
      refine g_icmp_ne (x := x25) (y := 59) 35 o dX7_readSkills_30 (by decide) (fun u => ?_) (fun u => ?_)
      · rw [if_neg u] at e
        refine g_aload_n 0 o dX7_readSkills_35 rfl rfl ?_
        obtain ⟨x36, q36, e⟩ := ob e
        refine g_getN 0 o cf7 (by decide) mw_202 dX7_readSkills_36 q36 ?_
        refine g_aload_n 0 o dX7_readSkills_39 rfl rfl ?_
        obtain ⟨x40, q40, e⟩ := ob e
        refine g_getN 1 o cf7 (by decide) mw_203 dX7_readSkills_40 q40 ?_
        obtain ⟨x43, q43, e⟩ := ob e
        refine g_getN 0 o cf6 (by decide) mw_141 dX7_readSkills_43 q43 ?_
        refine g_iconst (v := 4) o dX7_readSkills_46 (by decide) ?_
        obtain ⟨_, k47, e⟩ := ob e
        obtain ⟨x47, h47, q47, e⟩ := ob2_s e
        refine g_callVv [.ref x43, .int 4] o (mX4_look q47) cf4 (ckO_s k47) mw_513 mw_514 mw_515 mw_2 mw_516 rfl yo_X4_look rfl rfl (Nat.le_of_ble_eq_true rfl) ⟨by decide, by decide⟩ ⟨rfl, rfl⟩ dX7_readSkills_47 ⟨by decide, by decide⟩ ?_
        refine g_istore_n [(3, .int x47), (0, .ref v0), (1, .int v1), (2, .int v2)] o dX7_readSkills_50 rfl (by decide) rfl ?_
        refine g_iload_n 0 o dX7_readSkills_51 rfl rfl ?_
        refine g_iconst (v := -1) o dX7_readSkills_52 (by decide) ?_
        refine g_icmp_ne (x := x47) (y := (-1)) 58 o dX7_readSkills_53 (by decide) (fun u => ?_) (fun u => ?_)
        · rw [if_neg u] at e
          refine g_aload_n 1 o dX7_readSkills_58 rfl rfl ?_
          obtain ⟨x59, q59, e⟩ := ob e
          refine g_getN 1 o cf7 (by decide) mw_203 dX7_readSkills_59 q59 ?_
          obtain ⟨x62, q62, e⟩ := ob e
          refine g_getN 8 o cf6 (by decide) mw_170 dX7_readSkills_62 q62 ?_
          refine g_iload_n 2 o dX7_readSkills_65 rfl rfl ?_
          obtain ⟨x66, q66, e⟩ := ob e
          refine g_iald o dX7_readSkills_66 q66 ?_
          refine g_iload_n 0 o dX7_readSkills_67 rfl rfl ?_
          refine g_ishr (x := x66) (y := x47) o dX7_readSkills_68 ?_
          refine g_iconst (v := 1) o dX7_readSkills_69 (by decide) ?_
          refine g_iand (x := (x66 >>> (x47 &&& 31))) (y := 1) o dX7_readSkills_70 ?_
          refine g_if_eq (x := ((x66 >>> (x47 &&& 31)) &&& 1)) 83 o dX7_readSkills_71 (by decide) (fun u => ?_) (fun u => ?_)
          · rw [if_pos u] at e
            refine g_aload_n 1 o dX7_readSkills_83 rfl rfl ?_
            obtain ⟨x84, q84, e⟩ := ob e
            refine g_getN 1 o cf7 (by decide) mw_203 dX7_readSkills_84 q84 ?_
            obtain ⟨x87, q87, e⟩ := ob e
            refine g_getN 8 o cf6 (by decide) mw_170 dX7_readSkills_87 q87 ?_
            refine g_iload_n 2 o dX7_readSkills_90 rfl rfl ?_
            refine g_dup2 o dX7_readSkills_91 rfl rfl ?_
            obtain ⟨x92, q92, e⟩ := ob e
            refine g_iald o dX7_readSkills_92 q92 ?_
            refine g_iconst (v := 1) o dX7_readSkills_93 (by decide) ?_
            refine g_iload_n 0 o dX7_readSkills_94 rfl rfl ?_
            refine g_ishl (x := (1 : Int32)) (y := x47) o dX7_readSkills_95 ?_
            refine g_ior (x := x92) (y := ((1 : Int32) <<< (x47 &&& 31))) o dX7_readSkills_96 ?_
            obtain ⟨h97, q97, e⟩ := ob e
            refine g_iast o dX7_readSkills_97 q97 ?_
            refine g_aload_n 1 o dX7_readSkills_98 rfl rfl ?_
            obtain ⟨x99, q99, e⟩ := ob e
            refine g_getN 0 o cf7 (by decide) mw_202 dX7_readSkills_99 q99 ?_
            obtain ⟨_, k102, e⟩ := ob e
            obtain ⟨h102, q102, e⟩ := ob e
            refine g_callV0 [] o (mX4_step q102) cf4 (ckO_s k102) mw_506 mw_428 mw_429 mw_2 mw_430 rfl yo_X4_step rfl rfl (Nat.le_of_ble_eq_true rfl) ⟨by decide, by decide⟩ ⟨rfl, rfl⟩ dX7_readSkills_102 ⟨by decide, by decide⟩ ?_
            refine g_iinc (k := 3) (v := (v2 + 1)) [(2, .int (v2 + 1)), (3, .int x47), (0, .ref v0), (1, .int v1)] o dX7_readSkills_105 rfl rfl (by decide) rfl ?_
            refine g_goto 12 o dX7_readSkills_108 (by decide) ?_
            refine g_sb [2, 3, 0] rfl ?_
            exact ih v0 v1 (v2 + 1) h102 r hz q e
          · rw [if_neg u] at e
            refine g_aload_n 1 o dX7_readSkills_74 rfl rfl ?_
            obtain ⟨x75, q75, e⟩ := ob e
            refine g_getN 0 o cf7 (by decide) mw_202 dX7_readSkills_75 q75 ?_
            refine g_iconst (v := 3) o dX7_readSkills_78 (by decide) ?_
            obtain ⟨_, k79, e⟩ := ob e
            obtain ⟨x79, h79, q79, e⟩ := ob2_s e
            refine g_callVv [.int 3] o (mX4_refuse q79) cf4 (ckO_s k79) mw_502 mw_503 mw_504 mw_2 mw_505 rfl yo_X4_refuse rfl rfl (Nat.le_of_ble_eq_true rfl) ⟨by decide, by decide⟩ ⟨rfl, rfl⟩ dX7_readSkills_79 ⟨by decide, by decide⟩ ?_
            exact g_zret o dX7_readSkills_82 (zr_s e).1 (rt_v q (zr_s e).2)
        · rw [if_pos u] at e
          refine g_iconst (v := 0) o dX7_readSkills_56 (by decide) ?_
          exact g_zret o dX7_readSkills_57 (zr_s e).1 (rt_v q (zr_s e).2)
      · rw [if_pos u] at e
        refine g_iconst (v := 1) o dX7_readSkills_33 (by decide) ?_
        exact g_zret o dX7_readSkills_34 (zr_s e).1 (rt_v q (zr_s e).2)
theorem yo_X7_readSkills : yok yX7_readSkills 0 := ⟨by decide, by decide, by decide +kernel⟩
set_option maxRecDepth 100000 in
set_option maxHeartbeats 4000000 in
theorem mX7_readSkills {l : Launch} {D : va_G} {cy : Nat → ClassId} {f0 : Nat} {a : Nat} {h : Hp} {r : Int32} {hz : Hp} (e : fX7_readSkills f0 a h = some (r, hz)) : MC l D cy yX7_readSkills cX7_readSkills 4 (some .boolean) rmX7_readSkills [.ref a] h (some (.int r)) hz := by
  refine mc_of2 (by decide) (Nat.le_of_ble_eq_true rfl) (fun X hl hD hy hin o q => ?_)
  subst hl; subst hD; subst hy
  show G X 4 0 [(0, .ref a)] [] h 0 0
  unfold fX7_readSkills at e
  refine g_aload_n 0 o dX7_readSkills_0 rfl rfl ?_
  obtain ⟨x1, q1, e⟩ := ob e
  refine g_getN 1 o cf7 (by decide) mw_203 dX7_readSkills_1 q1 ?_
  obtain ⟨x4, q4, e⟩ := ob e
  refine g_getN 1 o cf6 (by decide) mw_145 dX7_readSkills_4 q4 ?_
  refine g_iconst (v := 5) o dX7_readSkills_7 (by decide) ?_
  obtain ⟨x8, q8, e⟩ := ob e
  refine g_iald o dX7_readSkills_8 q8 ?_
  refine g_istore_n [(1, .int x8), (0, .ref a)] o dX7_readSkills_9 rfl (by decide) rfl ?_
  refine g_iconst (v := 0) o dX7_readSkills_10 (by decide) ?_
  refine g_istore_n [(2, .int 0), (1, .int x8), (0, .ref a)] o dX7_readSkills_11 rfl (by decide) rfl ?_
  refine g_sb [2, 1, 0] rfl ?_
  exact kX7_readSkills_12 f0 o f0 a x8 0 h r hz q e
theorem yo_X7_readRest : yok yX7_readRest 1 := ⟨by decide, by decide, by decide +kernel⟩
set_option maxRecDepth 100000 in
set_option maxHeartbeats 4000000 in
theorem mX7_readRest {l : Launch} {D : va_G} {cy : Nat → ClassId} {f0 : Nat} {a : Nat} {p0 : Int32} {h : Hp} {r : Int32} {hz : Hp} (e : fX7_readRest f0 a p0 h = some (r, hz)) : MC l D cy yX7_readRest cX7_readRest 2 (some .boolean) rmX7_readRest [.ref a, .int p0] h (some (.int r)) hz := by
  refine mc_of2 (by decide) (Nat.le_of_ble_eq_true rfl) (fun X hl hD hy hin o q => ?_)
  subst hl; subst hD; subst hy
  show G X 2 0 [(0, .ref a), (1, .int p0)] [] h 0 0
  unfold fX7_readRest at e
  refine g_iload_n 1 o dX7_readRest_0 rfl rfl ?_
  by_cases u0 : p0 = 1
  · rw [if_pos u0] at e
    refine g_tabAt (x := p0) 1 56 o dX7_readRest_1 u0 (by decide) (by decide) (by decide) (by decide) ?_
    refine g_aload_n 0 o dX7_readRest_56 rfl rfl ?_
    refine g_iconst (v := 0) o dX7_readRest_57 (by decide) ?_
    refine g_iconst (v := 0) o dX7_readRest_58 (by decide) ?_
    refine g_aload_n 0 o dX7_readRest_59 rfl rfl ?_
    obtain ⟨x60, q60, e⟩ := ob e
    refine g_getN 1 o cf7 (by decide) mw_203 dX7_readRest_60 q60 ?_
    obtain ⟨x63, q63, e⟩ := ob e
    refine g_getN 3 o cf6 (by decide) mw_153 dX7_readRest_63 q63 ?_
    refine g_bipush (v := 20) o dX7_readRest_66 (by decide) ?_
    obtain ⟨_, k68, e⟩ := ob e
    obtain ⟨x68, h68, q68, e⟩ := ob2_s e
    refine g_callVv [.int 0, .int 0, .ref x63, .int 20] o (mX7_readPair q68) cf7 (ckO_s k68) mw_510 mw_511 mw_1690 mw_9 mw_512 rfl yo_X7_readPair rfl rfl (Nat.le_of_ble_eq_true rfl) ⟨by decide, by decide⟩ ⟨rfl, rfl⟩ dX7_readRest_68 ⟨by decide, by decide⟩ ?_
    refine g_if_eq (x := x68) 85 o dX7_readRest_71 (by decide) (fun u => ?_) (fun u => ?_)
    · rw [if_pos u] at e
      refine g_iconst (v := 0) o dX7_readRest_85 (by decide) ?_
      exact g_zret o dX7_readRest_86 (zr_s e).1 (rt_v q (zr_s e).2)
    · rw [if_neg u] at e
      refine g_aload_n 0 o dX7_readRest_74 rfl rfl ?_
      obtain ⟨_, k75, e⟩ := ob e
      obtain ⟨x75, h75, q75, e⟩ := ob2_s e
      refine g_callVv [] o (mX7_mirrorWays q75) cf7 (ckO_s k75) mw_530 mw_531 mw_1691 mw_9 mw_532 rfl yo_X7_mirrorWays rfl rfl (Nat.le_of_ble_eq_true rfl) ⟨by decide, by decide⟩ ⟨rfl, rfl⟩ dX7_readRest_75 ⟨by decide, by decide⟩ ?_
      refine g_if_eq (x := x75) 85 o dX7_readRest_78 (by decide) (fun u => ?_) (fun u => ?_)
      · rw [if_pos u] at e
        refine g_iconst (v := 0) o dX7_readRest_85 (by decide) ?_
        exact g_zret o dX7_readRest_86 (zr_s e).1 (rt_v q (zr_s e).2)
      · rw [if_neg u] at e
        refine g_iconst (v := 1) o dX7_readRest_81 (by decide) ?_
        refine g_goto 86 o dX7_readRest_82 (by decide) ?_
        exact g_zret o dX7_readRest_86 (zr_s e).1 (rt_v q (zr_s e).2)
  rw [if_neg u0] at e
  by_cases u1 : p0 = 2
  · rw [if_pos u1] at e
    refine g_tabAt (x := p0) 2 87 o dX7_readRest_1 u1 (by decide) (by decide) (by decide) (by decide) ?_
    refine g_aload_n 0 o dX7_readRest_87 rfl rfl ?_
    refine g_iconst (v := 0) o dX7_readRest_88 (by decide) ?_
    refine g_iconst (v := 0) o dX7_readRest_89 (by decide) ?_
    refine g_aload_n 0 o dX7_readRest_90 rfl rfl ?_
    obtain ⟨x91, q91, e⟩ := ob e
    refine g_getN 1 o cf7 (by decide) mw_203 dX7_readRest_91 q91 ?_
    obtain ⟨x94, q94, e⟩ := ob e
    refine g_getN 4 o cf6 (by decide) mw_157 dX7_readRest_94 q94 ?_
    refine g_bipush (v := 40) o dX7_readRest_97 (by decide) ?_
    obtain ⟨_, k99, e⟩ := ob e
    obtain ⟨x99, h99, q99, e⟩ := ob2_s e
    refine g_callVv [.int 0, .int 0, .ref x94, .int 40] o (mX7_readPair q99) cf7 (ckO_s k99) mw_510 mw_511 mw_1690 mw_9 mw_512 rfl yo_X7_readPair rfl rfl (Nat.le_of_ble_eq_true rfl) ⟨by decide, by decide⟩ ⟨rfl, rfl⟩ dX7_readRest_99 ⟨by decide, by decide⟩ ?_
    exact g_zret o dX7_readRest_102 (zr_s e).1 (rt_v q (zr_s e).2)
  rw [if_neg u1] at e
  by_cases u2 : p0 = 3
  · rw [if_pos u2] at e
    refine g_tabAt (x := p0) 3 183 o dX7_readRest_1 u2 (by decide) (by decide) (by decide) (by decide) ?_
    refine g_aload_n 0 o dX7_readRest_183 rfl rfl ?_
    refine g_iload_n 1 o dX7_readRest_184 rfl rfl ?_
    obtain ⟨_, k185, e⟩ := ob e
    obtain ⟨x185, h185, q185, e⟩ := ob2_s e
    refine g_callVv [.int p0] o (mX7_readName q185) cf7 (ckO_s k185) mw_544 mw_545 mw_1694 mw_9 mw_546 rfl yo_X7_readName rfl rfl (Nat.le_of_ble_eq_true rfl) ⟨by decide, by decide⟩ ⟨rfl, rfl⟩ dX7_readRest_185 ⟨by decide, by decide⟩ ?_
    exact g_zret o dX7_readRest_188 (zr_s e).1 (rt_v q (zr_s e).2)
  rw [if_neg u2] at e
  by_cases u3 : p0 = 4
  · rw [if_pos u3] at e
    refine g_tabAt (x := p0) 4 183 o dX7_readRest_1 u3 (by decide) (by decide) (by decide) (by decide) ?_
    refine g_aload_n 0 o dX7_readRest_183 rfl rfl ?_
    refine g_iload_n 1 o dX7_readRest_184 rfl rfl ?_
    obtain ⟨_, k185, e⟩ := ob e
    obtain ⟨x185, h185, q185, e⟩ := ob2_s e
    refine g_callVv [.int p0] o (mX7_readName q185) cf7 (ckO_s k185) mw_544 mw_545 mw_1694 mw_9 mw_546 rfl yo_X7_readName rfl rfl (Nat.le_of_ble_eq_true rfl) ⟨by decide, by decide⟩ ⟨rfl, rfl⟩ dX7_readRest_185 ⟨by decide, by decide⟩ ?_
    exact g_zret o dX7_readRest_188 (zr_s e).1 (rt_v q (zr_s e).2)
  rw [if_neg u3] at e
  by_cases u4 : p0 = 5
  · rw [if_pos u4] at e
    refine g_tabAt (x := p0) 5 162 o dX7_readRest_1 u4 (by decide) (by decide) (by decide) (by decide) ?_
    refine g_aload_n 0 o dX7_readRest_162 rfl rfl ?_
    refine g_iload_n 1 o dX7_readRest_163 rfl rfl ?_
    obtain ⟨_, k164, e⟩ := ob e
    obtain ⟨x164, h164, q164, e⟩ := ob2_s e
    refine g_callVv [.int p0] o (mX7_readName q164) cf7 (ckO_s k164) mw_544 mw_545 mw_1694 mw_9 mw_546 rfl yo_X7_readName rfl rfl (Nat.le_of_ble_eq_true rfl) ⟨by decide, by decide⟩ ⟨rfl, rfl⟩ dX7_readRest_164 ⟨by decide, by decide⟩ ?_
    refine g_if_eq (x := x164) 181 o dX7_readRest_167 (by decide) (fun u => ?_) (fun u => ?_)
    · rw [if_pos u] at e
      refine g_iconst (v := 0) o dX7_readRest_181 (by decide) ?_
      exact g_zret o dX7_readRest_182 (zr_s e).1 (rt_v q (zr_s e).2)
    · rw [if_neg u] at e
      refine g_aload_n 0 o dX7_readRest_170 rfl rfl ?_
      obtain ⟨_, k171, e⟩ := ob e
      obtain ⟨x171, h171, q171, e⟩ := ob2_s e
      refine g_callVv [] o (mX7_readSkills q171) cf7 (ckO_s k171) mw_556 mw_557 mw_1695 mw_9 mw_558 rfl yo_X7_readSkills rfl rfl (Nat.le_of_ble_eq_true rfl) ⟨by decide, by decide⟩ ⟨rfl, rfl⟩ dX7_readRest_171 ⟨by decide, by decide⟩ ?_
      refine g_if_eq (x := x171) 181 o dX7_readRest_174 (by decide) (fun u => ?_) (fun u => ?_)
      · rw [if_pos u] at e
        refine g_iconst (v := 0) o dX7_readRest_181 (by decide) ?_
        exact g_zret o dX7_readRest_182 (zr_s e).1 (rt_v q (zr_s e).2)
      · rw [if_neg u] at e
        refine g_iconst (v := 1) o dX7_readRest_177 (by decide) ?_
        refine g_goto 182 o dX7_readRest_178 (by decide) ?_
        exact g_zret o dX7_readRest_182 (zr_s e).1 (rt_v q (zr_s e).2)
  rw [if_neg u4] at e
  by_cases u5 : p0 = 6
  · rw [if_pos u5] at e
    refine g_tabAt (x := p0) 6 152 o dX7_readRest_1 u5 (by decide) (by decide) (by decide) (by decide) ?_
    refine g_aload_n 0 o dX7_readRest_152 rfl rfl ?_
    obtain ⟨_, k153, e⟩ := ob e
    obtain ⟨x153, h153, q153, e⟩ := ob2_s e
    refine g_callVv [] o (mX7_readRain q153) cf7 (ckO_s k153) mw_534 mw_535 mw_1692 mw_9 mw_536 rfl yo_X7_readRain rfl rfl (Nat.le_of_ble_eq_true rfl) ⟨by decide, by decide⟩ ⟨rfl, rfl⟩ dX7_readRest_153 ⟨by decide, by decide⟩ ?_
    exact g_zret o dX7_readRest_156 (zr_s e).1 (rt_v q (zr_s e).2)
  rw [if_neg u5] at e
  by_cases u6 : p0 = 7
  · rw [if_pos u6] at e
    refine g_tabAt (x := p0) 7 157 o dX7_readRest_1 u6 (by decide) (by decide) (by decide) (by decide) ?_
    refine g_aload_n 0 o dX7_readRest_157 rfl rfl ?_
    obtain ⟨_, k158, e⟩ := ob e
    obtain ⟨x158, h158, q158, e⟩ := ob2_s e
    refine g_callVv [] o (mX7_readParrot q158) cf7 (ckO_s k158) mw_541 mw_542 mw_1693 mw_9 mw_543 rfl yo_X7_readParrot rfl rfl (Nat.le_of_ble_eq_true rfl) ⟨by decide, by decide⟩ ⟨rfl, rfl⟩ dX7_readRest_158 ⟨by decide, by decide⟩ ?_
    exact g_zret o dX7_readRest_161 (zr_s e).1 (rt_v q (zr_s e).2)
  rw [if_neg u6] at e
  by_cases u7 : p0 = 8
  · rw [if_pos u7] at e
    refine g_tabAt (x := p0) 8 103 o dX7_readRest_1 u7 (by decide) (by decide) (by decide) (by decide) ?_
    refine g_aload_n 0 o dX7_readRest_103 rfl rfl ?_
    refine g_iconst (v := 3) o dX7_readRest_104 (by decide) ?_
    refine g_iconst (v := 0) o dX7_readRest_105 (by decide) ?_
    refine g_aload_n 0 o dX7_readRest_106 rfl rfl ?_
    obtain ⟨x107, q107, e⟩ := ob e
    refine g_getN 1 o cf7 (by decide) mw_203 dX7_readRest_107 q107 ?_
    obtain ⟨x110, q110, e⟩ := ob e
    refine g_getN 5 o cf6 (by decide) mw_161 dX7_readRest_110 q110 ?_
    refine g_sipush (v := 250) o dX7_readRest_113 (by decide) ?_
    obtain ⟨_, k116, e⟩ := ob e
    obtain ⟨x116, h116, q116, e⟩ := ob2_s e
    refine g_callVv [.int 3, .int 0, .ref x110, .int 250] o (mX7_readPair q116) cf7 (ckO_s k116) mw_510 mw_511 mw_1690 mw_9 mw_512 rfl yo_X7_readPair rfl rfl (Nat.le_of_ble_eq_true rfl) ⟨by decide, by decide⟩ ⟨rfl, rfl⟩ dX7_readRest_116 ⟨by decide, by decide⟩ ?_
    exact g_zret o dX7_readRest_119 (zr_s e).1 (rt_v q (zr_s e).2)
  rw [if_neg u7] at e
  by_cases u8 : p0 = 9
  · rw [if_pos u8] at e
    refine g_tabAt (x := p0) 9 120 o dX7_readRest_1 u8 (by decide) (by decide) (by decide) (by decide) ?_
    refine g_aload_n 0 o dX7_readRest_120 rfl rfl ?_
    refine g_iconst (v := 3) o dX7_readRest_121 (by decide) ?_
    refine g_iconst (v := 0) o dX7_readRest_122 (by decide) ?_
    refine g_aload_n 0 o dX7_readRest_123 rfl rfl ?_
    obtain ⟨x124, q124, e⟩ := ob e
    refine g_getN 1 o cf7 (by decide) mw_203 dX7_readRest_124 q124 ?_
    obtain ⟨x127, q127, e⟩ := ob e
    refine g_getN 6 o cf6 (by decide) mw_164 dX7_readRest_127 q127 ?_
    refine g_sipush (v := 250) o dX7_readRest_130 (by decide) ?_
    obtain ⟨_, k133, e⟩ := ob e
    obtain ⟨x133, h133, q133, e⟩ := ob2_s e
    refine g_callVv [.int 3, .int 0, .ref x127, .int 250] o (mX7_readPair q133) cf7 (ckO_s k133) mw_510 mw_511 mw_1690 mw_9 mw_512 rfl yo_X7_readPair rfl rfl (Nat.le_of_ble_eq_true rfl) ⟨by decide, by decide⟩ ⟨rfl, rfl⟩ dX7_readRest_133 ⟨by decide, by decide⟩ ?_
    exact g_zret o dX7_readRest_136 (zr_s e).1 (rt_v q (zr_s e).2)
  rw [if_neg u8] at e
  by_cases u9 : p0 = 10
  · rw [if_pos u9] at e
    refine g_tabAt (x := p0) 10 137 o dX7_readRest_1 u9 (by decide) (by decide) (by decide) (by decide) ?_
    refine g_aload_n 0 o dX7_readRest_137 rfl rfl ?_
    refine g_iconst (v := 3) o dX7_readRest_138 (by decide) ?_
    refine g_iconst (v := 4) o dX7_readRest_139 (by decide) ?_
    refine g_aload_n 0 o dX7_readRest_140 rfl rfl ?_
    obtain ⟨x141, q141, e⟩ := ob e
    refine g_getN 1 o cf7 (by decide) mw_203 dX7_readRest_141 q141 ?_
    obtain ⟨x144, q144, e⟩ := ob e
    refine g_getN 7 o cf6 (by decide) mw_167 dX7_readRest_144 q144 ?_
    refine g_iconst (v := 0) o dX7_readRest_147 (by decide) ?_
    obtain ⟨_, k148, e⟩ := ob e
    obtain ⟨x148, h148, q148, e⟩ := ob2_s e
    refine g_callVv [.int 3, .int 4, .ref x144, .int 0] o (mX7_readPair q148) cf7 (ckO_s k148) mw_510 mw_511 mw_1690 mw_9 mw_512 rfl yo_X7_readPair rfl rfl (Nat.le_of_ble_eq_true rfl) ⟨by decide, by decide⟩ ⟨rfl, rfl⟩ dX7_readRest_148 ⟨by decide, by decide⟩ ?_
    exact g_zret o dX7_readRest_151 (zr_s e).1 (rt_v q (zr_s e).2)
  rw [if_neg u9] at e
  refine g_tabOut (x := p0) 183 o dX7_readRest_1 (by have n0 := tb_ne 1 1 (by decide) u0; have n1 := tb_ne 2 2 (by decide) u1; have n2 := tb_ne 3 3 (by decide) u2; have n3 := tb_ne 4 4 (by decide) u3; have n4 := tb_ne 5 5 (by decide) u4; have n5 := tb_ne 6 6 (by decide) u5; have n6 := tb_ne 7 7 (by decide) u6; have n7 := tb_ne 8 8 (by decide) u7; have n8 := tb_ne 9 9 (by decide) u8; have n9 := tb_ne 10 10 (by decide) u9; omega) (by decide) ?_
  refine g_aload_n 0 o dX7_readRest_183 rfl rfl ?_
  refine g_iload_n 1 o dX7_readRest_184 rfl rfl ?_
  obtain ⟨_, k185, e⟩ := ob e
  obtain ⟨x185, h185, q185, e⟩ := ob2_s e
  refine g_callVv [.int p0] o (mX7_readName q185) cf7 (ckO_s k185) mw_544 mw_545 mw_1694 mw_9 mw_546 rfl yo_X7_readName rfl rfl (Nat.le_of_ble_eq_true rfl) ⟨by decide, by decide⟩ ⟨rfl, rfl⟩ dX7_readRest_185 ⟨by decide, by decide⟩ ?_
  exact g_zret o dX7_readRest_188 (zr_s e).1 (rt_v q (zr_s e).2)
theorem yo_X4_passSign : yok yX4_passSign 1 := ⟨by decide, by decide, by decide +kernel⟩
set_option maxRecDepth 100000 in
set_option maxHeartbeats 4000000 in
theorem mX4_passSign {l : Launch} {D : va_G} {cy : Nat → ClassId} {f0 : Nat} {a : Nat} {p0 : Int32} {h : Hp} {r : Int32} {hz : Hp} (e : fX4_passSign f0 a p0 h = some (r, hz)) : MC l D cy yX4_passSign cX4_passSign 2 (some .boolean) rmX4_passSign [.ref a, .int p0] h (some (.int r)) hz := by
  refine mc_of2 (by decide) (Nat.le_of_ble_eq_true rfl) (fun X hl hD hy hin o q => ?_)
  subst hl; subst hD; subst hy
  show G X 2 0 [(0, .ref a), (1, .int p0)] [] h 0 0
  unfold fX4_passSign at e
  refine g_aload_n 0 o dX4_passSign_0 rfl rfl ?_
  obtain ⟨x1, q1, e⟩ := ob e
  refine g_getI 5 o cf4 (by decide) mw_91 dX4_passSign_1 q1 ?_
  refine g_iload_n 1 o dX4_passSign_4 rfl rfl ?_
  refine g_icmp_eq (x := x1) (y := p0) 14 o dX4_passSign_5 (by decide) (fun u => ?_) (fun u => ?_)
  · rw [if_pos u] at e
    refine g_aload_n 0 o dX4_passSign_14 rfl rfl ?_
    obtain ⟨_, k15, e⟩ := ob e
    obtain ⟨h15, q15, e⟩ := ob e
    refine g_callV0 [] o (mX4_step q15) cf4 (ckO_s k15) mw_427 mw_428 mw_429 mw_2 mw_430 rfl yo_X4_step rfl rfl (Nat.le_of_ble_eq_true rfl) ⟨by decide, by decide⟩ ⟨rfl, rfl⟩ dX4_passSign_15 ⟨by decide, by decide⟩ ?_
    refine g_iconst (v := 1) o dX4_passSign_18 (by decide) ?_
    exact g_zret o dX4_passSign_19 (zr_s e).1 (rt_v q (zr_s e).2)
  · rw [if_neg u] at e
    refine g_aload_n 0 o dX4_passSign_8 rfl rfl ?_
    refine g_iconst (v := 1) o dX4_passSign_9 (by decide) ?_
    obtain ⟨_, k10, e⟩ := ob e
    obtain ⟨x10, h10, q10, e⟩ := ob2_s e
    refine g_callVv [.int 1] o (mX4_refuse q10) cf4 (ckO_s k10) mw_521 mw_503 mw_504 mw_2 mw_505 rfl yo_X4_refuse rfl rfl (Nat.le_of_ble_eq_true rfl) ⟨by decide, by decide⟩ ⟨rfl, rfl⟩ dX4_passSign_10 ⟨by decide, by decide⟩ ?_
    exact g_zret o dX4_passSign_13 (zr_s e).1 (rt_v q (zr_s e).2)
set_option maxRecDepth 100000 in
set_option maxHeartbeats 4000000 in
theorem kX7_readLine_18 {X : Cx} (f0 : Nat) (o : Ok X cX7_readLine RX7 2 rmX7_readLine (some .boolean)) (v0 : Nat) (h : Hp) (r : Int32) (hz : Hp) (q : Rt X (some (.int r)) hz 0 0) (e : bX7_readLine_18 f0 v0 h = some (r, hz)) : G X 2 18 [(0, .ref v0)] [] h 0 0 := by
  unfold bX7_readLine_18 at e
  refine g_aload_n 0 o dX7_readLine_18 rfl rfl ?_
  obtain ⟨x19, q19, e⟩ := ob e
  refine g_getN 0 o cf7 (by decide) mw_202 dX7_readLine_19 q19 ?_
  refine g_iconst (v := 1) o dX7_readLine_22 (by decide) ?_
  obtain ⟨_, k23, e⟩ := ob e
  obtain ⟨x23, h23, q23, e⟩ := ob2_s e
  refine g_callVv [.int 1] o (mX4_refuse q23) cf4 (ckO_s k23) mw_502 mw_503 mw_504 mw_2 mw_505 rfl yo_X4_refuse rfl rfl (Nat.le_of_ble_eq_true rfl) ⟨by decide, by decide⟩ ⟨rfl, rfl⟩ dX7_readLine_23 ⟨by decide, by decide⟩ ?_
  exact g_zret o dX7_readLine_26 (zr_s e).1 (rt_v q (zr_s e).2)
set_option maxRecDepth 100000 in
set_option maxHeartbeats 4000000 in
theorem kX7_readLine_117 {X : Cx} (f0 : Nat) (o : Ok X cX7_readLine RX7 2 rmX7_readLine (some .boolean)) (v0 : Nat) (h : Hp) (r : Int32) (hz : Hp) (q : Rt X (some (.int r)) hz 0 0) (e : bX7_readLine_117 f0 v0 h = some (r, hz)) : G X 2 117 [(0, .ref v0)] [] h 0 0 := by
  unfold bX7_readLine_117 at e
  refine g_aload_n 0 o dX7_readLine_117 rfl rfl ?_
  obtain ⟨x118, q118, e⟩ := ob e
  refine g_getN 0 o cf7 (by decide) mw_202 dX7_readLine_118 q118 ?_
  refine g_bipush (v := 59) o dX7_readLine_121 (by decide) ?_
  obtain ⟨_, k123, e⟩ := ob e
  obtain ⟨x123, h123, q123, e⟩ := ob2_s e
  refine g_callVv [.int 59] o (mX4_passSign q123) cf4 (ckO_s k123) mw_559 mw_560 mw_561 mw_2 mw_562 rfl yo_X4_passSign rfl rfl (Nat.le_of_ble_eq_true rfl) ⟨by decide, by decide⟩ ⟨rfl, rfl⟩ dX7_readLine_123 ⟨by decide, by decide⟩ ?_
  exact g_zret o dX7_readLine_126 (zr_s e).1 (rt_v q (zr_s e).2)
set_option maxRecDepth 100000 in
set_option maxHeartbeats 4000000 in
theorem kX7_readLine_81 {X : Cx} (f0 : Nat) (o : Ok X cX7_readLine RX7 2 rmX7_readLine (some .boolean)) (v0 : Nat) (v1 : Int32) (h : Hp) (r : Int32) (hz : Hp) (q : Rt X (some (.int r)) hz 0 0) (e : bX7_readLine_81 f0 v0 v1 h = some (r, hz)) : G X 2 81 [(0, .ref v0), (1, .int v1)] [] h 0 0 := by
  unfold bX7_readLine_81 at e
  refine g_aload_n 0 o dX7_readLine_81 rfl rfl ?_
  obtain ⟨x82, q82, e⟩ := ob e
  refine g_getN 0 o cf7 (by decide) mw_202 dX7_readLine_82 q82 ?_
  obtain ⟨_, k85, e⟩ := ob e
  obtain ⟨h85, q85, e⟩ := ob e
  refine g_callV0 [] o (mX4_step q85) cf4 (ckO_s k85) mw_506 mw_428 mw_429 mw_2 mw_430 rfl yo_X4_step rfl rfl (Nat.le_of_ble_eq_true rfl) ⟨by decide, by decide⟩ ⟨rfl, rfl⟩ dX7_readLine_85 ⟨by decide, by decide⟩ ?_
  refine g_aload_n 0 o dX7_readLine_88 rfl rfl ?_
  refine g_iload_n 1 o dX7_readLine_89 rfl rfl ?_
  obtain ⟨_, k90, e⟩ := ob e
  obtain ⟨x90, h90, q90, e⟩ := ob2_s e
  refine g_callVv [.int v1] o (mX7_readRest q90) cf7 (ckO_s k90) mw_507 mw_508 mw_1689 mw_9 mw_509 rfl yo_X7_readRest rfl rfl (Nat.le_of_ble_eq_true rfl) ⟨by decide, by decide⟩ ⟨rfl, rfl⟩ dX7_readLine_90 ⟨by decide, by decide⟩ ?_
  refine g_if_ne (x := x90) 98 o dX7_readLine_93 (by decide) (fun u => ?_) (fun u => ?_)
  · rw [if_neg u] at e
    refine g_iload_n 1 o dX7_readLine_98 rfl rfl ?_
    refine g_bipush (v := 6) o dX7_readLine_99 (by decide) ?_
    refine g_icmp_gt (x := v1) (y := 6) 117 o dX7_readLine_101 (by decide) (fun u => ?_) (fun u => ?_)
    · rw [if_pos u] at e
      refine g_sb [0] rfl ?_
      exact kX7_readLine_117 f0 o v0 h90 r hz q e
    · rw [if_neg u] at e
      refine g_aload_n 0 o dX7_readLine_104 rfl rfl ?_
      obtain ⟨x105, q105, e⟩ := ob e
      refine g_getN 1 o cf7 (by decide) mw_203 dX7_readLine_105 q105 ?_
      obtain ⟨x108, q108, e⟩ := ob e
      refine g_getN 1 o cf6 (by decide) mw_145 dX7_readLine_108 q108 ?_
      refine g_iload_n 1 o dX7_readLine_111 rfl rfl ?_
      refine g_dup2 o dX7_readLine_112 rfl rfl ?_
      obtain ⟨x113, q113, e⟩ := ob e
      refine g_iald o dX7_readLine_113 q113 ?_
      refine g_iconst (v := 1) o dX7_readLine_114 (by decide) ?_
      refine g_iadd (x := x113) (y := 1) o dX7_readLine_115 ?_
      obtain ⟨h116, q116, e⟩ := ob e
      refine g_iast o dX7_readLine_116 q116 ?_
      refine g_sb [0] rfl ?_
      exact kX7_readLine_117 f0 o v0 h116 r hz q e
  · rw [if_pos u] at e
    refine g_iconst (v := 0) o dX7_readLine_96 (by decide) ?_
    exact g_zret o dX7_readLine_97 (zr_s e).1 (rt_v q (zr_s e).2)
set_option maxRecDepth 100000 in
set_option maxHeartbeats 4000000 in
theorem kX7_readLine_59 {X : Cx} (f0 : Nat) (o : Ok X cX7_readLine RX7 2 rmX7_readLine (some .boolean)) (v0 : Nat) (v1 : Int32) (h : Hp) (r : Int32) (hz : Hp) (q : Rt X (some (.int r)) hz 0 0) (e : bX7_readLine_59 f0 v0 v1 h = some (r, hz)) : G X 2 59 [(0, .ref v0), (1, .int v1)] [] h 0 0 := by
  unfold bX7_readLine_59 at e
  refine g_iload_n 1 o dX7_readLine_59 rfl rfl ?_
  refine g_bipush (v := 7) o dX7_readLine_60 (by decide) ?_
  refine g_icmp_ne (x := v1) (y := 7) 81 o dX7_readLine_62 (by decide) (fun u => ?_) (fun u => ?_)
  · rw [if_neg u] at e
    exact kX7_readLine_81 f0 o v0 v1 h r hz q e
  · rw [if_pos u] at e
    refine g_aload_n 0 o dX7_readLine_65 rfl rfl ?_
    obtain ⟨x66, q66, e⟩ := ob e
    refine g_getI 2 o cf7 (by decide) mw_204 dX7_readLine_66 q66 ?_
    refine g_if_eq (x := x66) 81 o dX7_readLine_69 (by decide) (fun u => ?_) (fun u => ?_)
    · rw [if_pos u] at e
      exact kX7_readLine_81 f0 o v0 v1 h r hz q e
    · rw [if_neg u] at e
      refine g_aload_n 0 o dX7_readLine_72 rfl rfl ?_
      obtain ⟨x73, q73, e⟩ := ob e
      refine g_getN 0 o cf7 (by decide) mw_202 dX7_readLine_73 q73 ?_
      refine g_iconst (v := 3) o dX7_readLine_76 (by decide) ?_
      obtain ⟨_, k77, e⟩ := ob e
      obtain ⟨x77, h77, q77, e⟩ := ob2_s e
      refine g_callVv [.int 3] o (mX4_refuse q77) cf4 (ckO_s k77) mw_502 mw_503 mw_504 mw_2 mw_505 rfl yo_X4_refuse rfl rfl (Nat.le_of_ble_eq_true rfl) ⟨by decide, by decide⟩ ⟨rfl, rfl⟩ dX7_readLine_77 ⟨by decide, by decide⟩ ?_
      exact g_zret o dX7_readLine_80 (zr_s e).1 (rt_v q (zr_s e).2)
theorem yo_X7_readLine : yok yX7_readLine 0 := ⟨by decide, by decide, by decide +kernel⟩
set_option maxRecDepth 100000 in
set_option maxHeartbeats 4000000 in
theorem mX7_readLine {l : Launch} {D : va_G} {cy : Nat → ClassId} {f0 : Nat} {a : Nat} {h : Hp} {r : Int32} {hz : Hp} (e : fX7_readLine f0 a h = some (r, hz)) : MC l D cy yX7_readLine cX7_readLine 2 (some .boolean) rmX7_readLine [.ref a] h (some (.int r)) hz := by
  refine mc_of2 (by decide) (Nat.le_of_ble_eq_true rfl) (fun X hl hD hy hin o q => ?_)
  subst hl; subst hD; subst hy
  show G X 2 0 [(0, .ref a)] [] h 0 0
  unfold fX7_readLine at e
  refine g_aload_n 0 o dX7_readLine_0 rfl rfl ?_
  obtain ⟨x1, q1, e⟩ := ob e
  refine g_getN 0 o cf7 (by decide) mw_202 dX7_readLine_1 q1 ?_
  obtain ⟨x4, q4, e⟩ := ob e
  refine g_getI 8 o cf4 (by decide) mw_96 dX7_readLine_4 q4 ?_
  refine g_istore_n [(1, .int x4), (0, .ref a)] o dX7_readLine_7 rfl (by decide) rfl ?_
  refine g_iload_n 0 o dX7_readLine_8 rfl rfl ?_
  refine g_if_lt (x := x4) 18 o dX7_readLine_9 (by decide) (fun u => ?_) (fun u => ?_)
  · rw [if_pos u] at e
    refine g_sb [1] rfl ?_
    exact kX7_readLine_18 f0 o a h r hz q e
  · rw [if_neg u] at e
    refine g_iload_n 0 o dX7_readLine_12 rfl rfl ?_
    refine g_bipush (v := 10) o dX7_readLine_13 (by decide) ?_
    refine g_icmp_le (x := x4) (y := 10) 27 o dX7_readLine_15 (by decide) (fun u => ?_) (fun u => ?_)
    · rw [if_pos u] at e
      refine g_iload_n 0 o dX7_readLine_27 rfl rfl ?_
      refine g_bipush (v := 6) o dX7_readLine_28 (by decide) ?_
      refine g_icmp_gt (x := x4) (y := 6) 59 o dX7_readLine_30 (by decide) (fun u => ?_) (fun u => ?_)
      · rw [if_pos u] at e
        refine g_sb [1, 0] rfl ?_
        exact kX7_readLine_59 f0 o a x4 h r hz q e
      · rw [if_neg u] at e
        refine g_aload_n 1 o dX7_readLine_33 rfl rfl ?_
        obtain ⟨x34, q34, e⟩ := ob e
        refine g_getN 1 o cf7 (by decide) mw_203 dX7_readLine_34 q34 ?_
        obtain ⟨x37, q37, e⟩ := ob e
        refine g_getN 1 o cf6 (by decide) mw_145 dX7_readLine_37 q37 ?_
        refine g_iload_n 0 o dX7_readLine_40 rfl rfl ?_
        obtain ⟨x41, q41, e⟩ := ob e
        refine g_iald o dX7_readLine_41 q41 ?_
        refine g_gstM o dX7_readLine_42 ?_
        refine g_iload_n 0 o dX7_readLine_45 rfl rfl ?_
        obtain ⟨x46, q46, e⟩ := ob e
        refine g_ialdM o dX7_readLine_46 q46 ?_
        refine g_icmp_lt (x := x41) (y := x46) 59 o dX7_readLine_47 (by decide) (fun u => ?_) (fun u => ?_)
        · rw [if_pos u] at e
          refine g_sb [1, 0] rfl ?_
          exact kX7_readLine_59 f0 o a x4 h r hz q e
        · rw [if_neg u] at e
          refine g_aload_n 1 o dX7_readLine_50 rfl rfl ?_
          obtain ⟨x51, q51, e⟩ := ob e
          refine g_getN 0 o cf7 (by decide) mw_202 dX7_readLine_51 q51 ?_
          refine g_iconst (v := 4) o dX7_readLine_54 (by decide) ?_
          obtain ⟨_, k55, e⟩ := ob e
          obtain ⟨x55, h55, q55, e⟩ := ob2_s e
          refine g_callVv [.int 4] o (mX4_refuse q55) cf4 (ckO_s k55) mw_502 mw_503 mw_504 mw_2 mw_505 rfl yo_X4_refuse rfl rfl (Nat.le_of_ble_eq_true rfl) ⟨by decide, by decide⟩ ⟨rfl, rfl⟩ dX7_readLine_55 ⟨by decide, by decide⟩ ?_
          exact g_zret o dX7_readLine_58 (zr_s e).1 (rt_v q (zr_s e).2)
    · rw [if_neg u] at e
      refine g_sb [1] rfl ?_
      exact kX7_readLine_18 f0 o a h r hz q e
set_option maxRecDepth 100000 in
set_option maxHeartbeats 4000000 in
theorem kX4_passEnd_26 {X : Cx} (f0 : Nat) (o : Ok X cX4_passEnd RX4 1 rmX4_passEnd (some .boolean)) (h : Hp) (r : Int32) (hz : Hp) (q : Rt X (some (.int r)) hz 0 0) (e : bX4_passEnd_26 f0 h = some (r, hz)) : G X 1 26 [] [] h 0 0 := by
  unfold bX4_passEnd_26 at e
  refine g_iconst (v := 1) o dX4_passEnd_26 (by decide) ?_
  refine g_goto 31 o dX4_passEnd_27 (by decide) ?_
  exact g_zret o dX4_passEnd_31 (zr_s e).1 (rt_v q (zr_s e).2)
set_option maxRecDepth 100000 in
set_option maxHeartbeats 4000000 in
theorem kX4_passEnd_18 {X : Cx} (f0 : Nat) (o : Ok X cX4_passEnd RX4 1 rmX4_passEnd (some .boolean)) (v0 : Nat) (h : Hp) (r : Int32) (hz : Hp) (q : Rt X (some (.int r)) hz 0 0) (e : bX4_passEnd_18 f0 v0 h = some (r, hz)) : G X 1 18 [(0, .ref v0)] [] h 0 0 := by
  unfold bX4_passEnd_18 at e
  refine g_aload_n 0 o dX4_passEnd_18 rfl rfl ?_
  refine g_iconst (v := 1) o dX4_passEnd_19 (by decide) ?_
  obtain ⟨_, k20, e⟩ := ob e
  obtain ⟨x20, h20, q20, e⟩ := ob2_s e
  refine g_callVv [.int 1] o (mX4_refuse q20) cf4 (ckO_s k20) mw_521 mw_503 mw_504 mw_2 mw_505 rfl yo_X4_refuse rfl rfl (Nat.le_of_ble_eq_true rfl) ⟨by decide, by decide⟩ ⟨rfl, rfl⟩ dX4_passEnd_20 ⟨by decide, by decide⟩ ?_
  refine g_if_eq (x := x20) 30 o dX4_passEnd_23 (by decide) (fun u => ?_) (fun u => ?_)
  · rw [if_pos u] at e
    refine g_iconst (v := 0) o dX4_passEnd_30 (by decide) ?_
    exact g_zret o dX4_passEnd_31 (zr_s e).1 (rt_v q (zr_s e).2)
  · rw [if_neg u] at e
    refine g_sb [] rfl ?_
    exact kX4_passEnd_26 f0 o h20 r hz q e
theorem yo_X4_passEnd : yok yX4_passEnd 0 := ⟨by decide, by decide, by decide +kernel⟩
set_option maxRecDepth 100000 in
set_option maxHeartbeats 4000000 in
theorem mX4_passEnd {l : Launch} {D : va_G} {cy : Nat → ClassId} {f0 : Nat} {a : Nat} {h : Hp} {r : Int32} {hz : Hp} (e : fX4_passEnd f0 a h = some (r, hz)) : MC l D cy yX4_passEnd cX4_passEnd 1 (some .boolean) rmX4_passEnd [.ref a] h (some (.int r)) hz := by
  refine mc_of2 (by decide) (Nat.le_of_ble_eq_true rfl) (fun X hl hD hy hin o q => ?_)
  subst hl; subst hD; subst hy
  show G X 1 0 [(0, .ref a)] [] h 0 0
  unfold fX4_passEnd at e
  refine g_aload_n 0 o dX4_passEnd_0 rfl rfl ?_
  obtain ⟨x1, q1, e⟩ := ob e
  refine g_getI 5 o cf4 (by decide) mw_91 dX4_passEnd_1 q1 ?_
  refine g_if_ne (x := x1) 18 o dX4_passEnd_4 (by decide) (fun u => ?_) (fun u => ?_)
  · rw [if_neg u] at e
    exact kX4_passEnd_18 f0 o a h r hz q e
  · rw [if_pos u] at e
    refine g_aload_n 0 o dX4_passEnd_7 rfl rfl ?_
    obtain ⟨x8, q8, e⟩ := ob e
    refine g_getI 2 o cf4 (by decide) mw_86 dX4_passEnd_8 q8 ?_
    refine g_aload_n 0 o dX4_passEnd_11 rfl rfl ?_
    obtain ⟨x12, q12, e⟩ := ob e
    refine g_getI 3 o cf4 (by decide) mw_87 dX4_passEnd_12 q12 ?_
    refine g_icmp_eq (x := x8) (y := x12) 26 o dX4_passEnd_15 (by decide) (fun u => ?_) (fun u => ?_)
    · rw [if_pos u] at e
      refine g_sb [] rfl ?_
      exact kX4_passEnd_26 f0 o h r hz q e
    · rw [if_neg u] at e
      exact kX4_passEnd_18 f0 o a h r hz q e
set_option maxRecDepth 100000 in
set_option maxHeartbeats 4000000 in
theorem kX6_shortest_36 {X : Cx} (f0 : Nat) (g10 : Nat → Nat → Int32 → Int32 → Hp → Option (Hp)) (i10 : ∀ (v12 : Nat) (v22 : Nat) (v32 : Int32) (v42 : Int32) (h2 : Hp) (hz : Hp), Rt X none hz 0 0 → g10 v12 v22 v32 v42 h2 = some hz → G X 8 10 [(1, .ref v12), (2, .ref v22), (3, .int v32), (4, .int v42)] [] h2 0 0) (o : Ok X cX6_shortest RX6 8 rmX6_shortest none) (v1 : Nat) (v2 : Nat) (v3 : Int32) (v4 : Int32) (s0 : Nat) (s1 : Int32) (s2 : Int32) (h : Hp) (hz : Hp) (q : Rt X none hz 0 0) (e : bX6_shortest_36 f0 g10 v1 v2 v3 v4 s0 s1 s2 h = some hz) : G X 8 36 [(1, .ref v1), (2, .ref v2), (3, .int v3), (4, .int v4)] [.int s2, .int s1, .ref s0] h 0 0 := by
  unfold bX6_shortest_36 at e
  obtain ⟨h36, q36, e⟩ := ob e
  refine g_iast o dX6_shortest_36 q36 ?_
  refine g_iinc (k := 3) (v := (v4 + 1)) [(4, .int (v4 + 1)), (1, .ref v1), (2, .ref v2), (3, .int v3)] o dX6_shortest_37 rfl rfl (by decide) rfl ?_
  refine g_goto 10 o dX6_shortest_40 (by decide) ?_
  refine g_sb [1, 2, 3, 0] rfl ?_
  exact i10 v1 v2 v3 (v4 + 1) h36 hz q e
set_option maxRecDepth 100000 in
set_option maxHeartbeats 4000000 in
theorem kX6_shortest_90 {X : Cx} (f0 : Nat) (g72 : Nat → Int32 → Int32 → Hp → Option (Hp)) (g81 : Nat → Int32 → Int32 → Int32 → Hp → Option (Hp)) (i72 : ∀ (v22 : Nat) (v32 : Int32) (v42 : Int32) (h2 : Hp) (hz : Hp), Rt X none hz 0 0 → g72 v22 v32 v42 h2 = some hz → G X 8 72 [(2, .ref v22), (3, .int v32), (4, .int v42)] [] h2 0 0) (i81 : ∀ (v22 : Nat) (v32 : Int32) (v42 : Int32) (v52 : Int32) (h2 : Hp) (hz : Hp), Rt X none hz 0 0 → g81 v22 v32 v42 v52 h2 = some hz → G X 8 81 [(2, .ref v22), (3, .int v32), (4, .int v42), (5, .int v52)] [] h2 0 0) (o : Ok X cX6_shortest RX6 8 rmX6_shortest none) (f : Nat) (v2 : Nat) (v3 : Int32) (v4 : Int32) (v5 : Int32) (v6 : Int32) (h : Hp) (hz : Hp) (q : Rt X none hz 0 0) (e : bX6_shortest_90 f0 g72 g81 f v2 v3 v4 v5 v6 h = some hz) : G X 8 90 [(2, .ref v2), (3, .int v3), (4, .int v4), (5, .int v5), (6, .int v6)] [] h 0 0 := by
  induction f generalizing v2 v3 v4 v5 v6 h hz with
  | zero => cases e
  | succ f1 ih =>
    unfold bX6_shortest_90 at e
    refine g_iload 4 o dX6_shortest_90 rfl ?_
    refine g_iload_n 1 o dX6_shortest_92 rfl rfl ?_
    refine g_icmp_ge (x := v6) (y := v3) 150 o dX6_shortest_93 (by decide) (fun u => ?_) (fun u => ?_)
    · rw [if_pos u] at e
      refine g_iinc (k := 3) (v := (v5 + 1)) [(5, .int (v5 + 1)), (2, .ref v2), (3, .int v3), (4, .int v4), (6, .int v6)] o dX6_shortest_150 rfl rfl (by decide) rfl ?_
      refine g_goto 81 o dX6_shortest_153 (by decide) ?_
      refine g_sb [1, 2, 3, 0] rfl ?_
      exact i81 v2 v3 v4 (v5 + 1) h hz q e
    · rw [if_neg u] at e
      refine g_aload_n 0 o dX6_shortest_96 rfl rfl ?_
      refine g_iload 3 o dX6_shortest_97 rfl ?_
      refine g_bipush (v := 8) o dX6_shortest_99 (by decide) ?_
      refine g_imul (x := v5) (y := 8) o dX6_shortest_101 ?_
      refine g_iload 2 o dX6_shortest_102 rfl ?_
      refine g_iadd (x := (v5 * 8)) (y := v4) o dX6_shortest_104 ?_
      obtain ⟨x105, q105, e⟩ := ob e
      refine g_iald o dX6_shortest_105 q105 ?_
      refine g_aload_n 0 o dX6_shortest_106 rfl rfl ?_
      refine g_iload 2 o dX6_shortest_107 rfl ?_
      refine g_bipush (v := 8) o dX6_shortest_109 (by decide) ?_
      refine g_imul (x := v4) (y := 8) o dX6_shortest_111 ?_
      refine g_iload 4 o dX6_shortest_112 rfl ?_
      refine g_iadd (x := (v4 * 8)) (y := v6) o dX6_shortest_114 ?_
      obtain ⟨x115, q115, e⟩ := ob e
      refine g_iald o dX6_shortest_115 q115 ?_
      refine g_iadd (x := x105) (y := x115) o dX6_shortest_116 ?_
      refine g_istore [(7, .int (x105 + x115)), (2, .ref v2), (3, .int v3), (4, .int v4), (5, .int v5), (6, .int v6)] o dX6_shortest_117 (by decide) rfl ?_
      refine g_aload_n 1 o dX6_shortest_119 rfl rfl ?_
      refine g_iload 4 o dX6_shortest_120 rfl ?_
      refine g_bipush (v := 8) o dX6_shortest_122 (by decide) ?_
      refine g_imul (x := v5) (y := 8) o dX6_shortest_124 ?_
      refine g_iload 5 o dX6_shortest_125 rfl ?_
      refine g_iadd (x := (v5 * 8)) (y := v6) o dX6_shortest_127 ?_
      refine g_aload_n 1 o dX6_shortest_128 rfl rfl ?_
      refine g_iload 4 o dX6_shortest_129 rfl ?_
      refine g_bipush (v := 8) o dX6_shortest_131 (by decide) ?_
      refine g_imul (x := v5) (y := 8) o dX6_shortest_133 ?_
      refine g_iload 5 o dX6_shortest_134 rfl ?_
      refine g_iadd (x := (v5 * 8)) (y := v6) o dX6_shortest_136 ?_
      obtain ⟨x137, q137, e⟩ := ob e
      refine g_iald o dX6_shortest_137 q137 ?_
      refine g_iload 0 o dX6_shortest_138 rfl ?_
      refine g_mmin (x := x137) (y := (x105 + x115)) o mw_575 mw_362 mw_18 mw_363 ⟨by decide, Nat.le_of_ble_eq_true rfl⟩ ⟨by decide, by decide⟩ dX6_shortest_140 ?_
      obtain ⟨h143, q143, e⟩ := ob e
      refine g_iast o dX6_shortest_143 q143 ?_
      refine g_iinc (k := 5) (v := (v6 + 1)) [(6, .int (v6 + 1)), (7, .int (x105 + x115)), (2, .ref v2), (3, .int v3), (4, .int v4), (5, .int v5)] o dX6_shortest_144 rfl rfl (by decide) rfl ?_
      refine g_goto 90 o dX6_shortest_147 (by decide) ?_
      refine g_sb [2, 3, 4, 5, 0] rfl ?_
      exact ih v2 v3 v4 v5 (v6 + 1) h143 hz q e
set_option maxRecDepth 100000 in
set_option maxHeartbeats 4000000 in
theorem kX6_shortest_81 {X : Cx} (f0 : Nat) (g72 : Nat → Int32 → Int32 → Hp → Option (Hp)) (i72 : ∀ (v22 : Nat) (v32 : Int32) (v42 : Int32) (h2 : Hp) (hz : Hp), Rt X none hz 0 0 → g72 v22 v32 v42 h2 = some hz → G X 8 72 [(2, .ref v22), (3, .int v32), (4, .int v42)] [] h2 0 0) (o : Ok X cX6_shortest RX6 8 rmX6_shortest none) (f : Nat) (v2 : Nat) (v3 : Int32) (v4 : Int32) (v5 : Int32) (h : Hp) (hz : Hp) (q : Rt X none hz 0 0) (e : bX6_shortest_81 f0 g72 f v2 v3 v4 v5 h = some hz) : G X 8 81 [(2, .ref v2), (3, .int v3), (4, .int v4), (5, .int v5)] [] h 0 0 := by
  induction f generalizing v2 v3 v4 v5 h hz with
  | zero => cases e
  | succ f1 ih =>
    unfold bX6_shortest_81 at e
    refine g_iload 3 o dX6_shortest_81 rfl ?_
    refine g_iload_n 1 o dX6_shortest_83 rfl rfl ?_
    refine g_icmp_ge (x := v5) (y := v3) 156 o dX6_shortest_84 (by decide) (fun u => ?_) (fun u => ?_)
    · rw [if_pos u] at e
      refine g_iinc (k := 2) (v := (v4 + 1)) [(4, .int (v4 + 1)), (2, .ref v2), (3, .int v3), (5, .int v5)] o dX6_shortest_156 rfl rfl (by decide) rfl ?_
      refine g_goto 72 o dX6_shortest_159 (by decide) ?_
      refine g_sb [1, 2, 0] rfl ?_
      exact i72 v2 v3 (v4 + 1) h hz q e
    · rw [if_neg u] at e
      refine g_iconst (v := 0) o dX6_shortest_87 (by decide) ?_
      refine g_istore [(6, .int 0), (2, .ref v2), (3, .int v3), (4, .int v4), (5, .int v5)] o dX6_shortest_88 (by decide) rfl ?_
      refine g_sb [1, 2, 3, 4, 0] rfl ?_
      exact kX6_shortest_90 f0 g72 (bX6_shortest_81 f0 g72 f1) i72 ih o f0 v2 v3 v4 v5 0 h hz q e
set_option maxRecDepth 100000 in
set_option maxHeartbeats 4000000 in
theorem kX6_shortest_72 {X : Cx} (f0 : Nat) (o : Ok X cX6_shortest RX6 8 rmX6_shortest none) (f : Nat) (v2 : Nat) (v3 : Int32) (v4 : Int32) (h : Hp) (hz : Hp) (q : Rt X none hz 0 0) (e : bX6_shortest_72 f0 f v2 v3 v4 h = some hz) : G X 8 72 [(2, .ref v2), (3, .int v3), (4, .int v4)] [] h 0 0 := by
  induction f generalizing v2 v3 v4 h hz with
  | zero => cases e
  | succ f1 ih =>
    unfold bX6_shortest_72 at e
    refine g_iload 2 o dX6_shortest_72 rfl ?_
    refine g_iload_n 1 o dX6_shortest_74 rfl rfl ?_
    refine g_icmp_ge (x := v4) (y := v3) 162 o dX6_shortest_75 (by decide) (fun u => ?_) (fun u => ?_)
    · rw [if_pos u] at e
      exact g_vret o dX6_shortest_162 (rt_0 q e)
    · rw [if_neg u] at e
      refine g_iconst (v := 0) o dX6_shortest_78 (by decide) ?_
      refine g_istore [(5, .int 0), (2, .ref v2), (3, .int v3), (4, .int v4)] o dX6_shortest_79 (by decide) rfl ?_
      refine g_sb [1, 2, 3, 0] rfl ?_
      exact kX6_shortest_81 f0 (bX6_shortest_72 f0 f1) ih o f0 v2 v3 v4 0 h hz q e
set_option maxRecDepth 100000 in
set_option maxHeartbeats 4000000 in
theorem kX6_shortest_46 {X : Cx} (f0 : Nat) (o : Ok X cX6_shortest RX6 8 rmX6_shortest none) (f : Nat) (v2 : Nat) (v3 : Int32) (v4 : Int32) (h : Hp) (hz : Hp) (q : Rt X none hz 0 0) (e : bX6_shortest_46 f0 f v2 v3 v4 h = some hz) : G X 8 46 [(2, .ref v2), (3, .int v3), (4, .int v4)] [] h 0 0 := by
  induction f generalizing v2 v3 v4 h hz with
  | zero => cases e
  | succ f1 ih =>
    unfold bX6_shortest_46 at e
    refine g_iload 2 o dX6_shortest_46 rfl ?_
    refine g_iload_n 1 o dX6_shortest_48 rfl rfl ?_
    refine g_icmp_ge (x := v4) (y := v3) 69 o dX6_shortest_49 (by decide) (fun u => ?_) (fun u => ?_)
    · rw [if_pos u] at e
      refine g_iconst (v := 0) o dX6_shortest_69 (by decide) ?_
      refine g_istore [(4, .int 0), (2, .ref v2), (3, .int v3)] o dX6_shortest_70 (by decide) rfl ?_
      refine g_sb [1, 2, 0] rfl ?_
      exact kX6_shortest_72 f0 o f0 v2 v3 0 h hz q e
    · rw [if_neg u] at e
      refine g_aload_n 0 o dX6_shortest_52 rfl rfl ?_
      refine g_iload 2 o dX6_shortest_53 rfl ?_
      refine g_bipush (v := 8) o dX6_shortest_55 (by decide) ?_
      refine g_imul (x := v4) (y := 8) o dX6_shortest_57 ?_
      refine g_iload 2 o dX6_shortest_58 rfl ?_
      refine g_iadd (x := (v4 * 8)) (y := v4) o dX6_shortest_60 ?_
      refine g_iconst (v := 0) o dX6_shortest_61 (by decide) ?_
      obtain ⟨h62, q62, e⟩ := ob e
      refine g_iast o dX6_shortest_62 q62 ?_
      refine g_iinc (k := 2) (v := (v4 + 1)) [(4, .int (v4 + 1)), (2, .ref v2), (3, .int v3)] o dX6_shortest_63 rfl rfl (by decide) rfl ?_
      refine g_goto 46 o dX6_shortest_66 (by decide) ?_
      refine g_sb [1, 2, 0] rfl ?_
      exact ih v2 v3 (v4 + 1) h62 hz q e
set_option maxRecDepth 100000 in
set_option maxHeartbeats 4000000 in
theorem kX6_shortest_10 {X : Cx} (f0 : Nat) (o : Ok X cX6_shortest RX6 8 rmX6_shortest none) (f : Nat) (v1 : Nat) (v2 : Nat) (v3 : Int32) (v4 : Int32) (h : Hp) (hz : Hp) (q : Rt X none hz 0 0) (e : bX6_shortest_10 f0 f v1 v2 v3 v4 h = some hz) : G X 8 10 [(1, .ref v1), (2, .ref v2), (3, .int v3), (4, .int v4)] [] h 0 0 := by
  induction f generalizing v1 v2 v3 v4 h hz with
  | zero => cases e
  | succ f1 ih =>
    unfold bX6_shortest_10 at e
    refine g_iload 3 o dX6_shortest_10 rfl ?_
    refine g_bipush (v := 64) o dX6_shortest_12 (by decide) ?_
    refine g_icmp_ge (x := v4) (y := 64) 43 o dX6_shortest_14 (by decide) (fun u => ?_) (fun u => ?_)
    · rw [if_pos u] at e
      refine g_iconst (v := 0) o dX6_shortest_43 (by decide) ?_
      refine g_istore [(4, .int 0), (1, .ref v1), (2, .ref v2), (3, .int v3)] o dX6_shortest_44 (by decide) rfl ?_
      refine g_sb [2, 3, 0] rfl ?_
      exact kX6_shortest_46 f0 o f0 v2 v3 0 h hz q e
    · rw [if_neg u] at e
      refine g_aload_n 1 o dX6_shortest_17 rfl rfl ?_
      refine g_iload 3 o dX6_shortest_18 rfl ?_
      refine g_aload_n 0 o dX6_shortest_20 rfl rfl ?_
      refine g_iload 3 o dX6_shortest_21 rfl ?_
      obtain ⟨x23, q23, e⟩ := ob e
      refine g_iald o dX6_shortest_23 q23 ?_
      refine g_if_ne (x := x23) 32 o dX6_shortest_24 (by decide) (fun u => ?_) (fun u => ?_)
      · rw [if_neg u] at e
        refine g_aload_n 0 o dX6_shortest_32 rfl rfl ?_
        refine g_iload 3 o dX6_shortest_33 rfl ?_
        obtain ⟨x35, q35, e⟩ := ob e
        refine g_iald o dX6_shortest_35 q35 ?_
        exact kX6_shortest_36 f0 (bX6_shortest_10 f0 f1) ih o v1 v2 v3 v4 v2 v4 x35 h hz q e
      · rw [if_pos u] at e
        refine g_ldc (v := 1000000) o dX6_shortest_27 mw_574 ?_
        refine g_goto 36 o dX6_shortest_29 (by decide) ?_
        exact kX6_shortest_36 f0 (bX6_shortest_10 f0 f1) ih o v1 v2 v3 v4 v2 v4 1000000 h hz q e
theorem yo_X6_shortest : yok yX6_shortest 2 := ⟨by decide, by decide, by decide +kernel⟩
set_option maxRecDepth 100000 in
set_option maxHeartbeats 4000000 in
theorem mX6_shortest {l : Launch} {D : va_G} {cy : Nat → ClassId} {f0 : Nat} {a : Nat} {p0 : Nat} {p1 : Nat} {h : Hp} {hz : Hp} (e : fX6_shortest f0 a p0 p1 h = some hz) : MC l D cy yX6_shortest cX6_shortest 8 none rmX6_shortest [.ref a, .ref p0, .ref p1] h none hz := by
  refine mc_of2 (by decide) (Nat.le_of_ble_eq_true rfl) (fun X hl hD hy hin o q => ?_)
  subst hl; subst hD; subst hy
  show G X 8 0 [(0, .ref a), (1, .ref p0), (2, .ref p1)] [] h 0 0
  unfold fX6_shortest at e
  refine g_aload_n 0 o dX6_shortest_0 rfl rfl ?_
  obtain ⟨x1, q1, e⟩ := ob e
  refine g_getN 1 o cf6 (by decide) mw_142 dX6_shortest_1 q1 ?_
  refine g_iconst (v := 0) o dX6_shortest_4 (by decide) ?_
  obtain ⟨x5, q5, e⟩ := ob e
  refine g_iald o dX6_shortest_5 q5 ?_
  refine g_istore_n [(3, .int x5), (0, .ref a), (1, .ref p0), (2, .ref p1)] o dX6_shortest_6 rfl (by decide) rfl ?_
  refine g_iconst (v := 0) o dX6_shortest_7 (by decide) ?_
  refine g_istore [(4, .int 0), (3, .int x5), (0, .ref a), (1, .ref p0), (2, .ref p1)] o dX6_shortest_8 (by decide) rfl ?_
  refine g_sb [3, 4, 1, 0] rfl ?_
  exact kX6_shortest_10 f0 o f0 p0 p1 x5 0 h hz q e
