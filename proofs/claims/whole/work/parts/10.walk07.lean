theorem yo_X12_lacksOf : yok yX12_lacksOf 1 := ⟨by decide, by decide, by decide +kernel⟩
set_option maxRecDepth 100000 in
set_option maxHeartbeats 4000000 in
theorem mX12_lacksOf {l : Launch} {D : va_G} {cy : Nat → ClassId} {f0 : Nat} {a : Nat} {p0 : Int32} {h : Hp} {r : Int32} {hz : Hp} (e : fX12_lacksOf f0 a p0 h = some (r, hz)) : MC l D cy yX12_lacksOf cX12_lacksOf 2 (some .int) rmX12_lacksOf [.ref a, .int p0] h (some (.int r)) hz := by
  refine mc_of2 (by decide) (Nat.le_of_ble_eq_true rfl) (fun X hl hD hy hin o q => ?_)
  show G X 2 0 [(0, .ref a), (1, .int p0)] [] h 0 0
  unfold fX12_lacksOf at e
  refine g_aload_n 0 o dX12_lacksOf_0 rfl rfl ?_
  refine g_iload_n 1 o dX12_lacksOf_1 rfl rfl ?_
  obtain ⟨_, k2, e⟩ := ob e
  obtain ⟨h2, q2, e⟩ := ob e
  refine g_callV0 [.int p0] o (mX12_casts q2) cf12 (ckO_s k2) mw_1422 mw_1423 mw_1758 mw_19 mw_1424 rfl yo_X12_casts rfl rfl (Nat.le_of_ble_eq_true rfl) ⟨by decide, by decide⟩ ⟨rfl, rfl⟩ dX12_lacksOf_2 ⟨by decide, by decide⟩ ?_
  refine g_aload_n 0 o dX12_lacksOf_5 rfl rfl ?_
  obtain ⟨x6, q6, e⟩ := ob e
  refine g_getN 25 o cf12 (by decide) mw_1211 dX12_lacksOf_6 q6 ?_
  refine g_iconst (v := 0) o dX12_lacksOf_9 (by decide) ?_
  obtain ⟨x10, q10, e⟩ := ob e
  refine g_iald o dX12_lacksOf_10 q10 ?_
  refine g_ldc_w (v := 1000000) o dX12_lacksOf_11 mw_1179 ?_
  refine g_icmp_lt (x := x10) (y := 1000000) 21 o dX12_lacksOf_14 (by decide) (fun u => ?_) (fun u => ?_)
  · rw [if_pos u] at e
    refine g_aload_n 0 o dX12_lacksOf_21 rfl rfl ?_
    obtain ⟨x22, q22, e⟩ := ob e
    refine g_getN 25 o cf12 (by decide) mw_1211 dX12_lacksOf_22 q22 ?_
    refine g_iconst (v := 0) o dX12_lacksOf_25 (by decide) ?_
    obtain ⟨x26, q26, e⟩ := ob e
    refine g_iald o dX12_lacksOf_26 q26 ?_
    exact g_iret o dX12_lacksOf_27 (rt_v q e)
  · rw [if_neg u] at e
    refine g_iconst (v := -1) o dX12_lacksOf_17 (by decide) ?_
    refine g_goto 27 o dX12_lacksOf_18 (by decide) ?_
    exact g_iret o dX12_lacksOf_27 (rt_v q e)
theorem yo_X12_late : yok yX12_late 1 := ⟨by decide, by decide, by decide +kernel⟩
set_option maxRecDepth 100000 in
set_option maxHeartbeats 4000000 in
theorem mX12_late {l : Launch} {D : va_G} {cy : Nat → ClassId} {f0 : Nat} {a : Nat} {p0 : Int32} {h : Hp} {r : Int32} {hz : Hp} (e : fX12_late f0 a p0 h = some (r, hz)) : MC l D cy yX12_late cX12_late 2 (some .int) rmX12_late [.ref a, .int p0] h (some (.int r)) hz := by
  refine mc_of2 (by decide) (Nat.le_of_ble_eq_true rfl) (fun X hl hD hy hin o q => ?_)
  show G X 2 0 [(0, .ref a), (1, .int p0)] [] h 0 0
  unfold fX12_late at e
  refine g_aload_n 0 o dX12_late_0 rfl rfl ?_
  obtain ⟨x1, q1, e⟩ := ob e
  refine g_getN 6 o cf12 (by decide) mw_1192 dX12_late_1 q1 ?_
  refine g_sipush (v := 312) o dX12_late_4 (by decide) ?_
  obtain ⟨x7, q7, e⟩ := ob e
  refine g_iald o dX12_late_7 q7 ?_
  refine g_iload_n 1 o dX12_late_8 rfl rfl ?_
  refine g_iadd (x := x7) (y := p0) o dX12_late_9 ?_
  refine g_sipush (v := 999) o dX12_late_10 (by decide) ?_
  refine g_icmp_le (x := (x7 + p0)) (y := 999) 21 o dX12_late_13 (by decide) (fun u => ?_) (fun u => ?_)
  · rw [if_pos u] at e
    refine g_iconst (v := 0) o dX12_late_21 (by decide) ?_
    exact g_iret o dX12_late_22 (rt_v q e)
  · rw [if_neg u] at e
    refine g_bipush (v := 9) o dX12_late_16 (by decide) ?_
    refine g_goto 22 o dX12_late_18 (by decide) ?_
    exact g_iret o dX12_late_22 (rt_v q e)
theorem yo_X12_whyPaint : yok yX12_whyPaint 1 := ⟨by decide, by decide, by decide +kernel⟩
set_option maxRecDepth 100000 in
set_option maxHeartbeats 4000000 in
theorem mX12_whyPaint {l : Launch} {D : va_G} {cy : Nat → ClassId} {f0 : Nat} {a : Nat} {p0 : Int32} {h : Hp} {r : Int32} {hz : Hp} (e : fX12_whyPaint f0 a p0 h = some (r, hz)) : MC l D cy yX12_whyPaint cX12_whyPaint 2 (some .int) rmX12_whyPaint [.ref a, .int p0] h (some (.int r)) hz := by
  refine mc_of2 (by decide) (Nat.le_of_ble_eq_true rfl) (fun X hl hD hy hin o q => ?_)
  show G X 2 0 [(0, .ref a), (1, .int p0)] [] h 0 0
  unfold fX12_whyPaint at e
  refine g_aload_n 0 o dX12_whyPaint_0 rfl rfl ?_
  obtain ⟨_, k1, e⟩ := ob e
  obtain ⟨x1, h1, q1, e⟩ := ob2_s e
  refine g_callVv [] o (mX12_canAct q1) cf12 (ckO_s k1) mw_1416 mw_1417 mw_1756 mw_19 mw_1418 rfl yo_X12_canAct rfl rfl (Nat.le_of_ble_eq_true rfl) ⟨by decide, by decide⟩ ⟨rfl, rfl⟩ dX12_whyPaint_1 ⟨by decide, by decide⟩ ?_
  refine g_if_ne (x := x1) 9 o dX12_whyPaint_4 (by decide) (fun u => ?_) (fun u => ?_)
  · rw [if_neg u] at e
    refine g_aload_n 0 o dX12_whyPaint_9 rfl rfl ?_
    obtain ⟨x10, q10, e⟩ := ob e
    refine g_getN 6 o cf12 (by decide) mw_1192 dX12_whyPaint_10 q10 ?_
    refine g_sipush (v := 314) o dX12_whyPaint_13 (by decide) ?_
    obtain ⟨x16, q16, e⟩ := ob e
    refine g_iald o dX12_whyPaint_16 q16 ?_
    refine g_iload_n 1 o dX12_whyPaint_17 rfl rfl ?_
    refine g_icmp_ne (x := x16) (y := p0) 23 o dX12_whyPaint_18 (by decide) (fun u => ?_) (fun u => ?_)
    · rw [if_neg u] at e
      refine g_aload_n 0 o dX12_whyPaint_23 rfl rfl ?_
      refine g_iload_n 1 o dX12_whyPaint_24 rfl rfl ?_
      obtain ⟨_, k25, e⟩ := ob e
      obtain ⟨x25, h25, q25, e⟩ := ob2_s e
      refine g_callVv [.int p0] o (mX12_lacksOf q25) cf12 (ckO_s k25) mw_1419 mw_1420 mw_1757 mw_19 mw_1421 rfl yo_X12_lacksOf rfl rfl (Nat.le_of_ble_eq_true rfl) ⟨by decide, by decide⟩ ⟨rfl, rfl⟩ dX12_whyPaint_25 ⟨by decide, by decide⟩ ?_
      refine g_if_eq (x := x25) 35 o dX12_whyPaint_28 (by decide) (fun u => ?_) (fun u => ?_)
      · rw [if_pos u] at e
        refine g_aload_n 0 o dX12_whyPaint_35 rfl rfl ?_
        refine g_iconst (v := 1) o dX12_whyPaint_36 (by decide) ?_
        obtain ⟨_, k37, e⟩ := ob e
        obtain ⟨x37, h37, q37, e⟩ := ob2_s e
        refine g_callVv [.int 1] o (mX12_late q37) cf12 (ckO_s k37) mw_1428 mw_1429 mw_1760 mw_19 mw_1430 rfl yo_X12_late rfl rfl (Nat.le_of_ble_eq_true rfl) ⟨by decide, by decide⟩ ⟨rfl, rfl⟩ dX12_whyPaint_37 ⟨by decide, by decide⟩ ?_
        exact g_iret o dX12_whyPaint_40 (rt_v q e)
      · rw [if_neg u] at e
        refine g_iconst (v := 3) o dX12_whyPaint_31 (by decide) ?_
        refine g_goto 40 o dX12_whyPaint_32 (by decide) ?_
        exact g_iret o dX12_whyPaint_40 (rt_v q e)
    · rw [if_pos u] at e
      refine g_iconst (v := 2) o dX12_whyPaint_21 (by decide) ?_
      exact g_iret o dX12_whyPaint_22 (rt_v q e)
  · rw [if_pos u] at e
    refine g_iconst (v := 1) o dX12_whyPaint_7 (by decide) ?_
    exact g_iret o dX12_whyPaint_8 (rt_v q e)
set_option maxRecDepth 100000 in
set_option maxHeartbeats 4000000 in
theorem kX12_keep_48 {X : Cx} (f0 : Nat) (o : Ok X cX12_keep RX12 2 rmX12_keep none) (f : Nat) (v0 : Nat) (v1 : Int32) (h : Hp) (hz : Hp) (q : Rt X none hz 0 0) (e : bX12_keep_48 f0 f v0 v1 h = some hz) : G X 2 48 [(0, .ref v0), (1, .int v1)] [] h 0 0 := by
  induction f generalizing v0 v1 h hz with
  | zero => cases e
  | succ f1 ih =>
    unfold bX12_keep_48 at e
    refine g_iload_n 1 o dX12_keep_48 rfl rfl ?_
    refine g_sipush (v := 153) o dX12_keep_49 (by decide) ?_
    refine g_icmp_ge (x := v1) (y := 153) 86 o dX12_keep_52 (by decide) (fun u => ?_) (fun u => ?_)
    · rw [if_pos u] at e
      refine g_aload_n 0 o dX12_keep_86 rfl rfl ?_
      refine g_dup o dX12_keep_87 rfl ?_
      obtain ⟨x88, q88, e⟩ := ob e
      refine g_getI 29 o cf12 (by decide) mw_1215 dX12_keep_88 q88 ?_
      refine g_iconst (v := 1) o dX12_keep_91 (by decide) ?_
      refine g_iadd (x := x88) (y := 1) o dX12_keep_92 ?_
      obtain ⟨h93, q93, e⟩ := ob e
      refine g_put (ty1 := .int) 29 o cf12 (by decide) mw_1215 rfl (by decide +kernel) rfl rfl dX12_keep_93 q93 ?_
      exact g_vret o dX12_keep_96 (rt_0 q e)
    · rw [if_neg u] at e
      refine g_aload_n 0 o dX12_keep_55 rfl rfl ?_
      obtain ⟨x56, q56, e⟩ := ob e
      refine g_getN 27 o cf12 (by decide) mw_1213 dX12_keep_56 q56 ?_
      refine g_sipush (v := 153) o dX12_keep_59 (by decide) ?_
      refine g_aload_n 0 o dX12_keep_62 rfl rfl ?_
      obtain ⟨x63, q63, e⟩ := ob e
      refine g_getI 29 o cf12 (by decide) mw_1215 dX12_keep_63 q63 ?_
      refine g_imul (x := (153 : Int32)) (y := x63) o dX12_keep_66 ?_
      refine g_iload_n 1 o dX12_keep_67 rfl rfl ?_
      refine g_iadd (x := ((153 : Int32) * x63)) (y := v1) o dX12_keep_68 ?_
      refine g_aload_n 0 o dX12_keep_69 rfl rfl ?_
      obtain ⟨x70, q70, e⟩ := ob e
      refine g_getN 6 o cf12 (by decide) mw_1192 dX12_keep_70 q70 ?_
      refine g_sipush (v := 312) o dX12_keep_73 (by decide) ?_
      refine g_iload_n 1 o dX12_keep_76 rfl rfl ?_
      refine g_iadd (x := (312 : Int32)) (y := v1) o dX12_keep_77 ?_
      obtain ⟨x78, q78, e⟩ := ob e
      refine g_iald o dX12_keep_78 q78 ?_
      obtain ⟨h79, q79, e⟩ := ob e
      refine g_iast o dX12_keep_79 q79 ?_
      refine g_iinc (k := 1) (v := (v1 + 1)) [(1, .int (v1 + 1)), (0, .ref v0)] o dX12_keep_80 rfl rfl (by decide) rfl ?_
      refine g_goto 48 o dX12_keep_83 (by decide) ?_
      refine g_sb [1, 0] rfl ?_
      exact ih v0 (v1 + 1) h79 hz q e
set_option maxRecDepth 100000 in
set_option maxHeartbeats 4000000 in
theorem kX12_keep_46 {X : Cx} (f0 : Nat) (o : Ok X cX12_keep RX12 2 rmX12_keep none) (v0 : Nat) (h : Hp) (hz : Hp) (q : Rt X none hz 0 0) (e : bX12_keep_46 f0 v0 h = some hz) : G X 2 46 [(0, .ref v0)] [] h 0 0 := by
  unfold bX12_keep_46 at e
  refine g_iconst (v := 0) o dX12_keep_46 (by decide) ?_
  refine g_istore_n [(1, .int 0), (0, .ref v0)] o dX12_keep_47 rfl (by decide) rfl ?_
  refine g_sb [1, 0] rfl ?_
  exact kX12_keep_48 f0 o f0 v0 0 h hz q e
set_option maxRecDepth 100000 in
set_option maxHeartbeats 4000000 in
theorem kX12_keep_11 {X : Cx} (f0 : Nat) (o : Ok X cX12_keep RX12 2 rmX12_keep none) (f : Nat) (v0 : Nat) (v1 : Int32) (h : Hp) (hz : Hp) (q : Rt X none hz 0 0) (e : bX12_keep_11 f0 f v0 v1 h = some hz) : G X 2 11 [(0, .ref v0), (1, .int v1)] [] h 0 0 := by
  induction f generalizing v0 v1 h hz with
  | zero => cases e
  | succ f1 ih =>
    unfold bX12_keep_11 at e
    refine g_iload_n 1 o dX12_keep_11 rfl rfl ?_
    refine g_sipush (v := 1071) o dX12_keep_12 (by decide) ?_
    refine g_icmp_ge (x := v1) (y := 1071) 40 o dX12_keep_15 (by decide) (fun u => ?_) (fun u => ?_)
    · rw [if_pos u] at e
      refine g_aload_n 0 o dX12_keep_40 rfl rfl ?_
      refine g_bipush (v := 7) o dX12_keep_41 (by decide) ?_
      obtain ⟨h43, q43, e⟩ := ob e
      refine g_put (ty1 := .int) 29 o cf12 (by decide) mw_1215 rfl (by decide +kernel) rfl rfl dX12_keep_43 q43 ?_
      refine g_sb [0] rfl ?_
      exact kX12_keep_46 f0 o v0 h43 hz q e
    · rw [if_neg u] at e
      refine g_aload_n 0 o dX12_keep_18 rfl rfl ?_
      obtain ⟨x19, q19, e⟩ := ob e
      refine g_getN 27 o cf12 (by decide) mw_1213 dX12_keep_19 q19 ?_
      refine g_iload_n 1 o dX12_keep_22 rfl rfl ?_
      refine g_aload_n 0 o dX12_keep_23 rfl rfl ?_
      obtain ⟨x24, q24, e⟩ := ob e
      refine g_getN 27 o cf12 (by decide) mw_1213 dX12_keep_24 q24 ?_
      refine g_iload_n 1 o dX12_keep_27 rfl rfl ?_
      refine g_sipush (v := 153) o dX12_keep_28 (by decide) ?_
      refine g_iadd (x := v1) (y := 153) o dX12_keep_31 ?_
      obtain ⟨x32, q32, e⟩ := ob e
      refine g_iald o dX12_keep_32 q32 ?_
      obtain ⟨h33, q33, e⟩ := ob e
      refine g_iast o dX12_keep_33 q33 ?_
      refine g_iinc (k := 1) (v := (v1 + 1)) [(1, .int (v1 + 1)), (0, .ref v0)] o dX12_keep_34 rfl rfl (by decide) rfl ?_
      refine g_goto 11 o dX12_keep_37 (by decide) ?_
      refine g_sb [1, 0] rfl ?_
      exact ih v0 (v1 + 1) h33 hz q e
theorem yo_X12_keep : yok yX12_keep 0 := ⟨by decide, by decide, by decide +kernel⟩
set_option maxRecDepth 100000 in
set_option maxHeartbeats 4000000 in
theorem mX12_keep {l : Launch} {D : va_G} {cy : Nat → ClassId} {f0 : Nat} {a : Nat} {h : Hp} {hz : Hp} (e : fX12_keep f0 a h = some hz) : MC l D cy yX12_keep cX12_keep 2 none rmX12_keep [.ref a] h none hz := by
  refine mc_of2 (by decide) (Nat.le_of_ble_eq_true rfl) (fun X hl hD hy hin o q => ?_)
  show G X 2 0 [(0, .ref a)] [] h 0 0
  unfold fX12_keep at e
  refine g_aload_n 0 o dX12_keep_0 rfl rfl ?_
  obtain ⟨x1, q1, e⟩ := ob e
  refine g_getI 29 o cf12 (by decide) mw_1215 dX12_keep_1 q1 ?_
  refine g_bipush (v := 8) o dX12_keep_4 (by decide) ?_
  refine g_icmp_ne (x := x1) (y := 8) 46 o dX12_keep_6 (by decide) (fun u => ?_) (fun u => ?_)
  · rw [if_neg u] at e
    exact kX12_keep_46 f0 o a h hz q e
  · rw [if_pos u] at e
    refine g_iconst (v := 0) o dX12_keep_9 (by decide) ?_
    refine g_istore_n [(1, .int 0), (0, .ref a)] o dX12_keep_10 rfl (by decide) rfl ?_
    refine g_sb [1, 0] rfl ?_
    exact kX12_keep_11 f0 o f0 a 0 h hz q e
theorem yo_X12_paints : yok yX12_paints 1 := ⟨by decide, by decide, by decide +kernel⟩
set_option maxRecDepth 100000 in
set_option maxHeartbeats 4000000 in
theorem mX12_paints {l : Launch} {D : va_G} {cy : Nat → ClassId} {f0 : Nat} {a : Nat} {p0 : Int32} {h : Hp} {hz : Hp} (e : fX12_paints f0 a p0 h = some hz) : MC l D cy yX12_paints cX12_paints 2 none rmX12_paints [.ref a, .int p0] h none hz := by
  refine mc_of2 (by decide) (Nat.le_of_ble_eq_true rfl) (fun X hl hD hy hin o q => ?_)
  show G X 2 0 [(0, .ref a), (1, .int p0)] [] h 0 0
  unfold fX12_paints at e
  refine g_aload_n 0 o dX12_paints_0 rfl rfl ?_
  obtain ⟨x1, q1, e⟩ := ob e
  refine g_getN 6 o cf12 (by decide) mw_1192 dX12_paints_1 q1 ?_
  refine g_sipush (v := 315) o dX12_paints_4 (by decide) ?_
  refine g_aload_n 0 o dX12_paints_7 rfl rfl ?_
  obtain ⟨x8, q8, e⟩ := ob e
  refine g_getN 6 o cf12 (by decide) mw_1192 dX12_paints_8 q8 ?_
  refine g_sipush (v := 314) o dX12_paints_11 (by decide) ?_
  obtain ⟨x14, q14, e⟩ := ob e
  refine g_iald o dX12_paints_14 q14 ?_
  obtain ⟨h15, q15, e⟩ := ob e
  refine g_iast o dX12_paints_15 q15 ?_
  refine g_aload_n 0 o dX12_paints_16 rfl rfl ?_
  obtain ⟨x17, q17, e⟩ := ob e
  refine g_getN 6 o cf12 (by decide) mw_1192 dX12_paints_17 q17 ?_
  refine g_sipush (v := 314) o dX12_paints_20 (by decide) ?_
  refine g_iload_n 1 o dX12_paints_23 rfl rfl ?_
  obtain ⟨h24, q24, e⟩ := ob e
  refine g_iast o dX12_paints_24 q24 ?_
  refine g_aload_n 0 o dX12_paints_25 rfl rfl ?_
  obtain ⟨x26, q26, e⟩ := ob e
  refine g_getN 6 o cf12 (by decide) mw_1192 dX12_paints_26 q26 ?_
  refine g_sipush (v := 318) o dX12_paints_29 (by decide) ?_
  refine g_dup2 o dX12_paints_32 rfl rfl ?_
  obtain ⟨x33, q33, e⟩ := ob e
  refine g_iald o dX12_paints_33 q33 ?_
  refine g_iconst (v := 1) o dX12_paints_34 (by decide) ?_
  refine g_iload_n 1 o dX12_paints_35 rfl rfl ?_
  refine g_ishl (x := (1 : Int32)) (y := p0) o dX12_paints_36 ?_
  refine g_ior (x := x33) (y := ((1 : Int32) <<< (p0 &&& 31))) o dX12_paints_37 ?_
  obtain ⟨h38, q38, e⟩ := ob e
  refine g_iast o dX12_paints_38 q38 ?_
  refine g_aload_n 0 o dX12_paints_39 rfl rfl ?_
  obtain ⟨x40, q40, e⟩ := ob e
  refine g_getN 6 o cf12 (by decide) mw_1192 dX12_paints_40 q40 ?_
  refine g_sipush (v := 312) o dX12_paints_43 (by decide) ?_
  refine g_dup2 o dX12_paints_46 rfl rfl ?_
  obtain ⟨x47, q47, e⟩ := ob e
  refine g_iald o dX12_paints_47 q47 ?_
  refine g_iconst (v := 1) o dX12_paints_48 (by decide) ?_
  refine g_iadd (x := x47) (y := 1) o dX12_paints_49 ?_
  obtain ⟨h50, q50, e⟩ := ob e
  refine g_iast o dX12_paints_50 q50 ?_
  exact g_vret o dX12_paints_51 (rt_0 q e)
theorem yo_X12_paint : yok yX12_paint 1 := ⟨by decide, by decide, by decide +kernel⟩
set_option maxRecDepth 100000 in
set_option maxHeartbeats 4000000 in
theorem mX12_paint {l : Launch} {D : va_G} {cy : Nat → ClassId} {f0 : Nat} {a : Nat} {p0 : Int32} {h : Hp} {r : Int32} {hz : Hp} (e : fX12_paint f0 a p0 h = some (r, hz)) : MC l D cy yX12_paint cX12_paint 3 (some .int) rmX12_paint [.ref a, .int p0] h (some (.int r)) hz := by
  refine mc_of2 (by decide) (Nat.le_of_ble_eq_true rfl) (fun X hl hD hy hin o q => ?_)
  show G X 3 0 [(0, .ref a), (1, .int p0)] [] h 0 0
  unfold fX12_paint at e
  refine g_aload_n 0 o dX12_paint_0 rfl rfl ?_
  refine g_iconst (v := 0) o dX12_paint_1 (by decide) ?_
  obtain ⟨h2, q2, e⟩ := ob e
  refine g_put (ty1 := .int) 0 o cf12 (by decide) mw_1186 rfl (by decide +kernel) rfl rfl dX12_paint_2 q2 ?_
  refine g_aload_n 0 o dX12_paint_5 rfl rfl ?_
  refine g_iload_n 1 o dX12_paint_6 rfl rfl ?_
  obtain ⟨_, k7, e⟩ := ob e
  obtain ⟨x7, h7, q7, e⟩ := ob2_s e
  refine g_callVv [.int p0] o (mX12_isShip q7) cf12 (ckO_s k7) mw_1399 mw_1400 mw_1753 mw_19 mw_1401 rfl yo_X12_isShip rfl rfl (Nat.le_of_ble_eq_true rfl) ⟨by decide, by decide⟩ ⟨rfl, rfl⟩ dX12_paint_7 ⟨by decide, by decide⟩ ?_
  refine g_if_ne (x := x7) 15 o dX12_paint_10 (by decide) (fun u => ?_) (fun u => ?_)
  · rw [if_neg u] at e
    refine g_aload_n 0 o dX12_paint_15 rfl rfl ?_
    refine g_iload_n 1 o dX12_paint_16 rfl rfl ?_
    obtain ⟨_, k17, e⟩ := ob e
    obtain ⟨x17, h17, q17, e⟩ := ob2_s e
    refine g_callVv [.int p0] o (mX12_whyPaint q17) cf12 (ckO_s k17) mw_1413 mw_1414 mw_1755 mw_19 mw_1415 rfl yo_X12_whyPaint rfl rfl (Nat.le_of_ble_eq_true rfl) ⟨by decide, by decide⟩ ⟨rfl, rfl⟩ dX12_paint_17 ⟨by decide, by decide⟩ ?_
    refine g_istore_n [(2, .int x17), (0, .ref a), (1, .int p0)] o dX12_paint_20 rfl (by decide) rfl ?_
    refine g_iload_n 0 o dX12_paint_21 rfl rfl ?_
    refine g_if_le (x := x17) 27 o dX12_paint_22 (by decide) (fun u => ?_) (fun u => ?_)
    · rw [if_pos u] at e
      refine g_aload_n 1 o dX12_paint_27 rfl rfl ?_
      obtain ⟨_, k28, e⟩ := ob e
      obtain ⟨h28, q28, e⟩ := ob e
      refine g_callV0 [] o (mX12_keep q28) cf12 (ckO_s k28) mw_1431 mw_1432 mw_1761 mw_19 mw_1433 rfl yo_X12_keep rfl rfl (Nat.le_of_ble_eq_true rfl) ⟨by decide, by decide⟩ ⟨rfl, rfl⟩ dX12_paint_28 ⟨by decide, by decide⟩ ?_
      refine g_aload_n 1 o dX12_paint_31 rfl rfl ?_
      refine g_iload_n 2 o dX12_paint_32 rfl rfl ?_
      obtain ⟨_, k33, e⟩ := ob e
      obtain ⟨h33, q33, e⟩ := ob e
      refine g_callV0 [.int p0] o (mX12_paints q33) cf12 (ckO_s k33) mw_1434 mw_1435 mw_1762 mw_19 mw_1436 rfl yo_X12_paints rfl rfl (Nat.le_of_ble_eq_true rfl) ⟨by decide, by decide⟩ ⟨rfl, rfl⟩ dX12_paint_33 ⟨by decide, by decide⟩ ?_
      refine g_iconst (v := 0) o dX12_paint_36 (by decide) ?_
      exact g_iret o dX12_paint_37 (rt_v q e)
    · rw [if_neg u] at e
      refine g_iload_n 0 o dX12_paint_25 rfl rfl ?_
      exact g_iret o dX12_paint_26 (rt_v q e)
  · rw [if_pos u] at e
    refine g_iconst (v := -1) o dX12_paint_13 (by decide) ?_
    exact g_iret o dX12_paint_14 (rt_v q e)
theorem yo_X12_whySail : yok yX12_whySail 1 := ⟨by decide, by decide, by decide +kernel⟩
set_option maxRecDepth 100000 in
set_option maxHeartbeats 4000000 in
theorem mX12_whySail {l : Launch} {D : va_G} {cy : Nat → ClassId} {f0 : Nat} {a : Nat} {p0 : Int32} {h : Hp} {r : Int32} {hz : Hp} (e : fX12_whySail f0 a p0 h = some (r, hz)) : MC l D cy yX12_whySail cX12_whySail 3 (some .int) rmX12_whySail [.ref a, .int p0] h (some (.int r)) hz := by
  refine mc_of2 (by decide) (Nat.le_of_ble_eq_true rfl) (fun X hl hD hy hin o q => ?_)
  show G X 3 0 [(0, .ref a), (1, .int p0)] [] h 0 0
  unfold fX12_whySail at e
  refine g_aload_n 0 o dX12_whySail_0 rfl rfl ?_
  obtain ⟨_, k1, e⟩ := ob e
  obtain ⟨x1, h1, q1, e⟩ := ob2_s e
  refine g_callVv [] o (mX12_canAct q1) cf12 (ckO_s k1) mw_1416 mw_1417 mw_1756 mw_19 mw_1418 rfl yo_X12_canAct rfl rfl (Nat.le_of_ble_eq_true rfl) ⟨by decide, by decide⟩ ⟨rfl, rfl⟩ dX12_whySail_1 ⟨by decide, by decide⟩ ?_
  refine g_if_ne (x := x1) 9 o dX12_whySail_4 (by decide) (fun u => ?_) (fun u => ?_)
  · rw [if_neg u] at e
    refine g_aload_n 0 o dX12_whySail_9 rfl rfl ?_
    obtain ⟨x10, q10, e⟩ := ob e
    refine g_getN 6 o cf12 (by decide) mw_1192 dX12_whySail_10 q10 ?_
    refine g_bipush (v := 8) o dX12_whySail_13 (by decide) ?_
    refine g_aload_n 0 o dX12_whySail_15 rfl rfl ?_
    obtain ⟨x16, q16, e⟩ := ob e
    refine g_getN 6 o cf12 (by decide) mw_1192 dX12_whySail_16 q16 ?_
    refine g_sipush (v := 313) o dX12_whySail_19 (by decide) ?_
    obtain ⟨x22, q22, e⟩ := ob e
    refine g_iald o dX12_whySail_22 q22 ?_
    refine g_iload_n 1 o dX12_whySail_23 rfl rfl ?_
    obtain ⟨x24, h24, q24, e⟩ := ob2_s e
    refine g_callSv [.int x22, .int p0] o (mX12_cell q24) mw_1180 mw_1181 mw_19 mw_1182 yo_X12_cell rfl rfl (Nat.le_of_ble_eq_true rfl) ⟨by decide, by decide⟩ ⟨rfl, rfl⟩ dX12_whySail_24 ⟨by decide, by decide⟩ ?_
    refine g_iadd (x := (8 : Int32)) (y := x24) o dX12_whySail_27 ?_
    obtain ⟨x28, q28, e⟩ := ob e
    refine g_iald o dX12_whySail_28 q28 ?_
    refine g_istore_n [(2, .int x28), (0, .ref a), (1, .int p0)] o dX12_whySail_29 rfl (by decide) rfl ?_
    refine g_iload_n 0 o dX12_whySail_30 rfl rfl ?_
    refine g_if_ne (x := x28) 38 o dX12_whySail_31 (by decide) (fun u => ?_) (fun u => ?_)
    · rw [if_neg u] at e
      refine g_aload_n 1 o dX12_whySail_38 rfl rfl ?_
      refine g_iload_n 0 o dX12_whySail_39 rfl rfl ?_
      obtain ⟨_, k40, e⟩ := ob e
      obtain ⟨x40, h40, q40, e⟩ := ob2_s e
      refine g_callVv [.int x28] o (mX12_late q40) cf12 (ckO_s k40) mw_1428 mw_1429 mw_1760 mw_19 mw_1430 rfl yo_X12_late rfl rfl (Nat.le_of_ble_eq_true rfl) ⟨by decide, by decide⟩ ⟨rfl, rfl⟩ dX12_whySail_40 ⟨by decide, by decide⟩ ?_
      exact g_iret o dX12_whySail_43 (rt_v q e)
    · rw [if_pos u] at e
      refine g_iconst (v := 2) o dX12_whySail_34 (by decide) ?_
      refine g_goto 43 o dX12_whySail_35 (by decide) ?_
      exact g_iret o dX12_whySail_43 (rt_v q e)
  · rw [if_pos u] at e
    refine g_iconst (v := 1) o dX12_whySail_7 (by decide) ?_
    exact g_iret o dX12_whySail_8 (rt_v q e)
set_option maxRecDepth 100000 in
set_option maxHeartbeats 4000000 in
theorem kX12_learnsName_34 {X : Cx} (f0 : Nat) (o : Ok X cX12_learnsName RX12 5 rmX12_learnsName none) (v0 : Nat) (v3 : Int32) (v4 : Int32) (h : Hp) (hz : Hp) (q : Rt X none hz 0 0) (e : bX12_learnsName_34 f0 v0 v3 v4 h = some hz) : G X 5 34 [(0, .ref v0), (3, .int v3), (4, .int v4)] [] h 0 0 := by
  unfold bX12_learnsName_34 at e
  refine g_aload_n 0 o dX12_learnsName_34 rfl rfl ?_
  obtain ⟨x35, q35, e⟩ := ob e
  refine g_getN 6 o cf12 (by decide) mw_1192 dX12_learnsName_35 q35 ?_
  refine g_iload 2 o dX12_learnsName_38 rfl ?_
  refine g_iload_n 1 o dX12_learnsName_40 rfl rfl ?_
  refine g_iconst (v := 1) o dX12_learnsName_41 (by decide) ?_
  refine g_iadd (x := v3) (y := 1) o dX12_learnsName_42 ?_
  obtain ⟨h43, q43, e⟩ := ob e
  refine g_iast o dX12_learnsName_43 q43 ?_
  exact g_vret o dX12_learnsName_44 (rt_0 q e)
theorem yo_X12_learnsName : yok yX12_learnsName 3 := ⟨by decide, by decide, by decide +kernel⟩
set_option maxRecDepth 100000 in
set_option maxHeartbeats 4000000 in
theorem mX12_learnsName {l : Launch} {D : va_G} {cy : Nat → ClassId} {f0 : Nat} {a : Nat} {p0 : Int32} {p1 : Int32} {p2 : Int32} {h : Hp} {hz : Hp} (e : fX12_learnsName f0 a p0 p1 p2 h = some hz) : MC l D cy yX12_learnsName cX12_learnsName 5 none rmX12_learnsName [.ref a, .int p0, .int p1, .int p2] h none hz := by
  refine mc_of2 (by decide) (Nat.le_of_ble_eq_true rfl) (fun X hl hD hy hin o q => ?_)
  show G X 5 0 [(0, .ref a), (1, .int p0), (2, .int p1), (3, .int p2)] [] h 0 0
  unfold fX12_learnsName at e
  refine g_sipush (v := 336) o dX12_learnsName_0 (by decide) ?_
  refine g_iload_n 2 o dX12_learnsName_3 rfl rfl ?_
  refine g_iload_n 1 o dX12_learnsName_4 rfl rfl ?_
  obtain ⟨x5, h5, q5, e⟩ := ob2_s e
  refine g_callSv [.int p1, .int p0] o (mX12_cell q5) mw_1180 mw_1181 mw_19 mw_1182 yo_X12_cell rfl rfl (Nat.le_of_ble_eq_true rfl) ⟨by decide, by decide⟩ ⟨rfl, rfl⟩ dX12_learnsName_5 ⟨by decide, by decide⟩ ?_
  refine g_iadd (x := (336 : Int32)) (y := x5) o dX12_learnsName_8 ?_
  refine g_istore [(4, .int ((336 : Int32) + x5)), (0, .ref a), (1, .int p0), (2, .int p1), (3, .int p2)] o dX12_learnsName_9 (by decide) rfl ?_
  refine g_aload_n 1 o dX12_learnsName_11 rfl rfl ?_
  obtain ⟨x12, q12, e⟩ := ob e
  refine g_getN 6 o cf12 (by decide) mw_1192 dX12_learnsName_12 q12 ?_
  refine g_iload 0 o dX12_learnsName_15 rfl ?_
  obtain ⟨x17, q17, e⟩ := ob e
  refine g_iald o dX12_learnsName_17 q17 ?_
  refine g_if_eq (x := x17) 34 o dX12_learnsName_18 (by decide) (fun u => ?_) (fun u => ?_)
  · rw [if_pos u] at e
    refine g_sb [1, 4, 0] rfl ?_
    exact kX12_learnsName_34 f0 o a p2 ((336 : Int32) + x5) h5 hz q e
  · rw [if_neg u] at e
    refine g_aload_n 1 o dX12_learnsName_21 rfl rfl ?_
    obtain ⟨x22, q22, e⟩ := ob e
    refine g_getN 6 o cf12 (by decide) mw_1192 dX12_learnsName_22 q22 ?_
    refine g_iload 0 o dX12_learnsName_25 rfl ?_
    obtain ⟨x27, q27, e⟩ := ob e
    refine g_iald o dX12_learnsName_27 q27 ?_
    refine g_iload_n 4 o dX12_learnsName_28 rfl rfl ?_
    refine g_iconst (v := 1) o dX12_learnsName_29 (by decide) ?_
    refine g_iadd (x := p2) (y := 1) o dX12_learnsName_30 ?_
    refine g_icmp_le (x := x27) (y := (p2 + 1)) 44 o dX12_learnsName_31 (by decide) (fun u => ?_) (fun u => ?_)
    · rw [if_pos u] at e
      exact g_vret o dX12_learnsName_44 (rt_0 q e)
    · rw [if_neg u] at e
      refine g_sb [1, 4, 0] rfl ?_
      exact kX12_learnsName_34 f0 o a p2 ((336 : Int32) + x5) h5 hz q e
set_option maxRecDepth 100000 in
set_option maxHeartbeats 4000000 in
theorem kX12_sails_115 {X : Cx} (f0 : Nat) (o : Ok X cX12_sails RX12 3 rmX12_sails none) (f : Nat) (v0 : Nat) (v1 : Int32) (v2 : Int32) (h : Hp) (hz : Hp) (q : Rt X none hz 0 0) (e : bX12_sails_115 f0 f v0 v1 v2 h = some hz) : G X 3 115 [(0, .ref v0), (1, .int v1), (2, .int v2)] [] h 0 0 := by
  induction f generalizing v0 v1 v2 h hz with
  | zero => cases e
  | succ f1 ih =>
    unfold bX12_sails_115 at e
    refine g_iload_n 2 o dX12_sails_115 rfl rfl ?_
    refine g_aload_n 0 o dX12_sails_116 rfl rfl ?_
    obtain ⟨x117, q117, e⟩ := ob e
    refine g_getN 6 o cf12 (by decide) mw_1192 dX12_sails_117 q117 ?_
    refine g_iconst (v := 1) o dX12_sails_120 (by decide) ?_
    obtain ⟨x121, q121, e⟩ := ob e
    refine g_iald o dX12_sails_121 q121 ?_
    refine g_icmp_ge (x := v2) (y := x121) 156 o dX12_sails_122 (by decide) (fun u => ?_) (fun u => ?_)
    · rw [if_pos u] at e
      exact g_vret o dX12_sails_156 (rt_0 q e)
    · rw [if_neg u] at e
      refine g_aload_n 0 o dX12_sails_125 rfl rfl ?_
      obtain ⟨x126, q126, e⟩ := ob e
      refine g_getN 6 o cf12 (by decide) mw_1192 dX12_sails_126 q126 ?_
      refine g_sipush (v := 316) o dX12_sails_129 (by decide) ?_
      refine g_dup2 o dX12_sails_132 rfl rfl ?_
      obtain ⟨x133, q133, e⟩ := ob e
      refine g_iald o dX12_sails_133 q133 ?_
      refine g_aload_n 0 o dX12_sails_134 rfl rfl ?_
      obtain ⟨x135, q135, e⟩ := ob e
      refine g_getN 6 o cf12 (by decide) mw_1192 dX12_sails_135 q135 ?_
      refine g_sipush (v := 136) o dX12_sails_138 (by decide) ?_
      refine g_iload_n 2 o dX12_sails_141 rfl rfl ?_
      refine g_iload_n 1 o dX12_sails_142 rfl rfl ?_
      obtain ⟨x143, h143, q143, e⟩ := ob2_s e
      refine g_callSv [.int v2, .int v1] o (mX12_cell q143) mw_1180 mw_1181 mw_19 mw_1182 yo_X12_cell rfl rfl (Nat.le_of_ble_eq_true rfl) ⟨by decide, by decide⟩ ⟨rfl, rfl⟩ dX12_sails_143 ⟨by decide, by decide⟩ ?_
      refine g_iadd (x := (136 : Int32)) (y := x143) o dX12_sails_146 ?_
      obtain ⟨x147, q147, e⟩ := ob e
      refine g_iald o dX12_sails_147 q147 ?_
      refine g_isub (x := x133) (y := x147) o dX12_sails_148 ?_
      obtain ⟨h149, q149, e⟩ := ob e
      refine g_iast o dX12_sails_149 q149 ?_
      refine g_iinc (k := 2) (v := (v2 + 1)) [(2, .int (v2 + 1)), (0, .ref v0), (1, .int v1)] o dX12_sails_150 rfl rfl (by decide) rfl ?_
      refine g_goto 115 o dX12_sails_153 (by decide) ?_
      refine g_sb [1, 2, 0] rfl ?_
      exact ih v0 v1 (v2 + 1) h149 hz q e
theorem yo_X12_sails : yok yX12_sails 1 := ⟨by decide, by decide, by decide +kernel⟩
set_option maxRecDepth 100000 in
set_option maxHeartbeats 4000000 in
theorem mX12_sails {l : Launch} {D : va_G} {cy : Nat → ClassId} {f0 : Nat} {a : Nat} {p0 : Int32} {h : Hp} {hz : Hp} (e : fX12_sails f0 a p0 h = some hz) : MC l D cy yX12_sails cX12_sails 3 none rmX12_sails [.ref a, .int p0] h none hz := by
  refine mc_of2 (by decide) (Nat.le_of_ble_eq_true rfl) (fun X hl hD hy hin o q => ?_)
  show G X 3 0 [(0, .ref a), (1, .int p0)] [] h 0 0
  unfold fX12_sails at e
  refine g_aload_n 0 o dX12_sails_0 rfl rfl ?_
  obtain ⟨x1, q1, e⟩ := ob e
  refine g_getN 6 o cf12 (by decide) mw_1192 dX12_sails_1 q1 ?_
  refine g_sipush (v := 312) o dX12_sails_4 (by decide) ?_
  refine g_dup2 o dX12_sails_7 rfl rfl ?_
  obtain ⟨x8, q8, e⟩ := ob e
  refine g_iald o dX12_sails_8 q8 ?_
  refine g_aload_n 0 o dX12_sails_9 rfl rfl ?_
  obtain ⟨x10, q10, e⟩ := ob e
  refine g_getN 6 o cf12 (by decide) mw_1192 dX12_sails_10 q10 ?_
  refine g_bipush (v := 8) o dX12_sails_13 (by decide) ?_
  refine g_aload_n 0 o dX12_sails_15 rfl rfl ?_
  obtain ⟨x16, q16, e⟩ := ob e
  refine g_getN 6 o cf12 (by decide) mw_1192 dX12_sails_16 q16 ?_
  refine g_sipush (v := 313) o dX12_sails_19 (by decide) ?_
  obtain ⟨x22, q22, e⟩ := ob e
  refine g_iald o dX12_sails_22 q22 ?_
  refine g_iload_n 1 o dX12_sails_23 rfl rfl ?_
  obtain ⟨x24, h24, q24, e⟩ := ob2_s e
  refine g_callSv [.int x22, .int p0] o (mX12_cell q24) mw_1180 mw_1181 mw_19 mw_1182 yo_X12_cell rfl rfl (Nat.le_of_ble_eq_true rfl) ⟨by decide, by decide⟩ ⟨rfl, rfl⟩ dX12_sails_24 ⟨by decide, by decide⟩ ?_
  refine g_iadd (x := (8 : Int32)) (y := x24) o dX12_sails_27 ?_
  obtain ⟨x28, q28, e⟩ := ob e
  refine g_iald o dX12_sails_28 q28 ?_
  refine g_iadd (x := x8) (y := x28) o dX12_sails_29 ?_
  obtain ⟨h30, q30, e⟩ := ob e
  refine g_iast o dX12_sails_30 q30 ?_
  refine g_aload_n 0 o dX12_sails_31 rfl rfl ?_
  obtain ⟨x32, q32, e⟩ := ob e
  refine g_getN 6 o cf12 (by decide) mw_1192 dX12_sails_32 q32 ?_
  refine g_sipush (v := 313) o dX12_sails_35 (by decide) ?_
  refine g_iload_n 1 o dX12_sails_38 rfl rfl ?_
  obtain ⟨h39, q39, e⟩ := ob e
  refine g_iast o dX12_sails_39 q39 ?_
  refine g_aload_n 0 o dX12_sails_40 rfl rfl ?_
  obtain ⟨x41, q41, e⟩ := ob e
  refine g_getN 6 o cf12 (by decide) mw_1192 dX12_sails_41 q41 ?_
  refine g_sipush (v := 320) o dX12_sails_44 (by decide) ?_
  refine g_iload_n 1 o dX12_sails_47 rfl rfl ?_
  refine g_iadd (x := (320 : Int32)) (y := p0) o dX12_sails_48 ?_
  refine g_dup2 o dX12_sails_49 rfl rfl ?_
  obtain ⟨x50, q50, e⟩ := ob e
  refine g_iald o dX12_sails_50 q50 ?_
  refine g_iconst (v := 1) o dX12_sails_51 (by decide) ?_
  refine g_iadd (x := x50) (y := 1) o dX12_sails_52 ?_
  obtain ⟨h53, q53, e⟩ := ob e
  refine g_iast o dX12_sails_53 q53 ?_
  refine g_aload_n 0 o dX12_sails_54 rfl rfl ?_
  obtain ⟨x55, q55, e⟩ := ob e
  refine g_getN 6 o cf12 (by decide) mw_1192 dX12_sails_55 q55 ?_
  refine g_sipush (v := 464) o dX12_sails_58 (by decide) ?_
  refine g_dup2 o dX12_sails_61 rfl rfl ?_
  obtain ⟨x62, q62, e⟩ := ob e
  refine g_iald o dX12_sails_62 q62 ?_
  refine g_iconst (v := 1) o dX12_sails_63 (by decide) ?_
  refine g_iload_n 1 o dX12_sails_64 rfl rfl ?_
  refine g_ishl (x := (1 : Int32)) (y := p0) o dX12_sails_65 ?_
  refine g_ior (x := x62) (y := ((1 : Int32) <<< (p0 &&& 31))) o dX12_sails_66 ?_
  obtain ⟨h67, q67, e⟩ := ob e
  refine g_iast o dX12_sails_67 q67 ?_
  refine g_aload_n 0 o dX12_sails_68 rfl rfl ?_
  obtain ⟨x69, q69, e⟩ := ob e
  refine g_getN 6 o cf12 (by decide) mw_1192 dX12_sails_69 q69 ?_
  refine g_sipush (v := 319) o dX12_sails_72 (by decide) ?_
  refine g_dup2 o dX12_sails_75 rfl rfl ?_
  obtain ⟨x76, q76, e⟩ := ob e
  refine g_iald o dX12_sails_76 q76 ?_
  refine g_iconst (v := 1) o dX12_sails_77 (by decide) ?_
  refine g_iadd (x := x76) (y := 1) o dX12_sails_78 ?_
  obtain ⟨h79, q79, e⟩ := ob e
  refine g_iast o dX12_sails_79 q79 ?_
  refine g_aload_n 0 o dX12_sails_80 rfl rfl ?_
  refine g_iload_n 1 o dX12_sails_81 rfl rfl ?_
  refine g_aload_n 0 o dX12_sails_82 rfl rfl ?_
  obtain ⟨x83, q83, e⟩ := ob e
  refine g_getN 6 o cf12 (by decide) mw_1192 dX12_sails_83 q83 ?_
  refine g_sipush (v := 314) o dX12_sails_86 (by decide) ?_
  obtain ⟨x89, q89, e⟩ := ob e
  refine g_iald o dX12_sails_89 q89 ?_
  obtain ⟨_, k90, e⟩ := ob e
  obtain ⟨x90, h90, q90, e⟩ := ob2_s e
  refine g_callVv [.int p0, .int x89] o (mX12_knowsFrom q90) cf12 (ckO_s k90) mw_1378 mw_1379 mw_1750 mw_19 mw_1380 rfl yo_X12_knowsFrom rfl rfl (Nat.le_of_ble_eq_true rfl) ⟨by decide, by decide⟩ ⟨rfl, rfl⟩ dX12_sails_90 ⟨by decide, by decide⟩ ?_
  refine g_aload_n 0 o dX12_sails_93 rfl rfl ?_
  obtain ⟨x94, q94, e⟩ := ob e
  refine g_getN 6 o cf12 (by decide) mw_1192 dX12_sails_94 q94 ?_
  refine g_sipush (v := 312) o dX12_sails_97 (by decide) ?_
  obtain ⟨x100, q100, e⟩ := ob e
  refine g_iald o dX12_sails_100 q100 ?_
  refine g_icmp_gt (x := x90) (y := x100) 157 o dX12_sails_101 (by decide) (fun u => ?_) (fun u => ?_)
  · rw [if_pos u] at e
    refine g_aload_n 0 o dX12_sails_157 rfl rfl ?_
    obtain ⟨x158, q158, e⟩ := ob e
    refine g_getN 6 o cf12 (by decide) mw_1192 dX12_sails_158 q158 ?_
    refine g_sipush (v := 315) o dX12_sails_161 (by decide) ?_
    obtain ⟨x164, q164, e⟩ := ob e
    refine g_iald o dX12_sails_164 q164 ?_
    refine g_if_lt (x := x164) 184 o dX12_sails_165 (by decide) (fun u => ?_) (fun u => ?_)
    · rw [if_pos u] at e
      exact g_vret o dX12_sails_184 (rt_0 q e)
    · rw [if_neg u] at e
      refine g_aload_n 0 o dX12_sails_168 rfl rfl ?_
      refine g_iload_n 1 o dX12_sails_169 rfl rfl ?_
      refine g_aload_n 0 o dX12_sails_170 rfl rfl ?_
      obtain ⟨x171, q171, e⟩ := ob e
      refine g_getN 6 o cf12 (by decide) mw_1192 dX12_sails_171 q171 ?_
      refine g_sipush (v := 312) o dX12_sails_174 (by decide) ?_
      obtain ⟨x177, q177, e⟩ := ob e
      refine g_iald o dX12_sails_177 q177 ?_
      obtain ⟨_, k178, e⟩ := ob e
      obtain ⟨x178, h178, q178, e⟩ := ob2_s e
      refine g_callVv [.int p0, .int x177] o (mX12_isRain q178) cf12 (ckO_s k178) mw_1381 mw_1382 mw_1751 mw_19 mw_1383 rfl yo_X12_isRain rfl rfl (Nat.le_of_ble_eq_true rfl) ⟨by decide, by decide⟩ ⟨rfl, rfl⟩ dX12_sails_178 ⟨by decide, by decide⟩ ?_
      refine g_if_ne (x := x178) 185 o dX12_sails_181 (by decide) (fun u => ?_) (fun u => ?_)
      · rw [if_neg u] at e
        refine g_aload_n 0 o dX12_sails_185 rfl rfl ?_
        refine g_iload_n 1 o dX12_sails_186 rfl rfl ?_
        refine g_aload_n 0 o dX12_sails_187 rfl rfl ?_
        obtain ⟨x188, q188, e⟩ := ob e
        refine g_getN 6 o cf12 (by decide) mw_1192 dX12_sails_188 q188 ?_
        refine g_sipush (v := 314) o dX12_sails_191 (by decide) ?_
        obtain ⟨x194, q194, e⟩ := ob e
        refine g_iald o dX12_sails_194 q194 ?_
        refine g_aload_n 0 o dX12_sails_195 rfl rfl ?_
        obtain ⟨x196, q196, e⟩ := ob e
        refine g_getN 6 o cf12 (by decide) mw_1192 dX12_sails_196 q196 ?_
        refine g_sipush (v := 312) o dX12_sails_199 (by decide) ?_
        obtain ⟨x202, q202, e⟩ := ob e
        refine g_iald o dX12_sails_202 q202 ?_
        obtain ⟨_, k203, e⟩ := ob e
        obtain ⟨h203, q203, e⟩ := ob e
        refine g_callV0 [.int p0, .int x194, .int x202] o (mX12_learnsName q203) cf12 (ckO_s k203) mw_1447 mw_1448 mw_1765 mw_19 mw_1449 rfl yo_X12_learnsName rfl rfl (Nat.le_of_ble_eq_true rfl) ⟨by decide, by decide⟩ ⟨rfl, rfl⟩ dX12_sails_203 ⟨by decide, by decide⟩ ?_
        refine g_aload_n 0 o dX12_sails_206 rfl rfl ?_
        refine g_iload_n 1 o dX12_sails_207 rfl rfl ?_
        refine g_aload_n 0 o dX12_sails_208 rfl rfl ?_
        obtain ⟨x209, q209, e⟩ := ob e
        refine g_getN 6 o cf12 (by decide) mw_1192 dX12_sails_209 q209 ?_
        refine g_sipush (v := 315) o dX12_sails_212 (by decide) ?_
        obtain ⟨x215, q215, e⟩ := ob e
        refine g_iald o dX12_sails_215 q215 ?_
        refine g_aload_n 0 o dX12_sails_216 rfl rfl ?_
        obtain ⟨x217, q217, e⟩ := ob e
        refine g_getN 6 o cf12 (by decide) mw_1192 dX12_sails_217 q217 ?_
        refine g_sipush (v := 312) o dX12_sails_220 (by decide) ?_
        obtain ⟨x223, q223, e⟩ := ob e
        refine g_iald o dX12_sails_223 q223 ?_
        obtain ⟨_, k224, e⟩ := ob e
        obtain ⟨h224, q224, e⟩ := ob e
        refine g_callV0 [.int p0, .int x215, .int x223] o (mX12_learnsName q224) cf12 (ckO_s k224) mw_1447 mw_1448 mw_1765 mw_19 mw_1449 rfl yo_X12_learnsName rfl rfl (Nat.le_of_ble_eq_true rfl) ⟨by decide, by decide⟩ ⟨rfl, rfl⟩ dX12_sails_224 ⟨by decide, by decide⟩ ?_
        exact g_vret o dX12_sails_227 (rt_0 q e)
      · rw [if_pos u] at e
        exact g_vret o dX12_sails_184 (rt_0 q e)
  · rw [if_neg u] at e
    refine g_aload_n 0 o dX12_sails_104 rfl rfl ?_
    obtain ⟨x105, q105, e⟩ := ob e
    refine g_getN 6 o cf12 (by decide) mw_1192 dX12_sails_105 q105 ?_
    refine g_sipush (v := 317) o dX12_sails_108 (by decide) ?_
    refine g_iconst (v := 1) o dX12_sails_111 (by decide) ?_
    obtain ⟨h112, q112, e⟩ := ob e
    refine g_iast o dX12_sails_112 q112 ?_
    refine g_iconst (v := 0) o dX12_sails_113 (by decide) ?_
    refine g_istore_n [(2, .int 0), (0, .ref a), (1, .int p0)] o dX12_sails_114 rfl (by decide) rfl ?_
    refine g_sb [1, 2, 0] rfl ?_
    exact kX12_sails_115 f0 o f0 a p0 0 h112 hz q e
theorem yo_X12_sail : yok yX12_sail 1 := ⟨by decide, by decide, by decide +kernel⟩
set_option maxRecDepth 100000 in
set_option maxHeartbeats 4000000 in
theorem mX12_sail {l : Launch} {D : va_G} {cy : Nat → ClassId} {f0 : Nat} {a : Nat} {p0 : Int32} {h : Hp} {r : Int32} {hz : Hp} (e : fX12_sail f0 a p0 h = some (r, hz)) : MC l D cy yX12_sail cX12_sail 3 (some .int) rmX12_sail [.ref a, .int p0] h (some (.int r)) hz := by
  refine mc_of2 (by decide) (Nat.le_of_ble_eq_true rfl) (fun X hl hD hy hin o q => ?_)
  show G X 3 0 [(0, .ref a), (1, .int p0)] [] h 0 0
  unfold fX12_sail at e
  refine g_aload_n 0 o dX12_sail_0 rfl rfl ?_
  refine g_iconst (v := 0) o dX12_sail_1 (by decide) ?_
  obtain ⟨h2, q2, e⟩ := ob e
  refine g_put (ty1 := .int) 0 o cf12 (by decide) mw_1186 rfl (by decide +kernel) rfl rfl dX12_sail_2 q2 ?_
  refine g_aload_n 0 o dX12_sail_5 rfl rfl ?_
  refine g_iload_n 1 o dX12_sail_6 rfl rfl ?_
  obtain ⟨_, k7, e⟩ := ob e
  obtain ⟨x7, h7, q7, e⟩ := ob2_s e
  refine g_callVv [.int p0] o (mX12_isPort q7) cf12 (ckO_s k7) mw_1369 mw_1370 mw_1747 mw_19 mw_1371 rfl yo_X12_isPort rfl rfl (Nat.le_of_ble_eq_true rfl) ⟨by decide, by decide⟩ ⟨rfl, rfl⟩ dX12_sail_7 ⟨by decide, by decide⟩ ?_
  refine g_if_ne (x := x7) 15 o dX12_sail_10 (by decide) (fun u => ?_) (fun u => ?_)
  · rw [if_neg u] at e
    refine g_aload_n 0 o dX12_sail_15 rfl rfl ?_
    refine g_iload_n 1 o dX12_sail_16 rfl rfl ?_
    obtain ⟨_, k17, e⟩ := ob e
    obtain ⟨x17, h17, q17, e⟩ := ob2_s e
    refine g_callVv [.int p0] o (mX12_whySail q17) cf12 (ckO_s k17) mw_1441 mw_1442 mw_1763 mw_19 mw_1443 rfl yo_X12_whySail rfl rfl (Nat.le_of_ble_eq_true rfl) ⟨by decide, by decide⟩ ⟨rfl, rfl⟩ dX12_sail_17 ⟨by decide, by decide⟩ ?_
    refine g_istore_n [(2, .int x17), (0, .ref a), (1, .int p0)] o dX12_sail_20 rfl (by decide) rfl ?_
    refine g_iload_n 0 o dX12_sail_21 rfl rfl ?_
    refine g_if_le (x := x17) 27 o dX12_sail_22 (by decide) (fun u => ?_) (fun u => ?_)
    · rw [if_pos u] at e
      refine g_aload_n 1 o dX12_sail_27 rfl rfl ?_
      obtain ⟨_, k28, e⟩ := ob e
      obtain ⟨h28, q28, e⟩ := ob e
      refine g_callV0 [] o (mX12_keep q28) cf12 (ckO_s k28) mw_1431 mw_1432 mw_1761 mw_19 mw_1433 rfl yo_X12_keep rfl rfl (Nat.le_of_ble_eq_true rfl) ⟨by decide, by decide⟩ ⟨rfl, rfl⟩ dX12_sail_28 ⟨by decide, by decide⟩ ?_
      refine g_aload_n 1 o dX12_sail_31 rfl rfl ?_
      refine g_iload_n 2 o dX12_sail_32 rfl rfl ?_
      obtain ⟨_, k33, e⟩ := ob e
      obtain ⟨h33, q33, e⟩ := ob e
      refine g_callV0 [.int p0] o (mX12_sails q33) cf12 (ckO_s k33) mw_1444 mw_1445 mw_1764 mw_19 mw_1446 rfl yo_X12_sails rfl rfl (Nat.le_of_ble_eq_true rfl) ⟨by decide, by decide⟩ ⟨rfl, rfl⟩ dX12_sail_33 ⟨by decide, by decide⟩ ?_
      refine g_iconst (v := 0) o dX12_sail_36 (by decide) ?_
      exact g_iret o dX12_sail_37 (rt_v q e)
    · rw [if_neg u] at e
      refine g_iload_n 0 o dX12_sail_25 rfl rfl ?_
      exact g_iret o dX12_sail_26 (rt_v q e)
  · rw [if_pos u] at e
    refine g_iconst (v := -1) o dX12_sail_13 (by decide) ?_
    exact g_iret o dX12_sail_14 (rt_v q e)
theorem yo_X12_whyWait : yok yX12_whyWait 1 := ⟨by decide, by decide, by decide +kernel⟩
set_option maxRecDepth 100000 in
set_option maxHeartbeats 4000000 in
theorem mX12_whyWait {l : Launch} {D : va_G} {cy : Nat → ClassId} {f0 : Nat} {a : Nat} {p0 : Int32} {h : Hp} {r : Int32} {hz : Hp} (e : fX12_whyWait f0 a p0 h = some (r, hz)) : MC l D cy yX12_whyWait cX12_whyWait 2 (some .int) rmX12_whyWait [.ref a, .int p0] h (some (.int r)) hz := by
  refine mc_of2 (by decide) (Nat.le_of_ble_eq_true rfl) (fun X hl hD hy hin o q => ?_)
  show G X 2 0 [(0, .ref a), (1, .int p0)] [] h 0 0
  unfold fX12_whyWait at e
  refine g_aload_n 0 o dX12_whyWait_0 rfl rfl ?_
  obtain ⟨_, k1, e⟩ := ob e
  obtain ⟨x1, h1, q1, e⟩ := ob2_s e
  refine g_callVv [] o (mX12_canAct q1) cf12 (ckO_s k1) mw_1416 mw_1417 mw_1756 mw_19 mw_1418 rfl yo_X12_canAct rfl rfl (Nat.le_of_ble_eq_true rfl) ⟨by decide, by decide⟩ ⟨rfl, rfl⟩ dX12_whyWait_1 ⟨by decide, by decide⟩ ?_
  refine g_if_eq (x := x1) 15 o dX12_whyWait_4 (by decide) (fun u => ?_) (fun u => ?_)
  · rw [if_pos u] at e
    refine g_iconst (v := 1) o dX12_whyWait_15 (by decide) ?_
    exact g_iret o dX12_whyWait_16 (rt_v q e)
  · rw [if_neg u] at e
    refine g_aload_n 0 o dX12_whyWait_7 rfl rfl ?_
    refine g_iload_n 1 o dX12_whyWait_8 rfl rfl ?_
    obtain ⟨_, k9, e⟩ := ob e
    obtain ⟨x9, h9, q9, e⟩ := ob2_s e
    refine g_callVv [.int p0] o (mX12_late q9) cf12 (ckO_s k9) mw_1428 mw_1429 mw_1760 mw_19 mw_1430 rfl yo_X12_late rfl rfl (Nat.le_of_ble_eq_true rfl) ⟨by decide, by decide⟩ ⟨rfl, rfl⟩ dX12_whyWait_9 ⟨by decide, by decide⟩ ?_
    refine g_goto 16 o dX12_whyWait_12 (by decide) ?_
    exact g_iret o dX12_whyWait_16 (rt_v q e)
theorem yo_X12_waits : yok yX12_waits 1 := ⟨by decide, by decide, by decide +kernel⟩
set_option maxRecDepth 100000 in
set_option maxHeartbeats 4000000 in
theorem mX12_waits {l : Launch} {D : va_G} {cy : Nat → ClassId} {f0 : Nat} {a : Nat} {p0 : Int32} {h : Hp} {r : Int32} {hz : Hp} (e : fX12_waits f0 a p0 h = some (r, hz)) : MC l D cy yX12_waits cX12_waits 3 (some .int) rmX12_waits [.ref a, .int p0] h (some (.int r)) hz := by
  refine mc_of2 (by decide) (Nat.le_of_ble_eq_true rfl) (fun X hl hD hy hin o q => ?_)
  show G X 3 0 [(0, .ref a), (1, .int p0)] [] h 0 0
  unfold fX12_waits at e
  refine g_aload_n 0 o dX12_waits_0 rfl rfl ?_
  refine g_iconst (v := 0) o dX12_waits_1 (by decide) ?_
  obtain ⟨h2, q2, e⟩ := ob e
  refine g_put (ty1 := .int) 0 o cf12 (by decide) mw_1186 rfl (by decide +kernel) rfl rfl dX12_waits_2 q2 ?_
  refine g_iload_n 1 o dX12_waits_5 rfl rfl ?_
  refine g_iconst (v := 1) o dX12_waits_6 (by decide) ?_
  refine g_bipush (v := 60) o dX12_waits_7 (by decide) ?_
  obtain ⟨x9, h9, q9, e⟩ := ob2_s e
  refine g_callSv [.int p0, .int 1, .int 60] o (mX12_isIn q9) mw_1337 mw_1338 mw_19 mw_1339 yo_X12_isIn rfl rfl (Nat.le_of_ble_eq_true rfl) ⟨by decide, by decide⟩ ⟨rfl, rfl⟩ dX12_waits_9 ⟨by decide, by decide⟩ ?_
  refine g_if_ne (x := x9) 17 o dX12_waits_12 (by decide) (fun u => ?_) (fun u => ?_)
  · rw [if_neg u] at e
    refine g_aload_n 0 o dX12_waits_17 rfl rfl ?_
    refine g_iload_n 1 o dX12_waits_18 rfl rfl ?_
    obtain ⟨_, k19, e⟩ := ob e
    obtain ⟨x19, h19, q19, e⟩ := ob2_s e
    refine g_callVv [.int p0] o (mX12_whyWait q19) cf12 (ckO_s k19) mw_1454 mw_1455 mw_1766 mw_19 mw_1456 rfl yo_X12_whyWait rfl rfl (Nat.le_of_ble_eq_true rfl) ⟨by decide, by decide⟩ ⟨rfl, rfl⟩ dX12_waits_19 ⟨by decide, by decide⟩ ?_
    refine g_istore_n [(2, .int x19), (0, .ref a), (1, .int p0)] o dX12_waits_22 rfl (by decide) rfl ?_
    refine g_iload_n 0 o dX12_waits_23 rfl rfl ?_
    refine g_if_le (x := x19) 29 o dX12_waits_24 (by decide) (fun u => ?_) (fun u => ?_)
    · rw [if_pos u] at e
      refine g_aload_n 1 o dX12_waits_29 rfl rfl ?_
      obtain ⟨_, k30, e⟩ := ob e
      obtain ⟨h30, q30, e⟩ := ob e
      refine g_callV0 [] o (mX12_keep q30) cf12 (ckO_s k30) mw_1431 mw_1432 mw_1761 mw_19 mw_1433 rfl yo_X12_keep rfl rfl (Nat.le_of_ble_eq_true rfl) ⟨by decide, by decide⟩ ⟨rfl, rfl⟩ dX12_waits_30 ⟨by decide, by decide⟩ ?_
      refine g_aload_n 1 o dX12_waits_33 rfl rfl ?_
      obtain ⟨x34, q34, e⟩ := ob e
      refine g_getN 6 o cf12 (by decide) mw_1192 dX12_waits_34 q34 ?_
      refine g_sipush (v := 312) o dX12_waits_37 (by decide) ?_
      refine g_dup2 o dX12_waits_40 rfl rfl ?_
      obtain ⟨x41, q41, e⟩ := ob e
      refine g_iald o dX12_waits_41 q41 ?_
      refine g_iload_n 2 o dX12_waits_42 rfl rfl ?_
      refine g_iadd (x := x41) (y := p0) o dX12_waits_43 ?_
      obtain ⟨h44, q44, e⟩ := ob e
      refine g_iast o dX12_waits_44 q44 ?_
      refine g_iconst (v := 0) o dX12_waits_45 (by decide) ?_
      exact g_iret o dX12_waits_46 (rt_v q e)
    · rw [if_neg u] at e
      refine g_iload_n 0 o dX12_waits_27 rfl rfl ?_
      exact g_iret o dX12_waits_28 (rt_v q e)
  · rw [if_pos u] at e
    refine g_iconst (v := -1) o dX12_waits_15 (by decide) ?_
    exact g_iret o dX12_waits_16 (rt_v q e)
theorem yo_X12_whyTake : yok yX12_whyTake 0 := ⟨by decide, by decide, by decide +kernel⟩
set_option maxRecDepth 100000 in
set_option maxHeartbeats 4000000 in
theorem mX12_whyTake {l : Launch} {D : va_G} {cy : Nat → ClassId} {f0 : Nat} {a : Nat} {h : Hp} {r : Int32} {hz : Hp} (e : fX12_whyTake f0 a h = some (r, hz)) : MC l D cy yX12_whyTake cX12_whyTake 1 (some .int) rmX12_whyTake [.ref a] h (some (.int r)) hz := by
  refine mc_of2 (by decide) (Nat.le_of_ble_eq_true rfl) (fun X hl hD hy hin o q => ?_)
  show G X 1 0 [(0, .ref a)] [] h 0 0
  unfold fX12_whyTake at e
  refine g_aload_n 0 o dX12_whyTake_0 rfl rfl ?_
  obtain ⟨_, k1, e⟩ := ob e
  obtain ⟨x1, h1, q1, e⟩ := ob2_s e
  refine g_callVv [] o (mX12_canAct q1) cf12 (ckO_s k1) mw_1416 mw_1417 mw_1756 mw_19 mw_1418 rfl yo_X12_canAct rfl rfl (Nat.le_of_ble_eq_true rfl) ⟨by decide, by decide⟩ ⟨rfl, rfl⟩ dX12_whyTake_1 ⟨by decide, by decide⟩ ?_
  refine g_if_ne (x := x1) 11 o dX12_whyTake_4 (by decide) (fun u => ?_) (fun u => ?_)
  · rw [if_neg u] at e
    refine g_aload_n 0 o dX12_whyTake_11 rfl rfl ?_
    refine g_aload_n 0 o dX12_whyTake_12 rfl rfl ?_
    obtain ⟨x13, q13, e⟩ := ob e
    refine g_getN 6 o cf12 (by decide) mw_1192 dX12_whyTake_13 q13 ?_
    refine g_sipush (v := 314) o dX12_whyTake_16 (by decide) ?_
    obtain ⟨x19, q19, e⟩ := ob e
    refine g_iald o dX12_whyTake_19 q19 ?_
    refine g_aload_n 0 o dX12_whyTake_20 rfl rfl ?_
    obtain ⟨x21, q21, e⟩ := ob e
    refine g_getN 6 o cf12 (by decide) mw_1192 dX12_whyTake_21 q21 ?_
    refine g_sipush (v := 313) o dX12_whyTake_24 (by decide) ?_
    obtain ⟨x27, q27, e⟩ := ob e
    refine g_iald o dX12_whyTake_27 q27 ?_
    obtain ⟨_, k28, e⟩ := ob e
    obtain ⟨x28, h28, q28, e⟩ := ob2_s e
    refine g_callVv [.int x19, .int x27] o (mX12_owed q28) cf12 (ckO_s k28) mw_1402 mw_1403 mw_1754 mw_19 mw_1404 rfl yo_X12_owed rfl rfl (Nat.le_of_ble_eq_true rfl) ⟨by decide, by decide⟩ ⟨rfl, rfl⟩ dX12_whyTake_28 ⟨by decide, by decide⟩ ?_
    refine g_if_ne (x := x28) 38 o dX12_whyTake_31 (by decide) (fun u => ?_) (fun u => ?_)
    · rw [if_neg u] at e
      refine g_iconst (v := 0) o dX12_whyTake_38 (by decide) ?_
      exact g_iret o dX12_whyTake_39 (rt_v q e)
    · rw [if_pos u] at e
      refine g_iconst (v := 2) o dX12_whyTake_34 (by decide) ?_
      refine g_goto 39 o dX12_whyTake_35 (by decide) ?_
      exact g_iret o dX12_whyTake_39 (rt_v q e)
  · rw [if_pos u] at e
    refine g_iconst (v := 1) o dX12_whyTake_7 (by decide) ?_
    refine g_goto 39 o dX12_whyTake_8 (by decide) ?_
    exact g_iret o dX12_whyTake_39 (rt_v q e)
theorem yo_X12_takesAll : yok yX12_takesAll 0 := ⟨by decide, by decide, by decide +kernel⟩
set_option maxRecDepth 100000 in
set_option maxHeartbeats 4000000 in
theorem mX12_takesAll {l : Launch} {D : va_G} {cy : Nat → ClassId} {f0 : Nat} {a : Nat} {h : Hp} {hz : Hp} (e : fX12_takesAll f0 a h = some hz) : MC l D cy yX12_takesAll cX12_takesAll 1 none rmX12_takesAll [.ref a] h none hz := by
  refine mc_of2 (by decide) (Nat.le_of_ble_eq_true rfl) (fun X hl hD hy hin o q => ?_)
  show G X 1 0 [(0, .ref a)] [] h 0 0
  unfold fX12_takesAll at e
  refine g_aload_n 0 o dX12_takesAll_0 rfl rfl ?_
  obtain ⟨x1, q1, e⟩ := ob e
  refine g_getN 6 o cf12 (by decide) mw_1192 dX12_takesAll_1 q1 ?_
  refine g_sipush (v := 316) o dX12_takesAll_4 (by decide) ?_
  refine g_dup2 o dX12_takesAll_7 rfl rfl ?_
  obtain ⟨x8, q8, e⟩ := ob e
  refine g_iald o dX12_takesAll_8 q8 ?_
  refine g_aload_n 0 o dX12_takesAll_9 rfl rfl ?_
  refine g_aload_n 0 o dX12_takesAll_10 rfl rfl ?_
  obtain ⟨x11, q11, e⟩ := ob e
  refine g_getN 6 o cf12 (by decide) mw_1192 dX12_takesAll_11 q11 ?_
  refine g_sipush (v := 314) o dX12_takesAll_14 (by decide) ?_
  obtain ⟨x17, q17, e⟩ := ob e
  refine g_iald o dX12_takesAll_17 q17 ?_
  refine g_aload_n 0 o dX12_takesAll_18 rfl rfl ?_
  obtain ⟨x19, q19, e⟩ := ob e
  refine g_getN 6 o cf12 (by decide) mw_1192 dX12_takesAll_19 q19 ?_
  refine g_sipush (v := 313) o dX12_takesAll_22 (by decide) ?_
  obtain ⟨x25, q25, e⟩ := ob e
  refine g_iald o dX12_takesAll_25 q25 ?_
  obtain ⟨_, k26, e⟩ := ob e
  obtain ⟨x26, h26, q26, e⟩ := ob2_s e
  refine g_callVv [.int x17, .int x25] o (mX12_owed q26) cf12 (ckO_s k26) mw_1402 mw_1403 mw_1754 mw_19 mw_1404 rfl yo_X12_owed rfl rfl (Nat.le_of_ble_eq_true rfl) ⟨by decide, by decide⟩ ⟨rfl, rfl⟩ dX12_takesAll_26 ⟨by decide, by decide⟩ ?_
  refine g_iadd (x := x8) (y := x26) o dX12_takesAll_29 ?_
  obtain ⟨h30, q30, e⟩ := ob e
  refine g_iast o dX12_takesAll_30 q30 ?_
  refine g_aload_n 0 o dX12_takesAll_31 rfl rfl ?_
  obtain ⟨x32, q32, e⟩ := ob e
  refine g_getN 6 o cf12 (by decide) mw_1192 dX12_takesAll_32 q32 ?_
  refine g_sipush (v := 400) o dX12_takesAll_35 (by decide) ?_
  refine g_aload_n 0 o dX12_takesAll_38 rfl rfl ?_
  obtain ⟨x39, q39, e⟩ := ob e
  refine g_getN 6 o cf12 (by decide) mw_1192 dX12_takesAll_39 q39 ?_
  refine g_sipush (v := 314) o dX12_takesAll_42 (by decide) ?_
  obtain ⟨x45, q45, e⟩ := ob e
  refine g_iald o dX12_takesAll_45 q45 ?_
  refine g_aload_n 0 o dX12_takesAll_46 rfl rfl ?_
  obtain ⟨x47, q47, e⟩ := ob e
  refine g_getN 6 o cf12 (by decide) mw_1192 dX12_takesAll_47 q47 ?_
  refine g_sipush (v := 313) o dX12_takesAll_50 (by decide) ?_
  obtain ⟨x53, q53, e⟩ := ob e
  refine g_iald o dX12_takesAll_53 q53 ?_
  obtain ⟨x54, h54, q54, e⟩ := ob2_s e
  refine g_callSv [.int x45, .int x53] o (mX12_cell q54) mw_1180 mw_1181 mw_19 mw_1182 yo_X12_cell rfl rfl (Nat.le_of_ble_eq_true rfl) ⟨by decide, by decide⟩ ⟨rfl, rfl⟩ dX12_takesAll_54 ⟨by decide, by decide⟩ ?_
  refine g_iadd (x := (400 : Int32)) (y := x54) o dX12_takesAll_57 ?_
  refine g_iconst (v := 1) o dX12_takesAll_58 (by decide) ?_
  obtain ⟨h59, q59, e⟩ := ob e
  refine g_iast o dX12_takesAll_59 q59 ?_
  exact g_vret o dX12_takesAll_60 (rt_0 q e)
theorem yo_X12_takes_ : yok yX12_takes_ 0 := ⟨by decide, by decide, by decide +kernel⟩
set_option maxRecDepth 100000 in
set_option maxHeartbeats 4000000 in
theorem mX12_takes_ {l : Launch} {D : va_G} {cy : Nat → ClassId} {f0 : Nat} {a : Nat} {h : Hp} {r : Int32} {hz : Hp} (e : fX12_takes_ f0 a h = some (r, hz)) : MC l D cy yX12_takes_ cX12_takes_ 2 (some .int) rmX12_takes_ [.ref a] h (some (.int r)) hz := by
  refine mc_of2 (by decide) (Nat.le_of_ble_eq_true rfl) (fun X hl hD hy hin o q => ?_)
  show G X 2 0 [(0, .ref a)] [] h 0 0
  unfold fX12_takes_ at e
  refine g_aload_n 0 o dX12_takes__0 rfl rfl ?_
  refine g_iconst (v := 0) o dX12_takes__1 (by decide) ?_
  obtain ⟨h2, q2, e⟩ := ob e
  refine g_put (ty1 := .int) 0 o cf12 (by decide) mw_1186 rfl (by decide +kernel) rfl rfl dX12_takes__2 q2 ?_
  refine g_aload_n 0 o dX12_takes__5 rfl rfl ?_
  obtain ⟨_, k6, e⟩ := ob e
  obtain ⟨x6, h6, q6, e⟩ := ob2_s e
  refine g_callVv [] o (mX12_whyTake q6) cf12 (ckO_s k6) mw_1461 mw_1462 mw_1767 mw_19 mw_1463 rfl yo_X12_whyTake rfl rfl (Nat.le_of_ble_eq_true rfl) ⟨by decide, by decide⟩ ⟨rfl, rfl⟩ dX12_takes__6 ⟨by decide, by decide⟩ ?_
  refine g_istore_n [(1, .int x6), (0, .ref a)] o dX12_takes__9 rfl (by decide) rfl ?_
  refine g_iload_n 0 o dX12_takes__10 rfl rfl ?_
  refine g_if_le (x := x6) 16 o dX12_takes__11 (by decide) (fun u => ?_) (fun u => ?_)
  · rw [if_pos u] at e
    refine g_aload_n 1 o dX12_takes__16 rfl rfl ?_
    obtain ⟨_, k17, e⟩ := ob e
    obtain ⟨h17, q17, e⟩ := ob e
    refine g_callV0 [] o (mX12_keep q17) cf12 (ckO_s k17) mw_1431 mw_1432 mw_1761 mw_19 mw_1433 rfl yo_X12_keep rfl rfl (Nat.le_of_ble_eq_true rfl) ⟨by decide, by decide⟩ ⟨rfl, rfl⟩ dX12_takes__17 ⟨by decide, by decide⟩ ?_
    refine g_aload_n 1 o dX12_takes__20 rfl rfl ?_
    obtain ⟨_, k21, e⟩ := ob e
    obtain ⟨h21, q21, e⟩ := ob e
    refine g_callV0 [] o (mX12_takesAll q21) cf12 (ckO_s k21) mw_1464 mw_1465 mw_1768 mw_19 mw_1466 rfl yo_X12_takesAll rfl rfl (Nat.le_of_ble_eq_true rfl) ⟨by decide, by decide⟩ ⟨rfl, rfl⟩ dX12_takes__21 ⟨by decide, by decide⟩ ?_
    refine g_iconst (v := 0) o dX12_takes__24 (by decide) ?_
    exact g_iret o dX12_takes__25 (rt_v q e)
  · rw [if_neg u] at e
    refine g_iload_n 0 o dX12_takes__14 rfl rfl ?_
    exact g_iret o dX12_takes__15 (rt_v q e)
theorem yo_X12_isMan : yok yX12_isMan 1 := ⟨by decide, by decide, by decide +kernel⟩
set_option maxRecDepth 100000 in
set_option maxHeartbeats 4000000 in
theorem mX12_isMan {l : Launch} {D : va_G} {cy : Nat → ClassId} {f0 : Nat} {a : Nat} {p0 : Int32} {h : Hp} {r : Int32} {hz : Hp} (e : fX12_isMan f0 a p0 h = some (r, hz)) : MC l D cy yX12_isMan cX12_isMan 2 (some .boolean) rmX12_isMan [.ref a, .int p0] h (some (.int r)) hz := by
  refine mc_of2 (by decide) (Nat.le_of_ble_eq_true rfl) (fun X hl hD hy hin o q => ?_)
  show G X 2 0 [(0, .ref a), (1, .int p0)] [] h 0 0
  unfold fX12_isMan at e
  refine g_iload_n 1 o dX12_isMan_0 rfl rfl ?_
  refine g_iconst (v := 0) o dX12_isMan_1 (by decide) ?_
  refine g_aload_n 0 o dX12_isMan_2 rfl rfl ?_
  obtain ⟨x3, q3, e⟩ := ob e
  refine g_getN 6 o cf12 (by decide) mw_1192 dX12_isMan_3 q3 ?_
  refine g_iconst (v := 3) o dX12_isMan_6 (by decide) ?_
  obtain ⟨x7, q7, e⟩ := ob e
  refine g_iald o dX12_isMan_7 q7 ?_
  refine g_iconst (v := 1) o dX12_isMan_8 (by decide) ?_
  refine g_isub (x := x7) (y := 1) o dX12_isMan_9 ?_
  obtain ⟨x10, h10, q10, e⟩ := ob2_s e
  refine g_callSv [.int p0, .int 0, .int (x7 - 1)] o (mX12_isIn q10) mw_1337 mw_1338 mw_19 mw_1339 yo_X12_isIn rfl rfl (Nat.le_of_ble_eq_true rfl) ⟨by decide, by decide⟩ ⟨rfl, rfl⟩ dX12_isMan_10 ⟨by decide, by decide⟩ ?_
  exact g_zret o dX12_isMan_13 (zr_s e).1 (rt_v q (zr_s e).2)
theorem yo_X12_whyLearn : yok yX12_whyLearn 2 := ⟨by decide, by decide, by decide +kernel⟩
set_option maxRecDepth 100000 in
set_option maxHeartbeats 4000000 in
theorem mX12_whyLearn {l : Launch} {D : va_G} {cy : Nat → ClassId} {f0 : Nat} {a : Nat} {p0 : Int32} {p1 : Int32} {h : Hp} {r : Int32} {hz : Hp} (e : fX12_whyLearn f0 a p0 p1 h = some (r, hz)) : MC l D cy yX12_whyLearn cX12_whyLearn 3 (some .int) rmX12_whyLearn [.ref a, .int p0, .int p1] h (some (.int r)) hz := by
  refine mc_of2 (by decide) (Nat.le_of_ble_eq_true rfl) (fun X hl hD hy hin o q => ?_)
  show G X 3 0 [(0, .ref a), (1, .int p0), (2, .int p1)] [] h 0 0
  unfold fX12_whyLearn at e
  refine g_aload_n 0 o dX12_whyLearn_0 rfl rfl ?_
  obtain ⟨_, k1, e⟩ := ob e
  obtain ⟨x1, h1, q1, e⟩ := ob2_s e
  refine g_callVv [] o (mX12_canAct q1) cf12 (ckO_s k1) mw_1416 mw_1417 mw_1756 mw_19 mw_1418 rfl yo_X12_canAct rfl rfl (Nat.le_of_ble_eq_true rfl) ⟨by decide, by decide⟩ ⟨rfl, rfl⟩ dX12_whyLearn_1 ⟨by decide, by decide⟩ ?_
  refine g_if_ne (x := x1) 11 o dX12_whyLearn_4 (by decide) (fun u => ?_) (fun u => ?_)
  · rw [if_neg u] at e
    refine g_aload_n 0 o dX12_whyLearn_11 rfl rfl ?_
    obtain ⟨x12, q12, e⟩ := ob e
    refine g_getN 6 o cf12 (by decide) mw_1192 dX12_whyLearn_12 q12 ?_
    refine g_sipush (v := 328) o dX12_whyLearn_15 (by decide) ?_
    refine g_iload_n 1 o dX12_whyLearn_18 rfl rfl ?_
    refine g_iadd (x := (328 : Int32)) (y := p0) o dX12_whyLearn_19 ?_
    obtain ⟨x20, q20, e⟩ := ob e
    refine g_iald o dX12_whyLearn_20 q20 ?_
    refine g_iload_n 2 o dX12_whyLearn_21 rfl rfl ?_
    obtain ⟨x22, h22, q22, e⟩ := ob2_s e
    refine g_callSv [.int x20, .int p1] o (mX12_bitOf q22) mw_1352 mw_1353 mw_19 mw_1354 yo_X12_bitOf rfl rfl (Nat.le_of_ble_eq_true rfl) ⟨by decide, by decide⟩ ⟨rfl, rfl⟩ dX12_whyLearn_22 ⟨by decide, by decide⟩ ?_
    refine g_if_eq (x := x22) 32 o dX12_whyLearn_25 (by decide) (fun u => ?_) (fun u => ?_)
    · rw [if_pos u] at e
      refine g_aload_n 0 o dX12_whyLearn_32 rfl rfl ?_
      refine g_iconst (v := 3) o dX12_whyLearn_33 (by decide) ?_
      obtain ⟨_, k34, e⟩ := ob e
      obtain ⟨x34, h34, q34, e⟩ := ob2_s e
      refine g_callVv [.int 3] o (mX12_late q34) cf12 (ckO_s k34) mw_1428 mw_1429 mw_1760 mw_19 mw_1430 rfl yo_X12_late rfl rfl (Nat.le_of_ble_eq_true rfl) ⟨by decide, by decide⟩ ⟨rfl, rfl⟩ dX12_whyLearn_34 ⟨by decide, by decide⟩ ?_
      exact g_iret o dX12_whyLearn_37 (rt_v q e)
    · rw [if_neg u] at e
      refine g_iconst (v := 2) o dX12_whyLearn_28 (by decide) ?_
      refine g_goto 37 o dX12_whyLearn_29 (by decide) ?_
      exact g_iret o dX12_whyLearn_37 (rt_v q e)
  · rw [if_pos u] at e
    refine g_iconst (v := 1) o dX12_whyLearn_7 (by decide) ?_
    refine g_goto 37 o dX12_whyLearn_8 (by decide) ?_
    exact g_iret o dX12_whyLearn_37 (rt_v q e)
theorem yo_X12_learns : yok yX12_learns 2 := ⟨by decide, by decide, by decide +kernel⟩
set_option maxRecDepth 100000 in
set_option maxHeartbeats 4000000 in
theorem mX12_learns {l : Launch} {D : va_G} {cy : Nat → ClassId} {f0 : Nat} {a : Nat} {p0 : Int32} {p1 : Int32} {h : Hp} {hz : Hp} (e : fX12_learns f0 a p0 p1 h = some hz) : MC l D cy yX12_learns cX12_learns 3 none rmX12_learns [.ref a, .int p0, .int p1] h none hz := by
  refine mc_of2 (by decide) (Nat.le_of_ble_eq_true rfl) (fun X hl hD hy hin o q => ?_)
  show G X 3 0 [(0, .ref a), (1, .int p0), (2, .int p1)] [] h 0 0
  unfold fX12_learns at e
  refine g_aload_n 0 o dX12_learns_0 rfl rfl ?_
  obtain ⟨x1, q1, e⟩ := ob e
  refine g_getN 6 o cf12 (by decide) mw_1192 dX12_learns_1 q1 ?_
  refine g_sipush (v := 328) o dX12_learns_4 (by decide) ?_
  refine g_iload_n 1 o dX12_learns_7 rfl rfl ?_
  refine g_iadd (x := (328 : Int32)) (y := p0) o dX12_learns_8 ?_
  refine g_dup2 o dX12_learns_9 rfl rfl ?_
  obtain ⟨x10, q10, e⟩ := ob e
  refine g_iald o dX12_learns_10 q10 ?_
  refine g_iconst (v := 1) o dX12_learns_11 (by decide) ?_
  refine g_iload_n 2 o dX12_learns_12 rfl rfl ?_
  refine g_ishl (x := (1 : Int32)) (y := p1) o dX12_learns_13 ?_
  refine g_ior (x := x10) (y := ((1 : Int32) <<< (p1 &&& 31))) o dX12_learns_14 ?_
  obtain ⟨h15, q15, e⟩ := ob e
  refine g_iast o dX12_learns_15 q15 ?_
  refine g_aload_n 0 o dX12_learns_16 rfl rfl ?_
  obtain ⟨x17, q17, e⟩ := ob e
  refine g_getN 6 o cf12 (by decide) mw_1192 dX12_learns_17 q17 ?_
  refine g_sipush (v := 312) o dX12_learns_20 (by decide) ?_
  refine g_dup2 o dX12_learns_23 rfl rfl ?_
  obtain ⟨x24, q24, e⟩ := ob e
  refine g_iald o dX12_learns_24 q24 ?_
  refine g_iconst (v := 3) o dX12_learns_25 (by decide) ?_
  refine g_iadd (x := x24) (y := 3) o dX12_learns_26 ?_
  obtain ⟨h27, q27, e⟩ := ob e
  refine g_iast o dX12_learns_27 q27 ?_
  exact g_vret o dX12_learns_28 (rt_0 q e)
theorem yo_X12_learn : yok yX12_learn 2 := ⟨by decide, by decide, by decide +kernel⟩
set_option maxRecDepth 100000 in
set_option maxHeartbeats 4000000 in
theorem mX12_learn {l : Launch} {D : va_G} {cy : Nat → ClassId} {f0 : Nat} {a : Nat} {p0 : Int32} {p1 : Int32} {h : Hp} {r : Int32} {hz : Hp} (e : fX12_learn f0 a p0 p1 h = some (r, hz)) : MC l D cy yX12_learn cX12_learn 4 (some .int) rmX12_learn [.ref a, .int p0, .int p1] h (some (.int r)) hz := by
  refine mc_of2 (by decide) (Nat.le_of_ble_eq_true rfl) (fun X hl hD hy hin o q => ?_)
  show G X 4 0 [(0, .ref a), (1, .int p0), (2, .int p1)] [] h 0 0
  unfold fX12_learn at e
  refine g_aload_n 0 o dX12_learn_0 rfl rfl ?_
  refine g_iconst (v := 0) o dX12_learn_1 (by decide) ?_
  obtain ⟨h2, q2, e⟩ := ob e
  refine g_put (ty1 := .int) 0 o cf12 (by decide) mw_1186 rfl (by decide +kernel) rfl rfl dX12_learn_2 q2 ?_
  refine g_aload_n 0 o dX12_learn_5 rfl rfl ?_
  refine g_iload_n 1 o dX12_learn_6 rfl rfl ?_
  obtain ⟨_, k7, e⟩ := ob e
  obtain ⟨x7, h7, q7, e⟩ := ob2_s e
  refine g_callVv [.int p0] o (mX12_isMan q7) cf12 (ckO_s k7) mw_1471 mw_1472 mw_1769 mw_19 mw_1473 rfl yo_X12_isMan rfl rfl (Nat.le_of_ble_eq_true rfl) ⟨by decide, by decide⟩ ⟨rfl, rfl⟩ dX12_learn_7 ⟨by decide, by decide⟩ ?_
  refine g_if_eq (x := x7) 29 o dX12_learn_10 (by decide) (fun u => ?_) (fun u => ?_)
  · rw [if_pos u] at e
    refine g_iconst (v := -1) o dX12_learn_29 (by decide) ?_
    exact g_iret o dX12_learn_30 (rt_v q e)
  · rw [if_neg u] at e
    refine g_iload_n 2 o dX12_learn_13 rfl rfl ?_
    refine g_iconst (v := 0) o dX12_learn_14 (by decide) ?_
    refine g_aload_n 0 o dX12_learn_15 rfl rfl ?_
    obtain ⟨x16, q16, e⟩ := ob e
    refine g_getN 6 o cf12 (by decide) mw_1192 dX12_learn_16 q16 ?_
    refine g_iconst (v := 2) o dX12_learn_19 (by decide) ?_
    obtain ⟨x20, q20, e⟩ := ob e
    refine g_iald o dX12_learn_20 q20 ?_
    refine g_iconst (v := 1) o dX12_learn_21 (by decide) ?_
    refine g_isub (x := x20) (y := 1) o dX12_learn_22 ?_
    obtain ⟨x23, h23, q23, e⟩ := ob2_s e
    refine g_callSv [.int p1, .int 0, .int (x20 - 1)] o (mX12_isIn q23) mw_1337 mw_1338 mw_19 mw_1339 yo_X12_isIn rfl rfl (Nat.le_of_ble_eq_true rfl) ⟨by decide, by decide⟩ ⟨rfl, rfl⟩ dX12_learn_23 ⟨by decide, by decide⟩ ?_
    refine g_if_ne (x := x23) 31 o dX12_learn_26 (by decide) (fun u => ?_) (fun u => ?_)
    · rw [if_neg u] at e
      refine g_aload_n 0 o dX12_learn_31 rfl rfl ?_
      refine g_iload_n 1 o dX12_learn_32 rfl rfl ?_
      refine g_iload_n 2 o dX12_learn_33 rfl rfl ?_
      obtain ⟨_, k34, e⟩ := ob e
      obtain ⟨x34, h34, q34, e⟩ := ob2_s e
      refine g_callVv [.int p0, .int p1] o (mX12_whyLearn q34) cf12 (ckO_s k34) mw_1474 mw_1475 mw_1770 mw_19 mw_1476 rfl yo_X12_whyLearn rfl rfl (Nat.le_of_ble_eq_true rfl) ⟨by decide, by decide⟩ ⟨rfl, rfl⟩ dX12_learn_34 ⟨by decide, by decide⟩ ?_
      refine g_istore_n [(3, .int x34), (0, .ref a), (1, .int p0), (2, .int p1)] o dX12_learn_37 rfl (by decide) rfl ?_
      refine g_iload_n 0 o dX12_learn_38 rfl rfl ?_
      refine g_if_le (x := x34) 44 o dX12_learn_39 (by decide) (fun u => ?_) (fun u => ?_)
      · rw [if_pos u] at e
        refine g_aload_n 1 o dX12_learn_44 rfl rfl ?_
        obtain ⟨_, k45, e⟩ := ob e
        obtain ⟨h45, q45, e⟩ := ob e
        refine g_callV0 [] o (mX12_keep q45) cf12 (ckO_s k45) mw_1431 mw_1432 mw_1761 mw_19 mw_1433 rfl yo_X12_keep rfl rfl (Nat.le_of_ble_eq_true rfl) ⟨by decide, by decide⟩ ⟨rfl, rfl⟩ dX12_learn_45 ⟨by decide, by decide⟩ ?_
        refine g_aload_n 1 o dX12_learn_48 rfl rfl ?_
        refine g_iload_n 2 o dX12_learn_49 rfl rfl ?_
        refine g_iload_n 3 o dX12_learn_50 rfl rfl ?_
        obtain ⟨_, k51, e⟩ := ob e
        obtain ⟨h51, q51, e⟩ := ob e
        refine g_callV0 [.int p0, .int p1] o (mX12_learns q51) cf12 (ckO_s k51) mw_1477 mw_1478 mw_1771 mw_19 mw_1479 rfl yo_X12_learns rfl rfl (Nat.le_of_ble_eq_true rfl) ⟨by decide, by decide⟩ ⟨rfl, rfl⟩ dX12_learn_51 ⟨by decide, by decide⟩ ?_
        refine g_iconst (v := 0) o dX12_learn_54 (by decide) ?_
        exact g_iret o dX12_learn_55 (rt_v q e)
      · rw [if_neg u] at e
        refine g_iload_n 0 o dX12_learn_42 rfl rfl ?_
        exact g_iret o dX12_learn_43 (rt_v q e)
    · rw [if_pos u] at e
      refine g_iconst (v := -1) o dX12_learn_29 (by decide) ?_
      exact g_iret o dX12_learn_30 (rt_v q e)
set_option maxRecDepth 100000 in
set_option maxHeartbeats 4000000 in
theorem kX12_undo_26 {X : Cx} (f0 : Nat) (o : Ok X cX12_undo RX12 2 rmX12_undo (some .int)) (f : Nat) (v0 : Nat) (v1 : Int32) (h : Hp) (r : Int32) (hz : Hp) (q : Rt X (some (.int r)) hz 0 0) (e : bX12_undo_26 f0 f v0 v1 h = some (r, hz)) : G X 2 26 [(0, .ref v0), (1, .int v1)] [] h 0 0 := by
  induction f generalizing v0 v1 h r hz with
  | zero => cases e
  | succ f1 ih =>
    unfold bX12_undo_26 at e
    refine g_iload_n 1 o dX12_undo_26 rfl rfl ?_
    refine g_sipush (v := 153) o dX12_undo_27 (by decide) ?_
    refine g_icmp_ge (x := v1) (y := 153) 64 o dX12_undo_30 (by decide) (fun u => ?_) (fun u => ?_)
    · rw [if_pos u] at e
      refine g_aload_n 0 o dX12_undo_64 rfl rfl ?_
      obtain ⟨x65, q65, e⟩ := ob e
      refine g_getI 29 o cf12 (by decide) mw_1215 dX12_undo_65 q65 ?_
      exact g_iret o dX12_undo_68 (rt_v q e)
    · rw [if_neg u] at e
      refine g_aload_n 0 o dX12_undo_33 rfl rfl ?_
      obtain ⟨x34, q34, e⟩ := ob e
      refine g_getN 6 o cf12 (by decide) mw_1192 dX12_undo_34 q34 ?_
      refine g_sipush (v := 312) o dX12_undo_37 (by decide) ?_
      refine g_iload_n 1 o dX12_undo_40 rfl rfl ?_
      refine g_iadd (x := (312 : Int32)) (y := v1) o dX12_undo_41 ?_
      refine g_aload_n 0 o dX12_undo_42 rfl rfl ?_
      obtain ⟨x43, q43, e⟩ := ob e
      refine g_getN 27 o cf12 (by decide) mw_1213 dX12_undo_43 q43 ?_
      refine g_sipush (v := 153) o dX12_undo_46 (by decide) ?_
      refine g_aload_n 0 o dX12_undo_49 rfl rfl ?_
      obtain ⟨x50, q50, e⟩ := ob e
      refine g_getI 29 o cf12 (by decide) mw_1215 dX12_undo_50 q50 ?_
      refine g_imul (x := (153 : Int32)) (y := x50) o dX12_undo_53 ?_
      refine g_iload_n 1 o dX12_undo_54 rfl rfl ?_
      refine g_iadd (x := ((153 : Int32) * x50)) (y := v1) o dX12_undo_55 ?_
      obtain ⟨x56, q56, e⟩ := ob e
      refine g_iald o dX12_undo_56 q56 ?_
      obtain ⟨h57, q57, e⟩ := ob e
      refine g_iast o dX12_undo_57 q57 ?_
      refine g_iinc (k := 1) (v := (v1 + 1)) [(1, .int (v1 + 1)), (0, .ref v0)] o dX12_undo_58 rfl rfl (by decide) rfl ?_
      refine g_goto 26 o dX12_undo_61 (by decide) ?_
      refine g_sb [1, 0] rfl ?_
      exact ih v0 (v1 + 1) h57 r hz q e
theorem yo_X12_undo : yok yX12_undo 0 := ⟨by decide, by decide, by decide +kernel⟩
set_option maxRecDepth 100000 in
set_option maxHeartbeats 4000000 in
theorem mX12_undo {l : Launch} {D : va_G} {cy : Nat → ClassId} {f0 : Nat} {a : Nat} {h : Hp} {r : Int32} {hz : Hp} (e : fX12_undo f0 a h = some (r, hz)) : MC l D cy yX12_undo cX12_undo 2 (some .int) rmX12_undo [.ref a] h (some (.int r)) hz := by
  refine mc_of2 (by decide) (Nat.le_of_ble_eq_true rfl) (fun X hl hD hy hin o q => ?_)
  show G X 2 0 [(0, .ref a)] [] h 0 0
  unfold fX12_undo at e
  refine g_aload_n 0 o dX12_undo_0 rfl rfl ?_
  refine g_iconst (v := 0) o dX12_undo_1 (by decide) ?_
  obtain ⟨h2, q2, e⟩ := ob e
  refine g_put (ty1 := .int) 0 o cf12 (by decide) mw_1186 rfl (by decide +kernel) rfl rfl dX12_undo_2 q2 ?_
  refine g_aload_n 0 o dX12_undo_5 rfl rfl ?_
  obtain ⟨x6, q6, e⟩ := ob e
  refine g_getI 29 o cf12 (by decide) mw_1215 dX12_undo_6 q6 ?_
  refine g_if_ne (x := x6) 14 o dX12_undo_9 (by decide) (fun u => ?_) (fun u => ?_)
  · rw [if_neg u] at e
    refine g_aload_n 0 o dX12_undo_14 rfl rfl ?_
    refine g_dup o dX12_undo_15 rfl ?_
    obtain ⟨x16, q16, e⟩ := ob e
    refine g_getI 29 o cf12 (by decide) mw_1215 dX12_undo_16 q16 ?_
    refine g_iconst (v := 1) o dX12_undo_19 (by decide) ?_
    refine g_isub (x := x16) (y := 1) o dX12_undo_20 ?_
    obtain ⟨h21, q21, e⟩ := ob e
    refine g_put (ty1 := .int) 29 o cf12 (by decide) mw_1215 rfl (by decide +kernel) rfl rfl dX12_undo_21 q21 ?_
    refine g_iconst (v := 0) o dX12_undo_24 (by decide) ?_
    refine g_istore_n [(1, .int 0), (0, .ref a)] o dX12_undo_25 rfl (by decide) rfl ?_
    refine g_sb [1, 0] rfl ?_
    exact kX12_undo_26 f0 o f0 a 0 h21 r hz q e
  · rw [if_pos u] at e
    refine g_iconst (v := -1) o dX12_undo_12 (by decide) ?_
    exact g_iret o dX12_undo_13 (rt_v q e)
theorem yo_X12_knows : yok yX12_knows 2 := ⟨by decide, by decide, by decide +kernel⟩
set_option maxRecDepth 100000 in
set_option maxHeartbeats 4000000 in
theorem mX12_knows {l : Launch} {D : va_G} {cy : Nat → ClassId} {f0 : Nat} {a : Nat} {p0 : Int32} {p1 : Int32} {h : Hp} {r : Int32} {hz : Hp} (e : fX12_knows f0 a p0 p1 h = some (r, hz)) : MC l D cy yX12_knows cX12_knows 4 (some .int) rmX12_knows [.ref a, .int p0, .int p1] h (some (.int r)) hz := by
  refine mc_of2 (by decide) (Nat.le_of_ble_eq_true rfl) (fun X hl hD hy hin o q => ?_)
  show G X 4 0 [(0, .ref a), (1, .int p0), (2, .int p1)] [] h 0 0
  unfold fX12_knows at e
  refine g_aload_n 0 o dX12_knows_0 rfl rfl ?_
  refine g_iconst (v := 0) o dX12_knows_1 (by decide) ?_
  obtain ⟨h2, q2, e⟩ := ob e
  refine g_put (ty1 := .int) 0 o cf12 (by decide) mw_1186 rfl (by decide +kernel) rfl rfl dX12_knows_2 q2 ?_
  refine g_aload_n 0 o dX12_knows_5 rfl rfl ?_
  refine g_iload_n 1 o dX12_knows_6 rfl rfl ?_
  obtain ⟨_, k7, e⟩ := ob e
  obtain ⟨x7, h7, q7, e⟩ := ob2_s e
  refine g_callVv [.int p0] o (mX12_isPort q7) cf12 (ckO_s k7) mw_1369 mw_1370 mw_1747 mw_19 mw_1371 rfl yo_X12_isPort rfl rfl (Nat.le_of_ble_eq_true rfl) ⟨by decide, by decide⟩ ⟨rfl, rfl⟩ dX12_knows_7 ⟨by decide, by decide⟩ ?_
  refine g_if_eq (x := x7) 21 o dX12_knows_10 (by decide) (fun u => ?_) (fun u => ?_)
  · rw [if_pos u] at e
    refine g_iconst (v := -1) o dX12_knows_21 (by decide) ?_
    exact g_iret o dX12_knows_22 (rt_v q e)
  · rw [if_neg u] at e
    refine g_aload_n 0 o dX12_knows_13 rfl rfl ?_
    refine g_iload_n 2 o dX12_knows_14 rfl rfl ?_
    obtain ⟨_, k15, e⟩ := ob e
    obtain ⟨x15, h15, q15, e⟩ := ob2_s e
    refine g_callVv [.int p1] o (mX12_isShip q15) cf12 (ckO_s k15) mw_1399 mw_1400 mw_1753 mw_19 mw_1401 rfl yo_X12_isShip rfl rfl (Nat.le_of_ble_eq_true rfl) ⟨by decide, by decide⟩ ⟨rfl, rfl⟩ dX12_knows_15 ⟨by decide, by decide⟩ ?_
    refine g_if_ne (x := x15) 23 o dX12_knows_18 (by decide) (fun u => ?_) (fun u => ?_)
    · rw [if_neg u] at e
      refine g_aload_n 0 o dX12_knows_23 rfl rfl ?_
      refine g_iload_n 1 o dX12_knows_24 rfl rfl ?_
      refine g_iload_n 2 o dX12_knows_25 rfl rfl ?_
      obtain ⟨_, k26, e⟩ := ob e
      obtain ⟨x26, h26, q26, e⟩ := ob2_s e
      refine g_callVv [.int p0, .int p1] o (mX12_knowsFrom q26) cf12 (ckO_s k26) mw_1378 mw_1379 mw_1750 mw_19 mw_1380 rfl yo_X12_knowsFrom rfl rfl (Nat.le_of_ble_eq_true rfl) ⟨by decide, by decide⟩ ⟨rfl, rfl⟩ dX12_knows_26 ⟨by decide, by decide⟩ ?_
      refine g_istore_n [(3, .int x26), (0, .ref a), (1, .int p0), (2, .int p1)] o dX12_knows_29 rfl (by decide) rfl ?_
      refine g_iload_n 0 o dX12_knows_30 rfl rfl ?_
      refine g_ldc_w (v := 1000000) o dX12_knows_31 mw_1179 ?_
      refine g_icmp_lt (x := x26) (y := 1000000) 41 o dX12_knows_34 (by decide) (fun u => ?_) (fun u => ?_)
      · rw [if_pos u] at e
        refine g_iload_n 0 o dX12_knows_41 rfl rfl ?_
        exact g_iret o dX12_knows_42 (rt_v q e)
      · rw [if_neg u] at e
        refine g_iconst (v := -1) o dX12_knows_37 (by decide) ?_
        refine g_goto 42 o dX12_knows_38 (by decide) ?_
        exact g_iret o dX12_knows_42 (rt_v q e)
    · rw [if_pos u] at e
      refine g_iconst (v := -1) o dX12_knows_21 (by decide) ?_
      exact g_iret o dX12_knows_22 (rt_v q e)
set_option maxRecDepth 100000 in
set_option maxHeartbeats 4000000 in
theorem kX12_first_59 {X : Cx} (f0 : Nat) (g24 : Nat → Int32 → Int32 → Int32 → Int32 → Hp → Option (Int32 × Hp)) (i24 : ∀ (v02 : Nat) (v12 : Int32) (v22 : Int32) (v32 : Int32) (v42 : Int32) (h2 : Hp) (r : Int32) (hz : Hp), Rt X (some (.int r)) hz 0 0 → g24 v02 v12 v22 v32 v42 h2 = some (r, hz) → G X 6 24 [(0, .ref v02), (1, .int v12), (2, .int v22), (3, .int v32), (4, .int v42)] [] h2 0 0) (o : Ok X cX12_first RX12 6 rmX12_first (some .int)) (v0 : Nat) (v1 : Int32) (v2 : Int32) (v3 : Int32) (v4 : Int32) (h : Hp) (r : Int32) (hz : Hp) (q : Rt X (some (.int r)) hz 0 0) (e : bX12_first_59 f0 g24 v0 v1 v2 v3 v4 h = some (r, hz)) : G X 6 59 [(0, .ref v0), (1, .int v1), (2, .int v2), (3, .int v3), (4, .int v4)] [] h 0 0 := by
  unfold bX12_first_59 at e
  refine g_iinc (k := 4) (v := (v4 + 1)) [(4, .int (v4 + 1)), (0, .ref v0), (1, .int v1), (2, .int v2), (3, .int v3)] o dX12_first_59 rfl rfl (by decide) rfl ?_
  refine g_goto 24 o dX12_first_62 (by decide) ?_
  refine g_sb [1, 2, 3, 4, 0] rfl ?_
  exact i24 v0 v1 v2 v3 (v4 + 1) h r hz q e
set_option maxRecDepth 100000 in
set_option maxHeartbeats 4000000 in
theorem kX12_first_24 {X : Cx} (f0 : Nat) (o : Ok X cX12_first RX12 6 rmX12_first (some .int)) (f : Nat) (v0 : Nat) (v1 : Int32) (v2 : Int32) (v3 : Int32) (v4 : Int32) (h : Hp) (r : Int32) (hz : Hp) (q : Rt X (some (.int r)) hz 0 0) (e : bX12_first_24 f0 f v0 v1 v2 v3 v4 h = some (r, hz)) : G X 6 24 [(0, .ref v0), (1, .int v1), (2, .int v2), (3, .int v3), (4, .int v4)] [] h 0 0 := by
  induction f generalizing v0 v1 v2 v3 v4 h r hz with
  | zero => cases e
  | succ f1 ih =>
    unfold bX12_first_24 at e
    refine g_iload 4 o dX12_first_24 rfl ?_
    refine g_aload_n 0 o dX12_first_26 rfl rfl ?_
    obtain ⟨x27, q27, e⟩ := ob e
    refine g_getN 6 o cf12 (by decide) mw_1192 dX12_first_27 q27 ?_
    refine g_iconst (v := 0) o dX12_first_30 (by decide) ?_
    obtain ⟨x31, q31, e⟩ := ob e
    refine g_iald o dX12_first_31 q31 ?_
    refine g_icmp_ge (x := v4) (y := x31) 65 o dX12_first_32 (by decide) (fun u => ?_) (fun u => ?_)
    · rw [if_pos u] at e
      refine g_iload_n 2 o dX12_first_65 rfl rfl ?_
      exact g_iret o dX12_first_66 (rt_v q e)
    · rw [if_neg u] at e
      refine g_aload_n 0 o dX12_first_35 rfl rfl ?_
      refine g_iload 4 o dX12_first_36 rfl ?_
      refine g_iload_n 1 o dX12_first_38 rfl rfl ?_
      obtain ⟨_, k39, e⟩ := ob e
      obtain ⟨x39, h39, q39, e⟩ := ob2_s e
      refine g_callVv [.int v4, .int v1] o (mX12_knowsFrom q39) cf12 (ckO_s k39) mw_1378 mw_1379 mw_1750 mw_19 mw_1380 rfl yo_X12_knowsFrom rfl rfl (Nat.le_of_ble_eq_true rfl) ⟨by decide, by decide⟩ ⟨rfl, rfl⟩ dX12_first_39 ⟨by decide, by decide⟩ ?_
      refine g_istore [(5, .int x39), (0, .ref v0), (1, .int v1), (2, .int v2), (3, .int v3), (4, .int v4)] o dX12_first_42 (by decide) rfl ?_
      refine g_iload 0 o dX12_first_44 rfl ?_
      refine g_iload_n 4 o dX12_first_46 rfl rfl ?_
      refine g_icmp_lt (x := x39) (y := v3) 53 o dX12_first_47 (by decide) (fun u => ?_) (fun u => ?_)
      · rw [if_pos u] at e
        refine g_iload 0 o dX12_first_53 rfl ?_
        refine g_istore_n [(3, .int x39), (5, .int x39), (0, .ref v0), (1, .int v1), (2, .int v2), (4, .int v4)] o dX12_first_55 rfl (by decide) rfl ?_
        refine g_iload 5 o dX12_first_56 rfl ?_
        refine g_istore_n [(2, .int v4), (3, .int x39), (5, .int x39), (0, .ref v0), (1, .int v1), (4, .int v4)] o dX12_first_58 rfl (by decide) rfl ?_
        refine g_sb [3, 4, 0, 1, 5] rfl ?_
        exact kX12_first_59 f0 (bX12_first_24 f0 f1) ih o v0 v1 v4 x39 v4 h39 r hz q e
      · rw [if_neg u] at e
        refine g_goto 59 o dX12_first_50 (by decide) ?_
        refine g_sb [1, 2, 3, 4, 5] rfl ?_
        exact kX12_first_59 f0 (bX12_first_24 f0 f1) ih o v0 v1 v2 v3 v4 h39 r hz q e
theorem yo_X12_first : yok yX12_first 1 := ⟨by decide, by decide, by decide +kernel⟩
set_option maxRecDepth 100000 in
set_option maxHeartbeats 4000000 in
theorem mX12_first {l : Launch} {D : va_G} {cy : Nat → ClassId} {f0 : Nat} {a : Nat} {p0 : Int32} {h : Hp} {r : Int32} {hz : Hp} (e : fX12_first f0 a p0 h = some (r, hz)) : MC l D cy yX12_first cX12_first 6 (some .int) rmX12_first [.ref a, .int p0] h (some (.int r)) hz := by
  refine mc_of2 (by decide) (Nat.le_of_ble_eq_true rfl) (fun X hl hD hy hin o q => ?_)
  show G X 6 0 [(0, .ref a), (1, .int p0)] [] h 0 0
  unfold fX12_first at e
  refine g_aload_n 0 o dX12_first_0 rfl rfl ?_
  refine g_iconst (v := 0) o dX12_first_1 (by decide) ?_
  obtain ⟨h2, q2, e⟩ := ob e
  refine g_put (ty1 := .int) 0 o cf12 (by decide) mw_1186 rfl (by decide +kernel) rfl rfl dX12_first_2 q2 ?_
  refine g_aload_n 0 o dX12_first_5 rfl rfl ?_
  refine g_iload_n 1 o dX12_first_6 rfl rfl ?_
  obtain ⟨_, k7, e⟩ := ob e
  obtain ⟨x7, h7, q7, e⟩ := ob2_s e
  refine g_callVv [.int p0] o (mX12_isShip q7) cf12 (ckO_s k7) mw_1399 mw_1400 mw_1753 mw_19 mw_1401 rfl yo_X12_isShip rfl rfl (Nat.le_of_ble_eq_true rfl) ⟨by decide, by decide⟩ ⟨rfl, rfl⟩ dX12_first_7 ⟨by decide, by decide⟩ ?_
  refine g_if_ne (x := x7) 15 o dX12_first_10 (by decide) (fun u => ?_) (fun u => ?_)
  · rw [if_neg u] at e
    refine g_iconst (v := -1) o dX12_first_15 (by decide) ?_
    refine g_istore_n [(2, .int (-1)), (0, .ref a), (1, .int p0)] o dX12_first_16 rfl (by decide) rfl ?_
    refine g_ldc_w (v := 1000000) o dX12_first_17 mw_1179 ?_
    refine g_istore_n [(3, .int 1000000), (2, .int (-1)), (0, .ref a), (1, .int p0)] o dX12_first_20 rfl (by decide) rfl ?_
    refine g_iconst (v := 0) o dX12_first_21 (by decide) ?_
    refine g_istore [(4, .int 0), (3, .int 1000000), (2, .int (-1)), (0, .ref a), (1, .int p0)] o dX12_first_22 (by decide) rfl ?_
    refine g_sb [3, 4, 2, 1, 0] rfl ?_
    exact kX12_first_24 f0 o f0 a p0 (-1) 1000000 0 h7 r hz q e
  · rw [if_pos u] at e
    refine g_iconst (v := -1) o dX12_first_13 (by decide) ?_
    exact g_iret o dX12_first_14 (rt_v q e)
theorem yo_X12_far : yok yX12_far 2 := ⟨by decide, by decide, by decide +kernel⟩
set_option maxRecDepth 100000 in
set_option maxHeartbeats 4000000 in
theorem mX12_far {l : Launch} {D : va_G} {cy : Nat → ClassId} {f0 : Nat} {a : Nat} {p0 : Int32} {p1 : Int32} {h : Hp} {r : Int32} {hz : Hp} (e : fX12_far f0 a p0 p1 h = some (r, hz)) : MC l D cy yX12_far cX12_far 3 (some .int) rmX12_far [.ref a, .int p0, .int p1] h (some (.int r)) hz := by
  refine mc_of2 (by decide) (Nat.le_of_ble_eq_true rfl) (fun X hl hD hy hin o q => ?_)
  show G X 3 0 [(0, .ref a), (1, .int p0), (2, .int p1)] [] h 0 0
  unfold fX12_far at e
  refine g_aload_n 0 o dX12_far_0 rfl rfl ?_
  refine g_iconst (v := 0) o dX12_far_1 (by decide) ?_
  obtain ⟨h2, q2, e⟩ := ob e
  refine g_put (ty1 := .int) 0 o cf12 (by decide) mw_1186 rfl (by decide +kernel) rfl rfl dX12_far_2 q2 ?_
  refine g_aload_n 0 o dX12_far_5 rfl rfl ?_
  refine g_iload_n 1 o dX12_far_6 rfl rfl ?_
  obtain ⟨_, k7, e⟩ := ob e
  obtain ⟨x7, h7, q7, e⟩ := ob2_s e
  refine g_callVv [.int p0] o (mX12_isPort q7) cf12 (ckO_s k7) mw_1369 mw_1370 mw_1747 mw_19 mw_1371 rfl yo_X12_isPort rfl rfl (Nat.le_of_ble_eq_true rfl) ⟨by decide, by decide⟩ ⟨rfl, rfl⟩ dX12_far_7 ⟨by decide, by decide⟩ ?_
  refine g_if_eq (x := x7) 50 o dX12_far_10 (by decide) (fun u => ?_) (fun u => ?_)
  · rw [if_pos u] at e
    refine g_iconst (v := -1) o dX12_far_50 (by decide) ?_
    exact g_iret o dX12_far_51 (rt_v q e)
  · rw [if_neg u] at e
    refine g_aload_n 0 o dX12_far_13 rfl rfl ?_
    refine g_iload_n 2 o dX12_far_14 rfl rfl ?_
    obtain ⟨_, k15, e⟩ := ob e
    obtain ⟨x15, h15, q15, e⟩ := ob2_s e
    refine g_callVv [.int p1] o (mX12_isPort q15) cf12 (ckO_s k15) mw_1369 mw_1370 mw_1747 mw_19 mw_1371 rfl yo_X12_isPort rfl rfl (Nat.le_of_ble_eq_true rfl) ⟨by decide, by decide⟩ ⟨rfl, rfl⟩ dX12_far_15 ⟨by decide, by decide⟩ ?_
    refine g_if_eq (x := x15) 50 o dX12_far_18 (by decide) (fun u => ?_) (fun u => ?_)
    · rw [if_pos u] at e
      refine g_iconst (v := -1) o dX12_far_50 (by decide) ?_
      exact g_iret o dX12_far_51 (rt_v q e)
    · rw [if_neg u] at e
      refine g_aload_n 0 o dX12_far_21 rfl rfl ?_
      obtain ⟨x22, q22, e⟩ := ob e
      refine g_getN 21 o cf12 (by decide) mw_1207 dX12_far_22 q22 ?_
      refine g_iload_n 1 o dX12_far_25 rfl rfl ?_
      refine g_iload_n 2 o dX12_far_26 rfl rfl ?_
      obtain ⟨x27, h27, q27, e⟩ := ob2_s e
      refine g_callSv [.int p0, .int p1] o (mX12_cell q27) mw_1180 mw_1181 mw_19 mw_1182 yo_X12_cell rfl rfl (Nat.le_of_ble_eq_true rfl) ⟨by decide, by decide⟩ ⟨rfl, rfl⟩ dX12_far_27 ⟨by decide, by decide⟩ ?_
      obtain ⟨x30, q30, e⟩ := ob e
      refine g_iald o dX12_far_30 q30 ?_
      refine g_ldc_w (v := 1000000) o dX12_far_31 mw_1179 ?_
      refine g_icmp_ge (x := x30) (y := 1000000) 50 o dX12_far_34 (by decide) (fun u => ?_) (fun u => ?_)
      · rw [if_pos u] at e
        refine g_iconst (v := -1) o dX12_far_50 (by decide) ?_
        exact g_iret o dX12_far_51 (rt_v q e)
      · rw [if_neg u] at e
        refine g_aload_n 0 o dX12_far_37 rfl rfl ?_
        obtain ⟨x38, q38, e⟩ := ob e
        refine g_getN 21 o cf12 (by decide) mw_1207 dX12_far_38 q38 ?_
        refine g_iload_n 1 o dX12_far_41 rfl rfl ?_
        refine g_iload_n 2 o dX12_far_42 rfl rfl ?_
        obtain ⟨x43, h43, q43, e⟩ := ob2_s e
        refine g_callSv [.int p0, .int p1] o (mX12_cell q43) mw_1180 mw_1181 mw_19 mw_1182 yo_X12_cell rfl rfl (Nat.le_of_ble_eq_true rfl) ⟨by decide, by decide⟩ ⟨rfl, rfl⟩ dX12_far_43 ⟨by decide, by decide⟩ ?_
        obtain ⟨x46, q46, e⟩ := ob e
        refine g_iald o dX12_far_46 q46 ?_
        refine g_goto 51 o dX12_far_47 (by decide) ?_
        exact g_iret o dX12_far_51 (rt_v q e)
theorem yo_X12_doesHear : yok yX12_doesHear 2 := ⟨by decide, by decide, by decide +kernel⟩
set_option maxRecDepth 100000 in
set_option maxHeartbeats 4000000 in
theorem mX12_doesHear {l : Launch} {D : va_G} {cy : Nat → ClassId} {f0 : Nat} {a : Nat} {p0 : Int32} {p1 : Int32} {h : Hp} {r : Int32} {hz : Hp} (e : fX12_doesHear f0 a p0 p1 h = some (r, hz)) : MC l D cy yX12_doesHear cX12_doesHear 3 (some .boolean) rmX12_doesHear [.ref a, .int p0, .int p1] h (some (.int r)) hz := by
  refine mc_of2 (by decide) (Nat.le_of_ble_eq_true rfl) (fun X hl hD hy hin o q => ?_)
  show G X 3 0 [(0, .ref a), (1, .int p0), (2, .int p1)] [] h 0 0
  unfold fX12_doesHear at e
  refine g_iload_n 1 o dX12_doesHear_0 rfl rfl ?_
  refine g_iload_n 2 o dX12_doesHear_1 rfl rfl ?_
  refine g_icmp_eq (x := p0) (y := p1) 25 o dX12_doesHear_2 (by decide) (fun u => ?_) (fun u => ?_)
  · rw [if_pos u] at e
    refine g_iconst (v := 0) o dX12_doesHear_25 (by decide) ?_
    exact g_zret o dX12_doesHear_26 (zr_s e).1 (rt_v q (zr_s e).2)
  · rw [if_neg u] at e
    refine g_aload_n 0 o dX12_doesHear_5 rfl rfl ?_
    obtain ⟨x6, q6, e⟩ := ob e
    refine g_getN 22 o cf12 (by decide) mw_1208 dX12_doesHear_6 q6 ?_
    refine g_iload_n 1 o dX12_doesHear_9 rfl rfl ?_
    refine g_iload_n 2 o dX12_doesHear_10 rfl rfl ?_
    obtain ⟨x11, h11, q11, e⟩ := ob2_s e
    refine g_callSv [.int p0, .int p1] o (mX12_cell q11) mw_1180 mw_1181 mw_19 mw_1182 yo_X12_cell rfl rfl (Nat.le_of_ble_eq_true rfl) ⟨by decide, by decide⟩ ⟨rfl, rfl⟩ dX12_doesHear_11 ⟨by decide, by decide⟩ ?_
    obtain ⟨x14, q14, e⟩ := ob e
    refine g_iald o dX12_doesHear_14 q14 ?_
    refine g_ldc_w (v := 1000000) o dX12_doesHear_15 mw_1179 ?_
    refine g_icmp_ge (x := x14) (y := 1000000) 25 o dX12_doesHear_18 (by decide) (fun u => ?_) (fun u => ?_)
    · rw [if_pos u] at e
      refine g_iconst (v := 0) o dX12_doesHear_25 (by decide) ?_
      exact g_zret o dX12_doesHear_26 (zr_s e).1 (rt_v q (zr_s e).2)
    · rw [if_neg u] at e
      refine g_iconst (v := 1) o dX12_doesHear_21 (by decide) ?_
      refine g_goto 26 o dX12_doesHear_22 (by decide) ?_
      exact g_zret o dX12_doesHear_26 (zr_s e).1 (rt_v q (zr_s e).2)
theorem yo_X12_hears : yok yX12_hears 2 := ⟨by decide, by decide, by decide +kernel⟩
set_option maxRecDepth 100000 in
set_option maxHeartbeats 4000000 in
theorem mX12_hears {l : Launch} {D : va_G} {cy : Nat → ClassId} {f0 : Nat} {a : Nat} {p0 : Int32} {p1 : Int32} {h : Hp} {r : Int32} {hz : Hp} (e : fX12_hears f0 a p0 p1 h = some (r, hz)) : MC l D cy yX12_hears cX12_hears 3 (some .int) rmX12_hears [.ref a, .int p0, .int p1] h (some (.int r)) hz := by
  refine mc_of2 (by decide) (Nat.le_of_ble_eq_true rfl) (fun X hl hD hy hin o q => ?_)
  show G X 3 0 [(0, .ref a), (1, .int p0), (2, .int p1)] [] h 0 0
  unfold fX12_hears at e
  refine g_aload_n 0 o dX12_hears_0 rfl rfl ?_
  refine g_iconst (v := 0) o dX12_hears_1 (by decide) ?_
  obtain ⟨h2, q2, e⟩ := ob e
  refine g_put (ty1 := .int) 0 o cf12 (by decide) mw_1186 rfl (by decide +kernel) rfl rfl dX12_hears_2 q2 ?_
  refine g_aload_n 0 o dX12_hears_5 rfl rfl ?_
  refine g_iload_n 1 o dX12_hears_6 rfl rfl ?_
  obtain ⟨_, k7, e⟩ := ob e
  obtain ⟨x7, h7, q7, e⟩ := ob2_s e
  refine g_callVv [.int p0] o (mX12_isPort q7) cf12 (ckO_s k7) mw_1369 mw_1370 mw_1747 mw_19 mw_1371 rfl yo_X12_isPort rfl rfl (Nat.le_of_ble_eq_true rfl) ⟨by decide, by decide⟩ ⟨rfl, rfl⟩ dX12_hears_7 ⟨by decide, by decide⟩ ?_
  refine g_if_eq (x := x7) 43 o dX12_hears_10 (by decide) (fun u => ?_) (fun u => ?_)
  · rw [if_pos u] at e
    refine g_iconst (v := -1) o dX12_hears_43 (by decide) ?_
    exact g_iret o dX12_hears_44 (rt_v q e)
  · rw [if_neg u] at e
    refine g_aload_n 0 o dX12_hears_13 rfl rfl ?_
    refine g_iload_n 2 o dX12_hears_14 rfl rfl ?_
    obtain ⟨_, k15, e⟩ := ob e
    obtain ⟨x15, h15, q15, e⟩ := ob2_s e
    refine g_callVv [.int p1] o (mX12_isPort q15) cf12 (ckO_s k15) mw_1369 mw_1370 mw_1747 mw_19 mw_1371 rfl yo_X12_isPort rfl rfl (Nat.le_of_ble_eq_true rfl) ⟨by decide, by decide⟩ ⟨rfl, rfl⟩ dX12_hears_15 ⟨by decide, by decide⟩ ?_
    refine g_if_eq (x := x15) 43 o dX12_hears_18 (by decide) (fun u => ?_) (fun u => ?_)
    · rw [if_pos u] at e
      refine g_iconst (v := -1) o dX12_hears_43 (by decide) ?_
      exact g_iret o dX12_hears_44 (rt_v q e)
    · rw [if_neg u] at e
      refine g_aload_n 0 o dX12_hears_21 rfl rfl ?_
      refine g_iload_n 1 o dX12_hears_22 rfl rfl ?_
      refine g_iload_n 2 o dX12_hears_23 rfl rfl ?_
      obtain ⟨_, k24, e⟩ := ob e
      obtain ⟨x24, h24, q24, e⟩ := ob2_s e
      refine g_callVv [.int p0, .int p1] o (mX12_doesHear q24) cf12 (ckO_s k24) mw_1500 mw_1501 mw_1772 mw_19 mw_1502 rfl yo_X12_doesHear rfl rfl (Nat.le_of_ble_eq_true rfl) ⟨by decide, by decide⟩ ⟨rfl, rfl⟩ dX12_hears_24 ⟨by decide, by decide⟩ ?_
      refine g_if_eq (x := x24) 43 o dX12_hears_27 (by decide) (fun u => ?_) (fun u => ?_)
      · rw [if_pos u] at e
        refine g_iconst (v := -1) o dX12_hears_43 (by decide) ?_
        exact g_iret o dX12_hears_44 (rt_v q e)
      · rw [if_neg u] at e
        refine g_aload_n 0 o dX12_hears_30 rfl rfl ?_
        obtain ⟨x31, q31, e⟩ := ob e
        refine g_getN 22 o cf12 (by decide) mw_1208 dX12_hears_31 q31 ?_
        refine g_iload_n 1 o dX12_hears_34 rfl rfl ?_
        refine g_iload_n 2 o dX12_hears_35 rfl rfl ?_
        obtain ⟨x36, h36, q36, e⟩ := ob2_s e
        refine g_callSv [.int p0, .int p1] o (mX12_cell q36) mw_1180 mw_1181 mw_19 mw_1182 yo_X12_cell rfl rfl (Nat.le_of_ble_eq_true rfl) ⟨by decide, by decide⟩ ⟨rfl, rfl⟩ dX12_hears_36 ⟨by decide, by decide⟩ ?_
        obtain ⟨x39, q39, e⟩ := ob e
        refine g_iald o dX12_hears_39 q39 ?_
        refine g_goto 44 o dX12_hears_40 (by decide) ?_
        exact g_iret o dX12_hears_44 (rt_v q e)
theorem yo_X12_safe : yok yX12_safe 1 := ⟨by decide, by decide, by decide +kernel⟩
set_option maxRecDepth 100000 in
set_option maxHeartbeats 4000000 in
theorem mX12_safe {l : Launch} {D : va_G} {cy : Nat → ClassId} {f0 : Nat} {a : Nat} {p0 : Int32} {h : Hp} {r : Int32} {hz : Hp} (e : fX12_safe f0 a p0 h = some (r, hz)) : MC l D cy yX12_safe cX12_safe 2 (some .int) rmX12_safe [.ref a, .int p0] h (some (.int r)) hz := by
  refine mc_of2 (by decide) (Nat.le_of_ble_eq_true rfl) (fun X hl hD hy hin o q => ?_)
  show G X 2 0 [(0, .ref a), (1, .int p0)] [] h 0 0
  unfold fX12_safe at e
  refine g_aload_n 0 o dX12_safe_0 rfl rfl ?_
  refine g_iconst (v := 0) o dX12_safe_1 (by decide) ?_
  obtain ⟨h2, q2, e⟩ := ob e
  refine g_put (ty1 := .int) 0 o cf12 (by decide) mw_1186 rfl (by decide +kernel) rfl rfl dX12_safe_2 q2 ?_
  refine g_aload_n 0 o dX12_safe_5 rfl rfl ?_
  refine g_iload_n 1 o dX12_safe_6 rfl rfl ?_
  obtain ⟨_, k7, e⟩ := ob e
  obtain ⟨x7, h7, q7, e⟩ := ob2_s e
  refine g_callVv [.int p0] o (mX12_isPort q7) cf12 (ckO_s k7) mw_1369 mw_1370 mw_1747 mw_19 mw_1371 rfl yo_X12_isPort rfl rfl (Nat.le_of_ble_eq_true rfl) ⟨by decide, by decide⟩ ⟨rfl, rfl⟩ dX12_safe_7 ⟨by decide, by decide⟩ ?_
  refine g_if_eq (x := x7) 43 o dX12_safe_10 (by decide) (fun u => ?_) (fun u => ?_)
  · rw [if_pos u] at e
    refine g_iconst (v := -1) o dX12_safe_43 (by decide) ?_
    exact g_iret o dX12_safe_44 (rt_v q e)
  · rw [if_neg u] at e
    refine g_aload_n 0 o dX12_safe_13 rfl rfl ?_
    obtain ⟨_, k14, e⟩ := ob e
    obtain ⟨x14, h14, q14, e⟩ := ob2_s e
    refine g_callVv [] o (mX12_canAct q14) cf12 (ckO_s k14) mw_1416 mw_1417 mw_1756 mw_19 mw_1418 rfl yo_X12_canAct rfl rfl (Nat.le_of_ble_eq_true rfl) ⟨by decide, by decide⟩ ⟨rfl, rfl⟩ dX12_safe_14 ⟨by decide, by decide⟩ ?_
    refine g_if_eq (x := x14) 43 o dX12_safe_17 (by decide) (fun u => ?_) (fun u => ?_)
    · rw [if_pos u] at e
      refine g_iconst (v := -1) o dX12_safe_43 (by decide) ?_
      exact g_iret o dX12_safe_44 (rt_v q e)
    · rw [if_neg u] at e
      refine g_aload_n 0 o dX12_safe_20 rfl rfl ?_
      obtain ⟨x21, q21, e⟩ := ob e
      refine g_getN 6 o cf12 (by decide) mw_1192 dX12_safe_21 q21 ?_
      refine g_bipush (v := 8) o dX12_safe_24 (by decide) ?_
      refine g_aload_n 0 o dX12_safe_26 rfl rfl ?_
      obtain ⟨x27, q27, e⟩ := ob e
      refine g_getN 6 o cf12 (by decide) mw_1192 dX12_safe_27 q27 ?_
      refine g_sipush (v := 313) o dX12_safe_30 (by decide) ?_
      obtain ⟨x33, q33, e⟩ := ob e
      refine g_iald o dX12_safe_33 q33 ?_
      refine g_iload_n 1 o dX12_safe_34 rfl rfl ?_
      obtain ⟨x35, h35, q35, e⟩ := ob2_s e
      refine g_callSv [.int x33, .int p0] o (mX12_cell q35) mw_1180 mw_1181 mw_19 mw_1182 yo_X12_cell rfl rfl (Nat.le_of_ble_eq_true rfl) ⟨by decide, by decide⟩ ⟨rfl, rfl⟩ dX12_safe_35 ⟨by decide, by decide⟩ ?_
      refine g_iadd (x := (8 : Int32)) (y := x35) o dX12_safe_38 ?_
      obtain ⟨x39, q39, e⟩ := ob e
      refine g_iald o dX12_safe_39 q39 ?_
      refine g_if_ne (x := x39) 45 o dX12_safe_40 (by decide) (fun u => ?_) (fun u => ?_)
      · rw [if_neg u] at e
        refine g_iconst (v := 1) o dX12_safe_45 (by decide) ?_
        refine g_aload_n 0 o dX12_safe_46 rfl rfl ?_
        obtain ⟨x47, q47, e⟩ := ob e
        refine g_getN 6 o cf12 (by decide) mw_1192 dX12_safe_47 q47 ?_
        refine g_iconst (v := 1) o dX12_safe_50 (by decide) ?_
        obtain ⟨x51, q51, e⟩ := ob e
        refine g_iald o dX12_safe_51 q51 ?_
        refine g_ishl (x := (1 : Int32)) (y := x51) o dX12_safe_52 ?_
        refine g_iconst (v := 1) o dX12_safe_53 (by decide) ?_
        refine g_isub (x := ((1 : Int32) <<< (x51 &&& 31))) (y := 1) o dX12_safe_54 ?_
        refine g_aload_n 0 o dX12_safe_55 rfl rfl ?_
        refine g_iload_n 1 o dX12_safe_56 rfl rfl ?_
        refine g_aload_n 0 o dX12_safe_57 rfl rfl ?_
        obtain ⟨x58, q58, e⟩ := ob e
        refine g_getN 6 o cf12 (by decide) mw_1192 dX12_safe_58 q58 ?_
        refine g_sipush (v := 312) o dX12_safe_61 (by decide) ?_
        obtain ⟨x64, q64, e⟩ := ob e
        refine g_iald o dX12_safe_64 q64 ?_
        refine g_aload_n 0 o dX12_safe_65 rfl rfl ?_
        obtain ⟨x66, q66, e⟩ := ob e
        refine g_getN 6 o cf12 (by decide) mw_1192 dX12_safe_66 q66 ?_
        refine g_bipush (v := 8) o dX12_safe_69 (by decide) ?_
        refine g_aload_n 0 o dX12_safe_71 rfl rfl ?_
        obtain ⟨x72, q72, e⟩ := ob e
        refine g_getN 6 o cf12 (by decide) mw_1192 dX12_safe_72 q72 ?_
        refine g_sipush (v := 313) o dX12_safe_75 (by decide) ?_
        obtain ⟨x78, q78, e⟩ := ob e
        refine g_iald o dX12_safe_78 q78 ?_
        refine g_iload_n 1 o dX12_safe_79 rfl rfl ?_
        obtain ⟨x80, h80, q80, e⟩ := ob2_s e
        refine g_callSv [.int x78, .int p0] o (mX12_cell q80) mw_1180 mw_1181 mw_19 mw_1182 yo_X12_cell rfl rfl (Nat.le_of_ble_eq_true rfl) ⟨by decide, by decide⟩ ⟨rfl, rfl⟩ dX12_safe_80 ⟨by decide, by decide⟩ ?_
        refine g_iadd (x := (8 : Int32)) (y := x80) o dX12_safe_83 ?_
        obtain ⟨x84, q84, e⟩ := ob e
        refine g_iald o dX12_safe_84 q84 ?_
        refine g_iadd (x := x64) (y := x84) o dX12_safe_85 ?_
        obtain ⟨_, k86, e⟩ := ob e
        obtain ⟨x86, h86, q86, e⟩ := ob2_s e
        refine g_callVv [.int p0, .int (x64 + x84)] o (mX12_knownAt q86) cf12 (ckO_s k86) mw_1375 mw_1376 mw_1749 mw_19 mw_1377 rfl yo_X12_knownAt rfl rfl (Nat.le_of_ble_eq_true rfl) ⟨by decide, by decide⟩ ⟨rfl, rfl⟩ dX12_safe_86 ⟨by decide, by decide⟩ ?_
        refine g_iconst (v := -1) o dX12_safe_89 (by decide) ?_
        refine g_ixor (x := x86) (y := (-1)) o dX12_safe_90 ?_
        refine g_iand (x := (((1 : Int32) <<< (x51 &&& 31)) - 1)) (y := (x86 ^^^ (-1))) o dX12_safe_91 ?_
        exact g_iret o dX12_safe_92 (rt_v q e)
      · rw [if_pos u] at e
        refine g_iconst (v := -1) o dX12_safe_43 (by decide) ?_
        exact g_iret o dX12_safe_44 (rt_v q e)
theorem yo_X12_outruns : yok yX12_outruns 1 := ⟨by decide, by decide, by decide +kernel⟩
set_option maxRecDepth 100000 in
set_option maxHeartbeats 4000000 in
theorem mX12_outruns {l : Launch} {D : va_G} {cy : Nat → ClassId} {f0 : Nat} {a : Nat} {p0 : Int32} {h : Hp} {r : Int32} {hz : Hp} (e : fX12_outruns f0 a p0 h = some (r, hz)) : MC l D cy yX12_outruns cX12_outruns 2 (some .int) rmX12_outruns [.ref a, .int p0] h (some (.int r)) hz := by
  refine mc_of2 (by decide) (Nat.le_of_ble_eq_true rfl) (fun X hl hD hy hin o q => ?_)
  show G X 2 0 [(0, .ref a), (1, .int p0)] [] h 0 0
  unfold fX12_outruns at e
  refine g_aload_n 0 o dX12_outruns_0 rfl rfl ?_
  refine g_iconst (v := 0) o dX12_outruns_1 (by decide) ?_
  obtain ⟨h2, q2, e⟩ := ob e
  refine g_put (ty1 := .int) 0 o cf12 (by decide) mw_1186 rfl (by decide +kernel) rfl rfl dX12_outruns_2 q2 ?_
  refine g_aload_n 0 o dX12_outruns_5 rfl rfl ?_
  refine g_iload_n 1 o dX12_outruns_6 rfl rfl ?_
  obtain ⟨_, k7, e⟩ := ob e
  obtain ⟨x7, h7, q7, e⟩ := ob2_s e
  refine g_callVv [.int p0] o (mX12_isPort q7) cf12 (ckO_s k7) mw_1369 mw_1370 mw_1747 mw_19 mw_1371 rfl yo_X12_isPort rfl rfl (Nat.le_of_ble_eq_true rfl) ⟨by decide, by decide⟩ ⟨rfl, rfl⟩ dX12_outruns_7 ⟨by decide, by decide⟩ ?_
  refine g_if_eq (x := x7) 43 o dX12_outruns_10 (by decide) (fun u => ?_) (fun u => ?_)
  · rw [if_pos u] at e
    refine g_iconst (v := -1) o dX12_outruns_43 (by decide) ?_
    exact g_iret o dX12_outruns_44 (rt_v q e)
  · rw [if_neg u] at e
    refine g_aload_n 0 o dX12_outruns_13 rfl rfl ?_
    obtain ⟨_, k14, e⟩ := ob e
    obtain ⟨x14, h14, q14, e⟩ := ob2_s e
    refine g_callVv [] o (mX12_isSea q14) cf12 (ckO_s k14) mw_1173 mw_1174 mw_1725 mw_19 mw_1175 rfl yo_X12_isSea rfl rfl (Nat.le_of_ble_eq_true rfl) ⟨by decide, by decide⟩ ⟨rfl, rfl⟩ dX12_outruns_14 ⟨by decide, by decide⟩ ?_
    refine g_if_eq (x := x14) 43 o dX12_outruns_17 (by decide) (fun u => ?_) (fun u => ?_)
    · rw [if_pos u] at e
      refine g_iconst (v := -1) o dX12_outruns_43 (by decide) ?_
      exact g_iret o dX12_outruns_44 (rt_v q e)
    · rw [if_neg u] at e
      refine g_aload_n 0 o dX12_outruns_20 rfl rfl ?_
      obtain ⟨x21, q21, e⟩ := ob e
      refine g_getN 21 o cf12 (by decide) mw_1207 dX12_outruns_21 q21 ?_
      refine g_aload_n 0 o dX12_outruns_24 rfl rfl ?_
      obtain ⟨x25, q25, e⟩ := ob e
      refine g_getN 6 o cf12 (by decide) mw_1192 dX12_outruns_25 q25 ?_
      refine g_sipush (v := 313) o dX12_outruns_28 (by decide) ?_
      obtain ⟨x31, q31, e⟩ := ob e
      refine g_iald o dX12_outruns_31 q31 ?_
      refine g_iload_n 1 o dX12_outruns_32 rfl rfl ?_
      obtain ⟨x33, h33, q33, e⟩ := ob2_s e
      refine g_callSv [.int x31, .int p0] o (mX12_cell q33) mw_1180 mw_1181 mw_19 mw_1182 yo_X12_cell rfl rfl (Nat.le_of_ble_eq_true rfl) ⟨by decide, by decide⟩ ⟨rfl, rfl⟩ dX12_outruns_33 ⟨by decide, by decide⟩ ?_
      obtain ⟨x36, q36, e⟩ := ob e
      refine g_iald o dX12_outruns_36 q36 ?_
      refine g_ldc_w (v := 1000000) o dX12_outruns_37 mw_1179 ?_
      refine g_icmp_lt (x := x36) (y := 1000000) 45 o dX12_outruns_40 (by decide) (fun u => ?_) (fun u => ?_)
      · rw [if_pos u] at e
        refine g_aload_n 0 o dX12_outruns_45 rfl rfl ?_
        obtain ⟨x46, q46, e⟩ := ob e
        refine g_getN 6 o cf12 (by decide) mw_1192 dX12_outruns_46 q46 ?_
        refine g_sipush (v := 312) o dX12_outruns_49 (by decide) ?_
        obtain ⟨x52, q52, e⟩ := ob e
        refine g_iald o dX12_outruns_52 q52 ?_
        refine g_aload_n 0 o dX12_outruns_53 rfl rfl ?_
        obtain ⟨x54, q54, e⟩ := ob e
        refine g_getN 21 o cf12 (by decide) mw_1207 dX12_outruns_54 q54 ?_
        refine g_aload_n 0 o dX12_outruns_57 rfl rfl ?_
        obtain ⟨x58, q58, e⟩ := ob e
        refine g_getN 6 o cf12 (by decide) mw_1192 dX12_outruns_58 q58 ?_
        refine g_sipush (v := 313) o dX12_outruns_61 (by decide) ?_
        obtain ⟨x64, q64, e⟩ := ob e
        refine g_iald o dX12_outruns_64 q64 ?_
        refine g_iload_n 1 o dX12_outruns_65 rfl rfl ?_
        obtain ⟨x66, h66, q66, e⟩ := ob2_s e
        refine g_callSv [.int x64, .int p0] o (mX12_cell q66) mw_1180 mw_1181 mw_19 mw_1182 yo_X12_cell rfl rfl (Nat.le_of_ble_eq_true rfl) ⟨by decide, by decide⟩ ⟨rfl, rfl⟩ dX12_outruns_66 ⟨by decide, by decide⟩ ?_
        obtain ⟨x69, q69, e⟩ := ob e
        refine g_iald o dX12_outruns_69 q69 ?_
        refine g_iadd (x := x52) (y := x69) o dX12_outruns_70 ?_
        refine g_aload_n 0 o dX12_outruns_71 rfl rfl ?_
        refine g_iload_n 1 o dX12_outruns_72 rfl rfl ?_
        refine g_aload_n 0 o dX12_outruns_73 rfl rfl ?_
        obtain ⟨x74, q74, e⟩ := ob e
        refine g_getN 6 o cf12 (by decide) mw_1192 dX12_outruns_74 q74 ?_
        refine g_sipush (v := 314) o dX12_outruns_77 (by decide) ?_
        obtain ⟨x80, q80, e⟩ := ob e
        refine g_iald o dX12_outruns_80 q80 ?_
        obtain ⟨_, k81, e⟩ := ob e
        obtain ⟨x81, h81, q81, e⟩ := ob2_s e
        refine g_callVv [.int p0, .int x80] o (mX12_knowsFrom q81) cf12 (ckO_s k81) mw_1378 mw_1379 mw_1750 mw_19 mw_1380 rfl yo_X12_knowsFrom rfl rfl (Nat.le_of_ble_eq_true rfl) ⟨by decide, by decide⟩ ⟨rfl, rfl⟩ dX12_outruns_81 ⟨by decide, by decide⟩ ?_
        refine g_icmp_ge (x := (x52 + x69)) (y := x81) 91 o dX12_outruns_84 (by decide) (fun u => ?_) (fun u => ?_)
        · rw [if_pos u] at e
          refine g_iconst (v := 0) o dX12_outruns_91 (by decide) ?_
          exact g_iret o dX12_outruns_92 (rt_v q e)
        · rw [if_neg u] at e
          refine g_iconst (v := 1) o dX12_outruns_87 (by decide) ?_
          refine g_goto 92 o dX12_outruns_88 (by decide) ?_
          exact g_iret o dX12_outruns_92 (rt_v q e)
      · rw [if_neg u] at e
        refine g_iconst (v := -1) o dX12_outruns_43 (by decide) ?_
        exact g_iret o dX12_outruns_44 (rt_v q e)
