set_option maxRecDepth 100000 in
set_option maxHeartbeats 4000000 in
theorem kX6_conclude_41 {X : Cx} (f0 : Nat) (g26 : Nat → Int32 → Hp → Option (Hp)) (i26 : ∀ (v02 : Nat) (v12 : Int32) (h2 : Hp) (hz : Hp), Rt X none hz 0 0 → g26 v02 v12 h2 = some hz → G X 3 26 [(0, .ref v02), (1, .int v12)] [] h2 0 0) (o : Ok X cX6_conclude RX6 3 rmX6_conclude none) (f : Nat) (v0 : Nat) (v1 : Int32) (v2 : Int32) (h : Hp) (hz : Hp) (q : Rt X none hz 0 0) (e : bX6_conclude_41 f0 g26 f v0 v1 v2 h = some hz) : G X 3 41 [(0, .ref v0), (1, .int v1), (2, .int v2)] [] h 0 0 := by
  induction f generalizing v0 v1 v2 h hz with
  | zero => cases e
  | succ f1 ih =>
    unfold bX6_conclude_41 at e
    refine g_iload_n 2 o dX6_conclude_41 rfl rfl ?_
    refine g_bipush (v := 8) o dX6_conclude_42 (by decide) ?_
    refine g_icmp_ge (x := v2) (y := 8) 75 o dX6_conclude_44 (by decide) (fun u => ?_) (fun u => ?_)
    · rw [if_pos u] at e
      refine g_iinc (k := 1) (v := (v1 + 1)) [(1, .int (v1 + 1)), (0, .ref v0), (2, .int v2)] o dX6_conclude_75 rfl rfl (by decide) rfl ?_
      refine g_goto 26 o dX6_conclude_78 (by decide) ?_
      refine g_sb [1, 0] rfl ?_
      exact i26 v0 (v1 + 1) h hz q e
    · rw [if_neg u] at e
      refine g_aload_n 0 o dX6_conclude_47 rfl rfl ?_
      obtain ⟨x48, q48, e⟩ := ob e
      refine g_getN 10 o cf6 (by decide) mw_173 dX6_conclude_48 q48 ?_
      refine g_iload_n 1 o dX6_conclude_51 rfl rfl ?_
      refine g_dup2 o dX6_conclude_52 rfl rfl ?_
      obtain ⟨x53, q53, e⟩ := ob e
      refine g_iald o dX6_conclude_53 q53 ?_
      refine g_aload_n 0 o dX6_conclude_54 rfl rfl ?_
      obtain ⟨x55, q55, e⟩ := ob e
      refine g_getN 7 o cf6 (by decide) mw_166 dX6_conclude_55 q55 ?_
      refine g_iload_n 1 o dX6_conclude_58 rfl rfl ?_
      refine g_bipush (v := 8) o dX6_conclude_59 (by decide) ?_
      refine g_imul (x := v1) (y := 8) o dX6_conclude_61 ?_
      refine g_iload_n 2 o dX6_conclude_62 rfl rfl ?_
      refine g_iadd (x := (v1 * 8)) (y := v2) o dX6_conclude_63 ?_
      obtain ⟨x64, q64, e⟩ := ob e
      refine g_iald o dX6_conclude_64 q64 ?_
      refine g_iload_n 2 o dX6_conclude_65 rfl rfl ?_
      refine g_ishl (x := x64) (y := v2) o dX6_conclude_66 ?_
      refine g_ior (x := x53) (y := (x64 <<< (v2 &&& 31))) o dX6_conclude_67 ?_
      obtain ⟨h68, q68, e⟩ := ob e
      refine g_iast o dX6_conclude_68 q68 ?_
      refine g_iinc (k := 2) (v := (v2 + 1)) [(2, .int (v2 + 1)), (0, .ref v0), (1, .int v1)] o dX6_conclude_69 rfl rfl (by decide) rfl ?_
      refine g_goto 41 o dX6_conclude_72 (by decide) ?_
      refine g_sb [1, 2, 0] rfl ?_
      exact ih v0 v1 (v2 + 1) h68 hz q e
set_option maxRecDepth 100000 in
set_option maxHeartbeats 4000000 in
theorem kX6_conclude_26 {X : Cx} (f0 : Nat) (o : Ok X cX6_conclude RX6 3 rmX6_conclude none) (f : Nat) (v0 : Nat) (v1 : Int32) (h : Hp) (hz : Hp) (q : Rt X none hz 0 0) (e : bX6_conclude_26 f0 f v0 v1 h = some hz) : G X 3 26 [(0, .ref v0), (1, .int v1)] [] h 0 0 := by
  induction f generalizing v0 v1 h hz with
  | zero => cases e
  | succ f1 ih =>
    unfold bX6_conclude_26 at e
    refine g_iload_n 1 o dX6_conclude_26 rfl rfl ?_
    refine g_bipush (v := 8) o dX6_conclude_27 (by decide) ?_
    refine g_icmp_ge (x := v1) (y := 8) 81 o dX6_conclude_29 (by decide) (fun u => ?_) (fun u => ?_)
    · rw [if_pos u] at e
      exact g_vret o dX6_conclude_81 (rt_0 q e)
    · rw [if_neg u] at e
      refine g_aload_n 0 o dX6_conclude_32 rfl rfl ?_
      obtain ⟨x33, q33, e⟩ := ob e
      refine g_getN 10 o cf6 (by decide) mw_173 dX6_conclude_33 q33 ?_
      refine g_iload_n 1 o dX6_conclude_36 rfl rfl ?_
      refine g_iconst (v := 0) o dX6_conclude_37 (by decide) ?_
      obtain ⟨h38, q38, e⟩ := ob e
      refine g_iast o dX6_conclude_38 q38 ?_
      refine g_iconst (v := 0) o dX6_conclude_39 (by decide) ?_
      refine g_istore_n [(2, .int 0), (0, .ref v0), (1, .int v1)] o dX6_conclude_40 rfl (by decide) rfl ?_
      refine g_sb [1, 2, 0] rfl ?_
      exact kX6_conclude_41 f0 (bX6_conclude_26 f0 f1) ih o f0 v0 v1 0 h38 hz q e
theorem yo_X6_conclude : yok yX6_conclude 0 := ⟨by decide, by decide, by decide +kernel⟩
set_option maxRecDepth 100000 in
set_option maxHeartbeats 4000000 in
theorem mX6_conclude {l : Launch} {D : va_G} {cy : Nat → ClassId} {f0 : Nat} {a : Nat} {h : Hp} {hz : Hp} (e : fX6_conclude f0 a h = some hz) : MC l D cy yX6_conclude cX6_conclude 3 none rmX6_conclude [.ref a] h none hz := by
  refine mc_of2 (by decide) (Nat.le_of_ble_eq_true rfl) (fun X hl hD hy hin o q => ?_)
  subst hl; subst hD; subst hy
  show G X 3 0 [(0, .ref a)] [] h 0 0
  unfold fX6_conclude at e
  refine g_aload_n 0 o dX6_conclude_0 rfl rfl ?_
  refine g_aload_n 0 o dX6_conclude_1 rfl rfl ?_
  obtain ⟨x2, q2, e⟩ := ob e
  refine g_getN 3 o cf6 (by decide) mw_152 dX6_conclude_2 q2 ?_
  refine g_aload_n 0 o dX6_conclude_5 rfl rfl ?_
  obtain ⟨x6, q6, e⟩ := ob e
  refine g_getN 11 o cf6 (by decide) mw_176 dX6_conclude_6 q6 ?_
  obtain ⟨_, k9, e⟩ := ob e
  obtain ⟨h9, q9, e⟩ := ob e
  refine g_callV0 [.ref x2, .ref x6] o (mX6_shortest q9) cf6 (ckO_s k9) mw_571 mw_572 mw_1696 mw_7 mw_573 rfl yo_X6_shortest rfl rfl (Nat.le_of_ble_eq_true rfl) ⟨by decide, by decide⟩ ⟨rfl, rfl⟩ dX6_conclude_9 ⟨by decide, by decide⟩ ?_
  refine g_aload_n 0 o dX6_conclude_12 rfl rfl ?_
  refine g_aload_n 0 o dX6_conclude_13 rfl rfl ?_
  obtain ⟨x14, q14, e⟩ := ob e
  refine g_getN 4 o cf6 (by decide) mw_156 dX6_conclude_14 q14 ?_
  refine g_aload_n 0 o dX6_conclude_17 rfl rfl ?_
  obtain ⟨x18, q18, e⟩ := ob e
  refine g_getN 12 o cf6 (by decide) mw_180 dX6_conclude_18 q18 ?_
  obtain ⟨_, k21, e⟩ := ob e
  obtain ⟨h21, q21, e⟩ := ob e
  refine g_callV0 [.ref x14, .ref x18] o (mX6_shortest q21) cf6 (ckO_s k21) mw_571 mw_572 mw_1696 mw_7 mw_573 rfl yo_X6_shortest rfl rfl (Nat.le_of_ble_eq_true rfl) ⟨by decide, by decide⟩ ⟨rfl, rfl⟩ dX6_conclude_21 ⟨by decide, by decide⟩ ?_
  refine g_iconst (v := 0) o dX6_conclude_24 (by decide) ?_
  refine g_istore_n [(1, .int 0), (0, .ref a)] o dX6_conclude_25 rfl (by decide) rfl ?_
  refine g_sb [1, 0] rfl ?_
  exact kX6_conclude_26 f0 o f0 a 0 h21 hz q e
set_option maxRecDepth 100000 in
set_option maxHeartbeats 4000000 in
theorem kX7_read_57 {X : Cx} (f0 : Nat) (o : Ok X cX7_read RX7 3 rmX7_read (some .int)) (v0 : Nat) (v2 : Int32) (h : Hp) (r : Int32) (hz : Hp) (q : Rt X (some (.int r)) hz 0 0) (e : bX7_read_57 f0 v0 v2 h = some (r, hz)) : G X 3 57 [(0, .ref v0), (2, .int v2)] [] h 0 0 := by
  unfold bX7_read_57 at e
  refine g_aload_n 0 o dX7_read_57 rfl rfl ?_
  obtain ⟨x58, q58, e⟩ := ob e
  refine g_getN 0 o cf7 (by decide) mw_202 dX7_read_58 q58 ?_
  obtain ⟨_, k61, e⟩ := ob e
  obtain ⟨x61, h61, q61, e⟩ := ob2_s e
  refine g_callVv [] o (mX4_passEnd q61) cf4 (ckO_s k61) mw_563 mw_564 mw_565 mw_2 mw_566 rfl yo_X4_passEnd rfl rfl (Nat.le_of_ble_eq_true rfl) ⟨by decide, by decide⟩ ⟨rfl, rfl⟩ dX7_read_61 ⟨by decide, by decide⟩ ?_
  refine g_if_ne (x := x61) 69 o dX7_read_64 (by decide) (fun u => ?_) (fun u => ?_)
  · rw [if_neg u] at e
    refine g_aload_n 0 o dX7_read_69 rfl rfl ?_
    obtain ⟨x70, q70, e⟩ := ob e
    refine g_getN 1 o cf7 (by decide) mw_203 dX7_read_70 q70 ?_
    obtain ⟨_, k73, e⟩ := ob e
    obtain ⟨h73, q73, e⟩ := ob e
    refine g_callV0 [] o (mX6_conclude q73) cf6 (ckO_s k73) mw_567 mw_568 mw_569 mw_7 mw_570 rfl yo_X6_conclude rfl rfl (Nat.le_of_ble_eq_true rfl) ⟨by decide, by decide⟩ ⟨rfl, rfl⟩ dX7_read_73 ⟨by decide, by decide⟩ ?_
    refine g_iload_n 1 o dX7_read_76 rfl rfl ?_
    exact g_iret o dX7_read_77 (rt_v q e)
  · rw [if_pos u] at e
    refine g_iconst (v := -1) o dX7_read_67 (by decide) ?_
    exact g_iret o dX7_read_68 (rt_v q e)
set_option maxRecDepth 100000 in
set_option maxHeartbeats 4000000 in
theorem kX7_read_25 {X : Cx} (f0 : Nat) (o : Ok X cX7_read RX7 3 rmX7_read (some .int)) (f : Nat) (v0 : Nat) (v2 : Int32) (h : Hp) (r : Int32) (hz : Hp) (q : Rt X (some (.int r)) hz 0 0) (e : bX7_read_25 f0 f v0 v2 h = some (r, hz)) : G X 3 25 [(0, .ref v0), (2, .int v2)] [] h 0 0 := by
  induction f generalizing v0 v2 h r hz with
  | zero => cases e
  | succ f1 ih =>
    unfold bX7_read_25 at e
    refine g_iload_n 1 o dX7_read_25 rfl rfl ?_
    refine g_sipush (v := 900) o dX7_read_26 (by decide) ?_
    refine g_icmp_ge (x := v2) (y := 900) 57 o dX7_read_29 (by decide) (fun u => ?_) (fun u => ?_)
    · rw [if_pos u] at e
      exact kX7_read_57 f0 o v0 v2 h r hz q e
    · rw [if_neg u] at e
      refine g_aload_n 0 o dX7_read_32 rfl rfl ?_
      obtain ⟨x33, q33, e⟩ := ob e
      refine g_getN 0 o cf7 (by decide) mw_202 dX7_read_33 q33 ?_
      obtain ⟨x36, q36, e⟩ := ob e
      refine g_getI 5 o cf4 (by decide) mw_90 dX7_read_36 q36 ?_
      refine g_if_eq (x := x36) 57 o dX7_read_39 (by decide) (fun u => ?_) (fun u => ?_)
      · rw [if_pos u] at e
        exact kX7_read_57 f0 o v0 v2 h r hz q e
      · rw [if_neg u] at e
        refine g_aload_n 0 o dX7_read_42 rfl rfl ?_
        obtain ⟨_, k43, e⟩ := ob e
        obtain ⟨x43, h43, q43, e⟩ := ob2_s e
        refine g_callVv [] o (mX7_readLine q43) cf7 (ckO_s k43) mw_499 mw_500 mw_1688 mw_9 mw_501 rfl yo_X7_readLine rfl rfl (Nat.le_of_ble_eq_true rfl) ⟨by decide, by decide⟩ ⟨rfl, rfl⟩ dX7_read_43 ⟨by decide, by decide⟩ ?_
        refine g_if_ne (x := x43) 51 o dX7_read_46 (by decide) (fun u => ?_) (fun u => ?_)
        · rw [if_neg u] at e
          refine g_iinc (k := 1) (v := (v2 + 1)) [(2, .int (v2 + 1)), (0, .ref v0)] o dX7_read_51 rfl rfl (by decide) rfl ?_
          refine g_goto 25 o dX7_read_54 (by decide) ?_
          refine g_sb [1, 0] rfl ?_
          exact ih v0 (v2 + 1) h43 r hz q e
        · rw [if_pos u] at e
          refine g_iconst (v := -1) o dX7_read_49 (by decide) ?_
          exact g_iret o dX7_read_50 (rt_v q e)
theorem yo_X7_read : yok yX7_read 1 := ⟨by decide, by decide, by decide +kernel⟩
set_option maxRecDepth 100000 in
set_option maxHeartbeats 4000000 in
theorem mX7_read {l : Launch} {D : va_G} {cy : Nat → ClassId} {f0 : Nat} {a : Nat} {p0 : Int32} {h : Hp} {r : Int32} {hz : Hp} (e : fX7_read f0 a p0 h = some (r, hz)) : MC l D cy yX7_read cX7_read 3 (some .int) rmX7_read [.ref a, .int p0] h (some (.int r)) hz := by
  refine mc_of2 (by decide) (Nat.le_of_ble_eq_true rfl) (fun X hl hD hy hin o q => ?_)
  subst hl; subst hD; subst hy
  show G X 3 0 [(0, .ref a), (1, .int p0)] [] h 0 0
  unfold fX7_read at e
  refine g_aload_n 0 o dX7_read_0 rfl rfl ?_
  obtain ⟨x1, q1, e⟩ := ob e
  refine g_getN 0 o cf7 (by decide) mw_202 dX7_read_1 q1 ?_
  refine g_iload_n 1 o dX7_read_4 rfl rfl ?_
  refine g_sipush (v := 900) o dX7_read_5 (by decide) ?_
  obtain ⟨_, k8, e⟩ := ob e
  obtain ⟨h8, q8, e⟩ := ob e
  refine g_callV0 [.int p0, .int 900] o (mX4_open q8) cf4 (ckO_s k8) mw_422 mw_423 mw_424 mw_2 mw_425 rfl yo_X4_open rfl rfl (Nat.le_of_ble_eq_true rfl) ⟨by decide, by decide⟩ ⟨rfl, rfl⟩ dX7_read_8 ⟨by decide, by decide⟩ ?_
  refine g_aload_n 0 o dX7_read_11 rfl rfl ?_
  obtain ⟨x12, q12, e⟩ := ob e
  refine g_getN 1 o cf7 (by decide) mw_203 dX7_read_12 q12 ?_
  obtain ⟨_, k15, e⟩ := ob e
  obtain ⟨h15, q15, e⟩ := ob e
  refine g_callV0 [] o (mX6_clear q15) cf6 (ckO_s k15) mw_494 mw_495 mw_496 mw_7 mw_497 rfl yo_X6_clear rfl rfl (Nat.le_of_ble_eq_true rfl) ⟨by decide, by decide⟩ ⟨rfl, rfl⟩ dX7_read_15 ⟨by decide, by decide⟩ ?_
  refine g_aload_n 0 o dX7_read_18 rfl rfl ?_
  refine g_iconst (v := 0) o dX7_read_19 (by decide) ?_
  obtain ⟨h20, q20, e⟩ := ob e
  refine g_put (ty1 := .boolean) 2 o cf7 (by decide) mw_204 rfl (by decide +kernel) (nar_z (pfZ_s q20).1).1 (nar_z (pfZ_s q20).1).2 dX7_read_20 (pfZ_s q20).2 ?_
  refine g_iconst (v := 0) o dX7_read_23 (by decide) ?_
  refine g_istore_n [(2, .int 0), (0, .ref a), (1, .int p0)] o dX7_read_24 rfl (by decide) rfl ?_
  refine g_sb [1, 0] rfl ?_
  exact kX7_read_25 f0 o f0 a 0 h20 r hz q e
theorem yo_X3_copyFrom : yok yX3_copyFrom 1 := ⟨by decide, by decide, by decide +kernel⟩
set_option maxRecDepth 100000 in
set_option maxHeartbeats 4000000 in
theorem mX3_copyFrom {l : Launch} {D : va_G} {cy : Nat → ClassId} {f0 : Nat} {a : Nat} {p0 : Nat} {h : Hp} {hz : Hp} (e : fX3_copyFrom f0 a p0 h = some hz) : MC l D cy yX3_copyFrom cX3_copyFrom 2 none rmX3_copyFrom [.ref a, .ref p0] h none hz := by
  refine mc_of2 (by decide) (Nat.le_of_ble_eq_true rfl) (fun X hl hD hy hin o q => ?_)
  subst hl; subst hD; subst hy
  show G X 2 0 [(0, .ref a), (1, .ref p0)] [] h 0 0
  unfold fX3_copyFrom at e
  refine g_aload_n 1 o dX3_copyFrom_0 rfl rfl ?_
  obtain ⟨x1, q1, e⟩ := ob e
  refine g_getN 0 o cf3 (by decide) mw_129 dX3_copyFrom_1 q1 ?_
  refine g_iconst (v := 0) o dX3_copyFrom_4 (by decide) ?_
  refine g_aload_n 0 o dX3_copyFrom_5 rfl rfl ?_
  obtain ⟨x6, q6, e⟩ := ob e
  refine g_getN 0 o cf3 (by decide) mw_129 dX3_copyFrom_6 q6 ?_
  refine g_iconst (v := 0) o dX3_copyFrom_9 (by decide) ?_
  refine g_bipush (v := 30) o dX3_copyFrom_10 (by decide) ?_
  obtain ⟨h12, q12, e⟩ := ob e
  refine g_cpJ (t := 2) (ty := FieldType.long) rfl rfl (fun _ => rfl) o mw_584 mw_356 mw_355 mw_17 ⟨by decide, Nat.le_of_ble_eq_true rfl⟩ dX3_copyFrom_12 q12 ?_
  refine g_aload_n 1 o dX3_copyFrom_15 rfl rfl ?_
  obtain ⟨x16, q16, e⟩ := ob e
  refine g_getN 1 o cf3 (by decide) mw_130 dX3_copyFrom_16 q16 ?_
  refine g_iconst (v := 0) o dX3_copyFrom_19 (by decide) ?_
  refine g_aload_n 0 o dX3_copyFrom_20 rfl rfl ?_
  obtain ⟨x21, q21, e⟩ := ob e
  refine g_getN 1 o cf3 (by decide) mw_130 dX3_copyFrom_21 q21 ?_
  refine g_iconst (v := 0) o dX3_copyFrom_24 (by decide) ?_
  refine g_bipush (v := 30) o dX3_copyFrom_25 (by decide) ?_
  obtain ⟨h27, q27, e⟩ := ob e
  refine g_cpI (t := 1) (ty := FieldType.int) rfl rfl (fun _ => rfl) o mw_584 mw_356 mw_355 mw_17 ⟨by decide, Nat.le_of_ble_eq_true rfl⟩ dX3_copyFrom_27 q27 ?_
  refine g_aload_n 1 o dX3_copyFrom_30 rfl rfl ?_
  obtain ⟨x31, q31, e⟩ := ob e
  refine g_getN 2 o cf3 (by decide) mw_131 dX3_copyFrom_31 q31 ?_
  refine g_iconst (v := 0) o dX3_copyFrom_34 (by decide) ?_
  refine g_aload_n 0 o dX3_copyFrom_35 rfl rfl ?_
  obtain ⟨x36, q36, e⟩ := ob e
  refine g_getN 2 o cf3 (by decide) mw_131 dX3_copyFrom_36 q36 ?_
  refine g_iconst (v := 0) o dX3_copyFrom_39 (by decide) ?_
  refine g_bipush (v := 30) o dX3_copyFrom_40 (by decide) ?_
  obtain ⟨h42, q42, e⟩ := ob e
  refine g_cpI (t := 1) (ty := FieldType.int) rfl rfl (fun _ => rfl) o mw_584 mw_356 mw_355 mw_17 ⟨by decide, Nat.le_of_ble_eq_true rfl⟩ dX3_copyFrom_42 q42 ?_
  refine g_aload_n 0 o dX3_copyFrom_45 rfl rfl ?_
  refine g_aload_n 1 o dX3_copyFrom_46 rfl rfl ?_
  obtain ⟨x47, q47, e⟩ := ob e
  refine g_getI 3 o cf3 (by decide) mw_132 dX3_copyFrom_47 q47 ?_
  obtain ⟨h50, q50, e⟩ := ob e
  refine g_put (ty1 := .int) 3 o cf3 (by decide) mw_132 rfl (by decide +kernel) rfl rfl dX3_copyFrom_50 q50 ?_
  exact g_vret o dX3_copyFrom_53 (rt_0 q e)
theorem yo_X6_copyFrom : yok yX6_copyFrom 1 := ⟨by decide, by decide, by decide +kernel⟩
set_option maxRecDepth 100000 in
set_option maxHeartbeats 4000000 in
theorem mX6_copyFrom {l : Launch} {D : va_G} {cy : Nat → ClassId} {f0 : Nat} {a : Nat} {p0 : Nat} {h : Hp} {hz : Hp} (e : fX6_copyFrom f0 a p0 h = some hz) : MC l D cy yX6_copyFrom cX6_copyFrom 2 none rmX6_copyFrom [.ref a, .ref p0] h none hz := by
  refine mc_of2 (by decide) (Nat.le_of_ble_eq_true rfl) (fun X hl hD hy hin o q => ?_)
  subst hl; subst hD; subst hy
  show G X 2 0 [(0, .ref a), (1, .ref p0)] [] h 0 0
  unfold fX6_copyFrom at e
  refine g_aload_n 0 o dX6_copyFrom_0 rfl rfl ?_
  obtain ⟨x1, q1, e⟩ := ob e
  refine g_getN 0 o cf6 (by decide) mw_139 dX6_copyFrom_1 q1 ?_
  refine g_aload_n 1 o dX6_copyFrom_4 rfl rfl ?_
  obtain ⟨x5, q5, e⟩ := ob e
  refine g_getN 0 o cf6 (by decide) mw_139 dX6_copyFrom_5 q5 ?_
  obtain ⟨_, k8, e⟩ := ob e
  obtain ⟨h8, q8, e⟩ := ob e
  refine g_callV0 [.ref x5] o (mX3_copyFrom q8) cf3 (ckO_s k8) mw_580 mw_581 mw_582 mw_8 mw_583 rfl yo_X3_copyFrom rfl rfl (Nat.le_of_ble_eq_true rfl) ⟨by decide, by decide⟩ ⟨rfl, rfl⟩ dX6_copyFrom_8 ⟨by decide, by decide⟩ ?_
  refine g_aload_n 1 o dX6_copyFrom_11 rfl rfl ?_
  obtain ⟨x12, q12, e⟩ := ob e
  refine g_getN 1 o cf6 (by decide) mw_142 dX6_copyFrom_12 q12 ?_
  refine g_iconst (v := 0) o dX6_copyFrom_15 (by decide) ?_
  refine g_aload_n 0 o dX6_copyFrom_16 rfl rfl ?_
  obtain ⟨x17, q17, e⟩ := ob e
  refine g_getN 1 o cf6 (by decide) mw_142 dX6_copyFrom_17 q17 ?_
  refine g_iconst (v := 0) o dX6_copyFrom_20 (by decide) ?_
  refine g_aload_n 0 o dX6_copyFrom_21 rfl rfl ?_
  obtain ⟨x22, q22, e⟩ := ob e
  refine g_getN 1 o cf6 (by decide) mw_142 dX6_copyFrom_22 q22 ?_
  obtain ⟨x25, q25, e⟩ := ob e
  refine g_alen (by decide) o dX6_copyFrom_25 q25 ?_
  obtain ⟨h26, q26, e⟩ := ob e
  refine g_cpI (t := 1) (ty := FieldType.int) rfl rfl (fun _ => rfl) o mw_585 mw_356 mw_355 mw_17 ⟨by decide, Nat.le_of_ble_eq_true rfl⟩ dX6_copyFrom_26 q26 ?_
  refine g_aload_n 0 o dX6_copyFrom_29 rfl rfl ?_
  refine g_aload_n 1 o dX6_copyFrom_30 rfl rfl ?_
  obtain ⟨x31, q31, e⟩ := ob e
  refine g_getI 2 o cf6 (by decide) mw_148 dX6_copyFrom_31 q31 ?_
  obtain ⟨h34, q34, e⟩ := ob e
  refine g_put (ty1 := .int) 2 o cf6 (by decide) mw_148 rfl (by decide +kernel) rfl rfl dX6_copyFrom_34 q34 ?_
  refine g_aload_n 1 o dX6_copyFrom_37 rfl rfl ?_
  obtain ⟨x38, q38, e⟩ := ob e
  refine g_getN 3 o cf6 (by decide) mw_152 dX6_copyFrom_38 q38 ?_
  refine g_iconst (v := 0) o dX6_copyFrom_41 (by decide) ?_
  refine g_aload_n 0 o dX6_copyFrom_42 rfl rfl ?_
  obtain ⟨x43, q43, e⟩ := ob e
  refine g_getN 3 o cf6 (by decide) mw_152 dX6_copyFrom_43 q43 ?_
  refine g_iconst (v := 0) o dX6_copyFrom_46 (by decide) ?_
  refine g_bipush (v := 64) o dX6_copyFrom_47 (by decide) ?_
  obtain ⟨h49, q49, e⟩ := ob e
  refine g_cpI (t := 1) (ty := FieldType.int) rfl rfl (fun _ => rfl) o mw_585 mw_356 mw_355 mw_17 ⟨by decide, Nat.le_of_ble_eq_true rfl⟩ dX6_copyFrom_49 q49 ?_
  refine g_aload_n 1 o dX6_copyFrom_52 rfl rfl ?_
  obtain ⟨x53, q53, e⟩ := ob e
  refine g_getN 4 o cf6 (by decide) mw_156 dX6_copyFrom_53 q53 ?_
  refine g_iconst (v := 0) o dX6_copyFrom_56 (by decide) ?_
  refine g_aload_n 0 o dX6_copyFrom_57 rfl rfl ?_
  obtain ⟨x58, q58, e⟩ := ob e
  refine g_getN 4 o cf6 (by decide) mw_156 dX6_copyFrom_58 q58 ?_
  refine g_iconst (v := 0) o dX6_copyFrom_61 (by decide) ?_
  refine g_bipush (v := 64) o dX6_copyFrom_62 (by decide) ?_
  obtain ⟨h64, q64, e⟩ := ob e
  refine g_cpI (t := 1) (ty := FieldType.int) rfl rfl (fun _ => rfl) o mw_585 mw_356 mw_355 mw_17 ⟨by decide, Nat.le_of_ble_eq_true rfl⟩ dX6_copyFrom_64 q64 ?_
  refine g_aload_n 1 o dX6_copyFrom_67 rfl rfl ?_
  obtain ⟨x68, q68, e⟩ := ob e
  refine g_getN 5 o cf6 (by decide) mw_159 dX6_copyFrom_68 q68 ?_
  refine g_iconst (v := 0) o dX6_copyFrom_71 (by decide) ?_
  refine g_aload_n 0 o dX6_copyFrom_72 rfl rfl ?_
  obtain ⟨x73, q73, e⟩ := ob e
  refine g_getN 5 o cf6 (by decide) mw_159 dX6_copyFrom_73 q73 ?_
  refine g_iconst (v := 0) o dX6_copyFrom_76 (by decide) ?_
  refine g_bipush (v := 64) o dX6_copyFrom_77 (by decide) ?_
  obtain ⟨h79, q79, e⟩ := ob e
  refine g_cpI (t := 1) (ty := FieldType.int) rfl rfl (fun _ => rfl) o mw_585 mw_356 mw_355 mw_17 ⟨by decide, Nat.le_of_ble_eq_true rfl⟩ dX6_copyFrom_79 q79 ?_
  refine g_aload_n 1 o dX6_copyFrom_82 rfl rfl ?_
  obtain ⟨x83, q83, e⟩ := ob e
  refine g_getN 6 o cf6 (by decide) mw_163 dX6_copyFrom_83 q83 ?_
  refine g_iconst (v := 0) o dX6_copyFrom_86 (by decide) ?_
  refine g_aload_n 0 o dX6_copyFrom_87 rfl rfl ?_
  obtain ⟨x88, q88, e⟩ := ob e
  refine g_getN 6 o cf6 (by decide) mw_163 dX6_copyFrom_88 q88 ?_
  refine g_iconst (v := 0) o dX6_copyFrom_91 (by decide) ?_
  refine g_bipush (v := 64) o dX6_copyFrom_92 (by decide) ?_
  obtain ⟨h94, q94, e⟩ := ob e
  refine g_cpI (t := 1) (ty := FieldType.int) rfl rfl (fun _ => rfl) o mw_585 mw_356 mw_355 mw_17 ⟨by decide, Nat.le_of_ble_eq_true rfl⟩ dX6_copyFrom_94 q94 ?_
  refine g_aload_n 1 o dX6_copyFrom_97 rfl rfl ?_
  obtain ⟨x98, q98, e⟩ := ob e
  refine g_getN 7 o cf6 (by decide) mw_166 dX6_copyFrom_98 q98 ?_
  refine g_iconst (v := 0) o dX6_copyFrom_101 (by decide) ?_
  refine g_aload_n 0 o dX6_copyFrom_102 rfl rfl ?_
  obtain ⟨x103, q103, e⟩ := ob e
  refine g_getN 7 o cf6 (by decide) mw_166 dX6_copyFrom_103 q103 ?_
  refine g_iconst (v := 0) o dX6_copyFrom_106 (by decide) ?_
  refine g_bipush (v := 64) o dX6_copyFrom_107 (by decide) ?_
  obtain ⟨h109, q109, e⟩ := ob e
  refine g_cpI (t := 1) (ty := FieldType.int) rfl rfl (fun _ => rfl) o mw_585 mw_356 mw_355 mw_17 ⟨by decide, Nat.le_of_ble_eq_true rfl⟩ dX6_copyFrom_109 q109 ?_
  refine g_aload_n 1 o dX6_copyFrom_112 rfl rfl ?_
  obtain ⟨x113, q113, e⟩ := ob e
  refine g_getN 8 o cf6 (by decide) mw_168 dX6_copyFrom_113 q113 ?_
  refine g_iconst (v := 0) o dX6_copyFrom_116 (by decide) ?_
  refine g_aload_n 0 o dX6_copyFrom_117 rfl rfl ?_
  obtain ⟨x118, q118, e⟩ := ob e
  refine g_getN 8 o cf6 (by decide) mw_168 dX6_copyFrom_118 q118 ?_
  refine g_iconst (v := 0) o dX6_copyFrom_121 (by decide) ?_
  refine g_bipush (v := 8) o dX6_copyFrom_122 (by decide) ?_
  obtain ⟨h124, q124, e⟩ := ob e
  refine g_cpI (t := 1) (ty := FieldType.int) rfl rfl (fun _ => rfl) o mw_585 mw_356 mw_355 mw_17 ⟨by decide, Nat.le_of_ble_eq_true rfl⟩ dX6_copyFrom_124 q124 ?_
  refine g_aload_n 1 o dX6_copyFrom_127 rfl rfl ?_
  obtain ⟨x128, q128, e⟩ := ob e
  refine g_getN 9 o cf6 (by decide) mw_171 dX6_copyFrom_128 q128 ?_
  refine g_iconst (v := 0) o dX6_copyFrom_131 (by decide) ?_
  refine g_aload_n 0 o dX6_copyFrom_132 rfl rfl ?_
  obtain ⟨x133, q133, e⟩ := ob e
  refine g_getN 9 o cf6 (by decide) mw_171 dX6_copyFrom_133 q133 ?_
  refine g_iconst (v := 0) o dX6_copyFrom_136 (by decide) ?_
  refine g_aload_n 0 o dX6_copyFrom_137 rfl rfl ?_
  obtain ⟨x138, q138, e⟩ := ob e
  refine g_getN 9 o cf6 (by decide) mw_171 dX6_copyFrom_138 q138 ?_
  obtain ⟨x141, q141, e⟩ := ob e
  refine g_alen (by decide) o dX6_copyFrom_141 q141 ?_
  obtain ⟨h142, q142, e⟩ := ob e
  refine g_cpI (t := 1) (ty := FieldType.int) rfl rfl (fun _ => rfl) o mw_585 mw_356 mw_355 mw_17 ⟨by decide, Nat.le_of_ble_eq_true rfl⟩ dX6_copyFrom_142 q142 ?_
  refine g_aload_n 1 o dX6_copyFrom_145 rfl rfl ?_
  obtain ⟨x146, q146, e⟩ := ob e
  refine g_getN 10 o cf6 (by decide) mw_173 dX6_copyFrom_146 q146 ?_
  refine g_iconst (v := 0) o dX6_copyFrom_149 (by decide) ?_
  refine g_aload_n 0 o dX6_copyFrom_150 rfl rfl ?_
  obtain ⟨x151, q151, e⟩ := ob e
  refine g_getN 10 o cf6 (by decide) mw_173 dX6_copyFrom_151 q151 ?_
  refine g_iconst (v := 0) o dX6_copyFrom_154 (by decide) ?_
  refine g_bipush (v := 8) o dX6_copyFrom_155 (by decide) ?_
  obtain ⟨h157, q157, e⟩ := ob e
  refine g_cpI (t := 1) (ty := FieldType.int) rfl rfl (fun _ => rfl) o mw_585 mw_356 mw_355 mw_17 ⟨by decide, Nat.le_of_ble_eq_true rfl⟩ dX6_copyFrom_157 q157 ?_
  refine g_aload_n 1 o dX6_copyFrom_160 rfl rfl ?_
  obtain ⟨x161, q161, e⟩ := ob e
  refine g_getN 11 o cf6 (by decide) mw_176 dX6_copyFrom_161 q161 ?_
  refine g_iconst (v := 0) o dX6_copyFrom_164 (by decide) ?_
  refine g_aload_n 0 o dX6_copyFrom_165 rfl rfl ?_
  obtain ⟨x166, q166, e⟩ := ob e
  refine g_getN 11 o cf6 (by decide) mw_176 dX6_copyFrom_166 q166 ?_
  refine g_iconst (v := 0) o dX6_copyFrom_169 (by decide) ?_
  refine g_bipush (v := 64) o dX6_copyFrom_170 (by decide) ?_
  obtain ⟨h172, q172, e⟩ := ob e
  refine g_cpI (t := 1) (ty := FieldType.int) rfl rfl (fun _ => rfl) o mw_585 mw_356 mw_355 mw_17 ⟨by decide, Nat.le_of_ble_eq_true rfl⟩ dX6_copyFrom_172 q172 ?_
  refine g_aload_n 1 o dX6_copyFrom_175 rfl rfl ?_
  obtain ⟨x176, q176, e⟩ := ob e
  refine g_getN 12 o cf6 (by decide) mw_180 dX6_copyFrom_176 q176 ?_
  refine g_iconst (v := 0) o dX6_copyFrom_179 (by decide) ?_
  refine g_aload_n 0 o dX6_copyFrom_180 rfl rfl ?_
  obtain ⟨x181, q181, e⟩ := ob e
  refine g_getN 12 o cf6 (by decide) mw_180 dX6_copyFrom_181 q181 ?_
  refine g_iconst (v := 0) o dX6_copyFrom_184 (by decide) ?_
  refine g_bipush (v := 64) o dX6_copyFrom_185 (by decide) ?_
  obtain ⟨h187, q187, e⟩ := ob e
  refine g_cpI (t := 1) (ty := FieldType.int) rfl rfl (fun _ => rfl) o mw_585 mw_356 mw_355 mw_17 ⟨by decide, Nat.le_of_ble_eq_true rfl⟩ dX6_copyFrom_187 q187 ?_
  exact g_vret o dX6_copyFrom_190 (rt_0 q e)
theorem yo_X8_clear : yok yX8_clear 0 := ⟨by decide, by decide, by decide +kernel⟩
set_option maxRecDepth 100000 in
set_option maxHeartbeats 4000000 in
theorem mX8_clear {l : Launch} {D : va_G} {cy : Nat → ClassId} {f0 : Nat} {a : Nat} {h : Hp} {hz : Hp} (e : fX8_clear f0 a h = some hz) : MC l D cy yX8_clear cX8_clear 1 none rmX8_clear [.ref a] h none hz := by
  refine mc_of2 (by decide) (Nat.le_of_ble_eq_true rfl) (fun X hl hD hy hin o q => ?_)
  subst hl; subst hD; subst hy
  show G X 1 0 [(0, .ref a)] [] h 0 0
  unfold fX8_clear at e
  refine g_aload_n 0 o dX8_clear_0 rfl rfl ?_
  refine g_iconst (v := 0) o dX8_clear_1 (by decide) ?_
  obtain ⟨h2, q2, e⟩ := ob e
  refine g_put (ty1 := .int) 3 o cf8 (by decide) mw_216 rfl (by decide +kernel) rfl rfl dX8_clear_2 q2 ?_
  exact g_vret o dX8_clear_5 (rt_0 q e)
theorem yo_X11_sea : yok yX11_sea 0 := ⟨by decide, by decide, by decide +kernel⟩
set_option maxRecDepth 100000 in
set_option maxHeartbeats 4000000 in
theorem mX11_sea {l : Launch} {D : va_G} {cy : Nat → ClassId} {f0 : Nat} {a : Nat} {h : Hp} {r : Int32} {hz : Hp} (e : fX11_sea f0 a h = some (r, hz)) : MC l D cy yX11_sea cX11_sea 2 (some .int) rmX11_sea [.ref a] h (some (.int r)) hz := by
  refine mc_of2 (by decide) (Nat.le_of_ble_eq_true rfl) (fun X hl hD hy hin o q => ?_)
  subst hl; subst hD; subst hy
  show G X 2 0 [(0, .ref a)] [] h 0 0
  unfold fX11_sea at e
  refine g_aload_n 0 o dX11_sea_0 rfl rfl ?_
  obtain ⟨x1, q1, e⟩ := ob e
  refine g_getN 6 o cf11 (by decide) mw_370 dX11_sea_1 q1 ?_
  refine g_aload_n 0 o dX11_sea_4 rfl rfl ?_
  obtain ⟨_, k5, e⟩ := ob e
  obtain ⟨x5, h5, q5, e⟩ := ob2_s e
  refine g_callVv [] o (mX11_takeTape q5) cf11 (ckO_s k5) mw_415 mw_416 mw_1685 mw_1 mw_417 rfl yo_X11_takeTape rfl rfl (Nat.le_of_ble_eq_true rfl) ⟨by decide, by decide⟩ ⟨rfl, rfl⟩ dX11_sea_5 ⟨by decide, by decide⟩ ?_
  obtain ⟨_, k8, e⟩ := ob e
  obtain ⟨x8, h8, q8, e⟩ := ob2_s e
  refine g_callVv [.int x5] o (mX7_read q8) cf7 (ckO_s k8) mw_418 mw_419 mw_420 mw_9 mw_421 rfl yo_X7_read rfl rfl (Nat.le_of_ble_eq_true rfl) ⟨by decide, by decide⟩ ⟨rfl, rfl⟩ dX11_sea_8 ⟨by decide, by decide⟩ ?_
  refine g_istore_n [(1, .int x8), (0, .ref a)] o dX11_sea_11 rfl (by decide) rfl ?_
  refine g_aload_n 1 o dX11_sea_12 rfl rfl ?_
  refine g_aload_n 1 o dX11_sea_13 rfl rfl ?_
  obtain ⟨x14, q14, e⟩ := ob e
  refine g_getN 2 o cf11 (by decide) mw_366 dX11_sea_14 q14 ?_
  obtain ⟨x17, q17, e⟩ := ob e
  refine g_getI 10 o cf4 (by decide) mw_102 dX11_sea_17 q17 ?_
  obtain ⟨h20, q20, e⟩ := ob e
  refine g_put (ty1 := .int) 3 o cf11 (by decide) mw_367 rfl (by decide +kernel) rfl rfl dX11_sea_20 q20 ?_
  refine g_aload_n 1 o dX11_sea_23 rfl rfl ?_
  obtain ⟨x24, q24, e⟩ := ob e
  refine g_getN 2 o cf11 (by decide) mw_366 dX11_sea_24 q24 ?_
  obtain ⟨x27, q27, e⟩ := ob e
  refine g_getI 10 o cf4 (by decide) mw_102 dX11_sea_27 q27 ?_
  refine g_if_eq (x := x27) 43 o dX11_sea_30 (by decide) (fun u => ?_) (fun u => ?_)
  · rw [if_pos u] at e
    refine g_aload_n 1 o dX11_sea_43 rfl rfl ?_
    obtain ⟨x44, q44, e⟩ := ob e
    refine g_getN 4 o cf11 (by decide) mw_368 dX11_sea_44 q44 ?_
    refine g_aload_n 1 o dX11_sea_47 rfl rfl ?_
    obtain ⟨x48, q48, e⟩ := ob e
    refine g_getN 5 o cf11 (by decide) mw_369 dX11_sea_48 q48 ?_
    obtain ⟨_, k51, e⟩ := ob e
    obtain ⟨h51, q51, e⟩ := ob e
    refine g_callV0 [.ref x48] o (mX6_copyFrom q51) cf6 (ckO_s k51) mw_576 mw_577 mw_578 mw_7 mw_579 rfl yo_X6_copyFrom rfl rfl (Nat.le_of_ble_eq_true rfl) ⟨by decide, by decide⟩ ⟨rfl, rfl⟩ dX11_sea_51 ⟨by decide, by decide⟩ ?_
    refine g_aload_n 1 o dX11_sea_54 rfl rfl ?_
    obtain ⟨x55, q55, e⟩ := ob e
    refine g_getN 11 o cf11 (by decide) mw_375 dX11_sea_55 q55 ?_
    obtain ⟨_, k58, e⟩ := ob e
    obtain ⟨h58, q58, e⟩ := ob e
    refine g_callV0 [] o (mX10_start q58) cf10 (ckO_s k58) mw_343 mw_344 mw_345 mw_13 mw_346 rfl yo_X10_start rfl rfl (Nat.le_of_ble_eq_true rfl) ⟨by decide, by decide⟩ ⟨rfl, rfl⟩ dX11_sea_58 ⟨by decide, by decide⟩ ?_
    refine g_aload_n 1 o dX11_sea_61 rfl rfl ?_
    obtain ⟨x62, q62, e⟩ := ob e
    refine g_getN 7 o cf11 (by decide) mw_371 dX11_sea_62 q62 ?_
    obtain ⟨_, k65, e⟩ := ob e
    obtain ⟨h65, q65, e⟩ := ob e
    refine g_callV0 [] o (mX8_clear q65) cf8 (ckO_s k65) mw_586 mw_587 mw_588 mw_10 mw_589 rfl yo_X8_clear rfl rfl (Nat.le_of_ble_eq_true rfl) ⟨by decide, by decide⟩ ⟨rfl, rfl⟩ dX11_sea_65 ⟨by decide, by decide⟩ ?_
    refine g_aload_n 1 o dX11_sea_68 rfl rfl ?_
    refine g_iconst (v := 0) o dX11_sea_69 (by decide) ?_
    obtain ⟨h70, q70, e⟩ := ob e
    refine g_put (ty1 := .int) 14 o cf11 (by decide) mw_378 rfl (by decide +kernel) rfl rfl dX11_sea_70 q70 ?_
    refine g_iload_n 0 o dX11_sea_73 rfl rfl ?_
    exact g_iret o dX11_sea_74 (rt_v q e)
  · rw [if_neg u] at e
    refine g_iconst (v := -1) o dX11_sea_33 (by decide) ?_
    refine g_aload_n 1 o dX11_sea_34 rfl rfl ?_
    obtain ⟨x35, q35, e⟩ := ob e
    refine g_getN 2 o cf11 (by decide) mw_366 dX11_sea_35 q35 ?_
    obtain ⟨x38, q38, e⟩ := ob e
    refine g_getI 11 o cf4 (by decide) mw_104 dX11_sea_38 q38 ?_
    refine g_isub (x := ((-1) : Int32)) (y := x38) o dX11_sea_41 ?_
    exact g_iret o dX11_sea_42 (rt_v q e)
theorem yo_X11_fault : yok yX11_fault 0 := ⟨by decide, by decide, by decide +kernel⟩
set_option maxRecDepth 100000 in
set_option maxHeartbeats 4000000 in
theorem mX11_fault {l : Launch} {D : va_G} {cy : Nat → ClassId} {f0 : Nat} {a : Nat} {h : Hp} {r : Int32} {hz : Hp} (e : fX11_fault f0 a h = some (r, hz)) : MC l D cy yX11_fault cX11_fault 1 (some .int) rmX11_fault [.ref a] h (some (.int r)) hz := by
  refine mc_of2 (by decide) (Nat.le_of_ble_eq_true rfl) (fun X hl hD hy hin o q => ?_)
  subst hl; subst hD; subst hy
  show G X 1 0 [(0, .ref a)] [] h 0 0
  unfold fX11_fault at e
  refine g_aload_n 0 o dX11_fault_0 rfl rfl ?_
  obtain ⟨x1, q1, e⟩ := ob e
  refine g_getI 3 o cf11 (by decide) mw_367 dX11_fault_1 q1 ?_
  exact g_iret o dX11_fault_4 (rt_v q e)
theorem yo_X8_add : yok yX8_add 3 := ⟨by decide, by decide, by decide +kernel⟩
set_option maxRecDepth 100000 in
set_option maxHeartbeats 4000000 in
theorem mX8_add {l : Launch} {D : va_G} {cy : Nat → ClassId} {f0 : Nat} {a : Nat} {p0 : Int32} {p1 : Int32} {p2 : Int32} {h : Hp} {hz : Hp} (e : fX8_add f0 a p0 p1 p2 h = some hz) : MC l D cy yX8_add cX8_add 4 none rmX8_add [.ref a, .int p0, .int p1, .int p2] h none hz := by
  refine mc_of2 (by decide) (Nat.le_of_ble_eq_true rfl) (fun X hl hD hy hin o q => ?_)
  subst hl; subst hD; subst hy
  show G X 4 0 [(0, .ref a), (1, .int p0), (2, .int p1), (3, .int p2)] [] h 0 0
  unfold fX8_add at e
  refine g_aload_n 0 o dX8_add_0 rfl rfl ?_
  obtain ⟨x1, q1, e⟩ := ob e
  refine g_getI 3 o cf8 (by decide) mw_216 dX8_add_1 q1 ?_
  refine g_bipush (v := 40) o dX8_add_4 (by decide) ?_
  refine g_icmp_lt (x := x1) (y := 40) 10 o dX8_add_6 (by decide) (fun u => ?_) (fun u => ?_)
  · rw [if_pos u] at e
    refine g_aload_n 0 o dX8_add_10 rfl rfl ?_
    obtain ⟨x11, q11, e⟩ := ob e
    refine g_getN 0 o cf8 (by decide) mw_213 dX8_add_11 q11 ?_
    refine g_aload_n 0 o dX8_add_14 rfl rfl ?_
    obtain ⟨x15, q15, e⟩ := ob e
    refine g_getI 3 o cf8 (by decide) mw_216 dX8_add_15 q15 ?_
    refine g_iload_n 1 o dX8_add_18 rfl rfl ?_
    obtain ⟨h19, q19, e⟩ := ob e
    refine g_iast o dX8_add_19 q19 ?_
    refine g_aload_n 0 o dX8_add_20 rfl rfl ?_
    obtain ⟨x21, q21, e⟩ := ob e
    refine g_getN 1 o cf8 (by decide) mw_214 dX8_add_21 q21 ?_
    refine g_aload_n 0 o dX8_add_24 rfl rfl ?_
    obtain ⟨x25, q25, e⟩ := ob e
    refine g_getI 3 o cf8 (by decide) mw_216 dX8_add_25 q25 ?_
    refine g_iload_n 2 o dX8_add_28 rfl rfl ?_
    obtain ⟨h29, q29, e⟩ := ob e
    refine g_iast o dX8_add_29 q29 ?_
    refine g_aload_n 0 o dX8_add_30 rfl rfl ?_
    obtain ⟨x31, q31, e⟩ := ob e
    refine g_getN 2 o cf8 (by decide) mw_215 dX8_add_31 q31 ?_
    refine g_aload_n 0 o dX8_add_34 rfl rfl ?_
    obtain ⟨x35, q35, e⟩ := ob e
    refine g_getI 3 o cf8 (by decide) mw_216 dX8_add_35 q35 ?_
    refine g_iload_n 3 o dX8_add_38 rfl rfl ?_
    obtain ⟨h39, q39, e⟩ := ob e
    refine g_iast o dX8_add_39 q39 ?_
    refine g_aload_n 0 o dX8_add_40 rfl rfl ?_
    refine g_dup o dX8_add_41 rfl ?_
    obtain ⟨x42, q42, e⟩ := ob e
    refine g_getI 3 o cf8 (by decide) mw_216 dX8_add_42 q42 ?_
    refine g_iconst (v := 1) o dX8_add_45 (by decide) ?_
    refine g_iadd (x := x42) (y := 1) o dX8_add_46 ?_
    obtain ⟨h47, q47, e⟩ := ob e
    refine g_put (ty1 := .int) 3 o cf8 (by decide) mw_216 rfl (by decide +kernel) rfl rfl dX8_add_47 q47 ?_
    exact g_vret o dX8_add_50 (rt_0 q e)
  · rw [if_neg u] at e
    exact g_vret o dX8_add_9 (rt_0 q e)
set_option maxRecDepth 100000 in
set_option maxHeartbeats 4000000 in
theorem kX9_readPlain_128 {X : Cx} (f0 : Nat) (o : Ok X cX9_readPlain RX9 4 rmX9_readPlain (some .boolean)) (v0 : Nat) (v1 : Int32) (v2 : Int32) (v3 : Int32) (h : Hp) (r : Int32) (hz : Hp) (q : Rt X (some (.int r)) hz 0 0) (e : bX9_readPlain_128 f0 v0 v1 v2 v3 h = some (r, hz)) : G X 4 128 [(0, .ref v0), (1, .int v1), (2, .int v2), (3, .int v3)] [] h 0 0 := by
  unfold bX9_readPlain_128 at e
  refine g_aload_n 0 o dX9_readPlain_128 rfl rfl ?_
  obtain ⟨x129, q129, e⟩ := ob e
  refine g_getN 2 o cf9 (by decide) mw_231 dX9_readPlain_129 q129 ?_
  refine g_iload_n 1 o dX9_readPlain_132 rfl rfl ?_
  refine g_iload_n 2 o dX9_readPlain_133 rfl rfl ?_
  refine g_iload_n 3 o dX9_readPlain_134 rfl rfl ?_
  obtain ⟨_, k135, e⟩ := ob e
  obtain ⟨h135, q135, e⟩ := ob e
  refine g_callV0 [.int v1, .int v2, .int v3] o (mX8_add q135) cf8 (ckO_s k135) mw_621 mw_622 mw_623 mw_10 mw_624 rfl yo_X8_add rfl rfl (Nat.le_of_ble_eq_true rfl) ⟨by decide, by decide⟩ ⟨rfl, rfl⟩ dX9_readPlain_135 ⟨by decide, by decide⟩ ?_
  refine g_iconst (v := 1) o dX9_readPlain_138 (by decide) ?_
  exact g_zret o dX9_readPlain_139 (zr_s e).1 (rt_v q (zr_s e).2)
set_option maxRecDepth 100000 in
set_option maxHeartbeats 4000000 in
theorem kX9_readPlain_108 {X : Cx} (f0 : Nat) (o : Ok X cX9_readPlain RX9 4 rmX9_readPlain (some .boolean)) (v0 : Nat) (v1 : Int32) (v2 : Int32) (v3 : Int32) (h : Hp) (r : Int32) (hz : Hp) (q : Rt X (some (.int r)) hz 0 0) (e : bX9_readPlain_108 f0 v0 v1 v2 v3 h = some (r, hz)) : G X 4 108 [(0, .ref v0), (1, .int v1), (2, .int v2), (3, .int v3)] [] h 0 0 := by
  unfold bX9_readPlain_108 at e
  refine g_iload_n 3 o dX9_readPlain_108 rfl rfl ?_
  refine g_iconst (v := -1) o dX9_readPlain_109 (by decide) ?_
  refine g_icmp_ne (x := v3) (y := (-1)) 115 o dX9_readPlain_110 (by decide) (fun u => ?_) (fun u => ?_)
  · rw [if_neg u] at e
    refine g_iload_n 1 o dX9_readPlain_115 rfl rfl ?_
    refine g_bipush (v := 22) o dX9_readPlain_116 (by decide) ?_
    refine g_icmp_lt (x := v1) (y := 22) 128 o dX9_readPlain_118 (by decide) (fun u => ?_) (fun u => ?_)
    · rw [if_pos u] at e
      exact kX9_readPlain_128 f0 o v0 v1 v2 v3 h r hz q e
    · rw [if_neg u] at e
      refine g_aload_n 0 o dX9_readPlain_121 rfl rfl ?_
      obtain ⟨x122, q122, e⟩ := ob e
      refine g_getN 0 o cf9 (by decide) mw_229 dX9_readPlain_122 q122 ?_
      obtain ⟨_, k125, e⟩ := ob e
      obtain ⟨h125, q125, e⟩ := ob e
      refine g_callV0 [] o (mX4_step q125) cf4 (ckO_s k125) mw_614 mw_428 mw_429 mw_2 mw_430 rfl yo_X4_step rfl rfl (Nat.le_of_ble_eq_true rfl) ⟨by decide, by decide⟩ ⟨rfl, rfl⟩ dX9_readPlain_125 ⟨by decide, by decide⟩ ?_
      exact kX9_readPlain_128 f0 o v0 v1 v2 v3 h125 r hz q e
  · rw [if_pos u] at e
    refine g_iconst (v := 0) o dX9_readPlain_113 (by decide) ?_
    exact g_zret o dX9_readPlain_114 (zr_s e).1 (rt_v q (zr_s e).2)
set_option maxRecDepth 100000 in
set_option maxHeartbeats 4000000 in
theorem kX9_readPlain_89 {X : Cx} (f0 : Nat) (o : Ok X cX9_readPlain RX9 4 rmX9_readPlain (some .boolean)) (v0 : Nat) (v1 : Int32) (v2 : Int32) (h : Hp) (r : Int32) (hz : Hp) (q : Rt X (some (.int r)) hz 0 0) (e : bX9_readPlain_89 f0 v0 v1 v2 h = some (r, hz)) : G X 4 89 [(0, .ref v0), (1, .int v1), (2, .int v2)] [] h 0 0 := by
  unfold bX9_readPlain_89 at e
  refine g_aload_n 0 o dX9_readPlain_89 rfl rfl ?_
  obtain ⟨x90, q90, e⟩ := ob e
  refine g_getN 0 o cf9 (by decide) mw_229 dX9_readPlain_90 q90 ?_
  obtain ⟨_, k93, e⟩ := ob e
  obtain ⟨h93, q93, e⟩ := ob e
  refine g_callV0 [] o (mX4_step q93) cf4 (ckO_s k93) mw_614 mw_428 mw_429 mw_2 mw_430 rfl yo_X4_step rfl rfl (Nat.le_of_ble_eq_true rfl) ⟨by decide, by decide⟩ ⟨rfl, rfl⟩ dX9_readPlain_93 ⟨by decide, by decide⟩ ?_
  refine g_aload_n 0 o dX9_readPlain_96 rfl rfl ?_
  obtain ⟨x97, q97, e⟩ := ob e
  refine g_getN 0 o cf9 (by decide) mw_229 dX9_readPlain_97 q97 ?_
  refine g_iconst (v := 0) o dX9_readPlain_100 (by decide) ?_
  refine g_sipush (v := 999) o dX9_readPlain_101 (by decide) ?_
  obtain ⟨_, k104, e⟩ := ob e
  obtain ⟨x104, h104, q104, e⟩ := ob2_s e
  refine g_callVv [.int 0, .int 999] o (mX4_lookNumber q104) cf4 (ckO_s k104) mw_620 mw_527 mw_528 mw_2 mw_529 rfl yo_X4_lookNumber rfl rfl (Nat.le_of_ble_eq_true rfl) ⟨by decide, by decide⟩ ⟨rfl, rfl⟩ dX9_readPlain_104 ⟨by decide, by decide⟩ ?_
  refine g_istore_n [(3, .int x104), (0, .ref v0), (1, .int v1), (2, .int v2)] o dX9_readPlain_107 rfl (by decide) rfl ?_
  refine g_sb [1, 2, 3, 0] rfl ?_
  exact kX9_readPlain_108 f0 o v0 v1 v2 x104 h104 r hz q e
theorem yo_X9_readPlain : yok yX9_readPlain 1 := ⟨by decide, by decide, by decide +kernel⟩
set_option maxRecDepth 100000 in
set_option maxHeartbeats 4000000 in
theorem mX9_readPlain {l : Launch} {D : va_G} {cy : Nat → ClassId} {f0 : Nat} {a : Nat} {p0 : Int32} {h : Hp} {r : Int32} {hz : Hp} (e : fX9_readPlain f0 a p0 h = some (r, hz)) : MC l D cy yX9_readPlain cX9_readPlain 4 (some .boolean) rmX9_readPlain [.ref a, .int p0] h (some (.int r)) hz := by
  refine mc_of2 (by decide) (Nat.le_of_ble_eq_true rfl) (fun X hl hD hy hin o q => ?_)
  subst hl; subst hD; subst hy
  show G X 4 0 [(0, .ref a), (1, .int p0)] [] h 0 0
  unfold fX9_readPlain at e
  refine g_iconst (v := 0) o dX9_readPlain_0 (by decide) ?_
  refine g_istore_n [(2, .int 0), (0, .ref a), (1, .int p0)] o dX9_readPlain_1 rfl (by decide) rfl ?_
  refine g_iconst (v := 0) o dX9_readPlain_2 (by decide) ?_
  refine g_istore_n [(3, .int 0), (2, .int 0), (0, .ref a), (1, .int p0)] o dX9_readPlain_3 rfl (by decide) rfl ?_
  refine g_iload_n 3 o dX9_readPlain_4 rfl rfl ?_
  refine g_bipush (v := 22) o dX9_readPlain_5 (by decide) ?_
  refine g_icmp_ne (x := p0) (y := 22) 26 o dX9_readPlain_7 (by decide) (fun u => ?_) (fun u => ?_)
  · rw [if_neg u] at e
    refine g_iload_n 3 o dX9_readPlain_26 rfl rfl ?_
    refine g_bipush (v := 23) o dX9_readPlain_27 (by decide) ?_
    refine g_icmp_ne (x := p0) (y := 23) 48 o dX9_readPlain_29 (by decide) (fun u => ?_) (fun u => ?_)
    · rw [if_neg u] at e
      refine g_iload_n 3 o dX9_readPlain_48 rfl rfl ?_
      refine g_bipush (v := 24) o dX9_readPlain_49 (by decide) ?_
      refine g_icmp_lt (x := p0) (y := 24) 108 o dX9_readPlain_51 (by decide) (fun u => ?_) (fun u => ?_)
      · rw [if_pos u] at e
        refine g_sb [2, 3, 1, 0] rfl ?_
        exact kX9_readPlain_108 f0 o a p0 0 0 h r hz q e
      · rw [if_neg u] at e
        refine g_aload_n 2 o dX9_readPlain_54 rfl rfl ?_
        obtain ⟨x55, q55, e⟩ := ob e
        refine g_getN 0 o cf9 (by decide) mw_229 dX9_readPlain_55 q55 ?_
        obtain ⟨x58, q58, e⟩ := ob e
        refine g_getI 5 o cf4 (by decide) mw_92 dX9_readPlain_58 q58 ?_
        refine g_istore_n [(2, .int x58), (3, .int 0), (0, .ref a), (1, .int p0)] o dX9_readPlain_61 rfl (by decide) rfl ?_
        refine g_iload_n 0 o dX9_readPlain_62 rfl rfl ?_
        refine g_bipush (v := 60) o dX9_readPlain_63 (by decide) ?_
        refine g_icmp_eq (x := x58) (y := 60) 89 o dX9_readPlain_65 (by decide) (fun u => ?_) (fun u => ?_)
        · rw [if_pos u] at e
          refine g_sb [2, 3, 0] rfl ?_
          exact kX9_readPlain_89 f0 o a p0 x58 h r hz q e
        · rw [if_neg u] at e
          refine g_iload_n 0 o dX9_readPlain_68 rfl rfl ?_
          refine g_bipush (v := 61) o dX9_readPlain_69 (by decide) ?_
          refine g_icmp_eq (x := x58) (y := 61) 89 o dX9_readPlain_71 (by decide) (fun u => ?_) (fun u => ?_)
          · rw [if_pos u] at e
            refine g_sb [2, 3, 0] rfl ?_
            exact kX9_readPlain_89 f0 o a p0 x58 h r hz q e
          · rw [if_neg u] at e
            refine g_iload_n 0 o dX9_readPlain_74 rfl rfl ?_
            refine g_bipush (v := 62) o dX9_readPlain_75 (by decide) ?_
            refine g_icmp_eq (x := x58) (y := 62) 89 o dX9_readPlain_77 (by decide) (fun u => ?_) (fun u => ?_)
            · rw [if_pos u] at e
              refine g_sb [2, 3, 0] rfl ?_
              exact kX9_readPlain_89 f0 o a p0 x58 h r hz q e
            · rw [if_neg u] at e
              refine g_aload_n 2 o dX9_readPlain_80 rfl rfl ?_
              obtain ⟨x81, q81, e⟩ := ob e
              refine g_getN 0 o cf9 (by decide) mw_229 dX9_readPlain_81 q81 ?_
              refine g_iconst (v := 1) o dX9_readPlain_84 (by decide) ?_
              obtain ⟨_, k85, e⟩ := ob e
              obtain ⟨x85, h85, q85, e⟩ := ob2_s e
              refine g_callVv [.int 1] o (mX4_refuse q85) cf4 (ckO_s k85) mw_613 mw_503 mw_504 mw_2 mw_505 rfl yo_X4_refuse rfl rfl (Nat.le_of_ble_eq_true rfl) ⟨by decide, by decide⟩ ⟨rfl, rfl⟩ dX9_readPlain_85 ⟨by decide, by decide⟩ ?_
              exact g_zret o dX9_readPlain_88 (zr_s e).1 (rt_v q (zr_s e).2)
    · rw [if_pos u] at e
      refine g_aload_n 2 o dX9_readPlain_32 rfl rfl ?_
      obtain ⟨x33, q33, e⟩ := ob e
      refine g_getN 0 o cf9 (by decide) mw_229 dX9_readPlain_33 q33 ?_
      refine g_aload_n 2 o dX9_readPlain_36 rfl rfl ?_
      obtain ⟨x37, q37, e⟩ := ob e
      refine g_getN 1 o cf9 (by decide) mw_230 dX9_readPlain_37 q37 ?_
      refine g_iconst (v := 0) o dX9_readPlain_40 (by decide) ?_
      obtain ⟨_, k41, e⟩ := ob e
      obtain ⟨x41, h41, q41, e⟩ := ob2_s e
      refine g_callVv [.ref x37, .int 0] o (mX4_look q41) cf4 (ckO_s k41) mw_619 mw_514 mw_515 mw_2 mw_516 rfl yo_X4_look rfl rfl (Nat.le_of_ble_eq_true rfl) ⟨by decide, by decide⟩ ⟨rfl, rfl⟩ dX9_readPlain_41 ⟨by decide, by decide⟩ ?_
      refine g_istore_n [(3, .int x41), (2, .int 0), (0, .ref a), (1, .int p0)] o dX9_readPlain_44 rfl (by decide) rfl ?_
      refine g_goto 108 o dX9_readPlain_45 (by decide) ?_
      refine g_sb [2, 3, 1, 0] rfl ?_
      exact kX9_readPlain_108 f0 o a p0 0 x41 h41 r hz q e
  · rw [if_pos u] at e
    refine g_aload_n 2 o dX9_readPlain_10 rfl rfl ?_
    obtain ⟨x11, q11, e⟩ := ob e
    refine g_getN 0 o cf9 (by decide) mw_229 dX9_readPlain_11 q11 ?_
    refine g_aload_n 2 o dX9_readPlain_14 rfl rfl ?_
    obtain ⟨x15, q15, e⟩ := ob e
    refine g_getN 1 o cf9 (by decide) mw_230 dX9_readPlain_15 q15 ?_
    refine g_iconst (v := 3) o dX9_readPlain_18 (by decide) ?_
    obtain ⟨_, k19, e⟩ := ob e
    obtain ⟨x19, h19, q19, e⟩ := ob2_s e
    refine g_callVv [.ref x15, .int 3] o (mX4_look q19) cf4 (ckO_s k19) mw_619 mw_514 mw_515 mw_2 mw_516 rfl yo_X4_look rfl rfl (Nat.le_of_ble_eq_true rfl) ⟨by decide, by decide⟩ ⟨rfl, rfl⟩ dX9_readPlain_19 ⟨by decide, by decide⟩ ?_
    refine g_istore_n [(3, .int x19), (2, .int 0), (0, .ref a), (1, .int p0)] o dX9_readPlain_22 rfl (by decide) rfl ?_
    refine g_goto 108 o dX9_readPlain_23 (by decide) ?_
    refine g_sb [2, 3, 1, 0] rfl ?_
    exact kX9_readPlain_108 f0 o a p0 0 x19 h19 r hz q e
theorem yo_X9_readCond : yok yX9_readCond 1 := ⟨by decide, by decide, by decide +kernel⟩
theorem yo_X9_readAll : yok yX9_readAll 1 := ⟨by decide, by decide, by decide +kernel⟩
theorem yo_X9_readOne : yok yX9_readOne 1 := ⟨by decide, by decide, by decide +kernel⟩
set_option maxRecDepth 100000 in
set_option maxHeartbeats 4000000 in
theorem kX9_readCond_12 {X : Cx} (f0 : Nat) (rr : Nat → Nat → Int32 → Hp → Option (Int32 × Hp)) {d9 : Nat} (hr : RCX9 (xl X) (xD X) (xy X) d9 rr) (o : Ok X cX9_readCond RX9 3 (rmX9 (d9 + 1)) (some .boolean)) (f : Nat) (v0 : Nat) (v1 : Int32) (v2 : Int32) (h : Hp) (r : Int32) (hz : Hp) (q : Rt X (some (.int r)) hz 0 0) (e : bX9_readCond_12 f0 rr f v0 v1 v2 h = some (r, hz)) : G X 3 12 [(0, .ref v0), (1, .int v1), (2, .int v2)] [] h 0 0 := by
  induction f generalizing v0 v1 v2 h r hz with
  | zero => cases e
  | succ f1 ih =>
    unfold bX9_readCond_12 at e
    refine g_iload_n 2 o dX9_readCond_12 rfl rfl ?_
    refine g_bipush (v := 20) o dX9_readCond_13 (by decide) ?_
    refine g_icmp_ge (x := v2) (y := 20) 64 o dX9_readCond_15 (by decide) (fun u => ?_) (fun u => ?_)
    · rw [if_pos u] at e
      refine g_iconst (v := 1) o dX9_readCond_64 (by decide) ?_
      exact g_zret o dX9_readCond_65 (zr_s e).1 (rt_v q (zr_s e).2)
    · rw [if_neg u] at e
      refine g_aload_n 0 o dX9_readCond_18 rfl rfl ?_
      obtain ⟨x19, q19, e⟩ := ob e
      refine g_getN 0 o cf9 (by decide) mw_229 dX9_readCond_19 q19 ?_
      obtain ⟨x22, q22, e⟩ := ob e
      refine g_getI 8 o cf4 (by decide) mw_98 dX9_readCond_22 q22 ?_
      refine g_bipush (v := 16) o dX9_readCond_25 (by decide) ?_
      refine g_icmp_ne (x := x22) (y := 16) 64 o dX9_readCond_27 (by decide) (fun u => ?_) (fun u => ?_)
      · rw [if_neg u] at e
        refine g_iconst (v := 1) o dX9_readCond_64 (by decide) ?_
        exact g_zret o dX9_readCond_65 (zr_s e).1 (rt_v q (zr_s e).2)
      · rw [if_pos u] at e
        refine g_aload_n 0 o dX9_readCond_30 rfl rfl ?_
        obtain ⟨x31, q31, e⟩ := ob e
        refine g_getN 0 o cf9 (by decide) mw_229 dX9_readCond_31 q31 ?_
        obtain ⟨_, k34, e⟩ := ob e
        obtain ⟨h34, q34, e⟩ := ob e
        refine g_callV0 [] o (mX4_step q34) cf4 (ckO_s k34) mw_614 mw_428 mw_429 mw_2 mw_430 rfl yo_X4_step rfl rfl (Nat.le_of_ble_eq_true rfl) ⟨Nat.le_trans (by decide : _ ≤ 8) (Nat.le_add_right _ _), Nat.le_trans (by decide : _ ≤ 181) (Nat.le_add_right _ _)⟩ ⟨rfl, rfl⟩ dX9_readCond_34 ⟨Nat.le_refl _, Nat.le_refl _⟩ ?_
        refine g_aload_n 0 o dX9_readCond_37 rfl rfl ?_
        refine g_iload_n 1 o dX9_readCond_38 rfl rfl ?_
        obtain ⟨_, k39, e⟩ := ob e
        obtain ⟨x39, h39, q39, e⟩ := ob2_s e
        refine g_callVv [.int v1] o (hr.2.1 _ _ _ _ _ q39) cf9 (ckO_s k39) mw_607 mw_608 mw_1698 mw_11 mw_609 rfl yo_X9_readAll rfl rfl (Nat.le_of_ble_eq_true rfl) ⟨Nat.le_refl _, rrl (by decide)⟩ ⟨rfl, rfl⟩ dX9_readCond_39 ⟨Nat.le_refl _, Nat.le_refl _⟩ ?_
        refine g_if_ne (x := x39) 47 o dX9_readCond_42 (by decide) (fun u => ?_) (fun u => ?_)
        · rw [if_neg u] at e
          refine g_aload_n 0 o dX9_readCond_47 rfl rfl ?_
          obtain ⟨x48, q48, e⟩ := ob e
          refine g_getN 2 o cf9 (by decide) mw_231 dX9_readCond_48 q48 ?_
          refine g_bipush (v := 16) o dX9_readCond_51 (by decide) ?_
          refine g_iconst (v := 0) o dX9_readCond_53 (by decide) ?_
          refine g_iconst (v := 0) o dX9_readCond_54 (by decide) ?_
          obtain ⟨_, k55, e⟩ := ob e
          obtain ⟨h55, q55, e⟩ := ob e
          refine g_callV0 [.int 16, .int 0, .int 0] o (mX8_add q55) cf8 (ckO_s k55) mw_621 mw_622 mw_623 mw_10 mw_624 rfl yo_X8_add rfl rfl (Nat.le_of_ble_eq_true rfl) ⟨Nat.le_trans (by decide : _ ≤ 8) (Nat.le_add_right _ _), Nat.le_trans (by decide : _ ≤ 181) (Nat.le_add_right _ _)⟩ ⟨rfl, rfl⟩ dX9_readCond_55 ⟨Nat.le_refl _, Nat.le_refl _⟩ ?_
          refine g_iinc (k := 2) (v := (v2 + 1)) [(2, .int (v2 + 1)), (0, .ref v0), (1, .int v1)] o dX9_readCond_58 rfl rfl (by decide) rfl ?_
          refine g_goto 12 o dX9_readCond_61 (by decide) ?_
          refine g_sb [1, 2, 0] rfl ?_
          exact ih v0 v1 (v2 + 1) h55 r hz q e
        · rw [if_pos u] at e
          refine g_iconst (v := 0) o dX9_readCond_45 (by decide) ?_
          exact g_zret o dX9_readCond_46 (zr_s e).1 (rt_v q (zr_s e).2)
set_option maxRecDepth 100000 in
set_option maxHeartbeats 4000000 in
theorem mX9_readCond {l : Launch} {D : va_G} {cy : Nat → ClassId} {f0 : Nat} {rr : Nat → Nat → Int32 → Hp → Option (Int32 × Hp)} {d9 : Nat} (hr : RCX9 l D cy d9 rr) {a : Nat} {p0 : Int32} {h : Hp} {r : Int32} {hz : Hp} (e : fX9_readCond f0 rr a p0 h = some (r, hz)) : MC l D cy yX9_readCond cX9_readCond 3 (some .boolean) (rmX9 (d9 + 1)) [.ref a, .int p0] h (some (.int r)) hz := by
  refine mc_of2 (by decide) (Nat.le_of_ble_eq_true rfl) (fun X hl hD hy hin o q => ?_)
  subst hl; subst hD; subst hy
  show G X 3 0 [(0, .ref a), (1, .int p0)] [] h 0 0
  unfold fX9_readCond at e
  refine g_aload_n 0 o dX9_readCond_0 rfl rfl ?_
  refine g_iload_n 1 o dX9_readCond_1 rfl rfl ?_
  obtain ⟨_, k2, e⟩ := ob e
  obtain ⟨x2, h2, q2, e⟩ := ob2_s e
  refine g_callVv [.int p0] o (hr.2.1 _ _ _ _ _ q2) cf9 (ckO_s k2) mw_607 mw_608 mw_1698 mw_11 mw_609 rfl yo_X9_readAll rfl rfl (Nat.le_of_ble_eq_true rfl) ⟨Nat.le_refl _, rrl (by decide)⟩ ⟨rfl, rfl⟩ dX9_readCond_2 ⟨Nat.le_refl _, Nat.le_refl _⟩ ?_
  refine g_if_ne (x := x2) 10 o dX9_readCond_5 (by decide) (fun u => ?_) (fun u => ?_)
  · rw [if_neg u] at e
    refine g_iconst (v := 0) o dX9_readCond_10 (by decide) ?_
    refine g_istore_n [(2, .int 0), (0, .ref a), (1, .int p0)] o dX9_readCond_11 rfl (by decide) rfl ?_
    refine g_sb [1, 2, 0] rfl ?_
    exact kX9_readCond_12 f0 rr hr o f0 a p0 0 h2 r hz q e
  · rw [if_pos u] at e
    refine g_iconst (v := 0) o dX9_readCond_8 (by decide) ?_
    exact g_zret o dX9_readCond_9 (zr_s e).1 (rt_v q (zr_s e).2)
set_option maxRecDepth 100000 in
set_option maxHeartbeats 4000000 in
theorem kX9_readAll_12 {X : Cx} (f0 : Nat) (rr : Nat → Nat → Int32 → Hp → Option (Int32 × Hp)) {d9 : Nat} (hr : RCX9 (xl X) (xD X) (xy X) d9 rr) (o : Ok X cX9_readAll RX9 3 (rmX9 (d9 + 1)) (some .boolean)) (f : Nat) (v0 : Nat) (v1 : Int32) (v2 : Int32) (h : Hp) (r : Int32) (hz : Hp) (q : Rt X (some (.int r)) hz 0 0) (e : bX9_readAll_12 f0 rr f v0 v1 v2 h = some (r, hz)) : G X 3 12 [(0, .ref v0), (1, .int v1), (2, .int v2)] [] h 0 0 := by
  induction f generalizing v0 v1 v2 h r hz with
  | zero => cases e
  | succ f1 ih =>
    unfold bX9_readAll_12 at e
    refine g_iload_n 2 o dX9_readAll_12 rfl rfl ?_
    refine g_bipush (v := 20) o dX9_readAll_13 (by decide) ?_
    refine g_icmp_ge (x := v2) (y := 20) 64 o dX9_readAll_15 (by decide) (fun u => ?_) (fun u => ?_)
    · rw [if_pos u] at e
      refine g_iconst (v := 1) o dX9_readAll_64 (by decide) ?_
      exact g_zret o dX9_readAll_65 (zr_s e).1 (rt_v q (zr_s e).2)
    · rw [if_neg u] at e
      refine g_aload_n 0 o dX9_readAll_18 rfl rfl ?_
      obtain ⟨x19, q19, e⟩ := ob e
      refine g_getN 0 o cf9 (by decide) mw_229 dX9_readAll_19 q19 ?_
      obtain ⟨x22, q22, e⟩ := ob e
      refine g_getI 8 o cf4 (by decide) mw_98 dX9_readAll_22 q22 ?_
      refine g_bipush (v := 17) o dX9_readAll_25 (by decide) ?_
      refine g_icmp_ne (x := x22) (y := 17) 64 o dX9_readAll_27 (by decide) (fun u => ?_) (fun u => ?_)
      · rw [if_neg u] at e
        refine g_iconst (v := 1) o dX9_readAll_64 (by decide) ?_
        exact g_zret o dX9_readAll_65 (zr_s e).1 (rt_v q (zr_s e).2)
      · rw [if_pos u] at e
        refine g_aload_n 0 o dX9_readAll_30 rfl rfl ?_
        obtain ⟨x31, q31, e⟩ := ob e
        refine g_getN 0 o cf9 (by decide) mw_229 dX9_readAll_31 q31 ?_
        obtain ⟨_, k34, e⟩ := ob e
        obtain ⟨h34, q34, e⟩ := ob e
        refine g_callV0 [] o (mX4_step q34) cf4 (ckO_s k34) mw_614 mw_428 mw_429 mw_2 mw_430 rfl yo_X4_step rfl rfl (Nat.le_of_ble_eq_true rfl) ⟨Nat.le_trans (by decide : _ ≤ 8) (Nat.le_add_right _ _), Nat.le_trans (by decide : _ ≤ 181) (Nat.le_add_right _ _)⟩ ⟨rfl, rfl⟩ dX9_readAll_34 ⟨Nat.le_refl _, Nat.le_refl _⟩ ?_
        refine g_aload_n 0 o dX9_readAll_37 rfl rfl ?_
        refine g_iload_n 1 o dX9_readAll_38 rfl rfl ?_
        obtain ⟨_, k39, e⟩ := ob e
        obtain ⟨x39, h39, q39, e⟩ := ob2_s e
        refine g_callVv [.int v1] o (hr.2.2 _ _ _ _ _ q39) cf9 (ckO_s k39) mw_610 mw_611 mw_1699 mw_11 mw_612 rfl yo_X9_readOne rfl rfl (Nat.le_of_ble_eq_true rfl) ⟨Nat.le_refl _, rrl (by decide)⟩ ⟨rfl, rfl⟩ dX9_readAll_39 ⟨Nat.le_refl _, Nat.le_refl _⟩ ?_
        refine g_if_ne (x := x39) 47 o dX9_readAll_42 (by decide) (fun u => ?_) (fun u => ?_)
        · rw [if_neg u] at e
          refine g_aload_n 0 o dX9_readAll_47 rfl rfl ?_
          obtain ⟨x48, q48, e⟩ := ob e
          refine g_getN 2 o cf9 (by decide) mw_231 dX9_readAll_48 q48 ?_
          refine g_bipush (v := 17) o dX9_readAll_51 (by decide) ?_
          refine g_iconst (v := 0) o dX9_readAll_53 (by decide) ?_
          refine g_iconst (v := 0) o dX9_readAll_54 (by decide) ?_
          obtain ⟨_, k55, e⟩ := ob e
          obtain ⟨h55, q55, e⟩ := ob e
          refine g_callV0 [.int 17, .int 0, .int 0] o (mX8_add q55) cf8 (ckO_s k55) mw_621 mw_622 mw_623 mw_10 mw_624 rfl yo_X8_add rfl rfl (Nat.le_of_ble_eq_true rfl) ⟨Nat.le_trans (by decide : _ ≤ 8) (Nat.le_add_right _ _), Nat.le_trans (by decide : _ ≤ 181) (Nat.le_add_right _ _)⟩ ⟨rfl, rfl⟩ dX9_readAll_55 ⟨Nat.le_refl _, Nat.le_refl _⟩ ?_
          refine g_iinc (k := 2) (v := (v2 + 1)) [(2, .int (v2 + 1)), (0, .ref v0), (1, .int v1)] o dX9_readAll_58 rfl rfl (by decide) rfl ?_
          refine g_goto 12 o dX9_readAll_61 (by decide) ?_
          refine g_sb [1, 2, 0] rfl ?_
          exact ih v0 v1 (v2 + 1) h55 r hz q e
        · rw [if_pos u] at e
          refine g_iconst (v := 0) o dX9_readAll_45 (by decide) ?_
          exact g_zret o dX9_readAll_46 (zr_s e).1 (rt_v q (zr_s e).2)
set_option maxRecDepth 100000 in
set_option maxHeartbeats 4000000 in
theorem mX9_readAll {l : Launch} {D : va_G} {cy : Nat → ClassId} {f0 : Nat} {rr : Nat → Nat → Int32 → Hp → Option (Int32 × Hp)} {d9 : Nat} (hr : RCX9 l D cy d9 rr) {a : Nat} {p0 : Int32} {h : Hp} {r : Int32} {hz : Hp} (e : fX9_readAll f0 rr a p0 h = some (r, hz)) : MC l D cy yX9_readAll cX9_readAll 3 (some .boolean) (rmX9 (d9 + 1)) [.ref a, .int p0] h (some (.int r)) hz := by
  refine mc_of2 (by decide) (Nat.le_of_ble_eq_true rfl) (fun X hl hD hy hin o q => ?_)
  subst hl; subst hD; subst hy
  show G X 3 0 [(0, .ref a), (1, .int p0)] [] h 0 0
  unfold fX9_readAll at e
  refine g_aload_n 0 o dX9_readAll_0 rfl rfl ?_
  refine g_iload_n 1 o dX9_readAll_1 rfl rfl ?_
  obtain ⟨_, k2, e⟩ := ob e
  obtain ⟨x2, h2, q2, e⟩ := ob2_s e
  refine g_callVv [.int p0] o (hr.2.2 _ _ _ _ _ q2) cf9 (ckO_s k2) mw_610 mw_611 mw_1699 mw_11 mw_612 rfl yo_X9_readOne rfl rfl (Nat.le_of_ble_eq_true rfl) ⟨Nat.le_refl _, rrl (by decide)⟩ ⟨rfl, rfl⟩ dX9_readAll_2 ⟨Nat.le_refl _, Nat.le_refl _⟩ ?_
  refine g_if_ne (x := x2) 10 o dX9_readAll_5 (by decide) (fun u => ?_) (fun u => ?_)
  · rw [if_neg u] at e
    refine g_iconst (v := 0) o dX9_readAll_10 (by decide) ?_
    refine g_istore_n [(2, .int 0), (0, .ref a), (1, .int p0)] o dX9_readAll_11 rfl (by decide) rfl ?_
    refine g_sb [1, 2, 0] rfl ?_
    exact kX9_readAll_12 f0 rr hr o f0 a p0 0 h2 r hz q e
  · rw [if_pos u] at e
    refine g_iconst (v := 0) o dX9_readAll_8 (by decide) ?_
    exact g_zret o dX9_readAll_9 (zr_s e).1 (rt_v q (zr_s e).2)
set_option maxRecDepth 100000 in
set_option maxHeartbeats 4000000 in
theorem kX9_readOne_42 {X : Cx} (f0 : Nat) (rr : Nat → Nat → Int32 → Hp → Option (Int32 × Hp)) {d9 : Nat} (hr : RCX9 (xl X) (xD X) (xy X) d9 rr) (o : Ok X cX9_readOne RX9 4 (rmX9 (d9 + 1)) (some .boolean)) (v0 : Nat) (h : Hp) (r : Int32) (hz : Hp) (q : Rt X (some (.int r)) hz 0 0) (e : bX9_readOne_42 f0 rr v0 h = some (r, hz)) : G X 4 42 [(0, .ref v0)] [] h 0 0 := by
  unfold bX9_readOne_42 at e
  refine g_aload_n 0 o dX9_readOne_42 rfl rfl ?_
  obtain ⟨x43, q43, e⟩ := ob e
  refine g_getN 0 o cf9 (by decide) mw_229 dX9_readOne_43 q43 ?_
  refine g_iconst (v := 1) o dX9_readOne_46 (by decide) ?_
  obtain ⟨_, k47, e⟩ := ob e
  obtain ⟨x47, h47, q47, e⟩ := ob2_s e
  refine g_callVv [.int 1] o (mX4_refuse q47) cf4 (ckO_s k47) mw_613 mw_503 mw_504 mw_2 mw_505 rfl yo_X4_refuse rfl rfl (Nat.le_of_ble_eq_true rfl) ⟨Nat.le_trans (by decide : _ ≤ 8) (Nat.le_add_right _ _), Nat.le_trans (by decide : _ ≤ 181) (Nat.le_add_right _ _)⟩ ⟨rfl, rfl⟩ dX9_readOne_47 ⟨Nat.le_refl _, Nat.le_refl _⟩ ?_
  exact g_zret o dX9_readOne_50 (zr_s e).1 (rt_v q (zr_s e).2)
set_option maxRecDepth 100000 in
set_option maxHeartbeats 4000000 in
theorem kX9_readOne_66 {X : Cx} (f0 : Nat) (rr : Nat → Nat → Int32 → Hp → Option (Int32 × Hp)) {d9 : Nat} (hr : RCX9 (xl X) (xD X) (xy X) d9 rr) (o : Ok X cX9_readOne RX9 4 (rmX9 (d9 + 1)) (some .boolean)) (v0 : Nat) (h : Hp) (r : Int32) (hz : Hp) (q : Rt X (some (.int r)) hz 0 0) (e : bX9_readOne_66 f0 rr v0 h = some (r, hz)) : G X 4 66 [(0, .ref v0)] [] h 0 0 := by
  unfold bX9_readOne_66 at e
  refine g_aload_n 0 o dX9_readOne_66 rfl rfl ?_
  obtain ⟨x67, q67, e⟩ := ob e
  refine g_getN 0 o cf9 (by decide) mw_229 dX9_readOne_67 q67 ?_
  refine g_iconst (v := 4) o dX9_readOne_70 (by decide) ?_
  obtain ⟨_, k71, e⟩ := ob e
  obtain ⟨x71, h71, q71, e⟩ := ob2_s e
  refine g_callVv [.int 4] o (mX4_refuse q71) cf4 (ckO_s k71) mw_613 mw_503 mw_504 mw_2 mw_505 rfl yo_X4_refuse rfl rfl (Nat.le_of_ble_eq_true rfl) ⟨Nat.le_trans (by decide : _ ≤ 8) (Nat.le_add_right _ _), Nat.le_trans (by decide : _ ≤ 181) (Nat.le_add_right _ _)⟩ ⟨rfl, rfl⟩ dX9_readOne_71 ⟨Nat.le_refl _, Nat.le_refl _⟩ ?_
  exact g_zret o dX9_readOne_74 (zr_s e).1 (rt_v q (zr_s e).2)
set_option maxRecDepth 100000 in
set_option maxHeartbeats 4000000 in
theorem kX9_readOne_51 {X : Cx} (f0 : Nat) (rr : Nat → Nat → Int32 → Hp → Option (Int32 × Hp)) {d9 : Nat} (hr : RCX9 (xl X) (xD X) (xy X) d9 rr) (o : Ok X cX9_readOne RX9 4 (rmX9 (d9 + 1)) (some .boolean)) (v0 : Nat) (v1 : Int32) (v2 : Int32) (v3 : Int32) (h : Hp) (r : Int32) (hz : Hp) (q : Rt X (some (.int r)) hz 0 0) (e : bX9_readOne_51 f0 rr v0 v1 v2 v3 h = some (r, hz)) : G X 4 51 [(0, .ref v0), (1, .int v1), (2, .int v2), (3, .int v3)] [] h 0 0 := by
  unfold bX9_readOne_51 at e
  refine g_aload_n 0 o dX9_readOne_51 rfl rfl ?_
  obtain ⟨x52, q52, e⟩ := ob e
  refine g_getI 3 o cf9 (by decide) mw_232 dX9_readOne_52 q52 ?_
  refine g_bipush (v := 20) o dX9_readOne_55 (by decide) ?_
  refine g_icmp_ge (x := x52) (y := 20) 66 o dX9_readOne_57 (by decide) (fun u => ?_) (fun u => ?_)
  · rw [if_pos u] at e
    refine g_sb [0] rfl ?_
    exact kX9_readOne_66 f0 rr hr o v0 h r hz q e
  · rw [if_neg u] at e
    refine g_iload_n 1 o dX9_readOne_60 rfl rfl ?_
    refine g_bipush (v := 8) o dX9_readOne_61 (by decide) ?_
    refine g_icmp_le (x := v1) (y := 8) 75 o dX9_readOne_63 (by decide) (fun u => ?_) (fun u => ?_)
    · rw [if_pos u] at e
      refine g_aload_n 0 o dX9_readOne_75 rfl rfl ?_
      refine g_dup o dX9_readOne_76 rfl ?_
      obtain ⟨x77, q77, e⟩ := ob e
      refine g_getI 3 o cf9 (by decide) mw_232 dX9_readOne_77 q77 ?_
      refine g_iconst (v := 1) o dX9_readOne_80 (by decide) ?_
      refine g_iadd (x := x77) (y := 1) o dX9_readOne_81 ?_
      obtain ⟨h82, q82, e⟩ := ob e
      refine g_put (ty1 := .int) 3 o cf9 (by decide) mw_232 rfl (by decide +kernel) rfl rfl dX9_readOne_82 q82 ?_
      refine g_aload_n 0 o dX9_readOne_85 rfl rfl ?_
      obtain ⟨x86, q86, e⟩ := ob e
      refine g_getN 0 o cf9 (by decide) mw_229 dX9_readOne_86 q86 ?_
      obtain ⟨_, k89, e⟩ := ob e
      obtain ⟨h89, q89, e⟩ := ob e
      refine g_callV0 [] o (mX4_step q89) cf4 (ckO_s k89) mw_614 mw_428 mw_429 mw_2 mw_430 rfl yo_X4_step rfl rfl (Nat.le_of_ble_eq_true rfl) ⟨Nat.le_trans (by decide : _ ≤ 8) (Nat.le_add_right _ _), Nat.le_trans (by decide : _ ≤ 181) (Nat.le_add_right _ _)⟩ ⟨rfl, rfl⟩ dX9_readOne_89 ⟨Nat.le_refl _, Nat.le_refl _⟩ ?_
      refine g_iload_n 3 o dX9_readOne_92 rfl rfl ?_
      refine g_if_eq (x := v3) 124 o dX9_readOne_93 (by decide) (fun u => ?_) (fun u => ?_)
      · rw [if_pos u] at e
        refine g_iload_n 2 o dX9_readOne_124 rfl rfl ?_
        refine g_bipush (v := 18) o dX9_readOne_125 (by decide) ?_
        refine g_icmp_eq (x := v2) (y := 18) 136 o dX9_readOne_127 (by decide) (fun u => ?_) (fun u => ?_)
        · rw [if_pos u] at e
          refine g_aload_n 0 o dX9_readOne_136 rfl rfl ?_
          refine g_iload_n 1 o dX9_readOne_137 rfl rfl ?_
          refine g_iconst (v := 1) o dX9_readOne_138 (by decide) ?_
          refine g_iadd (x := v1) (y := 1) o dX9_readOne_139 ?_
          obtain ⟨_, k140, e⟩ := ob e
          obtain ⟨x140, h140, q140, e⟩ := ob2_s e
          refine g_callVv [.int (v1 + 1)] o (hr.2.2 _ _ _ _ _ q140) cf9 (ckO_s k140) mw_610 mw_611 mw_1699 mw_11 mw_612 rfl yo_X9_readOne rfl rfl (Nat.le_of_ble_eq_true rfl) ⟨Nat.le_refl _, rrl (by decide)⟩ ⟨rfl, rfl⟩ dX9_readOne_140 ⟨Nat.le_refl _, Nat.le_refl _⟩ ?_
          refine g_if_ne (x := x140) 148 o dX9_readOne_143 (by decide) (fun u => ?_) (fun u => ?_)
          · rw [if_neg u] at e
            refine g_aload_n 0 o dX9_readOne_148 rfl rfl ?_
            obtain ⟨x149, q149, e⟩ := ob e
            refine g_getN 2 o cf9 (by decide) mw_231 dX9_readOne_149 q149 ?_
            refine g_bipush (v := 18) o dX9_readOne_152 (by decide) ?_
            refine g_iconst (v := 0) o dX9_readOne_154 (by decide) ?_
            refine g_iconst (v := 0) o dX9_readOne_155 (by decide) ?_
            obtain ⟨_, k156, e⟩ := ob e
            obtain ⟨h156, q156, e⟩ := ob e
            refine g_callV0 [.int 18, .int 0, .int 0] o (mX8_add q156) cf8 (ckO_s k156) mw_621 mw_622 mw_623 mw_10 mw_624 rfl yo_X8_add rfl rfl (Nat.le_of_ble_eq_true rfl) ⟨Nat.le_trans (by decide : _ ≤ 8) (Nat.le_add_right _ _), Nat.le_trans (by decide : _ ≤ 181) (Nat.le_add_right _ _)⟩ ⟨rfl, rfl⟩ dX9_readOne_156 ⟨Nat.le_refl _, Nat.le_refl _⟩ ?_
            refine g_iconst (v := 1) o dX9_readOne_159 (by decide) ?_
            exact g_zret o dX9_readOne_160 (zr_s e).1 (rt_v q (zr_s e).2)
          · rw [if_pos u] at e
            refine g_iconst (v := 0) o dX9_readOne_146 (by decide) ?_
            exact g_zret o dX9_readOne_147 (zr_s e).1 (rt_v q (zr_s e).2)
        · rw [if_neg u] at e
          refine g_aload_n 0 o dX9_readOne_130 rfl rfl ?_
          refine g_iload_n 2 o dX9_readOne_131 rfl rfl ?_
          obtain ⟨_, k132, e⟩ := ob e
          obtain ⟨x132, h132, q132, e⟩ := ob2_s e
          refine g_callVv [.int v2] o (mX9_readPlain q132) cf9 (ckO_s k132) mw_616 mw_617 mw_1700 mw_11 mw_618 rfl yo_X9_readPlain rfl rfl (Nat.le_of_ble_eq_true rfl) ⟨Nat.le_trans (by decide : _ ≤ 8) (Nat.le_add_right _ _), Nat.le_trans (by decide : _ ≤ 181) (Nat.le_add_right _ _)⟩ ⟨rfl, rfl⟩ dX9_readOne_132 ⟨Nat.le_refl _, Nat.le_refl _⟩ ?_
          exact g_zret o dX9_readOne_135 (zr_s e).1 (rt_v q (zr_s e).2)
      · rw [if_neg u] at e
        refine g_aload_n 0 o dX9_readOne_96 rfl rfl ?_
        refine g_iload_n 1 o dX9_readOne_97 rfl rfl ?_
        refine g_iconst (v := 1) o dX9_readOne_98 (by decide) ?_
        refine g_iadd (x := v1) (y := 1) o dX9_readOne_99 ?_
        obtain ⟨_, k100, e⟩ := ob e
        obtain ⟨x100, h100, q100, e⟩ := ob2_s e
        refine g_callVv [.int (v1 + 1)] o (hr.1 _ _ _ _ _ q100) cf9 (ckO_s k100) mw_604 mw_605 mw_1697 mw_11 mw_606 rfl yo_X9_readCond rfl rfl (Nat.le_of_ble_eq_true rfl) ⟨Nat.le_refl _, rrl (by decide)⟩ ⟨rfl, rfl⟩ dX9_readOne_100 ⟨Nat.le_refl _, Nat.le_refl _⟩ ?_
        refine g_if_eq (x := x100) 122 o dX9_readOne_103 (by decide) (fun u => ?_) (fun u => ?_)
        · rw [if_pos u] at e
          refine g_iconst (v := 0) o dX9_readOne_122 (by decide) ?_
          exact g_zret o dX9_readOne_123 (zr_s e).1 (rt_v q (zr_s e).2)
        · rw [if_neg u] at e
          refine g_aload_n 0 o dX9_readOne_106 rfl rfl ?_
          obtain ⟨x107, q107, e⟩ := ob e
          refine g_getN 0 o cf9 (by decide) mw_229 dX9_readOne_107 q107 ?_
          refine g_bipush (v := 41) o dX9_readOne_110 (by decide) ?_
          obtain ⟨_, k112, e⟩ := ob e
          obtain ⟨x112, h112, q112, e⟩ := ob2_s e
          refine g_callVv [.int 41] o (mX4_passSign q112) cf4 (ckO_s k112) mw_615 mw_560 mw_561 mw_2 mw_562 rfl yo_X4_passSign rfl rfl (Nat.le_of_ble_eq_true rfl) ⟨Nat.le_trans (by decide : _ ≤ 8) (Nat.le_add_right _ _), Nat.le_trans (by decide : _ ≤ 181) (Nat.le_add_right _ _)⟩ ⟨rfl, rfl⟩ dX9_readOne_112 ⟨Nat.le_refl _, Nat.le_refl _⟩ ?_
          refine g_if_eq (x := x112) 122 o dX9_readOne_115 (by decide) (fun u => ?_) (fun u => ?_)
          · rw [if_pos u] at e
            refine g_iconst (v := 0) o dX9_readOne_122 (by decide) ?_
            exact g_zret o dX9_readOne_123 (zr_s e).1 (rt_v q (zr_s e).2)
          · rw [if_neg u] at e
            refine g_iconst (v := 1) o dX9_readOne_118 (by decide) ?_
            refine g_goto 123 o dX9_readOne_119 (by decide) ?_
            exact g_zret o dX9_readOne_123 (zr_s e).1 (rt_v q (zr_s e).2)
    · rw [if_neg u] at e
      refine g_sb [0] rfl ?_
      exact kX9_readOne_66 f0 rr hr o v0 h r hz q e
set_option maxRecDepth 100000 in
set_option maxHeartbeats 4000000 in
theorem kX9_readOne_25 {X : Cx} (f0 : Nat) (rr : Nat → Nat → Int32 → Hp → Option (Int32 × Hp)) {d9 : Nat} (hr : RCX9 (xl X) (xD X) (xy X) d9 rr) (o : Ok X cX9_readOne RX9 4 (rmX9 (d9 + 1)) (some .boolean)) (v0 : Nat) (v1 : Int32) (v2 : Int32) (s0 : Int32) (h : Hp) (r : Int32) (hz : Hp) (q : Rt X (some (.int r)) hz 0 0) (e : bX9_readOne_25 f0 rr v0 v1 v2 s0 h = some (r, hz)) : G X 4 25 [(0, .ref v0), (1, .int v1), (2, .int v2)] [.int s0] h 0 0 := by
  unfold bX9_readOne_25 at e
  refine g_istore_n [(3, .int s0), (0, .ref v0), (1, .int v1), (2, .int v2)] o dX9_readOne_25 rfl (by decide) rfl ?_
  refine g_iload_n 0 o dX9_readOne_26 rfl rfl ?_
  refine g_if_ne (x := s0) 51 o dX9_readOne_27 (by decide) (fun u => ?_) (fun u => ?_)
  · rw [if_neg u] at e
    refine g_sb [1, 2, 3, 0] rfl ?_
    exact kX9_readOne_51 f0 rr hr o v0 v1 v2 s0 h r hz q e
  · rw [if_pos u] at e
    refine g_iload_n 3 o dX9_readOne_30 rfl rfl ?_
    refine g_bipush (v := 18) o dX9_readOne_31 (by decide) ?_
    refine g_icmp_lt (x := v2) (y := 18) 42 o dX9_readOne_33 (by decide) (fun u => ?_) (fun u => ?_)
    · rw [if_pos u] at e
      refine g_sb [1] rfl ?_
      exact kX9_readOne_42 f0 rr hr o v0 h r hz q e
    · rw [if_neg u] at e
      refine g_iload_n 3 o dX9_readOne_36 rfl rfl ?_
      refine g_bipush (v := 26) o dX9_readOne_37 (by decide) ?_
      refine g_icmp_le (x := v2) (y := 26) 51 o dX9_readOne_39 (by decide) (fun u => ?_) (fun u => ?_)
      · rw [if_pos u] at e
        refine g_sb [1, 2, 3, 0] rfl ?_
        exact kX9_readOne_51 f0 rr hr o v0 v1 v2 s0 h r hz q e
      · rw [if_neg u] at e
        refine g_sb [1] rfl ?_
        exact kX9_readOne_42 f0 rr hr o v0 h r hz q e
set_option maxRecDepth 100000 in
set_option maxHeartbeats 4000000 in
theorem mX9_readOne {l : Launch} {D : va_G} {cy : Nat → ClassId} {f0 : Nat} {rr : Nat → Nat → Int32 → Hp → Option (Int32 × Hp)} {d9 : Nat} (hr : RCX9 l D cy d9 rr) {a : Nat} {p0 : Int32} {h : Hp} {r : Int32} {hz : Hp} (e : fX9_readOne f0 rr a p0 h = some (r, hz)) : MC l D cy yX9_readOne cX9_readOne 4 (some .boolean) (rmX9 (d9 + 1)) [.ref a, .int p0] h (some (.int r)) hz := by
  refine mc_of2 (by decide) (Nat.le_of_ble_eq_true rfl) (fun X hl hD hy hin o q => ?_)
  subst hl; subst hD; subst hy
  show G X 4 0 [(0, .ref a), (1, .int p0)] [] h 0 0
  unfold fX9_readOne at e
  refine g_aload_n 0 o dX9_readOne_0 rfl rfl ?_
  obtain ⟨x1, q1, e⟩ := ob e
  refine g_getN 0 o cf9 (by decide) mw_229 dX9_readOne_1 q1 ?_
  obtain ⟨x4, q4, e⟩ := ob e
  refine g_getI 8 o cf4 (by decide) mw_98 dX9_readOne_4 q4 ?_
  refine g_istore_n [(2, .int x4), (0, .ref a), (1, .int p0)] o dX9_readOne_7 rfl (by decide) rfl ?_
  refine g_aload_n 1 o dX9_readOne_8 rfl rfl ?_
  obtain ⟨x9, q9, e⟩ := ob e
  refine g_getN 0 o cf9 (by decide) mw_229 dX9_readOne_9 q9 ?_
  obtain ⟨x12, q12, e⟩ := ob e
  refine g_getI 5 o cf4 (by decide) mw_92 dX9_readOne_12 q12 ?_
  refine g_bipush (v := 40) o dX9_readOne_15 (by decide) ?_
  refine g_icmp_ne (x := x12) (y := 40) 24 o dX9_readOne_17 (by decide) (fun u => ?_) (fun u => ?_)
  · rw [if_neg u] at e
    refine g_iconst (v := 0) o dX9_readOne_24 (by decide) ?_
    refine g_sb [1, 2, 0] rfl ?_
    exact kX9_readOne_25 f0 rr hr o a p0 x4 0 h r hz q e
  · rw [if_pos u] at e
    refine g_iconst (v := 1) o dX9_readOne_20 (by decide) ?_
    refine g_goto 25 o dX9_readOne_21 (by decide) ?_
    refine g_sb [1, 2, 0] rfl ?_
    exact kX9_readOne_25 f0 rr hr o a p0 x4 1 h r hz q e
theorem RCX9_all {l : Launch} {D : va_G} {cy : Nat → ClassId} (f0 : Nat) : ∀ d : Nat, RCX9 l D cy d (rX9 f0 d)
  | 0 => by
    refine ⟨?_, ?_, ?_⟩ <;> (intro a p0 h r hz e; cases e)
  | d1 + 1 => by
    refine ⟨?_, ?_, ?_⟩
    · intro a p0 h r hz e
      unfold rX9 at e
      rw [if_pos rfl] at e
      exact mX9_readCond (RCX9_all f0 d1) e
    · intro a p0 h r hz e
      unfold rX9 at e
      rw [if_neg (by decide)] at e
      rw [if_pos rfl] at e
      exact mX9_readAll (RCX9_all f0 d1) e
    · intro a p0 h r hz e
      unfold rX9 at e
      rw [if_neg (by decide)] at e
      rw [if_neg (by decide)] at e
      rw [if_pos rfl] at e
      exact mX9_readOne (RCX9_all f0 d1) e
theorem yo_X9_read : yok yX9_read 1 := ⟨by decide, by decide, by decide +kernel⟩
set_option maxRecDepth 100000 in
set_option maxHeartbeats 4000000 in
theorem mX9_read {l : Launch} {D : va_G} {cy : Nat → ClassId} {f0 : Nat} {a : Nat} {p0 : Int32} {h : Hp} {r : Int32} {hz : Hp} (e : fX9_read f0 a p0 h = some (r, hz)) : MC l D cy yX9_read cX9_read 2 (some .int) rmX9_read [.ref a, .int p0] h (some (.int r)) hz := by
  refine mc_of2 (by decide) (Nat.le_of_ble_eq_true rfl) (fun X hl hD hy hin o q => ?_)
  subst hl; subst hD; subst hy
  show G X 2 0 [(0, .ref a), (1, .int p0)] [] h 0 0
  unfold fX9_read at e
  refine g_aload_n 0 o dX9_read_0 rfl rfl ?_
  obtain ⟨x1, q1, e⟩ := ob e
  refine g_getN 0 o cf9 (by decide) mw_229 dX9_read_1 q1 ?_
  refine g_iload_n 1 o dX9_read_4 rfl rfl ?_
  refine g_sipush (v := 200) o dX9_read_5 (by decide) ?_
  obtain ⟨_, k8, e⟩ := ob e
  obtain ⟨h8, q8, e⟩ := ob e
  refine g_callV0 [.int p0, .int 200] o (mX4_open q8) cf4 (ckO_s k8) mw_602 mw_423 mw_424 mw_2 mw_425 rfl yo_X4_open rfl rfl (Nat.le_of_ble_eq_true rfl) ⟨by decide, by decide⟩ ⟨rfl, rfl⟩ dX9_read_8 ⟨by decide, by decide⟩ ?_
  refine g_aload_n 0 o dX9_read_11 rfl rfl ?_
  obtain ⟨x12, q12, e⟩ := ob e
  refine g_getN 2 o cf9 (by decide) mw_231 dX9_read_12 q12 ?_
  obtain ⟨_, k15, e⟩ := ob e
  obtain ⟨h15, q15, e⟩ := ob e
  refine g_callV0 [] o (mX8_clear q15) cf8 (ckO_s k15) mw_603 mw_587 mw_588 mw_10 mw_589 rfl yo_X8_clear rfl rfl (Nat.le_of_ble_eq_true rfl) ⟨by decide, by decide⟩ ⟨rfl, rfl⟩ dX9_read_15 ⟨by decide, by decide⟩ ?_
  refine g_aload_n 0 o dX9_read_18 rfl rfl ?_
  refine g_iconst (v := 0) o dX9_read_19 (by decide) ?_
  obtain ⟨h20, q20, e⟩ := ob e
  refine g_put (ty1 := .int) 3 o cf9 (by decide) mw_232 rfl (by decide +kernel) rfl rfl dX9_read_20 q20 ?_
  refine g_aload_n 0 o dX9_read_23 rfl rfl ?_
  refine g_iconst (v := 1) o dX9_read_24 (by decide) ?_
  obtain ⟨_, k25, e⟩ := ob e
  obtain ⟨x25, h25, q25, e⟩ := ob2_s e
  refine g_callVv [.int 1] o ((RCX9_all f0 40).1 _ _ _ _ _ q25) cf9 (ckO_s k25) mw_604 mw_605 mw_1697 mw_11 mw_606 rfl yo_X9_readCond rfl rfl (Nat.le_of_ble_eq_true rfl) ⟨by decide, by decide⟩ ⟨rfl, rfl⟩ dX9_read_25 ⟨by decide, by decide⟩ ?_
  refine g_if_eq (x := x25) 48 o dX9_read_28 (by decide) (fun u => ?_) (fun u => ?_)
  · rw [if_pos u] at e
    refine g_iconst (v := -1) o dX9_read_48 (by decide) ?_
    exact g_iret o dX9_read_49 (rt_v q e)
  · rw [if_neg u] at e
    refine g_aload_n 0 o dX9_read_31 rfl rfl ?_
    obtain ⟨x32, q32, e⟩ := ob e
    refine g_getN 0 o cf9 (by decide) mw_229 dX9_read_32 q32 ?_
    obtain ⟨_, k35, e⟩ := ob e
    obtain ⟨x35, h35, q35, e⟩ := ob2_s e
    refine g_callVv [] o (mX4_passEnd q35) cf4 (ckO_s k35) mw_625 mw_564 mw_565 mw_2 mw_566 rfl yo_X4_passEnd rfl rfl (Nat.le_of_ble_eq_true rfl) ⟨by decide, by decide⟩ ⟨rfl, rfl⟩ dX9_read_35 ⟨by decide, by decide⟩ ?_
    refine g_if_eq (x := x35) 48 o dX9_read_38 (by decide) (fun u => ?_) (fun u => ?_)
    · rw [if_pos u] at e
      refine g_iconst (v := -1) o dX9_read_48 (by decide) ?_
      exact g_iret o dX9_read_49 (rt_v q e)
    · rw [if_neg u] at e
      refine g_aload_n 0 o dX9_read_41 rfl rfl ?_
      obtain ⟨x42, q42, e⟩ := ob e
      refine g_getI 3 o cf9 (by decide) mw_232 dX9_read_42 q42 ?_
      refine g_goto 49 o dX9_read_45 (by decide) ?_
      exact g_iret o dX9_read_49 (rt_v q e)
theorem yo_X8_copyFrom : yok yX8_copyFrom 1 := ⟨by decide, by decide, by decide +kernel⟩
set_option maxRecDepth 100000 in
set_option maxHeartbeats 4000000 in
theorem mX8_copyFrom {l : Launch} {D : va_G} {cy : Nat → ClassId} {f0 : Nat} {a : Nat} {p0 : Nat} {h : Hp} {hz : Hp} (e : fX8_copyFrom f0 a p0 h = some hz) : MC l D cy yX8_copyFrom cX8_copyFrom 2 none rmX8_copyFrom [.ref a, .ref p0] h none hz := by
  refine mc_of2 (by decide) (Nat.le_of_ble_eq_true rfl) (fun X hl hD hy hin o q => ?_)
  subst hl; subst hD; subst hy
  show G X 2 0 [(0, .ref a), (1, .ref p0)] [] h 0 0
  unfold fX8_copyFrom at e
  refine g_aload_n 1 o dX8_copyFrom_0 rfl rfl ?_
  obtain ⟨x1, q1, e⟩ := ob e
  refine g_getN 0 o cf8 (by decide) mw_213 dX8_copyFrom_1 q1 ?_
  refine g_iconst (v := 0) o dX8_copyFrom_4 (by decide) ?_
  refine g_aload_n 0 o dX8_copyFrom_5 rfl rfl ?_
  obtain ⟨x6, q6, e⟩ := ob e
  refine g_getN 0 o cf8 (by decide) mw_213 dX8_copyFrom_6 q6 ?_
  refine g_iconst (v := 0) o dX8_copyFrom_9 (by decide) ?_
  refine g_bipush (v := 40) o dX8_copyFrom_10 (by decide) ?_
  obtain ⟨h12, q12, e⟩ := ob e
  refine g_cpI (t := 1) (ty := FieldType.int) rfl rfl (fun _ => rfl) o mw_630 mw_356 mw_355 mw_17 ⟨by decide, Nat.le_of_ble_eq_true rfl⟩ dX8_copyFrom_12 q12 ?_
  refine g_aload_n 1 o dX8_copyFrom_15 rfl rfl ?_
  obtain ⟨x16, q16, e⟩ := ob e
  refine g_getN 1 o cf8 (by decide) mw_214 dX8_copyFrom_16 q16 ?_
  refine g_iconst (v := 0) o dX8_copyFrom_19 (by decide) ?_
  refine g_aload_n 0 o dX8_copyFrom_20 rfl rfl ?_
  obtain ⟨x21, q21, e⟩ := ob e
  refine g_getN 1 o cf8 (by decide) mw_214 dX8_copyFrom_21 q21 ?_
  refine g_iconst (v := 0) o dX8_copyFrom_24 (by decide) ?_
  refine g_bipush (v := 40) o dX8_copyFrom_25 (by decide) ?_
  obtain ⟨h27, q27, e⟩ := ob e
  refine g_cpI (t := 1) (ty := FieldType.int) rfl rfl (fun _ => rfl) o mw_630 mw_356 mw_355 mw_17 ⟨by decide, Nat.le_of_ble_eq_true rfl⟩ dX8_copyFrom_27 q27 ?_
  refine g_aload_n 1 o dX8_copyFrom_30 rfl rfl ?_
  obtain ⟨x31, q31, e⟩ := ob e
  refine g_getN 2 o cf8 (by decide) mw_215 dX8_copyFrom_31 q31 ?_
  refine g_iconst (v := 0) o dX8_copyFrom_34 (by decide) ?_
  refine g_aload_n 0 o dX8_copyFrom_35 rfl rfl ?_
  obtain ⟨x36, q36, e⟩ := ob e
  refine g_getN 2 o cf8 (by decide) mw_215 dX8_copyFrom_36 q36 ?_
  refine g_iconst (v := 0) o dX8_copyFrom_39 (by decide) ?_
  refine g_bipush (v := 40) o dX8_copyFrom_40 (by decide) ?_
  obtain ⟨h42, q42, e⟩ := ob e
  refine g_cpI (t := 1) (ty := FieldType.int) rfl rfl (fun _ => rfl) o mw_630 mw_356 mw_355 mw_17 ⟨by decide, Nat.le_of_ble_eq_true rfl⟩ dX8_copyFrom_42 q42 ?_
  refine g_aload_n 0 o dX8_copyFrom_45 rfl rfl ?_
  refine g_aload_n 1 o dX8_copyFrom_46 rfl rfl ?_
  obtain ⟨x47, q47, e⟩ := ob e
  refine g_getI 3 o cf8 (by decide) mw_216 dX8_copyFrom_47 q47 ?_
  obtain ⟨h50, q50, e⟩ := ob e
  refine g_put (ty1 := .int) 3 o cf8 (by decide) mw_216 rfl (by decide +kernel) rfl rfl dX8_copyFrom_50 q50 ?_
  exact g_vret o dX8_copyFrom_53 (rt_0 q e)
theorem yo_X11_sentence : yok yX11_sentence 0 := ⟨by decide, by decide, by decide +kernel⟩
set_option maxRecDepth 100000 in
set_option maxHeartbeats 4000000 in
theorem mX11_sentence {l : Launch} {D : va_G} {cy : Nat → ClassId} {f0 : Nat} {a : Nat} {h : Hp} {r : Int32} {hz : Hp} (e : fX11_sentence f0 a h = some (r, hz)) : MC l D cy yX11_sentence cX11_sentence 2 (some .int) rmX11_sentence [.ref a] h (some (.int r)) hz := by
  refine mc_of2 (by decide) (Nat.le_of_ble_eq_true rfl) (fun X hl hD hy hin o q => ?_)
  subst hl; subst hD; subst hy
  show G X 2 0 [(0, .ref a)] [] h 0 0
  unfold fX11_sentence at e
  refine g_aload_n 0 o dX11_sentence_0 rfl rfl ?_
  obtain ⟨x1, q1, e⟩ := ob e
  refine g_getN 9 o cf11 (by decide) mw_373 dX11_sentence_1 q1 ?_
  refine g_aload_n 0 o dX11_sentence_4 rfl rfl ?_
  obtain ⟨_, k5, e⟩ := ob e
  obtain ⟨x5, h5, q5, e⟩ := ob2_s e
  refine g_callVv [] o (mX11_takeTape q5) cf11 (ckO_s k5) mw_415 mw_416 mw_1685 mw_1 mw_417 rfl yo_X11_takeTape rfl rfl (Nat.le_of_ble_eq_true rfl) ⟨by decide, by decide⟩ ⟨rfl, rfl⟩ dX11_sentence_5 ⟨by decide, by decide⟩ ?_
  obtain ⟨_, k8, e⟩ := ob e
  obtain ⟨x8, h8, q8, e⟩ := ob2_s e
  refine g_callVv [.int x5] o (mX9_read q8) cf9 (ckO_s k8) mw_598 mw_599 mw_600 mw_11 mw_601 rfl yo_X9_read rfl rfl (Nat.le_of_ble_eq_true rfl) ⟨by decide, by decide⟩ ⟨rfl, rfl⟩ dX11_sentence_8 ⟨by decide, by decide⟩ ?_
  refine g_istore_n [(1, .int x8), (0, .ref a)] o dX11_sentence_11 rfl (by decide) rfl ?_
  refine g_aload_n 1 o dX11_sentence_12 rfl rfl ?_
  refine g_aload_n 1 o dX11_sentence_13 rfl rfl ?_
  obtain ⟨x14, q14, e⟩ := ob e
  refine g_getN 2 o cf11 (by decide) mw_366 dX11_sentence_14 q14 ?_
  obtain ⟨x17, q17, e⟩ := ob e
  refine g_getI 10 o cf4 (by decide) mw_102 dX11_sentence_17 q17 ?_
  obtain ⟨h20, q20, e⟩ := ob e
  refine g_put (ty1 := .int) 3 o cf11 (by decide) mw_367 rfl (by decide +kernel) rfl rfl dX11_sentence_20 q20 ?_
  refine g_aload_n 1 o dX11_sentence_23 rfl rfl ?_
  obtain ⟨x24, q24, e⟩ := ob e
  refine g_getN 2 o cf11 (by decide) mw_366 dX11_sentence_24 q24 ?_
  obtain ⟨x27, q27, e⟩ := ob e
  refine g_getI 10 o cf4 (by decide) mw_102 dX11_sentence_27 q27 ?_
  refine g_if_eq (x := x27) 43 o dX11_sentence_30 (by decide) (fun u => ?_) (fun u => ?_)
  · rw [if_pos u] at e
    refine g_aload_n 1 o dX11_sentence_43 rfl rfl ?_
    obtain ⟨x44, q44, e⟩ := ob e
    refine g_getN 7 o cf11 (by decide) mw_371 dX11_sentence_44 q44 ?_
    refine g_aload_n 1 o dX11_sentence_47 rfl rfl ?_
    obtain ⟨x48, q48, e⟩ := ob e
    refine g_getN 8 o cf11 (by decide) mw_372 dX11_sentence_48 q48 ?_
    obtain ⟨_, k51, e⟩ := ob e
    obtain ⟨h51, q51, e⟩ := ob e
    refine g_callV0 [.ref x48] o (mX8_copyFrom q51) cf8 (ckO_s k51) mw_626 mw_627 mw_628 mw_10 mw_629 rfl yo_X8_copyFrom rfl rfl (Nat.le_of_ble_eq_true rfl) ⟨by decide, by decide⟩ ⟨rfl, rfl⟩ dX11_sentence_51 ⟨by decide, by decide⟩ ?_
    refine g_iload_n 0 o dX11_sentence_54 rfl rfl ?_
    exact g_iret o dX11_sentence_55 (rt_v q e)
  · rw [if_neg u] at e
    refine g_iconst (v := -1) o dX11_sentence_33 (by decide) ?_
    refine g_aload_n 1 o dX11_sentence_34 rfl rfl ?_
    obtain ⟨x35, q35, e⟩ := ob e
    refine g_getN 2 o cf11 (by decide) mw_366 dX11_sentence_35 q35 ?_
    obtain ⟨x38, q38, e⟩ := ob e
    refine g_getI 11 o cf4 (by decide) mw_104 dX11_sentence_38 q38 ?_
    refine g_isub (x := ((-1) : Int32)) (y := x38) o dX11_sentence_41 ?_
    exact g_iret o dX11_sentence_42 (rt_v q e)
theorem yo_X8_isThere : yok yX8_isThere 0 := ⟨by decide, by decide, by decide +kernel⟩
set_option maxRecDepth 100000 in
set_option maxHeartbeats 4000000 in
theorem mX8_isThere {l : Launch} {D : va_G} {cy : Nat → ClassId} {f0 : Nat} {a : Nat} {h : Hp} {r : Int32} {hz : Hp} (e : fX8_isThere f0 a h = some (r, hz)) : MC l D cy yX8_isThere cX8_isThere 1 (some .boolean) rmX8_isThere [.ref a] h (some (.int r)) hz := by
  refine mc_of2 (by decide) (Nat.le_of_ble_eq_true rfl) (fun X hl hD hy hin o q => ?_)
  subst hl; subst hD; subst hy
  show G X 1 0 [(0, .ref a)] [] h 0 0
  unfold fX8_isThere at e
  refine g_aload_n 0 o dX8_isThere_0 rfl rfl ?_
  obtain ⟨x1, q1, e⟩ := ob e
  refine g_getI 3 o cf8 (by decide) mw_216 dX8_isThere_1 q1 ?_
  refine g_if_le (x := x1) 11 o dX8_isThere_4 (by decide) (fun u => ?_) (fun u => ?_)
  · rw [if_pos u] at e
    refine g_iconst (v := 0) o dX8_isThere_11 (by decide) ?_
    exact g_zret o dX8_isThere_12 (zr_s e).1 (rt_v q (zr_s e).2)
  · rw [if_neg u] at e
    refine g_iconst (v := 1) o dX8_isThere_7 (by decide) ?_
    refine g_goto 12 o dX8_isThere_8 (by decide) ?_
    exact g_zret o dX8_isThere_12 (zr_s e).1 (rt_v q (zr_s e).2)
set_option maxRecDepth 100000 in
set_option maxHeartbeats 4000000 in
theorem kX10_hasBeenAt_23 {X : Cx} (f0 : Nat) (o : Ok X cX10_hasBeenAt RX10 2 rmX10_hasBeenAt (some .boolean)) (h : Hp) (r : Int32) (hz : Hp) (q : Rt X (some (.int r)) hz 0 0) (e : bX10_hasBeenAt_23 f0 h = some (r, hz)) : G X 2 23 [] [] h 0 0 := by
  unfold bX10_hasBeenAt_23 at e
  refine g_iconst (v := 1) o dX10_hasBeenAt_23 (by decide) ?_
  refine g_goto 28 o dX10_hasBeenAt_24 (by decide) ?_
  exact g_zret o dX10_hasBeenAt_28 (zr_s e).1 (rt_v q (zr_s e).2)
theorem yo_X10_hasBeenAt : yok yX10_hasBeenAt 1 := ⟨by decide, by decide, by decide +kernel⟩
set_option maxRecDepth 100000 in
set_option maxHeartbeats 4000000 in
theorem mX10_hasBeenAt {l : Launch} {D : va_G} {cy : Nat → ClassId} {f0 : Nat} {a : Nat} {p0 : Int32} {h : Hp} {r : Int32} {hz : Hp} (e : fX10_hasBeenAt f0 a p0 h = some (r, hz)) : MC l D cy yX10_hasBeenAt cX10_hasBeenAt 2 (some .boolean) rmX10_hasBeenAt [.ref a, .int p0] h (some (.int r)) hz := by
  refine mc_of2 (by decide) (Nat.le_of_ble_eq_true rfl) (fun X hl hD hy hin o q => ?_)
  subst hl; subst hD; subst hy
  show G X 2 0 [(0, .ref a), (1, .int p0)] [] h 0 0
  unfold fX10_hasBeenAt at e
  refine g_aload_n 0 o dX10_hasBeenAt_0 rfl rfl ?_
  obtain ⟨x1, q1, e⟩ := ob e
  refine g_getN 0 o cf10 (by decide) mw_276 dX10_hasBeenAt_1 q1 ?_
  obtain ⟨_, k4, e⟩ := ob e
  obtain ⟨x4, h4, q4, e⟩ := ob2_s e
  refine g_callVv [] o (mX6_isForHer q4) cf6 (ckO_s k4) mw_347 mw_348 mw_349 mw_7 mw_350 rfl yo_X6_isForHer rfl rfl (Nat.le_of_ble_eq_true rfl) ⟨by decide, by decide⟩ ⟨rfl, rfl⟩ dX10_hasBeenAt_4 ⟨by decide, by decide⟩ ?_
  refine g_if_eq (x := x4) 27 o dX10_hasBeenAt_7 (by decide) (fun u => ?_) (fun u => ?_)
  · rw [if_pos u] at e
    refine g_iconst (v := 0) o dX10_hasBeenAt_27 (by decide) ?_
    exact g_zret o dX10_hasBeenAt_28 (zr_s e).1 (rt_v q (zr_s e).2)
  · rw [if_neg u] at e
    refine g_iload_n 1 o dX10_hasBeenAt_10 rfl rfl ?_
    refine g_if_eq (x := p0) 23 o dX10_hasBeenAt_11 (by decide) (fun u => ?_) (fun u => ?_)
    · rw [if_pos u] at e
      refine g_sb [] rfl ?_
      exact kX10_hasBeenAt_23 f0 o h4 r hz q e
    · rw [if_neg u] at e
      refine g_aload_n 0 o dX10_hasBeenAt_14 rfl rfl ?_
      obtain ⟨x15, q15, e⟩ := ob e
      refine g_getN 9 o cf10 (by decide) mw_297 dX10_hasBeenAt_15 q15 ?_
      refine g_iload_n 1 o dX10_hasBeenAt_18 rfl rfl ?_
      obtain ⟨x19, q19, e⟩ := ob e
      refine g_iald o dX10_hasBeenAt_19 q19 ?_
      refine g_if_le (x := x19) 27 o dX10_hasBeenAt_20 (by decide) (fun u => ?_) (fun u => ?_)
      · rw [if_pos u] at e
        refine g_iconst (v := 0) o dX10_hasBeenAt_27 (by decide) ?_
        exact g_zret o dX10_hasBeenAt_28 (zr_s e).1 (rt_v q (zr_s e).2)
      · rw [if_neg u] at e
        refine g_sb [] rfl ?_
        exact kX10_hasBeenAt_23 f0 o h4 r hz q e
theorem yo_X10_canAct : yok yX10_canAct 0 := ⟨by decide, by decide, by decide +kernel⟩
set_option maxRecDepth 100000 in
set_option maxHeartbeats 4000000 in
theorem mX10_canAct {l : Launch} {D : va_G} {cy : Nat → ClassId} {f0 : Nat} {a : Nat} {h : Hp} {r : Int32} {hz : Hp} (e : fX10_canAct f0 a h = some (r, hz)) : MC l D cy yX10_canAct cX10_canAct 1 (some .boolean) rmX10_canAct [.ref a] h (some (.int r)) hz := by
  refine mc_of2 (by decide) (Nat.le_of_ble_eq_true rfl) (fun X hl hD hy hin o q => ?_)
  subst hl; subst hD; subst hy
  show G X 1 0 [(0, .ref a)] [] h 0 0
  unfold fX10_canAct at e
  refine g_aload_n 0 o dX10_canAct_0 rfl rfl ?_
  obtain ⟨x1, q1, e⟩ := ob e
  refine g_getN 0 o cf10 (by decide) mw_276 dX10_canAct_1 q1 ?_
  obtain ⟨_, k4, e⟩ := ob e
  obtain ⟨x4, h4, q4, e⟩ := ob2_s e
  refine g_callVv [] o (mX6_isForHer q4) cf6 (ckO_s k4) mw_347 mw_348 mw_349 mw_7 mw_350 rfl yo_X6_isForHer rfl rfl (Nat.le_of_ble_eq_true rfl) ⟨by decide, by decide⟩ ⟨rfl, rfl⟩ dX10_canAct_4 ⟨by decide, by decide⟩ ?_
  refine g_if_eq (x := x4) 21 o dX10_canAct_7 (by decide) (fun u => ?_) (fun u => ?_)
  · rw [if_pos u] at e
    refine g_iconst (v := 0) o dX10_canAct_21 (by decide) ?_
    exact g_zret o dX10_canAct_22 (zr_s e).1 (rt_v q (zr_s e).2)
  · rw [if_neg u] at e
    refine g_aload_n 0 o dX10_canAct_10 rfl rfl ?_
    obtain ⟨x11, q11, e⟩ := ob e
    refine g_getI 6 o cf10 (by decide) mw_290 dX10_canAct_11 q11 ?_
    refine g_if_ne (x := x11) 21 o dX10_canAct_14 (by decide) (fun u => ?_) (fun u => ?_)
    · rw [if_neg u] at e
      refine g_iconst (v := 0) o dX10_canAct_21 (by decide) ?_
      exact g_zret o dX10_canAct_22 (zr_s e).1 (rt_v q (zr_s e).2)
    · rw [if_pos u] at e
      refine g_iconst (v := 1) o dX10_canAct_17 (by decide) ?_
      refine g_goto 22 o dX10_canAct_18 (by decide) ?_
      exact g_zret o dX10_canAct_22 (zr_s e).1 (rt_v q (zr_s e).2)
theorem yo_X10_canSailTo : yok yX10_canSailTo 1 := ⟨by decide, by decide, by decide +kernel⟩
set_option maxRecDepth 100000 in
set_option maxHeartbeats 4000000 in
theorem mX10_canSailTo {l : Launch} {D : va_G} {cy : Nat → ClassId} {f0 : Nat} {a : Nat} {p0 : Int32} {h : Hp} {r : Int32} {hz : Hp} (e : fX10_canSailTo f0 a p0 h = some (r, hz)) : MC l D cy yX10_canSailTo cX10_canSailTo 2 (some .boolean) rmX10_canSailTo [.ref a, .int p0] h (some (.int r)) hz := by
  refine mc_of2 (by decide) (Nat.le_of_ble_eq_true rfl) (fun X hl hD hy hin o q => ?_)
  subst hl; subst hD; subst hy
  show G X 2 0 [(0, .ref a), (1, .int p0)] [] h 0 0
  unfold fX10_canSailTo at e
  refine g_aload_n 0 o dX10_canSailTo_0 rfl rfl ?_
  obtain ⟨_, k1, e⟩ := ob e
  obtain ⟨x1, h1, q1, e⟩ := ob2_s e
  refine g_callVv [] o (mX10_canAct q1) cf10 (ckO_s k1) mw_661 mw_662 mw_663 mw_13 mw_664 rfl yo_X10_canAct rfl rfl (Nat.le_of_ble_eq_true rfl) ⟨by decide, by decide⟩ ⟨rfl, rfl⟩ dX10_canSailTo_1 ⟨by decide, by decide⟩ ?_
  refine g_if_eq (x := x1) 31 o dX10_canSailTo_4 (by decide) (fun u => ?_) (fun u => ?_)
  · rw [if_pos u] at e
    refine g_iconst (v := 0) o dX10_canSailTo_31 (by decide) ?_
    exact g_zret o dX10_canSailTo_32 (zr_s e).1 (rt_v q (zr_s e).2)
  · rw [if_neg u] at e
    refine g_aload_n 0 o dX10_canSailTo_7 rfl rfl ?_
    obtain ⟨x8, q8, e⟩ := ob e
    refine g_getN 0 o cf10 (by decide) mw_276 dX10_canSailTo_8 q8 ?_
    obtain ⟨x11, q11, e⟩ := ob e
    refine g_getN 3 o cf6 (by decide) mw_154 dX10_canSailTo_11 q11 ?_
    refine g_aload_n 0 o dX10_canSailTo_14 rfl rfl ?_
    obtain ⟨x15, q15, e⟩ := ob e
    refine g_getI 2 o cf10 (by decide) mw_281 dX10_canSailTo_15 q15 ?_
    refine g_bipush (v := 8) o dX10_canSailTo_18 (by decide) ?_
    refine g_imul (x := x15) (y := 8) o dX10_canSailTo_20 ?_
    refine g_iload_n 1 o dX10_canSailTo_21 rfl rfl ?_
    refine g_iadd (x := (x15 * 8)) (y := p0) o dX10_canSailTo_22 ?_
    obtain ⟨x23, q23, e⟩ := ob e
    refine g_iald o dX10_canSailTo_23 q23 ?_
    refine g_if_le (x := x23) 31 o dX10_canSailTo_24 (by decide) (fun u => ?_) (fun u => ?_)
    · rw [if_pos u] at e
      refine g_iconst (v := 0) o dX10_canSailTo_31 (by decide) ?_
      exact g_zret o dX10_canSailTo_32 (zr_s e).1 (rt_v q (zr_s e).2)
    · rw [if_neg u] at e
      refine g_iconst (v := 1) o dX10_canSailTo_27 (by decide) ?_
      refine g_goto 32 o dX10_canSailTo_28 (by decide) ?_
      exact g_zret o dX10_canSailTo_32 (zr_s e).1 (rt_v q (zr_s e).2)
set_option maxRecDepth 100000 in
set_option maxHeartbeats 4000000 in
theorem kX10_safeNamesTo_65 {X : Cx} (f0 : Nat) (g28 : Nat → Int32 → Int32 → Int32 → Int32 → Hp → Option (Int32 × Hp)) (i28 : ∀ (v02 : Nat) (v12 : Int32) (v22 : Int32) (v32 : Int32) (v42 : Int32) (h2 : Hp) (r : Int32) (hz : Hp), Rt X (some (.int r)) hz 0 0 → g28 v02 v12 v22 v32 v42 h2 = some (r, hz) → G X 5 28 [(0, .ref v02), (1, .int v12), (2, .int v22), (3, .int v32), (4, .int v42)] [] h2 0 0) (o : Ok X cX10_safeNamesTo RX10 5 rmX10_safeNamesTo (some .int)) (v0 : Nat) (v1 : Int32) (v2 : Int32) (v3 : Int32) (v4 : Int32) (h : Hp) (r : Int32) (hz : Hp) (q : Rt X (some (.int r)) hz 0 0) (e : bX10_safeNamesTo_65 f0 g28 v0 v1 v2 v3 v4 h = some (r, hz)) : G X 5 65 [(0, .ref v0), (1, .int v1), (2, .int v2), (3, .int v3), (4, .int v4)] [] h 0 0 := by
  unfold bX10_safeNamesTo_65 at e
  refine g_iinc (k := 4) (v := (v4 + 1)) [(4, .int (v4 + 1)), (0, .ref v0), (1, .int v1), (2, .int v2), (3, .int v3)] o dX10_safeNamesTo_65 rfl rfl (by decide) rfl ?_
  refine g_goto 28 o dX10_safeNamesTo_68 (by decide) ?_
  refine g_sb [1, 2, 3, 4, 0] rfl ?_
  exact i28 v0 v1 v2 v3 (v4 + 1) h r hz q e
set_option maxRecDepth 100000 in
set_option maxHeartbeats 4000000 in
theorem kX10_safeNamesTo_28 {X : Cx} (f0 : Nat) (o : Ok X cX10_safeNamesTo RX10 5 rmX10_safeNamesTo (some .int)) (f : Nat) (v0 : Nat) (v1 : Int32) (v2 : Int32) (v3 : Int32) (v4 : Int32) (h : Hp) (r : Int32) (hz : Hp) (q : Rt X (some (.int r)) hz 0 0) (e : bX10_safeNamesTo_28 f0 f v0 v1 v2 v3 v4 h = some (r, hz)) : G X 5 28 [(0, .ref v0), (1, .int v1), (2, .int v2), (3, .int v3), (4, .int v4)] [] h 0 0 := by
  induction f generalizing v0 v1 v2 v3 v4 h r hz with
  | zero => cases e
  | succ f1 ih =>
    unfold bX10_safeNamesTo_28 at e
    refine g_iload 4 o dX10_safeNamesTo_28 rfl ?_
    refine g_aload_n 0 o dX10_safeNamesTo_30 rfl rfl ?_
    obtain ⟨x31, q31, e⟩ := ob e
    refine g_getN 0 o cf10 (by decide) mw_276 dX10_safeNamesTo_31 q31 ?_
    obtain ⟨x34, q34, e⟩ := ob e
    refine g_getN 1 o cf6 (by decide) mw_144 dX10_safeNamesTo_34 q34 ?_
    refine g_iconst (v := 3) o dX10_safeNamesTo_37 (by decide) ?_
    obtain ⟨x38, q38, e⟩ := ob e
    refine g_iald o dX10_safeNamesTo_38 q38 ?_
    refine g_icmp_ge (x := v4) (y := x38) 71 o dX10_safeNamesTo_39 (by decide) (fun u => ?_) (fun u => ?_)
    · rw [if_pos u] at e
      refine g_iload_n 3 o dX10_safeNamesTo_71 rfl rfl ?_
      exact g_iret o dX10_safeNamesTo_72 (rt_v q e)
    · rw [if_neg u] at e
      refine g_aload_n 0 o dX10_safeNamesTo_42 rfl rfl ?_
      obtain ⟨x43, q43, e⟩ := ob e
      refine g_getN 12 o cf10 (by decide) mw_302 dX10_safeNamesTo_43 q43 ?_
      refine g_iload_n 1 o dX10_safeNamesTo_46 rfl rfl ?_
      refine g_bipush (v := 8) o dX10_safeNamesTo_47 (by decide) ?_
      refine g_imul (x := v1) (y := 8) o dX10_safeNamesTo_49 ?_
      refine g_iload 4 o dX10_safeNamesTo_50 rfl ?_
      refine g_iadd (x := (v1 * 8)) (y := v4) o dX10_safeNamesTo_52 ?_
      obtain ⟨x53, q53, e⟩ := ob e
      refine g_iald o dX10_safeNamesTo_53 q53 ?_
      refine g_iload_n 2 o dX10_safeNamesTo_54 rfl rfl ?_
      refine g_icmp_le (x := x53) (y := v2) 65 o dX10_safeNamesTo_55 (by decide) (fun u => ?_) (fun u => ?_)
      · rw [if_pos u] at e
        exact kX10_safeNamesTo_65 f0 (bX10_safeNamesTo_28 f0 f1) ih o v0 v1 v2 v3 v4 h r hz q e
      · rw [if_neg u] at e
        refine g_iload_n 3 o dX10_safeNamesTo_58 rfl rfl ?_
        refine g_iconst (v := 1) o dX10_safeNamesTo_59 (by decide) ?_
        refine g_iload 4 o dX10_safeNamesTo_60 rfl ?_
        refine g_ishl (x := (1 : Int32)) (y := v4) o dX10_safeNamesTo_62 ?_
        refine g_ior (x := v3) (y := ((1 : Int32) <<< (v4 &&& 31))) o dX10_safeNamesTo_63 ?_
        refine g_istore_n [(3, .int (v3 ||| ((1 : Int32) <<< (v4 &&& 31)))), (0, .ref v0), (1, .int v1), (2, .int v2), (4, .int v4)] o dX10_safeNamesTo_64 rfl (by decide) rfl ?_
        refine g_sb [1, 2, 3, 0, 4] rfl ?_
        exact kX10_safeNamesTo_65 f0 (bX10_safeNamesTo_28 f0 f1) ih o v0 v1 v2 (v3 ||| ((1 : Int32) <<< (v4 &&& 31))) v4 h r hz q e
theorem yo_X10_safeNamesTo : yok yX10_safeNamesTo 1 := ⟨by decide, by decide, by decide +kernel⟩
set_option maxRecDepth 100000 in
set_option maxHeartbeats 4000000 in
theorem mX10_safeNamesTo {l : Launch} {D : va_G} {cy : Nat → ClassId} {f0 : Nat} {a : Nat} {p0 : Int32} {h : Hp} {r : Int32} {hz : Hp} (e : fX10_safeNamesTo f0 a p0 h = some (r, hz)) : MC l D cy yX10_safeNamesTo cX10_safeNamesTo 5 (some .int) rmX10_safeNamesTo [.ref a, .int p0] h (some (.int r)) hz := by
  refine mc_of2 (by decide) (Nat.le_of_ble_eq_true rfl) (fun X hl hD hy hin o q => ?_)
  subst hl; subst hD; subst hy
  show G X 5 0 [(0, .ref a), (1, .int p0)] [] h 0 0
  unfold fX10_safeNamesTo at e
  refine g_aload_n 0 o dX10_safeNamesTo_0 rfl rfl ?_
  obtain ⟨x1, q1, e⟩ := ob e
  refine g_getI 1 o cf10 (by decide) mw_278 dX10_safeNamesTo_1 q1 ?_
  refine g_aload_n 0 o dX10_safeNamesTo_4 rfl rfl ?_
  obtain ⟨x5, q5, e⟩ := ob e
  refine g_getN 0 o cf10 (by decide) mw_276 dX10_safeNamesTo_5 q5 ?_
  obtain ⟨x8, q8, e⟩ := ob e
  refine g_getN 3 o cf6 (by decide) mw_154 dX10_safeNamesTo_8 q8 ?_
  refine g_aload_n 0 o dX10_safeNamesTo_11 rfl rfl ?_
  obtain ⟨x12, q12, e⟩ := ob e
  refine g_getI 2 o cf10 (by decide) mw_281 dX10_safeNamesTo_12 q12 ?_
  refine g_bipush (v := 8) o dX10_safeNamesTo_15 (by decide) ?_
  refine g_imul (x := x12) (y := 8) o dX10_safeNamesTo_17 ?_
  refine g_iload_n 1 o dX10_safeNamesTo_18 rfl rfl ?_
  refine g_iadd (x := (x12 * 8)) (y := p0) o dX10_safeNamesTo_19 ?_
  obtain ⟨x20, q20, e⟩ := ob e
  refine g_iald o dX10_safeNamesTo_20 q20 ?_
  refine g_iadd (x := x1) (y := x20) o dX10_safeNamesTo_21 ?_
  refine g_istore_n [(2, .int (x1 + x20)), (0, .ref a), (1, .int p0)] o dX10_safeNamesTo_22 rfl (by decide) rfl ?_
  refine g_iconst (v := 0) o dX10_safeNamesTo_23 (by decide) ?_
  refine g_istore_n [(3, .int 0), (2, .int (x1 + x20)), (0, .ref a), (1, .int p0)] o dX10_safeNamesTo_24 rfl (by decide) rfl ?_
  refine g_iconst (v := 0) o dX10_safeNamesTo_25 (by decide) ?_
  refine g_istore [(4, .int 0), (3, .int 0), (2, .int (x1 + x20)), (0, .ref a), (1, .int p0)] o dX10_safeNamesTo_26 (by decide) rfl ?_
  refine g_sb [3, 4, 2, 1, 0] rfl ?_
  exact kX10_safeNamesTo_28 f0 o f0 a p0 (x1 + x20) 0 0 h r hz q e
theorem yo_X10_isSafeTo : yok yX10_isSafeTo 1 := ⟨by decide, by decide, by decide +kernel⟩
set_option maxRecDepth 100000 in
set_option maxHeartbeats 4000000 in
theorem mX10_isSafeTo {l : Launch} {D : va_G} {cy : Nat → ClassId} {f0 : Nat} {a : Nat} {p0 : Int32} {h : Hp} {r : Int32} {hz : Hp} (e : fX10_isSafeTo f0 a p0 h = some (r, hz)) : MC l D cy yX10_isSafeTo cX10_isSafeTo 2 (some .boolean) rmX10_isSafeTo [.ref a, .int p0] h (some (.int r)) hz := by
  refine mc_of2 (by decide) (Nat.le_of_ble_eq_true rfl) (fun X hl hD hy hin o q => ?_)
  subst hl; subst hD; subst hy
  show G X 2 0 [(0, .ref a), (1, .int p0)] [] h 0 0
  unfold fX10_isSafeTo at e
  refine g_aload_n 0 o dX10_isSafeTo_0 rfl rfl ?_
  refine g_iload_n 1 o dX10_isSafeTo_1 rfl rfl ?_
  obtain ⟨_, k2, e⟩ := ob e
  obtain ⟨x2, h2, q2, e⟩ := ob2_s e
  refine g_callVv [.int p0] o (mX10_canSailTo q2) cf10 (ckO_s k2) mw_657 mw_658 mw_659 mw_13 mw_660 rfl yo_X10_canSailTo rfl rfl (Nat.le_of_ble_eq_true rfl) ⟨by decide, by decide⟩ ⟨rfl, rfl⟩ dX10_isSafeTo_2 ⟨by decide, by decide⟩ ?_
  refine g_if_eq (x := x2) 27 o dX10_isSafeTo_5 (by decide) (fun u => ?_) (fun u => ?_)
  · rw [if_pos u] at e
    refine g_iconst (v := 0) o dX10_isSafeTo_27 (by decide) ?_
    exact g_zret o dX10_isSafeTo_28 (zr_s e).1 (rt_v q (zr_s e).2)
  · rw [if_neg u] at e
    refine g_aload_n 0 o dX10_isSafeTo_8 rfl rfl ?_
    refine g_iload_n 1 o dX10_isSafeTo_9 rfl rfl ?_
    obtain ⟨_, k10, e⟩ := ob e
    obtain ⟨x10, h10, q10, e⟩ := ob2_s e
    refine g_callVv [.int p0] o (mX10_safeNamesTo q10) cf10 (ckO_s k10) mw_665 mw_666 mw_667 mw_13 mw_668 rfl yo_X10_safeNamesTo rfl rfl (Nat.le_of_ble_eq_true rfl) ⟨by decide, by decide⟩ ⟨rfl, rfl⟩ dX10_isSafeTo_10 ⟨by decide, by decide⟩ ?_
    refine g_aload_n 0 o dX10_isSafeTo_13 rfl rfl ?_
    obtain ⟨x14, q14, e⟩ := ob e
    refine g_getI 3 o cf10 (by decide) mw_284 dX10_isSafeTo_14 q14 ?_
    refine g_ishr (x := x10) (y := x14) o dX10_isSafeTo_17 ?_
    refine g_iconst (v := 1) o dX10_isSafeTo_18 (by decide) ?_
    refine g_iand (x := (x10 >>> (x14 &&& 31))) (y := 1) o dX10_isSafeTo_19 ?_
    refine g_if_eq (x := ((x10 >>> (x14 &&& 31)) &&& 1)) 27 o dX10_isSafeTo_20 (by decide) (fun u => ?_) (fun u => ?_)
    · rw [if_pos u] at e
      refine g_iconst (v := 0) o dX10_isSafeTo_27 (by decide) ?_
      exact g_zret o dX10_isSafeTo_28 (zr_s e).1 (rt_v q (zr_s e).2)
    · rw [if_neg u] at e
      refine g_iconst (v := 1) o dX10_isSafeTo_23 (by decide) ?_
      refine g_goto 28 o dX10_isSafeTo_24 (by decide) ?_
      exact g_zret o dX10_isSafeTo_28 (zr_s e).1 (rt_v q (zr_s e).2)
theorem yo_X10_knowsNow : yok yX10_knowsNow 2 := ⟨by decide, by decide, by decide +kernel⟩
set_option maxRecDepth 100000 in
set_option maxHeartbeats 4000000 in
theorem mX10_knowsNow {l : Launch} {D : va_G} {cy : Nat → ClassId} {f0 : Nat} {a : Nat} {p0 : Int32} {p1 : Int32} {h : Hp} {r : Int32} {hz : Hp} (e : fX10_knowsNow f0 a p0 p1 h = some (r, hz)) : MC l D cy yX10_knowsNow cX10_knowsNow 3 (some .boolean) rmX10_knowsNow [.ref a, .int p0, .int p1] h (some (.int r)) hz := by
  refine mc_of2 (by decide) (Nat.le_of_ble_eq_true rfl) (fun X hl hD hy hin o q => ?_)
  subst hl; subst hD; subst hy
  show G X 3 0 [(0, .ref a), (1, .int p0), (2, .int p1)] [] h 0 0
  unfold fX10_knowsNow at e
  refine g_aload_n 0 o dX10_knowsNow_0 rfl rfl ?_
  obtain ⟨x1, q1, e⟩ := ob e
  refine g_getN 12 o cf10 (by decide) mw_302 dX10_knowsNow_1 q1 ?_
  refine g_iload_n 1 o dX10_knowsNow_4 rfl rfl ?_
  refine g_bipush (v := 8) o dX10_knowsNow_5 (by decide) ?_
  refine g_imul (x := p0) (y := 8) o dX10_knowsNow_7 ?_
  refine g_iload_n 2 o dX10_knowsNow_8 rfl rfl ?_
  refine g_iadd (x := (p0 * 8)) (y := p1) o dX10_knowsNow_9 ?_
  obtain ⟨x10, q10, e⟩ := ob e
  refine g_iald o dX10_knowsNow_10 q10 ?_
  refine g_aload_n 0 o dX10_knowsNow_11 rfl rfl ?_
  obtain ⟨x12, q12, e⟩ := ob e
  refine g_getI 1 o cf10 (by decide) mw_278 dX10_knowsNow_12 q12 ?_
  refine g_icmp_gt (x := x10) (y := x12) 22 o dX10_knowsNow_15 (by decide) (fun u => ?_) (fun u => ?_)
  · rw [if_pos u] at e
    refine g_iconst (v := 0) o dX10_knowsNow_22 (by decide) ?_
    exact g_zret o dX10_knowsNow_23 (zr_s e).1 (rt_v q (zr_s e).2)
  · rw [if_neg u] at e
    refine g_iconst (v := 1) o dX10_knowsNow_18 (by decide) ?_
    refine g_goto 23 o dX10_knowsNow_19 (by decide) ?_
    exact g_zret o dX10_knowsNow_23 (zr_s e).1 (rt_v q (zr_s e).2)
theorem yo_X6_has : yok yX6_has 2 := ⟨by decide, by decide, by decide +kernel⟩
set_option maxRecDepth 100000 in
set_option maxHeartbeats 4000000 in
theorem mX6_has {l : Launch} {D : va_G} {cy : Nat → ClassId} {f0 : Nat} {a : Nat} {p0 : Int32} {p1 : Int32} {h : Hp} {r : Int32} {hz : Hp} (e : fX6_has f0 a p0 p1 h = some (r, hz)) : MC l D cy yX6_has cX6_has 3 (some .boolean) rmX6_has [.ref a, .int p0, .int p1] h (some (.int r)) hz := by
  refine mc_of2 (by decide) (Nat.le_of_ble_eq_true rfl) (fun X hl hD hy hin o q => ?_)
  subst hl; subst hD; subst hy
  show G X 3 0 [(0, .ref a), (1, .int p0), (2, .int p1)] [] h 0 0
  unfold fX6_has at e
  refine g_iload_n 2 o dX6_has_0 rfl rfl ?_
  refine g_if_lt (x := p1) 18 o dX6_has_1 (by decide) (fun u => ?_) (fun u => ?_)
  · rw [if_pos u] at e
    refine g_iconst (v := 0) o dX6_has_18 (by decide) ?_
    exact g_zret o dX6_has_19 (zr_s e).1 (rt_v q (zr_s e).2)
  · rw [if_neg u] at e
    refine g_iload_n 2 o dX6_has_4 rfl rfl ?_
    refine g_aload_n 0 o dX6_has_5 rfl rfl ?_
    obtain ⟨x6, q6, e⟩ := ob e
    refine g_getN 1 o cf6 (by decide) mw_142 dX6_has_6 q6 ?_
    refine g_iload_n 1 o dX6_has_9 rfl rfl ?_
    obtain ⟨x10, q10, e⟩ := ob e
    refine g_iald o dX6_has_10 q10 ?_
    refine g_icmp_ge (x := p1) (y := x10) 18 o dX6_has_11 (by decide) (fun u => ?_) (fun u => ?_)
    · rw [if_pos u] at e
      refine g_iconst (v := 0) o dX6_has_18 (by decide) ?_
      exact g_zret o dX6_has_19 (zr_s e).1 (rt_v q (zr_s e).2)
    · rw [if_neg u] at e
      refine g_iconst (v := 1) o dX6_has_14 (by decide) ?_
      refine g_goto 19 o dX6_has_15 (by decide) ?_
      exact g_zret o dX6_has_19 (zr_s e).1 (rt_v q (zr_s e).2)
