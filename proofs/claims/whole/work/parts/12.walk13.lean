set_option maxRecDepth 100000 in
set_option maxHeartbeats 4000000 in
theorem kX12_said_58 {X : Cx} (f0 : Nat) (g27 : Nat → Int32 → Int32 → Int32 → Hp → Option (Int32 × Hp)) (i27 : ∀ (v02 : Nat) (v12 : Int32) (v22 : Int32) (v32 : Int32) (h2 : Hp) (r : Int32) (hz : Hp), Rt X (some (.int r)) hz 0 0 → g27 v02 v12 v22 v32 h2 = some (r, hz) → G X 4 27 [(0, .ref v02), (1, .int v12), (2, .int v22), (3, .int v32)] [] h2 0 0) (o : Ok X cX12_said RX12 4 rmX12_said (some .int)) (v0 : Nat) (v1 : Int32) (v2 : Int32) (v3 : Int32) (h : Hp) (r : Int32) (hz : Hp) (q : Rt X (some (.int r)) hz 0 0) (e : bX12_said_58 f0 g27 v0 v1 v2 v3 h = some (r, hz)) : G X 4 58 [(0, .ref v0), (1, .int v1), (2, .int v2), (3, .int v3)] [] h 0 0 := by
  unfold bX12_said_58 at e
  refine g_iinc (k := 3) (v := (v3 + 1)) [(3, .int (v3 + 1)), (0, .ref v0), (1, .int v1), (2, .int v2)] o dX12_said_58 rfl rfl (by decide) rfl ?_
  refine g_goto 27 o dX12_said_61 (by decide) ?_
  refine g_sb [1, 2, 3, 0] rfl ?_
  exact i27 v0 v1 v2 (v3 + 1) h r hz q e
set_option maxRecDepth 100000 in
set_option maxHeartbeats 4000000 in
theorem kX12_said_27 {X : Cx} (f0 : Nat) (o : Ok X cX12_said RX12 4 rmX12_said (some .int)) (f : Nat) (v0 : Nat) (v1 : Int32) (v2 : Int32) (v3 : Int32) (h : Hp) (r : Int32) (hz : Hp) (q : Rt X (some (.int r)) hz 0 0) (e : bX12_said_27 f0 f v0 v1 v2 v3 h = some (r, hz)) : G X 4 27 [(0, .ref v0), (1, .int v1), (2, .int v2), (3, .int v3)] [] h 0 0 := by
  induction f generalizing v0 v1 v2 v3 h r hz with
  | zero => cases e
  | succ f1 ih =>
    unfold bX12_said_27 at e
    refine g_iload_n 3 o dX12_said_27 rfl rfl ?_
    refine g_aload_n 0 o dX12_said_28 rfl rfl ?_
    obtain ⟨x29, q29, e⟩ := ob e
    refine g_getN 6 o cf12 (by decide) mw_1192 dX12_said_29 q29 ?_
    refine g_iconst (v := 0) o dX12_said_32 (by decide) ?_
    obtain ⟨x33, q33, e⟩ := ob e
    refine g_iald o dX12_said_33 q33 ?_
    refine g_icmp_ge (x := v3) (y := x33) 64 o dX12_said_34 (by decide) (fun u => ?_) (fun u => ?_)
    · rw [if_pos u] at e
      refine g_iload_n 1 o dX12_said_64 rfl rfl ?_
      refine g_iconst (v := -1) o dX12_said_65 (by decide) ?_
      refine g_icmp_ne (x := v1) (y := (-1)) 73 o dX12_said_66 (by decide) (fun u => ?_) (fun u => ?_)
      · rw [if_neg u] at e
        refine g_iconst (v := -1) o dX12_said_73 (by decide) ?_
        exact g_iret o dX12_said_74 (rt_v q e)
      · rw [if_pos u] at e
        refine g_iload_n 2 o dX12_said_69 rfl rfl ?_
        refine g_goto 74 o dX12_said_70 (by decide) ?_
        exact g_iret o dX12_said_74 (rt_v q e)
    · rw [if_neg u] at e
      refine g_aload_n 0 o dX12_said_37 rfl rfl ?_
      refine g_iload_n 3 o dX12_said_38 rfl rfl ?_
      obtain ⟨_, k39, e⟩ := ob e
      obtain ⟨x39, h39, q39, e⟩ := ob2_s e
      refine g_callVv [.int v3] o (mX12_isSaid q39) cf12 (ckO_s k39) mw_1657 mw_1658 mw_1792 mw_19 mw_1659 rfl yo_X12_isSaid rfl rfl (Nat.le_of_ble_eq_true rfl) ⟨by decide, by decide⟩ ⟨rfl, rfl⟩ dX12_said_39 ⟨by decide, by decide⟩ ?_
      refine g_if_ne (x := x39) 48 o dX12_said_42 (by decide) (fun u => ?_) (fun u => ?_)
      · rw [if_neg u] at e
        refine g_iload_n 2 o dX12_said_48 rfl rfl ?_
        refine g_iload_n 1 o dX12_said_49 rfl rfl ?_
        refine g_icmp_ne (x := v2) (y := v1) 55 o dX12_said_50 (by decide) (fun u => ?_) (fun u => ?_)
        · rw [if_neg u] at e
          refine g_iinc (k := 2) (v := (v2 + 1)) [(2, .int (v2 + 1)), (0, .ref v0), (1, .int v1), (3, .int v3)] o dX12_said_55 rfl rfl (by decide) rfl ?_
          refine g_sb [1, 2, 0, 3] rfl ?_
          exact kX12_said_58 f0 (bX12_said_27 f0 f1) ih o v0 v1 (v2 + 1) v3 h39 r hz q e
        · rw [if_pos u] at e
          refine g_iload_n 3 o dX12_said_53 rfl rfl ?_
          exact g_iret o dX12_said_54 (rt_v q e)
      · rw [if_pos u] at e
        refine g_goto 58 o dX12_said_45 (by decide) ?_
        exact kX12_said_58 f0 (bX12_said_27 f0 f1) ih o v0 v1 v2 v3 h39 r hz q e
theorem yo_X12_said : yok yX12_said 1 := ⟨by decide, by decide, by decide +kernel⟩
set_option maxRecDepth 100000 in
set_option maxHeartbeats 4000000 in
theorem mX12_said {l : Launch} {D : va_G} {cy : Nat → ClassId} {f0 : Nat} {a : Nat} {p0 : Int32} {h : Hp} {r : Int32} {hz : Hp} (e : fX12_said f0 a p0 h = some (r, hz)) : MC l D cy yX12_said cX12_said 4 (some .int) rmX12_said [.ref a, .int p0] h (some (.int r)) hz := by
  refine mc_of2 (by decide) (Nat.le_of_ble_eq_true rfl) (fun X hl hD hy hin o q => ?_)
  subst hl; subst hD; subst hy
  show G X 4 0 [(0, .ref a), (1, .int p0)] [] h 0 0
  unfold fX12_said at e
  refine g_aload_n 0 o dX12_said_0 rfl rfl ?_
  refine g_iconst (v := 0) o dX12_said_1 (by decide) ?_
  obtain ⟨h2, q2, e⟩ := ob e
  refine g_put (ty1 := .int) 0 o cf12 (by decide) mw_1186 rfl (by decide +kernel) rfl rfl dX12_said_2 q2 ?_
  refine g_aload_n 0 o dX12_said_5 rfl rfl ?_
  obtain ⟨x6, q6, e⟩ := ob e
  refine g_getN 6 o cf12 (by decide) mw_1192 dX12_said_6 q6 ?_
  refine g_sipush (v := 465) o dX12_said_9 (by decide) ?_
  obtain ⟨x12, q12, e⟩ := ob e
  refine g_iald o dX12_said_12 q12 ?_
  refine g_if_eq (x := x12) 21 o dX12_said_13 (by decide) (fun u => ?_) (fun u => ?_)
  · rw [if_pos u] at e
    refine g_iconst (v := -1) o dX12_said_21 (by decide) ?_
    exact g_iret o dX12_said_22 (rt_v q e)
  · rw [if_neg u] at e
    refine g_iload_n 1 o dX12_said_16 rfl rfl ?_
    refine g_iconst (v := -1) o dX12_said_17 (by decide) ?_
    refine g_icmp_ge (x := p0) (y := (-1)) 23 o dX12_said_18 (by decide) (fun u => ?_) (fun u => ?_)
    · rw [if_pos u] at e
      refine g_iconst (v := 0) o dX12_said_23 (by decide) ?_
      refine g_istore_n [(2, .int 0), (0, .ref a), (1, .int p0)] o dX12_said_24 rfl (by decide) rfl ?_
      refine g_iconst (v := 0) o dX12_said_25 (by decide) ?_
      refine g_istore_n [(3, .int 0), (2, .int 0), (0, .ref a), (1, .int p0)] o dX12_said_26 rfl (by decide) rfl ?_
      refine g_sb [2, 3, 1, 0] rfl ?_
      exact kX12_said_27 f0 o f0 a p0 0 0 h2 r hz q e
    · rw [if_neg u] at e
      refine g_iconst (v := -1) o dX12_said_21 (by decide) ?_
      exact g_iret o dX12_said_22 (rt_v q e)
set_option maxRecDepth 100000 in
set_option maxHeartbeats 4000000 in
theorem kX12_image_51 {X : Cx} (f0 : Nat) (o : Ok X cX12_image RX12 3 rmX12_image (some .boolean)) (f : Nat) (v0 : Nat) (v1 : Int32) (v2 : Int32) (h : Hp) (r : Int32) (hz : Hp) (q : Rt X (some (.int r)) hz 0 0) (e : bX12_image_51 f0 f v0 v1 v2 h = some (r, hz)) : G X 3 51 [(0, .ref v0), (1, .int v1), (2, .int v2)] [] h 0 0 := by
  induction f generalizing v0 v1 v2 h r hz with
  | zero => cases e
  | succ f1 ih =>
    unfold bX12_image_51 at e
    refine g_iload_n 2 o dX12_image_51 rfl rfl ?_
    refine g_bipush (v := 30) o dX12_image_52 (by decide) ?_
    refine g_icmp_ge (x := v2) (y := 30) 80 o dX12_image_54 (by decide) (fun u => ?_) (fun u => ?_)
    · rw [if_pos u] at e
      refine g_aload_n 0 o dX12_image_80 rfl rfl ?_
      obtain ⟨x81, q81, e⟩ := ob e
      refine g_getN 48 o cf12 (by decide) mw_1234 dX12_image_81 q81 ?_
      refine g_iload_n 1 o dX12_image_84 rfl rfl ?_
      refine g_iconst (v := 1) o dX12_image_85 (by decide) ?_
      obtain ⟨h86, q86, e⟩ := ob e
      refine g_zast o dX12_image_86 q86 ?_
      refine g_iconst (v := 1) o dX12_image_87 (by decide) ?_
      exact g_zret o dX12_image_88 (zr_s e).1 (rt_v q (zr_s e).2)
    · rw [if_neg u] at e
      refine g_aload_n 0 o dX12_image_57 rfl rfl ?_
      obtain ⟨x58, q58, e⟩ := ob e
      refine g_getN 47 o cf12 (by decide) mw_1233 dX12_image_58 q58 ?_
      refine g_bipush (v := 30) o dX12_image_61 (by decide) ?_
      refine g_iload_n 1 o dX12_image_63 rfl rfl ?_
      refine g_imul (x := (30 : Int32)) (y := v1) o dX12_image_64 ?_
      refine g_iload_n 2 o dX12_image_65 rfl rfl ?_
      refine g_iadd (x := ((30 : Int32) * v1)) (y := v2) o dX12_image_66 ?_
      refine g_aload_n 0 o dX12_image_67 rfl rfl ?_
      obtain ⟨x68, q68, e⟩ := ob e
      refine g_getN 9 o cf12 (by decide) mw_1195 dX12_image_68 q68 ?_
      refine g_iload_n 2 o dX12_image_71 rfl rfl ?_
      obtain ⟨x72, q72, e⟩ := ob e
      refine g_lald o dX12_image_72 q72 ?_
      obtain ⟨h73, q73, e⟩ := ob e
      refine g_last o dX12_image_73 q73 ?_
      refine g_iinc (k := 2) (v := (v2 + 1)) [(2, .int (v2 + 1)), (0, .ref v0), (1, .int v1)] o dX12_image_74 rfl rfl (by decide) rfl ?_
      refine g_goto 51 o dX12_image_77 (by decide) ?_
      refine g_sb [1, 2, 0] rfl ?_
      exact ih v0 v1 (v2 + 1) h73 r hz q e
set_option maxRecDepth 100000 in
set_option maxHeartbeats 4000000 in
theorem kX12_image_18 {X : Cx} (f0 : Nat) (o : Ok X cX12_image RX12 3 rmX12_image (some .boolean)) (f : Nat) (v0 : Nat) (v1 : Int32) (v2 : Int32) (h : Hp) (r : Int32) (hz : Hp) (q : Rt X (some (.int r)) hz 0 0) (e : bX12_image_18 f0 f v0 v1 v2 h = some (r, hz)) : G X 3 18 [(0, .ref v0), (1, .int v1), (2, .int v2)] [] h 0 0 := by
  induction f generalizing v0 v1 v2 h r hz with
  | zero => cases e
  | succ f1 ih =>
    unfold bX12_image_18 at e
    refine g_iload_n 2 o dX12_image_18 rfl rfl ?_
    refine g_sipush (v := 646) o dX12_image_19 (by decide) ?_
    refine g_icmp_ge (x := v2) (y := 646) 49 o dX12_image_22 (by decide) (fun u => ?_) (fun u => ?_)
    · rw [if_pos u] at e
      refine g_iconst (v := 0) o dX12_image_49 (by decide) ?_
      refine g_istore_n [(2, .int 0), (0, .ref v0), (1, .int v1)] o dX12_image_50 rfl (by decide) rfl ?_
      refine g_sb [1, 2, 0] rfl ?_
      exact kX12_image_51 f0 o f0 v0 v1 0 h r hz q e
    · rw [if_neg u] at e
      refine g_aload_n 0 o dX12_image_25 rfl rfl ?_
      obtain ⟨x26, q26, e⟩ := ob e
      refine g_getN 46 o cf12 (by decide) mw_1232 dX12_image_26 q26 ?_
      refine g_sipush (v := 646) o dX12_image_29 (by decide) ?_
      refine g_iload_n 1 o dX12_image_32 rfl rfl ?_
      refine g_imul (x := (646 : Int32)) (y := v1) o dX12_image_33 ?_
      refine g_iload_n 2 o dX12_image_34 rfl rfl ?_
      refine g_iadd (x := ((646 : Int32) * v1)) (y := v2) o dX12_image_35 ?_
      refine g_aload_n 0 o dX12_image_36 rfl rfl ?_
      obtain ⟨x37, q37, e⟩ := ob e
      refine g_getN 6 o cf12 (by decide) mw_1192 dX12_image_37 q37 ?_
      refine g_iload_n 2 o dX12_image_40 rfl rfl ?_
      obtain ⟨x41, q41, e⟩ := ob e
      refine g_iald o dX12_image_41 q41 ?_
      obtain ⟨h42, q42, e⟩ := ob e
      refine g_iast o dX12_image_42 q42 ?_
      refine g_iinc (k := 2) (v := (v2 + 1)) [(2, .int (v2 + 1)), (0, .ref v0), (1, .int v1)] o dX12_image_43 rfl rfl (by decide) rfl ?_
      refine g_goto 18 o dX12_image_46 (by decide) ?_
      refine g_sb [1, 2, 0] rfl ?_
      exact ih v0 v1 (v2 + 1) h42 r hz q e
theorem yo_X12_image : yok yX12_image 1 := ⟨by decide, by decide, by decide +kernel⟩
set_option maxRecDepth 100000 in
set_option maxHeartbeats 4000000 in
theorem mX12_image {l : Launch} {D : va_G} {cy : Nat → ClassId} {f0 : Nat} {a : Nat} {p0 : Int32} {h : Hp} {r : Int32} {hz : Hp} (e : fX12_image f0 a p0 h = some (r, hz)) : MC l D cy yX12_image cX12_image 3 (some .boolean) rmX12_image [.ref a, .int p0] h (some (.int r)) hz := by
  refine mc_of2 (by decide) (Nat.le_of_ble_eq_true rfl) (fun X hl hD hy hin o q => ?_)
  subst hl; subst hD; subst hy
  show G X 3 0 [(0, .ref a), (1, .int p0)] [] h 0 0
  unfold fX12_image at e
  refine g_aload_n 0 o dX12_image_0 rfl rfl ?_
  refine g_iconst (v := 0) o dX12_image_1 (by decide) ?_
  obtain ⟨h2, q2, e⟩ := ob e
  refine g_put (ty1 := .int) 0 o cf12 (by decide) mw_1186 rfl (by decide +kernel) rfl rfl dX12_image_2 q2 ?_
  refine g_iload_n 1 o dX12_image_5 rfl rfl ?_
  refine g_iconst (v := 0) o dX12_image_6 (by decide) ?_
  refine g_iconst (v := 1) o dX12_image_7 (by decide) ?_
  obtain ⟨x8, h8, q8, e⟩ := ob2_s e
  refine g_callSv [.int p0, .int 0, .int 1] o (mX12_isIn q8) mw_1337 mw_1338 mw_19 mw_1339 yo_X12_isIn rfl rfl (Nat.le_of_ble_eq_true rfl) ⟨by decide, by decide⟩ ⟨rfl, rfl⟩ dX12_image_8 ⟨by decide, by decide⟩ ?_
  refine g_if_ne (x := x8) 16 o dX12_image_11 (by decide) (fun u => ?_) (fun u => ?_)
  · rw [if_neg u] at e
    refine g_iconst (v := 0) o dX12_image_16 (by decide) ?_
    refine g_istore_n [(2, .int 0), (0, .ref a), (1, .int p0)] o dX12_image_17 rfl (by decide) rfl ?_
    refine g_sb [1, 2, 0] rfl ?_
    exact kX12_image_18 f0 o f0 a p0 0 h8 r hz q e
  · rw [if_pos u] at e
    refine g_iconst (v := 0) o dX12_image_14 (by decide) ?_
    exact g_zret o dX12_image_15 (zr_s e).1 (rt_v q (zr_s e).2)
set_option maxRecDepth 100000 in
set_option maxHeartbeats 4000000 in
theorem kX12_restore_60 {X : Cx} (f0 : Nat) (o : Ok X cX12_restore RX12 3 rmX12_restore (some .boolean)) (f : Nat) (v0 : Nat) (v1 : Int32) (v2 : Int32) (h : Hp) (r : Int32) (hz : Hp) (q : Rt X (some (.int r)) hz 0 0) (e : bX12_restore_60 f0 f v0 v1 v2 h = some (r, hz)) : G X 3 60 [(0, .ref v0), (1, .int v1), (2, .int v2)] [] h 0 0 := by
  induction f generalizing v0 v1 v2 h r hz with
  | zero => cases e
  | succ f1 ih =>
    unfold bX12_restore_60 at e
    refine g_iload_n 2 o dX12_restore_60 rfl rfl ?_
    refine g_bipush (v := 30) o dX12_restore_61 (by decide) ?_
    refine g_icmp_ge (x := v2) (y := 30) 89 o dX12_restore_63 (by decide) (fun u => ?_) (fun u => ?_)
    · rw [if_pos u] at e
      refine g_aload_n 0 o dX12_restore_89 rfl rfl ?_
      refine g_bipush (v := 8) o dX12_restore_90 (by decide) ?_
      refine g_aload_n 0 o dX12_restore_92 rfl rfl ?_
      obtain ⟨x93, q93, e⟩ := ob e
      refine g_getN 21 o cf12 (by decide) mw_1207 dX12_restore_93 q93 ?_
      obtain ⟨_, k96, e⟩ := ob e
      obtain ⟨h96, q96, e⟩ := ob e
      refine g_callV0 [.int 8, .ref x93] o (mX12_waysOf q96) cf12 (ckO_s k96) mw_1176 mw_1177 mw_1726 mw_19 mw_1178 rfl yo_X12_waysOf rfl rfl (Nat.le_of_ble_eq_true rfl) ⟨by decide, by decide⟩ ⟨rfl, rfl⟩ dX12_restore_96 ⟨by decide, by decide⟩ ?_
      refine g_aload_n 0 o dX12_restore_99 rfl rfl ?_
      refine g_bipush (v := 72) o dX12_restore_100 (by decide) ?_
      refine g_aload_n 0 o dX12_restore_102 rfl rfl ?_
      obtain ⟨x103, q103, e⟩ := ob e
      refine g_getN 22 o cf12 (by decide) mw_1208 dX12_restore_103 q103 ?_
      obtain ⟨_, k106, e⟩ := ob e
      obtain ⟨h106, q106, e⟩ := ob e
      refine g_callV0 [.int 72, .ref x103] o (mX12_waysOf q106) cf12 (ckO_s k106) mw_1176 mw_1177 mw_1726 mw_19 mw_1178 rfl yo_X12_waysOf rfl rfl (Nat.le_of_ble_eq_true rfl) ⟨by decide, by decide⟩ ⟨rfl, rfl⟩ dX12_restore_106 ⟨by decide, by decide⟩ ?_
      refine g_aload_n 0 o dX12_restore_109 rfl rfl ?_
      refine g_iconst (v := 0) o dX12_restore_110 (by decide) ?_
      obtain ⟨h111, q111, e⟩ := ob e
      refine g_put (ty1 := .int) 29 o cf12 (by decide) mw_1215 rfl (by decide +kernel) rfl rfl dX12_restore_111 q111 ?_
      refine g_iconst (v := 1) o dX12_restore_114 (by decide) ?_
      exact g_zret o dX12_restore_115 (zr_s e).1 (rt_v q (zr_s e).2)
    · rw [if_neg u] at e
      refine g_aload_n 0 o dX12_restore_66 rfl rfl ?_
      obtain ⟨x67, q67, e⟩ := ob e
      refine g_getN 9 o cf12 (by decide) mw_1195 dX12_restore_67 q67 ?_
      refine g_iload_n 2 o dX12_restore_70 rfl rfl ?_
      refine g_aload_n 0 o dX12_restore_71 rfl rfl ?_
      obtain ⟨x72, q72, e⟩ := ob e
      refine g_getN 47 o cf12 (by decide) mw_1233 dX12_restore_72 q72 ?_
      refine g_bipush (v := 30) o dX12_restore_75 (by decide) ?_
      refine g_iload_n 1 o dX12_restore_77 rfl rfl ?_
      refine g_imul (x := (30 : Int32)) (y := v1) o dX12_restore_78 ?_
      refine g_iload_n 2 o dX12_restore_79 rfl rfl ?_
      refine g_iadd (x := ((30 : Int32) * v1)) (y := v2) o dX12_restore_80 ?_
      obtain ⟨x81, q81, e⟩ := ob e
      refine g_lald o dX12_restore_81 q81 ?_
      obtain ⟨h82, q82, e⟩ := ob e
      refine g_last o dX12_restore_82 q82 ?_
      refine g_iinc (k := 2) (v := (v2 + 1)) [(2, .int (v2 + 1)), (0, .ref v0), (1, .int v1)] o dX12_restore_83 rfl rfl (by decide) rfl ?_
      refine g_goto 60 o dX12_restore_86 (by decide) ?_
      refine g_sb [1, 2, 0] rfl ?_
      exact ih v0 v1 (v2 + 1) h82 r hz q e
set_option maxRecDepth 100000 in
set_option maxHeartbeats 4000000 in
theorem kX12_restore_27 {X : Cx} (f0 : Nat) (o : Ok X cX12_restore RX12 3 rmX12_restore (some .boolean)) (f : Nat) (v0 : Nat) (v1 : Int32) (v2 : Int32) (h : Hp) (r : Int32) (hz : Hp) (q : Rt X (some (.int r)) hz 0 0) (e : bX12_restore_27 f0 f v0 v1 v2 h = some (r, hz)) : G X 3 27 [(0, .ref v0), (1, .int v1), (2, .int v2)] [] h 0 0 := by
  induction f generalizing v0 v1 v2 h r hz with
  | zero => cases e
  | succ f1 ih =>
    unfold bX12_restore_27 at e
    refine g_iload_n 2 o dX12_restore_27 rfl rfl ?_
    refine g_sipush (v := 646) o dX12_restore_28 (by decide) ?_
    refine g_icmp_ge (x := v2) (y := 646) 58 o dX12_restore_31 (by decide) (fun u => ?_) (fun u => ?_)
    · rw [if_pos u] at e
      refine g_iconst (v := 0) o dX12_restore_58 (by decide) ?_
      refine g_istore_n [(2, .int 0), (0, .ref v0), (1, .int v1)] o dX12_restore_59 rfl (by decide) rfl ?_
      refine g_sb [1, 2, 0] rfl ?_
      exact kX12_restore_60 f0 o f0 v0 v1 0 h r hz q e
    · rw [if_neg u] at e
      refine g_aload_n 0 o dX12_restore_34 rfl rfl ?_
      obtain ⟨x35, q35, e⟩ := ob e
      refine g_getN 6 o cf12 (by decide) mw_1192 dX12_restore_35 q35 ?_
      refine g_iload_n 2 o dX12_restore_38 rfl rfl ?_
      refine g_aload_n 0 o dX12_restore_39 rfl rfl ?_
      obtain ⟨x40, q40, e⟩ := ob e
      refine g_getN 46 o cf12 (by decide) mw_1232 dX12_restore_40 q40 ?_
      refine g_sipush (v := 646) o dX12_restore_43 (by decide) ?_
      refine g_iload_n 1 o dX12_restore_46 rfl rfl ?_
      refine g_imul (x := (646 : Int32)) (y := v1) o dX12_restore_47 ?_
      refine g_iload_n 2 o dX12_restore_48 rfl rfl ?_
      refine g_iadd (x := ((646 : Int32) * v1)) (y := v2) o dX12_restore_49 ?_
      obtain ⟨x50, q50, e⟩ := ob e
      refine g_iald o dX12_restore_50 q50 ?_
      obtain ⟨h51, q51, e⟩ := ob e
      refine g_iast o dX12_restore_51 q51 ?_
      refine g_iinc (k := 2) (v := (v2 + 1)) [(2, .int (v2 + 1)), (0, .ref v0), (1, .int v1)] o dX12_restore_52 rfl rfl (by decide) rfl ?_
      refine g_goto 27 o dX12_restore_55 (by decide) ?_
      refine g_sb [1, 2, 0] rfl ?_
      exact ih v0 v1 (v2 + 1) h51 r hz q e
theorem yo_X12_restore : yok yX12_restore 1 := ⟨by decide, by decide, by decide +kernel⟩
set_option maxRecDepth 100000 in
set_option maxHeartbeats 4000000 in
theorem mX12_restore {l : Launch} {D : va_G} {cy : Nat → ClassId} {f0 : Nat} {a : Nat} {p0 : Int32} {h : Hp} {r : Int32} {hz : Hp} (e : fX12_restore f0 a p0 h = some (r, hz)) : MC l D cy yX12_restore cX12_restore 3 (some .boolean) rmX12_restore [.ref a, .int p0] h (some (.int r)) hz := by
  refine mc_of2 (by decide) (Nat.le_of_ble_eq_true rfl) (fun X hl hD hy hin o q => ?_)
  subst hl; subst hD; subst hy
  show G X 3 0 [(0, .ref a), (1, .int p0)] [] h 0 0
  unfold fX12_restore at e
  refine g_aload_n 0 o dX12_restore_0 rfl rfl ?_
  refine g_iconst (v := 0) o dX12_restore_1 (by decide) ?_
  obtain ⟨h2, q2, e⟩ := ob e
  refine g_put (ty1 := .int) 0 o cf12 (by decide) mw_1186 rfl (by decide +kernel) rfl rfl dX12_restore_2 q2 ?_
  refine g_iload_n 1 o dX12_restore_5 rfl rfl ?_
  refine g_iconst (v := 0) o dX12_restore_6 (by decide) ?_
  refine g_iconst (v := 1) o dX12_restore_7 (by decide) ?_
  obtain ⟨x8, h8, q8, e⟩ := ob2_s e
  refine g_callSv [.int p0, .int 0, .int 1] o (mX12_isIn q8) mw_1337 mw_1338 mw_19 mw_1339 yo_X12_isIn rfl rfl (Nat.le_of_ble_eq_true rfl) ⟨by decide, by decide⟩ ⟨rfl, rfl⟩ dX12_restore_8 ⟨by decide, by decide⟩ ?_
  refine g_if_eq (x := x8) 23 o dX12_restore_11 (by decide) (fun u => ?_) (fun u => ?_)
  · rw [if_pos u] at e
    refine g_iconst (v := 0) o dX12_restore_23 (by decide) ?_
    exact g_zret o dX12_restore_24 (zr_s e).1 (rt_v q (zr_s e).2)
  · rw [if_neg u] at e
    refine g_aload_n 0 o dX12_restore_14 rfl rfl ?_
    obtain ⟨x15, q15, e⟩ := ob e
    refine g_getN 48 o cf12 (by decide) mw_1234 dX12_restore_15 q15 ?_
    refine g_iload_n 1 o dX12_restore_18 rfl rfl ?_
    obtain ⟨x19, q19, e⟩ := ob e
    refine g_zald o dX12_restore_19 q19 ?_
    refine g_if_ne (x := x19) 25 o dX12_restore_20 (by decide) (fun u => ?_) (fun u => ?_)
    · rw [if_neg u] at e
      refine g_iconst (v := 0) o dX12_restore_25 (by decide) ?_
      refine g_istore_n [(2, .int 0), (0, .ref a), (1, .int p0)] o dX12_restore_26 rfl (by decide) rfl ?_
      refine g_sb [1, 2, 0] rfl ?_
      exact kX12_restore_27 f0 o f0 a p0 0 h8 r hz q e
    · rw [if_pos u] at e
      refine g_iconst (v := 0) o dX12_restore_23 (by decide) ?_
      exact g_zret o dX12_restore_24 (zr_s e).1 (rt_v q (zr_s e).2)
theorem yo_X12_count : yok yX12_count 1 := ⟨by decide, by decide, by decide +kernel⟩
set_option maxRecDepth 100000 in
set_option maxHeartbeats 4000000 in
theorem mX12_count {l : Launch} {D : va_G} {cy : Nat → ClassId} {f0 : Nat} {a : Nat} {p0 : Int32} {h : Hp} {r : Int32} {hz : Hp} (e : fX12_count f0 a p0 h = some (r, hz)) : MC l D cy yX12_count cX12_count 2 (some .int) rmX12_count [.ref a, .int p0] h (some (.int r)) hz := by
  refine mc_of2 (by decide) (Nat.le_of_ble_eq_true rfl) (fun X hl hD hy hin o q => ?_)
  subst hl; subst hD; subst hy
  show G X 2 0 [(0, .ref a), (1, .int p0)] [] h 0 0
  unfold fX12_count at e
  refine g_aload_n 0 o dX12_count_0 rfl rfl ?_
  refine g_iconst (v := 0) o dX12_count_1 (by decide) ?_
  obtain ⟨h2, q2, e⟩ := ob e
  refine g_put (ty1 := .int) 0 o cf12 (by decide) mw_1186 rfl (by decide +kernel) rfl rfl dX12_count_2 q2 ?_
  refine g_iload_n 1 o dX12_count_5 rfl rfl ?_
  by_cases u0 : p0 = 0
  · rw [if_pos u0] at e
    refine g_tabAt (x := p0) 0 52 o dX12_count_6 u0 (by decide) (by decide) (by decide) (by decide) ?_
    refine g_aload_n 0 o dX12_count_52 rfl rfl ?_
    obtain ⟨x53, q53, e⟩ := ob e
    refine g_getN 6 o cf12 (by decide) mw_1192 dX12_count_53 q53 ?_
    refine g_iconst (v := 0) o dX12_count_56 (by decide) ?_
    obtain ⟨x57, q57, e⟩ := ob e
    refine g_iald o dX12_count_57 q57 ?_
    exact g_iret o dX12_count_58 (rt_v q e)
  rw [if_neg u0] at e
  by_cases u1 : p0 = 1
  · rw [if_pos u1] at e
    refine g_tabAt (x := p0) 1 59 o dX12_count_6 u1 (by decide) (by decide) (by decide) (by decide) ?_
    refine g_aload_n 0 o dX12_count_59 rfl rfl ?_
    obtain ⟨x60, q60, e⟩ := ob e
    refine g_getN 6 o cf12 (by decide) mw_1192 dX12_count_60 q60 ?_
    refine g_iconst (v := 4) o dX12_count_63 (by decide) ?_
    obtain ⟨x64, q64, e⟩ := ob e
    refine g_iald o dX12_count_64 q64 ?_
    exact g_iret o dX12_count_65 (rt_v q e)
  rw [if_neg u1] at e
  by_cases u2 : p0 = 2
  · rw [if_pos u2] at e
    refine g_tabAt (x := p0) 2 66 o dX12_count_6 u2 (by decide) (by decide) (by decide) (by decide) ?_
    refine g_aload_n 0 o dX12_count_66 rfl rfl ?_
    obtain ⟨x67, q67, e⟩ := ob e
    refine g_getN 6 o cf12 (by decide) mw_1192 dX12_count_67 q67 ?_
    refine g_iconst (v := 5) o dX12_count_70 (by decide) ?_
    obtain ⟨x71, q71, e⟩ := ob e
    refine g_iald o dX12_count_71 q71 ?_
    exact g_iret o dX12_count_72 (rt_v q e)
  rw [if_neg u2] at e
  by_cases u3 : p0 = 3
  · rw [if_pos u3] at e
    refine g_tabAt (x := p0) 3 73 o dX12_count_6 u3 (by decide) (by decide) (by decide) (by decide) ?_
    refine g_aload_n 0 o dX12_count_73 rfl rfl ?_
    obtain ⟨x74, q74, e⟩ := ob e
    refine g_getN 6 o cf12 (by decide) mw_1192 dX12_count_74 q74 ?_
    refine g_iconst (v := 1) o dX12_count_77 (by decide) ?_
    obtain ⟨x78, q78, e⟩ := ob e
    refine g_iald o dX12_count_78 q78 ?_
    exact g_iret o dX12_count_79 (rt_v q e)
  rw [if_neg u3] at e
  by_cases u4 : p0 = 4
  · rw [if_pos u4] at e
    refine g_tabAt (x := p0) 4 80 o dX12_count_6 u4 (by decide) (by decide) (by decide) (by decide) ?_
    refine g_aload_n 0 o dX12_count_80 rfl rfl ?_
    obtain ⟨x81, q81, e⟩ := ob e
    refine g_getN 6 o cf12 (by decide) mw_1192 dX12_count_81 q81 ?_
    refine g_iconst (v := 2) o dX12_count_84 (by decide) ?_
    obtain ⟨x85, q85, e⟩ := ob e
    refine g_iald o dX12_count_85 q85 ?_
    exact g_iret o dX12_count_86 (rt_v q e)
  rw [if_neg u4] at e
  by_cases u5 : p0 = 5
  · rw [if_pos u5] at e
    refine g_tabAt (x := p0) 5 87 o dX12_count_6 u5 (by decide) (by decide) (by decide) (by decide) ?_
    refine g_aload_n 0 o dX12_count_87 rfl rfl ?_
    obtain ⟨x88, q88, e⟩ := ob e
    refine g_getN 6 o cf12 (by decide) mw_1192 dX12_count_88 q88 ?_
    refine g_iconst (v := 3) o dX12_count_91 (by decide) ?_
    obtain ⟨x92, q92, e⟩ := ob e
    refine g_iald o dX12_count_92 q92 ?_
    exact g_iret o dX12_count_93 (rt_v q e)
  rw [if_neg u5] at e
  by_cases u6 : p0 = 6
  · rw [if_pos u6] at e
    refine g_tabAt (x := p0) 6 94 o dX12_count_6 u6 (by decide) (by decide) (by decide) (by decide) ?_
    refine g_aload_n 0 o dX12_count_94 rfl rfl ?_
    obtain ⟨x95, q95, e⟩ := ob e
    refine g_getN 6 o cf12 (by decide) mw_1192 dX12_count_95 q95 ?_
    refine g_bipush (v := 6) o dX12_count_98 (by decide) ?_
    obtain ⟨x100, q100, e⟩ := ob e
    refine g_iald o dX12_count_100 q100 ?_
    exact g_iret o dX12_count_101 (rt_v q e)
  rw [if_neg u6] at e
  by_cases u7 : p0 = 7
  · rw [if_pos u7] at e
    refine g_tabAt (x := p0) 7 102 o dX12_count_6 u7 (by decide) (by decide) (by decide) (by decide) ?_
    refine g_aload_n 0 o dX12_count_102 rfl rfl ?_
    obtain ⟨x103, q103, e⟩ := ob e
    refine g_getI 2 o cf12 (by decide) mw_1188 dX12_count_103 q103 ?_
    exact g_iret o dX12_count_106 (rt_v q e)
  rw [if_neg u7] at e
  refine g_tabOut (x := p0) 107 o dX12_count_6 (by have n0 := tb_ne 0 0 (by decide) u0; have n1 := tb_ne 1 1 (by decide) u1; have n2 := tb_ne 2 2 (by decide) u2; have n3 := tb_ne 3 3 (by decide) u3; have n4 := tb_ne 4 4 (by decide) u4; have n5 := tb_ne 5 5 (by decide) u5; have n6 := tb_ne 6 6 (by decide) u6; have n7 := tb_ne 7 7 (by decide) u7; omega) (by decide) ?_
  refine g_iconst (v := -1) o dX12_count_107 (by decide) ?_
  exact g_iret o dX12_count_108 (rt_v q e)
