theorem yo_X12_logged : yok yX12_logged 1 := ⟨by decide, by decide, by decide +kernel⟩
set_option maxRecDepth 100000 in
set_option maxHeartbeats 4000000 in
theorem mX12_logged {l : Launch} {D : va_G} {cy : Nat → ClassId} {f0 : Nat} {a : Nat} {p0 : Int32} {h : Hp} {r : Int32} {hz : Hp} (e : fX12_logged f0 a p0 h = some (r, hz)) : MC l D cy yX12_logged cX12_logged 2 (some .int) rmX12_logged [.ref a, .int p0] h (some (.int r)) hz := by
  refine mc_of2 (by decide) (Nat.le_of_ble_eq_true rfl) (fun X hl hD hy hin o q => ?_)
  subst hl; subst hD; subst hy
  show G X 2 0 [(0, .ref a), (1, .int p0)] [] h 0 0
  unfold fX12_logged at e
  refine g_aload_n 0 o dX12_logged_0 rfl rfl ?_
  refine g_iconst (v := 0) o dX12_logged_1 (by decide) ?_
  obtain ⟨h2, q2, e⟩ := ob e
  refine g_put (ty1 := .int) 0 o cf12 (by decide) mw_1186 rfl (by decide +kernel) rfl rfl dX12_logged_2 q2 ?_
  refine g_aload_n 0 o dX12_logged_5 rfl rfl ?_
  obtain ⟨x6, q6, e⟩ := ob e
  refine g_getI 38 o cf12 (by decide) mw_1224 dX12_logged_6 q6 ?_
  refine g_if_eq (x := x6) 30 o dX12_logged_9 (by decide) (fun u => ?_) (fun u => ?_)
  · rw [if_pos u] at e
    refine g_iconst (v := -1) o dX12_logged_30 (by decide) ?_
    exact g_iret o dX12_logged_31 (rt_v q e)
  · rw [if_neg u] at e
    refine g_iload_n 1 o dX12_logged_12 rfl rfl ?_
    refine g_iconst (v := 0) o dX12_logged_13 (by decide) ?_
    refine g_iconst (v := 3) o dX12_logged_14 (by decide) ?_
    obtain ⟨x15, h15, q15, e⟩ := ob2_s e
    refine g_callSv [.int p0, .int 0, .int 3] o (mX12_isIn q15) mw_1337 mw_1338 mw_19 mw_1339 yo_X12_isIn rfl rfl (Nat.le_of_ble_eq_true rfl) ⟨by decide, by decide⟩ ⟨rfl, rfl⟩ dX12_logged_15 ⟨by decide, by decide⟩ ?_
    refine g_if_eq (x := x15) 30 o dX12_logged_18 (by decide) (fun u => ?_) (fun u => ?_)
    · rw [if_pos u] at e
      refine g_iconst (v := -1) o dX12_logged_30 (by decide) ?_
      exact g_iret o dX12_logged_31 (rt_v q e)
    · rw [if_neg u] at e
      refine g_aload_n 0 o dX12_logged_21 rfl rfl ?_
      obtain ⟨x22, q22, e⟩ := ob e
      refine g_getN 37 o cf12 (by decide) mw_1223 dX12_logged_22 q22 ?_
      refine g_iload_n 1 o dX12_logged_25 rfl rfl ?_
      obtain ⟨x26, q26, e⟩ := ob e
      refine g_iald o dX12_logged_26 q26 ?_
      refine g_goto 31 o dX12_logged_27 (by decide) ?_
      exact g_iret o dX12_logged_31 (rt_v q e)
theorem yo_X12_code : yok yX12_code 3 := ⟨by decide, by decide, by decide +kernel⟩
set_option maxRecDepth 100000 in
set_option maxHeartbeats 4000000 in
theorem mX12_code {l : Launch} {D : va_G} {cy : Nat → ClassId} {f0 : Nat} {a : Nat} {p0 : Int32} {p1 : Int32} {p2 : Int32} {h : Hp} {hz : Hp} (e : fX12_code f0 a p0 p1 p2 h = some hz) : MC l D cy yX12_code cX12_code 4 none rmX12_code [.ref a, .int p0, .int p1, .int p2] h none hz := by
  refine mc_of2 (by decide) (Nat.le_of_ble_eq_true rfl) (fun X hl hD hy hin o q => ?_)
  subst hl; subst hD; subst hy
  show G X 4 0 [(0, .ref a), (1, .int p0), (2, .int p1), (3, .int p2)] [] h 0 0
  unfold fX12_code at e
  refine g_aload_n 0 o dX12_code_0 rfl rfl ?_
  obtain ⟨x1, q1, e⟩ := ob e
  refine g_getN 8 o cf12 (by decide) mw_1194 dX12_code_1 q1 ?_
  refine g_iconst (v := 3) o dX12_code_4 (by decide) ?_
  refine g_aload_n 0 o dX12_code_5 rfl rfl ?_
  obtain ⟨x6, q6, e⟩ := ob e
  refine g_getI 40 o cf12 (by decide) mw_1226 dX12_code_6 q6 ?_
  refine g_imul (x := (3 : Int32)) (y := x6) o dX12_code_9 ?_
  refine g_iload_n 1 o dX12_code_10 rfl rfl ?_
  obtain ⟨h11, q11, e⟩ := ob e
  refine g_iast o dX12_code_11 q11 ?_
  refine g_aload_n 0 o dX12_code_12 rfl rfl ?_
  obtain ⟨x13, q13, e⟩ := ob e
  refine g_getN 8 o cf12 (by decide) mw_1194 dX12_code_13 q13 ?_
  refine g_iconst (v := 3) o dX12_code_16 (by decide) ?_
  refine g_aload_n 0 o dX12_code_17 rfl rfl ?_
  obtain ⟨x18, q18, e⟩ := ob e
  refine g_getI 40 o cf12 (by decide) mw_1226 dX12_code_18 q18 ?_
  refine g_imul (x := (3 : Int32)) (y := x18) o dX12_code_21 ?_
  refine g_iconst (v := 1) o dX12_code_22 (by decide) ?_
  refine g_iadd (x := ((3 : Int32) * x18)) (y := 1) o dX12_code_23 ?_
  refine g_iload_n 2 o dX12_code_24 rfl rfl ?_
  obtain ⟨h25, q25, e⟩ := ob e
  refine g_iast o dX12_code_25 q25 ?_
  refine g_aload_n 0 o dX12_code_26 rfl rfl ?_
  obtain ⟨x27, q27, e⟩ := ob e
  refine g_getN 8 o cf12 (by decide) mw_1194 dX12_code_27 q27 ?_
  refine g_iconst (v := 3) o dX12_code_30 (by decide) ?_
  refine g_aload_n 0 o dX12_code_31 rfl rfl ?_
  obtain ⟨x32, q32, e⟩ := ob e
  refine g_getI 40 o cf12 (by decide) mw_1226 dX12_code_32 q32 ?_
  refine g_imul (x := (3 : Int32)) (y := x32) o dX12_code_35 ?_
  refine g_iconst (v := 2) o dX12_code_36 (by decide) ?_
  refine g_iadd (x := ((3 : Int32) * x32)) (y := 2) o dX12_code_37 ?_
  refine g_iload_n 3 o dX12_code_38 rfl rfl ?_
  obtain ⟨h39, q39, e⟩ := ob e
  refine g_iast o dX12_code_39 q39 ?_
  refine g_aload_n 0 o dX12_code_40 rfl rfl ?_
  refine g_dup o dX12_code_41 rfl ?_
  obtain ⟨x42, q42, e⟩ := ob e
  refine g_getI 40 o cf12 (by decide) mw_1226 dX12_code_42 q42 ?_
  refine g_iconst (v := 1) o dX12_code_45 (by decide) ?_
  refine g_iadd (x := x42) (y := 1) o dX12_code_46 ?_
  obtain ⟨h47, q47, e⟩ := ob e
  refine g_put (ty1 := .int) 40 o cf12 (by decide) mw_1226 rfl (by decide +kernel) rfl rfl dX12_code_47 q47 ?_
  exact g_vret o dX12_code_50 (rt_0 q e)
set_option maxRecDepth 100000 in
set_option maxHeartbeats 4000000 in
theorem kX12_nots_0 {X : Cx} (f0 : Nat) (o : Ok X cX12_nots RX12 1 rmX12_nots none) (f : Nat) (v0 : Nat) (h : Hp) (hz : Hp) (q : Rt X none hz 0 0) (e : bX12_nots_0 f0 f v0 h = some hz) : G X 1 0 [(0, .ref v0)] [] h 0 0 := by
  induction f generalizing v0 h hz with
  | zero => cases e
  | succ f1 ih =>
    unfold bX12_nots_0 at e
    refine g_aload_n 0 o dX12_nots_0 rfl rfl ?_
    obtain ⟨x1, q1, e⟩ := ob e
    refine g_getI 42 o cf12 (by decide) mw_1228 dX12_nots_1 q1 ?_
    refine g_if_le (x := x1) 54 o dX12_nots_4 (by decide) (fun u => ?_) (fun u => ?_)
    · rw [if_pos u] at e
      exact g_vret o dX12_nots_54 (rt_0 q e)
    · rw [if_neg u] at e
      refine g_aload_n 0 o dX12_nots_7 rfl rfl ?_
      obtain ⟨x8, q8, e⟩ := ob e
      refine g_getN 39 o cf12 (by decide) mw_1225 dX12_nots_8 q8 ?_
      refine g_aload_n 0 o dX12_nots_11 rfl rfl ?_
      obtain ⟨x12, q12, e⟩ := ob e
      refine g_getI 42 o cf12 (by decide) mw_1228 dX12_nots_12 q12 ?_
      refine g_iconst (v := 1) o dX12_nots_15 (by decide) ?_
      refine g_isub (x := x12) (y := 1) o dX12_nots_16 ?_
      obtain ⟨x17, q17, e⟩ := ob e
      refine g_iald o dX12_nots_17 q17 ?_
      refine g_bipush (v := 20) o dX12_nots_18 (by decide) ?_
      refine g_icmp_ne (x := x17) (y := 20) 54 o dX12_nots_20 (by decide) (fun u => ?_) (fun u => ?_)
      · rw [if_neg u] at e
        exact g_vret o dX12_nots_54 (rt_0 q e)
      · rw [if_pos u] at e
        refine g_aload_n 0 o dX12_nots_23 rfl rfl ?_
        refine g_dup o dX12_nots_24 rfl ?_
        obtain ⟨x25, q25, e⟩ := ob e
        refine g_getI 42 o cf12 (by decide) mw_1228 dX12_nots_25 q25 ?_
        refine g_iconst (v := 1) o dX12_nots_28 (by decide) ?_
        refine g_isub (x := x25) (y := 1) o dX12_nots_29 ?_
        obtain ⟨h30, q30, e⟩ := ob e
        refine g_put (ty1 := .int) 42 o cf12 (by decide) mw_1228 rfl (by decide +kernel) rfl rfl dX12_nots_30 q30 ?_
        refine g_aload_n 0 o dX12_nots_33 rfl rfl ?_
        refine g_dup o dX12_nots_34 rfl ?_
        obtain ⟨x35, q35, e⟩ := ob e
        refine g_getI 43 o cf12 (by decide) mw_1229 dX12_nots_35 q35 ?_
        refine g_iconst (v := 1) o dX12_nots_38 (by decide) ?_
        refine g_isub (x := x35) (y := 1) o dX12_nots_39 ?_
        obtain ⟨h40, q40, e⟩ := ob e
        refine g_put (ty1 := .int) 43 o cf12 (by decide) mw_1229 rfl (by decide +kernel) rfl rfl dX12_nots_40 q40 ?_
        refine g_aload_n 0 o dX12_nots_43 rfl rfl ?_
        refine g_bipush (v := 20) o dX12_nots_44 (by decide) ?_
        refine g_iconst (v := 0) o dX12_nots_46 (by decide) ?_
        refine g_iconst (v := 0) o dX12_nots_47 (by decide) ?_
        obtain ⟨_, k48, e⟩ := ob e
        obtain ⟨h48, q48, e⟩ := ob e
        refine g_callV0 [.int 20, .int 0, .int 0] o (mX12_code q48) cf12 (ckO_s k48) mw_1638 mw_1639 mw_1787 mw_19 mw_1640 rfl yo_X12_code rfl rfl (Nat.le_of_ble_eq_true rfl) ⟨by decide, by decide⟩ ⟨rfl, rfl⟩ dX12_nots_48 ⟨by decide, by decide⟩ ?_
        refine g_goto 0 o dX12_nots_51 (by decide) ?_
        exact ih v0 h48 hz q e
theorem yo_X12_nots : yok yX12_nots 0 := ⟨by decide, by decide, by decide +kernel⟩
set_option maxRecDepth 100000 in
set_option maxHeartbeats 4000000 in
theorem mX12_nots {l : Launch} {D : va_G} {cy : Nat → ClassId} {f0 : Nat} {a : Nat} {h : Hp} {hz : Hp} (e : fX12_nots f0 a h = some hz) : MC l D cy yX12_nots cX12_nots 1 none rmX12_nots [.ref a] h none hz := by
  refine mc_of2 (by decide) (Nat.le_of_ble_eq_true rfl) (fun X hl hD hy hin o q => ?_)
  subst hl; subst hD; subst hy
  show G X 1 0 [(0, .ref a)] [] h 0 0
  unfold fX12_nots at e
  exact kX12_nots_0 f0 o f0 a h hz q e
set_option maxRecDepth 100000 in
set_option maxHeartbeats 4000000 in
theorem kX12_joins_45 {X : Cx} (f0 : Nat) (g0 : Nat → Int32 → Hp → Option (Hp)) (i0 : ∀ (v02 : Nat) (v12 : Int32) (h2 : Hp) (hz : Hp), Rt X none hz 0 0 → g0 v02 v12 h2 = some hz → G X 2 0 [(0, .ref v02), (1, .int v12)] [] h2 0 0) (o : Ok X cX12_joins RX12 2 rmX12_joins none) (v0 : Nat) (v1 : Int32) (h : Hp) (hz : Hp) (q : Rt X none hz 0 0) (e : bX12_joins_45 f0 g0 v0 v1 h = some hz) : G X 2 45 [(0, .ref v0), (1, .int v1)] [] h 0 0 := by
  unfold bX12_joins_45 at e
  refine g_aload_n 0 o dX12_joins_45 rfl rfl ?_
  refine g_dup o dX12_joins_46 rfl ?_
  obtain ⟨x47, q47, e⟩ := ob e
  refine g_getI 42 o cf12 (by decide) mw_1228 dX12_joins_47 q47 ?_
  refine g_iconst (v := 1) o dX12_joins_50 (by decide) ?_
  refine g_isub (x := x47) (y := 1) o dX12_joins_51 ?_
  obtain ⟨h52, q52, e⟩ := ob e
  refine g_put (ty1 := .int) 42 o cf12 (by decide) mw_1228 rfl (by decide +kernel) rfl rfl dX12_joins_52 q52 ?_
  refine g_aload_n 0 o dX12_joins_55 rfl rfl ?_
  refine g_aload_n 0 o dX12_joins_56 rfl rfl ?_
  obtain ⟨x57, q57, e⟩ := ob e
  refine g_getN 39 o cf12 (by decide) mw_1225 dX12_joins_57 q57 ?_
  refine g_aload_n 0 o dX12_joins_60 rfl rfl ?_
  obtain ⟨x61, q61, e⟩ := ob e
  refine g_getI 42 o cf12 (by decide) mw_1228 dX12_joins_61 q61 ?_
  obtain ⟨x64, q64, e⟩ := ob e
  refine g_iald o dX12_joins_64 q64 ?_
  refine g_iconst (v := 0) o dX12_joins_65 (by decide) ?_
  refine g_iconst (v := 0) o dX12_joins_66 (by decide) ?_
  obtain ⟨_, k67, e⟩ := ob e
  obtain ⟨h67, q67, e⟩ := ob e
  refine g_callV0 [.int x64, .int 0, .int 0] o (mX12_code q67) cf12 (ckO_s k67) mw_1638 mw_1639 mw_1787 mw_19 mw_1640 rfl yo_X12_code rfl rfl (Nat.le_of_ble_eq_true rfl) ⟨by decide, by decide⟩ ⟨rfl, rfl⟩ dX12_joins_67 ⟨by decide, by decide⟩ ?_
  refine g_goto 0 o dX12_joins_70 (by decide) ?_
  exact i0 v0 v1 h67 hz q e
set_option maxRecDepth 100000 in
set_option maxHeartbeats 4000000 in
theorem kX12_joins_0 {X : Cx} (f0 : Nat) (o : Ok X cX12_joins RX12 2 rmX12_joins none) (f : Nat) (v0 : Nat) (v1 : Int32) (h : Hp) (hz : Hp) (q : Rt X none hz 0 0) (e : bX12_joins_0 f0 f v0 v1 h = some hz) : G X 2 0 [(0, .ref v0), (1, .int v1)] [] h 0 0 := by
  induction f generalizing v0 v1 h hz with
  | zero => cases e
  | succ f1 ih =>
    unfold bX12_joins_0 at e
    refine g_aload_n 0 o dX12_joins_0 rfl rfl ?_
    obtain ⟨x1, q1, e⟩ := ob e
    refine g_getI 42 o cf12 (by decide) mw_1228 dX12_joins_1 q1 ?_
    refine g_if_le (x := x1) 73 o dX12_joins_4 (by decide) (fun u => ?_) (fun u => ?_)
    · rw [if_pos u] at e
      exact g_vret o dX12_joins_73 (rt_0 q e)
    · rw [if_neg u] at e
      refine g_aload_n 0 o dX12_joins_7 rfl rfl ?_
      obtain ⟨x8, q8, e⟩ := ob e
      refine g_getN 39 o cf12 (by decide) mw_1225 dX12_joins_8 q8 ?_
      refine g_aload_n 0 o dX12_joins_11 rfl rfl ?_
      obtain ⟨x12, q12, e⟩ := ob e
      refine g_getI 42 o cf12 (by decide) mw_1228 dX12_joins_12 q12 ?_
      refine g_iconst (v := 1) o dX12_joins_15 (by decide) ?_
      refine g_isub (x := x12) (y := 1) o dX12_joins_16 ?_
      obtain ⟨x17, q17, e⟩ := ob e
      refine g_iald o dX12_joins_17 q17 ?_
      refine g_bipush (v := 21) o dX12_joins_18 (by decide) ?_
      refine g_icmp_eq (x := x17) (y := 21) 45 o dX12_joins_20 (by decide) (fun u => ?_) (fun u => ?_)
      · rw [if_pos u] at e
        exact kX12_joins_45 f0 (bX12_joins_0 f0 f1) ih o v0 v1 h hz q e
      · rw [if_neg u] at e
        refine g_aload_n 0 o dX12_joins_23 rfl rfl ?_
        obtain ⟨x24, q24, e⟩ := ob e
        refine g_getN 39 o cf12 (by decide) mw_1225 dX12_joins_24 q24 ?_
        refine g_aload_n 0 o dX12_joins_27 rfl rfl ?_
        obtain ⟨x28, q28, e⟩ := ob e
        refine g_getI 42 o cf12 (by decide) mw_1228 dX12_joins_28 q28 ?_
        refine g_iconst (v := 1) o dX12_joins_31 (by decide) ?_
        refine g_isub (x := x28) (y := 1) o dX12_joins_32 ?_
        obtain ⟨x33, q33, e⟩ := ob e
        refine g_iald o dX12_joins_33 q33 ?_
        refine g_bipush (v := 22) o dX12_joins_34 (by decide) ?_
        refine g_icmp_ne (x := x33) (y := 22) 73 o dX12_joins_36 (by decide) (fun u => ?_) (fun u => ?_)
        · rw [if_neg u] at e
          exact g_vret o dX12_joins_73 (rt_0 q e)
        · rw [if_pos u] at e
          refine g_iload_n 1 o dX12_joins_39 rfl rfl ?_
          refine g_bipush (v := 22) o dX12_joins_40 (by decide) ?_
          refine g_icmp_ne (x := v1) (y := 22) 73 o dX12_joins_42 (by decide) (fun u => ?_) (fun u => ?_)
          · rw [if_neg u] at e
            exact g_vret o dX12_joins_73 (rt_0 q e)
          · rw [if_pos u] at e
            exact kX12_joins_45 f0 (bX12_joins_0 f0 f1) ih o v0 v1 h hz q e
theorem yo_X12_joins : yok yX12_joins 1 := ⟨by decide, by decide, by decide +kernel⟩
set_option maxRecDepth 100000 in
set_option maxHeartbeats 4000000 in
theorem mX12_joins {l : Launch} {D : va_G} {cy : Nat → ClassId} {f0 : Nat} {a : Nat} {p0 : Int32} {h : Hp} {hz : Hp} (e : fX12_joins f0 a p0 h = some hz) : MC l D cy yX12_joins cX12_joins 2 none rmX12_joins [.ref a, .int p0] h none hz := by
  refine mc_of2 (by decide) (Nat.le_of_ble_eq_true rfl) (fun X hl hD hy hin o q => ?_)
  subst hl; subst hD; subst hy
  show G X 2 0 [(0, .ref a), (1, .int p0)] [] h 0 0
  unfold fX12_joins at e
  exact kX12_joins_0 f0 o f0 a p0 h hz q e
set_option maxRecDepth 100000 in
set_option maxHeartbeats 4000000 in
theorem kX12_behind_70 {X : Cx} (f0 : Nat) (o : Ok X cX12_behind RX12 1 rmX12_behind (some .boolean)) (v0 : Nat) (s0 : Nat) (s1 : Int32) (s2 : Int32) (h : Hp) (r : Int32) (hz : Hp) (q : Rt X (some (.int r)) hz 0 0) (e : bX12_behind_70 f0 v0 s0 s1 s2 h = some (r, hz)) : G X 1 70 [(0, .ref v0)] [.int s2, .int s1, .ref s0] h 0 0 := by
  unfold bX12_behind_70 at e
  obtain ⟨h70, q70, e⟩ := ob e
  refine g_iast o dX12_behind_70 q70 ?_
  refine g_aload_n 0 o dX12_behind_71 rfl rfl ?_
  refine g_dup o dX12_behind_72 rfl ?_
  obtain ⟨x73, q73, e⟩ := ob e
  refine g_getI 42 o cf12 (by decide) mw_1228 dX12_behind_73 q73 ?_
  refine g_iconst (v := 1) o dX12_behind_76 (by decide) ?_
  refine g_iadd (x := x73) (y := 1) o dX12_behind_77 ?_
  obtain ⟨h78, q78, e⟩ := ob e
  refine g_put (ty1 := .int) 42 o cf12 (by decide) mw_1228 rfl (by decide +kernel) rfl rfl dX12_behind_78 q78 ?_
  refine g_aload_n 0 o dX12_behind_81 rfl rfl ?_
  refine g_iconst (v := 0) o dX12_behind_82 (by decide) ?_
  obtain ⟨h83, q83, e⟩ := ob e
  refine g_put (ty1 := .boolean) 44 o cf12 (by decide) mw_1230 rfl (by decide +kernel) (nar_z (pfZ_s q83).1).1 (nar_z (pfZ_s q83).1).2 dX12_behind_83 (pfZ_s q83).2 ?_
  refine g_aload_n 0 o dX12_behind_86 rfl rfl ?_
  obtain ⟨_, k87, e⟩ := ob e
  obtain ⟨h87, q87, e⟩ := ob e
  refine g_callV0 [] o (mX12_next q87) cf12 (ckO_s k87) mw_1292 mw_1293 mw_1728 mw_19 mw_1294 rfl yo_X12_next rfl rfl (Nat.le_of_ble_eq_true rfl) ⟨by decide, by decide⟩ ⟨rfl, rfl⟩ dX12_behind_87 ⟨by decide, by decide⟩ ?_
  refine g_iconst (v := 1) o dX12_behind_90 (by decide) ?_
  exact g_zret o dX12_behind_91 (zr_s e).1 (rt_v q (zr_s e).2)
set_option maxRecDepth 100000 in
set_option maxHeartbeats 4000000 in
theorem kX12_behind_42 {X : Cx} (f0 : Nat) (o : Ok X cX12_behind RX12 1 rmX12_behind (some .boolean)) (v0 : Nat) (s0 : Nat) (s1 : Int32) (h : Hp) (r : Int32) (hz : Hp) (q : Rt X (some (.int r)) hz 0 0) (e : bX12_behind_42 f0 v0 s0 s1 h = some (r, hz)) : G X 1 42 [(0, .ref v0)] [.int s1, .ref s0] h 0 0 := by
  unfold bX12_behind_42 at e
  obtain ⟨_, k42, e⟩ := ob e
  obtain ⟨h42, q42, e⟩ := ob e
  refine g_callV0 [.int s1] o (mX12_joins q42) cf12 (ckO_s k42) mw_1641 mw_1642 mw_1788 mw_19 mw_1643 rfl yo_X12_joins rfl rfl (Nat.le_of_ble_eq_true rfl) ⟨by decide, by decide⟩ ⟨rfl, rfl⟩ dX12_behind_42 ⟨by decide, by decide⟩ ?_
  refine g_aload_n 0 o dX12_behind_45 rfl rfl ?_
  obtain ⟨x46, q46, e⟩ := ob e
  refine g_getN 39 o cf12 (by decide) mw_1225 dX12_behind_46 q46 ?_
  refine g_aload_n 0 o dX12_behind_49 rfl rfl ?_
  obtain ⟨x50, q50, e⟩ := ob e
  refine g_getI 42 o cf12 (by decide) mw_1228 dX12_behind_50 q50 ?_
  refine g_aload_n 0 o dX12_behind_53 rfl rfl ?_
  refine g_ldc2_w (v := 6385252) o dX12_behind_54 mw_1160 ?_
  obtain ⟨_, k57, e⟩ := ob e
  obtain ⟨x57, h57, q57, e⟩ := ob2_s e
  refine g_callVv [.long 6385252] o (mX12_isWord q57) cf12 (ckO_s k57) mw_1307 mw_1308 mw_1731 mw_19 mw_1309 rfl yo_X12_isWord rfl rfl (Nat.le_of_ble_eq_true rfl) ⟨by decide, by decide⟩ ⟨rfl, rfl⟩ dX12_behind_57 ⟨by decide, by decide⟩ ?_
  refine g_if_eq (x := x57) 68 o dX12_behind_60 (by decide) (fun u => ?_) (fun u => ?_)
  · rw [if_pos u] at e
    refine g_bipush (v := 22) o dX12_behind_68 (by decide) ?_
    exact kX12_behind_70 f0 o v0 x46 x50 22 h57 r hz q e
  · rw [if_neg u] at e
    refine g_bipush (v := 21) o dX12_behind_63 (by decide) ?_
    refine g_goto 70 o dX12_behind_65 (by decide) ?_
    exact kX12_behind_70 f0 o v0 x46 x50 21 h57 r hz q e
set_option maxRecDepth 100000 in
set_option maxHeartbeats 4000000 in
theorem kX12_behind_24 {X : Cx} (f0 : Nat) (o : Ok X cX12_behind RX12 1 rmX12_behind (some .boolean)) (v0 : Nat) (h : Hp) (r : Int32) (hz : Hp) (q : Rt X (some (.int r)) hz 0 0) (e : bX12_behind_24 f0 v0 h = some (r, hz)) : G X 1 24 [(0, .ref v0)] [] h 0 0 := by
  unfold bX12_behind_24 at e
  refine g_aload_n 0 o dX12_behind_24 rfl rfl ?_
  refine g_aload_n 0 o dX12_behind_25 rfl rfl ?_
  refine g_ldc2_w (v := 6385252) o dX12_behind_26 mw_1160 ?_
  obtain ⟨_, k29, e⟩ := ob e
  obtain ⟨x29, h29, q29, e⟩ := ob2_s e
  refine g_callVv [.long 6385252] o (mX12_isWord q29) cf12 (ckO_s k29) mw_1307 mw_1308 mw_1731 mw_19 mw_1309 rfl yo_X12_isWord rfl rfl (Nat.le_of_ble_eq_true rfl) ⟨by decide, by decide⟩ ⟨rfl, rfl⟩ dX12_behind_29 ⟨by decide, by decide⟩ ?_
  refine g_if_eq (x := x29) 40 o dX12_behind_32 (by decide) (fun u => ?_) (fun u => ?_)
  · rw [if_pos u] at e
    refine g_bipush (v := 22) o dX12_behind_40 (by decide) ?_
    exact kX12_behind_42 f0 o v0 v0 22 h29 r hz q e
  · rw [if_neg u] at e
    refine g_bipush (v := 21) o dX12_behind_35 (by decide) ?_
    refine g_goto 42 o dX12_behind_37 (by decide) ?_
    exact kX12_behind_42 f0 o v0 v0 21 h29 r hz q e
set_option maxRecDepth 100000 in
set_option maxHeartbeats 4000000 in
theorem kX12_behind_114 {X : Cx} (f0 : Nat) (o : Ok X cX12_behind RX12 1 rmX12_behind (some .boolean)) (v0 : Nat) (h : Hp) (r : Int32) (hz : Hp) (q : Rt X (some (.int r)) hz 0 0) (e : bX12_behind_114 f0 v0 h = some (r, hz)) : G X 1 114 [(0, .ref v0)] [] h 0 0 := by
  unfold bX12_behind_114 at e
  refine g_aload_n 0 o dX12_behind_114 rfl rfl ?_
  refine g_iconst (v := 1) o dX12_behind_115 (by decide) ?_
  obtain ⟨_, k116, e⟩ := ob e
  obtain ⟨x116, h116, q116, e⟩ := ob2_s e
  refine g_callVv [.int 1] o (mX12_bad q116) cf12 (ckO_s k116) mw_1313 mw_1314 mw_1733 mw_19 mw_1315 rfl yo_X12_bad rfl rfl (Nat.le_of_ble_eq_true rfl) ⟨by decide, by decide⟩ ⟨rfl, rfl⟩ dX12_behind_116 ⟨by decide, by decide⟩ ?_
  exact g_zret o dX12_behind_119 (zr_s e).1 (rt_v q (zr_s e).2)
theorem yo_X12_behind : yok yX12_behind 0 := ⟨by decide, by decide, by decide +kernel⟩
set_option maxRecDepth 100000 in
set_option maxHeartbeats 4000000 in
theorem mX12_behind {l : Launch} {D : va_G} {cy : Nat → ClassId} {f0 : Nat} {a : Nat} {h : Hp} {r : Int32} {hz : Hp} (e : fX12_behind f0 a h = some (r, hz)) : MC l D cy yX12_behind cX12_behind 1 (some .boolean) rmX12_behind [.ref a] h (some (.int r)) hz := by
  refine mc_of2 (by decide) (Nat.le_of_ble_eq_true rfl) (fun X hl hD hy hin o q => ?_)
  subst hl; subst hD; subst hy
  show G X 1 0 [(0, .ref a)] [] h 0 0
  unfold fX12_behind at e
  refine g_aload_n 0 o dX12_behind_0 rfl rfl ?_
  obtain ⟨_, k1, e⟩ := ob e
  obtain ⟨h1, q1, e⟩ := ob e
  refine g_callV0 [] o (mX12_nots q1) cf12 (ckO_s k1) mw_1635 mw_1636 mw_1786 mw_19 mw_1637 rfl yo_X12_nots rfl rfl (Nat.le_of_ble_eq_true rfl) ⟨by decide, by decide⟩ ⟨rfl, rfl⟩ dX12_behind_1 ⟨by decide, by decide⟩ ?_
  refine g_aload_n 0 o dX12_behind_4 rfl rfl ?_
  refine g_ldc2_w (v := 6385252) o dX12_behind_5 mw_1160 ?_
  obtain ⟨_, k8, e⟩ := ob e
  obtain ⟨x8, h8, q8, e⟩ := ob2_s e
  refine g_callVv [.long 6385252] o (mX12_isWord q8) cf12 (ckO_s k8) mw_1307 mw_1308 mw_1731 mw_19 mw_1309 rfl yo_X12_isWord rfl rfl (Nat.le_of_ble_eq_true rfl) ⟨by decide, by decide⟩ ⟨rfl, rfl⟩ dX12_behind_8 ⟨by decide, by decide⟩ ?_
  refine g_if_ne (x := x8) 24 o dX12_behind_11 (by decide) (fun u => ?_) (fun u => ?_)
  · rw [if_neg u] at e
    exact kX12_behind_24 f0 o a h8 r hz q e
  · rw [if_pos u] at e
    refine g_aload_n 0 o dX12_behind_14 rfl rfl ?_
    refine g_ldc2_w (v := 28530) o dX12_behind_15 mw_1159 ?_
    obtain ⟨_, k18, e⟩ := ob e
    obtain ⟨x18, h18, q18, e⟩ := ob2_s e
    refine g_callVv [.long 28530] o (mX12_isWord q18) cf12 (ckO_s k18) mw_1307 mw_1308 mw_1731 mw_19 mw_1309 rfl yo_X12_isWord rfl rfl (Nat.le_of_ble_eq_true rfl) ⟨by decide, by decide⟩ ⟨rfl, rfl⟩ dX12_behind_18 ⟨by decide, by decide⟩ ?_
    refine g_if_eq (x := x18) 92 o dX12_behind_21 (by decide) (fun u => ?_) (fun u => ?_)
    · rw [if_pos u] at e
      refine g_aload_n 0 o dX12_behind_92 rfl rfl ?_
      refine g_bipush (v := 22) o dX12_behind_93 (by decide) ?_
      obtain ⟨_, k95, e⟩ := ob e
      obtain ⟨h95, q95, e⟩ := ob e
      refine g_callV0 [.int 22] o (mX12_joins q95) cf12 (ckO_s k95) mw_1641 mw_1642 mw_1788 mw_19 mw_1643 rfl yo_X12_joins rfl rfl (Nat.le_of_ble_eq_true rfl) ⟨by decide, by decide⟩ ⟨rfl, rfl⟩ dX12_behind_95 ⟨by decide, by decide⟩ ?_
      refine g_aload_n 0 o dX12_behind_98 rfl rfl ?_
      refine g_bipush (v := 41) o dX12_behind_99 (by decide) ?_
      obtain ⟨_, k101, e⟩ := ob e
      obtain ⟨x101, h101, q101, e⟩ := ob2_s e
      refine g_callVv [.int 41] o (mX12_isSign q101) cf12 (ckO_s k101) mw_1346 mw_1347 mw_1743 mw_19 mw_1348 rfl yo_X12_isSign rfl rfl (Nat.le_of_ble_eq_true rfl) ⟨by decide, by decide⟩ ⟨rfl, rfl⟩ dX12_behind_101 ⟨by decide, by decide⟩ ?_
      refine g_if_eq (x := x101) 114 o dX12_behind_104 (by decide) (fun u => ?_) (fun u => ?_)
      · rw [if_pos u] at e
        exact kX12_behind_114 f0 o a h101 r hz q e
      · rw [if_neg u] at e
        refine g_aload_n 0 o dX12_behind_107 rfl rfl ?_
        obtain ⟨x108, q108, e⟩ := ob e
        refine g_getI 42 o cf12 (by decide) mw_1228 dX12_behind_108 q108 ?_
        refine g_if_ne (x := x108) 120 o dX12_behind_111 (by decide) (fun u => ?_) (fun u => ?_)
        · rw [if_neg u] at e
          refine g_aload_n 0 o dX12_behind_120 rfl rfl ?_
          refine g_dup o dX12_behind_121 rfl ?_
          obtain ⟨x122, q122, e⟩ := ob e
          refine g_getI 42 o cf12 (by decide) mw_1228 dX12_behind_122 q122 ?_
          refine g_iconst (v := 1) o dX12_behind_125 (by decide) ?_
          refine g_isub (x := x122) (y := 1) o dX12_behind_126 ?_
          obtain ⟨h127, q127, e⟩ := ob e
          refine g_put (ty1 := .int) 42 o cf12 (by decide) mw_1228 rfl (by decide +kernel) rfl rfl dX12_behind_127 q127 ?_
          refine g_aload_n 0 o dX12_behind_130 rfl rfl ?_
          refine g_dup o dX12_behind_131 rfl ?_
          obtain ⟨x132, q132, e⟩ := ob e
          refine g_getI 43 o cf12 (by decide) mw_1229 dX12_behind_132 q132 ?_
          refine g_iconst (v := 1) o dX12_behind_135 (by decide) ?_
          refine g_isub (x := x132) (y := 1) o dX12_behind_136 ?_
          obtain ⟨h137, q137, e⟩ := ob e
          refine g_put (ty1 := .int) 43 o cf12 (by decide) mw_1229 rfl (by decide +kernel) rfl rfl dX12_behind_137 q137 ?_
          refine g_aload_n 0 o dX12_behind_140 rfl rfl ?_
          obtain ⟨_, k141, e⟩ := ob e
          obtain ⟨h141, q141, e⟩ := ob e
          refine g_callV0 [] o (mX12_next q141) cf12 (ckO_s k141) mw_1292 mw_1293 mw_1728 mw_19 mw_1294 rfl yo_X12_next rfl rfl (Nat.le_of_ble_eq_true rfl) ⟨by decide, by decide⟩ ⟨rfl, rfl⟩ dX12_behind_141 ⟨by decide, by decide⟩ ?_
          refine g_iconst (v := 1) o dX12_behind_144 (by decide) ?_
          exact g_zret o dX12_behind_145 (zr_s e).1 (rt_v q (zr_s e).2)
        · rw [if_pos u] at e
          exact kX12_behind_114 f0 o a h101 r hz q e
    · rw [if_neg u] at e
      exact kX12_behind_24 f0 o a h18 r hz q e
theorem yo_X12_leafOf : yok yX12_leafOf 0 := ⟨by decide, by decide, by decide +kernel⟩
set_option maxRecDepth 100000 in
set_option maxHeartbeats 4000000 in
theorem mX12_leafOf {l : Launch} {D : va_G} {cy : Nat → ClassId} {f0 : Nat} {a : Nat} {h : Hp} {r : Int32} {hz : Hp} (e : fX12_leafOf f0 a h = some (r, hz)) : MC l D cy yX12_leafOf cX12_leafOf 1 (some .int) rmX12_leafOf [.ref a] h (some (.int r)) hz := by
  refine mc_of2 (by decide) (Nat.le_of_ble_eq_true rfl) (fun X hl hD hy hin o q => ?_)
  subst hl; subst hD; subst hy
  show G X 1 0 [(0, .ref a)] [] h 0 0
  unfold fX12_leafOf at e
  refine g_aload_n 0 o dX12_leafOf_0 rfl rfl ?_
  refine g_ldc2_w (v := 1751478885) o dX12_leafOf_1 mw_1162 ?_
  obtain ⟨_, k4, e⟩ := ob e
  obtain ⟨x4, h4, q4, e⟩ := ob2_s e
  refine g_callVv [.long 1751478885] o (mX12_isWord q4) cf12 (ckO_s k4) mw_1307 mw_1308 mw_1731 mw_19 mw_1309 rfl yo_X12_isWord rfl rfl (Nat.le_of_ble_eq_true rfl) ⟨by decide, by decide⟩ ⟨rfl, rfl⟩ dX12_leafOf_4 ⟨by decide, by decide⟩ ?_
  refine g_if_eq (x := x4) 14 o dX12_leafOf_7 (by decide) (fun u => ?_) (fun u => ?_)
  · rw [if_pos u] at e
    refine g_aload_n 0 o dX12_leafOf_14 rfl rfl ?_
    refine g_ldc2_w (v := 1650812270) o dX12_leafOf_15 mw_1163 ?_
    obtain ⟨_, k18, e⟩ := ob e
    obtain ⟨x18, h18, q18, e⟩ := ob2_s e
    refine g_callVv [.long 1650812270] o (mX12_isWord q18) cf12 (ckO_s k18) mw_1307 mw_1308 mw_1731 mw_19 mw_1309 rfl yo_X12_isWord rfl rfl (Nat.le_of_ble_eq_true rfl) ⟨by decide, by decide⟩ ⟨rfl, rfl⟩ dX12_leafOf_18 ⟨by decide, by decide⟩ ?_
    refine g_if_eq (x := x18) 28 o dX12_leafOf_21 (by decide) (fun u => ?_) (fun u => ?_)
    · rw [if_pos u] at e
      refine g_aload_n 0 o dX12_leafOf_28 rfl rfl ?_
      refine g_ldc2_w (v := 1935763045) o dX12_leafOf_29 mw_1164 ?_
      obtain ⟨_, k32, e⟩ := ob e
      obtain ⟨x32, h32, q32, e⟩ := ob2_s e
      refine g_callVv [.long 1935763045] o (mX12_isWord q32) cf12 (ckO_s k32) mw_1307 mw_1308 mw_1731 mw_19 mw_1309 rfl yo_X12_isWord rfl rfl (Nat.le_of_ble_eq_true rfl) ⟨by decide, by decide⟩ ⟨rfl, rfl⟩ dX12_leafOf_32 ⟨by decide, by decide⟩ ?_
      refine g_if_eq (x := x32) 42 o dX12_leafOf_35 (by decide) (fun u => ?_) (fun u => ?_)
      · rw [if_pos u] at e
        refine g_aload_n 0 o dX12_leafOf_42 rfl rfl ?_
        refine g_ldc2_w (v := 461414299507) o dX12_leafOf_43 mw_1165 ?_
        obtain ⟨_, k46, e⟩ := ob e
        obtain ⟨x46, h46, q46, e⟩ := ob2_s e
        refine g_callVv [.long 461414299507] o (mX12_isWord q46) cf12 (ckO_s k46) mw_1307 mw_1308 mw_1731 mw_19 mw_1309 rfl yo_X12_isWord rfl rfl (Nat.le_of_ble_eq_true rfl) ⟨by decide, by decide⟩ ⟨rfl, rfl⟩ dX12_leafOf_46 ⟨by decide, by decide⟩ ?_
        refine g_if_eq (x := x46) 56 o dX12_leafOf_49 (by decide) (fun u => ?_) (fun u => ?_)
        · rw [if_pos u] at e
          refine g_aload_n 0 o dX12_leafOf_56 rfl rfl ?_
          refine g_ldc2_w (v := 448377483891) o dX12_leafOf_57 mw_1166 ?_
          obtain ⟨_, k60, e⟩ := ob e
          obtain ⟨x60, h60, q60, e⟩ := ob2_s e
          refine g_callVv [.long 448377483891] o (mX12_isWord q60) cf12 (ckO_s k60) mw_1307 mw_1308 mw_1731 mw_19 mw_1309 rfl yo_X12_isWord rfl rfl (Nat.le_of_ble_eq_true rfl) ⟨by decide, by decide⟩ ⟨rfl, rfl⟩ dX12_leafOf_60 ⟨by decide, by decide⟩ ?_
          refine g_if_eq (x := x60) 70 o dX12_leafOf_63 (by decide) (fun u => ?_) (fun u => ?_)
          · rw [if_pos u] at e
            refine g_aload_n 0 o dX12_leafOf_70 rfl rfl ?_
            refine g_ldc2_w (v := 6709618) o dX12_leafOf_71 mw_1167 ?_
            obtain ⟨_, k74, e⟩ := ob e
            obtain ⟨x74, h74, q74, e⟩ := ob2_s e
            refine g_callVv [.long 6709618] o (mX12_isWord q74) cf12 (ckO_s k74) mw_1307 mw_1308 mw_1731 mw_19 mw_1309 rfl yo_X12_isWord rfl rfl (Nat.le_of_ble_eq_true rfl) ⟨by decide, by decide⟩ ⟨rfl, rfl⟩ dX12_leafOf_74 ⟨by decide, by decide⟩ ?_
            refine g_if_eq (x := x74) 84 o dX12_leafOf_77 (by decide) (fun u => ?_) (fun u => ?_)
            · rw [if_pos u] at e
              refine g_aload_n 0 o dX12_leafOf_84 rfl rfl ?_
              refine g_ldc2_w (v := 474080961907) o dX12_leafOf_85 mw_1168 ?_
              obtain ⟨_, k88, e⟩ := ob e
              obtain ⟨x88, h88, q88, e⟩ := ob2_s e
              refine g_callVv [.long 474080961907] o (mX12_isWord q88) cf12 (ckO_s k88) mw_1307 mw_1308 mw_1731 mw_19 mw_1309 rfl yo_X12_isWord rfl rfl (Nat.le_of_ble_eq_true rfl) ⟨by decide, by decide⟩ ⟨rfl, rfl⟩ dX12_leafOf_88 ⟨by decide, by decide⟩ ?_
              refine g_if_eq (x := x88) 99 o dX12_leafOf_91 (by decide) (fun u => ?_) (fun u => ?_)
              · rw [if_pos u] at e
                refine g_aload_n 0 o dX12_leafOf_99 rfl rfl ?_
                refine g_ldc2_w (v := 121450625394034) o dX12_leafOf_100 mw_1169 ?_
                obtain ⟨_, k103, e⟩ := ob e
                obtain ⟨x103, h103, q103, e⟩ := ob2_s e
                refine g_callVv [.long 121450625394034] o (mX12_isWord q103) cf12 (ckO_s k103) mw_1307 mw_1308 mw_1731 mw_19 mw_1309 rfl yo_X12_isWord rfl rfl (Nat.le_of_ble_eq_true rfl) ⟨by decide, by decide⟩ ⟨rfl, rfl⟩ dX12_leafOf_103 ⟨by decide, by decide⟩ ?_
                refine g_if_eq (x := x103) 114 o dX12_leafOf_106 (by decide) (fun u => ?_) (fun u => ?_)
                · rw [if_pos u] at e
                  refine g_iconst (v := -1) o dX12_leafOf_114 (by decide) ?_
                  exact g_iret o dX12_leafOf_115 (rt_v q e)
                · rw [if_neg u] at e
                  refine g_bipush (v := 7) o dX12_leafOf_109 (by decide) ?_
                  refine g_goto 115 o dX12_leafOf_111 (by decide) ?_
                  exact g_iret o dX12_leafOf_115 (rt_v q e)
              · rw [if_neg u] at e
                refine g_bipush (v := 6) o dX12_leafOf_94 (by decide) ?_
                refine g_goto 115 o dX12_leafOf_96 (by decide) ?_
                exact g_iret o dX12_leafOf_115 (rt_v q e)
            · rw [if_neg u] at e
              refine g_iconst (v := 5) o dX12_leafOf_80 (by decide) ?_
              refine g_goto 115 o dX12_leafOf_81 (by decide) ?_
              exact g_iret o dX12_leafOf_115 (rt_v q e)
          · rw [if_neg u] at e
            refine g_iconst (v := 4) o dX12_leafOf_66 (by decide) ?_
            refine g_goto 115 o dX12_leafOf_67 (by decide) ?_
            exact g_iret o dX12_leafOf_115 (rt_v q e)
        · rw [if_neg u] at e
          refine g_iconst (v := 3) o dX12_leafOf_52 (by decide) ?_
          refine g_goto 115 o dX12_leafOf_53 (by decide) ?_
          exact g_iret o dX12_leafOf_115 (rt_v q e)
      · rw [if_neg u] at e
        refine g_iconst (v := 2) o dX12_leafOf_38 (by decide) ?_
        refine g_goto 115 o dX12_leafOf_39 (by decide) ?_
        exact g_iret o dX12_leafOf_115 (rt_v q e)
    · rw [if_neg u] at e
      refine g_iconst (v := 1) o dX12_leafOf_24 (by decide) ?_
      refine g_goto 115 o dX12_leafOf_25 (by decide) ?_
      exact g_iret o dX12_leafOf_115 (rt_v q e)
  · rw [if_neg u] at e
    refine g_iconst (v := 0) o dX12_leafOf_10 (by decide) ?_
    refine g_goto 115 o dX12_leafOf_11 (by decide) ?_
    exact g_iret o dX12_leafOf_115 (rt_v q e)
set_option maxRecDepth 100000 in
set_option maxHeartbeats 4000000 in
theorem kX12_operand_56 {X : Cx} (f0 : Nat) (o : Ok X cX12_operand RX12 5 rmX12_operand (some .boolean)) (v0 : Nat) (h : Hp) (r : Int32) (hz : Hp) (q : Rt X (some (.int r)) hz 0 0) (e : bX12_operand_56 f0 v0 h = some (r, hz)) : G X 5 56 [(0, .ref v0)] [] h 0 0 := by
  unfold bX12_operand_56 at e
  refine g_aload_n 0 o dX12_operand_56 rfl rfl ?_
  refine g_iconst (v := 4) o dX12_operand_57 (by decide) ?_
  obtain ⟨_, k58, e⟩ := ob e
  obtain ⟨x58, h58, q58, e⟩ := ob2_s e
  refine g_callVv [.int 4] o (mX12_bad q58) cf12 (ckO_s k58) mw_1313 mw_1314 mw_1733 mw_19 mw_1315 rfl yo_X12_bad rfl rfl (Nat.le_of_ble_eq_true rfl) ⟨by decide, by decide⟩ ⟨rfl, rfl⟩ dX12_operand_58 ⟨by decide, by decide⟩ ?_
  exact g_zret o dX12_operand_61 (zr_s e).1 (rt_v q (zr_s e).2)
set_option maxRecDepth 100000 in
set_option maxHeartbeats 4000000 in
theorem kX12_operand_103 {X : Cx} (f0 : Nat) (o : Ok X cX12_operand RX12 5 rmX12_operand (some .boolean)) (v0 : Nat) (s0 : Nat) (s1 : Int32) (s2 : Int32) (h : Hp) (r : Int32) (hz : Hp) (q : Rt X (some (.int r)) hz 0 0) (e : bX12_operand_103 f0 v0 s0 s1 s2 h = some (r, hz)) : G X 5 103 [(0, .ref v0)] [.int s2, .int s1, .ref s0] h 0 0 := by
  unfold bX12_operand_103 at e
  obtain ⟨h103, q103, e⟩ := ob e
  refine g_iast o dX12_operand_103 q103 ?_
  refine g_aload_n 0 o dX12_operand_104 rfl rfl ?_
  refine g_dup o dX12_operand_105 rfl ?_
  obtain ⟨x106, q106, e⟩ := ob e
  refine g_getI 42 o cf12 (by decide) mw_1228 dX12_operand_106 q106 ?_
  refine g_iconst (v := 1) o dX12_operand_109 (by decide) ?_
  refine g_iadd (x := x106) (y := 1) o dX12_operand_110 ?_
  obtain ⟨h111, q111, e⟩ := ob e
  refine g_put (ty1 := .int) 42 o cf12 (by decide) mw_1228 rfl (by decide +kernel) rfl rfl dX12_operand_111 q111 ?_
  refine g_aload_n 0 o dX12_operand_114 rfl rfl ?_
  refine g_dup o dX12_operand_115 rfl ?_
  obtain ⟨x116, q116, e⟩ := ob e
  refine g_getI 43 o cf12 (by decide) mw_1229 dX12_operand_116 q116 ?_
  refine g_iconst (v := 1) o dX12_operand_119 (by decide) ?_
  refine g_iadd (x := x116) (y := 1) o dX12_operand_120 ?_
  obtain ⟨h121, q121, e⟩ := ob e
  refine g_put (ty1 := .int) 43 o cf12 (by decide) mw_1229 rfl (by decide +kernel) rfl rfl dX12_operand_121 q121 ?_
  refine g_iconst (v := 1) o dX12_operand_124 (by decide) ?_
  exact g_zret o dX12_operand_125 (zr_s e).1 (rt_v q (zr_s e).2)
set_option maxRecDepth 100000 in
set_option maxHeartbeats 4000000 in
theorem kX12_operand_84 {X : Cx} (f0 : Nat) (o : Ok X cX12_operand RX12 5 rmX12_operand (some .boolean)) (v0 : Nat) (v1 : Int32) (h : Hp) (r : Int32) (hz : Hp) (q : Rt X (some (.int r)) hz 0 0) (e : bX12_operand_84 f0 v0 v1 h = some (r, hz)) : G X 5 84 [(0, .ref v0), (1, .int v1)] [] h 0 0 := by
  unfold bX12_operand_84 at e
  refine g_aload_n 0 o dX12_operand_84 rfl rfl ?_
  obtain ⟨x85, q85, e⟩ := ob e
  refine g_getN 39 o cf12 (by decide) mw_1225 dX12_operand_85 q85 ?_
  refine g_aload_n 0 o dX12_operand_88 rfl rfl ?_
  obtain ⟨x89, q89, e⟩ := ob e
  refine g_getI 42 o cf12 (by decide) mw_1228 dX12_operand_89 q89 ?_
  refine g_iload_n 1 o dX12_operand_92 rfl rfl ?_
  refine g_if_eq (x := v1) 101 o dX12_operand_93 (by decide) (fun u => ?_) (fun u => ?_)
  · rw [if_pos u] at e
    refine g_bipush (v := 23) o dX12_operand_101 (by decide) ?_
    refine g_sb [0] rfl ?_
    exact kX12_operand_103 f0 o v0 x85 x89 23 h r hz q e
  · rw [if_neg u] at e
    refine g_bipush (v := 20) o dX12_operand_96 (by decide) ?_
    refine g_goto 103 o dX12_operand_98 (by decide) ?_
    refine g_sb [0] rfl ?_
    exact kX12_operand_103 f0 o v0 x85 x89 20 h r hz q e
set_option maxRecDepth 100000 in
set_option maxHeartbeats 4000000 in
theorem kX12_operand_176 {X : Cx} (f0 : Nat) (o : Ok X cX12_operand RX12 5 rmX12_operand (some .boolean)) (v0 : Nat) (v3 : Int32) (s0 : Nat) (s1 : Int32) (s2 : Nat) (s3 : Int32) (h : Hp) (r : Int32) (hz : Hp) (q : Rt X (some (.int r)) hz 0 0) (e : bX12_operand_176 f0 v0 v3 s0 s1 s2 s3 h = some (r, hz)) : G X 5 176 [(0, .ref v0), (3, .int v3)] [.int s3, .ref s2, .int s1, .ref s0] h 0 0 := by
  unfold bX12_operand_176 at e
  obtain ⟨x176, q176, e⟩ := ob e
  refine g_iald o dX12_operand_176 q176 ?_
  obtain ⟨_, k177, e⟩ := ob e
  obtain ⟨x177, h177, q177, e⟩ := ob2_s e
  refine g_callVv [.int s1, .int x176] o (mX12_looksAt q177) cf12 (ckO_s k177) mw_1331 mw_1332 mw_1739 mw_19 mw_1333 rfl yo_X12_looksAt rfl rfl (Nat.le_of_ble_eq_true rfl) ⟨by decide, by decide⟩ ⟨rfl, rfl⟩ dX12_operand_177 ⟨by decide, by decide⟩ ?_
  refine g_if_ne (x := x177) 185 o dX12_operand_180 (by decide) (fun u => ?_) (fun u => ?_)
  · rw [if_neg u] at e
    refine g_aload_n 0 o dX12_operand_185 rfl rfl ?_
    refine g_iload_n 1 o dX12_operand_186 rfl rfl ?_
    refine g_iconst (v := 0) o dX12_operand_187 (by decide) ?_
    refine g_aload_n 0 o dX12_operand_188 rfl rfl ?_
    obtain ⟨x189, q189, e⟩ := ob e
    refine g_getI 18 o cf12 (by decide) mw_1204 dX12_operand_189 q189 ?_
    obtain ⟨_, k192, e⟩ := ob e
    obtain ⟨h192, q192, e⟩ := ob e
    refine g_callV0 [.int v3, .int 0, .int x189] o (mX12_code q192) cf12 (ckO_s k192) mw_1638 mw_1639 mw_1787 mw_19 mw_1640 rfl yo_X12_code rfl rfl (Nat.le_of_ble_eq_true rfl) ⟨by decide, by decide⟩ ⟨rfl, rfl⟩ dX12_operand_192 ⟨by decide, by decide⟩ ?_
    refine g_aload_n 0 o dX12_operand_195 rfl rfl ?_
    obtain ⟨_, k196, e⟩ := ob e
    obtain ⟨h196, q196, e⟩ := ob e
    refine g_callV0 [] o (mX12_next q196) cf12 (ckO_s k196) mw_1292 mw_1293 mw_1728 mw_19 mw_1294 rfl yo_X12_next rfl rfl (Nat.le_of_ble_eq_true rfl) ⟨by decide, by decide⟩ ⟨rfl, rfl⟩ dX12_operand_196 ⟨by decide, by decide⟩ ?_
    refine g_iconst (v := 1) o dX12_operand_199 (by decide) ?_
    exact g_zret o dX12_operand_200 (zr_s e).1 (rt_v q (zr_s e).2)
  · rw [if_pos u] at e
    refine g_iconst (v := 0) o dX12_operand_183 (by decide) ?_
    exact g_zret o dX12_operand_184 (zr_s e).1 (rt_v q (zr_s e).2)
set_option maxRecDepth 100000 in
set_option maxHeartbeats 4000000 in
theorem kX12_operand_162 {X : Cx} (f0 : Nat) (o : Ok X cX12_operand RX12 5 rmX12_operand (some .boolean)) (v0 : Nat) (v3 : Int32) (s0 : Nat) (s1 : Int32) (h : Hp) (r : Int32) (hz : Hp) (q : Rt X (some (.int r)) hz 0 0) (e : bX12_operand_162 f0 v0 v3 s0 s1 h = some (r, hz)) : G X 5 162 [(0, .ref v0), (3, .int v3)] [.int s1, .ref s0] h 0 0 := by
  unfold bX12_operand_162 at e
  refine g_aload_n 0 o dX12_operand_162 rfl rfl ?_
  obtain ⟨x163, q163, e⟩ := ob e
  refine g_getN 6 o cf12 (by decide) mw_1192 dX12_operand_163 q163 ?_
  refine g_iload_n 1 o dX12_operand_166 rfl rfl ?_
  refine g_iconst (v := 3) o dX12_operand_167 (by decide) ?_
  refine g_icmp_ne (x := v3) (y := 3) 175 o dX12_operand_168 (by decide) (fun u => ?_) (fun u => ?_)
  · rw [if_neg u] at e
    refine g_iconst (v := 0) o dX12_operand_175 (by decide) ?_
    exact kX12_operand_176 f0 o v0 v3 s0 s1 x163 0 h r hz q e
  · rw [if_pos u] at e
    refine g_iconst (v := 1) o dX12_operand_171 (by decide) ?_
    refine g_goto 176 o dX12_operand_172 (by decide) ?_
    exact kX12_operand_176 f0 o v0 v3 s0 s1 x163 1 h r hz q e
set_option maxRecDepth 100000 in
set_option maxHeartbeats 4000000 in
theorem kX12_operand_227 {X : Cx} (f0 : Nat) (o : Ok X cX12_operand RX12 5 rmX12_operand (some .boolean)) (v0 : Nat) (h : Hp) (r : Int32) (hz : Hp) (q : Rt X (some (.int r)) hz 0 0) (e : bX12_operand_227 f0 v0 h = some (r, hz)) : G X 5 227 [(0, .ref v0)] [] h 0 0 := by
  unfold bX12_operand_227 at e
  refine g_aload_n 0 o dX12_operand_227 rfl rfl ?_
  refine g_iconst (v := 1) o dX12_operand_228 (by decide) ?_
  obtain ⟨_, k229, e⟩ := ob e
  obtain ⟨x229, h229, q229, e⟩ := ob2_s e
  refine g_callVv [.int 1] o (mX12_bad q229) cf12 (ckO_s k229) mw_1313 mw_1314 mw_1733 mw_19 mw_1315 rfl yo_X12_bad rfl rfl (Nat.le_of_ble_eq_true rfl) ⟨by decide, by decide⟩ ⟨rfl, rfl⟩ dX12_operand_229 ⟨by decide, by decide⟩ ?_
  exact g_zret o dX12_operand_232 (zr_s e).1 (rt_v q (zr_s e).2)
set_option maxRecDepth 100000 in
set_option maxHeartbeats 4000000 in
theorem kX12_operand_38 {X : Cx} (f0 : Nat) (o : Ok X cX12_operand RX12 5 rmX12_operand (some .boolean)) (v0 : Nat) (v1 : Int32) (v2 : Int32) (v3 : Int32) (h : Hp) (r : Int32) (hz : Hp) (q : Rt X (some (.int r)) hz 0 0) (e : bX12_operand_38 f0 v0 v1 v2 v3 h = some (r, hz)) : G X 5 38 [(0, .ref v0), (1, .int v1), (2, .int v2), (3, .int v3)] [] h 0 0 := by
  unfold bX12_operand_38 at e
  refine g_aload_n 0 o dX12_operand_38 rfl rfl ?_
  obtain ⟨x39, q39, e⟩ := ob e
  refine g_getI 41 o cf12 (by decide) mw_1227 dX12_operand_39 q39 ?_
  refine g_bipush (v := 20) o dX12_operand_42 (by decide) ?_
  refine g_icmp_eq (x := x39) (y := 20) 56 o dX12_operand_44 (by decide) (fun u => ?_) (fun u => ?_)
  · rw [if_pos u] at e
    refine g_sb [0] rfl ?_
    exact kX12_operand_56 f0 o v0 h r hz q e
  · rw [if_neg u] at e
    refine g_aload_n 0 o dX12_operand_47 rfl rfl ?_
    obtain ⟨x48, q48, e⟩ := ob e
    refine g_getI 43 o cf12 (by decide) mw_1229 dX12_operand_48 q48 ?_
    refine g_bipush (v := 8) o dX12_operand_51 (by decide) ?_
    refine g_icmp_le (x := x48) (y := 8) 62 o dX12_operand_53 (by decide) (fun u => ?_) (fun u => ?_)
    · rw [if_pos u] at e
      refine g_aload_n 0 o dX12_operand_62 rfl rfl ?_
      refine g_dup o dX12_operand_63 rfl ?_
      obtain ⟨x64, q64, e⟩ := ob e
      refine g_getI 41 o cf12 (by decide) mw_1227 dX12_operand_64 q64 ?_
      refine g_iconst (v := 1) o dX12_operand_67 (by decide) ?_
      refine g_iadd (x := x64) (y := 1) o dX12_operand_68 ?_
      obtain ⟨h69, q69, e⟩ := ob e
      refine g_put (ty1 := .int) 41 o cf12 (by decide) mw_1227 rfl (by decide +kernel) rfl rfl dX12_operand_69 q69 ?_
      refine g_aload_n 0 o dX12_operand_72 rfl rfl ?_
      obtain ⟨_, k73, e⟩ := ob e
      obtain ⟨h73, q73, e⟩ := ob e
      refine g_callV0 [] o (mX12_next q73) cf12 (ckO_s k73) mw_1292 mw_1293 mw_1728 mw_19 mw_1294 rfl yo_X12_next rfl rfl (Nat.le_of_ble_eq_true rfl) ⟨by decide, by decide⟩ ⟨rfl, rfl⟩ dX12_operand_73 ⟨by decide, by decide⟩ ?_
      refine g_iload_n 1 o dX12_operand_76 rfl rfl ?_
      refine g_if_ne (x := v1) 84 o dX12_operand_77 (by decide) (fun u => ?_) (fun u => ?_)
      · rw [if_neg u] at e
        refine g_sb [0, 1] rfl ?_
        exact kX12_operand_84 f0 o v0 v1 h73 r hz q e
      · rw [if_pos u] at e
        refine g_iload_n 2 o dX12_operand_80 rfl rfl ?_
        refine g_if_eq (x := v2) 126 o dX12_operand_81 (by decide) (fun u => ?_) (fun u => ?_)
        · rw [if_pos u] at e
          refine g_aload_n 0 o dX12_operand_126 rfl rfl ?_
          refine g_iconst (v := 1) o dX12_operand_127 (by decide) ?_
          obtain ⟨h128, q128, e⟩ := ob e
          refine g_put (ty1 := .boolean) 44 o cf12 (by decide) mw_1230 rfl (by decide +kernel) (nar_z (pfZ_s q128).1).1 (nar_z (pfZ_s q128).1).2 dX12_operand_128 (pfZ_s q128).2 ?_
          refine g_iload_n 3 o dX12_operand_131 rfl rfl ?_
          refine g_iconst (v := 3) o dX12_operand_132 (by decide) ?_
          refine g_icmp_ge (x := v3) (y := 3) 145 o dX12_operand_133 (by decide) (fun u => ?_) (fun u => ?_)
          · rw [if_pos u] at e
            refine g_iload_n 3 o dX12_operand_145 rfl rfl ?_
            refine g_iconst (v := 5) o dX12_operand_146 (by decide) ?_
            refine g_icmp_ge (x := v3) (y := 5) 201 o dX12_operand_147 (by decide) (fun u => ?_) (fun u => ?_)
            · rw [if_pos u] at e
              refine g_aload_n 0 o dX12_operand_201 rfl rfl ?_
              obtain ⟨x202, q202, e⟩ := ob e
              refine g_getI 11 o cf12 (by decide) mw_1197 dX12_operand_202 q202 ?_
              refine g_iconst (v := 3) o dX12_operand_205 (by decide) ?_
              refine g_icmp_ne (x := x202) (y := 3) 227 o dX12_operand_206 (by decide) (fun u => ?_) (fun u => ?_)
              · rw [if_neg u] at e
                refine g_sb [0] rfl ?_
                exact kX12_operand_227 f0 o v0 h128 r hz q e
              · rw [if_pos u] at e
                refine g_aload_n 0 o dX12_operand_209 rfl rfl ?_
                obtain ⟨x210, q210, e⟩ := ob e
                refine g_getI 14 o cf12 (by decide) mw_1200 dX12_operand_210 q210 ?_
                refine g_bipush (v := 60) o dX12_operand_213 (by decide) ?_
                refine g_icmp_lt (x := x210) (y := 60) 227 o dX12_operand_215 (by decide) (fun u => ?_) (fun u => ?_)
                · rw [if_pos u] at e
                  refine g_sb [0] rfl ?_
                  exact kX12_operand_227 f0 o v0 h128 r hz q e
                · rw [if_neg u] at e
                  refine g_aload_n 0 o dX12_operand_218 rfl rfl ?_
                  obtain ⟨x219, q219, e⟩ := ob e
                  refine g_getI 14 o cf12 (by decide) mw_1200 dX12_operand_219 q219 ?_
                  refine g_bipush (v := 62) o dX12_operand_222 (by decide) ?_
                  refine g_icmp_le (x := x219) (y := 62) 233 o dX12_operand_224 (by decide) (fun u => ?_) (fun u => ?_)
                  · rw [if_pos u] at e
                    refine g_aload_n 0 o dX12_operand_233 rfl rfl ?_
                    obtain ⟨x234, q234, e⟩ := ob e
                    refine g_getI 14 o cf12 (by decide) mw_1200 dX12_operand_234 q234 ?_
                    refine g_istore [(4, .int x234), (0, .ref v0), (1, .int v1), (2, .int v2), (3, .int v3)] o dX12_operand_237 (by decide) rfl ?_
                    refine g_aload_n 1 o dX12_operand_239 rfl rfl ?_
                    obtain ⟨_, k240, e⟩ := ob e
                    obtain ⟨h240, q240, e⟩ := ob e
                    refine g_callV0 [] o (mX12_next q240) cf12 (ckO_s k240) mw_1292 mw_1293 mw_1728 mw_19 mw_1294 rfl yo_X12_next rfl rfl (Nat.le_of_ble_eq_true rfl) ⟨by decide, by decide⟩ ⟨rfl, rfl⟩ dX12_operand_240 ⟨by decide, by decide⟩ ?_
                    refine g_aload_n 1 o dX12_operand_243 rfl rfl ?_
                    obtain ⟨x244, q244, e⟩ := ob e
                    refine g_getI 11 o cf12 (by decide) mw_1197 dX12_operand_244 q244 ?_
                    refine g_iconst (v := 2) o dX12_operand_247 (by decide) ?_
                    refine g_icmp_eq (x := x244) (y := 2) 257 o dX12_operand_248 (by decide) (fun u => ?_) (fun u => ?_)
                    · rw [if_pos u] at e
                      refine g_aload_n 1 o dX12_operand_257 rfl rfl ?_
                      refine g_iload_n 4 o dX12_operand_258 rfl rfl ?_
                      refine g_iload 0 o dX12_operand_259 rfl ?_
                      refine g_aload_n 1 o dX12_operand_261 rfl rfl ?_
                      obtain ⟨x262, q262, e⟩ := ob e
                      refine g_getI 14 o cf12 (by decide) mw_1200 dX12_operand_262 q262 ?_
                      obtain ⟨_, k265, e⟩ := ob e
                      obtain ⟨h265, q265, e⟩ := ob e
                      refine g_callV0 [.int v3, .int x234, .int x262] o (mX12_code q265) cf12 (ckO_s k265) mw_1638 mw_1639 mw_1787 mw_19 mw_1640 rfl yo_X12_code rfl rfl (Nat.le_of_ble_eq_true rfl) ⟨by decide, by decide⟩ ⟨rfl, rfl⟩ dX12_operand_265 ⟨by decide, by decide⟩ ?_
                      refine g_aload_n 1 o dX12_operand_268 rfl rfl ?_
                      obtain ⟨_, k269, e⟩ := ob e
                      obtain ⟨h269, q269, e⟩ := ob e
                      refine g_callV0 [] o (mX12_next q269) cf12 (ckO_s k269) mw_1292 mw_1293 mw_1728 mw_19 mw_1294 rfl yo_X12_next rfl rfl (Nat.le_of_ble_eq_true rfl) ⟨by decide, by decide⟩ ⟨rfl, rfl⟩ dX12_operand_269 ⟨by decide, by decide⟩ ?_
                      refine g_iconst (v := 1) o dX12_operand_272 (by decide) ?_
                      exact g_zret o dX12_operand_273 (zr_s e).1 (rt_v q (zr_s e).2)
                    · rw [if_neg u] at e
                      refine g_aload_n 1 o dX12_operand_251 rfl rfl ?_
                      refine g_iconst (v := 1) o dX12_operand_252 (by decide) ?_
                      obtain ⟨_, k253, e⟩ := ob e
                      obtain ⟨x253, h253, q253, e⟩ := ob2_s e
                      refine g_callVv [.int 1] o (mX12_bad q253) cf12 (ckO_s k253) mw_1313 mw_1314 mw_1733 mw_19 mw_1315 rfl yo_X12_bad rfl rfl (Nat.le_of_ble_eq_true rfl) ⟨by decide, by decide⟩ ⟨rfl, rfl⟩ dX12_operand_253 ⟨by decide, by decide⟩ ?_
                      exact g_zret o dX12_operand_256 (zr_s e).1 (rt_v q (zr_s e).2)
                  · rw [if_neg u] at e
                    refine g_sb [0] rfl ?_
                    exact kX12_operand_227 f0 o v0 h128 r hz q e
            · rw [if_neg u] at e
              refine g_aload_n 0 o dX12_operand_150 rfl rfl ?_
              refine g_iload_n 3 o dX12_operand_151 rfl rfl ?_
              refine g_iconst (v := 3) o dX12_operand_152 (by decide) ?_
              refine g_icmp_ne (x := v3) (y := 3) 161 o dX12_operand_153 (by decide) (fun u => ?_) (fun u => ?_)
              · rw [if_neg u] at e
                refine g_iconst (v := 0) o dX12_operand_161 (by decide) ?_
                refine g_sb [0, 3] rfl ?_
                exact kX12_operand_162 f0 o v0 v3 v0 0 h128 r hz q e
              · rw [if_pos u] at e
                refine g_bipush (v := 8) o dX12_operand_156 (by decide) ?_
                refine g_goto 162 o dX12_operand_158 (by decide) ?_
                refine g_sb [0, 3] rfl ?_
                exact kX12_operand_162 f0 o v0 v3 v0 8 h128 r hz q e
          · rw [if_neg u] at e
            refine g_aload_n 0 o dX12_operand_136 rfl rfl ?_
            refine g_iload_n 3 o dX12_operand_137 rfl rfl ?_
            refine g_iconst (v := 0) o dX12_operand_138 (by decide) ?_
            refine g_iconst (v := 0) o dX12_operand_139 (by decide) ?_
            obtain ⟨_, k140, e⟩ := ob e
            obtain ⟨h140, q140, e⟩ := ob e
            refine g_callV0 [.int v3, .int 0, .int 0] o (mX12_code q140) cf12 (ckO_s k140) mw_1638 mw_1639 mw_1787 mw_19 mw_1640 rfl yo_X12_code rfl rfl (Nat.le_of_ble_eq_true rfl) ⟨by decide, by decide⟩ ⟨rfl, rfl⟩ dX12_operand_140 ⟨by decide, by decide⟩ ?_
            refine g_iconst (v := 1) o dX12_operand_143 (by decide) ?_
            exact g_zret o dX12_operand_144 (zr_s e).1 (rt_v q (zr_s e).2)
        · rw [if_neg u] at e
          refine g_sb [0, 1] rfl ?_
          exact kX12_operand_84 f0 o v0 v1 h73 r hz q e
    · rw [if_neg u] at e
      refine g_sb [0] rfl ?_
      exact kX12_operand_56 f0 o v0 h r hz q e
theorem yo_X12_operand : yok yX12_operand 0 := ⟨by decide, by decide, by decide +kernel⟩
set_option maxRecDepth 100000 in
set_option maxHeartbeats 4000000 in
theorem mX12_operand {l : Launch} {D : va_G} {cy : Nat → ClassId} {f0 : Nat} {a : Nat} {h : Hp} {r : Int32} {hz : Hp} (e : fX12_operand f0 a h = some (r, hz)) : MC l D cy yX12_operand cX12_operand 5 (some .boolean) rmX12_operand [.ref a] h (some (.int r)) hz := by
  refine mc_of2 (by decide) (Nat.le_of_ble_eq_true rfl) (fun X hl hD hy hin o q => ?_)
  subst hl; subst hD; subst hy
  show G X 5 0 [(0, .ref a)] [] h 0 0
  unfold fX12_operand at e
  refine g_aload_n 0 o dX12_operand_0 rfl rfl ?_
  refine g_ldc2_w (v := 7237492) o dX12_operand_1 mw_1161 ?_
  obtain ⟨_, k4, e⟩ := ob e
  obtain ⟨x4, h4, q4, e⟩ := ob2_s e
  refine g_callVv [.long 7237492] o (mX12_isWord q4) cf12 (ckO_s k4) mw_1307 mw_1308 mw_1731 mw_19 mw_1309 rfl yo_X12_isWord rfl rfl (Nat.le_of_ble_eq_true rfl) ⟨by decide, by decide⟩ ⟨rfl, rfl⟩ dX12_operand_4 ⟨by decide, by decide⟩ ?_
  refine g_istore_n [(1, .int x4), (0, .ref a)] o dX12_operand_7 rfl (by decide) rfl ?_
  refine g_aload_n 1 o dX12_operand_8 rfl rfl ?_
  refine g_bipush (v := 40) o dX12_operand_9 (by decide) ?_
  obtain ⟨_, k11, e⟩ := ob e
  obtain ⟨x11, h11, q11, e⟩ := ob2_s e
  refine g_callVv [.int 40] o (mX12_isSign q11) cf12 (ckO_s k11) mw_1346 mw_1347 mw_1743 mw_19 mw_1348 rfl yo_X12_isSign rfl rfl (Nat.le_of_ble_eq_true rfl) ⟨by decide, by decide⟩ ⟨rfl, rfl⟩ dX12_operand_11 ⟨by decide, by decide⟩ ?_
  refine g_istore_n [(2, .int x11), (1, .int x4), (0, .ref a)] o dX12_operand_14 rfl (by decide) rfl ?_
  refine g_aload_n 2 o dX12_operand_15 rfl rfl ?_
  obtain ⟨_, k16, e⟩ := ob e
  obtain ⟨x16, h16, q16, e⟩ := ob2_s e
  refine g_callVv [] o (mX12_leafOf q16) cf12 (ckO_s k16) mw_1650 mw_1651 mw_1791 mw_19 mw_1652 rfl yo_X12_leafOf rfl rfl (Nat.le_of_ble_eq_true rfl) ⟨by decide, by decide⟩ ⟨rfl, rfl⟩ dX12_operand_16 ⟨by decide, by decide⟩ ?_
  refine g_istore_n [(3, .int x16), (2, .int x11), (1, .int x4), (0, .ref a)] o dX12_operand_19 rfl (by decide) rfl ?_
  refine g_iload_n 2 o dX12_operand_20 rfl rfl ?_
  refine g_if_ne (x := x4) 38 o dX12_operand_21 (by decide) (fun u => ?_) (fun u => ?_)
  · rw [if_neg u] at e
    refine g_sb [3, 2, 1, 0] rfl ?_
    exact kX12_operand_38 f0 o a x4 x11 x16 h16 r hz q e
  · rw [if_pos u] at e
    refine g_iload_n 1 o dX12_operand_24 rfl rfl ?_
    refine g_if_ne (x := x11) 38 o dX12_operand_25 (by decide) (fun u => ?_) (fun u => ?_)
    · rw [if_neg u] at e
      refine g_sb [3, 2, 1, 0] rfl ?_
      exact kX12_operand_38 f0 o a x4 x11 x16 h16 r hz q e
    · rw [if_pos u] at e
      refine g_iload_n 0 o dX12_operand_28 rfl rfl ?_
      refine g_if_ge (x := x16) 38 o dX12_operand_29 (by decide) (fun u => ?_) (fun u => ?_)
      · rw [if_pos u] at e
        refine g_sb [3, 2, 1, 0] rfl ?_
        exact kX12_operand_38 f0 o a x4 x11 x16 h16 r hz q e
      · rw [if_neg u] at e
        refine g_aload_n 3 o dX12_operand_32 rfl rfl ?_
        refine g_iconst (v := 1) o dX12_operand_33 (by decide) ?_
        obtain ⟨_, k34, e⟩ := ob e
        obtain ⟨x34, h34, q34, e⟩ := ob2_s e
        refine g_callVv [.int 1] o (mX12_bad q34) cf12 (ckO_s k34) mw_1313 mw_1314 mw_1733 mw_19 mw_1315 rfl yo_X12_bad rfl rfl (Nat.le_of_ble_eq_true rfl) ⟨by decide, by decide⟩ ⟨rfl, rfl⟩ dX12_operand_34 ⟨by decide, by decide⟩ ?_
        exact g_zret o dX12_operand_37 (zr_s e).1 (rt_v q (zr_s e).2)
set_option maxRecDepth 100000 in
set_option maxHeartbeats 4000000 in
theorem kX12_sentence_125 {X : Cx} (f0 : Nat) (o : Ok X cX12_sentence RX12 3 rmX12_sentence (some .int)) (v0 : Nat) (h : Hp) (r : Int32) (hz : Hp) (q : Rt X (some (.int r)) hz 0 0) (e : bX12_sentence_125 f0 v0 h = some (r, hz)) : G X 3 125 [(0, .ref v0)] [] h 0 0 := by
  unfold bX12_sentence_125 at e
  refine g_iconst (v := -1) o dX12_sentence_125 (by decide) ?_
  refine g_aload_n 0 o dX12_sentence_126 rfl rfl ?_
  obtain ⟨x127, q127, e⟩ := ob e
  refine g_getI 16 o cf12 (by decide) mw_1202 dX12_sentence_127 q127 ?_
  refine g_isub (x := ((-1) : Int32)) (y := x127) o dX12_sentence_130 ?_
  exact g_iret o dX12_sentence_131 (rt_v q e)
set_option maxRecDepth 100000 in
set_option maxHeartbeats 4000000 in
theorem kX12_sentence_101 {X : Cx} (f0 : Nat) (g48 : Nat → Int32 → Hp → Option (Int32 × Hp)) (i48 : ∀ (v02 : Nat) (v12 : Int32) (h2 : Hp) (r : Int32) (hz : Hp), Rt X (some (.int r)) hz 0 0 → g48 v02 v12 h2 = some (r, hz) → G X 3 48 [(0, .ref v02), (1, .int v12)] [] h2 0 0) (o : Ok X cX12_sentence RX12 3 rmX12_sentence (some .int)) (v0 : Nat) (v1 : Int32) (h : Hp) (r : Int32) (hz : Hp) (q : Rt X (some (.int r)) hz 0 0) (e : bX12_sentence_101 f0 g48 v0 v1 h = some (r, hz)) : G X 3 101 [(0, .ref v0), (1, .int v1)] [] h 0 0 := by
  unfold bX12_sentence_101 at e
  refine g_aload_n 0 o dX12_sentence_101 rfl rfl ?_
  obtain ⟨x102, q102, e⟩ := ob e
  refine g_getI 44 o cf12 (by decide) mw_1230 dX12_sentence_102 q102 ?_
  refine g_if_eq (x := x102) 118 o dX12_sentence_105 (by decide) (fun u => ?_) (fun u => ?_)
  · rw [if_pos u] at e
    refine g_aload_n 0 o dX12_sentence_118 rfl rfl ?_
    obtain ⟨_, k119, e⟩ := ob e
    obtain ⟨x119, h119, q119, e⟩ := ob2_s e
    refine g_callVv [] o (mX12_operand q119) cf12 (ckO_s k119) mw_1647 mw_1648 mw_1790 mw_19 mw_1649 rfl yo_X12_operand rfl rfl (Nat.le_of_ble_eq_true rfl) ⟨by decide, by decide⟩ ⟨rfl, rfl⟩ dX12_sentence_119 ⟨by decide, by decide⟩ ?_
    refine g_if_ne (x := x119) 48 o dX12_sentence_122 (by decide) (fun u => ?_) (fun u => ?_)
    · rw [if_neg u] at e
      exact i48 v0 v1 h119 r hz q e
    · rw [if_pos u] at e
      refine g_sb [0] rfl ?_
      exact kX12_sentence_125 f0 o v0 h119 r hz q e
  · rw [if_neg u] at e
    refine g_aload_n 0 o dX12_sentence_108 rfl rfl ?_
    obtain ⟨_, k109, e⟩ := ob e
    obtain ⟨x109, h109, q109, e⟩ := ob2_s e
    refine g_callVv [] o (mX12_behind q109) cf12 (ckO_s k109) mw_1644 mw_1645 mw_1789 mw_19 mw_1646 rfl yo_X12_behind rfl rfl (Nat.le_of_ble_eq_true rfl) ⟨by decide, by decide⟩ ⟨rfl, rfl⟩ dX12_sentence_109 ⟨by decide, by decide⟩ ?_
    refine g_if_ne (x := x109) 48 o dX12_sentence_112 (by decide) (fun u => ?_) (fun u => ?_)
    · rw [if_neg u] at e
      exact i48 v0 v1 h109 r hz q e
    · rw [if_pos u] at e
      refine g_goto 125 o dX12_sentence_115 (by decide) ?_
      refine g_sb [0] rfl ?_
      exact kX12_sentence_125 f0 o v0 h109 r hz q e
set_option maxRecDepth 100000 in
set_option maxHeartbeats 4000000 in
theorem kX12_sentence_146 {X : Cx} (f0 : Nat) (o : Ok X cX12_sentence RX12 3 rmX12_sentence (some .int)) (f : Nat) (v0 : Nat) (v2 : Int32) (h : Hp) (r : Int32) (hz : Hp) (q : Rt X (some (.int r)) hz 0 0) (e : bX12_sentence_146 f0 f v0 v2 h = some (r, hz)) : G X 3 146 [(0, .ref v0), (2, .int v2)] [] h 0 0 := by
  induction f generalizing v0 v2 h r hz with
  | zero => cases e
  | succ f1 ih =>
    unfold bX12_sentence_146 at e
    refine g_iload_n 1 o dX12_sentence_146 rfl rfl ?_
    refine g_iconst (v := 3) o dX12_sentence_147 (by decide) ?_
    refine g_aload_n 0 o dX12_sentence_148 rfl rfl ?_
    obtain ⟨x149, q149, e⟩ := ob e
    refine g_getI 40 o cf12 (by decide) mw_1226 dX12_sentence_149 q149 ?_
    refine g_imul (x := (3 : Int32)) (y := x149) o dX12_sentence_152 ?_
    refine g_icmp_ge (x := v2) (y := ((3 : Int32) * x149)) 178 o dX12_sentence_153 (by decide) (fun u => ?_) (fun u => ?_)
    · rw [if_pos u] at e
      refine g_aload_n 0 o dX12_sentence_178 rfl rfl ?_
      obtain ⟨x179, q179, e⟩ := ob e
      refine g_getI 41 o cf12 (by decide) mw_1227 dX12_sentence_179 q179 ?_
      exact g_iret o dX12_sentence_182 (rt_v q e)
    · rw [if_neg u] at e
      refine g_aload_n 0 o dX12_sentence_156 rfl rfl ?_
      obtain ⟨x157, q157, e⟩ := ob e
      refine g_getN 6 o cf12 (by decide) mw_1192 dX12_sentence_157 q157 ?_
      refine g_sipush (v := 466) o dX12_sentence_160 (by decide) ?_
      refine g_iload_n 1 o dX12_sentence_163 rfl rfl ?_
      refine g_iadd (x := (466 : Int32)) (y := v2) o dX12_sentence_164 ?_
      refine g_aload_n 0 o dX12_sentence_165 rfl rfl ?_
      obtain ⟨x166, q166, e⟩ := ob e
      refine g_getN 8 o cf12 (by decide) mw_1194 dX12_sentence_166 q166 ?_
      refine g_iload_n 1 o dX12_sentence_169 rfl rfl ?_
      obtain ⟨x170, q170, e⟩ := ob e
      refine g_iald o dX12_sentence_170 q170 ?_
      obtain ⟨h171, q171, e⟩ := ob e
      refine g_iast o dX12_sentence_171 q171 ?_
      refine g_iinc (k := 1) (v := (v2 + 1)) [(2, .int (v2 + 1)), (0, .ref v0)] o dX12_sentence_172 rfl rfl (by decide) rfl ?_
      refine g_goto 146 o dX12_sentence_175 (by decide) ?_
      refine g_sb [1, 0] rfl ?_
      exact ih v0 (v2 + 1) h171 r hz q e
set_option maxRecDepth 100000 in
set_option maxHeartbeats 4000000 in
theorem kX12_sentence_48 {X : Cx} (f0 : Nat) (o : Ok X cX12_sentence RX12 3 rmX12_sentence (some .int)) (f : Nat) (v0 : Nat) (v1 : Int32) (h : Hp) (r : Int32) (hz : Hp) (q : Rt X (some (.int r)) hz 0 0) (e : bX12_sentence_48 f0 f v0 v1 h = some (r, hz)) : G X 3 48 [(0, .ref v0), (1, .int v1)] [] h 0 0 := by
  induction f generalizing v0 v1 h r hz with
  | zero => cases e
  | succ f1 ih =>
    unfold bX12_sentence_48 at e
    refine g_iload_n 1 o dX12_sentence_48 rfl rfl ?_
    refine g_if_eq (x := v1) 132 o dX12_sentence_49 (by decide) (fun u => ?_) (fun u => ?_)
    · rw [if_pos u] at e
      refine g_aload_n 0 o dX12_sentence_132 rfl rfl ?_
      obtain ⟨x133, q133, e⟩ := ob e
      refine g_getN 6 o cf12 (by decide) mw_1192 dX12_sentence_133 q133 ?_
      refine g_sipush (v := 465) o dX12_sentence_136 (by decide) ?_
      refine g_aload_n 0 o dX12_sentence_139 rfl rfl ?_
      obtain ⟨x140, q140, e⟩ := ob e
      refine g_getI 40 o cf12 (by decide) mw_1226 dX12_sentence_140 q140 ?_
      obtain ⟨h143, q143, e⟩ := ob e
      refine g_iast o dX12_sentence_143 q143 ?_
      refine g_iconst (v := 0) o dX12_sentence_144 (by decide) ?_
      refine g_istore_n [(2, .int 0), (0, .ref v0), (1, .int v1)] o dX12_sentence_145 rfl (by decide) rfl ?_
      refine g_sb [1, 0] rfl ?_
      exact kX12_sentence_146 f0 o f0 v0 0 h143 r hz q e
    · rw [if_neg u] at e
      refine g_aload_n 0 o dX12_sentence_52 rfl rfl ?_
      obtain ⟨x53, q53, e⟩ := ob e
      refine g_getI 44 o cf12 (by decide) mw_1230 dX12_sentence_53 q53 ?_
      refine g_if_eq (x := x53) 101 o dX12_sentence_56 (by decide) (fun u => ?_) (fun u => ?_)
      · rw [if_pos u] at e
        exact kX12_sentence_101 f0 (bX12_sentence_48 f0 f1) ih o v0 v1 h r hz q e
      · rw [if_neg u] at e
        refine g_aload_n 0 o dX12_sentence_59 rfl rfl ?_
        obtain ⟨x60, q60, e⟩ := ob e
        refine g_getI 11 o cf12 (by decide) mw_1197 dX12_sentence_60 q60 ?_
        refine g_if_ne (x := x60) 101 o dX12_sentence_63 (by decide) (fun u => ?_) (fun u => ?_)
        · rw [if_neg u] at e
          exact kX12_sentence_101 f0 (bX12_sentence_48 f0 f1) ih o v0 v1 h r hz q e
        · rw [if_pos u] at e
          refine g_aload_n 0 o dX12_sentence_66 rfl rfl ?_
          obtain ⟨_, k67, e⟩ := ob e
          obtain ⟨h67, q67, e⟩ := ob e
          refine g_callV0 [] o (mX12_nots q67) cf12 (ckO_s k67) mw_1635 mw_1636 mw_1786 mw_19 mw_1637 rfl yo_X12_nots rfl rfl (Nat.le_of_ble_eq_true rfl) ⟨by decide, by decide⟩ ⟨rfl, rfl⟩ dX12_sentence_67 ⟨by decide, by decide⟩ ?_
          refine g_aload_n 0 o dX12_sentence_70 rfl rfl ?_
          refine g_bipush (v := 22) o dX12_sentence_71 (by decide) ?_
          obtain ⟨_, k73, e⟩ := ob e
          obtain ⟨h73, q73, e⟩ := ob e
          refine g_callV0 [.int 22] o (mX12_joins q73) cf12 (ckO_s k73) mw_1641 mw_1642 mw_1788 mw_19 mw_1643 rfl yo_X12_joins rfl rfl (Nat.le_of_ble_eq_true rfl) ⟨by decide, by decide⟩ ⟨rfl, rfl⟩ dX12_sentence_73 ⟨by decide, by decide⟩ ?_
          refine g_aload_n 0 o dX12_sentence_76 rfl rfl ?_
          obtain ⟨x77, q77, e⟩ := ob e
          refine g_getI 42 o cf12 (by decide) mw_1228 dX12_sentence_77 q77 ?_
          refine g_if_le (x := x77) 96 o dX12_sentence_80 (by decide) (fun u => ?_) (fun u => ?_)
          · rw [if_pos u] at e
            refine g_iconst (v := 0) o dX12_sentence_96 (by decide) ?_
            refine g_istore_n [(1, .int 0), (0, .ref v0)] o dX12_sentence_97 rfl (by decide) rfl ?_
            refine g_goto 48 o dX12_sentence_98 (by decide) ?_
            refine g_sb [1, 0] rfl ?_
            exact ih v0 0 h73 r hz q e
          · rw [if_neg u] at e
            refine g_aload_n 0 o dX12_sentence_83 rfl rfl ?_
            refine g_iconst (v := 1) o dX12_sentence_84 (by decide) ?_
            obtain ⟨_, k85, e⟩ := ob e
            obtain ⟨x85, h85, q85, e⟩ := ob2_s e
            refine g_callVv [.int 1] o (mX12_bad q85) cf12 (ckO_s k85) mw_1313 mw_1314 mw_1733 mw_19 mw_1315 rfl yo_X12_bad rfl rfl (Nat.le_of_ble_eq_true rfl) ⟨by decide, by decide⟩ ⟨rfl, rfl⟩ dX12_sentence_85 ⟨by decide, by decide⟩ ?_
            refine g_pop o dX12_sentence_88 rfl ?_
            refine g_iconst (v := -1) o dX12_sentence_89 (by decide) ?_
            refine g_aload_n 0 o dX12_sentence_90 rfl rfl ?_
            obtain ⟨x91, q91, e⟩ := ob e
            refine g_getI 16 o cf12 (by decide) mw_1202 dX12_sentence_91 q91 ?_
            refine g_isub (x := ((-1) : Int32)) (y := x91) o dX12_sentence_94 ?_
            exact g_iret o dX12_sentence_95 (rt_v q e)
theorem yo_X12_sentence : yok yX12_sentence 0 := ⟨by decide, by decide, by decide +kernel⟩
set_option maxRecDepth 100000 in
set_option maxHeartbeats 4000000 in
theorem mX12_sentence {l : Launch} {D : va_G} {cy : Nat → ClassId} {f0 : Nat} {a : Nat} {h : Hp} {r : Int32} {hz : Hp} (e : fX12_sentence f0 a h = some (r, hz)) : MC l D cy yX12_sentence cX12_sentence 3 (some .int) rmX12_sentence [.ref a] h (some (.int r)) hz := by
  refine mc_of2 (by decide) (Nat.le_of_ble_eq_true rfl) (fun X hl hD hy hin o q => ?_)
  subst hl; subst hD; subst hy
  show G X 3 0 [(0, .ref a)] [] h 0 0
  unfold fX12_sentence at e
  refine g_aload_n 0 o dX12_sentence_0 rfl rfl ?_
  refine g_iconst (v := 0) o dX12_sentence_1 (by decide) ?_
  obtain ⟨h2, q2, e⟩ := ob e
  refine g_put (ty1 := .int) 0 o cf12 (by decide) mw_1186 rfl (by decide +kernel) rfl rfl dX12_sentence_2 q2 ?_
  refine g_aload_n 0 o dX12_sentence_5 rfl rfl ?_
  refine g_sipush (v := 200) o dX12_sentence_6 (by decide) ?_
  obtain ⟨_, k9, e⟩ := ob e
  obtain ⟨h9, q9, e⟩ := ob e
  refine g_callV0 [.int 200] o (mX12_taken q9) cf12 (ckO_s k9) mw_1289 mw_1290 mw_1727 mw_19 mw_1291 rfl yo_X12_taken rfl rfl (Nat.le_of_ble_eq_true rfl) ⟨by decide, by decide⟩ ⟨rfl, rfl⟩ dX12_sentence_9 ⟨by decide, by decide⟩ ?_
  refine g_aload_n 0 o dX12_sentence_12 rfl rfl ?_
  refine g_iconst (v := 0) o dX12_sentence_13 (by decide) ?_
  obtain ⟨h14, q14, e⟩ := ob e
  refine g_put (ty1 := .int) 15 o cf12 (by decide) mw_1201 rfl (by decide +kernel) rfl rfl dX12_sentence_14 q14 ?_
  refine g_aload_n 0 o dX12_sentence_17 rfl rfl ?_
  refine g_iconst (v := 0) o dX12_sentence_18 (by decide) ?_
  obtain ⟨h19, q19, e⟩ := ob e
  refine g_put (ty1 := .int) 40 o cf12 (by decide) mw_1226 rfl (by decide +kernel) rfl rfl dX12_sentence_19 q19 ?_
  refine g_aload_n 0 o dX12_sentence_22 rfl rfl ?_
  refine g_iconst (v := 0) o dX12_sentence_23 (by decide) ?_
  obtain ⟨h24, q24, e⟩ := ob e
  refine g_put (ty1 := .int) 41 o cf12 (by decide) mw_1227 rfl (by decide +kernel) rfl rfl dX12_sentence_24 q24 ?_
  refine g_aload_n 0 o dX12_sentence_27 rfl rfl ?_
  refine g_iconst (v := 0) o dX12_sentence_28 (by decide) ?_
  obtain ⟨h29, q29, e⟩ := ob e
  refine g_put (ty1 := .int) 42 o cf12 (by decide) mw_1228 rfl (by decide +kernel) rfl rfl dX12_sentence_29 q29 ?_
  refine g_aload_n 0 o dX12_sentence_32 rfl rfl ?_
  refine g_iconst (v := 1) o dX12_sentence_33 (by decide) ?_
  obtain ⟨h34, q34, e⟩ := ob e
  refine g_put (ty1 := .int) 43 o cf12 (by decide) mw_1229 rfl (by decide +kernel) rfl rfl dX12_sentence_34 q34 ?_
  refine g_aload_n 0 o dX12_sentence_37 rfl rfl ?_
  refine g_iconst (v := 0) o dX12_sentence_38 (by decide) ?_
  obtain ⟨h39, q39, e⟩ := ob e
  refine g_put (ty1 := .boolean) 44 o cf12 (by decide) mw_1230 rfl (by decide +kernel) (nar_z (pfZ_s q39).1).1 (nar_z (pfZ_s q39).1).2 dX12_sentence_39 (pfZ_s q39).2 ?_
  refine g_aload_n 0 o dX12_sentence_42 rfl rfl ?_
  obtain ⟨_, k43, e⟩ := ob e
  obtain ⟨h43, q43, e⟩ := ob e
  refine g_callV0 [] o (mX12_next q43) cf12 (ckO_s k43) mw_1292 mw_1293 mw_1728 mw_19 mw_1294 rfl yo_X12_next rfl rfl (Nat.le_of_ble_eq_true rfl) ⟨by decide, by decide⟩ ⟨rfl, rfl⟩ dX12_sentence_43 ⟨by decide, by decide⟩ ?_
  refine g_iconst (v := 1) o dX12_sentence_46 (by decide) ?_
  refine g_istore_n [(1, .int 1), (0, .ref a)] o dX12_sentence_47 rfl (by decide) rfl ?_
  refine g_sb [1, 0] rfl ?_
  exact kX12_sentence_48 f0 o f0 a 1 h43 r hz q e
theorem yo_X12_isSafe : yok yX12_isSafe 1 := ⟨by decide, by decide, by decide +kernel⟩
set_option maxRecDepth 100000 in
set_option maxHeartbeats 4000000 in
theorem mX12_isSafe {l : Launch} {D : va_G} {cy : Nat → ClassId} {f0 : Nat} {a : Nat} {p0 : Int32} {h : Hp} {r : Int32} {hz : Hp} (e : fX12_isSafe f0 a p0 h = some (r, hz)) : MC l D cy yX12_isSafe cX12_isSafe 2 (some .boolean) rmX12_isSafe [.ref a, .int p0] h (some (.int r)) hz := by
  refine mc_of2 (by decide) (Nat.le_of_ble_eq_true rfl) (fun X hl hD hy hin o q => ?_)
  subst hl; subst hD; subst hy
  show G X 2 0 [(0, .ref a), (1, .int p0)] [] h 0 0
  unfold fX12_isSafe at e
  refine g_aload_n 0 o dX12_isSafe_0 rfl rfl ?_
  obtain ⟨_, k1, e⟩ := ob e
  obtain ⟨x1, h1, q1, e⟩ := ob2_s e
  refine g_callVv [] o (mX12_canAct q1) cf12 (ckO_s k1) mw_1416 mw_1417 mw_1756 mw_19 mw_1418 rfl yo_X12_canAct rfl rfl (Nat.le_of_ble_eq_true rfl) ⟨by decide, by decide⟩ ⟨rfl, rfl⟩ dX12_isSafe_1 ⟨by decide, by decide⟩ ?_
  refine g_if_eq (x := x1) 79 o dX12_isSafe_4 (by decide) (fun u => ?_) (fun u => ?_)
  · rw [if_pos u] at e
    refine g_iconst (v := 0) o dX12_isSafe_79 (by decide) ?_
    exact g_zret o dX12_isSafe_80 (zr_s e).1 (rt_v q (zr_s e).2)
  · rw [if_neg u] at e
    refine g_aload_n 0 o dX12_isSafe_7 rfl rfl ?_
    obtain ⟨x8, q8, e⟩ := ob e
    refine g_getN 6 o cf12 (by decide) mw_1192 dX12_isSafe_8 q8 ?_
    refine g_bipush (v := 8) o dX12_isSafe_11 (by decide) ?_
    refine g_aload_n 0 o dX12_isSafe_13 rfl rfl ?_
    obtain ⟨x14, q14, e⟩ := ob e
    refine g_getN 6 o cf12 (by decide) mw_1192 dX12_isSafe_14 q14 ?_
    refine g_sipush (v := 313) o dX12_isSafe_17 (by decide) ?_
    obtain ⟨x20, q20, e⟩ := ob e
    refine g_iald o dX12_isSafe_20 q20 ?_
    refine g_iload_n 1 o dX12_isSafe_21 rfl rfl ?_
    obtain ⟨x22, h22, q22, e⟩ := ob2_s e
    refine g_callSv [.int x20, .int p0] o (mX12_cell q22) mw_1180 mw_1181 mw_19 mw_1182 yo_X12_cell rfl rfl (Nat.le_of_ble_eq_true rfl) ⟨by decide, by decide⟩ ⟨rfl, rfl⟩ dX12_isSafe_22 ⟨by decide, by decide⟩ ?_
    refine g_iadd (x := (8 : Int32)) (y := x22) o dX12_isSafe_25 ?_
    obtain ⟨x26, q26, e⟩ := ob e
    refine g_iald o dX12_isSafe_26 q26 ?_
    refine g_if_le (x := x26) 79 o dX12_isSafe_27 (by decide) (fun u => ?_) (fun u => ?_)
    · rw [if_pos u] at e
      refine g_iconst (v := 0) o dX12_isSafe_79 (by decide) ?_
      exact g_zret o dX12_isSafe_80 (zr_s e).1 (rt_v q (zr_s e).2)
    · rw [if_neg u] at e
      refine g_aload_n 0 o dX12_isSafe_30 rfl rfl ?_
      refine g_iload_n 1 o dX12_isSafe_31 rfl rfl ?_
      refine g_aload_n 0 o dX12_isSafe_32 rfl rfl ?_
      obtain ⟨x33, q33, e⟩ := ob e
      refine g_getN 6 o cf12 (by decide) mw_1192 dX12_isSafe_33 q33 ?_
      refine g_sipush (v := 314) o dX12_isSafe_36 (by decide) ?_
      obtain ⟨x39, q39, e⟩ := ob e
      refine g_iald o dX12_isSafe_39 q39 ?_
      obtain ⟨_, k40, e⟩ := ob e
      obtain ⟨x40, h40, q40, e⟩ := ob2_s e
      refine g_callVv [.int p0, .int x39] o (mX12_knowsFrom q40) cf12 (ckO_s k40) mw_1378 mw_1379 mw_1750 mw_19 mw_1380 rfl yo_X12_knowsFrom rfl rfl (Nat.le_of_ble_eq_true rfl) ⟨by decide, by decide⟩ ⟨rfl, rfl⟩ dX12_isSafe_40 ⟨by decide, by decide⟩ ?_
      refine g_aload_n 0 o dX12_isSafe_43 rfl rfl ?_
      obtain ⟨x44, q44, e⟩ := ob e
      refine g_getN 6 o cf12 (by decide) mw_1192 dX12_isSafe_44 q44 ?_
      refine g_sipush (v := 312) o dX12_isSafe_47 (by decide) ?_
      obtain ⟨x50, q50, e⟩ := ob e
      refine g_iald o dX12_isSafe_50 q50 ?_
      refine g_aload_n 0 o dX12_isSafe_51 rfl rfl ?_
      obtain ⟨x52, q52, e⟩ := ob e
      refine g_getN 6 o cf12 (by decide) mw_1192 dX12_isSafe_52 q52 ?_
      refine g_bipush (v := 8) o dX12_isSafe_55 (by decide) ?_
      refine g_aload_n 0 o dX12_isSafe_57 rfl rfl ?_
      obtain ⟨x58, q58, e⟩ := ob e
      refine g_getN 6 o cf12 (by decide) mw_1192 dX12_isSafe_58 q58 ?_
      refine g_sipush (v := 313) o dX12_isSafe_61 (by decide) ?_
      obtain ⟨x64, q64, e⟩ := ob e
      refine g_iald o dX12_isSafe_64 q64 ?_
      refine g_iload_n 1 o dX12_isSafe_65 rfl rfl ?_
      obtain ⟨x66, h66, q66, e⟩ := ob2_s e
      refine g_callSv [.int x64, .int p0] o (mX12_cell q66) mw_1180 mw_1181 mw_19 mw_1182 yo_X12_cell rfl rfl (Nat.le_of_ble_eq_true rfl) ⟨by decide, by decide⟩ ⟨rfl, rfl⟩ dX12_isSafe_66 ⟨by decide, by decide⟩ ?_
      refine g_iadd (x := (8 : Int32)) (y := x66) o dX12_isSafe_69 ?_
      obtain ⟨x70, q70, e⟩ := ob e
      refine g_iald o dX12_isSafe_70 q70 ?_
      refine g_iadd (x := x50) (y := x70) o dX12_isSafe_71 ?_
      refine g_icmp_le (x := x40) (y := (x50 + x70)) 79 o dX12_isSafe_72 (by decide) (fun u => ?_) (fun u => ?_)
      · rw [if_pos u] at e
        refine g_iconst (v := 0) o dX12_isSafe_79 (by decide) ?_
        exact g_zret o dX12_isSafe_80 (zr_s e).1 (rt_v q (zr_s e).2)
      · rw [if_neg u] at e
        refine g_iconst (v := 1) o dX12_isSafe_75 (by decide) ?_
        refine g_goto 80 o dX12_isSafe_76 (by decide) ?_
        exact g_zret o dX12_isSafe_80 (zr_s e).1 (rt_v q (zr_s e).2)
set_option maxRecDepth 100000 in
set_option maxHeartbeats 4000000 in
theorem kX12_bits_4 {X : Cx} (f0 : Nat) (o : Ok X cX12_bits RX12 3 rmX12_bits (some .int)) (f : Nat) (v1 : Int32) (v2 : Int32) (h : Hp) (r : Int32) (hz : Hp) (q : Rt X (some (.int r)) hz 0 0) (e : bX12_bits_4 f0 f v1 v2 h = some (r, hz)) : G X 3 4 [(1, .int v1), (2, .int v2)] [] h 0 0 := by
  induction f generalizing v1 v2 h r hz with
  | zero => cases e
  | succ f1 ih =>
    unfold bX12_bits_4 at e
    refine g_iload_n 1 o dX12_bits_4 rfl rfl ?_
    refine g_if_eq (x := v2) 20 o dX12_bits_5 (by decide) (fun u => ?_) (fun u => ?_)
    · rw [if_pos u] at e
      refine g_iload_n 0 o dX12_bits_20 rfl rfl ?_
      exact g_iret o dX12_bits_21 (rt_v q e)
    · rw [if_neg u] at e
      refine g_iinc (k := 0) (v := (v1 + 1)) [(1, .int (v1 + 1)), (2, .int v2)] o dX12_bits_8 rfl rfl (by decide) rfl ?_
      refine g_iload_n 1 o dX12_bits_11 rfl rfl ?_
      refine g_iload_n 1 o dX12_bits_12 rfl rfl ?_
      refine g_iconst (v := 1) o dX12_bits_13 (by decide) ?_
      refine g_isub (x := v2) (y := 1) o dX12_bits_14 ?_
      refine g_iand (x := v2) (y := (v2 - 1)) o dX12_bits_15 ?_
      refine g_istore_n [(2, .int (v2 &&& (v2 - 1))), (1, .int (v1 + 1))] o dX12_bits_16 rfl (by decide) rfl ?_
      refine g_goto 4 o dX12_bits_17 (by decide) ?_
      refine g_sb [1, 0] rfl ?_
      exact ih (v1 + 1) (v2 &&& (v2 - 1)) h r hz q e
theorem yo_X12_bits : yok yX12_bits 1 := ⟨by decide, by decide, by decide +kernel⟩
set_option maxRecDepth 100000 in
set_option maxHeartbeats 4000000 in
theorem mX12_bits {l : Launch} {D : va_G} {cy : Nat → ClassId} {f0 : Nat} {p0 : Int32} {h : Hp} {r : Int32} {hz : Hp} (e : fX12_bits f0 p0 h = some (r, hz)) : MC l D cy yX12_bits cX12_bits 3 (some .int) rmX12_bits [.int p0] h (some (.int r)) hz := by
  refine mc_of2 (by decide) (Nat.le_of_ble_eq_true rfl) (fun X hl hD hy hin o q => ?_)
  subst hl; subst hD; subst hy
  show G X 3 0 [(0, .int p0)] [] h 0 0
  unfold fX12_bits at e
  refine g_iconst (v := 0) o dX12_bits_0 (by decide) ?_
  refine g_istore_n [(1, .int 0), (0, .int p0)] o dX12_bits_1 rfl (by decide) rfl ?_
  refine g_iload_n 1 o dX12_bits_2 rfl rfl ?_
  refine g_istore_n [(2, .int p0), (1, .int 0), (0, .int p0)] o dX12_bits_3 rfl (by decide) rfl ?_
  refine g_sb [1, 0] rfl ?_
  exact kX12_bits_4 f0 o f0 0 p0 h r hz q e
set_option maxRecDepth 100000 in
set_option maxHeartbeats 4000000 in
theorem kX12_isLeaf_176 {X : Cx} (f0 : Nat) (o : Ok X cX12_isLeaf RX12 6 rmX12_isLeaf (some .boolean)) (v3 : Int32) (v4 : Int32) (s0 : Int32) (h : Hp) (r : Int32) (hz : Hp) (q : Rt X (some (.int r)) hz 0 0) (e : bX12_isLeaf_176 f0 v3 v4 s0 h = some (r, hz)) : G X 6 176 [(3, .int v3), (4, .int v4)] [.int s0] h 0 0 := by
  unfold bX12_isLeaf_176 at e
  refine g_istore [(5, .int s0), (3, .int v3), (4, .int v4)] o dX12_isLeaf_176 (by decide) rfl ?_
  refine g_iload_n 1 o dX12_isLeaf_178 rfl rfl ?_
  refine g_bipush (v := 60) o dX12_isLeaf_179 (by decide) ?_
  refine g_icmp_ne (x := v3) (y := 60) 199 o dX12_isLeaf_181 (by decide) (fun u => ?_) (fun u => ?_)
  · rw [if_neg u] at e
    refine g_iload_n 1 o dX12_isLeaf_199 rfl rfl ?_
    refine g_bipush (v := 61) o dX12_isLeaf_200 (by decide) ?_
    refine g_icmp_ne (x := v3) (y := 61) 220 o dX12_isLeaf_202 (by decide) (fun u => ?_) (fun u => ?_)
    · rw [if_neg u] at e
      refine g_iload 0 o dX12_isLeaf_220 rfl ?_
      refine g_iload 2 o dX12_isLeaf_222 rfl ?_
      refine g_icmp_le (x := s0) (y := v4) 231 o dX12_isLeaf_224 (by decide) (fun u => ?_) (fun u => ?_)
      · rw [if_pos u] at e
        refine g_iconst (v := 0) o dX12_isLeaf_231 (by decide) ?_
        exact g_zret o dX12_isLeaf_232 (zr_s e).1 (rt_v q (zr_s e).2)
      · rw [if_neg u] at e
        refine g_iconst (v := 1) o dX12_isLeaf_227 (by decide) ?_
        refine g_goto 232 o dX12_isLeaf_228 (by decide) ?_
        exact g_zret o dX12_isLeaf_232 (zr_s e).1 (rt_v q (zr_s e).2)
    · rw [if_pos u] at e
      refine g_iload 0 o dX12_isLeaf_205 rfl ?_
      refine g_iload 2 o dX12_isLeaf_207 rfl ?_
      refine g_icmp_ne (x := s0) (y := v4) 216 o dX12_isLeaf_209 (by decide) (fun u => ?_) (fun u => ?_)
      · rw [if_neg u] at e
        refine g_iconst (v := 0) o dX12_isLeaf_216 (by decide) ?_
        refine g_goto 232 o dX12_isLeaf_217 (by decide) ?_
        exact g_zret o dX12_isLeaf_232 (zr_s e).1 (rt_v q (zr_s e).2)
      · rw [if_pos u] at e
        refine g_iconst (v := 1) o dX12_isLeaf_212 (by decide) ?_
        refine g_goto 232 o dX12_isLeaf_213 (by decide) ?_
        exact g_zret o dX12_isLeaf_232 (zr_s e).1 (rt_v q (zr_s e).2)
  · rw [if_pos u] at e
    refine g_iload 0 o dX12_isLeaf_184 rfl ?_
    refine g_iload 2 o dX12_isLeaf_186 rfl ?_
    refine g_icmp_ge (x := s0) (y := v4) 195 o dX12_isLeaf_188 (by decide) (fun u => ?_) (fun u => ?_)
    · rw [if_pos u] at e
      refine g_iconst (v := 0) o dX12_isLeaf_195 (by decide) ?_
      refine g_goto 232 o dX12_isLeaf_196 (by decide) ?_
      exact g_zret o dX12_isLeaf_232 (zr_s e).1 (rt_v q (zr_s e).2)
    · rw [if_neg u] at e
      refine g_iconst (v := 1) o dX12_isLeaf_191 (by decide) ?_
      refine g_goto 232 o dX12_isLeaf_192 (by decide) ?_
      exact g_zret o dX12_isLeaf_232 (zr_s e).1 (rt_v q (zr_s e).2)
theorem yo_X12_isLeaf : yok yX12_isLeaf 4 := ⟨by decide, by decide, by decide +kernel⟩
set_option maxRecDepth 100000 in
set_option maxHeartbeats 4000000 in
theorem mX12_isLeaf {l : Launch} {D : va_G} {cy : Nat → ClassId} {f0 : Nat} {a : Nat} {p0 : Int32} {p1 : Int32} {p2 : Int32} {p3 : Int32} {h : Hp} {r : Int32} {hz : Hp} (e : fX12_isLeaf f0 a p0 p1 p2 p3 h = some (r, hz)) : MC l D cy yX12_isLeaf cX12_isLeaf 6 (some .boolean) rmX12_isLeaf [.ref a, .int p0, .int p1, .int p2, .int p3] h (some (.int r)) hz := by
  refine mc_of2 (by decide) (Nat.le_of_ble_eq_true rfl) (fun X hl hD hy hin o q => ?_)
  subst hl; subst hD; subst hy
  show G X 6 0 [(0, .ref a), (1, .int p0), (2, .int p1), (3, .int p2), (4, .int p3)] [] h 0 0
  unfold fX12_isLeaf at e
  refine g_iload_n 2 o dX12_isLeaf_0 rfl rfl ?_
  by_cases u0 : p1 = 0
  · rw [if_pos u0] at e
    refine g_tabAt (x := p1) 0 36 o dX12_isLeaf_1 u0 (by decide) (by decide) (by decide) (by decide) ?_
    refine g_aload_n 0 o dX12_isLeaf_36 rfl rfl ?_
    obtain ⟨_, k37, e⟩ := ob e
    obtain ⟨x37, h37, q37, e⟩ := ob2_s e
    refine g_callVv [] o (mX12_isSea q37) cf12 (ckO_s k37) mw_1173 mw_1174 mw_1725 mw_19 mw_1175 rfl yo_X12_isSea rfl rfl (Nat.le_of_ble_eq_true rfl) ⟨by decide, by decide⟩ ⟨rfl, rfl⟩ dX12_isLeaf_37 ⟨by decide, by decide⟩ ?_
    refine g_if_eq (x := x37) 59 o dX12_isLeaf_40 (by decide) (fun u => ?_) (fun u => ?_)
    · rw [if_pos u] at e
      refine g_iconst (v := 0) o dX12_isLeaf_59 (by decide) ?_
      exact g_zret o dX12_isLeaf_60 (zr_s e).1 (rt_v q (zr_s e).2)
    · rw [if_neg u] at e
      refine g_aload_n 0 o dX12_isLeaf_43 rfl rfl ?_
      obtain ⟨x44, q44, e⟩ := ob e
      refine g_getN 6 o cf12 (by decide) mw_1192 dX12_isLeaf_44 q44 ?_
      refine g_sipush (v := 313) o dX12_isLeaf_47 (by decide) ?_
      obtain ⟨x50, q50, e⟩ := ob e
      refine g_iald o dX12_isLeaf_50 q50 ?_
      refine g_iload_n 1 o dX12_isLeaf_51 rfl rfl ?_
      refine g_icmp_ne (x := x50) (y := p0) 59 o dX12_isLeaf_52 (by decide) (fun u => ?_) (fun u => ?_)
      · rw [if_neg u] at e
        refine g_iconst (v := 0) o dX12_isLeaf_59 (by decide) ?_
        exact g_zret o dX12_isLeaf_60 (zr_s e).1 (rt_v q (zr_s e).2)
      · rw [if_pos u] at e
        refine g_iconst (v := 1) o dX12_isLeaf_55 (by decide) ?_
        refine g_goto 60 o dX12_isLeaf_56 (by decide) ?_
        exact g_zret o dX12_isLeaf_60 (zr_s e).1 (rt_v q (zr_s e).2)
  rw [if_neg u0] at e
  by_cases u1 : p1 = 1
  · rw [if_pos u1] at e
    refine g_tabAt (x := p1) 1 61 o dX12_isLeaf_1 u1 (by decide) (by decide) (by decide) (by decide) ?_
    refine g_aload_n 0 o dX12_isLeaf_61 rfl rfl ?_
    obtain ⟨x62, q62, e⟩ := ob e
    refine g_getN 6 o cf12 (by decide) mw_1192 dX12_isLeaf_62 q62 ?_
    refine g_sipush (v := 464) o dX12_isLeaf_65 (by decide) ?_
    obtain ⟨x68, q68, e⟩ := ob e
    refine g_iald o dX12_isLeaf_68 q68 ?_
    refine g_iload_n 1 o dX12_isLeaf_69 rfl rfl ?_
    obtain ⟨x70, h70, q70, e⟩ := ob2_s e
    refine g_callSv [.int x68, .int p0] o (mX12_bitOf q70) mw_1352 mw_1353 mw_19 mw_1354 yo_X12_bitOf rfl rfl (Nat.le_of_ble_eq_true rfl) ⟨by decide, by decide⟩ ⟨rfl, rfl⟩ dX12_isLeaf_70 ⟨by decide, by decide⟩ ?_
    exact g_zret o dX12_isLeaf_73 (zr_s e).1 (rt_v q (zr_s e).2)
  rw [if_neg u1] at e
  by_cases u2 : p1 = 2
  · rw [if_pos u2] at e
    refine g_tabAt (x := p1) 2 74 o dX12_isLeaf_1 u2 (by decide) (by decide) (by decide) (by decide) ?_
    refine g_aload_n 0 o dX12_isLeaf_74 rfl rfl ?_
    refine g_iload_n 1 o dX12_isLeaf_75 rfl rfl ?_
    obtain ⟨_, k76, e⟩ := ob e
    obtain ⟨x76, h76, q76, e⟩ := ob2_s e
    refine g_callVv [.int p0] o (mX12_isSafe q76) cf12 (ckO_s k76) mw_1663 mw_1664 mw_1794 mw_19 mw_1665 rfl yo_X12_isSafe rfl rfl (Nat.le_of_ble_eq_true rfl) ⟨by decide, by decide⟩ ⟨rfl, rfl⟩ dX12_isLeaf_76 ⟨by decide, by decide⟩ ?_
    exact g_zret o dX12_isLeaf_79 (zr_s e).1 (rt_v q (zr_s e).2)
  rw [if_neg u2] at e
  by_cases u3 : p1 = 3
  · rw [if_pos u3] at e
    refine g_tabAt (x := p1) 3 80 o dX12_isLeaf_1 u3 (by decide) (by decide) (by decide) (by decide) ?_
    refine g_aload_n 0 o dX12_isLeaf_80 rfl rfl ?_
    refine g_iload_n 1 o dX12_isLeaf_81 rfl rfl ?_
    refine g_iload 4 o dX12_isLeaf_82 rfl ?_
    obtain ⟨_, k84, e⟩ := ob e
    obtain ⟨x84, h84, q84, e⟩ := ob2_s e
    refine g_callVv [.int p0, .int p3] o (mX12_knowsFrom q84) cf12 (ckO_s k84) mw_1378 mw_1379 mw_1750 mw_19 mw_1380 rfl yo_X12_knowsFrom rfl rfl (Nat.le_of_ble_eq_true rfl) ⟨by decide, by decide⟩ ⟨rfl, rfl⟩ dX12_isLeaf_84 ⟨by decide, by decide⟩ ?_
    refine g_aload_n 0 o dX12_isLeaf_87 rfl rfl ?_
    obtain ⟨x88, q88, e⟩ := ob e
    refine g_getN 6 o cf12 (by decide) mw_1192 dX12_isLeaf_88 q88 ?_
    refine g_sipush (v := 312) o dX12_isLeaf_91 (by decide) ?_
    obtain ⟨x94, q94, e⟩ := ob e
    refine g_iald o dX12_isLeaf_94 q94 ?_
    refine g_icmp_gt (x := x84) (y := x94) 102 o dX12_isLeaf_95 (by decide) (fun u => ?_) (fun u => ?_)
    · rw [if_pos u] at e
      refine g_iconst (v := 0) o dX12_isLeaf_102 (by decide) ?_
      exact g_zret o dX12_isLeaf_103 (zr_s e).1 (rt_v q (zr_s e).2)
    · rw [if_neg u] at e
      refine g_iconst (v := 1) o dX12_isLeaf_98 (by decide) ?_
      refine g_goto 103 o dX12_isLeaf_99 (by decide) ?_
      exact g_zret o dX12_isLeaf_103 (zr_s e).1 (rt_v q (zr_s e).2)
  rw [if_neg u3] at e
  by_cases u4 : p1 = 4
  · rw [if_pos u4] at e
    refine g_tabAt (x := p1) 4 104 o dX12_isLeaf_1 u4 (by decide) (by decide) (by decide) (by decide) ?_
    refine g_aload_n 0 o dX12_isLeaf_104 rfl rfl ?_
    refine g_iload 4 o dX12_isLeaf_105 rfl ?_
    refine g_iload_n 1 o dX12_isLeaf_107 rfl rfl ?_
    obtain ⟨_, k108, e⟩ := ob e
    obtain ⟨x108, h108, q108, e⟩ := ob2_s e
    refine g_callVv [.int p3, .int p0] o (mX12_doesHear q108) cf12 (ckO_s k108) mw_1500 mw_1501 mw_1772 mw_19 mw_1502 rfl yo_X12_doesHear rfl rfl (Nat.le_of_ble_eq_true rfl) ⟨by decide, by decide⟩ ⟨rfl, rfl⟩ dX12_isLeaf_108 ⟨by decide, by decide⟩ ?_
    exact g_zret o dX12_isLeaf_111 (zr_s e).1 (rt_v q (zr_s e).2)
  rw [if_neg u4] at e
  refine g_tabOut (x := p1) 112 o dX12_isLeaf_1 (by have n0 := tb_ne 0 0 (by decide) u0; have n1 := tb_ne 1 1 (by decide) u1; have n2 := tb_ne 2 2 (by decide) u2; have n3 := tb_ne 3 3 (by decide) u3; have n4 := tb_ne 4 4 (by decide) u4; omega) (by decide) ?_
  refine g_iload_n 2 o dX12_isLeaf_112 rfl rfl ?_
  refine g_iconst (v := 5) o dX12_isLeaf_113 (by decide) ?_
  refine g_icmp_ne (x := p1) (y := 5) 150 o dX12_isLeaf_114 (by decide) (fun u => ?_) (fun u => ?_)
  · rw [if_neg u] at e
    refine g_iload_n 2 o dX12_isLeaf_150 rfl rfl ?_
    refine g_bipush (v := 6) o dX12_isLeaf_151 (by decide) ?_
    refine g_icmp_ne (x := p1) (y := 6) 175 o dX12_isLeaf_153 (by decide) (fun u => ?_) (fun u => ?_)
    · rw [if_neg u] at e
      refine g_iload_n 1 o dX12_isLeaf_175 rfl rfl ?_
      refine g_sb [3, 4] rfl ?_
      exact kX12_isLeaf_176 f0 o p2 p3 p0 h r hz q e
    · rw [if_pos u] at e
      refine g_aload_n 0 o dX12_isLeaf_156 rfl rfl ?_
      refine g_iload_n 1 o dX12_isLeaf_157 rfl rfl ?_
      refine g_aload_n 0 o dX12_isLeaf_158 rfl rfl ?_
      obtain ⟨x159, q159, e⟩ := ob e
      refine g_getN 6 o cf12 (by decide) mw_1192 dX12_isLeaf_159 q159 ?_
      refine g_sipush (v := 312) o dX12_isLeaf_162 (by decide) ?_
      obtain ⟨x165, q165, e⟩ := ob e
      refine g_iald o dX12_isLeaf_165 q165 ?_
      obtain ⟨_, k166, e⟩ := ob e
      obtain ⟨x166, h166, q166, e⟩ := ob2_s e
      refine g_callVv [.int p0, .int x165] o (mX12_knownAt q166) cf12 (ckO_s k166) mw_1375 mw_1376 mw_1749 mw_19 mw_1377 rfl yo_X12_knownAt rfl rfl (Nat.le_of_ble_eq_true rfl) ⟨by decide, by decide⟩ ⟨rfl, rfl⟩ dX12_isLeaf_166 ⟨by decide, by decide⟩ ?_
      obtain ⟨x169, h169, q169, e⟩ := ob2_s e
      refine g_callSv [.int x166] o (mX12_bits q169) mw_1666 mw_1667 mw_19 mw_1668 yo_X12_bits rfl rfl (Nat.le_of_ble_eq_true rfl) ⟨by decide, by decide⟩ ⟨rfl, rfl⟩ dX12_isLeaf_169 ⟨by decide, by decide⟩ ?_
      refine g_goto 176 o dX12_isLeaf_172 (by decide) ?_
      refine g_sb [3, 4] rfl ?_
      exact kX12_isLeaf_176 f0 o p2 p3 x169 h169 r hz q e
  · rw [if_pos u] at e
    refine g_aload_n 0 o dX12_isLeaf_117 rfl rfl ?_
    obtain ⟨_, k118, e⟩ := ob e
    obtain ⟨x118, h118, q118, e⟩ := ob2_s e
    refine g_callVv [] o (mX12_isSea q118) cf12 (ckO_s k118) mw_1173 mw_1174 mw_1725 mw_19 mw_1175 rfl yo_X12_isSea rfl rfl (Nat.le_of_ble_eq_true rfl) ⟨by decide, by decide⟩ ⟨rfl, rfl⟩ dX12_isLeaf_118 ⟨by decide, by decide⟩ ?_
    refine g_if_eq (x := x118) 144 o dX12_isLeaf_121 (by decide) (fun u => ?_) (fun u => ?_)
    · rw [if_pos u] at e
      refine g_ldc_w (v := 1000000) o dX12_isLeaf_144 mw_1179 ?_
      refine g_goto 176 o dX12_isLeaf_147 (by decide) ?_
      refine g_sb [3, 4] rfl ?_
      exact kX12_isLeaf_176 f0 o p2 p3 1000000 h118 r hz q e
    · rw [if_neg u] at e
      refine g_aload_n 0 o dX12_isLeaf_124 rfl rfl ?_
      obtain ⟨x125, q125, e⟩ := ob e
      refine g_getN 21 o cf12 (by decide) mw_1207 dX12_isLeaf_125 q125 ?_
      refine g_aload_n 0 o dX12_isLeaf_128 rfl rfl ?_
      obtain ⟨x129, q129, e⟩ := ob e
      refine g_getN 6 o cf12 (by decide) mw_1192 dX12_isLeaf_129 q129 ?_
      refine g_sipush (v := 313) o dX12_isLeaf_132 (by decide) ?_
      obtain ⟨x135, q135, e⟩ := ob e
      refine g_iald o dX12_isLeaf_135 q135 ?_
      refine g_iload_n 1 o dX12_isLeaf_136 rfl rfl ?_
      obtain ⟨x137, h137, q137, e⟩ := ob2_s e
      refine g_callSv [.int x135, .int p0] o (mX12_cell q137) mw_1180 mw_1181 mw_19 mw_1182 yo_X12_cell rfl rfl (Nat.le_of_ble_eq_true rfl) ⟨by decide, by decide⟩ ⟨rfl, rfl⟩ dX12_isLeaf_137 ⟨by decide, by decide⟩ ?_
      obtain ⟨x140, q140, e⟩ := ob e
      refine g_iald o dX12_isLeaf_140 q140 ?_
      refine g_goto 176 o dX12_isLeaf_141 (by decide) ?_
      refine g_sb [3, 4] rfl ?_
      exact kX12_isLeaf_176 f0 o p2 p3 x140 h137 r hz q e
set_option maxRecDepth 100000 in
set_option maxHeartbeats 4000000 in
theorem kX12_isSaid_206 {X : Cx} (f0 : Nat) (g4 : Nat → Int32 → Int32 → Int32 → Hp → Option (Int32 × Hp)) (i4 : ∀ (v02 : Nat) (v12 : Int32) (v22 : Int32) (v32 : Int32) (h2 : Hp) (r : Int32) (hz : Hp), Rt X (some (.int r)) hz 0 0 → g4 v02 v12 v22 v32 h2 = some (r, hz) → G X 5 4 [(0, .ref v02), (1, .int v12), (2, .int v22), (3, .int v32)] [] h2 0 0) (o : Ok X cX12_isSaid RX12 5 rmX12_isSaid (some .boolean)) (v0 : Nat) (v1 : Int32) (v2 : Int32) (v3 : Int32) (h : Hp) (r : Int32) (hz : Hp) (q : Rt X (some (.int r)) hz 0 0) (e : bX12_isSaid_206 f0 g4 v0 v1 v2 v3 h = some (r, hz)) : G X 5 206 [(0, .ref v0), (1, .int v1), (2, .int v2), (3, .int v3)] [] h 0 0 := by
  unfold bX12_isSaid_206 at e
  refine g_iinc (k := 3) (v := (v3 + 1)) [(3, .int (v3 + 1)), (0, .ref v0), (1, .int v1), (2, .int v2)] o dX12_isSaid_206 rfl rfl (by decide) rfl ?_
  refine g_goto 4 o dX12_isSaid_209 (by decide) ?_
  refine g_sb [1, 2, 3, 0] rfl ?_
  exact i4 v0 v1 v2 (v3 + 1) h r hz q e
set_option maxRecDepth 100000 in
set_option maxHeartbeats 4000000 in
theorem kX12_isSaid_60 {X : Cx} (f0 : Nat) (g4 : Nat → Int32 → Int32 → Int32 → Hp → Option (Int32 × Hp)) (i4 : ∀ (v02 : Nat) (v12 : Int32) (v22 : Int32) (v32 : Int32) (h2 : Hp) (r : Int32) (hz : Hp), Rt X (some (.int r)) hz 0 0 → g4 v02 v12 v22 v32 h2 = some (r, hz) → G X 5 4 [(0, .ref v02), (1, .int v12), (2, .int v22), (3, .int v32)] [] h2 0 0) (o : Ok X cX12_isSaid RX12 5 rmX12_isSaid (some .boolean)) (v0 : Nat) (v1 : Int32) (v2 : Int32) (v3 : Int32) (s0 : Nat) (s1 : Int32) (s2 : Int32) (h : Hp) (r : Int32) (hz : Hp) (q : Rt X (some (.int r)) hz 0 0) (e : bX12_isSaid_60 f0 g4 v0 v1 v2 v3 s0 s1 s2 h = some (r, hz)) : G X 5 60 [(0, .ref v0), (1, .int v1), (2, .int v2), (3, .int v3)] [.int s2, .int s1, .ref s0] h 0 0 := by
  unfold bX12_isSaid_60 at e
  obtain ⟨h60, q60, e⟩ := ob e
  refine g_zast o dX12_isSaid_60 q60 ?_
  refine g_goto 206 o dX12_isSaid_61 (by decide) ?_
  exact kX12_isSaid_206 f0 g4 i4 o v0 v1 v2 v3 h60 r hz q e
set_option maxRecDepth 100000 in
set_option maxHeartbeats 4000000 in
theorem kX12_isSaid_163 {X : Cx} (f0 : Nat) (g4 : Nat → Int32 → Int32 → Int32 → Hp → Option (Int32 × Hp)) (i4 : ∀ (v02 : Nat) (v12 : Int32) (v22 : Int32) (v32 : Int32) (h2 : Hp) (r : Int32) (hz : Hp), Rt X (some (.int r)) hz 0 0 → g4 v02 v12 v22 v32 h2 = some (r, hz) → G X 5 4 [(0, .ref v02), (1, .int v12), (2, .int v22), (3, .int v32)] [] h2 0 0) (o : Ok X cX12_isSaid RX12 5 rmX12_isSaid (some .boolean)) (v0 : Nat) (v1 : Int32) (v2 : Int32) (v3 : Int32) (s0 : Nat) (s1 : Int32) (s2 : Int32) (h : Hp) (r : Int32) (hz : Hp) (q : Rt X (some (.int r)) hz 0 0) (e : bX12_isSaid_163 f0 g4 v0 v1 v2 v3 s0 s1 s2 h = some (r, hz)) : G X 5 163 [(0, .ref v0), (1, .int v1), (2, .int v2), (3, .int v3)] [.int s2, .int s1, .ref s0] h 0 0 := by
  unfold bX12_isSaid_163 at e
  obtain ⟨h163, q163, e⟩ := ob e
  refine g_zast o dX12_isSaid_163 q163 ?_
  refine g_goto 206 o dX12_isSaid_164 (by decide) ?_
  exact kX12_isSaid_206 f0 g4 i4 o v0 v1 v2 v3 h163 r hz q e
set_option maxRecDepth 100000 in
set_option maxHeartbeats 4000000 in
theorem kX12_isSaid_134 {X : Cx} (f0 : Nat) (g4 : Nat → Int32 → Int32 → Int32 → Hp → Option (Int32 × Hp)) (i4 : ∀ (v02 : Nat) (v12 : Int32) (v22 : Int32) (v32 : Int32) (h2 : Hp) (r : Int32) (hz : Hp), Rt X (some (.int r)) hz 0 0 → g4 v02 v12 v22 v32 h2 = some (r, hz) → G X 5 4 [(0, .ref v02), (1, .int v12), (2, .int v22), (3, .int v32)] [] h2 0 0) (o : Ok X cX12_isSaid RX12 5 rmX12_isSaid (some .boolean)) (v0 : Nat) (v1 : Int32) (v2 : Int32) (v3 : Int32) (s0 : Nat) (s1 : Int32) (h : Hp) (r : Int32) (hz : Hp) (q : Rt X (some (.int r)) hz 0 0) (e : bX12_isSaid_134 f0 g4 v0 v1 v2 v3 s0 s1 h = some (r, hz)) : G X 5 134 [(0, .ref v0), (1, .int v1), (2, .int v2), (3, .int v3)] [.int s1, .ref s0] h 0 0 := by
  unfold bX12_isSaid_134 at e
  refine g_iconst (v := 0) o dX12_isSaid_134 (by decide) ?_
  refine g_goto 163 o dX12_isSaid_135 (by decide) ?_
  exact kX12_isSaid_163 f0 g4 i4 o v0 v1 v2 v3 s0 s1 0 h r hz q e
set_option maxRecDepth 100000 in
set_option maxHeartbeats 4000000 in
theorem kX12_isSaid_158 {X : Cx} (f0 : Nat) (g4 : Nat → Int32 → Int32 → Int32 → Hp → Option (Int32 × Hp)) (i4 : ∀ (v02 : Nat) (v12 : Int32) (v22 : Int32) (v32 : Int32) (h2 : Hp) (r : Int32) (hz : Hp), Rt X (some (.int r)) hz 0 0 → g4 v02 v12 v22 v32 h2 = some (r, hz) → G X 5 4 [(0, .ref v02), (1, .int v12), (2, .int v22), (3, .int v32)] [] h2 0 0) (o : Ok X cX12_isSaid RX12 5 rmX12_isSaid (some .boolean)) (v0 : Nat) (v1 : Int32) (v2 : Int32) (v3 : Int32) (s0 : Nat) (s1 : Int32) (h : Hp) (r : Int32) (hz : Hp) (q : Rt X (some (.int r)) hz 0 0) (e : bX12_isSaid_158 f0 g4 v0 v1 v2 v3 s0 s1 h = some (r, hz)) : G X 5 158 [(0, .ref v0), (1, .int v1), (2, .int v2), (3, .int v3)] [.int s1, .ref s0] h 0 0 := by
  unfold bX12_isSaid_158 at e
  refine g_iconst (v := 1) o dX12_isSaid_158 (by decide) ?_
  refine g_goto 163 o dX12_isSaid_159 (by decide) ?_
  exact kX12_isSaid_163 f0 g4 i4 o v0 v1 v2 v3 s0 s1 1 h r hz q e
set_option maxRecDepth 100000 in
set_option maxHeartbeats 4000000 in
theorem kX12_isSaid_88 {X : Cx} (f0 : Nat) (g4 : Nat → Int32 → Int32 → Int32 → Hp → Option (Int32 × Hp)) (i4 : ∀ (v02 : Nat) (v12 : Int32) (v22 : Int32) (v32 : Int32) (h2 : Hp) (r : Int32) (hz : Hp), Rt X (some (.int r)) hz 0 0 → g4 v02 v12 v22 v32 h2 = some (r, hz) → G X 5 4 [(0, .ref v02), (1, .int v12), (2, .int v22), (3, .int v32)] [] h2 0 0) (o : Ok X cX12_isSaid RX12 5 rmX12_isSaid (some .boolean)) (v0 : Nat) (v1 : Int32) (v2 : Int32) (v3 : Int32) (v4 : Int32) (h : Hp) (r : Int32) (hz : Hp) (q : Rt X (some (.int r)) hz 0 0) (e : bX12_isSaid_88 f0 g4 v0 v1 v2 v3 v4 h = some (r, hz)) : G X 5 88 [(0, .ref v0), (1, .int v1), (2, .int v2), (3, .int v3), (4, .int v4)] [] h 0 0 := by
  unfold bX12_isSaid_88 at e
  refine g_iinc (k := 2) (v := (v2 + (-1))) [(2, .int (v2 + (-1))), (0, .ref v0), (1, .int v1), (3, .int v3), (4, .int v4)] o dX12_isSaid_88 rfl rfl (by decide) rfl ?_
  refine g_aload_n 1 o dX12_isSaid_91 rfl rfl ?_
  obtain ⟨x92, q92, e⟩ := ob e
  refine g_getN 45 o cf12 (by decide) mw_1231 dX12_isSaid_92 q92 ?_
  refine g_iload_n 0 o dX12_isSaid_95 rfl rfl ?_
  refine g_iconst (v := 1) o dX12_isSaid_96 (by decide) ?_
  refine g_isub (x := (v2 + (-1))) (y := 1) o dX12_isSaid_97 ?_
  refine g_aload_n 1 o dX12_isSaid_98 rfl rfl ?_
  obtain ⟨x99, q99, e⟩ := ob e
  refine g_getN 6 o cf12 (by decide) mw_1192 dX12_isSaid_99 q99 ?_
  refine g_iload 4 o dX12_isSaid_102 rfl ?_
  obtain ⟨x104, q104, e⟩ := ob e
  refine g_iald o dX12_isSaid_104 q104 ?_
  refine g_bipush (v := 21) o dX12_isSaid_105 (by decide) ?_
  refine g_icmp_ne (x := x104) (y := 21) 138 o dX12_isSaid_107 (by decide) (fun u => ?_) (fun u => ?_)
  · rw [if_neg u] at e
    refine g_aload_n 1 o dX12_isSaid_138 rfl rfl ?_
    obtain ⟨x139, q139, e⟩ := ob e
    refine g_getN 45 o cf12 (by decide) mw_1231 dX12_isSaid_139 q139 ?_
    refine g_iload_n 0 o dX12_isSaid_142 rfl rfl ?_
    refine g_iconst (v := 1) o dX12_isSaid_143 (by decide) ?_
    refine g_isub (x := (v2 + (-1))) (y := 1) o dX12_isSaid_144 ?_
    obtain ⟨x145, q145, e⟩ := ob e
    refine g_zald o dX12_isSaid_145 q145 ?_
    refine g_if_ne (x := x145) 158 o dX12_isSaid_146 (by decide) (fun u => ?_) (fun u => ?_)
    · rw [if_neg u] at e
      refine g_sb [1, 2, 0, 3] rfl ?_
      exact kX12_isSaid_158 f0 g4 i4 o v0 v1 (v2 + (-1)) v3 x92 ((v2 + (-1)) - 1) h r hz q e
    · rw [if_pos u] at e
      refine g_aload_n 1 o dX12_isSaid_149 rfl rfl ?_
      obtain ⟨x150, q150, e⟩ := ob e
      refine g_getN 45 o cf12 (by decide) mw_1231 dX12_isSaid_150 q150 ?_
      refine g_iload_n 0 o dX12_isSaid_153 rfl rfl ?_
      obtain ⟨x154, q154, e⟩ := ob e
      refine g_zald o dX12_isSaid_154 q154 ?_
      refine g_if_eq (x := x154) 162 o dX12_isSaid_155 (by decide) (fun u => ?_) (fun u => ?_)
      · rw [if_pos u] at e
        refine g_iconst (v := 0) o dX12_isSaid_162 (by decide) ?_
        refine g_sb [1, 2, 0, 3] rfl ?_
        exact kX12_isSaid_163 f0 g4 i4 o v0 v1 (v2 + (-1)) v3 x92 ((v2 + (-1)) - 1) 0 h r hz q e
      · rw [if_neg u] at e
        refine g_sb [1, 2, 0, 3] rfl ?_
        exact kX12_isSaid_158 f0 g4 i4 o v0 v1 (v2 + (-1)) v3 x92 ((v2 + (-1)) - 1) h r hz q e
  · rw [if_pos u] at e
    refine g_aload_n 1 o dX12_isSaid_110 rfl rfl ?_
    obtain ⟨x111, q111, e⟩ := ob e
    refine g_getN 45 o cf12 (by decide) mw_1231 dX12_isSaid_111 q111 ?_
    refine g_iload_n 0 o dX12_isSaid_114 rfl rfl ?_
    refine g_iconst (v := 1) o dX12_isSaid_115 (by decide) ?_
    refine g_isub (x := (v2 + (-1))) (y := 1) o dX12_isSaid_116 ?_
    obtain ⟨x117, q117, e⟩ := ob e
    refine g_zald o dX12_isSaid_117 q117 ?_
    refine g_if_eq (x := x117) 134 o dX12_isSaid_118 (by decide) (fun u => ?_) (fun u => ?_)
    · rw [if_pos u] at e
      refine g_sb [1, 2, 0, 3] rfl ?_
      exact kX12_isSaid_134 f0 g4 i4 o v0 v1 (v2 + (-1)) v3 x92 ((v2 + (-1)) - 1) h r hz q e
    · rw [if_neg u] at e
      refine g_aload_n 1 o dX12_isSaid_121 rfl rfl ?_
      obtain ⟨x122, q122, e⟩ := ob e
      refine g_getN 45 o cf12 (by decide) mw_1231 dX12_isSaid_122 q122 ?_
      refine g_iload_n 0 o dX12_isSaid_125 rfl rfl ?_
      obtain ⟨x126, q126, e⟩ := ob e
      refine g_zald o dX12_isSaid_126 q126 ?_
      refine g_if_eq (x := x126) 134 o dX12_isSaid_127 (by decide) (fun u => ?_) (fun u => ?_)
      · rw [if_pos u] at e
        refine g_sb [1, 2, 0, 3] rfl ?_
        exact kX12_isSaid_134 f0 g4 i4 o v0 v1 (v2 + (-1)) v3 x92 ((v2 + (-1)) - 1) h r hz q e
      · rw [if_neg u] at e
        refine g_iconst (v := 1) o dX12_isSaid_130 (by decide) ?_
        refine g_goto 163 o dX12_isSaid_131 (by decide) ?_
        refine g_sb [1, 2, 0, 3] rfl ?_
        exact kX12_isSaid_163 f0 g4 i4 o v0 v1 (v2 + (-1)) v3 x92 ((v2 + (-1)) - 1) 1 h r hz q e
set_option maxRecDepth 100000 in
set_option maxHeartbeats 4000000 in
theorem kX12_isSaid_4 {X : Cx} (f0 : Nat) (o : Ok X cX12_isSaid RX12 5 rmX12_isSaid (some .boolean)) (f : Nat) (v0 : Nat) (v1 : Int32) (v2 : Int32) (v3 : Int32) (h : Hp) (r : Int32) (hz : Hp) (q : Rt X (some (.int r)) hz 0 0) (e : bX12_isSaid_4 f0 f v0 v1 v2 v3 h = some (r, hz)) : G X 5 4 [(0, .ref v0), (1, .int v1), (2, .int v2), (3, .int v3)] [] h 0 0 := by
  induction f generalizing v0 v1 v2 v3 h r hz with
  | zero => cases e
  | succ f1 ih =>
    unfold bX12_isSaid_4 at e
    refine g_iload_n 3 o dX12_isSaid_4 rfl rfl ?_
    refine g_aload_n 0 o dX12_isSaid_5 rfl rfl ?_
    obtain ⟨x6, q6, e⟩ := ob e
    refine g_getN 6 o cf12 (by decide) mw_1192 dX12_isSaid_6 q6 ?_
    refine g_sipush (v := 465) o dX12_isSaid_9 (by decide) ?_
    obtain ⟨x12, q12, e⟩ := ob e
    refine g_iald o dX12_isSaid_12 q12 ?_
    refine g_icmp_ge (x := v3) (y := x12) 212 o dX12_isSaid_13 (by decide) (fun u => ?_) (fun u => ?_)
    · rw [if_pos u] at e
      refine g_aload_n 0 o dX12_isSaid_212 rfl rfl ?_
      obtain ⟨x213, q213, e⟩ := ob e
      refine g_getN 45 o cf12 (by decide) mw_1231 dX12_isSaid_213 q213 ?_
      refine g_iconst (v := 0) o dX12_isSaid_216 (by decide) ?_
      obtain ⟨x217, q217, e⟩ := ob e
      refine g_zald o dX12_isSaid_217 q217 ?_
      exact g_zret o dX12_isSaid_218 (zr_s e).1 (rt_v q (zr_s e).2)
    · rw [if_neg u] at e
      refine g_sipush (v := 466) o dX12_isSaid_16 (by decide) ?_
      refine g_iconst (v := 3) o dX12_isSaid_19 (by decide) ?_
      refine g_iload_n 3 o dX12_isSaid_20 rfl rfl ?_
      refine g_imul (x := (3 : Int32)) (y := v3) o dX12_isSaid_21 ?_
      refine g_iadd (x := (466 : Int32)) (y := ((3 : Int32) * v3)) o dX12_isSaid_22 ?_
      refine g_istore [(4, .int ((466 : Int32) + ((3 : Int32) * v3))), (0, .ref v0), (1, .int v1), (2, .int v2), (3, .int v3)] o dX12_isSaid_23 (by decide) rfl ?_
      refine g_aload_n 1 o dX12_isSaid_25 rfl rfl ?_
      obtain ⟨x26, q26, e⟩ := ob e
      refine g_getN 6 o cf12 (by decide) mw_1192 dX12_isSaid_26 q26 ?_
      refine g_iload 0 o dX12_isSaid_29 rfl ?_
      obtain ⟨x31, q31, e⟩ := ob e
      refine g_iald o dX12_isSaid_31 q31 ?_
      refine g_bipush (v := 20) o dX12_isSaid_32 (by decide) ?_
      refine g_icmp_ne (x := x31) (y := 20) 64 o dX12_isSaid_34 (by decide) (fun u => ?_) (fun u => ?_)
      · rw [if_neg u] at e
        refine g_aload_n 1 o dX12_isSaid_64 rfl rfl ?_
        obtain ⟨x65, q65, e⟩ := ob e
        refine g_getN 6 o cf12 (by decide) mw_1192 dX12_isSaid_65 q65 ?_
        refine g_iload 0 o dX12_isSaid_68 rfl ?_
        obtain ⟨x70, q70, e⟩ := ob e
        refine g_iald o dX12_isSaid_70 q70 ?_
        refine g_bipush (v := 21) o dX12_isSaid_71 (by decide) ?_
        refine g_icmp_eq (x := x70) (y := 21) 88 o dX12_isSaid_73 (by decide) (fun u => ?_) (fun u => ?_)
        · rw [if_pos u] at e
          refine g_sb [1, 2, 3, 4, 0] rfl ?_
          exact kX12_isSaid_88 f0 (bX12_isSaid_4 f0 f1) ih o v0 v1 v2 v3 ((466 : Int32) + ((3 : Int32) * v3)) h r hz q e
        · rw [if_neg u] at e
          refine g_aload_n 1 o dX12_isSaid_76 rfl rfl ?_
          obtain ⟨x77, q77, e⟩ := ob e
          refine g_getN 6 o cf12 (by decide) mw_1192 dX12_isSaid_77 q77 ?_
          refine g_iload 0 o dX12_isSaid_80 rfl ?_
          obtain ⟨x82, q82, e⟩ := ob e
          refine g_iald o dX12_isSaid_82 q82 ?_
          refine g_bipush (v := 22) o dX12_isSaid_83 (by decide) ?_
          refine g_icmp_ne (x := x82) (y := 22) 167 o dX12_isSaid_85 (by decide) (fun u => ?_) (fun u => ?_)
          · rw [if_neg u] at e
            refine g_aload_n 1 o dX12_isSaid_167 rfl rfl ?_
            obtain ⟨x168, q168, e⟩ := ob e
            refine g_getN 45 o cf12 (by decide) mw_1231 dX12_isSaid_168 q168 ?_
            refine g_iload_n 3 o dX12_isSaid_171 rfl rfl ?_
            refine g_aload_n 1 o dX12_isSaid_172 rfl rfl ?_
            refine g_iload_n 2 o dX12_isSaid_173 rfl rfl ?_
            refine g_aload_n 1 o dX12_isSaid_174 rfl rfl ?_
            obtain ⟨x175, q175, e⟩ := ob e
            refine g_getN 6 o cf12 (by decide) mw_1192 dX12_isSaid_175 q175 ?_
            refine g_iload 0 o dX12_isSaid_178 rfl ?_
            obtain ⟨x180, q180, e⟩ := ob e
            refine g_iald o dX12_isSaid_180 q180 ?_
            refine g_aload_n 1 o dX12_isSaid_181 rfl rfl ?_
            obtain ⟨x182, q182, e⟩ := ob e
            refine g_getN 6 o cf12 (by decide) mw_1192 dX12_isSaid_182 q182 ?_
            refine g_iload 0 o dX12_isSaid_185 rfl ?_
            refine g_iconst (v := 1) o dX12_isSaid_187 (by decide) ?_
            refine g_iadd (x := ((466 : Int32) + ((3 : Int32) * v3))) (y := 1) o dX12_isSaid_188 ?_
            obtain ⟨x189, q189, e⟩ := ob e
            refine g_iald o dX12_isSaid_189 q189 ?_
            refine g_aload_n 1 o dX12_isSaid_190 rfl rfl ?_
            obtain ⟨x191, q191, e⟩ := ob e
            refine g_getN 6 o cf12 (by decide) mw_1192 dX12_isSaid_191 q191 ?_
            refine g_iload 0 o dX12_isSaid_194 rfl ?_
            refine g_iconst (v := 2) o dX12_isSaid_196 (by decide) ?_
            refine g_iadd (x := ((466 : Int32) + ((3 : Int32) * v3))) (y := 2) o dX12_isSaid_197 ?_
            obtain ⟨x198, q198, e⟩ := ob e
            refine g_iald o dX12_isSaid_198 q198 ?_
            obtain ⟨_, k199, e⟩ := ob e
            obtain ⟨x199, h199, q199, e⟩ := ob2_s e
            refine g_callVv [.int v1, .int x180, .int x189, .int x198] o (mX12_isLeaf q199) cf12 (ckO_s k199) mw_1660 mw_1661 mw_1793 mw_19 mw_1662 rfl yo_X12_isLeaf rfl rfl (Nat.le_of_ble_eq_true rfl) ⟨by decide, by decide⟩ ⟨rfl, rfl⟩ dX12_isSaid_199 ⟨by decide, by decide⟩ ?_
            obtain ⟨h202, q202, e⟩ := ob e
            refine g_zast o dX12_isSaid_202 q202 ?_
            refine g_iinc (k := 3) (v := (v2 + 1)) [(2, .int (v2 + 1)), (4, .int ((466 : Int32) + ((3 : Int32) * v3))), (0, .ref v0), (1, .int v1), (3, .int v3)] o dX12_isSaid_203 rfl rfl (by decide) rfl ?_
            refine g_sb [2, 3, 0, 4] rfl ?_
            exact kX12_isSaid_206 f0 (bX12_isSaid_4 f0 f1) ih o v0 v1 (v2 + 1) v3 h202 r hz q e
          · rw [if_pos u] at e
            refine g_sb [1, 2, 3, 4, 0] rfl ?_
            exact kX12_isSaid_88 f0 (bX12_isSaid_4 f0 f1) ih o v0 v1 v2 v3 ((466 : Int32) + ((3 : Int32) * v3)) h r hz q e
      · rw [if_pos u] at e
        refine g_aload_n 1 o dX12_isSaid_37 rfl rfl ?_
        obtain ⟨x38, q38, e⟩ := ob e
        refine g_getN 45 o cf12 (by decide) mw_1231 dX12_isSaid_38 q38 ?_
        refine g_iload_n 3 o dX12_isSaid_41 rfl rfl ?_
        refine g_iconst (v := 1) o dX12_isSaid_42 (by decide) ?_
        refine g_isub (x := v2) (y := 1) o dX12_isSaid_43 ?_
        refine g_aload_n 1 o dX12_isSaid_44 rfl rfl ?_
        obtain ⟨x45, q45, e⟩ := ob e
        refine g_getN 45 o cf12 (by decide) mw_1231 dX12_isSaid_45 q45 ?_
        refine g_iload_n 3 o dX12_isSaid_48 rfl rfl ?_
        refine g_iconst (v := 1) o dX12_isSaid_49 (by decide) ?_
        refine g_isub (x := v2) (y := 1) o dX12_isSaid_50 ?_
        obtain ⟨x51, q51, e⟩ := ob e
        refine g_zald o dX12_isSaid_51 q51 ?_
        refine g_if_ne (x := x51) 59 o dX12_isSaid_52 (by decide) (fun u => ?_) (fun u => ?_)
        · rw [if_neg u] at e
          refine g_iconst (v := 0) o dX12_isSaid_59 (by decide) ?_
          refine g_sb [1, 2, 3, 4] rfl ?_
          exact kX12_isSaid_60 f0 (bX12_isSaid_4 f0 f1) ih o v0 v1 v2 v3 x38 (v2 - 1) 0 h r hz q e
        · rw [if_pos u] at e
          refine g_iconst (v := 1) o dX12_isSaid_55 (by decide) ?_
          refine g_goto 60 o dX12_isSaid_56 (by decide) ?_
          refine g_sb [1, 2, 3, 4] rfl ?_
          exact kX12_isSaid_60 f0 (bX12_isSaid_4 f0 f1) ih o v0 v1 v2 v3 x38 (v2 - 1) 1 h r hz q e
theorem yo_X12_isSaid : yok yX12_isSaid 1 := ⟨by decide, by decide, by decide +kernel⟩
set_option maxRecDepth 100000 in
set_option maxHeartbeats 4000000 in
theorem mX12_isSaid {l : Launch} {D : va_G} {cy : Nat → ClassId} {f0 : Nat} {a : Nat} {p0 : Int32} {h : Hp} {r : Int32} {hz : Hp} (e : fX12_isSaid f0 a p0 h = some (r, hz)) : MC l D cy yX12_isSaid cX12_isSaid 5 (some .boolean) rmX12_isSaid [.ref a, .int p0] h (some (.int r)) hz := by
  refine mc_of2 (by decide) (Nat.le_of_ble_eq_true rfl) (fun X hl hD hy hin o q => ?_)
  subst hl; subst hD; subst hy
  show G X 5 0 [(0, .ref a), (1, .int p0)] [] h 0 0
  unfold fX12_isSaid at e
  refine g_iconst (v := 0) o dX12_isSaid_0 (by decide) ?_
  refine g_istore_n [(2, .int 0), (0, .ref a), (1, .int p0)] o dX12_isSaid_1 rfl (by decide) rfl ?_
  refine g_iconst (v := 0) o dX12_isSaid_2 (by decide) ?_
  refine g_istore_n [(3, .int 0), (2, .int 0), (0, .ref a), (1, .int p0)] o dX12_isSaid_3 rfl (by decide) rfl ?_
  refine g_sb [2, 3, 1, 0] rfl ?_
  exact kX12_isSaid_4 f0 o f0 a p0 0 0 h r hz q e
