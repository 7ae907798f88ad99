theorem yo_X12_over : yok yX12_over 2 := ⟨by decide, by decide, by decide +kernel⟩
set_option maxRecDepth 100000 in
set_option maxHeartbeats 4000000 in
theorem mX12_over {l : Launch} {D : va_G} {cy : Nat → ClassId} {f0 : Nat} {a : Nat} {p0 : Int32} {p1 : Int32} {h : Hp} {r : Int32} {hz : Hp} (e : fX12_over f0 a p0 p1 h = some (r, hz)) : MC l D cy yX12_over cX12_over 3 (some .int) rmX12_over [.ref a, .int p0, .int p1] h (some (.int r)) hz := by
  refine mc_of2 (by decide) (Nat.le_of_ble_eq_true rfl) (fun X hl hD hy hin o q => ?_)
  subst hl; subst hD; subst hy
  show G X 3 0 [(0, .ref a), (1, .int p0), (2, .int p1)] [] h 0 0
  unfold fX12_over at e
  refine g_aload_n 0 o dX12_over_0 rfl rfl ?_
  refine g_iconst (v := 0) o dX12_over_1 (by decide) ?_
  obtain ⟨h2, q2, e⟩ := ob e
  refine g_put (ty1 := .int) 0 o cf12 (by decide) mw_1186 rfl (by decide +kernel) rfl rfl dX12_over_2 q2 ?_
  refine g_aload_n 0 o dX12_over_5 rfl rfl ?_
  refine g_iload_n 1 o dX12_over_6 rfl rfl ?_
  obtain ⟨_, k7, e⟩ := ob e
  obtain ⟨x7, h7, q7, e⟩ := ob2_s e
  refine g_callVv [.int p0] o (mX12_isShip q7) cf12 (ckO_s k7) mw_1399 mw_1400 mw_1753 mw_19 mw_1401 rfl yo_X12_isShip rfl rfl (Nat.le_of_ble_eq_true rfl) ⟨by decide, by decide⟩ ⟨rfl, rfl⟩ dX12_over_7 ⟨by decide, by decide⟩ ?_
  refine g_if_eq (x := x7) 35 o dX12_over_10 (by decide) (fun u => ?_) (fun u => ?_)
  · rw [if_pos u] at e
    refine g_iconst (v := -1) o dX12_over_35 (by decide) ?_
    exact g_iret o dX12_over_36 (rt_v q e)
  · rw [if_neg u] at e
    refine g_aload_n 0 o dX12_over_13 rfl rfl ?_
    refine g_iload_n 2 o dX12_over_14 rfl rfl ?_
    obtain ⟨_, k15, e⟩ := ob e
    obtain ⟨x15, h15, q15, e⟩ := ob2_s e
    refine g_callVv [.int p1] o (mX12_isShip q15) cf12 (ckO_s k15) mw_1399 mw_1400 mw_1753 mw_19 mw_1401 rfl yo_X12_isShip rfl rfl (Nat.le_of_ble_eq_true rfl) ⟨by decide, by decide⟩ ⟨rfl, rfl⟩ dX12_over_15 ⟨by decide, by decide⟩ ?_
    refine g_if_eq (x := x15) 35 o dX12_over_18 (by decide) (fun u => ?_) (fun u => ?_)
    · rw [if_pos u] at e
      refine g_iconst (v := -1) o dX12_over_35 (by decide) ?_
      exact g_iret o dX12_over_36 (rt_v q e)
    · rw [if_neg u] at e
      refine g_iload_n 1 o dX12_over_21 rfl rfl ?_
      refine g_iload_n 2 o dX12_over_22 rfl rfl ?_
      refine g_icmp_eq (x := p0) (y := p1) 35 o dX12_over_23 (by decide) (fun u => ?_) (fun u => ?_)
      · rw [if_pos u] at e
        refine g_iconst (v := -1) o dX12_over_35 (by decide) ?_
        exact g_iret o dX12_over_36 (rt_v q e)
      · rw [if_neg u] at e
        refine g_aload_n 0 o dX12_over_26 rfl rfl ?_
        refine g_iload_n 1 o dX12_over_27 rfl rfl ?_
        refine g_iload_n 2 o dX12_over_28 rfl rfl ?_
        obtain ⟨_, k29, e⟩ := ob e
        obtain ⟨x29, h29, q29, e⟩ := ob2_s e
        refine g_callVv [.int p0, .int p1] o (mX12_overOf q29) cf12 (ckO_s k29) mw_1561 mw_1562 mw_1778 mw_19 mw_1563 rfl yo_X12_overOf rfl rfl (Nat.le_of_ble_eq_true rfl) ⟨by decide, by decide⟩ ⟨rfl, rfl⟩ dX12_over_29 ⟨by decide, by decide⟩ ?_
        refine g_goto 36 o dX12_over_32 (by decide) ?_
        exact g_iret o dX12_over_36 (rt_v q e)
set_option maxRecDepth 100000 in
set_option maxHeartbeats 4000000 in
theorem kX12_mixed_88 {X : Cx} (f0 : Nat) (g16 : Nat → Int32 → Int32 → Int32 → Hp → Option (Int32 × Hp)) (g31 : Nat → Int32 → Int32 → Int32 → Int32 → Hp → Option (Int32 × Hp)) (i16 : ∀ (v02 : Nat) (v12 : Int32) (v22 : Int32) (v32 : Int32) (h2 : Hp) (r : Int32) (hz : Hp), Rt X (some (.int r)) hz 0 0 → g16 v02 v12 v22 v32 h2 = some (r, hz) → G X 6 16 [(0, .ref v02), (1, .int v12), (2, .int v22), (3, .int v32)] [] h2 0 0) (i31 : ∀ (v02 : Nat) (v12 : Int32) (v22 : Int32) (v32 : Int32) (v42 : Int32) (h2 : Hp) (r : Int32) (hz : Hp), Rt X (some (.int r)) hz 0 0 → g31 v02 v12 v22 v32 v42 h2 = some (r, hz) → G X 6 31 [(0, .ref v02), (1, .int v12), (2, .int v22), (3, .int v32), (4, .int v42)] [] h2 0 0) (o : Ok X cX12_mixed RX12 6 rmX12_mixed (some .int)) (v0 : Nat) (v1 : Int32) (v2 : Int32) (v3 : Int32) (v4 : Int32) (h : Hp) (r : Int32) (hz : Hp) (q : Rt X (some (.int r)) hz 0 0) (e : bX12_mixed_88 f0 g16 g31 v0 v1 v2 v3 v4 h = some (r, hz)) : G X 6 88 [(0, .ref v0), (1, .int v1), (2, .int v2), (3, .int v3), (4, .int v4)] [] h 0 0 := by
  unfold bX12_mixed_88 at e
  refine g_iinc (k := 4) (v := (v4 + 1)) [(4, .int (v4 + 1)), (0, .ref v0), (1, .int v1), (2, .int v2), (3, .int v3)] o dX12_mixed_88 rfl rfl (by decide) rfl ?_
  refine g_goto 31 o dX12_mixed_91 (by decide) ?_
  refine g_sb [1, 2, 3, 4, 0] rfl ?_
  exact i31 v0 v1 v2 v3 (v4 + 1) h r hz q e
set_option maxRecDepth 100000 in
set_option maxHeartbeats 4000000 in
theorem kX12_mixed_31 {X : Cx} (f0 : Nat) (g16 : Nat → Int32 → Int32 → Int32 → Hp → Option (Int32 × Hp)) (i16 : ∀ (v02 : Nat) (v12 : Int32) (v22 : Int32) (v32 : Int32) (h2 : Hp) (r : Int32) (hz : Hp), Rt X (some (.int r)) hz 0 0 → g16 v02 v12 v22 v32 h2 = some (r, hz) → G X 6 16 [(0, .ref v02), (1, .int v12), (2, .int v22), (3, .int v32)] [] h2 0 0) (o : Ok X cX12_mixed RX12 6 rmX12_mixed (some .int)) (f : Nat) (v0 : Nat) (v1 : Int32) (v2 : Int32) (v3 : Int32) (v4 : Int32) (h : Hp) (r : Int32) (hz : Hp) (q : Rt X (some (.int r)) hz 0 0) (e : bX12_mixed_31 f0 g16 f v0 v1 v2 v3 v4 h = some (r, hz)) : G X 6 31 [(0, .ref v0), (1, .int v1), (2, .int v2), (3, .int v3), (4, .int v4)] [] h 0 0 := by
  induction f generalizing v0 v1 v2 v3 v4 h r hz with
  | zero => cases e
  | succ f1 ih =>
    unfold bX12_mixed_31 at e
    refine g_iload 4 o dX12_mixed_31 rfl ?_
    refine g_aload_n 0 o dX12_mixed_33 rfl rfl ?_
    obtain ⟨x34, q34, e⟩ := ob e
    refine g_getN 6 o cf12 (by decide) mw_1192 dX12_mixed_34 q34 ?_
    refine g_iconst (v := 1) o dX12_mixed_37 (by decide) ?_
    obtain ⟨x38, q38, e⟩ := ob e
    refine g_iald o dX12_mixed_38 q38 ?_
    refine g_icmp_ge (x := v4) (y := x38) 94 o dX12_mixed_39 (by decide) (fun u => ?_) (fun u => ?_)
    · rw [if_pos u] at e
      refine g_iinc (k := 3) (v := (v3 + 1)) [(3, .int (v3 + 1)), (0, .ref v0), (1, .int v1), (2, .int v2), (4, .int v4)] o dX12_mixed_94 rfl rfl (by decide) rfl ?_
      refine g_goto 16 o dX12_mixed_97 (by decide) ?_
      refine g_sb [1, 2, 3, 0] rfl ?_
      exact i16 v0 v1 v2 (v3 + 1) h r hz q e
    · rw [if_neg u] at e
      refine g_aload_n 0 o dX12_mixed_42 rfl rfl ?_
      refine g_iload_n 3 o dX12_mixed_43 rfl rfl ?_
      refine g_iload 4 o dX12_mixed_44 rfl ?_
      obtain ⟨_, k46, e⟩ := ob e
      obtain ⟨x46, h46, q46, e⟩ := ob2_s e
      refine g_callVv [.int v3, .int v4] o (mX12_overOf q46) cf12 (ckO_s k46) mw_1561 mw_1562 mw_1778 mw_19 mw_1563 rfl yo_X12_overOf rfl rfl (Nat.le_of_ble_eq_true rfl) ⟨by decide, by decide⟩ ⟨rfl, rfl⟩ dX12_mixed_46 ⟨by decide, by decide⟩ ?_
      refine g_istore [(5, .int x46), (0, .ref v0), (1, .int v1), (2, .int v2), (3, .int v3), (4, .int v4)] o dX12_mixed_49 (by decide) rfl ?_
      refine g_iload 0 o dX12_mixed_51 rfl ?_
      refine g_if_lt (x := x46) 88 o dX12_mixed_53 (by decide) (fun u => ?_) (fun u => ?_)
      · rw [if_pos u] at e
        refine g_sb [1, 2, 3, 4, 5] rfl ?_
        exact kX12_mixed_88 f0 g16 (bX12_mixed_31 f0 g16 f1) i16 ih o v0 v1 v2 v3 v4 h46 r hz q e
      · rw [if_neg u] at e
        refine g_iload 0 o dX12_mixed_56 rfl ?_
        refine g_iload_n 4 o dX12_mixed_58 rfl rfl ?_
        refine g_icmp_eq (x := x46) (y := v3) 88 o dX12_mixed_59 (by decide) (fun u => ?_) (fun u => ?_)
        · rw [if_pos u] at e
          refine g_sb [1, 2, 3, 4, 5] rfl ?_
          exact kX12_mixed_88 f0 g16 (bX12_mixed_31 f0 g16 f1) i16 ih o v0 v1 v2 v3 v4 h46 r hz q e
        · rw [if_neg u] at e
          refine g_iload 0 o dX12_mixed_62 rfl ?_
          refine g_iload 5 o dX12_mixed_64 rfl ?_
          refine g_icmp_ne (x := x46) (y := v4) 72 o dX12_mixed_66 (by decide) (fun u => ?_) (fun u => ?_)
          · rw [if_neg u] at e
            refine g_iload_n 3 o dX12_mixed_72 rfl rfl ?_
            refine g_iload_n 2 o dX12_mixed_73 rfl rfl ?_
            refine g_icmp_ne (x := v2) (y := v1) 85 o dX12_mixed_74 (by decide) (fun u => ?_) (fun u => ?_)
            · rw [if_neg u] at e
              refine g_iinc (k := 3) (v := (v2 + 1)) [(2, .int (v2 + 1)), (5, .int x46), (0, .ref v0), (1, .int v1), (3, .int v3), (4, .int v4)] o dX12_mixed_85 rfl rfl (by decide) rfl ?_
              refine g_sb [2, 3, 0, 4, 5] rfl ?_
              exact kX12_mixed_88 f0 g16 (bX12_mixed_31 f0 g16 f1) i16 ih o v0 v1 (v2 + 1) v3 v4 h46 r hz q e
            · rw [if_pos u] at e
              refine g_bipush (v := 10) o dX12_mixed_77 (by decide) ?_
              refine g_iload_n 4 o dX12_mixed_79 rfl rfl ?_
              refine g_imul (x := (10 : Int32)) (y := v3) o dX12_mixed_80 ?_
              refine g_iload 5 o dX12_mixed_81 rfl ?_
              refine g_iadd (x := ((10 : Int32) * v3)) (y := v4) o dX12_mixed_83 ?_
              exact g_iret o dX12_mixed_84 (rt_v q e)
          · rw [if_pos u] at e
            refine g_goto 88 o dX12_mixed_69 (by decide) ?_
            refine g_sb [1, 2, 3, 4, 5] rfl ?_
            exact kX12_mixed_88 f0 g16 (bX12_mixed_31 f0 g16 f1) i16 ih o v0 v1 v2 v3 v4 h46 r hz q e
set_option maxRecDepth 100000 in
set_option maxHeartbeats 4000000 in
theorem kX12_mixed_16 {X : Cx} (f0 : Nat) (o : Ok X cX12_mixed RX12 6 rmX12_mixed (some .int)) (f : Nat) (v0 : Nat) (v1 : Int32) (v2 : Int32) (v3 : Int32) (h : Hp) (r : Int32) (hz : Hp) (q : Rt X (some (.int r)) hz 0 0) (e : bX12_mixed_16 f0 f v0 v1 v2 v3 h = some (r, hz)) : G X 6 16 [(0, .ref v0), (1, .int v1), (2, .int v2), (3, .int v3)] [] h 0 0 := by
  induction f generalizing v0 v1 v2 v3 h r hz with
  | zero => cases e
  | succ f1 ih =>
    unfold bX12_mixed_16 at e
    refine g_iload_n 3 o dX12_mixed_16 rfl rfl ?_
    refine g_aload_n 0 o dX12_mixed_17 rfl rfl ?_
    obtain ⟨x18, q18, e⟩ := ob e
    refine g_getN 6 o cf12 (by decide) mw_1192 dX12_mixed_18 q18 ?_
    refine g_iconst (v := 1) o dX12_mixed_21 (by decide) ?_
    obtain ⟨x22, q22, e⟩ := ob e
    refine g_iald o dX12_mixed_22 q22 ?_
    refine g_icmp_ge (x := v3) (y := x22) 100 o dX12_mixed_23 (by decide) (fun u => ?_) (fun u => ?_)
    · rw [if_pos u] at e
      refine g_iload_n 1 o dX12_mixed_100 rfl rfl ?_
      refine g_iconst (v := -1) o dX12_mixed_101 (by decide) ?_
      refine g_icmp_ne (x := v1) (y := (-1)) 109 o dX12_mixed_102 (by decide) (fun u => ?_) (fun u => ?_)
      · rw [if_neg u] at e
        refine g_iconst (v := -1) o dX12_mixed_109 (by decide) ?_
        exact g_iret o dX12_mixed_110 (rt_v q e)
      · rw [if_pos u] at e
        refine g_iload_n 2 o dX12_mixed_105 rfl rfl ?_
        refine g_goto 110 o dX12_mixed_106 (by decide) ?_
        exact g_iret o dX12_mixed_110 (rt_v q e)
    · rw [if_neg u] at e
      refine g_iload_n 3 o dX12_mixed_26 rfl rfl ?_
      refine g_iconst (v := 1) o dX12_mixed_27 (by decide) ?_
      refine g_iadd (x := v3) (y := 1) o dX12_mixed_28 ?_
      refine g_istore [(4, .int (v3 + 1)), (0, .ref v0), (1, .int v1), (2, .int v2), (3, .int v3)] o dX12_mixed_29 (by decide) rfl ?_
      refine g_sb [1, 2, 3, 4, 0] rfl ?_
      exact kX12_mixed_31 f0 (bX12_mixed_16 f0 f1) ih o f0 v0 v1 v2 v3 (v3 + 1) h r hz q e
theorem yo_X12_mixed : yok yX12_mixed 1 := ⟨by decide, by decide, by decide +kernel⟩
set_option maxRecDepth 100000 in
set_option maxHeartbeats 4000000 in
theorem mX12_mixed {l : Launch} {D : va_G} {cy : Nat → ClassId} {f0 : Nat} {a : Nat} {p0 : Int32} {h : Hp} {r : Int32} {hz : Hp} (e : fX12_mixed f0 a p0 h = some (r, hz)) : MC l D cy yX12_mixed cX12_mixed 6 (some .int) rmX12_mixed [.ref a, .int p0] h (some (.int r)) hz := by
  refine mc_of2 (by decide) (Nat.le_of_ble_eq_true rfl) (fun X hl hD hy hin o q => ?_)
  subst hl; subst hD; subst hy
  show G X 6 0 [(0, .ref a), (1, .int p0)] [] h 0 0
  unfold fX12_mixed at e
  refine g_aload_n 0 o dX12_mixed_0 rfl rfl ?_
  refine g_iconst (v := 0) o dX12_mixed_1 (by decide) ?_
  obtain ⟨h2, q2, e⟩ := ob e
  refine g_put (ty1 := .int) 0 o cf12 (by decide) mw_1186 rfl (by decide +kernel) rfl rfl dX12_mixed_2 q2 ?_
  refine g_iload_n 1 o dX12_mixed_5 rfl rfl ?_
  refine g_iconst (v := -1) o dX12_mixed_6 (by decide) ?_
  refine g_icmp_ge (x := p0) (y := (-1)) 12 o dX12_mixed_7 (by decide) (fun u => ?_) (fun u => ?_)
  · rw [if_pos u] at e
    refine g_iconst (v := 0) o dX12_mixed_12 (by decide) ?_
    refine g_istore_n [(2, .int 0), (0, .ref a), (1, .int p0)] o dX12_mixed_13 rfl (by decide) rfl ?_
    refine g_iconst (v := 0) o dX12_mixed_14 (by decide) ?_
    refine g_istore_n [(3, .int 0), (2, .int 0), (0, .ref a), (1, .int p0)] o dX12_mixed_15 rfl (by decide) rfl ?_
    refine g_sb [2, 3, 1, 0] rfl ?_
    exact kX12_mixed_16 f0 o f0 a p0 0 0 h2 r hz q e
  · rw [if_neg u] at e
    refine g_iconst (v := -1) o dX12_mixed_10 (by decide) ?_
    exact g_iret o dX12_mixed_11 (rt_v q e)
set_option maxRecDepth 100000 in
set_option maxHeartbeats 4000000 in
theorem kX12_net_26 {X : Cx} (f0 : Nat) (o : Ok X cX12_net RX12 4 rmX12_net (some .int)) (f : Nat) (v0 : Nat) (v1 : Int32) (v2 : Int32) (v3 : Int32) (h : Hp) (r : Int32) (hz : Hp) (q : Rt X (some (.int r)) hz 0 0) (e : bX12_net_26 f0 f v0 v1 v2 v3 h = some (r, hz)) : G X 4 26 [(0, .ref v0), (1, .int v1), (2, .int v2), (3, .int v3)] [] h 0 0 := by
  induction f generalizing v0 v1 v2 v3 h r hz with
  | zero => cases e
  | succ f1 ih =>
    unfold bX12_net_26 at e
    refine g_iload_n 3 o dX12_net_26 rfl rfl ?_
    refine g_aload_n 0 o dX12_net_27 rfl rfl ?_
    obtain ⟨x28, q28, e⟩ := ob e
    refine g_getN 6 o cf12 (by decide) mw_1192 dX12_net_28 q28 ?_
    refine g_iconst (v := 0) o dX12_net_31 (by decide) ?_
    obtain ⟨x32, q32, e⟩ := ob e
    refine g_iald o dX12_net_32 q32 ?_
    refine g_icmp_ge (x := v3) (y := x32) 66 o dX12_net_33 (by decide) (fun u => ?_) (fun u => ?_)
    · rw [if_pos u] at e
      refine g_iload_n 2 o dX12_net_66 rfl rfl ?_
      exact g_iret o dX12_net_67 (rt_v q e)
    · rw [if_neg u] at e
      refine g_iload_n 2 o dX12_net_36 rfl rfl ?_
      refine g_aload_n 0 o dX12_net_37 rfl rfl ?_
      refine g_iload_n 1 o dX12_net_38 rfl rfl ?_
      refine g_iload_n 3 o dX12_net_39 rfl rfl ?_
      obtain ⟨_, k40, e⟩ := ob e
      obtain ⟨x40, h40, q40, e⟩ := ob2_s e
      refine g_callVv [.int v1, .int v3] o (mX12_owed q40) cf12 (ckO_s k40) mw_1402 mw_1403 mw_1754 mw_19 mw_1404 rfl yo_X12_owed rfl rfl (Nat.le_of_ble_eq_true rfl) ⟨by decide, by decide⟩ ⟨rfl, rfl⟩ dX12_net_40 ⟨by decide, by decide⟩ ?_
      refine g_aload_n 0 o dX12_net_43 rfl rfl ?_
      obtain ⟨x44, q44, e⟩ := ob e
      refine g_getN 6 o cf12 (by decide) mw_1192 dX12_net_44 q44 ?_
      refine g_sipush (v := 136) o dX12_net_47 (by decide) ?_
      refine g_iload_n 1 o dX12_net_50 rfl rfl ?_
      refine g_iload_n 3 o dX12_net_51 rfl rfl ?_
      obtain ⟨x52, h52, q52, e⟩ := ob2_s e
      refine g_callSv [.int v1, .int v3] o (mX12_cell q52) mw_1180 mw_1181 mw_19 mw_1182 yo_X12_cell rfl rfl (Nat.le_of_ble_eq_true rfl) ⟨by decide, by decide⟩ ⟨rfl, rfl⟩ dX12_net_52 ⟨by decide, by decide⟩ ?_
      refine g_iadd (x := (136 : Int32)) (y := x52) o dX12_net_55 ?_
      obtain ⟨x56, q56, e⟩ := ob e
      refine g_iald o dX12_net_56 q56 ?_
      refine g_isub (x := x40) (y := x56) o dX12_net_57 ?_
      refine g_iadd (x := v2) (y := (x40 - x56)) o dX12_net_58 ?_
      refine g_istore_n [(2, .int (v2 + (x40 - x56))), (0, .ref v0), (1, .int v1), (3, .int v3)] o dX12_net_59 rfl (by decide) rfl ?_
      refine g_iinc (k := 3) (v := (v3 + 1)) [(3, .int (v3 + 1)), (2, .int (v2 + (x40 - x56))), (0, .ref v0), (1, .int v1)] o dX12_net_60 rfl rfl (by decide) rfl ?_
      refine g_goto 26 o dX12_net_63 (by decide) ?_
      refine g_sb [2, 3, 1, 0] rfl ?_
      exact ih v0 v1 (v2 + (x40 - x56)) (v3 + 1) h52 r hz q e
set_option maxRecDepth 100000 in
set_option maxHeartbeats 4000000 in
theorem kX12_net_14 {X : Cx} (f0 : Nat) (o : Ok X cX12_net RX12 4 rmX12_net (some .int)) (v0 : Nat) (v1 : Int32) (s0 : Nat) (s1 : Int32) (h : Hp) (r : Int32) (hz : Hp) (q : Rt X (some (.int r)) hz 0 0) (e : bX12_net_14 f0 v0 v1 s0 s1 h = some (r, hz)) : G X 4 14 [(0, .ref v0), (1, .int v1)] [.int s1, .ref s0] h 0 0 := by
  unfold bX12_net_14 at e
  obtain ⟨_, k14, e⟩ := ob e
  obtain ⟨x14, h14, q14, e⟩ := ob2_s e
  refine g_callVv [.int s1] o (mX12_throwsIf q14) cf12 (ckO_s k14) mw_1372 mw_1373 mw_1748 mw_19 mw_1374 rfl yo_X12_throwsIf rfl rfl (Nat.le_of_ble_eq_true rfl) ⟨by decide, by decide⟩ ⟨rfl, rfl⟩ dX12_net_14 ⟨by decide, by decide⟩ ?_
  refine g_if_eq (x := x14) 22 o dX12_net_17 (by decide) (fun u => ?_) (fun u => ?_)
  · rw [if_pos u] at e
    refine g_iconst (v := 0) o dX12_net_22 (by decide) ?_
    refine g_istore_n [(2, .int 0), (0, .ref v0), (1, .int v1)] o dX12_net_23 rfl (by decide) rfl ?_
    refine g_iconst (v := 0) o dX12_net_24 (by decide) ?_
    refine g_istore_n [(3, .int 0), (2, .int 0), (0, .ref v0), (1, .int v1)] o dX12_net_25 rfl (by decide) rfl ?_
    refine g_sb [2, 3, 1, 0] rfl ?_
    exact kX12_net_26 f0 o f0 v0 v1 0 0 h14 r hz q e
  · rw [if_neg u] at e
    refine g_iconst (v := 0) o dX12_net_20 (by decide) ?_
    exact g_iret o dX12_net_21 (rt_v q e)
theorem yo_X12_net : yok yX12_net 1 := ⟨by decide, by decide, by decide +kernel⟩
set_option maxRecDepth 100000 in
set_option maxHeartbeats 4000000 in
theorem mX12_net {l : Launch} {D : va_G} {cy : Nat → ClassId} {f0 : Nat} {a : Nat} {p0 : Int32} {h : Hp} {r : Int32} {hz : Hp} (e : fX12_net f0 a p0 h = some (r, hz)) : MC l D cy yX12_net cX12_net 4 (some .int) rmX12_net [.ref a, .int p0] h (some (.int r)) hz := by
  refine mc_of2 (by decide) (Nat.le_of_ble_eq_true rfl) (fun X hl hD hy hin o q => ?_)
  subst hl; subst hD; subst hy
  show G X 4 0 [(0, .ref a), (1, .int p0)] [] h 0 0
  unfold fX12_net at e
  refine g_aload_n 0 o dX12_net_0 rfl rfl ?_
  refine g_aload_n 0 o dX12_net_1 rfl rfl ?_
  refine g_iload_n 1 o dX12_net_2 rfl rfl ?_
  obtain ⟨_, k3, e⟩ := ob e
  obtain ⟨x3, h3, q3, e⟩ := ob2_s e
  refine g_callVv [.int p0] o (mX12_isShip q3) cf12 (ckO_s k3) mw_1399 mw_1400 mw_1753 mw_19 mw_1401 rfl yo_X12_isShip rfl rfl (Nat.le_of_ble_eq_true rfl) ⟨by decide, by decide⟩ ⟨rfl, rfl⟩ dX12_net_3 ⟨by decide, by decide⟩ ?_
  refine g_if_ne (x := x3) 13 o dX12_net_6 (by decide) (fun u => ?_) (fun u => ?_)
  · rw [if_neg u] at e
    refine g_iconst (v := 0) o dX12_net_13 (by decide) ?_
    exact kX12_net_14 f0 o a p0 a 0 h3 r hz q e
  · rw [if_pos u] at e
    refine g_iconst (v := 1) o dX12_net_9 (by decide) ?_
    refine g_goto 14 o dX12_net_10 (by decide) ?_
    exact kX12_net_14 f0 o a p0 a 1 h3 r hz q e
set_option maxRecDepth 100000 in
set_option maxHeartbeats 4000000 in
theorem kX12_part_35 {X : Cx} (f0 : Nat) (o : Ok X cX12_part RX12 6 rmX12_part (some .int)) (v3 : Int32) (s0 : Int32) (h : Hp) (r : Int32) (hz : Hp) (q : Rt X (some (.int r)) hz 0 0) (e : bX12_part_35 f0 v3 s0 h = some (r, hz)) : G X 6 35 [(3, .int v3)] [.int s0] h 0 0 := by
  unfold bX12_part_35 at e
  refine g_iload_n 0 o dX12_part_35 rfl rfl ?_
  obtain ⟨_, z36, e⟩ := ob e
  refine g_idiv (x := s0) (y := v3) o dX12_part_36 (nz_s z36) ?_
  exact g_iret o dX12_part_37 (rt_v q e)
set_option maxRecDepth 100000 in
set_option maxHeartbeats 4000000 in
theorem kX12_part_5 {X : Cx} (f0 : Nat) (o : Ok X cX12_part RX12 6 rmX12_part (some .int)) (f : Nat) (v0 : Int32) (v1 : Int32) (v2 : Int32) (v3 : Int32) (v4 : Int32) (h : Hp) (r : Int32) (hz : Hp) (q : Rt X (some (.int r)) hz 0 0) (e : bX12_part_5 f0 f v0 v1 v2 v3 v4 h = some (r, hz)) : G X 6 5 [(0, .int v0), (1, .int v1), (2, .int v2), (3, .int v3), (4, .int v4)] [] h 0 0 := by
  induction f generalizing v0 v1 v2 v3 v4 h r hz with
  | zero => cases e
  | succ f1 ih =>
    unfold bX12_part_5 at e
    refine g_iload 4 o dX12_part_5 rfl ?_
    refine g_if_eq (x := v4) 26 o dX12_part_7 (by decide) (fun u => ?_) (fun u => ?_)
    · rw [if_pos u] at e
      refine g_iload_n 2 o dX12_part_26 rfl rfl ?_
      refine g_if_ne (x := v2) 34 o dX12_part_27 (by decide) (fun u => ?_) (fun u => ?_)
      · rw [if_neg u] at e
        refine g_iload_n 1 o dX12_part_34 rfl rfl ?_
        refine g_sb [3] rfl ?_
        exact kX12_part_35 f0 o v3 v1 h r hz q e
      · rw [if_pos u] at e
        refine g_iload_n 0 o dX12_part_30 rfl rfl ?_
        refine g_goto 35 o dX12_part_31 (by decide) ?_
        refine g_sb [3] rfl ?_
        exact kX12_part_35 f0 o v3 v0 h r hz q e
    · rw [if_neg u] at e
      refine g_iload_n 3 o dX12_part_10 rfl rfl ?_
      refine g_iload 4 o dX12_part_11 rfl ?_
      obtain ⟨_, z13, e⟩ := ob e
      refine g_irem (x := v3) (y := v4) o dX12_part_13 (nz_s z13) ?_
      refine g_istore [(5, .int (v3 - v3 / v4 * v4)), (0, .int v0), (1, .int v1), (2, .int v2), (3, .int v3), (4, .int v4)] o dX12_part_14 (by decide) rfl ?_
      refine g_iload 5 o dX12_part_16 rfl ?_
      refine g_istore_n [(3, .int v4), (5, .int (v3 - v3 / v4 * v4)), (0, .int v0), (1, .int v1), (2, .int v2), (4, .int v4)] o dX12_part_18 rfl (by decide) rfl ?_
      refine g_iload 1 o dX12_part_19 rfl ?_
      refine g_istore [(4, .int (v3 - v3 / v4 * v4)), (3, .int v4), (5, .int (v3 - v3 / v4 * v4)), (0, .int v0), (1, .int v1), (2, .int v2)] o dX12_part_21 (by decide) rfl ?_
      refine g_goto 5 o dX12_part_23 (by decide) ?_
      refine g_sb [3, 4, 5, 1, 0] rfl ?_
      exact ih v0 v1 v2 v4 (v3 - v3 / v4 * v4) h r hz q e
theorem yo_X12_part : yok yX12_part 3 := ⟨by decide, by decide, by decide +kernel⟩
set_option maxRecDepth 100000 in
set_option maxHeartbeats 4000000 in
theorem mX12_part {l : Launch} {D : va_G} {cy : Nat → ClassId} {f0 : Nat} {p0 : Int32} {p1 : Int32} {p2 : Int32} {h : Hp} {r : Int32} {hz : Hp} (e : fX12_part f0 p0 p1 p2 h = some (r, hz)) : MC l D cy yX12_part cX12_part 6 (some .int) rmX12_part [.int p0, .int p1, .int p2] h (some (.int r)) hz := by
  refine mc_of2 (by decide) (Nat.le_of_ble_eq_true rfl) (fun X hl hD hy hin o q => ?_)
  subst hl; subst hD; subst hy
  show G X 6 0 [(0, .int p0), (1, .int p1), (2, .int p2)] [] h 0 0
  unfold fX12_part at e
  refine g_iload_n 0 o dX12_part_0 rfl rfl ?_
  refine g_istore_n [(3, .int p0), (0, .int p0), (1, .int p1), (2, .int p2)] o dX12_part_1 rfl (by decide) rfl ?_
  refine g_iload_n 2 o dX12_part_2 rfl rfl ?_
  refine g_istore [(4, .int p1), (3, .int p0), (0, .int p0), (1, .int p1), (2, .int p2)] o dX12_part_3 (by decide) rfl ?_
  refine g_sb [2, 3, 4, 1, 0] rfl ?_
  exact kX12_part_5 f0 o f0 p0 p1 p2 p0 p1 h r hz q e
set_option maxRecDepth 100000 in
set_option maxHeartbeats 4000000 in
theorem kX12_lasts_41 {X : Cx} (f0 : Nat) (o : Ok X cX12_lasts RX12 6 rmX12_lasts (some .int)) (f : Nat) (v0 : Nat) (v1 : Int32) (v2 : Int32) (v3 : Int32) (v4 : Int32) (v5 : Int32) (h : Hp) (r : Int32) (hz : Hp) (q : Rt X (some (.int r)) hz 0 0) (e : bX12_lasts_41 f0 f v0 v1 v2 v3 v4 v5 h = some (r, hz)) : G X 6 41 [(0, .ref v0), (1, .int v1), (2, .int v2), (3, .int v3), (4, .int v4), (5, .int v5)] [] h 0 0 := by
  induction f generalizing v0 v1 v2 v3 v4 v5 h r hz with
  | zero => cases e
  | succ f1 ih =>
    unfold bX12_lasts_41 at e
    refine g_iload 5 o dX12_lasts_41 rfl ?_
    refine g_iload_n 1 o dX12_lasts_43 rfl rfl ?_
    refine g_icmp_ge (x := v5) (y := v1) 73 o dX12_lasts_44 (by decide) (fun u => ?_) (fun u => ?_)
    · rw [if_pos u] at e
      refine g_iload_n 3 o dX12_lasts_73 rfl rfl ?_
      refine g_iload 4 o dX12_lasts_74 rfl ?_
      refine g_iload_n 2 o dX12_lasts_76 rfl rfl ?_
      obtain ⟨x77, h77, q77, e⟩ := ob2_s e
      refine g_callSv [.int v3, .int v4, .int v2] o (mX12_part q77) mw_1582 mw_1583 mw_19 mw_1584 yo_X12_part rfl rfl (Nat.le_of_ble_eq_true rfl) ⟨by decide, by decide⟩ ⟨rfl, rfl⟩ dX12_lasts_77 ⟨by decide, by decide⟩ ?_
      exact g_iret o dX12_lasts_80 (rt_v q e)
    · rw [if_neg u] at e
      refine g_iload_n 3 o dX12_lasts_47 rfl rfl ?_
      refine g_bipush (v := 12) o dX12_lasts_48 (by decide) ?_
      refine g_aload_n 0 o dX12_lasts_50 rfl rfl ?_
      obtain ⟨x51, q51, e⟩ := ob e
      refine g_getN 6 o cf12 (by decide) mw_1192 dX12_lasts_51 q51 ?_
      refine g_bipush (v := 6) o dX12_lasts_54 (by decide) ?_
      obtain ⟨x56, q56, e⟩ := ob e
      refine g_iald o dX12_lasts_56 q56 ?_
      refine g_isub (x := (12 : Int32)) (y := x56) o dX12_lasts_57 ?_
      refine g_imul (x := v3) (y := ((12 : Int32) - x56)) o dX12_lasts_58 ?_
      refine g_istore_n [(3, .int (v3 * ((12 : Int32) - x56))), (0, .ref v0), (1, .int v1), (2, .int v2), (4, .int v4), (5, .int v5)] o dX12_lasts_59 rfl (by decide) rfl ?_
      refine g_iload 4 o dX12_lasts_60 rfl ?_
      refine g_bipush (v := 12) o dX12_lasts_62 (by decide) ?_
      refine g_imul (x := v4) (y := 12) o dX12_lasts_64 ?_
      refine g_istore [(4, .int (v4 * 12)), (3, .int (v3 * ((12 : Int32) - x56))), (0, .ref v0), (1, .int v1), (2, .int v2), (5, .int v5)] o dX12_lasts_65 (by decide) rfl ?_
      refine g_iinc (k := 5) (v := (v5 + 1)) [(5, .int (v5 + 1)), (4, .int (v4 * 12)), (3, .int (v3 * ((12 : Int32) - x56))), (0, .ref v0), (1, .int v1), (2, .int v2)] o dX12_lasts_67 rfl rfl (by decide) rfl ?_
      refine g_goto 41 o dX12_lasts_70 (by decide) ?_
      refine g_sb [3, 4, 5, 2, 1, 0] rfl ?_
      exact ih v0 v1 v2 (v3 * ((12 : Int32) - x56)) (v4 * 12) (v5 + 1) h r hz q e
set_option maxRecDepth 100000 in
set_option maxHeartbeats 4000000 in
theorem kX12_lasts_25 {X : Cx} (f0 : Nat) (o : Ok X cX12_lasts RX12 6 rmX12_lasts (some .int)) (v0 : Nat) (v1 : Int32) (v2 : Int32) (s0 : Nat) (s1 : Int32) (h : Hp) (r : Int32) (hz : Hp) (q : Rt X (some (.int r)) hz 0 0) (e : bX12_lasts_25 f0 v0 v1 v2 s0 s1 h = some (r, hz)) : G X 6 25 [(0, .ref v0), (1, .int v1), (2, .int v2)] [.int s1, .ref s0] h 0 0 := by
  unfold bX12_lasts_25 at e
  obtain ⟨_, k25, e⟩ := ob e
  obtain ⟨x25, h25, q25, e⟩ := ob2_s e
  refine g_callVv [.int s1] o (mX12_throwsIf q25) cf12 (ckO_s k25) mw_1372 mw_1373 mw_1748 mw_19 mw_1374 rfl yo_X12_throwsIf rfl rfl (Nat.le_of_ble_eq_true rfl) ⟨by decide, by decide⟩ ⟨rfl, rfl⟩ dX12_lasts_25 ⟨by decide, by decide⟩ ?_
  refine g_if_eq (x := x25) 33 o dX12_lasts_28 (by decide) (fun u => ?_) (fun u => ?_)
  · rw [if_pos u] at e
    refine g_iconst (v := 1) o dX12_lasts_33 (by decide) ?_
    refine g_istore_n [(3, .int 1), (0, .ref v0), (1, .int v1), (2, .int v2)] o dX12_lasts_34 rfl (by decide) rfl ?_
    refine g_iconst (v := 1) o dX12_lasts_35 (by decide) ?_
    refine g_istore [(4, .int 1), (3, .int 1), (0, .ref v0), (1, .int v1), (2, .int v2)] o dX12_lasts_36 (by decide) rfl ?_
    refine g_iconst (v := 0) o dX12_lasts_38 (by decide) ?_
    refine g_istore [(5, .int 0), (4, .int 1), (3, .int 1), (0, .ref v0), (1, .int v1), (2, .int v2)] o dX12_lasts_39 (by decide) rfl ?_
    refine g_sb [3, 4, 5, 2, 1, 0] rfl ?_
    exact kX12_lasts_41 f0 o f0 v0 v1 v2 1 1 0 h25 r hz q e
  · rw [if_neg u] at e
    refine g_iconst (v := 0) o dX12_lasts_31 (by decide) ?_
    exact g_iret o dX12_lasts_32 (rt_v q e)
set_option maxRecDepth 100000 in
set_option maxHeartbeats 4000000 in
theorem kX12_lasts_20 {X : Cx} (f0 : Nat) (o : Ok X cX12_lasts RX12 6 rmX12_lasts (some .int)) (v0 : Nat) (v1 : Int32) (v2 : Int32) (s0 : Nat) (h : Hp) (r : Int32) (hz : Hp) (q : Rt X (some (.int r)) hz 0 0) (e : bX12_lasts_20 f0 v0 v1 v2 s0 h = some (r, hz)) : G X 6 20 [(0, .ref v0), (1, .int v1), (2, .int v2)] [.ref s0] h 0 0 := by
  unfold bX12_lasts_20 at e
  refine g_iconst (v := 1) o dX12_lasts_20 (by decide) ?_
  refine g_goto 25 o dX12_lasts_21 (by decide) ?_
  exact kX12_lasts_25 f0 o v0 v1 v2 s0 1 h r hz q e
theorem yo_X12_lasts : yok yX12_lasts 2 := ⟨by decide, by decide, by decide +kernel⟩
set_option maxRecDepth 100000 in
set_option maxHeartbeats 4000000 in
theorem mX12_lasts {l : Launch} {D : va_G} {cy : Nat → ClassId} {f0 : Nat} {a : Nat} {p0 : Int32} {p1 : Int32} {h : Hp} {r : Int32} {hz : Hp} (e : fX12_lasts f0 a p0 p1 h = some (r, hz)) : MC l D cy yX12_lasts cX12_lasts 6 (some .int) rmX12_lasts [.ref a, .int p0, .int p1] h (some (.int r)) hz := by
  refine mc_of2 (by decide) (Nat.le_of_ble_eq_true rfl) (fun X hl hD hy hin o q => ?_)
  subst hl; subst hD; subst hy
  show G X 6 0 [(0, .ref a), (1, .int p0), (2, .int p1)] [] h 0 0
  unfold fX12_lasts at e
  refine g_aload_n 0 o dX12_lasts_0 rfl rfl ?_
  refine g_iload_n 1 o dX12_lasts_1 rfl rfl ?_
  refine g_iconst (v := 0) o dX12_lasts_2 (by decide) ?_
  refine g_bipush (v := 6) o dX12_lasts_3 (by decide) ?_
  obtain ⟨x5, h5, q5, e⟩ := ob2_s e
  refine g_callSv [.int p0, .int 0, .int 6] o (mX12_isIn q5) mw_1337 mw_1338 mw_19 mw_1339 yo_X12_isIn rfl rfl (Nat.le_of_ble_eq_true rfl) ⟨by decide, by decide⟩ ⟨rfl, rfl⟩ dX12_lasts_5 ⟨by decide, by decide⟩ ?_
  refine g_if_eq (x := x5) 20 o dX12_lasts_8 (by decide) (fun u => ?_) (fun u => ?_)
  · rw [if_pos u] at e
    exact kX12_lasts_20 f0 o a p0 p1 a h5 r hz q e
  · rw [if_neg u] at e
    refine g_iload_n 2 o dX12_lasts_11 rfl rfl ?_
    refine g_iconst (v := 0) o dX12_lasts_12 (by decide) ?_
    refine g_iconst (v := 1) o dX12_lasts_13 (by decide) ?_
    obtain ⟨x14, h14, q14, e⟩ := ob2_s e
    refine g_callSv [.int p1, .int 0, .int 1] o (mX12_isIn q14) mw_1337 mw_1338 mw_19 mw_1339 yo_X12_isIn rfl rfl (Nat.le_of_ble_eq_true rfl) ⟨by decide, by decide⟩ ⟨rfl, rfl⟩ dX12_lasts_14 ⟨by decide, by decide⟩ ?_
    refine g_if_ne (x := x14) 24 o dX12_lasts_17 (by decide) (fun u => ?_) (fun u => ?_)
    · rw [if_neg u] at e
      refine g_iconst (v := 0) o dX12_lasts_24 (by decide) ?_
      exact kX12_lasts_25 f0 o a p0 p1 a 0 h14 r hz q e
    · rw [if_pos u] at e
      exact kX12_lasts_20 f0 o a p0 p1 a h14 r hz q e
set_option maxRecDepth 100000 in
set_option maxHeartbeats 4000000 in
theorem kX12_soonestOf_136 {X : Cx} (f0 : Nat) (g14 : Nat → Int32 → Hp → Option (Hp)) (i14 : ∀ (v02 : Nat) (v12 : Int32) (h2 : Hp) (hz : Hp), Rt X none hz 0 0 → g14 v02 v12 h2 = some hz → G X 4 14 [(0, .ref v02), (1, .int v12)] [] h2 0 0) (o : Ok X cX12_soonestOf RX12 4 rmX12_soonestOf none) (v0 : Nat) (v1 : Int32) (h : Hp) (hz : Hp) (q : Rt X none hz 0 0) (e : bX12_soonestOf_136 f0 g14 v0 v1 h = some hz) : G X 4 136 [(0, .ref v0), (1, .int v1)] [] h 0 0 := by
  unfold bX12_soonestOf_136 at e
  refine g_iinc (k := 1) (v := (v1 + 1)) [(1, .int (v1 + 1)), (0, .ref v0)] o dX12_soonestOf_136 rfl rfl (by decide) rfl ?_
  refine g_goto 14 o dX12_soonestOf_139 (by decide) ?_
  refine g_sb [1, 0] rfl ?_
  exact i14 v0 (v1 + 1) h hz q e
set_option maxRecDepth 100000 in
set_option maxHeartbeats 4000000 in
theorem kX12_soonestOf_126 {X : Cx} (f0 : Nat) (g14 : Nat → Int32 → Hp → Option (Hp)) (i14 : ∀ (v02 : Nat) (v12 : Int32) (h2 : Hp) (hz : Hp), Rt X none hz 0 0 → g14 v02 v12 h2 = some hz → G X 4 14 [(0, .ref v02), (1, .int v12)] [] h2 0 0) (o : Ok X cX12_soonestOf RX12 4 rmX12_soonestOf none) (v0 : Nat) (v1 : Int32) (v3 : Int32) (h : Hp) (hz : Hp) (q : Rt X none hz 0 0) (e : bX12_soonestOf_126 f0 g14 v0 v1 v3 h = some hz) : G X 4 126 [(0, .ref v0), (1, .int v1), (3, .int v3)] [] h 0 0 := by
  unfold bX12_soonestOf_126 at e
  refine g_aload_n 0 o dX12_soonestOf_126 rfl rfl ?_
  refine g_iload_n 2 o dX12_soonestOf_127 rfl rfl ?_
  obtain ⟨h128, q128, e⟩ := ob e
  refine g_put (ty1 := .int) 33 o cf12 (by decide) mw_1219 rfl (by decide +kernel) rfl rfl dX12_soonestOf_128 q128 ?_
  refine g_aload_n 0 o dX12_soonestOf_131 rfl rfl ?_
  refine g_iload_n 1 o dX12_soonestOf_132 rfl rfl ?_
  obtain ⟨h133, q133, e⟩ := ob e
  refine g_put (ty1 := .int) 34 o cf12 (by decide) mw_1220 rfl (by decide +kernel) rfl rfl dX12_soonestOf_133 q133 ?_
  refine g_sb [0, 1] rfl ?_
  exact kX12_soonestOf_136 f0 g14 i14 o v0 v1 h133 hz q e
set_option maxRecDepth 100000 in
set_option maxHeartbeats 4000000 in
theorem kX12_soonestOf_14 {X : Cx} (f0 : Nat) (o : Ok X cX12_soonestOf RX12 4 rmX12_soonestOf none) (f : Nat) (v0 : Nat) (v1 : Int32) (h : Hp) (hz : Hp) (q : Rt X none hz 0 0) (e : bX12_soonestOf_14 f0 f v0 v1 h = some hz) : G X 4 14 [(0, .ref v0), (1, .int v1)] [] h 0 0 := by
  induction f generalizing v0 v1 h hz with
  | zero => cases e
  | succ f1 ih =>
    unfold bX12_soonestOf_14 at e
    refine g_iload_n 1 o dX12_soonestOf_14 rfl rfl ?_
    refine g_aload_n 0 o dX12_soonestOf_15 rfl rfl ?_
    obtain ⟨x16, q16, e⟩ := ob e
    refine g_getN 6 o cf12 (by decide) mw_1192 dX12_soonestOf_16 q16 ?_
    refine g_iconst (v := 0) o dX12_soonestOf_19 (by decide) ?_
    obtain ⟨x20, q20, e⟩ := ob e
    refine g_iald o dX12_soonestOf_20 q20 ?_
    refine g_icmp_ge (x := v1) (y := x20) 142 o dX12_soonestOf_21 (by decide) (fun u => ?_) (fun u => ?_)
    · rw [if_pos u] at e
      exact g_vret o dX12_soonestOf_142 (rt_0 q e)
    · rw [if_neg u] at e
      refine g_aload_n 0 o dX12_soonestOf_24 rfl rfl ?_
      obtain ⟨_, k25, e⟩ := ob e
      obtain ⟨x25, h25, q25, e⟩ := ob2_s e
      refine g_callVv [] o (mX12_canAct q25) cf12 (ckO_s k25) mw_1416 mw_1417 mw_1756 mw_19 mw_1418 rfl yo_X12_canAct rfl rfl (Nat.le_of_ble_eq_true rfl) ⟨by decide, by decide⟩ ⟨rfl, rfl⟩ dX12_soonestOf_25 ⟨by decide, by decide⟩ ?_
      refine g_if_eq (x := x25) 142 o dX12_soonestOf_28 (by decide) (fun u => ?_) (fun u => ?_)
      · rw [if_pos u] at e
        exact g_vret o dX12_soonestOf_142 (rt_0 q e)
      · rw [if_neg u] at e
        refine g_aload_n 0 o dX12_soonestOf_31 rfl rfl ?_
        obtain ⟨x32, q32, e⟩ := ob e
        refine g_getN 21 o cf12 (by decide) mw_1207 dX12_soonestOf_32 q32 ?_
        refine g_aload_n 0 o dX12_soonestOf_35 rfl rfl ?_
        obtain ⟨x36, q36, e⟩ := ob e
        refine g_getN 6 o cf12 (by decide) mw_1192 dX12_soonestOf_36 q36 ?_
        refine g_sipush (v := 313) o dX12_soonestOf_39 (by decide) ?_
        obtain ⟨x42, q42, e⟩ := ob e
        refine g_iald o dX12_soonestOf_42 q42 ?_
        refine g_iload_n 1 o dX12_soonestOf_43 rfl rfl ?_
        obtain ⟨x44, h44, q44, e⟩ := ob2_s e
        refine g_callSv [.int x42, .int v1] o (mX12_cell q44) mw_1180 mw_1181 mw_19 mw_1182 yo_X12_cell rfl rfl (Nat.le_of_ble_eq_true rfl) ⟨by decide, by decide⟩ ⟨rfl, rfl⟩ dX12_soonestOf_44 ⟨by decide, by decide⟩ ?_
        obtain ⟨x47, q47, e⟩ := ob e
        refine g_iald o dX12_soonestOf_47 q47 ?_
        refine g_istore_n [(2, .int x47), (0, .ref v0), (1, .int v1)] o dX12_soonestOf_48 rfl (by decide) rfl ?_
        refine g_aload_n 1 o dX12_soonestOf_49 rfl rfl ?_
        obtain ⟨x50, q50, e⟩ := ob e
        refine g_getN 6 o cf12 (by decide) mw_1192 dX12_soonestOf_50 q50 ?_
        refine g_sipush (v := 312) o dX12_soonestOf_53 (by decide) ?_
        obtain ⟨x56, q56, e⟩ := ob e
        refine g_iald o dX12_soonestOf_56 q56 ?_
        refine g_iload_n 0 o dX12_soonestOf_57 rfl rfl ?_
        refine g_iadd (x := x56) (y := x47) o dX12_soonestOf_58 ?_
        refine g_istore_n [(3, .int (x56 + x47)), (2, .int x47), (0, .ref v0), (1, .int v1)] o dX12_soonestOf_59 rfl (by decide) rfl ?_
        refine g_iload_n 1 o dX12_soonestOf_60 rfl rfl ?_
        refine g_ldc_w (v := 1000000) o dX12_soonestOf_61 mw_1179 ?_
        refine g_icmp_ge (x := x47) (y := 1000000) 136 o dX12_soonestOf_64 (by decide) (fun u => ?_) (fun u => ?_)
        · rw [if_pos u] at e
          refine g_sb [2, 3] rfl ?_
          exact kX12_soonestOf_136 f0 (bX12_soonestOf_14 f0 f1) ih o v0 v1 h44 hz q e
        · rw [if_neg u] at e
          refine g_aload_n 2 o dX12_soonestOf_67 rfl rfl ?_
          refine g_aload_n 2 o dX12_soonestOf_68 rfl rfl ?_
          obtain ⟨x69, q69, e⟩ := ob e
          refine g_getN 6 o cf12 (by decide) mw_1192 dX12_soonestOf_69 q69 ?_
          refine g_sipush (v := 314) o dX12_soonestOf_72 (by decide) ?_
          obtain ⟨x75, q75, e⟩ := ob e
          refine g_iald o dX12_soonestOf_75 q75 ?_
          refine g_iload_n 3 o dX12_soonestOf_76 rfl rfl ?_
          obtain ⟨_, k77, e⟩ := ob e
          obtain ⟨x77, h77, q77, e⟩ := ob2_s e
          refine g_callVv [.int x75, .int v1] o (mX12_owed q77) cf12 (ckO_s k77) mw_1402 mw_1403 mw_1754 mw_19 mw_1404 rfl yo_X12_owed rfl rfl (Nat.le_of_ble_eq_true rfl) ⟨by decide, by decide⟩ ⟨rfl, rfl⟩ dX12_soonestOf_77 ⟨by decide, by decide⟩ ?_
          refine g_if_eq (x := x77) 136 o dX12_soonestOf_80 (by decide) (fun u => ?_) (fun u => ?_)
          · rw [if_pos u] at e
            refine g_sb [2, 3] rfl ?_
            exact kX12_soonestOf_136 f0 (bX12_soonestOf_14 f0 f1) ih o v0 v1 h77 hz q e
          · rw [if_neg u] at e
            refine g_iload_n 0 o dX12_soonestOf_83 rfl rfl ?_
            refine g_aload_n 2 o dX12_soonestOf_84 rfl rfl ?_
            obtain ⟨x85, q85, e⟩ := ob e
            refine g_getI 33 o cf12 (by decide) mw_1219 dX12_soonestOf_85 q85 ?_
            refine g_icmp_lt (x := (x56 + x47)) (y := x85) 94 o dX12_soonestOf_88 (by decide) (fun u => ?_) (fun u => ?_)
            · rw [if_pos u] at e
              refine g_iload_n 3 o dX12_soonestOf_94 rfl rfl ?_
              refine g_aload_n 2 o dX12_soonestOf_95 rfl rfl ?_
              obtain ⟨x96, q96, e⟩ := ob e
              refine g_getN 6 o cf12 (by decide) mw_1192 dX12_soonestOf_96 q96 ?_
              refine g_sipush (v := 313) o dX12_soonestOf_99 (by decide) ?_
              obtain ⟨x102, q102, e⟩ := ob e
              refine g_iald o dX12_soonestOf_102 q102 ?_
              refine g_icmp_eq (x := v1) (y := x102) 126 o dX12_soonestOf_103 (by decide) (fun u => ?_) (fun u => ?_)
              · rw [if_pos u] at e
                refine g_sb [2, 3, 0] rfl ?_
                exact kX12_soonestOf_126 f0 (bX12_soonestOf_14 f0 f1) ih o v0 v1 (x56 + x47) h77 hz q e
              · rw [if_neg u] at e
                refine g_aload_n 2 o dX12_soonestOf_106 rfl rfl ?_
                refine g_iload_n 3 o dX12_soonestOf_107 rfl rfl ?_
                refine g_aload_n 2 o dX12_soonestOf_108 rfl rfl ?_
                obtain ⟨x109, q109, e⟩ := ob e
                refine g_getN 6 o cf12 (by decide) mw_1192 dX12_soonestOf_109 q109 ?_
                refine g_sipush (v := 314) o dX12_soonestOf_112 (by decide) ?_
                obtain ⟨x115, q115, e⟩ := ob e
                refine g_iald o dX12_soonestOf_115 q115 ?_
                obtain ⟨_, k116, e⟩ := ob e
                obtain ⟨x116, h116, q116, e⟩ := ob2_s e
                refine g_callVv [.int v1, .int x115] o (mX12_knowsFrom q116) cf12 (ckO_s k116) mw_1378 mw_1379 mw_1750 mw_19 mw_1380 rfl yo_X12_knowsFrom rfl rfl (Nat.le_of_ble_eq_true rfl) ⟨by decide, by decide⟩ ⟨rfl, rfl⟩ dX12_soonestOf_116 ⟨by decide, by decide⟩ ?_
                refine g_iload_n 0 o dX12_soonestOf_119 rfl rfl ?_
                refine g_icmp_gt (x := x116) (y := (x56 + x47)) 126 o dX12_soonestOf_120 (by decide) (fun u => ?_) (fun u => ?_)
                · rw [if_pos u] at e
                  refine g_sb [2, 3, 0] rfl ?_
                  exact kX12_soonestOf_126 f0 (bX12_soonestOf_14 f0 f1) ih o v0 v1 (x56 + x47) h116 hz q e
                · rw [if_neg u] at e
                  refine g_goto 136 o dX12_soonestOf_123 (by decide) ?_
                  refine g_sb [2, 3] rfl ?_
                  exact kX12_soonestOf_136 f0 (bX12_soonestOf_14 f0 f1) ih o v0 v1 h116 hz q e
            · rw [if_neg u] at e
              refine g_goto 136 o dX12_soonestOf_91 (by decide) ?_
              refine g_sb [2, 3] rfl ?_
              exact kX12_soonestOf_136 f0 (bX12_soonestOf_14 f0 f1) ih o v0 v1 h77 hz q e
theorem yo_X12_soonestOf : yok yX12_soonestOf 0 := ⟨by decide, by decide, by decide +kernel⟩
set_option maxRecDepth 100000 in
set_option maxHeartbeats 4000000 in
theorem mX12_soonestOf {l : Launch} {D : va_G} {cy : Nat → ClassId} {f0 : Nat} {a : Nat} {h : Hp} {hz : Hp} (e : fX12_soonestOf f0 a h = some hz) : MC l D cy yX12_soonestOf cX12_soonestOf 4 none rmX12_soonestOf [.ref a] h none hz := by
  refine mc_of2 (by decide) (Nat.le_of_ble_eq_true rfl) (fun X hl hD hy hin o q => ?_)
  subst hl; subst hD; subst hy
  show G X 4 0 [(0, .ref a)] [] h 0 0
  unfold fX12_soonestOf at e
  refine g_aload_n 0 o dX12_soonestOf_0 rfl rfl ?_
  refine g_ldc_w (v := 1000000) o dX12_soonestOf_1 mw_1179 ?_
  obtain ⟨h4, q4, e⟩ := ob e
  refine g_put (ty1 := .int) 33 o cf12 (by decide) mw_1219 rfl (by decide +kernel) rfl rfl dX12_soonestOf_4 q4 ?_
  refine g_aload_n 0 o dX12_soonestOf_7 rfl rfl ?_
  refine g_iconst (v := -1) o dX12_soonestOf_8 (by decide) ?_
  obtain ⟨h9, q9, e⟩ := ob e
  refine g_put (ty1 := .int) 34 o cf12 (by decide) mw_1220 rfl (by decide +kernel) rfl rfl dX12_soonestOf_9 q9 ?_
  refine g_iconst (v := 0) o dX12_soonestOf_12 (by decide) ?_
  refine g_istore_n [(1, .int 0), (0, .ref a)] o dX12_soonestOf_13 rfl (by decide) rfl ?_
  refine g_sb [1, 0] rfl ?_
  exact kX12_soonestOf_14 f0 o f0 a 0 h9 hz q e
theorem yo_X12_soonest : yok yX12_soonest 0 := ⟨by decide, by decide, by decide +kernel⟩
set_option maxRecDepth 100000 in
set_option maxHeartbeats 4000000 in
theorem mX12_soonest {l : Launch} {D : va_G} {cy : Nat → ClassId} {f0 : Nat} {a : Nat} {h : Hp} {r : Int32} {hz : Hp} (e : fX12_soonest f0 a h = some (r, hz)) : MC l D cy yX12_soonest cX12_soonest 1 (some .int) rmX12_soonest [.ref a] h (some (.int r)) hz := by
  refine mc_of2 (by decide) (Nat.le_of_ble_eq_true rfl) (fun X hl hD hy hin o q => ?_)
  subst hl; subst hD; subst hy
  show G X 1 0 [(0, .ref a)] [] h 0 0
  unfold fX12_soonest at e
  refine g_aload_n 0 o dX12_soonest_0 rfl rfl ?_
  refine g_iconst (v := 0) o dX12_soonest_1 (by decide) ?_
  obtain ⟨h2, q2, e⟩ := ob e
  refine g_put (ty1 := .int) 0 o cf12 (by decide) mw_1186 rfl (by decide +kernel) rfl rfl dX12_soonest_2 q2 ?_
  refine g_aload_n 0 o dX12_soonest_5 rfl rfl ?_
  obtain ⟨_, k6, e⟩ := ob e
  obtain ⟨h6, q6, e⟩ := ob e
  refine g_callV0 [] o (mX12_soonestOf q6) cf12 (ckO_s k6) mw_1589 mw_1590 mw_1779 mw_19 mw_1591 rfl yo_X12_soonestOf rfl rfl (Nat.le_of_ble_eq_true rfl) ⟨by decide, by decide⟩ ⟨rfl, rfl⟩ dX12_soonest_6 ⟨by decide, by decide⟩ ?_
  refine g_aload_n 0 o dX12_soonest_9 rfl rfl ?_
  obtain ⟨x10, q10, e⟩ := ob e
  refine g_getI 34 o cf12 (by decide) mw_1220 dX12_soonest_10 q10 ?_
  refine g_if_ge (x := x10) 20 o dX12_soonest_13 (by decide) (fun u => ?_) (fun u => ?_)
  · rw [if_pos u] at e
    refine g_aload_n 0 o dX12_soonest_20 rfl rfl ?_
    obtain ⟨x21, q21, e⟩ := ob e
    refine g_getI 33 o cf12 (by decide) mw_1219 dX12_soonest_21 q21 ?_
    exact g_iret o dX12_soonest_24 (rt_v q e)
  · rw [if_neg u] at e
    refine g_iconst (v := -1) o dX12_soonest_16 (by decide) ?_
    refine g_goto 24 o dX12_soonest_17 (by decide) ?_
    exact g_iret o dX12_soonest_24 (rt_v q e)
theorem yo_X12_where : yok yX12_where 0 := ⟨by decide, by decide, by decide +kernel⟩
set_option maxRecDepth 100000 in
set_option maxHeartbeats 4000000 in
theorem mX12_where {l : Launch} {D : va_G} {cy : Nat → ClassId} {f0 : Nat} {a : Nat} {h : Hp} {r : Int32} {hz : Hp} (e : fX12_where f0 a h = some (r, hz)) : MC l D cy yX12_where cX12_where 1 (some .int) rmX12_where [.ref a] h (some (.int r)) hz := by
  refine mc_of2 (by decide) (Nat.le_of_ble_eq_true rfl) (fun X hl hD hy hin o q => ?_)
  subst hl; subst hD; subst hy
  show G X 1 0 [(0, .ref a)] [] h 0 0
  unfold fX12_where at e
  refine g_aload_n 0 o dX12_where_0 rfl rfl ?_
  refine g_iconst (v := 0) o dX12_where_1 (by decide) ?_
  obtain ⟨h2, q2, e⟩ := ob e
  refine g_put (ty1 := .int) 0 o cf12 (by decide) mw_1186 rfl (by decide +kernel) rfl rfl dX12_where_2 q2 ?_
  refine g_aload_n 0 o dX12_where_5 rfl rfl ?_
  obtain ⟨_, k6, e⟩ := ob e
  obtain ⟨h6, q6, e⟩ := ob e
  refine g_callV0 [] o (mX12_soonestOf q6) cf12 (ckO_s k6) mw_1589 mw_1590 mw_1779 mw_19 mw_1591 rfl yo_X12_soonestOf rfl rfl (Nat.le_of_ble_eq_true rfl) ⟨by decide, by decide⟩ ⟨rfl, rfl⟩ dX12_where_6 ⟨by decide, by decide⟩ ?_
  refine g_aload_n 0 o dX12_where_9 rfl rfl ?_
  obtain ⟨x10, q10, e⟩ := ob e
  refine g_getI 34 o cf12 (by decide) mw_1220 dX12_where_10 q10 ?_
  exact g_iret o dX12_where_13 (rt_v q e)
theorem yo_X12_draw : yok yX12_draw 1 := ⟨by decide, by decide, by decide +kernel⟩
set_option maxRecDepth 100000 in
set_option maxHeartbeats 4000000 in
theorem mX12_draw {l : Launch} {D : va_G} {cy : Nat → ClassId} {f0 : Nat} {a : Nat} {p0 : Int32} {h : Hp} {r : Int32} {hz : Hp} (e : fX12_draw f0 a p0 h = some (r, hz)) : MC l D cy yX12_draw cX12_draw 2 (some .int) rmX12_draw [.ref a, .int p0] h (some (.int r)) hz := by
  refine mc_of2 (by decide) (Nat.le_of_ble_eq_true rfl) (fun X hl hD hy hin o q => ?_)
  subst hl; subst hD; subst hy
  show G X 2 0 [(0, .ref a), (1, .int p0)] [] h 0 0
  unfold fX12_draw at e
  refine g_aload_n 0 o dX12_draw_0 rfl rfl ?_
  refine g_aload_n 0 o dX12_draw_1 rfl rfl ?_
  obtain ⟨x2, q2, e⟩ := ob e
  refine g_getI 35 o cf12 (by decide) mw_1221 dX12_draw_2 q2 ?_
  refine g_ldc_w (v := 1103515245) o dX12_draw_5 mw_1606 ?_
  refine g_imul (x := x2) (y := 1103515245) o dX12_draw_8 ?_
  refine g_sipush (v := 12345) o dX12_draw_9 (by decide) ?_
  refine g_iadd (x := (x2 * 1103515245)) (y := 12345) o dX12_draw_12 ?_
  obtain ⟨h13, q13, e⟩ := ob e
  refine g_put (ty1 := .int) 35 o cf12 (by decide) mw_1221 rfl (by decide +kernel) rfl rfl dX12_draw_13 q13 ?_
  refine g_aload_n 0 o dX12_draw_16 rfl rfl ?_
  obtain ⟨x17, q17, e⟩ := ob e
  refine g_getI 35 o cf12 (by decide) mw_1221 dX12_draw_17 q17 ?_
  refine g_bipush (v := 8) o dX12_draw_20 (by decide) ?_
  refine g_iushr (x := x17) (y := 8) o dX12_draw_22 ?_
  refine g_iload_n 1 o dX12_draw_23 rfl rfl ?_
  obtain ⟨_, z24, e⟩ := ob e
  refine g_irem (x := ((Int32.toUInt32 x17 >>> (Int32.toUInt32 8 &&& Int32.toUInt32 31)).toInt32)) (y := p0) o dX12_draw_24 (nz_s z24) ?_
  exact g_iret o dX12_draw_25 (rt_v q e)
set_option maxRecDepth 100000 in
set_option maxHeartbeats 4000000 in
theorem kX12_draws_134 {X : Cx} (f0 : Nat) (g7 : Nat → Int32 → Int32 → Hp → Option (Int32 × Hp)) (i7 : ∀ (v02 : Nat) (v12 : Int32) (v32 : Int32) (h2 : Hp) (r : Int32) (hz : Hp), Rt X (some (.int r)) hz 0 0 → g7 v02 v12 v32 h2 = some (r, hz) → G X 5 7 [(0, .ref v02), (1, .int v12), (3, .int v32)] [] h2 0 0) (o : Ok X cX12_draws RX12 5 rmX12_draws (some .int)) (v0 : Nat) (v1 : Int32) (v3 : Int32) (h : Hp) (r : Int32) (hz : Hp) (q : Rt X (some (.int r)) hz 0 0) (e : bX12_draws_134 f0 g7 v0 v1 v3 h = some (r, hz)) : G X 5 134 [(0, .ref v0), (1, .int v1), (3, .int v3)] [] h 0 0 := by
  unfold bX12_draws_134 at e
  refine g_iinc (k := 2) (v := (v3 + 1)) [(3, .int (v3 + 1)), (0, .ref v0), (1, .int v1)] o dX12_draws_134 rfl rfl (by decide) rfl ?_
  refine g_goto 7 o dX12_draws_137 (by decide) ?_
  refine g_sb [1, 2, 0] rfl ?_
  exact i7 v0 v1 (v3 + 1) h r hz q e
set_option maxRecDepth 100000 in
set_option maxHeartbeats 4000000 in
theorem kX12_draws_58 {X : Cx} (f0 : Nat) (g7 : Nat → Int32 → Int32 → Hp → Option (Int32 × Hp)) (i7 : ∀ (v02 : Nat) (v12 : Int32) (v32 : Int32) (h2 : Hp) (r : Int32) (hz : Hp), Rt X (some (.int r)) hz 0 0 → g7 v02 v12 v32 h2 = some (r, hz) → G X 5 7 [(0, .ref v02), (1, .int v12), (3, .int v32)] [] h2 0 0) (o : Ok X cX12_draws RX12 5 rmX12_draws (some .int)) (v0 : Nat) (v1 : Int32) (v3 : Int32) (h : Hp) (r : Int32) (hz : Hp) (q : Rt X (some (.int r)) hz 0 0) (e : bX12_draws_58 f0 g7 v0 v1 v3 h = some (r, hz)) : G X 5 58 [(0, .ref v0), (1, .int v1), (3, .int v3)] [] h 0 0 := by
  unfold bX12_draws_58 at e
  refine g_aload_n 0 o dX12_draws_58 rfl rfl ?_
  refine g_aload_n 0 o dX12_draws_59 rfl rfl ?_
  obtain ⟨x60, q60, e⟩ := ob e
  refine g_getN 6 o cf12 (by decide) mw_1192 dX12_draws_60 q60 ?_
  refine g_iconst (v := 0) o dX12_draws_63 (by decide) ?_
  obtain ⟨x64, q64, e⟩ := ob e
  refine g_iald o dX12_draws_64 q64 ?_
  obtain ⟨_, k65, e⟩ := ob e
  obtain ⟨x65, h65, q65, e⟩ := ob2_s e
  refine g_callVv [.int x64] o (mX12_draw q65) cf12 (ckO_s k65) mw_1603 mw_1604 mw_1781 mw_19 mw_1605 rfl yo_X12_draw rfl rfl (Nat.le_of_ble_eq_true rfl) ⟨by decide, by decide⟩ ⟨rfl, rfl⟩ dX12_draws_65 ⟨by decide, by decide⟩ ?_
  refine g_istore [(4, .int x65), (0, .ref v0), (1, .int v1), (3, .int v3)] o dX12_draws_68 (by decide) rfl ?_
  refine g_aload_n 1 o dX12_draws_70 rfl rfl ?_
  refine g_iload 0 o dX12_draws_71 rfl ?_
  obtain ⟨_, k73, e⟩ := ob e
  obtain ⟨x73, h73, q73, e⟩ := ob2_s e
  refine g_callVv [.int x65] o (mX12_whySail q73) cf12 (ckO_s k73) mw_1441 mw_1442 mw_1763 mw_19 mw_1443 rfl yo_X12_whySail rfl rfl (Nat.le_of_ble_eq_true rfl) ⟨by decide, by decide⟩ ⟨rfl, rfl⟩ dX12_draws_73 ⟨by decide, by decide⟩ ?_
  refine g_if_ne (x := x73) 134 o dX12_draws_76 (by decide) (fun u => ?_) (fun u => ?_)
  · rw [if_neg u] at e
    refine g_sb [1, 2, 3] rfl ?_
    exact kX12_draws_134 f0 g7 i7 o v0 v1 v3 h73 r hz q e
  · rw [if_pos u] at e
    refine g_aload_n 1 o dX12_draws_79 rfl rfl ?_
    refine g_iload 0 o dX12_draws_80 rfl ?_
    obtain ⟨_, k82, e⟩ := ob e
    obtain ⟨h82, q82, e⟩ := ob e
    refine g_callV0 [.int x65] o (mX12_sails q82) cf12 (ckO_s k82) mw_1444 mw_1445 mw_1764 mw_19 mw_1446 rfl yo_X12_sails rfl rfl (Nat.le_of_ble_eq_true rfl) ⟨by decide, by decide⟩ ⟨rfl, rfl⟩ dX12_draws_82 ⟨by decide, by decide⟩ ?_
    refine g_aload_n 1 o dX12_draws_85 rfl rfl ?_
    obtain ⟨x86, q86, e⟩ := ob e
    refine g_getN 6 o cf12 (by decide) mw_1192 dX12_draws_86 q86 ?_
    refine g_sipush (v := 317) o dX12_draws_89 (by decide) ?_
    obtain ⟨x92, q92, e⟩ := ob e
    refine g_iald o dX12_draws_92 q92 ?_
    refine g_if_ne (x := x92) 134 o dX12_draws_93 (by decide) (fun u => ?_) (fun u => ?_)
    · rw [if_neg u] at e
      refine g_sb [1, 2, 3] rfl ?_
      exact kX12_draws_134 f0 g7 i7 o v0 v1 v3 h82 r hz q e
    · rw [if_pos u] at e
      refine g_aload_n 1 o dX12_draws_96 rfl rfl ?_
      refine g_bipush (v := 12) o dX12_draws_97 (by decide) ?_
      obtain ⟨_, k99, e⟩ := ob e
      obtain ⟨x99, h99, q99, e⟩ := ob2_s e
      refine g_callVv [.int 12] o (mX12_draw q99) cf12 (ckO_s k99) mw_1603 mw_1604 mw_1781 mw_19 mw_1605 rfl yo_X12_draw rfl rfl (Nat.le_of_ble_eq_true rfl) ⟨by decide, by decide⟩ ⟨rfl, rfl⟩ dX12_draws_99 ⟨by decide, by decide⟩ ?_
      refine g_aload_n 1 o dX12_draws_102 rfl rfl ?_
      obtain ⟨x103, q103, e⟩ := ob e
      refine g_getN 6 o cf12 (by decide) mw_1192 dX12_draws_103 q103 ?_
      refine g_bipush (v := 6) o dX12_draws_106 (by decide) ?_
      obtain ⟨x108, q108, e⟩ := ob e
      refine g_iald o dX12_draws_108 q108 ?_
      refine g_icmp_ge (x := x99) (y := x108) 134 o dX12_draws_109 (by decide) (fun u => ?_) (fun u => ?_)
      · rw [if_pos u] at e
        refine g_sb [1, 2, 3] rfl ?_
        exact kX12_draws_134 f0 g7 i7 o v0 v1 v3 h99 r hz q e
      · rw [if_neg u] at e
        refine g_aload_n 1 o dX12_draws_112 rfl rfl ?_
        refine g_iload 0 o dX12_draws_113 rfl ?_
        refine g_aload_n 1 o dX12_draws_115 rfl rfl ?_
        obtain ⟨x116, q116, e⟩ := ob e
        refine g_getN 6 o cf12 (by decide) mw_1192 dX12_draws_116 q116 ?_
        refine g_sipush (v := 314) o dX12_draws_119 (by decide) ?_
        obtain ⟨x122, q122, e⟩ := ob e
        refine g_iald o dX12_draws_122 q122 ?_
        refine g_aload_n 1 o dX12_draws_123 rfl rfl ?_
        obtain ⟨x124, q124, e⟩ := ob e
        refine g_getN 6 o cf12 (by decide) mw_1192 dX12_draws_124 q124 ?_
        refine g_sipush (v := 312) o dX12_draws_127 (by decide) ?_
        obtain ⟨x130, q130, e⟩ := ob e
        refine g_iald o dX12_draws_130 q130 ?_
        obtain ⟨_, k131, e⟩ := ob e
        obtain ⟨h131, q131, e⟩ := ob e
        refine g_callV0 [.int x65, .int x122, .int x130] o (mX12_learnsName q131) cf12 (ckO_s k131) mw_1447 mw_1448 mw_1765 mw_19 mw_1449 rfl yo_X12_learnsName rfl rfl (Nat.le_of_ble_eq_true rfl) ⟨by decide, by decide⟩ ⟨rfl, rfl⟩ dX12_draws_131 ⟨by decide, by decide⟩ ?_
        refine g_sb [1, 2, 3] rfl ?_
        exact kX12_draws_134 f0 g7 i7 o v0 v1 v3 h131 r hz q e
set_option maxRecDepth 100000 in
set_option maxHeartbeats 4000000 in
theorem kX12_draws_140 {X : Cx} (f0 : Nat) (o : Ok X cX12_draws RX12 5 rmX12_draws (some .int)) (v3 : Int32) (h : Hp) (r : Int32) (hz : Hp) (q : Rt X (some (.int r)) hz 0 0) (e : bX12_draws_140 f0 v3 h = some (r, hz)) : G X 5 140 [(3, .int v3)] [] h 0 0 := by
  unfold bX12_draws_140 at e
  refine g_iload_n 0 o dX12_draws_140 rfl rfl ?_
  exact g_iret o dX12_draws_141 (rt_v q e)
set_option maxRecDepth 100000 in
set_option maxHeartbeats 4000000 in
theorem kX12_draws_7 {X : Cx} (f0 : Nat) (o : Ok X cX12_draws RX12 5 rmX12_draws (some .int)) (f : Nat) (v0 : Nat) (v1 : Int32) (v3 : Int32) (h : Hp) (r : Int32) (hz : Hp) (q : Rt X (some (.int r)) hz 0 0) (e : bX12_draws_7 f0 f v0 v1 v3 h = some (r, hz)) : G X 5 7 [(0, .ref v0), (1, .int v1), (3, .int v3)] [] h 0 0 := by
  induction f generalizing v0 v1 v3 h r hz with
  | zero => cases e
  | succ f1 ih =>
    unfold bX12_draws_7 at e
    refine g_iload_n 2 o dX12_draws_7 rfl rfl ?_
    refine g_iload_n 1 o dX12_draws_8 rfl rfl ?_
    refine g_icmp_ge (x := v3) (y := v1) 140 o dX12_draws_9 (by decide) (fun u => ?_) (fun u => ?_)
    · rw [if_pos u] at e
      refine g_sb [2] rfl ?_
      exact kX12_draws_140 f0 o v3 h r hz q e
    · rw [if_neg u] at e
      refine g_aload_n 0 o dX12_draws_12 rfl rfl ?_
      obtain ⟨x13, q13, e⟩ := ob e
      refine g_getN 6 o cf12 (by decide) mw_1192 dX12_draws_13 q13 ?_
      refine g_sipush (v := 317) o dX12_draws_16 (by decide) ?_
      obtain ⟨x19, q19, e⟩ := ob e
      refine g_iald o dX12_draws_19 q19 ?_
      refine g_if_ne (x := x19) 140 o dX12_draws_20 (by decide) (fun u => ?_) (fun u => ?_)
      · rw [if_neg u] at e
        refine g_sb [2] rfl ?_
        exact kX12_draws_140 f0 o v3 h r hz q e
      · rw [if_pos u] at e
        refine g_aload_n 0 o dX12_draws_23 rfl rfl ?_
        refine g_iconst (v := 3) o dX12_draws_24 (by decide) ?_
        obtain ⟨_, k25, e⟩ := ob e
        obtain ⟨x25, h25, q25, e⟩ := ob2_s e
        refine g_callVv [.int 3] o (mX12_draw q25) cf12 (ckO_s k25) mw_1603 mw_1604 mw_1781 mw_19 mw_1605 rfl yo_X12_draw rfl rfl (Nat.le_of_ble_eq_true rfl) ⟨by decide, by decide⟩ ⟨rfl, rfl⟩ dX12_draws_25 ⟨by decide, by decide⟩ ?_
        refine g_if_ne (x := x25) 58 o dX12_draws_28 (by decide) (fun u => ?_) (fun u => ?_)
        · rw [if_neg u] at e
          exact kX12_draws_58 f0 (bX12_draws_7 f0 f1) ih o v0 v1 v3 h25 r hz q e
        · rw [if_pos u] at e
          refine g_aload_n 0 o dX12_draws_31 rfl rfl ?_
          refine g_aload_n 0 o dX12_draws_32 rfl rfl ?_
          obtain ⟨x33, q33, e⟩ := ob e
          refine g_getN 6 o cf12 (by decide) mw_1192 dX12_draws_33 q33 ?_
          refine g_iconst (v := 1) o dX12_draws_36 (by decide) ?_
          obtain ⟨x37, q37, e⟩ := ob e
          refine g_iald o dX12_draws_37 q37 ?_
          obtain ⟨_, k38, e⟩ := ob e
          obtain ⟨x38, h38, q38, e⟩ := ob2_s e
          refine g_callVv [.int x37] o (mX12_draw q38) cf12 (ckO_s k38) mw_1603 mw_1604 mw_1781 mw_19 mw_1605 rfl yo_X12_draw rfl rfl (Nat.le_of_ble_eq_true rfl) ⟨by decide, by decide⟩ ⟨rfl, rfl⟩ dX12_draws_38 ⟨by decide, by decide⟩ ?_
          refine g_istore [(4, .int x38), (0, .ref v0), (1, .int v1), (3, .int v3)] o dX12_draws_41 (by decide) rfl ?_
          refine g_aload_n 1 o dX12_draws_43 rfl rfl ?_
          refine g_iload 0 o dX12_draws_44 rfl ?_
          obtain ⟨_, k46, e⟩ := ob e
          obtain ⟨x46, h46, q46, e⟩ := ob2_s e
          refine g_callVv [.int x38] o (mX12_whyPaint q46) cf12 (ckO_s k46) mw_1413 mw_1414 mw_1755 mw_19 mw_1415 rfl yo_X12_whyPaint rfl rfl (Nat.le_of_ble_eq_true rfl) ⟨by decide, by decide⟩ ⟨rfl, rfl⟩ dX12_draws_46 ⟨by decide, by decide⟩ ?_
          refine g_if_ne (x := x46) 58 o dX12_draws_49 (by decide) (fun u => ?_) (fun u => ?_)
          · rw [if_neg u] at e
            refine g_sb [1, 2, 3] rfl ?_
            exact kX12_draws_58 f0 (bX12_draws_7 f0 f1) ih o v0 v1 v3 h46 r hz q e
          · rw [if_pos u] at e
            refine g_aload_n 1 o dX12_draws_52 rfl rfl ?_
            refine g_iload 0 o dX12_draws_53 rfl ?_
            obtain ⟨_, k55, e⟩ := ob e
            obtain ⟨h55, q55, e⟩ := ob e
            refine g_callV0 [.int x38] o (mX12_paints q55) cf12 (ckO_s k55) mw_1434 mw_1435 mw_1762 mw_19 mw_1436 rfl yo_X12_paints rfl rfl (Nat.le_of_ble_eq_true rfl) ⟨by decide, by decide⟩ ⟨rfl, rfl⟩ dX12_draws_55 ⟨by decide, by decide⟩ ?_
            refine g_sb [1, 2, 3] rfl ?_
            exact kX12_draws_58 f0 (bX12_draws_7 f0 f1) ih o v0 v1 v3 h55 r hz q e
theorem yo_X12_draws : yok yX12_draws 2 := ⟨by decide, by decide, by decide +kernel⟩
set_option maxRecDepth 100000 in
set_option maxHeartbeats 4000000 in
theorem mX12_draws {l : Launch} {D : va_G} {cy : Nat → ClassId} {f0 : Nat} {a : Nat} {p0 : Int32} {p1 : Int32} {h : Hp} {r : Int32} {hz : Hp} (e : fX12_draws f0 a p0 p1 h = some (r, hz)) : MC l D cy yX12_draws cX12_draws 5 (some .int) rmX12_draws [.ref a, .int p0, .int p1] h (some (.int r)) hz := by
  refine mc_of2 (by decide) (Nat.le_of_ble_eq_true rfl) (fun X hl hD hy hin o q => ?_)
  subst hl; subst hD; subst hy
  show G X 5 0 [(0, .ref a), (1, .int p0), (2, .int p1)] [] h 0 0
  unfold fX12_draws at e
  refine g_aload_n 0 o dX12_draws_0 rfl rfl ?_
  refine g_iload_n 2 o dX12_draws_1 rfl rfl ?_
  obtain ⟨h2, q2, e⟩ := ob e
  refine g_put (ty1 := .int) 35 o cf12 (by decide) mw_1221 rfl (by decide +kernel) rfl rfl dX12_draws_2 q2 ?_
  refine g_iconst (v := 0) o dX12_draws_5 (by decide) ?_
  refine g_istore_n [(3, .int 0), (0, .ref a), (1, .int p0), (2, .int p1)] o dX12_draws_6 rfl (by decide) rfl ?_
  refine g_sb [1, 2, 0] rfl ?_
  exact kX12_draws_7 f0 o f0 a p0 0 h2 r hz q e
set_option maxRecDepth 100000 in
set_option maxHeartbeats 4000000 in
theorem kX12_drawn_39 {X : Cx} (f0 : Nat) (o : Ok X cX12_drawn RX12 3 rmX12_drawn (some .int)) (v0 : Nat) (v1 : Int32) (v2 : Int32) (h : Hp) (r : Int32) (hz : Hp) (q : Rt X (some (.int r)) hz 0 0) (e : bX12_drawn_39 f0 v0 v1 v2 h = some (r, hz)) : G X 3 39 [(0, .ref v0), (1, .int v1), (2, .int v2)] [] h 0 0 := by
  unfold bX12_drawn_39 at e
  refine g_aload_n 0 o dX12_drawn_39 rfl rfl ?_
  refine g_iload_n 1 o dX12_drawn_40 rfl rfl ?_
  refine g_iload_n 2 o dX12_drawn_41 rfl rfl ?_
  obtain ⟨_, k42, e⟩ := ob e
  obtain ⟨x42, h42, q42, e⟩ := ob2_s e
  refine g_callVv [.int v1, .int v2] o (mX12_draws q42) cf12 (ckO_s k42) mw_1600 mw_1601 mw_1780 mw_19 mw_1602 rfl yo_X12_draws rfl rfl (Nat.le_of_ble_eq_true rfl) ⟨by decide, by decide⟩ ⟨rfl, rfl⟩ dX12_drawn_42 ⟨by decide, by decide⟩ ?_
  exact g_iret o dX12_drawn_45 (rt_v q e)
theorem yo_X12_drawn : yok yX12_drawn 2 := ⟨by decide, by decide, by decide +kernel⟩
set_option maxRecDepth 100000 in
set_option maxHeartbeats 4000000 in
theorem mX12_drawn {l : Launch} {D : va_G} {cy : Nat → ClassId} {f0 : Nat} {a : Nat} {p0 : Int32} {p1 : Int32} {h : Hp} {r : Int32} {hz : Hp} (e : fX12_drawn f0 a p0 p1 h = some (r, hz)) : MC l D cy yX12_drawn cX12_drawn 3 (some .int) rmX12_drawn [.ref a, .int p0, .int p1] h (some (.int r)) hz := by
  refine mc_of2 (by decide) (Nat.le_of_ble_eq_true rfl) (fun X hl hD hy hin o q => ?_)
  subst hl; subst hD; subst hy
  show G X 3 0 [(0, .ref a), (1, .int p0), (2, .int p1)] [] h 0 0
  unfold fX12_drawn at e
  refine g_aload_n 0 o dX12_drawn_0 rfl rfl ?_
  refine g_iconst (v := 0) o dX12_drawn_1 (by decide) ?_
  obtain ⟨h2, q2, e⟩ := ob e
  refine g_put (ty1 := .int) 0 o cf12 (by decide) mw_1186 rfl (by decide +kernel) rfl rfl dX12_drawn_2 q2 ?_
  refine g_iload_n 1 o dX12_drawn_5 rfl rfl ?_
  refine g_iconst (v := 1) o dX12_drawn_6 (by decide) ?_
  refine g_bipush (v := 60) o dX12_drawn_7 (by decide) ?_
  obtain ⟨x9, h9, q9, e⟩ := ob2_s e
  refine g_callSv [.int p0, .int 1, .int 60] o (mX12_isIn q9) mw_1337 mw_1338 mw_19 mw_1339 yo_X12_isIn rfl rfl (Nat.le_of_ble_eq_true rfl) ⟨by decide, by decide⟩ ⟨rfl, rfl⟩ dX12_drawn_9 ⟨by decide, by decide⟩ ?_
  refine g_if_eq (x := x9) 22 o dX12_drawn_12 (by decide) (fun u => ?_) (fun u => ?_)
  · rw [if_pos u] at e
    refine g_iconst (v := -1) o dX12_drawn_22 (by decide) ?_
    exact g_iret o dX12_drawn_23 (rt_v q e)
  · rw [if_neg u] at e
    refine g_aload_n 0 o dX12_drawn_15 rfl rfl ?_
    obtain ⟨_, k16, e⟩ := ob e
    obtain ⟨x16, h16, q16, e⟩ := ob2_s e
    refine g_callVv [] o (mX12_isSea q16) cf12 (ckO_s k16) mw_1173 mw_1174 mw_1725 mw_19 mw_1175 rfl yo_X12_isSea rfl rfl (Nat.le_of_ble_eq_true rfl) ⟨by decide, by decide⟩ ⟨rfl, rfl⟩ dX12_drawn_16 ⟨by decide, by decide⟩ ?_
    refine g_if_ne (x := x16) 24 o dX12_drawn_19 (by decide) (fun u => ?_) (fun u => ?_)
    · rw [if_neg u] at e
      refine g_aload_n 0 o dX12_drawn_24 rfl rfl ?_
      obtain ⟨x25, q25, e⟩ := ob e
      refine g_getN 6 o cf12 (by decide) mw_1192 dX12_drawn_25 q25 ?_
      refine g_sipush (v := 317) o dX12_drawn_28 (by decide) ?_
      obtain ⟨x31, q31, e⟩ := ob e
      refine g_iald o dX12_drawn_31 q31 ?_
      refine g_if_ne (x := x31) 39 o dX12_drawn_32 (by decide) (fun u => ?_) (fun u => ?_)
      · rw [if_neg u] at e
        exact kX12_drawn_39 f0 o a p0 p1 h16 r hz q e
      · rw [if_pos u] at e
        refine g_aload_n 0 o dX12_drawn_35 rfl rfl ?_
        obtain ⟨_, k36, e⟩ := ob e
        obtain ⟨h36, q36, e⟩ := ob e
        refine g_callV0 [] o (mX12_keep q36) cf12 (ckO_s k36) mw_1431 mw_1432 mw_1761 mw_19 mw_1433 rfl yo_X12_keep rfl rfl (Nat.le_of_ble_eq_true rfl) ⟨by decide, by decide⟩ ⟨rfl, rfl⟩ dX12_drawn_36 ⟨by decide, by decide⟩ ?_
        exact kX12_drawn_39 f0 o a p0 p1 h36 r hz q e
    · rw [if_pos u] at e
      refine g_iconst (v := -1) o dX12_drawn_22 (by decide) ?_
      exact g_iret o dX12_drawn_23 (rt_v q e)
set_option maxRecDepth 100000 in
set_option maxHeartbeats 4000000 in
theorem kX12_tries_2 {X : Cx} (f0 : Nat) (o : Ok X cX12_tries RX12 2 rmX12_tries none) (f : Nat) (v0 : Nat) (v1 : Int32) (h : Hp) (hz : Hp) (q : Rt X none hz 0 0) (e : bX12_tries_2 f0 f v0 v1 h = some hz) : G X 2 2 [(0, .ref v0), (1, .int v1)] [] h 0 0 := by
  induction f generalizing v0 v1 h hz with
  | zero => cases e
  | succ f1 ih =>
    unfold bX12_tries_2 at e
    refine g_iload_n 1 o dX12_tries_2 rfl rfl ?_
    refine g_sipush (v := 153) o dX12_tries_3 (by decide) ?_
    refine g_icmp_ge (x := v1) (y := 153) 31 o dX12_tries_6 (by decide) (fun u => ?_) (fun u => ?_)
    · rw [if_pos u] at e
      exact g_vret o dX12_tries_31 (rt_0 q e)
    · rw [if_neg u] at e
      refine g_aload_n 0 o dX12_tries_9 rfl rfl ?_
      obtain ⟨x10, q10, e⟩ := ob e
      refine g_getN 28 o cf12 (by decide) mw_1214 dX12_tries_10 q10 ?_
      refine g_iload_n 1 o dX12_tries_13 rfl rfl ?_
      refine g_aload_n 0 o dX12_tries_14 rfl rfl ?_
      obtain ⟨x15, q15, e⟩ := ob e
      refine g_getN 6 o cf12 (by decide) mw_1192 dX12_tries_15 q15 ?_
      refine g_sipush (v := 312) o dX12_tries_18 (by decide) ?_
      refine g_iload_n 1 o dX12_tries_21 rfl rfl ?_
      refine g_iadd (x := (312 : Int32)) (y := v1) o dX12_tries_22 ?_
      obtain ⟨x23, q23, e⟩ := ob e
      refine g_iald o dX12_tries_23 q23 ?_
      obtain ⟨h24, q24, e⟩ := ob e
      refine g_iast o dX12_tries_24 q24 ?_
      refine g_iinc (k := 1) (v := (v1 + 1)) [(1, .int (v1 + 1)), (0, .ref v0)] o dX12_tries_25 rfl rfl (by decide) rfl ?_
      refine g_goto 2 o dX12_tries_28 (by decide) ?_
      refine g_sb [1, 0] rfl ?_
      exact ih v0 (v1 + 1) h24 hz q e
theorem yo_X12_tries : yok yX12_tries 0 := ⟨by decide, by decide, by decide +kernel⟩
set_option maxRecDepth 100000 in
set_option maxHeartbeats 4000000 in
theorem mX12_tries {l : Launch} {D : va_G} {cy : Nat → ClassId} {f0 : Nat} {a : Nat} {h : Hp} {hz : Hp} (e : fX12_tries f0 a h = some hz) : MC l D cy yX12_tries cX12_tries 2 none rmX12_tries [.ref a] h none hz := by
  refine mc_of2 (by decide) (Nat.le_of_ble_eq_true rfl) (fun X hl hD hy hin o q => ?_)
  subst hl; subst hD; subst hy
  show G X 2 0 [(0, .ref a)] [] h 0 0
  unfold fX12_tries at e
  refine g_iconst (v := 0) o dX12_tries_0 (by decide) ?_
  refine g_istore_n [(1, .int 0), (0, .ref a)] o dX12_tries_1 rfl (by decide) rfl ?_
  refine g_sb [1, 0] rfl ?_
  exact kX12_tries_2 f0 o f0 a 0 h hz q e
set_option maxRecDepth 100000 in
set_option maxHeartbeats 4000000 in
theorem kX12_back_2 {X : Cx} (f0 : Nat) (o : Ok X cX12_back RX12 2 rmX12_back none) (f : Nat) (v0 : Nat) (v1 : Int32) (h : Hp) (hz : Hp) (q : Rt X none hz 0 0) (e : bX12_back_2 f0 f v0 v1 h = some hz) : G X 2 2 [(0, .ref v0), (1, .int v1)] [] h 0 0 := by
  induction f generalizing v0 v1 h hz with
  | zero => cases e
  | succ f1 ih =>
    unfold bX12_back_2 at e
    refine g_iload_n 1 o dX12_back_2 rfl rfl ?_
    refine g_sipush (v := 153) o dX12_back_3 (by decide) ?_
    refine g_icmp_ge (x := v1) (y := 153) 31 o dX12_back_6 (by decide) (fun u => ?_) (fun u => ?_)
    · rw [if_pos u] at e
      exact g_vret o dX12_back_31 (rt_0 q e)
    · rw [if_neg u] at e
      refine g_aload_n 0 o dX12_back_9 rfl rfl ?_
      obtain ⟨x10, q10, e⟩ := ob e
      refine g_getN 6 o cf12 (by decide) mw_1192 dX12_back_10 q10 ?_
      refine g_sipush (v := 312) o dX12_back_13 (by decide) ?_
      refine g_iload_n 1 o dX12_back_16 rfl rfl ?_
      refine g_iadd (x := (312 : Int32)) (y := v1) o dX12_back_17 ?_
      refine g_aload_n 0 o dX12_back_18 rfl rfl ?_
      obtain ⟨x19, q19, e⟩ := ob e
      refine g_getN 28 o cf12 (by decide) mw_1214 dX12_back_19 q19 ?_
      refine g_iload_n 1 o dX12_back_22 rfl rfl ?_
      obtain ⟨x23, q23, e⟩ := ob e
      refine g_iald o dX12_back_23 q23 ?_
      obtain ⟨h24, q24, e⟩ := ob e
      refine g_iast o dX12_back_24 q24 ?_
      refine g_iinc (k := 1) (v := (v1 + 1)) [(1, .int (v1 + 1)), (0, .ref v0)] o dX12_back_25 rfl rfl (by decide) rfl ?_
      refine g_goto 2 o dX12_back_28 (by decide) ?_
      refine g_sb [1, 0] rfl ?_
      exact ih v0 (v1 + 1) h24 hz q e
theorem yo_X12_back : yok yX12_back 0 := ⟨by decide, by decide, by decide +kernel⟩
set_option maxRecDepth 100000 in
set_option maxHeartbeats 4000000 in
theorem mX12_back {l : Launch} {D : va_G} {cy : Nat → ClassId} {f0 : Nat} {a : Nat} {h : Hp} {hz : Hp} (e : fX12_back f0 a h = some hz) : MC l D cy yX12_back cX12_back 2 none rmX12_back [.ref a] h none hz := by
  refine mc_of2 (by decide) (Nat.le_of_ble_eq_true rfl) (fun X hl hD hy hin o q => ?_)
  subst hl; subst hD; subst hy
  show G X 2 0 [(0, .ref a)] [] h 0 0
  unfold fX12_back at e
  refine g_iconst (v := 0) o dX12_back_0 (by decide) ?_
  refine g_istore_n [(1, .int 0), (0, .ref a)] o dX12_back_1 rfl (by decide) rfl ?_
  refine g_sb [1, 0] rfl ?_
  exact kX12_back_2 f0 o f0 a 0 h hz q e
set_option maxRecDepth 100000 in
set_option maxHeartbeats 4000000 in
theorem kX12_odds_33 {X : Cx} (f0 : Nat) (o : Ok X cX12_odds RX12 5 rmX12_odds (some .int)) (f : Nat) (v0 : Nat) (v1 : Int32) (v2 : Int32) (v3 : Int32) (v4 : Int32) (h : Hp) (r : Int32) (hz : Hp) (q : Rt X (some (.int r)) hz 0 0) (e : bX12_odds_33 f0 f v0 v1 v2 v3 v4 h = some (r, hz)) : G X 5 33 [(0, .ref v0), (1, .int v1), (2, .int v2), (3, .int v3), (4, .int v4)] [] h 0 0 := by
  induction f generalizing v0 v1 v2 v3 v4 h r hz with
  | zero => cases e
  | succ f1 ih =>
    unfold bX12_odds_33 at e
    refine g_iload 4 o dX12_odds_33 rfl ?_
    refine g_iload_n 1 o dX12_odds_35 rfl rfl ?_
    refine g_icmp_ge (x := v4) (y := v1) 73 o dX12_odds_36 (by decide) (fun u => ?_) (fun u => ?_)
    · rw [if_pos u] at e
      refine g_iload_n 3 o dX12_odds_73 rfl rfl ?_
      exact g_iret o dX12_odds_74 (rt_v q e)
    · rw [if_neg u] at e
      refine g_aload_n 0 o dX12_odds_39 rfl rfl ?_
      refine g_bipush (v := 10) o dX12_odds_40 (by decide) ?_
      refine g_iload_n 2 o dX12_odds_42 rfl rfl ?_
      refine g_iload 4 o dX12_odds_43 rfl ?_
      refine g_iadd (x := v2) (y := v4) o dX12_odds_45 ?_
      obtain ⟨_, k46, e⟩ := ob e
      obtain ⟨x46, h46, q46, e⟩ := ob2_s e
      refine g_callVv [.int 10, .int (v2 + v4)] o (mX12_draws q46) cf12 (ckO_s k46) mw_1600 mw_1601 mw_1780 mw_19 mw_1602 rfl yo_X12_draws rfl rfl (Nat.le_of_ble_eq_true rfl) ⟨by decide, by decide⟩ ⟨rfl, rfl⟩ dX12_odds_46 ⟨by decide, by decide⟩ ?_
      refine g_pop o dX12_odds_49 rfl ?_
      refine g_iload_n 3 o dX12_odds_50 rfl rfl ?_
      refine g_iconst (v := 1) o dX12_odds_51 (by decide) ?_
      refine g_aload_n 0 o dX12_odds_52 rfl rfl ?_
      obtain ⟨x53, q53, e⟩ := ob e
      refine g_getN 6 o cf12 (by decide) mw_1192 dX12_odds_53 q53 ?_
      refine g_sipush (v := 317) o dX12_odds_56 (by decide) ?_
      obtain ⟨x59, q59, e⟩ := ob e
      refine g_iald o dX12_odds_59 q59 ?_
      refine g_isub (x := (1 : Int32)) (y := x59) o dX12_odds_60 ?_
      refine g_iadd (x := v3) (y := ((1 : Int32) - x59)) o dX12_odds_61 ?_
      refine g_istore_n [(3, .int (v3 + ((1 : Int32) - x59))), (0, .ref v0), (1, .int v1), (2, .int v2), (4, .int v4)] o dX12_odds_62 rfl (by decide) rfl ?_
      refine g_aload_n 1 o dX12_odds_63 rfl rfl ?_
      obtain ⟨_, k64, e⟩ := ob e
      obtain ⟨h64, q64, e⟩ := ob e
      refine g_callV0 [] o (mX12_back q64) cf12 (ckO_s k64) mw_1614 mw_1615 mw_1783 mw_19 mw_1616 rfl yo_X12_back rfl rfl (Nat.le_of_ble_eq_true rfl) ⟨by decide, by decide⟩ ⟨rfl, rfl⟩ dX12_odds_64 ⟨by decide, by decide⟩ ?_
      refine g_iinc (k := 4) (v := (v4 + 1)) [(4, .int (v4 + 1)), (3, .int (v3 + ((1 : Int32) - x59))), (0, .ref v0), (1, .int v1), (2, .int v2)] o dX12_odds_67 rfl rfl (by decide) rfl ?_
      refine g_goto 33 o dX12_odds_70 (by decide) ?_
      refine g_sb [2, 3, 4, 1, 0] rfl ?_
      exact ih v0 v1 v2 (v3 + ((1 : Int32) - x59)) (v4 + 1) h64 r hz q e
theorem yo_X12_odds : yok yX12_odds 2 := ⟨by decide, by decide, by decide +kernel⟩
set_option maxRecDepth 100000 in
set_option maxHeartbeats 4000000 in
theorem mX12_odds {l : Launch} {D : va_G} {cy : Nat → ClassId} {f0 : Nat} {a : Nat} {p0 : Int32} {p1 : Int32} {h : Hp} {r : Int32} {hz : Hp} (e : fX12_odds f0 a p0 p1 h = some (r, hz)) : MC l D cy yX12_odds cX12_odds 5 (some .int) rmX12_odds [.ref a, .int p0, .int p1] h (some (.int r)) hz := by
  refine mc_of2 (by decide) (Nat.le_of_ble_eq_true rfl) (fun X hl hD hy hin o q => ?_)
  subst hl; subst hD; subst hy
  show G X 5 0 [(0, .ref a), (1, .int p0), (2, .int p1)] [] h 0 0
  unfold fX12_odds at e
  refine g_aload_n 0 o dX12_odds_0 rfl rfl ?_
  refine g_iconst (v := 0) o dX12_odds_1 (by decide) ?_
  obtain ⟨h2, q2, e⟩ := ob e
  refine g_put (ty1 := .int) 0 o cf12 (by decide) mw_1186 rfl (by decide +kernel) rfl rfl dX12_odds_2 q2 ?_
  refine g_iload_n 1 o dX12_odds_5 rfl rfl ?_
  refine g_iconst (v := 1) o dX12_odds_6 (by decide) ?_
  refine g_bipush (v := 30) o dX12_odds_7 (by decide) ?_
  obtain ⟨x9, h9, q9, e⟩ := ob2_s e
  refine g_callSv [.int p0, .int 1, .int 30] o (mX12_isIn q9) mw_1337 mw_1338 mw_19 mw_1339 yo_X12_isIn rfl rfl (Nat.le_of_ble_eq_true rfl) ⟨by decide, by decide⟩ ⟨rfl, rfl⟩ dX12_odds_9 ⟨by decide, by decide⟩ ?_
  refine g_if_eq (x := x9) 22 o dX12_odds_12 (by decide) (fun u => ?_) (fun u => ?_)
  · rw [if_pos u] at e
    refine g_iconst (v := -1) o dX12_odds_22 (by decide) ?_
    exact g_iret o dX12_odds_23 (rt_v q e)
  · rw [if_neg u] at e
    refine g_aload_n 0 o dX12_odds_15 rfl rfl ?_
    obtain ⟨_, k16, e⟩ := ob e
    obtain ⟨x16, h16, q16, e⟩ := ob2_s e
    refine g_callVv [] o (mX12_isSea q16) cf12 (ckO_s k16) mw_1173 mw_1174 mw_1725 mw_19 mw_1175 rfl yo_X12_isSea rfl rfl (Nat.le_of_ble_eq_true rfl) ⟨by decide, by decide⟩ ⟨rfl, rfl⟩ dX12_odds_16 ⟨by decide, by decide⟩ ?_
    refine g_if_ne (x := x16) 24 o dX12_odds_19 (by decide) (fun u => ?_) (fun u => ?_)
    · rw [if_neg u] at e
      refine g_aload_n 0 o dX12_odds_24 rfl rfl ?_
      obtain ⟨_, k25, e⟩ := ob e
      obtain ⟨h25, q25, e⟩ := ob e
      refine g_callV0 [] o (mX12_tries q25) cf12 (ckO_s k25) mw_1611 mw_1612 mw_1782 mw_19 mw_1613 rfl yo_X12_tries rfl rfl (Nat.le_of_ble_eq_true rfl) ⟨by decide, by decide⟩ ⟨rfl, rfl⟩ dX12_odds_25 ⟨by decide, by decide⟩ ?_
      refine g_iconst (v := 0) o dX12_odds_28 (by decide) ?_
      refine g_istore_n [(3, .int 0), (0, .ref a), (1, .int p0), (2, .int p1)] o dX12_odds_29 rfl (by decide) rfl ?_
      refine g_iconst (v := 0) o dX12_odds_30 (by decide) ?_
      refine g_istore [(4, .int 0), (3, .int 0), (0, .ref a), (1, .int p0), (2, .int p1)] o dX12_odds_31 (by decide) rfl ?_
      refine g_sb [2, 3, 4, 1, 0] rfl ?_
      exact kX12_odds_33 f0 o f0 a p0 p1 0 0 h25 r hz q e
    · rw [if_pos u] at e
      refine g_iconst (v := -1) o dX12_odds_22 (by decide) ?_
      exact g_iret o dX12_odds_23 (rt_v q e)
set_option maxRecDepth 100000 in
set_option maxHeartbeats 4000000 in
theorem kX12_logLine_238 {X : Cx} (f0 : Nat) (o : Ok X cX12_logLine RX12 3 rmX12_logLine (some .boolean)) (v0 : Nat) (v1 : Int32) (h : Hp) (r : Int32) (hz : Hp) (q : Rt X (some (.int r)) hz 0 0) (e : bX12_logLine_238 f0 v0 v1 h = some (r, hz)) : G X 3 238 [(0, .ref v0), (1, .int v1)] [] h 0 0 := by
  unfold bX12_logLine_238 at e
  refine g_aload_n 0 o dX12_logLine_238 rfl rfl ?_
  obtain ⟨x239, q239, e⟩ := ob e
  refine g_getN 8 o cf12 (by decide) mw_1194 dX12_logLine_239 q239 ?_
  refine g_iload_n 1 o dX12_logLine_242 rfl rfl ?_
  refine g_iconst (v := 1) o dX12_logLine_243 (by decide) ?_
  refine g_iadd (x := v1) (y := 1) o dX12_logLine_244 ?_
  refine g_aload_n 0 o dX12_logLine_245 rfl rfl ?_
  obtain ⟨x246, q246, e⟩ := ob e
  refine g_getI 18 o cf12 (by decide) mw_1204 dX12_logLine_246 q246 ?_
  obtain ⟨h249, q249, e⟩ := ob e
  refine g_iast o dX12_logLine_249 q249 ?_
  refine g_iconst (v := 1) o dX12_logLine_250 (by decide) ?_
  exact g_zret o dX12_logLine_251 (zr_s e).1 (rt_v q (zr_s e).2)
set_option maxRecDepth 100000 in
set_option maxHeartbeats 4000000 in
theorem kX12_logLine_229 {X : Cx} (f0 : Nat) (o : Ok X cX12_logLine RX12 3 rmX12_logLine (some .boolean)) (v0 : Nat) (v1 : Int32) (s0 : Nat) (s1 : Int32) (s2 : Nat) (s3 : Int32) (h : Hp) (r : Int32) (hz : Hp) (q : Rt X (some (.int r)) hz 0 0) (e : bX12_logLine_229 f0 v0 v1 s0 s1 s2 s3 h = some (r, hz)) : G X 3 229 [(0, .ref v0), (1, .int v1)] [.int s3, .ref s2, .int s1, .ref s0] h 0 0 := by
  unfold bX12_logLine_229 at e
  obtain ⟨x229, q229, e⟩ := ob e
  refine g_iald o dX12_logLine_229 q229 ?_
  obtain ⟨_, k230, e⟩ := ob e
  obtain ⟨x230, h230, q230, e⟩ := ob2_s e
  refine g_callVv [.int s1, .int x229] o (mX12_takesName q230) cf12 (ckO_s k230) mw_1328 mw_1329 mw_1738 mw_19 mw_1330 rfl yo_X12_takesName rfl rfl (Nat.le_of_ble_eq_true rfl) ⟨by decide, by decide⟩ ⟨rfl, rfl⟩ dX12_logLine_230 ⟨by decide, by decide⟩ ?_
  refine g_if_ne (x := x230) 238 o dX12_logLine_233 (by decide) (fun u => ?_) (fun u => ?_)
  · rw [if_neg u] at e
    exact kX12_logLine_238 f0 o v0 v1 h230 r hz q e
  · rw [if_pos u] at e
    refine g_iconst (v := 0) o dX12_logLine_236 (by decide) ?_
    exact g_zret o dX12_logLine_237 (zr_s e).1 (rt_v q (zr_s e).2)
set_option maxRecDepth 100000 in
set_option maxHeartbeats 4000000 in
theorem kX12_logLine_216 {X : Cx} (f0 : Nat) (o : Ok X cX12_logLine RX12 3 rmX12_logLine (some .boolean)) (v0 : Nat) (v1 : Int32) (v2 : Int32) (s0 : Nat) (s1 : Int32) (h : Hp) (r : Int32) (hz : Hp) (q : Rt X (some (.int r)) hz 0 0) (e : bX12_logLine_216 f0 v0 v1 v2 s0 s1 h = some (r, hz)) : G X 3 216 [(0, .ref v0), (1, .int v1), (2, .int v2)] [.int s1, .ref s0] h 0 0 := by
  unfold bX12_logLine_216 at e
  refine g_aload_n 0 o dX12_logLine_216 rfl rfl ?_
  obtain ⟨x217, q217, e⟩ := ob e
  refine g_getN 6 o cf12 (by decide) mw_1192 dX12_logLine_217 q217 ?_
  refine g_iload_n 2 o dX12_logLine_220 rfl rfl ?_
  refine g_if_ne (x := v2) 228 o dX12_logLine_221 (by decide) (fun u => ?_) (fun u => ?_)
  · rw [if_neg u] at e
    refine g_iconst (v := 0) o dX12_logLine_228 (by decide) ?_
    refine g_sb [0, 1] rfl ?_
    exact kX12_logLine_229 f0 o v0 v1 s0 s1 x217 0 h r hz q e
  · rw [if_pos u] at e
    refine g_iconst (v := 1) o dX12_logLine_224 (by decide) ?_
    refine g_goto 229 o dX12_logLine_225 (by decide) ?_
    refine g_sb [0, 1] rfl ?_
    exact kX12_logLine_229 f0 o v0 v1 s0 s1 x217 1 h r hz q e
set_option maxRecDepth 100000 in
set_option maxHeartbeats 4000000 in
theorem kX12_logLine_87 {X : Cx} (f0 : Nat) (o : Ok X cX12_logLine RX12 3 rmX12_logLine (some .boolean)) (v0 : Nat) (v1 : Int32) (v2 : Int32) (h : Hp) (r : Int32) (hz : Hp) (q : Rt X (some (.int r)) hz 0 0) (e : bX12_logLine_87 f0 v0 v1 v2 h = some (r, hz)) : G X 3 87 [(0, .ref v0), (1, .int v1), (2, .int v2)] [] h 0 0 := by
  unfold bX12_logLine_87 at e
  refine g_aload_n 0 o dX12_logLine_87 rfl rfl ?_
  obtain ⟨x88, q88, e⟩ := ob e
  refine g_getI 36 o cf12 (by decide) mw_1222 dX12_logLine_88 q88 ?_
  refine g_bipush (v := 40) o dX12_logLine_91 (by decide) ?_
  refine g_icmp_ne (x := x88) (y := 40) 102 o dX12_logLine_93 (by decide) (fun u => ?_) (fun u => ?_)
  · rw [if_neg u] at e
    refine g_aload_n 0 o dX12_logLine_102 rfl rfl ?_
    obtain ⟨x103, q103, e⟩ := ob e
    refine g_getN 8 o cf12 (by decide) mw_1194 dX12_logLine_103 q103 ?_
    refine g_iload_n 1 o dX12_logLine_106 rfl rfl ?_
    refine g_iload_n 2 o dX12_logLine_107 rfl rfl ?_
    obtain ⟨h108, q108, e⟩ := ob e
    refine g_iast o dX12_logLine_108 q108 ?_
    refine g_aload_n 0 o dX12_logLine_109 rfl rfl ?_
    obtain ⟨x110, q110, e⟩ := ob e
    refine g_getN 8 o cf12 (by decide) mw_1194 dX12_logLine_110 q110 ?_
    refine g_iload_n 1 o dX12_logLine_113 rfl rfl ?_
    refine g_iconst (v := 1) o dX12_logLine_114 (by decide) ?_
    refine g_iadd (x := v1) (y := 1) o dX12_logLine_115 ?_
    refine g_aload_n 0 o dX12_logLine_116 rfl rfl ?_
    obtain ⟨x117, q117, e⟩ := ob e
    refine g_getI 18 o cf12 (by decide) mw_1204 dX12_logLine_117 q117 ?_
    obtain ⟨h120, q120, e⟩ := ob e
    refine g_iast o dX12_logLine_120 q120 ?_
    refine g_aload_n 0 o dX12_logLine_121 rfl rfl ?_
    obtain ⟨_, k122, e⟩ := ob e
    obtain ⟨h122, q122, e⟩ := ob e
    refine g_callV0 [] o (mX12_next q122) cf12 (ckO_s k122) mw_1292 mw_1293 mw_1728 mw_19 mw_1294 rfl yo_X12_next rfl rfl (Nat.le_of_ble_eq_true rfl) ⟨by decide, by decide⟩ ⟨rfl, rfl⟩ dX12_logLine_122 ⟨by decide, by decide⟩ ?_
    refine g_iload_n 2 o dX12_logLine_125 rfl rfl ?_
    refine g_iconst (v := 3) o dX12_logLine_126 (by decide) ?_
    refine g_icmp_ne (x := v2) (y := 3) 132 o dX12_logLine_127 (by decide) (fun u => ?_) (fun u => ?_)
    · rw [if_neg u] at e
      refine g_iload_n 2 o dX12_logLine_132 rfl rfl ?_
      refine g_iconst (v := 2) o dX12_logLine_133 (by decide) ?_
      refine g_icmp_ne (x := v2) (y := 2) 149 o dX12_logLine_134 (by decide) (fun u => ?_) (fun u => ?_)
      · rw [if_neg u] at e
        refine g_iload_n 2 o dX12_logLine_149 rfl rfl ?_
        refine g_iconst (v := 4) o dX12_logLine_150 (by decide) ?_
        refine g_icmp_ne (x := v2) (y := 4) 205 o dX12_logLine_151 (by decide) (fun u => ?_) (fun u => ?_)
        · rw [if_neg u] at e
          refine g_aload_n 0 o dX12_logLine_205 rfl rfl ?_
          refine g_iload_n 2 o dX12_logLine_206 rfl rfl ?_
          refine g_if_ne (x := v2) 215 o dX12_logLine_207 (by decide) (fun u => ?_) (fun u => ?_)
          · rw [if_neg u] at e
            refine g_iconst (v := 0) o dX12_logLine_215 (by decide) ?_
            exact kX12_logLine_216 f0 o v0 v1 v2 v0 0 h122 r hz q e
          · rw [if_pos u] at e
            refine g_bipush (v := 8) o dX12_logLine_210 (by decide) ?_
            refine g_goto 216 o dX12_logLine_212 (by decide) ?_
            exact kX12_logLine_216 f0 o v0 v1 v2 v0 8 h122 r hz q e
        · rw [if_pos u] at e
          refine g_aload_n 0 o dX12_logLine_154 rfl rfl ?_
          refine g_ldc2_w (v := 119182682386035) o dX12_logLine_155 mw_1158 ?_
          obtain ⟨_, k158, e⟩ := ob e
          obtain ⟨x158, h158, q158, e⟩ := ob2_s e
          refine g_callVv [.long 119182682386035] o (mX12_isWord q158) cf12 (ckO_s k158) mw_1307 mw_1308 mw_1731 mw_19 mw_1309 rfl yo_X12_isWord rfl rfl (Nat.le_of_ble_eq_true rfl) ⟨by decide, by decide⟩ ⟨rfl, rfl⟩ dX12_logLine_158 ⟨by decide, by decide⟩ ?_
          refine g_if_ne (x := x158) 170 o dX12_logLine_161 (by decide) (fun u => ?_) (fun u => ?_)
          · rw [if_neg u] at e
            refine g_aload_n 0 o dX12_logLine_170 rfl rfl ?_
            obtain ⟨_, k171, e⟩ := ob e
            obtain ⟨h171, q171, e⟩ := ob e
            refine g_callV0 [] o (mX12_next q171) cf12 (ckO_s k171) mw_1292 mw_1293 mw_1728 mw_19 mw_1294 rfl yo_X12_next rfl rfl (Nat.le_of_ble_eq_true rfl) ⟨by decide, by decide⟩ ⟨rfl, rfl⟩ dX12_logLine_171 ⟨by decide, by decide⟩ ?_
            refine g_aload_n 0 o dX12_logLine_174 rfl rfl ?_
            refine g_bipush (v := 16) o dX12_logLine_175 (by decide) ?_
            refine g_aload_n 0 o dX12_logLine_177 rfl rfl ?_
            obtain ⟨x178, q178, e⟩ := ob e
            refine g_getN 6 o cf12 (by decide) mw_1192 dX12_logLine_178 q178 ?_
            refine g_iconst (v := 2) o dX12_logLine_181 (by decide) ?_
            obtain ⟨x182, q182, e⟩ := ob e
            refine g_iald o dX12_logLine_182 q182 ?_
            obtain ⟨_, k183, e⟩ := ob e
            obtain ⟨x183, h183, q183, e⟩ := ob2_s e
            refine g_callVv [.int 16, .int x182] o (mX12_takesName q183) cf12 (ckO_s k183) mw_1328 mw_1329 mw_1738 mw_19 mw_1330 rfl yo_X12_takesName rfl rfl (Nat.le_of_ble_eq_true rfl) ⟨by decide, by decide⟩ ⟨rfl, rfl⟩ dX12_logLine_183 ⟨by decide, by decide⟩ ?_
            refine g_if_ne (x := x183) 191 o dX12_logLine_186 (by decide) (fun u => ?_) (fun u => ?_)
            · rw [if_neg u] at e
              refine g_aload_n 0 o dX12_logLine_191 rfl rfl ?_
              obtain ⟨x192, q192, e⟩ := ob e
              refine g_getN 8 o cf12 (by decide) mw_1194 dX12_logLine_192 q192 ?_
              refine g_iload_n 1 o dX12_logLine_195 rfl rfl ?_
              refine g_iconst (v := 2) o dX12_logLine_196 (by decide) ?_
              refine g_iadd (x := v1) (y := 2) o dX12_logLine_197 ?_
              refine g_aload_n 0 o dX12_logLine_198 rfl rfl ?_
              obtain ⟨x199, q199, e⟩ := ob e
              refine g_getI 18 o cf12 (by decide) mw_1204 dX12_logLine_199 q199 ?_
              obtain ⟨h202, q202, e⟩ := ob e
              refine g_iast o dX12_logLine_202 q202 ?_
              refine g_iconst (v := 1) o dX12_logLine_203 (by decide) ?_
              exact g_zret o dX12_logLine_204 (zr_s e).1 (rt_v q (zr_s e).2)
            · rw [if_pos u] at e
              refine g_iconst (v := 0) o dX12_logLine_189 (by decide) ?_
              exact g_zret o dX12_logLine_190 (zr_s e).1 (rt_v q (zr_s e).2)
          · rw [if_pos u] at e
            refine g_aload_n 0 o dX12_logLine_164 rfl rfl ?_
            refine g_iconst (v := 1) o dX12_logLine_165 (by decide) ?_
            obtain ⟨_, k166, e⟩ := ob e
            obtain ⟨x166, h166, q166, e⟩ := ob2_s e
            refine g_callVv [.int 1] o (mX12_bad q166) cf12 (ckO_s k166) mw_1313 mw_1314 mw_1733 mw_19 mw_1315 rfl yo_X12_bad rfl rfl (Nat.le_of_ble_eq_true rfl) ⟨by decide, by decide⟩ ⟨rfl, rfl⟩ dX12_logLine_166 ⟨by decide, by decide⟩ ?_
            exact g_zret o dX12_logLine_169 (zr_s e).1 (rt_v q (zr_s e).2)
      · rw [if_pos u] at e
        refine g_aload_n 0 o dX12_logLine_137 rfl rfl ?_
        refine g_iconst (v := 1) o dX12_logLine_138 (by decide) ?_
        refine g_bipush (v := 60) o dX12_logLine_139 (by decide) ?_
        obtain ⟨_, k141, e⟩ := ob e
        obtain ⟨x141, h141, q141, e⟩ := ob2_s e
        refine g_callVv [.int 1, .int 60] o (mX12_takes q141) cf12 (ckO_s k141) mw_1334 mw_1335 mw_1740 mw_19 mw_1336 rfl yo_X12_takes rfl rfl (Nat.le_of_ble_eq_true rfl) ⟨by decide, by decide⟩ ⟨rfl, rfl⟩ dX12_logLine_141 ⟨by decide, by decide⟩ ?_
        refine g_if_ne (x := x141) 238 o dX12_logLine_144 (by decide) (fun u => ?_) (fun u => ?_)
        · rw [if_neg u] at e
          refine g_sb [0, 1] rfl ?_
          exact kX12_logLine_238 f0 o v0 v1 h141 r hz q e
        · rw [if_pos u] at e
          refine g_iconst (v := 0) o dX12_logLine_147 (by decide) ?_
          exact g_zret o dX12_logLine_148 (zr_s e).1 (rt_v q (zr_s e).2)
    · rw [if_pos u] at e
      refine g_iconst (v := 1) o dX12_logLine_130 (by decide) ?_
      exact g_zret o dX12_logLine_131 (zr_s e).1 (rt_v q (zr_s e).2)
  · rw [if_pos u] at e
    refine g_aload_n 0 o dX12_logLine_96 rfl rfl ?_
    refine g_iconst (v := 4) o dX12_logLine_97 (by decide) ?_
    obtain ⟨_, k98, e⟩ := ob e
    obtain ⟨x98, h98, q98, e⟩ := ob2_s e
    refine g_callVv [.int 4] o (mX12_bad q98) cf12 (ckO_s k98) mw_1313 mw_1314 mw_1733 mw_19 mw_1315 rfl yo_X12_bad rfl rfl (Nat.le_of_ble_eq_true rfl) ⟨by decide, by decide⟩ ⟨rfl, rfl⟩ dX12_logLine_98 ⟨by decide, by decide⟩ ?_
    exact g_zret o dX12_logLine_101 (zr_s e).1 (rt_v q (zr_s e).2)
set_option maxRecDepth 100000 in
set_option maxHeartbeats 4000000 in
theorem kX12_logLine_64 {X : Cx} (f0 : Nat) (o : Ok X cX12_logLine RX12 3 rmX12_logLine (some .boolean)) (v0 : Nat) (v1 : Int32) (s0 : Int32) (h : Hp) (r : Int32) (hz : Hp) (q : Rt X (some (.int r)) hz 0 0) (e : bX12_logLine_64 f0 v0 v1 s0 h = some (r, hz)) : G X 3 64 [(0, .ref v0), (1, .int v1)] [.int s0] h 0 0 := by
  unfold bX12_logLine_64 at e
  refine g_istore_n [(2, .int s0), (0, .ref v0), (1, .int v1)] o dX12_logLine_64 rfl (by decide) rfl ?_
  refine g_iload_n 0 o dX12_logLine_65 rfl rfl ?_
  refine g_iconst (v := 4) o dX12_logLine_66 (by decide) ?_
  refine g_icmp_ne (x := s0) (y := 4) 87 o dX12_logLine_67 (by decide) (fun u => ?_) (fun u => ?_)
  · rw [if_neg u] at e
    refine g_sb [1, 2, 0] rfl ?_
    exact kX12_logLine_87 f0 o v0 v1 s0 h r hz q e
  · rw [if_pos u] at e
    refine g_aload_n 1 o dX12_logLine_70 rfl rfl ?_
    refine g_bipush (v := 22) o dX12_logLine_71 (by decide) ?_
    refine g_aload_n 1 o dX12_logLine_73 rfl rfl ?_
    obtain ⟨x74, q74, e⟩ := ob e
    refine g_getN 6 o cf12 (by decide) mw_1192 dX12_logLine_74 q74 ?_
    refine g_iconst (v := 3) o dX12_logLine_77 (by decide) ?_
    obtain ⟨x78, q78, e⟩ := ob e
    refine g_iald o dX12_logLine_78 q78 ?_
    obtain ⟨_, k79, e⟩ := ob e
    obtain ⟨x79, h79, q79, e⟩ := ob2_s e
    refine g_callVv [.int 22, .int x78] o (mX12_looksAt q79) cf12 (ckO_s k79) mw_1331 mw_1332 mw_1739 mw_19 mw_1333 rfl yo_X12_looksAt rfl rfl (Nat.le_of_ble_eq_true rfl) ⟨by decide, by decide⟩ ⟨rfl, rfl⟩ dX12_logLine_79 ⟨by decide, by decide⟩ ?_
    refine g_if_ne (x := x79) 87 o dX12_logLine_82 (by decide) (fun u => ?_) (fun u => ?_)
    · rw [if_neg u] at e
      refine g_sb [1, 2, 0] rfl ?_
      exact kX12_logLine_87 f0 o v0 v1 s0 h79 r hz q e
    · rw [if_pos u] at e
      refine g_iconst (v := 0) o dX12_logLine_85 (by decide) ?_
      exact g_zret o dX12_logLine_86 (zr_s e).1 (rt_v q (zr_s e).2)
theorem yo_X12_logLine : yok yX12_logLine 0 := ⟨by decide, by decide, by decide +kernel⟩
set_option maxRecDepth 100000 in
set_option maxHeartbeats 4000000 in
theorem mX12_logLine {l : Launch} {D : va_G} {cy : Nat → ClassId} {f0 : Nat} {a : Nat} {h : Hp} {r : Int32} {hz : Hp} (e : fX12_logLine f0 a h = some (r, hz)) : MC l D cy yX12_logLine cX12_logLine 3 (some .boolean) rmX12_logLine [.ref a] h (some (.int r)) hz := by
  refine mc_of2 (by decide) (Nat.le_of_ble_eq_true rfl) (fun X hl hD hy hin o q => ?_)
  subst hl; subst hD; subst hy
  show G X 3 0 [(0, .ref a)] [] h 0 0
  unfold fX12_logLine at e
  refine g_iconst (v := 3) o dX12_logLine_0 (by decide) ?_
  refine g_aload_n 0 o dX12_logLine_1 rfl rfl ?_
  obtain ⟨x2, q2, e⟩ := ob e
  refine g_getI 36 o cf12 (by decide) mw_1222 dX12_logLine_2 q2 ?_
  refine g_imul (x := (3 : Int32)) (y := x2) o dX12_logLine_5 ?_
  refine g_istore_n [(1, .int ((3 : Int32) * x2)), (0, .ref a)] o dX12_logLine_6 rfl (by decide) rfl ?_
  refine g_aload_n 1 o dX12_logLine_7 rfl rfl ?_
  refine g_ldc2_w (v := 123563682985075) o dX12_logLine_8 mw_1155 ?_
  obtain ⟨_, k11, e⟩ := ob e
  obtain ⟨x11, h11, q11, e⟩ := ob2_s e
  refine g_callVv [.long 123563682985075] o (mX12_isWord q11) cf12 (ckO_s k11) mw_1307 mw_1308 mw_1731 mw_19 mw_1309 rfl yo_X12_isWord rfl rfl (Nat.le_of_ble_eq_true rfl) ⟨by decide, by decide⟩ ⟨rfl, rfl⟩ dX12_logLine_11 ⟨by decide, by decide⟩ ?_
  refine g_if_eq (x := x11) 21 o dX12_logLine_14 (by decide) (fun u => ?_) (fun u => ?_)
  · rw [if_pos u] at e
    refine g_aload_n 1 o dX12_logLine_21 rfl rfl ?_
    refine g_ldc2_w (v := 495555538035) o dX12_logLine_22 mw_1154 ?_
    obtain ⟨_, k25, e⟩ := ob e
    obtain ⟨x25, h25, q25, e⟩ := ob2_s e
    refine g_callVv [.long 495555538035] o (mX12_isWord q25) cf12 (ckO_s k25) mw_1307 mw_1308 mw_1731 mw_19 mw_1309 rfl yo_X12_isWord rfl rfl (Nat.le_of_ble_eq_true rfl) ⟨by decide, by decide⟩ ⟨rfl, rfl⟩ dX12_logLine_25 ⟨by decide, by decide⟩ ?_
    refine g_if_eq (x := x25) 35 o dX12_logLine_28 (by decide) (fun u => ?_) (fun u => ?_)
    · rw [if_pos u] at e
      refine g_aload_n 1 o dX12_logLine_35 rfl rfl ?_
      refine g_ldc2_w (v := 512735409267) o dX12_logLine_36 mw_1156 ?_
      obtain ⟨_, k39, e⟩ := ob e
      obtain ⟨x39, h39, q39, e⟩ := ob2_s e
      refine g_callVv [.long 512735409267] o (mX12_isWord q39) cf12 (ckO_s k39) mw_1307 mw_1308 mw_1731 mw_19 mw_1309 rfl yo_X12_isWord rfl rfl (Nat.le_of_ble_eq_true rfl) ⟨by decide, by decide⟩ ⟨rfl, rfl⟩ dX12_logLine_39 ⟨by decide, by decide⟩ ?_
      refine g_if_eq (x := x39) 49 o dX12_logLine_42 (by decide) (fun u => ?_) (fun u => ?_)
      · rw [if_pos u] at e
        refine g_aload_n 1 o dX12_logLine_49 rfl rfl ?_
        refine g_ldc2_w (v := 499850634611) o dX12_logLine_50 mw_1157 ?_
        obtain ⟨_, k53, e⟩ := ob e
        obtain ⟨x53, h53, q53, e⟩ := ob2_s e
        refine g_callVv [.long 499850634611] o (mX12_isWord q53) cf12 (ckO_s k53) mw_1307 mw_1308 mw_1731 mw_19 mw_1309 rfl yo_X12_isWord rfl rfl (Nat.le_of_ble_eq_true rfl) ⟨by decide, by decide⟩ ⟨rfl, rfl⟩ dX12_logLine_53 ⟨by decide, by decide⟩ ?_
        refine g_if_eq (x := x53) 63 o dX12_logLine_56 (by decide) (fun u => ?_) (fun u => ?_)
        · rw [if_pos u] at e
          refine g_iconst (v := 4) o dX12_logLine_63 (by decide) ?_
          refine g_sb [1, 0] rfl ?_
          exact kX12_logLine_64 f0 o a ((3 : Int32) * x2) 4 h53 r hz q e
        · rw [if_neg u] at e
          refine g_iconst (v := 3) o dX12_logLine_59 (by decide) ?_
          refine g_goto 64 o dX12_logLine_60 (by decide) ?_
          refine g_sb [1, 0] rfl ?_
          exact kX12_logLine_64 f0 o a ((3 : Int32) * x2) 3 h53 r hz q e
      · rw [if_neg u] at e
        refine g_iconst (v := 2) o dX12_logLine_45 (by decide) ?_
        refine g_goto 64 o dX12_logLine_46 (by decide) ?_
        refine g_sb [1, 0] rfl ?_
        exact kX12_logLine_64 f0 o a ((3 : Int32) * x2) 2 h39 r hz q e
    · rw [if_neg u] at e
      refine g_iconst (v := 1) o dX12_logLine_31 (by decide) ?_
      refine g_goto 64 o dX12_logLine_32 (by decide) ?_
      refine g_sb [1, 0] rfl ?_
      exact kX12_logLine_64 f0 o a ((3 : Int32) * x2) 1 h25 r hz q e
  · rw [if_neg u] at e
    refine g_iconst (v := 0) o dX12_logLine_17 (by decide) ?_
    refine g_goto 64 o dX12_logLine_18 (by decide) ?_
    refine g_sb [1, 0] rfl ?_
    exact kX12_logLine_64 f0 o a ((3 : Int32) * x2) 0 h11 r hz q e
set_option maxRecDepth 100000 in
set_option maxHeartbeats 4000000 in
theorem kX12_does_56 {X : Cx} (f0 : Nat) (o : Ok X cX12_does RX12 5 rmX12_does (some .int)) (v0 : Nat) (v1 : Int32) (v2 : Int32) (v3 : Int32) (s0 : Int32) (h : Hp) (r : Int32) (hz : Hp) (q : Rt X (some (.int r)) hz 0 0) (e : bX12_does_56 f0 v0 v1 v2 v3 s0 h = some (r, hz)) : G X 5 56 [(0, .ref v0), (1, .int v1), (2, .int v2), (3, .int v3)] [.int s0] h 0 0 := by
  unfold bX12_does_56 at e
  refine g_istore [(4, .int s0), (0, .ref v0), (1, .int v1), (2, .int v2), (3, .int v3)] o dX12_does_56 (by decide) rfl ?_
  refine g_iload 0 o dX12_does_58 rfl ?_
  refine g_if_le (x := s0) 71 o dX12_does_60 (by decide) (fun u => ?_) (fun u => ?_)
  · rw [if_pos u] at e
    refine g_iload_n 2 o dX12_does_71 rfl rfl ?_
    refine g_if_ne (x := v1) 83 o dX12_does_72 (by decide) (fun u => ?_) (fun u => ?_)
    · rw [if_neg u] at e
      refine g_iload_n 2 o dX12_does_83 rfl rfl ?_
      refine g_iconst (v := 1) o dX12_does_84 (by decide) ?_
      refine g_icmp_ne (x := v1) (y := 1) 96 o dX12_does_85 (by decide) (fun u => ?_) (fun u => ?_)
      · rw [if_neg u] at e
        refine g_iload_n 2 o dX12_does_96 rfl rfl ?_
        refine g_iconst (v := 2) o dX12_does_97 (by decide) ?_
        refine g_icmp_ne (x := v1) (y := 2) 116 o dX12_does_98 (by decide) (fun u => ?_) (fun u => ?_)
        · rw [if_neg u] at e
          refine g_iload_n 2 o dX12_does_116 rfl rfl ?_
          refine g_iconst (v := 3) o dX12_does_117 (by decide) ?_
          refine g_icmp_ne (x := v1) (y := 3) 128 o dX12_does_118 (by decide) (fun u => ?_) (fun u => ?_)
          · rw [if_neg u] at e
            refine g_aload_n 1 o dX12_does_128 rfl rfl ?_
            refine g_iload_n 3 o dX12_does_129 rfl rfl ?_
            refine g_iload_n 4 o dX12_does_130 rfl rfl ?_
            obtain ⟨_, k131, e⟩ := ob e
            obtain ⟨h131, q131, e⟩ := ob e
            refine g_callV0 [.int v2, .int v3] o (mX12_learns q131) cf12 (ckO_s k131) mw_1477 mw_1478 mw_1771 mw_19 mw_1479 rfl yo_X12_learns rfl rfl (Nat.le_of_ble_eq_true rfl) ⟨by decide, by decide⟩ ⟨rfl, rfl⟩ dX12_does_131 ⟨by decide, by decide⟩ ?_
            refine g_iconst (v := 0) o dX12_does_134 (by decide) ?_
            exact g_iret o dX12_does_135 (rt_v q e)
          · rw [if_pos u] at e
            refine g_aload_n 1 o dX12_does_121 rfl rfl ?_
            obtain ⟨_, k122, e⟩ := ob e
            obtain ⟨h122, q122, e⟩ := ob e
            refine g_callV0 [] o (mX12_takesAll q122) cf12 (ckO_s k122) mw_1464 mw_1465 mw_1768 mw_19 mw_1466 rfl yo_X12_takesAll rfl rfl (Nat.le_of_ble_eq_true rfl) ⟨by decide, by decide⟩ ⟨rfl, rfl⟩ dX12_does_122 ⟨by decide, by decide⟩ ?_
            refine g_goto 134 o dX12_does_125 (by decide) ?_
            refine g_iconst (v := 0) o dX12_does_134 (by decide) ?_
            exact g_iret o dX12_does_135 (rt_v q e)
        · rw [if_pos u] at e
          refine g_aload_n 1 o dX12_does_101 rfl rfl ?_
          obtain ⟨x102, q102, e⟩ := ob e
          refine g_getN 6 o cf12 (by decide) mw_1192 dX12_does_102 q102 ?_
          refine g_sipush (v := 312) o dX12_does_105 (by decide) ?_
          refine g_dup2 o dX12_does_108 rfl rfl ?_
          obtain ⟨x109, q109, e⟩ := ob e
          refine g_iald o dX12_does_109 q109 ?_
          refine g_iload_n 3 o dX12_does_110 rfl rfl ?_
          refine g_iadd (x := x109) (y := v2) o dX12_does_111 ?_
          obtain ⟨h112, q112, e⟩ := ob e
          refine g_iast o dX12_does_112 q112 ?_
          refine g_goto 134 o dX12_does_113 (by decide) ?_
          refine g_iconst (v := 0) o dX12_does_134 (by decide) ?_
          exact g_iret o dX12_does_135 (rt_v q e)
      · rw [if_pos u] at e
        refine g_aload_n 1 o dX12_does_88 rfl rfl ?_
        refine g_iload_n 3 o dX12_does_89 rfl rfl ?_
        obtain ⟨_, k90, e⟩ := ob e
        obtain ⟨h90, q90, e⟩ := ob e
        refine g_callV0 [.int v2] o (mX12_sails q90) cf12 (ckO_s k90) mw_1444 mw_1445 mw_1764 mw_19 mw_1446 rfl yo_X12_sails rfl rfl (Nat.le_of_ble_eq_true rfl) ⟨by decide, by decide⟩ ⟨rfl, rfl⟩ dX12_does_90 ⟨by decide, by decide⟩ ?_
        refine g_goto 134 o dX12_does_93 (by decide) ?_
        refine g_iconst (v := 0) o dX12_does_134 (by decide) ?_
        exact g_iret o dX12_does_135 (rt_v q e)
    · rw [if_pos u] at e
      refine g_aload_n 1 o dX12_does_75 rfl rfl ?_
      refine g_iload_n 3 o dX12_does_76 rfl rfl ?_
      obtain ⟨_, k77, e⟩ := ob e
      obtain ⟨h77, q77, e⟩ := ob e
      refine g_callV0 [.int v2] o (mX12_paints q77) cf12 (ckO_s k77) mw_1434 mw_1435 mw_1762 mw_19 mw_1436 rfl yo_X12_paints rfl rfl (Nat.le_of_ble_eq_true rfl) ⟨by decide, by decide⟩ ⟨rfl, rfl⟩ dX12_does_77 ⟨by decide, by decide⟩ ?_
      refine g_goto 134 o dX12_does_80 (by decide) ?_
      refine g_iconst (v := 0) o dX12_does_134 (by decide) ?_
      exact g_iret o dX12_does_135 (rt_v q e)
  · rw [if_neg u] at e
    refine g_bipush (v := 10) o dX12_does_63 (by decide) ?_
    refine g_iload_n 2 o dX12_does_65 rfl rfl ?_
    refine g_imul (x := (10 : Int32)) (y := v1) o dX12_does_66 ?_
    refine g_iload 0 o dX12_does_67 rfl ?_
    refine g_iadd (x := ((10 : Int32) * v1)) (y := s0) o dX12_does_69 ?_
    exact g_iret o dX12_does_70 (rt_v q e)
theorem yo_X12_does : yok yX12_does 3 := ⟨by decide, by decide, by decide +kernel⟩
set_option maxRecDepth 100000 in
set_option maxHeartbeats 4000000 in
theorem mX12_does {l : Launch} {D : va_G} {cy : Nat → ClassId} {f0 : Nat} {a : Nat} {p0 : Int32} {p1 : Int32} {p2 : Int32} {h : Hp} {r : Int32} {hz : Hp} (e : fX12_does f0 a p0 p1 p2 h = some (r, hz)) : MC l D cy yX12_does cX12_does 5 (some .int) rmX12_does [.ref a, .int p0, .int p1, .int p2] h (some (.int r)) hz := by
  refine mc_of2 (by decide) (Nat.le_of_ble_eq_true rfl) (fun X hl hD hy hin o q => ?_)
  subst hl; subst hD; subst hy
  show G X 5 0 [(0, .ref a), (1, .int p0), (2, .int p1), (3, .int p2)] [] h 0 0
  unfold fX12_does at e
  refine g_iload_n 1 o dX12_does_0 rfl rfl ?_
  refine g_if_ne (x := p0) 12 o dX12_does_1 (by decide) (fun u => ?_) (fun u => ?_)
  · rw [if_neg u] at e
    refine g_iload_n 1 o dX12_does_12 rfl rfl ?_
    refine g_iconst (v := 1) o dX12_does_13 (by decide) ?_
    refine g_icmp_ne (x := p0) (y := 1) 25 o dX12_does_14 (by decide) (fun u => ?_) (fun u => ?_)
    · rw [if_neg u] at e
      refine g_iload_n 1 o dX12_does_25 rfl rfl ?_
      refine g_iconst (v := 2) o dX12_does_26 (by decide) ?_
      refine g_icmp_ne (x := p0) (y := 2) 38 o dX12_does_27 (by decide) (fun u => ?_) (fun u => ?_)
      · rw [if_neg u] at e
        refine g_iload_n 1 o dX12_does_38 rfl rfl ?_
        refine g_iconst (v := 3) o dX12_does_39 (by decide) ?_
        refine g_icmp_ne (x := p0) (y := 3) 50 o dX12_does_40 (by decide) (fun u => ?_) (fun u => ?_)
        · rw [if_neg u] at e
          refine g_aload_n 0 o dX12_does_50 rfl rfl ?_
          refine g_iload_n 2 o dX12_does_51 rfl rfl ?_
          refine g_iload_n 3 o dX12_does_52 rfl rfl ?_
          obtain ⟨_, k53, e⟩ := ob e
          obtain ⟨x53, h53, q53, e⟩ := ob2_s e
          refine g_callVv [.int p1, .int p2] o (mX12_whyLearn q53) cf12 (ckO_s k53) mw_1474 mw_1475 mw_1770 mw_19 mw_1476 rfl yo_X12_whyLearn rfl rfl (Nat.le_of_ble_eq_true rfl) ⟨by decide, by decide⟩ ⟨rfl, rfl⟩ dX12_does_53 ⟨by decide, by decide⟩ ?_
          exact kX12_does_56 f0 o a p0 p1 p2 x53 h53 r hz q e
        · rw [if_pos u] at e
          refine g_aload_n 0 o dX12_does_43 rfl rfl ?_
          obtain ⟨_, k44, e⟩ := ob e
          obtain ⟨x44, h44, q44, e⟩ := ob2_s e
          refine g_callVv [] o (mX12_whyTake q44) cf12 (ckO_s k44) mw_1461 mw_1462 mw_1767 mw_19 mw_1463 rfl yo_X12_whyTake rfl rfl (Nat.le_of_ble_eq_true rfl) ⟨by decide, by decide⟩ ⟨rfl, rfl⟩ dX12_does_44 ⟨by decide, by decide⟩ ?_
          refine g_goto 56 o dX12_does_47 (by decide) ?_
          exact kX12_does_56 f0 o a p0 p1 p2 x44 h44 r hz q e
      · rw [if_pos u] at e
        refine g_aload_n 0 o dX12_does_30 rfl rfl ?_
        refine g_iload_n 2 o dX12_does_31 rfl rfl ?_
        obtain ⟨_, k32, e⟩ := ob e
        obtain ⟨x32, h32, q32, e⟩ := ob2_s e
        refine g_callVv [.int p1] o (mX12_whyWait q32) cf12 (ckO_s k32) mw_1454 mw_1455 mw_1766 mw_19 mw_1456 rfl yo_X12_whyWait rfl rfl (Nat.le_of_ble_eq_true rfl) ⟨by decide, by decide⟩ ⟨rfl, rfl⟩ dX12_does_32 ⟨by decide, by decide⟩ ?_
        refine g_goto 56 o dX12_does_35 (by decide) ?_
        exact kX12_does_56 f0 o a p0 p1 p2 x32 h32 r hz q e
    · rw [if_pos u] at e
      refine g_aload_n 0 o dX12_does_17 rfl rfl ?_
      refine g_iload_n 2 o dX12_does_18 rfl rfl ?_
      obtain ⟨_, k19, e⟩ := ob e
      obtain ⟨x19, h19, q19, e⟩ := ob2_s e
      refine g_callVv [.int p1] o (mX12_whySail q19) cf12 (ckO_s k19) mw_1441 mw_1442 mw_1763 mw_19 mw_1443 rfl yo_X12_whySail rfl rfl (Nat.le_of_ble_eq_true rfl) ⟨by decide, by decide⟩ ⟨rfl, rfl⟩ dX12_does_19 ⟨by decide, by decide⟩ ?_
      refine g_goto 56 o dX12_does_22 (by decide) ?_
      exact kX12_does_56 f0 o a p0 p1 p2 x19 h19 r hz q e
  · rw [if_pos u] at e
    refine g_aload_n 0 o dX12_does_4 rfl rfl ?_
    refine g_iload_n 2 o dX12_does_5 rfl rfl ?_
    obtain ⟨_, k6, e⟩ := ob e
    obtain ⟨x6, h6, q6, e⟩ := ob2_s e
    refine g_callVv [.int p1] o (mX12_whyPaint q6) cf12 (ckO_s k6) mw_1413 mw_1414 mw_1755 mw_19 mw_1415 rfl yo_X12_whyPaint rfl rfl (Nat.le_of_ble_eq_true rfl) ⟨by decide, by decide⟩ ⟨rfl, rfl⟩ dX12_does_6 ⟨by decide, by decide⟩ ?_
    refine g_goto 56 o dX12_does_9 (by decide) ?_
    exact kX12_does_56 f0 o a p0 p1 p2 x6 h6 r hz q e
set_option maxRecDepth 100000 in
set_option maxHeartbeats 4000000 in
theorem kX12_log_62 {X : Cx} (f0 : Nat) (o : Ok X cX12_log RX12 4 rmX12_log (some .int)) (v0 : Nat) (h : Hp) (r : Int32) (hz : Hp) (q : Rt X (some (.int r)) hz 0 0) (e : bX12_log_62 f0 v0 h = some (r, hz)) : G X 4 62 [(0, .ref v0)] [] h 0 0 := by
  unfold bX12_log_62 at e
  refine g_bipush (v := -2) o dX12_log_62 (by decide) ?_
  refine g_aload_n 0 o dX12_log_64 rfl rfl ?_
  obtain ⟨x65, q65, e⟩ := ob e
  refine g_getI 16 o cf12 (by decide) mw_1202 dX12_log_65 q65 ?_
  refine g_isub (x := ((-2) : Int32)) (y := x65) o dX12_log_68 ?_
  exact g_iret o dX12_log_69 (rt_v q e)
set_option maxRecDepth 100000 in
set_option maxHeartbeats 4000000 in
theorem kX12_log_185 {X : Cx} (f0 : Nat) (g111 : Nat → Int32 → Int32 → Int32 → Hp → Option (Int32 × Hp)) (i111 : ∀ (v02 : Nat) (v12 : Int32) (v22 : Int32) (v32 : Int32) (h2 : Hp) (r : Int32) (hz : Hp), Rt X (some (.int r)) hz 0 0 → g111 v02 v12 v22 v32 h2 = some (r, hz) → G X 4 111 [(0, .ref v02), (1, .int v12), (2, .int v22), (3, .int v32)] [] h2 0 0) (o : Ok X cX12_log RX12 4 rmX12_log (some .int)) (v0 : Nat) (v1 : Int32) (v2 : Int32) (v3 : Int32) (h : Hp) (r : Int32) (hz : Hp) (q : Rt X (some (.int r)) hz 0 0) (e : bX12_log_185 f0 g111 v0 v1 v2 v3 h = some (r, hz)) : G X 4 185 [(0, .ref v0), (1, .int v1), (2, .int v2), (3, .int v3)] [] h 0 0 := by
  unfold bX12_log_185 at e
  refine g_iinc (k := 3) (v := (v3 + 1)) [(3, .int (v3 + 1)), (0, .ref v0), (1, .int v1), (2, .int v2)] o dX12_log_185 rfl rfl (by decide) rfl ?_
  refine g_goto 111 o dX12_log_188 (by decide) ?_
  refine g_sb [1, 2, 3, 0] rfl ?_
  exact i111 v0 v1 v2 (v3 + 1) h r hz q e
set_option maxRecDepth 100000 in
set_option maxHeartbeats 4000000 in
theorem kX12_log_288 {X : Cx} (f0 : Nat) (o : Ok X cX12_log RX12 4 rmX12_log (some .int)) (v2 : Int32) (h : Hp) (r : Int32) (hz : Hp) (q : Rt X (some (.int r)) hz 0 0) (e : bX12_log_288 f0 v2 h = some (r, hz)) : G X 4 288 [(2, .int v2)] [] h 0 0 := by
  unfold bX12_log_288 at e
  refine g_iload_n 0 o dX12_log_288 rfl rfl ?_
  exact g_iret o dX12_log_289 (rt_v q e)
set_option maxRecDepth 100000 in
set_option maxHeartbeats 4000000 in
theorem kX12_log_280 {X : Cx} (f0 : Nat) (o : Ok X cX12_log RX12 4 rmX12_log (some .int)) (v0 : Nat) (v1 : Int32) (v2 : Int32) (h : Hp) (r : Int32) (hz : Hp) (q : Rt X (some (.int r)) hz 0 0) (e : bX12_log_280 f0 v0 v1 v2 h = some (r, hz)) : G X 4 280 [(0, .ref v0), (1, .int v1), (2, .int v2)] [] h 0 0 := by
  unfold bX12_log_280 at e
  refine g_iload_n 1 o dX12_log_280 rfl rfl ?_
  refine g_if_ne (x := v1) 288 o dX12_log_281 (by decide) (fun u => ?_) (fun u => ?_)
  · rw [if_neg u] at e
    refine g_sb [2] rfl ?_
    exact kX12_log_288 f0 o v2 h r hz q e
  · rw [if_pos u] at e
    refine g_aload_n 0 o dX12_log_284 rfl rfl ?_
    obtain ⟨_, k285, e⟩ := ob e
    obtain ⟨h285, q285, e⟩ := ob e
    refine g_callV0 [] o (mX12_back q285) cf12 (ckO_s k285) mw_1614 mw_1615 mw_1783 mw_19 mw_1616 rfl yo_X12_back rfl rfl (Nat.le_of_ble_eq_true rfl) ⟨by decide, by decide⟩ ⟨rfl, rfl⟩ dX12_log_285 ⟨by decide, by decide⟩ ?_
    refine g_sb [2] rfl ?_
    exact kX12_log_288 f0 o v2 h285 r hz q e
set_option maxRecDepth 100000 in
set_option maxHeartbeats 4000000 in
theorem kX12_log_244 {X : Cx} (f0 : Nat) (o : Ok X cX12_log RX12 4 rmX12_log (some .int)) (f : Nat) (v0 : Nat) (v1 : Int32) (v2 : Int32) (v3 : Int32) (h : Hp) (r : Int32) (hz : Hp) (q : Rt X (some (.int r)) hz 0 0) (e : bX12_log_244 f0 f v0 v1 v2 v3 h = some (r, hz)) : G X 4 244 [(0, .ref v0), (1, .int v1), (2, .int v2), (3, .int v3)] [] h 0 0 := by
  induction f generalizing v0 v1 v2 v3 h r hz with
  | zero => cases e
  | succ f1 ih =>
    unfold bX12_log_244 at e
    refine g_iload_n 3 o dX12_log_244 rfl rfl ?_
    refine g_sipush (v := 153) o dX12_log_245 (by decide) ?_
    refine g_icmp_ge (x := v3) (y := 153) 280 o dX12_log_248 (by decide) (fun u => ?_) (fun u => ?_)
    · rw [if_pos u] at e
      refine g_sb [0, 1, 2] rfl ?_
      exact kX12_log_280 f0 o v0 v1 v2 h r hz q e
    · rw [if_neg u] at e
      refine g_aload_n 0 o dX12_log_251 rfl rfl ?_
      obtain ⟨x252, q252, e⟩ := ob e
      refine g_getN 27 o cf12 (by decide) mw_1213 dX12_log_252 q252 ?_
      refine g_sipush (v := 153) o dX12_log_255 (by decide) ?_
      refine g_aload_n 0 o dX12_log_258 rfl rfl ?_
      obtain ⟨x259, q259, e⟩ := ob e
      refine g_getI 29 o cf12 (by decide) mw_1215 dX12_log_259 q259 ?_
      refine g_iconst (v := 1) o dX12_log_262 (by decide) ?_
      refine g_isub (x := x259) (y := 1) o dX12_log_263 ?_
      refine g_imul (x := (153 : Int32)) (y := (x259 - 1)) o dX12_log_264 ?_
      refine g_iload_n 3 o dX12_log_265 rfl rfl ?_
      refine g_iadd (x := ((153 : Int32) * (x259 - 1))) (y := v3) o dX12_log_266 ?_
      refine g_aload_n 0 o dX12_log_267 rfl rfl ?_
      obtain ⟨x268, q268, e⟩ := ob e
      refine g_getN 28 o cf12 (by decide) mw_1214 dX12_log_268 q268 ?_
      refine g_iload_n 3 o dX12_log_271 rfl rfl ?_
      obtain ⟨x272, q272, e⟩ := ob e
      refine g_iald o dX12_log_272 q272 ?_
      obtain ⟨h273, q273, e⟩ := ob e
      refine g_iast o dX12_log_273 q273 ?_
      refine g_iinc (k := 3) (v := (v3 + 1)) [(3, .int (v3 + 1)), (0, .ref v0), (1, .int v1), (2, .int v2)] o dX12_log_274 rfl rfl (by decide) rfl ?_
      refine g_goto 244 o dX12_log_277 (by decide) ?_
      refine g_sb [1, 2, 3, 0] rfl ?_
      exact ih v0 v1 v2 (v3 + 1) h273 r hz q e
set_option maxRecDepth 100000 in
set_option maxHeartbeats 4000000 in
theorem kX12_log_191 {X : Cx} (f0 : Nat) (o : Ok X cX12_log RX12 4 rmX12_log (some .int)) (v0 : Nat) (v1 : Int32) (v2 : Int32) (h : Hp) (r : Int32) (hz : Hp) (q : Rt X (some (.int r)) hz 0 0) (e : bX12_log_191 f0 v0 v1 v2 h = some (r, hz)) : G X 4 191 [(0, .ref v0), (1, .int v1), (2, .int v2)] [] h 0 0 := by
  unfold bX12_log_191 at e
  refine g_aload_n 0 o dX12_log_191 rfl rfl ?_
  obtain ⟨x192, q192, e⟩ := ob e
  refine g_getN 37 o cf12 (by decide) mw_1223 dX12_log_192 q192 ?_
  refine g_iconst (v := 2) o dX12_log_195 (by decide) ?_
  refine g_aload_n 0 o dX12_log_196 rfl rfl ?_
  obtain ⟨x197, q197, e⟩ := ob e
  refine g_getN 6 o cf12 (by decide) mw_1192 dX12_log_197 q197 ?_
  refine g_sipush (v := 312) o dX12_log_200 (by decide) ?_
  obtain ⟨x203, q203, e⟩ := ob e
  refine g_iald o dX12_log_203 q203 ?_
  obtain ⟨h204, q204, e⟩ := ob e
  refine g_iast o dX12_log_204 q204 ?_
  refine g_aload_n 0 o dX12_log_205 rfl rfl ?_
  obtain ⟨x206, q206, e⟩ := ob e
  refine g_getN 37 o cf12 (by decide) mw_1223 dX12_log_206 q206 ?_
  refine g_iconst (v := 3) o dX12_log_209 (by decide) ?_
  refine g_aload_n 0 o dX12_log_210 rfl rfl ?_
  obtain ⟨x211, q211, e⟩ := ob e
  refine g_getN 6 o cf12 (by decide) mw_1192 dX12_log_211 q211 ?_
  refine g_sipush (v := 317) o dX12_log_214 (by decide) ?_
  obtain ⟨x217, q217, e⟩ := ob e
  refine g_iald o dX12_log_217 q217 ?_
  obtain ⟨h218, q218, e⟩ := ob e
  refine g_iast o dX12_log_218 q218 ?_
  refine g_aload_n 0 o dX12_log_219 rfl rfl ?_
  refine g_iconst (v := 1) o dX12_log_220 (by decide) ?_
  obtain ⟨h221, q221, e⟩ := ob e
  refine g_put (ty1 := .boolean) 38 o cf12 (by decide) mw_1224 rfl (by decide +kernel) (nar_z (pfZ_s q221).1).1 (nar_z (pfZ_s q221).1).2 dX12_log_221 (pfZ_s q221).2 ?_
  refine g_iload_n 1 o dX12_log_224 rfl rfl ?_
  refine g_iconst (v := 1) o dX12_log_225 (by decide) ?_
  refine g_icmp_ne (x := v1) (y := 1) 280 o dX12_log_226 (by decide) (fun u => ?_) (fun u => ?_)
  · rw [if_neg u] at e
    exact kX12_log_280 f0 o v0 v1 v2 h221 r hz q e
  · rw [if_pos u] at e
    refine g_aload_n 0 o dX12_log_229 rfl rfl ?_
    obtain ⟨x230, q230, e⟩ := ob e
    refine g_getN 37 o cf12 (by decide) mw_1223 dX12_log_230 q230 ?_
    refine g_iconst (v := 1) o dX12_log_233 (by decide) ?_
    obtain ⟨x234, q234, e⟩ := ob e
    refine g_iald o dX12_log_234 q234 ?_
    refine g_if_le (x := x234) 280 o dX12_log_235 (by decide) (fun u => ?_) (fun u => ?_)
    · rw [if_pos u] at e
      exact kX12_log_280 f0 o v0 v1 v2 h221 r hz q e
    · rw [if_neg u] at e
      refine g_aload_n 0 o dX12_log_238 rfl rfl ?_
      obtain ⟨_, k239, e⟩ := ob e
      obtain ⟨h239, q239, e⟩ := ob e
      refine g_callV0 [] o (mX12_keep q239) cf12 (ckO_s k239) mw_1431 mw_1432 mw_1761 mw_19 mw_1433 rfl yo_X12_keep rfl rfl (Nat.le_of_ble_eq_true rfl) ⟨by decide, by decide⟩ ⟨rfl, rfl⟩ dX12_log_239 ⟨by decide, by decide⟩ ?_
      refine g_iconst (v := 0) o dX12_log_242 (by decide) ?_
      refine g_istore_n [(3, .int 0), (0, .ref v0), (1, .int v1), (2, .int v2)] o dX12_log_243 rfl (by decide) rfl ?_
      refine g_sb [1, 2, 3, 0] rfl ?_
      exact kX12_log_244 f0 o f0 v0 v1 v2 0 h239 r hz q e
set_option maxRecDepth 100000 in
set_option maxHeartbeats 4000000 in
theorem kX12_log_111 {X : Cx} (f0 : Nat) (o : Ok X cX12_log RX12 4 rmX12_log (some .int)) (f : Nat) (v0 : Nat) (v1 : Int32) (v2 : Int32) (v3 : Int32) (h : Hp) (r : Int32) (hz : Hp) (q : Rt X (some (.int r)) hz 0 0) (e : bX12_log_111 f0 f v0 v1 v2 v3 h = some (r, hz)) : G X 4 111 [(0, .ref v0), (1, .int v1), (2, .int v2), (3, .int v3)] [] h 0 0 := by
  induction f generalizing v0 v1 v2 v3 h r hz with
  | zero => cases e
  | succ f1 ih =>
    unfold bX12_log_111 at e
    refine g_iload_n 3 o dX12_log_111 rfl rfl ?_
    refine g_aload_n 0 o dX12_log_112 rfl rfl ?_
    obtain ⟨x113, q113, e⟩ := ob e
    refine g_getI 36 o cf12 (by decide) mw_1222 dX12_log_113 q113 ?_
    refine g_icmp_ge (x := v3) (y := x113) 191 o dX12_log_116 (by decide) (fun u => ?_) (fun u => ?_)
    · rw [if_pos u] at e
      refine g_sb [0, 1, 2] rfl ?_
      exact kX12_log_191 f0 o v0 v1 v2 h r hz q e
    · rw [if_neg u] at e
      refine g_iload_n 2 o dX12_log_119 rfl rfl ?_
      refine g_if_ge (x := v2) 191 o dX12_log_120 (by decide) (fun u => ?_) (fun u => ?_)
      · rw [if_pos u] at e
        refine g_sb [0, 1, 2] rfl ?_
        exact kX12_log_191 f0 o v0 v1 v2 h r hz q e
      · rw [if_neg u] at e
        refine g_aload_n 0 o dX12_log_123 rfl rfl ?_
        obtain ⟨x124, q124, e⟩ := ob e
        refine g_getN 37 o cf12 (by decide) mw_1223 dX12_log_124 q124 ?_
        refine g_iconst (v := 0) o dX12_log_127 (by decide) ?_
        refine g_aload_n 0 o dX12_log_128 rfl rfl ?_
        refine g_aload_n 0 o dX12_log_129 rfl rfl ?_
        obtain ⟨x130, q130, e⟩ := ob e
        refine g_getN 8 o cf12 (by decide) mw_1194 dX12_log_130 q130 ?_
        refine g_iconst (v := 3) o dX12_log_133 (by decide) ?_
        refine g_iload_n 3 o dX12_log_134 rfl rfl ?_
        refine g_imul (x := (3 : Int32)) (y := v3) o dX12_log_135 ?_
        obtain ⟨x136, q136, e⟩ := ob e
        refine g_iald o dX12_log_136 q136 ?_
        refine g_aload_n 0 o dX12_log_137 rfl rfl ?_
        obtain ⟨x138, q138, e⟩ := ob e
        refine g_getN 8 o cf12 (by decide) mw_1194 dX12_log_138 q138 ?_
        refine g_iconst (v := 3) o dX12_log_141 (by decide) ?_
        refine g_iload_n 3 o dX12_log_142 rfl rfl ?_
        refine g_imul (x := (3 : Int32)) (y := v3) o dX12_log_143 ?_
        refine g_iconst (v := 1) o dX12_log_144 (by decide) ?_
        refine g_iadd (x := ((3 : Int32) * v3)) (y := 1) o dX12_log_145 ?_
        obtain ⟨x146, q146, e⟩ := ob e
        refine g_iald o dX12_log_146 q146 ?_
        refine g_aload_n 0 o dX12_log_147 rfl rfl ?_
        obtain ⟨x148, q148, e⟩ := ob e
        refine g_getN 8 o cf12 (by decide) mw_1194 dX12_log_148 q148 ?_
        refine g_iconst (v := 3) o dX12_log_151 (by decide) ?_
        refine g_iload_n 3 o dX12_log_152 rfl rfl ?_
        refine g_imul (x := (3 : Int32)) (y := v3) o dX12_log_153 ?_
        refine g_iconst (v := 2) o dX12_log_154 (by decide) ?_
        refine g_iadd (x := ((3 : Int32) * v3)) (y := 2) o dX12_log_155 ?_
        obtain ⟨x156, q156, e⟩ := ob e
        refine g_iald o dX12_log_156 q156 ?_
        obtain ⟨_, k157, e⟩ := ob e
        obtain ⟨x157, h157, q157, e⟩ := ob2_s e
        refine g_callVv [.int x136, .int x146, .int x156] o (mX12_does q157) cf12 (ckO_s k157) mw_1624 mw_1625 mw_1785 mw_19 mw_1626 rfl yo_X12_does rfl rfl (Nat.le_of_ble_eq_true rfl) ⟨by decide, by decide⟩ ⟨rfl, rfl⟩ dX12_log_157 ⟨by decide, by decide⟩ ?_
        obtain ⟨h160, q160, e⟩ := ob e
        refine g_iast o dX12_log_160 q160 ?_
        refine g_aload_n 0 o dX12_log_161 rfl rfl ?_
        obtain ⟨x162, q162, e⟩ := ob e
        refine g_getN 37 o cf12 (by decide) mw_1223 dX12_log_162 q162 ?_
        refine g_iconst (v := 0) o dX12_log_165 (by decide) ?_
        obtain ⟨x166, q166, e⟩ := ob e
        refine g_iald o dX12_log_166 q166 ?_
        refine g_if_le (x := x166) 175 o dX12_log_167 (by decide) (fun u => ?_) (fun u => ?_)
        · rw [if_pos u] at e
          refine g_aload_n 0 o dX12_log_175 rfl rfl ?_
          obtain ⟨x176, q176, e⟩ := ob e
          refine g_getN 37 o cf12 (by decide) mw_1223 dX12_log_176 q176 ?_
          refine g_iconst (v := 1) o dX12_log_179 (by decide) ?_
          refine g_dup2 o dX12_log_180 rfl rfl ?_
          obtain ⟨x181, q181, e⟩ := ob e
          refine g_iald o dX12_log_181 q181 ?_
          refine g_iconst (v := 1) o dX12_log_182 (by decide) ?_
          refine g_iadd (x := x181) (y := 1) o dX12_log_183 ?_
          obtain ⟨h184, q184, e⟩ := ob e
          refine g_iast o dX12_log_184 q184 ?_
          exact kX12_log_185 f0 (bX12_log_111 f0 f1) ih o v0 v1 v2 v3 h184 r hz q e
        · rw [if_neg u] at e
          refine g_iload_n 3 o dX12_log_170 rfl rfl ?_
          refine g_istore_n [(2, .int v3), (0, .ref v0), (1, .int v1), (3, .int v3)] o dX12_log_171 rfl (by decide) rfl ?_
          refine g_goto 185 o dX12_log_172 (by decide) ?_
          refine g_sb [1, 2, 0, 3] rfl ?_
          exact kX12_log_185 f0 (bX12_log_111 f0 f1) ih o v0 v1 v3 v3 h160 r hz q e
set_option maxRecDepth 100000 in
set_option maxHeartbeats 4000000 in
theorem kX12_log_89 {X : Cx} (f0 : Nat) (o : Ok X cX12_log RX12 4 rmX12_log (some .int)) (f : Nat) (v0 : Nat) (v1 : Int32) (v2 : Int32) (h : Hp) (r : Int32) (hz : Hp) (q : Rt X (some (.int r)) hz 0 0) (e : bX12_log_89 f0 f v0 v1 v2 h = some (r, hz)) : G X 4 89 [(0, .ref v0), (1, .int v1), (2, .int v2)] [] h 0 0 := by
  induction f generalizing v0 v1 v2 h r hz with
  | zero => cases e
  | succ f1 ih =>
    unfold bX12_log_89 at e
    refine g_iload_n 2 o dX12_log_89 rfl rfl ?_
    refine g_iconst (v := 4) o dX12_log_90 (by decide) ?_
    refine g_icmp_ge (x := v2) (y := 4) 107 o dX12_log_91 (by decide) (fun u => ?_) (fun u => ?_)
    · rw [if_pos u] at e
      refine g_iconst (v := -1) o dX12_log_107 (by decide) ?_
      refine g_istore_n [(2, .int (-1)), (0, .ref v0), (1, .int v1)] o dX12_log_108 rfl (by decide) rfl ?_
      refine g_iconst (v := 0) o dX12_log_109 (by decide) ?_
      refine g_istore_n [(3, .int 0), (2, .int (-1)), (0, .ref v0), (1, .int v1)] o dX12_log_110 rfl (by decide) rfl ?_
      refine g_sb [2, 3, 1, 0] rfl ?_
      exact kX12_log_111 f0 o f0 v0 v1 (-1) 0 h r hz q e
    · rw [if_neg u] at e
      refine g_aload_n 0 o dX12_log_94 rfl rfl ?_
      obtain ⟨x95, q95, e⟩ := ob e
      refine g_getN 37 o cf12 (by decide) mw_1223 dX12_log_95 q95 ?_
      refine g_iload_n 2 o dX12_log_98 rfl rfl ?_
      refine g_iconst (v := 0) o dX12_log_99 (by decide) ?_
      obtain ⟨h100, q100, e⟩ := ob e
      refine g_iast o dX12_log_100 q100 ?_
      refine g_iinc (k := 2) (v := (v2 + 1)) [(2, .int (v2 + 1)), (0, .ref v0), (1, .int v1)] o dX12_log_101 rfl rfl (by decide) rfl ?_
      refine g_goto 89 o dX12_log_104 (by decide) ?_
      refine g_sb [1, 2, 0] rfl ?_
      exact ih v0 v1 (v2 + 1) h100 r hz q e
set_option maxRecDepth 100000 in
set_option maxHeartbeats 4000000 in
theorem kX12_log_39 {X : Cx} (f0 : Nat) (o : Ok X cX12_log RX12 4 rmX12_log (some .int)) (f : Nat) (v0 : Nat) (v1 : Int32) (h : Hp) (r : Int32) (hz : Hp) (q : Rt X (some (.int r)) hz 0 0) (e : bX12_log_39 f0 f v0 v1 h = some (r, hz)) : G X 4 39 [(0, .ref v0), (1, .int v1)] [] h 0 0 := by
  induction f generalizing v0 v1 h r hz with
  | zero => cases e
  | succ f1 ih =>
    unfold bX12_log_39 at e
    refine g_aload_n 0 o dX12_log_39 rfl rfl ?_
    obtain ⟨x40, q40, e⟩ := ob e
    refine g_getI 11 o cf12 (by decide) mw_1197 dX12_log_40 q40 ?_
    refine g_if_eq (x := x40) 83 o dX12_log_43 (by decide) (fun u => ?_) (fun u => ?_)
    · rw [if_pos u] at e
      refine g_aload_n 0 o dX12_log_83 rfl rfl ?_
      obtain ⟨_, k84, e⟩ := ob e
      obtain ⟨h84, q84, e⟩ := ob e
      refine g_callV0 [] o (mX12_tries q84) cf12 (ckO_s k84) mw_1611 mw_1612 mw_1782 mw_19 mw_1613 rfl yo_X12_tries rfl rfl (Nat.le_of_ble_eq_true rfl) ⟨by decide, by decide⟩ ⟨rfl, rfl⟩ dX12_log_84 ⟨by decide, by decide⟩ ?_
      refine g_iconst (v := 0) o dX12_log_87 (by decide) ?_
      refine g_istore_n [(2, .int 0), (0, .ref v0), (1, .int v1)] o dX12_log_88 rfl (by decide) rfl ?_
      refine g_sb [1, 2, 0] rfl ?_
      exact kX12_log_89 f0 o f0 v0 v1 0 h84 r hz q e
    · rw [if_neg u] at e
      refine g_aload_n 0 o dX12_log_46 rfl rfl ?_
      obtain ⟨_, k47, e⟩ := ob e
      obtain ⟨x47, h47, q47, e⟩ := ob2_s e
      refine g_callVv [] o (mX12_logLine q47) cf12 (ckO_s k47) mw_1621 mw_1622 mw_1784 mw_19 mw_1623 rfl yo_X12_logLine rfl rfl (Nat.le_of_ble_eq_true rfl) ⟨by decide, by decide⟩ ⟨rfl, rfl⟩ dX12_log_47 ⟨by decide, by decide⟩ ?_
      refine g_if_eq (x := x47) 62 o dX12_log_50 (by decide) (fun u => ?_) (fun u => ?_)
      · rw [if_pos u] at e
        refine g_sb [0] rfl ?_
        exact kX12_log_62 f0 o v0 h47 r hz q e
      · rw [if_neg u] at e
        refine g_aload_n 0 o dX12_log_53 rfl rfl ?_
        refine g_bipush (v := 59) o dX12_log_54 (by decide) ?_
        obtain ⟨_, k56, e⟩ := ob e
        obtain ⟨x56, h56, q56, e⟩ := ob2_s e
        refine g_callVv [.int 59] o (mX12_sign q56) cf12 (ckO_s k56) mw_1358 mw_1359 mw_1746 mw_19 mw_1360 rfl yo_X12_sign rfl rfl (Nat.le_of_ble_eq_true rfl) ⟨by decide, by decide⟩ ⟨rfl, rfl⟩ dX12_log_56 ⟨by decide, by decide⟩ ?_
        refine g_if_ne (x := x56) 70 o dX12_log_59 (by decide) (fun u => ?_) (fun u => ?_)
        · rw [if_neg u] at e
          refine g_aload_n 0 o dX12_log_70 rfl rfl ?_
          refine g_dup o dX12_log_71 rfl ?_
          obtain ⟨x72, q72, e⟩ := ob e
          refine g_getI 36 o cf12 (by decide) mw_1222 dX12_log_72 q72 ?_
          refine g_iconst (v := 1) o dX12_log_75 (by decide) ?_
          refine g_iadd (x := x72) (y := 1) o dX12_log_76 ?_
          obtain ⟨h77, q77, e⟩ := ob e
          refine g_put (ty1 := .int) 36 o cf12 (by decide) mw_1222 rfl (by decide +kernel) rfl rfl dX12_log_77 q77 ?_
          refine g_goto 39 o dX12_log_80 (by decide) ?_
          exact ih v0 v1 h77 r hz q e
        · rw [if_pos u] at e
          refine g_sb [0] rfl ?_
          exact kX12_log_62 f0 o v0 h56 r hz q e
theorem yo_X12_log : yok yX12_log 1 := ⟨by decide, by decide, by decide +kernel⟩
set_option maxRecDepth 100000 in
set_option maxHeartbeats 4000000 in
theorem mX12_log {l : Launch} {D : va_G} {cy : Nat → ClassId} {f0 : Nat} {a : Nat} {p0 : Int32} {h : Hp} {r : Int32} {hz : Hp} (e : fX12_log f0 a p0 h = some (r, hz)) : MC l D cy yX12_log cX12_log 4 (some .int) rmX12_log [.ref a, .int p0] h (some (.int r)) hz := by
  refine mc_of2 (by decide) (Nat.le_of_ble_eq_true rfl) (fun X hl hD hy hin o q => ?_)
  subst hl; subst hD; subst hy
  show G X 4 0 [(0, .ref a), (1, .int p0)] [] h 0 0
  unfold fX12_log at e
  refine g_aload_n 0 o dX12_log_0 rfl rfl ?_
  refine g_iconst (v := 0) o dX12_log_1 (by decide) ?_
  obtain ⟨h2, q2, e⟩ := ob e
  refine g_put (ty1 := .int) 0 o cf12 (by decide) mw_1186 rfl (by decide +kernel) rfl rfl dX12_log_2 q2 ?_
  refine g_iload_n 1 o dX12_log_5 rfl rfl ?_
  refine g_iconst (v := 0) o dX12_log_6 (by decide) ?_
  refine g_iconst (v := 1) o dX12_log_7 (by decide) ?_
  obtain ⟨x8, h8, q8, e⟩ := ob2_s e
  refine g_callSv [.int p0, .int 0, .int 1] o (mX12_isIn q8) mw_1337 mw_1338 mw_19 mw_1339 yo_X12_isIn rfl rfl (Nat.le_of_ble_eq_true rfl) ⟨by decide, by decide⟩ ⟨rfl, rfl⟩ dX12_log_8 ⟨by decide, by decide⟩ ?_
  refine g_if_ne (x := x8) 18 o dX12_log_11 (by decide) (fun u => ?_) (fun u => ?_)
  · rw [if_neg u] at e
    refine g_aload_n 0 o dX12_log_18 rfl rfl ?_
    refine g_sipush (v := 400) o dX12_log_19 (by decide) ?_
    obtain ⟨_, k22, e⟩ := ob e
    obtain ⟨h22, q22, e⟩ := ob e
    refine g_callV0 [.int 400] o (mX12_taken q22) cf12 (ckO_s k22) mw_1289 mw_1290 mw_1727 mw_19 mw_1291 rfl yo_X12_taken rfl rfl (Nat.le_of_ble_eq_true rfl) ⟨by decide, by decide⟩ ⟨rfl, rfl⟩ dX12_log_22 ⟨by decide, by decide⟩ ?_
    refine g_aload_n 0 o dX12_log_25 rfl rfl ?_
    refine g_iconst (v := 0) o dX12_log_26 (by decide) ?_
    obtain ⟨h27, q27, e⟩ := ob e
    refine g_put (ty1 := .int) 15 o cf12 (by decide) mw_1201 rfl (by decide +kernel) rfl rfl dX12_log_27 q27 ?_
    refine g_aload_n 0 o dX12_log_30 rfl rfl ?_
    refine g_iconst (v := 0) o dX12_log_31 (by decide) ?_
    obtain ⟨h32, q32, e⟩ := ob e
    refine g_put (ty1 := .int) 36 o cf12 (by decide) mw_1222 rfl (by decide +kernel) rfl rfl dX12_log_32 q32 ?_
    refine g_aload_n 0 o dX12_log_35 rfl rfl ?_
    obtain ⟨_, k36, e⟩ := ob e
    obtain ⟨h36, q36, e⟩ := ob e
    refine g_callV0 [] o (mX12_next q36) cf12 (ckO_s k36) mw_1292 mw_1293 mw_1728 mw_19 mw_1294 rfl yo_X12_next rfl rfl (Nat.le_of_ble_eq_true rfl) ⟨by decide, by decide⟩ ⟨rfl, rfl⟩ dX12_log_36 ⟨by decide, by decide⟩ ?_
    exact kX12_log_39 f0 o f0 a p0 h36 r hz q e
  · rw [if_pos u] at e
    refine g_sipush (v := -1000) o dX12_log_14 (by decide) ?_
    exact g_iret o dX12_log_17 (rt_v q e)
