theorem yo_X12_knows : yok yX12_knows 2 := ⟨by decide, by decide, by decide +kernel⟩
set_option maxRecDepth 100000 in
set_option maxHeartbeats 4000000 in
theorem mX12_knows {l : Launch} {D : va_G} {cy : Nat → ClassId} {f0 : Nat} {a : Nat} {p0 : Int32} {p1 : Int32} {h : Hp} {r : Int32} {hz : Hp} (e : fX12_knows f0 a p0 p1 h = some (r, hz)) : MC l D cy yX12_knows cX12_knows 4 (some .int) rmX12_knows [.ref a, .int p0, .int p1] h (some (.int r)) hz := by
  refine mc_of2 (by decide) (Nat.le_of_ble_eq_true rfl) (fun X hl hD hy hin o q => ?_)
  subst hl; subst hD; subst hy
  show G X 4 0 [(0, .ref a), (1, .int p0), (2, .int p1)] [] h 0 0
  unfold fX12_knows at e
  refine g_aload_n 0 o dX12_knows_0 rfl rfl ?_
  refine g_iconst (v := 0) o dX12_knows_1 (by decide) ?_
  obtain ⟨h2, q2, e⟩ := ob e
  refine g_put (ty1 := .int) 0 o cf12 (by decide) mw_1186 rfl (by decide +kernel) rfl rfl dX12_knows_2 q2 ?_
  refine g_aload_n 0 o dX12_knows_5 rfl rfl ?_
  refine g_iload_n 1 o dX12_knows_6 rfl rfl ?_
  obtain ⟨_, k7, e⟩ := ob e
  obtain ⟨x7, h7, q7, e⟩ := ob2_s e
  refine g_callVv [.int p0] o (mX12_isPort q7) cf12 (ckO_s k7) mw_1369 mw_1370 mw_1747 mw_19 mw_1371 rfl yo_X12_isPort rfl rfl (Nat.le_of_ble_eq_true rfl) ⟨by decide, by decide⟩ ⟨rfl, rfl⟩ dX12_knows_7 ⟨by decide, by decide⟩ ?_
  refine g_if_eq (x := x7) 21 o dX12_knows_10 (by decide) (fun u => ?_) (fun u => ?_)
  · rw [if_pos u] at e
    refine g_iconst (v := -1) o dX12_knows_21 (by decide) ?_
    exact g_iret o dX12_knows_22 (rt_v q e)
  · rw [if_neg u] at e
    refine g_aload_n 0 o dX12_knows_13 rfl rfl ?_
    refine g_iload_n 2 o dX12_knows_14 rfl rfl ?_
    obtain ⟨_, k15, e⟩ := ob e
    obtain ⟨x15, h15, q15, e⟩ := ob2_s e
    refine g_callVv [.int p1] o (mX12_isShip q15) cf12 (ckO_s k15) mw_1399 mw_1400 mw_1753 mw_19 mw_1401 rfl yo_X12_isShip rfl rfl (Nat.le_of_ble_eq_true rfl) ⟨by decide, by decide⟩ ⟨rfl, rfl⟩ dX12_knows_15 ⟨by decide, by decide⟩ ?_
    refine g_if_ne (x := x15) 23 o dX12_knows_18 (by decide) (fun u => ?_) (fun u => ?_)
    · rw [if_neg u] at e
      refine g_aload_n 0 o dX12_knows_23 rfl rfl ?_
      refine g_iload_n 1 o dX12_knows_24 rfl rfl ?_
      refine g_iload_n 2 o dX12_knows_25 rfl rfl ?_
      obtain ⟨_, k26, e⟩ := ob e
      obtain ⟨x26, h26, q26, e⟩ := ob2_s e
      refine g_callVv [.int p0, .int p1] o (mX12_knowsFrom q26) cf12 (ckO_s k26) mw_1378 mw_1379 mw_1750 mw_19 mw_1380 rfl yo_X12_knowsFrom rfl rfl (Nat.le_of_ble_eq_true rfl) ⟨by decide, by decide⟩ ⟨rfl, rfl⟩ dX12_knows_26 ⟨by decide, by decide⟩ ?_
      refine g_istore_n [(3, .int x26), (0, .ref a), (1, .int p0), (2, .int p1)] o dX12_knows_29 rfl (by decide) rfl ?_
      refine g_iload_n 0 o dX12_knows_30 rfl rfl ?_
      refine g_ldc_w (v := 1000000) o dX12_knows_31 mw_1179 ?_
      refine g_icmp_lt (x := x26) (y := 1000000) 41 o dX12_knows_34 (by decide) (fun u => ?_) (fun u => ?_)
      · rw [if_pos u] at e
        refine g_iload_n 0 o dX12_knows_41 rfl rfl ?_
        exact g_iret o dX12_knows_42 (rt_v q e)
      · rw [if_neg u] at e
        refine g_iconst (v := -1) o dX12_knows_37 (by decide) ?_
        refine g_goto 42 o dX12_knows_38 (by decide) ?_
        exact g_iret o dX12_knows_42 (rt_v q e)
    · rw [if_pos u] at e
      refine g_iconst (v := -1) o dX12_knows_21 (by decide) ?_
      exact g_iret o dX12_knows_22 (rt_v q e)
set_option maxRecDepth 100000 in
set_option maxHeartbeats 4000000 in
theorem kX12_first_59 {X : Cx} (f0 : Nat) (g24 : Nat → Int32 → Int32 → Int32 → Int32 → Hp → Option (Int32 × Hp)) (i24 : ∀ (v02 : Nat) (v12 : Int32) (v22 : Int32) (v32 : Int32) (v42 : Int32) (h2 : Hp) (r : Int32) (hz : Hp), Rt X (some (.int r)) hz 0 0 → g24 v02 v12 v22 v32 v42 h2 = some (r, hz) → G X 6 24 [(0, .ref v02), (1, .int v12), (2, .int v22), (3, .int v32), (4, .int v42)] [] h2 0 0) (o : Ok X cX12_first RX12 6 rmX12_first (some .int)) (v0 : Nat) (v1 : Int32) (v2 : Int32) (v3 : Int32) (v4 : Int32) (h : Hp) (r : Int32) (hz : Hp) (q : Rt X (some (.int r)) hz 0 0) (e : bX12_first_59 f0 g24 v0 v1 v2 v3 v4 h = some (r, hz)) : G X 6 59 [(0, .ref v0), (1, .int v1), (2, .int v2), (3, .int v3), (4, .int v4)] [] h 0 0 := by
  unfold bX12_first_59 at e
  refine g_iinc (k := 4) (v := (v4 + 1)) [(4, .int (v4 + 1)), (0, .ref v0), (1, .int v1), (2, .int v2), (3, .int v3)] o dX12_first_59 rfl rfl (by decide) rfl ?_
  refine g_goto 24 o dX12_first_62 (by decide) ?_
  refine g_sb [1, 2, 3, 4, 0] rfl ?_
  exact i24 v0 v1 v2 v3 (v4 + 1) h r hz q e
set_option maxRecDepth 100000 in
set_option maxHeartbeats 4000000 in
theorem kX12_first_24 {X : Cx} (f0 : Nat) (o : Ok X cX12_first RX12 6 rmX12_first (some .int)) (f : Nat) (v0 : Nat) (v1 : Int32) (v2 : Int32) (v3 : Int32) (v4 : Int32) (h : Hp) (r : Int32) (hz : Hp) (q : Rt X (some (.int r)) hz 0 0) (e : bX12_first_24 f0 f v0 v1 v2 v3 v4 h = some (r, hz)) : G X 6 24 [(0, .ref v0), (1, .int v1), (2, .int v2), (3, .int v3), (4, .int v4)] [] h 0 0 := by
  induction f generalizing v0 v1 v2 v3 v4 h r hz with
  | zero => cases e
  | succ f1 ih =>
    unfold bX12_first_24 at e
    refine g_iload 4 o dX12_first_24 rfl ?_
    refine g_aload_n 0 o dX12_first_26 rfl rfl ?_
    obtain ⟨x27, q27, e⟩ := ob e
    refine g_getN 6 o cf12 (by decide) mw_1192 dX12_first_27 q27 ?_
    refine g_iconst (v := 0) o dX12_first_30 (by decide) ?_
    obtain ⟨x31, q31, e⟩ := ob e
    refine g_iald o dX12_first_31 q31 ?_
    refine g_icmp_ge (x := v4) (y := x31) 65 o dX12_first_32 (by decide) (fun u => ?_) (fun u => ?_)
    · rw [if_pos u] at e
      refine g_iload_n 2 o dX12_first_65 rfl rfl ?_
      exact g_iret o dX12_first_66 (rt_v q e)
    · rw [if_neg u] at e
      refine g_aload_n 0 o dX12_first_35 rfl rfl ?_
      refine g_iload 4 o dX12_first_36 rfl ?_
      refine g_iload_n 1 o dX12_first_38 rfl rfl ?_
      obtain ⟨_, k39, e⟩ := ob e
      obtain ⟨x39, h39, q39, e⟩ := ob2_s e
      refine g_callVv [.int v4, .int v1] o (mX12_knowsFrom q39) cf12 (ckO_s k39) mw_1378 mw_1379 mw_1750 mw_19 mw_1380 rfl yo_X12_knowsFrom rfl rfl (Nat.le_of_ble_eq_true rfl) ⟨by decide, by decide⟩ ⟨rfl, rfl⟩ dX12_first_39 ⟨by decide, by decide⟩ ?_
      refine g_istore [(5, .int x39), (0, .ref v0), (1, .int v1), (2, .int v2), (3, .int v3), (4, .int v4)] o dX12_first_42 (by decide) rfl ?_
      refine g_iload 0 o dX12_first_44 rfl ?_
      refine g_iload_n 4 o dX12_first_46 rfl rfl ?_
      refine g_icmp_lt (x := x39) (y := v3) 53 o dX12_first_47 (by decide) (fun u => ?_) (fun u => ?_)
      · rw [if_pos u] at e
        refine g_iload 0 o dX12_first_53 rfl ?_
        refine g_istore_n [(3, .int x39), (5, .int x39), (0, .ref v0), (1, .int v1), (2, .int v2), (4, .int v4)] o dX12_first_55 rfl (by decide) rfl ?_
        refine g_iload 5 o dX12_first_56 rfl ?_
        refine g_istore_n [(2, .int v4), (3, .int x39), (5, .int x39), (0, .ref v0), (1, .int v1), (4, .int v4)] o dX12_first_58 rfl (by decide) rfl ?_
        refine g_sb [3, 4, 0, 1, 5] rfl ?_
        exact kX12_first_59 f0 (bX12_first_24 f0 f1) ih o v0 v1 v4 x39 v4 h39 r hz q e
      · rw [if_neg u] at e
        refine g_goto 59 o dX12_first_50 (by decide) ?_
        refine g_sb [1, 2, 3, 4, 5] rfl ?_
        exact kX12_first_59 f0 (bX12_first_24 f0 f1) ih o v0 v1 v2 v3 v4 h39 r hz q e
theorem yo_X12_first : yok yX12_first 1 := ⟨by decide, by decide, by decide +kernel⟩
set_option maxRecDepth 100000 in
set_option maxHeartbeats 4000000 in
theorem mX12_first {l : Launch} {D : va_G} {cy : Nat → ClassId} {f0 : Nat} {a : Nat} {p0 : Int32} {h : Hp} {r : Int32} {hz : Hp} (e : fX12_first f0 a p0 h = some (r, hz)) : MC l D cy yX12_first cX12_first 6 (some .int) rmX12_first [.ref a, .int p0] h (some (.int r)) hz := by
  refine mc_of2 (by decide) (Nat.le_of_ble_eq_true rfl) (fun X hl hD hy hin o q => ?_)
  subst hl; subst hD; subst hy
  show G X 6 0 [(0, .ref a), (1, .int p0)] [] h 0 0
  unfold fX12_first at e
  refine g_aload_n 0 o dX12_first_0 rfl rfl ?_
  refine g_iconst (v := 0) o dX12_first_1 (by decide) ?_
  obtain ⟨h2, q2, e⟩ := ob e
  refine g_put (ty1 := .int) 0 o cf12 (by decide) mw_1186 rfl (by decide +kernel) rfl rfl dX12_first_2 q2 ?_
  refine g_aload_n 0 o dX12_first_5 rfl rfl ?_
  refine g_iload_n 1 o dX12_first_6 rfl rfl ?_
  obtain ⟨_, k7, e⟩ := ob e
  obtain ⟨x7, h7, q7, e⟩ := ob2_s e
  refine g_callVv [.int p0] o (mX12_isShip q7) cf12 (ckO_s k7) mw_1399 mw_1400 mw_1753 mw_19 mw_1401 rfl yo_X12_isShip rfl rfl (Nat.le_of_ble_eq_true rfl) ⟨by decide, by decide⟩ ⟨rfl, rfl⟩ dX12_first_7 ⟨by decide, by decide⟩ ?_
  refine g_if_ne (x := x7) 15 o dX12_first_10 (by decide) (fun u => ?_) (fun u => ?_)
  · rw [if_neg u] at e
    refine g_iconst (v := -1) o dX12_first_15 (by decide) ?_
    refine g_istore_n [(2, .int (-1)), (0, .ref a), (1, .int p0)] o dX12_first_16 rfl (by decide) rfl ?_
    refine g_ldc_w (v := 1000000) o dX12_first_17 mw_1179 ?_
    refine g_istore_n [(3, .int 1000000), (2, .int (-1)), (0, .ref a), (1, .int p0)] o dX12_first_20 rfl (by decide) rfl ?_
    refine g_iconst (v := 0) o dX12_first_21 (by decide) ?_
    refine g_istore [(4, .int 0), (3, .int 1000000), (2, .int (-1)), (0, .ref a), (1, .int p0)] o dX12_first_22 (by decide) rfl ?_
    refine g_sb [3, 4, 2, 1, 0] rfl ?_
    exact kX12_first_24 f0 o f0 a p0 (-1) 1000000 0 h7 r hz q e
  · rw [if_pos u] at e
    refine g_iconst (v := -1) o dX12_first_13 (by decide) ?_
    exact g_iret o dX12_first_14 (rt_v q e)
theorem yo_X12_far : yok yX12_far 2 := ⟨by decide, by decide, by decide +kernel⟩
set_option maxRecDepth 100000 in
set_option maxHeartbeats 4000000 in
theorem mX12_far {l : Launch} {D : va_G} {cy : Nat → ClassId} {f0 : Nat} {a : Nat} {p0 : Int32} {p1 : Int32} {h : Hp} {r : Int32} {hz : Hp} (e : fX12_far f0 a p0 p1 h = some (r, hz)) : MC l D cy yX12_far cX12_far 3 (some .int) rmX12_far [.ref a, .int p0, .int p1] h (some (.int r)) hz := by
  refine mc_of2 (by decide) (Nat.le_of_ble_eq_true rfl) (fun X hl hD hy hin o q => ?_)
  subst hl; subst hD; subst hy
  show G X 3 0 [(0, .ref a), (1, .int p0), (2, .int p1)] [] h 0 0
  unfold fX12_far at e
  refine g_aload_n 0 o dX12_far_0 rfl rfl ?_
  refine g_iconst (v := 0) o dX12_far_1 (by decide) ?_
  obtain ⟨h2, q2, e⟩ := ob e
  refine g_put (ty1 := .int) 0 o cf12 (by decide) mw_1186 rfl (by decide +kernel) rfl rfl dX12_far_2 q2 ?_
  refine g_aload_n 0 o dX12_far_5 rfl rfl ?_
  refine g_iload_n 1 o dX12_far_6 rfl rfl ?_
  obtain ⟨_, k7, e⟩ := ob e
  obtain ⟨x7, h7, q7, e⟩ := ob2_s e
  refine g_callVv [.int p0] o (mX12_isPort q7) cf12 (ckO_s k7) mw_1369 mw_1370 mw_1747 mw_19 mw_1371 rfl yo_X12_isPort rfl rfl (Nat.le_of_ble_eq_true rfl) ⟨by decide, by decide⟩ ⟨rfl, rfl⟩ dX12_far_7 ⟨by decide, by decide⟩ ?_
  refine g_if_eq (x := x7) 50 o dX12_far_10 (by decide) (fun u => ?_) (fun u => ?_)
  · rw [if_pos u] at e
    refine g_iconst (v := -1) o dX12_far_50 (by decide) ?_
    exact g_iret o dX12_far_51 (rt_v q e)
  · rw [if_neg u] at e
    refine g_aload_n 0 o dX12_far_13 rfl rfl ?_
    refine g_iload_n 2 o dX12_far_14 rfl rfl ?_
    obtain ⟨_, k15, e⟩ := ob e
    obtain ⟨x15, h15, q15, e⟩ := ob2_s e
    refine g_callVv [.int p1] o (mX12_isPort q15) cf12 (ckO_s k15) mw_1369 mw_1370 mw_1747 mw_19 mw_1371 rfl yo_X12_isPort rfl rfl (Nat.le_of_ble_eq_true rfl) ⟨by decide, by decide⟩ ⟨rfl, rfl⟩ dX12_far_15 ⟨by decide, by decide⟩ ?_
    refine g_if_eq (x := x15) 50 o dX12_far_18 (by decide) (fun u => ?_) (fun u => ?_)
    · rw [if_pos u] at e
      refine g_iconst (v := -1) o dX12_far_50 (by decide) ?_
      exact g_iret o dX12_far_51 (rt_v q e)
    · rw [if_neg u] at e
      refine g_aload_n 0 o dX12_far_21 rfl rfl ?_
      obtain ⟨x22, q22, e⟩ := ob e
      refine g_getN 21 o cf12 (by decide) mw_1207 dX12_far_22 q22 ?_
      refine g_iload_n 1 o dX12_far_25 rfl rfl ?_
      refine g_iload_n 2 o dX12_far_26 rfl rfl ?_
      obtain ⟨x27, h27, q27, e⟩ := ob2_s e
      refine g_callSv [.int p0, .int p1] o (mX12_cell q27) mw_1180 mw_1181 mw_19 mw_1182 yo_X12_cell rfl rfl (Nat.le_of_ble_eq_true rfl) ⟨by decide, by decide⟩ ⟨rfl, rfl⟩ dX12_far_27 ⟨by decide, by decide⟩ ?_
      obtain ⟨x30, q30, e⟩ := ob e
      refine g_iald o dX12_far_30 q30 ?_
      refine g_ldc_w (v := 1000000) o dX12_far_31 mw_1179 ?_
      refine g_icmp_ge (x := x30) (y := 1000000) 50 o dX12_far_34 (by decide) (fun u => ?_) (fun u => ?_)
      · rw [if_pos u] at e
        refine g_iconst (v := -1) o dX12_far_50 (by decide) ?_
        exact g_iret o dX12_far_51 (rt_v q e)
      · rw [if_neg u] at e
        refine g_aload_n 0 o dX12_far_37 rfl rfl ?_
        obtain ⟨x38, q38, e⟩ := ob e
        refine g_getN 21 o cf12 (by decide) mw_1207 dX12_far_38 q38 ?_
        refine g_iload_n 1 o dX12_far_41 rfl rfl ?_
        refine g_iload_n 2 o dX12_far_42 rfl rfl ?_
        obtain ⟨x43, h43, q43, e⟩ := ob2_s e
        refine g_callSv [.int p0, .int p1] o (mX12_cell q43) mw_1180 mw_1181 mw_19 mw_1182 yo_X12_cell rfl rfl (Nat.le_of_ble_eq_true rfl) ⟨by decide, by decide⟩ ⟨rfl, rfl⟩ dX12_far_43 ⟨by decide, by decide⟩ ?_
        obtain ⟨x46, q46, e⟩ := ob e
        refine g_iald o dX12_far_46 q46 ?_
        refine g_goto 51 o dX12_far_47 (by decide) ?_
        exact g_iret o dX12_far_51 (rt_v q e)
theorem yo_X12_doesHear : yok yX12_doesHear 2 := ⟨by decide, by decide, by decide +kernel⟩
set_option maxRecDepth 100000 in
set_option maxHeartbeats 4000000 in
theorem mX12_doesHear {l : Launch} {D : va_G} {cy : Nat → ClassId} {f0 : Nat} {a : Nat} {p0 : Int32} {p1 : Int32} {h : Hp} {r : Int32} {hz : Hp} (e : fX12_doesHear f0 a p0 p1 h = some (r, hz)) : MC l D cy yX12_doesHear cX12_doesHear 3 (some .boolean) rmX12_doesHear [.ref a, .int p0, .int p1] h (some (.int r)) hz := by
  refine mc_of2 (by decide) (Nat.le_of_ble_eq_true rfl) (fun X hl hD hy hin o q => ?_)
  subst hl; subst hD; subst hy
  show G X 3 0 [(0, .ref a), (1, .int p0), (2, .int p1)] [] h 0 0
  unfold fX12_doesHear at e
  refine g_iload_n 1 o dX12_doesHear_0 rfl rfl ?_
  refine g_iload_n 2 o dX12_doesHear_1 rfl rfl ?_
  refine g_icmp_eq (x := p0) (y := p1) 25 o dX12_doesHear_2 (by decide) (fun u => ?_) (fun u => ?_)
  · rw [if_pos u] at e
    refine g_iconst (v := 0) o dX12_doesHear_25 (by decide) ?_
    exact g_zret o dX12_doesHear_26 (zr_s e).1 (rt_v q (zr_s e).2)
  · rw [if_neg u] at e
    refine g_aload_n 0 o dX12_doesHear_5 rfl rfl ?_
    obtain ⟨x6, q6, e⟩ := ob e
    refine g_getN 22 o cf12 (by decide) mw_1208 dX12_doesHear_6 q6 ?_
    refine g_iload_n 1 o dX12_doesHear_9 rfl rfl ?_
    refine g_iload_n 2 o dX12_doesHear_10 rfl rfl ?_
    obtain ⟨x11, h11, q11, e⟩ := ob2_s e
    refine g_callSv [.int p0, .int p1] o (mX12_cell q11) mw_1180 mw_1181 mw_19 mw_1182 yo_X12_cell rfl rfl (Nat.le_of_ble_eq_true rfl) ⟨by decide, by decide⟩ ⟨rfl, rfl⟩ dX12_doesHear_11 ⟨by decide, by decide⟩ ?_
    obtain ⟨x14, q14, e⟩ := ob e
    refine g_iald o dX12_doesHear_14 q14 ?_
    refine g_ldc_w (v := 1000000) o dX12_doesHear_15 mw_1179 ?_
    refine g_icmp_ge (x := x14) (y := 1000000) 25 o dX12_doesHear_18 (by decide) (fun u => ?_) (fun u => ?_)
    · rw [if_pos u] at e
      refine g_iconst (v := 0) o dX12_doesHear_25 (by decide) ?_
      exact g_zret o dX12_doesHear_26 (zr_s e).1 (rt_v q (zr_s e).2)
    · rw [if_neg u] at e
      refine g_iconst (v := 1) o dX12_doesHear_21 (by decide) ?_
      refine g_goto 26 o dX12_doesHear_22 (by decide) ?_
      exact g_zret o dX12_doesHear_26 (zr_s e).1 (rt_v q (zr_s e).2)
theorem yo_X12_hears : yok yX12_hears 2 := ⟨by decide, by decide, by decide +kernel⟩
set_option maxRecDepth 100000 in
set_option maxHeartbeats 4000000 in
theorem mX12_hears {l : Launch} {D : va_G} {cy : Nat → ClassId} {f0 : Nat} {a : Nat} {p0 : Int32} {p1 : Int32} {h : Hp} {r : Int32} {hz : Hp} (e : fX12_hears f0 a p0 p1 h = some (r, hz)) : MC l D cy yX12_hears cX12_hears 3 (some .int) rmX12_hears [.ref a, .int p0, .int p1] h (some (.int r)) hz := by
  refine mc_of2 (by decide) (Nat.le_of_ble_eq_true rfl) (fun X hl hD hy hin o q => ?_)
  subst hl; subst hD; subst hy
  show G X 3 0 [(0, .ref a), (1, .int p0), (2, .int p1)] [] h 0 0
  unfold fX12_hears at e
  refine g_aload_n 0 o dX12_hears_0 rfl rfl ?_
  refine g_iconst (v := 0) o dX12_hears_1 (by decide) ?_
  obtain ⟨h2, q2, e⟩ := ob e
  refine g_put (ty1 := .int) 0 o cf12 (by decide) mw_1186 rfl (by decide +kernel) rfl rfl dX12_hears_2 q2 ?_
  refine g_aload_n 0 o dX12_hears_5 rfl rfl ?_
  refine g_iload_n 1 o dX12_hears_6 rfl rfl ?_
  obtain ⟨_, k7, e⟩ := ob e
  obtain ⟨x7, h7, q7, e⟩ := ob2_s e
  refine g_callVv [.int p0] o (mX12_isPort q7) cf12 (ckO_s k7) mw_1369 mw_1370 mw_1747 mw_19 mw_1371 rfl yo_X12_isPort rfl rfl (Nat.le_of_ble_eq_true rfl) ⟨by decide, by decide⟩ ⟨rfl, rfl⟩ dX12_hears_7 ⟨by decide, by decide⟩ ?_
  refine g_if_eq (x := x7) 43 o dX12_hears_10 (by decide) (fun u => ?_) (fun u => ?_)
  · rw [if_pos u] at e
    refine g_iconst (v := -1) o dX12_hears_43 (by decide) ?_
    exact g_iret o dX12_hears_44 (rt_v q e)
  · rw [if_neg u] at e
    refine g_aload_n 0 o dX12_hears_13 rfl rfl ?_
    refine g_iload_n 2 o dX12_hears_14 rfl rfl ?_
    obtain ⟨_, k15, e⟩ := ob e
    obtain ⟨x15, h15, q15, e⟩ := ob2_s e
    refine g_callVv [.int p1] o (mX12_isPort q15) cf12 (ckO_s k15) mw_1369 mw_1370 mw_1747 mw_19 mw_1371 rfl yo_X12_isPort rfl rfl (Nat.le_of_ble_eq_true rfl) ⟨by decide, by decide⟩ ⟨rfl, rfl⟩ dX12_hears_15 ⟨by decide, by decide⟩ ?_
    refine g_if_eq (x := x15) 43 o dX12_hears_18 (by decide) (fun u => ?_) (fun u => ?_)
    · rw [if_pos u] at e
      refine g_iconst (v := -1) o dX12_hears_43 (by decide) ?_
      exact g_iret o dX12_hears_44 (rt_v q e)
    · rw [if_neg u] at e
      refine g_aload_n 0 o dX12_hears_21 rfl rfl ?_
      refine g_iload_n 1 o dX12_hears_22 rfl rfl ?_
      refine g_iload_n 2 o dX12_hears_23 rfl rfl ?_
      obtain ⟨_, k24, e⟩ := ob e
      obtain ⟨x24, h24, q24, e⟩ := ob2_s e
      refine g_callVv [.int p0, .int p1] o (mX12_doesHear q24) cf12 (ckO_s k24) mw_1500 mw_1501 mw_1772 mw_19 mw_1502 rfl yo_X12_doesHear rfl rfl (Nat.le_of_ble_eq_true rfl) ⟨by decide, by decide⟩ ⟨rfl, rfl⟩ dX12_hears_24 ⟨by decide, by decide⟩ ?_
      refine g_if_eq (x := x24) 43 o dX12_hears_27 (by decide) (fun u => ?_) (fun u => ?_)
      · rw [if_pos u] at e
        refine g_iconst (v := -1) o dX12_hears_43 (by decide) ?_
        exact g_iret o dX12_hears_44 (rt_v q e)
      · rw [if_neg u] at e
        refine g_aload_n 0 o dX12_hears_30 rfl rfl ?_
        obtain ⟨x31, q31, e⟩ := ob e
        refine g_getN 22 o cf12 (by decide) mw_1208 dX12_hears_31 q31 ?_
        refine g_iload_n 1 o dX12_hears_34 rfl rfl ?_
        refine g_iload_n 2 o dX12_hears_35 rfl rfl ?_
        obtain ⟨x36, h36, q36, e⟩ := ob2_s e
        refine g_callSv [.int p0, .int p1] o (mX12_cell q36) mw_1180 mw_1181 mw_19 mw_1182 yo_X12_cell rfl rfl (Nat.le_of_ble_eq_true rfl) ⟨by decide, by decide⟩ ⟨rfl, rfl⟩ dX12_hears_36 ⟨by decide, by decide⟩ ?_
        obtain ⟨x39, q39, e⟩ := ob e
        refine g_iald o dX12_hears_39 q39 ?_
        refine g_goto 44 o dX12_hears_40 (by decide) ?_
        exact g_iret o dX12_hears_44 (rt_v q e)
theorem yo_X12_safe : yok yX12_safe 1 := ⟨by decide, by decide, by decide +kernel⟩
set_option maxRecDepth 100000 in
set_option maxHeartbeats 4000000 in
theorem mX12_safe {l : Launch} {D : va_G} {cy : Nat → ClassId} {f0 : Nat} {a : Nat} {p0 : Int32} {h : Hp} {r : Int32} {hz : Hp} (e : fX12_safe f0 a p0 h = some (r, hz)) : MC l D cy yX12_safe cX12_safe 2 (some .int) rmX12_safe [.ref a, .int p0] h (some (.int r)) hz := by
  refine mc_of2 (by decide) (Nat.le_of_ble_eq_true rfl) (fun X hl hD hy hin o q => ?_)
  subst hl; subst hD; subst hy
  show G X 2 0 [(0, .ref a), (1, .int p0)] [] h 0 0
  unfold fX12_safe at e
  refine g_aload_n 0 o dX12_safe_0 rfl rfl ?_
  refine g_iconst (v := 0) o dX12_safe_1 (by decide) ?_
  obtain ⟨h2, q2, e⟩ := ob e
  refine g_put (ty1 := .int) 0 o cf12 (by decide) mw_1186 rfl (by decide +kernel) rfl rfl dX12_safe_2 q2 ?_
  refine g_aload_n 0 o dX12_safe_5 rfl rfl ?_
  refine g_iload_n 1 o dX12_safe_6 rfl rfl ?_
  obtain ⟨_, k7, e⟩ := ob e
  obtain ⟨x7, h7, q7, e⟩ := ob2_s e
  refine g_callVv [.int p0] o (mX12_isPort q7) cf12 (ckO_s k7) mw_1369 mw_1370 mw_1747 mw_19 mw_1371 rfl yo_X12_isPort rfl rfl (Nat.le_of_ble_eq_true rfl) ⟨by decide, by decide⟩ ⟨rfl, rfl⟩ dX12_safe_7 ⟨by decide, by decide⟩ ?_
  refine g_if_eq (x := x7) 43 o dX12_safe_10 (by decide) (fun u => ?_) (fun u => ?_)
  · rw [if_pos u] at e
    refine g_iconst (v := -1) o dX12_safe_43 (by decide) ?_
    exact g_iret o dX12_safe_44 (rt_v q e)
  · rw [if_neg u] at e
    refine g_aload_n 0 o dX12_safe_13 rfl rfl ?_
    obtain ⟨_, k14, e⟩ := ob e
    obtain ⟨x14, h14, q14, e⟩ := ob2_s e
    refine g_callVv [] o (mX12_canAct q14) cf12 (ckO_s k14) mw_1416 mw_1417 mw_1756 mw_19 mw_1418 rfl yo_X12_canAct rfl rfl (Nat.le_of_ble_eq_true rfl) ⟨by decide, by decide⟩ ⟨rfl, rfl⟩ dX12_safe_14 ⟨by decide, by decide⟩ ?_
    refine g_if_eq (x := x14) 43 o dX12_safe_17 (by decide) (fun u => ?_) (fun u => ?_)
    · rw [if_pos u] at e
      refine g_iconst (v := -1) o dX12_safe_43 (by decide) ?_
      exact g_iret o dX12_safe_44 (rt_v q e)
    · rw [if_neg u] at e
      refine g_aload_n 0 o dX12_safe_20 rfl rfl ?_
      obtain ⟨x21, q21, e⟩ := ob e
      refine g_getN 6 o cf12 (by decide) mw_1192 dX12_safe_21 q21 ?_
      refine g_bipush (v := 8) o dX12_safe_24 (by decide) ?_
      refine g_aload_n 0 o dX12_safe_26 rfl rfl ?_
      obtain ⟨x27, q27, e⟩ := ob e
      refine g_getN 6 o cf12 (by decide) mw_1192 dX12_safe_27 q27 ?_
      refine g_sipush (v := 313) o dX12_safe_30 (by decide) ?_
      obtain ⟨x33, q33, e⟩ := ob e
      refine g_iald o dX12_safe_33 q33 ?_
      refine g_iload_n 1 o dX12_safe_34 rfl rfl ?_
      obtain ⟨x35, h35, q35, e⟩ := ob2_s e
      refine g_callSv [.int x33, .int p0] o (mX12_cell q35) mw_1180 mw_1181 mw_19 mw_1182 yo_X12_cell rfl rfl (Nat.le_of_ble_eq_true rfl) ⟨by decide, by decide⟩ ⟨rfl, rfl⟩ dX12_safe_35 ⟨by decide, by decide⟩ ?_
      refine g_iadd (x := (8 : Int32)) (y := x35) o dX12_safe_38 ?_
      obtain ⟨x39, q39, e⟩ := ob e
      refine g_iald o dX12_safe_39 q39 ?_
      refine g_if_ne (x := x39) 45 o dX12_safe_40 (by decide) (fun u => ?_) (fun u => ?_)
      · rw [if_neg u] at e
        refine g_iconst (v := 1) o dX12_safe_45 (by decide) ?_
        refine g_aload_n 0 o dX12_safe_46 rfl rfl ?_
        obtain ⟨x47, q47, e⟩ := ob e
        refine g_getN 6 o cf12 (by decide) mw_1192 dX12_safe_47 q47 ?_
        refine g_iconst (v := 1) o dX12_safe_50 (by decide) ?_
        obtain ⟨x51, q51, e⟩ := ob e
        refine g_iald o dX12_safe_51 q51 ?_
        refine g_ishl (x := (1 : Int32)) (y := x51) o dX12_safe_52 ?_
        refine g_iconst (v := 1) o dX12_safe_53 (by decide) ?_
        refine g_isub (x := ((1 : Int32) <<< (x51 &&& 31))) (y := 1) o dX12_safe_54 ?_
        refine g_aload_n 0 o dX12_safe_55 rfl rfl ?_
        refine g_iload_n 1 o dX12_safe_56 rfl rfl ?_
        refine g_aload_n 0 o dX12_safe_57 rfl rfl ?_
        obtain ⟨x58, q58, e⟩ := ob e
        refine g_getN 6 o cf12 (by decide) mw_1192 dX12_safe_58 q58 ?_
        refine g_sipush (v := 312) o dX12_safe_61 (by decide) ?_
        obtain ⟨x64, q64, e⟩ := ob e
        refine g_iald o dX12_safe_64 q64 ?_
        refine g_aload_n 0 o dX12_safe_65 rfl rfl ?_
        obtain ⟨x66, q66, e⟩ := ob e
        refine g_getN 6 o cf12 (by decide) mw_1192 dX12_safe_66 q66 ?_
        refine g_bipush (v := 8) o dX12_safe_69 (by decide) ?_
        refine g_aload_n 0 o dX12_safe_71 rfl rfl ?_
        obtain ⟨x72, q72, e⟩ := ob e
        refine g_getN 6 o cf12 (by decide) mw_1192 dX12_safe_72 q72 ?_
        refine g_sipush (v := 313) o dX12_safe_75 (by decide) ?_
        obtain ⟨x78, q78, e⟩ := ob e
        refine g_iald o dX12_safe_78 q78 ?_
        refine g_iload_n 1 o dX12_safe_79 rfl rfl ?_
        obtain ⟨x80, h80, q80, e⟩ := ob2_s e
        refine g_callSv [.int x78, .int p0] o (mX12_cell q80) mw_1180 mw_1181 mw_19 mw_1182 yo_X12_cell rfl rfl (Nat.le_of_ble_eq_true rfl) ⟨by decide, by decide⟩ ⟨rfl, rfl⟩ dX12_safe_80 ⟨by decide, by decide⟩ ?_
        refine g_iadd (x := (8 : Int32)) (y := x80) o dX12_safe_83 ?_
        obtain ⟨x84, q84, e⟩ := ob e
        refine g_iald o dX12_safe_84 q84 ?_
        refine g_iadd (x := x64) (y := x84) o dX12_safe_85 ?_
        obtain ⟨_, k86, e⟩ := ob e
        obtain ⟨x86, h86, q86, e⟩ := ob2_s e
        refine g_callVv [.int p0, .int (x64 + x84)] o (mX12_knownAt q86) cf12 (ckO_s k86) mw_1375 mw_1376 mw_1749 mw_19 mw_1377 rfl yo_X12_knownAt rfl rfl (Nat.le_of_ble_eq_true rfl) ⟨by decide, by decide⟩ ⟨rfl, rfl⟩ dX12_safe_86 ⟨by decide, by decide⟩ ?_
        refine g_iconst (v := -1) o dX12_safe_89 (by decide) ?_
        refine g_ixor (x := x86) (y := (-1)) o dX12_safe_90 ?_
        refine g_iand (x := (((1 : Int32) <<< (x51 &&& 31)) - 1)) (y := (x86 ^^^ (-1))) o dX12_safe_91 ?_
        exact g_iret o dX12_safe_92 (rt_v q e)
      · rw [if_pos u] at e
        refine g_iconst (v := -1) o dX12_safe_43 (by decide) ?_
        exact g_iret o dX12_safe_44 (rt_v q e)
theorem yo_X12_outruns : yok yX12_outruns 1 := ⟨by decide, by decide, by decide +kernel⟩
set_option maxRecDepth 100000 in
set_option maxHeartbeats 4000000 in
theorem mX12_outruns {l : Launch} {D : va_G} {cy : Nat → ClassId} {f0 : Nat} {a : Nat} {p0 : Int32} {h : Hp} {r : Int32} {hz : Hp} (e : fX12_outruns f0 a p0 h = some (r, hz)) : MC l D cy yX12_outruns cX12_outruns 2 (some .int) rmX12_outruns [.ref a, .int p0] h (some (.int r)) hz := by
  refine mc_of2 (by decide) (Nat.le_of_ble_eq_true rfl) (fun X hl hD hy hin o q => ?_)
  subst hl; subst hD; subst hy
  show G X 2 0 [(0, .ref a), (1, .int p0)] [] h 0 0
  unfold fX12_outruns at e
  refine g_aload_n 0 o dX12_outruns_0 rfl rfl ?_
  refine g_iconst (v := 0) o dX12_outruns_1 (by decide) ?_
  obtain ⟨h2, q2, e⟩ := ob e
  refine g_put (ty1 := .int) 0 o cf12 (by decide) mw_1186 rfl (by decide +kernel) rfl rfl dX12_outruns_2 q2 ?_
  refine g_aload_n 0 o dX12_outruns_5 rfl rfl ?_
  refine g_iload_n 1 o dX12_outruns_6 rfl rfl ?_
  obtain ⟨_, k7, e⟩ := ob e
  obtain ⟨x7, h7, q7, e⟩ := ob2_s e
  refine g_callVv [.int p0] o (mX12_isPort q7) cf12 (ckO_s k7) mw_1369 mw_1370 mw_1747 mw_19 mw_1371 rfl yo_X12_isPort rfl rfl (Nat.le_of_ble_eq_true rfl) ⟨by decide, by decide⟩ ⟨rfl, rfl⟩ dX12_outruns_7 ⟨by decide, by decide⟩ ?_
  refine g_if_eq (x := x7) 43 o dX12_outruns_10 (by decide) (fun u => ?_) (fun u => ?_)
  · rw [if_pos u] at e
    refine g_iconst (v := -1) o dX12_outruns_43 (by decide) ?_
    exact g_iret o dX12_outruns_44 (rt_v q e)
  · rw [if_neg u] at e
    refine g_aload_n 0 o dX12_outruns_13 rfl rfl ?_
    obtain ⟨_, k14, e⟩ := ob e
    obtain ⟨x14, h14, q14, e⟩ := ob2_s e
    refine g_callVv [] o (mX12_isSea q14) cf12 (ckO_s k14) mw_1173 mw_1174 mw_1725 mw_19 mw_1175 rfl yo_X12_isSea rfl rfl (Nat.le_of_ble_eq_true rfl) ⟨by decide, by decide⟩ ⟨rfl, rfl⟩ dX12_outruns_14 ⟨by decide, by decide⟩ ?_
    refine g_if_eq (x := x14) 43 o dX12_outruns_17 (by decide) (fun u => ?_) (fun u => ?_)
    · rw [if_pos u] at e
      refine g_iconst (v := -1) o dX12_outruns_43 (by decide) ?_
      exact g_iret o dX12_outruns_44 (rt_v q e)
    · rw [if_neg u] at e
      refine g_aload_n 0 o dX12_outruns_20 rfl rfl ?_
      obtain ⟨x21, q21, e⟩ := ob e
      refine g_getN 21 o cf12 (by decide) mw_1207 dX12_outruns_21 q21 ?_
      refine g_aload_n 0 o dX12_outruns_24 rfl rfl ?_
      obtain ⟨x25, q25, e⟩ := ob e
      refine g_getN 6 o cf12 (by decide) mw_1192 dX12_outruns_25 q25 ?_
      refine g_sipush (v := 313) o dX12_outruns_28 (by decide) ?_
      obtain ⟨x31, q31, e⟩ := ob e
      refine g_iald o dX12_outruns_31 q31 ?_
      refine g_iload_n 1 o dX12_outruns_32 rfl rfl ?_
      obtain ⟨x33, h33, q33, e⟩ := ob2_s e
      refine g_callSv [.int x31, .int p0] o (mX12_cell q33) mw_1180 mw_1181 mw_19 mw_1182 yo_X12_cell rfl rfl (Nat.le_of_ble_eq_true rfl) ⟨by decide, by decide⟩ ⟨rfl, rfl⟩ dX12_outruns_33 ⟨by decide, by decide⟩ ?_
      obtain ⟨x36, q36, e⟩ := ob e
      refine g_iald o dX12_outruns_36 q36 ?_
      refine g_ldc_w (v := 1000000) o dX12_outruns_37 mw_1179 ?_
      refine g_icmp_lt (x := x36) (y := 1000000) 45 o dX12_outruns_40 (by decide) (fun u => ?_) (fun u => ?_)
      · rw [if_pos u] at e
        refine g_aload_n 0 o dX12_outruns_45 rfl rfl ?_
        obtain ⟨x46, q46, e⟩ := ob e
        refine g_getN 6 o cf12 (by decide) mw_1192 dX12_outruns_46 q46 ?_
        refine g_sipush (v := 312) o dX12_outruns_49 (by decide) ?_
        obtain ⟨x52, q52, e⟩ := ob e
        refine g_iald o dX12_outruns_52 q52 ?_
        refine g_aload_n 0 o dX12_outruns_53 rfl rfl ?_
        obtain ⟨x54, q54, e⟩ := ob e
        refine g_getN 21 o cf12 (by decide) mw_1207 dX12_outruns_54 q54 ?_
        refine g_aload_n 0 o dX12_outruns_57 rfl rfl ?_
        obtain ⟨x58, q58, e⟩ := ob e
        refine g_getN 6 o cf12 (by decide) mw_1192 dX12_outruns_58 q58 ?_
        refine g_sipush (v := 313) o dX12_outruns_61 (by decide) ?_
        obtain ⟨x64, q64, e⟩ := ob e
        refine g_iald o dX12_outruns_64 q64 ?_
        refine g_iload_n 1 o dX12_outruns_65 rfl rfl ?_
        obtain ⟨x66, h66, q66, e⟩ := ob2_s e
        refine g_callSv [.int x64, .int p0] o (mX12_cell q66) mw_1180 mw_1181 mw_19 mw_1182 yo_X12_cell rfl rfl (Nat.le_of_ble_eq_true rfl) ⟨by decide, by decide⟩ ⟨rfl, rfl⟩ dX12_outruns_66 ⟨by decide, by decide⟩ ?_
        obtain ⟨x69, q69, e⟩ := ob e
        refine g_iald o dX12_outruns_69 q69 ?_
        refine g_iadd (x := x52) (y := x69) o dX12_outruns_70 ?_
        refine g_aload_n 0 o dX12_outruns_71 rfl rfl ?_
        refine g_iload_n 1 o dX12_outruns_72 rfl rfl ?_
        refine g_aload_n 0 o dX12_outruns_73 rfl rfl ?_
        obtain ⟨x74, q74, e⟩ := ob e
        refine g_getN 6 o cf12 (by decide) mw_1192 dX12_outruns_74 q74 ?_
        refine g_sipush (v := 314) o dX12_outruns_77 (by decide) ?_
        obtain ⟨x80, q80, e⟩ := ob e
        refine g_iald o dX12_outruns_80 q80 ?_
        obtain ⟨_, k81, e⟩ := ob e
        obtain ⟨x81, h81, q81, e⟩ := ob2_s e
        refine g_callVv [.int p0, .int x80] o (mX12_knowsFrom q81) cf12 (ckO_s k81) mw_1378 mw_1379 mw_1750 mw_19 mw_1380 rfl yo_X12_knowsFrom rfl rfl (Nat.le_of_ble_eq_true rfl) ⟨by decide, by decide⟩ ⟨rfl, rfl⟩ dX12_outruns_81 ⟨by decide, by decide⟩ ?_
        refine g_icmp_ge (x := (x52 + x69)) (y := x81) 91 o dX12_outruns_84 (by decide) (fun u => ?_) (fun u => ?_)
        · rw [if_pos u] at e
          refine g_iconst (v := 0) o dX12_outruns_91 (by decide) ?_
          exact g_iret o dX12_outruns_92 (rt_v q e)
        · rw [if_neg u] at e
          refine g_iconst (v := 1) o dX12_outruns_87 (by decide) ?_
          refine g_goto 92 o dX12_outruns_88 (by decide) ?_
          exact g_iret o dX12_outruns_92 (rt_v q e)
      · rw [if_neg u] at e
        refine g_iconst (v := -1) o dX12_outruns_43 (by decide) ?_
        exact g_iret o dX12_outruns_44 (rt_v q e)
set_option maxRecDepth 100000 in
set_option maxHeartbeats 4000000 in
theorem kX12_fits_37 {X : Cx} (f0 : Nat) (g2 : Nat → Int32 → Int32 → Int32 → Hp → Option (Int32 × Hp)) (i2 : ∀ (v02 : Nat) (v12 : Int32) (v22 : Int32) (v32 : Int32) (h2 : Hp) (r : Int32) (hz : Hp), Rt X (some (.int r)) hz 0 0 → g2 v02 v12 v22 v32 h2 = some (r, hz) → G X 4 2 [(0, .ref v02), (1, .int v12), (2, .int v22), (3, .int v32)] [] h2 0 0) (o : Ok X cX12_fits RX12 4 rmX12_fits (some .boolean)) (v0 : Nat) (v1 : Int32) (v2 : Int32) (v3 : Int32) (h : Hp) (r : Int32) (hz : Hp) (q : Rt X (some (.int r)) hz 0 0) (e : bX12_fits_37 f0 g2 v0 v1 v2 v3 h = some (r, hz)) : G X 4 37 [(0, .ref v0), (1, .int v1), (2, .int v2), (3, .int v3)] [] h 0 0 := by
  unfold bX12_fits_37 at e
  refine g_iinc (k := 3) (v := (v3 + 1)) [(3, .int (v3 + 1)), (0, .ref v0), (1, .int v1), (2, .int v2)] o dX12_fits_37 rfl rfl (by decide) rfl ?_
  refine g_goto 2 o dX12_fits_40 (by decide) ?_
  refine g_sb [1, 2, 3, 0] rfl ?_
  exact i2 v0 v1 v2 (v3 + 1) h r hz q e
set_option maxRecDepth 100000 in
set_option maxHeartbeats 4000000 in
theorem kX12_fits_2 {X : Cx} (f0 : Nat) (o : Ok X cX12_fits RX12 4 rmX12_fits (some .boolean)) (f : Nat) (v0 : Nat) (v1 : Int32) (v2 : Int32) (v3 : Int32) (h : Hp) (r : Int32) (hz : Hp) (q : Rt X (some (.int r)) hz 0 0) (e : bX12_fits_2 f0 f v0 v1 v2 v3 h = some (r, hz)) : G X 4 2 [(0, .ref v0), (1, .int v1), (2, .int v2), (3, .int v3)] [] h 0 0 := by
  induction f generalizing v0 v1 v2 v3 h r hz with
  | zero => cases e
  | succ f1 ih =>
    unfold bX12_fits_2 at e
    refine g_iload_n 3 o dX12_fits_2 rfl rfl ?_
    refine g_iload_n 1 o dX12_fits_3 rfl rfl ?_
    refine g_icmp_ge (x := v3) (y := v1) 43 o dX12_fits_4 (by decide) (fun u => ?_) (fun u => ?_)
    · rw [if_pos u] at e
      refine g_iconst (v := 1) o dX12_fits_43 (by decide) ?_
      exact g_zret o dX12_fits_44 (zr_s e).1 (rt_v q (zr_s e).2)
    · rw [if_neg u] at e
      refine g_aload_n 0 o dX12_fits_7 rfl rfl ?_
      obtain ⟨x8, q8, e⟩ := ob e
      refine g_getN 30 o cf12 (by decide) mw_1216 dX12_fits_8 q8 ?_
      refine g_iload_n 3 o dX12_fits_11 rfl rfl ?_
      obtain ⟨x12, q12, e⟩ := ob e
      refine g_iald o dX12_fits_12 q12 ?_
      refine g_iload_n 2 o dX12_fits_13 rfl rfl ?_
      refine g_icmp_ne (x := x12) (y := v2) 37 o dX12_fits_14 (by decide) (fun u => ?_) (fun u => ?_)
      · rw [if_neg u] at e
        exact kX12_fits_37 f0 (bX12_fits_2 f0 f1) ih o v0 v1 v2 v3 h r hz q e
      · rw [if_pos u] at e
        refine g_aload_n 0 o dX12_fits_17 rfl rfl ?_
        refine g_iload_n 1 o dX12_fits_18 rfl rfl ?_
        refine g_iload_n 3 o dX12_fits_19 rfl rfl ?_
        obtain ⟨_, k20, e⟩ := ob e
        obtain ⟨x20, h20, q20, e⟩ := ob2_s e
        refine g_callVv [.int v1, .int v3] o (mX12_doesHear q20) cf12 (ckO_s k20) mw_1500 mw_1501 mw_1772 mw_19 mw_1502 rfl yo_X12_doesHear rfl rfl (Nat.le_of_ble_eq_true rfl) ⟨by decide, by decide⟩ ⟨rfl, rfl⟩ dX12_fits_20 ⟨by decide, by decide⟩ ?_
        refine g_if_ne (x := x20) 35 o dX12_fits_23 (by decide) (fun u => ?_) (fun u => ?_)
        · rw [if_neg u] at e
          refine g_iconst (v := 0) o dX12_fits_35 (by decide) ?_
          exact g_zret o dX12_fits_36 (zr_s e).1 (rt_v q (zr_s e).2)
        · rw [if_pos u] at e
          refine g_aload_n 0 o dX12_fits_26 rfl rfl ?_
          refine g_iload_n 3 o dX12_fits_27 rfl rfl ?_
          refine g_iload_n 1 o dX12_fits_28 rfl rfl ?_
          obtain ⟨_, k29, e⟩ := ob e
          obtain ⟨x29, h29, q29, e⟩ := ob2_s e
          refine g_callVv [.int v3, .int v1] o (mX12_doesHear q29) cf12 (ckO_s k29) mw_1500 mw_1501 mw_1772 mw_19 mw_1502 rfl yo_X12_doesHear rfl rfl (Nat.le_of_ble_eq_true rfl) ⟨by decide, by decide⟩ ⟨rfl, rfl⟩ dX12_fits_29 ⟨by decide, by decide⟩ ?_
          refine g_if_eq (x := x29) 37 o dX12_fits_32 (by decide) (fun u => ?_) (fun u => ?_)
          · rw [if_pos u] at e
            exact kX12_fits_37 f0 (bX12_fits_2 f0 f1) ih o v0 v1 v2 v3 h29 r hz q e
          · rw [if_neg u] at e
            refine g_iconst (v := 0) o dX12_fits_35 (by decide) ?_
            exact g_zret o dX12_fits_36 (zr_s e).1 (rt_v q (zr_s e).2)
theorem yo_X12_fits : yok yX12_fits 2 := ⟨by decide, by decide, by decide +kernel⟩
set_option maxRecDepth 100000 in
set_option maxHeartbeats 4000000 in
theorem mX12_fits {l : Launch} {D : va_G} {cy : Nat → ClassId} {f0 : Nat} {a : Nat} {p0 : Int32} {p1 : Int32} {h : Hp} {r : Int32} {hz : Hp} (e : fX12_fits f0 a p0 p1 h = some (r, hz)) : MC l D cy yX12_fits cX12_fits 4 (some .boolean) rmX12_fits [.ref a, .int p0, .int p1] h (some (.int r)) hz := by
  refine mc_of2 (by decide) (Nat.le_of_ble_eq_true rfl) (fun X hl hD hy hin o q => ?_)
  subst hl; subst hD; subst hy
  show G X 4 0 [(0, .ref a), (1, .int p0), (2, .int p1)] [] h 0 0
  unfold fX12_fits at e
  refine g_iconst (v := 0) o dX12_fits_0 (by decide) ?_
  refine g_istore_n [(3, .int 0), (0, .ref a), (1, .int p0), (2, .int p1)] o dX12_fits_1 rfl (by decide) rfl ?_
  refine g_sb [1, 2, 3, 0] rfl ?_
  exact kX12_fits_2 f0 o f0 a p0 p1 0 h r hz q e
set_option maxRecDepth 100000 in
set_option maxHeartbeats 4000000 in
theorem kX12_givesBy_89 {X : Cx} (f0 : Nat) (o : Ok X cX12_givesBy RX12 3 rmX12_givesBy (some .boolean)) (v2 : Int32) (h : Hp) (r : Int32) (hz : Hp) (q : Rt X (some (.int r)) hz 0 0) (e : bX12_givesBy_89 f0 v2 h = some (r, hz)) : G X 3 89 [(2, .int v2)] [] h 0 0 := by
  unfold bX12_givesBy_89 at e
  refine g_iload_n 0 o dX12_givesBy_89 rfl rfl ?_
  refine g_if_lt (x := v2) 97 o dX12_givesBy_90 (by decide) (fun u => ?_) (fun u => ?_)
  · rw [if_pos u] at e
    refine g_iconst (v := 0) o dX12_givesBy_97 (by decide) ?_
    exact g_zret o dX12_givesBy_98 (zr_s e).1 (rt_v q (zr_s e).2)
  · rw [if_neg u] at e
    refine g_iconst (v := 1) o dX12_givesBy_93 (by decide) ?_
    refine g_goto 98 o dX12_givesBy_94 (by decide) ?_
    exact g_zret o dX12_givesBy_98 (zr_s e).1 (rt_v q (zr_s e).2)
set_option maxRecDepth 100000 in
set_option maxHeartbeats 4000000 in
theorem kX12_givesBy_9 {X : Cx} (f0 : Nat) (o : Ok X cX12_givesBy RX12 3 rmX12_givesBy (some .boolean)) (f : Nat) (v0 : Nat) (v1 : Int32) (v2 : Int32) (h : Hp) (r : Int32) (hz : Hp) (q : Rt X (some (.int r)) hz 0 0) (e : bX12_givesBy_9 f0 f v0 v1 v2 h = some (r, hz)) : G X 3 9 [(0, .ref v0), (1, .int v1), (2, .int v2)] [] h 0 0 := by
  induction f generalizing v0 v1 v2 h r hz with
  | zero => cases e
  | succ f1 ih =>
    unfold bX12_givesBy_9 at e
    refine g_iload_n 2 o dX12_givesBy_9 rfl rfl ?_
    refine g_if_lt (x := v2) 89 o dX12_givesBy_10 (by decide) (fun u => ?_) (fun u => ?_)
    · rw [if_pos u] at e
      refine g_sb [2] rfl ?_
      exact kX12_givesBy_89 f0 o v2 h r hz q e
    · rw [if_neg u] at e
      refine g_iload_n 2 o dX12_givesBy_13 rfl rfl ?_
      refine g_aload_n 0 o dX12_givesBy_14 rfl rfl ?_
      obtain ⟨x15, q15, e⟩ := ob e
      refine g_getN 6 o cf12 (by decide) mw_1192 dX12_givesBy_15 q15 ?_
      refine g_iconst (v := 0) o dX12_givesBy_18 (by decide) ?_
      obtain ⟨x19, q19, e⟩ := ob e
      refine g_iald o dX12_givesBy_19 q19 ?_
      refine g_icmp_ge (x := v2) (y := x19) 89 o dX12_givesBy_20 (by decide) (fun u => ?_) (fun u => ?_)
      · rw [if_pos u] at e
        refine g_sb [2] rfl ?_
        exact kX12_givesBy_89 f0 o v2 h r hz q e
      · rw [if_neg u] at e
        refine g_aload_n 0 o dX12_givesBy_23 rfl rfl ?_
        obtain ⟨x24, q24, e⟩ := ob e
        refine g_getN 30 o cf12 (by decide) mw_1216 dX12_givesBy_24 q24 ?_
        refine g_iload_n 2 o dX12_givesBy_27 rfl rfl ?_
        refine g_dup2 o dX12_givesBy_28 rfl rfl ?_
        obtain ⟨x29, q29, e⟩ := ob e
        refine g_iald o dX12_givesBy_29 q29 ?_
        refine g_iconst (v := 1) o dX12_givesBy_30 (by decide) ?_
        refine g_iadd (x := x29) (y := 1) o dX12_givesBy_31 ?_
        obtain ⟨h32, q32, e⟩ := ob e
        refine g_iast o dX12_givesBy_32 q32 ?_
        refine g_aload_n 0 o dX12_givesBy_33 rfl rfl ?_
        obtain ⟨x34, q34, e⟩ := ob e
        refine g_getN 30 o cf12 (by decide) mw_1216 dX12_givesBy_34 q34 ?_
        refine g_iload_n 2 o dX12_givesBy_37 rfl rfl ?_
        obtain ⟨x38, q38, e⟩ := ob e
        refine g_iald o dX12_givesBy_38 q38 ?_
        refine g_iload_n 1 o dX12_givesBy_39 rfl rfl ?_
        refine g_icmp_ne (x := x38) (y := v1) 49 o dX12_givesBy_40 (by decide) (fun u => ?_) (fun u => ?_)
        · rw [if_neg u] at e
          refine g_aload_n 0 o dX12_givesBy_49 rfl rfl ?_
          refine g_iload_n 2 o dX12_givesBy_50 rfl rfl ?_
          refine g_aload_n 0 o dX12_givesBy_51 rfl rfl ?_
          obtain ⟨x52, q52, e⟩ := ob e
          refine g_getN 30 o cf12 (by decide) mw_1216 dX12_givesBy_52 q52 ?_
          refine g_iload_n 2 o dX12_givesBy_55 rfl rfl ?_
          obtain ⟨x56, q56, e⟩ := ob e
          refine g_iald o dX12_givesBy_56 q56 ?_
          obtain ⟨_, k57, e⟩ := ob e
          obtain ⟨x57, h57, q57, e⟩ := ob2_s e
          refine g_callVv [.int v2, .int x56] o (mX12_fits q57) cf12 (ckO_s k57) mw_1521 mw_1522 mw_1775 mw_19 mw_1523 rfl yo_X12_fits rfl rfl (Nat.le_of_ble_eq_true rfl) ⟨by decide, by decide⟩ ⟨rfl, rfl⟩ dX12_givesBy_57 ⟨by decide, by decide⟩ ?_
          refine g_if_ne (x := x57) 66 o dX12_givesBy_60 (by decide) (fun u => ?_) (fun u => ?_)
          · rw [if_neg u] at e
            refine g_iinc (k := 2) (v := (v2 + 1)) [(2, .int (v2 + 1)), (0, .ref v0), (1, .int v1)] o dX12_givesBy_66 rfl rfl (by decide) rfl ?_
            refine g_iload_n 0 o dX12_givesBy_69 rfl rfl ?_
            refine g_aload_n 1 o dX12_givesBy_70 rfl rfl ?_
            obtain ⟨x71, q71, e⟩ := ob e
            refine g_getN 6 o cf12 (by decide) mw_1192 dX12_givesBy_71 q71 ?_
            refine g_iconst (v := 0) o dX12_givesBy_74 (by decide) ?_
            obtain ⟨x75, q75, e⟩ := ob e
            refine g_iald o dX12_givesBy_75 q75 ?_
            refine g_icmp_ge (x := (v2 + 1)) (y := x75) 9 o dX12_givesBy_76 (by decide) (fun u => ?_) (fun u => ?_)
            · rw [if_pos u] at e
              refine g_sb [1, 2, 0] rfl ?_
              exact ih v0 v1 (v2 + 1) h57 r hz q e
            · rw [if_neg u] at e
              refine g_aload_n 1 o dX12_givesBy_79 rfl rfl ?_
              obtain ⟨x80, q80, e⟩ := ob e
              refine g_getN 30 o cf12 (by decide) mw_1216 dX12_givesBy_80 q80 ?_
              refine g_iload_n 0 o dX12_givesBy_83 rfl rfl ?_
              refine g_iconst (v := -1) o dX12_givesBy_84 (by decide) ?_
              obtain ⟨h85, q85, e⟩ := ob e
              refine g_iast o dX12_givesBy_85 q85 ?_
              refine g_goto 9 o dX12_givesBy_86 (by decide) ?_
              refine g_sb [1, 2, 0] rfl ?_
              exact ih v0 v1 (v2 + 1) h85 r hz q e
          · rw [if_pos u] at e
            refine g_goto 9 o dX12_givesBy_63 (by decide) ?_
            exact ih v0 v1 v2 h57 r hz q e
        · rw [if_pos u] at e
          refine g_iinc (k := 2) (v := (v2 + (-1))) [(2, .int (v2 + (-1))), (0, .ref v0), (1, .int v1)] o dX12_givesBy_43 rfl rfl (by decide) rfl ?_
          refine g_goto 9 o dX12_givesBy_46 (by decide) ?_
          refine g_sb [1, 2, 0] rfl ?_
          exact ih v0 v1 (v2 + (-1)) h32 r hz q e
theorem yo_X12_givesBy : yok yX12_givesBy 1 := ⟨by decide, by decide, by decide +kernel⟩
set_option maxRecDepth 100000 in
set_option maxHeartbeats 4000000 in
theorem mX12_givesBy {l : Launch} {D : va_G} {cy : Nat → ClassId} {f0 : Nat} {a : Nat} {p0 : Int32} {h : Hp} {r : Int32} {hz : Hp} (e : fX12_givesBy f0 a p0 h = some (r, hz)) : MC l D cy yX12_givesBy cX12_givesBy 3 (some .boolean) rmX12_givesBy [.ref a, .int p0] h (some (.int r)) hz := by
  refine mc_of2 (by decide) (Nat.le_of_ble_eq_true rfl) (fun X hl hD hy hin o q => ?_)
  subst hl; subst hD; subst hy
  show G X 3 0 [(0, .ref a), (1, .int p0)] [] h 0 0
  unfold fX12_givesBy at e
  refine g_iconst (v := 0) o dX12_givesBy_0 (by decide) ?_
  refine g_istore_n [(2, .int 0), (0, .ref a), (1, .int p0)] o dX12_givesBy_1 rfl (by decide) rfl ?_
  refine g_aload_n 1 o dX12_givesBy_2 rfl rfl ?_
  obtain ⟨x3, q3, e⟩ := ob e
  refine g_getN 30 o cf12 (by decide) mw_1216 dX12_givesBy_3 q3 ?_
  refine g_iconst (v := 0) o dX12_givesBy_6 (by decide) ?_
  refine g_iconst (v := -1) o dX12_givesBy_7 (by decide) ?_
  obtain ⟨h8, q8, e⟩ := ob e
  refine g_iast o dX12_givesBy_8 q8 ?_
  refine g_sb [1, 2, 0] rfl ?_
  exact kX12_givesBy_9 f0 o f0 a p0 0 h8 r hz q e
set_option maxRecDepth 100000 in
set_option maxHeartbeats 4000000 in
theorem kX12_fewestNames_13 {X : Cx} (f0 : Nat) (o : Ok X cX12_fewestNames RX12 2 rmX12_fewestNames (some .int)) (f : Nat) (v0 : Nat) (v1 : Int32) (h : Hp) (r : Int32) (hz : Hp) (q : Rt X (some (.int r)) hz 0 0) (e : bX12_fewestNames_13 f0 f v0 v1 h = some (r, hz)) : G X 2 13 [(0, .ref v0), (1, .int v1)] [] h 0 0 := by
  induction f generalizing v0 v1 h r hz with
  | zero => cases e
  | succ f1 ih =>
    unfold bX12_fewestNames_13 at e
    refine g_aload_n 0 o dX12_fewestNames_13 rfl rfl ?_
    refine g_iload_n 1 o dX12_fewestNames_14 rfl rfl ?_
    obtain ⟨_, k15, e⟩ := ob e
    obtain ⟨x15, h15, q15, e⟩ := ob2_s e
    refine g_callVv [.int v1] o (mX12_givesBy q15) cf12 (ckO_s k15) mw_1518 mw_1519 mw_1774 mw_19 mw_1520 rfl yo_X12_givesBy rfl rfl (Nat.le_of_ble_eq_true rfl) ⟨by decide, by decide⟩ ⟨rfl, rfl⟩ dX12_fewestNames_15 ⟨by decide, by decide⟩ ?_
    refine g_if_ne (x := x15) 27 o dX12_fewestNames_18 (by decide) (fun u => ?_) (fun u => ?_)
    · rw [if_neg u] at e
      refine g_iload_n 1 o dX12_fewestNames_27 rfl rfl ?_
      exact g_iret o dX12_fewestNames_28 (rt_v q e)
    · rw [if_pos u] at e
      refine g_iinc (k := 1) (v := (v1 + 1)) [(1, .int (v1 + 1)), (0, .ref v0)] o dX12_fewestNames_21 rfl rfl (by decide) rfl ?_
      refine g_goto 13 o dX12_fewestNames_24 (by decide) ?_
      refine g_sb [1, 0] rfl ?_
      exact ih v0 (v1 + 1) h15 r hz q e
theorem yo_X12_fewestNames : yok yX12_fewestNames 0 := ⟨by decide, by decide, by decide +kernel⟩
set_option maxRecDepth 100000 in
set_option maxHeartbeats 4000000 in
theorem mX12_fewestNames {l : Launch} {D : va_G} {cy : Nat → ClassId} {f0 : Nat} {a : Nat} {h : Hp} {r : Int32} {hz : Hp} (e : fX12_fewestNames f0 a h = some (r, hz)) : MC l D cy yX12_fewestNames cX12_fewestNames 2 (some .int) rmX12_fewestNames [.ref a] h (some (.int r)) hz := by
  refine mc_of2 (by decide) (Nat.le_of_ble_eq_true rfl) (fun X hl hD hy hin o q => ?_)
  subst hl; subst hD; subst hy
  show G X 2 0 [(0, .ref a)] [] h 0 0
  unfold fX12_fewestNames at e
  refine g_aload_n 0 o dX12_fewestNames_0 rfl rfl ?_
  obtain ⟨x1, q1, e⟩ := ob e
  refine g_getN 6 o cf12 (by decide) mw_1192 dX12_fewestNames_1 q1 ?_
  refine g_iconst (v := 0) o dX12_fewestNames_4 (by decide) ?_
  obtain ⟨x5, q5, e⟩ := ob e
  refine g_iald o dX12_fewestNames_5 q5 ?_
  refine g_if_ne (x := x5) 11 o dX12_fewestNames_6 (by decide) (fun u => ?_) (fun u => ?_)
  · rw [if_neg u] at e
    refine g_iconst (v := 1) o dX12_fewestNames_11 (by decide) ?_
    refine g_istore_n [(1, .int 1), (0, .ref a)] o dX12_fewestNames_12 rfl (by decide) rfl ?_
    refine g_sb [1, 0] rfl ?_
    exact kX12_fewestNames_13 f0 o f0 a 1 h r hz q e
  · rw [if_pos u] at e
    refine g_iconst (v := 0) o dX12_fewestNames_9 (by decide) ?_
    exact g_iret o dX12_fewestNames_10 (rt_v q e)
theorem yo_X12_names : yok yX12_names 0 := ⟨by decide, by decide, by decide +kernel⟩
set_option maxRecDepth 100000 in
set_option maxHeartbeats 4000000 in
theorem mX12_names {l : Launch} {D : va_G} {cy : Nat → ClassId} {f0 : Nat} {a : Nat} {h : Hp} {r : Int32} {hz : Hp} (e : fX12_names f0 a h = some (r, hz)) : MC l D cy yX12_names cX12_names 1 (some .int) rmX12_names [.ref a] h (some (.int r)) hz := by
  refine mc_of2 (by decide) (Nat.le_of_ble_eq_true rfl) (fun X hl hD hy hin o q => ?_)
  subst hl; subst hD; subst hy
  show G X 1 0 [(0, .ref a)] [] h 0 0
  unfold fX12_names at e
  refine g_aload_n 0 o dX12_names_0 rfl rfl ?_
  refine g_iconst (v := 0) o dX12_names_1 (by decide) ?_
  obtain ⟨h2, q2, e⟩ := ob e
  refine g_put (ty1 := .int) 0 o cf12 (by decide) mw_1186 rfl (by decide +kernel) rfl rfl dX12_names_2 q2 ?_
  refine g_aload_n 0 o dX12_names_5 rfl rfl ?_
  obtain ⟨_, k6, e⟩ := ob e
  obtain ⟨x6, h6, q6, e⟩ := ob2_s e
  refine g_callVv [] o (mX12_fewestNames q6) cf12 (ckO_s k6) mw_1515 mw_1516 mw_1773 mw_19 mw_1517 rfl yo_X12_fewestNames rfl rfl (Nat.le_of_ble_eq_true rfl) ⟨by decide, by decide⟩ ⟨rfl, rfl⟩ dX12_names_6 ⟨by decide, by decide⟩ ?_
  exact g_iret o dX12_names_9 (rt_v q e)
theorem yo_X12_nameOf : yok yX12_nameOf 1 := ⟨by decide, by decide, by decide +kernel⟩
set_option maxRecDepth 100000 in
set_option maxHeartbeats 4000000 in
theorem mX12_nameOf {l : Launch} {D : va_G} {cy : Nat → ClassId} {f0 : Nat} {a : Nat} {p0 : Int32} {h : Hp} {r : Int32} {hz : Hp} (e : fX12_nameOf f0 a p0 h = some (r, hz)) : MC l D cy yX12_nameOf cX12_nameOf 2 (some .int) rmX12_nameOf [.ref a, .int p0] h (some (.int r)) hz := by
  refine mc_of2 (by decide) (Nat.le_of_ble_eq_true rfl) (fun X hl hD hy hin o q => ?_)
  subst hl; subst hD; subst hy
  show G X 2 0 [(0, .ref a), (1, .int p0)] [] h 0 0
  unfold fX12_nameOf at e
  refine g_aload_n 0 o dX12_nameOf_0 rfl rfl ?_
  refine g_iconst (v := 0) o dX12_nameOf_1 (by decide) ?_
  obtain ⟨h2, q2, e⟩ := ob e
  refine g_put (ty1 := .int) 0 o cf12 (by decide) mw_1186 rfl (by decide +kernel) rfl rfl dX12_nameOf_2 q2 ?_
  refine g_aload_n 0 o dX12_nameOf_5 rfl rfl ?_
  refine g_iload_n 1 o dX12_nameOf_6 rfl rfl ?_
  obtain ⟨_, k7, e⟩ := ob e
  obtain ⟨x7, h7, q7, e⟩ := ob2_s e
  refine g_callVv [.int p0] o (mX12_isPort q7) cf12 (ckO_s k7) mw_1369 mw_1370 mw_1747 mw_19 mw_1371 rfl yo_X12_isPort rfl rfl (Nat.le_of_ble_eq_true rfl) ⟨by decide, by decide⟩ ⟨rfl, rfl⟩ dX12_nameOf_7 ⟨by decide, by decide⟩ ?_
  refine g_if_ne (x := x7) 15 o dX12_nameOf_10 (by decide) (fun u => ?_) (fun u => ?_)
  · rw [if_neg u] at e
    refine g_aload_n 0 o dX12_nameOf_15 rfl rfl ?_
    obtain ⟨_, k16, e⟩ := ob e
    obtain ⟨x16, h16, q16, e⟩ := ob2_s e
    refine g_callVv [] o (mX12_fewestNames q16) cf12 (ckO_s k16) mw_1515 mw_1516 mw_1773 mw_19 mw_1517 rfl yo_X12_fewestNames rfl rfl (Nat.le_of_ble_eq_true rfl) ⟨by decide, by decide⟩ ⟨rfl, rfl⟩ dX12_nameOf_16 ⟨by decide, by decide⟩ ?_
    refine g_pop o dX12_nameOf_19 rfl ?_
    refine g_aload_n 0 o dX12_nameOf_20 rfl rfl ?_
    obtain ⟨x21, q21, e⟩ := ob e
    refine g_getN 30 o cf12 (by decide) mw_1216 dX12_nameOf_21 q21 ?_
    refine g_iload_n 1 o dX12_nameOf_24 rfl rfl ?_
    obtain ⟨x25, q25, e⟩ := ob e
    refine g_iald o dX12_nameOf_25 q25 ?_
    exact g_iret o dX12_nameOf_26 (rt_v q e)
  · rw [if_pos u] at e
    refine g_iconst (v := -1) o dX12_nameOf_13 (by decide) ?_
    exact g_iret o dX12_nameOf_14 (rt_v q e)
theorem yo_X12_octet : yok yX12_octet 1 := ⟨by decide, by decide, by decide +kernel⟩
set_option maxRecDepth 100000 in
set_option maxHeartbeats 4000000 in
theorem mX12_octet {l : Launch} {D : va_G} {cy : Nat → ClassId} {f0 : Nat} {a : Nat} {p0 : Int32} {h : Hp} {r : Int32} {hz : Hp} (e : fX12_octet f0 a p0 h = some (r, hz)) : MC l D cy yX12_octet cX12_octet 2 (some .int) rmX12_octet [.ref a, .int p0] h (some (.int r)) hz := by
  refine mc_of2 (by decide) (Nat.le_of_ble_eq_true rfl) (fun X hl hD hy hin o q => ?_)
  subst hl; subst hD; subst hy
  show G X 2 0 [(0, .ref a), (1, .int p0)] [] h 0 0
  unfold fX12_octet at e
  refine g_aload_n 0 o dX12_octet_0 rfl rfl ?_
  obtain ⟨x1, q1, e⟩ := ob e
  refine g_getN 1 o cf12 (by decide) mw_1187 dX12_octet_1 q1 ?_
  refine g_iload_n 1 o dX12_octet_4 rfl rfl ?_
  obtain ⟨x5, q5, e⟩ := ob e
  refine g_bald o dX12_octet_5 q5 ?_
  refine g_sipush (v := 255) o dX12_octet_6 (by decide) ?_
  refine g_iand (x := x5) (y := 255) o dX12_octet_9 ?_
  exact g_iret o dX12_octet_10 (rt_v q e)
set_option maxRecDepth 100000 in
set_option maxHeartbeats 4000000 in
theorem kX12_canFollow_52 {X : Cx} (f0 : Nat) (o : Ok X cX12_canFollow RX12 4 rmX12_canFollow (some .boolean)) (v0 : Nat) (v1 : Int32) (v2 : Int32) (v3 : Int32) (h : Hp) (r : Int32) (hz : Hp) (q : Rt X (some (.int r)) hz 0 0) (e : bX12_canFollow_52 f0 v0 v1 v2 v3 h = some (r, hz)) : G X 4 52 [(0, .ref v0), (1, .int v1), (2, .int v2), (3, .int v3)] [] h 0 0 := by
  unfold bX12_canFollow_52 at e
  refine g_iload_n 3 o dX12_canFollow_52 rfl rfl ?_
  refine g_if_le (x := v3) 86 o dX12_canFollow_53 (by decide) (fun u => ?_) (fun u => ?_)
  · rw [if_pos u] at e
    refine g_iconst (v := 0) o dX12_canFollow_86 (by decide) ?_
    exact g_zret o dX12_canFollow_87 (zr_s e).1 (rt_v q (zr_s e).2)
  · rw [if_neg u] at e
    refine g_aload_n 0 o dX12_canFollow_56 rfl rfl ?_
    obtain ⟨x57, q57, e⟩ := ob e
    refine g_getN 21 o cf12 (by decide) mw_1207 dX12_canFollow_57 q57 ?_
    refine g_aload_n 0 o dX12_canFollow_60 rfl rfl ?_
    refine g_iconst (v := 2) o dX12_canFollow_61 (by decide) ?_
    refine g_iload_n 1 o dX12_canFollow_62 rfl rfl ?_
    refine g_imul (x := (2 : Int32)) (y := v1) o dX12_canFollow_63 ?_
    obtain ⟨_, k64, e⟩ := ob e
    obtain ⟨x64, h64, q64, e⟩ := ob2_s e
    refine g_callVv [.int ((2 : Int32) * v1)] o (mX12_octet q64) cf12 (ckO_s k64) mw_1532 mw_1533 mw_1776 mw_19 mw_1534 rfl yo_X12_octet rfl rfl (Nat.le_of_ble_eq_true rfl) ⟨by decide, by decide⟩ ⟨rfl, rfl⟩ dX12_canFollow_64 ⟨by decide, by decide⟩ ?_
    refine g_aload_n 0 o dX12_canFollow_67 rfl rfl ?_
    refine g_iconst (v := 2) o dX12_canFollow_68 (by decide) ?_
    refine g_iload_n 2 o dX12_canFollow_69 rfl rfl ?_
    refine g_imul (x := (2 : Int32)) (y := v2) o dX12_canFollow_70 ?_
    obtain ⟨_, k71, e⟩ := ob e
    obtain ⟨x71, h71, q71, e⟩ := ob2_s e
    refine g_callVv [.int ((2 : Int32) * v2)] o (mX12_octet q71) cf12 (ckO_s k71) mw_1532 mw_1533 mw_1776 mw_19 mw_1534 rfl yo_X12_octet rfl rfl (Nat.le_of_ble_eq_true rfl) ⟨by decide, by decide⟩ ⟨rfl, rfl⟩ dX12_canFollow_71 ⟨by decide, by decide⟩ ?_
    obtain ⟨x74, h74, q74, e⟩ := ob2_s e
    refine g_callSv [.int x64, .int x71] o (mX12_cell q74) mw_1180 mw_1181 mw_19 mw_1182 yo_X12_cell rfl rfl (Nat.le_of_ble_eq_true rfl) ⟨by decide, by decide⟩ ⟨rfl, rfl⟩ dX12_canFollow_74 ⟨by decide, by decide⟩ ?_
    obtain ⟨x77, q77, e⟩ := ob e
    refine g_iald o dX12_canFollow_77 q77 ?_
    refine g_iload_n 3 o dX12_canFollow_78 rfl rfl ?_
    refine g_icmp_gt (x := x77) (y := v3) 86 o dX12_canFollow_79 (by decide) (fun u => ?_) (fun u => ?_)
    · rw [if_pos u] at e
      refine g_iconst (v := 0) o dX12_canFollow_86 (by decide) ?_
      exact g_zret o dX12_canFollow_87 (zr_s e).1 (rt_v q (zr_s e).2)
    · rw [if_neg u] at e
      refine g_iconst (v := 1) o dX12_canFollow_82 (by decide) ?_
      refine g_goto 87 o dX12_canFollow_83 (by decide) ?_
      exact g_zret o dX12_canFollow_87 (zr_s e).1 (rt_v q (zr_s e).2)
theorem yo_X12_canFollow : yok yX12_canFollow 2 := ⟨by decide, by decide, by decide +kernel⟩
set_option maxRecDepth 100000 in
set_option maxHeartbeats 4000000 in
theorem mX12_canFollow {l : Launch} {D : va_G} {cy : Nat → ClassId} {f0 : Nat} {a : Nat} {p0 : Int32} {p1 : Int32} {h : Hp} {r : Int32} {hz : Hp} (e : fX12_canFollow f0 a p0 p1 h = some (r, hz)) : MC l D cy yX12_canFollow cX12_canFollow 4 (some .boolean) rmX12_canFollow [.ref a, .int p0, .int p1] h (some (.int r)) hz := by
  refine mc_of2 (by decide) (Nat.le_of_ble_eq_true rfl) (fun X hl hD hy hin o q => ?_)
  subst hl; subst hD; subst hy
  show G X 4 0 [(0, .ref a), (1, .int p0), (2, .int p1)] [] h 0 0
  unfold fX12_canFollow at e
  refine g_aload_n 0 o dX12_canFollow_0 rfl rfl ?_
  refine g_iconst (v := 2) o dX12_canFollow_1 (by decide) ?_
  refine g_iload_n 2 o dX12_canFollow_2 rfl rfl ?_
  refine g_imul (x := (2 : Int32)) (y := p1) o dX12_canFollow_3 ?_
  refine g_iconst (v := 1) o dX12_canFollow_4 (by decide) ?_
  refine g_iadd (x := ((2 : Int32) * p1)) (y := 1) o dX12_canFollow_5 ?_
  obtain ⟨_, k6, e⟩ := ob e
  obtain ⟨x6, h6, q6, e⟩ := ob2_s e
  refine g_callVv [.int (((2 : Int32) * p1) + 1)] o (mX12_octet q6) cf12 (ckO_s k6) mw_1532 mw_1533 mw_1776 mw_19 mw_1534 rfl yo_X12_octet rfl rfl (Nat.le_of_ble_eq_true rfl) ⟨by decide, by decide⟩ ⟨rfl, rfl⟩ dX12_canFollow_6 ⟨by decide, by decide⟩ ?_
  refine g_aload_n 0 o dX12_canFollow_9 rfl rfl ?_
  refine g_iconst (v := 2) o dX12_canFollow_10 (by decide) ?_
  refine g_iload_n 1 o dX12_canFollow_11 rfl rfl ?_
  refine g_imul (x := (2 : Int32)) (y := p0) o dX12_canFollow_12 ?_
  refine g_iconst (v := 1) o dX12_canFollow_13 (by decide) ?_
  refine g_iadd (x := ((2 : Int32) * p0)) (y := 1) o dX12_canFollow_14 ?_
  obtain ⟨_, k15, e⟩ := ob e
  obtain ⟨x15, h15, q15, e⟩ := ob2_s e
  refine g_callVv [.int (((2 : Int32) * p0) + 1)] o (mX12_octet q15) cf12 (ckO_s k15) mw_1532 mw_1533 mw_1776 mw_19 mw_1534 rfl yo_X12_octet rfl rfl (Nat.le_of_ble_eq_true rfl) ⟨by decide, by decide⟩ ⟨rfl, rfl⟩ dX12_canFollow_15 ⟨by decide, by decide⟩ ?_
  refine g_isub (x := x6) (y := x15) o dX12_canFollow_18 ?_
  refine g_istore_n [(3, .int (x6 - x15)), (0, .ref a), (1, .int p0), (2, .int p1)] o dX12_canFollow_19 rfl (by decide) rfl ?_
  refine g_iload_n 0 o dX12_canFollow_20 rfl rfl ?_
  refine g_if_ne (x := (x6 - x15)) 52 o dX12_canFollow_21 (by decide) (fun u => ?_) (fun u => ?_)
  · rw [if_neg u] at e
    refine g_sb [1, 2, 3, 0] rfl ?_
    exact kX12_canFollow_52 f0 o a p0 p1 (x6 - x15) h15 r hz q e
  · rw [if_pos u] at e
    refine g_aload_n 1 o dX12_canFollow_24 rfl rfl ?_
    refine g_iconst (v := 2) o dX12_canFollow_25 (by decide) ?_
    refine g_iload_n 2 o dX12_canFollow_26 rfl rfl ?_
    refine g_imul (x := (2 : Int32)) (y := p0) o dX12_canFollow_27 ?_
    obtain ⟨_, k28, e⟩ := ob e
    obtain ⟨x28, h28, q28, e⟩ := ob2_s e
    refine g_callVv [.int ((2 : Int32) * p0)] o (mX12_octet q28) cf12 (ckO_s k28) mw_1532 mw_1533 mw_1776 mw_19 mw_1534 rfl yo_X12_octet rfl rfl (Nat.le_of_ble_eq_true rfl) ⟨by decide, by decide⟩ ⟨rfl, rfl⟩ dX12_canFollow_28 ⟨by decide, by decide⟩ ?_
    refine g_aload_n 1 o dX12_canFollow_31 rfl rfl ?_
    refine g_iconst (v := 2) o dX12_canFollow_32 (by decide) ?_
    refine g_iload_n 3 o dX12_canFollow_33 rfl rfl ?_
    refine g_imul (x := (2 : Int32)) (y := p1) o dX12_canFollow_34 ?_
    obtain ⟨_, k35, e⟩ := ob e
    obtain ⟨x35, h35, q35, e⟩ := ob2_s e
    refine g_callVv [.int ((2 : Int32) * p1)] o (mX12_octet q35) cf12 (ckO_s k35) mw_1532 mw_1533 mw_1776 mw_19 mw_1534 rfl yo_X12_octet rfl rfl (Nat.le_of_ble_eq_true rfl) ⟨by decide, by decide⟩ ⟨rfl, rfl⟩ dX12_canFollow_35 ⟨by decide, by decide⟩ ?_
    refine g_icmp_ne (x := x28) (y := x35) 52 o dX12_canFollow_38 (by decide) (fun u => ?_) (fun u => ?_)
    · rw [if_neg u] at e
      refine g_sb [1, 2, 3, 0] rfl ?_
      exact kX12_canFollow_52 f0 o a p0 p1 (x6 - x15) h35 r hz q e
    · rw [if_pos u] at e
      refine g_iload_n 2 o dX12_canFollow_41 rfl rfl ?_
      refine g_iload_n 3 o dX12_canFollow_42 rfl rfl ?_
      refine g_icmp_ge (x := p0) (y := p1) 50 o dX12_canFollow_43 (by decide) (fun u => ?_) (fun u => ?_)
      · rw [if_pos u] at e
        refine g_iconst (v := 0) o dX12_canFollow_50 (by decide) ?_
        exact g_zret o dX12_canFollow_51 (zr_s e).1 (rt_v q (zr_s e).2)
      · rw [if_neg u] at e
        refine g_iconst (v := 1) o dX12_canFollow_46 (by decide) ?_
        refine g_goto 51 o dX12_canFollow_47 (by decide) ?_
        exact g_zret o dX12_canFollow_51 (zr_s e).1 (rt_v q (zr_s e).2)
theorem yo_X12_greater : yok yX12_greater 2 := ⟨by decide, by decide, by decide +kernel⟩
set_option maxRecDepth 100000 in
set_option maxHeartbeats 4000000 in
theorem mX12_greater {l : Launch} {D : va_G} {cy : Nat → ClassId} {f0 : Nat} {p0 : Int32} {p1 : Int32} {h : Hp} {r : Int32} {hz : Hp} (e : fX12_greater f0 p0 p1 h = some (r, hz)) : MC l D cy yX12_greater cX12_greater 2 (some .int) rmX12_greater [.int p0, .int p1] h (some (.int r)) hz := by
  refine mc_of2 (by decide) (Nat.le_of_ble_eq_true rfl) (fun X hl hD hy hin o q => ?_)
  subst hl; subst hD; subst hy
  show G X 2 0 [(0, .int p0), (1, .int p1)] [] h 0 0
  unfold fX12_greater at e
  refine g_iload_n 0 o dX12_greater_0 rfl rfl ?_
  refine g_iload_n 1 o dX12_greater_1 rfl rfl ?_
  refine g_icmp_le (x := p0) (y := p1) 9 o dX12_greater_2 (by decide) (fun u => ?_) (fun u => ?_)
  · rw [if_pos u] at e
    refine g_iload_n 1 o dX12_greater_9 rfl rfl ?_
    exact g_iret o dX12_greater_10 (rt_v q e)
  · rw [if_neg u] at e
    refine g_iload_n 0 o dX12_greater_5 rfl rfl ?_
    refine g_goto 10 o dX12_greater_6 (by decide) ?_
    exact g_iret o dX12_greater_10 (rt_v q e)
set_option maxRecDepth 100000 in
set_option maxHeartbeats 4000000 in
theorem kX12_register_96 {X : Cx} (f0 : Nat) (g75 : Nat → Int32 → Int32 → Hp → Option (Int32 × Hp)) (i75 : ∀ (v02 : Nat) (v12 : Int32) (v22 : Int32) (h2 : Hp) (r : Int32) (hz : Hp), Rt X (some (.int r)) hz 0 0 → g75 v02 v12 v22 h2 = some (r, hz) → G X 5 75 [(0, .ref v02), (1, .int v12), (2, .int v22)] [] h2 0 0) (o : Ok X cX12_register RX12 5 rmX12_register (some .int)) (v0 : Nat) (v1 : Int32) (v2 : Int32) (s0 : Nat) (s1 : Int32) (s2 : Int32) (h : Hp) (r : Int32) (hz : Hp) (q : Rt X (some (.int r)) hz 0 0) (e : bX12_register_96 f0 g75 v0 v1 v2 s0 s1 s2 h = some (r, hz)) : G X 5 96 [(0, .ref v0), (1, .int v1), (2, .int v2)] [.int s2, .int s1, .ref s0] h 0 0 := by
  unfold bX12_register_96 at e
  obtain ⟨h96, q96, e⟩ := ob e
  refine g_iast o dX12_register_96 q96 ?_
  refine g_iinc (k := 2) (v := (v2 + 1)) [(2, .int (v2 + 1)), (0, .ref v0), (1, .int v1)] o dX12_register_97 rfl rfl (by decide) rfl ?_
  refine g_goto 75 o dX12_register_100 (by decide) ?_
  refine g_sb [1, 2, 0] rfl ?_
  exact i75 v0 v1 (v2 + 1) h96 r hz q e
set_option maxRecDepth 100000 in
set_option maxHeartbeats 4000000 in
theorem kX12_register_225 {X : Cx} (f0 : Nat) (g105 : Nat → Int32 → Int32 → Hp → Option (Int32 × Hp)) (g139 : Nat → Int32 → Int32 → Int32 → Hp → Option (Int32 × Hp)) (g161 : Nat → Int32 → Int32 → Int32 → Int32 → Hp → Option (Int32 × Hp)) (i105 : ∀ (v02 : Nat) (v12 : Int32) (v22 : Int32) (h2 : Hp) (r : Int32) (hz : Hp), Rt X (some (.int r)) hz 0 0 → g105 v02 v12 v22 h2 = some (r, hz) → G X 5 105 [(0, .ref v02), (1, .int v12), (2, .int v22)] [] h2 0 0) (i139 : ∀ (v02 : Nat) (v12 : Int32) (v22 : Int32) (v32 : Int32) (h2 : Hp) (r : Int32) (hz : Hp), Rt X (some (.int r)) hz 0 0 → g139 v02 v12 v22 v32 h2 = some (r, hz) → G X 5 139 [(0, .ref v02), (1, .int v12), (2, .int v22), (3, .int v32)] [] h2 0 0) (i161 : ∀ (v02 : Nat) (v12 : Int32) (v22 : Int32) (v32 : Int32) (v42 : Int32) (h2 : Hp) (r : Int32) (hz : Hp), Rt X (some (.int r)) hz 0 0 → g161 v02 v12 v22 v32 v42 h2 = some (r, hz) → G X 5 161 [(0, .ref v02), (1, .int v12), (2, .int v22), (3, .int v32), (4, .int v42)] [] h2 0 0) (o : Ok X cX12_register RX12 5 rmX12_register (some .int)) (v0 : Nat) (v1 : Int32) (v2 : Int32) (v3 : Int32) (v4 : Int32) (h : Hp) (r : Int32) (hz : Hp) (q : Rt X (some (.int r)) hz 0 0) (e : bX12_register_225 f0 g105 g139 g161 v0 v1 v2 v3 v4 h = some (r, hz)) : G X 5 225 [(0, .ref v0), (1, .int v1), (2, .int v2), (3, .int v3), (4, .int v4)] [] h 0 0 := by
  unfold bX12_register_225 at e
  refine g_iinc (k := 4) (v := (v4 + 1)) [(4, .int (v4 + 1)), (0, .ref v0), (1, .int v1), (2, .int v2), (3, .int v3)] o dX12_register_225 rfl rfl (by decide) rfl ?_
  refine g_goto 161 o dX12_register_228 (by decide) ?_
  refine g_sb [1, 2, 3, 4, 0] rfl ?_
  exact i161 v0 v1 v2 v3 (v4 + 1) h r hz q e
set_option maxRecDepth 100000 in
set_option maxHeartbeats 4000000 in
theorem kX12_register_231 {X : Cx} (f0 : Nat) (g105 : Nat → Int32 → Int32 → Hp → Option (Int32 × Hp)) (g139 : Nat → Int32 → Int32 → Int32 → Hp → Option (Int32 × Hp)) (i105 : ∀ (v02 : Nat) (v12 : Int32) (v22 : Int32) (h2 : Hp) (r : Int32) (hz : Hp), Rt X (some (.int r)) hz 0 0 → g105 v02 v12 v22 h2 = some (r, hz) → G X 5 105 [(0, .ref v02), (1, .int v12), (2, .int v22)] [] h2 0 0) (i139 : ∀ (v02 : Nat) (v12 : Int32) (v22 : Int32) (v32 : Int32) (h2 : Hp) (r : Int32) (hz : Hp), Rt X (some (.int r)) hz 0 0 → g139 v02 v12 v22 v32 h2 = some (r, hz) → G X 5 139 [(0, .ref v02), (1, .int v12), (2, .int v22), (3, .int v32)] [] h2 0 0) (o : Ok X cX12_register RX12 5 rmX12_register (some .int)) (v0 : Nat) (v1 : Int32) (v2 : Int32) (v3 : Int32) (h : Hp) (r : Int32) (hz : Hp) (q : Rt X (some (.int r)) hz 0 0) (e : bX12_register_231 f0 g105 g139 v0 v1 v2 v3 h = some (r, hz)) : G X 5 231 [(0, .ref v0), (1, .int v1), (2, .int v2), (3, .int v3)] [] h 0 0 := by
  unfold bX12_register_231 at e
  refine g_iinc (k := 3) (v := (v3 + 1)) [(3, .int (v3 + 1)), (0, .ref v0), (1, .int v1), (2, .int v2)] o dX12_register_231 rfl rfl (by decide) rfl ?_
  refine g_goto 139 o dX12_register_234 (by decide) ?_
  refine g_sb [1, 2, 3, 0] rfl ?_
  exact i139 v0 v1 v2 (v3 + 1) h r hz q e
set_option maxRecDepth 100000 in
set_option maxHeartbeats 4000000 in
theorem kX12_register_161 {X : Cx} (f0 : Nat) (g105 : Nat → Int32 → Int32 → Hp → Option (Int32 × Hp)) (g139 : Nat → Int32 → Int32 → Int32 → Hp → Option (Int32 × Hp)) (i105 : ∀ (v02 : Nat) (v12 : Int32) (v22 : Int32) (h2 : Hp) (r : Int32) (hz : Hp), Rt X (some (.int r)) hz 0 0 → g105 v02 v12 v22 h2 = some (r, hz) → G X 5 105 [(0, .ref v02), (1, .int v12), (2, .int v22)] [] h2 0 0) (i139 : ∀ (v02 : Nat) (v12 : Int32) (v22 : Int32) (v32 : Int32) (h2 : Hp) (r : Int32) (hz : Hp), Rt X (some (.int r)) hz 0 0 → g139 v02 v12 v22 v32 h2 = some (r, hz) → G X 5 139 [(0, .ref v02), (1, .int v12), (2, .int v22), (3, .int v32)] [] h2 0 0) (o : Ok X cX12_register RX12 5 rmX12_register (some .int)) (f : Nat) (v0 : Nat) (v1 : Int32) (v2 : Int32) (v3 : Int32) (v4 : Int32) (h : Hp) (r : Int32) (hz : Hp) (q : Rt X (some (.int r)) hz 0 0) (e : bX12_register_161 f0 g105 g139 f v0 v1 v2 v3 v4 h = some (r, hz)) : G X 5 161 [(0, .ref v0), (1, .int v1), (2, .int v2), (3, .int v3), (4, .int v4)] [] h 0 0 := by
  induction f generalizing v0 v1 v2 v3 v4 h r hz with
  | zero => cases e
  | succ f1 ih =>
    unfold bX12_register_161 at e
    refine g_iload 4 o dX12_register_161 rfl ?_
    refine g_iload_n 1 o dX12_register_163 rfl rfl ?_
    refine g_icmp_ge (x := v4) (y := v1) 231 o dX12_register_164 (by decide) (fun u => ?_) (fun u => ?_)
    · rw [if_pos u] at e
      refine g_sb [0, 1, 2, 3] rfl ?_
      exact kX12_register_231 f0 g105 g139 i105 i139 o v0 v1 v2 v3 h r hz q e
    · rw [if_neg u] at e
      refine g_iload_n 3 o dX12_register_167 rfl rfl ?_
      refine g_iload 4 o dX12_register_168 rfl ?_
      obtain ⟨x170, h170, q170, e⟩ := ob2_s e
      refine g_callSv [.int v3, .int v4] o (mX12_bitOf q170) mw_1352 mw_1353 mw_19 mw_1354 yo_X12_bitOf rfl rfl (Nat.le_of_ble_eq_true rfl) ⟨by decide, by decide⟩ ⟨rfl, rfl⟩ dX12_register_170 ⟨by decide, by decide⟩ ?_
      refine g_if_ne (x := x170) 225 o dX12_register_173 (by decide) (fun u => ?_) (fun u => ?_)
      · rw [if_neg u] at e
        exact kX12_register_225 f0 g105 g139 (bX12_register_161 f0 g105 g139 f1) i105 i139 ih o v0 v1 v2 v3 v4 h170 r hz q e
      · rw [if_pos u] at e
        refine g_iload_n 2 o dX12_register_176 rfl rfl ?_
        refine g_iload 4 o dX12_register_177 rfl ?_
        refine g_icmp_eq (x := v2) (y := v4) 225 o dX12_register_179 (by decide) (fun u => ?_) (fun u => ?_)
        · rw [if_pos u] at e
          exact kX12_register_225 f0 g105 g139 (bX12_register_161 f0 g105 g139 f1) i105 i139 ih o v0 v1 v2 v3 v4 h170 r hz q e
        · rw [if_neg u] at e
          refine g_aload_n 0 o dX12_register_182 rfl rfl ?_
          refine g_iload_n 2 o dX12_register_183 rfl rfl ?_
          refine g_iload 4 o dX12_register_184 rfl ?_
          obtain ⟨_, k186, e⟩ := ob e
          obtain ⟨x186, h186, q186, e⟩ := ob2_s e
          refine g_callVv [.int v2, .int v4] o (mX12_canFollow q186) cf12 (ckO_s k186) mw_1535 mw_1536 mw_1777 mw_19 mw_1537 rfl yo_X12_canFollow rfl rfl (Nat.le_of_ble_eq_true rfl) ⟨by decide, by decide⟩ ⟨rfl, rfl⟩ dX12_register_186 ⟨by decide, by decide⟩ ?_
          refine g_if_eq (x := x186) 225 o dX12_register_189 (by decide) (fun u => ?_) (fun u => ?_)
          · rw [if_pos u] at e
            exact kX12_register_225 f0 g105 g139 (bX12_register_161 f0 g105 g139 f1) i105 i139 ih o v0 v1 v2 v3 v4 h186 r hz q e
          · rw [if_neg u] at e
            refine g_aload_n 0 o dX12_register_192 rfl rfl ?_
            obtain ⟨x193, q193, e⟩ := ob e
            refine g_getN 32 o cf12 (by decide) mw_1218 dX12_register_193 q193 ?_
            refine g_iload_n 3 o dX12_register_196 rfl rfl ?_
            refine g_iconst (v := 1) o dX12_register_197 (by decide) ?_
            refine g_iload 4 o dX12_register_198 rfl ?_
            refine g_ishl (x := (1 : Int32)) (y := v4) o dX12_register_200 ?_
            refine g_ior (x := v3) (y := ((1 : Int32) <<< (v4 &&& 31))) o dX12_register_201 ?_
            refine g_aload_n 0 o dX12_register_202 rfl rfl ?_
            obtain ⟨x203, q203, e⟩ := ob e
            refine g_getN 32 o cf12 (by decide) mw_1218 dX12_register_203 q203 ?_
            refine g_iload_n 3 o dX12_register_206 rfl rfl ?_
            refine g_iconst (v := 1) o dX12_register_207 (by decide) ?_
            refine g_iload 4 o dX12_register_208 rfl ?_
            refine g_ishl (x := (1 : Int32)) (y := v4) o dX12_register_210 ?_
            refine g_ior (x := v3) (y := ((1 : Int32) <<< (v4 &&& 31))) o dX12_register_211 ?_
            obtain ⟨x212, q212, e⟩ := ob e
            refine g_iald o dX12_register_212 q212 ?_
            refine g_aload_n 0 o dX12_register_213 rfl rfl ?_
            obtain ⟨x214, q214, e⟩ := ob e
            refine g_getN 31 o cf12 (by decide) mw_1217 dX12_register_214 q214 ?_
            refine g_iload_n 3 o dX12_register_217 rfl rfl ?_
            obtain ⟨x218, q218, e⟩ := ob e
            refine g_iald o dX12_register_218 q218 ?_
            refine g_iconst (v := 1) o dX12_register_219 (by decide) ?_
            refine g_iadd (x := x218) (y := 1) o dX12_register_220 ?_
            obtain ⟨x221, h221, q221, e⟩ := ob2_s e
            refine g_callSv [.int x212, .int (x218 + 1)] o (mX12_greater q221) mw_1538 mw_1539 mw_19 mw_1540 yo_X12_greater rfl rfl (Nat.le_of_ble_eq_true rfl) ⟨by decide, by decide⟩ ⟨rfl, rfl⟩ dX12_register_221 ⟨by decide, by decide⟩ ?_
            obtain ⟨h224, q224, e⟩ := ob e
            refine g_iast o dX12_register_224 q224 ?_
            exact kX12_register_225 f0 g105 g139 (bX12_register_161 f0 g105 g139 f1) i105 i139 ih o v0 v1 v2 v3 v4 h224 r hz q e
set_option maxRecDepth 100000 in
set_option maxHeartbeats 4000000 in
theorem kX12_register_239 {X : Cx} (f0 : Nat) (g105 : Nat → Int32 → Int32 → Hp → Option (Int32 × Hp)) (i105 : ∀ (v02 : Nat) (v12 : Int32) (v22 : Int32) (h2 : Hp) (r : Int32) (hz : Hp), Rt X (some (.int r)) hz 0 0 → g105 v02 v12 v22 h2 = some (r, hz) → G X 5 105 [(0, .ref v02), (1, .int v12), (2, .int v22)] [] h2 0 0) (o : Ok X cX12_register RX12 5 rmX12_register (some .int)) (f : Nat) (v0 : Nat) (v1 : Int32) (v2 : Int32) (v3 : Int32) (h : Hp) (r : Int32) (hz : Hp) (q : Rt X (some (.int r)) hz 0 0) (e : bX12_register_239 f0 g105 f v0 v1 v2 v3 h = some (r, hz)) : G X 5 239 [(0, .ref v0), (1, .int v1), (2, .int v2), (3, .int v3)] [] h 0 0 := by
  induction f generalizing v0 v1 v2 v3 h r hz with
  | zero => cases e
  | succ f1 ih =>
    unfold bX12_register_239 at e
    refine g_iload_n 3 o dX12_register_239 rfl rfl ?_
    refine g_iconst (v := 1) o dX12_register_240 (by decide) ?_
    refine g_iload_n 1 o dX12_register_241 rfl rfl ?_
    refine g_ishl (x := (1 : Int32)) (y := v1) o dX12_register_242 ?_
    refine g_icmp_ge (x := v3) (y := ((1 : Int32) <<< (v1 &&& 31))) 264 o dX12_register_243 (by decide) (fun u => ?_) (fun u => ?_)
    · rw [if_pos u] at e
      refine g_iinc (k := 2) (v := (v2 + 1)) [(2, .int (v2 + 1)), (0, .ref v0), (1, .int v1), (3, .int v3)] o dX12_register_264 rfl rfl (by decide) rfl ?_
      refine g_goto 105 o dX12_register_267 (by decide) ?_
      refine g_sb [1, 2, 0] rfl ?_
      exact i105 v0 v1 (v2 + 1) h r hz q e
    · rw [if_neg u] at e
      refine g_aload_n 0 o dX12_register_246 rfl rfl ?_
      obtain ⟨x247, q247, e⟩ := ob e
      refine g_getN 31 o cf12 (by decide) mw_1217 dX12_register_247 q247 ?_
      refine g_iload_n 3 o dX12_register_250 rfl rfl ?_
      refine g_aload_n 0 o dX12_register_251 rfl rfl ?_
      obtain ⟨x252, q252, e⟩ := ob e
      refine g_getN 32 o cf12 (by decide) mw_1218 dX12_register_252 q252 ?_
      refine g_iload_n 3 o dX12_register_255 rfl rfl ?_
      obtain ⟨x256, q256, e⟩ := ob e
      refine g_iald o dX12_register_256 q256 ?_
      obtain ⟨h257, q257, e⟩ := ob e
      refine g_iast o dX12_register_257 q257 ?_
      refine g_iinc (k := 3) (v := (v3 + 1)) [(3, .int (v3 + 1)), (0, .ref v0), (1, .int v1), (2, .int v2)] o dX12_register_258 rfl rfl (by decide) rfl ?_
      refine g_goto 239 o dX12_register_261 (by decide) ?_
      refine g_sb [1, 2, 3, 0] rfl ?_
      exact ih v0 v1 v2 (v3 + 1) h257 r hz q e
set_option maxRecDepth 100000 in
set_option maxHeartbeats 4000000 in
theorem kX12_register_139 {X : Cx} (f0 : Nat) (g105 : Nat → Int32 → Int32 → Hp → Option (Int32 × Hp)) (i105 : ∀ (v02 : Nat) (v12 : Int32) (v22 : Int32) (h2 : Hp) (r : Int32) (hz : Hp), Rt X (some (.int r)) hz 0 0 → g105 v02 v12 v22 h2 = some (r, hz) → G X 5 105 [(0, .ref v02), (1, .int v12), (2, .int v22)] [] h2 0 0) (o : Ok X cX12_register RX12 5 rmX12_register (some .int)) (f : Nat) (v0 : Nat) (v1 : Int32) (v2 : Int32) (v3 : Int32) (h : Hp) (r : Int32) (hz : Hp) (q : Rt X (some (.int r)) hz 0 0) (e : bX12_register_139 f0 g105 f v0 v1 v2 v3 h = some (r, hz)) : G X 5 139 [(0, .ref v0), (1, .int v1), (2, .int v2), (3, .int v3)] [] h 0 0 := by
  induction f generalizing v0 v1 v2 v3 h r hz with
  | zero => cases e
  | succ f1 ih =>
    unfold bX12_register_139 at e
    refine g_iload_n 3 o dX12_register_139 rfl rfl ?_
    refine g_iconst (v := 1) o dX12_register_140 (by decide) ?_
    refine g_iload_n 1 o dX12_register_141 rfl rfl ?_
    refine g_ishl (x := (1 : Int32)) (y := v1) o dX12_register_142 ?_
    refine g_icmp_ge (x := v3) (y := ((1 : Int32) <<< (v1 &&& 31))) 237 o dX12_register_143 (by decide) (fun u => ?_) (fun u => ?_)
    · rw [if_pos u] at e
      refine g_iconst (v := 0) o dX12_register_237 (by decide) ?_
      refine g_istore_n [(3, .int 0), (0, .ref v0), (1, .int v1), (2, .int v2)] o dX12_register_238 rfl (by decide) rfl ?_
      refine g_sb [1, 2, 3, 0] rfl ?_
      exact kX12_register_239 f0 g105 i105 o f0 v0 v1 v2 0 h r hz q e
    · rw [if_neg u] at e
      refine g_aload_n 0 o dX12_register_146 rfl rfl ?_
      obtain ⟨x147, q147, e⟩ := ob e
      refine g_getN 31 o cf12 (by decide) mw_1217 dX12_register_147 q147 ?_
      refine g_iload_n 3 o dX12_register_150 rfl rfl ?_
      obtain ⟨x151, q151, e⟩ := ob e
      refine g_iald o dX12_register_151 q151 ?_
      refine g_if_ge (x := x151) 158 o dX12_register_152 (by decide) (fun u => ?_) (fun u => ?_)
      · rw [if_pos u] at e
        refine g_iconst (v := 0) o dX12_register_158 (by decide) ?_
        refine g_istore [(4, .int 0), (0, .ref v0), (1, .int v1), (2, .int v2), (3, .int v3)] o dX12_register_159 (by decide) rfl ?_
        refine g_sb [1, 2, 3, 4, 0] rfl ?_
        exact kX12_register_161 f0 g105 (bX12_register_139 f0 g105 f1) i105 ih o f0 v0 v1 v2 v3 0 h r hz q e
      · rw [if_neg u] at e
        refine g_goto 231 o dX12_register_155 (by decide) ?_
        exact kX12_register_231 f0 g105 (bX12_register_139 f0 g105 f1) i105 ih o v0 v1 v2 v3 h r hz q e
set_option maxRecDepth 100000 in
set_option maxHeartbeats 4000000 in
theorem kX12_register_112 {X : Cx} (f0 : Nat) (g105 : Nat → Int32 → Int32 → Hp → Option (Int32 × Hp)) (i105 : ∀ (v02 : Nat) (v12 : Int32) (v22 : Int32) (h2 : Hp) (r : Int32) (hz : Hp), Rt X (some (.int r)) hz 0 0 → g105 v02 v12 v22 h2 = some (r, hz) → G X 5 105 [(0, .ref v02), (1, .int v12), (2, .int v22)] [] h2 0 0) (o : Ok X cX12_register RX12 5 rmX12_register (some .int)) (f : Nat) (v0 : Nat) (v1 : Int32) (v2 : Int32) (v3 : Int32) (h : Hp) (r : Int32) (hz : Hp) (q : Rt X (some (.int r)) hz 0 0) (e : bX12_register_112 f0 g105 f v0 v1 v2 v3 h = some (r, hz)) : G X 5 112 [(0, .ref v0), (1, .int v1), (2, .int v2), (3, .int v3)] [] h 0 0 := by
  induction f generalizing v0 v1 v2 v3 h r hz with
  | zero => cases e
  | succ f1 ih =>
    unfold bX12_register_112 at e
    refine g_iload_n 3 o dX12_register_112 rfl rfl ?_
    refine g_iconst (v := 1) o dX12_register_113 (by decide) ?_
    refine g_iload_n 1 o dX12_register_114 rfl rfl ?_
    refine g_ishl (x := (1 : Int32)) (y := v1) o dX12_register_115 ?_
    refine g_icmp_ge (x := v3) (y := ((1 : Int32) <<< (v1 &&& 31))) 137 o dX12_register_116 (by decide) (fun u => ?_) (fun u => ?_)
    · rw [if_pos u] at e
      refine g_iconst (v := 0) o dX12_register_137 (by decide) ?_
      refine g_istore_n [(3, .int 0), (0, .ref v0), (1, .int v1), (2, .int v2)] o dX12_register_138 rfl (by decide) rfl ?_
      refine g_sb [1, 2, 3, 0] rfl ?_
      exact kX12_register_139 f0 g105 i105 o f0 v0 v1 v2 0 h r hz q e
    · rw [if_neg u] at e
      refine g_aload_n 0 o dX12_register_119 rfl rfl ?_
      obtain ⟨x120, q120, e⟩ := ob e
      refine g_getN 32 o cf12 (by decide) mw_1218 dX12_register_120 q120 ?_
      refine g_iload_n 3 o dX12_register_123 rfl rfl ?_
      refine g_aload_n 0 o dX12_register_124 rfl rfl ?_
      obtain ⟨x125, q125, e⟩ := ob e
      refine g_getN 31 o cf12 (by decide) mw_1217 dX12_register_125 q125 ?_
      refine g_iload_n 3 o dX12_register_128 rfl rfl ?_
      obtain ⟨x129, q129, e⟩ := ob e
      refine g_iald o dX12_register_129 q129 ?_
      obtain ⟨h130, q130, e⟩ := ob e
      refine g_iast o dX12_register_130 q130 ?_
      refine g_iinc (k := 3) (v := (v3 + 1)) [(3, .int (v3 + 1)), (0, .ref v0), (1, .int v1), (2, .int v2)] o dX12_register_131 rfl rfl (by decide) rfl ?_
      refine g_goto 112 o dX12_register_134 (by decide) ?_
      refine g_sb [1, 2, 3, 0] rfl ?_
      exact ih v0 v1 v2 (v3 + 1) h130 r hz q e
set_option maxRecDepth 100000 in
set_option maxHeartbeats 4000000 in
theorem kX12_register_274 {X : Cx} (f0 : Nat) (o : Ok X cX12_register RX12 5 rmX12_register (some .int)) (f : Nat) (v0 : Nat) (v1 : Int32) (v2 : Int32) (v3 : Int32) (h : Hp) (r : Int32) (hz : Hp) (q : Rt X (some (.int r)) hz 0 0) (e : bX12_register_274 f0 f v0 v1 v2 v3 h = some (r, hz)) : G X 5 274 [(0, .ref v0), (1, .int v1), (2, .int v2), (3, .int v3)] [] h 0 0 := by
  induction f generalizing v0 v1 v2 v3 h r hz with
  | zero => cases e
  | succ f1 ih =>
    unfold bX12_register_274 at e
    refine g_iload_n 3 o dX12_register_274 rfl rfl ?_
    refine g_iconst (v := 1) o dX12_register_275 (by decide) ?_
    refine g_iload_n 1 o dX12_register_276 rfl rfl ?_
    refine g_ishl (x := (1 : Int32)) (y := v1) o dX12_register_277 ?_
    refine g_icmp_ge (x := v3) (y := ((1 : Int32) <<< (v1 &&& 31))) 298 o dX12_register_278 (by decide) (fun u => ?_) (fun u => ?_)
    · rw [if_pos u] at e
      refine g_iload_n 1 o dX12_register_298 rfl rfl ?_
      refine g_iload_n 2 o dX12_register_299 rfl rfl ?_
      refine g_isub (x := v1) (y := v2) o dX12_register_300 ?_
      exact g_iret o dX12_register_301 (rt_v q e)
    · rw [if_neg u] at e
      refine g_iload_n 2 o dX12_register_281 rfl rfl ?_
      refine g_aload_n 0 o dX12_register_282 rfl rfl ?_
      obtain ⟨x283, q283, e⟩ := ob e
      refine g_getN 31 o cf12 (by decide) mw_1217 dX12_register_283 q283 ?_
      refine g_iload_n 3 o dX12_register_286 rfl rfl ?_
      obtain ⟨x287, q287, e⟩ := ob e
      refine g_iald o dX12_register_287 q287 ?_
      obtain ⟨x288, h288, q288, e⟩ := ob2_s e
      refine g_callSv [.int v2, .int x287] o (mX12_greater q288) mw_1538 mw_1539 mw_19 mw_1540 yo_X12_greater rfl rfl (Nat.le_of_ble_eq_true rfl) ⟨by decide, by decide⟩ ⟨rfl, rfl⟩ dX12_register_288 ⟨by decide, by decide⟩ ?_
      refine g_istore_n [(2, .int x288), (0, .ref v0), (1, .int v1), (3, .int v3)] o dX12_register_291 rfl (by decide) rfl ?_
      refine g_iinc (k := 3) (v := (v3 + 1)) [(3, .int (v3 + 1)), (2, .int x288), (0, .ref v0), (1, .int v1)] o dX12_register_292 rfl rfl (by decide) rfl ?_
      refine g_goto 274 o dX12_register_295 (by decide) ?_
      refine g_sb [2, 3, 1, 0] rfl ?_
      exact ih v0 v1 x288 (v3 + 1) h288 r hz q e
set_option maxRecDepth 100000 in
set_option maxHeartbeats 4000000 in
theorem kX12_register_105 {X : Cx} (f0 : Nat) (o : Ok X cX12_register RX12 5 rmX12_register (some .int)) (f : Nat) (v0 : Nat) (v1 : Int32) (v2 : Int32) (h : Hp) (r : Int32) (hz : Hp) (q : Rt X (some (.int r)) hz 0 0) (e : bX12_register_105 f0 f v0 v1 v2 h = some (r, hz)) : G X 5 105 [(0, .ref v0), (1, .int v1), (2, .int v2)] [] h 0 0 := by
  induction f generalizing v0 v1 v2 h r hz with
  | zero => cases e
  | succ f1 ih =>
    unfold bX12_register_105 at e
    refine g_iload_n 2 o dX12_register_105 rfl rfl ?_
    refine g_iload_n 1 o dX12_register_106 rfl rfl ?_
    refine g_icmp_ge (x := v2) (y := v1) 270 o dX12_register_107 (by decide) (fun u => ?_) (fun u => ?_)
    · rw [if_pos u] at e
      refine g_iconst (v := 0) o dX12_register_270 (by decide) ?_
      refine g_istore_n [(2, .int 0), (0, .ref v0), (1, .int v1)] o dX12_register_271 rfl (by decide) rfl ?_
      refine g_iconst (v := 0) o dX12_register_272 (by decide) ?_
      refine g_istore_n [(3, .int 0), (2, .int 0), (0, .ref v0), (1, .int v1)] o dX12_register_273 rfl (by decide) rfl ?_
      refine g_sb [2, 3, 1, 0] rfl ?_
      exact kX12_register_274 f0 o f0 v0 v1 0 0 h r hz q e
    · rw [if_neg u] at e
      refine g_iconst (v := 0) o dX12_register_110 (by decide) ?_
      refine g_istore_n [(3, .int 0), (0, .ref v0), (1, .int v1), (2, .int v2)] o dX12_register_111 rfl (by decide) rfl ?_
      refine g_sb [1, 2, 3, 0] rfl ?_
      exact kX12_register_112 f0 (bX12_register_105 f0 f1) ih o f0 v0 v1 v2 0 h r hz q e
set_option maxRecDepth 100000 in
set_option maxHeartbeats 4000000 in
theorem kX12_register_75 {X : Cx} (f0 : Nat) (o : Ok X cX12_register RX12 5 rmX12_register (some .int)) (f : Nat) (v0 : Nat) (v1 : Int32) (v2 : Int32) (h : Hp) (r : Int32) (hz : Hp) (q : Rt X (some (.int r)) hz 0 0) (e : bX12_register_75 f0 f v0 v1 v2 h = some (r, hz)) : G X 5 75 [(0, .ref v0), (1, .int v1), (2, .int v2)] [] h 0 0 := by
  induction f generalizing v0 v1 v2 h r hz with
  | zero => cases e
  | succ f1 ih =>
    unfold bX12_register_75 at e
    refine g_iload_n 2 o dX12_register_75 rfl rfl ?_
    refine g_iconst (v := 1) o dX12_register_76 (by decide) ?_
    refine g_iload_n 1 o dX12_register_77 rfl rfl ?_
    refine g_ishl (x := (1 : Int32)) (y := v1) o dX12_register_78 ?_
    refine g_icmp_ge (x := v2) (y := ((1 : Int32) <<< (v1 &&& 31))) 103 o dX12_register_79 (by decide) (fun u => ?_) (fun u => ?_)
    · rw [if_pos u] at e
      refine g_iconst (v := 0) o dX12_register_103 (by decide) ?_
      refine g_istore_n [(2, .int 0), (0, .ref v0), (1, .int v1)] o dX12_register_104 rfl (by decide) rfl ?_
      refine g_sb [1, 2, 0] rfl ?_
      exact kX12_register_105 f0 o f0 v0 v1 0 h r hz q e
    · rw [if_neg u] at e
      refine g_aload_n 0 o dX12_register_82 rfl rfl ?_
      obtain ⟨x83, q83, e⟩ := ob e
      refine g_getN 31 o cf12 (by decide) mw_1217 dX12_register_83 q83 ?_
      refine g_iload_n 2 o dX12_register_86 rfl rfl ?_
      refine g_iload_n 2 o dX12_register_87 rfl rfl ?_
      refine g_if_ne (x := v2) 95 o dX12_register_88 (by decide) (fun u => ?_) (fun u => ?_)
      · rw [if_neg u] at e
        refine g_iconst (v := -1) o dX12_register_95 (by decide) ?_
        exact kX12_register_96 f0 (bX12_register_75 f0 f1) ih o v0 v1 v2 x83 v2 (-1) h r hz q e
      · rw [if_pos u] at e
        refine g_iconst (v := 0) o dX12_register_91 (by decide) ?_
        refine g_goto 96 o dX12_register_92 (by decide) ?_
        exact kX12_register_96 f0 (bX12_register_75 f0 f1) ih o v0 v1 v2 x83 v2 0 h r hz q e
set_option maxRecDepth 100000 in
set_option maxHeartbeats 4000000 in
theorem kX12_register_46 {X : Cx} (f0 : Nat) (o : Ok X cX12_register RX12 5 rmX12_register (some .int)) (f : Nat) (v0 : Nat) (v1 : Int32) (v2 : Int32) (h : Hp) (r : Int32) (hz : Hp) (q : Rt X (some (.int r)) hz 0 0) (e : bX12_register_46 f0 f v0 v1 v2 h = some (r, hz)) : G X 5 46 [(0, .ref v0), (1, .int v1), (2, .int v2)] [] h 0 0 := by
  induction f generalizing v0 v1 v2 h r hz with
  | zero => cases e
  | succ f1 ih =>
    unfold bX12_register_46 at e
    refine g_iload_n 2 o dX12_register_46 rfl rfl ?_
    refine g_iload_n 1 o dX12_register_47 rfl rfl ?_
    refine g_icmp_ge (x := v2) (y := v1) 73 o dX12_register_48 (by decide) (fun u => ?_) (fun u => ?_)
    · rw [if_pos u] at e
      refine g_iconst (v := 0) o dX12_register_73 (by decide) ?_
      refine g_istore_n [(2, .int 0), (0, .ref v0), (1, .int v1)] o dX12_register_74 rfl (by decide) rfl ?_
      refine g_sb [1, 2, 0] rfl ?_
      exact kX12_register_75 f0 o f0 v0 v1 0 h r hz q e
    · rw [if_neg u] at e
      refine g_aload_n 0 o dX12_register_51 rfl rfl ?_
      refine g_aload_n 0 o dX12_register_52 rfl rfl ?_
      refine g_iconst (v := 2) o dX12_register_53 (by decide) ?_
      refine g_iload_n 2 o dX12_register_54 rfl rfl ?_
      refine g_imul (x := (2 : Int32)) (y := v2) o dX12_register_55 ?_
      obtain ⟨_, k56, e⟩ := ob e
      obtain ⟨x56, h56, q56, e⟩ := ob2_s e
      refine g_callVv [.int ((2 : Int32) * v2)] o (mX12_octet q56) cf12 (ckO_s k56) mw_1532 mw_1533 mw_1776 mw_19 mw_1534 rfl yo_X12_octet rfl rfl (Nat.le_of_ble_eq_true rfl) ⟨by decide, by decide⟩ ⟨rfl, rfl⟩ dX12_register_56 ⟨by decide, by decide⟩ ?_
      obtain ⟨_, k59, e⟩ := ob e
      obtain ⟨x59, h59, q59, e⟩ := ob2_s e
      refine g_callVv [.int x56] o (mX12_isPort q59) cf12 (ckO_s k59) mw_1369 mw_1370 mw_1747 mw_19 mw_1371 rfl yo_X12_isPort rfl rfl (Nat.le_of_ble_eq_true rfl) ⟨by decide, by decide⟩ ⟨rfl, rfl⟩ dX12_register_59 ⟨by decide, by decide⟩ ?_
      refine g_if_ne (x := x59) 67 o dX12_register_62 (by decide) (fun u => ?_) (fun u => ?_)
      · rw [if_neg u] at e
        refine g_iinc (k := 2) (v := (v2 + 1)) [(2, .int (v2 + 1)), (0, .ref v0), (1, .int v1)] o dX12_register_67 rfl rfl (by decide) rfl ?_
        refine g_goto 46 o dX12_register_70 (by decide) ?_
        refine g_sb [1, 2, 0] rfl ?_
        exact ih v0 v1 (v2 + 1) h59 r hz q e
      · rw [if_pos u] at e
        refine g_iconst (v := -1) o dX12_register_65 (by decide) ?_
        exact g_iret o dX12_register_66 (rt_v q e)
theorem yo_X12_register : yok yX12_register 0 := ⟨by decide, by decide, by decide +kernel⟩
set_option maxRecDepth 100000 in
set_option maxHeartbeats 4000000 in
theorem mX12_register {l : Launch} {D : va_G} {cy : Nat → ClassId} {f0 : Nat} {a : Nat} {h : Hp} {r : Int32} {hz : Hp} (e : fX12_register f0 a h = some (r, hz)) : MC l D cy yX12_register cX12_register 5 (some .int) rmX12_register [.ref a] h (some (.int r)) hz := by
  refine mc_of2 (by decide) (Nat.le_of_ble_eq_true rfl) (fun X hl hD hy hin o q => ?_)
  subst hl; subst hD; subst hy
  show G X 5 0 [(0, .ref a)] [] h 0 0
  unfold fX12_register at e
  refine g_aload_n 0 o dX12_register_0 rfl rfl ?_
  refine g_iconst (v := 0) o dX12_register_1 (by decide) ?_
  obtain ⟨h2, q2, e⟩ := ob e
  refine g_put (ty1 := .int) 0 o cf12 (by decide) mw_1186 rfl (by decide +kernel) rfl rfl dX12_register_2 q2 ?_
  refine g_aload_n 0 o dX12_register_5 rfl rfl ?_
  refine g_sipush (v := 940) o dX12_register_6 (by decide) ?_
  obtain ⟨_, k9, e⟩ := ob e
  obtain ⟨h9, q9, e⟩ := ob e
  refine g_callV0 [.int 940] o (mX12_taken q9) cf12 (ckO_s k9) mw_1289 mw_1290 mw_1727 mw_19 mw_1291 rfl yo_X12_taken rfl rfl (Nat.le_of_ble_eq_true rfl) ⟨by decide, by decide⟩ ⟨rfl, rfl⟩ dX12_register_9 ⟨by decide, by decide⟩ ?_
  refine g_aload_n 0 o dX12_register_12 rfl rfl ?_
  obtain ⟨x13, q13, e⟩ := ob e
  refine g_getI 3 o cf12 (by decide) mw_1189 dX12_register_13 q13 ?_
  refine g_iconst (v := 2) o dX12_register_16 (by decide) ?_
  obtain ⟨_, z17, e⟩ := ob e
  refine g_irem (x := x13) (y := 2) o dX12_register_17 (nz_s z17) ?_
  refine g_iconst (v := 1) o dX12_register_18 (by decide) ?_
  refine g_icmp_eq (x := (x13 - x13 / 2 * 2)) (y := 1) 35 o dX12_register_19 (by decide) (fun u => ?_) (fun u => ?_)
  · rw [if_pos u] at e
    refine g_iconst (v := -1) o dX12_register_35 (by decide) ?_
    exact g_iret o dX12_register_36 (rt_v q e)
  · rw [if_neg u] at e
    refine g_aload_n 0 o dX12_register_22 rfl rfl ?_
    obtain ⟨x23, q23, e⟩ := ob e
    refine g_getI 3 o cf12 (by decide) mw_1189 dX12_register_23 q23 ?_
    refine g_iconst (v := 4) o dX12_register_26 (by decide) ?_
    refine g_bipush (v := 20) o dX12_register_27 (by decide) ?_
    obtain ⟨x29, h29, q29, e⟩ := ob2_s e
    refine g_callSv [.int x23, .int 4, .int 20] o (mX12_isIn q29) mw_1337 mw_1338 mw_19 mw_1339 yo_X12_isIn rfl rfl (Nat.le_of_ble_eq_true rfl) ⟨by decide, by decide⟩ ⟨rfl, rfl⟩ dX12_register_29 ⟨by decide, by decide⟩ ?_
    refine g_if_ne (x := x29) 37 o dX12_register_32 (by decide) (fun u => ?_) (fun u => ?_)
    · rw [if_neg u] at e
      refine g_aload_n 0 o dX12_register_37 rfl rfl ?_
      obtain ⟨x38, q38, e⟩ := ob e
      refine g_getI 3 o cf12 (by decide) mw_1189 dX12_register_38 q38 ?_
      refine g_iconst (v := 2) o dX12_register_41 (by decide) ?_
      obtain ⟨_, z42, e⟩ := ob e
      refine g_idiv (x := x38) (y := 2) o dX12_register_42 (nz_s z42) ?_
      refine g_istore_n [(1, .int (x38 / 2)), (0, .ref a)] o dX12_register_43 rfl (by decide) rfl ?_
      refine g_iconst (v := 0) o dX12_register_44 (by decide) ?_
      refine g_istore_n [(2, .int 0), (1, .int (x38 / 2)), (0, .ref a)] o dX12_register_45 rfl (by decide) rfl ?_
      refine g_sb [2, 1, 0] rfl ?_
      exact kX12_register_46 f0 o f0 a (x38 / 2) 0 h29 r hz q e
    · rw [if_pos u] at e
      refine g_iconst (v := -1) o dX12_register_35 (by decide) ?_
      exact g_iret o dX12_register_36 (rt_v q e)
theorem yo_X12_lacks : yok yX12_lacks 1 := ⟨by decide, by decide, by decide +kernel⟩
set_option maxRecDepth 100000 in
set_option maxHeartbeats 4000000 in
theorem mX12_lacks {l : Launch} {D : va_G} {cy : Nat → ClassId} {f0 : Nat} {a : Nat} {p0 : Int32} {h : Hp} {r : Int32} {hz : Hp} (e : fX12_lacks f0 a p0 h = some (r, hz)) : MC l D cy yX12_lacks cX12_lacks 2 (some .int) rmX12_lacks [.ref a, .int p0] h (some (.int r)) hz := by
  refine mc_of2 (by decide) (Nat.le_of_ble_eq_true rfl) (fun X hl hD hy hin o q => ?_)
  subst hl; subst hD; subst hy
  show G X 2 0 [(0, .ref a), (1, .int p0)] [] h 0 0
  unfold fX12_lacks at e
  refine g_aload_n 0 o dX12_lacks_0 rfl rfl ?_
  refine g_iconst (v := 0) o dX12_lacks_1 (by decide) ?_
  obtain ⟨h2, q2, e⟩ := ob e
  refine g_put (ty1 := .int) 0 o cf12 (by decide) mw_1186 rfl (by decide +kernel) rfl rfl dX12_lacks_2 q2 ?_
  refine g_aload_n 0 o dX12_lacks_5 rfl rfl ?_
  refine g_iload_n 1 o dX12_lacks_6 rfl rfl ?_
  obtain ⟨_, k7, e⟩ := ob e
  obtain ⟨x7, h7, q7, e⟩ := ob2_s e
  refine g_callVv [.int p0] o (mX12_isShip q7) cf12 (ckO_s k7) mw_1399 mw_1400 mw_1753 mw_19 mw_1401 rfl yo_X12_isShip rfl rfl (Nat.le_of_ble_eq_true rfl) ⟨by decide, by decide⟩ ⟨rfl, rfl⟩ dX12_lacks_7 ⟨by decide, by decide⟩ ?_
  refine g_if_eq (x := x7) 21 o dX12_lacks_10 (by decide) (fun u => ?_) (fun u => ?_)
  · rw [if_pos u] at e
    refine g_iconst (v := -1) o dX12_lacks_21 (by decide) ?_
    exact g_iret o dX12_lacks_22 (rt_v q e)
  · rw [if_neg u] at e
    refine g_aload_n 0 o dX12_lacks_13 rfl rfl ?_
    refine g_iload_n 1 o dX12_lacks_14 rfl rfl ?_
    obtain ⟨_, k15, e⟩ := ob e
    obtain ⟨x15, h15, q15, e⟩ := ob2_s e
    refine g_callVv [.int p0] o (mX12_lacksOf q15) cf12 (ckO_s k15) mw_1419 mw_1420 mw_1757 mw_19 mw_1421 rfl yo_X12_lacksOf rfl rfl (Nat.le_of_ble_eq_true rfl) ⟨by decide, by decide⟩ ⟨rfl, rfl⟩ dX12_lacks_15 ⟨by decide, by decide⟩ ?_
    refine g_goto 22 o dX12_lacks_18 (by decide) ?_
    exact g_iret o dX12_lacks_22 (rt_v q e)
theorem yo_X12_plays : yok yX12_plays 2 := ⟨by decide, by decide, by decide +kernel⟩
set_option maxRecDepth 100000 in
set_option maxHeartbeats 4000000 in
theorem mX12_plays {l : Launch} {D : va_G} {cy : Nat → ClassId} {f0 : Nat} {a : Nat} {p0 : Int32} {p1 : Int32} {h : Hp} {r : Int32} {hz : Hp} (e : fX12_plays f0 a p0 p1 h = some (r, hz)) : MC l D cy yX12_plays cX12_plays 3 (some .int) rmX12_plays [.ref a, .int p0, .int p1] h (some (.int r)) hz := by
  refine mc_of2 (by decide) (Nat.le_of_ble_eq_true rfl) (fun X hl hD hy hin o q => ?_)
  subst hl; subst hD; subst hy
  show G X 3 0 [(0, .ref a), (1, .int p0), (2, .int p1)] [] h 0 0
  unfold fX12_plays at e
  refine g_aload_n 0 o dX12_plays_0 rfl rfl ?_
  refine g_iconst (v := 0) o dX12_plays_1 (by decide) ?_
  obtain ⟨h2, q2, e⟩ := ob e
  refine g_put (ty1 := .int) 0 o cf12 (by decide) mw_1186 rfl (by decide +kernel) rfl rfl dX12_plays_2 q2 ?_
  refine g_aload_n 0 o dX12_plays_5 rfl rfl ?_
  refine g_iload_n 1 o dX12_plays_6 rfl rfl ?_
  obtain ⟨_, k7, e⟩ := ob e
  obtain ⟨x7, h7, q7, e⟩ := ob2_s e
  refine g_callVv [.int p0] o (mX12_isShip q7) cf12 (ckO_s k7) mw_1399 mw_1400 mw_1753 mw_19 mw_1401 rfl yo_X12_isShip rfl rfl (Nat.le_of_ble_eq_true rfl) ⟨by decide, by decide⟩ ⟨rfl, rfl⟩ dX12_plays_7 ⟨by decide, by decide⟩ ?_
  refine g_if_eq (x := x7) 21 o dX12_plays_10 (by decide) (fun u => ?_) (fun u => ?_)
  · rw [if_pos u] at e
    refine g_iconst (v := -1) o dX12_plays_21 (by decide) ?_
    exact g_iret o dX12_plays_22 (rt_v q e)
  · rw [if_neg u] at e
    refine g_aload_n 0 o dX12_plays_13 rfl rfl ?_
    refine g_iload_n 1 o dX12_plays_14 rfl rfl ?_
    obtain ⟨_, k15, e⟩ := ob e
    obtain ⟨x15, h15, q15, e⟩ := ob2_s e
    refine g_callVv [.int p0] o (mX12_lacksOf q15) cf12 (ckO_s k15) mw_1419 mw_1420 mw_1757 mw_19 mw_1421 rfl yo_X12_lacksOf rfl rfl (Nat.le_of_ble_eq_true rfl) ⟨by decide, by decide⟩ ⟨rfl, rfl⟩ dX12_plays_15 ⟨by decide, by decide⟩ ?_
    refine g_if_ge (x := x15) 23 o dX12_plays_18 (by decide) (fun u => ?_) (fun u => ?_)
    · rw [if_pos u] at e
      refine g_iload_n 2 o dX12_plays_23 rfl rfl ?_
      refine g_iconst (v := 0) o dX12_plays_24 (by decide) ?_
      refine g_aload_n 0 o dX12_plays_25 rfl rfl ?_
      obtain ⟨x26, q26, e⟩ := ob e
      refine g_getI 26 o cf12 (by decide) mw_1212 dX12_plays_26 q26 ?_
      refine g_iconst (v := 1) o dX12_plays_29 (by decide) ?_
      refine g_isub (x := x26) (y := 1) o dX12_plays_30 ?_
      obtain ⟨x31, h31, q31, e⟩ := ob2_s e
      refine g_callSv [.int p1, .int 0, .int (x26 - 1)] o (mX12_isIn q31) mw_1337 mw_1338 mw_19 mw_1339 yo_X12_isIn rfl rfl (Nat.le_of_ble_eq_true rfl) ⟨by decide, by decide⟩ ⟨rfl, rfl⟩ dX12_plays_31 ⟨by decide, by decide⟩ ?_
      refine g_if_eq (x := x31) 46 o dX12_plays_34 (by decide) (fun u => ?_) (fun u => ?_)
      · rw [if_pos u] at e
        refine g_iconst (v := -1) o dX12_plays_46 (by decide) ?_
        exact g_iret o dX12_plays_47 (rt_v q e)
      · rw [if_neg u] at e
        refine g_aload_n 0 o dX12_plays_37 rfl rfl ?_
        obtain ⟨x38, q38, e⟩ := ob e
        refine g_getN 23 o cf12 (by decide) mw_1209 dX12_plays_38 q38 ?_
        refine g_iload_n 2 o dX12_plays_41 rfl rfl ?_
        obtain ⟨x42, q42, e⟩ := ob e
        refine g_iald o dX12_plays_42 q42 ?_
        refine g_goto 47 o dX12_plays_43 (by decide) ?_
        exact g_iret o dX12_plays_47 (rt_v q e)
    · rw [if_neg u] at e
      refine g_iconst (v := -1) o dX12_plays_21 (by decide) ?_
      exact g_iret o dX12_plays_22 (rt_v q e)
theorem yo_X12_man : yok yX12_man 1 := ⟨by decide, by decide, by decide +kernel⟩
set_option maxRecDepth 100000 in
set_option maxHeartbeats 4000000 in
theorem mX12_man {l : Launch} {D : va_G} {cy : Nat → ClassId} {f0 : Nat} {a : Nat} {p0 : Int32} {h : Hp} {r : Int32} {hz : Hp} (e : fX12_man f0 a p0 h = some (r, hz)) : MC l D cy yX12_man cX12_man 2 (some .int) rmX12_man [.ref a, .int p0] h (some (.int r)) hz := by
  refine mc_of2 (by decide) (Nat.le_of_ble_eq_true rfl) (fun X hl hD hy hin o q => ?_)
  subst hl; subst hD; subst hy
  show G X 2 0 [(0, .ref a), (1, .int p0)] [] h 0 0
  unfold fX12_man at e
  refine g_aload_n 0 o dX12_man_0 rfl rfl ?_
  refine g_iconst (v := 0) o dX12_man_1 (by decide) ?_
  obtain ⟨h2, q2, e⟩ := ob e
  refine g_put (ty1 := .int) 0 o cf12 (by decide) mw_1186 rfl (by decide +kernel) rfl rfl dX12_man_2 q2 ?_
  refine g_aload_n 0 o dX12_man_5 rfl rfl ?_
  refine g_iload_n 1 o dX12_man_6 rfl rfl ?_
  obtain ⟨_, k7, e⟩ := ob e
  obtain ⟨x7, h7, q7, e⟩ := ob2_s e
  refine g_callVv [.int p0] o (mX12_isMan q7) cf12 (ckO_s k7) mw_1471 mw_1472 mw_1769 mw_19 mw_1473 rfl yo_X12_isMan rfl rfl (Nat.le_of_ble_eq_true rfl) ⟨by decide, by decide⟩ ⟨rfl, rfl⟩ dX12_man_7 ⟨by decide, by decide⟩ ?_
  refine g_if_eq (x := x7) 26 o dX12_man_10 (by decide) (fun u => ?_) (fun u => ?_)
  · rw [if_pos u] at e
    refine g_iconst (v := -1) o dX12_man_26 (by decide) ?_
    exact g_iret o dX12_man_27 (rt_v q e)
  · rw [if_neg u] at e
    refine g_aload_n 0 o dX12_man_13 rfl rfl ?_
    obtain ⟨x14, q14, e⟩ := ob e
    refine g_getN 6 o cf12 (by decide) mw_1192 dX12_man_14 q14 ?_
    refine g_sipush (v := 328) o dX12_man_17 (by decide) ?_
    refine g_iload_n 1 o dX12_man_20 rfl rfl ?_
    refine g_iadd (x := (328 : Int32)) (y := p0) o dX12_man_21 ?_
    obtain ⟨x22, q22, e⟩ := ob e
    refine g_iald o dX12_man_22 q22 ?_
    refine g_goto 27 o dX12_man_23 (by decide) ?_
    exact g_iret o dX12_man_27 (rt_v q e)
theorem yo_X12_needs : yok yX12_needs 1 := ⟨by decide, by decide, by decide +kernel⟩
set_option maxRecDepth 100000 in
set_option maxHeartbeats 4000000 in
theorem mX12_needs {l : Launch} {D : va_G} {cy : Nat → ClassId} {f0 : Nat} {a : Nat} {p0 : Int32} {h : Hp} {r : Int32} {hz : Hp} (e : fX12_needs f0 a p0 h = some (r, hz)) : MC l D cy yX12_needs cX12_needs 2 (some .int) rmX12_needs [.ref a, .int p0] h (some (.int r)) hz := by
  refine mc_of2 (by decide) (Nat.le_of_ble_eq_true rfl) (fun X hl hD hy hin o q => ?_)
  subst hl; subst hD; subst hy
  show G X 2 0 [(0, .ref a), (1, .int p0)] [] h 0 0
  unfold fX12_needs at e
  refine g_aload_n 0 o dX12_needs_0 rfl rfl ?_
  refine g_iconst (v := 0) o dX12_needs_1 (by decide) ?_
  obtain ⟨h2, q2, e⟩ := ob e
  refine g_put (ty1 := .int) 0 o cf12 (by decide) mw_1186 rfl (by decide +kernel) rfl rfl dX12_needs_2 q2 ?_
  refine g_aload_n 0 o dX12_needs_5 rfl rfl ?_
  refine g_iload_n 1 o dX12_needs_6 rfl rfl ?_
  obtain ⟨_, k7, e⟩ := ob e
  obtain ⟨x7, h7, q7, e⟩ := ob2_s e
  refine g_callVv [.int p0] o (mX12_isShip q7) cf12 (ckO_s k7) mw_1399 mw_1400 mw_1753 mw_19 mw_1401 rfl yo_X12_isShip rfl rfl (Nat.le_of_ble_eq_true rfl) ⟨by decide, by decide⟩ ⟨rfl, rfl⟩ dX12_needs_7 ⟨by decide, by decide⟩ ?_
  refine g_if_eq (x := x7) 26 o dX12_needs_10 (by decide) (fun u => ?_) (fun u => ?_)
  · rw [if_pos u] at e
    refine g_iconst (v := -1) o dX12_needs_26 (by decide) ?_
    exact g_iret o dX12_needs_27 (rt_v q e)
  · rw [if_neg u] at e
    refine g_aload_n 0 o dX12_needs_13 rfl rfl ?_
    obtain ⟨x14, q14, e⟩ := ob e
    refine g_getN 6 o cf12 (by decide) mw_1192 dX12_needs_14 q14 ?_
    refine g_sipush (v := 264) o dX12_needs_17 (by decide) ?_
    refine g_iload_n 1 o dX12_needs_20 rfl rfl ?_
    refine g_iadd (x := (264 : Int32)) (y := p0) o dX12_needs_21 ?_
    obtain ⟨x22, q22, e⟩ := ob e
    refine g_iald o dX12_needs_22 q22 ?_
    refine g_goto 27 o dX12_needs_23 (by decide) ?_
    exact g_iret o dX12_needs_27 (rt_v q e)
set_option maxRecDepth 100000 in
set_option maxHeartbeats 4000000 in
theorem kX12_lettersOf_4 {X : Cx} (f0 : Nat) (o : Ok X cX12_lettersOf RX12 5 rmX12_lettersOf (some .int)) (f : Nat) (v2 : Int32) (v3 : Int64) (h : Hp) (r : Int32) (hz : Hp) (q : Rt X (some (.int r)) hz 0 0) (e : bX12_lettersOf_4 f0 f v2 v3 h = some (r, hz)) : G X 5 4 [(2, .int v2), (3, .long v3)] [] h 0 0 := by
  induction f generalizing v2 v3 h r hz with
  | zero => cases e
  | succ f1 ih =>
    unfold bX12_lettersOf_4 at e
    refine g_lload_n 1 o dX12_lettersOf_4 rfl rfl ?_
    refine g_lconst (v := 0) o dX12_lettersOf_5 (by decide) ?_
    refine g_lcmp (x := v3) (y := 0) o dX12_lettersOf_6 ?_
    refine g_if_eq (x := (lg_cmp v3 0)) 21 o dX12_lettersOf_7 (by decide) (fun u => ?_) (fun u => ?_)
    · rw [if_pos u] at e
      refine g_iload_n 0 o dX12_lettersOf_21 rfl rfl ?_
      exact g_iret o dX12_lettersOf_22 (rt_v q e)
    · rw [if_neg u] at e
      refine g_iinc (k := 0) (v := (v2 + 1)) [(2, .int (v2 + 1)), (3, .long v3)] o dX12_lettersOf_10 rfl rfl (by decide) rfl ?_
      refine g_lload_n 1 o dX12_lettersOf_13 rfl rfl ?_
      refine g_bipush (v := 8) o dX12_lettersOf_14 (by decide) ?_
      refine g_lushr (x := v3) (y := 8) o dX12_lettersOf_16 ?_
      refine g_lstore_n [(3, .long ((Int64.toUInt64 v3 >>> ((Int32.toInt64 8).toUInt64 &&& Int64.toUInt64 63)).toInt64)), (2, .int (v2 + 1))] o dX12_lettersOf_17 rfl (by decide) rfl ?_
      refine g_goto 4 o dX12_lettersOf_18 (by decide) ?_
      refine g_sb [1, 0] rfl ?_
      exact ih (v2 + 1) ((Int64.toUInt64 v3 >>> ((Int32.toInt64 8).toUInt64 &&& Int64.toUInt64 63)).toInt64) h r hz q e
theorem yo_X12_lettersOf : yok yX12_lettersOf 1 := ⟨by decide, by decide, by decide +kernel⟩
set_option maxRecDepth 100000 in
set_option maxHeartbeats 4000000 in
theorem mX12_lettersOf {l : Launch} {D : va_G} {cy : Nat → ClassId} {f0 : Nat} {p0 : Int64} {h : Hp} {r : Int32} {hz : Hp} (e : fX12_lettersOf f0 p0 h = some (r, hz)) : MC l D cy yX12_lettersOf cX12_lettersOf 5 (some .int) rmX12_lettersOf [.long p0] h (some (.int r)) hz := by
  refine mc_of2 (by decide) (Nat.le_of_ble_eq_true rfl) (fun X hl hD hy hin o q => ?_)
  subst hl; subst hD; subst hy
  show G X 5 0 [(0, .long p0)] [] h 0 0
  unfold fX12_lettersOf at e
  refine g_iconst (v := 0) o dX12_lettersOf_0 (by decide) ?_
  refine g_istore_n [(2, .int 0), (0, .long p0)] o dX12_lettersOf_1 rfl (by decide) rfl ?_
  refine g_lload_n 1 o dX12_lettersOf_2 rfl rfl ?_
  refine g_lstore_n [(3, .long p0), (2, .int 0), (0, .long p0)] o dX12_lettersOf_3 rfl (by decide) rfl ?_
  refine g_sb [1, 0] rfl ?_
  exact kX12_lettersOf_4 f0 o f0 0 p0 h r hz q e
theorem yo_X12_letterOf : yok yX12_letterOf 2 := ⟨by decide, by decide, by decide +kernel⟩
set_option maxRecDepth 100000 in
set_option maxHeartbeats 4000000 in
theorem mX12_letterOf {l : Launch} {D : va_G} {cy : Nat → ClassId} {f0 : Nat} {p0 : Int64} {p1 : Int32} {h : Hp} {r : Int32} {hz : Hp} (e : fX12_letterOf f0 p0 p1 h = some (r, hz)) : MC l D cy yX12_letterOf cX12_letterOf 3 (some .int) rmX12_letterOf [.long p0, .int p1] h (some (.int r)) hz := by
  refine mc_of2 (by decide) (Nat.le_of_ble_eq_true rfl) (fun X hl hD hy hin o q => ?_)
  subst hl; subst hD; subst hy
  show G X 3 0 [(0, .long p0), (2, .int p1)] [] h 0 0
  unfold fX12_letterOf at e
  refine g_lload_n 0 o dX12_letterOf_0 rfl rfl ?_
  refine g_bipush (v := 8) o dX12_letterOf_1 (by decide) ?_
  refine g_lload_n 0 o dX12_letterOf_3 rfl rfl ?_
  obtain ⟨x4, h4, q4, e⟩ := ob2_s e
  refine g_callSv [.long p0] o (mX12_lettersOf q4) mw_1564 mw_1565 mw_19 mw_1566 yo_X12_lettersOf rfl rfl (Nat.le_of_ble_eq_true rfl) ⟨by decide, by decide⟩ ⟨rfl, rfl⟩ dX12_letterOf_4 ⟨by decide, by decide⟩ ?_
  refine g_iconst (v := 1) o dX12_letterOf_7 (by decide) ?_
  refine g_isub (x := x4) (y := 1) o dX12_letterOf_8 ?_
  refine g_iload_n 1 o dX12_letterOf_9 rfl rfl ?_
  refine g_isub (x := (x4 - 1)) (y := p1) o dX12_letterOf_10 ?_
  refine g_imul (x := (8 : Int32)) (y := ((x4 - 1) - p1)) o dX12_letterOf_11 ?_
  refine g_lshr (x := p0) (y := ((8 : Int32) * ((x4 - 1) - p1))) o dX12_letterOf_12 ?_
  refine g_l2i (x := (p0 >>> (Int32.toInt64 ((8 : Int32) * ((x4 - 1) - p1)) &&& 63))) o dX12_letterOf_13 ?_
  refine g_sipush (v := 255) o dX12_letterOf_14 (by decide) ?_
  refine g_iand (x := (Int64.toInt32 (p0 >>> (Int32.toInt64 ((8 : Int32) * ((x4 - 1) - p1)) &&& 63)))) (y := 255) o dX12_letterOf_17 ?_
  exact g_iret o dX12_letterOf_18 (rt_v q e)
set_option maxRecDepth 100000 in
set_option maxHeartbeats 4000000 in
theorem kX12_overOf_90 {X : Cx} (f0 : Nat) (g41 : Nat → Int64 → Int64 → Int32 → Int64 → Int32 → Hp → Option (Int32 × Hp)) (i41 : ∀ (v02 : Nat) (v32 : Int64) (v52 : Int64) (v72 : Int32) (v82 : Int64) (v102 : Int32) (h2 : Hp) (r : Int32) (hz : Hp), Rt X (some (.int r)) hz 0 0 → g41 v02 v32 v52 v72 v82 v102 h2 = some (r, hz) → G X 13 41 [(0, .ref v02), (3, .long v32), (5, .long v52), (7, .int v72), (8, .long v82), (10, .int v102)] [] h2 0 0) (o : Ok X cX12_overOf RX12 13 rmX12_overOf (some .int)) (v0 : Nat) (v3 : Int64) (v5 : Int64) (v7 : Int32) (v8 : Int64) (v10 : Int32) (v11 : Int32) (s0 : Int32) (h : Hp) (r : Int32) (hz : Hp) (q : Rt X (some (.int r)) hz 0 0) (e : bX12_overOf_90 f0 g41 v0 v3 v5 v7 v8 v10 v11 s0 h = some (r, hz)) : G X 13 90 [(0, .ref v0), (3, .long v3), (5, .long v5), (7, .int v7), (8, .long v8), (10, .int v10), (11, .int v11)] [.int s0] h 0 0 := by
  unfold bX12_overOf_90 at e
  refine g_istore [(12, .int s0), (0, .ref v0), (3, .long v3), (5, .long v5), (7, .int v7), (8, .long v8), (10, .int v10), (11, .int v11)] o dX12_overOf_90 (by decide) rfl ?_
  refine g_lload 5 o dX12_overOf_92 rfl ?_
  refine g_bipush (v := 8) o dX12_overOf_94 (by decide) ?_
  refine g_lshl (x := v8) (y := 8) o dX12_overOf_96 ?_
  refine g_iload 7 o dX12_overOf_97 rfl ?_
  refine g_iload 0 o dX12_overOf_99 rfl ?_
  obtain ⟨x101, h101, q101, e⟩ := ob2_s e
  refine g_callSv [.int v11, .int s0] o (mX12_greater q101) mw_1538 mw_1539 mw_19 mw_1540 yo_X12_greater rfl rfl (Nat.le_of_ble_eq_true rfl) ⟨by decide, by decide⟩ ⟨rfl, rfl⟩ dX12_overOf_101 ⟨by decide, by decide⟩ ?_
  refine g_i2l (x := x101) o dX12_overOf_104 ?_
  refine g_lor (x := (v8 <<< (Int32.toInt64 8 &&& 63))) (y := (Int32.toInt64 x101)) o dX12_overOf_105 ?_
  refine g_lstore [(8, .long ((v8 <<< (Int32.toInt64 8 &&& 63)) ||| (Int32.toInt64 x101))), (12, .int s0), (0, .ref v0), (3, .long v3), (5, .long v5), (7, .int v7), (10, .int v10), (11, .int v11)] o dX12_overOf_106 (by decide) rfl ?_
  refine g_iinc (k := 6) (v := (v10 + 1)) [(10, .int (v10 + 1)), (8, .long ((v8 <<< (Int32.toInt64 8 &&& 63)) ||| (Int32.toInt64 x101))), (12, .int s0), (0, .ref v0), (3, .long v3), (5, .long v5), (7, .int v7), (11, .int v11)] o dX12_overOf_108 rfl rfl (by decide) rfl ?_
  refine g_goto 41 o dX12_overOf_111 (by decide) ?_
  refine g_sb [3, 4, 5, 6, 1, 0] rfl ?_
  exact i41 v0 v3 v5 v7 ((v8 <<< (Int32.toInt64 8 &&& 63)) ||| (Int32.toInt64 x101)) (v10 + 1) h101 r hz q e
set_option maxRecDepth 100000 in
set_option maxHeartbeats 4000000 in
theorem kX12_overOf_67 {X : Cx} (f0 : Nat) (g41 : Nat → Int64 → Int64 → Int32 → Int64 → Int32 → Hp → Option (Int32 × Hp)) (i41 : ∀ (v02 : Nat) (v32 : Int64) (v52 : Int64) (v72 : Int32) (v82 : Int64) (v102 : Int32) (h2 : Hp) (r : Int32) (hz : Hp), Rt X (some (.int r)) hz 0 0 → g41 v02 v32 v52 v72 v82 v102 h2 = some (r, hz) → G X 13 41 [(0, .ref v02), (3, .long v32), (5, .long v52), (7, .int v72), (8, .long v82), (10, .int v102)] [] h2 0 0) (o : Ok X cX12_overOf RX12 13 rmX12_overOf (some .int)) (v0 : Nat) (v3 : Int64) (v5 : Int64) (v7 : Int32) (v8 : Int64) (v10 : Int32) (s0 : Int32) (h : Hp) (r : Int32) (hz : Hp) (q : Rt X (some (.int r)) hz 0 0) (e : bX12_overOf_67 f0 g41 v0 v3 v5 v7 v8 v10 s0 h = some (r, hz)) : G X 13 67 [(0, .ref v0), (3, .long v3), (5, .long v5), (7, .int v7), (8, .long v8), (10, .int v10)] [.int s0] h 0 0 := by
  unfold bX12_overOf_67 at e
  refine g_istore [(11, .int s0), (0, .ref v0), (3, .long v3), (5, .long v5), (7, .int v7), (8, .long v8), (10, .int v10)] o dX12_overOf_67 (by decide) rfl ?_
  refine g_iload 6 o dX12_overOf_69 rfl ?_
  refine g_lload 3 o dX12_overOf_71 rfl ?_
  obtain ⟨x73, h73, q73, e⟩ := ob2_s e
  refine g_callSv [.long v5] o (mX12_lettersOf q73) mw_1564 mw_1565 mw_19 mw_1566 yo_X12_lettersOf rfl rfl (Nat.le_of_ble_eq_true rfl) ⟨by decide, by decide⟩ ⟨rfl, rfl⟩ dX12_overOf_73 ⟨by decide, by decide⟩ ?_
  refine g_icmp_ge (x := v10) (y := x73) 89 o dX12_overOf_76 (by decide) (fun u => ?_) (fun u => ?_)
  · rw [if_pos u] at e
    refine g_iconst (v := 0) o dX12_overOf_89 (by decide) ?_
    refine g_sb [1, 2, 3, 4, 5, 6, 0] rfl ?_
    exact kX12_overOf_90 f0 g41 i41 o v0 v3 v5 v7 v8 v10 s0 0 h73 r hz q e
  · rw [if_neg u] at e
    refine g_lload 3 o dX12_overOf_79 rfl ?_
    refine g_iload 6 o dX12_overOf_81 rfl ?_
    obtain ⟨x83, h83, q83, e⟩ := ob2_s e
    refine g_callSv [.long v5, .int v10] o (mX12_letterOf q83) mw_1567 mw_1568 mw_19 mw_1569 yo_X12_letterOf rfl rfl (Nat.le_of_ble_eq_true rfl) ⟨by decide, by decide⟩ ⟨rfl, rfl⟩ dX12_overOf_83 ⟨by decide, by decide⟩ ?_
    refine g_goto 90 o dX12_overOf_86 (by decide) ?_
    refine g_sb [1, 2, 3, 4, 5, 6, 0] rfl ?_
    exact kX12_overOf_90 f0 g41 i41 o v0 v3 v5 v7 v8 v10 s0 x83 h83 r hz q e
set_option maxRecDepth 100000 in
set_option maxHeartbeats 4000000 in
theorem kX12_overOf_117 {X : Cx} (f0 : Nat) (o : Ok X cX12_overOf RX12 13 rmX12_overOf (some .int)) (f : Nat) (v0 : Nat) (v8 : Int64) (v10 : Int32) (h : Hp) (r : Int32) (hz : Hp) (q : Rt X (some (.int r)) hz 0 0) (e : bX12_overOf_117 f0 f v0 v8 v10 h = some (r, hz)) : G X 13 117 [(0, .ref v0), (8, .long v8), (10, .int v10)] [] h 0 0 := by
  induction f generalizing v0 v8 v10 h r hz with
  | zero => cases e
  | succ f1 ih =>
    unfold bX12_overOf_117 at e
    refine g_iload 2 o dX12_overOf_117 rfl ?_
    refine g_aload_n 0 o dX12_overOf_119 rfl rfl ?_
    obtain ⟨x120, q120, e⟩ := ob e
    refine g_getN 6 o cf12 (by decide) mw_1192 dX12_overOf_120 q120 ?_
    refine g_iconst (v := 1) o dX12_overOf_123 (by decide) ?_
    obtain ⟨x124, q124, e⟩ := ob e
    refine g_iald o dX12_overOf_124 q124 ?_
    refine g_icmp_ge (x := v10) (y := x124) 153 o dX12_overOf_125 (by decide) (fun u => ?_) (fun u => ?_)
    · rw [if_pos u] at e
      refine g_iconst (v := -1) o dX12_overOf_153 (by decide) ?_
      exact g_iret o dX12_overOf_154 (rt_v q e)
    · rw [if_neg u] at e
      refine g_aload_n 0 o dX12_overOf_128 rfl rfl ?_
      obtain ⟨x129, q129, e⟩ := ob e
      refine g_getN 9 o cf12 (by decide) mw_1195 dX12_overOf_129 q129 ?_
      refine g_bipush (v := 8) o dX12_overOf_132 (by decide) ?_
      refine g_iload 2 o dX12_overOf_134 rfl ?_
      refine g_iadd (x := (8 : Int32)) (y := v10) o dX12_overOf_136 ?_
      obtain ⟨x137, q137, e⟩ := ob e
      refine g_lald o dX12_overOf_137 q137 ?_
      refine g_lload 1 o dX12_overOf_138 rfl ?_
      refine g_lcmp (x := x137) (y := v8) o dX12_overOf_140 ?_
      refine g_if_ne (x := (lg_cmp x137 v8)) 147 o dX12_overOf_141 (by decide) (fun u => ?_) (fun u => ?_)
      · rw [if_neg u] at e
        refine g_iinc (k := 2) (v := (v10 + 1)) [(10, .int (v10 + 1)), (0, .ref v0), (8, .long v8)] o dX12_overOf_147 rfl rfl (by decide) rfl ?_
        refine g_goto 117 o dX12_overOf_150 (by decide) ?_
        refine g_sb [1, 2, 0] rfl ?_
        exact ih v0 v8 (v10 + 1) h r hz q e
      · rw [if_pos u] at e
        refine g_iload 2 o dX12_overOf_144 rfl ?_
        exact g_iret o dX12_overOf_146 (rt_v q e)
set_option maxRecDepth 100000 in
set_option maxHeartbeats 4000000 in
theorem kX12_overOf_41 {X : Cx} (f0 : Nat) (o : Ok X cX12_overOf RX12 13 rmX12_overOf (some .int)) (f : Nat) (v0 : Nat) (v3 : Int64) (v5 : Int64) (v7 : Int32) (v8 : Int64) (v10 : Int32) (h : Hp) (r : Int32) (hz : Hp) (q : Rt X (some (.int r)) hz 0 0) (e : bX12_overOf_41 f0 f v0 v3 v5 v7 v8 v10 h = some (r, hz)) : G X 13 41 [(0, .ref v0), (3, .long v3), (5, .long v5), (7, .int v7), (8, .long v8), (10, .int v10)] [] h 0 0 := by
  induction f generalizing v0 v3 v5 v7 v8 v10 h r hz with
  | zero => cases e
  | succ f1 ih =>
    unfold bX12_overOf_41 at e
    refine g_iload 5 o dX12_overOf_41 rfl ?_
    refine g_iload 3 o dX12_overOf_43 rfl ?_
    refine g_icmp_ge (x := v10) (y := v7) 114 o dX12_overOf_45 (by decide) (fun u => ?_) (fun u => ?_)
    · rw [if_pos u] at e
      refine g_iconst (v := 0) o dX12_overOf_114 (by decide) ?_
      refine g_istore [(10, .int 0), (0, .ref v0), (3, .long v3), (5, .long v5), (7, .int v7), (8, .long v8)] o dX12_overOf_115 (by decide) rfl ?_
      refine g_sb [1, 5, 0] rfl ?_
      exact kX12_overOf_117 f0 o f0 v0 v8 0 h r hz q e
    · rw [if_neg u] at e
      refine g_iload 5 o dX12_overOf_48 rfl ?_
      refine g_lload_n 1 o dX12_overOf_50 rfl rfl ?_
      obtain ⟨x51, h51, q51, e⟩ := ob2_s e
      refine g_callSv [.long v3] o (mX12_lettersOf q51) mw_1564 mw_1565 mw_19 mw_1566 yo_X12_lettersOf rfl rfl (Nat.le_of_ble_eq_true rfl) ⟨by decide, by decide⟩ ⟨rfl, rfl⟩ dX12_overOf_51 ⟨by decide, by decide⟩ ?_
      refine g_icmp_ge (x := v10) (y := x51) 66 o dX12_overOf_54 (by decide) (fun u => ?_) (fun u => ?_)
      · rw [if_pos u] at e
        refine g_iconst (v := 0) o dX12_overOf_66 (by decide) ?_
        exact kX12_overOf_67 f0 (bX12_overOf_41 f0 f1) ih o v0 v3 v5 v7 v8 v10 0 h51 r hz q e
      · rw [if_neg u] at e
        refine g_lload_n 1 o dX12_overOf_57 rfl rfl ?_
        refine g_iload 5 o dX12_overOf_58 rfl ?_
        obtain ⟨x60, h60, q60, e⟩ := ob2_s e
        refine g_callSv [.long v3, .int v10] o (mX12_letterOf q60) mw_1567 mw_1568 mw_19 mw_1569 yo_X12_letterOf rfl rfl (Nat.le_of_ble_eq_true rfl) ⟨by decide, by decide⟩ ⟨rfl, rfl⟩ dX12_overOf_60 ⟨by decide, by decide⟩ ?_
        refine g_goto 67 o dX12_overOf_63 (by decide) ?_
        exact kX12_overOf_67 f0 (bX12_overOf_41 f0 f1) ih o v0 v3 v5 v7 v8 v10 x60 h60 r hz q e
theorem yo_X12_overOf : yok yX12_overOf 2 := ⟨by decide, by decide, by decide +kernel⟩
set_option maxRecDepth 100000 in
set_option maxHeartbeats 4000000 in
theorem mX12_overOf {l : Launch} {D : va_G} {cy : Nat → ClassId} {f0 : Nat} {a : Nat} {p0 : Int32} {p1 : Int32} {h : Hp} {r : Int32} {hz : Hp} (e : fX12_overOf f0 a p0 p1 h = some (r, hz)) : MC l D cy yX12_overOf cX12_overOf 13 (some .int) rmX12_overOf [.ref a, .int p0, .int p1] h (some (.int r)) hz := by
  refine mc_of2 (by decide) (Nat.le_of_ble_eq_true rfl) (fun X hl hD hy hin o q => ?_)
  subst hl; subst hD; subst hy
  show G X 13 0 [(0, .ref a), (1, .int p0), (2, .int p1)] [] h 0 0
  unfold fX12_overOf at e
  refine g_aload_n 0 o dX12_overOf_0 rfl rfl ?_
  obtain ⟨x1, q1, e⟩ := ob e
  refine g_getN 9 o cf12 (by decide) mw_1195 dX12_overOf_1 q1 ?_
  refine g_bipush (v := 8) o dX12_overOf_4 (by decide) ?_
  refine g_iload_n 1 o dX12_overOf_6 rfl rfl ?_
  refine g_iadd (x := (8 : Int32)) (y := p0) o dX12_overOf_7 ?_
  obtain ⟨x8, q8, e⟩ := ob e
  refine g_lald o dX12_overOf_8 q8 ?_
  refine g_lstore_n [(3, .long x8), (0, .ref a), (1, .int p0), (2, .int p1)] o dX12_overOf_9 rfl (by decide) rfl ?_
  refine g_aload_n 1 o dX12_overOf_10 rfl rfl ?_
  obtain ⟨x11, q11, e⟩ := ob e
  refine g_getN 9 o cf12 (by decide) mw_1195 dX12_overOf_11 q11 ?_
  refine g_bipush (v := 8) o dX12_overOf_14 (by decide) ?_
  refine g_iload_n 3 o dX12_overOf_16 rfl rfl ?_
  refine g_iadd (x := (8 : Int32)) (y := p1) o dX12_overOf_17 ?_
  obtain ⟨x18, q18, e⟩ := ob e
  refine g_lald o dX12_overOf_18 q18 ?_
  refine g_lstore [(5, .long x18), (3, .long x8), (0, .ref a), (1, .int p0), (2, .int p1)] o dX12_overOf_19 (by decide) rfl ?_
  refine g_lload_n 1 o dX12_overOf_21 rfl rfl ?_
  obtain ⟨x22, h22, q22, e⟩ := ob2_s e
  refine g_callSv [.long x8] o (mX12_lettersOf q22) mw_1564 mw_1565 mw_19 mw_1566 yo_X12_lettersOf rfl rfl (Nat.le_of_ble_eq_true rfl) ⟨by decide, by decide⟩ ⟨rfl, rfl⟩ dX12_overOf_22 ⟨by decide, by decide⟩ ?_
  refine g_lload 0 o dX12_overOf_25 rfl ?_
  obtain ⟨x27, h27, q27, e⟩ := ob2_s e
  refine g_callSv [.long x18] o (mX12_lettersOf q27) mw_1564 mw_1565 mw_19 mw_1566 yo_X12_lettersOf rfl rfl (Nat.le_of_ble_eq_true rfl) ⟨by decide, by decide⟩ ⟨rfl, rfl⟩ dX12_overOf_27 ⟨by decide, by decide⟩ ?_
  obtain ⟨x30, h30, q30, e⟩ := ob2_s e
  refine g_callSv [.int x22, .int x27] o (mX12_greater q30) mw_1538 mw_1539 mw_19 mw_1540 yo_X12_greater rfl rfl (Nat.le_of_ble_eq_true rfl) ⟨by decide, by decide⟩ ⟨rfl, rfl⟩ dX12_overOf_30 ⟨by decide, by decide⟩ ?_
  refine g_istore [(7, .int x30), (5, .long x18), (3, .long x8), (0, .ref a), (1, .int p0), (2, .int p1)] o dX12_overOf_33 (by decide) rfl ?_
  refine g_lconst (v := 0) o dX12_overOf_35 (by decide) ?_
  refine g_lstore [(8, .long 0), (7, .int x30), (5, .long x18), (3, .long x8), (0, .ref a), (1, .int p0), (2, .int p1)] o dX12_overOf_36 (by decide) rfl ?_
  refine g_iconst (v := 0) o dX12_overOf_38 (by decide) ?_
  refine g_istore [(10, .int 0), (8, .long 0), (7, .int x30), (5, .long x18), (3, .long x8), (0, .ref a), (1, .int p0), (2, .int p1)] o dX12_overOf_39 (by decide) rfl ?_
  refine g_sb [5, 4, 3, 2, 1, 0] rfl ?_
  exact kX12_overOf_41 f0 o f0 a x8 x18 x30 0 0 h30 r hz q e
