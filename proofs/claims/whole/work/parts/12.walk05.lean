set_option maxRecDepth 100000 in
set_option maxHeartbeats 4000000 in
theorem kX5_areApart_40 {X : Cx} (f0 : Nat) (g2 : Nat → Int32 → Int32 → Int32 → Hp → Option (Int32 × Hp)) (i2 : ∀ (v02 : Nat) (v12 : Int32) (v22 : Int32) (v32 : Int32) (h2 : Hp) (r : Int32) (hz : Hp), Rt X (some (.int r)) hz 0 0 → g2 v02 v12 v22 v32 h2 = some (r, hz) → G X 5 2 [(0, .ref v02), (1, .int v12), (2, .int v22), (3, .int v32)] [] h2 0 0) (o : Ok X cX5_areApart RX5 5 rmX5_areApart (some .boolean)) (v0 : Nat) (v1 : Int32) (v2 : Int32) (v3 : Int32) (h : Hp) (r : Int32) (hz : Hp) (q : Rt X (some (.int r)) hz 0 0) (e : bX5_areApart_40 f0 g2 v0 v1 v2 v3 h = some (r, hz)) : G X 5 40 [(0, .ref v0), (1, .int v1), (2, .int v2), (3, .int v3)] [] h 0 0 := by
  unfold bX5_areApart_40 at e
  refine g_iinc (k := 3) (v := (v3 + 1)) [(3, .int (v3 + 1)), (0, .ref v0), (1, .int v1), (2, .int v2)] o dX5_areApart_40 rfl rfl (by decide) rfl ?_
  refine g_goto 2 o dX5_areApart_43 (by decide) ?_
  refine g_sb [1, 2, 3, 0] rfl ?_
  exact i2 v0 v1 v2 (v3 + 1) h r hz q e
set_option maxRecDepth 100000 in
set_option maxHeartbeats 4000000 in
theorem kX5_areApart_2 {X : Cx} (f0 : Nat) (o : Ok X cX5_areApart RX5 5 rmX5_areApart (some .boolean)) (f : Nat) (v0 : Nat) (v1 : Int32) (v2 : Int32) (v3 : Int32) (h : Hp) (r : Int32) (hz : Hp) (q : Rt X (some (.int r)) hz 0 0) (e : bX5_areApart_2 f0 f v0 v1 v2 v3 h = some (r, hz)) : G X 5 2 [(0, .ref v0), (1, .int v1), (2, .int v2), (3, .int v3)] [] h 0 0 := by
  induction f generalizing v0 v1 v2 v3 h r hz with
  | zero => cases e
  | succ f1 ih =>
    unfold bX5_areApart_2 at e
    refine g_iload_n 3 o dX5_areApart_2 rfl rfl ?_
    refine g_iload_n 2 o dX5_areApart_3 rfl rfl ?_
    refine g_icmp_ge (x := v3) (y := v2) 46 o dX5_areApart_4 (by decide) (fun u => ?_) (fun u => ?_)
    · rw [if_pos u] at e
      refine g_iconst (v := 1) o dX5_areApart_46 (by decide) ?_
      exact g_zret o dX5_areApart_47 (zr_s e).1 (rt_v q (zr_s e).2)
    · rw [if_neg u] at e
      refine g_iload_n 1 o dX5_areApart_7 rfl rfl ?_
      refine g_iconst (v := 1) o dX5_areApart_8 (by decide) ?_
      refine g_iload_n 3 o dX5_areApart_9 rfl rfl ?_
      refine g_ishl (x := (1 : Int32)) (y := v3) o dX5_areApart_10 ?_
      refine g_iconst (v := -1) o dX5_areApart_11 (by decide) ?_
      refine g_ixor (x := ((1 : Int32) <<< (v3 &&& 31))) (y := (-1)) o dX5_areApart_12 ?_
      refine g_iand (x := v1) (y := (((1 : Int32) <<< (v3 &&& 31)) ^^^ (-1))) o dX5_areApart_13 ?_
      refine g_istore [(4, .int (v1 &&& (((1 : Int32) <<< (v3 &&& 31)) ^^^ (-1)))), (0, .ref v0), (1, .int v1), (2, .int v2), (3, .int v3)] o dX5_areApart_14 (by decide) rfl ?_
      refine g_iload_n 2 o dX5_areApart_16 rfl rfl ?_
      refine g_iload_n 4 o dX5_areApart_17 rfl rfl ?_
      refine g_ishr (x := v1) (y := v3) o dX5_areApart_18 ?_
      refine g_iconst (v := 1) o dX5_areApart_19 (by decide) ?_
      refine g_iand (x := (v1 >>> (v3 &&& 31))) (y := 1) o dX5_areApart_20 ?_
      refine g_if_eq (x := ((v1 >>> (v3 &&& 31)) &&& 1)) 40 o dX5_areApart_21 (by decide) (fun u => ?_) (fun u => ?_)
      · rw [if_pos u] at e
        refine g_sb [1, 2, 3, 4] rfl ?_
        exact kX5_areApart_40 f0 (bX5_areApart_2 f0 f1) ih o v0 v1 v2 v3 h r hz q e
      · rw [if_neg u] at e
        refine g_iload 0 o dX5_areApart_24 rfl ?_
        refine g_aload_n 1 o dX5_areApart_26 rfl rfl ?_
        obtain ⟨x27, q27, e⟩ := ob e
        refine g_getN 2 o cf5 (by decide) mw_339 dX5_areApart_27 q27 ?_
        refine g_iload_n 4 o dX5_areApart_30 rfl rfl ?_
        obtain ⟨x31, q31, e⟩ := ob e
        refine g_iald o dX5_areApart_31 q31 ?_
        refine g_iconst (v := -1) o dX5_areApart_32 (by decide) ?_
        refine g_ixor (x := x31) (y := (-1)) o dX5_areApart_33 ?_
        refine g_iand (x := (v1 &&& (((1 : Int32) <<< (v3 &&& 31)) ^^^ (-1)))) (y := (x31 ^^^ (-1))) o dX5_areApart_34 ?_
        refine g_if_eq (x := ((v1 &&& (((1 : Int32) <<< (v3 &&& 31)) ^^^ (-1))) &&& (x31 ^^^ (-1)))) 40 o dX5_areApart_35 (by decide) (fun u => ?_) (fun u => ?_)
        · rw [if_pos u] at e
          refine g_sb [1, 2, 3, 4] rfl ?_
          exact kX5_areApart_40 f0 (bX5_areApart_2 f0 f1) ih o v0 v1 v2 v3 h r hz q e
        · rw [if_neg u] at e
          refine g_iconst (v := 0) o dX5_areApart_38 (by decide) ?_
          exact g_zret o dX5_areApart_39 (zr_s e).1 (rt_v q (zr_s e).2)
theorem yo_X5_areApart : yok yX5_areApart 2 := ⟨by decide, by decide, by decide +kernel⟩
set_option maxRecDepth 100000 in
set_option maxHeartbeats 4000000 in
theorem mX5_areApart {l : Launch} {D : va_G} {cy : Nat → ClassId} {f0 : Nat} {a : Nat} {p0 : Int32} {p1 : Int32} {h : Hp} {r : Int32} {hz : Hp} (e : fX5_areApart f0 a p0 p1 h = some (r, hz)) : MC l D cy yX5_areApart cX5_areApart 5 (some .boolean) rmX5_areApart [.ref a, .int p0, .int p1] h (some (.int r)) hz := by
  refine mc_of2 (by decide) (Nat.le_of_ble_eq_true rfl) (fun X hl hD hy hin o q => ?_)
  subst hl; subst hD; subst hy
  show G X 5 0 [(0, .ref a), (1, .int p0), (2, .int p1)] [] h 0 0
  unfold fX5_areApart at e
  refine g_iconst (v := 0) o dX5_areApart_0 (by decide) ?_
  refine g_istore_n [(3, .int 0), (0, .ref a), (1, .int p0), (2, .int p1)] o dX5_areApart_1 rfl (by decide) rfl ?_
  refine g_sb [1, 2, 3, 0] rfl ?_
  exact kX5_areApart_2 f0 o f0 a p0 p1 0 h r hz q e
set_option maxRecDepth 100000 in
set_option maxHeartbeats 4000000 in
theorem kX5_mostApart_35 {X : Cx} (f0 : Nat) (g4 : Nat → Int32 → Int32 → Int32 → Hp → Option (Int32 × Hp)) (i4 : ∀ (v02 : Nat) (v12 : Int32) (v22 : Int32) (v32 : Int32) (h2 : Hp) (r : Int32) (hz : Hp), Rt X (some (.int r)) hz 0 0 → g4 v02 v12 v22 v32 h2 = some (r, hz) → G X 5 4 [(0, .ref v02), (1, .int v12), (2, .int v22), (3, .int v32)] [] h2 0 0) (o : Ok X cX5_mostApart RX5 5 rmX5_mostApart (some .int)) (v0 : Nat) (v1 : Int32) (v2 : Int32) (v3 : Int32) (h : Hp) (r : Int32) (hz : Hp) (q : Rt X (some (.int r)) hz 0 0) (e : bX5_mostApart_35 f0 g4 v0 v1 v2 v3 h = some (r, hz)) : G X 5 35 [(0, .ref v0), (1, .int v1), (2, .int v2), (3, .int v3)] [] h 0 0 := by
  unfold bX5_mostApart_35 at e
  refine g_iinc (k := 3) (v := (v3 + 1)) [(3, .int (v3 + 1)), (0, .ref v0), (1, .int v1), (2, .int v2)] o dX5_mostApart_35 rfl rfl (by decide) rfl ?_
  refine g_goto 4 o dX5_mostApart_38 (by decide) ?_
  refine g_sb [1, 2, 3, 0] rfl ?_
  exact i4 v0 v1 v2 (v3 + 1) h r hz q e
set_option maxRecDepth 100000 in
set_option maxHeartbeats 4000000 in
theorem kX5_mostApart_4 {X : Cx} (f0 : Nat) (o : Ok X cX5_mostApart RX5 5 rmX5_mostApart (some .int)) (f : Nat) (v0 : Nat) (v1 : Int32) (v2 : Int32) (v3 : Int32) (h : Hp) (r : Int32) (hz : Hp) (q : Rt X (some (.int r)) hz 0 0) (e : bX5_mostApart_4 f0 f v0 v1 v2 v3 h = some (r, hz)) : G X 5 4 [(0, .ref v0), (1, .int v1), (2, .int v2), (3, .int v3)] [] h 0 0 := by
  induction f generalizing v0 v1 v2 v3 h r hz with
  | zero => cases e
  | succ f1 ih =>
    unfold bX5_mostApart_4 at e
    refine g_iload_n 3 o dX5_mostApart_4 rfl rfl ?_
    refine g_iconst (v := 1) o dX5_mostApart_5 (by decide) ?_
    refine g_iload_n 1 o dX5_mostApart_6 rfl rfl ?_
    refine g_ishl (x := (1 : Int32)) (y := v1) o dX5_mostApart_7 ?_
    refine g_icmp_ge (x := v3) (y := ((1 : Int32) <<< (v1 &&& 31))) 41 o dX5_mostApart_8 (by decide) (fun u => ?_) (fun u => ?_)
    · rw [if_pos u] at e
      refine g_iload_n 2 o dX5_mostApart_41 rfl rfl ?_
      exact g_iret o dX5_mostApart_42 (rt_v q e)
    · rw [if_neg u] at e
      refine g_iload_n 3 o dX5_mostApart_11 rfl rfl ?_
      obtain ⟨x12, h12, q12, e⟩ := ob2_s e
      refine g_callSv [.int v3] o (mJ6_bitCount_0f7a4 q12) mw_877 mw_698 mw_25 mw_699 yo_J6_bitCount_0f7a4 rfl rfl (Nat.le_of_ble_eq_true rfl) ⟨by decide, by decide⟩ ⟨rfl, rfl⟩ dX5_mostApart_12 ⟨by decide, by decide⟩ ?_
      refine g_istore [(4, .int x12), (0, .ref v0), (1, .int v1), (2, .int v2), (3, .int v3)] o dX5_mostApart_15 (by decide) rfl ?_
      refine g_iload 0 o dX5_mostApart_17 rfl ?_
      refine g_iload_n 3 o dX5_mostApart_19 rfl rfl ?_
      refine g_icmp_le (x := x12) (y := v2) 35 o dX5_mostApart_20 (by decide) (fun u => ?_) (fun u => ?_)
      · rw [if_pos u] at e
        refine g_sb [1, 2, 3, 4] rfl ?_
        exact kX5_mostApart_35 f0 (bX5_mostApart_4 f0 f1) ih o v0 v1 v2 v3 h12 r hz q e
      · rw [if_neg u] at e
        refine g_aload_n 1 o dX5_mostApart_23 rfl rfl ?_
        refine g_iload_n 4 o dX5_mostApart_24 rfl rfl ?_
        refine g_iload_n 2 o dX5_mostApart_25 rfl rfl ?_
        obtain ⟨_, k26, e⟩ := ob e
        obtain ⟨x26, h26, q26, e⟩ := ob2_s e
        refine g_callVv [.int v3, .int v1] o (mX5_areApart q26) cf5 (ckO_s k26) mw_878 mw_879 mw_1717 mw_15 mw_880 rfl yo_X5_areApart rfl rfl (Nat.le_of_ble_eq_true rfl) ⟨by decide, by decide⟩ ⟨rfl, rfl⟩ dX5_mostApart_26 ⟨by decide, by decide⟩ ?_
        refine g_if_eq (x := x26) 35 o dX5_mostApart_29 (by decide) (fun u => ?_) (fun u => ?_)
        · rw [if_pos u] at e
          refine g_sb [1, 2, 3, 4] rfl ?_
          exact kX5_mostApart_35 f0 (bX5_mostApart_4 f0 f1) ih o v0 v1 v2 v3 h26 r hz q e
        · rw [if_neg u] at e
          refine g_iload 0 o dX5_mostApart_32 rfl ?_
          refine g_istore_n [(2, .int x12), (4, .int x12), (0, .ref v0), (1, .int v1), (3, .int v3)] o dX5_mostApart_34 rfl (by decide) rfl ?_
          refine g_sb [2, 3, 0, 4] rfl ?_
          exact kX5_mostApart_35 f0 (bX5_mostApart_4 f0 f1) ih o v0 v1 x12 v3 h26 r hz q e
theorem yo_X5_mostApart : yok yX5_mostApart 1 := ⟨by decide, by decide, by decide +kernel⟩
set_option maxRecDepth 100000 in
set_option maxHeartbeats 4000000 in
theorem mX5_mostApart {l : Launch} {D : va_G} {cy : Nat → ClassId} {f0 : Nat} {a : Nat} {p0 : Int32} {h : Hp} {r : Int32} {hz : Hp} (e : fX5_mostApart f0 a p0 h = some (r, hz)) : MC l D cy yX5_mostApart cX5_mostApart 5 (some .int) rmX5_mostApart [.ref a, .int p0] h (some (.int r)) hz := by
  refine mc_of2 (by decide) (Nat.le_of_ble_eq_true rfl) (fun X hl hD hy hin o q => ?_)
  subst hl; subst hD; subst hy
  show G X 5 0 [(0, .ref a), (1, .int p0)] [] h 0 0
  unfold fX5_mostApart at e
  refine g_iconst (v := 0) o dX5_mostApart_0 (by decide) ?_
  refine g_istore_n [(2, .int 0), (0, .ref a), (1, .int p0)] o dX5_mostApart_1 rfl (by decide) rfl ?_
  refine g_iconst (v := 1) o dX5_mostApart_2 (by decide) ?_
  refine g_istore_n [(3, .int 1), (2, .int 0), (0, .ref a), (1, .int p0)] o dX5_mostApart_3 rfl (by decide) rfl ?_
  refine g_sb [2, 3, 1, 0] rfl ?_
  exact kX5_mostApart_4 f0 o f0 a p0 0 1 h r hz q e
set_option maxRecDepth 100000 in
set_option maxHeartbeats 4000000 in
theorem kX5_fewest_59 {X : Cx} (f0 : Nat) (o : Ok X cX5_fewest RX5 4 rmX5_fewest (some .int)) (f : Nat) (v0 : Nat) (v2 : Int32) (v3 : Int32) (h : Hp) (r : Int32) (hz : Hp) (q : Rt X (some (.int r)) hz 0 0) (e : bX5_fewest_59 f0 f v0 v2 v3 h = some (r, hz)) : G X 4 59 [(0, .ref v0), (2, .int v2), (3, .int v3)] [] h 0 0 := by
  induction f generalizing v0 v2 v3 h r hz with
  | zero => cases e
  | succ f1 ih =>
    unfold bX5_fewest_59 at e
    refine g_iload_n 2 o dX5_fewest_59 rfl rfl ?_
    refine g_iload_n 1 o dX5_fewest_60 rfl rfl ?_
    refine g_icmp_ge (x := v3) (y := v2) 82 o dX5_fewest_61 (by decide) (fun u => ?_) (fun u => ?_)
    · rw [if_pos u] at e
      refine g_aload_n 0 o dX5_fewest_82 rfl rfl ?_
      refine g_iload_n 1 o dX5_fewest_83 rfl rfl ?_
      obtain ⟨_, k84, e⟩ := ob e
      obtain ⟨x84, h84, q84, e⟩ := ob2_s e
      refine g_callVv [.int v2] o (mX5_mostApart q84) cf5 (ckO_s k84) mw_874 mw_875 mw_1716 mw_15 mw_876 rfl yo_X5_mostApart rfl rfl (Nat.le_of_ble_eq_true rfl) ⟨by decide, by decide⟩ ⟨rfl, rfl⟩ dX5_fewest_84 ⟨by decide, by decide⟩ ?_
      exact g_iret o dX5_fewest_87 (rt_v q e)
    · rw [if_neg u] at e
      refine g_aload_n 0 o dX5_fewest_64 rfl rfl ?_
      obtain ⟨x65, q65, e⟩ := ob e
      refine g_getN 2 o cf5 (by decide) mw_339 dX5_fewest_65 q65 ?_
      refine g_iload_n 2 o dX5_fewest_68 rfl rfl ?_
      refine g_aload_n 0 o dX5_fewest_69 rfl rfl ?_
      refine g_iload_n 2 o dX5_fewest_70 rfl rfl ?_
      refine g_iload_n 1 o dX5_fewest_71 rfl rfl ?_
      obtain ⟨_, k72, e⟩ := ob e
      obtain ⟨x72, h72, q72, e⟩ := ob2_s e
      refine g_callVv [.int v3, .int v2] o (mX5_findApart q72) cf5 (ckO_s k72) mw_868 mw_869 mw_1715 mw_15 mw_870 rfl yo_X5_findApart rfl rfl (Nat.le_of_ble_eq_true rfl) ⟨by decide, by decide⟩ ⟨rfl, rfl⟩ dX5_fewest_72 ⟨by decide, by decide⟩ ?_
      obtain ⟨h75, q75, e⟩ := ob e
      refine g_iast o dX5_fewest_75 q75 ?_
      refine g_iinc (k := 2) (v := (v3 + 1)) [(3, .int (v3 + 1)), (0, .ref v0), (2, .int v2)] o dX5_fewest_76 rfl rfl (by decide) rfl ?_
      refine g_goto 59 o dX5_fewest_79 (by decide) ?_
      refine g_sb [1, 2, 0] rfl ?_
      exact ih v0 v2 (v3 + 1) h75 r hz q e
set_option maxRecDepth 100000 in
set_option maxHeartbeats 4000000 in
theorem kX5_fewest_25 {X : Cx} (f0 : Nat) (o : Ok X cX5_fewest RX5 4 rmX5_fewest (some .int)) (f : Nat) (v0 : Nat) (v2 : Int32) (v3 : Int32) (h : Hp) (r : Int32) (hz : Hp) (q : Rt X (some (.int r)) hz 0 0) (e : bX5_fewest_25 f0 f v0 v2 v3 h = some (r, hz)) : G X 4 25 [(0, .ref v0), (2, .int v2), (3, .int v3)] [] h 0 0 := by
  induction f generalizing v0 v2 v3 h r hz with
  | zero => cases e
  | succ f1 ih =>
    unfold bX5_fewest_25 at e
    refine g_iload_n 2 o dX5_fewest_25 rfl rfl ?_
    refine g_iload_n 1 o dX5_fewest_26 rfl rfl ?_
    refine g_icmp_ge (x := v3) (y := v2) 57 o dX5_fewest_27 (by decide) (fun u => ?_) (fun u => ?_)
    · rw [if_pos u] at e
      refine g_iconst (v := 0) o dX5_fewest_57 (by decide) ?_
      refine g_istore_n [(3, .int 0), (0, .ref v0), (2, .int v2)] o dX5_fewest_58 rfl (by decide) rfl ?_
      refine g_sb [1, 2, 0] rfl ?_
      exact kX5_fewest_59 f0 o f0 v0 v2 0 h r hz q e
    · rw [if_neg u] at e
      refine g_aload_n 0 o dX5_fewest_30 rfl rfl ?_
      obtain ⟨x31, q31, e⟩ := ob e
      refine g_getN 0 o cf5 (by decide) mw_337 dX5_fewest_31 q31 ?_
      refine g_iconst (v := 0) o dX5_fewest_34 (by decide) ?_
      refine g_aload_n 0 o dX5_fewest_35 rfl rfl ?_
      obtain ⟨x36, q36, e⟩ := ob e
      refine g_getN 1 o cf5 (by decide) mw_338 dX5_fewest_36 q36 ?_
      refine g_iconst (v := 2) o dX5_fewest_39 (by decide) ?_
      refine g_iload_n 2 o dX5_fewest_40 rfl rfl ?_
      refine g_imul (x := (2 : Int32)) (y := v3) o dX5_fewest_41 ?_
      obtain ⟨x42, q42, e⟩ := ob e
      refine g_bald o dX5_fewest_42 q42 ?_
      obtain ⟨_, k43, e⟩ := ob e
      obtain ⟨x43, h43, q43, e⟩ := ob2_s e
      refine g_callVv [.int 0, .int x42] o (mX6_has q43) cf6 (ckO_s k43) mw_867 mw_682 mw_683 mw_7 mw_684 rfl yo_X6_has rfl rfl (Nat.le_of_ble_eq_true rfl) ⟨by decide, by decide⟩ ⟨rfl, rfl⟩ dX5_fewest_43 ⟨by decide, by decide⟩ ?_
      refine g_if_ne (x := x43) 51 o dX5_fewest_46 (by decide) (fun u => ?_) (fun u => ?_)
      · rw [if_neg u] at e
        refine g_iinc (k := 2) (v := (v3 + 1)) [(3, .int (v3 + 1)), (0, .ref v0), (2, .int v2)] o dX5_fewest_51 rfl rfl (by decide) rfl ?_
        refine g_goto 25 o dX5_fewest_54 (by decide) ?_
        refine g_sb [1, 2, 0] rfl ?_
        exact ih v0 v2 (v3 + 1) h43 r hz q e
      · rw [if_pos u] at e
        refine g_iconst (v := -1) o dX5_fewest_49 (by decide) ?_
        exact g_iret o dX5_fewest_50 (rt_v q e)
theorem yo_X5_fewest : yok yX5_fewest 1 := ⟨by decide, by decide, by decide +kernel⟩
set_option maxRecDepth 100000 in
set_option maxHeartbeats 4000000 in
theorem mX5_fewest {l : Launch} {D : va_G} {cy : Nat → ClassId} {f0 : Nat} {a : Nat} {p0 : Int32} {h : Hp} {r : Int32} {hz : Hp} (e : fX5_fewest f0 a p0 h = some (r, hz)) : MC l D cy yX5_fewest cX5_fewest 4 (some .int) rmX5_fewest [.ref a, .int p0] h (some (.int r)) hz := by
  refine mc_of2 (by decide) (Nat.le_of_ble_eq_true rfl) (fun X hl hD hy hin o q => ?_)
  subst hl; subst hD; subst hy
  show G X 4 0 [(0, .ref a), (1, .int p0)] [] h 0 0
  unfold fX5_fewest at e
  refine g_iload_n 1 o dX5_fewest_0 rfl rfl ?_
  refine g_iconst (v := 2) o dX5_fewest_1 (by decide) ?_
  obtain ⟨_, z2, e⟩ := ob e
  refine g_idiv (x := p0) (y := 2) o dX5_fewest_2 (nz_s z2) ?_
  refine g_istore_n [(2, .int (p0 / 2)), (0, .ref a), (1, .int p0)] o dX5_fewest_3 rfl (by decide) rfl ?_
  refine g_iload_n 2 o dX5_fewest_4 rfl rfl ?_
  refine g_iconst (v := 2) o dX5_fewest_5 (by decide) ?_
  obtain ⟨_, z6, e⟩ := ob e
  refine g_irem (x := p0) (y := 2) o dX5_fewest_6 (nz_s z6) ?_
  refine g_if_ne (x := (p0 - p0 / 2 * 2)) 21 o dX5_fewest_7 (by decide) (fun u => ?_) (fun u => ?_)
  · rw [if_neg u] at e
    refine g_iconst (v := -1) o dX5_fewest_21 (by decide) ?_
    exact g_iret o dX5_fewest_22 (rt_v q e)
  · rw [if_pos u] at e
    refine g_iload_n 0 o dX5_fewest_10 rfl rfl ?_
    refine g_iconst (v := 2) o dX5_fewest_11 (by decide) ?_
    refine g_icmp_lt (x := (p0 / 2)) (y := 2) 21 o dX5_fewest_12 (by decide) (fun u => ?_) (fun u => ?_)
    · rw [if_pos u] at e
      refine g_iconst (v := -1) o dX5_fewest_21 (by decide) ?_
      exact g_iret o dX5_fewest_22 (rt_v q e)
    · rw [if_neg u] at e
      refine g_iload_n 0 o dX5_fewest_15 rfl rfl ?_
      refine g_bipush (v := 10) o dX5_fewest_16 (by decide) ?_
      refine g_icmp_le (x := (p0 / 2)) (y := 10) 23 o dX5_fewest_18 (by decide) (fun u => ?_) (fun u => ?_)
      · rw [if_pos u] at e
        refine g_iconst (v := 0) o dX5_fewest_23 (by decide) ?_
        refine g_istore_n [(3, .int 0), (2, .int (p0 / 2)), (0, .ref a), (1, .int p0)] o dX5_fewest_24 rfl (by decide) rfl ?_
        refine g_sb [2, 1, 0] rfl ?_
        exact kX5_fewest_25 f0 o f0 a (p0 / 2) 0 h r hz q e
      · rw [if_neg u] at e
        refine g_iconst (v := -1) o dX5_fewest_21 (by decide) ?_
        exact g_iret o dX5_fewest_22 (rt_v q e)
theorem yo_X11_register : yok yX11_register 0 := ⟨by decide, by decide, by decide +kernel⟩
set_option maxRecDepth 100000 in
set_option maxHeartbeats 4000000 in
theorem mX11_register {l : Launch} {D : va_G} {cy : Nat → ClassId} {f0 : Nat} {a : Nat} {h : Hp} {r : Int32} {hz : Hp} (e : fX11_register f0 a h = some (r, hz)) : MC l D cy yX11_register cX11_register 1 (some .int) rmX11_register [.ref a] h (some (.int r)) hz := by
  refine mc_of2 (by decide) (Nat.le_of_ble_eq_true rfl) (fun X hl hD hy hin o q => ?_)
  subst hl; subst hD; subst hy
  show G X 1 0 [(0, .ref a)] [] h 0 0
  unfold fX11_register at e
  refine g_aload_n 0 o dX11_register_0 rfl rfl ?_
  obtain ⟨x1, q1, e⟩ := ob e
  refine g_getN 17 o cf11 (by decide) mw_381 dX11_register_1 q1 ?_
  refine g_aload_n 0 o dX11_register_4 rfl rfl ?_
  obtain ⟨_, k5, e⟩ := ob e
  obtain ⟨x5, h5, q5, e⟩ := ob2_s e
  refine g_callVv [] o (mX11_takeTape q5) cf11 (ckO_s k5) mw_415 mw_416 mw_1685 mw_1 mw_417 rfl yo_X11_takeTape rfl rfl (Nat.le_of_ble_eq_true rfl) ⟨by decide, by decide⟩ ⟨rfl, rfl⟩ dX11_register_5 ⟨by decide, by decide⟩ ?_
  obtain ⟨_, k8, e⟩ := ob e
  obtain ⟨x8, h8, q8, e⟩ := ob2_s e
  refine g_callVv [.int x5] o (mX5_fewest q8) cf5 (ckO_s k8) mw_863 mw_864 mw_865 mw_15 mw_866 rfl yo_X5_fewest rfl rfl (Nat.le_of_ble_eq_true rfl) ⟨by decide, by decide⟩ ⟨rfl, rfl⟩ dX11_register_8 ⟨by decide, by decide⟩ ?_
  exact g_iret o dX11_register_11 (rt_v q e)
theorem yo_X11_needs : yok yX11_needs 1 := ⟨by decide, by decide, by decide +kernel⟩
set_option maxRecDepth 100000 in
set_option maxHeartbeats 4000000 in
theorem mX11_needs {l : Launch} {D : va_G} {cy : Nat → ClassId} {f0 : Nat} {a : Nat} {p0 : Int32} {h : Hp} {r : Int32} {hz : Hp} (e : fX11_needs f0 a p0 h = some (r, hz)) : MC l D cy yX11_needs cX11_needs 2 (some .int) rmX11_needs [.ref a, .int p0] h (some (.int r)) hz := by
  refine mc_of2 (by decide) (Nat.le_of_ble_eq_true rfl) (fun X hl hD hy hin o q => ?_)
  subst hl; subst hD; subst hy
  show G X 2 0 [(0, .ref a), (1, .int p0)] [] h 0 0
  unfold fX11_needs at e
  refine g_aload_n 0 o dX11_needs_0 rfl rfl ?_
  obtain ⟨x1, q1, e⟩ := ob e
  refine g_getN 4 o cf11 (by decide) mw_368 dX11_needs_1 q1 ?_
  refine g_iconst (v := 3) o dX11_needs_4 (by decide) ?_
  refine g_iload_n 1 o dX11_needs_5 rfl rfl ?_
  obtain ⟨_, k6, e⟩ := ob e
  obtain ⟨x6, h6, q6, e⟩ := ob2_s e
  refine g_callVv [.int 3, .int p0] o (mX6_has q6) cf6 (ckO_s k6) mw_824 mw_682 mw_683 mw_7 mw_684 rfl yo_X6_has rfl rfl (Nat.le_of_ble_eq_true rfl) ⟨by decide, by decide⟩ ⟨rfl, rfl⟩ dX11_needs_6 ⟨by decide, by decide⟩ ?_
  refine g_if_eq (x := x6) 24 o dX11_needs_9 (by decide) (fun u => ?_) (fun u => ?_)
  · rw [if_pos u] at e
    refine g_iconst (v := -1) o dX11_needs_24 (by decide) ?_
    exact g_iret o dX11_needs_25 (rt_v q e)
  · rw [if_neg u] at e
    refine g_aload_n 0 o dX11_needs_12 rfl rfl ?_
    obtain ⟨x13, q13, e⟩ := ob e
    refine g_getN 4 o cf11 (by decide) mw_368 dX11_needs_13 q13 ?_
    obtain ⟨x16, q16, e⟩ := ob e
    refine g_getN 10 o cf6 (by decide) mw_175 dX11_needs_16 q16 ?_
    refine g_iload_n 1 o dX11_needs_19 rfl rfl ?_
    obtain ⟨x20, q20, e⟩ := ob e
    refine g_iald o dX11_needs_20 q20 ?_
    refine g_goto 25 o dX11_needs_21 (by decide) ?_
    exact g_iret o dX11_needs_25 (rt_v q e)
set_option maxRecDepth 100000 in
set_option maxHeartbeats 4000000 in
theorem kX3_wordOf_37 {X : Cx} (f0 : Nat) (g2 : Nat → Int32 → Int32 → Int32 → Hp → Option (Int64 × Hp)) (i2 : ∀ (v02 : Nat) (v12 : Int32) (v22 : Int32) (v32 : Int32) (h2 : Hp) (r : Int64) (hz : Hp), Rt X (some (.long r)) hz 0 0 → g2 v02 v12 v22 v32 h2 = some (r, hz) → G X 4 2 [(0, .ref v02), (1, .int v12), (2, .int v22), (3, .int v32)] [] h2 0 0) (o : Ok X cX3_wordOf RX3 4 rmX3_wordOf (some .long)) (v0 : Nat) (v1 : Int32) (v2 : Int32) (v3 : Int32) (h : Hp) (r : Int64) (hz : Hp) (q : Rt X (some (.long r)) hz 0 0) (e : bX3_wordOf_37 f0 g2 v0 v1 v2 v3 h = some (r, hz)) : G X 4 37 [(0, .ref v0), (1, .int v1), (2, .int v2), (3, .int v3)] [] h 0 0 := by
  unfold bX3_wordOf_37 at e
  refine g_iinc (k := 3) (v := (v3 + 1)) [(3, .int (v3 + 1)), (0, .ref v0), (1, .int v1), (2, .int v2)] o dX3_wordOf_37 rfl rfl (by decide) rfl ?_
  refine g_goto 2 o dX3_wordOf_40 (by decide) ?_
  refine g_sb [1, 2, 3, 0] rfl ?_
  exact i2 v0 v1 v2 (v3 + 1) h r hz q e
set_option maxRecDepth 100000 in
set_option maxHeartbeats 4000000 in
theorem kX3_wordOf_2 {X : Cx} (f0 : Nat) (o : Ok X cX3_wordOf RX3 4 rmX3_wordOf (some .long)) (f : Nat) (v0 : Nat) (v1 : Int32) (v2 : Int32) (v3 : Int32) (h : Hp) (r : Int64) (hz : Hp) (q : Rt X (some (.long r)) hz 0 0) (e : bX3_wordOf_2 f0 f v0 v1 v2 v3 h = some (r, hz)) : G X 4 2 [(0, .ref v0), (1, .int v1), (2, .int v2), (3, .int v3)] [] h 0 0 := by
  induction f generalizing v0 v1 v2 v3 h r hz with
  | zero => cases e
  | succ f1 ih =>
    unfold bX3_wordOf_2 at e
    refine g_iload_n 3 o dX3_wordOf_2 rfl rfl ?_
    refine g_aload_n 0 o dX3_wordOf_3 rfl rfl ?_
    obtain ⟨x4, q4, e⟩ := ob e
    refine g_getI 3 o cf3 (by decide) mw_132 dX3_wordOf_4 q4 ?_
    refine g_icmp_ge (x := v3) (y := x4) 43 o dX3_wordOf_7 (by decide) (fun u => ?_) (fun u => ?_)
    · rw [if_pos u] at e
      refine g_lconst (v := 0) o dX3_wordOf_43 (by decide) ?_
      exact g_lret o dX3_wordOf_44 (rt_l q e)
    · rw [if_neg u] at e
      refine g_aload_n 0 o dX3_wordOf_10 rfl rfl ?_
      obtain ⟨x11, q11, e⟩ := ob e
      refine g_getN 1 o cf3 (by decide) mw_130 dX3_wordOf_11 q11 ?_
      refine g_iload_n 3 o dX3_wordOf_14 rfl rfl ?_
      obtain ⟨x15, q15, e⟩ := ob e
      refine g_iald o dX3_wordOf_15 q15 ?_
      refine g_iload_n 1 o dX3_wordOf_16 rfl rfl ?_
      refine g_icmp_ne (x := x15) (y := v1) 37 o dX3_wordOf_17 (by decide) (fun u => ?_) (fun u => ?_)
      · rw [if_neg u] at e
        exact kX3_wordOf_37 f0 (bX3_wordOf_2 f0 f1) ih o v0 v1 v2 v3 h r hz q e
      · rw [if_pos u] at e
        refine g_aload_n 0 o dX3_wordOf_20 rfl rfl ?_
        obtain ⟨x21, q21, e⟩ := ob e
        refine g_getN 2 o cf3 (by decide) mw_131 dX3_wordOf_21 q21 ?_
        refine g_iload_n 3 o dX3_wordOf_24 rfl rfl ?_
        obtain ⟨x25, q25, e⟩ := ob e
        refine g_iald o dX3_wordOf_25 q25 ?_
        refine g_iload_n 2 o dX3_wordOf_26 rfl rfl ?_
        refine g_icmp_ne (x := x25) (y := v2) 37 o dX3_wordOf_27 (by decide) (fun u => ?_) (fun u => ?_)
        · rw [if_neg u] at e
          exact kX3_wordOf_37 f0 (bX3_wordOf_2 f0 f1) ih o v0 v1 v2 v3 h r hz q e
        · rw [if_pos u] at e
          refine g_aload_n 0 o dX3_wordOf_30 rfl rfl ?_
          obtain ⟨x31, q31, e⟩ := ob e
          refine g_getN 0 o cf3 (by decide) mw_129 dX3_wordOf_31 q31 ?_
          refine g_iload_n 3 o dX3_wordOf_34 rfl rfl ?_
          obtain ⟨x35, q35, e⟩ := ob e
          refine g_lald o dX3_wordOf_35 q35 ?_
          exact g_lret o dX3_wordOf_36 (rt_l q e)
theorem yo_X3_wordOf : yok yX3_wordOf 2 := ⟨by decide, by decide, by decide +kernel⟩
set_option maxRecDepth 100000 in
set_option maxHeartbeats 4000000 in
theorem mX3_wordOf {l : Launch} {D : va_G} {cy : Nat → ClassId} {f0 : Nat} {a : Nat} {p0 : Int32} {p1 : Int32} {h : Hp} {r : Int64} {hz : Hp} (e : fX3_wordOf f0 a p0 p1 h = some (r, hz)) : MC l D cy yX3_wordOf cX3_wordOf 4 (some .long) rmX3_wordOf [.ref a, .int p0, .int p1] h (some (.long r)) hz := by
  refine mc_of2 (by decide) (Nat.le_of_ble_eq_true rfl) (fun X hl hD hy hin o q => ?_)
  subst hl; subst hD; subst hy
  show G X 4 0 [(0, .ref a), (1, .int p0), (2, .int p1)] [] h 0 0
  unfold fX3_wordOf at e
  refine g_iconst (v := 0) o dX3_wordOf_0 (by decide) ?_
  refine g_istore_n [(3, .int 0), (0, .ref a), (1, .int p0), (2, .int p1)] o dX3_wordOf_1 rfl (by decide) rfl ?_
  refine g_sb [1, 2, 3, 0] rfl ?_
  exact kX3_wordOf_2 f0 o f0 a p0 p1 0 h r hz q e
set_option maxRecDepth 100000 in
set_option maxHeartbeats 4000000 in
theorem kX6_shipOver_28 {X : Cx} (f0 : Nat) (o : Ok X cX6_shipOver RX6 10 rmX6_shipOver (some .int)) (f : Nat) (v0 : Nat) (v3 : Int64) (v5 : Int64) (v7 : Int64) (v9 : Int32) (h : Hp) (r : Int32) (hz : Hp) (q : Rt X (some (.int r)) hz 0 0) (e : bX6_shipOver_28 f0 f v0 v3 v5 v7 v9 h = some (r, hz)) : G X 10 28 [(0, .ref v0), (3, .long v3), (5, .long v5), (7, .long v7), (9, .int v9)] [] h 0 0 := by
  induction f generalizing v0 v3 v5 v7 v9 h r hz with
  | zero => cases e
  | succ f1 ih =>
    unfold bX6_shipOver_28 at e
    refine g_iload 4 o dX6_shipOver_28 rfl ?_
    refine g_if_lt (x := v9) 67 o dX6_shipOver_30 (by decide) (fun u => ?_) (fun u => ?_)
    · rw [if_pos u] at e
      refine g_aload_n 0 o dX6_shipOver_67 rfl rfl ?_
      obtain ⟨x68, q68, e⟩ := ob e
      refine g_getN 0 o cf6 (by decide) mw_139 dX6_shipOver_68 q68 ?_
      refine g_lload 3 o dX6_shipOver_71 rfl ?_
      refine g_iconst (v := 3) o dX6_shipOver_73 (by decide) ?_
      obtain ⟨_, k74, e⟩ := ob e
      obtain ⟨x74, h74, q74, e⟩ := ob2_s e
      refine g_callVv [.long v7, .int 3] o (mX3_find q74) cf3 (ckO_s k74) mw_901 mw_523 mw_524 mw_8 mw_525 rfl yo_X3_find rfl rfl (Nat.le_of_ble_eq_true rfl) ⟨by decide, by decide⟩ ⟨rfl, rfl⟩ dX6_shipOver_74 ⟨by decide, by decide⟩ ?_
      exact g_iret o dX6_shipOver_77 (rt_v q e)
    · rw [if_neg u] at e
      refine g_lload 3 o dX6_shipOver_33 rfl ?_
      refine g_lload_n 1 o dX6_shipOver_35 rfl rfl ?_
      refine g_iload 4 o dX6_shipOver_36 rfl ?_
      refine g_lshr (x := v3) (y := v9) o dX6_shipOver_38 ?_
      refine g_ldc2_w (v := 31) o dX6_shipOver_39 mw_897 ?_
      refine g_land (x := (v3 >>> (Int32.toInt64 v9 &&& 63))) (y := 31) o dX6_shipOver_42 ?_
      refine g_lload 2 o dX6_shipOver_43 rfl ?_
      refine g_iload 4 o dX6_shipOver_45 rfl ?_
      refine g_lshr (x := v5) (y := v9) o dX6_shipOver_47 ?_
      refine g_ldc2_w (v := 31) o dX6_shipOver_48 mw_897 ?_
      refine g_land (x := (v5 >>> (Int32.toInt64 v9 &&& 63))) (y := 31) o dX6_shipOver_51 ?_
      refine g_mmaxL (x := ((v3 >>> (Int32.toInt64 v9 &&& 63)) &&& 31)) (y := ((v5 >>> (Int32.toInt64 v9 &&& 63)) &&& 31)) o mw_898 mw_899 mw_18 mw_900 ⟨by decide, Nat.le_of_ble_eq_true rfl⟩ ⟨by decide, by decide⟩ dX6_shipOver_52 ?_
      refine g_iload 4 o dX6_shipOver_55 rfl ?_
      refine g_lshl (x := (if ((v5 >>> (Int32.toInt64 v9 &&& 63)) &&& 31) < ((v3 >>> (Int32.toInt64 v9 &&& 63)) &&& 31) then ((v3 >>> (Int32.toInt64 v9 &&& 63)) &&& 31) else ((v5 >>> (Int32.toInt64 v9 &&& 63)) &&& 31))) (y := v9) o dX6_shipOver_57 ?_
      refine g_lor (x := v7) (y := ((if ((v5 >>> (Int32.toInt64 v9 &&& 63)) &&& 31) < ((v3 >>> (Int32.toInt64 v9 &&& 63)) &&& 31) then ((v3 >>> (Int32.toInt64 v9 &&& 63)) &&& 31) else ((v5 >>> (Int32.toInt64 v9 &&& 63)) &&& 31)) <<< (Int32.toInt64 v9 &&& 63))) o dX6_shipOver_58 ?_
      refine g_lstore [(7, .long (v7 ||| ((if ((v5 >>> (Int32.toInt64 v9 &&& 63)) &&& 31) < ((v3 >>> (Int32.toInt64 v9 &&& 63)) &&& 31) then ((v3 >>> (Int32.toInt64 v9 &&& 63)) &&& 31) else ((v5 >>> (Int32.toInt64 v9 &&& 63)) &&& 31)) <<< (Int32.toInt64 v9 &&& 63)))), (0, .ref v0), (3, .long v3), (5, .long v5), (9, .int v9)] o dX6_shipOver_59 (by decide) rfl ?_
      refine g_iinc (k := 4) (v := (v9 + (-5))) [(9, .int (v9 + (-5))), (7, .long (v7 ||| ((if ((v5 >>> (Int32.toInt64 v9 &&& 63)) &&& 31) < ((v3 >>> (Int32.toInt64 v9 &&& 63)) &&& 31) then ((v3 >>> (Int32.toInt64 v9 &&& 63)) &&& 31) else ((v5 >>> (Int32.toInt64 v9 &&& 63)) &&& 31)) <<< (Int32.toInt64 v9 &&& 63)))), (0, .ref v0), (3, .long v3), (5, .long v5)] o dX6_shipOver_61 rfl rfl (by decide) rfl ?_
      refine g_goto 28 o dX6_shipOver_64 (by decide) ?_
      refine g_sb [2, 3, 4, 1, 0] rfl ?_
      exact ih v0 v3 v5 (v7 ||| ((if ((v5 >>> (Int32.toInt64 v9 &&& 63)) &&& 31) < ((v3 >>> (Int32.toInt64 v9 &&& 63)) &&& 31) then ((v3 >>> (Int32.toInt64 v9 &&& 63)) &&& 31) else ((v5 >>> (Int32.toInt64 v9 &&& 63)) &&& 31)) <<< (Int32.toInt64 v9 &&& 63))) (v9 + (-5)) h r hz q e
theorem yo_X6_shipOver : yok yX6_shipOver 2 := ⟨by decide, by decide, by decide +kernel⟩
set_option maxRecDepth 100000 in
set_option maxHeartbeats 4000000 in
theorem mX6_shipOver {l : Launch} {D : va_G} {cy : Nat → ClassId} {f0 : Nat} {a : Nat} {p0 : Int32} {p1 : Int32} {h : Hp} {r : Int32} {hz : Hp} (e : fX6_shipOver f0 a p0 p1 h = some (r, hz)) : MC l D cy yX6_shipOver cX6_shipOver 10 (some .int) rmX6_shipOver [.ref a, .int p0, .int p1] h (some (.int r)) hz := by
  refine mc_of2 (by decide) (Nat.le_of_ble_eq_true rfl) (fun X hl hD hy hin o q => ?_)
  subst hl; subst hD; subst hy
  show G X 10 0 [(0, .ref a), (1, .int p0), (2, .int p1)] [] h 0 0
  unfold fX6_shipOver at e
  refine g_aload_n 0 o dX6_shipOver_0 rfl rfl ?_
  obtain ⟨x1, q1, e⟩ := ob e
  refine g_getN 0 o cf6 (by decide) mw_139 dX6_shipOver_1 q1 ?_
  refine g_iconst (v := 3) o dX6_shipOver_4 (by decide) ?_
  refine g_iload_n 1 o dX6_shipOver_5 rfl rfl ?_
  obtain ⟨_, k6, e⟩ := ob e
  obtain ⟨x6, h6, q6, e⟩ := ob2_s e
  refine g_callVv [.int 3, .int p0] o (mX3_wordOf q6) cf3 (ckO_s k6) mw_893 mw_894 mw_895 mw_8 mw_896 rfl yo_X3_wordOf rfl rfl (Nat.le_of_ble_eq_true rfl) ⟨by decide, by decide⟩ ⟨rfl, rfl⟩ dX6_shipOver_6 ⟨by decide, by decide⟩ ?_
  refine g_lstore_n [(3, .long x6), (0, .ref a), (1, .int p0), (2, .int p1)] o dX6_shipOver_9 rfl (by decide) rfl ?_
  refine g_aload_n 1 o dX6_shipOver_10 rfl rfl ?_
  obtain ⟨x11, q11, e⟩ := ob e
  refine g_getN 0 o cf6 (by decide) mw_139 dX6_shipOver_11 q11 ?_
  refine g_iconst (v := 3) o dX6_shipOver_14 (by decide) ?_
  refine g_iload_n 3 o dX6_shipOver_15 rfl rfl ?_
  obtain ⟨_, k16, e⟩ := ob e
  obtain ⟨x16, h16, q16, e⟩ := ob2_s e
  refine g_callVv [.int 3, .int p1] o (mX3_wordOf q16) cf3 (ckO_s k16) mw_893 mw_894 mw_895 mw_8 mw_896 rfl yo_X3_wordOf rfl rfl (Nat.le_of_ble_eq_true rfl) ⟨by decide, by decide⟩ ⟨rfl, rfl⟩ dX6_shipOver_16 ⟨by decide, by decide⟩ ?_
  refine g_lstore [(5, .long x16), (3, .long x6), (0, .ref a), (1, .int p0), (2, .int p1)] o dX6_shipOver_19 (by decide) rfl ?_
  refine g_lconst (v := 0) o dX6_shipOver_21 (by decide) ?_
  refine g_lstore [(7, .long 0), (5, .long x16), (3, .long x6), (0, .ref a), (1, .int p0), (2, .int p1)] o dX6_shipOver_22 (by decide) rfl ?_
  refine g_bipush (v := 30) o dX6_shipOver_24 (by decide) ?_
  refine g_istore [(9, .int 30), (7, .long 0), (5, .long x16), (3, .long x6), (0, .ref a), (1, .int p0), (2, .int p1)] o dX6_shipOver_26 (by decide) rfl ?_
  refine g_sb [4, 3, 2, 1, 0] rfl ?_
  exact kX6_shipOver_28 f0 o f0 a x6 x16 0 30 h16 r hz q e
theorem yo_X11_over : yok yX11_over 2 := ⟨by decide, by decide, by decide +kernel⟩
set_option maxRecDepth 100000 in
set_option maxHeartbeats 4000000 in
theorem mX11_over {l : Launch} {D : va_G} {cy : Nat → ClassId} {f0 : Nat} {a : Nat} {p0 : Int32} {p1 : Int32} {h : Hp} {r : Int32} {hz : Hp} (e : fX11_over f0 a p0 p1 h = some (r, hz)) : MC l D cy yX11_over cX11_over 3 (some .int) rmX11_over [.ref a, .int p0, .int p1] h (some (.int r)) hz := by
  refine mc_of2 (by decide) (Nat.le_of_ble_eq_true rfl) (fun X hl hD hy hin o q => ?_)
  subst hl; subst hD; subst hy
  show G X 3 0 [(0, .ref a), (1, .int p0), (2, .int p1)] [] h 0 0
  unfold fX11_over at e
  refine g_aload_n 0 o dX11_over_0 rfl rfl ?_
  obtain ⟨x1, q1, e⟩ := ob e
  refine g_getN 4 o cf11 (by decide) mw_368 dX11_over_1 q1 ?_
  refine g_iconst (v := 3) o dX11_over_4 (by decide) ?_
  refine g_iload_n 1 o dX11_over_5 rfl rfl ?_
  obtain ⟨_, k6, e⟩ := ob e
  obtain ⟨x6, h6, q6, e⟩ := ob2_s e
  refine g_callVv [.int 3, .int p0] o (mX6_has q6) cf6 (ckO_s k6) mw_824 mw_682 mw_683 mw_7 mw_684 rfl yo_X6_has rfl rfl (Nat.le_of_ble_eq_true rfl) ⟨by decide, by decide⟩ ⟨rfl, rfl⟩ dX11_over_6 ⟨by decide, by decide⟩ ?_
  refine g_if_eq (x := x6) 41 o dX11_over_9 (by decide) (fun u => ?_) (fun u => ?_)
  · rw [if_pos u] at e
    refine g_iconst (v := -1) o dX11_over_41 (by decide) ?_
    exact g_iret o dX11_over_42 (rt_v q e)
  · rw [if_neg u] at e
    refine g_aload_n 0 o dX11_over_12 rfl rfl ?_
    obtain ⟨x13, q13, e⟩ := ob e
    refine g_getN 4 o cf11 (by decide) mw_368 dX11_over_13 q13 ?_
    refine g_iconst (v := 3) o dX11_over_16 (by decide) ?_
    refine g_iload_n 2 o dX11_over_17 rfl rfl ?_
    obtain ⟨_, k18, e⟩ := ob e
    obtain ⟨x18, h18, q18, e⟩ := ob2_s e
    refine g_callVv [.int 3, .int p1] o (mX6_has q18) cf6 (ckO_s k18) mw_824 mw_682 mw_683 mw_7 mw_684 rfl yo_X6_has rfl rfl (Nat.le_of_ble_eq_true rfl) ⟨by decide, by decide⟩ ⟨rfl, rfl⟩ dX11_over_18 ⟨by decide, by decide⟩ ?_
    refine g_if_eq (x := x18) 41 o dX11_over_21 (by decide) (fun u => ?_) (fun u => ?_)
    · rw [if_pos u] at e
      refine g_iconst (v := -1) o dX11_over_41 (by decide) ?_
      exact g_iret o dX11_over_42 (rt_v q e)
    · rw [if_neg u] at e
      refine g_iload_n 1 o dX11_over_24 rfl rfl ?_
      refine g_iload_n 2 o dX11_over_25 rfl rfl ?_
      refine g_icmp_eq (x := p0) (y := p1) 41 o dX11_over_26 (by decide) (fun u => ?_) (fun u => ?_)
      · rw [if_pos u] at e
        refine g_iconst (v := -1) o dX11_over_41 (by decide) ?_
        exact g_iret o dX11_over_42 (rt_v q e)
      · rw [if_neg u] at e
        refine g_aload_n 0 o dX11_over_29 rfl rfl ?_
        obtain ⟨x30, q30, e⟩ := ob e
        refine g_getN 4 o cf11 (by decide) mw_368 dX11_over_30 q30 ?_
        refine g_iload_n 1 o dX11_over_33 rfl rfl ?_
        refine g_iload_n 2 o dX11_over_34 rfl rfl ?_
        obtain ⟨_, k35, e⟩ := ob e
        obtain ⟨x35, h35, q35, e⟩ := ob2_s e
        refine g_callVv [.int p0, .int p1] o (mX6_shipOver q35) cf6 (ckO_s k35) mw_889 mw_890 mw_891 mw_7 mw_892 rfl yo_X6_shipOver rfl rfl (Nat.le_of_ble_eq_true rfl) ⟨by decide, by decide⟩ ⟨rfl, rfl⟩ dX11_over_35 ⟨by decide, by decide⟩ ?_
        refine g_goto 42 o dX11_over_38 (by decide) ?_
        exact g_iret o dX11_over_42 (rt_v q e)
set_option maxRecDepth 100000 in
set_option maxHeartbeats 4000000 in
theorem kX11_mixed_86 {X : Cx} (f0 : Nat) (g4 : Nat → Int32 → Int32 → Int32 → Hp → Option (Int32 × Hp)) (g22 : Nat → Int32 → Int32 → Int32 → Int32 → Hp → Option (Int32 × Hp)) (i4 : ∀ (v02 : Nat) (v12 : Int32) (v22 : Int32) (v32 : Int32) (h2 : Hp) (r : Int32) (hz : Hp), Rt X (some (.int r)) hz 0 0 → g4 v02 v12 v22 v32 h2 = some (r, hz) → G X 6 4 [(0, .ref v02), (1, .int v12), (2, .int v22), (3, .int v32)] [] h2 0 0) (i22 : ∀ (v02 : Nat) (v12 : Int32) (v22 : Int32) (v32 : Int32) (v42 : Int32) (h2 : Hp) (r : Int32) (hz : Hp), Rt X (some (.int r)) hz 0 0 → g22 v02 v12 v22 v32 v42 h2 = some (r, hz) → G X 6 22 [(0, .ref v02), (1, .int v12), (2, .int v22), (3, .int v32), (4, .int v42)] [] h2 0 0) (o : Ok X cX11_mixed RX11 6 rmX11_mixed (some .int)) (v0 : Nat) (v1 : Int32) (v2 : Int32) (v3 : Int32) (v4 : Int32) (h : Hp) (r : Int32) (hz : Hp) (q : Rt X (some (.int r)) hz 0 0) (e : bX11_mixed_86 f0 g4 g22 v0 v1 v2 v3 v4 h = some (r, hz)) : G X 6 86 [(0, .ref v0), (1, .int v1), (2, .int v2), (3, .int v3), (4, .int v4)] [] h 0 0 := by
  unfold bX11_mixed_86 at e
  refine g_iinc (k := 4) (v := (v4 + 1)) [(4, .int (v4 + 1)), (0, .ref v0), (1, .int v1), (2, .int v2), (3, .int v3)] o dX11_mixed_86 rfl rfl (by decide) rfl ?_
  refine g_goto 22 o dX11_mixed_89 (by decide) ?_
  refine g_sb [1, 2, 3, 4, 0] rfl ?_
  exact i22 v0 v1 v2 v3 (v4 + 1) h r hz q e
set_option maxRecDepth 100000 in
set_option maxHeartbeats 4000000 in
theorem kX11_mixed_22 {X : Cx} (f0 : Nat) (g4 : Nat → Int32 → Int32 → Int32 → Hp → Option (Int32 × Hp)) (i4 : ∀ (v02 : Nat) (v12 : Int32) (v22 : Int32) (v32 : Int32) (h2 : Hp) (r : Int32) (hz : Hp), Rt X (some (.int r)) hz 0 0 → g4 v02 v12 v22 v32 h2 = some (r, hz) → G X 6 4 [(0, .ref v02), (1, .int v12), (2, .int v22), (3, .int v32)] [] h2 0 0) (o : Ok X cX11_mixed RX11 6 rmX11_mixed (some .int)) (f : Nat) (v0 : Nat) (v1 : Int32) (v2 : Int32) (v3 : Int32) (v4 : Int32) (h : Hp) (r : Int32) (hz : Hp) (q : Rt X (some (.int r)) hz 0 0) (e : bX11_mixed_22 f0 g4 f v0 v1 v2 v3 v4 h = some (r, hz)) : G X 6 22 [(0, .ref v0), (1, .int v1), (2, .int v2), (3, .int v3), (4, .int v4)] [] h 0 0 := by
  induction f generalizing v0 v1 v2 v3 v4 h r hz with
  | zero => cases e
  | succ f1 ih =>
    unfold bX11_mixed_22 at e
    refine g_iload 4 o dX11_mixed_22 rfl ?_
    refine g_aload_n 0 o dX11_mixed_24 rfl rfl ?_
    obtain ⟨x25, q25, e⟩ := ob e
    refine g_getN 4 o cf11 (by decide) mw_368 dX11_mixed_25 q25 ?_
    obtain ⟨x28, q28, e⟩ := ob e
    refine g_getN 1 o cf6 (by decide) mw_147 dX11_mixed_28 q28 ?_
    refine g_iconst (v := 3) o dX11_mixed_31 (by decide) ?_
    obtain ⟨x32, q32, e⟩ := ob e
    refine g_iald o dX11_mixed_32 q32 ?_
    refine g_icmp_ge (x := v4) (y := x32) 92 o dX11_mixed_33 (by decide) (fun u => ?_) (fun u => ?_)
    · rw [if_pos u] at e
      refine g_iinc (k := 3) (v := (v3 + 1)) [(3, .int (v3 + 1)), (0, .ref v0), (1, .int v1), (2, .int v2), (4, .int v4)] o dX11_mixed_92 rfl rfl (by decide) rfl ?_
      refine g_goto 4 o dX11_mixed_95 (by decide) ?_
      refine g_sb [1, 2, 3, 0] rfl ?_
      exact i4 v0 v1 v2 (v3 + 1) h r hz q e
    · rw [if_neg u] at e
      refine g_aload_n 0 o dX11_mixed_36 rfl rfl ?_
      obtain ⟨x37, q37, e⟩ := ob e
      refine g_getN 4 o cf11 (by decide) mw_368 dX11_mixed_37 q37 ?_
      refine g_iload_n 3 o dX11_mixed_40 rfl rfl ?_
      refine g_iload 4 o dX11_mixed_41 rfl ?_
      obtain ⟨_, k43, e⟩ := ob e
      obtain ⟨x43, h43, q43, e⟩ := ob2_s e
      refine g_callVv [.int v3, .int v4] o (mX6_shipOver q43) cf6 (ckO_s k43) mw_889 mw_890 mw_891 mw_7 mw_892 rfl yo_X6_shipOver rfl rfl (Nat.le_of_ble_eq_true rfl) ⟨by decide, by decide⟩ ⟨rfl, rfl⟩ dX11_mixed_43 ⟨by decide, by decide⟩ ?_
      refine g_istore [(5, .int x43), (0, .ref v0), (1, .int v1), (2, .int v2), (3, .int v3), (4, .int v4)] o dX11_mixed_46 (by decide) rfl ?_
      refine g_iload 0 o dX11_mixed_48 rfl ?_
      refine g_iconst (v := -1) o dX11_mixed_50 (by decide) ?_
      refine g_icmp_eq (x := x43) (y := (-1)) 86 o dX11_mixed_51 (by decide) (fun u => ?_) (fun u => ?_)
      · rw [if_pos u] at e
        refine g_sb [1, 2, 3, 4, 5] rfl ?_
        exact kX11_mixed_86 f0 g4 (bX11_mixed_22 f0 g4 f1) i4 ih o v0 v1 v2 v3 v4 h43 r hz q e
      · rw [if_neg u] at e
        refine g_iload 0 o dX11_mixed_54 rfl ?_
        refine g_iload_n 4 o dX11_mixed_56 rfl rfl ?_
        refine g_icmp_eq (x := x43) (y := v3) 86 o dX11_mixed_57 (by decide) (fun u => ?_) (fun u => ?_)
        · rw [if_pos u] at e
          refine g_sb [1, 2, 3, 4, 5] rfl ?_
          exact kX11_mixed_86 f0 g4 (bX11_mixed_22 f0 g4 f1) i4 ih o v0 v1 v2 v3 v4 h43 r hz q e
        · rw [if_neg u] at e
          refine g_iload 0 o dX11_mixed_60 rfl ?_
          refine g_iload 5 o dX11_mixed_62 rfl ?_
          refine g_icmp_ne (x := x43) (y := v4) 70 o dX11_mixed_64 (by decide) (fun u => ?_) (fun u => ?_)
          · rw [if_neg u] at e
            refine g_iload_n 3 o dX11_mixed_70 rfl rfl ?_
            refine g_iload_n 2 o dX11_mixed_71 rfl rfl ?_
            refine g_icmp_ne (x := v2) (y := v1) 83 o dX11_mixed_72 (by decide) (fun u => ?_) (fun u => ?_)
            · rw [if_neg u] at e
              refine g_iinc (k := 3) (v := (v2 + 1)) [(2, .int (v2 + 1)), (5, .int x43), (0, .ref v0), (1, .int v1), (3, .int v3), (4, .int v4)] o dX11_mixed_83 rfl rfl (by decide) rfl ?_
              refine g_sb [2, 3, 0, 4, 5] rfl ?_
              exact kX11_mixed_86 f0 g4 (bX11_mixed_22 f0 g4 f1) i4 ih o v0 v1 (v2 + 1) v3 v4 h43 r hz q e
            · rw [if_pos u] at e
              refine g_bipush (v := 10) o dX11_mixed_75 (by decide) ?_
              refine g_iload_n 4 o dX11_mixed_77 rfl rfl ?_
              refine g_imul (x := (10 : Int32)) (y := v3) o dX11_mixed_78 ?_
              refine g_iload 5 o dX11_mixed_79 rfl ?_
              refine g_iadd (x := ((10 : Int32) * v3)) (y := v4) o dX11_mixed_81 ?_
              exact g_iret o dX11_mixed_82 (rt_v q e)
          · rw [if_pos u] at e
            refine g_goto 86 o dX11_mixed_67 (by decide) ?_
            refine g_sb [1, 2, 3, 4, 5] rfl ?_
            exact kX11_mixed_86 f0 g4 (bX11_mixed_22 f0 g4 f1) i4 ih o v0 v1 v2 v3 v4 h43 r hz q e
set_option maxRecDepth 100000 in
set_option maxHeartbeats 4000000 in
theorem kX11_mixed_4 {X : Cx} (f0 : Nat) (o : Ok X cX11_mixed RX11 6 rmX11_mixed (some .int)) (f : Nat) (v0 : Nat) (v1 : Int32) (v2 : Int32) (v3 : Int32) (h : Hp) (r : Int32) (hz : Hp) (q : Rt X (some (.int r)) hz 0 0) (e : bX11_mixed_4 f0 f v0 v1 v2 v3 h = some (r, hz)) : G X 6 4 [(0, .ref v0), (1, .int v1), (2, .int v2), (3, .int v3)] [] h 0 0 := by
  induction f generalizing v0 v1 v2 v3 h r hz with
  | zero => cases e
  | succ f1 ih =>
    unfold bX11_mixed_4 at e
    refine g_iload_n 3 o dX11_mixed_4 rfl rfl ?_
    refine g_aload_n 0 o dX11_mixed_5 rfl rfl ?_
    obtain ⟨x6, q6, e⟩ := ob e
    refine g_getN 4 o cf11 (by decide) mw_368 dX11_mixed_6 q6 ?_
    obtain ⟨x9, q9, e⟩ := ob e
    refine g_getN 1 o cf6 (by decide) mw_147 dX11_mixed_9 q9 ?_
    refine g_iconst (v := 3) o dX11_mixed_12 (by decide) ?_
    obtain ⟨x13, q13, e⟩ := ob e
    refine g_iald o dX11_mixed_13 q13 ?_
    refine g_icmp_ge (x := v3) (y := x13) 98 o dX11_mixed_14 (by decide) (fun u => ?_) (fun u => ?_)
    · rw [if_pos u] at e
      refine g_iload_n 1 o dX11_mixed_98 rfl rfl ?_
      refine g_iconst (v := -1) o dX11_mixed_99 (by decide) ?_
      refine g_icmp_ne (x := v1) (y := (-1)) 107 o dX11_mixed_100 (by decide) (fun u => ?_) (fun u => ?_)
      · rw [if_neg u] at e
        refine g_iconst (v := -1) o dX11_mixed_107 (by decide) ?_
        exact g_iret o dX11_mixed_108 (rt_v q e)
      · rw [if_pos u] at e
        refine g_iload_n 2 o dX11_mixed_103 rfl rfl ?_
        refine g_goto 108 o dX11_mixed_104 (by decide) ?_
        exact g_iret o dX11_mixed_108 (rt_v q e)
    · rw [if_neg u] at e
      refine g_iload_n 3 o dX11_mixed_17 rfl rfl ?_
      refine g_iconst (v := 1) o dX11_mixed_18 (by decide) ?_
      refine g_iadd (x := v3) (y := 1) o dX11_mixed_19 ?_
      refine g_istore [(4, .int (v3 + 1)), (0, .ref v0), (1, .int v1), (2, .int v2), (3, .int v3)] o dX11_mixed_20 (by decide) rfl ?_
      refine g_sb [1, 2, 3, 4, 0] rfl ?_
      exact kX11_mixed_22 f0 (bX11_mixed_4 f0 f1) ih o f0 v0 v1 v2 v3 (v3 + 1) h r hz q e
theorem yo_X11_mixed : yok yX11_mixed 1 := ⟨by decide, by decide, by decide +kernel⟩
set_option maxRecDepth 100000 in
set_option maxHeartbeats 4000000 in
theorem mX11_mixed {l : Launch} {D : va_G} {cy : Nat → ClassId} {f0 : Nat} {a : Nat} {p0 : Int32} {h : Hp} {r : Int32} {hz : Hp} (e : fX11_mixed f0 a p0 h = some (r, hz)) : MC l D cy yX11_mixed cX11_mixed 6 (some .int) rmX11_mixed [.ref a, .int p0] h (some (.int r)) hz := by
  refine mc_of2 (by decide) (Nat.le_of_ble_eq_true rfl) (fun X hl hD hy hin o q => ?_)
  subst hl; subst hD; subst hy
  show G X 6 0 [(0, .ref a), (1, .int p0)] [] h 0 0
  unfold fX11_mixed at e
  refine g_iconst (v := 0) o dX11_mixed_0 (by decide) ?_
  refine g_istore_n [(2, .int 0), (0, .ref a), (1, .int p0)] o dX11_mixed_1 rfl (by decide) rfl ?_
  refine g_iconst (v := 0) o dX11_mixed_2 (by decide) ?_
  refine g_istore_n [(3, .int 0), (2, .int 0), (0, .ref a), (1, .int p0)] o dX11_mixed_3 rfl (by decide) rfl ?_
  refine g_sb [2, 3, 1, 0] rfl ?_
  exact kX11_mixed_4 f0 o f0 a p0 0 0 h r hz q e
theorem yo_X11_now : yok yX11_now 1 := ⟨by decide, by decide, by decide +kernel⟩
set_option maxRecDepth 100000 in
set_option maxHeartbeats 4000000 in
theorem mX11_now {l : Launch} {D : va_G} {cy : Nat → ClassId} {f0 : Nat} {a : Nat} {p0 : Int32} {h : Hp} {r : Int32} {hz : Hp} (e : fX11_now f0 a p0 h = some (r, hz)) : MC l D cy yX11_now cX11_now 2 (some .int) rmX11_now [.ref a, .int p0] h (some (.int r)) hz := by
  refine mc_of2 (by decide) (Nat.le_of_ble_eq_true rfl) (fun X hl hD hy hin o q => ?_)
  subst hl; subst hD; subst hy
  show G X 2 0 [(0, .ref a), (1, .int p0)] [] h 0 0
  unfold fX11_now at e
  refine g_iload_n 1 o dX11_now_0 rfl rfl ?_
  by_cases u0 : p0 = 0
  · rw [if_pos u0] at e
    refine g_tabAt (x := p0) 0 48 o dX11_now_1 u0 (by decide) (by decide) (by decide) (by decide) ?_
    refine g_aload_n 0 o dX11_now_48 rfl rfl ?_
    obtain ⟨x49, q49, e⟩ := ob e
    refine g_getN 11 o cf11 (by decide) mw_375 dX11_now_49 q49 ?_
    obtain ⟨x52, q52, e⟩ := ob e
    refine g_getI 1 o cf10 (by decide) mw_280 dX11_now_52 q52 ?_
    exact g_iret o dX11_now_55 (rt_v q e)
  rw [if_neg u0] at e
  by_cases u1 : p0 = 1
  · rw [if_pos u1] at e
    refine g_tabAt (x := p0) 1 56 o dX11_now_1 u1 (by decide) (by decide) (by decide) (by decide) ?_
    refine g_aload_n 0 o dX11_now_56 rfl rfl ?_
    obtain ⟨x57, q57, e⟩ := ob e
    refine g_getN 11 o cf11 (by decide) mw_375 dX11_now_57 q57 ?_
    obtain ⟨x60, q60, e⟩ := ob e
    refine g_getI 2 o cf10 (by decide) mw_283 dX11_now_60 q60 ?_
    exact g_iret o dX11_now_63 (rt_v q e)
  rw [if_neg u1] at e
  by_cases u2 : p0 = 2
  · rw [if_pos u2] at e
    refine g_tabAt (x := p0) 2 64 o dX11_now_1 u2 (by decide) (by decide) (by decide) (by decide) ?_
    refine g_aload_n 0 o dX11_now_64 rfl rfl ?_
    obtain ⟨x65, q65, e⟩ := ob e
    refine g_getN 11 o cf11 (by decide) mw_375 dX11_now_65 q65 ?_
    obtain ⟨x68, q68, e⟩ := ob e
    refine g_getI 3 o cf10 (by decide) mw_285 dX11_now_68 q68 ?_
    exact g_iret o dX11_now_71 (rt_v q e)
  rw [if_neg u2] at e
  by_cases u3 : p0 = 3
  · rw [if_pos u3] at e
    refine g_tabAt (x := p0) 3 72 o dX11_now_1 u3 (by decide) (by decide) (by decide) (by decide) ?_
    refine g_aload_n 0 o dX11_now_72 rfl rfl ?_
    obtain ⟨x73, q73, e⟩ := ob e
    refine g_getN 11 o cf11 (by decide) mw_375 dX11_now_73 q73 ?_
    obtain ⟨x76, q76, e⟩ := ob e
    refine g_getI 4 o cf10 (by decide) mw_287 dX11_now_76 q76 ?_
    exact g_iret o dX11_now_79 (rt_v q e)
  rw [if_neg u3] at e
  by_cases u4 : p0 = 4
  · rw [if_pos u4] at e
    refine g_tabAt (x := p0) 4 80 o dX11_now_1 u4 (by decide) (by decide) (by decide) (by decide) ?_
    refine g_aload_n 0 o dX11_now_80 rfl rfl ?_
    obtain ⟨x81, q81, e⟩ := ob e
    refine g_getN 11 o cf11 (by decide) mw_375 dX11_now_81 q81 ?_
    obtain ⟨x84, q84, e⟩ := ob e
    refine g_getI 5 o cf10 (by decide) mw_289 dX11_now_84 q84 ?_
    exact g_iret o dX11_now_87 (rt_v q e)
  rw [if_neg u4] at e
  by_cases u5 : p0 = 5
  · rw [if_pos u5] at e
    refine g_tabAt (x := p0) 5 88 o dX11_now_1 u5 (by decide) (by decide) (by decide) (by decide) ?_
    refine g_aload_n 0 o dX11_now_88 rfl rfl ?_
    obtain ⟨x89, q89, e⟩ := ob e
    refine g_getN 11 o cf11 (by decide) mw_375 dX11_now_89 q89 ?_
    obtain ⟨x92, q92, e⟩ := ob e
    refine g_getI 6 o cf10 (by decide) mw_292 dX11_now_92 q92 ?_
    refine g_if_eq (x := x92) 102 o dX11_now_95 (by decide) (fun u => ?_) (fun u => ?_)
    · rw [if_pos u] at e
      refine g_iconst (v := 0) o dX11_now_102 (by decide) ?_
      exact g_iret o dX11_now_103 (rt_v q e)
    · rw [if_neg u] at e
      refine g_iconst (v := 1) o dX11_now_98 (by decide) ?_
      refine g_goto 103 o dX11_now_99 (by decide) ?_
      exact g_iret o dX11_now_103 (rt_v q e)
  rw [if_neg u5] at e
  by_cases u6 : p0 = 6
  · rw [if_pos u6] at e
    refine g_tabAt (x := p0) 6 104 o dX11_now_1 u6 (by decide) (by decide) (by decide) (by decide) ?_
    refine g_aload_n 0 o dX11_now_104 rfl rfl ?_
    obtain ⟨x105, q105, e⟩ := ob e
    refine g_getN 11 o cf11 (by decide) mw_375 dX11_now_105 q105 ?_
    obtain ⟨x108, q108, e⟩ := ob e
    refine g_getI 7 o cf10 (by decide) mw_294 dX11_now_108 q108 ?_
    exact g_iret o dX11_now_111 (rt_v q e)
  rw [if_neg u6] at e
  by_cases u7 : p0 = 7
  · rw [if_pos u7] at e
    refine g_tabAt (x := p0) 7 112 o dX11_now_1 u7 (by decide) (by decide) (by decide) (by decide) ?_
    refine g_aload_n 0 o dX11_now_112 rfl rfl ?_
    obtain ⟨x113, q113, e⟩ := ob e
    refine g_getN 11 o cf11 (by decide) mw_375 dX11_now_113 q113 ?_
    obtain ⟨x116, q116, e⟩ := ob e
    refine g_getI 8 o cf10 (by decide) mw_296 dX11_now_116 q116 ?_
    exact g_iret o dX11_now_119 (rt_v q e)
  rw [if_neg u7] at e
  refine g_tabOut (x := p0) 120 o dX11_now_1 (by have n0 := tb_ne 0 0 (by decide) u0; have n1 := tb_ne 1 1 (by decide) u1; have n2 := tb_ne 2 2 (by decide) u2; have n3 := tb_ne 3 3 (by decide) u3; have n4 := tb_ne 4 4 (by decide) u4; have n5 := tb_ne 5 5 (by decide) u5; have n6 := tb_ne 6 6 (by decide) u6; have n7 := tb_ne 7 7 (by decide) u7; omega) (by decide) ?_
  refine g_iconst (v := -1) o dX11_now_120 (by decide) ?_
  exact g_iret o dX11_now_121 (rt_v q e)
theorem yo_X11_man : yok yX11_man 1 := ⟨by decide, by decide, by decide +kernel⟩
set_option maxRecDepth 100000 in
set_option maxHeartbeats 4000000 in
theorem mX11_man {l : Launch} {D : va_G} {cy : Nat → ClassId} {f0 : Nat} {a : Nat} {p0 : Int32} {h : Hp} {r : Int32} {hz : Hp} (e : fX11_man f0 a p0 h = some (r, hz)) : MC l D cy yX11_man cX11_man 2 (some .int) rmX11_man [.ref a, .int p0] h (some (.int r)) hz := by
  refine mc_of2 (by decide) (Nat.le_of_ble_eq_true rfl) (fun X hl hD hy hin o q => ?_)
  subst hl; subst hD; subst hy
  show G X 2 0 [(0, .ref a), (1, .int p0)] [] h 0 0
  unfold fX11_man at e
  refine g_aload_n 0 o dX11_man_0 rfl rfl ?_
  obtain ⟨x1, q1, e⟩ := ob e
  refine g_getN 4 o cf11 (by decide) mw_368 dX11_man_1 q1 ?_
  refine g_iconst (v := 5) o dX11_man_4 (by decide) ?_
  refine g_iload_n 1 o dX11_man_5 rfl rfl ?_
  obtain ⟨_, k6, e⟩ := ob e
  obtain ⟨x6, h6, q6, e⟩ := ob2_s e
  refine g_callVv [.int 5, .int p0] o (mX6_has q6) cf6 (ckO_s k6) mw_824 mw_682 mw_683 mw_7 mw_684 rfl yo_X6_has rfl rfl (Nat.le_of_ble_eq_true rfl) ⟨by decide, by decide⟩ ⟨rfl, rfl⟩ dX11_man_6 ⟨by decide, by decide⟩ ?_
  refine g_if_eq (x := x6) 24 o dX11_man_9 (by decide) (fun u => ?_) (fun u => ?_)
  · rw [if_pos u] at e
    refine g_iconst (v := -1) o dX11_man_24 (by decide) ?_
    exact g_iret o dX11_man_25 (rt_v q e)
  · rw [if_neg u] at e
    refine g_aload_n 0 o dX11_man_12 rfl rfl ?_
    obtain ⟨x13, q13, e⟩ := ob e
    refine g_getN 11 o cf11 (by decide) mw_375 dX11_man_13 q13 ?_
    obtain ⟨x16, q16, e⟩ := ob e
    refine g_getN 11 o cf10 (by decide) mw_301 dX11_man_16 q16 ?_
    refine g_iload_n 1 o dX11_man_19 rfl rfl ?_
    obtain ⟨x20, q20, e⟩ := ob e
    refine g_iald o dX11_man_20 q20 ?_
    refine g_goto 25 o dX11_man_21 (by decide) ?_
    exact g_iret o dX11_man_25 (rt_v q e)
theorem yo_X10_hasMenFor : yok yX10_hasMenFor 1 := ⟨by decide, by decide, by decide +kernel⟩
set_option maxRecDepth 100000 in
set_option maxHeartbeats 4000000 in
theorem mX10_hasMenFor {l : Launch} {D : va_G} {cy : Nat → ClassId} {f0 : Nat} {a : Nat} {p0 : Int32} {h : Hp} {r : Int32} {hz : Hp} (e : fX10_hasMenFor f0 a p0 h = some (r, hz)) : MC l D cy yX10_hasMenFor cX10_hasMenFor 2 (some .boolean) rmX10_hasMenFor [.ref a, .int p0] h (some (.int r)) hz := by
  refine mc_of2 (by decide) (Nat.le_of_ble_eq_true rfl) (fun X hl hD hy hin o q => ?_)
  subst hl; subst hD; subst hy
  show G X 2 0 [(0, .ref a), (1, .int p0)] [] h 0 0
  unfold fX10_hasMenFor at e
  refine g_aload_n 0 o dX10_hasMenFor_0 rfl rfl ?_
  obtain ⟨x1, q1, e⟩ := ob e
  refine g_getN 0 o cf10 (by decide) mw_276 dX10_hasMenFor_1 q1 ?_
  obtain ⟨x4, q4, e⟩ := ob e
  refine g_getN 10 o cf6 (by decide) mw_174 dX10_hasMenFor_4 q4 ?_
  refine g_iload_n 1 o dX10_hasMenFor_7 rfl rfl ?_
  obtain ⟨x8, q8, e⟩ := ob e
  refine g_iald o dX10_hasMenFor_8 q8 ?_
  obtain ⟨x9, h9, q9, e⟩ := ob2_s e
  refine g_callSv [.int x8] o (mJ6_bitCount_0f7a4 q9) mw_755 mw_698 mw_25 mw_699 yo_J6_bitCount_0f7a4 rfl rfl (Nat.le_of_ble_eq_true rfl) ⟨by decide, by decide⟩ ⟨rfl, rfl⟩ dX10_hasMenFor_9 ⟨by decide, by decide⟩ ?_
  refine g_aload_n 0 o dX10_hasMenFor_12 rfl rfl ?_
  obtain ⟨x13, q13, e⟩ := ob e
  refine g_getN 0 o cf10 (by decide) mw_276 dX10_hasMenFor_13 q13 ?_
  obtain ⟨x16, q16, e⟩ := ob e
  refine g_getN 1 o cf6 (by decide) mw_144 dX10_hasMenFor_16 q16 ?_
  refine g_iconst (v := 5) o dX10_hasMenFor_19 (by decide) ?_
  obtain ⟨x20, q20, e⟩ := ob e
  refine g_iald o dX10_hasMenFor_20 q20 ?_
  refine g_icmp_gt (x := x9) (y := x20) 28 o dX10_hasMenFor_21 (by decide) (fun u => ?_) (fun u => ?_)
  · rw [if_pos u] at e
    refine g_iconst (v := 0) o dX10_hasMenFor_28 (by decide) ?_
    exact g_zret o dX10_hasMenFor_29 (zr_s e).1 (rt_v q (zr_s e).2)
  · rw [if_neg u] at e
    refine g_iconst (v := 1) o dX10_hasMenFor_24 (by decide) ?_
    refine g_goto 29 o dX10_hasMenFor_25 (by decide) ?_
    exact g_zret o dX10_hasMenFor_29 (zr_s e).1 (rt_v q (zr_s e).2)
theorem yo_X11_lacks : yok yX11_lacks 1 := ⟨by decide, by decide, by decide +kernel⟩
set_option maxRecDepth 100000 in
set_option maxHeartbeats 4000000 in
theorem mX11_lacks {l : Launch} {D : va_G} {cy : Nat → ClassId} {f0 : Nat} {a : Nat} {p0 : Int32} {h : Hp} {r : Int32} {hz : Hp} (e : fX11_lacks f0 a p0 h = some (r, hz)) : MC l D cy yX11_lacks cX11_lacks 2 (some .int) rmX11_lacks [.ref a, .int p0] h (some (.int r)) hz := by
  refine mc_of2 (by decide) (Nat.le_of_ble_eq_true rfl) (fun X hl hD hy hin o q => ?_)
  subst hl; subst hD; subst hy
  show G X 2 0 [(0, .ref a), (1, .int p0)] [] h 0 0
  unfold fX11_lacks at e
  refine g_aload_n 0 o dX11_lacks_0 rfl rfl ?_
  obtain ⟨x1, q1, e⟩ := ob e
  refine g_getN 4 o cf11 (by decide) mw_368 dX11_lacks_1 q1 ?_
  refine g_iconst (v := 3) o dX11_lacks_4 (by decide) ?_
  refine g_iload_n 1 o dX11_lacks_5 rfl rfl ?_
  obtain ⟨_, k6, e⟩ := ob e
  obtain ⟨x6, h6, q6, e⟩ := ob2_s e
  refine g_callVv [.int 3, .int p0] o (mX6_has q6) cf6 (ckO_s k6) mw_824 mw_682 mw_683 mw_7 mw_684 rfl yo_X6_has rfl rfl (Nat.le_of_ble_eq_true rfl) ⟨by decide, by decide⟩ ⟨rfl, rfl⟩ dX11_lacks_6 ⟨by decide, by decide⟩ ?_
  refine g_if_eq (x := x6) 23 o dX11_lacks_9 (by decide) (fun u => ?_) (fun u => ?_)
  · rw [if_pos u] at e
    refine g_iconst (v := -1) o dX11_lacks_23 (by decide) ?_
    exact g_iret o dX11_lacks_24 (rt_v q e)
  · rw [if_neg u] at e
    refine g_aload_n 0 o dX11_lacks_12 rfl rfl ?_
    obtain ⟨x13, q13, e⟩ := ob e
    refine g_getN 11 o cf11 (by decide) mw_375 dX11_lacks_13 q13 ?_
    refine g_iload_n 1 o dX11_lacks_16 rfl rfl ?_
    obtain ⟨_, k17, e⟩ := ob e
    obtain ⟨x17, h17, q17, e⟩ := ob2_s e
    refine g_callVv [.int p0] o (mX10_hasMenFor q17) cf10 (ckO_s k17) mw_918 mw_919 mw_920 mw_13 mw_921 rfl yo_X10_hasMenFor rfl rfl (Nat.le_of_ble_eq_true rfl) ⟨by decide, by decide⟩ ⟨rfl, rfl⟩ dX11_lacks_17 ⟨by decide, by decide⟩ ?_
    refine g_if_ne (x := x17) 25 o dX11_lacks_20 (by decide) (fun u => ?_) (fun u => ?_)
    · rw [if_neg u] at e
      refine g_aload_n 0 o dX11_lacks_25 rfl rfl ?_
      obtain ⟨x26, q26, e⟩ := ob e
      refine g_getN 11 o cf11 (by decide) mw_375 dX11_lacks_26 q26 ?_
      refine g_aload_n 0 o dX11_lacks_29 rfl rfl ?_
      obtain ⟨x30, q30, e⟩ := ob e
      refine g_getN 4 o cf11 (by decide) mw_368 dX11_lacks_30 q30 ?_
      obtain ⟨x33, q33, e⟩ := ob e
      refine g_getN 10 o cf6 (by decide) mw_175 dX11_lacks_33 q33 ?_
      refine g_iload_n 1 o dX11_lacks_36 rfl rfl ?_
      obtain ⟨x37, q37, e⟩ := ob e
      refine g_iald o dX11_lacks_37 q37 ?_
      refine g_aload_n 0 o dX11_lacks_38 rfl rfl ?_
      obtain ⟨x39, q39, e⟩ := ob e
      refine g_getN 11 o cf11 (by decide) mw_375 dX11_lacks_39 q39 ?_
      obtain ⟨_, k42, e⟩ := ob e
      obtain ⟨x42, h42, q42, e⟩ := ob2_s e
      refine g_callVv [] o (mX10_allMen q42) cf10 (ckO_s k42) mw_922 mw_748 mw_749 mw_13 mw_750 rfl yo_X10_allMen rfl rfl (Nat.le_of_ble_eq_true rfl) ⟨by decide, by decide⟩ ⟨rfl, rfl⟩ dX11_lacks_42 ⟨by decide, by decide⟩ ?_
      obtain ⟨_, k45, e⟩ := ob e
      obtain ⟨x45, h45, q45, e⟩ := ob2_s e
      refine g_callVv [.int x37, .int x42] o (mX10_lacking q45) cf10 (ckO_s k45) mw_923 mw_752 mw_753 mw_13 mw_754 rfl yo_X10_lacking rfl rfl (Nat.le_of_ble_eq_true rfl) ⟨by decide, by decide⟩ ⟨rfl, rfl⟩ dX11_lacks_45 ⟨by decide, by decide⟩ ?_
      exact g_iret o dX11_lacks_48 (rt_v q e)
    · rw [if_pos u] at e
      refine g_iconst (v := -1) o dX11_lacks_23 (by decide) ?_
      exact g_iret o dX11_lacks_24 (rt_v q e)
set_option maxRecDepth 100000 in
set_option maxHeartbeats 4000000 in
theorem kX10_firstFitting_81 {X : Cx} (f0 : Nat) (g11 : Nat → Int32 → Int32 → Int32 → Int32 → Int32 → Hp → Option (Int32 × Hp)) (i11 : ∀ (v02 : Nat) (v12 : Int32) (v22 : Int32) (v32 : Int32) (v42 : Int32) (v52 : Int32) (h2 : Hp) (r : Int32) (hz : Hp), Rt X (some (.int r)) hz 0 0 → g11 v02 v12 v22 v32 v42 v52 h2 = some (r, hz) → G X 7 11 [(0, .ref v02), (1, .int v12), (2, .int v22), (3, .int v32), (4, .int v42), (5, .int v52)] [] h2 0 0) (o : Ok X cX10_firstFitting RX10 7 rmX10_firstFitting (some .int)) (v0 : Nat) (v1 : Int32) (v2 : Int32) (v3 : Int32) (v4 : Int32) (v5 : Int32) (h : Hp) (r : Int32) (hz : Hp) (q : Rt X (some (.int r)) hz 0 0) (e : bX10_firstFitting_81 f0 g11 v0 v1 v2 v3 v4 v5 h = some (r, hz)) : G X 7 81 [(0, .ref v0), (1, .int v1), (2, .int v2), (3, .int v3), (4, .int v4), (5, .int v5)] [] h 0 0 := by
  unfold bX10_firstFitting_81 at e
  refine g_iinc (k := 5) (v := (v5 + 1)) [(5, .int (v5 + 1)), (0, .ref v0), (1, .int v1), (2, .int v2), (3, .int v3), (4, .int v4)] o dX10_firstFitting_81 rfl rfl (by decide) rfl ?_
  refine g_goto 11 o dX10_firstFitting_84 (by decide) ?_
  refine g_sb [1, 2, 3, 4, 5, 0] rfl ?_
  exact i11 v0 v1 v2 v3 v4 (v5 + 1) h r hz q e
set_option maxRecDepth 100000 in
set_option maxHeartbeats 4000000 in
theorem kX10_firstFitting_49 {X : Cx} (f0 : Nat) (g11 : Nat → Int32 → Int32 → Int32 → Int32 → Int32 → Hp → Option (Int32 × Hp)) (i11 : ∀ (v02 : Nat) (v12 : Int32) (v22 : Int32) (v32 : Int32) (v42 : Int32) (v52 : Int32) (h2 : Hp) (r : Int32) (hz : Hp), Rt X (some (.int r)) hz 0 0 → g11 v02 v12 v22 v32 v42 v52 h2 = some (r, hz) → G X 7 11 [(0, .ref v02), (1, .int v12), (2, .int v22), (3, .int v32), (4, .int v42), (5, .int v52)] [] h2 0 0) (o : Ok X cX10_firstFitting RX10 7 rmX10_firstFitting (some .int)) (v0 : Nat) (v1 : Int32) (v2 : Int32) (v3 : Int32) (v4 : Int32) (v5 : Int32) (s0 : Int32) (h : Hp) (r : Int32) (hz : Hp) (q : Rt X (some (.int r)) hz 0 0) (e : bX10_firstFitting_49 f0 g11 v0 v1 v2 v3 v4 v5 s0 h = some (r, hz)) : G X 7 49 [(0, .ref v0), (1, .int v1), (2, .int v2), (3, .int v3), (4, .int v4), (5, .int v5)] [.int s0] h 0 0 := by
  unfold bX10_firstFitting_49 at e
  refine g_istore [(6, .int s0), (0, .ref v0), (1, .int v1), (2, .int v2), (3, .int v3), (4, .int v4), (5, .int v5)] o dX10_firstFitting_49 (by decide) rfl ?_
  refine g_iload 0 o dX10_firstFitting_51 rfl ?_
  refine g_aload_n 1 o dX10_firstFitting_53 rfl rfl ?_
  refine g_iload_n 3 o dX10_firstFitting_54 rfl rfl ?_
  refine g_iconst (v := 1) o dX10_firstFitting_55 (by decide) ?_
  refine g_iload_n 2 o dX10_firstFitting_56 rfl rfl ?_
  refine g_ishl (x := (1 : Int32)) (y := v1) o dX10_firstFitting_57 ?_
  refine g_iconst (v := -1) o dX10_firstFitting_58 (by decide) ?_
  refine g_ixor (x := ((1 : Int32) <<< (v1 &&& 31))) (y := (-1)) o dX10_firstFitting_59 ?_
  refine g_iand (x := v2) (y := (((1 : Int32) <<< (v1 &&& 31)) ^^^ (-1))) o dX10_firstFitting_60 ?_
  refine g_iload_n 4 o dX10_firstFitting_61 rfl rfl ?_
  refine g_iconst (v := 1) o dX10_firstFitting_62 (by decide) ?_
  refine g_iload 6 o dX10_firstFitting_63 rfl ?_
  refine g_ishl (x := (1 : Int32)) (y := v5) o dX10_firstFitting_65 ?_
  refine g_iconst (v := -1) o dX10_firstFitting_66 (by decide) ?_
  refine g_ixor (x := ((1 : Int32) <<< (v5 &&& 31))) (y := (-1)) o dX10_firstFitting_67 ?_
  refine g_iand (x := v3) (y := (((1 : Int32) <<< (v5 &&& 31)) ^^^ (-1))) o dX10_firstFitting_68 ?_
  obtain ⟨_, k69, e⟩ := ob e
  obtain ⟨x69, h69, q69, e⟩ := ob2_s e
  refine g_callVv [.int (v2 &&& (((1 : Int32) <<< (v1 &&& 31)) ^^^ (-1))), .int (v3 &&& (((1 : Int32) <<< (v5 &&& 31)) ^^^ (-1)))] o (mX10_lacking q69) cf10 (ckO_s k69) mw_751 mw_752 mw_753 mw_13 mw_754 rfl yo_X10_lacking rfl rfl (Nat.le_of_ble_eq_true rfl) ⟨by decide, by decide⟩ ⟨rfl, rfl⟩ dX10_firstFitting_69 ⟨by decide, by decide⟩ ?_
  refine g_iadd (x := s0) (y := x69) o dX10_firstFitting_72 ?_
  refine g_iload 5 o dX10_firstFitting_73 rfl ?_
  refine g_icmp_ne (x := (s0 + x69)) (y := v4) 81 o dX10_firstFitting_75 (by decide) (fun u => ?_) (fun u => ?_)
  · rw [if_neg u] at e
    refine g_sb [1, 2, 3, 4, 5, 6] rfl ?_
    exact kX10_firstFitting_81 f0 g11 i11 o v0 v1 v2 v3 v4 v5 h69 r hz q e
  · rw [if_pos u] at e
    refine g_iload 6 o dX10_firstFitting_78 rfl ?_
    exact g_iret o dX10_firstFitting_80 (rt_v q e)
set_option maxRecDepth 100000 in
set_option maxHeartbeats 4000000 in
theorem kX10_firstFitting_11 {X : Cx} (f0 : Nat) (o : Ok X cX10_firstFitting RX10 7 rmX10_firstFitting (some .int)) (f : Nat) (v0 : Nat) (v1 : Int32) (v2 : Int32) (v3 : Int32) (v4 : Int32) (v5 : Int32) (h : Hp) (r : Int32) (hz : Hp) (q : Rt X (some (.int r)) hz 0 0) (e : bX10_firstFitting_11 f0 f v0 v1 v2 v3 v4 v5 h = some (r, hz)) : G X 7 11 [(0, .ref v0), (1, .int v1), (2, .int v2), (3, .int v3), (4, .int v4), (5, .int v5)] [] h 0 0 := by
  induction f generalizing v0 v1 v2 v3 v4 v5 h r hz with
  | zero => cases e
  | succ f1 ih =>
    unfold bX10_firstFitting_11 at e
    refine g_iload 5 o dX10_firstFitting_11 rfl ?_
    refine g_bipush (v := 8) o dX10_firstFitting_13 (by decide) ?_
    refine g_icmp_ge (x := v5) (y := 8) 87 o dX10_firstFitting_15 (by decide) (fun u => ?_) (fun u => ?_)
    · rw [if_pos u] at e
      refine g_iconst (v := -1) o dX10_firstFitting_87 (by decide) ?_
      exact g_iret o dX10_firstFitting_88 (rt_v q e)
    · rw [if_neg u] at e
      refine g_iload_n 3 o dX10_firstFitting_18 rfl rfl ?_
      refine g_iload 5 o dX10_firstFitting_19 rfl ?_
      refine g_ishr (x := v3) (y := v5) o dX10_firstFitting_21 ?_
      refine g_iconst (v := 1) o dX10_firstFitting_22 (by decide) ?_
      refine g_iand (x := (v3 >>> (v5 &&& 31))) (y := 1) o dX10_firstFitting_23 ?_
      refine g_if_ne (x := ((v3 >>> (v5 &&& 31)) &&& 1)) 30 o dX10_firstFitting_24 (by decide) (fun u => ?_) (fun u => ?_)
      · rw [if_neg u] at e
        refine g_aload_n 0 o dX10_firstFitting_30 rfl rfl ?_
        obtain ⟨x31, q31, e⟩ := ob e
        refine g_getN 11 o cf10 (by decide) mw_300 dX10_firstFitting_31 q31 ?_
        refine g_iload 5 o dX10_firstFitting_34 rfl ?_
        obtain ⟨x36, q36, e⟩ := ob e
        refine g_iald o dX10_firstFitting_36 q36 ?_
        refine g_iload_n 1 o dX10_firstFitting_37 rfl rfl ?_
        refine g_ishr (x := x36) (y := v1) o dX10_firstFitting_38 ?_
        refine g_iconst (v := 1) o dX10_firstFitting_39 (by decide) ?_
        refine g_iand (x := (x36 >>> (v1 &&& 31))) (y := 1) o dX10_firstFitting_40 ?_
        refine g_if_ne (x := ((x36 >>> (v1 &&& 31)) &&& 1)) 48 o dX10_firstFitting_41 (by decide) (fun u => ?_) (fun u => ?_)
        · rw [if_neg u] at e
          refine g_iconst (v := 0) o dX10_firstFitting_48 (by decide) ?_
          exact kX10_firstFitting_49 f0 (bX10_firstFitting_11 f0 f1) ih o v0 v1 v2 v3 v4 v5 0 h r hz q e
        · rw [if_pos u] at e
          refine g_iconst (v := 1) o dX10_firstFitting_44 (by decide) ?_
          refine g_goto 49 o dX10_firstFitting_45 (by decide) ?_
          exact kX10_firstFitting_49 f0 (bX10_firstFitting_11 f0 f1) ih o v0 v1 v2 v3 v4 v5 1 h r hz q e
      · rw [if_pos u] at e
        refine g_goto 81 o dX10_firstFitting_27 (by decide) ?_
        exact kX10_firstFitting_81 f0 (bX10_firstFitting_11 f0 f1) ih o v0 v1 v2 v3 v4 v5 h r hz q e
theorem yo_X10_firstFitting : yok yX10_firstFitting 3 := ⟨by decide, by decide, by decide +kernel⟩
set_option maxRecDepth 100000 in
set_option maxHeartbeats 4000000 in
theorem mX10_firstFitting {l : Launch} {D : va_G} {cy : Nat → ClassId} {f0 : Nat} {a : Nat} {p0 : Int32} {p1 : Int32} {p2 : Int32} {h : Hp} {r : Int32} {hz : Hp} (e : fX10_firstFitting f0 a p0 p1 p2 h = some (r, hz)) : MC l D cy yX10_firstFitting cX10_firstFitting 7 (some .int) rmX10_firstFitting [.ref a, .int p0, .int p1, .int p2] h (some (.int r)) hz := by
  refine mc_of2 (by decide) (Nat.le_of_ble_eq_true rfl) (fun X hl hD hy hin o q => ?_)
  subst hl; subst hD; subst hy
  show G X 7 0 [(0, .ref a), (1, .int p0), (2, .int p1), (3, .int p2)] [] h 0 0
  unfold fX10_firstFitting at e
  refine g_aload_n 0 o dX10_firstFitting_0 rfl rfl ?_
  refine g_iload_n 2 o dX10_firstFitting_1 rfl rfl ?_
  refine g_iload_n 3 o dX10_firstFitting_2 rfl rfl ?_
  obtain ⟨_, k3, e⟩ := ob e
  obtain ⟨x3, h3, q3, e⟩ := ob2_s e
  refine g_callVv [.int p1, .int p2] o (mX10_lacking q3) cf10 (ckO_s k3) mw_751 mw_752 mw_753 mw_13 mw_754 rfl yo_X10_lacking rfl rfl (Nat.le_of_ble_eq_true rfl) ⟨by decide, by decide⟩ ⟨rfl, rfl⟩ dX10_firstFitting_3 ⟨by decide, by decide⟩ ?_
  refine g_istore [(4, .int x3), (0, .ref a), (1, .int p0), (2, .int p1), (3, .int p2)] o dX10_firstFitting_6 (by decide) rfl ?_
  refine g_iconst (v := 0) o dX10_firstFitting_8 (by decide) ?_
  refine g_istore [(5, .int 0), (4, .int x3), (0, .ref a), (1, .int p0), (2, .int p1), (3, .int p2)] o dX10_firstFitting_9 (by decide) rfl ?_
  refine g_sb [2, 3, 4, 5, 1, 0] rfl ?_
  exact kX10_firstFitting_11 f0 o f0 a p0 p1 p2 x3 0 h3 r hz q e
set_option maxRecDepth 100000 in
set_option maxHeartbeats 4000000 in
theorem kX10_playerOf_72 {X : Cx} (f0 : Nat) (g14 : Nat → Int32 → Int32 → Int32 → Int32 → Int32 → Hp → Option (Int32 × Hp)) (i14 : ∀ (v02 : Nat) (v12 : Int32) (v32 : Int32) (v42 : Int32) (v52 : Int32) (v62 : Int32) (h2 : Hp) (r : Int32) (hz : Hp), Rt X (some (.int r)) hz 0 0 → g14 v02 v12 v32 v42 v52 v62 h2 = some (r, hz) → G X 7 14 [(0, .ref v02), (1, .int v12), (3, .int v32), (4, .int v42), (5, .int v52), (6, .int v62)] [] h2 0 0) (o : Ok X cX10_playerOf RX10 7 rmX10_playerOf (some .int)) (v0 : Nat) (v1 : Int32) (v3 : Int32) (v4 : Int32) (v5 : Int32) (v6 : Int32) (h : Hp) (r : Int32) (hz : Hp) (q : Rt X (some (.int r)) hz 0 0) (e : bX10_playerOf_72 f0 g14 v0 v1 v3 v4 v5 v6 h = some (r, hz)) : G X 7 72 [(0, .ref v0), (1, .int v1), (3, .int v3), (4, .int v4), (5, .int v5), (6, .int v6)] [] h 0 0 := by
  unfold bX10_playerOf_72 at e
  refine g_iinc (k := 5) (v := (v6 + 1)) [(6, .int (v6 + 1)), (0, .ref v0), (1, .int v1), (3, .int v3), (4, .int v4), (5, .int v5)] o dX10_playerOf_72 rfl rfl (by decide) rfl ?_
  refine g_goto 14 o dX10_playerOf_75 (by decide) ?_
  refine g_sb [1, 2, 3, 4, 5, 0] rfl ?_
  exact i14 v0 v1 v3 v4 v5 (v6 + 1) h r hz q e
set_option maxRecDepth 100000 in
set_option maxHeartbeats 4000000 in
theorem kX10_playerOf_14 {X : Cx} (f0 : Nat) (o : Ok X cX10_playerOf RX10 7 rmX10_playerOf (some .int)) (f : Nat) (v0 : Nat) (v1 : Int32) (v3 : Int32) (v4 : Int32) (v5 : Int32) (v6 : Int32) (h : Hp) (r : Int32) (hz : Hp) (q : Rt X (some (.int r)) hz 0 0) (e : bX10_playerOf_14 f0 f v0 v1 v3 v4 v5 v6 h = some (r, hz)) : G X 7 14 [(0, .ref v0), (1, .int v1), (3, .int v3), (4, .int v4), (5, .int v5), (6, .int v6)] [] h 0 0 := by
  induction f generalizing v0 v1 v3 v4 v5 v6 h r hz with
  | zero => cases e
  | succ f1 ih =>
    unfold bX10_playerOf_14 at e
    refine g_iload 5 o dX10_playerOf_14 rfl ?_
    refine g_iload_n 1 o dX10_playerOf_16 rfl rfl ?_
    refine g_icmp_gt (x := v6) (y := v1) 78 o dX10_playerOf_17 (by decide) (fun u => ?_) (fun u => ?_)
    · rw [if_pos u] at e
      refine g_iload 4 o dX10_playerOf_78 rfl ?_
      exact g_iret o dX10_playerOf_80 (rt_v q e)
    · rw [if_neg u] at e
      refine g_iload 3 o dX10_playerOf_20 rfl ?_
      refine g_iload 5 o dX10_playerOf_22 rfl ?_
      refine g_ishr (x := v4) (y := v6) o dX10_playerOf_24 ?_
      refine g_iconst (v := 1) o dX10_playerOf_25 (by decide) ?_
      refine g_iand (x := (v4 >>> (v6 &&& 31))) (y := 1) o dX10_playerOf_26 ?_
      refine g_if_ne (x := ((v4 >>> (v6 &&& 31)) &&& 1)) 33 o dX10_playerOf_27 (by decide) (fun u => ?_) (fun u => ?_)
      · rw [if_neg u] at e
        refine g_aload_n 0 o dX10_playerOf_33 rfl rfl ?_
        refine g_iload 5 o dX10_playerOf_34 rfl ?_
        refine g_iload 3 o dX10_playerOf_36 rfl ?_
        refine g_iload_n 2 o dX10_playerOf_38 rfl rfl ?_
        obtain ⟨_, k39, e⟩ := ob e
        obtain ⟨x39, h39, q39, e⟩ := ob2_s e
        refine g_callVv [.int v6, .int v4, .int v3] o (mX10_firstFitting q39) cf10 (ckO_s k39) mw_932 mw_933 mw_1718 mw_13 mw_934 rfl yo_X10_firstFitting rfl rfl (Nat.le_of_ble_eq_true rfl) ⟨by decide, by decide⟩ ⟨rfl, rfl⟩ dX10_playerOf_39 ⟨by decide, by decide⟩ ?_
        refine g_istore [(5, .int x39), (0, .ref v0), (1, .int v1), (3, .int v3), (4, .int v4), (6, .int v6)] o dX10_playerOf_42 (by decide) rfl ?_
        refine g_iload 0 o dX10_playerOf_44 rfl ?_
        refine g_iconst (v := -1) o dX10_playerOf_46 (by decide) ?_
        refine g_icmp_ne (x := x39) (y := (-1)) 52 o dX10_playerOf_47 (by decide) (fun u => ?_) (fun u => ?_)
        · rw [if_neg u] at e
          refine g_iload 4 o dX10_playerOf_52 rfl ?_
          refine g_iconst (v := 1) o dX10_playerOf_54 (by decide) ?_
          refine g_iload 5 o dX10_playerOf_55 rfl ?_
          refine g_ishl (x := (1 : Int32)) (y := v6) o dX10_playerOf_57 ?_
          refine g_iconst (v := -1) o dX10_playerOf_58 (by decide) ?_
          refine g_ixor (x := ((1 : Int32) <<< (v6 &&& 31))) (y := (-1)) o dX10_playerOf_59 ?_
          refine g_iand (x := v4) (y := (((1 : Int32) <<< (v6 &&& 31)) ^^^ (-1))) o dX10_playerOf_60 ?_
          refine g_istore [(4, .int (v4 &&& (((1 : Int32) <<< (v6 &&& 31)) ^^^ (-1)))), (5, .int x39), (0, .ref v0), (1, .int v1), (3, .int v3), (6, .int v6)] o dX10_playerOf_61 (by decide) rfl ?_
          refine g_iload_n 4 o dX10_playerOf_63 rfl rfl ?_
          refine g_iconst (v := 1) o dX10_playerOf_64 (by decide) ?_
          refine g_iload 1 o dX10_playerOf_65 rfl ?_
          refine g_ishl (x := (1 : Int32)) (y := x39) o dX10_playerOf_67 ?_
          refine g_iconst (v := -1) o dX10_playerOf_68 (by decide) ?_
          refine g_ixor (x := ((1 : Int32) <<< (x39 &&& 31))) (y := (-1)) o dX10_playerOf_69 ?_
          refine g_iand (x := v3) (y := (((1 : Int32) <<< (x39 &&& 31)) ^^^ (-1))) o dX10_playerOf_70 ?_
          refine g_istore_n [(3, .int (v3 &&& (((1 : Int32) <<< (x39 &&& 31)) ^^^ (-1)))), (4, .int (v4 &&& (((1 : Int32) <<< (v6 &&& 31)) ^^^ (-1)))), (5, .int x39), (0, .ref v0), (1, .int v1), (6, .int v6)] o dX10_playerOf_71 rfl (by decide) rfl ?_
          refine g_sb [3, 4, 0, 1, 2, 5] rfl ?_
          exact kX10_playerOf_72 f0 (bX10_playerOf_14 f0 f1) ih o v0 v1 (v3 &&& (((1 : Int32) <<< (x39 &&& 31)) ^^^ (-1))) (v4 &&& (((1 : Int32) <<< (v6 &&& 31)) ^^^ (-1))) x39 v6 h39 r hz q e
        · rw [if_pos u] at e
          refine g_iconst (v := -1) o dX10_playerOf_50 (by decide) ?_
          exact g_iret o dX10_playerOf_51 (rt_v q e)
      · rw [if_pos u] at e
        refine g_goto 72 o dX10_playerOf_30 (by decide) ?_
        exact kX10_playerOf_72 f0 (bX10_playerOf_14 f0 f1) ih o v0 v1 v3 v4 v5 v6 h r hz q e
theorem yo_X10_playerOf : yok yX10_playerOf 2 := ⟨by decide, by decide, by decide +kernel⟩
set_option maxRecDepth 100000 in
set_option maxHeartbeats 4000000 in
theorem mX10_playerOf {l : Launch} {D : va_G} {cy : Nat → ClassId} {f0 : Nat} {a : Nat} {p0 : Int32} {p1 : Int32} {h : Hp} {r : Int32} {hz : Hp} (e : fX10_playerOf f0 a p0 p1 h = some (r, hz)) : MC l D cy yX10_playerOf cX10_playerOf 7 (some .int) rmX10_playerOf [.ref a, .int p0, .int p1] h (some (.int r)) hz := by
  refine mc_of2 (by decide) (Nat.le_of_ble_eq_true rfl) (fun X hl hD hy hin o q => ?_)
  subst hl; subst hD; subst hy
  show G X 7 0 [(0, .ref a), (1, .int p0), (2, .int p1)] [] h 0 0
  unfold fX10_playerOf at e
  refine g_aload_n 0 o dX10_playerOf_0 rfl rfl ?_
  obtain ⟨_, k1, e⟩ := ob e
  obtain ⟨x1, h1, q1, e⟩ := ob2_s e
  refine g_callVv [] o (mX10_allMen q1) cf10 (ckO_s k1) mw_747 mw_748 mw_749 mw_13 mw_750 rfl yo_X10_allMen rfl rfl (Nat.le_of_ble_eq_true rfl) ⟨by decide, by decide⟩ ⟨rfl, rfl⟩ dX10_playerOf_1 ⟨by decide, by decide⟩ ?_
  refine g_istore_n [(3, .int x1), (0, .ref a), (1, .int p0), (2, .int p1)] o dX10_playerOf_4 rfl (by decide) rfl ?_
  refine g_iload_n 3 o dX10_playerOf_5 rfl rfl ?_
  refine g_istore [(4, .int p1), (3, .int x1), (0, .ref a), (1, .int p0), (2, .int p1)] o dX10_playerOf_6 (by decide) rfl ?_
  refine g_iconst (v := -1) o dX10_playerOf_8 (by decide) ?_
  refine g_istore [(5, .int (-1)), (4, .int p1), (3, .int x1), (0, .ref a), (1, .int p0), (2, .int p1)] o dX10_playerOf_9 (by decide) rfl ?_
  refine g_iconst (v := 0) o dX10_playerOf_11 (by decide) ?_
  refine g_istore [(6, .int 0), (5, .int (-1)), (4, .int p1), (3, .int x1), (0, .ref a), (1, .int p0), (2, .int p1)] o dX10_playerOf_12 (by decide) rfl ?_
  refine g_sb [4, 5, 3, 2, 1, 0] rfl ?_
  exact kX10_playerOf_14 f0 o f0 a p0 x1 p1 (-1) 0 h1 r hz q e
theorem yo_X11_plays : yok yX11_plays 2 := ⟨by decide, by decide, by decide +kernel⟩
set_option maxRecDepth 100000 in
set_option maxHeartbeats 4000000 in
theorem mX11_plays {l : Launch} {D : va_G} {cy : Nat → ClassId} {f0 : Nat} {a : Nat} {p0 : Int32} {p1 : Int32} {h : Hp} {r : Int32} {hz : Hp} (e : fX11_plays f0 a p0 p1 h = some (r, hz)) : MC l D cy yX11_plays cX11_plays 4 (some .int) rmX11_plays [.ref a, .int p0, .int p1] h (some (.int r)) hz := by
  refine mc_of2 (by decide) (Nat.le_of_ble_eq_true rfl) (fun X hl hD hy hin o q => ?_)
  subst hl; subst hD; subst hy
  show G X 4 0 [(0, .ref a), (1, .int p0), (2, .int p1)] [] h 0 0
  unfold fX11_plays at e
  refine g_aload_n 0 o dX11_plays_0 rfl rfl ?_
  obtain ⟨x1, q1, e⟩ := ob e
  refine g_getN 4 o cf11 (by decide) mw_368 dX11_plays_1 q1 ?_
  refine g_iconst (v := 3) o dX11_plays_4 (by decide) ?_
  refine g_iload_n 1 o dX11_plays_5 rfl rfl ?_
  obtain ⟨_, k6, e⟩ := ob e
  obtain ⟨x6, h6, q6, e⟩ := ob2_s e
  refine g_callVv [.int 3, .int p0] o (mX6_has q6) cf6 (ckO_s k6) mw_824 mw_682 mw_683 mw_7 mw_684 rfl yo_X6_has rfl rfl (Nat.le_of_ble_eq_true rfl) ⟨by decide, by decide⟩ ⟨rfl, rfl⟩ dX11_plays_6 ⟨by decide, by decide⟩ ?_
  refine g_if_eq (x := x6) 23 o dX11_plays_9 (by decide) (fun u => ?_) (fun u => ?_)
  · rw [if_pos u] at e
    refine g_iconst (v := -1) o dX11_plays_23 (by decide) ?_
    exact g_iret o dX11_plays_24 (rt_v q e)
  · rw [if_neg u] at e
    refine g_aload_n 0 o dX11_plays_12 rfl rfl ?_
    obtain ⟨x13, q13, e⟩ := ob e
    refine g_getN 11 o cf11 (by decide) mw_375 dX11_plays_13 q13 ?_
    refine g_iload_n 1 o dX11_plays_16 rfl rfl ?_
    obtain ⟨_, k17, e⟩ := ob e
    obtain ⟨x17, h17, q17, e⟩ := ob2_s e
    refine g_callVv [.int p0] o (mX10_hasMenFor q17) cf10 (ckO_s k17) mw_918 mw_919 mw_920 mw_13 mw_921 rfl yo_X10_hasMenFor rfl rfl (Nat.le_of_ble_eq_true rfl) ⟨by decide, by decide⟩ ⟨rfl, rfl⟩ dX11_plays_17 ⟨by decide, by decide⟩ ?_
    refine g_if_ne (x := x17) 25 o dX11_plays_20 (by decide) (fun u => ?_) (fun u => ?_)
    · rw [if_neg u] at e
      refine g_aload_n 0 o dX11_plays_25 rfl rfl ?_
      obtain ⟨x26, q26, e⟩ := ob e
      refine g_getN 4 o cf11 (by decide) mw_368 dX11_plays_26 q26 ?_
      obtain ⟨x29, q29, e⟩ := ob e
      refine g_getN 10 o cf6 (by decide) mw_175 dX11_plays_29 q29 ?_
      refine g_iload_n 1 o dX11_plays_32 rfl rfl ?_
      obtain ⟨x33, q33, e⟩ := ob e
      refine g_iald o dX11_plays_33 q33 ?_
      refine g_iload_n 2 o dX11_plays_34 rfl rfl ?_
      obtain ⟨x35, h35, q35, e⟩ := ob2_s e
      refine g_callSv [.int x33, .int p1] o (mX11_bitAt q35) mw_704 mw_705 mw_1 mw_706 yo_X11_bitAt rfl rfl (Nat.le_of_ble_eq_true rfl) ⟨by decide, by decide⟩ ⟨rfl, rfl⟩ dX11_plays_35 ⟨by decide, by decide⟩ ?_
      refine g_istore_n [(3, .int x35), (0, .ref a), (1, .int p0), (2, .int p1)] o dX11_plays_38 rfl (by decide) rfl ?_
      refine g_iload_n 0 o dX11_plays_39 rfl rfl ?_
      refine g_iconst (v := -1) o dX11_plays_40 (by decide) ?_
      refine g_icmp_ne (x := x35) (y := (-1)) 48 o dX11_plays_41 (by decide) (fun u => ?_) (fun u => ?_)
      · rw [if_neg u] at e
        refine g_aload_n 1 o dX11_plays_48 rfl rfl ?_
        obtain ⟨x49, q49, e⟩ := ob e
        refine g_getN 11 o cf11 (by decide) mw_375 dX11_plays_49 q49 ?_
        refine g_iload_n 0 o dX11_plays_52 rfl rfl ?_
        refine g_aload_n 1 o dX11_plays_53 rfl rfl ?_
        obtain ⟨x54, q54, e⟩ := ob e
        refine g_getN 4 o cf11 (by decide) mw_368 dX11_plays_54 q54 ?_
        obtain ⟨x57, q57, e⟩ := ob e
        refine g_getN 10 o cf6 (by decide) mw_175 dX11_plays_57 q57 ?_
        refine g_iload_n 2 o dX11_plays_60 rfl rfl ?_
        obtain ⟨x61, q61, e⟩ := ob e
        refine g_iald o dX11_plays_61 q61 ?_
        obtain ⟨_, k62, e⟩ := ob e
        obtain ⟨x62, h62, q62, e⟩ := ob2_s e
        refine g_callVv [.int x35, .int x61] o (mX10_playerOf q62) cf10 (ckO_s k62) mw_928 mw_929 mw_930 mw_13 mw_931 rfl yo_X10_playerOf rfl rfl (Nat.le_of_ble_eq_true rfl) ⟨by decide, by decide⟩ ⟨rfl, rfl⟩ dX11_plays_62 ⟨by decide, by decide⟩ ?_
        exact g_iret o dX11_plays_65 (rt_v q e)
      · rw [if_pos u] at e
        refine g_iconst (v := -1) o dX11_plays_44 (by decide) ?_
        refine g_goto 65 o dX11_plays_45 (by decide) ?_
        exact g_iret o dX11_plays_65 (rt_v q e)
    · rw [if_pos u] at e
      refine g_iconst (v := -1) o dX11_plays_23 (by decide) ?_
      exact g_iret o dX11_plays_24 (rt_v q e)
theorem yo_X11_knows : yok yX11_knows 2 := ⟨by decide, by decide, by decide +kernel⟩
set_option maxRecDepth 100000 in
set_option maxHeartbeats 4000000 in
theorem mX11_knows {l : Launch} {D : va_G} {cy : Nat → ClassId} {f0 : Nat} {a : Nat} {p0 : Int32} {p1 : Int32} {h : Hp} {r : Int32} {hz : Hp} (e : fX11_knows f0 a p0 p1 h = some (r, hz)) : MC l D cy yX11_knows cX11_knows 3 (some .int) rmX11_knows [.ref a, .int p0, .int p1] h (some (.int r)) hz := by
  refine mc_of2 (by decide) (Nat.le_of_ble_eq_true rfl) (fun X hl hD hy hin o q => ?_)
  subst hl; subst hD; subst hy
  show G X 3 0 [(0, .ref a), (1, .int p0), (2, .int p1)] [] h 0 0
  unfold fX11_knows at e
  refine g_aload_n 0 o dX11_knows_0 rfl rfl ?_
  obtain ⟨x1, q1, e⟩ := ob e
  refine g_getN 4 o cf11 (by decide) mw_368 dX11_knows_1 q1 ?_
  refine g_iconst (v := 0) o dX11_knows_4 (by decide) ?_
  refine g_iload_n 1 o dX11_knows_5 rfl rfl ?_
  obtain ⟨_, k6, e⟩ := ob e
  obtain ⟨x6, h6, q6, e⟩ := ob2_s e
  refine g_callVv [.int 0, .int p0] o (mX6_has q6) cf6 (ckO_s k6) mw_824 mw_682 mw_683 mw_7 mw_684 rfl yo_X6_has rfl rfl (Nat.le_of_ble_eq_true rfl) ⟨by decide, by decide⟩ ⟨rfl, rfl⟩ dX11_knows_6 ⟨by decide, by decide⟩ ?_
  refine g_if_eq (x := x6) 44 o dX11_knows_9 (by decide) (fun u => ?_) (fun u => ?_)
  · rw [if_pos u] at e
    refine g_iconst (v := -1) o dX11_knows_44 (by decide) ?_
    exact g_iret o dX11_knows_45 (rt_v q e)
  · rw [if_neg u] at e
    refine g_aload_n 0 o dX11_knows_12 rfl rfl ?_
    obtain ⟨x13, q13, e⟩ := ob e
    refine g_getN 4 o cf11 (by decide) mw_368 dX11_knows_13 q13 ?_
    refine g_iconst (v := 3) o dX11_knows_16 (by decide) ?_
    refine g_iload_n 2 o dX11_knows_17 rfl rfl ?_
    obtain ⟨_, k18, e⟩ := ob e
    obtain ⟨x18, h18, q18, e⟩ := ob2_s e
    refine g_callVv [.int 3, .int p1] o (mX6_has q18) cf6 (ckO_s k18) mw_824 mw_682 mw_683 mw_7 mw_684 rfl yo_X6_has rfl rfl (Nat.le_of_ble_eq_true rfl) ⟨by decide, by decide⟩ ⟨rfl, rfl⟩ dX11_knows_18 ⟨by decide, by decide⟩ ?_
    refine g_if_eq (x := x18) 44 o dX11_knows_21 (by decide) (fun u => ?_) (fun u => ?_)
    · rw [if_pos u] at e
      refine g_iconst (v := -1) o dX11_knows_44 (by decide) ?_
      exact g_iret o dX11_knows_45 (rt_v q e)
    · rw [if_neg u] at e
      refine g_aload_n 0 o dX11_knows_24 rfl rfl ?_
      obtain ⟨x25, q25, e⟩ := ob e
      refine g_getN 11 o cf11 (by decide) mw_375 dX11_knows_25 q25 ?_
      obtain ⟨x28, q28, e⟩ := ob e
      refine g_getN 12 o cf10 (by decide) mw_303 dX11_knows_28 q28 ?_
      refine g_iload_n 1 o dX11_knows_31 rfl rfl ?_
      refine g_bipush (v := 8) o dX11_knows_32 (by decide) ?_
      refine g_imul (x := p0) (y := 8) o dX11_knows_34 ?_
      refine g_iload_n 2 o dX11_knows_35 rfl rfl ?_
      refine g_iadd (x := (p0 * 8)) (y := p1) o dX11_knows_36 ?_
      obtain ⟨x37, q37, e⟩ := ob e
      refine g_iald o dX11_knows_37 q37 ?_
      obtain ⟨x38, h38, q38, e⟩ := ob2_s e
      refine g_callSv [.int x37] o (mX11_orNever q38) mw_830 mw_831 mw_1 mw_832 yo_X11_orNever rfl rfl (Nat.le_of_ble_eq_true rfl) ⟨by decide, by decide⟩ ⟨rfl, rfl⟩ dX11_knows_38 ⟨by decide, by decide⟩ ?_
      refine g_goto 45 o dX11_knows_41 (by decide) ?_
      exact g_iret o dX11_knows_45 (rt_v q e)
set_option maxRecDepth 100000 in
set_option maxHeartbeats 4000000 in
theorem kX11_first_74 {X : Cx} (f0 : Nat) (g22 : Nat → Int32 → Int32 → Int32 → Int32 → Hp → Option (Int32 × Hp)) (i22 : ∀ (v02 : Nat) (v12 : Int32) (v22 : Int32) (v32 : Int32) (v42 : Int32) (h2 : Hp) (r : Int32) (hz : Hp), Rt X (some (.int r)) hz 0 0 → g22 v02 v12 v22 v32 v42 h2 = some (r, hz) → G X 5 22 [(0, .ref v02), (1, .int v12), (2, .int v22), (3, .int v32), (4, .int v42)] [] h2 0 0) (o : Ok X cX11_first RX11 5 rmX11_first (some .int)) (v0 : Nat) (v1 : Int32) (v2 : Int32) (v3 : Int32) (v4 : Int32) (h : Hp) (r : Int32) (hz : Hp) (q : Rt X (some (.int r)) hz 0 0) (e : bX11_first_74 f0 g22 v0 v1 v2 v3 v4 h = some (r, hz)) : G X 5 74 [(0, .ref v0), (1, .int v1), (2, .int v2), (3, .int v3), (4, .int v4)] [] h 0 0 := by
  unfold bX11_first_74 at e
  refine g_iinc (k := 4) (v := (v4 + 1)) [(4, .int (v4 + 1)), (0, .ref v0), (1, .int v1), (2, .int v2), (3, .int v3)] o dX11_first_74 rfl rfl (by decide) rfl ?_
  refine g_goto 22 o dX11_first_77 (by decide) ?_
  refine g_sb [1, 2, 3, 4, 0] rfl ?_
  exact i22 v0 v1 v2 v3 (v4 + 1) h r hz q e
set_option maxRecDepth 100000 in
set_option maxHeartbeats 4000000 in
theorem kX11_first_22 {X : Cx} (f0 : Nat) (o : Ok X cX11_first RX11 5 rmX11_first (some .int)) (f : Nat) (v0 : Nat) (v1 : Int32) (v2 : Int32) (v3 : Int32) (v4 : Int32) (h : Hp) (r : Int32) (hz : Hp) (q : Rt X (some (.int r)) hz 0 0) (e : bX11_first_22 f0 f v0 v1 v2 v3 v4 h = some (r, hz)) : G X 5 22 [(0, .ref v0), (1, .int v1), (2, .int v2), (3, .int v3), (4, .int v4)] [] h 0 0 := by
  induction f generalizing v0 v1 v2 v3 v4 h r hz with
  | zero => cases e
  | succ f1 ih =>
    unfold bX11_first_22 at e
    refine g_iload 4 o dX11_first_22 rfl ?_
    refine g_aload_n 0 o dX11_first_24 rfl rfl ?_
    obtain ⟨x25, q25, e⟩ := ob e
    refine g_getN 4 o cf11 (by decide) mw_368 dX11_first_25 q25 ?_
    obtain ⟨x28, q28, e⟩ := ob e
    refine g_getN 1 o cf6 (by decide) mw_147 dX11_first_28 q28 ?_
    refine g_iconst (v := 0) o dX11_first_31 (by decide) ?_
    obtain ⟨x32, q32, e⟩ := ob e
    refine g_iald o dX11_first_32 q32 ?_
    refine g_icmp_ge (x := v4) (y := x32) 80 o dX11_first_33 (by decide) (fun u => ?_) (fun u => ?_)
    · rw [if_pos u] at e
      refine g_iload_n 2 o dX11_first_80 rfl rfl ?_
      exact g_iret o dX11_first_81 (rt_v q e)
    · rw [if_neg u] at e
      refine g_aload_n 0 o dX11_first_36 rfl rfl ?_
      obtain ⟨x37, q37, e⟩ := ob e
      refine g_getN 11 o cf11 (by decide) mw_375 dX11_first_37 q37 ?_
      obtain ⟨x40, q40, e⟩ := ob e
      refine g_getN 12 o cf10 (by decide) mw_303 dX11_first_40 q40 ?_
      refine g_iload 4 o dX11_first_43 rfl ?_
      refine g_bipush (v := 8) o dX11_first_45 (by decide) ?_
      refine g_imul (x := v4) (y := 8) o dX11_first_47 ?_
      refine g_iload_n 1 o dX11_first_48 rfl rfl ?_
      refine g_iadd (x := (v4 * 8)) (y := v1) o dX11_first_49 ?_
      obtain ⟨x50, q50, e⟩ := ob e
      refine g_iald o dX11_first_50 q50 ?_
      refine g_iload_n 3 o dX11_first_51 rfl rfl ?_
      refine g_icmp_ge (x := x50) (y := v3) 74 o dX11_first_52 (by decide) (fun u => ?_) (fun u => ?_)
      · rw [if_pos u] at e
        exact kX11_first_74 f0 (bX11_first_22 f0 f1) ih o v0 v1 v2 v3 v4 h r hz q e
      · rw [if_neg u] at e
        refine g_iload 4 o dX11_first_55 rfl ?_
        refine g_istore_n [(2, .int v4), (0, .ref v0), (1, .int v1), (3, .int v3), (4, .int v4)] o dX11_first_57 rfl (by decide) rfl ?_
        refine g_aload_n 1 o dX11_first_58 rfl rfl ?_
        obtain ⟨x59, q59, e⟩ := ob e
        refine g_getN 11 o cf11 (by decide) mw_375 dX11_first_59 q59 ?_
        obtain ⟨x62, q62, e⟩ := ob e
        refine g_getN 12 o cf10 (by decide) mw_303 dX11_first_62 q62 ?_
        refine g_iload 4 o dX11_first_65 rfl ?_
        refine g_bipush (v := 8) o dX11_first_67 (by decide) ?_
        refine g_imul (x := v4) (y := 8) o dX11_first_69 ?_
        refine g_iload_n 2 o dX11_first_70 rfl rfl ?_
        refine g_iadd (x := (v4 * 8)) (y := v1) o dX11_first_71 ?_
        obtain ⟨x72, q72, e⟩ := ob e
        refine g_iald o dX11_first_72 q72 ?_
        refine g_istore_n [(3, .int x72), (2, .int v4), (0, .ref v0), (1, .int v1), (4, .int v4)] o dX11_first_73 rfl (by decide) rfl ?_
        refine g_sb [2, 3, 1, 0, 4] rfl ?_
        exact kX11_first_74 f0 (bX11_first_22 f0 f1) ih o v0 v1 v4 x72 v4 h r hz q e
theorem yo_X11_first : yok yX11_first 1 := ⟨by decide, by decide, by decide +kernel⟩
set_option maxRecDepth 100000 in
set_option maxHeartbeats 4000000 in
theorem mX11_first {l : Launch} {D : va_G} {cy : Nat → ClassId} {f0 : Nat} {a : Nat} {p0 : Int32} {h : Hp} {r : Int32} {hz : Hp} (e : fX11_first f0 a p0 h = some (r, hz)) : MC l D cy yX11_first cX11_first 5 (some .int) rmX11_first [.ref a, .int p0] h (some (.int r)) hz := by
  refine mc_of2 (by decide) (Nat.le_of_ble_eq_true rfl) (fun X hl hD hy hin o q => ?_)
  subst hl; subst hD; subst hy
  show G X 5 0 [(0, .ref a), (1, .int p0)] [] h 0 0
  unfold fX11_first at e
  refine g_aload_n 0 o dX11_first_0 rfl rfl ?_
  obtain ⟨x1, q1, e⟩ := ob e
  refine g_getN 4 o cf11 (by decide) mw_368 dX11_first_1 q1 ?_
  refine g_iconst (v := 3) o dX11_first_4 (by decide) ?_
  refine g_iload_n 1 o dX11_first_5 rfl rfl ?_
  obtain ⟨_, k6, e⟩ := ob e
  obtain ⟨x6, h6, q6, e⟩ := ob2_s e
  refine g_callVv [.int 3, .int p0] o (mX6_has q6) cf6 (ckO_s k6) mw_824 mw_682 mw_683 mw_7 mw_684 rfl yo_X6_has rfl rfl (Nat.le_of_ble_eq_true rfl) ⟨by decide, by decide⟩ ⟨rfl, rfl⟩ dX11_first_6 ⟨by decide, by decide⟩ ?_
  refine g_if_ne (x := x6) 14 o dX11_first_9 (by decide) (fun u => ?_) (fun u => ?_)
  · rw [if_neg u] at e
    refine g_iconst (v := -1) o dX11_first_14 (by decide) ?_
    refine g_istore_n [(2, .int (-1)), (0, .ref a), (1, .int p0)] o dX11_first_15 rfl (by decide) rfl ?_
    refine g_ldc (v := 1000000) o dX11_first_16 mw_833 ?_
    refine g_istore_n [(3, .int 1000000), (2, .int (-1)), (0, .ref a), (1, .int p0)] o dX11_first_18 rfl (by decide) rfl ?_
    refine g_iconst (v := 0) o dX11_first_19 (by decide) ?_
    refine g_istore [(4, .int 0), (3, .int 1000000), (2, .int (-1)), (0, .ref a), (1, .int p0)] o dX11_first_20 (by decide) rfl ?_
    refine g_sb [3, 4, 2, 1, 0] rfl ?_
    exact kX11_first_22 f0 o f0 a p0 (-1) 1000000 0 h6 r hz q e
  · rw [if_pos u] at e
    refine g_iconst (v := -1) o dX11_first_12 (by decide) ?_
    exact g_iret o dX11_first_13 (rt_v q e)
theorem yo_X11_safe : yok yX11_safe 1 := ⟨by decide, by decide, by decide +kernel⟩
set_option maxRecDepth 100000 in
set_option maxHeartbeats 4000000 in
theorem mX11_safe {l : Launch} {D : va_G} {cy : Nat → ClassId} {f0 : Nat} {a : Nat} {p0 : Int32} {h : Hp} {r : Int32} {hz : Hp} (e : fX11_safe f0 a p0 h = some (r, hz)) : MC l D cy yX11_safe cX11_safe 2 (some .int) rmX11_safe [.ref a, .int p0] h (some (.int r)) hz := by
  refine mc_of2 (by decide) (Nat.le_of_ble_eq_true rfl) (fun X hl hD hy hin o q => ?_)
  subst hl; subst hD; subst hy
  show G X 2 0 [(0, .ref a), (1, .int p0)] [] h 0 0
  unfold fX11_safe at e
  refine g_aload_n 0 o dX11_safe_0 rfl rfl ?_
  obtain ⟨x1, q1, e⟩ := ob e
  refine g_getN 4 o cf11 (by decide) mw_368 dX11_safe_1 q1 ?_
  refine g_iconst (v := 0) o dX11_safe_4 (by decide) ?_
  refine g_iload_n 1 o dX11_safe_5 rfl rfl ?_
  obtain ⟨_, k6, e⟩ := ob e
  obtain ⟨x6, h6, q6, e⟩ := ob2_s e
  refine g_callVv [.int 0, .int p0] o (mX6_has q6) cf6 (ckO_s k6) mw_824 mw_682 mw_683 mw_7 mw_684 rfl yo_X6_has rfl rfl (Nat.le_of_ble_eq_true rfl) ⟨by decide, by decide⟩ ⟨rfl, rfl⟩ dX11_safe_6 ⟨by decide, by decide⟩ ?_
  refine g_if_eq (x := x6) 34 o dX11_safe_9 (by decide) (fun u => ?_) (fun u => ?_)
  · rw [if_pos u] at e
    refine g_iconst (v := -1) o dX11_safe_34 (by decide) ?_
    exact g_iret o dX11_safe_35 (rt_v q e)
  · rw [if_neg u] at e
    refine g_aload_n 0 o dX11_safe_12 rfl rfl ?_
    obtain ⟨x13, q13, e⟩ := ob e
    refine g_getN 11 o cf11 (by decide) mw_375 dX11_safe_13 q13 ?_
    refine g_iload_n 1 o dX11_safe_16 rfl rfl ?_
    obtain ⟨_, k17, e⟩ := ob e
    obtain ⟨x17, h17, q17, e⟩ := ob2_s e
    refine g_callVv [.int p0] o (mX10_canSailTo q17) cf10 (ckO_s k17) mw_947 mw_658 mw_659 mw_13 mw_660 rfl yo_X10_canSailTo rfl rfl (Nat.le_of_ble_eq_true rfl) ⟨by decide, by decide⟩ ⟨rfl, rfl⟩ dX11_safe_17 ⟨by decide, by decide⟩ ?_
    refine g_if_eq (x := x17) 34 o dX11_safe_20 (by decide) (fun u => ?_) (fun u => ?_)
    · rw [if_pos u] at e
      refine g_iconst (v := -1) o dX11_safe_34 (by decide) ?_
      exact g_iret o dX11_safe_35 (rt_v q e)
    · rw [if_neg u] at e
      refine g_aload_n 0 o dX11_safe_23 rfl rfl ?_
      obtain ⟨x24, q24, e⟩ := ob e
      refine g_getN 11 o cf11 (by decide) mw_375 dX11_safe_24 q24 ?_
      refine g_iload_n 1 o dX11_safe_27 rfl rfl ?_
      obtain ⟨_, k28, e⟩ := ob e
      obtain ⟨x28, h28, q28, e⟩ := ob2_s e
      refine g_callVv [.int p0] o (mX10_safeNamesTo q28) cf10 (ckO_s k28) mw_948 mw_666 mw_667 mw_13 mw_668 rfl yo_X10_safeNamesTo rfl rfl (Nat.le_of_ble_eq_true rfl) ⟨by decide, by decide⟩ ⟨rfl, rfl⟩ dX11_safe_28 ⟨by decide, by decide⟩ ?_
      refine g_goto 35 o dX11_safe_31 (by decide) ?_
      exact g_iret o dX11_safe_35 (rt_v q e)
theorem yo_X11_outruns : yok yX11_outruns 1 := ⟨by decide, by decide, by decide +kernel⟩
set_option maxRecDepth 100000 in
set_option maxHeartbeats 4000000 in
theorem mX11_outruns {l : Launch} {D : va_G} {cy : Nat → ClassId} {f0 : Nat} {a : Nat} {p0 : Int32} {h : Hp} {r : Int32} {hz : Hp} (e : fX11_outruns f0 a p0 h = some (r, hz)) : MC l D cy yX11_outruns cX11_outruns 2 (some .int) rmX11_outruns [.ref a, .int p0] h (some (.int r)) hz := by
  refine mc_of2 (by decide) (Nat.le_of_ble_eq_true rfl) (fun X hl hD hy hin o q => ?_)
  subst hl; subst hD; subst hy
  show G X 2 0 [(0, .ref a), (1, .int p0)] [] h 0 0
  unfold fX11_outruns at e
  refine g_aload_n 0 o dX11_outruns_0 rfl rfl ?_
  obtain ⟨x1, q1, e⟩ := ob e
  refine g_getN 4 o cf11 (by decide) mw_368 dX11_outruns_1 q1 ?_
  refine g_iconst (v := 0) o dX11_outruns_4 (by decide) ?_
  refine g_iload_n 1 o dX11_outruns_5 rfl rfl ?_
  obtain ⟨_, k6, e⟩ := ob e
  obtain ⟨x6, h6, q6, e⟩ := ob2_s e
  refine g_callVv [.int 0, .int p0] o (mX6_has q6) cf6 (ckO_s k6) mw_824 mw_682 mw_683 mw_7 mw_684 rfl yo_X6_has rfl rfl (Nat.le_of_ble_eq_true rfl) ⟨by decide, by decide⟩ ⟨rfl, rfl⟩ dX11_outruns_6 ⟨by decide, by decide⟩ ?_
  refine g_if_eq (x := x6) 35 o dX11_outruns_9 (by decide) (fun u => ?_) (fun u => ?_)
  · rw [if_pos u] at e
    refine g_iconst (v := -1) o dX11_outruns_35 (by decide) ?_
    exact g_iret o dX11_outruns_36 (rt_v q e)
  · rw [if_neg u] at e
    refine g_aload_n 0 o dX11_outruns_12 rfl rfl ?_
    obtain ⟨x13, q13, e⟩ := ob e
    refine g_getN 4 o cf11 (by decide) mw_368 dX11_outruns_13 q13 ?_
    obtain ⟨_, k16, e⟩ := ob e
    obtain ⟨x16, h16, q16, e⟩ := ob2_s e
    refine g_callVv [] o (mX6_isForHer q16) cf6 (ckO_s k16) mw_953 mw_348 mw_349 mw_7 mw_350 rfl yo_X6_isForHer rfl rfl (Nat.le_of_ble_eq_true rfl) ⟨by decide, by decide⟩ ⟨rfl, rfl⟩ dX11_outruns_16 ⟨by decide, by decide⟩ ?_
    refine g_if_eq (x := x16) 35 o dX11_outruns_19 (by decide) (fun u => ?_) (fun u => ?_)
    · rw [if_pos u] at e
      refine g_iconst (v := -1) o dX11_outruns_35 (by decide) ?_
      exact g_iret o dX11_outruns_36 (rt_v q e)
    · rw [if_neg u] at e
      refine g_aload_n 0 o dX11_outruns_22 rfl rfl ?_
      obtain ⟨x23, q23, e⟩ := ob e
      refine g_getN 11 o cf11 (by decide) mw_375 dX11_outruns_23 q23 ?_
      refine g_iload_n 1 o dX11_outruns_26 rfl rfl ?_
      obtain ⟨_, k27, e⟩ := ob e
      obtain ⟨x27, h27, q27, e⟩ := ob2_s e
      refine g_callVv [.int p0] o (mX10_farTo q27) cf10 (ckO_s k27) mw_954 mw_686 mw_687 mw_13 mw_688 rfl yo_X10_farTo rfl rfl (Nat.le_of_ble_eq_true rfl) ⟨by decide, by decide⟩ ⟨rfl, rfl⟩ dX11_outruns_27 ⟨by decide, by decide⟩ ?_
      refine g_ldc (v := 1000000) o dX11_outruns_30 mw_833 ?_
      refine g_icmp_lt (x := x27) (y := 1000000) 37 o dX11_outruns_32 (by decide) (fun u => ?_) (fun u => ?_)
      · rw [if_pos u] at e
        refine g_aload_n 0 o dX11_outruns_37 rfl rfl ?_
        obtain ⟨x38, q38, e⟩ := ob e
        refine g_getN 11 o cf11 (by decide) mw_375 dX11_outruns_38 q38 ?_
        obtain ⟨x41, q41, e⟩ := ob e
        refine g_getI 1 o cf10 (by decide) mw_280 dX11_outruns_41 q41 ?_
        refine g_aload_n 0 o dX11_outruns_44 rfl rfl ?_
        obtain ⟨x45, q45, e⟩ := ob e
        refine g_getN 11 o cf11 (by decide) mw_375 dX11_outruns_45 q45 ?_
        refine g_iload_n 1 o dX11_outruns_48 rfl rfl ?_
        obtain ⟨_, k49, e⟩ := ob e
        obtain ⟨x49, h49, q49, e⟩ := ob2_s e
        refine g_callVv [.int p0] o (mX10_farTo q49) cf10 (ckO_s k49) mw_954 mw_686 mw_687 mw_13 mw_688 rfl yo_X10_farTo rfl rfl (Nat.le_of_ble_eq_true rfl) ⟨by decide, by decide⟩ ⟨rfl, rfl⟩ dX11_outruns_49 ⟨by decide, by decide⟩ ?_
        refine g_iadd (x := x41) (y := x49) o dX11_outruns_52 ?_
        refine g_aload_n 0 o dX11_outruns_53 rfl rfl ?_
        obtain ⟨x54, q54, e⟩ := ob e
        refine g_getN 11 o cf11 (by decide) mw_375 dX11_outruns_54 q54 ?_
        obtain ⟨x57, q57, e⟩ := ob e
        refine g_getN 12 o cf10 (by decide) mw_303 dX11_outruns_57 q57 ?_
        refine g_iload_n 1 o dX11_outruns_60 rfl rfl ?_
        refine g_bipush (v := 8) o dX11_outruns_61 (by decide) ?_
        refine g_imul (x := p0) (y := 8) o dX11_outruns_63 ?_
        refine g_aload_n 0 o dX11_outruns_64 rfl rfl ?_
        obtain ⟨x65, q65, e⟩ := ob e
        refine g_getN 11 o cf11 (by decide) mw_375 dX11_outruns_65 q65 ?_
        obtain ⟨x68, q68, e⟩ := ob e
        refine g_getI 3 o cf10 (by decide) mw_285 dX11_outruns_68 q68 ?_
        refine g_iadd (x := (p0 * 8)) (y := x68) o dX11_outruns_71 ?_
        obtain ⟨x72, q72, e⟩ := ob e
        refine g_iald o dX11_outruns_72 q72 ?_
        refine g_icmp_ge (x := (x41 + x49)) (y := x72) 80 o dX11_outruns_73 (by decide) (fun u => ?_) (fun u => ?_)
        · rw [if_pos u] at e
          refine g_iconst (v := 0) o dX11_outruns_80 (by decide) ?_
          exact g_iret o dX11_outruns_81 (rt_v q e)
        · rw [if_neg u] at e
          refine g_iconst (v := 1) o dX11_outruns_76 (by decide) ?_
          refine g_goto 81 o dX11_outruns_77 (by decide) ?_
          exact g_iret o dX11_outruns_81 (rt_v q e)
      · rw [if_neg u] at e
        refine g_iconst (v := -1) o dX11_outruns_35 (by decide) ?_
        exact g_iret o dX11_outruns_36 (rt_v q e)
set_option maxRecDepth 100000 in
set_option maxHeartbeats 4000000 in
theorem kX10_goal_103 {X : Cx} (f0 : Nat) (g16 : Nat → Int32 → Int32 → Int32 → Hp → Option (Int32 × Hp)) (i16 : ∀ (v02 : Nat) (v12 : Int32) (v22 : Int32) (v32 : Int32) (h2 : Hp) (r : Int32) (hz : Hp), Rt X (some (.int r)) hz 0 0 → g16 v02 v12 v22 v32 h2 = some (r, hz) → G X 6 16 [(0, .ref v02), (1, .int v12), (2, .int v22), (3, .int v32)] [] h2 0 0) (o : Ok X cX10_goal RX10 6 rmX10_goal (some .int)) (v0 : Nat) (v1 : Int32) (v2 : Int32) (v3 : Int32) (h : Hp) (r : Int32) (hz : Hp) (q : Rt X (some (.int r)) hz 0 0) (e : bX10_goal_103 f0 g16 v0 v1 v2 v3 h = some (r, hz)) : G X 6 103 [(0, .ref v0), (1, .int v1), (2, .int v2), (3, .int v3)] [] h 0 0 := by
  unfold bX10_goal_103 at e
  refine g_iinc (k := 3) (v := (v3 + 1)) [(3, .int (v3 + 1)), (0, .ref v0), (1, .int v1), (2, .int v2)] o dX10_goal_103 rfl rfl (by decide) rfl ?_
  refine g_goto 16 o dX10_goal_106 (by decide) ?_
  refine g_sb [1, 2, 3, 0] rfl ?_
  exact i16 v0 v1 v2 (v3 + 1) h r hz q e
set_option maxRecDepth 100000 in
set_option maxHeartbeats 4000000 in
theorem kX10_goal_73 {X : Cx} (f0 : Nat) (g16 : Nat → Int32 → Int32 → Int32 → Hp → Option (Int32 × Hp)) (i16 : ∀ (v02 : Nat) (v12 : Int32) (v22 : Int32) (v32 : Int32) (h2 : Hp) (r : Int32) (hz : Hp), Rt X (some (.int r)) hz 0 0 → g16 v02 v12 v22 v32 h2 = some (r, hz) → G X 6 16 [(0, .ref v02), (1, .int v12), (2, .int v22), (3, .int v32)] [] h2 0 0) (o : Ok X cX10_goal RX10 6 rmX10_goal (some .int)) (v0 : Nat) (v1 : Int32) (v2 : Int32) (v3 : Int32) (v4 : Int32) (s0 : Int32) (h : Hp) (r : Int32) (hz : Hp) (q : Rt X (some (.int r)) hz 0 0) (e : bX10_goal_73 f0 g16 v0 v1 v2 v3 v4 s0 h = some (r, hz)) : G X 6 73 [(0, .ref v0), (1, .int v1), (2, .int v2), (3, .int v3), (4, .int v4)] [.int s0] h 0 0 := by
  unfold bX10_goal_73 at e
  refine g_istore [(5, .int s0), (0, .ref v0), (1, .int v1), (2, .int v2), (3, .int v3), (4, .int v4)] o dX10_goal_73 (by decide) rfl ?_
  refine g_iload 0 o dX10_goal_75 rfl ?_
  refine g_if_eq (x := s0) 103 o dX10_goal_77 (by decide) (fun u => ?_) (fun u => ?_)
  · rw [if_pos u] at e
    refine g_sb [1, 2, 3, 4] rfl ?_
    exact kX10_goal_103 f0 g16 i16 o v0 v1 v2 v3 h r hz q e
  · rw [if_neg u] at e
    refine g_aload_n 1 o dX10_goal_80 rfl rfl ?_
    refine g_aload_n 1 o dX10_goal_81 rfl rfl ?_
    obtain ⟨x82, q82, e⟩ := ob e
    refine g_getI 3 o cf10 (by decide) mw_284 dX10_goal_82 q82 ?_
    refine g_iload_n 4 o dX10_goal_85 rfl rfl ?_
    obtain ⟨_, k86, e⟩ := ob e
    obtain ⟨x86, h86, q86, e⟩ := ob2_s e
    refine g_callVv [.int x82, .int v3] o (mX10_owedTo q86) cf10 (ckO_s k86) mw_786 mw_787 mw_788 mw_13 mw_789 rfl yo_X10_owedTo rfl rfl (Nat.le_of_ble_eq_true rfl) ⟨by decide, by decide⟩ ⟨rfl, rfl⟩ dX10_goal_86 ⟨by decide, by decide⟩ ?_
    refine g_if_le (x := x86) 103 o dX10_goal_89 (by decide) (fun u => ?_) (fun u => ?_)
    · rw [if_pos u] at e
      refine g_sb [1, 2, 3, 4] rfl ?_
      exact kX10_goal_103 f0 g16 i16 o v0 v1 v2 v3 h86 r hz q e
    · rw [if_neg u] at e
      refine g_iload 5 o dX10_goal_92 rfl ?_
      refine g_iload_n 3 o dX10_goal_94 rfl rfl ?_
      refine g_icmp_ge (x := v4) (y := v2) 103 o dX10_goal_95 (by decide) (fun u => ?_) (fun u => ?_)
      · rw [if_pos u] at e
        refine g_sb [1, 2, 3, 4] rfl ?_
        exact kX10_goal_103 f0 g16 i16 o v0 v1 v2 v3 h86 r hz q e
      · rw [if_neg u] at e
        refine g_iload_n 4 o dX10_goal_98 rfl rfl ?_
        refine g_istore_n [(1, .int v3), (5, .int s0), (0, .ref v0), (2, .int v2), (3, .int v3), (4, .int v4)] o dX10_goal_99 rfl (by decide) rfl ?_
        refine g_iload 5 o dX10_goal_100 rfl ?_
        refine g_istore_n [(2, .int v4), (1, .int v3), (5, .int s0), (0, .ref v0), (3, .int v3), (4, .int v4)] o dX10_goal_102 rfl (by decide) rfl ?_
        refine g_sb [3, 1, 0, 4] rfl ?_
        exact kX10_goal_103 f0 g16 i16 o v0 v3 v4 v3 h86 r hz q e
set_option maxRecDepth 100000 in
set_option maxHeartbeats 4000000 in
theorem kX10_goal_68 {X : Cx} (f0 : Nat) (g16 : Nat → Int32 → Int32 → Int32 → Hp → Option (Int32 × Hp)) (i16 : ∀ (v02 : Nat) (v12 : Int32) (v22 : Int32) (v32 : Int32) (h2 : Hp) (r : Int32) (hz : Hp), Rt X (some (.int r)) hz 0 0 → g16 v02 v12 v22 v32 h2 = some (r, hz) → G X 6 16 [(0, .ref v02), (1, .int v12), (2, .int v22), (3, .int v32)] [] h2 0 0) (o : Ok X cX10_goal RX10 6 rmX10_goal (some .int)) (v0 : Nat) (v1 : Int32) (v2 : Int32) (v3 : Int32) (v4 : Int32) (h : Hp) (r : Int32) (hz : Hp) (q : Rt X (some (.int r)) hz 0 0) (e : bX10_goal_68 f0 g16 v0 v1 v2 v3 v4 h = some (r, hz)) : G X 6 68 [(0, .ref v0), (1, .int v1), (2, .int v2), (3, .int v3), (4, .int v4)] [] h 0 0 := by
  unfold bX10_goal_68 at e
  refine g_iconst (v := 1) o dX10_goal_68 (by decide) ?_
  refine g_goto 73 o dX10_goal_69 (by decide) ?_
  exact kX10_goal_73 f0 g16 i16 o v0 v1 v2 v3 v4 1 h r hz q e
set_option maxRecDepth 100000 in
set_option maxHeartbeats 4000000 in
theorem kX10_goal_16 {X : Cx} (f0 : Nat) (o : Ok X cX10_goal RX10 6 rmX10_goal (some .int)) (f : Nat) (v0 : Nat) (v1 : Int32) (v2 : Int32) (v3 : Int32) (h : Hp) (r : Int32) (hz : Hp) (q : Rt X (some (.int r)) hz 0 0) (e : bX10_goal_16 f0 f v0 v1 v2 v3 h = some (r, hz)) : G X 6 16 [(0, .ref v0), (1, .int v1), (2, .int v2), (3, .int v3)] [] h 0 0 := by
  induction f generalizing v0 v1 v2 v3 h r hz with
  | zero => cases e
  | succ f1 ih =>
    unfold bX10_goal_16 at e
    refine g_iload_n 3 o dX10_goal_16 rfl rfl ?_
    refine g_aload_n 0 o dX10_goal_17 rfl rfl ?_
    obtain ⟨x18, q18, e⟩ := ob e
    refine g_getN 0 o cf10 (by decide) mw_276 dX10_goal_18 q18 ?_
    obtain ⟨x21, q21, e⟩ := ob e
    refine g_getN 1 o cf6 (by decide) mw_144 dX10_goal_21 q21 ?_
    refine g_iconst (v := 0) o dX10_goal_24 (by decide) ?_
    obtain ⟨x25, q25, e⟩ := ob e
    refine g_iald o dX10_goal_25 q25 ?_
    refine g_icmp_ge (x := v3) (y := x25) 109 o dX10_goal_26 (by decide) (fun u => ?_) (fun u => ?_)
    · rw [if_pos u] at e
      refine g_iload_n 1 o dX10_goal_109 rfl rfl ?_
      exact g_iret o dX10_goal_110 (rt_v q e)
    · rw [if_neg u] at e
      refine g_aload_n 0 o dX10_goal_29 rfl rfl ?_
      obtain ⟨x30, q30, e⟩ := ob e
      refine g_getI 1 o cf10 (by decide) mw_278 dX10_goal_30 q30 ?_
      refine g_aload_n 0 o dX10_goal_33 rfl rfl ?_
      refine g_iload_n 3 o dX10_goal_34 rfl rfl ?_
      obtain ⟨_, k35, e⟩ := ob e
      obtain ⟨x35, h35, q35, e⟩ := ob2_s e
      refine g_callVv [.int v3] o (mX10_farTo q35) cf10 (ckO_s k35) mw_963 mw_686 mw_687 mw_13 mw_688 rfl yo_X10_farTo rfl rfl (Nat.le_of_ble_eq_true rfl) ⟨by decide, by decide⟩ ⟨rfl, rfl⟩ dX10_goal_35 ⟨by decide, by decide⟩ ?_
      refine g_iadd (x := x30) (y := x35) o dX10_goal_38 ?_
      refine g_istore [(4, .int (x30 + x35)), (0, .ref v0), (1, .int v1), (2, .int v2), (3, .int v3)] o dX10_goal_39 (by decide) rfl ?_
      refine g_iload_n 4 o dX10_goal_41 rfl rfl ?_
      refine g_aload_n 1 o dX10_goal_42 rfl rfl ?_
      obtain ⟨x43, q43, e⟩ := ob e
      refine g_getI 2 o cf10 (by decide) mw_281 dX10_goal_43 q43 ?_
      refine g_icmp_eq (x := v3) (y := x43) 68 o dX10_goal_46 (by decide) (fun u => ?_) (fun u => ?_)
      · rw [if_pos u] at e
        refine g_sb [1, 2, 3, 4, 0] rfl ?_
        exact kX10_goal_68 f0 (bX10_goal_16 f0 f1) ih o v0 v1 v2 v3 (x30 + x35) h35 r hz q e
      · rw [if_neg u] at e
        refine g_iload 0 o dX10_goal_49 rfl ?_
        refine g_aload_n 1 o dX10_goal_51 rfl rfl ?_
        obtain ⟨x52, q52, e⟩ := ob e
        refine g_getN 12 o cf10 (by decide) mw_302 dX10_goal_52 q52 ?_
        refine g_iload_n 4 o dX10_goal_55 rfl rfl ?_
        refine g_bipush (v := 8) o dX10_goal_56 (by decide) ?_
        refine g_imul (x := v3) (y := 8) o dX10_goal_58 ?_
        refine g_aload_n 1 o dX10_goal_59 rfl rfl ?_
        obtain ⟨x60, q60, e⟩ := ob e
        refine g_getI 3 o cf10 (by decide) mw_284 dX10_goal_60 q60 ?_
        refine g_iadd (x := (v3 * 8)) (y := x60) o dX10_goal_63 ?_
        obtain ⟨x64, q64, e⟩ := ob e
        refine g_iald o dX10_goal_64 q64 ?_
        refine g_icmp_ge (x := (x30 + x35)) (y := x64) 72 o dX10_goal_65 (by decide) (fun u => ?_) (fun u => ?_)
        · rw [if_pos u] at e
          refine g_iconst (v := 0) o dX10_goal_72 (by decide) ?_
          refine g_sb [1, 2, 3, 4, 0] rfl ?_
          exact kX10_goal_73 f0 (bX10_goal_16 f0 f1) ih o v0 v1 v2 v3 (x30 + x35) 0 h35 r hz q e
        · rw [if_neg u] at e
          refine g_sb [1, 2, 3, 4, 0] rfl ?_
          exact kX10_goal_68 f0 (bX10_goal_16 f0 f1) ih o v0 v1 v2 v3 (x30 + x35) h35 r hz q e
theorem yo_X10_goal : yok yX10_goal 0 := ⟨by decide, by decide, by decide +kernel⟩
set_option maxRecDepth 100000 in
set_option maxHeartbeats 4000000 in
theorem mX10_goal {l : Launch} {D : va_G} {cy : Nat → ClassId} {f0 : Nat} {a : Nat} {h : Hp} {r : Int32} {hz : Hp} (e : fX10_goal f0 a h = some (r, hz)) : MC l D cy yX10_goal cX10_goal 6 (some .int) rmX10_goal [.ref a] h (some (.int r)) hz := by
  refine mc_of2 (by decide) (Nat.le_of_ble_eq_true rfl) (fun X hl hD hy hin o q => ?_)
  subst hl; subst hD; subst hy
  show G X 6 0 [(0, .ref a)] [] h 0 0
  unfold fX10_goal at e
  refine g_aload_n 0 o dX10_goal_0 rfl rfl ?_
  obtain ⟨_, k1, e⟩ := ob e
  obtain ⟨x1, h1, q1, e⟩ := ob2_s e
  refine g_callVv [] o (mX10_canAct q1) cf10 (ckO_s k1) mw_661 mw_662 mw_663 mw_13 mw_664 rfl yo_X10_canAct rfl rfl (Nat.le_of_ble_eq_true rfl) ⟨by decide, by decide⟩ ⟨rfl, rfl⟩ dX10_goal_1 ⟨by decide, by decide⟩ ?_
  refine g_if_ne (x := x1) 9 o dX10_goal_4 (by decide) (fun u => ?_) (fun u => ?_)
  · rw [if_neg u] at e
    refine g_iconst (v := -1) o dX10_goal_9 (by decide) ?_
    refine g_istore_n [(1, .int (-1)), (0, .ref a)] o dX10_goal_10 rfl (by decide) rfl ?_
    refine g_ldc (v := 1000000) o dX10_goal_11 mw_357 ?_
    refine g_istore_n [(2, .int 1000000), (1, .int (-1)), (0, .ref a)] o dX10_goal_13 rfl (by decide) rfl ?_
    refine g_iconst (v := 0) o dX10_goal_14 (by decide) ?_
    refine g_istore_n [(3, .int 0), (2, .int 1000000), (1, .int (-1)), (0, .ref a)] o dX10_goal_15 rfl (by decide) rfl ?_
    refine g_sb [3, 2, 1, 0] rfl ?_
    exact kX10_goal_16 f0 o f0 a (-1) 1000000 0 h1 r hz q e
  · rw [if_pos u] at e
    refine g_iconst (v := -1) o dX10_goal_7 (by decide) ?_
    exact g_iret o dX10_goal_8 (rt_v q e)
theorem yo_X11_soonest : yok yX11_soonest 0 := ⟨by decide, by decide, by decide +kernel⟩
set_option maxRecDepth 100000 in
set_option maxHeartbeats 4000000 in
theorem mX11_soonest {l : Launch} {D : va_G} {cy : Nat → ClassId} {f0 : Nat} {a : Nat} {h : Hp} {r : Int32} {hz : Hp} (e : fX11_soonest f0 a h = some (r, hz)) : MC l D cy yX11_soonest cX11_soonest 2 (some .int) rmX11_soonest [.ref a] h (some (.int r)) hz := by
  refine mc_of2 (by decide) (Nat.le_of_ble_eq_true rfl) (fun X hl hD hy hin o q => ?_)
  subst hl; subst hD; subst hy
  show G X 2 0 [(0, .ref a)] [] h 0 0
  unfold fX11_soonest at e
  refine g_aload_n 0 o dX11_soonest_0 rfl rfl ?_
  obtain ⟨x1, q1, e⟩ := ob e
  refine g_getN 11 o cf11 (by decide) mw_375 dX11_soonest_1 q1 ?_
  obtain ⟨_, k4, e⟩ := ob e
  obtain ⟨x4, h4, q4, e⟩ := ob2_s e
  refine g_callVv [] o (mX10_goal q4) cf10 (ckO_s k4) mw_959 mw_960 mw_961 mw_13 mw_962 rfl yo_X10_goal rfl rfl (Nat.le_of_ble_eq_true rfl) ⟨by decide, by decide⟩ ⟨rfl, rfl⟩ dX11_soonest_4 ⟨by decide, by decide⟩ ?_
  refine g_istore_n [(1, .int x4), (0, .ref a)] o dX11_soonest_7 rfl (by decide) rfl ?_
  refine g_iload_n 0 o dX11_soonest_8 rfl rfl ?_
  refine g_iconst (v := -1) o dX11_soonest_9 (by decide) ?_
  refine g_icmp_ne (x := x4) (y := (-1)) 17 o dX11_soonest_10 (by decide) (fun u => ?_) (fun u => ?_)
  · rw [if_neg u] at e
    refine g_aload_n 1 o dX11_soonest_17 rfl rfl ?_
    obtain ⟨x18, q18, e⟩ := ob e
    refine g_getN 11 o cf11 (by decide) mw_375 dX11_soonest_18 q18 ?_
    obtain ⟨x21, q21, e⟩ := ob e
    refine g_getI 1 o cf10 (by decide) mw_280 dX11_soonest_21 q21 ?_
    refine g_aload_n 1 o dX11_soonest_24 rfl rfl ?_
    obtain ⟨x25, q25, e⟩ := ob e
    refine g_getN 11 o cf11 (by decide) mw_375 dX11_soonest_25 q25 ?_
    refine g_iload_n 0 o dX11_soonest_28 rfl rfl ?_
    obtain ⟨_, k29, e⟩ := ob e
    obtain ⟨x29, h29, q29, e⟩ := ob2_s e
    refine g_callVv [.int x4] o (mX10_farTo q29) cf10 (ckO_s k29) mw_954 mw_686 mw_687 mw_13 mw_688 rfl yo_X10_farTo rfl rfl (Nat.le_of_ble_eq_true rfl) ⟨by decide, by decide⟩ ⟨rfl, rfl⟩ dX11_soonest_29 ⟨by decide, by decide⟩ ?_
    refine g_iadd (x := x21) (y := x29) o dX11_soonest_32 ?_
    exact g_iret o dX11_soonest_33 (rt_v q e)
  · rw [if_pos u] at e
    refine g_iconst (v := -1) o dX11_soonest_13 (by decide) ?_
    refine g_goto 33 o dX11_soonest_14 (by decide) ?_
    exact g_iret o dX11_soonest_33 (rt_v q e)
