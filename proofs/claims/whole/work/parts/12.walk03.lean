theorem yo_X6_hasPorts : yok yX6_hasPorts 2 := ⟨by decide, by decide, by decide +kernel⟩
set_option maxRecDepth 100000 in
set_option maxHeartbeats 4000000 in
theorem mX6_hasPorts {l : Launch} {D : va_G} {cy : Nat → ClassId} {f0 : Nat} {a : Nat} {p0 : Int32} {p1 : Int32} {h : Hp} {r : Int32} {hz : Hp} (e : fX6_hasPorts f0 a p0 p1 h = some (r, hz)) : MC l D cy yX6_hasPorts cX6_hasPorts 3 (some .boolean) rmX6_hasPorts [.ref a, .int p0, .int p1] h (some (.int r)) hz := by
  refine mc_of2 (by decide) (Nat.le_of_ble_eq_true rfl) (fun X hl hD hy hin o q => ?_)
  subst hl; subst hD; subst hy
  show G X 3 0 [(0, .ref a), (1, .int p0), (2, .int p1)] [] h 0 0
  unfold fX6_hasPorts at e
  refine g_aload_n 0 o dX6_hasPorts_0 rfl rfl ?_
  refine g_iconst (v := 0) o dX6_hasPorts_1 (by decide) ?_
  refine g_iload_n 1 o dX6_hasPorts_2 rfl rfl ?_
  obtain ⟨_, k3, e⟩ := ob e
  obtain ⟨x3, h3, q3, e⟩ := ob2_s e
  refine g_callVv [.int 0, .int p0] o (mX6_has q3) cf6 (ckO_s k3) mw_681 mw_682 mw_683 mw_7 mw_684 rfl yo_X6_has rfl rfl (Nat.le_of_ble_eq_true rfl) ⟨by decide, by decide⟩ ⟨rfl, rfl⟩ dX6_hasPorts_3 ⟨by decide, by decide⟩ ?_
  refine g_if_eq (x := x3) 22 o dX6_hasPorts_6 (by decide) (fun u => ?_) (fun u => ?_)
  · rw [if_pos u] at e
    refine g_iconst (v := 0) o dX6_hasPorts_22 (by decide) ?_
    exact g_zret o dX6_hasPorts_23 (zr_s e).1 (rt_v q (zr_s e).2)
  · rw [if_neg u] at e
    refine g_aload_n 0 o dX6_hasPorts_9 rfl rfl ?_
    refine g_iconst (v := 0) o dX6_hasPorts_10 (by decide) ?_
    refine g_iload_n 2 o dX6_hasPorts_11 rfl rfl ?_
    obtain ⟨_, k12, e⟩ := ob e
    obtain ⟨x12, h12, q12, e⟩ := ob2_s e
    refine g_callVv [.int 0, .int p1] o (mX6_has q12) cf6 (ckO_s k12) mw_681 mw_682 mw_683 mw_7 mw_684 rfl yo_X6_has rfl rfl (Nat.le_of_ble_eq_true rfl) ⟨by decide, by decide⟩ ⟨rfl, rfl⟩ dX6_hasPorts_12 ⟨by decide, by decide⟩ ?_
    refine g_if_eq (x := x12) 22 o dX6_hasPorts_15 (by decide) (fun u => ?_) (fun u => ?_)
    · rw [if_pos u] at e
      refine g_iconst (v := 0) o dX6_hasPorts_22 (by decide) ?_
      exact g_zret o dX6_hasPorts_23 (zr_s e).1 (rt_v q (zr_s e).2)
    · rw [if_neg u] at e
      refine g_iconst (v := 1) o dX6_hasPorts_18 (by decide) ?_
      refine g_goto 23 o dX6_hasPorts_19 (by decide) ?_
      exact g_zret o dX6_hasPorts_23 (zr_s e).1 (rt_v q (zr_s e).2)
theorem yo_X6_hearsFrom : yok yX6_hearsFrom 2 := ⟨by decide, by decide, by decide +kernel⟩
set_option maxRecDepth 100000 in
set_option maxHeartbeats 4000000 in
theorem mX6_hearsFrom {l : Launch} {D : va_G} {cy : Nat → ClassId} {f0 : Nat} {a : Nat} {p0 : Int32} {p1 : Int32} {h : Hp} {r : Int32} {hz : Hp} (e : fX6_hearsFrom f0 a p0 p1 h = some (r, hz)) : MC l D cy yX6_hearsFrom cX6_hearsFrom 3 (some .boolean) rmX6_hearsFrom [.ref a, .int p0, .int p1] h (some (.int r)) hz := by
  refine mc_of2 (by decide) (Nat.le_of_ble_eq_true rfl) (fun X hl hD hy hin o q => ?_)
  subst hl; subst hD; subst hy
  show G X 3 0 [(0, .ref a), (1, .int p0), (2, .int p1)] [] h 0 0
  unfold fX6_hearsFrom at e
  refine g_aload_n 0 o dX6_hearsFrom_0 rfl rfl ?_
  refine g_iload_n 1 o dX6_hearsFrom_1 rfl rfl ?_
  refine g_iload_n 2 o dX6_hearsFrom_2 rfl rfl ?_
  obtain ⟨_, k3, e⟩ := ob e
  obtain ⟨x3, h3, q3, e⟩ := ob2_s e
  refine g_callVv [.int p0, .int p1] o (mX6_hasPorts q3) cf6 (ckO_s k3) mw_677 mw_678 mw_679 mw_7 mw_680 rfl yo_X6_hasPorts rfl rfl (Nat.le_of_ble_eq_true rfl) ⟨by decide, by decide⟩ ⟨rfl, rfl⟩ dX6_hearsFrom_3 ⟨by decide, by decide⟩ ?_
  refine g_if_eq (x := x3) 34 o dX6_hearsFrom_6 (by decide) (fun u => ?_) (fun u => ?_)
  · rw [if_pos u] at e
    refine g_iconst (v := 0) o dX6_hearsFrom_34 (by decide) ?_
    exact g_zret o dX6_hearsFrom_35 (zr_s e).1 (rt_v q (zr_s e).2)
  · rw [if_neg u] at e
    refine g_iload_n 1 o dX6_hearsFrom_9 rfl rfl ?_
    refine g_iload_n 2 o dX6_hearsFrom_10 rfl rfl ?_
    refine g_icmp_eq (x := p0) (y := p1) 34 o dX6_hearsFrom_11 (by decide) (fun u => ?_) (fun u => ?_)
    · rw [if_pos u] at e
      refine g_iconst (v := 0) o dX6_hearsFrom_34 (by decide) ?_
      exact g_zret o dX6_hearsFrom_35 (zr_s e).1 (rt_v q (zr_s e).2)
    · rw [if_neg u] at e
      refine g_aload_n 0 o dX6_hearsFrom_14 rfl rfl ?_
      obtain ⟨x15, q15, e⟩ := ob e
      refine g_getN 12 o cf6 (by decide) mw_180 dX6_hearsFrom_15 q15 ?_
      refine g_iload_n 1 o dX6_hearsFrom_18 rfl rfl ?_
      refine g_bipush (v := 8) o dX6_hearsFrom_19 (by decide) ?_
      refine g_imul (x := p0) (y := 8) o dX6_hearsFrom_21 ?_
      refine g_iload_n 2 o dX6_hearsFrom_22 rfl rfl ?_
      refine g_iadd (x := (p0 * 8)) (y := p1) o dX6_hearsFrom_23 ?_
      obtain ⟨x24, q24, e⟩ := ob e
      refine g_iald o dX6_hearsFrom_24 q24 ?_
      refine g_ldc (v := 1000000) o dX6_hearsFrom_25 mw_574 ?_
      refine g_icmp_ge (x := x24) (y := 1000000) 34 o dX6_hearsFrom_27 (by decide) (fun u => ?_) (fun u => ?_)
      · rw [if_pos u] at e
        refine g_iconst (v := 0) o dX6_hearsFrom_34 (by decide) ?_
        exact g_zret o dX6_hearsFrom_35 (zr_s e).1 (rt_v q (zr_s e).2)
      · rw [if_neg u] at e
        refine g_iconst (v := 1) o dX6_hearsFrom_30 (by decide) ?_
        refine g_goto 35 o dX6_hearsFrom_31 (by decide) ?_
        exact g_zret o dX6_hearsFrom_35 (zr_s e).1 (rt_v q (zr_s e).2)
theorem yo_X10_farTo : yok yX10_farTo 1 := ⟨by decide, by decide, by decide +kernel⟩
set_option maxRecDepth 100000 in
set_option maxHeartbeats 4000000 in
theorem mX10_farTo {l : Launch} {D : va_G} {cy : Nat → ClassId} {f0 : Nat} {a : Nat} {p0 : Int32} {h : Hp} {r : Int32} {hz : Hp} (e : fX10_farTo f0 a p0 h = some (r, hz)) : MC l D cy yX10_farTo cX10_farTo 2 (some .int) rmX10_farTo [.ref a, .int p0] h (some (.int r)) hz := by
  refine mc_of2 (by decide) (Nat.le_of_ble_eq_true rfl) (fun X hl hD hy hin o q => ?_)
  subst hl; subst hD; subst hy
  show G X 2 0 [(0, .ref a), (1, .int p0)] [] h 0 0
  unfold fX10_farTo at e
  refine g_aload_n 0 o dX10_farTo_0 rfl rfl ?_
  obtain ⟨x1, q1, e⟩ := ob e
  refine g_getN 0 o cf10 (by decide) mw_276 dX10_farTo_1 q1 ?_
  obtain ⟨_, k4, e⟩ := ob e
  obtain ⟨x4, h4, q4, e⟩ := ob2_s e
  refine g_callVv [] o (mX6_isForHer q4) cf6 (ckO_s k4) mw_347 mw_348 mw_349 mw_7 mw_350 rfl yo_X6_isForHer rfl rfl (Nat.le_of_ble_eq_true rfl) ⟨by decide, by decide⟩ ⟨rfl, rfl⟩ dX10_farTo_4 ⟨by decide, by decide⟩ ?_
  refine g_if_eq (x := x4) 30 o dX10_farTo_7 (by decide) (fun u => ?_) (fun u => ?_)
  · rw [if_pos u] at e
    refine g_ldc (v := 1000000) o dX10_farTo_30 mw_357 ?_
    exact g_iret o dX10_farTo_32 (rt_v q e)
  · rw [if_neg u] at e
    refine g_aload_n 0 o dX10_farTo_10 rfl rfl ?_
    obtain ⟨x11, q11, e⟩ := ob e
    refine g_getN 0 o cf10 (by decide) mw_276 dX10_farTo_11 q11 ?_
    obtain ⟨x14, q14, e⟩ := ob e
    refine g_getN 11 o cf6 (by decide) mw_179 dX10_farTo_14 q14 ?_
    refine g_aload_n 0 o dX10_farTo_17 rfl rfl ?_
    obtain ⟨x18, q18, e⟩ := ob e
    refine g_getI 2 o cf10 (by decide) mw_281 dX10_farTo_18 q18 ?_
    refine g_bipush (v := 8) o dX10_farTo_21 (by decide) ?_
    refine g_imul (x := x18) (y := 8) o dX10_farTo_23 ?_
    refine g_iload_n 1 o dX10_farTo_24 rfl rfl ?_
    refine g_iadd (x := (x18 * 8)) (y := p0) o dX10_farTo_25 ?_
    obtain ⟨x26, q26, e⟩ := ob e
    refine g_iald o dX10_farTo_26 q26 ?_
    refine g_goto 32 o dX10_farTo_27 (by decide) ?_
    exact g_iret o dX10_farTo_32 (rt_v q e)
theorem yo_X8_compares : yok yX8_compares 2 := ⟨by decide, by decide, by decide +kernel⟩
set_option maxRecDepth 100000 in
set_option maxHeartbeats 4000000 in
theorem mX8_compares {l : Launch} {D : va_G} {cy : Nat → ClassId} {f0 : Nat} {a : Nat} {p0 : Int32} {p1 : Int32} {h : Hp} {r : Int32} {hz : Hp} (e : fX8_compares f0 a p0 p1 h = some (r, hz)) : MC l D cy yX8_compares cX8_compares 3 (some .boolean) rmX8_compares [.ref a, .int p0, .int p1] h (some (.int r)) hz := by
  refine mc_of2 (by decide) (Nat.le_of_ble_eq_true rfl) (fun X hl hD hy hin o q => ?_)
  subst hl; subst hD; subst hy
  show G X 3 0 [(0, .ref a), (1, .int p0), (2, .int p1)] [] h 0 0
  unfold fX8_compares at e
  refine g_aload_n 0 o dX8_compares_0 rfl rfl ?_
  obtain ⟨x1, q1, e⟩ := ob e
  refine g_getN 1 o cf8 (by decide) mw_214 dX8_compares_1 q1 ?_
  refine g_iload_n 2 o dX8_compares_4 rfl rfl ?_
  obtain ⟨x5, q5, e⟩ := ob e
  refine g_iald o dX8_compares_5 q5 ?_
  refine g_bipush (v := 60) o dX8_compares_6 (by decide) ?_
  refine g_icmp_ne (x := x5) (y := 60) 27 o dX8_compares_8 (by decide) (fun u => ?_) (fun u => ?_)
  · rw [if_neg u] at e
    refine g_aload_n 0 o dX8_compares_27 rfl rfl ?_
    obtain ⟨x28, q28, e⟩ := ob e
    refine g_getN 1 o cf8 (by decide) mw_214 dX8_compares_28 q28 ?_
    refine g_iload_n 2 o dX8_compares_31 rfl rfl ?_
    obtain ⟨x32, q32, e⟩ := ob e
    refine g_iald o dX8_compares_32 q32 ?_
    refine g_bipush (v := 62) o dX8_compares_33 (by decide) ?_
    refine g_icmp_ne (x := x32) (y := 62) 56 o dX8_compares_35 (by decide) (fun u => ?_) (fun u => ?_)
    · rw [if_neg u] at e
      refine g_iload_n 1 o dX8_compares_56 rfl rfl ?_
      refine g_aload_n 0 o dX8_compares_57 rfl rfl ?_
      obtain ⟨x58, q58, e⟩ := ob e
      refine g_getN 2 o cf8 (by decide) mw_215 dX8_compares_58 q58 ?_
      refine g_iload_n 2 o dX8_compares_61 rfl rfl ?_
      obtain ⟨x62, q62, e⟩ := ob e
      refine g_iald o dX8_compares_62 q62 ?_
      refine g_icmp_ne (x := p0) (y := x62) 70 o dX8_compares_63 (by decide) (fun u => ?_) (fun u => ?_)
      · rw [if_neg u] at e
        refine g_iconst (v := 0) o dX8_compares_70 (by decide) ?_
        exact g_zret o dX8_compares_71 (zr_s e).1 (rt_v q (zr_s e).2)
      · rw [if_pos u] at e
        refine g_iconst (v := 1) o dX8_compares_66 (by decide) ?_
        refine g_goto 71 o dX8_compares_67 (by decide) ?_
        exact g_zret o dX8_compares_71 (zr_s e).1 (rt_v q (zr_s e).2)
    · rw [if_pos u] at e
      refine g_iload_n 1 o dX8_compares_38 rfl rfl ?_
      refine g_aload_n 0 o dX8_compares_39 rfl rfl ?_
      obtain ⟨x40, q40, e⟩ := ob e
      refine g_getN 2 o cf8 (by decide) mw_215 dX8_compares_40 q40 ?_
      refine g_iload_n 2 o dX8_compares_43 rfl rfl ?_
      obtain ⟨x44, q44, e⟩ := ob e
      refine g_iald o dX8_compares_44 q44 ?_
      refine g_icmp_le (x := p0) (y := x44) 52 o dX8_compares_45 (by decide) (fun u => ?_) (fun u => ?_)
      · rw [if_pos u] at e
        refine g_iconst (v := 0) o dX8_compares_52 (by decide) ?_
        refine g_goto 71 o dX8_compares_53 (by decide) ?_
        exact g_zret o dX8_compares_71 (zr_s e).1 (rt_v q (zr_s e).2)
      · rw [if_neg u] at e
        refine g_iconst (v := 1) o dX8_compares_48 (by decide) ?_
        refine g_goto 71 o dX8_compares_49 (by decide) ?_
        exact g_zret o dX8_compares_71 (zr_s e).1 (rt_v q (zr_s e).2)
  · rw [if_pos u] at e
    refine g_iload_n 1 o dX8_compares_11 rfl rfl ?_
    refine g_aload_n 0 o dX8_compares_12 rfl rfl ?_
    obtain ⟨x13, q13, e⟩ := ob e
    refine g_getN 2 o cf8 (by decide) mw_215 dX8_compares_13 q13 ?_
    refine g_iload_n 2 o dX8_compares_16 rfl rfl ?_
    obtain ⟨x17, q17, e⟩ := ob e
    refine g_iald o dX8_compares_17 q17 ?_
    refine g_icmp_ge (x := p0) (y := x17) 25 o dX8_compares_18 (by decide) (fun u => ?_) (fun u => ?_)
    · rw [if_pos u] at e
      refine g_iconst (v := 0) o dX8_compares_25 (by decide) ?_
      exact g_zret o dX8_compares_26 (zr_s e).1 (rt_v q (zr_s e).2)
    · rw [if_neg u] at e
      refine g_iconst (v := 1) o dX8_compares_21 (by decide) ?_
      refine g_goto 26 o dX8_compares_22 (by decide) ?_
      exact g_zret o dX8_compares_26 (zr_s e).1 (rt_v q (zr_s e).2)
set_option maxRecDepth 100000 in
set_option maxHeartbeats 4000000 in
theorem kX10_namesKnownAt_32 {X : Cx} (f0 : Nat) (g4 : Nat → Int32 → Int32 → Int32 → Hp → Option (Int32 × Hp)) (i4 : ∀ (v02 : Nat) (v12 : Int32) (v22 : Int32) (v32 : Int32) (h2 : Hp) (r : Int32) (hz : Hp), Rt X (some (.int r)) hz 0 0 → g4 v02 v12 v22 v32 h2 = some (r, hz) → G X 4 4 [(0, .ref v02), (1, .int v12), (2, .int v22), (3, .int v32)] [] h2 0 0) (o : Ok X cX10_namesKnownAt RX10 4 rmX10_namesKnownAt (some .int)) (v0 : Nat) (v1 : Int32) (v2 : Int32) (v3 : Int32) (h : Hp) (r : Int32) (hz : Hp) (q : Rt X (some (.int r)) hz 0 0) (e : bX10_namesKnownAt_32 f0 g4 v0 v1 v2 v3 h = some (r, hz)) : G X 4 32 [(0, .ref v0), (1, .int v1), (2, .int v2), (3, .int v3)] [] h 0 0 := by
  unfold bX10_namesKnownAt_32 at e
  refine g_iinc (k := 3) (v := (v3 + 1)) [(3, .int (v3 + 1)), (0, .ref v0), (1, .int v1), (2, .int v2)] o dX10_namesKnownAt_32 rfl rfl (by decide) rfl ?_
  refine g_goto 4 o dX10_namesKnownAt_35 (by decide) ?_
  refine g_sb [1, 2, 3, 0] rfl ?_
  exact i4 v0 v1 v2 (v3 + 1) h r hz q e
set_option maxRecDepth 100000 in
set_option maxHeartbeats 4000000 in
theorem kX10_namesKnownAt_4 {X : Cx} (f0 : Nat) (o : Ok X cX10_namesKnownAt RX10 4 rmX10_namesKnownAt (some .int)) (f : Nat) (v0 : Nat) (v1 : Int32) (v2 : Int32) (v3 : Int32) (h : Hp) (r : Int32) (hz : Hp) (q : Rt X (some (.int r)) hz 0 0) (e : bX10_namesKnownAt_4 f0 f v0 v1 v2 v3 h = some (r, hz)) : G X 4 4 [(0, .ref v0), (1, .int v1), (2, .int v2), (3, .int v3)] [] h 0 0 := by
  induction f generalizing v0 v1 v2 v3 h r hz with
  | zero => cases e
  | succ f1 ih =>
    unfold bX10_namesKnownAt_4 at e
    refine g_iload_n 3 o dX10_namesKnownAt_4 rfl rfl ?_
    refine g_aload_n 0 o dX10_namesKnownAt_5 rfl rfl ?_
    obtain ⟨x6, q6, e⟩ := ob e
    refine g_getN 0 o cf10 (by decide) mw_276 dX10_namesKnownAt_6 q6 ?_
    obtain ⟨x9, q9, e⟩ := ob e
    refine g_getN 1 o cf6 (by decide) mw_144 dX10_namesKnownAt_9 q9 ?_
    refine g_iconst (v := 3) o dX10_namesKnownAt_12 (by decide) ?_
    obtain ⟨x13, q13, e⟩ := ob e
    refine g_iald o dX10_namesKnownAt_13 q13 ?_
    refine g_icmp_ge (x := v3) (y := x13) 38 o dX10_namesKnownAt_14 (by decide) (fun u => ?_) (fun u => ?_)
    · rw [if_pos u] at e
      refine g_iload_n 2 o dX10_namesKnownAt_38 rfl rfl ?_
      exact g_iret o dX10_namesKnownAt_39 (rt_v q e)
    · rw [if_neg u] at e
      refine g_aload_n 0 o dX10_namesKnownAt_17 rfl rfl ?_
      refine g_iload_n 1 o dX10_namesKnownAt_18 rfl rfl ?_
      refine g_iload_n 3 o dX10_namesKnownAt_19 rfl rfl ?_
      obtain ⟨_, k20, e⟩ := ob e
      obtain ⟨x20, h20, q20, e⟩ := ob2_s e
      refine g_callVv [.int v1, .int v3] o (mX10_knowsNow q20) cf10 (ckO_s k20) mw_696 mw_670 mw_671 mw_13 mw_672 rfl yo_X10_knowsNow rfl rfl (Nat.le_of_ble_eq_true rfl) ⟨by decide, by decide⟩ ⟨rfl, rfl⟩ dX10_namesKnownAt_20 ⟨by decide, by decide⟩ ?_
      refine g_if_eq (x := x20) 32 o dX10_namesKnownAt_23 (by decide) (fun u => ?_) (fun u => ?_)
      · rw [if_pos u] at e
        exact kX10_namesKnownAt_32 f0 (bX10_namesKnownAt_4 f0 f1) ih o v0 v1 v2 v3 h20 r hz q e
      · rw [if_neg u] at e
        refine g_iload_n 2 o dX10_namesKnownAt_26 rfl rfl ?_
        refine g_iconst (v := 1) o dX10_namesKnownAt_27 (by decide) ?_
        refine g_iload_n 3 o dX10_namesKnownAt_28 rfl rfl ?_
        refine g_ishl (x := (1 : Int32)) (y := v3) o dX10_namesKnownAt_29 ?_
        refine g_ior (x := v2) (y := ((1 : Int32) <<< (v3 &&& 31))) o dX10_namesKnownAt_30 ?_
        refine g_istore_n [(2, .int (v2 ||| ((1 : Int32) <<< (v3 &&& 31)))), (0, .ref v0), (1, .int v1), (3, .int v3)] o dX10_namesKnownAt_31 rfl (by decide) rfl ?_
        refine g_sb [1, 2, 0, 3] rfl ?_
        exact kX10_namesKnownAt_32 f0 (bX10_namesKnownAt_4 f0 f1) ih o v0 v1 (v2 ||| ((1 : Int32) <<< (v3 &&& 31))) v3 h20 r hz q e
theorem yo_X10_namesKnownAt : yok yX10_namesKnownAt 1 := ⟨by decide, by decide, by decide +kernel⟩
set_option maxRecDepth 100000 in
set_option maxHeartbeats 4000000 in
theorem mX10_namesKnownAt {l : Launch} {D : va_G} {cy : Nat → ClassId} {f0 : Nat} {a : Nat} {p0 : Int32} {h : Hp} {r : Int32} {hz : Hp} (e : fX10_namesKnownAt f0 a p0 h = some (r, hz)) : MC l D cy yX10_namesKnownAt cX10_namesKnownAt 4 (some .int) rmX10_namesKnownAt [.ref a, .int p0] h (some (.int r)) hz := by
  refine mc_of2 (by decide) (Nat.le_of_ble_eq_true rfl) (fun X hl hD hy hin o q => ?_)
  subst hl; subst hD; subst hy
  show G X 4 0 [(0, .ref a), (1, .int p0)] [] h 0 0
  unfold fX10_namesKnownAt at e
  refine g_iconst (v := 0) o dX10_namesKnownAt_0 (by decide) ?_
  refine g_istore_n [(2, .int 0), (0, .ref a), (1, .int p0)] o dX10_namesKnownAt_1 rfl (by decide) rfl ?_
  refine g_iconst (v := 0) o dX10_namesKnownAt_2 (by decide) ?_
  refine g_istore_n [(3, .int 0), (2, .int 0), (0, .ref a), (1, .int p0)] o dX10_namesKnownAt_3 rfl (by decide) rfl ?_
  refine g_sb [2, 3, 1, 0] rfl ?_
  exact kX10_namesKnownAt_4 f0 o f0 a p0 0 0 h r hz q e
theorem yo_J6_bitCount_0f7a4 : yok yJ6_bitCount_0f7a4 1 := ⟨by decide, by decide, by decide +kernel⟩
set_option maxRecDepth 100000 in
set_option maxHeartbeats 4000000 in
theorem mJ6_bitCount_0f7a4 {l : Launch} {D : va_G} {cy : Nat → ClassId} {f0 : Nat} {p0 : Int32} {h : Hp} {r : Int32} {hz : Hp} (e : fJ6_bitCount_0f7a4 f0 p0 h = some (r, hz)) : MC l D cy yJ6_bitCount_0f7a4 cJ6_bitCount_0f7a4 1 (some .int) rmJ6_bitCount_0f7a4 [.int p0] h (some (.int r)) hz := by
  refine mc_of2 (by decide) (Nat.le_of_ble_eq_true rfl) (fun X hl hD hy hin o q => ?_)
  subst hl; subst hD; subst hy
  show G X 1 0 [(0, .int p0)] [] h 0 0
  unfold fJ6_bitCount_0f7a4 at e
  refine g_iload_n 0 o dJ6_bitCount_0f7a4_0 rfl rfl ?_
  refine g_iload_n 0 o dJ6_bitCount_0f7a4_1 rfl rfl ?_
  refine g_iconst (v := 1) o dJ6_bitCount_0f7a4_2 (by decide) ?_
  refine g_iushr (x := p0) (y := 1) o dJ6_bitCount_0f7a4_3 ?_
  refine g_ldc_w (v := 1431655765) o dJ6_bitCount_0f7a4_4 mw_700 ?_
  refine g_iand (x := ((Int32.toUInt32 p0 >>> (Int32.toUInt32 1 &&& Int32.toUInt32 31)).toInt32)) (y := 1431655765) o dJ6_bitCount_0f7a4_7 ?_
  refine g_isub (x := p0) (y := (((Int32.toUInt32 p0 >>> (Int32.toUInt32 1 &&& Int32.toUInt32 31)).toInt32) &&& 1431655765)) o dJ6_bitCount_0f7a4_8 ?_
  refine g_istore_n [(0, .int (p0 - (((Int32.toUInt32 p0 >>> (Int32.toUInt32 1 &&& Int32.toUInt32 31)).toInt32) &&& 1431655765)))] o dJ6_bitCount_0f7a4_9 rfl (by decide) rfl ?_
  refine g_iload_n 0 o dJ6_bitCount_0f7a4_10 rfl rfl ?_
  refine g_ldc_w (v := 858993459) o dJ6_bitCount_0f7a4_11 mw_701 ?_
  refine g_iand (x := (p0 - (((Int32.toUInt32 p0 >>> (Int32.toUInt32 1 &&& Int32.toUInt32 31)).toInt32) &&& 1431655765))) (y := 858993459) o dJ6_bitCount_0f7a4_14 ?_
  refine g_iload_n 0 o dJ6_bitCount_0f7a4_15 rfl rfl ?_
  refine g_iconst (v := 2) o dJ6_bitCount_0f7a4_16 (by decide) ?_
  refine g_iushr (x := (p0 - (((Int32.toUInt32 p0 >>> (Int32.toUInt32 1 &&& Int32.toUInt32 31)).toInt32) &&& 1431655765))) (y := 2) o dJ6_bitCount_0f7a4_17 ?_
  refine g_ldc_w (v := 858993459) o dJ6_bitCount_0f7a4_18 mw_701 ?_
  refine g_iand (x := ((Int32.toUInt32 (p0 - (((Int32.toUInt32 p0 >>> (Int32.toUInt32 1 &&& Int32.toUInt32 31)).toInt32) &&& 1431655765)) >>> (Int32.toUInt32 2 &&& Int32.toUInt32 31)).toInt32)) (y := 858993459) o dJ6_bitCount_0f7a4_21 ?_
  refine g_iadd (x := ((p0 - (((Int32.toUInt32 p0 >>> (Int32.toUInt32 1 &&& Int32.toUInt32 31)).toInt32) &&& 1431655765)) &&& 858993459)) (y := (((Int32.toUInt32 (p0 - (((Int32.toUInt32 p0 >>> (Int32.toUInt32 1 &&& Int32.toUInt32 31)).toInt32) &&& 1431655765)) >>> (Int32.toUInt32 2 &&& Int32.toUInt32 31)).toInt32) &&& 858993459)) o dJ6_bitCount_0f7a4_22 ?_
  refine g_istore_n [(0, .int (((p0 - (((Int32.toUInt32 p0 >>> (Int32.toUInt32 1 &&& Int32.toUInt32 31)).toInt32) &&& 1431655765)) &&& 858993459) + (((Int32.toUInt32 (p0 - (((Int32.toUInt32 p0 >>> (Int32.toUInt32 1 &&& Int32.toUInt32 31)).toInt32) &&& 1431655765)) >>> (Int32.toUInt32 2 &&& Int32.toUInt32 31)).toInt32) &&& 858993459)))] o dJ6_bitCount_0f7a4_23 rfl (by decide) rfl ?_
  refine g_iload_n 0 o dJ6_bitCount_0f7a4_24 rfl rfl ?_
  refine g_iload_n 0 o dJ6_bitCount_0f7a4_25 rfl rfl ?_
  refine g_iconst (v := 4) o dJ6_bitCount_0f7a4_26 (by decide) ?_
  refine g_iushr (x := (((p0 - (((Int32.toUInt32 p0 >>> (Int32.toUInt32 1 &&& Int32.toUInt32 31)).toInt32) &&& 1431655765)) &&& 858993459) + (((Int32.toUInt32 (p0 - (((Int32.toUInt32 p0 >>> (Int32.toUInt32 1 &&& Int32.toUInt32 31)).toInt32) &&& 1431655765)) >>> (Int32.toUInt32 2 &&& Int32.toUInt32 31)).toInt32) &&& 858993459))) (y := 4) o dJ6_bitCount_0f7a4_27 ?_
  refine g_iadd (x := (((p0 - (((Int32.toUInt32 p0 >>> (Int32.toUInt32 1 &&& Int32.toUInt32 31)).toInt32) &&& 1431655765)) &&& 858993459) + (((Int32.toUInt32 (p0 - (((Int32.toUInt32 p0 >>> (Int32.toUInt32 1 &&& Int32.toUInt32 31)).toInt32) &&& 1431655765)) >>> (Int32.toUInt32 2 &&& Int32.toUInt32 31)).toInt32) &&& 858993459))) (y := ((Int32.toUInt32 (((p0 - (((Int32.toUInt32 p0 >>> (Int32.toUInt32 1 &&& Int32.toUInt32 31)).toInt32) &&& 1431655765)) &&& 858993459) + (((Int32.toUInt32 (p0 - (((Int32.toUInt32 p0 >>> (Int32.toUInt32 1 &&& Int32.toUInt32 31)).toInt32) &&& 1431655765)) >>> (Int32.toUInt32 2 &&& Int32.toUInt32 31)).toInt32) &&& 858993459)) >>> (Int32.toUInt32 4 &&& Int32.toUInt32 31)).toInt32)) o dJ6_bitCount_0f7a4_28 ?_
  refine g_ldc_w (v := 252645135) o dJ6_bitCount_0f7a4_29 mw_702 ?_
  refine g_iand (x := ((((p0 - (((Int32.toUInt32 p0 >>> (Int32.toUInt32 1 &&& Int32.toUInt32 31)).toInt32) &&& 1431655765)) &&& 858993459) + (((Int32.toUInt32 (p0 - (((Int32.toUInt32 p0 >>> (Int32.toUInt32 1 &&& Int32.toUInt32 31)).toInt32) &&& 1431655765)) >>> (Int32.toUInt32 2 &&& Int32.toUInt32 31)).toInt32) &&& 858993459)) + ((Int32.toUInt32 (((p0 - (((Int32.toUInt32 p0 >>> (Int32.toUInt32 1 &&& Int32.toUInt32 31)).toInt32) &&& 1431655765)) &&& 858993459) + (((Int32.toUInt32 (p0 - (((Int32.toUInt32 p0 >>> (Int32.toUInt32 1 &&& Int32.toUInt32 31)).toInt32) &&& 1431655765)) >>> (Int32.toUInt32 2 &&& Int32.toUInt32 31)).toInt32) &&& 858993459)) >>> (Int32.toUInt32 4 &&& Int32.toUInt32 31)).toInt32))) (y := 252645135) o dJ6_bitCount_0f7a4_32 ?_
  refine g_istore_n [(0, .int (((((p0 - (((Int32.toUInt32 p0 >>> (Int32.toUInt32 1 &&& Int32.toUInt32 31)).toInt32) &&& 1431655765)) &&& 858993459) + (((Int32.toUInt32 (p0 - (((Int32.toUInt32 p0 >>> (Int32.toUInt32 1 &&& Int32.toUInt32 31)).toInt32) &&& 1431655765)) >>> (Int32.toUInt32 2 &&& Int32.toUInt32 31)).toInt32) &&& 858993459)) + ((Int32.toUInt32 (((p0 - (((Int32.toUInt32 p0 >>> (Int32.toUInt32 1 &&& Int32.toUInt32 31)).toInt32) &&& 1431655765)) &&& 858993459) + (((Int32.toUInt32 (p0 - (((Int32.toUInt32 p0 >>> (Int32.toUInt32 1 &&& Int32.toUInt32 31)).toInt32) &&& 1431655765)) >>> (Int32.toUInt32 2 &&& Int32.toUInt32 31)).toInt32) &&& 858993459)) >>> (Int32.toUInt32 4 &&& Int32.toUInt32 31)).toInt32)) &&& 252645135))] o dJ6_bitCount_0f7a4_33 rfl (by decide) rfl ?_
  refine g_iload_n 0 o dJ6_bitCount_0f7a4_34 rfl rfl ?_
  refine g_iload_n 0 o dJ6_bitCount_0f7a4_35 rfl rfl ?_
  refine g_bipush (v := 8) o dJ6_bitCount_0f7a4_36 (by decide) ?_
  refine g_iushr (x := (((((p0 - (((Int32.toUInt32 p0 >>> (Int32.toUInt32 1 &&& Int32.toUInt32 31)).toInt32) &&& 1431655765)) &&& 858993459) + (((Int32.toUInt32 (p0 - (((Int32.toUInt32 p0 >>> (Int32.toUInt32 1 &&& Int32.toUInt32 31)).toInt32) &&& 1431655765)) >>> (Int32.toUInt32 2 &&& Int32.toUInt32 31)).toInt32) &&& 858993459)) + ((Int32.toUInt32 (((p0 - (((Int32.toUInt32 p0 >>> (Int32.toUInt32 1 &&& Int32.toUInt32 31)).toInt32) &&& 1431655765)) &&& 858993459) + (((Int32.toUInt32 (p0 - (((Int32.toUInt32 p0 >>> (Int32.toUInt32 1 &&& Int32.toUInt32 31)).toInt32) &&& 1431655765)) >>> (Int32.toUInt32 2 &&& Int32.toUInt32 31)).toInt32) &&& 858993459)) >>> (Int32.toUInt32 4 &&& Int32.toUInt32 31)).toInt32)) &&& 252645135)) (y := 8) o dJ6_bitCount_0f7a4_38 ?_
  refine g_iadd (x := (((((p0 - (((Int32.toUInt32 p0 >>> (Int32.toUInt32 1 &&& Int32.toUInt32 31)).toInt32) &&& 1431655765)) &&& 858993459) + (((Int32.toUInt32 (p0 - (((Int32.toUInt32 p0 >>> (Int32.toUInt32 1 &&& Int32.toUInt32 31)).toInt32) &&& 1431655765)) >>> (Int32.toUInt32 2 &&& Int32.toUInt32 31)).toInt32) &&& 858993459)) + ((Int32.toUInt32 (((p0 - (((Int32.toUInt32 p0 >>> (Int32.toUInt32 1 &&& Int32.toUInt32 31)).toInt32) &&& 1431655765)) &&& 858993459) + (((Int32.toUInt32 (p0 - (((Int32.toUInt32 p0 >>> (Int32.toUInt32 1 &&& Int32.toUInt32 31)).toInt32) &&& 1431655765)) >>> (Int32.toUInt32 2 &&& Int32.toUInt32 31)).toInt32) &&& 858993459)) >>> (Int32.toUInt32 4 &&& Int32.toUInt32 31)).toInt32)) &&& 252645135)) (y := ((Int32.toUInt32 (((((p0 - (((Int32.toUInt32 p0 >>> (Int32.toUInt32 1 &&& Int32.toUInt32 31)).toInt32) &&& 1431655765)) &&& 858993459) + (((Int32.toUInt32 (p0 - (((Int32.toUInt32 p0 >>> (Int32.toUInt32 1 &&& Int32.toUInt32 31)).toInt32) &&& 1431655765)) >>> (Int32.toUInt32 2 &&& Int32.toUInt32 31)).toInt32) &&& 858993459)) + ((Int32.toUInt32 (((p0 - (((Int32.toUInt32 p0 >>> (Int32.toUInt32 1 &&& Int32.toUInt32 31)).toInt32) &&& 1431655765)) &&& 858993459) + (((Int32.toUInt32 (p0 - (((Int32.toUInt32 p0 >>> (Int32.toUInt32 1 &&& Int32.toUInt32 31)).toInt32) &&& 1431655765)) >>> (Int32.toUInt32 2 &&& Int32.toUInt32 31)).toInt32) &&& 858993459)) >>> (Int32.toUInt32 4 &&& Int32.toUInt32 31)).toInt32)) &&& 252645135) >>> (Int32.toUInt32 8 &&& Int32.toUInt32 31)).toInt32)) o dJ6_bitCount_0f7a4_39 ?_
  refine g_istore_n [(0, .int ((((((p0 - (((Int32.toUInt32 p0 >>> (Int32.toUInt32 1 &&& Int32.toUInt32 31)).toInt32) &&& 1431655765)) &&& 858993459) + (((Int32.toUInt32 (p0 - (((Int32.toUInt32 p0 >>> (Int32.toUInt32 1 &&& Int32.toUInt32 31)).toInt32) &&& 1431655765)) >>> (Int32.toUInt32 2 &&& Int32.toUInt32 31)).toInt32) &&& 858993459)) + ((Int32.toUInt32 (((p0 - (((Int32.toUInt32 p0 >>> (Int32.toUInt32 1 &&& Int32.toUInt32 31)).toInt32) &&& 1431655765)) &&& 858993459) + (((Int32.toUInt32 (p0 - (((Int32.toUInt32 p0 >>> (Int32.toUInt32 1 &&& Int32.toUInt32 31)).toInt32) &&& 1431655765)) >>> (Int32.toUInt32 2 &&& Int32.toUInt32 31)).toInt32) &&& 858993459)) >>> (Int32.toUInt32 4 &&& Int32.toUInt32 31)).toInt32)) &&& 252645135) + ((Int32.toUInt32 (((((p0 - (((Int32.toUInt32 p0 >>> (Int32.toUInt32 1 &&& Int32.toUInt32 31)).toInt32) &&& 1431655765)) &&& 858993459) + (((Int32.toUInt32 (p0 - (((Int32.toUInt32 p0 >>> (Int32.toUInt32 1 &&& Int32.toUInt32 31)).toInt32) &&& 1431655765)) >>> (Int32.toUInt32 2 &&& Int32.toUInt32 31)).toInt32) &&& 858993459)) + ((Int32.toUInt32 (((p0 - (((Int32.toUInt32 p0 >>> (Int32.toUInt32 1 &&& Int32.toUInt32 31)).toInt32) &&& 1431655765)) &&& 858993459) + (((Int32.toUInt32 (p0 - (((Int32.toUInt32 p0 >>> (Int32.toUInt32 1 &&& Int32.toUInt32 31)).toInt32) &&& 1431655765)) >>> (Int32.toUInt32 2 &&& Int32.toUInt32 31)).toInt32) &&& 858993459)) >>> (Int32.toUInt32 4 &&& Int32.toUInt32 31)).toInt32)) &&& 252645135) >>> (Int32.toUInt32 8 &&& Int32.toUInt32 31)).toInt32)))] o dJ6_bitCount_0f7a4_40 rfl (by decide) rfl ?_
  refine g_iload_n 0 o dJ6_bitCount_0f7a4_41 rfl rfl ?_
  refine g_iload_n 0 o dJ6_bitCount_0f7a4_42 rfl rfl ?_
  refine g_bipush (v := 16) o dJ6_bitCount_0f7a4_43 (by decide) ?_
  refine g_iushr (x := ((((((p0 - (((Int32.toUInt32 p0 >>> (Int32.toUInt32 1 &&& Int32.toUInt32 31)).toInt32) &&& 1431655765)) &&& 858993459) + (((Int32.toUInt32 (p0 - (((Int32.toUInt32 p0 >>> (Int32.toUInt32 1 &&& Int32.toUInt32 31)).toInt32) &&& 1431655765)) >>> (Int32.toUInt32 2 &&& Int32.toUInt32 31)).toInt32) &&& 858993459)) + ((Int32.toUInt32 (((p0 - (((Int32.toUInt32 p0 >>> (Int32.toUInt32 1 &&& Int32.toUInt32 31)).toInt32) &&& 1431655765)) &&& 858993459) + (((Int32.toUInt32 (p0 - (((Int32.toUInt32 p0 >>> (Int32.toUInt32 1 &&& Int32.toUInt32 31)).toInt32) &&& 1431655765)) >>> (Int32.toUInt32 2 &&& Int32.toUInt32 31)).toInt32) &&& 858993459)) >>> (Int32.toUInt32 4 &&& Int32.toUInt32 31)).toInt32)) &&& 252645135) + ((Int32.toUInt32 (((((p0 - (((Int32.toUInt32 p0 >>> (Int32.toUInt32 1 &&& Int32.toUInt32 31)).toInt32) &&& 1431655765)) &&& 858993459) + (((Int32.toUInt32 (p0 - (((Int32.toUInt32 p0 >>> (Int32.toUInt32 1 &&& Int32.toUInt32 31)).toInt32) &&& 1431655765)) >>> (Int32.toUInt32 2 &&& Int32.toUInt32 31)).toInt32) &&& 858993459)) + ((Int32.toUInt32 (((p0 - (((Int32.toUInt32 p0 >>> (Int32.toUInt32 1 &&& Int32.toUInt32 31)).toInt32) &&& 1431655765)) &&& 858993459) + (((Int32.toUInt32 (p0 - (((Int32.toUInt32 p0 >>> (Int32.toUInt32 1 &&& Int32.toUInt32 31)).toInt32) &&& 1431655765)) >>> (Int32.toUInt32 2 &&& Int32.toUInt32 31)).toInt32) &&& 858993459)) >>> (Int32.toUInt32 4 &&& Int32.toUInt32 31)).toInt32)) &&& 252645135) >>> (Int32.toUInt32 8 &&& Int32.toUInt32 31)).toInt32))) (y := 16) o dJ6_bitCount_0f7a4_45 ?_
  refine g_iadd (x := ((((((p0 - (((Int32.toUInt32 p0 >>> (Int32.toUInt32 1 &&& Int32.toUInt32 31)).toInt32) &&& 1431655765)) &&& 858993459) + (((Int32.toUInt32 (p0 - (((Int32.toUInt32 p0 >>> (Int32.toUInt32 1 &&& Int32.toUInt32 31)).toInt32) &&& 1431655765)) >>> (Int32.toUInt32 2 &&& Int32.toUInt32 31)).toInt32) &&& 858993459)) + ((Int32.toUInt32 (((p0 - (((Int32.toUInt32 p0 >>> (Int32.toUInt32 1 &&& Int32.toUInt32 31)).toInt32) &&& 1431655765)) &&& 858993459) + (((Int32.toUInt32 (p0 - (((Int32.toUInt32 p0 >>> (Int32.toUInt32 1 &&& Int32.toUInt32 31)).toInt32) &&& 1431655765)) >>> (Int32.toUInt32 2 &&& Int32.toUInt32 31)).toInt32) &&& 858993459)) >>> (Int32.toUInt32 4 &&& Int32.toUInt32 31)).toInt32)) &&& 252645135) + ((Int32.toUInt32 (((((p0 - (((Int32.toUInt32 p0 >>> (Int32.toUInt32 1 &&& Int32.toUInt32 31)).toInt32) &&& 1431655765)) &&& 858993459) + (((Int32.toUInt32 (p0 - (((Int32.toUInt32 p0 >>> (Int32.toUInt32 1 &&& Int32.toUInt32 31)).toInt32) &&& 1431655765)) >>> (Int32.toUInt32 2 &&& Int32.toUInt32 31)).toInt32) &&& 858993459)) + ((Int32.toUInt32 (((p0 - (((Int32.toUInt32 p0 >>> (Int32.toUInt32 1 &&& Int32.toUInt32 31)).toInt32) &&& 1431655765)) &&& 858993459) + (((Int32.toUInt32 (p0 - (((Int32.toUInt32 p0 >>> (Int32.toUInt32 1 &&& Int32.toUInt32 31)).toInt32) &&& 1431655765)) >>> (Int32.toUInt32 2 &&& Int32.toUInt32 31)).toInt32) &&& 858993459)) >>> (Int32.toUInt32 4 &&& Int32.toUInt32 31)).toInt32)) &&& 252645135) >>> (Int32.toUInt32 8 &&& Int32.toUInt32 31)).toInt32))) (y := ((Int32.toUInt32 ((((((p0 - (((Int32.toUInt32 p0 >>> (Int32.toUInt32 1 &&& Int32.toUInt32 31)).toInt32) &&& 1431655765)) &&& 858993459) + (((Int32.toUInt32 (p0 - (((Int32.toUInt32 p0 >>> (Int32.toUInt32 1 &&& Int32.toUInt32 31)).toInt32) &&& 1431655765)) >>> (Int32.toUInt32 2 &&& Int32.toUInt32 31)).toInt32) &&& 858993459)) + ((Int32.toUInt32 (((p0 - (((Int32.toUInt32 p0 >>> (Int32.toUInt32 1 &&& Int32.toUInt32 31)).toInt32) &&& 1431655765)) &&& 858993459) + (((Int32.toUInt32 (p0 - (((Int32.toUInt32 p0 >>> (Int32.toUInt32 1 &&& Int32.toUInt32 31)).toInt32) &&& 1431655765)) >>> (Int32.toUInt32 2 &&& Int32.toUInt32 31)).toInt32) &&& 858993459)) >>> (Int32.toUInt32 4 &&& Int32.toUInt32 31)).toInt32)) &&& 252645135) + ((Int32.toUInt32 (((((p0 - (((Int32.toUInt32 p0 >>> (Int32.toUInt32 1 &&& Int32.toUInt32 31)).toInt32) &&& 1431655765)) &&& 858993459) + (((Int32.toUInt32 (p0 - (((Int32.toUInt32 p0 >>> (Int32.toUInt32 1 &&& Int32.toUInt32 31)).toInt32) &&& 1431655765)) >>> (Int32.toUInt32 2 &&& Int32.toUInt32 31)).toInt32) &&& 858993459)) + ((Int32.toUInt32 (((p0 - (((Int32.toUInt32 p0 >>> (Int32.toUInt32 1 &&& Int32.toUInt32 31)).toInt32) &&& 1431655765)) &&& 858993459) + (((Int32.toUInt32 (p0 - (((Int32.toUInt32 p0 >>> (Int32.toUInt32 1 &&& Int32.toUInt32 31)).toInt32) &&& 1431655765)) >>> (Int32.toUInt32 2 &&& Int32.toUInt32 31)).toInt32) &&& 858993459)) >>> (Int32.toUInt32 4 &&& Int32.toUInt32 31)).toInt32)) &&& 252645135) >>> (Int32.toUInt32 8 &&& Int32.toUInt32 31)).toInt32)) >>> (Int32.toUInt32 16 &&& Int32.toUInt32 31)).toInt32)) o dJ6_bitCount_0f7a4_46 ?_
  refine g_istore_n [(0, .int (((((((p0 - (((Int32.toUInt32 p0 >>> (Int32.toUInt32 1 &&& Int32.toUInt32 31)).toInt32) &&& 1431655765)) &&& 858993459) + (((Int32.toUInt32 (p0 - (((Int32.toUInt32 p0 >>> (Int32.toUInt32 1 &&& Int32.toUInt32 31)).toInt32) &&& 1431655765)) >>> (Int32.toUInt32 2 &&& Int32.toUInt32 31)).toInt32) &&& 858993459)) + ((Int32.toUInt32 (((p0 - (((Int32.toUInt32 p0 >>> (Int32.toUInt32 1 &&& Int32.toUInt32 31)).toInt32) &&& 1431655765)) &&& 858993459) + (((Int32.toUInt32 (p0 - (((Int32.toUInt32 p0 >>> (Int32.toUInt32 1 &&& Int32.toUInt32 31)).toInt32) &&& 1431655765)) >>> (Int32.toUInt32 2 &&& Int32.toUInt32 31)).toInt32) &&& 858993459)) >>> (Int32.toUInt32 4 &&& Int32.toUInt32 31)).toInt32)) &&& 252645135) + ((Int32.toUInt32 (((((p0 - (((Int32.toUInt32 p0 >>> (Int32.toUInt32 1 &&& Int32.toUInt32 31)).toInt32) &&& 1431655765)) &&& 858993459) + (((Int32.toUInt32 (p0 - (((Int32.toUInt32 p0 >>> (Int32.toUInt32 1 &&& Int32.toUInt32 31)).toInt32) &&& 1431655765)) >>> (Int32.toUInt32 2 &&& Int32.toUInt32 31)).toInt32) &&& 858993459)) + ((Int32.toUInt32 (((p0 - (((Int32.toUInt32 p0 >>> (Int32.toUInt32 1 &&& Int32.toUInt32 31)).toInt32) &&& 1431655765)) &&& 858993459) + (((Int32.toUInt32 (p0 - (((Int32.toUInt32 p0 >>> (Int32.toUInt32 1 &&& Int32.toUInt32 31)).toInt32) &&& 1431655765)) >>> (Int32.toUInt32 2 &&& Int32.toUInt32 31)).toInt32) &&& 858993459)) >>> (Int32.toUInt32 4 &&& Int32.toUInt32 31)).toInt32)) &&& 252645135) >>> (Int32.toUInt32 8 &&& Int32.toUInt32 31)).toInt32)) + ((Int32.toUInt32 ((((((p0 - (((Int32.toUInt32 p0 >>> (Int32.toUInt32 1 &&& Int32.toUInt32 31)).toInt32) &&& 1431655765)) &&& 858993459) + (((Int32.toUInt32 (p0 - (((Int32.toUInt32 p0 >>> (Int32.toUInt32 1 &&& Int32.toUInt32 31)).toInt32) &&& 1431655765)) >>> (Int32.toUInt32 2 &&& Int32.toUInt32 31)).toInt32) &&& 858993459)) + ((Int32.toUInt32 (((p0 - (((Int32.toUInt32 p0 >>> (Int32.toUInt32 1 &&& Int32.toUInt32 31)).toInt32) &&& 1431655765)) &&& 858993459) + (((Int32.toUInt32 (p0 - (((Int32.toUInt32 p0 >>> (Int32.toUInt32 1 &&& Int32.toUInt32 31)).toInt32) &&& 1431655765)) >>> (Int32.toUInt32 2 &&& Int32.toUInt32 31)).toInt32) &&& 858993459)) >>> (Int32.toUInt32 4 &&& Int32.toUInt32 31)).toInt32)) &&& 252645135) + ((Int32.toUInt32 (((((p0 - (((Int32.toUInt32 p0 >>> (Int32.toUInt32 1 &&& Int32.toUInt32 31)).toInt32) &&& 1431655765)) &&& 858993459) + (((Int32.toUInt32 (p0 - (((Int32.toUInt32 p0 >>> (Int32.toUInt32 1 &&& Int32.toUInt32 31)).toInt32) &&& 1431655765)) >>> (Int32.toUInt32 2 &&& Int32.toUInt32 31)).toInt32) &&& 858993459)) + ((Int32.toUInt32 (((p0 - (((Int32.toUInt32 p0 >>> (Int32.toUInt32 1 &&& Int32.toUInt32 31)).toInt32) &&& 1431655765)) &&& 858993459) + (((Int32.toUInt32 (p0 - (((Int32.toUInt32 p0 >>> (Int32.toUInt32 1 &&& Int32.toUInt32 31)).toInt32) &&& 1431655765)) >>> (Int32.toUInt32 2 &&& Int32.toUInt32 31)).toInt32) &&& 858993459)) >>> (Int32.toUInt32 4 &&& Int32.toUInt32 31)).toInt32)) &&& 252645135) >>> (Int32.toUInt32 8 &&& Int32.toUInt32 31)).toInt32)) >>> (Int32.toUInt32 16 &&& Int32.toUInt32 31)).toInt32)))] o dJ6_bitCount_0f7a4_47 rfl (by decide) rfl ?_
  refine g_iload_n 0 o dJ6_bitCount_0f7a4_48 rfl rfl ?_
  refine g_bipush (v := 63) o dJ6_bitCount_0f7a4_49 (by decide) ?_
  refine g_iand (x := (((((((p0 - (((Int32.toUInt32 p0 >>> (Int32.toUInt32 1 &&& Int32.toUInt32 31)).toInt32) &&& 1431655765)) &&& 858993459) + (((Int32.toUInt32 (p0 - (((Int32.toUInt32 p0 >>> (Int32.toUInt32 1 &&& Int32.toUInt32 31)).toInt32) &&& 1431655765)) >>> (Int32.toUInt32 2 &&& Int32.toUInt32 31)).toInt32) &&& 858993459)) + ((Int32.toUInt32 (((p0 - (((Int32.toUInt32 p0 >>> (Int32.toUInt32 1 &&& Int32.toUInt32 31)).toInt32) &&& 1431655765)) &&& 858993459) + (((Int32.toUInt32 (p0 - (((Int32.toUInt32 p0 >>> (Int32.toUInt32 1 &&& Int32.toUInt32 31)).toInt32) &&& 1431655765)) >>> (Int32.toUInt32 2 &&& Int32.toUInt32 31)).toInt32) &&& 858993459)) >>> (Int32.toUInt32 4 &&& Int32.toUInt32 31)).toInt32)) &&& 252645135) + ((Int32.toUInt32 (((((p0 - (((Int32.toUInt32 p0 >>> (Int32.toUInt32 1 &&& Int32.toUInt32 31)).toInt32) &&& 1431655765)) &&& 858993459) + (((Int32.toUInt32 (p0 - (((Int32.toUInt32 p0 >>> (Int32.toUInt32 1 &&& Int32.toUInt32 31)).toInt32) &&& 1431655765)) >>> (Int32.toUInt32 2 &&& Int32.toUInt32 31)).toInt32) &&& 858993459)) + ((Int32.toUInt32 (((p0 - (((Int32.toUInt32 p0 >>> (Int32.toUInt32 1 &&& Int32.toUInt32 31)).toInt32) &&& 1431655765)) &&& 858993459) + (((Int32.toUInt32 (p0 - (((Int32.toUInt32 p0 >>> (Int32.toUInt32 1 &&& Int32.toUInt32 31)).toInt32) &&& 1431655765)) >>> (Int32.toUInt32 2 &&& Int32.toUInt32 31)).toInt32) &&& 858993459)) >>> (Int32.toUInt32 4 &&& Int32.toUInt32 31)).toInt32)) &&& 252645135) >>> (Int32.toUInt32 8 &&& Int32.toUInt32 31)).toInt32)) + ((Int32.toUInt32 ((((((p0 - (((Int32.toUInt32 p0 >>> (Int32.toUInt32 1 &&& Int32.toUInt32 31)).toInt32) &&& 1431655765)) &&& 858993459) + (((Int32.toUInt32 (p0 - (((Int32.toUInt32 p0 >>> (Int32.toUInt32 1 &&& Int32.toUInt32 31)).toInt32) &&& 1431655765)) >>> (Int32.toUInt32 2 &&& Int32.toUInt32 31)).toInt32) &&& 858993459)) + ((Int32.toUInt32 (((p0 - (((Int32.toUInt32 p0 >>> (Int32.toUInt32 1 &&& Int32.toUInt32 31)).toInt32) &&& 1431655765)) &&& 858993459) + (((Int32.toUInt32 (p0 - (((Int32.toUInt32 p0 >>> (Int32.toUInt32 1 &&& Int32.toUInt32 31)).toInt32) &&& 1431655765)) >>> (Int32.toUInt32 2 &&& Int32.toUInt32 31)).toInt32) &&& 858993459)) >>> (Int32.toUInt32 4 &&& Int32.toUInt32 31)).toInt32)) &&& 252645135) + ((Int32.toUInt32 (((((p0 - (((Int32.toUInt32 p0 >>> (Int32.toUInt32 1 &&& Int32.toUInt32 31)).toInt32) &&& 1431655765)) &&& 858993459) + (((Int32.toUInt32 (p0 - (((Int32.toUInt32 p0 >>> (Int32.toUInt32 1 &&& Int32.toUInt32 31)).toInt32) &&& 1431655765)) >>> (Int32.toUInt32 2 &&& Int32.toUInt32 31)).toInt32) &&& 858993459)) + ((Int32.toUInt32 (((p0 - (((Int32.toUInt32 p0 >>> (Int32.toUInt32 1 &&& Int32.toUInt32 31)).toInt32) &&& 1431655765)) &&& 858993459) + (((Int32.toUInt32 (p0 - (((Int32.toUInt32 p0 >>> (Int32.toUInt32 1 &&& Int32.toUInt32 31)).toInt32) &&& 1431655765)) >>> (Int32.toUInt32 2 &&& Int32.toUInt32 31)).toInt32) &&& 858993459)) >>> (Int32.toUInt32 4 &&& Int32.toUInt32 31)).toInt32)) &&& 252645135) >>> (Int32.toUInt32 8 &&& Int32.toUInt32 31)).toInt32)) >>> (Int32.toUInt32 16 &&& Int32.toUInt32 31)).toInt32))) (y := 63) o dJ6_bitCount_0f7a4_51 ?_
  exact g_iret o dJ6_bitCount_0f7a4_52 (rt_v q e)
theorem yo_X8_holds : yok yX8_holds 3 := ⟨by decide, by decide, by decide +kernel⟩
set_option maxRecDepth 100000 in
set_option maxHeartbeats 4000000 in
theorem mX8_holds {l : Launch} {D : va_G} {cy : Nat → ClassId} {f0 : Nat} {a : Nat} {p0 : Nat} {p1 : Int32} {p2 : Int32} {h : Hp} {r : Int32} {hz : Hp} (e : fX8_holds f0 a p0 p1 p2 h = some (r, hz)) : MC l D cy yX8_holds cX8_holds 4 (some .boolean) rmX8_holds [.ref a, .ref p0, .int p1, .int p2] h (some (.int r)) hz := by
  refine mc_of2 (by decide) (Nat.le_of_ble_eq_true rfl) (fun X hl hD hy hin o q => ?_)
  subst hl; subst hD; subst hy
  show G X 4 0 [(0, .ref a), (1, .ref p0), (2, .int p1), (3, .int p2)] [] h 0 0
  unfold fX8_holds at e
  refine g_aload_n 0 o dX8_holds_0 rfl rfl ?_
  obtain ⟨x1, q1, e⟩ := ob e
  refine g_getN 0 o cf8 (by decide) mw_213 dX8_holds_1 q1 ?_
  refine g_iload_n 2 o dX8_holds_4 rfl rfl ?_
  obtain ⟨x5, q5, e⟩ := ob e
  refine g_iald o dX8_holds_5 q5 ?_
  by_cases u0 : x5 = 19
  · rw [if_pos u0] at e
    refine g_tabAt (x := x5) 19 48 o dX8_holds_6 u0 (by decide) (by decide) (by decide) (by decide) ?_
    refine g_aload_n 1 o dX8_holds_48 rfl rfl ?_
    obtain ⟨x49, q49, e⟩ := ob e
    refine g_getI 2 o cf10 (by decide) mw_282 dX8_holds_49 q49 ?_
    refine g_iload_n 3 o dX8_holds_52 rfl rfl ?_
    refine g_icmp_ne (x := x49) (y := p2) 60 o dX8_holds_53 (by decide) (fun u => ?_) (fun u => ?_)
    · rw [if_neg u] at e
      refine g_iconst (v := 0) o dX8_holds_60 (by decide) ?_
      exact g_zret o dX8_holds_61 (zr_s e).1 (rt_v q (zr_s e).2)
    · rw [if_pos u] at e
      refine g_iconst (v := 1) o dX8_holds_56 (by decide) ?_
      refine g_goto 61 o dX8_holds_57 (by decide) ?_
      exact g_zret o dX8_holds_61 (zr_s e).1 (rt_v q (zr_s e).2)
  rw [if_neg u0] at e
  by_cases u1 : x5 = 20
  · rw [if_pos u1] at e
    refine g_tabAt (x := x5) 20 62 o dX8_holds_6 u1 (by decide) (by decide) (by decide) (by decide) ?_
    refine g_aload_n 1 o dX8_holds_62 rfl rfl ?_
    refine g_iload_n 3 o dX8_holds_63 rfl rfl ?_
    obtain ⟨_, k64, e⟩ := ob e
    obtain ⟨x64, h64, q64, e⟩ := ob2_s e
    refine g_callVv [.int p2] o (mX10_hasBeenAt q64) cf10 (ckO_s k64) mw_649 mw_650 mw_651 mw_13 mw_652 rfl yo_X10_hasBeenAt rfl rfl (Nat.le_of_ble_eq_true rfl) ⟨by decide, by decide⟩ ⟨rfl, rfl⟩ dX8_holds_64 ⟨by decide, by decide⟩ ?_
    exact g_zret o dX8_holds_67 (zr_s e).1 (rt_v q (zr_s e).2)
  rw [if_neg u1] at e
  by_cases u2 : x5 = 21
  · rw [if_pos u2] at e
    refine g_tabAt (x := x5) 21 68 o dX8_holds_6 u2 (by decide) (by decide) (by decide) (by decide) ?_
    refine g_aload_n 1 o dX8_holds_68 rfl rfl ?_
    refine g_iload_n 3 o dX8_holds_69 rfl rfl ?_
    obtain ⟨_, k70, e⟩ := ob e
    obtain ⟨x70, h70, q70, e⟩ := ob2_s e
    refine g_callVv [.int p2] o (mX10_isSafeTo q70) cf10 (ckO_s k70) mw_653 mw_654 mw_655 mw_13 mw_656 rfl yo_X10_isSafeTo rfl rfl (Nat.le_of_ble_eq_true rfl) ⟨by decide, by decide⟩ ⟨rfl, rfl⟩ dX8_holds_70 ⟨by decide, by decide⟩ ?_
    exact g_zret o dX8_holds_73 (zr_s e).1 (rt_v q (zr_s e).2)
  rw [if_neg u2] at e
  by_cases u3 : x5 = 22
  · rw [if_pos u3] at e
    refine g_tabAt (x := x5) 22 74 o dX8_holds_6 u3 (by decide) (by decide) (by decide) (by decide) ?_
    refine g_aload_n 1 o dX8_holds_74 rfl rfl ?_
    refine g_iload_n 3 o dX8_holds_75 rfl rfl ?_
    refine g_aload_n 0 o dX8_holds_76 rfl rfl ?_
    obtain ⟨x77, q77, e⟩ := ob e
    refine g_getN 2 o cf8 (by decide) mw_215 dX8_holds_77 q77 ?_
    refine g_iload_n 2 o dX8_holds_80 rfl rfl ?_
    obtain ⟨x81, q81, e⟩ := ob e
    refine g_iald o dX8_holds_81 q81 ?_
    obtain ⟨_, k82, e⟩ := ob e
    obtain ⟨x82, h82, q82, e⟩ := ob2_s e
    refine g_callVv [.int p2, .int x81] o (mX10_knowsNow q82) cf10 (ckO_s k82) mw_669 mw_670 mw_671 mw_13 mw_672 rfl yo_X10_knowsNow rfl rfl (Nat.le_of_ble_eq_true rfl) ⟨by decide, by decide⟩ ⟨rfl, rfl⟩ dX8_holds_82 ⟨by decide, by decide⟩ ?_
    exact g_zret o dX8_holds_85 (zr_s e).1 (rt_v q (zr_s e).2)
  rw [if_neg u3] at e
  by_cases u4 : x5 = 23
  · rw [if_pos u4] at e
    refine g_tabAt (x := x5) 23 86 o dX8_holds_6 u4 (by decide) (by decide) (by decide) (by decide) ?_
    refine g_aload_n 1 o dX8_holds_86 rfl rfl ?_
    obtain ⟨x87, q87, e⟩ := ob e
    refine g_getN 0 o cf10 (by decide) mw_277 dX8_holds_87 q87 ?_
    refine g_aload_n 0 o dX8_holds_90 rfl rfl ?_
    obtain ⟨x91, q91, e⟩ := ob e
    refine g_getN 2 o cf8 (by decide) mw_215 dX8_holds_91 q91 ?_
    refine g_iload_n 2 o dX8_holds_94 rfl rfl ?_
    obtain ⟨x95, q95, e⟩ := ob e
    refine g_iald o dX8_holds_95 q95 ?_
    refine g_iload_n 3 o dX8_holds_96 rfl rfl ?_
    obtain ⟨_, k97, e⟩ := ob e
    obtain ⟨x97, h97, q97, e⟩ := ob2_s e
    refine g_callVv [.int x95, .int p2] o (mX6_hearsFrom q97) cf6 (ckO_s k97) mw_673 mw_674 mw_675 mw_7 mw_676 rfl yo_X6_hearsFrom rfl rfl (Nat.le_of_ble_eq_true rfl) ⟨by decide, by decide⟩ ⟨rfl, rfl⟩ dX8_holds_97 ⟨by decide, by decide⟩ ?_
    exact g_zret o dX8_holds_100 (zr_s e).1 (rt_v q (zr_s e).2)
  rw [if_neg u4] at e
  by_cases u5 : x5 = 24
  · rw [if_pos u5] at e
    refine g_tabAt (x := x5) 24 101 o dX8_holds_6 u5 (by decide) (by decide) (by decide) (by decide) ?_
    refine g_aload_n 0 o dX8_holds_101 rfl rfl ?_
    refine g_aload_n 1 o dX8_holds_102 rfl rfl ?_
    refine g_iload_n 3 o dX8_holds_103 rfl rfl ?_
    obtain ⟨_, k104, e⟩ := ob e
    obtain ⟨x104, h104, q104, e⟩ := ob2_s e
    refine g_callVv [.int p2] o (mX10_farTo q104) cf10 (ckO_s k104) mw_685 mw_686 mw_687 mw_13 mw_688 rfl yo_X10_farTo rfl rfl (Nat.le_of_ble_eq_true rfl) ⟨by decide, by decide⟩ ⟨rfl, rfl⟩ dX8_holds_104 ⟨by decide, by decide⟩ ?_
    refine g_iload_n 2 o dX8_holds_107 rfl rfl ?_
    obtain ⟨_, k108, e⟩ := ob e
    obtain ⟨x108, h108, q108, e⟩ := ob2_s e
    refine g_callVv [.int x104, .int p1] o (mX8_compares q108) cf8 (ckO_s k108) mw_689 mw_690 mw_1703 mw_10 mw_691 rfl yo_X8_compares rfl rfl (Nat.le_of_ble_eq_true rfl) ⟨by decide, by decide⟩ ⟨rfl, rfl⟩ dX8_holds_108 ⟨by decide, by decide⟩ ?_
    exact g_zret o dX8_holds_111 (zr_s e).1 (rt_v q (zr_s e).2)
  rw [if_neg u5] at e
  by_cases u6 : x5 = 25
  · rw [if_pos u6] at e
    refine g_tabAt (x := x5) 25 112 o dX8_holds_6 u6 (by decide) (by decide) (by decide) (by decide) ?_
    refine g_aload_n 0 o dX8_holds_112 rfl rfl ?_
    refine g_aload_n 1 o dX8_holds_113 rfl rfl ?_
    refine g_iload_n 3 o dX8_holds_114 rfl rfl ?_
    obtain ⟨_, k115, e⟩ := ob e
    obtain ⟨x115, h115, q115, e⟩ := ob2_s e
    refine g_callVv [.int p2] o (mX10_namesKnownAt q115) cf10 (ckO_s k115) mw_692 mw_693 mw_694 mw_13 mw_695 rfl yo_X10_namesKnownAt rfl rfl (Nat.le_of_ble_eq_true rfl) ⟨by decide, by decide⟩ ⟨rfl, rfl⟩ dX8_holds_115 ⟨by decide, by decide⟩ ?_
    obtain ⟨x118, h118, q118, e⟩ := ob2_s e
    refine g_callSv [.int x115] o (mJ6_bitCount_0f7a4 q118) mw_697 mw_698 mw_25 mw_699 yo_J6_bitCount_0f7a4 rfl rfl (Nat.le_of_ble_eq_true rfl) ⟨by decide, by decide⟩ ⟨rfl, rfl⟩ dX8_holds_118 ⟨by decide, by decide⟩ ?_
    refine g_iload_n 2 o dX8_holds_121 rfl rfl ?_
    obtain ⟨_, k122, e⟩ := ob e
    obtain ⟨x122, h122, q122, e⟩ := ob2_s e
    refine g_callVv [.int x118, .int p1] o (mX8_compares q122) cf8 (ckO_s k122) mw_689 mw_690 mw_1703 mw_10 mw_691 rfl yo_X8_compares rfl rfl (Nat.le_of_ble_eq_true rfl) ⟨by decide, by decide⟩ ⟨rfl, rfl⟩ dX8_holds_122 ⟨by decide, by decide⟩ ?_
    exact g_zret o dX8_holds_125 (zr_s e).1 (rt_v q (zr_s e).2)
  rw [if_neg u6] at e
  refine g_tabOut (x := x5) 126 o dX8_holds_6 (by have n0 := tb_ne 19 19 (by decide) u0; have n1 := tb_ne 20 20 (by decide) u1; have n2 := tb_ne 21 21 (by decide) u2; have n3 := tb_ne 22 22 (by decide) u3; have n4 := tb_ne 23 23 (by decide) u4; have n5 := tb_ne 24 24 (by decide) u5; have n6 := tb_ne 25 25 (by decide) u6; omega) (by decide) ?_
  refine g_aload_n 0 o dX8_holds_126 rfl rfl ?_
  refine g_iload_n 3 o dX8_holds_127 rfl rfl ?_
  refine g_iload_n 2 o dX8_holds_128 rfl rfl ?_
  obtain ⟨_, k129, e⟩ := ob e
  obtain ⟨x129, h129, q129, e⟩ := ob2_s e
  refine g_callVv [.int p2, .int p1] o (mX8_compares q129) cf8 (ckO_s k129) mw_689 mw_690 mw_1703 mw_10 mw_691 rfl yo_X8_compares rfl rfl (Nat.le_of_ble_eq_true rfl) ⟨by decide, by decide⟩ ⟨rfl, rfl⟩ dX8_holds_129 ⟨by decide, by decide⟩ ?_
  exact g_zret o dX8_holds_132 (zr_s e).1 (rt_v q (zr_s e).2)
set_option maxRecDepth 100000 in
set_option maxHeartbeats 4000000 in
theorem kX8_portsOfStep_37 {X : Cx} (f0 : Nat) (g5 : Nat → Nat → Int32 → Int32 → Int32 → Hp → Option (Int32 × Hp)) (i5 : ∀ (v02 : Nat) (v12 : Nat) (v22 : Int32) (v32 : Int32) (v42 : Int32) (h2 : Hp) (r : Int32) (hz : Hp), Rt X (some (.int r)) hz 0 0 → g5 v02 v12 v22 v32 v42 h2 = some (r, hz) → G X 5 5 [(0, .ref v02), (1, .ref v12), (2, .int v22), (3, .int v32), (4, .int v42)] [] h2 0 0) (o : Ok X cX8_portsOfStep RX8 5 rmX8_portsOfStep (some .int)) (v0 : Nat) (v1 : Nat) (v2 : Int32) (v3 : Int32) (v4 : Int32) (h : Hp) (r : Int32) (hz : Hp) (q : Rt X (some (.int r)) hz 0 0) (e : bX8_portsOfStep_37 f0 g5 v0 v1 v2 v3 v4 h = some (r, hz)) : G X 5 37 [(0, .ref v0), (1, .ref v1), (2, .int v2), (3, .int v3), (4, .int v4)] [] h 0 0 := by
  unfold bX8_portsOfStep_37 at e
  refine g_iinc (k := 4) (v := (v4 + 1)) [(4, .int (v4 + 1)), (0, .ref v0), (1, .ref v1), (2, .int v2), (3, .int v3)] o dX8_portsOfStep_37 rfl rfl (by decide) rfl ?_
  refine g_goto 5 o dX8_portsOfStep_40 (by decide) ?_
  refine g_sb [1, 2, 3, 4, 0] rfl ?_
  exact i5 v0 v1 v2 v3 (v4 + 1) h r hz q e
set_option maxRecDepth 100000 in
set_option maxHeartbeats 4000000 in
theorem kX8_portsOfStep_5 {X : Cx} (f0 : Nat) (o : Ok X cX8_portsOfStep RX8 5 rmX8_portsOfStep (some .int)) (f : Nat) (v0 : Nat) (v1 : Nat) (v2 : Int32) (v3 : Int32) (v4 : Int32) (h : Hp) (r : Int32) (hz : Hp) (q : Rt X (some (.int r)) hz 0 0) (e : bX8_portsOfStep_5 f0 f v0 v1 v2 v3 v4 h = some (r, hz)) : G X 5 5 [(0, .ref v0), (1, .ref v1), (2, .int v2), (3, .int v3), (4, .int v4)] [] h 0 0 := by
  induction f generalizing v0 v1 v2 v3 v4 h r hz with
  | zero => cases e
  | succ f1 ih =>
    unfold bX8_portsOfStep_5 at e
    refine g_iload 4 o dX8_portsOfStep_5 rfl ?_
    refine g_aload_n 1 o dX8_portsOfStep_7 rfl rfl ?_
    obtain ⟨x8, q8, e⟩ := ob e
    refine g_getN 0 o cf10 (by decide) mw_277 dX8_portsOfStep_8 q8 ?_
    obtain ⟨x11, q11, e⟩ := ob e
    refine g_getN 1 o cf6 (by decide) mw_146 dX8_portsOfStep_11 q11 ?_
    refine g_iconst (v := 0) o dX8_portsOfStep_14 (by decide) ?_
    obtain ⟨x15, q15, e⟩ := ob e
    refine g_iald o dX8_portsOfStep_15 q15 ?_
    refine g_icmp_ge (x := v4) (y := x15) 43 o dX8_portsOfStep_16 (by decide) (fun u => ?_) (fun u => ?_)
    · rw [if_pos u] at e
      refine g_iload_n 3 o dX8_portsOfStep_43 rfl rfl ?_
      exact g_iret o dX8_portsOfStep_44 (rt_v q e)
    · rw [if_neg u] at e
      refine g_aload_n 0 o dX8_portsOfStep_19 rfl rfl ?_
      refine g_aload_n 1 o dX8_portsOfStep_20 rfl rfl ?_
      refine g_iload_n 2 o dX8_portsOfStep_21 rfl rfl ?_
      refine g_iload 4 o dX8_portsOfStep_22 rfl ?_
      obtain ⟨_, k24, e⟩ := ob e
      obtain ⟨x24, h24, q24, e⟩ := ob2_s e
      refine g_callVv [.ref v1, .int v2, .int v4] o (mX8_holds q24) cf8 (ckO_s k24) mw_646 mw_647 mw_1702 mw_10 mw_648 rfl yo_X8_holds rfl rfl (Nat.le_of_ble_eq_true rfl) ⟨by decide, by decide⟩ ⟨rfl, rfl⟩ dX8_portsOfStep_24 ⟨by decide, by decide⟩ ?_
      refine g_if_eq (x := x24) 37 o dX8_portsOfStep_27 (by decide) (fun u => ?_) (fun u => ?_)
      · rw [if_pos u] at e
        exact kX8_portsOfStep_37 f0 (bX8_portsOfStep_5 f0 f1) ih o v0 v1 v2 v3 v4 h24 r hz q e
      · rw [if_neg u] at e
        refine g_iload_n 3 o dX8_portsOfStep_30 rfl rfl ?_
        refine g_iconst (v := 1) o dX8_portsOfStep_31 (by decide) ?_
        refine g_iload 4 o dX8_portsOfStep_32 rfl ?_
        refine g_ishl (x := (1 : Int32)) (y := v4) o dX8_portsOfStep_34 ?_
        refine g_ior (x := v3) (y := ((1 : Int32) <<< (v4 &&& 31))) o dX8_portsOfStep_35 ?_
        refine g_istore_n [(3, .int (v3 ||| ((1 : Int32) <<< (v4 &&& 31)))), (0, .ref v0), (1, .ref v1), (2, .int v2), (4, .int v4)] o dX8_portsOfStep_36 rfl (by decide) rfl ?_
        refine g_sb [1, 2, 3, 0, 4] rfl ?_
        exact kX8_portsOfStep_37 f0 (bX8_portsOfStep_5 f0 f1) ih o v0 v1 v2 (v3 ||| ((1 : Int32) <<< (v4 &&& 31))) v4 h24 r hz q e
theorem yo_X8_portsOfStep : yok yX8_portsOfStep 2 := ⟨by decide, by decide, by decide +kernel⟩
set_option maxRecDepth 100000 in
set_option maxHeartbeats 4000000 in
theorem mX8_portsOfStep {l : Launch} {D : va_G} {cy : Nat → ClassId} {f0 : Nat} {a : Nat} {p0 : Nat} {p1 : Int32} {h : Hp} {r : Int32} {hz : Hp} (e : fX8_portsOfStep f0 a p0 p1 h = some (r, hz)) : MC l D cy yX8_portsOfStep cX8_portsOfStep 5 (some .int) rmX8_portsOfStep [.ref a, .ref p0, .int p1] h (some (.int r)) hz := by
  refine mc_of2 (by decide) (Nat.le_of_ble_eq_true rfl) (fun X hl hD hy hin o q => ?_)
  subst hl; subst hD; subst hy
  show G X 5 0 [(0, .ref a), (1, .ref p0), (2, .int p1)] [] h 0 0
  unfold fX8_portsOfStep at e
  refine g_iconst (v := 0) o dX8_portsOfStep_0 (by decide) ?_
  refine g_istore_n [(3, .int 0), (0, .ref a), (1, .ref p0), (2, .int p1)] o dX8_portsOfStep_1 rfl (by decide) rfl ?_
  refine g_iconst (v := 0) o dX8_portsOfStep_2 (by decide) ?_
  refine g_istore [(4, .int 0), (3, .int 0), (0, .ref a), (1, .ref p0), (2, .int p1)] o dX8_portsOfStep_3 (by decide) rfl ?_
  refine g_sb [2, 3, 4, 1, 0] rfl ?_
  exact kX8_portsOfStep_5 f0 o f0 a p0 p1 0 0 h r hz q e
set_option maxRecDepth 100000 in
set_option maxHeartbeats 4000000 in
theorem kX8_portsFor_164 {X : Cx} (f0 : Nat) (g19 : Nat → Nat → Int32 → Int32 → Int32 → Hp → Option (Int32 × Hp)) (i19 : ∀ (v02 : Nat) (v12 : Nat) (v22 : Int32) (v32 : Int32) (v42 : Int32) (h2 : Hp) (r : Int32) (hz : Hp), Rt X (some (.int r)) hz 0 0 → g19 v02 v12 v22 v32 v42 h2 = some (r, hz) → G X 5 19 [(0, .ref v02), (1, .ref v12), (2, .int v22), (3, .int v32), (4, .int v42)] [] h2 0 0) (o : Ok X cX8_portsFor RX8 5 rmX8_portsFor (some .int)) (v0 : Nat) (v1 : Nat) (v2 : Int32) (v3 : Int32) (v4 : Int32) (h : Hp) (r : Int32) (hz : Hp) (q : Rt X (some (.int r)) hz 0 0) (e : bX8_portsFor_164 f0 g19 v0 v1 v2 v3 v4 h = some (r, hz)) : G X 5 164 [(0, .ref v0), (1, .ref v1), (2, .int v2), (3, .int v3), (4, .int v4)] [] h 0 0 := by
  unfold bX8_portsFor_164 at e
  refine g_iinc (k := 4) (v := (v4 + 1)) [(4, .int (v4 + 1)), (0, .ref v0), (1, .ref v1), (2, .int v2), (3, .int v3)] o dX8_portsFor_164 rfl rfl (by decide) rfl ?_
  refine g_goto 19 o dX8_portsFor_167 (by decide) ?_
  refine g_sb [1, 2, 3, 4, 0] rfl ?_
  exact i19 v0 v1 v2 v3 (v4 + 1) h r hz q e
set_option maxRecDepth 100000 in
set_option maxHeartbeats 4000000 in
theorem kX8_portsFor_148 {X : Cx} (f0 : Nat) (g19 : Nat → Nat → Int32 → Int32 → Int32 → Hp → Option (Int32 × Hp)) (i19 : ∀ (v02 : Nat) (v12 : Nat) (v22 : Int32) (v32 : Int32) (v42 : Int32) (h2 : Hp) (r : Int32) (hz : Hp), Rt X (some (.int r)) hz 0 0 → g19 v02 v12 v22 v32 v42 h2 = some (r, hz) → G X 5 19 [(0, .ref v02), (1, .ref v12), (2, .int v22), (3, .int v32), (4, .int v42)] [] h2 0 0) (o : Ok X cX8_portsFor RX8 5 rmX8_portsFor (some .int)) (v0 : Nat) (v1 : Nat) (v2 : Int32) (v3 : Int32) (v4 : Int32) (h : Hp) (r : Int32) (hz : Hp) (q : Rt X (some (.int r)) hz 0 0) (e : bX8_portsFor_148 f0 g19 v0 v1 v2 v3 v4 h = some (r, hz)) : G X 5 148 [(0, .ref v0), (1, .ref v1), (2, .int v2), (3, .int v3), (4, .int v4)] [] h 0 0 := by
  unfold bX8_portsFor_148 at e
  refine g_aload_n 0 o dX8_portsFor_148 rfl rfl ?_
  obtain ⟨x149, q149, e⟩ := ob e
  refine g_getN 4 o cf8 (by decide) mw_217 dX8_portsFor_149 q149 ?_
  refine g_iload_n 3 o dX8_portsFor_152 rfl rfl ?_
  refine g_aload_n 0 o dX8_portsFor_153 rfl rfl ?_
  refine g_aload_n 1 o dX8_portsFor_154 rfl rfl ?_
  refine g_iload 4 o dX8_portsFor_155 rfl ?_
  obtain ⟨_, k157, e⟩ := ob e
  obtain ⟨x157, h157, q157, e⟩ := ob2_s e
  refine g_callVv [.ref v1, .int v4] o (mX8_portsOfStep q157) cf8 (ckO_s k157) mw_643 mw_644 mw_1701 mw_10 mw_645 rfl yo_X8_portsOfStep rfl rfl (Nat.le_of_ble_eq_true rfl) ⟨by decide, by decide⟩ ⟨rfl, rfl⟩ dX8_portsFor_157 ⟨by decide, by decide⟩ ?_
  obtain ⟨h160, q160, e⟩ := ob e
  refine g_iast o dX8_portsFor_160 q160 ?_
  refine g_iinc (k := 3) (v := (v3 + 1)) [(3, .int (v3 + 1)), (0, .ref v0), (1, .ref v1), (2, .int v2), (4, .int v4)] o dX8_portsFor_161 rfl rfl (by decide) rfl ?_
  refine g_sb [1, 2, 3, 0, 4] rfl ?_
  exact kX8_portsFor_164 f0 g19 i19 o v0 v1 v2 (v3 + 1) v4 h160 r hz q e
set_option maxRecDepth 100000 in
set_option maxHeartbeats 4000000 in
theorem kX8_portsFor_108 {X : Cx} (f0 : Nat) (g19 : Nat → Nat → Int32 → Int32 → Int32 → Hp → Option (Int32 × Hp)) (i19 : ∀ (v02 : Nat) (v12 : Nat) (v22 : Int32) (v32 : Int32) (v42 : Int32) (h2 : Hp) (r : Int32) (hz : Hp), Rt X (some (.int r)) hz 0 0 → g19 v02 v12 v22 v32 v42 h2 = some (r, hz) → G X 5 19 [(0, .ref v02), (1, .ref v12), (2, .int v22), (3, .int v32), (4, .int v42)] [] h2 0 0) (o : Ok X cX8_portsFor RX8 5 rmX8_portsFor (some .int)) (v0 : Nat) (v1 : Nat) (v2 : Int32) (v3 : Int32) (v4 : Int32) (h : Hp) (r : Int32) (hz : Hp) (q : Rt X (some (.int r)) hz 0 0) (e : bX8_portsFor_108 f0 g19 v0 v1 v2 v3 v4 h = some (r, hz)) : G X 5 108 [(0, .ref v0), (1, .ref v1), (2, .int v2), (3, .int v3), (4, .int v4)] [] h 0 0 := by
  unfold bX8_portsFor_108 at e
  refine g_aload_n 0 o dX8_portsFor_108 rfl rfl ?_
  obtain ⟨x109, q109, e⟩ := ob e
  refine g_getN 0 o cf8 (by decide) mw_213 dX8_portsFor_109 q109 ?_
  refine g_iload 4 o dX8_portsFor_112 rfl ?_
  obtain ⟨x114, q114, e⟩ := ob e
  refine g_iald o dX8_portsFor_114 q114 ?_
  refine g_bipush (v := 16) o dX8_portsFor_115 (by decide) ?_
  refine g_icmp_ne (x := x114) (y := 16) 148 o dX8_portsFor_117 (by decide) (fun u => ?_) (fun u => ?_)
  · rw [if_neg u] at e
    exact kX8_portsFor_148 f0 g19 i19 o v0 v1 v2 v3 v4 h r hz q e
  · rw [if_pos u] at e
    refine g_iload_n 3 o dX8_portsFor_120 rfl rfl ?_
    refine g_iconst (v := 2) o dX8_portsFor_121 (by decide) ?_
    refine g_icmp_lt (x := v3) (y := 2) 148 o dX8_portsFor_122 (by decide) (fun u => ?_) (fun u => ?_)
    · rw [if_pos u] at e
      exact kX8_portsFor_148 f0 g19 i19 o v0 v1 v2 v3 v4 h r hz q e
    · rw [if_neg u] at e
      refine g_iinc (k := 3) (v := (v3 + (-1))) [(3, .int (v3 + (-1))), (0, .ref v0), (1, .ref v1), (2, .int v2), (4, .int v4)] o dX8_portsFor_125 rfl rfl (by decide) rfl ?_
      refine g_aload_n 1 o dX8_portsFor_128 rfl rfl ?_
      obtain ⟨x129, q129, e⟩ := ob e
      refine g_getN 4 o cf8 (by decide) mw_217 dX8_portsFor_129 q129 ?_
      refine g_iload_n 0 o dX8_portsFor_132 rfl rfl ?_
      refine g_iconst (v := 1) o dX8_portsFor_133 (by decide) ?_
      refine g_isub (x := (v3 + (-1))) (y := 1) o dX8_portsFor_134 ?_
      refine g_dup2 o dX8_portsFor_135 rfl rfl ?_
      obtain ⟨x136, q136, e⟩ := ob e
      refine g_iald o dX8_portsFor_136 q136 ?_
      refine g_aload_n 1 o dX8_portsFor_137 rfl rfl ?_
      obtain ⟨x138, q138, e⟩ := ob e
      refine g_getN 4 o cf8 (by decide) mw_217 dX8_portsFor_138 q138 ?_
      refine g_iload_n 0 o dX8_portsFor_141 rfl rfl ?_
      obtain ⟨x142, q142, e⟩ := ob e
      refine g_iald o dX8_portsFor_142 q142 ?_
      refine g_ior (x := x136) (y := x142) o dX8_portsFor_143 ?_
      obtain ⟨h144, q144, e⟩ := ob e
      refine g_iast o dX8_portsFor_144 q144 ?_
      refine g_goto 164 o dX8_portsFor_145 (by decide) ?_
      refine g_sb [1, 2, 3, 0, 4] rfl ?_
      exact kX8_portsFor_164 f0 g19 i19 o v0 v1 v2 (v3 + (-1)) v4 h144 r hz q e
set_option maxRecDepth 100000 in
set_option maxHeartbeats 4000000 in
theorem kX8_portsFor_68 {X : Cx} (f0 : Nat) (g19 : Nat → Nat → Int32 → Int32 → Int32 → Hp → Option (Int32 × Hp)) (i19 : ∀ (v02 : Nat) (v12 : Nat) (v22 : Int32) (v32 : Int32) (v42 : Int32) (h2 : Hp) (r : Int32) (hz : Hp), Rt X (some (.int r)) hz 0 0 → g19 v02 v12 v22 v32 v42 h2 = some (r, hz) → G X 5 19 [(0, .ref v02), (1, .ref v12), (2, .int v22), (3, .int v32), (4, .int v42)] [] h2 0 0) (o : Ok X cX8_portsFor RX8 5 rmX8_portsFor (some .int)) (v0 : Nat) (v1 : Nat) (v2 : Int32) (v3 : Int32) (v4 : Int32) (h : Hp) (r : Int32) (hz : Hp) (q : Rt X (some (.int r)) hz 0 0) (e : bX8_portsFor_68 f0 g19 v0 v1 v2 v3 v4 h = some (r, hz)) : G X 5 68 [(0, .ref v0), (1, .ref v1), (2, .int v2), (3, .int v3), (4, .int v4)] [] h 0 0 := by
  unfold bX8_portsFor_68 at e
  refine g_aload_n 0 o dX8_portsFor_68 rfl rfl ?_
  obtain ⟨x69, q69, e⟩ := ob e
  refine g_getN 0 o cf8 (by decide) mw_213 dX8_portsFor_69 q69 ?_
  refine g_iload 4 o dX8_portsFor_72 rfl ?_
  obtain ⟨x74, q74, e⟩ := ob e
  refine g_iald o dX8_portsFor_74 q74 ?_
  refine g_bipush (v := 17) o dX8_portsFor_75 (by decide) ?_
  refine g_icmp_ne (x := x74) (y := 17) 108 o dX8_portsFor_77 (by decide) (fun u => ?_) (fun u => ?_)
  · rw [if_neg u] at e
    exact kX8_portsFor_108 f0 g19 i19 o v0 v1 v2 v3 v4 h r hz q e
  · rw [if_pos u] at e
    refine g_iload_n 3 o dX8_portsFor_80 rfl rfl ?_
    refine g_iconst (v := 2) o dX8_portsFor_81 (by decide) ?_
    refine g_icmp_lt (x := v3) (y := 2) 108 o dX8_portsFor_82 (by decide) (fun u => ?_) (fun u => ?_)
    · rw [if_pos u] at e
      exact kX8_portsFor_108 f0 g19 i19 o v0 v1 v2 v3 v4 h r hz q e
    · rw [if_neg u] at e
      refine g_iinc (k := 3) (v := (v3 + (-1))) [(3, .int (v3 + (-1))), (0, .ref v0), (1, .ref v1), (2, .int v2), (4, .int v4)] o dX8_portsFor_85 rfl rfl (by decide) rfl ?_
      refine g_aload_n 1 o dX8_portsFor_88 rfl rfl ?_
      obtain ⟨x89, q89, e⟩ := ob e
      refine g_getN 4 o cf8 (by decide) mw_217 dX8_portsFor_89 q89 ?_
      refine g_iload_n 0 o dX8_portsFor_92 rfl rfl ?_
      refine g_iconst (v := 1) o dX8_portsFor_93 (by decide) ?_
      refine g_isub (x := (v3 + (-1))) (y := 1) o dX8_portsFor_94 ?_
      refine g_dup2 o dX8_portsFor_95 rfl rfl ?_
      obtain ⟨x96, q96, e⟩ := ob e
      refine g_iald o dX8_portsFor_96 q96 ?_
      refine g_aload_n 1 o dX8_portsFor_97 rfl rfl ?_
      obtain ⟨x98, q98, e⟩ := ob e
      refine g_getN 4 o cf8 (by decide) mw_217 dX8_portsFor_98 q98 ?_
      refine g_iload_n 0 o dX8_portsFor_101 rfl rfl ?_
      obtain ⟨x102, q102, e⟩ := ob e
      refine g_iald o dX8_portsFor_102 q102 ?_
      refine g_iand (x := x96) (y := x102) o dX8_portsFor_103 ?_
      obtain ⟨h104, q104, e⟩ := ob e
      refine g_iast o dX8_portsFor_104 q104 ?_
      refine g_goto 164 o dX8_portsFor_105 (by decide) ?_
      refine g_sb [1, 2, 3, 0, 4] rfl ?_
      exact kX8_portsFor_164 f0 g19 i19 o v0 v1 v2 (v3 + (-1)) v4 h104 r hz q e
set_option maxRecDepth 100000 in
set_option maxHeartbeats 4000000 in
theorem kX8_portsFor_19 {X : Cx} (f0 : Nat) (o : Ok X cX8_portsFor RX8 5 rmX8_portsFor (some .int)) (f : Nat) (v0 : Nat) (v1 : Nat) (v2 : Int32) (v3 : Int32) (v4 : Int32) (h : Hp) (r : Int32) (hz : Hp) (q : Rt X (some (.int r)) hz 0 0) (e : bX8_portsFor_19 f0 f v0 v1 v2 v3 v4 h = some (r, hz)) : G X 5 19 [(0, .ref v0), (1, .ref v1), (2, .int v2), (3, .int v3), (4, .int v4)] [] h 0 0 := by
  induction f generalizing v0 v1 v2 v3 v4 h r hz with
  | zero => cases e
  | succ f1 ih =>
    unfold bX8_portsFor_19 at e
    refine g_iload 4 o dX8_portsFor_19 rfl ?_
    refine g_aload_n 0 o dX8_portsFor_21 rfl rfl ?_
    obtain ⟨x22, q22, e⟩ := ob e
    refine g_getI 3 o cf8 (by decide) mw_216 dX8_portsFor_22 q22 ?_
    refine g_icmp_ge (x := v4) (y := x22) 170 o dX8_portsFor_25 (by decide) (fun u => ?_) (fun u => ?_)
    · rw [if_pos u] at e
      refine g_aload_n 0 o dX8_portsFor_170 rfl rfl ?_
      obtain ⟨x171, q171, e⟩ := ob e
      refine g_getN 4 o cf8 (by decide) mw_217 dX8_portsFor_171 q171 ?_
      refine g_iconst (v := 0) o dX8_portsFor_174 (by decide) ?_
      obtain ⟨x175, q175, e⟩ := ob e
      refine g_iald o dX8_portsFor_175 q175 ?_
      exact g_iret o dX8_portsFor_176 (rt_v q e)
    · rw [if_neg u] at e
      refine g_aload_n 0 o dX8_portsFor_28 rfl rfl ?_
      obtain ⟨x29, q29, e⟩ := ob e
      refine g_getN 0 o cf8 (by decide) mw_213 dX8_portsFor_29 q29 ?_
      refine g_iload 4 o dX8_portsFor_32 rfl ?_
      obtain ⟨x34, q34, e⟩ := ob e
      refine g_iald o dX8_portsFor_34 q34 ?_
      refine g_bipush (v := 18) o dX8_portsFor_35 (by decide) ?_
      refine g_icmp_ne (x := x34) (y := 18) 68 o dX8_portsFor_37 (by decide) (fun u => ?_) (fun u => ?_)
      · rw [if_neg u] at e
        exact kX8_portsFor_68 f0 (bX8_portsFor_19 f0 f1) ih o v0 v1 v2 v3 v4 h r hz q e
      · rw [if_pos u] at e
        refine g_iload_n 3 o dX8_portsFor_40 rfl rfl ?_
        refine g_iconst (v := 1) o dX8_portsFor_41 (by decide) ?_
        refine g_icmp_lt (x := v3) (y := 1) 68 o dX8_portsFor_42 (by decide) (fun u => ?_) (fun u => ?_)
        · rw [if_pos u] at e
          exact kX8_portsFor_68 f0 (bX8_portsFor_19 f0 f1) ih o v0 v1 v2 v3 v4 h r hz q e
        · rw [if_neg u] at e
          refine g_aload_n 0 o dX8_portsFor_45 rfl rfl ?_
          obtain ⟨x46, q46, e⟩ := ob e
          refine g_getN 4 o cf8 (by decide) mw_217 dX8_portsFor_46 q46 ?_
          refine g_iload_n 3 o dX8_portsFor_49 rfl rfl ?_
          refine g_iconst (v := 1) o dX8_portsFor_50 (by decide) ?_
          refine g_isub (x := v3) (y := 1) o dX8_portsFor_51 ?_
          refine g_iload_n 2 o dX8_portsFor_52 rfl rfl ?_
          refine g_aload_n 0 o dX8_portsFor_53 rfl rfl ?_
          obtain ⟨x54, q54, e⟩ := ob e
          refine g_getN 4 o cf8 (by decide) mw_217 dX8_portsFor_54 q54 ?_
          refine g_iload_n 3 o dX8_portsFor_57 rfl rfl ?_
          refine g_iconst (v := 1) o dX8_portsFor_58 (by decide) ?_
          refine g_isub (x := v3) (y := 1) o dX8_portsFor_59 ?_
          obtain ⟨x60, q60, e⟩ := ob e
          refine g_iald o dX8_portsFor_60 q60 ?_
          refine g_iconst (v := -1) o dX8_portsFor_61 (by decide) ?_
          refine g_ixor (x := x60) (y := (-1)) o dX8_portsFor_62 ?_
          refine g_iand (x := v2) (y := (x60 ^^^ (-1))) o dX8_portsFor_63 ?_
          obtain ⟨h64, q64, e⟩ := ob e
          refine g_iast o dX8_portsFor_64 q64 ?_
          refine g_goto 164 o dX8_portsFor_65 (by decide) ?_
          exact kX8_portsFor_164 f0 (bX8_portsFor_19 f0 f1) ih o v0 v1 v2 v3 v4 h64 r hz q e
theorem yo_X8_portsFor : yok yX8_portsFor 1 := ⟨by decide, by decide, by decide +kernel⟩
set_option maxRecDepth 100000 in
set_option maxHeartbeats 4000000 in
theorem mX8_portsFor {l : Launch} {D : va_G} {cy : Nat → ClassId} {f0 : Nat} {a : Nat} {p0 : Nat} {h : Hp} {r : Int32} {hz : Hp} (e : fX8_portsFor f0 a p0 h = some (r, hz)) : MC l D cy yX8_portsFor cX8_portsFor 5 (some .int) rmX8_portsFor [.ref a, .ref p0] h (some (.int r)) hz := by
  refine mc_of2 (by decide) (Nat.le_of_ble_eq_true rfl) (fun X hl hD hy hin o q => ?_)
  subst hl; subst hD; subst hy
  show G X 5 0 [(0, .ref a), (1, .ref p0)] [] h 0 0
  unfold fX8_portsFor at e
  refine g_iconst (v := 1) o dX8_portsFor_0 (by decide) ?_
  refine g_aload_n 1 o dX8_portsFor_1 rfl rfl ?_
  obtain ⟨x2, q2, e⟩ := ob e
  refine g_getN 0 o cf10 (by decide) mw_277 dX8_portsFor_2 q2 ?_
  obtain ⟨x5, q5, e⟩ := ob e
  refine g_getN 1 o cf6 (by decide) mw_146 dX8_portsFor_5 q5 ?_
  refine g_iconst (v := 0) o dX8_portsFor_8 (by decide) ?_
  obtain ⟨x9, q9, e⟩ := ob e
  refine g_iald o dX8_portsFor_9 q9 ?_
  refine g_ishl (x := (1 : Int32)) (y := x9) o dX8_portsFor_10 ?_
  refine g_iconst (v := 1) o dX8_portsFor_11 (by decide) ?_
  refine g_isub (x := ((1 : Int32) <<< (x9 &&& 31))) (y := 1) o dX8_portsFor_12 ?_
  refine g_istore_n [(2, .int (((1 : Int32) <<< (x9 &&& 31)) - 1)), (0, .ref a), (1, .ref p0)] o dX8_portsFor_13 rfl (by decide) rfl ?_
  refine g_iconst (v := 0) o dX8_portsFor_14 (by decide) ?_
  refine g_istore_n [(3, .int 0), (2, .int (((1 : Int32) <<< (x9 &&& 31)) - 1)), (0, .ref a), (1, .ref p0)] o dX8_portsFor_15 rfl (by decide) rfl ?_
  refine g_iconst (v := 0) o dX8_portsFor_16 (by decide) ?_
  refine g_istore [(4, .int 0), (3, .int 0), (2, .int (((1 : Int32) <<< (x9 &&& 31)) - 1)), (0, .ref a), (1, .ref p0)] o dX8_portsFor_17 (by decide) rfl ?_
  refine g_sb [3, 4, 2, 1, 0] rfl ?_
  exact kX8_portsFor_19 f0 o f0 a p0 (((1 : Int32) <<< (x9 &&& 31)) - 1) 0 0 h r hz q e
set_option maxRecDepth 100000 in
set_option maxHeartbeats 4000000 in
theorem kX11_bitAt_31 {X : Cx} (f0 : Nat) (g4 : Int32 → Int32 → Int32 → Int32 → Hp → Option (Int32 × Hp)) (i4 : ∀ (v02 : Int32) (v12 : Int32) (v22 : Int32) (v32 : Int32) (h2 : Hp) (r : Int32) (hz : Hp), Rt X (some (.int r)) hz 0 0 → g4 v02 v12 v22 v32 h2 = some (r, hz) → G X 4 4 [(0, .int v02), (1, .int v12), (2, .int v22), (3, .int v32)] [] h2 0 0) (o : Ok X cX11_bitAt RX11 4 rmX11_bitAt (some .int)) (v0 : Int32) (v1 : Int32) (v2 : Int32) (v3 : Int32) (h : Hp) (r : Int32) (hz : Hp) (q : Rt X (some (.int r)) hz 0 0) (e : bX11_bitAt_31 f0 g4 v0 v1 v2 v3 h = some (r, hz)) : G X 4 31 [(0, .int v0), (1, .int v1), (2, .int v2), (3, .int v3)] [] h 0 0 := by
  unfold bX11_bitAt_31 at e
  refine g_iinc (k := 3) (v := (v3 + 1)) [(3, .int (v3 + 1)), (0, .int v0), (1, .int v1), (2, .int v2)] o dX11_bitAt_31 rfl rfl (by decide) rfl ?_
  refine g_goto 4 o dX11_bitAt_34 (by decide) ?_
  refine g_sb [1, 2, 3, 0] rfl ?_
  exact i4 v0 v1 v2 (v3 + 1) h r hz q e
set_option maxRecDepth 100000 in
set_option maxHeartbeats 4000000 in
theorem kX11_bitAt_4 {X : Cx} (f0 : Nat) (o : Ok X cX11_bitAt RX11 4 rmX11_bitAt (some .int)) (f : Nat) (v0 : Int32) (v1 : Int32) (v2 : Int32) (v3 : Int32) (h : Hp) (r : Int32) (hz : Hp) (q : Rt X (some (.int r)) hz 0 0) (e : bX11_bitAt_4 f0 f v0 v1 v2 v3 h = some (r, hz)) : G X 4 4 [(0, .int v0), (1, .int v1), (2, .int v2), (3, .int v3)] [] h 0 0 := by
  induction f generalizing v0 v1 v2 v3 h r hz with
  | zero => cases e
  | succ f1 ih =>
    unfold bX11_bitAt_4 at e
    refine g_iload_n 3 o dX11_bitAt_4 rfl rfl ?_
    refine g_bipush (v := 8) o dX11_bitAt_5 (by decide) ?_
    refine g_icmp_ge (x := v3) (y := 8) 37 o dX11_bitAt_7 (by decide) (fun u => ?_) (fun u => ?_)
    · rw [if_pos u] at e
      refine g_iconst (v := -1) o dX11_bitAt_37 (by decide) ?_
      exact g_iret o dX11_bitAt_38 (rt_v q e)
    · rw [if_neg u] at e
      refine g_iload_n 0 o dX11_bitAt_10 rfl rfl ?_
      refine g_iload_n 3 o dX11_bitAt_11 rfl rfl ?_
      refine g_ishr (x := v0) (y := v3) o dX11_bitAt_12 ?_
      refine g_iconst (v := 1) o dX11_bitAt_13 (by decide) ?_
      refine g_iand (x := (v0 >>> (v3 &&& 31))) (y := 1) o dX11_bitAt_14 ?_
      refine g_if_ne (x := ((v0 >>> (v3 &&& 31)) &&& 1)) 21 o dX11_bitAt_15 (by decide) (fun u => ?_) (fun u => ?_)
      · rw [if_neg u] at e
        refine g_iload_n 2 o dX11_bitAt_21 rfl rfl ?_
        refine g_iload_n 1 o dX11_bitAt_22 rfl rfl ?_
        refine g_icmp_ne (x := v2) (y := v1) 28 o dX11_bitAt_23 (by decide) (fun u => ?_) (fun u => ?_)
        · rw [if_neg u] at e
          refine g_iinc (k := 2) (v := (v2 + 1)) [(2, .int (v2 + 1)), (0, .int v0), (1, .int v1), (3, .int v3)] o dX11_bitAt_28 rfl rfl (by decide) rfl ?_
          refine g_sb [1, 2, 0, 3] rfl ?_
          exact kX11_bitAt_31 f0 (bX11_bitAt_4 f0 f1) ih o v0 v1 (v2 + 1) v3 h r hz q e
        · rw [if_pos u] at e
          refine g_iload_n 3 o dX11_bitAt_26 rfl rfl ?_
          exact g_iret o dX11_bitAt_27 (rt_v q e)
      · rw [if_pos u] at e
        refine g_goto 31 o dX11_bitAt_18 (by decide) ?_
        exact kX11_bitAt_31 f0 (bX11_bitAt_4 f0 f1) ih o v0 v1 v2 v3 h r hz q e
theorem yo_X11_bitAt : yok yX11_bitAt 2 := ⟨by decide, by decide, by decide +kernel⟩
set_option maxRecDepth 100000 in
set_option maxHeartbeats 4000000 in
theorem mX11_bitAt {l : Launch} {D : va_G} {cy : Nat → ClassId} {f0 : Nat} {p0 : Int32} {p1 : Int32} {h : Hp} {r : Int32} {hz : Hp} (e : fX11_bitAt f0 p0 p1 h = some (r, hz)) : MC l D cy yX11_bitAt cX11_bitAt 4 (some .int) rmX11_bitAt [.int p0, .int p1] h (some (.int r)) hz := by
  refine mc_of2 (by decide) (Nat.le_of_ble_eq_true rfl) (fun X hl hD hy hin o q => ?_)
  subst hl; subst hD; subst hy
  show G X 4 0 [(0, .int p0), (1, .int p1)] [] h 0 0
  unfold fX11_bitAt at e
  refine g_iconst (v := 0) o dX11_bitAt_0 (by decide) ?_
  refine g_istore_n [(2, .int 0), (0, .int p0), (1, .int p1)] o dX11_bitAt_1 rfl (by decide) rfl ?_
  refine g_iconst (v := 0) o dX11_bitAt_2 (by decide) ?_
  refine g_istore_n [(3, .int 0), (2, .int 0), (0, .int p0), (1, .int p1)] o dX11_bitAt_3 rfl (by decide) rfl ?_
  refine g_sb [2, 3, 1, 0] rfl ?_
  exact kX11_bitAt_4 f0 o f0 p0 p1 0 0 h r hz q e
theorem yo_X11_said : yok yX11_said 1 := ⟨by decide, by decide, by decide +kernel⟩
set_option maxRecDepth 100000 in
set_option maxHeartbeats 4000000 in
theorem mX11_said {l : Launch} {D : va_G} {cy : Nat → ClassId} {f0 : Nat} {a : Nat} {p0 : Int32} {h : Hp} {r : Int32} {hz : Hp} (e : fX11_said f0 a p0 h = some (r, hz)) : MC l D cy yX11_said cX11_said 3 (some .int) rmX11_said [.ref a, .int p0] h (some (.int r)) hz := by
  refine mc_of2 (by decide) (Nat.le_of_ble_eq_true rfl) (fun X hl hD hy hin o q => ?_)
  subst hl; subst hD; subst hy
  show G X 3 0 [(0, .ref a), (1, .int p0)] [] h 0 0
  unfold fX11_said at e
  refine g_aload_n 0 o dX11_said_0 rfl rfl ?_
  obtain ⟨x1, q1, e⟩ := ob e
  refine g_getN 7 o cf11 (by decide) mw_371 dX11_said_1 q1 ?_
  obtain ⟨_, k4, e⟩ := ob e
  obtain ⟨x4, h4, q4, e⟩ := ob2_s e
  refine g_callVv [] o (mX8_isThere q4) cf8 (ckO_s k4) mw_635 mw_636 mw_637 mw_10 mw_638 rfl yo_X8_isThere rfl rfl (Nat.le_of_ble_eq_true rfl) ⟨by decide, by decide⟩ ⟨rfl, rfl⟩ dX11_said_4 ⟨by decide, by decide⟩ ?_
  refine g_if_ne (x := x4) 12 o dX11_said_7 (by decide) (fun u => ?_) (fun u => ?_)
  · rw [if_neg u] at e
    refine g_aload_n 0 o dX11_said_12 rfl rfl ?_
    obtain ⟨x13, q13, e⟩ := ob e
    refine g_getN 7 o cf11 (by decide) mw_371 dX11_said_13 q13 ?_
    refine g_aload_n 0 o dX11_said_16 rfl rfl ?_
    obtain ⟨x17, q17, e⟩ := ob e
    refine g_getN 11 o cf11 (by decide) mw_375 dX11_said_17 q17 ?_
    obtain ⟨_, k20, e⟩ := ob e
    obtain ⟨x20, h20, q20, e⟩ := ob2_s e
    refine g_callVv [.ref x17] o (mX8_portsFor q20) cf8 (ckO_s k20) mw_639 mw_640 mw_641 mw_10 mw_642 rfl yo_X8_portsFor rfl rfl (Nat.le_of_ble_eq_true rfl) ⟨by decide, by decide⟩ ⟨rfl, rfl⟩ dX11_said_20 ⟨by decide, by decide⟩ ?_
    refine g_istore_n [(2, .int x20), (0, .ref a), (1, .int p0)] o dX11_said_23 rfl (by decide) rfl ?_
    refine g_iload_n 2 o dX11_said_24 rfl rfl ?_
    refine g_iconst (v := -1) o dX11_said_25 (by decide) ?_
    refine g_icmp_ne (x := p0) (y := (-1)) 36 o dX11_said_26 (by decide) (fun u => ?_) (fun u => ?_)
    · rw [if_neg u] at e
      refine g_iload_n 0 o dX11_said_36 rfl rfl ?_
      refine g_iload_n 2 o dX11_said_37 rfl rfl ?_
      obtain ⟨x38, h38, q38, e⟩ := ob2_s e
      refine g_callSv [.int x20, .int p0] o (mX11_bitAt q38) mw_704 mw_705 mw_1 mw_706 yo_X11_bitAt rfl rfl (Nat.le_of_ble_eq_true rfl) ⟨by decide, by decide⟩ ⟨rfl, rfl⟩ dX11_said_38 ⟨by decide, by decide⟩ ?_
      exact g_iret o dX11_said_41 (rt_v q e)
    · rw [if_pos u] at e
      refine g_iload_n 0 o dX11_said_29 rfl rfl ?_
      obtain ⟨x30, h30, q30, e⟩ := ob2_s e
      refine g_callSv [.int x20] o (mJ6_bitCount_0f7a4 q30) mw_703 mw_698 mw_25 mw_699 yo_J6_bitCount_0f7a4 rfl rfl (Nat.le_of_ble_eq_true rfl) ⟨by decide, by decide⟩ ⟨rfl, rfl⟩ dX11_said_30 ⟨by decide, by decide⟩ ?_
      refine g_goto 41 o dX11_said_33 (by decide) ?_
      exact g_iret o dX11_said_41 (rt_v q e)
  · rw [if_pos u] at e
    refine g_iconst (v := -1) o dX11_said_10 (by decide) ?_
    exact g_iret o dX11_said_11 (rt_v q e)
theorem yo_X2_passLearns : yok yX2_passLearns 0 := ⟨by decide, by decide, by decide +kernel⟩
set_option maxRecDepth 100000 in
set_option maxHeartbeats 4000000 in
theorem mX2_passLearns {l : Launch} {D : va_G} {cy : Nat → ClassId} {f0 : Nat} {a : Nat} {h : Hp} {r : Int32} {hz : Hp} (e : fX2_passLearns f0 a h = some (r, hz)) : MC l D cy yX2_passLearns cX2_passLearns 1 (some .boolean) rmX2_passLearns [.ref a] h (some (.int r)) hz := by
  refine mc_of2 (by decide) (Nat.le_of_ble_eq_true rfl) (fun X hl hD hy hin o q => ?_)
  subst hl; subst hD; subst hy
  show G X 1 0 [(0, .ref a)] [] h 0 0
  unfold fX2_passLearns at e
  refine g_aload_n 0 o dX2_passLearns_0 rfl rfl ?_
  obtain ⟨x1, q1, e⟩ := ob e
  refine g_getN 0 o cf2 (by decide) mw_243 dX2_passLearns_1 q1 ?_
  obtain ⟨x4, q4, e⟩ := ob e
  refine g_getI 8 o cf4 (by decide) mw_97 dX2_passLearns_4 q4 ?_
  refine g_bipush (v := 15) o dX2_passLearns_7 (by decide) ?_
  refine g_icmp_eq (x := x4) (y := 15) 21 o dX2_passLearns_9 (by decide) (fun u => ?_) (fun u => ?_)
  · rw [if_pos u] at e
    refine g_aload_n 0 o dX2_passLearns_21 rfl rfl ?_
    obtain ⟨x22, q22, e⟩ := ob e
    refine g_getN 0 o cf2 (by decide) mw_243 dX2_passLearns_22 q22 ?_
    obtain ⟨_, k25, e⟩ := ob e
    obtain ⟨h25, q25, e⟩ := ob e
    refine g_callV0 [] o (mX4_step q25) cf4 (ckO_s k25) mw_722 mw_428 mw_429 mw_2 mw_430 rfl yo_X4_step rfl rfl (Nat.le_of_ble_eq_true rfl) ⟨by decide, by decide⟩ ⟨rfl, rfl⟩ dX2_passLearns_25 ⟨by decide, by decide⟩ ?_
    refine g_iconst (v := 1) o dX2_passLearns_28 (by decide) ?_
    exact g_zret o dX2_passLearns_29 (zr_s e).1 (rt_v q (zr_s e).2)
  · rw [if_neg u] at e
    refine g_aload_n 0 o dX2_passLearns_12 rfl rfl ?_
    obtain ⟨x13, q13, e⟩ := ob e
    refine g_getN 0 o cf2 (by decide) mw_243 dX2_passLearns_13 q13 ?_
    refine g_iconst (v := 1) o dX2_passLearns_16 (by decide) ?_
    obtain ⟨_, k17, e⟩ := ob e
    obtain ⟨x17, h17, q17, e⟩ := ob2_s e
    refine g_callVv [.int 1] o (mX4_refuse q17) cf4 (ckO_s k17) mw_721 mw_503 mw_504 mw_2 mw_505 rfl yo_X4_refuse rfl rfl (Nat.le_of_ble_eq_true rfl) ⟨by decide, by decide⟩ ⟨rfl, rfl⟩ dX2_passLearns_17 ⟨by decide, by decide⟩ ?_
    exact g_zret o dX2_passLearns_20 (zr_s e).1 (rt_v q (zr_s e).2)
theorem yo_X2_lookObject : yok yX2_lookObject 1 := ⟨by decide, by decide, by decide +kernel⟩
set_option maxRecDepth 100000 in
set_option maxHeartbeats 4000000 in
theorem mX2_lookObject {l : Launch} {D : va_G} {cy : Nat → ClassId} {f0 : Nat} {a : Nat} {p0 : Int32} {h : Hp} {r : Int32} {hz : Hp} (e : fX2_lookObject f0 a p0 h = some (r, hz)) : MC l D cy yX2_lookObject cX2_lookObject 2 (some .int) rmX2_lookObject [.ref a, .int p0] h (some (.int r)) hz := by
  refine mc_of2 (by decide) (Nat.le_of_ble_eq_true rfl) (fun X hl hD hy hin o q => ?_)
  subst hl; subst hD; subst hy
  show G X 2 0 [(0, .ref a), (1, .int p0)] [] h 0 0
  unfold fX2_lookObject at e
  refine g_iload_n 1 o dX2_lookObject_0 rfl rfl ?_
  by_cases u0 : p0 = 11
  · rw [if_pos u0] at e
    refine g_tabAt (x := p0) 11 28 o dX2_lookObject_1 u0 (by decide) (by decide) (by decide) (by decide) ?_
    refine g_aload_n 0 o dX2_lookObject_28 rfl rfl ?_
    obtain ⟨x29, q29, e⟩ := ob e
    refine g_getN 0 o cf2 (by decide) mw_243 dX2_lookObject_29 q29 ?_
    refine g_aload_n 0 o dX2_lookObject_32 rfl rfl ?_
    obtain ⟨x33, q33, e⟩ := ob e
    refine g_getN 1 o cf2 (by decide) mw_244 dX2_lookObject_33 q33 ?_
    refine g_iconst (v := 0) o dX2_lookObject_36 (by decide) ?_
    obtain ⟨_, k37, e⟩ := ob e
    obtain ⟨x37, h37, q37, e⟩ := ob2_s e
    refine g_callVv [.ref x33, .int 0] o (mX4_look q37) cf4 (ckO_s k37) mw_720 mw_514 mw_515 mw_2 mw_516 rfl yo_X4_look rfl rfl (Nat.le_of_ble_eq_true rfl) ⟨by decide, by decide⟩ ⟨rfl, rfl⟩ dX2_lookObject_37 ⟨by decide, by decide⟩ ?_
    exact g_iret o dX2_lookObject_40 (rt_v q e)
  rw [if_neg u0] at e
  by_cases u1 : p0 = 12
  · rw [if_pos u1] at e
    refine g_tabAt (x := p0) 12 41 o dX2_lookObject_1 u1 (by decide) (by decide) (by decide) (by decide) ?_
    refine g_aload_n 0 o dX2_lookObject_41 rfl rfl ?_
    obtain ⟨x42, q42, e⟩ := ob e
    refine g_getN 0 o cf2 (by decide) mw_243 dX2_lookObject_42 q42 ?_
    refine g_aload_n 0 o dX2_lookObject_45 rfl rfl ?_
    obtain ⟨x46, q46, e⟩ := ob e
    refine g_getN 1 o cf2 (by decide) mw_244 dX2_lookObject_46 q46 ?_
    refine g_iconst (v := 3) o dX2_lookObject_49 (by decide) ?_
    obtain ⟨_, k50, e⟩ := ob e
    obtain ⟨x50, h50, q50, e⟩ := ob2_s e
    refine g_callVv [.ref x46, .int 3] o (mX4_look q50) cf4 (ckO_s k50) mw_720 mw_514 mw_515 mw_2 mw_516 rfl yo_X4_look rfl rfl (Nat.le_of_ble_eq_true rfl) ⟨by decide, by decide⟩ ⟨rfl, rfl⟩ dX2_lookObject_50 ⟨by decide, by decide⟩ ?_
    exact g_iret o dX2_lookObject_53 (rt_v q e)
  rw [if_neg u1] at e
  by_cases u2 : p0 = 13
  · rw [if_pos u2] at e
    refine g_tabAt (x := p0) 13 54 o dX2_lookObject_1 u2 (by decide) (by decide) (by decide) (by decide) ?_
    refine g_aload_n 0 o dX2_lookObject_54 rfl rfl ?_
    obtain ⟨x55, q55, e⟩ := ob e
    refine g_getN 0 o cf2 (by decide) mw_243 dX2_lookObject_55 q55 ?_
    refine g_iconst (v := 1) o dX2_lookObject_58 (by decide) ?_
    refine g_bipush (v := 60) o dX2_lookObject_59 (by decide) ?_
    obtain ⟨_, k61, e⟩ := ob e
    obtain ⟨x61, h61, q61, e⟩ := ob2_s e
    refine g_callVv [.int 1, .int 60] o (mX4_lookNumber q61) cf4 (ckO_s k61) mw_729 mw_527 mw_528 mw_2 mw_529 rfl yo_X4_lookNumber rfl rfl (Nat.le_of_ble_eq_true rfl) ⟨by decide, by decide⟩ ⟨rfl, rfl⟩ dX2_lookObject_61 ⟨by decide, by decide⟩ ?_
    exact g_iret o dX2_lookObject_64 (rt_v q e)
  rw [if_neg u2] at e
  refine g_tabOut (x := p0) 65 o dX2_lookObject_1 (by have n0 := tb_ne 11 11 (by decide) u0; have n1 := tb_ne 12 12 (by decide) u1; have n2 := tb_ne 13 13 (by decide) u2; omega) (by decide) ?_
  refine g_aload_n 0 o dX2_lookObject_65 rfl rfl ?_
  obtain ⟨x66, q66, e⟩ := ob e
  refine g_getN 0 o cf2 (by decide) mw_243 dX2_lookObject_66 q66 ?_
  refine g_aload_n 0 o dX2_lookObject_69 rfl rfl ?_
  obtain ⟨x70, q70, e⟩ := ob e
  refine g_getN 1 o cf2 (by decide) mw_244 dX2_lookObject_70 q70 ?_
  refine g_iconst (v := 4) o dX2_lookObject_73 (by decide) ?_
  obtain ⟨_, k74, e⟩ := ob e
  obtain ⟨x74, h74, q74, e⟩ := ob2_s e
  refine g_callVv [.ref x70, .int 4] o (mX4_look q74) cf4 (ckO_s k74) mw_720 mw_514 mw_515 mw_2 mw_516 rfl yo_X4_look rfl rfl (Nat.le_of_ble_eq_true rfl) ⟨by decide, by decide⟩ ⟨rfl, rfl⟩ dX2_lookObject_74 ⟨by decide, by decide⟩ ?_
  exact g_iret o dX2_lookObject_77 (rt_v q e)
set_option maxRecDepth 100000 in
set_option maxHeartbeats 4000000 in
theorem kX2_readLine_58 {X : Cx} (f0 : Nat) (o : Ok X cX2_readLine RX2 3 rmX2_readLine (some .boolean)) (v0 : Nat) (h : Hp) (r : Int32) (hz : Hp) (q : Rt X (some (.int r)) hz 0 0) (e : bX2_readLine_58 f0 v0 h = some (r, hz)) : G X 3 58 [(0, .ref v0)] [] h 0 0 := by
  unfold bX2_readLine_58 at e
  refine g_aload_n 0 o dX2_readLine_58 rfl rfl ?_
  obtain ⟨x59, q59, e⟩ := ob e
  refine g_getN 0 o cf2 (by decide) mw_243 dX2_readLine_59 q59 ?_
  refine g_iconst (v := 1) o dX2_readLine_62 (by decide) ?_
  obtain ⟨_, k63, e⟩ := ob e
  obtain ⟨x63, h63, q63, e⟩ := ob2_s e
  refine g_callVv [.int 1] o (mX4_refuse q63) cf4 (ckO_s k63) mw_721 mw_503 mw_504 mw_2 mw_505 rfl yo_X4_refuse rfl rfl (Nat.le_of_ble_eq_true rfl) ⟨by decide, by decide⟩ ⟨rfl, rfl⟩ dX2_readLine_63 ⟨by decide, by decide⟩ ?_
  exact g_zret o dX2_readLine_66 (zr_s e).1 (rt_v q (zr_s e).2)
set_option maxRecDepth 100000 in
set_option maxHeartbeats 4000000 in
theorem kX2_readLine_169 {X : Cx} (f0 : Nat) (o : Ok X cX2_readLine RX2 3 rmX2_readLine (some .boolean)) (v0 : Nat) (h : Hp) (r : Int32) (hz : Hp) (q : Rt X (some (.int r)) hz 0 0) (e : bX2_readLine_169 f0 v0 h = some (r, hz)) : G X 3 169 [(0, .ref v0)] [] h 0 0 := by
  unfold bX2_readLine_169 at e
  refine g_aload_n 0 o dX2_readLine_169 rfl rfl ?_
  obtain ⟨x170, q170, e⟩ := ob e
  refine g_getN 0 o cf2 (by decide) mw_243 dX2_readLine_170 q170 ?_
  refine g_bipush (v := 59) o dX2_readLine_173 (by decide) ?_
  obtain ⟨_, k175, e⟩ := ob e
  obtain ⟨x175, h175, q175, e⟩ := ob2_s e
  refine g_callVv [.int 59] o (mX4_passSign q175) cf4 (ckO_s k175) mw_730 mw_560 mw_561 mw_2 mw_562 rfl yo_X4_passSign rfl rfl (Nat.le_of_ble_eq_true rfl) ⟨by decide, by decide⟩ ⟨rfl, rfl⟩ dX2_readLine_175 ⟨by decide, by decide⟩ ?_
  exact g_zret o dX2_readLine_178 (zr_s e).1 (rt_v q (zr_s e).2)
set_option maxRecDepth 100000 in
set_option maxHeartbeats 4000000 in
theorem kX2_readLine_107 {X : Cx} (f0 : Nat) (o : Ok X cX2_readLine RX2 3 rmX2_readLine (some .boolean)) (v0 : Nat) (v1 : Int32) (v2 : Int32) (h : Hp) (r : Int32) (hz : Hp) (q : Rt X (some (.int r)) hz 0 0) (e : bX2_readLine_107 f0 v0 v1 v2 h = some (r, hz)) : G X 3 107 [(0, .ref v0), (1, .int v1), (2, .int v2)] [] h 0 0 := by
  unfold bX2_readLine_107 at e
  refine g_aload_n 0 o dX2_readLine_107 rfl rfl ?_
  obtain ⟨x108, q108, e⟩ := ob e
  refine g_getN 2 o cf2 (by decide) mw_245 dX2_readLine_108 q108 ?_
  refine g_aload_n 0 o dX2_readLine_111 rfl rfl ?_
  obtain ⟨x112, q112, e⟩ := ob e
  refine g_getI 5 o cf2 (by decide) mw_248 dX2_readLine_112 q112 ?_
  refine g_iload_n 2 o dX2_readLine_115 rfl rfl ?_
  obtain ⟨h116, q116, e⟩ := ob e
  refine g_iast o dX2_readLine_116 q116 ?_
  refine g_aload_n 0 o dX2_readLine_117 rfl rfl ?_
  obtain ⟨x118, q118, e⟩ := ob e
  refine g_getN 4 o cf2 (by decide) mw_247 dX2_readLine_118 q118 ?_
  refine g_aload_n 0 o dX2_readLine_121 rfl rfl ?_
  obtain ⟨x122, q122, e⟩ := ob e
  refine g_getI 5 o cf2 (by decide) mw_248 dX2_readLine_122 q122 ?_
  refine g_iload_n 1 o dX2_readLine_125 rfl rfl ?_
  obtain ⟨h126, q126, e⟩ := ob e
  refine g_iast o dX2_readLine_126 q126 ?_
  refine g_iload_n 2 o dX2_readLine_127 rfl rfl ?_
  refine g_bipush (v := 14) o dX2_readLine_128 (by decide) ?_
  refine g_icmp_eq (x := v2) (y := 14) 169 o dX2_readLine_130 (by decide) (fun u => ?_) (fun u => ?_)
  · rw [if_pos u] at e
    refine g_sb [0] rfl ?_
    exact kX2_readLine_169 f0 o v0 h126 r hz q e
  · rw [if_neg u] at e
    refine g_aload_n 0 o dX2_readLine_133 rfl rfl ?_
    obtain ⟨x134, q134, e⟩ := ob e
    refine g_getN 3 o cf2 (by decide) mw_246 dX2_readLine_134 q134 ?_
    refine g_aload_n 0 o dX2_readLine_137 rfl rfl ?_
    obtain ⟨x138, q138, e⟩ := ob e
    refine g_getI 5 o cf2 (by decide) mw_248 dX2_readLine_138 q138 ?_
    refine g_aload_n 0 o dX2_readLine_141 rfl rfl ?_
    refine g_iload_n 2 o dX2_readLine_142 rfl rfl ?_
    obtain ⟨_, k143, e⟩ := ob e
    obtain ⟨x143, h143, q143, e⟩ := ob2_s e
    refine g_callVv [.int v2] o (mX2_lookObject q143) cf2 (ckO_s k143) mw_726 mw_727 mw_1706 mw_12 mw_728 rfl yo_X2_lookObject rfl rfl (Nat.le_of_ble_eq_true rfl) ⟨by decide, by decide⟩ ⟨rfl, rfl⟩ dX2_readLine_143 ⟨by decide, by decide⟩ ?_
    obtain ⟨h146, q146, e⟩ := ob e
    refine g_iast o dX2_readLine_146 q146 ?_
    refine g_aload_n 0 o dX2_readLine_147 rfl rfl ?_
    obtain ⟨x148, q148, e⟩ := ob e
    refine g_getN 3 o cf2 (by decide) mw_246 dX2_readLine_148 q148 ?_
    refine g_aload_n 0 o dX2_readLine_151 rfl rfl ?_
    obtain ⟨x152, q152, e⟩ := ob e
    refine g_getI 5 o cf2 (by decide) mw_248 dX2_readLine_152 q152 ?_
    obtain ⟨x155, q155, e⟩ := ob e
    refine g_iald o dX2_readLine_155 q155 ?_
    refine g_iconst (v := -1) o dX2_readLine_156 (by decide) ?_
    refine g_icmp_ne (x := x155) (y := (-1)) 162 o dX2_readLine_157 (by decide) (fun u => ?_) (fun u => ?_)
    · rw [if_neg u] at e
      refine g_aload_n 0 o dX2_readLine_162 rfl rfl ?_
      obtain ⟨x163, q163, e⟩ := ob e
      refine g_getN 0 o cf2 (by decide) mw_243 dX2_readLine_163 q163 ?_
      obtain ⟨_, k166, e⟩ := ob e
      obtain ⟨h166, q166, e⟩ := ob e
      refine g_callV0 [] o (mX4_step q166) cf4 (ckO_s k166) mw_722 mw_428 mw_429 mw_2 mw_430 rfl yo_X4_step rfl rfl (Nat.le_of_ble_eq_true rfl) ⟨by decide, by decide⟩ ⟨rfl, rfl⟩ dX2_readLine_166 ⟨by decide, by decide⟩ ?_
      refine g_sb [0] rfl ?_
      exact kX2_readLine_169 f0 o v0 h166 r hz q e
    · rw [if_pos u] at e
      refine g_iconst (v := 0) o dX2_readLine_160 (by decide) ?_
      exact g_zret o dX2_readLine_161 (zr_s e).1 (rt_v q (zr_s e).2)
set_option maxRecDepth 100000 in
set_option maxHeartbeats 4000000 in
theorem kX2_readLine_67 {X : Cx} (f0 : Nat) (o : Ok X cX2_readLine RX2 3 rmX2_readLine (some .boolean)) (v0 : Nat) (v1 : Int32) (v2 : Int32) (h : Hp) (r : Int32) (hz : Hp) (q : Rt X (some (.int r)) hz 0 0) (e : bX2_readLine_67 f0 v0 v1 v2 h = some (r, hz)) : G X 3 67 [(0, .ref v0), (1, .int v1), (2, .int v2)] [] h 0 0 := by
  unfold bX2_readLine_67 at e
  refine g_aload_n 0 o dX2_readLine_67 rfl rfl ?_
  obtain ⟨x68, q68, e⟩ := ob e
  refine g_getI 5 o cf2 (by decide) mw_248 dX2_readLine_68 q68 ?_
  refine g_bipush (v := 40) o dX2_readLine_71 (by decide) ?_
  refine g_icmp_lt (x := x68) (y := 40) 85 o dX2_readLine_73 (by decide) (fun u => ?_) (fun u => ?_)
  · rw [if_pos u] at e
    refine g_aload_n 0 o dX2_readLine_85 rfl rfl ?_
    obtain ⟨x86, q86, e⟩ := ob e
    refine g_getN 0 o cf2 (by decide) mw_243 dX2_readLine_86 q86 ?_
    obtain ⟨_, k89, e⟩ := ob e
    obtain ⟨h89, q89, e⟩ := ob e
    refine g_callV0 [] o (mX4_step q89) cf4 (ckO_s k89) mw_722 mw_428 mw_429 mw_2 mw_430 rfl yo_X4_step rfl rfl (Nat.le_of_ble_eq_true rfl) ⟨by decide, by decide⟩ ⟨rfl, rfl⟩ dX2_readLine_89 ⟨by decide, by decide⟩ ?_
    refine g_iload_n 2 o dX2_readLine_92 rfl rfl ?_
    refine g_bipush (v := 15) o dX2_readLine_93 (by decide) ?_
    refine g_icmp_ne (x := v2) (y := 15) 107 o dX2_readLine_95 (by decide) (fun u => ?_) (fun u => ?_)
    · rw [if_neg u] at e
      exact kX2_readLine_107 f0 o v0 v1 v2 h89 r hz q e
    · rw [if_pos u] at e
      refine g_aload_n 0 o dX2_readLine_98 rfl rfl ?_
      obtain ⟨_, k99, e⟩ := ob e
      obtain ⟨x99, h99, q99, e⟩ := ob2_s e
      refine g_callVv [] o (mX2_passLearns q99) cf2 (ckO_s k99) mw_723 mw_724 mw_1705 mw_12 mw_725 rfl yo_X2_passLearns rfl rfl (Nat.le_of_ble_eq_true rfl) ⟨by decide, by decide⟩ ⟨rfl, rfl⟩ dX2_readLine_99 ⟨by decide, by decide⟩ ?_
      refine g_if_ne (x := x99) 107 o dX2_readLine_102 (by decide) (fun u => ?_) (fun u => ?_)
      · rw [if_neg u] at e
        exact kX2_readLine_107 f0 o v0 v1 v2 h99 r hz q e
      · rw [if_pos u] at e
        refine g_iconst (v := 0) o dX2_readLine_105 (by decide) ?_
        exact g_zret o dX2_readLine_106 (zr_s e).1 (rt_v q (zr_s e).2)
  · rw [if_neg u] at e
    refine g_aload_n 0 o dX2_readLine_76 rfl rfl ?_
    obtain ⟨x77, q77, e⟩ := ob e
    refine g_getN 0 o cf2 (by decide) mw_243 dX2_readLine_77 q77 ?_
    refine g_iconst (v := 4) o dX2_readLine_80 (by decide) ?_
    obtain ⟨_, k81, e⟩ := ob e
    obtain ⟨x81, h81, q81, e⟩ := ob2_s e
    refine g_callVv [.int 4] o (mX4_refuse q81) cf4 (ckO_s k81) mw_721 mw_503 mw_504 mw_2 mw_505 rfl yo_X4_refuse rfl rfl (Nat.le_of_ble_eq_true rfl) ⟨by decide, by decide⟩ ⟨rfl, rfl⟩ dX2_readLine_81 ⟨by decide, by decide⟩ ?_
    exact g_zret o dX2_readLine_84 (zr_s e).1 (rt_v q (zr_s e).2)
theorem yo_X2_readLine : yok yX2_readLine 0 := ⟨by decide, by decide, by decide +kernel⟩
set_option maxRecDepth 100000 in
set_option maxHeartbeats 4000000 in
theorem mX2_readLine {l : Launch} {D : va_G} {cy : Nat → ClassId} {f0 : Nat} {a : Nat} {h : Hp} {r : Int32} {hz : Hp} (e : fX2_readLine f0 a h = some (r, hz)) : MC l D cy yX2_readLine cX2_readLine 3 (some .boolean) rmX2_readLine [.ref a] h (some (.int r)) hz := by
  refine mc_of2 (by decide) (Nat.le_of_ble_eq_true rfl) (fun X hl hD hy hin o q => ?_)
  subst hl; subst hD; subst hy
  show G X 3 0 [(0, .ref a)] [] h 0 0
  unfold fX2_readLine at e
  refine g_iconst (v := -1) o dX2_readLine_0 (by decide) ?_
  refine g_istore_n [(1, .int (-1)), (0, .ref a)] o dX2_readLine_1 rfl (by decide) rfl ?_
  refine g_aload_n 1 o dX2_readLine_2 rfl rfl ?_
  obtain ⟨x3, q3, e⟩ := ob e
  refine g_getN 0 o cf2 (by decide) mw_243 dX2_readLine_3 q3 ?_
  obtain ⟨x6, q6, e⟩ := ob e
  refine g_getI 8 o cf4 (by decide) mw_97 dX2_readLine_6 q6 ?_
  refine g_istore_n [(2, .int x6), (1, .int (-1)), (0, .ref a)] o dX2_readLine_9 rfl (by decide) rfl ?_
  refine g_aload_n 2 o dX2_readLine_10 rfl rfl ?_
  obtain ⟨x11, q11, e⟩ := ob e
  refine g_getN 0 o cf2 (by decide) mw_243 dX2_readLine_11 q11 ?_
  obtain ⟨_, k14, e⟩ := ob e
  obtain ⟨x14, h14, q14, e⟩ := ob2_s e
  refine g_callVv [] o (mX4_isName q14) cf4 (ckO_s k14) mw_719 mw_518 mw_519 mw_2 mw_520 rfl yo_X4_isName rfl rfl (Nat.le_of_ble_eq_true rfl) ⟨by decide, by decide⟩ ⟨rfl, rfl⟩ dX2_readLine_14 ⟨by decide, by decide⟩ ?_
  refine g_if_eq (x := x14) 46 o dX2_readLine_17 (by decide) (fun u => ?_) (fun u => ?_)
  · rw [if_pos u] at e
    refine g_iload_n 0 o dX2_readLine_46 rfl rfl ?_
    refine g_bipush (v := 11) o dX2_readLine_47 (by decide) ?_
    refine g_icmp_lt (x := x6) (y := 11) 58 o dX2_readLine_49 (by decide) (fun u => ?_) (fun u => ?_)
    · rw [if_pos u] at e
      refine g_sb [2] rfl ?_
      exact kX2_readLine_58 f0 o a h14 r hz q e
    · rw [if_neg u] at e
      refine g_iload_n 0 o dX2_readLine_52 rfl rfl ?_
      refine g_bipush (v := 14) o dX2_readLine_53 (by decide) ?_
      refine g_icmp_le (x := x6) (y := 14) 67 o dX2_readLine_55 (by decide) (fun u => ?_) (fun u => ?_)
      · rw [if_pos u] at e
        refine g_sb [2, 1, 0] rfl ?_
        exact kX2_readLine_67 f0 o a (-1) x6 h14 r hz q e
      · rw [if_neg u] at e
        refine g_sb [2] rfl ?_
        exact kX2_readLine_58 f0 o a h14 r hz q e
  · rw [if_neg u] at e
    refine g_aload_n 2 o dX2_readLine_20 rfl rfl ?_
    obtain ⟨x21, q21, e⟩ := ob e
    refine g_getN 0 o cf2 (by decide) mw_243 dX2_readLine_21 q21 ?_
    refine g_aload_n 2 o dX2_readLine_24 rfl rfl ?_
    obtain ⟨x25, q25, e⟩ := ob e
    refine g_getN 1 o cf2 (by decide) mw_244 dX2_readLine_25 q25 ?_
    refine g_iconst (v := 5) o dX2_readLine_28 (by decide) ?_
    obtain ⟨_, k29, e⟩ := ob e
    obtain ⟨x29, h29, q29, e⟩ := ob2_s e
    refine g_callVv [.ref x25, .int 5] o (mX4_look q29) cf4 (ckO_s k29) mw_720 mw_514 mw_515 mw_2 mw_516 rfl yo_X4_look rfl rfl (Nat.le_of_ble_eq_true rfl) ⟨by decide, by decide⟩ ⟨rfl, rfl⟩ dX2_readLine_29 ⟨by decide, by decide⟩ ?_
    refine g_istore_n [(1, .int x29), (2, .int x6), (0, .ref a)] o dX2_readLine_32 rfl (by decide) rfl ?_
    refine g_iload_n 0 o dX2_readLine_33 rfl rfl ?_
    refine g_iconst (v := -1) o dX2_readLine_34 (by decide) ?_
    refine g_icmp_ne (x := x29) (y := (-1)) 40 o dX2_readLine_35 (by decide) (fun u => ?_) (fun u => ?_)
    · rw [if_neg u] at e
      refine g_bipush (v := 15) o dX2_readLine_40 (by decide) ?_
      refine g_istore_n [(2, .int 15), (1, .int x29), (0, .ref a)] o dX2_readLine_42 rfl (by decide) rfl ?_
      refine g_goto 67 o dX2_readLine_43 (by decide) ?_
      refine g_sb [2, 1, 0] rfl ?_
      exact kX2_readLine_67 f0 o a x29 15 h29 r hz q e
    · rw [if_pos u] at e
      refine g_iconst (v := 0) o dX2_readLine_38 (by decide) ?_
      exact g_zret o dX2_readLine_39 (zr_s e).1 (rt_v q (zr_s e).2)
set_option maxRecDepth 100000 in
set_option maxHeartbeats 4000000 in
theorem kX2_read_59 {X : Cx} (f0 : Nat) (o : Ok X cX2_read RX2 3 rmX2_read (some .boolean)) (v0 : Nat) (h : Hp) (r : Int32) (hz : Hp) (q : Rt X (some (.int r)) hz 0 0) (e : bX2_read_59 f0 v0 h = some (r, hz)) : G X 3 59 [(0, .ref v0)] [] h 0 0 := by
  unfold bX2_read_59 at e
  refine g_aload_n 0 o dX2_read_59 rfl rfl ?_
  obtain ⟨x60, q60, e⟩ := ob e
  refine g_getN 0 o cf2 (by decide) mw_243 dX2_read_60 q60 ?_
  obtain ⟨_, k63, e⟩ := ob e
  obtain ⟨x63, h63, q63, e⟩ := ob2_s e
  refine g_callVv [] o (mX4_passEnd q63) cf4 (ckO_s k63) mw_731 mw_564 mw_565 mw_2 mw_566 rfl yo_X4_passEnd rfl rfl (Nat.le_of_ble_eq_true rfl) ⟨by decide, by decide⟩ ⟨rfl, rfl⟩ dX2_read_63 ⟨by decide, by decide⟩ ?_
  exact g_zret o dX2_read_66 (zr_s e).1 (rt_v q (zr_s e).2)
set_option maxRecDepth 100000 in
set_option maxHeartbeats 4000000 in
theorem kX2_read_18 {X : Cx} (f0 : Nat) (o : Ok X cX2_read RX2 3 rmX2_read (some .boolean)) (f : Nat) (v0 : Nat) (v2 : Int32) (h : Hp) (r : Int32) (hz : Hp) (q : Rt X (some (.int r)) hz 0 0) (e : bX2_read_18 f0 f v0 v2 h = some (r, hz)) : G X 3 18 [(0, .ref v0), (2, .int v2)] [] h 0 0 := by
  induction f generalizing v0 v2 h r hz with
  | zero => cases e
  | succ f1 ih =>
    unfold bX2_read_18 at e
    refine g_iload_n 1 o dX2_read_18 rfl rfl ?_
    refine g_bipush (v := 40) o dX2_read_19 (by decide) ?_
    refine g_icmp_gt (x := v2) (y := 40) 59 o dX2_read_21 (by decide) (fun u => ?_) (fun u => ?_)
    · rw [if_pos u] at e
      refine g_sb [0] rfl ?_
      exact kX2_read_59 f0 o v0 h r hz q e
    · rw [if_neg u] at e
      refine g_aload_n 0 o dX2_read_24 rfl rfl ?_
      obtain ⟨x25, q25, e⟩ := ob e
      refine g_getN 0 o cf2 (by decide) mw_243 dX2_read_25 q25 ?_
      obtain ⟨x28, q28, e⟩ := ob e
      refine g_getI 5 o cf4 (by decide) mw_89 dX2_read_28 q28 ?_
      refine g_if_eq (x := x28) 59 o dX2_read_31 (by decide) (fun u => ?_) (fun u => ?_)
      · rw [if_pos u] at e
        refine g_sb [0] rfl ?_
        exact kX2_read_59 f0 o v0 h r hz q e
      · rw [if_neg u] at e
        refine g_aload_n 0 o dX2_read_34 rfl rfl ?_
        obtain ⟨_, k35, e⟩ := ob e
        obtain ⟨x35, h35, q35, e⟩ := ob2_s e
        refine g_callVv [] o (mX2_readLine q35) cf2 (ckO_s k35) mw_716 mw_717 mw_1704 mw_12 mw_718 rfl yo_X2_readLine rfl rfl (Nat.le_of_ble_eq_true rfl) ⟨by decide, by decide⟩ ⟨rfl, rfl⟩ dX2_read_35 ⟨by decide, by decide⟩ ?_
        refine g_if_ne (x := x35) 43 o dX2_read_38 (by decide) (fun u => ?_) (fun u => ?_)
        · rw [if_neg u] at e
          refine g_aload_n 0 o dX2_read_43 rfl rfl ?_
          refine g_dup o dX2_read_44 rfl ?_
          obtain ⟨x45, q45, e⟩ := ob e
          refine g_getI 5 o cf2 (by decide) mw_248 dX2_read_45 q45 ?_
          refine g_iconst (v := 1) o dX2_read_48 (by decide) ?_
          refine g_iadd (x := x45) (y := 1) o dX2_read_49 ?_
          obtain ⟨h50, q50, e⟩ := ob e
          refine g_put (ty1 := .int) 5 o cf2 (by decide) mw_248 rfl (by decide +kernel) rfl rfl dX2_read_50 q50 ?_
          refine g_iinc (k := 1) (v := (v2 + 1)) [(2, .int (v2 + 1)), (0, .ref v0)] o dX2_read_53 rfl rfl (by decide) rfl ?_
          refine g_goto 18 o dX2_read_56 (by decide) ?_
          refine g_sb [1, 0] rfl ?_
          exact ih v0 (v2 + 1) h50 r hz q e
        · rw [if_pos u] at e
          refine g_iconst (v := 0) o dX2_read_41 (by decide) ?_
          exact g_zret o dX2_read_42 (zr_s e).1 (rt_v q (zr_s e).2)
theorem yo_X2_read : yok yX2_read 1 := ⟨by decide, by decide, by decide +kernel⟩
set_option maxRecDepth 100000 in
set_option maxHeartbeats 4000000 in
theorem mX2_read {l : Launch} {D : va_G} {cy : Nat → ClassId} {f0 : Nat} {a : Nat} {p0 : Int32} {h : Hp} {r : Int32} {hz : Hp} (e : fX2_read f0 a p0 h = some (r, hz)) : MC l D cy yX2_read cX2_read 3 (some .boolean) rmX2_read [.ref a, .int p0] h (some (.int r)) hz := by
  refine mc_of2 (by decide) (Nat.le_of_ble_eq_true rfl) (fun X hl hD hy hin o q => ?_)
  subst hl; subst hD; subst hy
  show G X 3 0 [(0, .ref a), (1, .int p0)] [] h 0 0
  unfold fX2_read at e
  refine g_aload_n 0 o dX2_read_0 rfl rfl ?_
  obtain ⟨x1, q1, e⟩ := ob e
  refine g_getN 0 o cf2 (by decide) mw_243 dX2_read_1 q1 ?_
  refine g_iload_n 1 o dX2_read_4 rfl rfl ?_
  refine g_sipush (v := 400) o dX2_read_5 (by decide) ?_
  obtain ⟨_, k8, e⟩ := ob e
  obtain ⟨h8, q8, e⟩ := ob e
  refine g_callV0 [.int p0, .int 400] o (mX4_open q8) cf4 (ckO_s k8) mw_715 mw_423 mw_424 mw_2 mw_425 rfl yo_X4_open rfl rfl (Nat.le_of_ble_eq_true rfl) ⟨by decide, by decide⟩ ⟨rfl, rfl⟩ dX2_read_8 ⟨by decide, by decide⟩ ?_
  refine g_aload_n 0 o dX2_read_11 rfl rfl ?_
  refine g_iconst (v := 0) o dX2_read_12 (by decide) ?_
  obtain ⟨h13, q13, e⟩ := ob e
  refine g_put (ty1 := .int) 5 o cf2 (by decide) mw_248 rfl (by decide +kernel) rfl rfl dX2_read_13 q13 ?_
  refine g_iconst (v := 0) o dX2_read_16 (by decide) ?_
  refine g_istore_n [(2, .int 0), (0, .ref a), (1, .int p0)] o dX2_read_17 rfl (by decide) rfl ?_
  refine g_sb [1, 0] rfl ?_
  exact kX2_read_18 f0 o f0 a 0 h13 r hz q e
theorem yo_X10_copyFrom : yok yX10_copyFrom 1 := ⟨by decide, by decide, by decide +kernel⟩
set_option maxRecDepth 100000 in
set_option maxHeartbeats 4000000 in
theorem mX10_copyFrom {l : Launch} {D : va_G} {cy : Nat → ClassId} {f0 : Nat} {a : Nat} {p0 : Nat} {h : Hp} {hz : Hp} (e : fX10_copyFrom f0 a p0 h = some hz) : MC l D cy yX10_copyFrom cX10_copyFrom 2 none rmX10_copyFrom [.ref a, .ref p0] h none hz := by
  refine mc_of2 (by decide) (Nat.le_of_ble_eq_true rfl) (fun X hl hD hy hin o q => ?_)
  subst hl; subst hD; subst hy
  show G X 2 0 [(0, .ref a), (1, .ref p0)] [] h 0 0
  unfold fX10_copyFrom at e
  refine g_aload_n 0 o dX10_copyFrom_0 rfl rfl ?_
  refine g_aload_n 1 o dX10_copyFrom_1 rfl rfl ?_
  obtain ⟨x2, q2, e⟩ := ob e
  refine g_getI 1 o cf10 (by decide) mw_278 dX10_copyFrom_2 q2 ?_
  obtain ⟨h5, q5, e⟩ := ob e
  refine g_put (ty1 := .int) 1 o cf10 (by decide) mw_278 rfl (by decide +kernel) rfl rfl dX10_copyFrom_5 q5 ?_
  refine g_aload_n 0 o dX10_copyFrom_8 rfl rfl ?_
  refine g_aload_n 1 o dX10_copyFrom_9 rfl rfl ?_
  obtain ⟨x10, q10, e⟩ := ob e
  refine g_getI 2 o cf10 (by decide) mw_281 dX10_copyFrom_10 q10 ?_
  obtain ⟨h13, q13, e⟩ := ob e
  refine g_put (ty1 := .int) 2 o cf10 (by decide) mw_281 rfl (by decide +kernel) rfl rfl dX10_copyFrom_13 q13 ?_
  refine g_aload_n 0 o dX10_copyFrom_16 rfl rfl ?_
  refine g_aload_n 1 o dX10_copyFrom_17 rfl rfl ?_
  obtain ⟨x18, q18, e⟩ := ob e
  refine g_getI 3 o cf10 (by decide) mw_284 dX10_copyFrom_18 q18 ?_
  obtain ⟨h21, q21, e⟩ := ob e
  refine g_put (ty1 := .int) 3 o cf10 (by decide) mw_284 rfl (by decide +kernel) rfl rfl dX10_copyFrom_21 q21 ?_
  refine g_aload_n 0 o dX10_copyFrom_24 rfl rfl ?_
  refine g_aload_n 1 o dX10_copyFrom_25 rfl rfl ?_
  obtain ⟨x26, q26, e⟩ := ob e
  refine g_getI 4 o cf10 (by decide) mw_286 dX10_copyFrom_26 q26 ?_
  obtain ⟨h29, q29, e⟩ := ob e
  refine g_put (ty1 := .int) 4 o cf10 (by decide) mw_286 rfl (by decide +kernel) rfl rfl dX10_copyFrom_29 q29 ?_
  refine g_aload_n 0 o dX10_copyFrom_32 rfl rfl ?_
  refine g_aload_n 1 o dX10_copyFrom_33 rfl rfl ?_
  obtain ⟨x34, q34, e⟩ := ob e
  refine g_getI 5 o cf10 (by decide) mw_288 dX10_copyFrom_34 q34 ?_
  obtain ⟨h37, q37, e⟩ := ob e
  refine g_put (ty1 := .int) 5 o cf10 (by decide) mw_288 rfl (by decide +kernel) rfl rfl dX10_copyFrom_37 q37 ?_
  refine g_aload_n 0 o dX10_copyFrom_40 rfl rfl ?_
  refine g_aload_n 1 o dX10_copyFrom_41 rfl rfl ?_
  obtain ⟨x42, q42, e⟩ := ob e
  refine g_getI 6 o cf10 (by decide) mw_290 dX10_copyFrom_42 q42 ?_
  obtain ⟨h45, q45, e⟩ := ob e
  refine g_put (ty1 := .boolean) 6 o cf10 (by decide) mw_290 rfl (by decide +kernel) (nar_z (pfZ_s q45).1).1 (nar_z (pfZ_s q45).1).2 dX10_copyFrom_45 (pfZ_s q45).2 ?_
  refine g_aload_n 0 o dX10_copyFrom_48 rfl rfl ?_
  refine g_aload_n 1 o dX10_copyFrom_49 rfl rfl ?_
  obtain ⟨x50, q50, e⟩ := ob e
  refine g_getI 7 o cf10 (by decide) mw_293 dX10_copyFrom_50 q50 ?_
  obtain ⟨h53, q53, e⟩ := ob e
  refine g_put (ty1 := .int) 7 o cf10 (by decide) mw_293 rfl (by decide +kernel) rfl rfl dX10_copyFrom_53 q53 ?_
  refine g_aload_n 0 o dX10_copyFrom_56 rfl rfl ?_
  refine g_aload_n 1 o dX10_copyFrom_57 rfl rfl ?_
  obtain ⟨x58, q58, e⟩ := ob e
  refine g_getI 8 o cf10 (by decide) mw_295 dX10_copyFrom_58 q58 ?_
  obtain ⟨h61, q61, e⟩ := ob e
  refine g_put (ty1 := .int) 8 o cf10 (by decide) mw_295 rfl (by decide +kernel) rfl rfl dX10_copyFrom_61 q61 ?_
  refine g_aload_n 1 o dX10_copyFrom_64 rfl rfl ?_
  obtain ⟨x65, q65, e⟩ := ob e
  refine g_getN 9 o cf10 (by decide) mw_297 dX10_copyFrom_65 q65 ?_
  refine g_iconst (v := 0) o dX10_copyFrom_68 (by decide) ?_
  refine g_aload_n 0 o dX10_copyFrom_69 rfl rfl ?_
  obtain ⟨x70, q70, e⟩ := ob e
  refine g_getN 9 o cf10 (by decide) mw_297 dX10_copyFrom_70 q70 ?_
  refine g_iconst (v := 0) o dX10_copyFrom_73 (by decide) ?_
  refine g_bipush (v := 8) o dX10_copyFrom_74 (by decide) ?_
  obtain ⟨h76, q76, e⟩ := ob e
  refine g_cpI (t := 1) (ty := FieldType.int) rfl rfl (fun _ => rfl) o mw_354 mw_356 mw_355 mw_17 ⟨by decide, Nat.le_of_ble_eq_true rfl⟩ dX10_copyFrom_76 q76 ?_
  refine g_aload_n 1 o dX10_copyFrom_79 rfl rfl ?_
  obtain ⟨x80, q80, e⟩ := ob e
  refine g_getN 10 o cf10 (by decide) mw_299 dX10_copyFrom_80 q80 ?_
  refine g_iconst (v := 0) o dX10_copyFrom_83 (by decide) ?_
  refine g_aload_n 0 o dX10_copyFrom_84 rfl rfl ?_
  obtain ⟨x85, q85, e⟩ := ob e
  refine g_getN 10 o cf10 (by decide) mw_299 dX10_copyFrom_85 q85 ?_
  refine g_iconst (v := 0) o dX10_copyFrom_88 (by decide) ?_
  refine g_bipush (v := 8) o dX10_copyFrom_89 (by decide) ?_
  obtain ⟨h91, q91, e⟩ := ob e
  refine g_cpI (t := 1) (ty := FieldType.int) rfl rfl (fun _ => rfl) o mw_354 mw_356 mw_355 mw_17 ⟨by decide, Nat.le_of_ble_eq_true rfl⟩ dX10_copyFrom_91 q91 ?_
  refine g_aload_n 1 o dX10_copyFrom_94 rfl rfl ?_
  obtain ⟨x95, q95, e⟩ := ob e
  refine g_getN 11 o cf10 (by decide) mw_300 dX10_copyFrom_95 q95 ?_
  refine g_iconst (v := 0) o dX10_copyFrom_98 (by decide) ?_
  refine g_aload_n 0 o dX10_copyFrom_99 rfl rfl ?_
  obtain ⟨x100, q100, e⟩ := ob e
  refine g_getN 11 o cf10 (by decide) mw_300 dX10_copyFrom_100 q100 ?_
  refine g_iconst (v := 0) o dX10_copyFrom_103 (by decide) ?_
  refine g_bipush (v := 8) o dX10_copyFrom_104 (by decide) ?_
  obtain ⟨h106, q106, e⟩ := ob e
  refine g_cpI (t := 1) (ty := FieldType.int) rfl rfl (fun _ => rfl) o mw_354 mw_356 mw_355 mw_17 ⟨by decide, Nat.le_of_ble_eq_true rfl⟩ dX10_copyFrom_106 q106 ?_
  refine g_aload_n 1 o dX10_copyFrom_109 rfl rfl ?_
  obtain ⟨x110, q110, e⟩ := ob e
  refine g_getN 12 o cf10 (by decide) mw_302 dX10_copyFrom_110 q110 ?_
  refine g_iconst (v := 0) o dX10_copyFrom_113 (by decide) ?_
  refine g_aload_n 0 o dX10_copyFrom_114 rfl rfl ?_
  obtain ⟨x115, q115, e⟩ := ob e
  refine g_getN 12 o cf10 (by decide) mw_302 dX10_copyFrom_115 q115 ?_
  refine g_iconst (v := 0) o dX10_copyFrom_118 (by decide) ?_
  refine g_bipush (v := 64) o dX10_copyFrom_119 (by decide) ?_
  obtain ⟨h121, q121, e⟩ := ob e
  refine g_cpI (t := 1) (ty := FieldType.int) rfl rfl (fun _ => rfl) o mw_354 mw_356 mw_355 mw_17 ⟨by decide, Nat.le_of_ble_eq_true rfl⟩ dX10_copyFrom_121 q121 ?_
  exact g_vret o dX10_copyFrom_124 (rt_0 q e)
theorem yo_X10_allMen : yok yX10_allMen 0 := ⟨by decide, by decide, by decide +kernel⟩
set_option maxRecDepth 100000 in
set_option maxHeartbeats 4000000 in
theorem mX10_allMen {l : Launch} {D : va_G} {cy : Nat → ClassId} {f0 : Nat} {a : Nat} {h : Hp} {r : Int32} {hz : Hp} (e : fX10_allMen f0 a h = some (r, hz)) : MC l D cy yX10_allMen cX10_allMen 1 (some .int) rmX10_allMen [.ref a] h (some (.int r)) hz := by
  refine mc_of2 (by decide) (Nat.le_of_ble_eq_true rfl) (fun X hl hD hy hin o q => ?_)
  subst hl; subst hD; subst hy
  show G X 1 0 [(0, .ref a)] [] h 0 0
  unfold fX10_allMen at e
  refine g_iconst (v := 1) o dX10_allMen_0 (by decide) ?_
  refine g_aload_n 0 o dX10_allMen_1 rfl rfl ?_
  obtain ⟨x2, q2, e⟩ := ob e
  refine g_getN 0 o cf10 (by decide) mw_276 dX10_allMen_2 q2 ?_
  obtain ⟨x5, q5, e⟩ := ob e
  refine g_getN 1 o cf6 (by decide) mw_144 dX10_allMen_5 q5 ?_
  refine g_iconst (v := 5) o dX10_allMen_8 (by decide) ?_
  obtain ⟨x9, q9, e⟩ := ob e
  refine g_iald o dX10_allMen_9 q9 ?_
  refine g_ishl (x := (1 : Int32)) (y := x9) o dX10_allMen_10 ?_
  refine g_iconst (v := 1) o dX10_allMen_11 (by decide) ?_
  refine g_isub (x := ((1 : Int32) <<< (x9 &&& 31))) (y := 1) o dX10_allMen_12 ?_
  exact g_iret o dX10_allMen_13 (rt_v q e)
set_option maxRecDepth 100000 in
set_option maxHeartbeats 4000000 in
theorem kX10_knowers_36 {X : Cx} (f0 : Nat) (g5 : Nat → Int32 → Int32 → Int32 → Int32 → Hp → Option (Int32 × Hp)) (i5 : ∀ (v02 : Nat) (v12 : Int32) (v22 : Int32) (v32 : Int32) (v42 : Int32) (h2 : Hp) (r : Int32) (hz : Hp), Rt X (some (.int r)) hz 0 0 → g5 v02 v12 v22 v32 v42 h2 = some (r, hz) → G X 5 5 [(0, .ref v02), (1, .int v12), (2, .int v22), (3, .int v32), (4, .int v42)] [] h2 0 0) (o : Ok X cX10_knowers RX10 5 rmX10_knowers (some .int)) (v0 : Nat) (v1 : Int32) (v2 : Int32) (v3 : Int32) (v4 : Int32) (h : Hp) (r : Int32) (hz : Hp) (q : Rt X (some (.int r)) hz 0 0) (e : bX10_knowers_36 f0 g5 v0 v1 v2 v3 v4 h = some (r, hz)) : G X 5 36 [(0, .ref v0), (1, .int v1), (2, .int v2), (3, .int v3), (4, .int v4)] [] h 0 0 := by
  unfold bX10_knowers_36 at e
  refine g_iinc (k := 4) (v := (v4 + 1)) [(4, .int (v4 + 1)), (0, .ref v0), (1, .int v1), (2, .int v2), (3, .int v3)] o dX10_knowers_36 rfl rfl (by decide) rfl ?_
  refine g_goto 5 o dX10_knowers_39 (by decide) ?_
  refine g_sb [1, 2, 3, 4, 0] rfl ?_
  exact i5 v0 v1 v2 v3 (v4 + 1) h r hz q e
set_option maxRecDepth 100000 in
set_option maxHeartbeats 4000000 in
theorem kX10_knowers_5 {X : Cx} (f0 : Nat) (o : Ok X cX10_knowers RX10 5 rmX10_knowers (some .int)) (f : Nat) (v0 : Nat) (v1 : Int32) (v2 : Int32) (v3 : Int32) (v4 : Int32) (h : Hp) (r : Int32) (hz : Hp) (q : Rt X (some (.int r)) hz 0 0) (e : bX10_knowers_5 f0 f v0 v1 v2 v3 v4 h = some (r, hz)) : G X 5 5 [(0, .ref v0), (1, .int v1), (2, .int v2), (3, .int v3), (4, .int v4)] [] h 0 0 := by
  induction f generalizing v0 v1 v2 v3 v4 h r hz with
  | zero => cases e
  | succ f1 ih =>
    unfold bX10_knowers_5 at e
    refine g_iload 4 o dX10_knowers_5 rfl ?_
    refine g_bipush (v := 8) o dX10_knowers_7 (by decide) ?_
    refine g_icmp_ge (x := v4) (y := 8) 42 o dX10_knowers_9 (by decide) (fun u => ?_) (fun u => ?_)
    · rw [if_pos u] at e
      refine g_iload_n 3 o dX10_knowers_42 rfl rfl ?_
      exact g_iret o dX10_knowers_43 (rt_v q e)
    · rw [if_neg u] at e
      refine g_iload_n 2 o dX10_knowers_12 rfl rfl ?_
      refine g_iload 4 o dX10_knowers_13 rfl ?_
      refine g_ishr (x := v2) (y := v4) o dX10_knowers_15 ?_
      refine g_iconst (v := 1) o dX10_knowers_16 (by decide) ?_
      refine g_iand (x := (v2 >>> (v4 &&& 31))) (y := 1) o dX10_knowers_17 ?_
      refine g_if_eq (x := ((v2 >>> (v4 &&& 31)) &&& 1)) 36 o dX10_knowers_18 (by decide) (fun u => ?_) (fun u => ?_)
      · rw [if_pos u] at e
        exact kX10_knowers_36 f0 (bX10_knowers_5 f0 f1) ih o v0 v1 v2 v3 v4 h r hz q e
      · rw [if_neg u] at e
        refine g_aload_n 0 o dX10_knowers_21 rfl rfl ?_
        obtain ⟨x22, q22, e⟩ := ob e
        refine g_getN 11 o cf10 (by decide) mw_300 dX10_knowers_22 q22 ?_
        refine g_iload 4 o dX10_knowers_25 rfl ?_
        obtain ⟨x27, q27, e⟩ := ob e
        refine g_iald o dX10_knowers_27 q27 ?_
        refine g_iload_n 1 o dX10_knowers_28 rfl rfl ?_
        refine g_iand (x := x27) (y := v1) o dX10_knowers_29 ?_
        refine g_if_eq (x := (x27 &&& v1)) 36 o dX10_knowers_30 (by decide) (fun u => ?_) (fun u => ?_)
        · rw [if_pos u] at e
          exact kX10_knowers_36 f0 (bX10_knowers_5 f0 f1) ih o v0 v1 v2 v3 v4 h r hz q e
        · rw [if_neg u] at e
          refine g_iinc (k := 3) (v := (v3 + 1)) [(3, .int (v3 + 1)), (0, .ref v0), (1, .int v1), (2, .int v2), (4, .int v4)] o dX10_knowers_33 rfl rfl (by decide) rfl ?_
          refine g_sb [1, 2, 3, 0, 4] rfl ?_
          exact kX10_knowers_36 f0 (bX10_knowers_5 f0 f1) ih o v0 v1 v2 (v3 + 1) v4 h r hz q e
theorem yo_X10_knowers : yok yX10_knowers 2 := ⟨by decide, by decide, by decide +kernel⟩
set_option maxRecDepth 100000 in
set_option maxHeartbeats 4000000 in
theorem mX10_knowers {l : Launch} {D : va_G} {cy : Nat → ClassId} {f0 : Nat} {a : Nat} {p0 : Int32} {p1 : Int32} {h : Hp} {r : Int32} {hz : Hp} (e : fX10_knowers f0 a p0 p1 h = some (r, hz)) : MC l D cy yX10_knowers cX10_knowers 5 (some .int) rmX10_knowers [.ref a, .int p0, .int p1] h (some (.int r)) hz := by
  refine mc_of2 (by decide) (Nat.le_of_ble_eq_true rfl) (fun X hl hD hy hin o q => ?_)
  subst hl; subst hD; subst hy
  show G X 5 0 [(0, .ref a), (1, .int p0), (2, .int p1)] [] h 0 0
  unfold fX10_knowers at e
  refine g_iconst (v := 0) o dX10_knowers_0 (by decide) ?_
  refine g_istore_n [(3, .int 0), (0, .ref a), (1, .int p0), (2, .int p1)] o dX10_knowers_1 rfl (by decide) rfl ?_
  refine g_iconst (v := 0) o dX10_knowers_2 (by decide) ?_
  refine g_istore [(4, .int 0), (3, .int 0), (0, .ref a), (1, .int p0), (2, .int p1)] o dX10_knowers_3 (by decide) rfl ?_
  refine g_sb [2, 3, 4, 1, 0] rfl ?_
  exact kX10_knowers_5 f0 o f0 a p0 p1 0 0 h r hz q e
set_option maxRecDepth 100000 in
set_option maxHeartbeats 4000000 in
theorem kX10_lacking_5 {X : Cx} (f0 : Nat) (o : Ok X cX10_lacking RX10 5 rmX10_lacking (some .int)) (f : Nat) (v0 : Nat) (v1 : Int32) (v2 : Int32) (v3 : Int32) (v4 : Int32) (h : Hp) (r : Int32) (hz : Hp) (q : Rt X (some (.int r)) hz 0 0) (e : bX10_lacking_5 f0 f v0 v1 v2 v3 v4 h = some (r, hz)) : G X 5 5 [(0, .ref v0), (1, .int v1), (2, .int v2), (3, .int v3), (4, .int v4)] [] h 0 0 := by
  induction f generalizing v0 v1 v2 v3 v4 h r hz with
  | zero => cases e
  | succ f1 ih =>
    unfold bX10_lacking_5 at e
    refine g_iload 4 o dX10_lacking_5 rfl ?_
    refine g_if_le (x := v4) 39 o dX10_lacking_7 (by decide) (fun u => ?_) (fun u => ?_)
    · rw [if_pos u] at e
      refine g_iload_n 3 o dX10_lacking_39 rfl rfl ?_
      exact g_iret o dX10_lacking_40 (rt_v q e)
    · rw [if_neg u] at e
      refine g_iload_n 3 o dX10_lacking_10 rfl rfl ?_
      refine g_iload 4 o dX10_lacking_11 rfl ?_
      obtain ⟨x13, h13, q13, e⟩ := ob2_s e
      refine g_callSv [.int v4] o (mJ6_bitCount_0f7a4 q13) mw_755 mw_698 mw_25 mw_699 yo_J6_bitCount_0f7a4 rfl rfl (Nat.le_of_ble_eq_true rfl) ⟨by decide, by decide⟩ ⟨rfl, rfl⟩ dX10_lacking_13 ⟨by decide, by decide⟩ ?_
      refine g_aload_n 0 o dX10_lacking_16 rfl rfl ?_
      refine g_iload 4 o dX10_lacking_17 rfl ?_
      refine g_iload_n 2 o dX10_lacking_19 rfl rfl ?_
      obtain ⟨_, k20, e⟩ := ob e
      obtain ⟨x20, h20, q20, e⟩ := ob2_s e
      refine g_callVv [.int v4, .int v2] o (mX10_knowers q20) cf10 (ckO_s k20) mw_756 mw_757 mw_1708 mw_13 mw_758 rfl yo_X10_knowers rfl rfl (Nat.le_of_ble_eq_true rfl) ⟨by decide, by decide⟩ ⟨rfl, rfl⟩ dX10_lacking_20 ⟨by decide, by decide⟩ ?_
      refine g_isub (x := x13) (y := x20) o dX10_lacking_23 ?_
      refine g_mmax (x := v3) (y := (x13 - x20)) o mw_759 mw_450 mw_18 mw_451 ⟨by decide, Nat.le_of_ble_eq_true rfl⟩ ⟨by decide, by decide⟩ dX10_lacking_24 ?_
      refine g_istore_n [(3, .int (if v3 < (x13 - x20) then (x13 - x20) else v3)), (0, .ref v0), (1, .int v1), (2, .int v2), (4, .int v4)] o dX10_lacking_27 rfl (by decide) rfl ?_
      refine g_iload 4 o dX10_lacking_28 rfl ?_
      refine g_iconst (v := 1) o dX10_lacking_30 (by decide) ?_
      refine g_isub (x := v4) (y := 1) o dX10_lacking_31 ?_
      refine g_iload_n 2 o dX10_lacking_32 rfl rfl ?_
      refine g_iand (x := (v4 - 1)) (y := v1) o dX10_lacking_33 ?_
      refine g_istore [(4, .int ((v4 - 1) &&& v1)), (3, .int (if v3 < (x13 - x20) then (x13 - x20) else v3)), (0, .ref v0), (1, .int v1), (2, .int v2)] o dX10_lacking_34 (by decide) rfl ?_
      refine g_goto 5 o dX10_lacking_36 (by decide) ?_
      refine g_sb [2, 3, 4, 1, 0] rfl ?_
      exact ih v0 v1 v2 (if v3 < (x13 - x20) then (x13 - x20) else v3) ((v4 - 1) &&& v1) h20 r hz q e
theorem yo_X10_lacking : yok yX10_lacking 2 := ⟨by decide, by decide, by decide +kernel⟩
set_option maxRecDepth 100000 in
set_option maxHeartbeats 4000000 in
theorem mX10_lacking {l : Launch} {D : va_G} {cy : Nat → ClassId} {f0 : Nat} {a : Nat} {p0 : Int32} {p1 : Int32} {h : Hp} {r : Int32} {hz : Hp} (e : fX10_lacking f0 a p0 p1 h = some (r, hz)) : MC l D cy yX10_lacking cX10_lacking 5 (some .int) rmX10_lacking [.ref a, .int p0, .int p1] h (some (.int r)) hz := by
  refine mc_of2 (by decide) (Nat.le_of_ble_eq_true rfl) (fun X hl hD hy hin o q => ?_)
  subst hl; subst hD; subst hy
  show G X 5 0 [(0, .ref a), (1, .int p0), (2, .int p1)] [] h 0 0
  unfold fX10_lacking at e
  refine g_iconst (v := 0) o dX10_lacking_0 (by decide) ?_
  refine g_istore_n [(3, .int 0), (0, .ref a), (1, .int p0), (2, .int p1)] o dX10_lacking_1 rfl (by decide) rfl ?_
  refine g_iload_n 2 o dX10_lacking_2 rfl rfl ?_
  refine g_istore [(4, .int p0), (3, .int 0), (0, .ref a), (1, .int p0), (2, .int p1)] o dX10_lacking_3 (by decide) rfl ?_
  refine g_sb [2, 3, 4, 1, 0] rfl ?_
  exact kX10_lacking_5 f0 o f0 a p0 p1 0 p0 h r hz q e
theorem yo_X10_isLate : yok yX10_isLate 1 := ⟨by decide, by decide, by decide +kernel⟩
set_option maxRecDepth 100000 in
set_option maxHeartbeats 4000000 in
theorem mX10_isLate {l : Launch} {D : va_G} {cy : Nat → ClassId} {f0 : Nat} {a : Nat} {p0 : Int32} {h : Hp} {r : Int32} {hz : Hp} (e : fX10_isLate f0 a p0 h = some (r, hz)) : MC l D cy yX10_isLate cX10_isLate 2 (some .boolean) rmX10_isLate [.ref a, .int p0] h (some (.int r)) hz := by
  refine mc_of2 (by decide) (Nat.le_of_ble_eq_true rfl) (fun X hl hD hy hin o q => ?_)
  subst hl; subst hD; subst hy
  show G X 2 0 [(0, .ref a), (1, .int p0)] [] h 0 0
  unfold fX10_isLate at e
  refine g_aload_n 0 o dX10_isLate_0 rfl rfl ?_
  obtain ⟨x1, q1, e⟩ := ob e
  refine g_getI 1 o cf10 (by decide) mw_278 dX10_isLate_1 q1 ?_
  refine g_iload_n 1 o dX10_isLate_4 rfl rfl ?_
  refine g_iadd (x := x1) (y := p0) o dX10_isLate_5 ?_
  refine g_sipush (v := 999) o dX10_isLate_6 (by decide) ?_
  refine g_icmp_le (x := (x1 + p0)) (y := 999) 16 o dX10_isLate_9 (by decide) (fun u => ?_) (fun u => ?_)
  · rw [if_pos u] at e
    refine g_iconst (v := 0) o dX10_isLate_16 (by decide) ?_
    exact g_zret o dX10_isLate_17 (zr_s e).1 (rt_v q (zr_s e).2)
  · rw [if_neg u] at e
    refine g_iconst (v := 1) o dX10_isLate_12 (by decide) ?_
    refine g_goto 17 o dX10_isLate_13 (by decide) ?_
    exact g_zret o dX10_isLate_17 (zr_s e).1 (rt_v q (zr_s e).2)
theorem yo_X10_paintAs : yok yX10_paintAs 1 := ⟨by decide, by decide, by decide +kernel⟩
set_option maxRecDepth 100000 in
set_option maxHeartbeats 4000000 in
theorem mX10_paintAs {l : Launch} {D : va_G} {cy : Nat → ClassId} {f0 : Nat} {a : Nat} {p0 : Int32} {h : Hp} {r : Int32} {hz : Hp} (e : fX10_paintAs f0 a p0 h = some (r, hz)) : MC l D cy yX10_paintAs cX10_paintAs 2 (some .int) rmX10_paintAs [.ref a, .int p0] h (some (.int r)) hz := by
  refine mc_of2 (by decide) (Nat.le_of_ble_eq_true rfl) (fun X hl hD hy hin o q => ?_)
  subst hl; subst hD; subst hy
  show G X 2 0 [(0, .ref a), (1, .int p0)] [] h 0 0
  unfold fX10_paintAs at e
  refine g_aload_n 0 o dX10_paintAs_0 rfl rfl ?_
  obtain ⟨_, k1, e⟩ := ob e
  obtain ⟨x1, h1, q1, e⟩ := ob2_s e
  refine g_callVv [] o (mX10_canAct q1) cf10 (ckO_s k1) mw_661 mw_662 mw_663 mw_13 mw_664 rfl yo_X10_canAct rfl rfl (Nat.le_of_ble_eq_true rfl) ⟨by decide, by decide⟩ ⟨rfl, rfl⟩ dX10_paintAs_1 ⟨by decide, by decide⟩ ?_
  refine g_if_ne (x := x1) 9 o dX10_paintAs_4 (by decide) (fun u => ?_) (fun u => ?_)
  · rw [if_neg u] at e
    refine g_aload_n 0 o dX10_paintAs_9 rfl rfl ?_
    obtain ⟨x10, q10, e⟩ := ob e
    refine g_getI 3 o cf10 (by decide) mw_284 dX10_paintAs_10 q10 ?_
    refine g_iload_n 1 o dX10_paintAs_13 rfl rfl ?_
    refine g_icmp_ne (x := x10) (y := p0) 19 o dX10_paintAs_14 (by decide) (fun u => ?_) (fun u => ?_)
    · rw [if_neg u] at e
      refine g_aload_n 0 o dX10_paintAs_19 rfl rfl ?_
      refine g_aload_n 0 o dX10_paintAs_20 rfl rfl ?_
      obtain ⟨x21, q21, e⟩ := ob e
      refine g_getN 0 o cf10 (by decide) mw_276 dX10_paintAs_21 q21 ?_
      obtain ⟨x24, q24, e⟩ := ob e
      refine g_getN 10 o cf6 (by decide) mw_174 dX10_paintAs_24 q24 ?_
      refine g_iload_n 1 o dX10_paintAs_27 rfl rfl ?_
      obtain ⟨x28, q28, e⟩ := ob e
      refine g_iald o dX10_paintAs_28 q28 ?_
      refine g_aload_n 0 o dX10_paintAs_29 rfl rfl ?_
      obtain ⟨_, k30, e⟩ := ob e
      obtain ⟨x30, h30, q30, e⟩ := ob2_s e
      refine g_callVv [] o (mX10_allMen q30) cf10 (ckO_s k30) mw_747 mw_748 mw_749 mw_13 mw_750 rfl yo_X10_allMen rfl rfl (Nat.le_of_ble_eq_true rfl) ⟨by decide, by decide⟩ ⟨rfl, rfl⟩ dX10_paintAs_30 ⟨by decide, by decide⟩ ?_
      obtain ⟨_, k33, e⟩ := ob e
      obtain ⟨x33, h33, q33, e⟩ := ob2_s e
      refine g_callVv [.int x28, .int x30] o (mX10_lacking q33) cf10 (ckO_s k33) mw_751 mw_752 mw_753 mw_13 mw_754 rfl yo_X10_lacking rfl rfl (Nat.le_of_ble_eq_true rfl) ⟨by decide, by decide⟩ ⟨rfl, rfl⟩ dX10_paintAs_33 ⟨by decide, by decide⟩ ?_
      refine g_if_le (x := x33) 41 o dX10_paintAs_36 (by decide) (fun u => ?_) (fun u => ?_)
      · rw [if_pos u] at e
        refine g_aload_n 0 o dX10_paintAs_41 rfl rfl ?_
        refine g_iconst (v := 1) o dX10_paintAs_42 (by decide) ?_
        obtain ⟨_, k43, e⟩ := ob e
        obtain ⟨x43, h43, q43, e⟩ := ob2_s e
        refine g_callVv [.int 1] o (mX10_isLate q43) cf10 (ckO_s k43) mw_760 mw_761 mw_1709 mw_13 mw_762 rfl yo_X10_isLate rfl rfl (Nat.le_of_ble_eq_true rfl) ⟨by decide, by decide⟩ ⟨rfl, rfl⟩ dX10_paintAs_43 ⟨by decide, by decide⟩ ?_
        refine g_if_eq (x := x43) 52 o dX10_paintAs_46 (by decide) (fun u => ?_) (fun u => ?_)
        · rw [if_pos u] at e
          refine g_aload_n 0 o dX10_paintAs_52 rfl rfl ?_
          refine g_dup o dX10_paintAs_53 rfl ?_
          obtain ⟨x54, q54, e⟩ := ob e
          refine g_getI 1 o cf10 (by decide) mw_278 dX10_paintAs_54 q54 ?_
          refine g_iconst (v := 1) o dX10_paintAs_57 (by decide) ?_
          refine g_iadd (x := x54) (y := 1) o dX10_paintAs_58 ?_
          obtain ⟨h59, q59, e⟩ := ob e
          refine g_put (ty1 := .int) 1 o cf10 (by decide) mw_278 rfl (by decide +kernel) rfl rfl dX10_paintAs_59 q59 ?_
          refine g_aload_n 0 o dX10_paintAs_62 rfl rfl ?_
          refine g_aload_n 0 o dX10_paintAs_63 rfl rfl ?_
          obtain ⟨x64, q64, e⟩ := ob e
          refine g_getI 3 o cf10 (by decide) mw_284 dX10_paintAs_64 q64 ?_
          obtain ⟨h67, q67, e⟩ := ob e
          refine g_put (ty1 := .int) 4 o cf10 (by decide) mw_286 rfl (by decide +kernel) rfl rfl dX10_paintAs_67 q67 ?_
          refine g_aload_n 0 o dX10_paintAs_70 rfl rfl ?_
          refine g_iload_n 1 o dX10_paintAs_71 rfl rfl ?_
          obtain ⟨h72, q72, e⟩ := ob e
          refine g_put (ty1 := .int) 3 o cf10 (by decide) mw_284 rfl (by decide +kernel) rfl rfl dX10_paintAs_72 q72 ?_
          refine g_aload_n 0 o dX10_paintAs_75 rfl rfl ?_
          refine g_dup o dX10_paintAs_76 rfl ?_
          obtain ⟨x77, q77, e⟩ := ob e
          refine g_getI 7 o cf10 (by decide) mw_293 dX10_paintAs_77 q77 ?_
          refine g_iconst (v := 1) o dX10_paintAs_80 (by decide) ?_
          refine g_iload_n 1 o dX10_paintAs_81 rfl rfl ?_
          refine g_ishl (x := (1 : Int32)) (y := p0) o dX10_paintAs_82 ?_
          refine g_ior (x := x77) (y := ((1 : Int32) <<< (p0 &&& 31))) o dX10_paintAs_83 ?_
          obtain ⟨h84, q84, e⟩ := ob e
          refine g_put (ty1 := .int) 7 o cf10 (by decide) mw_293 rfl (by decide +kernel) rfl rfl dX10_paintAs_84 q84 ?_
          refine g_iconst (v := 0) o dX10_paintAs_87 (by decide) ?_
          exact g_iret o dX10_paintAs_88 (rt_v q e)
        · rw [if_neg u] at e
          refine g_bipush (v := 9) o dX10_paintAs_49 (by decide) ?_
          exact g_iret o dX10_paintAs_51 (rt_v q e)
      · rw [if_neg u] at e
        refine g_iconst (v := 3) o dX10_paintAs_39 (by decide) ?_
        exact g_iret o dX10_paintAs_40 (rt_v q e)
    · rw [if_pos u] at e
      refine g_iconst (v := 2) o dX10_paintAs_17 (by decide) ?_
      exact g_iret o dX10_paintAs_18 (rt_v q e)
  · rw [if_pos u] at e
    refine g_iconst (v := 1) o dX10_paintAs_7 (by decide) ?_
    exact g_iret o dX10_paintAs_8 (rt_v q e)
set_option maxRecDepth 100000 in
set_option maxHeartbeats 4000000 in
theorem kX6_wantedForAt_4 {X : Cx} (f0 : Nat) (o : Ok X cX6_wantedForAt RX6 4 rmX6_wantedForAt (some .int)) (f : Nat) (v0 : Nat) (v1 : Int32) (v2 : Int32) (v3 : Int32) (h : Hp) (r : Int32) (hz : Hp) (q : Rt X (some (.int r)) hz 0 0) (e : bX6_wantedForAt_4 f0 f v0 v1 v2 v3 h = some (r, hz)) : G X 4 4 [(0, .ref v0), (1, .int v1), (2, .int v2), (3, .int v3)] [] h 0 0 := by
  induction f generalizing v0 v1 v2 v3 h r hz with
  | zero => cases e
  | succ f1 ih =>
    unfold bX6_wantedForAt_4 at e
    refine g_iload_n 3 o dX6_wantedForAt_4 rfl rfl ?_
    refine g_aload_n 0 o dX6_wantedForAt_5 rfl rfl ?_
    obtain ⟨x6, q6, e⟩ := ob e
    refine g_getN 1 o cf6 (by decide) mw_142 dX6_wantedForAt_6 q6 ?_
    refine g_iconst (v := 3) o dX6_wantedForAt_9 (by decide) ?_
    obtain ⟨x10, q10, e⟩ := ob e
    refine g_iald o dX6_wantedForAt_10 q10 ?_
    refine g_icmp_ge (x := v3) (y := x10) 34 o dX6_wantedForAt_11 (by decide) (fun u => ?_) (fun u => ?_)
    · rw [if_pos u] at e
      refine g_iload_n 2 o dX6_wantedForAt_34 rfl rfl ?_
      exact g_iret o dX6_wantedForAt_35 (rt_v q e)
    · rw [if_neg u] at e
      refine g_iload_n 2 o dX6_wantedForAt_14 rfl rfl ?_
      refine g_aload_n 0 o dX6_wantedForAt_15 rfl rfl ?_
      obtain ⟨x16, q16, e⟩ := ob e
      refine g_getN 5 o cf6 (by decide) mw_159 dX6_wantedForAt_16 q16 ?_
      refine g_iload_n 3 o dX6_wantedForAt_19 rfl rfl ?_
      refine g_bipush (v := 8) o dX6_wantedForAt_20 (by decide) ?_
      refine g_imul (x := v3) (y := 8) o dX6_wantedForAt_22 ?_
      refine g_iload_n 1 o dX6_wantedForAt_23 rfl rfl ?_
      refine g_iadd (x := (v3 * 8)) (y := v1) o dX6_wantedForAt_24 ?_
      obtain ⟨x25, q25, e⟩ := ob e
      refine g_iald o dX6_wantedForAt_25 q25 ?_
      refine g_iadd (x := v2) (y := x25) o dX6_wantedForAt_26 ?_
      refine g_istore_n [(2, .int (v2 + x25)), (0, .ref v0), (1, .int v1), (3, .int v3)] o dX6_wantedForAt_27 rfl (by decide) rfl ?_
      refine g_iinc (k := 3) (v := (v3 + 1)) [(3, .int (v3 + 1)), (2, .int (v2 + x25)), (0, .ref v0), (1, .int v1)] o dX6_wantedForAt_28 rfl rfl (by decide) rfl ?_
      refine g_goto 4 o dX6_wantedForAt_31 (by decide) ?_
      refine g_sb [2, 3, 1, 0] rfl ?_
      exact ih v0 v1 (v2 + x25) (v3 + 1) h r hz q e
theorem yo_X6_wantedForAt : yok yX6_wantedForAt 1 := ⟨by decide, by decide, by decide +kernel⟩
set_option maxRecDepth 100000 in
set_option maxHeartbeats 4000000 in
theorem mX6_wantedForAt {l : Launch} {D : va_G} {cy : Nat → ClassId} {f0 : Nat} {a : Nat} {p0 : Int32} {h : Hp} {r : Int32} {hz : Hp} (e : fX6_wantedForAt f0 a p0 h = some (r, hz)) : MC l D cy yX6_wantedForAt cX6_wantedForAt 4 (some .int) rmX6_wantedForAt [.ref a, .int p0] h (some (.int r)) hz := by
  refine mc_of2 (by decide) (Nat.le_of_ble_eq_true rfl) (fun X hl hD hy hin o q => ?_)
  subst hl; subst hD; subst hy
  show G X 4 0 [(0, .ref a), (1, .int p0)] [] h 0 0
  unfold fX6_wantedForAt at e
  refine g_iconst (v := 0) o dX6_wantedForAt_0 (by decide) ?_
  refine g_istore_n [(2, .int 0), (0, .ref a), (1, .int p0)] o dX6_wantedForAt_1 rfl (by decide) rfl ?_
  refine g_iconst (v := 0) o dX6_wantedForAt_2 (by decide) ?_
  refine g_istore_n [(3, .int 0), (2, .int 0), (0, .ref a), (1, .int p0)] o dX6_wantedForAt_3 rfl (by decide) rfl ?_
  refine g_sb [2, 3, 1, 0] rfl ?_
  exact kX6_wantedForAt_4 f0 o f0 a p0 0 0 h r hz q e
