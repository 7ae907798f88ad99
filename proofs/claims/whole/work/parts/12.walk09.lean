theorem yo_X12_canAct : yok yX12_canAct 0 := ⟨by decide, by decide, by decide +kernel⟩
set_option maxRecDepth 100000 in
set_option maxHeartbeats 4000000 in
theorem mX12_canAct {l : Launch} {D : va_G} {cy : Nat → ClassId} {f0 : Nat} {a : Nat} {h : Hp} {r : Int32} {hz : Hp} (e : fX12_canAct f0 a h = some (r, hz)) : MC l D cy yX12_canAct cX12_canAct 1 (some .boolean) rmX12_canAct [.ref a] h (some (.int r)) hz := by
  refine mc_of2 (by decide) (Nat.le_of_ble_eq_true rfl) (fun X hl hD hy hin o q => ?_)
  subst hl; subst hD; subst hy
  show G X 1 0 [(0, .ref a)] [] h 0 0
  unfold fX12_canAct at e
  refine g_aload_n 0 o dX12_canAct_0 rfl rfl ?_
  obtain ⟨_, k1, e⟩ := ob e
  obtain ⟨x1, h1, q1, e⟩ := ob2_s e
  refine g_callVv [] o (mX12_isSea q1) cf12 (ckO_s k1) mw_1173 mw_1174 mw_1725 mw_19 mw_1175 rfl yo_X12_isSea rfl rfl (Nat.le_of_ble_eq_true rfl) ⟨by decide, by decide⟩ ⟨rfl, rfl⟩ dX12_canAct_1 ⟨by decide, by decide⟩ ?_
  refine g_if_eq (x := x1) 22 o dX12_canAct_4 (by decide) (fun u => ?_) (fun u => ?_)
  · rw [if_pos u] at e
    refine g_iconst (v := 0) o dX12_canAct_22 (by decide) ?_
    exact g_zret o dX12_canAct_23 (zr_s e).1 (rt_v q (zr_s e).2)
  · rw [if_neg u] at e
    refine g_aload_n 0 o dX12_canAct_7 rfl rfl ?_
    obtain ⟨x8, q8, e⟩ := ob e
    refine g_getN 6 o cf12 (by decide) mw_1192 dX12_canAct_8 q8 ?_
    refine g_sipush (v := 317) o dX12_canAct_11 (by decide) ?_
    obtain ⟨x14, q14, e⟩ := ob e
    refine g_iald o dX12_canAct_14 q14 ?_
    refine g_if_ne (x := x14) 22 o dX12_canAct_15 (by decide) (fun u => ?_) (fun u => ?_)
    · rw [if_neg u] at e
      refine g_iconst (v := 0) o dX12_canAct_22 (by decide) ?_
      exact g_zret o dX12_canAct_23 (zr_s e).1 (rt_v q (zr_s e).2)
    · rw [if_pos u] at e
      refine g_iconst (v := 1) o dX12_canAct_18 (by decide) ?_
      refine g_goto 23 o dX12_canAct_19 (by decide) ?_
      exact g_zret o dX12_canAct_23 (zr_s e).1 (rt_v q (zr_s e).2)
theorem yo_X12_costOf : yok yX12_costOf 2 := ⟨by decide, by decide, by decide +kernel⟩
set_option maxRecDepth 100000 in
set_option maxHeartbeats 4000000 in
theorem mX12_costOf {l : Launch} {D : va_G} {cy : Nat → ClassId} {f0 : Nat} {a : Nat} {p0 : Int32} {p1 : Int32} {h : Hp} {r : Int32} {hz : Hp} (e : fX12_costOf f0 a p0 p1 h = some (r, hz)) : MC l D cy yX12_costOf cX12_costOf 3 (some .int) rmX12_costOf [.ref a, .int p0, .int p1] h (some (.int r)) hz := by
  refine mc_of2 (by decide) (Nat.le_of_ble_eq_true rfl) (fun X hl hD hy hin o q => ?_)
  subst hl; subst hD; subst hy
  show G X 3 0 [(0, .ref a), (1, .int p0), (2, .int p1)] [] h 0 0
  unfold fX12_costOf at e
  refine g_aload_n 0 o dX12_costOf_0 rfl rfl ?_
  obtain ⟨x1, q1, e⟩ := ob e
  refine g_getN 6 o cf12 (by decide) mw_1192 dX12_costOf_1 q1 ?_
  refine g_sipush (v := 328) o dX12_costOf_4 (by decide) ?_
  refine g_iload_n 1 o dX12_costOf_7 rfl rfl ?_
  refine g_iadd (x := (328 : Int32)) (y := p0) o dX12_costOf_8 ?_
  obtain ⟨x9, q9, e⟩ := ob e
  refine g_iald o dX12_costOf_9 q9 ?_
  refine g_aload_n 0 o dX12_costOf_10 rfl rfl ?_
  obtain ⟨x11, q11, e⟩ := ob e
  refine g_getN 24 o cf12 (by decide) mw_1210 dX12_costOf_11 q11 ?_
  refine g_iload_n 2 o dX12_costOf_14 rfl rfl ?_
  obtain ⟨x15, q15, e⟩ := ob e
  refine g_iald o dX12_costOf_15 q15 ?_
  obtain ⟨x16, h16, q16, e⟩ := ob2_s e
  refine g_callSv [.int x9, .int x15] o (mX12_bitOf q16) mw_1352 mw_1353 mw_19 mw_1354 yo_X12_bitOf rfl rfl (Nat.le_of_ble_eq_true rfl) ⟨by decide, by decide⟩ ⟨rfl, rfl⟩ dX12_costOf_16 ⟨by decide, by decide⟩ ?_
  refine g_if_eq (x := x16) 26 o dX12_costOf_19 (by decide) (fun u => ?_) (fun u => ?_)
  · rw [if_pos u] at e
    refine g_iconst (v := 1) o dX12_costOf_26 (by decide) ?_
    exact g_iret o dX12_costOf_27 (rt_v q e)
  · rw [if_neg u] at e
    refine g_iconst (v := 0) o dX12_costOf_22 (by decide) ?_
    refine g_goto 27 o dX12_costOf_23 (by decide) ?_
    exact g_iret o dX12_costOf_27 (rt_v q e)
set_option maxRecDepth 100000 in
set_option maxHeartbeats 4000000 in
theorem kX12_casts_57 {X : Cx} (f0 : Nat) (g7 : Nat → Int32 → Int32 → Hp → Option (Hp)) (i7 : ∀ (v02 : Nat) (v12 : Int32) (v22 : Int32) (h2 : Hp) (hz : Hp), Rt X none hz 0 0 → g7 v02 v12 v22 h2 = some hz → G X 6 7 [(0, .ref v02), (1, .int v12), (2, .int v22)] [] h2 0 0) (o : Ok X cX12_casts RX12 6 rmX12_casts none) (v0 : Nat) (v1 : Int32) (v2 : Int32) (h : Hp) (hz : Hp) (q : Rt X none hz 0 0) (e : bX12_casts_57 f0 g7 v0 v1 v2 h = some hz) : G X 6 57 [(0, .ref v0), (1, .int v1), (2, .int v2)] [] h 0 0 := by
  unfold bX12_casts_57 at e
  refine g_iinc (k := 2) (v := (v2 + 1)) [(2, .int (v2 + 1)), (0, .ref v0), (1, .int v1)] o dX12_casts_57 rfl rfl (by decide) rfl ?_
  refine g_goto 7 o dX12_casts_60 (by decide) ?_
  refine g_sb [1, 2, 0] rfl ?_
  exact i7 v0 v1 (v2 + 1) h hz q e
set_option maxRecDepth 100000 in
set_option maxHeartbeats 4000000 in
theorem kX12_casts_176 {X : Cx} (f0 : Nat) (g101 : Nat → Int32 → Hp → Option (Hp)) (g107 : Nat → Int32 → Int32 → Hp → Option (Hp)) (g122 : Nat → Int32 → Int32 → Int32 → Int32 → Hp → Option (Hp)) (i101 : ∀ (v02 : Nat) (v22 : Int32) (h2 : Hp) (hz : Hp), Rt X none hz 0 0 → g101 v02 v22 h2 = some hz → G X 6 101 [(0, .ref v02), (2, .int v22)] [] h2 0 0) (i107 : ∀ (v02 : Nat) (v22 : Int32) (v32 : Int32) (h2 : Hp) (hz : Hp), Rt X none hz 0 0 → g107 v02 v22 v32 h2 = some hz → G X 6 107 [(0, .ref v02), (2, .int v22), (3, .int v32)] [] h2 0 0) (i122 : ∀ (v02 : Nat) (v22 : Int32) (v32 : Int32) (v42 : Int32) (v52 : Int32) (h2 : Hp) (hz : Hp), Rt X none hz 0 0 → g122 v02 v22 v32 v42 v52 h2 = some hz → G X 6 122 [(0, .ref v02), (2, .int v22), (3, .int v32), (4, .int v42), (5, .int v52)] [] h2 0 0) (o : Ok X cX12_casts RX12 6 rmX12_casts none) (v0 : Nat) (v2 : Int32) (v3 : Int32) (v4 : Int32) (v5 : Int32) (h : Hp) (hz : Hp) (q : Rt X none hz 0 0) (e : bX12_casts_176 f0 g101 g107 g122 v0 v2 v3 v4 v5 h = some hz) : G X 6 176 [(0, .ref v0), (2, .int v2), (3, .int v3), (4, .int v4), (5, .int v5)] [] h 0 0 := by
  unfold bX12_casts_176 at e
  refine g_iinc (k := 4) (v := (v5 + 1)) [(5, .int (v5 + 1)), (0, .ref v0), (2, .int v2), (3, .int v3), (4, .int v4)] o dX12_casts_176 rfl rfl (by decide) rfl ?_
  refine g_goto 122 o dX12_casts_179 (by decide) ?_
  refine g_sb [1, 2, 3, 4, 0] rfl ?_
  exact i122 v0 v2 v3 v4 (v5 + 1) h hz q e
set_option maxRecDepth 100000 in
set_option maxHeartbeats 4000000 in
theorem kX12_casts_122 {X : Cx} (f0 : Nat) (g101 : Nat → Int32 → Hp → Option (Hp)) (g107 : Nat → Int32 → Int32 → Hp → Option (Hp)) (i101 : ∀ (v02 : Nat) (v22 : Int32) (h2 : Hp) (hz : Hp), Rt X none hz 0 0 → g101 v02 v22 h2 = some hz → G X 6 101 [(0, .ref v02), (2, .int v22)] [] h2 0 0) (i107 : ∀ (v02 : Nat) (v22 : Int32) (v32 : Int32) (h2 : Hp) (hz : Hp), Rt X none hz 0 0 → g107 v02 v22 v32 h2 = some hz → G X 6 107 [(0, .ref v02), (2, .int v22), (3, .int v32)] [] h2 0 0) (o : Ok X cX12_casts RX12 6 rmX12_casts none) (f : Nat) (v0 : Nat) (v2 : Int32) (v3 : Int32) (v4 : Int32) (v5 : Int32) (h : Hp) (hz : Hp) (q : Rt X none hz 0 0) (e : bX12_casts_122 f0 g101 g107 f v0 v2 v3 v4 v5 h = some hz) : G X 6 122 [(0, .ref v0), (2, .int v2), (3, .int v3), (4, .int v4), (5, .int v5)] [] h 0 0 := by
  induction f generalizing v0 v2 v3 v4 v5 h hz with
  | zero => cases e
  | succ f1 ih =>
    unfold bX12_casts_122 at e
    refine g_iload 4 o dX12_casts_122 rfl ?_
    refine g_aload_n 0 o dX12_casts_124 rfl rfl ?_
    obtain ⟨x125, q125, e⟩ := ob e
    refine g_getN 6 o cf12 (by decide) mw_1192 dX12_casts_125 q125 ?_
    refine g_iconst (v := 3) o dX12_casts_128 (by decide) ?_
    obtain ⟨x129, q129, e⟩ := ob e
    refine g_iald o dX12_casts_129 q129 ?_
    refine g_icmp_ge (x := v5) (y := x129) 182 o dX12_casts_130 (by decide) (fun u => ?_) (fun u => ?_)
    · rw [if_pos u] at e
      refine g_aload_n 0 o dX12_casts_182 rfl rfl ?_
      obtain ⟨x183, q183, e⟩ := ob e
      refine g_getN 25 o cf12 (by decide) mw_1211 dX12_casts_183 q183 ?_
      refine g_sipush (v := 256) o dX12_casts_186 (by decide) ?_
      refine g_iload_n 1 o dX12_casts_189 rfl rfl ?_
      refine g_imul (x := (256 : Int32)) (y := v2) o dX12_casts_190 ?_
      refine g_iload_n 2 o dX12_casts_191 rfl rfl ?_
      refine g_iadd (x := ((256 : Int32) * v2)) (y := v3) o dX12_casts_192 ?_
      refine g_iload 3 o dX12_casts_193 rfl ?_
      obtain ⟨h195, q195, e⟩ := ob e
      refine g_iast o dX12_casts_195 q195 ?_
      refine g_iinc (k := 2) (v := (v3 + 1)) [(3, .int (v3 + 1)), (0, .ref v0), (2, .int v2), (4, .int v4), (5, .int v5)] o dX12_casts_196 rfl rfl (by decide) rfl ?_
      refine g_goto 107 o dX12_casts_199 (by decide) ?_
      refine g_sb [1, 2, 0] rfl ?_
      exact i107 v0 v2 (v3 + 1) h195 hz q e
    · rw [if_neg u] at e
      refine g_iload_n 2 o dX12_casts_133 rfl rfl ?_
      refine g_iload 4 o dX12_casts_134 rfl ?_
      obtain ⟨x136, h136, q136, e⟩ := ob2_s e
      refine g_callSv [.int v3, .int v5] o (mX12_bitOf q136) mw_1352 mw_1353 mw_19 mw_1354 yo_X12_bitOf rfl rfl (Nat.le_of_ble_eq_true rfl) ⟨by decide, by decide⟩ ⟨rfl, rfl⟩ dX12_casts_136 ⟨by decide, by decide⟩ ?_
      refine g_if_ne (x := x136) 176 o dX12_casts_139 (by decide) (fun u => ?_) (fun u => ?_)
      · rw [if_neg u] at e
        exact kX12_casts_176 f0 g101 g107 (bX12_casts_122 f0 g101 g107 f1) i101 i107 ih o v0 v2 v3 v4 v5 h136 hz q e
      · rw [if_pos u] at e
        refine g_iload 3 o dX12_casts_142 rfl ?_
        refine g_aload_n 0 o dX12_casts_144 rfl rfl ?_
        refine g_iload 4 o dX12_casts_145 rfl ?_
        refine g_iload_n 1 o dX12_casts_147 rfl rfl ?_
        obtain ⟨_, k148, e⟩ := ob e
        obtain ⟨x148, h148, q148, e⟩ := ob2_s e
        refine g_callVv [.int v5, .int v2] o (mX12_costOf q148) cf12 (ckO_s k148) mw_1425 mw_1426 mw_1759 mw_19 mw_1427 rfl yo_X12_costOf rfl rfl (Nat.le_of_ble_eq_true rfl) ⟨by decide, by decide⟩ ⟨rfl, rfl⟩ dX12_casts_148 ⟨by decide, by decide⟩ ?_
        refine g_aload_n 0 o dX12_casts_151 rfl rfl ?_
        obtain ⟨x152, q152, e⟩ := ob e
        refine g_getN 25 o cf12 (by decide) mw_1211 dX12_casts_152 q152 ?_
        refine g_sipush (v := 256) o dX12_casts_155 (by decide) ?_
        refine g_iload_n 1 o dX12_casts_158 rfl rfl ?_
        refine g_iconst (v := 1) o dX12_casts_159 (by decide) ?_
        refine g_iadd (x := v2) (y := 1) o dX12_casts_160 ?_
        refine g_imul (x := (256 : Int32)) (y := (v2 + 1)) o dX12_casts_161 ?_
        refine g_iload_n 2 o dX12_casts_162 rfl rfl ?_
        refine g_iconst (v := 1) o dX12_casts_163 (by decide) ?_
        refine g_iload 4 o dX12_casts_164 rfl ?_
        refine g_ishl (x := (1 : Int32)) (y := v5) o dX12_casts_166 ?_
        refine g_ior (x := v3) (y := ((1 : Int32) <<< (v5 &&& 31))) o dX12_casts_167 ?_
        refine g_iadd (x := ((256 : Int32) * (v2 + 1))) (y := (v3 ||| ((1 : Int32) <<< (v5 &&& 31)))) o dX12_casts_168 ?_
        obtain ⟨x169, q169, e⟩ := ob e
        refine g_iald o dX12_casts_169 q169 ?_
        refine g_iadd (x := x148) (y := x169) o dX12_casts_170 ?_
        obtain ⟨x171, h171, q171, e⟩ := ob2_s e
        refine g_callSv [.int v4, .int (x148 + x169)] o (mX12_lesser q171) mw_1183 mw_1184 mw_19 mw_1185 yo_X12_lesser rfl rfl (Nat.le_of_ble_eq_true rfl) ⟨by decide, by decide⟩ ⟨rfl, rfl⟩ dX12_casts_171 ⟨by decide, by decide⟩ ?_
        refine g_istore [(4, .int x171), (0, .ref v0), (2, .int v2), (3, .int v3), (5, .int v5)] o dX12_casts_174 (by decide) rfl ?_
        refine g_sb [1, 2, 3, 0, 4] rfl ?_
        exact kX12_casts_176 f0 g101 g107 (bX12_casts_122 f0 g101 g107 f1) i101 i107 ih o v0 v2 v3 x171 v5 h171 hz q e
set_option maxRecDepth 100000 in
set_option maxHeartbeats 4000000 in
theorem kX12_casts_107 {X : Cx} (f0 : Nat) (g101 : Nat → Int32 → Hp → Option (Hp)) (i101 : ∀ (v02 : Nat) (v22 : Int32) (h2 : Hp) (hz : Hp), Rt X none hz 0 0 → g101 v02 v22 h2 = some hz → G X 6 101 [(0, .ref v02), (2, .int v22)] [] h2 0 0) (o : Ok X cX12_casts RX12 6 rmX12_casts none) (f : Nat) (v0 : Nat) (v2 : Int32) (v3 : Int32) (h : Hp) (hz : Hp) (q : Rt X none hz 0 0) (e : bX12_casts_107 f0 g101 f v0 v2 v3 h = some hz) : G X 6 107 [(0, .ref v0), (2, .int v2), (3, .int v3)] [] h 0 0 := by
  induction f generalizing v0 v2 v3 h hz with
  | zero => cases e
  | succ f1 ih =>
    unfold bX12_casts_107 at e
    refine g_iload_n 2 o dX12_casts_107 rfl rfl ?_
    refine g_sipush (v := 256) o dX12_casts_108 (by decide) ?_
    refine g_icmp_ge (x := v3) (y := 256) 202 o dX12_casts_111 (by decide) (fun u => ?_) (fun u => ?_)
    · rw [if_pos u] at e
      refine g_iinc (k := 1) (v := (v2 + (-1))) [(2, .int (v2 + (-1))), (0, .ref v0), (3, .int v3)] o dX12_casts_202 rfl rfl (by decide) rfl ?_
      refine g_goto 101 o dX12_casts_205 (by decide) ?_
      refine g_sb [1, 0] rfl ?_
      exact i101 v0 (v2 + (-1)) h hz q e
    · rw [if_neg u] at e
      refine g_ldc_w (v := 1000000) o dX12_casts_114 mw_1179 ?_
      refine g_istore [(4, .int 1000000), (0, .ref v0), (2, .int v2), (3, .int v3)] o dX12_casts_117 (by decide) rfl ?_
      refine g_iconst (v := 0) o dX12_casts_119 (by decide) ?_
      refine g_istore [(5, .int 0), (4, .int 1000000), (0, .ref v0), (2, .int v2), (3, .int v3)] o dX12_casts_120 (by decide) rfl ?_
      refine g_sb [2, 3, 4, 1, 0] rfl ?_
      exact kX12_casts_122 f0 g101 (bX12_casts_107 f0 g101 f1) i101 ih o f0 v0 v2 v3 1000000 0 h hz q e
set_option maxRecDepth 100000 in
set_option maxHeartbeats 4000000 in
theorem kX12_casts_287 {X : Cx} (f0 : Nat) (g225 : Nat → Int32 → Int32 → Hp → Option (Hp)) (g236 : Nat → Int32 → Int32 → Int32 → Hp → Option (Hp)) (i225 : ∀ (v02 : Nat) (v22 : Int32) (v32 : Int32) (h2 : Hp) (hz : Hp), Rt X none hz 0 0 → g225 v02 v22 v32 h2 = some hz → G X 6 225 [(0, .ref v02), (2, .int v22), (3, .int v32)] [] h2 0 0) (i236 : ∀ (v02 : Nat) (v22 : Int32) (v32 : Int32) (v42 : Int32) (h2 : Hp) (hz : Hp), Rt X none hz 0 0 → g236 v02 v22 v32 v42 h2 = some hz → G X 6 236 [(0, .ref v02), (2, .int v22), (3, .int v32), (4, .int v42)] [] h2 0 0) (o : Ok X cX12_casts RX12 6 rmX12_casts none) (v0 : Nat) (v2 : Int32) (v3 : Int32) (v4 : Int32) (h : Hp) (hz : Hp) (q : Rt X none hz 0 0) (e : bX12_casts_287 f0 g225 g236 v0 v2 v3 v4 h = some hz) : G X 6 287 [(0, .ref v0), (2, .int v2), (3, .int v3), (4, .int v4)] [] h 0 0 := by
  unfold bX12_casts_287 at e
  refine g_iinc (k := 3) (v := (v4 + 1)) [(4, .int (v4 + 1)), (0, .ref v0), (2, .int v2), (3, .int v3)] o dX12_casts_287 rfl rfl (by decide) rfl ?_
  refine g_goto 236 o dX12_casts_290 (by decide) ?_
  refine g_sb [1, 2, 3, 0] rfl ?_
  exact i236 v0 v2 v3 (v4 + 1) h hz q e
set_option maxRecDepth 100000 in
set_option maxHeartbeats 4000000 in
theorem kX12_casts_236 {X : Cx} (f0 : Nat) (g225 : Nat → Int32 → Int32 → Hp → Option (Hp)) (i225 : ∀ (v02 : Nat) (v22 : Int32) (v32 : Int32) (h2 : Hp) (hz : Hp), Rt X none hz 0 0 → g225 v02 v22 v32 h2 = some hz → G X 6 225 [(0, .ref v02), (2, .int v22), (3, .int v32)] [] h2 0 0) (o : Ok X cX12_casts RX12 6 rmX12_casts none) (f : Nat) (v0 : Nat) (v2 : Int32) (v3 : Int32) (v4 : Int32) (h : Hp) (hz : Hp) (q : Rt X none hz 0 0) (e : bX12_casts_236 f0 g225 f v0 v2 v3 v4 h = some hz) : G X 6 236 [(0, .ref v0), (2, .int v2), (3, .int v3), (4, .int v4)] [] h 0 0 := by
  induction f generalizing v0 v2 v3 v4 h hz with
  | zero => cases e
  | succ f1 ih =>
    unfold bX12_casts_236 at e
    refine g_iload_n 1 o dX12_casts_236 rfl rfl ?_
    refine g_iload 3 o dX12_casts_237 rfl ?_
    obtain ⟨x239, h239, q239, e⟩ := ob2_s e
    refine g_callSv [.int v2, .int v4] o (mX12_bitOf q239) mw_1352 mw_1353 mw_19 mw_1354 yo_X12_bitOf rfl rfl (Nat.le_of_ble_eq_true rfl) ⟨by decide, by decide⟩ ⟨rfl, rfl⟩ dX12_casts_239 ⟨by decide, by decide⟩ ?_
    refine g_if_ne (x := x239) 287 o dX12_casts_242 (by decide) (fun u => ?_) (fun u => ?_)
    · rw [if_neg u] at e
      exact kX12_casts_287 f0 g225 (bX12_casts_236 f0 g225 f1) i225 ih o v0 v2 v3 v4 h239 hz q e
    · rw [if_pos u] at e
      refine g_aload_n 0 o dX12_casts_245 rfl rfl ?_
      refine g_iload 3 o dX12_casts_246 rfl ?_
      refine g_iload_n 2 o dX12_casts_248 rfl rfl ?_
      obtain ⟨_, k249, e⟩ := ob e
      obtain ⟨x249, h249, q249, e⟩ := ob2_s e
      refine g_callVv [.int v4, .int v3] o (mX12_costOf q249) cf12 (ckO_s k249) mw_1425 mw_1426 mw_1759 mw_19 mw_1427 rfl yo_X12_costOf rfl rfl (Nat.le_of_ble_eq_true rfl) ⟨by decide, by decide⟩ ⟨rfl, rfl⟩ dX12_casts_249 ⟨by decide, by decide⟩ ?_
      refine g_aload_n 0 o dX12_casts_252 rfl rfl ?_
      obtain ⟨x253, q253, e⟩ := ob e
      refine g_getN 25 o cf12 (by decide) mw_1211 dX12_casts_253 q253 ?_
      refine g_sipush (v := 256) o dX12_casts_256 (by decide) ?_
      refine g_iload_n 2 o dX12_casts_259 rfl rfl ?_
      refine g_iconst (v := 1) o dX12_casts_260 (by decide) ?_
      refine g_iadd (x := v3) (y := 1) o dX12_casts_261 ?_
      refine g_imul (x := (256 : Int32)) (y := (v3 + 1)) o dX12_casts_262 ?_
      refine g_iload_n 1 o dX12_casts_263 rfl rfl ?_
      refine g_iconst (v := 1) o dX12_casts_264 (by decide) ?_
      refine g_iload 3 o dX12_casts_265 rfl ?_
      refine g_ishl (x := (1 : Int32)) (y := v4) o dX12_casts_267 ?_
      refine g_ior (x := v2) (y := ((1 : Int32) <<< (v4 &&& 31))) o dX12_casts_268 ?_
      refine g_iadd (x := ((256 : Int32) * (v3 + 1))) (y := (v2 ||| ((1 : Int32) <<< (v4 &&& 31)))) o dX12_casts_269 ?_
      obtain ⟨x270, q270, e⟩ := ob e
      refine g_iald o dX12_casts_270 q270 ?_
      refine g_iadd (x := x249) (y := x270) o dX12_casts_271 ?_
      refine g_aload_n 0 o dX12_casts_272 rfl rfl ?_
      obtain ⟨x273, q273, e⟩ := ob e
      refine g_getN 25 o cf12 (by decide) mw_1211 dX12_casts_273 q273 ?_
      refine g_sipush (v := 256) o dX12_casts_276 (by decide) ?_
      refine g_iload_n 2 o dX12_casts_279 rfl rfl ?_
      refine g_imul (x := (256 : Int32)) (y := v3) o dX12_casts_280 ?_
      refine g_iload_n 1 o dX12_casts_281 rfl rfl ?_
      refine g_iadd (x := ((256 : Int32) * v3)) (y := v2) o dX12_casts_282 ?_
      obtain ⟨x283, q283, e⟩ := ob e
      refine g_iald o dX12_casts_283 q283 ?_
      refine g_icmp_eq (x := (x249 + x270)) (y := x283) 293 o dX12_casts_284 (by decide) (fun u => ?_) (fun u => ?_)
      · rw [if_pos u] at e
        refine g_aload_n 0 o dX12_casts_293 rfl rfl ?_
        obtain ⟨x294, q294, e⟩ := ob e
        refine g_getN 23 o cf12 (by decide) mw_1209 dX12_casts_294 q294 ?_
        refine g_iload_n 2 o dX12_casts_297 rfl rfl ?_
        refine g_iload 3 o dX12_casts_298 rfl ?_
        obtain ⟨h300, q300, e⟩ := ob e
        refine g_iast o dX12_casts_300 q300 ?_
        refine g_iload_n 1 o dX12_casts_301 rfl rfl ?_
        refine g_iconst (v := 1) o dX12_casts_302 (by decide) ?_
        refine g_iload 3 o dX12_casts_303 rfl ?_
        refine g_ishl (x := (1 : Int32)) (y := v4) o dX12_casts_305 ?_
        refine g_ior (x := v2) (y := ((1 : Int32) <<< (v4 &&& 31))) o dX12_casts_306 ?_
        refine g_istore_n [(2, .int (v2 ||| ((1 : Int32) <<< (v4 &&& 31)))), (0, .ref v0), (3, .int v3), (4, .int v4)] o dX12_casts_307 rfl (by decide) rfl ?_
        refine g_iinc (k := 2) (v := (v3 + 1)) [(3, .int (v3 + 1)), (2, .int (v2 ||| ((1 : Int32) <<< (v4 &&& 31)))), (0, .ref v0), (4, .int v4)] o dX12_casts_308 rfl rfl (by decide) rfl ?_
        refine g_goto 225 o dX12_casts_311 (by decide) ?_
        refine g_sb [2, 1, 0] rfl ?_
        exact i225 v0 (v2 ||| ((1 : Int32) <<< (v4 &&& 31))) (v3 + 1) h300 hz q e
      · rw [if_neg u] at e
        exact kX12_casts_287 f0 g225 (bX12_casts_236 f0 g225 f1) i225 ih o v0 v2 v3 v4 h249 hz q e
set_option maxRecDepth 100000 in
set_option maxHeartbeats 4000000 in
theorem kX12_casts_225 {X : Cx} (f0 : Nat) (o : Ok X cX12_casts RX12 6 rmX12_casts none) (f : Nat) (v0 : Nat) (v2 : Int32) (v3 : Int32) (h : Hp) (hz : Hp) (q : Rt X none hz 0 0) (e : bX12_casts_225 f0 f v0 v2 v3 h = some hz) : G X 6 225 [(0, .ref v0), (2, .int v2), (3, .int v3)] [] h 0 0 := by
  induction f generalizing v0 v2 v3 h hz with
  | zero => cases e
  | succ f1 ih =>
    unfold bX12_casts_225 at e
    refine g_iload_n 2 o dX12_casts_225 rfl rfl ?_
    refine g_aload_n 0 o dX12_casts_226 rfl rfl ?_
    obtain ⟨x227, q227, e⟩ := ob e
    refine g_getI 26 o cf12 (by decide) mw_1212 dX12_casts_227 q227 ?_
    refine g_icmp_ge (x := v3) (y := x227) 314 o dX12_casts_230 (by decide) (fun u => ?_) (fun u => ?_)
    · rw [if_pos u] at e
      exact g_vret o dX12_casts_314 (rt_0 q e)
    · rw [if_neg u] at e
      refine g_iconst (v := 0) o dX12_casts_233 (by decide) ?_
      refine g_istore [(4, .int 0), (0, .ref v0), (2, .int v2), (3, .int v3)] o dX12_casts_234 (by decide) rfl ?_
      refine g_sb [1, 2, 3, 0] rfl ?_
      exact kX12_casts_236 f0 (bX12_casts_225 f0 f1) ih o f0 v0 v2 v3 0 h hz q e
set_option maxRecDepth 100000 in
set_option maxHeartbeats 4000000 in
theorem kX12_casts_101 {X : Cx} (f0 : Nat) (o : Ok X cX12_casts RX12 6 rmX12_casts none) (f : Nat) (v0 : Nat) (v2 : Int32) (h : Hp) (hz : Hp) (q : Rt X none hz 0 0) (e : bX12_casts_101 f0 f v0 v2 h = some hz) : G X 6 101 [(0, .ref v0), (2, .int v2)] [] h 0 0 := by
  induction f generalizing v0 v2 h hz with
  | zero => cases e
  | succ f1 ih =>
    unfold bX12_casts_101 at e
    refine g_iload_n 1 o dX12_casts_101 rfl rfl ?_
    refine g_if_lt (x := v2) 208 o dX12_casts_102 (by decide) (fun u => ?_) (fun u => ?_)
    · rw [if_pos u] at e
      refine g_aload_n 0 o dX12_casts_208 rfl rfl ?_
      obtain ⟨x209, q209, e⟩ := ob e
      refine g_getN 25 o cf12 (by decide) mw_1211 dX12_casts_209 q209 ?_
      refine g_iconst (v := 0) o dX12_casts_212 (by decide) ?_
      obtain ⟨x213, q213, e⟩ := ob e
      refine g_iald o dX12_casts_213 q213 ?_
      refine g_ldc_w (v := 1000000) o dX12_casts_214 mw_1179 ?_
      refine g_icmp_lt (x := x213) (y := 1000000) 221 o dX12_casts_217 (by decide) (fun u => ?_) (fun u => ?_)
      · rw [if_pos u] at e
        refine g_iconst (v := 0) o dX12_casts_221 (by decide) ?_
        refine g_istore_n [(2, .int 0), (0, .ref v0)] o dX12_casts_222 rfl (by decide) rfl ?_
        refine g_iconst (v := 0) o dX12_casts_223 (by decide) ?_
        refine g_istore_n [(3, .int 0), (2, .int 0), (0, .ref v0)] o dX12_casts_224 rfl (by decide) rfl ?_
        refine g_sb [2, 1, 0] rfl ?_
        exact kX12_casts_225 f0 o f0 v0 0 0 h hz q e
      · rw [if_neg u] at e
        exact g_vret o dX12_casts_220 (rt_0 q e)
    · rw [if_neg u] at e
      refine g_iconst (v := 0) o dX12_casts_105 (by decide) ?_
      refine g_istore_n [(3, .int 0), (0, .ref v0), (2, .int v2)] o dX12_casts_106 rfl (by decide) rfl ?_
      refine g_sb [1, 2, 0] rfl ?_
      exact kX12_casts_107 f0 (bX12_casts_101 f0 f1) ih o f0 v0 v2 0 h hz q e
set_option maxRecDepth 100000 in
set_option maxHeartbeats 4000000 in
theorem kX12_casts_65 {X : Cx} (f0 : Nat) (o : Ok X cX12_casts RX12 6 rmX12_casts none) (f : Nat) (v0 : Nat) (v2 : Int32) (h : Hp) (hz : Hp) (q : Rt X none hz 0 0) (e : bX12_casts_65 f0 f v0 v2 h = some hz) : G X 6 65 [(0, .ref v0), (2, .int v2)] [] h 0 0 := by
  induction f generalizing v0 v2 h hz with
  | zero => cases e
  | succ f1 ih =>
    unfold bX12_casts_65 at e
    refine g_iload_n 1 o dX12_casts_65 rfl rfl ?_
    refine g_sipush (v := 256) o dX12_casts_66 (by decide) ?_
    refine g_icmp_ge (x := v2) (y := 256) 94 o dX12_casts_69 (by decide) (fun u => ?_) (fun u => ?_)
    · rw [if_pos u] at e
      refine g_aload_n 0 o dX12_casts_94 rfl rfl ?_
      obtain ⟨x95, q95, e⟩ := ob e
      refine g_getI 26 o cf12 (by decide) mw_1212 dX12_casts_95 q95 ?_
      refine g_iconst (v := 1) o dX12_casts_98 (by decide) ?_
      refine g_isub (x := x95) (y := 1) o dX12_casts_99 ?_
      refine g_istore_n [(2, .int (x95 - 1)), (0, .ref v0)] o dX12_casts_100 rfl (by decide) rfl ?_
      refine g_sb [1, 0] rfl ?_
      exact kX12_casts_101 f0 o f0 v0 (x95 - 1) h hz q e
    · rw [if_neg u] at e
      refine g_aload_n 0 o dX12_casts_72 rfl rfl ?_
      obtain ⟨x73, q73, e⟩ := ob e
      refine g_getN 25 o cf12 (by decide) mw_1211 dX12_casts_73 q73 ?_
      refine g_sipush (v := 256) o dX12_casts_76 (by decide) ?_
      refine g_aload_n 0 o dX12_casts_79 rfl rfl ?_
      obtain ⟨x80, q80, e⟩ := ob e
      refine g_getI 26 o cf12 (by decide) mw_1212 dX12_casts_80 q80 ?_
      refine g_imul (x := (256 : Int32)) (y := x80) o dX12_casts_83 ?_
      refine g_iload_n 1 o dX12_casts_84 rfl rfl ?_
      refine g_iadd (x := ((256 : Int32) * x80)) (y := v2) o dX12_casts_85 ?_
      refine g_iconst (v := 0) o dX12_casts_86 (by decide) ?_
      obtain ⟨h87, q87, e⟩ := ob e
      refine g_iast o dX12_casts_87 q87 ?_
      refine g_iinc (k := 1) (v := (v2 + 1)) [(2, .int (v2 + 1)), (0, .ref v0)] o dX12_casts_88 rfl rfl (by decide) rfl ?_
      refine g_goto 65 o dX12_casts_91 (by decide) ?_
      refine g_sb [1, 0] rfl ?_
      exact ih v0 (v2 + 1) h87 hz q e
set_option maxRecDepth 100000 in
set_option maxHeartbeats 4000000 in
theorem kX12_casts_7 {X : Cx} (f0 : Nat) (o : Ok X cX12_casts RX12 6 rmX12_casts none) (f : Nat) (v0 : Nat) (v1 : Int32) (v2 : Int32) (h : Hp) (hz : Hp) (q : Rt X none hz 0 0) (e : bX12_casts_7 f0 f v0 v1 v2 h = some hz) : G X 6 7 [(0, .ref v0), (1, .int v1), (2, .int v2)] [] h 0 0 := by
  induction f generalizing v0 v1 v2 h hz with
  | zero => cases e
  | succ f1 ih =>
    unfold bX12_casts_7 at e
    refine g_iload_n 2 o dX12_casts_7 rfl rfl ?_
    refine g_aload_n 0 o dX12_casts_8 rfl rfl ?_
    obtain ⟨x9, q9, e⟩ := ob e
    refine g_getN 6 o cf12 (by decide) mw_1192 dX12_casts_9 q9 ?_
    refine g_iconst (v := 2) o dX12_casts_12 (by decide) ?_
    obtain ⟨x13, q13, e⟩ := ob e
    refine g_iald o dX12_casts_13 q13 ?_
    refine g_icmp_ge (x := v2) (y := x13) 63 o dX12_casts_14 (by decide) (fun u => ?_) (fun u => ?_)
    · rw [if_pos u] at e
      refine g_iconst (v := 0) o dX12_casts_63 (by decide) ?_
      refine g_istore_n [(2, .int 0), (0, .ref v0), (1, .int v1)] o dX12_casts_64 rfl (by decide) rfl ?_
      refine g_sb [1, 0] rfl ?_
      exact kX12_casts_65 f0 o f0 v0 0 h hz q e
    · rw [if_neg u] at e
      refine g_aload_n 0 o dX12_casts_17 rfl rfl ?_
      obtain ⟨x18, q18, e⟩ := ob e
      refine g_getN 6 o cf12 (by decide) mw_1192 dX12_casts_18 q18 ?_
      refine g_sipush (v := 264) o dX12_casts_21 (by decide) ?_
      refine g_iload_n 1 o dX12_casts_24 rfl rfl ?_
      refine g_iadd (x := (264 : Int32)) (y := v1) o dX12_casts_25 ?_
      obtain ⟨x26, q26, e⟩ := ob e
      refine g_iald o dX12_casts_26 q26 ?_
      refine g_iload_n 2 o dX12_casts_27 rfl rfl ?_
      obtain ⟨x28, h28, q28, e⟩ := ob2_s e
      refine g_callSv [.int x26, .int v2] o (mX12_bitOf q28) mw_1352 mw_1353 mw_19 mw_1354 yo_X12_bitOf rfl rfl (Nat.le_of_ble_eq_true rfl) ⟨by decide, by decide⟩ ⟨rfl, rfl⟩ dX12_casts_28 ⟨by decide, by decide⟩ ?_
      refine g_if_ne (x := x28) 37 o dX12_casts_31 (by decide) (fun u => ?_) (fun u => ?_)
      · rw [if_neg u] at e
        refine g_aload_n 0 o dX12_casts_37 rfl rfl ?_
        obtain ⟨x38, q38, e⟩ := ob e
        refine g_getN 24 o cf12 (by decide) mw_1210 dX12_casts_38 q38 ?_
        refine g_aload_n 0 o dX12_casts_41 rfl rfl ?_
        obtain ⟨x42, q42, e⟩ := ob e
        refine g_getI 26 o cf12 (by decide) mw_1212 dX12_casts_42 q42 ?_
        refine g_iload_n 2 o dX12_casts_45 rfl rfl ?_
        obtain ⟨h46, q46, e⟩ := ob e
        refine g_iast o dX12_casts_46 q46 ?_
        refine g_aload_n 0 o dX12_casts_47 rfl rfl ?_
        refine g_dup o dX12_casts_48 rfl ?_
        obtain ⟨x49, q49, e⟩ := ob e
        refine g_getI 26 o cf12 (by decide) mw_1212 dX12_casts_49 q49 ?_
        refine g_iconst (v := 1) o dX12_casts_52 (by decide) ?_
        refine g_iadd (x := x49) (y := 1) o dX12_casts_53 ?_
        obtain ⟨h54, q54, e⟩ := ob e
        refine g_put (ty1 := .int) 26 o cf12 (by decide) mw_1212 rfl (by decide +kernel) rfl rfl dX12_casts_54 q54 ?_
        exact kX12_casts_57 f0 (bX12_casts_7 f0 f1) ih o v0 v1 v2 h54 hz q e
      · rw [if_pos u] at e
        refine g_goto 57 o dX12_casts_34 (by decide) ?_
        exact kX12_casts_57 f0 (bX12_casts_7 f0 f1) ih o v0 v1 v2 h28 hz q e
theorem yo_X12_casts : yok yX12_casts 1 := ⟨by decide, by decide, by decide +kernel⟩
set_option maxRecDepth 100000 in
set_option maxHeartbeats 4000000 in
theorem mX12_casts {l : Launch} {D : va_G} {cy : Nat → ClassId} {f0 : Nat} {a : Nat} {p0 : Int32} {h : Hp} {hz : Hp} (e : fX12_casts f0 a p0 h = some hz) : MC l D cy yX12_casts cX12_casts 6 none rmX12_casts [.ref a, .int p0] h none hz := by
  refine mc_of2 (by decide) (Nat.le_of_ble_eq_true rfl) (fun X hl hD hy hin o q => ?_)
  subst hl; subst hD; subst hy
  show G X 6 0 [(0, .ref a), (1, .int p0)] [] h 0 0
  unfold fX12_casts at e
  refine g_aload_n 0 o dX12_casts_0 rfl rfl ?_
  refine g_iconst (v := 0) o dX12_casts_1 (by decide) ?_
  obtain ⟨h2, q2, e⟩ := ob e
  refine g_put (ty1 := .int) 26 o cf12 (by decide) mw_1212 rfl (by decide +kernel) rfl rfl dX12_casts_2 q2 ?_
  refine g_iconst (v := 0) o dX12_casts_5 (by decide) ?_
  refine g_istore_n [(2, .int 0), (0, .ref a), (1, .int p0)] o dX12_casts_6 rfl (by decide) rfl ?_
  refine g_sb [1, 2, 0] rfl ?_
  exact kX12_casts_7 f0 o f0 a p0 0 h2 hz q e
theorem yo_X12_lacksOf : yok yX12_lacksOf 1 := ⟨by decide, by decide, by decide +kernel⟩
set_option maxRecDepth 100000 in
set_option maxHeartbeats 4000000 in
theorem mX12_lacksOf {l : Launch} {D : va_G} {cy : Nat → ClassId} {f0 : Nat} {a : Nat} {p0 : Int32} {h : Hp} {r : Int32} {hz : Hp} (e : fX12_lacksOf f0 a p0 h = some (r, hz)) : MC l D cy yX12_lacksOf cX12_lacksOf 2 (some .int) rmX12_lacksOf [.ref a, .int p0] h (some (.int r)) hz := by
  refine mc_of2 (by decide) (Nat.le_of_ble_eq_true rfl) (fun X hl hD hy hin o q => ?_)
  subst hl; subst hD; subst hy
  show G X 2 0 [(0, .ref a), (1, .int p0)] [] h 0 0
  unfold fX12_lacksOf at e
  refine g_aload_n 0 o dX12_lacksOf_0 rfl rfl ?_
  refine g_iload_n 1 o dX12_lacksOf_1 rfl rfl ?_
  obtain ⟨_, k2, e⟩ := ob e
  obtain ⟨h2, q2, e⟩ := ob e
  refine g_callV0 [.int p0] o (mX12_casts q2) cf12 (ckO_s k2) mw_1422 mw_1423 mw_1758 mw_19 mw_1424 rfl yo_X12_casts rfl rfl (Nat.le_of_ble_eq_true rfl) ⟨by decide, by decide⟩ ⟨rfl, rfl⟩ dX12_lacksOf_2 ⟨by decide, by decide⟩ ?_
  refine g_aload_n 0 o dX12_lacksOf_5 rfl rfl ?_
  obtain ⟨x6, q6, e⟩ := ob e
  refine g_getN 25 o cf12 (by decide) mw_1211 dX12_lacksOf_6 q6 ?_
  refine g_iconst (v := 0) o dX12_lacksOf_9 (by decide) ?_
  obtain ⟨x10, q10, e⟩ := ob e
  refine g_iald o dX12_lacksOf_10 q10 ?_
  refine g_ldc_w (v := 1000000) o dX12_lacksOf_11 mw_1179 ?_
  refine g_icmp_lt (x := x10) (y := 1000000) 21 o dX12_lacksOf_14 (by decide) (fun u => ?_) (fun u => ?_)
  · rw [if_pos u] at e
    refine g_aload_n 0 o dX12_lacksOf_21 rfl rfl ?_
    obtain ⟨x22, q22, e⟩ := ob e
    refine g_getN 25 o cf12 (by decide) mw_1211 dX12_lacksOf_22 q22 ?_
    refine g_iconst (v := 0) o dX12_lacksOf_25 (by decide) ?_
    obtain ⟨x26, q26, e⟩ := ob e
    refine g_iald o dX12_lacksOf_26 q26 ?_
    exact g_iret o dX12_lacksOf_27 (rt_v q e)
  · rw [if_neg u] at e
    refine g_iconst (v := -1) o dX12_lacksOf_17 (by decide) ?_
    refine g_goto 27 o dX12_lacksOf_18 (by decide) ?_
    exact g_iret o dX12_lacksOf_27 (rt_v q e)
theorem yo_X12_late : yok yX12_late 1 := ⟨by decide, by decide, by decide +kernel⟩
set_option maxRecDepth 100000 in
set_option maxHeartbeats 4000000 in
theorem mX12_late {l : Launch} {D : va_G} {cy : Nat → ClassId} {f0 : Nat} {a : Nat} {p0 : Int32} {h : Hp} {r : Int32} {hz : Hp} (e : fX12_late f0 a p0 h = some (r, hz)) : MC l D cy yX12_late cX12_late 2 (some .int) rmX12_late [.ref a, .int p0] h (some (.int r)) hz := by
  refine mc_of2 (by decide) (Nat.le_of_ble_eq_true rfl) (fun X hl hD hy hin o q => ?_)
  subst hl; subst hD; subst hy
  show G X 2 0 [(0, .ref a), (1, .int p0)] [] h 0 0
  unfold fX12_late at e
  refine g_aload_n 0 o dX12_late_0 rfl rfl ?_
  obtain ⟨x1, q1, e⟩ := ob e
  refine g_getN 6 o cf12 (by decide) mw_1192 dX12_late_1 q1 ?_
  refine g_sipush (v := 312) o dX12_late_4 (by decide) ?_
  obtain ⟨x7, q7, e⟩ := ob e
  refine g_iald o dX12_late_7 q7 ?_
  refine g_iload_n 1 o dX12_late_8 rfl rfl ?_
  refine g_iadd (x := x7) (y := p0) o dX12_late_9 ?_
  refine g_sipush (v := 999) o dX12_late_10 (by decide) ?_
  refine g_icmp_le (x := (x7 + p0)) (y := 999) 21 o dX12_late_13 (by decide) (fun u => ?_) (fun u => ?_)
  · rw [if_pos u] at e
    refine g_iconst (v := 0) o dX12_late_21 (by decide) ?_
    exact g_iret o dX12_late_22 (rt_v q e)
  · rw [if_neg u] at e
    refine g_bipush (v := 9) o dX12_late_16 (by decide) ?_
    refine g_goto 22 o dX12_late_18 (by decide) ?_
    exact g_iret o dX12_late_22 (rt_v q e)
theorem yo_X12_whyPaint : yok yX12_whyPaint 1 := ⟨by decide, by decide, by decide +kernel⟩
set_option maxRecDepth 100000 in
set_option maxHeartbeats 4000000 in
theorem mX12_whyPaint {l : Launch} {D : va_G} {cy : Nat → ClassId} {f0 : Nat} {a : Nat} {p0 : Int32} {h : Hp} {r : Int32} {hz : Hp} (e : fX12_whyPaint f0 a p0 h = some (r, hz)) : MC l D cy yX12_whyPaint cX12_whyPaint 2 (some .int) rmX12_whyPaint [.ref a, .int p0] h (some (.int r)) hz := by
  refine mc_of2 (by decide) (Nat.le_of_ble_eq_true rfl) (fun X hl hD hy hin o q => ?_)
  subst hl; subst hD; subst hy
  show G X 2 0 [(0, .ref a), (1, .int p0)] [] h 0 0
  unfold fX12_whyPaint at e
  refine g_aload_n 0 o dX12_whyPaint_0 rfl rfl ?_
  obtain ⟨_, k1, e⟩ := ob e
  obtain ⟨x1, h1, q1, e⟩ := ob2_s e
  refine g_callVv [] o (mX12_canAct q1) cf12 (ckO_s k1) mw_1416 mw_1417 mw_1756 mw_19 mw_1418 rfl yo_X12_canAct rfl rfl (Nat.le_of_ble_eq_true rfl) ⟨by decide, by decide⟩ ⟨rfl, rfl⟩ dX12_whyPaint_1 ⟨by decide, by decide⟩ ?_
  refine g_if_ne (x := x1) 9 o dX12_whyPaint_4 (by decide) (fun u => ?_) (fun u => ?_)
  · rw [if_neg u] at e
    refine g_aload_n 0 o dX12_whyPaint_9 rfl rfl ?_
    obtain ⟨x10, q10, e⟩ := ob e
    refine g_getN 6 o cf12 (by decide) mw_1192 dX12_whyPaint_10 q10 ?_
    refine g_sipush (v := 314) o dX12_whyPaint_13 (by decide) ?_
    obtain ⟨x16, q16, e⟩ := ob e
    refine g_iald o dX12_whyPaint_16 q16 ?_
    refine g_iload_n 1 o dX12_whyPaint_17 rfl rfl ?_
    refine g_icmp_ne (x := x16) (y := p0) 23 o dX12_whyPaint_18 (by decide) (fun u => ?_) (fun u => ?_)
    · rw [if_neg u] at e
      refine g_aload_n 0 o dX12_whyPaint_23 rfl rfl ?_
      refine g_iload_n 1 o dX12_whyPaint_24 rfl rfl ?_
      obtain ⟨_, k25, e⟩ := ob e
      obtain ⟨x25, h25, q25, e⟩ := ob2_s e
      refine g_callVv [.int p0] o (mX12_lacksOf q25) cf12 (ckO_s k25) mw_1419 mw_1420 mw_1757 mw_19 mw_1421 rfl yo_X12_lacksOf rfl rfl (Nat.le_of_ble_eq_true rfl) ⟨by decide, by decide⟩ ⟨rfl, rfl⟩ dX12_whyPaint_25 ⟨by decide, by decide⟩ ?_
      refine g_if_eq (x := x25) 35 o dX12_whyPaint_28 (by decide) (fun u => ?_) (fun u => ?_)
      · rw [if_pos u] at e
        refine g_aload_n 0 o dX12_whyPaint_35 rfl rfl ?_
        refine g_iconst (v := 1) o dX12_whyPaint_36 (by decide) ?_
        obtain ⟨_, k37, e⟩ := ob e
        obtain ⟨x37, h37, q37, e⟩ := ob2_s e
        refine g_callVv [.int 1] o (mX12_late q37) cf12 (ckO_s k37) mw_1428 mw_1429 mw_1760 mw_19 mw_1430 rfl yo_X12_late rfl rfl (Nat.le_of_ble_eq_true rfl) ⟨by decide, by decide⟩ ⟨rfl, rfl⟩ dX12_whyPaint_37 ⟨by decide, by decide⟩ ?_
        exact g_iret o dX12_whyPaint_40 (rt_v q e)
      · rw [if_neg u] at e
        refine g_iconst (v := 3) o dX12_whyPaint_31 (by decide) ?_
        refine g_goto 40 o dX12_whyPaint_32 (by decide) ?_
        exact g_iret o dX12_whyPaint_40 (rt_v q e)
    · rw [if_pos u] at e
      refine g_iconst (v := 2) o dX12_whyPaint_21 (by decide) ?_
      exact g_iret o dX12_whyPaint_22 (rt_v q e)
  · rw [if_pos u] at e
    refine g_iconst (v := 1) o dX12_whyPaint_7 (by decide) ?_
    exact g_iret o dX12_whyPaint_8 (rt_v q e)
set_option maxRecDepth 100000 in
set_option maxHeartbeats 4000000 in
theorem kX12_keep_48 {X : Cx} (f0 : Nat) (o : Ok X cX12_keep RX12 2 rmX12_keep none) (f : Nat) (v0 : Nat) (v1 : Int32) (h : Hp) (hz : Hp) (q : Rt X none hz 0 0) (e : bX12_keep_48 f0 f v0 v1 h = some hz) : G X 2 48 [(0, .ref v0), (1, .int v1)] [] h 0 0 := by
  induction f generalizing v0 v1 h hz with
  | zero => cases e
  | succ f1 ih =>
    unfold bX12_keep_48 at e
    refine g_iload_n 1 o dX12_keep_48 rfl rfl ?_
    refine g_sipush (v := 153) o dX12_keep_49 (by decide) ?_
    refine g_icmp_ge (x := v1) (y := 153) 86 o dX12_keep_52 (by decide) (fun u => ?_) (fun u => ?_)
    · rw [if_pos u] at e
      refine g_aload_n 0 o dX12_keep_86 rfl rfl ?_
      refine g_dup o dX12_keep_87 rfl ?_
      obtain ⟨x88, q88, e⟩ := ob e
      refine g_getI 29 o cf12 (by decide) mw_1215 dX12_keep_88 q88 ?_
      refine g_iconst (v := 1) o dX12_keep_91 (by decide) ?_
      refine g_iadd (x := x88) (y := 1) o dX12_keep_92 ?_
      obtain ⟨h93, q93, e⟩ := ob e
      refine g_put (ty1 := .int) 29 o cf12 (by decide) mw_1215 rfl (by decide +kernel) rfl rfl dX12_keep_93 q93 ?_
      exact g_vret o dX12_keep_96 (rt_0 q e)
    · rw [if_neg u] at e
      refine g_aload_n 0 o dX12_keep_55 rfl rfl ?_
      obtain ⟨x56, q56, e⟩ := ob e
      refine g_getN 27 o cf12 (by decide) mw_1213 dX12_keep_56 q56 ?_
      refine g_sipush (v := 153) o dX12_keep_59 (by decide) ?_
      refine g_aload_n 0 o dX12_keep_62 rfl rfl ?_
      obtain ⟨x63, q63, e⟩ := ob e
      refine g_getI 29 o cf12 (by decide) mw_1215 dX12_keep_63 q63 ?_
      refine g_imul (x := (153 : Int32)) (y := x63) o dX12_keep_66 ?_
      refine g_iload_n 1 o dX12_keep_67 rfl rfl ?_
      refine g_iadd (x := ((153 : Int32) * x63)) (y := v1) o dX12_keep_68 ?_
      refine g_aload_n 0 o dX12_keep_69 rfl rfl ?_
      obtain ⟨x70, q70, e⟩ := ob e
      refine g_getN 6 o cf12 (by decide) mw_1192 dX12_keep_70 q70 ?_
      refine g_sipush (v := 312) o dX12_keep_73 (by decide) ?_
      refine g_iload_n 1 o dX12_keep_76 rfl rfl ?_
      refine g_iadd (x := (312 : Int32)) (y := v1) o dX12_keep_77 ?_
      obtain ⟨x78, q78, e⟩ := ob e
      refine g_iald o dX12_keep_78 q78 ?_
      obtain ⟨h79, q79, e⟩ := ob e
      refine g_iast o dX12_keep_79 q79 ?_
      refine g_iinc (k := 1) (v := (v1 + 1)) [(1, .int (v1 + 1)), (0, .ref v0)] o dX12_keep_80 rfl rfl (by decide) rfl ?_
      refine g_goto 48 o dX12_keep_83 (by decide) ?_
      refine g_sb [1, 0] rfl ?_
      exact ih v0 (v1 + 1) h79 hz q e
set_option maxRecDepth 100000 in
set_option maxHeartbeats 4000000 in
theorem kX12_keep_46 {X : Cx} (f0 : Nat) (o : Ok X cX12_keep RX12 2 rmX12_keep none) (v0 : Nat) (h : Hp) (hz : Hp) (q : Rt X none hz 0 0) (e : bX12_keep_46 f0 v0 h = some hz) : G X 2 46 [(0, .ref v0)] [] h 0 0 := by
  unfold bX12_keep_46 at e
  refine g_iconst (v := 0) o dX12_keep_46 (by decide) ?_
  refine g_istore_n [(1, .int 0), (0, .ref v0)] o dX12_keep_47 rfl (by decide) rfl ?_
  refine g_sb [1, 0] rfl ?_
  exact kX12_keep_48 f0 o f0 v0 0 h hz q e
set_option maxRecDepth 100000 in
set_option maxHeartbeats 4000000 in
theorem kX12_keep_11 {X : Cx} (f0 : Nat) (o : Ok X cX12_keep RX12 2 rmX12_keep none) (f : Nat) (v0 : Nat) (v1 : Int32) (h : Hp) (hz : Hp) (q : Rt X none hz 0 0) (e : bX12_keep_11 f0 f v0 v1 h = some hz) : G X 2 11 [(0, .ref v0), (1, .int v1)] [] h 0 0 := by
  induction f generalizing v0 v1 h hz with
  | zero => cases e
  | succ f1 ih =>
    unfold bX12_keep_11 at e
    refine g_iload_n 1 o dX12_keep_11 rfl rfl ?_
    refine g_sipush (v := 1071) o dX12_keep_12 (by decide) ?_
    refine g_icmp_ge (x := v1) (y := 1071) 40 o dX12_keep_15 (by decide) (fun u => ?_) (fun u => ?_)
    · rw [if_pos u] at e
      refine g_aload_n 0 o dX12_keep_40 rfl rfl ?_
      refine g_bipush (v := 7) o dX12_keep_41 (by decide) ?_
      obtain ⟨h43, q43, e⟩ := ob e
      refine g_put (ty1 := .int) 29 o cf12 (by decide) mw_1215 rfl (by decide +kernel) rfl rfl dX12_keep_43 q43 ?_
      refine g_sb [0] rfl ?_
      exact kX12_keep_46 f0 o v0 h43 hz q e
    · rw [if_neg u] at e
      refine g_aload_n 0 o dX12_keep_18 rfl rfl ?_
      obtain ⟨x19, q19, e⟩ := ob e
      refine g_getN 27 o cf12 (by decide) mw_1213 dX12_keep_19 q19 ?_
      refine g_iload_n 1 o dX12_keep_22 rfl rfl ?_
      refine g_aload_n 0 o dX12_keep_23 rfl rfl ?_
      obtain ⟨x24, q24, e⟩ := ob e
      refine g_getN 27 o cf12 (by decide) mw_1213 dX12_keep_24 q24 ?_
      refine g_iload_n 1 o dX12_keep_27 rfl rfl ?_
      refine g_sipush (v := 153) o dX12_keep_28 (by decide) ?_
      refine g_iadd (x := v1) (y := 153) o dX12_keep_31 ?_
      obtain ⟨x32, q32, e⟩ := ob e
      refine g_iald o dX12_keep_32 q32 ?_
      obtain ⟨h33, q33, e⟩ := ob e
      refine g_iast o dX12_keep_33 q33 ?_
      refine g_iinc (k := 1) (v := (v1 + 1)) [(1, .int (v1 + 1)), (0, .ref v0)] o dX12_keep_34 rfl rfl (by decide) rfl ?_
      refine g_goto 11 o dX12_keep_37 (by decide) ?_
      refine g_sb [1, 0] rfl ?_
      exact ih v0 (v1 + 1) h33 hz q e
theorem yo_X12_keep : yok yX12_keep 0 := ⟨by decide, by decide, by decide +kernel⟩
set_option maxRecDepth 100000 in
set_option maxHeartbeats 4000000 in
theorem mX12_keep {l : Launch} {D : va_G} {cy : Nat → ClassId} {f0 : Nat} {a : Nat} {h : Hp} {hz : Hp} (e : fX12_keep f0 a h = some hz) : MC l D cy yX12_keep cX12_keep 2 none rmX12_keep [.ref a] h none hz := by
  refine mc_of2 (by decide) (Nat.le_of_ble_eq_true rfl) (fun X hl hD hy hin o q => ?_)
  subst hl; subst hD; subst hy
  show G X 2 0 [(0, .ref a)] [] h 0 0
  unfold fX12_keep at e
  refine g_aload_n 0 o dX12_keep_0 rfl rfl ?_
  obtain ⟨x1, q1, e⟩ := ob e
  refine g_getI 29 o cf12 (by decide) mw_1215 dX12_keep_1 q1 ?_
  refine g_bipush (v := 8) o dX12_keep_4 (by decide) ?_
  refine g_icmp_ne (x := x1) (y := 8) 46 o dX12_keep_6 (by decide) (fun u => ?_) (fun u => ?_)
  · rw [if_neg u] at e
    exact kX12_keep_46 f0 o a h hz q e
  · rw [if_pos u] at e
    refine g_iconst (v := 0) o dX12_keep_9 (by decide) ?_
    refine g_istore_n [(1, .int 0), (0, .ref a)] o dX12_keep_10 rfl (by decide) rfl ?_
    refine g_sb [1, 0] rfl ?_
    exact kX12_keep_11 f0 o f0 a 0 h hz q e
theorem yo_X12_paints : yok yX12_paints 1 := ⟨by decide, by decide, by decide +kernel⟩
set_option maxRecDepth 100000 in
set_option maxHeartbeats 4000000 in
theorem mX12_paints {l : Launch} {D : va_G} {cy : Nat → ClassId} {f0 : Nat} {a : Nat} {p0 : Int32} {h : Hp} {hz : Hp} (e : fX12_paints f0 a p0 h = some hz) : MC l D cy yX12_paints cX12_paints 2 none rmX12_paints [.ref a, .int p0] h none hz := by
  refine mc_of2 (by decide) (Nat.le_of_ble_eq_true rfl) (fun X hl hD hy hin o q => ?_)
  subst hl; subst hD; subst hy
  show G X 2 0 [(0, .ref a), (1, .int p0)] [] h 0 0
  unfold fX12_paints at e
  refine g_aload_n 0 o dX12_paints_0 rfl rfl ?_
  obtain ⟨x1, q1, e⟩ := ob e
  refine g_getN 6 o cf12 (by decide) mw_1192 dX12_paints_1 q1 ?_
  refine g_sipush (v := 315) o dX12_paints_4 (by decide) ?_
  refine g_aload_n 0 o dX12_paints_7 rfl rfl ?_
  obtain ⟨x8, q8, e⟩ := ob e
  refine g_getN 6 o cf12 (by decide) mw_1192 dX12_paints_8 q8 ?_
  refine g_sipush (v := 314) o dX12_paints_11 (by decide) ?_
  obtain ⟨x14, q14, e⟩ := ob e
  refine g_iald o dX12_paints_14 q14 ?_
  obtain ⟨h15, q15, e⟩ := ob e
  refine g_iast o dX12_paints_15 q15 ?_
  refine g_aload_n 0 o dX12_paints_16 rfl rfl ?_
  obtain ⟨x17, q17, e⟩ := ob e
  refine g_getN 6 o cf12 (by decide) mw_1192 dX12_paints_17 q17 ?_
  refine g_sipush (v := 314) o dX12_paints_20 (by decide) ?_
  refine g_iload_n 1 o dX12_paints_23 rfl rfl ?_
  obtain ⟨h24, q24, e⟩ := ob e
  refine g_iast o dX12_paints_24 q24 ?_
  refine g_aload_n 0 o dX12_paints_25 rfl rfl ?_
  obtain ⟨x26, q26, e⟩ := ob e
  refine g_getN 6 o cf12 (by decide) mw_1192 dX12_paints_26 q26 ?_
  refine g_sipush (v := 318) o dX12_paints_29 (by decide) ?_
  refine g_dup2 o dX12_paints_32 rfl rfl ?_
  obtain ⟨x33, q33, e⟩ := ob e
  refine g_iald o dX12_paints_33 q33 ?_
  refine g_iconst (v := 1) o dX12_paints_34 (by decide) ?_
  refine g_iload_n 1 o dX12_paints_35 rfl rfl ?_
  refine g_ishl (x := (1 : Int32)) (y := p0) o dX12_paints_36 ?_
  refine g_ior (x := x33) (y := ((1 : Int32) <<< (p0 &&& 31))) o dX12_paints_37 ?_
  obtain ⟨h38, q38, e⟩ := ob e
  refine g_iast o dX12_paints_38 q38 ?_
  refine g_aload_n 0 o dX12_paints_39 rfl rfl ?_
  obtain ⟨x40, q40, e⟩ := ob e
  refine g_getN 6 o cf12 (by decide) mw_1192 dX12_paints_40 q40 ?_
  refine g_sipush (v := 312) o dX12_paints_43 (by decide) ?_
  refine g_dup2 o dX12_paints_46 rfl rfl ?_
  obtain ⟨x47, q47, e⟩ := ob e
  refine g_iald o dX12_paints_47 q47 ?_
  refine g_iconst (v := 1) o dX12_paints_48 (by decide) ?_
  refine g_iadd (x := x47) (y := 1) o dX12_paints_49 ?_
  obtain ⟨h50, q50, e⟩ := ob e
  refine g_iast o dX12_paints_50 q50 ?_
  exact g_vret o dX12_paints_51 (rt_0 q e)
theorem yo_X12_paint : yok yX12_paint 1 := ⟨by decide, by decide, by decide +kernel⟩
set_option maxRecDepth 100000 in
set_option maxHeartbeats 4000000 in
theorem mX12_paint {l : Launch} {D : va_G} {cy : Nat → ClassId} {f0 : Nat} {a : Nat} {p0 : Int32} {h : Hp} {r : Int32} {hz : Hp} (e : fX12_paint f0 a p0 h = some (r, hz)) : MC l D cy yX12_paint cX12_paint 3 (some .int) rmX12_paint [.ref a, .int p0] h (some (.int r)) hz := by
  refine mc_of2 (by decide) (Nat.le_of_ble_eq_true rfl) (fun X hl hD hy hin o q => ?_)
  subst hl; subst hD; subst hy
  show G X 3 0 [(0, .ref a), (1, .int p0)] [] h 0 0
  unfold fX12_paint at e
  refine g_aload_n 0 o dX12_paint_0 rfl rfl ?_
  refine g_iconst (v := 0) o dX12_paint_1 (by decide) ?_
  obtain ⟨h2, q2, e⟩ := ob e
  refine g_put (ty1 := .int) 0 o cf12 (by decide) mw_1186 rfl (by decide +kernel) rfl rfl dX12_paint_2 q2 ?_
  refine g_aload_n 0 o dX12_paint_5 rfl rfl ?_
  refine g_iload_n 1 o dX12_paint_6 rfl rfl ?_
  obtain ⟨_, k7, e⟩ := ob e
  obtain ⟨x7, h7, q7, e⟩ := ob2_s e
  refine g_callVv [.int p0] o (mX12_isShip q7) cf12 (ckO_s k7) mw_1399 mw_1400 mw_1753 mw_19 mw_1401 rfl yo_X12_isShip rfl rfl (Nat.le_of_ble_eq_true rfl) ⟨by decide, by decide⟩ ⟨rfl, rfl⟩ dX12_paint_7 ⟨by decide, by decide⟩ ?_
  refine g_if_ne (x := x7) 15 o dX12_paint_10 (by decide) (fun u => ?_) (fun u => ?_)
  · rw [if_neg u] at e
    refine g_aload_n 0 o dX12_paint_15 rfl rfl ?_
    refine g_iload_n 1 o dX12_paint_16 rfl rfl ?_
    obtain ⟨_, k17, e⟩ := ob e
    obtain ⟨x17, h17, q17, e⟩ := ob2_s e
    refine g_callVv [.int p0] o (mX12_whyPaint q17) cf12 (ckO_s k17) mw_1413 mw_1414 mw_1755 mw_19 mw_1415 rfl yo_X12_whyPaint rfl rfl (Nat.le_of_ble_eq_true rfl) ⟨by decide, by decide⟩ ⟨rfl, rfl⟩ dX12_paint_17 ⟨by decide, by decide⟩ ?_
    refine g_istore_n [(2, .int x17), (0, .ref a), (1, .int p0)] o dX12_paint_20 rfl (by decide) rfl ?_
    refine g_iload_n 0 o dX12_paint_21 rfl rfl ?_
    refine g_if_le (x := x17) 27 o dX12_paint_22 (by decide) (fun u => ?_) (fun u => ?_)
    · rw [if_pos u] at e
      refine g_aload_n 1 o dX12_paint_27 rfl rfl ?_
      obtain ⟨_, k28, e⟩ := ob e
      obtain ⟨h28, q28, e⟩ := ob e
      refine g_callV0 [] o (mX12_keep q28) cf12 (ckO_s k28) mw_1431 mw_1432 mw_1761 mw_19 mw_1433 rfl yo_X12_keep rfl rfl (Nat.le_of_ble_eq_true rfl) ⟨by decide, by decide⟩ ⟨rfl, rfl⟩ dX12_paint_28 ⟨by decide, by decide⟩ ?_
      refine g_aload_n 1 o dX12_paint_31 rfl rfl ?_
      refine g_iload_n 2 o dX12_paint_32 rfl rfl ?_
      obtain ⟨_, k33, e⟩ := ob e
      obtain ⟨h33, q33, e⟩ := ob e
      refine g_callV0 [.int p0] o (mX12_paints q33) cf12 (ckO_s k33) mw_1434 mw_1435 mw_1762 mw_19 mw_1436 rfl yo_X12_paints rfl rfl (Nat.le_of_ble_eq_true rfl) ⟨by decide, by decide⟩ ⟨rfl, rfl⟩ dX12_paint_33 ⟨by decide, by decide⟩ ?_
      refine g_iconst (v := 0) o dX12_paint_36 (by decide) ?_
      exact g_iret o dX12_paint_37 (rt_v q e)
    · rw [if_neg u] at e
      refine g_iload_n 0 o dX12_paint_25 rfl rfl ?_
      exact g_iret o dX12_paint_26 (rt_v q e)
  · rw [if_pos u] at e
    refine g_iconst (v := -1) o dX12_paint_13 (by decide) ?_
    exact g_iret o dX12_paint_14 (rt_v q e)
theorem yo_X12_whySail : yok yX12_whySail 1 := ⟨by decide, by decide, by decide +kernel⟩
set_option maxRecDepth 100000 in
set_option maxHeartbeats 4000000 in
theorem mX12_whySail {l : Launch} {D : va_G} {cy : Nat → ClassId} {f0 : Nat} {a : Nat} {p0 : Int32} {h : Hp} {r : Int32} {hz : Hp} (e : fX12_whySail f0 a p0 h = some (r, hz)) : MC l D cy yX12_whySail cX12_whySail 3 (some .int) rmX12_whySail [.ref a, .int p0] h (some (.int r)) hz := by
  refine mc_of2 (by decide) (Nat.le_of_ble_eq_true rfl) (fun X hl hD hy hin o q => ?_)
  subst hl; subst hD; subst hy
  show G X 3 0 [(0, .ref a), (1, .int p0)] [] h 0 0
  unfold fX12_whySail at e
  refine g_aload_n 0 o dX12_whySail_0 rfl rfl ?_
  obtain ⟨_, k1, e⟩ := ob e
  obtain ⟨x1, h1, q1, e⟩ := ob2_s e
  refine g_callVv [] o (mX12_canAct q1) cf12 (ckO_s k1) mw_1416 mw_1417 mw_1756 mw_19 mw_1418 rfl yo_X12_canAct rfl rfl (Nat.le_of_ble_eq_true rfl) ⟨by decide, by decide⟩ ⟨rfl, rfl⟩ dX12_whySail_1 ⟨by decide, by decide⟩ ?_
  refine g_if_ne (x := x1) 9 o dX12_whySail_4 (by decide) (fun u => ?_) (fun u => ?_)
  · rw [if_neg u] at e
    refine g_aload_n 0 o dX12_whySail_9 rfl rfl ?_
    obtain ⟨x10, q10, e⟩ := ob e
    refine g_getN 6 o cf12 (by decide) mw_1192 dX12_whySail_10 q10 ?_
    refine g_bipush (v := 8) o dX12_whySail_13 (by decide) ?_
    refine g_aload_n 0 o dX12_whySail_15 rfl rfl ?_
    obtain ⟨x16, q16, e⟩ := ob e
    refine g_getN 6 o cf12 (by decide) mw_1192 dX12_whySail_16 q16 ?_
    refine g_sipush (v := 313) o dX12_whySail_19 (by decide) ?_
    obtain ⟨x22, q22, e⟩ := ob e
    refine g_iald o dX12_whySail_22 q22 ?_
    refine g_iload_n 1 o dX12_whySail_23 rfl rfl ?_
    obtain ⟨x24, h24, q24, e⟩ := ob2_s e
    refine g_callSv [.int x22, .int p0] o (mX12_cell q24) mw_1180 mw_1181 mw_19 mw_1182 yo_X12_cell rfl rfl (Nat.le_of_ble_eq_true rfl) ⟨by decide, by decide⟩ ⟨rfl, rfl⟩ dX12_whySail_24 ⟨by decide, by decide⟩ ?_
    refine g_iadd (x := (8 : Int32)) (y := x24) o dX12_whySail_27 ?_
    obtain ⟨x28, q28, e⟩ := ob e
    refine g_iald o dX12_whySail_28 q28 ?_
    refine g_istore_n [(2, .int x28), (0, .ref a), (1, .int p0)] o dX12_whySail_29 rfl (by decide) rfl ?_
    refine g_iload_n 0 o dX12_whySail_30 rfl rfl ?_
    refine g_if_ne (x := x28) 38 o dX12_whySail_31 (by decide) (fun u => ?_) (fun u => ?_)
    · rw [if_neg u] at e
      refine g_aload_n 1 o dX12_whySail_38 rfl rfl ?_
      refine g_iload_n 0 o dX12_whySail_39 rfl rfl ?_
      obtain ⟨_, k40, e⟩ := ob e
      obtain ⟨x40, h40, q40, e⟩ := ob2_s e
      refine g_callVv [.int x28] o (mX12_late q40) cf12 (ckO_s k40) mw_1428 mw_1429 mw_1760 mw_19 mw_1430 rfl yo_X12_late rfl rfl (Nat.le_of_ble_eq_true rfl) ⟨by decide, by decide⟩ ⟨rfl, rfl⟩ dX12_whySail_40 ⟨by decide, by decide⟩ ?_
      exact g_iret o dX12_whySail_43 (rt_v q e)
    · rw [if_pos u] at e
      refine g_iconst (v := 2) o dX12_whySail_34 (by decide) ?_
      refine g_goto 43 o dX12_whySail_35 (by decide) ?_
      exact g_iret o dX12_whySail_43 (rt_v q e)
  · rw [if_pos u] at e
    refine g_iconst (v := 1) o dX12_whySail_7 (by decide) ?_
    exact g_iret o dX12_whySail_8 (rt_v q e)
set_option maxRecDepth 100000 in
set_option maxHeartbeats 4000000 in
theorem kX12_learnsName_34 {X : Cx} (f0 : Nat) (o : Ok X cX12_learnsName RX12 5 rmX12_learnsName none) (v0 : Nat) (v3 : Int32) (v4 : Int32) (h : Hp) (hz : Hp) (q : Rt X none hz 0 0) (e : bX12_learnsName_34 f0 v0 v3 v4 h = some hz) : G X 5 34 [(0, .ref v0), (3, .int v3), (4, .int v4)] [] h 0 0 := by
  unfold bX12_learnsName_34 at e
  refine g_aload_n 0 o dX12_learnsName_34 rfl rfl ?_
  obtain ⟨x35, q35, e⟩ := ob e
  refine g_getN 6 o cf12 (by decide) mw_1192 dX12_learnsName_35 q35 ?_
  refine g_iload 2 o dX12_learnsName_38 rfl ?_
  refine g_iload_n 1 o dX12_learnsName_40 rfl rfl ?_
  refine g_iconst (v := 1) o dX12_learnsName_41 (by decide) ?_
  refine g_iadd (x := v3) (y := 1) o dX12_learnsName_42 ?_
  obtain ⟨h43, q43, e⟩ := ob e
  refine g_iast o dX12_learnsName_43 q43 ?_
  exact g_vret o dX12_learnsName_44 (rt_0 q e)
theorem yo_X12_learnsName : yok yX12_learnsName 3 := ⟨by decide, by decide, by decide +kernel⟩
set_option maxRecDepth 100000 in
set_option maxHeartbeats 4000000 in
theorem mX12_learnsName {l : Launch} {D : va_G} {cy : Nat → ClassId} {f0 : Nat} {a : Nat} {p0 : Int32} {p1 : Int32} {p2 : Int32} {h : Hp} {hz : Hp} (e : fX12_learnsName f0 a p0 p1 p2 h = some hz) : MC l D cy yX12_learnsName cX12_learnsName 5 none rmX12_learnsName [.ref a, .int p0, .int p1, .int p2] h none hz := by
  refine mc_of2 (by decide) (Nat.le_of_ble_eq_true rfl) (fun X hl hD hy hin o q => ?_)
  subst hl; subst hD; subst hy
  show G X 5 0 [(0, .ref a), (1, .int p0), (2, .int p1), (3, .int p2)] [] h 0 0
  unfold fX12_learnsName at e
  refine g_sipush (v := 336) o dX12_learnsName_0 (by decide) ?_
  refine g_iload_n 2 o dX12_learnsName_3 rfl rfl ?_
  refine g_iload_n 1 o dX12_learnsName_4 rfl rfl ?_
  obtain ⟨x5, h5, q5, e⟩ := ob2_s e
  refine g_callSv [.int p1, .int p0] o (mX12_cell q5) mw_1180 mw_1181 mw_19 mw_1182 yo_X12_cell rfl rfl (Nat.le_of_ble_eq_true rfl) ⟨by decide, by decide⟩ ⟨rfl, rfl⟩ dX12_learnsName_5 ⟨by decide, by decide⟩ ?_
  refine g_iadd (x := (336 : Int32)) (y := x5) o dX12_learnsName_8 ?_
  refine g_istore [(4, .int ((336 : Int32) + x5)), (0, .ref a), (1, .int p0), (2, .int p1), (3, .int p2)] o dX12_learnsName_9 (by decide) rfl ?_
  refine g_aload_n 1 o dX12_learnsName_11 rfl rfl ?_
  obtain ⟨x12, q12, e⟩ := ob e
  refine g_getN 6 o cf12 (by decide) mw_1192 dX12_learnsName_12 q12 ?_
  refine g_iload 0 o dX12_learnsName_15 rfl ?_
  obtain ⟨x17, q17, e⟩ := ob e
  refine g_iald o dX12_learnsName_17 q17 ?_
  refine g_if_eq (x := x17) 34 o dX12_learnsName_18 (by decide) (fun u => ?_) (fun u => ?_)
  · rw [if_pos u] at e
    refine g_sb [1, 4, 0] rfl ?_
    exact kX12_learnsName_34 f0 o a p2 ((336 : Int32) + x5) h5 hz q e
  · rw [if_neg u] at e
    refine g_aload_n 1 o dX12_learnsName_21 rfl rfl ?_
    obtain ⟨x22, q22, e⟩ := ob e
    refine g_getN 6 o cf12 (by decide) mw_1192 dX12_learnsName_22 q22 ?_
    refine g_iload 0 o dX12_learnsName_25 rfl ?_
    obtain ⟨x27, q27, e⟩ := ob e
    refine g_iald o dX12_learnsName_27 q27 ?_
    refine g_iload_n 4 o dX12_learnsName_28 rfl rfl ?_
    refine g_iconst (v := 1) o dX12_learnsName_29 (by decide) ?_
    refine g_iadd (x := p2) (y := 1) o dX12_learnsName_30 ?_
    refine g_icmp_le (x := x27) (y := (p2 + 1)) 44 o dX12_learnsName_31 (by decide) (fun u => ?_) (fun u => ?_)
    · rw [if_pos u] at e
      exact g_vret o dX12_learnsName_44 (rt_0 q e)
    · rw [if_neg u] at e
      refine g_sb [1, 4, 0] rfl ?_
      exact kX12_learnsName_34 f0 o a p2 ((336 : Int32) + x5) h5 hz q e
set_option maxRecDepth 100000 in
set_option maxHeartbeats 4000000 in
theorem kX12_sails_115 {X : Cx} (f0 : Nat) (o : Ok X cX12_sails RX12 3 rmX12_sails none) (f : Nat) (v0 : Nat) (v1 : Int32) (v2 : Int32) (h : Hp) (hz : Hp) (q : Rt X none hz 0 0) (e : bX12_sails_115 f0 f v0 v1 v2 h = some hz) : G X 3 115 [(0, .ref v0), (1, .int v1), (2, .int v2)] [] h 0 0 := by
  induction f generalizing v0 v1 v2 h hz with
  | zero => cases e
  | succ f1 ih =>
    unfold bX12_sails_115 at e
    refine g_iload_n 2 o dX12_sails_115 rfl rfl ?_
    refine g_aload_n 0 o dX12_sails_116 rfl rfl ?_
    obtain ⟨x117, q117, e⟩ := ob e
    refine g_getN 6 o cf12 (by decide) mw_1192 dX12_sails_117 q117 ?_
    refine g_iconst (v := 1) o dX12_sails_120 (by decide) ?_
    obtain ⟨x121, q121, e⟩ := ob e
    refine g_iald o dX12_sails_121 q121 ?_
    refine g_icmp_ge (x := v2) (y := x121) 156 o dX12_sails_122 (by decide) (fun u => ?_) (fun u => ?_)
    · rw [if_pos u] at e
      exact g_vret o dX12_sails_156 (rt_0 q e)
    · rw [if_neg u] at e
      refine g_aload_n 0 o dX12_sails_125 rfl rfl ?_
      obtain ⟨x126, q126, e⟩ := ob e
      refine g_getN 6 o cf12 (by decide) mw_1192 dX12_sails_126 q126 ?_
      refine g_sipush (v := 316) o dX12_sails_129 (by decide) ?_
      refine g_dup2 o dX12_sails_132 rfl rfl ?_
      obtain ⟨x133, q133, e⟩ := ob e
      refine g_iald o dX12_sails_133 q133 ?_
      refine g_aload_n 0 o dX12_sails_134 rfl rfl ?_
      obtain ⟨x135, q135, e⟩ := ob e
      refine g_getN 6 o cf12 (by decide) mw_1192 dX12_sails_135 q135 ?_
      refine g_sipush (v := 136) o dX12_sails_138 (by decide) ?_
      refine g_iload_n 2 o dX12_sails_141 rfl rfl ?_
      refine g_iload_n 1 o dX12_sails_142 rfl rfl ?_
      obtain ⟨x143, h143, q143, e⟩ := ob2_s e
      refine g_callSv [.int v2, .int v1] o (mX12_cell q143) mw_1180 mw_1181 mw_19 mw_1182 yo_X12_cell rfl rfl (Nat.le_of_ble_eq_true rfl) ⟨by decide, by decide⟩ ⟨rfl, rfl⟩ dX12_sails_143 ⟨by decide, by decide⟩ ?_
      refine g_iadd (x := (136 : Int32)) (y := x143) o dX12_sails_146 ?_
      obtain ⟨x147, q147, e⟩ := ob e
      refine g_iald o dX12_sails_147 q147 ?_
      refine g_isub (x := x133) (y := x147) o dX12_sails_148 ?_
      obtain ⟨h149, q149, e⟩ := ob e
      refine g_iast o dX12_sails_149 q149 ?_
      refine g_iinc (k := 2) (v := (v2 + 1)) [(2, .int (v2 + 1)), (0, .ref v0), (1, .int v1)] o dX12_sails_150 rfl rfl (by decide) rfl ?_
      refine g_goto 115 o dX12_sails_153 (by decide) ?_
      refine g_sb [1, 2, 0] rfl ?_
      exact ih v0 v1 (v2 + 1) h149 hz q e
theorem yo_X12_sails : yok yX12_sails 1 := ⟨by decide, by decide, by decide +kernel⟩
set_option maxRecDepth 100000 in
set_option maxHeartbeats 4000000 in
theorem mX12_sails {l : Launch} {D : va_G} {cy : Nat → ClassId} {f0 : Nat} {a : Nat} {p0 : Int32} {h : Hp} {hz : Hp} (e : fX12_sails f0 a p0 h = some hz) : MC l D cy yX12_sails cX12_sails 3 none rmX12_sails [.ref a, .int p0] h none hz := by
  refine mc_of2 (by decide) (Nat.le_of_ble_eq_true rfl) (fun X hl hD hy hin o q => ?_)
  subst hl; subst hD; subst hy
  show G X 3 0 [(0, .ref a), (1, .int p0)] [] h 0 0
  unfold fX12_sails at e
  refine g_aload_n 0 o dX12_sails_0 rfl rfl ?_
  obtain ⟨x1, q1, e⟩ := ob e
  refine g_getN 6 o cf12 (by decide) mw_1192 dX12_sails_1 q1 ?_
  refine g_sipush (v := 312) o dX12_sails_4 (by decide) ?_
  refine g_dup2 o dX12_sails_7 rfl rfl ?_
  obtain ⟨x8, q8, e⟩ := ob e
  refine g_iald o dX12_sails_8 q8 ?_
  refine g_aload_n 0 o dX12_sails_9 rfl rfl ?_
  obtain ⟨x10, q10, e⟩ := ob e
  refine g_getN 6 o cf12 (by decide) mw_1192 dX12_sails_10 q10 ?_
  refine g_bipush (v := 8) o dX12_sails_13 (by decide) ?_
  refine g_aload_n 0 o dX12_sails_15 rfl rfl ?_
  obtain ⟨x16, q16, e⟩ := ob e
  refine g_getN 6 o cf12 (by decide) mw_1192 dX12_sails_16 q16 ?_
  refine g_sipush (v := 313) o dX12_sails_19 (by decide) ?_
  obtain ⟨x22, q22, e⟩ := ob e
  refine g_iald o dX12_sails_22 q22 ?_
  refine g_iload_n 1 o dX12_sails_23 rfl rfl ?_
  obtain ⟨x24, h24, q24, e⟩ := ob2_s e
  refine g_callSv [.int x22, .int p0] o (mX12_cell q24) mw_1180 mw_1181 mw_19 mw_1182 yo_X12_cell rfl rfl (Nat.le_of_ble_eq_true rfl) ⟨by decide, by decide⟩ ⟨rfl, rfl⟩ dX12_sails_24 ⟨by decide, by decide⟩ ?_
  refine g_iadd (x := (8 : Int32)) (y := x24) o dX12_sails_27 ?_
  obtain ⟨x28, q28, e⟩ := ob e
  refine g_iald o dX12_sails_28 q28 ?_
  refine g_iadd (x := x8) (y := x28) o dX12_sails_29 ?_
  obtain ⟨h30, q30, e⟩ := ob e
  refine g_iast o dX12_sails_30 q30 ?_
  refine g_aload_n 0 o dX12_sails_31 rfl rfl ?_
  obtain ⟨x32, q32, e⟩ := ob e
  refine g_getN 6 o cf12 (by decide) mw_1192 dX12_sails_32 q32 ?_
  refine g_sipush (v := 313) o dX12_sails_35 (by decide) ?_
  refine g_iload_n 1 o dX12_sails_38 rfl rfl ?_
  obtain ⟨h39, q39, e⟩ := ob e
  refine g_iast o dX12_sails_39 q39 ?_
  refine g_aload_n 0 o dX12_sails_40 rfl rfl ?_
  obtain ⟨x41, q41, e⟩ := ob e
  refine g_getN 6 o cf12 (by decide) mw_1192 dX12_sails_41 q41 ?_
  refine g_sipush (v := 320) o dX12_sails_44 (by decide) ?_
  refine g_iload_n 1 o dX12_sails_47 rfl rfl ?_
  refine g_iadd (x := (320 : Int32)) (y := p0) o dX12_sails_48 ?_
  refine g_dup2 o dX12_sails_49 rfl rfl ?_
  obtain ⟨x50, q50, e⟩ := ob e
  refine g_iald o dX12_sails_50 q50 ?_
  refine g_iconst (v := 1) o dX12_sails_51 (by decide) ?_
  refine g_iadd (x := x50) (y := 1) o dX12_sails_52 ?_
  obtain ⟨h53, q53, e⟩ := ob e
  refine g_iast o dX12_sails_53 q53 ?_
  refine g_aload_n 0 o dX12_sails_54 rfl rfl ?_
  obtain ⟨x55, q55, e⟩ := ob e
  refine g_getN 6 o cf12 (by decide) mw_1192 dX12_sails_55 q55 ?_
  refine g_sipush (v := 464) o dX12_sails_58 (by decide) ?_
  refine g_dup2 o dX12_sails_61 rfl rfl ?_
  obtain ⟨x62, q62, e⟩ := ob e
  refine g_iald o dX12_sails_62 q62 ?_
  refine g_iconst (v := 1) o dX12_sails_63 (by decide) ?_
  refine g_iload_n 1 o dX12_sails_64 rfl rfl ?_
  refine g_ishl (x := (1 : Int32)) (y := p0) o dX12_sails_65 ?_
  refine g_ior (x := x62) (y := ((1 : Int32) <<< (p0 &&& 31))) o dX12_sails_66 ?_
  obtain ⟨h67, q67, e⟩ := ob e
  refine g_iast o dX12_sails_67 q67 ?_
  refine g_aload_n 0 o dX12_sails_68 rfl rfl ?_
  obtain ⟨x69, q69, e⟩ := ob e
  refine g_getN 6 o cf12 (by decide) mw_1192 dX12_sails_69 q69 ?_
  refine g_sipush (v := 319) o dX12_sails_72 (by decide) ?_
  refine g_dup2 o dX12_sails_75 rfl rfl ?_
  obtain ⟨x76, q76, e⟩ := ob e
  refine g_iald o dX12_sails_76 q76 ?_
  refine g_iconst (v := 1) o dX12_sails_77 (by decide) ?_
  refine g_iadd (x := x76) (y := 1) o dX12_sails_78 ?_
  obtain ⟨h79, q79, e⟩ := ob e
  refine g_iast o dX12_sails_79 q79 ?_
  refine g_aload_n 0 o dX12_sails_80 rfl rfl ?_
  refine g_iload_n 1 o dX12_sails_81 rfl rfl ?_
  refine g_aload_n 0 o dX12_sails_82 rfl rfl ?_
  obtain ⟨x83, q83, e⟩ := ob e
  refine g_getN 6 o cf12 (by decide) mw_1192 dX12_sails_83 q83 ?_
  refine g_sipush (v := 314) o dX12_sails_86 (by decide) ?_
  obtain ⟨x89, q89, e⟩ := ob e
  refine g_iald o dX12_sails_89 q89 ?_
  obtain ⟨_, k90, e⟩ := ob e
  obtain ⟨x90, h90, q90, e⟩ := ob2_s e
  refine g_callVv [.int p0, .int x89] o (mX12_knowsFrom q90) cf12 (ckO_s k90) mw_1378 mw_1379 mw_1750 mw_19 mw_1380 rfl yo_X12_knowsFrom rfl rfl (Nat.le_of_ble_eq_true rfl) ⟨by decide, by decide⟩ ⟨rfl, rfl⟩ dX12_sails_90 ⟨by decide, by decide⟩ ?_
  refine g_aload_n 0 o dX12_sails_93 rfl rfl ?_
  obtain ⟨x94, q94, e⟩ := ob e
  refine g_getN 6 o cf12 (by decide) mw_1192 dX12_sails_94 q94 ?_
  refine g_sipush (v := 312) o dX12_sails_97 (by decide) ?_
  obtain ⟨x100, q100, e⟩ := ob e
  refine g_iald o dX12_sails_100 q100 ?_
  refine g_icmp_gt (x := x90) (y := x100) 157 o dX12_sails_101 (by decide) (fun u => ?_) (fun u => ?_)
  · rw [if_pos u] at e
    refine g_aload_n 0 o dX12_sails_157 rfl rfl ?_
    obtain ⟨x158, q158, e⟩ := ob e
    refine g_getN 6 o cf12 (by decide) mw_1192 dX12_sails_158 q158 ?_
    refine g_sipush (v := 315) o dX12_sails_161 (by decide) ?_
    obtain ⟨x164, q164, e⟩ := ob e
    refine g_iald o dX12_sails_164 q164 ?_
    refine g_if_lt (x := x164) 184 o dX12_sails_165 (by decide) (fun u => ?_) (fun u => ?_)
    · rw [if_pos u] at e
      exact g_vret o dX12_sails_184 (rt_0 q e)
    · rw [if_neg u] at e
      refine g_aload_n 0 o dX12_sails_168 rfl rfl ?_
      refine g_iload_n 1 o dX12_sails_169 rfl rfl ?_
      refine g_aload_n 0 o dX12_sails_170 rfl rfl ?_
      obtain ⟨x171, q171, e⟩ := ob e
      refine g_getN 6 o cf12 (by decide) mw_1192 dX12_sails_171 q171 ?_
      refine g_sipush (v := 312) o dX12_sails_174 (by decide) ?_
      obtain ⟨x177, q177, e⟩ := ob e
      refine g_iald o dX12_sails_177 q177 ?_
      obtain ⟨_, k178, e⟩ := ob e
      obtain ⟨x178, h178, q178, e⟩ := ob2_s e
      refine g_callVv [.int p0, .int x177] o (mX12_isRain q178) cf12 (ckO_s k178) mw_1381 mw_1382 mw_1751 mw_19 mw_1383 rfl yo_X12_isRain rfl rfl (Nat.le_of_ble_eq_true rfl) ⟨by decide, by decide⟩ ⟨rfl, rfl⟩ dX12_sails_178 ⟨by decide, by decide⟩ ?_
      refine g_if_ne (x := x178) 185 o dX12_sails_181 (by decide) (fun u => ?_) (fun u => ?_)
      · rw [if_neg u] at e
        refine g_aload_n 0 o dX12_sails_185 rfl rfl ?_
        refine g_iload_n 1 o dX12_sails_186 rfl rfl ?_
        refine g_aload_n 0 o dX12_sails_187 rfl rfl ?_
        obtain ⟨x188, q188, e⟩ := ob e
        refine g_getN 6 o cf12 (by decide) mw_1192 dX12_sails_188 q188 ?_
        refine g_sipush (v := 314) o dX12_sails_191 (by decide) ?_
        obtain ⟨x194, q194, e⟩ := ob e
        refine g_iald o dX12_sails_194 q194 ?_
        refine g_aload_n 0 o dX12_sails_195 rfl rfl ?_
        obtain ⟨x196, q196, e⟩ := ob e
        refine g_getN 6 o cf12 (by decide) mw_1192 dX12_sails_196 q196 ?_
        refine g_sipush (v := 312) o dX12_sails_199 (by decide) ?_
        obtain ⟨x202, q202, e⟩ := ob e
        refine g_iald o dX12_sails_202 q202 ?_
        obtain ⟨_, k203, e⟩ := ob e
        obtain ⟨h203, q203, e⟩ := ob e
        refine g_callV0 [.int p0, .int x194, .int x202] o (mX12_learnsName q203) cf12 (ckO_s k203) mw_1447 mw_1448 mw_1765 mw_19 mw_1449 rfl yo_X12_learnsName rfl rfl (Nat.le_of_ble_eq_true rfl) ⟨by decide, by decide⟩ ⟨rfl, rfl⟩ dX12_sails_203 ⟨by decide, by decide⟩ ?_
        refine g_aload_n 0 o dX12_sails_206 rfl rfl ?_
        refine g_iload_n 1 o dX12_sails_207 rfl rfl ?_
        refine g_aload_n 0 o dX12_sails_208 rfl rfl ?_
        obtain ⟨x209, q209, e⟩ := ob e
        refine g_getN 6 o cf12 (by decide) mw_1192 dX12_sails_209 q209 ?_
        refine g_sipush (v := 315) o dX12_sails_212 (by decide) ?_
        obtain ⟨x215, q215, e⟩ := ob e
        refine g_iald o dX12_sails_215 q215 ?_
        refine g_aload_n 0 o dX12_sails_216 rfl rfl ?_
        obtain ⟨x217, q217, e⟩ := ob e
        refine g_getN 6 o cf12 (by decide) mw_1192 dX12_sails_217 q217 ?_
        refine g_sipush (v := 312) o dX12_sails_220 (by decide) ?_
        obtain ⟨x223, q223, e⟩ := ob e
        refine g_iald o dX12_sails_223 q223 ?_
        obtain ⟨_, k224, e⟩ := ob e
        obtain ⟨h224, q224, e⟩ := ob e
        refine g_callV0 [.int p0, .int x215, .int x223] o (mX12_learnsName q224) cf12 (ckO_s k224) mw_1447 mw_1448 mw_1765 mw_19 mw_1449 rfl yo_X12_learnsName rfl rfl (Nat.le_of_ble_eq_true rfl) ⟨by decide, by decide⟩ ⟨rfl, rfl⟩ dX12_sails_224 ⟨by decide, by decide⟩ ?_
        exact g_vret o dX12_sails_227 (rt_0 q e)
      · rw [if_pos u] at e
        exact g_vret o dX12_sails_184 (rt_0 q e)
  · rw [if_neg u] at e
    refine g_aload_n 0 o dX12_sails_104 rfl rfl ?_
    obtain ⟨x105, q105, e⟩ := ob e
    refine g_getN 6 o cf12 (by decide) mw_1192 dX12_sails_105 q105 ?_
    refine g_sipush (v := 317) o dX12_sails_108 (by decide) ?_
    refine g_iconst (v := 1) o dX12_sails_111 (by decide) ?_
    obtain ⟨h112, q112, e⟩ := ob e
    refine g_iast o dX12_sails_112 q112 ?_
    refine g_iconst (v := 0) o dX12_sails_113 (by decide) ?_
    refine g_istore_n [(2, .int 0), (0, .ref a), (1, .int p0)] o dX12_sails_114 rfl (by decide) rfl ?_
    refine g_sb [1, 2, 0] rfl ?_
    exact kX12_sails_115 f0 o f0 a p0 0 h112 hz q e
theorem yo_X12_sail : yok yX12_sail 1 := ⟨by decide, by decide, by decide +kernel⟩
set_option maxRecDepth 100000 in
set_option maxHeartbeats 4000000 in
theorem mX12_sail {l : Launch} {D : va_G} {cy : Nat → ClassId} {f0 : Nat} {a : Nat} {p0 : Int32} {h : Hp} {r : Int32} {hz : Hp} (e : fX12_sail f0 a p0 h = some (r, hz)) : MC l D cy yX12_sail cX12_sail 3 (some .int) rmX12_sail [.ref a, .int p0] h (some (.int r)) hz := by
  refine mc_of2 (by decide) (Nat.le_of_ble_eq_true rfl) (fun X hl hD hy hin o q => ?_)
  subst hl; subst hD; subst hy
  show G X 3 0 [(0, .ref a), (1, .int p0)] [] h 0 0
  unfold fX12_sail at e
  refine g_aload_n 0 o dX12_sail_0 rfl rfl ?_
  refine g_iconst (v := 0) o dX12_sail_1 (by decide) ?_
  obtain ⟨h2, q2, e⟩ := ob e
  refine g_put (ty1 := .int) 0 o cf12 (by decide) mw_1186 rfl (by decide +kernel) rfl rfl dX12_sail_2 q2 ?_
  refine g_aload_n 0 o dX12_sail_5 rfl rfl ?_
  refine g_iload_n 1 o dX12_sail_6 rfl rfl ?_
  obtain ⟨_, k7, e⟩ := ob e
  obtain ⟨x7, h7, q7, e⟩ := ob2_s e
  refine g_callVv [.int p0] o (mX12_isPort q7) cf12 (ckO_s k7) mw_1369 mw_1370 mw_1747 mw_19 mw_1371 rfl yo_X12_isPort rfl rfl (Nat.le_of_ble_eq_true rfl) ⟨by decide, by decide⟩ ⟨rfl, rfl⟩ dX12_sail_7 ⟨by decide, by decide⟩ ?_
  refine g_if_ne (x := x7) 15 o dX12_sail_10 (by decide) (fun u => ?_) (fun u => ?_)
  · rw [if_neg u] at e
    refine g_aload_n 0 o dX12_sail_15 rfl rfl ?_
    refine g_iload_n 1 o dX12_sail_16 rfl rfl ?_
    obtain ⟨_, k17, e⟩ := ob e
    obtain ⟨x17, h17, q17, e⟩ := ob2_s e
    refine g_callVv [.int p0] o (mX12_whySail q17) cf12 (ckO_s k17) mw_1441 mw_1442 mw_1763 mw_19 mw_1443 rfl yo_X12_whySail rfl rfl (Nat.le_of_ble_eq_true rfl) ⟨by decide, by decide⟩ ⟨rfl, rfl⟩ dX12_sail_17 ⟨by decide, by decide⟩ ?_
    refine g_istore_n [(2, .int x17), (0, .ref a), (1, .int p0)] o dX12_sail_20 rfl (by decide) rfl ?_
    refine g_iload_n 0 o dX12_sail_21 rfl rfl ?_
    refine g_if_le (x := x17) 27 o dX12_sail_22 (by decide) (fun u => ?_) (fun u => ?_)
    · rw [if_pos u] at e
      refine g_aload_n 1 o dX12_sail_27 rfl rfl ?_
      obtain ⟨_, k28, e⟩ := ob e
      obtain ⟨h28, q28, e⟩ := ob e
      refine g_callV0 [] o (mX12_keep q28) cf12 (ckO_s k28) mw_1431 mw_1432 mw_1761 mw_19 mw_1433 rfl yo_X12_keep rfl rfl (Nat.le_of_ble_eq_true rfl) ⟨by decide, by decide⟩ ⟨rfl, rfl⟩ dX12_sail_28 ⟨by decide, by decide⟩ ?_
      refine g_aload_n 1 o dX12_sail_31 rfl rfl ?_
      refine g_iload_n 2 o dX12_sail_32 rfl rfl ?_
      obtain ⟨_, k33, e⟩ := ob e
      obtain ⟨h33, q33, e⟩ := ob e
      refine g_callV0 [.int p0] o (mX12_sails q33) cf12 (ckO_s k33) mw_1444 mw_1445 mw_1764 mw_19 mw_1446 rfl yo_X12_sails rfl rfl (Nat.le_of_ble_eq_true rfl) ⟨by decide, by decide⟩ ⟨rfl, rfl⟩ dX12_sail_33 ⟨by decide, by decide⟩ ?_
      refine g_iconst (v := 0) o dX12_sail_36 (by decide) ?_
      exact g_iret o dX12_sail_37 (rt_v q e)
    · rw [if_neg u] at e
      refine g_iload_n 0 o dX12_sail_25 rfl rfl ?_
      exact g_iret o dX12_sail_26 (rt_v q e)
  · rw [if_pos u] at e
    refine g_iconst (v := -1) o dX12_sail_13 (by decide) ?_
    exact g_iret o dX12_sail_14 (rt_v q e)
theorem yo_X12_whyWait : yok yX12_whyWait 1 := ⟨by decide, by decide, by decide +kernel⟩
set_option maxRecDepth 100000 in
set_option maxHeartbeats 4000000 in
theorem mX12_whyWait {l : Launch} {D : va_G} {cy : Nat → ClassId} {f0 : Nat} {a : Nat} {p0 : Int32} {h : Hp} {r : Int32} {hz : Hp} (e : fX12_whyWait f0 a p0 h = some (r, hz)) : MC l D cy yX12_whyWait cX12_whyWait 2 (some .int) rmX12_whyWait [.ref a, .int p0] h (some (.int r)) hz := by
  refine mc_of2 (by decide) (Nat.le_of_ble_eq_true rfl) (fun X hl hD hy hin o q => ?_)
  subst hl; subst hD; subst hy
  show G X 2 0 [(0, .ref a), (1, .int p0)] [] h 0 0
  unfold fX12_whyWait at e
  refine g_aload_n 0 o dX12_whyWait_0 rfl rfl ?_
  obtain ⟨_, k1, e⟩ := ob e
  obtain ⟨x1, h1, q1, e⟩ := ob2_s e
  refine g_callVv [] o (mX12_canAct q1) cf12 (ckO_s k1) mw_1416 mw_1417 mw_1756 mw_19 mw_1418 rfl yo_X12_canAct rfl rfl (Nat.le_of_ble_eq_true rfl) ⟨by decide, by decide⟩ ⟨rfl, rfl⟩ dX12_whyWait_1 ⟨by decide, by decide⟩ ?_
  refine g_if_eq (x := x1) 15 o dX12_whyWait_4 (by decide) (fun u => ?_) (fun u => ?_)
  · rw [if_pos u] at e
    refine g_iconst (v := 1) o dX12_whyWait_15 (by decide) ?_
    exact g_iret o dX12_whyWait_16 (rt_v q e)
  · rw [if_neg u] at e
    refine g_aload_n 0 o dX12_whyWait_7 rfl rfl ?_
    refine g_iload_n 1 o dX12_whyWait_8 rfl rfl ?_
    obtain ⟨_, k9, e⟩ := ob e
    obtain ⟨x9, h9, q9, e⟩ := ob2_s e
    refine g_callVv [.int p0] o (mX12_late q9) cf12 (ckO_s k9) mw_1428 mw_1429 mw_1760 mw_19 mw_1430 rfl yo_X12_late rfl rfl (Nat.le_of_ble_eq_true rfl) ⟨by decide, by decide⟩ ⟨rfl, rfl⟩ dX12_whyWait_9 ⟨by decide, by decide⟩ ?_
    refine g_goto 16 o dX12_whyWait_12 (by decide) ?_
    exact g_iret o dX12_whyWait_16 (rt_v q e)
theorem yo_X12_waits : yok yX12_waits 1 := ⟨by decide, by decide, by decide +kernel⟩
set_option maxRecDepth 100000 in
set_option maxHeartbeats 4000000 in
theorem mX12_waits {l : Launch} {D : va_G} {cy : Nat → ClassId} {f0 : Nat} {a : Nat} {p0 : Int32} {h : Hp} {r : Int32} {hz : Hp} (e : fX12_waits f0 a p0 h = some (r, hz)) : MC l D cy yX12_waits cX12_waits 3 (some .int) rmX12_waits [.ref a, .int p0] h (some (.int r)) hz := by
  refine mc_of2 (by decide) (Nat.le_of_ble_eq_true rfl) (fun X hl hD hy hin o q => ?_)
  subst hl; subst hD; subst hy
  show G X 3 0 [(0, .ref a), (1, .int p0)] [] h 0 0
  unfold fX12_waits at e
  refine g_aload_n 0 o dX12_waits_0 rfl rfl ?_
  refine g_iconst (v := 0) o dX12_waits_1 (by decide) ?_
  obtain ⟨h2, q2, e⟩ := ob e
  refine g_put (ty1 := .int) 0 o cf12 (by decide) mw_1186 rfl (by decide +kernel) rfl rfl dX12_waits_2 q2 ?_
  refine g_iload_n 1 o dX12_waits_5 rfl rfl ?_
  refine g_iconst (v := 1) o dX12_waits_6 (by decide) ?_
  refine g_bipush (v := 60) o dX12_waits_7 (by decide) ?_
  obtain ⟨x9, h9, q9, e⟩ := ob2_s e
  refine g_callSv [.int p0, .int 1, .int 60] o (mX12_isIn q9) mw_1337 mw_1338 mw_19 mw_1339 yo_X12_isIn rfl rfl (Nat.le_of_ble_eq_true rfl) ⟨by decide, by decide⟩ ⟨rfl, rfl⟩ dX12_waits_9 ⟨by decide, by decide⟩ ?_
  refine g_if_ne (x := x9) 17 o dX12_waits_12 (by decide) (fun u => ?_) (fun u => ?_)
  · rw [if_neg u] at e
    refine g_aload_n 0 o dX12_waits_17 rfl rfl ?_
    refine g_iload_n 1 o dX12_waits_18 rfl rfl ?_
    obtain ⟨_, k19, e⟩ := ob e
    obtain ⟨x19, h19, q19, e⟩ := ob2_s e
    refine g_callVv [.int p0] o (mX12_whyWait q19) cf12 (ckO_s k19) mw_1454 mw_1455 mw_1766 mw_19 mw_1456 rfl yo_X12_whyWait rfl rfl (Nat.le_of_ble_eq_true rfl) ⟨by decide, by decide⟩ ⟨rfl, rfl⟩ dX12_waits_19 ⟨by decide, by decide⟩ ?_
    refine g_istore_n [(2, .int x19), (0, .ref a), (1, .int p0)] o dX12_waits_22 rfl (by decide) rfl ?_
    refine g_iload_n 0 o dX12_waits_23 rfl rfl ?_
    refine g_if_le (x := x19) 29 o dX12_waits_24 (by decide) (fun u => ?_) (fun u => ?_)
    · rw [if_pos u] at e
      refine g_aload_n 1 o dX12_waits_29 rfl rfl ?_
      obtain ⟨_, k30, e⟩ := ob e
      obtain ⟨h30, q30, e⟩ := ob e
      refine g_callV0 [] o (mX12_keep q30) cf12 (ckO_s k30) mw_1431 mw_1432 mw_1761 mw_19 mw_1433 rfl yo_X12_keep rfl rfl (Nat.le_of_ble_eq_true rfl) ⟨by decide, by decide⟩ ⟨rfl, rfl⟩ dX12_waits_30 ⟨by decide, by decide⟩ ?_
      refine g_aload_n 1 o dX12_waits_33 rfl rfl ?_
      obtain ⟨x34, q34, e⟩ := ob e
      refine g_getN 6 o cf12 (by decide) mw_1192 dX12_waits_34 q34 ?_
      refine g_sipush (v := 312) o dX12_waits_37 (by decide) ?_
      refine g_dup2 o dX12_waits_40 rfl rfl ?_
      obtain ⟨x41, q41, e⟩ := ob e
      refine g_iald o dX12_waits_41 q41 ?_
      refine g_iload_n 2 o dX12_waits_42 rfl rfl ?_
      refine g_iadd (x := x41) (y := p0) o dX12_waits_43 ?_
      obtain ⟨h44, q44, e⟩ := ob e
      refine g_iast o dX12_waits_44 q44 ?_
      refine g_iconst (v := 0) o dX12_waits_45 (by decide) ?_
      exact g_iret o dX12_waits_46 (rt_v q e)
    · rw [if_neg u] at e
      refine g_iload_n 0 o dX12_waits_27 rfl rfl ?_
      exact g_iret o dX12_waits_28 (rt_v q e)
  · rw [if_pos u] at e
    refine g_iconst (v := -1) o dX12_waits_15 (by decide) ?_
    exact g_iret o dX12_waits_16 (rt_v q e)
theorem yo_X12_whyTake : yok yX12_whyTake 0 := ⟨by decide, by decide, by decide +kernel⟩
set_option maxRecDepth 100000 in
set_option maxHeartbeats 4000000 in
theorem mX12_whyTake {l : Launch} {D : va_G} {cy : Nat → ClassId} {f0 : Nat} {a : Nat} {h : Hp} {r : Int32} {hz : Hp} (e : fX12_whyTake f0 a h = some (r, hz)) : MC l D cy yX12_whyTake cX12_whyTake 1 (some .int) rmX12_whyTake [.ref a] h (some (.int r)) hz := by
  refine mc_of2 (by decide) (Nat.le_of_ble_eq_true rfl) (fun X hl hD hy hin o q => ?_)
  subst hl; subst hD; subst hy
  show G X 1 0 [(0, .ref a)] [] h 0 0
  unfold fX12_whyTake at e
  refine g_aload_n 0 o dX12_whyTake_0 rfl rfl ?_
  obtain ⟨_, k1, e⟩ := ob e
  obtain ⟨x1, h1, q1, e⟩ := ob2_s e
  refine g_callVv [] o (mX12_canAct q1) cf12 (ckO_s k1) mw_1416 mw_1417 mw_1756 mw_19 mw_1418 rfl yo_X12_canAct rfl rfl (Nat.le_of_ble_eq_true rfl) ⟨by decide, by decide⟩ ⟨rfl, rfl⟩ dX12_whyTake_1 ⟨by decide, by decide⟩ ?_
  refine g_if_ne (x := x1) 11 o dX12_whyTake_4 (by decide) (fun u => ?_) (fun u => ?_)
  · rw [if_neg u] at e
    refine g_aload_n 0 o dX12_whyTake_11 rfl rfl ?_
    refine g_aload_n 0 o dX12_whyTake_12 rfl rfl ?_
    obtain ⟨x13, q13, e⟩ := ob e
    refine g_getN 6 o cf12 (by decide) mw_1192 dX12_whyTake_13 q13 ?_
    refine g_sipush (v := 314) o dX12_whyTake_16 (by decide) ?_
    obtain ⟨x19, q19, e⟩ := ob e
    refine g_iald o dX12_whyTake_19 q19 ?_
    refine g_aload_n 0 o dX12_whyTake_20 rfl rfl ?_
    obtain ⟨x21, q21, e⟩ := ob e
    refine g_getN 6 o cf12 (by decide) mw_1192 dX12_whyTake_21 q21 ?_
    refine g_sipush (v := 313) o dX12_whyTake_24 (by decide) ?_
    obtain ⟨x27, q27, e⟩ := ob e
    refine g_iald o dX12_whyTake_27 q27 ?_
    obtain ⟨_, k28, e⟩ := ob e
    obtain ⟨x28, h28, q28, e⟩ := ob2_s e
    refine g_callVv [.int x19, .int x27] o (mX12_owed q28) cf12 (ckO_s k28) mw_1402 mw_1403 mw_1754 mw_19 mw_1404 rfl yo_X12_owed rfl rfl (Nat.le_of_ble_eq_true rfl) ⟨by decide, by decide⟩ ⟨rfl, rfl⟩ dX12_whyTake_28 ⟨by decide, by decide⟩ ?_
    refine g_if_ne (x := x28) 38 o dX12_whyTake_31 (by decide) (fun u => ?_) (fun u => ?_)
    · rw [if_neg u] at e
      refine g_iconst (v := 0) o dX12_whyTake_38 (by decide) ?_
      exact g_iret o dX12_whyTake_39 (rt_v q e)
    · rw [if_pos u] at e
      refine g_iconst (v := 2) o dX12_whyTake_34 (by decide) ?_
      refine g_goto 39 o dX12_whyTake_35 (by decide) ?_
      exact g_iret o dX12_whyTake_39 (rt_v q e)
  · rw [if_pos u] at e
    refine g_iconst (v := 1) o dX12_whyTake_7 (by decide) ?_
    refine g_goto 39 o dX12_whyTake_8 (by decide) ?_
    exact g_iret o dX12_whyTake_39 (rt_v q e)
theorem yo_X12_takesAll : yok yX12_takesAll 0 := ⟨by decide, by decide, by decide +kernel⟩
set_option maxRecDepth 100000 in
set_option maxHeartbeats 4000000 in
theorem mX12_takesAll {l : Launch} {D : va_G} {cy : Nat → ClassId} {f0 : Nat} {a : Nat} {h : Hp} {hz : Hp} (e : fX12_takesAll f0 a h = some hz) : MC l D cy yX12_takesAll cX12_takesAll 1 none rmX12_takesAll [.ref a] h none hz := by
  refine mc_of2 (by decide) (Nat.le_of_ble_eq_true rfl) (fun X hl hD hy hin o q => ?_)
  subst hl; subst hD; subst hy
  show G X 1 0 [(0, .ref a)] [] h 0 0
  unfold fX12_takesAll at e
  refine g_aload_n 0 o dX12_takesAll_0 rfl rfl ?_
  obtain ⟨x1, q1, e⟩ := ob e
  refine g_getN 6 o cf12 (by decide) mw_1192 dX12_takesAll_1 q1 ?_
  refine g_sipush (v := 316) o dX12_takesAll_4 (by decide) ?_
  refine g_dup2 o dX12_takesAll_7 rfl rfl ?_
  obtain ⟨x8, q8, e⟩ := ob e
  refine g_iald o dX12_takesAll_8 q8 ?_
  refine g_aload_n 0 o dX12_takesAll_9 rfl rfl ?_
  refine g_aload_n 0 o dX12_takesAll_10 rfl rfl ?_
  obtain ⟨x11, q11, e⟩ := ob e
  refine g_getN 6 o cf12 (by decide) mw_1192 dX12_takesAll_11 q11 ?_
  refine g_sipush (v := 314) o dX12_takesAll_14 (by decide) ?_
  obtain ⟨x17, q17, e⟩ := ob e
  refine g_iald o dX12_takesAll_17 q17 ?_
  refine g_aload_n 0 o dX12_takesAll_18 rfl rfl ?_
  obtain ⟨x19, q19, e⟩ := ob e
  refine g_getN 6 o cf12 (by decide) mw_1192 dX12_takesAll_19 q19 ?_
  refine g_sipush (v := 313) o dX12_takesAll_22 (by decide) ?_
  obtain ⟨x25, q25, e⟩ := ob e
  refine g_iald o dX12_takesAll_25 q25 ?_
  obtain ⟨_, k26, e⟩ := ob e
  obtain ⟨x26, h26, q26, e⟩ := ob2_s e
  refine g_callVv [.int x17, .int x25] o (mX12_owed q26) cf12 (ckO_s k26) mw_1402 mw_1403 mw_1754 mw_19 mw_1404 rfl yo_X12_owed rfl rfl (Nat.le_of_ble_eq_true rfl) ⟨by decide, by decide⟩ ⟨rfl, rfl⟩ dX12_takesAll_26 ⟨by decide, by decide⟩ ?_
  refine g_iadd (x := x8) (y := x26) o dX12_takesAll_29 ?_
  obtain ⟨h30, q30, e⟩ := ob e
  refine g_iast o dX12_takesAll_30 q30 ?_
  refine g_aload_n 0 o dX12_takesAll_31 rfl rfl ?_
  obtain ⟨x32, q32, e⟩ := ob e
  refine g_getN 6 o cf12 (by decide) mw_1192 dX12_takesAll_32 q32 ?_
  refine g_sipush (v := 400) o dX12_takesAll_35 (by decide) ?_
  refine g_aload_n 0 o dX12_takesAll_38 rfl rfl ?_
  obtain ⟨x39, q39, e⟩ := ob e
  refine g_getN 6 o cf12 (by decide) mw_1192 dX12_takesAll_39 q39 ?_
  refine g_sipush (v := 314) o dX12_takesAll_42 (by decide) ?_
  obtain ⟨x45, q45, e⟩ := ob e
  refine g_iald o dX12_takesAll_45 q45 ?_
  refine g_aload_n 0 o dX12_takesAll_46 rfl rfl ?_
  obtain ⟨x47, q47, e⟩ := ob e
  refine g_getN 6 o cf12 (by decide) mw_1192 dX12_takesAll_47 q47 ?_
  refine g_sipush (v := 313) o dX12_takesAll_50 (by decide) ?_
  obtain ⟨x53, q53, e⟩ := ob e
  refine g_iald o dX12_takesAll_53 q53 ?_
  obtain ⟨x54, h54, q54, e⟩ := ob2_s e
  refine g_callSv [.int x45, .int x53] o (mX12_cell q54) mw_1180 mw_1181 mw_19 mw_1182 yo_X12_cell rfl rfl (Nat.le_of_ble_eq_true rfl) ⟨by decide, by decide⟩ ⟨rfl, rfl⟩ dX12_takesAll_54 ⟨by decide, by decide⟩ ?_
  refine g_iadd (x := (400 : Int32)) (y := x54) o dX12_takesAll_57 ?_
  refine g_iconst (v := 1) o dX12_takesAll_58 (by decide) ?_
  obtain ⟨h59, q59, e⟩ := ob e
  refine g_iast o dX12_takesAll_59 q59 ?_
  exact g_vret o dX12_takesAll_60 (rt_0 q e)
theorem yo_X12_takes_ : yok yX12_takes_ 0 := ⟨by decide, by decide, by decide +kernel⟩
set_option maxRecDepth 100000 in
set_option maxHeartbeats 4000000 in
theorem mX12_takes_ {l : Launch} {D : va_G} {cy : Nat → ClassId} {f0 : Nat} {a : Nat} {h : Hp} {r : Int32} {hz : Hp} (e : fX12_takes_ f0 a h = some (r, hz)) : MC l D cy yX12_takes_ cX12_takes_ 2 (some .int) rmX12_takes_ [.ref a] h (some (.int r)) hz := by
  refine mc_of2 (by decide) (Nat.le_of_ble_eq_true rfl) (fun X hl hD hy hin o q => ?_)
  subst hl; subst hD; subst hy
  show G X 2 0 [(0, .ref a)] [] h 0 0
  unfold fX12_takes_ at e
  refine g_aload_n 0 o dX12_takes__0 rfl rfl ?_
  refine g_iconst (v := 0) o dX12_takes__1 (by decide) ?_
  obtain ⟨h2, q2, e⟩ := ob e
  refine g_put (ty1 := .int) 0 o cf12 (by decide) mw_1186 rfl (by decide +kernel) rfl rfl dX12_takes__2 q2 ?_
  refine g_aload_n 0 o dX12_takes__5 rfl rfl ?_
  obtain ⟨_, k6, e⟩ := ob e
  obtain ⟨x6, h6, q6, e⟩ := ob2_s e
  refine g_callVv [] o (mX12_whyTake q6) cf12 (ckO_s k6) mw_1461 mw_1462 mw_1767 mw_19 mw_1463 rfl yo_X12_whyTake rfl rfl (Nat.le_of_ble_eq_true rfl) ⟨by decide, by decide⟩ ⟨rfl, rfl⟩ dX12_takes__6 ⟨by decide, by decide⟩ ?_
  refine g_istore_n [(1, .int x6), (0, .ref a)] o dX12_takes__9 rfl (by decide) rfl ?_
  refine g_iload_n 0 o dX12_takes__10 rfl rfl ?_
  refine g_if_le (x := x6) 16 o dX12_takes__11 (by decide) (fun u => ?_) (fun u => ?_)
  · rw [if_pos u] at e
    refine g_aload_n 1 o dX12_takes__16 rfl rfl ?_
    obtain ⟨_, k17, e⟩ := ob e
    obtain ⟨h17, q17, e⟩ := ob e
    refine g_callV0 [] o (mX12_keep q17) cf12 (ckO_s k17) mw_1431 mw_1432 mw_1761 mw_19 mw_1433 rfl yo_X12_keep rfl rfl (Nat.le_of_ble_eq_true rfl) ⟨by decide, by decide⟩ ⟨rfl, rfl⟩ dX12_takes__17 ⟨by decide, by decide⟩ ?_
    refine g_aload_n 1 o dX12_takes__20 rfl rfl ?_
    obtain ⟨_, k21, e⟩ := ob e
    obtain ⟨h21, q21, e⟩ := ob e
    refine g_callV0 [] o (mX12_takesAll q21) cf12 (ckO_s k21) mw_1464 mw_1465 mw_1768 mw_19 mw_1466 rfl yo_X12_takesAll rfl rfl (Nat.le_of_ble_eq_true rfl) ⟨by decide, by decide⟩ ⟨rfl, rfl⟩ dX12_takes__21 ⟨by decide, by decide⟩ ?_
    refine g_iconst (v := 0) o dX12_takes__24 (by decide) ?_
    exact g_iret o dX12_takes__25 (rt_v q e)
  · rw [if_neg u] at e
    refine g_iload_n 0 o dX12_takes__14 rfl rfl ?_
    exact g_iret o dX12_takes__15 (rt_v q e)
theorem yo_X12_isMan : yok yX12_isMan 1 := ⟨by decide, by decide, by decide +kernel⟩
set_option maxRecDepth 100000 in
set_option maxHeartbeats 4000000 in
theorem mX12_isMan {l : Launch} {D : va_G} {cy : Nat → ClassId} {f0 : Nat} {a : Nat} {p0 : Int32} {h : Hp} {r : Int32} {hz : Hp} (e : fX12_isMan f0 a p0 h = some (r, hz)) : MC l D cy yX12_isMan cX12_isMan 2 (some .boolean) rmX12_isMan [.ref a, .int p0] h (some (.int r)) hz := by
  refine mc_of2 (by decide) (Nat.le_of_ble_eq_true rfl) (fun X hl hD hy hin o q => ?_)
  subst hl; subst hD; subst hy
  show G X 2 0 [(0, .ref a), (1, .int p0)] [] h 0 0
  unfold fX12_isMan at e
  refine g_iload_n 1 o dX12_isMan_0 rfl rfl ?_
  refine g_iconst (v := 0) o dX12_isMan_1 (by decide) ?_
  refine g_aload_n 0 o dX12_isMan_2 rfl rfl ?_
  obtain ⟨x3, q3, e⟩ := ob e
  refine g_getN 6 o cf12 (by decide) mw_1192 dX12_isMan_3 q3 ?_
  refine g_iconst (v := 3) o dX12_isMan_6 (by decide) ?_
  obtain ⟨x7, q7, e⟩ := ob e
  refine g_iald o dX12_isMan_7 q7 ?_
  refine g_iconst (v := 1) o dX12_isMan_8 (by decide) ?_
  refine g_isub (x := x7) (y := 1) o dX12_isMan_9 ?_
  obtain ⟨x10, h10, q10, e⟩ := ob2_s e
  refine g_callSv [.int p0, .int 0, .int (x7 - 1)] o (mX12_isIn q10) mw_1337 mw_1338 mw_19 mw_1339 yo_X12_isIn rfl rfl (Nat.le_of_ble_eq_true rfl) ⟨by decide, by decide⟩ ⟨rfl, rfl⟩ dX12_isMan_10 ⟨by decide, by decide⟩ ?_
  exact g_zret o dX12_isMan_13 (zr_s e).1 (rt_v q (zr_s e).2)
theorem yo_X12_whyLearn : yok yX12_whyLearn 2 := ⟨by decide, by decide, by decide +kernel⟩
set_option maxRecDepth 100000 in
set_option maxHeartbeats 4000000 in
theorem mX12_whyLearn {l : Launch} {D : va_G} {cy : Nat → ClassId} {f0 : Nat} {a : Nat} {p0 : Int32} {p1 : Int32} {h : Hp} {r : Int32} {hz : Hp} (e : fX12_whyLearn f0 a p0 p1 h = some (r, hz)) : MC l D cy yX12_whyLearn cX12_whyLearn 3 (some .int) rmX12_whyLearn [.ref a, .int p0, .int p1] h (some (.int r)) hz := by
  refine mc_of2 (by decide) (Nat.le_of_ble_eq_true rfl) (fun X hl hD hy hin o q => ?_)
  subst hl; subst hD; subst hy
  show G X 3 0 [(0, .ref a), (1, .int p0), (2, .int p1)] [] h 0 0
  unfold fX12_whyLearn at e
  refine g_aload_n 0 o dX12_whyLearn_0 rfl rfl ?_
  obtain ⟨_, k1, e⟩ := ob e
  obtain ⟨x1, h1, q1, e⟩ := ob2_s e
  refine g_callVv [] o (mX12_canAct q1) cf12 (ckO_s k1) mw_1416 mw_1417 mw_1756 mw_19 mw_1418 rfl yo_X12_canAct rfl rfl (Nat.le_of_ble_eq_true rfl) ⟨by decide, by decide⟩ ⟨rfl, rfl⟩ dX12_whyLearn_1 ⟨by decide, by decide⟩ ?_
  refine g_if_ne (x := x1) 11 o dX12_whyLearn_4 (by decide) (fun u => ?_) (fun u => ?_)
  · rw [if_neg u] at e
    refine g_aload_n 0 o dX12_whyLearn_11 rfl rfl ?_
    obtain ⟨x12, q12, e⟩ := ob e
    refine g_getN 6 o cf12 (by decide) mw_1192 dX12_whyLearn_12 q12 ?_
    refine g_sipush (v := 328) o dX12_whyLearn_15 (by decide) ?_
    refine g_iload_n 1 o dX12_whyLearn_18 rfl rfl ?_
    refine g_iadd (x := (328 : Int32)) (y := p0) o dX12_whyLearn_19 ?_
    obtain ⟨x20, q20, e⟩ := ob e
    refine g_iald o dX12_whyLearn_20 q20 ?_
    refine g_iload_n 2 o dX12_whyLearn_21 rfl rfl ?_
    obtain ⟨x22, h22, q22, e⟩ := ob2_s e
    refine g_callSv [.int x20, .int p1] o (mX12_bitOf q22) mw_1352 mw_1353 mw_19 mw_1354 yo_X12_bitOf rfl rfl (Nat.le_of_ble_eq_true rfl) ⟨by decide, by decide⟩ ⟨rfl, rfl⟩ dX12_whyLearn_22 ⟨by decide, by decide⟩ ?_
    refine g_if_eq (x := x22) 32 o dX12_whyLearn_25 (by decide) (fun u => ?_) (fun u => ?_)
    · rw [if_pos u] at e
      refine g_aload_n 0 o dX12_whyLearn_32 rfl rfl ?_
      refine g_iconst (v := 3) o dX12_whyLearn_33 (by decide) ?_
      obtain ⟨_, k34, e⟩ := ob e
      obtain ⟨x34, h34, q34, e⟩ := ob2_s e
      refine g_callVv [.int 3] o (mX12_late q34) cf12 (ckO_s k34) mw_1428 mw_1429 mw_1760 mw_19 mw_1430 rfl yo_X12_late rfl rfl (Nat.le_of_ble_eq_true rfl) ⟨by decide, by decide⟩ ⟨rfl, rfl⟩ dX12_whyLearn_34 ⟨by decide, by decide⟩ ?_
      exact g_iret o dX12_whyLearn_37 (rt_v q e)
    · rw [if_neg u] at e
      refine g_iconst (v := 2) o dX12_whyLearn_28 (by decide) ?_
      refine g_goto 37 o dX12_whyLearn_29 (by decide) ?_
      exact g_iret o dX12_whyLearn_37 (rt_v q e)
  · rw [if_pos u] at e
    refine g_iconst (v := 1) o dX12_whyLearn_7 (by decide) ?_
    refine g_goto 37 o dX12_whyLearn_8 (by decide) ?_
    exact g_iret o dX12_whyLearn_37 (rt_v q e)
theorem yo_X12_learns : yok yX12_learns 2 := ⟨by decide, by decide, by decide +kernel⟩
set_option maxRecDepth 100000 in
set_option maxHeartbeats 4000000 in
theorem mX12_learns {l : Launch} {D : va_G} {cy : Nat → ClassId} {f0 : Nat} {a : Nat} {p0 : Int32} {p1 : Int32} {h : Hp} {hz : Hp} (e : fX12_learns f0 a p0 p1 h = some hz) : MC l D cy yX12_learns cX12_learns 3 none rmX12_learns [.ref a, .int p0, .int p1] h none hz := by
  refine mc_of2 (by decide) (Nat.le_of_ble_eq_true rfl) (fun X hl hD hy hin o q => ?_)
  subst hl; subst hD; subst hy
  show G X 3 0 [(0, .ref a), (1, .int p0), (2, .int p1)] [] h 0 0
  unfold fX12_learns at e
  refine g_aload_n 0 o dX12_learns_0 rfl rfl ?_
  obtain ⟨x1, q1, e⟩ := ob e
  refine g_getN 6 o cf12 (by decide) mw_1192 dX12_learns_1 q1 ?_
  refine g_sipush (v := 328) o dX12_learns_4 (by decide) ?_
  refine g_iload_n 1 o dX12_learns_7 rfl rfl ?_
  refine g_iadd (x := (328 : Int32)) (y := p0) o dX12_learns_8 ?_
  refine g_dup2 o dX12_learns_9 rfl rfl ?_
  obtain ⟨x10, q10, e⟩ := ob e
  refine g_iald o dX12_learns_10 q10 ?_
  refine g_iconst (v := 1) o dX12_learns_11 (by decide) ?_
  refine g_iload_n 2 o dX12_learns_12 rfl rfl ?_
  refine g_ishl (x := (1 : Int32)) (y := p1) o dX12_learns_13 ?_
  refine g_ior (x := x10) (y := ((1 : Int32) <<< (p1 &&& 31))) o dX12_learns_14 ?_
  obtain ⟨h15, q15, e⟩ := ob e
  refine g_iast o dX12_learns_15 q15 ?_
  refine g_aload_n 0 o dX12_learns_16 rfl rfl ?_
  obtain ⟨x17, q17, e⟩ := ob e
  refine g_getN 6 o cf12 (by decide) mw_1192 dX12_learns_17 q17 ?_
  refine g_sipush (v := 312) o dX12_learns_20 (by decide) ?_
  refine g_dup2 o dX12_learns_23 rfl rfl ?_
  obtain ⟨x24, q24, e⟩ := ob e
  refine g_iald o dX12_learns_24 q24 ?_
  refine g_iconst (v := 3) o dX12_learns_25 (by decide) ?_
  refine g_iadd (x := x24) (y := 3) o dX12_learns_26 ?_
  obtain ⟨h27, q27, e⟩ := ob e
  refine g_iast o dX12_learns_27 q27 ?_
  exact g_vret o dX12_learns_28 (rt_0 q e)
theorem yo_X12_learn : yok yX12_learn 2 := ⟨by decide, by decide, by decide +kernel⟩
set_option maxRecDepth 100000 in
set_option maxHeartbeats 4000000 in
theorem mX12_learn {l : Launch} {D : va_G} {cy : Nat → ClassId} {f0 : Nat} {a : Nat} {p0 : Int32} {p1 : Int32} {h : Hp} {r : Int32} {hz : Hp} (e : fX12_learn f0 a p0 p1 h = some (r, hz)) : MC l D cy yX12_learn cX12_learn 4 (some .int) rmX12_learn [.ref a, .int p0, .int p1] h (some (.int r)) hz := by
  refine mc_of2 (by decide) (Nat.le_of_ble_eq_true rfl) (fun X hl hD hy hin o q => ?_)
  subst hl; subst hD; subst hy
  show G X 4 0 [(0, .ref a), (1, .int p0), (2, .int p1)] [] h 0 0
  unfold fX12_learn at e
  refine g_aload_n 0 o dX12_learn_0 rfl rfl ?_
  refine g_iconst (v := 0) o dX12_learn_1 (by decide) ?_
  obtain ⟨h2, q2, e⟩ := ob e
  refine g_put (ty1 := .int) 0 o cf12 (by decide) mw_1186 rfl (by decide +kernel) rfl rfl dX12_learn_2 q2 ?_
  refine g_aload_n 0 o dX12_learn_5 rfl rfl ?_
  refine g_iload_n 1 o dX12_learn_6 rfl rfl ?_
  obtain ⟨_, k7, e⟩ := ob e
  obtain ⟨x7, h7, q7, e⟩ := ob2_s e
  refine g_callVv [.int p0] o (mX12_isMan q7) cf12 (ckO_s k7) mw_1471 mw_1472 mw_1769 mw_19 mw_1473 rfl yo_X12_isMan rfl rfl (Nat.le_of_ble_eq_true rfl) ⟨by decide, by decide⟩ ⟨rfl, rfl⟩ dX12_learn_7 ⟨by decide, by decide⟩ ?_
  refine g_if_eq (x := x7) 29 o dX12_learn_10 (by decide) (fun u => ?_) (fun u => ?_)
  · rw [if_pos u] at e
    refine g_iconst (v := -1) o dX12_learn_29 (by decide) ?_
    exact g_iret o dX12_learn_30 (rt_v q e)
  · rw [if_neg u] at e
    refine g_iload_n 2 o dX12_learn_13 rfl rfl ?_
    refine g_iconst (v := 0) o dX12_learn_14 (by decide) ?_
    refine g_aload_n 0 o dX12_learn_15 rfl rfl ?_
    obtain ⟨x16, q16, e⟩ := ob e
    refine g_getN 6 o cf12 (by decide) mw_1192 dX12_learn_16 q16 ?_
    refine g_iconst (v := 2) o dX12_learn_19 (by decide) ?_
    obtain ⟨x20, q20, e⟩ := ob e
    refine g_iald o dX12_learn_20 q20 ?_
    refine g_iconst (v := 1) o dX12_learn_21 (by decide) ?_
    refine g_isub (x := x20) (y := 1) o dX12_learn_22 ?_
    obtain ⟨x23, h23, q23, e⟩ := ob2_s e
    refine g_callSv [.int p1, .int 0, .int (x20 - 1)] o (mX12_isIn q23) mw_1337 mw_1338 mw_19 mw_1339 yo_X12_isIn rfl rfl (Nat.le_of_ble_eq_true rfl) ⟨by decide, by decide⟩ ⟨rfl, rfl⟩ dX12_learn_23 ⟨by decide, by decide⟩ ?_
    refine g_if_ne (x := x23) 31 o dX12_learn_26 (by decide) (fun u => ?_) (fun u => ?_)
    · rw [if_neg u] at e
      refine g_aload_n 0 o dX12_learn_31 rfl rfl ?_
      refine g_iload_n 1 o dX12_learn_32 rfl rfl ?_
      refine g_iload_n 2 o dX12_learn_33 rfl rfl ?_
      obtain ⟨_, k34, e⟩ := ob e
      obtain ⟨x34, h34, q34, e⟩ := ob2_s e
      refine g_callVv [.int p0, .int p1] o (mX12_whyLearn q34) cf12 (ckO_s k34) mw_1474 mw_1475 mw_1770 mw_19 mw_1476 rfl yo_X12_whyLearn rfl rfl (Nat.le_of_ble_eq_true rfl) ⟨by decide, by decide⟩ ⟨rfl, rfl⟩ dX12_learn_34 ⟨by decide, by decide⟩ ?_
      refine g_istore_n [(3, .int x34), (0, .ref a), (1, .int p0), (2, .int p1)] o dX12_learn_37 rfl (by decide) rfl ?_
      refine g_iload_n 0 o dX12_learn_38 rfl rfl ?_
      refine g_if_le (x := x34) 44 o dX12_learn_39 (by decide) (fun u => ?_) (fun u => ?_)
      · rw [if_pos u] at e
        refine g_aload_n 1 o dX12_learn_44 rfl rfl ?_
        obtain ⟨_, k45, e⟩ := ob e
        obtain ⟨h45, q45, e⟩ := ob e
        refine g_callV0 [] o (mX12_keep q45) cf12 (ckO_s k45) mw_1431 mw_1432 mw_1761 mw_19 mw_1433 rfl yo_X12_keep rfl rfl (Nat.le_of_ble_eq_true rfl) ⟨by decide, by decide⟩ ⟨rfl, rfl⟩ dX12_learn_45 ⟨by decide, by decide⟩ ?_
        refine g_aload_n 1 o dX12_learn_48 rfl rfl ?_
        refine g_iload_n 2 o dX12_learn_49 rfl rfl ?_
        refine g_iload_n 3 o dX12_learn_50 rfl rfl ?_
        obtain ⟨_, k51, e⟩ := ob e
        obtain ⟨h51, q51, e⟩ := ob e
        refine g_callV0 [.int p0, .int p1] o (mX12_learns q51) cf12 (ckO_s k51) mw_1477 mw_1478 mw_1771 mw_19 mw_1479 rfl yo_X12_learns rfl rfl (Nat.le_of_ble_eq_true rfl) ⟨by decide, by decide⟩ ⟨rfl, rfl⟩ dX12_learn_51 ⟨by decide, by decide⟩ ?_
        refine g_iconst (v := 0) o dX12_learn_54 (by decide) ?_
        exact g_iret o dX12_learn_55 (rt_v q e)
      · rw [if_neg u] at e
        refine g_iload_n 0 o dX12_learn_42 rfl rfl ?_
        exact g_iret o dX12_learn_43 (rt_v q e)
    · rw [if_pos u] at e
      refine g_iconst (v := -1) o dX12_learn_29 (by decide) ?_
      exact g_iret o dX12_learn_30 (rt_v q e)
set_option maxRecDepth 100000 in
set_option maxHeartbeats 4000000 in
theorem kX12_undo_26 {X : Cx} (f0 : Nat) (o : Ok X cX12_undo RX12 2 rmX12_undo (some .int)) (f : Nat) (v0 : Nat) (v1 : Int32) (h : Hp) (r : Int32) (hz : Hp) (q : Rt X (some (.int r)) hz 0 0) (e : bX12_undo_26 f0 f v0 v1 h = some (r, hz)) : G X 2 26 [(0, .ref v0), (1, .int v1)] [] h 0 0 := by
  induction f generalizing v0 v1 h r hz with
  | zero => cases e
  | succ f1 ih =>
    unfold bX12_undo_26 at e
    refine g_iload_n 1 o dX12_undo_26 rfl rfl ?_
    refine g_sipush (v := 153) o dX12_undo_27 (by decide) ?_
    refine g_icmp_ge (x := v1) (y := 153) 64 o dX12_undo_30 (by decide) (fun u => ?_) (fun u => ?_)
    · rw [if_pos u] at e
      refine g_aload_n 0 o dX12_undo_64 rfl rfl ?_
      obtain ⟨x65, q65, e⟩ := ob e
      refine g_getI 29 o cf12 (by decide) mw_1215 dX12_undo_65 q65 ?_
      exact g_iret o dX12_undo_68 (rt_v q e)
    · rw [if_neg u] at e
      refine g_aload_n 0 o dX12_undo_33 rfl rfl ?_
      obtain ⟨x34, q34, e⟩ := ob e
      refine g_getN 6 o cf12 (by decide) mw_1192 dX12_undo_34 q34 ?_
      refine g_sipush (v := 312) o dX12_undo_37 (by decide) ?_
      refine g_iload_n 1 o dX12_undo_40 rfl rfl ?_
      refine g_iadd (x := (312 : Int32)) (y := v1) o dX12_undo_41 ?_
      refine g_aload_n 0 o dX12_undo_42 rfl rfl ?_
      obtain ⟨x43, q43, e⟩ := ob e
      refine g_getN 27 o cf12 (by decide) mw_1213 dX12_undo_43 q43 ?_
      refine g_sipush (v := 153) o dX12_undo_46 (by decide) ?_
      refine g_aload_n 0 o dX12_undo_49 rfl rfl ?_
      obtain ⟨x50, q50, e⟩ := ob e
      refine g_getI 29 o cf12 (by decide) mw_1215 dX12_undo_50 q50 ?_
      refine g_imul (x := (153 : Int32)) (y := x50) o dX12_undo_53 ?_
      refine g_iload_n 1 o dX12_undo_54 rfl rfl ?_
      refine g_iadd (x := ((153 : Int32) * x50)) (y := v1) o dX12_undo_55 ?_
      obtain ⟨x56, q56, e⟩ := ob e
      refine g_iald o dX12_undo_56 q56 ?_
      obtain ⟨h57, q57, e⟩ := ob e
      refine g_iast o dX12_undo_57 q57 ?_
      refine g_iinc (k := 1) (v := (v1 + 1)) [(1, .int (v1 + 1)), (0, .ref v0)] o dX12_undo_58 rfl rfl (by decide) rfl ?_
      refine g_goto 26 o dX12_undo_61 (by decide) ?_
      refine g_sb [1, 0] rfl ?_
      exact ih v0 (v1 + 1) h57 r hz q e
theorem yo_X12_undo : yok yX12_undo 0 := ⟨by decide, by decide, by decide +kernel⟩
set_option maxRecDepth 100000 in
set_option maxHeartbeats 4000000 in
theorem mX12_undo {l : Launch} {D : va_G} {cy : Nat → ClassId} {f0 : Nat} {a : Nat} {h : Hp} {r : Int32} {hz : Hp} (e : fX12_undo f0 a h = some (r, hz)) : MC l D cy yX12_undo cX12_undo 2 (some .int) rmX12_undo [.ref a] h (some (.int r)) hz := by
  refine mc_of2 (by decide) (Nat.le_of_ble_eq_true rfl) (fun X hl hD hy hin o q => ?_)
  subst hl; subst hD; subst hy
  show G X 2 0 [(0, .ref a)] [] h 0 0
  unfold fX12_undo at e
  refine g_aload_n 0 o dX12_undo_0 rfl rfl ?_
  refine g_iconst (v := 0) o dX12_undo_1 (by decide) ?_
  obtain ⟨h2, q2, e⟩ := ob e
  refine g_put (ty1 := .int) 0 o cf12 (by decide) mw_1186 rfl (by decide +kernel) rfl rfl dX12_undo_2 q2 ?_
  refine g_aload_n 0 o dX12_undo_5 rfl rfl ?_
  obtain ⟨x6, q6, e⟩ := ob e
  refine g_getI 29 o cf12 (by decide) mw_1215 dX12_undo_6 q6 ?_
  refine g_if_ne (x := x6) 14 o dX12_undo_9 (by decide) (fun u => ?_) (fun u => ?_)
  · rw [if_neg u] at e
    refine g_aload_n 0 o dX12_undo_14 rfl rfl ?_
    refine g_dup o dX12_undo_15 rfl ?_
    obtain ⟨x16, q16, e⟩ := ob e
    refine g_getI 29 o cf12 (by decide) mw_1215 dX12_undo_16 q16 ?_
    refine g_iconst (v := 1) o dX12_undo_19 (by decide) ?_
    refine g_isub (x := x16) (y := 1) o dX12_undo_20 ?_
    obtain ⟨h21, q21, e⟩ := ob e
    refine g_put (ty1 := .int) 29 o cf12 (by decide) mw_1215 rfl (by decide +kernel) rfl rfl dX12_undo_21 q21 ?_
    refine g_iconst (v := 0) o dX12_undo_24 (by decide) ?_
    refine g_istore_n [(1, .int 0), (0, .ref a)] o dX12_undo_25 rfl (by decide) rfl ?_
    refine g_sb [1, 0] rfl ?_
    exact kX12_undo_26 f0 o f0 a 0 h21 r hz q e
  · rw [if_pos u] at e
    refine g_iconst (v := -1) o dX12_undo_12 (by decide) ?_
    exact g_iret o dX12_undo_13 (rt_v q e)
