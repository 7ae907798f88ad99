theorem yo_X12_taken : yok yX12_taken 1 := ⟨by decide, by decide, by decide +kernel⟩
set_option maxRecDepth 100000 in
set_option maxHeartbeats 4000000 in
theorem mX12_taken {l : Launch} {D : va_G} {cy : Nat → ClassId} {f0 : Nat} {a : Nat} {p0 : Int32} {h : Hp} {hz : Hp} (e : fX12_taken f0 a p0 h = some hz) : MC l D cy yX12_taken cX12_taken 2 none rmX12_taken [.ref a, .int p0] h none hz := by
  refine mc_of2 (by decide) (Nat.le_of_ble_eq_true rfl) (fun X hl hD hy hin o q => ?_)
  subst hl; subst hD; subst hy
  show G X 2 0 [(0, .ref a), (1, .int p0)] [] h 0 0
  unfold fX12_taken at e
  refine g_aload_n 0 o dX12_taken_0 rfl rfl ?_
  refine g_aload_n 0 o dX12_taken_1 rfl rfl ?_
  obtain ⟨x2, q2, e⟩ := ob e
  refine g_getI 2 o cf12 (by decide) mw_1188 dX12_taken_2 q2 ?_
  obtain ⟨h5, q5, e⟩ := ob e
  refine g_put (ty1 := .int) 3 o cf12 (by decide) mw_1189 rfl (by decide +kernel) rfl rfl dX12_taken_5 q5 ?_
  refine g_aload_n 0 o dX12_taken_8 rfl rfl ?_
  refine g_iconst (v := 0) o dX12_taken_9 (by decide) ?_
  obtain ⟨h10, q10, e⟩ := ob e
  refine g_put (ty1 := .int) 2 o cf12 (by decide) mw_1188 rfl (by decide +kernel) rfl rfl dX12_taken_10 q10 ?_
  refine g_aload_n 0 o dX12_taken_13 rfl rfl ?_
  refine g_iconst (v := 0) o dX12_taken_14 (by decide) ?_
  obtain ⟨h15, q15, e⟩ := ob e
  refine g_put (ty1 := .int) 4 o cf12 (by decide) mw_1190 rfl (by decide +kernel) rfl rfl dX12_taken_15 q15 ?_
  refine g_aload_n 0 o dX12_taken_18 rfl rfl ?_
  refine g_iload_n 1 o dX12_taken_19 rfl rfl ?_
  obtain ⟨h20, q20, e⟩ := ob e
  refine g_put (ty1 := .int) 5 o cf12 (by decide) mw_1191 rfl (by decide +kernel) rfl rfl dX12_taken_20 q20 ?_
  exact g_vret o dX12_taken_23 (rt_0 q e)
theorem yo_X12_peek : yok yX12_peek 0 := ⟨by decide, by decide, by decide +kernel⟩
set_option maxRecDepth 100000 in
set_option maxHeartbeats 4000000 in
theorem mX12_peek {l : Launch} {D : va_G} {cy : Nat → ClassId} {f0 : Nat} {a : Nat} {h : Hp} {r : Int32} {hz : Hp} (e : fX12_peek f0 a h = some (r, hz)) : MC l D cy yX12_peek cX12_peek 1 (some .int) rmX12_peek [.ref a] h (some (.int r)) hz := by
  refine mc_of2 (by decide) (Nat.le_of_ble_eq_true rfl) (fun X hl hD hy hin o q => ?_)
  subst hl; subst hD; subst hy
  show G X 1 0 [(0, .ref a)] [] h 0 0
  unfold fX12_peek at e
  refine g_aload_n 0 o dX12_peek_0 rfl rfl ?_
  obtain ⟨x1, q1, e⟩ := ob e
  refine g_getI 4 o cf12 (by decide) mw_1190 dX12_peek_1 q1 ?_
  refine g_aload_n 0 o dX12_peek_4 rfl rfl ?_
  obtain ⟨x5, q5, e⟩ := ob e
  refine g_getI 3 o cf12 (by decide) mw_1189 dX12_peek_5 q5 ?_
  refine g_icmp_ge (x := x1) (y := x5) 27 o dX12_peek_8 (by decide) (fun u => ?_) (fun u => ?_)
  · rw [if_pos u] at e
    refine g_iconst (v := -1) o dX12_peek_27 (by decide) ?_
    exact g_iret o dX12_peek_28 (rt_v q e)
  · rw [if_neg u] at e
    refine g_aload_n 0 o dX12_peek_11 rfl rfl ?_
    obtain ⟨x12, q12, e⟩ := ob e
    refine g_getN 1 o cf12 (by decide) mw_1187 dX12_peek_12 q12 ?_
    refine g_aload_n 0 o dX12_peek_15 rfl rfl ?_
    obtain ⟨x16, q16, e⟩ := ob e
    refine g_getI 4 o cf12 (by decide) mw_1190 dX12_peek_16 q16 ?_
    obtain ⟨x19, q19, e⟩ := ob e
    refine g_bald o dX12_peek_19 q19 ?_
    refine g_sipush (v := 255) o dX12_peek_20 (by decide) ?_
    refine g_iand (x := x19) (y := 255) o dX12_peek_23 ?_
    refine g_goto 28 o dX12_peek_24 (by decide) ?_
    exact g_iret o dX12_peek_28 (rt_v q e)
theorem yo_X12_isSmall : yok yX12_isSmall 1 := ⟨by decide, by decide, by decide +kernel⟩
set_option maxRecDepth 100000 in
set_option maxHeartbeats 4000000 in
theorem mX12_isSmall {l : Launch} {D : va_G} {cy : Nat → ClassId} {f0 : Nat} {p0 : Int32} {h : Hp} {r : Int32} {hz : Hp} (e : fX12_isSmall f0 p0 h = some (r, hz)) : MC l D cy yX12_isSmall cX12_isSmall 1 (some .boolean) rmX12_isSmall [.int p0] h (some (.int r)) hz := by
  refine mc_of2 (by decide) (Nat.le_of_ble_eq_true rfl) (fun X hl hD hy hin o q => ?_)
  subst hl; subst hD; subst hy
  show G X 1 0 [(0, .int p0)] [] h 0 0
  unfold fX12_isSmall at e
  refine g_iload_n 0 o dX12_isSmall_0 rfl rfl ?_
  refine g_bipush (v := 97) o dX12_isSmall_1 (by decide) ?_
  refine g_icmp_lt (x := p0) (y := 97) 16 o dX12_isSmall_3 (by decide) (fun u => ?_) (fun u => ?_)
  · rw [if_pos u] at e
    refine g_iconst (v := 0) o dX12_isSmall_16 (by decide) ?_
    exact g_zret o dX12_isSmall_17 (zr_s e).1 (rt_v q (zr_s e).2)
  · rw [if_neg u] at e
    refine g_iload_n 0 o dX12_isSmall_6 rfl rfl ?_
    refine g_bipush (v := 122) o dX12_isSmall_7 (by decide) ?_
    refine g_icmp_gt (x := p0) (y := 122) 16 o dX12_isSmall_9 (by decide) (fun u => ?_) (fun u => ?_)
    · rw [if_pos u] at e
      refine g_iconst (v := 0) o dX12_isSmall_16 (by decide) ?_
      exact g_zret o dX12_isSmall_17 (zr_s e).1 (rt_v q (zr_s e).2)
    · rw [if_neg u] at e
      refine g_iconst (v := 1) o dX12_isSmall_12 (by decide) ?_
      refine g_goto 17 o dX12_isSmall_13 (by decide) ?_
      exact g_zret o dX12_isSmall_17 (zr_s e).1 (rt_v q (zr_s e).2)
theorem yo_X12_isDigit : yok yX12_isDigit 1 := ⟨by decide, by decide, by decide +kernel⟩
set_option maxRecDepth 100000 in
set_option maxHeartbeats 4000000 in
theorem mX12_isDigit {l : Launch} {D : va_G} {cy : Nat → ClassId} {f0 : Nat} {p0 : Int32} {h : Hp} {r : Int32} {hz : Hp} (e : fX12_isDigit f0 p0 h = some (r, hz)) : MC l D cy yX12_isDigit cX12_isDigit 1 (some .boolean) rmX12_isDigit [.int p0] h (some (.int r)) hz := by
  refine mc_of2 (by decide) (Nat.le_of_ble_eq_true rfl) (fun X hl hD hy hin o q => ?_)
  subst hl; subst hD; subst hy
  show G X 1 0 [(0, .int p0)] [] h 0 0
  unfold fX12_isDigit at e
  refine g_iload_n 0 o dX12_isDigit_0 rfl rfl ?_
  refine g_bipush (v := 48) o dX12_isDigit_1 (by decide) ?_
  refine g_icmp_lt (x := p0) (y := 48) 16 o dX12_isDigit_3 (by decide) (fun u => ?_) (fun u => ?_)
  · rw [if_pos u] at e
    refine g_iconst (v := 0) o dX12_isDigit_16 (by decide) ?_
    exact g_zret o dX12_isDigit_17 (zr_s e).1 (rt_v q (zr_s e).2)
  · rw [if_neg u] at e
    refine g_iload_n 0 o dX12_isDigit_6 rfl rfl ?_
    refine g_bipush (v := 57) o dX12_isDigit_7 (by decide) ?_
    refine g_icmp_gt (x := p0) (y := 57) 16 o dX12_isDigit_9 (by decide) (fun u => ?_) (fun u => ?_)
    · rw [if_pos u] at e
      refine g_iconst (v := 0) o dX12_isDigit_16 (by decide) ?_
      exact g_zret o dX12_isDigit_17 (zr_s e).1 (rt_v q (zr_s e).2)
    · rw [if_neg u] at e
      refine g_iconst (v := 1) o dX12_isDigit_12 (by decide) ?_
      refine g_goto 17 o dX12_isDigit_13 (by decide) ?_
      exact g_zret o dX12_isDigit_17 (zr_s e).1 (rt_v q (zr_s e).2)
set_option maxRecDepth 100000 in
set_option maxHeartbeats 4000000 in
theorem kX12_next_18 {X : Cx} (f0 : Nat) (g0 : Nat → Hp → Option (Hp)) (i0 : ∀ (v02 : Nat) (h2 : Hp) (hz : Hp), Rt X none hz 0 0 → g0 v02 h2 = some hz → G X 4 0 [(0, .ref v02)] [] h2 0 0) (o : Ok X cX12_next RX12 4 rmX12_next none) (v0 : Nat) (h : Hp) (hz : Hp) (q : Rt X none hz 0 0) (e : bX12_next_18 f0 g0 v0 h = some hz) : G X 4 18 [(0, .ref v0)] [] h 0 0 := by
  unfold bX12_next_18 at e
  refine g_aload_n 0 o dX12_next_18 rfl rfl ?_
  refine g_dup o dX12_next_19 rfl ?_
  obtain ⟨x20, q20, e⟩ := ob e
  refine g_getI 4 o cf12 (by decide) mw_1190 dX12_next_20 q20 ?_
  refine g_iconst (v := 1) o dX12_next_23 (by decide) ?_
  refine g_iadd (x := x20) (y := 1) o dX12_next_24 ?_
  obtain ⟨h25, q25, e⟩ := ob e
  refine g_put (ty1 := .int) 4 o cf12 (by decide) mw_1190 rfl (by decide +kernel) rfl rfl dX12_next_25 q25 ?_
  refine g_goto 0 o dX12_next_28 (by decide) ?_
  exact i0 v0 h25 hz q e
set_option maxRecDepth 100000 in
set_option maxHeartbeats 4000000 in
theorem kX12_next_145 {X : Cx} (f0 : Nat) (o : Ok X cX12_next RX12 4 rmX12_next none) (v0 : Nat) (v1 : Int32) (s0 : Nat) (s1 : Int32) (h : Hp) (hz : Hp) (q : Rt X none hz 0 0) (e : bX12_next_145 f0 v0 v1 s0 s1 h = some hz) : G X 4 145 [(0, .ref v0), (1, .int v1)] [.int s1, .ref s0] h 0 0 := by
  unfold bX12_next_145 at e
  obtain ⟨h145, q145, e⟩ := ob e
  refine g_put (ty1 := .int) 11 o cf12 (by decide) mw_1197 rfl (by decide +kernel) rfl rfl dX12_next_145 q145 ?_
  refine g_aload_n 0 o dX12_next_148 rfl rfl ?_
  refine g_iload_n 1 o dX12_next_149 rfl rfl ?_
  obtain ⟨h150, q150, e⟩ := ob e
  refine g_put (ty1 := .int) 14 o cf12 (by decide) mw_1200 rfl (by decide +kernel) rfl rfl dX12_next_150 q150 ?_
  refine g_aload_n 0 o dX12_next_153 rfl rfl ?_
  refine g_dup o dX12_next_154 rfl ?_
  obtain ⟨x155, q155, e⟩ := ob e
  refine g_getI 4 o cf12 (by decide) mw_1190 dX12_next_155 q155 ?_
  refine g_iconst (v := 1) o dX12_next_158 (by decide) ?_
  refine g_iadd (x := x155) (y := 1) o dX12_next_159 ?_
  obtain ⟨h160, q160, e⟩ := ob e
  refine g_put (ty1 := .int) 4 o cf12 (by decide) mw_1190 rfl (by decide +kernel) rfl rfl dX12_next_160 q160 ?_
  exact g_vret o dX12_next_163 (rt_0 q e)
set_option maxRecDepth 100000 in
set_option maxHeartbeats 4000000 in
theorem kX12_next_140 {X : Cx} (f0 : Nat) (o : Ok X cX12_next RX12 4 rmX12_next none) (v0 : Nat) (v1 : Int32) (s0 : Nat) (h : Hp) (hz : Hp) (q : Rt X none hz 0 0) (e : bX12_next_140 f0 v0 v1 s0 h = some hz) : G X 4 140 [(0, .ref v0), (1, .int v1)] [.ref s0] h 0 0 := by
  unfold bX12_next_140 at e
  refine g_iconst (v := 3) o dX12_next_140 (by decide) ?_
  refine g_goto 145 o dX12_next_141 (by decide) ?_
  exact kX12_next_145 f0 o v0 v1 s0 3 h hz q e
set_option maxRecDepth 100000 in
set_option maxHeartbeats 4000000 in
theorem kX12_next_144 {X : Cx} (f0 : Nat) (o : Ok X cX12_next RX12 4 rmX12_next none) (v0 : Nat) (v1 : Int32) (s0 : Nat) (h : Hp) (hz : Hp) (q : Rt X none hz 0 0) (e : bX12_next_144 f0 v0 v1 s0 h = some hz) : G X 4 144 [(0, .ref v0), (1, .int v1)] [.ref s0] h 0 0 := by
  unfold bX12_next_144 at e
  refine g_iconst (v := 4) o dX12_next_144 (by decide) ?_
  exact kX12_next_145 f0 o v0 v1 s0 4 h hz q e
set_option maxRecDepth 100000 in
set_option maxHeartbeats 4000000 in
theorem kX12_next_275 {X : Cx} (f0 : Nat) (g181 : Nat → Int32 → Int32 → Hp → Option (Hp)) (i181 : ∀ (v02 : Nat) (v22 : Int32) (v32 : Int32) (h2 : Hp) (hz : Hp), Rt X none hz 0 0 → g181 v02 v22 v32 h2 = some hz → G X 4 181 [(0, .ref v02), (2, .int v22), (3, .int v32)] [] h2 0 0) (o : Ok X cX12_next RX12 4 rmX12_next none) (v0 : Nat) (v2 : Int32) (v3 : Int32) (h : Hp) (hz : Hp) (q : Rt X none hz 0 0) (e : bX12_next_275 f0 g181 v0 v2 v3 h = some hz) : G X 4 275 [(0, .ref v0), (2, .int v2), (3, .int v3)] [] h 0 0 := by
  unfold bX12_next_275 at e
  refine g_aload_n 0 o dX12_next_275 rfl rfl ?_
  refine g_dup o dX12_next_276 rfl ?_
  obtain ⟨x277, q277, e⟩ := ob e
  refine g_getI 13 o cf12 (by decide) mw_1199 dX12_next_277 q277 ?_
  refine g_iconst (v := 1) o dX12_next_280 (by decide) ?_
  refine g_iadd (x := x277) (y := 1) o dX12_next_281 ?_
  obtain ⟨h282, q282, e⟩ := ob e
  refine g_put (ty1 := .int) 13 o cf12 (by decide) mw_1199 rfl (by decide +kernel) rfl rfl dX12_next_282 q282 ?_
  refine g_aload_n 0 o dX12_next_285 rfl rfl ?_
  refine g_dup o dX12_next_286 rfl ?_
  obtain ⟨x287, q287, e⟩ := ob e
  refine g_getI 4 o cf12 (by decide) mw_1190 dX12_next_287 q287 ?_
  refine g_iconst (v := 1) o dX12_next_290 (by decide) ?_
  refine g_iadd (x := x287) (y := 1) o dX12_next_291 ?_
  obtain ⟨h292, q292, e⟩ := ob e
  refine g_put (ty1 := .int) 4 o cf12 (by decide) mw_1190 rfl (by decide +kernel) rfl rfl dX12_next_292 q292 ?_
  refine g_goto 181 o dX12_next_295 (by decide) ?_
  exact i181 v0 v2 v3 h292 hz q e
set_option maxRecDepth 100000 in
set_option maxHeartbeats 4000000 in
theorem kX12_next_248 {X : Cx} (f0 : Nat) (g181 : Nat → Int32 → Int32 → Hp → Option (Hp)) (i181 : ∀ (v02 : Nat) (v22 : Int32) (v32 : Int32) (h2 : Hp) (hz : Hp), Rt X none hz 0 0 → g181 v02 v22 v32 h2 = some hz → G X 4 181 [(0, .ref v02), (2, .int v22), (3, .int v32)] [] h2 0 0) (o : Ok X cX12_next RX12 4 rmX12_next none) (v0 : Nat) (v2 : Int32) (v3 : Int32) (h : Hp) (hz : Hp) (q : Rt X none hz 0 0) (e : bX12_next_248 f0 g181 v0 v2 v3 h = some hz) : G X 4 248 [(0, .ref v0), (2, .int v2), (3, .int v3)] [] h 0 0 := by
  unfold bX12_next_248 at e
  refine g_aload_n 0 o dX12_next_248 rfl rfl ?_
  obtain ⟨x249, q249, e⟩ := ob e
  refine g_getI 13 o cf12 (by decide) mw_1199 dX12_next_249 q249 ?_
  refine g_iconst (v := 3) o dX12_next_252 (by decide) ?_
  refine g_icmp_ge (x := x249) (y := 3) 275 o dX12_next_253 (by decide) (fun u => ?_) (fun u => ?_)
  · rw [if_pos u] at e
    exact kX12_next_275 f0 g181 i181 o v0 v2 v3 h hz q e
  · rw [if_neg u] at e
    refine g_aload_n 0 o dX12_next_256 rfl rfl ?_
    refine g_bipush (v := 10) o dX12_next_257 (by decide) ?_
    refine g_aload_n 0 o dX12_next_259 rfl rfl ?_
    obtain ⟨x260, q260, e⟩ := ob e
    refine g_getI 14 o cf12 (by decide) mw_1200 dX12_next_260 q260 ?_
    refine g_imul (x := (10 : Int32)) (y := x260) o dX12_next_263 ?_
    refine g_aload_n 0 o dX12_next_264 rfl rfl ?_
    obtain ⟨_, k265, e⟩ := ob e
    obtain ⟨x265, h265, q265, e⟩ := ob2_s e
    refine g_callVv [] o (mX12_peek q265) cf12 (ckO_s k265) mw_1295 mw_1296 mw_1729 mw_19 mw_1297 rfl yo_X12_peek rfl rfl (Nat.le_of_ble_eq_true rfl) ⟨by decide, by decide⟩ ⟨rfl, rfl⟩ dX12_next_265 ⟨by decide, by decide⟩ ?_
    refine g_iadd (x := ((10 : Int32) * x260)) (y := x265) o dX12_next_268 ?_
    refine g_bipush (v := 48) o dX12_next_269 (by decide) ?_
    refine g_isub (x := (((10 : Int32) * x260) + x265)) (y := 48) o dX12_next_271 ?_
    obtain ⟨h272, q272, e⟩ := ob e
    refine g_put (ty1 := .int) 14 o cf12 (by decide) mw_1200 rfl (by decide +kernel) rfl rfl dX12_next_272 q272 ?_
    exact kX12_next_275 f0 g181 i181 o v0 v2 v3 h272 hz q e
set_option maxRecDepth 100000 in
set_option maxHeartbeats 4000000 in
theorem kX12_next_221 {X : Cx} (f0 : Nat) (g181 : Nat → Int32 → Int32 → Hp → Option (Hp)) (i181 : ∀ (v02 : Nat) (v22 : Int32) (v32 : Int32) (h2 : Hp) (hz : Hp), Rt X none hz 0 0 → g181 v02 v22 v32 h2 = some hz → G X 4 181 [(0, .ref v02), (2, .int v22), (3, .int v32)] [] h2 0 0) (o : Ok X cX12_next RX12 4 rmX12_next none) (v0 : Nat) (v2 : Int32) (s0 : Int32) (h : Hp) (hz : Hp) (q : Rt X none hz 0 0) (e : bX12_next_221 f0 g181 v0 v2 s0 h = some hz) : G X 4 221 [(0, .ref v0), (2, .int v2)] [.int s0] h 0 0 := by
  unfold bX12_next_221 at e
  refine g_istore_n [(3, .int s0), (0, .ref v0), (2, .int v2)] o dX12_next_221 rfl (by decide) rfl ?_
  refine g_aload_n 1 o dX12_next_222 rfl rfl ?_
  obtain ⟨x223, q223, e⟩ := ob e
  refine g_getI 13 o cf12 (by decide) mw_1199 dX12_next_223 q223 ?_
  refine g_bipush (v := 7) o dX12_next_226 (by decide) ?_
  refine g_icmp_ge (x := x223) (y := 7) 248 o dX12_next_228 (by decide) (fun u => ?_) (fun u => ?_)
  · rw [if_pos u] at e
    refine g_sb [1, 2, 0] rfl ?_
    exact kX12_next_248 f0 g181 i181 o v0 v2 s0 h hz q e
  · rw [if_neg u] at e
    refine g_aload_n 1 o dX12_next_231 rfl rfl ?_
    refine g_aload_n 1 o dX12_next_232 rfl rfl ?_
    obtain ⟨x233, q233, e⟩ := ob e
    refine g_getJ 17 o cf12 (by decide) mw_1203 dX12_next_233 q233 ?_
    refine g_bipush (v := 8) o dX12_next_236 (by decide) ?_
    refine g_lshl (x := x233) (y := 8) o dX12_next_238 ?_
    refine g_aload_n 1 o dX12_next_239 rfl rfl ?_
    obtain ⟨_, k240, e⟩ := ob e
    obtain ⟨x240, h240, q240, e⟩ := ob2_s e
    refine g_callVv [] o (mX12_peek q240) cf12 (ckO_s k240) mw_1295 mw_1296 mw_1729 mw_19 mw_1297 rfl yo_X12_peek rfl rfl (Nat.le_of_ble_eq_true rfl) ⟨by decide, by decide⟩ ⟨rfl, rfl⟩ dX12_next_240 ⟨by decide, by decide⟩ ?_
    refine g_i2l (x := x240) o dX12_next_243 ?_
    refine g_lor (x := (x233 <<< (Int32.toInt64 8 &&& 63))) (y := (Int32.toInt64 x240)) o dX12_next_244 ?_
    obtain ⟨h245, q245, e⟩ := ob e
    refine g_put (ty1 := .long) 17 o cf12 (by decide) mw_1203 rfl (by decide +kernel) rfl rfl dX12_next_245 q245 ?_
    refine g_sb [1, 2, 0] rfl ?_
    exact kX12_next_248 f0 g181 i181 o v0 v2 s0 h245 hz q e
set_option maxRecDepth 100000 in
set_option maxHeartbeats 4000000 in
theorem kX12_next_220 {X : Cx} (f0 : Nat) (g181 : Nat → Int32 → Int32 → Hp → Option (Hp)) (i181 : ∀ (v02 : Nat) (v22 : Int32) (v32 : Int32) (h2 : Hp) (hz : Hp), Rt X none hz 0 0 → g181 v02 v22 v32 h2 = some hz → G X 4 181 [(0, .ref v02), (2, .int v22), (3, .int v32)] [] h2 0 0) (o : Ok X cX12_next RX12 4 rmX12_next none) (v0 : Nat) (v2 : Int32) (h : Hp) (hz : Hp) (q : Rt X none hz 0 0) (e : bX12_next_220 f0 g181 v0 v2 h = some hz) : G X 4 220 [(0, .ref v0), (2, .int v2)] [] h 0 0 := by
  unfold bX12_next_220 at e
  refine g_iconst (v := 0) o dX12_next_220 (by decide) ?_
  exact kX12_next_221 f0 g181 i181 o v0 v2 0 h hz q e
set_option maxRecDepth 100000 in
set_option maxHeartbeats 4000000 in
theorem kX12_next_201 {X : Cx} (f0 : Nat) (g181 : Nat → Int32 → Int32 → Hp → Option (Hp)) (i181 : ∀ (v02 : Nat) (v22 : Int32) (v32 : Int32) (h2 : Hp) (hz : Hp), Rt X none hz 0 0 → g181 v02 v22 v32 h2 = some hz → G X 4 181 [(0, .ref v02), (2, .int v22), (3, .int v32)] [] h2 0 0) (o : Ok X cX12_next RX12 4 rmX12_next none) (v0 : Nat) (v2 : Int32) (v3 : Int32) (h : Hp) (hz : Hp) (q : Rt X none hz 0 0) (e : bX12_next_201 f0 g181 v0 v2 v3 h = some hz) : G X 4 201 [(0, .ref v0), (2, .int v2), (3, .int v3)] [] h 0 0 := by
  unfold bX12_next_201 at e
  refine g_iload_n 2 o dX12_next_201 rfl rfl ?_
  refine g_if_eq (x := v3) 220 o dX12_next_202 (by decide) (fun u => ?_) (fun u => ?_)
  · rw [if_pos u] at e
    refine g_sb [0, 1] rfl ?_
    exact kX12_next_220 f0 g181 i181 o v0 v2 h hz q e
  · rw [if_neg u] at e
    refine g_aload_n 0 o dX12_next_205 rfl rfl ?_
    obtain ⟨_, k206, e⟩ := ob e
    obtain ⟨x206, h206, q206, e⟩ := ob2_s e
    refine g_callVv [] o (mX12_peek q206) cf12 (ckO_s k206) mw_1295 mw_1296 mw_1729 mw_19 mw_1297 rfl yo_X12_peek rfl rfl (Nat.le_of_ble_eq_true rfl) ⟨by decide, by decide⟩ ⟨rfl, rfl⟩ dX12_next_206 ⟨by decide, by decide⟩ ?_
    obtain ⟨x209, h209, q209, e⟩ := ob2_s e
    refine g_callSv [.int x206] o (mX12_isSmall q209) mw_1298 mw_1299 mw_19 mw_1300 yo_X12_isSmall rfl rfl (Nat.le_of_ble_eq_true rfl) ⟨by decide, by decide⟩ ⟨rfl, rfl⟩ dX12_next_209 ⟨by decide, by decide⟩ ?_
    refine g_iload_n 1 o dX12_next_212 rfl rfl ?_
    refine g_icmp_ne (x := x209) (y := v2) 220 o dX12_next_213 (by decide) (fun u => ?_) (fun u => ?_)
    · rw [if_neg u] at e
      refine g_sb [0, 1] rfl ?_
      exact kX12_next_220 f0 g181 i181 o v0 v2 h209 hz q e
    · rw [if_pos u] at e
      refine g_iconst (v := 1) o dX12_next_216 (by decide) ?_
      refine g_goto 221 o dX12_next_217 (by decide) ?_
      refine g_sb [0, 1] rfl ?_
      exact kX12_next_221 f0 g181 i181 o v0 v2 1 h209 hz q e
set_option maxRecDepth 100000 in
set_option maxHeartbeats 4000000 in
theorem kX12_next_333 {X : Cx} (f0 : Nat) (o : Ok X cX12_next RX12 4 rmX12_next none) (s0 : Nat) (s1 : Int32) (h : Hp) (hz : Hp) (q : Rt X none hz 0 0) (e : bX12_next_333 f0 s0 s1 h = some hz) : G X 4 333 [] [.int s1, .ref s0] h 0 0 := by
  unfold bX12_next_333 at e
  obtain ⟨h333, q333, e⟩ := ob e
  refine g_put (ty1 := .int) 11 o cf12 (by decide) mw_1197 rfl (by decide +kernel) rfl rfl dX12_next_333 q333 ?_
  exact g_vret o dX12_next_336 (rt_0 q e)
set_option maxRecDepth 100000 in
set_option maxHeartbeats 4000000 in
theorem kX12_next_320 {X : Cx} (f0 : Nat) (o : Ok X cX12_next RX12 4 rmX12_next none) (s0 : Nat) (h : Hp) (hz : Hp) (q : Rt X none hz 0 0) (e : bX12_next_320 f0 s0 h = some hz) : G X 4 320 [] [.ref s0] h 0 0 := by
  unfold bX12_next_320 at e
  refine g_iconst (v := 4) o dX12_next_320 (by decide) ?_
  refine g_goto 333 o dX12_next_321 (by decide) ?_
  exact kX12_next_333 f0 o s0 4 h hz q e
set_option maxRecDepth 100000 in
set_option maxHeartbeats 4000000 in
theorem kX12_next_317 {X : Cx} (f0 : Nat) (o : Ok X cX12_next RX12 4 rmX12_next none) (v2 : Int32) (s0 : Nat) (s1 : Int32) (s2 : Int32) (h : Hp) (hz : Hp) (q : Rt X none hz 0 0) (e : bX12_next_317 f0 v2 s0 s1 s2 h = some hz) : G X 4 317 [(2, .int v2)] [.int s2, .int s1, .ref s0] h 0 0 := by
  unfold bX12_next_317 at e
  refine g_icmp_le (x := s1) (y := s2) 324 o dX12_next_317 (by decide) (fun u => ?_) (fun u => ?_)
  · rw [if_pos u] at e
    refine g_iload_n 0 o dX12_next_324 rfl rfl ?_
    refine g_if_eq (x := v2) 332 o dX12_next_325 (by decide) (fun u => ?_) (fun u => ?_)
    · rw [if_pos u] at e
      refine g_iconst (v := 2) o dX12_next_332 (by decide) ?_
      refine g_sb [] rfl ?_
      exact kX12_next_333 f0 o s0 2 h hz q e
    · rw [if_neg u] at e
      refine g_iconst (v := 1) o dX12_next_328 (by decide) ?_
      refine g_goto 333 o dX12_next_329 (by decide) ?_
      refine g_sb [] rfl ?_
      exact kX12_next_333 f0 o s0 1 h hz q e
  · rw [if_neg u] at e
    refine g_sb [] rfl ?_
    exact kX12_next_320 f0 o s0 h hz q e
set_option maxRecDepth 100000 in
set_option maxHeartbeats 4000000 in
theorem kX12_next_181 {X : Cx} (f0 : Nat) (o : Ok X cX12_next RX12 4 rmX12_next none) (f : Nat) (v0 : Nat) (v2 : Int32) (v3 : Int32) (h : Hp) (hz : Hp) (q : Rt X none hz 0 0) (e : bX12_next_181 f0 f v0 v2 v3 h = some hz) : G X 4 181 [(0, .ref v0), (2, .int v2), (3, .int v3)] [] h 0 0 := by
  induction f generalizing v0 v2 v3 h hz with
  | zero => cases e
  | succ f1 ih =>
    unfold bX12_next_181 at e
    refine g_aload_n 0 o dX12_next_181 rfl rfl ?_
    obtain ⟨_, k182, e⟩ := ob e
    obtain ⟨x182, h182, q182, e⟩ := ob2_s e
    refine g_callVv [] o (mX12_peek q182) cf12 (ckO_s k182) mw_1295 mw_1296 mw_1729 mw_19 mw_1297 rfl yo_X12_peek rfl rfl (Nat.le_of_ble_eq_true rfl) ⟨by decide, by decide⟩ ⟨rfl, rfl⟩ dX12_next_182 ⟨by decide, by decide⟩ ?_
    obtain ⟨x185, h185, q185, e⟩ := ob2_s e
    refine g_callSv [.int x182] o (mX12_isSmall q185) mw_1298 mw_1299 mw_19 mw_1300 yo_X12_isSmall rfl rfl (Nat.le_of_ble_eq_true rfl) ⟨by decide, by decide⟩ ⟨rfl, rfl⟩ dX12_next_185 ⟨by decide, by decide⟩ ?_
    refine g_if_ne (x := x185) 201 o dX12_next_188 (by decide) (fun u => ?_) (fun u => ?_)
    · rw [if_neg u] at e
      exact kX12_next_201 f0 (bX12_next_181 f0 f1) ih o v0 v2 v3 h185 hz q e
    · rw [if_pos u] at e
      refine g_aload_n 0 o dX12_next_191 rfl rfl ?_
      obtain ⟨_, k192, e⟩ := ob e
      obtain ⟨x192, h192, q192, e⟩ := ob2_s e
      refine g_callVv [] o (mX12_peek q192) cf12 (ckO_s k192) mw_1295 mw_1296 mw_1729 mw_19 mw_1297 rfl yo_X12_peek rfl rfl (Nat.le_of_ble_eq_true rfl) ⟨by decide, by decide⟩ ⟨rfl, rfl⟩ dX12_next_192 ⟨by decide, by decide⟩ ?_
      obtain ⟨x195, h195, q195, e⟩ := ob2_s e
      refine g_callSv [.int x192] o (mX12_isDigit q195) mw_1301 mw_1302 mw_19 mw_1303 yo_X12_isDigit rfl rfl (Nat.le_of_ble_eq_true rfl) ⟨by decide, by decide⟩ ⟨rfl, rfl⟩ dX12_next_195 ⟨by decide, by decide⟩ ?_
      refine g_if_eq (x := x195) 298 o dX12_next_198 (by decide) (fun u => ?_) (fun u => ?_)
      · rw [if_pos u] at e
        refine g_aload_n 0 o dX12_next_298 rfl rfl ?_
        refine g_iload_n 2 o dX12_next_299 rfl rfl ?_
        refine g_if_eq (x := v3) 320 o dX12_next_300 (by decide) (fun u => ?_) (fun u => ?_)
        · rw [if_pos u] at e
          refine g_sb [] rfl ?_
          exact kX12_next_320 f0 o v0 h195 hz q e
        · rw [if_neg u] at e
          refine g_aload_n 0 o dX12_next_303 rfl rfl ?_
          obtain ⟨x304, q304, e⟩ := ob e
          refine g_getI 13 o cf12 (by decide) mw_1199 dX12_next_304 q304 ?_
          refine g_iload_n 1 o dX12_next_307 rfl rfl ?_
          refine g_if_eq (x := v2) 316 o dX12_next_308 (by decide) (fun u => ?_) (fun u => ?_)
          · rw [if_pos u] at e
            refine g_iconst (v := 3) o dX12_next_316 (by decide) ?_
            refine g_sb [1] rfl ?_
            exact kX12_next_317 f0 o v2 v0 x304 3 h195 hz q e
          · rw [if_neg u] at e
            refine g_bipush (v := 7) o dX12_next_311 (by decide) ?_
            refine g_goto 317 o dX12_next_313 (by decide) ?_
            refine g_sb [1] rfl ?_
            exact kX12_next_317 f0 o v2 v0 x304 7 h195 hz q e
      · rw [if_neg u] at e
        exact kX12_next_201 f0 (bX12_next_181 f0 f1) ih o v0 v2 v3 h195 hz q e
set_option maxRecDepth 100000 in
set_option maxHeartbeats 4000000 in
theorem kX12_next_164 {X : Cx} (f0 : Nat) (o : Ok X cX12_next RX12 4 rmX12_next none) (v0 : Nat) (v1 : Int32) (h : Hp) (hz : Hp) (q : Rt X none hz 0 0) (e : bX12_next_164 f0 v0 v1 h = some hz) : G X 4 164 [(0, .ref v0), (1, .int v1)] [] h 0 0 := by
  unfold bX12_next_164 at e
  refine g_iload_n 1 o dX12_next_164 rfl rfl ?_
  obtain ⟨x165, h165, q165, e⟩ := ob2_s e
  refine g_callSv [.int v1] o (mX12_isSmall q165) mw_1298 mw_1299 mw_19 mw_1300 yo_X12_isSmall rfl rfl (Nat.le_of_ble_eq_true rfl) ⟨by decide, by decide⟩ ⟨rfl, rfl⟩ dX12_next_165 ⟨by decide, by decide⟩ ?_
  refine g_istore_n [(2, .int x165), (0, .ref v0), (1, .int v1)] o dX12_next_168 rfl (by decide) rfl ?_
  refine g_iconst (v := 1) o dX12_next_169 (by decide) ?_
  refine g_istore_n [(3, .int 1), (2, .int x165), (0, .ref v0), (1, .int v1)] o dX12_next_170 rfl (by decide) rfl ?_
  refine g_aload_n 2 o dX12_next_171 rfl rfl ?_
  refine g_lconst (v := 0) o dX12_next_172 (by decide) ?_
  obtain ⟨h173, q173, e⟩ := ob e
  refine g_put (ty1 := .long) 17 o cf12 (by decide) mw_1203 rfl (by decide +kernel) rfl rfl dX12_next_173 q173 ?_
  refine g_aload_n 2 o dX12_next_176 rfl rfl ?_
  refine g_iconst (v := 0) o dX12_next_177 (by decide) ?_
  obtain ⟨h178, q178, e⟩ := ob e
  refine g_put (ty1 := .int) 14 o cf12 (by decide) mw_1200 rfl (by decide +kernel) rfl rfl dX12_next_178 q178 ?_
  refine g_sb [2, 1, 0] rfl ?_
  exact kX12_next_181 f0 o f0 v0 x165 1 h178 hz q e
set_option maxRecDepth 100000 in
set_option maxHeartbeats 4000000 in
theorem kX12_next_80 {X : Cx} (f0 : Nat) (o : Ok X cX12_next RX12 4 rmX12_next none) (v0 : Nat) (h : Hp) (hz : Hp) (q : Rt X none hz 0 0) (e : bX12_next_80 f0 v0 h = some hz) : G X 4 80 [(0, .ref v0)] [] h 0 0 := by
  unfold bX12_next_80 at e
  refine g_aload_n 0 o dX12_next_80 rfl rfl ?_
  obtain ⟨_, k81, e⟩ := ob e
  obtain ⟨x81, h81, q81, e⟩ := ob2_s e
  refine g_callVv [] o (mX12_peek q81) cf12 (ckO_s k81) mw_1295 mw_1296 mw_1729 mw_19 mw_1297 rfl yo_X12_peek rfl rfl (Nat.le_of_ble_eq_true rfl) ⟨by decide, by decide⟩ ⟨rfl, rfl⟩ dX12_next_81 ⟨by decide, by decide⟩ ?_
  refine g_istore_n [(1, .int x81), (0, .ref v0)] o dX12_next_84 rfl (by decide) rfl ?_
  refine g_iload_n 0 o dX12_next_85 rfl rfl ?_
  refine g_if_ge (x := x81) 95 o dX12_next_86 (by decide) (fun u => ?_) (fun u => ?_)
  · rw [if_pos u] at e
    refine g_iload_n 0 o dX12_next_95 rfl rfl ?_
    obtain ⟨x96, h96, q96, e⟩ := ob2_s e
    refine g_callSv [.int x81] o (mX12_isSmall q96) mw_1298 mw_1299 mw_19 mw_1300 yo_X12_isSmall rfl rfl (Nat.le_of_ble_eq_true rfl) ⟨by decide, by decide⟩ ⟨rfl, rfl⟩ dX12_next_96 ⟨by decide, by decide⟩ ?_
    refine g_if_ne (x := x96) 164 o dX12_next_99 (by decide) (fun u => ?_) (fun u => ?_)
    · rw [if_neg u] at e
      refine g_sb [1, 0] rfl ?_
      exact kX12_next_164 f0 o v0 x81 h96 hz q e
    · rw [if_pos u] at e
      refine g_iload_n 0 o dX12_next_102 rfl rfl ?_
      obtain ⟨x103, h103, q103, e⟩ := ob2_s e
      refine g_callSv [.int x81] o (mX12_isDigit q103) mw_1301 mw_1302 mw_19 mw_1303 yo_X12_isDigit rfl rfl (Nat.le_of_ble_eq_true rfl) ⟨by decide, by decide⟩ ⟨rfl, rfl⟩ dX12_next_103 ⟨by decide, by decide⟩ ?_
      refine g_if_ne (x := x103) 164 o dX12_next_106 (by decide) (fun u => ?_) (fun u => ?_)
      · rw [if_neg u] at e
        refine g_sb [1, 0] rfl ?_
        exact kX12_next_164 f0 o v0 x81 h103 hz q e
      · rw [if_pos u] at e
        refine g_aload_n 1 o dX12_next_109 rfl rfl ?_
        refine g_iload_n 0 o dX12_next_110 rfl rfl ?_
        refine g_bipush (v := 59) o dX12_next_111 (by decide) ?_
        refine g_icmp_eq (x := x81) (y := 59) 140 o dX12_next_113 (by decide) (fun u => ?_) (fun u => ?_)
        · rw [if_pos u] at e
          refine g_sb [1, 0] rfl ?_
          exact kX12_next_140 f0 o v0 x81 v0 h103 hz q e
        · rw [if_neg u] at e
          refine g_iload_n 0 o dX12_next_116 rfl rfl ?_
          refine g_bipush (v := 40) o dX12_next_117 (by decide) ?_
          refine g_icmp_eq (x := x81) (y := 40) 140 o dX12_next_119 (by decide) (fun u => ?_) (fun u => ?_)
          · rw [if_pos u] at e
            refine g_sb [1, 0] rfl ?_
            exact kX12_next_140 f0 o v0 x81 v0 h103 hz q e
          · rw [if_neg u] at e
            refine g_iload_n 0 o dX12_next_122 rfl rfl ?_
            refine g_bipush (v := 41) o dX12_next_123 (by decide) ?_
            refine g_icmp_eq (x := x81) (y := 41) 140 o dX12_next_125 (by decide) (fun u => ?_) (fun u => ?_)
            · rw [if_pos u] at e
              refine g_sb [1, 0] rfl ?_
              exact kX12_next_140 f0 o v0 x81 v0 h103 hz q e
            · rw [if_neg u] at e
              refine g_iload_n 0 o dX12_next_128 rfl rfl ?_
              refine g_bipush (v := 60) o dX12_next_129 (by decide) ?_
              refine g_icmp_lt (x := x81) (y := 60) 144 o dX12_next_131 (by decide) (fun u => ?_) (fun u => ?_)
              · rw [if_pos u] at e
                refine g_sb [1, 0] rfl ?_
                exact kX12_next_144 f0 o v0 x81 v0 h103 hz q e
              · rw [if_neg u] at e
                refine g_iload_n 0 o dX12_next_134 rfl rfl ?_
                refine g_bipush (v := 62) o dX12_next_135 (by decide) ?_
                refine g_icmp_gt (x := x81) (y := 62) 144 o dX12_next_137 (by decide) (fun u => ?_) (fun u => ?_)
                · rw [if_pos u] at e
                  refine g_sb [1, 0] rfl ?_
                  exact kX12_next_144 f0 o v0 x81 v0 h103 hz q e
                · rw [if_neg u] at e
                  refine g_sb [1, 0] rfl ?_
                  exact kX12_next_140 f0 o v0 x81 v0 h103 hz q e
  · rw [if_neg u] at e
    refine g_aload_n 1 o dX12_next_89 rfl rfl ?_
    refine g_iconst (v := 0) o dX12_next_90 (by decide) ?_
    obtain ⟨h91, q91, e⟩ := ob e
    refine g_put (ty1 := .int) 11 o cf12 (by decide) mw_1197 rfl (by decide +kernel) rfl rfl dX12_next_91 q91 ?_
    exact g_vret o dX12_next_94 (rt_0 q e)
set_option maxRecDepth 100000 in
set_option maxHeartbeats 4000000 in
theorem kX12_next_0 {X : Cx} (f0 : Nat) (o : Ok X cX12_next RX12 4 rmX12_next none) (f : Nat) (v0 : Nat) (h : Hp) (hz : Hp) (q : Rt X none hz 0 0) (e : bX12_next_0 f0 f v0 h = some hz) : G X 4 0 [(0, .ref v0)] [] h 0 0 := by
  induction f generalizing v0 h hz with
  | zero => cases e
  | succ f1 ih =>
    unfold bX12_next_0 at e
    refine g_aload_n 0 o dX12_next_0 rfl rfl ?_
    obtain ⟨_, k1, e⟩ := ob e
    obtain ⟨x1, h1, q1, e⟩ := ob2_s e
    refine g_callVv [] o (mX12_peek q1) cf12 (ckO_s k1) mw_1295 mw_1296 mw_1729 mw_19 mw_1297 rfl yo_X12_peek rfl rfl (Nat.le_of_ble_eq_true rfl) ⟨by decide, by decide⟩ ⟨rfl, rfl⟩ dX12_next_1 ⟨by decide, by decide⟩ ?_
    refine g_bipush (v := 32) o dX12_next_4 (by decide) ?_
    refine g_icmp_eq (x := x1) (y := 32) 18 o dX12_next_6 (by decide) (fun u => ?_) (fun u => ?_)
    · rw [if_pos u] at e
      exact kX12_next_18 f0 (bX12_next_0 f0 f1) ih o v0 h1 hz q e
    · rw [if_neg u] at e
      refine g_aload_n 0 o dX12_next_9 rfl rfl ?_
      obtain ⟨_, k10, e⟩ := ob e
      obtain ⟨x10, h10, q10, e⟩ := ob2_s e
      refine g_callVv [] o (mX12_peek q10) cf12 (ckO_s k10) mw_1295 mw_1296 mw_1729 mw_19 mw_1297 rfl yo_X12_peek rfl rfl (Nat.le_of_ble_eq_true rfl) ⟨by decide, by decide⟩ ⟨rfl, rfl⟩ dX12_next_10 ⟨by decide, by decide⟩ ?_
      refine g_bipush (v := 10) o dX12_next_13 (by decide) ?_
      refine g_icmp_ne (x := x10) (y := 10) 31 o dX12_next_15 (by decide) (fun u => ?_) (fun u => ?_)
      · rw [if_neg u] at e
        refine g_aload_n 0 o dX12_next_31 rfl rfl ?_
        refine g_aload_n 0 o dX12_next_32 rfl rfl ?_
        obtain ⟨x33, q33, e⟩ := ob e
        refine g_getI 4 o cf12 (by decide) mw_1190 dX12_next_33 q33 ?_
        obtain ⟨h36, q36, e⟩ := ob e
        refine g_put (ty1 := .int) 12 o cf12 (by decide) mw_1198 rfl (by decide +kernel) rfl rfl dX12_next_36 q36 ?_
        refine g_aload_n 0 o dX12_next_39 rfl rfl ?_
        refine g_iconst (v := 0) o dX12_next_40 (by decide) ?_
        obtain ⟨h41, q41, e⟩ := ob e
        refine g_put (ty1 := .int) 13 o cf12 (by decide) mw_1199 rfl (by decide +kernel) rfl rfl dX12_next_41 q41 ?_
        refine g_aload_n 0 o dX12_next_44 rfl rfl ?_
        obtain ⟨x45, q45, e⟩ := ob e
        refine g_getI 3 o cf12 (by decide) mw_1189 dX12_next_45 q45 ?_
        refine g_aload_n 0 o dX12_next_48 rfl rfl ?_
        obtain ⟨x49, q49, e⟩ := ob e
        refine g_getI 5 o cf12 (by decide) mw_1191 dX12_next_49 q49 ?_
        refine g_icmp_le (x := x45) (y := x49) 80 o dX12_next_52 (by decide) (fun u => ?_) (fun u => ?_)
        · rw [if_pos u] at e
          exact kX12_next_80 f0 o v0 h41 hz q e
        · rw [if_neg u] at e
          refine g_aload_n 0 o dX12_next_55 rfl rfl ?_
          obtain ⟨x56, q56, e⟩ := ob e
          refine g_getI 4 o cf12 (by decide) mw_1190 dX12_next_56 q56 ?_
          refine g_aload_n 0 o dX12_next_59 rfl rfl ?_
          obtain ⟨x60, q60, e⟩ := ob e
          refine g_getI 5 o cf12 (by decide) mw_1191 dX12_next_60 q60 ?_
          refine g_icmp_lt (x := x56) (y := x60) 80 o dX12_next_63 (by decide) (fun u => ?_) (fun u => ?_)
          · rw [if_pos u] at e
            exact kX12_next_80 f0 o v0 h41 hz q e
          · rw [if_neg u] at e
            refine g_aload_n 0 o dX12_next_66 rfl rfl ?_
            refine g_aload_n 0 o dX12_next_67 rfl rfl ?_
            obtain ⟨x68, q68, e⟩ := ob e
            refine g_getI 5 o cf12 (by decide) mw_1191 dX12_next_68 q68 ?_
            obtain ⟨h71, q71, e⟩ := ob e
            refine g_put (ty1 := .int) 12 o cf12 (by decide) mw_1198 rfl (by decide +kernel) rfl rfl dX12_next_71 q71 ?_
            refine g_aload_n 0 o dX12_next_74 rfl rfl ?_
            refine g_iconst (v := 4) o dX12_next_75 (by decide) ?_
            obtain ⟨h76, q76, e⟩ := ob e
            refine g_put (ty1 := .int) 11 o cf12 (by decide) mw_1197 rfl (by decide +kernel) rfl rfl dX12_next_76 q76 ?_
            exact g_vret o dX12_next_79 (rt_0 q e)
      · rw [if_pos u] at e
        exact kX12_next_18 f0 (bX12_next_0 f0 f1) ih o v0 h10 hz q e
theorem yo_X12_next : yok yX12_next 0 := ⟨by decide, by decide, by decide +kernel⟩
set_option maxRecDepth 100000 in
set_option maxHeartbeats 4000000 in
theorem mX12_next {l : Launch} {D : va_G} {cy : Nat → ClassId} {f0 : Nat} {a : Nat} {h : Hp} {hz : Hp} (e : fX12_next f0 a h = some hz) : MC l D cy yX12_next cX12_next 4 none rmX12_next [.ref a] h none hz := by
  refine mc_of2 (by decide) (Nat.le_of_ble_eq_true rfl) (fun X hl hD hy hin o q => ?_)
  subst hl; subst hD; subst hy
  show G X 4 0 [(0, .ref a)] [] h 0 0
  unfold fX12_next at e
  exact kX12_next_0 f0 o f0 a h hz q e
theorem yo_X12_isWord : yok yX12_isWord 1 := ⟨by decide, by decide, by decide +kernel⟩
set_option maxRecDepth 100000 in
set_option maxHeartbeats 4000000 in
theorem mX12_isWord {l : Launch} {D : va_G} {cy : Nat → ClassId} {f0 : Nat} {a : Nat} {p0 : Int64} {h : Hp} {r : Int32} {hz : Hp} (e : fX12_isWord f0 a p0 h = some (r, hz)) : MC l D cy yX12_isWord cX12_isWord 3 (some .boolean) rmX12_isWord [.ref a, .long p0] h (some (.int r)) hz := by
  refine mc_of2 (by decide) (Nat.le_of_ble_eq_true rfl) (fun X hl hD hy hin o q => ?_)
  subst hl; subst hD; subst hy
  show G X 3 0 [(0, .ref a), (1, .long p0)] [] h 0 0
  unfold fX12_isWord at e
  refine g_aload_n 0 o dX12_isWord_0 rfl rfl ?_
  obtain ⟨x1, q1, e⟩ := ob e
  refine g_getI 11 o cf12 (by decide) mw_1197 dX12_isWord_1 q1 ?_
  refine g_iconst (v := 1) o dX12_isWord_4 (by decide) ?_
  refine g_icmp_ne (x := x1) (y := 1) 21 o dX12_isWord_5 (by decide) (fun u => ?_) (fun u => ?_)
  · rw [if_neg u] at e
    refine g_iconst (v := 0) o dX12_isWord_21 (by decide) ?_
    exact g_zret o dX12_isWord_22 (zr_s e).1 (rt_v q (zr_s e).2)
  · rw [if_pos u] at e
    refine g_aload_n 0 o dX12_isWord_8 rfl rfl ?_
    obtain ⟨x9, q9, e⟩ := ob e
    refine g_getJ 17 o cf12 (by decide) mw_1203 dX12_isWord_9 q9 ?_
    refine g_lload_n 1 o dX12_isWord_12 rfl rfl ?_
    refine g_lcmp (x := x9) (y := p0) o dX12_isWord_13 ?_
    refine g_if_ne (x := (lg_cmp x9 p0)) 21 o dX12_isWord_14 (by decide) (fun u => ?_) (fun u => ?_)
    · rw [if_neg u] at e
      refine g_iconst (v := 0) o dX12_isWord_21 (by decide) ?_
      exact g_zret o dX12_isWord_22 (zr_s e).1 (rt_v q (zr_s e).2)
    · rw [if_pos u] at e
      refine g_iconst (v := 1) o dX12_isWord_17 (by decide) ?_
      refine g_goto 22 o dX12_isWord_18 (by decide) ?_
      exact g_zret o dX12_isWord_22 (zr_s e).1 (rt_v q (zr_s e).2)
theorem yo_X12_bad : yok yX12_bad 1 := ⟨by decide, by decide, by decide +kernel⟩
set_option maxRecDepth 100000 in
set_option maxHeartbeats 4000000 in
theorem mX12_bad {l : Launch} {D : va_G} {cy : Nat → ClassId} {f0 : Nat} {a : Nat} {p0 : Int32} {h : Hp} {r : Int32} {hz : Hp} (e : fX12_bad f0 a p0 h = some (r, hz)) : MC l D cy yX12_bad cX12_bad 2 (some .boolean) rmX12_bad [.ref a, .int p0] h (some (.int r)) hz := by
  refine mc_of2 (by decide) (Nat.le_of_ble_eq_true rfl) (fun X hl hD hy hin o q => ?_)
  subst hl; subst hD; subst hy
  show G X 2 0 [(0, .ref a), (1, .int p0)] [] h 0 0
  unfold fX12_bad at e
  refine g_aload_n 0 o dX12_bad_0 rfl rfl ?_
  refine g_iload_n 1 o dX12_bad_1 rfl rfl ?_
  obtain ⟨h2, q2, e⟩ := ob e
  refine g_put (ty1 := .int) 15 o cf12 (by decide) mw_1201 rfl (by decide +kernel) rfl rfl dX12_bad_2 q2 ?_
  refine g_aload_n 0 o dX12_bad_5 rfl rfl ?_
  refine g_aload_n 0 o dX12_bad_6 rfl rfl ?_
  obtain ⟨x7, q7, e⟩ := ob e
  refine g_getI 12 o cf12 (by decide) mw_1198 dX12_bad_7 q7 ?_
  obtain ⟨h10, q10, e⟩ := ob e
  refine g_put (ty1 := .int) 16 o cf12 (by decide) mw_1202 rfl (by decide +kernel) rfl rfl dX12_bad_10 q10 ?_
  refine g_iconst (v := 0) o dX12_bad_13 (by decide) ?_
  exact g_zret o dX12_bad_14 (zr_s e).1 (rt_v q (zr_s e).2)
set_option maxRecDepth 100000 in
set_option maxHeartbeats 4000000 in
theorem kX12_isName_45 {X : Cx} (f0 : Nat) (g16 : Nat → Int32 → Int32 → Hp → Option (Int32 × Hp)) (i16 : ∀ (v02 : Nat) (v12 : Int32) (v22 : Int32) (h2 : Hp) (r : Int32) (hz : Hp), Rt X (some (.int r)) hz 0 0 → g16 v02 v12 v22 h2 = some (r, hz) → G X 3 16 [(0, .ref v02), (1, .int v12), (2, .int v22)] [] h2 0 0) (o : Ok X cX12_isName RX12 3 rmX12_isName (some .boolean)) (v0 : Nat) (v2 : Int32) (s0 : Int32) (h : Hp) (r : Int32) (hz : Hp) (q : Rt X (some (.int r)) hz 0 0) (e : bX12_isName_45 f0 g16 v0 v2 s0 h = some (r, hz)) : G X 3 45 [(0, .ref v0), (2, .int v2)] [.int s0] h 0 0 := by
  unfold bX12_isName_45 at e
  refine g_istore_n [(1, .int s0), (0, .ref v0), (2, .int v2)] o dX12_isName_45 rfl (by decide) rfl ?_
  refine g_iinc (k := 2) (v := (v2 + 1)) [(2, .int (v2 + 1)), (1, .int s0), (0, .ref v0)] o dX12_isName_46 rfl rfl (by decide) rfl ?_
  refine g_goto 16 o dX12_isName_49 (by decide) ?_
  refine g_sb [2, 1, 0] rfl ?_
  exact i16 v0 s0 (v2 + 1) h r hz q e
set_option maxRecDepth 100000 in
set_option maxHeartbeats 4000000 in
theorem kX12_isName_44 {X : Cx} (f0 : Nat) (g16 : Nat → Int32 → Int32 → Hp → Option (Int32 × Hp)) (i16 : ∀ (v02 : Nat) (v12 : Int32) (v22 : Int32) (h2 : Hp) (r : Int32) (hz : Hp), Rt X (some (.int r)) hz 0 0 → g16 v02 v12 v22 h2 = some (r, hz) → G X 3 16 [(0, .ref v02), (1, .int v12), (2, .int v22)] [] h2 0 0) (o : Ok X cX12_isName RX12 3 rmX12_isName (some .boolean)) (v0 : Nat) (v2 : Int32) (h : Hp) (r : Int32) (hz : Hp) (q : Rt X (some (.int r)) hz 0 0) (e : bX12_isName_44 f0 g16 v0 v2 h = some (r, hz)) : G X 3 44 [(0, .ref v0), (2, .int v2)] [] h 0 0 := by
  unfold bX12_isName_44 at e
  refine g_iconst (v := 0) o dX12_isName_44 (by decide) ?_
  exact kX12_isName_45 f0 g16 i16 o v0 v2 0 h r hz q e
set_option maxRecDepth 100000 in
set_option maxHeartbeats 4000000 in
theorem kX12_isName_16 {X : Cx} (f0 : Nat) (o : Ok X cX12_isName RX12 3 rmX12_isName (some .boolean)) (f : Nat) (v0 : Nat) (v1 : Int32) (v2 : Int32) (h : Hp) (r : Int32) (hz : Hp) (q : Rt X (some (.int r)) hz 0 0) (e : bX12_isName_16 f0 f v0 v1 v2 h = some (r, hz)) : G X 3 16 [(0, .ref v0), (1, .int v1), (2, .int v2)] [] h 0 0 := by
  induction f generalizing v0 v1 v2 h r hz with
  | zero => cases e
  | succ f1 ih =>
    unfold bX12_isName_16 at e
    refine g_iload_n 2 o dX12_isName_16 rfl rfl ?_
    refine g_bipush (v := 27) o dX12_isName_17 (by decide) ?_
    refine g_icmp_ge (x := v2) (y := 27) 52 o dX12_isName_19 (by decide) (fun u => ?_) (fun u => ?_)
    · rw [if_pos u] at e
      refine g_iload_n 1 o dX12_isName_52 rfl rfl ?_
      exact g_zret o dX12_isName_53 (zr_s e).1 (rt_v q (zr_s e).2)
    · rw [if_neg u] at e
      refine g_iload_n 1 o dX12_isName_22 rfl rfl ?_
      refine g_if_eq (x := v1) 44 o dX12_isName_23 (by decide) (fun u => ?_) (fun u => ?_)
      · rw [if_pos u] at e
        refine g_sb [0, 2] rfl ?_
        exact kX12_isName_44 f0 (bX12_isName_16 f0 f1) ih o v0 v2 h r hz q e
      · rw [if_neg u] at e
        refine g_aload_n 0 o dX12_isName_26 rfl rfl ?_
        obtain ⟨x27, q27, e⟩ := ob e
        refine g_getJ 17 o cf12 (by decide) mw_1203 dX12_isName_27 q27 ?_
        refine g_aload_n 0 o dX12_isName_30 rfl rfl ?_
        obtain ⟨x31, q31, e⟩ := ob e
        refine g_getN 10 o cf12 (by decide) mw_1196 dX12_isName_31 q31 ?_
        refine g_iload_n 2 o dX12_isName_34 rfl rfl ?_
        obtain ⟨x35, q35, e⟩ := ob e
        refine g_lald o dX12_isName_35 q35 ?_
        refine g_lcmp (x := x27) (y := x35) o dX12_isName_36 ?_
        refine g_if_eq (x := (lg_cmp x27 x35)) 44 o dX12_isName_37 (by decide) (fun u => ?_) (fun u => ?_)
        · rw [if_pos u] at e
          refine g_sb [0, 2] rfl ?_
          exact kX12_isName_44 f0 (bX12_isName_16 f0 f1) ih o v0 v2 h r hz q e
        · rw [if_neg u] at e
          refine g_iconst (v := 1) o dX12_isName_40 (by decide) ?_
          refine g_goto 45 o dX12_isName_41 (by decide) ?_
          refine g_sb [0, 2] rfl ?_
          exact kX12_isName_45 f0 (bX12_isName_16 f0 f1) ih o v0 v2 1 h r hz q e
set_option maxRecDepth 100000 in
set_option maxHeartbeats 4000000 in
theorem kX12_isName_13 {X : Cx} (f0 : Nat) (o : Ok X cX12_isName RX12 3 rmX12_isName (some .boolean)) (v0 : Nat) (s0 : Int32) (h : Hp) (r : Int32) (hz : Hp) (q : Rt X (some (.int r)) hz 0 0) (e : bX12_isName_13 f0 v0 s0 h = some (r, hz)) : G X 3 13 [(0, .ref v0)] [.int s0] h 0 0 := by
  unfold bX12_isName_13 at e
  refine g_istore_n [(1, .int s0), (0, .ref v0)] o dX12_isName_13 rfl (by decide) rfl ?_
  refine g_iconst (v := 0) o dX12_isName_14 (by decide) ?_
  refine g_istore_n [(2, .int 0), (1, .int s0), (0, .ref v0)] o dX12_isName_15 rfl (by decide) rfl ?_
  refine g_sb [2, 1, 0] rfl ?_
  exact kX12_isName_16 f0 o f0 v0 s0 0 h r hz q e
theorem yo_X12_isName : yok yX12_isName 0 := ⟨by decide, by decide, by decide +kernel⟩
set_option maxRecDepth 100000 in
set_option maxHeartbeats 4000000 in
theorem mX12_isName {l : Launch} {D : va_G} {cy : Nat → ClassId} {f0 : Nat} {a : Nat} {h : Hp} {r : Int32} {hz : Hp} (e : fX12_isName f0 a h = some (r, hz)) : MC l D cy yX12_isName cX12_isName 3 (some .boolean) rmX12_isName [.ref a] h (some (.int r)) hz := by
  refine mc_of2 (by decide) (Nat.le_of_ble_eq_true rfl) (fun X hl hD hy hin o q => ?_)
  subst hl; subst hD; subst hy
  show G X 3 0 [(0, .ref a)] [] h 0 0
  unfold fX12_isName at e
  refine g_aload_n 0 o dX12_isName_0 rfl rfl ?_
  obtain ⟨x1, q1, e⟩ := ob e
  refine g_getI 11 o cf12 (by decide) mw_1197 dX12_isName_1 q1 ?_
  refine g_iconst (v := 1) o dX12_isName_4 (by decide) ?_
  refine g_icmp_ne (x := x1) (y := 1) 12 o dX12_isName_5 (by decide) (fun u => ?_) (fun u => ?_)
  · rw [if_neg u] at e
    refine g_iconst (v := 0) o dX12_isName_12 (by decide) ?_
    exact kX12_isName_13 f0 o a 0 h r hz q e
  · rw [if_pos u] at e
    refine g_iconst (v := 1) o dX12_isName_8 (by decide) ?_
    refine g_goto 13 o dX12_isName_9 (by decide) ?_
    exact kX12_isName_13 f0 o a 1 h r hz q e
set_option maxRecDepth 100000 in
set_option maxHeartbeats 4000000 in
theorem kX12_find_2 {X : Cx} (f0 : Nat) (o : Ok X cX12_find RX12 4 rmX12_find (some .int)) (f : Nat) (v0 : Nat) (v1 : Int32) (v2 : Int32) (v3 : Int32) (h : Hp) (r : Int32) (hz : Hp) (q : Rt X (some (.int r)) hz 0 0) (e : bX12_find_2 f0 f v0 v1 v2 v3 h = some (r, hz)) : G X 4 2 [(0, .ref v0), (1, .int v1), (2, .int v2), (3, .int v3)] [] h 0 0 := by
  induction f generalizing v0 v1 v2 v3 h r hz with
  | zero => cases e
  | succ f1 ih =>
    unfold bX12_find_2 at e
    refine g_iload_n 3 o dX12_find_2 rfl rfl ?_
    refine g_iload_n 2 o dX12_find_3 rfl rfl ?_
    refine g_icmp_ge (x := v3) (y := v2) 31 o dX12_find_4 (by decide) (fun u => ?_) (fun u => ?_)
    · rw [if_pos u] at e
      refine g_iconst (v := -1) o dX12_find_31 (by decide) ?_
      exact g_iret o dX12_find_32 (rt_v q e)
    · rw [if_neg u] at e
      refine g_aload_n 0 o dX12_find_7 rfl rfl ?_
      obtain ⟨x8, q8, e⟩ := ob e
      refine g_getN 9 o cf12 (by decide) mw_1195 dX12_find_8 q8 ?_
      refine g_iload_n 1 o dX12_find_11 rfl rfl ?_
      refine g_iload_n 3 o dX12_find_12 rfl rfl ?_
      refine g_iadd (x := v1) (y := v3) o dX12_find_13 ?_
      obtain ⟨x14, q14, e⟩ := ob e
      refine g_lald o dX12_find_14 q14 ?_
      refine g_aload_n 0 o dX12_find_15 rfl rfl ?_
      obtain ⟨x16, q16, e⟩ := ob e
      refine g_getJ 17 o cf12 (by decide) mw_1203 dX12_find_16 q16 ?_
      refine g_lcmp (x := x14) (y := x16) o dX12_find_19 ?_
      refine g_if_ne (x := (lg_cmp x14 x16)) 25 o dX12_find_20 (by decide) (fun u => ?_) (fun u => ?_)
      · rw [if_neg u] at e
        refine g_iinc (k := 3) (v := (v3 + 1)) [(3, .int (v3 + 1)), (0, .ref v0), (1, .int v1), (2, .int v2)] o dX12_find_25 rfl rfl (by decide) rfl ?_
        refine g_goto 2 o dX12_find_28 (by decide) ?_
        refine g_sb [1, 2, 3, 0] rfl ?_
        exact ih v0 v1 v2 (v3 + 1) h r hz q e
      · rw [if_pos u] at e
        refine g_iload_n 3 o dX12_find_23 rfl rfl ?_
        exact g_iret o dX12_find_24 (rt_v q e)
theorem yo_X12_find : yok yX12_find 2 := ⟨by decide, by decide, by decide +kernel⟩
set_option maxRecDepth 100000 in
set_option maxHeartbeats 4000000 in
theorem mX12_find {l : Launch} {D : va_G} {cy : Nat → ClassId} {f0 : Nat} {a : Nat} {p0 : Int32} {p1 : Int32} {h : Hp} {r : Int32} {hz : Hp} (e : fX12_find f0 a p0 p1 h = some (r, hz)) : MC l D cy yX12_find cX12_find 4 (some .int) rmX12_find [.ref a, .int p0, .int p1] h (some (.int r)) hz := by
  refine mc_of2 (by decide) (Nat.le_of_ble_eq_true rfl) (fun X hl hD hy hin o q => ?_)
  subst hl; subst hD; subst hy
  show G X 4 0 [(0, .ref a), (1, .int p0), (2, .int p1)] [] h 0 0
  unfold fX12_find at e
  refine g_iconst (v := 0) o dX12_find_0 (by decide) ?_
  refine g_istore_n [(3, .int 0), (0, .ref a), (1, .int p0), (2, .int p1)] o dX12_find_1 rfl (by decide) rfl ?_
  refine g_sb [1, 2, 3, 0] rfl ?_
  exact kX12_find_2 f0 o f0 a p0 p1 0 h r hz q e
set_option maxRecDepth 100000 in
set_option maxHeartbeats 4000000 in
theorem kX12_fresh_73 {X : Cx} (f0 : Nat) (o : Ok X cX12_fresh RX12 2 rmX12_fresh (some .boolean)) (v0 : Nat) (h : Hp) (r : Int32) (hz : Hp) (q : Rt X (some (.int r)) hz 0 0) (e : bX12_fresh_73 f0 v0 h = some (r, hz)) : G X 2 73 [(0, .ref v0)] [] h 0 0 := by
  unfold bX12_fresh_73 at e
  refine g_aload_n 0 o dX12_fresh_73 rfl rfl ?_
  refine g_iconst (v := 3) o dX12_fresh_74 (by decide) ?_
  obtain ⟨_, k75, e⟩ := ob e
  obtain ⟨x75, h75, q75, e⟩ := ob2_s e
  refine g_callVv [.int 3] o (mX12_bad q75) cf12 (ckO_s k75) mw_1313 mw_1314 mw_1733 mw_19 mw_1315 rfl yo_X12_bad rfl rfl (Nat.le_of_ble_eq_true rfl) ⟨by decide, by decide⟩ ⟨rfl, rfl⟩ dX12_fresh_75 ⟨by decide, by decide⟩ ?_
  exact g_zret o dX12_fresh_78 (zr_s e).1 (rt_v q (zr_s e).2)
theorem yo_X12_fresh : yok yX12_fresh 1 := ⟨by decide, by decide, by decide +kernel⟩
set_option maxRecDepth 100000 in
set_option maxHeartbeats 4000000 in
theorem mX12_fresh {l : Launch} {D : va_G} {cy : Nat → ClassId} {f0 : Nat} {a : Nat} {p0 : Int32} {h : Hp} {r : Int32} {hz : Hp} (e : fX12_fresh f0 a p0 h = some (r, hz)) : MC l D cy yX12_fresh cX12_fresh 2 (some .boolean) rmX12_fresh [.ref a, .int p0] h (some (.int r)) hz := by
  refine mc_of2 (by decide) (Nat.le_of_ble_eq_true rfl) (fun X hl hD hy hin o q => ?_)
  subst hl; subst hD; subst hy
  show G X 2 0 [(0, .ref a), (1, .int p0)] [] h 0 0
  unfold fX12_fresh at e
  refine g_aload_n 0 o dX12_fresh_0 rfl rfl ?_
  obtain ⟨_, k1, e⟩ := ob e
  obtain ⟨x1, h1, q1, e⟩ := ob2_s e
  refine g_callVv [] o (mX12_isName q1) cf12 (ckO_s k1) mw_1319 mw_1320 mw_1735 mw_19 mw_1321 rfl yo_X12_isName rfl rfl (Nat.le_of_ble_eq_true rfl) ⟨by decide, by decide⟩ ⟨rfl, rfl⟩ dX12_fresh_1 ⟨by decide, by decide⟩ ?_
  refine g_if_ne (x := x1) 13 o dX12_fresh_4 (by decide) (fun u => ?_) (fun u => ?_)
  · rw [if_neg u] at e
    refine g_aload_n 0 o dX12_fresh_13 rfl rfl ?_
    refine g_bipush (v := 30) o dX12_fresh_14 (by decide) ?_
    refine g_aload_n 0 o dX12_fresh_16 rfl rfl ?_
    obtain ⟨x17, q17, e⟩ := ob e
    refine g_getN 7 o cf12 (by decide) mw_1193 dX12_fresh_17 q17 ?_
    refine g_iconst (v := 0) o dX12_fresh_20 (by decide) ?_
    obtain ⟨x21, q21, e⟩ := ob e
    refine g_iald o dX12_fresh_21 q21 ?_
    obtain ⟨_, k22, e⟩ := ob e
    obtain ⟨x22, h22, q22, e⟩ := ob2_s e
    refine g_callVv [.int 30, .int x21] o (mX12_find q22) cf12 (ckO_s k22) mw_1322 mw_1323 mw_1736 mw_19 mw_1324 rfl yo_X12_find rfl rfl (Nat.le_of_ble_eq_true rfl) ⟨by decide, by decide⟩ ⟨rfl, rfl⟩ dX12_fresh_22 ⟨by decide, by decide⟩ ?_
    refine g_if_ge (x := x22) 73 o dX12_fresh_25 (by decide) (fun u => ?_) (fun u => ?_)
    · rw [if_pos u] at e
      refine g_sb [0] rfl ?_
      exact kX12_fresh_73 f0 o a h22 r hz q e
    · rw [if_neg u] at e
      refine g_aload_n 0 o dX12_fresh_28 rfl rfl ?_
      refine g_bipush (v := 38) o dX12_fresh_29 (by decide) ?_
      refine g_aload_n 0 o dX12_fresh_31 rfl rfl ?_
      obtain ⟨x32, q32, e⟩ := ob e
      refine g_getN 7 o cf12 (by decide) mw_1193 dX12_fresh_32 q32 ?_
      refine g_iconst (v := 1) o dX12_fresh_35 (by decide) ?_
      obtain ⟨x36, q36, e⟩ := ob e
      refine g_iald o dX12_fresh_36 q36 ?_
      obtain ⟨_, k37, e⟩ := ob e
      obtain ⟨x37, h37, q37, e⟩ := ob2_s e
      refine g_callVv [.int 38, .int x36] o (mX12_find q37) cf12 (ckO_s k37) mw_1322 mw_1323 mw_1736 mw_19 mw_1324 rfl yo_X12_find rfl rfl (Nat.le_of_ble_eq_true rfl) ⟨by decide, by decide⟩ ⟨rfl, rfl⟩ dX12_fresh_37 ⟨by decide, by decide⟩ ?_
      refine g_if_ge (x := x37) 73 o dX12_fresh_40 (by decide) (fun u => ?_) (fun u => ?_)
      · rw [if_pos u] at e
        refine g_sb [0] rfl ?_
        exact kX12_fresh_73 f0 o a h37 r hz q e
      · rw [if_neg u] at e
        refine g_aload_n 0 o dX12_fresh_43 rfl rfl ?_
        refine g_bipush (v := 46) o dX12_fresh_44 (by decide) ?_
        refine g_aload_n 0 o dX12_fresh_46 rfl rfl ?_
        obtain ⟨x47, q47, e⟩ := ob e
        refine g_getN 7 o cf12 (by decide) mw_1193 dX12_fresh_47 q47 ?_
        refine g_iconst (v := 2) o dX12_fresh_50 (by decide) ?_
        obtain ⟨x51, q51, e⟩ := ob e
        refine g_iald o dX12_fresh_51 q51 ?_
        obtain ⟨_, k52, e⟩ := ob e
        obtain ⟨x52, h52, q52, e⟩ := ob2_s e
        refine g_callVv [.int 46, .int x51] o (mX12_find q52) cf12 (ckO_s k52) mw_1322 mw_1323 mw_1736 mw_19 mw_1324 rfl yo_X12_find rfl rfl (Nat.le_of_ble_eq_true rfl) ⟨by decide, by decide⟩ ⟨rfl, rfl⟩ dX12_fresh_52 ⟨by decide, by decide⟩ ?_
        refine g_if_ge (x := x52) 73 o dX12_fresh_55 (by decide) (fun u => ?_) (fun u => ?_)
        · rw [if_pos u] at e
          refine g_sb [0] rfl ?_
          exact kX12_fresh_73 f0 o a h52 r hz q e
        · rw [if_neg u] at e
          refine g_aload_n 0 o dX12_fresh_58 rfl rfl ?_
          refine g_bipush (v := 52) o dX12_fresh_59 (by decide) ?_
          refine g_aload_n 0 o dX12_fresh_61 rfl rfl ?_
          obtain ⟨x62, q62, e⟩ := ob e
          refine g_getN 7 o cf12 (by decide) mw_1193 dX12_fresh_62 q62 ?_
          refine g_iconst (v := 3) o dX12_fresh_65 (by decide) ?_
          obtain ⟨x66, q66, e⟩ := ob e
          refine g_iald o dX12_fresh_66 q66 ?_
          obtain ⟨_, k67, e⟩ := ob e
          obtain ⟨x67, h67, q67, e⟩ := ob2_s e
          refine g_callVv [.int 52, .int x66] o (mX12_find q67) cf12 (ckO_s k67) mw_1322 mw_1323 mw_1736 mw_19 mw_1324 rfl yo_X12_find rfl rfl (Nat.le_of_ble_eq_true rfl) ⟨by decide, by decide⟩ ⟨rfl, rfl⟩ dX12_fresh_67 ⟨by decide, by decide⟩ ?_
          refine g_if_lt (x := x67) 79 o dX12_fresh_70 (by decide) (fun u => ?_) (fun u => ?_)
          · rw [if_pos u] at e
            refine g_aload_n 0 o dX12_fresh_79 rfl rfl ?_
            obtain ⟨x80, q80, e⟩ := ob e
            refine g_getN 9 o cf12 (by decide) mw_1195 dX12_fresh_80 q80 ?_
            refine g_iload_n 1 o dX12_fresh_83 rfl rfl ?_
            refine g_aload_n 0 o dX12_fresh_84 rfl rfl ?_
            obtain ⟨x85, q85, e⟩ := ob e
            refine g_getJ 17 o cf12 (by decide) mw_1203 dX12_fresh_85 q85 ?_
            obtain ⟨h88, q88, e⟩ := ob e
            refine g_last o dX12_fresh_88 q88 ?_
            refine g_aload_n 0 o dX12_fresh_89 rfl rfl ?_
            obtain ⟨_, k90, e⟩ := ob e
            obtain ⟨h90, q90, e⟩ := ob e
            refine g_callV0 [] o (mX12_next q90) cf12 (ckO_s k90) mw_1292 mw_1293 mw_1728 mw_19 mw_1294 rfl yo_X12_next rfl rfl (Nat.le_of_ble_eq_true rfl) ⟨by decide, by decide⟩ ⟨rfl, rfl⟩ dX12_fresh_90 ⟨by decide, by decide⟩ ?_
            refine g_iconst (v := 1) o dX12_fresh_93 (by decide) ?_
            exact g_zret o dX12_fresh_94 (zr_s e).1 (rt_v q (zr_s e).2)
          · rw [if_neg u] at e
            refine g_sb [0] rfl ?_
            exact kX12_fresh_73 f0 o a h67 r hz q e
  · rw [if_pos u] at e
    refine g_aload_n 0 o dX12_fresh_7 rfl rfl ?_
    refine g_iconst (v := 1) o dX12_fresh_8 (by decide) ?_
    obtain ⟨_, k9, e⟩ := ob e
    obtain ⟨x9, h9, q9, e⟩ := ob2_s e
    refine g_callVv [.int 1] o (mX12_bad q9) cf12 (ckO_s k9) mw_1313 mw_1314 mw_1733 mw_19 mw_1315 rfl yo_X12_bad rfl rfl (Nat.le_of_ble_eq_true rfl) ⟨by decide, by decide⟩ ⟨rfl, rfl⟩ dX12_fresh_9 ⟨by decide, by decide⟩ ?_
    exact g_zret o dX12_fresh_12 (zr_s e).1 (rt_v q (zr_s e).2)
theorem yo_X12_tells : yok yX12_tells 3 := ⟨by decide, by decide, by decide +kernel⟩
set_option maxRecDepth 100000 in
set_option maxHeartbeats 4000000 in
theorem mX12_tells {l : Launch} {D : va_G} {cy : Nat → ClassId} {f0 : Nat} {a : Nat} {p0 : Int32} {p1 : Int32} {p2 : Int32} {h : Hp} {r : Int32} {hz : Hp} (e : fX12_tells f0 a p0 p1 p2 h = some (r, hz)) : MC l D cy yX12_tells cX12_tells 4 (some .boolean) rmX12_tells [.ref a, .int p0, .int p1, .int p2] h (some (.int r)) hz := by
  refine mc_of2 (by decide) (Nat.le_of_ble_eq_true rfl) (fun X hl hD hy hin o q => ?_)
  subst hl; subst hD; subst hy
  show G X 4 0 [(0, .ref a), (1, .int p0), (2, .int p1), (3, .int p2)] [] h 0 0
  unfold fX12_tells at e
  refine g_aload_n 0 o dX12_tells_0 rfl rfl ?_
  obtain ⟨x1, q1, e⟩ := ob e
  refine g_getN 7 o cf12 (by decide) mw_1193 dX12_tells_1 q1 ?_
  refine g_iload_n 1 o dX12_tells_4 rfl rfl ?_
  obtain ⟨x5, q5, e⟩ := ob e
  refine g_iald o dX12_tells_5 q5 ?_
  refine g_iload_n 2 o dX12_tells_6 rfl rfl ?_
  refine g_icmp_ne (x := x5) (y := p1) 16 o dX12_tells_7 (by decide) (fun u => ?_) (fun u => ?_)
  · rw [if_neg u] at e
    refine g_aload_n 0 o dX12_tells_16 rfl rfl ?_
    obtain ⟨_, k17, e⟩ := ob e
    obtain ⟨h17, q17, e⟩ := ob e
    refine g_callV0 [] o (mX12_next q17) cf12 (ckO_s k17) mw_1292 mw_1293 mw_1728 mw_19 mw_1294 rfl yo_X12_next rfl rfl (Nat.le_of_ble_eq_true rfl) ⟨by decide, by decide⟩ ⟨rfl, rfl⟩ dX12_tells_17 ⟨by decide, by decide⟩ ?_
    refine g_aload_n 0 o dX12_tells_20 rfl rfl ?_
    refine g_iload_n 3 o dX12_tells_21 rfl rfl ?_
    refine g_aload_n 0 o dX12_tells_22 rfl rfl ?_
    obtain ⟨x23, q23, e⟩ := ob e
    refine g_getN 7 o cf12 (by decide) mw_1193 dX12_tells_23 q23 ?_
    refine g_iload_n 1 o dX12_tells_26 rfl rfl ?_
    obtain ⟨x27, q27, e⟩ := ob e
    refine g_iald o dX12_tells_27 q27 ?_
    refine g_iadd (x := p2) (y := x27) o dX12_tells_28 ?_
    obtain ⟨_, k29, e⟩ := ob e
    obtain ⟨x29, h29, q29, e⟩ := ob2_s e
    refine g_callVv [.int (p2 + x27)] o (mX12_fresh q29) cf12 (ckO_s k29) mw_1316 mw_1317 mw_1734 mw_19 mw_1318 rfl yo_X12_fresh rfl rfl (Nat.le_of_ble_eq_true rfl) ⟨by decide, by decide⟩ ⟨rfl, rfl⟩ dX12_tells_29 ⟨by decide, by decide⟩ ?_
    refine g_if_ne (x := x29) 37 o dX12_tells_32 (by decide) (fun u => ?_) (fun u => ?_)
    · rw [if_neg u] at e
      refine g_aload_n 0 o dX12_tells_37 rfl rfl ?_
      obtain ⟨x38, q38, e⟩ := ob e
      refine g_getN 7 o cf12 (by decide) mw_1193 dX12_tells_38 q38 ?_
      refine g_iload_n 1 o dX12_tells_41 rfl rfl ?_
      refine g_dup2 o dX12_tells_42 rfl rfl ?_
      obtain ⟨x43, q43, e⟩ := ob e
      refine g_iald o dX12_tells_43 q43 ?_
      refine g_iconst (v := 1) o dX12_tells_44 (by decide) ?_
      refine g_iadd (x := x43) (y := 1) o dX12_tells_45 ?_
      obtain ⟨h46, q46, e⟩ := ob e
      refine g_iast o dX12_tells_46 q46 ?_
      refine g_iconst (v := 1) o dX12_tells_47 (by decide) ?_
      exact g_zret o dX12_tells_48 (zr_s e).1 (rt_v q (zr_s e).2)
    · rw [if_pos u] at e
      refine g_iconst (v := 0) o dX12_tells_35 (by decide) ?_
      exact g_zret o dX12_tells_36 (zr_s e).1 (rt_v q (zr_s e).2)
  · rw [if_pos u] at e
    refine g_aload_n 0 o dX12_tells_10 rfl rfl ?_
    refine g_iconst (v := 4) o dX12_tells_11 (by decide) ?_
    obtain ⟨_, k12, e⟩ := ob e
    obtain ⟨x12, h12, q12, e⟩ := ob2_s e
    refine g_callVv [.int 4] o (mX12_bad q12) cf12 (ckO_s k12) mw_1313 mw_1314 mw_1733 mw_19 mw_1315 rfl yo_X12_bad rfl rfl (Nat.le_of_ble_eq_true rfl) ⟨by decide, by decide⟩ ⟨rfl, rfl⟩ dX12_tells_12 ⟨by decide, by decide⟩ ?_
    exact g_zret o dX12_tells_15 (zr_s e).1 (rt_v q (zr_s e).2)
set_option maxRecDepth 100000 in
set_option maxHeartbeats 4000000 in
theorem kX12_looksAt_38 {X : Cx} (f0 : Nat) (o : Ok X cX12_looksAt RX12 3 rmX12_looksAt (some .boolean)) (h : Hp) (r : Int32) (hz : Hp) (q : Rt X (some (.int r)) hz 0 0) (e : bX12_looksAt_38 f0 h = some (r, hz)) : G X 3 38 [] [] h 0 0 := by
  unfold bX12_looksAt_38 at e
  refine g_iconst (v := 1) o dX12_looksAt_38 (by decide) ?_
  refine g_goto 43 o dX12_looksAt_39 (by decide) ?_
  exact g_zret o dX12_looksAt_43 (zr_s e).1 (rt_v q (zr_s e).2)
theorem yo_X12_looksAt : yok yX12_looksAt 2 := ⟨by decide, by decide, by decide +kernel⟩
set_option maxRecDepth 100000 in
set_option maxHeartbeats 4000000 in
theorem mX12_looksAt {l : Launch} {D : va_G} {cy : Nat → ClassId} {f0 : Nat} {a : Nat} {p0 : Int32} {p1 : Int32} {h : Hp} {r : Int32} {hz : Hp} (e : fX12_looksAt f0 a p0 p1 h = some (r, hz)) : MC l D cy yX12_looksAt cX12_looksAt 3 (some .boolean) rmX12_looksAt [.ref a, .int p0, .int p1] h (some (.int r)) hz := by
  refine mc_of2 (by decide) (Nat.le_of_ble_eq_true rfl) (fun X hl hD hy hin o q => ?_)
  subst hl; subst hD; subst hy
  show G X 3 0 [(0, .ref a), (1, .int p0), (2, .int p1)] [] h 0 0
  unfold fX12_looksAt at e
  refine g_aload_n 0 o dX12_looksAt_0 rfl rfl ?_
  obtain ⟨_, k1, e⟩ := ob e
  obtain ⟨x1, h1, q1, e⟩ := ob2_s e
  refine g_callVv [] o (mX12_isName q1) cf12 (ckO_s k1) mw_1319 mw_1320 mw_1735 mw_19 mw_1321 rfl yo_X12_isName rfl rfl (Nat.le_of_ble_eq_true rfl) ⟨by decide, by decide⟩ ⟨rfl, rfl⟩ dX12_looksAt_1 ⟨by decide, by decide⟩ ?_
  refine g_if_ne (x := x1) 13 o dX12_looksAt_4 (by decide) (fun u => ?_) (fun u => ?_)
  · rw [if_neg u] at e
    refine g_aload_n 0 o dX12_looksAt_13 rfl rfl ?_
    refine g_aload_n 0 o dX12_looksAt_14 rfl rfl ?_
    refine g_iload_n 1 o dX12_looksAt_15 rfl rfl ?_
    refine g_iload_n 2 o dX12_looksAt_16 rfl rfl ?_
    obtain ⟨_, k17, e⟩ := ob e
    obtain ⟨x17, h17, q17, e⟩ := ob2_s e
    refine g_callVv [.int p0, .int p1] o (mX12_find q17) cf12 (ckO_s k17) mw_1322 mw_1323 mw_1736 mw_19 mw_1324 rfl yo_X12_find rfl rfl (Nat.le_of_ble_eq_true rfl) ⟨by decide, by decide⟩ ⟨rfl, rfl⟩ dX12_looksAt_17 ⟨by decide, by decide⟩ ?_
    obtain ⟨h20, q20, e⟩ := ob e
    refine g_put (ty1 := .int) 18 o cf12 (by decide) mw_1204 rfl (by decide +kernel) rfl rfl dX12_looksAt_20 q20 ?_
    refine g_aload_n 0 o dX12_looksAt_23 rfl rfl ?_
    obtain ⟨x24, q24, e⟩ := ob e
    refine g_getI 18 o cf12 (by decide) mw_1204 dX12_looksAt_24 q24 ?_
    refine g_if_ge (x := x24) 38 o dX12_looksAt_27 (by decide) (fun u => ?_) (fun u => ?_)
    · rw [if_pos u] at e
      refine g_sb [] rfl ?_
      exact kX12_looksAt_38 f0 o h20 r hz q e
    · rw [if_neg u] at e
      refine g_aload_n 0 o dX12_looksAt_30 rfl rfl ?_
      refine g_iconst (v := 3) o dX12_looksAt_31 (by decide) ?_
      obtain ⟨_, k32, e⟩ := ob e
      obtain ⟨x32, h32, q32, e⟩ := ob2_s e
      refine g_callVv [.int 3] o (mX12_bad q32) cf12 (ckO_s k32) mw_1313 mw_1314 mw_1733 mw_19 mw_1315 rfl yo_X12_bad rfl rfl (Nat.le_of_ble_eq_true rfl) ⟨by decide, by decide⟩ ⟨rfl, rfl⟩ dX12_looksAt_32 ⟨by decide, by decide⟩ ?_
      refine g_if_eq (x := x32) 42 o dX12_looksAt_35 (by decide) (fun u => ?_) (fun u => ?_)
      · rw [if_pos u] at e
        refine g_iconst (v := 0) o dX12_looksAt_42 (by decide) ?_
        exact g_zret o dX12_looksAt_43 (zr_s e).1 (rt_v q (zr_s e).2)
      · rw [if_neg u] at e
        refine g_sb [] rfl ?_
        exact kX12_looksAt_38 f0 o h32 r hz q e
  · rw [if_pos u] at e
    refine g_aload_n 0 o dX12_looksAt_7 rfl rfl ?_
    refine g_iconst (v := 1) o dX12_looksAt_8 (by decide) ?_
    obtain ⟨_, k9, e⟩ := ob e
    obtain ⟨x9, h9, q9, e⟩ := ob2_s e
    refine g_callVv [.int 1] o (mX12_bad q9) cf12 (ckO_s k9) mw_1313 mw_1314 mw_1733 mw_19 mw_1315 rfl yo_X12_bad rfl rfl (Nat.le_of_ble_eq_true rfl) ⟨by decide, by decide⟩ ⟨rfl, rfl⟩ dX12_looksAt_9 ⟨by decide, by decide⟩ ?_
    exact g_zret o dX12_looksAt_12 (zr_s e).1 (rt_v q (zr_s e).2)
theorem yo_X12_takesName : yok yX12_takesName 2 := ⟨by decide, by decide, by decide +kernel⟩
set_option maxRecDepth 100000 in
set_option maxHeartbeats 4000000 in
theorem mX12_takesName {l : Launch} {D : va_G} {cy : Nat → ClassId} {f0 : Nat} {a : Nat} {p0 : Int32} {p1 : Int32} {h : Hp} {r : Int32} {hz : Hp} (e : fX12_takesName f0 a p0 p1 h = some (r, hz)) : MC l D cy yX12_takesName cX12_takesName 3 (some .boolean) rmX12_takesName [.ref a, .int p0, .int p1] h (some (.int r)) hz := by
  refine mc_of2 (by decide) (Nat.le_of_ble_eq_true rfl) (fun X hl hD hy hin o q => ?_)
  subst hl; subst hD; subst hy
  show G X 3 0 [(0, .ref a), (1, .int p0), (2, .int p1)] [] h 0 0
  unfold fX12_takesName at e
  refine g_aload_n 0 o dX12_takesName_0 rfl rfl ?_
  refine g_iload_n 1 o dX12_takesName_1 rfl rfl ?_
  refine g_iload_n 2 o dX12_takesName_2 rfl rfl ?_
  obtain ⟨_, k3, e⟩ := ob e
  obtain ⟨x3, h3, q3, e⟩ := ob2_s e
  refine g_callVv [.int p0, .int p1] o (mX12_looksAt q3) cf12 (ckO_s k3) mw_1331 mw_1332 mw_1739 mw_19 mw_1333 rfl yo_X12_looksAt rfl rfl (Nat.le_of_ble_eq_true rfl) ⟨by decide, by decide⟩ ⟨rfl, rfl⟩ dX12_takesName_3 ⟨by decide, by decide⟩ ?_
  refine g_if_ne (x := x3) 11 o dX12_takesName_6 (by decide) (fun u => ?_) (fun u => ?_)
  · rw [if_neg u] at e
    refine g_aload_n 0 o dX12_takesName_11 rfl rfl ?_
    obtain ⟨_, k12, e⟩ := ob e
    obtain ⟨h12, q12, e⟩ := ob e
    refine g_callV0 [] o (mX12_next q12) cf12 (ckO_s k12) mw_1292 mw_1293 mw_1728 mw_19 mw_1294 rfl yo_X12_next rfl rfl (Nat.le_of_ble_eq_true rfl) ⟨by decide, by decide⟩ ⟨rfl, rfl⟩ dX12_takesName_12 ⟨by decide, by decide⟩ ?_
    refine g_iconst (v := 1) o dX12_takesName_15 (by decide) ?_
    exact g_zret o dX12_takesName_16 (zr_s e).1 (rt_v q (zr_s e).2)
  · rw [if_pos u] at e
    refine g_iconst (v := 0) o dX12_takesName_9 (by decide) ?_
    exact g_zret o dX12_takesName_10 (zr_s e).1 (rt_v q (zr_s e).2)
theorem yo_X12_isIn : yok yX12_isIn 3 := ⟨by decide, by decide, by decide +kernel⟩
set_option maxRecDepth 100000 in
set_option maxHeartbeats 4000000 in
theorem mX12_isIn {l : Launch} {D : va_G} {cy : Nat → ClassId} {f0 : Nat} {p0 : Int32} {p1 : Int32} {p2 : Int32} {h : Hp} {r : Int32} {hz : Hp} (e : fX12_isIn f0 p0 p1 p2 h = some (r, hz)) : MC l D cy yX12_isIn cX12_isIn 3 (some .boolean) rmX12_isIn [.int p0, .int p1, .int p2] h (some (.int r)) hz := by
  refine mc_of2 (by decide) (Nat.le_of_ble_eq_true rfl) (fun X hl hD hy hin o q => ?_)
  subst hl; subst hD; subst hy
  show G X 3 0 [(0, .int p0), (1, .int p1), (2, .int p2)] [] h 0 0
  unfold fX12_isIn at e
  refine g_iload_n 0 o dX12_isIn_0 rfl rfl ?_
  refine g_iload_n 1 o dX12_isIn_1 rfl rfl ?_
  refine g_icmp_lt (x := p0) (y := p1) 14 o dX12_isIn_2 (by decide) (fun u => ?_) (fun u => ?_)
  · rw [if_pos u] at e
    refine g_iconst (v := 0) o dX12_isIn_14 (by decide) ?_
    exact g_zret o dX12_isIn_15 (zr_s e).1 (rt_v q (zr_s e).2)
  · rw [if_neg u] at e
    refine g_iload_n 0 o dX12_isIn_5 rfl rfl ?_
    refine g_iload_n 2 o dX12_isIn_6 rfl rfl ?_
    refine g_icmp_gt (x := p0) (y := p2) 14 o dX12_isIn_7 (by decide) (fun u => ?_) (fun u => ?_)
    · rw [if_pos u] at e
      refine g_iconst (v := 0) o dX12_isIn_14 (by decide) ?_
      exact g_zret o dX12_isIn_15 (zr_s e).1 (rt_v q (zr_s e).2)
    · rw [if_neg u] at e
      refine g_iconst (v := 1) o dX12_isIn_10 (by decide) ?_
      refine g_goto 15 o dX12_isIn_11 (by decide) ?_
      exact g_zret o dX12_isIn_15 (zr_s e).1 (rt_v q (zr_s e).2)
theorem yo_X12_takes : yok yX12_takes 2 := ⟨by decide, by decide, by decide +kernel⟩
set_option maxRecDepth 100000 in
set_option maxHeartbeats 4000000 in
theorem mX12_takes {l : Launch} {D : va_G} {cy : Nat → ClassId} {f0 : Nat} {a : Nat} {p0 : Int32} {p1 : Int32} {h : Hp} {r : Int32} {hz : Hp} (e : fX12_takes f0 a p0 p1 h = some (r, hz)) : MC l D cy yX12_takes cX12_takes 3 (some .boolean) rmX12_takes [.ref a, .int p0, .int p1] h (some (.int r)) hz := by
  refine mc_of2 (by decide) (Nat.le_of_ble_eq_true rfl) (fun X hl hD hy hin o q => ?_)
  subst hl; subst hD; subst hy
  show G X 3 0 [(0, .ref a), (1, .int p0), (2, .int p1)] [] h 0 0
  unfold fX12_takes at e
  refine g_aload_n 0 o dX12_takes_0 rfl rfl ?_
  obtain ⟨x1, q1, e⟩ := ob e
  refine g_getI 11 o cf12 (by decide) mw_1197 dX12_takes_1 q1 ?_
  refine g_iconst (v := 2) o dX12_takes_4 (by decide) ?_
  refine g_icmp_eq (x := x1) (y := 2) 14 o dX12_takes_5 (by decide) (fun u => ?_) (fun u => ?_)
  · rw [if_pos u] at e
    refine g_aload_n 0 o dX12_takes_14 rfl rfl ?_
    obtain ⟨x15, q15, e⟩ := ob e
    refine g_getI 14 o cf12 (by decide) mw_1200 dX12_takes_15 q15 ?_
    refine g_iload_n 1 o dX12_takes_18 rfl rfl ?_
    refine g_iload_n 2 o dX12_takes_19 rfl rfl ?_
    obtain ⟨x20, h20, q20, e⟩ := ob2_s e
    refine g_callSv [.int x15, .int p0, .int p1] o (mX12_isIn q20) mw_1337 mw_1338 mw_19 mw_1339 yo_X12_isIn rfl rfl (Nat.le_of_ble_eq_true rfl) ⟨by decide, by decide⟩ ⟨rfl, rfl⟩ dX12_takes_20 ⟨by decide, by decide⟩ ?_
    refine g_if_ne (x := x20) 32 o dX12_takes_23 (by decide) (fun u => ?_) (fun u => ?_)
    · rw [if_neg u] at e
      refine g_aload_n 0 o dX12_takes_32 rfl rfl ?_
      refine g_aload_n 0 o dX12_takes_33 rfl rfl ?_
      obtain ⟨x34, q34, e⟩ := ob e
      refine g_getI 14 o cf12 (by decide) mw_1200 dX12_takes_34 q34 ?_
      obtain ⟨h37, q37, e⟩ := ob e
      refine g_put (ty1 := .int) 18 o cf12 (by decide) mw_1204 rfl (by decide +kernel) rfl rfl dX12_takes_37 q37 ?_
      refine g_aload_n 0 o dX12_takes_40 rfl rfl ?_
      obtain ⟨_, k41, e⟩ := ob e
      obtain ⟨h41, q41, e⟩ := ob e
      refine g_callV0 [] o (mX12_next q41) cf12 (ckO_s k41) mw_1292 mw_1293 mw_1728 mw_19 mw_1294 rfl yo_X12_next rfl rfl (Nat.le_of_ble_eq_true rfl) ⟨by decide, by decide⟩ ⟨rfl, rfl⟩ dX12_takes_41 ⟨by decide, by decide⟩ ?_
      refine g_iconst (v := 1) o dX12_takes_44 (by decide) ?_
      exact g_zret o dX12_takes_45 (zr_s e).1 (rt_v q (zr_s e).2)
    · rw [if_pos u] at e
      refine g_aload_n 0 o dX12_takes_26 rfl rfl ?_
      refine g_iconst (v := 2) o dX12_takes_27 (by decide) ?_
      obtain ⟨_, k28, e⟩ := ob e
      obtain ⟨x28, h28, q28, e⟩ := ob2_s e
      refine g_callVv [.int 2] o (mX12_bad q28) cf12 (ckO_s k28) mw_1313 mw_1314 mw_1733 mw_19 mw_1315 rfl yo_X12_bad rfl rfl (Nat.le_of_ble_eq_true rfl) ⟨by decide, by decide⟩ ⟨rfl, rfl⟩ dX12_takes_28 ⟨by decide, by decide⟩ ?_
      exact g_zret o dX12_takes_31 (zr_s e).1 (rt_v q (zr_s e).2)
  · rw [if_neg u] at e
    refine g_aload_n 0 o dX12_takes_8 rfl rfl ?_
    refine g_iconst (v := 1) o dX12_takes_9 (by decide) ?_
    obtain ⟨_, k10, e⟩ := ob e
    obtain ⟨x10, h10, q10, e⟩ := ob2_s e
    refine g_callVv [.int 1] o (mX12_bad q10) cf12 (ckO_s k10) mw_1313 mw_1314 mw_1733 mw_19 mw_1315 rfl yo_X12_bad rfl rfl (Nat.le_of_ble_eq_true rfl) ⟨by decide, by decide⟩ ⟨rfl, rfl⟩ dX12_takes_10 ⟨by decide, by decide⟩ ?_
    exact g_zret o dX12_takes_13 (zr_s e).1 (rt_v q (zr_s e).2)
set_option maxRecDepth 100000 in
set_option maxHeartbeats 4000000 in
theorem kX12_readWay_91 {X : Cx} (f0 : Nat) (o : Ok X cX12_readWay RX12 7 rmX12_readWay (some .boolean)) (v0 : Nat) (h : Hp) (r : Int32) (hz : Hp) (q : Rt X (some (.int r)) hz 0 0) (e : bX12_readWay_91 f0 v0 h = some (r, hz)) : G X 7 91 [(0, .ref v0)] [] h 0 0 := by
  unfold bX12_readWay_91 at e
  refine g_aload_n 0 o dX12_readWay_91 rfl rfl ?_
  refine g_iconst (v := 3) o dX12_readWay_92 (by decide) ?_
  obtain ⟨_, k93, e⟩ := ob e
  obtain ⟨x93, h93, q93, e⟩ := ob2_s e
  refine g_callVv [.int 3] o (mX12_bad q93) cf12 (ckO_s k93) mw_1313 mw_1314 mw_1733 mw_19 mw_1315 rfl yo_X12_bad rfl rfl (Nat.le_of_ble_eq_true rfl) ⟨by decide, by decide⟩ ⟨rfl, rfl⟩ dX12_readWay_93 ⟨by decide, by decide⟩ ?_
  exact g_zret o dX12_readWay_96 (zr_s e).1 (rt_v q (zr_s e).2)
set_option maxRecDepth 100000 in
set_option maxHeartbeats 4000000 in
theorem kX12_readWay_157 {X : Cx} (f0 : Nat) (o : Ok X cX12_readWay RX12 7 rmX12_readWay (some .boolean)) (v0 : Nat) (v2 : Int32) (h : Hp) (r : Int32) (hz : Hp) (q : Rt X (some (.int r)) hz 0 0) (e : bX12_readWay_157 f0 v0 v2 h = some (r, hz)) : G X 7 157 [(0, .ref v0), (2, .int v2)] [] h 0 0 := by
  unfold bX12_readWay_157 at e
  refine g_aload_n 0 o dX12_readWay_157 rfl rfl ?_
  obtain ⟨x158, q158, e⟩ := ob e
  refine g_getN 7 o cf12 (by decide) mw_1193 dX12_readWay_158 q158 ?_
  refine g_iload_n 1 o dX12_readWay_161 rfl rfl ?_
  refine g_dup2 o dX12_readWay_162 rfl rfl ?_
  obtain ⟨x163, q163, e⟩ := ob e
  refine g_iald o dX12_readWay_163 q163 ?_
  refine g_iconst (v := 1) o dX12_readWay_164 (by decide) ?_
  refine g_iadd (x := x163) (y := 1) o dX12_readWay_165 ?_
  obtain ⟨h166, q166, e⟩ := ob e
  refine g_iast o dX12_readWay_166 q166 ?_
  refine g_iconst (v := 1) o dX12_readWay_167 (by decide) ?_
  exact g_zret o dX12_readWay_168 (zr_s e).1 (rt_v q (zr_s e).2)
theorem yo_X12_readWay : yok yX12_readWay 4 := ⟨by decide, by decide, by decide +kernel⟩
set_option maxRecDepth 100000 in
set_option maxHeartbeats 4000000 in
theorem mX12_readWay {l : Launch} {D : va_G} {cy : Nat → ClassId} {f0 : Nat} {a : Nat} {p0 : Int32} {p1 : Int32} {p2 : Int32} {p3 : Int32} {h : Hp} {r : Int32} {hz : Hp} (e : fX12_readWay f0 a p0 p1 p2 p3 h = some (r, hz)) : MC l D cy yX12_readWay cX12_readWay 7 (some .boolean) rmX12_readWay [.ref a, .int p0, .int p1, .int p2, .int p3] h (some (.int r)) hz := by
  refine mc_of2 (by decide) (Nat.le_of_ble_eq_true rfl) (fun X hl hD hy hin o q => ?_)
  subst hl; subst hD; subst hy
  show G X 7 0 [(0, .ref a), (1, .int p0), (2, .int p1), (3, .int p2), (4, .int p3)] [] h 0 0
  unfold fX12_readWay at e
  refine g_aload_n 0 o dX12_readWay_0 rfl rfl ?_
  obtain ⟨x1, q1, e⟩ := ob e
  refine g_getN 7 o cf12 (by decide) mw_1193 dX12_readWay_1 q1 ?_
  refine g_iload_n 2 o dX12_readWay_4 rfl rfl ?_
  obtain ⟨x5, q5, e⟩ := ob e
  refine g_iald o dX12_readWay_5 q5 ?_
  refine g_iload_n 3 o dX12_readWay_6 rfl rfl ?_
  refine g_icmp_ne (x := x5) (y := p2) 16 o dX12_readWay_7 (by decide) (fun u => ?_) (fun u => ?_)
  · rw [if_neg u] at e
    refine g_aload_n 0 o dX12_readWay_16 rfl rfl ?_
    obtain ⟨_, k17, e⟩ := ob e
    obtain ⟨h17, q17, e⟩ := ob e
    refine g_callV0 [] o (mX12_next q17) cf12 (ckO_s k17) mw_1292 mw_1293 mw_1728 mw_19 mw_1294 rfl yo_X12_next rfl rfl (Nat.le_of_ble_eq_true rfl) ⟨by decide, by decide⟩ ⟨rfl, rfl⟩ dX12_readWay_17 ⟨by decide, by decide⟩ ?_
    refine g_aload_n 0 o dX12_readWay_20 rfl rfl ?_
    refine g_bipush (v := 30) o dX12_readWay_21 (by decide) ?_
    refine g_aload_n 0 o dX12_readWay_23 rfl rfl ?_
    obtain ⟨x24, q24, e⟩ := ob e
    refine g_getN 7 o cf12 (by decide) mw_1193 dX12_readWay_24 q24 ?_
    refine g_iconst (v := 0) o dX12_readWay_27 (by decide) ?_
    obtain ⟨x28, q28, e⟩ := ob e
    refine g_iald o dX12_readWay_28 q28 ?_
    obtain ⟨_, k29, e⟩ := ob e
    obtain ⟨x29, h29, q29, e⟩ := ob2_s e
    refine g_callVv [.int 30, .int x28] o (mX12_takesName q29) cf12 (ckO_s k29) mw_1328 mw_1329 mw_1738 mw_19 mw_1330 rfl yo_X12_takesName rfl rfl (Nat.le_of_ble_eq_true rfl) ⟨by decide, by decide⟩ ⟨rfl, rfl⟩ dX12_readWay_29 ⟨by decide, by decide⟩ ?_
    refine g_if_ne (x := x29) 37 o dX12_readWay_32 (by decide) (fun u => ?_) (fun u => ?_)
    · rw [if_neg u] at e
      refine g_aload_n 0 o dX12_readWay_37 rfl rfl ?_
      obtain ⟨x38, q38, e⟩ := ob e
      refine g_getI 18 o cf12 (by decide) mw_1204 dX12_readWay_38 q38 ?_
      refine g_istore [(5, .int x38), (0, .ref a), (1, .int p0), (2, .int p1), (3, .int p2), (4, .int p3)] o dX12_readWay_41 (by decide) rfl ?_
      refine g_aload_n 1 o dX12_readWay_43 rfl rfl ?_
      refine g_bipush (v := 30) o dX12_readWay_44 (by decide) ?_
      refine g_aload_n 1 o dX12_readWay_46 rfl rfl ?_
      obtain ⟨x47, q47, e⟩ := ob e
      refine g_getN 7 o cf12 (by decide) mw_1193 dX12_readWay_47 q47 ?_
      refine g_iconst (v := 0) o dX12_readWay_50 (by decide) ?_
      obtain ⟨x51, q51, e⟩ := ob e
      refine g_iald o dX12_readWay_51 q51 ?_
      obtain ⟨_, k52, e⟩ := ob e
      obtain ⟨x52, h52, q52, e⟩ := ob2_s e
      refine g_callVv [.int 30, .int x51] o (mX12_looksAt q52) cf12 (ckO_s k52) mw_1331 mw_1332 mw_1739 mw_19 mw_1333 rfl yo_X12_looksAt rfl rfl (Nat.le_of_ble_eq_true rfl) ⟨by decide, by decide⟩ ⟨rfl, rfl⟩ dX12_readWay_52 ⟨by decide, by decide⟩ ?_
      refine g_if_ne (x := x52) 60 o dX12_readWay_55 (by decide) (fun u => ?_) (fun u => ?_)
      · rw [if_neg u] at e
        refine g_aload_n 1 o dX12_readWay_60 rfl rfl ?_
        obtain ⟨x61, q61, e⟩ := ob e
        refine g_getI 18 o cf12 (by decide) mw_1204 dX12_readWay_61 q61 ?_
        refine g_istore [(6, .int x61), (5, .int x38), (0, .ref a), (1, .int p0), (2, .int p1), (3, .int p2), (4, .int p3)] o dX12_readWay_64 (by decide) rfl ?_
        refine g_iload 1 o dX12_readWay_66 rfl ?_
        refine g_iload 0 o dX12_readWay_68 rfl ?_
        refine g_icmp_eq (x := x38) (y := x61) 91 o dX12_readWay_70 (by decide) (fun u => ?_) (fun u => ?_)
        · rw [if_pos u] at e
          refine g_sb [2] rfl ?_
          exact kX12_readWay_91 f0 o a h52 r hz q e
        · rw [if_neg u] at e
          refine g_aload_n 2 o dX12_readWay_73 rfl rfl ?_
          obtain ⟨x74, q74, e⟩ := ob e
          refine g_getN 7 o cf12 (by decide) mw_1193 dX12_readWay_74 q74 ?_
          refine g_iload_n 3 o dX12_readWay_77 rfl rfl ?_
          refine g_bipush (v := 8) o dX12_readWay_78 (by decide) ?_
          refine g_iload 1 o dX12_readWay_80 rfl ?_
          refine g_imul (x := (8 : Int32)) (y := x38) o dX12_readWay_82 ?_
          refine g_iadd (x := p0) (y := ((8 : Int32) * x38)) o dX12_readWay_83 ?_
          refine g_iload 0 o dX12_readWay_84 rfl ?_
          refine g_iadd (x := (p0 + ((8 : Int32) * x38))) (y := x61) o dX12_readWay_86 ?_
          obtain ⟨x87, q87, e⟩ := ob e
          refine g_iald o dX12_readWay_87 q87 ?_
          refine g_if_le (x := x87) 97 o dX12_readWay_88 (by decide) (fun u => ?_) (fun u => ?_)
          · rw [if_pos u] at e
            refine g_aload_n 2 o dX12_readWay_97 rfl rfl ?_
            obtain ⟨_, k98, e⟩ := ob e
            obtain ⟨h98, q98, e⟩ := ob e
            refine g_callV0 [] o (mX12_next q98) cf12 (ckO_s k98) mw_1292 mw_1293 mw_1728 mw_19 mw_1294 rfl yo_X12_next rfl rfl (Nat.le_of_ble_eq_true rfl) ⟨by decide, by decide⟩ ⟨rfl, rfl⟩ dX12_readWay_98 ⟨by decide, by decide⟩ ?_
            refine g_aload_n 2 o dX12_readWay_101 rfl rfl ?_
            refine g_iconst (v := 1) o dX12_readWay_102 (by decide) ?_
            refine g_iload 6 o dX12_readWay_103 rfl ?_
            obtain ⟨_, k105, e⟩ := ob e
            obtain ⟨x105, h105, q105, e⟩ := ob2_s e
            refine g_callVv [.int 1, .int p3] o (mX12_takes q105) cf12 (ckO_s k105) mw_1334 mw_1335 mw_1740 mw_19 mw_1336 rfl yo_X12_takes rfl rfl (Nat.le_of_ble_eq_true rfl) ⟨by decide, by decide⟩ ⟨rfl, rfl⟩ dX12_readWay_105 ⟨by decide, by decide⟩ ?_
            refine g_if_ne (x := x105) 113 o dX12_readWay_108 (by decide) (fun u => ?_) (fun u => ?_)
            · rw [if_neg u] at e
              refine g_aload_n 2 o dX12_readWay_113 rfl rfl ?_
              obtain ⟨x114, q114, e⟩ := ob e
              refine g_getN 7 o cf12 (by decide) mw_1193 dX12_readWay_114 q114 ?_
              refine g_iload_n 3 o dX12_readWay_117 rfl rfl ?_
              refine g_bipush (v := 8) o dX12_readWay_118 (by decide) ?_
              refine g_iload 1 o dX12_readWay_120 rfl ?_
              refine g_imul (x := (8 : Int32)) (y := x38) o dX12_readWay_122 ?_
              refine g_iadd (x := p0) (y := ((8 : Int32) * x38)) o dX12_readWay_123 ?_
              refine g_iload 0 o dX12_readWay_124 rfl ?_
              refine g_iadd (x := (p0 + ((8 : Int32) * x38))) (y := x61) o dX12_readWay_126 ?_
              refine g_aload_n 2 o dX12_readWay_127 rfl rfl ?_
              obtain ⟨x128, q128, e⟩ := ob e
              refine g_getI 18 o cf12 (by decide) mw_1204 dX12_readWay_128 q128 ?_
              obtain ⟨h131, q131, e⟩ := ob e
              refine g_iast o dX12_readWay_131 q131 ?_
              refine g_iload_n 3 o dX12_readWay_132 rfl rfl ?_
              refine g_bipush (v := 8) o dX12_readWay_133 (by decide) ?_
              refine g_icmp_ne (x := p0) (y := 8) 157 o dX12_readWay_135 (by decide) (fun u => ?_) (fun u => ?_)
              · rw [if_neg u] at e
                refine g_sb [2, 4] rfl ?_
                exact kX12_readWay_157 f0 o a p1 h131 r hz q e
              · rw [if_pos u] at e
                refine g_aload_n 2 o dX12_readWay_138 rfl rfl ?_
                obtain ⟨x139, q139, e⟩ := ob e
                refine g_getN 7 o cf12 (by decide) mw_1193 dX12_readWay_139 q139 ?_
                refine g_iload_n 3 o dX12_readWay_142 rfl rfl ?_
                refine g_bipush (v := 8) o dX12_readWay_143 (by decide) ?_
                refine g_iload 0 o dX12_readWay_145 rfl ?_
                refine g_imul (x := (8 : Int32)) (y := x61) o dX12_readWay_147 ?_
                refine g_iadd (x := p0) (y := ((8 : Int32) * x61)) o dX12_readWay_148 ?_
                refine g_iload 1 o dX12_readWay_149 rfl ?_
                refine g_iadd (x := (p0 + ((8 : Int32) * x61))) (y := x38) o dX12_readWay_151 ?_
                refine g_aload_n 2 o dX12_readWay_152 rfl rfl ?_
                obtain ⟨x153, q153, e⟩ := ob e
                refine g_getI 18 o cf12 (by decide) mw_1204 dX12_readWay_153 q153 ?_
                obtain ⟨h156, q156, e⟩ := ob e
                refine g_iast o dX12_readWay_156 q156 ?_
                refine g_sb [2, 4] rfl ?_
                exact kX12_readWay_157 f0 o a p1 h156 r hz q e
            · rw [if_pos u] at e
              refine g_iconst (v := 0) o dX12_readWay_111 (by decide) ?_
              exact g_zret o dX12_readWay_112 (zr_s e).1 (rt_v q (zr_s e).2)
          · rw [if_neg u] at e
            refine g_sb [2] rfl ?_
            exact kX12_readWay_91 f0 o a h52 r hz q e
      · rw [if_pos u] at e
        refine g_iconst (v := 0) o dX12_readWay_58 (by decide) ?_
        exact g_zret o dX12_readWay_59 (zr_s e).1 (rt_v q (zr_s e).2)
    · rw [if_pos u] at e
      refine g_iconst (v := 0) o dX12_readWay_35 (by decide) ?_
      exact g_zret o dX12_readWay_36 (zr_s e).1 (rt_v q (zr_s e).2)
  · rw [if_pos u] at e
    refine g_aload_n 0 o dX12_readWay_10 rfl rfl ?_
    refine g_iconst (v := 4) o dX12_readWay_11 (by decide) ?_
    obtain ⟨_, k12, e⟩ := ob e
    obtain ⟨x12, h12, q12, e⟩ := ob2_s e
    refine g_callVv [.int 4] o (mX12_bad q12) cf12 (ckO_s k12) mw_1313 mw_1314 mw_1733 mw_19 mw_1315 rfl yo_X12_bad rfl rfl (Nat.le_of_ble_eq_true rfl) ⟨by decide, by decide⟩ ⟨rfl, rfl⟩ dX12_readWay_12 ⟨by decide, by decide⟩ ?_
    exact g_zret o dX12_readWay_15 (zr_s e).1 (rt_v q (zr_s e).2)
theorem yo_X12_readPrice : yok yX12_readPrice 1 := ⟨by decide, by decide, by decide +kernel⟩
set_option maxRecDepth 100000 in
set_option maxHeartbeats 4000000 in
theorem mX12_readPrice {l : Launch} {D : va_G} {cy : Nat → ClassId} {f0 : Nat} {a : Nat} {p0 : Int32} {h : Hp} {r : Int32} {hz : Hp} (e : fX12_readPrice f0 a p0 h = some (r, hz)) : MC l D cy yX12_readPrice cX12_readPrice 4 (some .boolean) rmX12_readPrice [.ref a, .int p0] h (some (.int r)) hz := by
  refine mc_of2 (by decide) (Nat.le_of_ble_eq_true rfl) (fun X hl hD hy hin o q => ?_)
  subst hl; subst hD; subst hy
  show G X 4 0 [(0, .ref a), (1, .int p0)] [] h 0 0
  unfold fX12_readPrice at e
  refine g_aload_n 0 o dX12_readPrice_0 rfl rfl ?_
  obtain ⟨_, k1, e⟩ := ob e
  obtain ⟨h1, q1, e⟩ := ob e
  refine g_callV0 [] o (mX12_next q1) cf12 (ckO_s k1) mw_1292 mw_1293 mw_1728 mw_19 mw_1294 rfl yo_X12_next rfl rfl (Nat.le_of_ble_eq_true rfl) ⟨by decide, by decide⟩ ⟨rfl, rfl⟩ dX12_readPrice_1 ⟨by decide, by decide⟩ ?_
  refine g_aload_n 0 o dX12_readPrice_4 rfl rfl ?_
  refine g_bipush (v := 38) o dX12_readPrice_5 (by decide) ?_
  refine g_aload_n 0 o dX12_readPrice_7 rfl rfl ?_
  obtain ⟨x8, q8, e⟩ := ob e
  refine g_getN 7 o cf12 (by decide) mw_1193 dX12_readPrice_8 q8 ?_
  refine g_iconst (v := 1) o dX12_readPrice_11 (by decide) ?_
  obtain ⟨x12, q12, e⟩ := ob e
  refine g_iald o dX12_readPrice_12 q12 ?_
  obtain ⟨_, k13, e⟩ := ob e
  obtain ⟨x13, h13, q13, e⟩ := ob2_s e
  refine g_callVv [.int 38, .int x12] o (mX12_takesName q13) cf12 (ckO_s k13) mw_1328 mw_1329 mw_1738 mw_19 mw_1330 rfl yo_X12_takesName rfl rfl (Nat.le_of_ble_eq_true rfl) ⟨by decide, by decide⟩ ⟨rfl, rfl⟩ dX12_readPrice_13 ⟨by decide, by decide⟩ ?_
  refine g_if_ne (x := x13) 21 o dX12_readPrice_16 (by decide) (fun u => ?_) (fun u => ?_)
  · rw [if_neg u] at e
    refine g_aload_n 0 o dX12_readPrice_21 rfl rfl ?_
    obtain ⟨x22, q22, e⟩ := ob e
    refine g_getI 18 o cf12 (by decide) mw_1204 dX12_readPrice_22 q22 ?_
    refine g_istore_n [(2, .int x22), (0, .ref a), (1, .int p0)] o dX12_readPrice_25 rfl (by decide) rfl ?_
    refine g_aload_n 1 o dX12_readPrice_26 rfl rfl ?_
    refine g_bipush (v := 30) o dX12_readPrice_27 (by decide) ?_
    refine g_aload_n 1 o dX12_readPrice_29 rfl rfl ?_
    obtain ⟨x30, q30, e⟩ := ob e
    refine g_getN 7 o cf12 (by decide) mw_1193 dX12_readPrice_30 q30 ?_
    refine g_iconst (v := 0) o dX12_readPrice_33 (by decide) ?_
    obtain ⟨x34, q34, e⟩ := ob e
    refine g_iald o dX12_readPrice_34 q34 ?_
    obtain ⟨_, k35, e⟩ := ob e
    obtain ⟨x35, h35, q35, e⟩ := ob2_s e
    refine g_callVv [.int 30, .int x34] o (mX12_looksAt q35) cf12 (ckO_s k35) mw_1331 mw_1332 mw_1739 mw_19 mw_1333 rfl yo_X12_looksAt rfl rfl (Nat.le_of_ble_eq_true rfl) ⟨by decide, by decide⟩ ⟨rfl, rfl⟩ dX12_readPrice_35 ⟨by decide, by decide⟩ ?_
    refine g_if_ne (x := x35) 43 o dX12_readPrice_38 (by decide) (fun u => ?_) (fun u => ?_)
    · rw [if_neg u] at e
      refine g_iload_n 2 o dX12_readPrice_43 rfl rfl ?_
      refine g_bipush (v := 8) o dX12_readPrice_44 (by decide) ?_
      refine g_iload_n 0 o dX12_readPrice_46 rfl rfl ?_
      refine g_imul (x := (8 : Int32)) (y := x22) o dX12_readPrice_47 ?_
      refine g_iadd (x := p0) (y := ((8 : Int32) * x22)) o dX12_readPrice_48 ?_
      refine g_aload_n 1 o dX12_readPrice_49 rfl rfl ?_
      obtain ⟨x50, q50, e⟩ := ob e
      refine g_getI 18 o cf12 (by decide) mw_1204 dX12_readPrice_50 q50 ?_
      refine g_iadd (x := (p0 + ((8 : Int32) * x22))) (y := x50) o dX12_readPrice_53 ?_
      refine g_istore_n [(3, .int ((p0 + ((8 : Int32) * x22)) + x50)), (2, .int x22), (0, .ref a), (1, .int p0)] o dX12_readPrice_54 rfl (by decide) rfl ?_
      refine g_aload_n 2 o dX12_readPrice_55 rfl rfl ?_
      obtain ⟨x56, q56, e⟩ := ob e
      refine g_getN 7 o cf12 (by decide) mw_1193 dX12_readPrice_56 q56 ?_
      refine g_iload_n 0 o dX12_readPrice_59 rfl rfl ?_
      obtain ⟨x60, q60, e⟩ := ob e
      refine g_iald o dX12_readPrice_60 q60 ?_
      refine g_if_le (x := x60) 70 o dX12_readPrice_61 (by decide) (fun u => ?_) (fun u => ?_)
      · rw [if_pos u] at e
        refine g_aload_n 2 o dX12_readPrice_70 rfl rfl ?_
        obtain ⟨_, k71, e⟩ := ob e
        obtain ⟨h71, q71, e⟩ := ob e
        refine g_callV0 [] o (mX12_next q71) cf12 (ckO_s k71) mw_1292 mw_1293 mw_1728 mw_19 mw_1294 rfl yo_X12_next rfl rfl (Nat.le_of_ble_eq_true rfl) ⟨by decide, by decide⟩ ⟨rfl, rfl⟩ dX12_readPrice_71 ⟨by decide, by decide⟩ ?_
        refine g_aload_n 2 o dX12_readPrice_74 rfl rfl ?_
        refine g_iconst (v := 1) o dX12_readPrice_75 (by decide) ?_
        refine g_sipush (v := 250) o dX12_readPrice_76 (by decide) ?_
        obtain ⟨_, k79, e⟩ := ob e
        obtain ⟨x79, h79, q79, e⟩ := ob2_s e
        refine g_callVv [.int 1, .int 250] o (mX12_takes q79) cf12 (ckO_s k79) mw_1334 mw_1335 mw_1740 mw_19 mw_1336 rfl yo_X12_takes rfl rfl (Nat.le_of_ble_eq_true rfl) ⟨by decide, by decide⟩ ⟨rfl, rfl⟩ dX12_readPrice_79 ⟨by decide, by decide⟩ ?_
        refine g_if_ne (x := x79) 87 o dX12_readPrice_82 (by decide) (fun u => ?_) (fun u => ?_)
        · rw [if_neg u] at e
          refine g_aload_n 2 o dX12_readPrice_87 rfl rfl ?_
          obtain ⟨x88, q88, e⟩ := ob e
          refine g_getN 7 o cf12 (by decide) mw_1193 dX12_readPrice_88 q88 ?_
          refine g_iload_n 0 o dX12_readPrice_91 rfl rfl ?_
          refine g_aload_n 2 o dX12_readPrice_92 rfl rfl ?_
          obtain ⟨x93, q93, e⟩ := ob e
          refine g_getI 18 o cf12 (by decide) mw_1204 dX12_readPrice_93 q93 ?_
          obtain ⟨h96, q96, e⟩ := ob e
          refine g_iast o dX12_readPrice_96 q96 ?_
          refine g_iconst (v := 1) o dX12_readPrice_97 (by decide) ?_
          exact g_zret o dX12_readPrice_98 (zr_s e).1 (rt_v q (zr_s e).2)
        · rw [if_pos u] at e
          refine g_iconst (v := 0) o dX12_readPrice_85 (by decide) ?_
          exact g_zret o dX12_readPrice_86 (zr_s e).1 (rt_v q (zr_s e).2)
      · rw [if_neg u] at e
        refine g_aload_n 2 o dX12_readPrice_64 rfl rfl ?_
        refine g_iconst (v := 3) o dX12_readPrice_65 (by decide) ?_
        obtain ⟨_, k66, e⟩ := ob e
        obtain ⟨x66, h66, q66, e⟩ := ob2_s e
        refine g_callVv [.int 3] o (mX12_bad q66) cf12 (ckO_s k66) mw_1313 mw_1314 mw_1733 mw_19 mw_1315 rfl yo_X12_bad rfl rfl (Nat.le_of_ble_eq_true rfl) ⟨by decide, by decide⟩ ⟨rfl, rfl⟩ dX12_readPrice_66 ⟨by decide, by decide⟩ ?_
        exact g_zret o dX12_readPrice_69 (zr_s e).1 (rt_v q (zr_s e).2)
    · rw [if_pos u] at e
      refine g_iconst (v := 0) o dX12_readPrice_41 (by decide) ?_
      exact g_zret o dX12_readPrice_42 (zr_s e).1 (rt_v q (zr_s e).2)
  · rw [if_pos u] at e
    refine g_iconst (v := 0) o dX12_readPrice_19 (by decide) ?_
    exact g_zret o dX12_readPrice_20 (zr_s e).1 (rt_v q (zr_s e).2)
theorem yo_X12_isSign : yok yX12_isSign 1 := ⟨by decide, by decide, by decide +kernel⟩
set_option maxRecDepth 100000 in
set_option maxHeartbeats 4000000 in
theorem mX12_isSign {l : Launch} {D : va_G} {cy : Nat → ClassId} {f0 : Nat} {a : Nat} {p0 : Int32} {h : Hp} {r : Int32} {hz : Hp} (e : fX12_isSign f0 a p0 h = some (r, hz)) : MC l D cy yX12_isSign cX12_isSign 2 (some .boolean) rmX12_isSign [.ref a, .int p0] h (some (.int r)) hz := by
  refine mc_of2 (by decide) (Nat.le_of_ble_eq_true rfl) (fun X hl hD hy hin o q => ?_)
  subst hl; subst hD; subst hy
  show G X 2 0 [(0, .ref a), (1, .int p0)] [] h 0 0
  unfold fX12_isSign at e
  refine g_aload_n 0 o dX12_isSign_0 rfl rfl ?_
  obtain ⟨x1, q1, e⟩ := ob e
  refine g_getI 11 o cf12 (by decide) mw_1197 dX12_isSign_1 q1 ?_
  refine g_iconst (v := 3) o dX12_isSign_4 (by decide) ?_
  refine g_icmp_ne (x := x1) (y := 3) 20 o dX12_isSign_5 (by decide) (fun u => ?_) (fun u => ?_)
  · rw [if_neg u] at e
    refine g_iconst (v := 0) o dX12_isSign_20 (by decide) ?_
    exact g_zret o dX12_isSign_21 (zr_s e).1 (rt_v q (zr_s e).2)
  · rw [if_pos u] at e
    refine g_aload_n 0 o dX12_isSign_8 rfl rfl ?_
    obtain ⟨x9, q9, e⟩ := ob e
    refine g_getI 14 o cf12 (by decide) mw_1200 dX12_isSign_9 q9 ?_
    refine g_iload_n 1 o dX12_isSign_12 rfl rfl ?_
    refine g_icmp_ne (x := x9) (y := p0) 20 o dX12_isSign_13 (by decide) (fun u => ?_) (fun u => ?_)
    · rw [if_neg u] at e
      refine g_iconst (v := 0) o dX12_isSign_20 (by decide) ?_
      exact g_zret o dX12_isSign_21 (zr_s e).1 (rt_v q (zr_s e).2)
    · rw [if_pos u] at e
      refine g_iconst (v := 1) o dX12_isSign_16 (by decide) ?_
      refine g_goto 21 o dX12_isSign_17 (by decide) ?_
      exact g_zret o dX12_isSign_21 (zr_s e).1 (rt_v q (zr_s e).2)
theorem yo_X12_bitOf : yok yX12_bitOf 2 := ⟨by decide, by decide, by decide +kernel⟩
set_option maxRecDepth 100000 in
set_option maxHeartbeats 4000000 in
theorem mX12_bitOf {l : Launch} {D : va_G} {cy : Nat → ClassId} {f0 : Nat} {p0 : Int32} {p1 : Int32} {h : Hp} {r : Int32} {hz : Hp} (e : fX12_bitOf f0 p0 p1 h = some (r, hz)) : MC l D cy yX12_bitOf cX12_bitOf 2 (some .boolean) rmX12_bitOf [.int p0, .int p1] h (some (.int r)) hz := by
  refine mc_of2 (by decide) (Nat.le_of_ble_eq_true rfl) (fun X hl hD hy hin o q => ?_)
  subst hl; subst hD; subst hy
  show G X 2 0 [(0, .int p0), (1, .int p1)] [] h 0 0
  unfold fX12_bitOf at e
  refine g_iload_n 0 o dX12_bitOf_0 rfl rfl ?_
  refine g_iload_n 1 o dX12_bitOf_1 rfl rfl ?_
  refine g_ishr (x := p0) (y := p1) o dX12_bitOf_2 ?_
  refine g_iconst (v := 1) o dX12_bitOf_3 (by decide) ?_
  refine g_iand (x := (p0 >>> (p1 &&& 31))) (y := 1) o dX12_bitOf_4 ?_
  refine g_iconst (v := 1) o dX12_bitOf_5 (by decide) ?_
  refine g_icmp_ne (x := ((p0 >>> (p1 &&& 31)) &&& 1)) (y := 1) 13 o dX12_bitOf_6 (by decide) (fun u => ?_) (fun u => ?_)
  · rw [if_neg u] at e
    refine g_iconst (v := 0) o dX12_bitOf_13 (by decide) ?_
    exact g_zret o dX12_bitOf_14 (zr_s e).1 (rt_v q (zr_s e).2)
  · rw [if_pos u] at e
    refine g_iconst (v := 1) o dX12_bitOf_9 (by decide) ?_
    refine g_goto 14 o dX12_bitOf_10 (by decide) ?_
    exact g_zret o dX12_bitOf_14 (zr_s e).1 (rt_v q (zr_s e).2)
theorem yo_X12_takesRole : yok yX12_takesRole 1 := ⟨by decide, by decide, by decide +kernel⟩
set_option maxRecDepth 100000 in
set_option maxHeartbeats 4000000 in
theorem mX12_takesRole {l : Launch} {D : va_G} {cy : Nat → ClassId} {f0 : Nat} {a : Nat} {p0 : Int32} {h : Hp} {r : Int32} {hz : Hp} (e : fX12_takesRole f0 a p0 h = some (r, hz)) : MC l D cy yX12_takesRole cX12_takesRole 2 (some .boolean) rmX12_takesRole [.ref a, .int p0] h (some (.int r)) hz := by
  refine mc_of2 (by decide) (Nat.le_of_ble_eq_true rfl) (fun X hl hD hy hin o q => ?_)
  subst hl; subst hD; subst hy
  show G X 2 0 [(0, .ref a), (1, .int p0)] [] h 0 0
  unfold fX12_takesRole at e
  refine g_aload_n 0 o dX12_takesRole_0 rfl rfl ?_
  refine g_bipush (v := 46) o dX12_takesRole_1 (by decide) ?_
  refine g_aload_n 0 o dX12_takesRole_3 rfl rfl ?_
  obtain ⟨x4, q4, e⟩ := ob e
  refine g_getN 7 o cf12 (by decide) mw_1193 dX12_takesRole_4 q4 ?_
  refine g_iconst (v := 2) o dX12_takesRole_7 (by decide) ?_
  obtain ⟨x8, q8, e⟩ := ob e
  refine g_iald o dX12_takesRole_8 q8 ?_
  obtain ⟨_, k9, e⟩ := ob e
  obtain ⟨x9, h9, q9, e⟩ := ob2_s e
  refine g_callVv [.int 46, .int x8] o (mX12_looksAt q9) cf12 (ckO_s k9) mw_1331 mw_1332 mw_1739 mw_19 mw_1333 rfl yo_X12_looksAt rfl rfl (Nat.le_of_ble_eq_true rfl) ⟨by decide, by decide⟩ ⟨rfl, rfl⟩ dX12_takesRole_9 ⟨by decide, by decide⟩ ?_
  refine g_if_ne (x := x9) 17 o dX12_takesRole_12 (by decide) (fun u => ?_) (fun u => ?_)
  · rw [if_neg u] at e
    refine g_aload_n 0 o dX12_takesRole_17 rfl rfl ?_
    obtain ⟨x18, q18, e⟩ := ob e
    refine g_getN 7 o cf12 (by decide) mw_1193 dX12_takesRole_18 q18 ?_
    refine g_iload_n 1 o dX12_takesRole_21 rfl rfl ?_
    obtain ⟨x22, q22, e⟩ := ob e
    refine g_iald o dX12_takesRole_22 q22 ?_
    refine g_aload_n 0 o dX12_takesRole_23 rfl rfl ?_
    obtain ⟨x24, q24, e⟩ := ob e
    refine g_getI 18 o cf12 (by decide) mw_1204 dX12_takesRole_24 q24 ?_
    obtain ⟨x27, h27, q27, e⟩ := ob2_s e
    refine g_callSv [.int x22, .int x24] o (mX12_bitOf q27) mw_1352 mw_1353 mw_19 mw_1354 yo_X12_bitOf rfl rfl (Nat.le_of_ble_eq_true rfl) ⟨by decide, by decide⟩ ⟨rfl, rfl⟩ dX12_takesRole_27 ⟨by decide, by decide⟩ ?_
    refine g_if_eq (x := x27) 39 o dX12_takesRole_30 (by decide) (fun u => ?_) (fun u => ?_)
    · rw [if_pos u] at e
      refine g_aload_n 0 o dX12_takesRole_39 rfl rfl ?_
      obtain ⟨x40, q40, e⟩ := ob e
      refine g_getN 7 o cf12 (by decide) mw_1193 dX12_takesRole_40 q40 ?_
      refine g_iload_n 1 o dX12_takesRole_43 rfl rfl ?_
      refine g_dup2 o dX12_takesRole_44 rfl rfl ?_
      obtain ⟨x45, q45, e⟩ := ob e
      refine g_iald o dX12_takesRole_45 q45 ?_
      refine g_iconst (v := 1) o dX12_takesRole_46 (by decide) ?_
      refine g_aload_n 0 o dX12_takesRole_47 rfl rfl ?_
      obtain ⟨x48, q48, e⟩ := ob e
      refine g_getI 18 o cf12 (by decide) mw_1204 dX12_takesRole_48 q48 ?_
      refine g_ishl (x := (1 : Int32)) (y := x48) o dX12_takesRole_51 ?_
      refine g_ior (x := x45) (y := ((1 : Int32) <<< (x48 &&& 31))) o dX12_takesRole_52 ?_
      obtain ⟨h53, q53, e⟩ := ob e
      refine g_iast o dX12_takesRole_53 q53 ?_
      refine g_aload_n 0 o dX12_takesRole_54 rfl rfl ?_
      obtain ⟨_, k55, e⟩ := ob e
      obtain ⟨h55, q55, e⟩ := ob e
      refine g_callV0 [] o (mX12_next q55) cf12 (ckO_s k55) mw_1292 mw_1293 mw_1728 mw_19 mw_1294 rfl yo_X12_next rfl rfl (Nat.le_of_ble_eq_true rfl) ⟨by decide, by decide⟩ ⟨rfl, rfl⟩ dX12_takesRole_55 ⟨by decide, by decide⟩ ?_
      refine g_iconst (v := 1) o dX12_takesRole_58 (by decide) ?_
      exact g_zret o dX12_takesRole_59 (zr_s e).1 (rt_v q (zr_s e).2)
    · rw [if_neg u] at e
      refine g_aload_n 0 o dX12_takesRole_33 rfl rfl ?_
      refine g_iconst (v := 3) o dX12_takesRole_34 (by decide) ?_
      obtain ⟨_, k35, e⟩ := ob e
      obtain ⟨x35, h35, q35, e⟩ := ob2_s e
      refine g_callVv [.int 3] o (mX12_bad q35) cf12 (ckO_s k35) mw_1313 mw_1314 mw_1733 mw_19 mw_1315 rfl yo_X12_bad rfl rfl (Nat.le_of_ble_eq_true rfl) ⟨by decide, by decide⟩ ⟨rfl, rfl⟩ dX12_takesRole_35 ⟨by decide, by decide⟩ ?_
      exact g_zret o dX12_takesRole_38 (zr_s e).1 (rt_v q (zr_s e).2)
  · rw [if_pos u] at e
    refine g_iconst (v := 0) o dX12_takesRole_15 (by decide) ?_
    exact g_zret o dX12_takesRole_16 (zr_s e).1 (rt_v q (zr_s e).2)
set_option maxRecDepth 100000 in
set_option maxHeartbeats 4000000 in
theorem kX12_readMan_47 {X : Cx} (f0 : Nat) (o : Ok X cX12_readMan RX12 2 rmX12_readMan (some .boolean)) (f : Nat) (v0 : Nat) (v1 : Int32) (h : Hp) (r : Int32) (hz : Hp) (q : Rt X (some (.int r)) hz 0 0) (e : bX12_readMan_47 f0 f v0 v1 h = some (r, hz)) : G X 2 47 [(0, .ref v0), (1, .int v1)] [] h 0 0 := by
  induction f generalizing v0 v1 h r hz with
  | zero => cases e
  | succ f1 ih =>
    unfold bX12_readMan_47 at e
    refine g_aload_n 0 o dX12_readMan_47 rfl rfl ?_
    refine g_bipush (v := 59) o dX12_readMan_48 (by decide) ?_
    obtain ⟨_, k50, e⟩ := ob e
    obtain ⟨x50, h50, q50, e⟩ := ob2_s e
    refine g_callVv [.int 59] o (mX12_isSign q50) cf12 (ckO_s k50) mw_1346 mw_1347 mw_1743 mw_19 mw_1348 rfl yo_X12_isSign rfl rfl (Nat.le_of_ble_eq_true rfl) ⟨by decide, by decide⟩ ⟨rfl, rfl⟩ dX12_readMan_50 ⟨by decide, by decide⟩ ?_
    refine g_if_ne (x := x50) 70 o dX12_readMan_53 (by decide) (fun u => ?_) (fun u => ?_)
    · rw [if_neg u] at e
      refine g_aload_n 0 o dX12_readMan_70 rfl rfl ?_
      obtain ⟨x71, q71, e⟩ := ob e
      refine g_getN 7 o cf12 (by decide) mw_1193 dX12_readMan_71 q71 ?_
      refine g_iconst (v := 3) o dX12_readMan_74 (by decide) ?_
      refine g_dup2 o dX12_readMan_75 rfl rfl ?_
      obtain ⟨x76, q76, e⟩ := ob e
      refine g_iald o dX12_readMan_76 q76 ?_
      refine g_iconst (v := 1) o dX12_readMan_77 (by decide) ?_
      refine g_iadd (x := x76) (y := 1) o dX12_readMan_78 ?_
      obtain ⟨h79, q79, e⟩ := ob e
      refine g_iast o dX12_readMan_79 q79 ?_
      refine g_iconst (v := 1) o dX12_readMan_80 (by decide) ?_
      exact g_zret o dX12_readMan_81 (zr_s e).1 (rt_v q (zr_s e).2)
    · rw [if_pos u] at e
      refine g_aload_n 0 o dX12_readMan_56 rfl rfl ?_
      refine g_sipush (v := 272) o dX12_readMan_57 (by decide) ?_
      refine g_iload_n 1 o dX12_readMan_60 rfl rfl ?_
      refine g_iadd (x := (272 : Int32)) (y := v1) o dX12_readMan_61 ?_
      obtain ⟨_, k62, e⟩ := ob e
      obtain ⟨x62, h62, q62, e⟩ := ob2_s e
      refine g_callVv [.int ((272 : Int32) + v1)] o (mX12_takesRole q62) cf12 (ckO_s k62) mw_1349 mw_1350 mw_1744 mw_19 mw_1351 rfl yo_X12_takesRole rfl rfl (Nat.le_of_ble_eq_true rfl) ⟨by decide, by decide⟩ ⟨rfl, rfl⟩ dX12_readMan_62 ⟨by decide, by decide⟩ ?_
      refine g_if_ne (x := x62) 47 o dX12_readMan_65 (by decide) (fun u => ?_) (fun u => ?_)
      · rw [if_neg u] at e
        exact ih v0 v1 h62 r hz q e
      · rw [if_pos u] at e
        refine g_iconst (v := 0) o dX12_readMan_68 (by decide) ?_
        exact g_zret o dX12_readMan_69 (zr_s e).1 (rt_v q (zr_s e).2)
theorem yo_X12_readMan : yok yX12_readMan 0 := ⟨by decide, by decide, by decide +kernel⟩
set_option maxRecDepth 100000 in
set_option maxHeartbeats 4000000 in
theorem mX12_readMan {l : Launch} {D : va_G} {cy : Nat → ClassId} {f0 : Nat} {a : Nat} {h : Hp} {r : Int32} {hz : Hp} (e : fX12_readMan f0 a h = some (r, hz)) : MC l D cy yX12_readMan cX12_readMan 2 (some .boolean) rmX12_readMan [.ref a] h (some (.int r)) hz := by
  refine mc_of2 (by decide) (Nat.le_of_ble_eq_true rfl) (fun X hl hD hy hin o q => ?_)
  subst hl; subst hD; subst hy
  show G X 2 0 [(0, .ref a)] [] h 0 0
  unfold fX12_readMan at e
  refine g_aload_n 0 o dX12_readMan_0 rfl rfl ?_
  obtain ⟨x1, q1, e⟩ := ob e
  refine g_getN 7 o cf12 (by decide) mw_1193 dX12_readMan_1 q1 ?_
  refine g_iconst (v := 3) o dX12_readMan_4 (by decide) ?_
  obtain ⟨x5, q5, e⟩ := ob e
  refine g_iald o dX12_readMan_5 q5 ?_
  refine g_istore_n [(1, .int x5), (0, .ref a)] o dX12_readMan_6 rfl (by decide) rfl ?_
  refine g_iload_n 0 o dX12_readMan_7 rfl rfl ?_
  refine g_bipush (v := 8) o dX12_readMan_8 (by decide) ?_
  refine g_icmp_ne (x := x5) (y := 8) 19 o dX12_readMan_10 (by decide) (fun u => ?_) (fun u => ?_)
  · rw [if_neg u] at e
    refine g_aload_n 1 o dX12_readMan_19 rfl rfl ?_
    obtain ⟨_, k20, e⟩ := ob e
    obtain ⟨h20, q20, e⟩ := ob e
    refine g_callV0 [] o (mX12_next q20) cf12 (ckO_s k20) mw_1292 mw_1293 mw_1728 mw_19 mw_1294 rfl yo_X12_next rfl rfl (Nat.le_of_ble_eq_true rfl) ⟨by decide, by decide⟩ ⟨rfl, rfl⟩ dX12_readMan_20 ⟨by decide, by decide⟩ ?_
    refine g_aload_n 1 o dX12_readMan_23 rfl rfl ?_
    refine g_bipush (v := 52) o dX12_readMan_24 (by decide) ?_
    refine g_iload_n 0 o dX12_readMan_26 rfl rfl ?_
    refine g_iadd (x := (52 : Int32)) (y := x5) o dX12_readMan_27 ?_
    obtain ⟨_, k28, e⟩ := ob e
    obtain ⟨x28, h28, q28, e⟩ := ob2_s e
    refine g_callVv [.int ((52 : Int32) + x5)] o (mX12_fresh q28) cf12 (ckO_s k28) mw_1316 mw_1317 mw_1734 mw_19 mw_1318 rfl yo_X12_fresh rfl rfl (Nat.le_of_ble_eq_true rfl) ⟨by decide, by decide⟩ ⟨rfl, rfl⟩ dX12_readMan_28 ⟨by decide, by decide⟩ ?_
    refine g_if_ne (x := x28) 36 o dX12_readMan_31 (by decide) (fun u => ?_) (fun u => ?_)
    · rw [if_neg u] at e
      refine g_aload_n 1 o dX12_readMan_36 rfl rfl ?_
      obtain ⟨x37, q37, e⟩ := ob e
      refine g_getN 7 o cf12 (by decide) mw_1193 dX12_readMan_37 q37 ?_
      refine g_sipush (v := 272) o dX12_readMan_40 (by decide) ?_
      refine g_iload_n 0 o dX12_readMan_43 rfl rfl ?_
      refine g_iadd (x := (272 : Int32)) (y := x5) o dX12_readMan_44 ?_
      refine g_iconst (v := 0) o dX12_readMan_45 (by decide) ?_
      obtain ⟨h46, q46, e⟩ := ob e
      refine g_iast o dX12_readMan_46 q46 ?_
      refine g_sb [1, 0] rfl ?_
      exact kX12_readMan_47 f0 o f0 a x5 h46 r hz q e
    · rw [if_pos u] at e
      refine g_iconst (v := 0) o dX12_readMan_34 (by decide) ?_
      exact g_zret o dX12_readMan_35 (zr_s e).1 (rt_v q (zr_s e).2)
  · rw [if_pos u] at e
    refine g_aload_n 1 o dX12_readMan_13 rfl rfl ?_
    refine g_iconst (v := 4) o dX12_readMan_14 (by decide) ?_
    obtain ⟨_, k15, e⟩ := ob e
    obtain ⟨x15, h15, q15, e⟩ := ob2_s e
    refine g_callVv [.int 4] o (mX12_bad q15) cf12 (ckO_s k15) mw_1313 mw_1314 mw_1733 mw_19 mw_1315 rfl yo_X12_bad rfl rfl (Nat.le_of_ble_eq_true rfl) ⟨by decide, by decide⟩ ⟨rfl, rfl⟩ dX12_readMan_15 ⟨by decide, by decide⟩ ?_
    exact g_zret o dX12_readMan_18 (zr_s e).1 (rt_v q (zr_s e).2)
