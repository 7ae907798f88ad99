set_option maxRecDepth 100000 in
set_option maxHeartbeats 4000000 in
theorem kX12_readRain_137 {X : Cx} (f0 : Nat) (g86 : Nat → Int32 → Int32 → Hp → Option (Int32 × Hp)) (i86 : ∀ (v02 : Nat) (v12 : Int32) (v22 : Int32) (h2 : Hp) (r : Int32) (hz : Hp), Rt X (some (.int r)) hz 0 0 → g86 v02 v12 v22 h2 = some (r, hz) → G X 3 86 [(0, .ref v02), (1, .int v12), (2, .int v22)] [] h2 0 0) (o : Ok X cX12_readRain RX12 3 rmX12_readRain (some .boolean)) (v0 : Nat) (v1 : Int32) (v2 : Int32) (h : Hp) (r : Int32) (hz : Hp) (q : Rt X (some (.int r)) hz 0 0) (e : bX12_readRain_137 f0 g86 v0 v1 v2 h = some (r, hz)) : G X 3 137 [(0, .ref v0), (1, .int v1), (2, .int v2)] [] h 0 0 := by
  unfold bX12_readRain_137 at e
  refine g_iinc (k := 2) (v := (v2 + 1)) [(2, .int (v2 + 1)), (0, .ref v0), (1, .int v1)] o dX12_readRain_137 rfl rfl (by decide) rfl ?_
  refine g_goto 86 o dX12_readRain_140 (by decide) ?_
  refine g_sb [1, 2, 0] rfl ?_
  exact i86 v0 v1 (v2 + 1) h r hz q e
set_option maxRecDepth 100000 in
set_option maxHeartbeats 4000000 in
theorem kX12_readRain_86 {X : Cx} (f0 : Nat) (o : Ok X cX12_readRain RX12 3 rmX12_readRain (some .boolean)) (f : Nat) (v0 : Nat) (v1 : Int32) (v2 : Int32) (h : Hp) (r : Int32) (hz : Hp) (q : Rt X (some (.int r)) hz 0 0) (e : bX12_readRain_86 f0 f v0 v1 v2 h = some (r, hz)) : G X 3 86 [(0, .ref v0), (1, .int v1), (2, .int v2)] [] h 0 0 := by
  induction f generalizing v0 v1 v2 h r hz with
  | zero => cases e
  | succ f1 ih =>
    unfold bX12_readRain_86 at e
    refine g_iload_n 2 o dX12_readRain_86 rfl rfl ?_
    refine g_iload_n 1 o dX12_readRain_87 rfl rfl ?_
    refine g_icmp_ge (x := v2) (y := v1) 143 o dX12_readRain_88 (by decide) (fun u => ?_) (fun u => ?_)
    · rw [if_pos u] at e
      refine g_aload_n 0 o dX12_readRain_143 rfl rfl ?_
      obtain ⟨x144, q144, e⟩ := ob e
      refine g_getN 7 o cf12 (by decide) mw_1193 dX12_readRain_144 q144 ?_
      refine g_sipush (v := 296) o dX12_readRain_147 (by decide) ?_
      refine g_iload_n 1 o dX12_readRain_150 rfl rfl ?_
      refine g_iadd (x := (296 : Int32)) (y := v1) o dX12_readRain_151 ?_
      refine g_aload_n 0 o dX12_readRain_152 rfl rfl ?_
      obtain ⟨x153, q153, e⟩ := ob e
      refine g_getI 14 o cf12 (by decide) mw_1200 dX12_readRain_153 q153 ?_
      obtain ⟨h156, q156, e⟩ := ob e
      refine g_iast o dX12_readRain_156 q156 ?_
      refine g_aload_n 0 o dX12_readRain_157 rfl rfl ?_
      obtain ⟨_, k158, e⟩ := ob e
      obtain ⟨h158, q158, e⟩ := ob e
      refine g_callV0 [] o (mX12_next q158) cf12 (ckO_s k158) mw_1292 mw_1293 mw_1728 mw_19 mw_1294 rfl yo_X12_next rfl rfl (Nat.le_of_ble_eq_true rfl) ⟨by decide, by decide⟩ ⟨rfl, rfl⟩ dX12_readRain_158 ⟨by decide, by decide⟩ ?_
      refine g_aload_n 0 o dX12_readRain_161 rfl rfl ?_
      obtain ⟨x162, q162, e⟩ := ob e
      refine g_getN 7 o cf12 (by decide) mw_1193 dX12_readRain_162 q162 ?_
      refine g_bipush (v := 7) o dX12_readRain_165 (by decide) ?_
      refine g_dup2 o dX12_readRain_167 rfl rfl ?_
      obtain ⟨x168, q168, e⟩ := ob e
      refine g_iald o dX12_readRain_168 q168 ?_
      refine g_iconst (v := 1) o dX12_readRain_169 (by decide) ?_
      refine g_iadd (x := x168) (y := 1) o dX12_readRain_170 ?_
      obtain ⟨h171, q171, e⟩ := ob e
      refine g_iast o dX12_readRain_171 q171 ?_
      refine g_iconst (v := 1) o dX12_readRain_172 (by decide) ?_
      exact g_zret o dX12_readRain_173 (zr_s e).1 (rt_v q (zr_s e).2)
    · rw [if_neg u] at e
      refine g_aload_n 0 o dX12_readRain_91 rfl rfl ?_
      obtain ⟨x92, q92, e⟩ := ob e
      refine g_getN 7 o cf12 (by decide) mw_1193 dX12_readRain_92 q92 ?_
      refine g_sipush (v := 280) o dX12_readRain_95 (by decide) ?_
      refine g_iload_n 2 o dX12_readRain_98 rfl rfl ?_
      refine g_iadd (x := (280 : Int32)) (y := v2) o dX12_readRain_99 ?_
      obtain ⟨x100, q100, e⟩ := ob e
      refine g_iald o dX12_readRain_100 q100 ?_
      refine g_aload_n 0 o dX12_readRain_101 rfl rfl ?_
      obtain ⟨x102, q102, e⟩ := ob e
      refine g_getN 7 o cf12 (by decide) mw_1193 dX12_readRain_102 q102 ?_
      refine g_sipush (v := 280) o dX12_readRain_105 (by decide) ?_
      refine g_iload_n 1 o dX12_readRain_108 rfl rfl ?_
      refine g_iadd (x := (280 : Int32)) (y := v1) o dX12_readRain_109 ?_
      obtain ⟨x110, q110, e⟩ := ob e
      refine g_iald o dX12_readRain_110 q110 ?_
      refine g_icmp_ne (x := x100) (y := x110) 137 o dX12_readRain_111 (by decide) (fun u => ?_) (fun u => ?_)
      · rw [if_neg u] at e
        exact kX12_readRain_137 f0 (bX12_readRain_86 f0 f1) ih o v0 v1 v2 h r hz q e
      · rw [if_pos u] at e
        refine g_aload_n 0 o dX12_readRain_114 rfl rfl ?_
        obtain ⟨x115, q115, e⟩ := ob e
        refine g_getN 7 o cf12 (by decide) mw_1193 dX12_readRain_115 q115 ?_
        refine g_sipush (v := 296) o dX12_readRain_118 (by decide) ?_
        refine g_iload_n 2 o dX12_readRain_121 rfl rfl ?_
        refine g_iadd (x := (296 : Int32)) (y := v2) o dX12_readRain_122 ?_
        obtain ⟨x123, q123, e⟩ := ob e
        refine g_iald o dX12_readRain_123 q123 ?_
        refine g_aload_n 0 o dX12_readRain_124 rfl rfl ?_
        obtain ⟨x125, q125, e⟩ := ob e
        refine g_getI 14 o cf12 (by decide) mw_1200 dX12_readRain_125 q125 ?_
        refine g_icmp_ne (x := x123) (y := x125) 137 o dX12_readRain_128 (by decide) (fun u => ?_) (fun u => ?_)
        · rw [if_neg u] at e
          exact kX12_readRain_137 f0 (bX12_readRain_86 f0 f1) ih o v0 v1 v2 h r hz q e
        · rw [if_pos u] at e
          refine g_aload_n 0 o dX12_readRain_131 rfl rfl ?_
          refine g_iconst (v := 3) o dX12_readRain_132 (by decide) ?_
          obtain ⟨_, k133, e⟩ := ob e
          obtain ⟨x133, h133, q133, e⟩ := ob2_s e
          refine g_callVv [.int 3] o (mX12_bad q133) cf12 (ckO_s k133) mw_1313 mw_1314 mw_1733 mw_19 mw_1315 rfl yo_X12_bad rfl rfl (Nat.le_of_ble_eq_true rfl) ⟨by decide, by decide⟩ ⟨rfl, rfl⟩ dX12_readRain_133 ⟨by decide, by decide⟩ ?_
          exact g_zret o dX12_readRain_136 (zr_s e).1 (rt_v q (zr_s e).2)
theorem yo_X12_readRain : yok yX12_readRain 0 := ⟨by decide, by decide, by decide +kernel⟩
set_option maxRecDepth 100000 in
set_option maxHeartbeats 4000000 in
theorem mX12_readRain {l : Launch} {D : va_G} {cy : Nat → ClassId} {f0 : Nat} {a : Nat} {h : Hp} {r : Int32} {hz : Hp} (e : fX12_readRain f0 a h = some (r, hz)) : MC l D cy yX12_readRain cX12_readRain 3 (some .boolean) rmX12_readRain [.ref a] h (some (.int r)) hz := by
  refine mc_of2 (by decide) (Nat.le_of_ble_eq_true rfl) (fun X hl hD hy hin o q => ?_)
  subst hl; subst hD; subst hy
  show G X 3 0 [(0, .ref a)] [] h 0 0
  unfold fX12_readRain at e
  refine g_aload_n 0 o dX12_readRain_0 rfl rfl ?_
  obtain ⟨x1, q1, e⟩ := ob e
  refine g_getN 7 o cf12 (by decide) mw_1193 dX12_readRain_1 q1 ?_
  refine g_bipush (v := 7) o dX12_readRain_4 (by decide) ?_
  obtain ⟨x6, q6, e⟩ := ob e
  refine g_iald o dX12_readRain_6 q6 ?_
  refine g_istore_n [(1, .int x6), (0, .ref a)] o dX12_readRain_7 rfl (by decide) rfl ?_
  refine g_iload_n 0 o dX12_readRain_8 rfl rfl ?_
  refine g_bipush (v := 16) o dX12_readRain_9 (by decide) ?_
  refine g_icmp_ne (x := x6) (y := 16) 20 o dX12_readRain_11 (by decide) (fun u => ?_) (fun u => ?_)
  · rw [if_neg u] at e
    refine g_aload_n 1 o dX12_readRain_20 rfl rfl ?_
    obtain ⟨_, k21, e⟩ := ob e
    obtain ⟨h21, q21, e⟩ := ob e
    refine g_callV0 [] o (mX12_next q21) cf12 (ckO_s k21) mw_1292 mw_1293 mw_1728 mw_19 mw_1294 rfl yo_X12_next rfl rfl (Nat.le_of_ble_eq_true rfl) ⟨by decide, by decide⟩ ⟨rfl, rfl⟩ dX12_readRain_21 ⟨by decide, by decide⟩ ?_
    refine g_aload_n 1 o dX12_readRain_24 rfl rfl ?_
    refine g_bipush (v := 30) o dX12_readRain_25 (by decide) ?_
    refine g_aload_n 1 o dX12_readRain_27 rfl rfl ?_
    obtain ⟨x28, q28, e⟩ := ob e
    refine g_getN 7 o cf12 (by decide) mw_1193 dX12_readRain_28 q28 ?_
    refine g_iconst (v := 0) o dX12_readRain_31 (by decide) ?_
    obtain ⟨x32, q32, e⟩ := ob e
    refine g_iald o dX12_readRain_32 q32 ?_
    obtain ⟨_, k33, e⟩ := ob e
    obtain ⟨x33, h33, q33, e⟩ := ob2_s e
    refine g_callVv [.int 30, .int x32] o (mX12_takesName q33) cf12 (ckO_s k33) mw_1328 mw_1329 mw_1738 mw_19 mw_1330 rfl yo_X12_takesName rfl rfl (Nat.le_of_ble_eq_true rfl) ⟨by decide, by decide⟩ ⟨rfl, rfl⟩ dX12_readRain_33 ⟨by decide, by decide⟩ ?_
    refine g_if_ne (x := x33) 41 o dX12_readRain_36 (by decide) (fun u => ?_) (fun u => ?_)
    · rw [if_neg u] at e
      refine g_aload_n 1 o dX12_readRain_41 rfl rfl ?_
      obtain ⟨x42, q42, e⟩ := ob e
      refine g_getN 7 o cf12 (by decide) mw_1193 dX12_readRain_42 q42 ?_
      refine g_sipush (v := 280) o dX12_readRain_45 (by decide) ?_
      refine g_iload_n 0 o dX12_readRain_48 rfl rfl ?_
      refine g_iadd (x := (280 : Int32)) (y := x6) o dX12_readRain_49 ?_
      refine g_aload_n 1 o dX12_readRain_50 rfl rfl ?_
      obtain ⟨x51, q51, e⟩ := ob e
      refine g_getI 18 o cf12 (by decide) mw_1204 dX12_readRain_51 q51 ?_
      obtain ⟨h54, q54, e⟩ := ob e
      refine g_iast o dX12_readRain_54 q54 ?_
      refine g_aload_n 1 o dX12_readRain_55 rfl rfl ?_
      obtain ⟨x56, q56, e⟩ := ob e
      refine g_getI 11 o cf12 (by decide) mw_1197 dX12_readRain_56 q56 ?_
      refine g_iconst (v := 2) o dX12_readRain_59 (by decide) ?_
      refine g_icmp_eq (x := x56) (y := 2) 69 o dX12_readRain_60 (by decide) (fun u => ?_) (fun u => ?_)
      · rw [if_pos u] at e
        refine g_aload_n 1 o dX12_readRain_69 rfl rfl ?_
        obtain ⟨x70, q70, e⟩ := ob e
        refine g_getI 14 o cf12 (by decide) mw_1200 dX12_readRain_70 q70 ?_
        refine g_bipush (v := 99) o dX12_readRain_73 (by decide) ?_
        refine g_icmp_le (x := x70) (y := 99) 84 o dX12_readRain_75 (by decide) (fun u => ?_) (fun u => ?_)
        · rw [if_pos u] at e
          refine g_iconst (v := 0) o dX12_readRain_84 (by decide) ?_
          refine g_istore_n [(2, .int 0), (1, .int x6), (0, .ref a)] o dX12_readRain_85 rfl (by decide) rfl ?_
          refine g_sb [2, 1, 0] rfl ?_
          exact kX12_readRain_86 f0 o f0 a x6 0 h54 r hz q e
        · rw [if_neg u] at e
          refine g_aload_n 1 o dX12_readRain_78 rfl rfl ?_
          refine g_iconst (v := 2) o dX12_readRain_79 (by decide) ?_
          obtain ⟨_, k80, e⟩ := ob e
          obtain ⟨x80, h80, q80, e⟩ := ob2_s e
          refine g_callVv [.int 2] o (mX12_bad q80) cf12 (ckO_s k80) mw_1313 mw_1314 mw_1733 mw_19 mw_1315 rfl yo_X12_bad rfl rfl (Nat.le_of_ble_eq_true rfl) ⟨by decide, by decide⟩ ⟨rfl, rfl⟩ dX12_readRain_80 ⟨by decide, by decide⟩ ?_
          exact g_zret o dX12_readRain_83 (zr_s e).1 (rt_v q (zr_s e).2)
      · rw [if_neg u] at e
        refine g_aload_n 1 o dX12_readRain_63 rfl rfl ?_
        refine g_iconst (v := 1) o dX12_readRain_64 (by decide) ?_
        obtain ⟨_, k65, e⟩ := ob e
        obtain ⟨x65, h65, q65, e⟩ := ob2_s e
        refine g_callVv [.int 1] o (mX12_bad q65) cf12 (ckO_s k65) mw_1313 mw_1314 mw_1733 mw_19 mw_1315 rfl yo_X12_bad rfl rfl (Nat.le_of_ble_eq_true rfl) ⟨by decide, by decide⟩ ⟨rfl, rfl⟩ dX12_readRain_65 ⟨by decide, by decide⟩ ?_
        exact g_zret o dX12_readRain_68 (zr_s e).1 (rt_v q (zr_s e).2)
    · rw [if_pos u] at e
      refine g_iconst (v := 0) o dX12_readRain_39 (by decide) ?_
      exact g_zret o dX12_readRain_40 (zr_s e).1 (rt_v q (zr_s e).2)
  · rw [if_pos u] at e
    refine g_aload_n 1 o dX12_readRain_14 rfl rfl ?_
    refine g_iconst (v := 4) o dX12_readRain_15 (by decide) ?_
    obtain ⟨_, k16, e⟩ := ob e
    obtain ⟨x16, h16, q16, e⟩ := ob2_s e
    refine g_callVv [.int 4] o (mX12_bad q16) cf12 (ckO_s k16) mw_1313 mw_1314 mw_1733 mw_19 mw_1315 rfl yo_X12_bad rfl rfl (Nat.le_of_ble_eq_true rfl) ⟨by decide, by decide⟩ ⟨rfl, rfl⟩ dX12_readRain_16 ⟨by decide, by decide⟩ ?_
    exact g_zret o dX12_readRain_19 (zr_s e).1 (rt_v q (zr_s e).2)
theorem yo_X12_line : yok yX12_line 0 := ⟨by decide, by decide, by decide +kernel⟩
set_option maxRecDepth 100000 in
set_option maxHeartbeats 4000000 in
theorem mX12_line {l : Launch} {D : va_G} {cy : Nat → ClassId} {f0 : Nat} {a : Nat} {h : Hp} {r : Int32} {hz : Hp} (e : fX12_line f0 a h = some (r, hz)) : MC l D cy yX12_line cX12_line 2 (some .boolean) rmX12_line [.ref a] h (some (.int r)) hz := by
  refine mc_of2 (by decide) (Nat.le_of_ble_eq_true rfl) (fun X hl hD hy hin o q => ?_)
  subst hl; subst hD; subst hy
  show G X 2 0 [(0, .ref a)] [] h 0 0
  unfold fX12_line at e
  refine g_aload_n 0 o dX12_line_0 rfl rfl ?_
  refine g_ldc2_w (v := 1886351988) o dX12_line_1 mw_1143 ?_
  obtain ⟨_, k4, e⟩ := ob e
  obtain ⟨x4, h4, q4, e⟩ := ob2_s e
  refine g_callVv [.long 1886351988] o (mX12_isWord q4) cf12 (ckO_s k4) mw_1307 mw_1308 mw_1731 mw_19 mw_1309 rfl yo_X12_isWord rfl rfl (Nat.le_of_ble_eq_true rfl) ⟨by decide, by decide⟩ ⟨rfl, rfl⟩ dX12_line_4 ⟨by decide, by decide⟩ ?_
  refine g_if_eq (x := x4) 20 o dX12_line_7 (by decide) (fun u => ?_) (fun u => ?_)
  · rw [if_pos u] at e
    refine g_aload_n 0 o dX12_line_20 rfl rfl ?_
    refine g_ldc2_w (v := 1936222576) o dX12_line_21 mw_1146 ?_
    obtain ⟨_, k24, e⟩ := ob e
    obtain ⟨x24, h24, q24, e⟩ := ob2_s e
    refine g_callVv [.long 1936222576] o (mX12_isWord q24) cf12 (ckO_s k24) mw_1307 mw_1308 mw_1731 mw_19 mw_1309 rfl yo_X12_isWord rfl rfl (Nat.le_of_ble_eq_true rfl) ⟨by decide, by decide⟩ ⟨rfl, rfl⟩ dX12_line_24 ⟨by decide, by decide⟩ ?_
    refine g_if_eq (x := x24) 40 o dX12_line_27 (by decide) (fun u => ?_) (fun u => ?_)
    · rw [if_pos u] at e
      refine g_aload_n 0 o dX12_line_40 rfl rfl ?_
      refine g_ldc2_w (v := 1919904869) o dX12_line_41 mw_1149 ?_
      obtain ⟨_, k44, e⟩ := ob e
      obtain ⟨x44, h44, q44, e⟩ := ob2_s e
      refine g_callVv [.long 1919904869] o (mX12_isWord q44) cf12 (ckO_s k44) mw_1307 mw_1308 mw_1731 mw_19 mw_1309 rfl yo_X12_isWord rfl rfl (Nat.le_of_ble_eq_true rfl) ⟨by decide, by decide⟩ ⟨rfl, rfl⟩ dX12_line_44 ⟨by decide, by decide⟩ ?_
      refine g_if_eq (x := x44) 60 o dX12_line_47 (by decide) (fun u => ?_) (fun u => ?_)
      · rw [if_pos u] at e
        refine g_aload_n 0 o dX12_line_60 rfl rfl ?_
        refine g_ldc2_w (v := 7823737) o dX12_line_61 mw_1144 ?_
        obtain ⟨_, k64, e⟩ := ob e
        obtain ⟨x64, h64, q64, e⟩ := ob2_s e
        refine g_callVv [.long 7823737] o (mX12_isWord q64) cf12 (ckO_s k64) mw_1307 mw_1308 mw_1731 mw_19 mw_1309 rfl yo_X12_isWord rfl rfl (Nat.le_of_ble_eq_true rfl) ⟨by decide, by decide⟩ ⟨rfl, rfl⟩ dX12_line_64 ⟨by decide, by decide⟩ ?_
        refine g_if_eq (x := x64) 82 o dX12_line_67 (by decide) (fun u => ?_) (fun u => ?_)
        · rw [if_pos u] at e
          refine g_aload_n 0 o dX12_line_82 rfl rfl ?_
          refine g_ldc2_w (v := 1835100524) o dX12_line_83 mw_1145 ?_
          obtain ⟨_, k86, e⟩ := ob e
          obtain ⟨x86, h86, q86, e⟩ := ob2_s e
          refine g_callVv [.long 1835100524] o (mX12_isWord q86) cf12 (ckO_s k86) mw_1307 mw_1308 mw_1731 mw_19 mw_1309 rfl yo_X12_isWord rfl rfl (Nat.le_of_ble_eq_true rfl) ⟨by decide, by decide⟩ ⟨rfl, rfl⟩ dX12_line_86 ⟨by decide, by decide⟩ ?_
          refine g_if_eq (x := x86) 104 o dX12_line_89 (by decide) (fun u => ?_) (fun u => ?_)
          · rw [if_pos u] at e
            refine g_aload_n 0 o dX12_line_104 rfl rfl ?_
            refine g_ldc2_w (v := 131260348654948) o dX12_line_105 mw_1147 ?_
            obtain ⟨_, k108, e⟩ := ob e
            obtain ⟨x108, h108, q108, e⟩ := ob2_s e
            refine g_callVv [.long 131260348654948] o (mX12_isWord q108) cf12 (ckO_s k108) mw_1307 mw_1308 mw_1731 mw_19 mw_1309 rfl yo_X12_isWord rfl rfl (Nat.le_of_ble_eq_true rfl) ⟨by decide, by decide⟩ ⟨rfl, rfl⟩ dX12_line_108 ⟨by decide, by decide⟩ ?_
            refine g_if_eq (x := x108) 122 o dX12_line_111 (by decide) (fun u => ?_) (fun u => ?_)
            · rw [if_pos u] at e
              refine g_aload_n 0 o dX12_line_122 rfl rfl ?_
              refine g_ldc2_w (v := 1870095716) o dX12_line_123 mw_1148 ?_
              obtain ⟨_, k126, e⟩ := ob e
              obtain ⟨x126, h126, q126, e⟩ := ob2_s e
              refine g_callVv [.long 1870095716] o (mX12_isWord q126) cf12 (ckO_s k126) mw_1307 mw_1308 mw_1731 mw_19 mw_1309 rfl yo_X12_isWord rfl rfl (Nat.le_of_ble_eq_true rfl) ⟨by decide, by decide⟩ ⟨rfl, rfl⟩ dX12_line_126 ⟨by decide, by decide⟩ ?_
              refine g_if_eq (x := x126) 140 o dX12_line_129 (by decide) (fun u => ?_) (fun u => ?_)
              · rw [if_pos u] at e
                refine g_aload_n 0 o dX12_line_140 rfl rfl ?_
                refine g_ldc2_w (v := 7168366) o dX12_line_141 mw_1151 ?_
                obtain ⟨_, k144, e⟩ := ob e
                obtain ⟨x144, h144, q144, e⟩ := ob2_s e
                refine g_callVv [.long 7168366] o (mX12_isWord q144) cf12 (ckO_s k144) mw_1307 mw_1308 mw_1731 mw_19 mw_1309 rfl yo_X12_isWord rfl rfl (Nat.le_of_ble_eq_true rfl) ⟨by decide, by decide⟩ ⟨rfl, rfl⟩ dX12_line_144 ⟨by decide, by decide⟩ ?_
                refine g_if_eq (x := x144) 155 o dX12_line_147 (by decide) (fun u => ?_) (fun u => ?_)
                · rw [if_pos u] at e
                  refine g_aload_n 0 o dX12_line_155 rfl rfl ?_
                  refine g_ldc2_w (v := 1918986606) o dX12_line_156 mw_1152 ?_
                  obtain ⟨_, k159, e⟩ := ob e
                  obtain ⟨x159, h159, q159, e⟩ := ob2_s e
                  refine g_callVv [.long 1918986606] o (mX12_isWord q159) cf12 (ckO_s k159) mw_1307 mw_1308 mw_1731 mw_19 mw_1309 rfl yo_X12_isWord rfl rfl (Nat.le_of_ble_eq_true rfl) ⟨by decide, by decide⟩ ⟨rfl, rfl⟩ dX12_line_159 ⟨by decide, by decide⟩ ?_
                  refine g_if_eq (x := x159) 170 o dX12_line_162 (by decide) (fun u => ?_) (fun u => ?_)
                  · rw [if_pos u] at e
                    refine g_aload_n 0 o dX12_line_170 rfl rfl ?_
                    refine g_ldc2_w (v := 474147546227) o dX12_line_171 mw_1150 ?_
                    obtain ⟨_, k174, e⟩ := ob e
                    obtain ⟨x174, h174, q174, e⟩ := ob2_s e
                    refine g_callVv [.long 474147546227] o (mX12_isWord q174) cf12 (ckO_s k174) mw_1307 mw_1308 mw_1731 mw_19 mw_1309 rfl yo_X12_isWord rfl rfl (Nat.le_of_ble_eq_true rfl) ⟨by decide, by decide⟩ ⟨rfl, rfl⟩ dX12_line_174 ⟨by decide, by decide⟩ ?_
                    refine g_if_eq (x := x174) 216 o dX12_line_177 (by decide) (fun u => ?_) (fun u => ?_)
                    · rw [if_pos u] at e
                      refine g_aload_n 0 o dX12_line_216 rfl rfl ?_
                      refine g_ldc2_w (v := 123563834240884) o dX12_line_217 mw_1153 ?_
                      obtain ⟨_, k220, e⟩ := ob e
                      obtain ⟨x220, h220, q220, e⟩ := ob2_s e
                      refine g_callVv [.long 123563834240884] o (mX12_isWord q220) cf12 (ckO_s k220) mw_1307 mw_1308 mw_1731 mw_19 mw_1309 rfl yo_X12_isWord rfl rfl (Nat.le_of_ble_eq_true rfl) ⟨by decide, by decide⟩ ⟨rfl, rfl⟩ dX12_line_220 ⟨by decide, by decide⟩ ?_
                      refine g_if_ne (x := x220) 232 o dX12_line_223 (by decide) (fun u => ?_) (fun u => ?_)
                      · rw [if_neg u] at e
                        refine g_aload_n 0 o dX12_line_232 rfl rfl ?_
                        obtain ⟨x233, q233, e⟩ := ob e
                        refine g_getI 20 o cf12 (by decide) mw_1206 dX12_line_233 q233 ?_
                        refine g_if_eq (x := x233) 245 o dX12_line_236 (by decide) (fun u => ?_) (fun u => ?_)
                        · rw [if_pos u] at e
                          refine g_aload_n 0 o dX12_line_245 rfl rfl ?_
                          refine g_iconst (v := 1) o dX12_line_246 (by decide) ?_
                          obtain ⟨h247, q247, e⟩ := ob e
                          refine g_put (ty1 := .boolean) 20 o cf12 (by decide) mw_1206 rfl (by decide +kernel) (nar_z (pfZ_s q247).1).1 (nar_z (pfZ_s q247).1).2 dX12_line_247 (pfZ_s q247).2 ?_
                          refine g_aload_n 0 o dX12_line_250 rfl rfl ?_
                          obtain ⟨_, k251, e⟩ := ob e
                          obtain ⟨h251, q251, e⟩ := ob e
                          refine g_callV0 [] o (mX12_next q251) cf12 (ckO_s k251) mw_1292 mw_1293 mw_1728 mw_19 mw_1294 rfl yo_X12_next rfl rfl (Nat.le_of_ble_eq_true rfl) ⟨by decide, by decide⟩ ⟨rfl, rfl⟩ dX12_line_251 ⟨by decide, by decide⟩ ?_
                          refine g_aload_n 0 o dX12_line_254 rfl rfl ?_
                          refine g_iconst (v := 0) o dX12_line_255 (by decide) ?_
                          refine g_bipush (v := 12) o dX12_line_256 (by decide) ?_
                          obtain ⟨_, k258, e⟩ := ob e
                          obtain ⟨x258, h258, q258, e⟩ := ob2_s e
                          refine g_callVv [.int 0, .int 12] o (mX12_takes q258) cf12 (ckO_s k258) mw_1334 mw_1335 mw_1740 mw_19 mw_1336 rfl yo_X12_takes rfl rfl (Nat.le_of_ble_eq_true rfl) ⟨by decide, by decide⟩ ⟨rfl, rfl⟩ dX12_line_258 ⟨by decide, by decide⟩ ?_
                          refine g_if_ne (x := x258) 266 o dX12_line_261 (by decide) (fun u => ?_) (fun u => ?_)
                          · rw [if_neg u] at e
                            refine g_aload_n 0 o dX12_line_266 rfl rfl ?_
                            obtain ⟨x267, q267, e⟩ := ob e
                            refine g_getN 7 o cf12 (by decide) mw_1193 dX12_line_267 q267 ?_
                            refine g_bipush (v := 6) o dX12_line_270 (by decide) ?_
                            refine g_aload_n 0 o dX12_line_272 rfl rfl ?_
                            obtain ⟨x273, q273, e⟩ := ob e
                            refine g_getI 18 o cf12 (by decide) mw_1204 dX12_line_273 q273 ?_
                            obtain ⟨h276, q276, e⟩ := ob e
                            refine g_iast o dX12_line_276 q276 ?_
                            refine g_iconst (v := 1) o dX12_line_277 (by decide) ?_
                            exact g_zret o dX12_line_278 (zr_s e).1 (rt_v q (zr_s e).2)
                          · rw [if_pos u] at e
                            refine g_iconst (v := 0) o dX12_line_264 (by decide) ?_
                            exact g_zret o dX12_line_265 (zr_s e).1 (rt_v q (zr_s e).2)
                        · rw [if_neg u] at e
                          refine g_aload_n 0 o dX12_line_239 rfl rfl ?_
                          refine g_iconst (v := 3) o dX12_line_240 (by decide) ?_
                          obtain ⟨_, k241, e⟩ := ob e
                          obtain ⟨x241, h241, q241, e⟩ := ob2_s e
                          refine g_callVv [.int 3] o (mX12_bad q241) cf12 (ckO_s k241) mw_1313 mw_1314 mw_1733 mw_19 mw_1315 rfl yo_X12_bad rfl rfl (Nat.le_of_ble_eq_true rfl) ⟨by decide, by decide⟩ ⟨rfl, rfl⟩ dX12_line_241 ⟨by decide, by decide⟩ ?_
                          exact g_zret o dX12_line_244 (zr_s e).1 (rt_v q (zr_s e).2)
                      · rw [if_pos u] at e
                        refine g_aload_n 0 o dX12_line_226 rfl rfl ?_
                        refine g_iconst (v := 1) o dX12_line_227 (by decide) ?_
                        obtain ⟨_, k228, e⟩ := ob e
                        obtain ⟨x228, h228, q228, e⟩ := ob2_s e
                        refine g_callVv [.int 1] o (mX12_bad q228) cf12 (ckO_s k228) mw_1313 mw_1314 mw_1733 mw_19 mw_1315 rfl yo_X12_bad rfl rfl (Nat.le_of_ble_eq_true rfl) ⟨by decide, by decide⟩ ⟨rfl, rfl⟩ dX12_line_228 ⟨by decide, by decide⟩ ?_
                        exact g_zret o dX12_line_231 (zr_s e).1 (rt_v q (zr_s e).2)
                    · rw [if_neg u] at e
                      refine g_aload_n 0 o dX12_line_180 rfl rfl ?_
                      obtain ⟨_, k181, e⟩ := ob e
                      obtain ⟨h181, q181, e⟩ := ob e
                      refine g_callV0 [] o (mX12_next q181) cf12 (ckO_s k181) mw_1292 mw_1293 mw_1728 mw_19 mw_1294 rfl yo_X12_next rfl rfl (Nat.le_of_ble_eq_true rfl) ⟨by decide, by decide⟩ ⟨rfl, rfl⟩ dX12_line_181 ⟨by decide, by decide⟩ ?_
                      refine g_aload_n 0 o dX12_line_184 rfl rfl ?_
                      refine g_bipush (v := 38) o dX12_line_185 (by decide) ?_
                      refine g_aload_n 0 o dX12_line_187 rfl rfl ?_
                      obtain ⟨x188, q188, e⟩ := ob e
                      refine g_getN 7 o cf12 (by decide) mw_1193 dX12_line_188 q188 ?_
                      refine g_iconst (v := 1) o dX12_line_191 (by decide) ?_
                      obtain ⟨x192, q192, e⟩ := ob e
                      refine g_iald o dX12_line_192 q192 ?_
                      obtain ⟨_, k193, e⟩ := ob e
                      obtain ⟨x193, h193, q193, e⟩ := ob2_s e
                      refine g_callVv [.int 38, .int x192] o (mX12_takesName q193) cf12 (ckO_s k193) mw_1328 mw_1329 mw_1738 mw_19 mw_1330 rfl yo_X12_takesName rfl rfl (Nat.le_of_ble_eq_true rfl) ⟨by decide, by decide⟩ ⟨rfl, rfl⟩ dX12_line_193 ⟨by decide, by decide⟩ ?_
                      refine g_if_ne (x := x193) 201 o dX12_line_196 (by decide) (fun u => ?_) (fun u => ?_)
                      · rw [if_neg u] at e
                        refine g_aload_n 0 o dX12_line_201 rfl rfl ?_
                        obtain ⟨x202, q202, e⟩ := ob e
                        refine g_getI 18 o cf12 (by decide) mw_1204 dX12_line_202 q202 ?_
                        refine g_istore_n [(1, .int x202), (0, .ref a)] o dX12_line_205 rfl (by decide) rfl ?_
                        refine g_aload_n 1 o dX12_line_206 rfl rfl ?_
                        refine g_sipush (v := 264) o dX12_line_207 (by decide) ?_
                        refine g_iload_n 0 o dX12_line_210 rfl rfl ?_
                        refine g_iadd (x := (264 : Int32)) (y := x202) o dX12_line_211 ?_
                        obtain ⟨_, k212, e⟩ := ob e
                        obtain ⟨x212, h212, q212, e⟩ := ob2_s e
                        refine g_callVv [.int ((264 : Int32) + x202)] o (mX12_takesRole q212) cf12 (ckO_s k212) mw_1349 mw_1350 mw_1744 mw_19 mw_1351 rfl yo_X12_takesRole rfl rfl (Nat.le_of_ble_eq_true rfl) ⟨by decide, by decide⟩ ⟨rfl, rfl⟩ dX12_line_212 ⟨by decide, by decide⟩ ?_
                        exact g_zret o dX12_line_215 (zr_s e).1 (rt_v q (zr_s e).2)
                      · rw [if_pos u] at e
                        refine g_iconst (v := 0) o dX12_line_199 (by decide) ?_
                        exact g_zret o dX12_line_200 (zr_s e).1 (rt_v q (zr_s e).2)
                  · rw [if_neg u] at e
                    refine g_aload_n 0 o dX12_line_165 rfl rfl ?_
                    obtain ⟨_, k166, e⟩ := ob e
                    obtain ⟨x166, h166, q166, e⟩ := ob2_s e
                    refine g_callVv [] o (mX12_readRain q166) cf12 (ckO_s k166) mw_1355 mw_1356 mw_1745 mw_19 mw_1357 rfl yo_X12_readRain rfl rfl (Nat.le_of_ble_eq_true rfl) ⟨by decide, by decide⟩ ⟨rfl, rfl⟩ dX12_line_166 ⟨by decide, by decide⟩ ?_
                    exact g_zret o dX12_line_169 (zr_s e).1 (rt_v q (zr_s e).2)
                · rw [if_neg u] at e
                  refine g_aload_n 0 o dX12_line_150 rfl rfl ?_
                  obtain ⟨_, k151, e⟩ := ob e
                  obtain ⟨x151, h151, q151, e⟩ := ob2_s e
                  refine g_callVv [] o (mX12_readMan q151) cf12 (ckO_s k151) mw_1343 mw_1344 mw_1742 mw_19 mw_1345 rfl yo_X12_readMan rfl rfl (Nat.le_of_ble_eq_true rfl) ⟨by decide, by decide⟩ ⟨rfl, rfl⟩ dX12_line_151 ⟨by decide, by decide⟩ ?_
                  exact g_zret o dX12_line_154 (zr_s e).1 (rt_v q (zr_s e).2)
              · rw [if_neg u] at e
                refine g_aload_n 0 o dX12_line_132 rfl rfl ?_
                refine g_sipush (v := 200) o dX12_line_133 (by decide) ?_
                obtain ⟨_, k136, e⟩ := ob e
                obtain ⟨x136, h136, q136, e⟩ := ob2_s e
                refine g_callVv [.int 200] o (mX12_readPrice q136) cf12 (ckO_s k136) mw_1340 mw_1341 mw_1741 mw_19 mw_1342 rfl yo_X12_readPrice rfl rfl (Nat.le_of_ble_eq_true rfl) ⟨by decide, by decide⟩ ⟨rfl, rfl⟩ dX12_line_136 ⟨by decide, by decide⟩ ?_
                exact g_zret o dX12_line_139 (zr_s e).1 (rt_v q (zr_s e).2)
            · rw [if_neg u] at e
              refine g_aload_n 0 o dX12_line_114 rfl rfl ?_
              refine g_sipush (v := 136) o dX12_line_115 (by decide) ?_
              obtain ⟨_, k118, e⟩ := ob e
              obtain ⟨x118, h118, q118, e⟩ := ob2_s e
              refine g_callVv [.int 136] o (mX12_readPrice q118) cf12 (ckO_s k118) mw_1340 mw_1341 mw_1741 mw_19 mw_1342 rfl yo_X12_readPrice rfl rfl (Nat.le_of_ble_eq_true rfl) ⟨by decide, by decide⟩ ⟨rfl, rfl⟩ dX12_line_118 ⟨by decide, by decide⟩ ?_
              exact g_zret o dX12_line_121 (zr_s e).1 (rt_v q (zr_s e).2)
          · rw [if_neg u] at e
            refine g_aload_n 0 o dX12_line_92 rfl rfl ?_
            refine g_bipush (v := 72) o dX12_line_93 (by decide) ?_
            refine g_iconst (v := 5) o dX12_line_95 (by decide) ?_
            refine g_bipush (v := 20) o dX12_line_96 (by decide) ?_
            refine g_bipush (v := 40) o dX12_line_98 (by decide) ?_
            obtain ⟨_, k100, e⟩ := ob e
            obtain ⟨x100, h100, q100, e⟩ := ob2_s e
            refine g_callVv [.int 72, .int 5, .int 20, .int 40] o (mX12_readWay q100) cf12 (ckO_s k100) mw_1325 mw_1326 mw_1737 mw_19 mw_1327 rfl yo_X12_readWay rfl rfl (Nat.le_of_ble_eq_true rfl) ⟨by decide, by decide⟩ ⟨rfl, rfl⟩ dX12_line_100 ⟨by decide, by decide⟩ ?_
            exact g_zret o dX12_line_103 (zr_s e).1 (rt_v q (zr_s e).2)
        · rw [if_neg u] at e
          refine g_aload_n 0 o dX12_line_70 rfl rfl ?_
          refine g_bipush (v := 8) o dX12_line_71 (by decide) ?_
          refine g_iconst (v := 4) o dX12_line_73 (by decide) ?_
          refine g_bipush (v := 16) o dX12_line_74 (by decide) ?_
          refine g_bipush (v := 20) o dX12_line_76 (by decide) ?_
          obtain ⟨_, k78, e⟩ := ob e
          obtain ⟨x78, h78, q78, e⟩ := ob2_s e
          refine g_callVv [.int 8, .int 4, .int 16, .int 20] o (mX12_readWay q78) cf12 (ckO_s k78) mw_1325 mw_1326 mw_1737 mw_19 mw_1327 rfl yo_X12_readWay rfl rfl (Nat.le_of_ble_eq_true rfl) ⟨by decide, by decide⟩ ⟨rfl, rfl⟩ dX12_line_78 ⟨by decide, by decide⟩ ?_
          exact g_zret o dX12_line_81 (zr_s e).1 (rt_v q (zr_s e).2)
      · rw [if_neg u] at e
        refine g_aload_n 0 o dX12_line_50 rfl rfl ?_
        refine g_iconst (v := 2) o dX12_line_51 (by decide) ?_
        refine g_bipush (v := 6) o dX12_line_52 (by decide) ?_
        refine g_bipush (v := 46) o dX12_line_54 (by decide) ?_
        obtain ⟨_, k56, e⟩ := ob e
        obtain ⟨x56, h56, q56, e⟩ := ob2_s e
        refine g_callVv [.int 2, .int 6, .int 46] o (mX12_tells q56) cf12 (ckO_s k56) mw_1310 mw_1311 mw_1732 mw_19 mw_1312 rfl yo_X12_tells rfl rfl (Nat.le_of_ble_eq_true rfl) ⟨by decide, by decide⟩ ⟨rfl, rfl⟩ dX12_line_56 ⟨by decide, by decide⟩ ?_
        exact g_zret o dX12_line_59 (zr_s e).1 (rt_v q (zr_s e).2)
    · rw [if_neg u] at e
      refine g_aload_n 0 o dX12_line_30 rfl rfl ?_
      refine g_iconst (v := 1) o dX12_line_31 (by decide) ?_
      refine g_bipush (v := 8) o dX12_line_32 (by decide) ?_
      refine g_bipush (v := 38) o dX12_line_34 (by decide) ?_
      obtain ⟨_, k36, e⟩ := ob e
      obtain ⟨x36, h36, q36, e⟩ := ob2_s e
      refine g_callVv [.int 1, .int 8, .int 38] o (mX12_tells q36) cf12 (ckO_s k36) mw_1310 mw_1311 mw_1732 mw_19 mw_1312 rfl yo_X12_tells rfl rfl (Nat.le_of_ble_eq_true rfl) ⟨by decide, by decide⟩ ⟨rfl, rfl⟩ dX12_line_36 ⟨by decide, by decide⟩ ?_
      exact g_zret o dX12_line_39 (zr_s e).1 (rt_v q (zr_s e).2)
  · rw [if_neg u] at e
    refine g_aload_n 0 o dX12_line_10 rfl rfl ?_
    refine g_iconst (v := 0) o dX12_line_11 (by decide) ?_
    refine g_bipush (v := 8) o dX12_line_12 (by decide) ?_
    refine g_bipush (v := 30) o dX12_line_14 (by decide) ?_
    obtain ⟨_, k16, e⟩ := ob e
    obtain ⟨x16, h16, q16, e⟩ := ob2_s e
    refine g_callVv [.int 0, .int 8, .int 30] o (mX12_tells q16) cf12 (ckO_s k16) mw_1310 mw_1311 mw_1732 mw_19 mw_1312 rfl yo_X12_tells rfl rfl (Nat.le_of_ble_eq_true rfl) ⟨by decide, by decide⟩ ⟨rfl, rfl⟩ dX12_line_16 ⟨by decide, by decide⟩ ?_
    exact g_zret o dX12_line_19 (zr_s e).1 (rt_v q (zr_s e).2)
theorem yo_X12_sign : yok yX12_sign 1 := ⟨by decide, by decide, by decide +kernel⟩
set_option maxRecDepth 100000 in
set_option maxHeartbeats 4000000 in
theorem mX12_sign {l : Launch} {D : va_G} {cy : Nat → ClassId} {f0 : Nat} {a : Nat} {p0 : Int32} {h : Hp} {r : Int32} {hz : Hp} (e : fX12_sign f0 a p0 h = some (r, hz)) : MC l D cy yX12_sign cX12_sign 2 (some .boolean) rmX12_sign [.ref a, .int p0] h (some (.int r)) hz := by
  refine mc_of2 (by decide) (Nat.le_of_ble_eq_true rfl) (fun X hl hD hy hin o q => ?_)
  subst hl; subst hD; subst hy
  show G X 2 0 [(0, .ref a), (1, .int p0)] [] h 0 0
  unfold fX12_sign at e
  refine g_aload_n 0 o dX12_sign_0 rfl rfl ?_
  refine g_iload_n 1 o dX12_sign_1 rfl rfl ?_
  obtain ⟨_, k2, e⟩ := ob e
  obtain ⟨x2, h2, q2, e⟩ := ob2_s e
  refine g_callVv [.int p0] o (mX12_isSign q2) cf12 (ckO_s k2) mw_1346 mw_1347 mw_1743 mw_19 mw_1348 rfl yo_X12_isSign rfl rfl (Nat.le_of_ble_eq_true rfl) ⟨by decide, by decide⟩ ⟨rfl, rfl⟩ dX12_sign_2 ⟨by decide, by decide⟩ ?_
  refine g_if_ne (x := x2) 14 o dX12_sign_5 (by decide) (fun u => ?_) (fun u => ?_)
  · rw [if_neg u] at e
    refine g_aload_n 0 o dX12_sign_14 rfl rfl ?_
    obtain ⟨_, k15, e⟩ := ob e
    obtain ⟨h15, q15, e⟩ := ob e
    refine g_callV0 [] o (mX12_next q15) cf12 (ckO_s k15) mw_1292 mw_1293 mw_1728 mw_19 mw_1294 rfl yo_X12_next rfl rfl (Nat.le_of_ble_eq_true rfl) ⟨by decide, by decide⟩ ⟨rfl, rfl⟩ dX12_sign_15 ⟨by decide, by decide⟩ ?_
    refine g_iconst (v := 1) o dX12_sign_18 (by decide) ?_
    exact g_zret o dX12_sign_19 (zr_s e).1 (rt_v q (zr_s e).2)
  · rw [if_pos u] at e
    refine g_aload_n 0 o dX12_sign_8 rfl rfl ?_
    refine g_iconst (v := 1) o dX12_sign_9 (by decide) ?_
    obtain ⟨_, k10, e⟩ := ob e
    obtain ⟨x10, h10, q10, e⟩ := ob2_s e
    refine g_callVv [.int 1] o (mX12_bad q10) cf12 (ckO_s k10) mw_1313 mw_1314 mw_1733 mw_19 mw_1315 rfl yo_X12_bad rfl rfl (Nat.le_of_ble_eq_true rfl) ⟨by decide, by decide⟩ ⟨rfl, rfl⟩ dX12_sign_10 ⟨by decide, by decide⟩ ?_
    exact g_zret o dX12_sign_13 (zr_s e).1 (rt_v q (zr_s e).2)
set_option maxRecDepth 100000 in
set_option maxHeartbeats 4000000 in
theorem kX12_sea_76 {X : Cx} (f0 : Nat) (o : Ok X cX12_sea RX12 2 rmX12_sea (some .int)) (v0 : Nat) (h : Hp) (r : Int32) (hz : Hp) (q : Rt X (some (.int r)) hz 0 0) (e : bX12_sea_76 f0 v0 h = some (r, hz)) : G X 2 76 [(0, .ref v0)] [] h 0 0 := by
  unfold bX12_sea_76 at e
  refine g_iconst (v := -1) o dX12_sea_76 (by decide) ?_
  refine g_aload_n 0 o dX12_sea_77 rfl rfl ?_
  obtain ⟨x78, q78, e⟩ := ob e
  refine g_getI 16 o cf12 (by decide) mw_1202 dX12_sea_78 q78 ?_
  refine g_isub (x := ((-1) : Int32)) (y := x78) o dX12_sea_81 ?_
  exact g_iret o dX12_sea_82 (rt_v q e)
set_option maxRecDepth 100000 in
set_option maxHeartbeats 4000000 in
theorem kX12_sea_127 {X : Cx} (f0 : Nat) (g98 : Nat → Int32 → Hp → Option (Int32 × Hp)) (i98 : ∀ (v02 : Nat) (v12 : Int32) (h2 : Hp) (r : Int32) (hz : Hp), Rt X (some (.int r)) hz 0 0 → g98 v02 v12 h2 = some (r, hz) → G X 2 98 [(0, .ref v02), (1, .int v12)] [] h2 0 0) (o : Ok X cX12_sea RX12 2 rmX12_sea (some .int)) (v0 : Nat) (v1 : Int32) (s0 : Nat) (s1 : Int32) (s2 : Int32) (h : Hp) (r : Int32) (hz : Hp) (q : Rt X (some (.int r)) hz 0 0) (e : bX12_sea_127 f0 g98 v0 v1 s0 s1 s2 h = some (r, hz)) : G X 2 127 [(0, .ref v0), (1, .int v1)] [.int s2, .int s1, .ref s0] h 0 0 := by
  unfold bX12_sea_127 at e
  obtain ⟨h127, q127, e⟩ := ob e
  refine g_iast o dX12_sea_127 q127 ?_
  refine g_iinc (k := 1) (v := (v1 + 1)) [(1, .int (v1 + 1)), (0, .ref v0)] o dX12_sea_128 rfl rfl (by decide) rfl ?_
  refine g_goto 98 o dX12_sea_131 (by decide) ?_
  refine g_sb [1, 0] rfl ?_
  exact i98 v0 (v1 + 1) h127 r hz q e
set_option maxRecDepth 100000 in
set_option maxHeartbeats 4000000 in
theorem kX12_sea_136 {X : Cx} (f0 : Nat) (o : Ok X cX12_sea RX12 2 rmX12_sea (some .int)) (f : Nat) (v0 : Nat) (v1 : Int32) (h : Hp) (r : Int32) (hz : Hp) (q : Rt X (some (.int r)) hz 0 0) (e : bX12_sea_136 f0 f v0 v1 h = some (r, hz)) : G X 2 136 [(0, .ref v0), (1, .int v1)] [] h 0 0 := by
  induction f generalizing v0 v1 h r hz with
  | zero => cases e
  | succ f1 ih =>
    unfold bX12_sea_136 at e
    refine g_iload_n 1 o dX12_sea_136 rfl rfl ?_
    refine g_bipush (v := 30) o dX12_sea_137 (by decide) ?_
    refine g_icmp_ge (x := v1) (y := 30) 163 o dX12_sea_139 (by decide) (fun u => ?_) (fun u => ?_)
    · rw [if_pos u] at e
      refine g_aload_n 0 o dX12_sea_163 rfl rfl ?_
      obtain ⟨_, k164, e⟩ := ob e
      obtain ⟨h164, q164, e⟩ := ob e
      refine g_callV0 [] o (mX12_begins q164) cf12 (ckO_s k164) mw_1170 mw_1171 mw_1724 mw_19 mw_1172 rfl yo_X12_begins rfl rfl (Nat.le_of_ble_eq_true rfl) ⟨by decide, by decide⟩ ⟨rfl, rfl⟩ dX12_sea_164 ⟨by decide, by decide⟩ ?_
      refine g_aload_n 0 o dX12_sea_167 rfl rfl ?_
      refine g_iconst (v := 0) o dX12_sea_168 (by decide) ?_
      obtain ⟨h169, q169, e⟩ := ob e
      refine g_put (ty1 := .int) 29 o cf12 (by decide) mw_1215 rfl (by decide +kernel) rfl rfl dX12_sea_169 q169 ?_
      refine g_aload_n 0 o dX12_sea_172 rfl rfl ?_
      obtain ⟨x173, q173, e⟩ := ob e
      refine g_getI 19 o cf12 (by decide) mw_1205 dX12_sea_173 q173 ?_
      exact g_iret o dX12_sea_176 (rt_v q e)
    · rw [if_neg u] at e
      refine g_aload_n 0 o dX12_sea_142 rfl rfl ?_
      obtain ⟨x143, q143, e⟩ := ob e
      refine g_getN 9 o cf12 (by decide) mw_1195 dX12_sea_143 q143 ?_
      refine g_iload_n 1 o dX12_sea_146 rfl rfl ?_
      refine g_aload_n 0 o dX12_sea_147 rfl rfl ?_
      obtain ⟨x148, q148, e⟩ := ob e
      refine g_getN 9 o cf12 (by decide) mw_1195 dX12_sea_148 q148 ?_
      refine g_bipush (v := 30) o dX12_sea_151 (by decide) ?_
      refine g_iload_n 1 o dX12_sea_153 rfl rfl ?_
      refine g_iadd (x := (30 : Int32)) (y := v1) o dX12_sea_154 ?_
      obtain ⟨x155, q155, e⟩ := ob e
      refine g_lald o dX12_sea_155 q155 ?_
      obtain ⟨h156, q156, e⟩ := ob e
      refine g_last o dX12_sea_156 q156 ?_
      refine g_iinc (k := 1) (v := (v1 + 1)) [(1, .int (v1 + 1)), (0, .ref v0)] o dX12_sea_157 rfl rfl (by decide) rfl ?_
      refine g_goto 136 o dX12_sea_160 (by decide) ?_
      refine g_sb [1, 0] rfl ?_
      exact ih v0 (v1 + 1) h156 r hz q e
set_option maxRecDepth 100000 in
set_option maxHeartbeats 4000000 in
theorem kX12_sea_98 {X : Cx} (f0 : Nat) (o : Ok X cX12_sea RX12 2 rmX12_sea (some .int)) (f : Nat) (v0 : Nat) (v1 : Int32) (h : Hp) (r : Int32) (hz : Hp) (q : Rt X (some (.int r)) hz 0 0) (e : bX12_sea_98 f0 f v0 v1 h = some (r, hz)) : G X 2 98 [(0, .ref v0), (1, .int v1)] [] h 0 0 := by
  induction f generalizing v0 v1 h r hz with
  | zero => cases e
  | succ f1 ih =>
    unfold bX12_sea_98 at e
    refine g_iload_n 1 o dX12_sea_98 rfl rfl ?_
    refine g_sipush (v := 646) o dX12_sea_99 (by decide) ?_
    refine g_icmp_ge (x := v1) (y := 646) 134 o dX12_sea_102 (by decide) (fun u => ?_) (fun u => ?_)
    · rw [if_pos u] at e
      refine g_iconst (v := 0) o dX12_sea_134 (by decide) ?_
      refine g_istore_n [(1, .int 0), (0, .ref v0)] o dX12_sea_135 rfl (by decide) rfl ?_
      refine g_sb [1, 0] rfl ?_
      exact kX12_sea_136 f0 o f0 v0 0 h r hz q e
    · rw [if_neg u] at e
      refine g_aload_n 0 o dX12_sea_105 rfl rfl ?_
      obtain ⟨x106, q106, e⟩ := ob e
      refine g_getN 6 o cf12 (by decide) mw_1192 dX12_sea_106 q106 ?_
      refine g_iload_n 1 o dX12_sea_109 rfl rfl ?_
      refine g_iload_n 1 o dX12_sea_110 rfl rfl ?_
      refine g_sipush (v := 312) o dX12_sea_111 (by decide) ?_
      refine g_icmp_ge (x := v1) (y := 312) 126 o dX12_sea_114 (by decide) (fun u => ?_) (fun u => ?_)
      · rw [if_pos u] at e
        refine g_iconst (v := 0) o dX12_sea_126 (by decide) ?_
        exact kX12_sea_127 f0 (bX12_sea_98 f0 f1) ih o v0 v1 x106 v1 0 h r hz q e
      · rw [if_neg u] at e
        refine g_aload_n 0 o dX12_sea_117 rfl rfl ?_
        obtain ⟨x118, q118, e⟩ := ob e
        refine g_getN 7 o cf12 (by decide) mw_1193 dX12_sea_118 q118 ?_
        refine g_iload_n 1 o dX12_sea_121 rfl rfl ?_
        obtain ⟨x122, q122, e⟩ := ob e
        refine g_iald o dX12_sea_122 q122 ?_
        refine g_goto 127 o dX12_sea_123 (by decide) ?_
        exact kX12_sea_127 f0 (bX12_sea_98 f0 f1) ih o v0 v1 x106 v1 x122 h r hz q e
set_option maxRecDepth 100000 in
set_option maxHeartbeats 4000000 in
theorem kX12_sea_53 {X : Cx} (f0 : Nat) (o : Ok X cX12_sea RX12 2 rmX12_sea (some .int)) (f : Nat) (v0 : Nat) (h : Hp) (r : Int32) (hz : Hp) (q : Rt X (some (.int r)) hz 0 0) (e : bX12_sea_53 f0 f v0 h = some (r, hz)) : G X 2 53 [(0, .ref v0)] [] h 0 0 := by
  induction f generalizing v0 h r hz with
  | zero => cases e
  | succ f1 ih =>
    unfold bX12_sea_53 at e
    refine g_aload_n 0 o dX12_sea_53 rfl rfl ?_
    obtain ⟨x54, q54, e⟩ := ob e
    refine g_getI 11 o cf12 (by decide) mw_1197 dX12_sea_54 q54 ?_
    refine g_if_eq (x := x54) 96 o dX12_sea_57 (by decide) (fun u => ?_) (fun u => ?_)
    · rw [if_pos u] at e
      refine g_iconst (v := 0) o dX12_sea_96 (by decide) ?_
      refine g_istore_n [(1, .int 0), (0, .ref v0)] o dX12_sea_97 rfl (by decide) rfl ?_
      refine g_sb [1, 0] rfl ?_
      exact kX12_sea_98 f0 o f0 v0 0 h r hz q e
    · rw [if_neg u] at e
      refine g_aload_n 0 o dX12_sea_60 rfl rfl ?_
      obtain ⟨_, k61, e⟩ := ob e
      obtain ⟨x61, h61, q61, e⟩ := ob2_s e
      refine g_callVv [] o (mX12_line q61) cf12 (ckO_s k61) mw_1304 mw_1305 mw_1730 mw_19 mw_1306 rfl yo_X12_line rfl rfl (Nat.le_of_ble_eq_true rfl) ⟨by decide, by decide⟩ ⟨rfl, rfl⟩ dX12_sea_61 ⟨by decide, by decide⟩ ?_
      refine g_if_eq (x := x61) 76 o dX12_sea_64 (by decide) (fun u => ?_) (fun u => ?_)
      · rw [if_pos u] at e
        exact kX12_sea_76 f0 o v0 h61 r hz q e
      · rw [if_neg u] at e
        refine g_aload_n 0 o dX12_sea_67 rfl rfl ?_
        refine g_bipush (v := 59) o dX12_sea_68 (by decide) ?_
        obtain ⟨_, k70, e⟩ := ob e
        obtain ⟨x70, h70, q70, e⟩ := ob2_s e
        refine g_callVv [.int 59] o (mX12_sign q70) cf12 (ckO_s k70) mw_1358 mw_1359 mw_1746 mw_19 mw_1360 rfl yo_X12_sign rfl rfl (Nat.le_of_ble_eq_true rfl) ⟨by decide, by decide⟩ ⟨rfl, rfl⟩ dX12_sea_70 ⟨by decide, by decide⟩ ?_
        refine g_if_ne (x := x70) 83 o dX12_sea_73 (by decide) (fun u => ?_) (fun u => ?_)
        · rw [if_neg u] at e
          refine g_aload_n 0 o dX12_sea_83 rfl rfl ?_
          refine g_dup o dX12_sea_84 rfl ?_
          obtain ⟨x85, q85, e⟩ := ob e
          refine g_getI 19 o cf12 (by decide) mw_1205 dX12_sea_85 q85 ?_
          refine g_iconst (v := 1) o dX12_sea_88 (by decide) ?_
          refine g_iadd (x := x85) (y := 1) o dX12_sea_89 ?_
          obtain ⟨h90, q90, e⟩ := ob e
          refine g_put (ty1 := .int) 19 o cf12 (by decide) mw_1205 rfl (by decide +kernel) rfl rfl dX12_sea_90 q90 ?_
          refine g_goto 53 o dX12_sea_93 (by decide) ?_
          exact ih v0 h90 r hz q e
        · rw [if_pos u] at e
          exact kX12_sea_76 f0 o v0 h70 r hz q e
set_option maxRecDepth 100000 in
set_option maxHeartbeats 4000000 in
theorem kX12_sea_29 {X : Cx} (f0 : Nat) (o : Ok X cX12_sea RX12 2 rmX12_sea (some .int)) (f : Nat) (v0 : Nat) (v1 : Int32) (h : Hp) (r : Int32) (hz : Hp) (q : Rt X (some (.int r)) hz 0 0) (e : bX12_sea_29 f0 f v0 v1 h = some (r, hz)) : G X 2 29 [(0, .ref v0), (1, .int v1)] [] h 0 0 := by
  induction f generalizing v0 v1 h r hz with
  | zero => cases e
  | succ f1 ih =>
    unfold bX12_sea_29 at e
    refine g_iload_n 1 o dX12_sea_29 rfl rfl ?_
    refine g_sipush (v := 312) o dX12_sea_30 (by decide) ?_
    refine g_icmp_ge (x := v1) (y := 312) 49 o dX12_sea_33 (by decide) (fun u => ?_) (fun u => ?_)
    · rw [if_pos u] at e
      refine g_aload_n 0 o dX12_sea_49 rfl rfl ?_
      obtain ⟨_, k50, e⟩ := ob e
      obtain ⟨h50, q50, e⟩ := ob e
      refine g_callV0 [] o (mX12_next q50) cf12 (ckO_s k50) mw_1292 mw_1293 mw_1728 mw_19 mw_1294 rfl yo_X12_next rfl rfl (Nat.le_of_ble_eq_true rfl) ⟨by decide, by decide⟩ ⟨rfl, rfl⟩ dX12_sea_50 ⟨by decide, by decide⟩ ?_
      refine g_sb [0] rfl ?_
      exact kX12_sea_53 f0 o f0 v0 h50 r hz q e
    · rw [if_neg u] at e
      refine g_aload_n 0 o dX12_sea_36 rfl rfl ?_
      obtain ⟨x37, q37, e⟩ := ob e
      refine g_getN 7 o cf12 (by decide) mw_1193 dX12_sea_37 q37 ?_
      refine g_iload_n 1 o dX12_sea_40 rfl rfl ?_
      refine g_iconst (v := 0) o dX12_sea_41 (by decide) ?_
      obtain ⟨h42, q42, e⟩ := ob e
      refine g_iast o dX12_sea_42 q42 ?_
      refine g_iinc (k := 1) (v := (v1 + 1)) [(1, .int (v1 + 1)), (0, .ref v0)] o dX12_sea_43 rfl rfl (by decide) rfl ?_
      refine g_goto 29 o dX12_sea_46 (by decide) ?_
      refine g_sb [1, 0] rfl ?_
      exact ih v0 (v1 + 1) h42 r hz q e
theorem yo_X12_sea : yok yX12_sea 0 := ⟨by decide, by decide, by decide +kernel⟩
set_option maxRecDepth 100000 in
set_option maxHeartbeats 4000000 in
theorem mX12_sea {l : Launch} {D : va_G} {cy : Nat → ClassId} {f0 : Nat} {a : Nat} {h : Hp} {r : Int32} {hz : Hp} (e : fX12_sea f0 a h = some (r, hz)) : MC l D cy yX12_sea cX12_sea 2 (some .int) rmX12_sea [.ref a] h (some (.int r)) hz := by
  refine mc_of2 (by decide) (Nat.le_of_ble_eq_true rfl) (fun X hl hD hy hin o q => ?_)
  subst hl; subst hD; subst hy
  show G X 2 0 [(0, .ref a)] [] h 0 0
  unfold fX12_sea at e
  refine g_aload_n 0 o dX12_sea_0 rfl rfl ?_
  refine g_iconst (v := 0) o dX12_sea_1 (by decide) ?_
  obtain ⟨h2, q2, e⟩ := ob e
  refine g_put (ty1 := .int) 0 o cf12 (by decide) mw_1186 rfl (by decide +kernel) rfl rfl dX12_sea_2 q2 ?_
  refine g_aload_n 0 o dX12_sea_5 rfl rfl ?_
  refine g_sipush (v := 900) o dX12_sea_6 (by decide) ?_
  obtain ⟨_, k9, e⟩ := ob e
  obtain ⟨h9, q9, e⟩ := ob e
  refine g_callV0 [.int 900] o (mX12_taken q9) cf12 (ckO_s k9) mw_1289 mw_1290 mw_1727 mw_19 mw_1291 rfl yo_X12_taken rfl rfl (Nat.le_of_ble_eq_true rfl) ⟨by decide, by decide⟩ ⟨rfl, rfl⟩ dX12_sea_9 ⟨by decide, by decide⟩ ?_
  refine g_aload_n 0 o dX12_sea_12 rfl rfl ?_
  refine g_iconst (v := 0) o dX12_sea_13 (by decide) ?_
  obtain ⟨h14, q14, e⟩ := ob e
  refine g_put (ty1 := .int) 15 o cf12 (by decide) mw_1201 rfl (by decide +kernel) rfl rfl dX12_sea_14 q14 ?_
  refine g_aload_n 0 o dX12_sea_17 rfl rfl ?_
  refine g_iconst (v := 0) o dX12_sea_18 (by decide) ?_
  obtain ⟨h19, q19, e⟩ := ob e
  refine g_put (ty1 := .int) 19 o cf12 (by decide) mw_1205 rfl (by decide +kernel) rfl rfl dX12_sea_19 q19 ?_
  refine g_aload_n 0 o dX12_sea_22 rfl rfl ?_
  refine g_iconst (v := 0) o dX12_sea_23 (by decide) ?_
  obtain ⟨h24, q24, e⟩ := ob e
  refine g_put (ty1 := .boolean) 20 o cf12 (by decide) mw_1206 rfl (by decide +kernel) (nar_z (pfZ_s q24).1).1 (nar_z (pfZ_s q24).1).2 dX12_sea_24 (pfZ_s q24).2 ?_
  refine g_iconst (v := 0) o dX12_sea_27 (by decide) ?_
  refine g_istore_n [(1, .int 0), (0, .ref a)] o dX12_sea_28 rfl (by decide) rfl ?_
  refine g_sb [1, 0] rfl ?_
  exact kX12_sea_29 f0 o f0 a 0 h24 r hz q e
theorem yo_X12_fault : yok yX12_fault 0 := ⟨by decide, by decide, by decide +kernel⟩
set_option maxRecDepth 100000 in
set_option maxHeartbeats 4000000 in
theorem mX12_fault {l : Launch} {D : va_G} {cy : Nat → ClassId} {f0 : Nat} {a : Nat} {h : Hp} {r : Int32} {hz : Hp} (e : fX12_fault f0 a h = some (r, hz)) : MC l D cy yX12_fault cX12_fault 1 (some .int) rmX12_fault [.ref a] h (some (.int r)) hz := by
  refine mc_of2 (by decide) (Nat.le_of_ble_eq_true rfl) (fun X hl hD hy hin o q => ?_)
  subst hl; subst hD; subst hy
  show G X 1 0 [(0, .ref a)] [] h 0 0
  unfold fX12_fault at e
  refine g_aload_n 0 o dX12_fault_0 rfl rfl ?_
  refine g_iconst (v := 0) o dX12_fault_1 (by decide) ?_
  obtain ⟨h2, q2, e⟩ := ob e
  refine g_put (ty1 := .int) 0 o cf12 (by decide) mw_1186 rfl (by decide +kernel) rfl rfl dX12_fault_2 q2 ?_
  refine g_aload_n 0 o dX12_fault_5 rfl rfl ?_
  obtain ⟨x6, q6, e⟩ := ob e
  refine g_getI 15 o cf12 (by decide) mw_1201 dX12_fault_6 q6 ?_
  exact g_iret o dX12_fault_9 (rt_v q e)
theorem yo_X12_isPort : yok yX12_isPort 1 := ⟨by decide, by decide, by decide +kernel⟩
set_option maxRecDepth 100000 in
set_option maxHeartbeats 4000000 in
theorem mX12_isPort {l : Launch} {D : va_G} {cy : Nat → ClassId} {f0 : Nat} {a : Nat} {p0 : Int32} {h : Hp} {r : Int32} {hz : Hp} (e : fX12_isPort f0 a p0 h = some (r, hz)) : MC l D cy yX12_isPort cX12_isPort 2 (some .boolean) rmX12_isPort [.ref a, .int p0] h (some (.int r)) hz := by
  refine mc_of2 (by decide) (Nat.le_of_ble_eq_true rfl) (fun X hl hD hy hin o q => ?_)
  subst hl; subst hD; subst hy
  show G X 2 0 [(0, .ref a), (1, .int p0)] [] h 0 0
  unfold fX12_isPort at e
  refine g_iload_n 1 o dX12_isPort_0 rfl rfl ?_
  refine g_iconst (v := 0) o dX12_isPort_1 (by decide) ?_
  refine g_aload_n 0 o dX12_isPort_2 rfl rfl ?_
  obtain ⟨x3, q3, e⟩ := ob e
  refine g_getN 6 o cf12 (by decide) mw_1192 dX12_isPort_3 q3 ?_
  refine g_iconst (v := 0) o dX12_isPort_6 (by decide) ?_
  obtain ⟨x7, q7, e⟩ := ob e
  refine g_iald o dX12_isPort_7 q7 ?_
  refine g_iconst (v := 1) o dX12_isPort_8 (by decide) ?_
  refine g_isub (x := x7) (y := 1) o dX12_isPort_9 ?_
  obtain ⟨x10, h10, q10, e⟩ := ob2_s e
  refine g_callSv [.int p0, .int 0, .int (x7 - 1)] o (mX12_isIn q10) mw_1337 mw_1338 mw_19 mw_1339 yo_X12_isIn rfl rfl (Nat.le_of_ble_eq_true rfl) ⟨by decide, by decide⟩ ⟨rfl, rfl⟩ dX12_isPort_10 ⟨by decide, by decide⟩ ?_
  exact g_zret o dX12_isPort_13 (zr_s e).1 (rt_v q (zr_s e).2)
set_option maxRecDepth 100000 in
set_option maxHeartbeats 4000000 in
theorem kX12_throwsIf_10 {X : Cx} (f0 : Nat) (o : Ok X cX12_throwsIf RX12 2 rmX12_throwsIf (some .boolean)) (v1 : Int32) (s0 : Nat) (s1 : Int32) (h : Hp) (r : Int32) (hz : Hp) (q : Rt X (some (.int r)) hz 0 0) (e : bX12_throwsIf_10 f0 v1 s0 s1 h = some (r, hz)) : G X 2 10 [(1, .int v1)] [.int s1, .ref s0] h 0 0 := by
  unfold bX12_throwsIf_10 at e
  obtain ⟨h10, q10, e⟩ := ob e
  refine g_put (ty1 := .int) 0 o cf12 (by decide) mw_1186 rfl (by decide +kernel) rfl rfl dX12_throwsIf_10 q10 ?_
  refine g_iload_n 0 o dX12_throwsIf_13 rfl rfl ?_
  exact g_zret o dX12_throwsIf_14 (zr_s e).1 (rt_v q (zr_s e).2)
theorem yo_X12_throwsIf : yok yX12_throwsIf 1 := ⟨by decide, by decide, by decide +kernel⟩
set_option maxRecDepth 100000 in
set_option maxHeartbeats 4000000 in
theorem mX12_throwsIf {l : Launch} {D : va_G} {cy : Nat → ClassId} {f0 : Nat} {a : Nat} {p0 : Int32} {h : Hp} {r : Int32} {hz : Hp} (e : fX12_throwsIf f0 a p0 h = some (r, hz)) : MC l D cy yX12_throwsIf cX12_throwsIf 2 (some .boolean) rmX12_throwsIf [.ref a, .int p0] h (some (.int r)) hz := by
  refine mc_of2 (by decide) (Nat.le_of_ble_eq_true rfl) (fun X hl hD hy hin o q => ?_)
  subst hl; subst hD; subst hy
  show G X 2 0 [(0, .ref a), (1, .int p0)] [] h 0 0
  unfold fX12_throwsIf at e
  refine g_aload_n 0 o dX12_throwsIf_0 rfl rfl ?_
  refine g_iload_n 1 o dX12_throwsIf_1 rfl rfl ?_
  refine g_if_eq (x := p0) 9 o dX12_throwsIf_2 (by decide) (fun u => ?_) (fun u => ?_)
  · rw [if_pos u] at e
    refine g_iconst (v := 0) o dX12_throwsIf_9 (by decide) ?_
    refine g_sb [1] rfl ?_
    exact kX12_throwsIf_10 f0 o p0 a 0 h r hz q e
  · rw [if_neg u] at e
    refine g_iconst (v := 1) o dX12_throwsIf_5 (by decide) ?_
    refine g_goto 10 o dX12_throwsIf_6 (by decide) ?_
    refine g_sb [1] rfl ?_
    exact kX12_throwsIf_10 f0 o p0 a 1 h r hz q e
set_option maxRecDepth 100000 in
set_option maxHeartbeats 4000000 in
theorem kX12_knowsFrom_70 {X : Cx} (f0 : Nat) (g7 : Nat → Int32 → Int32 → Int32 → Int32 → Hp → Option (Int32 × Hp)) (i7 : ∀ (v02 : Nat) (v12 : Int32) (v22 : Int32) (v32 : Int32) (v42 : Int32) (h2 : Hp) (r : Int32) (hz : Hp), Rt X (some (.int r)) hz 0 0 → g7 v02 v12 v22 v32 v42 h2 = some (r, hz) → G X 5 7 [(0, .ref v02), (1, .int v12), (2, .int v22), (3, .int v32), (4, .int v42)] [] h2 0 0) (o : Ok X cX12_knowsFrom RX12 5 rmX12_knowsFrom (some .int)) (v0 : Nat) (v1 : Int32) (v2 : Int32) (v3 : Int32) (v4 : Int32) (h : Hp) (r : Int32) (hz : Hp) (q : Rt X (some (.int r)) hz 0 0) (e : bX12_knowsFrom_70 f0 g7 v0 v1 v2 v3 v4 h = some (r, hz)) : G X 5 70 [(0, .ref v0), (1, .int v1), (2, .int v2), (3, .int v3), (4, .int v4)] [] h 0 0 := by
  unfold bX12_knowsFrom_70 at e
  refine g_iinc (k := 4) (v := (v4 + 1)) [(4, .int (v4 + 1)), (0, .ref v0), (1, .int v1), (2, .int v2), (3, .int v3)] o dX12_knowsFrom_70 rfl rfl (by decide) rfl ?_
  refine g_goto 7 o dX12_knowsFrom_73 (by decide) ?_
  refine g_sb [1, 2, 3, 4, 0] rfl ?_
  exact i7 v0 v1 v2 v3 (v4 + 1) h r hz q e
set_option maxRecDepth 100000 in
set_option maxHeartbeats 4000000 in
theorem kX12_knowsFrom_7 {X : Cx} (f0 : Nat) (o : Ok X cX12_knowsFrom RX12 5 rmX12_knowsFrom (some .int)) (f : Nat) (v0 : Nat) (v1 : Int32) (v2 : Int32) (v3 : Int32) (v4 : Int32) (h : Hp) (r : Int32) (hz : Hp) (q : Rt X (some (.int r)) hz 0 0) (e : bX12_knowsFrom_7 f0 f v0 v1 v2 v3 v4 h = some (r, hz)) : G X 5 7 [(0, .ref v0), (1, .int v1), (2, .int v2), (3, .int v3), (4, .int v4)] [] h 0 0 := by
  induction f generalizing v0 v1 v2 v3 v4 h r hz with
  | zero => cases e
  | succ f1 ih =>
    unfold bX12_knowsFrom_7 at e
    refine g_iload 4 o dX12_knowsFrom_7 rfl ?_
    refine g_aload_n 0 o dX12_knowsFrom_9 rfl rfl ?_
    obtain ⟨x10, q10, e⟩ := ob e
    refine g_getN 6 o cf12 (by decide) mw_1192 dX12_knowsFrom_10 q10 ?_
    refine g_iconst (v := 0) o dX12_knowsFrom_13 (by decide) ?_
    obtain ⟨x14, q14, e⟩ := ob e
    refine g_iald o dX12_knowsFrom_14 q14 ?_
    refine g_icmp_ge (x := v4) (y := x14) 76 o dX12_knowsFrom_15 (by decide) (fun u => ?_) (fun u => ?_)
    · rw [if_pos u] at e
      refine g_iload_n 3 o dX12_knowsFrom_76 rfl rfl ?_
      exact g_iret o dX12_knowsFrom_77 (rt_v q e)
    · rw [if_neg u] at e
      refine g_aload_n 0 o dX12_knowsFrom_18 rfl rfl ?_
      obtain ⟨x19, q19, e⟩ := ob e
      refine g_getN 6 o cf12 (by decide) mw_1192 dX12_knowsFrom_19 q19 ?_
      refine g_sipush (v := 336) o dX12_knowsFrom_22 (by decide) ?_
      refine g_iload_n 2 o dX12_knowsFrom_25 rfl rfl ?_
      refine g_iload 4 o dX12_knowsFrom_26 rfl ?_
      obtain ⟨x28, h28, q28, e⟩ := ob2_s e
      refine g_callSv [.int v2, .int v4] o (mX12_cell q28) mw_1180 mw_1181 mw_19 mw_1182 yo_X12_cell rfl rfl (Nat.le_of_ble_eq_true rfl) ⟨by decide, by decide⟩ ⟨rfl, rfl⟩ dX12_knowsFrom_28 ⟨by decide, by decide⟩ ?_
      refine g_iadd (x := (336 : Int32)) (y := x28) o dX12_knowsFrom_31 ?_
      obtain ⟨x32, q32, e⟩ := ob e
      refine g_iald o dX12_knowsFrom_32 q32 ?_
      refine g_if_le (x := x32) 70 o dX12_knowsFrom_33 (by decide) (fun u => ?_) (fun u => ?_)
      · rw [if_pos u] at e
        exact kX12_knowsFrom_70 f0 (bX12_knowsFrom_7 f0 f1) ih o v0 v1 v2 v3 v4 h28 r hz q e
      · rw [if_neg u] at e
        refine g_iload_n 3 o dX12_knowsFrom_36 rfl rfl ?_
        refine g_aload_n 0 o dX12_knowsFrom_37 rfl rfl ?_
        obtain ⟨x38, q38, e⟩ := ob e
        refine g_getN 6 o cf12 (by decide) mw_1192 dX12_knowsFrom_38 q38 ?_
        refine g_sipush (v := 336) o dX12_knowsFrom_41 (by decide) ?_
        refine g_iload_n 2 o dX12_knowsFrom_44 rfl rfl ?_
        refine g_iload 4 o dX12_knowsFrom_45 rfl ?_
        obtain ⟨x47, h47, q47, e⟩ := ob2_s e
        refine g_callSv [.int v2, .int v4] o (mX12_cell q47) mw_1180 mw_1181 mw_19 mw_1182 yo_X12_cell rfl rfl (Nat.le_of_ble_eq_true rfl) ⟨by decide, by decide⟩ ⟨rfl, rfl⟩ dX12_knowsFrom_47 ⟨by decide, by decide⟩ ?_
        refine g_iadd (x := (336 : Int32)) (y := x47) o dX12_knowsFrom_50 ?_
        obtain ⟨x51, q51, e⟩ := ob e
        refine g_iald o dX12_knowsFrom_51 q51 ?_
        refine g_iconst (v := 1) o dX12_knowsFrom_52 (by decide) ?_
        refine g_isub (x := x51) (y := 1) o dX12_knowsFrom_53 ?_
        refine g_aload_n 0 o dX12_knowsFrom_54 rfl rfl ?_
        obtain ⟨x55, q55, e⟩ := ob e
        refine g_getN 22 o cf12 (by decide) mw_1208 dX12_knowsFrom_55 q55 ?_
        refine g_iload 4 o dX12_knowsFrom_58 rfl ?_
        refine g_iload_n 1 o dX12_knowsFrom_60 rfl rfl ?_
        obtain ⟨x61, h61, q61, e⟩ := ob2_s e
        refine g_callSv [.int v4, .int v1] o (mX12_cell q61) mw_1180 mw_1181 mw_19 mw_1182 yo_X12_cell rfl rfl (Nat.le_of_ble_eq_true rfl) ⟨by decide, by decide⟩ ⟨rfl, rfl⟩ dX12_knowsFrom_61 ⟨by decide, by decide⟩ ?_
        obtain ⟨x64, q64, e⟩ := ob e
        refine g_iald o dX12_knowsFrom_64 q64 ?_
        refine g_iadd (x := (x51 - 1)) (y := x64) o dX12_knowsFrom_65 ?_
        obtain ⟨x66, h66, q66, e⟩ := ob2_s e
        refine g_callSv [.int v3, .int ((x51 - 1) + x64)] o (mX12_lesser q66) mw_1183 mw_1184 mw_19 mw_1185 yo_X12_lesser rfl rfl (Nat.le_of_ble_eq_true rfl) ⟨by decide, by decide⟩ ⟨rfl, rfl⟩ dX12_knowsFrom_66 ⟨by decide, by decide⟩ ?_
        refine g_istore_n [(3, .int x66), (0, .ref v0), (1, .int v1), (2, .int v2), (4, .int v4)] o dX12_knowsFrom_69 rfl (by decide) rfl ?_
        refine g_sb [1, 2, 3, 0, 4] rfl ?_
        exact kX12_knowsFrom_70 f0 (bX12_knowsFrom_7 f0 f1) ih o v0 v1 v2 x66 v4 h66 r hz q e
theorem yo_X12_knowsFrom : yok yX12_knowsFrom 2 := ⟨by decide, by decide, by decide +kernel⟩
set_option maxRecDepth 100000 in
set_option maxHeartbeats 4000000 in
theorem mX12_knowsFrom {l : Launch} {D : va_G} {cy : Nat → ClassId} {f0 : Nat} {a : Nat} {p0 : Int32} {p1 : Int32} {h : Hp} {r : Int32} {hz : Hp} (e : fX12_knowsFrom f0 a p0 p1 h = some (r, hz)) : MC l D cy yX12_knowsFrom cX12_knowsFrom 5 (some .int) rmX12_knowsFrom [.ref a, .int p0, .int p1] h (some (.int r)) hz := by
  refine mc_of2 (by decide) (Nat.le_of_ble_eq_true rfl) (fun X hl hD hy hin o q => ?_)
  subst hl; subst hD; subst hy
  show G X 5 0 [(0, .ref a), (1, .int p0), (2, .int p1)] [] h 0 0
  unfold fX12_knowsFrom at e
  refine g_ldc_w (v := 1000000) o dX12_knowsFrom_0 mw_1179 ?_
  refine g_istore_n [(3, .int 1000000), (0, .ref a), (1, .int p0), (2, .int p1)] o dX12_knowsFrom_3 rfl (by decide) rfl ?_
  refine g_iconst (v := 0) o dX12_knowsFrom_4 (by decide) ?_
  refine g_istore [(4, .int 0), (3, .int 1000000), (0, .ref a), (1, .int p0), (2, .int p1)] o dX12_knowsFrom_5 (by decide) rfl ?_
  refine g_sb [2, 3, 4, 1, 0] rfl ?_
  exact kX12_knowsFrom_7 f0 o f0 a p0 p1 1000000 0 h r hz q e
set_option maxRecDepth 100000 in
set_option maxHeartbeats 4000000 in
theorem kX12_knownAt_36 {X : Cx} (f0 : Nat) (g5 : Nat → Int32 → Int32 → Int32 → Int32 → Hp → Option (Int32 × Hp)) (i5 : ∀ (v02 : Nat) (v12 : Int32) (v22 : Int32) (v32 : Int32) (v42 : Int32) (h2 : Hp) (r : Int32) (hz : Hp), Rt X (some (.int r)) hz 0 0 → g5 v02 v12 v22 v32 v42 h2 = some (r, hz) → G X 5 5 [(0, .ref v02), (1, .int v12), (2, .int v22), (3, .int v32), (4, .int v42)] [] h2 0 0) (o : Ok X cX12_knownAt RX12 5 rmX12_knownAt (some .int)) (v0 : Nat) (v1 : Int32) (v2 : Int32) (v4 : Int32) (s0 : Int32) (s1 : Int32) (h : Hp) (r : Int32) (hz : Hp) (q : Rt X (some (.int r)) hz 0 0) (e : bX12_knownAt_36 f0 g5 v0 v1 v2 v4 s0 s1 h = some (r, hz)) : G X 5 36 [(0, .ref v0), (1, .int v1), (2, .int v2), (4, .int v4)] [.int s1, .int s0] h 0 0 := by
  unfold bX12_knownAt_36 at e
  refine g_ior (x := s0) (y := s1) o dX12_knownAt_36 ?_
  refine g_istore_n [(3, .int (s0 ||| s1)), (0, .ref v0), (1, .int v1), (2, .int v2), (4, .int v4)] o dX12_knownAt_37 rfl (by decide) rfl ?_
  refine g_iinc (k := 4) (v := (v4 + 1)) [(4, .int (v4 + 1)), (3, .int (s0 ||| s1)), (0, .ref v0), (1, .int v1), (2, .int v2)] o dX12_knownAt_38 rfl rfl (by decide) rfl ?_
  refine g_goto 5 o dX12_knownAt_41 (by decide) ?_
  refine g_sb [2, 3, 4, 1, 0] rfl ?_
  exact i5 v0 v1 v2 (s0 ||| s1) (v4 + 1) h r hz q e
set_option maxRecDepth 100000 in
set_option maxHeartbeats 4000000 in
theorem kX12_knownAt_5 {X : Cx} (f0 : Nat) (o : Ok X cX12_knownAt RX12 5 rmX12_knownAt (some .int)) (f : Nat) (v0 : Nat) (v1 : Int32) (v2 : Int32) (v3 : Int32) (v4 : Int32) (h : Hp) (r : Int32) (hz : Hp) (q : Rt X (some (.int r)) hz 0 0) (e : bX12_knownAt_5 f0 f v0 v1 v2 v3 v4 h = some (r, hz)) : G X 5 5 [(0, .ref v0), (1, .int v1), (2, .int v2), (3, .int v3), (4, .int v4)] [] h 0 0 := by
  induction f generalizing v0 v1 v2 v3 v4 h r hz with
  | zero => cases e
  | succ f1 ih =>
    unfold bX12_knownAt_5 at e
    refine g_iload 4 o dX12_knownAt_5 rfl ?_
    refine g_aload_n 0 o dX12_knownAt_7 rfl rfl ?_
    obtain ⟨x8, q8, e⟩ := ob e
    refine g_getN 6 o cf12 (by decide) mw_1192 dX12_knownAt_8 q8 ?_
    refine g_iconst (v := 1) o dX12_knownAt_11 (by decide) ?_
    obtain ⟨x12, q12, e⟩ := ob e
    refine g_iald o dX12_knownAt_12 q12 ?_
    refine g_icmp_ge (x := v4) (y := x12) 44 o dX12_knownAt_13 (by decide) (fun u => ?_) (fun u => ?_)
    · rw [if_pos u] at e
      refine g_iload_n 3 o dX12_knownAt_44 rfl rfl ?_
      exact g_iret o dX12_knownAt_45 (rt_v q e)
    · rw [if_neg u] at e
      refine g_iload_n 3 o dX12_knownAt_16 rfl rfl ?_
      refine g_aload_n 0 o dX12_knownAt_17 rfl rfl ?_
      refine g_iload_n 1 o dX12_knownAt_18 rfl rfl ?_
      refine g_iload 4 o dX12_knownAt_19 rfl ?_
      obtain ⟨_, k21, e⟩ := ob e
      obtain ⟨x21, h21, q21, e⟩ := ob2_s e
      refine g_callVv [.int v1, .int v4] o (mX12_knowsFrom q21) cf12 (ckO_s k21) mw_1378 mw_1379 mw_1750 mw_19 mw_1380 rfl yo_X12_knowsFrom rfl rfl (Nat.le_of_ble_eq_true rfl) ⟨by decide, by decide⟩ ⟨rfl, rfl⟩ dX12_knownAt_21 ⟨by decide, by decide⟩ ?_
      refine g_iload_n 2 o dX12_knownAt_24 rfl rfl ?_
      refine g_icmp_gt (x := x21) (y := v2) 35 o dX12_knownAt_25 (by decide) (fun u => ?_) (fun u => ?_)
      · rw [if_pos u] at e
        refine g_iconst (v := 0) o dX12_knownAt_35 (by decide) ?_
        refine g_sb [0, 1, 2, 4] rfl ?_
        exact kX12_knownAt_36 f0 (bX12_knownAt_5 f0 f1) ih o v0 v1 v2 v4 v3 0 h21 r hz q e
      · rw [if_neg u] at e
        refine g_iconst (v := 1) o dX12_knownAt_28 (by decide) ?_
        refine g_iload 4 o dX12_knownAt_29 rfl ?_
        refine g_ishl (x := (1 : Int32)) (y := v4) o dX12_knownAt_31 ?_
        refine g_goto 36 o dX12_knownAt_32 (by decide) ?_
        refine g_sb [0, 1, 2, 4] rfl ?_
        exact kX12_knownAt_36 f0 (bX12_knownAt_5 f0 f1) ih o v0 v1 v2 v4 v3 ((1 : Int32) <<< (v4 &&& 31)) h21 r hz q e
theorem yo_X12_knownAt : yok yX12_knownAt 2 := ⟨by decide, by decide, by decide +kernel⟩
set_option maxRecDepth 100000 in
set_option maxHeartbeats 4000000 in
theorem mX12_knownAt {l : Launch} {D : va_G} {cy : Nat → ClassId} {f0 : Nat} {a : Nat} {p0 : Int32} {p1 : Int32} {h : Hp} {r : Int32} {hz : Hp} (e : fX12_knownAt f0 a p0 p1 h = some (r, hz)) : MC l D cy yX12_knownAt cX12_knownAt 5 (some .int) rmX12_knownAt [.ref a, .int p0, .int p1] h (some (.int r)) hz := by
  refine mc_of2 (by decide) (Nat.le_of_ble_eq_true rfl) (fun X hl hD hy hin o q => ?_)
  subst hl; subst hD; subst hy
  show G X 5 0 [(0, .ref a), (1, .int p0), (2, .int p1)] [] h 0 0
  unfold fX12_knownAt at e
  refine g_iconst (v := 0) o dX12_knownAt_0 (by decide) ?_
  refine g_istore_n [(3, .int 0), (0, .ref a), (1, .int p0), (2, .int p1)] o dX12_knownAt_1 rfl (by decide) rfl ?_
  refine g_iconst (v := 0) o dX12_knownAt_2 (by decide) ?_
  refine g_istore [(4, .int 0), (3, .int 0), (0, .ref a), (1, .int p0), (2, .int p1)] o dX12_knownAt_3 (by decide) rfl ?_
  refine g_sb [2, 3, 4, 1, 0] rfl ?_
  exact kX12_knownAt_5 f0 o f0 a p0 p1 0 0 h r hz q e
set_option maxRecDepth 100000 in
set_option maxHeartbeats 4000000 in
theorem kX12_isRain_59 {X : Cx} (f0 : Nat) (g5 : Nat → Int32 → Int32 → Int32 → Int32 → Hp → Option (Int32 × Hp)) (i5 : ∀ (v02 : Nat) (v12 : Int32) (v22 : Int32) (v32 : Int32) (v42 : Int32) (h2 : Hp) (r : Int32) (hz : Hp), Rt X (some (.int r)) hz 0 0 → g5 v02 v12 v22 v32 v42 h2 = some (r, hz) → G X 5 5 [(0, .ref v02), (1, .int v12), (2, .int v22), (3, .int v32), (4, .int v42)] [] h2 0 0) (o : Ok X cX12_isRain RX12 5 rmX12_isRain (some .boolean)) (v0 : Nat) (v1 : Int32) (v2 : Int32) (v4 : Int32) (s0 : Int32) (h : Hp) (r : Int32) (hz : Hp) (q : Rt X (some (.int r)) hz 0 0) (e : bX12_isRain_59 f0 g5 v0 v1 v2 v4 s0 h = some (r, hz)) : G X 5 59 [(0, .ref v0), (1, .int v1), (2, .int v2), (4, .int v4)] [.int s0] h 0 0 := by
  unfold bX12_isRain_59 at e
  refine g_istore_n [(3, .int s0), (0, .ref v0), (1, .int v1), (2, .int v2), (4, .int v4)] o dX12_isRain_59 rfl (by decide) rfl ?_
  refine g_iinc (k := 4) (v := (v4 + 1)) [(4, .int (v4 + 1)), (3, .int s0), (0, .ref v0), (1, .int v1), (2, .int v2)] o dX12_isRain_60 rfl rfl (by decide) rfl ?_
  refine g_goto 5 o dX12_isRain_63 (by decide) ?_
  refine g_sb [2, 3, 4, 1, 0] rfl ?_
  exact i5 v0 v1 v2 s0 (v4 + 1) h r hz q e
set_option maxRecDepth 100000 in
set_option maxHeartbeats 4000000 in
theorem kX12_isRain_54 {X : Cx} (f0 : Nat) (g5 : Nat → Int32 → Int32 → Int32 → Int32 → Hp → Option (Int32 × Hp)) (i5 : ∀ (v02 : Nat) (v12 : Int32) (v22 : Int32) (v32 : Int32) (v42 : Int32) (h2 : Hp) (r : Int32) (hz : Hp), Rt X (some (.int r)) hz 0 0 → g5 v02 v12 v22 v32 v42 h2 = some (r, hz) → G X 5 5 [(0, .ref v02), (1, .int v12), (2, .int v22), (3, .int v32), (4, .int v42)] [] h2 0 0) (o : Ok X cX12_isRain RX12 5 rmX12_isRain (some .boolean)) (v0 : Nat) (v1 : Int32) (v2 : Int32) (v4 : Int32) (h : Hp) (r : Int32) (hz : Hp) (q : Rt X (some (.int r)) hz 0 0) (e : bX12_isRain_54 f0 g5 v0 v1 v2 v4 h = some (r, hz)) : G X 5 54 [(0, .ref v0), (1, .int v1), (2, .int v2), (4, .int v4)] [] h 0 0 := by
  unfold bX12_isRain_54 at e
  refine g_iconst (v := 1) o dX12_isRain_54 (by decide) ?_
  refine g_goto 59 o dX12_isRain_55 (by decide) ?_
  exact kX12_isRain_59 f0 g5 i5 o v0 v1 v2 v4 1 h r hz q e
set_option maxRecDepth 100000 in
set_option maxHeartbeats 4000000 in
theorem kX12_isRain_58 {X : Cx} (f0 : Nat) (g5 : Nat → Int32 → Int32 → Int32 → Int32 → Hp → Option (Int32 × Hp)) (i5 : ∀ (v02 : Nat) (v12 : Int32) (v22 : Int32) (v32 : Int32) (v42 : Int32) (h2 : Hp) (r : Int32) (hz : Hp), Rt X (some (.int r)) hz 0 0 → g5 v02 v12 v22 v32 v42 h2 = some (r, hz) → G X 5 5 [(0, .ref v02), (1, .int v12), (2, .int v22), (3, .int v32), (4, .int v42)] [] h2 0 0) (o : Ok X cX12_isRain RX12 5 rmX12_isRain (some .boolean)) (v0 : Nat) (v1 : Int32) (v2 : Int32) (v4 : Int32) (h : Hp) (r : Int32) (hz : Hp) (q : Rt X (some (.int r)) hz 0 0) (e : bX12_isRain_58 f0 g5 v0 v1 v2 v4 h = some (r, hz)) : G X 5 58 [(0, .ref v0), (1, .int v1), (2, .int v2), (4, .int v4)] [] h 0 0 := by
  unfold bX12_isRain_58 at e
  refine g_iconst (v := 0) o dX12_isRain_58 (by decide) ?_
  exact kX12_isRain_59 f0 g5 i5 o v0 v1 v2 v4 0 h r hz q e
set_option maxRecDepth 100000 in
set_option maxHeartbeats 4000000 in
theorem kX12_isRain_5 {X : Cx} (f0 : Nat) (o : Ok X cX12_isRain RX12 5 rmX12_isRain (some .boolean)) (f : Nat) (v0 : Nat) (v1 : Int32) (v2 : Int32) (v3 : Int32) (v4 : Int32) (h : Hp) (r : Int32) (hz : Hp) (q : Rt X (some (.int r)) hz 0 0) (e : bX12_isRain_5 f0 f v0 v1 v2 v3 v4 h = some (r, hz)) : G X 5 5 [(0, .ref v0), (1, .int v1), (2, .int v2), (3, .int v3), (4, .int v4)] [] h 0 0 := by
  induction f generalizing v0 v1 v2 v3 v4 h r hz with
  | zero => cases e
  | succ f1 ih =>
    unfold bX12_isRain_5 at e
    refine g_iload 4 o dX12_isRain_5 rfl ?_
    refine g_aload_n 0 o dX12_isRain_7 rfl rfl ?_
    obtain ⟨x8, q8, e⟩ := ob e
    refine g_getN 6 o cf12 (by decide) mw_1192 dX12_isRain_8 q8 ?_
    refine g_bipush (v := 7) o dX12_isRain_11 (by decide) ?_
    obtain ⟨x13, q13, e⟩ := ob e
    refine g_iald o dX12_isRain_13 q13 ?_
    refine g_icmp_ge (x := v4) (y := x13) 66 o dX12_isRain_14 (by decide) (fun u => ?_) (fun u => ?_)
    · rw [if_pos u] at e
      refine g_iload_n 3 o dX12_isRain_66 rfl rfl ?_
      exact g_zret o dX12_isRain_67 (zr_s e).1 (rt_v q (zr_s e).2)
    · rw [if_neg u] at e
      refine g_iload_n 3 o dX12_isRain_17 rfl rfl ?_
      refine g_if_ne (x := v3) 54 o dX12_isRain_18 (by decide) (fun u => ?_) (fun u => ?_)
      · rw [if_neg u] at e
        refine g_sb [0, 1, 2, 4] rfl ?_
        exact kX12_isRain_54 f0 (bX12_isRain_5 f0 f1) ih o v0 v1 v2 v4 h r hz q e
      · rw [if_pos u] at e
        refine g_aload_n 0 o dX12_isRain_21 rfl rfl ?_
        obtain ⟨x22, q22, e⟩ := ob e
        refine g_getN 6 o cf12 (by decide) mw_1192 dX12_isRain_22 q22 ?_
        refine g_sipush (v := 280) o dX12_isRain_25 (by decide) ?_
        refine g_iload 4 o dX12_isRain_28 rfl ?_
        refine g_iadd (x := (280 : Int32)) (y := v4) o dX12_isRain_30 ?_
        obtain ⟨x31, q31, e⟩ := ob e
        refine g_iald o dX12_isRain_31 q31 ?_
        refine g_iload_n 1 o dX12_isRain_32 rfl rfl ?_
        refine g_icmp_ne (x := x31) (y := v1) 58 o dX12_isRain_33 (by decide) (fun u => ?_) (fun u => ?_)
        · rw [if_neg u] at e
          refine g_sb [0, 1, 2, 4] rfl ?_
          exact kX12_isRain_58 f0 (bX12_isRain_5 f0 f1) ih o v0 v1 v2 v4 h r hz q e
        · rw [if_pos u] at e
          refine g_aload_n 0 o dX12_isRain_36 rfl rfl ?_
          obtain ⟨x37, q37, e⟩ := ob e
          refine g_getN 6 o cf12 (by decide) mw_1192 dX12_isRain_37 q37 ?_
          refine g_sipush (v := 296) o dX12_isRain_40 (by decide) ?_
          refine g_iload 4 o dX12_isRain_43 rfl ?_
          refine g_iadd (x := (296 : Int32)) (y := v4) o dX12_isRain_45 ?_
          obtain ⟨x46, q46, e⟩ := ob e
          refine g_iald o dX12_isRain_46 q46 ?_
          refine g_iload_n 2 o dX12_isRain_47 rfl rfl ?_
          refine g_bipush (v := 100) o dX12_isRain_48 (by decide) ?_
          obtain ⟨_, z50, e⟩ := ob e
          refine g_irem (x := v2) (y := 100) o dX12_isRain_50 (nz_s z50) ?_
          refine g_icmp_ne (x := x46) (y := (v2 - v2 / 100 * 100)) 58 o dX12_isRain_51 (by decide) (fun u => ?_) (fun u => ?_)
          · rw [if_neg u] at e
            refine g_sb [0, 1, 2, 4] rfl ?_
            exact kX12_isRain_58 f0 (bX12_isRain_5 f0 f1) ih o v0 v1 v2 v4 h r hz q e
          · rw [if_pos u] at e
            refine g_sb [0, 1, 2, 4] rfl ?_
            exact kX12_isRain_54 f0 (bX12_isRain_5 f0 f1) ih o v0 v1 v2 v4 h r hz q e
theorem yo_X12_isRain : yok yX12_isRain 2 := ⟨by decide, by decide, by decide +kernel⟩
set_option maxRecDepth 100000 in
set_option maxHeartbeats 4000000 in
theorem mX12_isRain {l : Launch} {D : va_G} {cy : Nat → ClassId} {f0 : Nat} {a : Nat} {p0 : Int32} {p1 : Int32} {h : Hp} {r : Int32} {hz : Hp} (e : fX12_isRain f0 a p0 p1 h = some (r, hz)) : MC l D cy yX12_isRain cX12_isRain 5 (some .boolean) rmX12_isRain [.ref a, .int p0, .int p1] h (some (.int r)) hz := by
  refine mc_of2 (by decide) (Nat.le_of_ble_eq_true rfl) (fun X hl hD hy hin o q => ?_)
  subst hl; subst hD; subst hy
  show G X 5 0 [(0, .ref a), (1, .int p0), (2, .int p1)] [] h 0 0
  unfold fX12_isRain at e
  refine g_iconst (v := 0) o dX12_isRain_0 (by decide) ?_
  refine g_istore_n [(3, .int 0), (0, .ref a), (1, .int p0), (2, .int p1)] o dX12_isRain_1 rfl (by decide) rfl ?_
  refine g_iconst (v := 0) o dX12_isRain_2 (by decide) ?_
  refine g_istore [(4, .int 0), (3, .int 0), (0, .ref a), (1, .int p0), (2, .int p1)] o dX12_isRain_3 (by decide) rfl ?_
  refine g_sb [2, 3, 4, 1, 0] rfl ?_
  exact kX12_isRain_5 f0 o f0 a p0 p1 0 0 h r hz q e
set_option maxRecDepth 100000 in
set_option maxHeartbeats 4000000 in
theorem kX12_port_135 {X : Cx} (f0 : Nat) (g42 : Nat → Int32 → Int32 → Int32 → Int32 → Int32 → Int32 → Hp → Option (Int32 × Hp)) (i42 : ∀ (v02 : Nat) (v12 : Int32) (v22 : Int32) (v32 : Int32) (v42 : Int32) (v52 : Int32) (v62 : Int32) (h2 : Hp) (r : Int32) (hz : Hp), Rt X (some (.int r)) hz 0 0 → g42 v02 v12 v22 v32 v42 v52 v62 h2 = some (r, hz) → G X 7 42 [(0, .ref v02), (1, .int v12), (2, .int v22), (3, .int v32), (4, .int v42), (5, .int v52), (6, .int v62)] [] h2 0 0) (o : Ok X cX12_port RX12 7 rmX12_port (some .int)) (v0 : Nat) (v1 : Int32) (v2 : Int32) (v3 : Int32) (v4 : Int32) (v6 : Int32) (s0 : Int32) (s1 : Int32) (h : Hp) (r : Int32) (hz : Hp) (q : Rt X (some (.int r)) hz 0 0) (e : bX12_port_135 f0 g42 v0 v1 v2 v3 v4 v6 s0 s1 h = some (r, hz)) : G X 7 135 [(0, .ref v0), (1, .int v1), (2, .int v2), (3, .int v3), (4, .int v4), (6, .int v6)] [.int s1, .int s0] h 0 0 := by
  unfold bX12_port_135 at e
  refine g_ior (x := s0) (y := s1) o dX12_port_135 ?_
  refine g_istore [(5, .int (s0 ||| s1)), (0, .ref v0), (1, .int v1), (2, .int v2), (3, .int v3), (4, .int v4), (6, .int v6)] o dX12_port_136 (by decide) rfl ?_
  refine g_iinc (k := 6) (v := (v6 + 1)) [(6, .int (v6 + 1)), (5, .int (s0 ||| s1)), (0, .ref v0), (1, .int v1), (2, .int v2), (3, .int v3), (4, .int v4)] o dX12_port_138 rfl rfl (by decide) rfl ?_
  refine g_goto 42 o dX12_port_141 (by decide) ?_
  refine g_sb [2, 3, 4, 5, 6, 1, 0] rfl ?_
  exact i42 v0 v1 v2 v3 v4 (s0 ||| s1) (v6 + 1) h r hz q e
set_option maxRecDepth 100000 in
set_option maxHeartbeats 4000000 in
theorem kX12_port_105 {X : Cx} (f0 : Nat) (g42 : Nat → Int32 → Int32 → Int32 → Int32 → Int32 → Int32 → Hp → Option (Int32 × Hp)) (i42 : ∀ (v02 : Nat) (v12 : Int32) (v22 : Int32) (v32 : Int32) (v42 : Int32) (v52 : Int32) (v62 : Int32) (h2 : Hp) (r : Int32) (hz : Hp), Rt X (some (.int r)) hz 0 0 → g42 v02 v12 v22 v32 v42 v52 v62 h2 = some (r, hz) → G X 7 42 [(0, .ref v02), (1, .int v12), (2, .int v22), (3, .int v32), (4, .int v42), (5, .int v52), (6, .int v62)] [] h2 0 0) (o : Ok X cX12_port RX12 7 rmX12_port (some .int)) (v0 : Nat) (v1 : Int32) (v2 : Int32) (v3 : Int32) (v5 : Int32) (v6 : Int32) (s0 : Int32) (s1 : Int32) (h : Hp) (r : Int32) (hz : Hp) (q : Rt X (some (.int r)) hz 0 0) (e : bX12_port_105 f0 g42 v0 v1 v2 v3 v5 v6 s0 s1 h = some (r, hz)) : G X 7 105 [(0, .ref v0), (1, .int v1), (2, .int v2), (3, .int v3), (5, .int v5), (6, .int v6)] [.int s1, .int s0] h 0 0 := by
  unfold bX12_port_105 at e
  refine g_ior (x := s0) (y := s1) o dX12_port_105 ?_
  refine g_istore [(4, .int (s0 ||| s1)), (0, .ref v0), (1, .int v1), (2, .int v2), (3, .int v3), (5, .int v5), (6, .int v6)] o dX12_port_106 (by decide) rfl ?_
  refine g_iload 5 o dX12_port_108 rfl ?_
  refine g_aload_n 1 o dX12_port_110 rfl rfl ?_
  obtain ⟨x111, q111, e⟩ := ob e
  refine g_getN 6 o cf12 (by decide) mw_1192 dX12_port_111 q111 ?_
  refine g_bipush (v := 72) o dX12_port_114 (by decide) ?_
  refine g_iload 6 o dX12_port_116 rfl ?_
  refine g_iload_n 2 o dX12_port_118 rfl rfl ?_
  obtain ⟨x119, h119, q119, e⟩ := ob2_s e
  refine g_callSv [.int v6, .int v1] o (mX12_cell q119) mw_1180 mw_1181 mw_19 mw_1182 yo_X12_cell rfl rfl (Nat.le_of_ble_eq_true rfl) ⟨by decide, by decide⟩ ⟨rfl, rfl⟩ dX12_port_119 ⟨by decide, by decide⟩ ?_
  refine g_iadd (x := (72 : Int32)) (y := x119) o dX12_port_122 ?_
  obtain ⟨x123, q123, e⟩ := ob e
  refine g_iald o dX12_port_123 q123 ?_
  refine g_if_le (x := x123) 134 o dX12_port_124 (by decide) (fun u => ?_) (fun u => ?_)
  · rw [if_pos u] at e
    refine g_iconst (v := 0) o dX12_port_134 (by decide) ?_
    refine g_sb [1, 2, 3, 4, 0, 6] rfl ?_
    exact kX12_port_135 f0 g42 i42 o v0 v1 v2 v3 (s0 ||| s1) v6 v5 0 h119 r hz q e
  · rw [if_neg u] at e
    refine g_iconst (v := 1) o dX12_port_127 (by decide) ?_
    refine g_iload 6 o dX12_port_128 rfl ?_
    refine g_ishl (x := (1 : Int32)) (y := v6) o dX12_port_130 ?_
    refine g_goto 135 o dX12_port_131 (by decide) ?_
    refine g_sb [1, 2, 3, 4, 0, 6] rfl ?_
    exact kX12_port_135 f0 g42 i42 o v0 v1 v2 v3 (s0 ||| s1) v6 v5 ((1 : Int32) <<< (v6 &&& 31)) h119 r hz q e
set_option maxRecDepth 100000 in
set_option maxHeartbeats 4000000 in
theorem kX12_port_76 {X : Cx} (f0 : Nat) (g42 : Nat → Int32 → Int32 → Int32 → Int32 → Int32 → Int32 → Hp → Option (Int32 × Hp)) (i42 : ∀ (v02 : Nat) (v12 : Int32) (v22 : Int32) (v32 : Int32) (v42 : Int32) (v52 : Int32) (v62 : Int32) (h2 : Hp) (r : Int32) (hz : Hp), Rt X (some (.int r)) hz 0 0 → g42 v02 v12 v22 v32 v42 v52 v62 h2 = some (r, hz) → G X 7 42 [(0, .ref v02), (1, .int v12), (2, .int v22), (3, .int v32), (4, .int v42), (5, .int v52), (6, .int v62)] [] h2 0 0) (o : Ok X cX12_port RX12 7 rmX12_port (some .int)) (v0 : Nat) (v1 : Int32) (v2 : Int32) (v4 : Int32) (v5 : Int32) (v6 : Int32) (s0 : Int32) (s1 : Int32) (h : Hp) (r : Int32) (hz : Hp) (q : Rt X (some (.int r)) hz 0 0) (e : bX12_port_76 f0 g42 v0 v1 v2 v4 v5 v6 s0 s1 h = some (r, hz)) : G X 7 76 [(0, .ref v0), (1, .int v1), (2, .int v2), (4, .int v4), (5, .int v5), (6, .int v6)] [.int s1, .int s0] h 0 0 := by
  unfold bX12_port_76 at e
  refine g_ior (x := s0) (y := s1) o dX12_port_76 ?_
  refine g_istore_n [(3, .int (s0 ||| s1)), (0, .ref v0), (1, .int v1), (2, .int v2), (4, .int v4), (5, .int v5), (6, .int v6)] o dX12_port_77 rfl (by decide) rfl ?_
  refine g_iload 4 o dX12_port_78 rfl ?_
  refine g_aload_n 1 o dX12_port_80 rfl rfl ?_
  obtain ⟨x81, q81, e⟩ := ob e
  refine g_getN 6 o cf12 (by decide) mw_1192 dX12_port_81 q81 ?_
  refine g_bipush (v := 8) o dX12_port_84 (by decide) ?_
  refine g_iload_n 2 o dX12_port_86 rfl rfl ?_
  refine g_iload 6 o dX12_port_87 rfl ?_
  obtain ⟨x89, h89, q89, e⟩ := ob2_s e
  refine g_callSv [.int v1, .int v6] o (mX12_cell q89) mw_1180 mw_1181 mw_19 mw_1182 yo_X12_cell rfl rfl (Nat.le_of_ble_eq_true rfl) ⟨by decide, by decide⟩ ⟨rfl, rfl⟩ dX12_port_89 ⟨by decide, by decide⟩ ?_
  refine g_iadd (x := (8 : Int32)) (y := x89) o dX12_port_92 ?_
  obtain ⟨x93, q93, e⟩ := ob e
  refine g_iald o dX12_port_93 q93 ?_
  refine g_if_le (x := x93) 104 o dX12_port_94 (by decide) (fun u => ?_) (fun u => ?_)
  · rw [if_pos u] at e
    refine g_iconst (v := 0) o dX12_port_104 (by decide) ?_
    refine g_sb [1, 2, 3, 0, 5, 6] rfl ?_
    exact kX12_port_105 f0 g42 i42 o v0 v1 v2 (s0 ||| s1) v5 v6 v4 0 h89 r hz q e
  · rw [if_neg u] at e
    refine g_iconst (v := 1) o dX12_port_97 (by decide) ?_
    refine g_iload 6 o dX12_port_98 rfl ?_
    refine g_ishl (x := (1 : Int32)) (y := v6) o dX12_port_100 ?_
    refine g_goto 105 o dX12_port_101 (by decide) ?_
    refine g_sb [1, 2, 3, 0, 5, 6] rfl ?_
    exact kX12_port_105 f0 g42 i42 o v0 v1 v2 (s0 ||| s1) v5 v6 v4 ((1 : Int32) <<< (v6 &&& 31)) h89 r hz q e
set_option maxRecDepth 100000 in
set_option maxHeartbeats 4000000 in
theorem kX12_port_42 {X : Cx} (f0 : Nat) (o : Ok X cX12_port RX12 7 rmX12_port (some .int)) (f : Nat) (v0 : Nat) (v1 : Int32) (v2 : Int32) (v3 : Int32) (v4 : Int32) (v5 : Int32) (v6 : Int32) (h : Hp) (r : Int32) (hz : Hp) (q : Rt X (some (.int r)) hz 0 0) (e : bX12_port_42 f0 f v0 v1 v2 v3 v4 v5 v6 h = some (r, hz)) : G X 7 42 [(0, .ref v0), (1, .int v1), (2, .int v2), (3, .int v3), (4, .int v4), (5, .int v5), (6, .int v6)] [] h 0 0 := by
  induction f generalizing v0 v1 v2 v3 v4 v5 v6 h r hz with
  | zero => cases e
  | succ f1 ih =>
    unfold bX12_port_42 at e
    refine g_iload 6 o dX12_port_42 rfl ?_
    refine g_bipush (v := 8) o dX12_port_44 (by decide) ?_
    refine g_icmp_ge (x := v6) (y := 8) 144 o dX12_port_46 (by decide) (fun u => ?_) (fun u => ?_)
    · rw [if_pos u] at e
      refine g_iload_n 2 o dX12_port_144 rfl rfl ?_
      by_cases u0 : v2 = 0
      · rw [if_pos u0] at e
        refine g_tabAt (x := v2) 0 180 o dX12_port_145 u0 (by decide) (by decide) (by decide) (by decide) ?_
        refine g_aload_n 0 o dX12_port_180 rfl rfl ?_
        refine g_iload_n 1 o dX12_port_181 rfl rfl ?_
        refine g_aload_n 0 o dX12_port_182 rfl rfl ?_
        obtain ⟨x183, q183, e⟩ := ob e
        refine g_getN 6 o cf12 (by decide) mw_1192 dX12_port_183 q183 ?_
        refine g_sipush (v := 312) o dX12_port_186 (by decide) ?_
        obtain ⟨x189, q189, e⟩ := ob e
        refine g_iald o dX12_port_189 q189 ?_
        obtain ⟨_, k190, e⟩ := ob e
        obtain ⟨x190, h190, q190, e⟩ := ob2_s e
        refine g_callVv [.int v1, .int x189] o (mX12_knownAt q190) cf12 (ckO_s k190) mw_1375 mw_1376 mw_1749 mw_19 mw_1377 rfl yo_X12_knownAt rfl rfl (Nat.le_of_ble_eq_true rfl) ⟨by decide, by decide⟩ ⟨rfl, rfl⟩ dX12_port_190 ⟨by decide, by decide⟩ ?_
        exact g_iret o dX12_port_193 (rt_v q e)
      rw [if_neg u0] at e
      by_cases u1 : v2 = 1
      · rw [if_pos u1] at e
        refine g_tabAt (x := v2) 1 194 o dX12_port_145 u1 (by decide) (by decide) (by decide) (by decide) ?_
        refine g_iload_n 3 o dX12_port_194 rfl rfl ?_
        exact g_iret o dX12_port_195 (rt_v q e)
      rw [if_neg u1] at e
      by_cases u2 : v2 = 2
      · rw [if_pos u2] at e
        refine g_tabAt (x := v2) 2 196 o dX12_port_145 u2 (by decide) (by decide) (by decide) (by decide) ?_
        refine g_aload_n 0 o dX12_port_196 rfl rfl ?_
        obtain ⟨x197, q197, e⟩ := ob e
        refine g_getN 6 o cf12 (by decide) mw_1192 dX12_port_197 q197 ?_
        refine g_sipush (v := 320) o dX12_port_200 (by decide) ?_
        refine g_iload_n 1 o dX12_port_203 rfl rfl ?_
        refine g_iadd (x := (320 : Int32)) (y := v1) o dX12_port_204 ?_
        obtain ⟨x205, q205, e⟩ := ob e
        refine g_iald o dX12_port_205 q205 ?_
        exact g_iret o dX12_port_206 (rt_v q e)
      rw [if_neg u2] at e
      by_cases u3 : v2 = 3
      · rw [if_pos u3] at e
        refine g_tabAt (x := v2) 3 207 o dX12_port_145 u3 (by decide) (by decide) (by decide) (by decide) ?_
        refine g_aload_n 0 o dX12_port_207 rfl rfl ?_
        refine g_iload_n 1 o dX12_port_208 rfl rfl ?_
        refine g_aload_n 0 o dX12_port_209 rfl rfl ?_
        obtain ⟨x210, q210, e⟩ := ob e
        refine g_getN 6 o cf12 (by decide) mw_1192 dX12_port_210 q210 ?_
        refine g_sipush (v := 312) o dX12_port_213 (by decide) ?_
        obtain ⟨x216, q216, e⟩ := ob e
        refine g_iald o dX12_port_216 q216 ?_
        obtain ⟨_, k217, e⟩ := ob e
        obtain ⟨x217, h217, q217, e⟩ := ob2_s e
        refine g_callVv [.int v1, .int x216] o (mX12_isRain q217) cf12 (ckO_s k217) mw_1381 mw_1382 mw_1751 mw_19 mw_1383 rfl yo_X12_isRain rfl rfl (Nat.le_of_ble_eq_true rfl) ⟨by decide, by decide⟩ ⟨rfl, rfl⟩ dX12_port_217 ⟨by decide, by decide⟩ ?_
        refine g_if_eq (x := x217) 227 o dX12_port_220 (by decide) (fun u => ?_) (fun u => ?_)
        · rw [if_pos u] at e
          refine g_iconst (v := 0) o dX12_port_227 (by decide) ?_
          exact g_iret o dX12_port_228 (rt_v q e)
        · rw [if_neg u] at e
          refine g_iconst (v := 1) o dX12_port_223 (by decide) ?_
          refine g_goto 228 o dX12_port_224 (by decide) ?_
          exact g_iret o dX12_port_228 (rt_v q e)
      rw [if_neg u3] at e
      by_cases u4 : v2 = 4
      · rw [if_pos u4] at e
        refine g_tabAt (x := v2) 4 229 o dX12_port_145 u4 (by decide) (by decide) (by decide) (by decide) ?_
        refine g_iload 4 o dX12_port_229 rfl ?_
        exact g_iret o dX12_port_231 (rt_v q e)
      rw [if_neg u4] at e
      refine g_tabOut (x := v2) 232 o dX12_port_145 (by have n0 := tb_ne 0 0 (by decide) u0; have n1 := tb_ne 1 1 (by decide) u1; have n2 := tb_ne 2 2 (by decide) u2; have n3 := tb_ne 3 3 (by decide) u3; have n4 := tb_ne 4 4 (by decide) u4; omega) (by decide) ?_
      refine g_iload 5 o dX12_port_232 rfl ?_
      exact g_iret o dX12_port_234 (rt_v q e)
    · rw [if_neg u] at e
      refine g_iload_n 3 o dX12_port_49 rfl rfl ?_
      refine g_aload_n 0 o dX12_port_50 rfl rfl ?_
      obtain ⟨x51, q51, e⟩ := ob e
      refine g_getN 6 o cf12 (by decide) mw_1192 dX12_port_51 q51 ?_
      refine g_sipush (v := 136) o dX12_port_54 (by decide) ?_
      refine g_iload 6 o dX12_port_57 rfl ?_
      refine g_iload_n 1 o dX12_port_59 rfl rfl ?_
      obtain ⟨x60, h60, q60, e⟩ := ob2_s e
      refine g_callSv [.int v6, .int v1] o (mX12_cell q60) mw_1180 mw_1181 mw_19 mw_1182 yo_X12_cell rfl rfl (Nat.le_of_ble_eq_true rfl) ⟨by decide, by decide⟩ ⟨rfl, rfl⟩ dX12_port_60 ⟨by decide, by decide⟩ ?_
      refine g_iadd (x := (136 : Int32)) (y := x60) o dX12_port_63 ?_
      obtain ⟨x64, q64, e⟩ := ob e
      refine g_iald o dX12_port_64 q64 ?_
      refine g_if_le (x := x64) 75 o dX12_port_65 (by decide) (fun u => ?_) (fun u => ?_)
      · rw [if_pos u] at e
        refine g_iconst (v := 0) o dX12_port_75 (by decide) ?_
        refine g_sb [0, 1, 2, 4, 5, 6] rfl ?_
        exact kX12_port_76 f0 (bX12_port_42 f0 f1) ih o v0 v1 v2 v4 v5 v6 v3 0 h60 r hz q e
      · rw [if_neg u] at e
        refine g_iconst (v := 1) o dX12_port_68 (by decide) ?_
        refine g_iload 6 o dX12_port_69 rfl ?_
        refine g_ishl (x := (1 : Int32)) (y := v6) o dX12_port_71 ?_
        refine g_goto 76 o dX12_port_72 (by decide) ?_
        refine g_sb [0, 1, 2, 4, 5, 6] rfl ?_
        exact kX12_port_76 f0 (bX12_port_42 f0 f1) ih o v0 v1 v2 v4 v5 v6 v3 ((1 : Int32) <<< (v6 &&& 31)) h60 r hz q e
set_option maxRecDepth 100000 in
set_option maxHeartbeats 4000000 in
theorem kX12_port_23 {X : Cx} (f0 : Nat) (o : Ok X cX12_port RX12 7 rmX12_port (some .int)) (v0 : Nat) (v1 : Int32) (v2 : Int32) (s0 : Nat) (s1 : Int32) (h : Hp) (r : Int32) (hz : Hp) (q : Rt X (some (.int r)) hz 0 0) (e : bX12_port_23 f0 v0 v1 v2 s0 s1 h = some (r, hz)) : G X 7 23 [(0, .ref v0), (1, .int v1), (2, .int v2)] [.int s1, .ref s0] h 0 0 := by
  unfold bX12_port_23 at e
  obtain ⟨_, k23, e⟩ := ob e
  obtain ⟨x23, h23, q23, e⟩ := ob2_s e
  refine g_callVv [.int s1] o (mX12_throwsIf q23) cf12 (ckO_s k23) mw_1372 mw_1373 mw_1748 mw_19 mw_1374 rfl yo_X12_throwsIf rfl rfl (Nat.le_of_ble_eq_true rfl) ⟨by decide, by decide⟩ ⟨rfl, rfl⟩ dX12_port_23 ⟨by decide, by decide⟩ ?_
  refine g_if_eq (x := x23) 31 o dX12_port_26 (by decide) (fun u => ?_) (fun u => ?_)
  · rw [if_pos u] at e
    refine g_iconst (v := 0) o dX12_port_31 (by decide) ?_
    refine g_istore_n [(3, .int 0), (0, .ref v0), (1, .int v1), (2, .int v2)] o dX12_port_32 rfl (by decide) rfl ?_
    refine g_iconst (v := 0) o dX12_port_33 (by decide) ?_
    refine g_istore [(4, .int 0), (3, .int 0), (0, .ref v0), (1, .int v1), (2, .int v2)] o dX12_port_34 (by decide) rfl ?_
    refine g_iconst (v := 0) o dX12_port_36 (by decide) ?_
    refine g_istore [(5, .int 0), (4, .int 0), (3, .int 0), (0, .ref v0), (1, .int v1), (2, .int v2)] o dX12_port_37 (by decide) rfl ?_
    refine g_iconst (v := 0) o dX12_port_39 (by decide) ?_
    refine g_istore [(6, .int 0), (5, .int 0), (4, .int 0), (3, .int 0), (0, .ref v0), (1, .int v1), (2, .int v2)] o dX12_port_40 (by decide) rfl ?_
    refine g_sb [4, 5, 6, 3, 2, 1, 0] rfl ?_
    exact kX12_port_42 f0 o f0 v0 v1 v2 0 0 0 0 h23 r hz q e
  · rw [if_neg u] at e
    refine g_iconst (v := 0) o dX12_port_29 (by decide) ?_
    exact g_iret o dX12_port_30 (rt_v q e)
set_option maxRecDepth 100000 in
set_option maxHeartbeats 4000000 in
theorem kX12_port_18 {X : Cx} (f0 : Nat) (o : Ok X cX12_port RX12 7 rmX12_port (some .int)) (v0 : Nat) (v1 : Int32) (v2 : Int32) (s0 : Nat) (h : Hp) (r : Int32) (hz : Hp) (q : Rt X (some (.int r)) hz 0 0) (e : bX12_port_18 f0 v0 v1 v2 s0 h = some (r, hz)) : G X 7 18 [(0, .ref v0), (1, .int v1), (2, .int v2)] [.ref s0] h 0 0 := by
  unfold bX12_port_18 at e
  refine g_iconst (v := 1) o dX12_port_18 (by decide) ?_
  refine g_goto 23 o dX12_port_19 (by decide) ?_
  exact kX12_port_23 f0 o v0 v1 v2 s0 1 h r hz q e
theorem yo_X12_port : yok yX12_port 2 := ⟨by decide, by decide, by decide +kernel⟩
set_option maxRecDepth 100000 in
set_option maxHeartbeats 4000000 in
theorem mX12_port {l : Launch} {D : va_G} {cy : Nat → ClassId} {f0 : Nat} {a : Nat} {p0 : Int32} {p1 : Int32} {h : Hp} {r : Int32} {hz : Hp} (e : fX12_port f0 a p0 p1 h = some (r, hz)) : MC l D cy yX12_port cX12_port 7 (some .int) rmX12_port [.ref a, .int p0, .int p1] h (some (.int r)) hz := by
  refine mc_of2 (by decide) (Nat.le_of_ble_eq_true rfl) (fun X hl hD hy hin o q => ?_)
  subst hl; subst hD; subst hy
  show G X 7 0 [(0, .ref a), (1, .int p0), (2, .int p1)] [] h 0 0
  unfold fX12_port at e
  refine g_aload_n 0 o dX12_port_0 rfl rfl ?_
  refine g_aload_n 0 o dX12_port_1 rfl rfl ?_
  refine g_iload_n 1 o dX12_port_2 rfl rfl ?_
  obtain ⟨_, k3, e⟩ := ob e
  obtain ⟨x3, h3, q3, e⟩ := ob2_s e
  refine g_callVv [.int p0] o (mX12_isPort q3) cf12 (ckO_s k3) mw_1369 mw_1370 mw_1747 mw_19 mw_1371 rfl yo_X12_isPort rfl rfl (Nat.le_of_ble_eq_true rfl) ⟨by decide, by decide⟩ ⟨rfl, rfl⟩ dX12_port_3 ⟨by decide, by decide⟩ ?_
  refine g_if_eq (x := x3) 18 o dX12_port_6 (by decide) (fun u => ?_) (fun u => ?_)
  · rw [if_pos u] at e
    exact kX12_port_18 f0 o a p0 p1 a h3 r hz q e
  · rw [if_neg u] at e
    refine g_iload_n 2 o dX12_port_9 rfl rfl ?_
    refine g_iconst (v := 0) o dX12_port_10 (by decide) ?_
    refine g_iconst (v := 5) o dX12_port_11 (by decide) ?_
    obtain ⟨x12, h12, q12, e⟩ := ob2_s e
    refine g_callSv [.int p1, .int 0, .int 5] o (mX12_isIn q12) mw_1337 mw_1338 mw_19 mw_1339 yo_X12_isIn rfl rfl (Nat.le_of_ble_eq_true rfl) ⟨by decide, by decide⟩ ⟨rfl, rfl⟩ dX12_port_12 ⟨by decide, by decide⟩ ?_
    refine g_if_ne (x := x12) 22 o dX12_port_15 (by decide) (fun u => ?_) (fun u => ?_)
    · rw [if_neg u] at e
      refine g_iconst (v := 0) o dX12_port_22 (by decide) ?_
      exact kX12_port_23 f0 o a p0 p1 a 0 h12 r hz q e
    · rw [if_pos u] at e
      exact kX12_port_18 f0 o a p0 p1 a h12 r hz q e
theorem yo_X12_told : yok yX12_told 3 := ⟨by decide, by decide, by decide +kernel⟩
set_option maxRecDepth 100000 in
set_option maxHeartbeats 4000000 in
theorem mX12_told {l : Launch} {D : va_G} {cy : Nat → ClassId} {f0 : Nat} {a : Nat} {p0 : Int32} {p1 : Int32} {p2 : Int32} {h : Hp} {r : Int32} {hz : Hp} (e : fX12_told f0 a p0 p1 p2 h = some (r, hz)) : MC l D cy yX12_told cX12_told 4 (some .int) rmX12_told [.ref a, .int p0, .int p1, .int p2] h (some (.int r)) hz := by
  refine mc_of2 (by decide) (Nat.le_of_ble_eq_true rfl) (fun X hl hD hy hin o q => ?_)
  subst hl; subst hD; subst hy
  show G X 4 0 [(0, .ref a), (1, .int p0), (2, .int p1), (3, .int p2)] [] h 0 0
  unfold fX12_told at e
  refine g_aload_n 0 o dX12_told_0 rfl rfl ?_
  refine g_iload_n 2 o dX12_told_1 rfl rfl ?_
  obtain ⟨_, k2, e⟩ := ob e
  obtain ⟨x2, h2, q2, e⟩ := ob2_s e
  refine g_callVv [.int p1] o (mX12_isPort q2) cf12 (ckO_s k2) mw_1369 mw_1370 mw_1747 mw_19 mw_1371 rfl yo_X12_isPort rfl rfl (Nat.le_of_ble_eq_true rfl) ⟨by decide, by decide⟩ ⟨rfl, rfl⟩ dX12_told_2 ⟨by decide, by decide⟩ ?_
  refine g_if_eq (x := x2) 16 o dX12_told_5 (by decide) (fun u => ?_) (fun u => ?_)
  · rw [if_pos u] at e
    refine g_iconst (v := -1) o dX12_told_16 (by decide) ?_
    exact g_iret o dX12_told_17 (rt_v q e)
  · rw [if_neg u] at e
    refine g_aload_n 0 o dX12_told_8 rfl rfl ?_
    refine g_iload_n 3 o dX12_told_9 rfl rfl ?_
    obtain ⟨_, k10, e⟩ := ob e
    obtain ⟨x10, h10, q10, e⟩ := ob2_s e
    refine g_callVv [.int p2] o (mX12_isPort q10) cf12 (ckO_s k10) mw_1369 mw_1370 mw_1747 mw_19 mw_1371 rfl yo_X12_isPort rfl rfl (Nat.le_of_ble_eq_true rfl) ⟨by decide, by decide⟩ ⟨rfl, rfl⟩ dX12_told_10 ⟨by decide, by decide⟩ ?_
    refine g_if_ne (x := x10) 18 o dX12_told_13 (by decide) (fun u => ?_) (fun u => ?_)
    · rw [if_neg u] at e
      refine g_aload_n 0 o dX12_told_18 rfl rfl ?_
      obtain ⟨x19, q19, e⟩ := ob e
      refine g_getN 6 o cf12 (by decide) mw_1192 dX12_told_19 q19 ?_
      refine g_iload_n 1 o dX12_told_22 rfl rfl ?_
      refine g_iload_n 2 o dX12_told_23 rfl rfl ?_
      refine g_iload_n 3 o dX12_told_24 rfl rfl ?_
      obtain ⟨x25, h25, q25, e⟩ := ob2_s e
      refine g_callSv [.int p1, .int p2] o (mX12_cell q25) mw_1180 mw_1181 mw_19 mw_1182 yo_X12_cell rfl rfl (Nat.le_of_ble_eq_true rfl) ⟨by decide, by decide⟩ ⟨rfl, rfl⟩ dX12_told_25 ⟨by decide, by decide⟩ ?_
      refine g_iadd (x := p0) (y := x25) o dX12_told_28 ?_
      obtain ⟨x29, q29, e⟩ := ob e
      refine g_iald o dX12_told_29 q29 ?_
      refine g_if_le (x := x29) 48 o dX12_told_30 (by decide) (fun u => ?_) (fun u => ?_)
      · rw [if_pos u] at e
        refine g_iconst (v := -1) o dX12_told_48 (by decide) ?_
        exact g_iret o dX12_told_49 (rt_v q e)
      · rw [if_neg u] at e
        refine g_aload_n 0 o dX12_told_33 rfl rfl ?_
        obtain ⟨x34, q34, e⟩ := ob e
        refine g_getN 6 o cf12 (by decide) mw_1192 dX12_told_34 q34 ?_
        refine g_iload_n 1 o dX12_told_37 rfl rfl ?_
        refine g_iload_n 2 o dX12_told_38 rfl rfl ?_
        refine g_iload_n 3 o dX12_told_39 rfl rfl ?_
        obtain ⟨x40, h40, q40, e⟩ := ob2_s e
        refine g_callSv [.int p1, .int p2] o (mX12_cell q40) mw_1180 mw_1181 mw_19 mw_1182 yo_X12_cell rfl rfl (Nat.le_of_ble_eq_true rfl) ⟨by decide, by decide⟩ ⟨rfl, rfl⟩ dX12_told_40 ⟨by decide, by decide⟩ ?_
        refine g_iadd (x := p0) (y := x40) o dX12_told_43 ?_
        obtain ⟨x44, q44, e⟩ := ob e
        refine g_iald o dX12_told_44 q44 ?_
        refine g_goto 49 o dX12_told_45 (by decide) ?_
        exact g_iret o dX12_told_49 (rt_v q e)
    · rw [if_pos u] at e
      refine g_iconst (v := -1) o dX12_told_16 (by decide) ?_
      exact g_iret o dX12_told_17 (rt_v q e)
theorem yo_X12_way : yok yX12_way 2 := ⟨by decide, by decide, by decide +kernel⟩
set_option maxRecDepth 100000 in
set_option maxHeartbeats 4000000 in
theorem mX12_way {l : Launch} {D : va_G} {cy : Nat → ClassId} {f0 : Nat} {a : Nat} {p0 : Int32} {p1 : Int32} {h : Hp} {r : Int32} {hz : Hp} (e : fX12_way f0 a p0 p1 h = some (r, hz)) : MC l D cy yX12_way cX12_way 3 (some .int) rmX12_way [.ref a, .int p0, .int p1] h (some (.int r)) hz := by
  refine mc_of2 (by decide) (Nat.le_of_ble_eq_true rfl) (fun X hl hD hy hin o q => ?_)
  subst hl; subst hD; subst hy
  show G X 3 0 [(0, .ref a), (1, .int p0), (2, .int p1)] [] h 0 0
  unfold fX12_way at e
  refine g_aload_n 0 o dX12_way_0 rfl rfl ?_
  refine g_iconst (v := 0) o dX12_way_1 (by decide) ?_
  obtain ⟨h2, q2, e⟩ := ob e
  refine g_put (ty1 := .int) 0 o cf12 (by decide) mw_1186 rfl (by decide +kernel) rfl rfl dX12_way_2 q2 ?_
  refine g_aload_n 0 o dX12_way_5 rfl rfl ?_
  refine g_bipush (v := 8) o dX12_way_6 (by decide) ?_
  refine g_iload_n 1 o dX12_way_8 rfl rfl ?_
  refine g_iload_n 2 o dX12_way_9 rfl rfl ?_
  obtain ⟨_, k10, e⟩ := ob e
  obtain ⟨x10, h10, q10, e⟩ := ob2_s e
  refine g_callVv [.int 8, .int p0, .int p1] o (mX12_told q10) cf12 (ckO_s k10) mw_1388 mw_1389 mw_1752 mw_19 mw_1390 rfl yo_X12_told rfl rfl (Nat.le_of_ble_eq_true rfl) ⟨by decide, by decide⟩ ⟨rfl, rfl⟩ dX12_way_10 ⟨by decide, by decide⟩ ?_
  exact g_iret o dX12_way_13 (rt_v q e)
theorem yo_X12_mail : yok yX12_mail 2 := ⟨by decide, by decide, by decide +kernel⟩
set_option maxRecDepth 100000 in
set_option maxHeartbeats 4000000 in
theorem mX12_mail {l : Launch} {D : va_G} {cy : Nat → ClassId} {f0 : Nat} {a : Nat} {p0 : Int32} {p1 : Int32} {h : Hp} {r : Int32} {hz : Hp} (e : fX12_mail f0 a p0 p1 h = some (r, hz)) : MC l D cy yX12_mail cX12_mail 3 (some .int) rmX12_mail [.ref a, .int p0, .int p1] h (some (.int r)) hz := by
  refine mc_of2 (by decide) (Nat.le_of_ble_eq_true rfl) (fun X hl hD hy hin o q => ?_)
  subst hl; subst hD; subst hy
  show G X 3 0 [(0, .ref a), (1, .int p0), (2, .int p1)] [] h 0 0
  unfold fX12_mail at e
  refine g_aload_n 0 o dX12_mail_0 rfl rfl ?_
  refine g_iconst (v := 0) o dX12_mail_1 (by decide) ?_
  obtain ⟨h2, q2, e⟩ := ob e
  refine g_put (ty1 := .int) 0 o cf12 (by decide) mw_1186 rfl (by decide +kernel) rfl rfl dX12_mail_2 q2 ?_
  refine g_aload_n 0 o dX12_mail_5 rfl rfl ?_
  refine g_bipush (v := 72) o dX12_mail_6 (by decide) ?_
  refine g_iload_n 1 o dX12_mail_8 rfl rfl ?_
  refine g_iload_n 2 o dX12_mail_9 rfl rfl ?_
  obtain ⟨_, k10, e⟩ := ob e
  obtain ⟨x10, h10, q10, e⟩ := ob2_s e
  refine g_callVv [.int 72, .int p0, .int p1] o (mX12_told q10) cf12 (ckO_s k10) mw_1388 mw_1389 mw_1752 mw_19 mw_1390 rfl yo_X12_told rfl rfl (Nat.le_of_ble_eq_true rfl) ⟨by decide, by decide⟩ ⟨rfl, rfl⟩ dX12_mail_10 ⟨by decide, by decide⟩ ?_
  exact g_iret o dX12_mail_13 (rt_v q e)
theorem yo_X12_isShip : yok yX12_isShip 1 := ⟨by decide, by decide, by decide +kernel⟩
set_option maxRecDepth 100000 in
set_option maxHeartbeats 4000000 in
theorem mX12_isShip {l : Launch} {D : va_G} {cy : Nat → ClassId} {f0 : Nat} {a : Nat} {p0 : Int32} {h : Hp} {r : Int32} {hz : Hp} (e : fX12_isShip f0 a p0 h = some (r, hz)) : MC l D cy yX12_isShip cX12_isShip 2 (some .boolean) rmX12_isShip [.ref a, .int p0] h (some (.int r)) hz := by
  refine mc_of2 (by decide) (Nat.le_of_ble_eq_true rfl) (fun X hl hD hy hin o q => ?_)
  subst hl; subst hD; subst hy
  show G X 2 0 [(0, .ref a), (1, .int p0)] [] h 0 0
  unfold fX12_isShip at e
  refine g_iload_n 1 o dX12_isShip_0 rfl rfl ?_
  refine g_iconst (v := 0) o dX12_isShip_1 (by decide) ?_
  refine g_aload_n 0 o dX12_isShip_2 rfl rfl ?_
  obtain ⟨x3, q3, e⟩ := ob e
  refine g_getN 6 o cf12 (by decide) mw_1192 dX12_isShip_3 q3 ?_
  refine g_iconst (v := 1) o dX12_isShip_6 (by decide) ?_
  obtain ⟨x7, q7, e⟩ := ob e
  refine g_iald o dX12_isShip_7 q7 ?_
  refine g_iconst (v := 1) o dX12_isShip_8 (by decide) ?_
  refine g_isub (x := x7) (y := 1) o dX12_isShip_9 ?_
  obtain ⟨x10, h10, q10, e⟩ := ob2_s e
  refine g_callSv [.int p0, .int 0, .int (x7 - 1)] o (mX12_isIn q10) mw_1337 mw_1338 mw_19 mw_1339 yo_X12_isIn rfl rfl (Nat.le_of_ble_eq_true rfl) ⟨by decide, by decide⟩ ⟨rfl, rfl⟩ dX12_isShip_10 ⟨by decide, by decide⟩ ?_
  exact g_zret o dX12_isShip_13 (zr_s e).1 (rt_v q (zr_s e).2)
theorem yo_X12_owed : yok yX12_owed 2 := ⟨by decide, by decide, by decide +kernel⟩
set_option maxRecDepth 100000 in
set_option maxHeartbeats 4000000 in
theorem mX12_owed {l : Launch} {D : va_G} {cy : Nat → ClassId} {f0 : Nat} {a : Nat} {p0 : Int32} {p1 : Int32} {h : Hp} {r : Int32} {hz : Hp} (e : fX12_owed f0 a p0 p1 h = some (r, hz)) : MC l D cy yX12_owed cX12_owed 3 (some .int) rmX12_owed [.ref a, .int p0, .int p1] h (some (.int r)) hz := by
  refine mc_of2 (by decide) (Nat.le_of_ble_eq_true rfl) (fun X hl hD hy hin o q => ?_)
  subst hl; subst hD; subst hy
  show G X 3 0 [(0, .ref a), (1, .int p0), (2, .int p1)] [] h 0 0
  unfold fX12_owed at e
  refine g_aload_n 0 o dX12_owed_0 rfl rfl ?_
  obtain ⟨x1, q1, e⟩ := ob e
  refine g_getN 6 o cf12 (by decide) mw_1192 dX12_owed_1 q1 ?_
  refine g_sipush (v := 400) o dX12_owed_4 (by decide) ?_
  refine g_iload_n 1 o dX12_owed_7 rfl rfl ?_
  refine g_iload_n 2 o dX12_owed_8 rfl rfl ?_
  obtain ⟨x9, h9, q9, e⟩ := ob2_s e
  refine g_callSv [.int p0, .int p1] o (mX12_cell q9) mw_1180 mw_1181 mw_19 mw_1182 yo_X12_cell rfl rfl (Nat.le_of_ble_eq_true rfl) ⟨by decide, by decide⟩ ⟨rfl, rfl⟩ dX12_owed_9 ⟨by decide, by decide⟩ ?_
  refine g_iadd (x := (400 : Int32)) (y := x9) o dX12_owed_12 ?_
  obtain ⟨x13, q13, e⟩ := ob e
  refine g_iald o dX12_owed_13 q13 ?_
  refine g_iconst (v := 1) o dX12_owed_14 (by decide) ?_
  refine g_icmp_ne (x := x13) (y := 1) 22 o dX12_owed_15 (by decide) (fun u => ?_) (fun u => ?_)
  · rw [if_neg u] at e
    refine g_aload_n 0 o dX12_owed_22 rfl rfl ?_
    obtain ⟨x23, q23, e⟩ := ob e
    refine g_getN 6 o cf12 (by decide) mw_1192 dX12_owed_23 q23 ?_
    refine g_sipush (v := 200) o dX12_owed_26 (by decide) ?_
    refine g_iload_n 1 o dX12_owed_29 rfl rfl ?_
    refine g_iload_n 2 o dX12_owed_30 rfl rfl ?_
    obtain ⟨x31, h31, q31, e⟩ := ob2_s e
    refine g_callSv [.int p0, .int p1] o (mX12_cell q31) mw_1180 mw_1181 mw_19 mw_1182 yo_X12_cell rfl rfl (Nat.le_of_ble_eq_true rfl) ⟨by decide, by decide⟩ ⟨rfl, rfl⟩ dX12_owed_31 ⟨by decide, by decide⟩ ?_
    refine g_iadd (x := (200 : Int32)) (y := x31) o dX12_owed_34 ?_
    obtain ⟨x35, q35, e⟩ := ob e
    refine g_iald o dX12_owed_35 q35 ?_
    exact g_iret o dX12_owed_36 (rt_v q e)
  · rw [if_pos u] at e
    refine g_iconst (v := 0) o dX12_owed_18 (by decide) ?_
    refine g_goto 36 o dX12_owed_19 (by decide) ?_
    exact g_iret o dX12_owed_36 (rt_v q e)
theorem yo_X12_price : yok yX12_price 3 := ⟨by decide, by decide, by decide +kernel⟩
set_option maxRecDepth 100000 in
set_option maxHeartbeats 4000000 in
theorem mX12_price {l : Launch} {D : va_G} {cy : Nat → ClassId} {f0 : Nat} {a : Nat} {p0 : Int32} {p1 : Int32} {p2 : Int32} {h : Hp} {r : Int32} {hz : Hp} (e : fX12_price f0 a p0 p1 p2 h = some (r, hz)) : MC l D cy yX12_price cX12_price 4 (some .int) rmX12_price [.ref a, .int p0, .int p1, .int p2] h (some (.int r)) hz := by
  refine mc_of2 (by decide) (Nat.le_of_ble_eq_true rfl) (fun X hl hD hy hin o q => ?_)
  subst hl; subst hD; subst hy
  show G X 4 0 [(0, .ref a), (1, .int p0), (2, .int p1), (3, .int p2)] [] h 0 0
  unfold fX12_price at e
  refine g_aload_n 0 o dX12_price_0 rfl rfl ?_
  refine g_iconst (v := 0) o dX12_price_1 (by decide) ?_
  obtain ⟨h2, q2, e⟩ := ob e
  refine g_put (ty1 := .int) 0 o cf12 (by decide) mw_1186 rfl (by decide +kernel) rfl rfl dX12_price_2 q2 ?_
  refine g_aload_n 0 o dX12_price_5 rfl rfl ?_
  refine g_iload_n 1 o dX12_price_6 rfl rfl ?_
  obtain ⟨_, k7, e⟩ := ob e
  obtain ⟨x7, h7, q7, e⟩ := ob2_s e
  refine g_callVv [.int p0] o (mX12_isShip q7) cf12 (ckO_s k7) mw_1399 mw_1400 mw_1753 mw_19 mw_1401 rfl yo_X12_isShip rfl rfl (Nat.le_of_ble_eq_true rfl) ⟨by decide, by decide⟩ ⟨rfl, rfl⟩ dX12_price_7 ⟨by decide, by decide⟩ ?_
  refine g_if_eq (x := x7) 21 o dX12_price_10 (by decide) (fun u => ?_) (fun u => ?_)
  · rw [if_pos u] at e
    refine g_iconst (v := -1) o dX12_price_21 (by decide) ?_
    exact g_iret o dX12_price_22 (rt_v q e)
  · rw [if_neg u] at e
    refine g_aload_n 0 o dX12_price_13 rfl rfl ?_
    refine g_iload_n 2 o dX12_price_14 rfl rfl ?_
    obtain ⟨_, k15, e⟩ := ob e
    obtain ⟨x15, h15, q15, e⟩ := ob2_s e
    refine g_callVv [.int p1] o (mX12_isPort q15) cf12 (ckO_s k15) mw_1369 mw_1370 mw_1747 mw_19 mw_1371 rfl yo_X12_isPort rfl rfl (Nat.le_of_ble_eq_true rfl) ⟨by decide, by decide⟩ ⟨rfl, rfl⟩ dX12_price_15 ⟨by decide, by decide⟩ ?_
    refine g_if_ne (x := x15) 23 o dX12_price_18 (by decide) (fun u => ?_) (fun u => ?_)
    · rw [if_neg u] at e
      refine g_iload_n 3 o dX12_price_23 rfl rfl ?_
      refine g_if_ne (x := p2) 44 o dX12_price_24 (by decide) (fun u => ?_) (fun u => ?_)
      · rw [if_neg u] at e
        refine g_iload_n 3 o dX12_price_44 rfl rfl ?_
        refine g_iconst (v := 1) o dX12_price_45 (by decide) ?_
        refine g_icmp_ne (x := p2) (y := 1) 58 o dX12_price_46 (by decide) (fun u => ?_) (fun u => ?_)
        · rw [if_neg u] at e
          refine g_iconst (v := -1) o dX12_price_58 (by decide) ?_
          exact g_iret o dX12_price_59 (rt_v q e)
        · rw [if_pos u] at e
          refine g_aload_n 0 o dX12_price_49 rfl rfl ?_
          refine g_iload_n 1 o dX12_price_50 rfl rfl ?_
          refine g_iload_n 2 o dX12_price_51 rfl rfl ?_
          obtain ⟨_, k52, e⟩ := ob e
          obtain ⟨x52, h52, q52, e⟩ := ob2_s e
          refine g_callVv [.int p0, .int p1] o (mX12_owed q52) cf12 (ckO_s k52) mw_1402 mw_1403 mw_1754 mw_19 mw_1404 rfl yo_X12_owed rfl rfl (Nat.le_of_ble_eq_true rfl) ⟨by decide, by decide⟩ ⟨rfl, rfl⟩ dX12_price_52 ⟨by decide, by decide⟩ ?_
          refine g_goto 59 o dX12_price_55 (by decide) ?_
          exact g_iret o dX12_price_59 (rt_v q e)
      · rw [if_pos u] at e
        refine g_aload_n 0 o dX12_price_27 rfl rfl ?_
        obtain ⟨x28, q28, e⟩ := ob e
        refine g_getN 6 o cf12 (by decide) mw_1192 dX12_price_28 q28 ?_
        refine g_sipush (v := 136) o dX12_price_31 (by decide) ?_
        refine g_iload_n 1 o dX12_price_34 rfl rfl ?_
        refine g_iload_n 2 o dX12_price_35 rfl rfl ?_
        obtain ⟨x36, h36, q36, e⟩ := ob2_s e
        refine g_callSv [.int p0, .int p1] o (mX12_cell q36) mw_1180 mw_1181 mw_19 mw_1182 yo_X12_cell rfl rfl (Nat.le_of_ble_eq_true rfl) ⟨by decide, by decide⟩ ⟨rfl, rfl⟩ dX12_price_36 ⟨by decide, by decide⟩ ?_
        refine g_iadd (x := (136 : Int32)) (y := x36) o dX12_price_39 ?_
        obtain ⟨x40, q40, e⟩ := ob e
        refine g_iald o dX12_price_40 q40 ?_
        refine g_goto 59 o dX12_price_41 (by decide) ?_
        exact g_iret o dX12_price_59 (rt_v q e)
    · rw [if_pos u] at e
      refine g_iconst (v := -1) o dX12_price_21 (by decide) ?_
      exact g_iret o dX12_price_22 (rt_v q e)
theorem yo_X12_now : yok yX12_now 1 := ⟨by decide, by decide, by decide +kernel⟩
set_option maxRecDepth 100000 in
set_option maxHeartbeats 4000000 in
theorem mX12_now {l : Launch} {D : va_G} {cy : Nat → ClassId} {f0 : Nat} {a : Nat} {p0 : Int32} {h : Hp} {r : Int32} {hz : Hp} (e : fX12_now f0 a p0 h = some (r, hz)) : MC l D cy yX12_now cX12_now 2 (some .int) rmX12_now [.ref a, .int p0] h (some (.int r)) hz := by
  refine mc_of2 (by decide) (Nat.le_of_ble_eq_true rfl) (fun X hl hD hy hin o q => ?_)
  subst hl; subst hD; subst hy
  show G X 2 0 [(0, .ref a), (1, .int p0)] [] h 0 0
  unfold fX12_now at e
  refine g_aload_n 0 o dX12_now_0 rfl rfl ?_
  refine g_iconst (v := 0) o dX12_now_1 (by decide) ?_
  obtain ⟨h2, q2, e⟩ := ob e
  refine g_put (ty1 := .int) 0 o cf12 (by decide) mw_1186 rfl (by decide +kernel) rfl rfl dX12_now_2 q2 ?_
  refine g_iload_n 1 o dX12_now_5 rfl rfl ?_
  by_cases u0 : p0 = 0
  · rw [if_pos u0] at e
    refine g_tabAt (x := p0) 0 52 o dX12_now_6 u0 (by decide) (by decide) (by decide) (by decide) ?_
    refine g_aload_n 0 o dX12_now_52 rfl rfl ?_
    obtain ⟨x53, q53, e⟩ := ob e
    refine g_getN 6 o cf12 (by decide) mw_1192 dX12_now_53 q53 ?_
    refine g_sipush (v := 312) o dX12_now_56 (by decide) ?_
    obtain ⟨x59, q59, e⟩ := ob e
    refine g_iald o dX12_now_59 q59 ?_
    exact g_iret o dX12_now_60 (rt_v q e)
  rw [if_neg u0] at e
  by_cases u1 : p0 = 1
  · rw [if_pos u1] at e
    refine g_tabAt (x := p0) 1 61 o dX12_now_6 u1 (by decide) (by decide) (by decide) (by decide) ?_
    refine g_aload_n 0 o dX12_now_61 rfl rfl ?_
    obtain ⟨_, k62, e⟩ := ob e
    obtain ⟨x62, h62, q62, e⟩ := ob2_s e
    refine g_callVv [] o (mX12_isSea q62) cf12 (ckO_s k62) mw_1173 mw_1174 mw_1725 mw_19 mw_1175 rfl yo_X12_isSea rfl rfl (Nat.le_of_ble_eq_true rfl) ⟨by decide, by decide⟩ ⟨rfl, rfl⟩ dX12_now_62 ⟨by decide, by decide⟩ ?_
    refine g_if_eq (x := x62) 79 o dX12_now_65 (by decide) (fun u => ?_) (fun u => ?_)
    · rw [if_pos u] at e
      refine g_iconst (v := -1) o dX12_now_79 (by decide) ?_
      exact g_iret o dX12_now_80 (rt_v q e)
    · rw [if_neg u] at e
      refine g_aload_n 0 o dX12_now_68 rfl rfl ?_
      obtain ⟨x69, q69, e⟩ := ob e
      refine g_getN 6 o cf12 (by decide) mw_1192 dX12_now_69 q69 ?_
      refine g_sipush (v := 313) o dX12_now_72 (by decide) ?_
      obtain ⟨x75, q75, e⟩ := ob e
      refine g_iald o dX12_now_75 q75 ?_
      refine g_goto 80 o dX12_now_76 (by decide) ?_
      exact g_iret o dX12_now_80 (rt_v q e)
  rw [if_neg u1] at e
  by_cases u2 : p0 = 2
  · rw [if_pos u2] at e
    refine g_tabAt (x := p0) 2 81 o dX12_now_6 u2 (by decide) (by decide) (by decide) (by decide) ?_
    refine g_aload_n 0 o dX12_now_81 rfl rfl ?_
    obtain ⟨_, k82, e⟩ := ob e
    obtain ⟨x82, h82, q82, e⟩ := ob2_s e
    refine g_callVv [] o (mX12_isSea q82) cf12 (ckO_s k82) mw_1173 mw_1174 mw_1725 mw_19 mw_1175 rfl yo_X12_isSea rfl rfl (Nat.le_of_ble_eq_true rfl) ⟨by decide, by decide⟩ ⟨rfl, rfl⟩ dX12_now_82 ⟨by decide, by decide⟩ ?_
    refine g_if_eq (x := x82) 99 o dX12_now_85 (by decide) (fun u => ?_) (fun u => ?_)
    · rw [if_pos u] at e
      refine g_iconst (v := -1) o dX12_now_99 (by decide) ?_
      exact g_iret o dX12_now_100 (rt_v q e)
    · rw [if_neg u] at e
      refine g_aload_n 0 o dX12_now_88 rfl rfl ?_
      obtain ⟨x89, q89, e⟩ := ob e
      refine g_getN 6 o cf12 (by decide) mw_1192 dX12_now_89 q89 ?_
      refine g_sipush (v := 314) o dX12_now_92 (by decide) ?_
      obtain ⟨x95, q95, e⟩ := ob e
      refine g_iald o dX12_now_95 q95 ?_
      refine g_goto 100 o dX12_now_96 (by decide) ?_
      exact g_iret o dX12_now_100 (rt_v q e)
  rw [if_neg u2] at e
  by_cases u3 : p0 = 3
  · rw [if_pos u3] at e
    refine g_tabAt (x := p0) 3 101 o dX12_now_6 u3 (by decide) (by decide) (by decide) (by decide) ?_
    refine g_aload_n 0 o dX12_now_101 rfl rfl ?_
    obtain ⟨x102, q102, e⟩ := ob e
    refine g_getN 6 o cf12 (by decide) mw_1192 dX12_now_102 q102 ?_
    refine g_sipush (v := 315) o dX12_now_105 (by decide) ?_
    obtain ⟨x108, q108, e⟩ := ob e
    refine g_iald o dX12_now_108 q108 ?_
    exact g_iret o dX12_now_109 (rt_v q e)
  rw [if_neg u3] at e
  by_cases u4 : p0 = 4
  · rw [if_pos u4] at e
    refine g_tabAt (x := p0) 4 110 o dX12_now_6 u4 (by decide) (by decide) (by decide) (by decide) ?_
    refine g_aload_n 0 o dX12_now_110 rfl rfl ?_
    obtain ⟨x111, q111, e⟩ := ob e
    refine g_getN 6 o cf12 (by decide) mw_1192 dX12_now_111 q111 ?_
    refine g_sipush (v := 316) o dX12_now_114 (by decide) ?_
    obtain ⟨x117, q117, e⟩ := ob e
    refine g_iald o dX12_now_117 q117 ?_
    exact g_iret o dX12_now_118 (rt_v q e)
  rw [if_neg u4] at e
  by_cases u5 : p0 = 5
  · rw [if_pos u5] at e
    refine g_tabAt (x := p0) 5 119 o dX12_now_6 u5 (by decide) (by decide) (by decide) (by decide) ?_
    refine g_aload_n 0 o dX12_now_119 rfl rfl ?_
    obtain ⟨x120, q120, e⟩ := ob e
    refine g_getN 6 o cf12 (by decide) mw_1192 dX12_now_120 q120 ?_
    refine g_sipush (v := 317) o dX12_now_123 (by decide) ?_
    obtain ⟨x126, q126, e⟩ := ob e
    refine g_iald o dX12_now_126 q126 ?_
    exact g_iret o dX12_now_127 (rt_v q e)
  rw [if_neg u5] at e
  by_cases u6 : p0 = 6
  · rw [if_pos u6] at e
    refine g_tabAt (x := p0) 6 128 o dX12_now_6 u6 (by decide) (by decide) (by decide) (by decide) ?_
    refine g_aload_n 0 o dX12_now_128 rfl rfl ?_
    obtain ⟨x129, q129, e⟩ := ob e
    refine g_getN 6 o cf12 (by decide) mw_1192 dX12_now_129 q129 ?_
    refine g_sipush (v := 318) o dX12_now_132 (by decide) ?_
    obtain ⟨x135, q135, e⟩ := ob e
    refine g_iald o dX12_now_135 q135 ?_
    exact g_iret o dX12_now_136 (rt_v q e)
  rw [if_neg u6] at e
  by_cases u7 : p0 = 7
  · rw [if_pos u7] at e
    refine g_tabAt (x := p0) 7 137 o dX12_now_6 u7 (by decide) (by decide) (by decide) (by decide) ?_
    refine g_aload_n 0 o dX12_now_137 rfl rfl ?_
    obtain ⟨x138, q138, e⟩ := ob e
    refine g_getN 6 o cf12 (by decide) mw_1192 dX12_now_138 q138 ?_
    refine g_sipush (v := 319) o dX12_now_141 (by decide) ?_
    obtain ⟨x144, q144, e⟩ := ob e
    refine g_iald o dX12_now_144 q144 ?_
    exact g_iret o dX12_now_145 (rt_v q e)
  rw [if_neg u7] at e
  refine g_tabOut (x := p0) 146 o dX12_now_6 (by have n0 := tb_ne 0 0 (by decide) u0; have n1 := tb_ne 1 1 (by decide) u1; have n2 := tb_ne 2 2 (by decide) u2; have n3 := tb_ne 3 3 (by decide) u3; have n4 := tb_ne 4 4 (by decide) u4; have n5 := tb_ne 5 5 (by decide) u5; have n6 := tb_ne 6 6 (by decide) u6; have n7 := tb_ne 7 7 (by decide) u7; omega) (by decide) ?_
  refine g_iconst (v := -1) o dX12_now_146 (by decide) ?_
  exact g_iret o dX12_now_147 (rt_v q e)
