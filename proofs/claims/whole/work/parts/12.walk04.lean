theorem yo_X10_beSeen : yok yX10_beSeen 0 := ⟨by decide, by decide, by decide +kernel⟩
set_option maxRecDepth 100000 in
set_option maxHeartbeats 4000000 in
theorem mX10_beSeen {l : Launch} {D : va_G} {cy : Nat → ClassId} {f0 : Nat} {a : Nat} {h : Hp} {hz : Hp} (e : fX10_beSeen f0 a h = some hz) : MC l D cy yX10_beSeen cX10_beSeen 1 none rmX10_beSeen [.ref a] h none hz := by
  refine mc_of2 (by decide) (Nat.le_of_ble_eq_true rfl) (fun X hl hD hy hin o q => ?_)
  subst hl; subst hD; subst hy
  show G X 1 0 [(0, .ref a)] [] h 0 0
  unfold fX10_beSeen at e
  refine g_aload_n 0 o dX10_beSeen_0 rfl rfl ?_
  obtain ⟨x1, q1, e⟩ := ob e
  refine g_getN 12 o cf10 (by decide) mw_302 dX10_beSeen_1 q1 ?_
  refine g_aload_n 0 o dX10_beSeen_4 rfl rfl ?_
  obtain ⟨x5, q5, e⟩ := ob e
  refine g_getI 2 o cf10 (by decide) mw_281 dX10_beSeen_5 q5 ?_
  refine g_bipush (v := 8) o dX10_beSeen_8 (by decide) ?_
  refine g_imul (x := x5) (y := 8) o dX10_beSeen_10 ?_
  refine g_aload_n 0 o dX10_beSeen_11 rfl rfl ?_
  obtain ⟨x12, q12, e⟩ := ob e
  refine g_getI 3 o cf10 (by decide) mw_284 dX10_beSeen_12 q12 ?_
  refine g_iadd (x := (x5 * 8)) (y := x12) o dX10_beSeen_15 ?_
  obtain ⟨x16, q16, e⟩ := ob e
  refine g_iald o dX10_beSeen_16 q16 ?_
  refine g_aload_n 0 o dX10_beSeen_17 rfl rfl ?_
  obtain ⟨x18, q18, e⟩ := ob e
  refine g_getI 1 o cf10 (by decide) mw_278 dX10_beSeen_18 q18 ?_
  refine g_icmp_gt (x := x16) (y := x18) 52 o dX10_beSeen_21 (by decide) (fun u => ?_) (fun u => ?_)
  · rw [if_pos u] at e
    refine g_aload_n 0 o dX10_beSeen_52 rfl rfl ?_
    obtain ⟨x53, q53, e⟩ := ob e
    refine g_getI 4 o cf10 (by decide) mw_286 dX10_beSeen_53 q53 ?_
    refine g_iconst (v := -1) o dX10_beSeen_56 (by decide) ?_
    refine g_icmp_eq (x := x53) (y := (-1)) 102 o dX10_beSeen_57 (by decide) (fun u => ?_) (fun u => ?_)
    · rw [if_pos u] at e
      exact g_vret o dX10_beSeen_102 (rt_0 q e)
    · rw [if_neg u] at e
      refine g_aload_n 0 o dX10_beSeen_60 rfl rfl ?_
      obtain ⟨x61, q61, e⟩ := ob e
      refine g_getN 0 o cf10 (by decide) mw_276 dX10_beSeen_61 q61 ?_
      refine g_aload_n 0 o dX10_beSeen_64 rfl rfl ?_
      obtain ⟨x65, q65, e⟩ := ob e
      refine g_getI 2 o cf10 (by decide) mw_281 dX10_beSeen_65 q65 ?_
      refine g_aload_n 0 o dX10_beSeen_68 rfl rfl ?_
      obtain ⟨x69, q69, e⟩ := ob e
      refine g_getI 1 o cf10 (by decide) mw_278 dX10_beSeen_69 q69 ?_
      obtain ⟨_, k72, e⟩ := ob e
      obtain ⟨x72, h72, q72, e⟩ := ob2_s e
      refine g_callVv [.int x65, .int x69] o (mX6_rainsAt q72) cf6 (ckO_s k72) mw_774 mw_538 mw_539 mw_7 mw_540 rfl yo_X6_rainsAt rfl rfl (Nat.le_of_ble_eq_true rfl) ⟨by decide, by decide⟩ ⟨rfl, rfl⟩ dX10_beSeen_72 ⟨by decide, by decide⟩ ?_
      refine g_if_eq (x := x72) 102 o dX10_beSeen_75 (by decide) (fun u => ?_) (fun u => ?_)
      · rw [if_pos u] at e
        exact g_vret o dX10_beSeen_102 (rt_0 q e)
      · rw [if_neg u] at e
        refine g_aload_n 0 o dX10_beSeen_78 rfl rfl ?_
        refine g_aload_n 0 o dX10_beSeen_79 rfl rfl ?_
        obtain ⟨x80, q80, e⟩ := ob e
        refine g_getI 2 o cf10 (by decide) mw_281 dX10_beSeen_80 q80 ?_
        refine g_aload_n 0 o dX10_beSeen_83 rfl rfl ?_
        obtain ⟨x84, q84, e⟩ := ob e
        refine g_getI 3 o cf10 (by decide) mw_284 dX10_beSeen_84 q84 ?_
        obtain ⟨_, k87, e⟩ := ob e
        obtain ⟨h87, q87, e⟩ := ob e
        refine g_callV0 [.int x80, .int x84] o (mX10_tell q87) cf10 (ckO_s k87) mw_358 mw_359 mw_1683 mw_13 mw_360 rfl yo_X10_tell rfl rfl (Nat.le_of_ble_eq_true rfl) ⟨by decide, by decide⟩ ⟨rfl, rfl⟩ dX10_beSeen_87 ⟨by decide, by decide⟩ ?_
        refine g_aload_n 0 o dX10_beSeen_90 rfl rfl ?_
        refine g_aload_n 0 o dX10_beSeen_91 rfl rfl ?_
        obtain ⟨x92, q92, e⟩ := ob e
        refine g_getI 2 o cf10 (by decide) mw_281 dX10_beSeen_92 q92 ?_
        refine g_aload_n 0 o dX10_beSeen_95 rfl rfl ?_
        obtain ⟨x96, q96, e⟩ := ob e
        refine g_getI 4 o cf10 (by decide) mw_286 dX10_beSeen_96 q96 ?_
        obtain ⟨_, k99, e⟩ := ob e
        obtain ⟨h99, q99, e⟩ := ob e
        refine g_callV0 [.int x92, .int x96] o (mX10_tell q99) cf10 (ckO_s k99) mw_358 mw_359 mw_1683 mw_13 mw_360 rfl yo_X10_tell rfl rfl (Nat.le_of_ble_eq_true rfl) ⟨by decide, by decide⟩ ⟨rfl, rfl⟩ dX10_beSeen_99 ⟨by decide, by decide⟩ ?_
        exact g_vret o dX10_beSeen_102 (rt_0 q e)
  · rw [if_neg u] at e
    refine g_aload_n 0 o dX10_beSeen_24 rfl rfl ?_
    refine g_iconst (v := 1) o dX10_beSeen_25 (by decide) ?_
    obtain ⟨h26, q26, e⟩ := ob e
    refine g_put (ty1 := .boolean) 6 o cf10 (by decide) mw_290 rfl (by decide +kernel) (nar_z (pfZ_s q26).1).1 (nar_z (pfZ_s q26).1).2 dX10_beSeen_26 (pfZ_s q26).2 ?_
    refine g_aload_n 0 o dX10_beSeen_29 rfl rfl ?_
    refine g_dup o dX10_beSeen_30 rfl ?_
    obtain ⟨x31, q31, e⟩ := ob e
    refine g_getI 5 o cf10 (by decide) mw_288 dX10_beSeen_31 q31 ?_
    refine g_aload_n 0 o dX10_beSeen_34 rfl rfl ?_
    obtain ⟨x35, q35, e⟩ := ob e
    refine g_getN 0 o cf10 (by decide) mw_276 dX10_beSeen_35 q35 ?_
    refine g_aload_n 0 o dX10_beSeen_38 rfl rfl ?_
    obtain ⟨x39, q39, e⟩ := ob e
    refine g_getI 2 o cf10 (by decide) mw_281 dX10_beSeen_39 q39 ?_
    obtain ⟨_, k42, e⟩ := ob e
    obtain ⟨x42, h42, q42, e⟩ := ob2_s e
    refine g_callVv [.int x39] o (mX6_wantedForAt q42) cf6 (ckO_s k42) mw_770 mw_771 mw_772 mw_7 mw_773 rfl yo_X6_wantedForAt rfl rfl (Nat.le_of_ble_eq_true rfl) ⟨by decide, by decide⟩ ⟨rfl, rfl⟩ dX10_beSeen_42 ⟨by decide, by decide⟩ ?_
    refine g_isub (x := x31) (y := x42) o dX10_beSeen_45 ?_
    obtain ⟨h46, q46, e⟩ := ob e
    refine g_put (ty1 := .int) 5 o cf10 (by decide) mw_288 rfl (by decide +kernel) rfl rfl dX10_beSeen_46 q46 ?_
    refine g_goto 102 o dX10_beSeen_49 (by decide) ?_
    exact g_vret o dX10_beSeen_102 (rt_0 q e)
theorem yo_X10_sailTo : yok yX10_sailTo 1 := ⟨by decide, by decide, by decide +kernel⟩
set_option maxRecDepth 100000 in
set_option maxHeartbeats 4000000 in
theorem mX10_sailTo {l : Launch} {D : va_G} {cy : Nat → ClassId} {f0 : Nat} {a : Nat} {p0 : Int32} {h : Hp} {r : Int32} {hz : Hp} (e : fX10_sailTo f0 a p0 h = some (r, hz)) : MC l D cy yX10_sailTo cX10_sailTo 3 (some .int) rmX10_sailTo [.ref a, .int p0] h (some (.int r)) hz := by
  refine mc_of2 (by decide) (Nat.le_of_ble_eq_true rfl) (fun X hl hD hy hin o q => ?_)
  subst hl; subst hD; subst hy
  show G X 3 0 [(0, .ref a), (1, .int p0)] [] h 0 0
  unfold fX10_sailTo at e
  refine g_aload_n 0 o dX10_sailTo_0 rfl rfl ?_
  obtain ⟨_, k1, e⟩ := ob e
  obtain ⟨x1, h1, q1, e⟩ := ob2_s e
  refine g_callVv [] o (mX10_canAct q1) cf10 (ckO_s k1) mw_661 mw_662 mw_663 mw_13 mw_664 rfl yo_X10_canAct rfl rfl (Nat.le_of_ble_eq_true rfl) ⟨by decide, by decide⟩ ⟨rfl, rfl⟩ dX10_sailTo_1 ⟨by decide, by decide⟩ ?_
  refine g_if_ne (x := x1) 9 o dX10_sailTo_4 (by decide) (fun u => ?_) (fun u => ?_)
  · rw [if_neg u] at e
    refine g_aload_n 0 o dX10_sailTo_9 rfl rfl ?_
    obtain ⟨x10, q10, e⟩ := ob e
    refine g_getN 0 o cf10 (by decide) mw_276 dX10_sailTo_10 q10 ?_
    obtain ⟨x13, q13, e⟩ := ob e
    refine g_getN 3 o cf6 (by decide) mw_154 dX10_sailTo_13 q13 ?_
    refine g_aload_n 0 o dX10_sailTo_16 rfl rfl ?_
    obtain ⟨x17, q17, e⟩ := ob e
    refine g_getI 2 o cf10 (by decide) mw_281 dX10_sailTo_17 q17 ?_
    refine g_bipush (v := 8) o dX10_sailTo_20 (by decide) ?_
    refine g_imul (x := x17) (y := 8) o dX10_sailTo_22 ?_
    refine g_iload_n 1 o dX10_sailTo_23 rfl rfl ?_
    refine g_iadd (x := (x17 * 8)) (y := p0) o dX10_sailTo_24 ?_
    obtain ⟨x25, q25, e⟩ := ob e
    refine g_iald o dX10_sailTo_25 q25 ?_
    refine g_istore_n [(2, .int x25), (0, .ref a), (1, .int p0)] o dX10_sailTo_26 rfl (by decide) rfl ?_
    refine g_iload_n 0 o dX10_sailTo_27 rfl rfl ?_
    refine g_if_ne (x := x25) 33 o dX10_sailTo_28 (by decide) (fun u => ?_) (fun u => ?_)
    · rw [if_neg u] at e
      refine g_aload_n 1 o dX10_sailTo_33 rfl rfl ?_
      refine g_iload_n 0 o dX10_sailTo_34 rfl rfl ?_
      obtain ⟨_, k35, e⟩ := ob e
      obtain ⟨x35, h35, q35, e⟩ := ob2_s e
      refine g_callVv [.int x25] o (mX10_isLate q35) cf10 (ckO_s k35) mw_760 mw_761 mw_1709 mw_13 mw_762 rfl yo_X10_isLate rfl rfl (Nat.le_of_ble_eq_true rfl) ⟨by decide, by decide⟩ ⟨rfl, rfl⟩ dX10_sailTo_35 ⟨by decide, by decide⟩ ?_
      refine g_if_eq (x := x35) 44 o dX10_sailTo_38 (by decide) (fun u => ?_) (fun u => ?_)
      · rw [if_pos u] at e
        refine g_aload_n 1 o dX10_sailTo_44 rfl rfl ?_
        refine g_dup o dX10_sailTo_45 rfl ?_
        obtain ⟨x46, q46, e⟩ := ob e
        refine g_getI 1 o cf10 (by decide) mw_278 dX10_sailTo_46 q46 ?_
        refine g_iload_n 0 o dX10_sailTo_49 rfl rfl ?_
        refine g_iadd (x := x46) (y := x25) o dX10_sailTo_50 ?_
        obtain ⟨h51, q51, e⟩ := ob e
        refine g_put (ty1 := .int) 1 o cf10 (by decide) mw_278 rfl (by decide +kernel) rfl rfl dX10_sailTo_51 q51 ?_
        refine g_aload_n 1 o dX10_sailTo_54 rfl rfl ?_
        refine g_iload_n 2 o dX10_sailTo_55 rfl rfl ?_
        obtain ⟨h56, q56, e⟩ := ob e
        refine g_put (ty1 := .int) 2 o cf10 (by decide) mw_281 rfl (by decide +kernel) rfl rfl dX10_sailTo_56 q56 ?_
        refine g_aload_n 1 o dX10_sailTo_59 rfl rfl ?_
        obtain ⟨x60, q60, e⟩ := ob e
        refine g_getN 9 o cf10 (by decide) mw_297 dX10_sailTo_60 q60 ?_
        refine g_iload_n 2 o dX10_sailTo_63 rfl rfl ?_
        refine g_dup2 o dX10_sailTo_64 rfl rfl ?_
        obtain ⟨x65, q65, e⟩ := ob e
        refine g_iald o dX10_sailTo_65 q65 ?_
        refine g_iconst (v := 1) o dX10_sailTo_66 (by decide) ?_
        refine g_iadd (x := x65) (y := 1) o dX10_sailTo_67 ?_
        obtain ⟨h68, q68, e⟩ := ob e
        refine g_iast o dX10_sailTo_68 q68 ?_
        refine g_aload_n 1 o dX10_sailTo_69 rfl rfl ?_
        refine g_dup o dX10_sailTo_70 rfl ?_
        obtain ⟨x71, q71, e⟩ := ob e
        refine g_getI 8 o cf10 (by decide) mw_295 dX10_sailTo_71 q71 ?_
        refine g_iconst (v := 1) o dX10_sailTo_74 (by decide) ?_
        refine g_iadd (x := x71) (y := 1) o dX10_sailTo_75 ?_
        obtain ⟨h76, q76, e⟩ := ob e
        refine g_put (ty1 := .int) 8 o cf10 (by decide) mw_295 rfl (by decide +kernel) rfl rfl dX10_sailTo_76 q76 ?_
        refine g_aload_n 1 o dX10_sailTo_79 rfl rfl ?_
        obtain ⟨_, k80, e⟩ := ob e
        obtain ⟨h80, q80, e⟩ := ob e
        refine g_callV0 [] o (mX10_beSeen q80) cf10 (ckO_s k80) mw_767 mw_768 mw_1710 mw_13 mw_769 rfl yo_X10_beSeen rfl rfl (Nat.le_of_ble_eq_true rfl) ⟨by decide, by decide⟩ ⟨rfl, rfl⟩ dX10_sailTo_80 ⟨by decide, by decide⟩ ?_
        refine g_iconst (v := 0) o dX10_sailTo_83 (by decide) ?_
        exact g_iret o dX10_sailTo_84 (rt_v q e)
      · rw [if_neg u] at e
        refine g_bipush (v := 9) o dX10_sailTo_41 (by decide) ?_
        exact g_iret o dX10_sailTo_43 (rt_v q e)
    · rw [if_pos u] at e
      refine g_iconst (v := 2) o dX10_sailTo_31 (by decide) ?_
      exact g_iret o dX10_sailTo_32 (rt_v q e)
  · rw [if_pos u] at e
    refine g_iconst (v := 1) o dX10_sailTo_7 (by decide) ?_
    exact g_iret o dX10_sailTo_8 (rt_v q e)
theorem yo_X2_plus : yok yX2_plus 2 := ⟨by decide, by decide, by decide +kernel⟩
set_option maxRecDepth 100000 in
set_option maxHeartbeats 4000000 in
theorem mX2_plus {l : Launch} {D : va_G} {cy : Nat → ClassId} {f0 : Nat} {p0 : Int32} {p1 : Int32} {h : Hp} {r : Int32} {hz : Hp} (e : fX2_plus f0 p0 p1 h = some (r, hz)) : MC l D cy yX2_plus cX2_plus 2 (some .int) rmX2_plus [.int p0, .int p1] h (some (.int r)) hz := by
  refine mc_of2 (by decide) (Nat.le_of_ble_eq_true rfl) (fun X hl hD hy hin o q => ?_)
  subst hl; subst hD; subst hy
  show G X 2 0 [(0, .int p0), (1, .int p1)] [] h 0 0
  unfold fX2_plus at e
  refine g_iload_n 1 o dX2_plus_0 rfl rfl ?_
  refine g_if_ne (x := p1) 8 o dX2_plus_1 (by decide) (fun u => ?_) (fun u => ?_)
  · rw [if_neg u] at e
    refine g_iload_n 0 o dX2_plus_8 rfl rfl ?_
    refine g_iload_n 1 o dX2_plus_9 rfl rfl ?_
    refine g_iadd (x := p0) (y := p1) o dX2_plus_10 ?_
    exact g_iret o dX2_plus_11 (rt_v q e)
  · rw [if_pos u] at e
    refine g_iconst (v := 0) o dX2_plus_4 (by decide) ?_
    refine g_goto 11 o dX2_plus_5 (by decide) ?_
    exact g_iret o dX2_plus_11 (rt_v q e)
theorem yo_X10_waitFor : yok yX10_waitFor 1 := ⟨by decide, by decide, by decide +kernel⟩
set_option maxRecDepth 100000 in
set_option maxHeartbeats 4000000 in
theorem mX10_waitFor {l : Launch} {D : va_G} {cy : Nat → ClassId} {f0 : Nat} {a : Nat} {p0 : Int32} {h : Hp} {r : Int32} {hz : Hp} (e : fX10_waitFor f0 a p0 h = some (r, hz)) : MC l D cy yX10_waitFor cX10_waitFor 2 (some .int) rmX10_waitFor [.ref a, .int p0] h (some (.int r)) hz := by
  refine mc_of2 (by decide) (Nat.le_of_ble_eq_true rfl) (fun X hl hD hy hin o q => ?_)
  subst hl; subst hD; subst hy
  show G X 2 0 [(0, .ref a), (1, .int p0)] [] h 0 0
  unfold fX10_waitFor at e
  refine g_aload_n 0 o dX10_waitFor_0 rfl rfl ?_
  obtain ⟨_, k1, e⟩ := ob e
  obtain ⟨x1, h1, q1, e⟩ := ob2_s e
  refine g_callVv [] o (mX10_canAct q1) cf10 (ckO_s k1) mw_661 mw_662 mw_663 mw_13 mw_664 rfl yo_X10_canAct rfl rfl (Nat.le_of_ble_eq_true rfl) ⟨by decide, by decide⟩ ⟨rfl, rfl⟩ dX10_waitFor_1 ⟨by decide, by decide⟩ ?_
  refine g_if_ne (x := x1) 9 o dX10_waitFor_4 (by decide) (fun u => ?_) (fun u => ?_)
  · rw [if_neg u] at e
    refine g_aload_n 0 o dX10_waitFor_9 rfl rfl ?_
    refine g_iload_n 1 o dX10_waitFor_10 rfl rfl ?_
    obtain ⟨_, k11, e⟩ := ob e
    obtain ⟨x11, h11, q11, e⟩ := ob2_s e
    refine g_callVv [.int p0] o (mX10_isLate q11) cf10 (ckO_s k11) mw_760 mw_761 mw_1709 mw_13 mw_762 rfl yo_X10_isLate rfl rfl (Nat.le_of_ble_eq_true rfl) ⟨by decide, by decide⟩ ⟨rfl, rfl⟩ dX10_waitFor_11 ⟨by decide, by decide⟩ ?_
    refine g_if_eq (x := x11) 20 o dX10_waitFor_14 (by decide) (fun u => ?_) (fun u => ?_)
    · rw [if_pos u] at e
      refine g_aload_n 0 o dX10_waitFor_20 rfl rfl ?_
      refine g_dup o dX10_waitFor_21 rfl ?_
      obtain ⟨x22, q22, e⟩ := ob e
      refine g_getI 1 o cf10 (by decide) mw_278 dX10_waitFor_22 q22 ?_
      refine g_iload_n 1 o dX10_waitFor_25 rfl rfl ?_
      refine g_iadd (x := x22) (y := p0) o dX10_waitFor_26 ?_
      obtain ⟨h27, q27, e⟩ := ob e
      refine g_put (ty1 := .int) 1 o cf10 (by decide) mw_278 rfl (by decide +kernel) rfl rfl dX10_waitFor_27 q27 ?_
      refine g_iconst (v := 0) o dX10_waitFor_30 (by decide) ?_
      exact g_iret o dX10_waitFor_31 (rt_v q e)
    · rw [if_neg u] at e
      refine g_bipush (v := 9) o dX10_waitFor_17 (by decide) ?_
      exact g_iret o dX10_waitFor_19 (rt_v q e)
  · rw [if_pos u] at e
    refine g_iconst (v := 1) o dX10_waitFor_7 (by decide) ?_
    exact g_iret o dX10_waitFor_8 (rt_v q e)
theorem yo_X10_owedTo : yok yX10_owedTo 2 := ⟨by decide, by decide, by decide +kernel⟩
set_option maxRecDepth 100000 in
set_option maxHeartbeats 4000000 in
theorem mX10_owedTo {l : Launch} {D : va_G} {cy : Nat → ClassId} {f0 : Nat} {a : Nat} {p0 : Int32} {p1 : Int32} {h : Hp} {r : Int32} {hz : Hp} (e : fX10_owedTo f0 a p0 p1 h = some (r, hz)) : MC l D cy yX10_owedTo cX10_owedTo 3 (some .int) rmX10_owedTo [.ref a, .int p0, .int p1] h (some (.int r)) hz := by
  refine mc_of2 (by decide) (Nat.le_of_ble_eq_true rfl) (fun X hl hD hy hin o q => ?_)
  subst hl; subst hD; subst hy
  show G X 3 0 [(0, .ref a), (1, .int p0), (2, .int p1)] [] h 0 0
  unfold fX10_owedTo at e
  refine g_aload_n 0 o dX10_owedTo_0 rfl rfl ?_
  obtain ⟨x1, q1, e⟩ := ob e
  refine g_getN 10 o cf10 (by decide) mw_299 dX10_owedTo_1 q1 ?_
  refine g_iload_n 1 o dX10_owedTo_4 rfl rfl ?_
  obtain ⟨x5, q5, e⟩ := ob e
  refine g_iald o dX10_owedTo_5 q5 ?_
  refine g_iload_n 2 o dX10_owedTo_6 rfl rfl ?_
  refine g_ishr (x := x5) (y := p1) o dX10_owedTo_7 ?_
  refine g_iconst (v := 1) o dX10_owedTo_8 (by decide) ?_
  refine g_iand (x := (x5 >>> (p1 &&& 31))) (y := 1) o dX10_owedTo_9 ?_
  refine g_if_eq (x := ((x5 >>> (p1 &&& 31)) &&& 1)) 17 o dX10_owedTo_10 (by decide) (fun u => ?_) (fun u => ?_)
  · rw [if_pos u] at e
    refine g_aload_n 0 o dX10_owedTo_17 rfl rfl ?_
    obtain ⟨x18, q18, e⟩ := ob e
    refine g_getN 0 o cf10 (by decide) mw_276 dX10_owedTo_18 q18 ?_
    obtain ⟨x21, q21, e⟩ := ob e
    refine g_getN 6 o cf6 (by decide) mw_165 dX10_owedTo_21 q21 ?_
    refine g_iload_n 1 o dX10_owedTo_24 rfl rfl ?_
    refine g_bipush (v := 8) o dX10_owedTo_25 (by decide) ?_
    refine g_imul (x := p0) (y := 8) o dX10_owedTo_27 ?_
    refine g_iload_n 2 o dX10_owedTo_28 rfl rfl ?_
    refine g_iadd (x := (p0 * 8)) (y := p1) o dX10_owedTo_29 ?_
    obtain ⟨x30, q30, e⟩ := ob e
    refine g_iald o dX10_owedTo_30 q30 ?_
    exact g_iret o dX10_owedTo_31 (rt_v q e)
  · rw [if_neg u] at e
    refine g_iconst (v := 0) o dX10_owedTo_13 (by decide) ?_
    refine g_goto 31 o dX10_owedTo_14 (by decide) ?_
    exact g_iret o dX10_owedTo_31 (rt_v q e)
theorem yo_X10_takeOwed : yok yX10_takeOwed 0 := ⟨by decide, by decide, by decide +kernel⟩
set_option maxRecDepth 100000 in
set_option maxHeartbeats 4000000 in
theorem mX10_takeOwed {l : Launch} {D : va_G} {cy : Nat → ClassId} {f0 : Nat} {a : Nat} {h : Hp} {r : Int32} {hz : Hp} (e : fX10_takeOwed f0 a h = some (r, hz)) : MC l D cy yX10_takeOwed cX10_takeOwed 2 (some .int) rmX10_takeOwed [.ref a] h (some (.int r)) hz := by
  refine mc_of2 (by decide) (Nat.le_of_ble_eq_true rfl) (fun X hl hD hy hin o q => ?_)
  subst hl; subst hD; subst hy
  show G X 2 0 [(0, .ref a)] [] h 0 0
  unfold fX10_takeOwed at e
  refine g_aload_n 0 o dX10_takeOwed_0 rfl rfl ?_
  obtain ⟨_, k1, e⟩ := ob e
  obtain ⟨x1, h1, q1, e⟩ := ob2_s e
  refine g_callVv [] o (mX10_canAct q1) cf10 (ckO_s k1) mw_661 mw_662 mw_663 mw_13 mw_664 rfl yo_X10_canAct rfl rfl (Nat.le_of_ble_eq_true rfl) ⟨by decide, by decide⟩ ⟨rfl, rfl⟩ dX10_takeOwed_1 ⟨by decide, by decide⟩ ?_
  refine g_if_ne (x := x1) 9 o dX10_takeOwed_4 (by decide) (fun u => ?_) (fun u => ?_)
  · rw [if_neg u] at e
    refine g_aload_n 0 o dX10_takeOwed_9 rfl rfl ?_
    refine g_aload_n 0 o dX10_takeOwed_10 rfl rfl ?_
    obtain ⟨x11, q11, e⟩ := ob e
    refine g_getI 3 o cf10 (by decide) mw_284 dX10_takeOwed_11 q11 ?_
    refine g_aload_n 0 o dX10_takeOwed_14 rfl rfl ?_
    obtain ⟨x15, q15, e⟩ := ob e
    refine g_getI 2 o cf10 (by decide) mw_281 dX10_takeOwed_15 q15 ?_
    obtain ⟨_, k18, e⟩ := ob e
    obtain ⟨x18, h18, q18, e⟩ := ob2_s e
    refine g_callVv [.int x11, .int x15] o (mX10_owedTo q18) cf10 (ckO_s k18) mw_786 mw_787 mw_788 mw_13 mw_789 rfl yo_X10_owedTo rfl rfl (Nat.le_of_ble_eq_true rfl) ⟨by decide, by decide⟩ ⟨rfl, rfl⟩ dX10_takeOwed_18 ⟨by decide, by decide⟩ ?_
    refine g_istore_n [(1, .int x18), (0, .ref a)] o dX10_takeOwed_21 rfl (by decide) rfl ?_
    refine g_iload_n 0 o dX10_takeOwed_22 rfl rfl ?_
    refine g_if_ne (x := x18) 28 o dX10_takeOwed_23 (by decide) (fun u => ?_) (fun u => ?_)
    · rw [if_neg u] at e
      refine g_aload_n 1 o dX10_takeOwed_28 rfl rfl ?_
      refine g_dup o dX10_takeOwed_29 rfl ?_
      obtain ⟨x30, q30, e⟩ := ob e
      refine g_getI 5 o cf10 (by decide) mw_288 dX10_takeOwed_30 q30 ?_
      refine g_iload_n 0 o dX10_takeOwed_33 rfl rfl ?_
      refine g_iadd (x := x30) (y := x18) o dX10_takeOwed_34 ?_
      obtain ⟨h35, q35, e⟩ := ob e
      refine g_put (ty1 := .int) 5 o cf10 (by decide) mw_288 rfl (by decide +kernel) rfl rfl dX10_takeOwed_35 q35 ?_
      refine g_aload_n 1 o dX10_takeOwed_38 rfl rfl ?_
      obtain ⟨x39, q39, e⟩ := ob e
      refine g_getN 10 o cf10 (by decide) mw_299 dX10_takeOwed_39 q39 ?_
      refine g_aload_n 1 o dX10_takeOwed_42 rfl rfl ?_
      obtain ⟨x43, q43, e⟩ := ob e
      refine g_getI 3 o cf10 (by decide) mw_284 dX10_takeOwed_43 q43 ?_
      refine g_dup2 o dX10_takeOwed_46 rfl rfl ?_
      obtain ⟨x47, q47, e⟩ := ob e
      refine g_iald o dX10_takeOwed_47 q47 ?_
      refine g_iconst (v := 1) o dX10_takeOwed_48 (by decide) ?_
      refine g_aload_n 1 o dX10_takeOwed_49 rfl rfl ?_
      obtain ⟨x50, q50, e⟩ := ob e
      refine g_getI 2 o cf10 (by decide) mw_281 dX10_takeOwed_50 q50 ?_
      refine g_ishl (x := (1 : Int32)) (y := x50) o dX10_takeOwed_53 ?_
      refine g_ior (x := x47) (y := ((1 : Int32) <<< (x50 &&& 31))) o dX10_takeOwed_54 ?_
      obtain ⟨h55, q55, e⟩ := ob e
      refine g_iast o dX10_takeOwed_55 q55 ?_
      refine g_iconst (v := 0) o dX10_takeOwed_56 (by decide) ?_
      exact g_iret o dX10_takeOwed_57 (rt_v q e)
    · rw [if_pos u] at e
      refine g_iconst (v := 2) o dX10_takeOwed_26 (by decide) ?_
      exact g_iret o dX10_takeOwed_27 (rt_v q e)
  · rw [if_pos u] at e
    refine g_iconst (v := 1) o dX10_takeOwed_7 (by decide) ?_
    exact g_iret o dX10_takeOwed_8 (rt_v q e)
theorem yo_X10_teach : yok yX10_teach 2 := ⟨by decide, by decide, by decide +kernel⟩
set_option maxRecDepth 100000 in
set_option maxHeartbeats 4000000 in
theorem mX10_teach {l : Launch} {D : va_G} {cy : Nat → ClassId} {f0 : Nat} {a : Nat} {p0 : Int32} {p1 : Int32} {h : Hp} {r : Int32} {hz : Hp} (e : fX10_teach f0 a p0 p1 h = some (r, hz)) : MC l D cy yX10_teach cX10_teach 3 (some .int) rmX10_teach [.ref a, .int p0, .int p1] h (some (.int r)) hz := by
  refine mc_of2 (by decide) (Nat.le_of_ble_eq_true rfl) (fun X hl hD hy hin o q => ?_)
  subst hl; subst hD; subst hy
  show G X 3 0 [(0, .ref a), (1, .int p0), (2, .int p1)] [] h 0 0
  unfold fX10_teach at e
  refine g_aload_n 0 o dX10_teach_0 rfl rfl ?_
  obtain ⟨_, k1, e⟩ := ob e
  obtain ⟨x1, h1, q1, e⟩ := ob2_s e
  refine g_callVv [] o (mX10_canAct q1) cf10 (ckO_s k1) mw_661 mw_662 mw_663 mw_13 mw_664 rfl yo_X10_canAct rfl rfl (Nat.le_of_ble_eq_true rfl) ⟨by decide, by decide⟩ ⟨rfl, rfl⟩ dX10_teach_1 ⟨by decide, by decide⟩ ?_
  refine g_if_ne (x := x1) 9 o dX10_teach_4 (by decide) (fun u => ?_) (fun u => ?_)
  · rw [if_neg u] at e
    refine g_aload_n 0 o dX10_teach_9 rfl rfl ?_
    obtain ⟨x10, q10, e⟩ := ob e
    refine g_getN 11 o cf10 (by decide) mw_300 dX10_teach_10 q10 ?_
    refine g_iload_n 1 o dX10_teach_13 rfl rfl ?_
    obtain ⟨x14, q14, e⟩ := ob e
    refine g_iald o dX10_teach_14 q14 ?_
    refine g_iload_n 2 o dX10_teach_15 rfl rfl ?_
    refine g_ishr (x := x14) (y := p1) o dX10_teach_16 ?_
    refine g_iconst (v := 1) o dX10_teach_17 (by decide) ?_
    refine g_iand (x := (x14 >>> (p1 &&& 31))) (y := 1) o dX10_teach_18 ?_
    refine g_if_eq (x := ((x14 >>> (p1 &&& 31)) &&& 1)) 24 o dX10_teach_19 (by decide) (fun u => ?_) (fun u => ?_)
    · rw [if_pos u] at e
      refine g_aload_n 0 o dX10_teach_24 rfl rfl ?_
      refine g_iconst (v := 3) o dX10_teach_25 (by decide) ?_
      obtain ⟨_, k26, e⟩ := ob e
      obtain ⟨x26, h26, q26, e⟩ := ob2_s e
      refine g_callVv [.int 3] o (mX10_isLate q26) cf10 (ckO_s k26) mw_760 mw_761 mw_1709 mw_13 mw_762 rfl yo_X10_isLate rfl rfl (Nat.le_of_ble_eq_true rfl) ⟨by decide, by decide⟩ ⟨rfl, rfl⟩ dX10_teach_26 ⟨by decide, by decide⟩ ?_
      refine g_if_eq (x := x26) 35 o dX10_teach_29 (by decide) (fun u => ?_) (fun u => ?_)
      · rw [if_pos u] at e
        refine g_aload_n 0 o dX10_teach_35 rfl rfl ?_
        refine g_dup o dX10_teach_36 rfl ?_
        obtain ⟨x37, q37, e⟩ := ob e
        refine g_getI 1 o cf10 (by decide) mw_278 dX10_teach_37 q37 ?_
        refine g_iconst (v := 3) o dX10_teach_40 (by decide) ?_
        refine g_iadd (x := x37) (y := 3) o dX10_teach_41 ?_
        obtain ⟨h42, q42, e⟩ := ob e
        refine g_put (ty1 := .int) 1 o cf10 (by decide) mw_278 rfl (by decide +kernel) rfl rfl dX10_teach_42 q42 ?_
        refine g_aload_n 0 o dX10_teach_45 rfl rfl ?_
        obtain ⟨x46, q46, e⟩ := ob e
        refine g_getN 11 o cf10 (by decide) mw_300 dX10_teach_46 q46 ?_
        refine g_iload_n 1 o dX10_teach_49 rfl rfl ?_
        refine g_dup2 o dX10_teach_50 rfl rfl ?_
        obtain ⟨x51, q51, e⟩ := ob e
        refine g_iald o dX10_teach_51 q51 ?_
        refine g_iconst (v := 1) o dX10_teach_52 (by decide) ?_
        refine g_iload_n 2 o dX10_teach_53 rfl rfl ?_
        refine g_ishl (x := (1 : Int32)) (y := p1) o dX10_teach_54 ?_
        refine g_ior (x := x51) (y := ((1 : Int32) <<< (p1 &&& 31))) o dX10_teach_55 ?_
        obtain ⟨h56, q56, e⟩ := ob e
        refine g_iast o dX10_teach_56 q56 ?_
        refine g_iconst (v := 0) o dX10_teach_57 (by decide) ?_
        exact g_iret o dX10_teach_58 (rt_v q e)
      · rw [if_neg u] at e
        refine g_bipush (v := 9) o dX10_teach_32 (by decide) ?_
        exact g_iret o dX10_teach_34 (rt_v q e)
    · rw [if_neg u] at e
      refine g_iconst (v := 2) o dX10_teach_22 (by decide) ?_
      exact g_iret o dX10_teach_23 (rt_v q e)
  · rw [if_pos u] at e
    refine g_iconst (v := 1) o dX10_teach_7 (by decide) ?_
    exact g_iret o dX10_teach_8 (rt_v q e)
theorem yo_X2_liveLine : yok yX2_liveLine 2 := ⟨by decide, by decide, by decide +kernel⟩
set_option maxRecDepth 100000 in
set_option maxHeartbeats 4000000 in
theorem mX2_liveLine {l : Launch} {D : va_G} {cy : Nat → ClassId} {f0 : Nat} {a : Nat} {p0 : Nat} {p1 : Int32} {h : Hp} {r : Int32} {hz : Hp} (e : fX2_liveLine f0 a p0 p1 h = some (r, hz)) : MC l D cy yX2_liveLine cX2_liveLine 3 (some .int) rmX2_liveLine [.ref a, .ref p0, .int p1] h (some (.int r)) hz := by
  refine mc_of2 (by decide) (Nat.le_of_ble_eq_true rfl) (fun X hl hD hy hin o q => ?_)
  subst hl; subst hD; subst hy
  show G X 3 0 [(0, .ref a), (1, .ref p0), (2, .int p1)] [] h 0 0
  unfold fX2_liveLine at e
  refine g_aload_n 0 o dX2_liveLine_0 rfl rfl ?_
  obtain ⟨x1, q1, e⟩ := ob e
  refine g_getN 2 o cf2 (by decide) mw_245 dX2_liveLine_1 q1 ?_
  refine g_iload_n 2 o dX2_liveLine_4 rfl rfl ?_
  obtain ⟨x5, q5, e⟩ := ob e
  refine g_iald o dX2_liveLine_5 q5 ?_
  by_cases u0 : x5 = 11
  · rw [if_pos u0] at e
    refine g_tabAt (x := x5) 11 47 o dX2_liveLine_6 u0 (by decide) (by decide) (by decide) (by decide) ?_
    refine g_bipush (v := 10) o dX2_liveLine_47 (by decide) ?_
    refine g_aload_n 1 o dX2_liveLine_49 rfl rfl ?_
    refine g_aload_n 0 o dX2_liveLine_50 rfl rfl ?_
    obtain ⟨x51, q51, e⟩ := ob e
    refine g_getN 3 o cf2 (by decide) mw_246 dX2_liveLine_51 q51 ?_
    refine g_iload_n 2 o dX2_liveLine_54 rfl rfl ?_
    obtain ⟨x55, q55, e⟩ := ob e
    refine g_iald o dX2_liveLine_55 q55 ?_
    obtain ⟨_, k56, e⟩ := ob e
    obtain ⟨x56, h56, q56, e⟩ := ob2_s e
    refine g_callVv [.int x55] o (mX10_sailTo q56) cf10 (ckO_s k56) mw_763 mw_764 mw_765 mw_13 mw_766 rfl yo_X10_sailTo rfl rfl (Nat.le_of_ble_eq_true rfl) ⟨by decide, by decide⟩ ⟨rfl, rfl⟩ dX2_liveLine_56 ⟨by decide, by decide⟩ ?_
    obtain ⟨x59, h59, q59, e⟩ := ob2_s e
    refine g_callSv [.int 10, .int x56] o (mX2_plus q59) mw_775 mw_776 mw_12 mw_777 yo_X2_plus rfl rfl (Nat.le_of_ble_eq_true rfl) ⟨by decide, by decide⟩ ⟨rfl, rfl⟩ dX2_liveLine_59 ⟨by decide, by decide⟩ ?_
    exact g_iret o dX2_liveLine_62 (rt_v q e)
  rw [if_neg u0] at e
  by_cases u1 : x5 = 12
  · rw [if_pos u1] at e
    refine g_tabAt (x := x5) 12 36 o dX2_liveLine_6 u1 (by decide) (by decide) (by decide) (by decide) ?_
    refine g_aload_n 1 o dX2_liveLine_36 rfl rfl ?_
    refine g_aload_n 0 o dX2_liveLine_37 rfl rfl ?_
    obtain ⟨x38, q38, e⟩ := ob e
    refine g_getN 3 o cf2 (by decide) mw_246 dX2_liveLine_38 q38 ?_
    refine g_iload_n 2 o dX2_liveLine_41 rfl rfl ?_
    obtain ⟨x42, q42, e⟩ := ob e
    refine g_iald o dX2_liveLine_42 q42 ?_
    obtain ⟨_, k43, e⟩ := ob e
    obtain ⟨x43, h43, q43, e⟩ := ob2_s e
    refine g_callVv [.int x42] o (mX10_paintAs q43) cf10 (ckO_s k43) mw_743 mw_744 mw_745 mw_13 mw_746 rfl yo_X10_paintAs rfl rfl (Nat.le_of_ble_eq_true rfl) ⟨by decide, by decide⟩ ⟨rfl, rfl⟩ dX2_liveLine_43 ⟨by decide, by decide⟩ ?_
    exact g_iret o dX2_liveLine_46 (rt_v q e)
  rw [if_neg u1] at e
  by_cases u2 : x5 = 13
  · rw [if_pos u2] at e
    refine g_tabAt (x := x5) 13 63 o dX2_liveLine_6 u2 (by decide) (by decide) (by decide) (by decide) ?_
    refine g_bipush (v := 20) o dX2_liveLine_63 (by decide) ?_
    refine g_aload_n 1 o dX2_liveLine_65 rfl rfl ?_
    refine g_aload_n 0 o dX2_liveLine_66 rfl rfl ?_
    obtain ⟨x67, q67, e⟩ := ob e
    refine g_getN 3 o cf2 (by decide) mw_246 dX2_liveLine_67 q67 ?_
    refine g_iload_n 2 o dX2_liveLine_70 rfl rfl ?_
    obtain ⟨x71, q71, e⟩ := ob e
    refine g_iald o dX2_liveLine_71 q71 ?_
    obtain ⟨_, k72, e⟩ := ob e
    obtain ⟨x72, h72, q72, e⟩ := ob2_s e
    refine g_callVv [.int x71] o (mX10_waitFor q72) cf10 (ckO_s k72) mw_778 mw_779 mw_780 mw_13 mw_781 rfl yo_X10_waitFor rfl rfl (Nat.le_of_ble_eq_true rfl) ⟨by decide, by decide⟩ ⟨rfl, rfl⟩ dX2_liveLine_72 ⟨by decide, by decide⟩ ?_
    obtain ⟨x75, h75, q75, e⟩ := ob2_s e
    refine g_callSv [.int 20, .int x72] o (mX2_plus q75) mw_775 mw_776 mw_12 mw_777 yo_X2_plus rfl rfl (Nat.le_of_ble_eq_true rfl) ⟨by decide, by decide⟩ ⟨rfl, rfl⟩ dX2_liveLine_75 ⟨by decide, by decide⟩ ?_
    exact g_iret o dX2_liveLine_78 (rt_v q e)
  rw [if_neg u2] at e
  by_cases u3 : x5 = 14
  · rw [if_pos u3] at e
    refine g_tabAt (x := x5) 14 79 o dX2_liveLine_6 u3 (by decide) (by decide) (by decide) (by decide) ?_
    refine g_bipush (v := 30) o dX2_liveLine_79 (by decide) ?_
    refine g_aload_n 1 o dX2_liveLine_81 rfl rfl ?_
    obtain ⟨_, k82, e⟩ := ob e
    obtain ⟨x82, h82, q82, e⟩ := ob2_s e
    refine g_callVv [] o (mX10_takeOwed q82) cf10 (ckO_s k82) mw_782 mw_783 mw_784 mw_13 mw_785 rfl yo_X10_takeOwed rfl rfl (Nat.le_of_ble_eq_true rfl) ⟨by decide, by decide⟩ ⟨rfl, rfl⟩ dX2_liveLine_82 ⟨by decide, by decide⟩ ?_
    obtain ⟨x85, h85, q85, e⟩ := ob2_s e
    refine g_callSv [.int 30, .int x82] o (mX2_plus q85) mw_775 mw_776 mw_12 mw_777 yo_X2_plus rfl rfl (Nat.le_of_ble_eq_true rfl) ⟨by decide, by decide⟩ ⟨rfl, rfl⟩ dX2_liveLine_85 ⟨by decide, by decide⟩ ?_
    exact g_iret o dX2_liveLine_88 (rt_v q e)
  rw [if_neg u3] at e
  refine g_tabOut (x := x5) 89 o dX2_liveLine_6 (by have n0 := tb_ne 11 11 (by decide) u0; have n1 := tb_ne 12 12 (by decide) u1; have n2 := tb_ne 13 13 (by decide) u2; have n3 := tb_ne 14 14 (by decide) u3; omega) (by decide) ?_
  refine g_bipush (v := 40) o dX2_liveLine_89 (by decide) ?_
  refine g_aload_n 1 o dX2_liveLine_91 rfl rfl ?_
  refine g_aload_n 0 o dX2_liveLine_92 rfl rfl ?_
  obtain ⟨x93, q93, e⟩ := ob e
  refine g_getN 4 o cf2 (by decide) mw_247 dX2_liveLine_93 q93 ?_
  refine g_iload_n 2 o dX2_liveLine_96 rfl rfl ?_
  obtain ⟨x97, q97, e⟩ := ob e
  refine g_iald o dX2_liveLine_97 q97 ?_
  refine g_aload_n 0 o dX2_liveLine_98 rfl rfl ?_
  obtain ⟨x99, q99, e⟩ := ob e
  refine g_getN 3 o cf2 (by decide) mw_246 dX2_liveLine_99 q99 ?_
  refine g_iload_n 2 o dX2_liveLine_102 rfl rfl ?_
  obtain ⟨x103, q103, e⟩ := ob e
  refine g_iald o dX2_liveLine_103 q103 ?_
  obtain ⟨_, k104, e⟩ := ob e
  obtain ⟨x104, h104, q104, e⟩ := ob2_s e
  refine g_callVv [.int x97, .int x103] o (mX10_teach q104) cf10 (ckO_s k104) mw_790 mw_791 mw_792 mw_13 mw_793 rfl yo_X10_teach rfl rfl (Nat.le_of_ble_eq_true rfl) ⟨by decide, by decide⟩ ⟨rfl, rfl⟩ dX2_liveLine_104 ⟨by decide, by decide⟩ ?_
  obtain ⟨x107, h107, q107, e⟩ := ob2_s e
  refine g_callSv [.int 40, .int x104] o (mX2_plus q107) mw_775 mw_776 mw_12 mw_777 yo_X2_plus rfl rfl (Nat.le_of_ble_eq_true rfl) ⟨by decide, by decide⟩ ⟨rfl, rfl⟩ dX2_liveLine_107 ⟨by decide, by decide⟩ ?_
  exact g_iret o dX2_liveLine_110 (rt_v q e)
set_option maxRecDepth 100000 in
set_option maxHeartbeats 4000000 in
theorem kX2_live_66 {X : Cx} (f0 : Nat) (o : Ok X cX2_live RX2 2 rmX2_live (some .int)) (v0 : Nat) (v1 : Nat) (h : Hp) (r : Int32) (hz : Hp) (q : Rt X (some (.int r)) hz 0 0) (e : bX2_live_66 f0 v0 v1 h = some (r, hz)) : G X 2 66 [(0, .ref v0), (1, .ref v1)] [] h 0 0 := by
  unfold bX2_live_66 at e
  refine g_aload_n 0 o dX2_live_66 rfl rfl ?_
  refine g_aload_n 1 o dX2_live_67 rfl rfl ?_
  obtain ⟨x68, q68, e⟩ := ob e
  refine g_getI 1 o cf10 (by decide) mw_279 dX2_live_68 q68 ?_
  obtain ⟨h71, q71, e⟩ := ob e
  refine g_put (ty1 := .int) 9 o cf2 (by decide) mw_255 rfl (by decide +kernel) rfl rfl dX2_live_71 q71 ?_
  refine g_aload_n 0 o dX2_live_74 rfl rfl ?_
  refine g_aload_n 1 o dX2_live_75 rfl rfl ?_
  obtain ⟨x76, q76, e⟩ := ob e
  refine g_getI 6 o cf10 (by decide) mw_291 dX2_live_76 q76 ?_
  obtain ⟨h79, q79, e⟩ := ob e
  refine g_put (ty1 := .boolean) 10 o cf2 (by decide) mw_257 rfl (by decide +kernel) (nar_z (pfZ_s q79).1).1 (nar_z (pfZ_s q79).1).2 dX2_live_79 (pfZ_s q79).2 ?_
  refine g_aload_n 0 o dX2_live_82 rfl rfl ?_
  obtain ⟨x83, q83, e⟩ := ob e
  refine g_getI 7 o cf2 (by decide) mw_251 dX2_live_83 q83 ?_
  refine g_if_ne (x := x83) 93 o dX2_live_86 (by decide) (fun u => ?_) (fun u => ?_)
  · rw [if_neg u] at e
    refine g_aload_n 0 o dX2_live_93 rfl rfl ?_
    obtain ⟨x94, q94, e⟩ := ob e
    refine g_getI 8 o cf2 (by decide) mw_253 dX2_live_94 q94 ?_
    exact g_iret o dX2_live_97 (rt_v q e)
  · rw [if_pos u] at e
    refine g_iconst (v := -1) o dX2_live_89 (by decide) ?_
    refine g_goto 97 o dX2_live_90 (by decide) ?_
    exact g_iret o dX2_live_97 (rt_v q e)
set_option maxRecDepth 100000 in
set_option maxHeartbeats 4000000 in
theorem kX2_live_15 {X : Cx} (f0 : Nat) (o : Ok X cX2_live RX2 2 rmX2_live (some .int)) (f : Nat) (v0 : Nat) (v1 : Nat) (h : Hp) (r : Int32) (hz : Hp) (q : Rt X (some (.int r)) hz 0 0) (e : bX2_live_15 f0 f v0 v1 h = some (r, hz)) : G X 2 15 [(0, .ref v0), (1, .ref v1)] [] h 0 0 := by
  induction f generalizing v0 v1 h r hz with
  | zero => cases e
  | succ f1 ih =>
    unfold bX2_live_15 at e
    refine g_aload_n 0 o dX2_live_15 rfl rfl ?_
    obtain ⟨x16, q16, e⟩ := ob e
    refine g_getI 8 o cf2 (by decide) mw_253 dX2_live_16 q16 ?_
    refine g_aload_n 0 o dX2_live_19 rfl rfl ?_
    obtain ⟨x20, q20, e⟩ := ob e
    refine g_getI 5 o cf2 (by decide) mw_248 dX2_live_20 q20 ?_
    refine g_icmp_ge (x := x16) (y := x20) 66 o dX2_live_23 (by decide) (fun u => ?_) (fun u => ?_)
    · rw [if_pos u] at e
      exact kX2_live_66 f0 o v0 v1 h r hz q e
    · rw [if_neg u] at e
      refine g_aload_n 0 o dX2_live_26 rfl rfl ?_
      obtain ⟨x27, q27, e⟩ := ob e
      refine g_getI 7 o cf2 (by decide) mw_251 dX2_live_27 q27 ?_
      refine g_if_ne (x := x27) 66 o dX2_live_30 (by decide) (fun u => ?_) (fun u => ?_)
      · rw [if_neg u] at e
        exact kX2_live_66 f0 o v0 v1 h r hz q e
      · rw [if_pos u] at e
        refine g_aload_n 0 o dX2_live_33 rfl rfl ?_
        refine g_aload_n 0 o dX2_live_34 rfl rfl ?_
        refine g_aload_n 1 o dX2_live_35 rfl rfl ?_
        refine g_aload_n 0 o dX2_live_36 rfl rfl ?_
        obtain ⟨x37, q37, e⟩ := ob e
        refine g_getI 8 o cf2 (by decide) mw_253 dX2_live_37 q37 ?_
        obtain ⟨_, k40, e⟩ := ob e
        obtain ⟨x40, h40, q40, e⟩ := ob2_s e
        refine g_callVv [.ref v1, .int x37] o (mX2_liveLine q40) cf2 (ckO_s k40) mw_740 mw_741 mw_1707 mw_12 mw_742 rfl yo_X2_liveLine rfl rfl (Nat.le_of_ble_eq_true rfl) ⟨by decide, by decide⟩ ⟨rfl, rfl⟩ dX2_live_40 ⟨by decide, by decide⟩ ?_
        obtain ⟨h43, q43, e⟩ := ob e
        refine g_put (ty1 := .int) 7 o cf2 (by decide) mw_251 rfl (by decide +kernel) rfl rfl dX2_live_43 q43 ?_
        refine g_aload_n 0 o dX2_live_46 rfl rfl ?_
        obtain ⟨x47, q47, e⟩ := ob e
        refine g_getI 7 o cf2 (by decide) mw_251 dX2_live_47 q47 ?_
        refine g_if_ne (x := x47) 15 o dX2_live_50 (by decide) (fun u => ?_) (fun u => ?_)
        · rw [if_neg u] at e
          exact ih v0 v1 h43 r hz q e
        · rw [if_pos u] at e
          refine g_aload_n 0 o dX2_live_53 rfl rfl ?_
          refine g_dup o dX2_live_54 rfl ?_
          obtain ⟨x55, q55, e⟩ := ob e
          refine g_getI 8 o cf2 (by decide) mw_253 dX2_live_55 q55 ?_
          refine g_iconst (v := 1) o dX2_live_58 (by decide) ?_
          refine g_iadd (x := x55) (y := 1) o dX2_live_59 ?_
          obtain ⟨h60, q60, e⟩ := ob e
          refine g_put (ty1 := .int) 8 o cf2 (by decide) mw_253 rfl (by decide +kernel) rfl rfl dX2_live_60 q60 ?_
          refine g_goto 15 o dX2_live_63 (by decide) ?_
          exact ih v0 v1 h60 r hz q e
theorem yo_X2_live : yok yX2_live 1 := ⟨by decide, by decide, by decide +kernel⟩
set_option maxRecDepth 100000 in
set_option maxHeartbeats 4000000 in
theorem mX2_live {l : Launch} {D : va_G} {cy : Nat → ClassId} {f0 : Nat} {a : Nat} {p0 : Nat} {h : Hp} {r : Int32} {hz : Hp} (e : fX2_live f0 a p0 h = some (r, hz)) : MC l D cy yX2_live cX2_live 2 (some .int) rmX2_live [.ref a, .ref p0] h (some (.int r)) hz := by
  refine mc_of2 (by decide) (Nat.le_of_ble_eq_true rfl) (fun X hl hD hy hin o q => ?_)
  subst hl; subst hD; subst hy
  show G X 2 0 [(0, .ref a), (1, .ref p0)] [] h 0 0
  unfold fX2_live at e
  refine g_aload_n 0 o dX2_live_0 rfl rfl ?_
  refine g_iconst (v := 1) o dX2_live_1 (by decide) ?_
  obtain ⟨h2, q2, e⟩ := ob e
  refine g_put (ty1 := .boolean) 6 o cf2 (by decide) mw_249 rfl (by decide +kernel) (nar_z (pfZ_s q2).1).1 (nar_z (pfZ_s q2).1).2 dX2_live_2 (pfZ_s q2).2 ?_
  refine g_aload_n 0 o dX2_live_5 rfl rfl ?_
  refine g_iconst (v := 0) o dX2_live_6 (by decide) ?_
  obtain ⟨h7, q7, e⟩ := ob e
  refine g_put (ty1 := .int) 7 o cf2 (by decide) mw_251 rfl (by decide +kernel) rfl rfl dX2_live_7 q7 ?_
  refine g_aload_n 0 o dX2_live_10 rfl rfl ?_
  refine g_iconst (v := 0) o dX2_live_11 (by decide) ?_
  obtain ⟨h12, q12, e⟩ := ob e
  refine g_put (ty1 := .int) 8 o cf2 (by decide) mw_253 rfl (by decide +kernel) rfl rfl dX2_live_12 q12 ?_
  exact kX2_live_15 f0 o f0 a p0 h12 r hz q e
set_option maxRecDepth 100000 in
set_option maxHeartbeats 4000000 in
theorem kX11_forgetOldest_9 {X : Cx} (f0 : Nat) (o : Ok X cX11_forgetOldest RX11 3 rmX11_forgetOldest none) (f : Nat) (v0 : Nat) (v1 : Nat) (v2 : Int32) (h : Hp) (hz : Hp) (q : Rt X none hz 0 0) (e : bX11_forgetOldest_9 f0 f v0 v1 v2 h = some hz) : G X 3 9 [(0, .ref v0), (1, .ref v1), (2, .int v2)] [] h 0 0 := by
  induction f generalizing v0 v1 v2 h hz with
  | zero => cases e
  | succ f1 ih =>
    unfold bX11_forgetOldest_9 at e
    refine g_iload_n 2 o dX11_forgetOldest_9 rfl rfl ?_
    refine g_bipush (v := 8) o dX11_forgetOldest_10 (by decide) ?_
    refine g_icmp_ge (x := v2) (y := 8) 35 o dX11_forgetOldest_12 (by decide) (fun u => ?_) (fun u => ?_)
    · rw [if_pos u] at e
      refine g_aload_n 0 o dX11_forgetOldest_35 rfl rfl ?_
      obtain ⟨x36, q36, e⟩ := ob e
      refine g_getN 13 o cf11 (by decide) mw_377 dX11_forgetOldest_36 q36 ?_
      refine g_bipush (v := 7) o dX11_forgetOldest_39 (by decide) ?_
      refine g_aload_n 1 o dX11_forgetOldest_41 rfl rfl ?_
      obtain ⟨_, k42, e⟩ := ob e
      obtain ⟨h42, q42, e⟩ := ob e
      refine g_astQ o cf10 rfl dX11_forgetOldest_42 (ckO_s k42) q42 ?_
      refine g_aload_n 0 o dX11_forgetOldest_43 rfl rfl ?_
      refine g_bipush (v := 7) o dX11_forgetOldest_44 (by decide) ?_
      obtain ⟨h46, q46, e⟩ := ob e
      refine g_put (ty1 := .int) 14 o cf11 (by decide) mw_378 rfl (by decide +kernel) rfl rfl dX11_forgetOldest_46 q46 ?_
      exact g_vret o dX11_forgetOldest_49 (rt_0 q e)
    · rw [if_neg u] at e
      refine g_aload_n 0 o dX11_forgetOldest_15 rfl rfl ?_
      obtain ⟨x16, q16, e⟩ := ob e
      refine g_getN 13 o cf11 (by decide) mw_377 dX11_forgetOldest_16 q16 ?_
      refine g_iload_n 2 o dX11_forgetOldest_19 rfl rfl ?_
      refine g_iconst (v := 1) o dX11_forgetOldest_20 (by decide) ?_
      refine g_isub (x := v2) (y := 1) o dX11_forgetOldest_21 ?_
      refine g_aload_n 0 o dX11_forgetOldest_22 rfl rfl ?_
      obtain ⟨x23, q23, e⟩ := ob e
      refine g_getN 13 o cf11 (by decide) mw_377 dX11_forgetOldest_23 q23 ?_
      refine g_iload_n 2 o dX11_forgetOldest_26 rfl rfl ?_
      obtain ⟨x27, q27, e⟩ := ob e
      refine g_aldN (C := RX10) rfl o dX11_forgetOldest_27 q27 ?_
      obtain ⟨_, k28, e⟩ := ob e
      obtain ⟨h28, q28, e⟩ := ob e
      refine g_astQ o cf10 rfl dX11_forgetOldest_28 (ckO_s k28) q28 ?_
      refine g_iinc (k := 2) (v := (v2 + 1)) [(2, .int (v2 + 1)), (0, .ref v0), (1, .ref v1)] o dX11_forgetOldest_29 rfl rfl (by decide) rfl ?_
      refine g_goto 9 o dX11_forgetOldest_32 (by decide) ?_
      refine g_sb [1, 2, 0] rfl ?_
      exact ih v0 v1 (v2 + 1) h28 hz q e
theorem yo_X11_forgetOldest : yok yX11_forgetOldest 0 := ⟨by decide, by decide, by decide +kernel⟩
set_option maxRecDepth 100000 in
set_option maxHeartbeats 4000000 in
theorem mX11_forgetOldest {l : Launch} {D : va_G} {cy : Nat → ClassId} {f0 : Nat} {a : Nat} {h : Hp} {hz : Hp} (e : fX11_forgetOldest f0 a h = some hz) : MC l D cy yX11_forgetOldest cX11_forgetOldest 3 none rmX11_forgetOldest [.ref a] h none hz := by
  refine mc_of2 (by decide) (Nat.le_of_ble_eq_true rfl) (fun X hl hD hy hin o q => ?_)
  subst hl; subst hD; subst hy
  show G X 3 0 [(0, .ref a)] [] h 0 0
  unfold fX11_forgetOldest at e
  refine g_aload_n 0 o dX11_forgetOldest_0 rfl rfl ?_
  obtain ⟨x1, q1, e⟩ := ob e
  refine g_getN 13 o cf11 (by decide) mw_377 dX11_forgetOldest_1 q1 ?_
  refine g_iconst (v := 0) o dX11_forgetOldest_4 (by decide) ?_
  obtain ⟨x5, q5, e⟩ := ob e
  refine g_aldN (C := RX10) rfl o dX11_forgetOldest_5 q5 ?_
  refine g_astore_n [(1, .ref x5), (0, .ref a)] o dX11_forgetOldest_6 rfl (by decide) rfl ?_
  refine g_iconst (v := 1) o dX11_forgetOldest_7 (by decide) ?_
  refine g_istore_n [(2, .int 1), (1, .ref x5), (0, .ref a)] o dX11_forgetOldest_8 rfl (by decide) rfl ?_
  refine g_sb [2, 1, 0] rfl ?_
  exact kX11_forgetOldest_9 f0 o f0 a x5 1 h hz q e
set_option maxRecDepth 100000 in
set_option maxHeartbeats 4000000 in
theorem kX11_keepTrial_13 {X : Cx} (f0 : Nat) (o : Ok X cX11_keepTrial RX11 2 rmX11_keepTrial none) (v0 : Nat) (h : Hp) (hz : Hp) (q : Rt X none hz 0 0) (e : bX11_keepTrial_13 f0 v0 h = some hz) : G X 2 13 [(0, .ref v0)] [] h 0 0 := by
  unfold bX11_keepTrial_13 at e
  refine g_aload_n 0 o dX11_keepTrial_13 rfl rfl ?_
  obtain ⟨x14, q14, e⟩ := ob e
  refine g_getN 13 o cf11 (by decide) mw_377 dX11_keepTrial_14 q14 ?_
  refine g_aload_n 0 o dX11_keepTrial_17 rfl rfl ?_
  obtain ⟨x18, q18, e⟩ := ob e
  refine g_getI 14 o cf11 (by decide) mw_378 dX11_keepTrial_18 q18 ?_
  obtain ⟨x21, q21, e⟩ := ob e
  refine g_aldN (C := RX10) rfl o dX11_keepTrial_21 q21 ?_
  refine g_astore_n [(1, .ref x21), (0, .ref v0)] o dX11_keepTrial_22 rfl (by decide) rfl ?_
  refine g_aload_n 1 o dX11_keepTrial_23 rfl rfl ?_
  obtain ⟨x24, q24, e⟩ := ob e
  refine g_getN 13 o cf11 (by decide) mw_377 dX11_keepTrial_24 q24 ?_
  refine g_aload_n 1 o dX11_keepTrial_27 rfl rfl ?_
  obtain ⟨x28, q28, e⟩ := ob e
  refine g_getI 14 o cf11 (by decide) mw_378 dX11_keepTrial_28 q28 ?_
  refine g_aload_n 1 o dX11_keepTrial_31 rfl rfl ?_
  obtain ⟨x32, q32, e⟩ := ob e
  refine g_getN 11 o cf11 (by decide) mw_375 dX11_keepTrial_32 q32 ?_
  obtain ⟨_, k35, e⟩ := ob e
  obtain ⟨h35, q35, e⟩ := ob e
  refine g_astQ o cf10 rfl dX11_keepTrial_35 (ckO_s k35) q35 ?_
  refine g_aload_n 1 o dX11_keepTrial_36 rfl rfl ?_
  refine g_aload_n 1 o dX11_keepTrial_37 rfl rfl ?_
  obtain ⟨x38, q38, e⟩ := ob e
  refine g_getN 12 o cf11 (by decide) mw_376 dX11_keepTrial_38 q38 ?_
  obtain ⟨h41, q41, e⟩ := ob e
  refine g_put (ty1 := (.object "FalseName$Ship")) 11 o cf11 (by decide) mw_375 rfl (by decide +kernel) rfl rfl dX11_keepTrial_41 q41 ?_
  refine g_aload_n 1 o dX11_keepTrial_44 rfl rfl ?_
  refine g_aload_n 0 o dX11_keepTrial_45 rfl rfl ?_
  obtain ⟨h46, q46, e⟩ := ob e
  refine g_put (ty1 := (.object "FalseName$Ship")) 12 o cf11 (by decide) mw_376 rfl (by decide +kernel) rfl rfl dX11_keepTrial_46 q46 ?_
  refine g_aload_n 1 o dX11_keepTrial_49 rfl rfl ?_
  refine g_dup o dX11_keepTrial_50 rfl ?_
  obtain ⟨x51, q51, e⟩ := ob e
  refine g_getI 14 o cf11 (by decide) mw_378 dX11_keepTrial_51 q51 ?_
  refine g_iconst (v := 1) o dX11_keepTrial_54 (by decide) ?_
  refine g_iadd (x := x51) (y := 1) o dX11_keepTrial_55 ?_
  obtain ⟨h56, q56, e⟩ := ob e
  refine g_put (ty1 := .int) 14 o cf11 (by decide) mw_378 rfl (by decide +kernel) rfl rfl dX11_keepTrial_56 q56 ?_
  exact g_vret o dX11_keepTrial_59 (rt_0 q e)
theorem yo_X11_keepTrial : yok yX11_keepTrial 0 := ⟨by decide, by decide, by decide +kernel⟩
set_option maxRecDepth 100000 in
set_option maxHeartbeats 4000000 in
theorem mX11_keepTrial {l : Launch} {D : va_G} {cy : Nat → ClassId} {f0 : Nat} {a : Nat} {h : Hp} {hz : Hp} (e : fX11_keepTrial f0 a h = some hz) : MC l D cy yX11_keepTrial cX11_keepTrial 2 none rmX11_keepTrial [.ref a] h none hz := by
  refine mc_of2 (by decide) (Nat.le_of_ble_eq_true rfl) (fun X hl hD hy hin o q => ?_)
  subst hl; subst hD; subst hy
  show G X 2 0 [(0, .ref a)] [] h 0 0
  unfold fX11_keepTrial at e
  refine g_aload_n 0 o dX11_keepTrial_0 rfl rfl ?_
  obtain ⟨x1, q1, e⟩ := ob e
  refine g_getI 14 o cf11 (by decide) mw_378 dX11_keepTrial_1 q1 ?_
  refine g_bipush (v := 8) o dX11_keepTrial_4 (by decide) ?_
  refine g_icmp_lt (x := x1) (y := 8) 13 o dX11_keepTrial_6 (by decide) (fun u => ?_) (fun u => ?_)
  · rw [if_pos u] at e
    exact kX11_keepTrial_13 f0 o a h hz q e
  · rw [if_neg u] at e
    refine g_aload_n 0 o dX11_keepTrial_9 rfl rfl ?_
    obtain ⟨_, k10, e⟩ := ob e
    obtain ⟨h10, q10, e⟩ := ob e
    refine g_callV0 [] o (mX11_forgetOldest q10) cf11 (ckO_s k10) mw_797 mw_798 mw_1712 mw_1 mw_799 rfl yo_X11_forgetOldest rfl rfl (Nat.le_of_ble_eq_true rfl) ⟨by decide, by decide⟩ ⟨rfl, rfl⟩ dX11_keepTrial_10 ⟨by decide, by decide⟩ ?_
    exact kX11_keepTrial_13 f0 o a h10 hz q e
set_option maxRecDepth 100000 in
set_option maxHeartbeats 4000000 in
theorem kX11_log_93 {X : Cx} (f0 : Nat) (o : Ok X cX11_log RX11 4 rmX11_log (some .int)) (v3 : Int32) (h : Hp) (r : Int32) (hz : Hp) (q : Rt X (some (.int r)) hz 0 0) (e : bX11_log_93 f0 v3 h = some (r, hz)) : G X 4 93 [(3, .int v3)] [] h 0 0 := by
  unfold bX11_log_93 at e
  refine g_iload_n 0 o dX11_log_93 rfl rfl ?_
  exact g_iret o dX11_log_94 (rt_v q e)
set_option maxRecDepth 100000 in
set_option maxHeartbeats 4000000 in
theorem kX11_log_13 {X : Cx} (f0 : Nat) (o : Ok X cX11_log RX11 4 rmX11_log (some .int)) (v0 : Nat) (v1 : Int32) (h : Hp) (r : Int32) (hz : Hp) (q : Rt X (some (.int r)) hz 0 0) (e : bX11_log_13 f0 v0 v1 h = some (r, hz)) : G X 4 13 [(0, .ref v0), (1, .int v1)] [] h 0 0 := by
  unfold bX11_log_13 at e
  refine g_aload_n 0 o dX11_log_13 rfl rfl ?_
  obtain ⟨x14, q14, e⟩ := ob e
  refine g_getN 10 o cf11 (by decide) mw_374 dX11_log_14 q14 ?_
  refine g_aload_n 0 o dX11_log_17 rfl rfl ?_
  obtain ⟨_, k18, e⟩ := ob e
  obtain ⟨x18, h18, q18, e⟩ := ob2_s e
  refine g_callVv [] o (mX11_takeTape q18) cf11 (ckO_s k18) mw_415 mw_416 mw_1685 mw_1 mw_417 rfl yo_X11_takeTape rfl rfl (Nat.le_of_ble_eq_true rfl) ⟨by decide, by decide⟩ ⟨rfl, rfl⟩ dX11_log_18 ⟨by decide, by decide⟩ ?_
  obtain ⟨_, k21, e⟩ := ob e
  obtain ⟨x21, h21, q21, e⟩ := ob2_s e
  refine g_callVv [.int x18] o (mX2_read q21) cf2 (ckO_s k21) mw_711 mw_712 mw_713 mw_12 mw_714 rfl yo_X2_read rfl rfl (Nat.le_of_ble_eq_true rfl) ⟨by decide, by decide⟩ ⟨rfl, rfl⟩ dX11_log_21 ⟨by decide, by decide⟩ ?_
  refine g_istore_n [(2, .int x21), (0, .ref v0), (1, .int v1)] o dX11_log_24 rfl (by decide) rfl ?_
  refine g_aload_n 1 o dX11_log_25 rfl rfl ?_
  refine g_aload_n 1 o dX11_log_26 rfl rfl ?_
  obtain ⟨x27, q27, e⟩ := ob e
  refine g_getN 2 o cf11 (by decide) mw_366 dX11_log_27 q27 ?_
  obtain ⟨x30, q30, e⟩ := ob e
  refine g_getI 10 o cf4 (by decide) mw_102 dX11_log_30 q30 ?_
  obtain ⟨h33, q33, e⟩ := ob e
  refine g_put (ty1 := .int) 3 o cf11 (by decide) mw_367 rfl (by decide +kernel) rfl rfl dX11_log_33 q33 ?_
  refine g_iload_n 0 o dX11_log_36 rfl rfl ?_
  refine g_if_ne (x := x21) 51 o dX11_log_37 (by decide) (fun u => ?_) (fun u => ?_)
  · rw [if_neg u] at e
    refine g_aload_n 1 o dX11_log_51 rfl rfl ?_
    obtain ⟨x52, q52, e⟩ := ob e
    refine g_getN 12 o cf11 (by decide) mw_376 dX11_log_52 q52 ?_
    refine g_aload_n 1 o dX11_log_55 rfl rfl ?_
    obtain ⟨x56, q56, e⟩ := ob e
    refine g_getN 11 o cf11 (by decide) mw_375 dX11_log_56 q56 ?_
    obtain ⟨_, k59, e⟩ := ob e
    obtain ⟨h59, q59, e⟩ := ob e
    refine g_callV0 [.ref x56] o (mX10_copyFrom q59) cf10 (ckO_s k59) mw_732 mw_733 mw_734 mw_13 mw_735 rfl yo_X10_copyFrom rfl rfl (Nat.le_of_ble_eq_true rfl) ⟨by decide, by decide⟩ ⟨rfl, rfl⟩ dX11_log_59 ⟨by decide, by decide⟩ ?_
    refine g_aload_n 1 o dX11_log_62 rfl rfl ?_
    obtain ⟨x63, q63, e⟩ := ob e
    refine g_getN 10 o cf11 (by decide) mw_374 dX11_log_63 q63 ?_
    refine g_aload_n 1 o dX11_log_66 rfl rfl ?_
    obtain ⟨x67, q67, e⟩ := ob e
    refine g_getN 12 o cf11 (by decide) mw_376 dX11_log_67 q67 ?_
    obtain ⟨_, k70, e⟩ := ob e
    obtain ⟨x70, h70, q70, e⟩ := ob2_s e
    refine g_callVv [.ref x67] o (mX2_live q70) cf2 (ckO_s k70) mw_736 mw_737 mw_738 mw_12 mw_739 rfl yo_X2_live rfl rfl (Nat.le_of_ble_eq_true rfl) ⟨by decide, by decide⟩ ⟨rfl, rfl⟩ dX11_log_70 ⟨by decide, by decide⟩ ?_
    refine g_istore_n [(3, .int x70), (2, .int x21), (0, .ref v0), (1, .int v1)] o dX11_log_73 rfl (by decide) rfl ?_
    refine g_iload_n 3 o dX11_log_74 rfl rfl ?_
    refine g_iconst (v := 1) o dX11_log_75 (by decide) ?_
    refine g_icmp_ne (x := v1) (y := 1) 93 o dX11_log_76 (by decide) (fun u => ?_) (fun u => ?_)
    · rw [if_neg u] at e
      refine g_sb [0] rfl ?_
      exact kX11_log_93 f0 o x70 h70 r hz q e
    · rw [if_pos u] at e
      refine g_aload_n 2 o dX11_log_79 rfl rfl ?_
      obtain ⟨x80, q80, e⟩ := ob e
      refine g_getN 10 o cf11 (by decide) mw_374 dX11_log_80 q80 ?_
      obtain ⟨x83, q83, e⟩ := ob e
      refine g_getI 8 o cf2 (by decide) mw_254 dX11_log_83 q83 ?_
      refine g_if_le (x := x83) 93 o dX11_log_86 (by decide) (fun u => ?_) (fun u => ?_)
      · rw [if_pos u] at e
        refine g_sb [0] rfl ?_
        exact kX11_log_93 f0 o x70 h70 r hz q e
      · rw [if_neg u] at e
        refine g_aload_n 2 o dX11_log_89 rfl rfl ?_
        obtain ⟨_, k90, e⟩ := ob e
        obtain ⟨h90, q90, e⟩ := ob e
        refine g_callV0 [] o (mX11_keepTrial q90) cf11 (ckO_s k90) mw_794 mw_795 mw_1711 mw_1 mw_796 rfl yo_X11_keepTrial rfl rfl (Nat.le_of_ble_eq_true rfl) ⟨by decide, by decide⟩ ⟨rfl, rfl⟩ dX11_log_90 ⟨by decide, by decide⟩ ?_
        refine g_sb [0] rfl ?_
        exact kX11_log_93 f0 o x70 h90 r hz q e
  · rw [if_pos u] at e
    refine g_bipush (v := -2) o dX11_log_40 (by decide) ?_
    refine g_aload_n 1 o dX11_log_42 rfl rfl ?_
    obtain ⟨x43, q43, e⟩ := ob e
    refine g_getN 2 o cf11 (by decide) mw_366 dX11_log_43 q43 ?_
    obtain ⟨x46, q46, e⟩ := ob e
    refine g_getI 11 o cf4 (by decide) mw_104 dX11_log_46 q46 ?_
    refine g_isub (x := ((-2) : Int32)) (y := x46) o dX11_log_49 ?_
    exact g_iret o dX11_log_50 (rt_v q e)
theorem yo_X11_log : yok yX11_log 1 := ⟨by decide, by decide, by decide +kernel⟩
set_option maxRecDepth 100000 in
set_option maxHeartbeats 4000000 in
theorem mX11_log {l : Launch} {D : va_G} {cy : Nat → ClassId} {f0 : Nat} {a : Nat} {p0 : Int32} {h : Hp} {r : Int32} {hz : Hp} (e : fX11_log f0 a p0 h = some (r, hz)) : MC l D cy yX11_log cX11_log 4 (some .int) rmX11_log [.ref a, .int p0] h (some (.int r)) hz := by
  refine mc_of2 (by decide) (Nat.le_of_ble_eq_true rfl) (fun X hl hD hy hin o q => ?_)
  subst hl; subst hD; subst hy
  show G X 4 0 [(0, .ref a), (1, .int p0)] [] h 0 0
  unfold fX11_log at e
  refine g_iload_n 1 o dX11_log_0 rfl rfl ?_
  refine g_if_eq (x := p0) 13 o dX11_log_1 (by decide) (fun u => ?_) (fun u => ?_)
  · rw [if_pos u] at e
    exact kX11_log_13 f0 o a p0 h r hz q e
  · rw [if_neg u] at e
    refine g_iload_n 1 o dX11_log_4 rfl rfl ?_
    refine g_iconst (v := 1) o dX11_log_5 (by decide) ?_
    refine g_icmp_eq (x := p0) (y := 1) 13 o dX11_log_6 (by decide) (fun u => ?_) (fun u => ?_)
    · rw [if_pos u] at e
      exact kX11_log_13 f0 o a p0 h r hz q e
    · rw [if_neg u] at e
      refine g_sipush (v := -1000) o dX11_log_9 (by decide) ?_
      exact g_iret o dX11_log_12 (rt_v q e)
theorem yo_X11_logged : yok yX11_logged 1 := ⟨by decide, by decide, by decide +kernel⟩
set_option maxRecDepth 100000 in
set_option maxHeartbeats 4000000 in
theorem mX11_logged {l : Launch} {D : va_G} {cy : Nat → ClassId} {f0 : Nat} {a : Nat} {p0 : Int32} {h : Hp} {r : Int32} {hz : Hp} (e : fX11_logged f0 a p0 h = some (r, hz)) : MC l D cy yX11_logged cX11_logged 2 (some .int) rmX11_logged [.ref a, .int p0] h (some (.int r)) hz := by
  refine mc_of2 (by decide) (Nat.le_of_ble_eq_true rfl) (fun X hl hD hy hin o q => ?_)
  subst hl; subst hD; subst hy
  show G X 2 0 [(0, .ref a), (1, .int p0)] [] h 0 0
  unfold fX11_logged at e
  refine g_aload_n 0 o dX11_logged_0 rfl rfl ?_
  obtain ⟨x1, q1, e⟩ := ob e
  refine g_getN 10 o cf11 (by decide) mw_374 dX11_logged_1 q1 ?_
  obtain ⟨x4, q4, e⟩ := ob e
  refine g_getI 6 o cf2 (by decide) mw_250 dX11_logged_4 q4 ?_
  refine g_if_ne (x := x4) 12 o dX11_logged_7 (by decide) (fun u => ?_) (fun u => ?_)
  · rw [if_neg u] at e
    refine g_iload_n 1 o dX11_logged_12 rfl rfl ?_
    by_cases u0 : p0 = 0
    · rw [if_pos u0] at e
      refine g_tabAt (x := p0) 0 44 o dX11_logged_13 u0 (by decide) (by decide) (by decide) (by decide) ?_
      refine g_aload_n 0 o dX11_logged_44 rfl rfl ?_
      obtain ⟨x45, q45, e⟩ := ob e
      refine g_getN 10 o cf11 (by decide) mw_374 dX11_logged_45 q45 ?_
      obtain ⟨x48, q48, e⟩ := ob e
      refine g_getI 7 o cf2 (by decide) mw_252 dX11_logged_48 q48 ?_
      exact g_iret o dX11_logged_51 (rt_v q e)
    rw [if_neg u0] at e
    by_cases u1 : p0 = 1
    · rw [if_pos u1] at e
      refine g_tabAt (x := p0) 1 52 o dX11_logged_13 u1 (by decide) (by decide) (by decide) (by decide) ?_
      refine g_aload_n 0 o dX11_logged_52 rfl rfl ?_
      obtain ⟨x53, q53, e⟩ := ob e
      refine g_getN 10 o cf11 (by decide) mw_374 dX11_logged_53 q53 ?_
      obtain ⟨x56, q56, e⟩ := ob e
      refine g_getI 8 o cf2 (by decide) mw_254 dX11_logged_56 q56 ?_
      exact g_iret o dX11_logged_59 (rt_v q e)
    rw [if_neg u1] at e
    by_cases u2 : p0 = 2
    · rw [if_pos u2] at e
      refine g_tabAt (x := p0) 2 60 o dX11_logged_13 u2 (by decide) (by decide) (by decide) (by decide) ?_
      refine g_aload_n 0 o dX11_logged_60 rfl rfl ?_
      obtain ⟨x61, q61, e⟩ := ob e
      refine g_getN 10 o cf11 (by decide) mw_374 dX11_logged_61 q61 ?_
      obtain ⟨x64, q64, e⟩ := ob e
      refine g_getI 9 o cf2 (by decide) mw_256 dX11_logged_64 q64 ?_
      exact g_iret o dX11_logged_67 (rt_v q e)
    rw [if_neg u2] at e
    by_cases u3 : p0 = 3
    · rw [if_pos u3] at e
      refine g_tabAt (x := p0) 3 68 o dX11_logged_13 u3 (by decide) (by decide) (by decide) (by decide) ?_
      refine g_aload_n 0 o dX11_logged_68 rfl rfl ?_
      obtain ⟨x69, q69, e⟩ := ob e
      refine g_getN 10 o cf11 (by decide) mw_374 dX11_logged_69 q69 ?_
      obtain ⟨x72, q72, e⟩ := ob e
      refine g_getI 10 o cf2 (by decide) mw_258 dX11_logged_72 q72 ?_
      refine g_if_eq (x := x72) 82 o dX11_logged_75 (by decide) (fun u => ?_) (fun u => ?_)
      · rw [if_pos u] at e
        refine g_iconst (v := 0) o dX11_logged_82 (by decide) ?_
        exact g_iret o dX11_logged_83 (rt_v q e)
      · rw [if_neg u] at e
        refine g_iconst (v := 1) o dX11_logged_78 (by decide) ?_
        refine g_goto 83 o dX11_logged_79 (by decide) ?_
        exact g_iret o dX11_logged_83 (rt_v q e)
    rw [if_neg u3] at e
    refine g_tabOut (x := p0) 84 o dX11_logged_13 (by have n0 := tb_ne 0 0 (by decide) u0; have n1 := tb_ne 1 1 (by decide) u1; have n2 := tb_ne 2 2 (by decide) u2; have n3 := tb_ne 3 3 (by decide) u3; omega) (by decide) ?_
    refine g_iconst (v := -1) o dX11_logged_84 (by decide) ?_
    exact g_iret o dX11_logged_85 (rt_v q e)
  · rw [if_pos u] at e
    refine g_iconst (v := -1) o dX11_logged_10 (by decide) ?_
    exact g_iret o dX11_logged_11 (rt_v q e)
set_option maxRecDepth 100000 in
set_option maxHeartbeats 4000000 in
theorem kX11_count_19 {X : Cx} (f0 : Nat) (o : Ok X cX11_count RX11 2 rmX11_count (some .int)) (v0 : Nat) (v1 : Int32) (h : Hp) (r : Int32) (hz : Hp) (q : Rt X (some (.int r)) hz 0 0) (e : bX11_count_19 f0 v0 v1 h = some (r, hz)) : G X 2 19 [(0, .ref v0), (1, .int v1)] [] h 0 0 := by
  unfold bX11_count_19 at e
  refine g_iload_n 1 o dX11_count_19 rfl rfl ?_
  refine g_bipush (v := 6) o dX11_count_20 (by decide) ?_
  refine g_icmp_ne (x := v1) (y := 6) 33 o dX11_count_22 (by decide) (fun u => ?_) (fun u => ?_)
  · rw [if_neg u] at e
    refine g_iload_n 1 o dX11_count_33 rfl rfl ?_
    refine g_bipush (v := 7) o dX11_count_34 (by decide) ?_
    refine g_icmp_ne (x := v1) (y := 7) 46 o dX11_count_36 (by decide) (fun u => ?_) (fun u => ?_)
    · rw [if_neg u] at e
      refine g_iconst (v := -1) o dX11_count_46 (by decide) ?_
      exact g_iret o dX11_count_47 (rt_v q e)
    · rw [if_pos u] at e
      refine g_aload_n 0 o dX11_count_39 rfl rfl ?_
      obtain ⟨x40, q40, e⟩ := ob e
      refine g_getI 1 o cf11 (by decide) mw_365 dX11_count_40 q40 ?_
      refine g_goto 47 o dX11_count_43 (by decide) ?_
      exact g_iret o dX11_count_47 (rt_v q e)
  · rw [if_pos u] at e
    refine g_aload_n 0 o dX11_count_25 rfl rfl ?_
    obtain ⟨x26, q26, e⟩ := ob e
    refine g_getN 4 o cf11 (by decide) mw_368 dX11_count_26 q26 ?_
    obtain ⟨x29, q29, e⟩ := ob e
    refine g_getI 2 o cf6 (by decide) mw_150 dX11_count_29 q29 ?_
    exact g_iret o dX11_count_32 (rt_v q e)
theorem yo_X11_count : yok yX11_count 1 := ⟨by decide, by decide, by decide +kernel⟩
set_option maxRecDepth 100000 in
set_option maxHeartbeats 4000000 in
theorem mX11_count {l : Launch} {D : va_G} {cy : Nat → ClassId} {f0 : Nat} {a : Nat} {p0 : Int32} {h : Hp} {r : Int32} {hz : Hp} (e : fX11_count f0 a p0 h = some (r, hz)) : MC l D cy yX11_count cX11_count 2 (some .int) rmX11_count [.ref a, .int p0] h (some (.int r)) hz := by
  refine mc_of2 (by decide) (Nat.le_of_ble_eq_true rfl) (fun X hl hD hy hin o q => ?_)
  subst hl; subst hD; subst hy
  show G X 2 0 [(0, .ref a), (1, .int p0)] [] h 0 0
  unfold fX11_count at e
  refine g_iload_n 1 o dX11_count_0 rfl rfl ?_
  refine g_if_lt (x := p0) 19 o dX11_count_1 (by decide) (fun u => ?_) (fun u => ?_)
  · rw [if_pos u] at e
    exact kX11_count_19 f0 o a p0 h r hz q e
  · rw [if_neg u] at e
    refine g_iload_n 1 o dX11_count_4 rfl rfl ?_
    refine g_iconst (v := 5) o dX11_count_5 (by decide) ?_
    refine g_icmp_gt (x := p0) (y := 5) 19 o dX11_count_6 (by decide) (fun u => ?_) (fun u => ?_)
    · rw [if_pos u] at e
      exact kX11_count_19 f0 o a p0 h r hz q e
    · rw [if_neg u] at e
      refine g_aload_n 0 o dX11_count_9 rfl rfl ?_
      obtain ⟨x10, q10, e⟩ := ob e
      refine g_getN 4 o cf11 (by decide) mw_368 dX11_count_10 q10 ?_
      obtain ⟨x13, q13, e⟩ := ob e
      refine g_getN 1 o cf6 (by decide) mw_147 dX11_count_13 q13 ?_
      refine g_iload_n 1 o dX11_count_16 rfl rfl ?_
      obtain ⟨x17, q17, e⟩ := ob e
      refine g_iald o dX11_count_17 q17 ?_
      exact g_iret o dX11_count_18 (rt_v q e)
theorem yo_X11_orNone : yok yX11_orNone 1 := ⟨by decide, by decide, by decide +kernel⟩
set_option maxRecDepth 100000 in
set_option maxHeartbeats 4000000 in
theorem mX11_orNone {l : Launch} {D : va_G} {cy : Nat → ClassId} {f0 : Nat} {p0 : Int32} {h : Hp} {r : Int32} {hz : Hp} (e : fX11_orNone f0 p0 h = some (r, hz)) : MC l D cy yX11_orNone cX11_orNone 1 (some .int) rmX11_orNone [.int p0] h (some (.int r)) hz := by
  refine mc_of2 (by decide) (Nat.le_of_ble_eq_true rfl) (fun X hl hD hy hin o q => ?_)
  subst hl; subst hD; subst hy
  show G X 1 0 [(0, .int p0)] [] h 0 0
  unfold fX11_orNone at e
  refine g_iload_n 0 o dX11_orNone_0 rfl rfl ?_
  refine g_if_ne (x := p0) 8 o dX11_orNone_1 (by decide) (fun u => ?_) (fun u => ?_)
  · rw [if_neg u] at e
    refine g_iload_n 0 o dX11_orNone_8 rfl rfl ?_
    exact g_iret o dX11_orNone_9 (rt_v q e)
  · rw [if_pos u] at e
    refine g_iconst (v := -1) o dX11_orNone_4 (by decide) ?_
    refine g_goto 9 o dX11_orNone_5 (by decide) ?_
    exact g_iret o dX11_orNone_9 (rt_v q e)
theorem yo_X11_way : yok yX11_way 2 := ⟨by decide, by decide, by decide +kernel⟩
set_option maxRecDepth 100000 in
set_option maxHeartbeats 4000000 in
theorem mX11_way {l : Launch} {D : va_G} {cy : Nat → ClassId} {f0 : Nat} {a : Nat} {p0 : Int32} {p1 : Int32} {h : Hp} {r : Int32} {hz : Hp} (e : fX11_way f0 a p0 p1 h = some (r, hz)) : MC l D cy yX11_way cX11_way 3 (some .int) rmX11_way [.ref a, .int p0, .int p1] h (some (.int r)) hz := by
  refine mc_of2 (by decide) (Nat.le_of_ble_eq_true rfl) (fun X hl hD hy hin o q => ?_)
  subst hl; subst hD; subst hy
  show G X 3 0 [(0, .ref a), (1, .int p0), (2, .int p1)] [] h 0 0
  unfold fX11_way at e
  refine g_aload_n 0 o dX11_way_0 rfl rfl ?_
  obtain ⟨x1, q1, e⟩ := ob e
  refine g_getN 4 o cf11 (by decide) mw_368 dX11_way_1 q1 ?_
  refine g_iload_n 1 o dX11_way_4 rfl rfl ?_
  refine g_iload_n 2 o dX11_way_5 rfl rfl ?_
  obtain ⟨_, k6, e⟩ := ob e
  obtain ⟨x6, h6, q6, e⟩ := ob2_s e
  refine g_callVv [.int p0, .int p1] o (mX6_hasPorts q6) cf6 (ckO_s k6) mw_812 mw_678 mw_679 mw_7 mw_680 rfl yo_X6_hasPorts rfl rfl (Nat.le_of_ble_eq_true rfl) ⟨by decide, by decide⟩ ⟨rfl, rfl⟩ dX11_way_6 ⟨by decide, by decide⟩ ?_
  refine g_if_eq (x := x6) 32 o dX11_way_9 (by decide) (fun u => ?_) (fun u => ?_)
  · rw [if_pos u] at e
    refine g_iconst (v := -1) o dX11_way_32 (by decide) ?_
    exact g_iret o dX11_way_33 (rt_v q e)
  · rw [if_neg u] at e
    refine g_aload_n 0 o dX11_way_12 rfl rfl ?_
    obtain ⟨x13, q13, e⟩ := ob e
    refine g_getN 4 o cf11 (by decide) mw_368 dX11_way_13 q13 ?_
    obtain ⟨x16, q16, e⟩ := ob e
    refine g_getN 3 o cf6 (by decide) mw_155 dX11_way_16 q16 ?_
    refine g_iload_n 1 o dX11_way_19 rfl rfl ?_
    refine g_bipush (v := 8) o dX11_way_20 (by decide) ?_
    refine g_imul (x := p0) (y := 8) o dX11_way_22 ?_
    refine g_iload_n 2 o dX11_way_23 rfl rfl ?_
    refine g_iadd (x := (p0 * 8)) (y := p1) o dX11_way_24 ?_
    obtain ⟨x25, q25, e⟩ := ob e
    refine g_iald o dX11_way_25 q25 ?_
    obtain ⟨x26, h26, q26, e⟩ := ob2_s e
    refine g_callSv [.int x25] o (mX11_orNone q26) mw_813 mw_814 mw_1 mw_815 yo_X11_orNone rfl rfl (Nat.le_of_ble_eq_true rfl) ⟨by decide, by decide⟩ ⟨rfl, rfl⟩ dX11_way_26 ⟨by decide, by decide⟩ ?_
    refine g_goto 33 o dX11_way_29 (by decide) ?_
    exact g_iret o dX11_way_33 (rt_v q e)
theorem yo_X11_mail : yok yX11_mail 2 := ⟨by decide, by decide, by decide +kernel⟩
set_option maxRecDepth 100000 in
set_option maxHeartbeats 4000000 in
theorem mX11_mail {l : Launch} {D : va_G} {cy : Nat → ClassId} {f0 : Nat} {a : Nat} {p0 : Int32} {p1 : Int32} {h : Hp} {r : Int32} {hz : Hp} (e : fX11_mail f0 a p0 p1 h = some (r, hz)) : MC l D cy yX11_mail cX11_mail 3 (some .int) rmX11_mail [.ref a, .int p0, .int p1] h (some (.int r)) hz := by
  refine mc_of2 (by decide) (Nat.le_of_ble_eq_true rfl) (fun X hl hD hy hin o q => ?_)
  subst hl; subst hD; subst hy
  show G X 3 0 [(0, .ref a), (1, .int p0), (2, .int p1)] [] h 0 0
  unfold fX11_mail at e
  refine g_aload_n 0 o dX11_mail_0 rfl rfl ?_
  obtain ⟨x1, q1, e⟩ := ob e
  refine g_getN 4 o cf11 (by decide) mw_368 dX11_mail_1 q1 ?_
  refine g_iload_n 1 o dX11_mail_4 rfl rfl ?_
  refine g_iload_n 2 o dX11_mail_5 rfl rfl ?_
  obtain ⟨_, k6, e⟩ := ob e
  obtain ⟨x6, h6, q6, e⟩ := ob2_s e
  refine g_callVv [.int p0, .int p1] o (mX6_hasPorts q6) cf6 (ckO_s k6) mw_812 mw_678 mw_679 mw_7 mw_680 rfl yo_X6_hasPorts rfl rfl (Nat.le_of_ble_eq_true rfl) ⟨by decide, by decide⟩ ⟨rfl, rfl⟩ dX11_mail_6 ⟨by decide, by decide⟩ ?_
  refine g_if_eq (x := x6) 32 o dX11_mail_9 (by decide) (fun u => ?_) (fun u => ?_)
  · rw [if_pos u] at e
    refine g_iconst (v := -1) o dX11_mail_32 (by decide) ?_
    exact g_iret o dX11_mail_33 (rt_v q e)
  · rw [if_neg u] at e
    refine g_aload_n 0 o dX11_mail_12 rfl rfl ?_
    obtain ⟨x13, q13, e⟩ := ob e
    refine g_getN 4 o cf11 (by decide) mw_368 dX11_mail_13 q13 ?_
    obtain ⟨x16, q16, e⟩ := ob e
    refine g_getN 4 o cf6 (by decide) mw_158 dX11_mail_16 q16 ?_
    refine g_iload_n 1 o dX11_mail_19 rfl rfl ?_
    refine g_bipush (v := 8) o dX11_mail_20 (by decide) ?_
    refine g_imul (x := p0) (y := 8) o dX11_mail_22 ?_
    refine g_iload_n 2 o dX11_mail_23 rfl rfl ?_
    refine g_iadd (x := (p0 * 8)) (y := p1) o dX11_mail_24 ?_
    obtain ⟨x25, q25, e⟩ := ob e
    refine g_iald o dX11_mail_25 q25 ?_
    obtain ⟨x26, h26, q26, e⟩ := ob2_s e
    refine g_callSv [.int x25] o (mX11_orNone q26) mw_813 mw_814 mw_1 mw_815 yo_X11_orNone rfl rfl (Nat.le_of_ble_eq_true rfl) ⟨by decide, by decide⟩ ⟨rfl, rfl⟩ dX11_mail_26 ⟨by decide, by decide⟩ ?_
    refine g_goto 33 o dX11_mail_29 (by decide) ?_
    exact g_iret o dX11_mail_33 (rt_v q e)
theorem yo_X11_price : yok yX11_price 3 := ⟨by decide, by decide, by decide +kernel⟩
set_option maxRecDepth 100000 in
set_option maxHeartbeats 4000000 in
theorem mX11_price {l : Launch} {D : va_G} {cy : Nat → ClassId} {f0 : Nat} {a : Nat} {p0 : Int32} {p1 : Int32} {p2 : Int32} {h : Hp} {r : Int32} {hz : Hp} (e : fX11_price f0 a p0 p1 p2 h = some (r, hz)) : MC l D cy yX11_price cX11_price 4 (some .int) rmX11_price [.ref a, .int p0, .int p1, .int p2] h (some (.int r)) hz := by
  refine mc_of2 (by decide) (Nat.le_of_ble_eq_true rfl) (fun X hl hD hy hin o q => ?_)
  subst hl; subst hD; subst hy
  show G X 4 0 [(0, .ref a), (1, .int p0), (2, .int p1), (3, .int p2)] [] h 0 0
  unfold fX11_price at e
  refine g_aload_n 0 o dX11_price_0 rfl rfl ?_
  obtain ⟨x1, q1, e⟩ := ob e
  refine g_getN 4 o cf11 (by decide) mw_368 dX11_price_1 q1 ?_
  refine g_iconst (v := 3) o dX11_price_4 (by decide) ?_
  refine g_iload_n 1 o dX11_price_5 rfl rfl ?_
  obtain ⟨_, k6, e⟩ := ob e
  obtain ⟨x6, h6, q6, e⟩ := ob2_s e
  refine g_callVv [.int 3, .int p0] o (mX6_has q6) cf6 (ckO_s k6) mw_824 mw_682 mw_683 mw_7 mw_684 rfl yo_X6_has rfl rfl (Nat.le_of_ble_eq_true rfl) ⟨by decide, by decide⟩ ⟨rfl, rfl⟩ dX11_price_6 ⟨by decide, by decide⟩ ?_
  refine g_if_eq (x := x6) 33 o dX11_price_9 (by decide) (fun u => ?_) (fun u => ?_)
  · rw [if_pos u] at e
    refine g_iconst (v := -1) o dX11_price_33 (by decide) ?_
    exact g_iret o dX11_price_34 (rt_v q e)
  · rw [if_neg u] at e
    refine g_aload_n 0 o dX11_price_12 rfl rfl ?_
    obtain ⟨x13, q13, e⟩ := ob e
    refine g_getN 4 o cf11 (by decide) mw_368 dX11_price_13 q13 ?_
    refine g_iconst (v := 0) o dX11_price_16 (by decide) ?_
    refine g_iload_n 2 o dX11_price_17 rfl rfl ?_
    obtain ⟨_, k18, e⟩ := ob e
    obtain ⟨x18, h18, q18, e⟩ := ob2_s e
    refine g_callVv [.int 0, .int p1] o (mX6_has q18) cf6 (ckO_s k18) mw_824 mw_682 mw_683 mw_7 mw_684 rfl yo_X6_has rfl rfl (Nat.le_of_ble_eq_true rfl) ⟨by decide, by decide⟩ ⟨rfl, rfl⟩ dX11_price_18 ⟨by decide, by decide⟩ ?_
    refine g_if_eq (x := x18) 33 o dX11_price_21 (by decide) (fun u => ?_) (fun u => ?_)
    · rw [if_pos u] at e
      refine g_iconst (v := -1) o dX11_price_33 (by decide) ?_
      exact g_iret o dX11_price_34 (rt_v q e)
    · rw [if_neg u] at e
      refine g_iload_n 3 o dX11_price_24 rfl rfl ?_
      refine g_if_lt (x := p2) 33 o dX11_price_25 (by decide) (fun u => ?_) (fun u => ?_)
      · rw [if_pos u] at e
        refine g_iconst (v := -1) o dX11_price_33 (by decide) ?_
        exact g_iret o dX11_price_34 (rt_v q e)
      · rw [if_neg u] at e
        refine g_iload_n 3 o dX11_price_28 rfl rfl ?_
        refine g_iconst (v := 1) o dX11_price_29 (by decide) ?_
        refine g_icmp_le (x := p2) (y := 1) 35 o dX11_price_30 (by decide) (fun u => ?_) (fun u => ?_)
        · rw [if_pos u] at e
          refine g_iload_n 3 o dX11_price_35 rfl rfl ?_
          refine g_if_ne (x := p2) 56 o dX11_price_36 (by decide) (fun u => ?_) (fun u => ?_)
          · rw [if_neg u] at e
            refine g_aload_n 0 o dX11_price_56 rfl rfl ?_
            obtain ⟨x57, q57, e⟩ := ob e
            refine g_getN 11 o cf11 (by decide) mw_375 dX11_price_57 q57 ?_
            refine g_iload_n 1 o dX11_price_60 rfl rfl ?_
            refine g_iload_n 2 o dX11_price_61 rfl rfl ?_
            obtain ⟨_, k62, e⟩ := ob e
            obtain ⟨x62, h62, q62, e⟩ := ob2_s e
            refine g_callVv [.int p0, .int p1] o (mX10_owedTo q62) cf10 (ckO_s k62) mw_825 mw_787 mw_788 mw_13 mw_789 rfl yo_X10_owedTo rfl rfl (Nat.le_of_ble_eq_true rfl) ⟨by decide, by decide⟩ ⟨rfl, rfl⟩ dX11_price_62 ⟨by decide, by decide⟩ ?_
            exact g_iret o dX11_price_65 (rt_v q e)
          · rw [if_pos u] at e
            refine g_aload_n 0 o dX11_price_39 rfl rfl ?_
            obtain ⟨x40, q40, e⟩ := ob e
            refine g_getN 4 o cf11 (by decide) mw_368 dX11_price_40 q40 ?_
            obtain ⟨x43, q43, e⟩ := ob e
            refine g_getN 5 o cf6 (by decide) mw_162 dX11_price_43 q43 ?_
            refine g_iload_n 1 o dX11_price_46 rfl rfl ?_
            refine g_bipush (v := 8) o dX11_price_47 (by decide) ?_
            refine g_imul (x := p0) (y := 8) o dX11_price_49 ?_
            refine g_iload_n 2 o dX11_price_50 rfl rfl ?_
            refine g_iadd (x := (p0 * 8)) (y := p1) o dX11_price_51 ?_
            obtain ⟨x52, q52, e⟩ := ob e
            refine g_iald o dX11_price_52 q52 ?_
            refine g_goto 65 o dX11_price_53 (by decide) ?_
            exact g_iret o dX11_price_65 (rt_v q e)
        · rw [if_neg u] at e
          refine g_iconst (v := -1) o dX11_price_33 (by decide) ?_
          exact g_iret o dX11_price_34 (rt_v q e)
theorem yo_X11_orNever : yok yX11_orNever 1 := ⟨by decide, by decide, by decide +kernel⟩
set_option maxRecDepth 100000 in
set_option maxHeartbeats 4000000 in
theorem mX11_orNever {l : Launch} {D : va_G} {cy : Nat → ClassId} {f0 : Nat} {p0 : Int32} {h : Hp} {r : Int32} {hz : Hp} (e : fX11_orNever f0 p0 h = some (r, hz)) : MC l D cy yX11_orNever cX11_orNever 1 (some .int) rmX11_orNever [.int p0] h (some (.int r)) hz := by
  refine mc_of2 (by decide) (Nat.le_of_ble_eq_true rfl) (fun X hl hD hy hin o q => ?_)
  subst hl; subst hD; subst hy
  show G X 1 0 [(0, .int p0)] [] h 0 0
  unfold fX11_orNever at e
  refine g_iload_n 0 o dX11_orNever_0 rfl rfl ?_
  refine g_ldc (v := 1000000) o dX11_orNever_1 mw_833 ?_
  refine g_icmp_lt (x := p0) (y := 1000000) 10 o dX11_orNever_3 (by decide) (fun u => ?_) (fun u => ?_)
  · rw [if_pos u] at e
    refine g_iload_n 0 o dX11_orNever_10 rfl rfl ?_
    exact g_iret o dX11_orNever_11 (rt_v q e)
  · rw [if_neg u] at e
    refine g_iconst (v := -1) o dX11_orNever_6 (by decide) ?_
    refine g_goto 11 o dX11_orNever_7 (by decide) ?_
    exact g_iret o dX11_orNever_11 (rt_v q e)
theorem yo_X11_far : yok yX11_far 2 := ⟨by decide, by decide, by decide +kernel⟩
set_option maxRecDepth 100000 in
set_option maxHeartbeats 4000000 in
theorem mX11_far {l : Launch} {D : va_G} {cy : Nat → ClassId} {f0 : Nat} {a : Nat} {p0 : Int32} {p1 : Int32} {h : Hp} {r : Int32} {hz : Hp} (e : fX11_far f0 a p0 p1 h = some (r, hz)) : MC l D cy yX11_far cX11_far 3 (some .int) rmX11_far [.ref a, .int p0, .int p1] h (some (.int r)) hz := by
  refine mc_of2 (by decide) (Nat.le_of_ble_eq_true rfl) (fun X hl hD hy hin o q => ?_)
  subst hl; subst hD; subst hy
  show G X 3 0 [(0, .ref a), (1, .int p0), (2, .int p1)] [] h 0 0
  unfold fX11_far at e
  refine g_aload_n 0 o dX11_far_0 rfl rfl ?_
  obtain ⟨x1, q1, e⟩ := ob e
  refine g_getN 4 o cf11 (by decide) mw_368 dX11_far_1 q1 ?_
  refine g_iload_n 1 o dX11_far_4 rfl rfl ?_
  refine g_iload_n 2 o dX11_far_5 rfl rfl ?_
  obtain ⟨_, k6, e⟩ := ob e
  obtain ⟨x6, h6, q6, e⟩ := ob2_s e
  refine g_callVv [.int p0, .int p1] o (mX6_hasPorts q6) cf6 (ckO_s k6) mw_812 mw_678 mw_679 mw_7 mw_680 rfl yo_X6_hasPorts rfl rfl (Nat.le_of_ble_eq_true rfl) ⟨by decide, by decide⟩ ⟨rfl, rfl⟩ dX11_far_6 ⟨by decide, by decide⟩ ?_
  refine g_if_eq (x := x6) 32 o dX11_far_9 (by decide) (fun u => ?_) (fun u => ?_)
  · rw [if_pos u] at e
    refine g_iconst (v := -1) o dX11_far_32 (by decide) ?_
    exact g_iret o dX11_far_33 (rt_v q e)
  · rw [if_neg u] at e
    refine g_aload_n 0 o dX11_far_12 rfl rfl ?_
    obtain ⟨x13, q13, e⟩ := ob e
    refine g_getN 4 o cf11 (by decide) mw_368 dX11_far_13 q13 ?_
    obtain ⟨x16, q16, e⟩ := ob e
    refine g_getN 11 o cf6 (by decide) mw_178 dX11_far_16 q16 ?_
    refine g_iload_n 1 o dX11_far_19 rfl rfl ?_
    refine g_bipush (v := 8) o dX11_far_20 (by decide) ?_
    refine g_imul (x := p0) (y := 8) o dX11_far_22 ?_
    refine g_iload_n 2 o dX11_far_23 rfl rfl ?_
    refine g_iadd (x := (p0 * 8)) (y := p1) o dX11_far_24 ?_
    obtain ⟨x25, q25, e⟩ := ob e
    refine g_iald o dX11_far_25 q25 ?_
    obtain ⟨x26, h26, q26, e⟩ := ob2_s e
    refine g_callSv [.int x25] o (mX11_orNever q26) mw_830 mw_831 mw_1 mw_832 yo_X11_orNever rfl rfl (Nat.le_of_ble_eq_true rfl) ⟨by decide, by decide⟩ ⟨rfl, rfl⟩ dX11_far_26 ⟨by decide, by decide⟩ ?_
    refine g_goto 33 o dX11_far_29 (by decide) ?_
    exact g_iret o dX11_far_33 (rt_v q e)
theorem yo_X11_hears : yok yX11_hears 2 := ⟨by decide, by decide, by decide +kernel⟩
set_option maxRecDepth 100000 in
set_option maxHeartbeats 4000000 in
theorem mX11_hears {l : Launch} {D : va_G} {cy : Nat → ClassId} {f0 : Nat} {a : Nat} {p0 : Int32} {p1 : Int32} {h : Hp} {r : Int32} {hz : Hp} (e : fX11_hears f0 a p0 p1 h = some (r, hz)) : MC l D cy yX11_hears cX11_hears 3 (some .int) rmX11_hears [.ref a, .int p0, .int p1] h (some (.int r)) hz := by
  refine mc_of2 (by decide) (Nat.le_of_ble_eq_true rfl) (fun X hl hD hy hin o q => ?_)
  subst hl; subst hD; subst hy
  show G X 3 0 [(0, .ref a), (1, .int p0), (2, .int p1)] [] h 0 0
  unfold fX11_hears at e
  refine g_aload_n 0 o dX11_hears_0 rfl rfl ?_
  obtain ⟨x1, q1, e⟩ := ob e
  refine g_getN 4 o cf11 (by decide) mw_368 dX11_hears_1 q1 ?_
  refine g_iload_n 1 o dX11_hears_4 rfl rfl ?_
  refine g_iload_n 2 o dX11_hears_5 rfl rfl ?_
  obtain ⟨_, k6, e⟩ := ob e
  obtain ⟨x6, h6, q6, e⟩ := ob2_s e
  refine g_callVv [.int p0, .int p1] o (mX6_hearsFrom q6) cf6 (ckO_s k6) mw_838 mw_674 mw_675 mw_7 mw_676 rfl yo_X6_hearsFrom rfl rfl (Nat.le_of_ble_eq_true rfl) ⟨by decide, by decide⟩ ⟨rfl, rfl⟩ dX11_hears_6 ⟨by decide, by decide⟩ ?_
  refine g_if_eq (x := x6) 29 o dX11_hears_9 (by decide) (fun u => ?_) (fun u => ?_)
  · rw [if_pos u] at e
    refine g_iconst (v := -1) o dX11_hears_29 (by decide) ?_
    exact g_iret o dX11_hears_30 (rt_v q e)
  · rw [if_neg u] at e
    refine g_aload_n 0 o dX11_hears_12 rfl rfl ?_
    obtain ⟨x13, q13, e⟩ := ob e
    refine g_getN 4 o cf11 (by decide) mw_368 dX11_hears_13 q13 ?_
    obtain ⟨x16, q16, e⟩ := ob e
    refine g_getN 12 o cf6 (by decide) mw_182 dX11_hears_16 q16 ?_
    refine g_iload_n 1 o dX11_hears_19 rfl rfl ?_
    refine g_bipush (v := 8) o dX11_hears_20 (by decide) ?_
    refine g_imul (x := p0) (y := 8) o dX11_hears_22 ?_
    refine g_iload_n 2 o dX11_hears_23 rfl rfl ?_
    refine g_iadd (x := (p0 * 8)) (y := p1) o dX11_hears_24 ?_
    obtain ⟨x25, q25, e⟩ := ob e
    refine g_iald o dX11_hears_25 q25 ?_
    refine g_goto 30 o dX11_hears_26 (by decide) ?_
    exact g_iret o dX11_hears_30 (rt_v q e)
set_option maxRecDepth 100000 in
set_option maxHeartbeats 4000000 in
theorem kX0_isFree_43 {X : Cx} (f0 : Nat) (g2 : Nat → Int32 → Int32 → Int32 → Hp → Option (Int32 × Hp)) (i2 : ∀ (v02 : Nat) (v12 : Int32) (v22 : Int32) (v32 : Int32) (h2 : Hp) (r : Int32) (hz : Hp), Rt X (some (.int r)) hz 0 0 → g2 v02 v12 v22 v32 h2 = some (r, hz) → G X 4 2 [(0, .ref v02), (1, .int v12), (2, .int v22), (3, .int v32)] [] h2 0 0) (o : Ok X cX0_isFree RX0 4 rmX0_isFree (some .boolean)) (v0 : Nat) (v1 : Int32) (v2 : Int32) (v3 : Int32) (h : Hp) (r : Int32) (hz : Hp) (q : Rt X (some (.int r)) hz 0 0) (e : bX0_isFree_43 f0 g2 v0 v1 v2 v3 h = some (r, hz)) : G X 4 43 [(0, .ref v0), (1, .int v1), (2, .int v2), (3, .int v3)] [] h 0 0 := by
  unfold bX0_isFree_43 at e
  refine g_iinc (k := 3) (v := (v3 + 1)) [(3, .int (v3 + 1)), (0, .ref v0), (1, .int v1), (2, .int v2)] o dX0_isFree_43 rfl rfl (by decide) rfl ?_
  refine g_goto 2 o dX0_isFree_46 (by decide) ?_
  refine g_sb [1, 2, 3, 0] rfl ?_
  exact i2 v0 v1 v2 (v3 + 1) h r hz q e
set_option maxRecDepth 100000 in
set_option maxHeartbeats 4000000 in
theorem kX0_isFree_2 {X : Cx} (f0 : Nat) (o : Ok X cX0_isFree RX0 4 rmX0_isFree (some .boolean)) (f : Nat) (v0 : Nat) (v1 : Int32) (v2 : Int32) (v3 : Int32) (h : Hp) (r : Int32) (hz : Hp) (q : Rt X (some (.int r)) hz 0 0) (e : bX0_isFree_2 f0 f v0 v1 v2 v3 h = some (r, hz)) : G X 4 2 [(0, .ref v0), (1, .int v1), (2, .int v2), (3, .int v3)] [] h 0 0 := by
  induction f generalizing v0 v1 v2 v3 h r hz with
  | zero => cases e
  | succ f1 ih =>
    unfold bX0_isFree_2 at e
    refine g_iload_n 3 o dX0_isFree_2 rfl rfl ?_
    refine g_iload_n 1 o dX0_isFree_3 rfl rfl ?_
    refine g_icmp_ge (x := v3) (y := v1) 49 o dX0_isFree_4 (by decide) (fun u => ?_) (fun u => ?_)
    · rw [if_pos u] at e
      refine g_iconst (v := 1) o dX0_isFree_49 (by decide) ?_
      exact g_zret o dX0_isFree_50 (zr_s e).1 (rt_v q (zr_s e).2)
    · rw [if_neg u] at e
      refine g_aload_n 0 o dX0_isFree_7 rfl rfl ?_
      obtain ⟨x8, q8, e⟩ := ob e
      refine g_getN 1 o cf0 (by decide) mw_327 dX0_isFree_8 q8 ?_
      refine g_iload_n 3 o dX0_isFree_11 rfl rfl ?_
      obtain ⟨x12, q12, e⟩ := ob e
      refine g_iald o dX0_isFree_12 q12 ?_
      refine g_iload_n 2 o dX0_isFree_13 rfl rfl ?_
      refine g_icmp_ne (x := x12) (y := v2) 43 o dX0_isFree_14 (by decide) (fun u => ?_) (fun u => ?_)
      · rw [if_neg u] at e
        exact kX0_isFree_43 f0 (bX0_isFree_2 f0 f1) ih o v0 v1 v2 v3 h r hz q e
      · rw [if_pos u] at e
        refine g_aload_n 0 o dX0_isFree_17 rfl rfl ?_
        obtain ⟨x18, q18, e⟩ := ob e
        refine g_getN 0 o cf0 (by decide) mw_326 dX0_isFree_18 q18 ?_
        refine g_iload_n 1 o dX0_isFree_21 rfl rfl ?_
        refine g_iload_n 3 o dX0_isFree_22 rfl rfl ?_
        obtain ⟨_, k23, e⟩ := ob e
        obtain ⟨x23, h23, q23, e⟩ := ob2_s e
        refine g_callVv [.int v1, .int v3] o (mX6_hearsFrom q23) cf6 (ckO_s k23) mw_853 mw_674 mw_675 mw_7 mw_676 rfl yo_X6_hearsFrom rfl rfl (Nat.le_of_ble_eq_true rfl) ⟨by decide, by decide⟩ ⟨rfl, rfl⟩ dX0_isFree_23 ⟨by decide, by decide⟩ ?_
        refine g_if_ne (x := x23) 41 o dX0_isFree_26 (by decide) (fun u => ?_) (fun u => ?_)
        · rw [if_neg u] at e
          refine g_iconst (v := 0) o dX0_isFree_41 (by decide) ?_
          exact g_zret o dX0_isFree_42 (zr_s e).1 (rt_v q (zr_s e).2)
        · rw [if_pos u] at e
          refine g_aload_n 0 o dX0_isFree_29 rfl rfl ?_
          obtain ⟨x30, q30, e⟩ := ob e
          refine g_getN 0 o cf0 (by decide) mw_326 dX0_isFree_30 q30 ?_
          refine g_iload_n 3 o dX0_isFree_33 rfl rfl ?_
          refine g_iload_n 1 o dX0_isFree_34 rfl rfl ?_
          obtain ⟨_, k35, e⟩ := ob e
          obtain ⟨x35, h35, q35, e⟩ := ob2_s e
          refine g_callVv [.int v3, .int v1] o (mX6_hearsFrom q35) cf6 (ckO_s k35) mw_853 mw_674 mw_675 mw_7 mw_676 rfl yo_X6_hearsFrom rfl rfl (Nat.le_of_ble_eq_true rfl) ⟨by decide, by decide⟩ ⟨rfl, rfl⟩ dX0_isFree_35 ⟨by decide, by decide⟩ ?_
          refine g_if_eq (x := x35) 43 o dX0_isFree_38 (by decide) (fun u => ?_) (fun u => ?_)
          · rw [if_pos u] at e
            exact kX0_isFree_43 f0 (bX0_isFree_2 f0 f1) ih o v0 v1 v2 v3 h35 r hz q e
          · rw [if_neg u] at e
            refine g_iconst (v := 0) o dX0_isFree_41 (by decide) ?_
            exact g_zret o dX0_isFree_42 (zr_s e).1 (rt_v q (zr_s e).2)
theorem yo_X0_isFree : yok yX0_isFree 2 := ⟨by decide, by decide, by decide +kernel⟩
set_option maxRecDepth 100000 in
set_option maxHeartbeats 4000000 in
theorem mX0_isFree {l : Launch} {D : va_G} {cy : Nat → ClassId} {f0 : Nat} {a : Nat} {p0 : Int32} {p1 : Int32} {h : Hp} {r : Int32} {hz : Hp} (e : fX0_isFree f0 a p0 p1 h = some (r, hz)) : MC l D cy yX0_isFree cX0_isFree 4 (some .boolean) rmX0_isFree [.ref a, .int p0, .int p1] h (some (.int r)) hz := by
  refine mc_of2 (by decide) (Nat.le_of_ble_eq_true rfl) (fun X hl hD hy hin o q => ?_)
  subst hl; subst hD; subst hy
  show G X 4 0 [(0, .ref a), (1, .int p0), (2, .int p1)] [] h 0 0
  unfold fX0_isFree at e
  refine g_iconst (v := 0) o dX0_isFree_0 (by decide) ?_
  refine g_istore_n [(3, .int 0), (0, .ref a), (1, .int p0), (2, .int p1)] o dX0_isFree_1 rfl (by decide) rfl ?_
  refine g_sb [1, 2, 3, 0] rfl ?_
  exact kX0_isFree_2 f0 o f0 a p0 p1 0 h r hz q e
theorem yo_X0_giveFrom : yok yX0_giveFrom 3 := ⟨by decide, by decide, by decide +kernel⟩
set_option maxRecDepth 100000 in
set_option maxHeartbeats 4000000 in
theorem kX0_giveFrom_72 {X : Cx} (f0 : Nat) (rr : Nat → Nat → Int32 → Int32 → Int32 → Hp → Option (Int32 × Hp)) {d9 : Nat} (hr : RCX0 (xl X) (xD X) (xy X) d9 rr) (g18 : Nat → Int32 → Int32 → Int32 → Int32 → Hp → Option (Int32 × Hp)) (i18 : ∀ (v02 : Nat) (v12 : Int32) (v22 : Int32) (v32 : Int32) (v42 : Int32) (h2 : Hp) (r : Int32) (hz : Hp), Rt X (some (.int r)) hz 0 0 → g18 v02 v12 v22 v32 v42 h2 = some (r, hz) → G X 5 18 [(0, .ref v02), (1, .int v12), (2, .int v22), (3, .int v32), (4, .int v42)] [] h2 0 0) (o : Ok X cX0_giveFrom RX0 5 (rmX0 (d9 + 1)) (some .boolean)) (v0 : Nat) (v1 : Int32) (v2 : Int32) (v3 : Int32) (v4 : Int32) (h : Hp) (r : Int32) (hz : Hp) (q : Rt X (some (.int r)) hz 0 0) (e : bX0_giveFrom_72 f0 rr g18 v0 v1 v2 v3 v4 h = some (r, hz)) : G X 5 72 [(0, .ref v0), (1, .int v1), (2, .int v2), (3, .int v3), (4, .int v4)] [] h 0 0 := by
  unfold bX0_giveFrom_72 at e
  refine g_iinc (k := 4) (v := (v4 + 1)) [(4, .int (v4 + 1)), (0, .ref v0), (1, .int v1), (2, .int v2), (3, .int v3)] o dX0_giveFrom_72 rfl rfl (by decide) rfl ?_
  refine g_goto 18 o dX0_giveFrom_75 (by decide) ?_
  refine g_sb [1, 2, 3, 4, 0] rfl ?_
  exact i18 v0 v1 v2 v3 (v4 + 1) h r hz q e
set_option maxRecDepth 100000 in
set_option maxHeartbeats 4000000 in
theorem kX0_giveFrom_18 {X : Cx} (f0 : Nat) (rr : Nat → Nat → Int32 → Int32 → Int32 → Hp → Option (Int32 × Hp)) {d9 : Nat} (hr : RCX0 (xl X) (xD X) (xy X) d9 rr) (o : Ok X cX0_giveFrom RX0 5 (rmX0 (d9 + 1)) (some .boolean)) (f : Nat) (v0 : Nat) (v1 : Int32) (v2 : Int32) (v3 : Int32) (v4 : Int32) (h : Hp) (r : Int32) (hz : Hp) (q : Rt X (some (.int r)) hz 0 0) (e : bX0_giveFrom_18 f0 rr f v0 v1 v2 v3 v4 h = some (r, hz)) : G X 5 18 [(0, .ref v0), (1, .int v1), (2, .int v2), (3, .int v3), (4, .int v4)] [] h 0 0 := by
  induction f generalizing v0 v1 v2 v3 v4 h r hz with
  | zero => cases e
  | succ f1 ih =>
    unfold bX0_giveFrom_18 at e
    refine g_iload 4 o dX0_giveFrom_18 rfl ?_
    refine g_iload_n 2 o dX0_giveFrom_20 rfl rfl ?_
    refine g_icmp_gt (x := v4) (y := v2) 78 o dX0_giveFrom_21 (by decide) (fun u => ?_) (fun u => ?_)
    · rw [if_pos u] at e
      refine g_iconst (v := 0) o dX0_giveFrom_78 (by decide) ?_
      exact g_zret o dX0_giveFrom_79 (zr_s e).1 (rt_v q (zr_s e).2)
    · rw [if_neg u] at e
      refine g_iload 4 o dX0_giveFrom_24 rfl ?_
      refine g_iload_n 3 o dX0_giveFrom_26 rfl rfl ?_
      refine g_icmp_ge (x := v4) (y := v3) 78 o dX0_giveFrom_27 (by decide) (fun u => ?_) (fun u => ?_)
      · rw [if_pos u] at e
        refine g_iconst (v := 0) o dX0_giveFrom_78 (by decide) ?_
        exact g_zret o dX0_giveFrom_79 (zr_s e).1 (rt_v q (zr_s e).2)
      · rw [if_neg u] at e
        refine g_aload_n 0 o dX0_giveFrom_30 rfl rfl ?_
        refine g_iload_n 1 o dX0_giveFrom_31 rfl rfl ?_
        refine g_iload 4 o dX0_giveFrom_32 rfl ?_
        obtain ⟨_, k34, e⟩ := ob e
        obtain ⟨x34, h34, q34, e⟩ := ob2_s e
        refine g_callVv [.int v1, .int v4] o (mX0_isFree q34) cf0 (ckO_s k34) mw_850 mw_851 mw_1714 mw_14 mw_852 rfl yo_X0_isFree rfl rfl (Nat.le_of_ble_eq_true rfl) ⟨Nat.le_trans (by decide : _ ≤ 4) (Nat.le_add_right _ _), Nat.le_trans (by decide : _ ≤ 89) (Nat.le_add_right _ _)⟩ ⟨rfl, rfl⟩ dX0_giveFrom_34 ⟨Nat.le_refl _, Nat.le_refl _⟩ ?_
        refine g_if_ne (x := x34) 43 o dX0_giveFrom_37 (by decide) (fun u => ?_) (fun u => ?_)
        · rw [if_neg u] at e
          refine g_aload_n 0 o dX0_giveFrom_43 rfl rfl ?_
          obtain ⟨x44, q44, e⟩ := ob e
          refine g_getN 1 o cf0 (by decide) mw_327 dX0_giveFrom_44 q44 ?_
          refine g_iload_n 1 o dX0_giveFrom_47 rfl rfl ?_
          refine g_iload 4 o dX0_giveFrom_48 rfl ?_
          obtain ⟨h50, q50, e⟩ := ob e
          refine g_iast o dX0_giveFrom_50 q50 ?_
          refine g_aload_n 0 o dX0_giveFrom_51 rfl rfl ?_
          refine g_iload_n 1 o dX0_giveFrom_52 rfl rfl ?_
          refine g_iconst (v := 1) o dX0_giveFrom_53 (by decide) ?_
          refine g_iadd (x := v1) (y := 1) o dX0_giveFrom_54 ?_
          refine g_iload_n 2 o dX0_giveFrom_55 rfl rfl ?_
          refine g_iload 4 o dX0_giveFrom_56 rfl ?_
          refine g_iconst (v := 1) o dX0_giveFrom_58 (by decide) ?_
          refine g_iadd (x := v4) (y := 1) o dX0_giveFrom_59 ?_
          refine g_mmax (x := v2) (y := (v4 + 1)) o mw_854 mw_450 mw_18 mw_451 ⟨Nat.le_trans (by decide : 1 ≤ 4) (Nat.le_add_right _ _), Nat.le_trans (Nat.le_of_ble_eq_true rfl : _ ≤ 89) (Nat.le_add_right _ _)⟩ ⟨Nat.le_refl _, Nat.le_refl _⟩ dX0_giveFrom_60 ?_
          refine g_iload_n 3 o dX0_giveFrom_63 rfl rfl ?_
          obtain ⟨_, k64, e⟩ := ob e
          obtain ⟨x64, h64, q64, e⟩ := ob2_s e
          refine g_callVv [.int (v1 + 1), .int (if v2 < (v4 + 1) then (v4 + 1) else v2), .int v3] o (hr _ _ _ _ _ _ _ q64) cf0 (ckO_s k64) mw_847 mw_848 mw_1713 mw_14 mw_849 rfl yo_X0_giveFrom rfl rfl (Nat.le_of_ble_eq_true rfl) ⟨Nat.le_refl _, rrl (by decide)⟩ ⟨rfl, rfl⟩ dX0_giveFrom_64 ⟨Nat.le_refl _, Nat.le_refl _⟩ ?_
          refine g_if_eq (x := x64) 72 o dX0_giveFrom_67 (by decide) (fun u => ?_) (fun u => ?_)
          · rw [if_pos u] at e
            exact kX0_giveFrom_72 f0 rr hr (bX0_giveFrom_18 f0 rr f1) ih o v0 v1 v2 v3 v4 h64 r hz q e
          · rw [if_neg u] at e
            refine g_iconst (v := 1) o dX0_giveFrom_70 (by decide) ?_
            exact g_zret o dX0_giveFrom_71 (zr_s e).1 (rt_v q (zr_s e).2)
        · rw [if_pos u] at e
          refine g_goto 72 o dX0_giveFrom_40 (by decide) ?_
          exact kX0_giveFrom_72 f0 rr hr (bX0_giveFrom_18 f0 rr f1) ih o v0 v1 v2 v3 v4 h34 r hz q e
set_option maxRecDepth 100000 in
set_option maxHeartbeats 4000000 in
theorem mX0_giveFrom {l : Launch} {D : va_G} {cy : Nat → ClassId} {f0 : Nat} {rr : Nat → Nat → Int32 → Int32 → Int32 → Hp → Option (Int32 × Hp)} {d9 : Nat} (hr : RCX0 l D cy d9 rr) {a : Nat} {p0 : Int32} {p1 : Int32} {p2 : Int32} {h : Hp} {r : Int32} {hz : Hp} (e : fX0_giveFrom f0 rr a p0 p1 p2 h = some (r, hz)) : MC l D cy yX0_giveFrom cX0_giveFrom 5 (some .boolean) (rmX0 (d9 + 1)) [.ref a, .int p0, .int p1, .int p2] h (some (.int r)) hz := by
  refine mc_of2 (by decide) (Nat.le_of_ble_eq_true rfl) (fun X hl hD hy hin o q => ?_)
  subst hl; subst hD; subst hy
  show G X 5 0 [(0, .ref a), (1, .int p0), (2, .int p1), (3, .int p2)] [] h 0 0
  unfold fX0_giveFrom at e
  refine g_iload_n 1 o dX0_giveFrom_0 rfl rfl ?_
  refine g_aload_n 0 o dX0_giveFrom_1 rfl rfl ?_
  obtain ⟨x2, q2, e⟩ := ob e
  refine g_getN 0 o cf0 (by decide) mw_326 dX0_giveFrom_2 q2 ?_
  obtain ⟨x5, q5, e⟩ := ob e
  refine g_getN 1 o cf6 (by decide) mw_143 dX0_giveFrom_5 q5 ?_
  refine g_iconst (v := 0) o dX0_giveFrom_8 (by decide) ?_
  obtain ⟨x9, q9, e⟩ := ob e
  refine g_iald o dX0_giveFrom_9 q9 ?_
  refine g_icmp_lt (x := p0) (y := x9) 15 o dX0_giveFrom_10 (by decide) (fun u => ?_) (fun u => ?_)
  · rw [if_pos u] at e
    refine g_iconst (v := 0) o dX0_giveFrom_15 (by decide) ?_
    refine g_istore [(4, .int 0), (0, .ref a), (1, .int p0), (2, .int p1), (3, .int p2)] o dX0_giveFrom_16 (by decide) rfl ?_
    refine g_sb [1, 2, 3, 4, 0] rfl ?_
    exact kX0_giveFrom_18 f0 rr hr o f0 a p0 p1 p2 0 h r hz q e
  · rw [if_neg u] at e
    refine g_iconst (v := 1) o dX0_giveFrom_13 (by decide) ?_
    exact g_zret o dX0_giveFrom_14 (zr_s e).1 (rt_v q (zr_s e).2)
theorem RCX0_all {l : Launch} {D : va_G} {cy : Nat → ClassId} (f0 : Nat) : ∀ d : Nat, RCX0 l D cy d (rX0 f0 d)
  | 0 => by
    (intro a p0 p1 p2 h r hz e; cases e)
  | d1 + 1 => by
    refine ?_
    · intro a p0 p1 p2 h r hz e
      unfold rX0 at e
      rw [if_pos rfl] at e
      exact mX0_giveFrom (RCX0_all f0 d1) e
set_option maxRecDepth 100000 in
set_option maxHeartbeats 4000000 in
theorem kX0_fewest_2 {X : Cx} (f0 : Nat) (o : Ok X cX0_fewest RX0 2 rmX0_fewest (some .int)) (f : Nat) (v0 : Nat) (v1 : Int32) (h : Hp) (r : Int32) (hz : Hp) (q : Rt X (some (.int r)) hz 0 0) (e : bX0_fewest_2 f0 f v0 v1 h = some (r, hz)) : G X 2 2 [(0, .ref v0), (1, .int v1)] [] h 0 0 := by
  induction f generalizing v0 v1 h r hz with
  | zero => cases e
  | succ f1 ih =>
    unfold bX0_fewest_2 at e
    refine g_iload_n 1 o dX0_fewest_2 rfl rfl ?_
    refine g_aload_n 0 o dX0_fewest_3 rfl rfl ?_
    obtain ⟨x4, q4, e⟩ := ob e
    refine g_getN 0 o cf0 (by decide) mw_326 dX0_fewest_4 q4 ?_
    obtain ⟨x7, q7, e⟩ := ob e
    refine g_getN 1 o cf6 (by decide) mw_143 dX0_fewest_7 q7 ?_
    refine g_iconst (v := 0) o dX0_fewest_10 (by decide) ?_
    obtain ⟨x11, q11, e⟩ := ob e
    refine g_iald o dX0_fewest_11 q11 ?_
    refine g_icmp_ge (x := v1) (y := x11) 33 o dX0_fewest_12 (by decide) (fun u => ?_) (fun u => ?_)
    · rw [if_pos u] at e
      refine g_aload_n 0 o dX0_fewest_33 rfl rfl ?_
      refine g_iconst (v := 0) o dX0_fewest_34 (by decide) ?_
      refine g_iconst (v := 0) o dX0_fewest_35 (by decide) ?_
      refine g_bipush (v := 8) o dX0_fewest_36 (by decide) ?_
      obtain ⟨_, k38, e⟩ := ob e
      obtain ⟨x38, h38, q38, e⟩ := ob2_s e
      refine g_callVv [.int 0, .int 0, .int 8] o ((RCX0_all f0 20) _ _ _ _ _ _ _ q38) cf0 (ckO_s k38) mw_847 mw_848 mw_1713 mw_14 mw_849 rfl yo_X0_giveFrom rfl rfl (Nat.le_of_ble_eq_true rfl) ⟨by decide, by decide⟩ ⟨rfl, rfl⟩ dX0_fewest_38 ⟨by decide, by decide⟩ ?_
      refine g_pop o dX0_fewest_41 rfl ?_
      refine g_aload_n 0 o dX0_fewest_42 rfl rfl ?_
      obtain ⟨x43, q43, e⟩ := ob e
      refine g_getN 0 o cf0 (by decide) mw_326 dX0_fewest_43 q43 ?_
      obtain ⟨x46, q46, e⟩ := ob e
      refine g_getN 1 o cf6 (by decide) mw_143 dX0_fewest_46 q46 ?_
      refine g_iconst (v := 0) o dX0_fewest_49 (by decide) ?_
      obtain ⟨x50, q50, e⟩ := ob e
      refine g_iald o dX0_fewest_50 q50 ?_
      exact g_iret o dX0_fewest_51 (rt_v q e)
    · rw [if_neg u] at e
      refine g_aload_n 0 o dX0_fewest_15 rfl rfl ?_
      refine g_iconst (v := 0) o dX0_fewest_16 (by decide) ?_
      refine g_iconst (v := 0) o dX0_fewest_17 (by decide) ?_
      refine g_iload_n 1 o dX0_fewest_18 rfl rfl ?_
      obtain ⟨_, k19, e⟩ := ob e
      obtain ⟨x19, h19, q19, e⟩ := ob2_s e
      refine g_callVv [.int 0, .int 0, .int v1] o ((RCX0_all f0 20) _ _ _ _ _ _ _ q19) cf0 (ckO_s k19) mw_847 mw_848 mw_1713 mw_14 mw_849 rfl yo_X0_giveFrom rfl rfl (Nat.le_of_ble_eq_true rfl) ⟨by decide, by decide⟩ ⟨rfl, rfl⟩ dX0_fewest_19 ⟨by decide, by decide⟩ ?_
      refine g_if_eq (x := x19) 27 o dX0_fewest_22 (by decide) (fun u => ?_) (fun u => ?_)
      · rw [if_pos u] at e
        refine g_iinc (k := 1) (v := (v1 + 1)) [(1, .int (v1 + 1)), (0, .ref v0)] o dX0_fewest_27 rfl rfl (by decide) rfl ?_
        refine g_goto 2 o dX0_fewest_30 (by decide) ?_
        refine g_sb [1, 0] rfl ?_
        exact ih v0 (v1 + 1) h19 r hz q e
      · rw [if_neg u] at e
        refine g_iload_n 1 o dX0_fewest_25 rfl rfl ?_
        exact g_iret o dX0_fewest_26 (rt_v q e)
theorem yo_X0_fewest : yok yX0_fewest 0 := ⟨by decide, by decide, by decide +kernel⟩
set_option maxRecDepth 100000 in
set_option maxHeartbeats 4000000 in
theorem mX0_fewest {l : Launch} {D : va_G} {cy : Nat → ClassId} {f0 : Nat} {a : Nat} {h : Hp} {r : Int32} {hz : Hp} (e : fX0_fewest f0 a h = some (r, hz)) : MC l D cy yX0_fewest cX0_fewest 2 (some .int) rmX0_fewest [.ref a] h (some (.int r)) hz := by
  refine mc_of2 (by decide) (Nat.le_of_ble_eq_true rfl) (fun X hl hD hy hin o q => ?_)
  subst hl; subst hD; subst hy
  show G X 2 0 [(0, .ref a)] [] h 0 0
  unfold fX0_fewest at e
  refine g_iconst (v := 0) o dX0_fewest_0 (by decide) ?_
  refine g_istore_n [(1, .int 0), (0, .ref a)] o dX0_fewest_1 rfl (by decide) rfl ?_
  refine g_sb [1, 0] rfl ?_
  exact kX0_fewest_2 f0 o f0 a 0 h r hz q e
theorem yo_X11_names : yok yX11_names 0 := ⟨by decide, by decide, by decide +kernel⟩
set_option maxRecDepth 100000 in
set_option maxHeartbeats 4000000 in
theorem mX11_names {l : Launch} {D : va_G} {cy : Nat → ClassId} {f0 : Nat} {a : Nat} {h : Hp} {r : Int32} {hz : Hp} (e : fX11_names f0 a h = some (r, hz)) : MC l D cy yX11_names cX11_names 1 (some .int) rmX11_names [.ref a] h (some (.int r)) hz := by
  refine mc_of2 (by decide) (Nat.le_of_ble_eq_true rfl) (fun X hl hD hy hin o q => ?_)
  subst hl; subst hD; subst hy
  show G X 1 0 [(0, .ref a)] [] h 0 0
  unfold fX11_names at e
  refine g_aload_n 0 o dX11_names_0 rfl rfl ?_
  obtain ⟨x1, q1, e⟩ := ob e
  refine g_getN 16 o cf11 (by decide) mw_380 dX11_names_1 q1 ?_
  obtain ⟨_, k4, e⟩ := ob e
  obtain ⟨x4, h4, q4, e⟩ := ob2_s e
  refine g_callVv [] o (mX0_fewest q4) cf0 (ckO_s k4) mw_843 mw_844 mw_845 mw_14 mw_846 rfl yo_X0_fewest rfl rfl (Nat.le_of_ble_eq_true rfl) ⟨by decide, by decide⟩ ⟨rfl, rfl⟩ dX11_names_4 ⟨by decide, by decide⟩ ?_
  exact g_iret o dX11_names_7 (rt_v q e)
theorem yo_X11_nameOf : yok yX11_nameOf 1 := ⟨by decide, by decide, by decide +kernel⟩
set_option maxRecDepth 100000 in
set_option maxHeartbeats 4000000 in
theorem mX11_nameOf {l : Launch} {D : va_G} {cy : Nat → ClassId} {f0 : Nat} {a : Nat} {p0 : Int32} {h : Hp} {r : Int32} {hz : Hp} (e : fX11_nameOf f0 a p0 h = some (r, hz)) : MC l D cy yX11_nameOf cX11_nameOf 2 (some .int) rmX11_nameOf [.ref a, .int p0] h (some (.int r)) hz := by
  refine mc_of2 (by decide) (Nat.le_of_ble_eq_true rfl) (fun X hl hD hy hin o q => ?_)
  subst hl; subst hD; subst hy
  show G X 2 0 [(0, .ref a), (1, .int p0)] [] h 0 0
  unfold fX11_nameOf at e
  refine g_aload_n 0 o dX11_nameOf_0 rfl rfl ?_
  obtain ⟨x1, q1, e⟩ := ob e
  refine g_getN 4 o cf11 (by decide) mw_368 dX11_nameOf_1 q1 ?_
  refine g_iconst (v := 0) o dX11_nameOf_4 (by decide) ?_
  refine g_iload_n 1 o dX11_nameOf_5 rfl rfl ?_
  obtain ⟨_, k6, e⟩ := ob e
  obtain ⟨x6, h6, q6, e⟩ := ob2_s e
  refine g_callVv [.int 0, .int p0] o (mX6_has q6) cf6 (ckO_s k6) mw_824 mw_682 mw_683 mw_7 mw_684 rfl yo_X6_has rfl rfl (Nat.le_of_ble_eq_true rfl) ⟨by decide, by decide⟩ ⟨rfl, rfl⟩ dX11_nameOf_6 ⟨by decide, by decide⟩ ?_
  refine g_if_ne (x := x6) 14 o dX11_nameOf_9 (by decide) (fun u => ?_) (fun u => ?_)
  · rw [if_neg u] at e
    refine g_aload_n 0 o dX11_nameOf_14 rfl rfl ?_
    obtain ⟨x15, q15, e⟩ := ob e
    refine g_getN 16 o cf11 (by decide) mw_380 dX11_nameOf_15 q15 ?_
    obtain ⟨_, k18, e⟩ := ob e
    obtain ⟨x18, h18, q18, e⟩ := ob2_s e
    refine g_callVv [] o (mX0_fewest q18) cf0 (ckO_s k18) mw_843 mw_844 mw_845 mw_14 mw_846 rfl yo_X0_fewest rfl rfl (Nat.le_of_ble_eq_true rfl) ⟨by decide, by decide⟩ ⟨rfl, rfl⟩ dX11_nameOf_18 ⟨by decide, by decide⟩ ?_
    refine g_pop o dX11_nameOf_21 rfl ?_
    refine g_aload_n 0 o dX11_nameOf_22 rfl rfl ?_
    obtain ⟨x23, q23, e⟩ := ob e
    refine g_getN 16 o cf11 (by decide) mw_380 dX11_nameOf_23 q23 ?_
    obtain ⟨x26, q26, e⟩ := ob e
    refine g_getN 1 o cf0 (by decide) mw_328 dX11_nameOf_26 q26 ?_
    refine g_iload_n 1 o dX11_nameOf_29 rfl rfl ?_
    obtain ⟨x30, q30, e⟩ := ob e
    refine g_iald o dX11_nameOf_30 q30 ?_
    exact g_iret o dX11_nameOf_31 (rt_v q e)
  · rw [if_pos u] at e
    refine g_iconst (v := -1) o dX11_nameOf_12 (by decide) ?_
    exact g_iret o dX11_nameOf_13 (rt_v q e)
set_option maxRecDepth 100000 in
set_option maxHeartbeats 4000000 in
theorem kX5_findApart_87 {X : Cx} (f0 : Nat) (g5 : Nat → Int32 → Int32 → Int32 → Int32 → Hp → Option (Int32 × Hp)) (i5 : ∀ (v02 : Nat) (v12 : Int32) (v22 : Int32) (v32 : Int32) (v42 : Int32) (h2 : Hp) (r : Int32) (hz : Hp), Rt X (some (.int r)) hz 0 0 → g5 v02 v12 v22 v32 v42 h2 = some (r, hz) → G X 6 5 [(0, .ref v02), (1, .int v12), (2, .int v22), (3, .int v32), (4, .int v42)] [] h2 0 0) (o : Ok X cX5_findApart RX5 6 rmX5_findApart (some .int)) (v0 : Nat) (v1 : Int32) (v2 : Int32) (v3 : Int32) (v4 : Int32) (h : Hp) (r : Int32) (hz : Hp) (q : Rt X (some (.int r)) hz 0 0) (e : bX5_findApart_87 f0 g5 v0 v1 v2 v3 v4 h = some (r, hz)) : G X 6 87 [(0, .ref v0), (1, .int v1), (2, .int v2), (3, .int v3), (4, .int v4)] [] h 0 0 := by
  unfold bX5_findApart_87 at e
  refine g_iinc (k := 4) (v := (v4 + 1)) [(4, .int (v4 + 1)), (0, .ref v0), (1, .int v1), (2, .int v2), (3, .int v3)] o dX5_findApart_87 rfl rfl (by decide) rfl ?_
  refine g_goto 5 o dX5_findApart_90 (by decide) ?_
  refine g_sb [1, 2, 3, 4, 0] rfl ?_
  exact i5 v0 v1 v2 v3 (v4 + 1) h r hz q e
set_option maxRecDepth 100000 in
set_option maxHeartbeats 4000000 in
theorem kX5_findApart_5 {X : Cx} (f0 : Nat) (o : Ok X cX5_findApart RX5 6 rmX5_findApart (some .int)) (f : Nat) (v0 : Nat) (v1 : Int32) (v2 : Int32) (v3 : Int32) (v4 : Int32) (h : Hp) (r : Int32) (hz : Hp) (q : Rt X (some (.int r)) hz 0 0) (e : bX5_findApart_5 f0 f v0 v1 v2 v3 v4 h = some (r, hz)) : G X 6 5 [(0, .ref v0), (1, .int v1), (2, .int v2), (3, .int v3), (4, .int v4)] [] h 0 0 := by
  induction f generalizing v0 v1 v2 v3 v4 h r hz with
  | zero => cases e
  | succ f1 ih =>
    unfold bX5_findApart_5 at e
    refine g_iload 4 o dX5_findApart_5 rfl ?_
    refine g_iload_n 2 o dX5_findApart_7 rfl rfl ?_
    refine g_icmp_ge (x := v4) (y := v2) 93 o dX5_findApart_8 (by decide) (fun u => ?_) (fun u => ?_)
    · rw [if_pos u] at e
      refine g_iload_n 3 o dX5_findApart_93 rfl rfl ?_
      exact g_iret o dX5_findApart_94 (rt_v q e)
    · rw [if_neg u] at e
      refine g_aload_n 0 o dX5_findApart_11 rfl rfl ?_
      obtain ⟨x12, q12, e⟩ := ob e
      refine g_getN 1 o cf5 (by decide) mw_338 dX5_findApart_12 q12 ?_
      refine g_iconst (v := 2) o dX5_findApart_15 (by decide) ?_
      refine g_iload_n 1 o dX5_findApart_16 rfl rfl ?_
      refine g_imul (x := (2 : Int32)) (y := v1) o dX5_findApart_17 ?_
      refine g_iconst (v := 1) o dX5_findApart_18 (by decide) ?_
      refine g_iadd (x := ((2 : Int32) * v1)) (y := 1) o dX5_findApart_19 ?_
      obtain ⟨x20, q20, e⟩ := ob e
      refine g_bald o dX5_findApart_20 q20 ?_
      refine g_sipush (v := 255) o dX5_findApart_21 (by decide) ?_
      refine g_iand (x := x20) (y := 255) o dX5_findApart_24 ?_
      refine g_aload_n 0 o dX5_findApart_25 rfl rfl ?_
      obtain ⟨x26, q26, e⟩ := ob e
      refine g_getN 1 o cf5 (by decide) mw_338 dX5_findApart_26 q26 ?_
      refine g_iconst (v := 2) o dX5_findApart_29 (by decide) ?_
      refine g_iload 4 o dX5_findApart_30 rfl ?_
      refine g_imul (x := (2 : Int32)) (y := v4) o dX5_findApart_32 ?_
      refine g_iconst (v := 1) o dX5_findApart_33 (by decide) ?_
      refine g_iadd (x := ((2 : Int32) * v4)) (y := 1) o dX5_findApart_34 ?_
      obtain ⟨x35, q35, e⟩ := ob e
      refine g_bald o dX5_findApart_35 q35 ?_
      refine g_sipush (v := 255) o dX5_findApart_36 (by decide) ?_
      refine g_iand (x := x35) (y := 255) o dX5_findApart_39 ?_
      refine g_isub (x := (x20 &&& 255)) (y := (x35 &&& 255)) o dX5_findApart_40 ?_
      refine g_mabs (x := ((x20 &&& 255) - (x35 &&& 255))) o mw_871 mw_872 mw_18 mw_873 ⟨by decide, Nat.le_of_ble_eq_true rfl⟩ ⟨by decide, by decide⟩ dX5_findApart_41 ?_
      refine g_istore [(5, .int (if 0 ≤ ((x20 &&& 255) - (x35 &&& 255)) then ((x20 &&& 255) - (x35 &&& 255)) else 0 - ((x20 &&& 255) - (x35 &&& 255)))), (0, .ref v0), (1, .int v1), (2, .int v2), (3, .int v3), (4, .int v4)] o dX5_findApart_44 (by decide) rfl ?_
      refine g_iload 0 o dX5_findApart_46 rfl ?_
      refine g_aload_n 1 o dX5_findApart_48 rfl rfl ?_
      obtain ⟨x49, q49, e⟩ := ob e
      refine g_getN 0 o cf5 (by decide) mw_337 dX5_findApart_49 q49 ?_
      obtain ⟨x52, q52, e⟩ := ob e
      refine g_getN 11 o cf6 (by decide) mw_177 dX5_findApart_52 q52 ?_
      refine g_aload_n 1 o dX5_findApart_55 rfl rfl ?_
      obtain ⟨x56, q56, e⟩ := ob e
      refine g_getN 1 o cf5 (by decide) mw_338 dX5_findApart_56 q56 ?_
      refine g_iconst (v := 2) o dX5_findApart_59 (by decide) ?_
      refine g_iload_n 2 o dX5_findApart_60 rfl rfl ?_
      refine g_imul (x := (2 : Int32)) (y := v1) o dX5_findApart_61 ?_
      obtain ⟨x62, q62, e⟩ := ob e
      refine g_bald o dX5_findApart_62 q62 ?_
      refine g_bipush (v := 8) o dX5_findApart_63 (by decide) ?_
      refine g_imul (x := x62) (y := 8) o dX5_findApart_65 ?_
      refine g_aload_n 1 o dX5_findApart_66 rfl rfl ?_
      obtain ⟨x67, q67, e⟩ := ob e
      refine g_getN 1 o cf5 (by decide) mw_338 dX5_findApart_67 q67 ?_
      refine g_iconst (v := 2) o dX5_findApart_70 (by decide) ?_
      refine g_iload 5 o dX5_findApart_71 rfl ?_
      refine g_imul (x := (2 : Int32)) (y := v4) o dX5_findApart_73 ?_
      obtain ⟨x74, q74, e⟩ := ob e
      refine g_bald o dX5_findApart_74 q74 ?_
      refine g_iadd (x := (x62 * 8)) (y := x74) o dX5_findApart_75 ?_
      obtain ⟨x76, q76, e⟩ := ob e
      refine g_iald o dX5_findApart_76 q76 ?_
      refine g_icmp_ge (x := (if 0 ≤ ((x20 &&& 255) - (x35 &&& 255)) then ((x20 &&& 255) - (x35 &&& 255)) else 0 - ((x20 &&& 255) - (x35 &&& 255)))) (y := x76) 87 o dX5_findApart_77 (by decide) (fun u => ?_) (fun u => ?_)
      · rw [if_pos u] at e
        refine g_sb [1, 2, 3, 4, 5] rfl ?_
        exact kX5_findApart_87 f0 (bX5_findApart_5 f0 f1) ih o v0 v1 v2 v3 v4 h r hz q e
      · rw [if_neg u] at e
        refine g_iload_n 4 o dX5_findApart_80 rfl rfl ?_
        refine g_iconst (v := 1) o dX5_findApart_81 (by decide) ?_
        refine g_iload 5 o dX5_findApart_82 rfl ?_
        refine g_ishl (x := (1 : Int32)) (y := v4) o dX5_findApart_84 ?_
        refine g_ior (x := v3) (y := ((1 : Int32) <<< (v4 &&& 31))) o dX5_findApart_85 ?_
        refine g_istore_n [(3, .int (v3 ||| ((1 : Int32) <<< (v4 &&& 31)))), (5, .int (if 0 ≤ ((x20 &&& 255) - (x35 &&& 255)) then ((x20 &&& 255) - (x35 &&& 255)) else 0 - ((x20 &&& 255) - (x35 &&& 255)))), (0, .ref v0), (1, .int v1), (2, .int v2), (4, .int v4)] o dX5_findApart_86 rfl (by decide) rfl ?_
        refine g_sb [2, 3, 4, 0, 5] rfl ?_
        exact kX5_findApart_87 f0 (bX5_findApart_5 f0 f1) ih o v0 v1 v2 (v3 ||| ((1 : Int32) <<< (v4 &&& 31))) v4 h r hz q e
theorem yo_X5_findApart : yok yX5_findApart 2 := ⟨by decide, by decide, by decide +kernel⟩
set_option maxRecDepth 100000 in
set_option maxHeartbeats 4000000 in
theorem mX5_findApart {l : Launch} {D : va_G} {cy : Nat → ClassId} {f0 : Nat} {a : Nat} {p0 : Int32} {p1 : Int32} {h : Hp} {r : Int32} {hz : Hp} (e : fX5_findApart f0 a p0 p1 h = some (r, hz)) : MC l D cy yX5_findApart cX5_findApart 6 (some .int) rmX5_findApart [.ref a, .int p0, .int p1] h (some (.int r)) hz := by
  refine mc_of2 (by decide) (Nat.le_of_ble_eq_true rfl) (fun X hl hD hy hin o q => ?_)
  subst hl; subst hD; subst hy
  show G X 6 0 [(0, .ref a), (1, .int p0), (2, .int p1)] [] h 0 0
  unfold fX5_findApart at e
  refine g_iconst (v := 0) o dX5_findApart_0 (by decide) ?_
  refine g_istore_n [(3, .int 0), (0, .ref a), (1, .int p0), (2, .int p1)] o dX5_findApart_1 rfl (by decide) rfl ?_
  refine g_iconst (v := 0) o dX5_findApart_2 (by decide) ?_
  refine g_istore [(4, .int 0), (3, .int 0), (0, .ref a), (1, .int p0), (2, .int p1)] o dX5_findApart_3 (by decide) rfl ?_
  refine g_sb [2, 3, 4, 1, 0] rfl ?_
  exact kX5_findApart_5 f0 o f0 a p0 p1 0 0 h r hz q e
