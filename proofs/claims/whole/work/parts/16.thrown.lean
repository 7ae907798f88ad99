def rmX11_port : Room := { frames := 6, cells := 1, slots := 6, locals := 100 }
def bX11_port_21 (f0 : Nat) (h : Hp) : Option (Option Int32 × Hp) := some (none, h)
def fX11_port (f0 : Nat) (a : Nat) (p0 : Int32) (p1 : Int32) (h : Hp) : Option (Option Int32 × Hp) := (gfN 11 4 h a).bind fun x1 => (ckO 6 h x1).bind fun _ => ob2 (fX6_has f0 x1 0 p0 h) fun x6 h6 => (if x6 = 0 then bX11_port_21 f0 h6 else (if p1 < 0 then bX11_port_21 f0 h6 else (if p1 ≤ 5 then (if p1 = 0 then (gfN 11 11 h6 a).bind fun x65 => (ckO 10 h6 x65).bind fun _ => ob2 (fX10_namesKnownAt f0 x65 p0 h6) fun x69 h69 => some (some x69, h69) else if p1 = 1 then (gfN 11 4 h6 a).bind fun x74 => (ckO 6 h6 x74).bind fun _ => ob2 (fX6_wantedAt f0 x74 p0 h6) fun x78 h78 => some (some x78, h78) else if p1 = 2 then (gfN 11 11 h6 a).bind fun x83 => (gfN 10 9 h6 x83).bind fun x86 => (ldI 1 h6 x86 p0).bind fun x90 => some (some x90, h6) else if p1 = 3 then (gfN 11 4 h6 a).bind fun x93 => (gfN 11 11 h6 a).bind fun x98 => (gfI 10 1 h6 x98).bind fun x101 => (ckO 6 h6 x93).bind fun _ => ob2 (fX6_rainsAt f0 x93 p0 x101 h6) fun x104 h104 => (if x104 = 0 then some (some 0, h104) else some (some 1, h104)) else if p1 = 4 then (gfN 11 4 h6 a).bind fun x117 => (ckO 6 h6 x117).bind fun _ => ob2 (fX6_waysFrom f0 x117 p0 h6) fun x121 h121 => some (some x121, h121) else (gfN 11 4 h6 a).bind fun x126 => (ckO 6 h6 x126).bind fun _ => ob2 (fX6_mailsTo f0 x126 p0 h6) fun x130 h130 => some (some x130, h130)) else bX11_port_21 f0 h6)))
def rmX11_net : Room := { frames := 6, cells := 1, slots := 6, locals := 100 }
def bX11_net_24 (f0 : Nat) (f : Nat) (v0 : Nat) (v1 : Int32) (v2 : Int32) (v3 : Int32) (h : Hp) : Option (Option Int32 × Hp) := match f with
  | 0 => none
  | f1 + 1 => (gfN 11 4 h v0).bind fun x26 => (gfN 6 1 h x26).bind fun x29 => (ldI 1 h x29 0).bind fun x33 => (if x33 ≤ v3 then some (some v2, h) else (gfN 11 11 h v0).bind fun x39 => (ckO 10 h x39).bind fun _ => ob2 (fX10_owedTo f0 x39 v1 v3 h) fun x44 h44 => (gfN 11 4 h44 v0).bind fun x48 => (gfN 6 5 h44 x48).bind fun x51 => (ldI 1 h44 x51 ((v1 * 8) + v3)).bind fun x60 => (bX11_net_24 f0 f1) v0 v1 (v2 + (x44 - x60)) (v3 + 1) h44)
def fX11_net (f0 : Nat) (a : Nat) (p0 : Int32) (h : Hp) : Option (Option Int32 × Hp) := (gfN 11 4 h a).bind fun x1 => (ckO 6 h x1).bind fun _ => ob2 (fX6_has f0 x1 3 p0 h) fun x6 h6 => (if x6 = 0 then some (none, h6) else bX11_net_24 f0 f0 a p0 0 0 h6)
def rmX11_lasts : Room := { frames := 6, cells := 1, slots := 6, locals := 100 }
def bX11_lasts_19 (f0 : Nat) (h : Hp) : Option (Option Int32 × Hp) := some (none, h)
def bX11_lasts_76 (f0 : Nat) (f : Nat) (v1 : Int32) (v5 : Int32) (v6 : Int32) (v7 : Int32) (h : Hp) : Option (Option Int32 × Hp) := match f with
  | 0 => none
  | f1 + 1 => (if v1 ≤ v7 then some (some v6, h) else (bX11_lasts_76 f0 f1) v1 v5 (v6 * v5) (v7 + 1) h)
def bX11_lasts_68 (f0 : Nat) (v1 : Int32) (s0 : Int32) (h : Hp) : Option (Option Int32 × Hp) := bX11_lasts_76 f0 f0 v1 s0 1 0 h
def bX11_lasts_65 (f0 : Nat) (v1 : Int32) (v4 : Int32) (s0 : Int32) (h : Hp) : Option (Option Int32 × Hp) := (nz v4).bind fun _ => bX11_lasts_68 f0 v1 (s0 / v4) h
def fX11_lasts (f0 : Nat) (a : Nat) (p0 : Int32) (p1 : Int32) (h : Hp) : Option (Option Int32 × Hp) := (if p0 < 0 then bX11_lasts_19 f0 h else (if 6 < p0 then bX11_lasts_19 f0 h else (if p1 < 0 then bX11_lasts_19 f0 h else (if p1 ≤ 1 then (gfN 11 4 h a).bind fun x30 => (gfI 6 2 h x30).bind fun x33 => ob2 (fX11_greatestDivisor f0 12 ((12 : Int32) - x33) h) fun x41 h41 => (if x41 = 0 then bX11_lasts_68 f0 p0 0 h41 else (if p1 = 0 then bX11_lasts_65 f0 p0 x41 ((12 : Int32) - x33) h41 else bX11_lasts_65 f0 p0 x41 12 h41)) else bX11_lasts_19 f0 h))))
set_option maxRecDepth 100000 in
set_option maxHeartbeats 4000000 in
theorem kX11_port_21 {X : Cx} (f0 : Nat) (hT : ∀ x ∈ (xc X).exceptionTable.toList, False) (hst : (xl X).stackTraces = false) (o : Ok X cX11_port RX11 3 rmX11_port (some .int)) (h : Hp) (r : Option Int32) (hz : Hp) (q : RtX X r hz 1 6) (e : bX11_port_21 f0 h = some (r, hz)) : G X 3 21 [] [] h 0 0 := by
  unfold bX11_port_21 at e
  exact g_throwX hT hst o mw_1053 mw_24 dX11_port_21 dX11_port_24 dX11_port_25 dX11_port_28 ⟨by decide, Nat.le_of_ble_eq_true rfl, by decide, by decide⟩ (by decide) (by decide) (rtx_t q e)
theorem yo_X11_port : yok yX11_port 2 := ⟨by decide, by decide, by decide +kernel⟩
set_option maxRecDepth 100000 in
set_option maxHeartbeats 4000000 in
theorem mxX11_port {l : Launch} {D : va_G} {cy : Nat → ClassId} (hst : l.stackTraces = false) {f0 : Nat} {a : Nat} {p0 : Int32} {p1 : Int32} {h : Hp} {r : Option Int32} {hz : Hp} (e : fX11_port f0 a p0 p1 h = some (r, hz)) : MX l D cy yX11_port cX11_port 3 (some .int) rmX11_port [.ref a, .int p0, .int p1] h r hz := by
  refine mx_of (by decide) (Nat.le_of_ble_eq_true rfl) (fun X hl hD hy hT o q => ?_)
  subst hl; subst hD; subst hy
  show G X 3 0 [(0, .ref a), (1, .int p0), (2, .int p1)] [] h 0 0
  unfold fX11_port at e
  refine g_aload_n 0 o dX11_port_0 rfl rfl ?_
  obtain ⟨x1, q1, e⟩ := ob e
  refine g_getN 4 o cf11 (by decide) mw_368 dX11_port_1 q1 ?_
  refine g_iconst (v := 0) o dX11_port_4 (by decide) ?_
  refine g_iload_n 1 o dX11_port_5 rfl rfl ?_
  obtain ⟨_, k6, e⟩ := ob e
  obtain ⟨x6, h6, q6, e⟩ := ob2_s e
  refine g_callVv [.int 0, .int p0] o (mX6_has q6) cf6 (ckO_s k6) mw_824 mw_682 mw_683 mw_7 mw_684 rfl yo_X6_has rfl rfl (Nat.le_of_ble_eq_true rfl) ⟨by decide, by decide⟩ ⟨rfl, rfl⟩ dX11_port_6 ⟨by decide, by decide⟩ ?_
  refine g_if_eq (x := x6) 21 o dX11_port_9 (by decide) (fun u => ?_) (fun u => ?_)
  · rw [if_pos u] at e
    refine g_sb [] rfl ?_
    exact kX11_port_21 f0 hT hst o h6 r hz q e
  · rw [if_neg u] at e
    refine g_iload_n 2 o dX11_port_12 rfl rfl ?_
    refine g_if_lt (x := p1) 21 o dX11_port_13 (by decide) (fun u => ?_) (fun u => ?_)
    · rw [if_pos u] at e
      refine g_sb [] rfl ?_
      exact kX11_port_21 f0 hT hst o h6 r hz q e
    · rw [if_neg u] at e
      refine g_iload_n 2 o dX11_port_16 rfl rfl ?_
      refine g_iconst (v := 5) o dX11_port_17 (by decide) ?_
      refine g_icmp_le (x := p1) (y := 5) 29 o dX11_port_18 (by decide) (fun u => ?_) (fun u => ?_)
      · rw [if_pos u] at e
        refine g_iload_n 2 o dX11_port_29 rfl rfl ?_
        by_cases u0 : p1 = 0
        · rw [if_pos u0] at e
          refine g_tabAt (x := p1) 0 64 o dX11_port_30 u0 (by decide) (by decide) (by decide) (by decide) ?_
          refine g_aload_n 0 o dX11_port_64 rfl rfl ?_
          obtain ⟨x65, q65, e⟩ := ob e
          refine g_getN 11 o cf11 (by decide) mw_375 dX11_port_65 q65 ?_
          refine g_iload_n 1 o dX11_port_68 rfl rfl ?_
          obtain ⟨_, k69, e⟩ := ob e
          obtain ⟨x69, h69, q69, e⟩ := ob2_s e
          refine g_callVv [.int p0] o (mX10_namesKnownAt q69) cf10 (ckO_s k69) mw_1093 mw_693 mw_694 mw_13 mw_695 rfl yo_X10_namesKnownAt rfl rfl (Nat.le_of_ble_eq_true rfl) ⟨by decide, by decide⟩ ⟨rfl, rfl⟩ dX11_port_69 ⟨by decide, by decide⟩ ?_
          exact g_iretX o dX11_port_72 (by decide) (by decide) (rtx_v q e)
        rw [if_neg u0] at e
        by_cases u1 : p1 = 1
        · rw [if_pos u1] at e
          refine g_tabAt (x := p1) 1 73 o dX11_port_30 u1 (by decide) (by decide) (by decide) (by decide) ?_
          refine g_aload_n 0 o dX11_port_73 rfl rfl ?_
          obtain ⟨x74, q74, e⟩ := ob e
          refine g_getN 4 o cf11 (by decide) mw_368 dX11_port_74 q74 ?_
          refine g_iload_n 1 o dX11_port_77 rfl rfl ?_
          obtain ⟨_, k78, e⟩ := ob e
          obtain ⟨x78, h78, q78, e⟩ := ob2_s e
          refine g_callVv [.int p0] o (mX6_wantedAt q78) cf6 (ckO_s k78) mw_1094 mw_1095 mw_1096 mw_7 mw_1097 rfl yo_X6_wantedAt rfl rfl (Nat.le_of_ble_eq_true rfl) ⟨by decide, by decide⟩ ⟨rfl, rfl⟩ dX11_port_78 ⟨by decide, by decide⟩ ?_
          exact g_iretX o dX11_port_81 (by decide) (by decide) (rtx_v q e)
        rw [if_neg u1] at e
        by_cases u2 : p1 = 2
        · rw [if_pos u2] at e
          refine g_tabAt (x := p1) 2 82 o dX11_port_30 u2 (by decide) (by decide) (by decide) (by decide) ?_
          refine g_aload_n 0 o dX11_port_82 rfl rfl ?_
          obtain ⟨x83, q83, e⟩ := ob e
          refine g_getN 11 o cf11 (by decide) mw_375 dX11_port_83 q83 ?_
          obtain ⟨x86, q86, e⟩ := ob e
          refine g_getN 9 o cf10 (by decide) mw_298 dX11_port_86 q86 ?_
          refine g_iload_n 1 o dX11_port_89 rfl rfl ?_
          obtain ⟨x90, q90, e⟩ := ob e
          refine g_iald o dX11_port_90 q90 ?_
          exact g_iretX o dX11_port_91 (by decide) (by decide) (rtx_v q e)
        rw [if_neg u2] at e
        by_cases u3 : p1 = 3
        · rw [if_pos u3] at e
          refine g_tabAt (x := p1) 3 92 o dX11_port_30 u3 (by decide) (by decide) (by decide) (by decide) ?_
          refine g_aload_n 0 o dX11_port_92 rfl rfl ?_
          obtain ⟨x93, q93, e⟩ := ob e
          refine g_getN 4 o cf11 (by decide) mw_368 dX11_port_93 q93 ?_
          refine g_iload_n 1 o dX11_port_96 rfl rfl ?_
          refine g_aload_n 0 o dX11_port_97 rfl rfl ?_
          obtain ⟨x98, q98, e⟩ := ob e
          refine g_getN 11 o cf11 (by decide) mw_375 dX11_port_98 q98 ?_
          obtain ⟨x101, q101, e⟩ := ob e
          refine g_getI 1 o cf10 (by decide) mw_280 dX11_port_101 q101 ?_
          obtain ⟨_, k104, e⟩ := ob e
          obtain ⟨x104, h104, q104, e⟩ := ob2_s e
          refine g_callVv [.int p0, .int x101] o (mX6_rainsAt q104) cf6 (ckO_s k104) mw_1098 mw_538 mw_539 mw_7 mw_540 rfl yo_X6_rainsAt rfl rfl (Nat.le_of_ble_eq_true rfl) ⟨by decide, by decide⟩ ⟨rfl, rfl⟩ dX11_port_104 ⟨by decide, by decide⟩ ?_
          refine g_if_eq (x := x104) 114 o dX11_port_107 (by decide) (fun u => ?_) (fun u => ?_)
          · rw [if_pos u] at e
            refine g_iconst (v := 0) o dX11_port_114 (by decide) ?_
            exact g_iretX o dX11_port_115 (by decide) (by decide) (rtx_v q e)
          · rw [if_neg u] at e
            refine g_iconst (v := 1) o dX11_port_110 (by decide) ?_
            refine g_goto 115 o dX11_port_111 (by decide) ?_
            exact g_iretX o dX11_port_115 (by decide) (by decide) (rtx_v q e)
        rw [if_neg u3] at e
        by_cases u4 : p1 = 4
        · rw [if_pos u4] at e
          refine g_tabAt (x := p1) 4 116 o dX11_port_30 u4 (by decide) (by decide) (by decide) (by decide) ?_
          refine g_aload_n 0 o dX11_port_116 rfl rfl ?_
          obtain ⟨x117, q117, e⟩ := ob e
          refine g_getN 4 o cf11 (by decide) mw_368 dX11_port_117 q117 ?_
          refine g_iload_n 1 o dX11_port_120 rfl rfl ?_
          obtain ⟨_, k121, e⟩ := ob e
          obtain ⟨x121, h121, q121, e⟩ := ob2_s e
          refine g_callVv [.int p0] o (mX6_waysFrom q121) cf6 (ckO_s k121) mw_1099 mw_1100 mw_1101 mw_7 mw_1102 rfl yo_X6_waysFrom rfl rfl (Nat.le_of_ble_eq_true rfl) ⟨by decide, by decide⟩ ⟨rfl, rfl⟩ dX11_port_121 ⟨by decide, by decide⟩ ?_
          exact g_iretX o dX11_port_124 (by decide) (by decide) (rtx_v q e)
        rw [if_neg u4] at e
        refine g_tabOut (x := p1) 125 o dX11_port_30 (by have n0 := tb_ne 0 0 (by decide) u0; have n1 := tb_ne 1 1 (by decide) u1; have n2 := tb_ne 2 2 (by decide) u2; have n3 := tb_ne 3 3 (by decide) u3; have n4 := tb_ne 4 4 (by decide) u4; omega) (by decide) ?_
        refine g_aload_n 0 o dX11_port_125 rfl rfl ?_
        obtain ⟨x126, q126, e⟩ := ob e
        refine g_getN 4 o cf11 (by decide) mw_368 dX11_port_126 q126 ?_
        refine g_iload_n 1 o dX11_port_129 rfl rfl ?_
        obtain ⟨_, k130, e⟩ := ob e
        obtain ⟨x130, h130, q130, e⟩ := ob2_s e
        refine g_callVv [.int p0] o (mX6_mailsTo q130) cf6 (ckO_s k130) mw_1103 mw_1104 mw_1105 mw_7 mw_1106 rfl yo_X6_mailsTo rfl rfl (Nat.le_of_ble_eq_true rfl) ⟨by decide, by decide⟩ ⟨rfl, rfl⟩ dX11_port_130 ⟨by decide, by decide⟩ ?_
        exact g_iretX o dX11_port_133 (by decide) (by decide) (rtx_v q e)
      · rw [if_neg u] at e
        refine g_sb [] rfl ?_
        exact kX11_port_21 f0 hT hst o h6 r hz q e
set_option maxRecDepth 100000 in
set_option maxHeartbeats 4000000 in
theorem kX11_net_24 {X : Cx} (f0 : Nat) (hT : ∀ x ∈ (xc X).exceptionTable.toList, False) (hst : (xl X).stackTraces = false) (o : Ok X cX11_net RX11 4 rmX11_net (some .int)) (f : Nat) (v0 : Nat) (v1 : Int32) (v2 : Int32) (v3 : Int32) (h : Hp) (r : Option Int32) (hz : Hp) (q : RtX X r hz 1 6) (e : bX11_net_24 f0 f v0 v1 v2 v3 h = some (r, hz)) : G X 4 24 [(0, .ref v0), (1, .int v1), (2, .int v2), (3, .int v3)] [] h 0 0 := by
  induction f generalizing v0 v1 v2 v3 h r hz with
  | zero => cases e
  | succ f1 ih =>
    unfold bX11_net_24 at e
    refine g_iload_n 3 o dX11_net_24 rfl rfl ?_
    refine g_aload_n 0 o dX11_net_25 rfl rfl ?_
    obtain ⟨x26, q26, e⟩ := ob e
    refine g_getN 4 o cf11 (by decide) mw_368 dX11_net_26 q26 ?_
    obtain ⟨x29, q29, e⟩ := ob e
    refine g_getN 1 o cf6 (by decide) mw_147 dX11_net_29 q29 ?_
    refine g_iconst (v := 0) o dX11_net_32 (by decide) ?_
    obtain ⟨x33, q33, e⟩ := ob e
    refine g_iald o dX11_net_33 q33 ?_
    refine g_icmp_ge (x := v3) (y := x33) 70 o dX11_net_34 (by decide) (fun u => ?_) (fun u => ?_)
    · rw [if_pos u] at e
      refine g_iload_n 2 o dX11_net_70 rfl rfl ?_
      exact g_iretX o dX11_net_71 (by decide) (by decide) (rtx_v q e)
    · rw [if_neg u] at e
      refine g_iload_n 2 o dX11_net_37 rfl rfl ?_
      refine g_aload_n 0 o dX11_net_38 rfl rfl ?_
      obtain ⟨x39, q39, e⟩ := ob e
      refine g_getN 11 o cf11 (by decide) mw_375 dX11_net_39 q39 ?_
      refine g_iload_n 1 o dX11_net_42 rfl rfl ?_
      refine g_iload_n 3 o dX11_net_43 rfl rfl ?_
      obtain ⟨_, k44, e⟩ := ob e
      obtain ⟨x44, h44, q44, e⟩ := ob2_s e
      refine g_callVv [.int v1, .int v3] o (mX10_owedTo q44) cf10 (ckO_s k44) mw_825 mw_787 mw_788 mw_13 mw_789 rfl yo_X10_owedTo rfl rfl (Nat.le_of_ble_eq_true rfl) ⟨by decide, by decide⟩ ⟨rfl, rfl⟩ dX11_net_44 ⟨by decide, by decide⟩ ?_
      refine g_aload_n 0 o dX11_net_47 rfl rfl ?_
      obtain ⟨x48, q48, e⟩ := ob e
      refine g_getN 4 o cf11 (by decide) mw_368 dX11_net_48 q48 ?_
      obtain ⟨x51, q51, e⟩ := ob e
      refine g_getN 5 o cf6 (by decide) mw_162 dX11_net_51 q51 ?_
      refine g_iload_n 1 o dX11_net_54 rfl rfl ?_
      refine g_bipush (v := 8) o dX11_net_55 (by decide) ?_
      refine g_imul (x := v1) (y := 8) o dX11_net_57 ?_
      refine g_iload_n 3 o dX11_net_58 rfl rfl ?_
      refine g_iadd (x := (v1 * 8)) (y := v3) o dX11_net_59 ?_
      obtain ⟨x60, q60, e⟩ := ob e
      refine g_iald o dX11_net_60 q60 ?_
      refine g_isub (x := x44) (y := x60) o dX11_net_61 ?_
      refine g_iadd (x := v2) (y := (x44 - x60)) o dX11_net_62 ?_
      refine g_istore_n [(2, .int (v2 + (x44 - x60))), (0, .ref v0), (1, .int v1), (3, .int v3)] o dX11_net_63 rfl (by decide) rfl ?_
      refine g_iinc (k := 3) (v := (v3 + 1)) [(3, .int (v3 + 1)), (2, .int (v2 + (x44 - x60))), (0, .ref v0), (1, .int v1)] o dX11_net_64 rfl rfl (by decide) rfl ?_
      refine g_goto 24 o dX11_net_67 (by decide) ?_
      refine g_sb [2, 3, 1, 0] rfl ?_
      exact ih v0 v1 (v2 + (x44 - x60)) (v3 + 1) h44 r hz q e
theorem yo_X11_net : yok yX11_net 1 := ⟨by decide, by decide, by decide +kernel⟩
set_option maxRecDepth 100000 in
set_option maxHeartbeats 4000000 in
theorem mxX11_net {l : Launch} {D : va_G} {cy : Nat → ClassId} (hst : l.stackTraces = false) {f0 : Nat} {a : Nat} {p0 : Int32} {h : Hp} {r : Option Int32} {hz : Hp} (e : fX11_net f0 a p0 h = some (r, hz)) : MX l D cy yX11_net cX11_net 4 (some .int) rmX11_net [.ref a, .int p0] h r hz := by
  refine mx_of (by decide) (Nat.le_of_ble_eq_true rfl) (fun X hl hD hy hT o q => ?_)
  subst hl; subst hD; subst hy
  show G X 4 0 [(0, .ref a), (1, .int p0)] [] h 0 0
  unfold fX11_net at e
  refine g_aload_n 0 o dX11_net_0 rfl rfl ?_
  obtain ⟨x1, q1, e⟩ := ob e
  refine g_getN 4 o cf11 (by decide) mw_368 dX11_net_1 q1 ?_
  refine g_iconst (v := 3) o dX11_net_4 (by decide) ?_
  refine g_iload_n 1 o dX11_net_5 rfl rfl ?_
  obtain ⟨_, k6, e⟩ := ob e
  obtain ⟨x6, h6, q6, e⟩ := ob2_s e
  refine g_callVv [.int 3, .int p0] o (mX6_has q6) cf6 (ckO_s k6) mw_824 mw_682 mw_683 mw_7 mw_684 rfl yo_X6_has rfl rfl (Nat.le_of_ble_eq_true rfl) ⟨by decide, by decide⟩ ⟨rfl, rfl⟩ dX11_net_6 ⟨by decide, by decide⟩ ?_
  refine g_if_ne (x := x6) 20 o dX11_net_9 (by decide) (fun u => ?_) (fun u => ?_)
  · rw [if_neg u] at e
    refine g_iconst (v := 0) o dX11_net_20 (by decide) ?_
    refine g_istore_n [(2, .int 0), (0, .ref a), (1, .int p0)] o dX11_net_21 rfl (by decide) rfl ?_
    refine g_iconst (v := 0) o dX11_net_22 (by decide) ?_
    refine g_istore_n [(3, .int 0), (2, .int 0), (0, .ref a), (1, .int p0)] o dX11_net_23 rfl (by decide) rfl ?_
    refine g_sb [2, 3, 1, 0] rfl ?_
    exact kX11_net_24 f0 hT hst o f0 a p0 0 0 h6 r hz q e
  · rw [if_pos u] at e
    exact g_throwX hT hst o mw_1053 mw_24 dX11_net_12 dX11_net_15 dX11_net_16 dX11_net_19 ⟨by decide, Nat.le_of_ble_eq_true rfl, by decide, by decide⟩ (by decide) (by decide) (rtx_t q e)
set_option maxRecDepth 100000 in
set_option maxHeartbeats 4000000 in
theorem kX11_lasts_19 {X : Cx} (f0 : Nat) (hT : ∀ x ∈ (xc X).exceptionTable.toList, False) (hst : (xl X).stackTraces = false) (o : Ok X cX11_lasts RX11 8 rmX11_lasts (some .int)) (h : Hp) (r : Option Int32) (hz : Hp) (q : RtX X r hz 1 6) (e : bX11_lasts_19 f0 h = some (r, hz)) : G X 8 19 [] [] h 0 0 := by
  unfold bX11_lasts_19 at e
  exact g_throwX hT hst o mw_1053 mw_24 dX11_lasts_19 dX11_lasts_22 dX11_lasts_23 dX11_lasts_26 ⟨by decide, Nat.le_of_ble_eq_true rfl, by decide, by decide⟩ (by decide) (by decide) (rtx_t q e)
set_option maxRecDepth 100000 in
set_option maxHeartbeats 4000000 in
theorem kX11_lasts_76 {X : Cx} (f0 : Nat) (hT : ∀ x ∈ (xc X).exceptionTable.toList, False) (hst : (xl X).stackTraces = false) (o : Ok X cX11_lasts RX11 8 rmX11_lasts (some .int)) (f : Nat) (v1 : Int32) (v5 : Int32) (v6 : Int32) (v7 : Int32) (h : Hp) (r : Option Int32) (hz : Hp) (q : RtX X r hz 1 6) (e : bX11_lasts_76 f0 f v1 v5 v6 v7 h = some (r, hz)) : G X 8 76 [(1, .int v1), (5, .int v5), (6, .int v6), (7, .int v7)] [] h 0 0 := by
  induction f generalizing v1 v5 v6 v7 h r hz with
  | zero => cases e
  | succ f1 ih =>
    unfold bX11_lasts_76 at e
    refine g_iload 3 o dX11_lasts_76 rfl ?_
    refine g_iload_n 0 o dX11_lasts_78 rfl rfl ?_
    refine g_icmp_ge (x := v7) (y := v1) 95 o dX11_lasts_79 (by decide) (fun u => ?_) (fun u => ?_)
    · rw [if_pos u] at e
      refine g_iload 2 o dX11_lasts_95 rfl ?_
      exact g_iretX o dX11_lasts_97 (by decide) (by decide) (rtx_v q e)
    · rw [if_neg u] at e
      refine g_iload 2 o dX11_lasts_82 rfl ?_
      refine g_iload 1 o dX11_lasts_84 rfl ?_
      refine g_imul (x := v6) (y := v5) o dX11_lasts_86 ?_
      refine g_istore [(6, .int (v6 * v5)), (1, .int v1), (5, .int v5), (7, .int v7)] o dX11_lasts_87 (by decide) rfl ?_
      refine g_iinc (k := 3) (v := (v7 + 1)) [(7, .int (v7 + 1)), (6, .int (v6 * v5)), (1, .int v1), (5, .int v5)] o dX11_lasts_89 rfl rfl (by decide) rfl ?_
      refine g_goto 76 o dX11_lasts_92 (by decide) ?_
      refine g_sb [2, 3, 1, 0] rfl ?_
      exact ih v1 v5 (v6 * v5) (v7 + 1) h r hz q e
set_option maxRecDepth 100000 in
set_option maxHeartbeats 4000000 in
theorem kX11_lasts_68 {X : Cx} (f0 : Nat) (hT : ∀ x ∈ (xc X).exceptionTable.toList, False) (hst : (xl X).stackTraces = false) (o : Ok X cX11_lasts RX11 8 rmX11_lasts (some .int)) (v1 : Int32) (s0 : Int32) (h : Hp) (r : Option Int32) (hz : Hp) (q : RtX X r hz 1 6) (e : bX11_lasts_68 f0 v1 s0 h = some (r, hz)) : G X 8 68 [(1, .int v1)] [.int s0] h 0 0 := by
  unfold bX11_lasts_68 at e
  refine g_istore [(5, .int s0), (1, .int v1)] o dX11_lasts_68 (by decide) rfl ?_
  refine g_iconst (v := 1) o dX11_lasts_70 (by decide) ?_
  refine g_istore [(6, .int 1), (5, .int s0), (1, .int v1)] o dX11_lasts_71 (by decide) rfl ?_
  refine g_iconst (v := 0) o dX11_lasts_73 (by decide) ?_
  refine g_istore [(7, .int 0), (6, .int 1), (5, .int s0), (1, .int v1)] o dX11_lasts_74 (by decide) rfl ?_
  refine g_sb [3, 2, 1, 0] rfl ?_
  exact kX11_lasts_76 f0 hT hst o f0 v1 s0 1 0 h r hz q e
set_option maxRecDepth 100000 in
set_option maxHeartbeats 4000000 in
theorem kX11_lasts_65 {X : Cx} (f0 : Nat) (hT : ∀ x ∈ (xc X).exceptionTable.toList, False) (hst : (xl X).stackTraces = false) (o : Ok X cX11_lasts RX11 8 rmX11_lasts (some .int)) (v1 : Int32) (v4 : Int32) (s0 : Int32) (h : Hp) (r : Option Int32) (hz : Hp) (q : RtX X r hz 1 6) (e : bX11_lasts_65 f0 v1 v4 s0 h = some (r, hz)) : G X 8 65 [(1, .int v1), (4, .int v4)] [.int s0] h 0 0 := by
  unfold bX11_lasts_65 at e
  refine g_iload 1 o dX11_lasts_65 rfl ?_
  obtain ⟨_, z67, e⟩ := ob e
  refine g_idiv (x := s0) (y := v4) o dX11_lasts_67 (nz_s z67) ?_
  refine g_sb [0] rfl ?_
  exact kX11_lasts_68 f0 hT hst o v1 (s0 / v4) h r hz q e
theorem yo_X11_lasts : yok yX11_lasts 2 := ⟨by decide, by decide, by decide +kernel⟩
set_option maxRecDepth 100000 in
set_option maxHeartbeats 4000000 in
theorem mxX11_lasts {l : Launch} {D : va_G} {cy : Nat → ClassId} (hst : l.stackTraces = false) {f0 : Nat} {a : Nat} {p0 : Int32} {p1 : Int32} {h : Hp} {r : Option Int32} {hz : Hp} (e : fX11_lasts f0 a p0 p1 h = some (r, hz)) : MX l D cy yX11_lasts cX11_lasts 8 (some .int) rmX11_lasts [.ref a, .int p0, .int p1] h r hz := by
  refine mx_of (by decide) (Nat.le_of_ble_eq_true rfl) (fun X hl hD hy hT o q => ?_)
  subst hl; subst hD; subst hy
  show G X 8 0 [(0, .ref a), (1, .int p0), (2, .int p1)] [] h 0 0
  unfold fX11_lasts at e
  refine g_iload_n 1 o dX11_lasts_0 rfl rfl ?_
  refine g_if_lt (x := p0) 19 o dX11_lasts_1 (by decide) (fun u => ?_) (fun u => ?_)
  · rw [if_pos u] at e
    refine g_sb [] rfl ?_
    exact kX11_lasts_19 f0 hT hst o h r hz q e
  · rw [if_neg u] at e
    refine g_iload_n 1 o dX11_lasts_4 rfl rfl ?_
    refine g_bipush (v := 6) o dX11_lasts_5 (by decide) ?_
    refine g_icmp_gt (x := p0) (y := 6) 19 o dX11_lasts_7 (by decide) (fun u => ?_) (fun u => ?_)
    · rw [if_pos u] at e
      refine g_sb [] rfl ?_
      exact kX11_lasts_19 f0 hT hst o h r hz q e
    · rw [if_neg u] at e
      refine g_iload_n 2 o dX11_lasts_10 rfl rfl ?_
      refine g_if_lt (x := p1) 19 o dX11_lasts_11 (by decide) (fun u => ?_) (fun u => ?_)
      · rw [if_pos u] at e
        refine g_sb [] rfl ?_
        exact kX11_lasts_19 f0 hT hst o h r hz q e
      · rw [if_neg u] at e
        refine g_iload_n 2 o dX11_lasts_14 rfl rfl ?_
        refine g_iconst (v := 1) o dX11_lasts_15 (by decide) ?_
        refine g_icmp_le (x := p1) (y := 1) 27 o dX11_lasts_16 (by decide) (fun u => ?_) (fun u => ?_)
        · rw [if_pos u] at e
          refine g_bipush (v := 12) o dX11_lasts_27 (by decide) ?_
          refine g_aload_n 0 o dX11_lasts_29 rfl rfl ?_
          obtain ⟨x30, q30, e⟩ := ob e
          refine g_getN 4 o cf11 (by decide) mw_368 dX11_lasts_30 q30 ?_
          obtain ⟨x33, q33, e⟩ := ob e
          refine g_getI 2 o cf6 (by decide) mw_150 dX11_lasts_33 q33 ?_
          refine g_isub (x := (12 : Int32)) (y := x33) o dX11_lasts_36 ?_
          refine g_istore_n [(3, .int ((12 : Int32) - x33)), (0, .ref a), (1, .int p0), (2, .int p1)] o dX11_lasts_37 rfl (by decide) rfl ?_
          refine g_bipush (v := 12) o dX11_lasts_38 (by decide) ?_
          refine g_iload_n 0 o dX11_lasts_40 rfl rfl ?_
          obtain ⟨x41, h41, q41, e⟩ := ob2_s e
          refine g_callSv [.int 12, .int ((12 : Int32) - x33)] o (mX11_greatestDivisor q41) mw_1119 mw_1120 mw_1 mw_1121 yo_X11_greatestDivisor rfl rfl (Nat.le_of_ble_eq_true rfl) ⟨by decide, by decide⟩ ⟨rfl, rfl⟩ dX11_lasts_41 ⟨by decide, by decide⟩ ?_
          refine g_istore [(4, .int x41), (3, .int ((12 : Int32) - x33)), (0, .ref a), (1, .int p0), (2, .int p1)] o dX11_lasts_44 (by decide) rfl ?_
          refine g_iload 0 o dX11_lasts_46 rfl ?_
          refine g_if_ne (x := x41) 55 o dX11_lasts_48 (by decide) (fun u => ?_) (fun u => ?_)
          · rw [if_neg u] at e
            refine g_iload_n 4 o dX11_lasts_55 rfl rfl ?_
            refine g_if_ne (x := p1) 63 o dX11_lasts_56 (by decide) (fun u => ?_) (fun u => ?_)
            · rw [if_neg u] at e
              refine g_bipush (v := 12) o dX11_lasts_63 (by decide) ?_
              refine g_sb [3, 0] rfl ?_
              exact kX11_lasts_65 f0 hT hst o p0 x41 12 h41 r hz q e
            · rw [if_pos u] at e
              refine g_iload_n 1 o dX11_lasts_59 rfl rfl ?_
              refine g_goto 65 o dX11_lasts_60 (by decide) ?_
              refine g_sb [3, 0] rfl ?_
              exact kX11_lasts_65 f0 hT hst o p0 x41 ((12 : Int32) - x33) h41 r hz q e
          · rw [if_pos u] at e
            refine g_iconst (v := 0) o dX11_lasts_51 (by decide) ?_
            refine g_goto 68 o dX11_lasts_52 (by decide) ?_
            refine g_sb [3] rfl ?_
            exact kX11_lasts_68 f0 hT hst o p0 0 h41 r hz q e
        · rw [if_neg u] at e
          refine g_sb [] rfl ?_
          exact kX11_lasts_19 f0 hT hst o h r hz q e
