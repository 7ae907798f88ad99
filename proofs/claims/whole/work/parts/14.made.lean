def dv0 : List Value := [.null, .null]
def dv1 : List Value := [.null, .null, .null]
def dv2 : List Value := [.null, .null, .null, .null, .null, .int 0, .int 0, .int 0, .int 0, .int 0, .int 0]
def dv3 : List Value := [.null, .null, .null, .int 0]
def dv4 : List Value := [.null, .null, .int 0, .int 0, .int 0, .int 0, .int 0, .long 0, .int 0, .int 0, .int 0, .int 0]
def dv5 : List Value := [.null, .null, .null]
def dv6 : List Value := [.null, .null, .int 0, .null, .null, .null, .null, .null, .null, .null, .null, .null, .null]
def dv7 : List Value := [.null, .null, .int 0]
def dv8 : List Value := [.null, .null, .null, .int 0, .null]
def dv9 : List Value := [.null, .null, .null, .int 0]
def dv10 : List Value := [.null, .int 0, .int 0, .int 0, .int 0, .int 0, .int 0, .int 0, .int 0, .null, .null, .null, .null, .int 0]
def dv11 : List Value := [.null, .int 0, .null, .int 0, .null, .null, .null, .null, .null, .null, .null, .null, .null, .null, .int 0, .null, .null, .null]
def dv12 : List Value := [.int 0, .null, .int 0, .int 0, .int 0, .int 0, .null, .null, .null, .null, .null, .int 0, .int 0, .int 0, .int 0, .int 0, .int 0, .long 0, .int 0, .int 0, .int 0, .null, .null, .null, .null, .null, .int 0, .null, .null, .int 0, .null, .null, .null, .int 0, .int 0, .int 0, .int 0, .null, .int 0, .null, .int 0, .int 0, .int 0, .int 0, .int 0, .null, .null, .null, .null]
def rmX3_init : Room := { frames := 1, cells := 3, slots := 90, locals := 20 }
def wX3_init (f0 : Nat) (a : Nat) (h : Hp) (K : Hp → Prop) : Prop := ∀ a7 : Nat, h a7 = dead → ∃ h9, pf 3 0 (nwA 2 (30, .inr (.inl (fun _ => 0))) h a7) a (.ref a7) = some h9 ∧ ∀ a15 : Nat, h9 a15 = dead → ∃ h17, pf 3 1 (nwA 1 (30, .inl (fun _ => 0)) h9 a15) a (.ref a15) = some h17 ∧ ∀ a23 : Nat, h17 a23 = dead → ∃ h25, pf 3 2 (nwA 1 (30, .inl (fun _ => 0)) h17 a23) a (.ref a23) = some h25 ∧ K h25
def rmX6_init : Room := { frames := 2, cells := 15, slots := 581, locals := 40 }
def wX6_init (f0 : Nat) (a : Nat) (h : Hp) (K : Hp → Prop) : Prop := ∀ a5 : Nat, h a5 = dead → wX3_init f0 a5 (nwO 3 dv3 h a5) (fun h9 => ∃ h12, pf 6 0 h9 a (.ref a5) = some h12 ∧ ∀ a18 : Nat, h12 a18 = dead → ∃ h20, pf 6 1 (nwA 1 (7, .inl (fun _ => 0)) h12 a18) a (.ref a18) = some h20 ∧ ∀ a26 : Nat, h20 a26 = dead → ∃ h28, pf 6 3 (nwA 1 (64, .inl (fun _ => 0)) h20 a26) a (.ref a26) = some h28 ∧ ∀ a34 : Nat, h28 a34 = dead → ∃ h36, pf 6 4 (nwA 1 (64, .inl (fun _ => 0)) h28 a34) a (.ref a34) = some h36 ∧ ∀ a42 : Nat, h36 a42 = dead → ∃ h44, pf 6 5 (nwA 1 (64, .inl (fun _ => 0)) h36 a42) a (.ref a42) = some h44 ∧ ∀ a50 : Nat, h44 a50 = dead → ∃ h52, pf 6 6 (nwA 1 (64, .inl (fun _ => 0)) h44 a50) a (.ref a50) = some h52 ∧ ∀ a58 : Nat, h52 a58 = dead → ∃ h60, pf 6 7 (nwA 1 (64, .inl (fun _ => 0)) h52 a58) a (.ref a58) = some h60 ∧ ∀ a66 : Nat, h60 a66 = dead → ∃ h68, pf 6 8 (nwA 1 (8, .inl (fun _ => 0)) h60 a66) a (.ref a66) = some h68 ∧ ∀ a74 : Nat, h68 a74 = dead → ∃ h76, pf 6 9 (nwA 1 (16, .inl (fun _ => 0)) h68 a74) a (.ref a74) = some h76 ∧ ∀ a82 : Nat, h76 a82 = dead → ∃ h84, pf 6 10 (nwA 1 (8, .inl (fun _ => 0)) h76 a82) a (.ref a82) = some h84 ∧ ∀ a90 : Nat, h84 a90 = dead → ∃ h92, pf 6 11 (nwA 1 (64, .inl (fun _ => 0)) h84 a90) a (.ref a90) = some h92 ∧ ∀ a98 : Nat, h92 a98 = dead → ∃ h100, pf 6 12 (nwA 1 (64, .inl (fun _ => 0)) h92 a98) a (.ref a98) = some h100 ∧ K h100)
def rmX8_init : Room := { frames := 1, cells := 4, slots := 160, locals := 20 }
def wX8_init (f0 : Nat) (a : Nat) (h : Hp) (K : Hp → Prop) : Prop := ∀ a7 : Nat, h a7 = dead → ∃ h9, pf 8 0 (nwA 1 (40, .inl (fun _ => 0)) h a7) a (.ref a7) = some h9 ∧ ∀ a15 : Nat, h9 a15 = dead → ∃ h17, pf 8 1 (nwA 1 (40, .inl (fun _ => 0)) h9 a15) a (.ref a15) = some h17 ∧ ∀ a23 : Nat, h17 a23 = dead → ∃ h25, pf 8 2 (nwA 1 (40, .inl (fun _ => 0)) h17 a23) a (.ref a23) = some h25 ∧ ∀ a31 : Nat, h25 a31 = dead → ∃ h33, pf 8 4 (nwA 1 (40, .inl (fun _ => 0)) h25 a31) a (.ref a31) = some h33 ∧ K h33
def rmX10_init : Room := { frames := 1, cells := 4, slots := 88, locals := 20 }
def wX10_init (f0 : Nat) (a : Nat) (p0 : Nat) (h : Hp) (K : Hp → Prop) : Prop := ∀ a7 : Nat, h a7 = dead → ∃ h9, pf 10 9 (nwA 1 (8, .inl (fun _ => 0)) h a7) a (.ref a7) = some h9 ∧ ∀ a15 : Nat, h9 a15 = dead → ∃ h17, pf 10 10 (nwA 1 (8, .inl (fun _ => 0)) h9 a15) a (.ref a15) = some h17 ∧ ∀ a23 : Nat, h17 a23 = dead → ∃ h25, pf 10 11 (nwA 1 (8, .inl (fun _ => 0)) h17 a23) a (.ref a23) = some h25 ∧ ∀ a31 : Nat, h25 a31 = dead → ∃ h33, pf 10 12 (nwA 1 (64, .inl (fun _ => 0)) h25 a31) a (.ref a31) = some h33 ∧ ∃ h38, pf 10 0 h33 a (.ref p0) = some h38 ∧ K h38
def rmX0_init : Room := { frames := 1, cells := 1, slots := 8, locals := 20 }
def wX0_init (f0 : Nat) (a : Nat) (p0 : Nat) (h : Hp) (K : Hp → Prop) : Prop := ∀ a7 : Nat, h a7 = dead → ∃ h9, pf 0 1 (nwA 1 (8, .inl (fun _ => 0)) h a7) a (.ref a7) = some h9 ∧ ∃ h14, pf 0 0 h9 a (.ref p0) = some h14 ∧ K h14
def rmX5_init : Room := { frames := 1, cells := 1, slots := 10, locals := 20 }
def wX5_init (f0 : Nat) (a : Nat) (p0 : Nat) (p1 : Nat) (h : Hp) (K : Hp → Prop) : Prop := ∀ a7 : Nat, h a7 = dead → ∃ h9, pf 5 2 (nwA 1 (10, .inl (fun _ => 0)) h a7) a (.ref a7) = some h9 ∧ ∃ h14, pf 5 0 h9 a (.ref p0) = some h14 ∧ ∃ h19, pf 5 1 h14 a (.ref p1) = some h19 ∧ K h19
def rmX2_init : Room := { frames := 1, cells := 3, slots := 120, locals := 20 }
def wX2_init (f0 : Nat) (a : Nat) (p0 : Nat) (p1 : Nat) (h : Hp) (K : Hp → Prop) : Prop := ∀ a7 : Nat, h a7 = dead → ∃ h9, pf 2 2 (nwA 1 (40, .inl (fun _ => 0)) h a7) a (.ref a7) = some h9 ∧ ∀ a15 : Nat, h9 a15 = dead → ∃ h17, pf 2 3 (nwA 1 (40, .inl (fun _ => 0)) h9 a15) a (.ref a15) = some h17 ∧ ∀ a23 : Nat, h17 a23 = dead → ∃ h25, pf 2 4 (nwA 1 (40, .inl (fun _ => 0)) h17 a23) a (.ref a23) = some h25 ∧ ∃ h30, pf 2 0 h25 a (.ref p0) = some h30 ∧ ∃ h35, pf 2 1 h30 a (.ref p1) = some h35 ∧ K h35
def rmJ0_coder_7d493_s0 : Room := { frames := 0, cells := 0, slots := 0, locals := 0 }
def fJ0_coder_7d493_s0 (f0 : Nat) (h : Hp) : Option (Int32 × Hp) := zr 0 h
def rmJ0_length_8abf5_s0 : Room := { frames := 1, cells := 0, slots := 0, locals := 20 }
def fJ0_length_8abf5_s0 (f0 : Nat) (h : Hp) : Option (Int32 × Hp) := ob2 (fJ0_coder_7d493_s0 f0 h) fun x6 h6 => some (((145 : Int32) >>> (x6 &&& 31)), h6)
def rmJ0_isLatin1_aae02_s0 : Room := { frames := 0, cells := 0, slots := 0, locals := 0 }
def fJ0_isLatin1_aae02_s0 (f0 : Nat) (h : Hp) : Option (Int32 × Hp) := zr 1 h
def rmJ2_length_9d52b_b0 : Room := { frames := 0, cells := 0, slots := 0, locals := 0 }
def fJ2_length_9d52b_b0 (f0 : Nat) (h : Hp) : Option (Int32 × Hp) := some (((145 : Int32) >>> (1 &&& 31)), h)
def rmJ2_checkIndex_2214a_b0 : Room := { frames := 2, cells := 0, slots := 0, locals := 51 }
def fJ2_checkIndex_2214a_b0 (f0 : Nat) (p0 : Int32) (h : Hp) : Option (Hp) := ob2 (fJ2_length_9d52b_b0 f0 h) fun x2 h2 => (fJ0_checkIndex_df160 f0 p0 x2 h2).bind fun h5 => some h5
def rmJ2_getChar_3b067_b0 : Room := { frames := 0, cells := 0, slots := 0, locals := 0 }
def fJ2_getChar_3b067_b0 (f0 : Nat) (p1 : Int32) (h : Hp) : Option (Int32 × Hp) := none
def rmJ2_charAt_3b067_b0 : Room := { frames := 3, cells := 0, slots := 0, locals := 72 }
def fJ2_charAt_3b067_b0 (f0 : Nat) (p1 : Int32) (h : Hp) : Option (Int32 × Hp) := (fJ2_checkIndex_2214a_b0 f0 p1 h).bind fun h2 => ob2 (fJ2_getChar_3b067_b0 f0 p1 h2) fun x7 h7 => cr x7 h7
def rmJ1_charAt_3b067_b0 : Room := { frames := 2, cells := 0, slots := 0, locals := 51 }
def fJ1_charAt_3b067_b0 (f0 : Nat) (p1 : Int32) (h : Hp) : Option (Int32 × Hp) := (fJ0_checkIndex_df160 f0 p1 145 h).bind fun h3 => (byS 0 p1).bind fun x8 => cr ((Int32.toUInt32 (x8 &&& 255) % 65536).toInt32) h3
def rmJ0_charAt_5068e_s0 : Room := { frames := 4, cells := 0, slots := 0, locals := 93 }
def fJ0_charAt_5068e_s0 (f0 : Nat) (p0 : Int32) (h : Hp) : Option (Int32 × Hp) := ob2 (fJ0_isLatin1_aae02_s0 f0 h) fun x1 h1 => (if x1 = 0 then ob2 (fJ2_charAt_3b067_b0 f0 p0 h1) fun x21 h21 => cr x21 h21 else ob2 (fJ1_charAt_3b067_b0 f0 p0 h1) fun x12 h12 => cr x12 h12)
def rmX4_init : Room := { frames := 5, cells := 1, slots := 27, locals := 114 }
def bX4_init_88 (f0 : Nat) (K : Hp → Prop) (g25 : Nat → Int32 → Int32 → Int32 → Hp → Prop) (v0 : Nat) (v2 : Int32) (v3 : Int32) (v4 : Int32) (h : Hp) : Prop := g25 v0 v2 v3 (v4 + 1) h
def bX4_init_25 (f0 : Nat) (K : Hp → Prop) (f : Nat) (v0 : Nat) (v2 : Int32) (v3 : Int32) (v4 : Int32) (h : Hp) : Prop := match f with
  | 0 => False
  | f1 + 1 => ∃ x29 h29, fJ0_length_8abf5_s0 f0 h = some (x29, h29) ∧ (if x29 ≤ v4 then K h29 else (if 27 ≤ v2 then K h29 else ∃ x45 h45, fJ0_charAt_5068e_s0 f0 v4 h29 = some (x45, h45) ∧ (if x45 = 32 then bX4_init_88 f0 K (bX4_init_25 f0 K f1) v0 (v2 + 1) 30 v4 h45 else ∃ x67, gfN 4 1 h45 v0 = some x67 ∧ ∃ x72, ldJ 2 h45 x67 v2 = some x72 ∧ ∃ h84, stJ 2 h45 x67 v2 (x72 ||| ((Int32.toInt64 ((x45 - 97) + 1)) <<< (Int32.toInt64 v3 &&& 63))) = some h84 ∧ bX4_init_88 f0 K (bX4_init_25 f0 K f1) v0 v2 (v3 + (-5)) v4 h84)))
def wX4_init (f0 : Nat) (a : Nat) (p0 : Nat) (h : Hp) (K : Hp → Prop) : Prop := ∀ a7 : Nat, h a7 = dead → ∃ h9, pf 4 1 (nwA 2 (27, .inr (.inl (fun _ => 0))) h a7) a (.ref a7) = some h9 ∧ ∃ h14, pf 4 0 h9 a (.ref p0) = some h14 ∧ bX4_init_25 f0 K f0 a 0 30 0 h14
def rmX1_init : Room := { frames := 3, cells := 26, slots := 861, locals := 60 }
def wX1_init (f0 : Nat) (a : Nat) (h : Hp) (K : Hp → Prop) : Prop := ∀ a5 : Nat, h a5 = dead → wX6_init f0 a5 (nwO 6 dv6 h a5) (fun h9 => ∃ h12, pf 1 0 h9 a (.ref a5) = some h12 ∧ ∀ a16 : Nat, h12 a16 = dead → ∃ x21, gfN 1 0 (nwO 10 dv10 h12 a16) a = some x21 ∧ wX10_init f0 a16 x21 (nwO 10 dv10 h12 a16) (fun h24 => ∃ h27, pf 1 1 h24 a (.ref a16) = some h27 ∧ ∀ a31 : Nat, h27 a31 = dead → wX8_init f0 a31 (nwO 8 dv8 h27 a31) (fun h35 => ∃ h38, pf 1 2 h35 a (.ref a31) = some h38 ∧ K h38)))
def rmX11_init : Room := { frames := 6, cells := 107, slots := 3688, locals := 139 }
def wX11_init (f0 : Nat) (a : Nat) (h : Hp) (K : Hp → Prop) : Prop := ∀ a8_0 : Nat, h a8_0 = dead → ∃ h10_0, pf 11 0 (nwA 0 (940, .inl (fun _ => 0)) h a8_0) a (.ref a8_0) = some h10_0 ∧ ∀ a14_0 : Nat, h10_0 a14_0 = dead → ∃ x19_0, gfN 11 0 (nwO 4 dv4 h10_0 a14_0) a = some x19_0 ∧ wX4_init f0 a14_0 x19_0 (nwO 4 dv4 h10_0 a14_0) (fun h22_0 => ∃ h25_0, pf 11 2 h22_0 a (.ref a14_0) = some h25_0 ∧ ∀ a29_0 : Nat, h25_0 a29_0 = dead → wX6_init f0 a29_0 (nwO 6 dv6 h25_0 a29_0) (fun h33_0 => ∃ h36_0, pf 11 4 h33_0 a (.ref a29_0) = some h36_0 ∧ ∀ a40_0 : Nat, h36_0 a40_0 = dead → wX6_init f0 a40_0 (nwO 6 dv6 h36_0 a40_0) (fun h44_0 => ∃ h47_0, pf 11 5 h44_0 a (.ref a40_0) = some h47_0 ∧ ∀ a51_0 : Nat, h47_0 a51_0 = dead → ∃ x56_0, gfN 11 2 (nwO 7 dv7 h47_0 a51_0) a = some x56_0 ∧ ∃ x60_0, gfN 11 5 (nwO 7 dv7 h47_0 a51_0) a = some x60_0 ∧ ∃ h63_0, fX7_init f0 a51_0 x56_0 x60_0 (nwO 7 dv7 h47_0 a51_0) = some h63_0 ∧ ∃ h66_0, pf 11 6 h63_0 a (.ref a51_0) = some h66_0 ∧ ∀ a70_0 : Nat, h66_0 a70_0 = dead → wX8_init f0 a70_0 (nwO 8 dv8 h66_0 a70_0) (fun h74_0 => ∃ h77_0, pf 11 7 h74_0 a (.ref a70_0) = some h77_0 ∧ ∀ a81_0 : Nat, h77_0 a81_0 = dead → wX8_init f0 a81_0 (nwO 8 dv8 h77_0 a81_0) (fun h85_0 => ∃ h88_0, pf 11 8 h85_0 a (.ref a81_0) = some h88_0 ∧ ∀ a92_0 : Nat, h88_0 a92_0 = dead → ∃ x97_0, gfN 11 2 (nwO 9 dv9 h88_0 a92_0) a = some x97_0 ∧ ∃ x101_0, gfN 11 4 (nwO 9 dv9 h88_0 a92_0) a = some x101_0 ∧ ∃ x104_0, gfN 6 0 (nwO 9 dv9 h88_0 a92_0) x101_0 = some x104_0 ∧ ∃ x108_0, gfN 11 8 (nwO 9 dv9 h88_0 a92_0) a = some x108_0 ∧ ∃ h111_0, fX9_init f0 a92_0 x97_0 x104_0 x108_0 (nwO 9 dv9 h88_0 a92_0) = some h111_0 ∧ ∃ h114_0, pf 11 9 h111_0 a (.ref a92_0) = some h114_0 ∧ ∀ a118_0 : Nat, h114_0 a118_0 = dead → ∃ x123_0, gfN 11 2 (nwO 2 dv2 h114_0 a118_0) a = some x123_0 ∧ ∃ x127_0, gfN 11 4 (nwO 2 dv2 h114_0 a118_0) a = some x127_0 ∧ ∃ x130_0, gfN 6 0 (nwO 2 dv2 h114_0 a118_0) x127_0 = some x130_0 ∧ wX2_init f0 a118_0 x123_0 x130_0 (nwO 2 dv2 h114_0 a118_0) (fun h133_0 => ∃ h136_0, pf 11 10 h133_0 a (.ref a118_0) = some h136_0 ∧ ∀ a140_0 : Nat, h136_0 a140_0 = dead → ∃ x145_0, gfN 11 4 (nwO 10 dv10 h136_0 a140_0) a = some x145_0 ∧ wX10_init f0 a140_0 x145_0 (nwO 10 dv10 h136_0 a140_0) (fun h148_0 => ∃ h151_0, pf 11 11 h148_0 a (.ref a140_0) = some h151_0 ∧ ∀ a155_0 : Nat, h151_0 a155_0 = dead → ∃ x160_0, gfN 11 4 (nwO 10 dv10 h151_0 a155_0) a = some x160_0 ∧ wX10_init f0 a155_0 x160_0 (nwO 10 dv10 h151_0 a155_0) (fun h163_0 => ∃ h166_0, pf 11 12 h163_0 a (.ref a155_0) = some h166_0 ∧ ∀ a172_0 : Nat, h166_0 a172_0 = dead → ∃ h175_0, pf 11 13 (nwA 5 (8, .inr (.inr (.inr (.inr (fun _ => none))))) h166_0 a172_0) a (.ref a172_0) = some h175_0 ∧ ∀ a180_0 : Nat, h175_0 a180_0 = dead → ∃ h183_0, pf 11 15 (nwA 4 (2, .inr (.inr (.inr (.inr (fun _ => none))))) h175_0 a180_0) a (.ref a180_0) = some h183_0 ∧ ∀ a187_0 : Nat, h183_0 a187_0 = dead → ∃ x192_0, gfN 11 4 (nwO 0 dv0 h183_0 a187_0) a = some x192_0 ∧ wX0_init f0 a187_0 x192_0 (nwO 0 dv0 h183_0 a187_0) (fun h195_0 => ∃ h198_0, pf 11 16 h195_0 a (.ref a187_0) = some h198_0 ∧ ∀ a202_0 : Nat, h198_0 a202_0 = dead → ∃ x207_0, gfN 11 4 (nwO 5 dv5 h198_0 a202_0) a = some x207_0 ∧ ∃ x211_0, gfN 11 0 (nwO 5 dv5 h198_0 a202_0) a = some x211_0 ∧ wX5_init f0 a202_0 x207_0 x211_0 (nwO 5 dv5 h198_0 a202_0) (fun h214_0 => ∃ h217_0, pf 11 17 h214_0 a (.ref a202_0) = some h217_0 ∧ ∃ x229_0, gfN 11 13 h217_0 a = some x229_0 ∧ ∀ a233_0 : Nat, h217_0 a233_0 = dead → ∃ x238_0, gfN 11 4 (nwO 10 dv10 h217_0 a233_0) a = some x238_0 ∧ wX10_init f0 a233_0 x238_0 (nwO 10 dv10 h217_0 a233_0) (fun h241_0 => ∃ u, ckO 10 h241_0 a233_0 = some u ∧ ∃ h244_0, stQ 5 h241_0 x229_0 0 (some a233_0) = some h244_0 ∧ ∃ x229_1, gfN 11 13 h244_0 a = some x229_1 ∧ ∀ a233_1 : Nat, h244_0 a233_1 = dead → ∃ x238_1, gfN 11 4 (nwO 10 dv10 h244_0 a233_1) a = some x238_1 ∧ wX10_init f0 a233_1 x238_1 (nwO 10 dv10 h244_0 a233_1) (fun h241_1 => ∃ u, ckO 10 h241_1 a233_1 = some u ∧ ∃ h244_1, stQ 5 h241_1 x229_1 1 (some a233_1) = some h244_1 ∧ ∃ x229_2, gfN 11 13 h244_1 a = some x229_2 ∧ ∀ a233_2 : Nat, h244_1 a233_2 = dead → ∃ x238_2, gfN 11 4 (nwO 10 dv10 h244_1 a233_2) a = some x238_2 ∧ wX10_init f0 a233_2 x238_2 (nwO 10 dv10 h244_1 a233_2) (fun h241_2 => ∃ u, ckO 10 h241_2 a233_2 = some u ∧ ∃ h244_2, stQ 5 h241_2 x229_2 2 (some a233_2) = some h244_2 ∧ ∃ x229_3, gfN 11 13 h244_2 a = some x229_3 ∧ ∀ a233_3 : Nat, h244_2 a233_3 = dead → ∃ x238_3, gfN 11 4 (nwO 10 dv10 h244_2 a233_3) a = some x238_3 ∧ wX10_init f0 a233_3 x238_3 (nwO 10 dv10 h244_2 a233_3) (fun h241_3 => ∃ u, ckO 10 h241_3 a233_3 = some u ∧ ∃ h244_3, stQ 5 h241_3 x229_3 3 (some a233_3) = some h244_3 ∧ ∃ x229_4, gfN 11 13 h244_3 a = some x229_4 ∧ ∀ a233_4 : Nat, h244_3 a233_4 = dead → ∃ x238_4, gfN 11 4 (nwO 10 dv10 h244_3 a233_4) a = some x238_4 ∧ wX10_init f0 a233_4 x238_4 (nwO 10 dv10 h244_3 a233_4) (fun h241_4 => ∃ u, ckO 10 h241_4 a233_4 = some u ∧ ∃ h244_4, stQ 5 h241_4 x229_4 4 (some a233_4) = some h244_4 ∧ ∃ x229_5, gfN 11 13 h244_4 a = some x229_5 ∧ ∀ a233_5 : Nat, h244_4 a233_5 = dead → ∃ x238_5, gfN 11 4 (nwO 10 dv10 h244_4 a233_5) a = some x238_5 ∧ wX10_init f0 a233_5 x238_5 (nwO 10 dv10 h244_4 a233_5) (fun h241_5 => ∃ u, ckO 10 h241_5 a233_5 = some u ∧ ∃ h244_5, stQ 5 h241_5 x229_5 5 (some a233_5) = some h244_5 ∧ ∃ x229_6, gfN 11 13 h244_5 a = some x229_6 ∧ ∀ a233_6 : Nat, h244_5 a233_6 = dead → ∃ x238_6, gfN 11 4 (nwO 10 dv10 h244_5 a233_6) a = some x238_6 ∧ wX10_init f0 a233_6 x238_6 (nwO 10 dv10 h244_5 a233_6) (fun h241_6 => ∃ u, ckO 10 h241_6 a233_6 = some u ∧ ∃ h244_6, stQ 5 h241_6 x229_6 6 (some a233_6) = some h244_6 ∧ ∃ x229_7, gfN 11 13 h244_6 a = some x229_7 ∧ ∀ a233_7 : Nat, h244_6 a233_7 = dead → ∃ x238_7, gfN 11 4 (nwO 10 dv10 h244_6 a233_7) a = some x238_7 ∧ wX10_init f0 a233_7 x238_7 (nwO 10 dv10 h244_6 a233_7) (fun h241_7 => ∃ u, ckO 10 h241_7 a233_7 = some u ∧ ∃ h244_7, stQ 5 h241_7 x229_7 7 (some a233_7) = some h244_7 ∧ ∃ x252_8, gfN 11 11 h244_7 a = some x252_8 ∧ ∃ u, ckO 10 h244_7 x252_8 = some u ∧ ∃ h255_8, fX10_start f0 x252_8 h244_7 = some h255_8 ∧ K h255_8))))))))))))))))))
def rmX12_init : Room := { frames := 3, cells := 22, slots := 8933, locals := 67 }
def wX12_init (f0 : Nat) (a : Nat) (h : Hp) (K : Hp → Prop) : Prop := ∀ a8 : Nat, h a8 = dead → ∃ h10, pf 12 1 (nwA 0 (940, .inl (fun _ => 0)) h a8) a (.ref a8) = some h10 ∧ ∀ a17 : Nat, h10 a17 = dead → ∃ h19, pf 12 6 (nwA 1 (646, .inl (fun _ => 0)) h10 a17) a (.ref a17) = some h19 ∧ ∀ a26 : Nat, h19 a26 = dead → ∃ h28, pf 12 7 (nwA 1 (312, .inl (fun _ => 0)) h19 a26) a (.ref a26) = some h28 ∧ ∀ a35 : Nat, h28 a35 = dead → ∃ h37, pf 12 8 (nwA 1 (135, .inl (fun _ => 0)) h28 a35) a (.ref a35) = some h37 ∧ ∀ a43 : Nat, h37 a43 = dead → ∃ h45, pf 12 9 (nwA 2 (60, .inr (.inl (fun _ => 0))) h37 a43) a (.ref a43) = some h45 ∧ ∀ a51 : Nat, h45 a51 = dead → ∃ h53, pf 12 10 (nwA 2 (27, .inr (.inl (fun _ => 0))) h45 a51) a (.ref a51) = some h53 ∧ ∀ a59 : Nat, h53 a59 = dead → ∃ h61, pf 12 21 (nwA 1 (64, .inl (fun _ => 0)) h53 a59) a (.ref a59) = some h61 ∧ ∀ a67 : Nat, h61 a67 = dead → ∃ h69, pf 12 22 (nwA 1 (64, .inl (fun _ => 0)) h61 a67) a (.ref a67) = some h69 ∧ ∀ a75 : Nat, h69 a75 = dead → ∃ h77, pf 12 23 (nwA 1 (6, .inl (fun _ => 0)) h69 a75) a (.ref a75) = some h77 ∧ ∀ a83 : Nat, h77 a83 = dead → ∃ h85, pf 12 24 (nwA 1 (6, .inl (fun _ => 0)) h77 a83) a (.ref a83) = some h85 ∧ ∀ a92 : Nat, h85 a92 = dead → ∃ h94, pf 12 25 (nwA 1 (1792, .inl (fun _ => 0)) h85 a92) a (.ref a92) = some h94 ∧ ∀ a101 : Nat, h94 a101 = dead → ∃ h103, pf 12 27 (nwA 1 (1224, .inl (fun _ => 0)) h94 a101) a (.ref a101) = some h103 ∧ ∀ a110 : Nat, h103 a110 = dead → ∃ h112, pf 12 28 (nwA 1 (153, .inl (fun _ => 0)) h103 a110) a (.ref a110) = some h112 ∧ ∀ a118 : Nat, h112 a118 = dead → ∃ h120, pf 12 30 (nwA 1 (8, .inl (fun _ => 0)) h112 a118) a (.ref a118) = some h120 ∧ ∀ a127 : Nat, h120 a127 = dead → ∃ h129, pf 12 31 (nwA 1 (1024, .inl (fun _ => 0)) h120 a127) a (.ref a127) = some h129 ∧ ∀ a136 : Nat, h129 a136 = dead → ∃ h138, pf 12 32 (nwA 1 (1024, .inl (fun _ => 0)) h129 a136) a (.ref a136) = some h138 ∧ ∀ a143 : Nat, h138 a143 = dead → ∃ h145, pf 12 37 (nwA 1 (4, .inl (fun _ => 0)) h138 a143) a (.ref a143) = some h145 ∧ ∀ a151 : Nat, h145 a151 = dead → ∃ h153, pf 12 39 (nwA 1 (45, .inl (fun _ => 0)) h145 a151) a (.ref a151) = some h153 ∧ ∀ a159 : Nat, h153 a159 = dead → ∃ h161, pf 12 45 (nwA 3 (45, .inl (fun _ => 0)) h153 a159) a (.ref a159) = some h161 ∧ ∀ a168 : Nat, h161 a168 = dead → ∃ h170, pf 12 46 (nwA 1 (1292, .inl (fun _ => 0)) h161 a168) a (.ref a168) = some h170 ∧ ∀ a176 : Nat, h170 a176 = dead → ∃ h178, pf 12 47 (nwA 2 (60, .inr (.inl (fun _ => 0))) h170 a176) a (.ref a176) = some h178 ∧ ∀ a183 : Nat, h178 a183 = dead → ∃ h185, pf 12 48 (nwA 3 (2, .inl (fun _ => 0)) h178 a183) a (.ref a183) = some h185 ∧ ∃ x189, gfN 12 10 h185 a = some x189 ∧ ∃ h196, stJ 2 h185 x189 0 1886351988 = some h196 ∧ ∃ x198, gfN 12 10 h196 a = some x198 ∧ ∃ h205, stJ 2 h196 x198 1 7823737 = some h205 ∧ ∃ x207, gfN 12 10 h205 a = some x207 ∧ ∃ h214, stJ 2 h205 x207 2 1835100524 = some h214 ∧ ∃ x216, gfN 12 10 h214 a = some x216 ∧ ∃ h223, stJ 2 h214 x216 3 1936222576 = some h223 ∧ ∃ x225, gfN 12 10 h223 a = some x225 ∧ ∃ h232, stJ 2 h223 x225 4 131260348654948 = some h232 ∧ ∃ x234, gfN 12 10 h232 a = some x234 ∧ ∃ h241, stJ 2 h232 x234 5 1870095716 = some h241 ∧ ∃ x243, gfN 12 10 h241 a = some x243 ∧ ∃ h251, stJ 2 h241 x243 6 1919904869 = some h251 ∧ ∃ x253, gfN 12 10 h251 a = some x253 ∧ ∃ h261, stJ 2 h251 x253 7 474147546227 = some h261 ∧ ∃ x263, gfN 12 10 h261 a = some x263 ∧ ∃ h271, stJ 2 h261 x263 8 7168366 = some h271 ∧ ∃ x273, gfN 12 10 h271 a = some x273 ∧ ∃ h281, stJ 2 h271 x273 9 1918986606 = some h281 ∧ ∃ x283, gfN 12 10 h281 a = some x283 ∧ ∃ h291, stJ 2 h281 x283 10 123563834240884 = some h291 ∧ ∃ x293, gfN 12 10 h291 a = some x293 ∧ ∃ h301, stJ 2 h291 x293 11 495555538035 = some h301 ∧ ∃ x303, gfN 12 10 h301 a = some x303 ∧ ∃ h311, stJ 2 h301 x303 12 123563682985075 = some h311 ∧ ∃ x313, gfN 12 10 h311 a = some x313 ∧ ∃ h321, stJ 2 h311 x313 13 512735409267 = some h321 ∧ ∃ x323, gfN 12 10 h321 a = some x323 ∧ ∃ h331, stJ 2 h321 x323 14 499850634611 = some h331 ∧ ∃ x333, gfN 12 10 h331 a = some x333 ∧ ∃ h341, stJ 2 h331 x333 15 119182682386035 = some h341 ∧ ∃ x343, gfN 12 10 h341 a = some x343 ∧ ∃ h351, stJ 2 h341 x343 16 28530 = some h351 ∧ ∃ x353, gfN 12 10 h351 a = some x353 ∧ ∃ h361, stJ 2 h351 x353 17 6385252 = some h361 ∧ ∃ x363, gfN 12 10 h361 a = some x363 ∧ ∃ h371, stJ 2 h361 x363 18 7237492 = some h371 ∧ ∃ x373, gfN 12 10 h371 a = some x373 ∧ ∃ h381, stJ 2 h371 x373 19 1751478885 = some h381 ∧ ∃ x383, gfN 12 10 h381 a = some x383 ∧ ∃ h391, stJ 2 h381 x383 20 1650812270 = some h391 ∧ ∃ x393, gfN 12 10 h391 a = some x393 ∧ ∃ h401, stJ 2 h391 x393 21 1935763045 = some h401 ∧ ∃ x403, gfN 12 10 h401 a = some x403 ∧ ∃ h411, stJ 2 h401 x403 22 461414299507 = some h411 ∧ ∃ x413, gfN 12 10 h411 a = some x413 ∧ ∃ h421, stJ 2 h411 x413 23 448377483891 = some h421 ∧ ∃ x423, gfN 12 10 h421 a = some x423 ∧ ∃ h431, stJ 2 h421 x423 24 6709618 = some h431 ∧ ∃ x433, gfN 12 10 h431 a = some x433 ∧ ∃ h441, stJ 2 h431 x433 25 474080961907 = some h441 ∧ ∃ x443, gfN 12 10 h441 a = some x443 ∧ ∃ h451, stJ 2 h441 x443 26 121450625394034 = some h451 ∧ ∃ u, ckO 12 h451 a = some u ∧ ∃ h453, fX12_begins f0 a h451 = some h453 ∧ K h453
def rmX11_image : Room := { frames := 4, cells := 27, slots := 864, locals := 82 }
def bX11_image_33 (f0 : Nat) (K : Int32 → Hp → Prop) (v0 : Nat) (v1 : Int32) (h : Hp) : Prop := ∃ x34, gfN 11 15 h v0 = some x34 ∧ ∃ x38, ldN 4 h x34 v1 = some x38 ∧ ∃ x41, gfN 1 0 h x38 = some x41 ∧ ∃ x45, gfN 11 4 h v0 = some x45 ∧ ∃ u, ckO 6 h x41 = some u ∧ ∃ h48, fX6_copyFrom f0 x41 x45 h = some h48 ∧ ∃ x52, gfN 1 1 h48 x38 = some x52 ∧ ∃ x56, gfN 11 11 h48 v0 = some x56 ∧ ∃ u, ckO 10 h48 x52 = some u ∧ ∃ h59, fX10_copyFrom f0 x52 x56 h48 = some h59 ∧ ∃ x63, gfN 1 2 h59 x38 = some x63 ∧ ∃ x67, gfN 11 7 h59 v0 = some x67 ∧ ∃ u, ckO 8 h59 x63 = some u ∧ ∃ h70, fX8_copyFrom f0 x63 x67 h59 = some h70 ∧ (((1 : Int32) = 0 ∨ (1 : Int32) = 1) ∧ K 1 h70)
def wX11_image (f0 : Nat) (a : Nat) (p0 : Int32) (h : Hp) (K : Int32 → Hp → Prop) : Prop := (if p0 < 0 then (((0 : Int32) = 0 ∨ (0 : Int32) = 1) ∧ K 0 h) else (if p0 < 2 then ∃ x12, gfN 11 15 h a = some x12 ∧ ∃ x16, ldQ 4 h x12 p0 = some x16 ∧ (if x16 = none then ∃ x21, gfN 11 15 h a = some x21 ∧ ∀ a25 : Nat, h a25 = dead → wX1_init f0 a25 (nwO 1 dv1 h a25) (fun h29 => ∃ u, ckO 1 h29 a25 = some u ∧ ∃ h32, stQ 4 h29 x21 p0 (some a25) = some h32 ∧ bX11_image_33 f0 K a p0 h32) else bX11_image_33 f0 K a p0 h) else (((0 : Int32) = 0 ∨ (0 : Int32) = 1) ∧ K 0 h)))
theorem dv0_ok : ∀ j, j < 2 → defaultValue (tyX0 j) = vp_V dv0 j := fun j hj => by
  rcases (show j = 0 ∨ j = 1 by omega) with rfl | rfl <;> rfl
theorem dv1_ok : ∀ j, j < 3 → defaultValue (tyX1 j) = vp_V dv1 j := fun j hj => by
  rcases (show j = 0 ∨ j = 1 ∨ j = 2 by omega) with rfl | rfl | rfl <;> rfl
theorem dv2_ok : ∀ j, j < 11 → defaultValue (tyX2 j) = vp_V dv2 j := fun j hj => by
  rcases (show j = 0 ∨ j = 1 ∨ j = 2 ∨ j = 3 ∨ j = 4 ∨ j = 5 ∨ j = 6 ∨ j = 7 ∨ j = 8 ∨ j = 9 ∨ j = 10 by omega) with rfl | rfl | rfl | rfl | rfl | rfl | rfl | rfl | rfl | rfl | rfl <;> rfl
theorem dv3_ok : ∀ j, j < 4 → defaultValue (tyX3 j) = vp_V dv3 j := fun j hj => by
  rcases (show j = 0 ∨ j = 1 ∨ j = 2 ∨ j = 3 by omega) with rfl | rfl | rfl | rfl <;> rfl
theorem dv4_ok : ∀ j, j < 12 → defaultValue (tyX4 j) = vp_V dv4 j := fun j hj => by
  rcases (show j = 0 ∨ j = 1 ∨ j = 2 ∨ j = 3 ∨ j = 4 ∨ j = 5 ∨ j = 6 ∨ j = 7 ∨ j = 8 ∨ j = 9 ∨ j = 10 ∨ j = 11 by omega) with rfl | rfl | rfl | rfl | rfl | rfl | rfl | rfl | rfl | rfl | rfl | rfl <;> rfl
theorem dv5_ok : ∀ j, j < 3 → defaultValue (tyX5 j) = vp_V dv5 j := fun j hj => by
  rcases (show j = 0 ∨ j = 1 ∨ j = 2 by omega) with rfl | rfl | rfl <;> rfl
theorem dv6_ok : ∀ j, j < 13 → defaultValue (tyX6 j) = vp_V dv6 j := fun j hj => by
  rcases (show j = 0 ∨ j = 1 ∨ j = 2 ∨ j = 3 ∨ j = 4 ∨ j = 5 ∨ j = 6 ∨ j = 7 ∨ j = 8 ∨ j = 9 ∨ j = 10 ∨ j = 11 ∨ j = 12 by omega) with rfl | rfl | rfl | rfl | rfl | rfl | rfl | rfl | rfl | rfl | rfl | rfl | rfl <;> rfl
theorem dv7_ok : ∀ j, j < 3 → defaultValue (tyX7 j) = vp_V dv7 j := fun j hj => by
  rcases (show j = 0 ∨ j = 1 ∨ j = 2 by omega) with rfl | rfl | rfl <;> rfl
theorem dv8_ok : ∀ j, j < 5 → defaultValue (tyX8 j) = vp_V dv8 j := fun j hj => by
  rcases (show j = 0 ∨ j = 1 ∨ j = 2 ∨ j = 3 ∨ j = 4 by omega) with rfl | rfl | rfl | rfl | rfl <;> rfl
theorem dv9_ok : ∀ j, j < 4 → defaultValue (tyX9 j) = vp_V dv9 j := fun j hj => by
  rcases (show j = 0 ∨ j = 1 ∨ j = 2 ∨ j = 3 by omega) with rfl | rfl | rfl | rfl <;> rfl
theorem dv10_ok : ∀ j, j < 14 → defaultValue (tyX10 j) = vp_V dv10 j := fun j hj => by
  rcases (show j = 0 ∨ j = 1 ∨ j = 2 ∨ j = 3 ∨ j = 4 ∨ j = 5 ∨ j = 6 ∨ j = 7 ∨ j = 8 ∨ j = 9 ∨ j = 10 ∨ j = 11 ∨ j = 12 ∨ j = 13 by omega) with rfl | rfl | rfl | rfl | rfl | rfl | rfl | rfl | rfl | rfl | rfl | rfl | rfl | rfl <;> rfl
theorem dv11_ok : ∀ j, j < 18 → defaultValue (tyX11 j) = vp_V dv11 j := fun j hj => by
  rcases (show j = 0 ∨ j = 1 ∨ j = 2 ∨ j = 3 ∨ j = 4 ∨ j = 5 ∨ j = 6 ∨ j = 7 ∨ j = 8 ∨ j = 9 ∨ j = 10 ∨ j = 11 ∨ j = 12 ∨ j = 13 ∨ j = 14 ∨ j = 15 ∨ j = 16 ∨ j = 17 by omega) with rfl | rfl | rfl | rfl | rfl | rfl | rfl | rfl | rfl | rfl | rfl | rfl | rfl | rfl | rfl | rfl | rfl | rfl <;> rfl
theorem dv12_ok : ∀ j, j < 49 → defaultValue (tyX12 j) = vp_V dv12 j := fun j hj => by
  rcases (show j = 0 ∨ j = 1 ∨ j = 2 ∨ j = 3 ∨ j = 4 ∨ j = 5 ∨ j = 6 ∨ j = 7 ∨ j = 8 ∨ j = 9 ∨ j = 10 ∨ j = 11 ∨ j = 12 ∨ j = 13 ∨ j = 14 ∨ j = 15 ∨ j = 16 ∨ j = 17 ∨ j = 18 ∨ j = 19 ∨ j = 20 ∨ j = 21 ∨ j = 22 ∨ j = 23 ∨ j = 24 ∨ j = 25 ∨ j = 26 ∨ j = 27 ∨ j = 28 ∨ j = 29 ∨ j = 30 ∨ j = 31 ∨ j = 32 ∨ j = 33 ∨ j = 34 ∨ j = 35 ∨ j = 36 ∨ j = 37 ∨ j = 38 ∨ j = 39 ∨ j = 40 ∨ j = 41 ∨ j = 42 ∨ j = 43 ∨ j = 44 ∨ j = 45 ∨ j = 46 ∨ j = 47 ∨ j = 48 by omega) with rfl | rfl | rfl | rfl | rfl | rfl | rfl | rfl | rfl | rfl | rfl | rfl | rfl | rfl | rfl | rfl | rfl | rfl | rfl | rfl | rfl | rfl | rfl | rfl | rfl | rfl | rfl | rfl | rfl | rfl | rfl | rfl | rfl | rfl | rfl | rfl | rfl | rfl | rfl | rfl | rfl | rfl | rfl | rfl | rfl | rfl | rfl | rfl | rfl <;> rfl
theorem yo_X3_init : yok yX3_init 0 := ⟨by decide, by decide, by decide +kernel⟩
set_option maxRecDepth 100000 in
set_option maxHeartbeats 4000000 in
theorem mwX3_init {l : Launch} {D : va_G} {cy : Nat → ClassId} {f0 : Nat} {a : Nat} {h : Hp} {K : Hp → Prop} (e : wX3_init f0 a h K) : MW l D cy yX3_init cX3_init 1 none rmX3_init [.ref a] h (pV K) := by
  refine mw_of (by decide) (Nat.le_of_ble_eq_true rfl) (fun X hl hD hy hin o q => ?_)
  subst hl; subst hD; subst hy
  show G X 1 0 [(0, .ref a)] [] h 0 0
  unfold wX3_init at e
  refine g_aload_n 0 o dX3_init_0 rfl rfl ?_
  refine g_objInit o mw_128 mw_33 mw_34 ⟨by decide, Nat.le_of_ble_eq_true rfl⟩ dX3_init_1 ?_
  refine g_aload_n 0 o dX3_init_4 rfl rfl ?_
  refine g_bipush (v := 30) o dX3_init_5 (by decide) ?_
  refine g_newa (N := 30) (t := 2) (x := (30, .inr (.inl (fun _ => 0)))) o mw_118 rfl rfl (fun _ _ z => z) (fun _ => rfl) (by decide) (by decide) (Nat.le_of_ble_eq_true rfl) ⟨by decide, Nat.le_of_ble_eq_true rfl⟩ dX3_init_7 (fun a7 d_a7 => ?_)
  have e := e a7 d_a7
  obtain ⟨h9, q9, e⟩ := e
  refine g_putF (ty1 := (.array .long)) 0 o cf3 (by decide) mw_129 rfl hin rfl (by decide +kernel) rfl rfl dX3_init_9 q9 ?_
  refine g_aload_n 0 o dX3_init_12 rfl rfl ?_
  refine g_bipush (v := 30) o dX3_init_13 (by decide) ?_
  refine g_newa (N := 30) (t := 1) (x := (30, .inl (fun _ => 0))) o mw_138 rfl rfl (fun _ _ z => z) (fun _ => rfl) (by decide) (by decide) (Nat.le_of_ble_eq_true rfl) ⟨by decide, Nat.le_of_ble_eq_true rfl⟩ dX3_init_15 (fun a15 d_a15 => ?_)
  have e := e a15 d_a15
  obtain ⟨h17, q17, e⟩ := e
  refine g_putF (ty1 := (.array .int)) 1 o cf3 (by decide) mw_130 rfl hin rfl (by decide +kernel) rfl rfl dX3_init_17 q17 ?_
  refine g_aload_n 0 o dX3_init_20 rfl rfl ?_
  refine g_bipush (v := 30) o dX3_init_21 (by decide) ?_
  refine g_newa (N := 30) (t := 1) (x := (30, .inl (fun _ => 0))) o mw_138 rfl rfl (fun _ _ z => z) (fun _ => rfl) (by decide) (by decide) (Nat.le_of_ble_eq_true rfl) ⟨by decide, Nat.le_of_ble_eq_true rfl⟩ dX3_init_23 (fun a23 d_a23 => ?_)
  have e := e a23 d_a23
  obtain ⟨h25, q25, e⟩ := e
  refine g_putF (ty1 := (.array .int)) 2 o cf3 (by decide) mw_131 rfl hin rfl (by decide +kernel) rfl rfl dX3_init_25 q25 ?_
  exact g_vretW o dX3_init_28 (by decide) (by decide) q ⟨rfl, e⟩
theorem yo_X6_init : yok yX6_init 0 := ⟨by decide, by decide, by decide +kernel⟩
set_option maxRecDepth 100000 in
set_option maxHeartbeats 4000000 in
theorem mwX6_init {l : Launch} {D : va_G} {cy : Nat → ClassId} {f0 : Nat} {a : Nat} {h : Hp} {K : Hp → Prop} (e : wX6_init f0 a h K) : MW l D cy yX6_init cX6_init 1 none rmX6_init [.ref a] h (pV K) := by
  refine mw_of (by decide) (Nat.le_of_ble_eq_true rfl) (fun X hl hD hy hin o q => ?_)
  subst hl; subst hD; subst hy
  show G X 1 0 [(0, .ref a)] [] h 0 0
  unfold wX6_init at e
  refine g_aload_n 0 o dX6_init_0 rfl rfl ?_
  refine g_objInit o mw_123 mw_33 mw_34 ⟨by decide, Nat.le_of_ble_eq_true rfl⟩ dX6_init_1 ?_
  refine g_aload_n 0 o dX6_init_4 rfl rfl ?_
  refine g_new dv3 o cf3 mw_124 mw_125 mw_8 dv3_ok ⟨by decide, by decide⟩ dX6_init_5 (fun a5 d_a5 => ?_)
  have e := e a5 d_a5
  refine g_dup o dX6_init_8 rfl ?_
  refine g_callIN [] o (mwX3_init e) (List.mem_of_getElem? (i := 1) rfl) mw_126 mw_8 mw_127 rfl yo_X3_init rfl rfl (Nat.le_of_ble_eq_true rfl) ⟨by decide, by decide⟩ ⟨Nat.le_of_ble_eq_true rfl, Nat.le_of_ble_eq_true rfl⟩ dX6_init_9 (fun h9 e => ?_)
  obtain ⟨h12, q12, e⟩ := e
  refine g_putF (ty1 := (.object "FalseName$NameTable")) 0 o cf6 (by decide) mw_139 rfl hin rfl (by decide +kernel) rfl rfl dX6_init_12 q12 ?_
  refine g_aload_n 0 o dX6_init_15 rfl rfl ?_
  refine g_bipush (v := 7) o dX6_init_16 (by decide) ?_
  refine g_newa (N := 7) (t := 1) (x := (7, .inl (fun _ => 0))) o mw_138 rfl rfl (fun _ _ z => z) (fun _ => rfl) (by decide) (by decide) (Nat.le_of_ble_eq_true rfl) ⟨by decide, Nat.le_of_ble_eq_true rfl⟩ dX6_init_18 (fun a18 d_a18 => ?_)
  have e := e a18 d_a18
  obtain ⟨h20, q20, e⟩ := e
  refine g_putF (ty1 := (.array .int)) 1 o cf6 (by decide) mw_142 rfl hin rfl (by decide +kernel) rfl rfl dX6_init_20 q20 ?_
  refine g_aload_n 0 o dX6_init_23 rfl rfl ?_
  refine g_bipush (v := 64) o dX6_init_24 (by decide) ?_
  refine g_newa (N := 64) (t := 1) (x := (64, .inl (fun _ => 0))) o mw_138 rfl rfl (fun _ _ z => z) (fun _ => rfl) (by decide) (by decide) (Nat.le_of_ble_eq_true rfl) ⟨by decide, Nat.le_of_ble_eq_true rfl⟩ dX6_init_26 (fun a26 d_a26 => ?_)
  have e := e a26 d_a26
  obtain ⟨h28, q28, e⟩ := e
  refine g_putF (ty1 := (.array .int)) 3 o cf6 (by decide) mw_152 rfl hin rfl (by decide +kernel) rfl rfl dX6_init_28 q28 ?_
  refine g_aload_n 0 o dX6_init_31 rfl rfl ?_
  refine g_bipush (v := 64) o dX6_init_32 (by decide) ?_
  refine g_newa (N := 64) (t := 1) (x := (64, .inl (fun _ => 0))) o mw_138 rfl rfl (fun _ _ z => z) (fun _ => rfl) (by decide) (by decide) (Nat.le_of_ble_eq_true rfl) ⟨by decide, Nat.le_of_ble_eq_true rfl⟩ dX6_init_34 (fun a34 d_a34 => ?_)
  have e := e a34 d_a34
  obtain ⟨h36, q36, e⟩ := e
  refine g_putF (ty1 := (.array .int)) 4 o cf6 (by decide) mw_156 rfl hin rfl (by decide +kernel) rfl rfl dX6_init_36 q36 ?_
  refine g_aload_n 0 o dX6_init_39 rfl rfl ?_
  refine g_bipush (v := 64) o dX6_init_40 (by decide) ?_
  refine g_newa (N := 64) (t := 1) (x := (64, .inl (fun _ => 0))) o mw_138 rfl rfl (fun _ _ z => z) (fun _ => rfl) (by decide) (by decide) (Nat.le_of_ble_eq_true rfl) ⟨by decide, Nat.le_of_ble_eq_true rfl⟩ dX6_init_42 (fun a42 d_a42 => ?_)
  have e := e a42 d_a42
  obtain ⟨h44, q44, e⟩ := e
  refine g_putF (ty1 := (.array .int)) 5 o cf6 (by decide) mw_159 rfl hin rfl (by decide +kernel) rfl rfl dX6_init_44 q44 ?_
  refine g_aload_n 0 o dX6_init_47 rfl rfl ?_
  refine g_bipush (v := 64) o dX6_init_48 (by decide) ?_
  refine g_newa (N := 64) (t := 1) (x := (64, .inl (fun _ => 0))) o mw_138 rfl rfl (fun _ _ z => z) (fun _ => rfl) (by decide) (by decide) (Nat.le_of_ble_eq_true rfl) ⟨by decide, Nat.le_of_ble_eq_true rfl⟩ dX6_init_50 (fun a50 d_a50 => ?_)
  have e := e a50 d_a50
  obtain ⟨h52, q52, e⟩ := e
  refine g_putF (ty1 := (.array .int)) 6 o cf6 (by decide) mw_163 rfl hin rfl (by decide +kernel) rfl rfl dX6_init_52 q52 ?_
  refine g_aload_n 0 o dX6_init_55 rfl rfl ?_
  refine g_bipush (v := 64) o dX6_init_56 (by decide) ?_
  refine g_newa (N := 64) (t := 1) (x := (64, .inl (fun _ => 0))) o mw_138 rfl rfl (fun _ _ z => z) (fun _ => rfl) (by decide) (by decide) (Nat.le_of_ble_eq_true rfl) ⟨by decide, Nat.le_of_ble_eq_true rfl⟩ dX6_init_58 (fun a58 d_a58 => ?_)
  have e := e a58 d_a58
  obtain ⟨h60, q60, e⟩ := e
  refine g_putF (ty1 := (.array .int)) 7 o cf6 (by decide) mw_166 rfl hin rfl (by decide +kernel) rfl rfl dX6_init_60 q60 ?_
  refine g_aload_n 0 o dX6_init_63 rfl rfl ?_
  refine g_bipush (v := 8) o dX6_init_64 (by decide) ?_
  refine g_newa (N := 8) (t := 1) (x := (8, .inl (fun _ => 0))) o mw_138 rfl rfl (fun _ _ z => z) (fun _ => rfl) (by decide) (by decide) (Nat.le_of_ble_eq_true rfl) ⟨by decide, Nat.le_of_ble_eq_true rfl⟩ dX6_init_66 (fun a66 d_a66 => ?_)
  have e := e a66 d_a66
  obtain ⟨h68, q68, e⟩ := e
  refine g_putF (ty1 := (.array .int)) 8 o cf6 (by decide) mw_168 rfl hin rfl (by decide +kernel) rfl rfl dX6_init_68 q68 ?_
  refine g_aload_n 0 o dX6_init_71 rfl rfl ?_
  refine g_bipush (v := 16) o dX6_init_72 (by decide) ?_
  refine g_newa (N := 16) (t := 1) (x := (16, .inl (fun _ => 0))) o mw_138 rfl rfl (fun _ _ z => z) (fun _ => rfl) (by decide) (by decide) (Nat.le_of_ble_eq_true rfl) ⟨by decide, Nat.le_of_ble_eq_true rfl⟩ dX6_init_74 (fun a74 d_a74 => ?_)
  have e := e a74 d_a74
  obtain ⟨h76, q76, e⟩ := e
  refine g_putF (ty1 := (.array .int)) 9 o cf6 (by decide) mw_171 rfl hin rfl (by decide +kernel) rfl rfl dX6_init_76 q76 ?_
  refine g_aload_n 0 o dX6_init_79 rfl rfl ?_
  refine g_bipush (v := 8) o dX6_init_80 (by decide) ?_
  refine g_newa (N := 8) (t := 1) (x := (8, .inl (fun _ => 0))) o mw_138 rfl rfl (fun _ _ z => z) (fun _ => rfl) (by decide) (by decide) (Nat.le_of_ble_eq_true rfl) ⟨by decide, Nat.le_of_ble_eq_true rfl⟩ dX6_init_82 (fun a82 d_a82 => ?_)
  have e := e a82 d_a82
  obtain ⟨h84, q84, e⟩ := e
  refine g_putF (ty1 := (.array .int)) 10 o cf6 (by decide) mw_173 rfl hin rfl (by decide +kernel) rfl rfl dX6_init_84 q84 ?_
  refine g_aload_n 0 o dX6_init_87 rfl rfl ?_
  refine g_bipush (v := 64) o dX6_init_88 (by decide) ?_
  refine g_newa (N := 64) (t := 1) (x := (64, .inl (fun _ => 0))) o mw_138 rfl rfl (fun _ _ z => z) (fun _ => rfl) (by decide) (by decide) (Nat.le_of_ble_eq_true rfl) ⟨by decide, Nat.le_of_ble_eq_true rfl⟩ dX6_init_90 (fun a90 d_a90 => ?_)
  have e := e a90 d_a90
  obtain ⟨h92, q92, e⟩ := e
  refine g_putF (ty1 := (.array .int)) 11 o cf6 (by decide) mw_176 rfl hin rfl (by decide +kernel) rfl rfl dX6_init_92 q92 ?_
  refine g_aload_n 0 o dX6_init_95 rfl rfl ?_
  refine g_bipush (v := 64) o dX6_init_96 (by decide) ?_
  refine g_newa (N := 64) (t := 1) (x := (64, .inl (fun _ => 0))) o mw_138 rfl rfl (fun _ _ z => z) (fun _ => rfl) (by decide) (by decide) (Nat.le_of_ble_eq_true rfl) ⟨by decide, Nat.le_of_ble_eq_true rfl⟩ dX6_init_98 (fun a98 d_a98 => ?_)
  have e := e a98 d_a98
  obtain ⟨h100, q100, e⟩ := e
  refine g_putF (ty1 := (.array .int)) 12 o cf6 (by decide) mw_180 rfl hin rfl (by decide +kernel) rfl rfl dX6_init_100 q100 ?_
  exact g_vretW o dX6_init_103 (by decide) (by decide) q ⟨rfl, e⟩
theorem yo_X8_init : yok yX8_init 0 := ⟨by decide, by decide, by decide +kernel⟩
set_option maxRecDepth 100000 in
set_option maxHeartbeats 4000000 in
theorem mwX8_init {l : Launch} {D : va_G} {cy : Nat → ClassId} {f0 : Nat} {a : Nat} {h : Hp} {K : Hp → Prop} (e : wX8_init f0 a h K) : MW l D cy yX8_init cX8_init 1 none rmX8_init [.ref a] h (pV K) := by
  refine mw_of (by decide) (Nat.le_of_ble_eq_true rfl) (fun X hl hD hy hin o q => ?_)
  subst hl; subst hD; subst hy
  show G X 1 0 [(0, .ref a)] [] h 0 0
  unfold wX8_init at e
  refine g_aload_n 0 o dX8_init_0 rfl rfl ?_
  refine g_objInit o mw_212 mw_33 mw_34 ⟨by decide, Nat.le_of_ble_eq_true rfl⟩ dX8_init_1 ?_
  refine g_aload_n 0 o dX8_init_4 rfl rfl ?_
  refine g_bipush (v := 40) o dX8_init_5 (by decide) ?_
  refine g_newa (N := 40) (t := 1) (x := (40, .inl (fun _ => 0))) o mw_138 rfl rfl (fun _ _ z => z) (fun _ => rfl) (by decide) (by decide) (Nat.le_of_ble_eq_true rfl) ⟨by decide, Nat.le_of_ble_eq_true rfl⟩ dX8_init_7 (fun a7 d_a7 => ?_)
  have e := e a7 d_a7
  obtain ⟨h9, q9, e⟩ := e
  refine g_putF (ty1 := (.array .int)) 0 o cf8 (by decide) mw_213 rfl hin rfl (by decide +kernel) rfl rfl dX8_init_9 q9 ?_
  refine g_aload_n 0 o dX8_init_12 rfl rfl ?_
  refine g_bipush (v := 40) o dX8_init_13 (by decide) ?_
  refine g_newa (N := 40) (t := 1) (x := (40, .inl (fun _ => 0))) o mw_138 rfl rfl (fun _ _ z => z) (fun _ => rfl) (by decide) (by decide) (Nat.le_of_ble_eq_true rfl) ⟨by decide, Nat.le_of_ble_eq_true rfl⟩ dX8_init_15 (fun a15 d_a15 => ?_)
  have e := e a15 d_a15
  obtain ⟨h17, q17, e⟩ := e
  refine g_putF (ty1 := (.array .int)) 1 o cf8 (by decide) mw_214 rfl hin rfl (by decide +kernel) rfl rfl dX8_init_17 q17 ?_
  refine g_aload_n 0 o dX8_init_20 rfl rfl ?_
  refine g_bipush (v := 40) o dX8_init_21 (by decide) ?_
  refine g_newa (N := 40) (t := 1) (x := (40, .inl (fun _ => 0))) o mw_138 rfl rfl (fun _ _ z => z) (fun _ => rfl) (by decide) (by decide) (Nat.le_of_ble_eq_true rfl) ⟨by decide, Nat.le_of_ble_eq_true rfl⟩ dX8_init_23 (fun a23 d_a23 => ?_)
  have e := e a23 d_a23
  obtain ⟨h25, q25, e⟩ := e
  refine g_putF (ty1 := (.array .int)) 2 o cf8 (by decide) mw_215 rfl hin rfl (by decide +kernel) rfl rfl dX8_init_25 q25 ?_
  refine g_aload_n 0 o dX8_init_28 rfl rfl ?_
  refine g_bipush (v := 40) o dX8_init_29 (by decide) ?_
  refine g_newa (N := 40) (t := 1) (x := (40, .inl (fun _ => 0))) o mw_138 rfl rfl (fun _ _ z => z) (fun _ => rfl) (by decide) (by decide) (Nat.le_of_ble_eq_true rfl) ⟨by decide, Nat.le_of_ble_eq_true rfl⟩ dX8_init_31 (fun a31 d_a31 => ?_)
  have e := e a31 d_a31
  obtain ⟨h33, q33, e⟩ := e
  refine g_putF (ty1 := (.array .int)) 4 o cf8 (by decide) mw_217 rfl hin rfl (by decide +kernel) rfl rfl dX8_init_33 q33 ?_
  exact g_vretW o dX8_init_36 (by decide) (by decide) q ⟨rfl, e⟩
theorem yo_X10_init : yok yX10_init 1 := ⟨by decide, by decide, by decide +kernel⟩
set_option maxRecDepth 100000 in
set_option maxHeartbeats 4000000 in
theorem mwX10_init {l : Launch} {D : va_G} {cy : Nat → ClassId} {f0 : Nat} {a : Nat} {p0 : Nat} {h : Hp} {K : Hp → Prop} (e : wX10_init f0 a p0 h K) : MW l D cy yX10_init cX10_init 2 none rmX10_init [.ref a, .ref p0] h (pV K) := by
  refine mw_of (by decide) (Nat.le_of_ble_eq_true rfl) (fun X hl hD hy hin o q => ?_)
  subst hl; subst hD; subst hy
  show G X 2 0 [(0, .ref a), (1, .ref p0)] [] h 0 0
  unfold wX10_init at e
  refine g_aload_n 0 o dX10_init_0 rfl rfl ?_
  refine g_objInit o mw_275 mw_33 mw_34 ⟨by decide, Nat.le_of_ble_eq_true rfl⟩ dX10_init_1 ?_
  refine g_aload_n 0 o dX10_init_4 rfl rfl ?_
  refine g_bipush (v := 8) o dX10_init_5 (by decide) ?_
  refine g_newa (N := 8) (t := 1) (x := (8, .inl (fun _ => 0))) o mw_138 rfl rfl (fun _ _ z => z) (fun _ => rfl) (by decide) (by decide) (Nat.le_of_ble_eq_true rfl) ⟨by decide, Nat.le_of_ble_eq_true rfl⟩ dX10_init_7 (fun a7 d_a7 => ?_)
  have e := e a7 d_a7
  obtain ⟨h9, q9, e⟩ := e
  refine g_putF (ty1 := (.array .int)) 9 o cf10 (by decide) mw_297 rfl hin rfl (by decide +kernel) rfl rfl dX10_init_9 q9 ?_
  refine g_aload_n 0 o dX10_init_12 rfl rfl ?_
  refine g_bipush (v := 8) o dX10_init_13 (by decide) ?_
  refine g_newa (N := 8) (t := 1) (x := (8, .inl (fun _ => 0))) o mw_138 rfl rfl (fun _ _ z => z) (fun _ => rfl) (by decide) (by decide) (Nat.le_of_ble_eq_true rfl) ⟨by decide, Nat.le_of_ble_eq_true rfl⟩ dX10_init_15 (fun a15 d_a15 => ?_)
  have e := e a15 d_a15
  obtain ⟨h17, q17, e⟩ := e
  refine g_putF (ty1 := (.array .int)) 10 o cf10 (by decide) mw_299 rfl hin rfl (by decide +kernel) rfl rfl dX10_init_17 q17 ?_
  refine g_aload_n 0 o dX10_init_20 rfl rfl ?_
  refine g_bipush (v := 8) o dX10_init_21 (by decide) ?_
  refine g_newa (N := 8) (t := 1) (x := (8, .inl (fun _ => 0))) o mw_138 rfl rfl (fun _ _ z => z) (fun _ => rfl) (by decide) (by decide) (Nat.le_of_ble_eq_true rfl) ⟨by decide, Nat.le_of_ble_eq_true rfl⟩ dX10_init_23 (fun a23 d_a23 => ?_)
  have e := e a23 d_a23
  obtain ⟨h25, q25, e⟩ := e
  refine g_putF (ty1 := (.array .int)) 11 o cf10 (by decide) mw_300 rfl hin rfl (by decide +kernel) rfl rfl dX10_init_25 q25 ?_
  refine g_aload_n 0 o dX10_init_28 rfl rfl ?_
  refine g_bipush (v := 64) o dX10_init_29 (by decide) ?_
  refine g_newa (N := 64) (t := 1) (x := (64, .inl (fun _ => 0))) o mw_138 rfl rfl (fun _ _ z => z) (fun _ => rfl) (by decide) (by decide) (Nat.le_of_ble_eq_true rfl) ⟨by decide, Nat.le_of_ble_eq_true rfl⟩ dX10_init_31 (fun a31 d_a31 => ?_)
  have e := e a31 d_a31
  obtain ⟨h33, q33, e⟩ := e
  refine g_putF (ty1 := (.array .int)) 12 o cf10 (by decide) mw_302 rfl hin rfl (by decide +kernel) rfl rfl dX10_init_33 q33 ?_
  refine g_aload_n 0 o dX10_init_36 rfl rfl ?_
  refine g_aload_n 1 o dX10_init_37 rfl rfl ?_
  obtain ⟨h38, q38, e⟩ := e
  refine g_putF (ty1 := (.object "FalseName$Sea")) 0 o cf10 (by decide) mw_276 rfl hin rfl (by decide +kernel) rfl rfl dX10_init_38 q38 ?_
  exact g_vretW o dX10_init_41 (by decide) (by decide) q ⟨rfl, e⟩
theorem yo_X0_init : yok yX0_init 1 := ⟨by decide, by decide, by decide +kernel⟩
set_option maxRecDepth 100000 in
set_option maxHeartbeats 4000000 in
theorem mwX0_init {l : Launch} {D : va_G} {cy : Nat → ClassId} {f0 : Nat} {a : Nat} {p0 : Nat} {h : Hp} {K : Hp → Prop} (e : wX0_init f0 a p0 h K) : MW l D cy yX0_init cX0_init 2 none rmX0_init [.ref a, .ref p0] h (pV K) := by
  refine mw_of (by decide) (Nat.le_of_ble_eq_true rfl) (fun X hl hD hy hin o q => ?_)
  subst hl; subst hD; subst hy
  show G X 2 0 [(0, .ref a), (1, .ref p0)] [] h 0 0
  unfold wX0_init at e
  refine g_aload_n 0 o dX0_init_0 rfl rfl ?_
  refine g_objInit o mw_325 mw_33 mw_34 ⟨by decide, Nat.le_of_ble_eq_true rfl⟩ dX0_init_1 ?_
  refine g_aload_n 0 o dX0_init_4 rfl rfl ?_
  refine g_bipush (v := 8) o dX0_init_5 (by decide) ?_
  refine g_newa (N := 8) (t := 1) (x := (8, .inl (fun _ => 0))) o mw_138 rfl rfl (fun _ _ z => z) (fun _ => rfl) (by decide) (by decide) (Nat.le_of_ble_eq_true rfl) ⟨by decide, Nat.le_of_ble_eq_true rfl⟩ dX0_init_7 (fun a7 d_a7 => ?_)
  have e := e a7 d_a7
  obtain ⟨h9, q9, e⟩ := e
  refine g_putF (ty1 := (.array .int)) 1 o cf0 (by decide) mw_327 rfl hin rfl (by decide +kernel) rfl rfl dX0_init_9 q9 ?_
  refine g_aload_n 0 o dX0_init_12 rfl rfl ?_
  refine g_aload_n 1 o dX0_init_13 rfl rfl ?_
  obtain ⟨h14, q14, e⟩ := e
  refine g_putF (ty1 := (.object "FalseName$Sea")) 0 o cf0 (by decide) mw_326 rfl hin rfl (by decide +kernel) rfl rfl dX0_init_14 q14 ?_
  exact g_vretW o dX0_init_17 (by decide) (by decide) q ⟨rfl, e⟩
theorem yo_X5_init : yok yX5_init 2 := ⟨by decide, by decide, by decide +kernel⟩
set_option maxRecDepth 100000 in
set_option maxHeartbeats 4000000 in
theorem mwX5_init {l : Launch} {D : va_G} {cy : Nat → ClassId} {f0 : Nat} {a : Nat} {p0 : Nat} {p1 : Nat} {h : Hp} {K : Hp → Prop} (e : wX5_init f0 a p0 p1 h K) : MW l D cy yX5_init cX5_init 3 none rmX5_init [.ref a, .ref p0, .ref p1] h (pV K) := by
  refine mw_of (by decide) (Nat.le_of_ble_eq_true rfl) (fun X hl hD hy hin o q => ?_)
  subst hl; subst hD; subst hy
  show G X 3 0 [(0, .ref a), (1, .ref p0), (2, .ref p1)] [] h 0 0
  unfold wX5_init at e
  refine g_aload_n 0 o dX5_init_0 rfl rfl ?_
  refine g_objInit o mw_336 mw_33 mw_34 ⟨by decide, Nat.le_of_ble_eq_true rfl⟩ dX5_init_1 ?_
  refine g_aload_n 0 o dX5_init_4 rfl rfl ?_
  refine g_bipush (v := 10) o dX5_init_5 (by decide) ?_
  refine g_newa (N := 10) (t := 1) (x := (10, .inl (fun _ => 0))) o mw_138 rfl rfl (fun _ _ z => z) (fun _ => rfl) (by decide) (by decide) (Nat.le_of_ble_eq_true rfl) ⟨by decide, Nat.le_of_ble_eq_true rfl⟩ dX5_init_7 (fun a7 d_a7 => ?_)
  have e := e a7 d_a7
  obtain ⟨h9, q9, e⟩ := e
  refine g_putF (ty1 := (.array .int)) 2 o cf5 (by decide) mw_339 rfl hin rfl (by decide +kernel) rfl rfl dX5_init_9 q9 ?_
  refine g_aload_n 0 o dX5_init_12 rfl rfl ?_
  refine g_aload_n 1 o dX5_init_13 rfl rfl ?_
  obtain ⟨h14, q14, e⟩ := e
  refine g_putF (ty1 := (.object "FalseName$Sea")) 0 o cf5 (by decide) mw_337 rfl hin rfl (by decide +kernel) rfl rfl dX5_init_14 q14 ?_
  refine g_aload_n 0 o dX5_init_17 rfl rfl ?_
  refine g_aload_n 2 o dX5_init_18 rfl rfl ?_
  obtain ⟨h19, q19, e⟩ := e
  refine g_putF (ty1 := (.array .byte)) 1 o cf5 (by decide) mw_338 rfl hin rfl (by decide +kernel) rfl rfl dX5_init_19 q19 ?_
  exact g_vretW o dX5_init_22 (by decide) (by decide) q ⟨rfl, e⟩
theorem yo_X2_init : yok yX2_init 2 := ⟨by decide, by decide, by decide +kernel⟩
set_option maxRecDepth 100000 in
set_option maxHeartbeats 4000000 in
theorem mwX2_init {l : Launch} {D : va_G} {cy : Nat → ClassId} {f0 : Nat} {a : Nat} {p0 : Nat} {p1 : Nat} {h : Hp} {K : Hp → Prop} (e : wX2_init f0 a p0 p1 h K) : MW l D cy yX2_init cX2_init 3 none rmX2_init [.ref a, .ref p0, .ref p1] h (pV K) := by
  refine mw_of (by decide) (Nat.le_of_ble_eq_true rfl) (fun X hl hD hy hin o q => ?_)
  subst hl; subst hD; subst hy
  show G X 3 0 [(0, .ref a), (1, .ref p0), (2, .ref p1)] [] h 0 0
  unfold wX2_init at e
  refine g_aload_n 0 o dX2_init_0 rfl rfl ?_
  refine g_objInit o mw_242 mw_33 mw_34 ⟨by decide, Nat.le_of_ble_eq_true rfl⟩ dX2_init_1 ?_
  refine g_aload_n 0 o dX2_init_4 rfl rfl ?_
  refine g_bipush (v := 40) o dX2_init_5 (by decide) ?_
  refine g_newa (N := 40) (t := 1) (x := (40, .inl (fun _ => 0))) o mw_138 rfl rfl (fun _ _ z => z) (fun _ => rfl) (by decide) (by decide) (Nat.le_of_ble_eq_true rfl) ⟨by decide, Nat.le_of_ble_eq_true rfl⟩ dX2_init_7 (fun a7 d_a7 => ?_)
  have e := e a7 d_a7
  obtain ⟨h9, q9, e⟩ := e
  refine g_putF (ty1 := (.array .int)) 2 o cf2 (by decide) mw_245 rfl hin rfl (by decide +kernel) rfl rfl dX2_init_9 q9 ?_
  refine g_aload_n 0 o dX2_init_12 rfl rfl ?_
  refine g_bipush (v := 40) o dX2_init_13 (by decide) ?_
  refine g_newa (N := 40) (t := 1) (x := (40, .inl (fun _ => 0))) o mw_138 rfl rfl (fun _ _ z => z) (fun _ => rfl) (by decide) (by decide) (Nat.le_of_ble_eq_true rfl) ⟨by decide, Nat.le_of_ble_eq_true rfl⟩ dX2_init_15 (fun a15 d_a15 => ?_)
  have e := e a15 d_a15
  obtain ⟨h17, q17, e⟩ := e
  refine g_putF (ty1 := (.array .int)) 3 o cf2 (by decide) mw_246 rfl hin rfl (by decide +kernel) rfl rfl dX2_init_17 q17 ?_
  refine g_aload_n 0 o dX2_init_20 rfl rfl ?_
  refine g_bipush (v := 40) o dX2_init_21 (by decide) ?_
  refine g_newa (N := 40) (t := 1) (x := (40, .inl (fun _ => 0))) o mw_138 rfl rfl (fun _ _ z => z) (fun _ => rfl) (by decide) (by decide) (Nat.le_of_ble_eq_true rfl) ⟨by decide, Nat.le_of_ble_eq_true rfl⟩ dX2_init_23 (fun a23 d_a23 => ?_)
  have e := e a23 d_a23
  obtain ⟨h25, q25, e⟩ := e
  refine g_putF (ty1 := (.array .int)) 4 o cf2 (by decide) mw_247 rfl hin rfl (by decide +kernel) rfl rfl dX2_init_25 q25 ?_
  refine g_aload_n 0 o dX2_init_28 rfl rfl ?_
  refine g_aload_n 1 o dX2_init_29 rfl rfl ?_
  obtain ⟨h30, q30, e⟩ := e
  refine g_putF (ty1 := (.object "FalseName$Reader")) 0 o cf2 (by decide) mw_243 rfl hin rfl (by decide +kernel) rfl rfl dX2_init_30 q30 ?_
  refine g_aload_n 0 o dX2_init_33 rfl rfl ?_
  refine g_aload_n 2 o dX2_init_34 rfl rfl ?_
  obtain ⟨h35, q35, e⟩ := e
  refine g_putF (ty1 := (.object "FalseName$NameTable")) 1 o cf2 (by decide) mw_244 rfl hin rfl (by decide +kernel) rfl rfl dX2_init_35 q35 ?_
  exact g_vretW o dX2_init_38 (by decide) (by decide) q ⟨rfl, e⟩
theorem yo_J0_coder_7d493_s0 : yok yJ0_coder_7d493 0 := ⟨by decide, by decide, by decide +kernel⟩
set_option maxRecDepth 100000 in
set_option maxHeartbeats 4000000 in
theorem mJ0_coder_7d493_s0 {l : Launch} {D : va_G} {cy : Nat → ClassId} {f0 : Nat} {h : Hp} {r : Int32} {hz : Hp} (e : fJ0_coder_7d493_s0 f0 h = some (r, hz)) : MC l D cy yJ0_coder_7d493 cJ0_coder_7d493 1 (some .byte) rmJ0_coder_7d493_s0 [.ref (sK D 0)] h (some (.int r)) hz := by
  refine mc_of2 (by decide) (Nat.le_of_ble_eq_true rfl) (fun X hl hD hy hin o q => ?_)
  subst hl; subst hD; subst hy
  show G X 1 0 [(0, .ref (sK (xD X) 0))] [] h 0 0
  unfold fJ0_coder_7d493_s0 at e
  refine g_gstC o mw_49 dJ0_coder_7d493_0 ?_
  refine g_if_eq (x := 1) 13 o dJ0_coder_7d493_3 (by decide) (fun u => absurd u (by decide)) (fun u => ?_)
  refine g_aload_n 0 o dJ0_coder_7d493_6 rfl rfl ?_
  refine g_getSC 0 (by decide) o mw_1682 dJ0_coder_7d493_7 ?_
  refine g_goto 14 o dJ0_coder_7d493_10 (by decide) ?_
  exact g_bret o dJ0_coder_7d493_14 (zr_s e).1 (rt_v q (zr_s e).2)
theorem yo_J0_length_8abf5_s0 : yok yJ0_length_8abf5 0 := ⟨by decide, by decide, by decide +kernel⟩
set_option maxRecDepth 100000 in
set_option maxHeartbeats 4000000 in
theorem mJ0_length_8abf5_s0 {l : Launch} {D : va_G} {cy : Nat → ClassId} {f0 : Nat} {h : Hp} {r : Int32} {hz : Hp} (e : fJ0_length_8abf5_s0 f0 h = some (r, hz)) : MC l D cy yJ0_length_8abf5 cJ0_length_8abf5 1 (some .int) rmJ0_length_8abf5_s0 [.ref (sK D 0)] h (some (.int r)) hz := by
  refine mc_of2 (by decide) (Nat.le_of_ble_eq_true rfl) (fun X hl hD hy hin o q => ?_)
  subst hl; subst hD; subst hy
  show G X 1 0 [(0, .ref (sK (xD X) 0))] [] h 0 0
  unfold fJ0_length_8abf5_s0 at e
  refine g_aload_n 0 o dJ0_length_8abf5_0 rfl rfl ?_
  refine g_getSV 0 (by decide) o mw_1681 dJ0_length_8abf5_1 ?_
  refine g_alenS (v := 145) 0 (by decide) (by decide) o dJ0_length_8abf5_4 ?_
  refine g_aload_n 0 o dJ0_length_8abf5_5 rfl rfl ?_
  obtain ⟨x6, h6, q6, e⟩ := ob2_s e
  refine g_callTv 0 (by decide) [] o (mJ0_coder_7d493_s0 q6) mw_45 mw_46 mw_47 mw_3 mw_48 rfl yo_J0_coder_7d493_s0 rfl rfl (Nat.le_of_ble_eq_true rfl) ⟨by decide, by decide⟩ ⟨rfl, rfl⟩ dJ0_length_8abf5_6 ⟨by decide, by decide⟩ ?_
  refine g_ishr (x := (145 : Int32)) (y := x6) o dJ0_length_8abf5_9 ?_
  exact g_iret o dJ0_length_8abf5_10 (rt_v q e)
theorem yo_J0_isLatin1_aae02_s0 : yok yJ0_isLatin1_aae02 0 := ⟨by decide, by decide, by decide +kernel⟩
set_option maxRecDepth 100000 in
set_option maxHeartbeats 4000000 in
theorem mJ0_isLatin1_aae02_s0 {l : Launch} {D : va_G} {cy : Nat → ClassId} {f0 : Nat} {h : Hp} {r : Int32} {hz : Hp} (e : fJ0_isLatin1_aae02_s0 f0 h = some (r, hz)) : MC l D cy yJ0_isLatin1_aae02 cJ0_isLatin1_aae02 1 (some .boolean) rmJ0_isLatin1_aae02_s0 [.ref (sK D 0)] h (some (.int r)) hz := by
  refine mc_of2 (by decide) (Nat.le_of_ble_eq_true rfl) (fun X hl hD hy hin o q => ?_)
  subst hl; subst hD; subst hy
  show G X 1 0 [(0, .ref (sK (xD X) 0))] [] h 0 0
  unfold fJ0_isLatin1_aae02_s0 at e
  refine g_gstC o mw_49 dJ0_isLatin1_aae02_0 ?_
  refine g_if_eq (x := 1) 17 o dJ0_isLatin1_aae02_3 (by decide) (fun u => absurd u (by decide)) (fun u => ?_)
  refine g_aload_n 0 o dJ0_isLatin1_aae02_6 rfl rfl ?_
  refine g_getSC 0 (by decide) o mw_1682 dJ0_isLatin1_aae02_7 ?_
  refine g_if_ne (x := 0) 17 o dJ0_isLatin1_aae02_10 (by decide) (fun u => absurd u (by decide)) (fun u => ?_)
  refine g_iconst (v := 1) o dJ0_isLatin1_aae02_13 (by decide) ?_
  refine g_goto 18 o dJ0_isLatin1_aae02_14 (by decide) ?_
  exact g_zret o dJ0_isLatin1_aae02_18 (zr_s e).1 (rt_v q (zr_s e).2)
theorem yo_J2_length_9d52b_b0 : yok yJ2_length_9d52b 1 := ⟨by decide, by decide, by decide +kernel⟩
set_option maxRecDepth 100000 in
set_option maxHeartbeats 4000000 in
theorem mJ2_length_9d52b_b0 {l : Launch} {D : va_G} {cy : Nat → ClassId} {f0 : Nat} {h : Hp} {r : Int32} {hz : Hp} (e : fJ2_length_9d52b_b0 f0 h = some (r, hz)) : MC l D cy yJ2_length_9d52b cJ2_length_9d52b 1 (some .int) rmJ2_length_9d52b_b0 [.ref (sV D 0)] h (some (.int r)) hz := by
  refine mc_of2 (by decide) (Nat.le_of_ble_eq_true rfl) (fun X hl hD hy hin o q => ?_)
  subst hl; subst hD; subst hy
  show G X 1 0 [(0, .ref (sV (xD X) 0))] [] h 0 0
  unfold fJ2_length_9d52b_b0 at e
  refine g_aload_n 0 o dJ2_length_9d52b_0 rfl rfl ?_
  refine g_alenS (v := 145) 0 (by decide) (by decide) o dJ2_length_9d52b_1 ?_
  refine g_iconst (v := 1) o dJ2_length_9d52b_2 (by decide) ?_
  refine g_ishr (x := (145 : Int32)) (y := 1) o dJ2_length_9d52b_3 ?_
  exact g_iret o dJ2_length_9d52b_4 (rt_v q e)
theorem yo_J2_checkIndex_2214a_b0 : yok yJ2_checkIndex_2214a 2 := ⟨by decide, by decide, by decide +kernel⟩
set_option maxRecDepth 100000 in
set_option maxHeartbeats 4000000 in
theorem mJ2_checkIndex_2214a_b0 {l : Launch} {D : va_G} {cy : Nat → ClassId} {f0 : Nat} {p0 : Int32} {h : Hp} {hz : Hp} (e : fJ2_checkIndex_2214a_b0 f0 p0 h = some hz) : MC l D cy yJ2_checkIndex_2214a cJ2_checkIndex_2214a 2 none rmJ2_checkIndex_2214a_b0 [.int p0, .ref (sV D 0)] h none hz := by
  refine mc_of2 (by decide) (Nat.le_of_ble_eq_true rfl) (fun X hl hD hy hin o q => ?_)
  subst hl; subst hD; subst hy
  show G X 2 0 [(0, .int p0), (1, .ref (sV (xD X) 0))] [] h 0 0
  unfold fJ2_checkIndex_2214a_b0 at e
  refine g_iload_n 0 o dJ2_checkIndex_2214a_0 rfl rfl ?_
  refine g_aload_n 1 o dJ2_checkIndex_2214a_1 rfl rfl ?_
  obtain ⟨x2, h2, q2, e⟩ := ob2_s e
  refine g_callSv [.ref (sV (xD X) 0)] o (mJ2_length_9d52b_b0 q2) mw_74 mw_75 mw_6 mw_76 yo_J2_length_9d52b_b0 rfl rfl (Nat.le_of_ble_eq_true rfl) ⟨by decide, by decide⟩ ⟨rfl, rfl⟩ dJ2_checkIndex_2214a_2 ⟨by decide, by decide⟩ ?_
  obtain ⟨h5, q5, e⟩ := ob e
  refine g_callS0 [.int p0, .int x2] o (mJ0_checkIndex_df160 q5) mw_77 mw_62 mw_3 mw_63 yo_J0_checkIndex_df160 rfl rfl (Nat.le_of_ble_eq_true rfl) ⟨by decide, by decide⟩ ⟨rfl, rfl⟩ dJ2_checkIndex_2214a_5 ⟨by decide, by decide⟩ ?_
  exact g_vret o dJ2_checkIndex_2214a_8 (rt_0 q e)
theorem yo_J2_getChar_3b067_b0 : yok yJ2_getChar_3b067 2 := ⟨by decide, by decide, by decide +kernel⟩
set_option maxRecDepth 100000 in
set_option maxHeartbeats 4000000 in
theorem mJ2_getChar_3b067_b0 {l : Launch} {D : va_G} {cy : Nat → ClassId} {f0 : Nat} {p1 : Int32} {h : Hp} {r : Int32} {hz : Hp} (e : fJ2_getChar_3b067_b0 f0 p1 h = some (r, hz)) : MC l D cy yJ2_getChar_3b067 cJ2_getChar_3b067 2 (some .char) rmJ2_getChar_3b067_b0 [.ref (sV D 0), .int p1] h (some (.int r)) hz := by
  refine mc_of2 (by decide) (Nat.le_of_ble_eq_true rfl) (fun X hl hD hy hin o q => ?_)
  subst hl; subst hD; subst hy
  show G X 2 0 [(0, .ref (sV (xD X) 0)), (1, .int p1)] [] h 0 0
  unfold fJ2_getChar_3b067_b0 at e
  cases e
theorem yo_J2_charAt_3b067_b0 : yok yJ2_charAt_3b067 2 := ⟨by decide, by decide, by decide +kernel⟩
set_option maxRecDepth 100000 in
set_option maxHeartbeats 4000000 in
theorem mJ2_charAt_3b067_b0 {l : Launch} {D : va_G} {cy : Nat → ClassId} {f0 : Nat} {p1 : Int32} {h : Hp} {r : Int32} {hz : Hp} (e : fJ2_charAt_3b067_b0 f0 p1 h = some (r, hz)) : MC l D cy yJ2_charAt_3b067 cJ2_charAt_3b067 2 (some .char) rmJ2_charAt_3b067_b0 [.ref (sV D 0), .int p1] h (some (.int r)) hz := by
  refine mc_of2 (by decide) (Nat.le_of_ble_eq_true rfl) (fun X hl hD hy hin o q => ?_)
  subst hl; subst hD; subst hy
  show G X 2 0 [(0, .ref (sV (xD X) 0)), (1, .int p1)] [] h 0 0
  unfold fJ2_charAt_3b067_b0 at e
  refine g_iload_n 1 o dJ2_charAt_3b067_0 rfl rfl ?_
  refine g_aload_n 0 o dJ2_charAt_3b067_1 rfl rfl ?_
  obtain ⟨h2, q2, e⟩ := ob e
  refine g_callS0 [.int p1, .ref (sV (xD X) 0)] o (mJ2_checkIndex_2214a_b0 q2) mw_71 mw_72 mw_6 mw_73 yo_J2_checkIndex_2214a_b0 rfl rfl (Nat.le_of_ble_eq_true rfl) ⟨by decide, by decide⟩ ⟨rfl, rfl⟩ dJ2_charAt_3b067_2 ⟨by decide, by decide⟩ ?_
  refine g_aload_n 0 o dJ2_charAt_3b067_5 rfl rfl ?_
  refine g_iload_n 1 o dJ2_charAt_3b067_6 rfl rfl ?_
  obtain ⟨x7, h7, q7, e⟩ := ob2_s e
  refine g_callSv [.ref (sV (xD X) 0), .int p1] o (mJ2_getChar_3b067_b0 q7) mw_78 mw_79 mw_6 mw_80 yo_J2_getChar_3b067_b0 rfl rfl (Nat.le_of_ble_eq_true rfl) ⟨by decide, by decide⟩ ⟨rfl, rfl⟩ dJ2_charAt_3b067_7 ⟨by decide, by decide⟩ ?_
  exact g_cret o dJ2_charAt_3b067_10 (cr_s e).1 (rt_v q (cr_s e).2)
theorem yo_J1_charAt_3b067_b0 : yok yJ1_charAt_3b067 2 := ⟨by decide, by decide, by decide +kernel⟩
set_option maxRecDepth 100000 in
set_option maxHeartbeats 4000000 in
theorem mJ1_charAt_3b067_b0 {l : Launch} {D : va_G} {cy : Nat → ClassId} {f0 : Nat} {p1 : Int32} {h : Hp} {r : Int32} {hz : Hp} (e : fJ1_charAt_3b067_b0 f0 p1 h = some (r, hz)) : MC l D cy yJ1_charAt_3b067 cJ1_charAt_3b067 2 (some .char) rmJ1_charAt_3b067_b0 [.ref (sV D 0), .int p1] h (some (.int r)) hz := by
  refine mc_of2 (by decide) (Nat.le_of_ble_eq_true rfl) (fun X hl hD hy hin o q => ?_)
  subst hl; subst hD; subst hy
  show G X 2 0 [(0, .ref (sV (xD X) 0)), (1, .int p1)] [] h 0 0
  unfold fJ1_charAt_3b067_b0 at e
  refine g_iload_n 1 o dJ1_charAt_3b067_0 rfl rfl ?_
  refine g_aload_n 0 o dJ1_charAt_3b067_1 rfl rfl ?_
  refine g_alenS (v := 145) 0 (by decide) (by decide) o dJ1_charAt_3b067_2 ?_
  obtain ⟨h3, q3, e⟩ := ob e
  refine g_callS0 [.int p1, .int 145] o (mJ0_checkIndex_df160 q3) mw_61 mw_62 mw_3 mw_63 yo_J0_checkIndex_df160 rfl rfl (Nat.le_of_ble_eq_true rfl) ⟨by decide, by decide⟩ ⟨rfl, rfl⟩ dJ1_charAt_3b067_3 ⟨by decide, by decide⟩ ?_
  refine g_aload_n 0 o dJ1_charAt_3b067_6 rfl rfl ?_
  refine g_iload_n 1 o dJ1_charAt_3b067_7 rfl rfl ?_
  obtain ⟨x8, q8, e⟩ := ob e
  refine g_baldS 0 (by decide) o dJ1_charAt_3b067_8 q8 ?_
  refine g_sipush (v := 255) o dJ1_charAt_3b067_9 (by decide) ?_
  refine g_iand (x := x8) (y := 255) o dJ1_charAt_3b067_12 ?_
  refine g_i2c (x := (x8 &&& 255)) o dJ1_charAt_3b067_13 ?_
  exact g_cret o dJ1_charAt_3b067_14 (cr_s e).1 (rt_v q (cr_s e).2)
theorem yo_J0_charAt_5068e_s0 : yok yJ0_charAt_5068e 1 := ⟨by decide, by decide, by decide +kernel⟩
set_option maxRecDepth 100000 in
set_option maxHeartbeats 4000000 in
theorem mJ0_charAt_5068e_s0 {l : Launch} {D : va_G} {cy : Nat → ClassId} {f0 : Nat} {p0 : Int32} {h : Hp} {r : Int32} {hz : Hp} (e : fJ0_charAt_5068e_s0 f0 p0 h = some (r, hz)) : MC l D cy yJ0_charAt_5068e cJ0_charAt_5068e 2 (some .char) rmJ0_charAt_5068e_s0 [.ref (sK D 0), .int p0] h (some (.int r)) hz := by
  refine mc_of2 (by decide) (Nat.le_of_ble_eq_true rfl) (fun X hl hD hy hin o q => ?_)
  subst hl; subst hD; subst hy
  show G X 2 0 [(0, .ref (sK (xD X) 0)), (1, .int p0)] [] h 0 0
  unfold fJ0_charAt_5068e_s0 at e
  refine g_aload_n 0 o dJ0_charAt_5068e_0 rfl rfl ?_
  obtain ⟨x1, h1, q1, e⟩ := ob2_s e
  refine g_callTv 0 (by decide) [] o (mJ0_isLatin1_aae02_s0 q1) mw_54 mw_55 mw_56 mw_3 mw_57 rfl yo_J0_isLatin1_aae02_s0 rfl rfl (Nat.le_of_ble_eq_true rfl) ⟨by decide, by decide⟩ ⟨rfl, rfl⟩ dJ0_charAt_5068e_1 ⟨by decide, by decide⟩ ?_
  refine g_if_eq (x := x1) 16 o dJ0_charAt_5068e_4 (by decide) (fun u => ?_) (fun u => ?_)
  · rw [if_pos u] at e
    refine g_aload_n 0 o dJ0_charAt_5068e_16 rfl rfl ?_
    refine g_getSV 0 (by decide) o mw_1681 dJ0_charAt_5068e_17 ?_
    refine g_iload_n 1 o dJ0_charAt_5068e_20 rfl rfl ?_
    obtain ⟨x21, h21, q21, e⟩ := ob2_s e
    refine g_callSv [.ref (sV (xD X) 0), .int p0] o (mJ2_charAt_3b067_b0 q21) mw_68 mw_69 mw_6 mw_70 yo_J2_charAt_3b067_b0 rfl rfl (Nat.le_of_ble_eq_true rfl) ⟨by decide, by decide⟩ ⟨rfl, rfl⟩ dJ0_charAt_5068e_21 ⟨by decide, by decide⟩ ?_
    exact g_cret o dJ0_charAt_5068e_24 (cr_s e).1 (rt_v q (cr_s e).2)
  · rw [if_neg u] at e
    refine g_aload_n 0 o dJ0_charAt_5068e_7 rfl rfl ?_
    refine g_getSV 0 (by decide) o mw_1681 dJ0_charAt_5068e_8 ?_
    refine g_iload_n 1 o dJ0_charAt_5068e_11 rfl rfl ?_
    obtain ⟨x12, h12, q12, e⟩ := ob2_s e
    refine g_callSv [.ref (sV (xD X) 0), .int p0] o (mJ1_charAt_3b067_b0 q12) mw_58 mw_59 mw_4 mw_60 yo_J1_charAt_3b067_b0 rfl rfl (Nat.le_of_ble_eq_true rfl) ⟨by decide, by decide⟩ ⟨rfl, rfl⟩ dJ0_charAt_5068e_12 ⟨by decide, by decide⟩ ?_
    exact g_cret o dJ0_charAt_5068e_15 (cr_s e).1 (rt_v q (cr_s e).2)
set_option maxRecDepth 100000 in
set_option maxHeartbeats 4000000 in
theorem kX4_init_88 {X : Cx} (f0 : Nat) (K : Hp → Prop) (g25 : Nat → Int32 → Int32 → Int32 → Hp → Prop) (i25 : ∀ (v02 : Nat) (v22 : Int32) (v32 : Int32) (v42 : Int32) (h2 : Hp), g25 v02 v22 v32 v42 h2 → G X 6 25 [(0, .ref v02), (2, .int v22), (3, .int v32), (4, .int v42)] [] h2 1 27) (o : Ok X cX4_init RX4 6 rmX4_init none) (q : RtW X (pV K) 1 27) (v0 : Nat) (v2 : Int32) (v3 : Int32) (v4 : Int32) (h : Hp) (e : bX4_init_88 f0 K g25 v0 v2 v3 v4 h) : G X 6 88 [(0, .ref v0), (2, .int v2), (3, .int v3), (4, .int v4)] [] h 1 27 := by
  unfold bX4_init_88 at e
  refine g_iinc (k := 3) (v := (v4 + 1)) [(4, .int (v4 + 1)), (0, .ref v0), (2, .int v2), (3, .int v3)] o dX4_init_88 rfl rfl (by decide) rfl ?_
  refine g_goto 25 o dX4_init_91 (by decide) ?_
  refine g_sb [1, 2, 3, 0] rfl ?_
  exact i25 v0 v2 v3 (v4 + 1) h e
set_option maxRecDepth 100000 in
set_option maxHeartbeats 4000000 in
theorem kX4_init_25 {X : Cx} (f0 : Nat) (K : Hp → Prop) (o : Ok X cX4_init RX4 6 rmX4_init none) (q : RtW X (pV K) 1 27) (f : Nat) (v0 : Nat) (v2 : Int32) (v3 : Int32) (v4 : Int32) (h : Hp) (e : bX4_init_25 f0 K f v0 v2 v3 v4 h) : G X 6 25 [(0, .ref v0), (2, .int v2), (3, .int v3), (4, .int v4)] [] h 1 27 := by
  induction f generalizing v0 v2 v3 v4 h with
  | zero => cases e
  | succ f1 ih =>
    unfold bX4_init_25 at e
    refine g_iload 3 o dX4_init_25 rfl ?_
    refine g_ldcS0 o dX4_init_27 ?_
    obtain ⟨x29, h29, q29, e⟩ := e
    refine g_callTv 0 (by decide) [] o (mJ0_length_8abf5_s0 q29) mw_41 mw_42 mw_43 mw_3 mw_44 rfl yo_J0_length_8abf5_s0 rfl rfl (Nat.le_of_ble_eq_true rfl) ⟨by decide, by decide⟩ ⟨rfl, rfl⟩ dX4_init_29 ⟨by decide, by decide⟩ ?_
    refine g_icmp_ge (x := v4) (y := x29) 94 o dX4_init_32 (by decide) (fun u => ?_) (fun u => ?_)
    · rw [if_pos u] at e
      exact g_vretW o dX4_init_94 (by decide) (by decide) q ⟨rfl, e⟩
    · rw [if_neg u] at e
      refine g_iload_n 1 o dX4_init_35 rfl rfl ?_
      refine g_bipush (v := 27) o dX4_init_36 (by decide) ?_
      refine g_icmp_ge (x := v2) (y := 27) 94 o dX4_init_38 (by decide) (fun u => ?_) (fun u => ?_)
      · rw [if_pos u] at e
        exact g_vretW o dX4_init_94 (by decide) (by decide) q ⟨rfl, e⟩
      · rw [if_neg u] at e
        refine g_ldcS0 o dX4_init_41 ?_
        refine g_iload 3 o dX4_init_43 rfl ?_
        obtain ⟨x45, h45, q45, e⟩ := e
        refine g_callTv 0 (by decide) [.int v4] o (mJ0_charAt_5068e_s0 q45) mw_50 mw_51 mw_52 mw_3 mw_53 rfl yo_J0_charAt_5068e_s0 rfl rfl (Nat.le_of_ble_eq_true rfl) ⟨by decide, by decide⟩ ⟨rfl, rfl⟩ dX4_init_45 ⟨by decide, by decide⟩ ?_
        refine g_istore [(5, .int x45), (0, .ref v0), (2, .int v2), (3, .int v3), (4, .int v4)] o dX4_init_48 (by decide) rfl ?_
        refine g_iload 0 o dX4_init_50 rfl ?_
        refine g_bipush (v := 32) o dX4_init_52 (by decide) ?_
        refine g_icmp_ne (x := x45) (y := 32) 66 o dX4_init_54 (by decide) (fun u => ?_) (fun u => ?_)
        · rw [if_neg u] at e
          refine g_aload_n 1 o dX4_init_66 rfl rfl ?_
          obtain ⟨x67, q67, e⟩ := e
          refine g_getN 1 o cf4 (by decide) mw_85 dX4_init_67 q67 ?_
          refine g_iload_n 2 o dX4_init_70 rfl rfl ?_
          refine g_dup2 o dX4_init_71 rfl rfl ?_
          obtain ⟨x72, q72, e⟩ := e
          refine g_lald o dX4_init_72 q72 ?_
          refine g_iload 0 o dX4_init_73 rfl ?_
          refine g_bipush (v := 97) o dX4_init_75 (by decide) ?_
          refine g_isub (x := x45) (y := 97) o dX4_init_77 ?_
          refine g_iconst (v := 1) o dX4_init_78 (by decide) ?_
          refine g_iadd (x := (x45 - 97)) (y := 1) o dX4_init_79 ?_
          refine g_i2l (x := ((x45 - 97) + 1)) o dX4_init_80 ?_
          refine g_iload_n 3 o dX4_init_81 rfl rfl ?_
          refine g_lshl (x := (Int32.toInt64 ((x45 - 97) + 1))) (y := v3) o dX4_init_82 ?_
          refine g_lor (x := x72) (y := ((Int32.toInt64 ((x45 - 97) + 1)) <<< (Int32.toInt64 v3 &&& 63))) o dX4_init_83 ?_
          obtain ⟨h84, q84, e⟩ := e
          refine g_last o dX4_init_84 q84 ?_
          refine g_iinc (k := 3) (v := (v3 + (-5))) [(3, .int (v3 + (-5))), (5, .int x45), (0, .ref v0), (2, .int v2), (4, .int v4)] o dX4_init_85 rfl rfl (by decide) rfl ?_
          refine g_sb [2, 3, 0, 4] rfl ?_
          exact kX4_init_88 f0 K (bX4_init_25 f0 K f1) ih o q v0 v2 (v3 + (-5)) v4 h84 e
        · rw [if_pos u] at e
          refine g_iinc (k := 2) (v := (v2 + 1)) [(2, .int (v2 + 1)), (5, .int x45), (0, .ref v0), (3, .int v3), (4, .int v4)] o dX4_init_57 rfl rfl (by decide) rfl ?_
          refine g_bipush (v := 30) o dX4_init_60 (by decide) ?_
          refine g_istore_n [(3, .int 30), (2, .int (v2 + 1)), (5, .int x45), (0, .ref v0), (4, .int v4)] o dX4_init_62 rfl (by decide) rfl ?_
          refine g_goto 88 o dX4_init_63 (by decide) ?_
          refine g_sb [3, 1, 0, 4] rfl ?_
          exact kX4_init_88 f0 K (bX4_init_25 f0 K f1) ih o q v0 (v2 + 1) 30 v4 h45 e
theorem yo_X4_init : yok yX4_init 1 := ⟨by decide, by decide, by decide +kernel⟩
set_option maxRecDepth 100000 in
set_option maxHeartbeats 4000000 in
theorem mwX4_init {l : Launch} {D : va_G} {cy : Nat → ClassId} {f0 : Nat} {a : Nat} {p0 : Nat} {h : Hp} {K : Hp → Prop} (e : wX4_init f0 a p0 h K) : MW l D cy yX4_init cX4_init 6 none rmX4_init [.ref a, .ref p0] h (pV K) := by
  refine mw_of (by decide) (Nat.le_of_ble_eq_true rfl) (fun X hl hD hy hin o q => ?_)
  subst hl; subst hD; subst hy
  show G X 6 0 [(0, .ref a), (1, .ref p0)] [] h 0 0
  unfold wX4_init at e
  refine g_aload_n 0 o dX4_init_0 rfl rfl ?_
  refine g_objInit o mw_40 mw_33 mw_34 ⟨by decide, Nat.le_of_ble_eq_true rfl⟩ dX4_init_1 ?_
  refine g_aload_n 0 o dX4_init_4 rfl rfl ?_
  refine g_bipush (v := 27) o dX4_init_5 (by decide) ?_
  refine g_newa (N := 27) (t := 2) (x := (27, .inr (.inl (fun _ => 0)))) o mw_118 rfl rfl (fun _ _ z => z) (fun _ => rfl) (by decide) (by decide) (Nat.le_of_ble_eq_true rfl) ⟨by decide, Nat.le_of_ble_eq_true rfl⟩ dX4_init_7 (fun a7 d_a7 => ?_)
  have e := e a7 d_a7
  obtain ⟨h9, q9, e⟩ := e
  refine g_putF (ty1 := (.array .long)) 1 o cf4 (by decide) mw_85 rfl hin rfl (by decide +kernel) rfl rfl dX4_init_9 q9 ?_
  refine g_aload_n 0 o dX4_init_12 rfl rfl ?_
  refine g_aload_n 1 o dX4_init_13 rfl rfl ?_
  obtain ⟨h14, q14, e⟩ := e
  refine g_putF (ty1 := (.array .byte)) 0 o cf4 (by decide) mw_84 rfl hin rfl (by decide +kernel) rfl rfl dX4_init_14 q14 ?_
  refine g_iconst (v := 0) o dX4_init_17 (by decide) ?_
  refine g_istore_n [(2, .int 0), (0, .ref a), (1, .ref p0)] o dX4_init_18 rfl (by decide) rfl ?_
  refine g_bipush (v := 30) o dX4_init_19 (by decide) ?_
  refine g_istore_n [(3, .int 30), (2, .int 0), (0, .ref a), (1, .ref p0)] o dX4_init_21 rfl (by decide) rfl ?_
  refine g_iconst (v := 0) o dX4_init_22 (by decide) ?_
  refine g_istore [(4, .int 0), (3, .int 30), (2, .int 0), (0, .ref a), (1, .ref p0)] o dX4_init_23 (by decide) rfl ?_
  refine g_sb [3, 2, 1, 0] rfl ?_
  exact kX4_init_25 f0 K o q f0 a 0 30 0 h14 e
theorem yo_X1_init : yok yX1_init 0 := ⟨by decide, by decide, by decide +kernel⟩
set_option maxRecDepth 100000 in
set_option maxHeartbeats 4000000 in
theorem mwX1_init {l : Launch} {D : va_G} {cy : Nat → ClassId} {f0 : Nat} {a : Nat} {h : Hp} {K : Hp → Prop} (e : wX1_init f0 a h K) : MW l D cy yX1_init cX1_init 1 none rmX1_init [.ref a] h (pV K) := by
  refine mw_of (by decide) (Nat.le_of_ble_eq_true rfl) (fun X hl hD hy hin o q => ?_)
  subst hl; subst hD; subst hy
  show G X 1 0 [(0, .ref a)] [] h 0 0
  unfold wX1_init at e
  refine g_aload_n 0 o dX1_init_0 rfl rfl ?_
  refine g_objInit o mw_1028 mw_33 mw_34 ⟨by decide, Nat.le_of_ble_eq_true rfl⟩ dX1_init_1 ?_
  refine g_aload_n 0 o dX1_init_4 rfl rfl ?_
  refine g_new dv6 o cf6 mw_1029 mw_120 mw_7 dv6_ok ⟨by decide, by decide⟩ dX1_init_5 (fun a5 d_a5 => ?_)
  have e := e a5 d_a5
  refine g_dup o dX1_init_8 rfl ?_
  refine g_callIN [] o (mwX6_init e) (List.mem_of_getElem? (i := 4) rfl) mw_121 mw_7 mw_122 rfl yo_X6_init rfl rfl (Nat.le_of_ble_eq_true rfl) ⟨by decide, by decide⟩ ⟨Nat.le_of_ble_eq_true rfl, Nat.le_of_ble_eq_true rfl⟩ dX1_init_9 (fun h9 e => ?_)
  obtain ⟨h12, q12, e⟩ := e
  refine g_putF (ty1 := (.object "FalseName$Sea")) 0 o cf1 (by decide) mw_1033 rfl hin rfl (by decide +kernel) rfl rfl dX1_init_12 q12 ?_
  refine g_aload_n 0 o dX1_init_15 rfl rfl ?_
  refine g_new dv10 o cf10 mw_1030 mw_271 mw_13 dv10_ok ⟨by decide, by decide⟩ dX1_init_16 (fun a16 d_a16 => ?_)
  have e := e a16 d_a16
  refine g_dup o dX1_init_19 rfl ?_
  refine g_aload_n 0 o dX1_init_20 rfl rfl ?_
  obtain ⟨x21, q21, e⟩ := e
  refine g_getN 0 o cf1 (by decide) mw_1033 dX1_init_21 q21 ?_
  refine g_callIW [.ref x21] o (mwX10_init e) mw_1031 mw_273 mw_13 mw_274 rfl yo_X10_init rfl rfl (Nat.le_of_ble_eq_true rfl) ⟨by decide, by decide⟩ ⟨Nat.le_of_ble_eq_true rfl, Nat.le_of_ble_eq_true rfl⟩ dX1_init_24 (fun h24 e => ?_)
  obtain ⟨h27, q27, e⟩ := e
  refine g_putF (ty1 := (.object "FalseName$Ship")) 1 o cf1 (by decide) mw_1035 rfl hin rfl (by decide +kernel) rfl rfl dX1_init_27 q27 ?_
  refine g_aload_n 0 o dX1_init_30 rfl rfl ?_
  refine g_new dv8 o cf8 mw_1032 mw_209 mw_10 dv8_ok ⟨by decide, by decide⟩ dX1_init_31 (fun a31 d_a31 => ?_)
  have e := e a31 d_a31
  refine g_dup o dX1_init_34 rfl ?_
  refine g_callIN [] o (mwX8_init e) (List.mem_of_getElem? (i := 5) rfl) mw_210 mw_10 mw_211 rfl yo_X8_init rfl rfl (Nat.le_of_ble_eq_true rfl) ⟨by decide, by decide⟩ ⟨Nat.le_of_ble_eq_true rfl, Nat.le_of_ble_eq_true rfl⟩ dX1_init_35 (fun h35 e => ?_)
  obtain ⟨h38, q38, e⟩ := e
  refine g_putF (ty1 := (.object "FalseName$Sentence")) 2 o cf1 (by decide) mw_1037 rfl hin rfl (by decide +kernel) rfl rfl dX1_init_38 q38 ?_
  exact g_vretW o dX1_init_41 (by decide) (by decide) q ⟨rfl, e⟩
theorem yo_X11_init : yok yX11_init 0 := ⟨by decide, by decide, by decide +kernel⟩
set_option maxRecDepth 100000 in
set_option maxHeartbeats 4000000 in
theorem mwX11_init {l : Launch} {D : va_G} {cy : Nat → ClassId} {f0 : Nat} {a : Nat} {h : Hp} {K : Hp → Prop} (e : wX11_init f0 a h K) : MW l D cy yX11_init cX11_init 2 none rmX11_init [.ref a] h (pV K) := by
  refine mw_of (by decide) (Nat.le_of_ble_eq_true rfl) (fun X hl hD hy hin o q => ?_)
  subst hl; subst hD; subst hy
  show G X 2 0 [(0, .ref a)] [] h 0 0
  unfold wX11_init at e
  refine g_aload_n 0 o dX11_init_0 rfl rfl ?_
  refine g_objInit o mw_32 mw_33 mw_34 ⟨by decide, Nat.le_of_ble_eq_true rfl⟩ dX11_init_1 ?_
  refine g_aload_n 0 o dX11_init_4 rfl rfl ?_
  refine g_sipush (v := 940) o dX11_init_5 (by decide) ?_
  refine g_newa (N := 940) (t := 0) (x := (940, .inl (fun _ => 0))) o mw_117 rfl rfl (fun _ _ z => z) (fun _ => rfl) (by decide) (by decide) (Nat.le_of_ble_eq_true rfl) ⟨by decide, Nat.le_of_ble_eq_true rfl⟩ dX11_init_8 (fun a8_0 d_a8_0 => ?_)
  have e := e a8_0 d_a8_0
  obtain ⟨h10_0, q10, e⟩ := e
  refine g_putF (ty1 := (.array .byte)) 0 o cf11 (by decide) mw_364 rfl hin rfl (by decide +kernel) rfl rfl dX11_init_10 q10 ?_
  refine g_aload_n 0 o dX11_init_13 rfl rfl ?_
  refine g_new dv4 o cf4 mw_35 mw_36 mw_2 dv4_ok ⟨by decide, by decide⟩ dX11_init_14 (fun a14_0 d_a14_0 => ?_)
  have e := e a14_0 d_a14_0
  refine g_dup o dX11_init_17 rfl ?_
  refine g_aload_n 0 o dX11_init_18 rfl rfl ?_
  obtain ⟨x19_0, q19, e⟩ := e
  refine g_getN 0 o cf11 (by decide) mw_364 dX11_init_19 q19 ?_
  refine g_callIW [.ref x19_0] o (mwX4_init e) mw_37 mw_38 mw_2 mw_39 rfl yo_X4_init rfl rfl (Nat.le_of_ble_eq_true rfl) ⟨by decide, by decide⟩ ⟨Nat.le_of_ble_eq_true rfl, Nat.le_of_ble_eq_true rfl⟩ dX11_init_22 (fun h22_0 e => ?_)
  obtain ⟨h25_0, q25, e⟩ := e
  refine g_putF (ty1 := (.object "FalseName$Reader")) 2 o cf11 (by decide) mw_366 rfl hin rfl (by decide +kernel) rfl rfl dX11_init_25 q25 ?_
  refine g_aload_n 0 o dX11_init_28 rfl rfl ?_
  refine g_new dv6 o cf6 mw_119 mw_120 mw_7 dv6_ok ⟨by decide, by decide⟩ dX11_init_29 (fun a29_0 d_a29_0 => ?_)
  have e := e a29_0 d_a29_0
  refine g_dup o dX11_init_32 rfl ?_
  refine g_callIN [] o (mwX6_init e) (List.mem_of_getElem? (i := 0) rfl) mw_121 mw_7 mw_122 rfl yo_X6_init rfl rfl (Nat.le_of_ble_eq_true rfl) ⟨by decide, by decide⟩ ⟨Nat.le_of_ble_eq_true rfl, Nat.le_of_ble_eq_true rfl⟩ dX11_init_33 (fun h33_0 e => ?_)
  obtain ⟨h36_0, q36, e⟩ := e
  refine g_putF (ty1 := (.object "FalseName$Sea")) 4 o cf11 (by decide) mw_368 rfl hin rfl (by decide +kernel) rfl rfl dX11_init_36 q36 ?_
  refine g_aload_n 0 o dX11_init_39 rfl rfl ?_
  refine g_new dv6 o cf6 mw_119 mw_120 mw_7 dv6_ok ⟨by decide, by decide⟩ dX11_init_40 (fun a40_0 d_a40_0 => ?_)
  have e := e a40_0 d_a40_0
  refine g_dup o dX11_init_43 rfl ?_
  refine g_callIN [] o (mwX6_init e) (List.mem_of_getElem? (i := 0) rfl) mw_121 mw_7 mw_122 rfl yo_X6_init rfl rfl (Nat.le_of_ble_eq_true rfl) ⟨by decide, by decide⟩ ⟨Nat.le_of_ble_eq_true rfl, Nat.le_of_ble_eq_true rfl⟩ dX11_init_44 (fun h44_0 e => ?_)
  obtain ⟨h47_0, q47, e⟩ := e
  refine g_putF (ty1 := (.object "FalseName$Sea")) 5 o cf11 (by decide) mw_369 rfl hin rfl (by decide +kernel) rfl rfl dX11_init_47 q47 ?_
  refine g_aload_n 0 o dX11_init_50 rfl rfl ?_
  refine g_new dv7 o cf7 mw_196 mw_197 mw_9 dv7_ok ⟨by decide, by decide⟩ dX11_init_51 (fun a51_0 d_a51_0 => ?_)
  have e := e a51_0 d_a51_0
  refine g_dup o dX11_init_54 rfl ?_
  refine g_aload_n 0 o dX11_init_55 rfl rfl ?_
  obtain ⟨x56_0, q56, e⟩ := e
  refine g_getN 2 o cf11 (by decide) mw_366 dX11_init_56 q56 ?_
  refine g_aload_n 0 o dX11_init_59 rfl rfl ?_
  obtain ⟨x60_0, q60, e⟩ := e
  refine g_getN 5 o cf11 (by decide) mw_369 dX11_init_60 q60 ?_
  obtain ⟨h63_0, q63, e⟩ := e
  refine g_callI [.ref x56_0, .ref x60_0] o (mX7_init q63) mw_198 mw_199 mw_9 mw_200 rfl yo_X7_init rfl rfl (Nat.le_of_ble_eq_true rfl) ⟨by decide, by decide⟩ ⟨Nat.le_of_ble_eq_true rfl, Nat.le_of_ble_eq_true rfl⟩ dX11_init_63 ?_
  obtain ⟨h66_0, q66, e⟩ := e
  refine g_putF (ty1 := (.object "FalseName$SeaReader")) 6 o cf11 (by decide) mw_370 rfl hin rfl (by decide +kernel) rfl rfl dX11_init_66 q66 ?_
  refine g_aload_n 0 o dX11_init_69 rfl rfl ?_
  refine g_new dv8 o cf8 mw_208 mw_209 mw_10 dv8_ok ⟨by decide, by decide⟩ dX11_init_70 (fun a70_0 d_a70_0 => ?_)
  have e := e a70_0 d_a70_0
  refine g_dup o dX11_init_73 rfl ?_
  refine g_callIN [] o (mwX8_init e) (List.mem_of_getElem? (i := 2) rfl) mw_210 mw_10 mw_211 rfl yo_X8_init rfl rfl (Nat.le_of_ble_eq_true rfl) ⟨by decide, by decide⟩ ⟨Nat.le_of_ble_eq_true rfl, Nat.le_of_ble_eq_true rfl⟩ dX11_init_74 (fun h74_0 e => ?_)
  obtain ⟨h77_0, q77, e⟩ := e
  refine g_putF (ty1 := (.object "FalseName$Sentence")) 7 o cf11 (by decide) mw_371 rfl hin rfl (by decide +kernel) rfl rfl dX11_init_77 q77 ?_
  refine g_aload_n 0 o dX11_init_80 rfl rfl ?_
  refine g_new dv8 o cf8 mw_208 mw_209 mw_10 dv8_ok ⟨by decide, by decide⟩ dX11_init_81 (fun a81_0 d_a81_0 => ?_)
  have e := e a81_0 d_a81_0
  refine g_dup o dX11_init_84 rfl ?_
  refine g_callIN [] o (mwX8_init e) (List.mem_of_getElem? (i := 2) rfl) mw_210 mw_10 mw_211 rfl yo_X8_init rfl rfl (Nat.le_of_ble_eq_true rfl) ⟨by decide, by decide⟩ ⟨Nat.le_of_ble_eq_true rfl, Nat.le_of_ble_eq_true rfl⟩ dX11_init_85 (fun h85_0 e => ?_)
  obtain ⟨h88_0, q88, e⟩ := e
  refine g_putF (ty1 := (.object "FalseName$Sentence")) 8 o cf11 (by decide) mw_372 rfl hin rfl (by decide +kernel) rfl rfl dX11_init_88 q88 ?_
  refine g_aload_n 0 o dX11_init_91 rfl rfl ?_
  refine g_new dv9 o cf9 mw_223 mw_224 mw_11 dv9_ok ⟨by decide, by decide⟩ dX11_init_92 (fun a92_0 d_a92_0 => ?_)
  have e := e a92_0 d_a92_0
  refine g_dup o dX11_init_95 rfl ?_
  refine g_aload_n 0 o dX11_init_96 rfl rfl ?_
  obtain ⟨x97_0, q97, e⟩ := e
  refine g_getN 2 o cf11 (by decide) mw_366 dX11_init_97 q97 ?_
  refine g_aload_n 0 o dX11_init_100 rfl rfl ?_
  obtain ⟨x101_0, q101, e⟩ := e
  refine g_getN 4 o cf11 (by decide) mw_368 dX11_init_101 q101 ?_
  obtain ⟨x104_0, q104, e⟩ := e
  refine g_getN 0 o cf6 (by decide) mw_140 dX11_init_104 q104 ?_
  refine g_aload_n 0 o dX11_init_107 rfl rfl ?_
  obtain ⟨x108_0, q108, e⟩ := e
  refine g_getN 8 o cf11 (by decide) mw_372 dX11_init_108 q108 ?_
  obtain ⟨h111_0, q111, e⟩ := e
  refine g_callI [.ref x97_0, .ref x104_0, .ref x108_0] o (mX9_init q111) mw_225 mw_226 mw_11 mw_227 rfl yo_X9_init rfl rfl (Nat.le_of_ble_eq_true rfl) ⟨by decide, by decide⟩ ⟨Nat.le_of_ble_eq_true rfl, Nat.le_of_ble_eq_true rfl⟩ dX11_init_111 ?_
  obtain ⟨h114_0, q114, e⟩ := e
  refine g_putF (ty1 := (.object "FalseName$SentenceReader")) 9 o cf11 (by decide) mw_373 rfl hin rfl (by decide +kernel) rfl rfl dX11_init_114 q114 ?_
  refine g_aload_n 0 o dX11_init_117 rfl rfl ?_
  refine g_new dv2 o cf2 mw_237 mw_238 mw_12 dv2_ok ⟨by decide, by decide⟩ dX11_init_118 (fun a118_0 d_a118_0 => ?_)
  have e := e a118_0 d_a118_0
  refine g_dup o dX11_init_121 rfl ?_
  refine g_aload_n 0 o dX11_init_122 rfl rfl ?_
  obtain ⟨x123_0, q123, e⟩ := e
  refine g_getN 2 o cf11 (by decide) mw_366 dX11_init_123 q123 ?_
  refine g_aload_n 0 o dX11_init_126 rfl rfl ?_
  obtain ⟨x127_0, q127, e⟩ := e
  refine g_getN 4 o cf11 (by decide) mw_368 dX11_init_127 q127 ?_
  obtain ⟨x130_0, q130, e⟩ := e
  refine g_getN 0 o cf6 (by decide) mw_140 dX11_init_130 q130 ?_
  refine g_callIW [.ref x123_0, .ref x130_0] o (mwX2_init e) mw_239 mw_240 mw_12 mw_241 rfl yo_X2_init rfl rfl (Nat.le_of_ble_eq_true rfl) ⟨by decide, by decide⟩ ⟨Nat.le_of_ble_eq_true rfl, Nat.le_of_ble_eq_true rfl⟩ dX11_init_133 (fun h133_0 e => ?_)
  obtain ⟨h136_0, q136, e⟩ := e
  refine g_putF (ty1 := (.object "FalseName$Log")) 10 o cf11 (by decide) mw_374 rfl hin rfl (by decide +kernel) rfl rfl dX11_init_136 q136 ?_
  refine g_aload_n 0 o dX11_init_139 rfl rfl ?_
  refine g_new dv10 o cf10 mw_270 mw_271 mw_13 dv10_ok ⟨by decide, by decide⟩ dX11_init_140 (fun a140_0 d_a140_0 => ?_)
  have e := e a140_0 d_a140_0
  refine g_dup o dX11_init_143 rfl ?_
  refine g_aload_n 0 o dX11_init_144 rfl rfl ?_
  obtain ⟨x145_0, q145, e⟩ := e
  refine g_getN 4 o cf11 (by decide) mw_368 dX11_init_145 q145 ?_
  refine g_callIW [.ref x145_0] o (mwX10_init e) mw_272 mw_273 mw_13 mw_274 rfl yo_X10_init rfl rfl (Nat.le_of_ble_eq_true rfl) ⟨by decide, by decide⟩ ⟨Nat.le_of_ble_eq_true rfl, Nat.le_of_ble_eq_true rfl⟩ dX11_init_148 (fun h148_0 e => ?_)
  obtain ⟨h151_0, q151, e⟩ := e
  refine g_put (ty1 := (.object "FalseName$Ship")) 11 o cf11 (by decide) mw_375 rfl (by decide +kernel) rfl rfl dX11_init_151 q151 ?_
  refine g_aload_n 0 o dX11_init_154 rfl rfl ?_
  refine g_new dv10 o cf10 mw_270 mw_271 mw_13 dv10_ok ⟨by decide, by decide⟩ dX11_init_155 (fun a155_0 d_a155_0 => ?_)
  have e := e a155_0 d_a155_0
  refine g_dup o dX11_init_158 rfl ?_
  refine g_aload_n 0 o dX11_init_159 rfl rfl ?_
  obtain ⟨x160_0, q160, e⟩ := e
  refine g_getN 4 o cf11 (by decide) mw_368 dX11_init_160 q160 ?_
  refine g_callIW [.ref x160_0] o (mwX10_init e) mw_272 mw_273 mw_13 mw_274 rfl yo_X10_init rfl rfl (Nat.le_of_ble_eq_true rfl) ⟨by decide, by decide⟩ ⟨Nat.le_of_ble_eq_true rfl, Nat.le_of_ble_eq_true rfl⟩ dX11_init_163 (fun h163_0 e => ?_)
  obtain ⟨h166_0, q166, e⟩ := e
  refine g_put (ty1 := (.object "FalseName$Ship")) 12 o cf11 (by decide) mw_376 rfl (by decide +kernel) rfl rfl dX11_init_166 q166 ?_
  refine g_aload_n 0 o dX11_init_169 rfl rfl ?_
  refine g_bipush (v := 8) o dX11_init_170 (by decide) ?_
  refine g_newq (N := 8) (t := 5) (C := RX10) o mw_270 (ok_cst o).2.2.2.2.2.2.2.2.2.2.2.2.1 rfl (by decide) (by decide) (Nat.le_of_ble_eq_true rfl) ⟨by decide, Nat.le_of_ble_eq_true rfl⟩ dX11_init_172 (fun a172_0 d_a172_0 => ?_)
  have e := e a172_0 d_a172_0
  obtain ⟨h175_0, q175, e⟩ := e
  refine g_putF (ty1 := (.array (.object "FalseName$Ship"))) 13 o cf11 (by decide) mw_377 rfl hin rfl (by decide +kernel) rfl rfl dX11_init_175 q175 ?_
  refine g_aload_n 0 o dX11_init_178 rfl rfl ?_
  refine g_iconst (v := 2) o dX11_init_179 (by decide) ?_
  refine g_newq (N := 2) (t := 4) (C := RX1) o mw_319 (ok_cst o).2.2.2.2.2.2.2.2.2.2.2.2.2.1 rfl (by decide) (by decide) (Nat.le_of_ble_eq_true rfl) ⟨by decide, Nat.le_of_ble_eq_true rfl⟩ dX11_init_180 (fun a180_0 d_a180_0 => ?_)
  have e := e a180_0 d_a180_0
  obtain ⟨h183_0, q183, e⟩ := e
  refine g_putF (ty1 := (.array (.object "FalseName$Image"))) 15 o cf11 (by decide) mw_379 rfl hin rfl (by decide +kernel) rfl rfl dX11_init_183 q183 ?_
  refine g_aload_n 0 o dX11_init_186 rfl rfl ?_
  refine g_new dv0 o cf0 mw_320 mw_321 mw_14 dv0_ok ⟨by decide, by decide⟩ dX11_init_187 (fun a187_0 d_a187_0 => ?_)
  have e := e a187_0 d_a187_0
  refine g_dup o dX11_init_190 rfl ?_
  refine g_aload_n 0 o dX11_init_191 rfl rfl ?_
  obtain ⟨x192_0, q192, e⟩ := e
  refine g_getN 4 o cf11 (by decide) mw_368 dX11_init_192 q192 ?_
  refine g_callIW [.ref x192_0] o (mwX0_init e) mw_322 mw_323 mw_14 mw_324 rfl yo_X0_init rfl rfl (Nat.le_of_ble_eq_true rfl) ⟨by decide, by decide⟩ ⟨Nat.le_of_ble_eq_true rfl, Nat.le_of_ble_eq_true rfl⟩ dX11_init_195 (fun h195_0 e => ?_)
  obtain ⟨h198_0, q198, e⟩ := e
  refine g_putF (ty1 := (.object "FalseName$Allotment")) 16 o cf11 (by decide) mw_380 rfl hin rfl (by decide +kernel) rfl rfl dX11_init_198 q198 ?_
  refine g_aload_n 0 o dX11_init_201 rfl rfl ?_
  refine g_new dv5 o cf5 mw_331 mw_332 mw_15 dv5_ok ⟨by decide, by decide⟩ dX11_init_202 (fun a202_0 d_a202_0 => ?_)
  have e := e a202_0 d_a202_0
  refine g_dup o dX11_init_205 rfl ?_
  refine g_aload_n 0 o dX11_init_206 rfl rfl ?_
  obtain ⟨x207_0, q207, e⟩ := e
  refine g_getN 4 o cf11 (by decide) mw_368 dX11_init_207 q207 ?_
  refine g_aload_n 0 o dX11_init_210 rfl rfl ?_
  obtain ⟨x211_0, q211, e⟩ := e
  refine g_getN 0 o cf11 (by decide) mw_364 dX11_init_211 q211 ?_
  refine g_callIW [.ref x207_0, .ref x211_0] o (mwX5_init e) mw_333 mw_334 mw_15 mw_335 rfl yo_X5_init rfl rfl (Nat.le_of_ble_eq_true rfl) ⟨by decide, by decide⟩ ⟨Nat.le_of_ble_eq_true rfl, Nat.le_of_ble_eq_true rfl⟩ dX11_init_214 (fun h214_0 e => ?_)
  obtain ⟨h217_0, q217, e⟩ := e
  refine g_putF (ty1 := (.object "FalseName$Register")) 17 o cf11 (by decide) mw_381 rfl hin rfl (by decide +kernel) rfl rfl dX11_init_217 q217 ?_
  refine g_iconst (v := 0) o dX11_init_220 (by decide) ?_
  refine g_istore_n [(1, .int 0), (0, .ref a)] o dX11_init_221 rfl (by decide) rfl ?_
  refine g_iload_n 0 o dX11_init_222 rfl rfl ?_
  refine g_bipush (v := 8) o dX11_init_223 (by decide) ?_
  refine g_icmp_ge (x := 0) (y := 8) 251 o dX11_init_225 (by decide) (fun u => absurd u (by decide)) (fun u => ?_)
  refine g_aload_n 1 o dX11_init_228 rfl rfl ?_
  obtain ⟨x229_0, q229, e⟩ := e
  refine g_getN 13 o cf11 (by decide) mw_377 dX11_init_229 q229 ?_
  refine g_iload_n 0 o dX11_init_232 rfl rfl ?_
  refine g_new dv10 o cf10 mw_270 mw_271 mw_13 dv10_ok ⟨by decide, by decide⟩ dX11_init_233 (fun a233_0 d_a233_0 => ?_)
  have e := e a233_0 d_a233_0
  refine g_dup o dX11_init_236 rfl ?_
  refine g_aload_n 1 o dX11_init_237 rfl rfl ?_
  obtain ⟨x238_0, q238, e⟩ := e
  refine g_getN 4 o cf11 (by decide) mw_368 dX11_init_238 q238 ?_
  refine g_callIW [.ref x238_0] o (mwX10_init e) mw_272 mw_273 mw_13 mw_274 rfl yo_X10_init rfl rfl (Nat.le_of_ble_eq_true rfl) ⟨by decide, by decide⟩ ⟨Nat.le_of_ble_eq_true rfl, Nat.le_of_ble_eq_true rfl⟩ dX11_init_241 (fun h241_0 e => ?_)
  obtain ⟨_, k244, e⟩ := e
  obtain ⟨h244_0, q244, e⟩ := e
  refine g_astQ o cf10 rfl dX11_init_244 (ckO_s k244) q244 ?_
  refine g_iinc (k := 0) (v := 1) [(1, .int 1), (0, .ref a)] o dX11_init_245 rfl (by decide) (by decide) rfl ?_
  refine g_goto 222 o dX11_init_248 (by decide) ?_
  refine g_iload_n 0 o dX11_init_222 rfl rfl ?_
  refine g_bipush (v := 8) o dX11_init_223 (by decide) ?_
  refine g_icmp_ge (x := 1) (y := 8) 251 o dX11_init_225 (by decide) (fun u => absurd u (by decide)) (fun u => ?_)
  refine g_aload_n 1 o dX11_init_228 rfl rfl ?_
  obtain ⟨x229_1, q229, e⟩ := e
  refine g_getN 13 o cf11 (by decide) mw_377 dX11_init_229 q229 ?_
  refine g_iload_n 0 o dX11_init_232 rfl rfl ?_
  refine g_new dv10 o cf10 mw_270 mw_271 mw_13 dv10_ok ⟨by decide, by decide⟩ dX11_init_233 (fun a233_1 d_a233_1 => ?_)
  have e := e a233_1 d_a233_1
  refine g_dup o dX11_init_236 rfl ?_
  refine g_aload_n 1 o dX11_init_237 rfl rfl ?_
  obtain ⟨x238_1, q238, e⟩ := e
  refine g_getN 4 o cf11 (by decide) mw_368 dX11_init_238 q238 ?_
  refine g_callIW [.ref x238_1] o (mwX10_init e) mw_272 mw_273 mw_13 mw_274 rfl yo_X10_init rfl rfl (Nat.le_of_ble_eq_true rfl) ⟨by decide, by decide⟩ ⟨Nat.le_of_ble_eq_true rfl, Nat.le_of_ble_eq_true rfl⟩ dX11_init_241 (fun h241_1 e => ?_)
  obtain ⟨_, k244, e⟩ := e
  obtain ⟨h244_1, q244, e⟩ := e
  refine g_astQ o cf10 rfl dX11_init_244 (ckO_s k244) q244 ?_
  refine g_iinc (k := 0) (v := 2) [(1, .int 2), (0, .ref a)] o dX11_init_245 rfl (by decide) (by decide) rfl ?_
  refine g_goto 222 o dX11_init_248 (by decide) ?_
  refine g_iload_n 0 o dX11_init_222 rfl rfl ?_
  refine g_bipush (v := 8) o dX11_init_223 (by decide) ?_
  refine g_icmp_ge (x := 2) (y := 8) 251 o dX11_init_225 (by decide) (fun u => absurd u (by decide)) (fun u => ?_)
  refine g_aload_n 1 o dX11_init_228 rfl rfl ?_
  obtain ⟨x229_2, q229, e⟩ := e
  refine g_getN 13 o cf11 (by decide) mw_377 dX11_init_229 q229 ?_
  refine g_iload_n 0 o dX11_init_232 rfl rfl ?_
  refine g_new dv10 o cf10 mw_270 mw_271 mw_13 dv10_ok ⟨by decide, by decide⟩ dX11_init_233 (fun a233_2 d_a233_2 => ?_)
  have e := e a233_2 d_a233_2
  refine g_dup o dX11_init_236 rfl ?_
  refine g_aload_n 1 o dX11_init_237 rfl rfl ?_
  obtain ⟨x238_2, q238, e⟩ := e
  refine g_getN 4 o cf11 (by decide) mw_368 dX11_init_238 q238 ?_
  refine g_callIW [.ref x238_2] o (mwX10_init e) mw_272 mw_273 mw_13 mw_274 rfl yo_X10_init rfl rfl (Nat.le_of_ble_eq_true rfl) ⟨by decide, by decide⟩ ⟨Nat.le_of_ble_eq_true rfl, Nat.le_of_ble_eq_true rfl⟩ dX11_init_241 (fun h241_2 e => ?_)
  obtain ⟨_, k244, e⟩ := e
  obtain ⟨h244_2, q244, e⟩ := e
  refine g_astQ o cf10 rfl dX11_init_244 (ckO_s k244) q244 ?_
  refine g_iinc (k := 0) (v := 3) [(1, .int 3), (0, .ref a)] o dX11_init_245 rfl (by decide) (by decide) rfl ?_
  refine g_goto 222 o dX11_init_248 (by decide) ?_
  refine g_iload_n 0 o dX11_init_222 rfl rfl ?_
  refine g_bipush (v := 8) o dX11_init_223 (by decide) ?_
  refine g_icmp_ge (x := 3) (y := 8) 251 o dX11_init_225 (by decide) (fun u => absurd u (by decide)) (fun u => ?_)
  refine g_aload_n 1 o dX11_init_228 rfl rfl ?_
  obtain ⟨x229_3, q229, e⟩ := e
  refine g_getN 13 o cf11 (by decide) mw_377 dX11_init_229 q229 ?_
  refine g_iload_n 0 o dX11_init_232 rfl rfl ?_
  refine g_new dv10 o cf10 mw_270 mw_271 mw_13 dv10_ok ⟨by decide, by decide⟩ dX11_init_233 (fun a233_3 d_a233_3 => ?_)
  have e := e a233_3 d_a233_3
  refine g_dup o dX11_init_236 rfl ?_
  refine g_aload_n 1 o dX11_init_237 rfl rfl ?_
  obtain ⟨x238_3, q238, e⟩ := e
  refine g_getN 4 o cf11 (by decide) mw_368 dX11_init_238 q238 ?_
  refine g_callIW [.ref x238_3] o (mwX10_init e) mw_272 mw_273 mw_13 mw_274 rfl yo_X10_init rfl rfl (Nat.le_of_ble_eq_true rfl) ⟨by decide, by decide⟩ ⟨Nat.le_of_ble_eq_true rfl, Nat.le_of_ble_eq_true rfl⟩ dX11_init_241 (fun h241_3 e => ?_)
  obtain ⟨_, k244, e⟩ := e
  obtain ⟨h244_3, q244, e⟩ := e
  refine g_astQ o cf10 rfl dX11_init_244 (ckO_s k244) q244 ?_
  refine g_iinc (k := 0) (v := 4) [(1, .int 4), (0, .ref a)] o dX11_init_245 rfl (by decide) (by decide) rfl ?_
  refine g_goto 222 o dX11_init_248 (by decide) ?_
  refine g_iload_n 0 o dX11_init_222 rfl rfl ?_
  refine g_bipush (v := 8) o dX11_init_223 (by decide) ?_
  refine g_icmp_ge (x := 4) (y := 8) 251 o dX11_init_225 (by decide) (fun u => absurd u (by decide)) (fun u => ?_)
  refine g_aload_n 1 o dX11_init_228 rfl rfl ?_
  obtain ⟨x229_4, q229, e⟩ := e
  refine g_getN 13 o cf11 (by decide) mw_377 dX11_init_229 q229 ?_
  refine g_iload_n 0 o dX11_init_232 rfl rfl ?_
  refine g_new dv10 o cf10 mw_270 mw_271 mw_13 dv10_ok ⟨by decide, by decide⟩ dX11_init_233 (fun a233_4 d_a233_4 => ?_)
  have e := e a233_4 d_a233_4
  refine g_dup o dX11_init_236 rfl ?_
  refine g_aload_n 1 o dX11_init_237 rfl rfl ?_
  obtain ⟨x238_4, q238, e⟩ := e
  refine g_getN 4 o cf11 (by decide) mw_368 dX11_init_238 q238 ?_
  refine g_callIW [.ref x238_4] o (mwX10_init e) mw_272 mw_273 mw_13 mw_274 rfl yo_X10_init rfl rfl (Nat.le_of_ble_eq_true rfl) ⟨by decide, by decide⟩ ⟨Nat.le_of_ble_eq_true rfl, Nat.le_of_ble_eq_true rfl⟩ dX11_init_241 (fun h241_4 e => ?_)
  obtain ⟨_, k244, e⟩ := e
  obtain ⟨h244_4, q244, e⟩ := e
  refine g_astQ o cf10 rfl dX11_init_244 (ckO_s k244) q244 ?_
  refine g_iinc (k := 0) (v := 5) [(1, .int 5), (0, .ref a)] o dX11_init_245 rfl (by decide) (by decide) rfl ?_
  refine g_goto 222 o dX11_init_248 (by decide) ?_
  refine g_iload_n 0 o dX11_init_222 rfl rfl ?_
  refine g_bipush (v := 8) o dX11_init_223 (by decide) ?_
  refine g_icmp_ge (x := 5) (y := 8) 251 o dX11_init_225 (by decide) (fun u => absurd u (by decide)) (fun u => ?_)
  refine g_aload_n 1 o dX11_init_228 rfl rfl ?_
  obtain ⟨x229_5, q229, e⟩ := e
  refine g_getN 13 o cf11 (by decide) mw_377 dX11_init_229 q229 ?_
  refine g_iload_n 0 o dX11_init_232 rfl rfl ?_
  refine g_new dv10 o cf10 mw_270 mw_271 mw_13 dv10_ok ⟨by decide, by decide⟩ dX11_init_233 (fun a233_5 d_a233_5 => ?_)
  have e := e a233_5 d_a233_5
  refine g_dup o dX11_init_236 rfl ?_
  refine g_aload_n 1 o dX11_init_237 rfl rfl ?_
  obtain ⟨x238_5, q238, e⟩ := e
  refine g_getN 4 o cf11 (by decide) mw_368 dX11_init_238 q238 ?_
  refine g_callIW [.ref x238_5] o (mwX10_init e) mw_272 mw_273 mw_13 mw_274 rfl yo_X10_init rfl rfl (Nat.le_of_ble_eq_true rfl) ⟨by decide, by decide⟩ ⟨Nat.le_of_ble_eq_true rfl, Nat.le_of_ble_eq_true rfl⟩ dX11_init_241 (fun h241_5 e => ?_)
  obtain ⟨_, k244, e⟩ := e
  obtain ⟨h244_5, q244, e⟩ := e
  refine g_astQ o cf10 rfl dX11_init_244 (ckO_s k244) q244 ?_
  refine g_iinc (k := 0) (v := 6) [(1, .int 6), (0, .ref a)] o dX11_init_245 rfl (by decide) (by decide) rfl ?_
  refine g_goto 222 o dX11_init_248 (by decide) ?_
  refine g_iload_n 0 o dX11_init_222 rfl rfl ?_
  refine g_bipush (v := 8) o dX11_init_223 (by decide) ?_
  refine g_icmp_ge (x := 6) (y := 8) 251 o dX11_init_225 (by decide) (fun u => absurd u (by decide)) (fun u => ?_)
  refine g_aload_n 1 o dX11_init_228 rfl rfl ?_
  obtain ⟨x229_6, q229, e⟩ := e
  refine g_getN 13 o cf11 (by decide) mw_377 dX11_init_229 q229 ?_
  refine g_iload_n 0 o dX11_init_232 rfl rfl ?_
  refine g_new dv10 o cf10 mw_270 mw_271 mw_13 dv10_ok ⟨by decide, by decide⟩ dX11_init_233 (fun a233_6 d_a233_6 => ?_)
  have e := e a233_6 d_a233_6
  refine g_dup o dX11_init_236 rfl ?_
  refine g_aload_n 1 o dX11_init_237 rfl rfl ?_
  obtain ⟨x238_6, q238, e⟩ := e
  refine g_getN 4 o cf11 (by decide) mw_368 dX11_init_238 q238 ?_
  refine g_callIW [.ref x238_6] o (mwX10_init e) mw_272 mw_273 mw_13 mw_274 rfl yo_X10_init rfl rfl (Nat.le_of_ble_eq_true rfl) ⟨by decide, by decide⟩ ⟨Nat.le_of_ble_eq_true rfl, Nat.le_of_ble_eq_true rfl⟩ dX11_init_241 (fun h241_6 e => ?_)
  obtain ⟨_, k244, e⟩ := e
  obtain ⟨h244_6, q244, e⟩ := e
  refine g_astQ o cf10 rfl dX11_init_244 (ckO_s k244) q244 ?_
  refine g_iinc (k := 0) (v := 7) [(1, .int 7), (0, .ref a)] o dX11_init_245 rfl (by decide) (by decide) rfl ?_
  refine g_goto 222 o dX11_init_248 (by decide) ?_
  refine g_iload_n 0 o dX11_init_222 rfl rfl ?_
  refine g_bipush (v := 8) o dX11_init_223 (by decide) ?_
  refine g_icmp_ge (x := 7) (y := 8) 251 o dX11_init_225 (by decide) (fun u => absurd u (by decide)) (fun u => ?_)
  refine g_aload_n 1 o dX11_init_228 rfl rfl ?_
  obtain ⟨x229_7, q229, e⟩ := e
  refine g_getN 13 o cf11 (by decide) mw_377 dX11_init_229 q229 ?_
  refine g_iload_n 0 o dX11_init_232 rfl rfl ?_
  refine g_new dv10 o cf10 mw_270 mw_271 mw_13 dv10_ok ⟨by decide, by decide⟩ dX11_init_233 (fun a233_7 d_a233_7 => ?_)
  have e := e a233_7 d_a233_7
  refine g_dup o dX11_init_236 rfl ?_
  refine g_aload_n 1 o dX11_init_237 rfl rfl ?_
  obtain ⟨x238_7, q238, e⟩ := e
  refine g_getN 4 o cf11 (by decide) mw_368 dX11_init_238 q238 ?_
  refine g_callIW [.ref x238_7] o (mwX10_init e) mw_272 mw_273 mw_13 mw_274 rfl yo_X10_init rfl rfl (Nat.le_of_ble_eq_true rfl) ⟨by decide, by decide⟩ ⟨Nat.le_of_ble_eq_true rfl, Nat.le_of_ble_eq_true rfl⟩ dX11_init_241 (fun h241_7 e => ?_)
  obtain ⟨_, k244, e⟩ := e
  obtain ⟨h244_7, q244, e⟩ := e
  refine g_astQ o cf10 rfl dX11_init_244 (ckO_s k244) q244 ?_
  refine g_iinc (k := 0) (v := 8) [(1, .int 8), (0, .ref a)] o dX11_init_245 rfl (by decide) (by decide) rfl ?_
  refine g_goto 222 o dX11_init_248 (by decide) ?_
  refine g_iload_n 0 o dX11_init_222 rfl rfl ?_
  refine g_bipush (v := 8) o dX11_init_223 (by decide) ?_
  refine g_icmp_ge (x := 8) (y := 8) 251 o dX11_init_225 (by decide) (fun u => ?_) (fun u => absurd u (by decide))
  refine g_aload_n 1 o dX11_init_251 rfl rfl ?_
  obtain ⟨x252_8, q252, e⟩ := e
  refine g_getN 11 o cf11 (by decide) mw_375 dX11_init_252 q252 ?_
  obtain ⟨_, k255, e⟩ := e
  obtain ⟨h255_8, q255, e⟩ := e
  refine g_callV0 [] o (mX10_start q255) cf10 (ckO_s k255) mw_343 mw_344 mw_345 mw_13 mw_346 rfl yo_X10_start rfl rfl (Nat.le_of_ble_eq_true rfl) ⟨by decide, by decide⟩ ⟨rfl, rfl⟩ dX11_init_255 ⟨by decide, by decide⟩ ?_
  exact g_vretW o dX11_init_258 (by decide) (by decide) q ⟨rfl, e⟩
theorem yo_X12_init : yok yX12_init 0 := ⟨by decide, by decide, by decide +kernel⟩
set_option maxRecDepth 100000 in
set_option maxHeartbeats 4000000 in
theorem mwX12_init {l : Launch} {D : va_G} {cy : Nat → ClassId} {f0 : Nat} {a : Nat} {h : Hp} {K : Hp → Prop} (e : wX12_init f0 a h K) : MW l D cy yX12_init cX12_init 1 none rmX12_init [.ref a] h (pV K) := by
  refine mw_of (by decide) (Nat.le_of_ble_eq_true rfl) (fun X hl hD hy hin o q => ?_)
  subst hl; subst hD; subst hy
  show G X 1 0 [(0, .ref a)] [] h 0 0
  unfold wX12_init at e
  refine g_aload_n 0 o dX12_init_0 rfl rfl ?_
  refine g_objInit o mw_1142 mw_33 mw_34 ⟨by decide, Nat.le_of_ble_eq_true rfl⟩ dX12_init_1 ?_
  refine g_aload_n 0 o dX12_init_4 rfl rfl ?_
  refine g_sipush (v := 940) o dX12_init_5 (by decide) ?_
  refine g_newa (N := 940) (t := 0) (x := (940, .inl (fun _ => 0))) o mw_117 rfl rfl (fun _ _ z => z) (fun _ => rfl) (by decide) (by decide) (Nat.le_of_ble_eq_true rfl) ⟨by decide, Nat.le_of_ble_eq_true rfl⟩ dX12_init_8 (fun a8 d_a8 => ?_)
  have e := e a8 d_a8
  obtain ⟨h10, q10, e⟩ := e
  refine g_putF (ty1 := (.array .byte)) 1 o cf12 (by decide) mw_1187 rfl hin rfl (by decide +kernel) rfl rfl dX12_init_10 q10 ?_
  refine g_aload_n 0 o dX12_init_13 rfl rfl ?_
  refine g_sipush (v := 646) o dX12_init_14 (by decide) ?_
  refine g_newa (N := 646) (t := 1) (x := (646, .inl (fun _ => 0))) o mw_138 rfl rfl (fun _ _ z => z) (fun _ => rfl) (by decide) (by decide) (Nat.le_of_ble_eq_true rfl) ⟨by decide, Nat.le_of_ble_eq_true rfl⟩ dX12_init_17 (fun a17 d_a17 => ?_)
  have e := e a17 d_a17
  obtain ⟨h19, q19, e⟩ := e
  refine g_putF (ty1 := (.array .int)) 6 o cf12 (by decide) mw_1192 rfl hin rfl (by decide +kernel) rfl rfl dX12_init_19 q19 ?_
  refine g_aload_n 0 o dX12_init_22 rfl rfl ?_
  refine g_sipush (v := 312) o dX12_init_23 (by decide) ?_
  refine g_newa (N := 312) (t := 1) (x := (312, .inl (fun _ => 0))) o mw_138 rfl rfl (fun _ _ z => z) (fun _ => rfl) (by decide) (by decide) (Nat.le_of_ble_eq_true rfl) ⟨by decide, Nat.le_of_ble_eq_true rfl⟩ dX12_init_26 (fun a26 d_a26 => ?_)
  have e := e a26 d_a26
  obtain ⟨h28, q28, e⟩ := e
  refine g_putF (ty1 := (.array .int)) 7 o cf12 (by decide) mw_1193 rfl hin rfl (by decide +kernel) rfl rfl dX12_init_28 q28 ?_
  refine g_aload_n 0 o dX12_init_31 rfl rfl ?_
  refine g_sipush (v := 135) o dX12_init_32 (by decide) ?_
  refine g_newa (N := 135) (t := 1) (x := (135, .inl (fun _ => 0))) o mw_138 rfl rfl (fun _ _ z => z) (fun _ => rfl) (by decide) (by decide) (Nat.le_of_ble_eq_true rfl) ⟨by decide, Nat.le_of_ble_eq_true rfl⟩ dX12_init_35 (fun a35 d_a35 => ?_)
  have e := e a35 d_a35
  obtain ⟨h37, q37, e⟩ := e
  refine g_putF (ty1 := (.array .int)) 8 o cf12 (by decide) mw_1194 rfl hin rfl (by decide +kernel) rfl rfl dX12_init_37 q37 ?_
  refine g_aload_n 0 o dX12_init_40 rfl rfl ?_
  refine g_bipush (v := 60) o dX12_init_41 (by decide) ?_
  refine g_newa (N := 60) (t := 2) (x := (60, .inr (.inl (fun _ => 0)))) o mw_118 rfl rfl (fun _ _ z => z) (fun _ => rfl) (by decide) (by decide) (Nat.le_of_ble_eq_true rfl) ⟨by decide, Nat.le_of_ble_eq_true rfl⟩ dX12_init_43 (fun a43 d_a43 => ?_)
  have e := e a43 d_a43
  obtain ⟨h45, q45, e⟩ := e
  refine g_putF (ty1 := (.array .long)) 9 o cf12 (by decide) mw_1195 rfl hin rfl (by decide +kernel) rfl rfl dX12_init_45 q45 ?_
  refine g_aload_n 0 o dX12_init_48 rfl rfl ?_
  refine g_bipush (v := 27) o dX12_init_49 (by decide) ?_
  refine g_newa (N := 27) (t := 2) (x := (27, .inr (.inl (fun _ => 0)))) o mw_118 rfl rfl (fun _ _ z => z) (fun _ => rfl) (by decide) (by decide) (Nat.le_of_ble_eq_true rfl) ⟨by decide, Nat.le_of_ble_eq_true rfl⟩ dX12_init_51 (fun a51 d_a51 => ?_)
  have e := e a51 d_a51
  obtain ⟨h53, q53, e⟩ := e
  refine g_putF (ty1 := (.array .long)) 10 o cf12 (by decide) mw_1196 rfl hin rfl (by decide +kernel) rfl rfl dX12_init_53 q53 ?_
  refine g_aload_n 0 o dX12_init_56 rfl rfl ?_
  refine g_bipush (v := 64) o dX12_init_57 (by decide) ?_
  refine g_newa (N := 64) (t := 1) (x := (64, .inl (fun _ => 0))) o mw_138 rfl rfl (fun _ _ z => z) (fun _ => rfl) (by decide) (by decide) (Nat.le_of_ble_eq_true rfl) ⟨by decide, Nat.le_of_ble_eq_true rfl⟩ dX12_init_59 (fun a59 d_a59 => ?_)
  have e := e a59 d_a59
  obtain ⟨h61, q61, e⟩ := e
  refine g_putF (ty1 := (.array .int)) 21 o cf12 (by decide) mw_1207 rfl hin rfl (by decide +kernel) rfl rfl dX12_init_61 q61 ?_
  refine g_aload_n 0 o dX12_init_64 rfl rfl ?_
  refine g_bipush (v := 64) o dX12_init_65 (by decide) ?_
  refine g_newa (N := 64) (t := 1) (x := (64, .inl (fun _ => 0))) o mw_138 rfl rfl (fun _ _ z => z) (fun _ => rfl) (by decide) (by decide) (Nat.le_of_ble_eq_true rfl) ⟨by decide, Nat.le_of_ble_eq_true rfl⟩ dX12_init_67 (fun a67 d_a67 => ?_)
  have e := e a67 d_a67
  obtain ⟨h69, q69, e⟩ := e
  refine g_putF (ty1 := (.array .int)) 22 o cf12 (by decide) mw_1208 rfl hin rfl (by decide +kernel) rfl rfl dX12_init_69 q69 ?_
  refine g_aload_n 0 o dX12_init_72 rfl rfl ?_
  refine g_bipush (v := 6) o dX12_init_73 (by decide) ?_
  refine g_newa (N := 6) (t := 1) (x := (6, .inl (fun _ => 0))) o mw_138 rfl rfl (fun _ _ z => z) (fun _ => rfl) (by decide) (by decide) (Nat.le_of_ble_eq_true rfl) ⟨by decide, Nat.le_of_ble_eq_true rfl⟩ dX12_init_75 (fun a75 d_a75 => ?_)
  have e := e a75 d_a75
  obtain ⟨h77, q77, e⟩ := e
  refine g_putF (ty1 := (.array .int)) 23 o cf12 (by decide) mw_1209 rfl hin rfl (by decide +kernel) rfl rfl dX12_init_77 q77 ?_
  refine g_aload_n 0 o dX12_init_80 rfl rfl ?_
  refine g_bipush (v := 6) o dX12_init_81 (by decide) ?_
  refine g_newa (N := 6) (t := 1) (x := (6, .inl (fun _ => 0))) o mw_138 rfl rfl (fun _ _ z => z) (fun _ => rfl) (by decide) (by decide) (Nat.le_of_ble_eq_true rfl) ⟨by decide, Nat.le_of_ble_eq_true rfl⟩ dX12_init_83 (fun a83 d_a83 => ?_)
  have e := e a83 d_a83
  obtain ⟨h85, q85, e⟩ := e
  refine g_putF (ty1 := (.array .int)) 24 o cf12 (by decide) mw_1210 rfl hin rfl (by decide +kernel) rfl rfl dX12_init_85 q85 ?_
  refine g_aload_n 0 o dX12_init_88 rfl rfl ?_
  refine g_sipush (v := 1792) o dX12_init_89 (by decide) ?_
  refine g_newa (N := 1792) (t := 1) (x := (1792, .inl (fun _ => 0))) o mw_138 rfl rfl (fun _ _ z => z) (fun _ => rfl) (by decide) (by decide) (Nat.le_of_ble_eq_true rfl) ⟨by decide, Nat.le_of_ble_eq_true rfl⟩ dX12_init_92 (fun a92 d_a92 => ?_)
  have e := e a92 d_a92
  obtain ⟨h94, q94, e⟩ := e
  refine g_putF (ty1 := (.array .int)) 25 o cf12 (by decide) mw_1211 rfl hin rfl (by decide +kernel) rfl rfl dX12_init_94 q94 ?_
  refine g_aload_n 0 o dX12_init_97 rfl rfl ?_
  refine g_sipush (v := 1224) o dX12_init_98 (by decide) ?_
  refine g_newa (N := 1224) (t := 1) (x := (1224, .inl (fun _ => 0))) o mw_138 rfl rfl (fun _ _ z => z) (fun _ => rfl) (by decide) (by decide) (Nat.le_of_ble_eq_true rfl) ⟨by decide, Nat.le_of_ble_eq_true rfl⟩ dX12_init_101 (fun a101 d_a101 => ?_)
  have e := e a101 d_a101
  obtain ⟨h103, q103, e⟩ := e
  refine g_putF (ty1 := (.array .int)) 27 o cf12 (by decide) mw_1213 rfl hin rfl (by decide +kernel) rfl rfl dX12_init_103 q103 ?_
  refine g_aload_n 0 o dX12_init_106 rfl rfl ?_
  refine g_sipush (v := 153) o dX12_init_107 (by decide) ?_
  refine g_newa (N := 153) (t := 1) (x := (153, .inl (fun _ => 0))) o mw_138 rfl rfl (fun _ _ z => z) (fun _ => rfl) (by decide) (by decide) (Nat.le_of_ble_eq_true rfl) ⟨by decide, Nat.le_of_ble_eq_true rfl⟩ dX12_init_110 (fun a110 d_a110 => ?_)
  have e := e a110 d_a110
  obtain ⟨h112, q112, e⟩ := e
  refine g_putF (ty1 := (.array .int)) 28 o cf12 (by decide) mw_1214 rfl hin rfl (by decide +kernel) rfl rfl dX12_init_112 q112 ?_
  refine g_aload_n 0 o dX12_init_115 rfl rfl ?_
  refine g_bipush (v := 8) o dX12_init_116 (by decide) ?_
  refine g_newa (N := 8) (t := 1) (x := (8, .inl (fun _ => 0))) o mw_138 rfl rfl (fun _ _ z => z) (fun _ => rfl) (by decide) (by decide) (Nat.le_of_ble_eq_true rfl) ⟨by decide, Nat.le_of_ble_eq_true rfl⟩ dX12_init_118 (fun a118 d_a118 => ?_)
  have e := e a118 d_a118
  obtain ⟨h120, q120, e⟩ := e
  refine g_putF (ty1 := (.array .int)) 30 o cf12 (by decide) mw_1216 rfl hin rfl (by decide +kernel) rfl rfl dX12_init_120 q120 ?_
  refine g_aload_n 0 o dX12_init_123 rfl rfl ?_
  refine g_sipush (v := 1024) o dX12_init_124 (by decide) ?_
  refine g_newa (N := 1024) (t := 1) (x := (1024, .inl (fun _ => 0))) o mw_138 rfl rfl (fun _ _ z => z) (fun _ => rfl) (by decide) (by decide) (Nat.le_of_ble_eq_true rfl) ⟨by decide, Nat.le_of_ble_eq_true rfl⟩ dX12_init_127 (fun a127 d_a127 => ?_)
  have e := e a127 d_a127
  obtain ⟨h129, q129, e⟩ := e
  refine g_putF (ty1 := (.array .int)) 31 o cf12 (by decide) mw_1217 rfl hin rfl (by decide +kernel) rfl rfl dX12_init_129 q129 ?_
  refine g_aload_n 0 o dX12_init_132 rfl rfl ?_
  refine g_sipush (v := 1024) o dX12_init_133 (by decide) ?_
  refine g_newa (N := 1024) (t := 1) (x := (1024, .inl (fun _ => 0))) o mw_138 rfl rfl (fun _ _ z => z) (fun _ => rfl) (by decide) (by decide) (Nat.le_of_ble_eq_true rfl) ⟨by decide, Nat.le_of_ble_eq_true rfl⟩ dX12_init_136 (fun a136 d_a136 => ?_)
  have e := e a136 d_a136
  obtain ⟨h138, q138, e⟩ := e
  refine g_putF (ty1 := (.array .int)) 32 o cf12 (by decide) mw_1218 rfl hin rfl (by decide +kernel) rfl rfl dX12_init_138 q138 ?_
  refine g_aload_n 0 o dX12_init_141 rfl rfl ?_
  refine g_iconst (v := 4) o dX12_init_142 (by decide) ?_
  refine g_newa (N := 4) (t := 1) (x := (4, .inl (fun _ => 0))) o mw_138 rfl rfl (fun _ _ z => z) (fun _ => rfl) (by decide) (by decide) (Nat.le_of_ble_eq_true rfl) ⟨by decide, Nat.le_of_ble_eq_true rfl⟩ dX12_init_143 (fun a143 d_a143 => ?_)
  have e := e a143 d_a143
  obtain ⟨h145, q145, e⟩ := e
  refine g_putF (ty1 := (.array .int)) 37 o cf12 (by decide) mw_1223 rfl hin rfl (by decide +kernel) rfl rfl dX12_init_145 q145 ?_
  refine g_aload_n 0 o dX12_init_148 rfl rfl ?_
  refine g_bipush (v := 45) o dX12_init_149 (by decide) ?_
  refine g_newa (N := 45) (t := 1) (x := (45, .inl (fun _ => 0))) o mw_138 rfl rfl (fun _ _ z => z) (fun _ => rfl) (by decide) (by decide) (Nat.le_of_ble_eq_true rfl) ⟨by decide, Nat.le_of_ble_eq_true rfl⟩ dX12_init_151 (fun a151 d_a151 => ?_)
  have e := e a151 d_a151
  obtain ⟨h153, q153, e⟩ := e
  refine g_putF (ty1 := (.array .int)) 39 o cf12 (by decide) mw_1225 rfl hin rfl (by decide +kernel) rfl rfl dX12_init_153 q153 ?_
  refine g_aload_n 0 o dX12_init_156 rfl rfl ?_
  refine g_bipush (v := 45) o dX12_init_157 (by decide) ?_
  refine g_newa (N := 45) (t := 3) (x := (45, .inl (fun _ => 0))) o mw_1284 rfl rfl (fun _ _ z => z) (fun _ => rfl) (by decide) (by decide) (Nat.le_of_ble_eq_true rfl) ⟨by decide, Nat.le_of_ble_eq_true rfl⟩ dX12_init_159 (fun a159 d_a159 => ?_)
  have e := e a159 d_a159
  obtain ⟨h161, q161, e⟩ := e
  refine g_putF (ty1 := (.array .boolean)) 45 o cf12 (by decide) mw_1231 rfl hin rfl (by decide +kernel) rfl rfl dX12_init_161 q161 ?_
  refine g_aload_n 0 o dX12_init_164 rfl rfl ?_
  refine g_sipush (v := 1292) o dX12_init_165 (by decide) ?_
  refine g_newa (N := 1292) (t := 1) (x := (1292, .inl (fun _ => 0))) o mw_138 rfl rfl (fun _ _ z => z) (fun _ => rfl) (by decide) (by decide) (Nat.le_of_ble_eq_true rfl) ⟨by decide, Nat.le_of_ble_eq_true rfl⟩ dX12_init_168 (fun a168 d_a168 => ?_)
  have e := e a168 d_a168
  obtain ⟨h170, q170, e⟩ := e
  refine g_putF (ty1 := (.array .int)) 46 o cf12 (by decide) mw_1232 rfl hin rfl (by decide +kernel) rfl rfl dX12_init_170 q170 ?_
  refine g_aload_n 0 o dX12_init_173 rfl rfl ?_
  refine g_bipush (v := 60) o dX12_init_174 (by decide) ?_
  refine g_newa (N := 60) (t := 2) (x := (60, .inr (.inl (fun _ => 0)))) o mw_118 rfl rfl (fun _ _ z => z) (fun _ => rfl) (by decide) (by decide) (Nat.le_of_ble_eq_true rfl) ⟨by decide, Nat.le_of_ble_eq_true rfl⟩ dX12_init_176 (fun a176 d_a176 => ?_)
  have e := e a176 d_a176
  obtain ⟨h178, q178, e⟩ := e
  refine g_putF (ty1 := (.array .long)) 47 o cf12 (by decide) mw_1233 rfl hin rfl (by decide +kernel) rfl rfl dX12_init_178 q178 ?_
  refine g_aload_n 0 o dX12_init_181 rfl rfl ?_
  refine g_iconst (v := 2) o dX12_init_182 (by decide) ?_
  refine g_newa (N := 2) (t := 3) (x := (2, .inl (fun _ => 0))) o mw_1284 rfl rfl (fun _ _ z => z) (fun _ => rfl) (by decide) (by decide) (Nat.le_of_ble_eq_true rfl) ⟨by decide, Nat.le_of_ble_eq_true rfl⟩ dX12_init_183 (fun a183 d_a183 => ?_)
  have e := e a183 d_a183
  obtain ⟨h185, q185, e⟩ := e
  refine g_putF (ty1 := (.array .boolean)) 48 o cf12 (by decide) mw_1234 rfl hin rfl (by decide +kernel) rfl rfl dX12_init_185 q185 ?_
  refine g_aload_n 0 o dX12_init_188 rfl rfl ?_
  obtain ⟨x189, q189, e⟩ := e
  refine g_getN 10 o cf12 (by decide) mw_1196 dX12_init_189 q189 ?_
  refine g_iconst (v := 0) o dX12_init_192 (by decide) ?_
  refine g_ldc2_w (v := 1886351988) o dX12_init_193 mw_1143 ?_
  obtain ⟨h196, q196, e⟩ := e
  refine g_last o dX12_init_196 q196 ?_
  refine g_aload_n 0 o dX12_init_197 rfl rfl ?_
  obtain ⟨x198, q198, e⟩ := e
  refine g_getN 10 o cf12 (by decide) mw_1196 dX12_init_198 q198 ?_
  refine g_iconst (v := 1) o dX12_init_201 (by decide) ?_
  refine g_ldc2_w (v := 7823737) o dX12_init_202 mw_1144 ?_
  obtain ⟨h205, q205, e⟩ := e
  refine g_last o dX12_init_205 q205 ?_
  refine g_aload_n 0 o dX12_init_206 rfl rfl ?_
  obtain ⟨x207, q207, e⟩ := e
  refine g_getN 10 o cf12 (by decide) mw_1196 dX12_init_207 q207 ?_
  refine g_iconst (v := 2) o dX12_init_210 (by decide) ?_
  refine g_ldc2_w (v := 1835100524) o dX12_init_211 mw_1145 ?_
  obtain ⟨h214, q214, e⟩ := e
  refine g_last o dX12_init_214 q214 ?_
  refine g_aload_n 0 o dX12_init_215 rfl rfl ?_
  obtain ⟨x216, q216, e⟩ := e
  refine g_getN 10 o cf12 (by decide) mw_1196 dX12_init_216 q216 ?_
  refine g_iconst (v := 3) o dX12_init_219 (by decide) ?_
  refine g_ldc2_w (v := 1936222576) o dX12_init_220 mw_1146 ?_
  obtain ⟨h223, q223, e⟩ := e
  refine g_last o dX12_init_223 q223 ?_
  refine g_aload_n 0 o dX12_init_224 rfl rfl ?_
  obtain ⟨x225, q225, e⟩ := e
  refine g_getN 10 o cf12 (by decide) mw_1196 dX12_init_225 q225 ?_
  refine g_iconst (v := 4) o dX12_init_228 (by decide) ?_
  refine g_ldc2_w (v := 131260348654948) o dX12_init_229 mw_1147 ?_
  obtain ⟨h232, q232, e⟩ := e
  refine g_last o dX12_init_232 q232 ?_
  refine g_aload_n 0 o dX12_init_233 rfl rfl ?_
  obtain ⟨x234, q234, e⟩ := e
  refine g_getN 10 o cf12 (by decide) mw_1196 dX12_init_234 q234 ?_
  refine g_iconst (v := 5) o dX12_init_237 (by decide) ?_
  refine g_ldc2_w (v := 1870095716) o dX12_init_238 mw_1148 ?_
  obtain ⟨h241, q241, e⟩ := e
  refine g_last o dX12_init_241 q241 ?_
  refine g_aload_n 0 o dX12_init_242 rfl rfl ?_
  obtain ⟨x243, q243, e⟩ := e
  refine g_getN 10 o cf12 (by decide) mw_1196 dX12_init_243 q243 ?_
  refine g_bipush (v := 6) o dX12_init_246 (by decide) ?_
  refine g_ldc2_w (v := 1919904869) o dX12_init_248 mw_1149 ?_
  obtain ⟨h251, q251, e⟩ := e
  refine g_last o dX12_init_251 q251 ?_
  refine g_aload_n 0 o dX12_init_252 rfl rfl ?_
  obtain ⟨x253, q253, e⟩ := e
  refine g_getN 10 o cf12 (by decide) mw_1196 dX12_init_253 q253 ?_
  refine g_bipush (v := 7) o dX12_init_256 (by decide) ?_
  refine g_ldc2_w (v := 474147546227) o dX12_init_258 mw_1150 ?_
  obtain ⟨h261, q261, e⟩ := e
  refine g_last o dX12_init_261 q261 ?_
  refine g_aload_n 0 o dX12_init_262 rfl rfl ?_
  obtain ⟨x263, q263, e⟩ := e
  refine g_getN 10 o cf12 (by decide) mw_1196 dX12_init_263 q263 ?_
  refine g_bipush (v := 8) o dX12_init_266 (by decide) ?_
  refine g_ldc2_w (v := 7168366) o dX12_init_268 mw_1151 ?_
  obtain ⟨h271, q271, e⟩ := e
  refine g_last o dX12_init_271 q271 ?_
  refine g_aload_n 0 o dX12_init_272 rfl rfl ?_
  obtain ⟨x273, q273, e⟩ := e
  refine g_getN 10 o cf12 (by decide) mw_1196 dX12_init_273 q273 ?_
  refine g_bipush (v := 9) o dX12_init_276 (by decide) ?_
  refine g_ldc2_w (v := 1918986606) o dX12_init_278 mw_1152 ?_
  obtain ⟨h281, q281, e⟩ := e
  refine g_last o dX12_init_281 q281 ?_
  refine g_aload_n 0 o dX12_init_282 rfl rfl ?_
  obtain ⟨x283, q283, e⟩ := e
  refine g_getN 10 o cf12 (by decide) mw_1196 dX12_init_283 q283 ?_
  refine g_bipush (v := 10) o dX12_init_286 (by decide) ?_
  refine g_ldc2_w (v := 123563834240884) o dX12_init_288 mw_1153 ?_
  obtain ⟨h291, q291, e⟩ := e
  refine g_last o dX12_init_291 q291 ?_
  refine g_aload_n 0 o dX12_init_292 rfl rfl ?_
  obtain ⟨x293, q293, e⟩ := e
  refine g_getN 10 o cf12 (by decide) mw_1196 dX12_init_293 q293 ?_
  refine g_bipush (v := 11) o dX12_init_296 (by decide) ?_
  refine g_ldc2_w (v := 495555538035) o dX12_init_298 mw_1154 ?_
  obtain ⟨h301, q301, e⟩ := e
  refine g_last o dX12_init_301 q301 ?_
  refine g_aload_n 0 o dX12_init_302 rfl rfl ?_
  obtain ⟨x303, q303, e⟩ := e
  refine g_getN 10 o cf12 (by decide) mw_1196 dX12_init_303 q303 ?_
  refine g_bipush (v := 12) o dX12_init_306 (by decide) ?_
  refine g_ldc2_w (v := 123563682985075) o dX12_init_308 mw_1155 ?_
  obtain ⟨h311, q311, e⟩ := e
  refine g_last o dX12_init_311 q311 ?_
  refine g_aload_n 0 o dX12_init_312 rfl rfl ?_
  obtain ⟨x313, q313, e⟩ := e
  refine g_getN 10 o cf12 (by decide) mw_1196 dX12_init_313 q313 ?_
  refine g_bipush (v := 13) o dX12_init_316 (by decide) ?_
  refine g_ldc2_w (v := 512735409267) o dX12_init_318 mw_1156 ?_
  obtain ⟨h321, q321, e⟩ := e
  refine g_last o dX12_init_321 q321 ?_
  refine g_aload_n 0 o dX12_init_322 rfl rfl ?_
  obtain ⟨x323, q323, e⟩ := e
  refine g_getN 10 o cf12 (by decide) mw_1196 dX12_init_323 q323 ?_
  refine g_bipush (v := 14) o dX12_init_326 (by decide) ?_
  refine g_ldc2_w (v := 499850634611) o dX12_init_328 mw_1157 ?_
  obtain ⟨h331, q331, e⟩ := e
  refine g_last o dX12_init_331 q331 ?_
  refine g_aload_n 0 o dX12_init_332 rfl rfl ?_
  obtain ⟨x333, q333, e⟩ := e
  refine g_getN 10 o cf12 (by decide) mw_1196 dX12_init_333 q333 ?_
  refine g_bipush (v := 15) o dX12_init_336 (by decide) ?_
  refine g_ldc2_w (v := 119182682386035) o dX12_init_338 mw_1158 ?_
  obtain ⟨h341, q341, e⟩ := e
  refine g_last o dX12_init_341 q341 ?_
  refine g_aload_n 0 o dX12_init_342 rfl rfl ?_
  obtain ⟨x343, q343, e⟩ := e
  refine g_getN 10 o cf12 (by decide) mw_1196 dX12_init_343 q343 ?_
  refine g_bipush (v := 16) o dX12_init_346 (by decide) ?_
  refine g_ldc2_w (v := 28530) o dX12_init_348 mw_1159 ?_
  obtain ⟨h351, q351, e⟩ := e
  refine g_last o dX12_init_351 q351 ?_
  refine g_aload_n 0 o dX12_init_352 rfl rfl ?_
  obtain ⟨x353, q353, e⟩ := e
  refine g_getN 10 o cf12 (by decide) mw_1196 dX12_init_353 q353 ?_
  refine g_bipush (v := 17) o dX12_init_356 (by decide) ?_
  refine g_ldc2_w (v := 6385252) o dX12_init_358 mw_1160 ?_
  obtain ⟨h361, q361, e⟩ := e
  refine g_last o dX12_init_361 q361 ?_
  refine g_aload_n 0 o dX12_init_362 rfl rfl ?_
  obtain ⟨x363, q363, e⟩ := e
  refine g_getN 10 o cf12 (by decide) mw_1196 dX12_init_363 q363 ?_
  refine g_bipush (v := 18) o dX12_init_366 (by decide) ?_
  refine g_ldc2_w (v := 7237492) o dX12_init_368 mw_1161 ?_
  obtain ⟨h371, q371, e⟩ := e
  refine g_last o dX12_init_371 q371 ?_
  refine g_aload_n 0 o dX12_init_372 rfl rfl ?_
  obtain ⟨x373, q373, e⟩ := e
  refine g_getN 10 o cf12 (by decide) mw_1196 dX12_init_373 q373 ?_
  refine g_bipush (v := 19) o dX12_init_376 (by decide) ?_
  refine g_ldc2_w (v := 1751478885) o dX12_init_378 mw_1162 ?_
  obtain ⟨h381, q381, e⟩ := e
  refine g_last o dX12_init_381 q381 ?_
  refine g_aload_n 0 o dX12_init_382 rfl rfl ?_
  obtain ⟨x383, q383, e⟩ := e
  refine g_getN 10 o cf12 (by decide) mw_1196 dX12_init_383 q383 ?_
  refine g_bipush (v := 20) o dX12_init_386 (by decide) ?_
  refine g_ldc2_w (v := 1650812270) o dX12_init_388 mw_1163 ?_
  obtain ⟨h391, q391, e⟩ := e
  refine g_last o dX12_init_391 q391 ?_
  refine g_aload_n 0 o dX12_init_392 rfl rfl ?_
  obtain ⟨x393, q393, e⟩ := e
  refine g_getN 10 o cf12 (by decide) mw_1196 dX12_init_393 q393 ?_
  refine g_bipush (v := 21) o dX12_init_396 (by decide) ?_
  refine g_ldc2_w (v := 1935763045) o dX12_init_398 mw_1164 ?_
  obtain ⟨h401, q401, e⟩ := e
  refine g_last o dX12_init_401 q401 ?_
  refine g_aload_n 0 o dX12_init_402 rfl rfl ?_
  obtain ⟨x403, q403, e⟩ := e
  refine g_getN 10 o cf12 (by decide) mw_1196 dX12_init_403 q403 ?_
  refine g_bipush (v := 22) o dX12_init_406 (by decide) ?_
  refine g_ldc2_w (v := 461414299507) o dX12_init_408 mw_1165 ?_
  obtain ⟨h411, q411, e⟩ := e
  refine g_last o dX12_init_411 q411 ?_
  refine g_aload_n 0 o dX12_init_412 rfl rfl ?_
  obtain ⟨x413, q413, e⟩ := e
  refine g_getN 10 o cf12 (by decide) mw_1196 dX12_init_413 q413 ?_
  refine g_bipush (v := 23) o dX12_init_416 (by decide) ?_
  refine g_ldc2_w (v := 448377483891) o dX12_init_418 mw_1166 ?_
  obtain ⟨h421, q421, e⟩ := e
  refine g_last o dX12_init_421 q421 ?_
  refine g_aload_n 0 o dX12_init_422 rfl rfl ?_
  obtain ⟨x423, q423, e⟩ := e
  refine g_getN 10 o cf12 (by decide) mw_1196 dX12_init_423 q423 ?_
  refine g_bipush (v := 24) o dX12_init_426 (by decide) ?_
  refine g_ldc2_w (v := 6709618) o dX12_init_428 mw_1167 ?_
  obtain ⟨h431, q431, e⟩ := e
  refine g_last o dX12_init_431 q431 ?_
  refine g_aload_n 0 o dX12_init_432 rfl rfl ?_
  obtain ⟨x433, q433, e⟩ := e
  refine g_getN 10 o cf12 (by decide) mw_1196 dX12_init_433 q433 ?_
  refine g_bipush (v := 25) o dX12_init_436 (by decide) ?_
  refine g_ldc2_w (v := 474080961907) o dX12_init_438 mw_1168 ?_
  obtain ⟨h441, q441, e⟩ := e
  refine g_last o dX12_init_441 q441 ?_
  refine g_aload_n 0 o dX12_init_442 rfl rfl ?_
  obtain ⟨x443, q443, e⟩ := e
  refine g_getN 10 o cf12 (by decide) mw_1196 dX12_init_443 q443 ?_
  refine g_bipush (v := 26) o dX12_init_446 (by decide) ?_
  refine g_ldc2_w (v := 121450625394034) o dX12_init_448 mw_1169 ?_
  obtain ⟨h451, q451, e⟩ := e
  refine g_last o dX12_init_451 q451 ?_
  refine g_aload_n 0 o dX12_init_452 rfl rfl ?_
  obtain ⟨_, k453, e⟩ := e
  obtain ⟨h453, q453, e⟩ := e
  refine g_callV0 [] o (mX12_begins q453) cf12 (ckO_s k453) mw_1170 mw_1171 mw_1724 mw_19 mw_1172 rfl yo_X12_begins rfl rfl (Nat.le_of_ble_eq_true rfl) ⟨by decide, by decide⟩ ⟨rfl, rfl⟩ dX12_init_453 ⟨by decide, by decide⟩ ?_
  exact g_vretW o dX12_init_456 (by decide) (by decide) q ⟨rfl, e⟩
set_option maxRecDepth 100000 in
set_option maxHeartbeats 4000000 in
theorem kX11_image_33 {X : Cx} (f0 : Nat) (K : Int32 → Hp → Prop) (o : Ok X cX11_image RX11 3 rmX11_image (some .boolean)) (q : RtW X (pI K) 27 864) (v0 : Nat) (v1 : Int32) (h : Hp) (e : bX11_image_33 f0 K v0 v1 h) : G X 3 33 [(0, .ref v0), (1, .int v1)] [] h 27 864 := by
  unfold bX11_image_33 at e
  refine g_aload_n 0 o dX11_image_33 rfl rfl ?_
  obtain ⟨x34, q34, e⟩ := e
  refine g_getN 15 o cf11 (by decide) mw_379 dX11_image_34 q34 ?_
  refine g_iload_n 1 o dX11_image_37 rfl rfl ?_
  obtain ⟨x38, q38, e⟩ := e
  refine g_aldN (C := RX1) rfl o dX11_image_38 q38 ?_
  refine g_astore_n [(2, .ref x38), (0, .ref v0), (1, .int v1)] o dX11_image_39 rfl (by decide) rfl ?_
  refine g_aload_n 0 o dX11_image_40 rfl rfl ?_
  obtain ⟨x41, q41, e⟩ := e
  refine g_getN 0 o cf1 (by decide) mw_1034 dX11_image_41 q41 ?_
  refine g_aload_n 1 o dX11_image_44 rfl rfl ?_
  obtain ⟨x45, q45, e⟩ := e
  refine g_getN 4 o cf11 (by decide) mw_368 dX11_image_45 q45 ?_
  obtain ⟨_, k48, e⟩ := e
  obtain ⟨h48, q48, e⟩ := e
  refine g_callV0 [.ref x45] o (mX6_copyFrom q48) cf6 (ckO_s k48) mw_576 mw_577 mw_578 mw_7 mw_579 rfl yo_X6_copyFrom rfl rfl (Nat.le_of_ble_eq_true rfl) ⟨by decide, by decide⟩ ⟨rfl, rfl⟩ dX11_image_48 ⟨by decide, by decide⟩ ?_
  refine g_aload_n 0 o dX11_image_51 rfl rfl ?_
  obtain ⟨x52, q52, e⟩ := e
  refine g_getN 1 o cf1 (by decide) mw_1036 dX11_image_52 q52 ?_
  refine g_aload_n 1 o dX11_image_55 rfl rfl ?_
  obtain ⟨x56, q56, e⟩ := e
  refine g_getN 11 o cf11 (by decide) mw_375 dX11_image_56 q56 ?_
  obtain ⟨_, k59, e⟩ := e
  obtain ⟨h59, q59, e⟩ := e
  refine g_callV0 [.ref x56] o (mX10_copyFrom q59) cf10 (ckO_s k59) mw_732 mw_733 mw_734 mw_13 mw_735 rfl yo_X10_copyFrom rfl rfl (Nat.le_of_ble_eq_true rfl) ⟨by decide, by decide⟩ ⟨rfl, rfl⟩ dX11_image_59 ⟨by decide, by decide⟩ ?_
  refine g_aload_n 0 o dX11_image_62 rfl rfl ?_
  obtain ⟨x63, q63, e⟩ := e
  refine g_getN 2 o cf1 (by decide) mw_1038 dX11_image_63 q63 ?_
  refine g_aload_n 1 o dX11_image_66 rfl rfl ?_
  obtain ⟨x67, q67, e⟩ := e
  refine g_getN 7 o cf11 (by decide) mw_371 dX11_image_67 q67 ?_
  obtain ⟨_, k70, e⟩ := e
  obtain ⟨h70, q70, e⟩ := e
  refine g_callV0 [.ref x67] o (mX8_copyFrom q70) cf8 (ckO_s k70) mw_626 mw_627 mw_628 mw_10 mw_629 rfl yo_X8_copyFrom rfl rfl (Nat.le_of_ble_eq_true rfl) ⟨by decide, by decide⟩ ⟨rfl, rfl⟩ dX11_image_70 ⟨by decide, by decide⟩ ?_
  refine g_iconst (v := 1) o dX11_image_73 (by decide) ?_
  exact g_zretW o dX11_image_74 e.1 (by decide) (by decide) q ⟨_, rfl, e.2⟩
theorem yo_X11_image : yok yX11_image 1 := ⟨by decide, by decide, by decide +kernel⟩
set_option maxRecDepth 100000 in
set_option maxHeartbeats 4000000 in
theorem mwX11_image {l : Launch} {D : va_G} {cy : Nat → ClassId} {f0 : Nat} {a : Nat} {p0 : Int32} {h : Hp} {K : Int32 → Hp → Prop} (e : wX11_image f0 a p0 h K) : MW l D cy yX11_image cX11_image 3 (some .boolean) rmX11_image [.ref a, .int p0] h (pI K) := by
  refine mw_of (by decide) (Nat.le_of_ble_eq_true rfl) (fun X hl hD hy hin o q => ?_)
  subst hl; subst hD; subst hy
  show G X 3 0 [(0, .ref a), (1, .int p0)] [] h 0 0
  unfold wX11_image at e
  refine g_iload_n 1 o dX11_image_0 rfl rfl ?_
  refine g_if_lt (x := p0) 9 o dX11_image_1 (by decide) (fun u => ?_) (fun u => ?_)
  · rw [if_pos u] at e
    refine g_iconst (v := 0) o dX11_image_9 (by decide) ?_
    exact g_zretW o dX11_image_10 e.1 (by decide) (by decide) q ⟨_, rfl, e.2⟩
  · rw [if_neg u] at e
    refine g_iload_n 1 o dX11_image_4 rfl rfl ?_
    refine g_iconst (v := 2) o dX11_image_5 (by decide) ?_
    refine g_icmp_lt (x := p0) (y := 2) 11 o dX11_image_6 (by decide) (fun u => ?_) (fun u => ?_)
    · rw [if_pos u] at e
      refine g_aload_n 0 o dX11_image_11 rfl rfl ?_
      obtain ⟨x12, q12, e⟩ := e
      refine g_getN 15 o cf11 (by decide) mw_379 dX11_image_12 q12 ?_
      refine g_iload_n 1 o dX11_image_15 rfl rfl ?_
      obtain ⟨x16, q16, e⟩ := e
      refine g_aldQ (C := RX1) rfl o dX11_image_16 q16 ?_
      refine g_ifnonnullQ (r := x16) 33 o dX11_image_17 (by decide) (fun u => ?_) (fun u => ?_)
      · rw [if_pos u] at e
        refine g_aload_n 0 o dX11_image_20 rfl rfl ?_
        obtain ⟨x21, q21, e⟩ := e
        refine g_getN 15 o cf11 (by decide) mw_379 dX11_image_21 q21 ?_
        refine g_iload_n 1 o dX11_image_24 rfl rfl ?_
        refine g_new dv1 o cf1 mw_319 mw_1025 mw_26 dv1_ok ⟨by decide, by decide⟩ dX11_image_25 (fun a25 d_a25 => ?_)
        have e := e a25 d_a25
        refine g_dup o dX11_image_28 rfl ?_
        refine g_callIN [] o (mwX1_init e) (List.mem_of_getElem? (i := 3) rfl) mw_1026 mw_26 mw_1027 rfl yo_X1_init rfl rfl (Nat.le_of_ble_eq_true rfl) ⟨by decide, by decide⟩ ⟨Nat.le_of_ble_eq_true rfl, Nat.le_of_ble_eq_true rfl⟩ dX11_image_29 (fun h29 e => ?_)
        obtain ⟨_, k32, e⟩ := e
        obtain ⟨h32, q32, e⟩ := e
        refine g_astQ o cf1 rfl dX11_image_32 (ckO_s k32) q32 ?_
        exact kX11_image_33 f0 K o q a p0 h32 e
      · rw [if_neg u] at e
        refine g_wd (c2 := 27) (n2 := 864) (by decide) (by decide) ?_
        exact kX11_image_33 f0 K o q a p0 h e
    · rw [if_neg u] at e
      refine g_iconst (v := 0) o dX11_image_9 (by decide) ?_
      exact g_zretW o dX11_image_10 e.1 (by decide) (by decide) q ⟨_, rfl, e.2⟩
