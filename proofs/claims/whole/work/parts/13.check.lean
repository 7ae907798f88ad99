/-! String.checkIndex, where the index is in its bounds (the text's class is asked by Preconditions, whose formatter is null or some reference) -/
theorem g_gstv {X : Cx} {cc : ByteArray} {own : String} {nL : Nat} {rm : Room} {ret : Option FieldType} {pc : Nat} {lv : List (Nat × Value)} {st : List Value} {h : Hp} {c n index : Nat} {C nm ds : String} {v : Value} (hZ : va_Z C nm ds v (xA X) (xs X) (xs X).heap) (o : Ok X cc own nL rm ret) (w : Cond.fieldLink own index C nm ds ∈ GW) (d : decode cc pc = .ok (.getstatic index, 3)) (kk : G X nL (pc + 3) lv (v :: st) h c n) : G X nL pc lv st h c n := fun H locs ls a b l => va_gets o.1 o.2.1 hZ b o.2.2.2.1 (o.2.2.2.2.1 _ w) (fun _ z => z) d (kk H locs ls a b l)
def fJ0_checkIndex_df160 (f0 : Nat) (p0 p1 : Int32) (h : Hp) : Option Hp := if p0 < 0 then none else if p0 < p1 then some h else none
def rmJ3_checkIndex_8e157 : Room := { frames := 0, cells := 0, slots := 0, locals := 0 }
def rmJ0_checkIndex_df160 : Room := { frames := 1, cells := 0, slots := 0, locals := 30 }
theorem yo_J3_checkIndex_8e157 : yok yJ3_checkIndex_8e157 3 := ⟨by decide, by decide, by decide +kernel⟩
theorem yo_J0_checkIndex_df160 : yok yJ0_checkIndex_df160 2 := ⟨by decide, by decide, by decide +kernel⟩
set_option maxRecDepth 100000 in
set_option maxHeartbeats 4000000 in
theorem mJ3_checkIndex_8e157 {l : Launch} {D : va_G} {cy : Nat → ClassId} {p0 p1 : Int32} {r0 : Option Nat} {h : Hp} (h1 : ¬ p0 < 0) (h2 : p0 < p1) : MC l D cy yJ3_checkIndex_8e157 cJ3_checkIndex_8e157 3 (some .int) rmJ3_checkIndex_8e157 [.int p0, .int p1, va_rf r0] h (some (.int p0)) h := by
  cases r0 with
  | none =>
    refine mc_of2 (by decide) (Nat.le_of_ble_eq_true rfl) (fun X hl hD hy hin o q => ?_)
    subst hl; subst hD; subst hy
    show G X 3 0 [(0, .int p0), (1, .int p1), (2, .null)] [] h 0 0
    refine g_iload_n 0 o dJ3_checkIndex_8e157_0 rfl rfl ?_
    refine g_if_lt (x := p0) 9 o dJ3_checkIndex_8e157_1 (by decide) (fun u => absurd u h1) (fun _ => ?_)
    refine g_iload_n 0 o dJ3_checkIndex_8e157_4 rfl rfl ?_
    refine g_iload_n 1 o dJ3_checkIndex_8e157_5 rfl rfl ?_
    refine g_icmp_lt (x := p0) (y := p1) 16 o dJ3_checkIndex_8e157_6 (by decide) (fun _ => ?_) (fun u => absurd h2 u)
    refine g_iload_n 0 o dJ3_checkIndex_8e157_16 rfl rfl ?_
    exact g_iret o dJ3_checkIndex_8e157_17 q
  | some t =>
    refine mc_of2 (by decide) (Nat.le_of_ble_eq_true rfl) (fun X hl hD hy hin o q => ?_)
    subst hl; subst hD; subst hy
    show G X 3 0 [(0, .int p0), (1, .int p1), (2, .ref t)] [] h 0 0
    refine g_iload_n 0 o dJ3_checkIndex_8e157_0 rfl rfl ?_
    refine g_if_lt (x := p0) 9 o dJ3_checkIndex_8e157_1 (by decide) (fun u => absurd u h1) (fun _ => ?_)
    refine g_iload_n 0 o dJ3_checkIndex_8e157_4 rfl rfl ?_
    refine g_iload_n 1 o dJ3_checkIndex_8e157_5 rfl rfl ?_
    refine g_icmp_lt (x := p0) (y := p1) 16 o dJ3_checkIndex_8e157_6 (by decide) (fun _ => ?_) (fun u => absurd h2 u)
    refine g_iload_n 0 o dJ3_checkIndex_8e157_16 rfl rfl ?_
    exact g_iret o dJ3_checkIndex_8e157_17 q
set_option maxRecDepth 100000 in
set_option maxHeartbeats 4000000 in
theorem mJ0_checkIndex_df160 {l : Launch} {D : va_G} {cy : Nat → ClassId} {f0 : Nat} {p0 p1 : Int32} {h hz : Hp} (e : fJ0_checkIndex_df160 f0 p0 p1 h = some hz) : MC l D cy yJ0_checkIndex_df160 cJ0_checkIndex_df160 2 none rmJ0_checkIndex_df160 [.int p0, .int p1] h none hz := by
  unfold fJ0_checkIndex_df160 at e
  by_cases u1 : p0 < 0
  · rw [if_pos u1] at e; cases e
  rw [if_neg u1] at e
  by_cases u2 : ¬ p0 < p1
  · rw [if_neg u2] at e; cases e
  have u2 : p0 < p1 := Classical.byContradiction u2
  rw [if_pos u2] at e
  refine mc_of2 (by decide) (Nat.le_of_ble_eq_true rfl) (fun X hl hD hy hin o q => ?_)
  subst hl; subst hD; subst hy
  show G X 2 0 [(0, .int p0), (1, .int p1)] [] h 0 0
  refine g_iload_n 0 o dJ0_checkIndex_df160_0 rfl rfl ?_
  refine g_iload_n 1 o dJ0_checkIndex_df160_1 rfl rfl ?_
  rcases (ok_cst o).2.2.2.2.2.2.2.2.2.2.2.2.2.2 with z | ⟨t, z⟩
  · refine g_gstv z o mw_64 dJ0_checkIndex_df160_2 ?_
    refine g_callSv [.int p0, .int p1, .null] o (mJ3_checkIndex_8e157 (r0 := none) u1 u2) mw_65 mw_66 mw_5 mw_67 yo_J3_checkIndex_8e157 rfl rfl (Nat.le_of_ble_eq_true rfl) ⟨by decide, by decide⟩ ⟨rfl, rfl⟩ dJ0_checkIndex_df160_5 ⟨by decide, by decide⟩ ?_
    refine g_pop o dJ0_checkIndex_df160_8 rfl ?_
    exact g_vret o dJ0_checkIndex_df160_9 (rt_0 q e)
  · refine g_gstv z o mw_64 dJ0_checkIndex_df160_2 ?_
    refine g_callSv [.int p0, .int p1, .ref t] o (mJ3_checkIndex_8e157 (r0 := some t) u1 u2) mw_65 mw_66 mw_5 mw_67 yo_J3_checkIndex_8e157 rfl rfl (Nat.le_of_ble_eq_true rfl) ⟨by decide, by decide⟩ ⟨rfl, rfl⟩ dJ0_checkIndex_df160_5 ⟨by decide, by decide⟩ ?_
    refine g_pop o dJ0_checkIndex_df160_8 rfl ?_
    exact g_vret o dJ0_checkIndex_df160_9 (rt_0 q e)
