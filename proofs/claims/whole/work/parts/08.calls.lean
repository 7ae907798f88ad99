/-! calls, and what makes new cells, over G -/
theorem blind_mc {D : va_G} {cy : Nat → ClassId} {av : List Value} {A : Nat → Prop} {h : Hp} {sz : Nat} : FrameBlind (va_Pc av (fun U => U.heap.size = sz ∧ At D cy A h U.heap ∧ va_K D vwCl (tysL cy) U ∧ Cst D A U)) := by
  intro a U g mk q
  obtain ⟨q0, q1, q2, q3, q4⟩ := q
  exact ⟨q0, q1, q2, va_K.moved (u := U) (U := U.calling g mk a) (Vm.Alike.refl U.vm) q3, cst_same q4 rfl rfl⟩
theorem up_mc {X : Cx} {cc : ByteArray} {own : String} {nL : Nat} {rm : Room} {ret : Option FieldType} {h : Hp} {H : Heap} {locs : List Loc} (o : Ok X cc own nL rm ret) (hAt : At (xD X) (xy X) (xA X) h H) (hS : va_S (xA X) (xs X).heap H locs) : ∀ q, Aof h H.size q → xA X q := fun q hq => hq.elim (fun z => (hq_own hAt z).1) (fun z => o.2.2.2.2.2.2.1 q (Nat.le_trans hS.1 z))
theorem g_run {X : Cx} {cc : ByteArray} {own : String} {nL : Nat} {rm : Room} {ret : Option FieldType} {pc : Nat} {lv : List (Nat × Value)} {st sk : List Value} {h : Hp} {c n : Nat} {mc ms : Nat} {v : Option Value} {h1 : Hp} {as : Array Value} (o : Ok X cc own nL rm ret)
    (run : ∀ (H : Heap) (locs : List Loc) (ls : Array Slot), At (xD X) (xy X) (xA X) h H → va_S (xA X) (xs X).heap H locs → lv_has ls nL lv → va_Run (xp X) (xl X) (xe X) (xR X) (xs X) (xm X) (xa X) (xb X) (xt X) (xc X) H locs c n mc ms (F0 (xm X) pc ls sk) st (Qp (xD X) (xy X) (Aof h H.size) v h1 as) (Aof h H.size))
    (kk : G X nL (pc + 3) lv (v.toList ++ st) h1 (c + mc) (n + ms)) : G X nL pc lv sk h c n := by
  intro H locs ls hAt hS hl T hT XX
  obtain ⟨v', st₀, t, T', L, h0, X', hL, e1, e2, ⟨hv, hA1, hK1, ⟨hz, hk⟩, -⟩, goes⟩ := run H locs ls hAt hS hl T hT XX
  cases hv
  rw [h0] at hz hk
  have hup := up_mc o hAt hS
  obtain ⟨t2, a1, b1⟩ := kk T'.heap (locs ++ L) ls (by rw [e1]; exact hq_weak hA1 (fun q _ z => hup q z))
    ⟨Nat.le_trans hS.1 (by rw [e1]; exact hz), fun q g1 g2 => by rw [e1, hk q (Nat.lt_of_lt_of_le g1 hS.1) (fun z => g2 (hup q z))]; exact hS.2.1 q g1 g2, fun q hq => by
      rcases List.mem_append.mp hq with g | g
      · exact hS.2.2 q g
      · exact hup _ (hL q g)⟩ hl T' rfl X'
  exact ⟨t2, goes t2 a1, b1⟩
theorem pre_mc {X : Cx} {cc : ByteArray} {own : String} {nL : Nat} {rm : Room} {ret : Option FieldType} {h : Hp} {H : Heap} {locs : List Loc} {av : List Value} (o : Ok X cc own nL rm ret) (hAt : At (xD X) (xy X) (xA X) h H) (hS : va_S (xA X) (xs X).heap H locs) : ∀ U : State, U.heap = H → (xs X).WarmedH U.vm → va_Pc av (fun U => U.heap.size = H.size ∧ At (xD X) (xy X) (Aof h H.size) h U.heap ∧ va_K (xD X) vwCl (tysL (xy X)) U ∧ Cst (xD X) (Aof h H.size) U) av.toArray U :=
  fun U hU hW => ⟨rfl, by rw [hU], by rw [hU]; exact hq_weak hAt (fun q z _ => Or.inl z), va_K.moved hW.alike o.2.2.2.2.2.1, cst_narrow (cst_move o.2.2.2.2.2.2.2.2.2.2 hS hW hU) (up_mc o hAt hS)⟩
def yok (y : MethodName) (nA : Nat) : Prop := y.cls ≠ "java/lang/invoke/MethodHandle" ∧ y.cls ≠ "java/lang/invoke/VarHandle" ∧ (parseMethodDescriptor y.desc).map (fun d => d.parameters.length) = some nA
theorem good_mc {y : MethodName} {yc : ByteArray} {yl : Nat} {yr : Option FieldType} {pre : List Cond} (hp : ∀ w ∈ pre, w ∈ GW) (hc : Cond.code y yc yl yr ∈ GW) : GoodIn GW (pre ++ (Cond.code y yc yl yr :: GW)) := by
  intro w hw
  rcases List.mem_append.mp hw with h | h
  · exact ⟨hp w h, good_of_word (List.mem_filter.mp (hp w h)).2⟩
  · rcases List.mem_cons.mp h with h | h
    · subst h; exact ⟨hc, good_of_word (List.mem_filter.mp hc).2⟩
    · exact ⟨h, good_of_word (List.mem_filter.mp h).2⟩
theorem g_callV {X : Cx} {cc : ByteArray} {own : String} {nL : Nat} {rm : Room} {ret : Option FieldType} {pc : Nat} {lv : List (Nat × Value)} {st sk : List Value} {h : Hp} {c n : Nat} {y : MethodName} {yc : ByteArray} {yl : Nat} {yr : Option FieldType} {rmc : Room} {b ci index N nA : Nat} {C : String} {T : u_T} {ty : Nat → FieldType} {fs : List Value} {v : Option Value} {h1 : Hp} (As : List Value) (o : Ok X cc own nL rm ret) (M : MC (xl X) (xD X) (xy X) y yc yl yr rmc (.ref b :: As) h v h1) (cf : CF ci C T N ty) (hb : h b = .inr (ci, fs))
    (w1 : Cond.methodLink own index y ∈ GW) (w2 : Cond.instanceMethod y ∈ GW) (w3 : Cond.selects C y y ∈ GW) (w4 : Cond.initialized C ∈ GW) (w5 : Cond.code y yc yl yr ∈ GW) (hy : y.cls = C) (hd : yok y nA) (hlen : As.length = nA) (hst : sk = As.reverse ++ .ref b :: st) (hW : (st.map fun v => v.category).sum ≤ 8) (hR : rmc.frames + 1 ≤ rm.frames ∧ 8 + (yl + 11) + rmc.locals ≤ rm.locals) (hf : c + rmc.cells ≤ rm.cells ∧ n + rmc.slots ≤ rm.slots) (d : decode cc pc = .ok (.invokevirtual index, 3))
    (kk : G X nL (pc + 3) lv (v.toList ++ st) h1 (c + rmc.cells) (n + rmc.slots)) : G X nL pc lv sk h c n := by
  refine g_run (as := (Value.ref b :: As).toArray) o (fun H locs ls hAt hS hl => ?_) kk
  obtain ⟨L, j, hP, -, -, -, -, hj⟩ := hq_o hAt hb cf.1
  have hR' : xR X = rm := o.2.2.2.2.2.2.2.1
  refine va_runV (As := As) (rest := st) (C := C) ⟨o.1, o.2.1, o.2.2.1, o.2.2.2.1, o.2.2.2.2.1⟩ (M H.size) (cwV nA o.2.2.2.2.1 (good_mc (pre := [.methodLink own index y, .instanceMethod y, .selects C y y, .initialized C]) (fun w hw => ?_) w5) rfl rfl rfl ⟨hy, hd⟩ (by rw [hR']; exact hR)) ⟨blind_mc, va_recv o.2.2.2.2.2.1 hP cf.2.1 hj, pre_mc o hAt hS⟩ rfl hlen hl.1 hst (lv_room hW) d (by rw [hR']; exact hf)
  simp only [List.mem_cons, List.not_mem_nil, or_false] at hw
  rcases hw with rfl | rfl | rfl | rfl <;> assumption
theorem g_callS {X : Cx} {cc : ByteArray} {own : String} {nL : Nat} {rm : Room} {ret : Option FieldType} {pc : Nat} {lv : List (Nat × Value)} {st sk : List Value} {h : Hp} {c n : Nat} {y : MethodName} {yc : ByteArray} {yl : Nat} {yr : Option FieldType} {rmc : Room} {index nA : Nat} {v : Option Value} {h1 : Hp} (As : List Value) (o : Ok X cc own nL rm ret) (M : MC (xl X) (xD X) (xy X) y yc yl yr rmc As h v h1)
    (w1 : Cond.methodLink own index y ∈ GW) (w2 : Cond.static y ∈ GW) (w4 : Cond.initialized y.cls ∈ GW) (w5 : Cond.code y yc yl yr ∈ GW) (hd : yok y nA) (hlen : As.length = nA) (hst : sk = As.reverse ++ st) (hW : (st.map fun v => v.category).sum ≤ 8) (hR : rmc.frames + 1 ≤ rm.frames ∧ 8 + (yl + 11) + rmc.locals ≤ rm.locals) (hf : c + rmc.cells ≤ rm.cells ∧ n + rmc.slots ≤ rm.slots) (d : decode cc pc = .ok (.invokestatic index, 3))
    (kk : G X nL (pc + 3) lv (v.toList ++ st) h1 (c + rmc.cells) (n + rmc.slots)) : G X nL pc lv sk h c n := by
  refine g_run (as := As.toArray) o (fun H locs ls hAt hS hl => ?_) kk
  have hR' : xR X = rm := o.2.2.2.2.2.2.2.1
  refine va_runS (As := As) (rest := st) ⟨o.1, o.2.1, o.2.2.1, o.2.2.2.1, o.2.2.2.2.1⟩ (M H.size) (va_cwS nA o.2.2.2.2.1 (good_mc (pre := [.methodLink own index y, .static y, .initialized y.cls]) (fun w hw => ?_) w5) rfl rfl rfl hd (by rw [hR']; exact hR)) ⟨blind_mc, pre_mc o hAt hS⟩ rfl hlen hl.1 hst (lv_room hW) d (by rw [hR']; exact hf)
  simp only [List.mem_cons, List.not_mem_nil, or_false] at hw
  rcases hw with rfl | rfl | rfl <;> assumption
theorem g_callI {X : Cx} {cc : ByteArray} {own : String} {nL : Nat} {rm : Room} {ret : Option FieldType} {pc : Nat} {lv : List (Nat × Value)} {st sk : List Value} {h : Hp} {c n : Nat} {y : MethodName} {yc : ByteArray} {yl : Nat} {rmc : Room} {b index nA : Nat} {h1 : Hp} (As : List Value) (o : Ok X cc own nL rm ret) (M : MC (xl X) (xD X) (xy X) y yc yl none rmc (.ref b :: As) h none h1)
    (w1 : Cond.methodLink own index y ∈ GW) (w2 : Cond.instanceMethod y ∈ GW) (w4 : Cond.initialized y.cls ∈ GW) (w5 : Cond.code y yc yl none ∈ GW) (hi : y.name = "<init>") (hd : yok y nA) (hlen : As.length = nA) (hst : sk = As.reverse ++ .ref b :: st) (hW : (st.map fun v => v.category).sum ≤ 8) (hR : rmc.frames + 1 ≤ rm.frames ∧ 8 + (yl + 11) + rmc.locals ≤ rm.locals) (hf : c + rmc.cells ≤ rm.cells ∧ n + rmc.slots ≤ rm.slots) (d : decode cc pc = .ok (.invokespecial index, 3))
    (kk : G X nL (pc + 3) lv st h1 (c + rmc.cells) (n + rmc.slots)) : G X nL pc lv sk h c n := by
  refine g_run (v := none) (as := (Value.ref b :: As).toArray) o (fun H locs ls hAt hS hl => ?_) kk
  have hR' : xR X = rm := o.2.2.2.2.2.2.2.1
  exact va_runI (As := As) (rest := st) ⟨o.1, o.2.1, o.2.2.1, o.2.2.2.1, o.2.2.2.2.1⟩ (M H.size) (cwI nA o.2.2.2.2.1 (good_mc (pre := []) (fun w hw => by cases hw) w5) rfl rfl rfl (o.2.2.2.2.1 _ w4) (o.2.2.2.2.1 _ w1) (o.2.2.2.2.1 _ w2) hi hd (by rw [hR']; exact hR)) ⟨blind_mc, pre_mc o hAt hS⟩ rfl hlen hl.1 hst (lv_room hW) d (by rw [hR']; exact hf)
theorem g_objInit {X : Cx} {cc : ByteArray} {own : String} {nL : Nat} {rm : Room} {ret : Option FieldType} {pc : Nat} {lv : List (Nat × Value)} {st : List Value} {h : Hp} {c n a index : Nat} (o : Ok X cc own nL rm ret) (w1 : Cond.methodLink own index objectInit ∈ GW) (w2 : Cond.instanceMethod objectInit ∈ GW) (w3 : Cond.code objectInit ⟨#[0xb1]⟩ 1 none ∈ GW) (hR : 1 ≤ rm.frames ∧ (st.map fun v => v.category).sum + 12 ≤ rm.locals) (d : decode cc pc = .ok (.invokespecial index, 3)) (kk : G X nL (pc + 3) lv st h c n) : G X nL pc lv (.ref a :: st) h c n := by
  intro H locs ls hAt b l
  have hR' : xR X = rm := o.2.2.2.2.2.2.2.1
  refine W.objInit o.1 o.2.1 o.2.2.2.1 (o.2.2.2.2.1 _ w1) (o.2.2.2.2.1 _ w2) (o.2.2.2.2.1 _ w3) rfl (by rw [o.2.2.1]; exact l.1) rfl d (by rw [hR']; exact hR.1) (by rw [hR']; show 2 * 0 + _ + 12 ≤ _; rw [Nat.mul_zero, Nat.zero_add]; exact hR.2) ?_
  exact kk H locs ls hAt b l
/-- a new object of the class ci at a free address -/
def nwO (ci : Nat) (fs : List Value) (h : Hp) (a : Nat) : Hp := va_up h a (.inr (ci, fs))
def nwA (t : Nat) (x : vp_A) (h : Hp) (a : Nat) : Hp := va_up h a (.inl (t, x))
theorem g_new {X : Cx} {cc : ByteArray} {own : String} {nL : Nat} {rm : Room} {ret : Option FieldType} {pc : Nat} {lv : List (Nat × Value)} {st : List Value} {h : Hp} {c n index ci N : Nat} {C : String} {T : u_T} {ty : Nat → FieldType} (fs : List Value) (o : Ok X cc own nL rm ret) (cf : CF ci C T N ty) (w1 : Cond.classLink own index C ∈ GW) (w2 : Cond.instantiable C N ∈ GW) (w3 : Cond.initialized C ∈ GW) (hfs : ∀ j, j < N → defaultValue (ty j) = vp_V fs j) (hf : c + 1 ≤ rm.cells ∧ n + N ≤ rm.slots) (d : decode cc pc = .ok (.new index, 3))
    (kk : ∀ a : Nat, h a = dead → G X nL (pc + 3) lv (.ref a :: st) (nwO ci fs h a) (c + 1) (n + N)) : G X nL pc lv st h c n := by
  intro H locs ls hAt b l
  have hR' : xR X = rm := o.2.2.2.2.2.2.2.1
  obtain ⟨L, hP, hD, hL⟩ := hAt
  refine va_new (ci := ci) (fs := fs) o.1 o.2.1 o.2.2.2.2.1 cf.2.2.1 ty cf.2.2.2.1 o.2.2.2.1 (o.2.2.2.2.1 _ w1) (o.2.2.2.2.1 _ w2) (o.2.2.2.2.1 _ w3) o.2.2.2.2.2.1 hP hD b o.2.2.2.2.2.2.1 cf.2.1 hfs (by rw [hR']; exact hf.1) (by rw [hR']; exact hf.2) d (fun q H1 hP1 hD1 hS1 => ?_)
  have hq : q ∉ L := by
    intro hq
    obtain ⟨i, hi⟩ := va_pl_get (X := []) (f := tr (xy X) h) hq
    have hi' : (va_pl L (tr (xy X) h))[i]? = some (q, tr (xy X) h q) := hi
    have hlt := (List.getElem?_eq_some_iff.mp hi').1
    have h1 : (va_pl L (tr (xy X) h) ++ [(q, .inr (ci, fs))])[i]? = some (q, tr (xy X) h q) := by rw [List.getElem?_append_left hlt]; exact hi'
    have h2 : (va_pl L (tr (xy X) h) ++ [(q, .inr (ci, fs))])[(va_pl L (tr (xy X) h)).length]? = some (q, .inr (ci, fs)) := by rw [List.getElem?_append_right (Nat.le_refl _)]; simp
    have := hD1.1 _ _ _ _ h1 h2 rfl
    omega
  exact kk q (hL q hq) H1 locs ls (hq_push (cy := xy X) rfl hL hq hP1 hD1) hS1 l
theorem g_newa {X : Cx} {cc : ByteArray} {own : String} {nL : Nat} {rm : Room} {ret : Option FieldType} {pc : Nat} {lv : List (Nat × Value)} {st : List Value} {h : Hp} {c n N t : Nat} {z : Int32} {atype : ArrayType} {ty : FieldType} {x : vp_A} (o : Ok X cc own nL rm ret) (w1 : Cond.arrayClass ty ∈ GW) (hty : newarray.typeOf atype = ty) (ht : (tysL (xy X))[t]? = some (xy X t, ty)) (hra : ∀ U cA, va_RA U cA ty → U.vm.findClass ("[" ++ ty.toString) = some cA) (hx : ∀ cA : ClassId, vp_cell cA x = arrV cA N (fun _ => defaultValue ty)) (hn : ¬ z < 0) (hN : z.toNatClampNeg = N) (hby : N * componentBytes ty ≤ 536870912) (hf : c + 1 ≤ rm.cells ∧ n + N ≤ rm.slots) (d : decode cc pc = .ok (.newarray atype, 2))
    (kk : ∀ a : Nat, h a = dead → G X nL (pc + 2) lv (.ref a :: st) (nwA t x h a) (c + 1) (n + N)) : G X nL pc lv (.int z :: st) h c n := by
  intro H locs ls hAt b l
  have hR' : xR X = rm := o.2.2.2.2.2.2.2.1
  obtain ⟨L, hP, hD, hL⟩ := hAt
  subst hty
  refine va_newa o.1 o.2.1 (o.2.2.2.2.1 _ w1) rfl o.2.2.2.2.2.1 hP hD b o.2.2.2.2.2.2.1 hx hn hN hby (by rw [hR']; exact hf.1) (by rw [hR']; exact hf.2) d (fun q cA H1 hK1 hP1 hD1 hS1 => ?_)
  have hcA : cA = xy X t := by
    have g1 := hra _ _ (hK1.2 (tysL (xy X)).length (cA, newarray.typeOf atype) (by rw [List.getElem?_append_right (Nat.le_refl _)]; simp)).2
    have g2 := hra _ _ (o.2.2.2.2.2.1.2 t _ ht).2
    exact Option.some.inj (g1.symm.trans g2)
  subst hcA
  have hq : q ∉ L := by
    intro hq
    obtain ⟨i, hi⟩ := va_pl_get (X := []) (f := tr (xy X) h) hq
    have hi' : (va_pl L (tr (xy X) h))[i]? = some (q, tr (xy X) h q) := hi
    have hlt := (List.getElem?_eq_some_iff.mp hi').1
    have h1 : (va_pl L (tr (xy X) h) ++ [(q, .inl (xy X t, x))])[i]? = some (q, tr (xy X) h q) := by rw [List.getElem?_append_left hlt]; exact hi'
    have h2 : (va_pl L (tr (xy X) h) ++ [(q, .inl (xy X t, x))])[(va_pl L (tr (xy X) h)).length]? = some (q, .inl (xy X t, x)) := by rw [List.getElem?_append_right (Nat.le_refl _)]; simp
    have := hD1.1 _ _ _ _ h1 h2 rfl
    omega
  exact kk q (hL q hq) H1 locs ls (hq_push (cy := xy X) rfl hL hq hP1 hD1) hS1 l
