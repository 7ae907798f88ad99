section RowsC
variable {p : Program} {l : Launch} {e : Env} {R : Room} {s : State} {m : MethodId} {args : Array Value} {below : List Frame} {meth : Method} {c : Code} {H : Heap} {locs : List Loc} {cells slots : Nat} {Q : State → Prop}
variable {mc ms : Nat} {free : Addr → Prop} {A0 A1 : Nat → Prop} {H0 : Heap} {a : Array Value} {pc : Nat} {ls : Array Slot} {st0 rest : List Value}
theorem vx_catch {own name : String} {E : String} {ce : Cell} {q : Addr} (hown : s.vm.findClass own = some m.cls) (pre : List ExceptionTableEntry) (x : ExceptionTableEntry) (suf : List ExceptionTableEntry) (hsplit : c.exceptionTable.toList = pre ++ x :: suf)
    (hpass : ∀ z ∈ pre, covers z pc = false ∨ (z.catchType ≠ 0 ∧ ∃ nm : String, (Cond.classLink own z.catchType nm).before args s = true ∧ va_Nc E nm s)) (hx : covers x pc = true) (h0 : x.catchType ≠ 0)
    (hlink : (Cond.classLink own x.catchType name).before args s = true) (hcast : (Cond.castable E name).before args s = true) (hcell : H[q]? = some ce) (hv : ce.vm = .none) (hcl : s.vm.findClass E = some ce.cls)
    (kk : W p l e R s m args below meth c H locs cells slots Q (F0 m x.handlerPc ls [.ref q])) : vx_W p l e R s m args below meth c H locs cells slots Q (F0 m pc ls rest) q := by
  intro T hT X
  have hpl : e.platform.magicAccessors = ({} : Platform).magicAccessors := by rw [X.admits.platform]
  obtain ⟨c3, c4, hc3, hc4, hasg⟩ := Cond.castable_spec hcast
  cases Option.some.inj (hc3.symm.trans hcl)
  obtain ⟨c5, hc5, hcl5⟩ := Cond.classLink_spec hown hlink e.platform hpl
  cases Option.some.inj (hc4.symm.trans hc5)
  obtain ⟨vm', X', st⟩ := X.thenCaughtThrough q (g := F0 m pc ls rest) rfl (Steps.refl _) (by rw [hT]; exact hcell) (by rw [hv]; rfl) (by obtain ⟨k9, h9, -⟩ := Vm.findClass_spec hcl; exact ⟨k9, h9⟩) pre x suf hsplit
    (fun z hz => by
      rcases hpass z hz with h | ⟨hz0, nm, hl1, hn1⟩
      · exact Or.inl h
      · obtain ⟨c6, hc6, hcl6⟩ := Cond.classLink_spec hown hl1 e.platform hpl
        obtain ⟨a8, b8, h1, h2, h3⟩ := hn1
        cases Option.some.inj (h1.symm.trans hcl)
        cases Option.some.inj (h2.symm.trans hc6)
        exact Or.inr ⟨hz0, _, hcl6, h3⟩) hx (Or.inr ⟨h0, c4, hcl5, hasg⟩)
  obtain ⟨t, a1, b1⟩ := kk (T.setVm vm') hT X'
  exact ⟨t, st.trans a1, b1⟩
end RowsC
section CX
variable {X : Cx} {cc : ByteArray} {own : String} {nL : Nat} {rm : Room} {ret : Option FieldType} {pc : Nat} {lv : List (Nat × Value)} {st sk : List Value} {h : Hp} {c n : Nat} {y : MethodName} {yc : ByteArray} {yl : Nat} {yr : Option FieldType} {rmc : Room} {b ci index N nA : Nat} {C : String} {T : u_T} {ty : Nat → FieldType} {fs : List Value} {h1 : Hp} {r : Option Int32}
/-- a call that returns, or throws what the one row of this method's table takes -/
theorem g_callX (As : List Value) (hpc : Nat) {k1 k2 kc : Nat} (hTab : (xc X).exceptionTable.toList = [⟨k1, k2, hpc, kc⟩]) (hcov : covers ⟨k1, k2, hpc, kc⟩ pc = true) (hkc : kc ≠ 0) (o : Ok X cc own nL rm ret) (wc : Cond.classLink own kc vxE ∈ GW) (M : MX (xl X) (xD X) (xy X) y yc yl yr rmc (.ref b :: As) h r h1) (cf : CF ci C T N ty) (hb : h b = .inr (ci, fs))
    (w1 : Cond.methodLink own index y ∈ GW) (w2 : Cond.instanceMethod y ∈ GW) (w3 : Cond.selects C y y ∈ GW) (w4 : Cond.initialized C ∈ GW) (w5 : Cond.code y yc yl yr ∈ GW) (hy : y.cls = C) (hd : yok y nA) (hlen : As.length = nA) (hst : sk = As.reverse ++ .ref b :: st) (hW : (st.map fun v => v.category).sum ≤ 8) (hR : rmc.frames + 1 ≤ rm.frames ∧ 8 + (yl + 11) + rmc.locals ≤ rm.locals) (hf : c + rmc.cells ≤ rm.cells ∧ n + rmc.slots ≤ rm.slots) (d : decode cc pc = .ok (.invokevirtual index, 3))
    (kk : ∀ v : Int32, r = some v → G X nL (pc + 3) lv (.int v :: st) h1 (c + rmc.cells) (n + rmc.slots))
    (kx : r = none → ∀ q : Nat, G X nL hpc lv [.ref q] h1 (c + rmc.cells) (n + rmc.slots)) : G X nL pc lv sk h c n := by
  intro H locs ls hAt hS hl
  obtain ⟨L, j, hP, -, -, -, -, hj⟩ := hq_o hAt hb cf.1
  have hR' : xR X = rm := o.2.2.2.2.2.2.2.1
  have hup := up_mc o hAt hS
  have run : vx_Run (xp X) (xl X) (xe X) (xR X) (xs X) (xm X) (xa X) (xb X) (xt X) (xc X) H locs c n rmc.cells rmc.slots (F0 (xm X) pc ls sk) st (QX (xD X) (xy X) (Aof h H.size) r h1 (Value.ref b :: As).toArray) (XX (xD X) (xy X) (Aof h H.size) r h1) (Aof h H.size) := by
    refine vx_runV (As := As) (rest := st) (C := C) ⟨o.1, o.2.1, o.2.2.1, o.2.2.2.1, o.2.2.2.2.1⟩ (M H.size) (cwV nA o.2.2.2.2.1 (good_mc (pre := [.methodLink own index y, .instanceMethod y, .selects C y y, .initialized C]) (fun w hw => ?_) w5) rfl rfl rfl ⟨hy, hd⟩ (by rw [hR']; exact hR)) ⟨blind_mc, va_recv o.2.2.2.2.2.1 hP cf.2.1 hj, pre_mc o hAt hS⟩ rfl hlen hl.1 hst (lv_room hW) d (by rw [hR']; exact hf)
    simp only [List.mem_cons, List.not_mem_nil, or_false] at hw
    rcases hw with rfl | rfl | rfl | rfl <;> assumption
  have hcast : (Cond.castable vxE vxE).before (xa X) (xs X) = true := va_Nw.use rfl (ok_cst o).2.2.2.2.2.2.2.2.2.2.1
  intro T hT XX
  rcases run T hT XX with ⟨v', st₀, t, T', L', h0, X', hL, e1, e2, ⟨v, hr, hv, hA1, hz, hk⟩, goes⟩ | ⟨q, st₀, t, T', L', E, ce, h0, X', hL, e1, e2, ⟨hr, rfl, hA1, hz, hk⟩, hc1, hc2, hc3, goes⟩
  · cases hv
    rw [h0] at hz hk
    obtain ⟨t2, a1, b1⟩ := kk v hr T'.heap (locs ++ L') ls (by rw [e1]; exact hq_weak hA1 (fun q _ z => hup q z))
      ⟨Nat.le_trans hS.1 (by rw [e1]; exact hz), fun q g1 g2 => by rw [e1, hk q (Nat.lt_of_lt_of_le g1 hS.1) (fun z => g2 (hup q z))]; exact hS.2.1 q g1 g2, fun q hq => by
        rcases List.mem_append.mp hq with g | g
        · exact hS.2.2 q g
        · exact hup _ (hL q g)⟩ hl T' rfl X'
    exact ⟨t2, goes t2 a1, b1⟩
  · rw [h0] at hz hk
    have hW := vx_catch (Q := xQ X) (p := xp X) (l := xl X) (e := xe X) (R := xR X) (s := xs X) (m := xm X) (args := xa X) (below := xb X) (meth := xt X) (c := xc X) (H := T'.heap) (locs := locs ++ L') (cells := c + rmc.cells) (slots := n + rmc.slots) (pc := pc) (ls := ls) (rest := st) (q := q) (own := own) (name := vxE) (E := vxE) (ce := ce) o.2.2.2.1 [] ⟨k1, k2, hpc, kc⟩ [] hTab (fun z hz => by cases hz) hcov hkc (o.2.2.2.2.1 _ wc) hcast (by rw [e1]; exact hc1) hc2 hc3
      (kx hr q T'.heap (locs ++ L') ls (by rw [e1]; exact hq_weak hA1 (fun q _ z => hup q z))
        ⟨Nat.le_trans hS.1 (by rw [e1]; exact hz), fun q g1 g2 => by rw [e1, hk q (Nat.lt_of_lt_of_le g1 hS.1) (fun z => g2 (hup q z))]; exact hS.2.1 q g1 g2, fun q hq => by
          rcases List.mem_append.mp hq with g | g
          · exact hS.2.2 q g
          · exact hup _ (hL q g)⟩ hl)
    obtain ⟨t2, a1, b1⟩ := hW T' rfl X'
    exact ⟨t2, goes.trans a1, b1⟩
end CX
/-- the contract of a method with a table of its own -/
def MH (l : Launch) (D : va_G) (cy : Nat → ClassId) (y : MethodName) (cc : ByteArray) (nL : Nat) (ret : Option FieldType) (hh : List (Nat × Nat × Nat × Nat)) (rm : Room) (av : List Value) (h : Hp) (v : Option Value) (h' : Hp) : Prop :=
  ∀ sz : Nat, Met l y (.codeWith y cc nL ret hh :: GW) rm (va_Pc av (fun U => U.heap.size = sz ∧ At D cy (Aof h sz) h U.heap ∧ va_K D vwCl (tysL cy) U ∧ Cst D (Aof h sz) U)) (Qp D cy (Aof h sz) v h') rm.cells rm.slots (Aof h sz)
theorem mh_of {l : Launch} {D : va_G} {cy : Nat → ClassId} {y : MethodName} {cc : ByteArray} {nL : Nat} {ret : Option FieldType} {hh : List (Nat × Nat × Nat × Nat)} {rm : Room} {av : List Value} {h : Hp} {v : Option Value} {h' : Hp} (hy : plainName y.cls = true) (hn : (lg_sl av).length ≤ nL)
    (body : ∀ X : Cx, xl X = l → xD X = D → xy X = cy → (xc X).exceptionTable.toList = tableOf hh → Ok X cc y.cls nL rm ret → Rt X v h' rm.cells rm.slots → G X nL 0 (lv_args 0 av) [] h 0 0) : MH l D cy y cc nL ret hh rm av h v h' := by
  intro sz
  refine va_MetW (cc := cc) (maxL := nL) (ret := ret) (hh := hh) hy rfl ?_
  intro p e s m args below meth c s₁ B hml hv
  obtain ⟨rfl, hsz, hAt, hK, hC⟩ := hv
  have hts := atoms_spec (ws := .codeWith y cc nL ret hh :: GW) B.pre
  have hown : s.vm.findClass y.cls = some m.cls := findClass_of_methodNamed B.named
  have hTab := vx_table (x := y) B (hts _ List.mem_cons_self)
  subst hsz
  have hl := lv_entry av (n := nL) hn
  rw [lg_entry_eq]
  exact body (p, l, e, rm, s, m, av.toArray, below, meth, c, MQ below (Qp D cy (Aof h s.heap.size) v h') av.toArray s rm.cells rm.slots (Aof h s.heap.size), D, cy, Aof h s.heap.size) rfl rfl rfl hTab ⟨B.exec, B.bytes, hml, hown, fun w hw => hts w (List.mem_cons_of_mem _ hw), hK, fun q hq => Or.inr hq, rfl, B.notSynchronized, B.returns, hC⟩ rfl s.heap [] _ hAt va_S.rf hl
theorem g_callH {X : Cx} {cc : ByteArray} {own : String} {nL : Nat} {rm : Room} {ret : Option FieldType} {pc : Nat} {lv : List (Nat × Value)} {st sk : List Value} {h : Hp} {c n : Nat} {y : MethodName} {yc : ByteArray} {yl : Nat} {yr : Option FieldType} {hh : List (Nat × Nat × Nat × Nat)} {rmc : Room} {index nA : Nat} {v : Value} {h1 : Hp} (As : List Value) (o : Ok X cc own nL rm ret) (M : MH (xl X) (xD X) (xy X) y yc yl yr hh rmc As h (some v) h1)
    (w1 : Cond.methodLink own index y ∈ GW) (w2 : Cond.static y ∈ GW) (w4 : Cond.initialized y.cls ∈ GW) (w5 : Cond.codeWith y yc yl yr hh ∈ GW) (hd : yok y nA) (hlen : As.length = nA) (hst : sk = As.reverse ++ st) (hW : (st.map fun v => v.category).sum ≤ 8) (hR : rmc.frames + 1 ≤ rm.frames ∧ 8 + (yl + 11) + rmc.locals ≤ rm.locals) (hf : c + rmc.cells ≤ rm.cells ∧ n + rmc.slots ≤ rm.slots) (d : decode cc pc = .ok (.invokestatic index, 3))
    (kk : G X nL (pc + 3) lv (v :: st) h1 (c + rmc.cells) (n + rmc.slots)) : G X nL pc lv sk h c n := by
  refine g_run (as := As.toArray) (v := some v) o (fun H locs ls hAt hS hl => ?_) kk
  have hR' : xR X = rm := o.2.2.2.2.2.2.2.1
  refine vx_runSW (hh := hh) (As := As) (rest := st) ⟨o.1, o.2.1, o.2.2.1, o.2.2.2.1, o.2.2.2.2.1⟩ (M H.size) (vx_cwSW (hh := hh) nA o.2.2.2.2.1 (fun w hw => ?_) rfl rfl rfl hd (by rw [hR']; exact hR)) ⟨blind_mc, pre_mc o hAt hS⟩ rfl hlen hl.1 hst (lv_room hW) d (by rw [hR']; exact hf)
  rcases List.mem_append.mp hw with h' | h'
  · simp only [List.mem_cons, List.not_mem_nil, or_false] at h'
    have hm : w ∈ GW := by rcases h' with rfl | rfl | rfl <;> assumption
    exact ⟨hm, good_of_word (List.mem_filter.mp hm).2⟩
  · rcases List.mem_cons.mp h' with h' | h'
    · subst h'; exact ⟨w5, good_of_word (List.mem_filter.mp w5).2⟩
    · exact ⟨h', good_of_word (List.mem_filter.mp h').2⟩

theorem mh_port : Cond.codeWith yL_port cL_port 5 (some .int) [(0, 10, 13, 13)] ∈ GW := wt_6 (List.mem_of_getElem? (i := 8) (by decide +kernel)) rfl
theorem mh_net : Cond.codeWith yL_net cL_net 4 (some .int) [(0, 9, 12, 13)] ∈ GW := wt_6 (List.mem_of_getElem? (i := 91) (by decide +kernel)) rfl
theorem mh_lasts : Cond.codeWith yL_lasts cL_lasts 5 (some .int) [(0, 10, 13, 13)] ∈ GW := wt_6 (List.mem_of_getElem? (i := 98) (by decide +kernel)) rfl
def rmL_port : Room := { frames := 8, cells := 1, slots := 6, locals := 140 }
def fL_port (f0 : Nat) (a : Nat) (p0 : Int32) (p1 : Int32) (b : Nat) (h : Hp) : Option (Int32 × Hp) := (ckO 11 h a).bind fun _ => (fX11_port f0 a p0 p1 h).bind fun z => match z.1 with
  | some v => (stJ 2 z.2 b 0 v.toInt64).bind fun h2 => some (0, h2)
  | none => some (1, z.2)
theorem yo_L_port : yok yL_port 4 := ⟨by decide, by decide, by decide +kernel⟩
set_option maxRecDepth 100000 in
set_option maxHeartbeats 4000000 in
theorem mL_port {l : Launch} {D : va_G} {cy : Nat → ClassId} (hst : l.stackTraces = false) {f0 : Nat} {a : Nat} {p0 : Int32} {p1 : Int32} {b : Nat} {h : Hp} {r : Int32} {hz : Hp} (e : fL_port f0 a p0 p1 b h = some (r, hz)) : MH l D cy yL_port cL_port 5 (some .int) [(0, 10, 13, 13)] rmL_port [.ref a, .int p0, .int p1, .ref b] h (some (.int r)) hz := by
  refine mh_of (by decide) (Nat.le_of_ble_eq_true rfl) (fun X hl hD hy hTab o q => ?_)
  subst hl; subst hD; subst hy
  show G X 5 0 [(0, .ref a), (1, .int p0), (2, .int p1), (3, .ref b)] [] h 0 0
  unfold fL_port at e
  obtain ⟨fs, hk, e⟩ := ob e
  obtain ⟨⟨w, h1⟩, hf, e⟩ := ob e
  refine g_aload_n 3 o dL_port_0 rfl rfl ?_
  refine g_iconst (v := 0) o dL_port_1 (by decide) ?_
  refine g_aload_n 0 o dL_port_2 rfl rfl ?_
  refine g_iload_n 1 o dL_port_3 rfl rfl ?_
  refine g_iload_n 2 o dL_port_4 rfl rfl ?_
  refine g_callX [.int p0, .int p1] 13 hTab (by decide) (by decide) o mw_1048 (mxX11_port hst hf) cf11 (ckO_s hk) mw_1049 mw_1050 mw_1051 mw_1 mw_1052 rfl yo_X11_port rfl rfl (Nat.le_of_ble_eq_true rfl) ⟨by decide, by decide⟩ ⟨by decide, by decide⟩ dL_port_5 (fun v hv => ?_) (fun hv q9 => ?_)
  · subst hv
    obtain ⟨h2, hs, e⟩ := ob e
    refine g_i2l (x := v) o dL_port_8 ?_
    refine g_last o dL_port_9 hs ?_
    refine g_goto 17 o dL_port_10 (by decide) ?_
    refine g_iconst (v := 0) o dL_port_17 (by decide) ?_
    exact g_iret o dL_port_18 (rt_v q e)
  · subst hv
    refine g_astore [(4, .ref q9), (0, .ref a), (1, .int p0), (2, .int p1), (3, .ref b)] o dL_port_13 (by decide) rfl ?_
    refine g_iconst (v := 1) o dL_port_15 (by decide) ?_
    exact g_iret o dL_port_16 (rt_v q e)
def rmL_net : Room := { frames := 8, cells := 1, slots := 6, locals := 140 }
def fL_net (f0 : Nat) (a : Nat) (p0 : Int32) (b : Nat) (h : Hp) : Option (Int32 × Hp) := (ckO 11 h a).bind fun _ => (fX11_net f0 a p0 h).bind fun z => match z.1 with
  | some v => (stJ 2 z.2 b 0 v.toInt64).bind fun h2 => some (0, h2)
  | none => some (1, z.2)
theorem yo_L_net : yok yL_net 3 := ⟨by decide, by decide, by decide +kernel⟩
set_option maxRecDepth 100000 in
set_option maxHeartbeats 4000000 in
theorem mL_net {l : Launch} {D : va_G} {cy : Nat → ClassId} (hst : l.stackTraces = false) {f0 : Nat} {a : Nat} {p0 : Int32} {b : Nat} {h : Hp} {r : Int32} {hz : Hp} (e : fL_net f0 a p0 b h = some (r, hz)) : MH l D cy yL_net cL_net 4 (some .int) [(0, 9, 12, 13)] rmL_net [.ref a, .int p0, .ref b] h (some (.int r)) hz := by
  refine mh_of (by decide) (Nat.le_of_ble_eq_true rfl) (fun X hl hD hy hTab o q => ?_)
  subst hl; subst hD; subst hy
  show G X 4 0 [(0, .ref a), (1, .int p0), (2, .ref b)] [] h 0 0
  unfold fL_net at e
  obtain ⟨fs, hk, e⟩ := ob e
  obtain ⟨⟨w, h1⟩, hf, e⟩ := ob e
  refine g_aload_n 2 o dL_net_0 rfl rfl ?_
  refine g_iconst (v := 0) o dL_net_1 (by decide) ?_
  refine g_aload_n 0 o dL_net_2 rfl rfl ?_
  refine g_iload_n 1 o dL_net_3 rfl rfl ?_
  refine g_callX [.int p0] 12 hTab (by decide) (by decide) o mw_1048 (mxX11_net hst hf) cf11 (ckO_s hk) mw_1109 mw_1110 mw_1111 mw_1 mw_1112 rfl yo_X11_net rfl rfl (Nat.le_of_ble_eq_true rfl) ⟨by decide, by decide⟩ ⟨by decide, by decide⟩ dL_net_4 (fun v hv => ?_) (fun hv q9 => ?_)
  · subst hv
    obtain ⟨h2, hs, e⟩ := ob e
    refine g_i2l (x := v) o dL_net_7 ?_
    refine g_last o dL_net_8 hs ?_
    refine g_goto 15 o dL_net_9 (by decide) ?_
    refine g_iconst (v := 0) o dL_net_15 (by decide) ?_
    exact g_iret o dL_net_16 (rt_v q e)
  · subst hv
    refine g_astore_n [(3, .ref q9), (0, .ref a), (1, .int p0), (2, .ref b)] o dL_net_12 rfl (by decide) rfl ?_
    refine g_iconst (v := 1) o dL_net_13 (by decide) ?_
    exact g_iret o dL_net_14 (rt_v q e)
def rmL_lasts : Room := { frames := 8, cells := 1, slots := 6, locals := 140 }
def fL_lasts (f0 : Nat) (a : Nat) (p0 : Int32) (p1 : Int32) (b : Nat) (h : Hp) : Option (Int32 × Hp) := (ckO 11 h a).bind fun _ => (fX11_lasts f0 a p0 p1 h).bind fun z => match z.1 with
  | some v => (stJ 2 z.2 b 0 v.toInt64).bind fun h2 => some (0, h2)
  | none => some (1, z.2)
theorem yo_L_lasts : yok yL_lasts 4 := ⟨by decide, by decide, by decide +kernel⟩
set_option maxRecDepth 100000 in
set_option maxHeartbeats 4000000 in
theorem mL_lasts {l : Launch} {D : va_G} {cy : Nat → ClassId} (hst : l.stackTraces = false) {f0 : Nat} {a : Nat} {p0 : Int32} {p1 : Int32} {b : Nat} {h : Hp} {r : Int32} {hz : Hp} (e : fL_lasts f0 a p0 p1 b h = some (r, hz)) : MH l D cy yL_lasts cL_lasts 5 (some .int) [(0, 10, 13, 13)] rmL_lasts [.ref a, .int p0, .int p1, .ref b] h (some (.int r)) hz := by
  refine mh_of (by decide) (Nat.le_of_ble_eq_true rfl) (fun X hl hD hy hTab o q => ?_)
  subst hl; subst hD; subst hy
  show G X 5 0 [(0, .ref a), (1, .int p0), (2, .int p1), (3, .ref b)] [] h 0 0
  unfold fL_lasts at e
  obtain ⟨fs, hk, e⟩ := ob e
  obtain ⟨⟨w, h1⟩, hf, e⟩ := ob e
  refine g_aload_n 3 o dL_lasts_0 rfl rfl ?_
  refine g_iconst (v := 0) o dL_lasts_1 (by decide) ?_
  refine g_aload_n 0 o dL_lasts_2 rfl rfl ?_
  refine g_iload_n 1 o dL_lasts_3 rfl rfl ?_
  refine g_iload_n 2 o dL_lasts_4 rfl rfl ?_
  refine g_callX [.int p0, .int p1] 13 hTab (by decide) (by decide) o mw_1048 (mxX11_lasts hst hf) cf11 (ckO_s hk) mw_1115 mw_1116 mw_1117 mw_1 mw_1118 rfl yo_X11_lasts rfl rfl (Nat.le_of_ble_eq_true rfl) ⟨by decide, by decide⟩ ⟨by decide, by decide⟩ dL_lasts_5 (fun v hv => ?_) (fun hv q9 => ?_)
  · subst hv
    obtain ⟨h2, hs, e⟩ := ob e
    refine g_i2l (x := v) o dL_lasts_8 ?_
    refine g_last o dL_lasts_9 hs ?_
    refine g_goto 17 o dL_lasts_10 (by decide) ?_
    refine g_iconst (v := 0) o dL_lasts_17 (by decide) ?_
    exact g_iret o dL_lasts_18 (rt_v q e)
  · subst hv
    refine g_astore [(4, .ref q9), (0, .ref a), (1, .int p0), (2, .int p1), (3, .ref b)] o dL_lasts_13 (by decide) rfl ?_
    refine g_iconst (v := 1) o dL_lasts_15 (by decide) ?_
    exact g_iret o dL_lasts_16 (rt_v q e)
