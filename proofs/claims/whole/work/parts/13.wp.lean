/-! methods that make cells: their contract says of what they leave only what K says -/
def QpW (D : va_G) (cy : Nat → ClassId) (A : Nat → Prop) (P : Option Value → Hp → Prop) : Array Value → State → Outcome → State → Prop := fun _ st o t => ∃ (v : Option Value) (h' : Hp), o = .returned v ∧ P v h' ∧ At D cy A h' t.heap ∧ va_K D vwCl (tysL cy) t ∧ va_F A st t ∧ Cst D A t
def RtW (X : Cx) (P : Option Value → Hp → Prop) (mc ms : Nat) : Prop := xQ X = MQ (xb X) (QpW (xD X) (xy X) (xA X) P) (xa X) (xs X) mc ms (xA X)
def MW (l : Launch) (D : va_G) (cy : Nat → ClassId) (y : MethodName) (cc : ByteArray) (nL : Nat) (ret : Option FieldType) (rm : Room) (av : List Value) (h : Hp) (P : Option Value → Hp → Prop) : Prop :=
  ∀ sz : Nat, Met l y (.code y cc nL ret :: GW) rm (va_Pc av (fun U => U.heap.size = sz ∧ At D cy (Aof h sz) h U.heap ∧ va_K D vwCl (tysL cy) U ∧ Cst D (Aof h sz) U)) (QpW D cy (Aof h sz) P) rm.cells rm.slots (Aof h sz)
def pV (K : Hp → Prop) : Option Value → Hp → Prop := fun v h' => v = none ∧ K h'
def pI (K : Int32 → Hp → Prop) : Option Value → Hp → Prop := fun v h' => ∃ r : Int32, v = some (.int r) ∧ K r h'
theorem mw_of {l : Launch} {D : va_G} {cy : Nat → ClassId} {y : MethodName} {cc : ByteArray} {nL : Nat} {ret : Option FieldType} {rm : Room} {av : List Value} {h : Hp} {P : Option Value → Hp → Prop} (hy : plainName y.cls = true) (hn : (lg_sl av).length ≤ nL)
    (body : ∀ X : Cx, xl X = l → xD X = D → xy X = cy → (xt X).name = y.name → Ok X cc y.cls nL rm ret → RtW X P rm.cells rm.slots → G X nL 0 (lv_args 0 av) [] h 0 0) : MW l D cy y cc nL ret rm av h P := by
  intro sz
  refine Met.ofW (cc := cc) (maxL := nL) (ret := ret) hy rfl ?_
  intro p e s m args below meth c s₁ B hml hv
  obtain ⟨rfl, hsz, hAt, hK, hC⟩ := hv
  have hts := atoms_spec (ws := .code y cc nL ret :: GW) B.pre
  have hown : s.vm.findClass y.cls = some m.cls := findClass_of_methodNamed B.named
  have hin : meth.name = y.name := (name_of_methodNamed B.named B.method).1
  subst hsz
  have hl := lv_entry av (n := nL) hn
  rw [lg_entry_eq]
  exact body (p, l, e, rm, s, m, av.toArray, below, meth, c, MQ below (QpW D cy (Aof h s.heap.size) P) av.toArray s rm.cells rm.slots (Aof h s.heap.size), D, cy, Aof h s.heap.size) rfl rfl rfl hin ⟨B.exec, B.bytes, hml, hown, fun w hw => hts w (List.mem_cons_of_mem _ hw), hK, fun q hq => Or.inr hq, rfl, B.notSynchronized, B.returns, hC⟩ rfl s.heap [] _ hAt va_S.rf hl
theorem g_vretW {X : Cx} {cc : ByteArray} {own : String} {nL : Nat} {rm : Room} {pc : Nat} {lv : List (Nat × Value)} {h : Hp} {c n C N : Nat} {P : Option Value → Hp → Prop} (o : Ok X cc own nL rm none) (d : decode cc pc = .ok (.return_, 1)) (h1 : c ≤ C) (h2 : n ≤ N) (q : RtW X P C N) (hp : P none h) : G X nL pc lv [] h c n := by
  intro H locs ls hAt b l
  refine W.widen h1 h2 ?_
  rw [show xQ X = _ from q]
  exact W.vret o.1 o.2.1 o.2.2.2.2.2.2.2.2.2.1 (fun t ht hW => ⟨_, _, rfl, hp, by rw [ht]; exact hAt, va_K.moved hW.alike o.2.2.2.2.2.1, b.F ht, cst_move o.2.2.2.2.2.2.2.2.2.2 b hW ht⟩) b.2.2 d o.2.2.2.2.2.2.2.2.1
theorem g_zretW {X : Cx} {cc : ByteArray} {own : String} {nL : Nat} {rm : Room} {pc : Nat} {lv : List (Nat × Value)} {h : Hp} {c n C N : Nat} {v : Int32} {P : Option Value → Hp → Prop} (o : Ok X cc own nL rm (some .boolean)) (d : decode cc pc = .ok (.ireturn, 1)) (hv : v = 0 ∨ v = 1) (h1 : c ≤ C) (h2 : n ≤ N) (q : RtW X P C N) (hp : P (some (.int v)) h) : G X nL pc lv [.int v] h c n := by
  intro H locs ls hAt b l
  refine W.widen h1 h2 ?_
  rw [show xQ X = _ from q]
  exact W.zret o.1 o.2.1 o.2.2.2.2.2.2.2.2.2.1 (nar_z hv).1 (fun t ht hW => ⟨_, _, rfl, hp, by rw [ht]; exact hAt, va_K.moved hW.alike o.2.2.2.2.2.1, b.F ht, cst_move o.2.2.2.2.2.2.2.2.2.2 b hW ht⟩) b.2.2 d o.2.2.2.2.2.2.2.2.1
theorem g_runW {X : Cx} {cc : ByteArray} {own : String} {nL : Nat} {rm : Room} {ret : Option FieldType} {pc : Nat} {lv : List (Nat × Value)} {st sk : List Value} {h : Hp} {c n : Nat} {mc ms : Nat} {P : Option Value → Hp → Prop} {as : Array Value} (o : Ok X cc own nL rm ret)
    (run : ∀ (H : Heap) (locs : List Loc) (ls : Array Slot), At (xD X) (xy X) (xA X) h H → va_S (xA X) (xs X).heap H locs → lv_has ls nL lv → va_Run (xp X) (xl X) (xe X) (xR X) (xs X) (xm X) (xa X) (xb X) (xt X) (xc X) H locs c n mc ms (F0 (xm X) pc ls sk) st (QpW (xD X) (xy X) (Aof h H.size) P as) (Aof h H.size))
    (kk : ∀ (v : Option Value) (h1 : Hp), P v h1 → G X nL (pc + 3) lv (v.toList ++ st) h1 (c + mc) (n + ms)) : G X nL pc lv sk h c n := by
  intro H locs ls hAt hS hl T hT XX
  obtain ⟨v', st₀, t, T', L, h0, X', hL, e1, e2, ⟨v, h1, hv, hp, hA1, hK1, ⟨hz, hk⟩, -⟩, goes⟩ := run H locs ls hAt hS hl T hT XX
  cases hv
  rw [h0] at hz hk
  have hup := up_mc o hAt hS
  obtain ⟨t2, a1, b1⟩ := kk _ h1 hp T'.heap (locs ++ L) ls (by rw [e1]; exact hq_weak hA1 (fun q _ z => hup q z))
    ⟨Nat.le_trans hS.1 (by rw [e1]; exact hz), fun q g1 g2 => by rw [e1, hk q (Nat.lt_of_lt_of_le g1 hS.1) (fun z => g2 (hup q z))]; exact hS.2.1 q g1 g2, fun q hq => by
      rcases List.mem_append.mp hq with g | g
      · exact hS.2.2 q g
      · exact hup _ (hL q g)⟩ hl T' rfl X'
  exact ⟨t2, goes t2 a1, b1⟩
section CW
variable {X : Cx} {cc : ByteArray} {own : String} {nL : Nat} {rm : Room} {ret : Option FieldType} {pc : Nat} {lv : List (Nat × Value)} {st sk : List Value} {h : Hp} {c n : Nat} {y : MethodName} {yc : ByteArray} {yl : Nat} {yr : Option FieldType} {rmc : Room} {b ci index N nA : Nat} {C : String} {T : u_T} {ty : Nat → FieldType} {fs : List Value}
theorem g_callIW {K : Hp → Prop} (As : List Value) (o : Ok X cc own nL rm ret) (M : MW (xl X) (xD X) (xy X) y yc yl none rmc (.ref b :: As) h (pV K))
    (w1 : Cond.methodLink own index y ∈ GW) (w2 : Cond.instanceMethod y ∈ GW) (w4 : Cond.initialized y.cls ∈ GW) (w5 : Cond.code y yc yl none ∈ GW) (hi : y.name = "<init>") (hd : yok y nA) (hlen : As.length = nA) (hst : sk = As.reverse ++ .ref b :: st) (hW : (st.map fun v => v.category).sum ≤ 8) (hR : rmc.frames + 1 ≤ rm.frames ∧ 8 + (yl + 11) + rmc.locals ≤ rm.locals) (hf : c + rmc.cells ≤ rm.cells ∧ n + rmc.slots ≤ rm.slots) (d : decode cc pc = .ok (.invokespecial index, 3))
    (kk : ∀ h1 : Hp, K h1 → G X nL (pc + 3) lv st h1 (c + rmc.cells) (n + rmc.slots)) : G X nL pc lv sk h c n := by
  refine g_runW (as := (Value.ref b :: As).toArray) (P := pV K) o (fun H locs ls hAt hS hl => ?_) (fun v h1 hp => by obtain ⟨rfl, hp⟩ := hp; exact kk h1 hp)
  have hR' : xR X = rm := o.2.2.2.2.2.2.2.1
  exact va_runI (As := As) (rest := st) ⟨o.1, o.2.1, o.2.2.1, o.2.2.2.1, o.2.2.2.2.1⟩ (M H.size) (cwI nA o.2.2.2.2.1 (good_mc (pre := []) (fun w hw => by cases hw) w5) rfl rfl rfl (o.2.2.2.2.1 _ w4) (o.2.2.2.2.1 _ w1) (o.2.2.2.2.1 _ w2) hi hd (by rw [hR']; exact hR)) ⟨blind_mc, pre_mc o hAt hS⟩ rfl hlen hl.1 hst (lv_room hW) d (by rw [hR']; exact hf)
theorem g_callIN {K : Hp → Prop} (As : List Value) (o : Ok X cc own nL rm ret) (M : MW (xl X) (xD X) (xy X) y yc yl none rmc (.ref b :: As) h (pV K))
    (w1 : (own, index, y) ∈ nestM) (w2 : Cond.instanceMethod y ∈ GW) (w4 : Cond.initialized y.cls ∈ GW) (w5 : Cond.code y yc yl none ∈ GW) (hi : y.name = "<init>") (hd : yok y nA) (hlen : As.length = nA) (hst : sk = As.reverse ++ .ref b :: st) (hW : (st.map fun v => v.category).sum ≤ 8) (hR : rmc.frames + 1 ≤ rm.frames ∧ 8 + (yl + 11) + rmc.locals ≤ rm.locals) (hf : c + rmc.cells ≤ rm.cells ∧ n + rmc.slots ≤ rm.slots) (d : decode cc pc = .ok (.invokespecial index, 3))
    (kk : ∀ h1 : Hp, K h1 → G X nL (pc + 3) lv st h1 (c + rmc.cells) (n + rmc.slots)) : G X nL pc lv sk h c n := by
  refine g_runW (as := (Value.ref b :: As).toArray) (P := pV K) o (fun H locs ls hAt hS hl => ?_) (fun v h1 hp => by obtain ⟨rfl, hp⟩ := hp; exact kk h1 hp)
  have hR' : xR X = rm := o.2.2.2.2.2.2.2.1
  exact va_runIN (As := As) (rest := st) ⟨o.1, o.2.1, o.2.2.1, o.2.2.2.1, o.2.2.2.2.1⟩ (M H.size) ⟨va_cnB nA o.2.2.2.2.1 (good_mc (pre := []) (fun w hw => by cases hw) w5) rfl rfl rfl ((ok_cst o).2.2.2.2.2.2.2.1 _ w1) (o.2.2.2.2.1 _ w4) hd (by rw [hR']; exact hR), hi, o.2.2.2.2.1 _ w2⟩ ⟨blind_mc, pre_mc o hAt hS⟩ rfl hlen hl.1 hst (lv_room hW) d (by rw [hR']; exact hf)
end CW
theorem g_newq {X : Cx} {cc : ByteArray} {own : String} {nL : Nat} {rm : Room} {ret : Option FieldType} {pc : Nat} {lv : List (Nat × Value)} {st : List Value} {h : Hp} {c n N t index : Nat} {z : Int32} {C : String} (o : Ok X cc own nL rm ret) (w1 : Cond.classLink own index C ∈ GW) (w2 : va_AO C (xs X)) (ht : (tysL (xy X))[t]? = some (xy X t, .object C)) (hn : ¬ z < 0) (hN : z.toNatClampNeg = N) (hby : N * 4 ≤ 536870912) (hf : c + 1 ≤ rm.cells ∧ n + N ≤ rm.slots) (d : decode cc pc = .ok (.anewarray index, 3))
    (kk : ∀ a : Nat, h a = dead → G X nL (pc + 3) lv (.ref a :: st) (nwA t (N, .inr (.inr (.inr (.inr (fun _ => none))))) h a) (c + 1) (n + N)) : G X nL pc lv (.int z :: st) h c n := by
  intro H locs ls hAt b l
  have hR' : xR X = rm := o.2.2.2.2.2.2.2.1
  obtain ⟨L, hP, hD, hL⟩ := hAt
  refine va_newq o.1 o.2.1 o.2.2.2.1 (o.2.2.2.2.1 _ w1) w2 o.2.2.2.2.2.1 hP hD b o.2.2.2.2.2.2.1 hn hN hby (by rw [hR']; exact hf.1) (by rw [hR']; exact hf.2) d (fun q cA H1 hK1 hP1 hD1 hS1 => ?_)
  have hcA : cA = xy X t := by
    obtain ⟨_, _, -, -, -, g1⟩ := (hK1.2 (tysL (xy X)).length (cA, .object C) (by rw [List.getElem?_append_right (Nat.le_refl _)]; simp)).2
    obtain ⟨_, _, -, -, -, g2⟩ := (o.2.2.2.2.2.1.2 t _ ht).2
    exact Option.some.inj (g1.symm.trans g2)
  subst hcA
  have hq : q ∉ L := by
    intro hq
    obtain ⟨i, hi⟩ := va_pl_get (X := []) (f := tr (xy X) h) hq
    have hi' : (va_pl L (tr (xy X) h))[i]? = some (q, tr (xy X) h q) := hi
    have hlt := (List.getElem?_eq_some_iff.mp hi').1
    have h1 := hP1
    have h2 : (va_pl L (tr (xy X) h) ++ [(q, .inl (xy X t, (N, .inr (.inr (.inr (.inr (fun _ => none)))))))])[i]? = some (q, tr (xy X) h q) := by rw [List.getElem?_append_left hlt]; exact hi'
    have h3 : (va_pl L (tr (xy X) h) ++ [(q, .inl (xy X t, (N, .inr (.inr (.inr (.inr (fun _ => none)))))))])[(va_pl L (tr (xy X) h)).length]? = some (q, .inl (xy X t, (N, .inr (.inr (.inr (.inr (fun _ => none))))))) := by rw [List.getElem?_append_right (Nat.le_refl _)]; simp
    have := hD1.1 _ _ _ _ h2 h3 rfl
    omega
  exact kk q (hL q hq) H1 locs ls (hq_push (cy := xy X) rfl hL hq hP1 hD1) hS1 l
theorem g_wd {X : Cx} {nL pc : Nat} {lv : List (Nat × Value)} {st : List Value} {h : Hp} {c n c2 n2 : Nat} (h1 : c ≤ c2) (h2 : n ≤ n2) (kk : G X nL pc lv st h c2 n2) : G X nL pc lv st h c n := fun H locs ls a b l => W.widen h1 h2 (kk H locs ls a b l)
