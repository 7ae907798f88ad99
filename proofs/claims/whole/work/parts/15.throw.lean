/-! methods that may throw NoSuchElementException; the law's own that catch it -/
def QX (D : va_G) (cy : Nat → ClassId) (A : Nat → Prop) (r : Option Int32) (h' : Hp) : Array Value → State → Outcome → State → Prop := fun _ st o t => ∃ v : Int32, r = some v ∧ o = .returned (some (.int v)) ∧ At D cy A h' t.heap ∧ va_F A st t
def XX (D : va_G) (cy : Nat → ClassId) (A : Nat → Prop) (r : Option Int32) (h' : Hp) : String → State → State → Prop := fun E st t => r = none ∧ E = vxE ∧ At D cy A h' t.heap ∧ va_F A st t
def RtX (X : Cx) (r : Option Int32) (h' : Hp) (mc ms : Nat) : Prop := xQ X = vx_MQ (xb X) (QX (xD X) (xy X) (xA X) r h') (XX (xD X) (xy X) (xA X) r h') (xa X) (xs X) mc ms (xA X)
def MX (l : Launch) (D : va_G) (cy : Nat → ClassId) (y : MethodName) (cc : ByteArray) (nL : Nat) (ret : Option FieldType) (rm : Room) (av : List Value) (h : Hp) (r : Option Int32) (h' : Hp) : Prop :=
  ∀ sz : Nat, vx_Met l y (.code y cc nL ret :: GW) rm (va_Pc av (fun U => U.heap.size = sz ∧ At D cy (Aof h sz) h U.heap ∧ va_K D vwCl (tysL cy) U ∧ Cst D (Aof h sz) U)) (QX D cy (Aof h sz) r h') (XX D cy (Aof h sz) r h') rm.cells rm.slots (Aof h sz)
theorem mx_of {l : Launch} {D : va_G} {cy : Nat → ClassId} {y : MethodName} {cc : ByteArray} {nL : Nat} {ret : Option FieldType} {rm : Room} {av : List Value} {h : Hp} {r : Option Int32} {h' : Hp} (hy : plainName y.cls = true) (hn : (lg_sl av).length ≤ nL)
    (body : ∀ X : Cx, xl X = l → xD X = D → xy X = cy → (∀ x ∈ (xc X).exceptionTable.toList, False) → Ok X cc y.cls nL rm ret → RtX X r h' rm.cells rm.slots → G X nL 0 (lv_args 0 av) [] h 0 0) : MX l D cy y cc nL ret rm av h r h' := by
  intro sz
  refine vx_ofW (cc := cc) (maxL := nL) (ret := ret) hy rfl ?_
  intro p e s m args below meth c s₁ B hml hT hv
  obtain ⟨rfl, hsz, hAt, hK, hC⟩ := hv
  have hts := atoms_spec (ws := .code y cc nL ret :: GW) B.pre
  have hown : s.vm.findClass y.cls = some m.cls := findClass_of_methodNamed B.named
  subst hsz
  have hl := lv_entry av (n := nL) hn
  rw [lg_entry_eq]
  exact body (p, l, e, rm, s, m, av.toArray, below, meth, c, vx_MQ below (QX D cy (Aof h s.heap.size) r h') (XX D cy (Aof h s.heap.size) r h') av.toArray s rm.cells rm.slots (Aof h s.heap.size), D, cy, Aof h s.heap.size) rfl rfl rfl hT ⟨B.exec, B.bytes, hml, hown, fun w hw => hts w (List.mem_cons_of_mem _ hw), hK, fun q hq => Or.inr hq, rfl, B.notSynchronized, B.returns, hC⟩ rfl s.heap [] _ hAt va_S.rf hl
theorem rtx_v {X : Cx} {v : Int32} {r : Option Int32} {h hz : Hp} {c n : Nat} (q : RtX X r hz c n) (e : some (some v, h) = some (r, hz)) : RtX X (some v) h c n := by cases e; exact q
theorem rtx_t {X : Cx} {r : Option Int32} {h hz : Hp} {c n : Nat} (q : RtX X r hz c n) (e : some ((none : Option Int32), h) = some (r, hz)) : RtX X none h c n := by cases e; exact q
theorem g_iretX {X : Cx} {cc : ByteArray} {own : String} {nL : Nat} {rm : Room} {pc : Nat} {lv : List (Nat × Value)} {h : Hp} {c n C N : Nat} {v : Int32} (o : Ok X cc own nL rm (some .int)) (d : decode cc pc = .ok (.ireturn, 1)) (h1 : c ≤ C) (h2 : n ≤ N) (q : RtX X (some v) h C N) : G X nL pc lv [.int v] h c n := by
  intro H locs ls hAt b l
  refine W.widen h1 h2 ?_
  rw [show xQ X = _ from q]
  exact vx_ret (W.iret o.1 o.2.1 o.2.2.2.2.2.2.2.2.2.1 (fun t ht hW => ⟨v, rfl, rfl, by rw [ht]; exact hAt, b.F ht⟩) b.2.2 d o.2.2.2.2.2.2.2.2.1)
theorem hq_kept {D : va_G} {cy : Nat → ClassId} {A : Nat → Prop} {h : Hp} {H H1 : Heap} (hAt : At D cy A h H) (hk : ∀ q : Nat, q < H.size → H1[q]? = H[q]?) : At D cy A h H1 := by
  obtain ⟨L, hP, hD, hL⟩ := hAt
  exact ⟨L, hP.kept (fun k q hq => hk q.1 (hP k q hq).lt), hD, hL⟩
theorem g_throwX {X : Cx} {cc : ByteArray} {nL : Nat} {rm : Room} {ret : Option FieldType} {pc : Nat} {lv : List (Nat × Value)} {st : List Value} {h : Hp} {c n C N : Nat} (hT : ∀ x ∈ (xc X).exceptionTable.toList, False) (hst : (xl X).stackTraces = false) (o : Ok X cc RX11 nL rm ret) (w1 : Cond.classLink RX11 208 vxE ∈ GW) (w2 : Cond.initialized vxE ∈ GW) (d0 : decode cc pc = .ok (.new 208, 3)) (d3 : decode cc (pc + 3) = .ok (.dup, 1)) (d4 : decode cc (pc + 4) = .ok (.invokespecial 210, 3)) (d7 : decode cc (pc + 7) = .ok (.athrow, 1))
    (hR : 5 < rm.frames ∧ (st.map fun v => v.category).sum + 81 ≤ rm.locals ∧ c + 1 ≤ rm.cells ∧ n + 6 ≤ rm.slots) (hc : c + 1 ≤ C) (hn : n + 6 ≤ N) (q : RtX X none h C N) : G X nL pc lv st h c n := by
  intro H locs ls hAt b l
  have hR' : xR X = rm := o.2.2.2.2.2.2.2.1
  have hN := (ok_cst o).2.2.2.2.2.2.2.2
  rw [show xQ X = _ from q]
  refine vx_throw0 (own := RX11) (cls := vxE) (names := ["java/lang/RuntimeException", "java/lang/Exception"]) (ik := 208) (ic := 210) (A := xA X) o.1 o.2.1 hst o.2.2.2.1 (by decide +kernel) (by decide +kernel) (o.2.2.2.2.1 _ w1) (o.2.2.2.2.1 _ w2) ?_ ?_ hN.1 hN.2.1 b (by rw [o.2.2.1]; exact l.1) d0 d3 d4 d7 (fun x hx => (hT x hx).elim) (by rw [hR']; exact hR.1) (by rw [hR']; exact hR.2.1) (by rw [hR']; exact hR.2.2.1) (by rw [hR']; exact hR.2.2.2) o.2.2.2.2.2.2.2.2.1 ?_ b.2.2 hc hn
  · refine vx_hat (B := vxD.map .declares ++ [.castable vxE vxE]) (fun w hw => o.2.2.2.2.1 w (vx_in w hw)) (fun w hw => ?_) (fun w hw => ?_)
    · have := vx_bad
      rw [← this]; exact hw
    · rcases List.mem_append.mp hw with h' | h'
      · obtain ⟨y, hy, rfl⟩ := List.mem_map.mp h'
        exact va_Nw.use rfl (hN.2.2.2.1 y hy)
      · rw [List.mem_singleton.mp h']; exact va_Nw.use rfl hN.2.2.1
  · decide +kernel
  · intro t ht hz hk
    exact ⟨rfl, rfl, hq_kept hAt hk, ⟨Nat.le_trans b.1 hz, fun q h1 h2 => by rw [hk q (Nat.lt_of_lt_of_le h1 b.1)]; exact b.2.1 q h1 h2⟩⟩
