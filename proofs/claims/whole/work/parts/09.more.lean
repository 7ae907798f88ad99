/-! more rows over G: what a generated walk uses -/
theorem mc_of2 {l : Launch} {D : va_G} {cy : Nat → ClassId} {y : MethodName} {cc : ByteArray} {nL : Nat} {ret : Option FieldType} {rm : Room} {av : List Value} {h : Hp} {v : Option Value} {h' : Hp} (hy : plainName y.cls = true) (hn : (lg_sl av).length ≤ nL)
    (body : ∀ X : Cx, xl X = l → xD X = D → xy X = cy → (xt X).name = y.name → Ok X cc y.cls nL rm ret → Rt X v h' rm.cells rm.slots → G X nL 0 (lv_args 0 av) [] h 0 0) : MC l D cy y cc nL ret rm av h v h' := by
  intro sz
  refine Met.ofW (cc := cc) (maxL := nL) (ret := ret) hy rfl ?_
  intro p e s m args below meth c s₁ B hml hv
  obtain ⟨rfl, hsz, hAt, hK, hC⟩ := hv
  have hts := atoms_spec (ws := .code y cc nL ret :: GW) B.pre
  have hown : s.vm.findClass y.cls = some m.cls := findClass_of_methodNamed B.named
  have hin : meth.name = y.name := (name_of_methodNamed B.named B.method).1
  subst hsz
  have hl := lv_entry av (n := nL) hn
  rw [lg_entry_eq]
  exact body (p, l, e, rm, s, m, av.toArray, below, meth, c, MQ below (Qp D cy (Aof h s.heap.size) v h') av.toArray s rm.cells rm.slots (Aof h s.heap.size), D, cy, Aof h s.heap.size) rfl rfl rfl hin ⟨B.exec, B.bytes, hml, hown, fun w hw => hts w (List.mem_cons_of_mem _ hw), hK, fun q hq => Or.inr hq, rfl, B.notSynchronized, B.returns, hC⟩ rfl s.heap [] _ hAt va_S.rf hl
def nz (y : Int32) : Option Unit := if y = 0 then none else some ()
theorem nz_s {y : Int32} {u : Unit} (q : nz y = some u) : ¬ y = 0 := by
  unfold nz at q
  split at q
  · cases q
  · assumption
def ckO (ci : Nat) (h : Hp) (a : Nat) : Option (List Value) := match h a with
  | .inr (c, fs) => if c = ci then some fs else none
  | .inl _ => none
theorem ckO_s {ci : Nat} {h : Hp} {a : Nat} {fs : List Value} (q : ckO ci h a = some fs) : h a = .inr (ci, fs) := by
  unfold ckO at q
  split at q
  · next c fs' e => split at q
                    · next hc => subst hc; cases q; exact e
                    · cases q
  · cases q
def ob2 {α β : Type} (x : Option (α × Hp)) (f : α → Hp → Option β) : Option β := x.bind fun z => f z.1 z.2
theorem ob2_s {α β : Type} {x : Option (α × Hp)} {f : α → Hp → Option β} {y : β} (e : ob2 x f = some y) : ∃ a h, x = some (a, h) ∧ f a h = some y := by
  obtain ⟨⟨a, h⟩, e1, e2⟩ := ob e
  exact ⟨a, h, e1, e2⟩
def zr (v : Int32) (h : Hp) : Option (Int32 × Hp) := if v = 0 ∨ v = 1 then some (v, h) else none
theorem zr_s {v : Int32} {h : Hp} {y : Int32 × Hp} (e : zr v h = some y) : (v = 0 ∨ v = 1) ∧ some (v, h) = some y := by
  unfold zr at e
  split at e
  · next z => exact ⟨z, e⟩
  · cases e
theorem rt_v {X : Cx} {v r : Int32} {h h9 : Hp} {c n : Nat} (q : Rt X (some (.int r)) h9 c n) (e : some (v, h) = some (r, h9)) : Rt X (some (.int v)) h c n := by cases e; exact q
theorem rt_l {X : Cx} {v r : Int64} {h h9 : Hp} {c n : Nat} (q : Rt X (some (.long r)) h9 c n) (e : some (v, h) = some (r, h9)) : Rt X (some (.long v)) h c n := by cases e; exact q
theorem rt_0 {X : Cx} {h h9 : Hp} {c n : Nat} (q : Rt X none h9 c n) (e : some h = some h9) : Rt X none h c n := by cases e; exact q
section CZ
variable {X : Cx} {cc : ByteArray} {own : String} {nL : Nat} {rm : Room} {ret : Option FieldType} {pc : Nat} {lv : List (Nat × Value)} {st sk : List Value} {h : Hp} {c n : Nat} {y : MethodName} {yc : ByteArray} {yl : Nat} {yr : Option FieldType} {rmc : Room} {b ci index N nA : Nat} {C : String} {T : u_T} {ty : Nat → FieldType} {fs : List Value} {v : Value} {h1 : Hp}
theorem g_callVv (As : List Value) (o : Ok X cc own nL rm ret) (M : MC (xl X) (xD X) (xy X) y yc yl yr rmc (.ref b :: As) h (some v) h1) (cf : CF ci C T N ty) (hb : h b = .inr (ci, fs))
    (w1 : Cond.methodLink own index y ∈ GW) (w2 : Cond.instanceMethod y ∈ GW) (w3 : Cond.selects C y y ∈ GW) (w4 : Cond.initialized C ∈ GW) (w5 : Cond.code y yc yl yr ∈ GW) (hy : y.cls = C) (hd : yok y nA) (hlen : As.length = nA) (hst : sk = As.reverse ++ .ref b :: st) (hW : (st.map fun v => v.category).sum ≤ 8) (hR : rmc.frames + 1 ≤ rm.frames ∧ 8 + (yl + 11) + rmc.locals ≤ rm.locals) (hz : rmc.cells = 0 ∧ rmc.slots = 0) (d : decode cc pc = .ok (.invokevirtual index, 3)) (hf : c ≤ rm.cells ∧ n ≤ rm.slots)
    (kk : G X nL (pc + 3) lv (v :: st) h1 c n) : G X nL pc lv sk h c n :=
  g_callV As o M cf hb w1 w2 w3 w4 w5 hy hd hlen hst hW hR (by rw [hz.1, hz.2]; exact hf) d (by rw [hz.1, hz.2]; exact kk)
theorem g_callV0 (As : List Value) (o : Ok X cc own nL rm ret) (M : MC (xl X) (xD X) (xy X) y yc yl yr rmc (.ref b :: As) h none h1) (cf : CF ci C T N ty) (hb : h b = .inr (ci, fs))
    (w1 : Cond.methodLink own index y ∈ GW) (w2 : Cond.instanceMethod y ∈ GW) (w3 : Cond.selects C y y ∈ GW) (w4 : Cond.initialized C ∈ GW) (w5 : Cond.code y yc yl yr ∈ GW) (hy : y.cls = C) (hd : yok y nA) (hlen : As.length = nA) (hst : sk = As.reverse ++ .ref b :: st) (hW : (st.map fun v => v.category).sum ≤ 8) (hR : rmc.frames + 1 ≤ rm.frames ∧ 8 + (yl + 11) + rmc.locals ≤ rm.locals) (hz : rmc.cells = 0 ∧ rmc.slots = 0) (d : decode cc pc = .ok (.invokevirtual index, 3)) (hf : c ≤ rm.cells ∧ n ≤ rm.slots)
    (kk : G X nL (pc + 3) lv st h1 c n) : G X nL pc lv sk h c n :=
  g_callV As o M cf hb w1 w2 w3 w4 w5 hy hd hlen hst hW hR (by rw [hz.1, hz.2]; exact hf) d (by rw [hz.1, hz.2]; exact kk)
theorem g_callSv (As : List Value) (o : Ok X cc own nL rm ret) (M : MC (xl X) (xD X) (xy X) y yc yl yr rmc As h (some v) h1)
    (w1 : Cond.methodLink own index y ∈ GW) (w2 : Cond.static y ∈ GW) (w4 : Cond.initialized y.cls ∈ GW) (w5 : Cond.code y yc yl yr ∈ GW) (hd : yok y nA) (hlen : As.length = nA) (hst : sk = As.reverse ++ st) (hW : (st.map fun v => v.category).sum ≤ 8) (hR : rmc.frames + 1 ≤ rm.frames ∧ 8 + (yl + 11) + rmc.locals ≤ rm.locals) (hz : rmc.cells = 0 ∧ rmc.slots = 0) (d : decode cc pc = .ok (.invokestatic index, 3)) (hf : c ≤ rm.cells ∧ n ≤ rm.slots)
    (kk : G X nL (pc + 3) lv (v :: st) h1 c n) : G X nL pc lv sk h c n :=
  g_callS As o M w1 w2 w4 w5 hd hlen hst hW hR (by rw [hz.1, hz.2]; exact hf) d (by rw [hz.1, hz.2]; exact kk)
theorem g_callS0 (As : List Value) (o : Ok X cc own nL rm ret) (M : MC (xl X) (xD X) (xy X) y yc yl yr rmc As h none h1)
    (w1 : Cond.methodLink own index y ∈ GW) (w2 : Cond.static y ∈ GW) (w4 : Cond.initialized y.cls ∈ GW) (w5 : Cond.code y yc yl yr ∈ GW) (hd : yok y nA) (hlen : As.length = nA) (hst : sk = As.reverse ++ st) (hW : (st.map fun v => v.category).sum ≤ 8) (hR : rmc.frames + 1 ≤ rm.frames ∧ 8 + (yl + 11) + rmc.locals ≤ rm.locals) (hz : rmc.cells = 0 ∧ rmc.slots = 0) (d : decode cc pc = .ok (.invokestatic index, 3)) (hf : c ≤ rm.cells ∧ n ≤ rm.slots)
    (kk : G X nL (pc + 3) lv st h1 c n) : G X nL pc lv sk h c n :=
  g_callS As o M w1 w2 w4 w5 hd hlen hst hW hR (by rw [hz.1, hz.2]; exact hf) d (by rw [hz.1, hz.2]; exact kk)
end CZ
theorem tb_ne {x : Int32} (v : Int32) (k : Int) (hv : v.toInt = k) (h : ¬ x = v) : x.toInt ≠ k := fun q => h (Int32.toInt_inj.mp (q.trans hv.symm))
theorem g_tabAt {X : Cx} {cc : ByteArray} {own : String} {nL : Nat} {rm : Room} {ret : Option FieldType} {pc : Nat} {lv : List (Nat × Value)} {st : List Value} {h : Hp} {c n : Nat} {x : Int32} {dflt lo hi : Int} {offs : Array Int} {len : Nat} (v : Int32) (tgt : Nat) (o : Ok X cc own nL rm ret) (d : decode cc pc = .ok (.tableswitch dflt lo hi offs, len)) (hx : x = v) (h1 : ¬ v.toInt < lo) (h2 : ¬ hi < v.toInt) (ho : (offs[(v.toInt - lo).toNat]?).isSome = true) (ht : (offs[(v.toInt - lo).toNat]?).map (fun off => (pc : Int) + off) = some (tgt : Int)) (kk : G X nL tgt lv st h c n) : G X nL pc lv (.int x :: st) h c n := by
  subst hx
  cases ho' : offs[(x.toInt - lo).toNat]? with
  | none => rw [ho'] at ho; cases ho
  | some off =>
    rw [ho'] at ht
    exact g_tabIn tgt o d h1 h2 ho' (Option.some.inj ht) kk
theorem g_aldQ {X : Cx} {cc : ByteArray} {own : String} {nL : Nat} {rm : Room} {ret : Option FieldType} {pc : Nat} {lv : List (Nat × Value)} {st : List Value} {h : Hp} {c n a t : Nat} {C : String} {i : Int32} {v : Option Nat} (ht : (tysL (xy X))[t]? = some (xy X t, .object C)) (o : Ok X cc own nL rm ret) (d : decode cc pc = .ok (.aaload, 1)) (q : ldQ t h a i = some v) (kk : G X nL (pc + 1) lv (va_rf v :: st) h c n) : G X nL pc lv (.int i :: .ref a :: st) h c n := by
  intro H locs ls hAt b l
  obtain ⟨⟨z, f⟩, q1, q2⟩ := ob q
  obtain ⟨q3, rfl⟩ := oi q2
  obtain ⟨L, j, hP, -, -, -, -, hj⟩ := hq_a hAt (alQ_s q1)
  exact va_aldq o.1 o.2.1 o.2.2.2.2.2.1 hP j t hj ht (inB_s q3) d (kk H locs ls hAt b l)
theorem g_aldN {X : Cx} {cc : ByteArray} {own : String} {nL : Nat} {rm : Room} {ret : Option FieldType} {pc : Nat} {lv : List (Nat × Value)} {st : List Value} {h : Hp} {c n a t v : Nat} {C : String} {i : Int32} (ht : (tysL (xy X))[t]? = some (xy X t, .object C)) (o : Ok X cc own nL rm ret) (d : decode cc pc = .ok (.aaload, 1)) (q : ldN t h a i = some v) (kk : G X nL (pc + 1) lv (.ref v :: st) h c n) : G X nL pc lv (.int i :: .ref a :: st) h c n := by
  obtain ⟨w, q1, q2⟩ := ob q
  cases q2
  exact g_aldQ ht o d q1 kk
theorem g_astQ {X : Cx} {cc : ByteArray} {own : String} {nL : Nat} {rm : Room} {ret : Option FieldType} {pc : Nat} {lv : List (Nat × Value)} {st : List Value} {h : Hp} {c n a t v ci N : Nat} {C : String} {T : u_T} {ty : Nat → FieldType} {i : Int32} {fs : List Value} {h1 : Hp} (o : Ok X cc own nL rm ret) (cf : CF ci C T N ty) (ht : (tysL (xy X))[t]? = some (xy X t, .object C)) (d : decode cc pc = .ok (.aastore, 1)) (hv : h v = .inr (ci, fs)) (q : stQ t h a i (some v) = some h1) (kk : G X nL (pc + 1) lv st h1 c n) : G X nL pc lv (.ref v :: .int i :: .ref a :: st) h c n := by
  intro H locs ls hAt b l
  obtain ⟨⟨z, f⟩, q1, q2⟩ := ob q
  obtain ⟨q3, rfl⟩ := oi q2
  obtain ⟨L, j, hP, hD, hL, ha, hj0, hj⟩ := hq_a hAt (alQ_s q1)
  have hvL : v ∈ L := hq_in (D := xD X) (cy := xy X) (A := xA X) (H := H) hL (by rw [hv]; exact hq_nd_o cf.1)
  obtain ⟨k, hk⟩ := va_pl_get (X := []) (f := tr (xy X) h) hvL
  have hk2 : (va_pl L (tr (xy X) h))[k]? = some (v, .inr (ci, fs)) := by rw [show (va_pl L (tr (xy X) h))[k]? = some (v, tr (xy X) h v) from hk]; simp [tr, trE, hv]
  exact va_astq o.1 o.2.1 o.2.2.2.2.2.1 hP hD b j t k ci hj (r := (C, T, N)) ht hk2 cf.2.1 (inB_s q3) d (fun H1 locs1 hP1 hD1 hS1 => kk H1 locs1 ls (hq_set (cy := xy X) rfl hD hL ha hj0 hP1 hD1) hS1 l)
theorem g_ifnullQ {X : Cx} {cc : ByteArray} {own : String} {nL : Nat} {rm : Room} {ret : Option FieldType} {pc : Nat} {lv : List (Nat × Value)} {st : List Value} {h : Hp} {c n : Nat} {r : Option Nat} {off : Int} (tgt : Nat) (o : Ok X cc own nL rm ret) (d : decode cc pc = .ok (.ifnull off, 3)) (ht : (pc : Int) + off = (tgt : Int)) (kt : r = none → G X nL tgt lv st h c n) (kf : ¬ r = none → G X nL (pc + 3) lv st h c n) : G X nL pc lv (va_rf r :: st) h c n := by
  intro H locs ls a b l
  cases r with
  | none => exact lv_ifnullN o.1 o.2.1 d ht (kt rfl H locs ls a b l)
  | some x => exact lv_ifnull o.1 o.2.1 d (kf (fun q => by cases q) H locs ls a b l)
theorem g_ifnonnullQ {X : Cx} {cc : ByteArray} {own : String} {nL : Nat} {rm : Room} {ret : Option FieldType} {pc : Nat} {lv : List (Nat × Value)} {st : List Value} {h : Hp} {c n : Nat} {r : Option Nat} {off : Int} (tgt : Nat) (o : Ok X cc own nL rm ret) (d : decode cc pc = .ok (.ifnonnull off, 3)) (ht : (pc : Int) + off = (tgt : Int)) (kf : r = none → G X nL (pc + 3) lv st h c n) (kt : ¬ r = none → G X nL tgt lv st h c n) : G X nL pc lv (va_rf r :: st) h c n := by
  intro H locs ls a b l
  cases r with
  | none => exact lv_ifnonnullN o.1 o.2.1 d (kf rfl H locs ls a b l)
  | some x => exact lv_ifnonnull o.1 o.2.1 d ht (kt (fun q => by cases q) H locs ls a b l)
/-! System.arraycopy of ints and longs -/
def cpOk (sp dp n : Int32) (n0 n1 : Nat) : Bool := !(decide (sp < 0)) && !(decide (dp < 0)) && !(decide (n < 0)) && decide (sp.toNatClampNeg + n.toNatClampNeg ≤ n0) && decide (dp.toNatClampNeg + n.toNatClampNeg ≤ n1)
theorem cpOk_s {sp dp n : Int32} {n0 n1 : Nat} (q : cpOk sp dp n n0 n1 = true) : ¬ sp < 0 ∧ ¬ dp < 0 ∧ ¬ n < 0 ∧ sp.toNatClampNeg + n.toNatClampNeg ≤ n0 ∧ dp.toNatClampNeg + n.toNatClampNeg ≤ n1 := by
  unfold cpOk at q
  simp only [Bool.and_eq_true, Bool.not_eq_true', decide_eq_false_iff_not, decide_eq_true_eq] at q
  exact ⟨q.1.1.1.1, q.1.1.1.2, q.1.1.2, q.1.2, q.2⟩
def cpI (t : Nat) (h : Hp) (a0 : Nat) (sp : Int32) (a : Nat) (dp n : Int32) : Option Hp := (alI t h a0).bind fun x => (alI t h a).bind fun y => if cpOk sp dp n x.1 y.1 then some (va_up h a (.inl (t, (y.1, .inl (va_cpy x.2 y.2 sp.toNatClampNeg dp.toNatClampNeg n.toNatClampNeg))))) else none
def cpJ (t : Nat) (h : Hp) (a0 : Nat) (sp : Int32) (a : Nat) (dp n : Int32) : Option Hp := (alJ t h a0).bind fun x => (alJ t h a).bind fun y => if cpOk sp dp n x.1 y.1 then some (va_up h a (.inl (t, (y.1, .inr (.inl (va_cpy x.2 y.2 sp.toNatClampNeg dp.toNatClampNeg n.toNatClampNeg)))))) else none
theorem g_cpI {X : Cx} {cc : ByteArray} {own : String} {nL : Nat} {rm : Room} {ret : Option FieldType} {pc : Nat} {lv : List (Nat × Value)} {st : List Value} {h : Hp} {c n a a0 t index : Nat} {sp dp ln : Int32} {h1 : Hp} {ty : FieldType} (ht : (tysL (xy X))[t]? = some (xy X t, ty)) (hpr : refKind ty = false) (hfit : ∀ x : Int32, fits ty (.int x) = true) (o : Ok X cc own nL rm ret) (w1 : Cond.methodLink own index arraycopyName ∈ GW) (w2 : Cond.native arraycopyName ∈ GW) (w3 : Cond.static arraycopyName ∈ GW) (w4 : Cond.initialized "java/lang/System" ∈ GW) (hR : 1 ≤ rm.frames ∧ (st.map fun v => v.category).sum + (nativeFrameWords "java/lang/System" "arraycopy" 5 + 11) ≤ rm.locals) (d : decode cc pc = .ok (.invokestatic index, 3)) (q : cpI t h a0 sp a dp ln = some h1) (kk : G X nL (pc + 3) lv st h1 c n) : G X nL pc lv (.int ln :: .int dp :: .ref a :: .int sp :: .ref a0 :: st) h c n := by
  intro H locs ls hAt b l
  have hR' : xR X = rm := o.2.2.2.2.2.2.2.1
  obtain ⟨⟨z, f⟩, q1, q2⟩ := ob q
  obtain ⟨⟨z2, g⟩, q3, q4⟩ := ob q2
  obtain ⟨q5, rfl⟩ := oi q4
  obtain ⟨h1, h2, h3, h4, h5⟩ := cpOk_s q5
  obtain ⟨L, j, hP, hD, hL, ha, hj0, hj⟩ := hq_a hAt (alI_s q3)
  have h0L : a0 ∈ L := hq_in (D := xD X) (cy := xy X) (A := xA X) (H := H) hL (by rw [alI_s q1]; exact hq_nd_a)
  obtain ⟨k, hk⟩ := va_pl_get (X := []) (f := tr (xy X) h) h0L
  have hk2 : (va_pl L (tr (xy X) h))[k]? = some (a0, .inl (xy X t, (z, .inl f))) := by rw [show (va_pl L (tr (xy X) h))[k]? = some (a0, tr (xy X) h a0) from hk]; simp [tr, trE, alI_s q1]
  exact va_copyi o.1 o.2.1 (by rw [o.2.2.1]; exact l.1.symm) o.2.2.2.1 (o.2.2.2.2.1 _ w1) (o.2.2.2.2.1 _ w2) (o.2.2.2.2.1 _ w3) (o.2.2.2.2.1 _ w4) o.2.2.2.2.2.1 hP hD b k j t t hk2 hj ht ht hpr h1 h2 h3 h4 h5 (fun i _ => hfit _) (by rw [hR']; exact hR.1) (by rw [hR']; exact hR.2) d (fun H1 locs1 hP1 hD1 hS1 => kk H1 locs1 ls (hq_set (cy := xy X) rfl hD hL ha hj0 hP1 hD1) hS1 l)
theorem g_cpJ {X : Cx} {cc : ByteArray} {own : String} {nL : Nat} {rm : Room} {ret : Option FieldType} {pc : Nat} {lv : List (Nat × Value)} {st : List Value} {h : Hp} {c n a a0 t index : Nat} {sp dp ln : Int32} {h1 : Hp} {ty : FieldType} (ht : (tysL (xy X))[t]? = some (xy X t, ty)) (hpr : refKind ty = false) (hfit : ∀ x : Int64, fits ty (.long x) = true) (o : Ok X cc own nL rm ret) (w1 : Cond.methodLink own index arraycopyName ∈ GW) (w2 : Cond.native arraycopyName ∈ GW) (w3 : Cond.static arraycopyName ∈ GW) (w4 : Cond.initialized "java/lang/System" ∈ GW) (hR : 1 ≤ rm.frames ∧ (st.map fun v => v.category).sum + (nativeFrameWords "java/lang/System" "arraycopy" 5 + 11) ≤ rm.locals) (d : decode cc pc = .ok (.invokestatic index, 3)) (q : cpJ t h a0 sp a dp ln = some h1) (kk : G X nL (pc + 3) lv st h1 c n) : G X nL pc lv (.int ln :: .int dp :: .ref a :: .int sp :: .ref a0 :: st) h c n := by
  intro H locs ls hAt b l
  have hR' : xR X = rm := o.2.2.2.2.2.2.2.1
  obtain ⟨⟨z, f⟩, q1, q2⟩ := ob q
  obtain ⟨⟨z2, g⟩, q3, q4⟩ := ob q2
  obtain ⟨q5, rfl⟩ := oi q4
  obtain ⟨h1, h2, h3, h4, h5⟩ := cpOk_s q5
  obtain ⟨L, j, hP, hD, hL, ha, hj0, hj⟩ := hq_a hAt (alJ_s q3)
  have h0L : a0 ∈ L := hq_in (D := xD X) (cy := xy X) (A := xA X) (H := H) hL (by rw [alJ_s q1]; exact hq_nd_a)
  obtain ⟨k, hk⟩ := va_pl_get (X := []) (f := tr (xy X) h) h0L
  have hk2 : (va_pl L (tr (xy X) h))[k]? = some (a0, .inl (xy X t, (z, .inr (.inl f)))) := by rw [show (va_pl L (tr (xy X) h))[k]? = some (a0, tr (xy X) h a0) from hk]; simp [tr, trE, alJ_s q1]
  exact va_copyl o.1 o.2.1 (by rw [o.2.2.1]; exact l.1.symm) o.2.2.2.1 (o.2.2.2.2.1 _ w1) (o.2.2.2.2.1 _ w2) (o.2.2.2.2.1 _ w3) (o.2.2.2.2.1 _ w4) o.2.2.2.2.2.1 hP hD b k j t t hk2 hj ht ht hpr h1 h2 h3 h4 h5 (fun i _ => hfit _) (by rw [hR']; exact hR.1) (by rw [hR']; exact hR.2) d (fun H1 locs1 hP1 hD1 hS1 => kk H1 locs1 ls (hq_set (cy := xy X) rfl hD hL ha hj0 hP1 hD1) hS1 l)
theorem g_sb {X : Cx} {nL pc : Nat} {lv lv' : List (Nat × Value)} {st : List Value} {h : Hp} {c n : Nat} (js : List Nat) (hs : lv_pick lv js = lv') (kk : G X nL pc lv' st h c n) : G X nL pc lv st h c n := fun H locs ls a b l => kk H locs ls a b (lv_sub l js hs)
theorem g_mmin {X : Cx} {cc : ByteArray} {own : String} {nL : Nat} {rm : Room} {ret : Option FieldType} {pc : Nat} {lv : List (Nat × Value)} {st : List Value} {h : Hp} {c n index : Nat} {x y : Int32} (o : Ok X cc own nL rm ret) (w1 : Cond.methodLink own index Lib.Math.min.name ∈ GW) (w2 : Cond.static Lib.Math.min.name ∈ GW) (w3 : Cond.initialized "java/lang/Math" ∈ GW) (w4 : Cond.code Lib.Math.min.name Lib.Math.min.code 2 (some .int) ∈ GW) (hR : 1 ≤ rm.frames ∧ (st.map fun v => v.category).sum + 13 ≤ rm.locals) (hf : c ≤ rm.cells ∧ n ≤ rm.slots) (d : decode cc pc = .ok (.invokestatic index, 3)) (kk : G X nL (pc + 3) lv (.int (if y < x then y else x) :: st) h c n) : G X nL pc lv (.int y :: .int x :: st) h c n := fun H locs ls a b l => by
  have hR' : xR X = rm := o.2.2.2.2.2.2.2.1
  exact va_mmin o.1 o.2.1 (by rw [o.2.2.1]; exact l.1.symm) o.2.2.2.1 (o.2.2.2.2.1 _ w1) (o.2.2.2.2.1 _ w2) (o.2.2.2.2.1 _ w3) (o.2.2.2.2.1 _ w4) (by rw [hR']; exact hR.1) (by rw [hR']; exact hR.2) (by rw [hR']; exact hf.1) (by rw [hR']; exact hf.2) d (kk H locs ls a b l)
theorem g_mmax {X : Cx} {cc : ByteArray} {own : String} {nL : Nat} {rm : Room} {ret : Option FieldType} {pc : Nat} {lv : List (Nat × Value)} {st : List Value} {h : Hp} {c n index : Nat} {x y : Int32} (o : Ok X cc own nL rm ret) (w1 : Cond.methodLink own index Lib.Math.max.name ∈ GW) (w2 : Cond.static Lib.Math.max.name ∈ GW) (w3 : Cond.initialized "java/lang/Math" ∈ GW) (w4 : Cond.code Lib.Math.max.name Lib.Math.max.code 2 (some .int) ∈ GW) (hR : 1 ≤ rm.frames ∧ (st.map fun v => v.category).sum + 13 ≤ rm.locals) (hf : c ≤ rm.cells ∧ n ≤ rm.slots) (d : decode cc pc = .ok (.invokestatic index, 3)) (kk : G X nL (pc + 3) lv (.int (if x < y then y else x) :: st) h c n) : G X nL pc lv (.int y :: .int x :: st) h c n := fun H locs ls a b l => by
  have hR' : xR X = rm := o.2.2.2.2.2.2.2.1
  exact va_mmax o.1 o.2.1 (by rw [o.2.2.1]; exact l.1.symm) o.2.2.2.1 (o.2.2.2.2.1 _ w1) (o.2.2.2.2.1 _ w2) (o.2.2.2.2.1 _ w3) (o.2.2.2.2.1 _ w4) (by rw [hR']; exact hR.1) (by rw [hR']; exact hR.2) (by rw [hR']; exact hf.1) (by rw [hR']; exact hf.2) d (kk H locs ls a b l)
theorem g_mabs {X : Cx} {cc : ByteArray} {own : String} {nL : Nat} {rm : Room} {ret : Option FieldType} {pc : Nat} {lv : List (Nat × Value)} {st : List Value} {h : Hp} {c n index : Nat} {x : Int32} (o : Ok X cc own nL rm ret) (w1 : Cond.methodLink own index Lib.Math.abs.name ∈ GW) (w2 : Cond.static Lib.Math.abs.name ∈ GW) (w3 : Cond.initialized "java/lang/Math" ∈ GW) (w4 : Cond.code Lib.Math.abs.name Lib.Math.abs.code 1 (some .int) ∈ GW) (hR : 1 ≤ rm.frames ∧ (st.map fun v => v.category).sum + 13 ≤ rm.locals) (hf : c ≤ rm.cells ∧ n ≤ rm.slots) (d : decode cc pc = .ok (.invokestatic index, 3)) (kk : G X nL (pc + 3) lv (.int (if 0 ≤ x then x else 0 - x) :: st) h c n) : G X nL pc lv (.int x :: st) h c n := fun H locs ls a b l => by
  have hR' : xR X = rm := o.2.2.2.2.2.2.2.1
  exact va_mabs o.1 o.2.1 (by rw [o.2.2.1]; exact l.1.symm) o.2.2.2.1 (o.2.2.2.2.1 _ w1) (o.2.2.2.2.1 _ w2) (o.2.2.2.2.1 _ w3) (o.2.2.2.2.1 _ w4) (by rw [hR']; exact hR.1) (by rw [hR']; exact hR.2) (by rw [hR']; exact hf.1) (by rw [hR']; exact hf.2) d (kk H locs ls a b l)
theorem g_mmaxL {X : Cx} {cc : ByteArray} {own : String} {nL : Nat} {rm : Room} {ret : Option FieldType} {pc : Nat} {lv : List (Nat × Value)} {st : List Value} {h : Hp} {c n index : Nat} {x y : Int64} (o : Ok X cc own nL rm ret) (w1 : Cond.methodLink own index Lib.MathLoose.max_long.x ∈ GW) (w2 : Cond.static Lib.MathLoose.max_long.x ∈ GW) (w3 : Cond.initialized "java/lang/Math" ∈ GW) (w4 : Cond.code Lib.MathLoose.max_long.x Lib.MathLoose.max_long.code 4 (some .long) ∈ GW) (hR : 1 ≤ rm.frames ∧ (st.map fun v => v.category).sum + 15 ≤ rm.locals) (hf : c ≤ rm.cells ∧ n ≤ rm.slots) (d : decode cc pc = .ok (.invokestatic index, 3)) (kk : G X nL (pc + 3) lv (.long (if y < x then x else y) :: st) h c n) : G X nL pc lv (.long y :: .long x :: st) h c n := fun H locs ls a b l => by
  have hR' : xR X = rm := o.2.2.2.2.2.2.2.1
  exact va_mmax_long o.1 o.2.1 (by rw [o.2.2.1]; exact l.1.symm) o.2.2.2.1 (o.2.2.2.2.1 _ w1) (o.2.2.2.2.1 _ w2) (o.2.2.2.2.1 _ w3) (o.2.2.2.2.1 _ w4) (by rw [hR']; exact hR.1) (by rw [hR']; exact hR.2) (by rw [hR']; exact hf.1) (by rw [hR']; exact hf.2) d (kk H locs ls a b l)
/-! constants: texts, MOST, COMPACT_STRINGS -/
section STR
variable {X : Cx} {cc : ByteArray} {own : String} {nL : Nat} {rm : Room} {ret : Option FieldType} {pc : Nat} {lv : List (Nat × Value)} {st sk : List Value} {h : Hp} {c n index : Nat}
theorem ok_cst (o : Ok X cc own nL rm ret) : Cst (xD X) (xA X) (xs X) := o.2.2.2.2.2.2.2.2.2.2
theorem g_ldcS0 (o : Ok X cc RX4 nL rm ret) (d : decode cc pc = .ok (.ldc 19, 2)) (kk : G X nL (pc + 2) lv (.ref (sK (xD X) 0) :: st) h c n) : G X nL pc lv st h c n := fun H locs ls a b l => va_ldcS o.1 o.2.1 o.2.2.2.1 (ok_cst o).2.1 d (kk H locs ls a b l)
theorem g_ldcS1 (o : Ok X cc RX4 nL rm ret) (d : decode cc pc = .ok (.ldc 68, 2)) (kk : G X nL (pc + 2) lv (.ref (sK (xD X) 1) :: st) h c n) : G X nL pc lv st h c n := fun H locs ls a b l => va_ldcS o.1 o.2.1 o.2.2.2.1 (ok_cst o).2.2.1 d (kk H locs ls a b l)
theorem g_gstM (o : Ok X cc RX7 nL rm ret) (d : decode cc pc = .ok (.getstatic 59, 3)) (kk : G X nL (pc + 3) lv (.ref (sM (xD X)) :: st) h c n) : G X nL pc lv st h c n := fun H locs ls a b l => va_getsN o.1 o.2.1 (ok_cst o).2.2.2.1 b o.2.2.2.1 (va_Nw.use rfl (ok_cst o).2.2.2.2.2.2.1) (fun _ z => z) d (kk H locs ls a b l)
theorem g_gstC (o : Ok X cc own nL rm ret) (w : Cond.fieldLink own index "java/lang/String" "COMPACT_STRINGS" "Z" ∈ GW) (d : decode cc pc = .ok (.getstatic index, 3)) (kk : G X nL (pc + 3) lv (.int 1 :: st) h c n) : G X nL pc lv st h c n := fun H locs ls a b l => va_gets o.1 o.2.1 (ok_cst o).2.2.2.2.2.1 b o.2.2.2.1 (o.2.2.2.2.1 _ w) (fun _ z => z) d (kk H locs ls a b l)
theorem g_getSV (k : Nat) (hk : k < 2) (o : Ok X cc own nL rm ret) (w : Cond.fieldLink own index "java/lang/String" "value" "[B" ∈ GW) (d : decode cc pc = .ok (.getfield index, 3)) (kk : G X nL (pc + 3) lv (.ref (sV (xD X) k) :: st) h c n) : G X nL pc lv (.ref (sK (xD X) k) :: st) h c n := fun H locs ls a b l => vk_getf o.1 o.2.1 ((ok_cst o).1.1 k hk).2.2.1 b o.2.2.2.1 (o.2.2.2.2.1 _ w) (fun _ z => z) d (kk H locs ls a b l)
theorem g_getSC (k : Nat) (hk : k < 2) (o : Ok X cc own nL rm ret) (w : Cond.fieldLink own index "java/lang/String" "coder" "B" ∈ GW) (d : decode cc pc = .ok (.getfield index, 3)) (kk : G X nL (pc + 3) lv (.int 0 :: st) h c n) : G X nL pc lv (.ref (sK (xD X) k) :: st) h c n := fun H locs ls a b l => vk_getf o.1 o.2.1 ((ok_cst o).1.1 k hk).2.1 b o.2.2.2.1 (o.2.2.2.2.1 _ w) (fun _ z => z) d (kk H locs ls a b l)
def byS (k : Nat) (i : Int32) : Option Int32 := if inB i (lenS.getD k 0) then some ((bytS.getD k []).getD i.toNatClampNeg 0) else none
def mostI (i : Int32) : Option Int32 := if inB i 7 then some (mostL.getD i.toNatClampNeg 0) else none
theorem g_baldS (k : Nat) (hk : k < 2) {i v : Int32} (o : Ok X cc own nL rm ret) (d : decode cc pc = .ok (.baload, 1)) (q : byS k i = some v) (kk : G X nL (pc + 1) lv (.int v :: st) h c n) : G X nL pc lv (.int i :: .ref (sV (xD X) k) :: st) h c n := fun H locs ls a b l => by
  obtain ⟨q1, rfl⟩ := oi q
  exact va_tb o.1 o.2.1 ((ok_cst o).1.1 k hk).2.2.2 b (inB_s q1) rfl d (kk H locs ls a b l)
theorem g_ialdM {i v : Int32} (o : Ok X cc own nL rm ret) (d : decode cc pc = .ok (.iaload, 1)) (q : mostI i = some v) (kk : G X nL (pc + 1) lv (.int v :: st) h c n) : G X nL pc lv (.int i :: .ref (sM (xD X)) :: st) h c n := fun H locs ls a b l => by
  obtain ⟨q1, rfl⟩ := oi q
  exact va_ti o.1 o.2.1 (ok_cst o).2.2.2.2.1 b (inB_s q1) rfl d (kk H locs ls a b l)
theorem g_alenS {v : Int32} (k : Nat) (hk : k < 2) (hv : Int32.ofNat (lenS.getD k 0) = v) (o : Ok X cc own nL rm ret) (d : decode cc pc = .ok (.arraylength, 1)) (kk : G X nL (pc + 1) lv (.int v :: st) h c n) : G X nL pc lv (.ref (sV (xD X) k) :: st) h c n := fun H locs ls a b l => va_tlen o.1 o.2.1 ((ok_cst o).1.1 k hk).2.2.2 b hv d (kk H locs ls a b l)
end STR
section CT
variable {X : Cx} {cc : ByteArray} {own : String} {nL : Nat} {rm : Room} {ret : Option FieldType} {pc : Nat} {lv : List (Nat × Value)} {st sk : List Value} {h : Hp} {c n : Nat} {y : MethodName} {yc : ByteArray} {yl : Nat} {yr : Option FieldType} {rmc : Room} {index nA : Nat} {v : Value} {h1 : Hp}
theorem g_callT {v : Option Value} (k : Nat) (hk : k < 2) (As : List Value) (o : Ok X cc own nL rm ret) (M : MC (xl X) (xD X) (xy X) y yc yl yr rmc (.ref (sK (xD X) k) :: As) h v h1)
    (w1 : Cond.methodLink own index y ∈ GW) (w2 : Cond.instanceMethod y ∈ GW) (w3 : Cond.selects "java/lang/String" y y ∈ GW) (w4 : Cond.initialized "java/lang/String" ∈ GW) (w5 : Cond.code y yc yl yr ∈ GW) (hy : y.cls = "java/lang/String") (hd : yok y nA) (hlen : As.length = nA) (hst : sk = As.reverse ++ .ref (sK (xD X) k) :: st) (hW : (st.map fun v => v.category).sum ≤ 8) (hR : rmc.frames + 1 ≤ rm.frames ∧ 8 + (yl + 11) + rmc.locals ≤ rm.locals) (hf : c + rmc.cells ≤ rm.cells ∧ n + rmc.slots ≤ rm.slots) (d : decode cc pc = .ok (.invokevirtual index, 3))
    (kk : G X nL (pc + 3) lv (v.toList ++ st) h1 (c + rmc.cells) (n + rmc.slots)) : G X nL pc lv sk h c n := by
  refine g_run (as := (Value.ref (sK (xD X) k) :: As).toArray) o (fun H locs ls hAt hS hl => ?_) kk
  have hR' : xR X = rm := o.2.2.2.2.2.2.2.1
  refine va_runV (As := As) (rest := st) (C := "java/lang/String") ⟨o.1, o.2.1, o.2.2.1, o.2.2.2.1, o.2.2.2.2.1⟩ (M H.size) (cwV nA o.2.2.2.2.1 (good_mc (pre := [.methodLink own index y, .instanceMethod y, .selects "java/lang/String" y y, .initialized "java/lang/String"]) (fun w hw => ?_) w5) rfl rfl rfl ⟨hy, hd⟩ (by rw [hR']; exact hR)) ⟨blind_mc, vk_recv (ok_cst o).1 hk hS, pre_mc o hAt hS⟩ rfl hlen hl.1 hst (lv_room hW) d (by rw [hR']; exact hf)
  simp only [List.mem_cons, List.not_mem_nil, or_false] at hw
  rcases hw with rfl | rfl | rfl | rfl <;> assumption
theorem g_callTv (k : Nat) (hk : k < 2) (As : List Value) (o : Ok X cc own nL rm ret) (M : MC (xl X) (xD X) (xy X) y yc yl yr rmc (.ref (sK (xD X) k) :: As) h (some v) h1)
    (w1 : Cond.methodLink own index y ∈ GW) (w2 : Cond.instanceMethod y ∈ GW) (w3 : Cond.selects "java/lang/String" y y ∈ GW) (w4 : Cond.initialized "java/lang/String" ∈ GW) (w5 : Cond.code y yc yl yr ∈ GW) (hy : y.cls = "java/lang/String") (hd : yok y nA) (hlen : As.length = nA) (hst : sk = As.reverse ++ .ref (sK (xD X) k) :: st) (hW : (st.map fun v => v.category).sum ≤ 8) (hR : rmc.frames + 1 ≤ rm.frames ∧ 8 + (yl + 11) + rmc.locals ≤ rm.locals) (hz : rmc.cells = 0 ∧ rmc.slots = 0) (d : decode cc pc = .ok (.invokevirtual index, 3)) (hf : c ≤ rm.cells ∧ n ≤ rm.slots)
    (kk : G X nL (pc + 3) lv (v :: st) h1 c n) : G X nL pc lv sk h c n :=
  g_callT k hk As o M w1 w2 w3 w4 w5 hy hd hlen hst hW hR (by rw [hz.1, hz.2]; exact hf) d (by rw [hz.1, hz.2]; exact kk)
end CT
def cr (v : Int32) (h : Hp) : Option (Int32 × Hp) := if ¬ v < 0 ∧ v < 65536 then some (v, h) else none
theorem cr_s {v : Int32} {h : Hp} {y : Int32 × Hp} (e : cr v h = some y) : (¬ v < 0 ∧ v < 65536) ∧ some (v, h) = some y := by
  unfold cr at e
  split at e
  · next z => exact ⟨z, e⟩
  · cases e
theorem nar_c {v : Int32} (e : ¬ v < 0 ∧ v < 65536) : narrow .char (.int v) = .int v := by
  obtain ⟨j, hj, rfl⟩ := nI_of e.1
  have h2 : nI j < nI 65536 := e.2
  exact (pk_charN ((nI_ltI hj (by decide)).mp h2)).1
theorem g_cret {X : Cx} {cc : ByteArray} {own : String} {nL : Nat} {rm : Room} {pc : Nat} {lv : List (Nat × Value)} {h : Hp} {c n : Nat} {v : Int32} (o : Ok X cc own nL rm (some .char)) (d : decode cc pc = .ok (.ireturn, 1)) (hv : ¬ v < 0 ∧ v < 65536) (q : Rt X (some (.int v)) h c n) : G X nL pc lv [.int v] h c n := by
  intro H locs ls hAt b l
  rw [show xQ X = _ from q]
  exact W.zret o.1 o.2.1 o.2.2.2.2.2.2.2.2.2.1 (nar_c hv) (fun t ht hW => ⟨rfl, by rw [ht]; exact hAt, va_K.moved hW.alike o.2.2.2.2.2.1, b.F ht, cst_move o.2.2.2.2.2.2.2.2.2.2 b hW ht⟩) b.2.2 d o.2.2.2.2.2.2.2.2.1
theorem nar_b {v : Int32} (e : v = 0 ∨ v = 1) : narrow .byte (.int v) = .int v := by
  rcases e with rfl | rfl <;> decide
theorem g_bret {X : Cx} {cc : ByteArray} {own : String} {nL : Nat} {rm : Room} {pc : Nat} {lv : List (Nat × Value)} {h : Hp} {c n : Nat} {v : Int32} (o : Ok X cc own nL rm (some .byte)) (d : decode cc pc = .ok (.ireturn, 1)) (hv : v = 0 ∨ v = 1) (q : Rt X (some (.int v)) h c n) : G X nL pc lv [.int v] h c n := by
  intro H locs ls hAt b l
  rw [show xQ X = _ from q]
  exact W.zret o.1 o.2.1 o.2.2.2.2.2.2.2.2.2.1 (nar_b hv) (fun t ht hW => ⟨rfl, by rw [ht]; exact hAt, va_K.moved hW.alike o.2.2.2.2.2.1, b.F ht, cst_move o.2.2.2.2.2.2.2.2.2.2 b hW ht⟩) b.2.2 d o.2.2.2.2.2.2.2.2.1
