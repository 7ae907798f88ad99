/-! THE HEAP AS A FUNCTION: each address holds an object (its class's number, its fields) or an array (its kind, its contents); what isn't ours is 'dead'. -/
abbrev HE : Type := (Nat × vp_A) ⊕ (Nat × List Value)
abbrev Hp : Type := Nat → HE
def dead : HE := .inr (99, [])
def trE (cy : Nat → ClassId) (x : HE) : va_E := match x with
  | .inl a => .inl (cy a.1, a.2)
  | .inr o => .inr o
def tr (cy : Nat → ClassId) (h : Hp) : Nat → va_E := fun a => trE cy (h a)
def tysL (cy : Nat → ClassId) : List (ClassId × FieldType) := [(cy 0, .byte), (cy 1, .int), (cy 2, .long), (cy 3, .boolean), (cy 4, .object RX1), (cy 5, .object RX10)]
def At (D : va_G) (cy : Nat → ClassId) (A : Nat → Prop) (h : Hp) (H : Heap) : Prop :=
  ∃ L : List Nat, va_P D vwCl (va_pl L (tr cy h)) H ∧ va_D A (va_pl L (tr cy h)) ∧ ∀ a : Nat, a ∉ L → h a = dead
theorem gw_good {b : List Cond} (hb : ∀ w ∈ GW, w ∈ b) : GoodIn b GW := fun w hw => ⟨hb w hw, good_of_word (List.mem_filter.mp hw).2⟩
/-! CONSTANTS: two texts of the Reader, FalseName.MOST, String.COMPACT_STRINGS, links of nest mates, what a throw needs. Their addresses ride in D: (D.2 100 0, D.2 100 1), (D.2 101 0, D.2 101 1), D.2 102 0. -/
def txW : String := "port way mail ship role man rain parrot wanted owed needs sails paints waits takes learns or and not here been safe knows hears far names number "
def txS : String := ";<=>()"
def bytS : List (List Int32) := [[112, 111, 114, 116, 32, 119, 97, 121, 32, 109, 97, 105, 108, 32, 115, 104, 105, 112, 32, 114, 111, 108, 101, 32, 109, 97, 110, 32, 114, 97, 105, 110, 32, 112, 97, 114, 114, 111, 116, 32, 119, 97, 110, 116, 101, 100, 32, 111, 119, 101, 100, 32, 110, 101, 101, 100, 115, 32, 115, 97, 105, 108, 115, 32, 112, 97, 105, 110, 116, 115, 32, 119, 97, 105, 116, 115, 32, 116, 97, 107, 101, 115, 32, 108, 101, 97, 114, 110, 115, 32, 111, 114, 32, 97, 110, 100, 32, 110, 111, 116, 32, 104, 101, 114, 101, 32, 98, 101, 101, 110, 32, 115, 97, 102, 101, 32, 107, 110, 111, 119, 115, 32, 104, 101, 97, 114, 115, 32, 102, 97, 114, 32, 110, 97, 109, 101, 115, 32, 110, 117, 109, 98, 101, 114, 32], [59, 60, 61, 62, 40, 41]]
def lenS : List Nat := [145, 6]
def mostL : List Int32 := [8, 16, 20, 8, 6, 8, 16]
def sK (D : va_G) (k : Nat) : Nat := D.2 (100 + k) 0
def sV (D : va_G) (k : Nat) : Nat := D.2 (100 + k) 1
def sM (D : va_G) : Nat := D.2 102 0
def nestM : List (String × Nat × MethodName) := [(RX11, 24, yX6_init), (RX6, 11, yX3_init), (RX11, 43, yX8_init), (RX11, 353, yX1_init), (RX1, 9, yX6_init), (RX1, 27, yX8_init)]
def Cst (D : va_G) (A : Nat → Prop) (U : State) : Prop :=
  vk_S 2 lenS bytS (sK D) (sV D) A U U.heap ∧ vk_R RX4 19 txW (sK D 0) U ∧ vk_R RX4 68 txS (sK D 1) U ∧
  va_Z RX11 "MOST" "[I" (.ref (sM D)) A U U.heap ∧ va_T .int (sM D) 7 (fun j => .int (mostL.getD j 0)) A U U.heap ∧
  va_Z "java/lang/String" "COMPACT_STRINGS" "Z" (.int 1) A U U.heap ∧
  va_Nw (.fieldLinkNest RX7 59 RX11 "MOST" "[I" RX11) U ∧ (∀ q ∈ nestM, va_Nw (.methodLinkNest q.1 q.2.1 q.2.2 RX11) U) ∧ vx_N A U
theorem cst_move {D : va_G} {A : Nat → Prop} {s t : State} {H : Heap} {locs : List Loc} (h : Cst D A s) (hS : va_S A s.heap H locs) (hW : s.WarmedH t.vm) (ht : t.heap = H) : Cst D A t := by
  obtain ⟨h1, h2, h3, h4, h5, h6, h7, h8, h9⟩ := h
  have hk := hS.2.1
  subst ht
  exact ⟨(vk_S.moved hW.alike h1).kept hk, h2.warm hW, h3.warm hW, (va_Z.moved hW.alike h4).kept hk, (va_T.moved hW.alike h5).kept hk, (va_Z.moved hW.alike h6).kept hk, h7.warmF hW, fun q hq => (h8 q hq).warmM hW, vx_N.move h9 hk hW⟩
theorem cst_narrow {D : va_G} {A B : Nat → Prop} {U : State} (h : Cst D A U) (hAB : ∀ q, B q → A q) : Cst D B U := by
  obtain ⟨h1, h2, h3, h4, h5, h6, h7, h8, h9⟩ := h
  exact ⟨h1.narrow hAB, h2, h3, h4.narrow hAB, h5.narrow hAB, h6.narrow hAB, h7, h8, h9.narrow hAB⟩
theorem cst_same {D : va_G} {A : Nat → Prop} {u U : State} (h : Cst D A u) (hv : u.vm = U.vm) (hh : U.heap = u.heap) : Cst D A U := by
  obtain ⟨h1, h2, h3, h4, h5, h6, h7, h8, h9⟩ := h
  have ha : u.vm.Alike U.vm := by rw [hv]; exact Vm.Alike.refl _
  have e : ∀ P : Heap → Prop, P u.heap → P U.heap := fun P z => by rw [hh]; exact z
  exact ⟨e _ (vk_S.moved ha h1), h2.same hv.symm, h3.same hv.symm, e _ (va_Z.moved ha h4), e _ (va_T.moved ha h5), e _ (va_Z.moved ha h6), h7.same rfl hv, fun q hq => (h8 q hq).same rfl hv, vx_N.same h9 hv hh⟩
abbrev Cx : Type := Program × Launch × Env × Room × State × MethodId × Array Value × List Frame × Method × Code × (State → Prop) × va_G × (Nat → ClassId) × (Nat → Prop)
abbrev xp (X : Cx) := X.1
abbrev xl (X : Cx) := X.2.1
abbrev xe (X : Cx) := X.2.2.1
abbrev xR (X : Cx) := X.2.2.2.1
abbrev xs (X : Cx) := X.2.2.2.2.1
abbrev xm (X : Cx) := X.2.2.2.2.2.1
abbrev xa (X : Cx) := X.2.2.2.2.2.2.1
abbrev xb (X : Cx) := X.2.2.2.2.2.2.2.1
abbrev xt (X : Cx) := X.2.2.2.2.2.2.2.2.1
abbrev xc (X : Cx) := X.2.2.2.2.2.2.2.2.2.1
abbrev xQ (X : Cx) := X.2.2.2.2.2.2.2.2.2.2.1
abbrev xD (X : Cx) := X.2.2.2.2.2.2.2.2.2.2.2.1
abbrev xy (X : Cx) := X.2.2.2.2.2.2.2.2.2.2.2.2.1
abbrev xA (X : Cx) := X.2.2.2.2.2.2.2.2.2.2.2.2.2
def G (X : Cx) (nL pc : Nat) (lv : List (Nat × Value)) (st : List Value) (h : Hp) (k n : Nat) : Prop :=
  ∀ (H : Heap) (locs : List Loc) (ls : Array Slot), At (xD X) (xy X) (xA X) h H → va_S (xA X) (xs X).heap H locs → lv_has ls nL lv →
    W (xp X) (xl X) (xe X) (xR X) (xs X) (xm X) (xa X) (xb X) (xt X) (xc X) H locs k n (xQ X) (F0 (xm X) pc ls st)
def Ok (X : Cx) (cc : ByteArray) (own : String) (nL : Nat) (rm : Room) (ret : Option FieldType) : Prop :=
  (xp X).tables.exec = Jvm.exec ∧ (xc X).code = cc ∧ (xc X).maxLocals = nL ∧ (xs X).vm.findClass own = some (xm X).cls ∧ (∀ w ∈ GW, w.before (xa X) (xs X) = true) ∧ va_K (xD X) vwCl (tysL (xy X)) (xs X) ∧ (∀ q, (xs X).heap.size ≤ q → xA X q) ∧ xR X = rm ∧ (xt X).locks = false ∧ (xt X).sig.returnType = ret ∧ Cst (xD X) (xA X) (xs X)
def Aof (h : Hp) (sz : Nat) : Nat → Prop := fun q => h q ≠ dead ∨ sz ≤ q
def Qp (D : va_G) (cy : Nat → ClassId) (A : Nat → Prop) (v : Option Value) (h' : Hp) : Array Value → State → Outcome → State → Prop := fun _ st o t => o = .returned v ∧ At D cy A h' t.heap ∧ va_K D vwCl (tysL cy) t ∧ va_F A st t ∧ Cst D A t
def Rt (X : Cx) (v : Option Value) (h' : Hp) (mc ms : Nat) : Prop := xQ X = MQ (xb X) (Qp (xD X) (xy X) (xA X) v h') (xa X) (xs X) mc ms (xA X)
/-- a method's contract: called with av in the heap h it returns v and leaves h' -/
def MC (l : Launch) (D : va_G) (cy : Nat → ClassId) (y : MethodName) (cc : ByteArray) (nL : Nat) (ret : Option FieldType) (rm : Room) (av : List Value) (h : Hp) (v : Option Value) (h' : Hp) : Prop :=
  ∀ sz : Nat, Met l y (.code y cc nL ret :: GW) rm (va_Pc av (fun U => U.heap.size = sz ∧ At D cy (Aof h sz) h U.heap ∧ va_K D vwCl (tysL cy) U ∧ Cst D (Aof h sz) U)) (Qp D cy (Aof h sz) v h') rm.cells rm.slots (Aof h sz)
/-! what the heap's function says -/
def isO (ci : Nat) (h : Hp) (a : Nat) (fs : List Value) : Prop := h a = .inr (ci, fs)
theorem hq_in {D : va_G} {cy : Nat → ClassId} {A : Nat → Prop} {h : Hp} {H : Heap} {L : List Nat} (hL : ∀ a : Nat, a ∉ L → h a = dead) {a : Nat} (hd : h a ≠ dead) : a ∈ L := Classical.byContradiction fun q => hd (hL a q)
theorem hq_nd_o {ci : Nat} {fs : List Value} (hc : ci < 13) : (.inr (ci, fs) : HE) ≠ dead := by
  intro q
  have := congrArg Prod.fst (Sum.inr.inj q)
  simp at this; omega
theorem hq_nd_a {a : Nat × vp_A} : (.inl a : HE) ≠ dead := fun q => by cases q
theorem hq_o {D : va_G} {cy : Nat → ClassId} {A : Nat → Prop} {h : Hp} {H : Heap} (hAt : At D cy A h H) {a ci : Nat} {fs : List Value} (ho : h a = .inr (ci, fs)) (hc : ci < 13) :
    ∃ (L : List Nat) (k : Nat), va_P D vwCl (va_pl L (tr cy h)) H ∧ va_D A (va_pl L (tr cy h)) ∧ (∀ a : Nat, a ∉ L → h a = dead) ∧ a ∈ L ∧ (va_pl L (tr cy h))[k]? = some (a, tr cy h a) ∧ (va_pl L (tr cy h))[k]? = some (a, .inr (ci, fs)) := by
  obtain ⟨L, hP, hD, hL⟩ := hAt
  have ha : a ∈ L := hq_in (D := D) (cy := cy) (A := A) (H := H) hL (by rw [ho]; exact hq_nd_o hc)
  obtain ⟨k, hk⟩ := va_pl_get (X := []) (f := tr cy h) ha
  exact ⟨L, k, hP, hD, hL, ha, hk, by rw [show (va_pl L (tr cy h))[k]? = some (a, tr cy h a) from hk]; simp [tr, trE, ho]⟩
theorem hq_a {D : va_G} {cy : Nat → ClassId} {A : Nat → Prop} {h : Hp} {H : Heap} (hAt : At D cy A h H) {a t : Nat} {x : vp_A} (ho : h a = .inl (t, x)) :
    ∃ (L : List Nat) (k : Nat), va_P D vwCl (va_pl L (tr cy h)) H ∧ va_D A (va_pl L (tr cy h)) ∧ (∀ a : Nat, a ∉ L → h a = dead) ∧ a ∈ L ∧ (va_pl L (tr cy h))[k]? = some (a, tr cy h a) ∧ (va_pl L (tr cy h))[k]? = some (a, .inl (cy t, x)) := by
  obtain ⟨L, hP, hD, hL⟩ := hAt
  have ha : a ∈ L := hq_in (D := D) (cy := cy) (A := A) (H := H) hL (by rw [ho]; exact hq_nd_a)
  obtain ⟨k, hk⟩ := va_pl_get (X := []) (f := tr cy h) ha
  exact ⟨L, k, hP, hD, hL, ha, hk, by rw [show (va_pl L (tr cy h))[k]? = some (a, tr cy h a) from hk]; simp [tr, trE, ho]⟩
theorem hq_tr (cy : Nat → ClassId) (h : Hp) (a : Nat) (x : HE) : tr cy (va_up h a x) = va_up (tr cy h) a (trE cy x) := by
  funext b
  by_cases hb : b = a
  · subst hb; simp [tr, va_up_self]
  · simp [tr, va_up_ne _ _ hb]
theorem hq_set {D : va_G} {cy : Nat → ClassId} {A : Nat → Prop} {h : Hp} {H1 : Heap} {L : List Nat} {a k : Nat} {x : HE} {x' : va_E} (hx : trE cy x = x') (hD0 : va_D A (va_pl L (tr cy h))) (hL : ∀ a : Nat, a ∉ L → h a = dead) (ha : a ∈ L) (hk : (va_pl L (tr cy h))[k]? = some (a, tr cy h a)) (hP : va_P D vwCl ((va_pl L (tr cy h)).set k (a, x')) H1) (hD : va_D A ((va_pl L (tr cy h)).set k (a, x'))) : At D cy A (va_up h a x) H1 := by
  have e : (va_pl L (tr cy h)).set k (a, x') = va_pl L (tr cy (va_up h a x)) := by
    have := va_pl_set (X := []) (e := x') hD0 ha hk
    rw [hq_tr, hx]
    exact this
  rw [e] at hP hD
  exact ⟨L, hP, hD, fun b hb => by rw [va_up_ne h x (show b ≠ a from fun q => hb (by rw [q]; exact ha))]; exact hL b hb⟩
theorem hq_push {D : va_G} {cy : Nat → ClassId} {A : Nat → Prop} {h : Hp} {H1 : Heap} {L : List Nat} {a : Nat} {x : HE} {x' : va_E} (hx : trE cy x = x') (hL : ∀ a : Nat, a ∉ L → h a = dead) (ha : a ∉ L) (hP : va_P D vwCl (va_pl L (tr cy h) ++ [(a, x')]) H1) (hD : va_D A (va_pl L (tr cy h) ++ [(a, x')])) : At D cy A (va_up h a x) H1 := by
  have e : va_pl L (tr cy h) ++ [(a, x')] = va_pl (L ++ [a]) (tr cy (va_up h a x)) := by
    rw [hq_tr, hx]
    exact va_pl_push ha
  rw [e] at hP hD
  refine ⟨L ++ [a], hP, hD, fun b hb => ?_⟩
  rw [List.mem_append, not_or] at hb
  rw [va_up_ne h x (show b ≠ a from fun q => hb.2 (by simp [q]))]
  exact hL b hb.1
theorem hq_weak {D : va_G} {cy : Nat → ClassId} {A B : Nat → Prop} {h : Hp} {H : Heap} (hAt : At D cy A h H) (hAB : ∀ q, h q ≠ dead → A q → B q) : At D cy B h H := by
  obtain ⟨L, hP, hD, hL⟩ := hAt
  refine ⟨L, hP, hD.weaken (fun k q hq hA => hAB _ ?_ hA), hL⟩
  intro hd
  have hm := List.mem_of_getElem? hq
  obtain ⟨b, hb, rfl⟩ := List.mem_map.mp hm
  have h2 := hP k _ hq
  simp only [tr, hd, dead, trE, va_at] at h2
  obtain ⟨r, h3, -⟩ := h2
  simp [vwCl] at h3
theorem hq_own {D : va_G} {cy : Nat → ClassId} {A : Nat → Prop} {h : Hp} {H : Heap} (hAt : At D cy A h H) {q : Nat} (hd : h q ≠ dead) : A q ∧ q < H.size := by
  obtain ⟨L, hP, hD, hL⟩ := hAt
  have ha : q ∈ L := hq_in (D := D) (cy := cy) (A := A) (H := H) hL hd
  obtain ⟨k, hk⟩ := va_pl_get (X := []) (f := tr cy h) ha
  exact ⟨hD.2 k _ hk, (hP k _ hk).lt⟩
