/-! the law's body for one call of the script -/
def ldP (L : Nat) (xs : Nat → Int32) (i : Int32) : Option Int32 := if inB i L then some (xs i.toNatClampNeg) else none
def SC (X : Cx) (sb L : Nat) (xs0 : Nat → Int32) : Prop := va_X sb L xs0 (xs X) (xs X).heap ∧ sb < (xs X).heap.size ∧ ¬ xA X sb
theorem g_sld {X : Cx} {cc : ByteArray} {own : String} {nL : Nat} {rm : Room} {ret : Option FieldType} {pc : Nat} {lv : List (Nat × Value)} {st : List Value} {h : Hp} {c n sb L : Nat} {xs0 : Nat → Int32} {i v : Int32} (sc : SC X sb L xs0) (o : Ok X cc own nL rm ret) (d : decode cc pc = .ok (.iaload, 1)) (q : ldP L xs0 i = some v) (kk : G X nL (pc + 1) lv (.int v :: st) h c n) : G X nL pc lv (.int i :: .ref sb :: st) h c n := fun H locs ls a b l => by
  obtain ⟨q1, rfl⟩ := oi q
  exact va_sld o.1 o.2.1 sc.1 sc.2.1 sc.2.2 b (inB_s q1) d (kk H locs ls a b l)
theorem g_slen {X : Cx} {cc : ByteArray} {own : String} {nL : Nat} {rm : Room} {ret : Option FieldType} {pc : Nat} {lv : List (Nat × Value)} {st : List Value} {h : Hp} {c n sb L : Nat} {xs0 : Nat → Int32} {v : Int32} (hv : Int32.ofNat L = v) (sc : SC X sb L xs0) (o : Ok X cc own nL rm ret) (d : decode cc pc = .ok (.arraylength, 1)) (kk : G X nL (pc + 1) lv (.int v :: st) h c n) : G X nL pc lv (.ref sb :: st) h c n := fun H locs ls a b l => by
  subst hv
  exact va_slen o.1 o.2.1 sc.1 sc.2.1 sc.2.2 b d (kk H locs ls a b l)
theorem g_callVW {X : Cx} {cc : ByteArray} {own : String} {nL : Nat} {rm : Room} {ret : Option FieldType} {pc : Nat} {lv : List (Nat × Value)} {st sk : List Value} {h : Hp} {c n : Nat} {y : MethodName} {yc : ByteArray} {yl : Nat} {yr : Option FieldType} {rmc : Room} {b ci index N nA : Nat} {C : String} {T : u_T} {ty : Nat → FieldType} {fs : List Value} {K : Int32 → Hp → Prop} (As : List Value) (o : Ok X cc own nL rm ret) (M : MW (xl X) (xD X) (xy X) y yc yl yr rmc (.ref b :: As) h (pI K)) (cf : CF ci C T N ty) (hb : h b = .inr (ci, fs))
    (w1 : Cond.methodLink own index y ∈ GW) (w2 : Cond.instanceMethod y ∈ GW) (w3 : Cond.selects C y y ∈ GW) (w4 : Cond.initialized C ∈ GW) (w5 : Cond.code y yc yl yr ∈ GW) (hy : y.cls = C) (hd : yok y nA) (hlen : As.length = nA) (hst : sk = As.reverse ++ .ref b :: st) (hW : (st.map fun v => v.category).sum ≤ 8) (hR : rmc.frames + 1 ≤ rm.frames ∧ 8 + (yl + 11) + rmc.locals ≤ rm.locals) (hf : c + rmc.cells ≤ rm.cells ∧ n + rmc.slots ≤ rm.slots) (d : decode cc pc = .ok (.invokevirtual index, 3))
    (kk : ∀ (r : Int32) (h1 : Hp), K r h1 → G X nL (pc + 3) lv (.int r :: st) h1 (c + rmc.cells) (n + rmc.slots)) : G X nL pc lv sk h c n := by
  refine g_runW (as := (Value.ref b :: As).toArray) (P := pI K) o (fun H locs ls hAt hS hl => ?_) (fun v h1 hp => by obtain ⟨r, rfl, hp⟩ := hp; exact kk r h1 hp)
  obtain ⟨L, j, hP, -, -, -, -, hj⟩ := hq_o hAt hb cf.1
  have hR' : xR X = rm := o.2.2.2.2.2.2.2.1
  refine va_runV (As := As) (rest := st) (C := C) ⟨o.1, o.2.1, o.2.2.1, o.2.2.2.1, o.2.2.2.2.1⟩ (M H.size) (cwV nA o.2.2.2.2.1 (good_mc (pre := [.methodLink own index y, .instanceMethod y, .selects C y y, .initialized C]) (fun w hw => ?_) w5) rfl rfl rfl ⟨hy, hd⟩ (by rw [hR']; exact hR)) ⟨blind_mc, va_recv o.2.2.2.2.2.1 hP cf.2.1 hj, pre_mc o hAt hS⟩ rfl hlen hl.1 hst (lv_room hW) d (by rw [hR']; exact hf)
  simp only [List.mem_cons, List.not_mem_nil, or_false] at hw
  rcases hw with rfl | rfl | rfl | rfl <;> assumption
def lw0 (f0 L : Nat) (xs0 : Nat → Int32) (xo mo oo : Nat) (i : Int32) (h : Hp) (K : Hp → Prop) : Prop := ∃ x234, ldP L xs0 (i + 1) = some x234 ∧ ∃ x240, ldP L xs0 (i + 2) = some x240 ∧ ∃ x246, ldP L xs0 (i + 3) = some x246 ∧ ∃ x252, ldP L xs0 (i + 4) = some x252 ∧ ∃ x258, ldP L xs0 (i + 5) = some x258 ∧ ∃ u, ckO 11 h xo = some u ∧ ∃ x259 h259, fX11_feed f0 xo x234 x240 x246 x252 x258 h = some (x259, h259) ∧ ∃ x268, ldP L xs0 (i + 1) = some x268 ∧ ∃ x274, ldP L xs0 (i + 2) = some x274 ∧ ∃ x280, ldP L xs0 (i + 3) = some x280 ∧ ∃ x286, ldP L xs0 (i + 4) = some x286 ∧ ∃ x292, ldP L xs0 (i + 5) = some x292 ∧ ∃ u, ckO 12 h259 mo = some u ∧ ∃ x293 h293, fX12_feed f0 mo x268 x274 x280 x286 x292 h259 = some (x293, h293) ∧ (if x259 = x293 then K h293 else False)
set_option maxRecDepth 100000 in
set_option maxHeartbeats 4000000 in
theorem kl0 {X : Cx} (o : Ok X cL_law RL 7 room_1 (some .boolean)) (hst : (xl X).stackTraces = false) {sb L : Nat} {xs0 : Nat → Int32} (sc : SC X sb L xs0) (f0 xo mo oo : Nat) (i : Int32) (h : Hp) {c n : Nat} (hc : c + 27 ≤ room_1.cells) (hn : n + 864 ≤ room_1.slots) (K : Hp → Prop) (kx : ∀ h2 : Hp, K h2 → G X 7 1504 [(0, .ref sb), (1, .ref xo), (2, .ref mo), (3, .ref oo), (4, .int i)] [] h2 (c + 27) (n + 864)) (e : lw0 f0 L xs0 xo mo oo i h K) : G X 7 228 [(0, .ref sb), (1, .ref xo), (2, .ref mo), (3, .ref oo), (4, .int i)] [] h c n := by
  unfold lw0 at e
  refine g_aload_n 1 o dL_law_228 rfl rfl ?_
  refine g_aload_n 0 o dL_law_229 rfl rfl ?_
  refine g_iload 4 o dL_law_230 rfl ?_
  refine g_iconst (v := 1) o dL_law_232 (by decide) ?_
  refine g_iadd (x := i) (y := 1) o dL_law_233 ?_
  obtain ⟨x234, q234, e⟩ := e
  refine g_sld sc o dL_law_234 q234 ?_
  refine g_aload_n 0 o dL_law_235 rfl rfl ?_
  refine g_iload 4 o dL_law_236 rfl ?_
  refine g_iconst (v := 2) o dL_law_238 (by decide) ?_
  refine g_iadd (x := i) (y := 2) o dL_law_239 ?_
  obtain ⟨x240, q240, e⟩ := e
  refine g_sld sc o dL_law_240 q240 ?_
  refine g_aload_n 0 o dL_law_241 rfl rfl ?_
  refine g_iload 4 o dL_law_242 rfl ?_
  refine g_iconst (v := 3) o dL_law_244 (by decide) ?_
  refine g_iadd (x := i) (y := 3) o dL_law_245 ?_
  obtain ⟨x246, q246, e⟩ := e
  refine g_sld sc o dL_law_246 q246 ?_
  refine g_aload_n 0 o dL_law_247 rfl rfl ?_
  refine g_iload 4 o dL_law_248 rfl ?_
  refine g_iconst (v := 4) o dL_law_250 (by decide) ?_
  refine g_iadd (x := i) (y := 4) o dL_law_251 ?_
  obtain ⟨x252, q252, e⟩ := e
  refine g_sld sc o dL_law_252 q252 ?_
  refine g_aload_n 0 o dL_law_253 rfl rfl ?_
  refine g_iload 4 o dL_law_254 rfl ?_
  refine g_iconst (v := 5) o dL_law_256 (by decide) ?_
  refine g_iadd (x := i) (y := 5) o dL_law_257 ?_
  obtain ⟨x258, q258, e⟩ := e
  refine g_sld sc o dL_law_258 q258 ?_
  obtain ⟨_, k259, e⟩ := e
  obtain ⟨x259, h259, q259, e⟩ := e
  refine g_callVv [.int x234, .int x240, .int x246, .int x252, .int x258] o (mX11_feed q259) cf11 (ckO_s k259) mw_400 mw_401 mw_402 mw_1 mw_403 rfl yo_X11_feed rfl rfl (Nat.le_of_ble_eq_true rfl) ⟨by decide, by decide⟩ ⟨rfl, rfl⟩ dL_law_259 ⟨Nat.le_trans (Nat.le_add_right _ _) hc, Nat.le_trans (Nat.le_add_right _ _) hn⟩ ?_
  refine g_aload_n 2 o dL_law_262 rfl rfl ?_
  refine g_aload_n 0 o dL_law_263 rfl rfl ?_
  refine g_iload 4 o dL_law_264 rfl ?_
  refine g_iconst (v := 1) o dL_law_266 (by decide) ?_
  refine g_iadd (x := i) (y := 1) o dL_law_267 ?_
  obtain ⟨x268, q268, e⟩ := e
  refine g_sld sc o dL_law_268 q268 ?_
  refine g_aload_n 0 o dL_law_269 rfl rfl ?_
  refine g_iload 4 o dL_law_270 rfl ?_
  refine g_iconst (v := 2) o dL_law_272 (by decide) ?_
  refine g_iadd (x := i) (y := 2) o dL_law_273 ?_
  obtain ⟨x274, q274, e⟩ := e
  refine g_sld sc o dL_law_274 q274 ?_
  refine g_aload_n 0 o dL_law_275 rfl rfl ?_
  refine g_iload 4 o dL_law_276 rfl ?_
  refine g_iconst (v := 3) o dL_law_278 (by decide) ?_
  refine g_iadd (x := i) (y := 3) o dL_law_279 ?_
  obtain ⟨x280, q280, e⟩ := e
  refine g_sld sc o dL_law_280 q280 ?_
  refine g_aload_n 0 o dL_law_281 rfl rfl ?_
  refine g_iload 4 o dL_law_282 rfl ?_
  refine g_iconst (v := 4) o dL_law_284 (by decide) ?_
  refine g_iadd (x := i) (y := 4) o dL_law_285 ?_
  obtain ⟨x286, q286, e⟩ := e
  refine g_sld sc o dL_law_286 q286 ?_
  refine g_aload_n 0 o dL_law_287 rfl rfl ?_
  refine g_iload 4 o dL_law_288 rfl ?_
  refine g_iconst (v := 5) o dL_law_290 (by decide) ?_
  refine g_iadd (x := i) (y := 5) o dL_law_291 ?_
  obtain ⟨x292, q292, e⟩ := e
  refine g_sld sc o dL_law_292 q292 ?_
  obtain ⟨_, k293, e⟩ := e
  obtain ⟨x293, h293, q293, e⟩ := e
  refine g_callVv [.int x268, .int x274, .int x280, .int x286, .int x292] o (mX12_feed q293) cf12 (ckO_s k293) mw_1126 mw_1127 mw_1128 mw_19 mw_1129 rfl yo_X12_feed rfl rfl (Nat.le_of_ble_eq_true rfl) ⟨by decide, by decide⟩ ⟨rfl, rfl⟩ dL_law_293 ⟨Nat.le_trans (Nat.le_add_right _ _) hc, Nat.le_trans (Nat.le_add_right _ _) hn⟩ ?_
  refine g_icmp_eq (x := x259) (y := x293) 1504 o dL_law_296 (by decide) (fun u => ?_) (fun u => ?_)
  · rw [if_pos u] at e
    refine g_wd (c2 := c + 27) (n2 := n + 864) (Nat.le_add_right _ _) (Nat.le_add_right _ _) ?_
    exact kx h293 e
  · rw [if_neg u] at e
    exact e.elim
def lw1 (f0 L : Nat) (xs0 : Nat → Int32) (xo mo oo : Nat) (i : Int32) (h : Hp) (K : Hp → Prop) : Prop := ∃ x307, ldP L xs0 (i + 1) = some x307 ∧ ∃ u, ckO 11 h xo = some u ∧ ∃ x308 h308, fX11_end f0 xo x307 h = some (x308, h308) ∧ ∃ x317, ldP L xs0 (i + 1) = some x317 ∧ ∃ u, ckO 12 h308 mo = some u ∧ ∃ x318 h318, fX12_end f0 mo x317 h308 = some (x318, h318) ∧ (if x308 = x318 then K h318 else False)
set_option maxRecDepth 100000 in
set_option maxHeartbeats 4000000 in
theorem kl1 {X : Cx} (o : Ok X cL_law RL 7 room_1 (some .boolean)) (hst : (xl X).stackTraces = false) {sb L : Nat} {xs0 : Nat → Int32} (sc : SC X sb L xs0) (f0 xo mo oo : Nat) (i : Int32) (h : Hp) {c n : Nat} (hc : c + 27 ≤ room_1.cells) (hn : n + 864 ≤ room_1.slots) (K : Hp → Prop) (kx : ∀ h2 : Hp, K h2 → G X 7 1504 [(0, .ref sb), (1, .ref xo), (2, .ref mo), (3, .ref oo), (4, .int i)] [] h2 (c + 27) (n + 864)) (e : lw1 f0 L xs0 xo mo oo i h K) : G X 7 301 [(0, .ref sb), (1, .ref xo), (2, .ref mo), (3, .ref oo), (4, .int i)] [] h c n := by
  unfold lw1 at e
  refine g_aload_n 1 o dL_law_301 rfl rfl ?_
  refine g_aload_n 0 o dL_law_302 rfl rfl ?_
  refine g_iload 4 o dL_law_303 rfl ?_
  refine g_iconst (v := 1) o dL_law_305 (by decide) ?_
  refine g_iadd (x := i) (y := 1) o dL_law_306 ?_
  obtain ⟨x307, q307, e⟩ := e
  refine g_sld sc o dL_law_307 q307 ?_
  obtain ⟨_, k308, e⟩ := e
  obtain ⟨x308, h308, q308, e⟩ := e
  refine g_callVv [.int x307] o (mX11_end q308) cf11 (ckO_s k308) mw_407 mw_408 mw_409 mw_1 mw_410 rfl yo_X11_end rfl rfl (Nat.le_of_ble_eq_true rfl) ⟨by decide, by decide⟩ ⟨rfl, rfl⟩ dL_law_308 ⟨Nat.le_trans (Nat.le_add_right _ _) hc, Nat.le_trans (Nat.le_add_right _ _) hn⟩ ?_
  refine g_aload_n 2 o dL_law_311 rfl rfl ?_
  refine g_aload_n 0 o dL_law_312 rfl rfl ?_
  refine g_iload 4 o dL_law_313 rfl ?_
  refine g_iconst (v := 1) o dL_law_315 (by decide) ?_
  refine g_iadd (x := i) (y := 1) o dL_law_316 ?_
  obtain ⟨x317, q317, e⟩ := e
  refine g_sld sc o dL_law_317 q317 ?_
  obtain ⟨_, k318, e⟩ := e
  obtain ⟨x318, h318, q318, e⟩ := e
  refine g_callVv [.int x317] o (mX12_end q318) cf12 (ckO_s k318) mw_1134 mw_1135 mw_1136 mw_19 mw_1137 rfl yo_X12_end rfl rfl (Nat.le_of_ble_eq_true rfl) ⟨by decide, by decide⟩ ⟨rfl, rfl⟩ dL_law_318 ⟨Nat.le_trans (Nat.le_add_right _ _) hc, Nat.le_trans (Nat.le_add_right _ _) hn⟩ ?_
  refine g_icmp_eq (x := x308) (y := x318) 1504 o dL_law_321 (by decide) (fun u => ?_) (fun u => ?_)
  · rw [if_pos u] at e
    refine g_wd (c2 := c + 27) (n2 := n + 864) (Nat.le_add_right _ _) (Nat.le_add_right _ _) ?_
    exact kx h318 e
  · rw [if_neg u] at e
    exact e.elim
def lw2 (f0 L : Nat) (xs0 : Nat → Int32) (xo mo oo : Nat) (i : Int32) (h : Hp) (K : Hp → Prop) : Prop := ∃ u, ckO 11 h xo = some u ∧ ∃ x327 h327, fX11_sea f0 xo h = some (x327, h327) ∧ ∃ u, ckO 12 h327 mo = some u ∧ ∃ x331 h331, fX12_sea f0 mo h327 = some (x331, h331) ∧ (if x327 = x331 then K h331 else False)
set_option maxRecDepth 100000 in
set_option maxHeartbeats 4000000 in
theorem kl2 {X : Cx} (o : Ok X cL_law RL 7 room_1 (some .boolean)) (hst : (xl X).stackTraces = false) {sb L : Nat} {xs0 : Nat → Int32} (sc : SC X sb L xs0) (f0 xo mo oo : Nat) (i : Int32) (h : Hp) {c n : Nat} (hc : c + 27 ≤ room_1.cells) (hn : n + 864 ≤ room_1.slots) (K : Hp → Prop) (kx : ∀ h2 : Hp, K h2 → G X 7 1504 [(0, .ref sb), (1, .ref xo), (2, .ref mo), (3, .ref oo), (4, .int i)] [] h2 (c + 27) (n + 864)) (e : lw2 f0 L xs0 xo mo oo i h K) : G X 7 326 [(0, .ref sb), (1, .ref xo), (2, .ref mo), (3, .ref oo), (4, .int i)] [] h c n := by
  unfold lw2 at e
  refine g_aload_n 1 o dL_law_326 rfl rfl ?_
  obtain ⟨_, k327, e⟩ := e
  obtain ⟨x327, h327, q327, e⟩ := e
  refine g_callVv [] o (mX11_sea q327) cf11 (ckO_s k327) mw_411 mw_412 mw_413 mw_1 mw_414 rfl yo_X11_sea rfl rfl (Nat.le_of_ble_eq_true rfl) ⟨by decide, by decide⟩ ⟨rfl, rfl⟩ dL_law_327 ⟨Nat.le_trans (Nat.le_add_right _ _) hc, Nat.le_trans (Nat.le_add_right _ _) hn⟩ ?_
  refine g_aload_n 2 o dL_law_330 rfl rfl ?_
  obtain ⟨_, k331, e⟩ := e
  obtain ⟨x331, h331, q331, e⟩ := e
  refine g_callVv [] o (mX12_sea q331) cf12 (ckO_s k331) mw_1285 mw_1286 mw_1287 mw_19 mw_1288 rfl yo_X12_sea rfl rfl (Nat.le_of_ble_eq_true rfl) ⟨by decide, by decide⟩ ⟨rfl, rfl⟩ dL_law_331 ⟨Nat.le_trans (Nat.le_add_right _ _) hc, Nat.le_trans (Nat.le_add_right _ _) hn⟩ ?_
  refine g_icmp_eq (x := x327) (y := x331) 1504 o dL_law_334 (by decide) (fun u => ?_) (fun u => ?_)
  · rw [if_pos u] at e
    refine g_wd (c2 := c + 27) (n2 := n + 864) (Nat.le_add_right _ _) (Nat.le_add_right _ _) ?_
    exact kx h331 e
  · rw [if_neg u] at e
    exact e.elim
def lw3 (f0 L : Nat) (xs0 : Nat → Int32) (xo mo oo : Nat) (i : Int32) (h : Hp) (K : Hp → Prop) : Prop := ∃ u, ckO 11 h xo = some u ∧ ∃ x340 h340, fX11_fault f0 xo h = some (x340, h340) ∧ ∃ u, ckO 12 h340 mo = some u ∧ ∃ x344 h344, fX12_fault f0 mo h340 = some (x344, h344) ∧ (if x340 = x344 then K h344 else False)
set_option maxRecDepth 100000 in
set_option maxHeartbeats 4000000 in
theorem kl3 {X : Cx} (o : Ok X cL_law RL 7 room_1 (some .boolean)) (hst : (xl X).stackTraces = false) {sb L : Nat} {xs0 : Nat → Int32} (sc : SC X sb L xs0) (f0 xo mo oo : Nat) (i : Int32) (h : Hp) {c n : Nat} (hc : c + 27 ≤ room_1.cells) (hn : n + 864 ≤ room_1.slots) (K : Hp → Prop) (kx : ∀ h2 : Hp, K h2 → G X 7 1504 [(0, .ref sb), (1, .ref xo), (2, .ref mo), (3, .ref oo), (4, .int i)] [] h2 (c + 27) (n + 864)) (e : lw3 f0 L xs0 xo mo oo i h K) : G X 7 339 [(0, .ref sb), (1, .ref xo), (2, .ref mo), (3, .ref oo), (4, .int i)] [] h c n := by
  unfold lw3 at e
  refine g_aload_n 1 o dL_law_339 rfl rfl ?_
  obtain ⟨_, k340, e⟩ := e
  obtain ⟨x340, h340, q340, e⟩ := e
  refine g_callVv [] o (mX11_fault q340) cf11 (ckO_s k340) mw_590 mw_591 mw_592 mw_1 mw_593 rfl yo_X11_fault rfl rfl (Nat.le_of_ble_eq_true rfl) ⟨by decide, by decide⟩ ⟨rfl, rfl⟩ dL_law_340 ⟨Nat.le_trans (Nat.le_add_right _ _) hc, Nat.le_trans (Nat.le_add_right _ _) hn⟩ ?_
  refine g_aload_n 2 o dL_law_343 rfl rfl ?_
  obtain ⟨_, k344, e⟩ := e
  obtain ⟨x344, h344, q344, e⟩ := e
  refine g_callVv [] o (mX12_fault q344) cf12 (ckO_s k344) mw_1361 mw_1362 mw_1363 mw_19 mw_1364 rfl yo_X12_fault rfl rfl (Nat.le_of_ble_eq_true rfl) ⟨by decide, by decide⟩ ⟨rfl, rfl⟩ dL_law_344 ⟨Nat.le_trans (Nat.le_add_right _ _) hc, Nat.le_trans (Nat.le_add_right _ _) hn⟩ ?_
  refine g_icmp_eq (x := x340) (y := x344) 1504 o dL_law_347 (by decide) (fun u => ?_) (fun u => ?_)
  · rw [if_pos u] at e
    refine g_wd (c2 := c + 27) (n2 := n + 864) (Nat.le_add_right _ _) (Nat.le_add_right _ _) ?_
    exact kx h344 e
  · rw [if_neg u] at e
    exact e.elim
def lw4 (f0 L : Nat) (xs0 : Nat → Int32) (xo mo oo : Nat) (i : Int32) (h : Hp) (K : Hp → Prop) : Prop := ∃ x358, ldP L xs0 (i + 1) = some x358 ∧ ∃ x364, ldP L xs0 (i + 2) = some x364 ∧ ∃ x366 h366, fL_port f0 xo x358 x364 oo h = some (x366, h366) ∧ ∃ x377, ldP L xs0 (i + 1) = some x377 ∧ ∃ x383, ldP L xs0 (i + 2) = some x383 ∧ ∃ u, ckO 12 h366 mo = some u ∧ ∃ x384 h384, fX12_port f0 mo x377 x383 h366 = some (x384, h384) ∧ ∃ u, ckO 12 h384 mo = some u ∧ ∃ x390 h390, fX12_thrown f0 mo h384 = some (x390, h390) ∧ (if x390 = x366 then (if x366 = 0 then ∃ x407, ldJ 2 h390 oo 0 = some x407 ∧ (if (lg_cmp x407 (Int32.toInt64 x384)) = 0 then K h390 else False) else K h390) else False)
set_option maxRecDepth 100000 in
set_option maxHeartbeats 4000000 in
theorem kl4 {X : Cx} (o : Ok X cL_law RL 7 room_1 (some .boolean)) (hst : (xl X).stackTraces = false) {sb L : Nat} {xs0 : Nat → Int32} (sc : SC X sb L xs0) (f0 xo mo oo : Nat) (i : Int32) (h : Hp) {c n : Nat} (hc : c + 27 ≤ room_1.cells) (hn : n + 864 ≤ room_1.slots) (K : Hp → Prop) (kx : ∀ h2 : Hp, K h2 → G X 7 1504 [(0, .ref sb), (1, .ref xo), (2, .ref mo), (3, .ref oo), (4, .int i)] [] h2 (c + 27) (n + 864)) (e : lw4 f0 L xs0 xo mo oo i h K) : G X 7 352 [(0, .ref sb), (1, .ref xo), (2, .ref mo), (3, .ref oo), (4, .int i)] [] h c n := by
  unfold lw4 at e
  refine g_aload_n 1 o dL_law_352 rfl rfl ?_
  refine g_aload_n 0 o dL_law_353 rfl rfl ?_
  refine g_iload 4 o dL_law_354 rfl ?_
  refine g_iconst (v := 1) o dL_law_356 (by decide) ?_
  refine g_iadd (x := i) (y := 1) o dL_law_357 ?_
  obtain ⟨x358, q358, e⟩ := e
  refine g_sld sc o dL_law_358 q358 ?_
  refine g_aload_n 0 o dL_law_359 rfl rfl ?_
  refine g_iload 4 o dL_law_360 rfl ?_
  refine g_iconst (v := 2) o dL_law_362 (by decide) ?_
  refine g_iadd (x := i) (y := 2) o dL_law_363 ?_
  obtain ⟨x364, q364, e⟩ := e
  refine g_sld sc o dL_law_364 q364 ?_
  refine g_aload_n 3 o dL_law_365 rfl rfl ?_
  obtain ⟨x366, h366, q366, e⟩ := e
  refine g_callH [.ref xo, .int x358, .int x364, .ref oo] o (mL_port hst q366) mw_1046 mw_1047 mw_0 mh_port yo_L_port rfl rfl (Nat.le_of_ble_eq_true rfl) ⟨by decide, by decide⟩ ⟨Nat.le_trans (Nat.add_le_add_left (by decide) _) hc, Nat.le_trans (Nat.add_le_add_left (by decide) _) hn⟩ dL_law_366 ?_
  refine g_istore [(5, .int x366), (0, .ref sb), (1, .ref xo), (2, .ref mo), (3, .ref oo), (4, .int i)] o dL_law_369 (by decide) rfl ?_
  refine g_aload_n 3 o dL_law_371 rfl rfl ?_
  refine g_aload_n 1 o dL_law_372 rfl rfl ?_
  refine g_iload 5 o dL_law_373 rfl ?_
  refine g_iconst (v := 1) o dL_law_375 (by decide) ?_
  refine g_iadd (x := i) (y := 1) o dL_law_376 ?_
  obtain ⟨x377, q377, e⟩ := e
  refine g_sld sc o dL_law_377 q377 ?_
  refine g_aload_n 1 o dL_law_378 rfl rfl ?_
  refine g_iload 5 o dL_law_379 rfl ?_
  refine g_iconst (v := 2) o dL_law_381 (by decide) ?_
  refine g_iadd (x := i) (y := 2) o dL_law_382 ?_
  obtain ⟨x383, q383, e⟩ := e
  refine g_sld sc o dL_law_383 q383 ?_
  obtain ⟨_, k384, e⟩ := e
  obtain ⟨x384, h384, q384, e⟩ := e
  refine g_callVv [.int x377, .int x383] o (mX12_port q384) cf12 (ckO_s k384) mw_1365 mw_1366 mw_1367 mw_19 mw_1368 rfl yo_X12_port rfl rfl (Nat.le_of_ble_eq_true rfl) ⟨by decide, by decide⟩ ⟨rfl, rfl⟩ dL_law_384 ⟨Nat.le_trans (Nat.add_le_add_left (by decide) _) hc, Nat.le_trans (Nat.add_le_add_left (by decide) _) hn⟩ ?_
  refine g_istore [(6, .int x384), (5, .int x366), (0, .ref sb), (1, .ref xo), (2, .ref mo), (3, .ref oo), (4, .int i)] o dL_law_387 (by decide) rfl ?_
  refine g_aload_n 4 o dL_law_389 rfl rfl ?_
  obtain ⟨_, k390, e⟩ := e
  obtain ⟨x390, h390, q390, e⟩ := e
  refine g_callVv [] o (mX12_thrown q390) cf12 (ckO_s k390) mw_1122 mw_1123 mw_1124 mw_19 mw_1125 rfl yo_X12_thrown rfl rfl (Nat.le_of_ble_eq_true rfl) ⟨by decide, by decide⟩ ⟨rfl, rfl⟩ dL_law_390 ⟨Nat.le_trans (Nat.add_le_add_left (by decide) _) hc, Nat.le_trans (Nat.add_le_add_left (by decide) _) hn⟩ ?_
  refine g_iload 1 o dL_law_393 rfl ?_
  refine g_icmp_eq (x := x390) (y := x366) 400 o dL_law_395 (by decide) (fun u => ?_) (fun u => ?_)
  · rw [if_pos u] at e
    refine g_iload 1 o dL_law_400 rfl ?_
    refine g_if_ne (x := x366) 417 o dL_law_402 (by decide) (fun u => ?_) (fun u => ?_)
    · rw [if_neg u] at e
      refine g_goto 1504 o dL_law_417 (by decide) ?_
      refine g_sb [2, 3, 4, 5, 6] rfl ?_
      refine g_wd (c2 := c + 27) (n2 := n + 864) (Nat.add_le_add_left (by decide) _) (Nat.add_le_add_left (by decide) _) ?_
      exact kx h390 e
    · rw [if_pos u] at e
      refine g_aload_n 5 o dL_law_405 rfl rfl ?_
      refine g_iconst (v := 0) o dL_law_406 (by decide) ?_
      obtain ⟨x407, q407, e⟩ := e
      refine g_lald o dL_law_407 q407 ?_
      refine g_iload 0 o dL_law_408 rfl ?_
      refine g_i2l (x := x384) o dL_law_410 ?_
      refine g_lcmp (x := x407) (y := (Int32.toInt64 x384)) o dL_law_411 ?_
      refine g_if_eq (x := (lg_cmp x407 (Int32.toInt64 x384))) 417 o dL_law_412 (by decide) (fun u => ?_) (fun u => ?_)
      · rw [if_pos u] at e
        refine g_goto 1504 o dL_law_417 (by decide) ?_
        refine g_sb [2, 3, 4, 5, 6] rfl ?_
        refine g_wd (c2 := c + 27) (n2 := n + 864) (Nat.add_le_add_left (by decide) _) (Nat.add_le_add_left (by decide) _) ?_
        exact kx h390 e
      · rw [if_neg u] at e
        exact e.elim
  · rw [if_neg u] at e
    exact e.elim
def lw5 (f0 L : Nat) (xs0 : Nat → Int32) (xo mo oo : Nat) (i : Int32) (h : Hp) (K : Hp → Prop) : Prop := ∃ x426, ldP L xs0 (i + 1) = some x426 ∧ ∃ x432, ldP L xs0 (i + 2) = some x432 ∧ ∃ u, ckO 11 h xo = some u ∧ ∃ x433 h433, fX11_way f0 xo x426 x432 h = some (x433, h433) ∧ ∃ x442, ldP L xs0 (i + 1) = some x442 ∧ ∃ x448, ldP L xs0 (i + 2) = some x448 ∧ ∃ u, ckO 12 h433 mo = some u ∧ ∃ x449 h449, fX12_way f0 mo x442 x448 h433 = some (x449, h449) ∧ (if x433 = x449 then K h449 else False)
set_option maxRecDepth 100000 in
set_option maxHeartbeats 4000000 in
theorem kl5 {X : Cx} (o : Ok X cL_law RL 7 room_1 (some .boolean)) (hst : (xl X).stackTraces = false) {sb L : Nat} {xs0 : Nat → Int32} (sc : SC X sb L xs0) (f0 xo mo oo : Nat) (i : Int32) (h : Hp) {c n : Nat} (hc : c + 27 ≤ room_1.cells) (hn : n + 864 ≤ room_1.slots) (K : Hp → Prop) (kx : ∀ h2 : Hp, K h2 → G X 7 1504 [(0, .ref sb), (1, .ref xo), (2, .ref mo), (3, .ref oo), (4, .int i)] [] h2 (c + 27) (n + 864)) (e : lw5 f0 L xs0 xo mo oo i h K) : G X 7 420 [(0, .ref sb), (1, .ref xo), (2, .ref mo), (3, .ref oo), (4, .int i)] [] h c n := by
  unfold lw5 at e
  refine g_aload_n 1 o dL_law_420 rfl rfl ?_
  refine g_aload_n 0 o dL_law_421 rfl rfl ?_
  refine g_iload 4 o dL_law_422 rfl ?_
  refine g_iconst (v := 1) o dL_law_424 (by decide) ?_
  refine g_iadd (x := i) (y := 1) o dL_law_425 ?_
  obtain ⟨x426, q426, e⟩ := e
  refine g_sld sc o dL_law_426 q426 ?_
  refine g_aload_n 0 o dL_law_427 rfl rfl ?_
  refine g_iload 4 o dL_law_428 rfl ?_
  refine g_iconst (v := 2) o dL_law_430 (by decide) ?_
  refine g_iadd (x := i) (y := 2) o dL_law_431 ?_
  obtain ⟨x432, q432, e⟩ := e
  refine g_sld sc o dL_law_432 q432 ?_
  obtain ⟨_, k433, e⟩ := e
  obtain ⟨x433, h433, q433, e⟩ := e
  refine g_callVv [.int x426, .int x432] o (mX11_way q433) cf11 (ckO_s k433) mw_808 mw_809 mw_810 mw_1 mw_811 rfl yo_X11_way rfl rfl (Nat.le_of_ble_eq_true rfl) ⟨by decide, by decide⟩ ⟨rfl, rfl⟩ dL_law_433 ⟨Nat.le_trans (Nat.le_add_right _ _) hc, Nat.le_trans (Nat.le_add_right _ _) hn⟩ ?_
  refine g_aload_n 2 o dL_law_436 rfl rfl ?_
  refine g_aload_n 0 o dL_law_437 rfl rfl ?_
  refine g_iload 4 o dL_law_438 rfl ?_
  refine g_iconst (v := 1) o dL_law_440 (by decide) ?_
  refine g_iadd (x := i) (y := 1) o dL_law_441 ?_
  obtain ⟨x442, q442, e⟩ := e
  refine g_sld sc o dL_law_442 q442 ?_
  refine g_aload_n 0 o dL_law_443 rfl rfl ?_
  refine g_iload 4 o dL_law_444 rfl ?_
  refine g_iconst (v := 2) o dL_law_446 (by decide) ?_
  refine g_iadd (x := i) (y := 2) o dL_law_447 ?_
  obtain ⟨x448, q448, e⟩ := e
  refine g_sld sc o dL_law_448 q448 ?_
  obtain ⟨_, k449, e⟩ := e
  obtain ⟨x449, h449, q449, e⟩ := e
  refine g_callVv [.int x442, .int x448] o (mX12_way q449) cf12 (ckO_s k449) mw_1384 mw_1385 mw_1386 mw_19 mw_1387 rfl yo_X12_way rfl rfl (Nat.le_of_ble_eq_true rfl) ⟨by decide, by decide⟩ ⟨rfl, rfl⟩ dL_law_449 ⟨Nat.le_trans (Nat.le_add_right _ _) hc, Nat.le_trans (Nat.le_add_right _ _) hn⟩ ?_
  refine g_icmp_eq (x := x433) (y := x449) 1504 o dL_law_452 (by decide) (fun u => ?_) (fun u => ?_)
  · rw [if_pos u] at e
    refine g_wd (c2 := c + 27) (n2 := n + 864) (Nat.le_add_right _ _) (Nat.le_add_right _ _) ?_
    exact kx h449 e
  · rw [if_neg u] at e
    exact e.elim
def lw6 (f0 L : Nat) (xs0 : Nat → Int32) (xo mo oo : Nat) (i : Int32) (h : Hp) (K : Hp → Prop) : Prop := ∃ x463, ldP L xs0 (i + 1) = some x463 ∧ ∃ x469, ldP L xs0 (i + 2) = some x469 ∧ ∃ u, ckO 11 h xo = some u ∧ ∃ x470 h470, fX11_mail f0 xo x463 x469 h = some (x470, h470) ∧ ∃ x479, ldP L xs0 (i + 1) = some x479 ∧ ∃ x485, ldP L xs0 (i + 2) = some x485 ∧ ∃ u, ckO 12 h470 mo = some u ∧ ∃ x486 h486, fX12_mail f0 mo x479 x485 h470 = some (x486, h486) ∧ (if x470 = x486 then K h486 else False)
set_option maxRecDepth 100000 in
set_option maxHeartbeats 4000000 in
theorem kl6 {X : Cx} (o : Ok X cL_law RL 7 room_1 (some .boolean)) (hst : (xl X).stackTraces = false) {sb L : Nat} {xs0 : Nat → Int32} (sc : SC X sb L xs0) (f0 xo mo oo : Nat) (i : Int32) (h : Hp) {c n : Nat} (hc : c + 27 ≤ room_1.cells) (hn : n + 864 ≤ room_1.slots) (K : Hp → Prop) (kx : ∀ h2 : Hp, K h2 → G X 7 1504 [(0, .ref sb), (1, .ref xo), (2, .ref mo), (3, .ref oo), (4, .int i)] [] h2 (c + 27) (n + 864)) (e : lw6 f0 L xs0 xo mo oo i h K) : G X 7 457 [(0, .ref sb), (1, .ref xo), (2, .ref mo), (3, .ref oo), (4, .int i)] [] h c n := by
  unfold lw6 at e
  refine g_aload_n 1 o dL_law_457 rfl rfl ?_
  refine g_aload_n 0 o dL_law_458 rfl rfl ?_
  refine g_iload 4 o dL_law_459 rfl ?_
  refine g_iconst (v := 1) o dL_law_461 (by decide) ?_
  refine g_iadd (x := i) (y := 1) o dL_law_462 ?_
  obtain ⟨x463, q463, e⟩ := e
  refine g_sld sc o dL_law_463 q463 ?_
  refine g_aload_n 0 o dL_law_464 rfl rfl ?_
  refine g_iload 4 o dL_law_465 rfl ?_
  refine g_iconst (v := 2) o dL_law_467 (by decide) ?_
  refine g_iadd (x := i) (y := 2) o dL_law_468 ?_
  obtain ⟨x469, q469, e⟩ := e
  refine g_sld sc o dL_law_469 q469 ?_
  obtain ⟨_, k470, e⟩ := e
  obtain ⟨x470, h470, q470, e⟩ := e
  refine g_callVv [.int x463, .int x469] o (mX11_mail q470) cf11 (ckO_s k470) mw_816 mw_817 mw_818 mw_1 mw_819 rfl yo_X11_mail rfl rfl (Nat.le_of_ble_eq_true rfl) ⟨by decide, by decide⟩ ⟨rfl, rfl⟩ dL_law_470 ⟨Nat.le_trans (Nat.le_add_right _ _) hc, Nat.le_trans (Nat.le_add_right _ _) hn⟩ ?_
  refine g_aload_n 2 o dL_law_473 rfl rfl ?_
  refine g_aload_n 0 o dL_law_474 rfl rfl ?_
  refine g_iload 4 o dL_law_475 rfl ?_
  refine g_iconst (v := 1) o dL_law_477 (by decide) ?_
  refine g_iadd (x := i) (y := 1) o dL_law_478 ?_
  obtain ⟨x479, q479, e⟩ := e
  refine g_sld sc o dL_law_479 q479 ?_
  refine g_aload_n 0 o dL_law_480 rfl rfl ?_
  refine g_iload 4 o dL_law_481 rfl ?_
  refine g_iconst (v := 2) o dL_law_483 (by decide) ?_
  refine g_iadd (x := i) (y := 2) o dL_law_484 ?_
  obtain ⟨x485, q485, e⟩ := e
  refine g_sld sc o dL_law_485 q485 ?_
  obtain ⟨_, k486, e⟩ := e
  obtain ⟨x486, h486, q486, e⟩ := e
  refine g_callVv [.int x479, .int x485] o (mX12_mail q486) cf12 (ckO_s k486) mw_1391 mw_1392 mw_1393 mw_19 mw_1394 rfl yo_X12_mail rfl rfl (Nat.le_of_ble_eq_true rfl) ⟨by decide, by decide⟩ ⟨rfl, rfl⟩ dL_law_486 ⟨Nat.le_trans (Nat.le_add_right _ _) hc, Nat.le_trans (Nat.le_add_right _ _) hn⟩ ?_
  refine g_icmp_eq (x := x470) (y := x486) 1504 o dL_law_489 (by decide) (fun u => ?_) (fun u => ?_)
  · rw [if_pos u] at e
    refine g_wd (c2 := c + 27) (n2 := n + 864) (Nat.le_add_right _ _) (Nat.le_add_right _ _) ?_
    exact kx h486 e
  · rw [if_neg u] at e
    exact e.elim
def lw7 (f0 L : Nat) (xs0 : Nat → Int32) (xo mo oo : Nat) (i : Int32) (h : Hp) (K : Hp → Prop) : Prop := ∃ x500, ldP L xs0 (i + 1) = some x500 ∧ ∃ x506, ldP L xs0 (i + 2) = some x506 ∧ ∃ x512, ldP L xs0 (i + 3) = some x512 ∧ ∃ u, ckO 11 h xo = some u ∧ ∃ x513 h513, fX11_price f0 xo x500 x506 x512 h = some (x513, h513) ∧ ∃ x522, ldP L xs0 (i + 1) = some x522 ∧ ∃ x528, ldP L xs0 (i + 2) = some x528 ∧ ∃ x534, ldP L xs0 (i + 3) = some x534 ∧ ∃ u, ckO 12 h513 mo = some u ∧ ∃ x535 h535, fX12_price f0 mo x522 x528 x534 h513 = some (x535, h535) ∧ (if x513 = x535 then K h535 else False)
set_option maxRecDepth 100000 in
set_option maxHeartbeats 4000000 in
theorem kl7 {X : Cx} (o : Ok X cL_law RL 7 room_1 (some .boolean)) (hst : (xl X).stackTraces = false) {sb L : Nat} {xs0 : Nat → Int32} (sc : SC X sb L xs0) (f0 xo mo oo : Nat) (i : Int32) (h : Hp) {c n : Nat} (hc : c + 27 ≤ room_1.cells) (hn : n + 864 ≤ room_1.slots) (K : Hp → Prop) (kx : ∀ h2 : Hp, K h2 → G X 7 1504 [(0, .ref sb), (1, .ref xo), (2, .ref mo), (3, .ref oo), (4, .int i)] [] h2 (c + 27) (n + 864)) (e : lw7 f0 L xs0 xo mo oo i h K) : G X 7 494 [(0, .ref sb), (1, .ref xo), (2, .ref mo), (3, .ref oo), (4, .int i)] [] h c n := by
  unfold lw7 at e
  refine g_aload_n 1 o dL_law_494 rfl rfl ?_
  refine g_aload_n 0 o dL_law_495 rfl rfl ?_
  refine g_iload 4 o dL_law_496 rfl ?_
  refine g_iconst (v := 1) o dL_law_498 (by decide) ?_
  refine g_iadd (x := i) (y := 1) o dL_law_499 ?_
  obtain ⟨x500, q500, e⟩ := e
  refine g_sld sc o dL_law_500 q500 ?_
  refine g_aload_n 0 o dL_law_501 rfl rfl ?_
  refine g_iload 4 o dL_law_502 rfl ?_
  refine g_iconst (v := 2) o dL_law_504 (by decide) ?_
  refine g_iadd (x := i) (y := 2) o dL_law_505 ?_
  obtain ⟨x506, q506, e⟩ := e
  refine g_sld sc o dL_law_506 q506 ?_
  refine g_aload_n 0 o dL_law_507 rfl rfl ?_
  refine g_iload 4 o dL_law_508 rfl ?_
  refine g_iconst (v := 3) o dL_law_510 (by decide) ?_
  refine g_iadd (x := i) (y := 3) o dL_law_511 ?_
  obtain ⟨x512, q512, e⟩ := e
  refine g_sld sc o dL_law_512 q512 ?_
  obtain ⟨_, k513, e⟩ := e
  obtain ⟨x513, h513, q513, e⟩ := e
  refine g_callVv [.int x500, .int x506, .int x512] o (mX11_price q513) cf11 (ckO_s k513) mw_820 mw_821 mw_822 mw_1 mw_823 rfl yo_X11_price rfl rfl (Nat.le_of_ble_eq_true rfl) ⟨by decide, by decide⟩ ⟨rfl, rfl⟩ dL_law_513 ⟨Nat.le_trans (Nat.le_add_right _ _) hc, Nat.le_trans (Nat.le_add_right _ _) hn⟩ ?_
  refine g_aload_n 2 o dL_law_516 rfl rfl ?_
  refine g_aload_n 0 o dL_law_517 rfl rfl ?_
  refine g_iload 4 o dL_law_518 rfl ?_
  refine g_iconst (v := 1) o dL_law_520 (by decide) ?_
  refine g_iadd (x := i) (y := 1) o dL_law_521 ?_
  obtain ⟨x522, q522, e⟩ := e
  refine g_sld sc o dL_law_522 q522 ?_
  refine g_aload_n 0 o dL_law_523 rfl rfl ?_
  refine g_iload 4 o dL_law_524 rfl ?_
  refine g_iconst (v := 2) o dL_law_526 (by decide) ?_
  refine g_iadd (x := i) (y := 2) o dL_law_527 ?_
  obtain ⟨x528, q528, e⟩ := e
  refine g_sld sc o dL_law_528 q528 ?_
  refine g_aload_n 0 o dL_law_529 rfl rfl ?_
  refine g_iload 4 o dL_law_530 rfl ?_
  refine g_iconst (v := 3) o dL_law_532 (by decide) ?_
  refine g_iadd (x := i) (y := 3) o dL_law_533 ?_
  obtain ⟨x534, q534, e⟩ := e
  refine g_sld sc o dL_law_534 q534 ?_
  obtain ⟨_, k535, e⟩ := e
  obtain ⟨x535, h535, q535, e⟩ := e
  refine g_callVv [.int x522, .int x528, .int x534] o (mX12_price q535) cf12 (ckO_s k535) mw_1395 mw_1396 mw_1397 mw_19 mw_1398 rfl yo_X12_price rfl rfl (Nat.le_of_ble_eq_true rfl) ⟨by decide, by decide⟩ ⟨rfl, rfl⟩ dL_law_535 ⟨Nat.le_trans (Nat.le_add_right _ _) hc, Nat.le_trans (Nat.le_add_right _ _) hn⟩ ?_
  refine g_icmp_eq (x := x513) (y := x535) 1504 o dL_law_538 (by decide) (fun u => ?_) (fun u => ?_)
  · rw [if_pos u] at e
    refine g_wd (c2 := c + 27) (n2 := n + 864) (Nat.le_add_right _ _) (Nat.le_add_right _ _) ?_
    exact kx h535 e
  · rw [if_neg u] at e
    exact e.elim
def lw8 (f0 L : Nat) (xs0 : Nat → Int32) (xo mo oo : Nat) (i : Int32) (h : Hp) (K : Hp → Prop) : Prop := ∃ x549, ldP L xs0 (i + 1) = some x549 ∧ ∃ u, ckO 11 h xo = some u ∧ ∃ x550 h550, fX11_now f0 xo x549 h = some (x550, h550) ∧ ∃ x559, ldP L xs0 (i + 1) = some x559 ∧ ∃ u, ckO 12 h550 mo = some u ∧ ∃ x560 h560, fX12_now f0 mo x559 h550 = some (x560, h560) ∧ (if x550 = x560 then K h560 else False)
set_option maxRecDepth 100000 in
set_option maxHeartbeats 4000000 in
theorem kl8 {X : Cx} (o : Ok X cL_law RL 7 room_1 (some .boolean)) (hst : (xl X).stackTraces = false) {sb L : Nat} {xs0 : Nat → Int32} (sc : SC X sb L xs0) (f0 xo mo oo : Nat) (i : Int32) (h : Hp) {c n : Nat} (hc : c + 27 ≤ room_1.cells) (hn : n + 864 ≤ room_1.slots) (K : Hp → Prop) (kx : ∀ h2 : Hp, K h2 → G X 7 1504 [(0, .ref sb), (1, .ref xo), (2, .ref mo), (3, .ref oo), (4, .int i)] [] h2 (c + 27) (n + 864)) (e : lw8 f0 L xs0 xo mo oo i h K) : G X 7 543 [(0, .ref sb), (1, .ref xo), (2, .ref mo), (3, .ref oo), (4, .int i)] [] h c n := by
  unfold lw8 at e
  refine g_aload_n 1 o dL_law_543 rfl rfl ?_
  refine g_aload_n 0 o dL_law_544 rfl rfl ?_
  refine g_iload 4 o dL_law_545 rfl ?_
  refine g_iconst (v := 1) o dL_law_547 (by decide) ?_
  refine g_iadd (x := i) (y := 1) o dL_law_548 ?_
  obtain ⟨x549, q549, e⟩ := e
  refine g_sld sc o dL_law_549 q549 ?_
  obtain ⟨_, k550, e⟩ := e
  obtain ⟨x550, h550, q550, e⟩ := e
  refine g_callVv [.int x549] o (mX11_now q550) cf11 (ckO_s k550) mw_906 mw_907 mw_908 mw_1 mw_909 rfl yo_X11_now rfl rfl (Nat.le_of_ble_eq_true rfl) ⟨by decide, by decide⟩ ⟨rfl, rfl⟩ dL_law_550 ⟨Nat.le_trans (Nat.le_add_right _ _) hc, Nat.le_trans (Nat.le_add_right _ _) hn⟩ ?_
  refine g_aload_n 2 o dL_law_553 rfl rfl ?_
  refine g_aload_n 0 o dL_law_554 rfl rfl ?_
  refine g_iload 4 o dL_law_555 rfl ?_
  refine g_iconst (v := 1) o dL_law_557 (by decide) ?_
  refine g_iadd (x := i) (y := 1) o dL_law_558 ?_
  obtain ⟨x559, q559, e⟩ := e
  refine g_sld sc o dL_law_559 q559 ?_
  obtain ⟨_, k560, e⟩ := e
  obtain ⟨x560, h560, q560, e⟩ := e
  refine g_callVv [.int x559] o (mX12_now q560) cf12 (ckO_s k560) mw_1405 mw_1406 mw_1407 mw_19 mw_1408 rfl yo_X12_now rfl rfl (Nat.le_of_ble_eq_true rfl) ⟨by decide, by decide⟩ ⟨rfl, rfl⟩ dL_law_560 ⟨Nat.le_trans (Nat.le_add_right _ _) hc, Nat.le_trans (Nat.le_add_right _ _) hn⟩ ?_
  refine g_icmp_eq (x := x550) (y := x560) 1504 o dL_law_563 (by decide) (fun u => ?_) (fun u => ?_)
  · rw [if_pos u] at e
    refine g_wd (c2 := c + 27) (n2 := n + 864) (Nat.le_add_right _ _) (Nat.le_add_right _ _) ?_
    exact kx h560 e
  · rw [if_neg u] at e
    exact e.elim
def lw9 (f0 L : Nat) (xs0 : Nat → Int32) (xo mo oo : Nat) (i : Int32) (h : Hp) (K : Hp → Prop) : Prop := ∃ x574, ldP L xs0 (i + 1) = some x574 ∧ ∃ u, ckO 11 h xo = some u ∧ ∃ x575 h575, fX11_paint f0 xo x574 h = some (x575, h575) ∧ ∃ x584, ldP L xs0 (i + 1) = some x584 ∧ ∃ u, ckO 12 h575 mo = some u ∧ ∃ x585 h585, fX12_paint f0 mo x584 h575 = some (x585, h585) ∧ (if x575 = x585 then K h585 else False)
set_option maxRecDepth 100000 in
set_option maxHeartbeats 4000000 in
theorem kl9 {X : Cx} (o : Ok X cL_law RL 7 room_1 (some .boolean)) (hst : (xl X).stackTraces = false) {sb L : Nat} {xs0 : Nat → Int32} (sc : SC X sb L xs0) (f0 xo mo oo : Nat) (i : Int32) (h : Hp) {c n : Nat} (hc : c + 27 ≤ room_1.cells) (hn : n + 864 ≤ room_1.slots) (K : Hp → Prop) (kx : ∀ h2 : Hp, K h2 → G X 7 1504 [(0, .ref sb), (1, .ref xo), (2, .ref mo), (3, .ref oo), (4, .int i)] [] h2 (c + 27) (n + 864)) (e : lw9 f0 L xs0 xo mo oo i h K) : G X 7 568 [(0, .ref sb), (1, .ref xo), (2, .ref mo), (3, .ref oo), (4, .int i)] [] h c n := by
  unfold lw9 at e
  refine g_aload_n 1 o dL_law_568 rfl rfl ?_
  refine g_aload_n 0 o dL_law_569 rfl rfl ?_
  refine g_iload 4 o dL_law_570 rfl ?_
  refine g_iconst (v := 1) o dL_law_572 (by decide) ?_
  refine g_iadd (x := i) (y := 1) o dL_law_573 ?_
  obtain ⟨x574, q574, e⟩ := e
  refine g_sld sc o dL_law_574 q574 ?_
  obtain ⟨_, k575, e⟩ := e
  obtain ⟨x575, h575, q575, e⟩ := e
  refine g_callVv [.int x574] o (mX11_paint q575) cf11 (ckO_s k575) mw_968 mw_969 mw_970 mw_1 mw_971 rfl yo_X11_paint rfl rfl (Nat.le_of_ble_eq_true rfl) ⟨by decide, by decide⟩ ⟨rfl, rfl⟩ dL_law_575 ⟨Nat.le_trans (Nat.le_add_right _ _) hc, Nat.le_trans (Nat.le_add_right _ _) hn⟩ ?_
  refine g_aload_n 2 o dL_law_578 rfl rfl ?_
  refine g_aload_n 0 o dL_law_579 rfl rfl ?_
  refine g_iload 4 o dL_law_580 rfl ?_
  refine g_iconst (v := 1) o dL_law_582 (by decide) ?_
  refine g_iadd (x := i) (y := 1) o dL_law_583 ?_
  obtain ⟨x584, q584, e⟩ := e
  refine g_sld sc o dL_law_584 q584 ?_
  obtain ⟨_, k585, e⟩ := e
  obtain ⟨x585, h585, q585, e⟩ := e
  refine g_callVv [.int x584] o (mX12_paint q585) cf12 (ckO_s k585) mw_1409 mw_1410 mw_1411 mw_19 mw_1412 rfl yo_X12_paint rfl rfl (Nat.le_of_ble_eq_true rfl) ⟨by decide, by decide⟩ ⟨rfl, rfl⟩ dL_law_585 ⟨Nat.le_trans (Nat.le_add_right _ _) hc, Nat.le_trans (Nat.le_add_right _ _) hn⟩ ?_
  refine g_icmp_eq (x := x575) (y := x585) 1504 o dL_law_588 (by decide) (fun u => ?_) (fun u => ?_)
  · rw [if_pos u] at e
    refine g_wd (c2 := c + 27) (n2 := n + 864) (Nat.le_add_right _ _) (Nat.le_add_right _ _) ?_
    exact kx h585 e
  · rw [if_neg u] at e
    exact e.elim
def lw10 (f0 L : Nat) (xs0 : Nat → Int32) (xo mo oo : Nat) (i : Int32) (h : Hp) (K : Hp → Prop) : Prop := ∃ x599, ldP L xs0 (i + 1) = some x599 ∧ ∃ u, ckO 11 h xo = some u ∧ ∃ x600 h600, fX11_sail f0 xo x599 h = some (x600, h600) ∧ ∃ x609, ldP L xs0 (i + 1) = some x609 ∧ ∃ u, ckO 12 h600 mo = some u ∧ ∃ x610 h610, fX12_sail f0 mo x609 h600 = some (x610, h610) ∧ (if x600 = x610 then K h610 else False)
set_option maxRecDepth 100000 in
set_option maxHeartbeats 4000000 in
theorem kl10 {X : Cx} (o : Ok X cL_law RL 7 room_1 (some .boolean)) (hst : (xl X).stackTraces = false) {sb L : Nat} {xs0 : Nat → Int32} (sc : SC X sb L xs0) (f0 xo mo oo : Nat) (i : Int32) (h : Hp) {c n : Nat} (hc : c + 27 ≤ room_1.cells) (hn : n + 864 ≤ room_1.slots) (K : Hp → Prop) (kx : ∀ h2 : Hp, K h2 → G X 7 1504 [(0, .ref sb), (1, .ref xo), (2, .ref mo), (3, .ref oo), (4, .int i)] [] h2 (c + 27) (n + 864)) (e : lw10 f0 L xs0 xo mo oo i h K) : G X 7 593 [(0, .ref sb), (1, .ref xo), (2, .ref mo), (3, .ref oo), (4, .int i)] [] h c n := by
  unfold lw10 at e
  refine g_aload_n 1 o dL_law_593 rfl rfl ?_
  refine g_aload_n 0 o dL_law_594 rfl rfl ?_
  refine g_iload 4 o dL_law_595 rfl ?_
  refine g_iconst (v := 1) o dL_law_597 (by decide) ?_
  refine g_iadd (x := i) (y := 1) o dL_law_598 ?_
  obtain ⟨x599, q599, e⟩ := e
  refine g_sld sc o dL_law_599 q599 ?_
  obtain ⟨_, k600, e⟩ := e
  obtain ⟨x600, h600, q600, e⟩ := e
  refine g_callVv [.int x599] o (mX11_sail q600) cf11 (ckO_s k600) mw_976 mw_977 mw_978 mw_1 mw_979 rfl yo_X11_sail rfl rfl (Nat.le_of_ble_eq_true rfl) ⟨by decide, by decide⟩ ⟨rfl, rfl⟩ dL_law_600 ⟨Nat.le_trans (Nat.le_add_right _ _) hc, Nat.le_trans (Nat.le_add_right _ _) hn⟩ ?_
  refine g_aload_n 2 o dL_law_603 rfl rfl ?_
  refine g_aload_n 0 o dL_law_604 rfl rfl ?_
  refine g_iload 4 o dL_law_605 rfl ?_
  refine g_iconst (v := 1) o dL_law_607 (by decide) ?_
  refine g_iadd (x := i) (y := 1) o dL_law_608 ?_
  obtain ⟨x609, q609, e⟩ := e
  refine g_sld sc o dL_law_609 q609 ?_
  obtain ⟨_, k610, e⟩ := e
  obtain ⟨x610, h610, q610, e⟩ := e
  refine g_callVv [.int x609] o (mX12_sail q610) cf12 (ckO_s k610) mw_1437 mw_1438 mw_1439 mw_19 mw_1440 rfl yo_X12_sail rfl rfl (Nat.le_of_ble_eq_true rfl) ⟨by decide, by decide⟩ ⟨rfl, rfl⟩ dL_law_610 ⟨Nat.le_trans (Nat.le_add_right _ _) hc, Nat.le_trans (Nat.le_add_right _ _) hn⟩ ?_
  refine g_icmp_eq (x := x600) (y := x610) 1504 o dL_law_613 (by decide) (fun u => ?_) (fun u => ?_)
  · rw [if_pos u] at e
    refine g_wd (c2 := c + 27) (n2 := n + 864) (Nat.le_add_right _ _) (Nat.le_add_right _ _) ?_
    exact kx h610 e
  · rw [if_neg u] at e
    exact e.elim
def lw11 (f0 L : Nat) (xs0 : Nat → Int32) (xo mo oo : Nat) (i : Int32) (h : Hp) (K : Hp → Prop) : Prop := ∃ x624, ldP L xs0 (i + 1) = some x624 ∧ ∃ u, ckO 11 h xo = some u ∧ ∃ x625 h625, fX11_waits f0 xo x624 h = some (x625, h625) ∧ ∃ x634, ldP L xs0 (i + 1) = some x634 ∧ ∃ u, ckO 12 h625 mo = some u ∧ ∃ x635 h635, fX12_waits f0 mo x634 h625 = some (x635, h635) ∧ (if x625 = x635 then K h635 else False)
set_option maxRecDepth 100000 in
set_option maxHeartbeats 4000000 in
theorem kl11 {X : Cx} (o : Ok X cL_law RL 7 room_1 (some .boolean)) (hst : (xl X).stackTraces = false) {sb L : Nat} {xs0 : Nat → Int32} (sc : SC X sb L xs0) (f0 xo mo oo : Nat) (i : Int32) (h : Hp) {c n : Nat} (hc : c + 27 ≤ room_1.cells) (hn : n + 864 ≤ room_1.slots) (K : Hp → Prop) (kx : ∀ h2 : Hp, K h2 → G X 7 1504 [(0, .ref sb), (1, .ref xo), (2, .ref mo), (3, .ref oo), (4, .int i)] [] h2 (c + 27) (n + 864)) (e : lw11 f0 L xs0 xo mo oo i h K) : G X 7 618 [(0, .ref sb), (1, .ref xo), (2, .ref mo), (3, .ref oo), (4, .int i)] [] h c n := by
  unfold lw11 at e
  refine g_aload_n 1 o dL_law_618 rfl rfl ?_
  refine g_aload_n 0 o dL_law_619 rfl rfl ?_
  refine g_iload 4 o dL_law_620 rfl ?_
  refine g_iconst (v := 1) o dL_law_622 (by decide) ?_
  refine g_iadd (x := i) (y := 1) o dL_law_623 ?_
  obtain ⟨x624, q624, e⟩ := e
  refine g_sld sc o dL_law_624 q624 ?_
  obtain ⟨_, k625, e⟩ := e
  obtain ⟨x625, h625, q625, e⟩ := e
  refine g_callVv [.int x624] o (mX11_waits q625) cf11 (ckO_s k625) mw_981 mw_982 mw_983 mw_1 mw_984 rfl yo_X11_waits rfl rfl (Nat.le_of_ble_eq_true rfl) ⟨by decide, by decide⟩ ⟨rfl, rfl⟩ dL_law_625 ⟨Nat.le_trans (Nat.le_add_right _ _) hc, Nat.le_trans (Nat.le_add_right _ _) hn⟩ ?_
  refine g_aload_n 2 o dL_law_628 rfl rfl ?_
  refine g_aload_n 0 o dL_law_629 rfl rfl ?_
  refine g_iload 4 o dL_law_630 rfl ?_
  refine g_iconst (v := 1) o dL_law_632 (by decide) ?_
  refine g_iadd (x := i) (y := 1) o dL_law_633 ?_
  obtain ⟨x634, q634, e⟩ := e
  refine g_sld sc o dL_law_634 q634 ?_
  obtain ⟨_, k635, e⟩ := e
  obtain ⟨x635, h635, q635, e⟩ := e
  refine g_callVv [.int x634] o (mX12_waits q635) cf12 (ckO_s k635) mw_1450 mw_1451 mw_1452 mw_19 mw_1453 rfl yo_X12_waits rfl rfl (Nat.le_of_ble_eq_true rfl) ⟨by decide, by decide⟩ ⟨rfl, rfl⟩ dL_law_635 ⟨Nat.le_trans (Nat.le_add_right _ _) hc, Nat.le_trans (Nat.le_add_right _ _) hn⟩ ?_
  refine g_icmp_eq (x := x625) (y := x635) 1504 o dL_law_638 (by decide) (fun u => ?_) (fun u => ?_)
  · rw [if_pos u] at e
    refine g_wd (c2 := c + 27) (n2 := n + 864) (Nat.le_add_right _ _) (Nat.le_add_right _ _) ?_
    exact kx h635 e
  · rw [if_neg u] at e
    exact e.elim
def lw12 (f0 L : Nat) (xs0 : Nat → Int32) (xo mo oo : Nat) (i : Int32) (h : Hp) (K : Hp → Prop) : Prop := ∃ u, ckO 11 h xo = some u ∧ ∃ x644 h644, fX11_takes f0 xo h = some (x644, h644) ∧ ∃ u, ckO 12 h644 mo = some u ∧ ∃ x648 h648, fX12_takes_ f0 mo h644 = some (x648, h648) ∧ (if x644 = x648 then K h648 else False)
set_option maxRecDepth 100000 in
set_option maxHeartbeats 4000000 in
theorem kl12 {X : Cx} (o : Ok X cL_law RL 7 room_1 (some .boolean)) (hst : (xl X).stackTraces = false) {sb L : Nat} {xs0 : Nat → Int32} (sc : SC X sb L xs0) (f0 xo mo oo : Nat) (i : Int32) (h : Hp) {c n : Nat} (hc : c + 27 ≤ room_1.cells) (hn : n + 864 ≤ room_1.slots) (K : Hp → Prop) (kx : ∀ h2 : Hp, K h2 → G X 7 1504 [(0, .ref sb), (1, .ref xo), (2, .ref mo), (3, .ref oo), (4, .int i)] [] h2 (c + 27) (n + 864)) (e : lw12 f0 L xs0 xo mo oo i h K) : G X 7 643 [(0, .ref sb), (1, .ref xo), (2, .ref mo), (3, .ref oo), (4, .int i)] [] h c n := by
  unfold lw12 at e
  refine g_aload_n 1 o dL_law_643 rfl rfl ?_
  obtain ⟨_, k644, e⟩ := e
  obtain ⟨x644, h644, q644, e⟩ := e
  refine g_callVv [] o (mX11_takes q644) cf11 (ckO_s k644) mw_986 mw_987 mw_988 mw_1 mw_989 rfl yo_X11_takes rfl rfl (Nat.le_of_ble_eq_true rfl) ⟨by decide, by decide⟩ ⟨rfl, rfl⟩ dL_law_644 ⟨Nat.le_trans (Nat.le_add_right _ _) hc, Nat.le_trans (Nat.le_add_right _ _) hn⟩ ?_
  refine g_aload_n 2 o dL_law_647 rfl rfl ?_
  obtain ⟨_, k648, e⟩ := e
  obtain ⟨x648, h648, q648, e⟩ := e
  refine g_callVv [] o (mX12_takes_ q648) cf12 (ckO_s k648) mw_1457 mw_1458 mw_1459 mw_19 mw_1460 rfl yo_X12_takes_ rfl rfl (Nat.le_of_ble_eq_true rfl) ⟨by decide, by decide⟩ ⟨rfl, rfl⟩ dL_law_648 ⟨Nat.le_trans (Nat.le_add_right _ _) hc, Nat.le_trans (Nat.le_add_right _ _) hn⟩ ?_
  refine g_icmp_eq (x := x644) (y := x648) 1504 o dL_law_651 (by decide) (fun u => ?_) (fun u => ?_)
  · rw [if_pos u] at e
    refine g_wd (c2 := c + 27) (n2 := n + 864) (Nat.le_add_right _ _) (Nat.le_add_right _ _) ?_
    exact kx h648 e
  · rw [if_neg u] at e
    exact e.elim
def lw13 (f0 L : Nat) (xs0 : Nat → Int32) (xo mo oo : Nat) (i : Int32) (h : Hp) (K : Hp → Prop) : Prop := ∃ x662, ldP L xs0 (i + 1) = some x662 ∧ ∃ x668, ldP L xs0 (i + 2) = some x668 ∧ ∃ u, ckO 11 h xo = some u ∧ ∃ x669 h669, fX11_learn f0 xo x662 x668 h = some (x669, h669) ∧ ∃ x678, ldP L xs0 (i + 1) = some x678 ∧ ∃ x684, ldP L xs0 (i + 2) = some x684 ∧ ∃ u, ckO 12 h669 mo = some u ∧ ∃ x685 h685, fX12_learn f0 mo x678 x684 h669 = some (x685, h685) ∧ (if x669 = x685 then K h685 else False)
set_option maxRecDepth 100000 in
set_option maxHeartbeats 4000000 in
theorem kl13 {X : Cx} (o : Ok X cL_law RL 7 room_1 (some .boolean)) (hst : (xl X).stackTraces = false) {sb L : Nat} {xs0 : Nat → Int32} (sc : SC X sb L xs0) (f0 xo mo oo : Nat) (i : Int32) (h : Hp) {c n : Nat} (hc : c + 27 ≤ room_1.cells) (hn : n + 864 ≤ room_1.slots) (K : Hp → Prop) (kx : ∀ h2 : Hp, K h2 → G X 7 1504 [(0, .ref sb), (1, .ref xo), (2, .ref mo), (3, .ref oo), (4, .int i)] [] h2 (c + 27) (n + 864)) (e : lw13 f0 L xs0 xo mo oo i h K) : G X 7 656 [(0, .ref sb), (1, .ref xo), (2, .ref mo), (3, .ref oo), (4, .int i)] [] h c n := by
  unfold lw13 at e
  refine g_aload_n 1 o dL_law_656 rfl rfl ?_
  refine g_aload_n 0 o dL_law_657 rfl rfl ?_
  refine g_iload 4 o dL_law_658 rfl ?_
  refine g_iconst (v := 1) o dL_law_660 (by decide) ?_
  refine g_iadd (x := i) (y := 1) o dL_law_661 ?_
  obtain ⟨x662, q662, e⟩ := e
  refine g_sld sc o dL_law_662 q662 ?_
  refine g_aload_n 0 o dL_law_663 rfl rfl ?_
  refine g_iload 4 o dL_law_664 rfl ?_
  refine g_iconst (v := 2) o dL_law_666 (by decide) ?_
  refine g_iadd (x := i) (y := 2) o dL_law_667 ?_
  obtain ⟨x668, q668, e⟩ := e
  refine g_sld sc o dL_law_668 q668 ?_
  obtain ⟨_, k669, e⟩ := e
  obtain ⟨x669, h669, q669, e⟩ := e
  refine g_callVv [.int x662, .int x668] o (mX11_learn q669) cf11 (ckO_s k669) mw_991 mw_992 mw_993 mw_1 mw_994 rfl yo_X11_learn rfl rfl (Nat.le_of_ble_eq_true rfl) ⟨by decide, by decide⟩ ⟨rfl, rfl⟩ dL_law_669 ⟨Nat.le_trans (Nat.le_add_right _ _) hc, Nat.le_trans (Nat.le_add_right _ _) hn⟩ ?_
  refine g_aload_n 2 o dL_law_672 rfl rfl ?_
  refine g_aload_n 0 o dL_law_673 rfl rfl ?_
  refine g_iload 4 o dL_law_674 rfl ?_
  refine g_iconst (v := 1) o dL_law_676 (by decide) ?_
  refine g_iadd (x := i) (y := 1) o dL_law_677 ?_
  obtain ⟨x678, q678, e⟩ := e
  refine g_sld sc o dL_law_678 q678 ?_
  refine g_aload_n 0 o dL_law_679 rfl rfl ?_
  refine g_iload 4 o dL_law_680 rfl ?_
  refine g_iconst (v := 2) o dL_law_682 (by decide) ?_
  refine g_iadd (x := i) (y := 2) o dL_law_683 ?_
  obtain ⟨x684, q684, e⟩ := e
  refine g_sld sc o dL_law_684 q684 ?_
  obtain ⟨_, k685, e⟩ := e
  obtain ⟨x685, h685, q685, e⟩ := e
  refine g_callVv [.int x678, .int x684] o (mX12_learn q685) cf12 (ckO_s k685) mw_1467 mw_1468 mw_1469 mw_19 mw_1470 rfl yo_X12_learn rfl rfl (Nat.le_of_ble_eq_true rfl) ⟨by decide, by decide⟩ ⟨rfl, rfl⟩ dL_law_685 ⟨Nat.le_trans (Nat.le_add_right _ _) hc, Nat.le_trans (Nat.le_add_right _ _) hn⟩ ?_
  refine g_icmp_eq (x := x669) (y := x685) 1504 o dL_law_688 (by decide) (fun u => ?_) (fun u => ?_)
  · rw [if_pos u] at e
    refine g_wd (c2 := c + 27) (n2 := n + 864) (Nat.le_add_right _ _) (Nat.le_add_right _ _) ?_
    exact kx h685 e
  · rw [if_neg u] at e
    exact e.elim
def lw14 (f0 L : Nat) (xs0 : Nat → Int32) (xo mo oo : Nat) (i : Int32) (h : Hp) (K : Hp → Prop) : Prop := ∃ u, ckO 11 h xo = some u ∧ ∃ x694 h694, fX11_undo f0 xo h = some (x694, h694) ∧ ∃ u, ckO 12 h694 mo = some u ∧ ∃ x698 h698, fX12_undo f0 mo h694 = some (x698, h698) ∧ (if x694 = x698 then K h698 else False)
set_option maxRecDepth 100000 in
set_option maxHeartbeats 4000000 in
theorem kl14 {X : Cx} (o : Ok X cL_law RL 7 room_1 (some .boolean)) (hst : (xl X).stackTraces = false) {sb L : Nat} {xs0 : Nat → Int32} (sc : SC X sb L xs0) (f0 xo mo oo : Nat) (i : Int32) (h : Hp) {c n : Nat} (hc : c + 27 ≤ room_1.cells) (hn : n + 864 ≤ room_1.slots) (K : Hp → Prop) (kx : ∀ h2 : Hp, K h2 → G X 7 1504 [(0, .ref sb), (1, .ref xo), (2, .ref mo), (3, .ref oo), (4, .int i)] [] h2 (c + 27) (n + 864)) (e : lw14 f0 L xs0 xo mo oo i h K) : G X 7 693 [(0, .ref sb), (1, .ref xo), (2, .ref mo), (3, .ref oo), (4, .int i)] [] h c n := by
  unfold lw14 at e
  refine g_aload_n 1 o dL_law_693 rfl rfl ?_
  obtain ⟨_, k694, e⟩ := e
  obtain ⟨x694, h694, q694, e⟩ := e
  refine g_callVv [] o (mX11_undo q694) cf11 (ckO_s k694) mw_1017 mw_1018 mw_1019 mw_1 mw_1020 rfl yo_X11_undo rfl rfl (Nat.le_of_ble_eq_true rfl) ⟨by decide, by decide⟩ ⟨rfl, rfl⟩ dL_law_694 ⟨Nat.le_trans (Nat.le_add_right _ _) hc, Nat.le_trans (Nat.le_add_right _ _) hn⟩ ?_
  refine g_aload_n 2 o dL_law_697 rfl rfl ?_
  obtain ⟨_, k698, e⟩ := e
  obtain ⟨x698, h698, q698, e⟩ := e
  refine g_callVv [] o (mX12_undo q698) cf12 (ckO_s k698) mw_1480 mw_1481 mw_1482 mw_19 mw_1483 rfl yo_X12_undo rfl rfl (Nat.le_of_ble_eq_true rfl) ⟨by decide, by decide⟩ ⟨rfl, rfl⟩ dL_law_698 ⟨Nat.le_trans (Nat.le_add_right _ _) hc, Nat.le_trans (Nat.le_add_right _ _) hn⟩ ?_
  refine g_icmp_eq (x := x694) (y := x698) 1504 o dL_law_701 (by decide) (fun u => ?_) (fun u => ?_)
  · rw [if_pos u] at e
    refine g_wd (c2 := c + 27) (n2 := n + 864) (Nat.le_add_right _ _) (Nat.le_add_right _ _) ?_
    exact kx h698 e
  · rw [if_neg u] at e
    exact e.elim
def lw15 (f0 L : Nat) (xs0 : Nat → Int32) (xo mo oo : Nat) (i : Int32) (h : Hp) (K : Hp → Prop) : Prop := ∃ x712, ldP L xs0 (i + 1) = some x712 ∧ ∃ x718, ldP L xs0 (i + 2) = some x718 ∧ ∃ u, ckO 11 h xo = some u ∧ ∃ x719 h719, fX11_knows f0 xo x712 x718 h = some (x719, h719) ∧ ∃ x728, ldP L xs0 (i + 1) = some x728 ∧ ∃ x734, ldP L xs0 (i + 2) = some x734 ∧ ∃ u, ckO 12 h719 mo = some u ∧ ∃ x735 h735, fX12_knows f0 mo x728 x734 h719 = some (x735, h735) ∧ (if x719 = x735 then K h735 else False)
set_option maxRecDepth 100000 in
set_option maxHeartbeats 4000000 in
theorem kl15 {X : Cx} (o : Ok X cL_law RL 7 room_1 (some .boolean)) (hst : (xl X).stackTraces = false) {sb L : Nat} {xs0 : Nat → Int32} (sc : SC X sb L xs0) (f0 xo mo oo : Nat) (i : Int32) (h : Hp) {c n : Nat} (hc : c + 27 ≤ room_1.cells) (hn : n + 864 ≤ room_1.slots) (K : Hp → Prop) (kx : ∀ h2 : Hp, K h2 → G X 7 1504 [(0, .ref sb), (1, .ref xo), (2, .ref mo), (3, .ref oo), (4, .int i)] [] h2 (c + 27) (n + 864)) (e : lw15 f0 L xs0 xo mo oo i h K) : G X 7 706 [(0, .ref sb), (1, .ref xo), (2, .ref mo), (3, .ref oo), (4, .int i)] [] h c n := by
  unfold lw15 at e
  refine g_aload_n 1 o dL_law_706 rfl rfl ?_
  refine g_aload_n 0 o dL_law_707 rfl rfl ?_
  refine g_iload 4 o dL_law_708 rfl ?_
  refine g_iconst (v := 1) o dL_law_710 (by decide) ?_
  refine g_iadd (x := i) (y := 1) o dL_law_711 ?_
  obtain ⟨x712, q712, e⟩ := e
  refine g_sld sc o dL_law_712 q712 ?_
  refine g_aload_n 0 o dL_law_713 rfl rfl ?_
  refine g_iload 4 o dL_law_714 rfl ?_
  refine g_iconst (v := 2) o dL_law_716 (by decide) ?_
  refine g_iadd (x := i) (y := 2) o dL_law_717 ?_
  obtain ⟨x718, q718, e⟩ := e
  refine g_sld sc o dL_law_718 q718 ?_
  obtain ⟨_, k719, e⟩ := e
  obtain ⟨x719, h719, q719, e⟩ := e
  refine g_callVv [.int x712, .int x718] o (mX11_knows q719) cf11 (ckO_s k719) mw_935 mw_936 mw_937 mw_1 mw_938 rfl yo_X11_knows rfl rfl (Nat.le_of_ble_eq_true rfl) ⟨by decide, by decide⟩ ⟨rfl, rfl⟩ dL_law_719 ⟨Nat.le_trans (Nat.le_add_right _ _) hc, Nat.le_trans (Nat.le_add_right _ _) hn⟩ ?_
  refine g_aload_n 2 o dL_law_722 rfl rfl ?_
  refine g_aload_n 0 o dL_law_723 rfl rfl ?_
  refine g_iload 4 o dL_law_724 rfl ?_
  refine g_iconst (v := 1) o dL_law_726 (by decide) ?_
  refine g_iadd (x := i) (y := 1) o dL_law_727 ?_
  obtain ⟨x728, q728, e⟩ := e
  refine g_sld sc o dL_law_728 q728 ?_
  refine g_aload_n 0 o dL_law_729 rfl rfl ?_
  refine g_iload 4 o dL_law_730 rfl ?_
  refine g_iconst (v := 2) o dL_law_732 (by decide) ?_
  refine g_iadd (x := i) (y := 2) o dL_law_733 ?_
  obtain ⟨x734, q734, e⟩ := e
  refine g_sld sc o dL_law_734 q734 ?_
  obtain ⟨_, k735, e⟩ := e
  obtain ⟨x735, h735, q735, e⟩ := e
  refine g_callVv [.int x728, .int x734] o (mX12_knows q735) cf12 (ckO_s k735) mw_1484 mw_1485 mw_1486 mw_19 mw_1487 rfl yo_X12_knows rfl rfl (Nat.le_of_ble_eq_true rfl) ⟨by decide, by decide⟩ ⟨rfl, rfl⟩ dL_law_735 ⟨Nat.le_trans (Nat.le_add_right _ _) hc, Nat.le_trans (Nat.le_add_right _ _) hn⟩ ?_
  refine g_icmp_eq (x := x719) (y := x735) 1504 o dL_law_738 (by decide) (fun u => ?_) (fun u => ?_)
  · rw [if_pos u] at e
    refine g_wd (c2 := c + 27) (n2 := n + 864) (Nat.le_add_right _ _) (Nat.le_add_right _ _) ?_
    exact kx h735 e
  · rw [if_neg u] at e
    exact e.elim
def lw16 (f0 L : Nat) (xs0 : Nat → Int32) (xo mo oo : Nat) (i : Int32) (h : Hp) (K : Hp → Prop) : Prop := ∃ x749, ldP L xs0 (i + 1) = some x749 ∧ ∃ u, ckO 11 h xo = some u ∧ ∃ x750 h750, fX11_first f0 xo x749 h = some (x750, h750) ∧ ∃ x759, ldP L xs0 (i + 1) = some x759 ∧ ∃ u, ckO 12 h750 mo = some u ∧ ∃ x760 h760, fX12_first f0 mo x759 h750 = some (x760, h760) ∧ (if x750 = x760 then K h760 else False)
set_option maxRecDepth 100000 in
set_option maxHeartbeats 4000000 in
theorem kl16 {X : Cx} (o : Ok X cL_law RL 7 room_1 (some .boolean)) (hst : (xl X).stackTraces = false) {sb L : Nat} {xs0 : Nat → Int32} (sc : SC X sb L xs0) (f0 xo mo oo : Nat) (i : Int32) (h : Hp) {c n : Nat} (hc : c + 27 ≤ room_1.cells) (hn : n + 864 ≤ room_1.slots) (K : Hp → Prop) (kx : ∀ h2 : Hp, K h2 → G X 7 1504 [(0, .ref sb), (1, .ref xo), (2, .ref mo), (3, .ref oo), (4, .int i)] [] h2 (c + 27) (n + 864)) (e : lw16 f0 L xs0 xo mo oo i h K) : G X 7 743 [(0, .ref sb), (1, .ref xo), (2, .ref mo), (3, .ref oo), (4, .int i)] [] h c n := by
  unfold lw16 at e
  refine g_aload_n 1 o dL_law_743 rfl rfl ?_
  refine g_aload_n 0 o dL_law_744 rfl rfl ?_
  refine g_iload 4 o dL_law_745 rfl ?_
  refine g_iconst (v := 1) o dL_law_747 (by decide) ?_
  refine g_iadd (x := i) (y := 1) o dL_law_748 ?_
  obtain ⟨x749, q749, e⟩ := e
  refine g_sld sc o dL_law_749 q749 ?_
  obtain ⟨_, k750, e⟩ := e
  obtain ⟨x750, h750, q750, e⟩ := e
  refine g_callVv [.int x749] o (mX11_first q750) cf11 (ckO_s k750) mw_939 mw_940 mw_941 mw_1 mw_942 rfl yo_X11_first rfl rfl (Nat.le_of_ble_eq_true rfl) ⟨by decide, by decide⟩ ⟨rfl, rfl⟩ dL_law_750 ⟨Nat.le_trans (Nat.le_add_right _ _) hc, Nat.le_trans (Nat.le_add_right _ _) hn⟩ ?_
  refine g_aload_n 2 o dL_law_753 rfl rfl ?_
  refine g_aload_n 0 o dL_law_754 rfl rfl ?_
  refine g_iload 4 o dL_law_755 rfl ?_
  refine g_iconst (v := 1) o dL_law_757 (by decide) ?_
  refine g_iadd (x := i) (y := 1) o dL_law_758 ?_
  obtain ⟨x759, q759, e⟩ := e
  refine g_sld sc o dL_law_759 q759 ?_
  obtain ⟨_, k760, e⟩ := e
  obtain ⟨x760, h760, q760, e⟩ := e
  refine g_callVv [.int x759] o (mX12_first q760) cf12 (ckO_s k760) mw_1488 mw_1489 mw_1490 mw_19 mw_1491 rfl yo_X12_first rfl rfl (Nat.le_of_ble_eq_true rfl) ⟨by decide, by decide⟩ ⟨rfl, rfl⟩ dL_law_760 ⟨Nat.le_trans (Nat.le_add_right _ _) hc, Nat.le_trans (Nat.le_add_right _ _) hn⟩ ?_
  refine g_icmp_eq (x := x750) (y := x760) 1504 o dL_law_763 (by decide) (fun u => ?_) (fun u => ?_)
  · rw [if_pos u] at e
    refine g_wd (c2 := c + 27) (n2 := n + 864) (Nat.le_add_right _ _) (Nat.le_add_right _ _) ?_
    exact kx h760 e
  · rw [if_neg u] at e
    exact e.elim
def lw17 (f0 L : Nat) (xs0 : Nat → Int32) (xo mo oo : Nat) (i : Int32) (h : Hp) (K : Hp → Prop) : Prop := ∃ x774, ldP L xs0 (i + 1) = some x774 ∧ ∃ x780, ldP L xs0 (i + 2) = some x780 ∧ ∃ u, ckO 11 h xo = some u ∧ ∃ x781 h781, fX11_far f0 xo x774 x780 h = some (x781, h781) ∧ ∃ x790, ldP L xs0 (i + 1) = some x790 ∧ ∃ x796, ldP L xs0 (i + 2) = some x796 ∧ ∃ u, ckO 12 h781 mo = some u ∧ ∃ x797 h797, fX12_far f0 mo x790 x796 h781 = some (x797, h797) ∧ (if x781 = x797 then K h797 else False)
set_option maxRecDepth 100000 in
set_option maxHeartbeats 4000000 in
theorem kl17 {X : Cx} (o : Ok X cL_law RL 7 room_1 (some .boolean)) (hst : (xl X).stackTraces = false) {sb L : Nat} {xs0 : Nat → Int32} (sc : SC X sb L xs0) (f0 xo mo oo : Nat) (i : Int32) (h : Hp) {c n : Nat} (hc : c + 27 ≤ room_1.cells) (hn : n + 864 ≤ room_1.slots) (K : Hp → Prop) (kx : ∀ h2 : Hp, K h2 → G X 7 1504 [(0, .ref sb), (1, .ref xo), (2, .ref mo), (3, .ref oo), (4, .int i)] [] h2 (c + 27) (n + 864)) (e : lw17 f0 L xs0 xo mo oo i h K) : G X 7 768 [(0, .ref sb), (1, .ref xo), (2, .ref mo), (3, .ref oo), (4, .int i)] [] h c n := by
  unfold lw17 at e
  refine g_aload_n 1 o dL_law_768 rfl rfl ?_
  refine g_aload_n 0 o dL_law_769 rfl rfl ?_
  refine g_iload 4 o dL_law_770 rfl ?_
  refine g_iconst (v := 1) o dL_law_772 (by decide) ?_
  refine g_iadd (x := i) (y := 1) o dL_law_773 ?_
  obtain ⟨x774, q774, e⟩ := e
  refine g_sld sc o dL_law_774 q774 ?_
  refine g_aload_n 0 o dL_law_775 rfl rfl ?_
  refine g_iload 4 o dL_law_776 rfl ?_
  refine g_iconst (v := 2) o dL_law_778 (by decide) ?_
  refine g_iadd (x := i) (y := 2) o dL_law_779 ?_
  obtain ⟨x780, q780, e⟩ := e
  refine g_sld sc o dL_law_780 q780 ?_
  obtain ⟨_, k781, e⟩ := e
  obtain ⟨x781, h781, q781, e⟩ := e
  refine g_callVv [.int x774, .int x780] o (mX11_far q781) cf11 (ckO_s k781) mw_826 mw_827 mw_828 mw_1 mw_829 rfl yo_X11_far rfl rfl (Nat.le_of_ble_eq_true rfl) ⟨by decide, by decide⟩ ⟨rfl, rfl⟩ dL_law_781 ⟨Nat.le_trans (Nat.le_add_right _ _) hc, Nat.le_trans (Nat.le_add_right _ _) hn⟩ ?_
  refine g_aload_n 2 o dL_law_784 rfl rfl ?_
  refine g_aload_n 0 o dL_law_785 rfl rfl ?_
  refine g_iload 4 o dL_law_786 rfl ?_
  refine g_iconst (v := 1) o dL_law_788 (by decide) ?_
  refine g_iadd (x := i) (y := 1) o dL_law_789 ?_
  obtain ⟨x790, q790, e⟩ := e
  refine g_sld sc o dL_law_790 q790 ?_
  refine g_aload_n 0 o dL_law_791 rfl rfl ?_
  refine g_iload 4 o dL_law_792 rfl ?_
  refine g_iconst (v := 2) o dL_law_794 (by decide) ?_
  refine g_iadd (x := i) (y := 2) o dL_law_795 ?_
  obtain ⟨x796, q796, e⟩ := e
  refine g_sld sc o dL_law_796 q796 ?_
  obtain ⟨_, k797, e⟩ := e
  obtain ⟨x797, h797, q797, e⟩ := e
  refine g_callVv [.int x790, .int x796] o (mX12_far q797) cf12 (ckO_s k797) mw_1492 mw_1493 mw_1494 mw_19 mw_1495 rfl yo_X12_far rfl rfl (Nat.le_of_ble_eq_true rfl) ⟨by decide, by decide⟩ ⟨rfl, rfl⟩ dL_law_797 ⟨Nat.le_trans (Nat.le_add_right _ _) hc, Nat.le_trans (Nat.le_add_right _ _) hn⟩ ?_
  refine g_icmp_eq (x := x781) (y := x797) 1504 o dL_law_800 (by decide) (fun u => ?_) (fun u => ?_)
  · rw [if_pos u] at e
    refine g_wd (c2 := c + 27) (n2 := n + 864) (Nat.le_add_right _ _) (Nat.le_add_right _ _) ?_
    exact kx h797 e
  · rw [if_neg u] at e
    exact e.elim
def lw18 (f0 L : Nat) (xs0 : Nat → Int32) (xo mo oo : Nat) (i : Int32) (h : Hp) (K : Hp → Prop) : Prop := ∃ x811, ldP L xs0 (i + 1) = some x811 ∧ ∃ x817, ldP L xs0 (i + 2) = some x817 ∧ ∃ u, ckO 11 h xo = some u ∧ ∃ x818 h818, fX11_hears f0 xo x811 x817 h = some (x818, h818) ∧ ∃ x827, ldP L xs0 (i + 1) = some x827 ∧ ∃ x833, ldP L xs0 (i + 2) = some x833 ∧ ∃ u, ckO 12 h818 mo = some u ∧ ∃ x834 h834, fX12_hears f0 mo x827 x833 h818 = some (x834, h834) ∧ (if x818 = x834 then K h834 else False)
set_option maxRecDepth 100000 in
set_option maxHeartbeats 4000000 in
theorem kl18 {X : Cx} (o : Ok X cL_law RL 7 room_1 (some .boolean)) (hst : (xl X).stackTraces = false) {sb L : Nat} {xs0 : Nat → Int32} (sc : SC X sb L xs0) (f0 xo mo oo : Nat) (i : Int32) (h : Hp) {c n : Nat} (hc : c + 27 ≤ room_1.cells) (hn : n + 864 ≤ room_1.slots) (K : Hp → Prop) (kx : ∀ h2 : Hp, K h2 → G X 7 1504 [(0, .ref sb), (1, .ref xo), (2, .ref mo), (3, .ref oo), (4, .int i)] [] h2 (c + 27) (n + 864)) (e : lw18 f0 L xs0 xo mo oo i h K) : G X 7 805 [(0, .ref sb), (1, .ref xo), (2, .ref mo), (3, .ref oo), (4, .int i)] [] h c n := by
  unfold lw18 at e
  refine g_aload_n 1 o dL_law_805 rfl rfl ?_
  refine g_aload_n 0 o dL_law_806 rfl rfl ?_
  refine g_iload 4 o dL_law_807 rfl ?_
  refine g_iconst (v := 1) o dL_law_809 (by decide) ?_
  refine g_iadd (x := i) (y := 1) o dL_law_810 ?_
  obtain ⟨x811, q811, e⟩ := e
  refine g_sld sc o dL_law_811 q811 ?_
  refine g_aload_n 0 o dL_law_812 rfl rfl ?_
  refine g_iload 4 o dL_law_813 rfl ?_
  refine g_iconst (v := 2) o dL_law_815 (by decide) ?_
  refine g_iadd (x := i) (y := 2) o dL_law_816 ?_
  obtain ⟨x817, q817, e⟩ := e
  refine g_sld sc o dL_law_817 q817 ?_
  obtain ⟨_, k818, e⟩ := e
  obtain ⟨x818, h818, q818, e⟩ := e
  refine g_callVv [.int x811, .int x817] o (mX11_hears q818) cf11 (ckO_s k818) mw_834 mw_835 mw_836 mw_1 mw_837 rfl yo_X11_hears rfl rfl (Nat.le_of_ble_eq_true rfl) ⟨by decide, by decide⟩ ⟨rfl, rfl⟩ dL_law_818 ⟨Nat.le_trans (Nat.le_add_right _ _) hc, Nat.le_trans (Nat.le_add_right _ _) hn⟩ ?_
  refine g_aload_n 2 o dL_law_821 rfl rfl ?_
  refine g_aload_n 0 o dL_law_822 rfl rfl ?_
  refine g_iload 4 o dL_law_823 rfl ?_
  refine g_iconst (v := 1) o dL_law_825 (by decide) ?_
  refine g_iadd (x := i) (y := 1) o dL_law_826 ?_
  obtain ⟨x827, q827, e⟩ := e
  refine g_sld sc o dL_law_827 q827 ?_
  refine g_aload_n 0 o dL_law_828 rfl rfl ?_
  refine g_iload 4 o dL_law_829 rfl ?_
  refine g_iconst (v := 2) o dL_law_831 (by decide) ?_
  refine g_iadd (x := i) (y := 2) o dL_law_832 ?_
  obtain ⟨x833, q833, e⟩ := e
  refine g_sld sc o dL_law_833 q833 ?_
  obtain ⟨_, k834, e⟩ := e
  obtain ⟨x834, h834, q834, e⟩ := e
  refine g_callVv [.int x827, .int x833] o (mX12_hears q834) cf12 (ckO_s k834) mw_1496 mw_1497 mw_1498 mw_19 mw_1499 rfl yo_X12_hears rfl rfl (Nat.le_of_ble_eq_true rfl) ⟨by decide, by decide⟩ ⟨rfl, rfl⟩ dL_law_834 ⟨Nat.le_trans (Nat.le_add_right _ _) hc, Nat.le_trans (Nat.le_add_right _ _) hn⟩ ?_
  refine g_icmp_eq (x := x818) (y := x834) 1504 o dL_law_837 (by decide) (fun u => ?_) (fun u => ?_)
  · rw [if_pos u] at e
    refine g_wd (c2 := c + 27) (n2 := n + 864) (Nat.le_add_right _ _) (Nat.le_add_right _ _) ?_
    exact kx h834 e
  · rw [if_neg u] at e
    exact e.elim
def lw19 (f0 L : Nat) (xs0 : Nat → Int32) (xo mo oo : Nat) (i : Int32) (h : Hp) (K : Hp → Prop) : Prop := ∃ x848, ldP L xs0 (i + 1) = some x848 ∧ ∃ u, ckO 11 h xo = some u ∧ ∃ x849 h849, fX11_safe f0 xo x848 h = some (x849, h849) ∧ ∃ x858, ldP L xs0 (i + 1) = some x858 ∧ ∃ u, ckO 12 h849 mo = some u ∧ ∃ x859 h859, fX12_safe f0 mo x858 h849 = some (x859, h859) ∧ (if x849 = x859 then K h859 else False)
set_option maxRecDepth 100000 in
set_option maxHeartbeats 4000000 in
theorem kl19 {X : Cx} (o : Ok X cL_law RL 7 room_1 (some .boolean)) (hst : (xl X).stackTraces = false) {sb L : Nat} {xs0 : Nat → Int32} (sc : SC X sb L xs0) (f0 xo mo oo : Nat) (i : Int32) (h : Hp) {c n : Nat} (hc : c + 27 ≤ room_1.cells) (hn : n + 864 ≤ room_1.slots) (K : Hp → Prop) (kx : ∀ h2 : Hp, K h2 → G X 7 1504 [(0, .ref sb), (1, .ref xo), (2, .ref mo), (3, .ref oo), (4, .int i)] [] h2 (c + 27) (n + 864)) (e : lw19 f0 L xs0 xo mo oo i h K) : G X 7 842 [(0, .ref sb), (1, .ref xo), (2, .ref mo), (3, .ref oo), (4, .int i)] [] h c n := by
  unfold lw19 at e
  refine g_aload_n 1 o dL_law_842 rfl rfl ?_
  refine g_aload_n 0 o dL_law_843 rfl rfl ?_
  refine g_iload 4 o dL_law_844 rfl ?_
  refine g_iconst (v := 1) o dL_law_846 (by decide) ?_
  refine g_iadd (x := i) (y := 1) o dL_law_847 ?_
  obtain ⟨x848, q848, e⟩ := e
  refine g_sld sc o dL_law_848 q848 ?_
  obtain ⟨_, k849, e⟩ := e
  obtain ⟨x849, h849, q849, e⟩ := e
  refine g_callVv [.int x848] o (mX11_safe q849) cf11 (ckO_s k849) mw_943 mw_944 mw_945 mw_1 mw_946 rfl yo_X11_safe rfl rfl (Nat.le_of_ble_eq_true rfl) ⟨by decide, by decide⟩ ⟨rfl, rfl⟩ dL_law_849 ⟨Nat.le_trans (Nat.le_add_right _ _) hc, Nat.le_trans (Nat.le_add_right _ _) hn⟩ ?_
  refine g_aload_n 2 o dL_law_852 rfl rfl ?_
  refine g_aload_n 0 o dL_law_853 rfl rfl ?_
  refine g_iload 4 o dL_law_854 rfl ?_
  refine g_iconst (v := 1) o dL_law_856 (by decide) ?_
  refine g_iadd (x := i) (y := 1) o dL_law_857 ?_
  obtain ⟨x858, q858, e⟩ := e
  refine g_sld sc o dL_law_858 q858 ?_
  obtain ⟨_, k859, e⟩ := e
  obtain ⟨x859, h859, q859, e⟩ := e
  refine g_callVv [.int x858] o (mX12_safe q859) cf12 (ckO_s k859) mw_1503 mw_1504 mw_1505 mw_19 mw_1506 rfl yo_X12_safe rfl rfl (Nat.le_of_ble_eq_true rfl) ⟨by decide, by decide⟩ ⟨rfl, rfl⟩ dL_law_859 ⟨Nat.le_trans (Nat.le_add_right _ _) hc, Nat.le_trans (Nat.le_add_right _ _) hn⟩ ?_
  refine g_icmp_eq (x := x849) (y := x859) 1504 o dL_law_862 (by decide) (fun u => ?_) (fun u => ?_)
  · rw [if_pos u] at e
    refine g_wd (c2 := c + 27) (n2 := n + 864) (Nat.le_add_right _ _) (Nat.le_add_right _ _) ?_
    exact kx h859 e
  · rw [if_neg u] at e
    exact e.elim
def lw20 (f0 L : Nat) (xs0 : Nat → Int32) (xo mo oo : Nat) (i : Int32) (h : Hp) (K : Hp → Prop) : Prop := ∃ x873, ldP L xs0 (i + 1) = some x873 ∧ ∃ u, ckO 11 h xo = some u ∧ ∃ x874 h874, fX11_outruns f0 xo x873 h = some (x874, h874) ∧ ∃ x883, ldP L xs0 (i + 1) = some x883 ∧ ∃ u, ckO 12 h874 mo = some u ∧ ∃ x884 h884, fX12_outruns f0 mo x883 h874 = some (x884, h884) ∧ (if x874 = x884 then K h884 else False)
set_option maxRecDepth 100000 in
set_option maxHeartbeats 4000000 in
theorem kl20 {X : Cx} (o : Ok X cL_law RL 7 room_1 (some .boolean)) (hst : (xl X).stackTraces = false) {sb L : Nat} {xs0 : Nat → Int32} (sc : SC X sb L xs0) (f0 xo mo oo : Nat) (i : Int32) (h : Hp) {c n : Nat} (hc : c + 27 ≤ room_1.cells) (hn : n + 864 ≤ room_1.slots) (K : Hp → Prop) (kx : ∀ h2 : Hp, K h2 → G X 7 1504 [(0, .ref sb), (1, .ref xo), (2, .ref mo), (3, .ref oo), (4, .int i)] [] h2 (c + 27) (n + 864)) (e : lw20 f0 L xs0 xo mo oo i h K) : G X 7 867 [(0, .ref sb), (1, .ref xo), (2, .ref mo), (3, .ref oo), (4, .int i)] [] h c n := by
  unfold lw20 at e
  refine g_aload_n 1 o dL_law_867 rfl rfl ?_
  refine g_aload_n 0 o dL_law_868 rfl rfl ?_
  refine g_iload 4 o dL_law_869 rfl ?_
  refine g_iconst (v := 1) o dL_law_871 (by decide) ?_
  refine g_iadd (x := i) (y := 1) o dL_law_872 ?_
  obtain ⟨x873, q873, e⟩ := e
  refine g_sld sc o dL_law_873 q873 ?_
  obtain ⟨_, k874, e⟩ := e
  obtain ⟨x874, h874, q874, e⟩ := e
  refine g_callVv [.int x873] o (mX11_outruns q874) cf11 (ckO_s k874) mw_949 mw_950 mw_951 mw_1 mw_952 rfl yo_X11_outruns rfl rfl (Nat.le_of_ble_eq_true rfl) ⟨by decide, by decide⟩ ⟨rfl, rfl⟩ dL_law_874 ⟨Nat.le_trans (Nat.le_add_right _ _) hc, Nat.le_trans (Nat.le_add_right _ _) hn⟩ ?_
  refine g_aload_n 2 o dL_law_877 rfl rfl ?_
  refine g_aload_n 0 o dL_law_878 rfl rfl ?_
  refine g_iload 4 o dL_law_879 rfl ?_
  refine g_iconst (v := 1) o dL_law_881 (by decide) ?_
  refine g_iadd (x := i) (y := 1) o dL_law_882 ?_
  obtain ⟨x883, q883, e⟩ := e
  refine g_sld sc o dL_law_883 q883 ?_
  obtain ⟨_, k884, e⟩ := e
  obtain ⟨x884, h884, q884, e⟩ := e
  refine g_callVv [.int x883] o (mX12_outruns q884) cf12 (ckO_s k884) mw_1507 mw_1508 mw_1509 mw_19 mw_1510 rfl yo_X12_outruns rfl rfl (Nat.le_of_ble_eq_true rfl) ⟨by decide, by decide⟩ ⟨rfl, rfl⟩ dL_law_884 ⟨Nat.le_trans (Nat.le_add_right _ _) hc, Nat.le_trans (Nat.le_add_right _ _) hn⟩ ?_
  refine g_icmp_eq (x := x874) (y := x884) 1504 o dL_law_887 (by decide) (fun u => ?_) (fun u => ?_)
  · rw [if_pos u] at e
    refine g_wd (c2 := c + 27) (n2 := n + 864) (Nat.le_add_right _ _) (Nat.le_add_right _ _) ?_
    exact kx h884 e
  · rw [if_neg u] at e
    exact e.elim
def lw21 (f0 L : Nat) (xs0 : Nat → Int32) (xo mo oo : Nat) (i : Int32) (h : Hp) (K : Hp → Prop) : Prop := ∃ u, ckO 11 h xo = some u ∧ ∃ x893 h893, fX11_names f0 xo h = some (x893, h893) ∧ ∃ u, ckO 12 h893 mo = some u ∧ ∃ x897 h897, fX12_names f0 mo h893 = some (x897, h897) ∧ (if x893 = x897 then K h897 else False)
set_option maxRecDepth 100000 in
set_option maxHeartbeats 4000000 in
theorem kl21 {X : Cx} (o : Ok X cL_law RL 7 room_1 (some .boolean)) (hst : (xl X).stackTraces = false) {sb L : Nat} {xs0 : Nat → Int32} (sc : SC X sb L xs0) (f0 xo mo oo : Nat) (i : Int32) (h : Hp) {c n : Nat} (hc : c + 27 ≤ room_1.cells) (hn : n + 864 ≤ room_1.slots) (K : Hp → Prop) (kx : ∀ h2 : Hp, K h2 → G X 7 1504 [(0, .ref sb), (1, .ref xo), (2, .ref mo), (3, .ref oo), (4, .int i)] [] h2 (c + 27) (n + 864)) (e : lw21 f0 L xs0 xo mo oo i h K) : G X 7 892 [(0, .ref sb), (1, .ref xo), (2, .ref mo), (3, .ref oo), (4, .int i)] [] h c n := by
  unfold lw21 at e
  refine g_aload_n 1 o dL_law_892 rfl rfl ?_
  obtain ⟨_, k893, e⟩ := e
  obtain ⟨x893, h893, q893, e⟩ := e
  refine g_callVv [] o (mX11_names q893) cf11 (ckO_s k893) mw_839 mw_840 mw_841 mw_1 mw_842 rfl yo_X11_names rfl rfl (Nat.le_of_ble_eq_true rfl) ⟨by decide, by decide⟩ ⟨rfl, rfl⟩ dL_law_893 ⟨Nat.le_trans (Nat.le_add_right _ _) hc, Nat.le_trans (Nat.le_add_right _ _) hn⟩ ?_
  refine g_aload_n 2 o dL_law_896 rfl rfl ?_
  obtain ⟨_, k897, e⟩ := e
  obtain ⟨x897, h897, q897, e⟩ := e
  refine g_callVv [] o (mX12_names q897) cf12 (ckO_s k897) mw_1511 mw_1512 mw_1513 mw_19 mw_1514 rfl yo_X12_names rfl rfl (Nat.le_of_ble_eq_true rfl) ⟨by decide, by decide⟩ ⟨rfl, rfl⟩ dL_law_897 ⟨Nat.le_trans (Nat.le_add_right _ _) hc, Nat.le_trans (Nat.le_add_right _ _) hn⟩ ?_
  refine g_icmp_eq (x := x893) (y := x897) 1504 o dL_law_900 (by decide) (fun u => ?_) (fun u => ?_)
  · rw [if_pos u] at e
    refine g_wd (c2 := c + 27) (n2 := n + 864) (Nat.le_add_right _ _) (Nat.le_add_right _ _) ?_
    exact kx h897 e
  · rw [if_neg u] at e
    exact e.elim
def lw22 (f0 L : Nat) (xs0 : Nat → Int32) (xo mo oo : Nat) (i : Int32) (h : Hp) (K : Hp → Prop) : Prop := ∃ x911, ldP L xs0 (i + 1) = some x911 ∧ ∃ u, ckO 11 h xo = some u ∧ ∃ x912 h912, fX11_nameOf f0 xo x911 h = some (x912, h912) ∧ ∃ x921, ldP L xs0 (i + 1) = some x921 ∧ ∃ u, ckO 12 h912 mo = some u ∧ ∃ x922 h922, fX12_nameOf f0 mo x921 h912 = some (x922, h922) ∧ (if x912 = x922 then K h922 else False)
set_option maxRecDepth 100000 in
set_option maxHeartbeats 4000000 in
theorem kl22 {X : Cx} (o : Ok X cL_law RL 7 room_1 (some .boolean)) (hst : (xl X).stackTraces = false) {sb L : Nat} {xs0 : Nat → Int32} (sc : SC X sb L xs0) (f0 xo mo oo : Nat) (i : Int32) (h : Hp) {c n : Nat} (hc : c + 27 ≤ room_1.cells) (hn : n + 864 ≤ room_1.slots) (K : Hp → Prop) (kx : ∀ h2 : Hp, K h2 → G X 7 1504 [(0, .ref sb), (1, .ref xo), (2, .ref mo), (3, .ref oo), (4, .int i)] [] h2 (c + 27) (n + 864)) (e : lw22 f0 L xs0 xo mo oo i h K) : G X 7 905 [(0, .ref sb), (1, .ref xo), (2, .ref mo), (3, .ref oo), (4, .int i)] [] h c n := by
  unfold lw22 at e
  refine g_aload_n 1 o dL_law_905 rfl rfl ?_
  refine g_aload_n 0 o dL_law_906 rfl rfl ?_
  refine g_iload 4 o dL_law_907 rfl ?_
  refine g_iconst (v := 1) o dL_law_909 (by decide) ?_
  refine g_iadd (x := i) (y := 1) o dL_law_910 ?_
  obtain ⟨x911, q911, e⟩ := e
  refine g_sld sc o dL_law_911 q911 ?_
  obtain ⟨_, k912, e⟩ := e
  obtain ⟨x912, h912, q912, e⟩ := e
  refine g_callVv [.int x911] o (mX11_nameOf q912) cf11 (ckO_s k912) mw_855 mw_856 mw_857 mw_1 mw_858 rfl yo_X11_nameOf rfl rfl (Nat.le_of_ble_eq_true rfl) ⟨by decide, by decide⟩ ⟨rfl, rfl⟩ dL_law_912 ⟨Nat.le_trans (Nat.le_add_right _ _) hc, Nat.le_trans (Nat.le_add_right _ _) hn⟩ ?_
  refine g_aload_n 2 o dL_law_915 rfl rfl ?_
  refine g_aload_n 0 o dL_law_916 rfl rfl ?_
  refine g_iload 4 o dL_law_917 rfl ?_
  refine g_iconst (v := 1) o dL_law_919 (by decide) ?_
  refine g_iadd (x := i) (y := 1) o dL_law_920 ?_
  obtain ⟨x921, q921, e⟩ := e
  refine g_sld sc o dL_law_921 q921 ?_
  obtain ⟨_, k922, e⟩ := e
  obtain ⟨x922, h922, q922, e⟩ := e
  refine g_callVv [.int x921] o (mX12_nameOf q922) cf12 (ckO_s k922) mw_1524 mw_1525 mw_1526 mw_19 mw_1527 rfl yo_X12_nameOf rfl rfl (Nat.le_of_ble_eq_true rfl) ⟨by decide, by decide⟩ ⟨rfl, rfl⟩ dL_law_922 ⟨Nat.le_trans (Nat.le_add_right _ _) hc, Nat.le_trans (Nat.le_add_right _ _) hn⟩ ?_
  refine g_icmp_eq (x := x912) (y := x922) 1504 o dL_law_925 (by decide) (fun u => ?_) (fun u => ?_)
  · rw [if_pos u] at e
    refine g_wd (c2 := c + 27) (n2 := n + 864) (Nat.le_add_right _ _) (Nat.le_add_right _ _) ?_
    exact kx h922 e
  · rw [if_neg u] at e
    exact e.elim
def lw23 (f0 L : Nat) (xs0 : Nat → Int32) (xo mo oo : Nat) (i : Int32) (h : Hp) (K : Hp → Prop) : Prop := ∃ u, ckO 11 h xo = some u ∧ ∃ x931 h931, fX11_register f0 xo h = some (x931, h931) ∧ ∃ u, ckO 12 h931 mo = some u ∧ ∃ x935 h935, fX12_register f0 mo h931 = some (x935, h935) ∧ (if x931 = x935 then K h935 else False)
set_option maxRecDepth 100000 in
set_option maxHeartbeats 4000000 in
theorem kl23 {X : Cx} (o : Ok X cL_law RL 7 room_1 (some .boolean)) (hst : (xl X).stackTraces = false) {sb L : Nat} {xs0 : Nat → Int32} (sc : SC X sb L xs0) (f0 xo mo oo : Nat) (i : Int32) (h : Hp) {c n : Nat} (hc : c + 27 ≤ room_1.cells) (hn : n + 864 ≤ room_1.slots) (K : Hp → Prop) (kx : ∀ h2 : Hp, K h2 → G X 7 1504 [(0, .ref sb), (1, .ref xo), (2, .ref mo), (3, .ref oo), (4, .int i)] [] h2 (c + 27) (n + 864)) (e : lw23 f0 L xs0 xo mo oo i h K) : G X 7 930 [(0, .ref sb), (1, .ref xo), (2, .ref mo), (3, .ref oo), (4, .int i)] [] h c n := by
  unfold lw23 at e
  refine g_aload_n 1 o dL_law_930 rfl rfl ?_
  obtain ⟨_, k931, e⟩ := e
  obtain ⟨x931, h931, q931, e⟩ := e
  refine g_callVv [] o (mX11_register q931) cf11 (ckO_s k931) mw_859 mw_860 mw_861 mw_1 mw_862 rfl yo_X11_register rfl rfl (Nat.le_of_ble_eq_true rfl) ⟨by decide, by decide⟩ ⟨rfl, rfl⟩ dL_law_931 ⟨Nat.le_trans (Nat.le_add_right _ _) hc, Nat.le_trans (Nat.le_add_right _ _) hn⟩ ?_
  refine g_aload_n 2 o dL_law_934 rfl rfl ?_
  obtain ⟨_, k935, e⟩ := e
  obtain ⟨x935, h935, q935, e⟩ := e
  refine g_callVv [] o (mX12_register q935) cf12 (ckO_s k935) mw_1528 mw_1529 mw_1530 mw_19 mw_1531 rfl yo_X12_register rfl rfl (Nat.le_of_ble_eq_true rfl) ⟨by decide, by decide⟩ ⟨rfl, rfl⟩ dL_law_935 ⟨Nat.le_trans (Nat.le_add_right _ _) hc, Nat.le_trans (Nat.le_add_right _ _) hn⟩ ?_
  refine g_icmp_eq (x := x931) (y := x935) 1504 o dL_law_938 (by decide) (fun u => ?_) (fun u => ?_)
  · rw [if_pos u] at e
    refine g_wd (c2 := c + 27) (n2 := n + 864) (Nat.le_add_right _ _) (Nat.le_add_right _ _) ?_
    exact kx h935 e
  · rw [if_neg u] at e
    exact e.elim
def lw24 (f0 L : Nat) (xs0 : Nat → Int32) (xo mo oo : Nat) (i : Int32) (h : Hp) (K : Hp → Prop) : Prop := ∃ x949, ldP L xs0 (i + 1) = some x949 ∧ ∃ u, ckO 11 h xo = some u ∧ ∃ x950 h950, fX11_lacks f0 xo x949 h = some (x950, h950) ∧ ∃ x959, ldP L xs0 (i + 1) = some x959 ∧ ∃ u, ckO 12 h950 mo = some u ∧ ∃ x960 h960, fX12_lacks f0 mo x959 h950 = some (x960, h960) ∧ (if x950 = x960 then K h960 else False)
set_option maxRecDepth 100000 in
set_option maxHeartbeats 4000000 in
theorem kl24 {X : Cx} (o : Ok X cL_law RL 7 room_1 (some .boolean)) (hst : (xl X).stackTraces = false) {sb L : Nat} {xs0 : Nat → Int32} (sc : SC X sb L xs0) (f0 xo mo oo : Nat) (i : Int32) (h : Hp) {c n : Nat} (hc : c + 27 ≤ room_1.cells) (hn : n + 864 ≤ room_1.slots) (K : Hp → Prop) (kx : ∀ h2 : Hp, K h2 → G X 7 1504 [(0, .ref sb), (1, .ref xo), (2, .ref mo), (3, .ref oo), (4, .int i)] [] h2 (c + 27) (n + 864)) (e : lw24 f0 L xs0 xo mo oo i h K) : G X 7 943 [(0, .ref sb), (1, .ref xo), (2, .ref mo), (3, .ref oo), (4, .int i)] [] h c n := by
  unfold lw24 at e
  refine g_aload_n 1 o dL_law_943 rfl rfl ?_
  refine g_aload_n 0 o dL_law_944 rfl rfl ?_
  refine g_iload 4 o dL_law_945 rfl ?_
  refine g_iconst (v := 1) o dL_law_947 (by decide) ?_
  refine g_iadd (x := i) (y := 1) o dL_law_948 ?_
  obtain ⟨x949, q949, e⟩ := e
  refine g_sld sc o dL_law_949 q949 ?_
  obtain ⟨_, k950, e⟩ := e
  obtain ⟨x950, h950, q950, e⟩ := e
  refine g_callVv [.int x949] o (mX11_lacks q950) cf11 (ckO_s k950) mw_914 mw_915 mw_916 mw_1 mw_917 rfl yo_X11_lacks rfl rfl (Nat.le_of_ble_eq_true rfl) ⟨by decide, by decide⟩ ⟨rfl, rfl⟩ dL_law_950 ⟨Nat.le_trans (Nat.le_add_right _ _) hc, Nat.le_trans (Nat.le_add_right _ _) hn⟩ ?_
  refine g_aload_n 2 o dL_law_953 rfl rfl ?_
  refine g_aload_n 0 o dL_law_954 rfl rfl ?_
  refine g_iload 4 o dL_law_955 rfl ?_
  refine g_iconst (v := 1) o dL_law_957 (by decide) ?_
  refine g_iadd (x := i) (y := 1) o dL_law_958 ?_
  obtain ⟨x959, q959, e⟩ := e
  refine g_sld sc o dL_law_959 q959 ?_
  obtain ⟨_, k960, e⟩ := e
  obtain ⟨x960, h960, q960, e⟩ := e
  refine g_callVv [.int x959] o (mX12_lacks q960) cf12 (ckO_s k960) mw_1541 mw_1542 mw_1543 mw_19 mw_1544 rfl yo_X12_lacks rfl rfl (Nat.le_of_ble_eq_true rfl) ⟨by decide, by decide⟩ ⟨rfl, rfl⟩ dL_law_960 ⟨Nat.le_trans (Nat.le_add_right _ _) hc, Nat.le_trans (Nat.le_add_right _ _) hn⟩ ?_
  refine g_icmp_eq (x := x950) (y := x960) 1504 o dL_law_963 (by decide) (fun u => ?_) (fun u => ?_)
  · rw [if_pos u] at e
    refine g_wd (c2 := c + 27) (n2 := n + 864) (Nat.le_add_right _ _) (Nat.le_add_right _ _) ?_
    exact kx h960 e
  · rw [if_neg u] at e
    exact e.elim
def lw25 (f0 L : Nat) (xs0 : Nat → Int32) (xo mo oo : Nat) (i : Int32) (h : Hp) (K : Hp → Prop) : Prop := ∃ x974, ldP L xs0 (i + 1) = some x974 ∧ ∃ x980, ldP L xs0 (i + 2) = some x980 ∧ ∃ u, ckO 11 h xo = some u ∧ ∃ x981 h981, fX11_plays f0 xo x974 x980 h = some (x981, h981) ∧ ∃ x990, ldP L xs0 (i + 1) = some x990 ∧ ∃ x996, ldP L xs0 (i + 2) = some x996 ∧ ∃ u, ckO 12 h981 mo = some u ∧ ∃ x997 h997, fX12_plays f0 mo x990 x996 h981 = some (x997, h997) ∧ (if x981 = x997 then K h997 else False)
set_option maxRecDepth 100000 in
set_option maxHeartbeats 4000000 in
theorem kl25 {X : Cx} (o : Ok X cL_law RL 7 room_1 (some .boolean)) (hst : (xl X).stackTraces = false) {sb L : Nat} {xs0 : Nat → Int32} (sc : SC X sb L xs0) (f0 xo mo oo : Nat) (i : Int32) (h : Hp) {c n : Nat} (hc : c + 27 ≤ room_1.cells) (hn : n + 864 ≤ room_1.slots) (K : Hp → Prop) (kx : ∀ h2 : Hp, K h2 → G X 7 1504 [(0, .ref sb), (1, .ref xo), (2, .ref mo), (3, .ref oo), (4, .int i)] [] h2 (c + 27) (n + 864)) (e : lw25 f0 L xs0 xo mo oo i h K) : G X 7 968 [(0, .ref sb), (1, .ref xo), (2, .ref mo), (3, .ref oo), (4, .int i)] [] h c n := by
  unfold lw25 at e
  refine g_aload_n 1 o dL_law_968 rfl rfl ?_
  refine g_aload_n 0 o dL_law_969 rfl rfl ?_
  refine g_iload 4 o dL_law_970 rfl ?_
  refine g_iconst (v := 1) o dL_law_972 (by decide) ?_
  refine g_iadd (x := i) (y := 1) o dL_law_973 ?_
  obtain ⟨x974, q974, e⟩ := e
  refine g_sld sc o dL_law_974 q974 ?_
  refine g_aload_n 0 o dL_law_975 rfl rfl ?_
  refine g_iload 4 o dL_law_976 rfl ?_
  refine g_iconst (v := 2) o dL_law_978 (by decide) ?_
  refine g_iadd (x := i) (y := 2) o dL_law_979 ?_
  obtain ⟨x980, q980, e⟩ := e
  refine g_sld sc o dL_law_980 q980 ?_
  obtain ⟨_, k981, e⟩ := e
  obtain ⟨x981, h981, q981, e⟩ := e
  refine g_callVv [.int x974, .int x980] o (mX11_plays q981) cf11 (ckO_s k981) mw_924 mw_925 mw_926 mw_1 mw_927 rfl yo_X11_plays rfl rfl (Nat.le_of_ble_eq_true rfl) ⟨by decide, by decide⟩ ⟨rfl, rfl⟩ dL_law_981 ⟨Nat.le_trans (Nat.le_add_right _ _) hc, Nat.le_trans (Nat.le_add_right _ _) hn⟩ ?_
  refine g_aload_n 2 o dL_law_984 rfl rfl ?_
  refine g_aload_n 0 o dL_law_985 rfl rfl ?_
  refine g_iload 4 o dL_law_986 rfl ?_
  refine g_iconst (v := 1) o dL_law_988 (by decide) ?_
  refine g_iadd (x := i) (y := 1) o dL_law_989 ?_
  obtain ⟨x990, q990, e⟩ := e
  refine g_sld sc o dL_law_990 q990 ?_
  refine g_aload_n 0 o dL_law_991 rfl rfl ?_
  refine g_iload 4 o dL_law_992 rfl ?_
  refine g_iconst (v := 2) o dL_law_994 (by decide) ?_
  refine g_iadd (x := i) (y := 2) o dL_law_995 ?_
  obtain ⟨x996, q996, e⟩ := e
  refine g_sld sc o dL_law_996 q996 ?_
  obtain ⟨_, k997, e⟩ := e
  obtain ⟨x997, h997, q997, e⟩ := e
  refine g_callVv [.int x990, .int x996] o (mX12_plays q997) cf12 (ckO_s k997) mw_1545 mw_1546 mw_1547 mw_19 mw_1548 rfl yo_X12_plays rfl rfl (Nat.le_of_ble_eq_true rfl) ⟨by decide, by decide⟩ ⟨rfl, rfl⟩ dL_law_997 ⟨Nat.le_trans (Nat.le_add_right _ _) hc, Nat.le_trans (Nat.le_add_right _ _) hn⟩ ?_
  refine g_icmp_eq (x := x981) (y := x997) 1504 o dL_law_1000 (by decide) (fun u => ?_) (fun u => ?_)
  · rw [if_pos u] at e
    refine g_wd (c2 := c + 27) (n2 := n + 864) (Nat.le_add_right _ _) (Nat.le_add_right _ _) ?_
    exact kx h997 e
  · rw [if_neg u] at e
    exact e.elim
def lw26 (f0 L : Nat) (xs0 : Nat → Int32) (xo mo oo : Nat) (i : Int32) (h : Hp) (K : Hp → Prop) : Prop := ∃ x1011, ldP L xs0 (i + 1) = some x1011 ∧ ∃ u, ckO 11 h xo = some u ∧ ∃ x1012 h1012, fX11_man f0 xo x1011 h = some (x1012, h1012) ∧ ∃ x1021, ldP L xs0 (i + 1) = some x1021 ∧ ∃ u, ckO 12 h1012 mo = some u ∧ ∃ x1022 h1022, fX12_man f0 mo x1021 h1012 = some (x1022, h1022) ∧ (if x1012 = x1022 then K h1022 else False)
set_option maxRecDepth 100000 in
set_option maxHeartbeats 4000000 in
theorem kl26 {X : Cx} (o : Ok X cL_law RL 7 room_1 (some .boolean)) (hst : (xl X).stackTraces = false) {sb L : Nat} {xs0 : Nat → Int32} (sc : SC X sb L xs0) (f0 xo mo oo : Nat) (i : Int32) (h : Hp) {c n : Nat} (hc : c + 27 ≤ room_1.cells) (hn : n + 864 ≤ room_1.slots) (K : Hp → Prop) (kx : ∀ h2 : Hp, K h2 → G X 7 1504 [(0, .ref sb), (1, .ref xo), (2, .ref mo), (3, .ref oo), (4, .int i)] [] h2 (c + 27) (n + 864)) (e : lw26 f0 L xs0 xo mo oo i h K) : G X 7 1005 [(0, .ref sb), (1, .ref xo), (2, .ref mo), (3, .ref oo), (4, .int i)] [] h c n := by
  unfold lw26 at e
  refine g_aload_n 1 o dL_law_1005 rfl rfl ?_
  refine g_aload_n 0 o dL_law_1006 rfl rfl ?_
  refine g_iload 4 o dL_law_1007 rfl ?_
  refine g_iconst (v := 1) o dL_law_1009 (by decide) ?_
  refine g_iadd (x := i) (y := 1) o dL_law_1010 ?_
  obtain ⟨x1011, q1011, e⟩ := e
  refine g_sld sc o dL_law_1011 q1011 ?_
  obtain ⟨_, k1012, e⟩ := e
  obtain ⟨x1012, h1012, q1012, e⟩ := e
  refine g_callVv [.int x1011] o (mX11_man q1012) cf11 (ckO_s k1012) mw_910 mw_911 mw_912 mw_1 mw_913 rfl yo_X11_man rfl rfl (Nat.le_of_ble_eq_true rfl) ⟨by decide, by decide⟩ ⟨rfl, rfl⟩ dL_law_1012 ⟨Nat.le_trans (Nat.le_add_right _ _) hc, Nat.le_trans (Nat.le_add_right _ _) hn⟩ ?_
  refine g_aload_n 2 o dL_law_1015 rfl rfl ?_
  refine g_aload_n 0 o dL_law_1016 rfl rfl ?_
  refine g_iload 4 o dL_law_1017 rfl ?_
  refine g_iconst (v := 1) o dL_law_1019 (by decide) ?_
  refine g_iadd (x := i) (y := 1) o dL_law_1020 ?_
  obtain ⟨x1021, q1021, e⟩ := e
  refine g_sld sc o dL_law_1021 q1021 ?_
  obtain ⟨_, k1022, e⟩ := e
  obtain ⟨x1022, h1022, q1022, e⟩ := e
  refine g_callVv [.int x1021] o (mX12_man q1022) cf12 (ckO_s k1022) mw_1549 mw_1550 mw_1551 mw_19 mw_1552 rfl yo_X12_man rfl rfl (Nat.le_of_ble_eq_true rfl) ⟨by decide, by decide⟩ ⟨rfl, rfl⟩ dL_law_1022 ⟨Nat.le_trans (Nat.le_add_right _ _) hc, Nat.le_trans (Nat.le_add_right _ _) hn⟩ ?_
  refine g_icmp_eq (x := x1012) (y := x1022) 1504 o dL_law_1025 (by decide) (fun u => ?_) (fun u => ?_)
  · rw [if_pos u] at e
    refine g_wd (c2 := c + 27) (n2 := n + 864) (Nat.le_add_right _ _) (Nat.le_add_right _ _) ?_
    exact kx h1022 e
  · rw [if_neg u] at e
    exact e.elim
def lw27 (f0 L : Nat) (xs0 : Nat → Int32) (xo mo oo : Nat) (i : Int32) (h : Hp) (K : Hp → Prop) : Prop := ∃ x1036, ldP L xs0 (i + 1) = some x1036 ∧ ∃ u, ckO 11 h xo = some u ∧ ∃ x1037 h1037, fX11_needs f0 xo x1036 h = some (x1037, h1037) ∧ ∃ x1046, ldP L xs0 (i + 1) = some x1046 ∧ ∃ u, ckO 12 h1037 mo = some u ∧ ∃ x1047 h1047, fX12_needs f0 mo x1046 h1037 = some (x1047, h1047) ∧ (if x1037 = x1047 then K h1047 else False)
set_option maxRecDepth 100000 in
set_option maxHeartbeats 4000000 in
theorem kl27 {X : Cx} (o : Ok X cL_law RL 7 room_1 (some .boolean)) (hst : (xl X).stackTraces = false) {sb L : Nat} {xs0 : Nat → Int32} (sc : SC X sb L xs0) (f0 xo mo oo : Nat) (i : Int32) (h : Hp) {c n : Nat} (hc : c + 27 ≤ room_1.cells) (hn : n + 864 ≤ room_1.slots) (K : Hp → Prop) (kx : ∀ h2 : Hp, K h2 → G X 7 1504 [(0, .ref sb), (1, .ref xo), (2, .ref mo), (3, .ref oo), (4, .int i)] [] h2 (c + 27) (n + 864)) (e : lw27 f0 L xs0 xo mo oo i h K) : G X 7 1030 [(0, .ref sb), (1, .ref xo), (2, .ref mo), (3, .ref oo), (4, .int i)] [] h c n := by
  unfold lw27 at e
  refine g_aload_n 1 o dL_law_1030 rfl rfl ?_
  refine g_aload_n 0 o dL_law_1031 rfl rfl ?_
  refine g_iload 4 o dL_law_1032 rfl ?_
  refine g_iconst (v := 1) o dL_law_1034 (by decide) ?_
  refine g_iadd (x := i) (y := 1) o dL_law_1035 ?_
  obtain ⟨x1036, q1036, e⟩ := e
  refine g_sld sc o dL_law_1036 q1036 ?_
  obtain ⟨_, k1037, e⟩ := e
  obtain ⟨x1037, h1037, q1037, e⟩ := e
  refine g_callVv [.int x1036] o (mX11_needs q1037) cf11 (ckO_s k1037) mw_881 mw_882 mw_883 mw_1 mw_884 rfl yo_X11_needs rfl rfl (Nat.le_of_ble_eq_true rfl) ⟨by decide, by decide⟩ ⟨rfl, rfl⟩ dL_law_1037 ⟨Nat.le_trans (Nat.le_add_right _ _) hc, Nat.le_trans (Nat.le_add_right _ _) hn⟩ ?_
  refine g_aload_n 2 o dL_law_1040 rfl rfl ?_
  refine g_aload_n 0 o dL_law_1041 rfl rfl ?_
  refine g_iload 4 o dL_law_1042 rfl ?_
  refine g_iconst (v := 1) o dL_law_1044 (by decide) ?_
  refine g_iadd (x := i) (y := 1) o dL_law_1045 ?_
  obtain ⟨x1046, q1046, e⟩ := e
  refine g_sld sc o dL_law_1046 q1046 ?_
  obtain ⟨_, k1047, e⟩ := e
  obtain ⟨x1047, h1047, q1047, e⟩ := e
  refine g_callVv [.int x1046] o (mX12_needs q1047) cf12 (ckO_s k1047) mw_1553 mw_1554 mw_1555 mw_19 mw_1556 rfl yo_X12_needs rfl rfl (Nat.le_of_ble_eq_true rfl) ⟨by decide, by decide⟩ ⟨rfl, rfl⟩ dL_law_1047 ⟨Nat.le_trans (Nat.le_add_right _ _) hc, Nat.le_trans (Nat.le_add_right _ _) hn⟩ ?_
  refine g_icmp_eq (x := x1037) (y := x1047) 1504 o dL_law_1050 (by decide) (fun u => ?_) (fun u => ?_)
  · rw [if_pos u] at e
    refine g_wd (c2 := c + 27) (n2 := n + 864) (Nat.le_add_right _ _) (Nat.le_add_right _ _) ?_
    exact kx h1047 e
  · rw [if_neg u] at e
    exact e.elim
def lw28 (f0 L : Nat) (xs0 : Nat → Int32) (xo mo oo : Nat) (i : Int32) (h : Hp) (K : Hp → Prop) : Prop := ∃ x1061, ldP L xs0 (i + 1) = some x1061 ∧ ∃ x1067, ldP L xs0 (i + 2) = some x1067 ∧ ∃ u, ckO 11 h xo = some u ∧ ∃ x1068 h1068, fX11_over f0 xo x1061 x1067 h = some (x1068, h1068) ∧ ∃ x1077, ldP L xs0 (i + 1) = some x1077 ∧ ∃ x1083, ldP L xs0 (i + 2) = some x1083 ∧ ∃ u, ckO 12 h1068 mo = some u ∧ ∃ x1084 h1084, fX12_over f0 mo x1077 x1083 h1068 = some (x1084, h1084) ∧ (if x1068 = x1084 then K h1084 else False)
set_option maxRecDepth 100000 in
set_option maxHeartbeats 4000000 in
theorem kl28 {X : Cx} (o : Ok X cL_law RL 7 room_1 (some .boolean)) (hst : (xl X).stackTraces = false) {sb L : Nat} {xs0 : Nat → Int32} (sc : SC X sb L xs0) (f0 xo mo oo : Nat) (i : Int32) (h : Hp) {c n : Nat} (hc : c + 27 ≤ room_1.cells) (hn : n + 864 ≤ room_1.slots) (K : Hp → Prop) (kx : ∀ h2 : Hp, K h2 → G X 7 1504 [(0, .ref sb), (1, .ref xo), (2, .ref mo), (3, .ref oo), (4, .int i)] [] h2 (c + 27) (n + 864)) (e : lw28 f0 L xs0 xo mo oo i h K) : G X 7 1055 [(0, .ref sb), (1, .ref xo), (2, .ref mo), (3, .ref oo), (4, .int i)] [] h c n := by
  unfold lw28 at e
  refine g_aload_n 1 o dL_law_1055 rfl rfl ?_
  refine g_aload_n 0 o dL_law_1056 rfl rfl ?_
  refine g_iload 4 o dL_law_1057 rfl ?_
  refine g_iconst (v := 1) o dL_law_1059 (by decide) ?_
  refine g_iadd (x := i) (y := 1) o dL_law_1060 ?_
  obtain ⟨x1061, q1061, e⟩ := e
  refine g_sld sc o dL_law_1061 q1061 ?_
  refine g_aload_n 0 o dL_law_1062 rfl rfl ?_
  refine g_iload 4 o dL_law_1063 rfl ?_
  refine g_iconst (v := 2) o dL_law_1065 (by decide) ?_
  refine g_iadd (x := i) (y := 2) o dL_law_1066 ?_
  obtain ⟨x1067, q1067, e⟩ := e
  refine g_sld sc o dL_law_1067 q1067 ?_
  obtain ⟨_, k1068, e⟩ := e
  obtain ⟨x1068, h1068, q1068, e⟩ := e
  refine g_callVv [.int x1061, .int x1067] o (mX11_over q1068) cf11 (ckO_s k1068) mw_885 mw_886 mw_887 mw_1 mw_888 rfl yo_X11_over rfl rfl (Nat.le_of_ble_eq_true rfl) ⟨by decide, by decide⟩ ⟨rfl, rfl⟩ dL_law_1068 ⟨Nat.le_trans (Nat.le_add_right _ _) hc, Nat.le_trans (Nat.le_add_right _ _) hn⟩ ?_
  refine g_aload_n 2 o dL_law_1071 rfl rfl ?_
  refine g_aload_n 0 o dL_law_1072 rfl rfl ?_
  refine g_iload 4 o dL_law_1073 rfl ?_
  refine g_iconst (v := 1) o dL_law_1075 (by decide) ?_
  refine g_iadd (x := i) (y := 1) o dL_law_1076 ?_
  obtain ⟨x1077, q1077, e⟩ := e
  refine g_sld sc o dL_law_1077 q1077 ?_
  refine g_aload_n 0 o dL_law_1078 rfl rfl ?_
  refine g_iload 4 o dL_law_1079 rfl ?_
  refine g_iconst (v := 2) o dL_law_1081 (by decide) ?_
  refine g_iadd (x := i) (y := 2) o dL_law_1082 ?_
  obtain ⟨x1083, q1083, e⟩ := e
  refine g_sld sc o dL_law_1083 q1083 ?_
  obtain ⟨_, k1084, e⟩ := e
  obtain ⟨x1084, h1084, q1084, e⟩ := e
  refine g_callVv [.int x1077, .int x1083] o (mX12_over q1084) cf12 (ckO_s k1084) mw_1557 mw_1558 mw_1559 mw_19 mw_1560 rfl yo_X12_over rfl rfl (Nat.le_of_ble_eq_true rfl) ⟨by decide, by decide⟩ ⟨rfl, rfl⟩ dL_law_1084 ⟨Nat.le_trans (Nat.le_add_right _ _) hc, Nat.le_trans (Nat.le_add_right _ _) hn⟩ ?_
  refine g_icmp_eq (x := x1068) (y := x1084) 1504 o dL_law_1087 (by decide) (fun u => ?_) (fun u => ?_)
  · rw [if_pos u] at e
    refine g_wd (c2 := c + 27) (n2 := n + 864) (Nat.le_add_right _ _) (Nat.le_add_right _ _) ?_
    exact kx h1084 e
  · rw [if_neg u] at e
    exact e.elim
def lw29 (f0 L : Nat) (xs0 : Nat → Int32) (xo mo oo : Nat) (i : Int32) (h : Hp) (K : Hp → Prop) : Prop := ∃ x1098, ldP L xs0 (i + 1) = some x1098 ∧ ∃ u, ckO 11 h xo = some u ∧ ∃ x1099 h1099, fX11_mixed f0 xo x1098 h = some (x1099, h1099) ∧ ∃ x1108, ldP L xs0 (i + 1) = some x1108 ∧ ∃ u, ckO 12 h1099 mo = some u ∧ ∃ x1109 h1109, fX12_mixed f0 mo x1108 h1099 = some (x1109, h1109) ∧ (if x1099 = x1109 then K h1109 else False)
set_option maxRecDepth 100000 in
set_option maxHeartbeats 4000000 in
theorem kl29 {X : Cx} (o : Ok X cL_law RL 7 room_1 (some .boolean)) (hst : (xl X).stackTraces = false) {sb L : Nat} {xs0 : Nat → Int32} (sc : SC X sb L xs0) (f0 xo mo oo : Nat) (i : Int32) (h : Hp) {c n : Nat} (hc : c + 27 ≤ room_1.cells) (hn : n + 864 ≤ room_1.slots) (K : Hp → Prop) (kx : ∀ h2 : Hp, K h2 → G X 7 1504 [(0, .ref sb), (1, .ref xo), (2, .ref mo), (3, .ref oo), (4, .int i)] [] h2 (c + 27) (n + 864)) (e : lw29 f0 L xs0 xo mo oo i h K) : G X 7 1092 [(0, .ref sb), (1, .ref xo), (2, .ref mo), (3, .ref oo), (4, .int i)] [] h c n := by
  unfold lw29 at e
  refine g_aload_n 1 o dL_law_1092 rfl rfl ?_
  refine g_aload_n 0 o dL_law_1093 rfl rfl ?_
  refine g_iload 4 o dL_law_1094 rfl ?_
  refine g_iconst (v := 1) o dL_law_1096 (by decide) ?_
  refine g_iadd (x := i) (y := 1) o dL_law_1097 ?_
  obtain ⟨x1098, q1098, e⟩ := e
  refine g_sld sc o dL_law_1098 q1098 ?_
  obtain ⟨_, k1099, e⟩ := e
  obtain ⟨x1099, h1099, q1099, e⟩ := e
  refine g_callVv [.int x1098] o (mX11_mixed q1099) cf11 (ckO_s k1099) mw_902 mw_903 mw_904 mw_1 mw_905 rfl yo_X11_mixed rfl rfl (Nat.le_of_ble_eq_true rfl) ⟨by decide, by decide⟩ ⟨rfl, rfl⟩ dL_law_1099 ⟨Nat.le_trans (Nat.le_add_right _ _) hc, Nat.le_trans (Nat.le_add_right _ _) hn⟩ ?_
  refine g_aload_n 2 o dL_law_1102 rfl rfl ?_
  refine g_aload_n 0 o dL_law_1103 rfl rfl ?_
  refine g_iload 4 o dL_law_1104 rfl ?_
  refine g_iconst (v := 1) o dL_law_1106 (by decide) ?_
  refine g_iadd (x := i) (y := 1) o dL_law_1107 ?_
  obtain ⟨x1108, q1108, e⟩ := e
  refine g_sld sc o dL_law_1108 q1108 ?_
  obtain ⟨_, k1109, e⟩ := e
  obtain ⟨x1109, h1109, q1109, e⟩ := e
  refine g_callVv [.int x1108] o (mX12_mixed q1109) cf12 (ckO_s k1109) mw_1570 mw_1571 mw_1572 mw_19 mw_1573 rfl yo_X12_mixed rfl rfl (Nat.le_of_ble_eq_true rfl) ⟨by decide, by decide⟩ ⟨rfl, rfl⟩ dL_law_1109 ⟨Nat.le_trans (Nat.le_add_right _ _) hc, Nat.le_trans (Nat.le_add_right _ _) hn⟩ ?_
  refine g_icmp_eq (x := x1099) (y := x1109) 1504 o dL_law_1112 (by decide) (fun u => ?_) (fun u => ?_)
  · rw [if_pos u] at e
    refine g_wd (c2 := c + 27) (n2 := n + 864) (Nat.le_add_right _ _) (Nat.le_add_right _ _) ?_
    exact kx h1109 e
  · rw [if_neg u] at e
    exact e.elim
def lw30 (f0 L : Nat) (xs0 : Nat → Int32) (xo mo oo : Nat) (i : Int32) (h : Hp) (K : Hp → Prop) : Prop := ∃ x1123, ldP L xs0 (i + 1) = some x1123 ∧ ∃ x1125 h1125, fL_net f0 xo x1123 oo h = some (x1125, h1125) ∧ ∃ x1136, ldP L xs0 (i + 1) = some x1136 ∧ ∃ u, ckO 12 h1125 mo = some u ∧ ∃ x1137 h1137, fX12_net f0 mo x1136 h1125 = some (x1137, h1137) ∧ ∃ u, ckO 12 h1137 mo = some u ∧ ∃ x1143 h1143, fX12_thrown f0 mo h1137 = some (x1143, h1143) ∧ (if x1143 = x1125 then (if x1125 = 0 then ∃ x1160, ldJ 2 h1143 oo 0 = some x1160 ∧ (if (lg_cmp x1160 (Int32.toInt64 x1137)) = 0 then K h1143 else False) else K h1143) else False)
set_option maxRecDepth 100000 in
set_option maxHeartbeats 4000000 in
theorem kl30 {X : Cx} (o : Ok X cL_law RL 7 room_1 (some .boolean)) (hst : (xl X).stackTraces = false) {sb L : Nat} {xs0 : Nat → Int32} (sc : SC X sb L xs0) (f0 xo mo oo : Nat) (i : Int32) (h : Hp) {c n : Nat} (hc : c + 27 ≤ room_1.cells) (hn : n + 864 ≤ room_1.slots) (K : Hp → Prop) (kx : ∀ h2 : Hp, K h2 → G X 7 1504 [(0, .ref sb), (1, .ref xo), (2, .ref mo), (3, .ref oo), (4, .int i)] [] h2 (c + 27) (n + 864)) (e : lw30 f0 L xs0 xo mo oo i h K) : G X 7 1117 [(0, .ref sb), (1, .ref xo), (2, .ref mo), (3, .ref oo), (4, .int i)] [] h c n := by
  unfold lw30 at e
  refine g_aload_n 1 o dL_law_1117 rfl rfl ?_
  refine g_aload_n 0 o dL_law_1118 rfl rfl ?_
  refine g_iload 4 o dL_law_1119 rfl ?_
  refine g_iconst (v := 1) o dL_law_1121 (by decide) ?_
  refine g_iadd (x := i) (y := 1) o dL_law_1122 ?_
  obtain ⟨x1123, q1123, e⟩ := e
  refine g_sld sc o dL_law_1123 q1123 ?_
  refine g_aload_n 3 o dL_law_1124 rfl rfl ?_
  obtain ⟨x1125, h1125, q1125, e⟩ := e
  refine g_callH [.ref xo, .int x1123, .ref oo] o (mL_net hst q1125) mw_1107 mw_1108 mw_0 mh_net yo_L_net rfl rfl (Nat.le_of_ble_eq_true rfl) ⟨by decide, by decide⟩ ⟨Nat.le_trans (Nat.add_le_add_left (by decide) _) hc, Nat.le_trans (Nat.add_le_add_left (by decide) _) hn⟩ dL_law_1125 ?_
  refine g_istore [(5, .int x1125), (0, .ref sb), (1, .ref xo), (2, .ref mo), (3, .ref oo), (4, .int i)] o dL_law_1128 (by decide) rfl ?_
  refine g_aload_n 3 o dL_law_1130 rfl rfl ?_
  refine g_aload_n 1 o dL_law_1131 rfl rfl ?_
  refine g_iload 5 o dL_law_1132 rfl ?_
  refine g_iconst (v := 1) o dL_law_1134 (by decide) ?_
  refine g_iadd (x := i) (y := 1) o dL_law_1135 ?_
  obtain ⟨x1136, q1136, e⟩ := e
  refine g_sld sc o dL_law_1136 q1136 ?_
  obtain ⟨_, k1137, e⟩ := e
  obtain ⟨x1137, h1137, q1137, e⟩ := e
  refine g_callVv [.int x1136] o (mX12_net q1137) cf12 (ckO_s k1137) mw_1574 mw_1575 mw_1576 mw_19 mw_1577 rfl yo_X12_net rfl rfl (Nat.le_of_ble_eq_true rfl) ⟨by decide, by decide⟩ ⟨rfl, rfl⟩ dL_law_1137 ⟨Nat.le_trans (Nat.add_le_add_left (by decide) _) hc, Nat.le_trans (Nat.add_le_add_left (by decide) _) hn⟩ ?_
  refine g_istore [(6, .int x1137), (5, .int x1125), (0, .ref sb), (1, .ref xo), (2, .ref mo), (3, .ref oo), (4, .int i)] o dL_law_1140 (by decide) rfl ?_
  refine g_aload_n 4 o dL_law_1142 rfl rfl ?_
  obtain ⟨_, k1143, e⟩ := e
  obtain ⟨x1143, h1143, q1143, e⟩ := e
  refine g_callVv [] o (mX12_thrown q1143) cf12 (ckO_s k1143) mw_1122 mw_1123 mw_1124 mw_19 mw_1125 rfl yo_X12_thrown rfl rfl (Nat.le_of_ble_eq_true rfl) ⟨by decide, by decide⟩ ⟨rfl, rfl⟩ dL_law_1143 ⟨Nat.le_trans (Nat.add_le_add_left (by decide) _) hc, Nat.le_trans (Nat.add_le_add_left (by decide) _) hn⟩ ?_
  refine g_iload 1 o dL_law_1146 rfl ?_
  refine g_icmp_eq (x := x1143) (y := x1125) 1153 o dL_law_1148 (by decide) (fun u => ?_) (fun u => ?_)
  · rw [if_pos u] at e
    refine g_iload 1 o dL_law_1153 rfl ?_
    refine g_if_ne (x := x1125) 1170 o dL_law_1155 (by decide) (fun u => ?_) (fun u => ?_)
    · rw [if_neg u] at e
      refine g_goto 1504 o dL_law_1170 (by decide) ?_
      refine g_sb [2, 3, 4, 5, 6] rfl ?_
      refine g_wd (c2 := c + 27) (n2 := n + 864) (Nat.add_le_add_left (by decide) _) (Nat.add_le_add_left (by decide) _) ?_
      exact kx h1143 e
    · rw [if_pos u] at e
      refine g_aload_n 5 o dL_law_1158 rfl rfl ?_
      refine g_iconst (v := 0) o dL_law_1159 (by decide) ?_
      obtain ⟨x1160, q1160, e⟩ := e
      refine g_lald o dL_law_1160 q1160 ?_
      refine g_iload 0 o dL_law_1161 rfl ?_
      refine g_i2l (x := x1137) o dL_law_1163 ?_
      refine g_lcmp (x := x1160) (y := (Int32.toInt64 x1137)) o dL_law_1164 ?_
      refine g_if_eq (x := (lg_cmp x1160 (Int32.toInt64 x1137))) 1170 o dL_law_1165 (by decide) (fun u => ?_) (fun u => ?_)
      · rw [if_pos u] at e
        refine g_goto 1504 o dL_law_1170 (by decide) ?_
        refine g_sb [2, 3, 4, 5, 6] rfl ?_
        refine g_wd (c2 := c + 27) (n2 := n + 864) (Nat.add_le_add_left (by decide) _) (Nat.add_le_add_left (by decide) _) ?_
        exact kx h1143 e
      · rw [if_neg u] at e
        exact e.elim
  · rw [if_neg u] at e
    exact e.elim
def lw31 (f0 L : Nat) (xs0 : Nat → Int32) (xo mo oo : Nat) (i : Int32) (h : Hp) (K : Hp → Prop) : Prop := ∃ x1179, ldP L xs0 (i + 1) = some x1179 ∧ ∃ x1185, ldP L xs0 (i + 2) = some x1185 ∧ ∃ x1187 h1187, fL_lasts f0 xo x1179 x1185 oo h = some (x1187, h1187) ∧ ∃ x1198, ldP L xs0 (i + 1) = some x1198 ∧ ∃ x1204, ldP L xs0 (i + 2) = some x1204 ∧ ∃ u, ckO 12 h1187 mo = some u ∧ ∃ x1205 h1205, fX12_lasts f0 mo x1198 x1204 h1187 = some (x1205, h1205) ∧ ∃ u, ckO 12 h1205 mo = some u ∧ ∃ x1211 h1211, fX12_thrown f0 mo h1205 = some (x1211, h1211) ∧ (if x1211 = x1187 then (if x1187 = 0 then ∃ x1228, ldJ 2 h1211 oo 0 = some x1228 ∧ (if (lg_cmp x1228 (Int32.toInt64 x1205)) = 0 then K h1211 else False) else K h1211) else False)
set_option maxRecDepth 100000 in
set_option maxHeartbeats 4000000 in
theorem kl31 {X : Cx} (o : Ok X cL_law RL 7 room_1 (some .boolean)) (hst : (xl X).stackTraces = false) {sb L : Nat} {xs0 : Nat → Int32} (sc : SC X sb L xs0) (f0 xo mo oo : Nat) (i : Int32) (h : Hp) {c n : Nat} (hc : c + 27 ≤ room_1.cells) (hn : n + 864 ≤ room_1.slots) (K : Hp → Prop) (kx : ∀ h2 : Hp, K h2 → G X 7 1504 [(0, .ref sb), (1, .ref xo), (2, .ref mo), (3, .ref oo), (4, .int i)] [] h2 (c + 27) (n + 864)) (e : lw31 f0 L xs0 xo mo oo i h K) : G X 7 1173 [(0, .ref sb), (1, .ref xo), (2, .ref mo), (3, .ref oo), (4, .int i)] [] h c n := by
  unfold lw31 at e
  refine g_aload_n 1 o dL_law_1173 rfl rfl ?_
  refine g_aload_n 0 o dL_law_1174 rfl rfl ?_
  refine g_iload 4 o dL_law_1175 rfl ?_
  refine g_iconst (v := 1) o dL_law_1177 (by decide) ?_
  refine g_iadd (x := i) (y := 1) o dL_law_1178 ?_
  obtain ⟨x1179, q1179, e⟩ := e
  refine g_sld sc o dL_law_1179 q1179 ?_
  refine g_aload_n 0 o dL_law_1180 rfl rfl ?_
  refine g_iload 4 o dL_law_1181 rfl ?_
  refine g_iconst (v := 2) o dL_law_1183 (by decide) ?_
  refine g_iadd (x := i) (y := 2) o dL_law_1184 ?_
  obtain ⟨x1185, q1185, e⟩ := e
  refine g_sld sc o dL_law_1185 q1185 ?_
  refine g_aload_n 3 o dL_law_1186 rfl rfl ?_
  obtain ⟨x1187, h1187, q1187, e⟩ := e
  refine g_callH [.ref xo, .int x1179, .int x1185, .ref oo] o (mL_lasts hst q1187) mw_1113 mw_1114 mw_0 mh_lasts yo_L_lasts rfl rfl (Nat.le_of_ble_eq_true rfl) ⟨by decide, by decide⟩ ⟨Nat.le_trans (Nat.add_le_add_left (by decide) _) hc, Nat.le_trans (Nat.add_le_add_left (by decide) _) hn⟩ dL_law_1187 ?_
  refine g_istore [(5, .int x1187), (0, .ref sb), (1, .ref xo), (2, .ref mo), (3, .ref oo), (4, .int i)] o dL_law_1190 (by decide) rfl ?_
  refine g_aload_n 3 o dL_law_1192 rfl rfl ?_
  refine g_aload_n 1 o dL_law_1193 rfl rfl ?_
  refine g_iload 5 o dL_law_1194 rfl ?_
  refine g_iconst (v := 1) o dL_law_1196 (by decide) ?_
  refine g_iadd (x := i) (y := 1) o dL_law_1197 ?_
  obtain ⟨x1198, q1198, e⟩ := e
  refine g_sld sc o dL_law_1198 q1198 ?_
  refine g_aload_n 1 o dL_law_1199 rfl rfl ?_
  refine g_iload 5 o dL_law_1200 rfl ?_
  refine g_iconst (v := 2) o dL_law_1202 (by decide) ?_
  refine g_iadd (x := i) (y := 2) o dL_law_1203 ?_
  obtain ⟨x1204, q1204, e⟩ := e
  refine g_sld sc o dL_law_1204 q1204 ?_
  obtain ⟨_, k1205, e⟩ := e
  obtain ⟨x1205, h1205, q1205, e⟩ := e
  refine g_callVv [.int x1198, .int x1204] o (mX12_lasts q1205) cf12 (ckO_s k1205) mw_1578 mw_1579 mw_1580 mw_19 mw_1581 rfl yo_X12_lasts rfl rfl (Nat.le_of_ble_eq_true rfl) ⟨by decide, by decide⟩ ⟨rfl, rfl⟩ dL_law_1205 ⟨Nat.le_trans (Nat.add_le_add_left (by decide) _) hc, Nat.le_trans (Nat.add_le_add_left (by decide) _) hn⟩ ?_
  refine g_istore [(6, .int x1205), (5, .int x1187), (0, .ref sb), (1, .ref xo), (2, .ref mo), (3, .ref oo), (4, .int i)] o dL_law_1208 (by decide) rfl ?_
  refine g_aload_n 4 o dL_law_1210 rfl rfl ?_
  obtain ⟨_, k1211, e⟩ := e
  obtain ⟨x1211, h1211, q1211, e⟩ := e
  refine g_callVv [] o (mX12_thrown q1211) cf12 (ckO_s k1211) mw_1122 mw_1123 mw_1124 mw_19 mw_1125 rfl yo_X12_thrown rfl rfl (Nat.le_of_ble_eq_true rfl) ⟨by decide, by decide⟩ ⟨rfl, rfl⟩ dL_law_1211 ⟨Nat.le_trans (Nat.add_le_add_left (by decide) _) hc, Nat.le_trans (Nat.add_le_add_left (by decide) _) hn⟩ ?_
  refine g_iload 1 o dL_law_1214 rfl ?_
  refine g_icmp_eq (x := x1211) (y := x1187) 1221 o dL_law_1216 (by decide) (fun u => ?_) (fun u => ?_)
  · rw [if_pos u] at e
    refine g_iload 1 o dL_law_1221 rfl ?_
    refine g_if_ne (x := x1187) 1238 o dL_law_1223 (by decide) (fun u => ?_) (fun u => ?_)
    · rw [if_neg u] at e
      refine g_goto 1504 o dL_law_1238 (by decide) ?_
      refine g_sb [2, 3, 4, 5, 6] rfl ?_
      refine g_wd (c2 := c + 27) (n2 := n + 864) (Nat.add_le_add_left (by decide) _) (Nat.add_le_add_left (by decide) _) ?_
      exact kx h1211 e
    · rw [if_pos u] at e
      refine g_aload_n 5 o dL_law_1226 rfl rfl ?_
      refine g_iconst (v := 0) o dL_law_1227 (by decide) ?_
      obtain ⟨x1228, q1228, e⟩ := e
      refine g_lald o dL_law_1228 q1228 ?_
      refine g_iload 0 o dL_law_1229 rfl ?_
      refine g_i2l (x := x1205) o dL_law_1231 ?_
      refine g_lcmp (x := x1228) (y := (Int32.toInt64 x1205)) o dL_law_1232 ?_
      refine g_if_eq (x := (lg_cmp x1228 (Int32.toInt64 x1205))) 1238 o dL_law_1233 (by decide) (fun u => ?_) (fun u => ?_)
      · rw [if_pos u] at e
        refine g_goto 1504 o dL_law_1238 (by decide) ?_
        refine g_sb [2, 3, 4, 5, 6] rfl ?_
        refine g_wd (c2 := c + 27) (n2 := n + 864) (Nat.add_le_add_left (by decide) _) (Nat.add_le_add_left (by decide) _) ?_
        exact kx h1211 e
      · rw [if_neg u] at e
        exact e.elim
  · rw [if_neg u] at e
    exact e.elim
def lw32 (f0 L : Nat) (xs0 : Nat → Int32) (xo mo oo : Nat) (i : Int32) (h : Hp) (K : Hp → Prop) : Prop := ∃ u, ckO 11 h xo = some u ∧ ∃ x1242 h1242, fX11_soonest f0 xo h = some (x1242, h1242) ∧ ∃ u, ckO 12 h1242 mo = some u ∧ ∃ x1246 h1246, fX12_soonest f0 mo h1242 = some (x1246, h1246) ∧ (if x1242 = x1246 then K h1246 else False)
set_option maxRecDepth 100000 in
set_option maxHeartbeats 4000000 in
theorem kl32 {X : Cx} (o : Ok X cL_law RL 7 room_1 (some .boolean)) (hst : (xl X).stackTraces = false) {sb L : Nat} {xs0 : Nat → Int32} (sc : SC X sb L xs0) (f0 xo mo oo : Nat) (i : Int32) (h : Hp) {c n : Nat} (hc : c + 27 ≤ room_1.cells) (hn : n + 864 ≤ room_1.slots) (K : Hp → Prop) (kx : ∀ h2 : Hp, K h2 → G X 7 1504 [(0, .ref sb), (1, .ref xo), (2, .ref mo), (3, .ref oo), (4, .int i)] [] h2 (c + 27) (n + 864)) (e : lw32 f0 L xs0 xo mo oo i h K) : G X 7 1241 [(0, .ref sb), (1, .ref xo), (2, .ref mo), (3, .ref oo), (4, .int i)] [] h c n := by
  unfold lw32 at e
  refine g_aload_n 1 o dL_law_1241 rfl rfl ?_
  obtain ⟨_, k1242, e⟩ := e
  obtain ⟨x1242, h1242, q1242, e⟩ := e
  refine g_callVv [] o (mX11_soonest q1242) cf11 (ckO_s k1242) mw_955 mw_956 mw_957 mw_1 mw_958 rfl yo_X11_soonest rfl rfl (Nat.le_of_ble_eq_true rfl) ⟨by decide, by decide⟩ ⟨rfl, rfl⟩ dL_law_1242 ⟨Nat.le_trans (Nat.le_add_right _ _) hc, Nat.le_trans (Nat.le_add_right _ _) hn⟩ ?_
  refine g_aload_n 2 o dL_law_1245 rfl rfl ?_
  obtain ⟨_, k1246, e⟩ := e
  obtain ⟨x1246, h1246, q1246, e⟩ := e
  refine g_callVv [] o (mX12_soonest q1246) cf12 (ckO_s k1246) mw_1585 mw_1586 mw_1587 mw_19 mw_1588 rfl yo_X12_soonest rfl rfl (Nat.le_of_ble_eq_true rfl) ⟨by decide, by decide⟩ ⟨rfl, rfl⟩ dL_law_1246 ⟨Nat.le_trans (Nat.le_add_right _ _) hc, Nat.le_trans (Nat.le_add_right _ _) hn⟩ ?_
  refine g_icmp_eq (x := x1242) (y := x1246) 1504 o dL_law_1249 (by decide) (fun u => ?_) (fun u => ?_)
  · rw [if_pos u] at e
    refine g_wd (c2 := c + 27) (n2 := n + 864) (Nat.le_add_right _ _) (Nat.le_add_right _ _) ?_
    exact kx h1246 e
  · rw [if_neg u] at e
    exact e.elim
def lw33 (f0 L : Nat) (xs0 : Nat → Int32) (xo mo oo : Nat) (i : Int32) (h : Hp) (K : Hp → Prop) : Prop := ∃ u, ckO 11 h xo = some u ∧ ∃ x1255 h1255, fX11_where f0 xo h = some (x1255, h1255) ∧ ∃ u, ckO 12 h1255 mo = some u ∧ ∃ x1259 h1259, fX12_where f0 mo h1255 = some (x1259, h1259) ∧ (if x1255 = x1259 then K h1259 else False)
set_option maxRecDepth 100000 in
set_option maxHeartbeats 4000000 in
theorem kl33 {X : Cx} (o : Ok X cL_law RL 7 room_1 (some .boolean)) (hst : (xl X).stackTraces = false) {sb L : Nat} {xs0 : Nat → Int32} (sc : SC X sb L xs0) (f0 xo mo oo : Nat) (i : Int32) (h : Hp) {c n : Nat} (hc : c + 27 ≤ room_1.cells) (hn : n + 864 ≤ room_1.slots) (K : Hp → Prop) (kx : ∀ h2 : Hp, K h2 → G X 7 1504 [(0, .ref sb), (1, .ref xo), (2, .ref mo), (3, .ref oo), (4, .int i)] [] h2 (c + 27) (n + 864)) (e : lw33 f0 L xs0 xo mo oo i h K) : G X 7 1254 [(0, .ref sb), (1, .ref xo), (2, .ref mo), (3, .ref oo), (4, .int i)] [] h c n := by
  unfold lw33 at e
  refine g_aload_n 1 o dL_law_1254 rfl rfl ?_
  obtain ⟨_, k1255, e⟩ := e
  obtain ⟨x1255, h1255, q1255, e⟩ := e
  refine g_callVv [] o (mX11_where q1255) cf11 (ckO_s k1255) mw_964 mw_965 mw_966 mw_1 mw_967 rfl yo_X11_where rfl rfl (Nat.le_of_ble_eq_true rfl) ⟨by decide, by decide⟩ ⟨rfl, rfl⟩ dL_law_1255 ⟨Nat.le_trans (Nat.le_add_right _ _) hc, Nat.le_trans (Nat.le_add_right _ _) hn⟩ ?_
  refine g_aload_n 2 o dL_law_1258 rfl rfl ?_
  obtain ⟨_, k1259, e⟩ := e
  obtain ⟨x1259, h1259, q1259, e⟩ := e
  refine g_callVv [] o (mX12_where q1259) cf12 (ckO_s k1259) mw_1592 mw_1593 mw_1594 mw_19 mw_1595 rfl yo_X12_where rfl rfl (Nat.le_of_ble_eq_true rfl) ⟨by decide, by decide⟩ ⟨rfl, rfl⟩ dL_law_1259 ⟨Nat.le_trans (Nat.le_add_right _ _) hc, Nat.le_trans (Nat.le_add_right _ _) hn⟩ ?_
  refine g_icmp_eq (x := x1255) (y := x1259) 1504 o dL_law_1262 (by decide) (fun u => ?_) (fun u => ?_)
  · rw [if_pos u] at e
    refine g_wd (c2 := c + 27) (n2 := n + 864) (Nat.le_add_right _ _) (Nat.le_add_right _ _) ?_
    exact kx h1259 e
  · rw [if_neg u] at e
    exact e.elim
def lw34 (f0 L : Nat) (xs0 : Nat → Int32) (xo mo oo : Nat) (i : Int32) (h : Hp) (K : Hp → Prop) : Prop := ∃ x1273, ldP L xs0 (i + 1) = some x1273 ∧ ∃ x1279, ldP L xs0 (i + 2) = some x1279 ∧ ∃ u, ckO 11 h xo = some u ∧ ∃ x1280 h1280, fX11_drawn f0 xo x1273 x1279 h = some (x1280, h1280) ∧ ∃ x1289, ldP L xs0 (i + 1) = some x1289 ∧ ∃ x1295, ldP L xs0 (i + 2) = some x1295 ∧ ∃ u, ckO 12 h1280 mo = some u ∧ ∃ x1296 h1296, fX12_drawn f0 mo x1289 x1295 h1280 = some (x1296, h1296) ∧ (if x1280 = x1296 then K h1296 else False)
set_option maxRecDepth 100000 in
set_option maxHeartbeats 4000000 in
theorem kl34 {X : Cx} (o : Ok X cL_law RL 7 room_1 (some .boolean)) (hst : (xl X).stackTraces = false) {sb L : Nat} {xs0 : Nat → Int32} (sc : SC X sb L xs0) (f0 xo mo oo : Nat) (i : Int32) (h : Hp) {c n : Nat} (hc : c + 27 ≤ room_1.cells) (hn : n + 864 ≤ room_1.slots) (K : Hp → Prop) (kx : ∀ h2 : Hp, K h2 → G X 7 1504 [(0, .ref sb), (1, .ref xo), (2, .ref mo), (3, .ref oo), (4, .int i)] [] h2 (c + 27) (n + 864)) (e : lw34 f0 L xs0 xo mo oo i h K) : G X 7 1267 [(0, .ref sb), (1, .ref xo), (2, .ref mo), (3, .ref oo), (4, .int i)] [] h c n := by
  unfold lw34 at e
  refine g_aload_n 1 o dL_law_1267 rfl rfl ?_
  refine g_aload_n 0 o dL_law_1268 rfl rfl ?_
  refine g_iload 4 o dL_law_1269 rfl ?_
  refine g_iconst (v := 1) o dL_law_1271 (by decide) ?_
  refine g_iadd (x := i) (y := 1) o dL_law_1272 ?_
  obtain ⟨x1273, q1273, e⟩ := e
  refine g_sld sc o dL_law_1273 q1273 ?_
  refine g_aload_n 0 o dL_law_1274 rfl rfl ?_
  refine g_iload 4 o dL_law_1275 rfl ?_
  refine g_iconst (v := 2) o dL_law_1277 (by decide) ?_
  refine g_iadd (x := i) (y := 2) o dL_law_1278 ?_
  obtain ⟨x1279, q1279, e⟩ := e
  refine g_sld sc o dL_law_1279 q1279 ?_
  obtain ⟨_, k1280, e⟩ := e
  obtain ⟨x1280, h1280, q1280, e⟩ := e
  refine g_callVv [.int x1273, .int x1279] o (mX11_drawn q1280) cf11 (ckO_s k1280) mw_996 mw_997 mw_998 mw_1 mw_999 rfl yo_X11_drawn rfl rfl (Nat.le_of_ble_eq_true rfl) ⟨by decide, by decide⟩ ⟨rfl, rfl⟩ dL_law_1280 ⟨Nat.le_trans (Nat.le_add_right _ _) hc, Nat.le_trans (Nat.le_add_right _ _) hn⟩ ?_
  refine g_aload_n 2 o dL_law_1283 rfl rfl ?_
  refine g_aload_n 0 o dL_law_1284 rfl rfl ?_
  refine g_iload 4 o dL_law_1285 rfl ?_
  refine g_iconst (v := 1) o dL_law_1287 (by decide) ?_
  refine g_iadd (x := i) (y := 1) o dL_law_1288 ?_
  obtain ⟨x1289, q1289, e⟩ := e
  refine g_sld sc o dL_law_1289 q1289 ?_
  refine g_aload_n 0 o dL_law_1290 rfl rfl ?_
  refine g_iload 4 o dL_law_1291 rfl ?_
  refine g_iconst (v := 2) o dL_law_1293 (by decide) ?_
  refine g_iadd (x := i) (y := 2) o dL_law_1294 ?_
  obtain ⟨x1295, q1295, e⟩ := e
  refine g_sld sc o dL_law_1295 q1295 ?_
  obtain ⟨_, k1296, e⟩ := e
  obtain ⟨x1296, h1296, q1296, e⟩ := e
  refine g_callVv [.int x1289, .int x1295] o (mX12_drawn q1296) cf12 (ckO_s k1296) mw_1596 mw_1597 mw_1598 mw_19 mw_1599 rfl yo_X12_drawn rfl rfl (Nat.le_of_ble_eq_true rfl) ⟨by decide, by decide⟩ ⟨rfl, rfl⟩ dL_law_1296 ⟨Nat.le_trans (Nat.le_add_right _ _) hc, Nat.le_trans (Nat.le_add_right _ _) hn⟩ ?_
  refine g_icmp_eq (x := x1280) (y := x1296) 1504 o dL_law_1299 (by decide) (fun u => ?_) (fun u => ?_)
  · rw [if_pos u] at e
    refine g_wd (c2 := c + 27) (n2 := n + 864) (Nat.le_add_right _ _) (Nat.le_add_right _ _) ?_
    exact kx h1296 e
  · rw [if_neg u] at e
    exact e.elim
def lw35 (f0 L : Nat) (xs0 : Nat → Int32) (xo mo oo : Nat) (i : Int32) (h : Hp) (K : Hp → Prop) : Prop := ∃ x1310, ldP L xs0 (i + 1) = some x1310 ∧ ∃ x1316, ldP L xs0 (i + 2) = some x1316 ∧ ∃ u, ckO 11 h xo = some u ∧ ∃ x1317 h1317, fX11_odds f0 xo x1310 x1316 h = some (x1317, h1317) ∧ ∃ x1326, ldP L xs0 (i + 1) = some x1326 ∧ ∃ x1332, ldP L xs0 (i + 2) = some x1332 ∧ ∃ u, ckO 12 h1317 mo = some u ∧ ∃ x1333 h1333, fX12_odds f0 mo x1326 x1332 h1317 = some (x1333, h1333) ∧ (if x1317 = x1333 then K h1333 else False)
set_option maxRecDepth 100000 in
set_option maxHeartbeats 4000000 in
theorem kl35 {X : Cx} (o : Ok X cL_law RL 7 room_1 (some .boolean)) (hst : (xl X).stackTraces = false) {sb L : Nat} {xs0 : Nat → Int32} (sc : SC X sb L xs0) (f0 xo mo oo : Nat) (i : Int32) (h : Hp) {c n : Nat} (hc : c + 27 ≤ room_1.cells) (hn : n + 864 ≤ room_1.slots) (K : Hp → Prop) (kx : ∀ h2 : Hp, K h2 → G X 7 1504 [(0, .ref sb), (1, .ref xo), (2, .ref mo), (3, .ref oo), (4, .int i)] [] h2 (c + 27) (n + 864)) (e : lw35 f0 L xs0 xo mo oo i h K) : G X 7 1304 [(0, .ref sb), (1, .ref xo), (2, .ref mo), (3, .ref oo), (4, .int i)] [] h c n := by
  unfold lw35 at e
  refine g_aload_n 1 o dL_law_1304 rfl rfl ?_
  refine g_aload_n 0 o dL_law_1305 rfl rfl ?_
  refine g_iload 4 o dL_law_1306 rfl ?_
  refine g_iconst (v := 1) o dL_law_1308 (by decide) ?_
  refine g_iadd (x := i) (y := 1) o dL_law_1309 ?_
  obtain ⟨x1310, q1310, e⟩ := e
  refine g_sld sc o dL_law_1310 q1310 ?_
  refine g_aload_n 0 o dL_law_1311 rfl rfl ?_
  refine g_iload 4 o dL_law_1312 rfl ?_
  refine g_iconst (v := 2) o dL_law_1314 (by decide) ?_
  refine g_iadd (x := i) (y := 2) o dL_law_1315 ?_
  obtain ⟨x1316, q1316, e⟩ := e
  refine g_sld sc o dL_law_1316 q1316 ?_
  obtain ⟨_, k1317, e⟩ := e
  obtain ⟨x1317, h1317, q1317, e⟩ := e
  refine g_callVv [.int x1310, .int x1316] o (mX11_odds q1317) cf11 (ckO_s k1317) mw_1013 mw_1014 mw_1015 mw_1 mw_1016 rfl yo_X11_odds rfl rfl (Nat.le_of_ble_eq_true rfl) ⟨by decide, by decide⟩ ⟨rfl, rfl⟩ dL_law_1317 ⟨Nat.le_trans (Nat.le_add_right _ _) hc, Nat.le_trans (Nat.le_add_right _ _) hn⟩ ?_
  refine g_aload_n 2 o dL_law_1320 rfl rfl ?_
  refine g_aload_n 0 o dL_law_1321 rfl rfl ?_
  refine g_iload 4 o dL_law_1322 rfl ?_
  refine g_iconst (v := 1) o dL_law_1324 (by decide) ?_
  refine g_iadd (x := i) (y := 1) o dL_law_1325 ?_
  obtain ⟨x1326, q1326, e⟩ := e
  refine g_sld sc o dL_law_1326 q1326 ?_
  refine g_aload_n 0 o dL_law_1327 rfl rfl ?_
  refine g_iload 4 o dL_law_1328 rfl ?_
  refine g_iconst (v := 2) o dL_law_1330 (by decide) ?_
  refine g_iadd (x := i) (y := 2) o dL_law_1331 ?_
  obtain ⟨x1332, q1332, e⟩ := e
  refine g_sld sc o dL_law_1332 q1332 ?_
  obtain ⟨_, k1333, e⟩ := e
  obtain ⟨x1333, h1333, q1333, e⟩ := e
  refine g_callVv [.int x1326, .int x1332] o (mX12_odds q1333) cf12 (ckO_s k1333) mw_1607 mw_1608 mw_1609 mw_19 mw_1610 rfl yo_X12_odds rfl rfl (Nat.le_of_ble_eq_true rfl) ⟨by decide, by decide⟩ ⟨rfl, rfl⟩ dL_law_1333 ⟨Nat.le_trans (Nat.le_add_right _ _) hc, Nat.le_trans (Nat.le_add_right _ _) hn⟩ ?_
  refine g_icmp_eq (x := x1317) (y := x1333) 1504 o dL_law_1336 (by decide) (fun u => ?_) (fun u => ?_)
  · rw [if_pos u] at e
    refine g_wd (c2 := c + 27) (n2 := n + 864) (Nat.le_add_right _ _) (Nat.le_add_right _ _) ?_
    exact kx h1333 e
  · rw [if_neg u] at e
    exact e.elim
def lw36 (f0 L : Nat) (xs0 : Nat → Int32) (xo mo oo : Nat) (i : Int32) (h : Hp) (K : Hp → Prop) : Prop := ∃ x1347, ldP L xs0 (i + 1) = some x1347 ∧ ∃ u, ckO 11 h xo = some u ∧ ∃ x1348 h1348, fX11_log f0 xo x1347 h = some (x1348, h1348) ∧ ∃ x1357, ldP L xs0 (i + 1) = some x1357 ∧ ∃ u, ckO 12 h1348 mo = some u ∧ ∃ x1358 h1358, fX12_log f0 mo x1357 h1348 = some (x1358, h1358) ∧ (if x1348 = x1358 then K h1358 else False)
set_option maxRecDepth 100000 in
set_option maxHeartbeats 4000000 in
theorem kl36 {X : Cx} (o : Ok X cL_law RL 7 room_1 (some .boolean)) (hst : (xl X).stackTraces = false) {sb L : Nat} {xs0 : Nat → Int32} (sc : SC X sb L xs0) (f0 xo mo oo : Nat) (i : Int32) (h : Hp) {c n : Nat} (hc : c + 27 ≤ room_1.cells) (hn : n + 864 ≤ room_1.slots) (K : Hp → Prop) (kx : ∀ h2 : Hp, K h2 → G X 7 1504 [(0, .ref sb), (1, .ref xo), (2, .ref mo), (3, .ref oo), (4, .int i)] [] h2 (c + 27) (n + 864)) (e : lw36 f0 L xs0 xo mo oo i h K) : G X 7 1341 [(0, .ref sb), (1, .ref xo), (2, .ref mo), (3, .ref oo), (4, .int i)] [] h c n := by
  unfold lw36 at e
  refine g_aload_n 1 o dL_law_1341 rfl rfl ?_
  refine g_aload_n 0 o dL_law_1342 rfl rfl ?_
  refine g_iload 4 o dL_law_1343 rfl ?_
  refine g_iconst (v := 1) o dL_law_1345 (by decide) ?_
  refine g_iadd (x := i) (y := 1) o dL_law_1346 ?_
  obtain ⟨x1347, q1347, e⟩ := e
  refine g_sld sc o dL_law_1347 q1347 ?_
  obtain ⟨_, k1348, e⟩ := e
  obtain ⟨x1348, h1348, q1348, e⟩ := e
  refine g_callVv [.int x1347] o (mX11_log q1348) cf11 (ckO_s k1348) mw_707 mw_708 mw_709 mw_1 mw_710 rfl yo_X11_log rfl rfl (Nat.le_of_ble_eq_true rfl) ⟨by decide, by decide⟩ ⟨rfl, rfl⟩ dL_law_1348 ⟨Nat.le_trans (Nat.le_add_right _ _) hc, Nat.le_trans (Nat.le_add_right _ _) hn⟩ ?_
  refine g_aload_n 2 o dL_law_1351 rfl rfl ?_
  refine g_aload_n 0 o dL_law_1352 rfl rfl ?_
  refine g_iload 4 o dL_law_1353 rfl ?_
  refine g_iconst (v := 1) o dL_law_1355 (by decide) ?_
  refine g_iadd (x := i) (y := 1) o dL_law_1356 ?_
  obtain ⟨x1357, q1357, e⟩ := e
  refine g_sld sc o dL_law_1357 q1357 ?_
  obtain ⟨_, k1358, e⟩ := e
  obtain ⟨x1358, h1358, q1358, e⟩ := e
  refine g_callVv [.int x1357] o (mX12_log q1358) cf12 (ckO_s k1358) mw_1617 mw_1618 mw_1619 mw_19 mw_1620 rfl yo_X12_log rfl rfl (Nat.le_of_ble_eq_true rfl) ⟨by decide, by decide⟩ ⟨rfl, rfl⟩ dL_law_1358 ⟨Nat.le_trans (Nat.le_add_right _ _) hc, Nat.le_trans (Nat.le_add_right _ _) hn⟩ ?_
  refine g_icmp_eq (x := x1348) (y := x1358) 1504 o dL_law_1361 (by decide) (fun u => ?_) (fun u => ?_)
  · rw [if_pos u] at e
    refine g_wd (c2 := c + 27) (n2 := n + 864) (Nat.le_add_right _ _) (Nat.le_add_right _ _) ?_
    exact kx h1358 e
  · rw [if_neg u] at e
    exact e.elim
def lw37 (f0 L : Nat) (xs0 : Nat → Int32) (xo mo oo : Nat) (i : Int32) (h : Hp) (K : Hp → Prop) : Prop := ∃ x1372, ldP L xs0 (i + 1) = some x1372 ∧ ∃ u, ckO 11 h xo = some u ∧ ∃ x1373 h1373, fX11_logged f0 xo x1372 h = some (x1373, h1373) ∧ ∃ x1382, ldP L xs0 (i + 1) = some x1382 ∧ ∃ u, ckO 12 h1373 mo = some u ∧ ∃ x1383 h1383, fX12_logged f0 mo x1382 h1373 = some (x1383, h1383) ∧ (if x1373 = x1383 then K h1383 else False)
set_option maxRecDepth 100000 in
set_option maxHeartbeats 4000000 in
theorem kl37 {X : Cx} (o : Ok X cL_law RL 7 room_1 (some .boolean)) (hst : (xl X).stackTraces = false) {sb L : Nat} {xs0 : Nat → Int32} (sc : SC X sb L xs0) (f0 xo mo oo : Nat) (i : Int32) (h : Hp) {c n : Nat} (hc : c + 27 ≤ room_1.cells) (hn : n + 864 ≤ room_1.slots) (K : Hp → Prop) (kx : ∀ h2 : Hp, K h2 → G X 7 1504 [(0, .ref sb), (1, .ref xo), (2, .ref mo), (3, .ref oo), (4, .int i)] [] h2 (c + 27) (n + 864)) (e : lw37 f0 L xs0 xo mo oo i h K) : G X 7 1366 [(0, .ref sb), (1, .ref xo), (2, .ref mo), (3, .ref oo), (4, .int i)] [] h c n := by
  unfold lw37 at e
  refine g_aload_n 1 o dL_law_1366 rfl rfl ?_
  refine g_aload_n 0 o dL_law_1367 rfl rfl ?_
  refine g_iload 4 o dL_law_1368 rfl ?_
  refine g_iconst (v := 1) o dL_law_1370 (by decide) ?_
  refine g_iadd (x := i) (y := 1) o dL_law_1371 ?_
  obtain ⟨x1372, q1372, e⟩ := e
  refine g_sld sc o dL_law_1372 q1372 ?_
  obtain ⟨_, k1373, e⟩ := e
  obtain ⟨x1373, h1373, q1373, e⟩ := e
  refine g_callVv [.int x1372] o (mX11_logged q1373) cf11 (ckO_s k1373) mw_800 mw_801 mw_802 mw_1 mw_803 rfl yo_X11_logged rfl rfl (Nat.le_of_ble_eq_true rfl) ⟨by decide, by decide⟩ ⟨rfl, rfl⟩ dL_law_1373 ⟨Nat.le_trans (Nat.le_add_right _ _) hc, Nat.le_trans (Nat.le_add_right _ _) hn⟩ ?_
  refine g_aload_n 2 o dL_law_1376 rfl rfl ?_
  refine g_aload_n 0 o dL_law_1377 rfl rfl ?_
  refine g_iload 4 o dL_law_1378 rfl ?_
  refine g_iconst (v := 1) o dL_law_1380 (by decide) ?_
  refine g_iadd (x := i) (y := 1) o dL_law_1381 ?_
  obtain ⟨x1382, q1382, e⟩ := e
  refine g_sld sc o dL_law_1382 q1382 ?_
  obtain ⟨_, k1383, e⟩ := e
  obtain ⟨x1383, h1383, q1383, e⟩ := e
  refine g_callVv [.int x1382] o (mX12_logged q1383) cf12 (ckO_s k1383) mw_1627 mw_1628 mw_1629 mw_19 mw_1630 rfl yo_X12_logged rfl rfl (Nat.le_of_ble_eq_true rfl) ⟨by decide, by decide⟩ ⟨rfl, rfl⟩ dL_law_1383 ⟨Nat.le_trans (Nat.le_add_right _ _) hc, Nat.le_trans (Nat.le_add_right _ _) hn⟩ ?_
  refine g_icmp_eq (x := x1373) (y := x1383) 1504 o dL_law_1386 (by decide) (fun u => ?_) (fun u => ?_)
  · rw [if_pos u] at e
    refine g_wd (c2 := c + 27) (n2 := n + 864) (Nat.le_add_right _ _) (Nat.le_add_right _ _) ?_
    exact kx h1383 e
  · rw [if_neg u] at e
    exact e.elim
def lw38 (f0 L : Nat) (xs0 : Nat → Int32) (xo mo oo : Nat) (i : Int32) (h : Hp) (K : Hp → Prop) : Prop := ∃ u, ckO 11 h xo = some u ∧ ∃ x1392 h1392, fX11_sentence f0 xo h = some (x1392, h1392) ∧ ∃ u, ckO 12 h1392 mo = some u ∧ ∃ x1396 h1396, fX12_sentence f0 mo h1392 = some (x1396, h1396) ∧ (if x1392 = x1396 then K h1396 else False)
set_option maxRecDepth 100000 in
set_option maxHeartbeats 4000000 in
theorem kl38 {X : Cx} (o : Ok X cL_law RL 7 room_1 (some .boolean)) (hst : (xl X).stackTraces = false) {sb L : Nat} {xs0 : Nat → Int32} (sc : SC X sb L xs0) (f0 xo mo oo : Nat) (i : Int32) (h : Hp) {c n : Nat} (hc : c + 27 ≤ room_1.cells) (hn : n + 864 ≤ room_1.slots) (K : Hp → Prop) (kx : ∀ h2 : Hp, K h2 → G X 7 1504 [(0, .ref sb), (1, .ref xo), (2, .ref mo), (3, .ref oo), (4, .int i)] [] h2 (c + 27) (n + 864)) (e : lw38 f0 L xs0 xo mo oo i h K) : G X 7 1391 [(0, .ref sb), (1, .ref xo), (2, .ref mo), (3, .ref oo), (4, .int i)] [] h c n := by
  unfold lw38 at e
  refine g_aload_n 1 o dL_law_1391 rfl rfl ?_
  obtain ⟨_, k1392, e⟩ := e
  obtain ⟨x1392, h1392, q1392, e⟩ := e
  refine g_callVv [] o (mX11_sentence q1392) cf11 (ckO_s k1392) mw_594 mw_595 mw_596 mw_1 mw_597 rfl yo_X11_sentence rfl rfl (Nat.le_of_ble_eq_true rfl) ⟨by decide, by decide⟩ ⟨rfl, rfl⟩ dL_law_1392 ⟨Nat.le_trans (Nat.le_add_right _ _) hc, Nat.le_trans (Nat.le_add_right _ _) hn⟩ ?_
  refine g_aload_n 2 o dL_law_1395 rfl rfl ?_
  obtain ⟨_, k1396, e⟩ := e
  obtain ⟨x1396, h1396, q1396, e⟩ := e
  refine g_callVv [] o (mX12_sentence q1396) cf12 (ckO_s k1396) mw_1631 mw_1632 mw_1633 mw_19 mw_1634 rfl yo_X12_sentence rfl rfl (Nat.le_of_ble_eq_true rfl) ⟨by decide, by decide⟩ ⟨rfl, rfl⟩ dL_law_1396 ⟨Nat.le_trans (Nat.le_add_right _ _) hc, Nat.le_trans (Nat.le_add_right _ _) hn⟩ ?_
  refine g_icmp_eq (x := x1392) (y := x1396) 1504 o dL_law_1399 (by decide) (fun u => ?_) (fun u => ?_)
  · rw [if_pos u] at e
    refine g_wd (c2 := c + 27) (n2 := n + 864) (Nat.le_add_right _ _) (Nat.le_add_right _ _) ?_
    exact kx h1396 e
  · rw [if_neg u] at e
    exact e.elim
def lw39 (f0 L : Nat) (xs0 : Nat → Int32) (xo mo oo : Nat) (i : Int32) (h : Hp) (K : Hp → Prop) : Prop := ∃ x1410, ldP L xs0 (i + 1) = some x1410 ∧ ∃ u, ckO 11 h xo = some u ∧ ∃ x1411 h1411, fX11_said f0 xo x1410 h = some (x1411, h1411) ∧ ∃ x1420, ldP L xs0 (i + 1) = some x1420 ∧ ∃ u, ckO 12 h1411 mo = some u ∧ ∃ x1421 h1421, fX12_said f0 mo x1420 h1411 = some (x1421, h1421) ∧ (if x1411 = x1421 then K h1421 else False)
set_option maxRecDepth 100000 in
set_option maxHeartbeats 4000000 in
theorem kl39 {X : Cx} (o : Ok X cL_law RL 7 room_1 (some .boolean)) (hst : (xl X).stackTraces = false) {sb L : Nat} {xs0 : Nat → Int32} (sc : SC X sb L xs0) (f0 xo mo oo : Nat) (i : Int32) (h : Hp) {c n : Nat} (hc : c + 27 ≤ room_1.cells) (hn : n + 864 ≤ room_1.slots) (K : Hp → Prop) (kx : ∀ h2 : Hp, K h2 → G X 7 1504 [(0, .ref sb), (1, .ref xo), (2, .ref mo), (3, .ref oo), (4, .int i)] [] h2 (c + 27) (n + 864)) (e : lw39 f0 L xs0 xo mo oo i h K) : G X 7 1404 [(0, .ref sb), (1, .ref xo), (2, .ref mo), (3, .ref oo), (4, .int i)] [] h c n := by
  unfold lw39 at e
  refine g_aload_n 1 o dL_law_1404 rfl rfl ?_
  refine g_aload_n 0 o dL_law_1405 rfl rfl ?_
  refine g_iload 4 o dL_law_1406 rfl ?_
  refine g_iconst (v := 1) o dL_law_1408 (by decide) ?_
  refine g_iadd (x := i) (y := 1) o dL_law_1409 ?_
  obtain ⟨x1410, q1410, e⟩ := e
  refine g_sld sc o dL_law_1410 q1410 ?_
  obtain ⟨_, k1411, e⟩ := e
  obtain ⟨x1411, h1411, q1411, e⟩ := e
  refine g_callVv [.int x1410] o (mX11_said q1411) cf11 (ckO_s k1411) mw_631 mw_632 mw_633 mw_1 mw_634 rfl yo_X11_said rfl rfl (Nat.le_of_ble_eq_true rfl) ⟨by decide, by decide⟩ ⟨rfl, rfl⟩ dL_law_1411 ⟨Nat.le_trans (Nat.le_add_right _ _) hc, Nat.le_trans (Nat.le_add_right _ _) hn⟩ ?_
  refine g_aload_n 2 o dL_law_1414 rfl rfl ?_
  refine g_aload_n 0 o dL_law_1415 rfl rfl ?_
  refine g_iload 4 o dL_law_1416 rfl ?_
  refine g_iconst (v := 1) o dL_law_1418 (by decide) ?_
  refine g_iadd (x := i) (y := 1) o dL_law_1419 ?_
  obtain ⟨x1420, q1420, e⟩ := e
  refine g_sld sc o dL_law_1420 q1420 ?_
  obtain ⟨_, k1421, e⟩ := e
  obtain ⟨x1421, h1421, q1421, e⟩ := e
  refine g_callVv [.int x1420] o (mX12_said q1421) cf12 (ckO_s k1421) mw_1653 mw_1654 mw_1655 mw_19 mw_1656 rfl yo_X12_said rfl rfl (Nat.le_of_ble_eq_true rfl) ⟨by decide, by decide⟩ ⟨rfl, rfl⟩ dL_law_1421 ⟨Nat.le_trans (Nat.le_add_right _ _) hc, Nat.le_trans (Nat.le_add_right _ _) hn⟩ ?_
  refine g_icmp_eq (x := x1411) (y := x1421) 1504 o dL_law_1424 (by decide) (fun u => ?_) (fun u => ?_)
  · rw [if_pos u] at e
    refine g_wd (c2 := c + 27) (n2 := n + 864) (Nat.le_add_right _ _) (Nat.le_add_right _ _) ?_
    exact kx h1421 e
  · rw [if_neg u] at e
    exact e.elim
def lw40 (f0 L : Nat) (xs0 : Nat → Int32) (xo mo oo : Nat) (i : Int32) (h : Hp) (K : Hp → Prop) : Prop := ∃ x1435, ldP L xs0 (i + 1) = some x1435 ∧ ∃ u, ckO 11 h xo = some u ∧ wX11_image f0 xo x1435 h (fun x1436 h1436 => ∃ x1445, ldP L xs0 (i + 1) = some x1445 ∧ ∃ u, ckO 12 h1436 mo = some u ∧ ∃ x1446 h1446, fX12_image f0 mo x1445 h1436 = some (x1446, h1446) ∧ (if x1436 = x1446 then K h1446 else False))
set_option maxRecDepth 100000 in
set_option maxHeartbeats 4000000 in
theorem kl40 {X : Cx} (o : Ok X cL_law RL 7 room_1 (some .boolean)) (hst : (xl X).stackTraces = false) {sb L : Nat} {xs0 : Nat → Int32} (sc : SC X sb L xs0) (f0 xo mo oo : Nat) (i : Int32) (h : Hp) {c n : Nat} (hc : c + 27 ≤ room_1.cells) (hn : n + 864 ≤ room_1.slots) (K : Hp → Prop) (kx : ∀ h2 : Hp, K h2 → G X 7 1504 [(0, .ref sb), (1, .ref xo), (2, .ref mo), (3, .ref oo), (4, .int i)] [] h2 (c + 27) (n + 864)) (e : lw40 f0 L xs0 xo mo oo i h K) : G X 7 1429 [(0, .ref sb), (1, .ref xo), (2, .ref mo), (3, .ref oo), (4, .int i)] [] h c n := by
  unfold lw40 at e
  refine g_aload_n 1 o dL_law_1429 rfl rfl ?_
  refine g_aload_n 0 o dL_law_1430 rfl rfl ?_
  refine g_iload 4 o dL_law_1431 rfl ?_
  refine g_iconst (v := 1) o dL_law_1433 (by decide) ?_
  refine g_iadd (x := i) (y := 1) o dL_law_1434 ?_
  obtain ⟨x1435, q1435, e⟩ := e
  refine g_sld sc o dL_law_1435 q1435 ?_
  obtain ⟨_, k1436, e⟩ := e
  refine g_callVW [.int x1435] o (mwX11_image e) cf11 (ckO_s k1436) mw_1021 mw_1022 mw_1023 mw_1 mw_1024 rfl yo_X11_image rfl rfl (Nat.le_of_ble_eq_true rfl) ⟨by decide, by decide⟩ ⟨hc, hn⟩ dL_law_1436 (fun x1436 h1436 e => ?_)
  refine g_aload_n 2 o dL_law_1439 rfl rfl ?_
  refine g_aload_n 0 o dL_law_1440 rfl rfl ?_
  refine g_iload 4 o dL_law_1441 rfl ?_
  refine g_iconst (v := 1) o dL_law_1443 (by decide) ?_
  refine g_iadd (x := i) (y := 1) o dL_law_1444 ?_
  obtain ⟨x1445, q1445, e⟩ := e
  refine g_sld sc o dL_law_1445 q1445 ?_
  obtain ⟨_, k1446, e⟩ := e
  obtain ⟨x1446, h1446, q1446, e⟩ := e
  refine g_callVv [.int x1445] o (mX12_image q1446) cf12 (ckO_s k1446) mw_1669 mw_1670 mw_1671 mw_19 mw_1672 rfl yo_X12_image rfl rfl (Nat.le_of_ble_eq_true rfl) ⟨by decide, by decide⟩ ⟨rfl, rfl⟩ dL_law_1446 ⟨Nat.le_trans (Nat.add_le_add_left (by decide) _) hc, Nat.le_trans (Nat.add_le_add_left (by decide) _) hn⟩ ?_
  refine g_icmp_eq (x := x1436) (y := x1446) 1504 o dL_law_1449 (by decide) (fun u => ?_) (fun u => ?_)
  · rw [if_pos u] at e
    refine g_wd (c2 := c + 27) (n2 := n + 864) (Nat.add_le_add_left (by decide) _) (Nat.add_le_add_left (by decide) _) ?_
    exact kx h1446 e
  · rw [if_neg u] at e
    exact e.elim
def lw41 (f0 L : Nat) (xs0 : Nat → Int32) (xo mo oo : Nat) (i : Int32) (h : Hp) (K : Hp → Prop) : Prop := ∃ x1460, ldP L xs0 (i + 1) = some x1460 ∧ ∃ u, ckO 11 h xo = some u ∧ ∃ x1461 h1461, fX11_restore f0 xo x1460 h = some (x1461, h1461) ∧ ∃ x1470, ldP L xs0 (i + 1) = some x1470 ∧ ∃ u, ckO 12 h1461 mo = some u ∧ ∃ x1471 h1471, fX12_restore f0 mo x1470 h1461 = some (x1471, h1471) ∧ (if x1461 = x1471 then K h1471 else False)
set_option maxRecDepth 100000 in
set_option maxHeartbeats 4000000 in
theorem kl41 {X : Cx} (o : Ok X cL_law RL 7 room_1 (some .boolean)) (hst : (xl X).stackTraces = false) {sb L : Nat} {xs0 : Nat → Int32} (sc : SC X sb L xs0) (f0 xo mo oo : Nat) (i : Int32) (h : Hp) {c n : Nat} (hc : c + 27 ≤ room_1.cells) (hn : n + 864 ≤ room_1.slots) (K : Hp → Prop) (kx : ∀ h2 : Hp, K h2 → G X 7 1504 [(0, .ref sb), (1, .ref xo), (2, .ref mo), (3, .ref oo), (4, .int i)] [] h2 (c + 27) (n + 864)) (e : lw41 f0 L xs0 xo mo oo i h K) : G X 7 1454 [(0, .ref sb), (1, .ref xo), (2, .ref mo), (3, .ref oo), (4, .int i)] [] h c n := by
  unfold lw41 at e
  refine g_aload_n 1 o dL_law_1454 rfl rfl ?_
  refine g_aload_n 0 o dL_law_1455 rfl rfl ?_
  refine g_iload 4 o dL_law_1456 rfl ?_
  refine g_iconst (v := 1) o dL_law_1458 (by decide) ?_
  refine g_iadd (x := i) (y := 1) o dL_law_1459 ?_
  obtain ⟨x1460, q1460, e⟩ := e
  refine g_sld sc o dL_law_1460 q1460 ?_
  obtain ⟨_, k1461, e⟩ := e
  obtain ⟨x1461, h1461, q1461, e⟩ := e
  refine g_callVv [.int x1460] o (mX11_restore q1461) cf11 (ckO_s k1461) mw_1042 mw_1043 mw_1044 mw_1 mw_1045 rfl yo_X11_restore rfl rfl (Nat.le_of_ble_eq_true rfl) ⟨by decide, by decide⟩ ⟨rfl, rfl⟩ dL_law_1461 ⟨Nat.le_trans (Nat.le_add_right _ _) hc, Nat.le_trans (Nat.le_add_right _ _) hn⟩ ?_
  refine g_aload_n 2 o dL_law_1464 rfl rfl ?_
  refine g_aload_n 0 o dL_law_1465 rfl rfl ?_
  refine g_iload 4 o dL_law_1466 rfl ?_
  refine g_iconst (v := 1) o dL_law_1468 (by decide) ?_
  refine g_iadd (x := i) (y := 1) o dL_law_1469 ?_
  obtain ⟨x1470, q1470, e⟩ := e
  refine g_sld sc o dL_law_1470 q1470 ?_
  obtain ⟨_, k1471, e⟩ := e
  obtain ⟨x1471, h1471, q1471, e⟩ := e
  refine g_callVv [.int x1470] o (mX12_restore q1471) cf12 (ckO_s k1471) mw_1673 mw_1674 mw_1675 mw_19 mw_1676 rfl yo_X12_restore rfl rfl (Nat.le_of_ble_eq_true rfl) ⟨by decide, by decide⟩ ⟨rfl, rfl⟩ dL_law_1471 ⟨Nat.le_trans (Nat.le_add_right _ _) hc, Nat.le_trans (Nat.le_add_right _ _) hn⟩ ?_
  refine g_icmp_eq (x := x1461) (y := x1471) 1504 o dL_law_1474 (by decide) (fun u => ?_) (fun u => ?_)
  · rw [if_pos u] at e
    refine g_wd (c2 := c + 27) (n2 := n + 864) (Nat.le_add_right _ _) (Nat.le_add_right _ _) ?_
    exact kx h1471 e
  · rw [if_neg u] at e
    exact e.elim
def lw42 (f0 L : Nat) (xs0 : Nat → Int32) (xo mo oo : Nat) (i : Int32) (h : Hp) (K : Hp → Prop) : Prop := ∃ x1485, ldP L xs0 (i + 1) = some x1485 ∧ ∃ u, ckO 11 h xo = some u ∧ ∃ x1486 h1486, fX11_count f0 xo x1485 h = some (x1486, h1486) ∧ ∃ x1495, ldP L xs0 (i + 1) = some x1495 ∧ ∃ u, ckO 12 h1486 mo = some u ∧ ∃ x1496 h1496, fX12_count f0 mo x1495 h1486 = some (x1496, h1496) ∧ (if x1486 = x1496 then K h1496 else False)
set_option maxRecDepth 100000 in
set_option maxHeartbeats 4000000 in
theorem kl42 {X : Cx} (o : Ok X cL_law RL 7 room_1 (some .boolean)) (hst : (xl X).stackTraces = false) {sb L : Nat} {xs0 : Nat → Int32} (sc : SC X sb L xs0) (f0 xo mo oo : Nat) (i : Int32) (h : Hp) {c n : Nat} (hc : c + 27 ≤ room_1.cells) (hn : n + 864 ≤ room_1.slots) (K : Hp → Prop) (kx : ∀ h2 : Hp, K h2 → G X 7 1504 [(0, .ref sb), (1, .ref xo), (2, .ref mo), (3, .ref oo), (4, .int i)] [] h2 (c + 27) (n + 864)) (e : lw42 f0 L xs0 xo mo oo i h K) : G X 7 1479 [(0, .ref sb), (1, .ref xo), (2, .ref mo), (3, .ref oo), (4, .int i)] [] h c n := by
  unfold lw42 at e
  refine g_aload_n 1 o dL_law_1479 rfl rfl ?_
  refine g_aload_n 0 o dL_law_1480 rfl rfl ?_
  refine g_iload 4 o dL_law_1481 rfl ?_
  refine g_iconst (v := 1) o dL_law_1483 (by decide) ?_
  refine g_iadd (x := i) (y := 1) o dL_law_1484 ?_
  obtain ⟨x1485, q1485, e⟩ := e
  refine g_sld sc o dL_law_1485 q1485 ?_
  obtain ⟨_, k1486, e⟩ := e
  obtain ⟨x1486, h1486, q1486, e⟩ := e
  refine g_callVv [.int x1485] o (mX11_count q1486) cf11 (ckO_s k1486) mw_804 mw_805 mw_806 mw_1 mw_807 rfl yo_X11_count rfl rfl (Nat.le_of_ble_eq_true rfl) ⟨by decide, by decide⟩ ⟨rfl, rfl⟩ dL_law_1486 ⟨Nat.le_trans (Nat.le_add_right _ _) hc, Nat.le_trans (Nat.le_add_right _ _) hn⟩ ?_
  refine g_aload_n 2 o dL_law_1489 rfl rfl ?_
  refine g_aload_n 0 o dL_law_1490 rfl rfl ?_
  refine g_iload 4 o dL_law_1491 rfl ?_
  refine g_iconst (v := 1) o dL_law_1493 (by decide) ?_
  refine g_iadd (x := i) (y := 1) o dL_law_1494 ?_
  obtain ⟨x1495, q1495, e⟩ := e
  refine g_sld sc o dL_law_1495 q1495 ?_
  obtain ⟨_, k1496, e⟩ := e
  obtain ⟨x1496, h1496, q1496, e⟩ := e
  refine g_callVv [.int x1495] o (mX12_count q1496) cf12 (ckO_s k1496) mw_1677 mw_1678 mw_1679 mw_19 mw_1680 rfl yo_X12_count rfl rfl (Nat.le_of_ble_eq_true rfl) ⟨by decide, by decide⟩ ⟨rfl, rfl⟩ dL_law_1496 ⟨Nat.le_trans (Nat.le_add_right _ _) hc, Nat.le_trans (Nat.le_add_right _ _) hn⟩ ?_
  refine g_icmp_eq (x := x1486) (y := x1496) 1504 o dL_law_1499 (by decide) (fun u => ?_) (fun u => ?_)
  · rw [if_pos u] at e
    refine g_wd (c2 := c + 27) (n2 := n + 864) (Nat.le_add_right _ _) (Nat.le_add_right _ _) ?_
    exact kx h1496 e
  · rw [if_neg u] at e
    exact e.elim
def lwCase (v : Int32) (f0 L : Nat) (xs0 : Nat → Int32) (xo mo oo : Nat) (i : Int32) (h : Hp) (K : Hp → Prop) : Prop := if v = 0 then lw0 f0 L xs0 xo mo oo i h K else if v = 1 then lw1 f0 L xs0 xo mo oo i h K else if v = 2 then lw2 f0 L xs0 xo mo oo i h K else if v = 3 then lw3 f0 L xs0 xo mo oo i h K else if v = 4 then lw4 f0 L xs0 xo mo oo i h K else if v = 5 then lw5 f0 L xs0 xo mo oo i h K else if v = 6 then lw6 f0 L xs0 xo mo oo i h K else if v = 7 then lw7 f0 L xs0 xo mo oo i h K else if v = 8 then lw8 f0 L xs0 xo mo oo i h K else if v = 9 then lw9 f0 L xs0 xo mo oo i h K else if v = 10 then lw10 f0 L xs0 xo mo oo i h K else if v = 11 then lw11 f0 L xs0 xo mo oo i h K else if v = 12 then lw12 f0 L xs0 xo mo oo i h K else if v = 13 then lw13 f0 L xs0 xo mo oo i h K else if v = 14 then lw14 f0 L xs0 xo mo oo i h K else if v = 15 then lw15 f0 L xs0 xo mo oo i h K else if v = 16 then lw16 f0 L xs0 xo mo oo i h K else if v = 17 then lw17 f0 L xs0 xo mo oo i h K else if v = 18 then lw18 f0 L xs0 xo mo oo i h K else if v = 19 then lw19 f0 L xs0 xo mo oo i h K else if v = 20 then lw20 f0 L xs0 xo mo oo i h K else if v = 21 then lw21 f0 L xs0 xo mo oo i h K else if v = 22 then lw22 f0 L xs0 xo mo oo i h K else if v = 23 then lw23 f0 L xs0 xo mo oo i h K else if v = 24 then lw24 f0 L xs0 xo mo oo i h K else if v = 25 then lw25 f0 L xs0 xo mo oo i h K else if v = 26 then lw26 f0 L xs0 xo mo oo i h K else if v = 27 then lw27 f0 L xs0 xo mo oo i h K else if v = 28 then lw28 f0 L xs0 xo mo oo i h K else if v = 29 then lw29 f0 L xs0 xo mo oo i h K else if v = 30 then lw30 f0 L xs0 xo mo oo i h K else if v = 31 then lw31 f0 L xs0 xo mo oo i h K else if v = 32 then lw32 f0 L xs0 xo mo oo i h K else if v = 33 then lw33 f0 L xs0 xo mo oo i h K else if v = 34 then lw34 f0 L xs0 xo mo oo i h K else if v = 35 then lw35 f0 L xs0 xo mo oo i h K else if v = 36 then lw36 f0 L xs0 xo mo oo i h K else if v = 37 then lw37 f0 L xs0 xo mo oo i h K else if v = 38 then lw38 f0 L xs0 xo mo oo i h K else if v = 39 then lw39 f0 L xs0 xo mo oo i h K else if v = 40 then lw40 f0 L xs0 xo mo oo i h K else if v = 41 then lw41 f0 L xs0 xo mo oo i h K else if v = 42 then lw42 f0 L xs0 xo mo oo i h K else K h
def lwStep (f0 L : Nat) (xs0 : Nat → Int32) (xo mo oo : Nat) (i : Int32) (h : Hp) (K : Hp → Prop) : Prop := ∃ v, ldP L xs0 i = some v ∧ lwCase (v &&& 63) f0 L xs0 xo mo oo i h K
set_option maxRecDepth 100000 in
set_option maxHeartbeats 4000000 in
theorem klCase {X : Cx} (o : Ok X cL_law RL 7 room_1 (some .boolean)) (hst : (xl X).stackTraces = false) {sb L : Nat} {xs0 : Nat → Int32} (sc : SC X sb L xs0) (f0 xo mo oo : Nat) (i : Int32) (h : Hp) {c n : Nat} (hc : c + 27 ≤ room_1.cells) (hn : n + 864 ≤ room_1.slots) (K : Hp → Prop) (kx : ∀ h2 : Hp, K h2 → G X 7 1504 [(0, .ref sb), (1, .ref xo), (2, .ref mo), (3, .ref oo), (4, .int i)] [] h2 (c + 27) (n + 864)) (v : Int32) (e : lwCase v f0 L xs0 xo mo oo i h K) : G X 7 40 [(0, .ref sb), (1, .ref xo), (2, .ref mo), (3, .ref oo), (4, .int i)] [.int v] h c n := by
  unfold lwCase at e
  by_cases u0 : v = 0
  · rw [if_pos u0] at e
    exact g_tabAt (x := v) 0 228 o dL_law_40 u0 (by decide) (by decide) (by decide) (by decide) (kl0 o hst sc f0 xo mo oo i h hc hn K kx e)
  rw [if_neg u0] at e
  by_cases u1 : v = 1
  · rw [if_pos u1] at e
    exact g_tabAt (x := v) 1 301 o dL_law_40 u1 (by decide) (by decide) (by decide) (by decide) (kl1 o hst sc f0 xo mo oo i h hc hn K kx e)
  rw [if_neg u1] at e
  by_cases u2 : v = 2
  · rw [if_pos u2] at e
    exact g_tabAt (x := v) 2 326 o dL_law_40 u2 (by decide) (by decide) (by decide) (by decide) (kl2 o hst sc f0 xo mo oo i h hc hn K kx e)
  rw [if_neg u2] at e
  by_cases u3 : v = 3
  · rw [if_pos u3] at e
    exact g_tabAt (x := v) 3 339 o dL_law_40 u3 (by decide) (by decide) (by decide) (by decide) (kl3 o hst sc f0 xo mo oo i h hc hn K kx e)
  rw [if_neg u3] at e
  by_cases u4 : v = 4
  · rw [if_pos u4] at e
    exact g_tabAt (x := v) 4 352 o dL_law_40 u4 (by decide) (by decide) (by decide) (by decide) (kl4 o hst sc f0 xo mo oo i h hc hn K kx e)
  rw [if_neg u4] at e
  by_cases u5 : v = 5
  · rw [if_pos u5] at e
    exact g_tabAt (x := v) 5 420 o dL_law_40 u5 (by decide) (by decide) (by decide) (by decide) (kl5 o hst sc f0 xo mo oo i h hc hn K kx e)
  rw [if_neg u5] at e
  by_cases u6 : v = 6
  · rw [if_pos u6] at e
    exact g_tabAt (x := v) 6 457 o dL_law_40 u6 (by decide) (by decide) (by decide) (by decide) (kl6 o hst sc f0 xo mo oo i h hc hn K kx e)
  rw [if_neg u6] at e
  by_cases u7 : v = 7
  · rw [if_pos u7] at e
    exact g_tabAt (x := v) 7 494 o dL_law_40 u7 (by decide) (by decide) (by decide) (by decide) (kl7 o hst sc f0 xo mo oo i h hc hn K kx e)
  rw [if_neg u7] at e
  by_cases u8 : v = 8
  · rw [if_pos u8] at e
    exact g_tabAt (x := v) 8 543 o dL_law_40 u8 (by decide) (by decide) (by decide) (by decide) (kl8 o hst sc f0 xo mo oo i h hc hn K kx e)
  rw [if_neg u8] at e
  by_cases u9 : v = 9
  · rw [if_pos u9] at e
    exact g_tabAt (x := v) 9 568 o dL_law_40 u9 (by decide) (by decide) (by decide) (by decide) (kl9 o hst sc f0 xo mo oo i h hc hn K kx e)
  rw [if_neg u9] at e
  by_cases u10 : v = 10
  · rw [if_pos u10] at e
    exact g_tabAt (x := v) 10 593 o dL_law_40 u10 (by decide) (by decide) (by decide) (by decide) (kl10 o hst sc f0 xo mo oo i h hc hn K kx e)
  rw [if_neg u10] at e
  by_cases u11 : v = 11
  · rw [if_pos u11] at e
    exact g_tabAt (x := v) 11 618 o dL_law_40 u11 (by decide) (by decide) (by decide) (by decide) (kl11 o hst sc f0 xo mo oo i h hc hn K kx e)
  rw [if_neg u11] at e
  by_cases u12 : v = 12
  · rw [if_pos u12] at e
    exact g_tabAt (x := v) 12 643 o dL_law_40 u12 (by decide) (by decide) (by decide) (by decide) (kl12 o hst sc f0 xo mo oo i h hc hn K kx e)
  rw [if_neg u12] at e
  by_cases u13 : v = 13
  · rw [if_pos u13] at e
    exact g_tabAt (x := v) 13 656 o dL_law_40 u13 (by decide) (by decide) (by decide) (by decide) (kl13 o hst sc f0 xo mo oo i h hc hn K kx e)
  rw [if_neg u13] at e
  by_cases u14 : v = 14
  · rw [if_pos u14] at e
    exact g_tabAt (x := v) 14 693 o dL_law_40 u14 (by decide) (by decide) (by decide) (by decide) (kl14 o hst sc f0 xo mo oo i h hc hn K kx e)
  rw [if_neg u14] at e
  by_cases u15 : v = 15
  · rw [if_pos u15] at e
    exact g_tabAt (x := v) 15 706 o dL_law_40 u15 (by decide) (by decide) (by decide) (by decide) (kl15 o hst sc f0 xo mo oo i h hc hn K kx e)
  rw [if_neg u15] at e
  by_cases u16 : v = 16
  · rw [if_pos u16] at e
    exact g_tabAt (x := v) 16 743 o dL_law_40 u16 (by decide) (by decide) (by decide) (by decide) (kl16 o hst sc f0 xo mo oo i h hc hn K kx e)
  rw [if_neg u16] at e
  by_cases u17 : v = 17
  · rw [if_pos u17] at e
    exact g_tabAt (x := v) 17 768 o dL_law_40 u17 (by decide) (by decide) (by decide) (by decide) (kl17 o hst sc f0 xo mo oo i h hc hn K kx e)
  rw [if_neg u17] at e
  by_cases u18 : v = 18
  · rw [if_pos u18] at e
    exact g_tabAt (x := v) 18 805 o dL_law_40 u18 (by decide) (by decide) (by decide) (by decide) (kl18 o hst sc f0 xo mo oo i h hc hn K kx e)
  rw [if_neg u18] at e
  by_cases u19 : v = 19
  · rw [if_pos u19] at e
    exact g_tabAt (x := v) 19 842 o dL_law_40 u19 (by decide) (by decide) (by decide) (by decide) (kl19 o hst sc f0 xo mo oo i h hc hn K kx e)
  rw [if_neg u19] at e
  by_cases u20 : v = 20
  · rw [if_pos u20] at e
    exact g_tabAt (x := v) 20 867 o dL_law_40 u20 (by decide) (by decide) (by decide) (by decide) (kl20 o hst sc f0 xo mo oo i h hc hn K kx e)
  rw [if_neg u20] at e
  by_cases u21 : v = 21
  · rw [if_pos u21] at e
    exact g_tabAt (x := v) 21 892 o dL_law_40 u21 (by decide) (by decide) (by decide) (by decide) (kl21 o hst sc f0 xo mo oo i h hc hn K kx e)
  rw [if_neg u21] at e
  by_cases u22 : v = 22
  · rw [if_pos u22] at e
    exact g_tabAt (x := v) 22 905 o dL_law_40 u22 (by decide) (by decide) (by decide) (by decide) (kl22 o hst sc f0 xo mo oo i h hc hn K kx e)
  rw [if_neg u22] at e
  by_cases u23 : v = 23
  · rw [if_pos u23] at e
    exact g_tabAt (x := v) 23 930 o dL_law_40 u23 (by decide) (by decide) (by decide) (by decide) (kl23 o hst sc f0 xo mo oo i h hc hn K kx e)
  rw [if_neg u23] at e
  by_cases u24 : v = 24
  · rw [if_pos u24] at e
    exact g_tabAt (x := v) 24 943 o dL_law_40 u24 (by decide) (by decide) (by decide) (by decide) (kl24 o hst sc f0 xo mo oo i h hc hn K kx e)
  rw [if_neg u24] at e
  by_cases u25 : v = 25
  · rw [if_pos u25] at e
    exact g_tabAt (x := v) 25 968 o dL_law_40 u25 (by decide) (by decide) (by decide) (by decide) (kl25 o hst sc f0 xo mo oo i h hc hn K kx e)
  rw [if_neg u25] at e
  by_cases u26 : v = 26
  · rw [if_pos u26] at e
    exact g_tabAt (x := v) 26 1005 o dL_law_40 u26 (by decide) (by decide) (by decide) (by decide) (kl26 o hst sc f0 xo mo oo i h hc hn K kx e)
  rw [if_neg u26] at e
  by_cases u27 : v = 27
  · rw [if_pos u27] at e
    exact g_tabAt (x := v) 27 1030 o dL_law_40 u27 (by decide) (by decide) (by decide) (by decide) (kl27 o hst sc f0 xo mo oo i h hc hn K kx e)
  rw [if_neg u27] at e
  by_cases u28 : v = 28
  · rw [if_pos u28] at e
    exact g_tabAt (x := v) 28 1055 o dL_law_40 u28 (by decide) (by decide) (by decide) (by decide) (kl28 o hst sc f0 xo mo oo i h hc hn K kx e)
  rw [if_neg u28] at e
  by_cases u29 : v = 29
  · rw [if_pos u29] at e
    exact g_tabAt (x := v) 29 1092 o dL_law_40 u29 (by decide) (by decide) (by decide) (by decide) (kl29 o hst sc f0 xo mo oo i h hc hn K kx e)
  rw [if_neg u29] at e
  by_cases u30 : v = 30
  · rw [if_pos u30] at e
    exact g_tabAt (x := v) 30 1117 o dL_law_40 u30 (by decide) (by decide) (by decide) (by decide) (kl30 o hst sc f0 xo mo oo i h hc hn K kx e)
  rw [if_neg u30] at e
  by_cases u31 : v = 31
  · rw [if_pos u31] at e
    exact g_tabAt (x := v) 31 1173 o dL_law_40 u31 (by decide) (by decide) (by decide) (by decide) (kl31 o hst sc f0 xo mo oo i h hc hn K kx e)
  rw [if_neg u31] at e
  by_cases u32 : v = 32
  · rw [if_pos u32] at e
    exact g_tabAt (x := v) 32 1241 o dL_law_40 u32 (by decide) (by decide) (by decide) (by decide) (kl32 o hst sc f0 xo mo oo i h hc hn K kx e)
  rw [if_neg u32] at e
  by_cases u33 : v = 33
  · rw [if_pos u33] at e
    exact g_tabAt (x := v) 33 1254 o dL_law_40 u33 (by decide) (by decide) (by decide) (by decide) (kl33 o hst sc f0 xo mo oo i h hc hn K kx e)
  rw [if_neg u33] at e
  by_cases u34 : v = 34
  · rw [if_pos u34] at e
    exact g_tabAt (x := v) 34 1267 o dL_law_40 u34 (by decide) (by decide) (by decide) (by decide) (kl34 o hst sc f0 xo mo oo i h hc hn K kx e)
  rw [if_neg u34] at e
  by_cases u35 : v = 35
  · rw [if_pos u35] at e
    exact g_tabAt (x := v) 35 1304 o dL_law_40 u35 (by decide) (by decide) (by decide) (by decide) (kl35 o hst sc f0 xo mo oo i h hc hn K kx e)
  rw [if_neg u35] at e
  by_cases u36 : v = 36
  · rw [if_pos u36] at e
    exact g_tabAt (x := v) 36 1341 o dL_law_40 u36 (by decide) (by decide) (by decide) (by decide) (kl36 o hst sc f0 xo mo oo i h hc hn K kx e)
  rw [if_neg u36] at e
  by_cases u37 : v = 37
  · rw [if_pos u37] at e
    exact g_tabAt (x := v) 37 1366 o dL_law_40 u37 (by decide) (by decide) (by decide) (by decide) (kl37 o hst sc f0 xo mo oo i h hc hn K kx e)
  rw [if_neg u37] at e
  by_cases u38 : v = 38
  · rw [if_pos u38] at e
    exact g_tabAt (x := v) 38 1391 o dL_law_40 u38 (by decide) (by decide) (by decide) (by decide) (kl38 o hst sc f0 xo mo oo i h hc hn K kx e)
  rw [if_neg u38] at e
  by_cases u39 : v = 39
  · rw [if_pos u39] at e
    exact g_tabAt (x := v) 39 1404 o dL_law_40 u39 (by decide) (by decide) (by decide) (by decide) (kl39 o hst sc f0 xo mo oo i h hc hn K kx e)
  rw [if_neg u39] at e
  by_cases u40 : v = 40
  · rw [if_pos u40] at e
    exact g_tabAt (x := v) 40 1429 o dL_law_40 u40 (by decide) (by decide) (by decide) (by decide) (kl40 o hst sc f0 xo mo oo i h hc hn K kx e)
  rw [if_neg u40] at e
  by_cases u41 : v = 41
  · rw [if_pos u41] at e
    exact g_tabAt (x := v) 41 1454 o dL_law_40 u41 (by decide) (by decide) (by decide) (by decide) (kl41 o hst sc f0 xo mo oo i h hc hn K kx e)
  rw [if_neg u41] at e
  by_cases u42 : v = 42
  · rw [if_pos u42] at e
    exact g_tabAt (x := v) 42 1479 o dL_law_40 u42 (by decide) (by decide) (by decide) (by decide) (kl42 o hst sc f0 xo mo oo i h hc hn K kx e)
  rw [if_neg u42] at e
  refine g_tabOut (x := v) 1504 o dL_law_40 (by have n0 := tb_ne 0 0 (by decide) u0; have n1 := tb_ne 1 1 (by decide) u1; have n2 := tb_ne 2 2 (by decide) u2; have n3 := tb_ne 3 3 (by decide) u3; have n4 := tb_ne 4 4 (by decide) u4; have n5 := tb_ne 5 5 (by decide) u5; have n6 := tb_ne 6 6 (by decide) u6; have n7 := tb_ne 7 7 (by decide) u7; have n8 := tb_ne 8 8 (by decide) u8; have n9 := tb_ne 9 9 (by decide) u9; have n10 := tb_ne 10 10 (by decide) u10; have n11 := tb_ne 11 11 (by decide) u11; have n12 := tb_ne 12 12 (by decide) u12; have n13 := tb_ne 13 13 (by decide) u13; have n14 := tb_ne 14 14 (by decide) u14; have n15 := tb_ne 15 15 (by decide) u15; have n16 := tb_ne 16 16 (by decide) u16; have n17 := tb_ne 17 17 (by decide) u17; have n18 := tb_ne 18 18 (by decide) u18; have n19 := tb_ne 19 19 (by decide) u19; have n20 := tb_ne 20 20 (by decide) u20; have n21 := tb_ne 21 21 (by decide) u21; have n22 := tb_ne 22 22 (by decide) u22; have n23 := tb_ne 23 23 (by decide) u23; have n24 := tb_ne 24 24 (by decide) u24; have n25 := tb_ne 25 25 (by decide) u25; have n26 := tb_ne 26 26 (by decide) u26; have n27 := tb_ne 27 27 (by decide) u27; have n28 := tb_ne 28 28 (by decide) u28; have n29 := tb_ne 29 29 (by decide) u29; have n30 := tb_ne 30 30 (by decide) u30; have n31 := tb_ne 31 31 (by decide) u31; have n32 := tb_ne 32 32 (by decide) u32; have n33 := tb_ne 33 33 (by decide) u33; have n34 := tb_ne 34 34 (by decide) u34; have n35 := tb_ne 35 35 (by decide) u35; have n36 := tb_ne 36 36 (by decide) u36; have n37 := tb_ne 37 37 (by decide) u37; have n38 := tb_ne 38 38 (by decide) u38; have n39 := tb_ne 39 39 (by decide) u39; have n40 := tb_ne 40 40 (by decide) u40; have n41 := tb_ne 41 41 (by decide) u41; have n42 := tb_ne 42 42 (by decide) u42; omega) (by decide) ?_
  refine g_wd (c2 := c + 27) (n2 := n + 864) (Nat.le_add_right _ _) (Nat.le_add_right _ _) ?_
  exact kx h e
set_option maxRecDepth 100000 in
set_option maxHeartbeats 4000000 in
theorem klStep {X : Cx} (o : Ok X cL_law RL 7 room_1 (some .boolean)) (hst : (xl X).stackTraces = false) {sb L : Nat} {xs0 : Nat → Int32} (sc : SC X sb L xs0) (f0 xo mo oo : Nat) (i : Int32) (h : Hp) {c n : Nat} (hc : c + 27 ≤ room_1.cells) (hn : n + 864 ≤ room_1.slots) (K : Hp → Prop) (kx : ∀ h2 : Hp, K h2 → G X 7 1504 [(0, .ref sb), (1, .ref xo), (2, .ref mo), (3, .ref oo), (4, .int i)] [] h2 (c + 27) (n + 864)) (e : lwStep f0 L xs0 xo mo oo i h K) : G X 7 33 [(0, .ref sb), (1, .ref xo), (2, .ref mo), (3, .ref oo), (4, .int i)] [] h c n := by
  obtain ⟨v, q, e⟩ := e
  refine g_aload_n 0 o dL_law_33 rfl rfl ?_
  refine g_iload 4 o dL_law_34 rfl ?_
  refine g_sld sc o dL_law_36 q ?_
  refine g_bipush (v := 63) o dL_law_37 (by decide) ?_
  refine g_iand (x := v) (y := 63) o dL_law_39 ?_
  exact klCase o hst sc f0 xo mo oo i h hc hn K kx (v &&& 63) e
