def R_law : String := "FalseNameLaw"
def lw_P (b : Addr) (xs : List Int32) (args : Array Value) (s : State) : Prop := args = #[.ref b] ∧ s.IntsAt b xs ∧ xs.length ≤ 3072 ∧ (Jvm.Cond.and given_1 narrow_1).before args s = true
def lw_Q (_ : Array Value) (s : State) (o : Outcome) (t : State) : Prop := o = .returned (some (.int 1)) ∧ Framed s o t [] 601024 7293034
def lw_Z (below : List Frame) (a : Array Value) (s : State) : State → Prop := fun t => ∃ o, t.status = .running ∧ Ended t below o ∧ lw_Q a s o t
/-- the law's own end, with 1 on the stack, nothing written that was there before, its room as the claim has it -/
theorem lw_ret {p : Program} {l : Launch} {e : Env} {s : State} {m : MethodId} {below : List Frame} {meth : Method} {c : Code} {b : Nat} (hx : p.tables.exec = Jvm.exec) (hb : c.code = code) (hr : meth.sig.returnType = ret) (hlocks : meth.locks = false) {pc : Nat} {H : Heap} {ls : Array Slot} (hdg : decode code pc = .ok (.ireturn, 1)) : W p l e room_1 s m #[Value.ref b] below meth c H [] 601024 7293034 (lw_Z below #[Value.ref b] s) (F0 m pc ls [.int 1]) := by
  intro T hT X
  obtain ⟨fs, hret, hrun, hended, hW, hframe⟩ := X.leave (v := some (.int 1)) (hlocks := hlocks) (fun h => by rw [hr] at h; cases h)
  have hmeth' : T.vm.method? m = some meth := X.method'
  refine ⟨T.setFrames fs, ?_, .returned (some (.int 1)), hrun, hended, rfl, ⟨_, rfl⟩, hW, hframe⟩
  jvm_step X.here [X.here.top, hx, hb, hdg, hmeth', hr, ret, narrow_b1]
  (try refine ⟨rfl, ?_⟩); (try refine ⟨rfl, ?_⟩)
  first | (intro acts; rw [hret _ acts rfl rfl rfl]) | rw [hret _ _ rfl rfl rfl]
  exact Steps.refl _
/-- what holds at the law's entry: the machine, the code, the tables' words (any of lw_tbl by 'hts w (by decide +kernel)'), the script of L ints xs at the cell b, what the Statement gives of the start (any of its parts by flat_of_before) -/
def lw_At (p : Program) (s : State) (m : MethodId) (meth : Method) (c : Code) (b L : Nat) (xs : Nat → Int32) : Prop :=
  p.tables.exec = Jvm.exec ∧ c.code = code ∧ meth.sig.returnType = ret ∧ c.maxLocals = 7 ∧ s.vm.findClass R_law = some m.cls ∧ (∀ w ∈ lw_tbl, w.before #[Value.ref b] s = true) ∧ va_X b L xs s s.heap ∧ b < s.heap.size ∧ meth.locks = false ∧ (Jvm.Cond.and given_1 narrow_1).before #[Value.ref b] s = true
def lwLoop (f0 L : Nat) (xs0 : Nat → Int32) (xo mo oo : Nat) (k : Nat) (i : Int32) (h : Hp) : Prop := match k with
  | 0 => (Int32.ofNat L - 6) < i
  | k1 + 1 => if (Int32.ofNat L - 6) < i then True else lwStep f0 L xs0 xo mo oo i h (fun h2 => lwLoop f0 L xs0 xo mo oo k1 (i + 6) h2)
set_option maxRecDepth 100000 in
set_option maxHeartbeats 4000000 in
theorem klLoop {X : Cx} (o : Ok X cL_law RL 7 room_1 (some .boolean)) (hst : (xl X).stackTraces = false) {sb L : Nat} {xs0 : Nat → Int32} (sc : SC X sb L xs0) (f0 xo mo oo : Nat) (xit : ∀ (i : Int32) (h : Hp) (c n : Nat), c ≤ 601024 → n ≤ 7293034 → G X 7 1510 [(0, .ref sb), (1, .ref xo), (2, .ref mo), (3, .ref oo), (4, .int i)] [] h c n) : ∀ (k : Nat) (i : Int32) (h : Hp) (c n : Nat), c + 27 * k ≤ 601024 → n + 864 * k ≤ 7293034 → lwLoop f0 L xs0 xo mo oo k i h → G X 7 23 [(0, .ref sb), (1, .ref xo), (2, .ref mo), (3, .ref oo), (4, .int i)] [] h c n := by
  intro k
  induction k with
  | zero =>
    intro i h c n hc hn e
    refine g_iload 4 o dL_law_23 rfl ?_
    refine g_aload_n 0 o dL_law_25 rfl rfl ?_
    refine g_slen (v := Int32.ofNat L) rfl sc o dL_law_26 ?_
    refine g_bipush (v := 6) o dL_law_27 (by decide) ?_
    refine g_isub (x := Int32.ofNat L) (y := 6) o dL_law_29 ?_
    refine g_icmp_gt (x := i) (y := Int32.ofNat L - 6) 1510 o dL_law_30 (by decide) (fun u => ?_) (fun u => absurd e u)
    exact xit i h c n (by omega) (by omega)
  | succ k1 ih =>
    intro i h c n hc hn e
    unfold lwLoop at e
    refine g_iload 4 o dL_law_23 rfl ?_
    refine g_aload_n 0 o dL_law_25 rfl rfl ?_
    refine g_slen (v := Int32.ofNat L) rfl sc o dL_law_26 ?_
    refine g_bipush (v := 6) o dL_law_27 (by decide) ?_
    refine g_isub (x := Int32.ofNat L) (y := 6) o dL_law_29 ?_
    refine g_icmp_gt (x := i) (y := Int32.ofNat L - 6) 1510 o dL_law_30 (by decide) (fun u => ?_) (fun u => ?_)
    · exact xit i h c n (by omega) (by omega)
    · rw [if_neg u] at e
      refine klStep o hst sc f0 xo mo oo i h (show c + 27 ≤ 601024 by omega) (show n + 864 ≤ 7293034 by omega) _ (fun h2 e2 => ?_) e
      refine g_iinc (k := 4) (v := i + 6) [(4, .int (i + 6)), (0, .ref sb), (1, .ref xo), (2, .ref mo), (3, .ref oo)] o dL_law_1504 rfl rfl (by decide) rfl ?_
      refine g_goto 23 o dL_law_1507 (by decide) ?_
      refine g_sb [1, 2, 3, 4, 0] rfl ?_
      exact ih (i + 6) h2 (c + 27) (n + 864) (by omega) (by omega) e2
/-- THE PURE STATEMENT: what is left when the machine is done with -/
def lwAll (f0 L : Nat) (xs0 : Nat → Int32) : Prop := ∀ a0 : Nat, wX11_init f0 a0 (nwO 11 dv11 (fun _ => dead) a0) (fun h1 => ∀ a8 : Nat, h1 a8 = dead → wX12_init f0 a8 (nwO 12 dv12 h1 a8) (fun h2 => ∀ a17 : Nat, h2 a17 = dead → lwLoop f0 L xs0 a0 a8 a17 513 0 (nwA 2 (1, .inr (.inl (fun _ => 0))) h2 a17)))
theorem st_ex : ∀ i, i < 2 → Cond.exactly (.string RX4 (if i = 0 then 19 else 68)) "java/lang/String" ∈ flatC (Jvm.Cond.and given_1 narrow_1) := by decide +kernel
theorem st_co : ∀ i, i < 2 → Cond.eq (.field (.string RX4 (if i = 0 then 19 else 68)) "java/lang/String" "coder" "B") (.int 0) ∈ flatC (Jvm.Cond.and given_1 narrow_1) := by decide +kernel
theorem st_ar : ∀ i, i < 2 → Cond.arrayOf (.field (.string RX4 (if i = 0 then 19 else 68)) "java/lang/String" "value" "[B") .byte ∈ flatC (Jvm.Cond.and given_1 narrow_1) := by decide +kernel
theorem st_le : ∀ i, i < 2 → Cond.eq (.length (.field (.string RX4 (if i = 0 then 19 else 68)) "java/lang/String" "value" "[B")) (.int (Int32.ofNat (lenS.getD i 0))) ∈ flatC (Jvm.Cond.and given_1 narrow_1) := by decide +kernel
theorem st_el0_0 : ∀ r, r < 10 → Cond.eq (.elem (.field (.string RX4 19) "java/lang/String" "value" "[B") (.int (Int32.ofNat (0 + r)))) (.int ((bytS.getD 0 []).getD (0 + r) 0)) ∈ flatC (Jvm.Cond.and given_1 narrow_1) := by decide +kernel
theorem st_el0_1 : ∀ r, r < 10 → Cond.eq (.elem (.field (.string RX4 19) "java/lang/String" "value" "[B") (.int (Int32.ofNat (10 + r)))) (.int ((bytS.getD 0 []).getD (10 + r) 0)) ∈ flatC (Jvm.Cond.and given_1 narrow_1) := by decide +kernel
theorem st_el0_2 : ∀ r, r < 10 → Cond.eq (.elem (.field (.string RX4 19) "java/lang/String" "value" "[B") (.int (Int32.ofNat (20 + r)))) (.int ((bytS.getD 0 []).getD (20 + r) 0)) ∈ flatC (Jvm.Cond.and given_1 narrow_1) := by decide +kernel
theorem st_el0_3 : ∀ r, r < 10 → Cond.eq (.elem (.field (.string RX4 19) "java/lang/String" "value" "[B") (.int (Int32.ofNat (30 + r)))) (.int ((bytS.getD 0 []).getD (30 + r) 0)) ∈ flatC (Jvm.Cond.and given_1 narrow_1) := by decide +kernel
theorem st_el0_4 : ∀ r, r < 10 → Cond.eq (.elem (.field (.string RX4 19) "java/lang/String" "value" "[B") (.int (Int32.ofNat (40 + r)))) (.int ((bytS.getD 0 []).getD (40 + r) 0)) ∈ flatC (Jvm.Cond.and given_1 narrow_1) := by decide +kernel
theorem st_el0_5 : ∀ r, r < 10 → Cond.eq (.elem (.field (.string RX4 19) "java/lang/String" "value" "[B") (.int (Int32.ofNat (50 + r)))) (.int ((bytS.getD 0 []).getD (50 + r) 0)) ∈ flatC (Jvm.Cond.and given_1 narrow_1) := by decide +kernel
theorem st_el0_6 : ∀ r, r < 10 → Cond.eq (.elem (.field (.string RX4 19) "java/lang/String" "value" "[B") (.int (Int32.ofNat (60 + r)))) (.int ((bytS.getD 0 []).getD (60 + r) 0)) ∈ flatC (Jvm.Cond.and given_1 narrow_1) := by decide +kernel
theorem st_el0_7 : ∀ r, r < 10 → Cond.eq (.elem (.field (.string RX4 19) "java/lang/String" "value" "[B") (.int (Int32.ofNat (70 + r)))) (.int ((bytS.getD 0 []).getD (70 + r) 0)) ∈ flatC (Jvm.Cond.and given_1 narrow_1) := by decide +kernel
theorem st_el0_8 : ∀ r, r < 10 → Cond.eq (.elem (.field (.string RX4 19) "java/lang/String" "value" "[B") (.int (Int32.ofNat (80 + r)))) (.int ((bytS.getD 0 []).getD (80 + r) 0)) ∈ flatC (Jvm.Cond.and given_1 narrow_1) := by decide +kernel
theorem st_el0_9 : ∀ r, r < 10 → Cond.eq (.elem (.field (.string RX4 19) "java/lang/String" "value" "[B") (.int (Int32.ofNat (90 + r)))) (.int ((bytS.getD 0 []).getD (90 + r) 0)) ∈ flatC (Jvm.Cond.and given_1 narrow_1) := by decide +kernel
theorem st_el0_10 : ∀ r, r < 10 → Cond.eq (.elem (.field (.string RX4 19) "java/lang/String" "value" "[B") (.int (Int32.ofNat (100 + r)))) (.int ((bytS.getD 0 []).getD (100 + r) 0)) ∈ flatC (Jvm.Cond.and given_1 narrow_1) := by decide +kernel
theorem st_el0_11 : ∀ r, r < 10 → Cond.eq (.elem (.field (.string RX4 19) "java/lang/String" "value" "[B") (.int (Int32.ofNat (110 + r)))) (.int ((bytS.getD 0 []).getD (110 + r) 0)) ∈ flatC (Jvm.Cond.and given_1 narrow_1) := by decide +kernel
theorem st_el0_12 : ∀ r, r < 10 → Cond.eq (.elem (.field (.string RX4 19) "java/lang/String" "value" "[B") (.int (Int32.ofNat (120 + r)))) (.int ((bytS.getD 0 []).getD (120 + r) 0)) ∈ flatC (Jvm.Cond.and given_1 narrow_1) := by decide +kernel
theorem st_el0_13 : ∀ r, r < 10 → Cond.eq (.elem (.field (.string RX4 19) "java/lang/String" "value" "[B") (.int (Int32.ofNat (130 + r)))) (.int ((bytS.getD 0 []).getD (130 + r) 0)) ∈ flatC (Jvm.Cond.and given_1 narrow_1) := by decide +kernel
theorem st_el0_14 : ∀ r, r < 5 → Cond.eq (.elem (.field (.string RX4 19) "java/lang/String" "value" "[B") (.int (Int32.ofNat (140 + r)))) (.int ((bytS.getD 0 []).getD (140 + r) 0)) ∈ flatC (Jvm.Cond.and given_1 narrow_1) := by decide +kernel
theorem st_el0 : ∀ j, j < 145 → Cond.eq (.elem (.field (.string RX4 19) "java/lang/String" "value" "[B") (.int (Int32.ofNat (j)))) (.int ((bytS.getD 0 []).getD (j) 0)) ∈ flatC (Jvm.Cond.and given_1 narrow_1) := by
  intro j hj
  rcases (show (0 ≤ j ∧ j < 10) ∨ (10 ≤ j ∧ j < 20) ∨ (20 ≤ j ∧ j < 30) ∨ (30 ≤ j ∧ j < 40) ∨ (40 ≤ j ∧ j < 50) ∨ (50 ≤ j ∧ j < 60) ∨ (60 ≤ j ∧ j < 70) ∨ (70 ≤ j ∧ j < 80) ∨ (80 ≤ j ∧ j < 90) ∨ (90 ≤ j ∧ j < 100) ∨ (100 ≤ j ∧ j < 110) ∨ (110 ≤ j ∧ j < 120) ∨ (120 ≤ j ∧ j < 130) ∨ (130 ≤ j ∧ j < 140) ∨ (140 ≤ j ∧ j < 145) by omega) with h | h | h | h | h | h | h | h | h | h | h | h | h | h | h
  · have z := st_el0_0 (j - 0) (by omega)
    rw [show 0 + (j - 0) = j by omega] at z
    exact z
  · have z := st_el0_1 (j - 10) (by omega)
    rw [show 10 + (j - 10) = j by omega] at z
    exact z
  · have z := st_el0_2 (j - 20) (by omega)
    rw [show 20 + (j - 20) = j by omega] at z
    exact z
  · have z := st_el0_3 (j - 30) (by omega)
    rw [show 30 + (j - 30) = j by omega] at z
    exact z
  · have z := st_el0_4 (j - 40) (by omega)
    rw [show 40 + (j - 40) = j by omega] at z
    exact z
  · have z := st_el0_5 (j - 50) (by omega)
    rw [show 50 + (j - 50) = j by omega] at z
    exact z
  · have z := st_el0_6 (j - 60) (by omega)
    rw [show 60 + (j - 60) = j by omega] at z
    exact z
  · have z := st_el0_7 (j - 70) (by omega)
    rw [show 70 + (j - 70) = j by omega] at z
    exact z
  · have z := st_el0_8 (j - 80) (by omega)
    rw [show 80 + (j - 80) = j by omega] at z
    exact z
  · have z := st_el0_9 (j - 90) (by omega)
    rw [show 90 + (j - 90) = j by omega] at z
    exact z
  · have z := st_el0_10 (j - 100) (by omega)
    rw [show 100 + (j - 100) = j by omega] at z
    exact z
  · have z := st_el0_11 (j - 110) (by omega)
    rw [show 110 + (j - 110) = j by omega] at z
    exact z
  · have z := st_el0_12 (j - 120) (by omega)
    rw [show 120 + (j - 120) = j by omega] at z
    exact z
  · have z := st_el0_13 (j - 130) (by omega)
    rw [show 130 + (j - 130) = j by omega] at z
    exact z
  · have z := st_el0_14 (j - 140) (by omega)
    rw [show 140 + (j - 140) = j by omega] at z
    exact z
theorem st_el1 : ∀ j, j < 6 → Cond.eq (.elem (.field (.string RX4 68) "java/lang/String" "value" "[B") (.int (Int32.ofNat j))) (.int ((bytS.getD 1 []).getD j 0)) ∈ flatC (Jvm.Cond.and given_1 narrow_1) := by decide +kernel
theorem st_ne : Cond.not (Cond.eq (.string RX4 19) (.string RX4 68)) ∈ flatC (Jvm.Cond.and given_1 narrow_1) ∨ Cond.not (Cond.eq (.string RX4 68) (.string RX4 19)) ∈ flatC (Jvm.Cond.and given_1 narrow_1) := by decide +kernel
theorem st_m : ∀ j, j < 7 → Cond.eq (.elem (.static RX11 "MOST" "[I") (.int (Int32.ofNat j))) (.int (mostL.getD j 0)) ∈ flatC (Jvm.Cond.and given_1 narrow_1) := by decide +kernel
theorem st_ml : Cond.eq (.length (.static RX11 "MOST" "[I")) (.int 7) ∈ flatC (Jvm.Cond.and given_1 narrow_1) ∧ Cond.arrayOf (.static RX11 "MOST" "[I") .int ∈ flatC (Jvm.Cond.and given_1 narrow_1) := by decide +kernel
theorem st_cs : Cond.eq (.static "java/lang/String" "COMPACT_STRINGS" "Z") (.int 1) ∈ flatC (Jvm.Cond.and given_1 narrow_1) := by decide +kernel
theorem st_us : Cond.isRef (.static Bundle.tN "UNASSIGNED_STACK" Bundle.steD) ∈ flatC (Jvm.Cond.and given_1 narrow_1) ∧ Cond.isRef (.static Bundle.tN "SUPPRESSED_SENTINEL" Bundle.listD) ∈ flatC (Jvm.Cond.and given_1 narrow_1) := by decide +kernel
theorem st_sf : Cond.isRef (.static "jdk/internal/util/Preconditions" "SIOOBE_FORMATTER" "Ljava/util/function/BiFunction;") ∈ flatC (Jvm.Cond.and given_1 narrow_1) := by decide +kernel
theorem vk_cong {N : Nat} {len : List Nat} {byt : List (List Int32)} {adK adV adK2 adV2 : Nat → Nat} {A : Nat → Prop} {U : State} {H : Heap} (hq : ∀ i, i < N → adK2 i = adK i ∧ adV2 i = adV i) (h : vk_S N len byt adK adV A U H) : vk_S N len byt adK2 adV2 A U H := by
  refine ⟨fun i hi => ?_, fun i j hi hj e => h.2 i j hi hj (by rw [← (hq i hi).1, ← (hq j hj).1]; exact e)⟩
  rw [(hq i hi).1, (hq i hi).2]
  exact h.1 i hi
theorem wl_1 {w : Cond} (z : w ∈ tables_1_1) : w ∈ lw_tbl := List.mem_append_right _ (List.mem_append_left _ z)
theorem wl_2 {w : Cond} (z : w ∈ tables_1_2) : w ∈ lw_tbl := List.mem_append_right _ (List.mem_append_right _ (List.mem_append_left _ z))
theorem wl_3 {w : Cond} (z : w ∈ tables_1_3) : w ∈ lw_tbl := List.mem_append_right _ (List.mem_append_right _ (List.mem_append_right _ (List.mem_append_left _ z)))
theorem wl_4 {w : Cond} (z : w ∈ tables_1_4) : w ∈ lw_tbl := List.mem_append_right _ (List.mem_append_right _ (List.mem_append_right _ (List.mem_append_right _ (List.mem_append_left _ z))))
theorem wl_5 {w : Cond} (z : w ∈ tables_1_5) : w ∈ lw_tbl := List.mem_append_right _ (List.mem_append_right _ (List.mem_append_right _ (List.mem_append_right _ (List.mem_append_right _ (List.mem_append_left _ z)))))
theorem wl_6 {w : Cond} (z : w ∈ tables_1_6) : w ∈ lw_tbl := List.mem_append_right _ (List.mem_append_right _ (List.mem_append_right _ (List.mem_append_right _ (List.mem_append_right _ (List.mem_append_right _ (List.mem_append_left _ z))))))
theorem wl_7 {w : Cond} (z : w ∈ tables_1_7) : w ∈ lw_tbl := List.mem_append_right _ (List.mem_append_right _ (List.mem_append_right _ (List.mem_append_right _ (List.mem_append_right _ (List.mem_append_right _ (List.mem_append_right _ (List.mem_append_left _ z)))))))
theorem wl_8 {w : Cond} (z : w ∈ tables_1_8) : w ∈ lw_tbl := List.mem_append_right _ (List.mem_append_right _ (List.mem_append_right _ (List.mem_append_right _ (List.mem_append_right _ (List.mem_append_right _ (List.mem_append_right _ (List.mem_append_right _ (List.mem_append_left _ z))))))))
theorem wl_9 {w : Cond} (z : w ∈ tables_1_9) : w ∈ lw_tbl := List.mem_append_right _ (List.mem_append_right _ (List.mem_append_right _ (List.mem_append_right _ (List.mem_append_right _ (List.mem_append_right _ (List.mem_append_right _ (List.mem_append_right _ (List.mem_append_right _ (z)))))))))
theorem lt_s0 : Cond.stringRef RX4 19 txW ∈ lw_tbl := wl_1 (List.mem_of_getElem? (i := 41) (by decide +kernel))
theorem lt_s1 : Cond.stringRef RX4 68 txS ∈ lw_tbl := wl_3 (List.mem_of_getElem? (i := 69) (by decide +kernel))
theorem lt_fn : Cond.fieldLinkNest RX7 59 RX11 "MOST" "[I" RX11 ∈ lw_tbl := wl_3 (List.mem_of_getElem? (i := 144) (by decide +kernel))
theorem lt_ls : Cond.laysStatic RX11 "MOST" "[I" ∈ lw_tbl := wl_3 (List.mem_of_getElem? (i := 145) (by decide +kernel))
theorem lt_lc : Cond.laysStatic "java/lang/String" "COMPACT_STRINGS" "Z" ∈ lw_tbl := wl_1 (List.mem_of_getElem? (i := 51) (by decide +kernel))
theorem lt_lu : Cond.laysStatic Bundle.tN "UNASSIGNED_STACK" Bundle.steD ∈ lw_tbl := wl_6 (List.mem_of_getElem? (i := 41) (by decide +kernel))
theorem lt_lp : Cond.laysStatic Bundle.tN "SUPPRESSED_SENTINEL" Bundle.listD ∈ lw_tbl := wl_6 (List.mem_of_getElem? (i := 43) (by decide +kernel))
theorem lt_lf : Cond.laysStatic "jdk/internal/util/Preconditions" "SIOOBE_FORMATTER" "Ljava/util/function/BiFunction;" ∈ lw_tbl := wl_1 (List.mem_of_getElem? (i := 67) (by decide +kernel))
theorem lt_ca : Cond.castable vxE vxE ∈ lw_tbl := wl_6 (List.mem_of_getElem? (i := 16) (by decide +kernel))
theorem lt_a10 : Cond.arrayOver (.object RX10) ∈ lw_tbl := wl_2 (List.mem_of_getElem? (i := 162) (by decide +kernel))
theorem lt_a1 : Cond.arrayOver (.object RX1) ∈ lw_tbl := wl_2 (List.mem_of_getElem? (i := 164) (by decide +kernel))
theorem lt_n0 : Cond.methodLinkNest RX11 24 yX6_init RX11 ∈ lw_tbl := wl_1 (List.mem_of_getElem? (i := 140) (by decide +kernel))
theorem lt_n1 : Cond.methodLinkNest RX6 11 yX3_init RX11 ∈ lw_tbl := wl_1 (List.mem_of_getElem? (i := 146) (by decide +kernel))
theorem lt_n2 : Cond.methodLinkNest RX11 43 yX8_init RX11 ∈ lw_tbl := wl_2 (List.mem_of_getElem? (i := 14) (by decide +kernel))
theorem lt_n3 : Cond.methodLinkNest RX11 353 yX1_init RX11 ∈ lw_tbl := wl_5 (List.mem_of_getElem? (i := 219) (by decide +kernel))
theorem lt_n4 : Cond.methodLinkNest RX1 9 yX6_init RX11 ∈ lw_tbl := wl_5 (List.mem_of_getElem? (i := 224) (by decide +kernel))
theorem lt_n5 : Cond.methodLinkNest RX1 27 yX8_init RX11 ∈ lw_tbl := wl_5 (List.mem_of_getElem? (i := 228) (by decide +kernel))
theorem lt_d0 : Cond.declares (Bundle.init0 "java/lang/RuntimeException") ∈ lw_tbl := wl_6 (List.mem_of_getElem? (i := 17) (by decide +kernel))
theorem lt_d1 : Cond.declares (Bundle.init0 "java/lang/Exception") ∈ lw_tbl := wl_6 (List.mem_of_getElem? (i := 19) (by decide +kernel))
theorem lt_d2 : Cond.declares (Bundle.init0 "java/lang/Throwable") ∈ lw_tbl := wl_6 (List.mem_of_getElem? (i := 21) (by decide +kernel))
theorem cst_start {s : State} {b : Nat} {D : va_G} {A : Nat → Prop} (hA : ∀ a : Nat, a < s.heap.size → ¬ A a) (hts : ∀ w ∈ lw_tbl, w.before #[Value.ref b] s = true) {adK adV : Nat → Nat} {mA : Nat} (hD : (∀ i, i < 2 → D.2 (100 + i) 0 = adK i ∧ D.2 (100 + i) 1 = adV i) ∧ D.2 102 0 = mA) (hS : vk_S 2 lenS bytS adK adV A s s.heap) (hK0 : (Term.string RX4 19).eval #[Value.ref b] s none [] s = some (.ref (adK 0))) (hK1 : (Term.string RX4 68).eval #[Value.ref b] s none [] s = some (.ref (adK 1)))
    (hM : (Term.static RX11 "MOST" "[I").eval #[Value.ref b] s none [] s = some (.ref mA)) (hT : va_T .int mA 7 (fun j => .int (mostL.getD j 0)) A s s.heap) (hgv : (Jvm.Cond.and given_1 narrow_1).before #[Value.ref b] s = true) : Cst D A s := by
  have hs := flat_of_before _ hgv
  have e0 : sK D 0 = adK 0 := (hD.1 0 (by decide)).1
  have e1 : sK D 1 = adK 1 := (hD.1 1 (by decide)).1
  have eM : sM D = mA := hD.2
  refine ⟨vk_cong (fun i hi => hD.1 i hi) hS, ?_, ?_, ?_, ?_, ?_, va_Nw.of rfl (hts _ lt_fn), ?_, ?_⟩
  · rw [e0]; exact vk_R.of (hts _ lt_s0) hK0
  · rw [e1]; exact vk_R.of (hts _ lt_s1) hK1
  · rw [eM]; exact va_Zof (hts _ lt_ls) (hts _ (List.mem_filter.mp mw_1).1) hM hA
  · rw [eM]; exact hT
  · exact va_Zof (hts _ lt_lc) (hts _ (List.mem_filter.mp mw_3).1) (va_eqi (hs _ st_cs)) hA
  · intro q hq
    simp only [nestM, List.mem_cons, List.not_mem_nil, or_false] at hq
    rcases hq with rfl | rfl | rfl | rfl | rfl | rfl
    · exact va_Nw.of rfl (hts _ lt_n0)
    · exact va_Nw.of rfl (hts _ lt_n1)
    · exact va_Nw.of rfl (hts _ lt_n2)
    · exact va_Nw.of rfl (hts _ lt_n3)
    · exact va_Nw.of rfl (hts _ lt_n4)
    · exact va_Nw.of rfl (hts _ lt_n5)
  · refine ⟨vx_Zqof (hts _ lt_lu) (hts _ (List.mem_filter.mp mw_21).1) (hs _ st_us.1) hA, vx_Zqof (hts _ lt_lp) (hts _ (List.mem_filter.mp mw_21).1) (hs _ st_us.2) hA, va_Nw.of rfl (hts _ lt_ca), ?_, va_AO.of (hts _ lt_a10), va_AO.of (hts _ lt_a1), va_Zqof (hts _ lt_lf) (hts _ (List.mem_filter.mp mw_5).1) (hs _ st_sf) hA⟩
    intro y hy
    simp only [vxD, List.mem_cons, List.not_mem_nil, or_false] at hy
    rcases hy with rfl | rfl | rfl
    · exact va_Nw.of rfl (hts _ lt_d0)
    · exact va_Nw.of rfl (hts _ lt_d1)
    · exact va_Nw.of rfl (hts _ lt_d2)
set_option maxRecDepth 100000 in
set_option maxHeartbeats 8000000 in
theorem whole_open {p : Program} {e : Env} {s : State} {m : MethodId} {below : List Frame} {meth : Method} {c : Code} (l : Launch) (hst : l.stackTraces = false) {b L : Nat} {xs0 : Nat → Int32} {f0 : Nat} (hall : lwAll f0 L xs0) (C0 : lw_At p s m meth c b L xs0) : W p l e room_1 s m #[Value.ref b] below meth c s.heap [] 0 0 (lw_Z below #[Value.ref b] s) (entryFrame m ([Value.ref b] : List Value).toArray 7) := by
  obtain ⟨hx, hb, hr, hml, hown, hts, hX, hbl, hlocks, hgv⟩ := id C0
  have hs := flat_of_before _ hgv
  have hA : ∀ a : Nat, a < s.heap.size → ¬ (fun q : Nat => s.heap.size ≤ q) a := fun a h => Nat.not_le.mpr h
  obtain ⟨c0, i0, n0⟩ := u_known (C := RX0) (T := TX0) (N := 2) (n := 2) hts (fun w h => (List.mem_filter.mp (cfw_0 w h)).1) (hts _ (List.mem_filter.mp mw_321).1)
  obtain ⟨c1, i1, n1⟩ := u_known (C := RX1) (T := TX1) (N := 3) (n := 3) hts (fun w h => (List.mem_filter.mp (cfw_1 w h)).1) (hts _ (List.mem_filter.mp mw_1025).1)
  obtain ⟨c2, i2, n2⟩ := u_known (C := RX2) (T := TX2) (N := 11) (n := 11) hts (fun w h => (List.mem_filter.mp (cfw_2 w h)).1) (hts _ (List.mem_filter.mp mw_238).1)
  obtain ⟨c3, i3, n3⟩ := u_known (C := RX3) (T := TX3) (N := 4) (n := 4) hts (fun w h => (List.mem_filter.mp (cfw_3 w h)).1) (hts _ (List.mem_filter.mp mw_125).1)
  obtain ⟨c4, i4, n4⟩ := u_known (C := RX4) (T := TX4) (N := 12) (n := 12) hts (fun w h => (List.mem_filter.mp (cfw_4 w h)).1) (hts _ (List.mem_filter.mp mw_36).1)
  obtain ⟨c5, i5, n5⟩ := u_known (C := RX5) (T := TX5) (N := 3) (n := 3) hts (fun w h => (List.mem_filter.mp (cfw_5 w h)).1) (hts _ (List.mem_filter.mp mw_332).1)
  obtain ⟨c6, i6, n6⟩ := u_known (C := RX6) (T := TX6) (N := 13) (n := 13) hts (fun w h => (List.mem_filter.mp (cfw_6 w h)).1) (hts _ (List.mem_filter.mp mw_120).1)
  obtain ⟨c7, i7, n7⟩ := u_known (C := RX7) (T := TX7) (N := 3) (n := 3) hts (fun w h => (List.mem_filter.mp (cfw_7 w h)).1) (hts _ (List.mem_filter.mp mw_197).1)
  obtain ⟨c8, i8, n8⟩ := u_known (C := RX8) (T := TX8) (N := 5) (n := 5) hts (fun w h => (List.mem_filter.mp (cfw_8 w h)).1) (hts _ (List.mem_filter.mp mw_209).1)
  obtain ⟨c9, i9, n9⟩ := u_known (C := RX9) (T := TX9) (N := 4) (n := 4) hts (fun w h => (List.mem_filter.mp (cfw_9 w h)).1) (hts _ (List.mem_filter.mp mw_224).1)
  obtain ⟨c10, i10, n10⟩ := u_known (C := RX10) (T := TX10) (N := 14) (n := 14) hts (fun w h => (List.mem_filter.mp (cfw_10 w h)).1) (hts _ (List.mem_filter.mp mw_271).1)
  obtain ⟨c11, i11, n11⟩ := u_known (C := RX11) (T := TX11) (N := 18) (n := 18) hts (fun w h => (List.mem_filter.mp (cfw_11 w h)).1) (hts _ (List.mem_filter.mp mw_28).1)
  obtain ⟨c12, i12, n12⟩ := u_known (C := RX12) (T := TX12) (N := 49) (n := 49) hts (fun w h => (List.mem_filter.mp (cfw_12 w h)).1) (hts _ (List.mem_filter.mp mw_1132).1)
  obtain ⟨cB, kcB, pcB, fcB, gcB, hcB⟩ := Cond.arrayClass_spec (hts _ (List.mem_filter.mp mw_117).1)
  obtain ⟨cI, kcI, pcI, fcI, gcI, hcI⟩ := Cond.arrayClass_spec (hts _ (List.mem_filter.mp mw_138).1)
  obtain ⟨cJ, kcJ, pcJ, fcJ, gcJ, hcJ⟩ := Cond.arrayClass_spec (hts _ (List.mem_filter.mp mw_118).1)
  obtain ⟨cZ, kcZ, pcZ, fcZ, gcZ, hcZ⟩ := Cond.arrayClass_spec (hts _ (List.mem_filter.mp mw_1284).1)
  obtain ⟨pS, cS, kS, fS, -, gS, hS, qS⟩ := Cond.arrayOver_spec (hts _ lt_a10)
  obtain ⟨pM, cM, kM, fM, -, gM, hM, qM⟩ := Cond.arrayOver_spec (hts _ lt_a1)
  obtain ⟨adK, adV, hvS, hvK⟩ := vk_Sof (N := 2) (tm := fun i => .string RX4 (if i = 0 then 19 else 68)) (len := lenS) (byt := bytS) (A := fun q : Nat => s.heap.size ≤ q) (s := s) (args := #[Value.ref b]) (by decide) (fun i hi => hs _ (st_ex i hi)) (fun i hi => hs _ (st_co i hi)) (fun i hi => hs _ (st_ar i hi)) (fun i hi => hs _ (st_le i hi))
    (fun i hi j hj => by
      rcases (show i = 0 ∨ i = 1 by omega) with rfl | rfl
      · exact hs _ (st_el0 j hj)
      · exact hs _ (st_el1 j hj))
    (fun i j hi hj hne => by
      rcases (show (i = 0 ∧ j = 1) ∨ (i = 1 ∧ j = 0) by omega) with ⟨rfl, rfl⟩ | ⟨rfl, rfl⟩
      · exact st_ne.elim (fun z => Or.inl (hs _ z)) (fun z => Or.inr (hs _ z))
      · exact st_ne.elim (fun z => Or.inr (hs _ z)) (fun z => Or.inl (hs _ z))) hA
  obtain ⟨mA, hmA, hmT⟩ := va_Tof (tm := .static RX11 "MOST" "[I") (ty := .int) (N := 7) (f := fun j => .int (mostL.getD j 0)) (A := fun q : Nat => s.heap.size ≤ q) (by decide) (hs _ st_ml.2) (va_eqt (hs _ st_ml.1)) (fun j hj => va_eqt (hs _ (st_m j hj))) hA
  obtain ⟨D, hDe⟩ : ∃ D : va_G, D = (fun k => if k = 0 then c0 else if k = 1 then c1 else if k = 2 then c2 else if k = 3 then c3 else if k = 4 then c4 else if k = 5 then c5 else if k = 6 then c6 else if k = 7 then c7 else if k = 8 then c8 else if k = 9 then c9 else if k = 10 then c10 else if k = 11 then c11 else c12, fun k => if k = 0 then i0 else if k = 1 then i1 else if k = 2 then i2 else if k = 3 then i3 else if k = 4 then i4 else if k = 5 then i5 else if k = 6 then i6 else if k = 7 then i7 else if k = 8 then i8 else if k = 9 then i9 else if k = 10 then i10 else if k = 11 then i11 else if k = 12 then i12 else fun j => if k = 102 then mA else if j = 0 then adK (k - 100) else adV (k - 100)) := ⟨_, rfl⟩
  obtain ⟨cy, hcy⟩ : ∃ cy : Nat → ClassId, cy = fun k => if k = 0 then cB else if k = 1 then cI else if k = 2 then cJ else if k = 3 then cZ else if k = 4 then cM else cS := ⟨_, rfl⟩
  have hC : Cst D (fun q : Nat => s.heap.size ≤ q) s := by
    refine cst_start hA hts (adK := adK) (adV := adV) (mA := mA) ?_ hvS (hvK 0 (by decide)) (hvK 1 (by decide)) hmA hmT hgv
    subst hDe
    refine ⟨fun i hi => ?_, rfl⟩
    rcases (show i = 0 ∨ i = 1 by omega) with rfl | rfl <;> exact ⟨rfl, rfl⟩
  have hKc : ∀ (k : Nat) (q : vw_C), vwCl[k]? = some q → u_Kn s q.1 q.2.1 q.2.2 (D.1 k) (D.2 k) := by
    intro k q hq
    subst hDe
    match k, hq with
    | 0, hq => cases hq; exact n0
    | 1, hq => cases hq; exact n1
    | 2, hq => cases hq; exact n2
    | 3, hq => cases hq; exact n3
    | 4, hq => cases hq; exact n4
    | 5, hq => cases hq; exact n5
    | 6, hq => cases hq; exact n6
    | 7, hq => cases hq; exact n7
    | 8, hq => cases hq; exact n8
    | 9, hq => cases hq; exact n9
    | 10, hq => cases hq; exact n10
    | 11, hq => cases hq; exact n11
    | 12, hq => cases hq; exact n12
    | k + 13, hq => simp [vwCl] at hq
  have hK : va_K D vwCl (tysL cy) s := by
    refine ⟨hKc, fun k q hq => ?_⟩
    subst hcy
    match k, hq with
    | 0, hq => cases hq; exact ⟨fun n z => ⟨(fun k h => by cases h), kcB, gcB, pcB, hcB⟩, fcB⟩
    | 1, hq => cases hq; exact ⟨fun n z => ⟨(fun k h => by cases h), kcI, gcI, pcI, hcI⟩, fcI⟩
    | 2, hq => cases hq; exact ⟨fun n z => ⟨(fun k h => by cases h), kcJ, gcJ, pcJ, hcJ⟩, fcJ⟩
    | 3, hq => cases hq; exact ⟨fun n z => ⟨(fun k h => by cases h), kcZ, gcZ, pcZ, hcZ⟩, fcZ⟩
    | 4, hq => cases hq; exact ⟨fun n z => ⟨(fun k h => by cases h), kM, gM, pM, hM⟩, kM, pM, gM, hM, fM, qM⟩
    | 5, hq => cases hq; exact ⟨fun n z => ⟨(fun k h => by cases h), kS, gS, pS, hS⟩, kS, pS, gS, hS, fS, qS⟩
    | k + 6, hq => simp [tysL] at hq
  obtain ⟨X, hXe⟩ : ∃ X : Cx, X = (p, l, e, room_1, s, m, #[Value.ref b], below, meth, c, lw_Z below #[Value.ref b] s, D, cy, fun q : Nat => s.heap.size ≤ q) := ⟨_, rfl⟩
  have ok : Ok X cL_law RL 7 room_1 (some .boolean) := by
    subst hXe
    exact ⟨hx, hb, hml, hown, fun w hw => hts w (List.mem_filter.mp hw).1, hK, fun q hq => hq, rfl, hlocks, hr, hC⟩
  have sc : SC X b L xs0 := by subst hXe; exact ⟨hX, hbl, Nat.not_le.mpr hbl⟩
  have hst' : (xl X).stackTraces = false := by subst hXe; exact hst
  have xit : ∀ (xo mo oo : Nat) (i : Int32) (h : Hp) (c1 n1 : Nat), c1 ≤ 601024 → n1 ≤ 7293034 → G X 7 1510 [(0, .ref b), (1, .ref xo), (2, .ref mo), (3, .ref oo), (4, .int i)] [] h c1 n1 := by
    intro xo mo oo i h c1 n1 h1 h2 H locs ls hAt hS1 hl
    subst hXe
    refine lv_iconst (v := 1) hx hb dL_law_1510 (by decide) ?_
    refine va_forget (fun q hq => hS1.2.2 q hq) ?_
    refine W.widen h1 h2 ?_
    exact lw_ret hx hb hr hlocks dL_law_1511
  have main : G X 7 0 [(0, .ref b)] [] (fun _ => dead) 0 0 := by
    refine g_new dv11 ok cf11 mw_27 mw_28 mw_1 dv11_ok ⟨by decide, by decide⟩ dL_law_0 (fun a0 _ => ?_)
    have e := hall a0
    refine g_dup ok dL_law_3 rfl ?_
    refine g_callIW [] ok (mwX11_init e) mw_29 mw_30 mw_1 mw_31 rfl yo_X11_init rfl rfl (Nat.le_of_ble_eq_true rfl) ⟨by decide, by decide⟩ ⟨by decide, by decide⟩ dL_law_4 (fun h1 e => ?_)
    refine g_astore_n [(1, .ref a0), (0, .ref b)] ok dL_law_7 rfl (by decide) rfl ?_
    refine g_new dv12 ok cf12 mw_1138 mw_1132 mw_19 dv12_ok ⟨by decide, by decide⟩ dL_law_8 (fun a8 d8 => ?_)
    have e := e a8 d8
    refine g_dup ok dL_law_11 rfl ?_
    refine g_callIW [] ok (mwX12_init e) mw_1139 mw_1140 mw_19 mw_1141 rfl yo_X12_init rfl rfl (Nat.le_of_ble_eq_true rfl) ⟨by decide, by decide⟩ ⟨by decide, by decide⟩ dL_law_12 (fun h2 e => ?_)
    refine g_astore_n [(2, .ref a8), (1, .ref a0), (0, .ref b)] ok dL_law_15 rfl (by decide) rfl ?_
    refine g_iconst (v := 1) ok dL_law_16 (by decide) ?_
    refine g_newa (N := 1) (t := 2) (x := (1, .inr (.inl (fun _ => 0)))) ok mw_118 rfl rfl (fun _ _ z => z) (fun _ => rfl) (by decide) (by decide) (by decide) ⟨by decide, by decide⟩ dL_law_17 (fun a17 d17 => ?_)
    have e := e a17 d17
    refine g_astore_n [(3, .ref a17), (2, .ref a8), (1, .ref a0), (0, .ref b)] ok dL_law_19 rfl (by decide) rfl ?_
    refine g_iconst (v := 0) ok dL_law_20 (by decide) ?_
    refine g_istore [(4, .int 0), (3, .ref a17), (2, .ref a8), (1, .ref a0), (0, .ref b)] ok dL_law_21 (by decide) rfl ?_
    refine g_sb [4, 3, 2, 1, 0] rfl ?_
    exact klLoop ok hst' sc f0 a0 a8 a17 (xit a0 a8 a17) 513 0 _ _ _ (by decide) (by decide) e
  have hl := lv_entry ([.ref b]) (n := 7) (Nat.le_of_ble_eq_true rfl)
  rw [lg_entry_eq]
  have hAt0 : At D cy (fun q : Nat => s.heap.size ≤ q) (fun _ => dead) s.heap := ⟨[], fun k q h => by simp [va_pl] at h, ⟨fun i j p q h => by simp [va_pl] at h, fun k q h => by simp [va_pl] at h⟩, fun _ _ => rfl⟩
  subst hXe
  exact main s.heap [] _ hAt0 va_S.rf hl
