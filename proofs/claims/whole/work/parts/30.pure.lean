/-! THE PURE PART: functions on Hp under what is known of a few cells -/
theorem gf_e {ci k : Nat} {h : Hp} {a : Nat} {fs : List Value} (ha : h a = .inr (ci, fs)) : gf ci k h a = fs[k]? := by simp [gf, ha]
theorem gfI_e {ci k : Nat} {h : Hp} {a : Nat} {fs : List Value} {v : Int32} (ha : h a = .inr (ci, fs)) (hv : fs[k]? = some (.int v)) : gfI ci k h a = some v := by simp [gfI, gf_e ha, hv]
theorem gfJ_e {ci k : Nat} {h : Hp} {a : Nat} {fs : List Value} {v : Int64} (ha : h a = .inr (ci, fs)) (hv : fs[k]? = some (.long v)) : gfJ ci k h a = some v := by simp [gfJ, gf_e ha, hv]
theorem gfN_e {ci k : Nat} {h : Hp} {a : Nat} {fs : List Value} {v : Nat} (ha : h a = .inr (ci, fs)) (hv : fs[k]? = some (.ref v)) : gfN ci k h a = some v := by simp [gfN, gf_e ha, hv]
theorem ckO_e {ci : Nat} {h : Hp} {a : Nat} {fs : List Value} (ha : h a = .inr (ci, fs)) : ckO ci h a = some fs := by simp [ckO, ha]
theorem pf_e {ci k : Nat} {h : Hp} {a : Nat} {fs : List Value} {v : Value} (ha : h a = .inr (ci, fs)) (hk : k < fs.length) : pf ci k h a v = some (va_up h a (.inr (ci, fs.set k v))) := by simp [pf, ha, hk]
theorem pfZ_e {ci k : Nat} {h : Hp} {a : Nat} {fs : List Value} {v : Int32} (ha : h a = .inr (ci, fs)) (hk : k < fs.length) (hv : v = 0 ∨ v = 1) : pfZ ci k h a v = some (va_up h a (.inr (ci, fs.set k (.int v)))) := by simp [pfZ, hv, pf_e ha hk]
theorem inB_n {j n : Nat} (h : j < n) (hn : n < 2 ^ 31) : inB (nI j) n = true := by
  simp [inB, nI_pos (Nat.lt_trans h hn), nI_clamp (Nat.lt_trans h hn), h]
theorem ldI_e {t n j : Nat} {h : Hp} {a : Nat} {f : Nat → Int32} (ha : h a = .inl (t, (n, .inl f))) (hj : j < n) (hn : n < 2 ^ 31) : ldI t h a (nI j) = some (f j) := by
  simp [ldI, alI, al, ha, inB_n hj hn, nI_clamp (Nat.lt_trans hj hn)]
theorem ldJ_e {t n j : Nat} {h : Hp} {a : Nat} {f : Nat → Int64} (ha : h a = .inl (t, (n, .inr (.inl f)))) (hj : j < n) (hn : n < 2 ^ 31) : ldJ t h a (nI j) = some (f j) := by
  simp [ldJ, alJ, al, ha, inB_n hj hn, nI_clamp (Nat.lt_trans hj hn)]
theorem stI_e {t n j : Nat} {h : Hp} {a : Nat} {f : Nat → Int32} {v : Int32} (ha : h a = .inl (t, (n, .inl f))) (hj : j < n) (hn : n < 2 ^ 31) : stI t h a (nI j) v = some (va_up h a (.inl (t, (n, .inl (upd f j v))))) := by
  simp [stI, alI, al, ha, inB_n hj hn, nI_clamp (Nat.lt_trans hj hn)]
theorem stB_e {t n j : Nat} {h : Hp} {a : Nat} {f : Nat → Int32} {v : Int32} (ha : h a = .inl (t, (n, .inl f))) (hj : j < n) (hn : n < 2 ^ 31) : stB t h a (nI j) v = some (va_up h a (.inl (t, (n, .inl (upd f j (vp_nar .byte v)))))) := by
  simp [stB, alI, al, ha, inB_n hj hn, nI_clamp (Nat.lt_trans hj hn)]
theorem stZ_e {t n j : Nat} {h : Hp} {a : Nat} {f : Nat → Int32} {v : Int32} (ha : h a = .inl (t, (n, .inl f))) (hj : j < n) (hn : n < 2 ^ 31) : stZ t h a (nI j) v = some (va_up h a (.inl (t, (n, .inl (upd f j (vp_nar .boolean v)))))) := by
  simp [stZ, alI, al, ha, inB_n hj hn, nI_clamp (Nat.lt_trans hj hn)]
theorem stJ_e {t n j : Nat} {h : Hp} {a : Nat} {f : Nat → Int64} {v : Int64} (ha : h a = .inl (t, (n, .inr (.inl f)))) (hj : j < n) (hn : n < 2 ^ 31) : stJ t h a (nI j) v = some (va_up h a (.inl (t, (n, .inr (.inl (vp_updL f j v)))))) := by
  simp [stJ, alJ, al, ha, inB_n hj hn, nI_clamp (Nat.lt_trans hj hn)]
theorem zr_0 {h : Hp} : zr 0 h = some (0, h) := by simp [zr]
theorem zr_1 {h : Hp} : zr 1 h = some (1, h) := by simp [zr]
/-- h' is h but for the cells named in l -/
def Chg (h h' : Hp) (l : List (Nat × HE)) : Prop := (∀ p ∈ l, h' p.1 = p.2) ∧ ∀ b : Nat, b ∉ l.map Prod.fst → h' b = h b
theorem Chg.one {h : Hp} {a : Nat} {x : HE} : Chg h (va_up h a x) [(a, x)] := by
  refine ⟨fun p hp => ?_, fun b hb => ?_⟩
  · rw [List.mem_singleton.mp hp]; exact va_up_self h a x
  · exact va_up_ne h x (fun q => hb (by simp [q]))
theorem Chg.two {h : Hp} {a b : Nat} {x y : HE} (hne : a ≠ b) : Chg h (va_up (va_up h a x) b y) [(a, x), (b, y)] := by
  refine ⟨fun p hp => ?_, fun c hc => ?_⟩
  · simp only [List.mem_cons, List.not_mem_nil, or_false] at hp
    rcases hp with rfl | rfl
    · rw [va_up_ne _ _ hne, va_up_self]
    · exact va_up_self _ _ _
  · simp only [List.map_cons, List.map_nil, List.mem_cons, List.not_mem_nil, or_false, not_or] at hc
    rw [va_up_ne _ _ hc.2, va_up_ne _ _ hc.1]
theorem Chg.two_trans {h h1 h2 : Hp} {a b : Nat} {x y x' y' : HE} (c1 : Chg h h1 [(a, x), (b, y)]) (c2 : Chg h1 h2 [(a, x'), (b, y')]) : Chg h h2 [(a, x'), (b, y')] :=
  ⟨c2.1, fun c hc => (c2.2 c hc).trans (c1.2 c hc)⟩
theorem Chg.at {h h' : Hp} {l : List (Nat × HE)} (c : Chg h h' l) {a : Nat} {x : HE} (hm : (a, x) ∈ l) : h' a = x := c.1 _ hm
/-! the tape: feed -/
/-- the four bytes of v, from the highest -/
def by4 (v : Int32) (k : Nat) : Int32 := vp_nar .byte (Int32.toInt8 (v >>> (nI (24 - 8 * k) &&& 31))).toInt32
def put4 (f : Nat → Int32) (T : Nat) (v : Int32) : Nat → Int32 := upd (upd (upd (upd f T (by4 v 0)) (T + 1) (by4 v 1)) (T + 2) (by4 v 2)) (T + 3) (by4 v 3)
theorem four_step {f0 f1 m t T : Nat} {v k : Int32} {h : Hp} {fs : List Value} {f : Nat → Int32} (hm : h m = .inr (12, fs)) (h1 : fs[1]? = some (.ref t)) (h2 : fs[2]? = some (.int (nI T))) (hT : T < 940) (ht : h t = .inl (0, (940, .inl f))) (hne : t ≠ m) (hk : ¬ k < 0) :
    bX12_four_3 f0 (f1 + 1) m v k h = bX12_four_3 f0 f1 m v (k + (-8)) (va_up (va_up h t (.inl (0, (940, .inl (upd f T (vp_nar .byte (Int32.toInt8 (v >>> (k &&& 31))).toInt32)))))) m (.inr (12, fs.set 2 (.int (nI (T + 1)))))) := by
  have hl : 2 < fs.length := (List.getElem?_eq_some_iff.mp h2).1
  have hm' : va_up h t (.inl (0, (940, .inl (upd f T (vp_nar .byte (Int32.toInt8 (v >>> (k &&& 31))).toInt32))))) m = .inr (12, fs) := by rw [va_up_ne _ _ hne.symm]; exact hm
  rw [bX12_four_3]
  simp only [if_neg hk, gfN_e hm h1, gfI_e hm h2, Option.bind_some, stB_e ht hT (by decide), gfI_e hm' h2, pf_e hm' hl, nI_1]
