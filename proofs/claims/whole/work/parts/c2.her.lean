/-! THE START: her, in a heap where nothing was told yet -/
theorem va_uu {h : Hp} {a : Nat} {x y : HE} : va_up (va_up h a x) a y = va_up h a y := funext fun c => by
  by_cases q : c = a
  · subst q; rw [va_up_self, va_up_self]
  · rw [va_up_ne _ _ q, va_up_ne _ _ q, va_up_ne _ _ q]
theorem va_same {h : Hp} {a : Nat} {x : HE} (e : h a = x) : va_up h a x = h := funext fun c => by
  by_cases q : c = a
  · subst q; rw [va_up_self]; exact e.symm
  · rw [va_up_ne _ _ q]
theorem fl_l {f0 b n : Nat} {v : Int32} {h : Hp} {f : Nat → Int32} (hn : n ≤ 1000) : ∀ (m i f1 : Nat), i + m = n → m < f1 → bJ7_fill_53178_5 f0 f1 b v (nI i) (nI n) (va_up h b (.inl (1, (n, .inl (fun j => if j < i then v else f j))))) = some (va_up h b (.inl (1, (n, .inl (fun j => if j < n then v else f j)))))
  | 0, i, f1, e, hf => by
    obtain ⟨f1, rfl⟩ : ∃ q, f1 = q + 1 := ⟨f1 - 1, by omega⟩
    have : i = n := by omega
    subst this
    unfold bJ7_fill_53178_5
    rw [if_pos (Int32.le_refl _)]
  | m + 1, i, f1, e, hf => by
    obtain ⟨f1, rfl⟩ : ∃ q, f1 = q + 1 := ⟨f1 - 1, by omega⟩
    have lt : i < n := by omega
    unfold bJ7_fill_53178_5
    rw [if_neg (nI_ge (a := i) (b := n) lt (by omega)), stI_e (va_up_self _ _ _) lt (by omega), Option.bind_some, va_uu, nI_1]
    have u : upd (fun j => if j < i then v else f j) i v = fun j => if j < i + 1 then v else f j := funext fun j => by
      unfold upd
      by_cases q : j = i
      · rw [if_pos q, if_pos (by omega)]
      · rw [if_neg q]
        show (if j < i then v else f j) = _
        by_cases q2 : j < i
        · rw [if_pos q2, if_pos (by omega)]
        · rw [if_neg q2, if_neg (by omega)]
    rw [u]
    exact fl_l hn m (i + 1) f1 (by omega) (by omega)
theorem fl_h {f0 b n : Nat} {v : Int32} {h : Hp} {f : Nat → Int32} (hb : h b = .inl (1, (n, .inl f))) (hn : n ≤ 1000) (hf : 2000 ≤ f0) : fJ7_fill_53178 f0 b v h = some (va_up h b (.inl (1, (n, .inl (fun j => if j < n then v else f j))))) := by
  have e0 : h = va_up h b (.inl (1, (n, .inl (fun j => if j < 0 then v else f j)))) := by
    have : (fun j => if j < 0 then v else f j) = f := funext fun j => if_neg (by omega)
    rw [this, va_same hb]
  have ln : aln 1 h b = some (nI n) := by simp [aln, al, hb]; rfl
  unfold fJ7_fill_53178
  rw [ln, Option.bind_some]
  have z := fl_l (f0 := f0) (b := b) (n := n) (v := v) (h := h) (f := f) hn n 0 f0 (by omega) (by omega)
  rw [← e0] at z
  exact z
theorem e_start0 {f0 a s b1 b2 b3 b4 ct cr : Nat} {h : Hp} {fs : List Value} (ha : h a = .inr (10, [.ref s, .int 0, .int 0, .int 0, .int 0, .int 0, .int 0, .int 0, .int 0, .ref b1, .ref b2, .ref b3, .ref b4, .int 0])) (hs : h s = .inr (6, fs)) (f1 : fs[1]? = some (.ref ct)) (f8 : fs[8]? = some (.ref cr)) (hct : h ct = zI 7) (hcr : h cr = zI 8) (h1 : h b1 = zI 8) (h2 : h b2 = zI 8) (h3 : h b3 = zI 8) (h4 : h b4 = zI 64) (hf : 2000 ≤ f0) : fX10_start f0 a h = some (va_up (va_up h a (.inr (10, [.ref s, .int 0, .int (-1), .int (-1), .int (-1), .int 0, .int 0, .int 0, .int 0, .ref b1, .ref b2, .ref b3, .ref b4, .int 0]))) b4 (.inl (1, (64, .inl (fun j => if j < 64 then 1000000 else 0))))) := by
  have nea : ∀ {b : Nat} {x : Nat × vp_A}, h b = .inl x → b ≠ a := fun e q => by rw [q, ha] at e; cases e
  have nes : s ≠ a := fun q => by rw [q, ha] at hs; have := congrArg (fun z => match z with | Sum.inr p => p.1 | _ => 0) hs; simp at this
  have ne4s : s ≠ b4 := fun q => by rw [← q, hs] at h4; cases h4
  have ne4a : a ≠ b4 := fun q => nea h4 q.symm
  have ne4c : ct ≠ b4 := fun q => by
    rw [q, h4] at hct
    have := congrArg (fun z => match z with | Sum.inl p => p.2.1 | _ => 0) hct
    simp [zI] at this
  have pH : ∀ (l : List Value) (k : Nat) (v : Value), k < l.length → pf 10 k (va_up h a (.inr (10, l))) a v = some (va_up h a (.inr (10, l.set k v))) := fun l k v hk => by
    rw [pf_e (va_up_self _ _ _) hk, va_uu]
  have pZ : ∀ (l : List Value) (k : Nat), k < l.length → pfZ 10 k (va_up h a (.inr (10, l))) a 0 = some (va_up h a (.inr (10, l.set k (.int 0)))) := fun l k hk => by
    rw [pfZ_e (va_up_self _ _ _) hk (.inl rfl), va_uu]
  have h0 : h = va_up h a (.inr (10, [.ref s, .int 0, .int 0, .int 0, .int 0, .int 0, .int 0, .int 0, .int 0, .ref b1, .ref b2, .ref b3, .ref b4, .int 0])) := (va_same ha).symm
  have isf : fX6_isForHer f0 s h = some (0, h) := by
    unfold fX6_isForHer
    rw [gfN_e hs f1, Option.bind_some, show (0 : Int32) = nI 0 from rfl, ldI_e hct (by decide) (by decide), Option.bind_some, if_pos (show (0 : Int32) ≤ nI 0 by decide)]
    exact zr_0
  obtain ⟨H, hH⟩ : ∃ H, H = va_up h a (.inr (10, [.ref s, .int 0, .int (-1), .int (-1), .int (-1), .int 0, .int 0, .int 0, .int 0, .ref b1, .ref b2, .ref b3, .ref b4, .int 0])) := ⟨_, rfl⟩
  have Ha : H a = .inr (10, [.ref s, .int 0, .int (-1), .int (-1), .int (-1), .int 0, .int 0, .int 0, .int 0, .ref b1, .ref b2, .ref b3, .ref b4, .int 0]) := by rw [hH]; exact va_up_self _ _ _
  have Hn : ∀ {b : Nat}, b ≠ a → H b = h b := fun q => by rw [hH]; exact va_up_ne _ _ q
  have H1 : H b1 = zI 8 := by rw [Hn (nea h1)]; exact h1
  have H2 : H b2 = zI 8 := by rw [Hn (nea h2)]; exact h2
  have H3 : H b3 = zI 8 := by rw [Hn (nea h3)]; exact h3
  have H4 : H b4 = zI 64 := by rw [Hn (nea h4)]; exact h4
  have Hc : H cr = zI 8 := by rw [Hn (nea hcr)]; exact hcr
  have Hs : H s = .inr (6, fs) := by rw [Hn nes]; exact hs
  have z8 : (fun j => if j < 8 then (0 : Int32) else (fun _ => 0) j) = (fun _ => 0) := funext fun j => by split <;> rfl
  have F1 : fJ7_fill_53178 f0 b1 0 H = some H := by rw [fl_h H1 (by decide) hf, z8]; exact congrArg some (va_same H1)
  have F2 : fJ7_fill_53178 f0 b2 0 H = some H := by rw [fl_h H2 (by decide) hf, z8]; exact congrArg some (va_same H2)
  have C3 : cpI 1 H cr 0 b3 0 8 = some H := by
    have e : va_cpy (fun _ => (0 : Int32)) (fun _ => 0) (0 : Int32).toNatClampNeg (0 : Int32).toNatClampNeg (8 : Int32).toNatClampNeg = (fun _ => 0) := funext fun j => by unfold va_cpy; (repeat' split) <;> rfl
    have ok : cpOk 0 0 8 8 8 = true := by decide
    simp only [cpI, alI, al, Hc, H3, if_pos, Option.bind_some, ok, if_true]
    rw [e]; exact congrArg some (va_same H3)
  have F4 : fJ7_fill_53178 f0 b4 1000000 H = some (va_up H b4 (.inl (1, (64, .inl (fun j => if j < 64 then 1000000 else 0))))) := fl_h H4 (by decide) hf
  have fin : bX10_start_117 f0 f0 a 0 (va_up H b4 (.inl (1, (64, .inl (fun j => if j < 64 then 1000000 else 0))))) = some (va_up H b4 (.inl (1, (64, .inl (fun j => if j < 64 then 1000000 else 0))))) := by
    obtain ⟨q, hq⟩ : ∃ q, f0 = q + 1 := ⟨f0 - 1, by omega⟩
    have e1 : gfN 10 0 (va_up H b4 (.inl (1, (64, .inl (fun j => if j < 64 then 1000000 else 0))))) a = some s := gfN_e (by rw [va_up_ne _ _ ne4a]; exact Ha) rfl
    have e2 : gfN 6 1 (va_up H b4 (.inl (1, (64, .inl (fun j => if j < 64 then 1000000 else 0))))) s = some ct := gfN_e (by rw [va_up_ne _ _ ne4s]; exact Hs) f1
    have e3 : ldI 1 (va_up H b4 (.inl (1, (64, .inl (fun j => if j < 64 then 1000000 else 0))))) ct 3 = some 0 := ldI_e (j := 3) (n := 7) (f := fun _ => 0) (by rw [va_up_ne _ _ ne4c, Hn (nea hct)]; exact hct) (by decide) (by decide)
    have un : ∀ q, bX10_start_117 f0 (q + 1) a 0 (va_up H b4 (.inl (1, (64, .inl (fun j => if j < 64 then 1000000 else 0))))) = some (va_up H b4 (.inl (1, (64, .inl (fun j => if j < 64 then 1000000 else 0))))) := fun q => by
      unfold bX10_start_117
      rw [e1, Option.bind_some, e2, Option.bind_some, e3, Option.bind_some, if_pos (by decide)]
    have := un q
    rw [← hq] at this
    exact this
  have s64 : bX10_start_64 f0 a a 0 (va_up h a (.inr (10, [.ref s, .int 0, .int (-1), .int (-1), .int (-1), .int 0, .int 0, .int 0, .int 0, .ref b1, .ref b2, .ref b3, .ref b4, .int 0]))) = some (va_up H b4 (.inl (1, (64, .inl (fun j => if j < 64 then 1000000 else 0))))) := by
    unfold bX10_start_64
    rw [pH _ 7 _ (Nat.le_of_ble_eq_true rfl), Option.bind_some, pH _ 8 _ (Nat.le_of_ble_eq_true rfl), Option.bind_some]
    show ((gfN 10 9 (va_up h a (.inr (10, [.ref s, .int 0, .int (-1), .int (-1), .int (-1), .int 0, .int 0, .int 0, .int 0, .ref b1, .ref b2, .ref b3, .ref b4, .int 0]))) a).bind fun x73 => (fJ7_fill_53178 f0 x73 0 (va_up h a (.inr (10, [.ref s, .int 0, .int (-1), .int (-1), .int (-1), .int 0, .int 0, .int 0, .int 0, .ref b1, .ref b2, .ref b3, .ref b4, .int 0])))).bind fun h77 => _) = _
    rw [← hH, gfN_e (k := 9) Ha rfl, Option.bind_some, F1, Option.bind_some, gfN_e (k := 10) Ha rfl, Option.bind_some, F2, Option.bind_some, gfN_e (k := 0) Ha rfl, Option.bind_some, gfN_e (k := 8) Hs f8, Option.bind_some, gfN_e (k := 11) Ha rfl, Option.bind_some, C3, Option.bind_some, gfN_e (k := 12) Ha rfl, Option.bind_some, F4, Option.bind_some]
    exact fin
  unfold fX10_start
  rw [gfN_e (k := 0) ha rfl, Option.bind_some, ckO_e hs, Option.bind_some, isf, ob2_some, pf_e ha (Nat.le_of_ble_eq_true rfl), Option.bind_some, if_pos rfl]
  unfold bX10_start_23
  rw [pH _ 2 _ (Nat.le_of_ble_eq_true rfl), Option.bind_some, if_pos rfl]
  unfold bX10_start_36
  rw [pH _ 3 _ (Nat.le_of_ble_eq_true rfl), Option.bind_some, pH _ 4 _ (Nat.le_of_ble_eq_true rfl), Option.bind_some, pH _ 5 _ (Nat.le_of_ble_eq_true rfl), Option.bind_some, pZ _ 6 (Nat.le_of_ble_eq_true rfl), Option.bind_some, if_pos rfl, ← hH]
  exact s64
