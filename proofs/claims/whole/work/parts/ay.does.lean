/-! A LOG IS LIVED: one act, here and there -/
theorem wait_no {X : XS} {d : D5} {n : Int} (h : (waitA X d n).1 ≠ 0) : (waitA X d n).2 = d := by
  unfold waitA at *
  (repeat' split) <;> first | rfl | (rename_i a b; exact absurd (by rw [if_pos a, if_neg b]) h)
theorem take_no {X : XS} {d : D5} (h : (takeA X d).1 ≠ 0) : (takeA X d).2 = d := by
  unfold takeA at *
  (repeat' split) <;> first | rfl | (rename_i a b; exact absurd (by rw [if_pos a, if_neg b]) h)
theorem teach_no {X : XS} {d : D5} {m r : Int} (h : (teachA X d m r).1 ≠ 0) : (teachA X d m r).2 = d := by
  unfold teachA at *
  (repeat' split) <;> first | rfl | (rename_i a b c; exact absurd (by rw [if_pos a, if_neg b, if_neg c]) h)
theorem wait_cd {X : XS} {d : D5} (Wd : WD d) (cd : CD X d) {n : Int} (n0 : 0 ≤ n) (n1 : n ≤ 60) : WD (waitA X d n).2 ∧ CD X (waitA X d n).2 := by
  unfold waitA
  (repeat' split)
  · exact ⟨Wd, cd⟩
  · exact ⟨WD_F Wd (by have := cd.1; omega) (by omega), ⟨by have := cd.1; exact ⟨by show 0 ≤ d.1 1 + n; omega, by show d.1 1 + n ≤ 999; omega⟩, cd.2.1, cd.2.2.1, cd.2.2.2.1, fun i i0 i8 => ⟨(cd.2.2.2.2.1 i i0 i8).1, by have := (cd.2.2.2.2.1 i i0 i8).2; show d.2.1 i ≤ d.1 1 + n; omega⟩, cd.2.2.2.2.2⟩⟩
  · exact ⟨Wd, cd⟩
def DoP (Y : YS) (X : XS) (k : Nat) (d : D5) (S : Int → Int) (C : Option (Int32 × Hp)) (R : XS → Int32 → Int32 → Option (Int32 × Hp)) : Prop := ∃ a d' S', C = some (iI a, hp Y (shS X k d')) ∧ (0 ≤ a ∧ a ≤ 49) ∧ WD d' ∧ CD X d' ∧ WS S' ∧ (∀ j, (j < 312 ∨ 465 ≤ j) → S' j = S j) ∧ RelS X d' S' ∧ (a ≠ 0 → d' = d ∧ S' = S) ∧ ∀ Z p q, WF Z → XR Z 67 0 = XR X 67 0 → ∃ Z', R Z p q = some (iI a, hp Y (sR Z' 61 0 S')) ∧ Scr Z Z'
abbrev plC (f0 : Nat) (b : Int) (C : Option (Int32 × Hp)) : Option (Int32 × Hp) := ob2 C fun x h => ob2 (fX2_plus f0 (iI b) x h) fun x h => some (x, h)
theorem e_plus {f0 : Nat} {h : Hp} {a b : Int} (a0 : 0 ≤ a) (a1 : a ≤ 9) : fX2_plus f0 (iI b) (iI a) h = some (iI (if a = 0 then 0 else b + a), h) := by
  unfold fX2_plus
  rw [li_0]
  by_cases e : a = 0
  · rw [if_pos (by rw [e]), if_pos e]
  · rw [if_neg (iNE e (by omega) (by omega) (by omega) (by omega)), if_neg e, iI_add]
theorem d56_no {f0 : Nat} {h : Hp} {v0 : Nat} {p q : Int32} {c r : Int} (r1 : 1 ≤ r) (r9 : r ≤ 9) : bX12_does_56 f0 v0 (iI c) p q (iI r) h = some (iI (10 * c + r), h) := by
  unfold bX12_does_56
  rw [li_0, if_neg (iNLE (by omega) (by omega) (by omega) (by omega) (by omega)), li_10, iI_mul, iI_add]
theorem do_fin {f0 : Nat} {Y : YS} {X : XS} {k : Nat} {d : D5} {S S' : Int → Int} {C : Option (Int32 × Hp)} {R : XS → Int32 → Int32 → Option (Int32 × Hp)} {r c : Int} {d' : D5} (c0 : 0 ≤ c ∧ c ≤ 4) (hC : C = some (iI (if r = 0 then 0 else 10 * c + r), hp Y (shS X k d'))) (rb : 0 ≤ r ∧ r ≤ 9) (wd : WD d' ∧ CD X d') (Ws : WS S) (no : r ≠ 0 → d' = d) (rl : RelS X d S) (yes : r = 0 → WS S' ∧ (∀ j, (j < 312 ∨ 465 ≤ j) → S' j = S j) ∧ RelS X d' S') (hR : ∀ Z p q, WF Z → XR Z 67 0 = XR X 67 0 → ∃ Z1 p' q', Scr Z Z1 ∧ R Z p q = bX12_does_56 f0 (Ad Y 12 0) (iI c) p' q' (iI r) (hp Y (sR Z1 61 0 S)) ∧ (r = 0 → bX12_does_56 f0 (Ad Y 12 0) (iI c) p' q' (iI 0) (hp Y (sR Z1 61 0 S)) = some (0, hp Y (sR Z1 61 0 S')))) : DoP Y X k d S C R := by
  by_cases e : r = 0
  · obtain ⟨y2, y3, y4⟩ := yes e
    rw [if_pos e] at hC
    refine ⟨0, d', S', hC, by decide, wd.1, wd.2, y2, y3, y4, fun w => absurd rfl w, fun Z p q WZ h67 => ?_⟩
    obtain ⟨Z1, p', q', sz, h1, h2⟩ := hR Z p q WZ h67
    exact ⟨Z1, by rw [h1, e, h2 e]; rfl, sz⟩
  · rw [if_neg e] at hC
    refine ⟨10 * c + r, d', S, hC, by omega, wd.1, wd.2, Ws, fun _ _ => rfl, by rw [no e]; exact rl, fun _ => ⟨no e, rfl⟩, fun Z p q WZ h67 => ?_⟩
    obtain ⟨Z1, p', q', sz, h1, _⟩ := hR Z p q WZ h67
    exact ⟨Z1, by rw [h1, d56_no (by omega) rb.2], sz⟩
theorem do_wait {f0 : Nat} {Y : YS} {X : XS} {k : Nat} {d : D5} {S : Int → Int} (g : GY Y) (hk : k < 10) (W : WF X) (Wd : WD d) (se : SeaI X 0 S) (cd : CD X d) (rl : RelS X d S) (Ws : WS S) {n : Int} (n0 : 1 ≤ n) (n1 : n ≤ 60) : DoP Y X k d S (plC f0 20 (fX10_waitFor f0 (Ad Y 10 k) (iI n) (hp Y (shS X k d)))) (fun Z _ q => fX12_does f0 (Ad Y 12 0) (iI 2) (iI n) q (hp Y (sR Z 61 0 S))) := by
  have sf := inv_S se cd rl
  have a2 := d_waitFor (f0 := f0) (Y := Y) (k := k) (n := n) g hk W Wd cd (by omega) (by omega)
  have rr := rel_wait se.1 se.2.1 rl (n := n)
  have wcd := wait_cd Wd cd (n := n) (by omega) (by omega)
  have no := wait_no (X := X) (d := d) (n := n)
  have rb : 0 ≤ (waitA X d n).1 ∧ (waitA X d n).1 ≤ 9 := by unfold waitA; (repeat' split) <;> simp
  refine do_fin (f0 := f0) (r := (waitA X d n).1) (c := 2) (S' := upi S 312 (S 312 + n)) (by decide) ?_ rb wcd Ws no rl (fun e => ⟨WS_u Ws (by omega) (by omega), fun j hj => upi_ne _ _ (by omega), rr.2 e⟩) (fun Z p q WZ h67 => ⟨Z, iI n, q, Scr_refl WZ, ?_, fun e => ?_⟩)
  · unfold plC
    rw [a2, ob2_some, e_plus rb.1 rb.2, ob2_some]; rfl
  · have ww := r_whyWait (f0 := f0) (Y := Y) (X := Z) g WZ Ws sf.1 (n := n) (by omega) (by omega)
    rw [← rr.1] at ww
    show fX12_does f0 (Ad Y 12 0) (iI 2) (iI n) q (hp Y (sR Z 61 0 S)) = _
    unfold fX12_does
    simp (disch := first | assumption | omega) only [li_0, li_1, li_2, li_3, iI_eq, Int.reduceEq, if_true, if_false, k_12, ww, ob2_some]
  · have wv : wr (S 312 + n) = S 312 + n := wr_id (by omega) (by omega)
    unfold bX12_does_56
    simp (disch := first | assumption | omega) only [li_0, li_1, li_2, li_3, li_312, iI_eq, iI_le, Int.reduceEq, Int.reduceLE, if_true, if_false, g_12_6, l61, s61, Option.bind_some, iI_add, wv]
theorem do_take {f0 : Nat} {Y : YS} {X : XS} {k : Nat} {d : D5} {S : Int → Int} (g : GY Y) (hk : k < 10) (W : WF X) (Wd : WD d) (se : SeaI X 0 S) (cd : CD X d) (rl : RelS X d S) (Ws : WS S) : DoP Y X k d S (plC f0 30 (fX10_takeOwed f0 (Ad Y 10 k) (hp Y (shS X k d)))) (fun Z p q => fX12_does f0 (Ad Y 12 0) (iI 3) p q (hp Y (sR Z 61 0 S))) := by
  have sf := inv_S se cd rl
  have a2 := d_takeOwed (f0 := f0) (Y := Y) (k := k) g hk W Wd se.1 cd
  have rr := rel_take se.1 se.2.1 cd rl
  have wcd := take_cd Wd se.1 cd
  have no := take_no (X := X) (d := d)
  have rb : 0 ≤ (takeA X d).1 ∧ (takeA X d).1 ≤ 9 := by unfold takeA; (repeat' split) <;> simp
  have cc : (takeA X d).1 = 0 → isSe S := fun e => by
    apply Classical.byContradiction; intro w
    have t := rr.1; unfold whyTakeS at t; rw [if_neg (fun v => w v.1)] at t; omega
  have c3 := se.1.1; have c4 := se.1.2.1; have e3 := se.2.1.1
  refine do_fin (f0 := f0) (r := (takeA X d).1) (c := 3) (S' := takeS S) (by decide) ?_ rb wcd Ws no rl (fun e => ⟨WS_u (WS_u Ws (wr_rg _).1 (wr_rg _).2) (by decide) (by decide), fun j hj => ?_, rr.2 e⟩) (fun Z p q WZ h67 => ⟨Z, p, q, Scr_refl WZ, ?_, fun e => ?_⟩)
  · unfold plC
    rw [a2, ob2_some, e_plus rb.1 rb.2, ob2_some]; rfl
  · have s3 := sf.2.1 (cc e)
    unfold takeS; rw [upi_ne _ _ (by omega), upi_ne _ _ (by omega)]
  · have ww := r_whyTake (f0 := f0) (Y := Y) (X := Z) g WZ Ws (fun q => by have := sf.2.1 q.1; omega) sf.2.2.2.2.2.1
    rw [← rr.1] at ww
    show fX12_does f0 (Ad Y 12 0) (iI 3) p q (hp Y (sR Z 61 0 S)) = _
    unfold fX12_does
    simp (disch := first | assumption | omega) only [li_0, li_1, li_2, li_3, iI_eq, Int.reduceEq, if_true, if_false, k_12, ww, ob2_some]
  · have s3 := sf.2.1 (cc e)
    have dd := r_takesAll (f0 := f0) (Y := Y) (X := Z) g WZ Ws (by omega)
    unfold bX12_does_56
    simp (disch := first | assumption | omega) only [li_0, li_1, li_2, li_3, iI_eq, iI_le, Int.reduceEq, Int.reduceLE, if_true, if_false, k_12, dd, Option.bind_some]
theorem do_teach {f0 : Nat} {Y : YS} {X : XS} {k : Nat} {d : D5} {S : Int → Int} (g : GY Y) (hk : k < 10) (W : WF X) (Wd : WD d) (se : SeaI X 0 S) (cd : CD X d) (rl : RelS X d S) (Ws : WS S) {m t : Int} (m0 : 0 ≤ m) (m1 : m < 8) (t0 : 0 ≤ t) (t1 : t < 6) : DoP Y X k d S (plC f0 40 (fX10_teach f0 (Ad Y 10 k) (iI m) (iI t) (hp Y (shS X k d)))) (fun Z _ _ => fX12_does f0 (Ad Y 12 0) (iI 4) (iI m) (iI t) (hp Y (sR Z 61 0 S))) := by
  have sf := inv_S se cd rl
  have a2 := d_teach (f0 := f0) (Y := Y) (k := k) g hk W Wd cd m0 m1 t0 t1
  have rr := rel_teach se.1 se.2.1 rl (m := m) (r := t) m0 m1
  have wcd := teach_cd Wd cd m0 m1 t0 t1
  have no := teach_no (X := X) (d := d) (m := m) (r := t)
  have rb : 0 ≤ (teachA X d m t).1 ∧ (teachA X d m t).1 ≤ 9 := by unfold teachA; (repeat' split) <;> simp
  refine do_fin (f0 := f0) (r := (teachA X d m t).1) (c := 4) (S' := teachS S m t) (by decide) ?_ rb wcd Ws no rl (fun e => ⟨WS_u (WS_u Ws (ior_rg _ _).1 (ior_rg _ _).2) (by omega) (by omega), fun j hj => ?_, rr.2 e⟩) (fun Z p q WZ h67 => ⟨Z, iI m, iI t, Scr_refl WZ, ?_, fun e => ?_⟩)
  · unfold plC
    rw [a2, ob2_some, e_plus rb.1 rb.2, ob2_some]; rfl
  · unfold teachS; rw [upi_ne _ _ (by omega), upi_ne _ _ (by omega)]
  · have ww := r_whyLearn (f0 := f0) (Y := Y) (X := Z) g WZ Ws sf.1 (fun i i0 i8 => (sf.2.2.2.2.2.2 i i0 i8).1) m0 m1 t0 t1
    rw [← rr.1] at ww
    show fX12_does f0 (Ad Y 12 0) (iI 4) (iI m) (iI t) (hp Y (sR Z 61 0 S)) = _
    unfold fX12_does
    simp (disch := first | assumption | omega) only [li_0, li_1, li_2, li_3, iI_eq, Int.reduceEq, if_true, if_false, k_12, ww, ob2_some]
  · have dd := r_learns (f0 := f0) (Y := Y) (X := Z) g WZ Ws sf.1 m0 m1 t0 t1
    unfold bX12_does_56
    simp (disch := first | assumption | omega) only [li_0, li_1, li_2, li_3, iI_eq, iI_le, Int.reduceEq, Int.reduceLE, if_true, if_false, k_12, dd, Option.bind_some]
theorem do_paint {f0 : Nat} {Y : YS} {X : XS} {k : Nat} {d : D5} {S : Int → Int} (g : GY Y) (hk : k < 10) (W : WF X) (Wd : WD d) (se : SeaI X 0 S) (cd : CD X d) (rl : RelS X d S) (Ws : WS S) {s : Int} (s0 : 0 ≤ s) (s1 : s < S 1) (hf : 2000 ≤ f0) : DoP Y X k d S (fX10_paintAs f0 (Ad Y 10 k) (iI s) (hp Y (shS X k d))) (fun Z _ q => fX12_does f0 (Ad Y 12 0) (iI 0) (iI s) q (hp Y (sR Z 61 0 S))) := by
  have sf := inv_S se cd rl
  have e1 := se.2.1.1.2.1
  have c3 := se.1.2.1
  have a2 := d_paintAs (f0 := f0) (Y := Y) (k := k) g hk W Wd se.1 cd (s := s) s0 (by omega) (by omega)
  have rr := rel_paint se cd rl (s := s) s0 s1
  have wcd := paint_cd Wd se.1 cd (s := s) s0 (by omega)
  have no := paint_no (X := X) (d := d) (s := s)
  have rb : 0 ≤ (paintA X d s).1 ∧ (paintA X d s).1 ≤ 9 := paintA_rg
  refine do_fin (f0 := f0) (r := (paintA X d s).1) (c := 0) (S' := paintS S s) (by decide) ?_ rb wcd Ws no rl (fun e => ⟨WS_u (WS_u (WS_u (WS_u Ws (Ws _).1 (Ws _).2) (by omega) (by omega)) (ior_rg _ _).1 (ior_rg _ _).2) (by omega) (by omega), fun j hj => ?_, rr.2 e⟩) (fun Z p q WZ h67 => ?_)
  · rw [a2]
    have : (if (paintA X d s).1 = 0 then (0 : Int) else 10 * 0 + (paintA X d s).1) = (paintA X d s).1 := by split <;> omega
    rw [this]
  · unfold paintS; rw [upi_ne _ _ (by omega), upi_ne _ _ (by omega), upi_ne _ _ (by omega), upi_ne _ _ (by omega)]
  · obtain ⟨Z1, sz, -, ww⟩ := r_whyPaint (f0 := f0) (Y := Y) (X := Z) g WZ Ws sf.1 (s := s) (inv_CH se cd rl (by omega) (by omega)) (by omega)
    rw [← rr.1] at ww
    have WZ1 := Scr_W WZ sz
    refine ⟨Z1, iI s, q, sz, ?_, fun e => ?_⟩
    · show fX12_does f0 (Ad Y 12 0) (iI 0) (iI s) q (hp Y (sR Z 61 0 S)) = _
      unfold fX12_does
      simp (disch := first | assumption | omega) only [li_0, if_true, k_12, ww, ob2_some]
    · have dd := r_paints (f0 := f0) (Y := Y) (X := Z1) g Ws WZ1 sf.1 (s := s) (by omega) (by omega)
      unfold bX12_does_56
      simp (disch := first | assumption | omega) only [li_0, iI_le, Int.reduceLE, if_true, k_12, dd, Option.bind_some]
theorem do_sail {f0 : Nat} {Y : YS} {X : XS} {k : Nat} {d : D5} {S : Int → Int} (g : GY Y) (hk : k < 10) (W : WF X) (Wd : WD d) (se : SeaI X 0 S) (hP : PostR X S) (cd : CD X d) (rl : RelS X d S) (Ws : WS S) {p : Int} (p0 : 0 ≤ p) (p1 : p < S 0) (hf : 2000 ≤ f0) : DoP Y X k d S (plC f0 10 (fX10_sailTo f0 (Ad Y 10 k) (iI p) (hp Y (shS X k d)))) (fun Z _ q => fX12_does f0 (Ad Y 12 0) (iI 1) (iI p) q (hp Y (sR Z 61 0 S))) := by
  have sf := inv_S se cd rl
  have e0 := se.2.1.1.1; have e1 := se.2.1.1.2.1
  have c0 := se.1.1; have c3 := se.1.2.1
  have a2 := d_sailTo (f0 := f0) (Y := Y) (k := k) g hk W Wd se.1 cd (p := p) p0 (by omega) (by omega)
  have rr := rel_sail se.1 se.2.1 hP Wd cd rl (p := p) p0 p1
  have wcd := sail_cd Wd se.1 cd (p := p) p0 (by omega)
  have no := sail_no (X := X) (d := d) (s := p)
  have rb : 0 ≤ (sailA X d p).1 ∧ (sailA X d p).1 ≤ 9 := sailA_rg
  have cw : (sailA X d p).1 = 0 → canS S := fun e => by
    apply Classical.byContradiction; intro w
    have t := rr.1; unfold whySailS at t; rw [if_neg w] at t; omega
  have hw : (sailA X d p).1 = 0 → 0 ≤ S (8 + (8 * S 313 + p)) ∧ S 312 + S (8 + (8 * S 313 + p)) ≤ 999 := fun e => by
    have s3 := sf.2.1 (cw e).1
    have w20 := sf.2.2.2.2.1 (8 * S 313 + p) (by omega) (by omega)
    have why0 := rr.1
    unfold whySailS lateS at why0; rw [if_pos (cw e)] at why0
    refine ⟨by omega, ?_⟩
    apply Classical.byContradiction; intro w
    have w2 : ¬ S (8 + (8 * S 313 + p)) = 0 := by omega
    rw [if_neg w2, if_pos (by omega)] at why0; omega
  refine do_fin (f0 := f0) (r := (sailA X d p).1) (c := 1) (S' := seenS (XR X 67 0) (sail5 S p) p) (by decide) ?_ rb wcd Ws no rl (fun e => ⟨?_, ?_, rr.2 e⟩) (fun Z p' q WZ h67 => ⟨Z, iI p, q, Scr_refl WZ, ?_, fun e => ?_⟩)
  · unfold plC
    rw [a2, ob2_some, e_plus rb.1 rb.2, ob2_some]; rfl
  · have s3 := sf.2.1 (cw e).1
    have h5 := hw e
    exact sail_ws Ws (by have := sf.1.1; omega) (by omega) (by omega) (sf.2.2.2.2.2.2 p (by omega) (by omega)).2
  · have s3 := sf.2.1 (cw e).1
    exact sail_out (by omega) (by omega) (by omega) sf.2.2.2.1.2
  · have ww := r_whySail (f0 := f0) (Y := Y) (X := Z) g WZ Ws sf.1 (fun q => by have := sf.2.1 q.1; omega) sf.2.2.2.2.1 (p := p) (by omega) (by omega)
    rw [← rr.1] at ww
    show fX12_does f0 (Ad Y 12 0) (iI 1) (iI p) q (hp Y (sR Z 61 0 S)) = _
    unfold fX12_does
    simp (disch := first | assumption | omega) only [li_0, li_1, iI_eq, Int.reduceEq, if_true, if_false, k_12, ww, ob2_some]
  · have s3 := sf.2.1 (cw e).1
    have dd := r_sails (f0 := f0) (Y := Y) (X := Z) g WZ Ws sf.2.2.1.1 sf.2.2.1.2.1 sf.2.2.1.2.2.2.2 (by rw [h67]; exact hP.2.2) rl.2.2.2.2.2.1 (by omega) (by omega) sf.2.2.2.1 sf.1.1 (p := p) (by omega) (by omega) (hw e) (sf.2.2.2.2.2.2 p (by omega) (by omega)).2 (by omega)
    rw [h67] at dd
    unfold bX12_does_56
    simp (disch := first | assumption | omega) only [li_0, li_1, iI_eq, iI_le, Int.reduceEq, Int.reduceLE, if_true, if_false, k_12, dd, Option.bind_some]
