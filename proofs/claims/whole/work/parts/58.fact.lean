/-! WHAT FOLLOWS FROM IT -/
theorem ini_FB {r : Int → Int} {n m : Int} (n8 : n ≤ m) (h : ∀ i, 0 ≤ i → i < 64 → 0 ≤ r i ∧ r i ≤ 1000) (hn : n ≤ 8) : FB n (iniW m r) := fun a b a0 an b0 bn => by
  have q := h (8 * a + b) (by omega) (by omega)
  unfold iniW
  rw [show (8 * a + b) / 8 = a by omega, show (8 * a + b) % 8 = b by omega]
  by_cases e : a = b
  · rw [if_pos ⟨e, by omega⟩]; exact ⟨by omega, fun _ => rfl, fun z => absurd e z⟩
  · rw [if_neg (fun z => e z.1)]
    split
    · exact ⟨by omega, fun z => absurd z e, fun _ => by omega⟩
    · exact ⟨by omega, fun z => absurd z e, fun _ => by omega⟩
theorem ini_FRR {rc rr : Int → Int} {n : Int} (n8 : n ≤ 8) (h : ∀ a b, 0 ≤ a → a < n → 0 ≤ b → b < n → rr (8 * a + b) = rc (8 * a + b)) (hz : ∀ a b, 0 ≤ a → a < 8 → 0 ≤ b → b < 8 → (n ≤ a ∨ n ≤ b) → rr (8 * a + b) = 0) : FRR n (iniW n rc) (iniW 8 rr) := by
  refine ⟨fun a b a0 an b0 bn => ?_, fun a b a0 an b0 bn ne hh => ?_⟩
  · unfold iniW
    rw [show (8 * a + b) / 8 = a by omega, show (8 * a + b) % 8 = b by omega, h a b a0 an b0 bn]
    by_cases e : a = b
    · rw [if_pos ⟨e, by omega⟩, if_pos ⟨e, by omega⟩]
    · rw [if_neg (show ¬ (a = b ∧ a < 8) from fun z => e z.1), if_neg (show ¬ (a = b ∧ a < n) from fun z => e z.1)]
  · unfold iniW
    rw [show (8 * a + b) / 8 = a by omega, show (8 * a + b) % 8 = b by omega, if_neg (fun z => ne z.1), if_pos (hz a b a0 an b0 bn hh)]
theorem div8 {i : Int} (h0 : 0 ≤ i) (h1 : i < 64) : 8 * (i / 8) + i % 8 = i ∧ (0 ≤ i / 8 ∧ i / 8 < 8) ∧ 0 ≤ i % 8 ∧ i % 8 < 8 := by omega
theorem inv_PostR {X : XS} {S : Int → Int} (hS : SeaI X 0 S) (hP : PostW X S) : PostR X S := by
  obtain ⟨hC, hR, hk, hZ, hW⟩ := hS
  have c0 := hC.1; have e0 := hR.1.1
  have wr : ∀ i, 0 ≤ i → i < 64 → 0 ≤ S (8 + i) ∧ S (8 + i) ≤ 1000 := fun i i0 i6 => by
    have := hC.2.2.2.2.2.2.1 i i0 i6; rw [(hR.2.1 i i0 i6).1] at this; omega
  have mr : ∀ i, 0 ≤ i → i < 64 → 0 ≤ S (72 + i) ∧ S (72 + i) ≤ 1000 := fun i i0 i6 => by
    obtain ⟨d1, d2, d3⟩ := div8 i0 i6
    have := (hZ.1 (i / 8) (i % 8) d2.1 d2.2 d3.1 d3.2).2.2.2; rw [d1] at this; omega
  have f1 := frr_all (n := XR X 25 0 0) c0.1 c0.2 (ini_FB (m := 8) (by omega) wr (by omega)) (ini_FRR (rc := XR X 26 0) (rr := fun i => S (8 + i)) c0.2 (fun a b a0 an b0 bn => ((hR.2.1 (8 * a + b) (by omega) (by omega)).1).symm) (fun a b a0 a8 b0 b8 hh => ((hZ.1 a b a0 a8 b0 b8).1 (by omega)).1))
  have f2 := frr_all (n := XR X 25 0 0) c0.1 c0.2 (ini_FB (m := 8) (by omega) mr (by omega)) (ini_FRR (rc := XR X 27 0) (rr := fun i => S (72 + i)) c0.2 (fun a b a0 an b0 bn => ((hR.2.1 (8 * a + b) (by omega) (by omega)).2.1).symm) (fun a b a0 a8 b0 b8 hh => ((hZ.1 a b a0 a8 b0 b8).1 (by omega)).2))
  refine ⟨fun p q p0 p1 q0 q1 => ?_, fun i i0 i6 => ?_, fun i i0 i6 => ?_⟩
  · have w := hW p q p0 (by omega) q0 (by omega)
    have o := hP (8 * p + q) (by omega) (by omega)
    rw [show p * 8 + q = 8 * p + q by omega, o.1, o.2, w.1, w.2]
    exact ⟨f1.1 p q p0 (by omega) q0 (by omega), f2.1 p q p0 (by omega) q0 (by omega)⟩
  · obtain ⟨d1, d2, d3⟩ := div8 i0 i6
    have := ((fwG_all (n := 8) (by omega) (ini_FB (m := 8) (by omega) wr (by omega)) 8 (by omega)).1 (i / 8) (i % 8) d2.1 d2.2 d3.1 d3.2).1
    rw [d1] at this
    rw [(hP i i0 i6).1]; exact this
  · obtain ⟨d1, d2, d3⟩ := div8 i0 i6
    have := ((fwG_all (n := 8) (by omega) (ini_FB (m := 8) (by omega) mr (by omega)) 8 (by omega)).1 (i / 8) (i % 8) d2.1 d2.2 d3.1 d3.2).1
    rw [d1] at this
    rw [(hP i i0 i6).2]; exact this
theorem inv_CH {X : XS} {d : D5} {S : Int → Int} (hS : SeaI X 0 S) (hd : CD X d) (h : RelS X d S) {s : Int} (s0 : 0 ≤ s) (s8 : s < 8) : CH S s := by
  obtain ⟨hC, hR, hk, hZ, hW⟩ := hS
  have c4 := hC.2.2.1; have c5 := hC.2.2.2.1; have n := hC.2.2.2.2.2.2.2.2.2.1 s s0 s8
  rw [hR.1.2.2.1] at c4; rw [hR.1.2.2.2.1] at c5; rw [(hR.2.2.1 s s0 s8).1] at n
  exact ⟨⟨s0, s8⟩, c4, c5, n, hZ.2 s s0 s8, fun m m0 m8 => by have := hd.2.2.2.2.2.2.1 m m0 m8; rw [(h.2.2.2.1 m m0 m8).2] at this; exact this⟩
theorem cnt_c {p q : Int → Bool} : ∀ {n : Nat}, (∀ i : Int, 0 ≤ i → i < (n : Int) → p i = q i) → cnt p n = cnt q n
  | 0, _ => rfl
  | n + 1, h => by rw [cnt, cnt, cnt_c (fun i h0 h1 => h i h0 (by omega)), h n (by omega) (by omega)]
theorem lackF_c {sk sk' : Int → Int} {a M : Nat} (h : ∀ m, 0 ≤ m → m < 8 → sk m = sk' m) : lackF sk a M = lackF sk' a M := by
  have : lkV sk a M = lkV sk' a M := funext fun T => by
    unfold lkV knw
    rw [cnt_c (q := kwB sk' T M) (fun i i0 i8 => by unfold kwB; rw [h i i0 i8])]
  unfold lackF; rw [this]
theorem lack_pos {sk : Int → Int} {a m : Nat} (ha : a < 64) (hm : m ≤ 8) (h : (m : Int) < pc a) : 0 < lackF sk a (2 ^ m - 1) := by
  have h1 := mx_le (lkV sk a (2 ^ m - 1)) 64 a ha
  unfold lkV at h1
  rw [if_pos (Nat.and_self a)] at h1
  have h2 : knw sk a (2 ^ m - 1) ≤ (m : Int) := by
    rw [← pc_full hm]
    have hM : 2 ^ m - 1 < 256 := by
      have : 2 ^ m ≤ 2 ^ 8 := Nat.pow_le_pow_right (by decide) hm
      have : 0 < 2 ^ m := Nat.two_pow_pos m
      omega
    rw [← knG_F hM]
    exact cnt_le (fun i _ _ q => by unfold kwB at q; simp only [Bool.and_eq_true] at q; exact q.1)
  unfold lackF lkV
  omega
def whyPaintS (S : Int → Int) (s : Int) : Int := if canS S then (if S 314 = s then 2 else if lacksS S s = 0 then lateS S 1 else 3) else 1
theorem rel_lack {X : XS} {d : D5} {S : Int → Int} {s : Int} (hC : CSea X 0) (hR : SeaR X 0 S) (h : RelS X d S) (hh : CH S s) : lackF d.2.2.2.1 (XR X 33 0 s).toNat (allM X) = lackF (cSK S) (cNN S s) (cMM S) := by
  unfold allM
  rw [(hR.2.2.1 s hh.1.1 hh.1.2).1, hR.1.2.2.2.1]
  exact lackF_c (fun m m0 m8 => (h.2.2.2.1 m m0 m8).2)
theorem rel_lacks {S : Int → Int} {s : Int} (hh : CH S s) : lackF (cSK S) (cNN S s) (cMM S) ≤ 0 ↔ lacksS S s = 0 := by
  have lr := lackF_rg (cSK S) (cNN S s) (cMM S)
  have hN : cNN S s < 64 := by have := hh.2.2.2.1; show (S (264 + s)).toNat < 64; omega
  have hm := hh.2.2.1
  unfold lacksS
  by_cases q : pc (cNN S s) ≤ S 3
  · rw [if_pos q]; omega
  · rw [if_neg q]
    have : 0 < lackF (cSK S) (cNN S s) (cMM S) := lack_pos (sk := cSK S) hN (m := (S 3).toNat) (by omega) (by omega)
    omega
theorem rel_paint {X : XS} {d : D5} {S : Int → Int} (hS : SeaI X 0 S) (hd : CD X d) (h : RelS X d S) {s : Int} (s0 : 0 ≤ s) (s1 : s < S 1) : (paintA X d s).1 = whyPaintS S s ∧ ((paintA X d s).1 = 0 → RelS X (paintA X d s).2 (paintS S s)) := by
  have hC := hS.1; have hR := hS.2.1
  have c3 := hC.2.1; have e1 := hR.1.2.1
  have hh := inv_CH hS hd h s0 (by omega)
  unfold paintA whyPaintS lateS
  by_cases c : canD X d
  · have cS := (rel_sea hR h).mp c
    rw [if_pos c, if_pos cS, (h.2.1 cS.1).2, h.1.1]
    by_cases e : S 314 = s
    · rw [if_pos e, if_pos e]; exact ⟨rfl, fun q => absurd q (by simp)⟩
    · rw [if_neg e, if_neg e, rel_lack hC hR h hh]
      by_cases q : lackF (cSK S) (cNN S s) (cMM S) ≤ 0
      · rw [if_pos q, if_pos ((rel_lacks hh).mp q)]
        by_cases e2 : 999 < S 312 + 1
        · rw [if_pos e2, if_pos e2]; exact ⟨rfl, fun q => absurd q (by simp)⟩
        · rw [if_neg e2, if_neg e2]
          exact ⟨rfl, fun _ => rel_paint1 hC hR h cS.1 s0 (by omega)⟩
      · rw [if_neg q, if_neg (fun z => q ((rel_lacks hh).mpr z))]
        exact ⟨rfl, fun q => absurd q (by simp)⟩
  · rw [if_neg c, if_neg (fun q => c ((rel_sea hR h).mpr q))]
    exact ⟨rfl, fun q => absurd q (by simp)⟩
/-- only scratch has changed -/
def Scr (X X' : XS) : Prop := ∃ c n w k v, X' = sF (scr X c n w k) 12 0 35 v ∧ RgF c ∧ RgF n ∧ RgF w ∧ Rg k ∧ Rg v
theorem sF_cm (X : XS) {s s' k k' f f' : Nat} (v v' : Int) (h : ¬ (s = s' ∧ k = k' ∧ f = f')) : sF (sF X s k f v) s' k' f' v' = sF (sF X s' k' f' v') s k f v := by
  unfold sF up3
  refine Prod.ext ?_ rfl
  funext a b c
  by_cases c1 : a = s ∧ b = k ∧ c = f
  · by_cases c2 : a = s' ∧ b = k' ∧ c = f'
    · exact absurd ⟨c1.1.symm.trans c2.1, c1.2.1.symm.trans c2.2.1, c1.2.2.symm.trans c2.2.2⟩ h
    · simp only [if_pos c1, if_neg c2]
  · by_cases c2 : a = s' ∧ b = k' ∧ c = f'
    · simp only [if_neg c1, if_pos c2]
    · simp only [if_neg c1, if_neg c2]
theorem Scr_refl {X : XS} (W : WF X) : Scr X X := ⟨XR X 68 0, XR X 69 0, XR X 70 0, XF X 12 0 26, XF X 12 0 35, by
  rw [scr_id]
  unfold sF up3
  refine Prod.ext ?_ rfl
  funext a b c
  show X.1 a b c = (if a = 12 ∧ b = 0 ∧ c = 35 then XF X 12 0 35 else X.1 a b c)
  split
  · rename_i h; rw [h.1, h.2.1, h.2.2]; rfl
  · rfl, fun i => W.2 _ _ i, fun i => W.2 _ _ i, fun i => W.2 _ _ i, W.1 _ _ _, W.1 _ _ _⟩
theorem scr_scr (X : XS) (c n w c' n' w' : Int → Int) (k k' v : Int) : scr (sF (scr X c n w k) 12 0 35 v) c' n' w' k' = sF (scr X c' n' w' k') 12 0 35 v := by
  unfold scr
  rw [← sF_sR, ← sF_sR, ← sF_sR, ← sF_sR, ← sF_sR, ← sF_sR, sF_cm _ k v (by decide), sF_sF, sF_cm _ v k' (by decide)]
  congr 2
  rw [sR_cm _ 0 0 w c' (by decide), sR_cm _ 0 0 n c' (by decide), sR_sR, sR_cm _ 0 0 w n' (by decide), sR_sR, sR_sR]
theorem Scr_scr {X X' : XS} (h : Scr X X') {c n w : Int → Int} {k : Int} (hc : RgF c) (hn : RgF n) (hw : RgF w) (hk : Rg k) : Scr X (scr X' c n w k) := by
  obtain ⟨c', n', w', k', v, e, _, _, _, _, hv⟩ := h
  exact ⟨c, n, w, k, v, by rw [e, scr_scr], hc, hn, hw, hk, hv⟩
theorem Scr_35 {X X' : XS} (h : Scr X X') {v : Int} (hv : Rg v) : Scr X (sF X' 12 0 35 v) := by
  obtain ⟨c', n', w', k', v', e, h1, h2, h3, h4, _⟩ := h
  exact ⟨c', n', w', k', v, by rw [e, sF_sF], h1, h2, h3, h4, hv⟩
theorem Scr_W {X X' : XS} (W : WF X) (h : Scr X X') : WF X' := by
  obtain ⟨c', n', w', k', v', e, h1, h2, h3, h4, h5⟩ := h
  rw [e]; exact W_F (W_scr W h1 h2 h3 h4.1 h4.2) h5.1 h5.2
theorem r_whyPaint {f0 : Nat} {Y : YS} {X : XS} {S : Int → Int} (g : GY Y) (W : WF X) (Ws : WS S) (h : 0 ≤ S 312 ∧ S 312 ≤ 999) {s : Int} (hh : CH S s) (hf : 1000 ≤ f0) : ∃ X', Scr X X' ∧ XF X' 12 0 35 = XF X 12 0 35 ∧ fX12_whyPaint f0 (Ad Y 12 0) (iI s) (hp Y (sR X 61 0 S)) = some (iI (whyPaintS S s), hp Y (sR X' 61 0 S)) := by
  have s0 := hh.1
  unfold whyPaintS
  by_cases c : canS S
  · rw [if_pos c]
    by_cases a : S 314 = s
    · rw [if_pos a]
      refine ⟨X, Scr_refl W, rfl, ?_⟩
      simp (disch := first | assumption | omega | exact W_fl W _ _ _ | exact W_fh W _ _ _ | exact W_rl W _ _ _ | exact W_rh W _ _ _ | exact WS_l Ws _ | exact WS_h Ws _) only [fX12_whyPaint, g_12_6, k_12, l61, li_0, li_1, li_314, li_2, li_3, ob2, Option.bind_some, iI_add, r_canAct, bI_i0, ite_n, if_pos c, iI_eq, if_pos a]
    · rw [if_neg a]
      obtain ⟨c', n, w, hp1, e⟩ := r_lacksOf (f0 := f0) g hh W Ws hf
      have c6 := cN_rg (cNN S s) 6
      have lr := lackF_rg (cSK S) (cNN S s) (cMM S)
      have ll : -1 ≤ lacksS S s ∧ lacksS S s ≤ 10 := by unfold lacksS; split <;> omega
      refine ⟨scr X c' n w (cN (cNN S s) 6), Scr_scr (Scr_refl W) hp1.1 hp1.2.1 hp1.2.2.1 ⟨by omega, by omega⟩, rfl, ?_⟩
      by_cases q : lacksS S s = 0
      · rw [if_pos q]
        simp (disch := first | assumption | omega | exact W_fl W _ _ _ | exact W_fh W _ _ _ | exact W_rl W _ _ _ | exact W_rh W _ _ _ | exact WS_l Ws _ | exact WS_h Ws _) only [fX12_whyPaint, g_12_6, k_12, l61, li_0, li_1, li_314, li_2, li_3, ob2, Option.bind_some, iI_add, r_canAct, bI_i0, ite_n, if_pos c, iI_eq, if_neg a, e, if_pos q, r_late]
      · rw [if_neg q]
        simp (disch := first | assumption | omega | exact W_fl W _ _ _ | exact W_fh W _ _ _ | exact W_rl W _ _ _ | exact W_rh W _ _ _ | exact WS_l Ws _ | exact WS_h Ws _) only [fX12_whyPaint, g_12_6, k_12, l61, li_0, li_1, li_314, li_2, li_3, ob2, Option.bind_some, iI_add, r_canAct, bI_i0, ite_n, if_pos c, iI_eq, if_neg a, e, if_neg q]
  · rw [if_neg c]
    refine ⟨X, Scr_refl W, rfl, ?_⟩
    simp (disch := first | assumption | omega | exact W_fl W _ _ _ | exact W_fh W _ _ _ | exact W_rl W _ _ _ | exact W_rh W _ _ _ | exact WS_l Ws _ | exact WS_h Ws _) only [fX12_whyPaint, g_12_6, k_12, l61, li_0, li_1, li_314, li_2, li_3, ob2, Option.bind_some, iI_add, r_canAct, bI_i0, ite_n, if_neg c]
