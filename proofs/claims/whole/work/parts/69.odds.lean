/-! odds -/
theorem Inv_not2 {Y : YS} {X Z : XS} {d : D5} {b : Int → Int} (h : Inv Y X) (Wd : WD d) (h6 : d.1 6 = 0 ∨ d.1 6 = 1) (hb : RgF b) (hz : Scr (sR (sF (shS X (XP X 1) d) 12 0 0 0) 72 0 b) Z) : Inv Y Z := by
  have sh := h.2.2.2.2.2.2.2.2.1
  have p10 := sh.1 1 (by omega)
  have W1 : WF (sR (sF (shS X (XP X 1) d) 12 0 0 0) 72 0 b) := W_R (W_F (W_sh h.2.1 Wd) (by decide) (by decide)) hb
  have cg := Cg_tr (Cg_tr (Cg_tr (Cg_sh (d := d) p10) (Cg_F (f := 0) (v := 0) (by omega))) (Cg_R (s := 72) (r := b) (by omega))) (Cg_scr hz)
  have W2 := Scr_W W1 hz
  obtain ⟨c, n, w, k, v, e, -⟩ := hz
  subst e
  have h61 : XR (shS X (XP X 1) d) 61 0 = XR X 61 0 := by rw [XR_sh]; split <;> rfl
  have h71 : XR (shS X (XP X 1) d) 71 0 = XR X 71 0 := by rw [XR_sh]; split <;> rfl
  have h25 : XR (shS X (XP X 1) d) 25 0 = XR X 25 0 := by rw [XR_sh]; split <;> rfl
  have h67 : XR (shS X (XP X 1) d) 67 0 = XR X 67 0 := by rw [XR_sh]; split <;> rfl
  refine Inv_cg h cg (S' := XR X 61 0) h61 (fun j _ => rfl) ?_ W2
  exact ShpI_not sh rfl rfl rfl h71 h25 h67 (fun k => shG_sh k) h6
/-- her copy behind n of them; how many stay free in the first n -/
def odC (X : XS) (d : D5) : D5 := cpD d (shG X (XP X 0))
def odS (X : XS) (sd : Int) : Nat → D5
  | 0 => shG X (XP X 1)
  | n + 1 => (voys X 10 (upF (odC X (odS X sd n)) 13 (wr (sd + n)))).2
def fre (X : XS) (sd : Int) : Nat → Int
  | 0 => 0
  | n + 1 => fre X sd n + (if (odS X sd (n + 1)).1 6 = 0 then 1 else 0)
theorem fre_rg (X : XS) (sd : Int) : ∀ n : Nat, 0 ≤ fre X sd n ∧ fre X sd n ≤ n
  | 0 => by simp [fre]
  | n + 1 => by have := fre_rg X sd n; rw [fre]; split <;> omega
theorem odC_ok {Y : YS} {X : XS} (h : Inv Y X) {d : D5} (wd : WD d) : WD (odC X d) ∧ CD X (odC X d) ∧ RelS X (odC X d) (XR X 61 0) := by
  have sh := h.2.2.2.2.2.2.2.2.1
  have se := h.2.2.2.2.2.1
  have hC := se.1; have hR := se.2.1
  have c0 := hC.1; have c3 := hC.2.1; have e0 := hR.1.1; have e1 := hR.1.2.1
  exact ⟨WD_cp wd (WD_G h.2.1 _), CD_seq (SEq_cp _ _) sh.2.2.2.1.1, rel_seq (by omega) (SEq_cp _ _) sh.2.2.2.1.2⟩
theorem odS_ok {Y : YS} {X : XS} (h : Inv Y X) (fh : forHer X 0) (sd : Int) : ∀ n : Nat, WD (odS X sd n) ∧ ((odS X sd n).1 6 = 0 ∨ (odS X sd n).1 6 = 1)
  | 0 => ⟨WD_G h.2.1 _, h.2.2.2.2.2.2.2.2.1.2.2.1 _⟩
  | n + 1 => by
    have ih := odS_ok h fh sd n
    have oc := odC_ok h ih.1
    have v := voys_cd h.2.2.2.2.2.1.1 fh 10 (d := upF (odC X (odS X sd n)) 13 (wr (sd + n))) (WD_F oc.1 (wr_rg _).1 (wr_rg _).2) (cd_13 oc.2.1 _)
    exact ⟨v.1, v.2.1.2.2.2.1⟩
theorem cl_odds {f0 : Nat} {Y : YS} {X : XS} (h : Inv Y X) (fh : forHer X 0) {n sd : Int} (n0 : 1 ≤ n) (n1 : n ≤ 30) (hf : 2000 ≤ f0) : bX11_odds_28 f0 f0 (Ad Y 11 0) (iI n) (iI sd) (iI 0) (iI 0) (hp Y X) = some (iI (fre X sd n.toNat), hp Y (shS X (XP X 1) (odS X sd n.toNat))) := by
  have g := h.1.1; have W := h.2.1
  have sh := h.2.2.2.2.2.2.2.2.1
  have p1 := sh.1 1 (by omega); have p0 := sh.1 0 (by omega)
  have gk1 := ShO_k g p1
  have ne : XP X 0 ≠ XP X 1 := fun q => absurd (sh.2.1 0 1 (by omega) (by omega) q) (by decide)
  have se := h.2.2.2.2.2.1
  have z : hp Y X = hp Y (shS X (XP X 1) (odS X sd 0)) := by
    show hp Y X = hp Y (shS X (XP X 1) (shG X (XP X 1)))
    rw [sh_id]
  rw [z]
  refine lp (fun f (i : Nat) => bX11_odds_28 f0 f (Ad Y 11 0) (iI n) (iI sd) (iI (fre X sd i)) (iI (i : Int)) (hp Y (shS X (XP X 1) (odS X sd i)))) (fun i => (i : Int) ≤ n) (fun i => 31 - i) (fun r => r = _) ?_ f0 0 (by omega) (by omega)
  intro f i hi
  have fr := fre_rg X sd i
  by_cases c : n ≤ (i : Int)
  · left
    simp (disch := first | assumption | omega) only [bX11_odds_28, g_11_12, g_11_11, g_10_6, k_10, li_0, li_1, li_10, ob2, iI_add, Option.bind_some, iI_le, if_pos c]
    rw [show n.toNat = i by omega]
  · right
    refine ⟨i + 1, ?_, by omega, by omega⟩
    have ok := odS_ok h fh sd i
    have oc := odC_ok h ok.1
    have ecp := d_copyFrom (f0 := f0) (X := X) (d := odS X sd i) gk1 (ShO_k g p0) ne W (sh.2.2.1 _)
    have a2 := d_drawVoyages (f0 := f0) (k := XP X 1) g p1 W oc.1 se.1 oc.2.1 fh (n := 10) (sd := wr (sd + i)) (by omega) (by omega) (wr_rg _) (by omega)
    have w : iI (sd + (i : Int)) = iI (wr (sd + (i : Int))) := (iI_wr _).symm
    have ok1 := odS_ok h fh sd (i + 1)
    have ev : odS X sd (i + 1) = (voys X (10 : Int).toNat (upF (odC X (odS X sd i)) 13 (wr (sd + i)))).2 := rfl
    rw [← ev] at a2
    rw [fre]
    have gf : XF (shS X (XP X 1) (odS X sd (i + 1))) 10 (XP X 1) 6 = (odS X sd (i + 1)).1 6 := XF_shk ..
    by_cases q : (odS X sd (i + 1)).1 6 = 0
    · rw [if_pos q]
      simp (disch := first | assumption | omega) only [bX11_odds_28, bX11_odds_72, g_11_12, g_11_11, g_10_6, k_10, li_0, li_1, li_10, ob2, iI_add, Option.bind_some, iI_le, if_neg c, XP_sh, ecp, show cpD (odS X sd i) (shG X (XP X 0)) = odC X (odS X sd i) from rfl, w, a2, gf, iI_eq, if_pos q]
      rfl
    · rw [if_neg q, Int.add_zero]
      simp (disch := first | assumption | omega) only [bX11_odds_28, bX11_odds_72, g_11_12, g_11_11, g_10_6, k_10, li_0, li_1, li_10, ob2, iI_add, Option.bind_some, iI_le, if_neg c, XP_sh, ecp, show cpD (odS X sd i) (shG X (XP X 0)) = odC X (odS X sd i) from rfl, w, a2, gf, iI_eq, if_neg q]
      rfl
theorem r_odds {f0 : Nat} {Y : YS} {X Z0 : XS} (h : Inv Y X) (fh : forHer X 0) (WZ : WF Z0) (h67 : XR Z0 67 0 = XR X 67 0) (h72 : ∀ j, 0 ≤ j → j < 153 → XR Z0 72 0 j = XR X 61 0 (312 + j)) {n sd : Int} (n0 : 1 ≤ n) (n1 : n ≤ 30) (hf : 2000 ≤ f0) : ∃ Z', Scr Z0 Z' ∧ bX12_odds_33 f0 f0 (Ad Y 12 0) (iI n) (iI sd) (iI 0) (iI 0) (hp Y (sR Z0 61 0 (XR X 61 0))) = some (iI (fre X sd n.toNat), hp Y (sR Z' 61 0 (XR X 61 0))) := by
  have g := h.1.1; have W := h.2.1
  have se := h.2.2.2.2.2.1; have hR := se.2.1
  have e0 := hR.1.1; have e1 := hR.1.2.1
  have W0 : WS (XR X 61 0) := fun i => W.2 61 0 i
  have iS : isSe (XR X 61 0) := by unfold isSe; rw [← e0, ← e1]; exact fh
  have hP := inv_PostR se h.2.2.2.2.2.2.2.1
  refine lp (fun f (t : Nat × XS) => bX12_odds_33 f0 f (Ad Y 12 0) (iI n) (iI sd) (iI (fre X sd t.1)) (iI (t.1 : Int)) (hp Y (sR t.2 61 0 (XR X 61 0)))) (fun t => (t.1 : Int) ≤ n ∧ Scr Z0 t.2) (fun t => 31 - t.1) (fun r => ∃ Z', Scr Z0 Z' ∧ r = some (iI (fre X sd n.toNat), hp Y (sR Z' 61 0 (XR X 61 0)))) ?_ f0 (0, Z0) ⟨by simp only; omega, Scr_refl WZ⟩ (by simp only; omega)
  intro f ⟨i, Z⟩ ⟨hi, sz⟩
  simp only at hi sz ⊢
  have fr := fre_rg X sd i
  by_cases c : n ≤ (i : Int)
  · left
    refine ⟨Z, sz, ?_⟩
    simp (disch := first | assumption | omega) only [bX12_odds_33, g_12_6, k_12, l61, li_0, li_1, li_10, li_317, ob2, iI_add, iI_sub, Option.bind_some, iI_le, if_pos c]
    rw [show n.toNat = i by omega]
  · right
    have ok := odS_ok h fh sd i
    have oc := odC_ok h ok.1
    have WZ1 := Scr_W WZ sz
    obtain ⟨Z', S', vr, ed⟩ := r_draws (f0 := f0) (Z0 := Z) g WZ1 se hP ((Scr_67 sz).trans h67) iS W0 oc.2.2 oc.2.1 oc.1 (n := 10) (sd := wr (sd + i)) (by omega) (by omega) (wr_rg _) hf
    have ev : odS X sd (i + 1) = (voys X (10 : Int).toNat (upF (odC X (odS X sd i)) 13 (wr (sd + i)))).2 := rfl
    rw [← ev] at vr
    obtain ⟨sz2, -, Ws', ho, rr, -, -⟩ := vr
    have c317 := rr.1.2.2.2.1
    have w : iI (sd + (i : Int)) = iI (wr (sd + (i : Int))) := (iI_wr _).symm
    have sz3 := Scr_tr sz sz2
    have bk := r_back (f0 := f0) (X := Z') (S := S') g (Scr_W WZ sz3) Ws' (by omega)
    have x72 : XR Z' 72 0 = XR Z0 72 0 := by
      obtain ⟨_, _, _, _, _, ez, -⟩ := sz3
      subst ez; rfl
    have bb : blk S' (XR Z' 72 0) 0 = XR X 61 0 := funext fun j => by
      unfold blk
      by_cases q : 312 ≤ j ∧ j < 465
      · rw [if_pos q, x72, Int.zero_add, h72 _ (by omega) (by omega)]; congr 1; omega
      · rw [if_neg q]; exact ho j (by omega)
    rw [bb] at bk
    have ok1 := odS_ok h fh sd (i + 1)
    refine ⟨(i + 1, Z'), ?_, ⟨by simp only; omega, sz3⟩, by simp only; omega⟩
    simp only
    rw [fre]
    have v1 : fre X sd i + (1 - S' 317) = fre X sd i + (if (odS X sd (i + 1)).1 6 = 0 then 1 else 0) := by
      split <;> omega
    rw [← v1]
    simp (disch := first | assumption | omega | exact W_fl W _ _ _ | exact W_fh W _ _ _ | exact W_rl W _ _ _ | exact W_rh W _ _ _ | exact WS_l Ws _ | exact WS_h Ws _) only [bX12_odds_33, g_12_6, k_12, l61, li_0, li_1, li_10, li_317, ob2, iI_add, iI_sub, Option.bind_some, iI_le, if_neg c, w, ed, bk]
    rfl
theorem op_odds {f0 : Nat} {Y : YS} {X : XS} (h : Inv Y X) {n : Int} (rg_n : Rg n) {sd : Int} (rg_s : Rg sd) (hf : 2000 ≤ f0) : ∃ v X1 X2, fX11_odds f0 (Ad Y 11 0) (iI n) (iI sd) (hp Y X) = some (v, hp Y X1) ∧ fX12_odds f0 (Ad Y 12 0) (iI n) (iI sd) (hp Y X1) = some (v, hp Y X2) ∧ Inv Y X2 := by
  have g := h.1.1; have W := h.2.1
  have se := h.2.2.2.2.2.1; have hC := se.1; have hR := se.2.1
  have g6 := SeO_0 g
  have n1 := rg_n.1; have n2 := rg_n.2
  have e0 := hR.1.1; have e1 := hR.1.2.1
  have W0 : WS (XR X 61 0) := fun i => W.2 61 0 i
  have b1 : Rg (1 : Int) := ⟨by decide, by decide⟩
  have b30 : Rg (30 : Int) := ⟨by decide, by decide⟩
  by_cases c : 1 ≤ n ∧ n ≤ 30
  · have c1 : ¬ n < 1 := by omega
    have c2 : ¬ 30 < n := by omega
    by_cases fh : 0 < XR X 25 0 0 ∧ 0 < XR X 25 0 3
    · have iS : 0 < XR X 61 0 0 ∧ 0 < XR X 61 0 1 := by rw [← e0, ← e1]; exact fh
      have cl := cl_odds (f0 := f0) h fh (n := n) (sd := sd) c.1 c.2 hf
      have ok := odS_ok h fh sd n.toNat
      obtain ⟨d, hd⟩ : ∃ d, d = odS X sd n.toNat := ⟨_, rfl⟩
      rw [← hd] at cl ok
      have x61 : XR (sF (shS X (XP X 1) d) 12 0 0 0) 61 0 = XR X 61 0 := by
        show XR (shS X (XP X 1) d) 61 0 = XR X 61 0
        rw [XR_sh]; split <;> rfl
      have x67 : XR (shS X (XP X 1) d) 67 0 = XR X 67 0 := by rw [XR_sh]; split <;> rfl
      have z := Z61 (Y := Y) (X := sF (shS X (XP X 1) d) 12 0 0 0) (S := XR X 61 0) x61
      have WA : WF (sF (shS X (XP X 1) d) 12 0 0 0) := W_F (W_sh W ok.1) (by decide) (by decide)
      have tr := r_tries (f0 := f0) (X := sF (shS X (XP X 1) d) 12 0 0 0) (S := XR X 61 0) g W0 (by omega)
      have rb : RgF (put153 (XR (sF (shS X (XP X 1) d) 12 0 0 0) 72 0) 0 (XR X 61 0) 153) := fun j => by
        unfold put153; split
        · exact W0 _
        · exact WA.2 _ _ _
      have WB := W_R WA (s := 72) (k := 0) rb
      obtain ⟨Z', sz, od⟩ := r_odds (f0 := f0) (Z0 := sR (sF (shS X (XP X 1) d) 12 0 0 0) 72 0 (put153 (XR (sF (shS X (XP X 1) d) 12 0 0 0) 72 0) 0 (XR X 61 0) 153)) h fh WB x67 (fun j j0 j1 => by
        show put153 _ 0 (XR X 61 0) 153 j = _
        unfold put153; rw [if_pos (by omega)]; congr 1; omega) (n := n) (sd := sd) c.1 c.2 hf
      refine ⟨iI (fre X sd n.toNat), shS X (XP X 1) d, Z', ?_, ?_, Inv_not2 h ok.1 ok.2 rb sz⟩
      · simp (disch := first | assumption | omega) only [fX11_odds, g_11_4, k_6, lm_1, li_1, li_30, li_0, ob2, Option.bind_some, iI_add, iI_neg, iI_lt, iI_le, if_neg c1, if_neg c2, e_isForHer, bI_i0, ite_n, if_pos fh, cl]
      · have z2 : hp Y (sR Z' 61 0 (XR X 61 0)) = hp Y Z' := by
          have : XR Z' 61 0 = XR X 61 0 := by
            obtain ⟨_, _, _, _, _, ez, -⟩ := sz
            subst ez; exact x61
          exact (Z61 this).symm
        simp (disch := first | assumption | omega | exact W_fl W _ _ _ | exact W_fh W _ _ _ | exact W_rl W _ _ _ | exact W_rh W _ _ _ | exact WS_l Ws _ | exact WS_h Ws _) only [fX12_odds, p_12_0, k_12, lm_1, li_0, li_1, li_30, ob2, Option.bind_some, iI_add, iI_neg, r_isIn, bI_i0, ite_n, if_pos c, z, r_isSea, if_pos iS, tr, od, z2]
    · have iS : ¬ (0 < XR X 61 0 0 ∧ 0 < XR X 61 0 1) := by rw [← e0, ← e1]; exact fh
      refine ⟨iI (-1), X, sF X 12 0 0 0, ?_, ?_, Inv_th h ⟨by decide, by decide⟩⟩
      · simp (disch := first | assumption | omega) only [fX11_odds, g_11_4, k_6, lm_1, li_1, li_30, li_0, ob2, Option.bind_some, iI_add, iI_neg, iI_lt, if_neg c1, if_neg c2, e_isForHer, bI_i0, ite_n, if_neg fh, iI_neg]
      · have z := Z61 (Y := Y) (X := sF X 12 0 0 0) (S := XR X 61 0) rfl
        have WA : WF (sF X 12 0 0 0) := W_F W (by decide) (by decide)
        simp (disch := first | assumption | omega) only [fX12_odds, p_12_0, k_12, lm_1, li_0, li_1, li_30, ob2, Option.bind_some, iI_add, iI_neg, r_isIn, bI_i0, ite_n, if_pos c, z, r_isSea, if_neg iS, iI_neg]
  · refine ⟨iI (-1), X, sF X 12 0 0 0, ?_, ?_, Inv_th h ⟨by decide, by decide⟩⟩
    · by_cases c1 : n < 1
      · simp (disch := first | assumption | omega) only [fX11_odds, g_11_4, k_6, lm_1, li_1, li_30, li_0, ob2, Option.bind_some, iI_add, iI_neg, iI_lt, if_pos c1, iI_neg]
      · have c2 : 30 < n := by omega
        simp (disch := first | assumption | omega) only [fX11_odds, g_11_4, k_6, lm_1, li_1, li_30, li_0, ob2, Option.bind_some, iI_add, iI_neg, iI_lt, if_neg c1, if_pos c2, iI_neg]
    · simp (disch := first | assumption | omega) only [fX12_odds, p_12_0, k_12, lm_1, li_0, li_1, li_30, ob2, Option.bind_some, iI_add, iI_neg, r_isIn, bI_i0, ite_n, if_neg c, iI_neg]
