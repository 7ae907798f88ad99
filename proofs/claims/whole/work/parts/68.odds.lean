/-! drawn, odds -/
theorem Scr_tr {A B C : XS} (h : Scr A B) (h2 : Scr B C) : Scr A C := by
  obtain ⟨c, n, w, k, v, e, q1, q2, q3, q4, q5⟩ := h2
  rw [e]; exact Scr_35 (Scr_scr h q1 q2 q3 q4) q5
theorem scr_71 (X : XS) (u c n w : Int → Int) (m k v : Int) : sF (scr (sF (sR X 71 0 u) 12 0 29 m) c n w k) 12 0 35 v = sF (sR (sF (scr X c n w k) 12 0 35 v) 71 0 u) 12 0 29 m := by
  unfold scr
  simp only [sF_sR]
  rw [sF_cm _ m k (by decide), sF_cm _ m v (by decide)]
  rw [sR_cm _ 0 0 u c (by decide), sR_cm _ 0 0 u n (by decide), sR_cm _ 0 0 u w (by decide)]
theorem voys_0 {X : XS} {d : D5} (h : ¬ canD X d) (n : Nat) : voys X n d = (0, d) := by
  have := voys_stop (X := X) (d := d) (n := 0) (m := n) h (by omega)
  exact this
theorem voys_1 {X : XS} {d : D5} (h : canD X d) : ∀ n : Nat, 1 ≤ n → 1 ≤ (voys X n d).1
  | 0, hn => by omega
  | 1, _ => by
    have e : voys X 1 d = if canD X d then (0 + 1, voy2 X (voy1 X d)) else (0, d) := rfl
    rw [e, if_pos h]; exact Int.le_refl _
  | n + 2, _ => by
    have ih := voys_1 h (n + 1) (by omega)
    rw [voys]
    split
    · show 1 ≤ (voys X (n + 1) d).1 + 1; omega
    · exact ih
theorem r_draws0 {f0 : Nat} {Y : YS} {Z : XS} {S : Int → Int} (g : GY Y) (Ws : WS S) {n sd : Int} (n0 : 1 ≤ n) (n1 : n ≤ 60) (h : ¬ S 317 = 0) (hf : 20 ≤ f0) : fX12_draws f0 (Ad Y 12 0) (iI n) (iI sd) (hp Y (sR Z 61 0 S)) = some (iI 0, hp Y (sR (sF Z 12 0 35 sd) 61 0 S)) := by
  obtain ⟨f, rfl⟩ : ∃ f, f0 = f + 1 := ⟨f0 - 1, by omega⟩
  have a2 : ¬ iI (S 317) = iI 0 := by rw [iI_eq (Ws _).1 (Ws _).2 (by decide) (by decide)]; exact h
  have c : ¬ n ≤ 0 := by omega
  simp (disch := first | assumption | omega) only [fX12_draws, bX12_draws_7, bX12_draws_140, p_12_35, li_0, g_12_6, k_12, l61, li_1, li_317, li_3, ob2, iI_add, Option.bind_some, sF_sR, iI_le, if_neg c, if_neg a2]
theorem op_drawn {f0 : Nat} {Y : YS} {X : XS} (h : Inv Y X) {n : Int} (rg_n : Rg n) {sd : Int} (rg_s : Rg sd) (hf : 2000 ≤ f0) : ∃ v X1 X2, fX11_drawn f0 (Ad Y 11 0) (iI n) (iI sd) (hp Y X) = some (v, hp Y X1) ∧ fX12_drawn f0 (Ad Y 12 0) (iI n) (iI sd) (hp Y X1) = some (v, hp Y X2) ∧ Inv Y X2 := by
  have g := h.1.1; have W := h.2.1
  have se := h.2.2.2.2.2.1; have hC := se.1; have hR := se.2.1
  have g6 := SeO_0 g
  have n1 := rg_n.1; have n2 := rg_n.2
  have e0 := hR.1.1; have e1 := hR.1.2.1
  have W0 : WS (XR X 61 0) := fun i => W.2 61 0 i
  have b1 : Rg (1 : Int) := ⟨by decide, by decide⟩
  have b60 : Rg (60 : Int) := ⟨by decide, by decide⟩
  by_cases c : 1 ≤ n ∧ n ≤ 60
  · have c1 : ¬ n < 1 := by omega
    have c2 : ¬ 60 < n := by omega
    by_cases fh : 0 < XR X 25 0 0 ∧ 0 < XR X 25 0 3
    · have iS : 0 < XR X 61 0 0 ∧ 0 < XR X 61 0 1 := by rw [← e0, ← e1]; exact fh
      obtain ⟨ecp, Wd, cd, rl, ⟨p1, p0⟩, m14⟩ := cp_her (f0 := f0) h
      have gk1 := ShO_k g p1
      have hP := inv_PostR se h.2.2.2.2.2.2.2.1
      have a2 := d_drawVoyages (f0 := f0) (k := XP X 1) g p1 W Wd hC cd fh (n := n) (sd := sd) (by omega) (by omega) rg_s (by omega)
      have sh := h.2.2.2.2.2.2.2.2.1
      obtain ⟨r, hr⟩ : ∃ r, r = (voys X n.toNat (upF (tcp X) 13 sd)).1 := ⟨_, rfl⟩
      obtain ⟨d, hd⟩ : ∃ d, d = (voys X n.toNat (upF (tcp X) 13 sd)).2 := ⟨_, rfl⟩
      have vc := voys_cd hC fh n.toNat (d := upF (tcp X) 13 sd) (WD_F Wd rg_s.1 rg_s.2) (cd_13 cd _)
      rw [← hr, ← hd] at a2 vc
      have f14 : XF (shS X (XP X 1) d) 11 0 14 = XF X 11 0 14 := by rw [XF_sh, if_neg (fun q => absurd q.1 (by decide))]
      by_cases a : XR X 61 0 317 = 0
      · have can : canD X (upF (tcp X) 13 sd) := ⟨fh, by show (tcp X).1 6 = 0; rw [rl.1.2.2.2.1]; exact a⟩
        have r1 : 1 ≤ r := by rw [hr]; exact voys_1 can _ (by omega)
        have r1' : ¬ r ≤ 0 := by omega
        have kk := k_keep (f0 := f0) (X := shS X (XP X 1) d) g h.1.2 sh.1 (by rw [f14]; exact m14) (by omega)
        have kt : sF (setP (shS X (XP X 1) d) (kpP (XP (shS X (XP X 1) d)) (XF (shS X (XP X 1) d) 11 0 14))) 11 0 14 (kpM (XF (shS X (XP X 1) d) 11 0 14)) = AR X 0 d := by unfold AR; rw [if_pos rfl]; rfl
        rw [kt] at kk
        have cl : fX11_drawn f0 (Ad Y 11 0) (iI n) (iI sd) (hp Y X) = some (iI r, hp Y (AR X 0 d)) := by
          simp (disch := first | assumption | omega) only [fX11_drawn, bX11_drawn_52, g_11_4, g_11_12, g_11_11, k_6, k_10, k_11, lm_1, li_1, li_60, li_0, ob2, Option.bind_some, iI_add, iI_neg, iI_lt, iI_le, if_neg c1, if_neg c2, e_isForHer, bI_i0, ite_n, if_pos fh, ecp, XP_sh, a2, if_neg r1', kk]
        have WA : WF (sF (AR X 0 d) 12 0 0 0) := W_F (AR_W h vc.1) (by decide) (by decide)
        have z := Z61 (Y := Y) (X := sF (AR X 0 d) 12 0 0 0) (S := XR X 61 0) AR_61
        have r29 : 0 ≤ XF (AR X 0 d) 12 0 29 ∧ XF (AR X 0 d) 12 0 29 ≤ 8 := by rw [AR_f]; have := sh.2.2.2.2.1; omega
        have rk := r_keep (f0 := f0) (X := sF (AR X 0 d) 12 0 0 0) (S := XR X 61 0) g W0 r29 hf
        have mk := kpM_rg r29
        have u71 : XR (sF (AR X 0 d) 12 0 0 0) 71 0 = XR X 71 0 := AR_r (r := 0) (d := d) (by omega)
        have WK : WF (sF (sR (sF (AR X 0 d) 12 0 0 0) 71 0 (kpU (XR (sF (AR X 0 d) 12 0 0 0) 71 0) (XR X 61 0) (XF (sF (AR X 0 d) 12 0 0 0) 12 0 29))) 12 0 29 (kpM (XF (sF (AR X 0 d) 12 0 0 0) 12 0 29))) := W_F (W_R WA (kpU_rg (fun i => WA.2 _ _ _) W0)) (by show _ ≤ kpM (XF (AR X 0 d) 12 0 29); omega) (by show kpM (XF (AR X 0 d) 12 0 29) < _; omega)
        obtain ⟨Z', S', vr, ed⟩ := r_draws (f0 := f0) (Z0 := sF (sR (sF (AR X 0 d) 12 0 0 0) 71 0 (kpU (XR (sF (AR X 0 d) 12 0 0 0) 71 0) (XR X 61 0) (XF (sF (AR X 0 d) 12 0 0 0) 12 0 29))) 12 0 29 (kpM (XF (sF (AR X 0 d) 12 0 0 0) 12 0 29))) g WK se hP (AR_r (r := 0) (d := d) (by omega)) iS W0 rl cd Wd (n := n) (sd := sd) (by omega) (by omega) rg_s hf
        rw [← hr] at ed
        rw [← hd] at vr
        refine ⟨_, _, sR Z' 61 0 S', cl, ?_, ?_⟩
        · simp (disch := first | assumption | omega | exact W_fl W _ _ _ | exact W_fh W _ _ _ | exact W_rl W _ _ _ | exact W_rh W _ _ _ | exact WS_l Ws _ | exact WS_h Ws _) only [fX12_drawn, bX12_drawn_39, g_12_6, p_12_0, k_12, l61, lm_1, li_0, li_1, li_60, li_317, ob2, Option.bind_some, iI_add, iI_neg, r_isIn, bI_i0, ite_n, if_pos c, z, r_isSea, if_pos iS, iI_eq, if_pos a, rk, ed]
        · obtain ⟨sz, -, ws, ho, rr, -, -⟩ := vr
          obtain ⟨c', n', w', k', v', ez, q1, q2, q3, q4, q5⟩ := sz
          rw [scr_71] at ez
          rw [ez]
          have scz : Scr (sF (AR X 0 d) 12 0 0 0) (sF (scr (sF (AR X 0 d) 12 0 0 0) c' n' w' k') 12 0 35 v') := ⟨c', n', w', k', v', rfl, q1, q2, q3, q4, q5⟩
          exact act_end h vc.1 vc.2.1 ws ho (fun _ => rr) rfl scz
      · have can : ¬ canD X (upF (tcp X) 13 sd) := fun q => a (by rw [← rl.1.2.2.2.1]; exact q.2)
        have v0 := voys_0 can n.toNat
        rw [v0] at hr hd
        have hr0 : r = 0 := hr
        have hd0 : d = upF (tcp X) 13 sd := hd
        have r1' : r ≤ 0 := by omega
        have cl : fX11_drawn f0 (Ad Y 11 0) (iI n) (iI sd) (hp Y X) = some (iI r, hp Y (shS X (XP X 1) d)) := by
          simp (disch := first | assumption | omega) only [fX11_drawn, bX11_drawn_52, g_11_4, g_11_12, g_11_11, k_6, k_10, k_11, lm_1, li_1, li_60, li_0, ob2, Option.bind_some, iI_add, iI_neg, iI_lt, iI_le, if_neg c1, if_neg c2, e_isForHer, bI_i0, ite_n, if_pos fh, ecp, XP_sh, a2, if_pos r1']
        have x61 : XR (sF (shS X (XP X 1) d) 12 0 0 0) 61 0 = XR X 61 0 := by
          show XR (shS X (XP X 1) d) 61 0 = XR X 61 0
          rw [XR_sh]; split <;> rfl
        have z := Z61 (Y := Y) (X := sF (shS X (XP X 1) d) 12 0 0 0) (S := XR X 61 0) x61
        have WA : WF (sF (shS X (XP X 1) d) 12 0 0 0) := W_F (W_sh W vc.1) (by decide) (by decide)
        have a2' : ¬ iI (XR X 61 0 317) = iI 0 := by rw [iI_eq (W0 _).1 (W0 _).2 (by decide) (by decide)]; exact a
        have dd := r_draws0 (f0 := f0) (Z := sF (shS X (XP X 1) d) 12 0 0 0) g W0 (n := n) (sd := sd) c.1 c.2 a (by omega)
        refine ⟨_, _, _, cl, ?_, Inv_not h vc.1 vc.2.1.2.2.2.1 (Scr_35 (Scr_refl WA) rg_s)⟩
        have zz := Z61 (Y := Y) (X := sF (sF (shS X (XP X 1) d) 12 0 0 0) 12 0 35 sd) (S := XR X 61 0) x61
        simp (disch := first | assumption | omega | exact W_fl W _ _ _ | exact W_fh W _ _ _ | exact W_rl W _ _ _ | exact W_rh W _ _ _ | exact WS_l Ws _ | exact WS_h Ws _) only [fX12_drawn, bX12_drawn_39, g_12_6, p_12_0, k_12, l61, lm_1, li_0, li_1, li_60, li_317, ob2, Option.bind_some, iI_add, iI_neg, r_isIn, bI_i0, ite_n, if_pos c, z, r_isSea, if_pos iS, if_neg a2', dd]
        rw [hr0, zz]
    · have iS : ¬ (0 < XR X 61 0 0 ∧ 0 < XR X 61 0 1) := by rw [← e0, ← e1]; exact fh
      refine ⟨iI (-1), X, sF X 12 0 0 0, ?_, ?_, Inv_th h ⟨by decide, by decide⟩⟩
      · simp (disch := first | assumption | omega) only [fX11_drawn, g_11_4, g_11_12, g_11_11, k_6, k_10, k_11, lm_1, li_1, li_60, li_0, ob2, Option.bind_some, iI_add, iI_neg, iI_lt, if_neg c1, if_neg c2, e_isForHer, bI_i0, ite_n, if_neg fh, iI_neg]
      · have z := Z61 (Y := Y) (X := sF X 12 0 0 0) (S := XR X 61 0) rfl
        have WA : WF (sF X 12 0 0 0) := W_F W (by decide) (by decide)
        simp (disch := first | assumption | omega) only [fX12_drawn, g_12_6, p_12_0, k_12, l61, lm_1, li_0, li_1, li_60, li_317, ob2, Option.bind_some, iI_add, iI_neg, r_isIn, bI_i0, ite_n, if_pos c, z, r_isSea, if_neg iS, iI_neg]
  · refine ⟨iI (-1), X, sF X 12 0 0 0, ?_, ?_, Inv_th h ⟨by decide, by decide⟩⟩
    · by_cases c1 : n < 1
      · simp (disch := first | assumption | omega) only [fX11_drawn, g_11_4, g_11_12, g_11_11, k_6, k_10, k_11, lm_1, li_1, li_60, li_0, ob2, Option.bind_some, iI_add, iI_neg, iI_lt, if_pos c1, iI_neg]
      · have c2 : 60 < n := by omega
        simp (disch := first | assumption | omega) only [fX11_drawn, g_11_4, g_11_12, g_11_11, k_6, k_10, k_11, lm_1, li_1, li_60, li_0, ob2, Option.bind_some, iI_add, iI_neg, iI_lt, if_neg c1, if_pos c2, iI_neg]
    · simp (disch := first | assumption | omega) only [fX12_drawn, g_12_6, p_12_0, k_12, l61, lm_1, li_0, li_1, li_60, li_317, ob2, Option.bind_some, iI_add, iI_neg, r_isIn, bI_i0, ite_n, if_neg c, iI_neg]
