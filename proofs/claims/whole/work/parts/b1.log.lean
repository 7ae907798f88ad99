/-! log, AS A CALL -/
theorem e_66 {f0 : Nat} {Y : YS} {X : XS} {k : Nat} {a i : Int} (g : GY Y) (hk : k < 10) (W : WF X) (h6 : XF X 10 k 6 = 0 ∨ XF X 10 k 6 = 1) (ha : XF X 2 0 7 = a) (hi : XF X 2 0 8 = i) (ab : 0 ≤ a ∧ a ≤ 49) : bX2_live_66 f0 (Ad Y 2 0) (Ad Y 10 k) (hp Y X) = some (iI (if a = 0 then -1 else i), hp Y (sF (sF X 2 0 9 (XF X 10 k 1)) 2 0 10 (XF X 10 k 6))) := by
  have gk := ShO_k g hk
  have zz := z_2_10 (Y := Y) (X := sF X 2 0 9 (XF X 10 k 1)) g (v := XF X 10 k 6) h6
  have y6 : XF (sF X 2 0 9 (XF X 10 k 1)) 10 k 6 = XF X 10 k 6 := by rw [XF_sF, if_neg (by omega)]
  have y7 : ∀ v w, XF (sF (sF X 2 0 9 v) 2 0 10 w) 2 0 7 = a := fun _ _ => ha
  have y8 : ∀ v w, XF (sF (sF X 2 0 9 v) 2 0 10 w) 2 0 8 = i := fun _ _ => hi
  unfold bX2_live_66
  rw [g_10_1 gk, Option.bind_some, p_2_9 g, Option.bind_some, g_10_6 gk, Option.bind_some, y6, zz, Option.bind_some, g_2_7 g, Option.bind_some, y7, li_0]
  by_cases e : a = 0
  · rw [if_pos (by rw [e]), if_pos e]; rfl
  · rw [if_neg (iNE e (by omega) (by omega) (by decide) (by decide)), if_neg e, g_2_8 g, Option.bind_some, y8]
theorem op_log {f0 : Nat} {Y : YS} {X : XS} (h : Inv Y X) {v : Int} (rg_v : Rg v) (hf : 2000 ≤ f0) : ∃ r X1 X2, fX11_log f0 (Ad Y 11 0) (iI v) (hp Y X) = some (r, hp Y X1) ∧ fX12_log f0 (Ad Y 12 0) (iI v) (hp Y X1) = some (r, hp Y X2) ∧ Inv Y X2 := by
  have hI := h
  obtain ⟨gy, W, tp, re, fl, se, na, po, sh, sn, lo, im0, im1⟩ := h
  have g := gy.1
  by_cases hv : v = 0 ∨ v = 1
  · obtain ⟨n, hn⟩ : ∃ n, n = XF X 11 0 1 := ⟨_, rfl⟩
    have n0 : 0 ≤ n ∧ n ≤ 940 := by rw [hn]; exact tp.2.1
    obtain ⟨X0, hX0⟩ : ∃ X0, X0 = sF X 11 0 1 0 := ⟨_, rfl⟩
    obtain ⟨S, hS⟩ : ∃ S, S = XR X 61 0 := ⟨_, rfl⟩
    have W0 : WF X0 := by rw [hX0]; exact W_F W (by decide) (by decide)
    have x20 : XR X0 20 0 = XR X 20 0 := by rw [hX0]; rfl
    have kl0 : KL X0 S := by
      have kl := inv_KL hI
      rw [hX0, hS]; exact kl
    have t0 : TxF X X0 := by rw [hX0]; exact TxF_F TxF_refl (by decide)
    have hnc : ∀ s, isN s → ncS S s ≤ 8 := fun s hs => by rw [hS]; exact (inv_nc se s hs).1.2
    have tk : fX11_takeTape f0 (Ad Y 11 0) (hp Y X) = some (iI n, hp Y X0) := by
      rw [hX0, hn]
      simp (disch := first | assumption | omega) only [fX11_takeTape, g_11_1, p_11_1, li_0, Option.bind_some, iI_add]
    have c13 : fX11_log f0 (Ad Y 11 0) (iI v) (hp Y X) = bX11_log_13 f0 (Ad Y 11 0) (iI v) (hp Y X) := by
      unfold fX11_log
      rcases hv with q | q <;> rw [q]
      · rfl
      · rw [if_neg (by decide), if_pos (show iI 1 = (1 : Int32) from rfl)]
    obtain ⟨b, X3, e3, W3, tx3, y3, hh⟩ := j_lgr (f0 := f0) (Y := Y) (X := X0) (S := S) (n := n) (v := v) g W0 (fun i i0 i1 => by rw [x20]; exact (tp.1 i i0 i1).2) kl0 hnc n0.1 n0.2 hf
    have y30 : XF X3 11 0 1 = 0 := by rw [y3.1, hX0]; rfl
    have y32 : XF X3 12 0 2 = XF X 12 0 2 := by rw [y3.2, hX0]; rfl
    have t3 : TxF X X3 := TxF_trans t0 tx3
    have cl3 : bX11_log_13 f0 (Ad Y 11 0) (iI v) (hp Y X) = (if b = 0 then some (iI (-2 - XF X3 4 0 11), hp Y (sF X3 11 0 3 (XF X3 4 0 10))) else (fX10_copyFrom f0 (Ad Y 10 (XP X3 1)) (Ad Y 10 (XP X3 0)) (hp Y (sF X3 11 0 3 (XF X3 4 0 10)))).bind fun h59 => (gfN 11 10 h59 (Ad Y 11 0)).bind fun x63 => (gfN 11 12 h59 (Ad Y 11 0)).bind fun x67 => (ckO 2 h59 x63).bind fun _ => ob2 (fX2_live f0 x63 x67 h59) fun x70 h70 => (if iI v = 1 then (gfN 11 10 h70 (Ad Y 11 0)).bind fun x80 => (gfI 2 8 h70 x80).bind fun x83 => (if x83 ≤ 0 then bX11_log_93 f0 x70 h70 else (ckO 11 h70 (Ad Y 11 0)).bind fun _ => (fX11_keepTrial f0 (Ad Y 11 0) h70).bind fun h90 => bX11_log_93 f0 x70 h90) else bX11_log_93 f0 x70 h70)) := by
      have q11 : XF (sF X3 11 0 3 (XF X3 4 0 10)) 4 0 11 = XF X3 4 0 11 := rfl
      have p3 : XP (sF X3 11 0 3 (XF X3 4 0 10)) = XP X3 := rfl
      have p0 : XP X3 0 < 10 := by rw [t3.2.2.2.2.1]; exact sh.1 0 (by decide)
      have p1 : XP X3 1 < 10 := by rw [t3.2.2.2.2.1]; exact sh.1 1 (by decide)
      have gk1 := ShO_k g p1
      unfold bX11_log_13
      rw [g_11_10 g, Option.bind_some, k_11 g, tk, ob2_some, k_2 g, e3, ob2_some, g_11_2 g, Option.bind_some, g_4_10 g, Option.bind_some, p_11_3 g, Option.bind_some, g_11_2 g, Option.bind_some, g_4_11 g, Option.bind_some, q11, show (-2 : Int32) = iI (-2) from rfl, iI_sub, g_11_12 g, Option.bind_some, g_11_11 g, Option.bind_some, p3, k_10 gk1]
    rcases hh with ⟨b0, fa, kk⟩ | ⟨b1, z10, mm, kk⟩
    · obtain ⟨Xc, hXc⟩ : ∃ Xc, Xc = sF X3 11 0 3 (XF X3 4 0 10) := ⟨_, rfl⟩
      have f1 := fa.1; have f2 := fa.2
      have Wc : WF Xc := by rw [hXc]; exact W_F W3 (by omega) (by omega)
      have tc : TxF X Xc := by rw [hXc]; exact TxF_F t3 (by decide)
      have c2 : XF Xc 12 0 2 = XF X 12 0 2 := by rw [hXc]; exact y32
      have si := LgI_of hI Wc (tc.2.1 60 0 (by omega)) (tc.2.1 61 0 (by omega)) (tc.2.2.1 65 0 (by omega)) tc.2.2.2.1 c2
      rw [← hX0, ← hn, ← hS] at si
      obtain ⟨Z', l1, l2, l3, l4⟩ := kk (lgI Xc) si
      refine ⟨iI (-2 - XF X3 4 0 11), Xc, Z', by rw [c13, cl3, if_pos b0, hXc], by rw [r_logI g hv]; exact l1, Inv_tx hI l2 (TxF_trans (TxF_trans tc lgI_tx) l3.1) ⟨?_, ?_⟩ ?_⟩
      · rw [l3.2.1, hXc]; exact y30
      · rw [l3.2.2.2]; rfl
      · rw [l3.2.2.1, l4.1, hXc]; rfl
    · obtain ⟨X4, hX4⟩ : ∃ X4, X4 = sF X3 11 0 3 0 := ⟨_, rfl⟩
      have W4 : WF X4 := by rw [hX4]; exact W_F W3 (by decide) (by decide)
      have t4 : TxF X X4 := by rw [hX4]; exact TxF_F t3 (by decide)
      obtain ⟨k, hk⟩ : ∃ k, k = XP X 1 := ⟨_, rfl⟩
      have k10 : k < 10 := by rw [hk]; exact sh.1 1 (by decide)
      have p4 : XP X4 = XP X := t4.2.2.2.2.1
      have p3 : XP X3 = XP X := t3.2.2.2.2.1
      have sg4 : ∀ k', shG X4 k' = shG X k' := fun k' => by
        unfold shG
        rw [t4.2.1 43 k' (by omega), t4.2.1 44 k' (by omega), t4.2.1 45 k' (by omega), t4.2.1 46 k' (by omega)]
        have : XF X4 10 k' = XF X 10 k' := funext fun f => t4.1 10 k' f (by omega)
        rw [this]
      have ne : XP X 0 ≠ k := by rw [hk]; exact fun q => absurd (sh.2.1 0 1 (by decide) (by decide) q) (by decide)
      have h8 : S 0 ≤ 8 ∧ S 1 ≤ 8 := by rw [hS]; have a := se.1.1; have b := se.1.2.1; have e := se.2.1.1; omega
      obtain ⟨d0, hd0⟩ : ∃ d0, d0 = cpD (shG X4 k) (shG X4 (XP X 0)) := ⟨_, rfl⟩
      have cp : fX10_copyFrom f0 (Ad Y 10 k) (Ad Y 10 (XP X 0)) (hp Y X4) = some (hp Y (shS X4 k d0)) := by
        have := d_copyFrom (f0 := f0) (X := X4) (d := shG X4 k) (ShO_k g k10) (ShO_k g (sh.1 0 (by decide))) ne W4 (by rw [t4.1 10 _ 6 (by omega)]; exact sh.2.2.1 _)
        rw [sh_id] at this
        rw [hd0]; exact this
      have wd0 : WD d0 := by rw [hd0]; exact WD_cp (WD_G W4 _) (WD_G W4 _)
      have se4 : SeaI X4 0 S := by
        have q := se
        rw [hS]
        unfold SeaI CSea SeaR SeaW at *
        rw [t4.2.1 25 0 (by omega), t4.2.1 26 0 (by omega), t4.2.1 27 0 (by omega), t4.2.1 28 0 (by omega), t4.2.1 29 0 (by omega), t4.2.1 31 0 (by omega), t4.2.1 32 0 (by omega), t4.2.1 33 0 (by omega), t4.2.1 34 0 (by omega), t4.2.1 35 0 (by omega), t4.1 6 0 2 (by omega)]
        exact q
      have po4 : PostR X4 S := by
        have q := inv_PostR se po
        rw [hS]
        unfold PostR at *
        rw [t4.2.1 66 0 (by omega), t4.2.1 67 0 (by omega), t4.2.1 34 0 (by omega), t4.2.1 35 0 (by omega)]
        exact q
      have cd0 : CD X4 d0 := by
        rw [hd0]
        refine CD_seq (SEq_cp _ _) ?_
        rw [sg4, CD_n, t4.2.1 25 0 (by omega)]; exact sh.2.2.2.1.1
      have rl0 : RelS X4 d0 S := by
        rw [hd0]
        refine rel_seq h8 (SEq_cp _ _) ?_
        rw [sg4, Rel_q, t4.2.1 67 0 (by omega), hS]; exact sh.2.2.2.1.2
      obtain ⟨Xb, hXb⟩ : ∃ Xb, Xb = sF X4 2 0 6 1 := ⟨_, rfl⟩
      have seb : SeaI Xb 0 S := by rw [hXb]; exact se4
      have pob : PostR Xb S := by rw [hXb]; exact po4
      have cdb : CD Xb d0 := by rw [hXb]; exact cd0
      have rlb : RelS Xb d0 S := by rw [hXb]; exact rl0
      have bF : ∀ s k' f, ¬ s = 2 → XF Xb s k' f = XF X4 s k' f := fun s k' f q => by rw [hXb, XF_sF, if_neg (by omega)]
      have bR : ∀ s k', XR Xb s k' = XR X4 s k' := fun s k' => by rw [hXb]; rfl
      obtain ⟨Xa, hXa⟩ : ∃ Xa, Xa = sF (sF (sF (shS X4 k d0) 2 0 6 1) 2 0 7 0) 2 0 8 0 := ⟨_, rfl⟩
      have fa : LvF k Xb Xa := by
        have f0' : LvF k Xb (sF (shS X4 k d0) 2 0 6 1) := by
          have sh4 := LvF_sh (k := k) (X := X4) (d := d0)
          rw [hXb]
          refine ⟨fun s k' f q q' => ?_, sh4.2.1, rfl, rfl, rfl⟩
          rw [XF_sF, XF_sF]; split
          · rfl
          · exact sh4.1 s k' f q q'
        rw [hXa]; exact LvF_F (LvF_F f0' (by decide)) (by decide)
      have Wa : WF Xa := by rw [hXa]; exact W_F (W_F (W_F (W_sh W4 wd0) (by decide) (by decide)) (by decide) (by decide)) (by decide) (by decide)
      have ga : shG Xa k = d0 := by
        have : shG Xa k = shG (shS X4 k d0) k := by rw [hXa]; rfl
        rw [this, shG_sh, if_pos rfl]
      have ba : LvB Xa k S := LvB_lv fa Wa seb pob ga cdb rlb (fun _ _ => rfl)
      obtain ⟨m, hm⟩ : ∃ m, m = XF X3 2 0 5 := ⟨_, rfl⟩
      rw [← hm] at mm
      have xa5 : XF Xa 2 0 5 = m := by rw [fa.1 2 0 5 (by omega) (by omega), hXb, hX4, hm]; rfl
      have Ws : WS S := fun i => by rw [hS]; exact W.2 _ _ _
      have ra : ∀ s, s ≤ 42 → XR Xa s 0 = XR X3 s 0 := fun s q => by rw [fa.2.1 s 0 (by omega), hXb, hX4]; rfl
      have lc : ∀ j, 0 ≤ j → j < m → LnC S (XR Xa 40 0 j) (XR Xa 41 0 j) (XR Xa 42 0 j) := fun j j0 j1 => by
        have si := LgI_of hI W rfl rfl rfl (fun _ _ => rfl) rfl
        rw [← hX0, ← hn, ← hS] at si
        obtain ⟨Zg, _, _, _, _, lx⟩ := kk (lgI X) si
        rw [ra 40 (by decide), ra 41 (by decide), ra 42 (by decide)]
        exact LnR_C (lx j j0 (by omega))
      obtain ⟨X5, S5, a, i5, e5, f5, b5, Ws5, oS5, ⟨x57, x58⟩, ab, ib, iS, rf5⟩ := j_live (f0 := f0) (Y := Y) (k := k) (m := m) (v1 := v) g k10 mm.2 hf m.toNat f0 Xa S 0 (by omega) (by omega) (by decide) mm.1 xa5 (by rw [hXa]; rfl) (by rw [hXa]; rfl) ba Ws lc
      obtain ⟨d5, hd5⟩ : ∃ d5, d5 = shG X5 k := ⟨_, rfl⟩
      have wd5 : WD d5 := by rw [hd5]; exact WD_G b5.1 k
      have cd5 : CD X5 d5 := by rw [hd5]; exact b5.2.2.2.1
      have rl5 : RelS X5 d5 S5 := by rw [hd5]; exact b5.2.2.2.2
      have d51 : XF X5 10 k 1 = d5.1 1 := by rw [hd5]; rfl
      have d56 : XF X5 10 k 6 = d5.1 6 := by rw [hd5]; rfl
      have h6 : d5.1 6 = 0 ∨ d5.1 6 = 1 := cd5.2.2.2.1
      obtain ⟨X6, hX6⟩ : ∃ X6, X6 = sF (sF X5 2 0 9 (XF X5 10 k 1)) 2 0 10 (XF X5 10 k 6) := ⟨_, rfl⟩
      have f6 : LvF k Xb X6 := by rw [hX6]; exact LvF_F (LvF_F (LvF_trans fa f5) (by decide)) (by decide)
      have W6 : WF X6 := by rw [hX6]; exact W_F (W_F b5.1 (b5.1.1 _ _ _).1 (b5.1.1 _ _ _).2) (b5.1.1 _ _ _).1 (b5.1.1 _ _ _).2
      have x66 : XF X6 2 0 6 = 1 := by rw [f6.1 2 0 6 (by omega) (by omega), hXb]; rfl
      have x67 : XF X6 2 0 7 = a := by rw [hX6]; exact x57
      have x68 : XF X6 2 0 8 = i5 := by rw [hX6]; exact x58
      have x69 : XF X6 2 0 9 = S5 312 := by rw [hX6]; show XF X5 10 k 1 = _; rw [d51]; exact rl5.1.1
      have x6a : XF X6 2 0 10 = S5 317 := by rw [hX6]; show XF X5 10 k 6 = _; rw [d56]; exact rl5.1.2.2.2.1
      have h6S : S5 317 = 0 ∨ S5 317 = 1 := by rw [← rl5.1.2.2.2.1]; exact h6
      have p6 : XP X6 = XP X := by rw [f6.2.2.2.1, hXb]; exact p4
      have m6 : XM X6 = XM X := by rw [f6.2.2.2.2, hXb]; exact t4.2.2.2.2.2
      have f14 : XF X6 11 0 14 = XF X 11 0 14 := by rw [f6.1 11 0 14 (by omega) (by omega), bF 11 0 14 (by decide)]; exact t4.1 11 0 14 (by omega)
      have m14 := sh.2.2.2.2.1
      have lv : fX2_live f0 (Ad Y 2 0) (Ad Y 10 k) (hp Y (shS X4 k d0)) = some (iI (if a = 0 then -1 else i5), hp Y X6) := by
        have zz := z_2_6 (Y := Y) (X := shS X4 k d0) g (v := 1) (.inr rfl)
        have e6 := e_66 (f0 := f0) (Y := Y) (X := X5) g k10 b5.1 (by rw [d56]; exact h6) x57 x58 ab
        rw [← hX6] at e6
        unfold fX2_live
        rw [li_1, zz, Option.bind_some, li_0, p_2_7 g, Option.bind_some, p_2_8 g, Option.bind_some, ← hXa, e5]
        exact e6
      have gk := ShO_k g k10
      have k6 := k_keep (f0 := f0) (X := X6) g gy.2 (by rw [p6]; exact sh.1) (by rw [f14]; exact m14.2) (by omega)
      obtain ⟨w, hw⟩ : ∃ w, w = (if a = 0 then -1 else i5) := ⟨_, rfl⟩
      rw [← hw] at lv rf5
      have cl : fX11_log f0 (Ad Y 11 0) (iI v) (hp Y X) = some (iI w, hp Y (if v = 1 ∧ 0 < i5 then KT X6 else X6)) := by
        have g8 : gfI 2 8 (hp Y X6) (Ad Y 2 0) = some (iI i5) := by rw [g_2_8 g, x68]
        have bn : ¬ b = 0 := by rw [b1]; decide
        have pk : XP X4 1 = k := by rw [p4, hk]
        have psh : XP (shS X4 k d0) = XP X4 := rfl
        rw [c13, cl3, if_neg bn, z10, ← hX4, p3, ← hk, cp, Option.bind_some, g_11_10 g, Option.bind_some, g_11_12 g, Option.bind_some, psh, pk, k_2 g, lv, ob2_some]
        rcases hv with q | q
        · rw [q, if_neg (by decide), if_neg (by omega)]; rfl
        · rw [q, if_pos (show iI 1 = (1 : Int32) from rfl), g_11_10 g, Option.bind_some, g8, Option.bind_some, li_0]
          by_cases c : i5 ≤ 0
          · rw [if_pos (iLE c (by omega) (by omega) (by decide) (by decide)), if_neg (by omega)]; rfl
          · rw [if_neg (iNLE c (by omega) (by omega) (by decide) (by decide)), if_pos (by omega), k_11 g, k6, Option.bind_some]; rfl
      obtain ⟨Xc, hXc⟩ : ∃ Xc, Xc = (if v = 1 ∧ 0 < i5 then KT X6 else X6) := ⟨_, rfl⟩
      rw [← hXc] at cl
      have cF : ∀ s k' f, ¬ (s = 11 ∧ f = 14) → XF Xc s k' f = XF X6 s k' f := fun s k' f q => by
        rw [hXc]; split
        · unfold KT; rw [XF_sF, if_neg (by omega)]; rfl
        · rfl
      have cR : ∀ s k', XR Xc s k' = XR X6 s k' := fun s k' => by rw [hXc]; split <;> rfl
      have cJ : ∀ s k', XJ Xc s k' = XJ X6 s k' := fun s k' => by rw [hXc]; split <;> rfl
      have cM : XM Xc = XM X6 := by rw [hXc]; split <;> rfl
      have Wc : WF Xc := by
        rw [hXc]; split
        · exact W_kt W6 (by rw [f14]; exact m14.2)
        · exact W6
      have x6R : ∀ s k', ¬ (43 ≤ s ∧ s ≤ 46) → XR X6 s k' = XR X4 s k' := fun s k' q => by rw [f6.2.1 s k' (by omega), bR]
      have x6J : ∀ s k', XJ X6 s k' = XJ X4 s k' := fun s k' => by rw [f6.2.2.1, hXb]; rfl
      have x6F : ∀ s k' f, ¬ s = 2 → ¬ s = 10 → XF X6 s k' f = XF X4 s k' f := fun s k' f q q' => by rw [f6.1 s k' f (by omega) (by omega), bF s k' f q]
      have y42 : XF X4 12 0 2 = XF X 12 0 2 := by rw [hX4]; exact y32
      have y41 : XF X4 11 0 1 = 0 := by rw [hX4]; exact y30
      have y43 : XF X4 11 0 3 = 0 := by rw [hX4]; rfl
      have si := LgI_of hI Wc (by rw [cR, x6R 60 0 (by omega)]; exact t4.2.1 60 0 (by omega)) (by rw [cR, x6R 61 0 (by omega)]; exact t4.2.1 61 0 (by omega)) (by rw [cJ, x6J]; exact t4.2.2.1 65 0 (by omega)) (fun i i1 => by rw [cJ, x6J]; exact t4.2.2.2.1 i i1) (by rw [cF 12 0 2 (by omega), x6F 12 0 2 (by decide) (by decide)]; exact y42)
      rw [← hX0, ← hn, ← hS] at si
      obtain ⟨Z1, l1, l2, l3, l4, l5⟩ := kk (lgI Xc) si
      have tz : TxF Xc Z1 := TxF_trans lgI_tx l3.1.1
      have z1R : ∀ s k', ¬ ((k' = 1 ∧ 23 ≤ s ∧ s ≤ 38) ∨ (40 ≤ s ∧ s ≤ 46) ∨ s = 62 ∨ s = 63 ∨ s = 77) → XR Z1 s k' = XR X s k' := fun s k' q => by
        rw [tz.2.1 s k' (by omega), cR, x6R s k' (by omega)]; exact t4.2.1 s k' (by omega)
      have z61 : XR Z1 61 0 = S := by rw [z1R 61 0 (by omega), hS]
      obtain ⟨Z2, hZ2⟩ : ∃ Z2, Z2 = sR Z1 72 0 (put153 (XR Z1 72 0) 0 S 153) := ⟨_, rfl⟩
      obtain ⟨Z3, hZ3⟩ : ∃ Z3, Z3 = sR Z2 76 0 (z4 (XR Z2 76 0)) := ⟨_, rfl⟩
      have W2 : WF Z2 := by
        rw [hZ2]; refine W_R l2 fun i => ?_
        unfold put153; split
        · exact Ws _
        · exact l2.2 _ _ _
      have W3' : WF Z3 := by
        rw [hZ3]; refine W_R W2 fun i => ?_
        unfold z4
        (repeat (rw [upi_at]; split; exact ⟨by decide, by decide⟩))
        exact W2.2 _ _ _
      have rf0 : fX12_log f0 (Ad Y 12 0) (iI v) (hp Y Xc) = bX12_log_111 f0 f0 (Ad Y 12 0) (iI v) (iI (-1)) (iI 0) (hp Y (sR Z3 61 0 S)) := by
        have r8 := r_89 (f0 := f0) (Y := Y) (Z := Z2) (S := S) (v1 := iI v) g (f0 - 5)
        rw [show f0 - 5 + 5 = f0 by omega, ← hZ3] at r8
        have rt := r_tries (f0 := f0) (Y := Y) (X := Z1) (S := S) g Ws (by omega)
        rw [← hZ2] at rt
        rw [r_logI g hv, l1]
        unfold Lt
        rw [Z61 (Y := Y) z61, rt, Option.bind_some]
        exact r8
      have z3F : ∀ s k' f, XF Z3 s k' f = XF Z1 s k' f := fun s k' f => by rw [hZ3, hZ2]; rfl
      have z3R : ∀ s k', ¬ (s = 72 ∨ s = 76) → XR Z3 s k' = XR Z1 s k' := fun s k' q => by
        rw [hZ3, XR_sR, if_neg (by omega), hZ2, XR_sR, if_neg (by omega)]
      have z372 : XR Z3 72 0 = put153 (XR Z1 72 0) 0 S 153 := by rw [hZ3, XR_sR, if_neg (by omega), hZ2]; rfl
      obtain ⟨Z4, u1, vz, W4z, u76a, u76b⟩ := rf5 Z3 f0 (by omega) (by rw [z3F, hm]; exact l4) (by rw [hZ3]; rfl) (by rw [hZ3]; rfl) W3' (by rw [z3R 67 0 (by omega), z1R 67 0 (by omega), fa.2.1 67 0 (by omega), bR]; exact (t4.2.1 67 0 (by omega)).symm) (fun j j0 j1 => by
        rw [ra 40 (by decide), ra 41 (by decide), ra 42 (by decide), z3R 63 0 (by omega)]
        exact l5 j j0 (by omega))
      obtain ⟨E, hE⟩ : ∃ E, E = edZ Z4 S5 := ⟨_, rfl⟩
      have r19 := r_191 (f0 := f0) (Y := Y) (Z := Z4) (S := S5) (v := v) (w := iI w) g
      rw [← hE, u76b] at r19
      rw [u1, r19] at rf0
      have WE : WF E := by
        rw [hE]; unfold edZ
        refine W_F (W_R W4z fun i => ?_) (by decide) (by decide)
        rw [upi_at]; split
        · exact Ws5 _
        · rw [upi_at]; split
          · exact Ws5 _
          · exact W4z.2 _ _ _
      have e4F : ∀ s k' f, ¬ (s = 12 ∧ k' = 0 ∧ f = 38) → XF E s k' f = XF Z4 s k' f := fun s k' f q => by rw [hE]; unfold edZ; rw [XF_sF, if_neg q]; rfl
      have e4R : ∀ s k', ¬ (s = 76 ∧ k' = 0) → XR E s k' = XR Z4 s k' := fun s k' q => by rw [hE]; unfold edZ; rw [XR_sF, XR_sR, if_neg q]
      have eZF : ∀ s k' f, ¬ (s = 12 ∧ k' = 0 ∧ (f = 38 ∨ f = 26 ∨ f = 35)) → XF E s k' f = XF Z1 s k' f := fun s k' f q => by rw [e4F s k' f (by omega), vz.1 s k' f (by omega), z3F]
      have eF : ∀ s k' f, ¬ (s = 4 ∨ s = 7 ∨ s = 9 ∨ (k' = 1 ∧ (s = 3 ∨ s = 6 ∨ s = 8)) ∨ (s = 2 ∧ f = 5) ∨ (s = 11 ∧ (f = 1 ∨ f = 3)) ∨ s = 12) → XF E s k' f = XF Xc s k' f := fun s k' f q => by
        rw [eZF s k' f (by omega)]; exact tz.1 s k' f (by omega)
      have e38 : XF E 12 0 38 = 1 := by rw [hE]; rfl
      have e29 : XF E 12 0 29 = XF X 12 0 29 := by
        rw [eZF 12 0 29 (by omega), tz.1 12 0 29 (by omega), cF 12 0 29 (by omega), x6F 12 0 29 (by decide) (by decide)]; exact t4.1 12 0 29 (by omega)
      have eR : ∀ s k', ¬ ((k' = 1 ∧ 23 ≤ s ∧ s ≤ 38) ∨ (40 ≤ s ∧ s ≤ 42) ∨ s = 62 ∨ s = 63 ∨ s = 77 ∨ (68 ≤ s ∧ s ≤ 70) ∨ s = 72 ∨ s = 76) → XR E s k' = XR Xc s k' := fun s k' q => by
        rw [e4R s k' (by omega), vz.2.1 s k' (by omega), z3R s k' (by omega)]; exact tz.2.1 s k' (by omega)
      have eRX : ∀ s k', ¬ ((k' = 1 ∧ 23 ≤ s ∧ s ≤ 38) ∨ (40 ≤ s ∧ s ≤ 46) ∨ s = 62 ∨ s = 63 ∨ s = 77 ∨ (68 ≤ s ∧ s ≤ 70) ∨ s = 72 ∨ s = 76) → XR E s k' = XR X s k' := fun s k' q => by
        rw [eR s k' (by omega), cR, x6R s k' (by omega)]; exact t4.2.1 s k' (by omega)
      have e72 : ∀ i, 0 ≤ i → i < 153 → XR E 72 0 i = S (312 + i) := fun i i0 i1 => by
        rw [e4R 72 0 (by omega), vz.2.1 72 0 (by omega), z372]; unfold put153; rw [if_pos (by omega), show i - 0 = i by omega]
      have eJ : ∀ s k', XJ E s k' = XJ Z1 s k' := fun s k' => by
        have : XJ E = XJ Z4 := by rw [hE]; rfl
        rw [this, vz.2.2.1, hZ3, hZ2]; rfl
      have eP : XP E = XP Xc := by
        have : XP E = XP Z4 := by rw [hE]; rfl
        rw [this, vz.2.2.2.1, hZ3, hZ2]; exact tz.2.2.2.2.1
      have eM : XM E = XM X := by
        have : XM E = XM Z4 := by rw [hE]; rfl
        rw [this, vz.2.2.2.2, hZ3, hZ2]; show XM Z1 = _; rw [tz.2.2.2.2.2, cM]; exact m6
      have eS : ∀ k', shG E k' = if k' = k then d5 else shG X k' := fun k' => by
        have e1 : shG E k' = shG X6 k' := by
          unfold shG
          rw [eR 43 k' (by omega), eR 44 k' (by omega), eR 45 k' (by omega), eR 46 k' (by omega), cR, cR, cR, cR]
          have : XF E 10 k' = XF X6 10 k' := funext fun f => by rw [eF 10 k' f (by omega)]; exact cF 10 k' f (by omega)
          rw [this]
        rw [e1]
        by_cases q : k' = k
        · rw [if_pos q, q, hd5, hX6]; rfl
        · rw [if_neg q, ← sg4 k']
          unfold shG
          rw [f6.2.1 43 k' (by omega), f6.2.1 44 k' (by omega), f6.2.1 45 k' (by omega), f6.2.1 46 k' (by omega), bR, bR, bR, bR]
          have : XF X6 10 k' = XF X4 10 k' := funext fun f => by rw [f6.1 10 k' f (by omega) (by omega), bF 10 k' f (by decide)]
          rw [this]
      have lg : ∀ Zf, (∀ f, XF Zf 2 0 f = XF E 2 0 f) → XF Zf 12 0 38 = XF E 12 0 38 → XR Zf 76 0 = XR E 76 0 → LogI Zf := fun Zf q1 q2 q3 => by
        have g6 : XF Zf 2 0 6 = 1 := by rw [q1, eF 2 0 6 (by omega), cF 2 0 6 (by omega)]; exact x66
        have r76 : XR E 76 0 = upi (upi (XR Z4 76 0) 2 (S5 312)) 3 (S5 317) := by rw [hE]; rfl
        refine ⟨⟨by rw [g6, q2, e38], .inr g6⟩, fun _ => ⟨?_, ?_, ?_, ?_, ?_⟩⟩
        · rw [q1, q3, r76, upi_ne _ _ (by decide), upi_ne _ _ (by decide), u76a, eF 2 0 7 (by omega), cF 2 0 7 (by omega)]; exact x67
        · rw [q1, q3, r76, upi_ne _ _ (by decide), upi_ne _ _ (by decide), u76b, eF 2 0 8 (by omega), cF 2 0 8 (by omega)]; exact x68
        · rw [q1, q3, r76, upi_ne _ _ (by decide), upi_eq, eF 2 0 9 (by omega), cF 2 0 9 (by omega)]; exact x69
        · rw [q1, q3, r76, upi_eq, eF 2 0 10 (by omega), cF 2 0 10 (by omega)]; exact x6a
        · rw [q1, eF 2 0 10 (by omega), cF 2 0 10 (by omega), x6a]; exact h6S
      have fin : ∀ Zf S', WF Zf → (∀ s k' f, ¬ (s = 12 ∧ f = 29) → XF Zf s k' f = XF E s k' f) → (∀ s k', ¬ (s = 61 ∨ s = 71) → XR Zf s k' = XR E s k') → (∀ s k', XJ Zf s k' = XJ E s k') → XM Zf = XM E → XR Zf 61 0 = S' → (∀ j, (j < 312 ∨ 465 ≤ j) → S' j = S j) → ShpI Zf S' → Inv Y Zf := fun Zf S' Wf qF qR qJ qM q61 qS shp => by
        refine Inv_lg hI Wf (fun s k' f q => ?_) (fun k' q => ?_) (fun s k' q => ?_) (fun s k' q => ?_) (fun i i1 => ?_) (by rw [qM]; exact eM) ⟨?_, ?_⟩ ?_ q61 (fun j hj => by rw [qS j hj, hS]) shp (lg Zf (fun f => qF 2 0 f (by omega)) (qF 12 0 38 (by omega)) (qR 76 0 (by omega)))
        · rw [qF s k' f (by omega), eF s k' f (by omega), cF s k' f (by omega), x6F s k' f (by omega) (by omega)]; exact t4.1 s k' f (by omega)
        · have e1 : shG Zf k' = shG E k' := by
            unfold shG
            rw [qR 43 k' (by omega), qR 44 k' (by omega), qR 45 k' (by omega), qR 46 k' (by omega)]
            have : XF Zf 10 k' = XF E 10 k' := funext fun f => qF 10 k' f (by omega)
            rw [this]
          rw [e1, eS, if_neg (by omega)]
        · rw [qR s k' (by omega), eRX s k' (by omega)]
        · rw [qJ, eJ, tz.2.2.1 s k' q, cJ, x6J]; exact t4.2.2.1 s k' q
        · rw [qJ, eJ, tz.2.2.2.1 i i1, cJ, x6J]; exact t4.2.2.2.1 i i1
        · rw [qF 11 0 1 (by omega), eZF 11 0 1 (by omega), l3.1.2.1]; show XF Xc 11 0 1 = 0; rw [cF 11 0 1 (by omega), x6F 11 0 1 (by decide) (by decide)]; exact y41
        · rw [qF 12 0 2 (by omega), eZF 12 0 2 (by omega), l3.1.2.2.2]; rfl
        · rw [qF 11 0 3 (by omega), qF 12 0 15 (by omega), eZF 11 0 3 (by omega), eZF 12 0 15 (by omega), l3.1.2.2.1, l3.2]; show XF Xc 11 0 3 = 0; rw [cF 11 0 3 (by omega), x6F 11 0 3 (by decide) (by decide)]; exact y43
      have shS0 : ShpI X S := by rw [hS]; exact sh
      by_cases kp : v = 1 ∧ 0 < i5
      · obtain ⟨M, hM⟩ : ∃ M, M = XF X 12 0 29 := ⟨_, rfl⟩
        have M0 : 0 ≤ M ∧ M ≤ 8 := by rw [hM, ← m14.1]; exact m14.2
        have kM := kpM_rg M0
        have kM1 : 1 ≤ kpM M := by unfold kpM; split <;> omega
        rw [← hM] at e29
        have rk := r_keep (f0 := f0) (Y := Y) (X := E) (S := S5) g Ws5 (by rw [e29]; exact M0) hf
        rw [e29] at rk
        have W29 : WF (sF E 12 0 29 (kpM M)) := W_F WE (by omega) (by omega)
        have r24 := r_244 (f0 := f0) (Y := Y) (Z := sF E 12 0 29 (kpM M)) (S := S5) (u := kpU (XR E 71 0) S5 M) (M := kpM M) (v2 := iI w) g W29 rfl kM1 kM.2 hf
        have pu : put153 (kpU (XR E 71 0) S5 M) (153 * (kpM M - 1)) (fun x => XR (sF E 12 0 29 (kpM M)) 72 0 (x - 312)) 153 = kpU (XR E 71 0) S M := kpU_put M0.1 (fun i i0 i1 => by show XR E 72 0 (312 + i - 312) = _; rw [show 312 + i - 312 = i by omega]; exact e72 i i0 i1)
        rw [pu] at r24
        obtain ⟨Zf, hZf⟩ : ∃ Zf, Zf = sR (sR (sF E 12 0 29 (kpM M)) 71 0 (kpU (XR E 71 0) S M)) 61 0 S5 := ⟨_, rfl⟩
        rw [← hZf] at r24
        have e71 : XR E 71 0 = XR X 71 0 := eRX 71 0 (by omega)
        have pc : XP Xc = kpP (XP X) (XF X 11 0 14) := by rw [hXc, if_pos kp]; unfold KT; show kpP (XP X6) (XF X6 11 0 14) = _; rw [p6, f14]
        have c14 : XF Xc 11 0 14 = kpM (XF X 11 0 14) := by rw [hXc, if_pos kp]; unfold KT; show kpM (XF X6 11 0 14) = _; rw [f14]
        have zF : ∀ s k' f, ¬ (s = 12 ∧ f = 29) → XF Zf s k' f = XF E s k' f := fun s k' f q => by rw [hZf]; show XF (sF E 12 0 29 (kpM M)) s k' f = _; rw [XF_sF, if_neg (by omega)]
        have zR : ∀ s k', ¬ (s = 61 ∨ s = 71) → XR Zf s k' = XR E s k' := fun s k' q => by rw [hZf, XR_sR, if_neg (by omega), XR_sR, if_neg (by omega)]; rfl
        refine ⟨iI w, Xc, Zf, cl, ?_, fin Zf S5 ?_ zF zR (fun s k' => by rw [hZf]; rfl) (by rw [hZf]; rfl) (by rw [hZf]; rfl) oS5 ?_⟩
        · rw [rf0, kp.1, if_pos rfl, if_neg (iNLE (by omega) (by omega) (by omega) (by decide) (by decide)), rk, Option.bind_some]
          exact r24
        · rw [hZf]
          exact W_R (W_R W29 (kpU_rg (fun i => WE.2 _ _ _) Ws)) Ws5
        · refine ShpI_done (d := d5) shS0 (by rw [hZf]; show XP E = _; rw [eP]; exact pc) (by rw [zF 11 0 14 (by omega), eF 11 0 14 (by omega)]; exact c14) (by rw [hZf, ← hM]; rfl) (by rw [hZf, ← hM, ← e71]; rfl) (by rw [zR 25 0 (by omega)]; exact eRX 25 0 (by omega)) (by rw [zR 67 0 (by omega)]; exact eRX 67 0 (by omega)) (fun k' => ?_) oS5 ?_ ?_
          · rw [← hk, ← eS k']
            unfold shG
            rw [zR 43 k' (by omega), zR 44 k' (by omega), zR 45 k' (by omega), zR 46 k' (by omega)]
            have : XF Zf 10 k' = XF E 10 k' := funext fun f => zF 10 k' f (by omega)
            rw [this]
          · have q := cd5
            rw [CD_n, f5.2.1 25 0 (by omega), fa.2.1 25 0 (by omega), bR, t4.2.1 25 0 (by omega)] at q
            rw [CD_n]; exact q
          · have q := rl5
            rw [Rel_q, f5.2.1 67 0 (by omega), fa.2.1 67 0 (by omega), bR, t4.2.1 67 0 (by omega)] at q
            rw [Rel_q]; exact q
      · obtain ⟨Zf, hZf⟩ : ∃ Zf, Zf = sR E 61 0 S := ⟨_, rfl⟩
        have xc6 : Xc = X6 := by rw [hXc, if_neg kp]
        have zF : ∀ s k' f, XF Zf s k' f = XF E s k' f := fun s k' f => by rw [hZf]; rfl
        have zR : ∀ s k', ¬ s = 61 → XR Zf s k' = XR E s k' := fun s k' q => by rw [hZf, XR_sR, if_neg (by omega)]
        have bk : blk S5 (XR E 72 0) 0 = S := funext fun j => by
          unfold blk; split
          · rename_i q
            rw [show 0 + (j - 312) = j - 312 by omega, e72 _ (by omega) (by omega), show 312 + (j - 312) = j by omega]
          · exact oS5 j (by omega)
        have rb := r_back (f0 := f0) (Y := Y) (X := E) (S := S5) g WE Ws5 (by omega)
        rw [bk, ← hZf] at rb
        refine ⟨iI w, Xc, Zf, cl, ?_, fin Zf S ?_ (fun s k' f _ => zF s k' f) (fun s k' q => zR s k' (by omega)) (fun s k' => by rw [hZf]; rfl) (by rw [hZf]; rfl) (by rw [hZf]; rfl) (fun _ _ => rfl) ?_⟩
        · rw [rf0]
          rcases hv with q | q
          · rw [q, if_neg (by decide)]
            unfold bX12_log_280 bX12_log_288
            rw [if_pos (show iI 0 = (0 : Int32) from rfl), k_12 g, rb, Option.bind_some]
          · have i0 : i5 = 0 := by omega
            have s5 : S5 = S := iS i0
            rw [q, if_pos rfl, i0, if_pos (by decide), s5, ← hZf]
            unfold bX12_log_280 bX12_log_288
            rw [if_neg (by decide)]
        · rw [hZf]; exact W_R WE Ws
        · refine ShpI_not (d := d5) shS0 (by rw [hZf]; show XP E = _; rw [eP, xc6]; exact p6) (by rw [zF, eF 11 0 14 (by omega), xc6]; exact f14) (by rw [zF]; exact e29) (by rw [zR 71 0 (by omega)]; exact eRX 71 0 (by omega)) (by rw [zR 25 0 (by omega)]; exact eRX 25 0 (by omega)) (by rw [zR 67 0 (by omega)]; exact eRX 67 0 (by omega)) (fun k' => ?_) h6
          rw [← hk, ← eS k']
          unfold shG
          rw [zR 43 k' (by omega), zR 44 k' (by omega), zR 45 k' (by omega), zR 46 k' (by omega)]
          have : XF Zf 10 k' = XF E 10 k' := funext fun f => zF 10 k' f
          rw [this]
  · have r0 : Rg (0 : Int) := ⟨by decide, by decide⟩
    have r1 : Rg (1 : Int) := ⟨by decide, by decide⟩
    have nv : ¬ (0 ≤ v ∧ v ≤ 1) := by omega
    have n0 : ¬ v = 0 := by omega
    have n1 : ¬ v = 1 := by omega
    have v1 := rg_v.1; have v2 := rg_v.2
    refine ⟨iI (-1000), X, sF X 12 0 0 0, ?_, ?_, Inv_th hI r0⟩
    · unfold fX11_log
      rw [li_0, if_neg (iNE n0 v1 v2 (by decide) (by decide)), li_1, if_neg (iNE n1 v1 v2 (by decide) (by decide))]
      rfl
    · unfold fX12_log
      rw [li_0, p_12_0 g, Option.bind_some, li_1, r_isIn9 rg_v r0 r1, ob2_some, if_pos (by rw [bI_F nv]; rfl)]
      rfl
