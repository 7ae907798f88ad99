/-! sea, AS A CALL -/
theorem TxF_19 {Z Z' : XS} (h : TxF (sF Z 12 0 19 0) (sF Z' 12 0 19 0)) : TxF Z Z' := by
  refine ⟨fun s k f q => ?_, h.2.1, h.2.2.1, h.2.2.2⟩
  have := h.1 s k f q
  rw [XF_sF, if_neg (by omega), XF_sF, if_neg (by omega)] at this
  exact this
theorem stD_c {X X' : XS} (h25 : XR X' 25 0 = XR X 25 0) (h28 : XR X' 28 0 = XR X 28 0) (h31 : XR X' 31 0 = XR X 31 0) (h35 : XR X' 35 0 = XR X 35 0) (d : D5) : stD X' d = stD X d := by
  have tl : ∀ d p s, tellD X' d p s = tellD X d p s := fun d p s => by unfold tellD tlR; rw [h25, h35]
  have sp : ∀ s n d, st_p X' s n d = st_p X s n d := fun s n d => by
    induction n with
    | zero => rfl
    | succ n ih => rw [st_p, st_p, ih, tl, h28]
  have ss : ∀ m d, st_s X' m d = st_s X m d := fun m d => by
    induction m with
    | zero => rfl
    | succ m ih => rw [st_s, st_s, ih, sp, h25]
  have s0 : st_0 X' d = st_0 X d := by unfold st_0 forHer; rw [h25, h31]
  unfold stD
  rw [ss, s0, h25]
theorem r_seaN {f0 : Nat} {Y : YS} {X Xo Xc : XS} {n : Int} (g : GY Y) (Wc : WF Xc) (rz : RsR Xc) (h2 : XF Xc 12 0 2 = n) (h0 : 0 ≤ n ∧ n ≤ 940) (tt : ∀ i, 0 ≤ i → i < 940 → XR X 20 0 i = XR Xc 60 0 i) (ko : ∀ Z, WF Z → (∀ i, 0 ≤ i → i < 940 → XR X 20 0 i = XR Z 60 0 i) → XF Z 12 0 3 = n → XF Z 12 0 4 = 0 → XF Z 12 0 5 = 900 → ∃ Z', fX12_next f0 (Ad Y 12 0) (hp Y Z) = some (hp Y Z') ∧ NxF Z Z' ∧ WF Z' ∧ TokR Xo Z') (hf : 2000 ≤ f0) : ∃ Zn, fX12_sea f0 (Ad Y 12 0) (hp Y Xc) = bX12_sea_53 f0 f0 (Ad Y 12 0) (hp Y Zn) ∧ LR (sF (clX Xo) 7 0 2 0) Zn ∧ XF Zn 12 0 19 = 0 ∧ TxF Xc Zn ∧ (∀ s k f, s ≠ 12 → XF Zn s k f = XF Xc s k f) ∧ (∀ s k, s ≠ 62 → XR Zn s k = XR Xc s k) ∧ (∀ s k, s ≠ 12 → XJ Zn s k = XJ Xc s k) ∧ XF Zn 12 0 2 = 0 ∧ XP Zn = XP Xc ∧ XM Zn = XM Xc := by
  obtain ⟨Zi, hZi⟩ : ∃ Zi, Zi = sF (sF (rfI Xc 900) 12 0 19 0) 12 0 20 0 := ⟨_, rfl⟩
  obtain ⟨Zh, hZh⟩ : ∃ Zh, Zh = sR Zi 62 0 (flr 0 (XR Zi 62 0) 312) := ⟨_, rfl⟩
  have Wi : WF Zi := by
    rw [hZi]; unfold rfI; rw [h2]
    exact W_F (W_F (W_F (W_F (W_F (W_F (W_F (W_F Wc (by decide) (by decide)) (by omega) (by omega)) (by decide) (by decide)) (by decide) (by decide)) (by decide) (by decide)) (by decide) (by decide)) (by decide) (by decide)) (by decide) (by decide)
  have Wh : WF Zh := by rw [hZh]; exact W_R Wi (flr_W fun i => Wi.2 _ _ _)
  obtain ⟨Zn, z1, nx, Wn, tr⟩ := ko Zh Wh (by rw [hZh, hZi]; exact tt) (by rw [hZh, hZi]; exact h2) (by rw [hZh, hZi]; rfl) (by rw [hZh, hZi]; rfl)
  have t1 : TxF Xc Zh := by rw [hZh, hZi]; exact TxF_Rr (TxF_F (TxF_F rfI_tx (by decide)) (by decide)) (by decide)
  refine ⟨Zn, ?_, cl_R Wn tr (fun i hi => ?_) (fun i i0 i1 => ?_) ?_ ?_, ?_, TxF_trans t1 (TxF_R (FrR_nx nx)), fun s k f q => ?_, fun s k q => ?_, fun s k q => ?_, ?_, ?_, ?_⟩
  · rw [r_seaI g hf, ← hZi, r_h0 g hf, ← hZh, z1]; rfl
  · rw [nx.2.2.1 65 0 (by omega), hZh, hZi]; exact rz i hi
  · rw [nx.2.1, hZh]; exact flr_in i0 i1
  · rw [nx.1 12 0 20 (by omega), hZh, hZi]; rfl
  · rw [nx.1 12 0 15 (by omega), hZh, hZi]; rfl
  · rw [nx.1 12 0 19 (by omega), hZh, hZi]; rfl
  · rw [nx.1 s k f (by omega), hZh, hZi]
    unfold rfI
    rw [XF_sR, XF_sF, if_neg (by omega), XF_sF, if_neg (by omega), XF_sF, if_neg (by omega), XF_sF, if_neg (by omega), XF_sF, if_neg (by omega), XF_sF, if_neg (by omega), XF_sF, if_neg (by omega), XF_sF, if_neg (by omega)]
  · rw [nx.2.1, hZh, XR_sR, if_neg (fun z => q z.1), hZi]; rfl
  · rw [nx.2.2.1 s k (by omega), hZh, hZi]; rfl
  · rw [nx.1 12 0 2 (by omega), hZh, hZi]; rfl
  · rw [nx.2.2.2.1, hZh, hZi]; rfl
  · rw [nx.2.2.2.2, hZh, hZi]; rfl
theorem cpS_lo {H S : Int → Int} {j : Int} (h0 : 0 ≤ j) (h1 : j < 312) : cpS H S 646 j = H j := by unfold cpS; rw [if_pos (by omega), if_pos h1]
theorem cpS_hi {H S : Int → Int} {j : Int} (h0 : 312 ≤ j) (h1 : j < 646) : cpS H S 646 j = 0 := by unfold cpS; rw [if_pos (by omega), if_neg (by omega)]
theorem bg_at1 {S : Int → Int} {j : Int} (h0 : 312 ≤ j) (h1 : j < 646) (n1 : j ≠ 315) (n2 : j ≠ 318) (n3 : j ≠ 464) (n4 : ¬ (328 ≤ j ∧ j < 400)) : bgS S j = S j := by
  unfold bgS b3S b2S b1S
  rw [if_neg (by omega), if_neg (by omega), upi_at, if_neg n3, upi_at, if_neg n2, upi_at, if_neg n1]
theorem bg_st {H S : Int → Int} : st0R (bgS (cpS H S 646)) ∧ fS (bgS (cpS H S 646)) 8 0 = bgS (cpS H S 646) ∧ bgS (cpS H S 646) 465 = 0 := by
  obtain ⟨T, hT⟩ : ∃ T, T = cpS H S 646 := ⟨_, rfl⟩
  have hz : ∀ j, 312 ≤ j → j < 646 → T j = 0 := fun j h0 h1 => by rw [hT]; exact cpS_hi h0 h1
  rw [← hT]
  have se : isSe (bgS T) = isSe T := by unfold isSe; rw [bg_lo (by decide), bg_lo (by decide)]
  have zz : ∀ j, 312 ≤ j → j < 646 → j ≠ 315 → j ≠ 318 → j ≠ 464 → ¬ (328 ≤ j ∧ j < 400) → bgS T j = 0 := fun j h0 h1 n1 n2 n3 n4 => by rw [bg_at1 h0 h1 n1 n2 n3 n4]; exact hz j h0 h1
  have a315 : bgS T 315 = -1 := by
    unfold bgS b3S b2S b1S; rw [if_neg (by omega), if_neg (by omega), upi_at, if_neg (by omega), upi_at, if_neg (by omega), upi_eq]
  have a318 : bgS T 318 = if isSe T then 1 else 0 := by
    unfold bgS b3S b2S b1S; rw [if_neg (by omega), if_neg (by omega), upi_at, if_neg (by omega), upi_eq]
  have a464 : bgS T 464 = if isSe T then 1 else 0 := by
    unfold bgS b3S b2S b1S; rw [if_neg (by omega), if_neg (by omega), upi_eq]
  have b1l : ∀ j v, j < 312 → b1S T v j = T j := fun j v hj => by unfold b1S; rw [upi_at, if_neg (by omega), upi_at, if_neg (by omega), upi_at, if_neg (by omega)]
  have a328 : ∀ i, 0 ≤ i → i < 8 → bgS T (328 + i) = T (272 + i) := fun i i0 i1 => by
    unfold bgS b3S; rw [if_neg (by omega)]
    unfold b2S; rw [if_pos (by omega), b1l _ _ (by omega), show 328 + i - 56 = 272 + i by omega]
  refine ⟨⟨zz 312 (by decide) (by decide) (by decide) (by decide) (by decide) (by decide), zz 313 (by decide) (by decide) (by decide) (by decide) (by decide) (by decide), zz 314 (by decide) (by decide) (by decide) (by decide) (by decide) (by decide), a315, zz 316 (by decide) (by decide) (by decide) (by decide) (by decide) (by decide), zz 317 (by decide) (by decide) (by decide) (by decide) (by decide) (by decide), ?_, zz 319 (by decide) (by decide) (by decide) (by decide) (by decide) (by decide), fun i i0 i1 => ⟨zz (320 + i) (by omega) (by omega) (by omega) (by omega) (by omega) (by omega), ?_⟩, fun i i0 i1 => zz (400 + i) (by omega) (by omega) (by omega) (by omega) (by omega) (by omega), ?_⟩, ?_, zz 465 (by decide) (by decide) (by decide) (by decide) (by decide) (by decide)⟩
  · rw [a318]; simp only [se]
  · rw [a328 i i0 i1, bg_lo (by omega)]
  · rw [a464]; simp only [se]
  · refine fS_ext (S := T) (fun j hj => fS_o hj) (fun a b a0 a8 b0 b8 => ?_)
    rw [fS_at a0 a8 b0 b8, bg_lo (by omega)]
    unfold bgS b3S
    rw [if_pos (show 336 ≤ 336 + (8 * a + b) ∧ 336 + (8 * a + b) < 336 + 64 by omega)]
    have e : b2S (b1S T (if isSe T then 1 else 0)) 8 (336 + (8 * a + b) - 200) = T (136 + (8 * a + b)) := by
      unfold b2S; rw [if_neg (by omega), b1l _ _ (by omega), show 336 + (8 * a + b) - 200 = 136 + (8 * a + b) by omega]
    rw [e]
    by_cases k : 0 < T (136 + (8 * a + b))
    · rw [if_pos k, if_pos ⟨.inl a8, k⟩]
    · rw [if_neg k, if_neg (fun z => k z.2)]
theorem sh_k0 {X : XS} {k : Nat} {d : D5} {t k' : Nat} (h : t < 43) : XR (shS X k d) t k' = XR X t k' := by
  unfold shS XR
  show (if k' = k then (if t = 43 then d.2.1 else if t = 44 then d.2.2.1 else if t = 45 then d.2.2.2.1 else if t = 46 then d.2.2.2.2 else X.2.1 t k') else X.2.1 t k') = X.2.1 t k'
  split
  · rw [if_neg (by omega), if_neg (by omega), if_neg (by omega), if_neg (by omega)]
  · rfl
theorem sh_k9 {X : XS} {k : Nat} {d : D5} {t k' : Nat} (h : 46 < t) : XR (shS X k d) t k' = XR X t k' := by
  unfold shS XR
  show (if k' = k then (if t = 43 then d.2.1 else if t = 44 then d.2.2.1 else if t = 45 then d.2.2.2.1 else if t = 46 then d.2.2.2.2 else X.2.1 t k') else X.2.1 t k') = X.2.1 t k'
  split
  · rw [if_neg (by omega), if_neg (by omega), if_neg (by omega), if_neg (by omega)]
  · rfl
theorem sh_f {X : XS} {k : Nat} {d : D5} {t k' f : Nat} (h : t ≠ 10) : XF (shS X k d) t k' f = XF X t k' f := by
  unfold shS XF
  show (if t = 10 ∧ k' = k then d.1 f else X.1 t k' f) = X.1 t k' f
  rw [if_neg (fun z => h z.1)]
