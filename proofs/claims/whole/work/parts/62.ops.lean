/-! HER ACTS, AS CALLS -/
def KT (X : XS) : XS := sF (setP X (kpP (XP X) (XF X 11 0 14))) 11 0 14 (kpM (XF X 11 0 14))
theorem kpM_rg {m : Int} (h : 0 ≤ m ∧ m ≤ 8) : 0 ≤ kpM m ∧ kpM m ≤ 8 := by unfold kpM; split <;> omega
theorem kpU_rg {u S : Int → Int} {m : Int} (hu : RgF u) (hS : RgF S) : RgF (kpU u S m) := fun j => by
  unfold kpU
  split
  · unfold put153 shf
    (repeat' split) <;> first | exact hS _ | exact hu _
  · unfold put153
    (repeat' split) <;> first | exact hS _ | exact hu _
theorem W_kt {X : XS} (W : WF X) (h : 0 ≤ XF X 11 0 14 ∧ XF X 11 0 14 ≤ 8) : WF (KT X) := by
  have := kpM_rg h
  exact W_F (X := setP X (kpP (XP X) (XF X 11 0 14))) W (by omega) (by omega)
theorem shG_sh {X : XS} {k : Nat} {d : D5} (k' : Nat) : shG (shS X k d) k' = if k' = k then d else shG X k' := by
  by_cases c : k' = k
  · subst c; rw [if_pos rfl]
    unfold shG
    refine Prod.ext (funext fun f => XF_shk X k' d f) (Prod.ext ?_ (Prod.ext ?_ (Prod.ext ?_ ?_)))
    · exact XR_sh43 ..
    · exact XR_sh44 ..
    · exact XR_sh45 ..
    · exact XR_sh46 ..
  · rw [if_neg c]
    unfold shG
    refine Prod.ext (funext fun f => XF_shn X k d 10 c f) (Prod.ext ?_ (Prod.ext ?_ (Prod.ext ?_ ?_))) <;> exact XR_shn X k d _ c
theorem rel_seq {X : XS} {d e : D5} {S : Int → Int} (h0 : S 0 ≤ 8 ∧ S 1 ≤ 8) (h : SEq d e) (he : RelS X e S) : RelS X d S := by
  obtain ⟨h1, h2, h3, h4, h5⟩ := h
  obtain ⟨⟨a1, a2, a3, a4, a5, a6⟩, b, b', c, k, r, t, u⟩ := he
  refine ⟨⟨?_, ?_, ?_, ?_, ?_, ?_⟩, fun q => ?_, fun q => ?_, fun i i0 i8 => ?_, fun p s p0 p1 s0 s1 => ?_, r, fun s p s0 s8 p0 p8 => ?_, u⟩
  · rw [h1 1 (by omega) (by omega)]; exact a1
  · rw [h1 4 (by omega) (by omega)]; exact a2
  · rw [h1 5 (by omega) (by omega)]; exact a3
  · rw [h1 6 (by omega) (by omega)]; exact a4
  · rw [h1 7 (by omega) (by omega)]; exact a5
  · rw [h1 8 (by omega) (by omega)]; exact a6
  · rw [h1 2 (by omega) (by omega), h1 3 (by omega) (by omega)]; exact b q
  · rw [h1 2 (by omega) (by omega), h1 3 (by omega) (by omega)]; exact b' q
  · rw [h2 i i0 i8, h4 i i0 i8]; exact c i i0 i8
  · rw [h5 _ (by omega) (by omega)]; exact k p s p0 p1 s0 s1
  · rw [h3 s s0 s8]; exact t s p s0 s8 p0 p8
theorem k_done {f0 : Nat} {Y : YS} {X : XS} (g : GY Y) (u : U11 Y) (hp1 : ∀ i, i < 10 → XP X i < 10) (hm : 0 ≤ XF X 11 0 14 ∧ XF X 11 0 14 ≤ 8) {r : Int} (h0 : 0 ≤ r) (h1 : r ≤ 1000) (hf : 20 ≤ f0) : fX11_keepIfDone f0 (Ad Y 11 0) (iI r) (hp Y X) = some (iI r, hp Y (if r = 0 then KT X else X)) := by
  by_cases c : r = 0
  · rw [if_pos c]
    simp (disch := first | assumption | omega) only [fX11_keepIfDone, bX11_keepIfDone_8, k_11, li_0, Option.bind_some, iI_add, iI_eq, if_pos c, k_keep g u hp1 hm hf]
    rfl
  · rw [if_neg c]
    simp (disch := first | assumption | omega) only [fX11_keepIfDone, bX11_keepIfDone_8, k_11, li_0, Option.bind_some, iI_add, iI_eq, if_neg c]
theorem Inv_th {Y : YS} {X : XS} {v : Int} (h : Inv Y X) (hv : Rg v) : Inv Y (sF X 12 0 0 v) := ⟨h.1, W_F h.2.1 hv.1 hv.2, h.2.2⟩
/-- what else stays -/
def Cg (X X2 : XS) : Prop := (XJ X2 = XJ X ∧ XM X2 = XM X) ∧ (∀ s k f, s ≠ 10 → s ≠ 12 → ¬ (s = 11 ∧ f = 14) → XF X2 s k f = XF X s k f) ∧ (∀ f, f = 2 ∨ f = 15 ∨ f = 38 → XF X2 12 0 f = XF X 12 0 f) ∧ (∀ s k, s < 43 ∨ s = 60 ∨ s = 66 ∨ s = 67 ∨ s = 76 ∨ s = 79 ∨ s = 81 → XR X2 s k = XR X s k) ∧ ∀ k, 10 ≤ k → shG X2 k = shG X k
theorem SeaI_cg {X X2 : XS} (d : ∀ s k, s < 43 ∨ s = 60 ∨ s = 66 ∨ s = 67 ∨ s = 76 ∨ s = 79 ∨ s = 81 → XR X2 s k = XR X s k) (b : ∀ s k f, s ≠ 10 → s ≠ 12 → ¬ (s = 11 ∧ f = 14) → XF X2 s k f = XF X s k f) {j : Nat} {S : Int → Int} (h : SeaI X j S) : SeaI X2 j S := by
  unfold SeaI CSea SeaR SeaW at *
  rw [d 25 j (by omega), d 26 j (by omega), d 27 j (by omega), d 28 j (by omega), d 29 j (by omega), d 31 j (by omega), d 32 j (by omega), d 33 j (by omega), d 34 j (by omega), d 35 j (by omega), b 6 j 2 (by omega) (by omega) (by omega)]
  exact h
theorem Inv_cg {Y : YS} {X X2 : XS} {S' : Int → Int} (h : Inv Y X) (c : Cg X X2) (hS : XR X2 61 0 = S') (ho : ∀ j, (j < 312 ∨ 465 ≤ j) → S' j = XR X 61 0 j) (hs : ShpI X2 S') (W2 : WF X2) : Inv Y X2 := by
  obtain ⟨⟨g, u⟩, W, t, re, fl, se, na, po, sh, sn, lo, i0, i1⟩ := h
  obtain ⟨⟨cj, cm⟩, b, e, d, gs⟩ := c
  have o3 : ∀ j, 0 ≤ j → j < 312 → S' j = XR X 61 0 j := fun j _ h => ho j (.inl h)
  have img : ∀ k, ImgI Y X k → ImgI Y X2 k := fun k hk => by
    have e79 : kpS X2 k = kpS X k := by unfold kpS; rw [d 79 0 (by omega)]
    have e80 : kpN X2 k = kpN X k := by unfold kpN; rw [cj]
    obtain ⟨a1, a2⟩ := hk
    refine ⟨by rw [d 81 0 (by omega), cm]; exact a1, fun q => ?_⟩
    rw [cm] at q
    obtain ⟨b1, b2, b3, b4, b5, b6⟩ := a2 q
    refine ⟨b1, ?_, ?_, ?_, ?_, ?_⟩
    · rw [e79]; exact SeaI_cg d b b2
    · rw [e79, e80]; unfold NamX; rw [cj, d 23 _ (by omega), d 24 _ (by omega), b 3 _ _ (by omega) (by omega) (by omega)]; exact b3
    · rw [e79]; unfold SntX; rw [d 36 _ (by omega), d 37 _ (by omega), d 38 _ (by omega), b 8 _ _ (by omega) (by omega) (by omega)]; exact b4
    · rw [d 25 _ (by omega), gs _ (by omega)]; exact b5
    · rw [e79, gs _ (by omega)]; exact b6
  refine ⟨⟨g, u⟩, W2, ?_, ?_, ?_, ?_, ?_, ?_, ?_, ?_, ?_, img 0 i0, img 1 i1⟩
  · unfold TapI at *
    rw [d 20 0 (by omega), d 60 0 (by omega), b 11 0 1 (by omega) (by omega) (by omega), e 2 (by omega)]; exact t
  · unfold ResI at *; rw [cj]; exact re
  · rw [b 11 0 3 (by omega) (by omega) (by omega), e 15 (by omega)]; exact fl
  · rw [hS]; exact SeaI_S o3 (SeaI_cg d b se)
  · rw [hS]; unfold NamX; rw [cj, d 23 _ (by omega), d 24 _ (by omega), b 3 _ _ (by omega) (by omega) (by omega)]; exact NamI_S o3 na
  · rw [hS]; intro i i0 i6
    rw [d 66 0 (by omega), d 67 0 (by omega), (post_c o3 i0 i6).1, (post_c o3 i0 i6).2]; exact po i i0 i6
  · rw [hS]; exact hs
  · rw [hS]; unfold SntX; rw [d 36 _ (by omega), d 37 _ (by omega), d 38 _ (by omega), b 8 _ _ (by omega) (by omega) (by omega)]; exact SntI_S (fun j _ hj => ho j hj) sn
  · unfold LogI at *
    rw [d 76 0 (by omega), b 2 0 6 (by omega) (by omega) (by omega), b 2 0 7 (by omega) (by omega) (by omega), b 2 0 8 (by omega) (by omega) (by omega), b 2 0 9 (by omega) (by omega) (by omega), b 2 0 10 (by omega) (by omega) (by omega), e 38 (by omega)]; exact lo
theorem Cg_tr {X Y Z : XS} (h : Cg X Y) (h2 : Cg Y Z) : Cg X Z :=
  ⟨⟨h2.1.1.trans h.1.1, h2.1.2.trans h.1.2⟩, fun s k f a b c => (h2.2.1 s k f a b c).trans (h.2.1 s k f a b c), fun f a => (h2.2.2.1 f a).trans (h.2.2.1 f a), fun s k a => (h2.2.2.2.1 s k a).trans (h.2.2.2.1 s k a), fun k a => (h2.2.2.2.2 k a).trans (h.2.2.2.2 k a)⟩
theorem Cg_sh {X : XS} {k : Nat} {d : D5} (hk : k < 10) : Cg X (shS X k d) := by
  refine ⟨⟨rfl, rfl⟩, fun s k' f a b c => ?_, fun f a => ?_, fun s k' a => ?_, fun k' a => ?_⟩
  · rw [XF_sh, if_neg (fun q => a q.1)]
  · rw [XF_sh, if_neg (fun q => absurd q.1 (by decide))]
  · rw [XR_sh]
    split
    · rw [if_neg (by omega), if_neg (by omega), if_neg (by omega), if_neg (by omega)]
    · rfl
  · rw [shG_sh, if_neg (by omega)]
theorem Cg_F {X : XS} {f : Nat} {v : Int} (h : f ≠ 2 ∧ f ≠ 15 ∧ f ≠ 38) : Cg X (sF X 12 0 f v) := by
  refine ⟨⟨rfl, rfl⟩, fun s k' f' a b c => ?_, fun f' a => ?_, fun s k' a => rfl, fun k' a => rfl⟩
  · rw [XF_sF, if_neg (fun q => b q.1)]
  · rw [XF_sF, if_neg (fun q => by have := q.2.2; omega)]
theorem Cg_R {X : XS} {s : Nat} {r : Int → Int} (h : ¬ (s < 47 ∨ s = 60 ∨ s = 66 ∨ s = 67 ∨ s = 76 ∨ s = 79 ∨ s = 81)) : Cg X (sR X s 0 r) := by
  refine ⟨⟨rfl, rfl⟩, fun s k' f' a b c => rfl, fun f' a => rfl, fun s' k' a => ?_, fun k' a => ?_⟩
  · rw [XR_sR, if_neg (fun q => by have := q.1; omega)]
  · unfold shG
    rw [XR_sR, XR_sR, XR_sR, XR_sR, if_neg (fun q => by have := q.1; omega), if_neg (fun q => by have := q.1; omega), if_neg (fun q => by have := q.1; omega), if_neg (fun q => by have := q.1; omega)]; rfl
theorem Cg_P {X : XS} {p : Nat → Nat} : Cg X (setP X p) := ⟨⟨rfl, rfl⟩, fun _ _ _ _ _ _ => rfl, fun _ _ => rfl, fun _ _ _ => rfl, fun _ _ => rfl⟩
theorem Cg_14 {X : XS} {v : Int} : Cg X (sF X 11 0 14 v) := by
  refine ⟨⟨rfl, rfl⟩, fun s k' f' a b c => ?_, fun f' a => rfl, fun s k' a => rfl, fun k' a => rfl⟩
  rw [XF_sF, if_neg (fun q => c ⟨q.1, q.2.2⟩)]
theorem Cg_scr {X Z : XS} (h : Scr X Z) : Cg X Z := by
  obtain ⟨c, n, w, k, v, e, -⟩ := h
  subst e
  exact Cg_tr (Cg_tr (Cg_tr (Cg_tr (Cg_R (by omega)) (Cg_R (by omega))) (Cg_R (by omega))) (Cg_F (by omega))) (Cg_F (by omega))
/-- not done: her copy may have changed, and scratch -/
theorem Inv_not {Y : YS} {X Z : XS} {d : D5} (h : Inv Y X) (Wd : WD d) (h6 : d.1 6 = 0 ∨ d.1 6 = 1) (hz : Scr (sF (shS X (XP X 1) d) 12 0 0 0) Z) : Inv Y Z := by
  have sh := h.2.2.2.2.2.2.2.2.1
  have p10 := sh.1 1 (by omega)
  have W1 : WF (sF (shS X (XP X 1) d) 12 0 0 0) := W_F (W_sh h.2.1 Wd) (by decide) (by decide)
  have cg := Cg_tr (Cg_tr (Cg_sh (d := d) p10) (Cg_F (f := 0) (v := 0) (by omega))) (Cg_scr hz)
  have W2 := Scr_W W1 hz
  obtain ⟨c, n, w, k, v, e, -⟩ := hz
  subst e
  have h61 : XR (shS X (XP X 1) d) 61 0 = XR X 61 0 := by rw [XR_sh]; split <;> rfl
  have h71 : XR (shS X (XP X 1) d) 71 0 = XR X 71 0 := by rw [XR_sh]; split <;> rfl
  have h25 : XR (shS X (XP X 1) d) 25 0 = XR X 25 0 := by rw [XR_sh]; split <;> rfl
  have h67 : XR (shS X (XP X 1) d) 67 0 = XR X 67 0 := by rw [XR_sh]; split <;> rfl
  refine Inv_cg h cg (S' := XR X 61 0) h61 (fun j _ => rfl) ?_ W2
  exact ShpI_not sh rfl rfl rfl h71 h25 h67 (fun k => shG_sh k) h6
/-- done -/
theorem Inv_done {Y : YS} {X Z : XS} {d : D5} {S' : Int → Int} (h : Inv Y X) (Wd : WD d) (cd : CD X d) (Ws : WS S') (ho : ∀ j, (j < 312 ∨ 465 ≤ j) → S' j = XR X 61 0 j) (hr : RelS X d S') (hz : Scr (sF (KT (shS X (XP X 1) d)) 12 0 0 0) Z) {S : Int → Int} (hS : S = XR X 61 0) {u : Int → Int} (hu : u = kpU (XR X 71 0) S (XF X 12 0 29)) {m : Int} (hm : m = kpM (XF X 12 0 29)) : Inv Y (sR (sF (sR Z 71 0 u) 12 0 29 m) 61 0 S') := by
  have sh := h.2.2.2.2.2.2.2.2.1
  have p10 := sh.1 1 (by omega)
  have m14 := sh.2.2.2.2.1
  have mr := kpM_rg (m := XF X 12 0 29) (by omega)
  have f14 : XF (shS X (XP X 1) d) 11 0 14 = XF X 11 0 14 := by rw [XF_sh, if_neg (fun q => absurd q.1 (by decide))]
  have f29 : XF (shS X (XP X 1) d) 12 0 29 = XF X 12 0 29 := by rw [XF_sh, if_neg (fun q => absurd q.1 (by decide))]
  have W1 : WF (sF (KT (shS X (XP X 1) d)) 12 0 0 0) := W_F (W_kt (W_sh h.2.1 Wd) (by rw [f14]; exact m14.2)) (by decide) (by decide)
  have cg := Cg_tr (Cg_tr (Cg_tr (Cg_tr (Cg_tr (Cg_tr (Cg_tr (Cg_sh (X := X) (d := d) p10) (Cg_P (p := kpP (XP X) (XF X 11 0 14)))) (Cg_14 (v := kpM (XF X 11 0 14)))) (Cg_F (f := 0) (v := 0) (by omega))) (by
    have : sF (KT (shS X (XP X 1) d)) 12 0 0 0 = sF (sF (setP (shS X (XP X 1) d) (kpP (XP X) (XF X 11 0 14))) 11 0 14 (kpM (XF X 11 0 14))) 12 0 0 0 := by unfold KT; rw [f14]; rfl
    rw [← this]; exact Cg_scr hz)) (Cg_R (s := 71) (r := u) (by omega))) (Cg_F (f := 29) (v := m) (by omega))) (Cg_R (s := 61) (r := S') (by omega))
  have W2 : WF (sR (sF (sR Z 71 0 u) 12 0 29 m) 61 0 S') := W_R (W_F (W_R (Scr_W W1 hz) (by rw [hu]; exact kpU_rg (fun i => h.2.1.2 _ _ _) (by rw [hS]; exact fun i => h.2.1.2 _ _ _))) (by omega) (by omega)) Ws
  obtain ⟨c, n, w, k, v, e, -⟩ := hz
  subst e
  have h71 : XR (shS X (XP X 1) d) 71 0 = XR X 71 0 := by rw [XR_sh]; split <;> rfl
  have h25 : XR (shS X (XP X 1) d) 25 0 = XR X 25 0 := by rw [XR_sh]; split <;> rfl
  have h67 : XR (shS X (XP X 1) d) 67 0 = XR X 67 0 := by rw [XR_sh]; split <;> rfl
  refine Inv_cg h cg (S' := S') rfl ho ?_ W2
  refine ShpI_done sh ?_ ?_ hm ?_ h25 h67 (fun k => shG_sh k) ho cd hr
  · show kpP (XP X) (XF (shS X (XP X 1) d) 11 0 14) = _
    rw [f14]
  · show kpM (XF (shS X (XP X 1) d) 11 0 14) = _
    rw [f14]
  · show u = _
    rw [hu, hS]
