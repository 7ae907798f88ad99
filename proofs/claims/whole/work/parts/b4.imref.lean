/-! image: what the reference keeps, and what stays -/
def kpR {α : Type} (S r : Int → α) (o n : Int) : Int → α := fun j => if o ≤ j ∧ j < o + n then S (j - o) else r j
theorem kpR_0 {α : Type} {S r : Int → α} {o : Int} : kpR S r o 0 = r := funext fun j => by unfold kpR; rw [if_neg (by omega)]
theorem kpR_s {α : Type} {S r : Int → α} {o n : Int} (h : 0 ≤ n) : upi (kpR S r o n) (o + n) (S n) = kpR S r o (n + 1) := funext fun j => by
  rw [upi_at]; unfold kpR
  by_cases e : j = o + n
  · rw [if_pos e, if_pos (by omega), e, show o + n - o = n by omega]
  · rw [if_neg e]
    by_cases q : o ≤ j ∧ j < o + n
    · rw [if_pos q, if_pos (by omega)]
    · rw [if_neg q, if_neg (by omega)]
def imR (Z : XS) (q : Int) : XS := sR (sJ (sR (sF Z 12 0 0 0) 79 0 (kpR (XR Z 61 0) (XR Z 79 0) (646 * q) 646)) 80 0 (kpR (XJ Z 64 0) (XJ Z 80 0) (30 * q) 30)) 81 0 (upi (XR Z 81 0) q 1)
theorem r_img {f0 : Nat} {Y : YS} {Z : XS} {q : Int} (g : GY Y) (q0 : 0 ≤ q) (q1 : q < 2) (hf : 2000 ≤ f0) : fX12_image f0 (Ad Y 12 0) (iI q) (hp Y Z) = some (1, hp Y (imR Z q)) := by
  obtain ⟨Z0, hZ0⟩ : ∃ Z0, Z0 = sF Z 12 0 0 0 := ⟨_, rfl⟩
  have e61 : XR Z0 61 0 = XR Z 61 0 := by rw [hZ0]; rfl
  have e79 : XR Z0 79 0 = XR Z 79 0 := by rw [hZ0]; rfl
  have e80 : XJ Z0 80 0 = XJ Z 80 0 := by rw [hZ0]; rfl
  have e64 : XJ Z0 64 0 = XJ Z 64 0 := by rw [hZ0]; rfl
  have e81 : XR Z0 81 0 = XR Z 81 0 := by rw [hZ0]; rfl
  have kin : 0 ≤ q ∧ q ≤ 1 := by omega
  have rq : Rg q := ⟨by omega, by omega⟩
  have r0 : Rg (0 : Int) := ⟨by decide, by decide⟩
  have r1 : Rg (1 : Int) := ⟨by decide, by decide⟩
  have st : fX12_image f0 (Ad Y 12 0) (iI q) (hp Y Z) = bX12_image_18 f0 f0 (Ad Y 12 0) (iI q) (iI 0) (hp Y (sR Z0 79 0 (kpR (XR Z 61 0) (XR Z 79 0) (646 * q) 0))) := by
    rw [kpR_0, ← e79, sR_self, hZ0]
    simp (disch := first | assumption | omega) only [fX12_image, p_12_0, li_0, li_1, ob2, Option.bind_some, iI_add, r_isIn9, bI_i0, ite_n, if_pos kin]
  rw [st]
  refine lp (fun f (i : Int) => bX12_image_18 f0 f (Ad Y 12 0) (iI q) (iI i) (hp Y (sR Z0 79 0 (kpR (XR Z 61 0) (XR Z 79 0) (646 * q) i)))) (fun i => 0 ≤ i ∧ i ≤ 646) (fun i => (647 - i).toNat) (fun r => r = _) ?_ f0 0 ⟨by omega, by omega⟩ (by show (647 - (0 : Int)).toNat < f0; omega)
  rintro f i ⟨i0, i1⟩
  by_cases c : (646 : Int) ≤ i
  · left
    have ie : i = 646 := by omega
    subst ie
    obtain ⟨Z1, hZ1⟩ : ∃ Z1, Z1 = sR Z0 79 0 (kpR (XR Z 61 0) (XR Z 79 0) (646 * q) 646) := ⟨_, rfl⟩
    have f64 : XJ Z1 64 0 = XJ Z 64 0 := by rw [hZ1]; exact e64
    have f80 : XJ Z1 80 0 = XJ Z 80 0 := by rw [hZ1]; exact e80
    have f81 : XR Z1 81 0 = XR Z 81 0 := by rw [hZ1]; exact e81
    rw [← hZ1]
    have z : bX12_image_18 f0 (f + 1) (Ad Y 12 0) (iI q) (iI 646) (hp Y Z1) = bX12_image_51 f0 f0 (Ad Y 12 0) (iI q) (iI 0) (hp Y (sJ Z1 80 0 (kpR (XJ Z 64 0) (XJ Z 80 0) (30 * q) 0))) := by
      have zj : sJ Z1 80 0 (XJ Z1 80 0) = Z1 := by
        refine Prod.ext rfl (Prod.ext rfl (Prod.ext ?_ rfl))
        funext a b
        show (if a = 80 ∧ b = 0 then XJ Z1 80 0 else Z1.2.2.1 a b) = Z1.2.2.1 a b
        split
        · rename_i h; rw [h.1, h.2]; rfl
        · rfl
      rw [kpR_0, ← f80, zj]
      simp (disch := first | assumption | omega) only [bX12_image_18, li_646, li_0, iI_le, if_pos c]
    show bX12_image_18 f0 (f + 1) (Ad Y 12 0) (iI q) (iI 646) (hp Y Z1) = _
    rw [z]
    refine lp (fun f (i : Int) => bX12_image_51 f0 f (Ad Y 12 0) (iI q) (iI i) (hp Y (sJ Z1 80 0 (kpR (XJ Z 64 0) (XJ Z 80 0) (30 * q) i)))) (fun i => 0 ≤ i ∧ i ≤ 30) (fun i => (31 - i).toNat) (fun r => r = _) ?_ f0 0 ⟨by omega, by omega⟩ (by show (31 - (0 : Int)).toNat < f0; omega)
    rintro f i ⟨i0, i1⟩
    have x64 : ∀ r, XJ (sJ Z1 80 0 r) 64 0 = XJ Z 64 0 := fun _ => f64
    have x80 : ∀ r, XJ (sJ Z1 80 0 r) 80 0 = r := fun _ => rfl
    have x81 : ∀ r, XR (sJ Z1 80 0 r) 81 0 = XR Z 81 0 := fun _ => f81
    by_cases c3 : (30 : Int) ≤ i
    · left
      have ie : i = 30 := by omega
      subst ie
      have nar : (vp_nar .boolean (iI 1)).toInt = 1 := by decide
      simp (disch := first | assumption | omega) only [bX12_image_51, li_30, li_1, iI_le, if_pos c3, g_12_48, s_81, Option.bind_some, x81, nar]
      rw [zr_i1, hZ1, hZ0]
      rfl
    · right
      refine ⟨i + 1, ?_, ⟨by omega, by omega⟩, by show (31 - (i + 1)).toNat < (31 - i).toNat; omega⟩
      rw [← kpR_s i0]
      simp (disch := first | assumption | omega) only [bX12_image_51, li_30, li_1, iI_le, if_neg c3, g_12_47, g_12_9, l_64, s_80, Option.bind_some, x64, x80, sJ_sJ, iI_mul, iI_add]
  · right
    refine ⟨i + 1, ?_, ⟨by omega, by omega⟩, by show (647 - (i + 1)).toNat < (647 - i).toNat; omega⟩
    have x61 : ∀ r, XR (sR Z0 79 0 r) 61 0 = XR Z 61 0 := fun _ => e61
    have x79 : ∀ r, XR (sR Z0 79 0 r) 79 0 = r := fun _ => rfl
    rw [← kpR_s i0]
    simp (disch := first | assumption | omega) only [bX12_image_18, li_646, li_1, iI_le, if_neg c, g_12_46, g_12_6, l_61, s_79, Option.bind_some, x61, x79, sR_sR, iI_mul, iI_add]
/-- all that an image touches -/
def ImF (q : Nat) (X X' : XS) : Prop :=
  (∀ s k f, ¬ ((k = q + 2 ∧ (s = 3 ∨ s = 6 ∨ s = 8)) ∨ (k = q + 10 ∧ s = 10) ∨ (s = 12 ∧ f = 0)) → XF X' s k f = XF X s k f) ∧ (∀ s k, ¬ ((k = q + 2 ∧ 23 ≤ s ∧ s ≤ 39) ∨ (k = q + 10 ∧ 43 ≤ s ∧ s ≤ 46) ∨ s = 79 ∨ s = 81) → XR X' s k = XR X s k) ∧ (∀ s k, ¬ ((s = 22 ∧ k = q + 2) ∨ s = 80) → XJ X' s k = XJ X s k) ∧ XP X' = XP X ∧ (∀ j, j ≠ q → XM X' j = XM X j) ∧ (∀ j, ¬ (646 * (q : Int) ≤ j ∧ j < 646 * (q : Int) + 646) → XR X' 79 0 j = XR X 79 0 j) ∧ (∀ j, ¬ (30 * (q : Int) ≤ j ∧ j < 30 * (q : Int) + 30) → XJ X' 80 0 j = XJ X 80 0 j) ∧ (∀ j, j ≠ (q : Int) → XR X' 81 0 j = XR X 81 0 j)
def InvM (X : XS) : Prop := TapI X ∧ ResI X ∧ XF X 11 0 3 = XF X 12 0 15 ∧ SeaI X 0 (XR X 61 0) ∧ NamX X 0 (XR X 61 0) (XJ X 64 0) ∧ PostW X (XR X 61 0) ∧ ShpI X (XR X 61 0) ∧ SntX X 0 (XR X 61 0) ∧ LogI X
theorem ImF_sg {q : Nat} {X X' : XS} (f : ImF q X X') {k : Nat} (hk : k ≠ q + 10) : shG X' k = shG X k := by
  unfold shG
  rw [f.2.1 43 k (by omega), f.2.1 44 k (by omega), f.2.1 45 k (by omega), f.2.1 46 k (by omega)]
  have : XF X' 10 k = XF X 10 k := funext fun n => f.1 10 k n (by omega)
  rw [this]
theorem ImF_M {q : Nat} {X X' : XS} (f : ImF q X X') (h6 : XF X' 10 (q + 10) 6 = 0 ∨ XF X' 10 (q + 10) 6 = 1) (h : InvM X) : InvM X' := by
  obtain ⟨tp, re, fl, se, na, po, sh, sn, lo⟩ := h
  have s61 := f.2.1 61 0 (by omega)
  have r25 := f.2.1 25 0 (by omega)
  refine ⟨?_, ?_, ?_, ?_, ?_, ?_, ?_, ?_, ?_⟩
  · unfold TapI at *; rw [f.2.1 20 0 (by omega), f.2.1 60 0 (by omega), f.1 11 0 1 (by omega), f.1 12 0 2 (by omega)]; exact tp
  · unfold ResI at *; rw [f.2.2.1 21 0 (by omega), f.2.2.1 65 0 (by omega)]; exact re
  · rw [f.1 11 0 3 (by omega), f.1 12 0 15 (by omega)]; exact fl
  · rw [s61]
    unfold SeaI CSea SeaR SeaW at *
    rw [r25, f.2.1 26 0 (by omega), f.2.1 27 0 (by omega), f.2.1 28 0 (by omega), f.2.1 29 0 (by omega), f.2.1 31 0 (by omega), f.2.1 32 0 (by omega), f.2.1 33 0 (by omega), f.2.1 34 0 (by omega), f.2.1 35 0 (by omega), f.1 6 0 2 (by omega)]
    exact se
  · rw [s61, f.2.2.1 64 0 (by omega)]
    unfold NamX at *; rw [f.2.2.1 22 0 (by omega), f.2.1 23 0 (by omega), f.2.1 24 0 (by omega), f.1 3 0 3 (by omega)]; exact na
  · unfold PostW at *; rw [f.2.1 66 0 (by omega), f.2.1 67 0 (by omega), s61]; exact po
  · obtain ⟨a1, a2, a3, a4, a5, a6⟩ := sh
    have cd : ∀ d, CD X' d = CD X d := fun d => by rw [CD_n, CD_n, r25]
    have rl : ∀ d S, RelS X' d S = RelS X d S := fun d S => by rw [Rel_q, Rel_q, f.2.1 67 0 (by omega)]
    have sg : ∀ i, i < 10 → shG X' (XP X i) = shG X (XP X i) := fun i hi => ImF_sg f (by have := a1 i hi; omega)
    rw [s61]
    refine ⟨by rw [f.2.2.2.1]; exact a1, by rw [f.2.2.2.1]; exact a2, fun k => ?_, ?_, ?_, fun i hi => ?_⟩
    · by_cases e : k = q + 10
      · rw [e]; exact h6
      · rw [f.1 10 k 6 (by omega)]; exact a3 k
    · rw [f.2.2.2.1, sg 0 (by decide), cd, rl]; exact a4
    · rw [f.1 11 0 14 (by omega), f.1 12 0 29 (by omega)]; exact a5
    · rw [f.1 11 0 14 (by omega)] at hi
      have i8 := a5.2.2
      rw [f.2.2.2.1, sg (2 + i) (by omega), cd, rl, f.2.1 71 0 (by omega)]
      exact a6 i hi
  · rw [s61]
    unfold SntX at *; rw [f.2.1 36 0 (by omega), f.2.1 37 0 (by omega), f.2.1 38 0 (by omega), f.1 8 0 3 (by omega)]; exact sn
  · unfold LogI at *; rw [f.1 2 0 6 (by omega), f.1 2 0 7 (by omega), f.1 2 0 8 (by omega), f.1 2 0 9 (by omega), f.1 2 0 10 (by omega), f.1 12 0 38 (by omega), f.2.1 76 0 (by omega)]; exact lo
theorem ImF_o {Y Y' : YS} {q q' : Nat} {X X' : XS} (f : ImF q X X') (ne : q' ≠ q) (q2 : q' < 2) (hn : ImN Y q' → ImN Y' q') (ho : OwI Y q' → OwI Y' q') (h : ImgI Y X q') : ImgI Y' X' q' := by
  obtain ⟨⟨h1, h2⟩, h3⟩ := h
  have kS : ∀ j, 0 ≤ j → j < 646 → kpS X' q' j = kpS X q' j := fun j j0 j1 => by unfold kpS; exact f.2.2.2.2.2.1 _ (by omega)
  have kN : ∀ j, 0 ≤ j → j < 30 → kpN X' q' j = kpN X q' j := fun j j0 j1 => by unfold kpN; exact f.2.2.2.2.2.2.1 _ (by omega)
  refine ⟨⟨by rw [f.2.2.2.2.2.2.2 _ (by omega), f.2.2.2.2.1 q' ne]; exact h1, fun m => hn (h2 (by rw [← f.2.2.2.2.1 q' ne]; exact m))⟩, fun m => ?_⟩
  obtain ⟨a, b, c, d, e, r⟩ := h3 (by rw [← f.2.2.2.2.1 q' ne]; exact m)
  have rr : ∀ t, 22 ≤ t → t ≤ 39 → XR X' t (q' + 2) = XR X t (q' + 2) := fun t t0 t1 => f.2.1 t _ (by omega)
  have sg : shG X' (q' + 10) = shG X (q' + 10) := ImF_sg f (by omega)
  have b' : SeaI X' (q' + 2) (kpS X' q') := by
    refine SeaI_S (S := kpS X q') (fun j j0 j1 => kS j j0 (by omega)) ?_
    unfold SeaI CSea SeaR SeaW at *
    rw [rr 25 (by decide) (by decide), rr 26 (by decide) (by decide), rr 27 (by decide) (by decide), rr 28 (by decide) (by decide), rr 29 (by decide) (by decide), rr 31 (by decide) (by decide), rr 32 (by decide) (by decide), rr 33 (by decide) (by decide), rr 34 (by decide) (by decide), rr 35 (by decide) (by decide), f.1 6 (q' + 2) 2 (by omega)]
    exact b
  have h8 : kpS X q' 0 ≤ 8 ∧ kpS X q' 1 ≤ 8 := by
    have x := b.1.1; have y := b.1.2.1; have z := b.2.1.1; omega
  refine ⟨ho a, b', ?_, ?_, ?_, ?_⟩
  · have q1 := NamI_S9 (S' := kpS X' q') (fun j j0 j1 => kS j j0 (by omega)) c
    have q3 := NamI_nm (SeaI_b b') (nm' := kpN X' q') (fun i i0 i1 => kN i i0 i1) q1
    unfold NamX at *; rw [f.2.2.1 22 (q' + 2) (by omega), rr 23 (by decide) (by decide), rr 24 (by decide) (by decide), f.1 3 (q' + 2) 3 (by omega)]; exact q3
  · have q1 := SntI_c (S' := kpS X' q') (fun _ _ _ => rfl) (fun _ _ _ => rfl) (fun _ _ _ => rfl) kS d
    unfold SntX at *; rw [rr 36 (by decide) (by decide), rr 37 (by decide) (by decide), rr 38 (by decide) (by decide), f.1 8 (q' + 2) 3 (by omega)]; exact q1
  · rw [rr 25 (by decide) (by decide), sg]; exact e
  · rw [sg]
    have q1 : RelQ (pst (kpS X q')) (shG X (q' + 10)) (kpS X' q') := RelS_S h8 kS r
    refine Rel_qq (by rw [kS 0 (by decide) (by decide)]; exact h8.1) (fun i i0 i6 => ?_) q1
    exact (post_c (fun j j0 j1 => kS j j0 (by omega)) i0 i6).2.symm
