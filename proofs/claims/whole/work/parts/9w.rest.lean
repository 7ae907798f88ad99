/-! restore, AS A CALL -/
theorem l_48n {Y : YS} {X : XS} (g : GY Y) {i : Int} (h0 : 0 ≤ i) (hi : i < 2) (m : XM X i.toNat = true) : ldN 4 (hp Y X) (Ad Y 48 0) (iI i) = some (Ad Y 1 i.toNat) := by
  unfold ldN; rw [l_48 g h0 hi, if_pos m]; rfl
def snCp (X : XS) (j k : Nat) : XS := sF (sR (sR (sR X 36 j (cpr (XR X 36 k) (XR X 36 j) 40)) 37 j (cpr (XR X 37 k) (XR X 37 j) 40)) 38 j (cpr (XR X 38 k) (XR X 38 j) 40)) 8 j 3 (XF X 8 k 3)
theorem e_snCp {f0 : Nat} {Y : YS} {X : XS} {j k : Nat} (gj : StO Y j) (gk : StO Y k) (ne : k ≠ j) : fX8_copyFrom f0 (Ad Y 8 j) (Ad Y 8 k) (hp Y X) = some (hp Y (snCp X j k)) := by
  simp (disch := first | assumption | omega) only [fX8_copyFrom, g_8_0, g_8_1, g_8_2, g_8_3, p_8_3, c_36, c_37, c_38, li_0, li_40, Option.bind_some, iI_add, c_36, c_37, c_38, XF_sF, XF_sR, XF_sJ, XF_sP, XF_sG, XR_sF, XR_sR, XR_sJ, XR_sP, XR_sG, XJ_sF, XJ_sR, XJ_sJ, XJ_sP, XJ_sG, XP_sF, XP_sR, XP_sJ, XP_sP, XP_sG, XM_sF, XM_sR, XM_sJ, XM_sP, XM_sG, upi_at, and_true, true_and, if_true, if_false, ite_true, ite_false, eq_self, and_self, not_true_eq_false, not_false_eq_true, false_and, and_false, Nat.reduceEqDiff, Nat.reduceAdd, reduceCtorEq, ne]
  rfl
theorem sn_W {X : XS} {j k : Nat} (W : WF X) : WF (snCp X j k) := by
  have c : ∀ s n, ∀ i, Rg (cpr (XR X s k) (XR X s j) n i) := fun s n => cpr_W (fun i => W.2 _ _ _) (fun i => W.2 _ _ _)
  unfold snCp
  exact W_F (W_R (W_R (W_R W (c 36 40)) (c 37 40)) (c 38 40)) (W.1 _ _ _).1 (W.1 _ _ _).2
theorem sn_R {X : XS} {j k s k' : Nat} (h : ¬ (k' = j ∧ 36 ≤ s ∧ s ≤ 38)) : XR (snCp X j k) s k' = XR X s k' := by
  unfold snCp
  rw [XR_sF, XR_sR, if_neg (by omega), XR_sR, if_neg (by omega), XR_sR, if_neg (by omega)]
theorem sn_F {X : XS} {j k s k' f : Nat} (h : ¬ (k' = j ∧ s = 8 ∧ f = 3)) : XF (snCp X j k) s k' f = XF X s k' f := by
  unfold snCp
  rw [XF_sF, if_neg (by omega)]; rfl
theorem hgS_c {st st' : Int → Int} : ∀ {n : Nat}, (∀ i : Nat, i < n → st' i = st i) → hgS st' n = hgS st n
  | 0, _ => rfl
  | n + 1, h => by rw [hgS, hgS, hgS_c (fun i hi => h i (by omega)), h n (by omega)]
theorem SntI_c {st sg va st' sg' va' : Int → Int} {n : Int} {S S' : Int → Int} (e1 : ∀ i, 0 ≤ i → i < n → st' i = st i) (e2 : ∀ i, 0 ≤ i → i < n → sg' i = sg i) (e3 : ∀ i, 0 ≤ i → i < n → va' i = va i) (eS : ∀ j, 0 ≤ j → j < 646 → S' j = S j) (h : SntI st sg va n S) : SntI st' sg' va' n S' := by
  obtain ⟨h1, h2, h3⟩ := h
  refine ⟨by rw [eS 465 (by decide) (by decide)]; exact h1, h2, fun i hi => ?_⟩
  obtain ⟨a, b⟩ := h3 i hi
  have hg : hgS st' i = hgS st i := hgS_c (fun k hk => e1 k (by omega) (by omega))
  refine ⟨by rw [e1 i (by omega) hi, e2 i (by omega) hi, e3 i (by omega) hi, eS _ (by omega) (by omega), eS _ (by omega) (by omega), eS _ (by omega) (by omega)]; exact a, ?_⟩
  unfold stO at *
  rw [e1 i (by omega) hi, e2 i (by omega) hi, e3 i (by omega) hi, hg, eS 0 (by decide) (by decide), eS 1 (by decide) (by decide)]
  exact b
theorem sn_Snt {X : XS} {j k : Nat} {S : Int → Int} (h : SntX X k S) : SntX (snCp X j k) j S := by
  have e36 : ∀ s, s = 36 ∨ s = 37 ∨ s = 38 → ∀ i, 0 ≤ i → i < 40 → XR (snCp X j k) s j i = XR X s k i := fun s hs i i0 i1 => by
    rcases hs with q | q | q <;> subst q <;> unfold snCp <;> simp only [XR_sF, XR_sR, and_true, true_and, if_true, if_false, ite_true, ite_false, eq_self, and_self, not_true_eq_false, not_false_eq_true, false_and, and_false, Nat.reduceEqDiff, Nat.reduceAdd, reduceCtorEq] <;> exact cpr_in i0 i1
  have e8 : XF (snCp X j k) 8 j 3 = XF X 8 k 3 := by unfold snCp; rw [XF_sF, if_pos ⟨rfl, rfl, rfl⟩]
  have b := h.2.1
  unfold SntX at *
  rw [e8]
  exact SntI_c (fun i i0 i1 => e36 36 (by decide) i i0 (by omega)) (fun i i0 i1 => e36 37 (by decide) i i0 (by omega)) (fun i i0 i1 => e36 38 (by decide) i i0 (by omega)) (fun _ _ _ => rfl) h
theorem RelS_S {X : XS} {d : D5} {S S' : Int → Int} (h8 : S 0 ≤ 8 ∧ S 1 ≤ 8) (e : ∀ j, 0 ≤ j → j < 646 → S' j = S j) (h : RelS X d S) : RelS X d S' := by
  obtain ⟨a, b, b', c, k, r, t, u⟩ := h
  have se : isSe S' = isSe S := by unfold isSe; rw [e 0 (by decide) (by decide), e 1 (by decide) (by decide)]
  refine ⟨?_, ?_, ?_, fun i i0 i1 => ?_, fun p s p0 p1 s0 s1 => ?_, fun i i0 i1 => ?_, fun s p s0 s1 p0 p1 => ?_, ?_, fun p p0 p1 => ?_⟩
  · rw [e 312 (by decide) (by decide), e 315 (by decide) (by decide), e 316 (by decide) (by decide), e 317 (by decide) (by decide), e 318 (by decide) (by decide), e 319 (by decide) (by decide)]; exact a
  · rw [se, e 313 (by decide) (by decide), e 314 (by decide) (by decide)]; exact b
  · rw [se]; exact b'
  · rw [e _ (by omega) (by omega), e _ (by omega) (by omega)]; exact c i i0 i1
  · rw [e 0 (by decide) (by decide)] at p1
    rw [e 1 (by decide) (by decide)] at s1
    rw [k p s p0 p1 s0 s1]
    exact (knA_congr (e 0 (by decide) (by decide)) h8.1 (fun i i0 i8 => e _ (by omega) (by omega))).symm
  · rw [e _ (by omega) (by omega)]; exact r i i0 i1
  · rw [e _ (by omega) (by omega)]; exact t s p s0 s1 p0 p1
  · rw [e 464 (by decide) (by decide)]; exact u.1
  · rw [e 464 (by decide) (by decide), se, e _ (by omega) (by omega)]; exact u.2 p p0 p1
def rtS (K S : Int → Int) (n : Int) : Int → Int := fun j => if 0 ≤ j ∧ j < n then K j else S j
def rtN (K N : Int → Int64) (n : Int) : Int → Int64 := fun j => if 0 ≤ j ∧ j < n then K j else N j
def wyZ (Z : XS) (S : Int → Int) : XS := sR (sR (sR Z 61 0 S) 66 0 (fwG 8 8 (dgT (ini0 (fun i => S (8 + i)) (XR Z 66 0) 64) 8))) 67 0 (fwG 8 8 (dgT (ini0 (fun i => S (72 + i)) (XR Z 67 0) 64) 8))
theorem r_rest {f0 : Nat} {Y : YS} {Z : XS} {k : Int} (g : GY Y) (W : WF Z) (k0 : 0 ≤ k) (k1 : k < 2) (h8 : ∀ i, 0 ≤ i → i < 64 → 0 ≤ XR Z 79 0 (646 * k + (8 + i)) ∧ XR Z 79 0 (646 * k + (8 + i)) ≤ 1000) (h72 : ∀ i, 0 ≤ i → i < 64 → 0 ≤ XR Z 79 0 (646 * k + (72 + i)) ∧ XR Z 79 0 (646 * k + (72 + i)) ≤ 1000) (hf : 2000 ≤ f0) : bX12_restore_27 f0 f0 (Ad Y 12 0) (iI k) (iI 0) (hp Y Z) = some (1, hp Y (sF (wyZ (sJ Z 64 0 (rtN (fun j => XJ Z 80 0 (30 * k + j)) (XJ Z 64 0) 30)) (rtS (fun j => XR Z 79 0 (646 * k + j)) (XR Z 61 0) 646)) 12 0 29 0)) := by
  obtain ⟨K, hK⟩ : ∃ K : Int → Int, K = fun j => XR Z 79 0 (646 * k + j) := ⟨_, rfl⟩
  obtain ⟨S, hS⟩ : ∃ S, S = XR Z 61 0 := ⟨_, rfl⟩
  obtain ⟨N, hN⟩ : ∃ N, N = XJ Z 64 0 := ⟨_, rfl⟩
  obtain ⟨KN, hKN⟩ : ∃ KN : Int → Int64, KN = fun j => XJ Z 80 0 (30 * k + j) := ⟨_, rfl⟩
  rw [← hK, ← hS, ← hN, ← hKN]
  have Kj : ∀ j, XR Z 79 0 (646 * k + j) = K j := fun j => by rw [hK]
  have KNj : ∀ j, XJ Z 80 0 (30 * k + j) = KN j := fun j => by rw [hKN]
  obtain ⟨T, hT⟩ : ∃ T, T = rtS K S 646 := ⟨_, rfl⟩
  have T8 : ∀ i, 0 ≤ i → i < 64 → 0 ≤ T (8 + i) ∧ T (8 + i) ≤ 1000 := fun i i0 i1 => by rw [hT]; unfold rtS; rw [if_pos (by omega), ← Kj]; exact h8 i i0 i1
  have T72 : ∀ i, 0 ≤ i → i < 64 → 0 ≤ T (72 + i) ∧ T (72 + i) ≤ 1000 := fun i i0 i1 => by rw [hT]; unfold rtS; rw [if_pos (by omega), ← Kj]; exact h72 i i0 i1
  have l60 : bX12_restore_60 f0 f0 (Ad Y 12 0) (iI k) (iI 0) (hp Y (sR (sJ Z 64 0 (rtN KN N 0)) 61 0 T)) = some (1, hp Y (sF (wyZ (sJ Z 64 0 (rtN KN N 30)) T) 12 0 29 0)) := by
    have y1 : fX12_waysOf f0 (Ad Y 12 0) (iI 8) (Ad Y 66 0) (hp Y (sR (sJ Z 64 0 (rtN KN N 30)) 61 0 T)) = some (hp Y (sR (sR (sJ Z 64 0 (rtN KN N 30)) 61 0 T) 66 0 (fwG 8 8 (dgT (ini0 (fun i => T (8 + i)) (XR Z 66 0) 64) 8)))) := r_ways_8 (f0 := f0) (Y := Y) (Z := sR (sJ Z 64 0 (rtN KN N 30)) 61 0 T) (S := T) g rfl T8 (by omega)
    have y2 : fX12_waysOf f0 (Ad Y 12 0) (iI 72) (Ad Y 67 0) (hp Y (sR (sR (sJ Z 64 0 (rtN KN N 30)) 61 0 T) 66 0 (fwG 8 8 (dgT (ini0 (fun i => T (8 + i)) (XR Z 66 0) 64) 8)))) = some (hp Y (wyZ (sJ Z 64 0 (rtN KN N 30)) T)) := r_ways_72 (f0 := f0) (Y := Y) (Z := sR (sR (sJ Z 64 0 (rtN KN N 30)) 61 0 T) 66 0 (fwG 8 8 (dgT (ini0 (fun i => T (8 + i)) (XR Z 66 0) 64) 8))) (S := T) g rfl T72 (by omega)
    refine lp (fun f (i : Int) => bX12_restore_60 f0 f (Ad Y 12 0) (iI k) (iI i) (hp Y (sR (sJ Z 64 0 (rtN KN N i)) 61 0 T))) (fun i => 0 ≤ i ∧ i ≤ 30) (fun i => (31 - i).toNat) (fun z => z = _) ?_ f0 0 ⟨by omega, by omega⟩ (by show (31 - (0 : Int)).toNat < f0; omega)
    rintro f i ⟨i0, i1⟩
    by_cases c : (30 : Int) ≤ i
    · left
      have ie : i = 30 := by omega
      subst ie
      simp (disch := first | assumption | omega) only [bX12_restore_60, g_12_21, g_12_22, g_12_9, g_12_47, p_12_29, k_12, l_64, s_64, l_66, s_66, l_67, s_67, l_80, s_80, li_0, li_1, li_30, li_8, li_72, iI_add, iI_mul, Option.bind_some, iI_le, if_pos c, y1, y2]
      exact zr_i1
    · right
      refine ⟨i + 1, ?_, ⟨by omega, by omega⟩, by show (31 - (i + 1)).toNat < (31 - i).toNat; omega⟩
      have st : upi (rtN KN N i) i (KN i) = rtN KN N (i + 1) := funext fun j => by
        rw [upi_at]; unfold rtN
        by_cases e : j = i
        · rw [if_pos e, if_pos (by omega), e]
        · rw [if_neg e]
          by_cases q : 0 ≤ j ∧ j < i
          · rw [if_pos q, if_pos (show 0 ≤ j ∧ j < i + 1 by omega)]
          · rw [if_neg q, if_neg (show ¬ (0 ≤ j ∧ j < i + 1) by omega)]
      have x64 : ∀ t, XJ (sR (sJ Z 64 0 t) 61 0 T) 64 0 = t := fun t => rfl
      have x80 : ∀ t, XJ (sR (sJ Z 64 0 t) 61 0 T) 80 0 = XJ Z 80 0 := fun t => rfl
      have s64 : ∀ t t', sJ (sR (sJ Z 64 0 t) 61 0 T) 64 0 t' = sR (sJ Z 64 0 t') 61 0 T := fun t t' => by
        show sR (sJ (sJ Z 64 0 t) 64 0 t') 61 0 _ = _
        rw [sJ_sJ]
      rw [← st]
      simp (disch := first | assumption | omega) only [bX12_restore_60, g_12_21, g_12_22, g_12_9, g_12_47, p_12_29, k_12, l_64, s_64, l_66, s_66, l_67, s_67, l_80, s_80, li_0, li_1, li_30, li_8, li_72, iI_add, iI_mul, Option.bind_some, iI_le, if_neg c, x64, x80, KNj, s64]
  have z : bX12_restore_27 f0 f0 (Ad Y 12 0) (iI k) (iI 0) (hp Y Z) = bX12_restore_27 f0 f0 (Ad Y 12 0) (iI k) (iI 0) (hp Y (sR Z 61 0 (rtS K S 0))) := by
    have : rtS K S 0 = S := funext fun j => by unfold rtS; rw [if_neg (by omega)]
    rw [this, hS, sR_self]
  rw [z]
  refine lp (fun f (i : Int) => bX12_restore_27 f0 f (Ad Y 12 0) (iI k) (iI i) (hp Y (sR Z 61 0 (rtS K S i)))) (fun i => 0 ≤ i ∧ i ≤ 646) (fun i => (647 - i).toNat) (fun z => z = _) ?_ f0 0 ⟨by omega, by omega⟩ (by show (647 - (0 : Int)).toNat < f0; omega)
  rintro f i ⟨i0, i1⟩
  by_cases c : (646 : Int) ≤ i
  · left
    have ie : i = 646 := by omega
    subst ie
    have : rtN KN N 0 = N := funext fun j => by unfold rtN; rw [if_neg (by omega)]
    have zj : sJ Z 64 0 N = Z := by
      rw [hN]
      refine Prod.ext rfl (Prod.ext rfl (Prod.ext ?_ rfl))
      funext a b
      show (if a = 64 ∧ b = 0 then XJ Z 64 0 else Z.2.2.1 a b) = Z.2.2.1 a b
      split
      · rename_i h; rw [h.1, h.2]; rfl
      · rfl
    rw [this, zj] at l60
    rw [← hT, ← l60]
    simp (disch := first | assumption | omega) only [bX12_restore_27, g_12_6, g_12_46, l61, s61, l_79, s_79, li_0, li_1, li_646, iI_add, iI_mul, Option.bind_some, iI_le, if_pos c]
  · right
    refine ⟨i + 1, ?_, ⟨by omega, by omega⟩, by show (647 - (i + 1)).toNat < (647 - i).toNat; omega⟩
    have st : upi (rtS K S i) i (K i) = rtS K S (i + 1) := funext fun j => by
      rw [upi_at]; unfold rtS
      by_cases e : j = i
      · rw [if_pos e, if_pos (by omega), e]
      · rw [if_neg e]
        by_cases q : 0 ≤ j ∧ j < i
        · rw [if_pos q, if_pos (show 0 ≤ j ∧ j < i + 1 by omega)]
        · rw [if_neg q, if_neg (show ¬ (0 ≤ j ∧ j < i + 1) by omega)]
    have x79 : XR (sR Z 61 0 (rtS K S i)) 79 0 = XR Z 79 0 := rfl
    have wk : wr (K i) = K i := by rw [hK]; exact wr_id (W_rl W _ _ _) (W_rh W _ _ _)
    rw [← st]
    simp (disch := first | assumption | omega) only [bX12_restore_27, g_12_6, g_12_46, l61, s61, l_79, s_79, li_0, li_1, li_646, iI_add, iI_mul, Option.bind_some, iI_le, if_neg c, x79, Kj, wk]
