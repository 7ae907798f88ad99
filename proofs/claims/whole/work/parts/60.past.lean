/-! HER PAST: ships change places -/
def setP (X : XS) (p : Nat → Nat) : XS := (X.1, X.2.1, X.2.2.1, p, X.2.2.2.2)
theorem sP_set (X : XS) (i v : Nat) : sP X i v = setP X (fun j => if j = i then v else XP X j) := rfl
theorem setP_set (X : XS) (p q : Nat → Nat) : setP (setP X p) q = setP X q := rfl
theorem XP_set (X : XS) (p : Nat → Nat) : XP (setP X p) = p := rfl
theorem XF_set (X : XS) (p : Nat → Nat) : XF (setP X p) = XF X := rfl
theorem sF_set (X : XS) (p : Nat → Nat) (s k f : Nat) (v : Int) : setP (sF X s k f v) p = sF (setP X p) s k f v := rfl
def kp1 (p : Nat → Nat) (m : Nat) : Nat → Nat := fun j => if j = 0 then p 1 else if j = 1 then p (m + 2) else if j = m + 2 then p 0 else p j
def rotI (p : Nat → Nat) (i : Nat) : Nat → Nat := fun j => if 2 ≤ j ∧ j < i + 1 then p (j + 1) else p j
def rot8 (p : Nat → Nat) : Nat → Nat := fun j => if j = 9 then p 2 else rotI p 8 j
def kpP (p : Nat → Nat) (m : Int) : Nat → Nat := if m = 8 then kp1 (rot8 p) 7 else kp1 p m.toNat
theorem k13 {f0 : Nat} {Y : YS} {X : XS} (g : GY Y) (u : U11 Y) {m : Int} (hm : XF X 11 0 14 = m) (m0 : 0 ≤ m) (m8 : m < 8) (hp0 : XP X 0 < 10) : bX11_keepTrial_13 f0 (Ad Y 11 0) (hp Y X) = some (hp Y (sF (setP X (kp1 (XP X) m.toNat)) 11 0 14 (m + 1))) := by
  have gk := ShO_k g hp0
  have hm2 : ∀ p, XF (setP X p) 11 0 14 = m := fun p => hm
  simp (disch := first | assumption | omega) only [bX11_keepTrial_13, g_11_13, g_11_14, g_11_11, g_11_12, p_11_11, p_11_12, p_11_14, k_10, l_47, s_47, li_1, iI_add, Option.bind_some, hm, sP_set, setP_set, XP_set, hm2]
  congr 4
  unfold kp1
  funext j
  have e1 : ¬ (1 : Nat) = m.toNat + 2 := by omega
  have e0 : ¬ (0 : Nat) = m.toNat + 2 := by omega
  by_cases c1 : j = 1
  · subst c1; simp
  · by_cases c0 : j = 0
    · subst c0; simp [e1]
    · by_cases c2 : j = m.toNat + 2
      · simp [c2]
      · simp [c0, c1, c2]
theorem k_forget {f0 : Nat} {Y : YS} {X : XS} (g : GY Y) (u : U11 Y) (hp1 : ∀ i, i < 10 → XP X i < 10) (hf : 20 ≤ f0) : fX11_forgetOldest f0 (Ad Y 11 0) (hp Y X) = some (hp Y (sF (setP X (rot8 (XP X))) 11 0 14 7)) := by
  have gk := ShO_k g (hp1 2 (by omega))
  have z : fX11_forgetOldest f0 (Ad Y 11 0) (hp Y X) = bX11_forgetOldest_9 f0 f0 (Ad Y 11 0) (Ad Y 10 (XP X 2)) (iI ((1 : Nat) : Int)) (hp Y (setP X (rotI (XP X) 1))) := by
    have : setP X (rotI (XP X) 1) = X := by
      unfold setP
      have : rotI (XP X) 1 = XP X := funext fun j => by unfold rotI; rw [if_neg (by omega)]
      rw [this]; rfl
    rw [this]
    simp (disch := first | assumption | omega) only [fX11_forgetOldest, g_11_13, l_47, li_0, li_1, Option.bind_some, iI_add]
    rfl
  rw [z]
  refine lp (fun f (i : Nat) => bX11_forgetOldest_9 f0 f (Ad Y 11 0) (Ad Y 10 (XP X 2)) (iI (i : Int)) (hp Y (setP X (rotI (XP X) i)))) (fun i => 1 ≤ i ∧ i ≤ 8) (fun i => 9 - i) (fun r => r = _) ?_ f0 1 ⟨by omega, by omega⟩ (by omega)
  intro f i ⟨hi, hi2⟩
  by_cases c : (8 : Int) ≤ (i : Int)
  · left
    have : i = 8 := by omega
    subst this
    simp (disch := first | assumption | omega) only [bX11_forgetOldest_9, g_11_13, p_11_14, k_10, l_47, s_47, li_0, li_1, li_8, li_7, iI_add, iI_sub, Option.bind_some, iI_le, if_pos c, sP_set, setP_set, XP_set]
    rfl
  · right
    refine ⟨i + 1, ?_, ⟨by omega, by omega⟩, by omega⟩
    have vi : rotI (XP X) i ((i : Int).toNat + 2) = XP X (i + 2) := by unfold rotI; rw [if_neg (by omega)]; rfl
    have gk2 := ShO_k g (hp1 (i + 2) (by omega))
    simp (disch := first | assumption | omega) only [bX11_forgetOldest_9, g_11_13, p_11_14, k_10, l_47, s_47, li_0, li_1, li_8, li_7, iI_add, iI_sub, Option.bind_some, iI_le, if_neg c, XP_set, vi, sP_set, setP_set]
    have e : (fun j => if j = ((i : Int) - 1).toNat + 2 then XP X (i + 2) else rotI (XP X) i j) = rotI (XP X) (i + 1) := funext fun j => by
      unfold rotI
      by_cases q : j = i + 1
      · rw [if_pos (by omega), if_pos (by omega), q]
      · rw [if_neg (by omega)]
        by_cases w : 2 ≤ j ∧ j < i + 1
        · rw [if_pos w, if_pos (by omega)]
        · rw [if_neg w, if_neg (by omega)]
    rw [e]
    rfl
theorem k_keep {f0 : Nat} {Y : YS} {X : XS} (g : GY Y) (u : U11 Y) (hp1 : ∀ i, i < 10 → XP X i < 10) (hm : 0 ≤ XF X 11 0 14 ∧ XF X 11 0 14 ≤ 8) (hf : 20 ≤ f0) : fX11_keepTrial f0 (Ad Y 11 0) (hp Y X) = some (hp Y (sF (setP X (kpP (XP X) (XF X 11 0 14))) 11 0 14 (kpM (XF X 11 0 14)))) := by
  unfold kpP kpM
  by_cases c : XF X 11 0 14 = 8
  · have c' : ¬ XF X 11 0 14 < 8 := by omega
    rw [if_pos c, if_pos c]
    have k := k13 (f0 := f0) (X := sF (setP X (rot8 (XP X))) 11 0 14 7) (m := 7) g u rfl (by omega) (by omega) (hp1 0 (by omega))
    simp (disch := first | assumption | omega) only [fX11_keepTrial, g_11_14, k_11, li_8, Option.bind_some, iI_add, iI_lt, if_neg c', k_forget, k]
    rw [sF_set, setP_set, sF_sF]
    rfl
  · have c' : XF X 11 0 14 < 8 := by omega
    rw [if_neg c, if_neg c]
    simp (disch := first | assumption | omega) only [fX11_keepTrial, g_11_14, k_11, li_8, Option.bind_some, iI_add, iI_lt, if_pos c', k13 g u rfl hm.1 c' (hp1 0 (by omega))]
theorem k_undo {f0 : Nat} {Y : YS} {X : XS} (g : GY Y) (u : U11 Y) {m : Int} (hm : XF X 11 0 14 = m) (m1 : 1 ≤ m) (m8 : m ≤ 8) (hp0 : XP X 0 < 10) : fX11_undo f0 (Ad Y 11 0) (hp Y X) = some (iI (m - 1), hp Y (sF (setP X (fun j => if j = (m - 1).toNat + 2 then XP X 0 else if j = 0 then XP X ((m - 1).toNat + 2) else XP X j)) 11 0 14 (m - 1))) := by
  have gk := ShO_k g hp0
  have z : ∀ p, XF (sF (setP X p) 11 0 14 (m - 1)) 11 0 14 = m - 1 := fun p => rfl
  have z2 : XF (sF X 11 0 14 (m - 1)) 11 0 14 = m - 1 := rfl
  have z3 : ∀ v : Int, XP (sF X 11 0 14 v) = XP X := fun v => rfl
  simp (disch := first | assumption | omega) only [fX11_undo, g_11_14, g_11_11, g_11_13, p_11_14, p_11_11, k_10, l_47, s_47, lm_1, li_1, iI_sub, Option.bind_some, iI_add, iI_neg, hm, iI_le, if_pos m1, z2, z3, sP_set, sF_set, z, XP_set]
  rfl
