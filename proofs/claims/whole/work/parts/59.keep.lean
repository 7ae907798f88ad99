/-! THE REFERENCE KEEPS, UNDOES, TRIES, GOES BACK -/
def put153 (u : Int → Int) (o : Int) (S : Int → Int) (n : Int) : Int → Int := fun j => if o ≤ j ∧ j < o + n then S (312 + (j - o)) else u j
theorem put_0 {u S : Int → Int} {o : Int} : put153 u o S 0 = u := funext fun j => by unfold put153; rw [if_neg (by omega)]
theorem put_s {u S : Int → Int} {o n : Int} (h : 0 ≤ n) : upi (put153 u o S n) (o + n) (S (312 + n)) = put153 u o S (n + 1) := funext fun j => by
  rw [upi_at]
  unfold put153
  by_cases e : j = o + n
  · rw [if_pos e, if_pos (by omega), e, show o + n - o = n by omega]
  · rw [if_neg e]
    by_cases c : o ≤ j ∧ j < o + n
    · rw [if_pos c, if_pos (by omega)]
    · rw [if_neg c, if_neg (by omega)]
def shf (u : Int → Int) (n : Int) : Int → Int := fun j => if 0 ≤ j ∧ j < n then u (j + 153) else u j
theorem shf_0 {u : Int → Int} : shf u 0 = u := funext fun j => by unfold shf; rw [if_neg (by omega)]
theorem shf_s {u : Int → Int} {n : Int} (h : 0 ≤ n) : upi (shf u n) n (u (n + 153)) = shf u (n + 1) := funext fun j => by
  rw [upi_at]
  unfold shf
  by_cases e : j = n
  · rw [if_pos e, if_pos (by omega), e]
  · rw [if_neg e]
    by_cases c : 0 ≤ j ∧ j < n
    · rw [if_pos c, if_pos (by omega)]
    · rw [if_neg c, if_neg (by omega)]
def kpU (u S : Int → Int) (m : Int) : Int → Int := if m = 8 then put153 (shf u 1071) 1071 S 153 else put153 u (153 * m) S 153
def kpM (m : Int) : Int := if m = 8 then 8 else m + 1
theorem sR_71 (X : XS) (S u u' : Int → Int) : sR (sR (sR X 71 0 u) 61 0 S) 71 0 u' = sR (sR X 71 0 u') 61 0 S := by
  rw [sR_cm _ 0 0 S u' (by decide), sR_sR]
theorem XR_71 (X : XS) (S u : Int → Int) : XR (sR (sR X 71 0 u) 61 0 S) 71 0 = u := rfl
theorem keep48 {f0 : Nat} {Y : YS} {X : XS} {S u : Int → Int} {m : Int} (g : GY Y) (Ws : WS S) (m0 : 0 ≤ m) (m8 : m < 8) (hm : XF X 12 0 29 = m) (hf : 200 ≤ f0) : bX12_keep_48 f0 f0 (Ad Y 12 0) (iI 0) (hp Y (sR (sR X 71 0 u) 61 0 S)) = some (hp Y (sR (sF (sR X 71 0 (put153 u (153 * m) S 153)) 12 0 29 (m + 1)) 61 0 S)) := by
  have hm2 : ∀ u', XF (sR (sR X 71 0 u') 61 0 S) 12 0 29 = m := fun u' => hm
  rw [show sR X 71 0 u = sR X 71 0 (put153 u (153 * m) S 0) by rw [put_0]]
  refine lp (fun f (i : Int) => bX12_keep_48 f0 f (Ad Y 12 0) (iI i) (hp Y (sR (sR X 71 0 (put153 u (153 * m) S i)) 61 0 S))) (fun i => 0 ≤ i ∧ i ≤ 153) (fun i => (154 - i).toNat) (fun r => r = _) ?_ f0 0 ⟨by omega, by omega⟩ (by omega)
  intro f i ⟨hi, hi2⟩
  by_cases c : (153 : Int) ≤ i
  · left
    simp (disch := first | assumption | omega) only [bX12_keep_48, g_12_29, g_12_27, g_12_6, p_12_29, l61, s61, l_71, s_71, li_0, li_1, li_153, li_312, iI_add, iI_mul, Option.bind_some, iI_le, if_pos c, hm2, sF_sR]
    rw [show i = 153 by omega]
  · right
    refine ⟨i + 1, ?_, ⟨by omega, by omega⟩, by omega⟩
    rw [← put_s hi]
    simp (disch := first | assumption | omega) only [bX12_keep_48, g_12_29, g_12_27, g_12_6, p_12_29, l61, s61, l_71, s_71, li_0, li_1, li_153, li_312, iI_add, iI_mul, Option.bind_some, iI_le, if_neg c, hm2, XR_71, sR_71]
theorem r_keep {f0 : Nat} {Y : YS} {X : XS} {S : Int → Int} (g : GY Y) (Ws : WS S) (hm : 0 ≤ XF X 12 0 29 ∧ XF X 12 0 29 ≤ 8) (hf : 2000 ≤ f0) : fX12_keep f0 (Ad Y 12 0) (hp Y (sR X 61 0 S)) = some (hp Y (sR (sF (sR X 71 0 (kpU (XR X 71 0) S (XF X 12 0 29))) 12 0 29 (kpM (XF X 12 0 29))) 61 0 S)) := by
  unfold kpU kpM
  by_cases c : XF X 12 0 29 = 8
  · rw [if_pos c, if_pos c]
    have z : fX12_keep f0 (Ad Y 12 0) (hp Y (sR X 61 0 S)) = bX12_keep_11 f0 f0 (Ad Y 12 0) (iI 0) (hp Y (sR (sR X 71 0 (shf (XR X 71 0) 0)) 61 0 S)) := by
      rw [shf_0, sR_self]
      simp (disch := first | assumption | omega) only [fX12_keep, g_12_29, li_8, li_0, Option.bind_some, iI_add, XF_sR, iI_eq, if_pos c]
    rw [z]
    refine lp (fun f (i : Int) => bX12_keep_11 f0 f (Ad Y 12 0) (iI i) (hp Y (sR (sR X 71 0 (shf (XR X 71 0) i)) 61 0 S))) (fun i => 0 ≤ i ∧ i ≤ 1071) (fun i => (1072 - i).toNat) (fun r => r = _) ?_ f0 0 ⟨by omega, by omega⟩ (by omega)
    intro f i ⟨hi, hi2⟩
    by_cases e : (1071 : Int) ≤ i
    · left
      have i7 : i = 1071 := by omega
      subst i7
      have k := keep48 (f0 := f0) (X := sF X 12 0 29 7) (u := shf (XR X 71 0) 1071) (m := 7) g Ws (by omega) (by omega) rfl (by omega)
      simp (disch := first | assumption | omega) only [bX12_keep_11, bX12_keep_46, g_12_27, p_12_29, l_71, s_71, li_0, li_1, li_1071, li_7, li_153, iI_add, Option.bind_some, iI_le, if_pos e, sF_sR]
      rw [k, sF_sR, sF_sF]
      rfl
    · right
      refine ⟨i + 1, ?_, ⟨by omega, by omega⟩, by omega⟩
      have s1 : shf (XR X 71 0) i (i + 153) = XR X 71 0 (i + 153) := by unfold shf; rw [if_neg (by omega)]
      rw [← shf_s hi]
      simp (disch := first | assumption | omega) only [bX12_keep_11, g_12_27, p_12_29, l_71, s_71, li_0, li_1, li_1071, li_7, li_153, iI_add, Option.bind_some, iI_le, if_neg e, XR_71, sR_71, s1]
  · rw [if_neg c, if_neg c]
    have k := keep48 (f0 := f0) (X := X) (u := XR X 71 0) (m := XF X 12 0 29) g Ws hm.1 (by omega) rfl (by omega)
    rw [sR_self] at k
    simp (disch := first | assumption | omega) only [fX12_keep, bX12_keep_46, g_12_29, li_8, li_0, Option.bind_some, iI_add, XF_sR, iI_eq, if_neg c, k]
/-- blocks of s taken back -/
def tkB (S u : Int → Int) (o n : Int) : Int → Int := fun j => if 312 ≤ j ∧ j < 312 + n then u (o + (j - 312)) else S j
theorem tkB_0 {u S : Int → Int} {o : Int} : tkB S u o 0 = S := funext fun j => by unfold tkB; rw [if_neg (by omega)]
theorem tkB_s {u S : Int → Int} {o n : Int} (h : 0 ≤ n) : upi (tkB S u o n) (312 + n) (u (o + n)) = tkB S u o (n + 1) := funext fun j => by
  rw [upi_at]
  unfold tkB
  by_cases e : j = 312 + n
  · rw [if_pos e, if_pos (by omega), e, show 312 + n - 312 = n by omega]
  · rw [if_neg e]
    by_cases c : 312 ≤ j ∧ j < 312 + n
    · rw [if_pos c, if_pos (by omega)]
    · rw [if_neg c, if_neg (by omega)]
theorem tkB_blk {u S : Int → Int} {o : Int} : tkB S u o 153 = blk S u o := rfl
theorem XR_61b (X : XS) (S : Int → Int) : XR (sR X 61 0 S) 61 0 = S := rfl
theorem r_undo26 {f0 : Nat} {Y : YS} {X : XS} {S : Int → Int} {m : Int} (g : GY Y) (W : WF X) (Ws : WS S) (hm : XF X 12 0 29 = m) (m0 : 0 ≤ m) (m8 : m < 8) (hf : 200 ≤ f0) : bX12_undo_26 f0 f0 (Ad Y 12 0) (iI 0) (hp Y (sR X 61 0 S)) = some (iI m, hp Y (sR X 61 0 (blk S (XR X 71 0) (153 * m)))) := by
  have hm2 : ∀ S', XF (sR X 61 0 S') 12 0 29 = m := fun S' => hm
  rw [← tkB_blk]
  conv => lhs; rw [show S = tkB S (XR X 71 0) (153 * m) 0 from tkB_0.symm]
  refine lp (fun f (i : Int) => bX12_undo_26 f0 f (Ad Y 12 0) (iI i) (hp Y (sR X 61 0 (tkB S (XR X 71 0) (153 * m) i)))) (fun i => 0 ≤ i ∧ i ≤ 153) (fun i => (154 - i).toNat) (fun r => r = _) ?_ f0 0 ⟨by omega, by omega⟩ (by omega)
  intro f i ⟨hi, hi2⟩
  by_cases c : (153 : Int) ≤ i
  · left
    simp (disch := first | assumption | omega) only [bX12_undo_26, g_12_29, g_12_6, g_12_27, l61, s61, l_71, s_71, li_0, li_1, li_153, li_312, iI_add, iI_mul, Option.bind_some, iI_le, if_pos c, hm2]
    rw [show i = 153 by omega]
  · right
    refine ⟨i + 1, ?_, ⟨by omega, by omega⟩, by omega⟩
    have wv : wr (XR X 71 0 (153 * m + i)) = XR X 71 0 (153 * m + i) := wr_id (W_rl W _ _ _) (W_rh W _ _ _)
    rw [← tkB_s hi]
    simp (disch := first | assumption | omega) only [bX12_undo_26, g_12_29, g_12_6, g_12_27, l61, s61, l_71, s_71, li_0, li_1, li_153, li_312, iI_add, iI_mul, Option.bind_some, iI_le, if_neg c, hm2, XR_r71, wv]
theorem r_tries {f0 : Nat} {Y : YS} {X : XS} {S : Int → Int} (g : GY Y) (Ws : WS S) (hf : 200 ≤ f0) : fX12_tries f0 (Ad Y 12 0) (hp Y (sR X 61 0 S)) = some (hp Y (sR (sR X 72 0 (put153 (XR X 72 0) 0 S 153)) 61 0 S)) := by
  have z : fX12_tries f0 (Ad Y 12 0) (hp Y (sR X 61 0 S)) = bX12_tries_2 f0 f0 (Ad Y 12 0) (iI 0) (hp Y (sR (sR X 72 0 (put153 (XR X 72 0) 0 S 0)) 61 0 S)) := by
    rw [put_0, sR_self]; rfl
  rw [z]
  refine lp (fun f (i : Int) => bX12_tries_2 f0 f (Ad Y 12 0) (iI i) (hp Y (sR (sR X 72 0 (put153 (XR X 72 0) 0 S i)) 61 0 S))) (fun i => 0 ≤ i ∧ i ≤ 153) (fun i => (154 - i).toNat) (fun r => r = _) ?_ f0 0 ⟨by omega, by omega⟩ (by omega)
  intro f i ⟨hi, hi2⟩
  have s72 : ∀ u u', sR (sR (sR X 72 0 u) 61 0 S) 72 0 u' = sR (sR X 72 0 u') 61 0 S := fun u u' => by rw [sR_cm _ 0 0 S u' (by decide), sR_sR]
  have x72 : ∀ u, XR (sR (sR X 72 0 u) 61 0 S) 72 0 = u := fun u => rfl
  by_cases c : (153 : Int) ≤ i
  · left
    simp (disch := first | assumption | omega) only [bX12_tries_2, g_12_28, g_12_6, l61, s61, l_72, s_72, li_0, li_1, li_153, li_312, iI_add, Option.bind_some, iI_le, if_pos c]
    rw [show i = 153 by omega]
  · right
    refine ⟨i + 1, ?_, ⟨by omega, by omega⟩, by omega⟩
    rw [← put_s hi, Int.zero_add]
    simp (disch := first | assumption | omega) only [bX12_tries_2, g_12_28, g_12_6, l61, s61, l_72, s_72, li_0, li_1, li_153, li_312, iI_add, Option.bind_some, iI_le, if_neg c, x72, s72]
theorem r_back {f0 : Nat} {Y : YS} {X : XS} {S : Int → Int} (g : GY Y) (W : WF X) (Ws : WS S) (hf : 200 ≤ f0) : fX12_back f0 (Ad Y 12 0) (hp Y (sR X 61 0 S)) = some (hp Y (sR X 61 0 (blk S (XR X 72 0) 0))) := by
  rw [← tkB_blk]
  have z : fX12_back f0 (Ad Y 12 0) (hp Y (sR X 61 0 S)) = bX12_back_2 f0 f0 (Ad Y 12 0) (iI 0) (hp Y (sR X 61 0 (tkB S (XR X 72 0) 0 0))) := by rw [tkB_0]; rfl
  rw [z]
  refine lp (fun f (i : Int) => bX12_back_2 f0 f (Ad Y 12 0) (iI i) (hp Y (sR X 61 0 (tkB S (XR X 72 0) 0 i)))) (fun i => 0 ≤ i ∧ i ≤ 153) (fun i => (154 - i).toNat) (fun r => r = _) ?_ f0 0 ⟨by omega, by omega⟩ (by omega)
  intro f i ⟨hi, hi2⟩
  by_cases c : (153 : Int) ≤ i
  · left
    simp (disch := first | assumption | omega) only [bX12_back_2, g_12_6, g_12_28, l61, s61, l_72, s_72, li_0, li_1, li_153, li_312, iI_add, Option.bind_some, iI_le, if_pos c]
    rw [show i = 153 by omega]
  · right
    refine ⟨i + 1, ?_, ⟨by omega, by omega⟩, by omega⟩
    have wv : wr (XR X 72 0 i) = XR X 72 0 i := wr_id (W_rl W _ _ _) (W_rh W _ _ _)
    rw [← tkB_s hi, Int.zero_add]
    simp (disch := first | assumption | omega) only [bX12_back_2, g_12_6, g_12_28, l61, s61, l_72, s_72, li_0, li_1, li_153, li_312, iI_add, Option.bind_some, iI_le, if_neg c, XR_r72, wv]
