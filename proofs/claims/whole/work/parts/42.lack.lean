/-! WHO PLAYS WHAT: counting by bits -/
def cnt (p : Int → Bool) : Nat → Int
  | 0 => 0
  | n + 1 => cnt p n + (if p (n : Int) = true then 1 else 0)
theorem cnt_s {p : Int → Bool} {i : Int} (h : 0 ≤ i) : cnt p (i + 1).toNat = cnt p i.toNat + (if p i = true then 1 else 0) := by
  rw [show (i + 1).toNat = i.toNat + 1 by omega, cnt, show ((i.toNat : Nat) : Int) = i by omega]
theorem cnt_rg (p : Int → Bool) : ∀ n : Nat, 0 ≤ cnt p n ∧ cnt p n ≤ n
  | 0 => by simp [cnt]
  | n + 1 => by
    have := cnt_rg p n
    rw [cnt]; split <;> omega
def pc (n : Nat) : Int := cnt (fun i => n.testBit i.toNat) 10
theorem bc_all : ∀ x : Nat, x < 1024 → (fJ6_bitCount_0f7a4 0 (iI (x : Int)) (fun _ => dead)).map Prod.fst = some (iI (pc x)) := by decide +kernel
theorem bc_e {f0 x : Nat} {h : Hp} (hx : x < 1024) : fJ6_bitCount_0f7a4 f0 (iI (x : Int)) h = some (iI (pc x), h) := by
  have e : fJ6_bitCount_0f7a4 f0 (iI (x : Int)) h = ((fJ6_bitCount_0f7a4 0 (iI (x : Int)) (fun _ => dead)).map Prod.fst).map (fun z => (z, h)) := rfl
  rw [e, bc_all x hx]; rfl
def clr (a b : Nat) : Nat := (a ||| 2 ^ b) ^^^ 2 ^ b
theorem clr_bit (a b i : Nat) : (clr a b).testBit i = (a.testBit i && !decide (i = b)) := by
  unfold clr
  rw [Nat.testBit_xor, Nat.testBit_or]
  by_cases h : i = b
  · subst h; simp [Nat.testBit_two_pow_self]
  · rw [Nat.testBit_two_pow_of_ne (Ne.symm h)]; simp [h]
theorem clr_all : ∀ b : Nat, b < 10 → ∀ a : Nat, a < 1024 → iI (a : Int) &&& (iI ((2 ^ b : Nat) : Int) ^^^ iI (-1)) = iI (clr a b : Int) ∧ clr a b ≤ a := by decide +kernel
theorem ii_clr {a : Nat} {b : Int} (ha : a < 1024) (h0 : 0 ≤ b) (h1 : b < 10) : iI (a : Int) &&& (iI (pw b) ^^^ iI (-1)) = iI (clr a b.toNat : Int) := (clr_all b.toNat (by omega) a ha).1
theorem clr_le {a b : Nat} (ha : a < 1024) (hb : b < 10) : clr a b ≤ a := (clr_all b hb a ha).2
theorem ii_and {a : Int} {b : Nat} (h : 0 ≤ a) : iI a &&& iI (b : Int) = iI ((a.toNat &&& b : Nat) : Int) := by
  rw [show iI a = iI ((a.toNat : Nat) : Int) from congrArg iI (by omega), ib_and]
theorem ii_bitN {a : Nat} {b : Int} (h1 : a < 2147483648) (h2 : 0 ≤ b) (h3 : b < 32) : (iI (a : Int) >>> (iI b &&& iI 31)) &&& iI 1 = bI (a.testBit b.toNat = true) := by
  rw [ii_bit (by omega) (by omega) h2 h3]; rfl
/-- of the men in M, those who know one of T -/
def kwB (sk : Int → Int) (T M : Nat) : Int → Bool := fun m => M.testBit m.toNat && decide (¬ (sk m).toNat &&& T = 0)
def knw (sk : Int → Int) (T M : Nat) : Int := cnt (kwB sk T M) 8
theorem d_knowers {f0 : Nat} {Y : YS} {X : XS} {k : Nat} {d : D5} (g : GY Y) (hk : k < 10) (W : WF X) (Wd : WD d) (hd : CD X d) {T M : Nat} (hT : T < 64) (hM : M < 256) (hf : 20 ≤ f0) : fX10_knowers f0 (Ad Y 10 k) (iI (T : Int)) (iI (M : Int)) (hp Y (shS X k d)) = some (iI (knw d.2.2.2.1 T M), hp Y (shS X k d)) := by
  have gk := ShO_k g hk
  simp only [fX10_knowers, li_0]
  refine lp (fun f (i : Int) => bX10_knowers_5 f0 f (Ad Y 10 k) (iI (T : Int)) (iI (M : Int)) (iI (cnt (kwB d.2.2.2.1 T M) i.toNat)) (iI i) (hp Y (shS X k d))) (fun i => 0 ≤ i ∧ i ≤ 8) (fun i => (17 - i).toNat) (fun r => r = _) ?_ f0 0 ⟨by omega, by omega⟩ (by omega)
  intro f i ⟨hi, hk⟩
  by_cases c : 8 ≤ i
  · left
    simp (disch := first | assumption | omega | exact W_fl W _ _ _ | exact W_fh W _ _ _ | exact W_rl W _ _ _ | exact W_rh W _ _ _ | exact Wd_fl Wd _ | exact Wd_fh Wd _ | exact Wd_4l Wd _ | exact Wd_4h Wd _ | exact Wd_1l Wd _ | exact Wd_1h Wd _ | exact Wd_2l Wd _ | exact Wd_2h Wd _ | exact Wd_3l Wd _ | exact Wd_3h Wd _) only [iI_lt, iI_le, iI_eq, bI_i0, ite_n, ii_bit, ii_one, iI_or, bX10_knowers_5, g_10_11, l_45, li_0, li_1, li_8, li_31, iI_add, Option.bind_some, if_pos c]
    rw [show i = 8 by omega]; rfl
  · right
    refine ⟨i + 1, ?_, ⟨by omega, by omega⟩, by omega⟩
    have hs := hd.2.2.2.2.2.2.1 i hi (by omega)
    rw [cnt_s hi]
    have ha : (d.2.2.2.1 i).toNat &&& T < 64 := Nat.lt_of_le_of_lt Nat.and_le_right hT
    by_cases a : M.testBit i.toNat = true
    · by_cases b : (d.2.2.2.1 i).toNat &&& T = 0
      · have b' : (((d.2.2.2.1 i).toNat &&& T : Nat) : Int) = 0 := by omega
        rw [if_neg (show ¬ kwB d.2.2.2.1 T M i = true by simp [kwB, b])]
        simp (disch := first | assumption | omega | exact W_fl W _ _ _ | exact W_fh W _ _ _ | exact W_rl W _ _ _ | exact W_rh W _ _ _ | exact Wd_fl Wd _ | exact Wd_fh Wd _ | exact Wd_4l Wd _ | exact Wd_4h Wd _ | exact Wd_1l Wd _ | exact Wd_1h Wd _ | exact Wd_2l Wd _ | exact Wd_2h Wd _ | exact Wd_3l Wd _ | exact Wd_3h Wd _) only [bX10_knowers_5, bX10_knowers_36, g_10_11, l_45, li_0, li_1, li_8, li_31, iI_add, Option.bind_some, XF_shk, XF_sh6, XF_sh12, XF_sh11, XF_sh4, XR_sh43, XR_sh44, XR_sh45, XR_sh46, XR_sh25, XR_sh26, XR_sh27, XR_sh28, XR_sh29, XR_sh31, XR_sh32, XR_sh33, XR_sh34, XR_sh35, sF_sh, sR_sh43, sR_sh44, sR_sh45, sR_sh46, XJ_sh, XP_sh, XM_sh, iI_le, iI_eq, ii_bitN, ii_and, bI_i0, ite_n, if_neg c, if_pos a, if_pos b', Int.add_zero]
      · have b' : ¬ (((d.2.2.2.1 i).toNat &&& T : Nat) : Int) = 0 := by omega
        rw [if_pos (show kwB d.2.2.2.1 T M i = true by simp [kwB, a, b])]
        simp (disch := first | assumption | omega | exact W_fl W _ _ _ | exact W_fh W _ _ _ | exact W_rl W _ _ _ | exact W_rh W _ _ _ | exact Wd_fl Wd _ | exact Wd_fh Wd _ | exact Wd_4l Wd _ | exact Wd_4h Wd _ | exact Wd_1l Wd _ | exact Wd_1h Wd _ | exact Wd_2l Wd _ | exact Wd_2h Wd _ | exact Wd_3l Wd _ | exact Wd_3h Wd _) only [bX10_knowers_5, bX10_knowers_36, g_10_11, l_45, li_0, li_1, li_8, li_31, iI_add, Option.bind_some, XF_shk, XF_sh6, XF_sh12, XF_sh11, XF_sh4, XR_sh43, XR_sh44, XR_sh45, XR_sh46, XR_sh25, XR_sh26, XR_sh27, XR_sh28, XR_sh29, XR_sh31, XR_sh32, XR_sh33, XR_sh34, XR_sh35, sF_sh, sR_sh43, sR_sh44, sR_sh45, sR_sh46, XJ_sh, XP_sh, XM_sh, iI_le, iI_eq, ii_bitN, ii_and, bI_i0, ite_n, if_neg c, if_pos a, if_neg b']
    · rw [if_neg (show ¬ kwB d.2.2.2.1 T M i = true by simp [kwB, a])]
      simp (disch := first | assumption | omega | exact W_fl W _ _ _ | exact W_fh W _ _ _ | exact W_rl W _ _ _ | exact W_rh W _ _ _ | exact Wd_fl Wd _ | exact Wd_fh Wd _ | exact Wd_4l Wd _ | exact Wd_4h Wd _ | exact Wd_1l Wd _ | exact Wd_1h Wd _ | exact Wd_2l Wd _ | exact Wd_2h Wd _ | exact Wd_3l Wd _ | exact Wd_3h Wd _) only [bX10_knowers_5, bX10_knowers_36, g_10_11, l_45, li_0, li_1, li_8, li_31, iI_add, Option.bind_some, XF_shk, XF_sh6, XF_sh12, XF_sh11, XF_sh4, XR_sh43, XR_sh44, XR_sh45, XR_sh46, XR_sh25, XR_sh26, XR_sh27, XR_sh28, XR_sh29, XR_sh31, XR_sh32, XR_sh33, XR_sh34, XR_sh35, sF_sh, sR_sh43, sR_sh44, sR_sh45, sR_sh46, XJ_sh, XP_sh, XM_sh, iI_le, iI_eq, ii_bitN, ii_and, bI_i0, ite_n, if_neg c, if_neg a, Int.add_zero]
/-- the greatest of g below n, and of 0 -/
def mx (g : Nat → Int) : Nat → Int
  | 0 => 0
  | n + 1 => if mx g n < g n then g n else mx g n
theorem mx_0 (g : Nat → Int) : ∀ n, 0 ≤ mx g n
  | 0 => by simp [mx]
  | n + 1 => by have := mx_0 g n; rw [mx]; split <;> omega
theorem mx_le (g : Nat → Int) : ∀ n i, i < n → g i ≤ mx g n
  | 0, i, h => by omega
  | n + 1, i, h => by
    rw [mx]
    by_cases e : i = n
    · subst e; split <;> omega
    · have := mx_le g n i (by omega)
      split <;> omega
theorem mx_is (g : Nat → Int) : ∀ n, mx g n = 0 ∨ ∃ i, i < n ∧ g i = mx g n
  | 0 => .inl rfl
  | n + 1 => by
    rw [mx]
    split
    · exact .inr ⟨n, by omega, rfl⟩
    · rcases mx_is g n with h | ⟨i, h1, h2⟩
      · exact .inl h
      · exact .inr ⟨i, by omega, h2⟩
theorem mx_char {g : Nat → Int} {n : Nat} {v : Int} (h0 : 0 ≤ v) (h1 : ∀ i, i < n → g i ≤ v) (h2 : v = 0 ∨ ∃ i, i < n ∧ g i = v) : v = mx g n := by
  have a := mx_0 g n
  apply Int.le_antisymm
  · rcases h2 with h | ⟨i, hi, e⟩
    · omega
    · rw [← e]; exact mx_le g n i hi
  · rcases mx_is g n with h | ⟨i, hi, e⟩
    · omega
    · rw [← e]; exact h1 i hi
def lkV (sk : Int → Int) (a M T : Nat) : Int := if T &&& a = T then pc T - knw sk T M else 0
/-- by how much some of the roles a outnumber those of the men M who know one of them, at most -/
def lackF (sk : Int → Int) (a M : Nat) : Int := mx (lkV sk a M) 64
theorem sub_next : ∀ a : Nat, a < 64 → ∀ s : Nat, s < 64 → s &&& a = s → ∀ t : Nat, t < s → t &&& a = t → t ≤ (s - 1) &&& a := by decide +kernel
theorem pc_rg (n : Nat) : 0 ≤ pc n ∧ pc n ≤ 10 := cnt_rg _ 10
theorem knw_rg (sk : Int → Int) (T M : Nat) : 0 ≤ knw sk T M ∧ knw sk T M ≤ 8 := cnt_rg _ 8
theorem lkV_rg (sk : Int → Int) (a M T : Nat) : lkV sk a M T ≤ 10 := by
  unfold lkV
  have := pc_rg T; have := knw_rg sk T M
  split <;> omega
theorem lackF_rg (sk : Int → Int) (a M : Nat) : 0 ≤ lackF sk a M ∧ lackF sk a M ≤ 10 := by
  refine ⟨mx_0 _ _, ?_⟩
  rcases mx_is (lkV sk a M) 64 with h | ⟨i, _, h⟩
  · unfold lackF; omega
  · unfold lackF; rw [← h]; exact lkV_rg sk a M i
theorem d_lacking {f0 : Nat} {Y : YS} {X : XS} {k : Nat} {d : D5} (g : GY Y) (hk : k < 10) (W : WF X) (Wd : WD d) (hd : CD X d) {a M : Nat} (ha : a < 64) (hM : M < 256) (hf : 100 ≤ f0) : fX10_lacking f0 (Ad Y 10 k) (iI (a : Int)) (iI (M : Int)) (hp Y (shS X k d)) = some (iI (lackF d.2.2.2.1 a M), hp Y (shS X k d)) := by
  have gk := ShO_k g hk
  simp only [fX10_lacking, li_0]
  refine lp (fun f (s : Int × Nat) => bX10_lacking_5 f0 f (Ad Y 10 k) (iI (a : Int)) (iI (M : Int)) (iI s.1) (iI (s.2 : Int)) (hp Y (shS X k d))) (fun s => (0 ≤ s.1 ∧ s.1 ≤ 10) ∧ s.2 ≤ a ∧ s.2 &&& a = s.2 ∧ (∀ T : Nat, s.2 < T → T < 64 → lkV d.2.2.2.1 a M T ≤ s.1) ∧ (s.1 = 0 ∨ ∃ T : Nat, T < 64 ∧ lkV d.2.2.2.1 a M T = s.1)) (fun s => s.2) (fun r => r = _) ?_ f0 (0, a) ⟨⟨by omega, by omega⟩, Nat.le_refl a, Nat.and_self a, fun T h1 h2 => ?_, .inl rfl⟩ (by simp only []; omega)
  · intro f s ⟨⟨h0, h10⟩, h1, h2, h3, h4⟩
    by_cases c : s.2 = 0
    · left
      have c' : (s.2 : Int) ≤ 0 := by omega
      simp (disch := first | assumption | omega | exact W_fl W _ _ _ | exact W_fh W _ _ _ | exact W_rl W _ _ _ | exact W_rh W _ _ _ | exact Wd_fl Wd _ | exact Wd_fh Wd _ | exact Wd_4l Wd _ | exact Wd_4h Wd _ | exact Wd_1l Wd _ | exact Wd_1h Wd _ | exact Wd_2l Wd _ | exact Wd_2h Wd _ | exact Wd_3l Wd _ | exact Wd_3h Wd _) only [iI_lt, iI_le, iI_eq, bI_i0, ite_n, ii_bit, ii_one, iI_or, bX10_lacking_5, k_10, li_0, li_1, ob2, iI_add, iI_sub, Option.bind_some, if_pos c']
      rw [show lackF d.2.2.2.1 a M = s.1 from (mx_char h0 (fun i hi => ?_) h4).symm]
      by_cases z : i = 0
      · subst z
        have : lkV d.2.2.2.1 a M 0 = 0 := by
          have e : knw d.2.2.2.1 0 M = 0 := by
            unfold knw
            have : ∀ n, cnt (kwB d.2.2.2.1 0 M) n = 0 := fun n => by
              induction n with
              | zero => rfl
              | succ n ih => rw [cnt, ih, if_neg (by simp [kwB])]; rfl
            exact this 8
          unfold lkV
          rw [e, if_pos (Nat.zero_and a)]; rfl
        omega
      · exact h3 i (by omega) hi
    · right
      have c' : ¬ (s.2 : Int) ≤ 0 := by omega
      have r1 := pc_rg s.2; have r2 := knw_rg d.2.2.2.1 s.2 M
      refine ⟨(if s.1 < pc s.2 - knw d.2.2.2.1 s.2 M then pc s.2 - knw d.2.2.2.1 s.2 M else s.1, (s.2 - 1) &&& a), ?_, ⟨⟨?_, ?_⟩, Nat.and_le_right, ?_, ?_, ?_⟩, ?_⟩
      · have e1 : iI ((s.2 : Int) - 1) = iI (((s.2 - 1 : Nat)) : Int) := congrArg iI (by omega)
        simp (disch := first | omega | first | assumption | omega | exact W_fl W _ _ _ | exact W_fh W _ _ _ | exact W_rl W _ _ _ | exact W_rh W _ _ _ | exact Wd_fl Wd _ | exact Wd_fh Wd _ | exact Wd_4l Wd _ | exact Wd_4h Wd _ | exact Wd_1l Wd _ | exact Wd_1h Wd _ | exact Wd_2l Wd _ | exact Wd_2h Wd _ | exact Wd_3l Wd _ | exact Wd_3h Wd _) only [bX10_lacking_5, k_10, li_0, li_1, ob2, iI_add, iI_sub, Option.bind_some, bc_e, d_knowers, iI_le, iI_lt, if_neg c', iI_ite, e1, ib_and]
      · simp only []; split <;> omega
      · simp only []; split <;> omega
      · simp only []; rw [Nat.and_assoc, Nat.and_self]
      · intro T hT hT64
        simp only [] at hT ⊢
        by_cases q : T = s.2
        · subst q
          have : lkV d.2.2.2.1 a M s.2 = pc s.2 - knw d.2.2.2.1 s.2 M := by unfold lkV; rw [if_pos h2]
          split <;> omega
        · by_cases q2 : s.2 < T
          · have := h3 T q2 hT64
            split <;> omega
          · by_cases q3 : T &&& a = T
            · have := sub_next a ha s.2 (by omega) h2 T (by omega) q3
              omega
            · have : lkV d.2.2.2.1 a M T = 0 := by unfold lkV; rw [if_neg q3]
              split <;> omega
      · simp only []
        split
        · refine .inr ⟨s.2, by omega, ?_⟩
          unfold lkV; rw [if_pos h2]
        · exact h4
      · have : (s.2 - 1) &&& a ≤ s.2 - 1 := Nat.and_le_left
        simp only []; omega
  · unfold lkV
    rw [if_neg]
    · omega
    · intro q
      have : T &&& a ≤ a := Nat.and_le_right
      simp only [] at h1
      omega
