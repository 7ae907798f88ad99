/-! THE REFERENCE TAKES A SEA -/
def b1S (S : Int → Int) (v : Int) : Int → Int := upi (upi (upi S 315 (-1)) 318 v) 464 v
def b2S (S : Int → Int) (k : Int) : Int → Int := fun j => if 328 ≤ j ∧ j < 328 + k then S (j - 56) else S j
def b3S (S : Int → Int) (k : Int) : Int → Int := fun j => if 336 ≤ j ∧ j < 336 + k then (if 0 < S (j - 200) then 1 else 0) else S j
def bgS (S : Int → Int) : Int → Int := b3S (b2S (b1S S (if isSe S then 1 else 0)) 8) 64
theorem bg_lo {S : Int → Int} {j : Int} (h : j < 312) : bgS S j = S j := by
  unfold bgS b3S b2S b1S
  rw [if_neg (by omega), if_neg (by omega), upi_at, if_neg (by omega), upi_at, if_neg (by omega), upi_at, if_neg (by omega)]
theorem bg_hi {S : Int → Int} {j : Int} (h : 464 < j) : bgS S j = S j := by
  unfold bgS b3S b2S b1S
  rw [if_neg (by omega), if_neg (by omega), upi_at, if_neg (by omega), upi_at, if_neg (by omega), upi_at, if_neg (by omega)]
theorem bg_W {S : Int → Int} (h : WS S) : WS (bgS S) := fun j => by
  unfold bgS b3S b2S b1S
  (repeat' split) <;> first | exact ⟨by decide, by decide⟩ | (simp only [upi_at]; (repeat' split) <;> first | exact ⟨by decide, by decide⟩ | exact h _)
def bgZ (Z : XS) (S : Int → Int) : XS := sR (sR (sR Z 61 0 (bgS S)) 66 0 (fwG 8 8 (dgT (ini0 (fun i => bgS S (8 + i)) (XR Z 66 0) 64) 8))) 67 0 (fwG 8 8 (dgT (ini0 (fun i => bgS S (72 + i)) (XR Z 67 0) 64) 8))
theorem r_begins {f0 : Nat} {Y : YS} {Z : XS} {S : Int → Int} (g : GY Y) (W : WF Z) (Ws : WS S) (h8 : ∀ i, 0 ≤ i → i < 64 → 0 ≤ S (8 + i) ∧ S (8 + i) ≤ 1000) (h72 : ∀ i, 0 ≤ i → i < 64 → 0 ≤ S (72 + i) ∧ S (72 + i) ≤ 1000) (hf : 200 ≤ f0) : fX12_begins f0 (Ad Y 12 0) (hp Y (sR Z 61 0 S)) = some (hp Y (bgZ Z S)) := by
  obtain ⟨v, hv⟩ : ∃ v : Int, v = if isSe S then 1 else 0 := ⟨_, rfl⟩
  have v01 : v = 0 ∨ v = 1 := by rw [hv]; split; exact .inr rfl; exact .inl rfl
  have w1 : wr (-1) = -1 := by decide
  have wv : wr v = v := wr_id (by omega) (by omega)
  have W1 : WS (upi S 315 (-1)) := fun j => by rw [upi_at]; split; exact ⟨by decide, by decide⟩; exact Ws j
  have W2 : WS (upi (upi S 315 (-1)) 318 v) := fun j => by rw [upi_at]; split; exact ⟨by omega, by omega⟩; exact W1 j
  have W3 : WS (b1S S v) := fun j => by unfold b1S; rw [upi_at]; split; exact ⟨by omega, by omega⟩; exact W2 j
  have i1 : fX12_isSea f0 (Ad Y 12 0) (hp Y (sR Z 61 0 (upi S 315 (-1)))) = some (bI (isSe S), hp Y (sR Z 61 0 (upi S 315 (-1)))) := r_isSea (f0 := f0) (X := Z) g W W1
  have i2 : fX12_isSea f0 (Ad Y 12 0) (hp Y (sR Z 61 0 (upi (upi S 315 (-1)) 318 v))) = some (bI (isSe S), hp Y (sR Z 61 0 (upi (upi S 315 (-1)) 318 v))) := r_isSea (f0 := f0) (X := Z) g W W2
  have a1 : fX12_begins f0 (Ad Y 12 0) (hp Y (sR Z 61 0 S)) = bX12_begins_51 f0 f0 (Ad Y 12 0) (iI 0) (hp Y (sR Z 61 0 (b2S (b1S S v) 0))) := by
    have : b2S (b1S S v) 0 = b1S S v := funext fun j => by unfold b2S; rw [if_neg (by omega)]
    rw [this]
    by_cases k : isSe S
    · rw [if_pos k] at hv
      subst hv
      simp (disch := first | assumption | omega) only [fX12_begins, bX12_begins_28, bX12_begins_48, g_12_6, k_12, s61, lm_1, li_315, li_1, li_0, li_318, ob2, li_464, Option.bind_some, iI_add, iI_neg, s61, iI_neg, w1, i1, bI_i0, ite_n, if_pos k, show wr 1 = 1 from rfl, i2]
      rfl
    · rw [if_neg k] at hv
      subst hv
      simp (disch := first | assumption | omega) only [fX12_begins, bX12_begins_28, bX12_begins_48, g_12_6, k_12, s61, lm_1, li_315, li_1, li_0, li_318, ob2, li_464, Option.bind_some, iI_add, iI_neg, s61, iI_neg, w1, i1, bI_i0, ite_n, if_neg k, show wr 0 = 0 from rfl, i2]
      rfl
  rw [a1]
  have e23 : bgS S = b3S (b2S (b1S S v) 8) 64 := by unfold bgS; rw [hv]
  have q8 : ∀ i, 0 ≤ i → i < 64 → 0 ≤ bgS S (8 + i) ∧ bgS S (8 + i) ≤ 1000 := fun i i0 i1 => by rw [bg_lo (by omega)]; exact h8 i i0 i1
  have q72 : ∀ i, 0 ≤ i → i < 64 → 0 ≤ bgS S (72 + i) ∧ bgS S (72 + i) ≤ 1000 := fun i i0 i1 => by rw [bg_lo (by omega)]; exact h72 i i0 i1
  have y1 := r_ways_8 (f0 := f0) (Y := Y) (Z := sR Z 61 0 (bgS S)) (S := bgS S) g rfl q8 hf
  have y2 := r_ways_72 (f0 := f0) (Y := Y) (Z := sR (sR Z 61 0 (bgS S)) 66 0 (fwG 8 8 (dgT (ini0 (fun i => bgS S (8 + i)) (XR Z 66 0) 64) 8))) (S := bgS S) g rfl q72 hf
  have y1' : fX12_waysOf f0 (Ad Y 12 0) (iI 8) (Ad Y 66 0) (hp Y (sR Z 61 0 (bgS S))) = some (hp Y (sR (sR Z 61 0 (bgS S)) 66 0 (fwG 8 8 (dgT (ini0 (fun i => bgS S (8 + i)) (XR Z 66 0) 64) 8)))) := y1
  have y2' : fX12_waysOf f0 (Ad Y 12 0) (iI 72) (Ad Y 67 0) (hp Y (sR (sR Z 61 0 (bgS S)) 66 0 (fwG 8 8 (dgT (ini0 (fun i => bgS S (8 + i)) (XR Z 66 0) 64) 8)))) = some (hp Y (bgZ Z S)) := y2
  have l85 : bX12_begins_85 f0 f0 (Ad Y 12 0) (iI 0) (hp Y (sR Z 61 0 (b3S (b2S (b1S S v) 8) 0))) = some (hp Y (bgZ Z S)) := by
    refine lp (fun f (k : Int) => bX12_begins_85 f0 f (Ad Y 12 0) (iI k) (hp Y (sR Z 61 0 (b3S (b2S (b1S S v) 8) k)))) (fun k => 0 ≤ k ∧ k ≤ 64) (fun k => (65 - k).toNat) (fun z => z = _) ?_ f0 0 ⟨by omega, by omega⟩ (by show (65 - (0 : Int)).toNat < f0; omega)
    rintro f k ⟨k0, k1⟩
    by_cases c : (64 : Int) ≤ k
    · left
      have ke : k = 64 := by omega
      subst ke
      rw [← e23]
      simp (disch := first | assumption | omega) only [bX12_begins_85, g_12_21, g_12_22, g_12_6, k_12, l61, l_66, l_67, li_0, li_1, li_64, li_8, li_72, li_136, li_336, iI_add, Option.bind_some, iI_le, if_pos c, y1', y2']
    · right
      refine ⟨k + 1, ?_, ⟨by omega, by omega⟩, by show (65 - (k + 1)).toNat < (65 - k).toNat; omega⟩
      have rd : b3S (b2S (b1S S v) 8) k (136 + k) = b2S (b1S S v) 8 (136 + k) := by unfold b3S; rw [if_neg (by omega)]
      have rg : Rg (b2S (b1S S v) 8 (136 + k)) := by unfold b2S; split <;> exact W3 _
      have g1 := rg.1; have g2 := rg.2
      have st : ∀ x, x = (if 0 < b2S (b1S S v) 8 (136 + k) then (1 : Int) else 0) → upi (b3S (b2S (b1S S v) 8) k) (336 + k) x = b3S (b2S (b1S S v) 8) (k + 1) := fun x hx => funext fun j => by
        rw [upi_at]; unfold b3S
        by_cases e : j = 336 + k
        · rw [if_pos e, if_pos (by omega), hx, e, show 336 + k - 200 = 136 + k by omega]
        · rw [if_neg e]
          by_cases q : 336 ≤ j ∧ j < 336 + k
          · rw [if_pos q, if_pos (show 336 ≤ j ∧ j < 336 + (k + 1) by omega)]
          · rw [if_neg q, if_neg (show ¬ (336 ≤ j ∧ j < 336 + (k + 1)) by omega)]
      by_cases d : b2S (b1S S v) 8 (136 + k) ≤ 0
      · rw [← st 0 (by rw [if_neg (by omega)])]
        simp (disch := first | assumption | omega) only [bX12_begins_85, bX12_begins_118, g_12_21, g_12_22, g_12_6, k_12, l61, l_66, l_67, li_0, li_1, li_64, li_8, li_72, li_136, li_336, iI_add, Option.bind_some, s61, iI_le, if_neg c, rd, if_pos d, show wr 0 = 0 from rfl]
      · rw [← st 1 (by rw [if_pos (by omega)])]
        simp (disch := first | assumption | omega) only [bX12_begins_85, bX12_begins_118, g_12_21, g_12_22, g_12_6, k_12, l61, l_66, l_67, li_0, li_1, li_64, li_8, li_72, li_136, li_336, iI_add, Option.bind_some, s61, iI_le, if_neg c, rd, if_neg d, show wr 1 = 1 from rfl]
  refine lp (fun f (k : Int) => bX12_begins_51 f0 f (Ad Y 12 0) (iI k) (hp Y (sR Z 61 0 (b2S (b1S S v) k)))) (fun k => 0 ≤ k ∧ k ≤ 8) (fun k => (65 - k).toNat) (fun z => z = _) ?_ f0 0 ⟨by omega, by omega⟩ (by show (65 - (0 : Int)).toNat < f0; omega)
  rintro f k ⟨k0, k1⟩
  by_cases c : (8 : Int) ≤ k
  · left
    have ke : k = 8 := by omega
    subst ke
    have : b3S (b2S (b1S S v) 8) 0 = b2S (b1S S v) 8 := funext fun j => by unfold b3S; rw [if_neg (by omega)]
    rw [← l85, this]
    simp (disch := first | assumption | omega) only [bX12_begins_51, g_12_6, l61, s61, li_0, li_1, li_8, li_272, li_328, iI_add, Option.bind_some, iI_le, if_pos c]
  · right
    refine ⟨k + 1, ?_, ⟨by omega, by omega⟩, by show (65 - (k + 1)).toNat < (65 - k).toNat; omega⟩
    have rd : b2S (b1S S v) k (272 + k) = b1S S v (272 + k) := by unfold b2S; rw [if_neg (by omega)]
    have wk : wr (b1S S v (272 + k)) = b1S S v (272 + k) := wr_id (W3 _).1 (W3 _).2
    have st : upi (b2S (b1S S v) k) (328 + k) (b1S S v (272 + k)) = b2S (b1S S v) (k + 1) := funext fun j => by
      rw [upi_at]; unfold b2S
      by_cases e : j = 328 + k
      · rw [if_pos e, if_pos (by omega), e, show 328 + k - 56 = 272 + k by omega]
      · rw [if_neg e]
        by_cases q : 328 ≤ j ∧ j < 328 + k
        · rw [if_pos q, if_pos (show 328 ≤ j ∧ j < 328 + (k + 1) by omega)]
        · rw [if_neg q, if_neg (show ¬ (328 ≤ j ∧ j < 328 + (k + 1)) by omega)]
    rw [← st]
    simp (disch := first | assumption | omega) only [bX12_begins_51, g_12_6, l61, s61, li_0, li_1, li_8, li_272, li_328, iI_add, Option.bind_some, iI_le, if_neg c, rd, wk]
/-- h becomes s -/
def cpS (H S : Int → Int) (k : Int) : Int → Int := fun j => if 0 ≤ j ∧ j < k then (if j < 312 then H j else 0) else S j
def cpN (r : Int → Int64) (k : Int) : Int → Int64 := fun j => if 0 ≤ j ∧ j < k then r (30 + j) else r j
def seZ (Z : XS) : XS := sF (bgZ (sJ Z 64 0 (cpN (XJ Z 64 0) 30)) (cpS (XR Z 62 0) (XR Z 61 0) 646)) 12 0 29 0
theorem r_sea98 {f0 : Nat} {Y : YS} {Z : XS} (g : GY Y) (W : WF Z) (h8 : ∀ i, 0 ≤ i → i < 64 → 0 ≤ XR Z 62 0 (8 + i) ∧ XR Z 62 0 (8 + i) ≤ 1000) (h72 : ∀ i, 0 ≤ i → i < 64 → 0 ≤ XR Z 62 0 (72 + i) ∧ XR Z 62 0 (72 + i) ≤ 1000) (hf : 2000 ≤ f0) : bX12_sea_98 f0 f0 (Ad Y 12 0) (iI 0) (hp Y Z) = some (iI (XF Z 12 0 19), hp Y (seZ Z)) := by
  obtain ⟨H, hH⟩ : ∃ H, H = XR Z 62 0 := ⟨_, rfl⟩
  obtain ⟨S, hS⟩ : ∃ S, S = XR Z 61 0 := ⟨_, rfl⟩
  obtain ⟨N, hN⟩ : ∃ N, N = XJ Z 64 0 := ⟨_, rfl⟩
  have WH : WS H := fun i => by rw [hH]; exact W.2 _ _ _
  have W0 : WS S := fun i => by rw [hS]; exact W.2 _ _ _
  have Wc : WS (cpS H S 646) := fun j => by unfold cpS; (repeat' split) <;> first | exact WH _ | exact W0 _ | exact ⟨by decide, by decide⟩
  have seq : seZ Z = sF (bgZ (sJ Z 64 0 (cpN N 30)) (cpS H S 646)) 12 0 29 0 := by rw [hH, hS, hN]; rfl
  rw [seq]
  have f19 : XF (bgZ (sJ Z 64 0 (cpN N 30)) (cpS H S 646)) 12 0 19 = XF Z 12 0 19 := rfl
  have f19b : XF (sF (bgZ (sJ Z 64 0 (cpN N 30)) (cpS H S 646)) 12 0 29 0) 12 0 19 = XF Z 12 0 19 := rfl
  have bg := r_begins (f0 := f0) (Y := Y) (Z := sJ Z 64 0 (cpN N 30)) (S := cpS H S 646) g W Wc (fun i i0 i1 => by unfold cpS; rw [if_pos (by omega), if_pos (by omega), hH]; exact h8 i i0 i1) (fun i i0 i1 => by unfold cpS; rw [if_pos (by omega), if_pos (by omega), hH]; exact h72 i i0 i1) (by omega)
  have l136 : bX12_sea_136 f0 f0 (Ad Y 12 0) (iI 0) (hp Y (sR (sJ Z 64 0 (cpN N 0)) 61 0 (cpS H S 646))) = some (iI (XF Z 12 0 19), hp Y (sF (bgZ (sJ Z 64 0 (cpN N 30)) (cpS H S 646)) 12 0 29 0)) := by
    refine lp (fun f (k : Int) => bX12_sea_136 f0 f (Ad Y 12 0) (iI k) (hp Y (sR (sJ Z 64 0 (cpN N k)) 61 0 (cpS H S 646)))) (fun k => 0 ≤ k ∧ k ≤ 30) (fun k => (31 - k).toNat) (fun z => z = _) ?_ f0 0 ⟨by omega, by omega⟩ (by show (31 - (0 : Int)).toNat < f0; omega)
    rintro f k ⟨k0, k1⟩
    by_cases c : (30 : Int) ≤ k
    · left
      have ke : k = 30 := by omega
      subst ke
      simp (disch := first | assumption | omega) only [bX12_sea_136, g_12_19, g_12_9, p_12_29, k_12, l_64, s_64, li_0, li_1, li_30, iI_add, Option.bind_some, iI_le, if_pos c, bg, f19b]
    · right
      refine ⟨k + 1, ?_, ⟨by omega, by omega⟩, by show (31 - (k + 1)).toNat < (31 - k).toNat; omega⟩
      have rd : cpN N k (30 + k) = N (30 + k) := by unfold cpN; rw [if_neg (by omega)]
      have st : upi (cpN N k) k (N (30 + k)) = cpN N (k + 1) := funext fun j => by
        rw [upi_at]; unfold cpN
        by_cases e : j = k
        · rw [if_pos e, if_pos (by omega), e]
        · rw [if_neg e]
          by_cases q : 0 ≤ j ∧ j < k
          · rw [if_pos q, if_pos (show 0 ≤ j ∧ j < k + 1 by omega)]
          · rw [if_neg q, if_neg (show ¬ (0 ≤ j ∧ j < k + 1) by omega)]
      have x64 : ∀ t, XJ (sR (sJ Z 64 0 t) 61 0 (cpS H S 646)) 64 0 = t := fun t => rfl
      have s64 : ∀ t t', sJ (sR (sJ Z 64 0 t) 61 0 (cpS H S 646)) 64 0 t' = sR (sJ Z 64 0 t') 61 0 (cpS H S 646) := fun t t' => by
        show sR (sJ (sJ Z 64 0 t) 64 0 t') 61 0 _ = _
        rw [sJ_sJ]
      rw [← st]
      simp (disch := first | assumption | omega) only [bX12_sea_136, g_12_19, g_12_9, p_12_29, k_12, l_64, s_64, li_0, li_1, li_30, iI_add, Option.bind_some, iI_le, if_neg c, x64, rd, s64]
  have z : bX12_sea_98 f0 f0 (Ad Y 12 0) (iI 0) (hp Y Z) = bX12_sea_98 f0 f0 (Ad Y 12 0) (iI 0) (hp Y (sR Z 61 0 (cpS H S 0))) := by
    have : cpS H S 0 = S := funext fun j => by unfold cpS; rw [if_neg (by omega)]
    rw [this, hS, sR_self]
  rw [z]
  refine lp (fun f (k : Int) => bX12_sea_98 f0 f (Ad Y 12 0) (iI k) (hp Y (sR Z 61 0 (cpS H S k)))) (fun k => 0 ≤ k ∧ k ≤ 646) (fun k => (647 - k).toNat) (fun z => z = _) ?_ f0 0 ⟨by omega, by omega⟩ (by show (647 - (0 : Int)).toNat < f0; omega)
  rintro f k ⟨k0, k1⟩
  by_cases c : (646 : Int) ≤ k
  · left
    have ke : k = 646 := by omega
    subst ke
    have : cpN N 0 = N := funext fun j => by unfold cpN; rw [if_neg (by omega)]
    have zj : sJ Z 64 0 N = Z := by
      rw [hN]
      refine Prod.ext rfl (Prod.ext rfl (Prod.ext ?_ rfl))
      funext a b
      show (if a = 64 ∧ b = 0 then XJ Z 64 0 else Z.2.2.1 a b) = Z.2.2.1 a b
      split
      · rename_i h; rw [h.1, h.2]; rfl
      · rfl
    rw [← l136, this, zj]
    simp (disch := first | assumption | omega) only [bX12_sea_98, g_12_6, g_12_7, l61, l_62, li_0, li_1, li_646, li_312, iI_add, Option.bind_some, iI_le, if_pos c]
  · right
    refine ⟨k + 1, ?_, ⟨by omega, by omega⟩, by show (647 - (k + 1)).toNat < (647 - k).toNat; omega⟩
    have st : ∀ x, x = (if k < 312 then H k else 0) → upi (cpS H S k) k x = cpS H S (k + 1) := fun x hx => funext fun j => by
      rw [upi_at]; unfold cpS
      by_cases e : j = k
      · rw [if_pos e, if_pos (by omega), hx, e]
      · rw [if_neg e]
        by_cases q : 0 ≤ j ∧ j < k
        · rw [if_pos q, if_pos (show 0 ≤ j ∧ j < k + 1 by omega)]
        · rw [if_neg q, if_neg (show ¬ (0 ≤ j ∧ j < k + 1) by omega)]
    have x62 : XR (sR Z 61 0 (cpS H S k)) 62 0 = H := hH.symm
    have wk : wr (H k) = H k := wr_id (WH k).1 (WH k).2
    by_cases d : (312 : Int) ≤ k
    · rw [← st 0 (by rw [if_neg (by omega)])]
      simp (disch := first | assumption | omega) only [bX12_sea_98, bX12_sea_127, g_12_6, g_12_7, l61, l_62, li_0, li_1, li_646, li_312, iI_add, Option.bind_some, s61, iI_le, if_neg c, if_pos d, show wr 0 = 0 from rfl]
    · rw [← st (H k) (by rw [if_pos (by omega)])]
      simp (disch := first | assumption | omega) only [bX12_sea_98, bX12_sea_127, g_12_6, g_12_7, l61, l_62, li_0, li_1, li_646, li_312, iI_add, Option.bind_some, s61, iI_le, if_neg c, if_neg d, x62, wk]
