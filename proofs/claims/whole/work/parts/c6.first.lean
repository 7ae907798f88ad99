/-! THE START: what holds first -/
abbrev S00 : Int → Int := fun _ => 0
theorem r00 (j : Int) : Rg (S00 j) := (⟨by decide, by decide⟩ : Rg (0 : Int))
theorem le00 {m : Int} (h : 0 ≤ m) (j : Int) : 0 ≤ S00 j ∧ S00 j ≤ m := ⟨Int.le_refl _, h⟩
theorem lt00 {m : Int} (h : 0 < m) (j : Int) : 0 ≤ S00 j ∧ S00 j < m := ⟨Int.le_refl _, h⟩
theorem cp00 : cpS S00 S00 646 = S00 := funext fun j => by unfold cpS; (repeat' split) <;> rfl
theorem bg00 : st0R (bgS S00) ∧ fS (bgS S00) 8 0 = bgS S00 ∧ bgS S00 465 = 0 := by
  have h := bg_st (H := S00) (S := S00)
  rw [cp00] at h; exact h
theorem W00 : WF X00 := by
  refine ⟨fun s k f => ?_, fun s k i => ?_⟩
  · show Rg (if _ then (-1 : Int) else 0)
    split <;> exact ⟨by decide, by decide⟩
  · show Rg ((if _ then (fun j => if j < 64 then (1000000 : Int) else 0) else (fun _ => 0)) i)
    split
    · show Rg (if i < 64 then (1000000 : Int) else 0)
      split <;> exact ⟨by decide, by decide⟩
    · show Rg (0 : Int)
      exact ⟨by decide, by decide⟩
def X01 : XS := bgZ X00 S00
theorem x01F (s k f : Nat) : XF X01 s k f = if s = 10 ∧ k = 0 ∧ (f = 2 ∨ f = 3 ∨ f = 4) then -1 else 0 := rfl
theorem x01R {s k : Nat} (h : ¬ (s = 46 ∧ k = 0 ∨ s = 61 ∧ k = 0 ∨ s = 66 ∧ k = 0 ∨ s = 67 ∧ k = 0)) : XR X01 s k = S00 := by
  unfold X01 bgZ
  rw [XR_sR, if_neg (by omega), XR_sR, if_neg (by omega), XR_sR, if_neg (by omega)]
  show (if s = 46 ∧ k = 0 then (fun j => if j < 64 then (1000000 : Int) else 0) else (fun _ => 0)) = _
  rw [if_neg (by omega)]
theorem x01_61 : XR X01 61 0 = bgS S00 := rfl
theorem x01_66 : XR X01 66 0 = fwG 8 8 (dgT (ini0 (fun i => bgS S00 (8 + i)) S00 64) 8) := rfl
theorem x01_67 : XR X01 67 0 = fwG 8 8 (dgT (ini0 (fun i => bgS S00 (72 + i)) S00 64) 8) := rfl
theorem x01_46 : XR X01 46 0 = fun j => if j < 64 then 1000000 else 0 := rfl
theorem lo00 {j : Int} (h : j < 312) : bgS S00 j = 0 := by rw [bg_lo h]
theorem res00 : ResI X01 := by
  have h : ∀ i : Nat, i < 27 → rsF 145 i = jN (v5 (wdB i) (wdL i)) ∧ w65 (prm i) = jN (v8 (wdB i) (wdL i)) := by decide +kernel
  intro i hi
  exact h i hi
theorem sea00 : SeaI X01 0 (bgS S00) := by
  have r25 := x01R (s := 25) (k := 0) (by omega)
  have r26 := x01R (s := 26) (k := 0) (by omega)
  have r27 := x01R (s := 27) (k := 0) (by omega)
  have r28 := x01R (s := 28) (k := 0) (by omega)
  have r29 := x01R (s := 29) (k := 0) (by omega)
  have r31 := x01R (s := 31) (k := 0) (by omega)
  have r32 := x01R (s := 32) (k := 0) (by omega)
  have r33 := x01R (s := 33) (k := 0) (by omega)
  have r34 := x01R (s := 34) (k := 0) (by omega)
  have r35 := x01R (s := 35) (k := 0) (by omega)
  have f62 : XF X01 6 0 2 = 0 := rfl
  refine ⟨?_, ?_, ?_, ?_, ?_⟩
  · unfold CSea
    rw [r25, r26, r28, r29, r33, r34, r35, f62]
    exact ⟨by decide, by decide, by decide, by decide, by decide, by decide, fun i _ _ => le00 (by decide) i, fun i _ _ => le00 (by decide) i, fun i _ _ => le00 (by decide) i, fun i _ _ => lt00 (by decide) i, fun i _ _ => le00 (by decide) i, fun i _ _ => le00 (by decide) i⟩
  · unfold SeaR
    rw [r25, r26, r27, r28, r29, r31, r32, r33, f62]
    refine ⟨⟨(lo00 (by decide)).symm, (lo00 (by decide)).symm, (lo00 (by decide)).symm, (lo00 (by decide)).symm, (lo00 (by decide)).symm, (lo00 (by decide)).symm, (lo00 (by decide)).symm, (lo00 (by decide)).symm⟩, fun i i0 i1 => ⟨(lo00 (by omega)).symm, (lo00 (by omega)).symm, (lo00 (by omega)).symm, (lo00 (by omega)).symm⟩, fun i i0 i1 => ⟨(lo00 (by omega)).symm, (lo00 (by omega)).symm⟩, fun i i0 i1 => ?_⟩
    rw [lo00 (by decide)] at i1; omega
  · rw [r31]; exact fun i _ _ => lt00 (by decide) i
  · refine ⟨fun a b a0 a8 b0 b8 => ⟨fun _ => ⟨lo00 (by omega), lo00 (by omega)⟩, fun _ => lo00 (by omega), ?_, ?_⟩, fun s s0 s8 r hr => ?_⟩
    · rw [lo00 (by omega), lo00 (by omega)]
    · rw [lo00 (by omega)]; decide
    · rw [lo00 (by omega)] at hr; simp at hr
  · intro a b a0 a1
    rw [r25] at a1
    have a1' : a < 0 := a1
    omega
theorem post00 : PostW X01 (bgS S00) := fun i i0 i1 => by
  rw [x01_66, x01_67]
  unfold frs pst
  exact ⟨fwG_c (by decide) dgT_ini 8 (by decide) i i0 i1, fwG_c (by decide) dgT_ini 8 (by decide) i i0 i1⟩
theorem w66 (st : Int) (h0 : 0 ≤ st) (h1 : st ≤ 72) : ∀ i, Rg (fwG 8 8 (dgT (ini0 (fun i => bgS S00 (st + i)) S00 64) 8) i) := fun i => by
  by_cases c : 0 ≤ i ∧ i < 64
  · have := fwG_rg (n := 8) (r := dgT (ini0 (fun i => bgS S00 (st + i)) S00 64) 8) (by decide) (fun i i0 i1 => by
      rw [dgT_ini i i0 i1]
      have q9 : (fun i => bgS S00 (st + i)) i = 0 := lo00 (by omega)
      unfold iniW; generalize (fun i => bgS S00 (st + i)) i = w9 at *; (repeat' split) <;> omega) 8 (by decide) i c.1 c.2
    exact ⟨by omega, by omega⟩
  · have o : ∀ m : Nat, m ≤ 8 → fwG 8 m (dgT (ini0 (fun i => bgS S00 (st + i)) S00 64) 8) i = 0 := fun m => by
      induction m with
      | zero => intro _; show dgT (ini0 (fun i => bgS S00 (st + i)) S00 64) 8 i = _; unfold dgT ini0; rw [if_neg (by omega), if_neg c]
      | succ m ih =>
        intro hm
        show fwS 8 m (fwG 8 m (dgT (ini0 (fun i => bgS S00 (st + i)) S00 64) 8)) i = _
        unfold fwS; rw [if_neg (by omega)]; exact ih (by omega)
    rw [o 8 (by decide)]; exact ⟨by decide, by decide⟩
theorem W01 : WF X01 := by
  unfold X01 bgZ
  refine W_R (W_R (W_R W00 (bg_W r00)) ?_) ?_
  · exact w66 8 (by decide) (by decide)
  · exact w66 72 (by decide) (by decide)
theorem inv_first {Y : YS} (g : GY Y ∧ U11 Y) (im : ∀ q, q < 2 → ImN Y q) : Inv Y X01 := by
  obtain ⟨b1, b2, b3⟩ := bg00
  have dz : WD (shG X01 0) := WD_G W01 0
  have rs := rel_start (X := X01) (d := shG X01 0) W01 dz sea00 (inv_PostR sea00 post00) b1
  rw [b2] at rs
  have r25 := x01R (s := 25) (k := 0) (by omega)
  have r31 := x01R (s := 31) (k := 0) (by omega)
  have nh : ¬ forHer X01 0 := fun h => by have := h.1; rw [r25] at this; exact absurd this (by decide)
  have sd : stD X01 (shG X01 0) = st_0 X01 (shG X01 0) := by
    unfold stD
    rw [r25]; rfl
  rw [sd] at rs
  have sq : SEq (shG X01 0) (st_0 X01 (shG X01 0)) := by
    unfold st_0
    rw [if_neg nh, if_neg nh, r31]
    refine ⟨fun f f0 f1 => ?_, fun i i0 i1 => ?_, fun i i0 i1 => ?_, fun i i0 i1 => ?_, fun i i0 i1 => ?_⟩
    · rcases (by omega : f = 1 ∨ f = 2 ∨ f = 3 ∨ f = 4 ∨ f = 5 ∨ f = 6 ∨ f = 7 ∨ f = 8) with e | e | e | e | e | e | e | e <;> subst e <;> rfl
    · show XR X01 43 0 i = flr 0 (XR X01 43 0) 8 i
      rw [x01R (s := 43) (k := 0) (by omega)]; unfold flr; split <;> rfl
    · show XR X01 44 0 i = flr 0 (XR X01 44 0) 8 i
      rw [x01R (s := 44) (k := 0) (by omega)]; unfold flr; split <;> rfl
    · show XR X01 45 0 i = cpr S00 (XR X01 45 0) 8 i
      rw [x01R (s := 45) (k := 0) (by omega)]; unfold cpr; split <;> rfl
    · show XR X01 46 0 i = flr 1000000 (XR X01 46 0) 64 i
      rw [x01_46]; unfold flr
      show (if i < 64 then (1000000 : Int) else 0) = _
      rw [if_pos i1, if_pos ⟨i0, i1⟩]
  have h8 : bgS S00 0 ≤ 8 ∧ bgS S00 1 ≤ 8 := by rw [lo00 (by decide), lo00 (by decide)]; decide
  have rl := rel_seq h8 sq rs.1
  have cd := CD_seq sq rs.2
  have img : ∀ q, q < 2 → ImgI Y X01 q := fun q q2 => ⟨⟨by rw [x01R (s := 81) (k := 0) (by omega)]; rfl, fun _ => im q q2⟩, fun z => by cases z⟩
  refine ⟨g, W01, ⟨fun i i0 i1 => ?_, by decide, rfl⟩, res00, rfl, sea00, ?_, post00, ⟨fun i hi => hi, fun i j hi hj e => e, fun k => .inl ?_, ⟨cd, rl⟩, ⟨rfl, by decide, by decide⟩, fun i hi => ?_⟩, ⟨b3, ⟨by decide, by decide⟩, fun i hi => ?_⟩, ⟨⟨rfl, .inl rfl⟩, fun z => by cases z⟩, img 0 (by decide), img 1 (by decide)⟩
  · rw [x01R (s := 20) (k := 0) (by omega), x01R (s := 60) (k := 0) (by omega)]
    exact ⟨rfl, (by decide : (-128 : Int) ≤ 0), (by decide : (0 : Int) < 128)⟩
  · have n0 : XF X01 3 0 3 = 0 := rfl
    have nc : ∀ s, ncS (XR X01 61 0) s = 0 := fun s => by
      rw [x01_61]; unfold ncS; (repeat' split) <;> exact lo00 (by decide)
    unfold NamX
    rw [n0]
    refine ⟨⟨by decide, ?_⟩, fun i i0 i1 => by omega, fun s k hs k0 k1 => by rw [nc] at k1; omega, fun i i' i0 i1 => by omega⟩
    rw [x01_61, lo00 (by decide), lo00 (by decide), lo00 (by decide), lo00 (by decide)]; rfl
  · rw [x01F, if_neg (by omega)]
  · have z : XF X01 11 0 14 = 0 := rfl
    rw [z] at hi; omega
  · have z : XF X01 8 0 3 = 0 := rfl
    rw [z] at hi; omega
theorem fin_start {f0 L : Nat} {xs0 : Nat → Int32} (hf : 30000000000 ≤ f0) (hL : L ≤ 3072) {A : List Nat} {C : List HE} (g : Gd A C) (hl : A.length = ids1.length) (hC : C = ids1.map (fun i => ct (A, ids1) X00 i.1 i.2)) : ∃ h453, fX12_begins f0 (Ad (A, ids1) 12 0) (Mk A C) = some h453 ∧ ∀ a17 : Nat, h453 a17 = dead → lwLoop f0 L xs0 (Ad (A, ids1) 11 0) (Ad (A, ids1) 12 0) a17 513 0 (nwA 2 (1, .inr (.inl (fun _ => 0))) h453 a17) := by
  obtain ⟨n, hn⟩ := ex_fresh A
  have lk0 : ∀ (A : List Nat) (C : List HE), n ∉ A → lk A C n = dead := fun A => by
    induction A with
    | nil => intro C _; cases C <;> rfl
    | cons a A ih =>
      intro C h
      cases C with
      | nil => rfl
      | cons x C =>
        show (if n = a then x else lk A C n) = dead
        rw [if_neg (fun e => h (by rw [e]; exact List.mem_cons_self))]
        exact ih C (fun e => h (List.mem_cons_of_mem _ e))
  have nd : (n :: A).Nodup := List.nodup_cons.mpr ⟨hn, g.2.1⟩
  obtain ⟨gY, uY, _⟩ := GY0 n hl nd
  have hpY : ∀ X, hp (n :: A, (90, 0) :: ids1) X = va_up (Mk A (ids1.map (fun i => ct (A, ids1) X i.1 i.2))) n (ct (n :: A, (90, 0) :: ids1) X 90 0) := fun X => by
    unfold hp
    rw [Cs_90]
    rfl
  have bx0 : ct (n :: A, (90, 0) :: ids1) X00 90 0 = bx := rfl
  have bx1 : ∀ m, ct (m :: A, (90, 0) :: ids1) X01 90 0 = bx := fun _ => rfl
  have hr : HR n (Mk A C) (hp (n :: A, (90, 0) :: ids1) X00) := ⟨lk0 A C hn, by rw [hpY, bx0, hC]⟩
  have z0 : sR X00 61 0 S00 = X00 := sR_self X00 61 0
  have rb := r_begins (f0 := f0) (Y := (n :: A, (90, 0) :: ids1)) (Z := X00) (S := S00) gY W00 r00 (fun i _ _ => le00 (by decide) (8 + i)) (fun i _ _ => le00 (by decide) (72 + i)) (by omega)
  rw [z0, Ad_90 (by decide)] at rb
  obtain ⟨h453, e1, e2, e3⟩ := fr_begins hr _ rb
  refine ⟨h453, e1, fun a17 d17 => ?_⟩
  have e3' : va_up h453 n bx = va_up (Mk A (ids1.map (fun i => ct (A, ids1) X01 i.1 i.2))) n bx := by
    rw [← e3]
    show hp (n :: A, (90, 0) :: ids1) X01 = _
    rw [hpY, bx1]
  have hh : h453 = Mk A (ids1.map (fun i => ct (A, ids1) X01 i.1 i.2)) := funext fun b => by
    by_cases q : b = n
    · rw [q, e2]; exact (lk0 A _ hn).symm
    · have := congrFun e3' b
      rw [va_up_ne _ _ q, va_up_ne _ _ q] at this
      exact this
  have g1 : Gd A (ids1.map (fun i => ct (A, ids1) X01 i.1 i.2)) := ⟨by rw [List.length_map]; exact hl, g.2.1, fun x hx => by
    obtain ⟨i, hi, rfl⟩ := List.mem_map.mp hx
    exact nd_ct (ids1_ok i hi)⟩
  rw [hh] at d17
  have n17 : (a17 :: A).Nodup := (gd_cons g1 d17 (x := bx) nd_a).2.1
  obtain ⟨g7, u7, i7⟩ := GY0 a17 hl n17
  have hfin : nwA 2 (1, .inr (.inl (fun _ => 0))) h453 a17 = hp (a17 :: A, (90, 0) :: ids1) X01 := by
    rw [hh]
    unfold hp
    rw [Cs_90, bx1]
    rfl
  rw [hfin]
  have lw := lwLoop_ok (f0 := f0) (L := L) (xs0 := xs0) hf hL 513 0 (a17 :: A, (90, 0) :: ids1) X01 (by decide) (by decide) (inv_first ⟨g7, u7⟩ i7) (Ad (A, ids1) 11 0) (Ad (A, ids1) 12 0) a17 (Ad_90 (by decide)) (Ad_90 (by decide)) rfl
  exact lw
