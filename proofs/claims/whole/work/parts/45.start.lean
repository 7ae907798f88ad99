/-! a row filled; a ship's copy; her start -/
theorem sR_sR (X : XS) (s k : Nat) (r r2 : Int → Int) : sR (sR X s k r) s k r2 = sR X s k r2 := by
  refine Prod.ext rfl (Prod.ext (funext fun s' => funext fun k' => ?_) rfl)
  show (if s' = s ∧ k' = k then r2 else if s' = s ∧ k' = k then r else X.2.1 s' k') = if s' = s ∧ k' = k then r2 else X.2.1 s' k'
  split <;> rfl
theorem XR_self (X : XS) (s k : Nat) (r : Int → Int) : XR (sR X s k r) s k = r := by rw [XR_sR, if_pos ⟨rfl, rfl⟩]
theorem sR_self (X : XS) (s k : Nat) : sR X s k (XR X s k) = X := by
  refine Prod.ext rfl (Prod.ext (funext fun s' => funext fun k' => ?_) rfl)
  show (if s' = s ∧ k' = k then XR X s k else X.2.1 s' k') = X.2.1 s' k'
  split
  · rename_i c; rw [c.1, c.2]; rfl
  · rfl
def flr (v : Int) (r : Int → Int) (n : Int) : Int → Int := fun i => if 0 ≤ i ∧ i < n then v else r i
theorem flr_0 (v : Int) (r : Int → Int) : flr v r 0 = r := funext fun i => by unfold flr; rw [if_neg (by omega)]
theorem flr_s (v : Int) (r : Int → Int) {n : Int} (h : 0 ≤ n) : upi (flr v r n) n v = flr v r (n + 1) := funext fun i => by
  rw [upi_at]; unfold flr
  by_cases a : i = n
  · rw [if_pos a, if_pos (by omega)]
  · rw [if_neg a]
    by_cases b : 0 ≤ i ∧ i < n
    · rw [if_pos b, if_pos (by omega)]
    · rw [if_neg b, if_neg (by omega)]
theorem e_fill {f0 : Nat} {Y : YS} {X : XS} {s k : Nat} {n : Int} (n0 : 0 ≤ n) (n1 : n ≤ 1000) (hst : ∀ (X : XS) (i v : Int), 0 ≤ i → i < n → stI 1 (hp Y X) (Ad Y s k) (iI i) (iI v) = some (hp Y (sR X s k (upi (XR X s k) i v)))) (hal : aln 1 (hp Y X) (Ad Y s k) = some (iI n)) (v : Int) (hf : 2000 ≤ f0) : fJ7_fill_53178 f0 (Ad Y s k) (iI v) (hp Y X) = some (hp Y (sR X s k (flr v (XR X s k) n))) := by
  simp only [fJ7_fill_53178, hal, Option.bind_some, li_0]
  have e0 : hp Y X = hp Y (sR X s k (flr v (XR X s k) 0)) := by rw [flr_0, sR_self]
  rw [e0]
  refine lp (fun f (i : Int) => bJ7_fill_53178_5 f0 f (Ad Y s k) (iI v) (iI i) (iI n) (hp Y (sR X s k (flr v (XR X s k) i)))) (fun i => 0 ≤ i ∧ i ≤ n) (fun i => (1100 - i).toNat) (fun r => r = _) ?_ f0 0 ⟨by omega, by omega⟩ (by omega)
  intro f i ⟨h0, h1⟩
  by_cases c : n ≤ i
  · left
    simp (disch := first | omega | assumption) only [bJ7_fill_53178_5, iI_le, if_pos c]
    rw [show i = n by omega]
  · right
    refine ⟨i + 1, ?_, ⟨by omega, by omega⟩, by omega⟩
    simp (disch := first | omega | assumption) only [bJ7_fill_53178_5, iI_le, if_neg c, hst, Option.bind_some, li_1, iI_add, XR_self, sR_sR, flr_s v (XR X s k) h0]
def cpD (d e : D5) : D5 := ((upF (upF (upF (upF (upF (upF (upF (upF d 1 (e.1 1)) 2 (e.1 2)) 3 (e.1 3)) 4 (e.1 4)) 5 (e.1 5)) 6 (e.1 6)) 7 (e.1 7)) 8 (e.1 8)).1, cpr e.2.1 d.2.1 8, cpr e.2.2.1 d.2.2.1 8, cpr e.2.2.2.1 d.2.2.2.1 8, cpr e.2.2.2.2 d.2.2.2.2 64)
theorem d_copyFrom {f0 : Nat} {Y : YS} {X : XS} {k k2 : Nat} {d : D5} (gk : ShO Y k) (gk2 : ShO Y k2) (hne : k2 ≠ k) (W : WF X) (h6 : XF X 10 k2 6 = 0 ∨ XF X 10 k2 6 = 1) : fX10_copyFrom f0 (Ad Y 10 k) (Ad Y 10 k2) (hp Y (shS X k d)) = some (hp Y (shS X k (cpD d (shG X k2)))) := by
  have Wd := WD_G W k2
  simp (disch := first | assumption | omega | exact W_fl W _ _ _ | exact W_fh W _ _ _ | exact W_rl W _ _ _ | exact W_rh W _ _ _ | exact Wd_fl Wd _ | exact Wd_fh Wd _ | exact Wd_4l Wd _ | exact Wd_4h Wd _ | exact Wd_1l Wd _ | exact Wd_1h Wd _ | exact Wd_2l Wd _ | exact Wd_2h Wd _ | exact Wd_3l Wd _ | exact Wd_3h Wd _) only [fX10_copyFrom, g_10_1, g_10_2, g_10_3, g_10_4, g_10_5, g_10_6, g_10_7, g_10_8, g_10_9, g_10_10, g_10_11, g_10_12, p_10_1, p_10_2, p_10_3, p_10_4, q_10_5, p_10_7, q_10_8, z_10_6, c_43, c_44, c_45, c_46, li_0, li_8, li_64, Option.bind_some, iI_add, XF_shk, XF_sh6, XF_sh12, XF_sh11, XF_sh4, XR_sh43, XR_sh44, XR_sh45, XR_sh46, XR_sh25, XR_sh26, XR_sh27, XR_sh28, XR_sh29, XR_sh31, XR_sh32, XR_sh33, XR_sh34, XR_sh35, sF_sh, sR_sh43, sR_sh44, sR_sh45, sR_sh46, XJ_sh, XP_sh, XM_sh, XF_shn, XR_shn, wr_id, upF_2]
  rfl
theorem cpr_in {r q : Int → Int} {n i : Int} (h0 : 0 ≤ i) (h1 : i < n) : cpr r q n i = r i := if_pos ⟨h0, h1⟩
theorem cpr_rg {r q : Int → Int} {n : Int} (h1 : ∀ i, Rg (r i)) (h2 : ∀ i, Rg (q i)) (i : Int) : Rg (cpr r q n i) := by
  unfold cpr; split
  · exact h1 i
  · exact h2 i
theorem WD_cp {d e : D5} (h1 : WD d) (h2 : WD e) : WD (cpD d e) :=
  ⟨(WD_F (WD_F (WD_F (WD_F (WD_F (WD_F (WD_F (WD_F h1 (h2.1 1).1 (h2.1 1).2) (h2.1 2).1 (h2.1 2).2) (h2.1 3).1 (h2.1 3).2) (h2.1 4).1 (h2.1 4).2) (h2.1 5).1 (h2.1 5).2) (h2.1 6).1 (h2.1 6).2) (h2.1 7).1 (h2.1 7).2) (h2.1 8).1 (h2.1 8).2).1, cpr_rg h2.2.1 h1.2.1, cpr_rg h2.2.2.1 h1.2.2.1, cpr_rg h2.2.2.2.1 h1.2.2.2.1, cpr_rg h2.2.2.2.2 h1.2.2.2.2⟩
/-- two ships with the same contents (but for the seed and what lies behind the rows) -/
def SEq (d e : D5) : Prop := (∀ f, 1 ≤ f → f ≤ 8 → d.1 f = e.1 f) ∧ (∀ i, 0 ≤ i → i < 8 → d.2.1 i = e.2.1 i) ∧ (∀ i, 0 ≤ i → i < 8 → d.2.2.1 i = e.2.2.1 i) ∧ (∀ i, 0 ≤ i → i < 8 → d.2.2.2.1 i = e.2.2.2.1 i) ∧ (∀ i, 0 ≤ i → i < 64 → d.2.2.2.2 i = e.2.2.2.2 i)
theorem SEq_cp (d e : D5) : SEq (cpD d e) e := by
  refine ⟨fun f h1 h2 => ?_, fun i h0 h1 => cpr_in h0 h1, fun i h0 h1 => cpr_in h0 h1, fun i h0 h1 => cpr_in h0 h1, fun i h0 h1 => cpr_in h0 h1⟩
  rcases (show f = 1 ∨ f = 2 ∨ f = 3 ∨ f = 4 ∨ f = 5 ∨ f = 6 ∨ f = 7 ∨ f = 8 by omega) with h | h | h | h | h | h | h | h <;> (subst h; rfl)
theorem CD_seq {X : XS} {d e : D5} (h : SEq d e) (he : CD X e) : CD X d := by
  obtain ⟨h1, h2, h3, h4, h5⟩ := h
  have f1 := h1 1 (by omega) (by omega); have f2 := h1 2 (by omega) (by omega); have f3 := h1 3 (by omega) (by omega); have f4 := h1 4 (by omega) (by omega); have f6 := h1 6 (by omega) (by omega)
  refine ⟨by rw [f1]; exact he.1, by rw [f2, f3]; exact he.2.1, by rw [f4]; exact he.2.2.1, by rw [f6]; exact he.2.2.2.1, fun i i0 i8 => by rw [h2 i i0 i8, f1]; exact he.2.2.2.2.1 i i0 i8, fun i i0 i8 => by rw [h3 i i0 i8]; exact he.2.2.2.2.2.1 i i0 i8, fun i i0 i8 => by rw [h4 i i0 i8]; exact he.2.2.2.2.2.2.1 i i0 i8, fun i i0 i8 => by rw [h5 i i0 i8]; exact he.2.2.2.2.2.2.2 i i0 i8⟩
/-- her start -/
def st_p (X : XS) (s : Int) : Nat → D5 → D5
  | 0, d => d
  | n + 1, d => if 0 < XR X 28 0 (s * 8 + n) then tellD X (st_p X s n d) n s else st_p X s n d
def st_s (X : XS) : Nat → D5 → D5
  | 0, d => d
  | m + 1, d => st_p X m (XR X 25 0 0).toNat (st_s X m d)
def st_0 (X : XS) (d : D5) : D5 :=
  ((upF (upF (upF (upF (upF (upF (upF (upF d 1 0) 2 (if forHer X 0 then 0 else -1)) 3 (if forHer X 0 then 0 else -1)) 4 (-1)) 5 0) 6 0) 7 (if forHer X 0 then 1 else 0)) 8 0).1, flr 0 d.2.1 8, flr 0 d.2.2.1 8, cpr (XR X 31 0) d.2.2.2.1 8, flr 1000000 d.2.2.2.2 64)
def stD (X : XS) (d : D5) : D5 := st_s X (XR X 25 0 3).toNat (st_0 X d)
theorem st_p_cd {X : XS} (hC : CSea X 0) {s : Int} : ∀ (n : Nat) {d : D5}, n ≤ 8 → WD d → CD X d → WD (st_p X s n d) ∧ CD X (st_p X s n d)
  | 0, d, _, w, c => ⟨w, c⟩
  | n + 1, d, hn, w, c => by
    have ih := st_p_cd hC n (by omega) w c (s := s)
    rw [st_p]; split
    · exact tl_cd ih.1 hC ih.2 (by omega) (by omega)
    · exact ih
theorem st_s_cd {X : XS} (hC : CSea X 0) : ∀ (m : Nat) {d : D5}, WD d → CD X d → WD (st_s X m d) ∧ CD X (st_s X m d)
  | 0, d, w, c => ⟨w, c⟩
  | m + 1, d, w, c => by
    have ih := st_s_cd hC m w c
    have c0 := hC.1
    rw [st_s]
    exact st_p_cd hC _ (by omega) ih.1 ih.2
theorem flr_rg {v : Int} {r : Int → Int} {n : Int} (h1 : Rg v) (h2 : ∀ i, Rg (r i)) (i : Int) : Rg (flr v r n i) := by
  unfold flr; split
  · exact h1
  · exact h2 i
theorem st_0_cd {X : XS} {d : D5} (W : WF X) (Wd : WD d) (hC : CSea X 0) (hk : ∀ i, 0 ≤ i → i < 8 → 0 ≤ XR X 31 0 i ∧ XR X 31 0 i < 64) : WD (st_0 X d) ∧ CD X (st_0 X d) := by
  constructor
  · refine ⟨(WD_F (WD_F (WD_F (WD_F (WD_F (WD_F (WD_F (WD_F Wd (by decide) (by decide)) ?_ ?_) ?_ ?_) (by decide) (by decide)) (by decide) (by decide)) (by decide) (by decide)) ?_ ?_) (by decide) (by decide)).1, flr_rg ⟨by decide, by decide⟩ Wd.2.1, flr_rg ⟨by decide, by decide⟩ Wd.2.2.1, cpr_rg (fun i => W.2 _ _ _) Wd.2.2.2.1, flr_rg ⟨by decide, by decide⟩ Wd.2.2.2.2⟩ <;> (split <;> omega)
  · refine ⟨⟨?_, ?_⟩, fun hH => ⟨⟨?_, ?_⟩, ?_, ?_⟩, ⟨?_, .inl rfl⟩, .inl rfl, fun i i0 i8 => ?_, fun i i0 i8 => ?_, fun i i0 i8 => ?_, fun i i0 i8 => ?_⟩
    · show (0 : Int) ≤ 0; omega
    · show (0 : Int) ≤ 999; omega
    · show (0 : Int) ≤ (if forHer X 0 then 0 else -1); rw [if_pos hH]; omega
    · show (if forHer X 0 then (0 : Int) else -1) < _; rw [if_pos hH]; exact hH.1
    · show (0 : Int) ≤ (if forHer X 0 then 0 else -1); rw [if_pos hH]; omega
    · show (if forHer X 0 then (0 : Int) else -1) < _; rw [if_pos hH]; exact hH.2
    · show (-1 : Int) ≤ -1; omega
    · show 0 ≤ flr 0 d.2.1 8 i ∧ flr 0 d.2.1 8 i ≤ 0
      unfold flr; rw [if_pos ⟨i0, i8⟩]; omega
    · show 0 ≤ flr 0 d.2.2.1 8 i ∧ flr 0 d.2.2.1 8 i < 256
      unfold flr; rw [if_pos ⟨i0, i8⟩]; omega
    · show 0 ≤ cpr (XR X 31 0) d.2.2.2.1 8 i ∧ cpr (XR X 31 0) d.2.2.2.1 8 i < 64
      rw [cpr_in i0 i8]; exact hk i i0 i8
    · show 0 ≤ flr 1000000 d.2.2.2.2 64 i ∧ flr 1000000 d.2.2.2.2 64 i ≤ 1000000
      unfold flr; rw [if_pos ⟨i0, i8⟩]; omega
theorem d_start {f0 : Nat} {Y : YS} {X : XS} {k : Nat} {d : D5} (g : GY Y) (hk : k < 10) (W : WF X) (Wd : WD d) (hC : CSea X 0) (hsk : ∀ i, 0 ≤ i → i < 8 → 0 ≤ XR X 31 0 i ∧ XR X 31 0 i < 64) (hf : 2000 ≤ f0) : fX10_start f0 (Ad Y 10 k) (hp Y (shS X k d)) = some (hp Y (shS X k (stD X d))) := by
  have gk := ShO_k g hk; have gs := SeO_0 g
  have c0 := hC.1; have c3 := hC.2.1
  have Ws := W_sh W Wd (k := k)
  have z : (0 : Int) = 0 ∨ (0 : Int) = 1 := .inl rfl
  obtain ⟨w0, d0⟩ := st_0_cd W Wd hC hsk
  have fil : ∀ (s : Nat) (n : Int) (X : XS) (v : Int), 0 ≤ n → n ≤ 1000 → (∀ (X : XS) (i v : Int), 0 ≤ i → i < n → stI 1 (hp Y X) (Ad Y s k) (iI i) (iI v) = some (hp Y (sR X s k (upi (XR X s k) i v)))) → (∀ X : XS, aln 1 (hp Y X) (Ad Y s k) = some (iI n)) → fJ7_fill_53178 f0 (Ad Y s k) (iI v) (hp Y X) = some (hp Y (sR X s k (flr v (XR X s k) n))) := fun s n X v h1 h2 h3 h4 => e_fill h1 h2 h3 (h4 X) v hf
  have f43 := fun X v => fil 43 8 X v (by decide) (by decide) (fun X i v h0 h1 => s_43 gk h0 h1) (fun X => n_43 gk)
  have f44 := fun X v => fil 44 8 X v (by decide) (by decide) (fun X i v h0 h1 => s_44 gk h0 h1) (fun X => n_44 gk)
  have f46 := fun X v => fil 46 64 X v (by decide) (by decide) (fun X i v h0 h1 => s_46 gk h0 h1) (fun X => n_46 gk)
  have inner : ∀ (g117 : Nat → Int32 → Hp → Option Hp) (s : Int) (e : D5), 0 ≤ s → s < 8 → WD e → CD X e → bX10_start_132 f0 g117 f0 (Ad Y 10 k) (iI s) (iI 0) (hp Y (shS X k e)) = g117 (Ad Y 10 k) (iI (s + 1)) (hp Y (shS X k (st_p X s (XR X 25 0 0).toNat e))) := by
    intro g117 s e s0 s8 we ce
    refine lp (fun f (i : Int) => bX10_start_132 f0 g117 f (Ad Y 10 k) (iI s) (iI i) (hp Y (shS X k (st_p X s i.toNat e)))) (fun i => 0 ≤ i ∧ i ≤ XR X 25 0 0) (fun i => (17 - i).toNat) (fun r => r = _) ?_ f0 0 ⟨by omega, by omega⟩ (by omega)
    intro f i ⟨h0, h1⟩
    by_cases c : XR X 25 0 0 ≤ i
    · left
      simp (disch := first | assumption | omega | exact W_fl W _ _ _ | exact W_fh W _ _ _ | exact W_rl W _ _ _ | exact W_rh W _ _ _ | exact Wd_fl Wd _ | exact Wd_fh Wd _ | exact Wd_4l Wd _ | exact Wd_4h Wd _ | exact Wd_1l Wd _ | exact Wd_1h Wd _ | exact Wd_2l Wd _ | exact Wd_2h Wd _ | exact Wd_3l Wd _ | exact Wd_3h Wd _) only [bX10_start_132, g10s, g_6_1, g_6_5, k_10, l_25, l_28, li_0, li_1, li_8, iI_add, iI_mul, Option.bind_some, XF_shk, XF_sh6, XF_sh12, XF_sh11, XF_sh4, XR_sh43, XR_sh44, XR_sh45, XR_sh46, XR_sh25, XR_sh26, XR_sh27, XR_sh28, XR_sh29, XR_sh31, XR_sh32, XR_sh33, XR_sh34, XR_sh35, sF_sh, sR_sh43, sR_sh44, sR_sh45, sR_sh46, XJ_sh, XP_sh, XM_sh, iI_le, if_pos c]
      rw [show i = XR X 25 0 0 by omega]
    · right
      refine ⟨i + 1, ?_, ⟨by omega, by omega⟩, by omega⟩
      obtain ⟨wi, ci⟩ := st_p_cd hC (s := s) i.toNat (by omega) we ce
      have ei : ((i.toNat : Nat) : Int) = i := by omega
      rw [show (i + 1).toNat = i.toNat + 1 by omega, st_p, ei]
      by_cases b : 0 < XR X 28 0 (s * 8 + i)
      · rw [if_pos b]
        have b' : ¬ XR X 28 0 (s * 8 + i) ≤ 0 := by omega
        simp (disch := first | assumption | omega | exact W_fl W _ _ _ | exact W_fh W _ _ _ | exact W_rl W _ _ _ | exact W_rh W _ _ _ | exact Wd_fl Wd _ | exact Wd_fh Wd _ | exact Wd_4l Wd _ | exact Wd_4h Wd _ | exact Wd_1l Wd _ | exact Wd_1h Wd _ | exact Wd_2l Wd _ | exact Wd_2h Wd _ | exact Wd_3l Wd _ | exact Wd_3h Wd _) only [bX10_start_132, bX10_start_168, g10s, g_6_1, g_6_5, k_10, l_25, l_28, li_0, li_1, li_8, iI_add, iI_mul, Option.bind_some, XF_shk, XF_sh6, XF_sh12, XF_sh11, XF_sh4, XR_sh43, XR_sh44, XR_sh45, XR_sh46, XR_sh25, XR_sh26, XR_sh27, XR_sh28, XR_sh29, XR_sh31, XR_sh32, XR_sh33, XR_sh34, XR_sh35, sF_sh, sR_sh43, sR_sh44, sR_sh45, sR_sh46, XJ_sh, XP_sh, XM_sh, iI_le, if_neg c, if_neg b', d_tell]
      · rw [if_neg b]
        have b' : XR X 28 0 (s * 8 + i) ≤ 0 := by omega
        simp (disch := first | assumption | omega | exact W_fl W _ _ _ | exact W_fh W _ _ _ | exact W_rl W _ _ _ | exact W_rh W _ _ _ | exact Wd_fl Wd _ | exact Wd_fh Wd _ | exact Wd_4l Wd _ | exact Wd_4h Wd _ | exact Wd_1l Wd _ | exact Wd_1h Wd _ | exact Wd_2l Wd _ | exact Wd_2h Wd _ | exact Wd_3l Wd _ | exact Wd_3h Wd _) only [bX10_start_132, bX10_start_168, g10s, g_6_1, g_6_5, k_10, l_25, l_28, li_0, li_1, li_8, iI_add, iI_mul, Option.bind_some, XF_shk, XF_sh6, XF_sh12, XF_sh11, XF_sh4, XR_sh43, XR_sh44, XR_sh45, XR_sh46, XR_sh25, XR_sh26, XR_sh27, XR_sh28, XR_sh29, XR_sh31, XR_sh32, XR_sh33, XR_sh34, XR_sh35, sF_sh, sR_sh43, sR_sh44, sR_sh45, sR_sh46, XJ_sh, XP_sh, XM_sh, iI_le, if_neg c, if_pos b']
  have outer : ∀ e : D5, WD e → CD X e → bX10_start_117 f0 f0 (Ad Y 10 k) (iI 0) (hp Y (shS X k e)) = some (hp Y (shS X k (st_s X (XR X 25 0 3).toNat e))) := by
    intro e we ce
    refine lp (fun f (i : Int) => bX10_start_117 f0 f (Ad Y 10 k) (iI i) (hp Y (shS X k (st_s X i.toNat e)))) (fun i => 0 ≤ i ∧ i ≤ XR X 25 0 3) (fun i => (17 - i).toNat) (fun r => r = _) ?_ f0 0 ⟨by omega, by omega⟩ (by omega)
    intro f i ⟨h0, h1⟩
    by_cases c : XR X 25 0 3 ≤ i
    · left
      simp (disch := first | assumption | omega | exact W_fl W _ _ _ | exact W_fh W _ _ _ | exact W_rl W _ _ _ | exact W_rh W _ _ _ | exact Wd_fl Wd _ | exact Wd_fh Wd _ | exact Wd_4l Wd _ | exact Wd_4h Wd _ | exact Wd_1l Wd _ | exact Wd_1h Wd _ | exact Wd_2l Wd _ | exact Wd_2h Wd _ | exact Wd_3l Wd _ | exact Wd_3h Wd _) only [bX10_start_117, g10s, g_6_1, l_25, li_0, li_1, li_3, iI_add, Option.bind_some, XF_shk, XF_sh6, XF_sh12, XF_sh11, XF_sh4, XR_sh43, XR_sh44, XR_sh45, XR_sh46, XR_sh25, XR_sh26, XR_sh27, XR_sh28, XR_sh29, XR_sh31, XR_sh32, XR_sh33, XR_sh34, XR_sh35, sF_sh, sR_sh43, sR_sh44, sR_sh45, sR_sh46, XJ_sh, XP_sh, XM_sh, iI_le, if_pos c]
      rw [show i = XR X 25 0 3 by omega]
    · right
      refine ⟨i + 1, ?_, ⟨by omega, by omega⟩, by omega⟩
      obtain ⟨wi, ci⟩ := st_s_cd hC i.toNat we ce
      have ei : ((i.toNat : Nat) : Int) = i := by omega
      rw [show (i + 1).toNat = i.toNat + 1 by omega, st_s, ei]
      simp (disch := first | assumption | omega | exact W_fl W _ _ _ | exact W_fh W _ _ _ | exact W_rl W _ _ _ | exact W_rh W _ _ _ | exact Wd_fl Wd _ | exact Wd_fh Wd _ | exact Wd_4l Wd _ | exact Wd_4h Wd _ | exact Wd_1l Wd _ | exact Wd_1h Wd _ | exact Wd_2l Wd _ | exact Wd_2h Wd _ | exact Wd_3l Wd _ | exact Wd_3h Wd _) only [bX10_start_117, g10s, g_6_1, l_25, li_0, li_1, li_3, iI_add, Option.bind_some, XF_shk, XF_sh6, XF_sh12, XF_sh11, XF_sh4, XR_sh43, XR_sh44, XR_sh45, XR_sh46, XR_sh25, XR_sh26, XR_sh27, XR_sh28, XR_sh29, XR_sh31, XR_sh32, XR_sh33, XR_sh34, XR_sh35, sF_sh, sR_sh43, sR_sh44, sR_sh45, sR_sh46, XJ_sh, XP_sh, XM_sh, iI_le, if_neg c, inner]
  have o2 := outer _ w0 d0
  have hfh := e_isForHer (f0 := f0) gs Ws
  by_cases hH : forHer X 0
  · have hq : (0 < XR X 25 0 0 ∧ 0 < XR X 25 0 3) := hH
    unfold st_0 at o2
    simp only [if_pos hH] at o2
    unfold stD st_0
    simp only [if_pos hH]
    simp (disch := first | assumption | omega | exact W_fl W _ _ _ | exact W_fh W _ _ _ | exact W_rl W _ _ _ | exact W_rh W _ _ _ | exact Wd_fl Wd _ | exact Wd_fh Wd _ | exact Wd_4l Wd _ | exact Wd_4h Wd _ | exact Wd_1l Wd _ | exact Wd_1h Wd _ | exact Wd_2l Wd _ | exact Wd_2h Wd _ | exact Wd_3l Wd _ | exact Wd_3h Wd _) only [fX10_start, bX10_start_23, bX10_start_36, bX10_start_64, g10s, p_10_1, k_6, lm_1, li_0, li_1, ob2, p_10_2, p_10_3, p_10_4, q_10_5, z_10_6, g_10_9, g_10_10, g_6_8, g_10_11, g_10_12, p_10_7, q_10_8, c_31, c_43, c_44, c_45, c_46, li_8, li_1000000, Option.bind_some, iI_add, iI_neg, p_10_5, p_10_8, XF_shk, XF_sh6, XF_sh12, XF_sh11, XF_sh4, XR_sh43, XR_sh44, XR_sh45, XR_sh46, XR_sh25, XR_sh26, XR_sh27, XR_sh28, XR_sh29, XR_sh31, XR_sh32, XR_sh33, XR_sh34, XR_sh35, sF_sh, sR_sh43, sR_sh44, sR_sh45, sR_sh46, XJ_sh, XP_sh, XM_sh, hfh, bI_i0, ite_n, if_pos hq, f43, f44, f46, c_31_45, upF_2, wr_id]
    exact o2
  · have hq : ¬ (0 < XR X 25 0 0 ∧ 0 < XR X 25 0 3) := hH
    unfold st_0 at o2
    simp only [if_neg hH] at o2
    unfold stD st_0
    simp only [if_neg hH]
    simp (disch := first | assumption | omega | exact W_fl W _ _ _ | exact W_fh W _ _ _ | exact W_rl W _ _ _ | exact W_rh W _ _ _ | exact Wd_fl Wd _ | exact Wd_fh Wd _ | exact Wd_4l Wd _ | exact Wd_4h Wd _ | exact Wd_1l Wd _ | exact Wd_1h Wd _ | exact Wd_2l Wd _ | exact Wd_2h Wd _ | exact Wd_3l Wd _ | exact Wd_3h Wd _) only [fX10_start, bX10_start_23, bX10_start_36, bX10_start_64, g10s, p_10_1, k_6, lm_1, li_0, li_1, ob2, p_10_2, p_10_3, p_10_4, q_10_5, z_10_6, g_10_9, g_10_10, g_6_8, g_10_11, g_10_12, p_10_7, q_10_8, c_31, c_43, c_44, c_45, c_46, li_8, li_1000000, Option.bind_some, iI_add, iI_neg, p_10_5, p_10_8, XF_shk, XF_sh6, XF_sh12, XF_sh11, XF_sh4, XR_sh43, XR_sh44, XR_sh45, XR_sh46, XR_sh25, XR_sh26, XR_sh27, XR_sh28, XR_sh29, XR_sh31, XR_sh32, XR_sh33, XR_sh34, XR_sh35, sF_sh, sR_sh43, sR_sh44, sR_sh45, sR_sh46, XJ_sh, XP_sh, XM_sh, hfh, bI_i0, ite_n, if_neg hq, f43, f44, f46, c_31_45, upF_2, wr_id]
    exact o2
