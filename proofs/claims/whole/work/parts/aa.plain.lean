/-! A SENTENCE IS READ: a plain condition, here and there -/
def opl (f0 : Nat) (v0 : Nat) (v3 : Int32) (h : Hp) : Option (Int32 × Hp) := (pfZ 12 44 h v0 1).bind fun h128 => (if 3 ≤ v3 then (if 5 ≤ v3 then (gfI 12 11 h128 v0).bind fun x202 => (if x202 = 3 then (gfI 12 14 h128 v0).bind fun x210 => (if x210 < 60 then bX12_operand_227 f0 v0 h128 else (gfI 12 14 h128 v0).bind fun x219 => (if x219 ≤ 62 then (gfI 12 14 h128 v0).bind fun x234 => (ckO 12 h128 v0).bind fun _ => (fX12_next f0 v0 h128).bind fun h240 => (gfI 12 11 h240 v0).bind fun x244 => (if x244 = 2 then (gfI 12 14 h240 v0).bind fun x262 => (ckO 12 h240 v0).bind fun _ => (fX12_code f0 v0 v3 x234 x262 h240).bind fun h265 => (ckO 12 h265 v0).bind fun _ => (fX12_next f0 v0 h265).bind fun h269 => zr 1 h269 else (ckO 12 h240 v0).bind fun _ => ob2 (fX12_bad f0 v0 1 h240) fun x253 h253 => zr x253 h253) else bX12_operand_227 f0 v0 h128)) else bX12_operand_227 f0 v0 h128) else (if v3 = 3 then bX12_operand_162 f0 v0 v3 v0 8 h128 else bX12_operand_162 f0 v0 v3 v0 0 h128)) else (ckO 12 h128 v0).bind fun _ => (fX12_code f0 v0 v3 0 0 h128).bind fun h140 => zr 1 h140)
theorem op38_l {f0 v0 : Nat} {v3 : Int32} {h : Hp} (n : Int32) (d : Int32) (e1 : gfI 12 41 h v0 = some n) (e2 : ¬ n = 20) (e3 : gfI 12 43 h v0 = some d) (e4 : d ≤ 8) : bX12_operand_38 f0 v0 0 0 v3 h = (pf 12 41 h v0 (.int (n + 1))).bind fun h69 => (ckO 12 h69 v0).bind fun _ => (fX12_next f0 v0 h69).bind fun h73 => opl f0 v0 v3 h73 := by
  unfold bX12_operand_38
  rw [e1, Option.bind_some, if_neg e2, e3, Option.bind_some, if_pos e4, Option.bind_some]
  rfl
def TxE (Z Z' : XS) : Prop := TxF Z Z' ∧ XF Z' 11 0 1 = XF Z 11 0 1 ∧ XF Z' 11 0 3 = XF Z 11 0 3 ∧ XF Z' 12 0 2 = XF Z 12 0 2
def TxO (Z Z' : XS) : Prop := TxE Z Z' ∧ XF Z' 12 0 15 = XF Z 12 0 15
theorem TxE_trans {X X1 X2 : XS} (h : TxE X X1) (h' : TxE X1 X2) : TxE X X2 := ⟨TxF_trans h.1 h'.1, h'.2.1.trans h.2.1, h'.2.2.1.trans h.2.2.1, h'.2.2.2.trans h.2.2.2⟩
theorem TxO_trans {X X1 X2 : XS} (h : TxO X X1) (h' : TxO X1 X2) : TxO X X2 := ⟨TxE_trans h.1 h'.1, h'.2.trans h.2⟩
theorem TxOE {X X1 X2 : XS} (h : TxO X X1) (h' : TxE X1 X2) : TxE X X2 := TxE_trans h.1 h'
theorem TxO_refl {X : XS} : TxO X X := ⟨⟨TxF_refl, rfl, rfl, rfl⟩, rfl⟩
theorem TxE_R {X X' : XS} (h : FrR X X') : TxE X X' := ⟨TxF_R h, h.1 11 0 1 (by omega), h.1 11 0 3 (by omega), h.1 12 0 2 (by omega)⟩
theorem TxO_F {X X' : XS} (h : TxO X X') {f : Nat} {v : Int} (c : f = 18 ∨ 40 ≤ f ∧ f ≤ 44) : TxO X (sF X' 12 0 f v) := by
  refine ⟨⟨TxF_F h.1.1 (by omega), ?_, ?_, ?_⟩, ?_⟩
  · exact h.1.2.1
  · exact h.1.2.2.1
  · rw [XF_sF, if_neg (by omega)]; exact h.1.2.2.2
  · rw [XF_sF, if_neg (by omega)]; exact h.2
theorem TxO_Rr {X X' : XS} (h : TxO X X') {s k : Nat} {r : Int → Int} (c : (k = 1 ∧ 23 ≤ s ∧ s ≤ 38) ∨ s = 40 ∨ s = 41 ∨ s = 42 ∨ s = 62 ∨ s = 63 ∨ s = 77) : TxO X (sR X' s k r) := ⟨⟨TxF_Rr h.1.1 c, h.1.2⟩, h.2⟩
theorem TxO_cd {X X' : XS} (h : TxO X X') {a b c : Int} : TxO X (cdZ X' a b c) := TxO_F (TxO_Rr h (by omega)) (by omega)
theorem TxO_nx {X Z Z' : XS} (h : TxO X Z) (n : NxF Z Z') : TxO X Z' := TxO_trans h ⟨TxE_R (FrR_nx n), n.1 12 0 15 (by omega)⟩
def KC (X : XS) (S : Int → Int) : Prop := RsC X ∧ (NmS X 0 0 ∧ NmS X 0 3) ∧ (XR X 25 0 0 = S 0 ∧ XR X 25 0 3 = S 1)
def KZ (X Z : XS) (S : Int → Int) : Prop := RsR Z ∧ NamI (XJ X 22 0) (XR X 23 0) (XR X 24 0) (XF X 3 0 3) S (fun i => XJ Z 64 0 (0 + i)) ∧ (∀ s, isN s → (0 ≤ ncS S s ∧ ncS S s ≤ 8) ∧ nbS s + ncS S s ≤ 30) ∧ XR Z 61 0 = S
theorem KC_fr {X X' : XS} {S : Int → Int} (f : FrC X X') (h : KC X S) : KC X' S := by
  unfold KC RsC NmS at *
  rw [f.2.2.1 21 0 (by omega), f.2.1 25 0 (by omega), f.2.1 23 0 (by omega), f.2.1 24 0 (by omega), f.1 3 0 3 (by omega)]
  exact h
theorem KZ_fr {X X' Z Z' : XS} {S : Int → Int} (f : FrC X X') (t : TxO Z Z') (h : KZ X Z S) : KZ X' Z' S := by
  obtain ⟨⟨t, _⟩, _⟩ := t
  obtain ⟨h1, h2, h3, h4⟩ := h
  refine ⟨?_, ?_, h3, by rw [t.2.1 61 0 (by omega)]; exact h4⟩
  · unfold RsR at *; rw [t.2.2.1 65 0 (by omega)]; exact h1
  · rw [f.2.2.1 22 0 (by omega), f.2.1 23 0 (by omega), f.2.1 24 0 (by omega), f.1 3 0 3 (by omega)]
    exact NamI_nm (fun s hs => (h3 s hs).2) (fun i _ i1 => t.2.2.2.1 (0 + i) (by omega)) h2
theorem KZ_L {X Z : XS} {S : Int → Int} (W : WF Z) (r : TokR X Z) (h : KZ X Z S) : LkZ X Z 0 S 0 := ⟨W, r, h.1, h.2.1, fun s hs => (h.2.2.1 s hs).1, by omega, by omega⟩
/-- what a plain condition needs and gives -/
def PlF (f0 : Nat) (Y : YS) (X X' : XS) (S : Int → Int) (q : Int) : Prop := FaC X' ∧ ∀ Z t, WF Z → TokR X Z → KZ X Z S → PenR X Z t 0 0 0 → ∃ Z', opl f0 (Ad Y 12 0) (iI (q - 19)) (hp Y Z) = some (0, hp Y Z') ∧ WF Z' ∧ TxE Z Z' ∧ FaR X' Z'
def PlT (f0 : Nat) (Y : YS) (X X' : XS) (S : Int → Int) (q : Int) : Prop := TokC X' ∧ DSn X' S ∧ hgX X' = hgX X + 1 ∧ XF X' 8 1 3 = XF X 8 1 3 + 1 ∧ XF X' 9 0 3 = XF X 9 0 3 ∧ XF X' 4 0 10 = XF X 4 0 10 ∧ XF X 4 0 6 ≤ XF X' 4 0 6 ∧ ∀ Z t, WF Z → TokR X Z → KZ X Z S → PenR X Z t 0 0 0 → ∃ Z', opl f0 (Ad Y 12 0) (iI (q - 19)) (hp Y Z) = some (1, hp Y Z') ∧ WF Z' ∧ TxO Z Z' ∧ TokR X' Z' ∧ PenR X' Z' t 0 0 0 ∧ XF Z' 12 0 43 = XF Z 12 0 43 ∧ XF Z' 12 0 44 = 1 ∧ XR Z' 77 0 = XR Z 77 0
theorem pl_0 {f0 : Nat} {Y : YS} {X : XS} {S : Int → Int} (g : GY Y) (W : WF X) (c : TokC X) (ds : DSn X S) (rm : XF X 8 1 3 + hgX X + 2 ≤ 2 * XF X 9 0 3) {q : Int} (q0 : 19 ≤ q) (q1 : q < 22) : ∃ X', fX9_readPlain f0 (Ad Y 9 0) (iI q) (hp Y X) = some (1, hp Y X') ∧ WF X' ∧ FrC X X' ∧ PlT f0 Y X X' S q := by
  have hr := hgX_rg ds
  have d1 := ds.1
  have so := StO_1 g
  have rq : Rg q := ⟨by omega, by omega⟩
  have rz : Rg (0 : Int) := ⟨by decide, by decide⟩
  have n1 : ¬ q = 22 := by omega
  have n2 : ¬ q = 23 := by omega
  have n3 : q < 24 := by omega
  have hd : (if q = 18 then (0 : Int) else if q = 17 ∨ q = 16 then -1 else 1) = 1 := by rw [if_neg (by omega), if_neg (by omega)]
  have ad := e_addS (f0 := f0) (Y := Y) so W (a := q) (b := 0) (c := 0) d1.1 (by omega)
  refine ⟨adX X q 0 0, ?_, ad_W W rq rz rz d1.1 (by omega), ad_Fr, TokC_s ad_Rd c, DSn_ad ds (by rw [hd]; omega) ⟨by omega, fun w => by omega, fun w => by omega, fun w => by omega, fun w => by omega, fun w => by omega⟩, by rw [ad_hg d1.1, hd], rfl, rfl, rfl, Int.le_refl _, fun Z t WZ r kz p => ?_⟩
  · simp (disch := first | assumption | omega) only [fX9_readPlain, bX9_readPlain_108, bX9_readPlain_128, g_9_0, g_9_1, g_4_5, k_4, li_22, li_3, li_0, li_23, li_24, li_60, li_61, li_62, li_1, ob2, lm_1, g_9_2, k_8, Option.bind_some, iI_add, iI_neg, iI_eq, if_neg n1, if_neg n2, iI_lt, if_pos n3, if_pos q1, Int.reduceEq, if_false, ad]
    exact zr_i1
  · have p3 := p.2.2.1; have p2 := p.2.1
    obtain ⟨Z1, hZ1⟩ : ∃ Z1, Z1 = sF Z 12 0 44 1 := ⟨_, rfl⟩
    have W1 : WF Z1 := by rw [hZ1]; exact W_F WZ (by decide) (by decide)
    have z40 : XF Z1 12 0 40 = XF Z 12 0 40 := by rw [hZ1]; rfl
    have cd := r_code (f0 := f0) (Y := Y) (Z := Z1) g (a := q - 19) (b := 0) (c := 0) (by omega) (by omega)
    have p1 : PenR X Z1 t 0 0 0 := PenR_cg p z40 (by rw [hZ1]; rfl) (by rw [hZ1]; rfl) (by rw [hZ1]; rfl) (by rw [hZ1]; rfl)
    have n4 : ¬ 3 ≤ q - 19 := by omega
    have tt : TxO Z Z1 := by rw [hZ1]; exact TxO_F TxO_refl (by omega)
    have zz : pfZ 12 44 (hp Y Z) (Ad Y 12 0) (iI 1) = some (hp Y Z1) := by rw [hZ1]; exact z_12_44 g (.inr rfl)
    refine ⟨cdZ Z1 (q - 19) 0 0, ?_, WF_cd W1 ⟨by omega, by omega⟩ rz rz (by omega) (by omega), TxO_cd tt, TokR_s ad_Rd ⟨fun f hf => ?_, ?_, ?_⟩ r, PenR_leaf p1 q0 (by omega), by rw [hZ1]; rfl, by rw [hZ1]; rfl, by rw [hZ1]; rfl⟩
    · simp (disch := first | assumption | omega) only [opl, li_1, li_3, li_0, zz, Option.bind_some, iI_le, if_neg n4, k_12 g, cd]
      exact zr_i1
    · rw [hZ1]; rcases hf with e | e | e | e | e | e <;> subst e <;> rfl
    · rw [hZ1]; rfl
    · rw [hZ1]; rfl
