/-! A SENTENCE IS READ: the three, by depth -/
theorem j_all {f0 : Nat} {Y : YS} {S : Int → Int} {d : Int} {rr : Nat → Nat → Int32 → Hp → Option (Int32 × Hp)} (g : GY Y) (d0 : 1 ≤ d) (d9 : d ≤ 9) (hf : 2000 ≤ f0) (ih : JR f0 Y S 2 d (rr 2)) : JR f0 Y S 1 d (fX9_readAll f0 rr) := by
  intro X W c kc ds
  obtain ⟨b, X1, e1, W1, f1, hh⟩ := ih X W c kc ds
  have up : ∀ Z t f, RPre X Z S 1 t d (XF X 4 0 3 + 5) f → RPre X Z S 2 t d (XF X 4 0 3 + 5) f := fun Z t f p => ⟨p.1, p.2.1, p.2.2.1, p.2.2.2.1, p.2.2.2.2.1, p.2.2.2.2.2.1, p.2.2.2.2.2.2.1, .inr (.inl rfl), by have := p.2.2.2.2.2.2.2.2; omega⟩
  rcases hh with ⟨b0, fa, kk⟩ | ⟨b1, t1, ds1, kx, h1, s1, o1, z1, p1, kk⟩
  · subst b0
    refine ⟨0, X1, ?_, W1, f1, .inl ⟨rfl, fa, fun Z t f p => kk Z t f (up Z t f p)⟩⟩
    simp (disch := first | assumption | omega) only [fX9_readAll, k_9, li_2, li_0, ob2, Option.bind_some, iI_add, e1, if_true]
    exact zr_i0
  · subst b1
    have cl : fX9_readAll f0 rr (Ad Y 9 0) (iI d) (hp Y X) = bX9_readAll_12 f0 rr f0 (Ad Y 9 0) (iI d) (iI 0) (hp Y X1) := by
      simp (disch := first | assumption | omega) only [fX9_readAll, k_9, li_2, li_0, ob2, Option.bind_some, iI_add, e1, li_1, iI_eq, Int.reduceEq, if_false]
    rw [cl]
    refine j_allL g d0 d9 hf ih ds _ f0 X1 0 rfl (by omega) (by omega) W1 f1 t1 (KC_fr f1 kc) ds1 h1 s1 o1 z1 (by have := ds.1.2.2.1; omega) p1 (fun Z t f p => ?_)
    obtain ⟨f', Z', l1, l2, l3, l4, ⟨i, j, k, l5, l6, l7, l8, l9⟩, l10⟩ := kk Z t f (up Z t f p)
    exact ⟨f', Z', l1, l2, l3, l4, ⟨i, j, k, l5, l6, fun _ => l7 (by decide), fun w => absurd w (by decide), l9⟩, l10⟩
theorem j_cond {f0 : Nat} {Y : YS} {S : Int → Int} {d : Int} {rr : Nat → Nat → Int32 → Hp → Option (Int32 × Hp)} (g : GY Y) (d0 : 1 ≤ d) (d9 : d ≤ 9) (hf : 2000 ≤ f0) (ih : JR f0 Y S 1 d (rr 1)) : JR f0 Y S 0 d (fX9_readCond f0 rr) := by
  intro X W c kc ds
  obtain ⟨b, X1, e1, W1, f1, hh⟩ := ih X W c kc ds
  have up : ∀ Z t f, RPre X Z S 0 t d (XF X 4 0 3 + 5) f → RPre X Z S 1 t d (XF X 4 0 3 + 5) f := fun Z t f p => ⟨p.1, p.2.1, p.2.2.1, p.2.2.2.1, p.2.2.2.2.1, p.2.2.2.2.2.1, p.2.2.2.2.2.2.1, by have := p.2.2.2.2.2.2.2.1; unfold bsC at *; omega, by have := p.2.2.2.2.2.2.2.2; omega⟩
  rcases hh with ⟨b0, fa, kk⟩ | ⟨b1, t1, ds1, kx, h1, s1, o1, z1, p1, kk⟩
  · subst b0
    refine ⟨0, X1, ?_, W1, f1, .inl ⟨rfl, fa, fun Z t f p => kk Z t f (up Z t f p)⟩⟩
    simp (disch := first | assumption | omega) only [fX9_readCond, k_9, li_1, li_0, ob2, Option.bind_some, iI_add, e1, if_true]
    exact zr_i0
  · subst b1
    have cl : fX9_readCond f0 rr (Ad Y 9 0) (iI d) (hp Y X) = bX9_readCond_12 f0 rr f0 (Ad Y 9 0) (iI d) (iI 0) (hp Y X1) := by
      simp (disch := first | assumption | omega) only [fX9_readCond, k_9, li_1, li_0, ob2, Option.bind_some, iI_add, e1, li_1, iI_eq, Int.reduceEq, if_false]
    rw [cl]
    refine j_condL g d0 d9 hf ih ds _ f0 X1 0 rfl (by omega) (by omega) W1 f1 t1 (kx.1 (by decide)) (KC_fr f1 kc) ds1 h1 s1 o1 z1 (by have := ds.1.2.2.1; omega) p1 (fun Z t f p => ?_)
    obtain ⟨f', Z', l1, l2, l3, l4, ⟨i, j, k, l5, l6, l7, l8, l9⟩, l10⟩ := kk Z t f (up Z t f p)
    exact ⟨f', Z', l1, l2, l3, l4, ⟨i, j, k, l5, l6, fun w => absurd w (by decide), fun w => absurd w (by decide), l9⟩, l10⟩
theorem j_rec {f0 : Nat} {Y : YS} {S : Int → Int} (g : GY Y) (hf : 2000 ≤ f0) : ∀ (D : Nat) (d : Int), 1 ≤ d → d ≤ 9 → (3 * (10 - d) + 3 ≤ D → JR f0 Y S 0 d (rX9 f0 D 0)) ∧ (3 * (10 - d) + 2 ≤ D → JR f0 Y S 1 d (rX9 f0 D 1)) ∧ (3 * (10 - d) + 1 ≤ D → JR f0 Y S 2 d (rX9 f0 D 2))
  | 0, d, d0, d9 => ⟨fun w => by omega, fun w => by omega, fun w => by omega⟩
  | D + 1, d, d0, d9 => ⟨fun w => j_cond g d0 d9 hf ((j_rec g hf D d d0 d9).2.1 (by omega)), fun w => j_all g d0 d9 hf ((j_rec g hf D d d0 d9).2.2 (by omega)), fun w => j_one g d0 d9 hf (fun w' => (j_rec g hf D (d + 1) (by omega) (by omega)).1 (by omega)) (fun w' => (j_rec g hf D (d + 1) (by omega) (by omega)).2.2 (by omega))⟩
