/-! THE LAW, call by call -/
def LdO (L : Nat) (xs0 : Nat → Int32) (i : Int32) : Prop := ∀ j : Int32, (j = 1 ∨ j = 2 ∨ j = 3 ∨ j = 4 ∨ j = 5) → ∃ n : Int, ldP L xs0 (i + j) = some (iI n) ∧ Rg n
theorem ck11 {Y : YS} {X : XS} (g : GY Y) : ∃ u, ckO 11 (hp Y X) (Ad Y 11 0) = some u := ⟨_, ck_Y g (g.2.2.2.1 _ (by decide)) rfl⟩
theorem ck12 {Y : YS} {X : XS} (g : GY Y) : ∃ u, ckO 12 (hp Y X) (Ad Y 12 0) = some u := ⟨_, ck_Y g (g.2.2.2.1 _ (by decide)) rfl⟩
theorem SameA_refl {Y : YS} : SameA Y Y := fun _ _ _ => rfl
theorem lw0_ok {f0 L : Nat} {xs0 : Nat → Int32} {Y : YS} {X : XS} {i : Int32} {K : Hp → Prop} (h : Inv Y X) (hf : 30000000000 ≤ f0) (a : LdO L xs0 i) (hK : ∀ Y2 X2, SameA Y Y2 → Inv Y2 X2 → K (hp Y2 X2)) : lw0 f0 L xs0 (Ad Y 11 0) (Ad Y 12 0) (Ad Y 90 0) i (hp Y X) K := by
  have g := h.1.1
  obtain ⟨n1, e1, r1⟩ := a 1 (by decide)
  obtain ⟨n2, e2, r2⟩ := a 2 (by decide)
  obtain ⟨n3, e3, r3⟩ := a 3 (by decide)
  obtain ⟨n4, e4, r4⟩ := a 4 (by decide)
  obtain ⟨n5, e5, r5⟩ := a 5 (by decide)
  unfold lw0
  obtain ⟨v, X1, X2, c1, c2, i2⟩ := op_feed (f0 := f0) h (by omega)
  obtain ⟨u1, hu1⟩ := ck11 (X := X) g
  obtain ⟨u2, hu2⟩ := ck12 (X := X1) g
  exact ⟨_, e1, _, e2, _, e3, _, e4, _, e5, u1, hu1, _, _, c1, _, e1, _, e2, _, e3, _, e4, _, e5, u2, hu2, _, _, c2, by rw [if_pos rfl]; exact hK Y X2 SameA_refl i2⟩
theorem lw1_ok {f0 L : Nat} {xs0 : Nat → Int32} {Y : YS} {X : XS} {i : Int32} {K : Hp → Prop} (h : Inv Y X) (hf : 30000000000 ≤ f0) (a : LdO L xs0 i) (hK : ∀ Y2 X2, SameA Y Y2 → Inv Y2 X2 → K (hp Y2 X2)) : lw1 f0 L xs0 (Ad Y 11 0) (Ad Y 12 0) (Ad Y 90 0) i (hp Y X) K := by
  have g := h.1.1
  obtain ⟨n1, e1, r1⟩ := a 1 (by decide)
  unfold lw1
  obtain ⟨v, X1, X2, c1, c2, i2⟩ := op_end (f0 := f0) h r1
  obtain ⟨u1, hu1⟩ := ck11 (X := X) g
  obtain ⟨u2, hu2⟩ := ck12 (X := X1) g
  exact ⟨_, e1, u1, hu1, _, _, c1, _, e1, u2, hu2, _, _, c2, by rw [if_pos rfl]; exact hK Y X2 SameA_refl i2⟩
theorem lw2_ok {f0 L : Nat} {xs0 : Nat → Int32} {Y : YS} {X : XS} {i : Int32} {K : Hp → Prop} (h : Inv Y X) (hf : 30000000000 ≤ f0) (a : LdO L xs0 i) (hK : ∀ Y2 X2, SameA Y Y2 → Inv Y2 X2 → K (hp Y2 X2)) : lw2 f0 L xs0 (Ad Y 11 0) (Ad Y 12 0) (Ad Y 90 0) i (hp Y X) K := by
  have g := h.1.1
  unfold lw2
  obtain ⟨v, X1, X2, c1, c2, i2⟩ := op_sea (f0 := f0) h (by omega)
  obtain ⟨u1, hu1⟩ := ck11 (X := X) g
  obtain ⟨u2, hu2⟩ := ck12 (X := X1) g
  exact ⟨u1, hu1, _, _, c1, u2, hu2, _, _, c2, by rw [if_pos rfl]; exact hK Y X2 SameA_refl i2⟩
theorem lw3_ok {f0 L : Nat} {xs0 : Nat → Int32} {Y : YS} {X : XS} {i : Int32} {K : Hp → Prop} (h : Inv Y X) (hf : 30000000000 ≤ f0) (a : LdO L xs0 i) (hK : ∀ Y2 X2, SameA Y Y2 → Inv Y2 X2 → K (hp Y2 X2)) : lw3 f0 L xs0 (Ad Y 11 0) (Ad Y 12 0) (Ad Y 90 0) i (hp Y X) K := by
  have g := h.1.1
  unfold lw3
  obtain ⟨v, X1, X2, c1, c2, i2⟩ := op_fault (f0 := f0) h
  obtain ⟨u1, hu1⟩ := ck11 (X := X) g
  obtain ⟨u2, hu2⟩ := ck12 (X := X1) g
  exact ⟨u1, hu1, _, _, c1, u2, hu2, _, _, c2, by rw [if_pos rfl]; exact hK Y X2 SameA_refl i2⟩
theorem lw4_ok {f0 L : Nat} {xs0 : Nat → Int32} {Y : YS} {X : XS} {i : Int32} {K : Hp → Prop} (h : Inv Y X) (hf : 30000000000 ≤ f0) (a : LdO L xs0 i) (hK : ∀ Y2 X2, SameA Y Y2 → Inv Y2 X2 → K (hp Y2 X2)) : lw4 f0 L xs0 (Ad Y 11 0) (Ad Y 12 0) (Ad Y 90 0) i (hp Y X) K := by
  have g := h.1.1
  obtain ⟨n1, e1, r1⟩ := a 1 (by decide)
  obtain ⟨n2, e2, r2⟩ := a 2 (by decide)
  unfold lw4
  obtain ⟨t, X1, v, X2, c1, c2, ht, t01, hv, i2⟩ := op_port (f0 := f0) h r1 r2 (by omega)
  obtain ⟨u1, hu1⟩ := ck12 (X := X1) g
  obtain ⟨u2, hu2⟩ := ck12 (X := X2) g
  have th : fX12_thrown f0 (Ad Y 12 0) (hp Y X2) = some (iI t, hp Y X2) := by unfold fX12_thrown; rw [g_12_0 g, Option.bind_some, ht]
  refine ⟨_, e1, _, e2, _, _, c1, _, e1, _, e2, u1, hu1, _, _, c2, u2, hu2, _, _, th, ?_⟩
  rw [if_pos rfl]
  rcases t01 with q | q
  · rw [if_pos (by rw [q]; rfl)]
    refine ⟨_, l_90 (i := 0) g (by decide) (by decide), ?_⟩
    rw [hv q, if_pos (by simp [lg_cmp])]
    exact hK Y X2 SameA_refl i2
  · rw [if_neg (by rw [q]; decide)]
    exact hK Y X2 SameA_refl i2
theorem lw5_ok {f0 L : Nat} {xs0 : Nat → Int32} {Y : YS} {X : XS} {i : Int32} {K : Hp → Prop} (h : Inv Y X) (hf : 30000000000 ≤ f0) (a : LdO L xs0 i) (hK : ∀ Y2 X2, SameA Y Y2 → Inv Y2 X2 → K (hp Y2 X2)) : lw5 f0 L xs0 (Ad Y 11 0) (Ad Y 12 0) (Ad Y 90 0) i (hp Y X) K := by
  have g := h.1.1
  obtain ⟨n1, e1, r1⟩ := a 1 (by decide)
  obtain ⟨n2, e2, r2⟩ := a 2 (by decide)
  unfold lw5
  obtain ⟨v, X1, X2, c1, c2, i2⟩ := op_way (f0 := f0) h r1 r2
  obtain ⟨u1, hu1⟩ := ck11 (X := X) g
  obtain ⟨u2, hu2⟩ := ck12 (X := X1) g
  exact ⟨_, e1, _, e2, u1, hu1, _, _, c1, _, e1, _, e2, u2, hu2, _, _, c2, by rw [if_pos rfl]; exact hK Y X2 SameA_refl i2⟩
theorem lw6_ok {f0 L : Nat} {xs0 : Nat → Int32} {Y : YS} {X : XS} {i : Int32} {K : Hp → Prop} (h : Inv Y X) (hf : 30000000000 ≤ f0) (a : LdO L xs0 i) (hK : ∀ Y2 X2, SameA Y Y2 → Inv Y2 X2 → K (hp Y2 X2)) : lw6 f0 L xs0 (Ad Y 11 0) (Ad Y 12 0) (Ad Y 90 0) i (hp Y X) K := by
  have g := h.1.1
  obtain ⟨n1, e1, r1⟩ := a 1 (by decide)
  obtain ⟨n2, e2, r2⟩ := a 2 (by decide)
  unfold lw6
  obtain ⟨v, X1, X2, c1, c2, i2⟩ := op_mail (f0 := f0) h r1 r2
  obtain ⟨u1, hu1⟩ := ck11 (X := X) g
  obtain ⟨u2, hu2⟩ := ck12 (X := X1) g
  exact ⟨_, e1, _, e2, u1, hu1, _, _, c1, _, e1, _, e2, u2, hu2, _, _, c2, by rw [if_pos rfl]; exact hK Y X2 SameA_refl i2⟩
theorem lw7_ok {f0 L : Nat} {xs0 : Nat → Int32} {Y : YS} {X : XS} {i : Int32} {K : Hp → Prop} (h : Inv Y X) (hf : 30000000000 ≤ f0) (a : LdO L xs0 i) (hK : ∀ Y2 X2, SameA Y Y2 → Inv Y2 X2 → K (hp Y2 X2)) : lw7 f0 L xs0 (Ad Y 11 0) (Ad Y 12 0) (Ad Y 90 0) i (hp Y X) K := by
  have g := h.1.1
  obtain ⟨n1, e1, r1⟩ := a 1 (by decide)
  obtain ⟨n2, e2, r2⟩ := a 2 (by decide)
  obtain ⟨n3, e3, r3⟩ := a 3 (by decide)
  unfold lw7
  obtain ⟨v, X1, X2, c1, c2, i2⟩ := op_price (f0 := f0) h r1 r2 r3
  obtain ⟨u1, hu1⟩ := ck11 (X := X) g
  obtain ⟨u2, hu2⟩ := ck12 (X := X1) g
  exact ⟨_, e1, _, e2, _, e3, u1, hu1, _, _, c1, _, e1, _, e2, _, e3, u2, hu2, _, _, c2, by rw [if_pos rfl]; exact hK Y X2 SameA_refl i2⟩
theorem lw8_ok {f0 L : Nat} {xs0 : Nat → Int32} {Y : YS} {X : XS} {i : Int32} {K : Hp → Prop} (h : Inv Y X) (hf : 30000000000 ≤ f0) (a : LdO L xs0 i) (hK : ∀ Y2 X2, SameA Y Y2 → Inv Y2 X2 → K (hp Y2 X2)) : lw8 f0 L xs0 (Ad Y 11 0) (Ad Y 12 0) (Ad Y 90 0) i (hp Y X) K := by
  have g := h.1.1
  obtain ⟨n1, e1, r1⟩ := a 1 (by decide)
  unfold lw8
  obtain ⟨v, X1, X2, c1, c2, i2⟩ := op_now (f0 := f0) h r1
  obtain ⟨u1, hu1⟩ := ck11 (X := X) g
  obtain ⟨u2, hu2⟩ := ck12 (X := X1) g
  exact ⟨_, e1, u1, hu1, _, _, c1, _, e1, u2, hu2, _, _, c2, by rw [if_pos rfl]; exact hK Y X2 SameA_refl i2⟩
theorem lw9_ok {f0 L : Nat} {xs0 : Nat → Int32} {Y : YS} {X : XS} {i : Int32} {K : Hp → Prop} (h : Inv Y X) (hf : 30000000000 ≤ f0) (a : LdO L xs0 i) (hK : ∀ Y2 X2, SameA Y Y2 → Inv Y2 X2 → K (hp Y2 X2)) : lw9 f0 L xs0 (Ad Y 11 0) (Ad Y 12 0) (Ad Y 90 0) i (hp Y X) K := by
  have g := h.1.1
  obtain ⟨n1, e1, r1⟩ := a 1 (by decide)
  unfold lw9
  obtain ⟨v, X1, X2, c1, c2, i2⟩ := op_paint (f0 := f0) h r1 (by omega)
  obtain ⟨u1, hu1⟩ := ck11 (X := X) g
  obtain ⟨u2, hu2⟩ := ck12 (X := X1) g
  exact ⟨_, e1, u1, hu1, _, _, c1, _, e1, u2, hu2, _, _, c2, by rw [if_pos rfl]; exact hK Y X2 SameA_refl i2⟩
theorem lw10_ok {f0 L : Nat} {xs0 : Nat → Int32} {Y : YS} {X : XS} {i : Int32} {K : Hp → Prop} (h : Inv Y X) (hf : 30000000000 ≤ f0) (a : LdO L xs0 i) (hK : ∀ Y2 X2, SameA Y Y2 → Inv Y2 X2 → K (hp Y2 X2)) : lw10 f0 L xs0 (Ad Y 11 0) (Ad Y 12 0) (Ad Y 90 0) i (hp Y X) K := by
  have g := h.1.1
  obtain ⟨n1, e1, r1⟩ := a 1 (by decide)
  unfold lw10
  obtain ⟨v, X1, X2, c1, c2, i2⟩ := op_sail (f0 := f0) h r1 (by omega)
  obtain ⟨u1, hu1⟩ := ck11 (X := X) g
  obtain ⟨u2, hu2⟩ := ck12 (X := X1) g
  exact ⟨_, e1, u1, hu1, _, _, c1, _, e1, u2, hu2, _, _, c2, by rw [if_pos rfl]; exact hK Y X2 SameA_refl i2⟩
theorem lw11_ok {f0 L : Nat} {xs0 : Nat → Int32} {Y : YS} {X : XS} {i : Int32} {K : Hp → Prop} (h : Inv Y X) (hf : 30000000000 ≤ f0) (a : LdO L xs0 i) (hK : ∀ Y2 X2, SameA Y Y2 → Inv Y2 X2 → K (hp Y2 X2)) : lw11 f0 L xs0 (Ad Y 11 0) (Ad Y 12 0) (Ad Y 90 0) i (hp Y X) K := by
  have g := h.1.1
  obtain ⟨n1, e1, r1⟩ := a 1 (by decide)
  unfold lw11
  obtain ⟨v, X1, X2, c1, c2, i2⟩ := op_waits (f0 := f0) h r1 (by omega)
  obtain ⟨u1, hu1⟩ := ck11 (X := X) g
  obtain ⟨u2, hu2⟩ := ck12 (X := X1) g
  exact ⟨_, e1, u1, hu1, _, _, c1, _, e1, u2, hu2, _, _, c2, by rw [if_pos rfl]; exact hK Y X2 SameA_refl i2⟩
theorem lw12_ok {f0 L : Nat} {xs0 : Nat → Int32} {Y : YS} {X : XS} {i : Int32} {K : Hp → Prop} (h : Inv Y X) (hf : 30000000000 ≤ f0) (a : LdO L xs0 i) (hK : ∀ Y2 X2, SameA Y Y2 → Inv Y2 X2 → K (hp Y2 X2)) : lw12 f0 L xs0 (Ad Y 11 0) (Ad Y 12 0) (Ad Y 90 0) i (hp Y X) K := by
  have g := h.1.1
  unfold lw12
  obtain ⟨v, X1, X2, c1, c2, i2⟩ := op_takes (f0 := f0) h (by omega)
  obtain ⟨u1, hu1⟩ := ck11 (X := X) g
  obtain ⟨u2, hu2⟩ := ck12 (X := X1) g
  exact ⟨u1, hu1, _, _, c1, u2, hu2, _, _, c2, by rw [if_pos rfl]; exact hK Y X2 SameA_refl i2⟩
theorem lw13_ok {f0 L : Nat} {xs0 : Nat → Int32} {Y : YS} {X : XS} {i : Int32} {K : Hp → Prop} (h : Inv Y X) (hf : 30000000000 ≤ f0) (a : LdO L xs0 i) (hK : ∀ Y2 X2, SameA Y Y2 → Inv Y2 X2 → K (hp Y2 X2)) : lw13 f0 L xs0 (Ad Y 11 0) (Ad Y 12 0) (Ad Y 90 0) i (hp Y X) K := by
  have g := h.1.1
  obtain ⟨n1, e1, r1⟩ := a 1 (by decide)
  obtain ⟨n2, e2, r2⟩ := a 2 (by decide)
  unfold lw13
  obtain ⟨v, X1, X2, c1, c2, i2⟩ := op_learn (f0 := f0) h r1 r2 (by omega)
  obtain ⟨u1, hu1⟩ := ck11 (X := X) g
  obtain ⟨u2, hu2⟩ := ck12 (X := X1) g
  exact ⟨_, e1, _, e2, u1, hu1, _, _, c1, _, e1, _, e2, u2, hu2, _, _, c2, by rw [if_pos rfl]; exact hK Y X2 SameA_refl i2⟩
theorem lw14_ok {f0 L : Nat} {xs0 : Nat → Int32} {Y : YS} {X : XS} {i : Int32} {K : Hp → Prop} (h : Inv Y X) (hf : 30000000000 ≤ f0) (a : LdO L xs0 i) (hK : ∀ Y2 X2, SameA Y Y2 → Inv Y2 X2 → K (hp Y2 X2)) : lw14 f0 L xs0 (Ad Y 11 0) (Ad Y 12 0) (Ad Y 90 0) i (hp Y X) K := by
  have g := h.1.1
  unfold lw14
  obtain ⟨v, X1, X2, c1, c2, i2⟩ := op_undo (f0 := f0) h (by omega)
  obtain ⟨u1, hu1⟩ := ck11 (X := X) g
  obtain ⟨u2, hu2⟩ := ck12 (X := X1) g
  exact ⟨u1, hu1, _, _, c1, u2, hu2, _, _, c2, by rw [if_pos rfl]; exact hK Y X2 SameA_refl i2⟩
theorem lw15_ok {f0 L : Nat} {xs0 : Nat → Int32} {Y : YS} {X : XS} {i : Int32} {K : Hp → Prop} (h : Inv Y X) (hf : 30000000000 ≤ f0) (a : LdO L xs0 i) (hK : ∀ Y2 X2, SameA Y Y2 → Inv Y2 X2 → K (hp Y2 X2)) : lw15 f0 L xs0 (Ad Y 11 0) (Ad Y 12 0) (Ad Y 90 0) i (hp Y X) K := by
  have g := h.1.1
  obtain ⟨n1, e1, r1⟩ := a 1 (by decide)
  obtain ⟨n2, e2, r2⟩ := a 2 (by decide)
  unfold lw15
  obtain ⟨v, X1, X2, c1, c2, i2⟩ := op_knows (f0 := f0) h r1 r2 (by omega)
  obtain ⟨u1, hu1⟩ := ck11 (X := X) g
  obtain ⟨u2, hu2⟩ := ck12 (X := X1) g
  exact ⟨_, e1, _, e2, u1, hu1, _, _, c1, _, e1, _, e2, u2, hu2, _, _, c2, by rw [if_pos rfl]; exact hK Y X2 SameA_refl i2⟩
theorem lw16_ok {f0 L : Nat} {xs0 : Nat → Int32} {Y : YS} {X : XS} {i : Int32} {K : Hp → Prop} (h : Inv Y X) (hf : 30000000000 ≤ f0) (a : LdO L xs0 i) (hK : ∀ Y2 X2, SameA Y Y2 → Inv Y2 X2 → K (hp Y2 X2)) : lw16 f0 L xs0 (Ad Y 11 0) (Ad Y 12 0) (Ad Y 90 0) i (hp Y X) K := by
  have g := h.1.1
  obtain ⟨n1, e1, r1⟩ := a 1 (by decide)
  unfold lw16
  obtain ⟨v, X1, X2, c1, c2, i2⟩ := op_first (f0 := f0) h r1 (by omega)
  obtain ⟨u1, hu1⟩ := ck11 (X := X) g
  obtain ⟨u2, hu2⟩ := ck12 (X := X1) g
  exact ⟨_, e1, u1, hu1, _, _, c1, _, e1, u2, hu2, _, _, c2, by rw [if_pos rfl]; exact hK Y X2 SameA_refl i2⟩
theorem lw17_ok {f0 L : Nat} {xs0 : Nat → Int32} {Y : YS} {X : XS} {i : Int32} {K : Hp → Prop} (h : Inv Y X) (hf : 30000000000 ≤ f0) (a : LdO L xs0 i) (hK : ∀ Y2 X2, SameA Y Y2 → Inv Y2 X2 → K (hp Y2 X2)) : lw17 f0 L xs0 (Ad Y 11 0) (Ad Y 12 0) (Ad Y 90 0) i (hp Y X) K := by
  have g := h.1.1
  obtain ⟨n1, e1, r1⟩ := a 1 (by decide)
  obtain ⟨n2, e2, r2⟩ := a 2 (by decide)
  unfold lw17
  obtain ⟨v, X1, X2, c1, c2, i2⟩ := op_far (f0 := f0) h r1 r2
  obtain ⟨u1, hu1⟩ := ck11 (X := X) g
  obtain ⟨u2, hu2⟩ := ck12 (X := X1) g
  exact ⟨_, e1, _, e2, u1, hu1, _, _, c1, _, e1, _, e2, u2, hu2, _, _, c2, by rw [if_pos rfl]; exact hK Y X2 SameA_refl i2⟩
theorem lw18_ok {f0 L : Nat} {xs0 : Nat → Int32} {Y : YS} {X : XS} {i : Int32} {K : Hp → Prop} (h : Inv Y X) (hf : 30000000000 ≤ f0) (a : LdO L xs0 i) (hK : ∀ Y2 X2, SameA Y Y2 → Inv Y2 X2 → K (hp Y2 X2)) : lw18 f0 L xs0 (Ad Y 11 0) (Ad Y 12 0) (Ad Y 90 0) i (hp Y X) K := by
  have g := h.1.1
  obtain ⟨n1, e1, r1⟩ := a 1 (by decide)
  obtain ⟨n2, e2, r2⟩ := a 2 (by decide)
  unfold lw18
  obtain ⟨v, X1, X2, c1, c2, i2⟩ := op_hears (f0 := f0) h r1 r2
  obtain ⟨u1, hu1⟩ := ck11 (X := X) g
  obtain ⟨u2, hu2⟩ := ck12 (X := X1) g
  exact ⟨_, e1, _, e2, u1, hu1, _, _, c1, _, e1, _, e2, u2, hu2, _, _, c2, by rw [if_pos rfl]; exact hK Y X2 SameA_refl i2⟩
theorem lw19_ok {f0 L : Nat} {xs0 : Nat → Int32} {Y : YS} {X : XS} {i : Int32} {K : Hp → Prop} (h : Inv Y X) (hf : 30000000000 ≤ f0) (a : LdO L xs0 i) (hK : ∀ Y2 X2, SameA Y Y2 → Inv Y2 X2 → K (hp Y2 X2)) : lw19 f0 L xs0 (Ad Y 11 0) (Ad Y 12 0) (Ad Y 90 0) i (hp Y X) K := by
  have g := h.1.1
  obtain ⟨n1, e1, r1⟩ := a 1 (by decide)
  unfold lw19
  obtain ⟨v, X1, X2, c1, c2, i2⟩ := op_safe (f0 := f0) h r1 (by omega)
  obtain ⟨u1, hu1⟩ := ck11 (X := X) g
  obtain ⟨u2, hu2⟩ := ck12 (X := X1) g
  exact ⟨_, e1, u1, hu1, _, _, c1, _, e1, u2, hu2, _, _, c2, by rw [if_pos rfl]; exact hK Y X2 SameA_refl i2⟩
theorem lw20_ok {f0 L : Nat} {xs0 : Nat → Int32} {Y : YS} {X : XS} {i : Int32} {K : Hp → Prop} (h : Inv Y X) (hf : 30000000000 ≤ f0) (a : LdO L xs0 i) (hK : ∀ Y2 X2, SameA Y Y2 → Inv Y2 X2 → K (hp Y2 X2)) : lw20 f0 L xs0 (Ad Y 11 0) (Ad Y 12 0) (Ad Y 90 0) i (hp Y X) K := by
  have g := h.1.1
  obtain ⟨n1, e1, r1⟩ := a 1 (by decide)
  unfold lw20
  obtain ⟨v, X1, X2, c1, c2, i2⟩ := op_outruns (f0 := f0) h r1 (by omega)
  obtain ⟨u1, hu1⟩ := ck11 (X := X) g
  obtain ⟨u2, hu2⟩ := ck12 (X := X1) g
  exact ⟨_, e1, u1, hu1, _, _, c1, _, e1, u2, hu2, _, _, c2, by rw [if_pos rfl]; exact hK Y X2 SameA_refl i2⟩
theorem lw21_ok {f0 L : Nat} {xs0 : Nat → Int32} {Y : YS} {X : XS} {i : Int32} {K : Hp → Prop} (h : Inv Y X) (hf : 30000000000 ≤ f0) (a : LdO L xs0 i) (hK : ∀ Y2 X2, SameA Y Y2 → Inv Y2 X2 → K (hp Y2 X2)) : lw21 f0 L xs0 (Ad Y 11 0) (Ad Y 12 0) (Ad Y 90 0) i (hp Y X) K := by
  have g := h.1.1
  unfold lw21
  obtain ⟨v, X1, X2, c1, c2, i2⟩ := op_names (f0 := f0) h (by omega)
  obtain ⟨u1, hu1⟩ := ck11 (X := X) g
  obtain ⟨u2, hu2⟩ := ck12 (X := X1) g
  exact ⟨u1, hu1, _, _, c1, u2, hu2, _, _, c2, by rw [if_pos rfl]; exact hK Y X2 SameA_refl i2⟩
theorem lw22_ok {f0 L : Nat} {xs0 : Nat → Int32} {Y : YS} {X : XS} {i : Int32} {K : Hp → Prop} (h : Inv Y X) (hf : 30000000000 ≤ f0) (a : LdO L xs0 i) (hK : ∀ Y2 X2, SameA Y Y2 → Inv Y2 X2 → K (hp Y2 X2)) : lw22 f0 L xs0 (Ad Y 11 0) (Ad Y 12 0) (Ad Y 90 0) i (hp Y X) K := by
  have g := h.1.1
  obtain ⟨n1, e1, r1⟩ := a 1 (by decide)
  unfold lw22
  obtain ⟨v, X1, X2, c1, c2, i2⟩ := op_nameOf (f0 := f0) h r1 (by omega)
  obtain ⟨u1, hu1⟩ := ck11 (X := X) g
  obtain ⟨u2, hu2⟩ := ck12 (X := X1) g
  exact ⟨_, e1, u1, hu1, _, _, c1, _, e1, u2, hu2, _, _, c2, by rw [if_pos rfl]; exact hK Y X2 SameA_refl i2⟩
theorem lw23_ok {f0 L : Nat} {xs0 : Nat → Int32} {Y : YS} {X : XS} {i : Int32} {K : Hp → Prop} (h : Inv Y X) (hf : 30000000000 ≤ f0) (a : LdO L xs0 i) (hK : ∀ Y2 X2, SameA Y Y2 → Inv Y2 X2 → K (hp Y2 X2)) : lw23 f0 L xs0 (Ad Y 11 0) (Ad Y 12 0) (Ad Y 90 0) i (hp Y X) K := by
  have g := h.1.1
  unfold lw23
  obtain ⟨v, X1, X2, c1, c2, i2⟩ := op_register (f0 := f0) h (by omega)
  obtain ⟨u1, hu1⟩ := ck11 (X := X) g
  obtain ⟨u2, hu2⟩ := ck12 (X := X1) g
  exact ⟨u1, hu1, _, _, c1, u2, hu2, _, _, c2, by rw [if_pos rfl]; exact hK Y X2 SameA_refl i2⟩
theorem lw24_ok {f0 L : Nat} {xs0 : Nat → Int32} {Y : YS} {X : XS} {i : Int32} {K : Hp → Prop} (h : Inv Y X) (hf : 30000000000 ≤ f0) (a : LdO L xs0 i) (hK : ∀ Y2 X2, SameA Y Y2 → Inv Y2 X2 → K (hp Y2 X2)) : lw24 f0 L xs0 (Ad Y 11 0) (Ad Y 12 0) (Ad Y 90 0) i (hp Y X) K := by
  have g := h.1.1
  obtain ⟨n1, e1, r1⟩ := a 1 (by decide)
  unfold lw24
  obtain ⟨v, X1, X2, c1, c2, i2⟩ := op_lacks (f0 := f0) h r1 (by omega)
  obtain ⟨u1, hu1⟩ := ck11 (X := X) g
  obtain ⟨u2, hu2⟩ := ck12 (X := X1) g
  exact ⟨_, e1, u1, hu1, _, _, c1, _, e1, u2, hu2, _, _, c2, by rw [if_pos rfl]; exact hK Y X2 SameA_refl i2⟩
theorem lw25_ok {f0 L : Nat} {xs0 : Nat → Int32} {Y : YS} {X : XS} {i : Int32} {K : Hp → Prop} (h : Inv Y X) (hf : 30000000000 ≤ f0) (a : LdO L xs0 i) (hK : ∀ Y2 X2, SameA Y Y2 → Inv Y2 X2 → K (hp Y2 X2)) : lw25 f0 L xs0 (Ad Y 11 0) (Ad Y 12 0) (Ad Y 90 0) i (hp Y X) K := by
  have g := h.1.1
  obtain ⟨n1, e1, r1⟩ := a 1 (by decide)
  obtain ⟨n2, e2, r2⟩ := a 2 (by decide)
  unfold lw25
  obtain ⟨v, X1, X2, c1, c2, i2⟩ := op_plays (f0 := f0) h r1 r2 (by omega)
  obtain ⟨u1, hu1⟩ := ck11 (X := X) g
  obtain ⟨u2, hu2⟩ := ck12 (X := X1) g
  exact ⟨_, e1, _, e2, u1, hu1, _, _, c1, _, e1, _, e2, u2, hu2, _, _, c2, by rw [if_pos rfl]; exact hK Y X2 SameA_refl i2⟩
theorem lw26_ok {f0 L : Nat} {xs0 : Nat → Int32} {Y : YS} {X : XS} {i : Int32} {K : Hp → Prop} (h : Inv Y X) (hf : 30000000000 ≤ f0) (a : LdO L xs0 i) (hK : ∀ Y2 X2, SameA Y Y2 → Inv Y2 X2 → K (hp Y2 X2)) : lw26 f0 L xs0 (Ad Y 11 0) (Ad Y 12 0) (Ad Y 90 0) i (hp Y X) K := by
  have g := h.1.1
  obtain ⟨n1, e1, r1⟩ := a 1 (by decide)
  unfold lw26
  obtain ⟨v, X1, X2, c1, c2, i2⟩ := op_man (f0 := f0) h r1
  obtain ⟨u1, hu1⟩ := ck11 (X := X) g
  obtain ⟨u2, hu2⟩ := ck12 (X := X1) g
  exact ⟨_, e1, u1, hu1, _, _, c1, _, e1, u2, hu2, _, _, c2, by rw [if_pos rfl]; exact hK Y X2 SameA_refl i2⟩
theorem lw27_ok {f0 L : Nat} {xs0 : Nat → Int32} {Y : YS} {X : XS} {i : Int32} {K : Hp → Prop} (h : Inv Y X) (hf : 30000000000 ≤ f0) (a : LdO L xs0 i) (hK : ∀ Y2 X2, SameA Y Y2 → Inv Y2 X2 → K (hp Y2 X2)) : lw27 f0 L xs0 (Ad Y 11 0) (Ad Y 12 0) (Ad Y 90 0) i (hp Y X) K := by
  have g := h.1.1
  obtain ⟨n1, e1, r1⟩ := a 1 (by decide)
  unfold lw27
  obtain ⟨v, X1, X2, c1, c2, i2⟩ := op_needs (f0 := f0) h r1
  obtain ⟨u1, hu1⟩ := ck11 (X := X) g
  obtain ⟨u2, hu2⟩ := ck12 (X := X1) g
  exact ⟨_, e1, u1, hu1, _, _, c1, _, e1, u2, hu2, _, _, c2, by rw [if_pos rfl]; exact hK Y X2 SameA_refl i2⟩
theorem lw28_ok {f0 L : Nat} {xs0 : Nat → Int32} {Y : YS} {X : XS} {i : Int32} {K : Hp → Prop} (h : Inv Y X) (hf : 30000000000 ≤ f0) (a : LdO L xs0 i) (hK : ∀ Y2 X2, SameA Y Y2 → Inv Y2 X2 → K (hp Y2 X2)) : lw28 f0 L xs0 (Ad Y 11 0) (Ad Y 12 0) (Ad Y 90 0) i (hp Y X) K := by
  have g := h.1.1
  obtain ⟨n1, e1, r1⟩ := a 1 (by decide)
  obtain ⟨n2, e2, r2⟩ := a 2 (by decide)
  unfold lw28
  obtain ⟨v, X1, X2, c1, c2, i2⟩ := op_over (f0 := f0) h r1 r2 (by omega)
  obtain ⟨u1, hu1⟩ := ck11 (X := X) g
  obtain ⟨u2, hu2⟩ := ck12 (X := X1) g
  exact ⟨_, e1, _, e2, u1, hu1, _, _, c1, _, e1, _, e2, u2, hu2, _, _, c2, by rw [if_pos rfl]; exact hK Y X2 SameA_refl i2⟩
theorem lw29_ok {f0 L : Nat} {xs0 : Nat → Int32} {Y : YS} {X : XS} {i : Int32} {K : Hp → Prop} (h : Inv Y X) (hf : 30000000000 ≤ f0) (a : LdO L xs0 i) (hK : ∀ Y2 X2, SameA Y Y2 → Inv Y2 X2 → K (hp Y2 X2)) : lw29 f0 L xs0 (Ad Y 11 0) (Ad Y 12 0) (Ad Y 90 0) i (hp Y X) K := by
  have g := h.1.1
  obtain ⟨n1, e1, r1⟩ := a 1 (by decide)
  unfold lw29
  obtain ⟨v, X1, X2, c1, c2, i2⟩ := op_mixed (f0 := f0) h r1 (by omega)
  obtain ⟨u1, hu1⟩ := ck11 (X := X) g
  obtain ⟨u2, hu2⟩ := ck12 (X := X1) g
  exact ⟨_, e1, u1, hu1, _, _, c1, _, e1, u2, hu2, _, _, c2, by rw [if_pos rfl]; exact hK Y X2 SameA_refl i2⟩
theorem lw30_ok {f0 L : Nat} {xs0 : Nat → Int32} {Y : YS} {X : XS} {i : Int32} {K : Hp → Prop} (h : Inv Y X) (hf : 30000000000 ≤ f0) (a : LdO L xs0 i) (hK : ∀ Y2 X2, SameA Y Y2 → Inv Y2 X2 → K (hp Y2 X2)) : lw30 f0 L xs0 (Ad Y 11 0) (Ad Y 12 0) (Ad Y 90 0) i (hp Y X) K := by
  have g := h.1.1
  obtain ⟨n1, e1, r1⟩ := a 1 (by decide)
  unfold lw30
  obtain ⟨t, X1, v, X2, c1, c2, ht, t01, hv, i2⟩ := op_net (f0 := f0) h r1 (by omega)
  obtain ⟨u1, hu1⟩ := ck12 (X := X1) g
  obtain ⟨u2, hu2⟩ := ck12 (X := X2) g
  have th : fX12_thrown f0 (Ad Y 12 0) (hp Y X2) = some (iI t, hp Y X2) := by unfold fX12_thrown; rw [g_12_0 g, Option.bind_some, ht]
  refine ⟨_, e1, _, _, c1, _, e1, u1, hu1, _, _, c2, u2, hu2, _, _, th, ?_⟩
  rw [if_pos rfl]
  rcases t01 with q | q
  · rw [if_pos (by rw [q]; rfl)]
    refine ⟨_, l_90 (i := 0) g (by decide) (by decide), ?_⟩
    rw [hv q, if_pos (by simp [lg_cmp])]
    exact hK Y X2 SameA_refl i2
  · rw [if_neg (by rw [q]; decide)]
    exact hK Y X2 SameA_refl i2
theorem lw31_ok {f0 L : Nat} {xs0 : Nat → Int32} {Y : YS} {X : XS} {i : Int32} {K : Hp → Prop} (h : Inv Y X) (hf : 30000000000 ≤ f0) (a : LdO L xs0 i) (hK : ∀ Y2 X2, SameA Y Y2 → Inv Y2 X2 → K (hp Y2 X2)) : lw31 f0 L xs0 (Ad Y 11 0) (Ad Y 12 0) (Ad Y 90 0) i (hp Y X) K := by
  have g := h.1.1
  obtain ⟨n1, e1, r1⟩ := a 1 (by decide)
  obtain ⟨n2, e2, r2⟩ := a 2 (by decide)
  unfold lw31
  obtain ⟨t, X1, v, X2, c1, c2, ht, t01, hv, i2⟩ := op_lasts (f0 := f0) h r1 r2 (by omega)
  obtain ⟨u1, hu1⟩ := ck12 (X := X1) g
  obtain ⟨u2, hu2⟩ := ck12 (X := X2) g
  have th : fX12_thrown f0 (Ad Y 12 0) (hp Y X2) = some (iI t, hp Y X2) := by unfold fX12_thrown; rw [g_12_0 g, Option.bind_some, ht]
  refine ⟨_, e1, _, e2, _, _, c1, _, e1, _, e2, u1, hu1, _, _, c2, u2, hu2, _, _, th, ?_⟩
  rw [if_pos rfl]
  rcases t01 with q | q
  · rw [if_pos (by rw [q]; rfl)]
    refine ⟨_, l_90 (i := 0) g (by decide) (by decide), ?_⟩
    rw [hv q, if_pos (by simp [lg_cmp])]
    exact hK Y X2 SameA_refl i2
  · rw [if_neg (by rw [q]; decide)]
    exact hK Y X2 SameA_refl i2
theorem lw32_ok {f0 L : Nat} {xs0 : Nat → Int32} {Y : YS} {X : XS} {i : Int32} {K : Hp → Prop} (h : Inv Y X) (hf : 30000000000 ≤ f0) (a : LdO L xs0 i) (hK : ∀ Y2 X2, SameA Y Y2 → Inv Y2 X2 → K (hp Y2 X2)) : lw32 f0 L xs0 (Ad Y 11 0) (Ad Y 12 0) (Ad Y 90 0) i (hp Y X) K := by
  have g := h.1.1
  unfold lw32
  obtain ⟨v, X1, X2, c1, c2, i2⟩ := op_soonest (f0 := f0) h (by omega)
  obtain ⟨u1, hu1⟩ := ck11 (X := X) g
  obtain ⟨u2, hu2⟩ := ck12 (X := X1) g
  exact ⟨u1, hu1, _, _, c1, u2, hu2, _, _, c2, by rw [if_pos rfl]; exact hK Y X2 SameA_refl i2⟩
theorem lw33_ok {f0 L : Nat} {xs0 : Nat → Int32} {Y : YS} {X : XS} {i : Int32} {K : Hp → Prop} (h : Inv Y X) (hf : 30000000000 ≤ f0) (a : LdO L xs0 i) (hK : ∀ Y2 X2, SameA Y Y2 → Inv Y2 X2 → K (hp Y2 X2)) : lw33 f0 L xs0 (Ad Y 11 0) (Ad Y 12 0) (Ad Y 90 0) i (hp Y X) K := by
  have g := h.1.1
  unfold lw33
  obtain ⟨v, X1, X2, c1, c2, i2⟩ := op_where (f0 := f0) h (by omega)
  obtain ⟨u1, hu1⟩ := ck11 (X := X) g
  obtain ⟨u2, hu2⟩ := ck12 (X := X1) g
  exact ⟨u1, hu1, _, _, c1, u2, hu2, _, _, c2, by rw [if_pos rfl]; exact hK Y X2 SameA_refl i2⟩
theorem lw34_ok {f0 L : Nat} {xs0 : Nat → Int32} {Y : YS} {X : XS} {i : Int32} {K : Hp → Prop} (h : Inv Y X) (hf : 30000000000 ≤ f0) (a : LdO L xs0 i) (hK : ∀ Y2 X2, SameA Y Y2 → Inv Y2 X2 → K (hp Y2 X2)) : lw34 f0 L xs0 (Ad Y 11 0) (Ad Y 12 0) (Ad Y 90 0) i (hp Y X) K := by
  have g := h.1.1
  obtain ⟨n1, e1, r1⟩ := a 1 (by decide)
  obtain ⟨n2, e2, r2⟩ := a 2 (by decide)
  unfold lw34
  obtain ⟨v, X1, X2, c1, c2, i2⟩ := op_drawn (f0 := f0) h r1 r2 (by omega)
  obtain ⟨u1, hu1⟩ := ck11 (X := X) g
  obtain ⟨u2, hu2⟩ := ck12 (X := X1) g
  exact ⟨_, e1, _, e2, u1, hu1, _, _, c1, _, e1, _, e2, u2, hu2, _, _, c2, by rw [if_pos rfl]; exact hK Y X2 SameA_refl i2⟩
theorem lw35_ok {f0 L : Nat} {xs0 : Nat → Int32} {Y : YS} {X : XS} {i : Int32} {K : Hp → Prop} (h : Inv Y X) (hf : 30000000000 ≤ f0) (a : LdO L xs0 i) (hK : ∀ Y2 X2, SameA Y Y2 → Inv Y2 X2 → K (hp Y2 X2)) : lw35 f0 L xs0 (Ad Y 11 0) (Ad Y 12 0) (Ad Y 90 0) i (hp Y X) K := by
  have g := h.1.1
  obtain ⟨n1, e1, r1⟩ := a 1 (by decide)
  obtain ⟨n2, e2, r2⟩ := a 2 (by decide)
  unfold lw35
  obtain ⟨v, X1, X2, c1, c2, i2⟩ := op_odds (f0 := f0) h r1 r2 (by omega)
  obtain ⟨u1, hu1⟩ := ck11 (X := X) g
  obtain ⟨u2, hu2⟩ := ck12 (X := X1) g
  exact ⟨_, e1, _, e2, u1, hu1, _, _, c1, _, e1, _, e2, u2, hu2, _, _, c2, by rw [if_pos rfl]; exact hK Y X2 SameA_refl i2⟩
theorem lw36_ok {f0 L : Nat} {xs0 : Nat → Int32} {Y : YS} {X : XS} {i : Int32} {K : Hp → Prop} (h : Inv Y X) (hf : 30000000000 ≤ f0) (a : LdO L xs0 i) (hK : ∀ Y2 X2, SameA Y Y2 → Inv Y2 X2 → K (hp Y2 X2)) : lw36 f0 L xs0 (Ad Y 11 0) (Ad Y 12 0) (Ad Y 90 0) i (hp Y X) K := by
  have g := h.1.1
  obtain ⟨n1, e1, r1⟩ := a 1 (by decide)
  unfold lw36
  obtain ⟨v, X1, X2, c1, c2, i2⟩ := op_log (f0 := f0) h r1 (by omega)
  obtain ⟨u1, hu1⟩ := ck11 (X := X) g
  obtain ⟨u2, hu2⟩ := ck12 (X := X1) g
  exact ⟨_, e1, u1, hu1, _, _, c1, _, e1, u2, hu2, _, _, c2, by rw [if_pos rfl]; exact hK Y X2 SameA_refl i2⟩
theorem lw37_ok {f0 L : Nat} {xs0 : Nat → Int32} {Y : YS} {X : XS} {i : Int32} {K : Hp → Prop} (h : Inv Y X) (hf : 30000000000 ≤ f0) (a : LdO L xs0 i) (hK : ∀ Y2 X2, SameA Y Y2 → Inv Y2 X2 → K (hp Y2 X2)) : lw37 f0 L xs0 (Ad Y 11 0) (Ad Y 12 0) (Ad Y 90 0) i (hp Y X) K := by
  have g := h.1.1
  obtain ⟨n1, e1, r1⟩ := a 1 (by decide)
  unfold lw37
  obtain ⟨v, X1, X2, c1, c2, i2⟩ := op_logged (f0 := f0) h r1
  obtain ⟨u1, hu1⟩ := ck11 (X := X) g
  obtain ⟨u2, hu2⟩ := ck12 (X := X1) g
  exact ⟨_, e1, u1, hu1, _, _, c1, _, e1, u2, hu2, _, _, c2, by rw [if_pos rfl]; exact hK Y X2 SameA_refl i2⟩
theorem lw38_ok {f0 L : Nat} {xs0 : Nat → Int32} {Y : YS} {X : XS} {i : Int32} {K : Hp → Prop} (h : Inv Y X) (hf : 30000000000 ≤ f0) (a : LdO L xs0 i) (hK : ∀ Y2 X2, SameA Y Y2 → Inv Y2 X2 → K (hp Y2 X2)) : lw38 f0 L xs0 (Ad Y 11 0) (Ad Y 12 0) (Ad Y 90 0) i (hp Y X) K := by
  have g := h.1.1
  unfold lw38
  obtain ⟨v, X1, X2, c1, c2, i2⟩ := op_sentence (f0 := f0) h (by omega)
  obtain ⟨u1, hu1⟩ := ck11 (X := X) g
  obtain ⟨u2, hu2⟩ := ck12 (X := X1) g
  exact ⟨u1, hu1, _, _, c1, u2, hu2, _, _, c2, by rw [if_pos rfl]; exact hK Y X2 SameA_refl i2⟩
theorem lw39_ok {f0 L : Nat} {xs0 : Nat → Int32} {Y : YS} {X : XS} {i : Int32} {K : Hp → Prop} (h : Inv Y X) (hf : 30000000000 ≤ f0) (a : LdO L xs0 i) (hK : ∀ Y2 X2, SameA Y Y2 → Inv Y2 X2 → K (hp Y2 X2)) : lw39 f0 L xs0 (Ad Y 11 0) (Ad Y 12 0) (Ad Y 90 0) i (hp Y X) K := by
  have g := h.1.1
  obtain ⟨n1, e1, r1⟩ := a 1 (by decide)
  unfold lw39
  obtain ⟨v, X1, X2, c1, c2, i2⟩ := op_said (f0 := f0) h r1 (by omega)
  obtain ⟨u1, hu1⟩ := ck11 (X := X) g
  obtain ⟨u2, hu2⟩ := ck12 (X := X1) g
  exact ⟨_, e1, u1, hu1, _, _, c1, _, e1, u2, hu2, _, _, c2, by rw [if_pos rfl]; exact hK Y X2 SameA_refl i2⟩
theorem lw40_ok {f0 L : Nat} {xs0 : Nat → Int32} {Y : YS} {X : XS} {i : Int32} {K : Hp → Prop} (h : Inv Y X) (hf : 30000000000 ≤ f0) (a : LdO L xs0 i) (hK : ∀ Y2 X2, SameA Y Y2 → Inv Y2 X2 → K (hp Y2 X2)) : lw40 f0 L xs0 (Ad Y 11 0) (Ad Y 12 0) (Ad Y 90 0) i (hp Y X) K := by
  have g := h.1.1
  obtain ⟨n1, e1, r1⟩ := a 1 (by decide)
  unfold lw40
  obtain ⟨u, hu⟩ := ck11 (X := X) g
  refine ⟨_, e1, u, hu, op_image h r1 (by omega) (fun v Y2 X1 X2 same e2 i2 => ?_)⟩
  have g2 := i2.1.1
  obtain ⟨u2, hu2⟩ := ck12 (X := X1) g2
  have s12 := same 12 0 (g.2.2.2.1 _ (by decide))
  rw [s12] at e2 hu2
  exact ⟨_, e1, u2, hu2, _, _, e2, by rw [if_pos rfl]; exact hK Y2 X2 same i2⟩
theorem lw41_ok {f0 L : Nat} {xs0 : Nat → Int32} {Y : YS} {X : XS} {i : Int32} {K : Hp → Prop} (h : Inv Y X) (hf : 30000000000 ≤ f0) (a : LdO L xs0 i) (hK : ∀ Y2 X2, SameA Y Y2 → Inv Y2 X2 → K (hp Y2 X2)) : lw41 f0 L xs0 (Ad Y 11 0) (Ad Y 12 0) (Ad Y 90 0) i (hp Y X) K := by
  have g := h.1.1
  obtain ⟨n1, e1, r1⟩ := a 1 (by decide)
  unfold lw41
  obtain ⟨v, X1, X2, c1, c2, i2⟩ := op_restore (f0 := f0) h r1 (by omega)
  obtain ⟨u1, hu1⟩ := ck11 (X := X) g
  obtain ⟨u2, hu2⟩ := ck12 (X := X1) g
  exact ⟨_, e1, u1, hu1, _, _, c1, _, e1, u2, hu2, _, _, c2, by rw [if_pos rfl]; exact hK Y X2 SameA_refl i2⟩
theorem lw42_ok {f0 L : Nat} {xs0 : Nat → Int32} {Y : YS} {X : XS} {i : Int32} {K : Hp → Prop} (h : Inv Y X) (hf : 30000000000 ≤ f0) (a : LdO L xs0 i) (hK : ∀ Y2 X2, SameA Y Y2 → Inv Y2 X2 → K (hp Y2 X2)) : lw42 f0 L xs0 (Ad Y 11 0) (Ad Y 12 0) (Ad Y 90 0) i (hp Y X) K := by
  have g := h.1.1
  obtain ⟨n1, e1, r1⟩ := a 1 (by decide)
  unfold lw42
  obtain ⟨v, X1, X2, c1, c2, i2⟩ := op_count (f0 := f0) h r1
  obtain ⟨u1, hu1⟩ := ck11 (X := X) g
  obtain ⟨u2, hu2⟩ := ck12 (X := X1) g
  exact ⟨_, e1, u1, hu1, _, _, c1, _, e1, u2, hu2, _, _, c2, by rw [if_pos rfl]; exact hK Y X2 SameA_refl i2⟩
theorem lwCase_ok {f0 L : Nat} {xs0 : Nat → Int32} {Y : YS} {X : XS} {i : Int32} {K : Hp → Prop} (h : Inv Y X) (hf : 30000000000 ≤ f0) (a : LdO L xs0 i) (hK : ∀ Y2 X2, SameA Y Y2 → Inv Y2 X2 → K (hp Y2 X2)) (v : Int32) : lwCase v f0 L xs0 (Ad Y 11 0) (Ad Y 12 0) (Ad Y 90 0) i (hp Y X) K := by
  unfold lwCase
  by_cases u0 : v = 0
  · rw [if_pos u0]; exact lw0_ok h hf a hK
  rw [if_neg u0]
  by_cases u1 : v = 1
  · rw [if_pos u1]; exact lw1_ok h hf a hK
  rw [if_neg u1]
  by_cases u2 : v = 2
  · rw [if_pos u2]; exact lw2_ok h hf a hK
  rw [if_neg u2]
  by_cases u3 : v = 3
  · rw [if_pos u3]; exact lw3_ok h hf a hK
  rw [if_neg u3]
  by_cases u4 : v = 4
  · rw [if_pos u4]; exact lw4_ok h hf a hK
  rw [if_neg u4]
  by_cases u5 : v = 5
  · rw [if_pos u5]; exact lw5_ok h hf a hK
  rw [if_neg u5]
  by_cases u6 : v = 6
  · rw [if_pos u6]; exact lw6_ok h hf a hK
  rw [if_neg u6]
  by_cases u7 : v = 7
  · rw [if_pos u7]; exact lw7_ok h hf a hK
  rw [if_neg u7]
  by_cases u8 : v = 8
  · rw [if_pos u8]; exact lw8_ok h hf a hK
  rw [if_neg u8]
  by_cases u9 : v = 9
  · rw [if_pos u9]; exact lw9_ok h hf a hK
  rw [if_neg u9]
  by_cases u10 : v = 10
  · rw [if_pos u10]; exact lw10_ok h hf a hK
  rw [if_neg u10]
  by_cases u11 : v = 11
  · rw [if_pos u11]; exact lw11_ok h hf a hK
  rw [if_neg u11]
  by_cases u12 : v = 12
  · rw [if_pos u12]; exact lw12_ok h hf a hK
  rw [if_neg u12]
  by_cases u13 : v = 13
  · rw [if_pos u13]; exact lw13_ok h hf a hK
  rw [if_neg u13]
  by_cases u14 : v = 14
  · rw [if_pos u14]; exact lw14_ok h hf a hK
  rw [if_neg u14]
  by_cases u15 : v = 15
  · rw [if_pos u15]; exact lw15_ok h hf a hK
  rw [if_neg u15]
  by_cases u16 : v = 16
  · rw [if_pos u16]; exact lw16_ok h hf a hK
  rw [if_neg u16]
  by_cases u17 : v = 17
  · rw [if_pos u17]; exact lw17_ok h hf a hK
  rw [if_neg u17]
  by_cases u18 : v = 18
  · rw [if_pos u18]; exact lw18_ok h hf a hK
  rw [if_neg u18]
  by_cases u19 : v = 19
  · rw [if_pos u19]; exact lw19_ok h hf a hK
  rw [if_neg u19]
  by_cases u20 : v = 20
  · rw [if_pos u20]; exact lw20_ok h hf a hK
  rw [if_neg u20]
  by_cases u21 : v = 21
  · rw [if_pos u21]; exact lw21_ok h hf a hK
  rw [if_neg u21]
  by_cases u22 : v = 22
  · rw [if_pos u22]; exact lw22_ok h hf a hK
  rw [if_neg u22]
  by_cases u23 : v = 23
  · rw [if_pos u23]; exact lw23_ok h hf a hK
  rw [if_neg u23]
  by_cases u24 : v = 24
  · rw [if_pos u24]; exact lw24_ok h hf a hK
  rw [if_neg u24]
  by_cases u25 : v = 25
  · rw [if_pos u25]; exact lw25_ok h hf a hK
  rw [if_neg u25]
  by_cases u26 : v = 26
  · rw [if_pos u26]; exact lw26_ok h hf a hK
  rw [if_neg u26]
  by_cases u27 : v = 27
  · rw [if_pos u27]; exact lw27_ok h hf a hK
  rw [if_neg u27]
  by_cases u28 : v = 28
  · rw [if_pos u28]; exact lw28_ok h hf a hK
  rw [if_neg u28]
  by_cases u29 : v = 29
  · rw [if_pos u29]; exact lw29_ok h hf a hK
  rw [if_neg u29]
  by_cases u30 : v = 30
  · rw [if_pos u30]; exact lw30_ok h hf a hK
  rw [if_neg u30]
  by_cases u31 : v = 31
  · rw [if_pos u31]; exact lw31_ok h hf a hK
  rw [if_neg u31]
  by_cases u32 : v = 32
  · rw [if_pos u32]; exact lw32_ok h hf a hK
  rw [if_neg u32]
  by_cases u33 : v = 33
  · rw [if_pos u33]; exact lw33_ok h hf a hK
  rw [if_neg u33]
  by_cases u34 : v = 34
  · rw [if_pos u34]; exact lw34_ok h hf a hK
  rw [if_neg u34]
  by_cases u35 : v = 35
  · rw [if_pos u35]; exact lw35_ok h hf a hK
  rw [if_neg u35]
  by_cases u36 : v = 36
  · rw [if_pos u36]; exact lw36_ok h hf a hK
  rw [if_neg u36]
  by_cases u37 : v = 37
  · rw [if_pos u37]; exact lw37_ok h hf a hK
  rw [if_neg u37]
  by_cases u38 : v = 38
  · rw [if_pos u38]; exact lw38_ok h hf a hK
  rw [if_neg u38]
  by_cases u39 : v = 39
  · rw [if_pos u39]; exact lw39_ok h hf a hK
  rw [if_neg u39]
  by_cases u40 : v = 40
  · rw [if_pos u40]; exact lw40_ok h hf a hK
  rw [if_neg u40]
  by_cases u41 : v = 41
  · rw [if_pos u41]; exact lw41_ok h hf a hK
  rw [if_neg u41]
  by_cases u42 : v = 42
  · rw [if_pos u42]; exact lw42_ok h hf a hK
  rw [if_neg u42]
  exact hK Y X SameA_refl h
theorem iI_nt (n : Nat) : Int32.ofNat n = iI (n : Int) := by
  unfold iI
  first | rfl | exact (Int32.ofInt_natCast n).symm | simp
theorem lwLoop_ok {f0 L : Nat} {xs0 : Nat → Int32} (hf : 30000000000 ≤ f0) (hL : L ≤ 3072) : ∀ (k : Nat) (n : Int) (Y : YS) (X : XS), n + 6 * (k : Int) = 3078 → 0 ≤ n → Inv Y X → ∀ xo mo oo, Ad Y 11 0 = xo → Ad Y 12 0 = mo → Ad Y 90 0 = oo → lwLoop f0 L xs0 xo mo oo k (iI n) (hp Y X) := by
  have sb : Int32.ofNat L - 6 = iI ((L : Int) - 6) := by rw [iI_nt, li_6, iI_sub]
  intro k
  induction k with
  | zero =>
    intro n Y X hn _ _ xo mo oo _ _ _
    unfold lwLoop
    rw [sb]
    exact iLT (by omega) (by omega) (by omega) (by omega) (by omega)
  | succ k ih =>
    intro n Y X hn n0 h xo mo oo e1 e2 e3
    unfold lwLoop
    rw [sb]
    by_cases c : (L : Int) - 6 < n
    · rw [if_pos (iLT c (by omega) (by omega) (by omega) (by omega))]; trivial
    · rw [if_neg (iNLT c (by omega) (by omega) (by omega) (by omega))]
      have ld : ∀ j : Int, 0 ≤ j → j ≤ 5 → ldP L xs0 (iI (n + j)) = some (xs0 (iI (n + j)).toNatClampNeg) := fun j j0 j1 => by
        unfold ldP
        rw [if_pos (inB_i (by omega) (by omega) (by omega))]
      have l0 := ld 0 (by decide) (by decide)
      rw [Int.add_zero] at l0
      refine ⟨_, l0, ?_⟩
      rw [← e1, ← e2, ← e3]
      refine lwCase_ok h hf ?_ (fun Y2 X2 same i2 => ?_) _
      · intro j hj
        have one : ∀ j : Int, 0 ≤ j → j ≤ 5 → ∃ m : Int, ldP L xs0 (iI n + iI j) = some (iI m) ∧ Rg m := fun j j0 j1 => by
          obtain ⟨m, rm, em⟩ := iI_ex (xs0 (iI (n + j)).toNatClampNeg)
          exact ⟨m, by rw [iI_add, ld j j0 j1, em], rm⟩
        rcases hj with q | q | q | q | q <;> rw [q]
        · exact one 1 (by decide) (by decide)
        · exact one 2 (by decide) (by decide)
        · exact one 3 (by decide) (by decide)
        · exact one 4 (by decide) (by decide)
        · exact one 5 (by decide) (by decide)
      · have g := h.1.1
        have nx : iI n + 6 = iI (n + 6) := by rw [li_6, iI_add]
        show lwLoop f0 L xs0 (Ad Y 11 0) (Ad Y 12 0) (Ad Y 90 0) k (iI n + 6) (hp Y2 X2)
        rw [nx]
        exact ih (n + 6) Y2 X2 (by omega) (by omega) i2 _ _ _ (same 11 0 (g.2.2.2.1 _ (by decide))) (same 12 0 (g.2.2.2.1 _ (by decide))) (same 90 0 (g.2.2.2.1 _ (by decide)))
