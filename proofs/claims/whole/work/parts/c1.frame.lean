/-! THE START: the reference begins where the box is not there yet -/
def bx : HE := .inl (2, (1, .inr (.inl (fun _ => 0))))
def HR (n : Nat) (h h' : Hp) : Prop := h n = dead ∧ h' = va_up h n bx
theorem HR_ne {n : Nat} {h h' : Hp} (r : HR n h h') {a : Nat} (ne : a ≠ n) : h' a = h a := by rw [r.2]; exact va_up_ne _ _ ne
theorem HR_n {n : Nat} {h h' : Hp} (r : HR n h h') : h' n = bx := by rw [r.2]; exact va_up_self _ _ _
theorem gfN_fr {n c f a v : Nat} {h h' : Hp} (r : HR n h h') (e : gfN c f h' a = some v) : gfN c f h a = some v := by
  by_cases q : a = n
  · subst q
    exfalso
    simp [gfN, gf, HR_n r, bx] at e
  · simpa only [gfN, gf, HR_ne r q] using e
theorem ckO_fr {n c a : Nat} {h h' : Hp} {u : List Value} (r : HR n h h') (e : ckO c h' a = some u) : ckO c h a = some u := by
  by_cases q : a = n
  · subst q
    exfalso
    simp [ckO, HR_n r, bx] at e
  · simpa only [ckO, HR_ne r q] using e
theorem alI_n {n : Nat} {h h' : Hp} (r : HR n h h') : alI 1 h' n = none := by simp [alI, al, HR_n r, bx]
theorem alI_ne {n a : Nat} {h h' : Hp} (r : HR n h h') (q : a ≠ n) : alI 1 h' a = alI 1 h a := by simp only [alI, al, HR_ne r q]
theorem ldI_fr {n a : Nat} {i v : Int32} {h h' : Hp} (r : HR n h h') (e : ldI 1 h' a i = some v) : ldI 1 h a i = some v := by
  unfold ldI at *
  by_cases q : a = n
  · subst q
    rw [alI_n r] at e; cases e
  · rw [alI_ne r q] at e; exact e
theorem va_cm {h : Hp} {a b : Nat} {x y : HE} (ne : a ≠ b) : va_up (va_up h b y) a x = va_up (va_up h a x) b y := funext fun c => by
  by_cases q : c = a
  · subst q; rw [va_up_self, va_up_ne _ _ ne, va_up_self]
  · rw [va_up_ne _ _ q]
    by_cases q2 : c = b
    · subst q2; rw [va_up_self, va_up_self]
    · rw [va_up_ne _ _ q2, va_up_ne _ _ q2, va_up_ne _ _ q]
theorem stI_fr {n a : Nat} {i v : Int32} {h h' h2' : Hp} (r : HR n h h') (e : stI 1 h' a i v = some h2') : ∃ h2, stI 1 h a i v = some h2 ∧ HR n h2 h2' := by
  unfold stI at *
  by_cases q : a = n
  · subst q
    rw [alI_n r] at e; cases e
  · rw [alI_ne r q] at e
    cases ox : alI 1 h a with
    | none => rw [ox] at e; cases e
    | some x =>
      rw [ox, Option.bind_some] at e
      rw [Option.bind_some]
      by_cases c : inB i x.1 = true
      · rw [if_pos c] at e
        rw [if_pos c]
        refine ⟨_, rfl, ?_, ?_⟩
        · rw [va_up_ne _ _ (fun z => q z.symm)]; exact r.1
        · rw [← Option.some.inj e, r.2]; exact va_cm q
      · rw [if_neg c] at e; cases e
def Sm (n : Nat) (o o' : Option Hp) : Prop := ∀ r', o' = some r' → ∃ r, o = some r ∧ HR n r r'
def S2 (n : Nat) (o o' : Option (Int32 × Hp)) : Prop := ∀ x r', o' = some (x, r') → ∃ r, o = some (x, r) ∧ HR n r r'
theorem Sm_some {n : Nat} {h h' : Hp} (r : HR n h h') : Sm n (some h) (some h') := fun r' e => ⟨h, rfl, by rw [← Option.some.inj e]; exact r⟩
theorem S2_some {n : Nat} {h h' : Hp} {x : Int32} (r : HR n h h') : S2 n (some (x, h)) (some (x, h')) := fun y r' e => by
  have e1 := Option.some.inj e
  have e2 : x = y := congrArg Prod.fst e1
  have e3 : h' = r' := congrArg Prod.snd e1
  exact ⟨h, by rw [← e2], by rw [← e3]; exact r⟩
theorem S2_zr {n : Nat} {h h' : Hp} {x : Int32} (r : HR n h h') : S2 n (zr x h) (zr x h') := by
  unfold zr
  split
  · exact S2_some r
  · intro y r' e; cases e
theorem Sm_ite {n : Nat} {c : Prop} [Decidable c] {a a' b b' : Option Hp} (h1 : Sm n a a') (h2 : Sm n b b') : Sm n (if c then a else b) (if c then a' else b') := by
  split
  · exact h1
  · exact h2
theorem S2_ite {n : Nat} {c : Prop} [Decidable c] {a a' b b' : Option (Int32 × Hp)} (h1 : S2 n a a') (h2 : S2 n b b') : S2 n (if c then a else b) (if c then a' else b') := by
  split
  · exact h1
  · exact h2
theorem Sm_bo {α : Type} {n : Nat} {o o' : Option α} {k k' : α → Option Hp} (ho : ∀ v, o' = some v → o = some v) (hk : ∀ v, Sm n (k v) (k' v)) : Sm n (o.bind k) (o'.bind k') := fun r' e => by
  cases h : o' with
  | none => rw [h] at e; cases e
  | some v =>
    rw [h, Option.bind_some] at e
    rw [ho v h, Option.bind_some]
    exact hk v r' e
theorem S2_bo {α : Type} {n : Nat} {o o' : Option α} {k k' : α → Option (Int32 × Hp)} (ho : ∀ v, o' = some v → o = some v) (hk : ∀ v, S2 n (k v) (k' v)) : S2 n (o.bind k) (o'.bind k') := fun x r' e => by
  cases h : o' with
  | none => rw [h] at e; cases e
  | some v =>
    rw [h, Option.bind_some] at e
    rw [ho v h, Option.bind_some]
    exact hk v x r' e
theorem Sm_bs {n : Nat} {o o' : Option Hp} {k k' : Hp → Option Hp} (ho : Sm n o o') (hk : ∀ h h', HR n h h' → Sm n (k h) (k' h')) : Sm n (o.bind k) (o'.bind k') := fun r' e => by
  cases h : o' with
  | none => rw [h] at e; cases e
  | some v =>
    rw [h, Option.bind_some] at e
    obtain ⟨r, e1, hr⟩ := ho v h
    rw [e1, Option.bind_some]
    exact hk r v hr r' e
theorem Sm_ob {n : Nat} {o o' : Option (Int32 × Hp)} {k k' : Int32 → Hp → Option Hp} (ho : S2 n o o') (hk : ∀ x h h', HR n h h' → Sm n (k x h) (k' x h')) : Sm n (ob2 o k) (ob2 o' k') := fun r' e => by
  cases h : o' with
  | none => rw [h] at e; cases e
  | some v =>
    obtain ⟨x, v⟩ := v
    rw [h, ob2_some] at e
    obtain ⟨r, e1, hr⟩ := ho x v h
    rw [e1, ob2_some]
    exact hk x r v hr r' e
theorem Sm_g {n c f a : Nat} {h h' : Hp} {k k' : Nat → Option Hp} (r : HR n h h') (hk : ∀ v, Sm n (k v) (k' v)) : Sm n ((gfN c f h a).bind k) ((gfN c f h' a).bind k') := Sm_bo (fun _ e => gfN_fr r e) hk
theorem Sm_c {n c a : Nat} {h h' : Hp} {k k' : List Value → Option Hp} (r : HR n h h') (hk : ∀ v, Sm n (k v) (k' v)) : Sm n ((ckO c h a).bind k) ((ckO c h' a).bind k') := Sm_bo (fun _ e => ckO_fr r e) hk
theorem Sm_l {n a : Nat} {i : Int32} {h h' : Hp} {k k' : Int32 → Option Hp} (r : HR n h h') (hk : ∀ v, Sm n (k v) (k' v)) : Sm n ((ldI 1 h a i).bind k) ((ldI 1 h' a i).bind k') := Sm_bo (fun _ e => ldI_fr r e) hk
theorem Sm_s {n a : Nat} {i v : Int32} {h h' : Hp} {k k' : Hp → Option Hp} (r : HR n h h') (hk : ∀ h h', HR n h h' → Sm n (k h) (k' h')) : Sm n ((stI 1 h a i v).bind k) ((stI 1 h' a i v).bind k') := Sm_bs (fun _ e => stI_fr r e) hk
theorem S2_g {n c f a : Nat} {h h' : Hp} {k k' : Nat → Option (Int32 × Hp)} (r : HR n h h') (hk : ∀ v, S2 n (k v) (k' v)) : S2 n ((gfN c f h a).bind k) ((gfN c f h' a).bind k') := S2_bo (fun _ e => gfN_fr r e) hk
theorem S2_l {n a : Nat} {i : Int32} {h h' : Hp} {k k' : Int32 → Option (Int32 × Hp)} (r : HR n h h') (hk : ∀ v, S2 n (k v) (k' v)) : S2 n ((ldI 1 h a i).bind k) ((ldI 1 h' a i).bind k') := S2_bo (fun _ e => ldI_fr r e) hk
theorem fr_isSea {f0 n a : Nat} {h h' : Hp} (r : HR n h h') : S2 n (fX12_isSea f0 a h) (fX12_isSea f0 a h') := by
  unfold fX12_isSea
  exact S2_g r fun v => S2_l r fun x => S2_ite (S2_zr r) (S2_g r fun v => S2_l r fun x => S2_ite (S2_zr r) (S2_zr r))
theorem fr_cell {f0 n : Nat} {p q : Int32} {h h' : Hp} (r : HR n h h') : S2 n (fX12_cell f0 p q h) (fX12_cell f0 p q h') := S2_some r
theorem fr_lesser {f0 n : Nat} {p q : Int32} {h h' : Hp} (r : HR n h h') : S2 n (fX12_lesser f0 p q h) (fX12_lesser f0 p q h') := by
  unfold fX12_lesser
  exact S2_ite (S2_some r) (S2_some r)
theorem fr_85 {f0 n : Nat} {g66 : Nat → Int32 → Hp → Option Hp} {g75 : Nat → Int32 → Int32 → Hp → Option Hp} (hg : ∀ a i j h h', HR n h h' → Sm n (g75 a i j h) (g75 a i j h')) : ∀ (f v2 : Nat) (v3 v4 v5 : Int32) (h h' : Hp), HR n h h' → Sm n (bX12_waysOf_85 f0 g66 g75 f v2 v3 v4 v5 h) (bX12_waysOf_85 f0 g66 g75 f v2 v3 v4 v5 h')
  | 0, _, _, _, _, _, _, _ => fun r' e => by cases e
  | f + 1, v2, v3, v4, v5, h, h', r => by
    unfold bX12_waysOf_85
    exact Sm_ite (hg _ _ _ _ _ r) (Sm_ob (fr_cell r) fun x1 h1 h1' r1 => Sm_ob (fr_cell r1) fun x2 h2 h2' r2 => Sm_l r2 fun y1 => Sm_ob (fr_cell r2) fun x3 h3 h3' r3 => Sm_l r3 fun y2 => Sm_ob (fr_cell r3) fun x4 h4 h4' r4 => Sm_l r4 fun y3 => Sm_ob (fr_lesser r4) fun x5 h5 h5' r5 => Sm_s r5 fun h6 h6' r6 => fr_85 hg f v2 v3 v4 (v5 + 1) h6 h6' r6)
theorem fr_75 {f0 n : Nat} {g66 : Nat → Int32 → Hp → Option Hp} (hg : ∀ a i h h', HR n h h' → Sm n (g66 a i h) (g66 a i h')) : ∀ (f v2 : Nat) (v3 v4 : Int32) (h h' : Hp), HR n h h' → Sm n (bX12_waysOf_75 f0 g66 f v2 v3 v4 h) (bX12_waysOf_75 f0 g66 f v2 v3 v4 h')
  | 0, _, _, _, _, _, _ => fun r' e => by cases e
  | f + 1, v2, v3, v4, h, h', r => by
    unfold bX12_waysOf_75
    exact Sm_ite (hg _ _ _ _ r) (fr_85 (fun a i j h h' r => fr_75 hg f a i j h h' r) f0 v2 v3 v4 0 h h' r)
theorem fr_66 {f0 n : Nat} : ∀ (f v2 : Nat) (v3 : Int32) (h h' : Hp), HR n h h' → Sm n (bX12_waysOf_66 f0 f v2 v3 h) (bX12_waysOf_66 f0 f v2 v3 h')
  | 0, _, _, _, _, _ => fun r' e => by cases e
  | f + 1, v2, v3, h, h', r => by
    unfold bX12_waysOf_66
    exact Sm_ite (Sm_some r) (fr_75 (fun a i h h' r => fr_66 f a i h h' r) f0 v2 v3 0 h h' r)
theorem fr_44 {f0 n : Nat} : ∀ (f v2 : Nat) (v3 : Int32) (h h' : Hp), HR n h h' → Sm n (bX12_waysOf_44 f0 f v2 v3 h) (bX12_waysOf_44 f0 f v2 v3 h')
  | 0, _, _, _, _, _ => fun r' e => by cases e
  | f + 1, v2, v3, h, h', r => by
    unfold bX12_waysOf_44
    exact Sm_ite (fr_66 f0 v2 0 h h' r) (Sm_ob (fr_cell r) fun x1 h1 h1' r1 => Sm_s r1 fun h6 h6' r6 => fr_44 f v2 (v3 + 1) h6 h6' r6)
theorem fr_2 {f0 n : Nat} : ∀ (f v0 : Nat) (v1 : Int32) (v2 : Nat) (v3 : Int32) (h h' : Hp), HR n h h' → Sm n (bX12_waysOf_2 f0 f v0 v1 v2 v3 h) (bX12_waysOf_2 f0 f v0 v1 v2 v3 h')
  | 0, _, _, _, _, _, _, _ => fun r' e => by cases e
  | f + 1, v0, v1, v2, v3, h, h', r => by
    have e35 : ∀ s0 s1 s2 h h', HR n h h' → Sm n (bX12_waysOf_35 f0 (bX12_waysOf_2 f0 f) v0 v1 v2 v3 s0 s1 s2 h) (bX12_waysOf_35 f0 (bX12_waysOf_2 f0 f) v0 v1 v2 v3 s0 s1 s2 h') := fun s0 s1 s2 h h' r => by
      unfold bX12_waysOf_35
      exact Sm_s r fun h6 h6' r6 => fr_2 f v0 v1 v2 (v3 + 1) h6 h6' r6
    unfold bX12_waysOf_2
    exact Sm_ite (fr_44 f0 v2 0 h h' r) (Sm_g r fun x1 => Sm_l r fun y1 => Sm_ite (e35 _ _ _ _ _ r) (Sm_g r fun x2 => Sm_l r fun y2 => e35 _ _ _ _ _ r))
theorem fr_ways {f0 n a p1 : Nat} {p0 : Int32} {h h' : Hp} (r : HR n h h') : Sm n (fX12_waysOf f0 a p0 p1 h) (fX12_waysOf f0 a p0 p1 h') := by
  unfold fX12_waysOf
  exact fr_2 f0 a p0 p1 0 h h' r
theorem fr_b85 {f0 n : Nat} : ∀ (f v0 : Nat) (v1 : Int32) (h h' : Hp), HR n h h' → Sm n (bX12_begins_85 f0 f v0 v1 h) (bX12_begins_85 f0 f v0 v1 h')
  | 0, _, _, _, _, _ => fun r' e => by cases e
  | f + 1, v0, v1, h, h', r => by
    have e118 : ∀ s0 s1 s2 h h', HR n h h' → Sm n (bX12_begins_118 f0 (bX12_begins_85 f0 f) v0 v1 s0 s1 s2 h) (bX12_begins_118 f0 (bX12_begins_85 f0 f) v0 v1 s0 s1 s2 h') := fun s0 s1 s2 h h' r => by
      unfold bX12_begins_118
      exact Sm_s r fun h6 h6' r6 => fr_b85 f v0 (v1 + 1) h6 h6' r6
    unfold bX12_begins_85
    exact Sm_ite (Sm_g r fun x1 => Sm_c r fun _ => Sm_bs (fr_ways r) fun h1 h1' r1 => Sm_g r1 fun x2 => Sm_c r1 fun _ => Sm_bs (fr_ways r1) fun h2 h2' r2 => Sm_some r2) (Sm_g r fun x1 => Sm_g r fun x2 => Sm_l r fun y1 => Sm_ite (e118 _ _ _ _ _ r) (e118 _ _ _ _ _ r))
theorem fr_b51 {f0 n : Nat} : ∀ (f v0 : Nat) (v1 : Int32) (h h' : Hp), HR n h h' → Sm n (bX12_begins_51 f0 f v0 v1 h) (bX12_begins_51 f0 f v0 v1 h')
  | 0, _, _, _, _, _ => fun r' e => by cases e
  | f + 1, v0, v1, h, h', r => by
    unfold bX12_begins_51
    exact Sm_ite (fr_b85 f0 v0 0 h h' r) (Sm_g r fun x1 => Sm_g r fun x2 => Sm_l r fun y1 => Sm_s r fun h6 h6' r6 => fr_b51 f v0 (v1 + 1) h6 h6' r6)
theorem fr_b48 {f0 n v0 s0 : Nat} {s1 s2 : Int32} {h h' : Hp} (r : HR n h h') : Sm n (bX12_begins_48 f0 v0 s0 s1 s2 h) (bX12_begins_48 f0 v0 s0 s1 s2 h') := by
  unfold bX12_begins_48
  exact Sm_s r fun h6 h6' r6 => fr_b51 f0 v0 0 h6 h6' r6
theorem fr_b28 {f0 n v0 s0 : Nat} {s1 s2 : Int32} {h h' : Hp} (r : HR n h h') : Sm n (bX12_begins_28 f0 v0 s0 s1 s2 h) (bX12_begins_28 f0 v0 s0 s1 s2 h') := by
  unfold bX12_begins_28
  exact Sm_s r fun h1 h1' r1 => Sm_g r1 fun x1 => Sm_c r1 fun _ => Sm_ob (fr_isSea r1) fun x2 h2 h2' r2 => Sm_ite (fr_b48 r2) (fr_b48 r2)
theorem fr_begins {f0 n a : Nat} {h h' : Hp} (r : HR n h h') : Sm n (fX12_begins f0 a h) (fX12_begins f0 a h') := by
  unfold fX12_begins
  exact Sm_g r fun x1 => Sm_s r fun h1 h1' r1 => Sm_g r1 fun x2 => Sm_c r1 fun _ => Sm_ob (fr_isSea r1) fun x3 h2 h2' r2 => Sm_ite (fr_b28 r2) (fr_b28 r2)
