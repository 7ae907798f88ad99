/-! A SHIP'S CONTENTS as one thing: ints, came, taken, skills, known -/
abbrev D5 : Type := (Nat → Int) × (Int → Int) × (Int → Int) × (Int → Int) × (Int → Int)
def shS (X : XS) (k : Nat) (d : D5) : XS := ((fun s k' f => if s = 10 ∧ k' = k then d.1 f else X.1 s k' f), (fun s k' => if k' = k then (if s = 43 then d.2.1 else if s = 44 then d.2.2.1 else if s = 45 then d.2.2.2.1 else if s = 46 then d.2.2.2.2 else X.2.1 s k') else X.2.1 s k'), X.2.2)
def shG (X : XS) (k : Nat) : D5 := (XF X 10 k, XR X 43 k, XR X 44 k, XR X 45 k, XR X 46 k)
def upF (d : D5) (f : Nat) (v : Int) : D5 := ((fun f' => if f' = f then v else d.1 f'), d.2)
theorem sh_id (X : XS) (k : Nat) : shS X k (shG X k) = X := by
  unfold shS shG
  refine Prod.ext (funext fun s => funext fun k' => funext fun f => ?_) (Prod.ext (funext fun s => funext fun k' => ?_) rfl)
  · show (if s = 10 ∧ k' = k then XF X 10 k f else X.1 s k' f) = X.1 s k' f
    split
    · rename_i c; rw [c.1, c.2]; rfl
    · rfl
  · show (if k' = k then (if s = 43 then XR X 43 k else if s = 44 then XR X 44 k else if s = 45 then XR X 45 k else if s = 46 then XR X 46 k else X.2.1 s k') else X.2.1 s k') = X.2.1 s k'
    split
    · rename_i c; subst c
      (repeat' split) <;> first | (rename_i c; subst c; rfl) | rfl
    · rfl
theorem XF_sh (X : XS) (k : Nat) (d : D5) (s k' f : Nat) : XF (shS X k d) s k' f = if s = 10 ∧ k' = k then d.1 f else XF X s k' f := rfl
theorem XF_shk (X : XS) (k : Nat) (d : D5) (f : Nat) : XF (shS X k d) 10 k f = d.1 f := by rw [XF_sh, if_pos ⟨rfl, rfl⟩]
theorem XJ_sh (X : XS) (k : Nat) (d : D5) : XJ (shS X k d) = XJ X := rfl
theorem XP_sh (X : XS) (k : Nat) (d : D5) : XP (shS X k d) = XP X := rfl
theorem XM_sh (X : XS) (k : Nat) (d : D5) : XM (shS X k d) = XM X := rfl
theorem XR_sh (X : XS) (k : Nat) (d : D5) (s k' : Nat) : XR (shS X k d) s k' = if k' = k then (if s = 43 then d.2.1 else if s = 44 then d.2.2.1 else if s = 45 then d.2.2.2.1 else if s = 46 then d.2.2.2.2 else XR X s k') else XR X s k' := rfl
theorem XR_sho (X : XS) (k : Nat) (d : D5) {s : Nat} (k' : Nat) (h : s < 43 ∨ 46 < s) : XR (shS X k d) s k' = XR X s k' := by
  rw [XR_sh]
  split
  · rw [if_neg (by omega), if_neg (by omega), if_neg (by omega), if_neg (by omega)]
  · rfl
theorem XR_shn (X : XS) (k : Nat) (d : D5) (s : Nat) {k' : Nat} (h : k' ≠ k) : XR (shS X k d) s k' = XR X s k' := by rw [XR_sh, if_neg h]
theorem XF_shn (X : XS) (k : Nat) (d : D5) (s : Nat) {k' : Nat} (h : k' ≠ k) (f : Nat) : XF (shS X k d) s k' f = XF X s k' f := by rw [XF_sh, if_neg (fun q => h q.2)]
theorem XF_sh0 (X : XS) (k : Nat) (d : D5) (k' f : Nat) : XF (shS X k d) 0 k' f = XF X 0 k' f := by rw [XF_sh, if_neg (fun q => absurd q.1 (by decide))]
theorem XF_sh1 (X : XS) (k : Nat) (d : D5) (k' f : Nat) : XF (shS X k d) 1 k' f = XF X 1 k' f := by rw [XF_sh, if_neg (fun q => absurd q.1 (by decide))]
theorem XF_sh2 (X : XS) (k : Nat) (d : D5) (k' f : Nat) : XF (shS X k d) 2 k' f = XF X 2 k' f := by rw [XF_sh, if_neg (fun q => absurd q.1 (by decide))]
theorem XF_sh3 (X : XS) (k : Nat) (d : D5) (k' f : Nat) : XF (shS X k d) 3 k' f = XF X 3 k' f := by rw [XF_sh, if_neg (fun q => absurd q.1 (by decide))]
theorem XF_sh4 (X : XS) (k : Nat) (d : D5) (k' f : Nat) : XF (shS X k d) 4 k' f = XF X 4 k' f := by rw [XF_sh, if_neg (fun q => absurd q.1 (by decide))]
theorem XF_sh5 (X : XS) (k : Nat) (d : D5) (k' f : Nat) : XF (shS X k d) 5 k' f = XF X 5 k' f := by rw [XF_sh, if_neg (fun q => absurd q.1 (by decide))]
theorem XF_sh6 (X : XS) (k : Nat) (d : D5) (k' f : Nat) : XF (shS X k d) 6 k' f = XF X 6 k' f := by rw [XF_sh, if_neg (fun q => absurd q.1 (by decide))]
theorem XF_sh7 (X : XS) (k : Nat) (d : D5) (k' f : Nat) : XF (shS X k d) 7 k' f = XF X 7 k' f := by rw [XF_sh, if_neg (fun q => absurd q.1 (by decide))]
theorem XF_sh8 (X : XS) (k : Nat) (d : D5) (k' f : Nat) : XF (shS X k d) 8 k' f = XF X 8 k' f := by rw [XF_sh, if_neg (fun q => absurd q.1 (by decide))]
theorem XF_sh9 (X : XS) (k : Nat) (d : D5) (k' f : Nat) : XF (shS X k d) 9 k' f = XF X 9 k' f := by rw [XF_sh, if_neg (fun q => absurd q.1 (by decide))]
theorem XF_sh11 (X : XS) (k : Nat) (d : D5) (k' f : Nat) : XF (shS X k d) 11 k' f = XF X 11 k' f := by rw [XF_sh, if_neg (fun q => absurd q.1 (by decide))]
theorem XF_sh12 (X : XS) (k : Nat) (d : D5) (k' f : Nat) : XF (shS X k d) 12 k' f = XF X 12 k' f := by rw [XF_sh, if_neg (fun q => absurd q.1 (by decide))]
theorem XR_sh43 (X : XS) (k : Nat) (d : D5) : XR (shS X k d) 43 k = d.2.1 := by rw [XR_sh, if_pos rfl]; rfl
theorem XR_sh44 (X : XS) (k : Nat) (d : D5) : XR (shS X k d) 44 k = d.2.2.1 := by rw [XR_sh, if_pos rfl]; rfl
theorem XR_sh45 (X : XS) (k : Nat) (d : D5) : XR (shS X k d) 45 k = d.2.2.2.1 := by rw [XR_sh, if_pos rfl]; rfl
theorem XR_sh46 (X : XS) (k : Nat) (d : D5) : XR (shS X k d) 46 k = d.2.2.2.2 := by rw [XR_sh, if_pos rfl]; rfl
theorem XR_sh20 (X : XS) (k : Nat) (d : D5) (k' : Nat) : XR (shS X k d) 20 k' = XR X 20 k' := XR_sho X k d k' (by decide)
theorem XR_sh23 (X : XS) (k : Nat) (d : D5) (k' : Nat) : XR (shS X k d) 23 k' = XR X 23 k' := XR_sho X k d k' (by decide)
theorem XR_sh24 (X : XS) (k : Nat) (d : D5) (k' : Nat) : XR (shS X k d) 24 k' = XR X 24 k' := XR_sho X k d k' (by decide)
theorem XR_sh25 (X : XS) (k : Nat) (d : D5) (k' : Nat) : XR (shS X k d) 25 k' = XR X 25 k' := XR_sho X k d k' (by decide)
theorem XR_sh26 (X : XS) (k : Nat) (d : D5) (k' : Nat) : XR (shS X k d) 26 k' = XR X 26 k' := XR_sho X k d k' (by decide)
theorem XR_sh27 (X : XS) (k : Nat) (d : D5) (k' : Nat) : XR (shS X k d) 27 k' = XR X 27 k' := XR_sho X k d k' (by decide)
theorem XR_sh28 (X : XS) (k : Nat) (d : D5) (k' : Nat) : XR (shS X k d) 28 k' = XR X 28 k' := XR_sho X k d k' (by decide)
theorem XR_sh29 (X : XS) (k : Nat) (d : D5) (k' : Nat) : XR (shS X k d) 29 k' = XR X 29 k' := XR_sho X k d k' (by decide)
theorem XR_sh30 (X : XS) (k : Nat) (d : D5) (k' : Nat) : XR (shS X k d) 30 k' = XR X 30 k' := XR_sho X k d k' (by decide)
theorem XR_sh31 (X : XS) (k : Nat) (d : D5) (k' : Nat) : XR (shS X k d) 31 k' = XR X 31 k' := XR_sho X k d k' (by decide)
theorem XR_sh32 (X : XS) (k : Nat) (d : D5) (k' : Nat) : XR (shS X k d) 32 k' = XR X 32 k' := XR_sho X k d k' (by decide)
theorem XR_sh33 (X : XS) (k : Nat) (d : D5) (k' : Nat) : XR (shS X k d) 33 k' = XR X 33 k' := XR_sho X k d k' (by decide)
theorem XR_sh34 (X : XS) (k : Nat) (d : D5) (k' : Nat) : XR (shS X k d) 34 k' = XR X 34 k' := XR_sho X k d k' (by decide)
theorem XR_sh35 (X : XS) (k : Nat) (d : D5) (k' : Nat) : XR (shS X k d) 35 k' = XR X 35 k' := XR_sho X k d k' (by decide)
theorem XR_sh36 (X : XS) (k : Nat) (d : D5) (k' : Nat) : XR (shS X k d) 36 k' = XR X 36 k' := XR_sho X k d k' (by decide)
theorem XR_sh37 (X : XS) (k : Nat) (d : D5) (k' : Nat) : XR (shS X k d) 37 k' = XR X 37 k' := XR_sho X k d k' (by decide)
theorem XR_sh38 (X : XS) (k : Nat) (d : D5) (k' : Nat) : XR (shS X k d) 38 k' = XR X 38 k' := XR_sho X k d k' (by decide)
theorem XR_sh39 (X : XS) (k : Nat) (d : D5) (k' : Nat) : XR (shS X k d) 39 k' = XR X 39 k' := XR_sho X k d k' (by decide)
theorem XR_sh40 (X : XS) (k : Nat) (d : D5) (k' : Nat) : XR (shS X k d) 40 k' = XR X 40 k' := XR_sho X k d k' (by decide)
theorem XR_sh41 (X : XS) (k : Nat) (d : D5) (k' : Nat) : XR (shS X k d) 41 k' = XR X 41 k' := XR_sho X k d k' (by decide)
theorem XR_sh42 (X : XS) (k : Nat) (d : D5) (k' : Nat) : XR (shS X k d) 42 k' = XR X 42 k' := XR_sho X k d k' (by decide)
theorem XR_sh49 (X : XS) (k : Nat) (d : D5) (k' : Nat) : XR (shS X k d) 49 k' = XR X 49 k' := XR_sho X k d k' (by decide)
theorem XR_sh50 (X : XS) (k : Nat) (d : D5) (k' : Nat) : XR (shS X k d) 50 k' = XR X 50 k' := XR_sho X k d k' (by decide)
theorem XR_sh60 (X : XS) (k : Nat) (d : D5) (k' : Nat) : XR (shS X k d) 60 k' = XR X 60 k' := XR_sho X k d k' (by decide)
theorem XR_sh61 (X : XS) (k : Nat) (d : D5) (k' : Nat) : XR (shS X k d) 61 k' = XR X 61 k' := XR_sho X k d k' (by decide)
theorem XR_sh62 (X : XS) (k : Nat) (d : D5) (k' : Nat) : XR (shS X k d) 62 k' = XR X 62 k' := XR_sho X k d k' (by decide)
theorem XR_sh63 (X : XS) (k : Nat) (d : D5) (k' : Nat) : XR (shS X k d) 63 k' = XR X 63 k' := XR_sho X k d k' (by decide)
theorem XR_sh66 (X : XS) (k : Nat) (d : D5) (k' : Nat) : XR (shS X k d) 66 k' = XR X 66 k' := XR_sho X k d k' (by decide)
theorem XR_sh67 (X : XS) (k : Nat) (d : D5) (k' : Nat) : XR (shS X k d) 67 k' = XR X 67 k' := XR_sho X k d k' (by decide)
theorem XR_sh68 (X : XS) (k : Nat) (d : D5) (k' : Nat) : XR (shS X k d) 68 k' = XR X 68 k' := XR_sho X k d k' (by decide)
theorem XR_sh69 (X : XS) (k : Nat) (d : D5) (k' : Nat) : XR (shS X k d) 69 k' = XR X 69 k' := XR_sho X k d k' (by decide)
theorem XR_sh70 (X : XS) (k : Nat) (d : D5) (k' : Nat) : XR (shS X k d) 70 k' = XR X 70 k' := XR_sho X k d k' (by decide)
theorem XR_sh71 (X : XS) (k : Nat) (d : D5) (k' : Nat) : XR (shS X k d) 71 k' = XR X 71 k' := XR_sho X k d k' (by decide)
theorem XR_sh72 (X : XS) (k : Nat) (d : D5) (k' : Nat) : XR (shS X k d) 72 k' = XR X 72 k' := XR_sho X k d k' (by decide)
theorem XR_sh73 (X : XS) (k : Nat) (d : D5) (k' : Nat) : XR (shS X k d) 73 k' = XR X 73 k' := XR_sho X k d k' (by decide)
theorem XR_sh74 (X : XS) (k : Nat) (d : D5) (k' : Nat) : XR (shS X k d) 74 k' = XR X 74 k' := XR_sho X k d k' (by decide)
theorem XR_sh75 (X : XS) (k : Nat) (d : D5) (k' : Nat) : XR (shS X k d) 75 k' = XR X 75 k' := XR_sho X k d k' (by decide)
theorem XR_sh76 (X : XS) (k : Nat) (d : D5) (k' : Nat) : XR (shS X k d) 76 k' = XR X 76 k' := XR_sho X k d k' (by decide)
theorem XR_sh77 (X : XS) (k : Nat) (d : D5) (k' : Nat) : XR (shS X k d) 77 k' = XR X 77 k' := XR_sho X k d k' (by decide)
theorem XR_sh78 (X : XS) (k : Nat) (d : D5) (k' : Nat) : XR (shS X k d) 78 k' = XR X 78 k' := XR_sho X k d k' (by decide)
theorem XR_sh79 (X : XS) (k : Nat) (d : D5) (k' : Nat) : XR (shS X k d) 79 k' = XR X 79 k' := XR_sho X k d k' (by decide)
theorem XR_sh81 (X : XS) (k : Nat) (d : D5) (k' : Nat) : XR (shS X k d) 81 k' = XR X 81 k' := XR_sho X k d k' (by decide)
theorem sF_sh (X : XS) (k : Nat) (d : D5) (f : Nat) (v : Int) : sF (shS X k d) 10 k f v = shS X k (upF d f v) := by
  refine Prod.ext (funext fun s => funext fun k' => funext fun f' => ?_) rfl
  show (if s = 10 ∧ k' = k ∧ f' = f then v else if s = 10 ∧ k' = k then d.1 f' else X.1 s k' f') = if s = 10 ∧ k' = k then (if f' = f then v else d.1 f') else X.1 s k' f'
  by_cases c : s = 10 ∧ k' = k
  · by_cases e : f' = f
    · rw [if_pos ⟨c.1, c.2, e⟩, if_pos c, if_pos e]
    · rw [if_neg (fun q => e q.2.2), if_pos c, if_pos c, if_neg e]
  · rw [if_neg (fun q => c ⟨q.1, q.2.1⟩), if_neg c, if_neg c]
theorem sR_sh43 (X : XS) (k : Nat) (d : D5) (r : Int → Int) : sR (shS X k d) 43 k r = shS X k (d.1, r, d.2.2) := by
  refine Prod.ext rfl (Prod.ext (funext fun s => funext fun k' => ?_) rfl)
  show (if s = 43 ∧ k' = k then r else XR (shS X k d) s k') = XR (shS X k (d.1, r, d.2.2)) s k'
  rw [XR_sh, XR_sh]
  by_cases c : k' = k
  · by_cases e : s = 43
    · subst e; simp [c]
    · simp [c, e]
  · simp [c]
theorem sR_sh44 (X : XS) (k : Nat) (d : D5) (r : Int → Int) : sR (shS X k d) 44 k r = shS X k (d.1, d.2.1, r, d.2.2.2) := by
  refine Prod.ext rfl (Prod.ext (funext fun s => funext fun k' => ?_) rfl)
  show (if s = 44 ∧ k' = k then r else XR (shS X k d) s k') = XR (shS X k (d.1, d.2.1, r, d.2.2.2)) s k'
  rw [XR_sh, XR_sh]
  by_cases c : k' = k
  · by_cases e : s = 44
    · subst e; simp [c]
    · simp [c, e]
  · simp [c]
theorem sR_sh45 (X : XS) (k : Nat) (d : D5) (r : Int → Int) : sR (shS X k d) 45 k r = shS X k (d.1, d.2.1, d.2.2.1, r, d.2.2.2.2) := by
  refine Prod.ext rfl (Prod.ext (funext fun s => funext fun k' => ?_) rfl)
  show (if s = 45 ∧ k' = k then r else XR (shS X k d) s k') = XR (shS X k (d.1, d.2.1, d.2.2.1, r, d.2.2.2.2)) s k'
  rw [XR_sh, XR_sh]
  by_cases c : k' = k
  · by_cases e : s = 45
    · subst e; simp [c]
    · simp [c, e]
  · simp [c]
theorem sR_sh46 (X : XS) (k : Nat) (d : D5) (r : Int → Int) : sR (shS X k d) 46 k r = shS X k (d.1, d.2.1, d.2.2.1, d.2.2.2.1, r) := by
  refine Prod.ext rfl (Prod.ext (funext fun s => funext fun k' => ?_) rfl)
  show (if s = 46 ∧ k' = k then r else XR (shS X k d) s k') = XR (shS X k (d.1, d.2.1, d.2.2.1, d.2.2.2.1, r)) s k'
  rw [XR_sh, XR_sh]
  by_cases c : k' = k
  · by_cases e : s = 46
    · subst e; simp [c]
    · simp [c, e]
  · simp [c]
theorem upF_1 (d : D5) (f : Nat) (v : Int) (f' : Nat) : (upF d f v).1 f' = if f' = f then v else d.1 f' := rfl
theorem upF_2 (d : D5) (f : Nat) (v : Int) : (upF d f v).2 = d.2 := rfl
def WD (d : D5) : Prop := (∀ f, Rg (d.1 f)) ∧ (∀ i, Rg (d.2.1 i)) ∧ (∀ i, Rg (d.2.2.1 i)) ∧ (∀ i, Rg (d.2.2.2.1 i)) ∧ ∀ i, Rg (d.2.2.2.2 i)
theorem W_sh {X : XS} (W : WF X) {k : Nat} {d : D5} (h : WD d) : WF (shS X k d) := by
  refine ⟨fun s k' f => ?_, fun s k' i => ?_⟩
  · rw [XF_sh]; split
    · exact h.1 f
    · exact W.1 _ _ _
  · rw [XR_sh]
    (repeat' split) <;> first | exact h.2.1 i | exact h.2.2.1 i | exact h.2.2.2.1 i | exact h.2.2.2.2 i | exact W.2 _ _ _
theorem WD_G {X : XS} (W : WF X) (k : Nat) : WD (shG X k) := ⟨fun f => W.1 _ _ _, fun i => W.2 _ _ _, fun i => W.2 _ _ _, fun i => W.2 _ _ _, fun i => W.2 _ _ _⟩
theorem WD_F {d : D5} (h : WD d) {f : Nat} {v : Int} (h1 : -2147483648 ≤ v) (h2 : v < 2147483648) : WD (upF d f v) := ⟨fun f' => by
  rw [upF_1]; split
  · exact ⟨h1, h2⟩
  · exact h.1 _, h.2⟩
theorem Wd_fl {d : D5} (h : WD d) (f : Nat) : -2147483648 ≤ d.1 f := (h.1 f).1
theorem Wd_fh {d : D5} (h : WD d) (f : Nat) : d.1 f < 2147483648 := (h.1 f).2
theorem Wd_1l {d : D5} (h : WD d) (i : Int) : -2147483648 ≤ d.2.1 i := (h.2.1 i).1
theorem Wd_1h {d : D5} (h : WD d) (i : Int) : d.2.1 i < 2147483648 := (h.2.1 i).2
theorem Wd_2l {d : D5} (h : WD d) (i : Int) : -2147483648 ≤ d.2.2.1 i := (h.2.2.1 i).1
theorem Wd_2h {d : D5} (h : WD d) (i : Int) : d.2.2.1 i < 2147483648 := (h.2.2.1 i).2
theorem Wd_3l {d : D5} (h : WD d) (i : Int) : -2147483648 ≤ d.2.2.2.1 i := (h.2.2.2.1 i).1
theorem Wd_3h {d : D5} (h : WD d) (i : Int) : d.2.2.2.1 i < 2147483648 := (h.2.2.2.1 i).2
theorem Wd_4l {d : D5} (h : WD d) (i : Int) : -2147483648 ≤ d.2.2.2.2 i := (h.2.2.2.2 i).1
theorem Wd_4h {d : D5} (h : WD d) (i : Int) : d.2.2.2.2 i < 2147483648 := (h.2.2.2.2 i).2
theorem hp_wr {Y : YS} {X : XS} {s k f : Nat} {v : Int} : hp Y (sF X s k f (wr v)) = hp Y (sF X s k f v) := by
  unfold hp Cs
  congr 1
  apply List.map_congr_left
  intro i hi
  unfold ct ctE
  have e : ∀ f', iI (XF (sF X s k f (wr v)) i.1 i.2 f') = iI (XF (sF X s k f v) i.1 i.2 f') := fun f' => by
    rw [XF_sF, XF_sF]; split
    · exact iI_wr v
    · rfl
  simp only [e]
  rfl
theorem q_10_5 {Y : YS} {X : XS} {k : Nat} (g : ShO Y k) {v : Int} : pf 10 5 (hp Y X) (Ad Y 10 k) (.int (iI v)) = some (hp Y (sF X 10 k 5 (wr v))) := by rw [p_10_5 g, hp_wr]
theorem q_10_8 {Y : YS} {X : XS} {k : Nat} (g : ShO Y k) {v : Int} : pf 10 8 (hp Y X) (Ad Y 10 k) (.int (iI v)) = some (hp Y (sF X 10 k 8 (wr v))) := by rw [p_10_8 g, hp_wr]
theorem q_10_13 {Y : YS} {X : XS} {k : Nat} (g : ShO Y k) {v : Int} : pf 10 13 (hp Y X) (Ad Y 10 k) (.int (iI v)) = some (hp Y (sF X 10 k 13 (wr v))) := by rw [p_10_13 g, hp_wr]
