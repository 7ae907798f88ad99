/-! THE START: the cells, by sort and index -/
def ids1 : List (Nat × Nat) := (81, 0) :: (80, 0) :: (79, 0) :: (78, 0) :: (77, 0) :: (76, 0) :: (75, 0) :: (74, 0) :: (73, 0) :: (72, 0) :: (71, 0) :: (70, 0) :: (69, 0) :: (68, 0) :: (67, 0) :: (66, 0) :: (65, 0) :: (64, 0) :: (63, 0) :: (62, 0) :: (61, 0) :: (60, 0) :: (12, 0) :: (46, 9) :: (45, 9) :: (44, 9) :: (43, 9) :: (10, 9) :: (46, 8) :: (45, 8) :: (44, 8) :: (43, 8) :: (10, 8) :: (46, 7) :: (45, 7) :: (44, 7) :: (43, 7) :: (10, 7) :: (46, 6) :: (45, 6) :: (44, 6) :: (43, 6) :: (10, 6) :: (46, 5) :: (45, 5) :: (44, 5) :: (43, 5) :: (10, 5) :: (46, 4) :: (45, 4) :: (44, 4) :: (43, 4) :: (10, 4) :: (46, 3) :: (45, 3) :: (44, 3) :: (43, 3) :: (10, 3) :: (46, 2) :: (45, 2) :: (44, 2) :: (43, 2) :: (10, 2) :: (50, 0) :: (5, 0) :: (49, 0) :: (0, 0) :: (48, 0) :: (47, 0) :: (46, 1) :: (45, 1) :: (44, 1) :: (43, 1) :: (10, 1) :: (46, 0) :: (45, 0) :: (44, 0) :: (43, 0) :: (10, 0) :: (42, 0) :: (41, 0) :: (40, 0) :: (2, 0) :: (9, 0) :: (39, 1) :: (38, 1) :: (37, 1) :: (36, 1) :: (8, 1) :: (39, 0) :: (38, 0) :: (37, 0) :: (36, 0) :: (8, 0) :: (7, 0) :: (35, 1) :: (34, 1) :: (33, 1) :: (32, 1) :: (31, 1) :: (30, 1) :: (29, 1) :: (28, 1) :: (27, 1) :: (26, 1) :: (25, 1) :: (24, 1) :: (23, 1) :: (22, 1) :: (3, 1) :: (6, 1) :: (35, 0) :: (34, 0) :: (33, 0) :: (32, 0) :: (31, 0) :: (30, 0) :: (29, 0) :: (28, 0) :: (27, 0) :: (26, 0) :: (25, 0) :: (24, 0) :: (23, 0) :: (22, 0) :: (3, 0) :: (6, 0) :: (21, 0) :: (4, 0) :: (20, 0) :: (11, 0) :: []
def w65 : Nat → Int64 := (vp_updL (vp_updL (vp_updL (vp_updL (vp_updL (vp_updL (vp_updL (vp_updL (vp_updL (vp_updL (vp_updL (vp_updL (vp_updL (vp_updL (vp_updL (vp_updL (vp_updL (vp_updL (vp_updL (vp_updL (vp_updL (vp_updL (vp_updL (vp_updL (vp_updL (vp_updL (vp_updL (fun _ => 0) 0 1886351988) 1 7823737) 2 1835100524) 3 1936222576) 4 131260348654948) 5 1870095716) 6 1919904869) 7 474147546227) 8 7168366) 9 1918986606) 10 123563834240884) 11 495555538035) 12 123563682985075) 13 512735409267) 14 499850634611) 15 119182682386035) 16 28530) 17 6385252) 18 7237492) 19 1751478885) 20 1650812270) 21 1935763045) 22 461414299507) 23 448377483891) 24 6709618) 25 474080961907) 26 121450625394034)
def X00 : XS := ((fun s k f => if s = 10 ∧ k = 0 ∧ (f = 2 ∨ f = 3 ∨ f = 4) then -1 else 0), (fun s k => if s = 46 ∧ k = 0 then (fun j => if j < 64 then 1000000 else 0) else (fun _ => 0)), (fun s k => if s = 21 ∧ k = 0 then (fun j => rsF 145 j.toNat) else if s = 65 ∧ k = 0 then (fun j => w65 j.toNat) else (fun _ => 0)), (fun i => i), (fun _ => false))
theorem ids1_nd : ids1.Nodup := by decide +kernel
theorem ids1_0 : ∀ i ∈ idl0, i ∈ (90, 0) :: ids1 := by decide +kernel
theorem ids1_ok : ∀ i ∈ ids1, i.1 ∈ okS := by decide +kernel
theorem ids1_90 : ∀ i ∈ ids1, i.1 ≠ 90 := by decide +kernel
theorem ids1_u : ∀ i ∈ ids1, (i.1 = 11 → i.2 = 0) ∧ (i.1 = 47 → i.2 = 0) ∧ (i.1 = 48 → i.2 = 0) ∧ i.1 ≠ 1 := by decide +kernel
theorem ids1_m : (∀ s ∈ [3, 6, 22, 23, 24, 25, 26, 27, 28, 29, 30, 31, 32, 33, 34, 35, 8, 36, 37, 38, 39], (s, 2) ∉ ids1 ∧ (s, 3) ∉ ids1) ∧ ∀ s ∈ [10, 43, 44, 45, 46], (s, 10) ∉ ids1 ∧ (s, 11) ∉ ids1 := by decide +kernel
theorem lst_90 : (∀ s ∈ [3, 6, 22, 23, 24, 25, 26, 27, 28, 29, 30, 31, 32, 33, 34, 35, 8, 36, 37, 38, 39], s ≠ 90) ∧ ∀ s ∈ [10, 43, 44, 45, 46], s ≠ 90 := by decide
theorem GY0 {A : List Nat} (n : Nat) (hl : A.length = ids1.length) (hn : (n :: A).Nodup) : GY (n :: A, (90, 0) :: ids1) ∧ U11 (n :: A, (90, 0) :: ids1) ∧ ∀ q, q < 2 → ImN (n :: A, (90, 0) :: ids1) q := by
  refine ⟨⟨by simp [hl], hn, List.nodup_cons.mpr ⟨fun e => ids1_90 _ e rfl, ids1_nd⟩, ids1_0, fun i hi => ?_⟩, ⟨fun j hj => ?_, fun j hj => ?_⟩, fun q q2 => ⟨⟨fun e => ?_, fun s hs e => ?_, fun s hs e => ?_⟩, fun j hj => ?_⟩⟩
  · rcases List.mem_cons.mp hi with e | e
    · rw [e]; decide
    · exact ids1_ok i e
  · rcases List.mem_cons.mp hj with e | e
    · have := congrArg Prod.fst e; simp at this
    · exact (ids1_u _ e).1 rfl
  · rcases List.mem_cons.mp hj with e | e
    · have := congrArg Prod.fst e; simp at this
    · exact (ids1_u _ e).2.1 rfl
  · rcases List.mem_cons.mp e with e | e
    · have := congrArg Prod.fst e; simp at this
    · exact (ids1_u _ e).2.2.2 rfl
  · rcases List.mem_cons.mp e with e | e
    · exact lst_90.1 s hs (congrArg Prod.fst e)
    · have z := ids1_m.1 s hs
      rcases (by omega : q = 0 ∨ q = 1) with w | w <;> subst w
      · exact z.1 e
      · exact z.2 e
  · rcases List.mem_cons.mp e with e | e
    · exact lst_90.2 s hs (congrArg Prod.fst e)
    · have z := ids1_m.2 s hs
      rcases (by omega : q = 0 ∨ q = 1) with w | w <;> subst w
      · exact z.1 e
      · exact z.2 e
  · rcases List.mem_cons.mp hj with e | e
    · have := congrArg Prod.fst e; simp at this
    · exact (ids1_u _ e).2.2.1 rfl
/-- nothing points at the box -/
theorem ctE_90 {Y Y' : YS} {s k : Nat} (hA : ∀ s k, ¬ s = 90 → Ad Y' s k = Ad Y s k) (hs : s ∈ okS) {F : Nat → Int} {R : Int → Int} {J : Int → Int64} {P : Nat → Nat} {M : Nat → Bool} : ctE Y' s k F R J P M = ctE Y s k F R J P M := by
  simp only [okS, List.mem_cons, List.not_mem_nil, or_false] at hs
  rcases hs with h | h | h | h | h | h | h | h | h | h | h | h | h | h | h | h | h | h | h | h | h | h | h | h | h | h | h | h | h | h | h | h | h | h | h | h | h | h | h | h | h | h | h | h | h | h | h | h | h | h | h | h | h | h | h | h | h | h | h | h | h | h | h | h | h | h | h <;> subst h
  case _ => unfold ctE; simp (disch := omega) only [hA]
  case _ => unfold ctE; simp (disch := omega) only [hA]
  case _ => unfold ctE; simp (disch := omega) only [hA]
  case _ => unfold ctE; simp (disch := omega) only [hA]
  case _ => unfold ctE; simp (disch := omega) only [hA]
  case _ => unfold ctE; simp (disch := omega) only [hA]
  case _ => unfold ctE; simp (disch := omega) only [hA]
  case _ => unfold ctE; simp (disch := omega) only [hA]
  case _ => unfold ctE; simp (disch := omega) only [hA]
  case _ => unfold ctE; simp (disch := omega) only [hA]
  case _ => unfold ctE; simp (disch := omega) only [hA]
  case _ => unfold ctE; simp (disch := omega) only [hA]
  case _ => unfold ctE; simp (disch := omega) only [hA]
  case _ =>
    have e : (fun i => if i < 8 then some (Ad Y' 10 (P (i + 2))) else none) = (fun i => if i < 8 then some (Ad Y 10 (P (i + 2))) else none) := funext fun i => by rw [hA 10 _ (by decide)]
    show (.inl (5, (8, .inr (.inr (.inr (.inr (fun i => if i < 8 then some (Ad Y' 10 (P (i + 2))) else none)))))) : HE) = .inl (5, (8, .inr (.inr (.inr (.inr (fun i => if i < 8 then some (Ad Y 10 (P (i + 2))) else none))))))
    rw [e]
  case _ =>
    have e : (fun i => if M i = true then some (Ad Y' 1 i) else none) = (fun i => if M i = true then some (Ad Y 1 i) else none) := funext fun i => by rw [hA 1 _ (by decide)]
    show (.inl (4, (2, .inr (.inr (.inr (.inr (fun i => if M i = true then some (Ad Y' 1 i) else none)))))) : HE) = .inl (4, (2, .inr (.inr (.inr (.inr (fun i => if M i = true then some (Ad Y 1 i) else none))))))
    rw [e]
  all_goals rfl
theorem Ad_90 {A : List Nat} {n s k : Nat} (h : ¬ s = 90) : Ad (n :: A, (90, 0) :: ids1) s k = Ad (A, ids1) s k := by
  show (if 90 = s ∧ 0 = k then n else lkA A ids1 s k) = _
  rw [if_neg (fun e => h e.1.symm)]; rfl
theorem Cs_90 {A : List Nat} {n : Nat} {X : XS} : Cs (n :: A, (90, 0) :: ids1) X = ct (n :: A, (90, 0) :: ids1) X 90 0 :: ids1.map (fun i => ct (A, ids1) X i.1 i.2) := by
  have e : ids1.map (fun i => ct (n :: A, (90, 0) :: ids1) X i.1 i.2) = ids1.map (fun i => ct (A, ids1) X i.1 i.2) := List.map_congr_left (fun i hi => by
    unfold ct
    exact ctE_90 (fun s k h => Ad_90 h) (ids1_ok i hi))
  rw [← e]; rfl
theorem ex_fresh (A : List Nat) : ∃ n, n ∉ A := by
  have h : ∀ (A : List Nat), ∃ m, ∀ x ∈ A, x < m := fun A => by
    induction A with
    | nil => exact ⟨0, fun x hx => by cases hx⟩
    | cons a A ih =>
      obtain ⟨m, hm⟩ := ih
      refine ⟨m + a + 1, fun x hx => ?_⟩
      rcases List.mem_cons.mp hx with e | e
      · omega
      · have := hm x e; omega
  obtain ⟨m, hm⟩ := h A
  exact ⟨m, fun e => by have := hm m e; omega⟩
