/-! THE LAYOUT: Y = addresses and ids (sort, index), oldest first; X = ints of objects, rows of ints, rows of longs (and long fields), which ship is which, which images are there -/
abbrev YS : Type := List Nat × List (Nat × Nat)
abbrev XS : Type := (Nat → Nat → Nat → Int) × (Nat → Nat → Int → Int) × (Nat → Nat → Int → Int64) × (Nat → Nat) × (Nat → Bool)
def XF (X : XS) := X.1
def XR (X : XS) := X.2.1
def XJ (X : XS) := X.2.2.1
def XP (X : XS) := X.2.2.2.1
def XM (X : XS) := X.2.2.2.2
def up3 (F : Nat → Nat → Nat → Int) (s k f : Nat) (v : Int) : Nat → Nat → Nat → Int := fun s' k' f' => if s' = s ∧ k' = k ∧ f' = f then v else F s' k' f'
def up2 {α : Type} (R : Nat → Nat → α) (s k : Nat) (r : α) : Nat → Nat → α := fun s' k' => if s' = s ∧ k' = k then r else R s' k'
def upi {α : Type} (r : Int → α) (i : Int) (v : α) : Int → α := fun j => if j = i then v else r j
def sF (X : XS) (s k f : Nat) (v : Int) : XS := (up3 X.1 s k f v, X.2)
def sR (X : XS) (s k : Nat) (r : Int → Int) : XS := (X.1, up2 X.2.1 s k r, X.2.2)
def sJ (X : XS) (s k : Nat) (r : Int → Int64) : XS := (X.1, X.2.1, up2 X.2.2.1 s k r, X.2.2.2)
def sP (X : XS) (i v : Nat) : XS := (X.1, X.2.1, X.2.2.1, (fun j => if j = i then v else X.2.2.2.1 j), X.2.2.2.2)
def sG (X : XS) (i : Nat) (v : Bool) : XS := (X.1, X.2.1, X.2.2.1, X.2.2.2.1, (fun j => if j = i then v else X.2.2.2.2 j))
def lkA : List Nat → List (Nat × Nat) → Nat → Nat → Nat
  | a :: L, i :: N, s, k => if i.1 = s ∧ i.2 = k then a else lkA L N s k
  | _, _, _, _ => 0
def Ad (Y : YS) (s k : Nat) : Nat := lkA Y.1 Y.2 s k
def shs (k : Nat) : Nat := if k < 10 then 0 else k - 8
def ctE (Y : YS) (s k : Nat) (F : Nat → Int) (R : Int → Int) (J : Int → Int64) (P : Nat → Nat) (M : Nat → Bool) : HE := match s with
  | 0 => .inr (0, [.ref (Ad Y 6 0), .ref (Ad Y 49 0)])
  | 1 => .inr (1, [.ref (Ad Y 6 (k + 2)), .ref (Ad Y 10 (k + 10)), .ref (Ad Y 8 (k + 2))])
  | 2 => .inr (2, [.ref (Ad Y 4 0), .ref (Ad Y 3 0), .ref (Ad Y 40 0), .ref (Ad Y 41 0), .ref (Ad Y 42 0), .int (iI (F 5)), .int (iI (F 6)), .int (iI (F 7)), .int (iI (F 8)), .int (iI (F 9)), .int (iI (F 10))])
  | 3 => .inr (3, [.ref (Ad Y 22 k), .ref (Ad Y 23 k), .ref (Ad Y 24 k), .int (iI (F 3))])
  | 4 => .inr (4, [.ref (Ad Y 20 0), .ref (Ad Y 21 0), .int (iI (F 2)), .int (iI (F 3)), .int (iI (F 4)), .int (iI (F 5)), .int (iI (F 6)), .long (J 7), .int (iI (F 8)), .int (iI (F 9)), .int (iI (F 10)), .int (iI (F 11))])
  | 5 => .inr (5, [.ref (Ad Y 6 0), .ref (Ad Y 20 0), .ref (Ad Y 50 0)])
  | 6 => .inr (6, [.ref (Ad Y 3 k), .ref (Ad Y 25 k), .int (iI (F 2)), .ref (Ad Y 26 k), .ref (Ad Y 27 k), .ref (Ad Y 28 k), .ref (Ad Y 29 k), .ref (Ad Y 30 k), .ref (Ad Y 31 k), .ref (Ad Y 32 k), .ref (Ad Y 33 k), .ref (Ad Y 34 k), .ref (Ad Y 35 k)])
  | 7 => .inr (7, [.ref (Ad Y 4 0), .ref (Ad Y 6 1), .int (iI (F 2))])
  | 8 => .inr (8, [.ref (Ad Y 36 k), .ref (Ad Y 37 k), .ref (Ad Y 38 k), .int (iI (F 3)), .ref (Ad Y 39 k)])
  | 9 => .inr (9, [.ref (Ad Y 4 0), .ref (Ad Y 3 0), .ref (Ad Y 8 1), .int (iI (F 3))])
  | 10 => .inr (10, [.ref (Ad Y 6 (shs k)), .int (iI (F 1)), .int (iI (F 2)), .int (iI (F 3)), .int (iI (F 4)), .int (iI (F 5)), .int (iI (F 6)), .int (iI (F 7)), .int (iI (F 8)), .ref (Ad Y 43 k), .ref (Ad Y 44 k), .ref (Ad Y 45 k), .ref (Ad Y 46 k), .int (iI (F 13))])
  | 11 => .inr (11, [.ref (Ad Y 20 0), .int (iI (F 1)), .ref (Ad Y 4 0), .int (iI (F 3)), .ref (Ad Y 6 0), .ref (Ad Y 6 1), .ref (Ad Y 7 0), .ref (Ad Y 8 0), .ref (Ad Y 8 1), .ref (Ad Y 9 0), .ref (Ad Y 2 0), .ref (Ad Y 10 (P 0)), .ref (Ad Y 10 (P 1)), .ref (Ad Y 47 0), .int (iI (F 14)), .ref (Ad Y 48 0), .ref (Ad Y 0 0), .ref (Ad Y 5 0)])
  | 12 => .inr (12, [.int (iI (F 0)), .ref (Ad Y 60 0), .int (iI (F 2)), .int (iI (F 3)), .int (iI (F 4)), .int (iI (F 5)), .ref (Ad Y 61 0), .ref (Ad Y 62 0), .ref (Ad Y 63 0), .ref (Ad Y 64 0), .ref (Ad Y 65 0), .int (iI (F 11)), .int (iI (F 12)), .int (iI (F 13)), .int (iI (F 14)), .int (iI (F 15)), .int (iI (F 16)), .long (J 17), .int (iI (F 18)), .int (iI (F 19)), .int (iI (F 20)), .ref (Ad Y 66 0), .ref (Ad Y 67 0), .ref (Ad Y 68 0), .ref (Ad Y 69 0), .ref (Ad Y 70 0), .int (iI (F 26)), .ref (Ad Y 71 0), .ref (Ad Y 72 0), .int (iI (F 29)), .ref (Ad Y 73 0), .ref (Ad Y 74 0), .ref (Ad Y 75 0), .int (iI (F 33)), .int (iI (F 34)), .int (iI (F 35)), .int (iI (F 36)), .ref (Ad Y 76 0), .int (iI (F 38)), .ref (Ad Y 77 0), .int (iI (F 40)), .int (iI (F 41)), .int (iI (F 42)), .int (iI (F 43)), .int (iI (F 44)), .ref (Ad Y 78 0), .ref (Ad Y 79 0), .ref (Ad Y 80 0), .ref (Ad Y 81 0)])
  | 47 => .inl (5, (8, .inr (.inr (.inr (.inr (fun i => if i < 8 then some (Ad Y 10 (P (i + 2))) else none))))))
  | 48 => .inl (4, (2, .inr (.inr (.inr (.inr (fun i => if M i = true then some (Ad Y 1 i) else none))))))
  | 20 => .inl (0, (940, .inl (fun j => iI (R (j : Int)))))
  | 21 => .inl (2, (27, .inr (.inl (fun j => J (j : Int)))))
  | 22 => .inl (2, (30, .inr (.inl (fun j => J (j : Int)))))
  | 23 => .inl (1, (30, .inl (fun j => iI (R (j : Int)))))
  | 24 => .inl (1, (30, .inl (fun j => iI (R (j : Int)))))
  | 25 => .inl (1, (7, .inl (fun j => iI (R (j : Int)))))
  | 26 => .inl (1, (64, .inl (fun j => iI (R (j : Int)))))
  | 27 => .inl (1, (64, .inl (fun j => iI (R (j : Int)))))
  | 28 => .inl (1, (64, .inl (fun j => iI (R (j : Int)))))
  | 29 => .inl (1, (64, .inl (fun j => iI (R (j : Int)))))
  | 30 => .inl (1, (64, .inl (fun j => iI (R (j : Int)))))
  | 31 => .inl (1, (8, .inl (fun j => iI (R (j : Int)))))
  | 32 => .inl (1, (16, .inl (fun j => iI (R (j : Int)))))
  | 33 => .inl (1, (8, .inl (fun j => iI (R (j : Int)))))
  | 34 => .inl (1, (64, .inl (fun j => iI (R (j : Int)))))
  | 35 => .inl (1, (64, .inl (fun j => iI (R (j : Int)))))
  | 36 => .inl (1, (40, .inl (fun j => iI (R (j : Int)))))
  | 37 => .inl (1, (40, .inl (fun j => iI (R (j : Int)))))
  | 38 => .inl (1, (40, .inl (fun j => iI (R (j : Int)))))
  | 39 => .inl (1, (40, .inl (fun j => iI (R (j : Int)))))
  | 40 => .inl (1, (40, .inl (fun j => iI (R (j : Int)))))
  | 41 => .inl (1, (40, .inl (fun j => iI (R (j : Int)))))
  | 42 => .inl (1, (40, .inl (fun j => iI (R (j : Int)))))
  | 43 => .inl (1, (8, .inl (fun j => iI (R (j : Int)))))
  | 44 => .inl (1, (8, .inl (fun j => iI (R (j : Int)))))
  | 45 => .inl (1, (8, .inl (fun j => iI (R (j : Int)))))
  | 46 => .inl (1, (64, .inl (fun j => iI (R (j : Int)))))
  | 49 => .inl (1, (8, .inl (fun j => iI (R (j : Int)))))
  | 50 => .inl (1, (10, .inl (fun j => iI (R (j : Int)))))
  | 60 => .inl (0, (940, .inl (fun j => iI (R (j : Int)))))
  | 61 => .inl (1, (646, .inl (fun j => iI (R (j : Int)))))
  | 62 => .inl (1, (312, .inl (fun j => iI (R (j : Int)))))
  | 63 => .inl (1, (135, .inl (fun j => iI (R (j : Int)))))
  | 64 => .inl (2, (60, .inr (.inl (fun j => J (j : Int)))))
  | 65 => .inl (2, (27, .inr (.inl (fun j => J (j : Int)))))
  | 66 => .inl (1, (64, .inl (fun j => iI (R (j : Int)))))
  | 67 => .inl (1, (64, .inl (fun j => iI (R (j : Int)))))
  | 68 => .inl (1, (6, .inl (fun j => iI (R (j : Int)))))
  | 69 => .inl (1, (6, .inl (fun j => iI (R (j : Int)))))
  | 70 => .inl (1, (1792, .inl (fun j => iI (R (j : Int)))))
  | 71 => .inl (1, (1224, .inl (fun j => iI (R (j : Int)))))
  | 72 => .inl (1, (153, .inl (fun j => iI (R (j : Int)))))
  | 73 => .inl (1, (8, .inl (fun j => iI (R (j : Int)))))
  | 74 => .inl (1, (1024, .inl (fun j => iI (R (j : Int)))))
  | 75 => .inl (1, (1024, .inl (fun j => iI (R (j : Int)))))
  | 76 => .inl (1, (4, .inl (fun j => iI (R (j : Int)))))
  | 77 => .inl (1, (45, .inl (fun j => iI (R (j : Int)))))
  | 78 => .inl (3, (45, .inl (fun j => iI (R (j : Int)))))
  | 79 => .inl (1, (1292, .inl (fun j => iI (R (j : Int)))))
  | 80 => .inl (2, (60, .inr (.inl (fun j => J (j : Int)))))
  | 81 => .inl (3, (2, .inl (fun j => iI (R (j : Int)))))
  | 90 => .inl (2, (1, .inr (.inl (fun j => J (j : Int)))))
  | _ => dead
def ct (Y : YS) (X : XS) (s k : Nat) : HE := ctE Y s k (XF X s k) (XR X s k) (XJ X s k) (if s = 11 ∨ s = 47 then XP X else fun _ => 0) (if s = 48 then XM X else fun _ => false)
def Cs (Y : YS) (X : XS) : List HE := Y.2.map (fun i => ct Y X i.1 i.2)
def hp (Y : YS) (X : XS) : Hp := Mk Y.1 (Cs Y X)
def idl0 : List (Nat × Nat) := [(0, 0), (2, 0), (4, 0), (5, 0), (7, 0), (9, 0), (11, 0), (12, 0), (20, 0), (21, 0), (40, 0), (41, 0), (42, 0), (49, 0), (50, 0), (60, 0), (61, 0), (62, 0), (63, 0), (64, 0), (65, 0), (66, 0), (67, 0), (68, 0), (69, 0), (70, 0), (71, 0), (72, 0), (73, 0), (74, 0), (75, 0), (76, 0), (77, 0), (78, 0), (79, 0), (80, 0), (81, 0), (90, 0), (47, 0), (48, 0), (3, 0), (6, 0), (22, 0), (23, 0), (24, 0), (25, 0), (26, 0), (27, 0), (28, 0), (29, 0), (30, 0), (31, 0), (32, 0), (33, 0), (34, 0), (35, 0), (3, 1), (6, 1), (22, 1), (23, 1), (24, 1), (25, 1), (26, 1), (27, 1), (28, 1), (29, 1), (30, 1), (31, 1), (32, 1), (33, 1), (34, 1), (35, 1), (10, 0), (43, 0), (44, 0), (45, 0), (46, 0), (10, 1), (43, 1), (44, 1), (45, 1), (46, 1), (10, 2), (43, 2), (44, 2), (45, 2), (46, 2), (10, 3), (43, 3), (44, 3), (45, 3), (46, 3), (10, 4), (43, 4), (44, 4), (45, 4), (46, 4), (10, 5), (43, 5), (44, 5), (45, 5), (46, 5), (10, 6), (43, 6), (44, 6), (45, 6), (46, 6), (10, 7), (43, 7), (44, 7), (45, 7), (46, 7), (10, 8), (43, 8), (44, 8), (45, 8), (46, 8), (10, 9), (43, 9), (44, 9), (45, 9), (46, 9), (8, 0), (36, 0), (37, 0), (38, 0), (39, 0), (8, 1), (36, 1), (37, 1), (38, 1), (39, 1)]
def okS : List Nat := [0, 1, 2, 3, 4, 5, 6, 7, 8, 9, 10, 11, 12, 47, 48, 20, 21, 22, 23, 24, 25, 26, 27, 28, 29, 30, 31, 32, 33, 34, 35, 36, 37, 38, 39, 40, 41, 42, 43, 44, 45, 46, 49, 50, 60, 61, 62, 63, 64, 65, 66, 67, 68, 69, 70, 71, 72, 73, 74, 75, 76, 77, 78, 79, 80, 81, 90]
def GY (Y : YS) : Prop := Y.1.length = Y.2.length ∧ Y.1.Nodup ∧ Y.2.Nodup ∧ (∀ i ∈ idl0, i ∈ Y.2) ∧ ∀ i ∈ Y.2, i.1 ∈ okS
def SeO (Y : YS) (k : Nat) : Prop := GY Y ∧ ∀ s ∈ [3, 6, 22, 23, 24, 25, 26, 27, 28, 29, 30, 31, 32, 33, 34, 35], (s, k) ∈ Y.2
def ShO (Y : YS) (k : Nat) : Prop := GY Y ∧ ∀ s ∈ [10, 43, 44, 45, 46], (s, k) ∈ Y.2
def StO (Y : YS) (k : Nat) : Prop := GY Y ∧ ∀ s ∈ [8, 36, 37, 38, 39], (s, k) ∈ Y.2
def ImO (Y : YS) (k : Nat) : Prop := GY Y ∧ (1, k) ∈ Y.2
theorem ct_congr {Y : YS} {X X' : XS} {s k : Nat} (h1 : XF X' s k = XF X s k) (h2 : XR X' s k = XR X s k) (h3 : XJ X' s k = XJ X s k) (h4 : s = 11 ∨ s = 47 → XP X' = XP X) (h5 : s = 48 → XM X' = XM X) : ct Y X' s k = ct Y X s k := by
  unfold ct
  rw [h1, h2, h3]
  have e4 : (if s = 11 ∨ s = 47 then XP X' else fun _ => 0) = (if s = 11 ∨ s = 47 then XP X else fun _ => 0) := by
    by_cases h : s = 11 ∨ s = 47
    · rw [if_pos h, if_pos h, h4 h]
    · rw [if_neg h, if_neg h]
  have e5 : (if s = 48 then XM X' else fun _ => false) = (if s = 48 then XM X else fun _ => false) := by
    by_cases h : s = 48
    · rw [if_pos h, if_pos h, h5 h]
    · rw [if_neg h, if_neg h]
  rw [e4, e5]
theorem XF_sF (X : XS) (s k f : Nat) (v : Int) (s' k' f' : Nat) : XF (sF X s k f v) s' k' f' = if s' = s ∧ k' = k ∧ f' = f then v else XF X s' k' f' := rfl
theorem XF_sR (X : XS) (s k : Nat) (r : Int → Int) (s' k' f' : Nat) : XF (sR X s k r) s' k' f' = XF X s' k' f' := rfl
theorem XF_sJ (X : XS) (s k : Nat) (r : Int → Int64) (s' k' f' : Nat) : XF (sJ X s k r) s' k' f' = XF X s' k' f' := rfl
theorem XF_sP (X : XS) (i v : Nat) (s' k' f' : Nat) : XF (sP X i v) s' k' f' = XF X s' k' f' := rfl
theorem XF_sG (X : XS) (i : Nat) (v : Bool) (s' k' f' : Nat) : XF (sG X i v) s' k' f' = XF X s' k' f' := rfl
theorem XR_sF (X : XS) (s k f : Nat) (v : Int) (s' k' : Nat) : XR (sF X s k f v) s' k' = XR X s' k' := rfl
theorem XR_sR (X : XS) (s k : Nat) (r : Int → Int) (s' k' : Nat) : XR (sR X s k r) s' k' = if s' = s ∧ k' = k then r else XR X s' k' := rfl
theorem XR_sJ (X : XS) (s k : Nat) (r : Int → Int64) (s' k' : Nat) : XR (sJ X s k r) s' k' = XR X s' k' := rfl
theorem XR_sP (X : XS) (i v : Nat) (s' k' : Nat) : XR (sP X i v) s' k' = XR X s' k' := rfl
theorem XR_sG (X : XS) (i : Nat) (v : Bool) (s' k' : Nat) : XR (sG X i v) s' k' = XR X s' k' := rfl
theorem XJ_sF (X : XS) (s k f : Nat) (v : Int) (s' k' : Nat) : XJ (sF X s k f v) s' k' = XJ X s' k' := rfl
theorem XJ_sR (X : XS) (s k : Nat) (r : Int → Int) (s' k' : Nat) : XJ (sR X s k r) s' k' = XJ X s' k' := rfl
theorem XJ_sJ (X : XS) (s k : Nat) (r : Int → Int64) (s' k' : Nat) : XJ (sJ X s k r) s' k' = if s' = s ∧ k' = k then r else XJ X s' k' := rfl
theorem XJ_sP (X : XS) (i v : Nat) (s' k' : Nat) : XJ (sP X i v) s' k' = XJ X s' k' := rfl
theorem XJ_sG (X : XS) (i : Nat) (v : Bool) (s' k' : Nat) : XJ (sG X i v) s' k' = XJ X s' k' := rfl
theorem XP_sF (X : XS) (s k f : Nat) (v : Int) : XP (sF X s k f v) = XP X := rfl
theorem XP_sR (X : XS) (s k : Nat) (r : Int → Int) : XP (sR X s k r) = XP X := rfl
theorem XP_sJ (X : XS) (s k : Nat) (r : Int → Int64) : XP (sJ X s k r) = XP X := rfl
theorem XP_sP (X : XS) (i v j : Nat) : XP (sP X i v) j = if j = i then v else XP X j := rfl
theorem XP_sG (X : XS) (i : Nat) (v : Bool) : XP (sG X i v) = XP X := rfl
theorem XM_sF (X : XS) (s k f : Nat) (v : Int) : XM (sF X s k f v) = XM X := rfl
theorem XM_sR (X : XS) (s k : Nat) (r : Int → Int) : XM (sR X s k r) = XM X := rfl
theorem XM_sJ (X : XS) (s k : Nat) (r : Int → Int64) : XM (sJ X s k r) = XM X := rfl
theorem XM_sP (X : XS) (i v : Nat) : XM (sP X i v) = XM X := rfl
theorem XM_sG (X : XS) (i : Nat) (v : Bool) (j : Nat) : XM (sG X i v) j = if j = i then v else XM X j := rfl
theorem upi_at {α : Type} (r : Int → α) (i : Int) (v : α) (j : Int) : upi r i v j = if j = i then v else r j := rfl
theorem lkA_get : ∀ (L : List Nat) (N : List (Nat × Nat)) (s k : Nat), L.length = N.length → (s, k) ∈ N → ∃ i : Nat, L[i]? = some (lkA L N s k) ∧ N[i]? = some (s, k)
  | [], [], _, _, _, h => by simp at h
  | [], _ :: _, _, _, h, _ => by simp at h
  | _ :: _, [], _, _, h, _ => by simp at h
  | a :: L, j :: N, s, k, hl, hm => by
    by_cases e : j.1 = s ∧ j.2 = k
    · exact ⟨0, by simp [lkA, e], by simp [← e.1, ← e.2]⟩
    · have hm' : (s, k) ∈ N := by
        rcases List.mem_cons.mp hm with q | q
        · exact absurd (by rw [← q]; exact ⟨rfl, rfl⟩) e
        · exact q
      obtain ⟨i, h1, h2⟩ := lkA_get L N s k (by simpa using hl) hm'
      exact ⟨i + 1, by simp [lkA, e, h1], by simp [h2]⟩
theorem nd_ct {Y : YS} {X : XS} {s k : Nat} (h : s ∈ okS) : ct Y X s k ≠ dead := by
  simp only [okS, List.mem_cons, List.not_mem_nil, or_false] at h
  unfold ct
  rcases h with h | h | h | h | h | h | h | h | h | h | h | h | h | h | h | h | h | h | h | h | h | h | h | h | h | h | h | h | h | h | h | h | h | h | h | h | h | h | h | h | h | h | h | h | h | h | h | h | h | h | h | h | h | h | h | h | h | h | h | h | h | h | h | h | h | h | h
  all_goals (subst h; intro q; unfold ctE dead at q; first | (cases q; done) | (have := congrArg Prod.fst (Sum.inr.inj q); simp at this))
theorem gd_Y {Y : YS} (g : GY Y) (X : XS) : Gd Y.1 (Cs Y X) := by
  refine ⟨by simp [Cs, g.1], g.2.1, fun x hx => ?_⟩
  obtain ⟨i, hi, rfl⟩ := List.mem_map.mp hx
  exact nd_ct (g.2.2.2.2 i hi)
theorem hp_at {Y : YS} (g : GY Y) {X : XS} {s k : Nat} (hm : (s, k) ∈ Y.2) : hp Y X (Ad Y s k) = ct Y X s k := by
  obtain ⟨i, h1, h2⟩ := lkA_get Y.1 Y.2 s k g.1 hm
  exact mk_at (gd_Y g X) h1 (by simp [Cs, h2])
theorem nd_get {α : Type} {N : List α} (hn : N.Nodup) {i j : Nat} {x : α} (h1 : N[i]? = some x) (h2 : N[j]? = some x) : i = j := by
  have hi := (List.getElem?_eq_some_iff.mp h1).1
  exact (List.getElem?_inj hi hn).mp (h1.trans h2.symm)
theorem hp_up {Y : YS} (g : GY Y) {X X' : XS} {s k : Nat} (hm : (s, k) ∈ Y.2) (h : ∀ s' k', ¬ (s' = s ∧ k' = k) → ct Y X' s' k' = ct Y X s' k') : va_up (hp Y X) (Ad Y s k) (ct Y X' s k) = hp Y X' := by
  obtain ⟨i, h1, h2⟩ := lkA_get Y.1 Y.2 s k g.1 hm
  unfold hp
  rw [show Ad Y s k = lkA Y.1 Y.2 s k from rfl, mk_set (gd_Y g X) h1]
  congr 1
  apply List.ext_getElem?
  intro j
  by_cases hj : j = i
  · subst hj
    have hlt : j < (Cs Y X).length := by simp [Cs, (List.getElem?_eq_some_iff.mp h2).1]
    rw [List.getElem?_set_self hlt]
    simp [Cs, h2]
  · rw [List.getElem?_set_ne (Ne.symm hj)]
    simp only [Cs, List.getElem?_map]
    cases hx : Y.2[j]? with
    | none => rfl
    | some x =>
      simp only [Option.map_some, Option.some.injEq]
      refine (h x.1 x.2 fun q => hj ?_).symm
      exact nd_get g.2.2.1 (x := (s, k)) (by rw [hx, ← q.1, ← q.2]) h2
theorem ck_Y {Y : YS} {X : XS} {s k c : Nat} {fs : List Value} (g : GY Y) (hm : (s, k) ∈ Y.2) (h1 : ct Y X s k = .inr (c, fs)) : ckO c (hp Y X) (Ad Y s k) = some fs := ckO_e (by rw [hp_at g hm, h1])
theorem gI_Y {Y : YS} {X : XS} {s k c f : Nat} {fs : List Value} {v : Int32} (g : GY Y) (hm : (s, k) ∈ Y.2) (h1 : ct Y X s k = .inr (c, fs)) (h2 : fs[f]? = some (.int v)) : gfI c f (hp Y X) (Ad Y s k) = some v := gfI_e (by rw [hp_at g hm, h1]) h2
theorem gJ_Y {Y : YS} {X : XS} {s k c f : Nat} {fs : List Value} {v : Int64} (g : GY Y) (hm : (s, k) ∈ Y.2) (h1 : ct Y X s k = .inr (c, fs)) (h2 : fs[f]? = some (.long v)) : gfJ c f (hp Y X) (Ad Y s k) = some v := gfJ_e (by rw [hp_at g hm, h1]) h2
theorem gN_Y {Y : YS} {X : XS} {s k c f : Nat} {fs : List Value} {v : Nat} (g : GY Y) (hm : (s, k) ∈ Y.2) (h1 : ct Y X s k = .inr (c, fs)) (h2 : fs[f]? = some (.ref v)) : gfN c f (hp Y X) (Ad Y s k) = some v := gfN_e (by rw [hp_at g hm, h1]) h2
theorem pf_Y {Y : YS} {X X' : XS} {s k c f : Nat} {fs fs' : List Value} {v : Value} (g : GY Y) (hm : (s, k) ∈ Y.2) (h1 : ct Y X s k = .inr (c, fs)) (hf : f < fs.length) (h2 : ct Y X' s k = .inr (c, fs')) (h4 : fs' = fs.set f v) (h3 : ∀ s' k', ¬ (s' = s ∧ k' = k) → ct Y X' s' k' = ct Y X s' k') : pf c f (hp Y X) (Ad Y s k) v = some (hp Y X') := by
  rw [pf_e (by rw [hp_at g hm, h1]) hf, ← h4, ← h2, hp_up g hm h3]
theorem ot_F {Y : YS} {X : XS} {s k f : Nat} {v : Int} : ∀ s' k', ¬ (s' = s ∧ k' = k) → ct Y (sF X s k f v) s' k' = ct Y X s' k' := fun s' k' h => ct_congr (funext fun f' => by rw [XF_sF, if_neg (fun q => h ⟨q.1, q.2.1⟩)]) rfl rfl (fun _ => rfl) (fun _ => rfl)
theorem ot_R {Y : YS} {X : XS} {s k : Nat} {r : Int → Int} : ∀ s' k', ¬ (s' = s ∧ k' = k) → ct Y (sR X s k r) s' k' = ct Y X s' k' := fun s' k' h => ct_congr rfl (by rw [XR_sR, if_neg h]) rfl (fun _ => rfl) (fun _ => rfl)
theorem ot_J {Y : YS} {X : XS} {s k : Nat} {r : Int → Int64} : ∀ s' k', ¬ (s' = s ∧ k' = k) → ct Y (sJ X s k r) s' k' = ct Y X s' k' := fun s' k' h => ct_congr rfl rfl (by rw [XJ_sJ, if_neg h]) (fun _ => rfl) (fun _ => rfl)
theorem cast_upd {r : Int → Int} {i v : Int} (h0 : 0 ≤ i) : upd (fun j : Nat => iI (r (j : Int))) i.toNat (iI v) = fun j : Nat => iI (upi r i v (j : Int)) := by
  funext j
  by_cases h : j = i.toNat
  · have : (j : Int) = i := by omega
    subst h
    simp [upd, upi, this]
  · have : ¬ (j : Int) = i := by omega
    simp [upd, upi, h, this]
theorem cast_updJ {r : Int → Int64} {i : Int} {v : Int64} (h0 : 0 ≤ i) : vp_updL (fun j : Nat => r (j : Int)) i.toNat v = fun j : Nat => upi r i v (j : Int) := by
  funext j
  by_cases h : j = i.toNat
  · have : (j : Int) = i := by omega
    subst h
    simp [vp_updL, upi, this]
  · have : ¬ (j : Int) = i := by omega
    simp [vp_updL, upi, h, this]
theorem ld_Y {Y : YS} {X : XS} {s k t n : Nat} {i : Int} (g : GY Y) (hm : (s, k) ∈ Y.2) (h1 : ct Y X s k = .inl (t, (n, .inl (fun j => iI (XR X s k (j : Int)))))) (hn : n < 2147483648) (h0 : 0 ≤ i) (hi : i < (n : Int)) : ldI t (hp Y X) (Ad Y s k) (iI i) = some (iI (XR X s k i)) := by
  simp only [ldI, alI, al, hp_at g hm, h1, if_pos, Option.bind_some, inB_i h0 hi hn, if_true, iI_clamp h0 (by omega)]
  rw [show ((i.toNat : Nat) : Int) = i by omega]
theorem ldJ_Y {Y : YS} {X : XS} {s k n : Nat} {i : Int} (g : GY Y) (hm : (s, k) ∈ Y.2) (h1 : ct Y X s k = .inl (2, (n, .inr (.inl (fun j => XJ X s k (j : Int)))))) (hn : n < 2147483648) (h0 : 0 ≤ i) (hi : i < (n : Int)) : ldJ 2 (hp Y X) (Ad Y s k) (iI i) = some (XJ X s k i) := by
  simp only [ldJ, alJ, al, hp_at g hm, h1, if_pos, Option.bind_some, inB_i h0 hi hn, if_true, iI_clamp h0 (by omega)]
  rw [show ((i.toNat : Nat) : Int) = i by omega]
theorem aln_Y {Y : YS} {X : XS} {s k t n : Nat} {x : (Nat → Int32) ⊕ _} (g : GY Y) (hm : (s, k) ∈ Y.2) (h1 : ct Y X s k = .inl (t, (n, x))) : aln t (hp Y X) (Ad Y s k) = some (iI (n : Int)) := by
  simp [aln, al, hp_at g hm, h1, iI_nat]
theorem st_Y {Y : YS} {X : XS} {s k t n : Nat} {i v : Int} (g : GY Y) (hm : (s, k) ∈ Y.2) (h1 : ∀ X, ct Y X s k = .inl (t, (n, .inl (fun j => iI (XR X s k (j : Int)))))) (hn : n < 2147483648) (h0 : 0 ≤ i) (hi : i < (n : Int)) : stI t (hp Y X) (Ad Y s k) (iI i) (iI v) = some (hp Y (sR X s k (upi (XR X s k) i v))) := by
  simp only [stI, alI, al, hp_at g hm, h1, if_pos, Option.bind_some, inB_i h0 hi hn, if_true, iI_clamp h0 (by omega), Option.some.injEq]
  rw [cast_upd h0]
  have e := h1 (sR X s k (upi (XR X s k) i v))
  rw [XR_sR, if_pos ⟨rfl, rfl⟩] at e
  rw [← e, hp_up g hm ot_R]
theorem stB_Y {Y : YS} {X : XS} {s k t n : Nat} {i : Int} {v : Int32} (g : GY Y) (hm : (s, k) ∈ Y.2) (h1 : ∀ X, ct Y X s k = .inl (t, (n, .inl (fun j => iI (XR X s k (j : Int)))))) (hn : n < 2147483648) (h0 : 0 ≤ i) (hi : i < (n : Int)) : stB t (hp Y X) (Ad Y s k) (iI i) v = some (hp Y (sR X s k (upi (XR X s k) i (vp_nar .byte v).toInt))) := by
  simp only [stB, alI, al, hp_at g hm, h1, if_pos, Option.bind_some, inB_i h0 hi hn, if_true, iI_clamp h0 (by omega), Option.some.injEq]
  rw [← iI_of (vp_nar .byte v), cast_upd h0]
  have e := h1 (sR X s k (upi (XR X s k) i (vp_nar .byte v).toInt))
  rw [XR_sR, if_pos ⟨rfl, rfl⟩] at e
  rw [iI_of, ← e, hp_up g hm ot_R]
theorem stZ_Y {Y : YS} {X : XS} {s k t n : Nat} {i : Int} {v : Int32} (g : GY Y) (hm : (s, k) ∈ Y.2) (h1 : ∀ X, ct Y X s k = .inl (t, (n, .inl (fun j => iI (XR X s k (j : Int)))))) (hn : n < 2147483648) (h0 : 0 ≤ i) (hi : i < (n : Int)) : stZ t (hp Y X) (Ad Y s k) (iI i) v = some (hp Y (sR X s k (upi (XR X s k) i (vp_nar .boolean v).toInt))) := by
  simp only [stZ, alI, al, hp_at g hm, h1, if_pos, Option.bind_some, inB_i h0 hi hn, if_true, iI_clamp h0 (by omega), Option.some.injEq]
  rw [← iI_of (vp_nar .boolean v), cast_upd h0]
  have e := h1 (sR X s k (upi (XR X s k) i (vp_nar .boolean v).toInt))
  rw [XR_sR, if_pos ⟨rfl, rfl⟩] at e
  rw [iI_of, ← e, hp_up g hm ot_R]
theorem stJ_Y {Y : YS} {X : XS} {s k n : Nat} {i : Int} {v : Int64} (g : GY Y) (hm : (s, k) ∈ Y.2) (h1 : ∀ X, ct Y X s k = .inl (2, (n, .inr (.inl (fun j => XJ X s k (j : Int)))))) (hn : n < 2147483648) (h0 : 0 ≤ i) (hi : i < (n : Int)) : stJ 2 (hp Y X) (Ad Y s k) (iI i) v = some (hp Y (sJ X s k (upi (XJ X s k) i v))) := by
  simp only [stJ, alJ, al, hp_at g hm, h1, if_pos, Option.bind_some, inB_i h0 hi hn, if_true, iI_clamp h0 (by omega), Option.some.injEq]
  rw [cast_updJ h0]
  have e := h1 (sJ X s k (upi (XJ X s k) i v))
  rw [XJ_sJ, if_pos ⟨rfl, rfl⟩] at e
  rw [← e, hp_up g hm ot_J]
