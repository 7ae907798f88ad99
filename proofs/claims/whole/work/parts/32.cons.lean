theorem gd_cons {L : List Nat} {C : List HE} (g : Gd L C) {a : Nat} {x : HE} (ha : Mk L C a = dead) (hx : x ≠ dead) : Gd (a :: L) (x :: C) := by
  have hn := lk_dead L C a g.1 g.2.2 ha
  refine ⟨by simp [g.1], List.nodup_cons.mpr ⟨hn, g.2.1⟩, fun y hy => ?_⟩
  rcases List.mem_cons.mp hy with h | h
  · rw [h]; exact hx
  · exact g.2.2 y h
theorem mk_pf2 {L : List Nat} {C C2 : List HE} (g : Gd L C) (i : Nat) {a ci k : Nat} {fs : List Value} {v : Value} (h1 : L[i]? = some a) (h2 : C[i]? = some (.inr (ci, fs))) (hk : k < fs.length) (hC : C.set i (.inr (ci, fs.set k v)) = C2) : pf ci k (Mk L C) a v = some (Mk L C2) := by
  rw [mk_pf g i h1 h2 hk, hC]
abbrev zB (n : Nat) : HE := .inl (0, (n, .inl (fun _ => 0)))
theorem sw3 {f0 a i : Nat} {L : List Nat} {C : List HE} {K : Hp → Prop} (g : Gd L C) (h1 : L[i]? = some a) (h2 : C[i]? = some (.inr (3, dv3))) (kk : ∀ a1 a2 a3 : Nat, Gd (a3 :: a2 :: a1 :: L) (zI 30 :: zI 30 :: zJ 30 :: C.set i (.inr (3, [.ref a1, .ref a2, .ref a3, .int 0]))) → K (Mk (a3 :: a2 :: a1 :: L) (zI 30 :: zI 30 :: zJ 30 :: C.set i (.inr (3, [.ref a1, .ref a2, .ref a3, .int 0]))))) : wX3_init f0 a (Mk L C) K := by
  have hi : i < C.length := (List.getElem?_eq_some_iff.mp h2).1
  intro a1 da1
  have g2 : Gd (a1 :: L) (zJ 30 :: C) := gd_cons g da1 nd_a
  refine ⟨Mk (a1 :: L) (zJ 30 :: C.set i (.inr (3, [.ref a1, .null, .null, .int 0]))), mk_pf2 g2 (i + 1) (fs := dv3) (by simpa using h1) (by simpa using h2) (Nat.le_of_ble_eq_true rfl) (by simp [List.set_set, dv3]), ?_⟩
  have g4 : Gd (a1 :: L) (zJ 30 :: C.set i (.inr (3, [.ref a1, .null, .null, .int 0]))) := by
    have z := gd_set g2 (i + 1) (x := .inr (3, [.ref a1, .null, .null, .int 0])) (nd_o (by decide))
    simpa [List.set_set] using z
  intro a2 da2
  have g8 : Gd (a2 :: a1 :: L) (zI 30 :: zJ 30 :: C.set i (.inr (3, [.ref a1, .null, .null, .int 0]))) := gd_cons g4 da2 nd_a
  refine ⟨Mk (a2 :: a1 :: L) (zI 30 :: zJ 30 :: C.set i (.inr (3, [.ref a1, .ref a2, .null, .int 0]))), mk_pf2 g8 (i + 2) (fs := [.ref a1, .null, .null, .int 0]) (by simpa using h1) (by simp [hi]) (Nat.le_of_ble_eq_true rfl) (by simp [List.set_set, dv3]), ?_⟩
  have g10 : Gd (a2 :: a1 :: L) (zI 30 :: zJ 30 :: C.set i (.inr (3, [.ref a1, .ref a2, .null, .int 0]))) := by
    have z := gd_set g8 (i + 2) (x := .inr (3, [.ref a1, .ref a2, .null, .int 0])) (nd_o (by decide))
    simpa [List.set_set] using z
  intro a3 da3
  have g14 : Gd (a3 :: a2 :: a1 :: L) (zI 30 :: zI 30 :: zJ 30 :: C.set i (.inr (3, [.ref a1, .ref a2, .null, .int 0]))) := gd_cons g10 da3 nd_a
  refine ⟨Mk (a3 :: a2 :: a1 :: L) (zI 30 :: zI 30 :: zJ 30 :: C.set i (.inr (3, [.ref a1, .ref a2, .ref a3, .int 0]))), mk_pf2 g14 (i + 3) (fs := [.ref a1, .ref a2, .null, .int 0]) (by simpa using h1) (by simp [hi]) (Nat.le_of_ble_eq_true rfl) (by simp [List.set_set, dv3]), ?_⟩
  have g16 : Gd (a3 :: a2 :: a1 :: L) (zI 30 :: zI 30 :: zJ 30 :: C.set i (.inr (3, [.ref a1, .ref a2, .ref a3, .int 0]))) := by
    have z := gd_set g14 (i + 3) (x := .inr (3, [.ref a1, .ref a2, .ref a3, .int 0])) (nd_o (by decide))
    simpa [List.set_set] using z
  exact kk a1 a2 a3 g16
theorem sw8 {f0 a i : Nat} {L : List Nat} {C : List HE} {K : Hp → Prop} (g : Gd L C) (h1 : L[i]? = some a) (h2 : C[i]? = some (.inr (8, dv8))) (kk : ∀ a1 a2 a3 a4 : Nat, Gd (a4 :: a3 :: a2 :: a1 :: L) (zI 40 :: zI 40 :: zI 40 :: zI 40 :: C.set i (.inr (8, [.ref a1, .ref a2, .ref a3, .int 0, .ref a4]))) → K (Mk (a4 :: a3 :: a2 :: a1 :: L) (zI 40 :: zI 40 :: zI 40 :: zI 40 :: C.set i (.inr (8, [.ref a1, .ref a2, .ref a3, .int 0, .ref a4]))))) : wX8_init f0 a (Mk L C) K := by
  have hi : i < C.length := (List.getElem?_eq_some_iff.mp h2).1
  intro a1 da1
  have g2 : Gd (a1 :: L) (zI 40 :: C) := gd_cons g da1 nd_a
  refine ⟨Mk (a1 :: L) (zI 40 :: C.set i (.inr (8, [.ref a1, .null, .null, .int 0, .null]))), mk_pf2 g2 (i + 1) (fs := dv8) (by simpa using h1) (by simpa using h2) (Nat.le_of_ble_eq_true rfl) (by simp [List.set_set, dv8]), ?_⟩
  have g4 : Gd (a1 :: L) (zI 40 :: C.set i (.inr (8, [.ref a1, .null, .null, .int 0, .null]))) := by
    have z := gd_set g2 (i + 1) (x := .inr (8, [.ref a1, .null, .null, .int 0, .null])) (nd_o (by decide))
    simpa [List.set_set] using z
  intro a2 da2
  have g8 : Gd (a2 :: a1 :: L) (zI 40 :: zI 40 :: C.set i (.inr (8, [.ref a1, .null, .null, .int 0, .null]))) := gd_cons g4 da2 nd_a
  refine ⟨Mk (a2 :: a1 :: L) (zI 40 :: zI 40 :: C.set i (.inr (8, [.ref a1, .ref a2, .null, .int 0, .null]))), mk_pf2 g8 (i + 2) (fs := [.ref a1, .null, .null, .int 0, .null]) (by simpa using h1) (by simp [hi]) (Nat.le_of_ble_eq_true rfl) (by simp [List.set_set, dv8]), ?_⟩
  have g10 : Gd (a2 :: a1 :: L) (zI 40 :: zI 40 :: C.set i (.inr (8, [.ref a1, .ref a2, .null, .int 0, .null]))) := by
    have z := gd_set g8 (i + 2) (x := .inr (8, [.ref a1, .ref a2, .null, .int 0, .null])) (nd_o (by decide))
    simpa [List.set_set] using z
  intro a3 da3
  have g14 : Gd (a3 :: a2 :: a1 :: L) (zI 40 :: zI 40 :: zI 40 :: C.set i (.inr (8, [.ref a1, .ref a2, .null, .int 0, .null]))) := gd_cons g10 da3 nd_a
  refine ⟨Mk (a3 :: a2 :: a1 :: L) (zI 40 :: zI 40 :: zI 40 :: C.set i (.inr (8, [.ref a1, .ref a2, .ref a3, .int 0, .null]))), mk_pf2 g14 (i + 3) (fs := [.ref a1, .ref a2, .null, .int 0, .null]) (by simpa using h1) (by simp [hi]) (Nat.le_of_ble_eq_true rfl) (by simp [List.set_set, dv8]), ?_⟩
  have g16 : Gd (a3 :: a2 :: a1 :: L) (zI 40 :: zI 40 :: zI 40 :: C.set i (.inr (8, [.ref a1, .ref a2, .ref a3, .int 0, .null]))) := by
    have z := gd_set g14 (i + 3) (x := .inr (8, [.ref a1, .ref a2, .ref a3, .int 0, .null])) (nd_o (by decide))
    simpa [List.set_set] using z
  intro a4 da4
  have g20 : Gd (a4 :: a3 :: a2 :: a1 :: L) (zI 40 :: zI 40 :: zI 40 :: zI 40 :: C.set i (.inr (8, [.ref a1, .ref a2, .ref a3, .int 0, .null]))) := gd_cons g16 da4 nd_a
  refine ⟨Mk (a4 :: a3 :: a2 :: a1 :: L) (zI 40 :: zI 40 :: zI 40 :: zI 40 :: C.set i (.inr (8, [.ref a1, .ref a2, .ref a3, .int 0, .ref a4]))), mk_pf2 g20 (i + 4) (fs := [.ref a1, .ref a2, .ref a3, .int 0, .null]) (by simpa using h1) (by simp [hi]) (Nat.le_of_ble_eq_true rfl) (by simp [List.set_set, dv8]), ?_⟩
  have g22 : Gd (a4 :: a3 :: a2 :: a1 :: L) (zI 40 :: zI 40 :: zI 40 :: zI 40 :: C.set i (.inr (8, [.ref a1, .ref a2, .ref a3, .int 0, .ref a4]))) := by
    have z := gd_set g20 (i + 4) (x := .inr (8, [.ref a1, .ref a2, .ref a3, .int 0, .ref a4])) (nd_o (by decide))
    simpa [List.set_set] using z
  exact kk a1 a2 a3 a4 g22
theorem sw10 {f0 a i : Nat} {p0 : Nat} {L : List Nat} {C : List HE} {K : Hp → Prop} (g : Gd L C) (h1 : L[i]? = some a) (h2 : C[i]? = some (.inr (10, dv10))) (kk : ∀ a1 a2 a3 a4 : Nat, Gd (a4 :: a3 :: a2 :: a1 :: L) (zI 64 :: zI 8 :: zI 8 :: zI 8 :: C.set i (.inr (10, [.ref p0, .int 0, .int 0, .int 0, .int 0, .int 0, .int 0, .int 0, .int 0, .ref a1, .ref a2, .ref a3, .ref a4, .int 0]))) → K (Mk (a4 :: a3 :: a2 :: a1 :: L) (zI 64 :: zI 8 :: zI 8 :: zI 8 :: C.set i (.inr (10, [.ref p0, .int 0, .int 0, .int 0, .int 0, .int 0, .int 0, .int 0, .int 0, .ref a1, .ref a2, .ref a3, .ref a4, .int 0]))))) : wX10_init f0 a p0 (Mk L C) K := by
  have hi : i < C.length := (List.getElem?_eq_some_iff.mp h2).1
  intro a1 da1
  have g2 : Gd (a1 :: L) (zI 8 :: C) := gd_cons g da1 nd_a
  refine ⟨Mk (a1 :: L) (zI 8 :: C.set i (.inr (10, [.null, .int 0, .int 0, .int 0, .int 0, .int 0, .int 0, .int 0, .int 0, .ref a1, .null, .null, .null, .int 0]))), mk_pf2 g2 (i + 1) (fs := dv10) (by simpa using h1) (by simpa using h2) (Nat.le_of_ble_eq_true rfl) (by simp [List.set_set, dv10]), ?_⟩
  have g4 : Gd (a1 :: L) (zI 8 :: C.set i (.inr (10, [.null, .int 0, .int 0, .int 0, .int 0, .int 0, .int 0, .int 0, .int 0, .ref a1, .null, .null, .null, .int 0]))) := by
    have z := gd_set g2 (i + 1) (x := .inr (10, [.null, .int 0, .int 0, .int 0, .int 0, .int 0, .int 0, .int 0, .int 0, .ref a1, .null, .null, .null, .int 0])) (nd_o (by decide))
    simpa [List.set_set] using z
  intro a2 da2
  have g8 : Gd (a2 :: a1 :: L) (zI 8 :: zI 8 :: C.set i (.inr (10, [.null, .int 0, .int 0, .int 0, .int 0, .int 0, .int 0, .int 0, .int 0, .ref a1, .null, .null, .null, .int 0]))) := gd_cons g4 da2 nd_a
  refine ⟨Mk (a2 :: a1 :: L) (zI 8 :: zI 8 :: C.set i (.inr (10, [.null, .int 0, .int 0, .int 0, .int 0, .int 0, .int 0, .int 0, .int 0, .ref a1, .ref a2, .null, .null, .int 0]))), mk_pf2 g8 (i + 2) (fs := [.null, .int 0, .int 0, .int 0, .int 0, .int 0, .int 0, .int 0, .int 0, .ref a1, .null, .null, .null, .int 0]) (by simpa using h1) (by simp [hi]) (Nat.le_of_ble_eq_true rfl) (by simp [List.set_set, dv10]), ?_⟩
  have g10 : Gd (a2 :: a1 :: L) (zI 8 :: zI 8 :: C.set i (.inr (10, [.null, .int 0, .int 0, .int 0, .int 0, .int 0, .int 0, .int 0, .int 0, .ref a1, .ref a2, .null, .null, .int 0]))) := by
    have z := gd_set g8 (i + 2) (x := .inr (10, [.null, .int 0, .int 0, .int 0, .int 0, .int 0, .int 0, .int 0, .int 0, .ref a1, .ref a2, .null, .null, .int 0])) (nd_o (by decide))
    simpa [List.set_set] using z
  intro a3 da3
  have g14 : Gd (a3 :: a2 :: a1 :: L) (zI 8 :: zI 8 :: zI 8 :: C.set i (.inr (10, [.null, .int 0, .int 0, .int 0, .int 0, .int 0, .int 0, .int 0, .int 0, .ref a1, .ref a2, .null, .null, .int 0]))) := gd_cons g10 da3 nd_a
  refine ⟨Mk (a3 :: a2 :: a1 :: L) (zI 8 :: zI 8 :: zI 8 :: C.set i (.inr (10, [.null, .int 0, .int 0, .int 0, .int 0, .int 0, .int 0, .int 0, .int 0, .ref a1, .ref a2, .ref a3, .null, .int 0]))), mk_pf2 g14 (i + 3) (fs := [.null, .int 0, .int 0, .int 0, .int 0, .int 0, .int 0, .int 0, .int 0, .ref a1, .ref a2, .null, .null, .int 0]) (by simpa using h1) (by simp [hi]) (Nat.le_of_ble_eq_true rfl) (by simp [List.set_set, dv10]), ?_⟩
  have g16 : Gd (a3 :: a2 :: a1 :: L) (zI 8 :: zI 8 :: zI 8 :: C.set i (.inr (10, [.null, .int 0, .int 0, .int 0, .int 0, .int 0, .int 0, .int 0, .int 0, .ref a1, .ref a2, .ref a3, .null, .int 0]))) := by
    have z := gd_set g14 (i + 3) (x := .inr (10, [.null, .int 0, .int 0, .int 0, .int 0, .int 0, .int 0, .int 0, .int 0, .ref a1, .ref a2, .ref a3, .null, .int 0])) (nd_o (by decide))
    simpa [List.set_set] using z
  intro a4 da4
  have g20 : Gd (a4 :: a3 :: a2 :: a1 :: L) (zI 64 :: zI 8 :: zI 8 :: zI 8 :: C.set i (.inr (10, [.null, .int 0, .int 0, .int 0, .int 0, .int 0, .int 0, .int 0, .int 0, .ref a1, .ref a2, .ref a3, .null, .int 0]))) := gd_cons g16 da4 nd_a
  refine ⟨Mk (a4 :: a3 :: a2 :: a1 :: L) (zI 64 :: zI 8 :: zI 8 :: zI 8 :: C.set i (.inr (10, [.null, .int 0, .int 0, .int 0, .int 0, .int 0, .int 0, .int 0, .int 0, .ref a1, .ref a2, .ref a3, .ref a4, .int 0]))), mk_pf2 g20 (i + 4) (fs := [.null, .int 0, .int 0, .int 0, .int 0, .int 0, .int 0, .int 0, .int 0, .ref a1, .ref a2, .ref a3, .null, .int 0]) (by simpa using h1) (by simp [hi]) (Nat.le_of_ble_eq_true rfl) (by simp [List.set_set, dv10]), ?_⟩
  have g22 : Gd (a4 :: a3 :: a2 :: a1 :: L) (zI 64 :: zI 8 :: zI 8 :: zI 8 :: C.set i (.inr (10, [.null, .int 0, .int 0, .int 0, .int 0, .int 0, .int 0, .int 0, .int 0, .ref a1, .ref a2, .ref a3, .ref a4, .int 0]))) := by
    have z := gd_set g20 (i + 4) (x := .inr (10, [.null, .int 0, .int 0, .int 0, .int 0, .int 0, .int 0, .int 0, .int 0, .ref a1, .ref a2, .ref a3, .ref a4, .int 0])) (nd_o (by decide))
    simpa [List.set_set] using z
  refine ⟨Mk (a4 :: a3 :: a2 :: a1 :: L) (zI 64 :: zI 8 :: zI 8 :: zI 8 :: C.set i (.inr (10, [.ref p0, .int 0, .int 0, .int 0, .int 0, .int 0, .int 0, .int 0, .int 0, .ref a1, .ref a2, .ref a3, .ref a4, .int 0]))), mk_pf2 g22 (i + 4) (fs := [.null, .int 0, .int 0, .int 0, .int 0, .int 0, .int 0, .int 0, .int 0, .ref a1, .ref a2, .ref a3, .ref a4, .int 0]) (by simpa using h1) (by simp [hi]) (Nat.le_of_ble_eq_true rfl) (by simp [List.set_set, dv10]), ?_⟩
  have g26 : Gd (a4 :: a3 :: a2 :: a1 :: L) (zI 64 :: zI 8 :: zI 8 :: zI 8 :: C.set i (.inr (10, [.ref p0, .int 0, .int 0, .int 0, .int 0, .int 0, .int 0, .int 0, .int 0, .ref a1, .ref a2, .ref a3, .ref a4, .int 0]))) := by
    have z := gd_set g22 (i + 4) (x := .inr (10, [.ref p0, .int 0, .int 0, .int 0, .int 0, .int 0, .int 0, .int 0, .int 0, .ref a1, .ref a2, .ref a3, .ref a4, .int 0])) (nd_o (by decide))
    simpa [List.set_set] using z
  exact kk a1 a2 a3 a4 g26
theorem sw0 {f0 a i : Nat} {p0 : Nat} {L : List Nat} {C : List HE} {K : Hp → Prop} (g : Gd L C) (h1 : L[i]? = some a) (h2 : C[i]? = some (.inr (0, dv0))) (kk : ∀ a1 : Nat, Gd (a1 :: L) (zI 8 :: C.set i (.inr (0, [.ref p0, .ref a1]))) → K (Mk (a1 :: L) (zI 8 :: C.set i (.inr (0, [.ref p0, .ref a1]))))) : wX0_init f0 a p0 (Mk L C) K := by
  have hi : i < C.length := (List.getElem?_eq_some_iff.mp h2).1
  intro a1 da1
  have g2 : Gd (a1 :: L) (zI 8 :: C) := gd_cons g da1 nd_a
  refine ⟨Mk (a1 :: L) (zI 8 :: C.set i (.inr (0, [.null, .ref a1]))), mk_pf2 g2 (i + 1) (fs := dv0) (by simpa using h1) (by simpa using h2) (Nat.le_of_ble_eq_true rfl) (by simp [List.set_set, dv0]), ?_⟩
  have g4 : Gd (a1 :: L) (zI 8 :: C.set i (.inr (0, [.null, .ref a1]))) := by
    have z := gd_set g2 (i + 1) (x := .inr (0, [.null, .ref a1])) (nd_o (by decide))
    simpa [List.set_set] using z
  refine ⟨Mk (a1 :: L) (zI 8 :: C.set i (.inr (0, [.ref p0, .ref a1]))), mk_pf2 g4 (i + 1) (fs := [.null, .ref a1]) (by simpa using h1) (by simp [hi]) (Nat.le_of_ble_eq_true rfl) (by simp [List.set_set, dv0]), ?_⟩
  have g8 : Gd (a1 :: L) (zI 8 :: C.set i (.inr (0, [.ref p0, .ref a1]))) := by
    have z := gd_set g4 (i + 1) (x := .inr (0, [.ref p0, .ref a1])) (nd_o (by decide))
    simpa [List.set_set] using z
  exact kk a1 g8
theorem sw5 {f0 a i : Nat} {p0 : Nat} {p1 : Nat} {L : List Nat} {C : List HE} {K : Hp → Prop} (g : Gd L C) (h1 : L[i]? = some a) (h2 : C[i]? = some (.inr (5, dv5))) (kk : ∀ a1 : Nat, Gd (a1 :: L) (zI 10 :: C.set i (.inr (5, [.ref p0, .ref p1, .ref a1]))) → K (Mk (a1 :: L) (zI 10 :: C.set i (.inr (5, [.ref p0, .ref p1, .ref a1]))))) : wX5_init f0 a p0 p1 (Mk L C) K := by
  have hi : i < C.length := (List.getElem?_eq_some_iff.mp h2).1
  intro a1 da1
  have g2 : Gd (a1 :: L) (zI 10 :: C) := gd_cons g da1 nd_a
  refine ⟨Mk (a1 :: L) (zI 10 :: C.set i (.inr (5, [.null, .null, .ref a1]))), mk_pf2 g2 (i + 1) (fs := dv5) (by simpa using h1) (by simpa using h2) (Nat.le_of_ble_eq_true rfl) (by simp [List.set_set, dv5]), ?_⟩
  have g4 : Gd (a1 :: L) (zI 10 :: C.set i (.inr (5, [.null, .null, .ref a1]))) := by
    have z := gd_set g2 (i + 1) (x := .inr (5, [.null, .null, .ref a1])) (nd_o (by decide))
    simpa [List.set_set] using z
  refine ⟨Mk (a1 :: L) (zI 10 :: C.set i (.inr (5, [.ref p0, .null, .ref a1]))), mk_pf2 g4 (i + 1) (fs := [.null, .null, .ref a1]) (by simpa using h1) (by simp [hi]) (Nat.le_of_ble_eq_true rfl) (by simp [List.set_set, dv5]), ?_⟩
  have g8 : Gd (a1 :: L) (zI 10 :: C.set i (.inr (5, [.ref p0, .null, .ref a1]))) := by
    have z := gd_set g4 (i + 1) (x := .inr (5, [.ref p0, .null, .ref a1])) (nd_o (by decide))
    simpa [List.set_set] using z
  refine ⟨Mk (a1 :: L) (zI 10 :: C.set i (.inr (5, [.ref p0, .ref p1, .ref a1]))), mk_pf2 g8 (i + 1) (fs := [.ref p0, .null, .ref a1]) (by simpa using h1) (by simp [hi]) (Nat.le_of_ble_eq_true rfl) (by simp [List.set_set, dv5]), ?_⟩
  have g12 : Gd (a1 :: L) (zI 10 :: C.set i (.inr (5, [.ref p0, .ref p1, .ref a1]))) := by
    have z := gd_set g8 (i + 1) (x := .inr (5, [.ref p0, .ref p1, .ref a1])) (nd_o (by decide))
    simpa [List.set_set] using z
  exact kk a1 g12
theorem sw2 {f0 a i : Nat} {p0 : Nat} {p1 : Nat} {L : List Nat} {C : List HE} {K : Hp → Prop} (g : Gd L C) (h1 : L[i]? = some a) (h2 : C[i]? = some (.inr (2, dv2))) (kk : ∀ a1 a2 a3 : Nat, Gd (a3 :: a2 :: a1 :: L) (zI 40 :: zI 40 :: zI 40 :: C.set i (.inr (2, [.ref p0, .ref p1, .ref a1, .ref a2, .ref a3, .int 0, .int 0, .int 0, .int 0, .int 0, .int 0]))) → K (Mk (a3 :: a2 :: a1 :: L) (zI 40 :: zI 40 :: zI 40 :: C.set i (.inr (2, [.ref p0, .ref p1, .ref a1, .ref a2, .ref a3, .int 0, .int 0, .int 0, .int 0, .int 0, .int 0]))))) : wX2_init f0 a p0 p1 (Mk L C) K := by
  have hi : i < C.length := (List.getElem?_eq_some_iff.mp h2).1
  intro a1 da1
  have g2 : Gd (a1 :: L) (zI 40 :: C) := gd_cons g da1 nd_a
  refine ⟨Mk (a1 :: L) (zI 40 :: C.set i (.inr (2, [.null, .null, .ref a1, .null, .null, .int 0, .int 0, .int 0, .int 0, .int 0, .int 0]))), mk_pf2 g2 (i + 1) (fs := dv2) (by simpa using h1) (by simpa using h2) (Nat.le_of_ble_eq_true rfl) (by simp [List.set_set, dv2]), ?_⟩
  have g4 : Gd (a1 :: L) (zI 40 :: C.set i (.inr (2, [.null, .null, .ref a1, .null, .null, .int 0, .int 0, .int 0, .int 0, .int 0, .int 0]))) := by
    have z := gd_set g2 (i + 1) (x := .inr (2, [.null, .null, .ref a1, .null, .null, .int 0, .int 0, .int 0, .int 0, .int 0, .int 0])) (nd_o (by decide))
    simpa [List.set_set] using z
  intro a2 da2
  have g8 : Gd (a2 :: a1 :: L) (zI 40 :: zI 40 :: C.set i (.inr (2, [.null, .null, .ref a1, .null, .null, .int 0, .int 0, .int 0, .int 0, .int 0, .int 0]))) := gd_cons g4 da2 nd_a
  refine ⟨Mk (a2 :: a1 :: L) (zI 40 :: zI 40 :: C.set i (.inr (2, [.null, .null, .ref a1, .ref a2, .null, .int 0, .int 0, .int 0, .int 0, .int 0, .int 0]))), mk_pf2 g8 (i + 2) (fs := [.null, .null, .ref a1, .null, .null, .int 0, .int 0, .int 0, .int 0, .int 0, .int 0]) (by simpa using h1) (by simp [hi]) (Nat.le_of_ble_eq_true rfl) (by simp [List.set_set, dv2]), ?_⟩
  have g10 : Gd (a2 :: a1 :: L) (zI 40 :: zI 40 :: C.set i (.inr (2, [.null, .null, .ref a1, .ref a2, .null, .int 0, .int 0, .int 0, .int 0, .int 0, .int 0]))) := by
    have z := gd_set g8 (i + 2) (x := .inr (2, [.null, .null, .ref a1, .ref a2, .null, .int 0, .int 0, .int 0, .int 0, .int 0, .int 0])) (nd_o (by decide))
    simpa [List.set_set] using z
  intro a3 da3
  have g14 : Gd (a3 :: a2 :: a1 :: L) (zI 40 :: zI 40 :: zI 40 :: C.set i (.inr (2, [.null, .null, .ref a1, .ref a2, .null, .int 0, .int 0, .int 0, .int 0, .int 0, .int 0]))) := gd_cons g10 da3 nd_a
  refine ⟨Mk (a3 :: a2 :: a1 :: L) (zI 40 :: zI 40 :: zI 40 :: C.set i (.inr (2, [.null, .null, .ref a1, .ref a2, .ref a3, .int 0, .int 0, .int 0, .int 0, .int 0, .int 0]))), mk_pf2 g14 (i + 3) (fs := [.null, .null, .ref a1, .ref a2, .null, .int 0, .int 0, .int 0, .int 0, .int 0, .int 0]) (by simpa using h1) (by simp [hi]) (Nat.le_of_ble_eq_true rfl) (by simp [List.set_set, dv2]), ?_⟩
  have g16 : Gd (a3 :: a2 :: a1 :: L) (zI 40 :: zI 40 :: zI 40 :: C.set i (.inr (2, [.null, .null, .ref a1, .ref a2, .ref a3, .int 0, .int 0, .int 0, .int 0, .int 0, .int 0]))) := by
    have z := gd_set g14 (i + 3) (x := .inr (2, [.null, .null, .ref a1, .ref a2, .ref a3, .int 0, .int 0, .int 0, .int 0, .int 0, .int 0])) (nd_o (by decide))
    simpa [List.set_set] using z
  refine ⟨Mk (a3 :: a2 :: a1 :: L) (zI 40 :: zI 40 :: zI 40 :: C.set i (.inr (2, [.ref p0, .null, .ref a1, .ref a2, .ref a3, .int 0, .int 0, .int 0, .int 0, .int 0, .int 0]))), mk_pf2 g16 (i + 3) (fs := [.null, .null, .ref a1, .ref a2, .ref a3, .int 0, .int 0, .int 0, .int 0, .int 0, .int 0]) (by simpa using h1) (by simp [hi]) (Nat.le_of_ble_eq_true rfl) (by simp [List.set_set, dv2]), ?_⟩
  have g20 : Gd (a3 :: a2 :: a1 :: L) (zI 40 :: zI 40 :: zI 40 :: C.set i (.inr (2, [.ref p0, .null, .ref a1, .ref a2, .ref a3, .int 0, .int 0, .int 0, .int 0, .int 0, .int 0]))) := by
    have z := gd_set g16 (i + 3) (x := .inr (2, [.ref p0, .null, .ref a1, .ref a2, .ref a3, .int 0, .int 0, .int 0, .int 0, .int 0, .int 0])) (nd_o (by decide))
    simpa [List.set_set] using z
  refine ⟨Mk (a3 :: a2 :: a1 :: L) (zI 40 :: zI 40 :: zI 40 :: C.set i (.inr (2, [.ref p0, .ref p1, .ref a1, .ref a2, .ref a3, .int 0, .int 0, .int 0, .int 0, .int 0, .int 0]))), mk_pf2 g20 (i + 3) (fs := [.ref p0, .null, .ref a1, .ref a2, .ref a3, .int 0, .int 0, .int 0, .int 0, .int 0, .int 0]) (by simpa using h1) (by simp [hi]) (Nat.le_of_ble_eq_true rfl) (by simp [List.set_set, dv2]), ?_⟩
  have g24 : Gd (a3 :: a2 :: a1 :: L) (zI 40 :: zI 40 :: zI 40 :: C.set i (.inr (2, [.ref p0, .ref p1, .ref a1, .ref a2, .ref a3, .int 0, .int 0, .int 0, .int 0, .int 0, .int 0]))) := by
    have z := gd_set g20 (i + 3) (x := .inr (2, [.ref p0, .ref p1, .ref a1, .ref a2, .ref a3, .int 0, .int 0, .int 0, .int 0, .int 0, .int 0])) (nd_o (by decide))
    simpa [List.set_set] using z
  exact kk a1 a2 a3 g24
theorem sw6 {f0 a i : Nat} {L : List Nat} {C : List HE} {K : Hp → Prop} (g : Gd L C) (h1 : L[i]? = some a) (h2 : C[i]? = some (.inr (6, dv6))) (kk : ∀ a1 a2 a3 a4 a5 a6 a7 a8 a9 a10 a11 a12 a13 a14 a15 : Nat, Gd (a15 :: a14 :: a13 :: a12 :: a11 :: a10 :: a9 :: a8 :: a7 :: a6 :: a5 :: a4 :: a3 :: a2 :: a1 :: L) (zI 64 :: zI 64 :: zI 8 :: zI 16 :: zI 8 :: zI 64 :: zI 64 :: zI 64 :: zI 64 :: zI 64 :: zI 7 :: zI 30 :: zI 30 :: zJ 30 :: .inr (3, [.ref a2, .ref a3, .ref a4, .int 0]) :: C.set i (.inr (6, [.ref a1, .ref a5, .int 0, .ref a6, .ref a7, .ref a8, .ref a9, .ref a10, .ref a11, .ref a12, .ref a13, .ref a14, .ref a15]))) → K (Mk (a15 :: a14 :: a13 :: a12 :: a11 :: a10 :: a9 :: a8 :: a7 :: a6 :: a5 :: a4 :: a3 :: a2 :: a1 :: L) (zI 64 :: zI 64 :: zI 8 :: zI 16 :: zI 8 :: zI 64 :: zI 64 :: zI 64 :: zI 64 :: zI 64 :: zI 7 :: zI 30 :: zI 30 :: zJ 30 :: .inr (3, [.ref a2, .ref a3, .ref a4, .int 0]) :: C.set i (.inr (6, [.ref a1, .ref a5, .int 0, .ref a6, .ref a7, .ref a8, .ref a9, .ref a10, .ref a11, .ref a12, .ref a13, .ref a14, .ref a15]))))) : wX6_init f0 a (Mk L C) K := by
  have hi : i < C.length := (List.getElem?_eq_some_iff.mp h2).1
  intro a1 da1
  have g2 : Gd (a1 :: L) (.inr (3, dv3) :: C) := gd_cons g da1 (nd_o (by decide))
  refine sw3 (i := 0) g2 rfl rfl (fun a2 a3 a4 g3x => ?_)
  have g3x : Gd (a4 :: a3 :: a2 :: a1 :: L) (zI 30 :: zI 30 :: zJ 30 :: .inr (3, [.ref a2, .ref a3, .ref a4, .int 0]) :: C) := g3x
  show ∃ h12, _ ∧ _
  refine ⟨Mk (a4 :: a3 :: a2 :: a1 :: L) (zI 30 :: zI 30 :: zJ 30 :: .inr (3, [.ref a2, .ref a3, .ref a4, .int 0]) :: C.set i (.inr (6, [.ref a1, .null, .int 0, .null, .null, .null, .null, .null, .null, .null, .null, .null, .null]))), mk_pf2 g3x (i + 4) (fs := dv6) (by simpa using h1) (by simpa using h2) (Nat.le_of_ble_eq_true rfl) (by simp [List.set_set, dv6]), ?_⟩
  have g7 : Gd (a4 :: a3 :: a2 :: a1 :: L) (zI 30 :: zI 30 :: zJ 30 :: .inr (3, [.ref a2, .ref a3, .ref a4, .int 0]) :: C.set i (.inr (6, [.ref a1, .null, .int 0, .null, .null, .null, .null, .null, .null, .null, .null, .null, .null]))) := by
    have z := gd_set g3x (i + 4) (x := .inr (6, [.ref a1, .null, .int 0, .null, .null, .null, .null, .null, .null, .null, .null, .null, .null])) (nd_o (by decide))
    simpa [List.set_set] using z
  intro a5 da5
  have g11 : Gd (a5 :: a4 :: a3 :: a2 :: a1 :: L) (zI 7 :: zI 30 :: zI 30 :: zJ 30 :: .inr (3, [.ref a2, .ref a3, .ref a4, .int 0]) :: C.set i (.inr (6, [.ref a1, .null, .int 0, .null, .null, .null, .null, .null, .null, .null, .null, .null, .null]))) := gd_cons g7 da5 nd_a
  refine ⟨Mk (a5 :: a4 :: a3 :: a2 :: a1 :: L) (zI 7 :: zI 30 :: zI 30 :: zJ 30 :: .inr (3, [.ref a2, .ref a3, .ref a4, .int 0]) :: C.set i (.inr (6, [.ref a1, .ref a5, .int 0, .null, .null, .null, .null, .null, .null, .null, .null, .null, .null]))), mk_pf2 g11 (i + 5) (fs := [.ref a1, .null, .int 0, .null, .null, .null, .null, .null, .null, .null, .null, .null, .null]) (by simpa using h1) (by simp [hi]) (Nat.le_of_ble_eq_true rfl) (by simp [List.set_set, dv6]), ?_⟩
  have g13 : Gd (a5 :: a4 :: a3 :: a2 :: a1 :: L) (zI 7 :: zI 30 :: zI 30 :: zJ 30 :: .inr (3, [.ref a2, .ref a3, .ref a4, .int 0]) :: C.set i (.inr (6, [.ref a1, .ref a5, .int 0, .null, .null, .null, .null, .null, .null, .null, .null, .null, .null]))) := by
    have z := gd_set g11 (i + 5) (x := .inr (6, [.ref a1, .ref a5, .int 0, .null, .null, .null, .null, .null, .null, .null, .null, .null, .null])) (nd_o (by decide))
    simpa [List.set_set] using z
  intro a6 da6
  have g17 : Gd (a6 :: a5 :: a4 :: a3 :: a2 :: a1 :: L) (zI 64 :: zI 7 :: zI 30 :: zI 30 :: zJ 30 :: .inr (3, [.ref a2, .ref a3, .ref a4, .int 0]) :: C.set i (.inr (6, [.ref a1, .ref a5, .int 0, .null, .null, .null, .null, .null, .null, .null, .null, .null, .null]))) := gd_cons g13 da6 nd_a
  refine ⟨Mk (a6 :: a5 :: a4 :: a3 :: a2 :: a1 :: L) (zI 64 :: zI 7 :: zI 30 :: zI 30 :: zJ 30 :: .inr (3, [.ref a2, .ref a3, .ref a4, .int 0]) :: C.set i (.inr (6, [.ref a1, .ref a5, .int 0, .ref a6, .null, .null, .null, .null, .null, .null, .null, .null, .null]))), mk_pf2 g17 (i + 6) (fs := [.ref a1, .ref a5, .int 0, .null, .null, .null, .null, .null, .null, .null, .null, .null, .null]) (by simpa using h1) (by simp [hi]) (Nat.le_of_ble_eq_true rfl) (by simp [List.set_set, dv6]), ?_⟩
  have g19 : Gd (a6 :: a5 :: a4 :: a3 :: a2 :: a1 :: L) (zI 64 :: zI 7 :: zI 30 :: zI 30 :: zJ 30 :: .inr (3, [.ref a2, .ref a3, .ref a4, .int 0]) :: C.set i (.inr (6, [.ref a1, .ref a5, .int 0, .ref a6, .null, .null, .null, .null, .null, .null, .null, .null, .null]))) := by
    have z := gd_set g17 (i + 6) (x := .inr (6, [.ref a1, .ref a5, .int 0, .ref a6, .null, .null, .null, .null, .null, .null, .null, .null, .null])) (nd_o (by decide))
    simpa [List.set_set] using z
  intro a7 da7
  have g23 : Gd (a7 :: a6 :: a5 :: a4 :: a3 :: a2 :: a1 :: L) (zI 64 :: zI 64 :: zI 7 :: zI 30 :: zI 30 :: zJ 30 :: .inr (3, [.ref a2, .ref a3, .ref a4, .int 0]) :: C.set i (.inr (6, [.ref a1, .ref a5, .int 0, .ref a6, .null, .null, .null, .null, .null, .null, .null, .null, .null]))) := gd_cons g19 da7 nd_a
  refine ⟨Mk (a7 :: a6 :: a5 :: a4 :: a3 :: a2 :: a1 :: L) (zI 64 :: zI 64 :: zI 7 :: zI 30 :: zI 30 :: zJ 30 :: .inr (3, [.ref a2, .ref a3, .ref a4, .int 0]) :: C.set i (.inr (6, [.ref a1, .ref a5, .int 0, .ref a6, .ref a7, .null, .null, .null, .null, .null, .null, .null, .null]))), mk_pf2 g23 (i + 7) (fs := [.ref a1, .ref a5, .int 0, .ref a6, .null, .null, .null, .null, .null, .null, .null, .null, .null]) (by simpa using h1) (by simp [hi]) (Nat.le_of_ble_eq_true rfl) (by simp [List.set_set, dv6]), ?_⟩
  have g25 : Gd (a7 :: a6 :: a5 :: a4 :: a3 :: a2 :: a1 :: L) (zI 64 :: zI 64 :: zI 7 :: zI 30 :: zI 30 :: zJ 30 :: .inr (3, [.ref a2, .ref a3, .ref a4, .int 0]) :: C.set i (.inr (6, [.ref a1, .ref a5, .int 0, .ref a6, .ref a7, .null, .null, .null, .null, .null, .null, .null, .null]))) := by
    have z := gd_set g23 (i + 7) (x := .inr (6, [.ref a1, .ref a5, .int 0, .ref a6, .ref a7, .null, .null, .null, .null, .null, .null, .null, .null])) (nd_o (by decide))
    simpa [List.set_set] using z
  intro a8 da8
  have g29 : Gd (a8 :: a7 :: a6 :: a5 :: a4 :: a3 :: a2 :: a1 :: L) (zI 64 :: zI 64 :: zI 64 :: zI 7 :: zI 30 :: zI 30 :: zJ 30 :: .inr (3, [.ref a2, .ref a3, .ref a4, .int 0]) :: C.set i (.inr (6, [.ref a1, .ref a5, .int 0, .ref a6, .ref a7, .null, .null, .null, .null, .null, .null, .null, .null]))) := gd_cons g25 da8 nd_a
  refine ⟨Mk (a8 :: a7 :: a6 :: a5 :: a4 :: a3 :: a2 :: a1 :: L) (zI 64 :: zI 64 :: zI 64 :: zI 7 :: zI 30 :: zI 30 :: zJ 30 :: .inr (3, [.ref a2, .ref a3, .ref a4, .int 0]) :: C.set i (.inr (6, [.ref a1, .ref a5, .int 0, .ref a6, .ref a7, .ref a8, .null, .null, .null, .null, .null, .null, .null]))), mk_pf2 g29 (i + 8) (fs := [.ref a1, .ref a5, .int 0, .ref a6, .ref a7, .null, .null, .null, .null, .null, .null, .null, .null]) (by simpa using h1) (by simp [hi]) (Nat.le_of_ble_eq_true rfl) (by simp [List.set_set, dv6]), ?_⟩
  have g31 : Gd (a8 :: a7 :: a6 :: a5 :: a4 :: a3 :: a2 :: a1 :: L) (zI 64 :: zI 64 :: zI 64 :: zI 7 :: zI 30 :: zI 30 :: zJ 30 :: .inr (3, [.ref a2, .ref a3, .ref a4, .int 0]) :: C.set i (.inr (6, [.ref a1, .ref a5, .int 0, .ref a6, .ref a7, .ref a8, .null, .null, .null, .null, .null, .null, .null]))) := by
    have z := gd_set g29 (i + 8) (x := .inr (6, [.ref a1, .ref a5, .int 0, .ref a6, .ref a7, .ref a8, .null, .null, .null, .null, .null, .null, .null])) (nd_o (by decide))
    simpa [List.set_set] using z
  intro a9 da9
  have g35 : Gd (a9 :: a8 :: a7 :: a6 :: a5 :: a4 :: a3 :: a2 :: a1 :: L) (zI 64 :: zI 64 :: zI 64 :: zI 64 :: zI 7 :: zI 30 :: zI 30 :: zJ 30 :: .inr (3, [.ref a2, .ref a3, .ref a4, .int 0]) :: C.set i (.inr (6, [.ref a1, .ref a5, .int 0, .ref a6, .ref a7, .ref a8, .null, .null, .null, .null, .null, .null, .null]))) := gd_cons g31 da9 nd_a
  refine ⟨Mk (a9 :: a8 :: a7 :: a6 :: a5 :: a4 :: a3 :: a2 :: a1 :: L) (zI 64 :: zI 64 :: zI 64 :: zI 64 :: zI 7 :: zI 30 :: zI 30 :: zJ 30 :: .inr (3, [.ref a2, .ref a3, .ref a4, .int 0]) :: C.set i (.inr (6, [.ref a1, .ref a5, .int 0, .ref a6, .ref a7, .ref a8, .ref a9, .null, .null, .null, .null, .null, .null]))), mk_pf2 g35 (i + 9) (fs := [.ref a1, .ref a5, .int 0, .ref a6, .ref a7, .ref a8, .null, .null, .null, .null, .null, .null, .null]) (by simpa using h1) (by simp [hi]) (Nat.le_of_ble_eq_true rfl) (by simp [List.set_set, dv6]), ?_⟩
  have g37 : Gd (a9 :: a8 :: a7 :: a6 :: a5 :: a4 :: a3 :: a2 :: a1 :: L) (zI 64 :: zI 64 :: zI 64 :: zI 64 :: zI 7 :: zI 30 :: zI 30 :: zJ 30 :: .inr (3, [.ref a2, .ref a3, .ref a4, .int 0]) :: C.set i (.inr (6, [.ref a1, .ref a5, .int 0, .ref a6, .ref a7, .ref a8, .ref a9, .null, .null, .null, .null, .null, .null]))) := by
    have z := gd_set g35 (i + 9) (x := .inr (6, [.ref a1, .ref a5, .int 0, .ref a6, .ref a7, .ref a8, .ref a9, .null, .null, .null, .null, .null, .null])) (nd_o (by decide))
    simpa [List.set_set] using z
  intro a10 da10
  have g41 : Gd (a10 :: a9 :: a8 :: a7 :: a6 :: a5 :: a4 :: a3 :: a2 :: a1 :: L) (zI 64 :: zI 64 :: zI 64 :: zI 64 :: zI 64 :: zI 7 :: zI 30 :: zI 30 :: zJ 30 :: .inr (3, [.ref a2, .ref a3, .ref a4, .int 0]) :: C.set i (.inr (6, [.ref a1, .ref a5, .int 0, .ref a6, .ref a7, .ref a8, .ref a9, .null, .null, .null, .null, .null, .null]))) := gd_cons g37 da10 nd_a
  refine ⟨Mk (a10 :: a9 :: a8 :: a7 :: a6 :: a5 :: a4 :: a3 :: a2 :: a1 :: L) (zI 64 :: zI 64 :: zI 64 :: zI 64 :: zI 64 :: zI 7 :: zI 30 :: zI 30 :: zJ 30 :: .inr (3, [.ref a2, .ref a3, .ref a4, .int 0]) :: C.set i (.inr (6, [.ref a1, .ref a5, .int 0, .ref a6, .ref a7, .ref a8, .ref a9, .ref a10, .null, .null, .null, .null, .null]))), mk_pf2 g41 (i + 10) (fs := [.ref a1, .ref a5, .int 0, .ref a6, .ref a7, .ref a8, .ref a9, .null, .null, .null, .null, .null, .null]) (by simpa using h1) (by simp [hi]) (Nat.le_of_ble_eq_true rfl) (by simp [List.set_set, dv6]), ?_⟩
  have g43 : Gd (a10 :: a9 :: a8 :: a7 :: a6 :: a5 :: a4 :: a3 :: a2 :: a1 :: L) (zI 64 :: zI 64 :: zI 64 :: zI 64 :: zI 64 :: zI 7 :: zI 30 :: zI 30 :: zJ 30 :: .inr (3, [.ref a2, .ref a3, .ref a4, .int 0]) :: C.set i (.inr (6, [.ref a1, .ref a5, .int 0, .ref a6, .ref a7, .ref a8, .ref a9, .ref a10, .null, .null, .null, .null, .null]))) := by
    have z := gd_set g41 (i + 10) (x := .inr (6, [.ref a1, .ref a5, .int 0, .ref a6, .ref a7, .ref a8, .ref a9, .ref a10, .null, .null, .null, .null, .null])) (nd_o (by decide))
    simpa [List.set_set] using z
  intro a11 da11
  have g47 : Gd (a11 :: a10 :: a9 :: a8 :: a7 :: a6 :: a5 :: a4 :: a3 :: a2 :: a1 :: L) (zI 8 :: zI 64 :: zI 64 :: zI 64 :: zI 64 :: zI 64 :: zI 7 :: zI 30 :: zI 30 :: zJ 30 :: .inr (3, [.ref a2, .ref a3, .ref a4, .int 0]) :: C.set i (.inr (6, [.ref a1, .ref a5, .int 0, .ref a6, .ref a7, .ref a8, .ref a9, .ref a10, .null, .null, .null, .null, .null]))) := gd_cons g43 da11 nd_a
  refine ⟨Mk (a11 :: a10 :: a9 :: a8 :: a7 :: a6 :: a5 :: a4 :: a3 :: a2 :: a1 :: L) (zI 8 :: zI 64 :: zI 64 :: zI 64 :: zI 64 :: zI 64 :: zI 7 :: zI 30 :: zI 30 :: zJ 30 :: .inr (3, [.ref a2, .ref a3, .ref a4, .int 0]) :: C.set i (.inr (6, [.ref a1, .ref a5, .int 0, .ref a6, .ref a7, .ref a8, .ref a9, .ref a10, .ref a11, .null, .null, .null, .null]))), mk_pf2 g47 (i + 11) (fs := [.ref a1, .ref a5, .int 0, .ref a6, .ref a7, .ref a8, .ref a9, .ref a10, .null, .null, .null, .null, .null]) (by simpa using h1) (by simp [hi]) (Nat.le_of_ble_eq_true rfl) (by simp [List.set_set, dv6]), ?_⟩
  have g49 : Gd (a11 :: a10 :: a9 :: a8 :: a7 :: a6 :: a5 :: a4 :: a3 :: a2 :: a1 :: L) (zI 8 :: zI 64 :: zI 64 :: zI 64 :: zI 64 :: zI 64 :: zI 7 :: zI 30 :: zI 30 :: zJ 30 :: .inr (3, [.ref a2, .ref a3, .ref a4, .int 0]) :: C.set i (.inr (6, [.ref a1, .ref a5, .int 0, .ref a6, .ref a7, .ref a8, .ref a9, .ref a10, .ref a11, .null, .null, .null, .null]))) := by
    have z := gd_set g47 (i + 11) (x := .inr (6, [.ref a1, .ref a5, .int 0, .ref a6, .ref a7, .ref a8, .ref a9, .ref a10, .ref a11, .null, .null, .null, .null])) (nd_o (by decide))
    simpa [List.set_set] using z
  intro a12 da12
  have g53 : Gd (a12 :: a11 :: a10 :: a9 :: a8 :: a7 :: a6 :: a5 :: a4 :: a3 :: a2 :: a1 :: L) (zI 16 :: zI 8 :: zI 64 :: zI 64 :: zI 64 :: zI 64 :: zI 64 :: zI 7 :: zI 30 :: zI 30 :: zJ 30 :: .inr (3, [.ref a2, .ref a3, .ref a4, .int 0]) :: C.set i (.inr (6, [.ref a1, .ref a5, .int 0, .ref a6, .ref a7, .ref a8, .ref a9, .ref a10, .ref a11, .null, .null, .null, .null]))) := gd_cons g49 da12 nd_a
  refine ⟨Mk (a12 :: a11 :: a10 :: a9 :: a8 :: a7 :: a6 :: a5 :: a4 :: a3 :: a2 :: a1 :: L) (zI 16 :: zI 8 :: zI 64 :: zI 64 :: zI 64 :: zI 64 :: zI 64 :: zI 7 :: zI 30 :: zI 30 :: zJ 30 :: .inr (3, [.ref a2, .ref a3, .ref a4, .int 0]) :: C.set i (.inr (6, [.ref a1, .ref a5, .int 0, .ref a6, .ref a7, .ref a8, .ref a9, .ref a10, .ref a11, .ref a12, .null, .null, .null]))), mk_pf2 g53 (i + 12) (fs := [.ref a1, .ref a5, .int 0, .ref a6, .ref a7, .ref a8, .ref a9, .ref a10, .ref a11, .null, .null, .null, .null]) (by simpa using h1) (by simp [hi]) (Nat.le_of_ble_eq_true rfl) (by simp [List.set_set, dv6]), ?_⟩
  have g55 : Gd (a12 :: a11 :: a10 :: a9 :: a8 :: a7 :: a6 :: a5 :: a4 :: a3 :: a2 :: a1 :: L) (zI 16 :: zI 8 :: zI 64 :: zI 64 :: zI 64 :: zI 64 :: zI 64 :: zI 7 :: zI 30 :: zI 30 :: zJ 30 :: .inr (3, [.ref a2, .ref a3, .ref a4, .int 0]) :: C.set i (.inr (6, [.ref a1, .ref a5, .int 0, .ref a6, .ref a7, .ref a8, .ref a9, .ref a10, .ref a11, .ref a12, .null, .null, .null]))) := by
    have z := gd_set g53 (i + 12) (x := .inr (6, [.ref a1, .ref a5, .int 0, .ref a6, .ref a7, .ref a8, .ref a9, .ref a10, .ref a11, .ref a12, .null, .null, .null])) (nd_o (by decide))
    simpa [List.set_set] using z
  intro a13 da13
  have g59 : Gd (a13 :: a12 :: a11 :: a10 :: a9 :: a8 :: a7 :: a6 :: a5 :: a4 :: a3 :: a2 :: a1 :: L) (zI 8 :: zI 16 :: zI 8 :: zI 64 :: zI 64 :: zI 64 :: zI 64 :: zI 64 :: zI 7 :: zI 30 :: zI 30 :: zJ 30 :: .inr (3, [.ref a2, .ref a3, .ref a4, .int 0]) :: C.set i (.inr (6, [.ref a1, .ref a5, .int 0, .ref a6, .ref a7, .ref a8, .ref a9, .ref a10, .ref a11, .ref a12, .null, .null, .null]))) := gd_cons g55 da13 nd_a
  refine ⟨Mk (a13 :: a12 :: a11 :: a10 :: a9 :: a8 :: a7 :: a6 :: a5 :: a4 :: a3 :: a2 :: a1 :: L) (zI 8 :: zI 16 :: zI 8 :: zI 64 :: zI 64 :: zI 64 :: zI 64 :: zI 64 :: zI 7 :: zI 30 :: zI 30 :: zJ 30 :: .inr (3, [.ref a2, .ref a3, .ref a4, .int 0]) :: C.set i (.inr (6, [.ref a1, .ref a5, .int 0, .ref a6, .ref a7, .ref a8, .ref a9, .ref a10, .ref a11, .ref a12, .ref a13, .null, .null]))), mk_pf2 g59 (i + 13) (fs := [.ref a1, .ref a5, .int 0, .ref a6, .ref a7, .ref a8, .ref a9, .ref a10, .ref a11, .ref a12, .null, .null, .null]) (by simpa using h1) (by simp [hi]) (Nat.le_of_ble_eq_true rfl) (by simp [List.set_set, dv6]), ?_⟩
  have g61 : Gd (a13 :: a12 :: a11 :: a10 :: a9 :: a8 :: a7 :: a6 :: a5 :: a4 :: a3 :: a2 :: a1 :: L) (zI 8 :: zI 16 :: zI 8 :: zI 64 :: zI 64 :: zI 64 :: zI 64 :: zI 64 :: zI 7 :: zI 30 :: zI 30 :: zJ 30 :: .inr (3, [.ref a2, .ref a3, .ref a4, .int 0]) :: C.set i (.inr (6, [.ref a1, .ref a5, .int 0, .ref a6, .ref a7, .ref a8, .ref a9, .ref a10, .ref a11, .ref a12, .ref a13, .null, .null]))) := by
    have z := gd_set g59 (i + 13) (x := .inr (6, [.ref a1, .ref a5, .int 0, .ref a6, .ref a7, .ref a8, .ref a9, .ref a10, .ref a11, .ref a12, .ref a13, .null, .null])) (nd_o (by decide))
    simpa [List.set_set] using z
  intro a14 da14
  have g65 : Gd (a14 :: a13 :: a12 :: a11 :: a10 :: a9 :: a8 :: a7 :: a6 :: a5 :: a4 :: a3 :: a2 :: a1 :: L) (zI 64 :: zI 8 :: zI 16 :: zI 8 :: zI 64 :: zI 64 :: zI 64 :: zI 64 :: zI 64 :: zI 7 :: zI 30 :: zI 30 :: zJ 30 :: .inr (3, [.ref a2, .ref a3, .ref a4, .int 0]) :: C.set i (.inr (6, [.ref a1, .ref a5, .int 0, .ref a6, .ref a7, .ref a8, .ref a9, .ref a10, .ref a11, .ref a12, .ref a13, .null, .null]))) := gd_cons g61 da14 nd_a
  refine ⟨Mk (a14 :: a13 :: a12 :: a11 :: a10 :: a9 :: a8 :: a7 :: a6 :: a5 :: a4 :: a3 :: a2 :: a1 :: L) (zI 64 :: zI 8 :: zI 16 :: zI 8 :: zI 64 :: zI 64 :: zI 64 :: zI 64 :: zI 64 :: zI 7 :: zI 30 :: zI 30 :: zJ 30 :: .inr (3, [.ref a2, .ref a3, .ref a4, .int 0]) :: C.set i (.inr (6, [.ref a1, .ref a5, .int 0, .ref a6, .ref a7, .ref a8, .ref a9, .ref a10, .ref a11, .ref a12, .ref a13, .ref a14, .null]))), mk_pf2 g65 (i + 14) (fs := [.ref a1, .ref a5, .int 0, .ref a6, .ref a7, .ref a8, .ref a9, .ref a10, .ref a11, .ref a12, .ref a13, .null, .null]) (by simpa using h1) (by simp [hi]) (Nat.le_of_ble_eq_true rfl) (by simp [List.set_set, dv6]), ?_⟩
  have g67 : Gd (a14 :: a13 :: a12 :: a11 :: a10 :: a9 :: a8 :: a7 :: a6 :: a5 :: a4 :: a3 :: a2 :: a1 :: L) (zI 64 :: zI 8 :: zI 16 :: zI 8 :: zI 64 :: zI 64 :: zI 64 :: zI 64 :: zI 64 :: zI 7 :: zI 30 :: zI 30 :: zJ 30 :: .inr (3, [.ref a2, .ref a3, .ref a4, .int 0]) :: C.set i (.inr (6, [.ref a1, .ref a5, .int 0, .ref a6, .ref a7, .ref a8, .ref a9, .ref a10, .ref a11, .ref a12, .ref a13, .ref a14, .null]))) := by
    have z := gd_set g65 (i + 14) (x := .inr (6, [.ref a1, .ref a5, .int 0, .ref a6, .ref a7, .ref a8, .ref a9, .ref a10, .ref a11, .ref a12, .ref a13, .ref a14, .null])) (nd_o (by decide))
    simpa [List.set_set] using z
  intro a15 da15
  have g71 : Gd (a15 :: a14 :: a13 :: a12 :: a11 :: a10 :: a9 :: a8 :: a7 :: a6 :: a5 :: a4 :: a3 :: a2 :: a1 :: L) (zI 64 :: zI 64 :: zI 8 :: zI 16 :: zI 8 :: zI 64 :: zI 64 :: zI 64 :: zI 64 :: zI 64 :: zI 7 :: zI 30 :: zI 30 :: zJ 30 :: .inr (3, [.ref a2, .ref a3, .ref a4, .int 0]) :: C.set i (.inr (6, [.ref a1, .ref a5, .int 0, .ref a6, .ref a7, .ref a8, .ref a9, .ref a10, .ref a11, .ref a12, .ref a13, .ref a14, .null]))) := gd_cons g67 da15 nd_a
  refine ⟨Mk (a15 :: a14 :: a13 :: a12 :: a11 :: a10 :: a9 :: a8 :: a7 :: a6 :: a5 :: a4 :: a3 :: a2 :: a1 :: L) (zI 64 :: zI 64 :: zI 8 :: zI 16 :: zI 8 :: zI 64 :: zI 64 :: zI 64 :: zI 64 :: zI 64 :: zI 7 :: zI 30 :: zI 30 :: zJ 30 :: .inr (3, [.ref a2, .ref a3, .ref a4, .int 0]) :: C.set i (.inr (6, [.ref a1, .ref a5, .int 0, .ref a6, .ref a7, .ref a8, .ref a9, .ref a10, .ref a11, .ref a12, .ref a13, .ref a14, .ref a15]))), mk_pf2 g71 (i + 15) (fs := [.ref a1, .ref a5, .int 0, .ref a6, .ref a7, .ref a8, .ref a9, .ref a10, .ref a11, .ref a12, .ref a13, .ref a14, .null]) (by simpa using h1) (by simp [hi]) (Nat.le_of_ble_eq_true rfl) (by simp [List.set_set, dv6]), ?_⟩
  have g73 : Gd (a15 :: a14 :: a13 :: a12 :: a11 :: a10 :: a9 :: a8 :: a7 :: a6 :: a5 :: a4 :: a3 :: a2 :: a1 :: L) (zI 64 :: zI 64 :: zI 8 :: zI 16 :: zI 8 :: zI 64 :: zI 64 :: zI 64 :: zI 64 :: zI 64 :: zI 7 :: zI 30 :: zI 30 :: zJ 30 :: .inr (3, [.ref a2, .ref a3, .ref a4, .int 0]) :: C.set i (.inr (6, [.ref a1, .ref a5, .int 0, .ref a6, .ref a7, .ref a8, .ref a9, .ref a10, .ref a11, .ref a12, .ref a13, .ref a14, .ref a15]))) := by
    have z := gd_set g71 (i + 15) (x := .inr (6, [.ref a1, .ref a5, .int 0, .ref a6, .ref a7, .ref a8, .ref a9, .ref a10, .ref a11, .ref a12, .ref a13, .ref a14, .ref a15])) (nd_o (by decide))
    simpa [List.set_set] using z
  exact kk a1 a2 a3 a4 a5 a6 a7 a8 a9 a10 a11 a12 a13 a14 a15 g73
