/-! Reader(): the told words, packed five bits a letter -/
def byW (j : Nat) : Int32 := (bytS.getD 0 []).getD j 0
theorem len_s0 {f0 : Nat} {h : Hp} : fJ0_length_8abf5_s0 f0 h = some (145, h) := by
  simp [fJ0_length_8abf5_s0, fJ0_coder_7d493_s0, zr, ob2]
theorem byW_ok : ∀ j, j < 145 → (¬ (Int32.toUInt32 (byW j &&& 255) % 65536).toInt32 < 0 ∧ (Int32.toUInt32 (byW j &&& 255) % 65536).toInt32 < 65536) ∧ (Int32.toUInt32 (byW j &&& 255) % 65536).toInt32 = byW j := by decide +kernel
theorem chr_s0 {f0 j : Nat} {h : Hp} (hj : j < 145) : fJ0_charAt_5068e_s0 f0 (nI j) h = some (byW j, h) := by
  have h1 : ¬ nI j < 0 := nI_pos (by omega)
  have h2 : nI j < 145 := nI_lt (a := j) (b := 145) hj (by decide)
  have hb : byS 0 (nI j) = some (byW j) := by
    unfold byS
    rw [if_pos (inB_n (n := lenS.getD 0 0) hj (by decide)), nI_clamp (by omega)]
    rfl
  have hz := byW_ok j hj
  have hc : cr ((Int32.toUInt32 (byW j &&& 255) % 65536).toInt32) h = some (byW j, h) := by
    unfold cr
    rw [if_pos hz.1, hz.2]
  have hc2 : cr (byW j) h = some (byW j, h) := by
    unfold cr
    rw [if_pos (by rw [← hz.2]; exact hz.1)]
  have h3 : fJ1_charAt_3b067_b0 f0 (nI j) h = some (byW j, h) := by
    simp only [fJ1_charAt_3b067_b0, fJ0_checkIndex_df160, if_neg h1, if_pos h2, Option.bind_some, hb, hc]
  have h4 : fJ0_isLatin1_aae02_s0 f0 h = some (1, h) := by simp [fJ0_isLatin1_aae02_s0, zr]
  have h5 : ¬ (1 : Int32) = 0 := by decide
  simp only [fJ0_charAt_5068e_s0, h4, ob2, Option.bind_some, if_neg h5, h3, hc2]
def rsW : Nat → Nat
  | 0 => 0
  | i + 1 => if byW i = 32 then rsW i + 1 else rsW i
def rsS : Nat → Int32
  | 0 => 30
  | i + 1 => if byW i = 32 then 30 else rsS i + (-5)
def rsF : Nat → Nat → Int64
  | 0 => fun _ => 0
  | i + 1 => if byW i = 32 then rsF i else vp_updL (rsF i) (rsW i) (rsF i (rsW i) ||| ((Int32.toInt64 ((byW i - 97) + 1)) <<< (Int32.toInt64 (rsS i) &&& 63)))
theorem rsW_lt : ∀ i, i < 145 → rsW i < 27 := by decide +kernel
abbrev rsC (i : Nat) : HE := .inl (2, (27, .inr (.inl (rsF i))))
theorem rd_loop {f0 a i1 p b : Nat} {L : List Nat} {C : List HE} {K : Hp → Prop} {fs : List Value} (hp : p ≠ i1) (h1 : L[i1]? = some a) (h2 : C[i1]? = some (.inr (4, fs))) (h3 : fs[1]? = some (.ref b)) (h4 : L[p]? = some b) (hpl : p < C.length) (hG : ∀ i, Gd L (C.set p (rsC i))) (hK : K (Mk L (C.set p (rsC 145)))) :
    ∀ n i g, i + n = 145 → bX4_init_25 f0 K (n + 1 + g) a (nI (rsW i)) (rsS i) (nI i) (Mk L (C.set p (rsC i))) := by
  intro n
  induction n with
  | zero =>
    intro i g hi
    have : i = 145 := by omega
    subst this
    rw [show 0 + 1 + g = g + 1 by omega]
    unfold bX4_init_25
    refine ⟨145, _, len_s0, ?_⟩
    rw [if_pos (show (145 : Int32) ≤ nI 145 by decide)]
    exact hK
  | succ n ih =>
    intro i g hi
    have hlt : i < 145 := by omega
    rw [show n + 1 + 1 + g = (n + 1 + g) + 1 by omega]
    unfold bX4_init_25
    refine ⟨145, _, len_s0, ?_⟩
    rw [if_neg (show ¬ (145 : Int32) ≤ nI i from nI_ge (a := i) (b := 145) hlt (by decide)), if_neg (show ¬ (27 : Int32) ≤ nI (rsW i) from nI_ge (a := rsW i) (b := 27) (rsW_lt i hlt) (by decide))]
    refine ⟨byW i, _, chr_s0 hlt, ?_⟩
    by_cases hb : byW i = 32
    · rw [if_pos hb]
      unfold bX4_init_88
      have e1 : rsW (i + 1) = rsW i + 1 := by simp [rsW, hb]
      have e2 : rsS (i + 1) = 30 := by simp [rsS, hb]
      have e3 : rsF (i + 1) = rsF i := by simp [rsF, hb]
      have z := ih (i + 1) g (by omega)
      rw [e1, e2, ← nI_1, ← nI_1] at z
      simp only [rsC, e3] at z
      exact z
    · rw [if_neg hb]
      have hat : Mk L (C.set p (rsC i)) a = .inr (4, fs) := mk_at (hG i) h1 (by rw [List.getElem?_set_ne hp]; exact h2)
      have hbt : Mk L (C.set p (rsC i)) b = rsC i := mk_at (hG i) h4 (by simp [hpl])
      refine ⟨b, gfN_e hat h3, _, ldJ_e hbt (rsW_lt i hlt) (by decide), _, stJ_e hbt (rsW_lt i hlt) (by decide), ?_⟩
      unfold bX4_init_88
      have e1 : rsW (i + 1) = rsW i := by simp [rsW, hb]
      have e2 : rsS (i + 1) = rsS i + (-5) := by simp [rsS, hb]
      have e3 : rsF (i + 1) = vp_updL (rsF i) (rsW i) (rsF i (rsW i) ||| ((Int32.toInt64 ((byW i - 97) + 1)) <<< (Int32.toInt64 (rsS i) &&& 63))) := by simp [rsF, hb]
      have z := ih (i + 1) g (by omega)
      rw [e1, e2, ← nI_1] at z
      simp only [rsC, e3] at z
      rw [mk_set (hG i) h4, List.set_set]
      exact z
theorem sw4 {f0 a i p0 : Nat} {L : List Nat} {C : List HE} {K : Hp → Prop} (hf : 146 ≤ f0) (g : Gd L C) (h1 : L[i]? = some a) (h2 : C[i]? = some (.inr (4, dv4)))
    (kk : ∀ a1 : Nat, Gd (a1 :: L) (rsC 145 :: C.set i (.inr (4, [.ref p0, .ref a1, .int 0, .int 0, .int 0, .int 0, .int 0, .long 0, .int 0, .int 0, .int 0, .int 0]))) → K (Mk (a1 :: L) (rsC 145 :: C.set i (.inr (4, [.ref p0, .ref a1, .int 0, .int 0, .int 0, .int 0, .int 0, .long 0, .int 0, .int 0, .int 0, .int 0]))))) : wX4_init f0 a p0 (Mk L C) K := by
  have hi : i < C.length := (List.getElem?_eq_some_iff.mp h2).1
  intro a1 d1
  have g1 : Gd (a1 :: L) (zJ 27 :: C) := gd_cons g d1 nd_a
  refine ⟨Mk (a1 :: L) (zJ 27 :: C.set i (.inr (4, [.null, .ref a1, .int 0, .int 0, .int 0, .int 0, .int 0, .long 0, .int 0, .int 0, .int 0, .int 0]))), mk_pf2 g1 (i + 1) (fs := dv4) (by simpa using h1) (by simpa using h2) (Nat.le_of_ble_eq_true rfl) (by simp [List.set_set, dv4]), ?_⟩
  have g2 : Gd (a1 :: L) (zJ 27 :: C.set i (.inr (4, [.null, .ref a1, .int 0, .int 0, .int 0, .int 0, .int 0, .long 0, .int 0, .int 0, .int 0, .int 0]))) := by
    have z := gd_set g1 (i + 1) (x := .inr (4, [.null, .ref a1, .int 0, .int 0, .int 0, .int 0, .int 0, .long 0, .int 0, .int 0, .int 0, .int 0])) (nd_o (by decide))
    simpa [List.set_set] using z
  refine ⟨Mk (a1 :: L) (zJ 27 :: C.set i (.inr (4, [.ref p0, .ref a1, .int 0, .int 0, .int 0, .int 0, .int 0, .long 0, .int 0, .int 0, .int 0, .int 0]))), mk_pf2 g2 (i + 1) (fs := [.null, .ref a1, .int 0, .int 0, .int 0, .int 0, .int 0, .long 0, .int 0, .int 0, .int 0, .int 0]) (by simpa using h1) (by simp [hi]) (Nat.le_of_ble_eq_true rfl) (by simp [List.set_set]), ?_⟩
  have g3 : ∀ x : HE, x ≠ dead → Gd (a1 :: L) (x :: C.set i (.inr (4, [.ref p0, .ref a1, .int 0, .int 0, .int 0, .int 0, .int 0, .long 0, .int 0, .int 0, .int 0, .int 0]))) := by
    intro x hx
    have z := gd_set (gd_set g2 (i + 1) (x := .inr (4, [.ref p0, .ref a1, .int 0, .int 0, .int 0, .int 0, .int 0, .long 0, .int 0, .int 0, .int 0, .int 0])) (nd_o (by decide))) 0 hx
    simpa [List.set_set] using z
  obtain ⟨m, rfl⟩ : ∃ m, f0 = 145 + 1 + m := ⟨f0 - 146, by omega⟩
  have z := rd_loop (f0 := 145 + 1 + m) (a := a) (i1 := i + 1) (p := 0) (b := a1) (L := a1 :: L) (C := zJ 27 :: C.set i (.inr (4, [.ref p0, .ref a1, .int 0, .int 0, .int 0, .int 0, .int 0, .long 0, .int 0, .int 0, .int 0, .int 0]))) (K := K) (by omega) (by simpa using h1) (by simp [hi]; rfl) rfl rfl (by simp) (fun j => g3 _ nd_a) (kk a1 (g3 _ nd_a)) 145 0 m (by omega)
  exact z
