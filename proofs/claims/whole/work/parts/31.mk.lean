/-! the whole heap, as a row of addresses and a row of what they hold; all else is dead -/
def lk : List Nat → List HE → Nat → HE
  | a :: L, x :: C, b => if b = a then x else lk L C b
  | _, _, _ => dead
def Mk (L : List Nat) (C : List HE) : Hp := fun b => lk L C b
def Gd (L : List Nat) (C : List HE) : Prop := L.length = C.length ∧ L.Nodup ∧ ∀ x ∈ C, x ≠ dead
theorem lk_at : ∀ (L : List Nat) (C : List HE) (i a : Nat) (x : HE), L.Nodup → L[i]? = some a → C[i]? = some x → lk L C a = x
  | [], _, i, _, _, _, h, _ => by simp at h
  | _ :: _, [], i, _, _, _, _, h => by simp at h
  | b :: L, y :: C, 0, a, x, _, h1, h2 => by
    simp only [List.getElem?_cons_zero, Option.some.injEq] at h1 h2
    simp [lk, h1, h2]
  | b :: L, y :: C, i + 1, a, x, hn, h1, h2 => by
    simp only [List.getElem?_cons_succ] at h1 h2
    have hne : a ≠ b := by
      intro q
      subst q
      exact (List.nodup_cons.mp hn).1 (List.mem_of_getElem? h1)
    simp only [lk, if_neg hne]
    exact lk_at L C i a x (List.nodup_cons.mp hn).2 h1 h2
theorem mk_at {L : List Nat} {C : List HE} (g : Gd L C) {i a : Nat} {x : HE} (h1 : L[i]? = some a) (h2 : C[i]? = some x) : Mk L C a = x := lk_at L C i a x g.2.1 h1 h2
theorem lk_set : ∀ (L : List Nat) (C : List HE) (i a : Nat) (x : HE) (b : Nat), L.Nodup → L[i]? = some a → L.length = C.length → va_up (Mk L C) a x b = lk L (C.set i x) b
  | [], _, i, _, _, _, _, h, _ => by simp at h
  | _ :: _, [], i, _, _, _, _, _, h => by simp at h
  | c :: L, y :: C, 0, a, x, b, _, h1, _ => by
    simp only [List.getElem?_cons_zero, Option.some.injEq] at h1
    subst h1
    by_cases hb : b = c
    · subst hb; simp [va_up, lk]
    · simp [va_up, lk, hb, Mk]
  | c :: L, y :: C, i + 1, a, x, b, hn, h1, h2 => by
    simp only [List.getElem?_cons_succ] at h1
    have hne : a ≠ c := by
      intro q
      subst q
      exact (List.nodup_cons.mp hn).1 (List.mem_of_getElem? h1)
    have ih := lk_set L C i a x b (List.nodup_cons.mp hn).2 h1 (by simpa using h2)
    by_cases hb : b = c
    · subst hb; simp [va_up, lk, Ne.symm hne, Mk]
    · simp only [lk, List.set_cons_succ, if_neg hb]
      rw [← ih]
      by_cases hba : b = a
      · simp [va_up, hba]
      · simp [va_up, hba, Mk, lk, hb]
theorem mk_set {L : List Nat} {C : List HE} (g : Gd L C) {i a : Nat} {x : HE} (h1 : L[i]? = some a) : va_up (Mk L C) a x = Mk L (C.set i x) := funext fun b => lk_set L C i a x b g.2.1 h1 g.1
theorem gd_set {L : List Nat} {C : List HE} (g : Gd L C) (i : Nat) {x : HE} (hx : x ≠ dead) : Gd L (C.set i x) := by
  refine ⟨by simp [g.1], g.2.1, fun y hy => ?_⟩
  rcases List.mem_or_eq_of_mem_set hy with h | h
  · exact g.2.2 y h
  · rw [h]; exact hx
theorem lk_dead : ∀ (L : List Nat) (C : List HE) (a : Nat), L.length = C.length → (∀ x ∈ C, x ≠ dead) → lk L C a = dead → a ∉ L
  | [], _, _, _, _, _ => by simp
  | _ :: _, [], _, h, _, _ => by simp at h
  | b :: L, y :: C, a, h1, h2, h3 => by
    simp only [lk] at h3
    by_cases hb : a = b
    · rw [if_pos hb] at h3
      exact absurd h3 (h2 y List.mem_cons_self)
    · rw [if_neg hb] at h3
      have := lk_dead L C a (by simpa using h1) (fun x hx => h2 x (List.mem_cons_of_mem _ hx)) h3
      simp [hb, this]
theorem lk_new : ∀ (L : List Nat) (C : List HE) (a : Nat) (x : HE) (b : Nat), L.length = C.length → a ∉ L → va_up (Mk L C) a x b = lk (L ++ [a]) (C ++ [x]) b
  | [], [], a, x, b, _, _ => by by_cases hb : b = a <;> simp [va_up, lk, hb, Mk]
  | [], _ :: _, _, _, _, h, _ => by simp at h
  | _ :: _, [], _, _, _, h, _ => by simp at h
  | c :: L, y :: C, a, x, b, h1, h2 => by
    have hac : a ≠ c := fun q => h2 (by simp [q])
    have ih := lk_new L C a x b (by simpa using h1) (fun q => h2 (List.mem_cons_of_mem _ q))
    by_cases hb : b = c
    · subst hb; simp [va_up, lk, Ne.symm hac, Mk]
    · simp only [lk, List.cons_append, if_neg hb]
      rw [← ih]
      by_cases hba : b = a
      · simp [va_up, hba]
      · simp [va_up, hba, Mk, lk, hb]
theorem mk_new {L : List Nat} {C : List HE} (g : Gd L C) {a : Nat} {x : HE} (ha : Mk L C a = dead) : va_up (Mk L C) a x = Mk (L ++ [a]) (C ++ [x]) := funext fun b => lk_new L C a x b g.1 (lk_dead L C a g.1 g.2.2 ha)
theorem gd_new {L : List Nat} {C : List HE} (g : Gd L C) {a : Nat} {x : HE} (ha : Mk L C a = dead) (hx : x ≠ dead) : Gd (L ++ [a]) (C ++ [x]) := by
  have hn := lk_dead L C a g.1 g.2.2 ha
  refine ⟨by simp [g.1], ?_, fun y hy => ?_⟩
  · rw [List.nodup_append]
    refine ⟨g.2.1, by simp, ?_⟩
    intro b hb c hc
    simp only [List.mem_singleton] at hc
    subst hc
    exact fun q => hn (q ▸ hb)
  · rcases List.mem_append.mp hy with h | h
    · exact g.2.2 y h
    · rw [List.mem_singleton.mp h]; exact hx
theorem mk_pf {L : List Nat} {C : List HE} (g : Gd L C) (i : Nat) {a ci k : Nat} {fs : List Value} {v : Value} (h1 : L[i]? = some a) (h2 : C[i]? = some (.inr (ci, fs))) (hk : k < fs.length) : pf ci k (Mk L C) a v = some (Mk L (C.set i (.inr (ci, fs.set k v)))) := by
  rw [pf_e (mk_at g h1 h2) hk, mk_set g h1]
theorem mk_gfN {L : List Nat} {C : List HE} (g : Gd L C) (i : Nat) {a ci k v : Nat} {fs : List Value} (h1 : L[i]? = some a) (h2 : C[i]? = some (.inr (ci, fs))) (hv : fs[k]? = some (.ref v)) : gfN ci k (Mk L C) a = some v := gfN_e (mk_at g h1 h2) hv
theorem mk_gfI {L : List Nat} {C : List HE} (g : Gd L C) (i : Nat) {a ci k : Nat} {v : Int32} {fs : List Value} (h1 : L[i]? = some a) (h2 : C[i]? = some (.inr (ci, fs))) (hv : fs[k]? = some (.int v)) : gfI ci k (Mk L C) a = some v := gfI_e (mk_at g h1 h2) hv
abbrev zI (n : Nat) : HE := .inl (1, (n, .inl (fun _ => 0)))
abbrev zJ (n : Nat) : HE := .inl (2, (n, .inr (.inl (fun _ => 0))))
theorem nd_a {x : Nat × vp_A} : (.inl x : HE) ≠ dead := fun q => by cases q
theorem nd_o {ci : Nat} {fs : List Value} (h : ci ≠ 99) : (.inr (ci, fs) : HE) ≠ dead := fun q => h (congrArg Prod.fst (Sum.inr.inj q))
theorem gd_lt {L : List Nat} {C : List HE} (g : Gd L C) {i : Nat} {x : HE} (h : C[i]? = some x) : i < L.length := by rw [g.1]; exact (List.getElem?_eq_some_iff.mp h).1
