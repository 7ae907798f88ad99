/-! A SENTENCE IS READ: conditions joined by AND (by OR), the step there -/
theorem jn_pre {X Z2 : XS} {S : Int → Int} {t d c K lv : Int} {f1 : Nat} {Z3 X1 : XS} (pt : t ≤ 3 * (d - 1) + lv - 1) (d9 : d ≤ 9) (lv2 : lv ≤ 2) (W3 : WF Z3) (r3 : TokR X1 Z3) (kz : KZ X1 Z3 S) (pn : PenR X Z2 t 0 0 0) (rd : RdF X X1) (nx : NxF (jnZ Z2 t c) Z3) (e43 : XF Z2 12 0 43 = d) (hk : K ≤ f1 + XF X1 4 0 6) (hc : lv = 2 ∧ c = 21 ∨ lv = 1 ∧ c = 22) : RPre X1 Z3 S lv (t + 1) d K f1 ∧ XR Z3 77 0 t = c ∧ ∀ a, a < t → XR Z3 77 0 a = XR Z2 77 0 a := by
  have p1 := pn.1
  have e77 : XR Z3 77 0 = upi (XR Z2 77 0) t c := by rw [nx.2.1]; rfl
  have pp : PenR X (jnZ Z2 t c) (t + 1) 0 0 0 := PenR_cg (PenR_push (c := c) (d := 0) pn (by omega)) rfl rfl rfl rfl rfl
  refine ⟨⟨W3, r3, kz, PenR_nx nx (PenR_x rd pp), by rw [nx.1 12 0 43 (by omega)]; exact e43, by rw [nx.1 12 0 44 (by omega)]; rfl, hk, ?_, by omega⟩, by rw [e77, upi_eq], fun a a1 => by rw [e77, upi_ne _ _ (by omega)]⟩
  unfold bsC
  rw [e77, show t + 1 - 1 = t by omega, upi_eq]
  omega
theorem WF_jn {Z : XS} (W : WF Z) {t c : Int} (ht : 0 ≤ t ∧ t ≤ 40) (hc : Rg c) : WF (jnZ Z t c) := by
  unfold jnZ
  refine W_F (W_F (W_R W fun i => ?_) (by omega) (by omega)) (by decide) (by decide)
  rw [upi_at]; split
  · exact hc
  · exact W.2 77 0 i
theorem jn_nx {Z : XS} {t c : Int} : NxS Z (jnZ Z t c) := ⟨fun f hf => by rcases hf with e | e | e | e | e | e <;> subst e <;> rfl, rfl, rfl⟩
theorem jn_tx {Z : XS} {t c : Int} : TxO Z (jnZ Z t c) := TxO_F (TxO_F (TxO_Rr TxO_refl (by omega)) (by omega)) (by omega)
