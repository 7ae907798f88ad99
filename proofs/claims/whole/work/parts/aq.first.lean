/-! A SENTENCE IS TAKEN: how both begin -/
def seI (Z : XS) : XS := sF (sF (sF (sF (sF (rfI Z 200) 12 0 40 0) 12 0 41 0) 12 0 42 0) 12 0 43 1) 12 0 44 0
theorem r_senI {f0 : Nat} {Y : YS} {Z : XS} (g : GY Y) : fX12_sentence f0 (Ad Y 12 0) (hp Y Z) = (fX12_next f0 (Ad Y 12 0) (hp Y (seI Z))).bind fun h => bX12_sentence_48 f0 f0 (Ad Y 12 0) (iI 1) h := by
  have f2 : XF (sF Z 12 0 0 0) 12 0 2 = XF Z 12 0 2 := rfl
  have zz := z_12_44 (Y := Y) (X := sF (sF (sF (sF (rfI Z 200) 12 0 40 0) 12 0 41 0) 12 0 42 0) 12 0 43 1) g (v := 0) (.inl rfl)
  unfold seI rfI at *
  simp (disch := first | assumption | omega) only [fX12_sentence, fX12_taken, p_12_0, p_12_15, p_12_40, p_12_41, p_12_42, p_12_43, z_12_44, k_12, li_0, li_200, li_1, g_12_2, p_12_3, p_12_2, p_12_4, p_12_5, Option.bind_some, iI_add, f2, zz]
theorem seI_tx {Z : XS} : TxF Z (seI Z) := TxF_F (TxF_F (TxF_F (TxF_F (TxF_F rfI_tx (by decide)) (by decide)) (by decide)) (by decide)) (by decide)
