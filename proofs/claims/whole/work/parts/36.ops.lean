/-! ONE ROW AN OPERATION on hp Y X -/
theorem k_0 {Y : YS} {X : XS} (g : GY Y) {β : Type} {t : Option β} : ((ckO 0 (hp Y X) (Ad Y 0 0)).bind fun _ => t) = t := by rw [ck_Y g (g.2.2.2.1 _ (by decide)) rfl]; rfl
theorem g_0_0 {Y : YS} {X : XS} (g : GY Y) : gfN 0 0 (hp Y X) (Ad Y 0 0) = some (Ad Y 6 0) := gN_Y g (g.2.2.2.1 _ (by decide)) rfl rfl
theorem g_0_1 {Y : YS} {X : XS} (g : GY Y) : gfN 0 1 (hp Y X) (Ad Y 0 0) = some (Ad Y 49 0) := gN_Y g (g.2.2.2.1 _ (by decide)) rfl rfl
theorem k_1 {Y : YS} {X : XS} {k : Nat} (g : ImO Y k) {β : Type} {t : Option β} : ((ckO 1 (hp Y X) (Ad Y 1 k)).bind fun _ => t) = t := by rw [ck_Y g.1 g.2 rfl]; rfl
theorem g_1_0 {Y : YS} {X : XS} {k : Nat} (g : ImO Y k) : gfN 1 0 (hp Y X) (Ad Y 1 k) = some (Ad Y 6 (k + 2)) := gN_Y g.1 g.2 rfl rfl
theorem g_1_1 {Y : YS} {X : XS} {k : Nat} (g : ImO Y k) : gfN 1 1 (hp Y X) (Ad Y 1 k) = some (Ad Y 10 (k + 10)) := gN_Y g.1 g.2 rfl rfl
theorem g_1_2 {Y : YS} {X : XS} {k : Nat} (g : ImO Y k) : gfN 1 2 (hp Y X) (Ad Y 1 k) = some (Ad Y 8 (k + 2)) := gN_Y g.1 g.2 rfl rfl
theorem k_2 {Y : YS} {X : XS} (g : GY Y) {β : Type} {t : Option β} : ((ckO 2 (hp Y X) (Ad Y 2 0)).bind fun _ => t) = t := by rw [ck_Y g (g.2.2.2.1 _ (by decide)) rfl]; rfl
theorem g_2_0 {Y : YS} {X : XS} (g : GY Y) : gfN 2 0 (hp Y X) (Ad Y 2 0) = some (Ad Y 4 0) := gN_Y g (g.2.2.2.1 _ (by decide)) rfl rfl
theorem g_2_1 {Y : YS} {X : XS} (g : GY Y) : gfN 2 1 (hp Y X) (Ad Y 2 0) = some (Ad Y 3 0) := gN_Y g (g.2.2.2.1 _ (by decide)) rfl rfl
theorem g_2_2 {Y : YS} {X : XS} (g : GY Y) : gfN 2 2 (hp Y X) (Ad Y 2 0) = some (Ad Y 40 0) := gN_Y g (g.2.2.2.1 _ (by decide)) rfl rfl
theorem g_2_3 {Y : YS} {X : XS} (g : GY Y) : gfN 2 3 (hp Y X) (Ad Y 2 0) = some (Ad Y 41 0) := gN_Y g (g.2.2.2.1 _ (by decide)) rfl rfl
theorem g_2_4 {Y : YS} {X : XS} (g : GY Y) : gfN 2 4 (hp Y X) (Ad Y 2 0) = some (Ad Y 42 0) := gN_Y g (g.2.2.2.1 _ (by decide)) rfl rfl
theorem g_2_5 {Y : YS} {X : XS} (g : GY Y) : gfI 2 5 (hp Y X) (Ad Y 2 0) = some (iI (XF X 2 0 5)) := gI_Y g (g.2.2.2.1 _ (by decide)) rfl rfl
theorem p_2_5 {Y : YS} {X : XS} (g : GY Y) {v : Int} : pf 2 5 (hp Y X) (Ad Y 2 0) (.int (iI v)) = some (hp Y (sF X 2 0 5 v)) := pf_Y g (g.2.2.2.1 _ (by decide)) rfl (by simp) rfl (by simp [XF_sF, XJ_sF, XP_sF]) ot_F
theorem g_2_6 {Y : YS} {X : XS} (g : GY Y) : gfI 2 6 (hp Y X) (Ad Y 2 0) = some (iI (XF X 2 0 6)) := gI_Y g (g.2.2.2.1 _ (by decide)) rfl rfl
theorem p_2_6 {Y : YS} {X : XS} (g : GY Y) {v : Int} : pf 2 6 (hp Y X) (Ad Y 2 0) (.int (iI v)) = some (hp Y (sF X 2 0 6 v)) := pf_Y g (g.2.2.2.1 _ (by decide)) rfl (by simp) rfl (by simp [XF_sF, XJ_sF, XP_sF]) ot_F
theorem z_2_6 {Y : YS} {X : XS} (g : GY Y) {v : Int} (hv : v = 0 ∨ v = 1) : pfZ 2 6 (hp Y X) (Ad Y 2 0) (iI v) = some (hp Y (sF X 2 0 6 v)) := by
  rw [show pfZ 2 6 (hp Y X) (Ad Y 2 0) (iI v) = pf 2 6 (hp Y X) (Ad Y 2 0) (.int (iI v)) from if_pos (by rcases hv with h | h <;> subst h <;> decide)]; exact p_2_6 g
theorem g_2_7 {Y : YS} {X : XS} (g : GY Y) : gfI 2 7 (hp Y X) (Ad Y 2 0) = some (iI (XF X 2 0 7)) := gI_Y g (g.2.2.2.1 _ (by decide)) rfl rfl
theorem p_2_7 {Y : YS} {X : XS} (g : GY Y) {v : Int} : pf 2 7 (hp Y X) (Ad Y 2 0) (.int (iI v)) = some (hp Y (sF X 2 0 7 v)) := pf_Y g (g.2.2.2.1 _ (by decide)) rfl (by simp) rfl (by simp [XF_sF, XJ_sF, XP_sF]) ot_F
theorem g_2_8 {Y : YS} {X : XS} (g : GY Y) : gfI 2 8 (hp Y X) (Ad Y 2 0) = some (iI (XF X 2 0 8)) := gI_Y g (g.2.2.2.1 _ (by decide)) rfl rfl
theorem p_2_8 {Y : YS} {X : XS} (g : GY Y) {v : Int} : pf 2 8 (hp Y X) (Ad Y 2 0) (.int (iI v)) = some (hp Y (sF X 2 0 8 v)) := pf_Y g (g.2.2.2.1 _ (by decide)) rfl (by simp) rfl (by simp [XF_sF, XJ_sF, XP_sF]) ot_F
theorem g_2_9 {Y : YS} {X : XS} (g : GY Y) : gfI 2 9 (hp Y X) (Ad Y 2 0) = some (iI (XF X 2 0 9)) := gI_Y g (g.2.2.2.1 _ (by decide)) rfl rfl
theorem p_2_9 {Y : YS} {X : XS} (g : GY Y) {v : Int} : pf 2 9 (hp Y X) (Ad Y 2 0) (.int (iI v)) = some (hp Y (sF X 2 0 9 v)) := pf_Y g (g.2.2.2.1 _ (by decide)) rfl (by simp) rfl (by simp [XF_sF, XJ_sF, XP_sF]) ot_F
theorem g_2_10 {Y : YS} {X : XS} (g : GY Y) : gfI 2 10 (hp Y X) (Ad Y 2 0) = some (iI (XF X 2 0 10)) := gI_Y g (g.2.2.2.1 _ (by decide)) rfl rfl
theorem p_2_10 {Y : YS} {X : XS} (g : GY Y) {v : Int} : pf 2 10 (hp Y X) (Ad Y 2 0) (.int (iI v)) = some (hp Y (sF X 2 0 10 v)) := pf_Y g (g.2.2.2.1 _ (by decide)) rfl (by simp) rfl (by simp [XF_sF, XJ_sF, XP_sF]) ot_F
theorem z_2_10 {Y : YS} {X : XS} (g : GY Y) {v : Int} (hv : v = 0 ∨ v = 1) : pfZ 2 10 (hp Y X) (Ad Y 2 0) (iI v) = some (hp Y (sF X 2 0 10 v)) := by
  rw [show pfZ 2 10 (hp Y X) (Ad Y 2 0) (iI v) = pf 2 10 (hp Y X) (Ad Y 2 0) (.int (iI v)) from if_pos (by rcases hv with h | h <;> subst h <;> decide)]; exact p_2_10 g
theorem k_3 {Y : YS} {X : XS} {k : Nat} (g : SeO Y k) {β : Type} {t : Option β} : ((ckO 3 (hp Y X) (Ad Y 3 k)).bind fun _ => t) = t := by rw [ck_Y g.1 (g.2 _ (by decide)) rfl]; rfl
theorem g_3_0 {Y : YS} {X : XS} {k : Nat} (g : SeO Y k) : gfN 3 0 (hp Y X) (Ad Y 3 k) = some (Ad Y 22 k) := gN_Y g.1 (g.2 _ (by decide)) rfl rfl
theorem g_3_1 {Y : YS} {X : XS} {k : Nat} (g : SeO Y k) : gfN 3 1 (hp Y X) (Ad Y 3 k) = some (Ad Y 23 k) := gN_Y g.1 (g.2 _ (by decide)) rfl rfl
theorem g_3_2 {Y : YS} {X : XS} {k : Nat} (g : SeO Y k) : gfN 3 2 (hp Y X) (Ad Y 3 k) = some (Ad Y 24 k) := gN_Y g.1 (g.2 _ (by decide)) rfl rfl
theorem g_3_3 {Y : YS} {X : XS} {k : Nat} (g : SeO Y k) : gfI 3 3 (hp Y X) (Ad Y 3 k) = some (iI (XF X 3 k 3)) := gI_Y g.1 (g.2 _ (by decide)) rfl rfl
theorem p_3_3 {Y : YS} {X : XS} {k : Nat} (g : SeO Y k) {v : Int} : pf 3 3 (hp Y X) (Ad Y 3 k) (.int (iI v)) = some (hp Y (sF X 3 k 3 v)) := pf_Y g.1 (g.2 _ (by decide)) rfl (by simp) rfl (by simp [XF_sF, XJ_sF, XP_sF]) ot_F
theorem k_4 {Y : YS} {X : XS} (g : GY Y) {β : Type} {t : Option β} : ((ckO 4 (hp Y X) (Ad Y 4 0)).bind fun _ => t) = t := by rw [ck_Y g (g.2.2.2.1 _ (by decide)) rfl]; rfl
theorem g_4_0 {Y : YS} {X : XS} (g : GY Y) : gfN 4 0 (hp Y X) (Ad Y 4 0) = some (Ad Y 20 0) := gN_Y g (g.2.2.2.1 _ (by decide)) rfl rfl
theorem g_4_1 {Y : YS} {X : XS} (g : GY Y) : gfN 4 1 (hp Y X) (Ad Y 4 0) = some (Ad Y 21 0) := gN_Y g (g.2.2.2.1 _ (by decide)) rfl rfl
theorem g_4_2 {Y : YS} {X : XS} (g : GY Y) : gfI 4 2 (hp Y X) (Ad Y 4 0) = some (iI (XF X 4 0 2)) := gI_Y g (g.2.2.2.1 _ (by decide)) rfl rfl
theorem p_4_2 {Y : YS} {X : XS} (g : GY Y) {v : Int} : pf 4 2 (hp Y X) (Ad Y 4 0) (.int (iI v)) = some (hp Y (sF X 4 0 2 v)) := pf_Y g (g.2.2.2.1 _ (by decide)) rfl (by simp) rfl (by simp [XF_sF, XJ_sF, XP_sF]) ot_F
theorem g_4_3 {Y : YS} {X : XS} (g : GY Y) : gfI 4 3 (hp Y X) (Ad Y 4 0) = some (iI (XF X 4 0 3)) := gI_Y g (g.2.2.2.1 _ (by decide)) rfl rfl
theorem p_4_3 {Y : YS} {X : XS} (g : GY Y) {v : Int} : pf 4 3 (hp Y X) (Ad Y 4 0) (.int (iI v)) = some (hp Y (sF X 4 0 3 v)) := pf_Y g (g.2.2.2.1 _ (by decide)) rfl (by simp) rfl (by simp [XF_sF, XJ_sF, XP_sF]) ot_F
theorem g_4_4 {Y : YS} {X : XS} (g : GY Y) : gfI 4 4 (hp Y X) (Ad Y 4 0) = some (iI (XF X 4 0 4)) := gI_Y g (g.2.2.2.1 _ (by decide)) rfl rfl
theorem p_4_4 {Y : YS} {X : XS} (g : GY Y) {v : Int} : pf 4 4 (hp Y X) (Ad Y 4 0) (.int (iI v)) = some (hp Y (sF X 4 0 4 v)) := pf_Y g (g.2.2.2.1 _ (by decide)) rfl (by simp) rfl (by simp [XF_sF, XJ_sF, XP_sF]) ot_F
theorem g_4_5 {Y : YS} {X : XS} (g : GY Y) : gfI 4 5 (hp Y X) (Ad Y 4 0) = some (iI (XF X 4 0 5)) := gI_Y g (g.2.2.2.1 _ (by decide)) rfl rfl
theorem p_4_5 {Y : YS} {X : XS} (g : GY Y) {v : Int} : pf 4 5 (hp Y X) (Ad Y 4 0) (.int (iI v)) = some (hp Y (sF X 4 0 5 v)) := pf_Y g (g.2.2.2.1 _ (by decide)) rfl (by simp) rfl (by simp [XF_sF, XJ_sF, XP_sF]) ot_F
theorem g_4_6 {Y : YS} {X : XS} (g : GY Y) : gfI 4 6 (hp Y X) (Ad Y 4 0) = some (iI (XF X 4 0 6)) := gI_Y g (g.2.2.2.1 _ (by decide)) rfl rfl
theorem p_4_6 {Y : YS} {X : XS} (g : GY Y) {v : Int} : pf 4 6 (hp Y X) (Ad Y 4 0) (.int (iI v)) = some (hp Y (sF X 4 0 6 v)) := pf_Y g (g.2.2.2.1 _ (by decide)) rfl (by simp) rfl (by simp [XF_sF, XJ_sF, XP_sF]) ot_F
theorem g_4_7 {Y : YS} {X : XS} (g : GY Y) : gfJ 4 7 (hp Y X) (Ad Y 4 0) = some (XJ X 4 0 7) := gJ_Y g (g.2.2.2.1 _ (by decide)) rfl rfl
theorem p_4_7 {Y : YS} {X : XS} (g : GY Y) {v : Int64} : pf 4 7 (hp Y X) (Ad Y 4 0) (.long v) = some (hp Y (sJ X 4 0 (upi (XJ X 4 0) 7 v))) := pf_Y g (g.2.2.2.1 _ (by decide)) rfl (by simp) rfl (by simp [XJ_sJ, upi, XF_sJ]) ot_J
theorem g_4_8 {Y : YS} {X : XS} (g : GY Y) : gfI 4 8 (hp Y X) (Ad Y 4 0) = some (iI (XF X 4 0 8)) := gI_Y g (g.2.2.2.1 _ (by decide)) rfl rfl
theorem p_4_8 {Y : YS} {X : XS} (g : GY Y) {v : Int} : pf 4 8 (hp Y X) (Ad Y 4 0) (.int (iI v)) = some (hp Y (sF X 4 0 8 v)) := pf_Y g (g.2.2.2.1 _ (by decide)) rfl (by simp) rfl (by simp [XF_sF, XJ_sF, XP_sF]) ot_F
theorem g_4_9 {Y : YS} {X : XS} (g : GY Y) : gfI 4 9 (hp Y X) (Ad Y 4 0) = some (iI (XF X 4 0 9)) := gI_Y g (g.2.2.2.1 _ (by decide)) rfl rfl
theorem p_4_9 {Y : YS} {X : XS} (g : GY Y) {v : Int} : pf 4 9 (hp Y X) (Ad Y 4 0) (.int (iI v)) = some (hp Y (sF X 4 0 9 v)) := pf_Y g (g.2.2.2.1 _ (by decide)) rfl (by simp) rfl (by simp [XF_sF, XJ_sF, XP_sF]) ot_F
theorem g_4_10 {Y : YS} {X : XS} (g : GY Y) : gfI 4 10 (hp Y X) (Ad Y 4 0) = some (iI (XF X 4 0 10)) := gI_Y g (g.2.2.2.1 _ (by decide)) rfl rfl
theorem p_4_10 {Y : YS} {X : XS} (g : GY Y) {v : Int} : pf 4 10 (hp Y X) (Ad Y 4 0) (.int (iI v)) = some (hp Y (sF X 4 0 10 v)) := pf_Y g (g.2.2.2.1 _ (by decide)) rfl (by simp) rfl (by simp [XF_sF, XJ_sF, XP_sF]) ot_F
theorem g_4_11 {Y : YS} {X : XS} (g : GY Y) : gfI 4 11 (hp Y X) (Ad Y 4 0) = some (iI (XF X 4 0 11)) := gI_Y g (g.2.2.2.1 _ (by decide)) rfl rfl
theorem p_4_11 {Y : YS} {X : XS} (g : GY Y) {v : Int} : pf 4 11 (hp Y X) (Ad Y 4 0) (.int (iI v)) = some (hp Y (sF X 4 0 11 v)) := pf_Y g (g.2.2.2.1 _ (by decide)) rfl (by simp) rfl (by simp [XF_sF, XJ_sF, XP_sF]) ot_F
theorem k_5 {Y : YS} {X : XS} (g : GY Y) {β : Type} {t : Option β} : ((ckO 5 (hp Y X) (Ad Y 5 0)).bind fun _ => t) = t := by rw [ck_Y g (g.2.2.2.1 _ (by decide)) rfl]; rfl
theorem g_5_0 {Y : YS} {X : XS} (g : GY Y) : gfN 5 0 (hp Y X) (Ad Y 5 0) = some (Ad Y 6 0) := gN_Y g (g.2.2.2.1 _ (by decide)) rfl rfl
theorem g_5_1 {Y : YS} {X : XS} (g : GY Y) : gfN 5 1 (hp Y X) (Ad Y 5 0) = some (Ad Y 20 0) := gN_Y g (g.2.2.2.1 _ (by decide)) rfl rfl
theorem g_5_2 {Y : YS} {X : XS} (g : GY Y) : gfN 5 2 (hp Y X) (Ad Y 5 0) = some (Ad Y 50 0) := gN_Y g (g.2.2.2.1 _ (by decide)) rfl rfl
theorem k_6 {Y : YS} {X : XS} {k : Nat} (g : SeO Y k) {β : Type} {t : Option β} : ((ckO 6 (hp Y X) (Ad Y 6 k)).bind fun _ => t) = t := by rw [ck_Y g.1 (g.2 _ (by decide)) rfl]; rfl
theorem g_6_0 {Y : YS} {X : XS} {k : Nat} (g : SeO Y k) : gfN 6 0 (hp Y X) (Ad Y 6 k) = some (Ad Y 3 k) := gN_Y g.1 (g.2 _ (by decide)) rfl rfl
theorem g_6_1 {Y : YS} {X : XS} {k : Nat} (g : SeO Y k) : gfN 6 1 (hp Y X) (Ad Y 6 k) = some (Ad Y 25 k) := gN_Y g.1 (g.2 _ (by decide)) rfl rfl
theorem g_6_2 {Y : YS} {X : XS} {k : Nat} (g : SeO Y k) : gfI 6 2 (hp Y X) (Ad Y 6 k) = some (iI (XF X 6 k 2)) := gI_Y g.1 (g.2 _ (by decide)) rfl rfl
theorem p_6_2 {Y : YS} {X : XS} {k : Nat} (g : SeO Y k) {v : Int} : pf 6 2 (hp Y X) (Ad Y 6 k) (.int (iI v)) = some (hp Y (sF X 6 k 2 v)) := pf_Y g.1 (g.2 _ (by decide)) rfl (by simp) rfl (by simp [XF_sF, XJ_sF, XP_sF]) ot_F
theorem g_6_3 {Y : YS} {X : XS} {k : Nat} (g : SeO Y k) : gfN 6 3 (hp Y X) (Ad Y 6 k) = some (Ad Y 26 k) := gN_Y g.1 (g.2 _ (by decide)) rfl rfl
theorem g_6_4 {Y : YS} {X : XS} {k : Nat} (g : SeO Y k) : gfN 6 4 (hp Y X) (Ad Y 6 k) = some (Ad Y 27 k) := gN_Y g.1 (g.2 _ (by decide)) rfl rfl
theorem g_6_5 {Y : YS} {X : XS} {k : Nat} (g : SeO Y k) : gfN 6 5 (hp Y X) (Ad Y 6 k) = some (Ad Y 28 k) := gN_Y g.1 (g.2 _ (by decide)) rfl rfl
theorem g_6_6 {Y : YS} {X : XS} {k : Nat} (g : SeO Y k) : gfN 6 6 (hp Y X) (Ad Y 6 k) = some (Ad Y 29 k) := gN_Y g.1 (g.2 _ (by decide)) rfl rfl
theorem g_6_7 {Y : YS} {X : XS} {k : Nat} (g : SeO Y k) : gfN 6 7 (hp Y X) (Ad Y 6 k) = some (Ad Y 30 k) := gN_Y g.1 (g.2 _ (by decide)) rfl rfl
theorem g_6_8 {Y : YS} {X : XS} {k : Nat} (g : SeO Y k) : gfN 6 8 (hp Y X) (Ad Y 6 k) = some (Ad Y 31 k) := gN_Y g.1 (g.2 _ (by decide)) rfl rfl
theorem g_6_9 {Y : YS} {X : XS} {k : Nat} (g : SeO Y k) : gfN 6 9 (hp Y X) (Ad Y 6 k) = some (Ad Y 32 k) := gN_Y g.1 (g.2 _ (by decide)) rfl rfl
theorem g_6_10 {Y : YS} {X : XS} {k : Nat} (g : SeO Y k) : gfN 6 10 (hp Y X) (Ad Y 6 k) = some (Ad Y 33 k) := gN_Y g.1 (g.2 _ (by decide)) rfl rfl
theorem g_6_11 {Y : YS} {X : XS} {k : Nat} (g : SeO Y k) : gfN 6 11 (hp Y X) (Ad Y 6 k) = some (Ad Y 34 k) := gN_Y g.1 (g.2 _ (by decide)) rfl rfl
theorem g_6_12 {Y : YS} {X : XS} {k : Nat} (g : SeO Y k) : gfN 6 12 (hp Y X) (Ad Y 6 k) = some (Ad Y 35 k) := gN_Y g.1 (g.2 _ (by decide)) rfl rfl
theorem k_7 {Y : YS} {X : XS} (g : GY Y) {β : Type} {t : Option β} : ((ckO 7 (hp Y X) (Ad Y 7 0)).bind fun _ => t) = t := by rw [ck_Y g (g.2.2.2.1 _ (by decide)) rfl]; rfl
theorem g_7_0 {Y : YS} {X : XS} (g : GY Y) : gfN 7 0 (hp Y X) (Ad Y 7 0) = some (Ad Y 4 0) := gN_Y g (g.2.2.2.1 _ (by decide)) rfl rfl
theorem g_7_1 {Y : YS} {X : XS} (g : GY Y) : gfN 7 1 (hp Y X) (Ad Y 7 0) = some (Ad Y 6 1) := gN_Y g (g.2.2.2.1 _ (by decide)) rfl rfl
theorem g_7_2 {Y : YS} {X : XS} (g : GY Y) : gfI 7 2 (hp Y X) (Ad Y 7 0) = some (iI (XF X 7 0 2)) := gI_Y g (g.2.2.2.1 _ (by decide)) rfl rfl
theorem p_7_2 {Y : YS} {X : XS} (g : GY Y) {v : Int} : pf 7 2 (hp Y X) (Ad Y 7 0) (.int (iI v)) = some (hp Y (sF X 7 0 2 v)) := pf_Y g (g.2.2.2.1 _ (by decide)) rfl (by simp) rfl (by simp [XF_sF, XJ_sF, XP_sF]) ot_F
theorem z_7_2 {Y : YS} {X : XS} (g : GY Y) {v : Int} (hv : v = 0 ∨ v = 1) : pfZ 7 2 (hp Y X) (Ad Y 7 0) (iI v) = some (hp Y (sF X 7 0 2 v)) := by
  rw [show pfZ 7 2 (hp Y X) (Ad Y 7 0) (iI v) = pf 7 2 (hp Y X) (Ad Y 7 0) (.int (iI v)) from if_pos (by rcases hv with h | h <;> subst h <;> decide)]; exact p_7_2 g
theorem k_8 {Y : YS} {X : XS} {k : Nat} (g : StO Y k) {β : Type} {t : Option β} : ((ckO 8 (hp Y X) (Ad Y 8 k)).bind fun _ => t) = t := by rw [ck_Y g.1 (g.2 _ (by decide)) rfl]; rfl
theorem g_8_0 {Y : YS} {X : XS} {k : Nat} (g : StO Y k) : gfN 8 0 (hp Y X) (Ad Y 8 k) = some (Ad Y 36 k) := gN_Y g.1 (g.2 _ (by decide)) rfl rfl
theorem g_8_1 {Y : YS} {X : XS} {k : Nat} (g : StO Y k) : gfN 8 1 (hp Y X) (Ad Y 8 k) = some (Ad Y 37 k) := gN_Y g.1 (g.2 _ (by decide)) rfl rfl
theorem g_8_2 {Y : YS} {X : XS} {k : Nat} (g : StO Y k) : gfN 8 2 (hp Y X) (Ad Y 8 k) = some (Ad Y 38 k) := gN_Y g.1 (g.2 _ (by decide)) rfl rfl
theorem g_8_3 {Y : YS} {X : XS} {k : Nat} (g : StO Y k) : gfI 8 3 (hp Y X) (Ad Y 8 k) = some (iI (XF X 8 k 3)) := gI_Y g.1 (g.2 _ (by decide)) rfl rfl
theorem p_8_3 {Y : YS} {X : XS} {k : Nat} (g : StO Y k) {v : Int} : pf 8 3 (hp Y X) (Ad Y 8 k) (.int (iI v)) = some (hp Y (sF X 8 k 3 v)) := pf_Y g.1 (g.2 _ (by decide)) rfl (by simp) rfl (by simp [XF_sF, XJ_sF, XP_sF]) ot_F
theorem g_8_4 {Y : YS} {X : XS} {k : Nat} (g : StO Y k) : gfN 8 4 (hp Y X) (Ad Y 8 k) = some (Ad Y 39 k) := gN_Y g.1 (g.2 _ (by decide)) rfl rfl
theorem k_9 {Y : YS} {X : XS} (g : GY Y) {β : Type} {t : Option β} : ((ckO 9 (hp Y X) (Ad Y 9 0)).bind fun _ => t) = t := by rw [ck_Y g (g.2.2.2.1 _ (by decide)) rfl]; rfl
theorem g_9_0 {Y : YS} {X : XS} (g : GY Y) : gfN 9 0 (hp Y X) (Ad Y 9 0) = some (Ad Y 4 0) := gN_Y g (g.2.2.2.1 _ (by decide)) rfl rfl
theorem g_9_1 {Y : YS} {X : XS} (g : GY Y) : gfN 9 1 (hp Y X) (Ad Y 9 0) = some (Ad Y 3 0) := gN_Y g (g.2.2.2.1 _ (by decide)) rfl rfl
theorem g_9_2 {Y : YS} {X : XS} (g : GY Y) : gfN 9 2 (hp Y X) (Ad Y 9 0) = some (Ad Y 8 1) := gN_Y g (g.2.2.2.1 _ (by decide)) rfl rfl
theorem g_9_3 {Y : YS} {X : XS} (g : GY Y) : gfI 9 3 (hp Y X) (Ad Y 9 0) = some (iI (XF X 9 0 3)) := gI_Y g (g.2.2.2.1 _ (by decide)) rfl rfl
theorem p_9_3 {Y : YS} {X : XS} (g : GY Y) {v : Int} : pf 9 3 (hp Y X) (Ad Y 9 0) (.int (iI v)) = some (hp Y (sF X 9 0 3 v)) := pf_Y g (g.2.2.2.1 _ (by decide)) rfl (by simp) rfl (by simp [XF_sF, XJ_sF, XP_sF]) ot_F
theorem k_10 {Y : YS} {X : XS} {k : Nat} (g : ShO Y k) {β : Type} {t : Option β} : ((ckO 10 (hp Y X) (Ad Y 10 k)).bind fun _ => t) = t := by rw [ck_Y g.1 (g.2 _ (by decide)) rfl]; rfl
theorem g_10_0 {Y : YS} {X : XS} {k : Nat} (g : ShO Y k) : gfN 10 0 (hp Y X) (Ad Y 10 k) = some (Ad Y 6 (shs k)) := gN_Y g.1 (g.2 _ (by decide)) rfl rfl
theorem g_10_1 {Y : YS} {X : XS} {k : Nat} (g : ShO Y k) : gfI 10 1 (hp Y X) (Ad Y 10 k) = some (iI (XF X 10 k 1)) := gI_Y g.1 (g.2 _ (by decide)) rfl rfl
theorem p_10_1 {Y : YS} {X : XS} {k : Nat} (g : ShO Y k) {v : Int} : pf 10 1 (hp Y X) (Ad Y 10 k) (.int (iI v)) = some (hp Y (sF X 10 k 1 v)) := pf_Y g.1 (g.2 _ (by decide)) rfl (by simp) rfl (by simp [XF_sF, XJ_sF, XP_sF]) ot_F
theorem g_10_2 {Y : YS} {X : XS} {k : Nat} (g : ShO Y k) : gfI 10 2 (hp Y X) (Ad Y 10 k) = some (iI (XF X 10 k 2)) := gI_Y g.1 (g.2 _ (by decide)) rfl rfl
theorem p_10_2 {Y : YS} {X : XS} {k : Nat} (g : ShO Y k) {v : Int} : pf 10 2 (hp Y X) (Ad Y 10 k) (.int (iI v)) = some (hp Y (sF X 10 k 2 v)) := pf_Y g.1 (g.2 _ (by decide)) rfl (by simp) rfl (by simp [XF_sF, XJ_sF, XP_sF]) ot_F
theorem g_10_3 {Y : YS} {X : XS} {k : Nat} (g : ShO Y k) : gfI 10 3 (hp Y X) (Ad Y 10 k) = some (iI (XF X 10 k 3)) := gI_Y g.1 (g.2 _ (by decide)) rfl rfl
theorem p_10_3 {Y : YS} {X : XS} {k : Nat} (g : ShO Y k) {v : Int} : pf 10 3 (hp Y X) (Ad Y 10 k) (.int (iI v)) = some (hp Y (sF X 10 k 3 v)) := pf_Y g.1 (g.2 _ (by decide)) rfl (by simp) rfl (by simp [XF_sF, XJ_sF, XP_sF]) ot_F
theorem g_10_4 {Y : YS} {X : XS} {k : Nat} (g : ShO Y k) : gfI 10 4 (hp Y X) (Ad Y 10 k) = some (iI (XF X 10 k 4)) := gI_Y g.1 (g.2 _ (by decide)) rfl rfl
theorem p_10_4 {Y : YS} {X : XS} {k : Nat} (g : ShO Y k) {v : Int} : pf 10 4 (hp Y X) (Ad Y 10 k) (.int (iI v)) = some (hp Y (sF X 10 k 4 v)) := pf_Y g.1 (g.2 _ (by decide)) rfl (by simp) rfl (by simp [XF_sF, XJ_sF, XP_sF]) ot_F
theorem g_10_5 {Y : YS} {X : XS} {k : Nat} (g : ShO Y k) : gfI 10 5 (hp Y X) (Ad Y 10 k) = some (iI (XF X 10 k 5)) := gI_Y g.1 (g.2 _ (by decide)) rfl rfl
theorem p_10_5 {Y : YS} {X : XS} {k : Nat} (g : ShO Y k) {v : Int} : pf 10 5 (hp Y X) (Ad Y 10 k) (.int (iI v)) = some (hp Y (sF X 10 k 5 v)) := pf_Y g.1 (g.2 _ (by decide)) rfl (by simp) rfl (by simp [XF_sF, XJ_sF, XP_sF]) ot_F
theorem g_10_6 {Y : YS} {X : XS} {k : Nat} (g : ShO Y k) : gfI 10 6 (hp Y X) (Ad Y 10 k) = some (iI (XF X 10 k 6)) := gI_Y g.1 (g.2 _ (by decide)) rfl rfl
theorem p_10_6 {Y : YS} {X : XS} {k : Nat} (g : ShO Y k) {v : Int} : pf 10 6 (hp Y X) (Ad Y 10 k) (.int (iI v)) = some (hp Y (sF X 10 k 6 v)) := pf_Y g.1 (g.2 _ (by decide)) rfl (by simp) rfl (by simp [XF_sF, XJ_sF, XP_sF]) ot_F
theorem z_10_6 {Y : YS} {X : XS} {k : Nat} (g : ShO Y k) {v : Int} (hv : v = 0 ∨ v = 1) : pfZ 10 6 (hp Y X) (Ad Y 10 k) (iI v) = some (hp Y (sF X 10 k 6 v)) := by
  rw [show pfZ 10 6 (hp Y X) (Ad Y 10 k) (iI v) = pf 10 6 (hp Y X) (Ad Y 10 k) (.int (iI v)) from if_pos (by rcases hv with h | h <;> subst h <;> decide)]; exact p_10_6 g
theorem g_10_7 {Y : YS} {X : XS} {k : Nat} (g : ShO Y k) : gfI 10 7 (hp Y X) (Ad Y 10 k) = some (iI (XF X 10 k 7)) := gI_Y g.1 (g.2 _ (by decide)) rfl rfl
theorem p_10_7 {Y : YS} {X : XS} {k : Nat} (g : ShO Y k) {v : Int} : pf 10 7 (hp Y X) (Ad Y 10 k) (.int (iI v)) = some (hp Y (sF X 10 k 7 v)) := pf_Y g.1 (g.2 _ (by decide)) rfl (by simp) rfl (by simp [XF_sF, XJ_sF, XP_sF]) ot_F
theorem g_10_8 {Y : YS} {X : XS} {k : Nat} (g : ShO Y k) : gfI 10 8 (hp Y X) (Ad Y 10 k) = some (iI (XF X 10 k 8)) := gI_Y g.1 (g.2 _ (by decide)) rfl rfl
theorem p_10_8 {Y : YS} {X : XS} {k : Nat} (g : ShO Y k) {v : Int} : pf 10 8 (hp Y X) (Ad Y 10 k) (.int (iI v)) = some (hp Y (sF X 10 k 8 v)) := pf_Y g.1 (g.2 _ (by decide)) rfl (by simp) rfl (by simp [XF_sF, XJ_sF, XP_sF]) ot_F
theorem g_10_9 {Y : YS} {X : XS} {k : Nat} (g : ShO Y k) : gfN 10 9 (hp Y X) (Ad Y 10 k) = some (Ad Y 43 k) := gN_Y g.1 (g.2 _ (by decide)) rfl rfl
theorem g_10_10 {Y : YS} {X : XS} {k : Nat} (g : ShO Y k) : gfN 10 10 (hp Y X) (Ad Y 10 k) = some (Ad Y 44 k) := gN_Y g.1 (g.2 _ (by decide)) rfl rfl
theorem g_10_11 {Y : YS} {X : XS} {k : Nat} (g : ShO Y k) : gfN 10 11 (hp Y X) (Ad Y 10 k) = some (Ad Y 45 k) := gN_Y g.1 (g.2 _ (by decide)) rfl rfl
theorem g_10_12 {Y : YS} {X : XS} {k : Nat} (g : ShO Y k) : gfN 10 12 (hp Y X) (Ad Y 10 k) = some (Ad Y 46 k) := gN_Y g.1 (g.2 _ (by decide)) rfl rfl
theorem g_10_13 {Y : YS} {X : XS} {k : Nat} (g : ShO Y k) : gfI 10 13 (hp Y X) (Ad Y 10 k) = some (iI (XF X 10 k 13)) := gI_Y g.1 (g.2 _ (by decide)) rfl rfl
theorem p_10_13 {Y : YS} {X : XS} {k : Nat} (g : ShO Y k) {v : Int} : pf 10 13 (hp Y X) (Ad Y 10 k) (.int (iI v)) = some (hp Y (sF X 10 k 13 v)) := pf_Y g.1 (g.2 _ (by decide)) rfl (by simp) rfl (by simp [XF_sF, XJ_sF, XP_sF]) ot_F
theorem k_11 {Y : YS} {X : XS} (g : GY Y) {β : Type} {t : Option β} : ((ckO 11 (hp Y X) (Ad Y 11 0)).bind fun _ => t) = t := by rw [ck_Y g (g.2.2.2.1 _ (by decide)) rfl]; rfl
theorem g_11_0 {Y : YS} {X : XS} (g : GY Y) : gfN 11 0 (hp Y X) (Ad Y 11 0) = some (Ad Y 20 0) := gN_Y g (g.2.2.2.1 _ (by decide)) rfl rfl
theorem g_11_1 {Y : YS} {X : XS} (g : GY Y) : gfI 11 1 (hp Y X) (Ad Y 11 0) = some (iI (XF X 11 0 1)) := gI_Y g (g.2.2.2.1 _ (by decide)) rfl rfl
theorem p_11_1 {Y : YS} {X : XS} (g : GY Y) {v : Int} : pf 11 1 (hp Y X) (Ad Y 11 0) (.int (iI v)) = some (hp Y (sF X 11 0 1 v)) := pf_Y g (g.2.2.2.1 _ (by decide)) rfl (by simp) rfl (by simp [XF_sF, XJ_sF, XP_sF]) ot_F
theorem g_11_2 {Y : YS} {X : XS} (g : GY Y) : gfN 11 2 (hp Y X) (Ad Y 11 0) = some (Ad Y 4 0) := gN_Y g (g.2.2.2.1 _ (by decide)) rfl rfl
theorem g_11_3 {Y : YS} {X : XS} (g : GY Y) : gfI 11 3 (hp Y X) (Ad Y 11 0) = some (iI (XF X 11 0 3)) := gI_Y g (g.2.2.2.1 _ (by decide)) rfl rfl
theorem p_11_3 {Y : YS} {X : XS} (g : GY Y) {v : Int} : pf 11 3 (hp Y X) (Ad Y 11 0) (.int (iI v)) = some (hp Y (sF X 11 0 3 v)) := pf_Y g (g.2.2.2.1 _ (by decide)) rfl (by simp) rfl (by simp [XF_sF, XJ_sF, XP_sF]) ot_F
theorem g_11_4 {Y : YS} {X : XS} (g : GY Y) : gfN 11 4 (hp Y X) (Ad Y 11 0) = some (Ad Y 6 0) := gN_Y g (g.2.2.2.1 _ (by decide)) rfl rfl
theorem g_11_5 {Y : YS} {X : XS} (g : GY Y) : gfN 11 5 (hp Y X) (Ad Y 11 0) = some (Ad Y 6 1) := gN_Y g (g.2.2.2.1 _ (by decide)) rfl rfl
theorem g_11_6 {Y : YS} {X : XS} (g : GY Y) : gfN 11 6 (hp Y X) (Ad Y 11 0) = some (Ad Y 7 0) := gN_Y g (g.2.2.2.1 _ (by decide)) rfl rfl
theorem g_11_7 {Y : YS} {X : XS} (g : GY Y) : gfN 11 7 (hp Y X) (Ad Y 11 0) = some (Ad Y 8 0) := gN_Y g (g.2.2.2.1 _ (by decide)) rfl rfl
theorem g_11_8 {Y : YS} {X : XS} (g : GY Y) : gfN 11 8 (hp Y X) (Ad Y 11 0) = some (Ad Y 8 1) := gN_Y g (g.2.2.2.1 _ (by decide)) rfl rfl
theorem g_11_9 {Y : YS} {X : XS} (g : GY Y) : gfN 11 9 (hp Y X) (Ad Y 11 0) = some (Ad Y 9 0) := gN_Y g (g.2.2.2.1 _ (by decide)) rfl rfl
theorem g_11_10 {Y : YS} {X : XS} (g : GY Y) : gfN 11 10 (hp Y X) (Ad Y 11 0) = some (Ad Y 2 0) := gN_Y g (g.2.2.2.1 _ (by decide)) rfl rfl
theorem g_11_11 {Y : YS} {X : XS} (g : GY Y) : gfN 11 11 (hp Y X) (Ad Y 11 0) = some (Ad Y 10 (XP X 0)) := gN_Y g (g.2.2.2.1 _ (by decide)) rfl rfl
theorem g_11_12 {Y : YS} {X : XS} (g : GY Y) : gfN 11 12 (hp Y X) (Ad Y 11 0) = some (Ad Y 10 (XP X 1)) := gN_Y g (g.2.2.2.1 _ (by decide)) rfl rfl
theorem g_11_13 {Y : YS} {X : XS} (g : GY Y) : gfN 11 13 (hp Y X) (Ad Y 11 0) = some (Ad Y 47 0) := gN_Y g (g.2.2.2.1 _ (by decide)) rfl rfl
theorem g_11_14 {Y : YS} {X : XS} (g : GY Y) : gfI 11 14 (hp Y X) (Ad Y 11 0) = some (iI (XF X 11 0 14)) := gI_Y g (g.2.2.2.1 _ (by decide)) rfl rfl
theorem p_11_14 {Y : YS} {X : XS} (g : GY Y) {v : Int} : pf 11 14 (hp Y X) (Ad Y 11 0) (.int (iI v)) = some (hp Y (sF X 11 0 14 v)) := pf_Y g (g.2.2.2.1 _ (by decide)) rfl (by simp) rfl (by simp [XF_sF, XJ_sF, XP_sF]) ot_F
theorem g_11_15 {Y : YS} {X : XS} (g : GY Y) : gfN 11 15 (hp Y X) (Ad Y 11 0) = some (Ad Y 48 0) := gN_Y g (g.2.2.2.1 _ (by decide)) rfl rfl
theorem g_11_16 {Y : YS} {X : XS} (g : GY Y) : gfN 11 16 (hp Y X) (Ad Y 11 0) = some (Ad Y 0 0) := gN_Y g (g.2.2.2.1 _ (by decide)) rfl rfl
theorem g_11_17 {Y : YS} {X : XS} (g : GY Y) : gfN 11 17 (hp Y X) (Ad Y 11 0) = some (Ad Y 5 0) := gN_Y g (g.2.2.2.1 _ (by decide)) rfl rfl
theorem k_12 {Y : YS} {X : XS} (g : GY Y) {β : Type} {t : Option β} : ((ckO 12 (hp Y X) (Ad Y 12 0)).bind fun _ => t) = t := by rw [ck_Y g (g.2.2.2.1 _ (by decide)) rfl]; rfl
theorem g_12_0 {Y : YS} {X : XS} (g : GY Y) : gfI 12 0 (hp Y X) (Ad Y 12 0) = some (iI (XF X 12 0 0)) := gI_Y g (g.2.2.2.1 _ (by decide)) rfl rfl
theorem p_12_0 {Y : YS} {X : XS} (g : GY Y) {v : Int} : pf 12 0 (hp Y X) (Ad Y 12 0) (.int (iI v)) = some (hp Y (sF X 12 0 0 v)) := pf_Y g (g.2.2.2.1 _ (by decide)) rfl (by simp) rfl (by simp [XF_sF, XJ_sF, XP_sF]) ot_F
theorem g_12_1 {Y : YS} {X : XS} (g : GY Y) : gfN 12 1 (hp Y X) (Ad Y 12 0) = some (Ad Y 60 0) := gN_Y g (g.2.2.2.1 _ (by decide)) rfl rfl
theorem g_12_2 {Y : YS} {X : XS} (g : GY Y) : gfI 12 2 (hp Y X) (Ad Y 12 0) = some (iI (XF X 12 0 2)) := gI_Y g (g.2.2.2.1 _ (by decide)) rfl rfl
theorem p_12_2 {Y : YS} {X : XS} (g : GY Y) {v : Int} : pf 12 2 (hp Y X) (Ad Y 12 0) (.int (iI v)) = some (hp Y (sF X 12 0 2 v)) := pf_Y g (g.2.2.2.1 _ (by decide)) rfl (by simp) rfl (by simp [XF_sF, XJ_sF, XP_sF]) ot_F
theorem g_12_3 {Y : YS} {X : XS} (g : GY Y) : gfI 12 3 (hp Y X) (Ad Y 12 0) = some (iI (XF X 12 0 3)) := gI_Y g (g.2.2.2.1 _ (by decide)) rfl rfl
theorem p_12_3 {Y : YS} {X : XS} (g : GY Y) {v : Int} : pf 12 3 (hp Y X) (Ad Y 12 0) (.int (iI v)) = some (hp Y (sF X 12 0 3 v)) := pf_Y g (g.2.2.2.1 _ (by decide)) rfl (by simp) rfl (by simp [XF_sF, XJ_sF, XP_sF]) ot_F
theorem g_12_4 {Y : YS} {X : XS} (g : GY Y) : gfI 12 4 (hp Y X) (Ad Y 12 0) = some (iI (XF X 12 0 4)) := gI_Y g (g.2.2.2.1 _ (by decide)) rfl rfl
theorem p_12_4 {Y : YS} {X : XS} (g : GY Y) {v : Int} : pf 12 4 (hp Y X) (Ad Y 12 0) (.int (iI v)) = some (hp Y (sF X 12 0 4 v)) := pf_Y g (g.2.2.2.1 _ (by decide)) rfl (by simp) rfl (by simp [XF_sF, XJ_sF, XP_sF]) ot_F
theorem g_12_5 {Y : YS} {X : XS} (g : GY Y) : gfI 12 5 (hp Y X) (Ad Y 12 0) = some (iI (XF X 12 0 5)) := gI_Y g (g.2.2.2.1 _ (by decide)) rfl rfl
theorem p_12_5 {Y : YS} {X : XS} (g : GY Y) {v : Int} : pf 12 5 (hp Y X) (Ad Y 12 0) (.int (iI v)) = some (hp Y (sF X 12 0 5 v)) := pf_Y g (g.2.2.2.1 _ (by decide)) rfl (by simp) rfl (by simp [XF_sF, XJ_sF, XP_sF]) ot_F
theorem g_12_6 {Y : YS} {X : XS} (g : GY Y) : gfN 12 6 (hp Y X) (Ad Y 12 0) = some (Ad Y 61 0) := gN_Y g (g.2.2.2.1 _ (by decide)) rfl rfl
theorem g_12_7 {Y : YS} {X : XS} (g : GY Y) : gfN 12 7 (hp Y X) (Ad Y 12 0) = some (Ad Y 62 0) := gN_Y g (g.2.2.2.1 _ (by decide)) rfl rfl
theorem g_12_8 {Y : YS} {X : XS} (g : GY Y) : gfN 12 8 (hp Y X) (Ad Y 12 0) = some (Ad Y 63 0) := gN_Y g (g.2.2.2.1 _ (by decide)) rfl rfl
theorem g_12_9 {Y : YS} {X : XS} (g : GY Y) : gfN 12 9 (hp Y X) (Ad Y 12 0) = some (Ad Y 64 0) := gN_Y g (g.2.2.2.1 _ (by decide)) rfl rfl
theorem g_12_10 {Y : YS} {X : XS} (g : GY Y) : gfN 12 10 (hp Y X) (Ad Y 12 0) = some (Ad Y 65 0) := gN_Y g (g.2.2.2.1 _ (by decide)) rfl rfl
theorem g_12_11 {Y : YS} {X : XS} (g : GY Y) : gfI 12 11 (hp Y X) (Ad Y 12 0) = some (iI (XF X 12 0 11)) := gI_Y g (g.2.2.2.1 _ (by decide)) rfl rfl
theorem p_12_11 {Y : YS} {X : XS} (g : GY Y) {v : Int} : pf 12 11 (hp Y X) (Ad Y 12 0) (.int (iI v)) = some (hp Y (sF X 12 0 11 v)) := pf_Y g (g.2.2.2.1 _ (by decide)) rfl (by simp) rfl (by simp [XF_sF, XJ_sF, XP_sF]) ot_F
theorem g_12_12 {Y : YS} {X : XS} (g : GY Y) : gfI 12 12 (hp Y X) (Ad Y 12 0) = some (iI (XF X 12 0 12)) := gI_Y g (g.2.2.2.1 _ (by decide)) rfl rfl
theorem p_12_12 {Y : YS} {X : XS} (g : GY Y) {v : Int} : pf 12 12 (hp Y X) (Ad Y 12 0) (.int (iI v)) = some (hp Y (sF X 12 0 12 v)) := pf_Y g (g.2.2.2.1 _ (by decide)) rfl (by simp) rfl (by simp [XF_sF, XJ_sF, XP_sF]) ot_F
theorem g_12_13 {Y : YS} {X : XS} (g : GY Y) : gfI 12 13 (hp Y X) (Ad Y 12 0) = some (iI (XF X 12 0 13)) := gI_Y g (g.2.2.2.1 _ (by decide)) rfl rfl
theorem p_12_13 {Y : YS} {X : XS} (g : GY Y) {v : Int} : pf 12 13 (hp Y X) (Ad Y 12 0) (.int (iI v)) = some (hp Y (sF X 12 0 13 v)) := pf_Y g (g.2.2.2.1 _ (by decide)) rfl (by simp) rfl (by simp [XF_sF, XJ_sF, XP_sF]) ot_F
theorem g_12_14 {Y : YS} {X : XS} (g : GY Y) : gfI 12 14 (hp Y X) (Ad Y 12 0) = some (iI (XF X 12 0 14)) := gI_Y g (g.2.2.2.1 _ (by decide)) rfl rfl
theorem p_12_14 {Y : YS} {X : XS} (g : GY Y) {v : Int} : pf 12 14 (hp Y X) (Ad Y 12 0) (.int (iI v)) = some (hp Y (sF X 12 0 14 v)) := pf_Y g (g.2.2.2.1 _ (by decide)) rfl (by simp) rfl (by simp [XF_sF, XJ_sF, XP_sF]) ot_F
theorem g_12_15 {Y : YS} {X : XS} (g : GY Y) : gfI 12 15 (hp Y X) (Ad Y 12 0) = some (iI (XF X 12 0 15)) := gI_Y g (g.2.2.2.1 _ (by decide)) rfl rfl
theorem p_12_15 {Y : YS} {X : XS} (g : GY Y) {v : Int} : pf 12 15 (hp Y X) (Ad Y 12 0) (.int (iI v)) = some (hp Y (sF X 12 0 15 v)) := pf_Y g (g.2.2.2.1 _ (by decide)) rfl (by simp) rfl (by simp [XF_sF, XJ_sF, XP_sF]) ot_F
theorem g_12_16 {Y : YS} {X : XS} (g : GY Y) : gfI 12 16 (hp Y X) (Ad Y 12 0) = some (iI (XF X 12 0 16)) := gI_Y g (g.2.2.2.1 _ (by decide)) rfl rfl
theorem p_12_16 {Y : YS} {X : XS} (g : GY Y) {v : Int} : pf 12 16 (hp Y X) (Ad Y 12 0) (.int (iI v)) = some (hp Y (sF X 12 0 16 v)) := pf_Y g (g.2.2.2.1 _ (by decide)) rfl (by simp) rfl (by simp [XF_sF, XJ_sF, XP_sF]) ot_F
theorem g_12_17 {Y : YS} {X : XS} (g : GY Y) : gfJ 12 17 (hp Y X) (Ad Y 12 0) = some (XJ X 12 0 17) := gJ_Y g (g.2.2.2.1 _ (by decide)) rfl rfl
theorem p_12_17 {Y : YS} {X : XS} (g : GY Y) {v : Int64} : pf 12 17 (hp Y X) (Ad Y 12 0) (.long v) = some (hp Y (sJ X 12 0 (upi (XJ X 12 0) 17 v))) := pf_Y g (g.2.2.2.1 _ (by decide)) rfl (by simp) rfl (by simp [XJ_sJ, upi, XF_sJ]) ot_J
theorem g_12_18 {Y : YS} {X : XS} (g : GY Y) : gfI 12 18 (hp Y X) (Ad Y 12 0) = some (iI (XF X 12 0 18)) := gI_Y g (g.2.2.2.1 _ (by decide)) rfl rfl
theorem p_12_18 {Y : YS} {X : XS} (g : GY Y) {v : Int} : pf 12 18 (hp Y X) (Ad Y 12 0) (.int (iI v)) = some (hp Y (sF X 12 0 18 v)) := pf_Y g (g.2.2.2.1 _ (by decide)) rfl (by simp) rfl (by simp [XF_sF, XJ_sF, XP_sF]) ot_F
theorem g_12_19 {Y : YS} {X : XS} (g : GY Y) : gfI 12 19 (hp Y X) (Ad Y 12 0) = some (iI (XF X 12 0 19)) := gI_Y g (g.2.2.2.1 _ (by decide)) rfl rfl
theorem p_12_19 {Y : YS} {X : XS} (g : GY Y) {v : Int} : pf 12 19 (hp Y X) (Ad Y 12 0) (.int (iI v)) = some (hp Y (sF X 12 0 19 v)) := pf_Y g (g.2.2.2.1 _ (by decide)) rfl (by simp) rfl (by simp [XF_sF, XJ_sF, XP_sF]) ot_F
theorem g_12_20 {Y : YS} {X : XS} (g : GY Y) : gfI 12 20 (hp Y X) (Ad Y 12 0) = some (iI (XF X 12 0 20)) := gI_Y g (g.2.2.2.1 _ (by decide)) rfl rfl
theorem p_12_20 {Y : YS} {X : XS} (g : GY Y) {v : Int} : pf 12 20 (hp Y X) (Ad Y 12 0) (.int (iI v)) = some (hp Y (sF X 12 0 20 v)) := pf_Y g (g.2.2.2.1 _ (by decide)) rfl (by simp) rfl (by simp [XF_sF, XJ_sF, XP_sF]) ot_F
theorem z_12_20 {Y : YS} {X : XS} (g : GY Y) {v : Int} (hv : v = 0 ∨ v = 1) : pfZ 12 20 (hp Y X) (Ad Y 12 0) (iI v) = some (hp Y (sF X 12 0 20 v)) := by
  rw [show pfZ 12 20 (hp Y X) (Ad Y 12 0) (iI v) = pf 12 20 (hp Y X) (Ad Y 12 0) (.int (iI v)) from if_pos (by rcases hv with h | h <;> subst h <;> decide)]; exact p_12_20 g
theorem g_12_21 {Y : YS} {X : XS} (g : GY Y) : gfN 12 21 (hp Y X) (Ad Y 12 0) = some (Ad Y 66 0) := gN_Y g (g.2.2.2.1 _ (by decide)) rfl rfl
theorem g_12_22 {Y : YS} {X : XS} (g : GY Y) : gfN 12 22 (hp Y X) (Ad Y 12 0) = some (Ad Y 67 0) := gN_Y g (g.2.2.2.1 _ (by decide)) rfl rfl
theorem g_12_23 {Y : YS} {X : XS} (g : GY Y) : gfN 12 23 (hp Y X) (Ad Y 12 0) = some (Ad Y 68 0) := gN_Y g (g.2.2.2.1 _ (by decide)) rfl rfl
theorem g_12_24 {Y : YS} {X : XS} (g : GY Y) : gfN 12 24 (hp Y X) (Ad Y 12 0) = some (Ad Y 69 0) := gN_Y g (g.2.2.2.1 _ (by decide)) rfl rfl
theorem g_12_25 {Y : YS} {X : XS} (g : GY Y) : gfN 12 25 (hp Y X) (Ad Y 12 0) = some (Ad Y 70 0) := gN_Y g (g.2.2.2.1 _ (by decide)) rfl rfl
theorem g_12_26 {Y : YS} {X : XS} (g : GY Y) : gfI 12 26 (hp Y X) (Ad Y 12 0) = some (iI (XF X 12 0 26)) := gI_Y g (g.2.2.2.1 _ (by decide)) rfl rfl
theorem p_12_26 {Y : YS} {X : XS} (g : GY Y) {v : Int} : pf 12 26 (hp Y X) (Ad Y 12 0) (.int (iI v)) = some (hp Y (sF X 12 0 26 v)) := pf_Y g (g.2.2.2.1 _ (by decide)) rfl (by simp) rfl (by simp [XF_sF, XJ_sF, XP_sF]) ot_F
theorem g_12_27 {Y : YS} {X : XS} (g : GY Y) : gfN 12 27 (hp Y X) (Ad Y 12 0) = some (Ad Y 71 0) := gN_Y g (g.2.2.2.1 _ (by decide)) rfl rfl
theorem g_12_28 {Y : YS} {X : XS} (g : GY Y) : gfN 12 28 (hp Y X) (Ad Y 12 0) = some (Ad Y 72 0) := gN_Y g (g.2.2.2.1 _ (by decide)) rfl rfl
theorem g_12_29 {Y : YS} {X : XS} (g : GY Y) : gfI 12 29 (hp Y X) (Ad Y 12 0) = some (iI (XF X 12 0 29)) := gI_Y g (g.2.2.2.1 _ (by decide)) rfl rfl
theorem p_12_29 {Y : YS} {X : XS} (g : GY Y) {v : Int} : pf 12 29 (hp Y X) (Ad Y 12 0) (.int (iI v)) = some (hp Y (sF X 12 0 29 v)) := pf_Y g (g.2.2.2.1 _ (by decide)) rfl (by simp) rfl (by simp [XF_sF, XJ_sF, XP_sF]) ot_F
theorem g_12_30 {Y : YS} {X : XS} (g : GY Y) : gfN 12 30 (hp Y X) (Ad Y 12 0) = some (Ad Y 73 0) := gN_Y g (g.2.2.2.1 _ (by decide)) rfl rfl
theorem g_12_31 {Y : YS} {X : XS} (g : GY Y) : gfN 12 31 (hp Y X) (Ad Y 12 0) = some (Ad Y 74 0) := gN_Y g (g.2.2.2.1 _ (by decide)) rfl rfl
theorem g_12_32 {Y : YS} {X : XS} (g : GY Y) : gfN 12 32 (hp Y X) (Ad Y 12 0) = some (Ad Y 75 0) := gN_Y g (g.2.2.2.1 _ (by decide)) rfl rfl
theorem g_12_33 {Y : YS} {X : XS} (g : GY Y) : gfI 12 33 (hp Y X) (Ad Y 12 0) = some (iI (XF X 12 0 33)) := gI_Y g (g.2.2.2.1 _ (by decide)) rfl rfl
theorem p_12_33 {Y : YS} {X : XS} (g : GY Y) {v : Int} : pf 12 33 (hp Y X) (Ad Y 12 0) (.int (iI v)) = some (hp Y (sF X 12 0 33 v)) := pf_Y g (g.2.2.2.1 _ (by decide)) rfl (by simp) rfl (by simp [XF_sF, XJ_sF, XP_sF]) ot_F
theorem g_12_34 {Y : YS} {X : XS} (g : GY Y) : gfI 12 34 (hp Y X) (Ad Y 12 0) = some (iI (XF X 12 0 34)) := gI_Y g (g.2.2.2.1 _ (by decide)) rfl rfl
theorem p_12_34 {Y : YS} {X : XS} (g : GY Y) {v : Int} : pf 12 34 (hp Y X) (Ad Y 12 0) (.int (iI v)) = some (hp Y (sF X 12 0 34 v)) := pf_Y g (g.2.2.2.1 _ (by decide)) rfl (by simp) rfl (by simp [XF_sF, XJ_sF, XP_sF]) ot_F
theorem g_12_35 {Y : YS} {X : XS} (g : GY Y) : gfI 12 35 (hp Y X) (Ad Y 12 0) = some (iI (XF X 12 0 35)) := gI_Y g (g.2.2.2.1 _ (by decide)) rfl rfl
theorem p_12_35 {Y : YS} {X : XS} (g : GY Y) {v : Int} : pf 12 35 (hp Y X) (Ad Y 12 0) (.int (iI v)) = some (hp Y (sF X 12 0 35 v)) := pf_Y g (g.2.2.2.1 _ (by decide)) rfl (by simp) rfl (by simp [XF_sF, XJ_sF, XP_sF]) ot_F
theorem g_12_36 {Y : YS} {X : XS} (g : GY Y) : gfI 12 36 (hp Y X) (Ad Y 12 0) = some (iI (XF X 12 0 36)) := gI_Y g (g.2.2.2.1 _ (by decide)) rfl rfl
theorem p_12_36 {Y : YS} {X : XS} (g : GY Y) {v : Int} : pf 12 36 (hp Y X) (Ad Y 12 0) (.int (iI v)) = some (hp Y (sF X 12 0 36 v)) := pf_Y g (g.2.2.2.1 _ (by decide)) rfl (by simp) rfl (by simp [XF_sF, XJ_sF, XP_sF]) ot_F
theorem g_12_37 {Y : YS} {X : XS} (g : GY Y) : gfN 12 37 (hp Y X) (Ad Y 12 0) = some (Ad Y 76 0) := gN_Y g (g.2.2.2.1 _ (by decide)) rfl rfl
theorem g_12_38 {Y : YS} {X : XS} (g : GY Y) : gfI 12 38 (hp Y X) (Ad Y 12 0) = some (iI (XF X 12 0 38)) := gI_Y g (g.2.2.2.1 _ (by decide)) rfl rfl
theorem p_12_38 {Y : YS} {X : XS} (g : GY Y) {v : Int} : pf 12 38 (hp Y X) (Ad Y 12 0) (.int (iI v)) = some (hp Y (sF X 12 0 38 v)) := pf_Y g (g.2.2.2.1 _ (by decide)) rfl (by simp) rfl (by simp [XF_sF, XJ_sF, XP_sF]) ot_F
theorem z_12_38 {Y : YS} {X : XS} (g : GY Y) {v : Int} (hv : v = 0 ∨ v = 1) : pfZ 12 38 (hp Y X) (Ad Y 12 0) (iI v) = some (hp Y (sF X 12 0 38 v)) := by
  rw [show pfZ 12 38 (hp Y X) (Ad Y 12 0) (iI v) = pf 12 38 (hp Y X) (Ad Y 12 0) (.int (iI v)) from if_pos (by rcases hv with h | h <;> subst h <;> decide)]; exact p_12_38 g
theorem g_12_39 {Y : YS} {X : XS} (g : GY Y) : gfN 12 39 (hp Y X) (Ad Y 12 0) = some (Ad Y 77 0) := gN_Y g (g.2.2.2.1 _ (by decide)) rfl rfl
theorem g_12_40 {Y : YS} {X : XS} (g : GY Y) : gfI 12 40 (hp Y X) (Ad Y 12 0) = some (iI (XF X 12 0 40)) := gI_Y g (g.2.2.2.1 _ (by decide)) rfl rfl
theorem p_12_40 {Y : YS} {X : XS} (g : GY Y) {v : Int} : pf 12 40 (hp Y X) (Ad Y 12 0) (.int (iI v)) = some (hp Y (sF X 12 0 40 v)) := pf_Y g (g.2.2.2.1 _ (by decide)) rfl (by simp) rfl (by simp [XF_sF, XJ_sF, XP_sF]) ot_F
theorem g_12_41 {Y : YS} {X : XS} (g : GY Y) : gfI 12 41 (hp Y X) (Ad Y 12 0) = some (iI (XF X 12 0 41)) := gI_Y g (g.2.2.2.1 _ (by decide)) rfl rfl
theorem p_12_41 {Y : YS} {X : XS} (g : GY Y) {v : Int} : pf 12 41 (hp Y X) (Ad Y 12 0) (.int (iI v)) = some (hp Y (sF X 12 0 41 v)) := pf_Y g (g.2.2.2.1 _ (by decide)) rfl (by simp) rfl (by simp [XF_sF, XJ_sF, XP_sF]) ot_F
theorem g_12_42 {Y : YS} {X : XS} (g : GY Y) : gfI 12 42 (hp Y X) (Ad Y 12 0) = some (iI (XF X 12 0 42)) := gI_Y g (g.2.2.2.1 _ (by decide)) rfl rfl
theorem p_12_42 {Y : YS} {X : XS} (g : GY Y) {v : Int} : pf 12 42 (hp Y X) (Ad Y 12 0) (.int (iI v)) = some (hp Y (sF X 12 0 42 v)) := pf_Y g (g.2.2.2.1 _ (by decide)) rfl (by simp) rfl (by simp [XF_sF, XJ_sF, XP_sF]) ot_F
theorem g_12_43 {Y : YS} {X : XS} (g : GY Y) : gfI 12 43 (hp Y X) (Ad Y 12 0) = some (iI (XF X 12 0 43)) := gI_Y g (g.2.2.2.1 _ (by decide)) rfl rfl
theorem p_12_43 {Y : YS} {X : XS} (g : GY Y) {v : Int} : pf 12 43 (hp Y X) (Ad Y 12 0) (.int (iI v)) = some (hp Y (sF X 12 0 43 v)) := pf_Y g (g.2.2.2.1 _ (by decide)) rfl (by simp) rfl (by simp [XF_sF, XJ_sF, XP_sF]) ot_F
theorem g_12_44 {Y : YS} {X : XS} (g : GY Y) : gfI 12 44 (hp Y X) (Ad Y 12 0) = some (iI (XF X 12 0 44)) := gI_Y g (g.2.2.2.1 _ (by decide)) rfl rfl
theorem p_12_44 {Y : YS} {X : XS} (g : GY Y) {v : Int} : pf 12 44 (hp Y X) (Ad Y 12 0) (.int (iI v)) = some (hp Y (sF X 12 0 44 v)) := pf_Y g (g.2.2.2.1 _ (by decide)) rfl (by simp) rfl (by simp [XF_sF, XJ_sF, XP_sF]) ot_F
theorem z_12_44 {Y : YS} {X : XS} (g : GY Y) {v : Int} (hv : v = 0 ∨ v = 1) : pfZ 12 44 (hp Y X) (Ad Y 12 0) (iI v) = some (hp Y (sF X 12 0 44 v)) := by
  rw [show pfZ 12 44 (hp Y X) (Ad Y 12 0) (iI v) = pf 12 44 (hp Y X) (Ad Y 12 0) (.int (iI v)) from if_pos (by rcases hv with h | h <;> subst h <;> decide)]; exact p_12_44 g
theorem g_12_45 {Y : YS} {X : XS} (g : GY Y) : gfN 12 45 (hp Y X) (Ad Y 12 0) = some (Ad Y 78 0) := gN_Y g (g.2.2.2.1 _ (by decide)) rfl rfl
theorem g_12_46 {Y : YS} {X : XS} (g : GY Y) : gfN 12 46 (hp Y X) (Ad Y 12 0) = some (Ad Y 79 0) := gN_Y g (g.2.2.2.1 _ (by decide)) rfl rfl
theorem g_12_47 {Y : YS} {X : XS} (g : GY Y) : gfN 12 47 (hp Y X) (Ad Y 12 0) = some (Ad Y 80 0) := gN_Y g (g.2.2.2.1 _ (by decide)) rfl rfl
theorem g_12_48 {Y : YS} {X : XS} (g : GY Y) : gfN 12 48 (hp Y X) (Ad Y 12 0) = some (Ad Y 81 0) := gN_Y g (g.2.2.2.1 _ (by decide)) rfl rfl
theorem pD_other {Y : YS} {X : XS} {i v s : Nat} (hs : s = 47 ∧ 2 ≤ i ∨ s = 11 ∧ i < 2) : ∀ s' k', ¬ (s' = s ∧ k' = 0) → (s', k') ∈ Y.2 → (∀ j, (11, j) ∈ Y.2 → j = 0) → (∀ j, (47, j) ∈ Y.2 → j = 0) → ct Y (sP X i v) s' k' = ct Y X s' k' := by
  intro s' k' h hm h1 h2
  by_cases h11 : s' = 11
  · subst h11
    have hk := h1 k' hm
    subst hk
    rcases hs with hs | hs
    · simp only [ct, ctE, XP_sP, if_true, true_or, show ¬ (0 = i) by omega, show ¬ (1 = i) by omega, if_false, XF_sP, if_pos, or_true]
    · exact absurd ⟨hs.1.symm, rfl⟩ h
  · by_cases h47 : s' = 47
    · subst h47
      have hk := h2 k' hm
      subst hk
      rcases hs with hs | hs
      · exact absurd ⟨hs.1.symm, rfl⟩ h
      · simp only [ct, ctE, if_pos, or_true]
        congr 7
        funext j
        simp only [XP_sP, show ¬ (j + 2 = i) by omega, if_false]
    · exact ct_congr rfl rfl rfl (fun q => by rcases q with q | q <;> omega) (fun _ => rfl)
def U11 (Y : YS) : Prop := (∀ j, (11, j) ∈ Y.2 → j = 0) ∧ (∀ j, (47, j) ∈ Y.2 → j = 0)
theorem hp_up2 {Y : YS} (g : GY Y) {X X' : XS} {s k : Nat} (hm : (s, k) ∈ Y.2) (h : ∀ s' k', ¬ (s' = s ∧ k' = k) → (s', k') ∈ Y.2 → ct Y X' s' k' = ct Y X s' k') : va_up (hp Y X) (Ad Y s k) (ct Y X' s k) = hp Y X' := by
  obtain ⟨i, h1, h2⟩ := lkA_get Y.1 Y.2 s k g.1 hm
  unfold hp
  rw [show Ad Y s k = lkA Y.1 Y.2 s k from rfl, mk_set (gd_Y g X) h1]
  congr 1
  apply List.ext_getElem?
  intro j
  by_cases hj : j = i
  · subst hj
    have hlt : j < (Cs Y X).length := by simp [Cs, (List.getElem?_eq_some_iff.mp h2).1]
    rw [List.getElem?_set_self hlt]
    simp [Cs, h2]
  · rw [List.getElem?_set_ne (Ne.symm hj)]
    simp only [Cs, List.getElem?_map]
    cases hx : Y.2[j]? with
    | none => rfl
    | some x =>
      simp only [Option.map_some, Option.some.injEq]
      refine (h x.1 x.2 (fun q => hj ?_) (List.mem_of_getElem? hx)).symm
      exact nd_get g.2.2.1 (x := (s, k)) (by rw [hx, ← q.1, ← q.2]) h2
theorem p_11_11 {Y : YS} {X : XS} (g : GY Y) (u : U11 Y) {v : Nat} : pf 11 11 (hp Y X) (Ad Y 11 0) (.ref (Ad Y 10 v)) = some (hp Y (sP X 0 v)) := by
  have hm : (11, 0) ∈ Y.2 := g.2.2.2.1 _ (by decide)
  rw [pf_e (by rw [hp_at g hm]; rfl) (by simp)]
  exact congrArg some (hp_up2 (X' := sP X 0 v) g hm fun s' k' h1 h2 => pD_other (.inr ⟨rfl, by decide⟩) s' k' h1 h2 u.1 u.2)
theorem p_11_12 {Y : YS} {X : XS} (g : GY Y) (u : U11 Y) {v : Nat} : pf 11 12 (hp Y X) (Ad Y 11 0) (.ref (Ad Y 10 v)) = some (hp Y (sP X 1 v)) := by
  have hm : (11, 0) ∈ Y.2 := g.2.2.2.1 _ (by decide)
  rw [pf_e (by rw [hp_at g hm]; rfl) (by simp)]
  exact congrArg some (hp_up2 (X' := sP X 1 v) g hm fun s' k' h1 h2 => pD_other (.inr ⟨rfl, by decide⟩) s' k' h1 h2 u.1 u.2)
theorem l_47 {Y : YS} {X : XS} (g : GY Y) {i : Int} (h0 : 0 ≤ i) (hi : i < 8) : ldN 5 (hp Y X) (Ad Y 47 0) (iI i) = some (Ad Y 10 (XP X (i.toNat + 2))) := by
  have hm : (47, 0) ∈ Y.2 := g.2.2.2.1 _ (by decide)
  have e : ct Y X 47 0 = .inl (5, (8, .inr (.inr (.inr (.inr (fun i => if i < 8 then some (Ad Y 10 (XP X (i + 2))) else none)))))) := rfl
  simp only [ldN, ldQ, alQ, al, hp_at g hm, e, if_pos, Option.bind_some, inB_i h0 (show i < ((8 : Nat) : Int) from hi) (by decide), if_true, iI_clamp h0 (by omega)]
  rw [if_pos (by omega)]; rfl
theorem s_47 {Y : YS} {X : XS} (g : GY Y) (u : U11 Y) {i : Int} {v : Nat} (h0 : 0 ≤ i) (hi : i < 8) : stQ 5 (hp Y X) (Ad Y 47 0) (iI i) (some (Ad Y 10 v)) = some (hp Y (sP X (i.toNat + 2) v)) := by
  have hm : (47, 0) ∈ Y.2 := g.2.2.2.1 _ (by decide)
  have e : ct Y X 47 0 = .inl (5, (8, .inr (.inr (.inr (.inr (fun i => if i < 8 then some (Ad Y 10 (XP X (i + 2))) else none)))))) := rfl
  have e2 : ct Y (sP X (i.toNat + 2) v) 47 0 = .inl (5, (8, .inr (.inr (.inr (.inr (fun j => if j < 8 then some (Ad Y 10 (XP (sP X (i.toNat + 2) v) (j + 2))) else none)))))) := rfl
  simp only [stQ, alQ, al, hp_at g hm, e, if_pos, Option.bind_some, inB_i h0 (show i < ((8 : Nat) : Int) from hi) (by decide), if_true, iI_clamp h0 (by omega), Option.some.injEq]
  rw [← hp_up2 (X' := sP X (i.toNat + 2) v) g hm fun s' k' h1 h2 => pD_other (.inl ⟨rfl, by omega⟩) s' k' h1 h2 u.1 u.2, e2]
  congr 8
  funext j
  by_cases hj : j = i.toNat
  · subst hj
    simp [va_up_self, XP_sP, show i.toNat < 8 by omega]
  · rw [va_up_ne _ _ hj]
    simp [XP_sP, hj]
theorem l_48 {Y : YS} {X : XS} (g : GY Y) {i : Int} (h0 : 0 ≤ i) (hi : i < 2) : ldQ 4 (hp Y X) (Ad Y 48 0) (iI i) = some (if XM X i.toNat = true then some (Ad Y 1 i.toNat) else none) := by
  have hm : (48, 0) ∈ Y.2 := g.2.2.2.1 _ (by decide)
  have e : ct Y X 48 0 = .inl (4, (2, .inr (.inr (.inr (.inr (fun i => if XM X i = true then some (Ad Y 1 i) else none)))))) := rfl
  simp only [ldQ, alQ, al, hp_at g hm, e, if_pos, Option.bind_some, inB_i h0 (show i < ((2 : Nat) : Int) from hi) (by decide), if_true, iI_clamp h0 (by omega)]
def cpr (r q : Int → Int) (n : Int) : Int → Int := fun j => if 0 ≤ j ∧ j < n then r j else q j
def cprJ (r q : Int → Int64) (n : Int) : Int → Int64 := fun j => if 0 ≤ j ∧ j < n then r j else q j
theorem cp_ok {n : Nat} (hn : n < 2147483648) : cpOk (iI 0) (iI 0) (iI (n : Int)) n n = true := by
  have z : ¬ (iI 0 : Int32) < 0 := by decide
  have z2 : ¬ iI (n : Int) < (0 : Int32) := by
    rw [show (0 : Int32) = iI 0 from rfl, iI_lt (by omega) (by omega) (by decide) (by decide)]; omega
  simp [cpOk, z, z2, iI_clamp (show (0 : Int) ≤ (n : Int) by omega) (by omega), show (iI 0).toNatClampNeg = 0 from rfl]
theorem cp_Y {Y : YS} {X : XS} {s k s2 k2 n : Nat} (g : GY Y) (hm : (s, k) ∈ Y.2) (hm2 : (s2, k2) ∈ Y.2) (h1 : ∀ X, ct Y X s k = .inl (1, (n, .inl (fun j => iI (XR X s k (j : Int)))))) (h2 : ∀ X, ct Y X s2 k2 = .inl (1, (n, .inl (fun j => iI (XR X s2 k2 (j : Int)))))) (hn : n < 2147483648) : cpI 1 (hp Y X) (Ad Y s k) (iI 0) (Ad Y s2 k2) (iI 0) (iI (n : Int)) = some (hp Y (sR X s2 k2 (cpr (XR X s k) (XR X s2 k2) (n : Int)))) := by
  simp only [cpI, alI, al, hp_at g hm, hp_at g hm2, h1, h2, if_pos, Option.bind_some, cp_ok hn, if_true, Option.some.injEq]
  have e := h2 (sR X s2 k2 (cpr (XR X s k) (XR X s2 k2) (n : Int)))
  rw [XR_sR, if_pos ⟨rfl, rfl⟩] at e
  rw [← hp_up (X' := sR X s2 k2 (cpr (XR X s k) (XR X s2 k2) (n : Int))) g hm2 ot_R, e]
  congr 5
  funext j
  simp only [va_cpy, cpr, show (iI 0).toNatClampNeg = 0 from rfl, iI_clamp (show (0 : Int) ≤ (n : Int) by omega) (show (n : Int) < 2147483648 by omega), Int.toNat_natCast]
  by_cases hj : j < n
  · simp [hj]
  · simp [hj]
theorem cpJ_Y {Y : YS} {X : XS} {s k s2 k2 n : Nat} (g : GY Y) (hm : (s, k) ∈ Y.2) (hm2 : (s2, k2) ∈ Y.2) (h1 : ∀ X, ct Y X s k = .inl (2, (n, .inr (.inl (fun j => XJ X s k (j : Int)))))) (h2 : ∀ X, ct Y X s2 k2 = .inl (2, (n, .inr (.inl (fun j => XJ X s2 k2 (j : Int)))))) (hn : n < 2147483648) : cpJ 2 (hp Y X) (Ad Y s k) (iI 0) (Ad Y s2 k2) (iI 0) (iI (n : Int)) = some (hp Y (sJ X s2 k2 (cprJ (XJ X s k) (XJ X s2 k2) (n : Int)))) := by
  simp only [cpJ, alJ, al, hp_at g hm, hp_at g hm2, h1, h2, if_pos, Option.bind_some, cp_ok hn, if_true, Option.some.injEq]
  have e := h2 (sJ X s2 k2 (cprJ (XJ X s k) (XJ X s2 k2) (n : Int)))
  rw [XJ_sJ, if_pos ⟨rfl, rfl⟩] at e
  rw [← hp_up (X' := sJ X s2 k2 (cprJ (XJ X s k) (XJ X s2 k2) (n : Int))) g hm2 ot_J, e]
  congr 6
  funext j
  simp only [va_cpy, cprJ, show (iI 0).toNatClampNeg = 0 from rfl, iI_clamp (show (0 : Int) ≤ (n : Int) by omega) (show (n : Int) < 2147483648 by omega), Int.toNat_natCast]
  by_cases hj : j < n
  · simp [hj]
  · simp [hj]
theorem l_20 {Y : YS} {X : XS} (g : GY Y) {i : Int} (h0 : 0 ≤ i) (hi : i < 940) : ldI 0 (hp Y X) (Ad Y 20 0) (iI i) = some (iI (XR X 20 0 i)) := ld_Y g (g.2.2.2.1 _ (by decide)) rfl (by decide) h0 hi
theorem n_20 {Y : YS} {X : XS} (g : GY Y) : aln 0 (hp Y X) (Ad Y 20 0) = some (iI 940) := aln_Y g (g.2.2.2.1 _ (by decide)) rfl
theorem s_20 {Y : YS} {X : XS} (g : GY Y) {i : Int} {v : Int32} (h0 : 0 ≤ i) (hi : i < 940) : stB 0 (hp Y X) (Ad Y 20 0) (iI i) v = some (hp Y (sR X 20 0 (upi (XR X 20 0) i (vp_nar .byte v).toInt))) := stB_Y g (g.2.2.2.1 _ (by decide)) (fun _ => rfl) (by decide) h0 hi
theorem l_21 {Y : YS} {X : XS} (g : GY Y) {i : Int} (h0 : 0 ≤ i) (hi : i < 27) : ldJ 2 (hp Y X) (Ad Y 21 0) (iI i) = some (XJ X 21 0 i) := ldJ_Y g (g.2.2.2.1 _ (by decide)) rfl (by decide) h0 hi
theorem s_21 {Y : YS} {X : XS} (g : GY Y) {i : Int} {v : Int64} (h0 : 0 ≤ i) (hi : i < 27) : stJ 2 (hp Y X) (Ad Y 21 0) (iI i) v = some (hp Y (sJ X 21 0 (upi (XJ X 21 0) i v))) := stJ_Y g (g.2.2.2.1 _ (by decide)) (fun _ => rfl) (by decide) h0 hi
theorem l_22 {Y : YS} {X : XS} {k : Nat} (g : SeO Y k) {i : Int} (h0 : 0 ≤ i) (hi : i < 30) : ldJ 2 (hp Y X) (Ad Y 22 k) (iI i) = some (XJ X 22 k i) := ldJ_Y g.1 (g.2 _ (by decide)) rfl (by decide) h0 hi
theorem s_22 {Y : YS} {X : XS} {k : Nat} (g : SeO Y k) {i : Int} {v : Int64} (h0 : 0 ≤ i) (hi : i < 30) : stJ 2 (hp Y X) (Ad Y 22 k) (iI i) v = some (hp Y (sJ X 22 k (upi (XJ X 22 k) i v))) := stJ_Y g.1 (g.2 _ (by decide)) (fun _ => rfl) (by decide) h0 hi
theorem l_23 {Y : YS} {X : XS} {k : Nat} (g : SeO Y k) {i : Int} (h0 : 0 ≤ i) (hi : i < 30) : ldI 1 (hp Y X) (Ad Y 23 k) (iI i) = some (iI (XR X 23 k i)) := ld_Y g.1 (g.2 _ (by decide)) rfl (by decide) h0 hi
theorem n_23 {Y : YS} {X : XS} {k : Nat} (g : SeO Y k) : aln 1 (hp Y X) (Ad Y 23 k) = some (iI 30) := aln_Y g.1 (g.2 _ (by decide)) rfl
theorem s_23 {Y : YS} {X : XS} {k : Nat} (g : SeO Y k) {i v : Int} (h0 : 0 ≤ i) (hi : i < 30) : stI 1 (hp Y X) (Ad Y 23 k) (iI i) (iI v) = some (hp Y (sR X 23 k (upi (XR X 23 k) i v))) := st_Y g.1 (g.2 _ (by decide)) (fun _ => rfl) (by decide) h0 hi
theorem l_24 {Y : YS} {X : XS} {k : Nat} (g : SeO Y k) {i : Int} (h0 : 0 ≤ i) (hi : i < 30) : ldI 1 (hp Y X) (Ad Y 24 k) (iI i) = some (iI (XR X 24 k i)) := ld_Y g.1 (g.2 _ (by decide)) rfl (by decide) h0 hi
theorem n_24 {Y : YS} {X : XS} {k : Nat} (g : SeO Y k) : aln 1 (hp Y X) (Ad Y 24 k) = some (iI 30) := aln_Y g.1 (g.2 _ (by decide)) rfl
theorem s_24 {Y : YS} {X : XS} {k : Nat} (g : SeO Y k) {i v : Int} (h0 : 0 ≤ i) (hi : i < 30) : stI 1 (hp Y X) (Ad Y 24 k) (iI i) (iI v) = some (hp Y (sR X 24 k (upi (XR X 24 k) i v))) := st_Y g.1 (g.2 _ (by decide)) (fun _ => rfl) (by decide) h0 hi
theorem l_25 {Y : YS} {X : XS} {k : Nat} (g : SeO Y k) {i : Int} (h0 : 0 ≤ i) (hi : i < 7) : ldI 1 (hp Y X) (Ad Y 25 k) (iI i) = some (iI (XR X 25 k i)) := ld_Y g.1 (g.2 _ (by decide)) rfl (by decide) h0 hi
theorem n_25 {Y : YS} {X : XS} {k : Nat} (g : SeO Y k) : aln 1 (hp Y X) (Ad Y 25 k) = some (iI 7) := aln_Y g.1 (g.2 _ (by decide)) rfl
theorem s_25 {Y : YS} {X : XS} {k : Nat} (g : SeO Y k) {i v : Int} (h0 : 0 ≤ i) (hi : i < 7) : stI 1 (hp Y X) (Ad Y 25 k) (iI i) (iI v) = some (hp Y (sR X 25 k (upi (XR X 25 k) i v))) := st_Y g.1 (g.2 _ (by decide)) (fun _ => rfl) (by decide) h0 hi
theorem l_26 {Y : YS} {X : XS} {k : Nat} (g : SeO Y k) {i : Int} (h0 : 0 ≤ i) (hi : i < 64) : ldI 1 (hp Y X) (Ad Y 26 k) (iI i) = some (iI (XR X 26 k i)) := ld_Y g.1 (g.2 _ (by decide)) rfl (by decide) h0 hi
theorem n_26 {Y : YS} {X : XS} {k : Nat} (g : SeO Y k) : aln 1 (hp Y X) (Ad Y 26 k) = some (iI 64) := aln_Y g.1 (g.2 _ (by decide)) rfl
theorem s_26 {Y : YS} {X : XS} {k : Nat} (g : SeO Y k) {i v : Int} (h0 : 0 ≤ i) (hi : i < 64) : stI 1 (hp Y X) (Ad Y 26 k) (iI i) (iI v) = some (hp Y (sR X 26 k (upi (XR X 26 k) i v))) := st_Y g.1 (g.2 _ (by decide)) (fun _ => rfl) (by decide) h0 hi
theorem l_27 {Y : YS} {X : XS} {k : Nat} (g : SeO Y k) {i : Int} (h0 : 0 ≤ i) (hi : i < 64) : ldI 1 (hp Y X) (Ad Y 27 k) (iI i) = some (iI (XR X 27 k i)) := ld_Y g.1 (g.2 _ (by decide)) rfl (by decide) h0 hi
theorem n_27 {Y : YS} {X : XS} {k : Nat} (g : SeO Y k) : aln 1 (hp Y X) (Ad Y 27 k) = some (iI 64) := aln_Y g.1 (g.2 _ (by decide)) rfl
theorem s_27 {Y : YS} {X : XS} {k : Nat} (g : SeO Y k) {i v : Int} (h0 : 0 ≤ i) (hi : i < 64) : stI 1 (hp Y X) (Ad Y 27 k) (iI i) (iI v) = some (hp Y (sR X 27 k (upi (XR X 27 k) i v))) := st_Y g.1 (g.2 _ (by decide)) (fun _ => rfl) (by decide) h0 hi
theorem l_28 {Y : YS} {X : XS} {k : Nat} (g : SeO Y k) {i : Int} (h0 : 0 ≤ i) (hi : i < 64) : ldI 1 (hp Y X) (Ad Y 28 k) (iI i) = some (iI (XR X 28 k i)) := ld_Y g.1 (g.2 _ (by decide)) rfl (by decide) h0 hi
theorem n_28 {Y : YS} {X : XS} {k : Nat} (g : SeO Y k) : aln 1 (hp Y X) (Ad Y 28 k) = some (iI 64) := aln_Y g.1 (g.2 _ (by decide)) rfl
theorem s_28 {Y : YS} {X : XS} {k : Nat} (g : SeO Y k) {i v : Int} (h0 : 0 ≤ i) (hi : i < 64) : stI 1 (hp Y X) (Ad Y 28 k) (iI i) (iI v) = some (hp Y (sR X 28 k (upi (XR X 28 k) i v))) := st_Y g.1 (g.2 _ (by decide)) (fun _ => rfl) (by decide) h0 hi
theorem l_29 {Y : YS} {X : XS} {k : Nat} (g : SeO Y k) {i : Int} (h0 : 0 ≤ i) (hi : i < 64) : ldI 1 (hp Y X) (Ad Y 29 k) (iI i) = some (iI (XR X 29 k i)) := ld_Y g.1 (g.2 _ (by decide)) rfl (by decide) h0 hi
theorem n_29 {Y : YS} {X : XS} {k : Nat} (g : SeO Y k) : aln 1 (hp Y X) (Ad Y 29 k) = some (iI 64) := aln_Y g.1 (g.2 _ (by decide)) rfl
theorem s_29 {Y : YS} {X : XS} {k : Nat} (g : SeO Y k) {i v : Int} (h0 : 0 ≤ i) (hi : i < 64) : stI 1 (hp Y X) (Ad Y 29 k) (iI i) (iI v) = some (hp Y (sR X 29 k (upi (XR X 29 k) i v))) := st_Y g.1 (g.2 _ (by decide)) (fun _ => rfl) (by decide) h0 hi
theorem l_30 {Y : YS} {X : XS} {k : Nat} (g : SeO Y k) {i : Int} (h0 : 0 ≤ i) (hi : i < 64) : ldI 1 (hp Y X) (Ad Y 30 k) (iI i) = some (iI (XR X 30 k i)) := ld_Y g.1 (g.2 _ (by decide)) rfl (by decide) h0 hi
theorem n_30 {Y : YS} {X : XS} {k : Nat} (g : SeO Y k) : aln 1 (hp Y X) (Ad Y 30 k) = some (iI 64) := aln_Y g.1 (g.2 _ (by decide)) rfl
theorem s_30 {Y : YS} {X : XS} {k : Nat} (g : SeO Y k) {i v : Int} (h0 : 0 ≤ i) (hi : i < 64) : stI 1 (hp Y X) (Ad Y 30 k) (iI i) (iI v) = some (hp Y (sR X 30 k (upi (XR X 30 k) i v))) := st_Y g.1 (g.2 _ (by decide)) (fun _ => rfl) (by decide) h0 hi
theorem l_31 {Y : YS} {X : XS} {k : Nat} (g : SeO Y k) {i : Int} (h0 : 0 ≤ i) (hi : i < 8) : ldI 1 (hp Y X) (Ad Y 31 k) (iI i) = some (iI (XR X 31 k i)) := ld_Y g.1 (g.2 _ (by decide)) rfl (by decide) h0 hi
theorem n_31 {Y : YS} {X : XS} {k : Nat} (g : SeO Y k) : aln 1 (hp Y X) (Ad Y 31 k) = some (iI 8) := aln_Y g.1 (g.2 _ (by decide)) rfl
theorem s_31 {Y : YS} {X : XS} {k : Nat} (g : SeO Y k) {i v : Int} (h0 : 0 ≤ i) (hi : i < 8) : stI 1 (hp Y X) (Ad Y 31 k) (iI i) (iI v) = some (hp Y (sR X 31 k (upi (XR X 31 k) i v))) := st_Y g.1 (g.2 _ (by decide)) (fun _ => rfl) (by decide) h0 hi
theorem l_32 {Y : YS} {X : XS} {k : Nat} (g : SeO Y k) {i : Int} (h0 : 0 ≤ i) (hi : i < 16) : ldI 1 (hp Y X) (Ad Y 32 k) (iI i) = some (iI (XR X 32 k i)) := ld_Y g.1 (g.2 _ (by decide)) rfl (by decide) h0 hi
theorem n_32 {Y : YS} {X : XS} {k : Nat} (g : SeO Y k) : aln 1 (hp Y X) (Ad Y 32 k) = some (iI 16) := aln_Y g.1 (g.2 _ (by decide)) rfl
theorem s_32 {Y : YS} {X : XS} {k : Nat} (g : SeO Y k) {i v : Int} (h0 : 0 ≤ i) (hi : i < 16) : stI 1 (hp Y X) (Ad Y 32 k) (iI i) (iI v) = some (hp Y (sR X 32 k (upi (XR X 32 k) i v))) := st_Y g.1 (g.2 _ (by decide)) (fun _ => rfl) (by decide) h0 hi
theorem l_33 {Y : YS} {X : XS} {k : Nat} (g : SeO Y k) {i : Int} (h0 : 0 ≤ i) (hi : i < 8) : ldI 1 (hp Y X) (Ad Y 33 k) (iI i) = some (iI (XR X 33 k i)) := ld_Y g.1 (g.2 _ (by decide)) rfl (by decide) h0 hi
theorem n_33 {Y : YS} {X : XS} {k : Nat} (g : SeO Y k) : aln 1 (hp Y X) (Ad Y 33 k) = some (iI 8) := aln_Y g.1 (g.2 _ (by decide)) rfl
theorem s_33 {Y : YS} {X : XS} {k : Nat} (g : SeO Y k) {i v : Int} (h0 : 0 ≤ i) (hi : i < 8) : stI 1 (hp Y X) (Ad Y 33 k) (iI i) (iI v) = some (hp Y (sR X 33 k (upi (XR X 33 k) i v))) := st_Y g.1 (g.2 _ (by decide)) (fun _ => rfl) (by decide) h0 hi
theorem l_34 {Y : YS} {X : XS} {k : Nat} (g : SeO Y k) {i : Int} (h0 : 0 ≤ i) (hi : i < 64) : ldI 1 (hp Y X) (Ad Y 34 k) (iI i) = some (iI (XR X 34 k i)) := ld_Y g.1 (g.2 _ (by decide)) rfl (by decide) h0 hi
theorem n_34 {Y : YS} {X : XS} {k : Nat} (g : SeO Y k) : aln 1 (hp Y X) (Ad Y 34 k) = some (iI 64) := aln_Y g.1 (g.2 _ (by decide)) rfl
theorem s_34 {Y : YS} {X : XS} {k : Nat} (g : SeO Y k) {i v : Int} (h0 : 0 ≤ i) (hi : i < 64) : stI 1 (hp Y X) (Ad Y 34 k) (iI i) (iI v) = some (hp Y (sR X 34 k (upi (XR X 34 k) i v))) := st_Y g.1 (g.2 _ (by decide)) (fun _ => rfl) (by decide) h0 hi
theorem l_35 {Y : YS} {X : XS} {k : Nat} (g : SeO Y k) {i : Int} (h0 : 0 ≤ i) (hi : i < 64) : ldI 1 (hp Y X) (Ad Y 35 k) (iI i) = some (iI (XR X 35 k i)) := ld_Y g.1 (g.2 _ (by decide)) rfl (by decide) h0 hi
theorem n_35 {Y : YS} {X : XS} {k : Nat} (g : SeO Y k) : aln 1 (hp Y X) (Ad Y 35 k) = some (iI 64) := aln_Y g.1 (g.2 _ (by decide)) rfl
theorem s_35 {Y : YS} {X : XS} {k : Nat} (g : SeO Y k) {i v : Int} (h0 : 0 ≤ i) (hi : i < 64) : stI 1 (hp Y X) (Ad Y 35 k) (iI i) (iI v) = some (hp Y (sR X 35 k (upi (XR X 35 k) i v))) := st_Y g.1 (g.2 _ (by decide)) (fun _ => rfl) (by decide) h0 hi
theorem l_36 {Y : YS} {X : XS} {k : Nat} (g : StO Y k) {i : Int} (h0 : 0 ≤ i) (hi : i < 40) : ldI 1 (hp Y X) (Ad Y 36 k) (iI i) = some (iI (XR X 36 k i)) := ld_Y g.1 (g.2 _ (by decide)) rfl (by decide) h0 hi
theorem n_36 {Y : YS} {X : XS} {k : Nat} (g : StO Y k) : aln 1 (hp Y X) (Ad Y 36 k) = some (iI 40) := aln_Y g.1 (g.2 _ (by decide)) rfl
theorem s_36 {Y : YS} {X : XS} {k : Nat} (g : StO Y k) {i v : Int} (h0 : 0 ≤ i) (hi : i < 40) : stI 1 (hp Y X) (Ad Y 36 k) (iI i) (iI v) = some (hp Y (sR X 36 k (upi (XR X 36 k) i v))) := st_Y g.1 (g.2 _ (by decide)) (fun _ => rfl) (by decide) h0 hi
theorem l_37 {Y : YS} {X : XS} {k : Nat} (g : StO Y k) {i : Int} (h0 : 0 ≤ i) (hi : i < 40) : ldI 1 (hp Y X) (Ad Y 37 k) (iI i) = some (iI (XR X 37 k i)) := ld_Y g.1 (g.2 _ (by decide)) rfl (by decide) h0 hi
theorem n_37 {Y : YS} {X : XS} {k : Nat} (g : StO Y k) : aln 1 (hp Y X) (Ad Y 37 k) = some (iI 40) := aln_Y g.1 (g.2 _ (by decide)) rfl
theorem s_37 {Y : YS} {X : XS} {k : Nat} (g : StO Y k) {i v : Int} (h0 : 0 ≤ i) (hi : i < 40) : stI 1 (hp Y X) (Ad Y 37 k) (iI i) (iI v) = some (hp Y (sR X 37 k (upi (XR X 37 k) i v))) := st_Y g.1 (g.2 _ (by decide)) (fun _ => rfl) (by decide) h0 hi
theorem l_38 {Y : YS} {X : XS} {k : Nat} (g : StO Y k) {i : Int} (h0 : 0 ≤ i) (hi : i < 40) : ldI 1 (hp Y X) (Ad Y 38 k) (iI i) = some (iI (XR X 38 k i)) := ld_Y g.1 (g.2 _ (by decide)) rfl (by decide) h0 hi
theorem n_38 {Y : YS} {X : XS} {k : Nat} (g : StO Y k) : aln 1 (hp Y X) (Ad Y 38 k) = some (iI 40) := aln_Y g.1 (g.2 _ (by decide)) rfl
theorem s_38 {Y : YS} {X : XS} {k : Nat} (g : StO Y k) {i v : Int} (h0 : 0 ≤ i) (hi : i < 40) : stI 1 (hp Y X) (Ad Y 38 k) (iI i) (iI v) = some (hp Y (sR X 38 k (upi (XR X 38 k) i v))) := st_Y g.1 (g.2 _ (by decide)) (fun _ => rfl) (by decide) h0 hi
theorem l_39 {Y : YS} {X : XS} {k : Nat} (g : StO Y k) {i : Int} (h0 : 0 ≤ i) (hi : i < 40) : ldI 1 (hp Y X) (Ad Y 39 k) (iI i) = some (iI (XR X 39 k i)) := ld_Y g.1 (g.2 _ (by decide)) rfl (by decide) h0 hi
theorem n_39 {Y : YS} {X : XS} {k : Nat} (g : StO Y k) : aln 1 (hp Y X) (Ad Y 39 k) = some (iI 40) := aln_Y g.1 (g.2 _ (by decide)) rfl
theorem s_39 {Y : YS} {X : XS} {k : Nat} (g : StO Y k) {i v : Int} (h0 : 0 ≤ i) (hi : i < 40) : stI 1 (hp Y X) (Ad Y 39 k) (iI i) (iI v) = some (hp Y (sR X 39 k (upi (XR X 39 k) i v))) := st_Y g.1 (g.2 _ (by decide)) (fun _ => rfl) (by decide) h0 hi
theorem l_40 {Y : YS} {X : XS} (g : GY Y) {i : Int} (h0 : 0 ≤ i) (hi : i < 40) : ldI 1 (hp Y X) (Ad Y 40 0) (iI i) = some (iI (XR X 40 0 i)) := ld_Y g (g.2.2.2.1 _ (by decide)) rfl (by decide) h0 hi
theorem n_40 {Y : YS} {X : XS} (g : GY Y) : aln 1 (hp Y X) (Ad Y 40 0) = some (iI 40) := aln_Y g (g.2.2.2.1 _ (by decide)) rfl
theorem s_40 {Y : YS} {X : XS} (g : GY Y) {i v : Int} (h0 : 0 ≤ i) (hi : i < 40) : stI 1 (hp Y X) (Ad Y 40 0) (iI i) (iI v) = some (hp Y (sR X 40 0 (upi (XR X 40 0) i v))) := st_Y g (g.2.2.2.1 _ (by decide)) (fun _ => rfl) (by decide) h0 hi
theorem l_41 {Y : YS} {X : XS} (g : GY Y) {i : Int} (h0 : 0 ≤ i) (hi : i < 40) : ldI 1 (hp Y X) (Ad Y 41 0) (iI i) = some (iI (XR X 41 0 i)) := ld_Y g (g.2.2.2.1 _ (by decide)) rfl (by decide) h0 hi
theorem n_41 {Y : YS} {X : XS} (g : GY Y) : aln 1 (hp Y X) (Ad Y 41 0) = some (iI 40) := aln_Y g (g.2.2.2.1 _ (by decide)) rfl
theorem s_41 {Y : YS} {X : XS} (g : GY Y) {i v : Int} (h0 : 0 ≤ i) (hi : i < 40) : stI 1 (hp Y X) (Ad Y 41 0) (iI i) (iI v) = some (hp Y (sR X 41 0 (upi (XR X 41 0) i v))) := st_Y g (g.2.2.2.1 _ (by decide)) (fun _ => rfl) (by decide) h0 hi
theorem l_42 {Y : YS} {X : XS} (g : GY Y) {i : Int} (h0 : 0 ≤ i) (hi : i < 40) : ldI 1 (hp Y X) (Ad Y 42 0) (iI i) = some (iI (XR X 42 0 i)) := ld_Y g (g.2.2.2.1 _ (by decide)) rfl (by decide) h0 hi
theorem n_42 {Y : YS} {X : XS} (g : GY Y) : aln 1 (hp Y X) (Ad Y 42 0) = some (iI 40) := aln_Y g (g.2.2.2.1 _ (by decide)) rfl
theorem s_42 {Y : YS} {X : XS} (g : GY Y) {i v : Int} (h0 : 0 ≤ i) (hi : i < 40) : stI 1 (hp Y X) (Ad Y 42 0) (iI i) (iI v) = some (hp Y (sR X 42 0 (upi (XR X 42 0) i v))) := st_Y g (g.2.2.2.1 _ (by decide)) (fun _ => rfl) (by decide) h0 hi
theorem l_43 {Y : YS} {X : XS} {k : Nat} (g : ShO Y k) {i : Int} (h0 : 0 ≤ i) (hi : i < 8) : ldI 1 (hp Y X) (Ad Y 43 k) (iI i) = some (iI (XR X 43 k i)) := ld_Y g.1 (g.2 _ (by decide)) rfl (by decide) h0 hi
theorem n_43 {Y : YS} {X : XS} {k : Nat} (g : ShO Y k) : aln 1 (hp Y X) (Ad Y 43 k) = some (iI 8) := aln_Y g.1 (g.2 _ (by decide)) rfl
theorem s_43 {Y : YS} {X : XS} {k : Nat} (g : ShO Y k) {i v : Int} (h0 : 0 ≤ i) (hi : i < 8) : stI 1 (hp Y X) (Ad Y 43 k) (iI i) (iI v) = some (hp Y (sR X 43 k (upi (XR X 43 k) i v))) := st_Y g.1 (g.2 _ (by decide)) (fun _ => rfl) (by decide) h0 hi
theorem l_44 {Y : YS} {X : XS} {k : Nat} (g : ShO Y k) {i : Int} (h0 : 0 ≤ i) (hi : i < 8) : ldI 1 (hp Y X) (Ad Y 44 k) (iI i) = some (iI (XR X 44 k i)) := ld_Y g.1 (g.2 _ (by decide)) rfl (by decide) h0 hi
theorem n_44 {Y : YS} {X : XS} {k : Nat} (g : ShO Y k) : aln 1 (hp Y X) (Ad Y 44 k) = some (iI 8) := aln_Y g.1 (g.2 _ (by decide)) rfl
theorem s_44 {Y : YS} {X : XS} {k : Nat} (g : ShO Y k) {i v : Int} (h0 : 0 ≤ i) (hi : i < 8) : stI 1 (hp Y X) (Ad Y 44 k) (iI i) (iI v) = some (hp Y (sR X 44 k (upi (XR X 44 k) i v))) := st_Y g.1 (g.2 _ (by decide)) (fun _ => rfl) (by decide) h0 hi
theorem l_45 {Y : YS} {X : XS} {k : Nat} (g : ShO Y k) {i : Int} (h0 : 0 ≤ i) (hi : i < 8) : ldI 1 (hp Y X) (Ad Y 45 k) (iI i) = some (iI (XR X 45 k i)) := ld_Y g.1 (g.2 _ (by decide)) rfl (by decide) h0 hi
theorem n_45 {Y : YS} {X : XS} {k : Nat} (g : ShO Y k) : aln 1 (hp Y X) (Ad Y 45 k) = some (iI 8) := aln_Y g.1 (g.2 _ (by decide)) rfl
theorem s_45 {Y : YS} {X : XS} {k : Nat} (g : ShO Y k) {i v : Int} (h0 : 0 ≤ i) (hi : i < 8) : stI 1 (hp Y X) (Ad Y 45 k) (iI i) (iI v) = some (hp Y (sR X 45 k (upi (XR X 45 k) i v))) := st_Y g.1 (g.2 _ (by decide)) (fun _ => rfl) (by decide) h0 hi
theorem l_46 {Y : YS} {X : XS} {k : Nat} (g : ShO Y k) {i : Int} (h0 : 0 ≤ i) (hi : i < 64) : ldI 1 (hp Y X) (Ad Y 46 k) (iI i) = some (iI (XR X 46 k i)) := ld_Y g.1 (g.2 _ (by decide)) rfl (by decide) h0 hi
theorem n_46 {Y : YS} {X : XS} {k : Nat} (g : ShO Y k) : aln 1 (hp Y X) (Ad Y 46 k) = some (iI 64) := aln_Y g.1 (g.2 _ (by decide)) rfl
theorem s_46 {Y : YS} {X : XS} {k : Nat} (g : ShO Y k) {i v : Int} (h0 : 0 ≤ i) (hi : i < 64) : stI 1 (hp Y X) (Ad Y 46 k) (iI i) (iI v) = some (hp Y (sR X 46 k (upi (XR X 46 k) i v))) := st_Y g.1 (g.2 _ (by decide)) (fun _ => rfl) (by decide) h0 hi
theorem l_49 {Y : YS} {X : XS} (g : GY Y) {i : Int} (h0 : 0 ≤ i) (hi : i < 8) : ldI 1 (hp Y X) (Ad Y 49 0) (iI i) = some (iI (XR X 49 0 i)) := ld_Y g (g.2.2.2.1 _ (by decide)) rfl (by decide) h0 hi
theorem n_49 {Y : YS} {X : XS} (g : GY Y) : aln 1 (hp Y X) (Ad Y 49 0) = some (iI 8) := aln_Y g (g.2.2.2.1 _ (by decide)) rfl
theorem s_49 {Y : YS} {X : XS} (g : GY Y) {i v : Int} (h0 : 0 ≤ i) (hi : i < 8) : stI 1 (hp Y X) (Ad Y 49 0) (iI i) (iI v) = some (hp Y (sR X 49 0 (upi (XR X 49 0) i v))) := st_Y g (g.2.2.2.1 _ (by decide)) (fun _ => rfl) (by decide) h0 hi
theorem l_50 {Y : YS} {X : XS} (g : GY Y) {i : Int} (h0 : 0 ≤ i) (hi : i < 10) : ldI 1 (hp Y X) (Ad Y 50 0) (iI i) = some (iI (XR X 50 0 i)) := ld_Y g (g.2.2.2.1 _ (by decide)) rfl (by decide) h0 hi
theorem n_50 {Y : YS} {X : XS} (g : GY Y) : aln 1 (hp Y X) (Ad Y 50 0) = some (iI 10) := aln_Y g (g.2.2.2.1 _ (by decide)) rfl
theorem s_50 {Y : YS} {X : XS} (g : GY Y) {i v : Int} (h0 : 0 ≤ i) (hi : i < 10) : stI 1 (hp Y X) (Ad Y 50 0) (iI i) (iI v) = some (hp Y (sR X 50 0 (upi (XR X 50 0) i v))) := st_Y g (g.2.2.2.1 _ (by decide)) (fun _ => rfl) (by decide) h0 hi
theorem l_60 {Y : YS} {X : XS} (g : GY Y) {i : Int} (h0 : 0 ≤ i) (hi : i < 940) : ldI 0 (hp Y X) (Ad Y 60 0) (iI i) = some (iI (XR X 60 0 i)) := ld_Y g (g.2.2.2.1 _ (by decide)) rfl (by decide) h0 hi
theorem n_60 {Y : YS} {X : XS} (g : GY Y) : aln 0 (hp Y X) (Ad Y 60 0) = some (iI 940) := aln_Y g (g.2.2.2.1 _ (by decide)) rfl
theorem s_60 {Y : YS} {X : XS} (g : GY Y) {i : Int} {v : Int32} (h0 : 0 ≤ i) (hi : i < 940) : stB 0 (hp Y X) (Ad Y 60 0) (iI i) v = some (hp Y (sR X 60 0 (upi (XR X 60 0) i (vp_nar .byte v).toInt))) := stB_Y g (g.2.2.2.1 _ (by decide)) (fun _ => rfl) (by decide) h0 hi
theorem l_61 {Y : YS} {X : XS} (g : GY Y) {i : Int} (h0 : 0 ≤ i) (hi : i < 646) : ldI 1 (hp Y X) (Ad Y 61 0) (iI i) = some (iI (XR X 61 0 i)) := ld_Y g (g.2.2.2.1 _ (by decide)) rfl (by decide) h0 hi
theorem n_61 {Y : YS} {X : XS} (g : GY Y) : aln 1 (hp Y X) (Ad Y 61 0) = some (iI 646) := aln_Y g (g.2.2.2.1 _ (by decide)) rfl
theorem s_61 {Y : YS} {X : XS} (g : GY Y) {i v : Int} (h0 : 0 ≤ i) (hi : i < 646) : stI 1 (hp Y X) (Ad Y 61 0) (iI i) (iI v) = some (hp Y (sR X 61 0 (upi (XR X 61 0) i v))) := st_Y g (g.2.2.2.1 _ (by decide)) (fun _ => rfl) (by decide) h0 hi
theorem l_62 {Y : YS} {X : XS} (g : GY Y) {i : Int} (h0 : 0 ≤ i) (hi : i < 312) : ldI 1 (hp Y X) (Ad Y 62 0) (iI i) = some (iI (XR X 62 0 i)) := ld_Y g (g.2.2.2.1 _ (by decide)) rfl (by decide) h0 hi
theorem n_62 {Y : YS} {X : XS} (g : GY Y) : aln 1 (hp Y X) (Ad Y 62 0) = some (iI 312) := aln_Y g (g.2.2.2.1 _ (by decide)) rfl
theorem s_62 {Y : YS} {X : XS} (g : GY Y) {i v : Int} (h0 : 0 ≤ i) (hi : i < 312) : stI 1 (hp Y X) (Ad Y 62 0) (iI i) (iI v) = some (hp Y (sR X 62 0 (upi (XR X 62 0) i v))) := st_Y g (g.2.2.2.1 _ (by decide)) (fun _ => rfl) (by decide) h0 hi
theorem l_63 {Y : YS} {X : XS} (g : GY Y) {i : Int} (h0 : 0 ≤ i) (hi : i < 135) : ldI 1 (hp Y X) (Ad Y 63 0) (iI i) = some (iI (XR X 63 0 i)) := ld_Y g (g.2.2.2.1 _ (by decide)) rfl (by decide) h0 hi
theorem n_63 {Y : YS} {X : XS} (g : GY Y) : aln 1 (hp Y X) (Ad Y 63 0) = some (iI 135) := aln_Y g (g.2.2.2.1 _ (by decide)) rfl
theorem s_63 {Y : YS} {X : XS} (g : GY Y) {i v : Int} (h0 : 0 ≤ i) (hi : i < 135) : stI 1 (hp Y X) (Ad Y 63 0) (iI i) (iI v) = some (hp Y (sR X 63 0 (upi (XR X 63 0) i v))) := st_Y g (g.2.2.2.1 _ (by decide)) (fun _ => rfl) (by decide) h0 hi
theorem l_64 {Y : YS} {X : XS} (g : GY Y) {i : Int} (h0 : 0 ≤ i) (hi : i < 60) : ldJ 2 (hp Y X) (Ad Y 64 0) (iI i) = some (XJ X 64 0 i) := ldJ_Y g (g.2.2.2.1 _ (by decide)) rfl (by decide) h0 hi
theorem s_64 {Y : YS} {X : XS} (g : GY Y) {i : Int} {v : Int64} (h0 : 0 ≤ i) (hi : i < 60) : stJ 2 (hp Y X) (Ad Y 64 0) (iI i) v = some (hp Y (sJ X 64 0 (upi (XJ X 64 0) i v))) := stJ_Y g (g.2.2.2.1 _ (by decide)) (fun _ => rfl) (by decide) h0 hi
theorem l_65 {Y : YS} {X : XS} (g : GY Y) {i : Int} (h0 : 0 ≤ i) (hi : i < 27) : ldJ 2 (hp Y X) (Ad Y 65 0) (iI i) = some (XJ X 65 0 i) := ldJ_Y g (g.2.2.2.1 _ (by decide)) rfl (by decide) h0 hi
theorem s_65 {Y : YS} {X : XS} (g : GY Y) {i : Int} {v : Int64} (h0 : 0 ≤ i) (hi : i < 27) : stJ 2 (hp Y X) (Ad Y 65 0) (iI i) v = some (hp Y (sJ X 65 0 (upi (XJ X 65 0) i v))) := stJ_Y g (g.2.2.2.1 _ (by decide)) (fun _ => rfl) (by decide) h0 hi
theorem l_66 {Y : YS} {X : XS} (g : GY Y) {i : Int} (h0 : 0 ≤ i) (hi : i < 64) : ldI 1 (hp Y X) (Ad Y 66 0) (iI i) = some (iI (XR X 66 0 i)) := ld_Y g (g.2.2.2.1 _ (by decide)) rfl (by decide) h0 hi
theorem n_66 {Y : YS} {X : XS} (g : GY Y) : aln 1 (hp Y X) (Ad Y 66 0) = some (iI 64) := aln_Y g (g.2.2.2.1 _ (by decide)) rfl
theorem s_66 {Y : YS} {X : XS} (g : GY Y) {i v : Int} (h0 : 0 ≤ i) (hi : i < 64) : stI 1 (hp Y X) (Ad Y 66 0) (iI i) (iI v) = some (hp Y (sR X 66 0 (upi (XR X 66 0) i v))) := st_Y g (g.2.2.2.1 _ (by decide)) (fun _ => rfl) (by decide) h0 hi
theorem l_67 {Y : YS} {X : XS} (g : GY Y) {i : Int} (h0 : 0 ≤ i) (hi : i < 64) : ldI 1 (hp Y X) (Ad Y 67 0) (iI i) = some (iI (XR X 67 0 i)) := ld_Y g (g.2.2.2.1 _ (by decide)) rfl (by decide) h0 hi
theorem n_67 {Y : YS} {X : XS} (g : GY Y) : aln 1 (hp Y X) (Ad Y 67 0) = some (iI 64) := aln_Y g (g.2.2.2.1 _ (by decide)) rfl
theorem s_67 {Y : YS} {X : XS} (g : GY Y) {i v : Int} (h0 : 0 ≤ i) (hi : i < 64) : stI 1 (hp Y X) (Ad Y 67 0) (iI i) (iI v) = some (hp Y (sR X 67 0 (upi (XR X 67 0) i v))) := st_Y g (g.2.2.2.1 _ (by decide)) (fun _ => rfl) (by decide) h0 hi
theorem l_68 {Y : YS} {X : XS} (g : GY Y) {i : Int} (h0 : 0 ≤ i) (hi : i < 6) : ldI 1 (hp Y X) (Ad Y 68 0) (iI i) = some (iI (XR X 68 0 i)) := ld_Y g (g.2.2.2.1 _ (by decide)) rfl (by decide) h0 hi
theorem n_68 {Y : YS} {X : XS} (g : GY Y) : aln 1 (hp Y X) (Ad Y 68 0) = some (iI 6) := aln_Y g (g.2.2.2.1 _ (by decide)) rfl
theorem s_68 {Y : YS} {X : XS} (g : GY Y) {i v : Int} (h0 : 0 ≤ i) (hi : i < 6) : stI 1 (hp Y X) (Ad Y 68 0) (iI i) (iI v) = some (hp Y (sR X 68 0 (upi (XR X 68 0) i v))) := st_Y g (g.2.2.2.1 _ (by decide)) (fun _ => rfl) (by decide) h0 hi
theorem l_69 {Y : YS} {X : XS} (g : GY Y) {i : Int} (h0 : 0 ≤ i) (hi : i < 6) : ldI 1 (hp Y X) (Ad Y 69 0) (iI i) = some (iI (XR X 69 0 i)) := ld_Y g (g.2.2.2.1 _ (by decide)) rfl (by decide) h0 hi
theorem n_69 {Y : YS} {X : XS} (g : GY Y) : aln 1 (hp Y X) (Ad Y 69 0) = some (iI 6) := aln_Y g (g.2.2.2.1 _ (by decide)) rfl
theorem s_69 {Y : YS} {X : XS} (g : GY Y) {i v : Int} (h0 : 0 ≤ i) (hi : i < 6) : stI 1 (hp Y X) (Ad Y 69 0) (iI i) (iI v) = some (hp Y (sR X 69 0 (upi (XR X 69 0) i v))) := st_Y g (g.2.2.2.1 _ (by decide)) (fun _ => rfl) (by decide) h0 hi
theorem l_70 {Y : YS} {X : XS} (g : GY Y) {i : Int} (h0 : 0 ≤ i) (hi : i < 1792) : ldI 1 (hp Y X) (Ad Y 70 0) (iI i) = some (iI (XR X 70 0 i)) := ld_Y g (g.2.2.2.1 _ (by decide)) rfl (by decide) h0 hi
theorem n_70 {Y : YS} {X : XS} (g : GY Y) : aln 1 (hp Y X) (Ad Y 70 0) = some (iI 1792) := aln_Y g (g.2.2.2.1 _ (by decide)) rfl
theorem s_70 {Y : YS} {X : XS} (g : GY Y) {i v : Int} (h0 : 0 ≤ i) (hi : i < 1792) : stI 1 (hp Y X) (Ad Y 70 0) (iI i) (iI v) = some (hp Y (sR X 70 0 (upi (XR X 70 0) i v))) := st_Y g (g.2.2.2.1 _ (by decide)) (fun _ => rfl) (by decide) h0 hi
theorem l_71 {Y : YS} {X : XS} (g : GY Y) {i : Int} (h0 : 0 ≤ i) (hi : i < 1224) : ldI 1 (hp Y X) (Ad Y 71 0) (iI i) = some (iI (XR X 71 0 i)) := ld_Y g (g.2.2.2.1 _ (by decide)) rfl (by decide) h0 hi
theorem n_71 {Y : YS} {X : XS} (g : GY Y) : aln 1 (hp Y X) (Ad Y 71 0) = some (iI 1224) := aln_Y g (g.2.2.2.1 _ (by decide)) rfl
theorem s_71 {Y : YS} {X : XS} (g : GY Y) {i v : Int} (h0 : 0 ≤ i) (hi : i < 1224) : stI 1 (hp Y X) (Ad Y 71 0) (iI i) (iI v) = some (hp Y (sR X 71 0 (upi (XR X 71 0) i v))) := st_Y g (g.2.2.2.1 _ (by decide)) (fun _ => rfl) (by decide) h0 hi
theorem l_72 {Y : YS} {X : XS} (g : GY Y) {i : Int} (h0 : 0 ≤ i) (hi : i < 153) : ldI 1 (hp Y X) (Ad Y 72 0) (iI i) = some (iI (XR X 72 0 i)) := ld_Y g (g.2.2.2.1 _ (by decide)) rfl (by decide) h0 hi
theorem n_72 {Y : YS} {X : XS} (g : GY Y) : aln 1 (hp Y X) (Ad Y 72 0) = some (iI 153) := aln_Y g (g.2.2.2.1 _ (by decide)) rfl
theorem s_72 {Y : YS} {X : XS} (g : GY Y) {i v : Int} (h0 : 0 ≤ i) (hi : i < 153) : stI 1 (hp Y X) (Ad Y 72 0) (iI i) (iI v) = some (hp Y (sR X 72 0 (upi (XR X 72 0) i v))) := st_Y g (g.2.2.2.1 _ (by decide)) (fun _ => rfl) (by decide) h0 hi
theorem l_73 {Y : YS} {X : XS} (g : GY Y) {i : Int} (h0 : 0 ≤ i) (hi : i < 8) : ldI 1 (hp Y X) (Ad Y 73 0) (iI i) = some (iI (XR X 73 0 i)) := ld_Y g (g.2.2.2.1 _ (by decide)) rfl (by decide) h0 hi
theorem n_73 {Y : YS} {X : XS} (g : GY Y) : aln 1 (hp Y X) (Ad Y 73 0) = some (iI 8) := aln_Y g (g.2.2.2.1 _ (by decide)) rfl
theorem s_73 {Y : YS} {X : XS} (g : GY Y) {i v : Int} (h0 : 0 ≤ i) (hi : i < 8) : stI 1 (hp Y X) (Ad Y 73 0) (iI i) (iI v) = some (hp Y (sR X 73 0 (upi (XR X 73 0) i v))) := st_Y g (g.2.2.2.1 _ (by decide)) (fun _ => rfl) (by decide) h0 hi
theorem l_74 {Y : YS} {X : XS} (g : GY Y) {i : Int} (h0 : 0 ≤ i) (hi : i < 1024) : ldI 1 (hp Y X) (Ad Y 74 0) (iI i) = some (iI (XR X 74 0 i)) := ld_Y g (g.2.2.2.1 _ (by decide)) rfl (by decide) h0 hi
theorem n_74 {Y : YS} {X : XS} (g : GY Y) : aln 1 (hp Y X) (Ad Y 74 0) = some (iI 1024) := aln_Y g (g.2.2.2.1 _ (by decide)) rfl
theorem s_74 {Y : YS} {X : XS} (g : GY Y) {i v : Int} (h0 : 0 ≤ i) (hi : i < 1024) : stI 1 (hp Y X) (Ad Y 74 0) (iI i) (iI v) = some (hp Y (sR X 74 0 (upi (XR X 74 0) i v))) := st_Y g (g.2.2.2.1 _ (by decide)) (fun _ => rfl) (by decide) h0 hi
theorem l_75 {Y : YS} {X : XS} (g : GY Y) {i : Int} (h0 : 0 ≤ i) (hi : i < 1024) : ldI 1 (hp Y X) (Ad Y 75 0) (iI i) = some (iI (XR X 75 0 i)) := ld_Y g (g.2.2.2.1 _ (by decide)) rfl (by decide) h0 hi
theorem n_75 {Y : YS} {X : XS} (g : GY Y) : aln 1 (hp Y X) (Ad Y 75 0) = some (iI 1024) := aln_Y g (g.2.2.2.1 _ (by decide)) rfl
theorem s_75 {Y : YS} {X : XS} (g : GY Y) {i v : Int} (h0 : 0 ≤ i) (hi : i < 1024) : stI 1 (hp Y X) (Ad Y 75 0) (iI i) (iI v) = some (hp Y (sR X 75 0 (upi (XR X 75 0) i v))) := st_Y g (g.2.2.2.1 _ (by decide)) (fun _ => rfl) (by decide) h0 hi
theorem l_76 {Y : YS} {X : XS} (g : GY Y) {i : Int} (h0 : 0 ≤ i) (hi : i < 4) : ldI 1 (hp Y X) (Ad Y 76 0) (iI i) = some (iI (XR X 76 0 i)) := ld_Y g (g.2.2.2.1 _ (by decide)) rfl (by decide) h0 hi
theorem n_76 {Y : YS} {X : XS} (g : GY Y) : aln 1 (hp Y X) (Ad Y 76 0) = some (iI 4) := aln_Y g (g.2.2.2.1 _ (by decide)) rfl
theorem s_76 {Y : YS} {X : XS} (g : GY Y) {i v : Int} (h0 : 0 ≤ i) (hi : i < 4) : stI 1 (hp Y X) (Ad Y 76 0) (iI i) (iI v) = some (hp Y (sR X 76 0 (upi (XR X 76 0) i v))) := st_Y g (g.2.2.2.1 _ (by decide)) (fun _ => rfl) (by decide) h0 hi
theorem l_77 {Y : YS} {X : XS} (g : GY Y) {i : Int} (h0 : 0 ≤ i) (hi : i < 45) : ldI 1 (hp Y X) (Ad Y 77 0) (iI i) = some (iI (XR X 77 0 i)) := ld_Y g (g.2.2.2.1 _ (by decide)) rfl (by decide) h0 hi
theorem n_77 {Y : YS} {X : XS} (g : GY Y) : aln 1 (hp Y X) (Ad Y 77 0) = some (iI 45) := aln_Y g (g.2.2.2.1 _ (by decide)) rfl
theorem s_77 {Y : YS} {X : XS} (g : GY Y) {i v : Int} (h0 : 0 ≤ i) (hi : i < 45) : stI 1 (hp Y X) (Ad Y 77 0) (iI i) (iI v) = some (hp Y (sR X 77 0 (upi (XR X 77 0) i v))) := st_Y g (g.2.2.2.1 _ (by decide)) (fun _ => rfl) (by decide) h0 hi
theorem l_78 {Y : YS} {X : XS} (g : GY Y) {i : Int} (h0 : 0 ≤ i) (hi : i < 45) : ldI 3 (hp Y X) (Ad Y 78 0) (iI i) = some (iI (XR X 78 0 i)) := ld_Y g (g.2.2.2.1 _ (by decide)) rfl (by decide) h0 hi
theorem n_78 {Y : YS} {X : XS} (g : GY Y) : aln 3 (hp Y X) (Ad Y 78 0) = some (iI 45) := aln_Y g (g.2.2.2.1 _ (by decide)) rfl
theorem s_78 {Y : YS} {X : XS} (g : GY Y) {i : Int} {v : Int32} (h0 : 0 ≤ i) (hi : i < 45) : stZ 3 (hp Y X) (Ad Y 78 0) (iI i) v = some (hp Y (sR X 78 0 (upi (XR X 78 0) i (vp_nar .boolean v).toInt))) := stZ_Y g (g.2.2.2.1 _ (by decide)) (fun _ => rfl) (by decide) h0 hi
theorem l_79 {Y : YS} {X : XS} (g : GY Y) {i : Int} (h0 : 0 ≤ i) (hi : i < 1292) : ldI 1 (hp Y X) (Ad Y 79 0) (iI i) = some (iI (XR X 79 0 i)) := ld_Y g (g.2.2.2.1 _ (by decide)) rfl (by decide) h0 hi
theorem n_79 {Y : YS} {X : XS} (g : GY Y) : aln 1 (hp Y X) (Ad Y 79 0) = some (iI 1292) := aln_Y g (g.2.2.2.1 _ (by decide)) rfl
theorem s_79 {Y : YS} {X : XS} (g : GY Y) {i v : Int} (h0 : 0 ≤ i) (hi : i < 1292) : stI 1 (hp Y X) (Ad Y 79 0) (iI i) (iI v) = some (hp Y (sR X 79 0 (upi (XR X 79 0) i v))) := st_Y g (g.2.2.2.1 _ (by decide)) (fun _ => rfl) (by decide) h0 hi
theorem l_80 {Y : YS} {X : XS} (g : GY Y) {i : Int} (h0 : 0 ≤ i) (hi : i < 60) : ldJ 2 (hp Y X) (Ad Y 80 0) (iI i) = some (XJ X 80 0 i) := ldJ_Y g (g.2.2.2.1 _ (by decide)) rfl (by decide) h0 hi
theorem s_80 {Y : YS} {X : XS} (g : GY Y) {i : Int} {v : Int64} (h0 : 0 ≤ i) (hi : i < 60) : stJ 2 (hp Y X) (Ad Y 80 0) (iI i) v = some (hp Y (sJ X 80 0 (upi (XJ X 80 0) i v))) := stJ_Y g (g.2.2.2.1 _ (by decide)) (fun _ => rfl) (by decide) h0 hi
theorem l_81 {Y : YS} {X : XS} (g : GY Y) {i : Int} (h0 : 0 ≤ i) (hi : i < 2) : ldI 3 (hp Y X) (Ad Y 81 0) (iI i) = some (iI (XR X 81 0 i)) := ld_Y g (g.2.2.2.1 _ (by decide)) rfl (by decide) h0 hi
theorem n_81 {Y : YS} {X : XS} (g : GY Y) : aln 3 (hp Y X) (Ad Y 81 0) = some (iI 2) := aln_Y g (g.2.2.2.1 _ (by decide)) rfl
theorem s_81 {Y : YS} {X : XS} (g : GY Y) {i : Int} {v : Int32} (h0 : 0 ≤ i) (hi : i < 2) : stZ 3 (hp Y X) (Ad Y 81 0) (iI i) v = some (hp Y (sR X 81 0 (upi (XR X 81 0) i (vp_nar .boolean v).toInt))) := stZ_Y g (g.2.2.2.1 _ (by decide)) (fun _ => rfl) (by decide) h0 hi
theorem l_90 {Y : YS} {X : XS} (g : GY Y) {i : Int} (h0 : 0 ≤ i) (hi : i < 1) : ldJ 2 (hp Y X) (Ad Y 90 0) (iI i) = some (XJ X 90 0 i) := ldJ_Y g (g.2.2.2.1 _ (by decide)) rfl (by decide) h0 hi
theorem s_90 {Y : YS} {X : XS} (g : GY Y) {i : Int} {v : Int64} (h0 : 0 ≤ i) (hi : i < 1) : stJ 2 (hp Y X) (Ad Y 90 0) (iI i) v = some (hp Y (sJ X 90 0 (upi (XJ X 90 0) i v))) := stJ_Y g (g.2.2.2.1 _ (by decide)) (fun _ => rfl) (by decide) h0 hi
theorem c_23 {Y : YS} {X : XS} {k k2 : Nat} (g : SeO Y k) (g2 : SeO Y k2) : cpI 1 (hp Y X) (Ad Y 23 k) (iI 0) (Ad Y 23 k2) (iI 0) (iI 30) = some (hp Y (sR X 23 k2 (cpr (XR X 23 k) (XR X 23 k2) 30))) := cp_Y g.1 (g.2 _ (by decide)) (g2.2 _ (by decide)) (fun _ => rfl) (fun _ => rfl) (by decide)
theorem c_24 {Y : YS} {X : XS} {k k2 : Nat} (g : SeO Y k) (g2 : SeO Y k2) : cpI 1 (hp Y X) (Ad Y 24 k) (iI 0) (Ad Y 24 k2) (iI 0) (iI 30) = some (hp Y (sR X 24 k2 (cpr (XR X 24 k) (XR X 24 k2) 30))) := cp_Y g.1 (g.2 _ (by decide)) (g2.2 _ (by decide)) (fun _ => rfl) (fun _ => rfl) (by decide)
theorem c_25 {Y : YS} {X : XS} {k k2 : Nat} (g : SeO Y k) (g2 : SeO Y k2) : cpI 1 (hp Y X) (Ad Y 25 k) (iI 0) (Ad Y 25 k2) (iI 0) (iI 7) = some (hp Y (sR X 25 k2 (cpr (XR X 25 k) (XR X 25 k2) 7))) := cp_Y g.1 (g.2 _ (by decide)) (g2.2 _ (by decide)) (fun _ => rfl) (fun _ => rfl) (by decide)
theorem c_26 {Y : YS} {X : XS} {k k2 : Nat} (g : SeO Y k) (g2 : SeO Y k2) : cpI 1 (hp Y X) (Ad Y 26 k) (iI 0) (Ad Y 26 k2) (iI 0) (iI 64) = some (hp Y (sR X 26 k2 (cpr (XR X 26 k) (XR X 26 k2) 64))) := cp_Y g.1 (g.2 _ (by decide)) (g2.2 _ (by decide)) (fun _ => rfl) (fun _ => rfl) (by decide)
theorem c_27 {Y : YS} {X : XS} {k k2 : Nat} (g : SeO Y k) (g2 : SeO Y k2) : cpI 1 (hp Y X) (Ad Y 27 k) (iI 0) (Ad Y 27 k2) (iI 0) (iI 64) = some (hp Y (sR X 27 k2 (cpr (XR X 27 k) (XR X 27 k2) 64))) := cp_Y g.1 (g.2 _ (by decide)) (g2.2 _ (by decide)) (fun _ => rfl) (fun _ => rfl) (by decide)
theorem c_28 {Y : YS} {X : XS} {k k2 : Nat} (g : SeO Y k) (g2 : SeO Y k2) : cpI 1 (hp Y X) (Ad Y 28 k) (iI 0) (Ad Y 28 k2) (iI 0) (iI 64) = some (hp Y (sR X 28 k2 (cpr (XR X 28 k) (XR X 28 k2) 64))) := cp_Y g.1 (g.2 _ (by decide)) (g2.2 _ (by decide)) (fun _ => rfl) (fun _ => rfl) (by decide)
theorem c_29 {Y : YS} {X : XS} {k k2 : Nat} (g : SeO Y k) (g2 : SeO Y k2) : cpI 1 (hp Y X) (Ad Y 29 k) (iI 0) (Ad Y 29 k2) (iI 0) (iI 64) = some (hp Y (sR X 29 k2 (cpr (XR X 29 k) (XR X 29 k2) 64))) := cp_Y g.1 (g.2 _ (by decide)) (g2.2 _ (by decide)) (fun _ => rfl) (fun _ => rfl) (by decide)
theorem c_30 {Y : YS} {X : XS} {k k2 : Nat} (g : SeO Y k) (g2 : SeO Y k2) : cpI 1 (hp Y X) (Ad Y 30 k) (iI 0) (Ad Y 30 k2) (iI 0) (iI 64) = some (hp Y (sR X 30 k2 (cpr (XR X 30 k) (XR X 30 k2) 64))) := cp_Y g.1 (g.2 _ (by decide)) (g2.2 _ (by decide)) (fun _ => rfl) (fun _ => rfl) (by decide)
theorem c_31 {Y : YS} {X : XS} {k k2 : Nat} (g : SeO Y k) (g2 : SeO Y k2) : cpI 1 (hp Y X) (Ad Y 31 k) (iI 0) (Ad Y 31 k2) (iI 0) (iI 8) = some (hp Y (sR X 31 k2 (cpr (XR X 31 k) (XR X 31 k2) 8))) := cp_Y g.1 (g.2 _ (by decide)) (g2.2 _ (by decide)) (fun _ => rfl) (fun _ => rfl) (by decide)
theorem c_32 {Y : YS} {X : XS} {k k2 : Nat} (g : SeO Y k) (g2 : SeO Y k2) : cpI 1 (hp Y X) (Ad Y 32 k) (iI 0) (Ad Y 32 k2) (iI 0) (iI 16) = some (hp Y (sR X 32 k2 (cpr (XR X 32 k) (XR X 32 k2) 16))) := cp_Y g.1 (g.2 _ (by decide)) (g2.2 _ (by decide)) (fun _ => rfl) (fun _ => rfl) (by decide)
theorem c_33 {Y : YS} {X : XS} {k k2 : Nat} (g : SeO Y k) (g2 : SeO Y k2) : cpI 1 (hp Y X) (Ad Y 33 k) (iI 0) (Ad Y 33 k2) (iI 0) (iI 8) = some (hp Y (sR X 33 k2 (cpr (XR X 33 k) (XR X 33 k2) 8))) := cp_Y g.1 (g.2 _ (by decide)) (g2.2 _ (by decide)) (fun _ => rfl) (fun _ => rfl) (by decide)
theorem c_34 {Y : YS} {X : XS} {k k2 : Nat} (g : SeO Y k) (g2 : SeO Y k2) : cpI 1 (hp Y X) (Ad Y 34 k) (iI 0) (Ad Y 34 k2) (iI 0) (iI 64) = some (hp Y (sR X 34 k2 (cpr (XR X 34 k) (XR X 34 k2) 64))) := cp_Y g.1 (g.2 _ (by decide)) (g2.2 _ (by decide)) (fun _ => rfl) (fun _ => rfl) (by decide)
theorem c_35 {Y : YS} {X : XS} {k k2 : Nat} (g : SeO Y k) (g2 : SeO Y k2) : cpI 1 (hp Y X) (Ad Y 35 k) (iI 0) (Ad Y 35 k2) (iI 0) (iI 64) = some (hp Y (sR X 35 k2 (cpr (XR X 35 k) (XR X 35 k2) 64))) := cp_Y g.1 (g.2 _ (by decide)) (g2.2 _ (by decide)) (fun _ => rfl) (fun _ => rfl) (by decide)
theorem c_36 {Y : YS} {X : XS} {k k2 : Nat} (g : StO Y k) (g2 : StO Y k2) : cpI 1 (hp Y X) (Ad Y 36 k) (iI 0) (Ad Y 36 k2) (iI 0) (iI 40) = some (hp Y (sR X 36 k2 (cpr (XR X 36 k) (XR X 36 k2) 40))) := cp_Y g.1 (g.2 _ (by decide)) (g2.2 _ (by decide)) (fun _ => rfl) (fun _ => rfl) (by decide)
theorem c_37 {Y : YS} {X : XS} {k k2 : Nat} (g : StO Y k) (g2 : StO Y k2) : cpI 1 (hp Y X) (Ad Y 37 k) (iI 0) (Ad Y 37 k2) (iI 0) (iI 40) = some (hp Y (sR X 37 k2 (cpr (XR X 37 k) (XR X 37 k2) 40))) := cp_Y g.1 (g.2 _ (by decide)) (g2.2 _ (by decide)) (fun _ => rfl) (fun _ => rfl) (by decide)
theorem c_38 {Y : YS} {X : XS} {k k2 : Nat} (g : StO Y k) (g2 : StO Y k2) : cpI 1 (hp Y X) (Ad Y 38 k) (iI 0) (Ad Y 38 k2) (iI 0) (iI 40) = some (hp Y (sR X 38 k2 (cpr (XR X 38 k) (XR X 38 k2) 40))) := cp_Y g.1 (g.2 _ (by decide)) (g2.2 _ (by decide)) (fun _ => rfl) (fun _ => rfl) (by decide)
theorem c_43 {Y : YS} {X : XS} {k k2 : Nat} (g : ShO Y k) (g2 : ShO Y k2) : cpI 1 (hp Y X) (Ad Y 43 k) (iI 0) (Ad Y 43 k2) (iI 0) (iI 8) = some (hp Y (sR X 43 k2 (cpr (XR X 43 k) (XR X 43 k2) 8))) := cp_Y g.1 (g.2 _ (by decide)) (g2.2 _ (by decide)) (fun _ => rfl) (fun _ => rfl) (by decide)
theorem c_44 {Y : YS} {X : XS} {k k2 : Nat} (g : ShO Y k) (g2 : ShO Y k2) : cpI 1 (hp Y X) (Ad Y 44 k) (iI 0) (Ad Y 44 k2) (iI 0) (iI 8) = some (hp Y (sR X 44 k2 (cpr (XR X 44 k) (XR X 44 k2) 8))) := cp_Y g.1 (g.2 _ (by decide)) (g2.2 _ (by decide)) (fun _ => rfl) (fun _ => rfl) (by decide)
theorem c_45 {Y : YS} {X : XS} {k k2 : Nat} (g : ShO Y k) (g2 : ShO Y k2) : cpI 1 (hp Y X) (Ad Y 45 k) (iI 0) (Ad Y 45 k2) (iI 0) (iI 8) = some (hp Y (sR X 45 k2 (cpr (XR X 45 k) (XR X 45 k2) 8))) := cp_Y g.1 (g.2 _ (by decide)) (g2.2 _ (by decide)) (fun _ => rfl) (fun _ => rfl) (by decide)
theorem c_46 {Y : YS} {X : XS} {k k2 : Nat} (g : ShO Y k) (g2 : ShO Y k2) : cpI 1 (hp Y X) (Ad Y 46 k) (iI 0) (Ad Y 46 k2) (iI 0) (iI 64) = some (hp Y (sR X 46 k2 (cpr (XR X 46 k) (XR X 46 k2) 64))) := cp_Y g.1 (g.2 _ (by decide)) (g2.2 _ (by decide)) (fun _ => rfl) (fun _ => rfl) (by decide)
theorem c_22 {Y : YS} {X : XS} {k k2 : Nat} (g : SeO Y k) (g2 : SeO Y k2) : cpJ 2 (hp Y X) (Ad Y 22 k) (iI 0) (Ad Y 22 k2) (iI 0) (iI 30) = some (hp Y (sJ X 22 k2 (cprJ (XJ X 22 k) (XJ X 22 k2) 30))) := cpJ_Y g.1 (g.2 _ (by decide)) (g2.2 _ (by decide)) (fun _ => rfl) (fun _ => rfl) (by decide)
theorem c_31_45 {Y : YS} {X : XS} {k k2 : Nat} (g : SeO Y k) (g2 : ShO Y k2) : cpI 1 (hp Y X) (Ad Y 31 k) (iI 0) (Ad Y 45 k2) (iI 0) (iI 8) = some (hp Y (sR X 45 k2 (cpr (XR X 31 k) (XR X 45 k2) 8))) := cp_Y g.1 (g.2 _ (by decide)) (g2.2 _ (by decide)) (fun _ => rfl) (fun _ => rfl) (by decide)
theorem li_0 : (0 : Int32) = iI 0 := rfl
theorem li_1 : (1 : Int32) = iI 1 := rfl
theorem li_2 : (2 : Int32) = iI 2 := rfl
theorem li_3 : (3 : Int32) = iI 3 := rfl
theorem li_4 : (4 : Int32) = iI 4 := rfl
theorem li_5 : (5 : Int32) = iI 5 := rfl
theorem li_6 : (6 : Int32) = iI 6 := rfl
theorem li_7 : (7 : Int32) = iI 7 := rfl
theorem li_8 : (8 : Int32) = iI 8 := rfl
theorem li_9 : (9 : Int32) = iI 9 := rfl
theorem li_10 : (10 : Int32) = iI 10 := rfl
theorem li_11 : (11 : Int32) = iI 11 := rfl
theorem li_12 : (12 : Int32) = iI 12 := rfl
theorem li_13 : (13 : Int32) = iI 13 := rfl
theorem li_14 : (14 : Int32) = iI 14 := rfl
theorem li_15 : (15 : Int32) = iI 15 := rfl
theorem li_16 : (16 : Int32) = iI 16 := rfl
theorem li_17 : (17 : Int32) = iI 17 := rfl
theorem li_18 : (18 : Int32) = iI 18 := rfl
theorem li_19 : (19 : Int32) = iI 19 := rfl
theorem li_20 : (20 : Int32) = iI 20 := rfl
theorem li_21 : (21 : Int32) = iI 21 := rfl
theorem li_22 : (22 : Int32) = iI 22 := rfl
theorem li_23 : (23 : Int32) = iI 23 := rfl
theorem li_24 : (24 : Int32) = iI 24 := rfl
theorem li_25 : (25 : Int32) = iI 25 := rfl
theorem li_26 : (26 : Int32) = iI 26 := rfl
theorem li_27 : (27 : Int32) = iI 27 := rfl
theorem li_28 : (28 : Int32) = iI 28 := rfl
theorem li_29 : (29 : Int32) = iI 29 := rfl
theorem li_30 : (30 : Int32) = iI 30 := rfl
theorem li_31 : (31 : Int32) = iI 31 := rfl
theorem li_32 : (32 : Int32) = iI 32 := rfl
theorem li_33 : (33 : Int32) = iI 33 := rfl
theorem li_34 : (34 : Int32) = iI 34 := rfl
theorem li_35 : (35 : Int32) = iI 35 := rfl
theorem li_36 : (36 : Int32) = iI 36 := rfl
theorem li_37 : (37 : Int32) = iI 37 := rfl
theorem li_38 : (38 : Int32) = iI 38 := rfl
theorem li_39 : (39 : Int32) = iI 39 := rfl
theorem li_40 : (40 : Int32) = iI 40 := rfl
theorem li_41 : (41 : Int32) = iI 41 := rfl
theorem li_42 : (42 : Int32) = iI 42 := rfl
theorem li_43 : (43 : Int32) = iI 43 := rfl
theorem li_44 : (44 : Int32) = iI 44 := rfl
theorem li_45 : (45 : Int32) = iI 45 := rfl
theorem li_46 : (46 : Int32) = iI 46 := rfl
theorem li_47 : (47 : Int32) = iI 47 := rfl
theorem li_48 : (48 : Int32) = iI 48 := rfl
theorem li_49 : (49 : Int32) = iI 49 := rfl
theorem li_50 : (50 : Int32) = iI 50 := rfl
theorem li_51 : (51 : Int32) = iI 51 := rfl
theorem li_52 : (52 : Int32) = iI 52 := rfl
theorem li_55 : (55 : Int32) = iI 55 := rfl
theorem li_57 : (57 : Int32) = iI 57 := rfl
theorem li_59 : (59 : Int32) = iI 59 := rfl
theorem li_60 : (60 : Int32) = iI 60 := rfl
theorem li_61 : (61 : Int32) = iI 61 := rfl
theorem li_62 : (62 : Int32) = iI 62 := rfl
theorem li_63 : (63 : Int32) = iI 63 := rfl
theorem li_64 : (64 : Int32) = iI 64 := rfl
theorem li_65 : (65 : Int32) = iI 65 := rfl
theorem li_66 : (66 : Int32) = iI 66 := rfl
theorem li_67 : (67 : Int32) = iI 67 := rfl
theorem li_68 : (68 : Int32) = iI 68 := rfl
theorem li_69 : (69 : Int32) = iI 69 := rfl
theorem li_70 : (70 : Int32) = iI 70 := rfl
theorem li_72 : (72 : Int32) = iI 72 := rfl
theorem li_73 : (73 : Int32) = iI 73 := rfl
theorem li_76 : (76 : Int32) = iI 76 := rfl
theorem li_78 : (78 : Int32) = iI 78 := rfl
theorem li_82 : (82 : Int32) = iI 82 := rfl
theorem li_84 : (84 : Int32) = iI 84 := rfl
theorem li_85 : (85 : Int32) = iI 85 := rfl
theorem li_88 : (88 : Int32) = iI 88 := rfl
theorem li_89 : (89 : Int32) = iI 89 := rfl
theorem li_90 : (90 : Int32) = iI 90 := rfl
theorem li_91 : (91 : Int32) = iI 91 := rfl
theorem li_92 : (92 : Int32) = iI 92 := rfl
theorem li_93 : (93 : Int32) = iI 93 := rfl
theorem li_94 : (94 : Int32) = iI 94 := rfl
theorem li_95 : (95 : Int32) = iI 95 := rfl
theorem li_97 : (97 : Int32) = iI 97 := rfl
theorem li_98 : (98 : Int32) = iI 98 := rfl
theorem li_99 : (99 : Int32) = iI 99 := rfl
theorem li_100 : (100 : Int32) = iI 100 := rfl
theorem li_105 : (105 : Int32) = iI 105 := rfl
theorem li_106 : (106 : Int32) = iI 106 := rfl
theorem li_107 : (107 : Int32) = iI 107 := rfl
theorem li_109 : (109 : Int32) = iI 109 := rfl
theorem li_110 : (110 : Int32) = iI 110 := rfl
theorem li_114 : (114 : Int32) = iI 114 := rfl
theorem li_115 : (115 : Int32) = iI 115 := rfl
theorem li_116 : (116 : Int32) = iI 116 := rfl
theorem li_118 : (118 : Int32) = iI 118 := rfl
theorem li_120 : (120 : Int32) = iI 120 := rfl
theorem li_122 : (122 : Int32) = iI 122 := rfl
theorem li_125 : (125 : Int32) = iI 125 := rfl
theorem li_127 : (127 : Int32) = iI 127 := rfl
theorem li_128 : (128 : Int32) = iI 128 := rfl
theorem li_129 : (129 : Int32) = iI 129 := rfl
theorem li_134 : (134 : Int32) = iI 134 := rfl
theorem li_135 : (135 : Int32) = iI 135 := rfl
theorem li_136 : (136 : Int32) = iI 136 := rfl
theorem li_139 : (139 : Int32) = iI 139 := rfl
theorem li_140 : (140 : Int32) = iI 140 := rfl
theorem li_145 : (145 : Int32) = iI 145 := rfl
theorem li_150 : (150 : Int32) = iI 150 := rfl
theorem li_153 : (153 : Int32) = iI 153 := rfl
theorem li_158 : (158 : Int32) = iI 158 := rfl
theorem li_160 : (160 : Int32) = iI 160 := rfl
theorem li_179 : (179 : Int32) = iI 179 := rfl
theorem li_181 : (181 : Int32) = iI 181 := rfl
theorem li_186 : (186 : Int32) = iI 186 := rfl
theorem li_200 : (200 : Int32) = iI 200 := rfl
theorem li_201 : (201 : Int32) = iI 201 := rfl
theorem li_207 : (207 : Int32) = iI 207 := rfl
theorem li_222 : (222 : Int32) = iI 222 := rfl
theorem li_223 : (223 : Int32) = iI 223 := rfl
theorem li_228 : (228 : Int32) = iI 228 := rfl
theorem li_250 : (250 : Int32) = iI 250 := rfl
theorem li_251 : (251 : Int32) = iI 251 := rfl
theorem li_255 : (255 : Int32) = iI 255 := rfl
theorem li_256 : (256 : Int32) = iI 256 := rfl
theorem li_264 : (264 : Int32) = iI 264 := rfl
theorem li_272 : (272 : Int32) = iI 272 := rfl
theorem li_280 : (280 : Int32) = iI 280 := rfl
theorem li_296 : (296 : Int32) = iI 296 := rfl
theorem li_301 : (301 : Int32) = iI 301 := rfl
theorem li_312 : (312 : Int32) = iI 312 := rfl
theorem li_313 : (313 : Int32) = iI 313 := rfl
theorem li_314 : (314 : Int32) = iI 314 := rfl
theorem li_315 : (315 : Int32) = iI 315 := rfl
theorem li_316 : (316 : Int32) = iI 316 := rfl
theorem li_317 : (317 : Int32) = iI 317 := rfl
theorem li_318 : (318 : Int32) = iI 318 := rfl
theorem li_319 : (319 : Int32) = iI 319 := rfl
theorem li_320 : (320 : Int32) = iI 320 := rfl
theorem li_326 : (326 : Int32) = iI 326 := rfl
theorem li_328 : (328 : Int32) = iI 328 := rfl
theorem li_336 : (336 : Int32) = iI 336 := rfl
theorem li_339 : (339 : Int32) = iI 339 := rfl
theorem li_352 : (352 : Int32) = iI 352 := rfl
theorem li_400 : (400 : Int32) = iI 400 := rfl
theorem li_417 : (417 : Int32) = iI 417 := rfl
theorem li_420 : (420 : Int32) = iI 420 := rfl
theorem li_457 : (457 : Int32) = iI 457 := rfl
theorem li_464 : (464 : Int32) = iI 464 := rfl
theorem li_465 : (465 : Int32) = iI 465 := rfl
theorem li_466 : (466 : Int32) = iI 466 := rfl
theorem li_494 : (494 : Int32) = iI 494 := rfl
theorem li_543 : (543 : Int32) = iI 543 := rfl
theorem li_568 : (568 : Int32) = iI 568 := rfl
theorem li_581 : (581 : Int32) = iI 581 := rfl
theorem li_593 : (593 : Int32) = iI 593 := rfl
theorem li_614 : (614 : Int32) = iI 614 := rfl
theorem li_618 : (618 : Int32) = iI 618 := rfl
theorem li_643 : (643 : Int32) = iI 643 := rfl
theorem li_646 : (646 : Int32) = iI 646 := rfl
theorem li_656 : (656 : Int32) = iI 656 := rfl
theorem li_693 : (693 : Int32) = iI 693 := rfl
theorem li_706 : (706 : Int32) = iI 706 := rfl
theorem li_743 : (743 : Int32) = iI 743 := rfl
theorem li_768 : (768 : Int32) = iI 768 := rfl
theorem li_805 : (805 : Int32) = iI 805 := rfl
theorem li_842 : (842 : Int32) = iI 842 := rfl
theorem li_861 : (861 : Int32) = iI 861 := rfl
theorem li_864 : (864 : Int32) = iI 864 := rfl
theorem li_867 : (867 : Int32) = iI 867 := rfl
theorem li_892 : (892 : Int32) = iI 892 := rfl
theorem li_900 : (900 : Int32) = iI 900 := rfl
theorem li_905 : (905 : Int32) = iI 905 := rfl
theorem li_930 : (930 : Int32) = iI 930 := rfl
theorem li_940 : (940 : Int32) = iI 940 := rfl
theorem li_943 : (943 : Int32) = iI 943 := rfl
theorem li_968 : (968 : Int32) = iI 968 := rfl
theorem li_999 : (999 : Int32) = iI 999 := rfl
theorem li_1000 : (1000 : Int32) = iI 1000 := rfl
theorem li_1005 : (1005 : Int32) = iI 1005 := rfl
theorem li_1023 : (1023 : Int32) = iI 1023 := rfl
theorem li_1024 : (1024 : Int32) = iI 1024 := rfl
theorem li_1030 : (1030 : Int32) = iI 1030 := rfl
theorem li_1055 : (1055 : Int32) = iI 1055 := rfl
theorem li_1071 : (1071 : Int32) = iI 1071 := rfl
theorem li_1092 : (1092 : Int32) = iI 1092 := rfl
theorem li_1117 : (1117 : Int32) = iI 1117 := rfl
theorem li_1123 : (1123 : Int32) = iI 1123 := rfl
theorem li_1144 : (1144 : Int32) = iI 1144 := rfl
theorem li_1153 : (1153 : Int32) = iI 1153 := rfl
theorem li_1170 : (1170 : Int32) = iI 1170 := rfl
theorem li_1173 : (1173 : Int32) = iI 1173 := rfl
theorem li_1221 : (1221 : Int32) = iI 1221 := rfl
theorem li_1224 : (1224 : Int32) = iI 1224 := rfl
theorem li_1238 : (1238 : Int32) = iI 1238 := rfl
theorem li_1241 : (1241 : Int32) = iI 1241 := rfl
theorem li_1254 : (1254 : Int32) = iI 1254 := rfl
theorem li_1267 : (1267 : Int32) = iI 1267 := rfl
theorem li_1292 : (1292 : Int32) = iI 1292 := rfl
theorem li_1304 : (1304 : Int32) = iI 1304 := rfl
theorem li_1341 : (1341 : Int32) = iI 1341 := rfl
theorem li_1366 : (1366 : Int32) = iI 1366 := rfl
theorem li_1391 : (1391 : Int32) = iI 1391 := rfl
theorem li_1404 : (1404 : Int32) = iI 1404 := rfl
theorem li_1429 : (1429 : Int32) = iI 1429 := rfl
theorem li_1454 : (1454 : Int32) = iI 1454 := rfl
theorem li_1479 : (1479 : Int32) = iI 1479 := rfl
theorem li_1504 : (1504 : Int32) = iI 1504 := rfl
theorem li_1792 : (1792 : Int32) = iI 1792 := rfl
theorem li_12345 : (12345 : Int32) = iI 12345 := rfl
theorem li_55232 : (55232 : Int32) = iI 55232 := rfl
theorem li_56320 : (56320 : Int32) = iI 56320 := rfl
theorem li_65536 : (65536 : Int32) = iI 65536 := rfl
theorem li_1000000 : (1000000 : Int32) = iI 1000000 := rfl
theorem li_1103515245 : (1103515245 : Int32) = iI 1103515245 := rfl
theorem lm_1 : (-1 : Int32) = iI (-1) := rfl
theorem lm_2 : (-2 : Int32) = iI (-2) := rfl
theorem lm_5 : (-5 : Int32) = iI (-5) := rfl
theorem lm_8 : (-8 : Int32) = iI (-8) := rfl
theorem lm_1000 : (-1000 : Int32) = iI (-1000) := rfl
