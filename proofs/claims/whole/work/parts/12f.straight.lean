/-! the constructors that run straight (by program) -/
def bodyR : Int → Int := fun z => if z.toNat < 4 then -1 else 0
def poseR : Int → Int := fun z => if z.toNat = (5 : Int).toNat then 2 else if z.toNat = (4 : Int).toNat then 0 else if z.toNat = (3 : Int).toNat then 4 else 0
def skinR : Int → Int := fun z => if z = 7 then 1 else 0
def edgesS : List spec := [((2, 0), zr), ((20, 240), zr)]
def sheetS : List spec := [((8, 0), zr), ((20, 60), zr), ((20, 60), zr), ((20, 240), zr)]
def formS : List spec := [((4, 0), zr), ((20, 240), zr), ((20, 240), zr), ((20, 60), zr)]
def layoutS : List spec := [((5, 0), zr), ((20, 60), zr), ((20, 60), zr), ((20, 60), zr), ((20, 60), zr)]
def linksS : List spec := [((6, 0), zr), ((20, 240), zr), ((20, 60), zr), ((20, 60), zr)]
def wrapS : List spec := [((10, 0), zr), ((20, 60), zr), ((20, 60), zr), ((20, 60), zr), ((20, 480), zr)]
def modelS : List spec := [((12, 0), zr), ((20, 4), zr), ((20, 64), zr), ((20, 1536), zr), ((20, 60), zr), ((20, 60), zr), ((20, 60), zr), ((20, 60), zr), ((20, 6), zr), ((20, 1440), zr), ((20, 14880), zr), ((20, 216), zr), ((20, 8), zr), ((20, 384), zr), ((20, 384), zr), ((20, 384), zr), ((20, 384), zr), ((20, 384), zr), ((20, 384), zr), ((20, 384), zr), ((20, 60), zr), ((20, 60), zr), ((20, 60), zr), ((20, 60), zr), ((20, 60), zr), ((20, 60), zr), ((20, 60), zr), ((20, 60), zr), ((20, 60), zr), ((20, 240), zr), ((20, 240), zr), ((20, 60), zr), ((20, 60), zr), ((21, 384), zr), ((20, 60), zr)]
def bodyS : List spec := [((1, 0), zr), ((20, 4), bodyR)]
def foldS : List spec := [((3, 0), zr), ((20, 360), poseR), ((20, 6), zr), ((20, 240), zr)]
def skinS : List spec := [((9, 0), skinR), ((20, 240), zr), ((20, 240), zr), ((20, 384), zr), ((20, 960), zr), ((20, 960), zr)]
theorem con_X2 : Con mX2_init 2 1 240 edgesS := by
  intro w0
  have e0 : w0 ++ [bobj 2] = w0 ++ bobj 2 :: genL (w0.length + 1) [] := rfl
  rw [e0]
  refine Cj.aload_n dX2_init_0 rfl rfl ?_
  refine Cj.obj dX2_init_1 oi_X2 oi_inst oi_code (by decide) rfl ?_
  refine Cj.aload_n dX2_init_4 rfl rfl ?_
  refine Cj.sipush dX2_init_5 (by decide +kernel) rfl ?_
  refine Cg.newi dX2_init_8 ac_int (m := 1) rfl (by decide) (Nat.le_of_ble_eq_true rfl) (Nat.le_of_ble_eq_true rfl) rfl ?_
  refine Cg.putF dX2_init_10 ff_X2_9 rfl (Nat.le_of_ble_eq_true rfl) rfl ?_
  exact Cj.vret dX2_init_13 rfl ⟨rfl, rfl⟩
theorem con_X8 : Con mX8_init 8 3 360 sheetS := by
  intro w0
  have e0 : w0 ++ [bobj 8] = w0 ++ bobj 8 :: genL (w0.length + 1) [] := rfl
  rw [e0]
  refine Cj.aload_n dX8_init_0 rfl rfl ?_
  refine Cj.obj dX8_init_1 oi_X8 oi_inst oi_code (by decide) rfl ?_
  refine Cj.aload_n dX8_init_4 rfl rfl ?_
  refine Cj.bipush dX8_init_5 (by decide +kernel) rfl ?_
  refine Cg.newi dX8_init_7 ac_int (m := 1) rfl (by decide) (Nat.le_of_ble_eq_true rfl) (Nat.le_of_ble_eq_true rfl) rfl ?_
  refine Cg.putF dX8_init_9 ff_X8_9 rfl (Nat.le_of_ble_eq_true rfl) rfl ?_
  refine Cj.aload_n dX8_init_12 rfl rfl ?_
  refine Cj.bipush dX8_init_13 (by decide +kernel) rfl ?_
  refine Cg.newi dX8_init_15 ac_int (m := 2) rfl (by decide) (Nat.le_of_ble_eq_true rfl) (Nat.le_of_ble_eq_true rfl) rfl ?_
  refine Cg.putF dX8_init_17 ff_X8_13 rfl (Nat.le_of_ble_eq_true rfl) rfl ?_
  refine Cj.aload_n dX8_init_20 rfl rfl ?_
  refine Cj.sipush dX8_init_21 (by decide +kernel) rfl ?_
  refine Cg.newi dX8_init_24 ac_int (m := 3) rfl (by decide) (Nat.le_of_ble_eq_true rfl) (Nat.le_of_ble_eq_true rfl) rfl ?_
  refine Cg.putF dX8_init_26 ff_X8_16 rfl (Nat.le_of_ble_eq_true rfl) rfl ?_
  refine Cj.aload_n dX8_init_29 rfl rfl ?_
  refine Cj.iconst dX8_init_30 rfl ?_
  refine Cg.putI dX8_init_31 fp_X8_19 (Or.inl ⟨rfl, _, rfl⟩) (Nat.le_of_ble_eq_true rfl) rfl ?_
  exact Cj.vret dX8_init_34 rfl ⟨rfl, rfl⟩
theorem con_X4 : Con mX4_init 4 3 540 formS := by
  intro w0
  have e0 : w0 ++ [bobj 4] = w0 ++ bobj 4 :: genL (w0.length + 1) [] := rfl
  rw [e0]
  refine Cj.aload_n dX4_init_0 rfl rfl ?_
  refine Cj.obj dX4_init_1 oi_X4 oi_inst oi_code (by decide) rfl ?_
  refine Cj.aload_n dX4_init_4 rfl rfl ?_
  refine Cj.sipush dX4_init_5 (by decide +kernel) rfl ?_
  refine Cg.newi dX4_init_8 ac_int (m := 1) rfl (by decide) (Nat.le_of_ble_eq_true rfl) (Nat.le_of_ble_eq_true rfl) rfl ?_
  refine Cg.putF dX4_init_10 ff_X4_11 rfl (Nat.le_of_ble_eq_true rfl) rfl ?_
  refine Cj.aload_n dX4_init_13 rfl rfl ?_
  refine Cj.sipush dX4_init_14 (by decide +kernel) rfl ?_
  refine Cg.newi dX4_init_17 ac_int (m := 2) rfl (by decide) (Nat.le_of_ble_eq_true rfl) (Nat.le_of_ble_eq_true rfl) rfl ?_
  refine Cg.putF dX4_init_19 ff_X4_15 rfl (Nat.le_of_ble_eq_true rfl) rfl ?_
  refine Cj.aload_n dX4_init_22 rfl rfl ?_
  refine Cj.bipush dX4_init_23 (by decide +kernel) rfl ?_
  refine Cg.newi dX4_init_25 ac_int (m := 3) rfl (by decide) (Nat.le_of_ble_eq_true rfl) (Nat.le_of_ble_eq_true rfl) rfl ?_
  refine Cg.putF dX4_init_27 ff_X4_18 rfl (Nat.le_of_ble_eq_true rfl) rfl ?_
  refine Cj.aload_n dX4_init_30 rfl rfl ?_
  refine Cj.iconst dX4_init_31 rfl ?_
  refine Cg.putI dX4_init_32 fp_X4_21 (Or.inl ⟨rfl, _, rfl⟩) (Nat.le_of_ble_eq_true rfl) rfl ?_
  refine Cj.aload_n dX4_init_35 rfl rfl ?_
  refine Cj.iconst dX4_init_36 rfl ?_
  refine Cg.putI dX4_init_37 fp_X4_25 (Or.inl ⟨rfl, _, rfl⟩) (Nat.le_of_ble_eq_true rfl) rfl ?_
  exact Cj.vret dX4_init_40 rfl ⟨rfl, rfl⟩
theorem con_X5 : Con mX5_init 5 4 240 layoutS := by
  intro w0
  have e0 : w0 ++ [bobj 5] = w0 ++ bobj 5 :: genL (w0.length + 1) [] := rfl
  rw [e0]
  refine Cj.aload_n dX5_init_0 rfl rfl ?_
  refine Cj.obj dX5_init_1 oi_X5 oi_inst oi_code (by decide) rfl ?_
  refine Cj.aload_n dX5_init_4 rfl rfl ?_
  refine Cj.bipush dX5_init_5 (by decide +kernel) rfl ?_
  refine Cg.newi dX5_init_7 ac_int (m := 1) rfl (by decide) (Nat.le_of_ble_eq_true rfl) (Nat.le_of_ble_eq_true rfl) rfl ?_
  refine Cg.putF dX5_init_9 ff_X5_9 rfl (Nat.le_of_ble_eq_true rfl) rfl ?_
  refine Cj.aload_n dX5_init_12 rfl rfl ?_
  refine Cj.bipush dX5_init_13 (by decide +kernel) rfl ?_
  refine Cg.newi dX5_init_15 ac_int (m := 2) rfl (by decide) (Nat.le_of_ble_eq_true rfl) (Nat.le_of_ble_eq_true rfl) rfl ?_
  refine Cg.putF dX5_init_17 ff_X5_15 rfl (Nat.le_of_ble_eq_true rfl) rfl ?_
  refine Cj.aload_n dX5_init_20 rfl rfl ?_
  refine Cj.bipush dX5_init_21 (by decide +kernel) rfl ?_
  refine Cg.newi dX5_init_23 ac_int (m := 3) rfl (by decide) (Nat.le_of_ble_eq_true rfl) (Nat.le_of_ble_eq_true rfl) rfl ?_
  refine Cg.putF dX5_init_25 ff_X5_18 rfl (Nat.le_of_ble_eq_true rfl) rfl ?_
  refine Cj.aload_n dX5_init_28 rfl rfl ?_
  refine Cj.bipush dX5_init_29 (by decide +kernel) rfl ?_
  refine Cg.newi dX5_init_31 ac_int (m := 4) rfl (by decide) (Nat.le_of_ble_eq_true rfl) (Nat.le_of_ble_eq_true rfl) rfl ?_
  refine Cg.putF dX5_init_33 ff_X5_21 rfl (Nat.le_of_ble_eq_true rfl) rfl ?_
  refine Cj.aload_n dX5_init_36 rfl rfl ?_
  refine Cj.iconst dX5_init_37 rfl ?_
  refine Cg.putI dX5_init_38 fp_X5_24 (Or.inl ⟨rfl, _, rfl⟩) (Nat.le_of_ble_eq_true rfl) rfl ?_
  refine Cj.aload_n dX5_init_41 rfl rfl ?_
  refine Cj.iconst dX5_init_42 rfl ?_
  refine Cg.putI dX5_init_43 fp_X5_28 (Or.inl ⟨rfl, _, rfl⟩) (Nat.le_of_ble_eq_true rfl) rfl ?_
  exact Cj.vret dX5_init_46 rfl ⟨rfl, rfl⟩
theorem con_X6 : Con mX6_init 6 3 360 linksS := by
  intro w0
  have e0 : w0 ++ [bobj 6] = w0 ++ bobj 6 :: genL (w0.length + 1) [] := rfl
  rw [e0]
  refine Cj.aload_n dX6_init_0 rfl rfl ?_
  refine Cj.obj dX6_init_1 oi_X6 oi_inst oi_code (by decide) rfl ?_
  refine Cj.aload_n dX6_init_4 rfl rfl ?_
  refine Cj.sipush dX6_init_5 (by decide +kernel) rfl ?_
  refine Cg.newi dX6_init_8 ac_int (m := 1) rfl (by decide) (Nat.le_of_ble_eq_true rfl) (Nat.le_of_ble_eq_true rfl) rfl ?_
  refine Cg.putF dX6_init_10 ff_X6_9 rfl (Nat.le_of_ble_eq_true rfl) rfl ?_
  refine Cj.aload_n dX6_init_13 rfl rfl ?_
  refine Cj.bipush dX6_init_14 (by decide +kernel) rfl ?_
  refine Cg.newi dX6_init_16 ac_int (m := 2) rfl (by decide) (Nat.le_of_ble_eq_true rfl) (Nat.le_of_ble_eq_true rfl) rfl ?_
  refine Cg.putF dX6_init_18 ff_X6_15 rfl (Nat.le_of_ble_eq_true rfl) rfl ?_
  refine Cj.aload_n dX6_init_21 rfl rfl ?_
  refine Cj.bipush dX6_init_22 (by decide +kernel) rfl ?_
  refine Cg.newi dX6_init_24 ac_int (m := 3) rfl (by decide) (Nat.le_of_ble_eq_true rfl) (Nat.le_of_ble_eq_true rfl) rfl ?_
  refine Cg.putF dX6_init_26 ff_X6_18 rfl (Nat.le_of_ble_eq_true rfl) rfl ?_
  refine Cj.aload_n dX6_init_29 rfl rfl ?_
  refine Cj.iconst dX6_init_30 rfl ?_
  refine Cg.putI dX6_init_31 fp_X6_21 (Or.inl ⟨rfl, _, rfl⟩) (Nat.le_of_ble_eq_true rfl) rfl ?_
  refine Cj.aload_n dX6_init_34 rfl rfl ?_
  refine Cj.iconst dX6_init_35 rfl ?_
  refine Cg.putI dX6_init_36 fp_X6_25 (Or.inl ⟨rfl, _, rfl⟩) (Nat.le_of_ble_eq_true rfl) rfl ?_
  exact Cj.vret dX6_init_39 rfl ⟨rfl, rfl⟩
theorem con_X10 : Con mX10_init 10 4 660 wrapS := by
  intro w0
  have e0 : w0 ++ [bobj 10] = w0 ++ bobj 10 :: genL (w0.length + 1) [] := rfl
  rw [e0]
  refine Cj.aload_n dX10_init_0 rfl rfl ?_
  refine Cj.obj dX10_init_1 oi_X10 oi_inst oi_code (by decide) rfl ?_
  refine Cj.aload_n dX10_init_4 rfl rfl ?_
  refine Cj.bipush dX10_init_5 (by decide +kernel) rfl ?_
  refine Cg.newi dX10_init_7 ac_int (m := 1) rfl (by decide) (Nat.le_of_ble_eq_true rfl) (Nat.le_of_ble_eq_true rfl) rfl ?_
  refine Cg.putF dX10_init_9 ff_X10_9 rfl (Nat.le_of_ble_eq_true rfl) rfl ?_
  refine Cj.aload_n dX10_init_12 rfl rfl ?_
  refine Cj.bipush dX10_init_13 (by decide +kernel) rfl ?_
  refine Cg.newi dX10_init_15 ac_int (m := 2) rfl (by decide) (Nat.le_of_ble_eq_true rfl) (Nat.le_of_ble_eq_true rfl) rfl ?_
  refine Cg.putF dX10_init_17 ff_X10_15 rfl (Nat.le_of_ble_eq_true rfl) rfl ?_
  refine Cj.aload_n dX10_init_20 rfl rfl ?_
  refine Cj.bipush dX10_init_21 (by decide +kernel) rfl ?_
  refine Cg.newi dX10_init_23 ac_int (m := 3) rfl (by decide) (Nat.le_of_ble_eq_true rfl) (Nat.le_of_ble_eq_true rfl) rfl ?_
  refine Cg.putF dX10_init_25 ff_X10_18 rfl (Nat.le_of_ble_eq_true rfl) rfl ?_
  refine Cj.aload_n dX10_init_28 rfl rfl ?_
  refine Cj.sipush dX10_init_29 (by decide +kernel) rfl ?_
  refine Cg.newi dX10_init_32 ac_int (m := 4) rfl (by decide) (Nat.le_of_ble_eq_true rfl) (Nat.le_of_ble_eq_true rfl) rfl ?_
  refine Cg.putF dX10_init_34 ff_X10_21 rfl (Nat.le_of_ble_eq_true rfl) rfl ?_
  refine Cj.aload_n dX10_init_37 rfl rfl ?_
  refine Cj.iconst dX10_init_38 rfl ?_
  refine Cg.putI dX10_init_39 fp_X10_24 (Or.inl ⟨rfl, _, rfl⟩) (Nat.le_of_ble_eq_true rfl) rfl ?_
  exact Cj.vret dX10_init_42 rfl ⟨rfl, rfl⟩
theorem con_X3 : Con mX3_init 3 3 606 foldS := by
  intro w0
  have e0 : w0 ++ [bobj 3] = w0 ++ bobj 3 :: genL (w0.length + 1) [] := rfl
  rw [e0]
  refine Cj.aload_n dX3_init_0 rfl rfl ?_
  refine Cj.obj dX3_init_1 oi_X3 oi_inst oi_code (by decide) rfl ?_
  refine Cj.aload_n dX3_init_4 rfl rfl ?_
  refine Cj.sipush dX3_init_5 (by decide +kernel) rfl ?_
  refine Cg.newi dX3_init_8 ac_int (m := 1) rfl (by decide) (Nat.le_of_ble_eq_true rfl) (Nat.le_of_ble_eq_true rfl) rfl ?_
  refine Cg.putF dX3_init_10 ff_X3_11 rfl (Nat.le_of_ble_eq_true rfl) rfl ?_
  refine Cj.aload_n dX3_init_13 rfl rfl ?_
  refine Cj.bipush dX3_init_14 (by decide +kernel) rfl ?_
  refine Cg.newi dX3_init_16 ac_int (m := 2) rfl (by decide) (Nat.le_of_ble_eq_true rfl) (Nat.le_of_ble_eq_true rfl) rfl ?_
  refine Cg.putF dX3_init_18 ff_X3_15 rfl (Nat.le_of_ble_eq_true rfl) rfl ?_
  refine Cj.aload_n dX3_init_21 rfl rfl ?_
  refine Cj.sipush dX3_init_22 (by decide +kernel) rfl ?_
  refine Cg.newi dX3_init_25 ac_int (m := 3) rfl (by decide) (Nat.le_of_ble_eq_true rfl) (Nat.le_of_ble_eq_true rfl) rfl ?_
  refine Cg.putF dX3_init_27 ff_X3_18 rfl (Nat.le_of_ble_eq_true rfl) rfl ?_
  refine Cj.aload_n dX3_init_30 rfl rfl ?_
  refine Cj.iconst dX3_init_31 rfl ?_
  refine Cg.putI dX3_init_32 fp_X3_21 (Or.inl ⟨rfl, _, rfl⟩) (Nat.le_of_ble_eq_true rfl) rfl ?_
  refine Cj.aload_n dX3_init_35 rfl rfl ?_
  refine Cg.get dX3_init_36 fl_X3_11 rfl rfl ?_
  refine Cj.iconst dX3_init_39 rfl ?_
  refine Cj.iconst dX3_init_40 rfl ?_
  refine Cg.iast (j := 0) dX3_init_41 rfl (by decide) (by decide) (by decide) rfl ?_
  refine Cj.aload_n dX3_init_42 rfl rfl ?_
  refine Cg.get dX3_init_43 fl_X3_11 rfl rfl ?_
  refine Cj.iconst dX3_init_46 rfl ?_
  refine Cj.iconst dX3_init_47 rfl ?_
  refine Cg.iast (j := 0) dX3_init_48 rfl (by decide) (by decide) (by decide) rfl ?_
  refine Cj.aload_n dX3_init_49 rfl rfl ?_
  refine Cg.get dX3_init_50 fl_X3_11 rfl rfl ?_
  refine Cj.iconst dX3_init_53 rfl ?_
  refine Cj.iconst dX3_init_54 rfl ?_
  refine Cg.iast (j := 0) dX3_init_55 rfl (by decide) (by decide) (by decide) rfl ?_
  exact Cj.vret dX3_init_56 rfl ⟨rfl, rfl⟩
theorem con_X12 : Con mX12_init 12 34 22666 modelS := by
  intro w0
  have e0 : w0 ++ [bobj 12] = w0 ++ bobj 12 :: genL (w0.length + 1) [] := rfl
  rw [e0]
  refine Cj.aload_n dX12_init_0 rfl rfl ?_
  refine Cj.obj dX12_init_1 oi_X12 oi_inst oi_code (by decide) rfl ?_
  refine Cj.aload_n dX12_init_4 rfl rfl ?_
  refine Cj.iconst dX12_init_5 rfl ?_
  refine Cg.newi dX12_init_6 ac_int (m := 1) rfl (by decide) (Nat.le_of_ble_eq_true rfl) (Nat.le_of_ble_eq_true rfl) rfl ?_
  refine Cg.putF dX12_init_8 ff_X12_7 rfl (Nat.le_of_ble_eq_true rfl) rfl ?_
  show Cj mX12_init 34 22666 11 [some (rV w0.length)] [] (w0 ++ Sum.inl (12, [some (iV 0), some (rV (w0.length + 1)), none, none, some (iV 0), none, none, none, none, none, none, none, some (iV 0), some (iV 0), some (iV 0), none, none, some (iV 0), none, none, none, some (iV 0), some (iV 0), some (iV 0), none, none, none, none, none, none, none, none, none, none, none, none, none, none, none, some (iV 0), none, none, none, none, some (iV 0), some (iV 0), some (iV 0), some (iV 0), some (iV 0), some (iV 0), some (iV 0)]) :: genL (w0.length + 1) [((20, 4), zr)]) 1 4 _
  refine Cj.aload_n dX12_init_11 rfl rfl ?_
  refine Cj.bipush dX12_init_12 (by decide +kernel) rfl ?_
  refine Cg.newi dX12_init_14 ac_int (m := 2) rfl (by decide) (Nat.le_of_ble_eq_true rfl) (Nat.le_of_ble_eq_true rfl) rfl ?_
  refine Cg.putF dX12_init_16 ff_X12_13 rfl (Nat.le_of_ble_eq_true rfl) rfl ?_
  show Cj mX12_init 34 22666 19 [some (rV w0.length)] [] (w0 ++ Sum.inl (12, [some (iV 0), some (rV (w0.length + 1)), some (rV (w0.length + 2)), none, some (iV 0), none, none, none, none, none, none, none, some (iV 0), some (iV 0), some (iV 0), none, none, some (iV 0), none, none, none, some (iV 0), some (iV 0), some (iV 0), none, none, none, none, none, none, none, none, none, none, none, none, none, none, none, some (iV 0), none, none, none, none, some (iV 0), some (iV 0), some (iV 0), some (iV 0), some (iV 0), some (iV 0), some (iV 0)]) :: genL (w0.length + 1) [((20, 4), zr), ((20, 64), zr)]) 2 68 _
  refine Cj.aload_n dX12_init_19 rfl rfl ?_
  refine Cj.sipush dX12_init_20 (by decide +kernel) rfl ?_
  refine Cg.newi dX12_init_23 ac_int (m := 3) rfl (by decide) (Nat.le_of_ble_eq_true rfl) (Nat.le_of_ble_eq_true rfl) rfl ?_
  refine Cg.putF dX12_init_25 ff_X12_16 rfl (Nat.le_of_ble_eq_true rfl) rfl ?_
  show Cj mX12_init 34 22666 28 [some (rV w0.length)] [] (w0 ++ Sum.inl (12, [some (iV 0), some (rV (w0.length + 1)), some (rV (w0.length + 2)), some (rV (w0.length + 3)), some (iV 0), none, none, none, none, none, none, none, some (iV 0), some (iV 0), some (iV 0), none, none, some (iV 0), none, none, none, some (iV 0), some (iV 0), some (iV 0), none, none, none, none, none, none, none, none, none, none, none, none, none, none, none, some (iV 0), none, none, none, none, some (iV 0), some (iV 0), some (iV 0), some (iV 0), some (iV 0), some (iV 0), some (iV 0)]) :: genL (w0.length + 1) [((20, 4), zr), ((20, 64), zr), ((20, 1536), zr)]) 3 1604 _
  refine Cj.aload_n dX12_init_28 rfl rfl ?_
  refine Cj.bipush dX12_init_29 (by decide +kernel) rfl ?_
  refine Cg.newi dX12_init_31 ac_int (m := 4) rfl (by decide) (Nat.le_of_ble_eq_true rfl) (Nat.le_of_ble_eq_true rfl) rfl ?_
  refine Cg.putF dX12_init_33 ff_X12_19 rfl (Nat.le_of_ble_eq_true rfl) rfl ?_
  show Cj mX12_init 34 22666 36 [some (rV w0.length)] [] (w0 ++ Sum.inl (12, [some (iV 0), some (rV (w0.length + 1)), some (rV (w0.length + 2)), some (rV (w0.length + 3)), some (iV 0), some (rV (w0.length + 4)), none, none, none, none, none, none, some (iV 0), some (iV 0), some (iV 0), none, none, some (iV 0), none, none, none, some (iV 0), some (iV 0), some (iV 0), none, none, none, none, none, none, none, none, none, none, none, none, none, none, none, some (iV 0), none, none, none, none, some (iV 0), some (iV 0), some (iV 0), some (iV 0), some (iV 0), some (iV 0), some (iV 0)]) :: genL (w0.length + 1) [((20, 4), zr), ((20, 64), zr), ((20, 1536), zr), ((20, 60), zr)]) 4 1664 _
  refine Cj.aload_n dX12_init_36 rfl rfl ?_
  refine Cj.bipush dX12_init_37 (by decide +kernel) rfl ?_
  refine Cg.newi dX12_init_39 ac_int (m := 5) rfl (by decide) (Nat.le_of_ble_eq_true rfl) (Nat.le_of_ble_eq_true rfl) rfl ?_
  refine Cg.putF dX12_init_41 ff_X12_22 rfl (Nat.le_of_ble_eq_true rfl) rfl ?_
  show Cj mX12_init 34 22666 44 [some (rV w0.length)] [] (w0 ++ Sum.inl (12, [some (iV 0), some (rV (w0.length + 1)), some (rV (w0.length + 2)), some (rV (w0.length + 3)), some (iV 0), some (rV (w0.length + 4)), some (rV (w0.length + 5)), none, none, none, none, none, some (iV 0), some (iV 0), some (iV 0), none, none, some (iV 0), none, none, none, some (iV 0), some (iV 0), some (iV 0), none, none, none, none, none, none, none, none, none, none, none, none, none, none, none, some (iV 0), none, none, none, none, some (iV 0), some (iV 0), some (iV 0), some (iV 0), some (iV 0), some (iV 0), some (iV 0)]) :: genL (w0.length + 1) [((20, 4), zr), ((20, 64), zr), ((20, 1536), zr), ((20, 60), zr), ((20, 60), zr)]) 5 1724 _
  refine Cj.aload_n dX12_init_44 rfl rfl ?_
  refine Cj.bipush dX12_init_45 (by decide +kernel) rfl ?_
  refine Cg.newi dX12_init_47 ac_int (m := 6) rfl (by decide) (Nat.le_of_ble_eq_true rfl) (Nat.le_of_ble_eq_true rfl) rfl ?_
  refine Cg.putF dX12_init_49 ff_X12_25 rfl (Nat.le_of_ble_eq_true rfl) rfl ?_
  show Cj mX12_init 34 22666 52 [some (rV w0.length)] [] (w0 ++ Sum.inl (12, [some (iV 0), some (rV (w0.length + 1)), some (rV (w0.length + 2)), some (rV (w0.length + 3)), some (iV 0), some (rV (w0.length + 4)), some (rV (w0.length + 5)), some (rV (w0.length + 6)), none, none, none, none, some (iV 0), some (iV 0), some (iV 0), none, none, some (iV 0), none, none, none, some (iV 0), some (iV 0), some (iV 0), none, none, none, none, none, none, none, none, none, none, none, none, none, none, none, some (iV 0), none, none, none, none, some (iV 0), some (iV 0), some (iV 0), some (iV 0), some (iV 0), some (iV 0), some (iV 0)]) :: genL (w0.length + 1) [((20, 4), zr), ((20, 64), zr), ((20, 1536), zr), ((20, 60), zr), ((20, 60), zr), ((20, 60), zr)]) 6 1784 _
  refine Cj.aload_n dX12_init_52 rfl rfl ?_
  refine Cj.bipush dX12_init_53 (by decide +kernel) rfl ?_
  refine Cg.newi dX12_init_55 ac_int (m := 7) rfl (by decide) (Nat.le_of_ble_eq_true rfl) (Nat.le_of_ble_eq_true rfl) rfl ?_
  refine Cg.putF dX12_init_57 ff_X12_28 rfl (Nat.le_of_ble_eq_true rfl) rfl ?_
  show Cj mX12_init 34 22666 60 [some (rV w0.length)] [] (w0 ++ Sum.inl (12, [some (iV 0), some (rV (w0.length + 1)), some (rV (w0.length + 2)), some (rV (w0.length + 3)), some (iV 0), some (rV (w0.length + 4)), some (rV (w0.length + 5)), some (rV (w0.length + 6)), some (rV (w0.length + 7)), none, none, none, some (iV 0), some (iV 0), some (iV 0), none, none, some (iV 0), none, none, none, some (iV 0), some (iV 0), some (iV 0), none, none, none, none, none, none, none, none, none, none, none, none, none, none, none, some (iV 0), none, none, none, none, some (iV 0), some (iV 0), some (iV 0), some (iV 0), some (iV 0), some (iV 0), some (iV 0)]) :: genL (w0.length + 1) [((20, 4), zr), ((20, 64), zr), ((20, 1536), zr), ((20, 60), zr), ((20, 60), zr), ((20, 60), zr), ((20, 60), zr)]) 7 1844 _
  refine Cj.aload_n dX12_init_60 rfl rfl ?_
  refine Cj.bipush dX12_init_61 (by decide +kernel) rfl ?_
  refine Cg.newi dX12_init_63 ac_int (m := 8) rfl (by decide) (Nat.le_of_ble_eq_true rfl) (Nat.le_of_ble_eq_true rfl) rfl ?_
  refine Cg.putF dX12_init_65 ff_X12_31 rfl (Nat.le_of_ble_eq_true rfl) rfl ?_
  show Cj mX12_init 34 22666 68 [some (rV w0.length)] [] (w0 ++ Sum.inl (12, [some (iV 0), some (rV (w0.length + 1)), some (rV (w0.length + 2)), some (rV (w0.length + 3)), some (iV 0), some (rV (w0.length + 4)), some (rV (w0.length + 5)), some (rV (w0.length + 6)), some (rV (w0.length + 7)), some (rV (w0.length + 8)), none, none, some (iV 0), some (iV 0), some (iV 0), none, none, some (iV 0), none, none, none, some (iV 0), some (iV 0), some (iV 0), none, none, none, none, none, none, none, none, none, none, none, none, none, none, none, some (iV 0), none, none, none, none, some (iV 0), some (iV 0), some (iV 0), some (iV 0), some (iV 0), some (iV 0), some (iV 0)]) :: genL (w0.length + 1) [((20, 4), zr), ((20, 64), zr), ((20, 1536), zr), ((20, 60), zr), ((20, 60), zr), ((20, 60), zr), ((20, 60), zr), ((20, 6), zr)]) 8 1850 _
  refine Cj.aload_n dX12_init_68 rfl rfl ?_
  refine Cj.sipush dX12_init_69 (by decide +kernel) rfl ?_
  refine Cg.newi dX12_init_72 ac_int (m := 9) rfl (by decide) (Nat.le_of_ble_eq_true rfl) (Nat.le_of_ble_eq_true rfl) rfl ?_
  refine Cg.putF dX12_init_74 ff_X12_34 rfl (Nat.le_of_ble_eq_true rfl) rfl ?_
  show Cj mX12_init 34 22666 77 [some (rV w0.length)] [] (w0 ++ Sum.inl (12, [some (iV 0), some (rV (w0.length + 1)), some (rV (w0.length + 2)), some (rV (w0.length + 3)), some (iV 0), some (rV (w0.length + 4)), some (rV (w0.length + 5)), some (rV (w0.length + 6)), some (rV (w0.length + 7)), some (rV (w0.length + 8)), some (rV (w0.length + 9)), none, some (iV 0), some (iV 0), some (iV 0), none, none, some (iV 0), none, none, none, some (iV 0), some (iV 0), some (iV 0), none, none, none, none, none, none, none, none, none, none, none, none, none, none, none, some (iV 0), none, none, none, none, some (iV 0), some (iV 0), some (iV 0), some (iV 0), some (iV 0), some (iV 0), some (iV 0)]) :: genL (w0.length + 1) [((20, 4), zr), ((20, 64), zr), ((20, 1536), zr), ((20, 60), zr), ((20, 60), zr), ((20, 60), zr), ((20, 60), zr), ((20, 6), zr), ((20, 1440), zr)]) 9 3290 _
  refine Cj.aload_n dX12_init_77 rfl rfl ?_
  refine Cj.sipush dX12_init_78 (by decide +kernel) rfl ?_
  refine Cg.newi dX12_init_81 ac_int (m := 10) rfl (by decide) (Nat.le_of_ble_eq_true rfl) (Nat.le_of_ble_eq_true rfl) rfl ?_
  refine Cg.putF dX12_init_83 ff_X12_37 rfl (Nat.le_of_ble_eq_true rfl) rfl ?_
  show Cj mX12_init 34 22666 86 [some (rV w0.length)] [] (w0 ++ Sum.inl (12, [some (iV 0), some (rV (w0.length + 1)), some (rV (w0.length + 2)), some (rV (w0.length + 3)), some (iV 0), some (rV (w0.length + 4)), some (rV (w0.length + 5)), some (rV (w0.length + 6)), some (rV (w0.length + 7)), some (rV (w0.length + 8)), some (rV (w0.length + 9)), some (rV (w0.length + 10)), some (iV 0), some (iV 0), some (iV 0), none, none, some (iV 0), none, none, none, some (iV 0), some (iV 0), some (iV 0), none, none, none, none, none, none, none, none, none, none, none, none, none, none, none, some (iV 0), none, none, none, none, some (iV 0), some (iV 0), some (iV 0), some (iV 0), some (iV 0), some (iV 0), some (iV 0)]) :: genL (w0.length + 1) [((20, 4), zr), ((20, 64), zr), ((20, 1536), zr), ((20, 60), zr), ((20, 60), zr), ((20, 60), zr), ((20, 60), zr), ((20, 6), zr), ((20, 1440), zr), ((20, 14880), zr)]) 10 18170 _
  refine Cj.aload_n dX12_init_86 rfl rfl ?_
  refine Cj.sipush dX12_init_87 (by decide +kernel) rfl ?_
  refine Cg.newi dX12_init_90 ac_int (m := 11) rfl (by decide) (Nat.le_of_ble_eq_true rfl) (Nat.le_of_ble_eq_true rfl) rfl ?_
  refine Cg.putF dX12_init_92 ff_X12_40 rfl (Nat.le_of_ble_eq_true rfl) rfl ?_
  show Cj mX12_init 34 22666 95 [some (rV w0.length)] [] (w0 ++ Sum.inl (12, [some (iV 0), some (rV (w0.length + 1)), some (rV (w0.length + 2)), some (rV (w0.length + 3)), some (iV 0), some (rV (w0.length + 4)), some (rV (w0.length + 5)), some (rV (w0.length + 6)), some (rV (w0.length + 7)), some (rV (w0.length + 8)), some (rV (w0.length + 9)), some (rV (w0.length + 10)), some (iV 0), some (iV 0), some (iV 0), some (rV (w0.length + 11)), none, some (iV 0), none, none, none, some (iV 0), some (iV 0), some (iV 0), none, none, none, none, none, none, none, none, none, none, none, none, none, none, none, some (iV 0), none, none, none, none, some (iV 0), some (iV 0), some (iV 0), some (iV 0), some (iV 0), some (iV 0), some (iV 0)]) :: genL (w0.length + 1) [((20, 4), zr), ((20, 64), zr), ((20, 1536), zr), ((20, 60), zr), ((20, 60), zr), ((20, 60), zr), ((20, 60), zr), ((20, 6), zr), ((20, 1440), zr), ((20, 14880), zr), ((20, 216), zr)]) 11 18386 _
  refine Cj.aload_n dX12_init_95 rfl rfl ?_
  refine Cj.bipush dX12_init_96 (by decide +kernel) rfl ?_
  refine Cg.newi dX12_init_98 ac_int (m := 12) rfl (by decide) (Nat.le_of_ble_eq_true rfl) (Nat.le_of_ble_eq_true rfl) rfl ?_
  refine Cg.putF dX12_init_100 ff_X12_43 rfl (Nat.le_of_ble_eq_true rfl) rfl ?_
  show Cj mX12_init 34 22666 103 [some (rV w0.length)] [] (w0 ++ Sum.inl (12, [some (iV 0), some (rV (w0.length + 1)), some (rV (w0.length + 2)), some (rV (w0.length + 3)), some (iV 0), some (rV (w0.length + 4)), some (rV (w0.length + 5)), some (rV (w0.length + 6)), some (rV (w0.length + 7)), some (rV (w0.length + 8)), some (rV (w0.length + 9)), some (rV (w0.length + 10)), some (iV 0), some (iV 0), some (iV 0), some (rV (w0.length + 11)), some (rV (w0.length + 12)), some (iV 0), none, none, none, some (iV 0), some (iV 0), some (iV 0), none, none, none, none, none, none, none, none, none, none, none, none, none, none, none, some (iV 0), none, none, none, none, some (iV 0), some (iV 0), some (iV 0), some (iV 0), some (iV 0), some (iV 0), some (iV 0)]) :: genL (w0.length + 1) [((20, 4), zr), ((20, 64), zr), ((20, 1536), zr), ((20, 60), zr), ((20, 60), zr), ((20, 60), zr), ((20, 60), zr), ((20, 6), zr), ((20, 1440), zr), ((20, 14880), zr), ((20, 216), zr), ((20, 8), zr)]) 12 18394 _
  refine Cj.aload_n dX12_init_103 rfl rfl ?_
  refine Cj.sipush dX12_init_104 (by decide +kernel) rfl ?_
  refine Cg.newi dX12_init_107 ac_int (m := 13) rfl (by decide) (Nat.le_of_ble_eq_true rfl) (Nat.le_of_ble_eq_true rfl) rfl ?_
  refine Cg.putF dX12_init_109 ff_X12_46 rfl (Nat.le_of_ble_eq_true rfl) rfl ?_
  show Cj mX12_init 34 22666 112 [some (rV w0.length)] [] (w0 ++ Sum.inl (12, [some (iV 0), some (rV (w0.length + 1)), some (rV (w0.length + 2)), some (rV (w0.length + 3)), some (iV 0), some (rV (w0.length + 4)), some (rV (w0.length + 5)), some (rV (w0.length + 6)), some (rV (w0.length + 7)), some (rV (w0.length + 8)), some (rV (w0.length + 9)), some (rV (w0.length + 10)), some (iV 0), some (iV 0), some (iV 0), some (rV (w0.length + 11)), some (rV (w0.length + 12)), some (iV 0), some (rV (w0.length + 13)), none, none, some (iV 0), some (iV 0), some (iV 0), none, none, none, none, none, none, none, none, none, none, none, none, none, none, none, some (iV 0), none, none, none, none, some (iV 0), some (iV 0), some (iV 0), some (iV 0), some (iV 0), some (iV 0), some (iV 0)]) :: genL (w0.length + 1) [((20, 4), zr), ((20, 64), zr), ((20, 1536), zr), ((20, 60), zr), ((20, 60), zr), ((20, 60), zr), ((20, 60), zr), ((20, 6), zr), ((20, 1440), zr), ((20, 14880), zr), ((20, 216), zr), ((20, 8), zr), ((20, 384), zr)]) 13 18778 _
  refine Cj.aload_n dX12_init_112 rfl rfl ?_
  refine Cj.sipush dX12_init_113 (by decide +kernel) rfl ?_
  refine Cg.newi dX12_init_116 ac_int (m := 14) rfl (by decide) (Nat.le_of_ble_eq_true rfl) (Nat.le_of_ble_eq_true rfl) rfl ?_
  refine Cg.putF dX12_init_118 ff_X12_49 rfl (Nat.le_of_ble_eq_true rfl) rfl ?_
  show Cj mX12_init 34 22666 121 [some (rV w0.length)] [] (w0 ++ Sum.inl (12, [some (iV 0), some (rV (w0.length + 1)), some (rV (w0.length + 2)), some (rV (w0.length + 3)), some (iV 0), some (rV (w0.length + 4)), some (rV (w0.length + 5)), some (rV (w0.length + 6)), some (rV (w0.length + 7)), some (rV (w0.length + 8)), some (rV (w0.length + 9)), some (rV (w0.length + 10)), some (iV 0), some (iV 0), some (iV 0), some (rV (w0.length + 11)), some (rV (w0.length + 12)), some (iV 0), some (rV (w0.length + 13)), some (rV (w0.length + 14)), none, some (iV 0), some (iV 0), some (iV 0), none, none, none, none, none, none, none, none, none, none, none, none, none, none, none, some (iV 0), none, none, none, none, some (iV 0), some (iV 0), some (iV 0), some (iV 0), some (iV 0), some (iV 0), some (iV 0)]) :: genL (w0.length + 1) [((20, 4), zr), ((20, 64), zr), ((20, 1536), zr), ((20, 60), zr), ((20, 60), zr), ((20, 60), zr), ((20, 60), zr), ((20, 6), zr), ((20, 1440), zr), ((20, 14880), zr), ((20, 216), zr), ((20, 8), zr), ((20, 384), zr), ((20, 384), zr)]) 14 19162 _
  refine Cj.aload_n dX12_init_121 rfl rfl ?_
  refine Cj.sipush dX12_init_122 (by decide +kernel) rfl ?_
  refine Cg.newi dX12_init_125 ac_int (m := 15) rfl (by decide) (Nat.le_of_ble_eq_true rfl) (Nat.le_of_ble_eq_true rfl) rfl ?_
  refine Cg.putF dX12_init_127 ff_X12_52 rfl (Nat.le_of_ble_eq_true rfl) rfl ?_
  show Cj mX12_init 34 22666 130 [some (rV w0.length)] [] (w0 ++ Sum.inl (12, [some (iV 0), some (rV (w0.length + 1)), some (rV (w0.length + 2)), some (rV (w0.length + 3)), some (iV 0), some (rV (w0.length + 4)), some (rV (w0.length + 5)), some (rV (w0.length + 6)), some (rV (w0.length + 7)), some (rV (w0.length + 8)), some (rV (w0.length + 9)), some (rV (w0.length + 10)), some (iV 0), some (iV 0), some (iV 0), some (rV (w0.length + 11)), some (rV (w0.length + 12)), some (iV 0), some (rV (w0.length + 13)), some (rV (w0.length + 14)), some (rV (w0.length + 15)), some (iV 0), some (iV 0), some (iV 0), none, none, none, none, none, none, none, none, none, none, none, none, none, none, none, some (iV 0), none, none, none, none, some (iV 0), some (iV 0), some (iV 0), some (iV 0), some (iV 0), some (iV 0), some (iV 0)]) :: genL (w0.length + 1) [((20, 4), zr), ((20, 64), zr), ((20, 1536), zr), ((20, 60), zr), ((20, 60), zr), ((20, 60), zr), ((20, 60), zr), ((20, 6), zr), ((20, 1440), zr), ((20, 14880), zr), ((20, 216), zr), ((20, 8), zr), ((20, 384), zr), ((20, 384), zr), ((20, 384), zr)]) 15 19546 _
  refine Cj.aload_n dX12_init_130 rfl rfl ?_
  refine Cj.sipush dX12_init_131 (by decide +kernel) rfl ?_
  refine Cg.newi dX12_init_134 ac_int (m := 16) rfl (by decide) (Nat.le_of_ble_eq_true rfl) (Nat.le_of_ble_eq_true rfl) rfl ?_
  refine Cg.putF dX12_init_136 ff_X12_55 rfl (Nat.le_of_ble_eq_true rfl) rfl ?_
  show Cj mX12_init 34 22666 139 [some (rV w0.length)] [] (w0 ++ Sum.inl (12, [some (iV 0), some (rV (w0.length + 1)), some (rV (w0.length + 2)), some (rV (w0.length + 3)), some (iV 0), some (rV (w0.length + 4)), some (rV (w0.length + 5)), some (rV (w0.length + 6)), some (rV (w0.length + 7)), some (rV (w0.length + 8)), some (rV (w0.length + 9)), some (rV (w0.length + 10)), some (iV 0), some (iV 0), some (iV 0), some (rV (w0.length + 11)), some (rV (w0.length + 12)), some (iV 0), some (rV (w0.length + 13)), some (rV (w0.length + 14)), some (rV (w0.length + 15)), some (iV 0), some (iV 0), some (iV 0), some (rV (w0.length + 16)), none, none, none, none, none, none, none, none, none, none, none, none, none, none, some (iV 0), none, none, none, none, some (iV 0), some (iV 0), some (iV 0), some (iV 0), some (iV 0), some (iV 0), some (iV 0)]) :: genL (w0.length + 1) [((20, 4), zr), ((20, 64), zr), ((20, 1536), zr), ((20, 60), zr), ((20, 60), zr), ((20, 60), zr), ((20, 60), zr), ((20, 6), zr), ((20, 1440), zr), ((20, 14880), zr), ((20, 216), zr), ((20, 8), zr), ((20, 384), zr), ((20, 384), zr), ((20, 384), zr), ((20, 384), zr)]) 16 19930 _
  refine Cj.aload_n dX12_init_139 rfl rfl ?_
  refine Cj.sipush dX12_init_140 (by decide +kernel) rfl ?_
  refine Cg.newi dX12_init_143 ac_int (m := 17) rfl (by decide) (Nat.le_of_ble_eq_true rfl) (Nat.le_of_ble_eq_true rfl) rfl ?_
  refine Cg.putF dX12_init_145 ff_X12_58 rfl (Nat.le_of_ble_eq_true rfl) rfl ?_
  show Cj mX12_init 34 22666 148 [some (rV w0.length)] [] (w0 ++ Sum.inl (12, [some (iV 0), some (rV (w0.length + 1)), some (rV (w0.length + 2)), some (rV (w0.length + 3)), some (iV 0), some (rV (w0.length + 4)), some (rV (w0.length + 5)), some (rV (w0.length + 6)), some (rV (w0.length + 7)), some (rV (w0.length + 8)), some (rV (w0.length + 9)), some (rV (w0.length + 10)), some (iV 0), some (iV 0), some (iV 0), some (rV (w0.length + 11)), some (rV (w0.length + 12)), some (iV 0), some (rV (w0.length + 13)), some (rV (w0.length + 14)), some (rV (w0.length + 15)), some (iV 0), some (iV 0), some (iV 0), some (rV (w0.length + 16)), some (rV (w0.length + 17)), none, none, none, none, none, none, none, none, none, none, none, none, none, some (iV 0), none, none, none, none, some (iV 0), some (iV 0), some (iV 0), some (iV 0), some (iV 0), some (iV 0), some (iV 0)]) :: genL (w0.length + 1) [((20, 4), zr), ((20, 64), zr), ((20, 1536), zr), ((20, 60), zr), ((20, 60), zr), ((20, 60), zr), ((20, 60), zr), ((20, 6), zr), ((20, 1440), zr), ((20, 14880), zr), ((20, 216), zr), ((20, 8), zr), ((20, 384), zr), ((20, 384), zr), ((20, 384), zr), ((20, 384), zr), ((20, 384), zr)]) 17 20314 _
  refine Cj.aload_n dX12_init_148 rfl rfl ?_
  refine Cj.sipush dX12_init_149 (by decide +kernel) rfl ?_
  refine Cg.newi dX12_init_152 ac_int (m := 18) rfl (by decide) (Nat.le_of_ble_eq_true rfl) (Nat.le_of_ble_eq_true rfl) rfl ?_
  refine Cg.putF dX12_init_154 ff_X12_61 rfl (Nat.le_of_ble_eq_true rfl) rfl ?_
  show Cj mX12_init 34 22666 157 [some (rV w0.length)] [] (w0 ++ Sum.inl (12, [some (iV 0), some (rV (w0.length + 1)), some (rV (w0.length + 2)), some (rV (w0.length + 3)), some (iV 0), some (rV (w0.length + 4)), some (rV (w0.length + 5)), some (rV (w0.length + 6)), some (rV (w0.length + 7)), some (rV (w0.length + 8)), some (rV (w0.length + 9)), some (rV (w0.length + 10)), some (iV 0), some (iV 0), some (iV 0), some (rV (w0.length + 11)), some (rV (w0.length + 12)), some (iV 0), some (rV (w0.length + 13)), some (rV (w0.length + 14)), some (rV (w0.length + 15)), some (iV 0), some (iV 0), some (iV 0), some (rV (w0.length + 16)), some (rV (w0.length + 17)), some (rV (w0.length + 18)), none, none, none, none, none, none, none, none, none, none, none, none, some (iV 0), none, none, none, none, some (iV 0), some (iV 0), some (iV 0), some (iV 0), some (iV 0), some (iV 0), some (iV 0)]) :: genL (w0.length + 1) [((20, 4), zr), ((20, 64), zr), ((20, 1536), zr), ((20, 60), zr), ((20, 60), zr), ((20, 60), zr), ((20, 60), zr), ((20, 6), zr), ((20, 1440), zr), ((20, 14880), zr), ((20, 216), zr), ((20, 8), zr), ((20, 384), zr), ((20, 384), zr), ((20, 384), zr), ((20, 384), zr), ((20, 384), zr), ((20, 384), zr)]) 18 20698 _
  refine Cj.aload_n dX12_init_157 rfl rfl ?_
  refine Cj.sipush dX12_init_158 (by decide +kernel) rfl ?_
  refine Cg.newi dX12_init_161 ac_int (m := 19) rfl (by decide) (Nat.le_of_ble_eq_true rfl) (Nat.le_of_ble_eq_true rfl) rfl ?_
  refine Cg.putF dX12_init_163 ff_X12_64 rfl (Nat.le_of_ble_eq_true rfl) rfl ?_
  show Cj mX12_init 34 22666 166 [some (rV w0.length)] [] (w0 ++ Sum.inl (12, [some (iV 0), some (rV (w0.length + 1)), some (rV (w0.length + 2)), some (rV (w0.length + 3)), some (iV 0), some (rV (w0.length + 4)), some (rV (w0.length + 5)), some (rV (w0.length + 6)), some (rV (w0.length + 7)), some (rV (w0.length + 8)), some (rV (w0.length + 9)), some (rV (w0.length + 10)), some (iV 0), some (iV 0), some (iV 0), some (rV (w0.length + 11)), some (rV (w0.length + 12)), some (iV 0), some (rV (w0.length + 13)), some (rV (w0.length + 14)), some (rV (w0.length + 15)), some (iV 0), some (iV 0), some (iV 0), some (rV (w0.length + 16)), some (rV (w0.length + 17)), some (rV (w0.length + 18)), some (rV (w0.length + 19)), none, none, none, none, none, none, none, none, none, none, none, some (iV 0), none, none, none, none, some (iV 0), some (iV 0), some (iV 0), some (iV 0), some (iV 0), some (iV 0), some (iV 0)]) :: genL (w0.length + 1) [((20, 4), zr), ((20, 64), zr), ((20, 1536), zr), ((20, 60), zr), ((20, 60), zr), ((20, 60), zr), ((20, 60), zr), ((20, 6), zr), ((20, 1440), zr), ((20, 14880), zr), ((20, 216), zr), ((20, 8), zr), ((20, 384), zr), ((20, 384), zr), ((20, 384), zr), ((20, 384), zr), ((20, 384), zr), ((20, 384), zr), ((20, 384), zr)]) 19 21082 _
  refine Cj.aload_n dX12_init_166 rfl rfl ?_
  refine Cj.bipush dX12_init_167 (by decide +kernel) rfl ?_
  refine Cg.newi dX12_init_169 ac_int (m := 20) rfl (by decide) (Nat.le_of_ble_eq_true rfl) (Nat.le_of_ble_eq_true rfl) rfl ?_
  refine Cg.putF dX12_init_171 ff_X12_67 rfl (Nat.le_of_ble_eq_true rfl) rfl ?_
  show Cj mX12_init 34 22666 174 [some (rV w0.length)] [] (w0 ++ Sum.inl (12, [some (iV 0), some (rV (w0.length + 1)), some (rV (w0.length + 2)), some (rV (w0.length + 3)), some (iV 0), some (rV (w0.length + 4)), some (rV (w0.length + 5)), some (rV (w0.length + 6)), some (rV (w0.length + 7)), some (rV (w0.length + 8)), some (rV (w0.length + 9)), some (rV (w0.length + 10)), some (iV 0), some (iV 0), some (iV 0), some (rV (w0.length + 11)), some (rV (w0.length + 12)), some (iV 0), some (rV (w0.length + 13)), some (rV (w0.length + 14)), some (rV (w0.length + 15)), some (iV 0), some (iV 0), some (iV 0), some (rV (w0.length + 16)), some (rV (w0.length + 17)), some (rV (w0.length + 18)), some (rV (w0.length + 19)), some (rV (w0.length + 20)), none, none, none, none, none, none, none, none, none, none, some (iV 0), none, none, none, none, some (iV 0), some (iV 0), some (iV 0), some (iV 0), some (iV 0), some (iV 0), some (iV 0)]) :: genL (w0.length + 1) [((20, 4), zr), ((20, 64), zr), ((20, 1536), zr), ((20, 60), zr), ((20, 60), zr), ((20, 60), zr), ((20, 60), zr), ((20, 6), zr), ((20, 1440), zr), ((20, 14880), zr), ((20, 216), zr), ((20, 8), zr), ((20, 384), zr), ((20, 384), zr), ((20, 384), zr), ((20, 384), zr), ((20, 384), zr), ((20, 384), zr), ((20, 384), zr), ((20, 60), zr)]) 20 21142 _
  refine Cj.aload_n dX12_init_174 rfl rfl ?_
  refine Cj.bipush dX12_init_175 (by decide +kernel) rfl ?_
  refine Cg.newi dX12_init_177 ac_int (m := 21) rfl (by decide) (Nat.le_of_ble_eq_true rfl) (Nat.le_of_ble_eq_true rfl) rfl ?_
  refine Cg.putF dX12_init_179 ff_X12_70 rfl (Nat.le_of_ble_eq_true rfl) rfl ?_
  show Cj mX12_init 34 22666 182 [some (rV w0.length)] [] (w0 ++ Sum.inl (12, [some (iV 0), some (rV (w0.length + 1)), some (rV (w0.length + 2)), some (rV (w0.length + 3)), some (iV 0), some (rV (w0.length + 4)), some (rV (w0.length + 5)), some (rV (w0.length + 6)), some (rV (w0.length + 7)), some (rV (w0.length + 8)), some (rV (w0.length + 9)), some (rV (w0.length + 10)), some (iV 0), some (iV 0), some (iV 0), some (rV (w0.length + 11)), some (rV (w0.length + 12)), some (iV 0), some (rV (w0.length + 13)), some (rV (w0.length + 14)), some (rV (w0.length + 15)), some (iV 0), some (iV 0), some (iV 0), some (rV (w0.length + 16)), some (rV (w0.length + 17)), some (rV (w0.length + 18)), some (rV (w0.length + 19)), some (rV (w0.length + 20)), some (rV (w0.length + 21)), none, none, none, none, none, none, none, none, none, some (iV 0), none, none, none, none, some (iV 0), some (iV 0), some (iV 0), some (iV 0), some (iV 0), some (iV 0), some (iV 0)]) :: genL (w0.length + 1) [((20, 4), zr), ((20, 64), zr), ((20, 1536), zr), ((20, 60), zr), ((20, 60), zr), ((20, 60), zr), ((20, 60), zr), ((20, 6), zr), ((20, 1440), zr), ((20, 14880), zr), ((20, 216), zr), ((20, 8), zr), ((20, 384), zr), ((20, 384), zr), ((20, 384), zr), ((20, 384), zr), ((20, 384), zr), ((20, 384), zr), ((20, 384), zr), ((20, 60), zr), ((20, 60), zr)]) 21 21202 _
  refine Cj.aload_n dX12_init_182 rfl rfl ?_
  refine Cj.bipush dX12_init_183 (by decide +kernel) rfl ?_
  refine Cg.newi dX12_init_185 ac_int (m := 22) rfl (by decide) (Nat.le_of_ble_eq_true rfl) (Nat.le_of_ble_eq_true rfl) rfl ?_
  refine Cg.putF dX12_init_187 ff_X12_73 rfl (Nat.le_of_ble_eq_true rfl) rfl ?_
  show Cj mX12_init 34 22666 190 [some (rV w0.length)] [] (w0 ++ Sum.inl (12, [some (iV 0), some (rV (w0.length + 1)), some (rV (w0.length + 2)), some (rV (w0.length + 3)), some (iV 0), some (rV (w0.length + 4)), some (rV (w0.length + 5)), some (rV (w0.length + 6)), some (rV (w0.length + 7)), some (rV (w0.length + 8)), some (rV (w0.length + 9)), some (rV (w0.length + 10)), some (iV 0), some (iV 0), some (iV 0), some (rV (w0.length + 11)), some (rV (w0.length + 12)), some (iV 0), some (rV (w0.length + 13)), some (rV (w0.length + 14)), some (rV (w0.length + 15)), some (iV 0), some (iV 0), some (iV 0), some (rV (w0.length + 16)), some (rV (w0.length + 17)), some (rV (w0.length + 18)), some (rV (w0.length + 19)), some (rV (w0.length + 20)), some (rV (w0.length + 21)), some (rV (w0.length + 22)), none, none, none, none, none, none, none, none, some (iV 0), none, none, none, none, some (iV 0), some (iV 0), some (iV 0), some (iV 0), some (iV 0), some (iV 0), some (iV 0)]) :: genL (w0.length + 1) [((20, 4), zr), ((20, 64), zr), ((20, 1536), zr), ((20, 60), zr), ((20, 60), zr), ((20, 60), zr), ((20, 60), zr), ((20, 6), zr), ((20, 1440), zr), ((20, 14880), zr), ((20, 216), zr), ((20, 8), zr), ((20, 384), zr), ((20, 384), zr), ((20, 384), zr), ((20, 384), zr), ((20, 384), zr), ((20, 384), zr), ((20, 384), zr), ((20, 60), zr), ((20, 60), zr), ((20, 60), zr)]) 22 21262 _
  refine Cj.aload_n dX12_init_190 rfl rfl ?_
  refine Cj.bipush dX12_init_191 (by decide +kernel) rfl ?_
  refine Cg.newi dX12_init_193 ac_int (m := 23) rfl (by decide) (Nat.le_of_ble_eq_true rfl) (Nat.le_of_ble_eq_true rfl) rfl ?_
  refine Cg.putF dX12_init_195 ff_X12_76 rfl (Nat.le_of_ble_eq_true rfl) rfl ?_
  show Cj mX12_init 34 22666 198 [some (rV w0.length)] [] (w0 ++ Sum.inl (12, [some (iV 0), some (rV (w0.length + 1)), some (rV (w0.length + 2)), some (rV (w0.length + 3)), some (iV 0), some (rV (w0.length + 4)), some (rV (w0.length + 5)), some (rV (w0.length + 6)), some (rV (w0.length + 7)), some (rV (w0.length + 8)), some (rV (w0.length + 9)), some (rV (w0.length + 10)), some (iV 0), some (iV 0), some (iV 0), some (rV (w0.length + 11)), some (rV (w0.length + 12)), some (iV 0), some (rV (w0.length + 13)), some (rV (w0.length + 14)), some (rV (w0.length + 15)), some (iV 0), some (iV 0), some (iV 0), some (rV (w0.length + 16)), some (rV (w0.length + 17)), some (rV (w0.length + 18)), some (rV (w0.length + 19)), some (rV (w0.length + 20)), some (rV (w0.length + 21)), some (rV (w0.length + 22)), some (rV (w0.length + 23)), none, none, none, none, none, none, none, some (iV 0), none, none, none, none, some (iV 0), some (iV 0), some (iV 0), some (iV 0), some (iV 0), some (iV 0), some (iV 0)]) :: genL (w0.length + 1) [((20, 4), zr), ((20, 64), zr), ((20, 1536), zr), ((20, 60), zr), ((20, 60), zr), ((20, 60), zr), ((20, 60), zr), ((20, 6), zr), ((20, 1440), zr), ((20, 14880), zr), ((20, 216), zr), ((20, 8), zr), ((20, 384), zr), ((20, 384), zr), ((20, 384), zr), ((20, 384), zr), ((20, 384), zr), ((20, 384), zr), ((20, 384), zr), ((20, 60), zr), ((20, 60), zr), ((20, 60), zr), ((20, 60), zr)]) 23 21322 _
  refine Cj.aload_n dX12_init_198 rfl rfl ?_
  refine Cj.bipush dX12_init_199 (by decide +kernel) rfl ?_
  refine Cg.newi dX12_init_201 ac_int (m := 24) rfl (by decide) (Nat.le_of_ble_eq_true rfl) (Nat.le_of_ble_eq_true rfl) rfl ?_
  refine Cg.putF dX12_init_203 ff_X12_79 rfl (Nat.le_of_ble_eq_true rfl) rfl ?_
  show Cj mX12_init 34 22666 206 [some (rV w0.length)] [] (w0 ++ Sum.inl (12, [some (iV 0), some (rV (w0.length + 1)), some (rV (w0.length + 2)), some (rV (w0.length + 3)), some (iV 0), some (rV (w0.length + 4)), some (rV (w0.length + 5)), some (rV (w0.length + 6)), some (rV (w0.length + 7)), some (rV (w0.length + 8)), some (rV (w0.length + 9)), some (rV (w0.length + 10)), some (iV 0), some (iV 0), some (iV 0), some (rV (w0.length + 11)), some (rV (w0.length + 12)), some (iV 0), some (rV (w0.length + 13)), some (rV (w0.length + 14)), some (rV (w0.length + 15)), some (iV 0), some (iV 0), some (iV 0), some (rV (w0.length + 16)), some (rV (w0.length + 17)), some (rV (w0.length + 18)), some (rV (w0.length + 19)), some (rV (w0.length + 20)), some (rV (w0.length + 21)), some (rV (w0.length + 22)), some (rV (w0.length + 23)), some (rV (w0.length + 24)), none, none, none, none, none, none, some (iV 0), none, none, none, none, some (iV 0), some (iV 0), some (iV 0), some (iV 0), some (iV 0), some (iV 0), some (iV 0)]) :: genL (w0.length + 1) [((20, 4), zr), ((20, 64), zr), ((20, 1536), zr), ((20, 60), zr), ((20, 60), zr), ((20, 60), zr), ((20, 60), zr), ((20, 6), zr), ((20, 1440), zr), ((20, 14880), zr), ((20, 216), zr), ((20, 8), zr), ((20, 384), zr), ((20, 384), zr), ((20, 384), zr), ((20, 384), zr), ((20, 384), zr), ((20, 384), zr), ((20, 384), zr), ((20, 60), zr), ((20, 60), zr), ((20, 60), zr), ((20, 60), zr), ((20, 60), zr)]) 24 21382 _
  refine Cj.aload_n dX12_init_206 rfl rfl ?_
  refine Cj.bipush dX12_init_207 (by decide +kernel) rfl ?_
  refine Cg.newi dX12_init_209 ac_int (m := 25) rfl (by decide) (Nat.le_of_ble_eq_true rfl) (Nat.le_of_ble_eq_true rfl) rfl ?_
  refine Cg.putF dX12_init_211 ff_X12_82 rfl (Nat.le_of_ble_eq_true rfl) rfl ?_
  show Cj mX12_init 34 22666 214 [some (rV w0.length)] [] (w0 ++ Sum.inl (12, [some (iV 0), some (rV (w0.length + 1)), some (rV (w0.length + 2)), some (rV (w0.length + 3)), some (iV 0), some (rV (w0.length + 4)), some (rV (w0.length + 5)), some (rV (w0.length + 6)), some (rV (w0.length + 7)), some (rV (w0.length + 8)), some (rV (w0.length + 9)), some (rV (w0.length + 10)), some (iV 0), some (iV 0), some (iV 0), some (rV (w0.length + 11)), some (rV (w0.length + 12)), some (iV 0), some (rV (w0.length + 13)), some (rV (w0.length + 14)), some (rV (w0.length + 15)), some (iV 0), some (iV 0), some (iV 0), some (rV (w0.length + 16)), some (rV (w0.length + 17)), some (rV (w0.length + 18)), some (rV (w0.length + 19)), some (rV (w0.length + 20)), some (rV (w0.length + 21)), some (rV (w0.length + 22)), some (rV (w0.length + 23)), some (rV (w0.length + 24)), some (rV (w0.length + 25)), none, none, none, none, none, some (iV 0), none, none, none, none, some (iV 0), some (iV 0), some (iV 0), some (iV 0), some (iV 0), some (iV 0), some (iV 0)]) :: genL (w0.length + 1) [((20, 4), zr), ((20, 64), zr), ((20, 1536), zr), ((20, 60), zr), ((20, 60), zr), ((20, 60), zr), ((20, 60), zr), ((20, 6), zr), ((20, 1440), zr), ((20, 14880), zr), ((20, 216), zr), ((20, 8), zr), ((20, 384), zr), ((20, 384), zr), ((20, 384), zr), ((20, 384), zr), ((20, 384), zr), ((20, 384), zr), ((20, 384), zr), ((20, 60), zr), ((20, 60), zr), ((20, 60), zr), ((20, 60), zr), ((20, 60), zr), ((20, 60), zr)]) 25 21442 _
  refine Cj.aload_n dX12_init_214 rfl rfl ?_
  refine Cj.bipush dX12_init_215 (by decide +kernel) rfl ?_
  refine Cg.newi dX12_init_217 ac_int (m := 26) rfl (by decide) (Nat.le_of_ble_eq_true rfl) (Nat.le_of_ble_eq_true rfl) rfl ?_
  refine Cg.putF dX12_init_219 ff_X12_85 rfl (Nat.le_of_ble_eq_true rfl) rfl ?_
  show Cj mX12_init 34 22666 222 [some (rV w0.length)] [] (w0 ++ Sum.inl (12, [some (iV 0), some (rV (w0.length + 1)), some (rV (w0.length + 2)), some (rV (w0.length + 3)), some (iV 0), some (rV (w0.length + 4)), some (rV (w0.length + 5)), some (rV (w0.length + 6)), some (rV (w0.length + 7)), some (rV (w0.length + 8)), some (rV (w0.length + 9)), some (rV (w0.length + 10)), some (iV 0), some (iV 0), some (iV 0), some (rV (w0.length + 11)), some (rV (w0.length + 12)), some (iV 0), some (rV (w0.length + 13)), some (rV (w0.length + 14)), some (rV (w0.length + 15)), some (iV 0), some (iV 0), some (iV 0), some (rV (w0.length + 16)), some (rV (w0.length + 17)), some (rV (w0.length + 18)), some (rV (w0.length + 19)), some (rV (w0.length + 20)), some (rV (w0.length + 21)), some (rV (w0.length + 22)), some (rV (w0.length + 23)), some (rV (w0.length + 24)), some (rV (w0.length + 25)), some (rV (w0.length + 26)), none, none, none, none, some (iV 0), none, none, none, none, some (iV 0), some (iV 0), some (iV 0), some (iV 0), some (iV 0), some (iV 0), some (iV 0)]) :: genL (w0.length + 1) [((20, 4), zr), ((20, 64), zr), ((20, 1536), zr), ((20, 60), zr), ((20, 60), zr), ((20, 60), zr), ((20, 60), zr), ((20, 6), zr), ((20, 1440), zr), ((20, 14880), zr), ((20, 216), zr), ((20, 8), zr), ((20, 384), zr), ((20, 384), zr), ((20, 384), zr), ((20, 384), zr), ((20, 384), zr), ((20, 384), zr), ((20, 384), zr), ((20, 60), zr), ((20, 60), zr), ((20, 60), zr), ((20, 60), zr), ((20, 60), zr), ((20, 60), zr), ((20, 60), zr)]) 26 21502 _
  refine Cj.aload_n dX12_init_222 rfl rfl ?_
  refine Cj.bipush dX12_init_223 (by decide +kernel) rfl ?_
  refine Cg.newi dX12_init_225 ac_int (m := 27) rfl (by decide) (Nat.le_of_ble_eq_true rfl) (Nat.le_of_ble_eq_true rfl) rfl ?_
  refine Cg.putF dX12_init_227 ff_X12_88 rfl (Nat.le_of_ble_eq_true rfl) rfl ?_
  show Cj mX12_init 34 22666 230 [some (rV w0.length)] [] (w0 ++ Sum.inl (12, [some (iV 0), some (rV (w0.length + 1)), some (rV (w0.length + 2)), some (rV (w0.length + 3)), some (iV 0), some (rV (w0.length + 4)), some (rV (w0.length + 5)), some (rV (w0.length + 6)), some (rV (w0.length + 7)), some (rV (w0.length + 8)), some (rV (w0.length + 9)), some (rV (w0.length + 10)), some (iV 0), some (iV 0), some (iV 0), some (rV (w0.length + 11)), some (rV (w0.length + 12)), some (iV 0), some (rV (w0.length + 13)), some (rV (w0.length + 14)), some (rV (w0.length + 15)), some (iV 0), some (iV 0), some (iV 0), some (rV (w0.length + 16)), some (rV (w0.length + 17)), some (rV (w0.length + 18)), some (rV (w0.length + 19)), some (rV (w0.length + 20)), some (rV (w0.length + 21)), some (rV (w0.length + 22)), some (rV (w0.length + 23)), some (rV (w0.length + 24)), some (rV (w0.length + 25)), some (rV (w0.length + 26)), some (rV (w0.length + 27)), none, none, none, some (iV 0), none, none, none, none, some (iV 0), some (iV 0), some (iV 0), some (iV 0), some (iV 0), some (iV 0), some (iV 0)]) :: genL (w0.length + 1) [((20, 4), zr), ((20, 64), zr), ((20, 1536), zr), ((20, 60), zr), ((20, 60), zr), ((20, 60), zr), ((20, 60), zr), ((20, 6), zr), ((20, 1440), zr), ((20, 14880), zr), ((20, 216), zr), ((20, 8), zr), ((20, 384), zr), ((20, 384), zr), ((20, 384), zr), ((20, 384), zr), ((20, 384), zr), ((20, 384), zr), ((20, 384), zr), ((20, 60), zr), ((20, 60), zr), ((20, 60), zr), ((20, 60), zr), ((20, 60), zr), ((20, 60), zr), ((20, 60), zr), ((20, 60), zr)]) 27 21562 _
  refine Cj.aload_n dX12_init_230 rfl rfl ?_
  refine Cj.bipush dX12_init_231 (by decide +kernel) rfl ?_
  refine Cg.newi dX12_init_233 ac_int (m := 28) rfl (by decide) (Nat.le_of_ble_eq_true rfl) (Nat.le_of_ble_eq_true rfl) rfl ?_
  refine Cg.putF dX12_init_235 ff_X12_91 rfl (Nat.le_of_ble_eq_true rfl) rfl ?_
  show Cj mX12_init 34 22666 238 [some (rV w0.length)] [] (w0 ++ Sum.inl (12, [some (iV 0), some (rV (w0.length + 1)), some (rV (w0.length + 2)), some (rV (w0.length + 3)), some (iV 0), some (rV (w0.length + 4)), some (rV (w0.length + 5)), some (rV (w0.length + 6)), some (rV (w0.length + 7)), some (rV (w0.length + 8)), some (rV (w0.length + 9)), some (rV (w0.length + 10)), some (iV 0), some (iV 0), some (iV 0), some (rV (w0.length + 11)), some (rV (w0.length + 12)), some (iV 0), some (rV (w0.length + 13)), some (rV (w0.length + 14)), some (rV (w0.length + 15)), some (iV 0), some (iV 0), some (iV 0), some (rV (w0.length + 16)), some (rV (w0.length + 17)), some (rV (w0.length + 18)), some (rV (w0.length + 19)), some (rV (w0.length + 20)), some (rV (w0.length + 21)), some (rV (w0.length + 22)), some (rV (w0.length + 23)), some (rV (w0.length + 24)), some (rV (w0.length + 25)), some (rV (w0.length + 26)), some (rV (w0.length + 27)), some (rV (w0.length + 28)), none, none, some (iV 0), none, none, none, none, some (iV 0), some (iV 0), some (iV 0), some (iV 0), some (iV 0), some (iV 0), some (iV 0)]) :: genL (w0.length + 1) [((20, 4), zr), ((20, 64), zr), ((20, 1536), zr), ((20, 60), zr), ((20, 60), zr), ((20, 60), zr), ((20, 60), zr), ((20, 6), zr), ((20, 1440), zr), ((20, 14880), zr), ((20, 216), zr), ((20, 8), zr), ((20, 384), zr), ((20, 384), zr), ((20, 384), zr), ((20, 384), zr), ((20, 384), zr), ((20, 384), zr), ((20, 384), zr), ((20, 60), zr), ((20, 60), zr), ((20, 60), zr), ((20, 60), zr), ((20, 60), zr), ((20, 60), zr), ((20, 60), zr), ((20, 60), zr), ((20, 60), zr)]) 28 21622 _
  refine Cj.aload_n dX12_init_238 rfl rfl ?_
  refine Cj.sipush dX12_init_239 (by decide +kernel) rfl ?_
  refine Cg.newi dX12_init_242 ac_int (m := 29) rfl (by decide) (Nat.le_of_ble_eq_true rfl) (Nat.le_of_ble_eq_true rfl) rfl ?_
  refine Cg.putF dX12_init_244 ff_X12_94 rfl (Nat.le_of_ble_eq_true rfl) rfl ?_
  show Cj mX12_init 34 22666 247 [some (rV w0.length)] [] (w0 ++ Sum.inl (12, [some (iV 0), some (rV (w0.length + 1)), some (rV (w0.length + 2)), some (rV (w0.length + 3)), some (iV 0), some (rV (w0.length + 4)), some (rV (w0.length + 5)), some (rV (w0.length + 6)), some (rV (w0.length + 7)), some (rV (w0.length + 8)), some (rV (w0.length + 9)), some (rV (w0.length + 10)), some (iV 0), some (iV 0), some (iV 0), some (rV (w0.length + 11)), some (rV (w0.length + 12)), some (iV 0), some (rV (w0.length + 13)), some (rV (w0.length + 14)), some (rV (w0.length + 15)), some (iV 0), some (iV 0), some (iV 0), some (rV (w0.length + 16)), some (rV (w0.length + 17)), some (rV (w0.length + 18)), some (rV (w0.length + 19)), some (rV (w0.length + 20)), some (rV (w0.length + 21)), some (rV (w0.length + 22)), some (rV (w0.length + 23)), some (rV (w0.length + 24)), some (rV (w0.length + 25)), some (rV (w0.length + 26)), some (rV (w0.length + 27)), some (rV (w0.length + 28)), some (rV (w0.length + 29)), none, some (iV 0), none, none, none, none, some (iV 0), some (iV 0), some (iV 0), some (iV 0), some (iV 0), some (iV 0), some (iV 0)]) :: genL (w0.length + 1) [((20, 4), zr), ((20, 64), zr), ((20, 1536), zr), ((20, 60), zr), ((20, 60), zr), ((20, 60), zr), ((20, 60), zr), ((20, 6), zr), ((20, 1440), zr), ((20, 14880), zr), ((20, 216), zr), ((20, 8), zr), ((20, 384), zr), ((20, 384), zr), ((20, 384), zr), ((20, 384), zr), ((20, 384), zr), ((20, 384), zr), ((20, 384), zr), ((20, 60), zr), ((20, 60), zr), ((20, 60), zr), ((20, 60), zr), ((20, 60), zr), ((20, 60), zr), ((20, 60), zr), ((20, 60), zr), ((20, 60), zr), ((20, 240), zr)]) 29 21862 _
  refine Cj.aload_n dX12_init_247 rfl rfl ?_
  refine Cj.sipush dX12_init_248 (by decide +kernel) rfl ?_
  refine Cg.newi dX12_init_251 ac_int (m := 30) rfl (by decide) (Nat.le_of_ble_eq_true rfl) (Nat.le_of_ble_eq_true rfl) rfl ?_
  refine Cg.putF dX12_init_253 ff_X12_97 rfl (Nat.le_of_ble_eq_true rfl) rfl ?_
  show Cj mX12_init 34 22666 256 [some (rV w0.length)] [] (w0 ++ Sum.inl (12, [some (iV 0), some (rV (w0.length + 1)), some (rV (w0.length + 2)), some (rV (w0.length + 3)), some (iV 0), some (rV (w0.length + 4)), some (rV (w0.length + 5)), some (rV (w0.length + 6)), some (rV (w0.length + 7)), some (rV (w0.length + 8)), some (rV (w0.length + 9)), some (rV (w0.length + 10)), some (iV 0), some (iV 0), some (iV 0), some (rV (w0.length + 11)), some (rV (w0.length + 12)), some (iV 0), some (rV (w0.length + 13)), some (rV (w0.length + 14)), some (rV (w0.length + 15)), some (iV 0), some (iV 0), some (iV 0), some (rV (w0.length + 16)), some (rV (w0.length + 17)), some (rV (w0.length + 18)), some (rV (w0.length + 19)), some (rV (w0.length + 20)), some (rV (w0.length + 21)), some (rV (w0.length + 22)), some (rV (w0.length + 23)), some (rV (w0.length + 24)), some (rV (w0.length + 25)), some (rV (w0.length + 26)), some (rV (w0.length + 27)), some (rV (w0.length + 28)), some (rV (w0.length + 29)), some (rV (w0.length + 30)), some (iV 0), none, none, none, none, some (iV 0), some (iV 0), some (iV 0), some (iV 0), some (iV 0), some (iV 0), some (iV 0)]) :: genL (w0.length + 1) [((20, 4), zr), ((20, 64), zr), ((20, 1536), zr), ((20, 60), zr), ((20, 60), zr), ((20, 60), zr), ((20, 60), zr), ((20, 6), zr), ((20, 1440), zr), ((20, 14880), zr), ((20, 216), zr), ((20, 8), zr), ((20, 384), zr), ((20, 384), zr), ((20, 384), zr), ((20, 384), zr), ((20, 384), zr), ((20, 384), zr), ((20, 384), zr), ((20, 60), zr), ((20, 60), zr), ((20, 60), zr), ((20, 60), zr), ((20, 60), zr), ((20, 60), zr), ((20, 60), zr), ((20, 60), zr), ((20, 60), zr), ((20, 240), zr), ((20, 240), zr)]) 30 22102 _
  refine Cj.aload_n dX12_init_256 rfl rfl ?_
  refine Cj.bipush dX12_init_257 (by decide +kernel) rfl ?_
  refine Cg.newi dX12_init_259 ac_int (m := 31) rfl (by decide) (Nat.le_of_ble_eq_true rfl) (Nat.le_of_ble_eq_true rfl) rfl ?_
  refine Cg.putF dX12_init_261 ff_X12_100 rfl (Nat.le_of_ble_eq_true rfl) rfl ?_
  show Cj mX12_init 34 22666 264 [some (rV w0.length)] [] (w0 ++ Sum.inl (12, [some (iV 0), some (rV (w0.length + 1)), some (rV (w0.length + 2)), some (rV (w0.length + 3)), some (iV 0), some (rV (w0.length + 4)), some (rV (w0.length + 5)), some (rV (w0.length + 6)), some (rV (w0.length + 7)), some (rV (w0.length + 8)), some (rV (w0.length + 9)), some (rV (w0.length + 10)), some (iV 0), some (iV 0), some (iV 0), some (rV (w0.length + 11)), some (rV (w0.length + 12)), some (iV 0), some (rV (w0.length + 13)), some (rV (w0.length + 14)), some (rV (w0.length + 15)), some (iV 0), some (iV 0), some (iV 0), some (rV (w0.length + 16)), some (rV (w0.length + 17)), some (rV (w0.length + 18)), some (rV (w0.length + 19)), some (rV (w0.length + 20)), some (rV (w0.length + 21)), some (rV (w0.length + 22)), some (rV (w0.length + 23)), some (rV (w0.length + 24)), some (rV (w0.length + 25)), some (rV (w0.length + 26)), some (rV (w0.length + 27)), some (rV (w0.length + 28)), some (rV (w0.length + 29)), some (rV (w0.length + 30)), some (iV 0), some (rV (w0.length + 31)), none, none, none, some (iV 0), some (iV 0), some (iV 0), some (iV 0), some (iV 0), some (iV 0), some (iV 0)]) :: genL (w0.length + 1) [((20, 4), zr), ((20, 64), zr), ((20, 1536), zr), ((20, 60), zr), ((20, 60), zr), ((20, 60), zr), ((20, 60), zr), ((20, 6), zr), ((20, 1440), zr), ((20, 14880), zr), ((20, 216), zr), ((20, 8), zr), ((20, 384), zr), ((20, 384), zr), ((20, 384), zr), ((20, 384), zr), ((20, 384), zr), ((20, 384), zr), ((20, 384), zr), ((20, 60), zr), ((20, 60), zr), ((20, 60), zr), ((20, 60), zr), ((20, 60), zr), ((20, 60), zr), ((20, 60), zr), ((20, 60), zr), ((20, 60), zr), ((20, 240), zr), ((20, 240), zr), ((20, 60), zr)]) 31 22162 _
  refine Cj.aload_n dX12_init_264 rfl rfl ?_
  refine Cj.bipush dX12_init_265 (by decide +kernel) rfl ?_
  refine Cg.newi dX12_init_267 ac_int (m := 32) rfl (by decide) (Nat.le_of_ble_eq_true rfl) (Nat.le_of_ble_eq_true rfl) rfl ?_
  refine Cg.putF dX12_init_269 ff_X12_103 rfl (Nat.le_of_ble_eq_true rfl) rfl ?_
  show Cj mX12_init 34 22666 272 [some (rV w0.length)] [] (w0 ++ Sum.inl (12, [some (iV 0), some (rV (w0.length + 1)), some (rV (w0.length + 2)), some (rV (w0.length + 3)), some (iV 0), some (rV (w0.length + 4)), some (rV (w0.length + 5)), some (rV (w0.length + 6)), some (rV (w0.length + 7)), some (rV (w0.length + 8)), some (rV (w0.length + 9)), some (rV (w0.length + 10)), some (iV 0), some (iV 0), some (iV 0), some (rV (w0.length + 11)), some (rV (w0.length + 12)), some (iV 0), some (rV (w0.length + 13)), some (rV (w0.length + 14)), some (rV (w0.length + 15)), some (iV 0), some (iV 0), some (iV 0), some (rV (w0.length + 16)), some (rV (w0.length + 17)), some (rV (w0.length + 18)), some (rV (w0.length + 19)), some (rV (w0.length + 20)), some (rV (w0.length + 21)), some (rV (w0.length + 22)), some (rV (w0.length + 23)), some (rV (w0.length + 24)), some (rV (w0.length + 25)), some (rV (w0.length + 26)), some (rV (w0.length + 27)), some (rV (w0.length + 28)), some (rV (w0.length + 29)), some (rV (w0.length + 30)), some (iV 0), some (rV (w0.length + 31)), some (rV (w0.length + 32)), none, none, some (iV 0), some (iV 0), some (iV 0), some (iV 0), some (iV 0), some (iV 0), some (iV 0)]) :: genL (w0.length + 1) [((20, 4), zr), ((20, 64), zr), ((20, 1536), zr), ((20, 60), zr), ((20, 60), zr), ((20, 60), zr), ((20, 60), zr), ((20, 6), zr), ((20, 1440), zr), ((20, 14880), zr), ((20, 216), zr), ((20, 8), zr), ((20, 384), zr), ((20, 384), zr), ((20, 384), zr), ((20, 384), zr), ((20, 384), zr), ((20, 384), zr), ((20, 384), zr), ((20, 60), zr), ((20, 60), zr), ((20, 60), zr), ((20, 60), zr), ((20, 60), zr), ((20, 60), zr), ((20, 60), zr), ((20, 60), zr), ((20, 60), zr), ((20, 240), zr), ((20, 240), zr), ((20, 60), zr), ((20, 60), zr)]) 32 22222 _
  refine Cj.aload_n dX12_init_272 rfl rfl ?_
  refine Cj.sipush dX12_init_273 (by decide +kernel) rfl ?_
  refine Cg.newz dX12_init_276 ac_boo (m := 33) rfl (by decide) (Nat.le_of_ble_eq_true rfl) (Nat.le_of_ble_eq_true rfl) rfl ?_
  refine Cg.putF dX12_init_278 ff_X12_106 rfl (Nat.le_of_ble_eq_true rfl) rfl ?_
  show Cj mX12_init 34 22666 281 [some (rV w0.length)] [] (w0 ++ Sum.inl (12, [some (iV 0), some (rV (w0.length + 1)), some (rV (w0.length + 2)), some (rV (w0.length + 3)), some (iV 0), some (rV (w0.length + 4)), some (rV (w0.length + 5)), some (rV (w0.length + 6)), some (rV (w0.length + 7)), some (rV (w0.length + 8)), some (rV (w0.length + 9)), some (rV (w0.length + 10)), some (iV 0), some (iV 0), some (iV 0), some (rV (w0.length + 11)), some (rV (w0.length + 12)), some (iV 0), some (rV (w0.length + 13)), some (rV (w0.length + 14)), some (rV (w0.length + 15)), some (iV 0), some (iV 0), some (iV 0), some (rV (w0.length + 16)), some (rV (w0.length + 17)), some (rV (w0.length + 18)), some (rV (w0.length + 19)), some (rV (w0.length + 20)), some (rV (w0.length + 21)), some (rV (w0.length + 22)), some (rV (w0.length + 23)), some (rV (w0.length + 24)), some (rV (w0.length + 25)), some (rV (w0.length + 26)), some (rV (w0.length + 27)), some (rV (w0.length + 28)), some (rV (w0.length + 29)), some (rV (w0.length + 30)), some (iV 0), some (rV (w0.length + 31)), some (rV (w0.length + 32)), some (rV (w0.length + 33)), none, some (iV 0), some (iV 0), some (iV 0), some (iV 0), some (iV 0), some (iV 0), some (iV 0)]) :: genL (w0.length + 1) [((20, 4), zr), ((20, 64), zr), ((20, 1536), zr), ((20, 60), zr), ((20, 60), zr), ((20, 60), zr), ((20, 60), zr), ((20, 6), zr), ((20, 1440), zr), ((20, 14880), zr), ((20, 216), zr), ((20, 8), zr), ((20, 384), zr), ((20, 384), zr), ((20, 384), zr), ((20, 384), zr), ((20, 384), zr), ((20, 384), zr), ((20, 384), zr), ((20, 60), zr), ((20, 60), zr), ((20, 60), zr), ((20, 60), zr), ((20, 60), zr), ((20, 60), zr), ((20, 60), zr), ((20, 60), zr), ((20, 60), zr), ((20, 240), zr), ((20, 240), zr), ((20, 60), zr), ((20, 60), zr), ((21, 384), zr)]) 33 22606 _
  refine Cj.aload_n dX12_init_281 rfl rfl ?_
  refine Cj.bipush dX12_init_282 (by decide +kernel) rfl ?_
  refine Cg.newi dX12_init_284 ac_int (m := 34) rfl (by decide) (Nat.le_of_ble_eq_true rfl) (Nat.le_of_ble_eq_true rfl) rfl ?_
  refine Cg.putF dX12_init_286 ff_X12_110 rfl (Nat.le_of_ble_eq_true rfl) rfl ?_
  show Cj mX12_init 34 22666 289 [some (rV w0.length)] [] (w0 ++ Sum.inl (12, [some (iV 0), some (rV (w0.length + 1)), some (rV (w0.length + 2)), some (rV (w0.length + 3)), some (iV 0), some (rV (w0.length + 4)), some (rV (w0.length + 5)), some (rV (w0.length + 6)), some (rV (w0.length + 7)), some (rV (w0.length + 8)), some (rV (w0.length + 9)), some (rV (w0.length + 10)), some (iV 0), some (iV 0), some (iV 0), some (rV (w0.length + 11)), some (rV (w0.length + 12)), some (iV 0), some (rV (w0.length + 13)), some (rV (w0.length + 14)), some (rV (w0.length + 15)), some (iV 0), some (iV 0), some (iV 0), some (rV (w0.length + 16)), some (rV (w0.length + 17)), some (rV (w0.length + 18)), some (rV (w0.length + 19)), some (rV (w0.length + 20)), some (rV (w0.length + 21)), some (rV (w0.length + 22)), some (rV (w0.length + 23)), some (rV (w0.length + 24)), some (rV (w0.length + 25)), some (rV (w0.length + 26)), some (rV (w0.length + 27)), some (rV (w0.length + 28)), some (rV (w0.length + 29)), some (rV (w0.length + 30)), some (iV 0), some (rV (w0.length + 31)), some (rV (w0.length + 32)), some (rV (w0.length + 33)), some (rV (w0.length + 34)), some (iV 0), some (iV 0), some (iV 0), some (iV 0), some (iV 0), some (iV 0), some (iV 0)]) :: genL (w0.length + 1) [((20, 4), zr), ((20, 64), zr), ((20, 1536), zr), ((20, 60), zr), ((20, 60), zr), ((20, 60), zr), ((20, 60), zr), ((20, 6), zr), ((20, 1440), zr), ((20, 14880), zr), ((20, 216), zr), ((20, 8), zr), ((20, 384), zr), ((20, 384), zr), ((20, 384), zr), ((20, 384), zr), ((20, 384), zr), ((20, 384), zr), ((20, 384), zr), ((20, 60), zr), ((20, 60), zr), ((20, 60), zr), ((20, 60), zr), ((20, 60), zr), ((20, 60), zr), ((20, 60), zr), ((20, 60), zr), ((20, 60), zr), ((20, 240), zr), ((20, 240), zr), ((20, 60), zr), ((20, 60), zr), ((21, 384), zr), ((20, 60), zr)]) 34 22666 _
  exact Cj.vret dX12_init_289 rfl ⟨rfl, rfl⟩
