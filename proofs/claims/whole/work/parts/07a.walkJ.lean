theorem wJ6_bitCount_0f7a4_0 {m : tM} {P : Option tV → tM → Prop} {x0 : Int}  (h : (R32 (x0 - (bAnd (bUshr x0 1) 1431655765))) ∧ (∀ v1 : Int, v1 = (bAnd (bUshr (x0 - (bAnd (bUshr x0 1) 1431655765)) 2) 858993459) → ((R32 ((bAnd (x0 - (bAnd (bUshr x0 1) 1431655765)) 858993459) + v1)) ∧ (∀ v2 : Int, v2 = ((bAnd (x0 - (bAnd (bUshr x0 1) 1431655765)) 858993459) + v1) → ((R32 (v2 + (bUshr v2 4)) ∧ R32 ((bAnd (v2 + (bUshr v2 4)) 252645135) + (bUshr (bAnd (v2 + (bUshr v2 4)) 252645135) 8))) ∧ (∀ v3 : Int, v3 = ((bAnd (v2 + (bUshr v2 4)) 252645135) + (bUshr (bAnd (v2 + (bUshr v2 4)) 252645135) 8)) → ((R32 (v3 + (bUshr v3 16))) ∧ (P (some (iV (bAnd (v3 + (bUshr v3 16)) 63))) m)))))))) : Tj mJ6_bitCount_0f7a4 0 [some (iV x0)] [] m P := by
  obtain ⟨o1, h⟩ := h
  refine Tj.iload_n dJ6_bitCount_0f7a4_0 rfl rfl ?_
  refine Tj.iload_n dJ6_bitCount_0f7a4_1 rfl rfl ?_
  refine Tj.iconst dJ6_bitCount_0f7a4_2 (by decide) rfl ?_
  refine Tj.iushr dJ6_bitCount_0f7a4_3 rfl ?_
  refine Tj.ldc_w dJ6_bitCount_0f7a4_4 cn_J6_265 (by decide) rfl ?_
  refine Tj.iand dJ6_bitCount_0f7a4_7 rfl ?_
  refine Tj.isub dJ6_bitCount_0f7a4_8 o1 rfl ?_
  refine Tj.istore_n dJ6_bitCount_0f7a4_9 (Nat.le_of_ble_eq_true rfl) rfl rfl ?_
  refine Tj.iload_n dJ6_bitCount_0f7a4_10 rfl rfl ?_
  refine Tj.ldc_w dJ6_bitCount_0f7a4_11 cn_J6_266 (by decide) rfl ?_
  refine Tj.iand dJ6_bitCount_0f7a4_14 rfl ?_
  refine Tj.iload_n dJ6_bitCount_0f7a4_15 rfl rfl ?_
  refine Tj.iconst dJ6_bitCount_0f7a4_16 (by decide) rfl ?_
  refine Tj.iushr dJ6_bitCount_0f7a4_17 rfl ?_
  refine Tj.ldc_w dJ6_bitCount_0f7a4_18 cn_J6_266 (by decide) rfl ?_
  refine Tj.iand dJ6_bitCount_0f7a4_21 rfl ?_
  show Tj mJ6_bitCount_0f7a4 22 [some (iV (x0 - (bAnd (bUshr x0 1) 1431655765)))] [iV (bAnd (bUshr (x0 - (bAnd (bUshr x0 1) 1431655765)) 2) 858993459), iV (bAnd (x0 - (bAnd (bUshr x0 1) 1431655765)) 858993459)] m P
  generalize hv1 : ((bAnd (bUshr (x0 - (bAnd (bUshr x0 1) 1431655765)) 2) 858993459) : Int) = v1
  have h := h v1 hv1.symm
  obtain ⟨o2, h⟩ := h
  refine Tj.iadd dJ6_bitCount_0f7a4_22 o2 rfl ?_
  show Tj mJ6_bitCount_0f7a4 23 [some (iV (x0 - (bAnd (bUshr x0 1) 1431655765)))] [iV ((bAnd (x0 - (bAnd (bUshr x0 1) 1431655765)) 858993459) + v1)] m P
  generalize hv2 : (((bAnd (x0 - (bAnd (bUshr x0 1) 1431655765)) 858993459) + v1) : Int) = v2
  have h := h v2 hv2.symm
  obtain ⟨⟨o3, o4⟩, h⟩ := h
  refine Tj.istore_n dJ6_bitCount_0f7a4_23 (Nat.le_of_ble_eq_true rfl) rfl rfl ?_
  refine Tj.iload_n dJ6_bitCount_0f7a4_24 rfl rfl ?_
  refine Tj.iload_n dJ6_bitCount_0f7a4_25 rfl rfl ?_
  refine Tj.iconst dJ6_bitCount_0f7a4_26 (by decide) rfl ?_
  refine Tj.iushr dJ6_bitCount_0f7a4_27 rfl ?_
  refine Tj.iadd dJ6_bitCount_0f7a4_28 o3 rfl ?_
  refine Tj.ldc_w dJ6_bitCount_0f7a4_29 cn_J6_267 (by decide) rfl ?_
  refine Tj.iand dJ6_bitCount_0f7a4_32 rfl ?_
  refine Tj.istore_n dJ6_bitCount_0f7a4_33 (Nat.le_of_ble_eq_true rfl) rfl rfl ?_
  refine Tj.iload_n dJ6_bitCount_0f7a4_34 rfl rfl ?_
  refine Tj.iload_n dJ6_bitCount_0f7a4_35 rfl rfl ?_
  refine Tj.bipush dJ6_bitCount_0f7a4_36 (by decide) (by decide +kernel) rfl ?_
  refine Tj.iushr dJ6_bitCount_0f7a4_38 rfl ?_
  refine Tj.iadd dJ6_bitCount_0f7a4_39 o4 rfl ?_
  show Tj mJ6_bitCount_0f7a4 40 [some (iV (bAnd (v2 + (bUshr v2 4)) 252645135))] [iV ((bAnd (v2 + (bUshr v2 4)) 252645135) + (bUshr (bAnd (v2 + (bUshr v2 4)) 252645135) 8))] m P
  generalize hv3 : (((bAnd (v2 + (bUshr v2 4)) 252645135) + (bUshr (bAnd (v2 + (bUshr v2 4)) 252645135) 8)) : Int) = v3
  have h := h v3 hv3.symm
  obtain ⟨o5, h⟩ := h
  refine Tj.istore_n dJ6_bitCount_0f7a4_40 (Nat.le_of_ble_eq_true rfl) rfl rfl ?_
  refine Tj.iload_n dJ6_bitCount_0f7a4_41 rfl rfl ?_
  refine Tj.iload_n dJ6_bitCount_0f7a4_42 rfl rfl ?_
  refine Tj.bipush dJ6_bitCount_0f7a4_43 (by decide) (by decide +kernel) rfl ?_
  refine Tj.iushr dJ6_bitCount_0f7a4_45 rfl ?_
  refine Tj.iadd dJ6_bitCount_0f7a4_46 o5 rfl ?_
  refine Tj.istore_n dJ6_bitCount_0f7a4_47 (Nat.le_of_ble_eq_true rfl) rfl rfl ?_
  refine Tj.iload_n dJ6_bitCount_0f7a4_48 rfl rfl ?_
  refine Tj.bipush dJ6_bitCount_0f7a4_49 (by decide) (by decide +kernel) rfl ?_
  refine Tj.iand dJ6_bitCount_0f7a4_51 rfl ?_
  exact Tj.iret dJ6_bitCount_0f7a4_52 rfl h

theorem wJ13_bitCount_95d88_0 {m : tM} {P : Option tV → tM → Prop} {x0 : Int64}  (h : ∀ v1 : Int, v1 = (Int32.toInt (Int64.toInt32 ((((((((x0 - ((bLushr x0 1) &&& 6148914691236517205)) &&& 3689348814741910323) + ((bLushr (x0 - ((bLushr x0 1) &&& 6148914691236517205)) 2) &&& 3689348814741910323)) + (bLushr (((x0 - ((bLushr x0 1) &&& 6148914691236517205)) &&& 3689348814741910323) + ((bLushr (x0 - ((bLushr x0 1) &&& 6148914691236517205)) 2) &&& 3689348814741910323)) 4)) &&& 1085102592571150095) + (bLushr (((((x0 - ((bLushr x0 1) &&& 6148914691236517205)) &&& 3689348814741910323) + ((bLushr (x0 - ((bLushr x0 1) &&& 6148914691236517205)) 2) &&& 3689348814741910323)) + (bLushr (((x0 - ((bLushr x0 1) &&& 6148914691236517205)) &&& 3689348814741910323) + ((bLushr (x0 - ((bLushr x0 1) &&& 6148914691236517205)) 2) &&& 3689348814741910323)) 4)) &&& 1085102592571150095) 8)) + (bLushr ((((((x0 - ((bLushr x0 1) &&& 6148914691236517205)) &&& 3689348814741910323) + ((bLushr (x0 - ((bLushr x0 1) &&& 6148914691236517205)) 2) &&& 3689348814741910323)) + (bLushr (((x0 - ((bLushr x0 1) &&& 6148914691236517205)) &&& 3689348814741910323) + ((bLushr (x0 - ((bLushr x0 1) &&& 6148914691236517205)) 2) &&& 3689348814741910323)) 4)) &&& 1085102592571150095) + (bLushr (((((x0 - ((bLushr x0 1) &&& 6148914691236517205)) &&& 3689348814741910323) + ((bLushr (x0 - ((bLushr x0 1) &&& 6148914691236517205)) 2) &&& 3689348814741910323)) + (bLushr (((x0 - ((bLushr x0 1) &&& 6148914691236517205)) &&& 3689348814741910323) + ((bLushr (x0 - ((bLushr x0 1) &&& 6148914691236517205)) 2) &&& 3689348814741910323)) 4)) &&& 1085102592571150095) 8)) 16)) + (bLushr (((((((x0 - ((bLushr x0 1) &&& 6148914691236517205)) &&& 3689348814741910323) + ((bLushr (x0 - ((bLushr x0 1) &&& 6148914691236517205)) 2) &&& 3689348814741910323)) + (bLushr (((x0 - ((bLushr x0 1) &&& 6148914691236517205)) &&& 3689348814741910323) + ((bLushr (x0 - ((bLushr x0 1) &&& 6148914691236517205)) 2) &&& 3689348814741910323)) 4)) &&& 1085102592571150095) + (bLushr (((((x0 - ((bLushr x0 1) &&& 6148914691236517205)) &&& 3689348814741910323) + ((bLushr (x0 - ((bLushr x0 1) &&& 6148914691236517205)) 2) &&& 3689348814741910323)) + (bLushr (((x0 - ((bLushr x0 1) &&& 6148914691236517205)) &&& 3689348814741910323) + ((bLushr (x0 - ((bLushr x0 1) &&& 6148914691236517205)) 2) &&& 3689348814741910323)) 4)) &&& 1085102592571150095) 8)) + (bLushr ((((((x0 - ((bLushr x0 1) &&& 6148914691236517205)) &&& 3689348814741910323) + ((bLushr (x0 - ((bLushr x0 1) &&& 6148914691236517205)) 2) &&& 3689348814741910323)) + (bLushr (((x0 - ((bLushr x0 1) &&& 6148914691236517205)) &&& 3689348814741910323) + ((bLushr (x0 - ((bLushr x0 1) &&& 6148914691236517205)) 2) &&& 3689348814741910323)) 4)) &&& 1085102592571150095) + (bLushr (((((x0 - ((bLushr x0 1) &&& 6148914691236517205)) &&& 3689348814741910323) + ((bLushr (x0 - ((bLushr x0 1) &&& 6148914691236517205)) 2) &&& 3689348814741910323)) + (bLushr (((x0 - ((bLushr x0 1) &&& 6148914691236517205)) &&& 3689348814741910323) + ((bLushr (x0 - ((bLushr x0 1) &&& 6148914691236517205)) 2) &&& 3689348814741910323)) 4)) &&& 1085102592571150095) 8)) 16)) 32)))) → (P (some (iV (bAnd v1 127))) m)) : Tj mJ13_bitCount_95d88 0 [some (lV x0)] [] m P := by
  refine Tj.lload_n dJ13_bitCount_95d88_0 rfl rfl ?_
  refine Tj.lload_n dJ13_bitCount_95d88_1 rfl rfl ?_
  refine Tj.iconst dJ13_bitCount_95d88_2 (by decide) rfl ?_
  refine Tj.lushr dJ13_bitCount_95d88_3 rfl ?_
  refine Tj.ldc2_w dJ13_bitCount_95d88_4 cn_J13_314 rfl ?_
  refine Tj.land dJ13_bitCount_95d88_7 rfl ?_
  refine Tj.lsub dJ13_bitCount_95d88_8 rfl ?_
  refine Tj.lstore_n dJ13_bitCount_95d88_9 (Nat.le_of_ble_eq_true rfl) rfl rfl ?_
  refine Tj.lload_n dJ13_bitCount_95d88_10 rfl rfl ?_
  refine Tj.ldc2_w dJ13_bitCount_95d88_11 cn_J13_316 rfl ?_
  refine Tj.land dJ13_bitCount_95d88_14 rfl ?_
  refine Tj.lload_n dJ13_bitCount_95d88_15 rfl rfl ?_
  refine Tj.iconst dJ13_bitCount_95d88_16 (by decide) rfl ?_
  refine Tj.lushr dJ13_bitCount_95d88_17 rfl ?_
  refine Tj.ldc2_w dJ13_bitCount_95d88_18 cn_J13_316 rfl ?_
  refine Tj.land dJ13_bitCount_95d88_21 rfl ?_
  refine Tj.ladd dJ13_bitCount_95d88_22 rfl ?_
  refine Tj.lstore_n dJ13_bitCount_95d88_23 (Nat.le_of_ble_eq_true rfl) rfl rfl ?_
  refine Tj.lload_n dJ13_bitCount_95d88_24 rfl rfl ?_
  refine Tj.lload_n dJ13_bitCount_95d88_25 rfl rfl ?_
  refine Tj.iconst dJ13_bitCount_95d88_26 (by decide) rfl ?_
  refine Tj.lushr dJ13_bitCount_95d88_27 rfl ?_
  refine Tj.ladd dJ13_bitCount_95d88_28 rfl ?_
  refine Tj.ldc2_w dJ13_bitCount_95d88_29 cn_J13_318 rfl ?_
  refine Tj.land dJ13_bitCount_95d88_32 rfl ?_
  refine Tj.lstore_n dJ13_bitCount_95d88_33 (Nat.le_of_ble_eq_true rfl) rfl rfl ?_
  refine Tj.lload_n dJ13_bitCount_95d88_34 rfl rfl ?_
  refine Tj.lload_n dJ13_bitCount_95d88_35 rfl rfl ?_
  refine Tj.bipush dJ13_bitCount_95d88_36 (by decide) (by decide +kernel) rfl ?_
  refine Tj.lushr dJ13_bitCount_95d88_38 rfl ?_
  refine Tj.ladd dJ13_bitCount_95d88_39 rfl ?_
  refine Tj.lstore_n dJ13_bitCount_95d88_40 (Nat.le_of_ble_eq_true rfl) rfl rfl ?_
  refine Tj.lload_n dJ13_bitCount_95d88_41 rfl rfl ?_
  refine Tj.lload_n dJ13_bitCount_95d88_42 rfl rfl ?_
  refine Tj.bipush dJ13_bitCount_95d88_43 (by decide) (by decide +kernel) rfl ?_
  refine Tj.lushr dJ13_bitCount_95d88_45 rfl ?_
  refine Tj.ladd dJ13_bitCount_95d88_46 rfl ?_
  refine Tj.lstore_n dJ13_bitCount_95d88_47 (Nat.le_of_ble_eq_true rfl) rfl rfl ?_
  refine Tj.lload_n dJ13_bitCount_95d88_48 rfl rfl ?_
  refine Tj.lload_n dJ13_bitCount_95d88_49 rfl rfl ?_
  refine Tj.bipush dJ13_bitCount_95d88_50 (by decide) (by decide +kernel) rfl ?_
  refine Tj.lushr dJ13_bitCount_95d88_52 rfl ?_
  refine Tj.ladd dJ13_bitCount_95d88_53 rfl ?_
  refine Tj.lstore_n dJ13_bitCount_95d88_54 (Nat.le_of_ble_eq_true rfl) rfl rfl ?_
  refine Tj.lload_n dJ13_bitCount_95d88_55 rfl rfl ?_
  refine Tj.l2i dJ13_bitCount_95d88_56 rfl ?_
  show Tj mJ13_bitCount_95d88 57 [some (lV ((((((((x0 - ((bLushr x0 1) &&& 6148914691236517205)) &&& 3689348814741910323) + ((bLushr (x0 - ((bLushr x0 1) &&& 6148914691236517205)) 2) &&& 3689348814741910323)) + (bLushr (((x0 - ((bLushr x0 1) &&& 6148914691236517205)) &&& 3689348814741910323) + ((bLushr (x0 - ((bLushr x0 1) &&& 6148914691236517205)) 2) &&& 3689348814741910323)) 4)) &&& 1085102592571150095) + (bLushr (((((x0 - ((bLushr x0 1) &&& 6148914691236517205)) &&& 3689348814741910323) + ((bLushr (x0 - ((bLushr x0 1) &&& 6148914691236517205)) 2) &&& 3689348814741910323)) + (bLushr (((x0 - ((bLushr x0 1) &&& 6148914691236517205)) &&& 3689348814741910323) + ((bLushr (x0 - ((bLushr x0 1) &&& 6148914691236517205)) 2) &&& 3689348814741910323)) 4)) &&& 1085102592571150095) 8)) + (bLushr ((((((x0 - ((bLushr x0 1) &&& 6148914691236517205)) &&& 3689348814741910323) + ((bLushr (x0 - ((bLushr x0 1) &&& 6148914691236517205)) 2) &&& 3689348814741910323)) + (bLushr (((x0 - ((bLushr x0 1) &&& 6148914691236517205)) &&& 3689348814741910323) + ((bLushr (x0 - ((bLushr x0 1) &&& 6148914691236517205)) 2) &&& 3689348814741910323)) 4)) &&& 1085102592571150095) + (bLushr (((((x0 - ((bLushr x0 1) &&& 6148914691236517205)) &&& 3689348814741910323) + ((bLushr (x0 - ((bLushr x0 1) &&& 6148914691236517205)) 2) &&& 3689348814741910323)) + (bLushr (((x0 - ((bLushr x0 1) &&& 6148914691236517205)) &&& 3689348814741910323) + ((bLushr (x0 - ((bLushr x0 1) &&& 6148914691236517205)) 2) &&& 3689348814741910323)) 4)) &&& 1085102592571150095) 8)) 16)) + (bLushr (((((((x0 - ((bLushr x0 1) &&& 6148914691236517205)) &&& 3689348814741910323) + ((bLushr (x0 - ((bLushr x0 1) &&& 6148914691236517205)) 2) &&& 3689348814741910323)) + (bLushr (((x0 - ((bLushr x0 1) &&& 6148914691236517205)) &&& 3689348814741910323) + ((bLushr (x0 - ((bLushr x0 1) &&& 6148914691236517205)) 2) &&& 3689348814741910323)) 4)) &&& 1085102592571150095) + (bLushr (((((x0 - ((bLushr x0 1) &&& 6148914691236517205)) &&& 3689348814741910323) + ((bLushr (x0 - ((bLushr x0 1) &&& 6148914691236517205)) 2) &&& 3689348814741910323)) + (bLushr (((x0 - ((bLushr x0 1) &&& 6148914691236517205)) &&& 3689348814741910323) + ((bLushr (x0 - ((bLushr x0 1) &&& 6148914691236517205)) 2) &&& 3689348814741910323)) 4)) &&& 1085102592571150095) 8)) + (bLushr ((((((x0 - ((bLushr x0 1) &&& 6148914691236517205)) &&& 3689348814741910323) + ((bLushr (x0 - ((bLushr x0 1) &&& 6148914691236517205)) 2) &&& 3689348814741910323)) + (bLushr (((x0 - ((bLushr x0 1) &&& 6148914691236517205)) &&& 3689348814741910323) + ((bLushr (x0 - ((bLushr x0 1) &&& 6148914691236517205)) 2) &&& 3689348814741910323)) 4)) &&& 1085102592571150095) + (bLushr (((((x0 - ((bLushr x0 1) &&& 6148914691236517205)) &&& 3689348814741910323) + ((bLushr (x0 - ((bLushr x0 1) &&& 6148914691236517205)) 2) &&& 3689348814741910323)) + (bLushr (((x0 - ((bLushr x0 1) &&& 6148914691236517205)) &&& 3689348814741910323) + ((bLushr (x0 - ((bLushr x0 1) &&& 6148914691236517205)) 2) &&& 3689348814741910323)) 4)) &&& 1085102592571150095) 8)) 16)) 32)))] [iV (Int32.toInt (Int64.toInt32 ((((((((x0 - ((bLushr x0 1) &&& 6148914691236517205)) &&& 3689348814741910323) + ((bLushr (x0 - ((bLushr x0 1) &&& 6148914691236517205)) 2) &&& 3689348814741910323)) + (bLushr (((x0 - ((bLushr x0 1) &&& 6148914691236517205)) &&& 3689348814741910323) + ((bLushr (x0 - ((bLushr x0 1) &&& 6148914691236517205)) 2) &&& 3689348814741910323)) 4)) &&& 1085102592571150095) + (bLushr (((((x0 - ((bLushr x0 1) &&& 6148914691236517205)) &&& 3689348814741910323) + ((bLushr (x0 - ((bLushr x0 1) &&& 6148914691236517205)) 2) &&& 3689348814741910323)) + (bLushr (((x0 - ((bLushr x0 1) &&& 6148914691236517205)) &&& 3689348814741910323) + ((bLushr (x0 - ((bLushr x0 1) &&& 6148914691236517205)) 2) &&& 3689348814741910323)) 4)) &&& 1085102592571150095) 8)) + (bLushr ((((((x0 - ((bLushr x0 1) &&& 6148914691236517205)) &&& 3689348814741910323) + ((bLushr (x0 - ((bLushr x0 1) &&& 6148914691236517205)) 2) &&& 3689348814741910323)) + (bLushr (((x0 - ((bLushr x0 1) &&& 6148914691236517205)) &&& 3689348814741910323) + ((bLushr (x0 - ((bLushr x0 1) &&& 6148914691236517205)) 2) &&& 3689348814741910323)) 4)) &&& 1085102592571150095) + (bLushr (((((x0 - ((bLushr x0 1) &&& 6148914691236517205)) &&& 3689348814741910323) + ((bLushr (x0 - ((bLushr x0 1) &&& 6148914691236517205)) 2) &&& 3689348814741910323)) + (bLushr (((x0 - ((bLushr x0 1) &&& 6148914691236517205)) &&& 3689348814741910323) + ((bLushr (x0 - ((bLushr x0 1) &&& 6148914691236517205)) 2) &&& 3689348814741910323)) 4)) &&& 1085102592571150095) 8)) 16)) + (bLushr (((((((x0 - ((bLushr x0 1) &&& 6148914691236517205)) &&& 3689348814741910323) + ((bLushr (x0 - ((bLushr x0 1) &&& 6148914691236517205)) 2) &&& 3689348814741910323)) + (bLushr (((x0 - ((bLushr x0 1) &&& 6148914691236517205)) &&& 3689348814741910323) + ((bLushr (x0 - ((bLushr x0 1) &&& 6148914691236517205)) 2) &&& 3689348814741910323)) 4)) &&& 1085102592571150095) + (bLushr (((((x0 - ((bLushr x0 1) &&& 6148914691236517205)) &&& 3689348814741910323) + ((bLushr (x0 - ((bLushr x0 1) &&& 6148914691236517205)) 2) &&& 3689348814741910323)) + (bLushr (((x0 - ((bLushr x0 1) &&& 6148914691236517205)) &&& 3689348814741910323) + ((bLushr (x0 - ((bLushr x0 1) &&& 6148914691236517205)) 2) &&& 3689348814741910323)) 4)) &&& 1085102592571150095) 8)) + (bLushr ((((((x0 - ((bLushr x0 1) &&& 6148914691236517205)) &&& 3689348814741910323) + ((bLushr (x0 - ((bLushr x0 1) &&& 6148914691236517205)) 2) &&& 3689348814741910323)) + (bLushr (((x0 - ((bLushr x0 1) &&& 6148914691236517205)) &&& 3689348814741910323) + ((bLushr (x0 - ((bLushr x0 1) &&& 6148914691236517205)) 2) &&& 3689348814741910323)) 4)) &&& 1085102592571150095) + (bLushr (((((x0 - ((bLushr x0 1) &&& 6148914691236517205)) &&& 3689348814741910323) + ((bLushr (x0 - ((bLushr x0 1) &&& 6148914691236517205)) 2) &&& 3689348814741910323)) + (bLushr (((x0 - ((bLushr x0 1) &&& 6148914691236517205)) &&& 3689348814741910323) + ((bLushr (x0 - ((bLushr x0 1) &&& 6148914691236517205)) 2) &&& 3689348814741910323)) 4)) &&& 1085102592571150095) 8)) 16)) 32))))] m P
  generalize hv1 : ((Int32.toInt (Int64.toInt32 ((((((((x0 - ((bLushr x0 1) &&& 6148914691236517205)) &&& 3689348814741910323) + ((bLushr (x0 - ((bLushr x0 1) &&& 6148914691236517205)) 2) &&& 3689348814741910323)) + (bLushr (((x0 - ((bLushr x0 1) &&& 6148914691236517205)) &&& 3689348814741910323) + ((bLushr (x0 - ((bLushr x0 1) &&& 6148914691236517205)) 2) &&& 3689348814741910323)) 4)) &&& 1085102592571150095) + (bLushr (((((x0 - ((bLushr x0 1) &&& 6148914691236517205)) &&& 3689348814741910323) + ((bLushr (x0 - ((bLushr x0 1) &&& 6148914691236517205)) 2) &&& 3689348814741910323)) + (bLushr (((x0 - ((bLushr x0 1) &&& 6148914691236517205)) &&& 3689348814741910323) + ((bLushr (x0 - ((bLushr x0 1) &&& 6148914691236517205)) 2) &&& 3689348814741910323)) 4)) &&& 1085102592571150095) 8)) + (bLushr ((((((x0 - ((bLushr x0 1) &&& 6148914691236517205)) &&& 3689348814741910323) + ((bLushr (x0 - ((bLushr x0 1) &&& 6148914691236517205)) 2) &&& 3689348814741910323)) + (bLushr (((x0 - ((bLushr x0 1) &&& 6148914691236517205)) &&& 3689348814741910323) + ((bLushr (x0 - ((bLushr x0 1) &&& 6148914691236517205)) 2) &&& 3689348814741910323)) 4)) &&& 1085102592571150095) + (bLushr (((((x0 - ((bLushr x0 1) &&& 6148914691236517205)) &&& 3689348814741910323) + ((bLushr (x0 - ((bLushr x0 1) &&& 6148914691236517205)) 2) &&& 3689348814741910323)) + (bLushr (((x0 - ((bLushr x0 1) &&& 6148914691236517205)) &&& 3689348814741910323) + ((bLushr (x0 - ((bLushr x0 1) &&& 6148914691236517205)) 2) &&& 3689348814741910323)) 4)) &&& 1085102592571150095) 8)) 16)) + (bLushr (((((((x0 - ((bLushr x0 1) &&& 6148914691236517205)) &&& 3689348814741910323) + ((bLushr (x0 - ((bLushr x0 1) &&& 6148914691236517205)) 2) &&& 3689348814741910323)) + (bLushr (((x0 - ((bLushr x0 1) &&& 6148914691236517205)) &&& 3689348814741910323) + ((bLushr (x0 - ((bLushr x0 1) &&& 6148914691236517205)) 2) &&& 3689348814741910323)) 4)) &&& 1085102592571150095) + (bLushr (((((x0 - ((bLushr x0 1) &&& 6148914691236517205)) &&& 3689348814741910323) + ((bLushr (x0 - ((bLushr x0 1) &&& 6148914691236517205)) 2) &&& 3689348814741910323)) + (bLushr (((x0 - ((bLushr x0 1) &&& 6148914691236517205)) &&& 3689348814741910323) + ((bLushr (x0 - ((bLushr x0 1) &&& 6148914691236517205)) 2) &&& 3689348814741910323)) 4)) &&& 1085102592571150095) 8)) + (bLushr ((((((x0 - ((bLushr x0 1) &&& 6148914691236517205)) &&& 3689348814741910323) + ((bLushr (x0 - ((bLushr x0 1) &&& 6148914691236517205)) 2) &&& 3689348814741910323)) + (bLushr (((x0 - ((bLushr x0 1) &&& 6148914691236517205)) &&& 3689348814741910323) + ((bLushr (x0 - ((bLushr x0 1) &&& 6148914691236517205)) 2) &&& 3689348814741910323)) 4)) &&& 1085102592571150095) + (bLushr (((((x0 - ((bLushr x0 1) &&& 6148914691236517205)) &&& 3689348814741910323) + ((bLushr (x0 - ((bLushr x0 1) &&& 6148914691236517205)) 2) &&& 3689348814741910323)) + (bLushr (((x0 - ((bLushr x0 1) &&& 6148914691236517205)) &&& 3689348814741910323) + ((bLushr (x0 - ((bLushr x0 1) &&& 6148914691236517205)) 2) &&& 3689348814741910323)) 4)) &&& 1085102592571150095) 8)) 16)) 32)))) : Int) = v1
  have h := h v1 hv1.symm
  refine Tj.bipush dJ13_bitCount_95d88_57 (by decide) (by decide +kernel) rfl ?_
  refine Tj.iand dJ13_bitCount_95d88_59 rfl ?_
  exact Tj.iret dJ13_bitCount_95d88_60 rfl h

theorem wJ7_fill_53178_0 {m : tM} {P : Option tV → tM → Prop} {p : Nat} {np : Nat} {x1 : Int} (s_p0 : shp p = some (20, np)) (h : (np ≤ 2147483647) ∧ (Tj mJ7_fill_53178 5 [some (rV p), some (iV x1), some (iV 0), some (iV (np : Int))] [] m P)) : Tj mJ7_fill_53178 0 [some (rV p), some (iV x1)] [] m P := by
  obtain ⟨o1, h⟩ := h
  refine Tj.iconst dJ7_fill_53178_0 (by decide) rfl ?_
  refine Tj.istore_n dJ7_fill_53178_1 (Nat.le_of_ble_eq_true rfl) rfl rfl ?_
  refine Tj.aload_n dJ7_fill_53178_2 rfl rfl ?_
  refine Tj.alen dJ7_fill_53178_3 s_p0 o1 rfl ?_
  refine Tj.istore_n dJ7_fill_53178_4 (Nat.le_of_ble_eq_true rfl) rfl rfl ?_
  exact Tj.cut h ⟨rfl, ⟨rfl, ⟨rfl, ⟨rfl, trivial⟩⟩⟩⟩

theorem wJ7_fill_53178_5 {m : tM} {P : Option tV → tM → Prop} {p : Nat} {np : Nat} {x1 : Int} {x2 : Int} {x3 : Int} (s_p0 : shp p = some (20, np)) (h : (x2 < x3 → ((0 ≤ x2 ∧ x2 < np ∧ R32 (x2 + 1)) ∧ (Tj mJ7_fill_53178 5 [some (rV p), some (iV x1), some (iV (x2 + 1)), some (iV x3)] [] (up m p x2 x1) P))) ∧ (¬ x2 < x3 → (P none m))) : Tj mJ7_fill_53178 5 [some (rV p), some (iV x1), some (iV x2), some (iV x3)] [] m P := by
  refine Tj.iload_n dJ7_fill_53178_5 rfl rfl ?_
  refine Tj.iload_n dJ7_fill_53178_6 rfl rfl ?_
  refine Tj.icmp_ge dJ7_fill_53178_7 rfl rfl (fun c1 => ?_) (fun c1 => ?_)
  · have h := h.1 c1
    obtain ⟨⟨o1, o2, o3⟩, h⟩ := h
    refine Tj.aload_n dJ7_fill_53178_10 rfl rfl ?_
    refine Tj.iload_n dJ7_fill_53178_11 rfl rfl ?_
    refine Tj.iload_n dJ7_fill_53178_12 rfl rfl ?_
    refine Tj.iast dJ7_fill_53178_13 s_p0 o1 o2 rfl ?_
    refine Tj.iinc dJ7_fill_53178_14 rfl (Nat.le_of_ble_eq_true rfl) rfl o3 rfl ?_
    refine Tj.goto dJ7_fill_53178_17 rfl ?_
    exact Tj.cut h ⟨rfl, ⟨rfl, ⟨rfl, ⟨rfl, trivial⟩⟩⟩⟩
  · have h := h.2 c1
    exact Tj.vret dJ7_fill_53178_20 rfl h
