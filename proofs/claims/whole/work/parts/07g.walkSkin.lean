theorem wX5_lay_0 {m : tM} {P : Option tV → tM → Prop}   (h : Cli mX9_size [rV 109] m (fun r1 m1 => (Clv mX5_layAll [rV 115, rV 109, rV 4] (up m1 115 4 r1) (fun m2 => (((m2 115 5) < (m2 115 4) → (P (some (iV 1)) m2)) ∧ (¬ (m2 115 5) < (m2 115 4) → (Cli mX5_agrees [rV 115, rV 109, rV 4] m2 (fun r2 m3 => ((r2 = 0 → (P (some (iV 2)) m3)) ∧ (¬ r2 = 0 → (Cli mX5_overlaps [rV 115] m3 (fun r3 m4 => (∀ v1 : Int, v1 = (if r3 = 0 then 0 else 3) → (P (some (iV v1)) m4)))))))))))))) : Tj mX5_lay 0 [some (rV 115), some (rV 109), some (rV 4)] [] m P := by
  refine Tj.aload_n dX5_lay_0 rfl rfl ?_
  refine Tj.aload_n dX5_lay_1 rfl rfl ?_
  refine Tj.callVi (as := []) (rest := [_]) dX5_lay_2 ln_X5_31 sh_109 (by decide) rfl rfl (Nat.le_of_ble_eq_true rfl) ⟨Nat.le_of_ble_eq_true rfl, Nat.le_of_ble_eq_true rfl⟩ (Nat.le_of_ble_eq_true rfl) rfl ?_
  refine Cli.mono h (fun r1 m1 h => ?_)
  refine Tj.pI (j := 4) dX5_lay_5 fp_X5_24 sh_115 rfl rfl ?_
  refine Tj.aload_n dX5_lay_8 rfl rfl ?_
  refine Tj.aload_n dX5_lay_9 rfl rfl ?_
  refine Tj.aload_n dX5_lay_10 rfl rfl ?_
  refine Tj.callVv (as := [_, _]) (rest := []) dX5_lay_11 ln_X5_37 sh_115 (by decide) rfl rfl (Nat.le_of_ble_eq_true rfl) ⟨Nat.le_of_ble_eq_true rfl, Nat.le_of_ble_eq_true rfl⟩ (Nat.le_of_ble_eq_true rfl) rfl ?_
  refine Clv.mono h (fun m2 h => ?_)
  refine Tj.aload_n dX5_lay_14 rfl rfl ?_
  refine Tj.gI (j := 5) dX5_lay_15 fl_X5_28 sh_115 rfl rfl ?_
  refine Tj.aload_n dX5_lay_18 rfl rfl ?_
  refine Tj.gI (j := 4) dX5_lay_19 fl_X5_24 sh_115 rfl rfl ?_
  refine Tj.icmp_ge dX5_lay_22 rfl rfl (fun c1 => ?_) (fun c1 => ?_)
  · have h := h.1 c1
    refine Tj.iconst dX5_lay_25 (by decide) rfl ?_
    exact Tj.iret dX5_lay_26 rfl h
  · have h := h.2 c1
    refine Tj.aload_n dX5_lay_27 rfl rfl ?_
    refine Tj.aload_n dX5_lay_28 rfl rfl ?_
    refine Tj.aload_n dX5_lay_29 rfl rfl ?_
    refine Tj.callVi (as := [_, _]) (rest := []) dX5_lay_30 ln_X5_41 sh_115 (by decide) rfl rfl (Nat.le_of_ble_eq_true rfl) ⟨Nat.le_of_ble_eq_true rfl, Nat.le_of_ble_eq_true rfl⟩ (Nat.le_of_ble_eq_true rfl) rfl ?_
    refine Cli.mono h (fun r2 m3 h => ?_)
    refine Tj.if_ne dX5_lay_33 rfl rfl (fun c2 => ?_) (fun c2 => ?_)
    · have h := h.1 c2
      refine Tj.iconst dX5_lay_36 (by decide) rfl ?_
      exact Tj.iret dX5_lay_37 rfl h
    · have h := h.2 c2
      refine Tj.aload_n dX5_lay_38 rfl rfl ?_
      refine Tj.callVi (as := []) (rest := []) dX5_lay_39 ln_X5_45 sh_115 (by decide) rfl rfl (Nat.le_of_ble_eq_true rfl) ⟨Nat.le_of_ble_eq_true rfl, Nat.le_of_ble_eq_true rfl⟩ (Nat.le_of_ble_eq_true rfl) rfl ?_
      refine Cli.mono h (fun r3 m4 h => ?_)
      have hj : Tj mX5_lay 50 [] [iV (if r3 = 0 then 0 else 3)] m4 P := by
        generalize hv1 : ((if r3 = 0 then 0 else 3) : Int) = v1
        have h := h v1 hv1.symm
        exact Tj.iret dX5_lay_50 rfl h
      refine Tj.if_eq dX5_lay_42 rfl rfl (fun c3 => ?_) (fun c3 => ?_)
      · refine Tj.iconst dX5_lay_49 (by decide) rfl ?_
        try simp only [if_pos c3] at hj ⊢
        exact Tj.cut hj trivial
      · refine Tj.iconst dX5_lay_45 (by decide) rfl ?_
        refine Tj.goto dX5_lay_46 rfl ?_
        try simp only [if_neg c3] at hj ⊢
        exact Tj.cut hj trivial

theorem wX5_isWithinReach_0 {m : tM} {P : Option tV → tM → Prop}   (h : Tj mX5_isWithinReach 2 [some (rV 115), some (iV 0)] [] m P) : Tj mX5_isWithinReach 0 [some (rV 115)] [] m P := by
  refine Tj.iconst dX5_isWithinReach_0 (by decide) rfl ?_
  refine Tj.istore_n dX5_isWithinReach_1 (Nat.le_of_ble_eq_true rfl) rfl rfl ?_
  exact Tj.cut h ⟨rfl, ⟨rfl, trivial⟩⟩

theorem wX5_isWithinReach_2 {m : tM} {P : Option tV → tM → Prop} {x1 : Int}  (h : (x1 < (m 115 4) → ((0 ≤ x1 ∧ x1 < 60 ∧ R32 (0 - (m 116 x1))) ∧ ((30 < (if 0 ≤ (m 116 x1) then (m 116 x1) else 0 - (m 116 x1)) → (P (some (iV 0)) m)) ∧ (¬ 30 < (if 0 ≤ (m 116 x1) then (m 116 x1) else 0 - (m 116 x1)) → ((R32 (0 - (m 117 x1))) ∧ ((30 < (if 0 ≤ (m 117 x1) then (m 117 x1) else 0 - (m 117 x1)) → (P (some (iV 0)) m)) ∧ (¬ 30 < (if 0 ≤ (m 117 x1) then (m 117 x1) else 0 - (m 117 x1)) → ((R32 (x1 + 1)) ∧ (Tj mX5_isWithinReach 2 [some (rV 115), some (iV (x1 + 1))] [] m P))))))))) ∧ (¬ x1 < (m 115 4) → (P (some (iV 1)) m))) : Tj mX5_isWithinReach 2 [some (rV 115), some (iV x1)] [] m P := by
  refine Tj.iload_n dX5_isWithinReach_2 rfl rfl ?_
  refine Tj.aload_n dX5_isWithinReach_3 rfl rfl ?_
  refine Tj.gI (j := 4) dX5_isWithinReach_4 fl_X5_24 sh_115 rfl rfl ?_
  refine Tj.icmp_ge dX5_isWithinReach_7 rfl rfl (fun c1 => ?_) (fun c1 => ?_)
  · have h := h.1 c1
    obtain ⟨⟨o1, o2, o3⟩, h⟩ := h
    refine Tj.aload_n dX5_isWithinReach_10 rfl rfl ?_
    refine Tj.getR (b := 116) dX5_isWithinReach_11 fl_X5_9 sh_115 rfl rfl ?_
    refine Tj.iload_n dX5_isWithinReach_14 rfl rfl ?_
    refine Tj.iald dX5_isWithinReach_15 sh_116 o1 o2 rfl ?_
    refine Tj.mabs dX5_isWithinReach_16 mt_X5_49 o3 ⟨Nat.le_of_ble_eq_true rfl, Nat.le_of_ble_eq_true rfl⟩ rfl ?_
    refine Tj.bipush dX5_isWithinReach_19 (by decide) (by decide +kernel) rfl ?_
    refine Tj.icmp_gt dX5_isWithinReach_21 rfl rfl (fun c2 => ?_) (fun c2 => ?_)
    · have h := h.1 c2
      refine Tj.iconst dX5_isWithinReach_38 (by decide) rfl ?_
      exact Tj.zret dX5_isWithinReach_39 rfl (by decide) h
    · have h := h.2 c2
      obtain ⟨o4, h⟩ := h
      refine Tj.aload_n dX5_isWithinReach_24 rfl rfl ?_
      refine Tj.getR (b := 117) dX5_isWithinReach_25 fl_X5_15 sh_115 rfl rfl ?_
      refine Tj.iload_n dX5_isWithinReach_28 rfl rfl ?_
      refine Tj.iald dX5_isWithinReach_29 sh_117 o1 o2 rfl ?_
      refine Tj.mabs dX5_isWithinReach_30 mt_X5_49 o4 ⟨Nat.le_of_ble_eq_true rfl, Nat.le_of_ble_eq_true rfl⟩ rfl ?_
      refine Tj.bipush dX5_isWithinReach_33 (by decide) (by decide +kernel) rfl ?_
      refine Tj.icmp_le dX5_isWithinReach_35 rfl rfl (fun c3 => ?_) (fun c3 => ?_)
      · have h := h.1 c3
        refine Tj.iconst dX5_isWithinReach_38 (by decide) rfl ?_
        exact Tj.zret dX5_isWithinReach_39 rfl (by decide) h
      · have h := h.2 c3
        obtain ⟨o5, h⟩ := h
        refine Tj.iinc dX5_isWithinReach_40 rfl (Nat.le_of_ble_eq_true rfl) rfl o5 rfl ?_
        refine Tj.goto dX5_isWithinReach_43 rfl ?_
        exact Tj.cut h ⟨rfl, ⟨rfl, trivial⟩⟩
  · have h := h.2 c1
    refine Tj.iconst dX5_isWithinReach_46 (by decide) rfl ?_
    exact Tj.zret dX5_isWithinReach_47 rfl (by decide) h

theorem wX5_drawOn_0 {m : tM} {P : Option tV → tM → Prop}   (h : Clv mX8_drop [rV 6] m (fun m1 => (Tj mX5_drawOn 7 [some (rV 115), some (rV 6), some (rV 109), some (rV 4), some (iV 0)] [] m1 P))) : Tj mX5_drawOn 0 [some (rV 115), some (rV 6), some (rV 109), some (rV 4)] [] m P := by
  refine Tj.aload_n dX5_drawOn_0 rfl rfl ?_
  refine Tj.callVv (as := []) (rest := []) dX5_drawOn_1 ln_X5_55 sh_6 (by decide) rfl rfl (Nat.le_of_ble_eq_true rfl) ⟨Nat.le_of_ble_eq_true rfl, Nat.le_of_ble_eq_true rfl⟩ (Nat.le_of_ble_eq_true rfl) rfl ?_
  refine Clv.mono h (fun m1 h => ?_)
  refine Tj.iconst dX5_drawOn_4 (by decide) rfl ?_
  refine Tj.istore dX5_drawOn_5 (Nat.le_of_ble_eq_true rfl) rfl rfl ?_
  exact Tj.cut h ⟨rfl, ⟨rfl, ⟨rfl, ⟨rfl, ⟨rfl, trivial⟩⟩⟩⟩⟩

theorem wX5_drawOn_7 {m : tM} {P : Option tV → tM → Prop} {x4 : Int}  (h : (x4 < (m 115 4) → ((0 ≤ x4 ∧ x4 < 60) ∧ (Cli mX8_add [rV 6, iV (m 116 x4), iV (m 117 x4)] m (fun r1 m1 => ((R32 (x4 + 1)) ∧ (Tj mX5_drawOn 7 [some (rV 115), some (rV 6), some (rV 109), some (rV 4), some (iV (x4 + 1))] [] m1 P)))))) ∧ (¬ x4 < (m 115 4) → (Tj mX5_drawOn 44 [some (rV 115), some (rV 6), some (rV 109), some (rV 4), some (iV 0)] [] m P))) : Tj mX5_drawOn 7 [some (rV 115), some (rV 6), some (rV 109), some (rV 4), some (iV x4)] [] m P := by
  refine Tj.iload dX5_drawOn_7 rfl rfl ?_
  refine Tj.aload_n dX5_drawOn_9 rfl rfl ?_
  refine Tj.gI (j := 4) dX5_drawOn_10 fl_X5_24 sh_115 rfl rfl ?_
  refine Tj.icmp_ge dX5_drawOn_13 rfl rfl (fun c1 => ?_) (fun c1 => ?_)
  · have h := h.1 c1
    obtain ⟨⟨o1, o2⟩, h⟩ := h
    refine Tj.aload_n dX5_drawOn_16 rfl rfl ?_
    refine Tj.aload_n dX5_drawOn_17 rfl rfl ?_
    refine Tj.getR (b := 116) dX5_drawOn_18 fl_X5_9 sh_115 rfl rfl ?_
    refine Tj.iload dX5_drawOn_21 rfl rfl ?_
    refine Tj.iald dX5_drawOn_23 sh_116 o1 o2 rfl ?_
    refine Tj.aload_n dX5_drawOn_24 rfl rfl ?_
    refine Tj.getR (b := 117) dX5_drawOn_25 fl_X5_15 sh_115 rfl rfl ?_
    refine Tj.iload dX5_drawOn_28 rfl rfl ?_
    refine Tj.iald dX5_drawOn_30 sh_117 o1 o2 rfl ?_
    refine Tj.callVi (as := [_, _]) (rest := []) dX5_drawOn_31 ln_X5_58 sh_6 (by decide) rfl rfl (Nat.le_of_ble_eq_true rfl) ⟨Nat.le_of_ble_eq_true rfl, Nat.le_of_ble_eq_true rfl⟩ (Nat.le_of_ble_eq_true rfl) rfl ?_
    refine Cli.mono h (fun r1 m1 h => ?_)
    obtain ⟨o3, h⟩ := h
    refine Tj.pop dX5_drawOn_34 rfl rfl ?_
    refine Tj.iinc dX5_drawOn_35 rfl (Nat.le_of_ble_eq_true rfl) rfl o3 rfl ?_
    refine Tj.goto dX5_drawOn_38 rfl ?_
    exact Tj.cut h ⟨rfl, ⟨rfl, ⟨rfl, ⟨rfl, ⟨rfl, trivial⟩⟩⟩⟩⟩
  · have h := h.2 c1
    refine Tj.iconst dX5_drawOn_41 (by decide) rfl ?_
    refine Tj.istore dX5_drawOn_42 (Nat.le_of_ble_eq_true rfl) rfl rfl ?_
    exact Tj.cut h ⟨rfl, ⟨rfl, ⟨rfl, ⟨rfl, ⟨rfl, trivial⟩⟩⟩⟩⟩

theorem wX5_drawOn_44 {m : tM} {P : Option tV → tM → Prop} {x4 : Int}  (h : (x4 < (m 115 4) → ((0 ≤ x4 ∧ x4 < 60) ∧ (Cli mX8_find [rV 6, iV (m 116 x4), iV (m 117 x4)] m (fun r1 m1 => (Tj mX5_drawOn 76 [some (rV 115), some (rV 6), some (rV 109), some (rV 4), some (iV x4), some (iV r1), some (iV 0)] [] m1 P))))) ∧ (¬ x4 < (m 115 4) → (P none m))) : Tj mX5_drawOn 44 [some (rV 115), some (rV 6), some (rV 109), some (rV 4), some (iV x4)] [] m P := by
  refine Tj.iload dX5_drawOn_44 rfl rfl ?_
  refine Tj.aload_n dX5_drawOn_46 rfl rfl ?_
  refine Tj.gI (j := 4) dX5_drawOn_47 fl_X5_24 sh_115 rfl rfl ?_
  refine Tj.icmp_ge dX5_drawOn_50 rfl rfl (fun c1 => ?_) (fun c1 => ?_)
  · have h := h.1 c1
    obtain ⟨⟨o1, o2⟩, h⟩ := h
    refine Tj.aload_n dX5_drawOn_53 rfl rfl ?_
    refine Tj.aload_n dX5_drawOn_54 rfl rfl ?_
    refine Tj.getR (b := 116) dX5_drawOn_55 fl_X5_9 sh_115 rfl rfl ?_
    refine Tj.iload dX5_drawOn_58 rfl rfl ?_
    refine Tj.iald dX5_drawOn_60 sh_116 o1 o2 rfl ?_
    refine Tj.aload_n dX5_drawOn_61 rfl rfl ?_
    refine Tj.getR (b := 117) dX5_drawOn_62 fl_X5_15 sh_115 rfl rfl ?_
    refine Tj.iload dX5_drawOn_65 rfl rfl ?_
    refine Tj.iald dX5_drawOn_67 sh_117 o1 o2 rfl ?_
    refine Tj.callVi (as := [_, _]) (rest := []) dX5_drawOn_68 ln_X5_62 sh_6 (by decide) rfl rfl (Nat.le_of_ble_eq_true rfl) ⟨Nat.le_of_ble_eq_true rfl, Nat.le_of_ble_eq_true rfl⟩ (Nat.le_of_ble_eq_true rfl) rfl ?_
    refine Cli.mono h (fun r1 m1 h => ?_)
    refine Tj.istore dX5_drawOn_71 (Nat.le_of_ble_eq_true rfl) rfl rfl ?_
    refine Tj.iconst dX5_drawOn_73 (by decide) rfl ?_
    refine Tj.istore dX5_drawOn_74 (Nat.le_of_ble_eq_true rfl) rfl rfl ?_
    exact Tj.cut h ⟨rfl, ⟨rfl, ⟨rfl, ⟨rfl, ⟨rfl, ⟨rfl, ⟨rfl, trivial⟩⟩⟩⟩⟩⟩⟩
  · have h := h.2 c1
    exact Tj.vret dX5_drawOn_167 rfl h

theorem wX5_drawOn_76 {m : tM} {P : Option tV → tM → Prop} {x4 : Int} {x5 : Int} {x6 : Int}  (h : (x6 < 4 → ((0 ≤ x4 ∧ x4 < 60 ∧ R32 (x6 + (m 118 x4))) ∧ ((x5 < 0 → ((R32 (x6 + 1)) ∧ (Tj mX5_drawOn 76 [some (rV 115), some (rV 6), some (rV 109), some (rV 4), some (iV x4), some (iV x5), some (iV (x6 + 1))] [] m P))) ∧ (¬ x5 < 0 → (Cli mX8_beside [rV 6, iV x5, iV (bAnd (x6 + (m 118 x4)) 3)] m (fun r1 m1 => ((r1 < 0 → ((R32 (x6 + 1)) ∧ (Tj mX5_drawOn 76 [some (rV 115), some (rV 6), some (rV 109), some (rV 4), some (iV x4), some (iV x5), some (iV (x6 + 1))] [] m1 P))) ∧ (¬ r1 < 0 → (Cli mX2_isCut [rV 4, iV x4, iV x6] m1 (fun r2 m2 => ((r2 = 0 → (Cli mX9_bendAcross [rV 109, iV x4, iV x6] m2 (fun r3 m3 => ((R32 (2 + r3)) ∧ (Clv mX8_join [rV 6, iV x5, iV r1, iV (bAnd (x6 + (m 118 x4)) 3), iV (2 + r3)] m3 (fun m4 => ((R32 (x6 + 1)) ∧ (Tj mX5_drawOn 76 [some (rV 115), some (rV 6), some (rV 109), some (rV 4), some (iV x4), some (iV x5), some (iV (x6 + 1))] [] m4 P)))))))) ∧ (¬ r2 = 0 → ((R32 (x6 + 1)) ∧ (Tj mX5_drawOn 76 [some (rV 115), some (rV 6), some (rV 109), some (rV 4), some (iV x4), some (iV x5), some (iV (x6 + 1))] [] m2 P)))))))))))))) ∧ (¬ x6 < 4 → ((R32 (x4 + 1)) ∧ (Tj mX5_drawOn 44 [some (rV 115), some (rV 6), some (rV 109), some (rV 4), some (iV (x4 + 1))] [] m P)))) : Tj mX5_drawOn 76 [some (rV 115), some (rV 6), some (rV 109), some (rV 4), some (iV x4), some (iV x5), some (iV x6)] [] m P := by
  refine Tj.iload dX5_drawOn_76 rfl rfl ?_
  refine Tj.iconst dX5_drawOn_78 (by decide) rfl ?_
  refine Tj.icmp_ge dX5_drawOn_79 rfl rfl (fun c1 => ?_) (fun c1 => ?_)
  · have h := h.1 c1
    obtain ⟨⟨o1, o2, o3⟩, h⟩ := h
    refine Tj.iload dX5_drawOn_82 rfl rfl ?_
    refine Tj.aload_n dX5_drawOn_84 rfl rfl ?_
    refine Tj.getR (b := 118) dX5_drawOn_85 fl_X5_18 sh_115 rfl rfl ?_
    refine Tj.iload dX5_drawOn_88 rfl rfl ?_
    refine Tj.iald dX5_drawOn_90 sh_118 o1 o2 rfl ?_
    refine Tj.iadd dX5_drawOn_91 o3 rfl ?_
    refine Tj.iconst dX5_drawOn_92 (by decide) rfl ?_
    refine Tj.iand dX5_drawOn_93 rfl ?_
    refine Tj.istore dX5_drawOn_94 (Nat.le_of_ble_eq_true rfl) rfl rfl ?_
    refine Tj.iload dX5_drawOn_96 rfl rfl ?_
    refine Tj.if_ge dX5_drawOn_98 rfl rfl (fun c2 => ?_) (fun c2 => ?_)
    · have h := h.1 c2
      obtain ⟨o4, h⟩ := h
      refine Tj.iconst dX5_drawOn_101 (by decide) rfl ?_
      refine Tj.goto dX5_drawOn_102 rfl ?_
      refine Tj.istore dX5_drawOn_113 (Nat.le_of_ble_eq_true rfl) rfl rfl ?_
      refine Tj.iload dX5_drawOn_115 rfl rfl ?_
      refine Tj.if_lt dX5_drawOn_117 rfl rfl (fun c3 => ?_) (fun c3 => ?_)
      case refine_2 => exact absurd (by decide) c3
      refine Tj.iinc dX5_drawOn_155 rfl (Nat.le_of_ble_eq_true rfl) rfl o4 rfl ?_
      refine Tj.goto dX5_drawOn_158 rfl ?_
      exact Tj.cut h ⟨rfl, ⟨rfl, ⟨rfl, ⟨rfl, ⟨rfl, ⟨rfl, ⟨rfl, trivial⟩⟩⟩⟩⟩⟩⟩
    · have h := h.2 c2
      refine Tj.aload_n dX5_drawOn_105 rfl rfl ?_
      refine Tj.iload dX5_drawOn_106 rfl rfl ?_
      refine Tj.iload dX5_drawOn_108 rfl rfl ?_
      refine Tj.callVi (as := [_, _]) (rest := []) dX5_drawOn_110 ln_X5_65 sh_6 (by decide) rfl rfl (Nat.le_of_ble_eq_true rfl) ⟨Nat.le_of_ble_eq_true rfl, Nat.le_of_ble_eq_true rfl⟩ (Nat.le_of_ble_eq_true rfl) rfl ?_
      refine Cli.mono h (fun r1 m1 h => ?_)
      refine Tj.istore dX5_drawOn_113 (Nat.le_of_ble_eq_true rfl) rfl rfl ?_
      refine Tj.iload dX5_drawOn_115 rfl rfl ?_
      refine Tj.if_lt dX5_drawOn_117 rfl rfl (fun c4 => ?_) (fun c4 => ?_)
      · have h := h.1 c4
        obtain ⟨o5, h⟩ := h
        refine Tj.iinc dX5_drawOn_155 rfl (Nat.le_of_ble_eq_true rfl) rfl o5 rfl ?_
        refine Tj.goto dX5_drawOn_158 rfl ?_
        exact Tj.cut h ⟨rfl, ⟨rfl, ⟨rfl, ⟨rfl, ⟨rfl, ⟨rfl, ⟨rfl, trivial⟩⟩⟩⟩⟩⟩⟩
      · have h := h.2 c4
        refine Tj.aload_n dX5_drawOn_120 rfl rfl ?_
        refine Tj.iload dX5_drawOn_121 rfl rfl ?_
        refine Tj.iload dX5_drawOn_123 rfl rfl ?_
        refine Tj.callVi (as := [_, _]) (rest := []) dX5_drawOn_125 ln_X5_68 sh_4 (by decide) rfl rfl (Nat.le_of_ble_eq_true rfl) ⟨Nat.le_of_ble_eq_true rfl, Nat.le_of_ble_eq_true rfl⟩ (Nat.le_of_ble_eq_true rfl) rfl ?_
        refine Cli.mono h (fun r2 m2 h => ?_)
        refine Tj.if_ne dX5_drawOn_128 rfl rfl (fun c5 => ?_) (fun c5 => ?_)
        · have h := h.1 c5
          refine Tj.iconst dX5_drawOn_131 (by decide) rfl ?_
          refine Tj.aload_n dX5_drawOn_132 rfl rfl ?_
          refine Tj.iload dX5_drawOn_133 rfl rfl ?_
          refine Tj.iload dX5_drawOn_135 rfl rfl ?_
          refine Tj.callVi (as := [_, _]) (rest := [_]) dX5_drawOn_137 ln_X5_74 sh_109 (by decide) rfl rfl (Nat.le_of_ble_eq_true rfl) ⟨Nat.le_of_ble_eq_true rfl, Nat.le_of_ble_eq_true rfl⟩ (Nat.le_of_ble_eq_true rfl) rfl ?_
          refine Cli.mono h (fun r3 m3 h => ?_)
          obtain ⟨o6, h⟩ := h
          refine Tj.iadd dX5_drawOn_140 o6 rfl ?_
          refine Tj.istore dX5_drawOn_141 (Nat.le_of_ble_eq_true rfl) rfl rfl ?_
          refine Tj.aload_n dX5_drawOn_143 rfl rfl ?_
          refine Tj.iload dX5_drawOn_144 rfl rfl ?_
          refine Tj.iload dX5_drawOn_146 rfl rfl ?_
          refine Tj.iload dX5_drawOn_148 rfl rfl ?_
          refine Tj.iload dX5_drawOn_150 rfl rfl ?_
          refine Tj.callVv (as := [_, _, _, _]) (rest := []) dX5_drawOn_152 ln_X5_77 sh_6 (by decide) rfl rfl (Nat.le_of_ble_eq_true rfl) ⟨Nat.le_of_ble_eq_true rfl, Nat.le_of_ble_eq_true rfl⟩ (Nat.le_of_ble_eq_true rfl) rfl ?_
          refine Clv.mono h (fun m4 h => ?_)
          obtain ⟨o7, h⟩ := h
          refine Tj.iinc dX5_drawOn_155 rfl (Nat.le_of_ble_eq_true rfl) rfl o7 rfl ?_
          refine Tj.goto dX5_drawOn_158 rfl ?_
          exact Tj.cut h ⟨rfl, ⟨rfl, ⟨rfl, ⟨rfl, ⟨rfl, ⟨rfl, ⟨rfl, trivial⟩⟩⟩⟩⟩⟩⟩
        · have h := h.2 c5
          obtain ⟨o8, h⟩ := h
          refine Tj.iinc dX5_drawOn_155 rfl (Nat.le_of_ble_eq_true rfl) rfl o8 rfl ?_
          refine Tj.goto dX5_drawOn_158 rfl ?_
          exact Tj.cut h ⟨rfl, ⟨rfl, ⟨rfl, ⟨rfl, ⟨rfl, ⟨rfl, ⟨rfl, trivial⟩⟩⟩⟩⟩⟩⟩
  · have h := h.2 c1
    obtain ⟨o9, h⟩ := h
    refine Tj.iinc dX5_drawOn_161 rfl (Nat.le_of_ble_eq_true rfl) rfl o9 rfl ?_
    refine Tj.goto dX5_drawOn_164 rfl ?_
    exact Tj.cut h ⟨rfl, ⟨rfl, ⟨rfl, ⟨rfl, ⟨rfl, trivial⟩⟩⟩⟩⟩

theorem wX5_layAll_0 {m : tM} {P : Option tV → tM → Prop}   (h : Clv mJ7_fill_53178 [rV 118, iV (-1)] m (fun m1 => (Clv mX5_layOne [rV 115, iV 0, iV 0, iV 0, iV 0] (up m1 115 5 0) (fun m2 => (Tj mX5_layAll 23 [some (rV 115), some (rV 109), some (rV 4), some (iV 0)] [] m2 P))))) : Tj mX5_layAll 0 [some (rV 115), some (rV 109), some (rV 4)] [] m P := by
  refine Tj.aload_n dX5_layAll_0 rfl rfl ?_
  refine Tj.getR (b := 118) dX5_layAll_1 fl_X5_18 sh_115 rfl rfl ?_
  refine Tj.iconst dX5_layAll_4 (by decide) rfl ?_
  refine Tj.callSv (as := [_, _]) (rest := []) dX5_layAll_5 ln_X5_81 rfl rfl (Nat.le_of_ble_eq_true rfl) ⟨Nat.le_of_ble_eq_true rfl, Nat.le_of_ble_eq_true rfl⟩ (Nat.le_of_ble_eq_true rfl) rfl ?_
  refine Clv.mono h (fun m1 h => ?_)
  refine Tj.aload_n dX5_layAll_8 rfl rfl ?_
  refine Tj.iconst dX5_layAll_9 (by decide) rfl ?_
  refine Tj.pI (j := 5) dX5_layAll_10 fp_X5_28 sh_115 rfl rfl ?_
  refine Tj.aload_n dX5_layAll_13 rfl rfl ?_
  refine Tj.iconst dX5_layAll_14 (by decide) rfl ?_
  refine Tj.iconst dX5_layAll_15 (by decide) rfl ?_
  refine Tj.iconst dX5_layAll_16 (by decide) rfl ?_
  refine Tj.iconst dX5_layAll_17 (by decide) rfl ?_
  refine Tj.callVv (as := [_, _, _, _]) (rest := []) dX5_layAll_18 ln_X5_87 sh_115 (by decide) rfl rfl (Nat.le_of_ble_eq_true rfl) ⟨Nat.le_of_ble_eq_true rfl, Nat.le_of_ble_eq_true rfl⟩ (Nat.le_of_ble_eq_true rfl) rfl ?_
  refine Clv.mono h (fun m2 h => ?_)
  refine Tj.iconst dX5_layAll_21 (by decide) rfl ?_
  refine Tj.istore_n dX5_layAll_22 (Nat.le_of_ble_eq_true rfl) rfl rfl ?_
  exact Tj.cut h ⟨rfl, ⟨rfl, ⟨rfl, ⟨rfl, trivial⟩⟩⟩⟩

theorem wX5_layAll_23 {m : tM} {P : Option tV → tM → Prop} {x3 : Int}  (h : (x3 < (m 115 4) → ((x3 < (m 115 5) → ((0 ≤ x3 ∧ x3 < 60) ∧ (Tj mX5_layAll 50 [some (rV 115), some (rV 109), some (rV 4), some (iV x3), some (iV (m 119 x3)), some (iV 0)] [] m P))) ∧ (¬ x3 < (m 115 5) → (P none m)))) ∧ (¬ x3 < (m 115 4) → (P none m))) : Tj mX5_layAll 23 [some (rV 115), some (rV 109), some (rV 4), some (iV x3)] [] m P := by
  refine Tj.iload_n dX5_layAll_23 rfl rfl ?_
  refine Tj.aload_n dX5_layAll_24 rfl rfl ?_
  refine Tj.gI (j := 4) dX5_layAll_25 fl_X5_24 sh_115 rfl rfl ?_
  refine Tj.icmp_ge dX5_layAll_28 rfl rfl (fun c1 => ?_) (fun c1 => ?_)
  · have h := h.1 c1
    refine Tj.iload_n dX5_layAll_31 rfl rfl ?_
    refine Tj.aload_n dX5_layAll_32 rfl rfl ?_
    refine Tj.gI (j := 5) dX5_layAll_33 fl_X5_28 sh_115 rfl rfl ?_
    refine Tj.icmp_ge dX5_layAll_36 rfl rfl (fun c2 => ?_) (fun c2 => ?_)
    · have h := h.1 c2
      obtain ⟨⟨o1, o2⟩, h⟩ := h
      refine Tj.aload_n dX5_layAll_39 rfl rfl ?_
      refine Tj.getR (b := 119) dX5_layAll_40 fl_X5_21 sh_115 rfl rfl ?_
      refine Tj.iload_n dX5_layAll_43 rfl rfl ?_
      refine Tj.iald dX5_layAll_44 sh_119 o1 o2 rfl ?_
      refine Tj.istore dX5_layAll_45 (Nat.le_of_ble_eq_true rfl) rfl rfl ?_
      refine Tj.iconst dX5_layAll_47 (by decide) rfl ?_
      refine Tj.istore dX5_layAll_48 (Nat.le_of_ble_eq_true rfl) rfl rfl ?_
      exact Tj.cut h ⟨rfl, ⟨rfl, ⟨rfl, ⟨rfl, ⟨rfl, ⟨rfl, trivial⟩⟩⟩⟩⟩⟩
    · have h := h.2 c2
      exact Tj.vret dX5_layAll_155 rfl h
  · have h := h.2 c1
    exact Tj.vret dX5_layAll_155 rfl h

theorem wX5_layAll_50 {m : tM} {P : Option tV → tM → Prop} {x3 : Int} {x4 : Int} {x5 : Int}  (h : (x5 < 4 → (Cli mX9_squareAcross [rV 109, iV x4, iV x5] m (fun r1 m1 => (Cli mX2_isCut [rV 4, iV x4, iV x5] m1 (fun r2 m2 => ((r2 = 0 → ((0 ≤ r1 ∧ r1 < 60) ∧ (((m2 118 r1) = (-1) → ((0 ≤ x4 ∧ x4 < 60 ∧ R32 (x5 + (m2 118 x4))) ∧ (Cli mX8_stepX [iV (bAnd (x5 + (m2 118 x4)) 3)] m2 (fun r3 m3 => ((R32 ((m2 116 x4) + r3)) ∧ (Cli mX8_stepY [iV (bAnd (x5 + (m2 118 x4)) 3)] m3 (fun r4 m4 => ((R32 ((m3 117 x4) + r4)) ∧ (Cli mX5_turnBeside [rV 115, rV 109, iV x4, iV x5] m4 (fun r5 m5 => (Clv mX5_layOne [rV 115, iV r1, iV ((m2 116 x4) + r3), iV ((m3 117 x4) + r4), iV r5] m5 (fun m6 => ((R32 (x5 + 1)) ∧ (Tj mX5_layAll 50 [some (rV 115), some (rV 109), some (rV 4), some (iV x3), some (iV x4), some (iV (x5 + 1))] [] m6 P)))))))))))))) ∧ (¬ (m2 118 r1) = (-1) → ((R32 (x5 + 1)) ∧ (Tj mX5_layAll 50 [some (rV 115), some (rV 109), some (rV 4), some (iV x3), some (iV x4), some (iV (x5 + 1))] [] m2 P)))))) ∧ (¬ r2 = 0 → ((R32 (x5 + 1)) ∧ (Tj mX5_layAll 50 [some (rV 115), some (rV 109), some (rV 4), some (iV x3), some (iV x4), some (iV (x5 + 1))] [] m2 P))))))))) ∧ (¬ x5 < 4 → ((R32 (x3 + 1)) ∧ (Tj mX5_layAll 23 [some (rV 115), some (rV 109), some (rV 4), some (iV (x3 + 1))] [] m P)))) : Tj mX5_layAll 50 [some (rV 115), some (rV 109), some (rV 4), some (iV x3), some (iV x4), some (iV x5)] [] m P := by
  refine Tj.iload dX5_layAll_50 rfl rfl ?_
  refine Tj.iconst dX5_layAll_52 (by decide) rfl ?_
  refine Tj.icmp_ge dX5_layAll_53 rfl rfl (fun c1 => ?_) (fun c1 => ?_)
  · have h := h.1 c1
    refine Tj.aload_n dX5_layAll_56 rfl rfl ?_
    refine Tj.iload dX5_layAll_57 rfl rfl ?_
    refine Tj.iload dX5_layAll_59 rfl rfl ?_
    refine Tj.callVi (as := [_, _]) (rest := []) dX5_layAll_61 ln_X5_90 sh_109 (by decide) rfl rfl (Nat.le_of_ble_eq_true rfl) ⟨Nat.le_of_ble_eq_true rfl, Nat.le_of_ble_eq_true rfl⟩ (Nat.le_of_ble_eq_true rfl) rfl ?_
    refine Cli.mono h (fun r1 m1 h => ?_)
    refine Tj.istore dX5_layAll_64 (Nat.le_of_ble_eq_true rfl) rfl rfl ?_
    refine Tj.aload_n dX5_layAll_66 rfl rfl ?_
    refine Tj.iload dX5_layAll_67 rfl rfl ?_
    refine Tj.iload dX5_layAll_69 rfl rfl ?_
    refine Tj.callVi (as := [_, _]) (rest := []) dX5_layAll_71 ln_X5_68 sh_4 (by decide) rfl rfl (Nat.le_of_ble_eq_true rfl) ⟨Nat.le_of_ble_eq_true rfl, Nat.le_of_ble_eq_true rfl⟩ (Nat.le_of_ble_eq_true rfl) rfl ?_
    refine Cli.mono h (fun r2 m2 h => ?_)
    refine Tj.if_ne dX5_layAll_74 rfl rfl (fun c2 => ?_) (fun c2 => ?_)
    · have h := h.1 c2
      obtain ⟨⟨o1, o2⟩, h⟩ := h
      refine Tj.aload_n dX5_layAll_77 rfl rfl ?_
      refine Tj.getR (b := 118) dX5_layAll_78 fl_X5_18 sh_115 rfl rfl ?_
      refine Tj.iload dX5_layAll_81 rfl rfl ?_
      refine Tj.iald dX5_layAll_83 sh_118 o1 o2 rfl ?_
      refine Tj.iconst dX5_layAll_84 (by decide) rfl ?_
      refine Tj.icmp_ne dX5_layAll_85 rfl rfl (fun c3 => ?_) (fun c3 => ?_)
      · have h := h.1 c3
        obtain ⟨⟨o3, o4, o5⟩, h⟩ := h
        refine Tj.iload dX5_layAll_88 rfl rfl ?_
        refine Tj.aload_n dX5_layAll_90 rfl rfl ?_
        refine Tj.getR (b := 118) dX5_layAll_91 fl_X5_18 sh_115 rfl rfl ?_
        refine Tj.iload dX5_layAll_94 rfl rfl ?_
        refine Tj.iald dX5_layAll_96 sh_118 o3 o4 rfl ?_
        refine Tj.iadd dX5_layAll_97 o5 rfl ?_
        refine Tj.iconst dX5_layAll_98 (by decide) rfl ?_
        refine Tj.iand dX5_layAll_99 rfl ?_
        refine Tj.istore dX5_layAll_100 (Nat.le_of_ble_eq_true rfl) rfl rfl ?_
        refine Tj.aload_n dX5_layAll_102 rfl rfl ?_
        refine Tj.iload dX5_layAll_103 rfl rfl ?_
        refine Tj.aload_n dX5_layAll_105 rfl rfl ?_
        refine Tj.getR (b := 116) dX5_layAll_106 fl_X5_9 sh_115 rfl rfl ?_
        refine Tj.iload dX5_layAll_109 rfl rfl ?_
        refine Tj.iald dX5_layAll_111 sh_116 o3 o4 rfl ?_
        refine Tj.iload dX5_layAll_112 rfl rfl ?_
        refine Tj.callSi (as := [_]) (rest := [_, _, _]) dX5_layAll_114 ln_X5_93 rfl rfl (Nat.le_of_ble_eq_true rfl) ⟨Nat.le_of_ble_eq_true rfl, Nat.le_of_ble_eq_true rfl⟩ (Nat.le_of_ble_eq_true rfl) rfl ?_
        refine Cli.mono h (fun r3 m3 h => ?_)
        obtain ⟨o6, h⟩ := h
        refine Tj.iadd dX5_layAll_117 o6 rfl ?_
        refine Tj.aload_n dX5_layAll_118 rfl rfl ?_
        refine Tj.getR (b := 117) dX5_layAll_119 fl_X5_15 sh_115 rfl rfl ?_
        refine Tj.iload dX5_layAll_122 rfl rfl ?_
        refine Tj.iald dX5_layAll_124 sh_117 o3 o4 rfl ?_
        refine Tj.iload dX5_layAll_125 rfl rfl ?_
        refine Tj.callSi (as := [_]) (rest := [_, _, _, _]) dX5_layAll_127 ln_X5_96 rfl rfl (Nat.le_of_ble_eq_true rfl) ⟨Nat.le_of_ble_eq_true rfl, Nat.le_of_ble_eq_true rfl⟩ (Nat.le_of_ble_eq_true rfl) rfl ?_
        refine Cli.mono h (fun r4 m4 h => ?_)
        obtain ⟨o7, h⟩ := h
        refine Tj.iadd dX5_layAll_130 o7 rfl ?_
        refine Tj.aload_n dX5_layAll_131 rfl rfl ?_
        refine Tj.aload_n dX5_layAll_132 rfl rfl ?_
        refine Tj.iload dX5_layAll_133 rfl rfl ?_
        refine Tj.iload dX5_layAll_135 rfl rfl ?_
        refine Tj.callVi (as := [_, _, _]) (rest := [_, _, _, _]) dX5_layAll_137 ln_X5_99 sh_115 (by decide) rfl rfl (Nat.le_of_ble_eq_true rfl) ⟨Nat.le_of_ble_eq_true rfl, Nat.le_of_ble_eq_true rfl⟩ (Nat.le_of_ble_eq_true rfl) rfl ?_
        refine Cli.mono h (fun r5 m5 h => ?_)
        refine Tj.callVv (as := [_, _, _, _]) (rest := []) dX5_layAll_140 ln_X5_87 sh_115 (by decide) rfl rfl (Nat.le_of_ble_eq_true rfl) ⟨Nat.le_of_ble_eq_true rfl, Nat.le_of_ble_eq_true rfl⟩ (Nat.le_of_ble_eq_true rfl) rfl ?_
        refine Clv.mono h (fun m6 h => ?_)
        obtain ⟨o8, h⟩ := h
        refine Tj.iinc dX5_layAll_143 rfl (Nat.le_of_ble_eq_true rfl) rfl o8 rfl ?_
        refine Tj.goto dX5_layAll_146 rfl ?_
        exact Tj.cut h ⟨rfl, ⟨rfl, ⟨rfl, ⟨rfl, ⟨rfl, ⟨rfl, trivial⟩⟩⟩⟩⟩⟩
      · have h := h.2 c3
        obtain ⟨o9, h⟩ := h
        refine Tj.iinc dX5_layAll_143 rfl (Nat.le_of_ble_eq_true rfl) rfl o9 rfl ?_
        refine Tj.goto dX5_layAll_146 rfl ?_
        exact Tj.cut h ⟨rfl, ⟨rfl, ⟨rfl, ⟨rfl, ⟨rfl, ⟨rfl, trivial⟩⟩⟩⟩⟩⟩
    · have h := h.2 c2
      obtain ⟨o10, h⟩ := h
      refine Tj.iinc dX5_layAll_143 rfl (Nat.le_of_ble_eq_true rfl) rfl o10 rfl ?_
      refine Tj.goto dX5_layAll_146 rfl ?_
      exact Tj.cut h ⟨rfl, ⟨rfl, ⟨rfl, ⟨rfl, ⟨rfl, ⟨rfl, trivial⟩⟩⟩⟩⟩⟩
  · have h := h.2 c1
    obtain ⟨o11, h⟩ := h
    refine Tj.iinc dX5_layAll_149 rfl (Nat.le_of_ble_eq_true rfl) rfl o11 rfl ?_
    refine Tj.goto dX5_layAll_152 rfl ?_
    exact Tj.cut h ⟨rfl, ⟨rfl, ⟨rfl, ⟨rfl, trivial⟩⟩⟩⟩

theorem wX5_layOne_0 {m : tM} {P : Option tV → tM → Prop} {x1 : Int} {x2 : Int} {x3 : Int} {x4 : Int}  (h : (0 ≤ x1 ∧ x1 < 60 ∧ 0 ≤ (m 115 5) ∧ (m 115 5) < 60 ∧ R32 ((m 115 5) + 1)) ∧ (P none (up (up (up (up (up m 116 x1 x2) 117 x1 x3) 118 x1 x4) 119 (m 115 5) x1) 115 5 ((m 115 5) + 1)))) : Tj mX5_layOne 0 [some (rV 115), some (iV x1), some (iV x2), some (iV x3), some (iV x4)] [] m P := by
  obtain ⟨⟨o1, o2, o3, o4, o5⟩, h⟩ := h
  refine Tj.aload_n dX5_layOne_0 rfl rfl ?_
  refine Tj.getR (b := 116) dX5_layOne_1 fl_X5_9 sh_115 rfl rfl ?_
  refine Tj.iload_n dX5_layOne_4 rfl rfl ?_
  refine Tj.iload_n dX5_layOne_5 rfl rfl ?_
  refine Tj.iast dX5_layOne_6 sh_116 o1 o2 rfl ?_
  refine Tj.aload_n dX5_layOne_7 rfl rfl ?_
  refine Tj.getR (b := 117) dX5_layOne_8 fl_X5_15 sh_115 rfl rfl ?_
  refine Tj.iload_n dX5_layOne_11 rfl rfl ?_
  refine Tj.iload_n dX5_layOne_12 rfl rfl ?_
  refine Tj.iast dX5_layOne_13 sh_117 o1 o2 rfl ?_
  refine Tj.aload_n dX5_layOne_14 rfl rfl ?_
  refine Tj.getR (b := 118) dX5_layOne_15 fl_X5_18 sh_115 rfl rfl ?_
  refine Tj.iload_n dX5_layOne_18 rfl rfl ?_
  refine Tj.iload dX5_layOne_19 rfl rfl ?_
  refine Tj.iast dX5_layOne_21 sh_118 o1 o2 rfl ?_
  refine Tj.aload_n dX5_layOne_22 rfl rfl ?_
  refine Tj.getR (b := 119) dX5_layOne_23 fl_X5_21 sh_115 rfl rfl ?_
  refine Tj.aload_n dX5_layOne_26 rfl rfl ?_
  refine Tj.gI (j := 5) dX5_layOne_27 fl_X5_28 sh_115 rfl rfl ?_
  refine Tj.iload_n dX5_layOne_30 rfl rfl ?_
  refine Tj.iast dX5_layOne_31 sh_119 o3 o4 rfl ?_
  refine Tj.aload_n dX5_layOne_32 rfl rfl ?_
  refine Tj.dup dX5_layOne_33 rfl rfl ?_
  refine Tj.gI (j := 5) dX5_layOne_34 fl_X5_28 sh_115 rfl rfl ?_
  refine Tj.iconst dX5_layOne_37 (by decide) rfl ?_
  refine Tj.iadd dX5_layOne_38 o5 rfl ?_
  refine Tj.pI (j := 5) dX5_layOne_39 fp_X5_28 sh_115 rfl rfl ?_
  exact Tj.vret dX5_layOne_42 rfl h

theorem wX5_turnBeside_0 {m : tM} {P : Option tV → tM → Prop} {x2 : Int} {x3 : Int}  (h : (0 ≤ x2 ∧ x2 < 60 ∧ R32 (x3 + (m 118 x2)) ∧ R32 ((x3 + (m 118 x2)) + 2)) ∧ (Cli mX9_sideAcross [rV 109, iV x2, iV x3] m (fun r1 m1 => ((R32 (((x3 + (m 118 x2)) + 2) - r1)) ∧ (P (some (iV (bAnd (((x3 + (m 118 x2)) + 2) - r1) 3))) m1))))) : Tj mX5_turnBeside 0 [some (rV 115), some (rV 109), some (iV x2), some (iV x3)] [] m P := by
  obtain ⟨⟨o1, o2, o3, o4⟩, h⟩ := h
  refine Tj.iload_n dX5_turnBeside_0 rfl rfl ?_
  refine Tj.aload_n dX5_turnBeside_1 rfl rfl ?_
  refine Tj.getR (b := 118) dX5_turnBeside_2 fl_X5_18 sh_115 rfl rfl ?_
  refine Tj.iload_n dX5_turnBeside_5 rfl rfl ?_
  refine Tj.iald dX5_turnBeside_6 sh_118 o1 o2 rfl ?_
  refine Tj.iadd dX5_turnBeside_7 o3 rfl ?_
  refine Tj.iconst dX5_turnBeside_8 (by decide) rfl ?_
  refine Tj.iadd dX5_turnBeside_9 o4 rfl ?_
  refine Tj.aload_n dX5_turnBeside_10 rfl rfl ?_
  refine Tj.iload_n dX5_turnBeside_11 rfl rfl ?_
  refine Tj.iload_n dX5_turnBeside_12 rfl rfl ?_
  refine Tj.callVi (as := [_, _]) (rest := [_]) dX5_turnBeside_13 ln_X5_103 sh_109 (by decide) rfl rfl (Nat.le_of_ble_eq_true rfl) ⟨Nat.le_of_ble_eq_true rfl, Nat.le_of_ble_eq_true rfl⟩ (Nat.le_of_ble_eq_true rfl) rfl ?_
  refine Cli.mono h (fun r1 m1 h => ?_)
  obtain ⟨o5, h⟩ := h
  refine Tj.isub dX5_turnBeside_16 o5 rfl ?_
  refine Tj.iconst dX5_turnBeside_17 (by decide) rfl ?_
  refine Tj.iand dX5_turnBeside_18 rfl ?_
  exact Tj.iret dX5_turnBeside_19 rfl h

theorem wX5_agrees_0 {m : tM} {P : Option tV → tM → Prop}   (h : Tj mX5_agrees 2 [some (rV 115), some (rV 109), some (rV 4), some (iV 0)] [] m P) : Tj mX5_agrees 0 [some (rV 115), some (rV 109), some (rV 4)] [] m P := by
  refine Tj.iconst dX5_agrees_0 (by decide) rfl ?_
  refine Tj.istore_n dX5_agrees_1 (Nat.le_of_ble_eq_true rfl) rfl rfl ?_
  exact Tj.cut h ⟨rfl, ⟨rfl, ⟨rfl, ⟨rfl, trivial⟩⟩⟩⟩

theorem wX5_agrees_2 {m : tM} {P : Option tV → tM → Prop} {x3 : Int}  (h : (x3 < (m 115 4) → (Tj mX5_agrees 13 [some (rV 115), some (rV 109), some (rV 4), some (iV x3), some (iV 0)] [] m P)) ∧ (¬ x3 < (m 115 4) → (P (some (iV 1)) m))) : Tj mX5_agrees 2 [some (rV 115), some (rV 109), some (rV 4), some (iV x3)] [] m P := by
  refine Tj.iload_n dX5_agrees_2 rfl rfl ?_
  refine Tj.aload_n dX5_agrees_3 rfl rfl ?_
  refine Tj.gI (j := 4) dX5_agrees_4 fl_X5_24 sh_115 rfl rfl ?_
  refine Tj.icmp_ge dX5_agrees_7 rfl rfl (fun c1 => ?_) (fun c1 => ?_)
  · have h := h.1 c1
    refine Tj.iconst dX5_agrees_10 (by decide) rfl ?_
    refine Tj.istore dX5_agrees_11 (Nat.le_of_ble_eq_true rfl) rfl rfl ?_
    exact Tj.cut h ⟨rfl, ⟨rfl, ⟨rfl, ⟨rfl, ⟨rfl, trivial⟩⟩⟩⟩⟩
  · have h := h.2 c1
    refine Tj.iconst dX5_agrees_54 (by decide) rfl ?_
    exact Tj.zret dX5_agrees_55 rfl (by decide) h

theorem wX5_agrees_13 {m : tM} {P : Option tV → tM → Prop} {x3 : Int} {x4 : Int}  (h : (x4 < 4 → (Cli mX2_isCut [rV 4, iV x3, iV x4] m (fun r1 m1 => ((r1 = 0 → (Cli mX5_liesBeside [rV 115, rV 109, iV x3, iV x4] m1 (fun r2 m2 => ((r2 = 0 → (P (some (iV 0)) m2)) ∧ (¬ r2 = 0 → ((R32 (x4 + 1)) ∧ (Tj mX5_agrees 13 [some (rV 115), some (rV 109), some (rV 4), some (iV x3), some (iV (x4 + 1))] [] m2 P))))))) ∧ (¬ r1 = 0 → ((R32 (x4 + 1)) ∧ (Tj mX5_agrees 13 [some (rV 115), some (rV 109), some (rV 4), some (iV x3), some (iV (x4 + 1))] [] m1 P))))))) ∧ (¬ x4 < 4 → ((R32 (x3 + 1)) ∧ (Tj mX5_agrees 2 [some (rV 115), some (rV 109), some (rV 4), some (iV (x3 + 1))] [] m P)))) : Tj mX5_agrees 13 [some (rV 115), some (rV 109), some (rV 4), some (iV x3), some (iV x4)] [] m P := by
  refine Tj.iload dX5_agrees_13 rfl rfl ?_
  refine Tj.iconst dX5_agrees_15 (by decide) rfl ?_
  refine Tj.icmp_ge dX5_agrees_16 rfl rfl (fun c1 => ?_) (fun c1 => ?_)
  · have h := h.1 c1
    refine Tj.aload_n dX5_agrees_19 rfl rfl ?_
    refine Tj.iload_n dX5_agrees_20 rfl rfl ?_
    refine Tj.iload dX5_agrees_21 rfl rfl ?_
    refine Tj.callVi (as := [_, _]) (rest := []) dX5_agrees_23 ln_X5_68 sh_4 (by decide) rfl rfl (Nat.le_of_ble_eq_true rfl) ⟨Nat.le_of_ble_eq_true rfl, Nat.le_of_ble_eq_true rfl⟩ (Nat.le_of_ble_eq_true rfl) rfl ?_
    refine Cli.mono h (fun r1 m1 h => ?_)
    refine Tj.if_ne dX5_agrees_26 rfl rfl (fun c2 => ?_) (fun c2 => ?_)
    · have h := h.1 c2
      refine Tj.aload_n dX5_agrees_29 rfl rfl ?_
      refine Tj.aload_n dX5_agrees_30 rfl rfl ?_
      refine Tj.iload_n dX5_agrees_31 rfl rfl ?_
      refine Tj.iload dX5_agrees_32 rfl rfl ?_
      refine Tj.callVi (as := [_, _, _]) (rest := []) dX5_agrees_34 ln_X5_106 sh_115 (by decide) rfl rfl (Nat.le_of_ble_eq_true rfl) ⟨Nat.le_of_ble_eq_true rfl, Nat.le_of_ble_eq_true rfl⟩ (Nat.le_of_ble_eq_true rfl) rfl ?_
      refine Cli.mono h (fun r2 m2 h => ?_)
      refine Tj.if_ne dX5_agrees_37 rfl rfl (fun c3 => ?_) (fun c3 => ?_)
      · have h := h.1 c3
        refine Tj.iconst dX5_agrees_40 (by decide) rfl ?_
        exact Tj.zret dX5_agrees_41 rfl (by decide) h
      · have h := h.2 c3
        obtain ⟨o1, h⟩ := h
        refine Tj.iinc dX5_agrees_42 rfl (Nat.le_of_ble_eq_true rfl) rfl o1 rfl ?_
        refine Tj.goto dX5_agrees_45 rfl ?_
        exact Tj.cut h ⟨rfl, ⟨rfl, ⟨rfl, ⟨rfl, ⟨rfl, trivial⟩⟩⟩⟩⟩
    · have h := h.2 c2
      obtain ⟨o2, h⟩ := h
      refine Tj.iinc dX5_agrees_42 rfl (Nat.le_of_ble_eq_true rfl) rfl o2 rfl ?_
      refine Tj.goto dX5_agrees_45 rfl ?_
      exact Tj.cut h ⟨rfl, ⟨rfl, ⟨rfl, ⟨rfl, ⟨rfl, trivial⟩⟩⟩⟩⟩
  · have h := h.2 c1
    obtain ⟨o3, h⟩ := h
    refine Tj.iinc dX5_agrees_48 rfl (Nat.le_of_ble_eq_true rfl) rfl o3 rfl ?_
    refine Tj.goto dX5_agrees_51 rfl ?_
    exact Tj.cut h ⟨rfl, ⟨rfl, ⟨rfl, ⟨rfl, trivial⟩⟩⟩⟩

theorem wX5_liesBeside_0 {m : tM} {P : Option tV → tM → Prop} {x2 : Int} {x3 : Int}  (h : Cli mX9_squareAcross [rV 109, iV x2, iV x3] m (fun r1 m1 => ((0 ≤ x2 ∧ x2 < 60 ∧ R32 (x3 + (m1 118 x2)) ∧ 0 ≤ r1 ∧ r1 < 60) ∧ (Cli mX8_stepX [iV (bAnd (x3 + (m1 118 x2)) 3)] m1 (fun r2 m2 => ((R32 ((m1 116 x2) + r2)) ∧ (((m1 116 r1) = ((m1 116 x2) + r2) → (Cli mX8_stepY [iV (bAnd (x3 + (m1 118 x2)) 3)] m2 (fun r3 m3 => ((R32 ((m2 117 x2) + r3)) ∧ (((m2 117 r1) = ((m2 117 x2) + r3) → (Cli mX5_turnBeside [rV 115, rV 109, iV x2, iV x3] m3 (fun r4 m4 => (∀ v1 : Int, v1 = (if (m3 118 r1) = r4 then 1 else 0) → (P (some (iV v1)) m4))))) ∧ (¬ (m2 117 r1) = ((m2 117 x2) + r3) → (P (some (iV 0)) m3))))))) ∧ (¬ (m1 116 r1) = ((m1 116 x2) + r2) → (P (some (iV 0)) m2))))))))) : Tj mX5_liesBeside 0 [some (rV 115), some (rV 109), some (iV x2), some (iV x3)] [] m P := by
  refine Tj.aload_n dX5_liesBeside_0 rfl rfl ?_
  refine Tj.iload_n dX5_liesBeside_1 rfl rfl ?_
  refine Tj.iload_n dX5_liesBeside_2 rfl rfl ?_
  refine Tj.callVi (as := [_, _]) (rest := []) dX5_liesBeside_3 ln_X5_90 sh_109 (by decide) rfl rfl (Nat.le_of_ble_eq_true rfl) ⟨Nat.le_of_ble_eq_true rfl, Nat.le_of_ble_eq_true rfl⟩ (Nat.le_of_ble_eq_true rfl) rfl ?_
  refine Cli.mono h (fun r1 m1 h => ?_)
  obtain ⟨⟨o1, o2, o3, o4, o5⟩, h⟩ := h
  refine Tj.istore dX5_liesBeside_6 (Nat.le_of_ble_eq_true rfl) rfl rfl ?_
  refine Tj.iload_n dX5_liesBeside_8 rfl rfl ?_
  refine Tj.aload_n dX5_liesBeside_9 rfl rfl ?_
  refine Tj.getR (b := 118) dX5_liesBeside_10 fl_X5_18 sh_115 rfl rfl ?_
  refine Tj.iload_n dX5_liesBeside_13 rfl rfl ?_
  refine Tj.iald dX5_liesBeside_14 sh_118 o1 o2 rfl ?_
  refine Tj.iadd dX5_liesBeside_15 o3 rfl ?_
  refine Tj.iconst dX5_liesBeside_16 (by decide) rfl ?_
  refine Tj.iand dX5_liesBeside_17 rfl ?_
  refine Tj.istore dX5_liesBeside_18 (Nat.le_of_ble_eq_true rfl) rfl rfl ?_
  refine Tj.aload_n dX5_liesBeside_20 rfl rfl ?_
  refine Tj.getR (b := 116) dX5_liesBeside_21 fl_X5_9 sh_115 rfl rfl ?_
  refine Tj.iload dX5_liesBeside_24 rfl rfl ?_
  refine Tj.iald dX5_liesBeside_26 sh_116 o4 o5 rfl ?_
  refine Tj.aload_n dX5_liesBeside_27 rfl rfl ?_
  refine Tj.getR (b := 116) dX5_liesBeside_28 fl_X5_9 sh_115 rfl rfl ?_
  refine Tj.iload_n dX5_liesBeside_31 rfl rfl ?_
  refine Tj.iald dX5_liesBeside_32 sh_116 o1 o2 rfl ?_
  refine Tj.iload dX5_liesBeside_33 rfl rfl ?_
  refine Tj.callSi (as := [_]) (rest := [_, _]) dX5_liesBeside_35 ln_X5_93 rfl rfl (Nat.le_of_ble_eq_true rfl) ⟨Nat.le_of_ble_eq_true rfl, Nat.le_of_ble_eq_true rfl⟩ (Nat.le_of_ble_eq_true rfl) rfl ?_
  refine Cli.mono h (fun r2 m2 h => ?_)
  obtain ⟨o6, h⟩ := h
  refine Tj.iadd dX5_liesBeside_38 o6 rfl ?_
  refine Tj.icmp_ne dX5_liesBeside_39 rfl rfl (fun c1 => ?_) (fun c1 => ?_)
  · have h := h.1 c1
    refine Tj.aload_n dX5_liesBeside_42 rfl rfl ?_
    refine Tj.getR (b := 117) dX5_liesBeside_43 fl_X5_15 sh_115 rfl rfl ?_
    refine Tj.iload dX5_liesBeside_46 rfl rfl ?_
    refine Tj.iald dX5_liesBeside_48 sh_117 o4 o5 rfl ?_
    refine Tj.aload_n dX5_liesBeside_49 rfl rfl ?_
    refine Tj.getR (b := 117) dX5_liesBeside_50 fl_X5_15 sh_115 rfl rfl ?_
    refine Tj.iload_n dX5_liesBeside_53 rfl rfl ?_
    refine Tj.iald dX5_liesBeside_54 sh_117 o1 o2 rfl ?_
    refine Tj.iload dX5_liesBeside_55 rfl rfl ?_
    refine Tj.callSi (as := [_]) (rest := [_, _]) dX5_liesBeside_57 ln_X5_96 rfl rfl (Nat.le_of_ble_eq_true rfl) ⟨Nat.le_of_ble_eq_true rfl, Nat.le_of_ble_eq_true rfl⟩ (Nat.le_of_ble_eq_true rfl) rfl ?_
    refine Cli.mono h (fun r3 m3 h => ?_)
    obtain ⟨o7, h⟩ := h
    refine Tj.iadd dX5_liesBeside_60 o7 rfl ?_
    refine Tj.icmp_ne dX5_liesBeside_61 rfl rfl (fun c2 => ?_) (fun c2 => ?_)
    · have h := h.1 c2
      refine Tj.aload_n dX5_liesBeside_64 rfl rfl ?_
      refine Tj.getR (b := 118) dX5_liesBeside_65 fl_X5_18 sh_115 rfl rfl ?_
      refine Tj.iload dX5_liesBeside_68 rfl rfl ?_
      refine Tj.iald dX5_liesBeside_70 sh_118 o4 o5 rfl ?_
      refine Tj.aload_n dX5_liesBeside_71 rfl rfl ?_
      refine Tj.aload_n dX5_liesBeside_72 rfl rfl ?_
      refine Tj.iload_n dX5_liesBeside_73 rfl rfl ?_
      refine Tj.iload_n dX5_liesBeside_74 rfl rfl ?_
      refine Tj.callVi (as := [_, _, _]) (rest := [_]) dX5_liesBeside_75 ln_X5_99 sh_115 (by decide) rfl rfl (Nat.le_of_ble_eq_true rfl) ⟨Nat.le_of_ble_eq_true rfl, Nat.le_of_ble_eq_true rfl⟩ (Nat.le_of_ble_eq_true rfl) rfl ?_
      refine Cli.mono h (fun r4 m4 h => ?_)
      have hj : Tj mX5_liesBeside 86 [] [iV (if (m3 118 r1) = r4 then 1 else 0)] m4 P := by
        generalize hv1 : ((if (m3 118 r1) = r4 then 1 else 0) : Int) = v1
        have h := h v1 hv1.symm
        exact Tj.zret dX5_liesBeside_86 rfl (by rw [← hv1]; (repeat' split) <;> simp) h
      refine Tj.icmp_ne dX5_liesBeside_78 rfl rfl (fun c3 => ?_) (fun c3 => ?_)
      · refine Tj.iconst dX5_liesBeside_81 (by decide) rfl ?_
        refine Tj.goto dX5_liesBeside_82 rfl ?_
        try simp only [if_pos c3] at hj ⊢
        exact Tj.cut hj trivial
      · refine Tj.iconst dX5_liesBeside_85 (by decide) rfl ?_
        try simp only [if_neg c3] at hj ⊢
        exact Tj.cut hj trivial
    · have h := h.2 c2
      refine Tj.iconst dX5_liesBeside_85 (by decide) rfl ?_
      exact Tj.zret dX5_liesBeside_86 rfl (by decide) h
  · have h := h.2 c1
    refine Tj.iconst dX5_liesBeside_85 (by decide) rfl ?_
    exact Tj.zret dX5_liesBeside_86 rfl (by decide) h

theorem wX5_overlaps_0 {m : tM} {P : Option tV → tM → Prop}   (h : Tj mX5_overlaps 2 [some (rV 115), some (iV 0)] [] m P) : Tj mX5_overlaps 0 [some (rV 115)] [] m P := by
  refine Tj.iconst dX5_overlaps_0 (by decide) rfl ?_
  refine Tj.istore_n dX5_overlaps_1 (Nat.le_of_ble_eq_true rfl) rfl rfl ?_
  exact Tj.cut h ⟨rfl, ⟨rfl, trivial⟩⟩

theorem wX5_overlaps_2 {m : tM} {P : Option tV → tM → Prop} {x1 : Int}  (h : (x1 < (m 115 4) → (Tj mX5_overlaps 12 [some (rV 115), some (iV x1), some (iV 0)] [] m P)) ∧ (¬ x1 < (m 115 4) → (P (some (iV 0)) m))) : Tj mX5_overlaps 2 [some (rV 115), some (iV x1)] [] m P := by
  refine Tj.iload_n dX5_overlaps_2 rfl rfl ?_
  refine Tj.aload_n dX5_overlaps_3 rfl rfl ?_
  refine Tj.gI (j := 4) dX5_overlaps_4 fl_X5_24 sh_115 rfl rfl ?_
  refine Tj.icmp_ge dX5_overlaps_7 rfl rfl (fun c1 => ?_) (fun c1 => ?_)
  · have h := h.1 c1
    refine Tj.iconst dX5_overlaps_10 (by decide) rfl ?_
    refine Tj.istore_n dX5_overlaps_11 (Nat.le_of_ble_eq_true rfl) rfl rfl ?_
    exact Tj.cut h ⟨rfl, ⟨rfl, ⟨rfl, trivial⟩⟩⟩
  · have h := h.2 c1
    refine Tj.iconst dX5_overlaps_61 (by decide) rfl ?_
    exact Tj.zret dX5_overlaps_62 rfl (by decide) h

theorem wX5_overlaps_12 {m : tM} {P : Option tV → tM → Prop} {x1 : Int} {x2 : Int}  (h : (x2 < x1 → ((0 ≤ x1 ∧ x1 < 60 ∧ 0 ≤ x2 ∧ x2 < 60) ∧ (((m 116 x1) = (m 116 x2) → (((m 117 x1) = (m 117 x2) → (P (some (iV 1)) m)) ∧ (¬ (m 117 x1) = (m 117 x2) → ((R32 (x2 + 1)) ∧ (Tj mX5_overlaps 12 [some (rV 115), some (iV x1), some (iV (x2 + 1))] [] m P))))) ∧ (¬ (m 116 x1) = (m 116 x2) → ((R32 (x2 + 1)) ∧ (Tj mX5_overlaps 12 [some (rV 115), some (iV x1), some (iV (x2 + 1))] [] m P)))))) ∧ (¬ x2 < x1 → ((R32 (x1 + 1)) ∧ (Tj mX5_overlaps 2 [some (rV 115), some (iV (x1 + 1))] [] m P)))) : Tj mX5_overlaps 12 [some (rV 115), some (iV x1), some (iV x2)] [] m P := by
  refine Tj.iload_n dX5_overlaps_12 rfl rfl ?_
  refine Tj.iload_n dX5_overlaps_13 rfl rfl ?_
  refine Tj.icmp_ge dX5_overlaps_14 rfl rfl (fun c1 => ?_) (fun c1 => ?_)
  · have h := h.1 c1
    obtain ⟨⟨o1, o2, o3, o4⟩, h⟩ := h
    refine Tj.aload_n dX5_overlaps_17 rfl rfl ?_
    refine Tj.getR (b := 116) dX5_overlaps_18 fl_X5_9 sh_115 rfl rfl ?_
    refine Tj.iload_n dX5_overlaps_21 rfl rfl ?_
    refine Tj.iald dX5_overlaps_22 sh_116 o1 o2 rfl ?_
    refine Tj.aload_n dX5_overlaps_23 rfl rfl ?_
    refine Tj.getR (b := 116) dX5_overlaps_24 fl_X5_9 sh_115 rfl rfl ?_
    refine Tj.iload_n dX5_overlaps_27 rfl rfl ?_
    refine Tj.iald dX5_overlaps_28 sh_116 o3 o4 rfl ?_
    refine Tj.icmp_ne dX5_overlaps_29 rfl rfl (fun c2 => ?_) (fun c2 => ?_)
    · have h := h.1 c2
      refine Tj.aload_n dX5_overlaps_32 rfl rfl ?_
      refine Tj.getR (b := 117) dX5_overlaps_33 fl_X5_15 sh_115 rfl rfl ?_
      refine Tj.iload_n dX5_overlaps_36 rfl rfl ?_
      refine Tj.iald dX5_overlaps_37 sh_117 o1 o2 rfl ?_
      refine Tj.aload_n dX5_overlaps_38 rfl rfl ?_
      refine Tj.getR (b := 117) dX5_overlaps_39 fl_X5_15 sh_115 rfl rfl ?_
      refine Tj.iload_n dX5_overlaps_42 rfl rfl ?_
      refine Tj.iald dX5_overlaps_43 sh_117 o3 o4 rfl ?_
      refine Tj.icmp_ne dX5_overlaps_44 rfl rfl (fun c3 => ?_) (fun c3 => ?_)
      · have h := h.1 c3
        refine Tj.iconst dX5_overlaps_47 (by decide) rfl ?_
        exact Tj.zret dX5_overlaps_48 rfl (by decide) h
      · have h := h.2 c3
        obtain ⟨o5, h⟩ := h
        refine Tj.iinc dX5_overlaps_49 rfl (Nat.le_of_ble_eq_true rfl) rfl o5 rfl ?_
        refine Tj.goto dX5_overlaps_52 rfl ?_
        exact Tj.cut h ⟨rfl, ⟨rfl, ⟨rfl, trivial⟩⟩⟩
    · have h := h.2 c2
      obtain ⟨o6, h⟩ := h
      refine Tj.iinc dX5_overlaps_49 rfl (Nat.le_of_ble_eq_true rfl) rfl o6 rfl ?_
      refine Tj.goto dX5_overlaps_52 rfl ?_
      exact Tj.cut h ⟨rfl, ⟨rfl, ⟨rfl, trivial⟩⟩⟩
  · have h := h.2 c1
    obtain ⟨o7, h⟩ := h
    refine Tj.iinc dX5_overlaps_55 rfl (Nat.le_of_ble_eq_true rfl) rfl o7 rfl ?_
    refine Tj.goto dX5_overlaps_58 rfl ?_
    exact Tj.cut h ⟨rfl, ⟨rfl, trivial⟩⟩

theorem wX9_take_0 {m : tM} {P : Option tV → tM → Prop}   (h : Cll mX1_cells [rV 2] m (fun r1 m1 => (((lcI r1 (Int64.ofInt (m1 109 5))) = 0 → (P none m1)) ∧ (¬ (lcI r1 (Int64.ofInt (m1 109 5))) = 0 → (Cll mX1_cells [rV 2] m1 (fun r2 m2 => (Cli mX1_faultOf [lV (Int64.ofInt (Int64.toInt r2))] (up m2 109 5 (Int64.toInt r2)) (fun r3 m3 => (Clv mX9_numberSquares [rV 109] (up m3 109 7 r3) (fun m4 => (Tj mX9_take 38 [some (rV 109), none, some (iV 0)] [] m4 P))))))))))) : Tj mX9_take 0 [some (rV 109), some (rV 2)] [] m P := by
  refine Tj.aload_n dX9_take_0 rfl rfl ?_
  refine Tj.callVl (as := []) (rest := []) dX9_take_1 ln_X9_42 sh_2 (by decide) rfl rfl (Nat.le_of_ble_eq_true rfl) ⟨Nat.le_of_ble_eq_true rfl, Nat.le_of_ble_eq_true rfl⟩ (Nat.le_of_ble_eq_true rfl) rfl ?_
  refine Cll.mono h (fun r1 m1 h => ?_)
  refine Tj.aload_n dX9_take_4 rfl rfl ?_
  refine Tj.gJ (j := 5) dX9_take_5 fl_X9_27 sh_109 rfl rfl ?_
  refine Tj.lcmp dX9_take_8 rfl ?_
  refine Tj.if_ne dX9_take_9 rfl rfl (fun c1 => ?_) (fun c1 => ?_)
  · have h := h.1 c1
    exact Tj.vret dX9_take_12 rfl h
  · have h := h.2 c1
    refine Tj.aload_n dX9_take_13 rfl rfl ?_
    refine Tj.aload_n dX9_take_14 rfl rfl ?_
    refine Tj.callVl (as := []) (rest := [_]) dX9_take_15 ln_X9_42 sh_2 (by decide) rfl rfl (Nat.le_of_ble_eq_true rfl) ⟨Nat.le_of_ble_eq_true rfl, Nat.le_of_ble_eq_true rfl⟩ (Nat.le_of_ble_eq_true rfl) rfl ?_
    refine Cll.mono h (fun r2 m2 h => ?_)
    refine Tj.pJ (j := 5) dX9_take_18 fp_X9_27 sh_109 rfl (by decide +kernel) rfl ?_
    refine Tj.aload_n dX9_take_21 rfl rfl ?_
    refine Tj.aload_n dX9_take_22 rfl rfl ?_
    refine Tj.gJ (j := 5) dX9_take_23 fl_X9_27 sh_109 rfl rfl ?_
    refine Tj.callSi (as := [_]) (rest := [_]) dX9_take_26 ln_X9_35 rfl rfl (Nat.le_of_ble_eq_true rfl) ⟨Nat.le_of_ble_eq_true rfl, Nat.le_of_ble_eq_true rfl⟩ (Nat.le_of_ble_eq_true rfl) rfl ?_
    refine Cli.mono h (fun r3 m3 h => ?_)
    refine Tj.pI (j := 7) dX9_take_29 fp_X9_39 sh_109 rfl rfl ?_
    refine Tj.aload_n dX9_take_32 rfl rfl ?_
    refine Tj.callVv (as := []) (rest := []) dX9_take_33 ln_X9_45 sh_109 (by decide) rfl rfl (Nat.le_of_ble_eq_true rfl) ⟨Nat.le_of_ble_eq_true rfl, Nat.le_of_ble_eq_true rfl⟩ (Nat.le_of_ble_eq_true rfl) rfl ?_
    refine Clv.mono h (fun m4 h => ?_)
    refine Tj.iconst dX9_take_36 (by decide) rfl ?_
    refine Tj.istore_n dX9_take_37 (Nat.le_of_ble_eq_true rfl) rfl rfl ?_
    exact Tj.cut h ⟨rfl, ⟨rfl, trivial⟩⟩

theorem wX9_take_38 {m : tM} {P : Option tV → tM → Prop} {x2 : Int}  (h : (x2 < (m 109 6) → (Tj mX9_take 48 [some (rV 109), none, some (iV x2), some (iV 0)] [] m P)) ∧ (¬ x2 < (m 109 6) → (P none m))) : Tj mX9_take 38 [some (rV 109), none, some (iV x2)] [] m P := by
  refine Tj.iload_n dX9_take_38 rfl rfl ?_
  refine Tj.aload_n dX9_take_39 rfl rfl ?_
  refine Tj.gI (j := 6) dX9_take_40 fl_X9_31 sh_109 rfl rfl ?_
  refine Tj.icmp_ge dX9_take_43 rfl rfl (fun c1 => ?_) (fun c1 => ?_)
  · have h := h.1 c1
    refine Tj.iconst dX9_take_46 (by decide) rfl ?_
    refine Tj.istore_n dX9_take_47 (Nat.le_of_ble_eq_true rfl) rfl rfl ?_
    exact Tj.cut h ⟨rfl, ⟨rfl, ⟨rfl, trivial⟩⟩⟩
  · have h := h.2 c1
    exact Tj.vret dX9_take_71 rfl h

theorem wX9_take_48 {m : tM} {P : Option tV → tM → Prop} {x2 : Int} {x3 : Int}  (h : (x3 < 4 → (Clv mX9_lead [rV 109, iV x2, iV x3] m (fun m1 => ((R32 (x3 + 1)) ∧ (Tj mX9_take 48 [some (rV 109), none, some (iV x2), some (iV (x3 + 1))] [] m1 P))))) ∧ (¬ x3 < 4 → ((R32 (x2 + 1)) ∧ (Tj mX9_take 38 [some (rV 109), none, some (iV (x2 + 1))] [] m P)))) : Tj mX9_take 48 [some (rV 109), none, some (iV x2), some (iV x3)] [] m P := by
  refine Tj.iload_n dX9_take_48 rfl rfl ?_
  refine Tj.iconst dX9_take_49 (by decide) rfl ?_
  refine Tj.icmp_ge dX9_take_50 rfl rfl (fun c1 => ?_) (fun c1 => ?_)
  · have h := h.1 c1
    refine Tj.aload_n dX9_take_53 rfl rfl ?_
    refine Tj.iload_n dX9_take_54 rfl rfl ?_
    refine Tj.iload_n dX9_take_55 rfl rfl ?_
    refine Tj.callVv (as := [_, _]) (rest := []) dX9_take_56 ln_X9_48 sh_109 (by decide) rfl rfl (Nat.le_of_ble_eq_true rfl) ⟨Nat.le_of_ble_eq_true rfl, Nat.le_of_ble_eq_true rfl⟩ (Nat.le_of_ble_eq_true rfl) rfl ?_
    refine Clv.mono h (fun m1 h => ?_)
    obtain ⟨o1, h⟩ := h
    refine Tj.iinc dX9_take_59 rfl (Nat.le_of_ble_eq_true rfl) rfl o1 rfl ?_
    refine Tj.goto dX9_take_62 rfl ?_
    exact Tj.cut h ⟨rfl, ⟨rfl, ⟨rfl, trivial⟩⟩⟩
  · have h := h.2 c1
    obtain ⟨o2, h⟩ := h
    refine Tj.iinc dX9_take_65 rfl (Nat.le_of_ble_eq_true rfl) rfl o2 rfl ?_
    refine Tj.goto dX9_take_68 rfl ?_
    exact Tj.cut h ⟨rfl, ⟨rfl, trivial⟩⟩

theorem wX9_fault_0 {m : tM} {P : Option tV → tM → Prop}   (h : P (some (iV (m 109 7))) m) : Tj mX9_fault 0 [some (rV 109)] [] m P := by
  refine Tj.aload_n dX9_fault_0 rfl rfl ?_
  refine Tj.gI (j := 7) dX9_fault_1 fl_X9_39 sh_109 rfl rfl ?_
  exact Tj.iret dX9_fault_4 rfl h

theorem wX9_size_0 {m : tM} {P : Option tV → tM → Prop}   (h : P (some (iV (m 109 6))) m) : Tj mX9_size 0 [some (rV 109)] [] m P := by
  refine Tj.aload_n dX9_size_0 rfl rfl ?_
  refine Tj.gI (j := 6) dX9_size_1 fl_X9_31 sh_109 rfl rfl ?_
  exact Tj.iret dX9_size_4 rfl h

theorem wX9_placeOf_0 {m : tM} {P : Option tV → tM → Prop} {x1 : Int}  (h : (0 ≤ x1 ∧ x1 < 240) ∧ (P (some (iV (m 110 x1))) m)) : Tj mX9_placeOf 0 [some (rV 109), some (iV x1)] [] m P := by
  obtain ⟨⟨o1, o2⟩, h⟩ := h
  refine Tj.aload_n dX9_placeOf_0 rfl rfl ?_
  refine Tj.getR (b := 110) dX9_placeOf_1 fl_X9_9 sh_109 rfl rfl ?_
  refine Tj.iload_n dX9_placeOf_4 rfl rfl ?_
  refine Tj.iald dX9_placeOf_5 sh_110 o1 o2 rfl ?_
  exact Tj.iret dX9_placeOf_6 rfl h

theorem wX9_directionOf_0 {m : tM} {P : Option tV → tM → Prop} {x1 : Int}  (h : (0 ≤ x1 ∧ x1 < 240) ∧ (P (some (iV (m 111 x1))) m)) : Tj mX9_directionOf 0 [some (rV 109), some (iV x1)] [] m P := by
  obtain ⟨⟨o1, o2⟩, h⟩ := h
  refine Tj.aload_n dX9_directionOf_0 rfl rfl ?_
  refine Tj.getR (b := 111) dX9_directionOf_1 fl_X9_13 sh_109 rfl rfl ?_
  refine Tj.iload_n dX9_directionOf_4 rfl rfl ?_
  refine Tj.iald dX9_directionOf_5 sh_111 o1 o2 rfl ?_
  exact Tj.iret dX9_directionOf_6 rfl h

theorem wX9_squareAcross_0 {m : tM} {P : Option tV → tM → Prop} {x1 : Int} {x2 : Int}  (h : (R32 (4 * x1) ∧ R32 ((4 * x1) + x2) ∧ 0 ≤ ((4 * x1) + x2) ∧ ((4 * x1) + x2) < 960) ∧ (P (some (iV (bShr (m 113 ((4 * x1) + x2)) 2))) m)) : Tj mX9_squareAcross 0 [some (rV 109), some (iV x1), some (iV x2)] [] m P := by
  obtain ⟨⟨o1, o2, o3, o4⟩, h⟩ := h
  refine Tj.aload_n dX9_squareAcross_0 rfl rfl ?_
  refine Tj.getR (b := 113) dX9_squareAcross_1 fl_X9_21 sh_109 rfl rfl ?_
  refine Tj.iconst dX9_squareAcross_4 (by decide) rfl ?_
  refine Tj.iload_n dX9_squareAcross_5 rfl rfl ?_
  refine Tj.imul dX9_squareAcross_6 o1 rfl ?_
  refine Tj.iload_n dX9_squareAcross_7 rfl rfl ?_
  refine Tj.iadd dX9_squareAcross_8 o2 rfl ?_
  refine Tj.iald dX9_squareAcross_9 sh_113 o3 o4 rfl ?_
  refine Tj.iconst dX9_squareAcross_10 (by decide) rfl ?_
  refine Tj.ishr dX9_squareAcross_11 rfl ?_
  exact Tj.iret dX9_squareAcross_12 rfl h

theorem wX9_sideAcross_0 {m : tM} {P : Option tV → tM → Prop} {x1 : Int} {x2 : Int}  (h : (R32 (4 * x1) ∧ R32 ((4 * x1) + x2) ∧ 0 ≤ ((4 * x1) + x2) ∧ ((4 * x1) + x2) < 960) ∧ (P (some (iV (bAnd (m 113 ((4 * x1) + x2)) 3))) m)) : Tj mX9_sideAcross 0 [some (rV 109), some (iV x1), some (iV x2)] [] m P := by
  obtain ⟨⟨o1, o2, o3, o4⟩, h⟩ := h
  refine Tj.aload_n dX9_sideAcross_0 rfl rfl ?_
  refine Tj.getR (b := 113) dX9_sideAcross_1 fl_X9_21 sh_109 rfl rfl ?_
  refine Tj.iconst dX9_sideAcross_4 (by decide) rfl ?_
  refine Tj.iload_n dX9_sideAcross_5 rfl rfl ?_
  refine Tj.imul dX9_sideAcross_6 o1 rfl ?_
  refine Tj.iload_n dX9_sideAcross_7 rfl rfl ?_
  refine Tj.iadd dX9_sideAcross_8 o2 rfl ?_
  refine Tj.iald dX9_sideAcross_9 sh_113 o3 o4 rfl ?_
  refine Tj.iconst dX9_sideAcross_10 (by decide) rfl ?_
  refine Tj.iand dX9_sideAcross_11 rfl ?_
  exact Tj.iret dX9_sideAcross_12 rfl h

theorem wX9_bendAcross_0 {m : tM} {P : Option tV → tM → Prop} {x1 : Int} {x2 : Int}  (h : (R32 (4 * x1) ∧ R32 ((4 * x1) + x2) ∧ 0 ≤ ((4 * x1) + x2) ∧ ((4 * x1) + x2) < 960) ∧ (P (some (iV (m 114 ((4 * x1) + x2)))) m)) : Tj mX9_bendAcross 0 [some (rV 109), some (iV x1), some (iV x2)] [] m P := by
  obtain ⟨⟨o1, o2, o3, o4⟩, h⟩ := h
  refine Tj.aload_n dX9_bendAcross_0 rfl rfl ?_
  refine Tj.getR (b := 114) dX9_bendAcross_1 fl_X9_24 sh_109 rfl rfl ?_
  refine Tj.iconst dX9_bendAcross_4 (by decide) rfl ?_
  refine Tj.iload_n dX9_bendAcross_5 rfl rfl ?_
  refine Tj.imul dX9_bendAcross_6 o1 rfl ?_
  refine Tj.iload_n dX9_bendAcross_7 rfl rfl ?_
  refine Tj.iadd dX9_bendAcross_8 o2 rfl ?_
  refine Tj.iald dX9_bendAcross_9 sh_114 o3 o4 rfl ?_
  exact Tj.iret dX9_bendAcross_10 rfl h

theorem wX9_numberSquares_0 {m : tM} {P : Option tV → tM → Prop}   (h : Tj mX9_numberSquares 7 [some (rV 109), some (iV 0)] [] (up m 109 6 0) P) : Tj mX9_numberSquares 0 [some (rV 109)] [] m P := by
  refine Tj.aload_n dX9_numberSquares_0 rfl rfl ?_
  refine Tj.iconst dX9_numberSquares_1 (by decide) rfl ?_
  refine Tj.pI (j := 6) dX9_numberSquares_2 fp_X9_31 sh_109 rfl rfl ?_
  refine Tj.iconst dX9_numberSquares_5 (by decide) rfl ?_
  refine Tj.istore_n dX9_numberSquares_6 (Nat.le_of_ble_eq_true rfl) rfl rfl ?_
  exact Tj.cut h ⟨rfl, ⟨rfl, trivial⟩⟩

theorem wX9_numberSquares_7 {m : tM} {P : Option tV → tM → Prop} {x1 : Int}  (h : (x1 < 64 → (Tj mX9_numberSquares 15 [some (rV 109), some (iV x1), some (iV 0)] [] m P)) ∧ (¬ x1 < 64 → (P none m))) : Tj mX9_numberSquares 7 [some (rV 109), some (iV x1)] [] m P := by
  refine Tj.iload_n dX9_numberSquares_7 rfl rfl ?_
  refine Tj.bipush dX9_numberSquares_8 (by decide) (by decide +kernel) rfl ?_
  refine Tj.icmp_ge dX9_numberSquares_10 rfl rfl (fun c1 => ?_) (fun c1 => ?_)
  · have h := h.1 c1
    refine Tj.iconst dX9_numberSquares_13 (by decide) rfl ?_
    refine Tj.istore_n dX9_numberSquares_14 (Nat.le_of_ble_eq_true rfl) rfl rfl ?_
    exact Tj.cut h ⟨rfl, ⟨rfl, ⟨rfl, trivial⟩⟩⟩
  · have h := h.2 c1
    exact Tj.vret dX9_numberSquares_124 rfl h

theorem wX9_numberSquares_15 {m : tM} {P : Option tV → tM → Prop} {x1 : Int} {x2 : Int}  (h : (x2 < 6 → (Cli mX1_has [lV (Int64.ofInt (m 109 5)), iV x1] m (fun r1 m1 => ((r1 = 0 → ((R32 (x2 + 1)) ∧ (Tj mX9_numberSquares 15 [some (rV 109), some (iV x1), some (iV (x2 + 1))] [] m1 P))) ∧ (¬ r1 = 0 → (Cli mX1_beyond [iV x1, iV x2] m1 (fun r2 m2 => (Cli mX1_has [lV (Int64.ofInt (m1 109 5)), iV r2] m2 (fun r3 m3 => (∀ v1 : Int, v1 = (if r3 = 0 then 1 else 0) → ((v1 = 0 → ((R32 (x2 + 1)) ∧ (Tj mX9_numberSquares 15 [some (rV 109), some (iV x1), some (iV (x2 + 1))] [] m3 P))) ∧ (¬ v1 = 0 → (((m3 109 6) < 240 → ((R32 (6 * x1) ∧ R32 ((6 * x1) + x2) ∧ 0 ≤ ((6 * x1) + x2) ∧ ((6 * x1) + x2) < 384 ∧ 0 ≤ (m3 109 6) ∧ (m3 109 6) < 240 ∧ R32 ((m3 109 6) + 1) ∧ R32 (x2 + 1)) ∧ (Tj mX9_numberSquares 15 [some (rV 109), some (iV x1), some (iV (x2 + 1))] [] (up (up (up (up m3 112 ((6 * x1) + x2) (m3 109 6)) 110 (m3 109 6) x1) 111 (m3 109 6) x2) 109 6 ((m3 109 6) + 1)) P))) ∧ (¬ (m3 109 6) < 240 → ((R32 (x2 + 1)) ∧ (Tj mX9_numberSquares 15 [some (rV 109), some (iV x1), some (iV (x2 + 1))] [] m3 P)))))))))))))))) ∧ (¬ x2 < 6 → ((R32 (x1 + 1)) ∧ (Tj mX9_numberSquares 7 [some (rV 109), some (iV (x1 + 1))] [] m P)))) : Tj mX9_numberSquares 15 [some (rV 109), some (iV x1), some (iV x2)] [] m P := by
  refine Tj.iload_n dX9_numberSquares_15 rfl rfl ?_
  refine Tj.bipush dX9_numberSquares_16 (by decide) (by decide +kernel) rfl ?_
  refine Tj.icmp_ge dX9_numberSquares_18 rfl rfl (fun c1 => ?_) (fun c1 => ?_)
  · have h := h.1 c1
    refine Tj.aload_n dX9_numberSquares_21 rfl rfl ?_
    refine Tj.gJ (j := 5) dX9_numberSquares_22 fl_X9_27 sh_109 rfl rfl ?_
    refine Tj.iload_n dX9_numberSquares_25 rfl rfl ?_
    refine Tj.callSi (as := [_, _]) (rest := []) dX9_numberSquares_26 ln_X9_52 rfl rfl (Nat.le_of_ble_eq_true rfl) ⟨Nat.le_of_ble_eq_true rfl, Nat.le_of_ble_eq_true rfl⟩ (Nat.le_of_ble_eq_true rfl) rfl ?_
    refine Cli.mono h (fun r1 m1 h => ?_)
    refine Tj.if_eq dX9_numberSquares_29 rfl rfl (fun c2 => ?_) (fun c2 => ?_)
    · have h := h.1 c2
      obtain ⟨o1, h⟩ := h
      refine Tj.iconst dX9_numberSquares_51 (by decide) rfl ?_
      refine Tj.istore_n dX9_numberSquares_52 (Nat.le_of_ble_eq_true rfl) rfl rfl ?_
      refine Tj.iload_n dX9_numberSquares_53 rfl rfl ?_
      refine Tj.if_eq dX9_numberSquares_54 rfl rfl (fun c3 => ?_) (fun c3 => ?_)
      case refine_2 => exact absurd (by decide) c3
      refine Tj.iinc dX9_numberSquares_112 rfl (Nat.le_of_ble_eq_true rfl) rfl o1 rfl ?_
      refine Tj.goto dX9_numberSquares_115 rfl ?_
      exact Tj.cut h ⟨rfl, ⟨rfl, ⟨rfl, trivial⟩⟩⟩
    · have h := h.2 c2
      refine Tj.aload_n dX9_numberSquares_32 rfl rfl ?_
      refine Tj.gJ (j := 5) dX9_numberSquares_33 fl_X9_27 sh_109 rfl rfl ?_
      refine Tj.iload_n dX9_numberSquares_36 rfl rfl ?_
      refine Tj.iload_n dX9_numberSquares_37 rfl rfl ?_
      refine Tj.callSi (as := [_, _]) (rest := [_]) dX9_numberSquares_38 ln_X9_56 rfl rfl (Nat.le_of_ble_eq_true rfl) ⟨Nat.le_of_ble_eq_true rfl, Nat.le_of_ble_eq_true rfl⟩ (Nat.le_of_ble_eq_true rfl) rfl ?_
      refine Cli.mono h (fun r2 m2 h => ?_)
      refine Tj.callSi (as := [_, _]) (rest := []) dX9_numberSquares_41 ln_X9_52 rfl rfl (Nat.le_of_ble_eq_true rfl) ⟨Nat.le_of_ble_eq_true rfl, Nat.le_of_ble_eq_true rfl⟩ (Nat.le_of_ble_eq_true rfl) rfl ?_
      refine Cli.mono h (fun r3 m3 h => ?_)
      have hj : Tj mX9_numberSquares 52 [some (rV 109), some (iV x1), some (iV x2)] [iV (if r3 = 0 then 1 else 0)] m3 P := by
        generalize hv1 : ((if r3 = 0 then 1 else 0) : Int) = v1
        have h := h v1 hv1.symm
        refine Tj.istore_n dX9_numberSquares_52 (Nat.le_of_ble_eq_true rfl) rfl rfl ?_
        refine Tj.iload_n dX9_numberSquares_53 rfl rfl ?_
        refine Tj.if_eq dX9_numberSquares_54 rfl rfl (fun c5 => ?_) (fun c5 => ?_)
        · have h := h.1 c5
          obtain ⟨o2, h⟩ := h
          refine Tj.iinc dX9_numberSquares_112 rfl (Nat.le_of_ble_eq_true rfl) rfl o2 rfl ?_
          refine Tj.goto dX9_numberSquares_115 rfl ?_
          exact Tj.cut h ⟨rfl, ⟨rfl, ⟨rfl, trivial⟩⟩⟩
        · have h := h.2 c5
          refine Tj.aload_n dX9_numberSquares_57 rfl rfl ?_
          refine Tj.gI (j := 6) dX9_numberSquares_58 fl_X9_31 sh_109 rfl rfl ?_
          refine Tj.sipush dX9_numberSquares_61 (by decide) (by decide +kernel) rfl ?_
          refine Tj.icmp_ge dX9_numberSquares_64 rfl rfl (fun c6 => ?_) (fun c6 => ?_)
          · have h := h.1 c6
            obtain ⟨⟨o3, o4, o5, o6, o7, o8, o9, o10⟩, h⟩ := h
            refine Tj.aload_n dX9_numberSquares_67 rfl rfl ?_
            refine Tj.getR (b := 112) dX9_numberSquares_68 fl_X9_18 sh_109 rfl rfl ?_
            refine Tj.bipush dX9_numberSquares_71 (by decide) (by decide +kernel) rfl ?_
            refine Tj.iload_n dX9_numberSquares_73 rfl rfl ?_
            refine Tj.imul dX9_numberSquares_74 o3 rfl ?_
            refine Tj.iload_n dX9_numberSquares_75 rfl rfl ?_
            refine Tj.iadd dX9_numberSquares_76 o4 rfl ?_
            refine Tj.aload_n dX9_numberSquares_77 rfl rfl ?_
            refine Tj.gI (j := 6) dX9_numberSquares_78 fl_X9_31 sh_109 rfl rfl ?_
            refine Tj.iast dX9_numberSquares_81 sh_112 o5 o6 rfl ?_
            refine Tj.aload_n dX9_numberSquares_82 rfl rfl ?_
            refine Tj.getR (b := 110) dX9_numberSquares_83 fl_X9_9 sh_109 rfl rfl ?_
            refine Tj.aload_n dX9_numberSquares_86 rfl rfl ?_
            refine Tj.gI (j := 6) dX9_numberSquares_87 fl_X9_31 sh_109 rfl rfl ?_
            refine Tj.iload_n dX9_numberSquares_90 rfl rfl ?_
            refine Tj.iast dX9_numberSquares_91 sh_110 o7 o8 rfl ?_
            refine Tj.aload_n dX9_numberSquares_92 rfl rfl ?_
            refine Tj.getR (b := 111) dX9_numberSquares_93 fl_X9_13 sh_109 rfl rfl ?_
            refine Tj.aload_n dX9_numberSquares_96 rfl rfl ?_
            refine Tj.gI (j := 6) dX9_numberSquares_97 fl_X9_31 sh_109 rfl rfl ?_
            refine Tj.iload_n dX9_numberSquares_100 rfl rfl ?_
            refine Tj.iast dX9_numberSquares_101 sh_111 o7 o8 rfl ?_
            refine Tj.aload_n dX9_numberSquares_102 rfl rfl ?_
            refine Tj.dup dX9_numberSquares_103 rfl rfl ?_
            refine Tj.gI (j := 6) dX9_numberSquares_104 fl_X9_31 sh_109 rfl rfl ?_
            refine Tj.iconst dX9_numberSquares_107 (by decide) rfl ?_
            refine Tj.iadd dX9_numberSquares_108 o9 rfl ?_
            refine Tj.pI (j := 6) dX9_numberSquares_109 fp_X9_31 sh_109 rfl rfl ?_
            refine Tj.iinc dX9_numberSquares_112 rfl (Nat.le_of_ble_eq_true rfl) rfl o10 rfl ?_
            refine Tj.goto dX9_numberSquares_115 rfl ?_
            exact Tj.cut h ⟨rfl, ⟨rfl, ⟨rfl, trivial⟩⟩⟩
          · have h := h.2 c6
            obtain ⟨o11, h⟩ := h
            refine Tj.iinc dX9_numberSquares_112 rfl (Nat.le_of_ble_eq_true rfl) rfl o11 rfl ?_
            refine Tj.goto dX9_numberSquares_115 rfl ?_
            exact Tj.cut h ⟨rfl, ⟨rfl, ⟨rfl, trivial⟩⟩⟩
      refine Tj.if_ne dX9_numberSquares_44 rfl rfl (fun c4 => ?_) (fun c4 => ?_)
      · refine Tj.iconst dX9_numberSquares_47 (by decide) rfl ?_
        refine Tj.goto dX9_numberSquares_48 rfl ?_
        try simp only [if_pos c4] at hj ⊢
        exact Tj.cut hj ⟨rfl, ⟨rfl, ⟨rfl, trivial⟩⟩⟩
      · refine Tj.iconst dX9_numberSquares_51 (by decide) rfl ?_
        try simp only [if_neg c4] at hj ⊢
        exact Tj.cut hj ⟨rfl, ⟨rfl, ⟨rfl, trivial⟩⟩⟩
  · have h := h.2 c1
    obtain ⟨o12, h⟩ := h
    refine Tj.iinc dX9_numberSquares_118 rfl (Nat.le_of_ble_eq_true rfl) rfl o12 rfl ?_
    refine Tj.goto dX9_numberSquares_121 rfl ?_
    exact Tj.cut h ⟨rfl, ⟨rfl, trivial⟩⟩

theorem wX9_lead_0 {m : tM} {P : Option tV → tM → Prop} {x1 : Int} {x2 : Int}  (h : (0 ≤ x1 ∧ x1 < 240 ∧ R32 (4 * (m 111 x1)) ∧ R32 ((4 * (m 111 x1)) + x2) ∧ 0 ≤ ((4 * (m 111 x1)) + x2) ∧ ((4 * (m 111 x1)) + x2) < 24) ∧ (Cli mX1_beyond [iV (m 110 x1), iV (stI 1001 ((4 * (m 111 x1)) + x2))] m (fun r1 m1 => (Cli mX1_beyond [iV r1, iV (m 111 x1)] m1 (fun r2 m2 => (Cli mX1_has [lV (Int64.ofInt (m2 109 5)), iV r2] m2 (fun r3 m3 => ((r3 = 0 → (Cli mX1_has [lV (Int64.ofInt (m3 109 5)), iV r1] m3 (fun r4 m4 => ((r4 = 0 → (Clv mX9_note [rV 109, iV x1, iV x2, iV 1, iV (m 110 x1), iV (stI 1001 ((4 * (m 111 x1)) + x2)), iV (m 111 x1)] m4 (fun m5 => (P none m5)))) ∧ (¬ r4 = 0 → (Cli mX1_against [iV (stI 1001 ((4 * (m 111 x1)) + x2))] m4 (fun r5 m6 => (Clv mX9_note [rV 109, iV x1, iV x2, iV 0, iV r1, iV (m 111 x1), iV r5] m6 (fun m7 => (P none m7)))))))))) ∧ (¬ r3 = 0 → (Cli mX1_against [iV (stI 1001 ((4 * (m 111 x1)) + x2))] m3 (fun r6 m8 => (Cli mX1_against [iV (m 111 x1)] m8 (fun r7 m9 => (Clv mX9_note [rV 109, iV x1, iV x2, iV (-1), iV r2, iV r6, iV r7] m9 (fun m10 => (P none m10)))))))))))))))) : Tj mX9_lead 0 [some (rV 109), some (iV x1), some (iV x2)] [] m P := by
  obtain ⟨⟨o1, o2, o3, o4, o5, o6⟩, h⟩ := h
  refine Tj.aload_n dX9_lead_0 rfl rfl ?_
  refine Tj.getR (b := 110) dX9_lead_1 fl_X9_9 sh_109 rfl rfl ?_
  refine Tj.iload_n dX9_lead_4 rfl rfl ?_
  refine Tj.iald dX9_lead_5 sh_110 o1 o2 rfl ?_
  refine Tj.istore_n dX9_lead_6 (Nat.le_of_ble_eq_true rfl) rfl rfl ?_
  refine Tj.aload_n dX9_lead_7 rfl rfl ?_
  refine Tj.getR (b := 111) dX9_lead_8 fl_X9_13 sh_109 rfl rfl ?_
  refine Tj.iload_n dX9_lead_11 rfl rfl ?_
  refine Tj.iald dX9_lead_12 sh_111 o1 o2 rfl ?_
  refine Tj.istore dX9_lead_13 (Nat.le_of_ble_eq_true rfl) rfl rfl ?_
  refine Tj.gets dX9_lead_15 fs_X9_60 tW_1 rfl ?_
  refine Tj.iconst dX9_lead_18 (by decide) rfl ?_
  refine Tj.iload dX9_lead_19 rfl rfl ?_
  refine Tj.imul dX9_lead_21 o3 rfl ?_
  refine Tj.iload_n dX9_lead_22 rfl rfl ?_
  refine Tj.iadd dX9_lead_23 o4 rfl ?_
  refine Tj.sald dX9_lead_24 tW_1 o5 o6 rfl ?_
  refine Tj.istore dX9_lead_25 (Nat.le_of_ble_eq_true rfl) rfl rfl ?_
  refine Tj.iload_n dX9_lead_27 rfl rfl ?_
  refine Tj.iload dX9_lead_28 rfl rfl ?_
  refine Tj.callSi (as := [_, _]) (rest := []) dX9_lead_30 ln_X9_56 rfl rfl (Nat.le_of_ble_eq_true rfl) ⟨Nat.le_of_ble_eq_true rfl, Nat.le_of_ble_eq_true rfl⟩ (Nat.le_of_ble_eq_true rfl) rfl ?_
  refine Cli.mono h (fun r1 m1 h => ?_)
  refine Tj.istore dX9_lead_33 (Nat.le_of_ble_eq_true rfl) rfl rfl ?_
  refine Tj.iload dX9_lead_35 rfl rfl ?_
  refine Tj.iload dX9_lead_37 rfl rfl ?_
  refine Tj.callSi (as := [_, _]) (rest := []) dX9_lead_39 ln_X9_56 rfl rfl (Nat.le_of_ble_eq_true rfl) ⟨Nat.le_of_ble_eq_true rfl, Nat.le_of_ble_eq_true rfl⟩ (Nat.le_of_ble_eq_true rfl) rfl ?_
  refine Cli.mono h (fun r2 m2 h => ?_)
  refine Tj.istore dX9_lead_42 (Nat.le_of_ble_eq_true rfl) rfl rfl ?_
  refine Tj.aload_n dX9_lead_44 rfl rfl ?_
  refine Tj.gJ (j := 5) dX9_lead_45 fl_X9_27 sh_109 rfl rfl ?_
  refine Tj.iload dX9_lead_48 rfl rfl ?_
  refine Tj.callSi (as := [_, _]) (rest := []) dX9_lead_50 ln_X9_52 rfl rfl (Nat.le_of_ble_eq_true rfl) ⟨Nat.le_of_ble_eq_true rfl, Nat.le_of_ble_eq_true rfl⟩ (Nat.le_of_ble_eq_true rfl) rfl ?_
  refine Cli.mono h (fun r3 m3 h => ?_)
  refine Tj.if_eq dX9_lead_53 rfl rfl (fun c1 => ?_) (fun c1 => ?_)
  · have h := h.1 c1
    refine Tj.aload_n dX9_lead_78 rfl rfl ?_
    refine Tj.gJ (j := 5) dX9_lead_79 fl_X9_27 sh_109 rfl rfl ?_
    refine Tj.iload dX9_lead_82 rfl rfl ?_
    refine Tj.callSi (as := [_, _]) (rest := []) dX9_lead_84 ln_X9_52 rfl rfl (Nat.le_of_ble_eq_true rfl) ⟨Nat.le_of_ble_eq_true rfl, Nat.le_of_ble_eq_true rfl⟩ (Nat.le_of_ble_eq_true rfl) rfl ?_
    refine Cli.mono h (fun r4 m4 h => ?_)
    refine Tj.if_eq dX9_lead_87 rfl rfl (fun c2 => ?_) (fun c2 => ?_)
    · have h := h.1 c2
      refine Tj.aload_n dX9_lead_109 rfl rfl ?_
      refine Tj.iload_n dX9_lead_110 rfl rfl ?_
      refine Tj.iload_n dX9_lead_111 rfl rfl ?_
      refine Tj.iconst dX9_lead_112 (by decide) rfl ?_
      refine Tj.iload_n dX9_lead_113 rfl rfl ?_
      refine Tj.iload dX9_lead_114 rfl rfl ?_
      refine Tj.iload dX9_lead_116 rfl rfl ?_
      refine Tj.callVv (as := [_, _, _, _, _, _]) (rest := []) dX9_lead_118 ln_X9_67 sh_109 (by decide) rfl rfl (Nat.le_of_ble_eq_true rfl) ⟨Nat.le_of_ble_eq_true rfl, Nat.le_of_ble_eq_true rfl⟩ (Nat.le_of_ble_eq_true rfl) rfl ?_
      refine Clv.mono h (fun m5 h => ?_)
      exact Tj.vret dX9_lead_121 rfl h
    · have h := h.2 c2
      refine Tj.aload_n dX9_lead_90 rfl rfl ?_
      refine Tj.iload_n dX9_lead_91 rfl rfl ?_
      refine Tj.iload_n dX9_lead_92 rfl rfl ?_
      refine Tj.iconst dX9_lead_93 (by decide) rfl ?_
      refine Tj.iload dX9_lead_94 rfl rfl ?_
      refine Tj.iload dX9_lead_96 rfl rfl ?_
      refine Tj.iload dX9_lead_98 rfl rfl ?_
      refine Tj.callSi (as := [_]) (rest := [_, _, _, _, _, _]) dX9_lead_100 ln_X9_63 rfl rfl (Nat.le_of_ble_eq_true rfl) ⟨Nat.le_of_ble_eq_true rfl, Nat.le_of_ble_eq_true rfl⟩ (Nat.le_of_ble_eq_true rfl) rfl ?_
      refine Cli.mono h (fun r5 m6 h => ?_)
      refine Tj.callVv (as := [_, _, _, _, _, _]) (rest := []) dX9_lead_103 ln_X9_67 sh_109 (by decide) rfl rfl (Nat.le_of_ble_eq_true rfl) ⟨Nat.le_of_ble_eq_true rfl, Nat.le_of_ble_eq_true rfl⟩ (Nat.le_of_ble_eq_true rfl) rfl ?_
      refine Clv.mono h (fun m7 h => ?_)
      refine Tj.goto dX9_lead_106 rfl ?_
      exact Tj.vret dX9_lead_121 rfl h
  · have h := h.2 c1
    refine Tj.aload_n dX9_lead_56 rfl rfl ?_
    refine Tj.iload_n dX9_lead_57 rfl rfl ?_
    refine Tj.iload_n dX9_lead_58 rfl rfl ?_
    refine Tj.iconst dX9_lead_59 (by decide) rfl ?_
    refine Tj.iload dX9_lead_60 rfl rfl ?_
    refine Tj.iload dX9_lead_62 rfl rfl ?_
    refine Tj.callSi (as := [_]) (rest := [_, _, _, _, _]) dX9_lead_64 ln_X9_63 rfl rfl (Nat.le_of_ble_eq_true rfl) ⟨Nat.le_of_ble_eq_true rfl, Nat.le_of_ble_eq_true rfl⟩ (Nat.le_of_ble_eq_true rfl) rfl ?_
    refine Cli.mono h (fun r6 m8 h => ?_)
    refine Tj.iload dX9_lead_67 rfl rfl ?_
    refine Tj.callSi (as := [_]) (rest := [_, _, _, _, _, _]) dX9_lead_69 ln_X9_63 rfl rfl (Nat.le_of_ble_eq_true rfl) ⟨Nat.le_of_ble_eq_true rfl, Nat.le_of_ble_eq_true rfl⟩ (Nat.le_of_ble_eq_true rfl) rfl ?_
    refine Cli.mono h (fun r7 m9 h => ?_)
    refine Tj.callVv (as := [_, _, _, _, _, _]) (rest := []) dX9_lead_72 ln_X9_67 sh_109 (by decide) rfl rfl (Nat.le_of_ble_eq_true rfl) ⟨Nat.le_of_ble_eq_true rfl, Nat.le_of_ble_eq_true rfl⟩ (Nat.le_of_ble_eq_true rfl) rfl ?_
    refine Clv.mono h (fun m10 h => ?_)
    refine Tj.goto dX9_lead_75 rfl ?_
    exact Tj.vret dX9_lead_121 rfl h

theorem wX9_note_0 {m : tM} {P : Option tV → tM → Prop} {x1 : Int} {x2 : Int} {x3 : Int} {x4 : Int} {x5 : Int} {x6 : Int}  (h : (R32 (6 * x4) ∧ R32 ((6 * x4) + x5) ∧ 0 ≤ ((6 * x4) + x5) ∧ ((6 * x4) + x5) < 384 ∧ R32 (4 * x1) ∧ R32 ((4 * x1) + x2) ∧ R32 (4 * (m 112 ((6 * x4) + x5)))) ∧ (Cli mX9_sideLooking [iV x5, iV x6] m (fun r1 m1 => ((R32 ((4 * (m 112 ((6 * x4) + x5))) + r1) ∧ 0 ≤ ((4 * x1) + x2) ∧ ((4 * x1) + x2) < 960) ∧ (P none (up (up m1 113 ((4 * x1) + x2) ((4 * (m 112 ((6 * x4) + x5))) + r1)) 114 ((4 * x1) + x2) x3)))))) : Tj mX9_note 0 [some (rV 109), some (iV x1), some (iV x2), some (iV x3), some (iV x4), some (iV x5), some (iV x6)] [] m P := by
  obtain ⟨⟨o1, o2, o3, o4, o5, o6, o7⟩, h⟩ := h
  refine Tj.aload_n dX9_note_0 rfl rfl ?_
  refine Tj.getR (b := 112) dX9_note_1 fl_X9_18 sh_109 rfl rfl ?_
  refine Tj.bipush dX9_note_4 (by decide) (by decide +kernel) rfl ?_
  refine Tj.iload dX9_note_6 rfl rfl ?_
  refine Tj.imul dX9_note_8 o1 rfl ?_
  refine Tj.iload dX9_note_9 rfl rfl ?_
  refine Tj.iadd dX9_note_11 o2 rfl ?_
  refine Tj.iald dX9_note_12 sh_112 o3 o4 rfl ?_
  refine Tj.istore dX9_note_13 (Nat.le_of_ble_eq_true rfl) rfl rfl ?_
  refine Tj.aload_n dX9_note_15 rfl rfl ?_
  refine Tj.getR (b := 113) dX9_note_16 fl_X9_21 sh_109 rfl rfl ?_
  refine Tj.iconst dX9_note_19 (by decide) rfl ?_
  refine Tj.iload_n dX9_note_20 rfl rfl ?_
  refine Tj.imul dX9_note_21 o5 rfl ?_
  refine Tj.iload_n dX9_note_22 rfl rfl ?_
  refine Tj.iadd dX9_note_23 o6 rfl ?_
  refine Tj.iconst dX9_note_24 (by decide) rfl ?_
  refine Tj.iload dX9_note_25 rfl rfl ?_
  refine Tj.imul dX9_note_27 o7 rfl ?_
  refine Tj.iload dX9_note_28 rfl rfl ?_
  refine Tj.iload dX9_note_30 rfl rfl ?_
  refine Tj.callSi (as := [_, _]) (rest := [_, _, _]) dX9_note_32 ln_X9_71 rfl rfl (Nat.le_of_ble_eq_true rfl) ⟨Nat.le_of_ble_eq_true rfl, Nat.le_of_ble_eq_true rfl⟩ (Nat.le_of_ble_eq_true rfl) rfl ?_
  refine Cli.mono h (fun r1 m1 h => ?_)
  obtain ⟨⟨o8, o9, o10⟩, h⟩ := h
  refine Tj.iadd dX9_note_35 o8 rfl ?_
  refine Tj.iast dX9_note_36 sh_113 o9 o10 rfl ?_
  refine Tj.aload_n dX9_note_37 rfl rfl ?_
  refine Tj.getR (b := 114) dX9_note_38 fl_X9_24 sh_109 rfl rfl ?_
  refine Tj.iconst dX9_note_41 (by decide) rfl ?_
  refine Tj.iload_n dX9_note_42 rfl rfl ?_
  refine Tj.imul dX9_note_43 o5 rfl ?_
  refine Tj.iload_n dX9_note_44 rfl rfl ?_
  refine Tj.iadd dX9_note_45 o6 rfl ?_
  refine Tj.iload_n dX9_note_46 rfl rfl ?_
  refine Tj.iast dX9_note_47 sh_114 o9 o10 rfl ?_
  exact Tj.vret dX9_note_48 rfl h

theorem wX9_sideLooking_0 {m : tM} {P : Option tV → tM → Prop} {x0 : Int} {x1 : Int}  (h : Tj mX9_sideLooking 2 [some (iV x0), some (iV x1), some (iV 0)] [] m P) : Tj mX9_sideLooking 0 [some (iV x0), some (iV x1)] [] m P := by
  refine Tj.iconst dX9_sideLooking_0 (by decide) rfl ?_
  refine Tj.istore_n dX9_sideLooking_1 (Nat.le_of_ble_eq_true rfl) rfl rfl ?_
  exact Tj.cut h ⟨rfl, ⟨rfl, ⟨rfl, trivial⟩⟩⟩

theorem wX9_sideLooking_2 {m : tM} {P : Option tV → tM → Prop} {x0 : Int} {x1 : Int} {x2 : Int}  (h : (x2 < 3 → ((R32 (4 * x0) ∧ R32 ((4 * x0) + x2) ∧ 0 ≤ ((4 * x0) + x2) ∧ ((4 * x0) + x2) < 24) ∧ (((stI 1001 ((4 * x0) + x2)) = x1 → (P (some (iV x2)) m)) ∧ (¬ (stI 1001 ((4 * x0) + x2)) = x1 → ((R32 (x2 + 1)) ∧ (Tj mX9_sideLooking 2 [some (iV x0), some (iV x1), some (iV (x2 + 1))] [] m P)))))) ∧ (¬ x2 < 3 → (P (some (iV 3)) m))) : Tj mX9_sideLooking 2 [some (iV x0), some (iV x1), some (iV x2)] [] m P := by
  refine Tj.iload_n dX9_sideLooking_2 rfl rfl ?_
  refine Tj.iconst dX9_sideLooking_3 (by decide) rfl ?_
  refine Tj.icmp_ge dX9_sideLooking_4 rfl rfl (fun c1 => ?_) (fun c1 => ?_)
  · have h := h.1 c1
    obtain ⟨⟨o1, o2, o3, o4⟩, h⟩ := h
    refine Tj.gets dX9_sideLooking_7 fs_X9_60 tW_1 rfl ?_
    refine Tj.iconst dX9_sideLooking_10 (by decide) rfl ?_
    refine Tj.iload_n dX9_sideLooking_11 rfl rfl ?_
    refine Tj.imul dX9_sideLooking_12 o1 rfl ?_
    refine Tj.iload_n dX9_sideLooking_13 rfl rfl ?_
    refine Tj.iadd dX9_sideLooking_14 o2 rfl ?_
    refine Tj.sald dX9_sideLooking_15 tW_1 o3 o4 rfl ?_
    refine Tj.iload_n dX9_sideLooking_16 rfl rfl ?_
    refine Tj.icmp_ne dX9_sideLooking_17 rfl rfl (fun c2 => ?_) (fun c2 => ?_)
    · have h := h.1 c2
      refine Tj.iload_n dX9_sideLooking_20 rfl rfl ?_
      exact Tj.iret dX9_sideLooking_21 rfl h
    · have h := h.2 c2
      obtain ⟨o5, h⟩ := h
      refine Tj.iinc dX9_sideLooking_22 rfl (Nat.le_of_ble_eq_true rfl) rfl o5 rfl ?_
      refine Tj.goto dX9_sideLooking_25 rfl ?_
      exact Tj.cut h ⟨rfl, ⟨rfl, ⟨rfl, trivial⟩⟩⟩
  · have h := h.2 c1
    refine Tj.iconst dX9_sideLooking_28 (by decide) rfl ?_
    exact Tj.iret dX9_sideLooking_29 rfl h
