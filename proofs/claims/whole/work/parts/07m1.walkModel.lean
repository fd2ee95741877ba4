theorem wX12_cuts_0 {m : tM} {P : Option tV → tM → Prop}   (h : Tj mX12_cuts 9 [some (rV 145), some (iV 0), some (iV 0)] [] (up m 145 0 0) P) : Tj mX12_cuts 0 [some (rV 145)] [] m P := by
  refine Tj.aload_n dX12_cuts_0 rfl rfl ?_
  refine Tj.iconst dX12_cuts_1 (by decide) rfl ?_
  refine Tj.pI (j := 0) dX12_cuts_2 fp_X12_113 sh_145 rfl rfl ?_
  refine Tj.iconst dX12_cuts_5 (by decide) rfl ?_
  refine Tj.istore_n dX12_cuts_6 (Nat.le_of_ble_eq_true rfl) rfl rfl ?_
  refine Tj.iconst dX12_cuts_7 (by decide) rfl ?_
  refine Tj.istore_n dX12_cuts_8 (Nat.le_of_ble_eq_true rfl) rfl rfl ?_
  exact Tj.cut h ⟨rfl, ⟨rfl, ⟨rfl, trivial⟩⟩⟩

theorem wX12_cuts_9 {m : tM} {P : Option tV → tM → Prop} {x1 : Int} {x2 : Int}  (h : (x2 < 1536 → ((0 ≤ x2 ∧ x2 < 1536 ∧ R32 (x1 + (m 148 x2)) ∧ R32 (x2 + 1)) ∧ (Tj mX12_cuts 9 [some (rV 145), some (iV (x1 + (m 148 x2))), some (iV (x2 + 1))] [] m P))) ∧ (¬ x2 < 1536 → ((0 ≤ x1) ∧ (P (some (iV (x1 / 2))) m)))) : Tj mX12_cuts 9 [some (rV 145), some (iV x1), some (iV x2)] [] m P := by
  refine Tj.iload_n dX12_cuts_9 rfl rfl ?_
  refine Tj.sipush dX12_cuts_10 (by decide) (by decide +kernel) rfl ?_
  refine Tj.icmp_ge dX12_cuts_13 rfl rfl (fun c1 => ?_) (fun c1 => ?_)
  · have h := h.1 c1
    obtain ⟨⟨o1, o2, o3, o4⟩, h⟩ := h
    refine Tj.iload_n dX12_cuts_16 rfl rfl ?_
    refine Tj.aload_n dX12_cuts_17 rfl rfl ?_
    refine Tj.getR (b := 148) dX12_cuts_18 fl_X12_16 sh_145 rfl rfl ?_
    refine Tj.iload_n dX12_cuts_21 rfl rfl ?_
    refine Tj.iald dX12_cuts_22 sh_148 o1 o2 rfl ?_
    refine Tj.iadd dX12_cuts_23 o3 rfl ?_
    refine Tj.istore_n dX12_cuts_24 (Nat.le_of_ble_eq_true rfl) rfl rfl ?_
    refine Tj.iinc dX12_cuts_25 rfl (Nat.le_of_ble_eq_true rfl) rfl o4 rfl ?_
    refine Tj.goto dX12_cuts_28 rfl ?_
    exact Tj.cut h ⟨rfl, ⟨rfl, ⟨rfl, trivial⟩⟩⟩
  · have h := h.2 c1
    obtain ⟨o5, h⟩ := h
    refine Tj.iload_n dX12_cuts_31 rfl rfl ?_
    refine Tj.iconst dX12_cuts_32 (by decide) rfl ?_
    refine Tj.idiv dX12_cuts_33 o5 (by decide) rfl ?_
    exact Tj.iret dX12_cuts_34 rfl h

theorem wX12_stepX_0 {m : tM} {P : Option tV → tM → Prop} {x0 : Int}  (h : ∀ v1 : Int, v1 = (if x0 = 0 then 1 else (if x0 = 2 then (-1) else 0)) → (P (some (iV v1)) m)) : Tj mX12_stepX 0 [some (iV x0)] [] m P := by
  refine Tj.iload_n dX12_stepX_0 rfl rfl ?_
  have hj : Tj mX12_stepX 18 [] [iV (if x0 = 0 then 1 else (if x0 = 2 then (-1) else 0))] m P := by
    generalize hv1 : ((if x0 = 0 then 1 else (if x0 = 2 then (-1) else 0)) : Int) = v1
    have h := h v1 hv1.symm
    exact Tj.iret dX12_stepX_18 rfl h
  refine Tj.if_ne dX12_stepX_1 rfl rfl (fun c1 => ?_) (fun c1 => ?_)
  · refine Tj.iconst dX12_stepX_4 (by decide) rfl ?_
    refine Tj.goto dX12_stepX_5 rfl ?_
    try simp only [if_pos c1] at hj ⊢
    exact Tj.cut hj trivial
  · refine Tj.iload_n dX12_stepX_8 rfl rfl ?_
    refine Tj.iconst dX12_stepX_9 (by decide) rfl ?_
    refine Tj.icmp_ne dX12_stepX_10 rfl rfl (fun c2 => ?_) (fun c2 => ?_)
    · refine Tj.iconst dX12_stepX_13 (by decide) rfl ?_
      refine Tj.goto dX12_stepX_14 rfl ?_
      try simp only [if_neg c1, if_pos c2] at hj ⊢
      exact Tj.cut hj trivial
    · refine Tj.iconst dX12_stepX_17 (by decide) rfl ?_
      try simp only [if_neg c1, if_neg c2] at hj ⊢
      exact Tj.cut hj trivial

theorem wX12_stepY_0 {m : tM} {P : Option tV → tM → Prop} {x0 : Int}  (h : ∀ v1 : Int, v1 = (if x0 = 1 then 1 else (if x0 = 3 then (-1) else 0)) → (P (some (iV v1)) m)) : Tj mX12_stepY 0 [some (iV x0)] [] m P := by
  refine Tj.iload_n dX12_stepY_0 rfl rfl ?_
  refine Tj.iconst dX12_stepY_1 (by decide) rfl ?_
  have hj : Tj mX12_stepY 19 [] [iV (if x0 = 1 then 1 else (if x0 = 3 then (-1) else 0))] m P := by
    generalize hv1 : ((if x0 = 1 then 1 else (if x0 = 3 then (-1) else 0)) : Int) = v1
    have h := h v1 hv1.symm
    exact Tj.iret dX12_stepY_19 rfl h
  refine Tj.icmp_ne dX12_stepY_2 rfl rfl (fun c1 => ?_) (fun c1 => ?_)
  · refine Tj.iconst dX12_stepY_5 (by decide) rfl ?_
    refine Tj.goto dX12_stepY_6 rfl ?_
    try simp only [if_pos c1] at hj ⊢
    exact Tj.cut hj trivial
  · refine Tj.iload_n dX12_stepY_9 rfl rfl ?_
    refine Tj.iconst dX12_stepY_10 (by decide) rfl ?_
    refine Tj.icmp_ne dX12_stepY_11 rfl rfl (fun c2 => ?_) (fun c2 => ?_)
    · refine Tj.iconst dX12_stepY_14 (by decide) rfl ?_
      refine Tj.goto dX12_stepY_15 rfl ?_
      try simp only [if_neg c1, if_pos c2] at hj ⊢
      exact Tj.cut hj trivial
    · refine Tj.iconst dX12_stepY_18 (by decide) rfl ?_
      try simp only [if_neg c1, if_neg c2] at hj ⊢
      exact Tj.cut hj trivial

theorem wX12_layAcross_0 {m : tM} {P : Option tV → tM → Prop} {x1 : Int} {x2 : Int}  (h : Clv mX12_findAcross [rV 145, iV x1, iV x2] m (fun m1 => ((0 ≤ x1 ∧ x1 < 384 ∧ R32 (x2 + (m1 164 x1)) ∧ 0 ≤ (x2 + (m1 164 x1))) ∧ (Cli mX12_stepX [iV ((x2 + (m1 164 x1)) % 4)] m1 (fun r1 m2 => ((R32 ((m1 162 x1) + r1)) ∧ (Cli mX12_stepY [iV ((x2 + (m1 164 x1)) % 4)] m2 (fun r2 m3 => ((R32 ((m2 163 x1) + r2) ∧ R32 (((x2 + (m1 164 x1)) % 4) + 2) ∧ R32 ((((x2 + (m1 164 x1)) % 4) + 2) - (m3 145 22)) ∧ R32 (((((x2 + (m1 164 x1)) % 4) + 2) - (m3 145 22)) + 4) ∧ 0 ≤ (((((x2 + (m1 164 x1)) % 4) + 2) - (m3 145 22)) + 4) ∧ 0 ≤ (m3 145 21) ∧ (m3 145 21) < 384) ∧ (((m3 161 (m3 145 21)) = 1 → (((m3 162 (m3 145 21)) = ((m1 162 x1) + r1) → (((m3 163 (m3 145 21)) = ((m2 163 x1) + r2) → (∀ v1 : Int, v1 = (if (m3 164 (m3 145 21)) = ((((((x2 + (m1 164 x1)) % 4) + 2) - (m3 145 22)) + 4) % 4) then 0 else 2) → (P (some (iV v1)) m3))) ∧ (¬ (m3 163 (m3 145 21)) = ((m2 163 x1) + r2) → (P (some (iV 2)) m3)))) ∧ (¬ (m3 162 (m3 145 21)) = ((m1 162 x1) + r1) → (P (some (iV 2)) m3)))) ∧ (¬ (m3 161 (m3 145 21)) = 1 → (P (some (iV 1)) (up (up (up (up m3 161 (m3 145 21) 1) 162 (m3 145 21) ((m1 162 x1) + r1)) 163 (m3 145 21) ((m2 163 x1) + r2)) 164 (m3 145 21) ((((((x2 + (m1 164 x1)) % 4) + 2) - (m3 145 22)) + 4) % 4)))))))))))))) : Tj mX12_layAcross 0 [some (rV 145), some (iV x1), some (iV x2)] [] m P := by
  refine Tj.aload_n dX12_layAcross_0 rfl rfl ?_
  refine Tj.iload_n dX12_layAcross_1 rfl rfl ?_
  refine Tj.iload_n dX12_layAcross_2 rfl rfl ?_
  refine Tj.callVv (as := [_, _]) (rest := []) dX12_layAcross_3 ln_X12_226 sh_145 (by decide) rfl rfl (Nat.le_of_ble_eq_true rfl) ⟨Nat.le_of_ble_eq_true rfl, Nat.le_of_ble_eq_true rfl⟩ (Nat.le_of_ble_eq_true rfl) rfl ?_
  refine Clv.mono h (fun m1 h => ?_)
  obtain ⟨⟨o1, o2, o3, o4⟩, h⟩ := h
  refine Tj.iload_n dX12_layAcross_6 rfl rfl ?_
  refine Tj.aload_n dX12_layAcross_7 rfl rfl ?_
  refine Tj.getR (b := 164) dX12_layAcross_8 fl_X12_64 sh_145 rfl rfl ?_
  refine Tj.iload_n dX12_layAcross_11 rfl rfl ?_
  refine Tj.iald dX12_layAcross_12 sh_164 o1 o2 rfl ?_
  refine Tj.iadd dX12_layAcross_13 o3 rfl ?_
  refine Tj.iconst dX12_layAcross_14 (by decide) rfl ?_
  refine Tj.irem dX12_layAcross_15 o4 (by decide) rfl ?_
  refine Tj.istore_n dX12_layAcross_16 (Nat.le_of_ble_eq_true rfl) rfl rfl ?_
  refine Tj.aload_n dX12_layAcross_17 rfl rfl ?_
  refine Tj.getR (b := 162) dX12_layAcross_18 fl_X12_58 sh_145 rfl rfl ?_
  refine Tj.iload_n dX12_layAcross_21 rfl rfl ?_
  refine Tj.iald dX12_layAcross_22 sh_162 o1 o2 rfl ?_
  refine Tj.iload_n dX12_layAcross_23 rfl rfl ?_
  refine Tj.callSi (as := [_]) (rest := [_]) dX12_layAcross_24 ln_X12_230 rfl rfl (Nat.le_of_ble_eq_true rfl) ⟨Nat.le_of_ble_eq_true rfl, Nat.le_of_ble_eq_true rfl⟩ (Nat.le_of_ble_eq_true rfl) rfl ?_
  refine Cli.mono h (fun r1 m2 h => ?_)
  obtain ⟨o5, h⟩ := h
  refine Tj.iadd dX12_layAcross_27 o5 rfl ?_
  refine Tj.istore dX12_layAcross_28 (Nat.le_of_ble_eq_true rfl) rfl rfl ?_
  refine Tj.aload_n dX12_layAcross_30 rfl rfl ?_
  refine Tj.getR (b := 163) dX12_layAcross_31 fl_X12_61 sh_145 rfl rfl ?_
  refine Tj.iload_n dX12_layAcross_34 rfl rfl ?_
  refine Tj.iald dX12_layAcross_35 sh_163 o1 o2 rfl ?_
  refine Tj.iload_n dX12_layAcross_36 rfl rfl ?_
  refine Tj.callSi (as := [_]) (rest := [_]) dX12_layAcross_37 ln_X12_233 rfl rfl (Nat.le_of_ble_eq_true rfl) ⟨Nat.le_of_ble_eq_true rfl, Nat.le_of_ble_eq_true rfl⟩ (Nat.le_of_ble_eq_true rfl) rfl ?_
  refine Cli.mono h (fun r2 m3 h => ?_)
  obtain ⟨⟨o6, o7, o8, o9, o10, o11, o12⟩, h⟩ := h
  refine Tj.iadd dX12_layAcross_40 o6 rfl ?_
  refine Tj.istore dX12_layAcross_41 (Nat.le_of_ble_eq_true rfl) rfl rfl ?_
  refine Tj.iload_n dX12_layAcross_43 rfl rfl ?_
  refine Tj.iconst dX12_layAcross_44 (by decide) rfl ?_
  refine Tj.iadd dX12_layAcross_45 o7 rfl ?_
  refine Tj.aload_n dX12_layAcross_46 rfl rfl ?_
  refine Tj.gI (j := 22) dX12_layAcross_47 fl_X12_220 sh_145 rfl rfl ?_
  refine Tj.isub dX12_layAcross_50 o8 rfl ?_
  refine Tj.iconst dX12_layAcross_51 (by decide) rfl ?_
  refine Tj.iadd dX12_layAcross_52 o9 rfl ?_
  refine Tj.iconst dX12_layAcross_53 (by decide) rfl ?_
  refine Tj.irem dX12_layAcross_54 o10 (by decide) rfl ?_
  refine Tj.istore dX12_layAcross_55 (Nat.le_of_ble_eq_true rfl) rfl rfl ?_
  refine Tj.aload_n dX12_layAcross_57 rfl rfl ?_
  refine Tj.gI (j := 21) dX12_layAcross_58 fl_X12_213 sh_145 rfl rfl ?_
  refine Tj.istore dX12_layAcross_61 (Nat.le_of_ble_eq_true rfl) rfl rfl ?_
  refine Tj.aload_n dX12_layAcross_63 rfl rfl ?_
  refine Tj.getR (b := 161) dX12_layAcross_64 fl_X12_55 sh_145 rfl rfl ?_
  refine Tj.iload dX12_layAcross_67 rfl rfl ?_
  refine Tj.iald dX12_layAcross_69 sh_161 o11 o12 rfl ?_
  refine Tj.iconst dX12_layAcross_70 (by decide) rfl ?_
  refine Tj.icmp_ne dX12_layAcross_71 rfl rfl (fun c1 => ?_) (fun c1 => ?_)
  · have h := h.1 c1
    refine Tj.aload_n dX12_layAcross_74 rfl rfl ?_
    refine Tj.getR (b := 162) dX12_layAcross_75 fl_X12_58 sh_145 rfl rfl ?_
    refine Tj.iload dX12_layAcross_78 rfl rfl ?_
    refine Tj.iald dX12_layAcross_80 sh_162 o11 o12 rfl ?_
    refine Tj.iload dX12_layAcross_81 rfl rfl ?_
    refine Tj.icmp_ne dX12_layAcross_83 rfl rfl (fun c2 => ?_) (fun c2 => ?_)
    · have h := h.1 c2
      refine Tj.aload_n dX12_layAcross_86 rfl rfl ?_
      refine Tj.getR (b := 163) dX12_layAcross_87 fl_X12_61 sh_145 rfl rfl ?_
      refine Tj.iload dX12_layAcross_90 rfl rfl ?_
      refine Tj.iald dX12_layAcross_92 sh_163 o11 o12 rfl ?_
      refine Tj.iload dX12_layAcross_93 rfl rfl ?_
      refine Tj.icmp_ne dX12_layAcross_95 rfl rfl (fun c3 => ?_) (fun c3 => ?_)
      · have h := h.1 c3
        refine Tj.aload_n dX12_layAcross_98 rfl rfl ?_
        refine Tj.getR (b := 164) dX12_layAcross_99 fl_X12_64 sh_145 rfl rfl ?_
        refine Tj.iload dX12_layAcross_102 rfl rfl ?_
        refine Tj.iald dX12_layAcross_104 sh_164 o11 o12 rfl ?_
        refine Tj.iload dX12_layAcross_105 rfl rfl ?_
        have hj : Tj mX12_layAcross 115 [] [iV (if (m3 164 (m3 145 21)) = ((((((x2 + (m1 164 x1)) % 4) + 2) - (m3 145 22)) + 4) % 4) then 0 else 2)] m3 P := by
          generalize hv1 : ((if (m3 164 (m3 145 21)) = ((((((x2 + (m1 164 x1)) % 4) + 2) - (m3 145 22)) + 4) % 4) then 0 else 2) : Int) = v1
          have h := h v1 hv1.symm
          exact Tj.iret dX12_layAcross_115 rfl h
        refine Tj.icmp_eq dX12_layAcross_107 rfl rfl (fun c4 => ?_) (fun c4 => ?_)
        · refine Tj.iconst dX12_layAcross_114 (by decide) rfl ?_
          try simp only [if_pos c4] at hj ⊢
          exact Tj.cut hj trivial
        · refine Tj.iconst dX12_layAcross_110 (by decide) rfl ?_
          refine Tj.goto dX12_layAcross_111 rfl ?_
          try simp only [if_neg c4] at hj ⊢
          exact Tj.cut hj trivial
      · have h := h.2 c3
        refine Tj.iconst dX12_layAcross_110 (by decide) rfl ?_
        refine Tj.goto dX12_layAcross_111 rfl ?_
        exact Tj.iret dX12_layAcross_115 rfl h
    · have h := h.2 c2
      refine Tj.iconst dX12_layAcross_110 (by decide) rfl ?_
      refine Tj.goto dX12_layAcross_111 rfl ?_
      exact Tj.iret dX12_layAcross_115 rfl h
  · have h := h.2 c1
    refine Tj.aload_n dX12_layAcross_116 rfl rfl ?_
    refine Tj.getR (b := 161) dX12_layAcross_117 fl_X12_55 sh_145 rfl rfl ?_
    refine Tj.iload dX12_layAcross_120 rfl rfl ?_
    refine Tj.iconst dX12_layAcross_122 (by decide) rfl ?_
    refine Tj.iast dX12_layAcross_123 sh_161 o11 o12 rfl ?_
    refine Tj.aload_n dX12_layAcross_124 rfl rfl ?_
    refine Tj.getR (b := 162) dX12_layAcross_125 fl_X12_58 sh_145 rfl rfl ?_
    refine Tj.iload dX12_layAcross_128 rfl rfl ?_
    refine Tj.iload dX12_layAcross_130 rfl rfl ?_
    refine Tj.iast dX12_layAcross_132 sh_162 o11 o12 rfl ?_
    refine Tj.aload_n dX12_layAcross_133 rfl rfl ?_
    refine Tj.getR (b := 163) dX12_layAcross_134 fl_X12_61 sh_145 rfl rfl ?_
    refine Tj.iload dX12_layAcross_137 rfl rfl ?_
    refine Tj.iload dX12_layAcross_139 rfl rfl ?_
    refine Tj.iast dX12_layAcross_141 sh_163 o11 o12 rfl ?_
    refine Tj.aload_n dX12_layAcross_142 rfl rfl ?_
    refine Tj.getR (b := 164) dX12_layAcross_143 fl_X12_64 sh_145 rfl rfl ?_
    refine Tj.iload dX12_layAcross_146 rfl rfl ?_
    refine Tj.iload dX12_layAcross_148 rfl rfl ?_
    refine Tj.iast dX12_layAcross_150 sh_164 o11 o12 rfl ?_
    refine Tj.iconst dX12_layAcross_151 (by decide) rfl ?_
    exact Tj.iret dX12_layAcross_152 rfl h

theorem wX12_lay_0 {m : tM} {P : Option tV → tM → Prop}   (h : Tj mX12_lay 2 [some (rV 145), some (iV 0)] [] m P) : Tj mX12_lay 0 [some (rV 145)] [] m P := by
  refine Tj.iconst dX12_lay_0 (by decide) rfl ?_
  refine Tj.istore_n dX12_lay_1 (Nat.le_of_ble_eq_true rfl) rfl rfl ?_
  exact Tj.cut h ⟨rfl, ⟨rfl, trivial⟩⟩

theorem wX12_lay_2 {m : tM} {P : Option tV → tM → Prop} {x1 : Int}  (h : (x1 < (m 145 17) → ((0 ≤ x1 ∧ x1 < 384 ∧ R32 (x1 + 1)) ∧ (Tj mX12_lay 2 [some (rV 145), some (iV (x1 + 1))] [] (up m 161 x1 0) P))) ∧ (¬ x1 < (m 145 17) → (Tj mX12_lay 57 [some (rV 145), some (iV 1), some (iV 0), some (iV 1)] [] (up (up (up (up m 161 0 1) 162 0 0) 163 0 0) 164 0 0) P))) : Tj mX12_lay 2 [some (rV 145), some (iV x1)] [] m P := by
  refine Tj.iload_n dX12_lay_2 rfl rfl ?_
  refine Tj.aload_n dX12_lay_3 rfl rfl ?_
  refine Tj.gI (j := 17) dX12_lay_4 fl_X12_195 sh_145 rfl rfl ?_
  refine Tj.icmp_ge dX12_lay_7 rfl rfl (fun c1 => ?_) (fun c1 => ?_)
  · have h := h.1 c1
    obtain ⟨⟨o1, o2, o3⟩, h⟩ := h
    refine Tj.aload_n dX12_lay_10 rfl rfl ?_
    refine Tj.getR (b := 161) dX12_lay_11 fl_X12_55 sh_145 rfl rfl ?_
    refine Tj.iload_n dX12_lay_14 rfl rfl ?_
    refine Tj.iconst dX12_lay_15 (by decide) rfl ?_
    refine Tj.iast dX12_lay_16 sh_161 o1 o2 rfl ?_
    refine Tj.iinc dX12_lay_17 rfl (Nat.le_of_ble_eq_true rfl) rfl o3 rfl ?_
    refine Tj.goto dX12_lay_20 rfl ?_
    exact Tj.cut h ⟨rfl, ⟨rfl, trivial⟩⟩
  · have h := h.2 c1
    refine Tj.aload_n dX12_lay_23 rfl rfl ?_
    refine Tj.getR (b := 161) dX12_lay_24 fl_X12_55 sh_145 rfl rfl ?_
    refine Tj.iconst dX12_lay_27 (by decide) rfl ?_
    refine Tj.iconst dX12_lay_28 (by decide) rfl ?_
    refine Tj.iast dX12_lay_29 sh_161 (by decide) (by decide) rfl ?_
    refine Tj.aload_n dX12_lay_30 rfl rfl ?_
    refine Tj.getR (b := 162) dX12_lay_31 fl_X12_58 sh_145 rfl rfl ?_
    refine Tj.iconst dX12_lay_34 (by decide) rfl ?_
    refine Tj.iconst dX12_lay_35 (by decide) rfl ?_
    refine Tj.iast dX12_lay_36 sh_162 (by decide) (by decide) rfl ?_
    refine Tj.aload_n dX12_lay_37 rfl rfl ?_
    refine Tj.getR (b := 163) dX12_lay_38 fl_X12_61 sh_145 rfl rfl ?_
    refine Tj.iconst dX12_lay_41 (by decide) rfl ?_
    refine Tj.iconst dX12_lay_42 (by decide) rfl ?_
    refine Tj.iast dX12_lay_43 sh_163 (by decide) (by decide) rfl ?_
    refine Tj.aload_n dX12_lay_44 rfl rfl ?_
    refine Tj.getR (b := 164) dX12_lay_45 fl_X12_64 sh_145 rfl rfl ?_
    refine Tj.iconst dX12_lay_48 (by decide) rfl ?_
    refine Tj.iconst dX12_lay_49 (by decide) rfl ?_
    refine Tj.iast dX12_lay_50 sh_164 (by decide) (by decide) rfl ?_
    refine Tj.iconst dX12_lay_51 (by decide) rfl ?_
    refine Tj.istore_n dX12_lay_52 (Nat.le_of_ble_eq_true rfl) rfl rfl ?_
    refine Tj.iconst dX12_lay_53 (by decide) rfl ?_
    refine Tj.istore_n dX12_lay_54 (Nat.le_of_ble_eq_true rfl) rfl rfl ?_
    refine Tj.iconst dX12_lay_55 (by decide) rfl ?_
    refine Tj.istore_n dX12_lay_56 (Nat.le_of_ble_eq_true rfl) rfl rfl ?_
    exact Tj.cut h ⟨rfl, ⟨rfl, ⟨rfl, ⟨rfl, trivial⟩⟩⟩⟩

theorem wX12_lay_57 {m : tM} {P : Option tV → tM → Prop} {x1 : Int} {x2 : Int} {x3 : Int}  (h : (x3 = 0 → ((x1 < (m 145 17) → (P (some (iV 1)) m)) ∧ (¬ x1 < (m 145 17) → ((x2 = 0 → (Tj mX12_lay 188 [some (rV 145), none, none, none, some (iV 0)] [] m P)) ∧ (¬ x2 = 0 → (P (some (iV 2)) m)))))) ∧ (¬ x3 = 0 → (Tj mX12_lay 66 [some (rV 145), some (iV x1), some (iV x2), some (iV 0), some (iV 0)] [] m P))) : Tj mX12_lay 57 [some (rV 145), some (iV x1), some (iV x2), some (iV x3)] [] m P := by
  refine Tj.iload_n dX12_lay_57 rfl rfl ?_
  refine Tj.if_eq dX12_lay_58 rfl rfl (fun c1 => ?_) (fun c1 => ?_)
  · have h := h.1 c1
    refine Tj.iload_n dX12_lay_169 rfl rfl ?_
    refine Tj.aload_n dX12_lay_170 rfl rfl ?_
    refine Tj.gI (j := 17) dX12_lay_171 fl_X12_195 sh_145 rfl rfl ?_
    refine Tj.icmp_ge dX12_lay_174 rfl rfl (fun c2 => ?_) (fun c2 => ?_)
    · have h := h.1 c2
      refine Tj.iconst dX12_lay_177 (by decide) rfl ?_
      exact Tj.iret dX12_lay_178 rfl h
    · have h := h.2 c2
      refine Tj.iload_n dX12_lay_179 rfl rfl ?_
      refine Tj.if_eq dX12_lay_180 rfl rfl (fun c3 => ?_) (fun c3 => ?_)
      · have h := h.1 c3
        refine Tj.iconst dX12_lay_185 (by decide) rfl ?_
        refine Tj.istore dX12_lay_186 (Nat.le_of_ble_eq_true rfl) rfl rfl ?_
        exact Tj.cut h ⟨rfl, ⟨rfl, trivial⟩⟩
      · have h := h.2 c3
        refine Tj.iconst dX12_lay_183 (by decide) rfl ?_
        exact Tj.iret dX12_lay_184 rfl h
  · have h := h.2 c1
    refine Tj.iconst dX12_lay_61 (by decide) rfl ?_
    refine Tj.istore_n dX12_lay_62 (Nat.le_of_ble_eq_true rfl) rfl rfl ?_
    refine Tj.iconst dX12_lay_63 (by decide) rfl ?_
    refine Tj.istore dX12_lay_64 (Nat.le_of_ble_eq_true rfl) rfl rfl ?_
    exact Tj.cut h ⟨rfl, ⟨rfl, ⟨rfl, ⟨rfl, ⟨rfl, trivial⟩⟩⟩⟩⟩

theorem wX12_lay_66 {m : tM} {P : Option tV → tM → Prop} {x1 : Int} {x2 : Int} {x3 : Int} {x4 : Int}  (h : (R32 (4 * (m 145 17))) ∧ ((x4 < (4 * (m 145 17)) → ((0 ≤ x4 ∧ 0 ≤ (x4 / 4) ∧ (x4 / 4) < 384) ∧ (((m 161 (x4 / 4)) = 1 → ((x4 < 1536) ∧ (((m 148 x4) = 0 → (Cli mX12_layAcross [rV 145, iV (x4 / 4), iV (x4 % 4)] m (fun r1 m1 => (∀ v1 : Int, v1 = (if x2 = 0 then (if r1 = 2 then 1 else 0) else 1) → (∀ v2 : Int, v2 = (if r1 = 1 then 1 else 0) → ((R32 (x1 + v2)) ∧ (∀ v3 : Int, v3 = (if x3 = 0 then (if r1 = 1 then 1 else 0) else 1) → ((R32 (x4 + 1)) ∧ (Tj mX12_lay 66 [some (rV 145), some (iV (x1 + v2)), some (iV v1), some (iV v3), some (iV (x4 + 1))] [] m1 P))))))))) ∧ (¬ (m 148 x4) = 0 → ((R32 (x4 + 1)) ∧ (Tj mX12_lay 66 [some (rV 145), some (iV x1), some (iV x2), some (iV x3), some (iV (x4 + 1))] [] m P)))))) ∧ (¬ (m 161 (x4 / 4)) = 1 → ((R32 (x4 + 1)) ∧ (Tj mX12_lay 66 [some (rV 145), some (iV x1), some (iV x2), some (iV x3), some (iV (x4 + 1))] [] m P)))))) ∧ (¬ x4 < (4 * (m 145 17)) → (Tj mX12_lay 57 [some (rV 145), some (iV x1), some (iV x2), some (iV x3)] [] m P)))) : Tj mX12_lay 66 [some (rV 145), some (iV x1), some (iV x2), some (iV x3), some (iV x4)] [] m P := by
  obtain ⟨o1, h⟩ := h
  refine Tj.iload dX12_lay_66 rfl rfl ?_
  refine Tj.iconst dX12_lay_68 (by decide) rfl ?_
  refine Tj.aload_n dX12_lay_69 rfl rfl ?_
  refine Tj.gI (j := 17) dX12_lay_70 fl_X12_195 sh_145 rfl rfl ?_
  refine Tj.imul dX12_lay_73 o1 rfl ?_
  refine Tj.icmp_ge dX12_lay_74 rfl rfl (fun c1 => ?_) (fun c1 => ?_)
  · have h := h.1 c1
    obtain ⟨⟨o2, o3, o4⟩, h⟩ := h
    refine Tj.aload_n dX12_lay_77 rfl rfl ?_
    refine Tj.getR (b := 161) dX12_lay_78 fl_X12_55 sh_145 rfl rfl ?_
    refine Tj.iload dX12_lay_81 rfl rfl ?_
    refine Tj.iconst dX12_lay_83 (by decide) rfl ?_
    refine Tj.idiv dX12_lay_84 o2 (by decide) rfl ?_
    refine Tj.iald dX12_lay_85 sh_161 o3 o4 rfl ?_
    refine Tj.iconst dX12_lay_86 (by decide) rfl ?_
    refine Tj.icmp_ne dX12_lay_87 rfl rfl (fun c2 => ?_) (fun c2 => ?_)
    · have h := h.1 c2
      obtain ⟨o5, h⟩ := h
      refine Tj.aload_n dX12_lay_90 rfl rfl ?_
      refine Tj.getR (b := 148) dX12_lay_91 fl_X12_16 sh_145 rfl rfl ?_
      refine Tj.iload dX12_lay_94 rfl rfl ?_
      refine Tj.iald dX12_lay_96 sh_148 o2 o5 rfl ?_
      refine Tj.if_ne dX12_lay_97 rfl rfl (fun c3 => ?_) (fun c3 => ?_)
      · have h := h.1 c3
        refine Tj.aload_n dX12_lay_100 rfl rfl ?_
        refine Tj.iload dX12_lay_101 rfl rfl ?_
        refine Tj.iconst dX12_lay_103 (by decide) rfl ?_
        refine Tj.idiv dX12_lay_104 o2 (by decide) rfl ?_
        refine Tj.iload dX12_lay_105 rfl rfl ?_
        refine Tj.iconst dX12_lay_107 (by decide) rfl ?_
        refine Tj.irem dX12_lay_108 o2 (by decide) rfl ?_
        refine Tj.callVi (as := [_, _]) (rest := []) dX12_lay_109 ln_X12_236 sh_145 (by decide) rfl rfl (Nat.le_of_ble_eq_true rfl) ⟨Nat.le_of_ble_eq_true rfl, Nat.le_of_ble_eq_true rfl⟩ (Nat.le_of_ble_eq_true rfl) rfl ?_
        refine Cli.mono h (fun r1 m1 h => ?_)
        refine Tj.istore dX12_lay_112 (Nat.le_of_ble_eq_true rfl) rfl rfl ?_
        refine Tj.iload_n dX12_lay_114 rfl rfl ?_
        have hj : Tj mX12_lay 129 [some (rV 145), some (iV x1), none, some (iV x3), some (iV x4), some (iV r1)] [iV (if x2 = 0 then (if r1 = 2 then 1 else 0) else 1)] m1 P := by
          generalize hv1 : ((if x2 = 0 then (if r1 = 2 then 1 else 0) else 1) : Int) = v1
          have h := h v1 hv1.symm
          refine Tj.istore_n dX12_lay_129 (Nat.le_of_ble_eq_true rfl) rfl rfl ?_
          refine Tj.iload_n dX12_lay_130 rfl rfl ?_
          refine Tj.iload dX12_lay_131 rfl rfl ?_
          refine Tj.iconst dX12_lay_133 (by decide) rfl ?_
          have hj : Tj mX12_lay 142 [some (rV 145), none, some (iV v1), some (iV x3), some (iV x4), some (iV r1)] [iV (if r1 = 1 then 1 else 0), iV x1] m1 P := by
            generalize hv2 : ((if r1 = 1 then 1 else 0) : Int) = v2
            have h := h v2 hv2.symm
            obtain ⟨o6, h⟩ := h
            refine Tj.iadd dX12_lay_142 o6 rfl ?_
            refine Tj.istore_n dX12_lay_143 (Nat.le_of_ble_eq_true rfl) rfl rfl ?_
            refine Tj.iload_n dX12_lay_144 rfl rfl ?_
            have hj : Tj mX12_lay 159 [some (rV 145), some (iV (x1 + v2)), some (iV v1), none, some (iV x4)] [iV (if x3 = 0 then (if r1 = 1 then 1 else 0) else 1)] m1 P := by
              generalize hv3 : ((if x3 = 0 then (if r1 = 1 then 1 else 0) else 1) : Int) = v3
              have h := h v3 hv3.symm
              obtain ⟨o7, h⟩ := h
              refine Tj.istore_n dX12_lay_159 (Nat.le_of_ble_eq_true rfl) rfl rfl ?_
              refine Tj.iinc dX12_lay_160 rfl (Nat.le_of_ble_eq_true rfl) rfl o7 rfl ?_
              refine Tj.goto dX12_lay_163 rfl ?_
              exact Tj.cut h ⟨rfl, ⟨rfl, ⟨rfl, ⟨rfl, ⟨rfl, trivial⟩⟩⟩⟩⟩
            refine Tj.if_ne dX12_lay_145 rfl rfl (fun c7 => ?_) (fun c7 => ?_)
            · refine Tj.iload dX12_lay_148 rfl rfl ?_
              refine Tj.iconst dX12_lay_150 (by decide) rfl ?_
              refine Tj.icmp_ne dX12_lay_151 rfl rfl (fun c8 => ?_) (fun c8 => ?_)
              · refine Tj.iconst dX12_lay_154 (by decide) rfl ?_
                refine Tj.goto dX12_lay_155 rfl ?_
                try simp only [if_pos c7, if_pos c8] at hj ⊢
                exact Tj.cut hj ⟨rfl, ⟨rfl, ⟨rfl, ⟨rfl, trivial⟩⟩⟩⟩
              · refine Tj.iconst dX12_lay_158 (by decide) rfl ?_
                try simp only [if_pos c7, if_neg c8] at hj ⊢
                exact Tj.cut hj ⟨rfl, ⟨rfl, ⟨rfl, ⟨rfl, trivial⟩⟩⟩⟩
            · refine Tj.iconst dX12_lay_154 (by decide) rfl ?_
              refine Tj.goto dX12_lay_155 rfl ?_
              try simp only [if_neg c7] at hj ⊢
              exact Tj.cut hj ⟨rfl, ⟨rfl, ⟨rfl, ⟨rfl, trivial⟩⟩⟩⟩
          refine Tj.icmp_ne dX12_lay_134 rfl rfl (fun c6 => ?_) (fun c6 => ?_)
          · refine Tj.iconst dX12_lay_137 (by decide) rfl ?_
            refine Tj.goto dX12_lay_138 rfl ?_
            try simp only [if_pos c6] at hj ⊢
            exact Tj.cut hj ⟨rfl, ⟨rfl, ⟨rfl, ⟨rfl, ⟨rfl, trivial⟩⟩⟩⟩⟩
          · refine Tj.iconst dX12_lay_141 (by decide) rfl ?_
            try simp only [if_neg c6] at hj ⊢
            exact Tj.cut hj ⟨rfl, ⟨rfl, ⟨rfl, ⟨rfl, ⟨rfl, trivial⟩⟩⟩⟩⟩
        refine Tj.if_ne dX12_lay_115 rfl rfl (fun c4 => ?_) (fun c4 => ?_)
        · refine Tj.iload dX12_lay_118 rfl rfl ?_
          refine Tj.iconst dX12_lay_120 (by decide) rfl ?_
          refine Tj.icmp_ne dX12_lay_121 rfl rfl (fun c5 => ?_) (fun c5 => ?_)
          · refine Tj.iconst dX12_lay_124 (by decide) rfl ?_
            refine Tj.goto dX12_lay_125 rfl ?_
            try simp only [if_pos c4, if_pos c5] at hj ⊢
            exact Tj.cut hj ⟨rfl, ⟨rfl, ⟨rfl, ⟨rfl, ⟨rfl, trivial⟩⟩⟩⟩⟩
          · refine Tj.iconst dX12_lay_128 (by decide) rfl ?_
            try simp only [if_pos c4, if_neg c5] at hj ⊢
            exact Tj.cut hj ⟨rfl, ⟨rfl, ⟨rfl, ⟨rfl, ⟨rfl, trivial⟩⟩⟩⟩⟩
        · refine Tj.iconst dX12_lay_124 (by decide) rfl ?_
          refine Tj.goto dX12_lay_125 rfl ?_
          try simp only [if_neg c4] at hj ⊢
          exact Tj.cut hj ⟨rfl, ⟨rfl, ⟨rfl, ⟨rfl, ⟨rfl, trivial⟩⟩⟩⟩⟩
      · have h := h.2 c3
        obtain ⟨o8, h⟩ := h
        refine Tj.iinc dX12_lay_160 rfl (Nat.le_of_ble_eq_true rfl) rfl o8 rfl ?_
        refine Tj.goto dX12_lay_163 rfl ?_
        exact Tj.cut h ⟨rfl, ⟨rfl, ⟨rfl, ⟨rfl, ⟨rfl, trivial⟩⟩⟩⟩⟩
    · have h := h.2 c2
      obtain ⟨o9, h⟩ := h
      refine Tj.iinc dX12_lay_160 rfl (Nat.le_of_ble_eq_true rfl) rfl o9 rfl ?_
      refine Tj.goto dX12_lay_163 rfl ?_
      exact Tj.cut h ⟨rfl, ⟨rfl, ⟨rfl, ⟨rfl, ⟨rfl, trivial⟩⟩⟩⟩⟩
  · have h := h.2 c1
    refine Tj.goto dX12_lay_166 rfl ?_
    exact Tj.cut h ⟨rfl, ⟨rfl, ⟨rfl, ⟨rfl, trivial⟩⟩⟩⟩

theorem wX12_lay_188 {m : tM} {P : Option tV → tM → Prop} {x4 : Int}  (h : (x4 < (m 145 17) → (Tj mX12_lay 200 [some (rV 145), none, none, none, some (iV x4), some (iV 0)] [] m P)) ∧ (¬ x4 < (m 145 17) → (P (some (iV 0)) m))) : Tj mX12_lay 188 [some (rV 145), none, none, none, some (iV x4)] [] m P := by
  refine Tj.iload dX12_lay_188 rfl rfl ?_
  refine Tj.aload_n dX12_lay_190 rfl rfl ?_
  refine Tj.gI (j := 17) dX12_lay_191 fl_X12_195 sh_145 rfl rfl ?_
  refine Tj.icmp_ge dX12_lay_194 rfl rfl (fun c1 => ?_) (fun c1 => ?_)
  · have h := h.1 c1
    refine Tj.iconst dX12_lay_197 (by decide) rfl ?_
    refine Tj.istore dX12_lay_198 (Nat.le_of_ble_eq_true rfl) rfl rfl ?_
    exact Tj.cut h ⟨rfl, ⟨rfl, ⟨rfl, trivial⟩⟩⟩
  · have h := h.2 c1
    refine Tj.iconst dX12_lay_255 (by decide) rfl ?_
    exact Tj.iret dX12_lay_256 rfl h

theorem wX12_lay_200 {m : tM} {P : Option tV → tM → Prop} {x4 : Int} {x5 : Int}  (h : (x5 < x4 → ((0 ≤ x4 ∧ x4 < 384 ∧ 0 ≤ x5 ∧ x5 < 384) ∧ (((m 162 x4) = (m 162 x5) → (((m 163 x4) = (m 163 x5) → (P (some (iV 3)) m)) ∧ (¬ (m 163 x4) = (m 163 x5) → ((R32 (x5 + 1)) ∧ (Tj mX12_lay 200 [some (rV 145), none, none, none, some (iV x4), some (iV (x5 + 1))] [] m P))))) ∧ (¬ (m 162 x4) = (m 162 x5) → ((R32 (x5 + 1)) ∧ (Tj mX12_lay 200 [some (rV 145), none, none, none, some (iV x4), some (iV (x5 + 1))] [] m P)))))) ∧ (¬ x5 < x4 → ((R32 (x4 + 1)) ∧ (Tj mX12_lay 188 [some (rV 145), none, none, none, some (iV (x4 + 1))] [] m P)))) : Tj mX12_lay 200 [some (rV 145), none, none, none, some (iV x4), some (iV x5)] [] m P := by
  refine Tj.iload dX12_lay_200 rfl rfl ?_
  refine Tj.iload dX12_lay_202 rfl rfl ?_
  refine Tj.icmp_ge dX12_lay_204 rfl rfl (fun c1 => ?_) (fun c1 => ?_)
  · have h := h.1 c1
    obtain ⟨⟨o1, o2, o3, o4⟩, h⟩ := h
    refine Tj.aload_n dX12_lay_207 rfl rfl ?_
    refine Tj.getR (b := 162) dX12_lay_208 fl_X12_58 sh_145 rfl rfl ?_
    refine Tj.iload dX12_lay_211 rfl rfl ?_
    refine Tj.iald dX12_lay_213 sh_162 o1 o2 rfl ?_
    refine Tj.aload_n dX12_lay_214 rfl rfl ?_
    refine Tj.getR (b := 162) dX12_lay_215 fl_X12_58 sh_145 rfl rfl ?_
    refine Tj.iload dX12_lay_218 rfl rfl ?_
    refine Tj.iald dX12_lay_220 sh_162 o3 o4 rfl ?_
    refine Tj.icmp_ne dX12_lay_221 rfl rfl (fun c2 => ?_) (fun c2 => ?_)
    · have h := h.1 c2
      refine Tj.aload_n dX12_lay_224 rfl rfl ?_
      refine Tj.getR (b := 163) dX12_lay_225 fl_X12_61 sh_145 rfl rfl ?_
      refine Tj.iload dX12_lay_228 rfl rfl ?_
      refine Tj.iald dX12_lay_230 sh_163 o1 o2 rfl ?_
      refine Tj.aload_n dX12_lay_231 rfl rfl ?_
      refine Tj.getR (b := 163) dX12_lay_232 fl_X12_61 sh_145 rfl rfl ?_
      refine Tj.iload dX12_lay_235 rfl rfl ?_
      refine Tj.iald dX12_lay_237 sh_163 o3 o4 rfl ?_
      refine Tj.icmp_ne dX12_lay_238 rfl rfl (fun c3 => ?_) (fun c3 => ?_)
      · have h := h.1 c3
        refine Tj.iconst dX12_lay_241 (by decide) rfl ?_
        exact Tj.iret dX12_lay_242 rfl h
      · have h := h.2 c3
        obtain ⟨o5, h⟩ := h
        refine Tj.iinc dX12_lay_243 rfl (Nat.le_of_ble_eq_true rfl) rfl o5 rfl ?_
        refine Tj.goto dX12_lay_246 rfl ?_
        exact Tj.cut h ⟨rfl, ⟨rfl, ⟨rfl, trivial⟩⟩⟩
    · have h := h.2 c2
      obtain ⟨o6, h⟩ := h
      refine Tj.iinc dX12_lay_243 rfl (Nat.le_of_ble_eq_true rfl) rfl o6 rfl ?_
      refine Tj.goto dX12_lay_246 rfl ?_
      exact Tj.cut h ⟨rfl, ⟨rfl, ⟨rfl, trivial⟩⟩⟩
  · have h := h.2 c1
    obtain ⟨o7, h⟩ := h
    refine Tj.iinc dX12_lay_249 rfl (Nat.le_of_ble_eq_true rfl) rfl o7 rfl ?_
    refine Tj.goto dX12_lay_252 rfl ?_
    exact Tj.cut h ⟨rfl, ⟨rfl, trivial⟩⟩

theorem wX12_open_0 {m : tM} {P : Option tV → tM → Prop}   (h : Cli mX12_wellOf [rV 145] (up m 145 0 0) (fun r1 m1 => ((r1 = 0 → (Clv mX12_findSkin [rV 145] m1 (fun m2 => ((60 < (m2 145 17) → (P (some (iV (-5))) m2)) ∧ (¬ 60 < (m2 145 17) → (Cli mX12_lay [rV 145] m2 (fun r2 m3 => ((r2 = 0 → (Tj mX12_open 47 [some (rV 145), none, some (iV 0)] [] m3 P)) ∧ (¬ r2 = 0 → ((R32 ((-20) - r2)) ∧ (P (some (iV ((-20) - r2))) m3))))))))))) ∧ (¬ r1 = 0 → (P (some (iV (-4))) m1))))) : Tj mX12_open 0 [some (rV 145)] [] m P := by
  refine Tj.aload_n dX12_open_0 rfl rfl ?_
  refine Tj.iconst dX12_open_1 (by decide) rfl ?_
  refine Tj.pI (j := 0) dX12_open_2 fp_X12_113 sh_145 rfl rfl ?_
  refine Tj.aload_n dX12_open_5 rfl rfl ?_
  refine Tj.callVi (as := []) (rest := []) dX12_open_6 ln_X12_182 sh_145 (by decide) rfl rfl (Nat.le_of_ble_eq_true rfl) ⟨Nat.le_of_ble_eq_true rfl, Nat.le_of_ble_eq_true rfl⟩ (Nat.le_of_ble_eq_true rfl) rfl ?_
  refine Cli.mono h (fun r1 m1 h => ?_)
  refine Tj.if_eq dX12_open_9 rfl rfl (fun c1 => ?_) (fun c1 => ?_)
  · have h := h.1 c1
    refine Tj.aload_n dX12_open_15 rfl rfl ?_
    refine Tj.callVv (as := []) (rest := []) dX12_open_16 ln_X12_223 sh_145 (by decide) rfl rfl (Nat.le_of_ble_eq_true rfl) ⟨Nat.le_of_ble_eq_true rfl, Nat.le_of_ble_eq_true rfl⟩ (Nat.le_of_ble_eq_true rfl) rfl ?_
    refine Clv.mono h (fun m2 h => ?_)
    refine Tj.aload_n dX12_open_19 rfl rfl ?_
    refine Tj.gI (j := 17) dX12_open_20 fl_X12_195 sh_145 rfl rfl ?_
    refine Tj.bipush dX12_open_23 (by decide) (by decide +kernel) rfl ?_
    refine Tj.icmp_le dX12_open_25 rfl rfl (fun c2 => ?_) (fun c2 => ?_)
    · have h := h.1 c2
      refine Tj.bipush dX12_open_28 (by decide) (by decide +kernel) rfl ?_
      exact Tj.iret dX12_open_30 rfl h
    · have h := h.2 c2
      refine Tj.aload_n dX12_open_31 rfl rfl ?_
      refine Tj.callVi (as := []) (rest := []) dX12_open_32 ln_X12_239 sh_145 (by decide) rfl rfl (Nat.le_of_ble_eq_true rfl) ⟨Nat.le_of_ble_eq_true rfl, Nat.le_of_ble_eq_true rfl⟩ (Nat.le_of_ble_eq_true rfl) rfl ?_
      refine Cli.mono h (fun r2 m3 h => ?_)
      refine Tj.istore_n dX12_open_35 (Nat.le_of_ble_eq_true rfl) rfl rfl ?_
      refine Tj.iload_n dX12_open_36 rfl rfl ?_
      refine Tj.if_eq dX12_open_37 rfl rfl (fun c3 => ?_) (fun c3 => ?_)
      · have h := h.1 c3
        refine Tj.iconst dX12_open_45 (by decide) rfl ?_
        refine Tj.istore_n dX12_open_46 (Nat.le_of_ble_eq_true rfl) rfl rfl ?_
        exact Tj.cut h ⟨rfl, ⟨rfl, trivial⟩⟩
      · have h := h.2 c3
        obtain ⟨o1, h⟩ := h
        refine Tj.bipush dX12_open_40 (by decide) (by decide +kernel) rfl ?_
        refine Tj.iload_n dX12_open_42 rfl rfl ?_
        refine Tj.isub dX12_open_43 o1 rfl ?_
        exact Tj.iret dX12_open_44 rfl h
  · have h := h.2 c1
    refine Tj.bipush dX12_open_12 (by decide) (by decide +kernel) rfl ?_
    exact Tj.iret dX12_open_14 rfl h

theorem wX12_open_47 {m : tM} {P : Option tV → tM → Prop} {x2 : Int}  (h : (x2 < (m 145 17) → ((0 ≤ x2 ∧ x2 < 384) ∧ (Cli mX12_in [iV (m 162 x2), iV (-30), iV 30] m (fun r1 m1 => ((r1 = 0 → (P (some (iV (-3))) m1)) ∧ (¬ r1 = 0 → (Cli mX12_in [iV (m1 163 x2), iV (-30), iV 30] m1 (fun r2 m2 => ((r2 = 0 → (P (some (iV (-3))) m2)) ∧ (¬ r2 = 0 → ((R32 (x2 + 1)) ∧ (Tj mX12_open 47 [some (rV 145), none, some (iV (x2 + 1))] [] m2 P)))))))))))) ∧ (¬ x2 < (m 145 17) → (Clv mX12_keep [rV 145] m (fun m3 => (Tj mX12_open 110 [some (rV 145), none, some (iV 0)] [] (up m3 145 4 (m3 145 17)) P))))) : Tj mX12_open 47 [some (rV 145), none, some (iV x2)] [] m P := by
  refine Tj.iload_n dX12_open_47 rfl rfl ?_
  refine Tj.aload_n dX12_open_48 rfl rfl ?_
  refine Tj.gI (j := 17) dX12_open_49 fl_X12_195 sh_145 rfl rfl ?_
  refine Tj.icmp_ge dX12_open_52 rfl rfl (fun c1 => ?_) (fun c1 => ?_)
  · have h := h.1 c1
    obtain ⟨⟨o1, o2⟩, h⟩ := h
    refine Tj.aload_n dX12_open_55 rfl rfl ?_
    refine Tj.getR (b := 162) dX12_open_56 fl_X12_58 sh_145 rfl rfl ?_
    refine Tj.iload_n dX12_open_59 rfl rfl ?_
    refine Tj.iald dX12_open_60 sh_162 o1 o2 rfl ?_
    refine Tj.bipush dX12_open_61 (by decide) (by decide +kernel) rfl ?_
    refine Tj.bipush dX12_open_63 (by decide) (by decide +kernel) rfl ?_
    refine Tj.callSi (as := [_, _, _]) (rest := []) dX12_open_65 ln_X12_139 rfl rfl (Nat.le_of_ble_eq_true rfl) ⟨Nat.le_of_ble_eq_true rfl, Nat.le_of_ble_eq_true rfl⟩ (Nat.le_of_ble_eq_true rfl) rfl ?_
    refine Cli.mono h (fun r1 m1 h => ?_)
    refine Tj.if_eq dX12_open_68 rfl rfl (fun c2 => ?_) (fun c2 => ?_)
    · have h := h.1 c2
      refine Tj.bipush dX12_open_87 (by decide) (by decide +kernel) rfl ?_
      exact Tj.iret dX12_open_89 rfl h
    · have h := h.2 c2
      refine Tj.aload_n dX12_open_71 rfl rfl ?_
      refine Tj.getR (b := 163) dX12_open_72 fl_X12_61 sh_145 rfl rfl ?_
      refine Tj.iload_n dX12_open_75 rfl rfl ?_
      refine Tj.iald dX12_open_76 sh_163 o1 o2 rfl ?_
      refine Tj.bipush dX12_open_77 (by decide) (by decide +kernel) rfl ?_
      refine Tj.bipush dX12_open_79 (by decide) (by decide +kernel) rfl ?_
      refine Tj.callSi (as := [_, _, _]) (rest := []) dX12_open_81 ln_X12_139 rfl rfl (Nat.le_of_ble_eq_true rfl) ⟨Nat.le_of_ble_eq_true rfl, Nat.le_of_ble_eq_true rfl⟩ (Nat.le_of_ble_eq_true rfl) rfl ?_
      refine Cli.mono h (fun r2 m2 h => ?_)
      refine Tj.if_ne dX12_open_84 rfl rfl (fun c3 => ?_) (fun c3 => ?_)
      · have h := h.1 c3
        refine Tj.bipush dX12_open_87 (by decide) (by decide +kernel) rfl ?_
        exact Tj.iret dX12_open_89 rfl h
      · have h := h.2 c3
        obtain ⟨o3, h⟩ := h
        refine Tj.iinc dX12_open_90 rfl (Nat.le_of_ble_eq_true rfl) rfl o3 rfl ?_
        refine Tj.goto dX12_open_93 rfl ?_
        exact Tj.cut h ⟨rfl, ⟨rfl, trivial⟩⟩
  · have h := h.2 c1
    refine Tj.aload_n dX12_open_96 rfl rfl ?_
    refine Tj.callVv (as := []) (rest := []) dX12_open_97 ln_X12_136 sh_145 (by decide) rfl rfl (Nat.le_of_ble_eq_true rfl) ⟨Nat.le_of_ble_eq_true rfl, Nat.le_of_ble_eq_true rfl⟩ (Nat.le_of_ble_eq_true rfl) rfl ?_
    refine Clv.mono h (fun m3 h => ?_)
    refine Tj.aload_n dX12_open_100 rfl rfl ?_
    refine Tj.aload_n dX12_open_101 rfl rfl ?_
    refine Tj.gI (j := 17) dX12_open_102 fl_X12_195 sh_145 rfl rfl ?_
    refine Tj.pI (j := 4) dX12_open_105 fp_X12_127 sh_145 rfl rfl ?_
    refine Tj.iconst dX12_open_108 (by decide) rfl ?_
    refine Tj.istore_n dX12_open_109 (Nat.le_of_ble_eq_true rfl) rfl rfl ?_
    exact Tj.cut h ⟨rfl, ⟨rfl, trivial⟩⟩

theorem wX12_open_110 {m : tM} {P : Option tV → tM → Prop} {x2 : Int}  (h : (x2 < (m 145 17) → ((0 ≤ x2 ∧ x2 < 384 ∧ x2 < 60) ∧ (Tj mX12_open 158 [some (rV 145), none, some (iV x2), some (iV 0)] [] (up (up (up (up m 149 x2 (m 162 x2)) 150 x2 (m 163 x2)) 151 x2 0) 152 x2 0) P))) ∧ (¬ x2 < (m 145 17) → (Clv mX12_sort [rV 145] m (fun m1 => (Cli mX12_creases [rV 145] m1 (fun r1 m2 => (P (some (iV r1)) m2))))))) : Tj mX12_open 110 [some (rV 145), none, some (iV x2)] [] m P := by
  refine Tj.iload_n dX12_open_110 rfl rfl ?_
  refine Tj.aload_n dX12_open_111 rfl rfl ?_
  refine Tj.gI (j := 17) dX12_open_112 fl_X12_195 sh_145 rfl rfl ?_
  refine Tj.icmp_ge dX12_open_115 rfl rfl (fun c1 => ?_) (fun c1 => ?_)
  · have h := h.1 c1
    obtain ⟨⟨o1, o2, o3⟩, h⟩ := h
    refine Tj.aload_n dX12_open_118 rfl rfl ?_
    refine Tj.getR (b := 149) dX12_open_119 fl_X12_19 sh_145 rfl rfl ?_
    refine Tj.iload_n dX12_open_122 rfl rfl ?_
    refine Tj.aload_n dX12_open_123 rfl rfl ?_
    refine Tj.getR (b := 162) dX12_open_124 fl_X12_58 sh_145 rfl rfl ?_
    refine Tj.iload_n dX12_open_127 rfl rfl ?_
    refine Tj.iald dX12_open_128 sh_162 o1 o2 rfl ?_
    refine Tj.iast dX12_open_129 sh_149 o1 o3 rfl ?_
    refine Tj.aload_n dX12_open_130 rfl rfl ?_
    refine Tj.getR (b := 150) dX12_open_131 fl_X12_22 sh_145 rfl rfl ?_
    refine Tj.iload_n dX12_open_134 rfl rfl ?_
    refine Tj.aload_n dX12_open_135 rfl rfl ?_
    refine Tj.getR (b := 163) dX12_open_136 fl_X12_61 sh_145 rfl rfl ?_
    refine Tj.iload_n dX12_open_139 rfl rfl ?_
    refine Tj.iald dX12_open_140 sh_163 o1 o2 rfl ?_
    refine Tj.iast dX12_open_141 sh_150 o1 o3 rfl ?_
    refine Tj.aload_n dX12_open_142 rfl rfl ?_
    refine Tj.getR (b := 151) dX12_open_143 fl_X12_25 sh_145 rfl rfl ?_
    refine Tj.iload_n dX12_open_146 rfl rfl ?_
    refine Tj.iconst dX12_open_147 (by decide) rfl ?_
    refine Tj.iast dX12_open_148 sh_151 o1 o3 rfl ?_
    refine Tj.aload_n dX12_open_149 rfl rfl ?_
    refine Tj.getR (b := 152) dX12_open_150 fl_X12_28 sh_145 rfl rfl ?_
    refine Tj.iload_n dX12_open_153 rfl rfl ?_
    refine Tj.iconst dX12_open_154 (by decide) rfl ?_
    refine Tj.iast dX12_open_155 sh_152 o1 o3 rfl ?_
    refine Tj.iconst dX12_open_156 (by decide) rfl ?_
    refine Tj.istore_n dX12_open_157 (Nat.le_of_ble_eq_true rfl) rfl rfl ?_
    exact Tj.cut h ⟨rfl, ⟨rfl, ⟨rfl, trivial⟩⟩⟩
  · have h := h.2 c1
    refine Tj.aload_n dX12_open_265 rfl rfl ?_
    refine Tj.callVv (as := []) (rest := []) dX12_open_266 ln_X12_242 sh_145 (by decide) rfl rfl (Nat.le_of_ble_eq_true rfl) ⟨Nat.le_of_ble_eq_true rfl, Nat.le_of_ble_eq_true rfl⟩ (Nat.le_of_ble_eq_true rfl) rfl ?_
    refine Clv.mono h (fun m1 h => ?_)
    refine Tj.aload_n dX12_open_269 rfl rfl ?_
    refine Tj.callVi (as := []) (rest := []) dX12_open_270 ln_X12_245 sh_145 (by decide) rfl rfl (Nat.le_of_ble_eq_true rfl) ⟨Nat.le_of_ble_eq_true rfl, Nat.le_of_ble_eq_true rfl⟩ (Nat.le_of_ble_eq_true rfl) rfl ?_
    refine Cli.mono h (fun r1 m2 h => ?_)
    exact Tj.iret dX12_open_273 rfl h

theorem wX12_open_158 {m : tM} {P : Option tV → tM → Prop} {x2 : Int} {x3 : Int}  (h : (x3 < 4 → ((0 ≤ x2 ∧ x2 < 384 ∧ R32 (x3 + (m 164 x2)) ∧ 0 ≤ (x3 + (m 164 x2)) ∧ R32 (4 * x2) ∧ R32 ((4 * x2) + x3) ∧ 0 ≤ ((4 * x2) + x3) ∧ ((4 * x2) + x3) < 1536) ∧ (((m 148 ((4 * x2) + x3)) = 0 → ((((x3 + (m 164 x2)) % 4) < 2 → (Clv mX12_findAcross [rV 145, iV x2, iV x3] m (fun m1 => ((((x3 + (m 164 x2)) % 4) = 0 → ((R32 (2 + (m1 145 23)) ∧ x2 < 60 ∧ R32 (x3 + 1)) ∧ (Tj mX12_open 158 [some (rV 145), none, some (iV x2), some (iV (x3 + 1))] [] (up (up m1 151 x2 (2 + (m1 145 23))) 152 x2 (m1 152 x2)) P))) ∧ (¬ ((x3 + (m 164 x2)) % 4) = 0 → ((x2 < 60) ∧ ((((x3 + (m 164 x2)) % 4) = 1 → ((R32 (2 + (m1 145 23)) ∧ R32 (x3 + 1)) ∧ (Tj mX12_open 158 [some (rV 145), none, some (iV x2), some (iV (x3 + 1))] [] (up (up m1 151 x2 (m1 151 x2)) 152 x2 (2 + (m1 145 23))) P))) ∧ (¬ ((x3 + (m 164 x2)) % 4) = 1 → ((R32 (x3 + 1)) ∧ (Tj mX12_open 158 [some (rV 145), none, some (iV x2), some (iV (x3 + 1))] [] (up (up m1 151 x2 (m1 151 x2)) 152 x2 (m1 152 x2)) P)))))))))) ∧ (¬ ((x3 + (m 164 x2)) % 4) < 2 → ((R32 (x3 + 1)) ∧ (Tj mX12_open 158 [some (rV 145), none, some (iV x2), some (iV (x3 + 1))] [] m P))))) ∧ (¬ (m 148 ((4 * x2) + x3)) = 0 → ((R32 (x3 + 1)) ∧ (Tj mX12_open 158 [some (rV 145), none, some (iV x2), some (iV (x3 + 1))] [] m P)))))) ∧ (¬ x3 < 4 → ((R32 (x2 + 1)) ∧ (Tj mX12_open 110 [some (rV 145), none, some (iV (x2 + 1))] [] m P)))) : Tj mX12_open 158 [some (rV 145), none, some (iV x2), some (iV x3)] [] m P := by
  refine Tj.iload_n dX12_open_158 rfl rfl ?_
  refine Tj.iconst dX12_open_159 (by decide) rfl ?_
  refine Tj.icmp_ge dX12_open_160 rfl rfl (fun c1 => ?_) (fun c1 => ?_)
  · have h := h.1 c1
    obtain ⟨⟨o1, o2, o3, o4, o5, o6, o7, o8⟩, h⟩ := h
    refine Tj.iload_n dX12_open_163 rfl rfl ?_
    refine Tj.aload_n dX12_open_164 rfl rfl ?_
    refine Tj.getR (b := 164) dX12_open_165 fl_X12_64 sh_145 rfl rfl ?_
    refine Tj.iload_n dX12_open_168 rfl rfl ?_
    refine Tj.iald dX12_open_169 sh_164 o1 o2 rfl ?_
    refine Tj.iadd dX12_open_170 o3 rfl ?_
    refine Tj.iconst dX12_open_171 (by decide) rfl ?_
    refine Tj.irem dX12_open_172 o4 (by decide) rfl ?_
    refine Tj.istore dX12_open_173 (Nat.le_of_ble_eq_true rfl) rfl rfl ?_
    refine Tj.aload_n dX12_open_175 rfl rfl ?_
    refine Tj.getR (b := 148) dX12_open_176 fl_X12_16 sh_145 rfl rfl ?_
    refine Tj.iconst dX12_open_179 (by decide) rfl ?_
    refine Tj.iload_n dX12_open_180 rfl rfl ?_
    refine Tj.imul dX12_open_181 o5 rfl ?_
    refine Tj.iload_n dX12_open_182 rfl rfl ?_
    refine Tj.iadd dX12_open_183 o6 rfl ?_
    refine Tj.iald dX12_open_184 sh_148 o7 o8 rfl ?_
    refine Tj.if_ne dX12_open_185 rfl rfl (fun c2 => ?_) (fun c2 => ?_)
    · have h := h.1 c2
      refine Tj.iload dX12_open_188 rfl rfl ?_
      refine Tj.iconst dX12_open_190 (by decide) rfl ?_
      refine Tj.icmp_ge dX12_open_191 rfl rfl (fun c3 => ?_) (fun c3 => ?_)
      · have h := h.1 c3
        refine Tj.aload_n dX12_open_194 rfl rfl ?_
        refine Tj.iload_n dX12_open_195 rfl rfl ?_
        refine Tj.iload_n dX12_open_196 rfl rfl ?_
        refine Tj.callVv (as := [_, _]) (rest := []) dX12_open_197 ln_X12_226 sh_145 (by decide) rfl rfl (Nat.le_of_ble_eq_true rfl) ⟨Nat.le_of_ble_eq_true rfl, Nat.le_of_ble_eq_true rfl⟩ (Nat.le_of_ble_eq_true rfl) rfl ?_
        refine Clv.mono h (fun m1 h => ?_)
        refine Tj.aload_n dX12_open_200 rfl rfl ?_
        refine Tj.getR (b := 151) dX12_open_201 fl_X12_25 sh_145 rfl rfl ?_
        refine Tj.iload_n dX12_open_204 rfl rfl ?_
        refine Tj.iload dX12_open_205 rfl rfl ?_
        refine Tj.if_ne dX12_open_207 rfl rfl (fun c4 => ?_) (fun c4 => ?_)
        · have h := h.1 c4
          obtain ⟨⟨o9, o10, o11⟩, h⟩ := h
          refine Tj.iconst dX12_open_210 (by decide) rfl ?_
          refine Tj.aload_n dX12_open_211 rfl rfl ?_
          refine Tj.gI (j := 23) dX12_open_212 fl_X12_204 sh_145 rfl rfl ?_
          refine Tj.iadd dX12_open_215 o9 rfl ?_
          refine Tj.goto dX12_open_216 rfl ?_
          refine Tj.iast dX12_open_225 sh_151 o1 o10 rfl ?_
          refine Tj.aload_n dX12_open_226 rfl rfl ?_
          refine Tj.getR (b := 152) dX12_open_227 fl_X12_28 sh_145 rfl rfl ?_
          refine Tj.iload_n dX12_open_230 rfl rfl ?_
          refine Tj.iload dX12_open_231 rfl rfl ?_
          refine Tj.iconst dX12_open_233 (by decide) rfl ?_
          refine Tj.icmp_ne dX12_open_234 rfl rfl (fun c5 => ?_) (fun c5 => ?_)
          case refine_1 => exact absurd (c4.symm.trans c5) (by decide)
          refine Tj.aload_n dX12_open_246 rfl rfl ?_
          refine Tj.getR (b := 152) dX12_open_247 fl_X12_28 sh_145 rfl rfl ?_
          refine Tj.iload_n dX12_open_250 rfl rfl ?_
          refine Tj.iald dX12_open_251 sh_152 o1 o10 rfl ?_
          refine Tj.iast dX12_open_252 sh_152 o1 o10 rfl ?_
          refine Tj.iinc dX12_open_253 rfl (Nat.le_of_ble_eq_true rfl) rfl o11 rfl ?_
          refine Tj.goto dX12_open_256 rfl ?_
          exact Tj.cut h ⟨rfl, ⟨rfl, ⟨rfl, trivial⟩⟩⟩
        · have h := h.2 c4
          obtain ⟨o12, h⟩ := h
          refine Tj.aload_n dX12_open_219 rfl rfl ?_
          refine Tj.getR (b := 151) dX12_open_220 fl_X12_25 sh_145 rfl rfl ?_
          refine Tj.iload_n dX12_open_223 rfl rfl ?_
          refine Tj.iald dX12_open_224 sh_151 o1 o12 rfl ?_
          refine Tj.iast dX12_open_225 sh_151 o1 o12 rfl ?_
          refine Tj.aload_n dX12_open_226 rfl rfl ?_
          refine Tj.getR (b := 152) dX12_open_227 fl_X12_28 sh_145 rfl rfl ?_
          refine Tj.iload_n dX12_open_230 rfl rfl ?_
          refine Tj.iload dX12_open_231 rfl rfl ?_
          refine Tj.iconst dX12_open_233 (by decide) rfl ?_
          refine Tj.icmp_ne dX12_open_234 rfl rfl (fun c6 => ?_) (fun c6 => ?_)
          · have h := h.1 c6
            obtain ⟨⟨o13, o14⟩, h⟩ := h
            refine Tj.iconst dX12_open_237 (by decide) rfl ?_
            refine Tj.aload_n dX12_open_238 rfl rfl ?_
            refine Tj.gI (j := 23) dX12_open_239 fl_X12_204 sh_145 rfl rfl ?_
            refine Tj.iadd dX12_open_242 o13 rfl ?_
            refine Tj.goto dX12_open_243 rfl ?_
            refine Tj.iast dX12_open_252 sh_152 o1 o12 rfl ?_
            refine Tj.iinc dX12_open_253 rfl (Nat.le_of_ble_eq_true rfl) rfl o14 rfl ?_
            refine Tj.goto dX12_open_256 rfl ?_
            exact Tj.cut h ⟨rfl, ⟨rfl, ⟨rfl, trivial⟩⟩⟩
          · have h := h.2 c6
            obtain ⟨o15, h⟩ := h
            refine Tj.aload_n dX12_open_246 rfl rfl ?_
            refine Tj.getR (b := 152) dX12_open_247 fl_X12_28 sh_145 rfl rfl ?_
            refine Tj.iload_n dX12_open_250 rfl rfl ?_
            refine Tj.iald dX12_open_251 sh_152 o1 o12 rfl ?_
            refine Tj.iast dX12_open_252 sh_152 o1 o12 rfl ?_
            refine Tj.iinc dX12_open_253 rfl (Nat.le_of_ble_eq_true rfl) rfl o15 rfl ?_
            refine Tj.goto dX12_open_256 rfl ?_
            exact Tj.cut h ⟨rfl, ⟨rfl, ⟨rfl, trivial⟩⟩⟩
      · have h := h.2 c3
        obtain ⟨o16, h⟩ := h
        refine Tj.iinc dX12_open_253 rfl (Nat.le_of_ble_eq_true rfl) rfl o16 rfl ?_
        refine Tj.goto dX12_open_256 rfl ?_
        exact Tj.cut h ⟨rfl, ⟨rfl, ⟨rfl, trivial⟩⟩⟩
    · have h := h.2 c2
      obtain ⟨o17, h⟩ := h
      refine Tj.iinc dX12_open_253 rfl (Nat.le_of_ble_eq_true rfl) rfl o17 rfl ?_
      refine Tj.goto dX12_open_256 rfl ?_
      exact Tj.cut h ⟨rfl, ⟨rfl, ⟨rfl, trivial⟩⟩⟩
  · have h := h.2 c1
    obtain ⟨o18, h⟩ := h
    refine Tj.iinc dX12_open_259 rfl (Nat.le_of_ble_eq_true rfl) rfl o18 rfl ?_
    refine Tj.goto dX12_open_262 rfl ?_
    exact Tj.cut h ⟨rfl, ⟨rfl, trivial⟩⟩

theorem wX12_isAhead_0 {m : tM} {P : Option tV → tM → Prop} {x1 : Int} {x2 : Int} {x3 : Int}  (h : (0 ≤ x3 ∧ x3 < 60) ∧ ((x2 = (m 150 x3) → (∀ v1 : Int, v1 = (if x1 < (m 149 x3) then 1 else 0) → (P (some (iV v1)) m))) ∧ (¬ x2 = (m 150 x3) → (∀ v2 : Int, v2 = (if x2 < (m 150 x3) then 1 else 0) → (P (some (iV v2)) m))))) : Tj mX12_isAhead 0 [some (rV 145), some (iV x1), some (iV x2), some (iV x3)] [] m P := by
  obtain ⟨⟨o1, o2⟩, h⟩ := h
  refine Tj.iload_n dX12_isAhead_0 rfl rfl ?_
  refine Tj.aload_n dX12_isAhead_1 rfl rfl ?_
  refine Tj.getR (b := 150) dX12_isAhead_2 fl_X12_22 sh_145 rfl rfl ?_
  refine Tj.iload_n dX12_isAhead_5 rfl rfl ?_
  refine Tj.iald dX12_isAhead_6 sh_150 o1 o2 rfl ?_
  refine Tj.icmp_eq dX12_isAhead_7 rfl rfl (fun c1 => ?_) (fun c1 => ?_)
  · have h := h.1 c1
    refine Tj.iload_n dX12_isAhead_28 rfl rfl ?_
    refine Tj.aload_n dX12_isAhead_29 rfl rfl ?_
    refine Tj.getR (b := 149) dX12_isAhead_30 fl_X12_19 sh_145 rfl rfl ?_
    refine Tj.iload_n dX12_isAhead_33 rfl rfl ?_
    refine Tj.iald dX12_isAhead_34 sh_149 o1 o2 rfl ?_
    have hj : Tj mX12_isAhead 43 [] [iV (if x1 < (m 149 x3) then 1 else 0)] m P := by
      generalize hv1 : ((if x1 < (m 149 x3) then 1 else 0) : Int) = v1
      have h := h v1 hv1.symm
      exact Tj.zret dX12_isAhead_43 rfl (by rw [← hv1]; (repeat' split) <;> simp) h
    refine Tj.icmp_ge dX12_isAhead_35 rfl rfl (fun c2 => ?_) (fun c2 => ?_)
    · refine Tj.iconst dX12_isAhead_38 (by decide) rfl ?_
      refine Tj.goto dX12_isAhead_39 rfl ?_
      try simp only [if_pos c2] at hj ⊢
      exact Tj.cut hj trivial
    · refine Tj.iconst dX12_isAhead_42 (by decide) rfl ?_
      try simp only [if_neg c2] at hj ⊢
      exact Tj.cut hj trivial
  · have h := h.2 c1
    refine Tj.iload_n dX12_isAhead_10 rfl rfl ?_
    refine Tj.aload_n dX12_isAhead_11 rfl rfl ?_
    refine Tj.getR (b := 150) dX12_isAhead_12 fl_X12_22 sh_145 rfl rfl ?_
    refine Tj.iload_n dX12_isAhead_15 rfl rfl ?_
    refine Tj.iald dX12_isAhead_16 sh_150 o1 o2 rfl ?_
    have hj : Tj mX12_isAhead 43 [] [iV (if x2 < (m 150 x3) then 1 else 0)] m P := by
      generalize hv2 : ((if x2 < (m 150 x3) then 1 else 0) : Int) = v2
      have h := h v2 hv2.symm
      exact Tj.zret dX12_isAhead_43 rfl (by rw [← hv2]; (repeat' split) <;> simp) h
    refine Tj.icmp_ge dX12_isAhead_17 rfl rfl (fun c3 => ?_) (fun c3 => ?_)
    · refine Tj.iconst dX12_isAhead_20 (by decide) rfl ?_
      refine Tj.goto dX12_isAhead_21 rfl ?_
      try simp only [if_pos c3] at hj ⊢
      exact Tj.cut hj trivial
    · refine Tj.iconst dX12_isAhead_24 (by decide) rfl ?_
      refine Tj.goto dX12_isAhead_25 rfl ?_
      try simp only [if_neg c3] at hj ⊢
      exact Tj.cut hj trivial

theorem wX12_place_0 {m : tM} {P : Option tV → tM → Prop} {x1 : Int} {x2 : Int} {x3 : Int} {x4 : Int} {x5 : Int}  (h : (0 ≤ x1 ∧ x1 < 60) ∧ (P none (up (up (up (up m 149 x1 x2) 150 x1 x3) 151 x1 x4) 152 x1 x5))) : Tj mX12_place 0 [some (rV 145), some (iV x1), some (iV x2), some (iV x3), some (iV x4), some (iV x5)] [] m P := by
  obtain ⟨⟨o1, o2⟩, h⟩ := h
  refine Tj.aload_n dX12_place_0 rfl rfl ?_
  refine Tj.getR (b := 149) dX12_place_1 fl_X12_19 sh_145 rfl rfl ?_
  refine Tj.iload_n dX12_place_4 rfl rfl ?_
  refine Tj.iload_n dX12_place_5 rfl rfl ?_
  refine Tj.iast dX12_place_6 sh_149 o1 o2 rfl ?_
  refine Tj.aload_n dX12_place_7 rfl rfl ?_
  refine Tj.getR (b := 150) dX12_place_8 fl_X12_22 sh_145 rfl rfl ?_
  refine Tj.iload_n dX12_place_11 rfl rfl ?_
  refine Tj.iload_n dX12_place_12 rfl rfl ?_
  refine Tj.iast dX12_place_13 sh_150 o1 o2 rfl ?_
  refine Tj.aload_n dX12_place_14 rfl rfl ?_
  refine Tj.getR (b := 151) dX12_place_15 fl_X12_25 sh_145 rfl rfl ?_
  refine Tj.iload_n dX12_place_18 rfl rfl ?_
  refine Tj.iload dX12_place_19 rfl rfl ?_
  refine Tj.iast dX12_place_21 sh_151 o1 o2 rfl ?_
  refine Tj.aload_n dX12_place_22 rfl rfl ?_
  refine Tj.getR (b := 152) dX12_place_23 fl_X12_28 sh_145 rfl rfl ?_
  refine Tj.iload_n dX12_place_26 rfl rfl ?_
  refine Tj.iload dX12_place_27 rfl rfl ?_
  refine Tj.iast dX12_place_29 sh_152 o1 o2 rfl ?_
  exact Tj.vret dX12_place_30 rfl h

theorem wX12_sort_0 {m : tM} {P : Option tV → tM → Prop}   (h : Tj mX12_sort 2 [some (rV 145), some (iV 1)] [] m P) : Tj mX12_sort 0 [some (rV 145)] [] m P := by
  refine Tj.iconst dX12_sort_0 (by decide) rfl ?_
  refine Tj.istore_n dX12_sort_1 (Nat.le_of_ble_eq_true rfl) rfl rfl ?_
  exact Tj.cut h ⟨rfl, ⟨rfl, trivial⟩⟩

theorem wX12_sort_2 {m : tM} {P : Option tV → tM → Prop} {x1 : Int}  (h : (x1 < (m 145 4) → ((0 ≤ x1 ∧ x1 < 60) ∧ (Tj mX12_sort 43 [some (rV 145), some (iV x1), some (iV (m 149 x1)), some (iV (m 150 x1)), some (iV (m 151 x1)), some (iV (m 152 x1)), some (iV x1)] [] m P))) ∧ (¬ x1 < (m 145 4) → (P none m))) : Tj mX12_sort 2 [some (rV 145), some (iV x1)] [] m P := by
  refine Tj.iload_n dX12_sort_2 rfl rfl ?_
  refine Tj.aload_n dX12_sort_3 rfl rfl ?_
  refine Tj.gI (j := 4) dX12_sort_4 fl_X12_127 sh_145 rfl rfl ?_
  refine Tj.icmp_ge dX12_sort_7 rfl rfl (fun c1 => ?_) (fun c1 => ?_)
  · have h := h.1 c1
    obtain ⟨⟨o1, o2⟩, h⟩ := h
    refine Tj.aload_n dX12_sort_10 rfl rfl ?_
    refine Tj.getR (b := 149) dX12_sort_11 fl_X12_19 sh_145 rfl rfl ?_
    refine Tj.iload_n dX12_sort_14 rfl rfl ?_
    refine Tj.iald dX12_sort_15 sh_149 o1 o2 rfl ?_
    refine Tj.istore_n dX12_sort_16 (Nat.le_of_ble_eq_true rfl) rfl rfl ?_
    refine Tj.aload_n dX12_sort_17 rfl rfl ?_
    refine Tj.getR (b := 150) dX12_sort_18 fl_X12_22 sh_145 rfl rfl ?_
    refine Tj.iload_n dX12_sort_21 rfl rfl ?_
    refine Tj.iald dX12_sort_22 sh_150 o1 o2 rfl ?_
    refine Tj.istore_n dX12_sort_23 (Nat.le_of_ble_eq_true rfl) rfl rfl ?_
    refine Tj.aload_n dX12_sort_24 rfl rfl ?_
    refine Tj.getR (b := 151) dX12_sort_25 fl_X12_25 sh_145 rfl rfl ?_
    refine Tj.iload_n dX12_sort_28 rfl rfl ?_
    refine Tj.iald dX12_sort_29 sh_151 o1 o2 rfl ?_
    refine Tj.istore dX12_sort_30 (Nat.le_of_ble_eq_true rfl) rfl rfl ?_
    refine Tj.aload_n dX12_sort_32 rfl rfl ?_
    refine Tj.getR (b := 152) dX12_sort_33 fl_X12_28 sh_145 rfl rfl ?_
    refine Tj.iload_n dX12_sort_36 rfl rfl ?_
    refine Tj.iald dX12_sort_37 sh_152 o1 o2 rfl ?_
    refine Tj.istore dX12_sort_38 (Nat.le_of_ble_eq_true rfl) rfl rfl ?_
    refine Tj.iload_n dX12_sort_40 rfl rfl ?_
    refine Tj.istore dX12_sort_41 (Nat.le_of_ble_eq_true rfl) rfl rfl ?_
    exact Tj.cut h ⟨rfl, ⟨rfl, ⟨rfl, ⟨rfl, ⟨rfl, ⟨rfl, ⟨rfl, trivial⟩⟩⟩⟩⟩⟩⟩
  · have h := h.2 c1
    exact Tj.vret dX12_sort_127 rfl h

theorem wX12_sort_43 {m : tM} {P : Option tV → tM → Prop} {x1 : Int} {x2 : Int} {x3 : Int} {x4 : Int} {x5 : Int} {x6 : Int}  (h : (0 < x6 → ((R32 (x6 - 1)) ∧ (Cli mX12_isAhead [rV 145, iV x2, iV x3, iV (x6 - 1)] m (fun r1 m1 => ((r1 = 0 → (Clv mX12_place [rV 145, iV x6, iV x2, iV x3, iV x4, iV x5] m1 (fun m2 => ((R32 (x1 + 1)) ∧ (Tj mX12_sort 2 [some (rV 145), some (iV (x1 + 1))] [] m2 P))))) ∧ (¬ r1 = 0 → ((0 ≤ (x6 - 1) ∧ (x6 - 1) < 60) ∧ (Clv mX12_place [rV 145, iV x6, iV (m1 149 (x6 - 1)), iV (m1 150 (x6 - 1)), iV (m1 151 (x6 - 1)), iV (m1 152 (x6 - 1))] m1 (fun m3 => ((R32 (x6 + (-1))) ∧ (Tj mX12_sort 43 [some (rV 145), some (iV x1), some (iV x2), some (iV x3), some (iV x4), some (iV x5), some (iV (x6 + (-1)))] [] m3 P))))))))))) ∧ (¬ 0 < x6 → (Clv mX12_place [rV 145, iV x6, iV x2, iV x3, iV x4, iV x5] m (fun m4 => ((R32 (x1 + 1)) ∧ (Tj mX12_sort 2 [some (rV 145), some (iV (x1 + 1))] [] m4 P)))))) : Tj mX12_sort 43 [some (rV 145), some (iV x1), some (iV x2), some (iV x3), some (iV x4), some (iV x5), some (iV x6)] [] m P := by
  refine Tj.iload dX12_sort_43 rfl rfl ?_
  refine Tj.if_le dX12_sort_45 rfl rfl (fun c1 => ?_) (fun c1 => ?_)
  · have h := h.1 c1
    obtain ⟨o1, h⟩ := h
    refine Tj.aload_n dX12_sort_48 rfl rfl ?_
    refine Tj.iload_n dX12_sort_49 rfl rfl ?_
    refine Tj.iload_n dX12_sort_50 rfl rfl ?_
    refine Tj.iload dX12_sort_51 rfl rfl ?_
    refine Tj.iconst dX12_sort_53 (by decide) rfl ?_
    refine Tj.isub dX12_sort_54 o1 rfl ?_
    refine Tj.callVi (as := [_, _, _]) (rest := []) dX12_sort_55 ln_X12_248 sh_145 (by decide) rfl rfl (Nat.le_of_ble_eq_true rfl) ⟨Nat.le_of_ble_eq_true rfl, Nat.le_of_ble_eq_true rfl⟩ (Nat.le_of_ble_eq_true rfl) rfl ?_
    refine Cli.mono h (fun r1 m1 h => ?_)
    refine Tj.if_eq dX12_sort_58 rfl rfl (fun c2 => ?_) (fun c2 => ?_)
    · have h := h.1 c2
      refine Tj.aload_n dX12_sort_109 rfl rfl ?_
      refine Tj.iload dX12_sort_110 rfl rfl ?_
      refine Tj.iload_n dX12_sort_112 rfl rfl ?_
      refine Tj.iload_n dX12_sort_113 rfl rfl ?_
      refine Tj.iload dX12_sort_114 rfl rfl ?_
      refine Tj.iload dX12_sort_116 rfl rfl ?_
      refine Tj.callVv (as := [_, _, _, _, _]) (rest := []) dX12_sort_118 ln_X12_251 sh_145 (by decide) rfl rfl (Nat.le_of_ble_eq_true rfl) ⟨Nat.le_of_ble_eq_true rfl, Nat.le_of_ble_eq_true rfl⟩ (Nat.le_of_ble_eq_true rfl) rfl ?_
      refine Clv.mono h (fun m2 h => ?_)
      obtain ⟨o2, h⟩ := h
      refine Tj.iinc dX12_sort_121 rfl (Nat.le_of_ble_eq_true rfl) rfl o2 rfl ?_
      refine Tj.goto dX12_sort_124 rfl ?_
      exact Tj.cut h ⟨rfl, ⟨rfl, trivial⟩⟩
    · have h := h.2 c2
      obtain ⟨⟨o3, o4⟩, h⟩ := h
      refine Tj.aload_n dX12_sort_61 rfl rfl ?_
      refine Tj.iload dX12_sort_62 rfl rfl ?_
      refine Tj.aload_n dX12_sort_64 rfl rfl ?_
      refine Tj.getR (b := 149) dX12_sort_65 fl_X12_19 sh_145 rfl rfl ?_
      refine Tj.iload dX12_sort_68 rfl rfl ?_
      refine Tj.iconst dX12_sort_70 (by decide) rfl ?_
      refine Tj.isub dX12_sort_71 o1 rfl ?_
      refine Tj.iald dX12_sort_72 sh_149 o3 o4 rfl ?_
      refine Tj.aload_n dX12_sort_73 rfl rfl ?_
      refine Tj.getR (b := 150) dX12_sort_74 fl_X12_22 sh_145 rfl rfl ?_
      refine Tj.iload dX12_sort_77 rfl rfl ?_
      refine Tj.iconst dX12_sort_79 (by decide) rfl ?_
      refine Tj.isub dX12_sort_80 o1 rfl ?_
      refine Tj.iald dX12_sort_81 sh_150 o3 o4 rfl ?_
      refine Tj.aload_n dX12_sort_82 rfl rfl ?_
      refine Tj.getR (b := 151) dX12_sort_83 fl_X12_25 sh_145 rfl rfl ?_
      refine Tj.iload dX12_sort_86 rfl rfl ?_
      refine Tj.iconst dX12_sort_88 (by decide) rfl ?_
      refine Tj.isub dX12_sort_89 o1 rfl ?_
      refine Tj.iald dX12_sort_90 sh_151 o3 o4 rfl ?_
      refine Tj.aload_n dX12_sort_91 rfl rfl ?_
      refine Tj.getR (b := 152) dX12_sort_92 fl_X12_28 sh_145 rfl rfl ?_
      refine Tj.iload dX12_sort_95 rfl rfl ?_
      refine Tj.iconst dX12_sort_97 (by decide) rfl ?_
      refine Tj.isub dX12_sort_98 o1 rfl ?_
      refine Tj.iald dX12_sort_99 sh_152 o3 o4 rfl ?_
      refine Tj.callVv (as := [_, _, _, _, _]) (rest := []) dX12_sort_100 ln_X12_251 sh_145 (by decide) rfl rfl (Nat.le_of_ble_eq_true rfl) ⟨Nat.le_of_ble_eq_true rfl, Nat.le_of_ble_eq_true rfl⟩ (Nat.le_of_ble_eq_true rfl) rfl ?_
      refine Clv.mono h (fun m3 h => ?_)
      obtain ⟨o5, h⟩ := h
      refine Tj.iinc dX12_sort_103 rfl (Nat.le_of_ble_eq_true rfl) rfl o5 rfl ?_
      refine Tj.goto dX12_sort_106 rfl ?_
      exact Tj.cut h ⟨rfl, ⟨rfl, ⟨rfl, ⟨rfl, ⟨rfl, ⟨rfl, ⟨rfl, trivial⟩⟩⟩⟩⟩⟩⟩
  · have h := h.2 c1
    refine Tj.aload_n dX12_sort_109 rfl rfl ?_
    refine Tj.iload dX12_sort_110 rfl rfl ?_
    refine Tj.iload_n dX12_sort_112 rfl rfl ?_
    refine Tj.iload_n dX12_sort_113 rfl rfl ?_
    refine Tj.iload dX12_sort_114 rfl rfl ?_
    refine Tj.iload dX12_sort_116 rfl rfl ?_
    refine Tj.callVv (as := [_, _, _, _, _]) (rest := []) dX12_sort_118 ln_X12_251 sh_145 (by decide) rfl rfl (Nat.le_of_ble_eq_true rfl) ⟨Nat.le_of_ble_eq_true rfl, Nat.le_of_ble_eq_true rfl⟩ (Nat.le_of_ble_eq_true rfl) rfl ?_
    refine Clv.mono h (fun m4 h => ?_)
    obtain ⟨o6, h⟩ := h
    refine Tj.iinc dX12_sort_121 rfl (Nat.le_of_ble_eq_true rfl) rfl o6 rfl ?_
    refine Tj.goto dX12_sort_124 rfl ?_
    exact Tj.cut h ⟨rfl, ⟨rfl, trivial⟩⟩

theorem wX12_creases_0 {m : tM} {P : Option tV → tM → Prop}   (h : Tj mX12_creases 4 [some (rV 145), some (iV 0), some (iV 0)] [] m P) : Tj mX12_creases 0 [some (rV 145)] [] m P := by
  refine Tj.iconst dX12_creases_0 (by decide) rfl ?_
  refine Tj.istore_n dX12_creases_1 (Nat.le_of_ble_eq_true rfl) rfl rfl ?_
  refine Tj.iconst dX12_creases_2 (by decide) rfl ?_
  refine Tj.istore_n dX12_creases_3 (Nat.le_of_ble_eq_true rfl) rfl rfl ?_
  exact Tj.cut h ⟨rfl, ⟨rfl, ⟨rfl, trivial⟩⟩⟩

theorem wX12_creases_4 {m : tM} {P : Option tV → tM → Prop} {x1 : Int} {x2 : Int}  (h : (x2 < (m 145 4) → ((0 ≤ x2 ∧ x2 < 60) ∧ (∀ v1 : Int, v1 = (if (m 151 x2) = 0 then 0 else 1) → (∀ v2 : Int, v2 = (if (m 152 x2) = 0 then 0 else 1) → ((R32 (v1 + v2) ∧ R32 (x1 + (v1 + v2)) ∧ R32 (x2 + 1)) ∧ (Tj mX12_creases 4 [some (rV 145), some (iV (x1 + (v1 + v2))), some (iV (x2 + 1))] [] m P)))))) ∧ (¬ x2 < (m 145 4) → (P (some (iV x1)) m))) : Tj mX12_creases 4 [some (rV 145), some (iV x1), some (iV x2)] [] m P := by
  refine Tj.iload_n dX12_creases_4 rfl rfl ?_
  refine Tj.aload_n dX12_creases_5 rfl rfl ?_
  refine Tj.gI (j := 4) dX12_creases_6 fl_X12_127 sh_145 rfl rfl ?_
  refine Tj.icmp_ge dX12_creases_9 rfl rfl (fun c1 => ?_) (fun c1 => ?_)
  · have h := h.1 c1
    obtain ⟨⟨o1, o2⟩, h⟩ := h
    refine Tj.iload_n dX12_creases_12 rfl rfl ?_
    refine Tj.aload_n dX12_creases_13 rfl rfl ?_
    refine Tj.getR (b := 151) dX12_creases_14 fl_X12_25 sh_145 rfl rfl ?_
    refine Tj.iload_n dX12_creases_17 rfl rfl ?_
    refine Tj.iald dX12_creases_18 sh_151 o1 o2 rfl ?_
    have hj : Tj mX12_creases 27 [some (rV 145), none, some (iV x2)] [iV (if (m 151 x2) = 0 then 0 else 1), iV x1] m P := by
      generalize hv1 : ((if (m 151 x2) = 0 then 0 else 1) : Int) = v1
      have h := h v1 hv1.symm
      refine Tj.aload_n dX12_creases_27 rfl rfl ?_
      refine Tj.getR (b := 152) dX12_creases_28 fl_X12_28 sh_145 rfl rfl ?_
      refine Tj.iload_n dX12_creases_31 rfl rfl ?_
      refine Tj.iald dX12_creases_32 sh_152 o1 o2 rfl ?_
      have hj : Tj mX12_creases 41 [some (rV 145), none, some (iV x2)] [iV (if (m 152 x2) = 0 then 0 else 1), iV v1, iV x1] m P := by
        generalize hv2 : ((if (m 152 x2) = 0 then 0 else 1) : Int) = v2
        have h := h v2 hv2.symm
        obtain ⟨⟨o3, o4, o5⟩, h⟩ := h
        refine Tj.iadd dX12_creases_41 o3 rfl ?_
        refine Tj.iadd dX12_creases_42 o4 rfl ?_
        refine Tj.istore_n dX12_creases_43 (Nat.le_of_ble_eq_true rfl) rfl rfl ?_
        refine Tj.iinc dX12_creases_44 rfl (Nat.le_of_ble_eq_true rfl) rfl o5 rfl ?_
        refine Tj.goto dX12_creases_47 rfl ?_
        exact Tj.cut h ⟨rfl, ⟨rfl, ⟨rfl, trivial⟩⟩⟩
      refine Tj.if_eq dX12_creases_33 rfl rfl (fun c3 => ?_) (fun c3 => ?_)
      · refine Tj.iconst dX12_creases_40 (by decide) rfl ?_
        try simp only [if_pos c3] at hj ⊢
        exact Tj.cut hj ⟨rfl, ⟨rfl, trivial⟩⟩
      · refine Tj.iconst dX12_creases_36 (by decide) rfl ?_
        refine Tj.goto dX12_creases_37 rfl ?_
        try simp only [if_neg c3] at hj ⊢
        exact Tj.cut hj ⟨rfl, ⟨rfl, trivial⟩⟩
    refine Tj.if_eq dX12_creases_19 rfl rfl (fun c2 => ?_) (fun c2 => ?_)
    · refine Tj.iconst dX12_creases_26 (by decide) rfl ?_
      try simp only [if_pos c2] at hj ⊢
      exact Tj.cut hj ⟨rfl, ⟨rfl, trivial⟩⟩
    · refine Tj.iconst dX12_creases_22 (by decide) rfl ?_
      refine Tj.goto dX12_creases_23 rfl ?_
      try simp only [if_neg c2] at hj ⊢
      exact Tj.cut hj ⟨rfl, ⟨rfl, trivial⟩⟩
  · have h := h.2 c1
    refine Tj.iload_n dX12_creases_50 rfl rfl ?_
    exact Tj.iret dX12_creases_51 rfl h

theorem wX12_spotAt_0 {m : tM} {P : Option tV → tM → Prop} {x1 : Int} {x2 : Int}  (h : Tj mX12_spotAt 2 [some (rV 145), some (iV x1), some (iV x2), some (iV 0)] [] m P) : Tj mX12_spotAt 0 [some (rV 145), some (iV x1), some (iV x2)] [] m P := by
  refine Tj.iconst dX12_spotAt_0 (by decide) rfl ?_
  refine Tj.istore_n dX12_spotAt_1 (Nat.le_of_ble_eq_true rfl) rfl rfl ?_
  exact Tj.cut h ⟨rfl, ⟨rfl, ⟨rfl, ⟨rfl, trivial⟩⟩⟩⟩

theorem wX12_spotAt_2 {m : tM} {P : Option tV → tM → Prop} {x1 : Int} {x2 : Int} {x3 : Int}  (h : (x3 < (m 145 4) → ((0 ≤ x3 ∧ x3 < 60) ∧ (((m 149 x3) = x1 → (((m 150 x3) = x2 → (P (some (iV x3)) m)) ∧ (¬ (m 150 x3) = x2 → ((R32 (x3 + 1)) ∧ (Tj mX12_spotAt 2 [some (rV 145), some (iV x1), some (iV x2), some (iV (x3 + 1))] [] m P))))) ∧ (¬ (m 149 x3) = x1 → ((R32 (x3 + 1)) ∧ (Tj mX12_spotAt 2 [some (rV 145), some (iV x1), some (iV x2), some (iV (x3 + 1))] [] m P)))))) ∧ (¬ x3 < (m 145 4) → (P (some (iV (-1))) m))) : Tj mX12_spotAt 2 [some (rV 145), some (iV x1), some (iV x2), some (iV x3)] [] m P := by
  refine Tj.iload_n dX12_spotAt_2 rfl rfl ?_
  refine Tj.aload_n dX12_spotAt_3 rfl rfl ?_
  refine Tj.gI (j := 4) dX12_spotAt_4 fl_X12_127 sh_145 rfl rfl ?_
  refine Tj.icmp_ge dX12_spotAt_7 rfl rfl (fun c1 => ?_) (fun c1 => ?_)
  · have h := h.1 c1
    obtain ⟨⟨o1, o2⟩, h⟩ := h
    refine Tj.aload_n dX12_spotAt_10 rfl rfl ?_
    refine Tj.getR (b := 149) dX12_spotAt_11 fl_X12_19 sh_145 rfl rfl ?_
    refine Tj.iload_n dX12_spotAt_14 rfl rfl ?_
    refine Tj.iald dX12_spotAt_15 sh_149 o1 o2 rfl ?_
    refine Tj.iload_n dX12_spotAt_16 rfl rfl ?_
    refine Tj.icmp_ne dX12_spotAt_17 rfl rfl (fun c2 => ?_) (fun c2 => ?_)
    · have h := h.1 c2
      refine Tj.aload_n dX12_spotAt_20 rfl rfl ?_
      refine Tj.getR (b := 150) dX12_spotAt_21 fl_X12_22 sh_145 rfl rfl ?_
      refine Tj.iload_n dX12_spotAt_24 rfl rfl ?_
      refine Tj.iald dX12_spotAt_25 sh_150 o1 o2 rfl ?_
      refine Tj.iload_n dX12_spotAt_26 rfl rfl ?_
      refine Tj.icmp_ne dX12_spotAt_27 rfl rfl (fun c3 => ?_) (fun c3 => ?_)
      · have h := h.1 c3
        refine Tj.iload_n dX12_spotAt_30 rfl rfl ?_
        exact Tj.iret dX12_spotAt_31 rfl h
      · have h := h.2 c3
        obtain ⟨o3, h⟩ := h
        refine Tj.iinc dX12_spotAt_32 rfl (Nat.le_of_ble_eq_true rfl) rfl o3 rfl ?_
        refine Tj.goto dX12_spotAt_35 rfl ?_
        exact Tj.cut h ⟨rfl, ⟨rfl, ⟨rfl, ⟨rfl, trivial⟩⟩⟩⟩
    · have h := h.2 c2
      obtain ⟨o4, h⟩ := h
      refine Tj.iinc dX12_spotAt_32 rfl (Nat.le_of_ble_eq_true rfl) rfl o4 rfl ?_
      refine Tj.goto dX12_spotAt_35 rfl ?_
      exact Tj.cut h ⟨rfl, ⟨rfl, ⟨rfl, ⟨rfl, trivial⟩⟩⟩⟩
  · have h := h.2 c1
    refine Tj.iconst dX12_spotAt_38 (by decide) rfl ?_
    exact Tj.iret dX12_spotAt_39 rfl h

theorem wX12_neighbour_0 {m : tM} {P : Option tV → tM → Prop} {x1 : Int} {x2 : Int}  (h : (0 ≤ x1 ∧ x1 < 60) ∧ (Cli mX12_stepX [iV x2] m (fun r1 m1 => ((R32 ((m 149 x1) + r1)) ∧ (Cli mX12_stepY [iV x2] m1 (fun r2 m2 => ((R32 ((m1 150 x1) + r2)) ∧ (Cli mX12_spotAt [rV 145, iV ((m 149 x1) + r1), iV ((m1 150 x1) + r2)] m2 (fun r3 m3 => (P (some (iV r3)) m3)))))))))) : Tj mX12_neighbour 0 [some (rV 145), some (iV x1), some (iV x2)] [] m P := by
  obtain ⟨⟨o1, o2⟩, h⟩ := h
  refine Tj.aload_n dX12_neighbour_0 rfl rfl ?_
  refine Tj.aload_n dX12_neighbour_1 rfl rfl ?_
  refine Tj.getR (b := 149) dX12_neighbour_2 fl_X12_19 sh_145 rfl rfl ?_
  refine Tj.iload_n dX12_neighbour_5 rfl rfl ?_
  refine Tj.iald dX12_neighbour_6 sh_149 o1 o2 rfl ?_
  refine Tj.iload_n dX12_neighbour_7 rfl rfl ?_
  refine Tj.callSi (as := [_]) (rest := [_, _]) dX12_neighbour_8 ln_X12_230 rfl rfl (Nat.le_of_ble_eq_true rfl) ⟨Nat.le_of_ble_eq_true rfl, Nat.le_of_ble_eq_true rfl⟩ (Nat.le_of_ble_eq_true rfl) rfl ?_
  refine Cli.mono h (fun r1 m1 h => ?_)
  obtain ⟨o3, h⟩ := h
  refine Tj.iadd dX12_neighbour_11 o3 rfl ?_
  refine Tj.aload_n dX12_neighbour_12 rfl rfl ?_
  refine Tj.getR (b := 150) dX12_neighbour_13 fl_X12_22 sh_145 rfl rfl ?_
  refine Tj.iload_n dX12_neighbour_16 rfl rfl ?_
  refine Tj.iald dX12_neighbour_17 sh_150 o1 o2 rfl ?_
  refine Tj.iload_n dX12_neighbour_18 rfl rfl ?_
  refine Tj.callSi (as := [_]) (rest := [_, _, _]) dX12_neighbour_19 ln_X12_233 rfl rfl (Nat.le_of_ble_eq_true rfl) ⟨Nat.le_of_ble_eq_true rfl, Nat.le_of_ble_eq_true rfl⟩ (Nat.le_of_ble_eq_true rfl) rfl ?_
  refine Cli.mono h (fun r2 m2 h => ?_)
  obtain ⟨o4, h⟩ := h
  refine Tj.iadd dX12_neighbour_22 o4 rfl ?_
  refine Tj.callVi (as := [_, _]) (rest := []) dX12_neighbour_23 ln_X12_255 sh_145 (by decide) rfl rfl (Nat.le_of_ble_eq_true rfl) ⟨Nat.le_of_ble_eq_true rfl, Nat.le_of_ble_eq_true rfl⟩ (Nat.le_of_ble_eq_true rfl) rfl ?_
  refine Cli.mono h (fun r3 m3 h => ?_)
  exact Tj.iret dX12_neighbour_26 rfl h

theorem wX12_creaseOf_0 {m : tM} {P : Option tV → tM → Prop} {x1 : Int} {x2 : Int}  (h : (x2 < 2 → ((x2 = 0 → ((0 ≤ x1 ∧ x1 < 60) ∧ (P (some (iV (m 151 x1))) m))) ∧ (¬ x2 = 0 → ((0 ≤ x1 ∧ x1 < 60) ∧ (P (some (iV (m 152 x1))) m))))) ∧ (¬ x2 < 2 → (Cli mX12_neighbour [rV 145, iV x1, iV x2] m (fun r1 m1 => ((r1 = (-1) → (P (some (iV 0)) m1)) ∧ (¬ r1 = (-1) → ((x2 = 2 → ((0 ≤ r1 ∧ r1 < 60) ∧ (P (some (iV (m1 151 r1))) m1))) ∧ (¬ x2 = 2 → ((0 ≤ r1 ∧ r1 < 60) ∧ (P (some (iV (m1 152 r1))) m1)))))))))) : Tj mX12_creaseOf 0 [some (rV 145), some (iV x1), some (iV x2)] [] m P := by
  refine Tj.iload_n dX12_creaseOf_0 rfl rfl ?_
  refine Tj.iconst dX12_creaseOf_1 (by decide) rfl ?_
  refine Tj.icmp_ge dX12_creaseOf_2 rfl rfl (fun c1 => ?_) (fun c1 => ?_)
  · have h := h.1 c1
    refine Tj.iload_n dX12_creaseOf_5 rfl rfl ?_
    refine Tj.if_ne dX12_creaseOf_6 rfl rfl (fun c2 => ?_) (fun c2 => ?_)
    · have h := h.1 c2
      obtain ⟨⟨o1, o2⟩, h⟩ := h
      refine Tj.aload_n dX12_creaseOf_9 rfl rfl ?_
      refine Tj.getR (b := 151) dX12_creaseOf_10 fl_X12_25 sh_145 rfl rfl ?_
      refine Tj.iload_n dX12_creaseOf_13 rfl rfl ?_
      refine Tj.iald dX12_creaseOf_14 sh_151 o1 o2 rfl ?_
      refine Tj.goto dX12_creaseOf_15 rfl ?_
      exact Tj.iret dX12_creaseOf_24 rfl h
    · have h := h.2 c2
      obtain ⟨⟨o3, o4⟩, h⟩ := h
      refine Tj.aload_n dX12_creaseOf_18 rfl rfl ?_
      refine Tj.getR (b := 152) dX12_creaseOf_19 fl_X12_28 sh_145 rfl rfl ?_
      refine Tj.iload_n dX12_creaseOf_22 rfl rfl ?_
      refine Tj.iald dX12_creaseOf_23 sh_152 o3 o4 rfl ?_
      exact Tj.iret dX12_creaseOf_24 rfl h
  · have h := h.2 c1
    refine Tj.aload_n dX12_creaseOf_25 rfl rfl ?_
    refine Tj.iload_n dX12_creaseOf_26 rfl rfl ?_
    refine Tj.iload_n dX12_creaseOf_27 rfl rfl ?_
    refine Tj.callVi (as := [_, _]) (rest := []) dX12_creaseOf_28 ln_X12_258 sh_145 (by decide) rfl rfl (Nat.le_of_ble_eq_true rfl) ⟨Nat.le_of_ble_eq_true rfl, Nat.le_of_ble_eq_true rfl⟩ (Nat.le_of_ble_eq_true rfl) rfl ?_
    refine Cli.mono h (fun r1 m1 h => ?_)
    refine Tj.istore_n dX12_creaseOf_31 (Nat.le_of_ble_eq_true rfl) rfl rfl ?_
    refine Tj.iload_n dX12_creaseOf_32 rfl rfl ?_
    refine Tj.iconst dX12_creaseOf_33 (by decide) rfl ?_
    refine Tj.icmp_ne dX12_creaseOf_34 rfl rfl (fun c3 => ?_) (fun c3 => ?_)
    · have h := h.1 c3
      refine Tj.iconst dX12_creaseOf_37 (by decide) rfl ?_
      refine Tj.goto dX12_creaseOf_38 rfl ?_
      exact Tj.iret dX12_creaseOf_61 rfl h
    · have h := h.2 c3
      refine Tj.iload_n dX12_creaseOf_41 rfl rfl ?_
      refine Tj.iconst dX12_creaseOf_42 (by decide) rfl ?_
      refine Tj.icmp_ne dX12_creaseOf_43 rfl rfl (fun c4 => ?_) (fun c4 => ?_)
      · have h := h.1 c4
        obtain ⟨⟨o5, o6⟩, h⟩ := h
        refine Tj.aload_n dX12_creaseOf_46 rfl rfl ?_
        refine Tj.getR (b := 151) dX12_creaseOf_47 fl_X12_25 sh_145 rfl rfl ?_
        refine Tj.iload_n dX12_creaseOf_50 rfl rfl ?_
        refine Tj.iald dX12_creaseOf_51 sh_151 o5 o6 rfl ?_
        refine Tj.goto dX12_creaseOf_52 rfl ?_
        exact Tj.iret dX12_creaseOf_61 rfl h
      · have h := h.2 c4
        obtain ⟨⟨o7, o8⟩, h⟩ := h
        refine Tj.aload_n dX12_creaseOf_55 rfl rfl ?_
        refine Tj.getR (b := 152) dX12_creaseOf_56 fl_X12_28 sh_145 rfl rfl ?_
        refine Tj.iload_n dX12_creaseOf_59 rfl rfl ?_
        refine Tj.iald dX12_creaseOf_60 sh_152 o7 o8 rfl ?_
        exact Tj.iret dX12_creaseOf_61 rfl h

theorem wX12_setCrease_0 {m : tM} {P : Option tV → tM → Prop} {x1 : Int} {x2 : Int} {x3 : Int}  (h : (x2 < 2 → ((x1 = (-1) → (P none m)) ∧ (¬ x1 = (-1) → ((0 ≤ x2) ∧ (((x2 % 2) = 0 → ((0 ≤ x1 ∧ x1 < 60) ∧ (P none (up m 151 x1 x3)))) ∧ (¬ (x2 % 2) = 0 → (((x2 % 2) = 1 → ((0 ≤ x1 ∧ x1 < 60) ∧ (P none (up m 152 x1 x3)))) ∧ (¬ (x2 % 2) = 1 → (P none m))))))))) ∧ (¬ x2 < 2 → (Cli mX12_neighbour [rV 145, iV x1, iV x2] m (fun r1 m1 => ((r1 = (-1) → (P none m1)) ∧ (¬ r1 = (-1) → ((0 ≤ x2) ∧ (((x2 % 2) = 0 → ((0 ≤ r1 ∧ r1 < 60) ∧ (P none (up m1 151 r1 x3)))) ∧ (¬ (x2 % 2) = 0 → (((x2 % 2) = 1 → ((0 ≤ r1 ∧ r1 < 60) ∧ (P none (up m1 152 r1 x3)))) ∧ (¬ (x2 % 2) = 1 → (P none m1)))))))))))) : Tj mX12_setCrease 0 [some (rV 145), some (iV x1), some (iV x2), some (iV x3)] [] m P := by
  refine Tj.iload_n dX12_setCrease_0 rfl rfl ?_
  refine Tj.iconst dX12_setCrease_1 (by decide) rfl ?_
  refine Tj.icmp_ge dX12_setCrease_2 rfl rfl (fun c1 => ?_) (fun c1 => ?_)
  · have h := h.1 c1
    refine Tj.iload_n dX12_setCrease_5 rfl rfl ?_
    refine Tj.goto dX12_setCrease_6 rfl ?_
    refine Tj.istore dX12_setCrease_15 (Nat.le_of_ble_eq_true rfl) rfl rfl ?_
    refine Tj.iload dX12_setCrease_17 rfl rfl ?_
    refine Tj.iconst dX12_setCrease_19 (by decide) rfl ?_
    refine Tj.icmp_eq dX12_setCrease_20 rfl rfl (fun c2 => ?_) (fun c2 => ?_)
    · have h := h.1 c2
      refine Tj.iload dX12_setCrease_37 rfl rfl ?_
      refine Tj.iconst dX12_setCrease_39 (by decide) rfl ?_
      refine Tj.icmp_eq dX12_setCrease_40 rfl rfl (fun c3 => ?_) (fun c3 => ?_)
      case refine_2 => exact absurd c2 c3
      exact Tj.vret dX12_setCrease_58 rfl h
    · have h := h.2 c2
      obtain ⟨o1, h⟩ := h
      refine Tj.iload_n dX12_setCrease_23 rfl rfl ?_
      refine Tj.iconst dX12_setCrease_24 (by decide) rfl ?_
      refine Tj.irem dX12_setCrease_25 o1 (by decide) rfl ?_
      refine Tj.if_ne dX12_setCrease_26 rfl rfl (fun c4 => ?_) (fun c4 => ?_)
      · have h := h.1 c4
        obtain ⟨⟨o2, o3⟩, h⟩ := h
        refine Tj.aload_n dX12_setCrease_29 rfl rfl ?_
        refine Tj.getR (b := 151) dX12_setCrease_30 fl_X12_25 sh_145 rfl rfl ?_
        refine Tj.iload dX12_setCrease_33 rfl rfl ?_
        refine Tj.iload_n dX12_setCrease_35 rfl rfl ?_
        refine Tj.iast dX12_setCrease_36 sh_151 o2 o3 rfl ?_
        refine Tj.iload dX12_setCrease_37 rfl rfl ?_
        refine Tj.iconst dX12_setCrease_39 (by decide) rfl ?_
        refine Tj.icmp_eq dX12_setCrease_40 rfl rfl (fun c5 => ?_) (fun c5 => ?_)
        case refine_1 => exact absurd c5 c2
        refine Tj.iload_n dX12_setCrease_43 rfl rfl ?_
        refine Tj.iconst dX12_setCrease_44 (by decide) rfl ?_
        refine Tj.irem dX12_setCrease_45 o1 (by decide) rfl ?_
        refine Tj.iconst dX12_setCrease_46 (by decide) rfl ?_
        refine Tj.icmp_ne dX12_setCrease_47 rfl rfl (fun c6 => ?_) (fun c6 => ?_)
        case refine_1 => exact absurd (c4.symm.trans c6) (by decide)
        exact Tj.vret dX12_setCrease_58 rfl h
      · have h := h.2 c4
        refine Tj.iload dX12_setCrease_37 rfl rfl ?_
        refine Tj.iconst dX12_setCrease_39 (by decide) rfl ?_
        refine Tj.icmp_eq dX12_setCrease_40 rfl rfl (fun c7 => ?_) (fun c7 => ?_)
        case refine_1 => exact absurd c7 c2
        refine Tj.iload_n dX12_setCrease_43 rfl rfl ?_
        refine Tj.iconst dX12_setCrease_44 (by decide) rfl ?_
        refine Tj.irem dX12_setCrease_45 o1 (by decide) rfl ?_
        refine Tj.iconst dX12_setCrease_46 (by decide) rfl ?_
        refine Tj.icmp_ne dX12_setCrease_47 rfl rfl (fun c8 => ?_) (fun c8 => ?_)
        · have h := h.1 c8
          obtain ⟨⟨o4, o5⟩, h⟩ := h
          refine Tj.aload_n dX12_setCrease_50 rfl rfl ?_
          refine Tj.getR (b := 152) dX12_setCrease_51 fl_X12_28 sh_145 rfl rfl ?_
          refine Tj.iload dX12_setCrease_54 rfl rfl ?_
          refine Tj.iload_n dX12_setCrease_56 rfl rfl ?_
          refine Tj.iast dX12_setCrease_57 sh_152 o4 o5 rfl ?_
          exact Tj.vret dX12_setCrease_58 rfl h
        · have h := h.2 c8
          exact Tj.vret dX12_setCrease_58 rfl h
  · have h := h.2 c1
    refine Tj.aload_n dX12_setCrease_9 rfl rfl ?_
    refine Tj.iload_n dX12_setCrease_10 rfl rfl ?_
    refine Tj.iload_n dX12_setCrease_11 rfl rfl ?_
    refine Tj.callVi (as := [_, _]) (rest := []) dX12_setCrease_12 ln_X12_258 sh_145 (by decide) rfl rfl (Nat.le_of_ble_eq_true rfl) ⟨Nat.le_of_ble_eq_true rfl, Nat.le_of_ble_eq_true rfl⟩ (Nat.le_of_ble_eq_true rfl) rfl ?_
    refine Cli.mono h (fun r1 m1 h => ?_)
    refine Tj.istore dX12_setCrease_15 (Nat.le_of_ble_eq_true rfl) rfl rfl ?_
    refine Tj.iload dX12_setCrease_17 rfl rfl ?_
    refine Tj.iconst dX12_setCrease_19 (by decide) rfl ?_
    refine Tj.icmp_eq dX12_setCrease_20 rfl rfl (fun c9 => ?_) (fun c9 => ?_)
    · have h := h.1 c9
      refine Tj.iload dX12_setCrease_37 rfl rfl ?_
      refine Tj.iconst dX12_setCrease_39 (by decide) rfl ?_
      refine Tj.icmp_eq dX12_setCrease_40 rfl rfl (fun c10 => ?_) (fun c10 => ?_)
      case refine_2 => exact absurd c9 c10
      exact Tj.vret dX12_setCrease_58 rfl h
    · have h := h.2 c9
      obtain ⟨o6, h⟩ := h
      refine Tj.iload_n dX12_setCrease_23 rfl rfl ?_
      refine Tj.iconst dX12_setCrease_24 (by decide) rfl ?_
      refine Tj.irem dX12_setCrease_25 o6 (by decide) rfl ?_
      refine Tj.if_ne dX12_setCrease_26 rfl rfl (fun c11 => ?_) (fun c11 => ?_)
      · have h := h.1 c11
        obtain ⟨⟨o7, o8⟩, h⟩ := h
        refine Tj.aload_n dX12_setCrease_29 rfl rfl ?_
        refine Tj.getR (b := 151) dX12_setCrease_30 fl_X12_25 sh_145 rfl rfl ?_
        refine Tj.iload dX12_setCrease_33 rfl rfl ?_
        refine Tj.iload_n dX12_setCrease_35 rfl rfl ?_
        refine Tj.iast dX12_setCrease_36 sh_151 o7 o8 rfl ?_
        refine Tj.iload dX12_setCrease_37 rfl rfl ?_
        refine Tj.iconst dX12_setCrease_39 (by decide) rfl ?_
        refine Tj.icmp_eq dX12_setCrease_40 rfl rfl (fun c12 => ?_) (fun c12 => ?_)
        case refine_1 => exact absurd c12 c9
        refine Tj.iload_n dX12_setCrease_43 rfl rfl ?_
        refine Tj.iconst dX12_setCrease_44 (by decide) rfl ?_
        refine Tj.irem dX12_setCrease_45 o6 (by decide) rfl ?_
        refine Tj.iconst dX12_setCrease_46 (by decide) rfl ?_
        refine Tj.icmp_ne dX12_setCrease_47 rfl rfl (fun c13 => ?_) (fun c13 => ?_)
        case refine_1 => exact absurd (c11.symm.trans c13) (by decide)
        exact Tj.vret dX12_setCrease_58 rfl h
      · have h := h.2 c11
        refine Tj.iload dX12_setCrease_37 rfl rfl ?_
        refine Tj.iconst dX12_setCrease_39 (by decide) rfl ?_
        refine Tj.icmp_eq dX12_setCrease_40 rfl rfl (fun c14 => ?_) (fun c14 => ?_)
        case refine_1 => exact absurd c14 c9
        refine Tj.iload_n dX12_setCrease_43 rfl rfl ?_
        refine Tj.iconst dX12_setCrease_44 (by decide) rfl ?_
        refine Tj.irem dX12_setCrease_45 o6 (by decide) rfl ?_
        refine Tj.iconst dX12_setCrease_46 (by decide) rfl ?_
        refine Tj.icmp_ne dX12_setCrease_47 rfl rfl (fun c15 => ?_) (fun c15 => ?_)
        · have h := h.1 c15
          obtain ⟨⟨o9, o10⟩, h⟩ := h
          refine Tj.aload_n dX12_setCrease_50 rfl rfl ?_
          refine Tj.getR (b := 152) dX12_setCrease_51 fl_X12_28 sh_145 rfl rfl ?_
          refine Tj.iload dX12_setCrease_54 rfl rfl ?_
          refine Tj.iload_n dX12_setCrease_56 rfl rfl ?_
          refine Tj.iast dX12_setCrease_57 sh_152 o9 o10 rfl ?_
          exact Tj.vret dX12_setCrease_58 rfl h
        · have h := h.2 c15
          exact Tj.vret dX12_setCrease_58 rfl h

theorem wX12_isPlace_0 {m : tM} {P : Option tV → tM → Prop} {x0 : Int} {x1 : Int}  (h : Cli mX12_in [iV x0, iV (-30), iV 30] m (fun r1 m1 => ((r1 = 0 → (P (some (iV 0)) m1)) ∧ (¬ r1 = 0 → (Cli mX12_in [iV x1, iV (-30), iV 30] m1 (fun r2 m2 => (∀ v1 : Int, v1 = (if r2 = 0 then 0 else 1) → (P (some (iV v1)) m2)))))))) : Tj mX12_isPlace 0 [some (iV x0), some (iV x1)] [] m P := by
  refine Tj.iload_n dX12_isPlace_0 rfl rfl ?_
  refine Tj.bipush dX12_isPlace_1 (by decide) (by decide +kernel) rfl ?_
  refine Tj.bipush dX12_isPlace_3 (by decide) (by decide +kernel) rfl ?_
  refine Tj.callSi (as := [_, _, _]) (rest := []) dX12_isPlace_5 ln_X12_139 rfl rfl (Nat.le_of_ble_eq_true rfl) ⟨Nat.le_of_ble_eq_true rfl, Nat.le_of_ble_eq_true rfl⟩ (Nat.le_of_ble_eq_true rfl) rfl ?_
  refine Cli.mono h (fun r1 m1 h => ?_)
  refine Tj.if_eq dX12_isPlace_8 rfl rfl (fun c1 => ?_) (fun c1 => ?_)
  · have h := h.1 c1
    refine Tj.iconst dX12_isPlace_26 (by decide) rfl ?_
    exact Tj.zret dX12_isPlace_27 rfl (by decide) h
  · have h := h.2 c1
    refine Tj.iload_n dX12_isPlace_11 rfl rfl ?_
    refine Tj.bipush dX12_isPlace_12 (by decide) (by decide +kernel) rfl ?_
    refine Tj.bipush dX12_isPlace_14 (by decide) (by decide +kernel) rfl ?_
    refine Tj.callSi (as := [_, _, _]) (rest := []) dX12_isPlace_16 ln_X12_139 rfl rfl (Nat.le_of_ble_eq_true rfl) ⟨Nat.le_of_ble_eq_true rfl, Nat.le_of_ble_eq_true rfl⟩ (Nat.le_of_ble_eq_true rfl) rfl ?_
    refine Cli.mono h (fun r2 m2 h => ?_)
    have hj : Tj mX12_isPlace 27 [] [iV (if r2 = 0 then 0 else 1)] m2 P := by
      generalize hv1 : ((if r2 = 0 then 0 else 1) : Int) = v1
      have h := h v1 hv1.symm
      exact Tj.zret dX12_isPlace_27 rfl (by rw [← hv1]; (repeat' split) <;> simp) h
    refine Tj.if_eq dX12_isPlace_19 rfl rfl (fun c2 => ?_) (fun c2 => ?_)
    · refine Tj.iconst dX12_isPlace_26 (by decide) rfl ?_
      try simp only [if_pos c2] at hj ⊢
      exact Tj.cut hj trivial
    · refine Tj.iconst dX12_isPlace_22 (by decide) rfl ?_
      refine Tj.goto dX12_isPlace_23 rfl ?_
      try simp only [if_neg c2] at hj ⊢
      exact Tj.cut hj trivial

theorem wX12_spot_0 {m : tM} {P : Option tV → tM → Prop} {x1 : Int} {x2 : Int} {x3 : Int}  (h : Cli mX12_isPlace [iV x1, iV x2] (up m 145 0 0) (fun r1 m1 => ((r1 = 0 → (P (some (iV (-3))) m1)) ∧ (¬ r1 = 0 → (Cli mX12_in [iV x3, iV 0, iV 1] m1 (fun r2 m2 => ((r2 = 0 → (P (some (iV (-3))) m2)) ∧ (¬ r2 = 0 → (Cli mX12_spotAt [rV 145, iV x1, iV x2] m2 (fun r3 m3 => ((r3 = (-1) → ((x3 = 1 → (((m3 145 4) = 60 → (P (some (iV (-5))) m3)) ∧ (¬ (m3 145 4) = 60 → (Clv mX12_keep [rV 145] m3 (fun m4 => (Clv mX12_place [rV 145, iV (m4 145 4), iV x1, iV x2, iV 0, iV 0] m4 (fun m5 => ((R32 ((m5 145 4) + 1)) ∧ (Clv mX12_sort [rV 145] (up m5 145 4 ((m5 145 4) + 1)) (fun m6 => (P (some (iV 0)) m6))))))))))) ∧ (¬ x3 = 1 → (Clv mX12_keep [rV 145] m3 (fun m7 => (P (some (iV 0)) m7)))))) ∧ (¬ r3 = (-1) → (Clv mX12_keep [rV 145] m3 (fun m8 => ((x3 = 0 → (Tj mX12_spot 110 [some (rV 145), none, none, none, some (iV r3), some (iV 0)] [] m8 P)) ∧ (¬ x3 = 0 → (P (some (iV 1)) m8))))))))))))))))) : Tj mX12_spot 0 [some (rV 145), some (iV x1), some (iV x2), some (iV x3)] [] m P := by
  refine Tj.aload_n dX12_spot_0 rfl rfl ?_
  refine Tj.iconst dX12_spot_1 (by decide) rfl ?_
  refine Tj.pI (j := 0) dX12_spot_2 fp_X12_113 sh_145 rfl rfl ?_
  refine Tj.iload_n dX12_spot_5 rfl rfl ?_
  refine Tj.iload_n dX12_spot_6 rfl rfl ?_
  refine Tj.callSi (as := [_, _]) (rest := []) dX12_spot_7 ln_X12_261 rfl rfl (Nat.le_of_ble_eq_true rfl) ⟨Nat.le_of_ble_eq_true rfl, Nat.le_of_ble_eq_true rfl⟩ (Nat.le_of_ble_eq_true rfl) rfl ?_
  refine Cli.mono h (fun r1 m1 h => ?_)
  refine Tj.if_eq dX12_spot_10 rfl rfl (fun c1 => ?_) (fun c1 => ?_)
  · have h := h.1 c1
    refine Tj.bipush dX12_spot_22 (by decide) (by decide +kernel) rfl ?_
    exact Tj.iret dX12_spot_24 rfl h
  · have h := h.2 c1
    refine Tj.iload_n dX12_spot_13 rfl rfl ?_
    refine Tj.iconst dX12_spot_14 (by decide) rfl ?_
    refine Tj.iconst dX12_spot_15 (by decide) rfl ?_
    refine Tj.callSi (as := [_, _, _]) (rest := []) dX12_spot_16 ln_X12_139 rfl rfl (Nat.le_of_ble_eq_true rfl) ⟨Nat.le_of_ble_eq_true rfl, Nat.le_of_ble_eq_true rfl⟩ (Nat.le_of_ble_eq_true rfl) rfl ?_
    refine Cli.mono h (fun r2 m2 h => ?_)
    refine Tj.if_ne dX12_spot_19 rfl rfl (fun c2 => ?_) (fun c2 => ?_)
    · have h := h.1 c2
      refine Tj.bipush dX12_spot_22 (by decide) (by decide +kernel) rfl ?_
      exact Tj.iret dX12_spot_24 rfl h
    · have h := h.2 c2
      refine Tj.aload_n dX12_spot_25 rfl rfl ?_
      refine Tj.iload_n dX12_spot_26 rfl rfl ?_
      refine Tj.iload_n dX12_spot_27 rfl rfl ?_
      refine Tj.callVi (as := [_, _]) (rest := []) dX12_spot_28 ln_X12_255 sh_145 (by decide) rfl rfl (Nat.le_of_ble_eq_true rfl) ⟨Nat.le_of_ble_eq_true rfl, Nat.le_of_ble_eq_true rfl⟩ (Nat.le_of_ble_eq_true rfl) rfl ?_
      refine Cli.mono h (fun r3 m3 h => ?_)
      refine Tj.istore dX12_spot_31 (Nat.le_of_ble_eq_true rfl) rfl rfl ?_
      refine Tj.iload dX12_spot_33 rfl rfl ?_
      refine Tj.iconst dX12_spot_35 (by decide) rfl ?_
      refine Tj.icmp_ne dX12_spot_36 rfl rfl (fun c3 => ?_) (fun c3 => ?_)
      · have h := h.1 c3
        refine Tj.iload_n dX12_spot_39 rfl rfl ?_
        refine Tj.iconst dX12_spot_40 (by decide) rfl ?_
        refine Tj.icmp_ne dX12_spot_41 rfl rfl (fun c4 => ?_) (fun c4 => ?_)
        · have h := h.1 c4
          refine Tj.aload_n dX12_spot_44 rfl rfl ?_
          refine Tj.gI (j := 4) dX12_spot_45 fl_X12_127 sh_145 rfl rfl ?_
          refine Tj.bipush dX12_spot_48 (by decide) (by decide +kernel) rfl ?_
          refine Tj.icmp_ne dX12_spot_50 rfl rfl (fun c5 => ?_) (fun c5 => ?_)
          · have h := h.1 c5
            refine Tj.bipush dX12_spot_53 (by decide) (by decide +kernel) rfl ?_
            exact Tj.iret dX12_spot_55 rfl h
          · have h := h.2 c5
            refine Tj.aload_n dX12_spot_56 rfl rfl ?_
            refine Tj.callVv (as := []) (rest := []) dX12_spot_57 ln_X12_136 sh_145 (by decide) rfl rfl (Nat.le_of_ble_eq_true rfl) ⟨Nat.le_of_ble_eq_true rfl, Nat.le_of_ble_eq_true rfl⟩ (Nat.le_of_ble_eq_true rfl) rfl ?_
            refine Clv.mono h (fun m4 h => ?_)
            refine Tj.iload dX12_spot_60 rfl rfl ?_
            refine Tj.iconst dX12_spot_62 (by decide) rfl ?_
            refine Tj.icmp_ne dX12_spot_63 rfl rfl (fun c6 => ?_) (fun c6 => ?_)
            case refine_2 => exact absurd c3 c6
            refine Tj.iload_n dX12_spot_66 rfl rfl ?_
            refine Tj.iconst dX12_spot_67 (by decide) rfl ?_
            refine Tj.icmp_ne dX12_spot_68 rfl rfl (fun c7 => ?_) (fun c7 => ?_)
            case refine_2 => exact absurd c4 c7
            refine Tj.aload_n dX12_spot_71 rfl rfl ?_
            refine Tj.aload_n dX12_spot_72 rfl rfl ?_
            refine Tj.gI (j := 4) dX12_spot_73 fl_X12_127 sh_145 rfl rfl ?_
            refine Tj.iload_n dX12_spot_76 rfl rfl ?_
            refine Tj.iload_n dX12_spot_77 rfl rfl ?_
            refine Tj.iconst dX12_spot_78 (by decide) rfl ?_
            refine Tj.iconst dX12_spot_79 (by decide) rfl ?_
            refine Tj.callVv (as := [_, _, _, _, _]) (rest := []) dX12_spot_80 ln_X12_251 sh_145 (by decide) rfl rfl (Nat.le_of_ble_eq_true rfl) ⟨Nat.le_of_ble_eq_true rfl, Nat.le_of_ble_eq_true rfl⟩ (Nat.le_of_ble_eq_true rfl) rfl ?_
            refine Clv.mono h (fun m5 h => ?_)
            obtain ⟨o1, h⟩ := h
            refine Tj.aload_n dX12_spot_83 rfl rfl ?_
            refine Tj.dup dX12_spot_84 rfl rfl ?_
            refine Tj.gI (j := 4) dX12_spot_85 fl_X12_127 sh_145 rfl rfl ?_
            refine Tj.iconst dX12_spot_88 (by decide) rfl ?_
            refine Tj.iadd dX12_spot_89 o1 rfl ?_
            refine Tj.pI (j := 4) dX12_spot_90 fp_X12_127 sh_145 rfl rfl ?_
            refine Tj.aload_n dX12_spot_93 rfl rfl ?_
            refine Tj.callVv (as := []) (rest := []) dX12_spot_94 ln_X12_242 sh_145 (by decide) rfl rfl (Nat.le_of_ble_eq_true rfl) ⟨Nat.le_of_ble_eq_true rfl, Nat.le_of_ble_eq_true rfl⟩ (Nat.le_of_ble_eq_true rfl) rfl ?_
            refine Clv.mono h (fun m6 h => ?_)
            refine Tj.iload dX12_spot_97 rfl rfl ?_
            refine Tj.iconst dX12_spot_99 (by decide) rfl ?_
            refine Tj.icmp_eq dX12_spot_100 rfl rfl (fun c8 => ?_) (fun c8 => ?_)
            case refine_2 => exact absurd c3 c8
            refine Tj.iload dX12_spot_202 rfl rfl ?_
            refine Tj.iconst dX12_spot_204 (by decide) rfl ?_
            refine Tj.icmp_ne dX12_spot_205 rfl rfl (fun c9 => ?_) (fun c9 => ?_)
            case refine_2 => exact absurd c3 c9
            refine Tj.iconst dX12_spot_208 (by decide) rfl ?_
            refine Tj.goto dX12_spot_209 rfl ?_
            exact Tj.iret dX12_spot_213 rfl h
        · have h := h.2 c4
          refine Tj.aload_n dX12_spot_56 rfl rfl ?_
          refine Tj.callVv (as := []) (rest := []) dX12_spot_57 ln_X12_136 sh_145 (by decide) rfl rfl (Nat.le_of_ble_eq_true rfl) ⟨Nat.le_of_ble_eq_true rfl, Nat.le_of_ble_eq_true rfl⟩ (Nat.le_of_ble_eq_true rfl) rfl ?_
          refine Clv.mono h (fun m7 h => ?_)
          refine Tj.iload dX12_spot_60 rfl rfl ?_
          refine Tj.iconst dX12_spot_62 (by decide) rfl ?_
          refine Tj.icmp_ne dX12_spot_63 rfl rfl (fun c10 => ?_) (fun c10 => ?_)
          case refine_2 => exact absurd c3 c10
          refine Tj.iload_n dX12_spot_66 rfl rfl ?_
          refine Tj.iconst dX12_spot_67 (by decide) rfl ?_
          refine Tj.icmp_ne dX12_spot_68 rfl rfl (fun c11 => ?_) (fun c11 => ?_)
          case refine_1 => exact absurd c11 c4
          refine Tj.iload dX12_spot_97 rfl rfl ?_
          refine Tj.iconst dX12_spot_99 (by decide) rfl ?_
          refine Tj.icmp_eq dX12_spot_100 rfl rfl (fun c12 => ?_) (fun c12 => ?_)
          case refine_2 => exact absurd c3 c12
          refine Tj.iload dX12_spot_202 rfl rfl ?_
          refine Tj.iconst dX12_spot_204 (by decide) rfl ?_
          refine Tj.icmp_ne dX12_spot_205 rfl rfl (fun c13 => ?_) (fun c13 => ?_)
          case refine_2 => exact absurd c3 c13
          refine Tj.iconst dX12_spot_208 (by decide) rfl ?_
          refine Tj.goto dX12_spot_209 rfl ?_
          exact Tj.iret dX12_spot_213 rfl h
      · have h := h.2 c3
        refine Tj.aload_n dX12_spot_56 rfl rfl ?_
        refine Tj.callVv (as := []) (rest := []) dX12_spot_57 ln_X12_136 sh_145 (by decide) rfl rfl (Nat.le_of_ble_eq_true rfl) ⟨Nat.le_of_ble_eq_true rfl, Nat.le_of_ble_eq_true rfl⟩ (Nat.le_of_ble_eq_true rfl) rfl ?_
        refine Clv.mono h (fun m8 h => ?_)
        refine Tj.iload dX12_spot_60 rfl rfl ?_
        refine Tj.iconst dX12_spot_62 (by decide) rfl ?_
        refine Tj.icmp_ne dX12_spot_63 rfl rfl (fun c14 => ?_) (fun c14 => ?_)
        case refine_1 => exact absurd c14 c3
        refine Tj.iload dX12_spot_97 rfl rfl ?_
        refine Tj.iconst dX12_spot_99 (by decide) rfl ?_
        refine Tj.icmp_eq dX12_spot_100 rfl rfl (fun c15 => ?_) (fun c15 => ?_)
        case refine_1 => exact absurd c15 c3
        refine Tj.iload_n dX12_spot_103 rfl rfl ?_
        refine Tj.if_ne dX12_spot_104 rfl rfl (fun c16 => ?_) (fun c16 => ?_)
        · have h := h.1 c16
          refine Tj.iconst dX12_spot_107 (by decide) rfl ?_
          refine Tj.istore dX12_spot_108 (Nat.le_of_ble_eq_true rfl) rfl rfl ?_
          exact Tj.cut h ⟨rfl, ⟨rfl, ⟨rfl, trivial⟩⟩⟩
        · have h := h.2 c16
          refine Tj.iload dX12_spot_202 rfl rfl ?_
          refine Tj.iconst dX12_spot_204 (by decide) rfl ?_
          refine Tj.icmp_ne dX12_spot_205 rfl rfl (fun c17 => ?_) (fun c17 => ?_)
          case refine_1 => exact absurd c17 c3
          refine Tj.iconst dX12_spot_212 (by decide) rfl ?_
          exact Tj.iret dX12_spot_213 rfl h

theorem wX12_spot_110 {m : tM} {P : Option tV → tM → Prop} {x4 : Int} {x5 : Int}  (h : (x5 < 4 → (Clv mX12_setCrease [rV 145, iV x4, iV x5, iV 0] m (fun m1 => ((R32 (x5 + 1)) ∧ (Tj mX12_spot 110 [some (rV 145), none, none, none, some (iV x4), some (iV (x5 + 1))] [] m1 P))))) ∧ (¬ x5 < 4 → ((R32 ((m 145 4) - 1)) ∧ (Tj mX12_spot 145 [some (rV 145), none, none, none, some (iV x4), some (iV x4)] [] (up m 145 4 ((m 145 4) - 1)) P)))) : Tj mX12_spot 110 [some (rV 145), none, none, none, some (iV x4), some (iV x5)] [] m P := by
  refine Tj.iload dX12_spot_110 rfl rfl ?_
  refine Tj.iconst dX12_spot_112 (by decide) rfl ?_
  refine Tj.icmp_ge dX12_spot_113 rfl rfl (fun c1 => ?_) (fun c1 => ?_)
  · have h := h.1 c1
    refine Tj.aload_n dX12_spot_116 rfl rfl ?_
    refine Tj.iload dX12_spot_117 rfl rfl ?_
    refine Tj.iload dX12_spot_119 rfl rfl ?_
    refine Tj.iconst dX12_spot_121 (by decide) rfl ?_
    refine Tj.callVv (as := [_, _, _]) (rest := []) dX12_spot_122 ln_X12_265 sh_145 (by decide) rfl rfl (Nat.le_of_ble_eq_true rfl) ⟨Nat.le_of_ble_eq_true rfl, Nat.le_of_ble_eq_true rfl⟩ (Nat.le_of_ble_eq_true rfl) rfl ?_
    refine Clv.mono h (fun m1 h => ?_)
    obtain ⟨o1, h⟩ := h
    refine Tj.iinc dX12_spot_125 rfl (Nat.le_of_ble_eq_true rfl) rfl o1 rfl ?_
    refine Tj.goto dX12_spot_128 rfl ?_
    exact Tj.cut h ⟨rfl, ⟨rfl, ⟨rfl, trivial⟩⟩⟩
  · have h := h.2 c1
    obtain ⟨o2, h⟩ := h
    refine Tj.aload_n dX12_spot_131 rfl rfl ?_
    refine Tj.dup dX12_spot_132 rfl rfl ?_
    refine Tj.gI (j := 4) dX12_spot_133 fl_X12_127 sh_145 rfl rfl ?_
    refine Tj.iconst dX12_spot_136 (by decide) rfl ?_
    refine Tj.isub dX12_spot_137 o2 rfl ?_
    refine Tj.pI (j := 4) dX12_spot_138 fp_X12_127 sh_145 rfl rfl ?_
    refine Tj.iload dX12_spot_141 rfl rfl ?_
    refine Tj.istore dX12_spot_143 (Nat.le_of_ble_eq_true rfl) rfl rfl ?_
    exact Tj.cut h ⟨rfl, ⟨rfl, ⟨rfl, trivial⟩⟩⟩

theorem wX12_spot_145 {m : tM} {P : Option tV → tM → Prop} {x4 : Int} {x5 : Int}  (h : (x5 < (m 145 4) → ((R32 (x5 + 1) ∧ 0 ≤ (x5 + 1) ∧ (x5 + 1) < 60) ∧ (Clv mX12_place [rV 145, iV x5, iV (m 149 (x5 + 1)), iV (m 150 (x5 + 1)), iV (m 151 (x5 + 1)), iV (m 152 (x5 + 1))] m (fun m1 => (Tj mX12_spot 145 [some (rV 145), none, none, none, some (iV x4), some (iV (x5 + 1))] [] m1 P))))) ∧ (¬ x5 < (m 145 4) → (∀ v1 : Int, v1 = (if x4 = (-1) then 0 else 1) → (P (some (iV v1)) m)))) : Tj mX12_spot 145 [some (rV 145), none, none, none, some (iV x4), some (iV x5)] [] m P := by
  refine Tj.iload dX12_spot_145 rfl rfl ?_
  refine Tj.aload_n dX12_spot_147 rfl rfl ?_
  refine Tj.gI (j := 4) dX12_spot_148 fl_X12_127 sh_145 rfl rfl ?_
  refine Tj.icmp_ge dX12_spot_151 rfl rfl (fun c1 => ?_) (fun c1 => ?_)
  · have h := h.1 c1
    obtain ⟨⟨o1, o2, o3⟩, h⟩ := h
    refine Tj.aload_n dX12_spot_154 rfl rfl ?_
    refine Tj.iload dX12_spot_155 rfl rfl ?_
    refine Tj.aload_n dX12_spot_157 rfl rfl ?_
    refine Tj.getR (b := 149) dX12_spot_158 fl_X12_19 sh_145 rfl rfl ?_
    refine Tj.iload dX12_spot_161 rfl rfl ?_
    refine Tj.iconst dX12_spot_163 (by decide) rfl ?_
    refine Tj.iadd dX12_spot_164 o1 rfl ?_
    refine Tj.iald dX12_spot_165 sh_149 o2 o3 rfl ?_
    refine Tj.aload_n dX12_spot_166 rfl rfl ?_
    refine Tj.getR (b := 150) dX12_spot_167 fl_X12_22 sh_145 rfl rfl ?_
    refine Tj.iload dX12_spot_170 rfl rfl ?_
    refine Tj.iconst dX12_spot_172 (by decide) rfl ?_
    refine Tj.iadd dX12_spot_173 o1 rfl ?_
    refine Tj.iald dX12_spot_174 sh_150 o2 o3 rfl ?_
    refine Tj.aload_n dX12_spot_175 rfl rfl ?_
    refine Tj.getR (b := 151) dX12_spot_176 fl_X12_25 sh_145 rfl rfl ?_
    refine Tj.iload dX12_spot_179 rfl rfl ?_
    refine Tj.iconst dX12_spot_181 (by decide) rfl ?_
    refine Tj.iadd dX12_spot_182 o1 rfl ?_
    refine Tj.iald dX12_spot_183 sh_151 o2 o3 rfl ?_
    refine Tj.aload_n dX12_spot_184 rfl rfl ?_
    refine Tj.getR (b := 152) dX12_spot_185 fl_X12_28 sh_145 rfl rfl ?_
    refine Tj.iload dX12_spot_188 rfl rfl ?_
    refine Tj.iconst dX12_spot_190 (by decide) rfl ?_
    refine Tj.iadd dX12_spot_191 o1 rfl ?_
    refine Tj.iald dX12_spot_192 sh_152 o2 o3 rfl ?_
    refine Tj.callVv (as := [_, _, _, _, _]) (rest := []) dX12_spot_193 ln_X12_251 sh_145 (by decide) rfl rfl (Nat.le_of_ble_eq_true rfl) ⟨Nat.le_of_ble_eq_true rfl, Nat.le_of_ble_eq_true rfl⟩ (Nat.le_of_ble_eq_true rfl) rfl ?_
    refine Clv.mono h (fun m1 h => ?_)
    refine Tj.iinc dX12_spot_196 rfl (Nat.le_of_ble_eq_true rfl) rfl o1 rfl ?_
    refine Tj.goto dX12_spot_199 rfl ?_
    exact Tj.cut h ⟨rfl, ⟨rfl, ⟨rfl, trivial⟩⟩⟩
  · have h := h.2 c1
    refine Tj.iload dX12_spot_202 rfl rfl ?_
    refine Tj.iconst dX12_spot_204 (by decide) rfl ?_
    have hj : Tj mX12_spot 213 [] [iV (if x4 = (-1) then 0 else 1)] m P := by
      generalize hv1 : ((if x4 = (-1) then 0 else 1) : Int) = v1
      have h := h v1 hv1.symm
      exact Tj.iret dX12_spot_213 rfl h
    refine Tj.icmp_ne dX12_spot_205 rfl rfl (fun c2 => ?_) (fun c2 => ?_)
    · refine Tj.iconst dX12_spot_208 (by decide) rfl ?_
      refine Tj.goto dX12_spot_209 rfl ?_
      try simp only [if_pos c2] at hj ⊢
      exact Tj.cut hj trivial
    · refine Tj.iconst dX12_spot_212 (by decide) rfl ?_
      try simp only [if_neg c2] at hj ⊢
      exact Tj.cut hj trivial

theorem wX12_toldOf_0 {m : tM} {P : Option tV → tM → Prop} {x0 : Int}  (h : (x0 = 0 → (P (some (iV 5)) m)) ∧ (¬ x0 = 0 → ((x0 = 1 → (P (some (iV 9)) m)) ∧ (¬ x0 = 1 → ((R32 (x0 - 2)) ∧ (P (some (iV (x0 - 2))) m)))))) : Tj mX12_toldOf 0 [some (iV x0)] [] m P := by
  refine Tj.iload_n dX12_toldOf_0 rfl rfl ?_
  refine Tj.if_ne dX12_toldOf_1 rfl rfl (fun c1 => ?_) (fun c1 => ?_)
  · have h := h.1 c1
    refine Tj.iconst dX12_toldOf_4 (by decide) rfl ?_
    refine Tj.goto dX12_toldOf_5 rfl ?_
    exact Tj.iret dX12_toldOf_21 rfl h
  · have h := h.2 c1
    refine Tj.iload_n dX12_toldOf_8 rfl rfl ?_
    refine Tj.iconst dX12_toldOf_9 (by decide) rfl ?_
    refine Tj.icmp_ne dX12_toldOf_10 rfl rfl (fun c2 => ?_) (fun c2 => ?_)
    · have h := h.1 c2
      refine Tj.bipush dX12_toldOf_13 (by decide) (by decide +kernel) rfl ?_
      refine Tj.goto dX12_toldOf_15 rfl ?_
      exact Tj.iret dX12_toldOf_21 rfl h
    · have h := h.2 c2
      obtain ⟨o1, h⟩ := h
      refine Tj.iload_n dX12_toldOf_18 rfl rfl ?_
      refine Tj.iconst dX12_toldOf_19 (by decide) rfl ?_
      refine Tj.isub dX12_toldOf_20 o1 rfl ?_
      exact Tj.iret dX12_toldOf_21 rfl h

theorem wX12_crease_0 {m : tM} {P : Option tV → tM → Prop} {x1 : Int} {x2 : Int} {x3 : Int} {x4 : Int}  (h : Cli mX12_isPlace [iV x1, iV x2] (up m 145 0 0) (fun r1 m1 => ((r1 = 0 → (P (some (iV (-3))) m1)) ∧ (¬ r1 = 0 → (Cli mX12_in [iV x3, iV 0, iV 3] m1 (fun r2 m2 => ((r2 = 0 → (P (some (iV (-3))) m2)) ∧ (¬ r2 = 0 → ((x4 = 0 → (Tj mX12_crease 49 [some (rV 145), some (iV x1), some (iV x2), some (iV x3), some (iV x4)] [] m2 P)) ∧ (¬ x4 = 0 → ((x4 = 1 → (Tj mX12_crease 49 [some (rV 145), some (iV x1), some (iV x2), some (iV x3), some (iV x4)] [] m2 P)) ∧ (¬ x4 = 1 → ((x4 = 5 → (Tj mX12_crease 49 [some (rV 145), some (iV x1), some (iV x2), some (iV x3), some (iV x4)] [] m2 P)) ∧ (¬ x4 = 5 → ((x4 = 9 → (Tj mX12_crease 49 [some (rV 145), some (iV x1), some (iV x2), some (iV x3), some (iV x4)] [] m2 P)) ∧ (¬ x4 = 9 → (P (some (iV (-3))) m2))))))))))))))))) : Tj mX12_crease 0 [some (rV 145), some (iV x1), some (iV x2), some (iV x3), some (iV x4)] [] m P := by
  refine Tj.aload_n dX12_crease_0 rfl rfl ?_
  refine Tj.iconst dX12_crease_1 (by decide) rfl ?_
  refine Tj.pI (j := 0) dX12_crease_2 fp_X12_113 sh_145 rfl rfl ?_
  refine Tj.iload_n dX12_crease_5 rfl rfl ?_
  refine Tj.iload_n dX12_crease_6 rfl rfl ?_
  refine Tj.callSi (as := [_, _]) (rest := []) dX12_crease_7 ln_X12_261 rfl rfl (Nat.le_of_ble_eq_true rfl) ⟨Nat.le_of_ble_eq_true rfl, Nat.le_of_ble_eq_true rfl⟩ (Nat.le_of_ble_eq_true rfl) rfl ?_
  refine Cli.mono h (fun r1 m1 h => ?_)
  refine Tj.if_eq dX12_crease_10 rfl rfl (fun c1 => ?_) (fun c1 => ?_)
  · have h := h.1 c1
    refine Tj.bipush dX12_crease_46 (by decide) (by decide +kernel) rfl ?_
    exact Tj.iret dX12_crease_48 rfl h
  · have h := h.2 c1
    refine Tj.iload_n dX12_crease_13 rfl rfl ?_
    refine Tj.iconst dX12_crease_14 (by decide) rfl ?_
    refine Tj.iconst dX12_crease_15 (by decide) rfl ?_
    refine Tj.callSi (as := [_, _, _]) (rest := []) dX12_crease_16 ln_X12_139 rfl rfl (Nat.le_of_ble_eq_true rfl) ⟨Nat.le_of_ble_eq_true rfl, Nat.le_of_ble_eq_true rfl⟩ (Nat.le_of_ble_eq_true rfl) rfl ?_
    refine Cli.mono h (fun r2 m2 h => ?_)
    refine Tj.if_eq dX12_crease_19 rfl rfl (fun c2 => ?_) (fun c2 => ?_)
    · have h := h.1 c2
      refine Tj.bipush dX12_crease_46 (by decide) (by decide +kernel) rfl ?_
      exact Tj.iret dX12_crease_48 rfl h
    · have h := h.2 c2
      refine Tj.iload dX12_crease_22 rfl rfl ?_
      refine Tj.if_eq dX12_crease_24 rfl rfl (fun c3 => ?_) (fun c3 => ?_)
      · have h := h.1 c3
        exact Tj.cut h ⟨rfl, ⟨rfl, ⟨rfl, ⟨rfl, ⟨rfl, trivial⟩⟩⟩⟩⟩
      · have h := h.2 c3
        refine Tj.iload dX12_crease_27 rfl rfl ?_
        refine Tj.iconst dX12_crease_29 (by decide) rfl ?_
        refine Tj.icmp_eq dX12_crease_30 rfl rfl (fun c4 => ?_) (fun c4 => ?_)
        · have h := h.1 c4
          exact Tj.cut h ⟨rfl, ⟨rfl, ⟨rfl, ⟨rfl, ⟨rfl, trivial⟩⟩⟩⟩⟩
        · have h := h.2 c4
          refine Tj.iload dX12_crease_33 rfl rfl ?_
          refine Tj.iconst dX12_crease_35 (by decide) rfl ?_
          refine Tj.icmp_eq dX12_crease_36 rfl rfl (fun c5 => ?_) (fun c5 => ?_)
          · have h := h.1 c5
            exact Tj.cut h ⟨rfl, ⟨rfl, ⟨rfl, ⟨rfl, ⟨rfl, trivial⟩⟩⟩⟩⟩
          · have h := h.2 c5
            refine Tj.iload dX12_crease_39 rfl rfl ?_
            refine Tj.bipush dX12_crease_41 (by decide) (by decide +kernel) rfl ?_
            refine Tj.icmp_eq dX12_crease_43 rfl rfl (fun c6 => ?_) (fun c6 => ?_)
            · have h := h.1 c6
              exact Tj.cut h ⟨rfl, ⟨rfl, ⟨rfl, ⟨rfl, ⟨rfl, trivial⟩⟩⟩⟩⟩
            · have h := h.2 c6
              refine Tj.bipush dX12_crease_46 (by decide) (by decide +kernel) rfl ?_
              exact Tj.iret dX12_crease_48 rfl h

theorem wX12_crease_49 {m : tM} {P : Option tV → tM → Prop} {x1 : Int} {x2 : Int} {x3 : Int} {x4 : Int}  (h : Cli mX12_spotAt [rV 145, iV x1, iV x2] m (fun r1 m1 => ((r1 = (-1) → (P (some (iV (-4))) m1)) ∧ (¬ r1 = (-1) → (Cli mX12_neighbour [rV 145, iV r1, iV x3] m1 (fun r2 m2 => ((r2 = (-1) → (P (some (iV (-4))) m2)) ∧ (¬ r2 = (-1) → (Clv mX12_keep [rV 145] m2 (fun m3 => (Cli mX12_creaseOf [rV 145, iV r1, iV x3] m3 (fun r3 m4 => (Cli mX12_toldOf [iV r3] m4 (fun r4 m5 => ((x4 = 5 → (Clv mX12_setCrease [rV 145, iV r1, iV x3, iV 0] m5 (fun m6 => (P (some (iV r4)) m6)))) ∧ (¬ x4 = 5 → ((x4 = 9 → (Clv mX12_setCrease [rV 145, iV r1, iV x3, iV 1] m5 (fun m7 => (P (some (iV r4)) m7)))) ∧ (¬ x4 = 9 → ((R32 (2 + x4)) ∧ (Clv mX12_setCrease [rV 145, iV r1, iV x3, iV (2 + x4)] m5 (fun m8 => (P (some (iV r4)) m8)))))))))))))))))))))) : Tj mX12_crease 49 [some (rV 145), some (iV x1), some (iV x2), some (iV x3), some (iV x4)] [] m P := by
  refine Tj.aload_n dX12_crease_49 rfl rfl ?_
  refine Tj.iload_n dX12_crease_50 rfl rfl ?_
  refine Tj.iload_n dX12_crease_51 rfl rfl ?_
  refine Tj.callVi (as := [_, _]) (rest := []) dX12_crease_52 ln_X12_255 sh_145 (by decide) rfl rfl (Nat.le_of_ble_eq_true rfl) ⟨Nat.le_of_ble_eq_true rfl, Nat.le_of_ble_eq_true rfl⟩ (Nat.le_of_ble_eq_true rfl) rfl ?_
  refine Cli.mono h (fun r1 m1 h => ?_)
  refine Tj.istore dX12_crease_55 (Nat.le_of_ble_eq_true rfl) rfl rfl ?_
  refine Tj.iload dX12_crease_57 rfl rfl ?_
  refine Tj.iconst dX12_crease_59 (by decide) rfl ?_
  refine Tj.icmp_eq dX12_crease_60 rfl rfl (fun c1 => ?_) (fun c1 => ?_)
  · have h := h.1 c1
    refine Tj.bipush dX12_crease_74 (by decide) (by decide +kernel) rfl ?_
    exact Tj.iret dX12_crease_76 rfl h
  · have h := h.2 c1
    refine Tj.aload_n dX12_crease_63 rfl rfl ?_
    refine Tj.iload dX12_crease_64 rfl rfl ?_
    refine Tj.iload_n dX12_crease_66 rfl rfl ?_
    refine Tj.callVi (as := [_, _]) (rest := []) dX12_crease_67 ln_X12_258 sh_145 (by decide) rfl rfl (Nat.le_of_ble_eq_true rfl) ⟨Nat.le_of_ble_eq_true rfl, Nat.le_of_ble_eq_true rfl⟩ (Nat.le_of_ble_eq_true rfl) rfl ?_
    refine Cli.mono h (fun r2 m2 h => ?_)
    refine Tj.iconst dX12_crease_70 (by decide) rfl ?_
    refine Tj.icmp_ne dX12_crease_71 rfl rfl (fun c2 => ?_) (fun c2 => ?_)
    · have h := h.1 c2
      refine Tj.bipush dX12_crease_74 (by decide) (by decide +kernel) rfl ?_
      exact Tj.iret dX12_crease_76 rfl h
    · have h := h.2 c2
      refine Tj.aload_n dX12_crease_77 rfl rfl ?_
      refine Tj.callVv (as := []) (rest := []) dX12_crease_78 ln_X12_136 sh_145 (by decide) rfl rfl (Nat.le_of_ble_eq_true rfl) ⟨Nat.le_of_ble_eq_true rfl, Nat.le_of_ble_eq_true rfl⟩ (Nat.le_of_ble_eq_true rfl) rfl ?_
      refine Clv.mono h (fun m3 h => ?_)
      refine Tj.aload_n dX12_crease_81 rfl rfl ?_
      refine Tj.iload dX12_crease_82 rfl rfl ?_
      refine Tj.iload_n dX12_crease_84 rfl rfl ?_
      refine Tj.callVi (as := [_, _]) (rest := []) dX12_crease_85 ln_X12_269 sh_145 (by decide) rfl rfl (Nat.le_of_ble_eq_true rfl) ⟨Nat.le_of_ble_eq_true rfl, Nat.le_of_ble_eq_true rfl⟩ (Nat.le_of_ble_eq_true rfl) rfl ?_
      refine Cli.mono h (fun r3 m4 h => ?_)
      refine Tj.callSi (as := [_]) (rest := []) dX12_crease_88 ln_X12_272 rfl rfl (Nat.le_of_ble_eq_true rfl) ⟨Nat.le_of_ble_eq_true rfl, Nat.le_of_ble_eq_true rfl⟩ (Nat.le_of_ble_eq_true rfl) rfl ?_
      refine Cli.mono h (fun r4 m5 h => ?_)
      refine Tj.istore dX12_crease_91 (Nat.le_of_ble_eq_true rfl) rfl rfl ?_
      refine Tj.aload_n dX12_crease_93 rfl rfl ?_
      refine Tj.iload dX12_crease_94 rfl rfl ?_
      refine Tj.iload_n dX12_crease_96 rfl rfl ?_
      refine Tj.iload dX12_crease_97 rfl rfl ?_
      refine Tj.iconst dX12_crease_99 (by decide) rfl ?_
      refine Tj.icmp_ne dX12_crease_100 rfl rfl (fun c3 => ?_) (fun c3 => ?_)
      · have h := h.1 c3
        refine Tj.iconst dX12_crease_103 (by decide) rfl ?_
        refine Tj.goto dX12_crease_104 rfl ?_
        refine Tj.callVv (as := [_, _, _]) (rest := []) dX12_crease_122 ln_X12_265 sh_145 (by decide) rfl rfl (Nat.le_of_ble_eq_true rfl) ⟨Nat.le_of_ble_eq_true rfl, Nat.le_of_ble_eq_true rfl⟩ (Nat.le_of_ble_eq_true rfl) rfl ?_
        refine Clv.mono h (fun m6 h => ?_)
        refine Tj.iload dX12_crease_125 rfl rfl ?_
        exact Tj.iret dX12_crease_127 rfl h
      · have h := h.2 c3
        refine Tj.iload dX12_crease_107 rfl rfl ?_
        refine Tj.bipush dX12_crease_109 (by decide) (by decide +kernel) rfl ?_
        refine Tj.icmp_ne dX12_crease_111 rfl rfl (fun c4 => ?_) (fun c4 => ?_)
        · have h := h.1 c4
          refine Tj.iconst dX12_crease_114 (by decide) rfl ?_
          refine Tj.goto dX12_crease_115 rfl ?_
          refine Tj.callVv (as := [_, _, _]) (rest := []) dX12_crease_122 ln_X12_265 sh_145 (by decide) rfl rfl (Nat.le_of_ble_eq_true rfl) ⟨Nat.le_of_ble_eq_true rfl, Nat.le_of_ble_eq_true rfl⟩ (Nat.le_of_ble_eq_true rfl) rfl ?_
          refine Clv.mono h (fun m7 h => ?_)
          refine Tj.iload dX12_crease_125 rfl rfl ?_
          exact Tj.iret dX12_crease_127 rfl h
        · have h := h.2 c4
          obtain ⟨o1, h⟩ := h
          refine Tj.iconst dX12_crease_118 (by decide) rfl ?_
          refine Tj.iload dX12_crease_119 rfl rfl ?_
          refine Tj.iadd dX12_crease_121 o1 rfl ?_
          refine Tj.callVv (as := [_, _, _]) (rest := []) dX12_crease_122 ln_X12_265 sh_145 (by decide) rfl rfl (Nat.le_of_ble_eq_true rfl) ⟨Nat.le_of_ble_eq_true rfl, Nat.le_of_ble_eq_true rfl⟩ (Nat.le_of_ble_eq_true rfl) rfl ?_
          refine Clv.mono h (fun m8 h => ?_)
          refine Tj.iload dX12_crease_125 rfl rfl ?_
          exact Tj.iret dX12_crease_127 rfl h

theorem wX12_turned_0 {m : tM} {P : Option tV → tM → Prop} {x1 : Int}  (h : Tj mX12_turned 2 [some (rV 145), some (iV x1), some (iV 0)] [] m P) : Tj mX12_turned 0 [some (rV 145), some (iV x1)] [] m P := by
  refine Tj.iconst dX12_turned_0 (by decide) rfl ?_
  refine Tj.istore_n dX12_turned_1 (Nat.le_of_ble_eq_true rfl) rfl rfl ?_
  exact Tj.cut h ⟨rfl, ⟨rfl, ⟨rfl, trivial⟩⟩⟩

theorem wX12_turned_2 {m : tM} {P : Option tV → tM → Prop} {x1 : Int} {x2 : Int}  (h : (x2 < (m 145 4) → ((x1 = 0 → (Cli mX12_creaseOf [rV 145, iV x2, iV 3] m (fun r1 m1 => ((0 ≤ x2 ∧ x2 < 60) ∧ (Cli mX12_creaseOf [rV 145, iV x2, iV 0] (up m1 165 x2 r1) (fun r2 m2 => ((R32 (x2 + 1)) ∧ (Tj mX12_turned 2 [some (rV 145), some (iV x1), some (iV (x2 + 1))] [] (up m2 166 x2 r2) P)))))))) ∧ (¬ x1 = 0 → (Cli mX12_creaseOf [rV 145, iV x2, iV 2] m (fun r3 m3 => ((0 ≤ x2 ∧ x2 < 60 ∧ R32 (x2 + 1)) ∧ (Tj mX12_turned 2 [some (rV 145), some (iV x1), some (iV (x2 + 1))] [] (up (up m3 165 x2 r3) 166 x2 (m3 152 x2)) P))))))) ∧ (¬ x2 < (m 145 4) → (Tj mX12_turned 68 [some (rV 145), some (iV x1), some (iV 0)] [] m P))) : Tj mX12_turned 2 [some (rV 145), some (iV x1), some (iV x2)] [] m P := by
  refine Tj.iload_n dX12_turned_2 rfl rfl ?_
  refine Tj.aload_n dX12_turned_3 rfl rfl ?_
  refine Tj.gI (j := 4) dX12_turned_4 fl_X12_127 sh_145 rfl rfl ?_
  refine Tj.icmp_ge dX12_turned_7 rfl rfl (fun c1 => ?_) (fun c1 => ?_)
  · have h := h.1 c1
    refine Tj.aload_n dX12_turned_10 rfl rfl ?_
    refine Tj.getR (b := 165) dX12_turned_11 fl_X12_67 sh_145 rfl rfl ?_
    refine Tj.iload_n dX12_turned_14 rfl rfl ?_
    refine Tj.iload_n dX12_turned_15 rfl rfl ?_
    refine Tj.if_ne dX12_turned_16 rfl rfl (fun c2 => ?_) (fun c2 => ?_)
    · have h := h.1 c2
      refine Tj.aload_n dX12_turned_19 rfl rfl ?_
      refine Tj.iload_n dX12_turned_20 rfl rfl ?_
      refine Tj.iconst dX12_turned_21 (by decide) rfl ?_
      refine Tj.callVi (as := [_, _]) (rest := [_, _]) dX12_turned_22 ln_X12_269 sh_145 (by decide) rfl rfl (Nat.le_of_ble_eq_true rfl) ⟨Nat.le_of_ble_eq_true rfl, Nat.le_of_ble_eq_true rfl⟩ (Nat.le_of_ble_eq_true rfl) rfl ?_
      refine Cli.mono h (fun r1 m1 h => ?_)
      obtain ⟨⟨o1, o2⟩, h⟩ := h
      refine Tj.goto dX12_turned_25 rfl ?_
      refine Tj.iast dX12_turned_34 sh_165 o1 o2 rfl ?_
      refine Tj.aload_n dX12_turned_35 rfl rfl ?_
      refine Tj.getR (b := 166) dX12_turned_36 fl_X12_70 sh_145 rfl rfl ?_
      refine Tj.iload_n dX12_turned_39 rfl rfl ?_
      refine Tj.iload_n dX12_turned_40 rfl rfl ?_
      refine Tj.if_ne dX12_turned_41 rfl rfl (fun c3 => ?_) (fun c3 => ?_)
      case refine_2 => exact absurd c2 c3
      refine Tj.aload_n dX12_turned_44 rfl rfl ?_
      refine Tj.iload_n dX12_turned_45 rfl rfl ?_
      refine Tj.iconst dX12_turned_46 (by decide) rfl ?_
      refine Tj.callVi (as := [_, _]) (rest := [_, _]) dX12_turned_47 ln_X12_269 sh_145 (by decide) rfl rfl (Nat.le_of_ble_eq_true rfl) ⟨Nat.le_of_ble_eq_true rfl, Nat.le_of_ble_eq_true rfl⟩ (Nat.le_of_ble_eq_true rfl) rfl ?_
      refine Cli.mono h (fun r2 m2 h => ?_)
      obtain ⟨o3, h⟩ := h
      refine Tj.goto dX12_turned_50 rfl ?_
      refine Tj.iast dX12_turned_59 sh_166 o1 o2 rfl ?_
      refine Tj.iinc dX12_turned_60 rfl (Nat.le_of_ble_eq_true rfl) rfl o3 rfl ?_
      refine Tj.goto dX12_turned_63 rfl ?_
      exact Tj.cut h ⟨rfl, ⟨rfl, ⟨rfl, trivial⟩⟩⟩
    · have h := h.2 c2
      refine Tj.aload_n dX12_turned_28 rfl rfl ?_
      refine Tj.iload_n dX12_turned_29 rfl rfl ?_
      refine Tj.iconst dX12_turned_30 (by decide) rfl ?_
      refine Tj.callVi (as := [_, _]) (rest := [_, _]) dX12_turned_31 ln_X12_269 sh_145 (by decide) rfl rfl (Nat.le_of_ble_eq_true rfl) ⟨Nat.le_of_ble_eq_true rfl, Nat.le_of_ble_eq_true rfl⟩ (Nat.le_of_ble_eq_true rfl) rfl ?_
      refine Cli.mono h (fun r3 m3 h => ?_)
      obtain ⟨⟨o4, o5, o6⟩, h⟩ := h
      refine Tj.iast dX12_turned_34 sh_165 o4 o5 rfl ?_
      refine Tj.aload_n dX12_turned_35 rfl rfl ?_
      refine Tj.getR (b := 166) dX12_turned_36 fl_X12_70 sh_145 rfl rfl ?_
      refine Tj.iload_n dX12_turned_39 rfl rfl ?_
      refine Tj.iload_n dX12_turned_40 rfl rfl ?_
      refine Tj.if_ne dX12_turned_41 rfl rfl (fun c4 => ?_) (fun c4 => ?_)
      case refine_1 => exact absurd c4 c2
      refine Tj.aload_n dX12_turned_53 rfl rfl ?_
      refine Tj.getR (b := 152) dX12_turned_54 fl_X12_28 sh_145 rfl rfl ?_
      refine Tj.iload_n dX12_turned_57 rfl rfl ?_
      refine Tj.iald dX12_turned_58 sh_152 o4 o5 rfl ?_
      refine Tj.iast dX12_turned_59 sh_166 o4 o5 rfl ?_
      refine Tj.iinc dX12_turned_60 rfl (Nat.le_of_ble_eq_true rfl) rfl o6 rfl ?_
      refine Tj.goto dX12_turned_63 rfl ?_
      exact Tj.cut h ⟨rfl, ⟨rfl, ⟨rfl, trivial⟩⟩⟩
  · have h := h.2 c1
    refine Tj.iconst dX12_turned_66 (by decide) rfl ?_
    refine Tj.istore_n dX12_turned_67 (Nat.le_of_ble_eq_true rfl) rfl rfl ?_
    exact Tj.cut h ⟨rfl, ⟨rfl, ⟨rfl, trivial⟩⟩⟩

theorem wX12_turned_68 {m : tM} {P : Option tV → tM → Prop} {x1 : Int} {x2 : Int}  (h : (x2 < (m 145 4) → ((0 ≤ x2 ∧ x2 < 60) ∧ ((x1 = 0 → ((R32 (-(m 150 x2))) ∧ (Clv mX12_place [rV 145, iV x2, iV (-(m 150 x2)), iV (m 149 x2), iV (m 165 x2), iV (m 166 x2)] m (fun m1 => ((R32 (x2 + 1)) ∧ (Tj mX12_turned 68 [some (rV 145), some (iV x1), some (iV (x2 + 1))] [] m1 P)))))) ∧ (¬ x1 = 0 → ((R32 (-(m 149 x2))) ∧ (Clv mX12_place [rV 145, iV x2, iV (-(m 149 x2)), iV (m 150 x2), iV (m 165 x2), iV (m 166 x2)] m (fun m2 => ((R32 (x2 + 1)) ∧ (Tj mX12_turned 68 [some (rV 145), some (iV x1), some (iV (x2 + 1))] [] m2 P))))))))) ∧ (¬ x2 < (m 145 4) → (Clv mX12_sort [rV 145] m (fun m3 => (P none m3))))) : Tj mX12_turned 68 [some (rV 145), some (iV x1), some (iV x2)] [] m P := by
  refine Tj.iload_n dX12_turned_68 rfl rfl ?_
  refine Tj.aload_n dX12_turned_69 rfl rfl ?_
  refine Tj.gI (j := 4) dX12_turned_70 fl_X12_127 sh_145 rfl rfl ?_
  refine Tj.icmp_ge dX12_turned_73 rfl rfl (fun c1 => ?_) (fun c1 => ?_)
  · have h := h.1 c1
    obtain ⟨⟨o1, o2⟩, h⟩ := h
    refine Tj.aload_n dX12_turned_76 rfl rfl ?_
    refine Tj.getR (b := 149) dX12_turned_77 fl_X12_19 sh_145 rfl rfl ?_
    refine Tj.iload_n dX12_turned_80 rfl rfl ?_
    refine Tj.iald dX12_turned_81 sh_149 o1 o2 rfl ?_
    refine Tj.istore_n dX12_turned_82 (Nat.le_of_ble_eq_true rfl) rfl rfl ?_
    refine Tj.aload_n dX12_turned_83 rfl rfl ?_
    refine Tj.iload_n dX12_turned_84 rfl rfl ?_
    refine Tj.iload_n dX12_turned_85 rfl rfl ?_
    refine Tj.if_ne dX12_turned_86 rfl rfl (fun c2 => ?_) (fun c2 => ?_)
    · have h := h.1 c2
      obtain ⟨o3, h⟩ := h
      refine Tj.aload_n dX12_turned_89 rfl rfl ?_
      refine Tj.getR (b := 150) dX12_turned_90 fl_X12_22 sh_145 rfl rfl ?_
      refine Tj.iload_n dX12_turned_93 rfl rfl ?_
      refine Tj.iald dX12_turned_94 sh_150 o1 o2 rfl ?_
      refine Tj.ineg dX12_turned_95 o3 rfl ?_
      refine Tj.goto dX12_turned_96 rfl ?_
      refine Tj.iload_n dX12_turned_101 rfl rfl ?_
      refine Tj.if_ne dX12_turned_102 rfl rfl (fun c3 => ?_) (fun c3 => ?_)
      case refine_2 => exact absurd c2 c3
      refine Tj.iload_n dX12_turned_105 rfl rfl ?_
      refine Tj.goto dX12_turned_106 rfl ?_
      refine Tj.aload_n dX12_turned_115 rfl rfl ?_
      refine Tj.getR (b := 165) dX12_turned_116 fl_X12_67 sh_145 rfl rfl ?_
      refine Tj.iload_n dX12_turned_119 rfl rfl ?_
      refine Tj.iald dX12_turned_120 sh_165 o1 o2 rfl ?_
      refine Tj.aload_n dX12_turned_121 rfl rfl ?_
      refine Tj.getR (b := 166) dX12_turned_122 fl_X12_70 sh_145 rfl rfl ?_
      refine Tj.iload_n dX12_turned_125 rfl rfl ?_
      refine Tj.iald dX12_turned_126 sh_166 o1 o2 rfl ?_
      refine Tj.callVv (as := [_, _, _, _, _]) (rest := []) dX12_turned_127 ln_X12_251 sh_145 (by decide) rfl rfl (Nat.le_of_ble_eq_true rfl) ⟨Nat.le_of_ble_eq_true rfl, Nat.le_of_ble_eq_true rfl⟩ (Nat.le_of_ble_eq_true rfl) rfl ?_
      refine Clv.mono h (fun m1 h => ?_)
      obtain ⟨o4, h⟩ := h
      refine Tj.iinc dX12_turned_130 rfl (Nat.le_of_ble_eq_true rfl) rfl o4 rfl ?_
      refine Tj.goto dX12_turned_133 rfl ?_
      exact Tj.cut h ⟨rfl, ⟨rfl, ⟨rfl, trivial⟩⟩⟩
    · have h := h.2 c2
      obtain ⟨o5, h⟩ := h
      refine Tj.iload_n dX12_turned_99 rfl rfl ?_
      refine Tj.ineg dX12_turned_100 o5 rfl ?_
      refine Tj.iload_n dX12_turned_101 rfl rfl ?_
      refine Tj.if_ne dX12_turned_102 rfl rfl (fun c4 => ?_) (fun c4 => ?_)
      case refine_1 => exact absurd c4 c2
      refine Tj.aload_n dX12_turned_109 rfl rfl ?_
      refine Tj.getR (b := 150) dX12_turned_110 fl_X12_22 sh_145 rfl rfl ?_
      refine Tj.iload_n dX12_turned_113 rfl rfl ?_
      refine Tj.iald dX12_turned_114 sh_150 o1 o2 rfl ?_
      refine Tj.aload_n dX12_turned_115 rfl rfl ?_
      refine Tj.getR (b := 165) dX12_turned_116 fl_X12_67 sh_145 rfl rfl ?_
      refine Tj.iload_n dX12_turned_119 rfl rfl ?_
      refine Tj.iald dX12_turned_120 sh_165 o1 o2 rfl ?_
      refine Tj.aload_n dX12_turned_121 rfl rfl ?_
      refine Tj.getR (b := 166) dX12_turned_122 fl_X12_70 sh_145 rfl rfl ?_
      refine Tj.iload_n dX12_turned_125 rfl rfl ?_
      refine Tj.iald dX12_turned_126 sh_166 o1 o2 rfl ?_
      refine Tj.callVv (as := [_, _, _, _, _]) (rest := []) dX12_turned_127 ln_X12_251 sh_145 (by decide) rfl rfl (Nat.le_of_ble_eq_true rfl) ⟨Nat.le_of_ble_eq_true rfl, Nat.le_of_ble_eq_true rfl⟩ (Nat.le_of_ble_eq_true rfl) rfl ?_
      refine Clv.mono h (fun m2 h => ?_)
      obtain ⟨o6, h⟩ := h
      refine Tj.iinc dX12_turned_130 rfl (Nat.le_of_ble_eq_true rfl) rfl o6 rfl ?_
      refine Tj.goto dX12_turned_133 rfl ?_
      exact Tj.cut h ⟨rfl, ⟨rfl, ⟨rfl, trivial⟩⟩⟩
  · have h := h.2 c1
    refine Tj.aload_n dX12_turned_136 rfl rfl ?_
    refine Tj.callVv (as := []) (rest := []) dX12_turned_137 ln_X12_242 sh_145 (by decide) rfl rfl (Nat.le_of_ble_eq_true rfl) ⟨Nat.le_of_ble_eq_true rfl, Nat.le_of_ble_eq_true rfl⟩ (Nat.le_of_ble_eq_true rfl) rfl ?_
    refine Clv.mono h (fun m3 h => ?_)
    exact Tj.vret dX12_turned_140 rfl h

theorem wX12_turn_0 {m : tM} {P : Option tV → tM → Prop} {x1 : Int}  (h : Cli mX12_in [iV x1, iV 0, iV 1] (up m 145 0 0) (fun r1 m1 => ((r1 = 0 → (P (some (iV (-3))) m1)) ∧ (¬ r1 = 0 → (Clv mX12_keep [rV 145] m1 (fun m2 => (Clv mX12_turned [rV 145, iV x1] m2 (fun m3 => (P (some (iV 0)) m3))))))))) : Tj mX12_turn 0 [some (rV 145), some (iV x1)] [] m P := by
  refine Tj.aload_n dX12_turn_0 rfl rfl ?_
  refine Tj.iconst dX12_turn_1 (by decide) rfl ?_
  refine Tj.pI (j := 0) dX12_turn_2 fp_X12_113 sh_145 rfl rfl ?_
  refine Tj.iload_n dX12_turn_5 rfl rfl ?_
  refine Tj.iconst dX12_turn_6 (by decide) rfl ?_
  refine Tj.iconst dX12_turn_7 (by decide) rfl ?_
  refine Tj.callSi (as := [_, _, _]) (rest := []) dX12_turn_8 ln_X12_139 rfl rfl (Nat.le_of_ble_eq_true rfl) ⟨Nat.le_of_ble_eq_true rfl, Nat.le_of_ble_eq_true rfl⟩ (Nat.le_of_ble_eq_true rfl) rfl ?_
  refine Cli.mono h (fun r1 m1 h => ?_)
  refine Tj.if_ne dX12_turn_11 rfl rfl (fun c1 => ?_) (fun c1 => ?_)
  · have h := h.1 c1
    refine Tj.bipush dX12_turn_14 (by decide) (by decide +kernel) rfl ?_
    exact Tj.iret dX12_turn_16 rfl h
  · have h := h.2 c1
    refine Tj.aload_n dX12_turn_17 rfl rfl ?_
    refine Tj.callVv (as := []) (rest := []) dX12_turn_18 ln_X12_136 sh_145 (by decide) rfl rfl (Nat.le_of_ble_eq_true rfl) ⟨Nat.le_of_ble_eq_true rfl, Nat.le_of_ble_eq_true rfl⟩ (Nat.le_of_ble_eq_true rfl) rfl ?_
    refine Clv.mono h (fun m2 h => ?_)
    refine Tj.aload_n dX12_turn_21 rfl rfl ?_
    refine Tj.iload_n dX12_turn_22 rfl rfl ?_
    refine Tj.callVv (as := [_]) (rest := []) dX12_turn_23 ln_X12_275 sh_145 (by decide) rfl rfl (Nat.le_of_ble_eq_true rfl) ⟨Nat.le_of_ble_eq_true rfl, Nat.le_of_ble_eq_true rfl⟩ (Nat.le_of_ble_eq_true rfl) rfl ?_
    refine Clv.mono h (fun m3 h => ?_)
    refine Tj.iconst dX12_turn_26 (by decide) rfl ?_
    exact Tj.iret dX12_turn_27 rfl h

theorem wX12_clear_0 {m : tM} {P : Option tV → tM → Prop}   (h : Clv mX12_keep [rV 145] (up m 145 0 0) (fun m1 => (P (some (iV (m1 145 4))) (up m1 145 4 0)))) : Tj mX12_clear 0 [some (rV 145)] [] m P := by
  refine Tj.aload_n dX12_clear_0 rfl rfl ?_
  refine Tj.iconst dX12_clear_1 (by decide) rfl ?_
  refine Tj.pI (j := 0) dX12_clear_2 fp_X12_113 sh_145 rfl rfl ?_
  refine Tj.aload_n dX12_clear_5 rfl rfl ?_
  refine Tj.callVv (as := []) (rest := []) dX12_clear_6 ln_X12_136 sh_145 (by decide) rfl rfl (Nat.le_of_ble_eq_true rfl) ⟨Nat.le_of_ble_eq_true rfl, Nat.le_of_ble_eq_true rfl⟩ (Nat.le_of_ble_eq_true rfl) rfl ?_
  refine Clv.mono h (fun m1 h => ?_)
  refine Tj.aload_n dX12_clear_9 rfl rfl ?_
  refine Tj.gI (j := 4) dX12_clear_10 fl_X12_127 sh_145 rfl rfl ?_
  refine Tj.istore_n dX12_clear_13 (Nat.le_of_ble_eq_true rfl) rfl rfl ?_
  refine Tj.aload_n dX12_clear_14 rfl rfl ?_
  refine Tj.iconst dX12_clear_15 (by decide) rfl ?_
  refine Tj.pI (j := 4) dX12_clear_16 fp_X12_127 sh_145 rfl rfl ?_
  refine Tj.iload_n dX12_clear_19 rfl rfl ?_
  exact Tj.iret dX12_clear_20 rfl h

theorem wX12_told_0 {m : tM} {P : Option tV → tM → Prop} {x1 : Int} {x2 : Int}  (h : (R32 ((m 145 4) - 1)) ∧ (Cli mX12_in [iV x1, iV 0, iV ((m 145 4) - 1)] (up m 145 0 0) (fun r1 m1 => ((r1 = 0 → (P (some (iV (-3))) m1)) ∧ (¬ r1 = 0 → (Cli mX12_in [iV x2, iV 0, iV 2] m1 (fun r2 m2 => ((r2 = 0 → (P (some (iV (-3))) m2)) ∧ (¬ r2 = 0 → (Tj mX12_told 36 [some (rV 145), some (iV x1), some (iV x2), some (iV 0), some (iV 0)] [] m2 P)))))))))) : Tj mX12_told 0 [some (rV 145), some (iV x1), some (iV x2)] [] m P := by
  obtain ⟨o1, h⟩ := h
  refine Tj.aload_n dX12_told_0 rfl rfl ?_
  refine Tj.iconst dX12_told_1 (by decide) rfl ?_
  refine Tj.pI (j := 0) dX12_told_2 fp_X12_113 sh_145 rfl rfl ?_
  refine Tj.iload_n dX12_told_5 rfl rfl ?_
  refine Tj.iconst dX12_told_6 (by decide) rfl ?_
  refine Tj.aload_n dX12_told_7 rfl rfl ?_
  refine Tj.gI (j := 4) dX12_told_8 fl_X12_127 sh_145 rfl rfl ?_
  refine Tj.iconst dX12_told_11 (by decide) rfl ?_
  refine Tj.isub dX12_told_12 o1 rfl ?_
  refine Tj.callSi (as := [_, _, _]) (rest := []) dX12_told_13 ln_X12_139 rfl rfl (Nat.le_of_ble_eq_true rfl) ⟨Nat.le_of_ble_eq_true rfl, Nat.le_of_ble_eq_true rfl⟩ (Nat.le_of_ble_eq_true rfl) rfl ?_
  refine Cli.mono h (fun r1 m1 h => ?_)
  refine Tj.if_eq dX12_told_16 rfl rfl (fun c1 => ?_) (fun c1 => ?_)
  · have h := h.1 c1
    refine Tj.bipush dX12_told_28 (by decide) (by decide +kernel) rfl ?_
    exact Tj.iret dX12_told_30 rfl h
  · have h := h.2 c1
    refine Tj.iload_n dX12_told_19 rfl rfl ?_
    refine Tj.iconst dX12_told_20 (by decide) rfl ?_
    refine Tj.iconst dX12_told_21 (by decide) rfl ?_
    refine Tj.callSi (as := [_, _, _]) (rest := []) dX12_told_22 ln_X12_139 rfl rfl (Nat.le_of_ble_eq_true rfl) ⟨Nat.le_of_ble_eq_true rfl, Nat.le_of_ble_eq_true rfl⟩ (Nat.le_of_ble_eq_true rfl) rfl ?_
    refine Cli.mono h (fun r2 m2 h => ?_)
    refine Tj.if_ne dX12_told_25 rfl rfl (fun c2 => ?_) (fun c2 => ?_)
    · have h := h.1 c2
      refine Tj.bipush dX12_told_28 (by decide) (by decide +kernel) rfl ?_
      exact Tj.iret dX12_told_30 rfl h
    · have h := h.2 c2
      refine Tj.iconst dX12_told_31 (by decide) rfl ?_
      refine Tj.istore_n dX12_told_32 (Nat.le_of_ble_eq_true rfl) rfl rfl ?_
      refine Tj.iconst dX12_told_33 (by decide) rfl ?_
      refine Tj.istore dX12_told_34 (Nat.le_of_ble_eq_true rfl) rfl rfl ?_
      exact Tj.cut h ⟨rfl, ⟨rfl, ⟨rfl, ⟨rfl, ⟨rfl, trivial⟩⟩⟩⟩⟩

theorem wX12_told_36 {m : tM} {P : Option tV → tM → Prop} {x1 : Int} {x2 : Int} {x3 : Int} {x4 : Int}  (h : (x4 < 4 → (Cli mX12_creaseOf [rV 145, iV x1, iV x4] m (fun r1 m1 => (∀ v1 : Int, v1 = (if r1 = 0 then 0 else 1) → ((R32 (x3 + v1) ∧ R32 (x4 + 1)) ∧ (Tj mX12_told 36 [some (rV 145), some (iV x1), some (iV x2), some (iV (x3 + v1)), some (iV (x4 + 1))] [] m1 P)))))) ∧ (¬ x4 < 4 → ((x2 = 0 → ((0 ≤ x1 ∧ x1 < 60) ∧ (P (some (iV (m 149 x1))) m))) ∧ (¬ x2 = 0 → ((x2 = 1 → ((0 ≤ x1 ∧ x1 < 60) ∧ (P (some (iV (m 150 x1))) m))) ∧ (¬ x2 = 1 → (P (some (iV x3)) m))))))) : Tj mX12_told 36 [some (rV 145), some (iV x1), some (iV x2), some (iV x3), some (iV x4)] [] m P := by
  refine Tj.iload dX12_told_36 rfl rfl ?_
  refine Tj.iconst dX12_told_38 (by decide) rfl ?_
  refine Tj.icmp_ge dX12_told_39 rfl rfl (fun c1 => ?_) (fun c1 => ?_)
  · have h := h.1 c1
    refine Tj.iload_n dX12_told_42 rfl rfl ?_
    refine Tj.aload_n dX12_told_43 rfl rfl ?_
    refine Tj.iload_n dX12_told_44 rfl rfl ?_
    refine Tj.iload dX12_told_45 rfl rfl ?_
    refine Tj.callVi (as := [_, _]) (rest := [_]) dX12_told_47 ln_X12_269 sh_145 (by decide) rfl rfl (Nat.le_of_ble_eq_true rfl) ⟨Nat.le_of_ble_eq_true rfl, Nat.le_of_ble_eq_true rfl⟩ (Nat.le_of_ble_eq_true rfl) rfl ?_
    refine Cli.mono h (fun r1 m1 h => ?_)
    have hj : Tj mX12_told 58 [some (rV 145), some (iV x1), some (iV x2), none, some (iV x4)] [iV (if r1 = 0 then 0 else 1), iV x3] m1 P := by
      generalize hv1 : ((if r1 = 0 then 0 else 1) : Int) = v1
      have h := h v1 hv1.symm
      obtain ⟨⟨o1, o2⟩, h⟩ := h
      refine Tj.iadd dX12_told_58 o1 rfl ?_
      refine Tj.istore_n dX12_told_59 (Nat.le_of_ble_eq_true rfl) rfl rfl ?_
      refine Tj.iinc dX12_told_60 rfl (Nat.le_of_ble_eq_true rfl) rfl o2 rfl ?_
      refine Tj.goto dX12_told_63 rfl ?_
      exact Tj.cut h ⟨rfl, ⟨rfl, ⟨rfl, ⟨rfl, ⟨rfl, trivial⟩⟩⟩⟩⟩
    refine Tj.if_eq dX12_told_50 rfl rfl (fun c2 => ?_) (fun c2 => ?_)
    · refine Tj.iconst dX12_told_57 (by decide) rfl ?_
      try simp only [if_pos c2] at hj ⊢
      exact Tj.cut hj ⟨rfl, ⟨rfl, ⟨rfl, ⟨rfl, trivial⟩⟩⟩⟩
    · refine Tj.iconst dX12_told_53 (by decide) rfl ?_
      refine Tj.goto dX12_told_54 rfl ?_
      try simp only [if_neg c2] at hj ⊢
      exact Tj.cut hj ⟨rfl, ⟨rfl, ⟨rfl, ⟨rfl, trivial⟩⟩⟩⟩
  · have h := h.2 c1
    refine Tj.iload_n dX12_told_66 rfl rfl ?_
    refine Tj.if_ne dX12_told_67 rfl rfl (fun c3 => ?_) (fun c3 => ?_)
    · have h := h.1 c3
      obtain ⟨⟨o3, o4⟩, h⟩ := h
      refine Tj.aload_n dX12_told_70 rfl rfl ?_
      refine Tj.getR (b := 149) dX12_told_71 fl_X12_19 sh_145 rfl rfl ?_
      refine Tj.iload_n dX12_told_74 rfl rfl ?_
      refine Tj.iald dX12_told_75 sh_149 o3 o4 rfl ?_
      refine Tj.goto dX12_told_76 rfl ?_
      exact Tj.iret dX12_told_94 rfl h
    · have h := h.2 c3
      refine Tj.iload_n dX12_told_79 rfl rfl ?_
      refine Tj.iconst dX12_told_80 (by decide) rfl ?_
      refine Tj.icmp_ne dX12_told_81 rfl rfl (fun c4 => ?_) (fun c4 => ?_)
      · have h := h.1 c4
        obtain ⟨⟨o5, o6⟩, h⟩ := h
        refine Tj.aload_n dX12_told_84 rfl rfl ?_
        refine Tj.getR (b := 150) dX12_told_85 fl_X12_22 sh_145 rfl rfl ?_
        refine Tj.iload_n dX12_told_88 rfl rfl ?_
        refine Tj.iald dX12_told_89 sh_150 o5 o6 rfl ?_
        refine Tj.goto dX12_told_90 rfl ?_
        exact Tj.iret dX12_told_94 rfl h
      · have h := h.2 c4
        refine Tj.iload_n dX12_told_93 rfl rfl ?_
        exact Tj.iret dX12_told_94 rfl h

theorem wX12_toward_0 {m : tM} {P : Option tV → tM → Prop} {x1 : Int} {x2 : Int}  (h : (x2 = 0 → ((0 ≤ x1 ∧ x1 < 60) ∧ (P (some (iV (m 171 x1))) m))) ∧ (¬ x2 = 0 → ((x2 = 1 → ((0 ≤ x1 ∧ x1 < 60) ∧ (P (some (iV (m 172 x1))) m))) ∧ (¬ x2 = 1 → ((x2 = 2 → ((0 ≤ x1 ∧ x1 < 60) ∧ (P (some (iV (bXor (m 171 x1) 1))) m))) ∧ (¬ x2 = 2 → ((0 ≤ x1 ∧ x1 < 60) ∧ (P (some (iV (bXor (m 172 x1) 1))) m)))))))) : Tj mX12_toward 0 [some (rV 145), some (iV x1), some (iV x2)] [] m P := by
  refine Tj.iload_n dX12_toward_0 rfl rfl ?_
  refine Tj.if_ne dX12_toward_1 rfl rfl (fun c1 => ?_) (fun c1 => ?_)
  · have h := h.1 c1
    obtain ⟨⟨o1, o2⟩, h⟩ := h
    refine Tj.aload_n dX12_toward_4 rfl rfl ?_
    refine Tj.getR (b := 171) dX12_toward_5 fl_X12_85 sh_145 rfl rfl ?_
    refine Tj.iload_n dX12_toward_8 rfl rfl ?_
    refine Tj.iald dX12_toward_9 sh_171 o1 o2 rfl ?_
    refine Tj.goto dX12_toward_10 rfl ?_
    exact Tj.iret dX12_toward_51 rfl h
  · have h := h.2 c1
    refine Tj.iload_n dX12_toward_13 rfl rfl ?_
    refine Tj.iconst dX12_toward_14 (by decide) rfl ?_
    refine Tj.icmp_ne dX12_toward_15 rfl rfl (fun c2 => ?_) (fun c2 => ?_)
    · have h := h.1 c2
      obtain ⟨⟨o3, o4⟩, h⟩ := h
      refine Tj.aload_n dX12_toward_18 rfl rfl ?_
      refine Tj.getR (b := 172) dX12_toward_19 fl_X12_88 sh_145 rfl rfl ?_
      refine Tj.iload_n dX12_toward_22 rfl rfl ?_
      refine Tj.iald dX12_toward_23 sh_172 o3 o4 rfl ?_
      refine Tj.goto dX12_toward_24 rfl ?_
      exact Tj.iret dX12_toward_51 rfl h
    · have h := h.2 c2
      refine Tj.iload_n dX12_toward_27 rfl rfl ?_
      refine Tj.iconst dX12_toward_28 (by decide) rfl ?_
      refine Tj.icmp_ne dX12_toward_29 rfl rfl (fun c3 => ?_) (fun c3 => ?_)
      · have h := h.1 c3
        obtain ⟨⟨o5, o6⟩, h⟩ := h
        refine Tj.aload_n dX12_toward_32 rfl rfl ?_
        refine Tj.getR (b := 171) dX12_toward_33 fl_X12_85 sh_145 rfl rfl ?_
        refine Tj.iload_n dX12_toward_36 rfl rfl ?_
        refine Tj.iald dX12_toward_37 sh_171 o5 o6 rfl ?_
        refine Tj.iconst dX12_toward_38 (by decide) rfl ?_
        refine Tj.ixor dX12_toward_39 rfl ?_
        refine Tj.goto dX12_toward_40 rfl ?_
        exact Tj.iret dX12_toward_51 rfl h
      · have h := h.2 c3
        obtain ⟨⟨o7, o8⟩, h⟩ := h
        refine Tj.aload_n dX12_toward_43 rfl rfl ?_
        refine Tj.getR (b := 172) dX12_toward_44 fl_X12_88 sh_145 rfl rfl ?_
        refine Tj.iload_n dX12_toward_47 rfl rfl ?_
        refine Tj.iald dX12_toward_48 sh_172 o7 o8 rfl ?_
        refine Tj.iconst dX12_toward_49 (by decide) rfl ?_
        refine Tj.ixor dX12_toward_50 rfl ?_
        exact Tj.iret dX12_toward_51 rfl h

theorem wX12_foldAcross_0 {m : tM} {P : Option tV → tM → Prop} {x1 : Int} {x2 : Int}  (h : Cli mX12_creaseOf [rV 145, iV x1, iV x2] m (fun r1 m1 => ((R32 (r1 - 2)) ∧ (Cli mX12_neighbour [rV 145, iV x1, iV x2] m1 (fun r2 m2 => (Cli mX12_toward [rV 145, iV x1, iV x2] m2 (fun r3 m3 => ((R32 (x2 + 1) ∧ 0 ≤ (x2 + 1)) ∧ (Cli mX12_toward [rV 145, iV x1, iV ((x2 + 1) % 4)] m3 (fun r4 m4 => ((0 ≤ x1 ∧ x1 < 60) ∧ (∀ v1 : Int, v1 = (if (r1 - 2) = 0 then r3 else (if (r1 - 2) = 1 then (bXor (m4 173 x1) 1) else (m4 173 x1))) → (∀ v2 : Int, v2 = (if (r1 - 2) = 0 then (m4 173 x1) else (if (r1 - 2) = 1 then r3 else (bXor r3 1))) → (∀ v3 : Int, v3 = (if (r1 - 2) = 0 then r3 else (if (r1 - 2) = 1 then (bXor (m4 173 x1) 1) else (m4 173 x1))) → (Cli mX12_alongOf [iV r3, iV 0] m4 (fun r5 m5 => ((R32 ((m4 168 x1) + r5)) ∧ (Cli mX12_alongOf [iV v3, iV 0] m5 (fun r6 m6 => ((R32 (((m4 168 x1) + r5) + r6)) ∧ (Cli mX12_alongOf [iV r3, iV 1] m6 (fun r7 m7 => ((R32 ((m6 169 x1) + r7)) ∧ (Cli mX12_alongOf [iV v3, iV 1] m7 (fun r8 m8 => ((R32 (((m6 169 x1) + r7) + r8)) ∧ (Cli mX12_alongOf [iV r3, iV 2] m8 (fun r9 m9 => ((R32 ((m8 170 x1) + r9)) ∧ (Cli mX12_alongOf [iV v3, iV 2] m9 (fun r10 m10 => ((R32 (((m8 170 x1) + r9) + r10)) ∧ (∀ v4 : Int, v4 = (if x2 = 0 then v1 else (if x2 = 1 then (bXor r4 1) else (if x2 = 2 then (bXor v1 1) else r4))) → (∀ v5 : Int, v5 = (if x2 = 0 then r4 else (if x2 = 1 then v1 else (if x2 = 2 then (bXor r4 1) else (bXor v1 1)))) → ((0 ≤ r2 ∧ r2 < 60) ∧ (((m10 167 r2) = 1 → (((m10 168 r2) = (((m4 168 x1) + r5) + r6) → (((m10 169 r2) = (((m6 169 x1) + r7) + r8) → (((m10 170 r2) = (((m8 170 x1) + r9) + r10) → (((m10 171 r2) = v4 → (((m10 172 r2) = v5 → (∀ v6 : Int, v6 = (if (m10 173 r2) = v2 then 1 else 0) → (∀ v7 : Int, v7 = (if v6 = 0 then 2 else 0) → (P (some (iV v7)) m10)))) ∧ (¬ (m10 172 r2) = v5 → (P (some (iV 2)) m10)))) ∧ (¬ (m10 171 r2) = v4 → (P (some (iV 2)) m10)))) ∧ (¬ (m10 170 r2) = (((m8 170 x1) + r9) + r10) → (P (some (iV 2)) m10)))) ∧ (¬ (m10 169 r2) = (((m6 169 x1) + r7) + r8) → (P (some (iV 2)) m10)))) ∧ (¬ (m10 168 r2) = (((m4 168 x1) + r5) + r6) → (P (some (iV 2)) m10)))) ∧ (¬ (m10 167 r2) = 1 → (∀ m11 : tM, m11 = (up (up (up (up (up (up m10 167 r2 1) 168 r2 (((m4 168 x1) + r5) + r6)) 169 r2 (((m6 169 x1) + r7) + r8)) 170 r2 (((m8 170 x1) + r9) + r10)) 171 r2 v4) 172 r2 v5) → (P (some (iV 1)) (up m11 173 r2 v2)))))))))))))))))))))))))))))))))))))))) : Tj mX12_foldAcross 0 [some (rV 145), some (iV x1), some (iV x2)] [] m P := by
  refine Tj.aload_n dX12_foldAcross_0 rfl rfl ?_
  refine Tj.iload_n dX12_foldAcross_1 rfl rfl ?_
  refine Tj.iload_n dX12_foldAcross_2 rfl rfl ?_
  refine Tj.callVi (as := [_, _]) (rest := []) dX12_foldAcross_3 ln_X12_269 sh_145 (by decide) rfl rfl (Nat.le_of_ble_eq_true rfl) ⟨Nat.le_of_ble_eq_true rfl, Nat.le_of_ble_eq_true rfl⟩ (Nat.le_of_ble_eq_true rfl) rfl ?_
  refine Cli.mono h (fun r1 m1 h => ?_)
  obtain ⟨o1, h⟩ := h
  refine Tj.iconst dX12_foldAcross_6 (by decide) rfl ?_
  refine Tj.isub dX12_foldAcross_7 o1 rfl ?_
  refine Tj.istore_n dX12_foldAcross_8 (Nat.le_of_ble_eq_true rfl) rfl rfl ?_
  refine Tj.aload_n dX12_foldAcross_9 rfl rfl ?_
  refine Tj.iload_n dX12_foldAcross_10 rfl rfl ?_
  refine Tj.iload_n dX12_foldAcross_11 rfl rfl ?_
  refine Tj.callVi (as := [_, _]) (rest := []) dX12_foldAcross_12 ln_X12_258 sh_145 (by decide) rfl rfl (Nat.le_of_ble_eq_true rfl) ⟨Nat.le_of_ble_eq_true rfl, Nat.le_of_ble_eq_true rfl⟩ (Nat.le_of_ble_eq_true rfl) rfl ?_
  refine Cli.mono h (fun r2 m2 h => ?_)
  refine Tj.istore dX12_foldAcross_15 (Nat.le_of_ble_eq_true rfl) rfl rfl ?_
  refine Tj.aload_n dX12_foldAcross_17 rfl rfl ?_
  refine Tj.iload_n dX12_foldAcross_18 rfl rfl ?_
  refine Tj.iload_n dX12_foldAcross_19 rfl rfl ?_
  refine Tj.callVi (as := [_, _]) (rest := []) dX12_foldAcross_20 ln_X12_279 sh_145 (by decide) rfl rfl (Nat.le_of_ble_eq_true rfl) ⟨Nat.le_of_ble_eq_true rfl, Nat.le_of_ble_eq_true rfl⟩ (Nat.le_of_ble_eq_true rfl) rfl ?_
  refine Cli.mono h (fun r3 m3 h => ?_)
  obtain ⟨⟨o2, o3⟩, h⟩ := h
  refine Tj.istore dX12_foldAcross_23 (Nat.le_of_ble_eq_true rfl) rfl rfl ?_
  refine Tj.aload_n dX12_foldAcross_25 rfl rfl ?_
  refine Tj.iload_n dX12_foldAcross_26 rfl rfl ?_
  refine Tj.iload_n dX12_foldAcross_27 rfl rfl ?_
  refine Tj.iconst dX12_foldAcross_28 (by decide) rfl ?_
  refine Tj.iadd dX12_foldAcross_29 o2 rfl ?_
  refine Tj.iconst dX12_foldAcross_30 (by decide) rfl ?_
  refine Tj.irem dX12_foldAcross_31 o3 (by decide) rfl ?_
  refine Tj.callVi (as := [_, _]) (rest := []) dX12_foldAcross_32 ln_X12_279 sh_145 (by decide) rfl rfl (Nat.le_of_ble_eq_true rfl) ⟨Nat.le_of_ble_eq_true rfl, Nat.le_of_ble_eq_true rfl⟩ (Nat.le_of_ble_eq_true rfl) rfl ?_
  refine Cli.mono h (fun r4 m4 h => ?_)
  obtain ⟨⟨o4, o5⟩, h⟩ := h
  refine Tj.istore dX12_foldAcross_35 (Nat.le_of_ble_eq_true rfl) rfl rfl ?_
  refine Tj.aload_n dX12_foldAcross_37 rfl rfl ?_
  refine Tj.getR (b := 173) dX12_foldAcross_38 fl_X12_91 sh_145 rfl rfl ?_
  refine Tj.iload_n dX12_foldAcross_41 rfl rfl ?_
  refine Tj.iald dX12_foldAcross_42 sh_173 o4 o5 rfl ?_
  refine Tj.istore dX12_foldAcross_43 (Nat.le_of_ble_eq_true rfl) rfl rfl ?_
  refine Tj.iload_n dX12_foldAcross_45 rfl rfl ?_
  have hj : Tj mX12_foldAcross 68 [some (rV 145), some (iV x1), some (iV x2), some (iV (r1 - 2)), some (iV r2), some (iV r3), some (iV r4), some (iV (m4 173 x1))] [iV (if (r1 - 2) = 0 then r3 else (if (r1 - 2) = 1 then (bXor (m4 173 x1) 1) else (m4 173 x1)))] m4 P := by
    generalize hv1 : ((if (r1 - 2) = 0 then r3 else (if (r1 - 2) = 1 then (bXor (m4 173 x1) 1) else (m4 173 x1))) : Int) = v1
    have h := h v1 hv1.symm
    refine Tj.istore dX12_foldAcross_68 (Nat.le_of_ble_eq_true rfl) rfl rfl ?_
    refine Tj.iload_n dX12_foldAcross_70 rfl rfl ?_
    have hj : Tj mX12_foldAcross 93 [some (rV 145), some (iV x1), some (iV x2), some (iV (r1 - 2)), some (iV r2), some (iV r3), some (iV r4), some (iV (m4 173 x1)), some (iV v1)] [iV (if (r1 - 2) = 0 then (m4 173 x1) else (if (r1 - 2) = 1 then r3 else (bXor r3 1)))] m4 P := by
      generalize hv2 : ((if (r1 - 2) = 0 then (m4 173 x1) else (if (r1 - 2) = 1 then r3 else (bXor r3 1))) : Int) = v2
      have h := h v2 hv2.symm
      refine Tj.istore dX12_foldAcross_93 (Nat.le_of_ble_eq_true rfl) rfl rfl ?_
      refine Tj.iload_n dX12_foldAcross_95 rfl rfl ?_
      have hj : Tj mX12_foldAcross 118 [some (rV 145), some (iV x1), some (iV x2), none, some (iV r2), some (iV r3), some (iV r4), none, some (iV v1), some (iV v2)] [iV (if (r1 - 2) = 0 then r3 else (if (r1 - 2) = 1 then (bXor (m4 173 x1) 1) else (m4 173 x1)))] m4 P := by
        generalize hv3 : ((if (r1 - 2) = 0 then r3 else (if (r1 - 2) = 1 then (bXor (m4 173 x1) 1) else (m4 173 x1))) : Int) = v3
        have h := h v3 hv3.symm
        refine Tj.istore dX12_foldAcross_118 (Nat.le_of_ble_eq_true rfl) rfl rfl ?_
        refine Tj.aload_n dX12_foldAcross_120 rfl rfl ?_
        refine Tj.getR (b := 168) dX12_foldAcross_121 fl_X12_76 sh_145 rfl rfl ?_
        refine Tj.iload_n dX12_foldAcross_124 rfl rfl ?_
        refine Tj.iald dX12_foldAcross_125 sh_168 o4 o5 rfl ?_
        refine Tj.iload dX12_foldAcross_126 rfl rfl ?_
        refine Tj.iconst dX12_foldAcross_128 (by decide) rfl ?_
        refine Tj.callSi (as := [_, _]) (rest := [_]) dX12_foldAcross_129 ln_X12_154 rfl rfl (Nat.le_of_ble_eq_true rfl) ⟨Nat.le_of_ble_eq_true rfl, Nat.le_of_ble_eq_true rfl⟩ (Nat.le_of_ble_eq_true rfl) rfl ?_
        refine Cli.mono h (fun r5 m5 h => ?_)
        obtain ⟨o6, h⟩ := h
        refine Tj.iadd dX12_foldAcross_132 o6 rfl ?_
        refine Tj.iload dX12_foldAcross_133 rfl rfl ?_
        refine Tj.iconst dX12_foldAcross_135 (by decide) rfl ?_
        refine Tj.callSi (as := [_, _]) (rest := [_]) dX12_foldAcross_136 ln_X12_154 rfl rfl (Nat.le_of_ble_eq_true rfl) ⟨Nat.le_of_ble_eq_true rfl, Nat.le_of_ble_eq_true rfl⟩ (Nat.le_of_ble_eq_true rfl) rfl ?_
        refine Cli.mono h (fun r6 m6 h => ?_)
        obtain ⟨o7, h⟩ := h
        refine Tj.iadd dX12_foldAcross_139 o7 rfl ?_
        refine Tj.istore dX12_foldAcross_140 (Nat.le_of_ble_eq_true rfl) rfl rfl ?_
        refine Tj.aload_n dX12_foldAcross_142 rfl rfl ?_
        refine Tj.getR (b := 169) dX12_foldAcross_143 fl_X12_79 sh_145 rfl rfl ?_
        refine Tj.iload_n dX12_foldAcross_146 rfl rfl ?_
        refine Tj.iald dX12_foldAcross_147 sh_169 o4 o5 rfl ?_
        refine Tj.iload dX12_foldAcross_148 rfl rfl ?_
        refine Tj.iconst dX12_foldAcross_150 (by decide) rfl ?_
        refine Tj.callSi (as := [_, _]) (rest := [_]) dX12_foldAcross_151 ln_X12_154 rfl rfl (Nat.le_of_ble_eq_true rfl) ⟨Nat.le_of_ble_eq_true rfl, Nat.le_of_ble_eq_true rfl⟩ (Nat.le_of_ble_eq_true rfl) rfl ?_
        refine Cli.mono h (fun r7 m7 h => ?_)
        obtain ⟨o8, h⟩ := h
        refine Tj.iadd dX12_foldAcross_154 o8 rfl ?_
        refine Tj.iload dX12_foldAcross_155 rfl rfl ?_
        refine Tj.iconst dX12_foldAcross_157 (by decide) rfl ?_
        refine Tj.callSi (as := [_, _]) (rest := [_]) dX12_foldAcross_158 ln_X12_154 rfl rfl (Nat.le_of_ble_eq_true rfl) ⟨Nat.le_of_ble_eq_true rfl, Nat.le_of_ble_eq_true rfl⟩ (Nat.le_of_ble_eq_true rfl) rfl ?_
        refine Cli.mono h (fun r8 m8 h => ?_)
        obtain ⟨o9, h⟩ := h
        refine Tj.iadd dX12_foldAcross_161 o9 rfl ?_
        refine Tj.istore dX12_foldAcross_162 (Nat.le_of_ble_eq_true rfl) rfl rfl ?_
        refine Tj.aload_n dX12_foldAcross_164 rfl rfl ?_
        refine Tj.getR (b := 170) dX12_foldAcross_165 fl_X12_82 sh_145 rfl rfl ?_
        refine Tj.iload_n dX12_foldAcross_168 rfl rfl ?_
        refine Tj.iald dX12_foldAcross_169 sh_170 o4 o5 rfl ?_
        refine Tj.iload dX12_foldAcross_170 rfl rfl ?_
        refine Tj.iconst dX12_foldAcross_172 (by decide) rfl ?_
        refine Tj.callSi (as := [_, _]) (rest := [_]) dX12_foldAcross_173 ln_X12_154 rfl rfl (Nat.le_of_ble_eq_true rfl) ⟨Nat.le_of_ble_eq_true rfl, Nat.le_of_ble_eq_true rfl⟩ (Nat.le_of_ble_eq_true rfl) rfl ?_
        refine Cli.mono h (fun r9 m9 h => ?_)
        obtain ⟨o10, h⟩ := h
        refine Tj.iadd dX12_foldAcross_176 o10 rfl ?_
        refine Tj.iload dX12_foldAcross_177 rfl rfl ?_
        refine Tj.iconst dX12_foldAcross_179 (by decide) rfl ?_
        refine Tj.callSi (as := [_, _]) (rest := [_]) dX12_foldAcross_180 ln_X12_154 rfl rfl (Nat.le_of_ble_eq_true rfl) ⟨Nat.le_of_ble_eq_true rfl, Nat.le_of_ble_eq_true rfl⟩ (Nat.le_of_ble_eq_true rfl) rfl ?_
        refine Cli.mono h (fun r10 m10 h => ?_)
        obtain ⟨o11, h⟩ := h
        refine Tj.iadd dX12_foldAcross_183 o11 rfl ?_
        refine Tj.istore dX12_foldAcross_184 (Nat.le_of_ble_eq_true rfl) rfl rfl ?_
        refine Tj.iload_n dX12_foldAcross_186 rfl rfl ?_
        have hj : Tj mX12_foldAcross 221 [some (rV 145), none, some (iV x2), none, some (iV r2), none, some (iV r4), none, some (iV v1), some (iV v2), none, some (iV (((m4 168 x1) + r5) + r6)), some (iV (((m6 169 x1) + r7) + r8)), some (iV (((m8 170 x1) + r9) + r10))] [iV (if x2 = 0 then v1 else (if x2 = 1 then (bXor r4 1) else (if x2 = 2 then (bXor v1 1) else r4)))] m10 P := by
          generalize hv4 : ((if x2 = 0 then v1 else (if x2 = 1 then (bXor r4 1) else (if x2 = 2 then (bXor v1 1) else r4))) : Int) = v4
          have h := h v4 hv4.symm
          refine Tj.istore dX12_foldAcross_221 (Nat.le_of_ble_eq_true rfl) rfl rfl ?_
          refine Tj.iload_n dX12_foldAcross_223 rfl rfl ?_
          have hj : Tj mX12_foldAcross 258 [some (rV 145), none, none, none, some (iV r2), none, none, none, none, some (iV v2), none, some (iV (((m4 168 x1) + r5) + r6)), some (iV (((m6 169 x1) + r7) + r8)), some (iV (((m8 170 x1) + r9) + r10)), some (iV v4)] [iV (if x2 = 0 then r4 else (if x2 = 1 then v1 else (if x2 = 2 then (bXor r4 1) else (bXor v1 1))))] m10 P := by
            generalize hv5 : ((if x2 = 0 then r4 else (if x2 = 1 then v1 else (if x2 = 2 then (bXor r4 1) else (bXor v1 1)))) : Int) = v5
            have h := h v5 hv5.symm
            obtain ⟨⟨o12, o13⟩, h⟩ := h
            refine Tj.istore dX12_foldAcross_258 (Nat.le_of_ble_eq_true rfl) rfl rfl ?_
            refine Tj.aload_n dX12_foldAcross_260 rfl rfl ?_
            refine Tj.getR (b := 167) dX12_foldAcross_261 fl_X12_73 sh_145 rfl rfl ?_
            refine Tj.iload dX12_foldAcross_264 rfl rfl ?_
            refine Tj.iald dX12_foldAcross_266 sh_167 o12 o13 rfl ?_
            refine Tj.iconst dX12_foldAcross_267 (by decide) rfl ?_
            refine Tj.icmp_ne dX12_foldAcross_268 rfl rfl (fun c13 => ?_) (fun c13 => ?_)
            · have h := h.1 c13
              refine Tj.aload_n dX12_foldAcross_271 rfl rfl ?_
              refine Tj.getR (b := 168) dX12_foldAcross_272 fl_X12_76 sh_145 rfl rfl ?_
              refine Tj.iload dX12_foldAcross_275 rfl rfl ?_
              refine Tj.iald dX12_foldAcross_277 sh_168 o12 o13 rfl ?_
              refine Tj.iload dX12_foldAcross_278 rfl rfl ?_
              refine Tj.icmp_ne dX12_foldAcross_280 rfl rfl (fun c14 => ?_) (fun c14 => ?_)
              · have h := h.1 c14
                refine Tj.aload_n dX12_foldAcross_283 rfl rfl ?_
                refine Tj.getR (b := 169) dX12_foldAcross_284 fl_X12_79 sh_145 rfl rfl ?_
                refine Tj.iload dX12_foldAcross_287 rfl rfl ?_
                refine Tj.iald dX12_foldAcross_289 sh_169 o12 o13 rfl ?_
                refine Tj.iload dX12_foldAcross_290 rfl rfl ?_
                refine Tj.icmp_ne dX12_foldAcross_292 rfl rfl (fun c15 => ?_) (fun c15 => ?_)
                · have h := h.1 c15
                  refine Tj.aload_n dX12_foldAcross_295 rfl rfl ?_
                  refine Tj.getR (b := 170) dX12_foldAcross_296 fl_X12_82 sh_145 rfl rfl ?_
                  refine Tj.iload dX12_foldAcross_299 rfl rfl ?_
                  refine Tj.iald dX12_foldAcross_301 sh_170 o12 o13 rfl ?_
                  refine Tj.iload dX12_foldAcross_302 rfl rfl ?_
                  refine Tj.icmp_ne dX12_foldAcross_304 rfl rfl (fun c16 => ?_) (fun c16 => ?_)
                  · have h := h.1 c16
                    refine Tj.aload_n dX12_foldAcross_307 rfl rfl ?_
                    refine Tj.getR (b := 171) dX12_foldAcross_308 fl_X12_85 sh_145 rfl rfl ?_
                    refine Tj.iload dX12_foldAcross_311 rfl rfl ?_
                    refine Tj.iald dX12_foldAcross_313 sh_171 o12 o13 rfl ?_
                    refine Tj.iload dX12_foldAcross_314 rfl rfl ?_
                    refine Tj.icmp_ne dX12_foldAcross_316 rfl rfl (fun c17 => ?_) (fun c17 => ?_)
                    · have h := h.1 c17
                      refine Tj.aload_n dX12_foldAcross_319 rfl rfl ?_
                      refine Tj.getR (b := 172) dX12_foldAcross_320 fl_X12_88 sh_145 rfl rfl ?_
                      refine Tj.iload dX12_foldAcross_323 rfl rfl ?_
                      refine Tj.iald dX12_foldAcross_325 sh_172 o12 o13 rfl ?_
                      refine Tj.iload dX12_foldAcross_326 rfl rfl ?_
                      refine Tj.icmp_ne dX12_foldAcross_328 rfl rfl (fun c18 => ?_) (fun c18 => ?_)
                      · have h := h.1 c18
                        refine Tj.aload_n dX12_foldAcross_331 rfl rfl ?_
                        refine Tj.getR (b := 173) dX12_foldAcross_332 fl_X12_91 sh_145 rfl rfl ?_
                        refine Tj.iload dX12_foldAcross_335 rfl rfl ?_
                        refine Tj.iald dX12_foldAcross_337 sh_173 o12 o13 rfl ?_
                        refine Tj.iload dX12_foldAcross_338 rfl rfl ?_
                        have hj : Tj mX12_foldAcross 348 [] [iV (if (m10 173 r2) = v2 then 1 else 0)] m10 P := by
                          generalize hv6 : ((if (m10 173 r2) = v2 then 1 else 0) : Int) = v6
                          have h := h v6 hv6.symm
                          refine Tj.istore dX12_foldAcross_348 (Nat.le_of_ble_eq_true rfl) rfl rfl ?_
                          refine Tj.iload dX12_foldAcross_350 rfl rfl ?_
                          have hj : Tj mX12_foldAcross 360 [] [iV (if v6 = 0 then 2 else 0)] m10 P := by
                            generalize hv7 : ((if v6 = 0 then 2 else 0) : Int) = v7
                            have h := h v7 hv7.symm
                            exact Tj.iret dX12_foldAcross_360 rfl h
                          refine Tj.if_eq dX12_foldAcross_352 rfl rfl (fun c20 => ?_) (fun c20 => ?_)
                          · refine Tj.iconst dX12_foldAcross_359 (by decide) rfl ?_
                            try simp only [if_pos c20] at hj ⊢
                            exact Tj.cut hj trivial
                          · refine Tj.iconst dX12_foldAcross_355 (by decide) rfl ?_
                            refine Tj.goto dX12_foldAcross_356 rfl ?_
                            try simp only [if_neg c20] at hj ⊢
                            exact Tj.cut hj trivial
                        refine Tj.icmp_ne dX12_foldAcross_340 rfl rfl (fun c19 => ?_) (fun c19 => ?_)
                        · refine Tj.iconst dX12_foldAcross_343 (by decide) rfl ?_
                          refine Tj.goto dX12_foldAcross_344 rfl ?_
                          try simp only [if_pos c19] at hj ⊢
                          exact Tj.cut hj trivial
                        · refine Tj.iconst dX12_foldAcross_347 (by decide) rfl ?_
                          try simp only [if_neg c19] at hj ⊢
                          exact Tj.cut hj trivial
                      · have h := h.2 c18
                        refine Tj.iconst dX12_foldAcross_347 (by decide) rfl ?_
                        refine Tj.istore dX12_foldAcross_348 (Nat.le_of_ble_eq_true rfl) rfl rfl ?_
                        refine Tj.iload dX12_foldAcross_350 rfl rfl ?_
                        refine Tj.if_eq dX12_foldAcross_352 rfl rfl (fun c21 => ?_) (fun c21 => ?_)
                        case refine_2 => exact absurd (by decide) c21
                        refine Tj.iconst dX12_foldAcross_359 (by decide) rfl ?_
                        exact Tj.iret dX12_foldAcross_360 rfl h
                    · have h := h.2 c17
                      refine Tj.iconst dX12_foldAcross_347 (by decide) rfl ?_
                      refine Tj.istore dX12_foldAcross_348 (Nat.le_of_ble_eq_true rfl) rfl rfl ?_
                      refine Tj.iload dX12_foldAcross_350 rfl rfl ?_
                      refine Tj.if_eq dX12_foldAcross_352 rfl rfl (fun c22 => ?_) (fun c22 => ?_)
                      case refine_2 => exact absurd (by decide) c22
                      refine Tj.iconst dX12_foldAcross_359 (by decide) rfl ?_
                      exact Tj.iret dX12_foldAcross_360 rfl h
                  · have h := h.2 c16
                    refine Tj.iconst dX12_foldAcross_347 (by decide) rfl ?_
                    refine Tj.istore dX12_foldAcross_348 (Nat.le_of_ble_eq_true rfl) rfl rfl ?_
                    refine Tj.iload dX12_foldAcross_350 rfl rfl ?_
                    refine Tj.if_eq dX12_foldAcross_352 rfl rfl (fun c23 => ?_) (fun c23 => ?_)
                    case refine_2 => exact absurd (by decide) c23
                    refine Tj.iconst dX12_foldAcross_359 (by decide) rfl ?_
                    exact Tj.iret dX12_foldAcross_360 rfl h
                · have h := h.2 c15
                  refine Tj.iconst dX12_foldAcross_347 (by decide) rfl ?_
                  refine Tj.istore dX12_foldAcross_348 (Nat.le_of_ble_eq_true rfl) rfl rfl ?_
                  refine Tj.iload dX12_foldAcross_350 rfl rfl ?_
                  refine Tj.if_eq dX12_foldAcross_352 rfl rfl (fun c24 => ?_) (fun c24 => ?_)
                  case refine_2 => exact absurd (by decide) c24
                  refine Tj.iconst dX12_foldAcross_359 (by decide) rfl ?_
                  exact Tj.iret dX12_foldAcross_360 rfl h
              · have h := h.2 c14
                refine Tj.iconst dX12_foldAcross_347 (by decide) rfl ?_
                refine Tj.istore dX12_foldAcross_348 (Nat.le_of_ble_eq_true rfl) rfl rfl ?_
                refine Tj.iload dX12_foldAcross_350 rfl rfl ?_
                refine Tj.if_eq dX12_foldAcross_352 rfl rfl (fun c25 => ?_) (fun c25 => ?_)
                case refine_2 => exact absurd (by decide) c25
                refine Tj.iconst dX12_foldAcross_359 (by decide) rfl ?_
                exact Tj.iret dX12_foldAcross_360 rfl h
            · have h := h.2 c13
              refine Tj.aload_n dX12_foldAcross_361 rfl rfl ?_
              refine Tj.getR (b := 167) dX12_foldAcross_362 fl_X12_73 sh_145 rfl rfl ?_
              refine Tj.iload dX12_foldAcross_365 rfl rfl ?_
              refine Tj.iconst dX12_foldAcross_367 (by decide) rfl ?_
              refine Tj.iast dX12_foldAcross_368 sh_167 o12 o13 rfl ?_
              refine Tj.aload_n dX12_foldAcross_369 rfl rfl ?_
              refine Tj.getR (b := 168) dX12_foldAcross_370 fl_X12_76 sh_145 rfl rfl ?_
              refine Tj.iload dX12_foldAcross_373 rfl rfl ?_
              refine Tj.iload dX12_foldAcross_375 rfl rfl ?_
              refine Tj.iast dX12_foldAcross_377 sh_168 o12 o13 rfl ?_
              refine Tj.aload_n dX12_foldAcross_378 rfl rfl ?_
              refine Tj.getR (b := 169) dX12_foldAcross_379 fl_X12_79 sh_145 rfl rfl ?_
              refine Tj.iload dX12_foldAcross_382 rfl rfl ?_
              refine Tj.iload dX12_foldAcross_384 rfl rfl ?_
              refine Tj.iast dX12_foldAcross_386 sh_169 o12 o13 rfl ?_
              refine Tj.aload_n dX12_foldAcross_387 rfl rfl ?_
              refine Tj.getR (b := 170) dX12_foldAcross_388 fl_X12_82 sh_145 rfl rfl ?_
              refine Tj.iload dX12_foldAcross_391 rfl rfl ?_
              refine Tj.iload dX12_foldAcross_393 rfl rfl ?_
              refine Tj.iast dX12_foldAcross_395 sh_170 o12 o13 rfl ?_
              refine Tj.aload_n dX12_foldAcross_396 rfl rfl ?_
              refine Tj.getR (b := 171) dX12_foldAcross_397 fl_X12_85 sh_145 rfl rfl ?_
              refine Tj.iload dX12_foldAcross_400 rfl rfl ?_
              refine Tj.iload dX12_foldAcross_402 rfl rfl ?_
              refine Tj.iast dX12_foldAcross_404 sh_171 o12 o13 rfl ?_
              refine Tj.aload_n dX12_foldAcross_405 rfl rfl ?_
              refine Tj.getR (b := 172) dX12_foldAcross_406 fl_X12_88 sh_145 rfl rfl ?_
              refine Tj.iload dX12_foldAcross_409 rfl rfl ?_
              refine Tj.iload dX12_foldAcross_411 rfl rfl ?_
              refine Tj.iast dX12_foldAcross_413 sh_172 o12 o13 rfl ?_
              show Tj mX12_foldAcross 414 [some (rV 145), none, none, none, some (iV r2), none, none, none, none, some (iV v2), none, some (iV (((m4 168 x1) + r5) + r6)), some (iV (((m6 169 x1) + r7) + r8)), some (iV (((m8 170 x1) + r9) + r10)), some (iV v4), some (iV v5)] [] (up (up (up (up (up (up m10 167 r2 1) 168 r2 (((m4 168 x1) + r5) + r6)) 169 r2 (((m6 169 x1) + r7) + r8)) 170 r2 (((m8 170 x1) + r9) + r10)) 171 r2 v4) 172 r2 v5) P
              generalize hm11 : (up (up (up (up (up (up m10 167 r2 1) 168 r2 (((m4 168 x1) + r5) + r6)) 169 r2 (((m6 169 x1) + r7) + r8)) 170 r2 (((m8 170 x1) + r9) + r10)) 171 r2 v4) 172 r2 v5) = m11
              have h := h m11 hm11.symm
              refine Tj.aload_n dX12_foldAcross_414 rfl rfl ?_
              refine Tj.getR (b := 173) dX12_foldAcross_415 fl_X12_91 sh_145 rfl rfl ?_
              refine Tj.iload dX12_foldAcross_418 rfl rfl ?_
              refine Tj.iload dX12_foldAcross_420 rfl rfl ?_
              refine Tj.iast dX12_foldAcross_422 sh_173 o12 o13 rfl ?_
              refine Tj.iconst dX12_foldAcross_423 (by decide) rfl ?_
              exact Tj.iret dX12_foldAcross_424 rfl h
          refine Tj.if_ne dX12_foldAcross_224 rfl rfl (fun c10 => ?_) (fun c10 => ?_)
          · refine Tj.iload dX12_foldAcross_227 rfl rfl ?_
            refine Tj.goto dX12_foldAcross_229 rfl ?_
            try simp only [if_pos c10] at hj ⊢
            exact Tj.cut hj ⟨rfl, ⟨rfl, ⟨rfl, ⟨rfl, ⟨rfl, ⟨rfl, ⟨rfl, trivial⟩⟩⟩⟩⟩⟩⟩
          · refine Tj.iload_n dX12_foldAcross_232 rfl rfl ?_
            refine Tj.iconst dX12_foldAcross_233 (by decide) rfl ?_
            refine Tj.icmp_ne dX12_foldAcross_234 rfl rfl (fun c11 => ?_) (fun c11 => ?_)
            · refine Tj.iload dX12_foldAcross_237 rfl rfl ?_
              refine Tj.goto dX12_foldAcross_239 rfl ?_
              try simp only [if_neg c10, if_pos c11] at hj ⊢
              exact Tj.cut hj ⟨rfl, ⟨rfl, ⟨rfl, ⟨rfl, ⟨rfl, ⟨rfl, ⟨rfl, trivial⟩⟩⟩⟩⟩⟩⟩
            · refine Tj.iload_n dX12_foldAcross_242 rfl rfl ?_
              refine Tj.iconst dX12_foldAcross_243 (by decide) rfl ?_
              refine Tj.icmp_ne dX12_foldAcross_244 rfl rfl (fun c12 => ?_) (fun c12 => ?_)
              · refine Tj.iload dX12_foldAcross_247 rfl rfl ?_
                refine Tj.iconst dX12_foldAcross_249 (by decide) rfl ?_
                refine Tj.ixor dX12_foldAcross_250 rfl ?_
                refine Tj.goto dX12_foldAcross_251 rfl ?_
                try simp only [if_neg c10, if_neg c11, if_pos c12] at hj ⊢
                exact Tj.cut hj ⟨rfl, ⟨rfl, ⟨rfl, ⟨rfl, ⟨rfl, ⟨rfl, ⟨rfl, trivial⟩⟩⟩⟩⟩⟩⟩
              · refine Tj.iload dX12_foldAcross_254 rfl rfl ?_
                refine Tj.iconst dX12_foldAcross_256 (by decide) rfl ?_
                refine Tj.ixor dX12_foldAcross_257 rfl ?_
                try simp only [if_neg c10, if_neg c11, if_neg c12] at hj ⊢
                exact Tj.cut hj ⟨rfl, ⟨rfl, ⟨rfl, ⟨rfl, ⟨rfl, ⟨rfl, ⟨rfl, trivial⟩⟩⟩⟩⟩⟩⟩
        refine Tj.if_ne dX12_foldAcross_187 rfl rfl (fun c7 => ?_) (fun c7 => ?_)
        · refine Tj.iload dX12_foldAcross_190 rfl rfl ?_
          refine Tj.goto dX12_foldAcross_192 rfl ?_
          try simp only [if_pos c7] at hj ⊢
          exact Tj.cut hj ⟨rfl, ⟨rfl, ⟨rfl, ⟨rfl, ⟨rfl, ⟨rfl, ⟨rfl, ⟨rfl, ⟨rfl, trivial⟩⟩⟩⟩⟩⟩⟩⟩⟩
        · refine Tj.iload_n dX12_foldAcross_195 rfl rfl ?_
          refine Tj.iconst dX12_foldAcross_196 (by decide) rfl ?_
          refine Tj.icmp_ne dX12_foldAcross_197 rfl rfl (fun c8 => ?_) (fun c8 => ?_)
          · refine Tj.iload dX12_foldAcross_200 rfl rfl ?_
            refine Tj.iconst dX12_foldAcross_202 (by decide) rfl ?_
            refine Tj.ixor dX12_foldAcross_203 rfl ?_
            refine Tj.goto dX12_foldAcross_204 rfl ?_
            try simp only [if_neg c7, if_pos c8] at hj ⊢
            exact Tj.cut hj ⟨rfl, ⟨rfl, ⟨rfl, ⟨rfl, ⟨rfl, ⟨rfl, ⟨rfl, ⟨rfl, ⟨rfl, trivial⟩⟩⟩⟩⟩⟩⟩⟩⟩
          · refine Tj.iload_n dX12_foldAcross_207 rfl rfl ?_
            refine Tj.iconst dX12_foldAcross_208 (by decide) rfl ?_
            refine Tj.icmp_ne dX12_foldAcross_209 rfl rfl (fun c9 => ?_) (fun c9 => ?_)
            · refine Tj.iload dX12_foldAcross_212 rfl rfl ?_
              refine Tj.iconst dX12_foldAcross_214 (by decide) rfl ?_
              refine Tj.ixor dX12_foldAcross_215 rfl ?_
              refine Tj.goto dX12_foldAcross_216 rfl ?_
              try simp only [if_neg c7, if_neg c8, if_pos c9] at hj ⊢
              exact Tj.cut hj ⟨rfl, ⟨rfl, ⟨rfl, ⟨rfl, ⟨rfl, ⟨rfl, ⟨rfl, ⟨rfl, ⟨rfl, trivial⟩⟩⟩⟩⟩⟩⟩⟩⟩
            · refine Tj.iload dX12_foldAcross_219 rfl rfl ?_
              try simp only [if_neg c7, if_neg c8, if_neg c9] at hj ⊢
              exact Tj.cut hj ⟨rfl, ⟨rfl, ⟨rfl, ⟨rfl, ⟨rfl, ⟨rfl, ⟨rfl, ⟨rfl, ⟨rfl, trivial⟩⟩⟩⟩⟩⟩⟩⟩⟩
      refine Tj.if_ne dX12_foldAcross_96 rfl rfl (fun c5 => ?_) (fun c5 => ?_)
      · refine Tj.iload dX12_foldAcross_99 rfl rfl ?_
        refine Tj.goto dX12_foldAcross_101 rfl ?_
        try simp only [if_pos c5] at hj ⊢
        exact Tj.cut hj ⟨rfl, ⟨rfl, ⟨rfl, ⟨rfl, ⟨rfl, ⟨rfl, ⟨rfl, ⟨rfl, trivial⟩⟩⟩⟩⟩⟩⟩⟩
      · refine Tj.iload_n dX12_foldAcross_104 rfl rfl ?_
        refine Tj.iconst dX12_foldAcross_105 (by decide) rfl ?_
        refine Tj.icmp_ne dX12_foldAcross_106 rfl rfl (fun c6 => ?_) (fun c6 => ?_)
        · refine Tj.iload dX12_foldAcross_109 rfl rfl ?_
          refine Tj.iconst dX12_foldAcross_111 (by decide) rfl ?_
          refine Tj.ixor dX12_foldAcross_112 rfl ?_
          refine Tj.goto dX12_foldAcross_113 rfl ?_
          try simp only [if_neg c5, if_pos c6] at hj ⊢
          exact Tj.cut hj ⟨rfl, ⟨rfl, ⟨rfl, ⟨rfl, ⟨rfl, ⟨rfl, ⟨rfl, ⟨rfl, trivial⟩⟩⟩⟩⟩⟩⟩⟩
        · refine Tj.iload dX12_foldAcross_116 rfl rfl ?_
          try simp only [if_neg c5, if_neg c6] at hj ⊢
          exact Tj.cut hj ⟨rfl, ⟨rfl, ⟨rfl, ⟨rfl, ⟨rfl, ⟨rfl, ⟨rfl, ⟨rfl, trivial⟩⟩⟩⟩⟩⟩⟩⟩
    refine Tj.if_ne dX12_foldAcross_71 rfl rfl (fun c3 => ?_) (fun c3 => ?_)
    · refine Tj.iload dX12_foldAcross_74 rfl rfl ?_
      refine Tj.goto dX12_foldAcross_76 rfl ?_
      try simp only [if_pos c3] at hj ⊢
      exact Tj.cut hj ⟨rfl, ⟨rfl, ⟨rfl, ⟨rfl, ⟨rfl, ⟨rfl, ⟨rfl, ⟨rfl, ⟨rfl, trivial⟩⟩⟩⟩⟩⟩⟩⟩⟩
    · refine Tj.iload_n dX12_foldAcross_79 rfl rfl ?_
      refine Tj.iconst dX12_foldAcross_80 (by decide) rfl ?_
      refine Tj.icmp_ne dX12_foldAcross_81 rfl rfl (fun c4 => ?_) (fun c4 => ?_)
      · refine Tj.iload dX12_foldAcross_84 rfl rfl ?_
        refine Tj.goto dX12_foldAcross_86 rfl ?_
        try simp only [if_neg c3, if_pos c4] at hj ⊢
        exact Tj.cut hj ⟨rfl, ⟨rfl, ⟨rfl, ⟨rfl, ⟨rfl, ⟨rfl, ⟨rfl, ⟨rfl, ⟨rfl, trivial⟩⟩⟩⟩⟩⟩⟩⟩⟩
      · refine Tj.iload dX12_foldAcross_89 rfl rfl ?_
        refine Tj.iconst dX12_foldAcross_91 (by decide) rfl ?_
        refine Tj.ixor dX12_foldAcross_92 rfl ?_
        try simp only [if_neg c3, if_neg c4] at hj ⊢
        exact Tj.cut hj ⟨rfl, ⟨rfl, ⟨rfl, ⟨rfl, ⟨rfl, ⟨rfl, ⟨rfl, ⟨rfl, ⟨rfl, trivial⟩⟩⟩⟩⟩⟩⟩⟩⟩
  refine Tj.if_ne dX12_foldAcross_46 rfl rfl (fun c1 => ?_) (fun c1 => ?_)
  · refine Tj.iload dX12_foldAcross_49 rfl rfl ?_
    refine Tj.goto dX12_foldAcross_51 rfl ?_
    try simp only [if_pos c1] at hj ⊢
    exact Tj.cut hj ⟨rfl, ⟨rfl, ⟨rfl, ⟨rfl, ⟨rfl, ⟨rfl, ⟨rfl, ⟨rfl, trivial⟩⟩⟩⟩⟩⟩⟩⟩
  · refine Tj.iload_n dX12_foldAcross_54 rfl rfl ?_
    refine Tj.iconst dX12_foldAcross_55 (by decide) rfl ?_
    refine Tj.icmp_ne dX12_foldAcross_56 rfl rfl (fun c2 => ?_) (fun c2 => ?_)
    · refine Tj.iload dX12_foldAcross_59 rfl rfl ?_
      refine Tj.iconst dX12_foldAcross_61 (by decide) rfl ?_
      refine Tj.ixor dX12_foldAcross_62 rfl ?_
      refine Tj.goto dX12_foldAcross_63 rfl ?_
      try simp only [if_neg c1, if_pos c2] at hj ⊢
      exact Tj.cut hj ⟨rfl, ⟨rfl, ⟨rfl, ⟨rfl, ⟨rfl, ⟨rfl, ⟨rfl, ⟨rfl, trivial⟩⟩⟩⟩⟩⟩⟩⟩
    · refine Tj.iload dX12_foldAcross_66 rfl rfl ?_
      try simp only [if_neg c1, if_neg c2] at hj ⊢
      exact Tj.cut hj ⟨rfl, ⟨rfl, ⟨rfl, ⟨rfl, ⟨rfl, ⟨rfl, ⟨rfl, ⟨rfl, trivial⟩⟩⟩⟩⟩⟩⟩⟩

theorem wX12_foldOf_0 {m : tM} {P : Option tV → tM → Prop}   (h : ((m 145 4) = 0 → (P (some (iV 1)) m)) ∧ (¬ (m 145 4) = 0 → (Tj mX12_foldOf 11 [some (rV 145), some (iV 0)] [] m P))) : Tj mX12_foldOf 0 [some (rV 145)] [] m P := by
  refine Tj.aload_n dX12_foldOf_0 rfl rfl ?_
  refine Tj.gI (j := 4) dX12_foldOf_1 fl_X12_127 sh_145 rfl rfl ?_
  refine Tj.if_ne dX12_foldOf_4 rfl rfl (fun c1 => ?_) (fun c1 => ?_)
  · have h := h.1 c1
    refine Tj.iconst dX12_foldOf_7 (by decide) rfl ?_
    exact Tj.iret dX12_foldOf_8 rfl h
  · have h := h.2 c1
    refine Tj.iconst dX12_foldOf_9 (by decide) rfl ?_
    refine Tj.istore_n dX12_foldOf_10 (Nat.le_of_ble_eq_true rfl) rfl rfl ?_
    exact Tj.cut h ⟨rfl, ⟨rfl, trivial⟩⟩

theorem wX12_foldOf_11 {m : tM} {P : Option tV → tM → Prop} {x1 : Int}  (h : (x1 < (m 145 4) → ((0 ≤ x1 ∧ x1 < 60 ∧ R32 (x1 + 1)) ∧ (Tj mX12_foldOf 11 [some (rV 145), some (iV (x1 + 1))] [] (up m 167 x1 0) P))) ∧ (¬ x1 < (m 145 4) → (∀ m1 : tM, m1 = (up (up (up (up (up (up m 167 0 1) 168 0 0) 169 0 0) 170 0 0) 171 0 0) 172 0 2) → (Tj mX12_foldOf 87 [some (rV 145), some (iV 1), some (iV 0), some (iV 1)] [] (up m1 173 0 4) P)))) : Tj mX12_foldOf 11 [some (rV 145), some (iV x1)] [] m P := by
  refine Tj.iload_n dX12_foldOf_11 rfl rfl ?_
  refine Tj.aload_n dX12_foldOf_12 rfl rfl ?_
  refine Tj.gI (j := 4) dX12_foldOf_13 fl_X12_127 sh_145 rfl rfl ?_
  refine Tj.icmp_ge dX12_foldOf_16 rfl rfl (fun c1 => ?_) (fun c1 => ?_)
  · have h := h.1 c1
    obtain ⟨⟨o1, o2, o3⟩, h⟩ := h
    refine Tj.aload_n dX12_foldOf_19 rfl rfl ?_
    refine Tj.getR (b := 167) dX12_foldOf_20 fl_X12_73 sh_145 rfl rfl ?_
    refine Tj.iload_n dX12_foldOf_23 rfl rfl ?_
    refine Tj.iconst dX12_foldOf_24 (by decide) rfl ?_
    refine Tj.iast dX12_foldOf_25 sh_167 o1 o2 rfl ?_
    refine Tj.iinc dX12_foldOf_26 rfl (Nat.le_of_ble_eq_true rfl) rfl o3 rfl ?_
    refine Tj.goto dX12_foldOf_29 rfl ?_
    exact Tj.cut h ⟨rfl, ⟨rfl, trivial⟩⟩
  · have h := h.2 c1
    refine Tj.aload_n dX12_foldOf_32 rfl rfl ?_
    refine Tj.getR (b := 167) dX12_foldOf_33 fl_X12_73 sh_145 rfl rfl ?_
    refine Tj.iconst dX12_foldOf_36 (by decide) rfl ?_
    refine Tj.iconst dX12_foldOf_37 (by decide) rfl ?_
    refine Tj.iast dX12_foldOf_38 sh_167 (by decide) (by decide) rfl ?_
    refine Tj.aload_n dX12_foldOf_39 rfl rfl ?_
    refine Tj.getR (b := 168) dX12_foldOf_40 fl_X12_76 sh_145 rfl rfl ?_
    refine Tj.iconst dX12_foldOf_43 (by decide) rfl ?_
    refine Tj.iconst dX12_foldOf_44 (by decide) rfl ?_
    refine Tj.iast dX12_foldOf_45 sh_168 (by decide) (by decide) rfl ?_
    refine Tj.aload_n dX12_foldOf_46 rfl rfl ?_
    refine Tj.getR (b := 169) dX12_foldOf_47 fl_X12_79 sh_145 rfl rfl ?_
    refine Tj.iconst dX12_foldOf_50 (by decide) rfl ?_
    refine Tj.iconst dX12_foldOf_51 (by decide) rfl ?_
    refine Tj.iast dX12_foldOf_52 sh_169 (by decide) (by decide) rfl ?_
    refine Tj.aload_n dX12_foldOf_53 rfl rfl ?_
    refine Tj.getR (b := 170) dX12_foldOf_54 fl_X12_82 sh_145 rfl rfl ?_
    refine Tj.iconst dX12_foldOf_57 (by decide) rfl ?_
    refine Tj.iconst dX12_foldOf_58 (by decide) rfl ?_
    refine Tj.iast dX12_foldOf_59 sh_170 (by decide) (by decide) rfl ?_
    refine Tj.aload_n dX12_foldOf_60 rfl rfl ?_
    refine Tj.getR (b := 171) dX12_foldOf_61 fl_X12_85 sh_145 rfl rfl ?_
    refine Tj.iconst dX12_foldOf_64 (by decide) rfl ?_
    refine Tj.iconst dX12_foldOf_65 (by decide) rfl ?_
    refine Tj.iast dX12_foldOf_66 sh_171 (by decide) (by decide) rfl ?_
    refine Tj.aload_n dX12_foldOf_67 rfl rfl ?_
    refine Tj.getR (b := 172) dX12_foldOf_68 fl_X12_88 sh_145 rfl rfl ?_
    refine Tj.iconst dX12_foldOf_71 (by decide) rfl ?_
    refine Tj.iconst dX12_foldOf_72 (by decide) rfl ?_
    refine Tj.iast dX12_foldOf_73 sh_172 (by decide) (by decide) rfl ?_
    show Tj mX12_foldOf 74 [some (rV 145), some (iV x1)] [] (up (up (up (up (up (up m 167 0 1) 168 0 0) 169 0 0) 170 0 0) 171 0 0) 172 0 2) P
    generalize hm1 : (up (up (up (up (up (up m 167 0 1) 168 0 0) 169 0 0) 170 0 0) 171 0 0) 172 0 2) = m1
    have h := h m1 hm1.symm
    refine Tj.aload_n dX12_foldOf_74 rfl rfl ?_
    refine Tj.getR (b := 173) dX12_foldOf_75 fl_X12_91 sh_145 rfl rfl ?_
    refine Tj.iconst dX12_foldOf_78 (by decide) rfl ?_
    refine Tj.iconst dX12_foldOf_79 (by decide) rfl ?_
    refine Tj.iast dX12_foldOf_80 sh_173 (by decide) (by decide) rfl ?_
    refine Tj.iconst dX12_foldOf_81 (by decide) rfl ?_
    refine Tj.istore_n dX12_foldOf_82 (Nat.le_of_ble_eq_true rfl) rfl rfl ?_
    refine Tj.iconst dX12_foldOf_83 (by decide) rfl ?_
    refine Tj.istore_n dX12_foldOf_84 (Nat.le_of_ble_eq_true rfl) rfl rfl ?_
    refine Tj.iconst dX12_foldOf_85 (by decide) rfl ?_
    refine Tj.istore_n dX12_foldOf_86 (Nat.le_of_ble_eq_true rfl) rfl rfl ?_
    exact Tj.cut h ⟨rfl, ⟨rfl, ⟨rfl, ⟨rfl, trivial⟩⟩⟩⟩

theorem wX12_foldOf_87 {m : tM} {P : Option tV → tM → Prop} {x1 : Int} {x2 : Int} {x3 : Int}  (h : (x3 = 0 → ((x1 < (m 145 4) → (P (some (iV 1)) m)) ∧ (¬ x1 < (m 145 4) → ((x2 = 0 → (Tj mX12_foldOf 223 [some (rV 145), none, none, none, some (iV 0)] [] m P)) ∧ (¬ x2 = 0 → (P (some (iV 2)) m)))))) ∧ (¬ x3 = 0 → (Tj mX12_foldOf 96 [some (rV 145), some (iV x1), some (iV x2), some (iV 0), some (iV 0)] [] m P))) : Tj mX12_foldOf 87 [some (rV 145), some (iV x1), some (iV x2), some (iV x3)] [] m P := by
  refine Tj.iload_n dX12_foldOf_87 rfl rfl ?_
  refine Tj.if_eq dX12_foldOf_88 rfl rfl (fun c1 => ?_) (fun c1 => ?_)
  · have h := h.1 c1
    refine Tj.iload_n dX12_foldOf_204 rfl rfl ?_
    refine Tj.aload_n dX12_foldOf_205 rfl rfl ?_
    refine Tj.gI (j := 4) dX12_foldOf_206 fl_X12_127 sh_145 rfl rfl ?_
    refine Tj.icmp_ge dX12_foldOf_209 rfl rfl (fun c2 => ?_) (fun c2 => ?_)
    · have h := h.1 c2
      refine Tj.iconst dX12_foldOf_212 (by decide) rfl ?_
      exact Tj.iret dX12_foldOf_213 rfl h
    · have h := h.2 c2
      refine Tj.iload_n dX12_foldOf_214 rfl rfl ?_
      refine Tj.if_eq dX12_foldOf_215 rfl rfl (fun c3 => ?_) (fun c3 => ?_)
      · have h := h.1 c3
        refine Tj.iconst dX12_foldOf_220 (by decide) rfl ?_
        refine Tj.istore dX12_foldOf_221 (Nat.le_of_ble_eq_true rfl) rfl rfl ?_
        exact Tj.cut h ⟨rfl, ⟨rfl, trivial⟩⟩
      · have h := h.2 c3
        refine Tj.iconst dX12_foldOf_218 (by decide) rfl ?_
        exact Tj.iret dX12_foldOf_219 rfl h
  · have h := h.2 c1
    refine Tj.iconst dX12_foldOf_91 (by decide) rfl ?_
    refine Tj.istore_n dX12_foldOf_92 (Nat.le_of_ble_eq_true rfl) rfl rfl ?_
    refine Tj.iconst dX12_foldOf_93 (by decide) rfl ?_
    refine Tj.istore dX12_foldOf_94 (Nat.le_of_ble_eq_true rfl) rfl rfl ?_
    exact Tj.cut h ⟨rfl, ⟨rfl, ⟨rfl, ⟨rfl, ⟨rfl, trivial⟩⟩⟩⟩⟩

theorem wX12_foldOf_96 {m : tM} {P : Option tV → tM → Prop} {x1 : Int} {x2 : Int} {x3 : Int} {x4 : Int}  (h : (R32 (4 * (m 145 4))) ∧ ((x4 < (4 * (m 145 4)) → ((0 ≤ x4 ∧ 0 ≤ (x4 / 4) ∧ (x4 / 4) < 60) ∧ (((m 167 (x4 / 4)) = 1 → (Cli mX12_creaseOf [rV 145, iV (x4 / 4), iV (x4 % 4)] m (fun r1 m1 => ((r1 = 0 → ((R32 (x4 + 1)) ∧ (Tj mX12_foldOf 96 [some (rV 145), some (iV x1), some (iV x2), some (iV x3), some (iV (x4 + 1))] [] m1 P))) ∧ (¬ r1 = 0 → (Cli mX12_foldAcross [rV 145, iV (x4 / 4), iV (x4 % 4)] m1 (fun r2 m2 => (∀ v1 : Int, v1 = (if x2 = 0 then (if r2 = 2 then 1 else 0) else 1) → (∀ v2 : Int, v2 = (if r2 = 1 then 1 else 0) → ((R32 (x1 + v2)) ∧ (∀ v3 : Int, v3 = (if x3 = 0 then (if r2 = 1 then 1 else 0) else 1) → ((R32 (x4 + 1)) ∧ (Tj mX12_foldOf 96 [some (rV 145), some (iV (x1 + v2)), some (iV v1), some (iV v3), some (iV (x4 + 1))] [] m2 P))))))))))))) ∧ (¬ (m 167 (x4 / 4)) = 1 → ((R32 (x4 + 1)) ∧ (Tj mX12_foldOf 96 [some (rV 145), some (iV x1), some (iV x2), some (iV x3), some (iV (x4 + 1))] [] m P)))))) ∧ (¬ x4 < (4 * (m 145 4)) → (Tj mX12_foldOf 87 [some (rV 145), some (iV x1), some (iV x2), some (iV x3)] [] m P)))) : Tj mX12_foldOf 96 [some (rV 145), some (iV x1), some (iV x2), some (iV x3), some (iV x4)] [] m P := by
  obtain ⟨o1, h⟩ := h
  refine Tj.iload dX12_foldOf_96 rfl rfl ?_
  refine Tj.iconst dX12_foldOf_98 (by decide) rfl ?_
  refine Tj.aload_n dX12_foldOf_99 rfl rfl ?_
  refine Tj.gI (j := 4) dX12_foldOf_100 fl_X12_127 sh_145 rfl rfl ?_
  refine Tj.imul dX12_foldOf_103 o1 rfl ?_
  refine Tj.icmp_ge dX12_foldOf_104 rfl rfl (fun c1 => ?_) (fun c1 => ?_)
  · have h := h.1 c1
    obtain ⟨⟨o2, o3, o4⟩, h⟩ := h
    refine Tj.aload_n dX12_foldOf_107 rfl rfl ?_
    refine Tj.getR (b := 167) dX12_foldOf_108 fl_X12_73 sh_145 rfl rfl ?_
    refine Tj.iload dX12_foldOf_111 rfl rfl ?_
    refine Tj.iconst dX12_foldOf_113 (by decide) rfl ?_
    refine Tj.idiv dX12_foldOf_114 o2 (by decide) rfl ?_
    refine Tj.iald dX12_foldOf_115 sh_167 o3 o4 rfl ?_
    refine Tj.iconst dX12_foldOf_116 (by decide) rfl ?_
    refine Tj.icmp_ne dX12_foldOf_117 rfl rfl (fun c2 => ?_) (fun c2 => ?_)
    · have h := h.1 c2
      refine Tj.aload_n dX12_foldOf_120 rfl rfl ?_
      refine Tj.iload dX12_foldOf_121 rfl rfl ?_
      refine Tj.iconst dX12_foldOf_123 (by decide) rfl ?_
      refine Tj.idiv dX12_foldOf_124 o2 (by decide) rfl ?_
      refine Tj.iload dX12_foldOf_125 rfl rfl ?_
      refine Tj.iconst dX12_foldOf_127 (by decide) rfl ?_
      refine Tj.irem dX12_foldOf_128 o2 (by decide) rfl ?_
      refine Tj.callVi (as := [_, _]) (rest := []) dX12_foldOf_129 ln_X12_269 sh_145 (by decide) rfl rfl (Nat.le_of_ble_eq_true rfl) ⟨Nat.le_of_ble_eq_true rfl, Nat.le_of_ble_eq_true rfl⟩ (Nat.le_of_ble_eq_true rfl) rfl ?_
      refine Cli.mono h (fun r1 m1 h => ?_)
      refine Tj.if_eq dX12_foldOf_132 rfl rfl (fun c3 => ?_) (fun c3 => ?_)
      · have h := h.1 c3
        obtain ⟨o5, h⟩ := h
        refine Tj.iinc dX12_foldOf_195 rfl (Nat.le_of_ble_eq_true rfl) rfl o5 rfl ?_
        refine Tj.goto dX12_foldOf_198 rfl ?_
        exact Tj.cut h ⟨rfl, ⟨rfl, ⟨rfl, ⟨rfl, ⟨rfl, trivial⟩⟩⟩⟩⟩
      · have h := h.2 c3
        refine Tj.aload_n dX12_foldOf_135 rfl rfl ?_
        refine Tj.iload dX12_foldOf_136 rfl rfl ?_
        refine Tj.iconst dX12_foldOf_138 (by decide) rfl ?_
        refine Tj.idiv dX12_foldOf_139 o2 (by decide) rfl ?_
        refine Tj.iload dX12_foldOf_140 rfl rfl ?_
        refine Tj.iconst dX12_foldOf_142 (by decide) rfl ?_
        refine Tj.irem dX12_foldOf_143 o2 (by decide) rfl ?_
        refine Tj.callVi (as := [_, _]) (rest := []) dX12_foldOf_144 ln_X12_282 sh_145 (by decide) rfl rfl (Nat.le_of_ble_eq_true rfl) ⟨Nat.le_of_ble_eq_true rfl, Nat.le_of_ble_eq_true rfl⟩ (Nat.le_of_ble_eq_true rfl) rfl ?_
        refine Cli.mono h (fun r2 m2 h => ?_)
        refine Tj.istore dX12_foldOf_147 (Nat.le_of_ble_eq_true rfl) rfl rfl ?_
        refine Tj.iload_n dX12_foldOf_149 rfl rfl ?_
        have hj : Tj mX12_foldOf 164 [some (rV 145), some (iV x1), none, some (iV x3), some (iV x4), some (iV r2)] [iV (if x2 = 0 then (if r2 = 2 then 1 else 0) else 1)] m2 P := by
          generalize hv1 : ((if x2 = 0 then (if r2 = 2 then 1 else 0) else 1) : Int) = v1
          have h := h v1 hv1.symm
          refine Tj.istore_n dX12_foldOf_164 (Nat.le_of_ble_eq_true rfl) rfl rfl ?_
          refine Tj.iload_n dX12_foldOf_165 rfl rfl ?_
          refine Tj.iload dX12_foldOf_166 rfl rfl ?_
          refine Tj.iconst dX12_foldOf_168 (by decide) rfl ?_
          have hj : Tj mX12_foldOf 177 [some (rV 145), none, some (iV v1), some (iV x3), some (iV x4), some (iV r2)] [iV (if r2 = 1 then 1 else 0), iV x1] m2 P := by
            generalize hv2 : ((if r2 = 1 then 1 else 0) : Int) = v2
            have h := h v2 hv2.symm
            obtain ⟨o6, h⟩ := h
            refine Tj.iadd dX12_foldOf_177 o6 rfl ?_
            refine Tj.istore_n dX12_foldOf_178 (Nat.le_of_ble_eq_true rfl) rfl rfl ?_
            refine Tj.iload_n dX12_foldOf_179 rfl rfl ?_
            have hj : Tj mX12_foldOf 194 [some (rV 145), some (iV (x1 + v2)), some (iV v1), none, some (iV x4)] [iV (if x3 = 0 then (if r2 = 1 then 1 else 0) else 1)] m2 P := by
              generalize hv3 : ((if x3 = 0 then (if r2 = 1 then 1 else 0) else 1) : Int) = v3
              have h := h v3 hv3.symm
              obtain ⟨o7, h⟩ := h
              refine Tj.istore_n dX12_foldOf_194 (Nat.le_of_ble_eq_true rfl) rfl rfl ?_
              refine Tj.iinc dX12_foldOf_195 rfl (Nat.le_of_ble_eq_true rfl) rfl o7 rfl ?_
              refine Tj.goto dX12_foldOf_198 rfl ?_
              exact Tj.cut h ⟨rfl, ⟨rfl, ⟨rfl, ⟨rfl, ⟨rfl, trivial⟩⟩⟩⟩⟩
            refine Tj.if_ne dX12_foldOf_180 rfl rfl (fun c7 => ?_) (fun c7 => ?_)
            · refine Tj.iload dX12_foldOf_183 rfl rfl ?_
              refine Tj.iconst dX12_foldOf_185 (by decide) rfl ?_
              refine Tj.icmp_ne dX12_foldOf_186 rfl rfl (fun c8 => ?_) (fun c8 => ?_)
              · refine Tj.iconst dX12_foldOf_189 (by decide) rfl ?_
                refine Tj.goto dX12_foldOf_190 rfl ?_
                try simp only [if_pos c7, if_pos c8] at hj ⊢
                exact Tj.cut hj ⟨rfl, ⟨rfl, ⟨rfl, ⟨rfl, trivial⟩⟩⟩⟩
              · refine Tj.iconst dX12_foldOf_193 (by decide) rfl ?_
                try simp only [if_pos c7, if_neg c8] at hj ⊢
                exact Tj.cut hj ⟨rfl, ⟨rfl, ⟨rfl, ⟨rfl, trivial⟩⟩⟩⟩
            · refine Tj.iconst dX12_foldOf_189 (by decide) rfl ?_
              refine Tj.goto dX12_foldOf_190 rfl ?_
              try simp only [if_neg c7] at hj ⊢
              exact Tj.cut hj ⟨rfl, ⟨rfl, ⟨rfl, ⟨rfl, trivial⟩⟩⟩⟩
          refine Tj.icmp_ne dX12_foldOf_169 rfl rfl (fun c6 => ?_) (fun c6 => ?_)
          · refine Tj.iconst dX12_foldOf_172 (by decide) rfl ?_
            refine Tj.goto dX12_foldOf_173 rfl ?_
            try simp only [if_pos c6] at hj ⊢
            exact Tj.cut hj ⟨rfl, ⟨rfl, ⟨rfl, ⟨rfl, ⟨rfl, trivial⟩⟩⟩⟩⟩
          · refine Tj.iconst dX12_foldOf_176 (by decide) rfl ?_
            try simp only [if_neg c6] at hj ⊢
            exact Tj.cut hj ⟨rfl, ⟨rfl, ⟨rfl, ⟨rfl, ⟨rfl, trivial⟩⟩⟩⟩⟩
        refine Tj.if_ne dX12_foldOf_150 rfl rfl (fun c4 => ?_) (fun c4 => ?_)
        · refine Tj.iload dX12_foldOf_153 rfl rfl ?_
          refine Tj.iconst dX12_foldOf_155 (by decide) rfl ?_
          refine Tj.icmp_ne dX12_foldOf_156 rfl rfl (fun c5 => ?_) (fun c5 => ?_)
          · refine Tj.iconst dX12_foldOf_159 (by decide) rfl ?_
            refine Tj.goto dX12_foldOf_160 rfl ?_
            try simp only [if_pos c4, if_pos c5] at hj ⊢
            exact Tj.cut hj ⟨rfl, ⟨rfl, ⟨rfl, ⟨rfl, ⟨rfl, trivial⟩⟩⟩⟩⟩
          · refine Tj.iconst dX12_foldOf_163 (by decide) rfl ?_
            try simp only [if_pos c4, if_neg c5] at hj ⊢
            exact Tj.cut hj ⟨rfl, ⟨rfl, ⟨rfl, ⟨rfl, ⟨rfl, trivial⟩⟩⟩⟩⟩
        · refine Tj.iconst dX12_foldOf_159 (by decide) rfl ?_
          refine Tj.goto dX12_foldOf_160 rfl ?_
          try simp only [if_neg c4] at hj ⊢
          exact Tj.cut hj ⟨rfl, ⟨rfl, ⟨rfl, ⟨rfl, ⟨rfl, trivial⟩⟩⟩⟩⟩
    · have h := h.2 c2
      obtain ⟨o8, h⟩ := h
      refine Tj.iinc dX12_foldOf_195 rfl (Nat.le_of_ble_eq_true rfl) rfl o8 rfl ?_
      refine Tj.goto dX12_foldOf_198 rfl ?_
      exact Tj.cut h ⟨rfl, ⟨rfl, ⟨rfl, ⟨rfl, ⟨rfl, trivial⟩⟩⟩⟩⟩
  · have h := h.2 c1
    refine Tj.goto dX12_foldOf_201 rfl ?_
    exact Tj.cut h ⟨rfl, ⟨rfl, ⟨rfl, ⟨rfl, trivial⟩⟩⟩⟩

theorem wX12_foldOf_223 {m : tM} {P : Option tV → tM → Prop} {x4 : Int}  (h : (x4 < (m 145 4) → (Tj mX12_foldOf 235 [some (rV 145), none, none, none, some (iV x4), some (iV 0)] [] m P)) ∧ (¬ x4 < (m 145 4) → (P (some (iV 0)) m))) : Tj mX12_foldOf 223 [some (rV 145), none, none, none, some (iV x4)] [] m P := by
  refine Tj.iload dX12_foldOf_223 rfl rfl ?_
  refine Tj.aload_n dX12_foldOf_225 rfl rfl ?_
  refine Tj.gI (j := 4) dX12_foldOf_226 fl_X12_127 sh_145 rfl rfl ?_
  refine Tj.icmp_ge dX12_foldOf_229 rfl rfl (fun c1 => ?_) (fun c1 => ?_)
  · have h := h.1 c1
    refine Tj.iconst dX12_foldOf_232 (by decide) rfl ?_
    refine Tj.istore dX12_foldOf_233 (Nat.le_of_ble_eq_true rfl) rfl rfl ?_
    exact Tj.cut h ⟨rfl, ⟨rfl, ⟨rfl, trivial⟩⟩⟩
  · have h := h.2 c1
    refine Tj.iconst dX12_foldOf_307 (by decide) rfl ?_
    exact Tj.iret dX12_foldOf_308 rfl h

theorem wX12_foldOf_235 {m : tM} {P : Option tV → tM → Prop} {x4 : Int} {x5 : Int}  (h : (x5 < x4 → ((0 ≤ x4 ∧ x4 < 60 ∧ 0 ≤ x5 ∧ x5 < 60) ∧ (((m 168 x4) = (m 168 x5) → (((m 169 x4) = (m 169 x5) → (((m 170 x4) = (m 170 x5) → (P (some (iV 3)) m)) ∧ (¬ (m 170 x4) = (m 170 x5) → ((R32 (x5 + 1)) ∧ (Tj mX12_foldOf 235 [some (rV 145), none, none, none, some (iV x4), some (iV (x5 + 1))] [] m P))))) ∧ (¬ (m 169 x4) = (m 169 x5) → ((R32 (x5 + 1)) ∧ (Tj mX12_foldOf 235 [some (rV 145), none, none, none, some (iV x4), some (iV (x5 + 1))] [] m P))))) ∧ (¬ (m 168 x4) = (m 168 x5) → ((R32 (x5 + 1)) ∧ (Tj mX12_foldOf 235 [some (rV 145), none, none, none, some (iV x4), some (iV (x5 + 1))] [] m P)))))) ∧ (¬ x5 < x4 → ((R32 (x4 + 1)) ∧ (Tj mX12_foldOf 223 [some (rV 145), none, none, none, some (iV (x4 + 1))] [] m P)))) : Tj mX12_foldOf 235 [some (rV 145), none, none, none, some (iV x4), some (iV x5)] [] m P := by
  refine Tj.iload dX12_foldOf_235 rfl rfl ?_
  refine Tj.iload dX12_foldOf_237 rfl rfl ?_
  refine Tj.icmp_ge dX12_foldOf_239 rfl rfl (fun c1 => ?_) (fun c1 => ?_)
  · have h := h.1 c1
    obtain ⟨⟨o1, o2, o3, o4⟩, h⟩ := h
    refine Tj.aload_n dX12_foldOf_242 rfl rfl ?_
    refine Tj.getR (b := 168) dX12_foldOf_243 fl_X12_76 sh_145 rfl rfl ?_
    refine Tj.iload dX12_foldOf_246 rfl rfl ?_
    refine Tj.iald dX12_foldOf_248 sh_168 o1 o2 rfl ?_
    refine Tj.aload_n dX12_foldOf_249 rfl rfl ?_
    refine Tj.getR (b := 168) dX12_foldOf_250 fl_X12_76 sh_145 rfl rfl ?_
    refine Tj.iload dX12_foldOf_253 rfl rfl ?_
    refine Tj.iald dX12_foldOf_255 sh_168 o3 o4 rfl ?_
    refine Tj.icmp_ne dX12_foldOf_256 rfl rfl (fun c2 => ?_) (fun c2 => ?_)
    · have h := h.1 c2
      refine Tj.aload_n dX12_foldOf_259 rfl rfl ?_
      refine Tj.getR (b := 169) dX12_foldOf_260 fl_X12_79 sh_145 rfl rfl ?_
      refine Tj.iload dX12_foldOf_263 rfl rfl ?_
      refine Tj.iald dX12_foldOf_265 sh_169 o1 o2 rfl ?_
      refine Tj.aload_n dX12_foldOf_266 rfl rfl ?_
      refine Tj.getR (b := 169) dX12_foldOf_267 fl_X12_79 sh_145 rfl rfl ?_
      refine Tj.iload dX12_foldOf_270 rfl rfl ?_
      refine Tj.iald dX12_foldOf_272 sh_169 o3 o4 rfl ?_
      refine Tj.icmp_ne dX12_foldOf_273 rfl rfl (fun c3 => ?_) (fun c3 => ?_)
      · have h := h.1 c3
        refine Tj.aload_n dX12_foldOf_276 rfl rfl ?_
        refine Tj.getR (b := 170) dX12_foldOf_277 fl_X12_82 sh_145 rfl rfl ?_
        refine Tj.iload dX12_foldOf_280 rfl rfl ?_
        refine Tj.iald dX12_foldOf_282 sh_170 o1 o2 rfl ?_
        refine Tj.aload_n dX12_foldOf_283 rfl rfl ?_
        refine Tj.getR (b := 170) dX12_foldOf_284 fl_X12_82 sh_145 rfl rfl ?_
        refine Tj.iload dX12_foldOf_287 rfl rfl ?_
        refine Tj.iald dX12_foldOf_289 sh_170 o3 o4 rfl ?_
        refine Tj.icmp_ne dX12_foldOf_290 rfl rfl (fun c4 => ?_) (fun c4 => ?_)
        · have h := h.1 c4
          refine Tj.iconst dX12_foldOf_293 (by decide) rfl ?_
          exact Tj.iret dX12_foldOf_294 rfl h
        · have h := h.2 c4
          obtain ⟨o5, h⟩ := h
          refine Tj.iinc dX12_foldOf_295 rfl (Nat.le_of_ble_eq_true rfl) rfl o5 rfl ?_
          refine Tj.goto dX12_foldOf_298 rfl ?_
          exact Tj.cut h ⟨rfl, ⟨rfl, ⟨rfl, trivial⟩⟩⟩
      · have h := h.2 c3
        obtain ⟨o6, h⟩ := h
        refine Tj.iinc dX12_foldOf_295 rfl (Nat.le_of_ble_eq_true rfl) rfl o6 rfl ?_
        refine Tj.goto dX12_foldOf_298 rfl ?_
        exact Tj.cut h ⟨rfl, ⟨rfl, ⟨rfl, trivial⟩⟩⟩
    · have h := h.2 c2
      obtain ⟨o7, h⟩ := h
      refine Tj.iinc dX12_foldOf_295 rfl (Nat.le_of_ble_eq_true rfl) rfl o7 rfl ?_
      refine Tj.goto dX12_foldOf_298 rfl ?_
      exact Tj.cut h ⟨rfl, ⟨rfl, ⟨rfl, trivial⟩⟩⟩
  · have h := h.2 c1
    obtain ⟨o8, h⟩ := h
    refine Tj.iinc dX12_foldOf_301 rfl (Nat.le_of_ble_eq_true rfl) rfl o8 rfl ?_
    refine Tj.goto dX12_foldOf_304 rfl ?_
    exact Tj.cut h ⟨rfl, ⟨rfl, trivial⟩⟩

theorem wX12_fold_0 {m : tM} {P : Option tV → tM → Prop}   (h : Cli mX12_foldOf [rV 145] (up m 145 0 0) (fun r1 m1 => (P (some (iV r1)) m1))) : Tj mX12_fold 0 [some (rV 145)] [] m P := by
  refine Tj.aload_n dX12_fold_0 rfl rfl ?_
  refine Tj.iconst dX12_fold_1 (by decide) rfl ?_
  refine Tj.pI (j := 0) dX12_fold_2 fp_X12_113 sh_145 rfl rfl ?_
  refine Tj.aload_n dX12_fold_5 rfl rfl ?_
  refine Tj.callVi (as := []) (rest := []) dX12_fold_6 ln_X12_285 sh_145 (by decide) rfl rfl (Nat.le_of_ble_eq_true rfl) ⟨Nat.le_of_ble_eq_true rfl, Nat.le_of_ble_eq_true rfl⟩ (Nat.le_of_ble_eq_true rfl) rfl ?_
  refine Cli.mono h (fun r1 m1 h => ?_)
  exact Tj.iret dX12_fold_9 rfl h

theorem wX12_where_0 {m : tM} {P : Option tV → tM → Prop} {x1 : Int} {x2 : Int}  (h : (R32 ((m 145 4) - 1)) ∧ (Cli mX12_in [iV x1, iV 0, iV ((m 145 4) - 1)] (up m 145 0 0) (fun r1 m1 => ((r1 = 0 → (P (some (iV (-3))) m1)) ∧ (¬ r1 = 0 → (Cli mX12_in [iV x2, iV 0, iV 4] m1 (fun r2 m2 => ((r2 = 0 → (P (some (iV (-3))) m2)) ∧ (¬ r2 = 0 → (Cli mX12_foldOf [rV 145] m2 (fun r3 m3 => ((r3 = 0 → ((x2 = 0 → ((0 ≤ x1 ∧ x1 < 60) ∧ (((m3 168 x1) < 0 → ((R32 ((m3 168 x1) + 1000)) ∧ (P (some (iV ((m3 168 x1) + 1000))) m3))) ∧ (¬ (m3 168 x1) < 0 → (P (some (iV (m3 168 x1))) m3))))) ∧ (¬ x2 = 0 → ((x2 = 1 → ((0 ≤ x1 ∧ x1 < 60) ∧ (((m3 169 x1) < 0 → ((R32 ((m3 169 x1) + 1000)) ∧ (P (some (iV ((m3 169 x1) + 1000))) m3))) ∧ (¬ (m3 169 x1) < 0 → (P (some (iV (m3 169 x1))) m3))))) ∧ (¬ x2 = 1 → ((x2 = 2 → ((0 ≤ x1 ∧ x1 < 60) ∧ (((m3 170 x1) < 0 → ((R32 ((m3 170 x1) + 1000)) ∧ (P (some (iV ((m3 170 x1) + 1000))) m3))) ∧ (¬ (m3 170 x1) < 0 → (P (some (iV (m3 170 x1))) m3))))) ∧ (¬ x2 = 2 → ((x2 = 3 → ((0 ≤ x1 ∧ x1 < 60) ∧ (((m3 173 x1) < 0 → ((R32 ((m3 173 x1) + 1000)) ∧ (P (some (iV ((m3 173 x1) + 1000))) m3))) ∧ (¬ (m3 173 x1) < 0 → (P (some (iV (m3 173 x1))) m3))))) ∧ (¬ x2 = 3 → ((0 ≤ x1 ∧ x1 < 60) ∧ (((m3 171 x1) < 0 → ((R32 ((m3 171 x1) + 1000)) ∧ (P (some (iV ((m3 171 x1) + 1000))) m3))) ∧ (¬ (m3 171 x1) < 0 → (P (some (iV (m3 171 x1))) m3))))))))))))) ∧ (¬ r3 = 0 → (P (some (iV (-4))) m3)))))))))))))) : Tj mX12_where 0 [some (rV 145), some (iV x1), some (iV x2)] [] m P := by
  obtain ⟨o1, h⟩ := h
  refine Tj.aload_n dX12_where_0 rfl rfl ?_
  refine Tj.iconst dX12_where_1 (by decide) rfl ?_
  refine Tj.pI (j := 0) dX12_where_2 fp_X12_113 sh_145 rfl rfl ?_
  refine Tj.iload_n dX12_where_5 rfl rfl ?_
  refine Tj.iconst dX12_where_6 (by decide) rfl ?_
  refine Tj.aload_n dX12_where_7 rfl rfl ?_
  refine Tj.gI (j := 4) dX12_where_8 fl_X12_127 sh_145 rfl rfl ?_
  refine Tj.iconst dX12_where_11 (by decide) rfl ?_
  refine Tj.isub dX12_where_12 o1 rfl ?_
  refine Tj.callSi (as := [_, _, _]) (rest := []) dX12_where_13 ln_X12_139 rfl rfl (Nat.le_of_ble_eq_true rfl) ⟨Nat.le_of_ble_eq_true rfl, Nat.le_of_ble_eq_true rfl⟩ (Nat.le_of_ble_eq_true rfl) rfl ?_
  refine Cli.mono h (fun r1 m1 h => ?_)
  refine Tj.if_eq dX12_where_16 rfl rfl (fun c1 => ?_) (fun c1 => ?_)
  · have h := h.1 c1
    refine Tj.bipush dX12_where_28 (by decide) (by decide +kernel) rfl ?_
    exact Tj.iret dX12_where_30 rfl h
  · have h := h.2 c1
    refine Tj.iload_n dX12_where_19 rfl rfl ?_
    refine Tj.iconst dX12_where_20 (by decide) rfl ?_
    refine Tj.iconst dX12_where_21 (by decide) rfl ?_
    refine Tj.callSi (as := [_, _, _]) (rest := []) dX12_where_22 ln_X12_139 rfl rfl (Nat.le_of_ble_eq_true rfl) ⟨Nat.le_of_ble_eq_true rfl, Nat.le_of_ble_eq_true rfl⟩ (Nat.le_of_ble_eq_true rfl) rfl ?_
    refine Cli.mono h (fun r2 m2 h => ?_)
    refine Tj.if_ne dX12_where_25 rfl rfl (fun c2 => ?_) (fun c2 => ?_)
    · have h := h.1 c2
      refine Tj.bipush dX12_where_28 (by decide) (by decide +kernel) rfl ?_
      exact Tj.iret dX12_where_30 rfl h
    · have h := h.2 c2
      refine Tj.aload_n dX12_where_31 rfl rfl ?_
      refine Tj.callVi (as := []) (rest := []) dX12_where_32 ln_X12_285 sh_145 (by decide) rfl rfl (Nat.le_of_ble_eq_true rfl) ⟨Nat.le_of_ble_eq_true rfl, Nat.le_of_ble_eq_true rfl⟩ (Nat.le_of_ble_eq_true rfl) rfl ?_
      refine Cli.mono h (fun r3 m3 h => ?_)
      refine Tj.if_eq dX12_where_35 rfl rfl (fun c3 => ?_) (fun c3 => ?_)
      · have h := h.1 c3
        refine Tj.iload_n dX12_where_41 rfl rfl ?_
        refine Tj.if_ne dX12_where_42 rfl rfl (fun c4 => ?_) (fun c4 => ?_)
        · have h := h.1 c4
          obtain ⟨⟨o2, o3⟩, h⟩ := h
          refine Tj.aload_n dX12_where_45 rfl rfl ?_
          refine Tj.getR (b := 168) dX12_where_46 fl_X12_76 sh_145 rfl rfl ?_
          refine Tj.iload_n dX12_where_49 rfl rfl ?_
          refine Tj.iald dX12_where_50 sh_168 o2 o3 rfl ?_
          refine Tj.goto dX12_where_51 rfl ?_
          refine Tj.istore_n dX12_where_102 (Nat.le_of_ble_eq_true rfl) rfl rfl ?_
          refine Tj.iload_n dX12_where_103 rfl rfl ?_
          refine Tj.if_ge dX12_where_104 rfl rfl (fun c5 => ?_) (fun c5 => ?_)
          · have h := h.1 c5
            obtain ⟨o4, h⟩ := h
            refine Tj.iload_n dX12_where_107 rfl rfl ?_
            refine Tj.sipush dX12_where_108 (by decide) (by decide +kernel) rfl ?_
            refine Tj.iadd dX12_where_111 o4 rfl ?_
            refine Tj.goto dX12_where_112 rfl ?_
            exact Tj.iret dX12_where_116 rfl h
          · have h := h.2 c5
            refine Tj.iload_n dX12_where_115 rfl rfl ?_
            exact Tj.iret dX12_where_116 rfl h
        · have h := h.2 c4
          refine Tj.iload_n dX12_where_54 rfl rfl ?_
          refine Tj.iconst dX12_where_55 (by decide) rfl ?_
          refine Tj.icmp_ne dX12_where_56 rfl rfl (fun c6 => ?_) (fun c6 => ?_)
          · have h := h.1 c6
            obtain ⟨⟨o5, o6⟩, h⟩ := h
            refine Tj.aload_n dX12_where_59 rfl rfl ?_
            refine Tj.getR (b := 169) dX12_where_60 fl_X12_79 sh_145 rfl rfl ?_
            refine Tj.iload_n dX12_where_63 rfl rfl ?_
            refine Tj.iald dX12_where_64 sh_169 o5 o6 rfl ?_
            refine Tj.goto dX12_where_65 rfl ?_
            refine Tj.istore_n dX12_where_102 (Nat.le_of_ble_eq_true rfl) rfl rfl ?_
            refine Tj.iload_n dX12_where_103 rfl rfl ?_
            refine Tj.if_ge dX12_where_104 rfl rfl (fun c7 => ?_) (fun c7 => ?_)
            · have h := h.1 c7
              obtain ⟨o7, h⟩ := h
              refine Tj.iload_n dX12_where_107 rfl rfl ?_
              refine Tj.sipush dX12_where_108 (by decide) (by decide +kernel) rfl ?_
              refine Tj.iadd dX12_where_111 o7 rfl ?_
              refine Tj.goto dX12_where_112 rfl ?_
              exact Tj.iret dX12_where_116 rfl h
            · have h := h.2 c7
              refine Tj.iload_n dX12_where_115 rfl rfl ?_
              exact Tj.iret dX12_where_116 rfl h
          · have h := h.2 c6
            refine Tj.iload_n dX12_where_68 rfl rfl ?_
            refine Tj.iconst dX12_where_69 (by decide) rfl ?_
            refine Tj.icmp_ne dX12_where_70 rfl rfl (fun c8 => ?_) (fun c8 => ?_)
            · have h := h.1 c8
              obtain ⟨⟨o8, o9⟩, h⟩ := h
              refine Tj.aload_n dX12_where_73 rfl rfl ?_
              refine Tj.getR (b := 170) dX12_where_74 fl_X12_82 sh_145 rfl rfl ?_
              refine Tj.iload_n dX12_where_77 rfl rfl ?_
              refine Tj.iald dX12_where_78 sh_170 o8 o9 rfl ?_
              refine Tj.goto dX12_where_79 rfl ?_
              refine Tj.istore_n dX12_where_102 (Nat.le_of_ble_eq_true rfl) rfl rfl ?_
              refine Tj.iload_n dX12_where_103 rfl rfl ?_
              refine Tj.if_ge dX12_where_104 rfl rfl (fun c9 => ?_) (fun c9 => ?_)
              · have h := h.1 c9
                obtain ⟨o10, h⟩ := h
                refine Tj.iload_n dX12_where_107 rfl rfl ?_
                refine Tj.sipush dX12_where_108 (by decide) (by decide +kernel) rfl ?_
                refine Tj.iadd dX12_where_111 o10 rfl ?_
                refine Tj.goto dX12_where_112 rfl ?_
                exact Tj.iret dX12_where_116 rfl h
              · have h := h.2 c9
                refine Tj.iload_n dX12_where_115 rfl rfl ?_
                exact Tj.iret dX12_where_116 rfl h
            · have h := h.2 c8
              refine Tj.iload_n dX12_where_82 rfl rfl ?_
              refine Tj.iconst dX12_where_83 (by decide) rfl ?_
              refine Tj.icmp_ne dX12_where_84 rfl rfl (fun c10 => ?_) (fun c10 => ?_)
              · have h := h.1 c10
                obtain ⟨⟨o11, o12⟩, h⟩ := h
                refine Tj.aload_n dX12_where_87 rfl rfl ?_
                refine Tj.getR (b := 173) dX12_where_88 fl_X12_91 sh_145 rfl rfl ?_
                refine Tj.iload_n dX12_where_91 rfl rfl ?_
                refine Tj.iald dX12_where_92 sh_173 o11 o12 rfl ?_
                refine Tj.goto dX12_where_93 rfl ?_
                refine Tj.istore_n dX12_where_102 (Nat.le_of_ble_eq_true rfl) rfl rfl ?_
                refine Tj.iload_n dX12_where_103 rfl rfl ?_
                refine Tj.if_ge dX12_where_104 rfl rfl (fun c11 => ?_) (fun c11 => ?_)
                · have h := h.1 c11
                  obtain ⟨o13, h⟩ := h
                  refine Tj.iload_n dX12_where_107 rfl rfl ?_
                  refine Tj.sipush dX12_where_108 (by decide) (by decide +kernel) rfl ?_
                  refine Tj.iadd dX12_where_111 o13 rfl ?_
                  refine Tj.goto dX12_where_112 rfl ?_
                  exact Tj.iret dX12_where_116 rfl h
                · have h := h.2 c11
                  refine Tj.iload_n dX12_where_115 rfl rfl ?_
                  exact Tj.iret dX12_where_116 rfl h
              · have h := h.2 c10
                obtain ⟨⟨o14, o15⟩, h⟩ := h
                refine Tj.aload_n dX12_where_96 rfl rfl ?_
                refine Tj.getR (b := 171) dX12_where_97 fl_X12_85 sh_145 rfl rfl ?_
                refine Tj.iload_n dX12_where_100 rfl rfl ?_
                refine Tj.iald dX12_where_101 sh_171 o14 o15 rfl ?_
                refine Tj.istore_n dX12_where_102 (Nat.le_of_ble_eq_true rfl) rfl rfl ?_
                refine Tj.iload_n dX12_where_103 rfl rfl ?_
                refine Tj.if_ge dX12_where_104 rfl rfl (fun c12 => ?_) (fun c12 => ?_)
                · have h := h.1 c12
                  obtain ⟨o16, h⟩ := h
                  refine Tj.iload_n dX12_where_107 rfl rfl ?_
                  refine Tj.sipush dX12_where_108 (by decide) (by decide +kernel) rfl ?_
                  refine Tj.iadd dX12_where_111 o16 rfl ?_
                  refine Tj.goto dX12_where_112 rfl ?_
                  exact Tj.iret dX12_where_116 rfl h
                · have h := h.2 c12
                  refine Tj.iload_n dX12_where_115 rfl rfl ?_
                  exact Tj.iret dX12_where_116 rfl h
      · have h := h.2 c3
        refine Tj.bipush dX12_where_38 (by decide) (by decide +kernel) rfl ?_
        exact Tj.iret dX12_where_40 rfl h
