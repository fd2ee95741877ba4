theorem wX12_wraps_0 {m : tM} {P : Option tV → tM → Prop}   (h : Cli mX12_wellOf [rV 145] (up m 145 0 0) (fun r1 m1 => ((r1 = 0 → (Clv mX12_findWraps [rV 145, iV (-1)] m1 (fun m2 => (P (some (iV (m2 145 45))) m2)))) ∧ (¬ r1 = 0 → (P (some (iV (-4))) m1))))) : Tj mX12_wraps 0 [some (rV 145)] [] m P := by
  refine Tj.aload_n dX12_wraps_0 rfl rfl ?_
  refine Tj.iconst dX12_wraps_1 (by decide) rfl ?_
  refine Tj.pI (j := 0) dX12_wraps_2 fp_X12_113 sh_145 rfl rfl ?_
  refine Tj.aload_n dX12_wraps_5 rfl rfl ?_
  refine Tj.callVi (as := []) (rest := []) dX12_wraps_6 ln_X12_182 sh_145 (by decide) rfl rfl (Nat.le_of_ble_eq_true rfl) ⟨Nat.le_of_ble_eq_true rfl, Nat.le_of_ble_eq_true rfl⟩ (Nat.le_of_ble_eq_true rfl) rfl ?_
  refine Cli.mono h (fun r1 m1 h => ?_)
  refine Tj.if_eq dX12_wraps_9 rfl rfl (fun c1 => ?_) (fun c1 => ?_)
  · have h := h.1 c1
    refine Tj.aload_n dX12_wraps_15 rfl rfl ?_
    refine Tj.iconst dX12_wraps_16 (by decide) rfl ?_
    refine Tj.callVv (as := [_]) (rest := []) dX12_wraps_17 ln_X12_331 sh_145 (by decide) rfl rfl (Nat.le_of_ble_eq_true rfl) ⟨Nat.le_of_ble_eq_true rfl, Nat.le_of_ble_eq_true rfl⟩ (Nat.le_of_ble_eq_true rfl) rfl ?_
    refine Clv.mono h (fun m2 h => ?_)
    refine Tj.aload_n dX12_wraps_20 rfl rfl ?_
    refine Tj.gI (j := 45) dX12_wraps_21 fl_X12_310 sh_145 rfl rfl ?_
    exact Tj.iret dX12_wraps_24 rfl h
  · have h := h.2 c1
    refine Tj.bipush dX12_wraps_12 (by decide) (by decide +kernel) rfl ?_
    exact Tj.iret dX12_wraps_14 rfl h

theorem wX12_way_0 {m : tM} {P : Option tV → tM → Prop} {x1 : Int} {x2 : Int}  (h : (x1 < 0 → (P (some (iV (-3))) (up m 145 0 0))) ∧ (¬ x1 < 0 → (Cli mX12_in [iV x2, iV 0, iV 2] (up m 145 0 0) (fun r1 m1 => ((r1 = 0 → (P (some (iV (-3))) m1)) ∧ (¬ r1 = 0 → (Cli mX12_wellOf [rV 145] m1 (fun r2 m2 => ((r2 = 0 → (Clv mX12_findWraps [rV 145, iV x1] m2 (fun m3 => (∀ v1 : Int, v1 = (if x1 < (m3 145 45) then (if x2 = 0 then (m3 145 46) else (if x2 = 1 then (m3 145 47) else (m3 145 48))) else (-1)) → (P (some (iV v1)) m3))))) ∧ (¬ r2 = 0 → (P (some (iV (-4))) m2))))))))))) : Tj mX12_way 0 [some (rV 145), some (iV x1), some (iV x2)] [] m P := by
  refine Tj.aload_n dX12_way_0 rfl rfl ?_
  refine Tj.iconst dX12_way_1 (by decide) rfl ?_
  refine Tj.pI (j := 0) dX12_way_2 fp_X12_113 sh_145 rfl rfl ?_
  refine Tj.iload_n dX12_way_5 rfl rfl ?_
  refine Tj.if_lt dX12_way_6 rfl rfl (fun c1 => ?_) (fun c1 => ?_)
  · have h := h.1 c1
    refine Tj.bipush dX12_way_18 (by decide) (by decide +kernel) rfl ?_
    exact Tj.iret dX12_way_20 rfl h
  · have h := h.2 c1
    refine Tj.iload_n dX12_way_9 rfl rfl ?_
    refine Tj.iconst dX12_way_10 (by decide) rfl ?_
    refine Tj.iconst dX12_way_11 (by decide) rfl ?_
    refine Tj.callSi (as := [_, _, _]) (rest := []) dX12_way_12 ln_X12_139 rfl rfl (Nat.le_of_ble_eq_true rfl) ⟨Nat.le_of_ble_eq_true rfl, Nat.le_of_ble_eq_true rfl⟩ (Nat.le_of_ble_eq_true rfl) rfl ?_
    refine Cli.mono h (fun r1 m1 h => ?_)
    refine Tj.if_ne dX12_way_15 rfl rfl (fun c2 => ?_) (fun c2 => ?_)
    · have h := h.1 c2
      refine Tj.bipush dX12_way_18 (by decide) (by decide +kernel) rfl ?_
      exact Tj.iret dX12_way_20 rfl h
    · have h := h.2 c2
      refine Tj.aload_n dX12_way_21 rfl rfl ?_
      refine Tj.callVi (as := []) (rest := []) dX12_way_22 ln_X12_182 sh_145 (by decide) rfl rfl (Nat.le_of_ble_eq_true rfl) ⟨Nat.le_of_ble_eq_true rfl, Nat.le_of_ble_eq_true rfl⟩ (Nat.le_of_ble_eq_true rfl) rfl ?_
      refine Cli.mono h (fun r2 m2 h => ?_)
      refine Tj.if_eq dX12_way_25 rfl rfl (fun c3 => ?_) (fun c3 => ?_)
      · have h := h.1 c3
        refine Tj.aload_n dX12_way_31 rfl rfl ?_
        refine Tj.iload_n dX12_way_32 rfl rfl ?_
        refine Tj.callVv (as := [_]) (rest := []) dX12_way_33 ln_X12_331 sh_145 (by decide) rfl rfl (Nat.le_of_ble_eq_true rfl) ⟨Nat.le_of_ble_eq_true rfl, Nat.le_of_ble_eq_true rfl⟩ (Nat.le_of_ble_eq_true rfl) rfl ?_
        refine Clv.mono h (fun m3 h => ?_)
        refine Tj.iload_n dX12_way_36 rfl rfl ?_
        refine Tj.aload_n dX12_way_37 rfl rfl ?_
        refine Tj.gI (j := 45) dX12_way_38 fl_X12_310 sh_145 rfl rfl ?_
        have hj : Tj mX12_way 75 [] [iV (if x1 < (m3 145 45) then (if x2 = 0 then (m3 145 46) else (if x2 = 1 then (m3 145 47) else (m3 145 48))) else (-1))] m3 P := by
          generalize hv1 : ((if x1 < (m3 145 45) then (if x2 = 0 then (m3 145 46) else (if x2 = 1 then (m3 145 47) else (m3 145 48))) else (-1)) : Int) = v1
          have h := h v1 hv1.symm
          exact Tj.iret dX12_way_75 rfl h
        refine Tj.icmp_lt dX12_way_41 rfl rfl (fun c4 => ?_) (fun c4 => ?_)
        · refine Tj.iload_n dX12_way_48 rfl rfl ?_
          refine Tj.if_ne dX12_way_49 rfl rfl (fun c5 => ?_) (fun c5 => ?_)
          · refine Tj.aload_n dX12_way_52 rfl rfl ?_
            refine Tj.gI (j := 46) dX12_way_53 fl_X12_322 sh_145 rfl rfl ?_
            refine Tj.goto dX12_way_56 rfl ?_
            try simp only [if_pos c4, if_pos c5] at hj ⊢
            exact Tj.cut hj trivial
          · refine Tj.iload_n dX12_way_59 rfl rfl ?_
            refine Tj.iconst dX12_way_60 (by decide) rfl ?_
            refine Tj.icmp_ne dX12_way_61 rfl rfl (fun c6 => ?_) (fun c6 => ?_)
            · refine Tj.aload_n dX12_way_64 rfl rfl ?_
              refine Tj.gI (j := 47) dX12_way_65 fl_X12_325 sh_145 rfl rfl ?_
              refine Tj.goto dX12_way_68 rfl ?_
              try simp only [if_pos c4, if_neg c5, if_pos c6] at hj ⊢
              exact Tj.cut hj trivial
            · refine Tj.aload_n dX12_way_71 rfl rfl ?_
              refine Tj.gI (j := 48) dX12_way_72 fl_X12_328 sh_145 rfl rfl ?_
              try simp only [if_pos c4, if_neg c5, if_neg c6] at hj ⊢
              exact Tj.cut hj trivial
        · refine Tj.iconst dX12_way_44 (by decide) rfl ?_
          refine Tj.goto dX12_way_45 rfl ?_
          try simp only [if_neg c4] at hj ⊢
          exact Tj.cut hj trivial
      · have h := h.2 c3
        refine Tj.bipush dX12_way_28 (by decide) (by decide +kernel) rfl ?_
        exact Tj.iret dX12_way_30 rfl h

theorem wX12_count_0 {m : tM} {P : Option tV → tM → Prop} {x1 : Int}  (h : (x1 = 0 → (Cli mX12_cubesIn [rV 145, iV 0] (up m 145 0 0) (fun r1 m1 => (Cli mX12_cubesIn [rV 145, iV 1] m1 (fun r2 m2 => ((R32 (r1 + r2)) ∧ (Cli mX12_cubesIn [rV 145, iV 2] m2 (fun r3 m3 => ((R32 ((r1 + r2) + r3)) ∧ (Cli mX12_cubesIn [rV 145, iV 3] m3 (fun r4 m4 => ((R32 (((r1 + r2) + r3) + r4)) ∧ (P (some (iV (((r1 + r2) + r3) + r4))) m4))))))))))))) ∧ (x1 = 1 → ((R32 ((m 146 0) + (m 146 1)) ∧ R32 (((m 146 0) + (m 146 1)) + (m 146 2)) ∧ R32 ((((m 146 0) + (m 146 1)) + (m 146 2)) + (m 146 3))) ∧ (P (some (iV ((((m 146 0) + (m 146 1)) + (m 146 2)) + (m 146 3)))) (up m 145 0 0)))) ∧ (x1 = 2 → (P (some (iV (m 145 4))) (up m 145 0 0))) ∧ (x1 = 3 → (Cli mX12_creases [rV 145] (up m 145 0 0) (fun r5 m5 => (P (some (iV r5)) m5)))) ∧ (x1 = 4 → (P (some (iV (m 145 13))) (up m 145 0 0))) ∧ (¬ x1 = 0 → ¬ x1 = 1 → ¬ x1 = 2 → ¬ x1 = 3 → ¬ x1 = 4 → (P (some (iV (-3))) (up m 145 0 0)))) : Tj mX12_count 0 [some (rV 145), some (iV x1)] [] m P := by
  refine Tj.aload_n dX12_count_0 rfl rfl ?_
  refine Tj.iconst dX12_count_1 (by decide) rfl ?_
  refine Tj.pI (j := 0) dX12_count_2 fp_X12_113 sh_145 rfl rfl ?_
  refine Tj.iload_n dX12_count_5 rfl rfl ?_
  show Tj mX12_count 6 [some (rV 145), some (iV x1)] [iV x1] (up m 145 0 0) P
  by_cases c1 : x1 = 0
  · have h := h.1 c1
    refine Tj.tsI (v := 0) dX12_count_6 c1 (by decide) (by decide) rfl rfl ?_
    refine Tj.aload_n dX12_count_40 rfl rfl ?_
    refine Tj.iconst dX12_count_41 (by decide) rfl ?_
    refine Tj.callVi (as := [_]) (rest := []) dX12_count_42 ln_X12_146 sh_145 (by decide) rfl rfl (Nat.le_of_ble_eq_true rfl) ⟨Nat.le_of_ble_eq_true rfl, Nat.le_of_ble_eq_true rfl⟩ (Nat.le_of_ble_eq_true rfl) rfl ?_
    refine Cli.mono h (fun r1 m1 h => ?_)
    refine Tj.aload_n dX12_count_45 rfl rfl ?_
    refine Tj.iconst dX12_count_46 (by decide) rfl ?_
    refine Tj.callVi (as := [_]) (rest := [_]) dX12_count_47 ln_X12_146 sh_145 (by decide) rfl rfl (Nat.le_of_ble_eq_true rfl) ⟨Nat.le_of_ble_eq_true rfl, Nat.le_of_ble_eq_true rfl⟩ (Nat.le_of_ble_eq_true rfl) rfl ?_
    refine Cli.mono h (fun r2 m2 h => ?_)
    obtain ⟨o1, h⟩ := h
    refine Tj.iadd dX12_count_50 o1 rfl ?_
    refine Tj.aload_n dX12_count_51 rfl rfl ?_
    refine Tj.iconst dX12_count_52 (by decide) rfl ?_
    refine Tj.callVi (as := [_]) (rest := [_]) dX12_count_53 ln_X12_146 sh_145 (by decide) rfl rfl (Nat.le_of_ble_eq_true rfl) ⟨Nat.le_of_ble_eq_true rfl, Nat.le_of_ble_eq_true rfl⟩ (Nat.le_of_ble_eq_true rfl) rfl ?_
    refine Cli.mono h (fun r3 m3 h => ?_)
    obtain ⟨o2, h⟩ := h
    refine Tj.iadd dX12_count_56 o2 rfl ?_
    refine Tj.aload_n dX12_count_57 rfl rfl ?_
    refine Tj.iconst dX12_count_58 (by decide) rfl ?_
    refine Tj.callVi (as := [_]) (rest := [_]) dX12_count_59 ln_X12_146 sh_145 (by decide) rfl rfl (Nat.le_of_ble_eq_true rfl) ⟨Nat.le_of_ble_eq_true rfl, Nat.le_of_ble_eq_true rfl⟩ (Nat.le_of_ble_eq_true rfl) rfl ?_
    refine Cli.mono h (fun r4 m4 h => ?_)
    obtain ⟨o3, h⟩ := h
    refine Tj.iadd dX12_count_62 o3 rfl ?_
    exact Tj.iret dX12_count_63 rfl h
  have h := h.2
  by_cases c2 : x1 = 1
  · have h := h.1 c2
    refine Tj.tsI (v := 1) dX12_count_6 c2 (by decide) (by decide) rfl rfl ?_
    obtain ⟨⟨o4, o5, o6⟩, h⟩ := h
    refine Tj.aload_n dX12_count_64 rfl rfl ?_
    refine Tj.getR (b := 146) dX12_count_65 fl_X12_7 sh_145 rfl rfl ?_
    refine Tj.iconst dX12_count_68 (by decide) rfl ?_
    refine Tj.iald dX12_count_69 sh_146 (by decide) (by decide) rfl ?_
    refine Tj.aload_n dX12_count_70 rfl rfl ?_
    refine Tj.getR (b := 146) dX12_count_71 fl_X12_7 sh_145 rfl rfl ?_
    refine Tj.iconst dX12_count_74 (by decide) rfl ?_
    refine Tj.iald dX12_count_75 sh_146 (by decide) (by decide) rfl ?_
    refine Tj.iadd dX12_count_76 o4 rfl ?_
    refine Tj.aload_n dX12_count_77 rfl rfl ?_
    refine Tj.getR (b := 146) dX12_count_78 fl_X12_7 sh_145 rfl rfl ?_
    refine Tj.iconst dX12_count_81 (by decide) rfl ?_
    refine Tj.iald dX12_count_82 sh_146 (by decide) (by decide) rfl ?_
    refine Tj.iadd dX12_count_83 o5 rfl ?_
    refine Tj.aload_n dX12_count_84 rfl rfl ?_
    refine Tj.getR (b := 146) dX12_count_85 fl_X12_7 sh_145 rfl rfl ?_
    refine Tj.iconst dX12_count_88 (by decide) rfl ?_
    refine Tj.iald dX12_count_89 sh_146 (by decide) (by decide) rfl ?_
    refine Tj.iadd dX12_count_90 o6 rfl ?_
    exact Tj.iret dX12_count_91 rfl h
  have h := h.2
  by_cases c3 : x1 = 2
  · have h := h.1 c3
    refine Tj.tsI (v := 2) dX12_count_6 c3 (by decide) (by decide) rfl rfl ?_
    refine Tj.aload_n dX12_count_92 rfl rfl ?_
    refine Tj.gI (j := 4) dX12_count_93 fl_X12_127 sh_145 rfl rfl ?_
    exact Tj.iret dX12_count_96 rfl h
  have h := h.2
  by_cases c4 : x1 = 3
  · have h := h.1 c4
    refine Tj.tsI (v := 3) dX12_count_6 c4 (by decide) (by decide) rfl rfl ?_
    refine Tj.aload_n dX12_count_97 rfl rfl ?_
    refine Tj.callVi (as := []) (rest := []) dX12_count_98 ln_X12_245 sh_145 (by decide) rfl rfl (Nat.le_of_ble_eq_true rfl) ⟨Nat.le_of_ble_eq_true rfl, Nat.le_of_ble_eq_true rfl⟩ (Nat.le_of_ble_eq_true rfl) rfl ?_
    refine Cli.mono h (fun r5 m5 h => ?_)
    exact Tj.iret dX12_count_101 rfl h
  have h := h.2
  by_cases c5 : x1 = 4
  · have h := h.1 c5
    refine Tj.tsI (v := 4) dX12_count_6 c5 (by decide) (by decide) rfl rfl ?_
    refine Tj.aload_n dX12_count_102 rfl rfl ?_
    refine Tj.gI (j := 13) dX12_count_103 fl_X12_130 sh_145 rfl rfl ?_
    exact Tj.iret dX12_count_106 rfl h
  have h := h.2
  have h := h c1 c2 c3 c4 c5
  refine Tj.tsO dX12_count_6 (by omega) rfl ?_
  refine Tj.bipush dX12_count_107 (by decide) (by decide +kernel) rfl ?_
  exact Tj.iret dX12_count_109 rfl h
