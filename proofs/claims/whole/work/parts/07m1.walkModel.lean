theorem wX12_square_0 {m : tM} {P : Option tV → tM → Prop} {x1 : Int} {x2 : Int}  (h : Clv mX12_findSkin [rV 145] (up m 145 0 0) (fun m1 => ((R32 ((m1 145 17) - 1)) ∧ (Cli mX12_in [iV x1, iV 0, iV ((m1 145 17) - 1)] m1 (fun r1 m2 => ((r1 = 0 → (P (some (iV (-3))) m2)) ∧ (¬ r1 = 0 → (Cli mX12_in [iV x2, iV 0, iV 3] m2 (fun r2 m3 => ((r2 = 0 → (P (some (iV (-3))) m3)) ∧ (¬ r2 = 0 → ((0 ≤ x1 ∧ x1 < 384) ∧ ((x2 = 0 → (Cli mX12_xOf [iV (m3 158 x1)] m3 (fun r3 m4 => (P (some (iV r3)) m4)))) ∧ (¬ x2 = 0 → ((x2 = 1 → (Cli mX12_yOf [iV (m3 158 x1)] m3 (fun r4 m5 => (P (some (iV r4)) m5)))) ∧ (¬ x2 = 1 → ((x2 = 2 → (Cli mX12_zOf [iV (m3 158 x1)] m3 (fun r5 m6 => (P (some (iV r5)) m6)))) ∧ (¬ x2 = 2 → (P (some (iV (m3 159 x1))) m3))))))))))))))))))) : Tj mX12_square 0 [some (rV 145), some (iV x1), some (iV x2)] [] m P := by
  refine Tj.aload_n dX12_square_0 rfl rfl ?_
  refine Tj.iconst dX12_square_1 (by decide) rfl ?_
  refine Tj.pI (j := 0) dX12_square_2 fp_X12_113 sh_145 rfl rfl ?_
  refine Tj.aload_n dX12_square_5 rfl rfl ?_
  refine Tj.callVv (as := []) (rest := []) dX12_square_6 ln_X12_223 sh_145 (by decide) rfl rfl (Nat.le_of_ble_eq_true rfl) ⟨Nat.le_of_ble_eq_true rfl, Nat.le_of_ble_eq_true rfl⟩ (Nat.le_of_ble_eq_true rfl) rfl ?_
  refine Clv.mono h (fun m1 h => ?_)
  obtain ⟨o1, h⟩ := h
  refine Tj.iload_n dX12_square_9 rfl rfl ?_
  refine Tj.iconst dX12_square_10 (by decide) rfl ?_
  refine Tj.aload_n dX12_square_11 rfl rfl ?_
  refine Tj.gI (j := 17) dX12_square_12 fl_X12_195 sh_145 rfl rfl ?_
  refine Tj.iconst dX12_square_15 (by decide) rfl ?_
  refine Tj.isub dX12_square_16 o1 rfl ?_
  refine Tj.callSi (as := [_, _, _]) (rest := []) dX12_square_17 ln_X12_139 rfl rfl (Nat.le_of_ble_eq_true rfl) ⟨Nat.le_of_ble_eq_true rfl, Nat.le_of_ble_eq_true rfl⟩ (Nat.le_of_ble_eq_true rfl) rfl ?_
  refine Cli.mono h (fun r1 m2 h => ?_)
  refine Tj.if_eq dX12_square_20 rfl rfl (fun c1 => ?_) (fun c1 => ?_)
  · have h := h.1 c1
    refine Tj.bipush dX12_square_32 (by decide) (by decide +kernel) rfl ?_
    exact Tj.iret dX12_square_34 rfl h
  · have h := h.2 c1
    refine Tj.iload_n dX12_square_23 rfl rfl ?_
    refine Tj.iconst dX12_square_24 (by decide) rfl ?_
    refine Tj.iconst dX12_square_25 (by decide) rfl ?_
    refine Tj.callSi (as := [_, _, _]) (rest := []) dX12_square_26 ln_X12_139 rfl rfl (Nat.le_of_ble_eq_true rfl) ⟨Nat.le_of_ble_eq_true rfl, Nat.le_of_ble_eq_true rfl⟩ (Nat.le_of_ble_eq_true rfl) rfl ?_
    refine Cli.mono h (fun r2 m3 h => ?_)
    refine Tj.if_ne dX12_square_29 rfl rfl (fun c2 => ?_) (fun c2 => ?_)
    · have h := h.1 c2
      refine Tj.bipush dX12_square_32 (by decide) (by decide +kernel) rfl ?_
      exact Tj.iret dX12_square_34 rfl h
    · have h := h.2 c2
      obtain ⟨⟨o2, o3⟩, h⟩ := h
      refine Tj.aload_n dX12_square_35 rfl rfl ?_
      refine Tj.getR (b := 158) dX12_square_36 fl_X12_46 sh_145 rfl rfl ?_
      refine Tj.iload_n dX12_square_39 rfl rfl ?_
      refine Tj.iald dX12_square_40 sh_158 o2 o3 rfl ?_
      refine Tj.istore_n dX12_square_41 (Nat.le_of_ble_eq_true rfl) rfl rfl ?_
      refine Tj.iload_n dX12_square_42 rfl rfl ?_
      refine Tj.if_ne dX12_square_43 rfl rfl (fun c3 => ?_) (fun c3 => ?_)
      · have h := h.1 c3
        refine Tj.iload_n dX12_square_46 rfl rfl ?_
        refine Tj.callSi (as := [_]) (rest := []) dX12_square_47 ln_X12_186 rfl rfl (Nat.le_of_ble_eq_true rfl) ⟨Nat.le_of_ble_eq_true rfl, Nat.le_of_ble_eq_true rfl⟩ (Nat.le_of_ble_eq_true rfl) rfl ?_
        refine Cli.mono h (fun r3 m4 h => ?_)
        refine Tj.goto dX12_square_50 rfl ?_
        exact Tj.iret dX12_square_83 rfl h
      · have h := h.2 c3
        refine Tj.iload_n dX12_square_53 rfl rfl ?_
        refine Tj.iconst dX12_square_54 (by decide) rfl ?_
        refine Tj.icmp_ne dX12_square_55 rfl rfl (fun c4 => ?_) (fun c4 => ?_)
        · have h := h.1 c4
          refine Tj.iload_n dX12_square_58 rfl rfl ?_
          refine Tj.callSi (as := [_]) (rest := []) dX12_square_59 ln_X12_189 rfl rfl (Nat.le_of_ble_eq_true rfl) ⟨Nat.le_of_ble_eq_true rfl, Nat.le_of_ble_eq_true rfl⟩ (Nat.le_of_ble_eq_true rfl) rfl ?_
          refine Cli.mono h (fun r4 m5 h => ?_)
          refine Tj.goto dX12_square_62 rfl ?_
          exact Tj.iret dX12_square_83 rfl h
        · have h := h.2 c4
          refine Tj.iload_n dX12_square_65 rfl rfl ?_
          refine Tj.iconst dX12_square_66 (by decide) rfl ?_
          refine Tj.icmp_ne dX12_square_67 rfl rfl (fun c5 => ?_) (fun c5 => ?_)
          · have h := h.1 c5
            refine Tj.iload_n dX12_square_70 rfl rfl ?_
            refine Tj.callSi (as := [_]) (rest := []) dX12_square_71 ln_X12_192 rfl rfl (Nat.le_of_ble_eq_true rfl) ⟨Nat.le_of_ble_eq_true rfl, Nat.le_of_ble_eq_true rfl⟩ (Nat.le_of_ble_eq_true rfl) rfl ?_
            refine Cli.mono h (fun r5 m6 h => ?_)
            refine Tj.goto dX12_square_74 rfl ?_
            exact Tj.iret dX12_square_83 rfl h
          · have h := h.2 c5
            refine Tj.aload_n dX12_square_77 rfl rfl ?_
            refine Tj.getR (b := 159) dX12_square_78 fl_X12_49 sh_145 rfl rfl ?_
            refine Tj.iload_n dX12_square_81 rfl rfl ?_
            refine Tj.iald dX12_square_82 sh_159 o2 o3 rfl ?_
            exact Tj.iret dX12_square_83 rfl h

theorem wX12_across_0 {m : tM} {P : Option tV → tM → Prop} {x1 : Int} {x2 : Int} {x3 : Int}  (h : Clv mX12_findSkin [rV 145] (up m 145 0 0) (fun m1 => ((R32 ((m1 145 17) - 1)) ∧ (Cli mX12_in [iV x1, iV 0, iV ((m1 145 17) - 1)] m1 (fun r1 m2 => ((r1 = 0 → (P (some (iV (-3))) m2)) ∧ (¬ r1 = 0 → (Cli mX12_in [iV x2, iV 0, iV 3] m2 (fun r2 m3 => ((r2 = 0 → (P (some (iV (-3))) m3)) ∧ (¬ r2 = 0 → (Cli mX12_in [iV x3, iV 0, iV 3] m3 (fun r3 m4 => ((r3 = 0 → (P (some (iV (-3))) m4)) ∧ (¬ r3 = 0 → (Cli mX12_wellOf [rV 145] m4 (fun r4 m5 => ((r4 = 0 → (Clv mX12_findAcross [rV 145, iV x1, iV x2] m5 (fun m6 => ((x3 = 0 → (P (some (iV (m6 145 21))) m6)) ∧ (¬ x3 = 0 → ((x3 = 1 → (P (some (iV (m6 145 22))) m6)) ∧ (¬ x3 = 1 → ((x3 = 2 → (∀ v1 : Int, v1 = (if (m6 145 23) = (-1) then 9 else (m6 145 23)) → (P (some (iV v1)) m6))) ∧ (¬ x3 = 2 → ((R32 (4 * x1) ∧ R32 ((4 * x1) + x2) ∧ 0 ≤ ((4 * x1) + x2) ∧ ((4 * x1) + x2) < 1536) ∧ (P (some (iV (m6 148 ((4 * x1) + x2)))) m6))))))))))) ∧ (¬ r4 = 0 → (P (some (iV (-4))) m5)))))))))))))))))))) : Tj mX12_across 0 [some (rV 145), some (iV x1), some (iV x2), some (iV x3)] [] m P := by
  refine Tj.aload_n dX12_across_0 rfl rfl ?_
  refine Tj.iconst dX12_across_1 (by decide) rfl ?_
  refine Tj.pI (j := 0) dX12_across_2 fp_X12_113 sh_145 rfl rfl ?_
  refine Tj.aload_n dX12_across_5 rfl rfl ?_
  refine Tj.callVv (as := []) (rest := []) dX12_across_6 ln_X12_223 sh_145 (by decide) rfl rfl (Nat.le_of_ble_eq_true rfl) ⟨Nat.le_of_ble_eq_true rfl, Nat.le_of_ble_eq_true rfl⟩ (Nat.le_of_ble_eq_true rfl) rfl ?_
  refine Clv.mono h (fun m1 h => ?_)
  obtain ⟨o1, h⟩ := h
  refine Tj.iload_n dX12_across_9 rfl rfl ?_
  refine Tj.iconst dX12_across_10 (by decide) rfl ?_
  refine Tj.aload_n dX12_across_11 rfl rfl ?_
  refine Tj.gI (j := 17) dX12_across_12 fl_X12_195 sh_145 rfl rfl ?_
  refine Tj.iconst dX12_across_15 (by decide) rfl ?_
  refine Tj.isub dX12_across_16 o1 rfl ?_
  refine Tj.callSi (as := [_, _, _]) (rest := []) dX12_across_17 ln_X12_139 rfl rfl (Nat.le_of_ble_eq_true rfl) ⟨Nat.le_of_ble_eq_true rfl, Nat.le_of_ble_eq_true rfl⟩ (Nat.le_of_ble_eq_true rfl) rfl ?_
  refine Cli.mono h (fun r1 m2 h => ?_)
  refine Tj.if_eq dX12_across_20 rfl rfl (fun c1 => ?_) (fun c1 => ?_)
  · have h := h.1 c1
    refine Tj.bipush dX12_across_41 (by decide) (by decide +kernel) rfl ?_
    exact Tj.iret dX12_across_43 rfl h
  · have h := h.2 c1
    refine Tj.iload_n dX12_across_23 rfl rfl ?_
    refine Tj.iconst dX12_across_24 (by decide) rfl ?_
    refine Tj.iconst dX12_across_25 (by decide) rfl ?_
    refine Tj.callSi (as := [_, _, _]) (rest := []) dX12_across_26 ln_X12_139 rfl rfl (Nat.le_of_ble_eq_true rfl) ⟨Nat.le_of_ble_eq_true rfl, Nat.le_of_ble_eq_true rfl⟩ (Nat.le_of_ble_eq_true rfl) rfl ?_
    refine Cli.mono h (fun r2 m3 h => ?_)
    refine Tj.if_eq dX12_across_29 rfl rfl (fun c2 => ?_) (fun c2 => ?_)
    · have h := h.1 c2
      refine Tj.bipush dX12_across_41 (by decide) (by decide +kernel) rfl ?_
      exact Tj.iret dX12_across_43 rfl h
    · have h := h.2 c2
      refine Tj.iload_n dX12_across_32 rfl rfl ?_
      refine Tj.iconst dX12_across_33 (by decide) rfl ?_
      refine Tj.iconst dX12_across_34 (by decide) rfl ?_
      refine Tj.callSi (as := [_, _, _]) (rest := []) dX12_across_35 ln_X12_139 rfl rfl (Nat.le_of_ble_eq_true rfl) ⟨Nat.le_of_ble_eq_true rfl, Nat.le_of_ble_eq_true rfl⟩ (Nat.le_of_ble_eq_true rfl) rfl ?_
      refine Cli.mono h (fun r3 m4 h => ?_)
      refine Tj.if_ne dX12_across_38 rfl rfl (fun c3 => ?_) (fun c3 => ?_)
      · have h := h.1 c3
        refine Tj.bipush dX12_across_41 (by decide) (by decide +kernel) rfl ?_
        exact Tj.iret dX12_across_43 rfl h
      · have h := h.2 c3
        refine Tj.aload_n dX12_across_44 rfl rfl ?_
        refine Tj.callVi (as := []) (rest := []) dX12_across_45 ln_X12_182 sh_145 (by decide) rfl rfl (Nat.le_of_ble_eq_true rfl) ⟨Nat.le_of_ble_eq_true rfl, Nat.le_of_ble_eq_true rfl⟩ (Nat.le_of_ble_eq_true rfl) rfl ?_
        refine Cli.mono h (fun r4 m5 h => ?_)
        refine Tj.if_eq dX12_across_48 rfl rfl (fun c4 => ?_) (fun c4 => ?_)
        · have h := h.1 c4
          refine Tj.aload_n dX12_across_54 rfl rfl ?_
          refine Tj.iload_n dX12_across_55 rfl rfl ?_
          refine Tj.iload_n dX12_across_56 rfl rfl ?_
          refine Tj.callVv (as := [_, _]) (rest := []) dX12_across_57 ln_X12_226 sh_145 (by decide) rfl rfl (Nat.le_of_ble_eq_true rfl) ⟨Nat.le_of_ble_eq_true rfl, Nat.le_of_ble_eq_true rfl⟩ (Nat.le_of_ble_eq_true rfl) rfl ?_
          refine Clv.mono h (fun m6 h => ?_)
          refine Tj.iload_n dX12_across_60 rfl rfl ?_
          refine Tj.if_ne dX12_across_61 rfl rfl (fun c5 => ?_) (fun c5 => ?_)
          · have h := h.1 c5
            refine Tj.aload_n dX12_across_64 rfl rfl ?_
            refine Tj.gI (j := 21) dX12_across_65 fl_X12_213 sh_145 rfl rfl ?_
            refine Tj.goto dX12_across_68 rfl ?_
            exact Tj.iret dX12_across_118 rfl h
          · have h := h.2 c5
            refine Tj.iload_n dX12_across_71 rfl rfl ?_
            refine Tj.iconst dX12_across_72 (by decide) rfl ?_
            refine Tj.icmp_ne dX12_across_73 rfl rfl (fun c6 => ?_) (fun c6 => ?_)
            · have h := h.1 c6
              refine Tj.aload_n dX12_across_76 rfl rfl ?_
              refine Tj.gI (j := 22) dX12_across_77 fl_X12_220 sh_145 rfl rfl ?_
              refine Tj.goto dX12_across_80 rfl ?_
              exact Tj.iret dX12_across_118 rfl h
            · have h := h.2 c6
              refine Tj.iload_n dX12_across_83 rfl rfl ?_
              refine Tj.iconst dX12_across_84 (by decide) rfl ?_
              refine Tj.icmp_ne dX12_across_85 rfl rfl (fun c7 => ?_) (fun c7 => ?_)
              · have h := h.1 c7
                refine Tj.aload_n dX12_across_88 rfl rfl ?_
                refine Tj.gI (j := 23) dX12_across_89 fl_X12_204 sh_145 rfl rfl ?_
                refine Tj.iconst dX12_across_92 (by decide) rfl ?_
                have hj : Tj mX12_across 118 [] [iV (if (m6 145 23) = (-1) then 9 else (m6 145 23))] m6 P := by
                  generalize hv1 : ((if (m6 145 23) = (-1) then 9 else (m6 145 23)) : Int) = v1
                  have h := h v1 hv1.symm
                  exact Tj.iret dX12_across_118 rfl h
                refine Tj.icmp_ne dX12_across_93 rfl rfl (fun c8 => ?_) (fun c8 => ?_)
                · refine Tj.bipush dX12_across_96 (by decide) (by decide +kernel) rfl ?_
                  refine Tj.goto dX12_across_98 rfl ?_
                  try simp only [if_pos c8] at hj ⊢
                  exact Tj.cut hj trivial
                · refine Tj.aload_n dX12_across_101 rfl rfl ?_
                  refine Tj.gI (j := 23) dX12_across_102 fl_X12_204 sh_145 rfl rfl ?_
                  refine Tj.goto dX12_across_105 rfl ?_
                  try simp only [if_neg c8] at hj ⊢
                  exact Tj.cut hj trivial
              · have h := h.2 c7
                obtain ⟨⟨o2, o3, o4, o5⟩, h⟩ := h
                refine Tj.aload_n dX12_across_108 rfl rfl ?_
                refine Tj.getR (b := 148) dX12_across_109 fl_X12_16 sh_145 rfl rfl ?_
                refine Tj.iconst dX12_across_112 (by decide) rfl ?_
                refine Tj.iload_n dX12_across_113 rfl rfl ?_
                refine Tj.imul dX12_across_114 o2 rfl ?_
                refine Tj.iload_n dX12_across_115 rfl rfl ?_
                refine Tj.iadd dX12_across_116 o3 rfl ?_
                refine Tj.iald dX12_across_117 sh_148 o4 o5 rfl ?_
                exact Tj.iret dX12_across_118 rfl h
        · have h := h.2 c4
          refine Tj.bipush dX12_across_51 (by decide) (by decide +kernel) rfl ?_
          exact Tj.iret dX12_across_53 rfl h

theorem wX12_cut_0 {m : tM} {P : Option tV → tM → Prop} {x1 : Int} {x2 : Int} {x3 : Int}  (h : Clv mX12_findSkin [rV 145] (up m 145 0 0) (fun m1 => ((R32 ((m1 145 17) - 1)) ∧ (Cli mX12_in [iV x1, iV 0, iV ((m1 145 17) - 1)] m1 (fun r1 m2 => ((r1 = 0 → (P (some (iV (-3))) m2)) ∧ (¬ r1 = 0 → (Cli mX12_in [iV x2, iV 0, iV 3] m2 (fun r2 m3 => ((r2 = 0 → (P (some (iV (-3))) m3)) ∧ (¬ r2 = 0 → (Cli mX12_in [iV x3, iV 0, iV 1] m3 (fun r3 m4 => ((r3 = 0 → (P (some (iV (-3))) m4)) ∧ (¬ r3 = 0 → (Cli mX12_wellOf [rV 145] m4 (fun r4 m5 => ((r4 = 0 → (Clv mX12_keep [rV 145] m5 (fun m6 => ((R32 (4 * x1) ∧ R32 ((4 * x1) + x2) ∧ 0 ≤ ((4 * x1) + x2) ∧ ((4 * x1) + x2) < 1536) ∧ (Clv mX12_findAcross [rV 145, iV x1, iV x2] m6 (fun m7 => ((R32 (4 * (m7 145 21)) ∧ R32 ((4 * (m7 145 21)) + (m7 145 22)) ∧ 0 ≤ ((4 * (m7 145 21)) + (m7 145 22)) ∧ ((4 * (m7 145 21)) + (m7 145 22)) < 1536) ∧ (P (some (iV (m6 148 ((4 * x1) + x2)))) (up (up m7 148 ((4 * x1) + x2) x3) 148 ((4 * (m7 145 21)) + (m7 145 22)) x3))))))))) ∧ (¬ r4 = 0 → (P (some (iV (-4))) m5)))))))))))))))))))) : Tj mX12_cut 0 [some (rV 145), some (iV x1), some (iV x2), some (iV x3)] [] m P := by
  refine Tj.aload_n dX12_cut_0 rfl rfl ?_
  refine Tj.iconst dX12_cut_1 (by decide) rfl ?_
  refine Tj.pI (j := 0) dX12_cut_2 fp_X12_113 sh_145 rfl rfl ?_
  refine Tj.aload_n dX12_cut_5 rfl rfl ?_
  refine Tj.callVv (as := []) (rest := []) dX12_cut_6 ln_X12_223 sh_145 (by decide) rfl rfl (Nat.le_of_ble_eq_true rfl) ⟨Nat.le_of_ble_eq_true rfl, Nat.le_of_ble_eq_true rfl⟩ (Nat.le_of_ble_eq_true rfl) rfl ?_
  refine Clv.mono h (fun m1 h => ?_)
  obtain ⟨o1, h⟩ := h
  refine Tj.iload_n dX12_cut_9 rfl rfl ?_
  refine Tj.iconst dX12_cut_10 (by decide) rfl ?_
  refine Tj.aload_n dX12_cut_11 rfl rfl ?_
  refine Tj.gI (j := 17) dX12_cut_12 fl_X12_195 sh_145 rfl rfl ?_
  refine Tj.iconst dX12_cut_15 (by decide) rfl ?_
  refine Tj.isub dX12_cut_16 o1 rfl ?_
  refine Tj.callSi (as := [_, _, _]) (rest := []) dX12_cut_17 ln_X12_139 rfl rfl (Nat.le_of_ble_eq_true rfl) ⟨Nat.le_of_ble_eq_true rfl, Nat.le_of_ble_eq_true rfl⟩ (Nat.le_of_ble_eq_true rfl) rfl ?_
  refine Cli.mono h (fun r1 m2 h => ?_)
  refine Tj.if_eq dX12_cut_20 rfl rfl (fun c1 => ?_) (fun c1 => ?_)
  · have h := h.1 c1
    refine Tj.bipush dX12_cut_41 (by decide) (by decide +kernel) rfl ?_
    exact Tj.iret dX12_cut_43 rfl h
  · have h := h.2 c1
    refine Tj.iload_n dX12_cut_23 rfl rfl ?_
    refine Tj.iconst dX12_cut_24 (by decide) rfl ?_
    refine Tj.iconst dX12_cut_25 (by decide) rfl ?_
    refine Tj.callSi (as := [_, _, _]) (rest := []) dX12_cut_26 ln_X12_139 rfl rfl (Nat.le_of_ble_eq_true rfl) ⟨Nat.le_of_ble_eq_true rfl, Nat.le_of_ble_eq_true rfl⟩ (Nat.le_of_ble_eq_true rfl) rfl ?_
    refine Cli.mono h (fun r2 m3 h => ?_)
    refine Tj.if_eq dX12_cut_29 rfl rfl (fun c2 => ?_) (fun c2 => ?_)
    · have h := h.1 c2
      refine Tj.bipush dX12_cut_41 (by decide) (by decide +kernel) rfl ?_
      exact Tj.iret dX12_cut_43 rfl h
    · have h := h.2 c2
      refine Tj.iload_n dX12_cut_32 rfl rfl ?_
      refine Tj.iconst dX12_cut_33 (by decide) rfl ?_
      refine Tj.iconst dX12_cut_34 (by decide) rfl ?_
      refine Tj.callSi (as := [_, _, _]) (rest := []) dX12_cut_35 ln_X12_139 rfl rfl (Nat.le_of_ble_eq_true rfl) ⟨Nat.le_of_ble_eq_true rfl, Nat.le_of_ble_eq_true rfl⟩ (Nat.le_of_ble_eq_true rfl) rfl ?_
      refine Cli.mono h (fun r3 m4 h => ?_)
      refine Tj.if_ne dX12_cut_38 rfl rfl (fun c3 => ?_) (fun c3 => ?_)
      · have h := h.1 c3
        refine Tj.bipush dX12_cut_41 (by decide) (by decide +kernel) rfl ?_
        exact Tj.iret dX12_cut_43 rfl h
      · have h := h.2 c3
        refine Tj.aload_n dX12_cut_44 rfl rfl ?_
        refine Tj.callVi (as := []) (rest := []) dX12_cut_45 ln_X12_182 sh_145 (by decide) rfl rfl (Nat.le_of_ble_eq_true rfl) ⟨Nat.le_of_ble_eq_true rfl, Nat.le_of_ble_eq_true rfl⟩ (Nat.le_of_ble_eq_true rfl) rfl ?_
        refine Cli.mono h (fun r4 m5 h => ?_)
        refine Tj.if_eq dX12_cut_48 rfl rfl (fun c4 => ?_) (fun c4 => ?_)
        · have h := h.1 c4
          refine Tj.aload_n dX12_cut_54 rfl rfl ?_
          refine Tj.callVv (as := []) (rest := []) dX12_cut_55 ln_X12_136 sh_145 (by decide) rfl rfl (Nat.le_of_ble_eq_true rfl) ⟨Nat.le_of_ble_eq_true rfl, Nat.le_of_ble_eq_true rfl⟩ (Nat.le_of_ble_eq_true rfl) rfl ?_
          refine Clv.mono h (fun m6 h => ?_)
          obtain ⟨⟨o2, o3, o4, o5⟩, h⟩ := h
          refine Tj.aload_n dX12_cut_58 rfl rfl ?_
          refine Tj.getR (b := 148) dX12_cut_59 fl_X12_16 sh_145 rfl rfl ?_
          refine Tj.iconst dX12_cut_62 (by decide) rfl ?_
          refine Tj.iload_n dX12_cut_63 rfl rfl ?_
          refine Tj.imul dX12_cut_64 o2 rfl ?_
          refine Tj.iload_n dX12_cut_65 rfl rfl ?_
          refine Tj.iadd dX12_cut_66 o3 rfl ?_
          refine Tj.iald dX12_cut_67 sh_148 o4 o5 rfl ?_
          refine Tj.istore dX12_cut_68 (Nat.le_of_ble_eq_true rfl) rfl rfl ?_
          refine Tj.aload_n dX12_cut_70 rfl rfl ?_
          refine Tj.iload_n dX12_cut_71 rfl rfl ?_
          refine Tj.iload_n dX12_cut_72 rfl rfl ?_
          refine Tj.callVv (as := [_, _]) (rest := []) dX12_cut_73 ln_X12_226 sh_145 (by decide) rfl rfl (Nat.le_of_ble_eq_true rfl) ⟨Nat.le_of_ble_eq_true rfl, Nat.le_of_ble_eq_true rfl⟩ (Nat.le_of_ble_eq_true rfl) rfl ?_
          refine Clv.mono h (fun m7 h => ?_)
          obtain ⟨⟨o6, o7, o8, o9⟩, h⟩ := h
          refine Tj.aload_n dX12_cut_76 rfl rfl ?_
          refine Tj.getR (b := 148) dX12_cut_77 fl_X12_16 sh_145 rfl rfl ?_
          refine Tj.iconst dX12_cut_80 (by decide) rfl ?_
          refine Tj.iload_n dX12_cut_81 rfl rfl ?_
          refine Tj.imul dX12_cut_82 o2 rfl ?_
          refine Tj.iload_n dX12_cut_83 rfl rfl ?_
          refine Tj.iadd dX12_cut_84 o3 rfl ?_
          refine Tj.iload_n dX12_cut_85 rfl rfl ?_
          refine Tj.iast dX12_cut_86 sh_148 o4 o5 rfl ?_
          refine Tj.aload_n dX12_cut_87 rfl rfl ?_
          refine Tj.getR (b := 148) dX12_cut_88 fl_X12_16 sh_145 rfl rfl ?_
          refine Tj.iconst dX12_cut_91 (by decide) rfl ?_
          refine Tj.aload_n dX12_cut_92 rfl rfl ?_
          refine Tj.gI (j := 21) dX12_cut_93 fl_X12_213 sh_145 rfl rfl ?_
          refine Tj.imul dX12_cut_96 o6 rfl ?_
          refine Tj.aload_n dX12_cut_97 rfl rfl ?_
          refine Tj.gI (j := 22) dX12_cut_98 fl_X12_220 sh_145 rfl rfl ?_
          refine Tj.iadd dX12_cut_101 o7 rfl ?_
          refine Tj.iload_n dX12_cut_102 rfl rfl ?_
          refine Tj.iast dX12_cut_103 sh_148 o8 o9 rfl ?_
          refine Tj.iload dX12_cut_104 rfl rfl ?_
          exact Tj.iret dX12_cut_106 rfl h
        · have h := h.2 c4
          refine Tj.bipush dX12_cut_51 (by decide) (by decide +kernel) rfl ?_
          exact Tj.iret dX12_cut_53 rfl h

theorem wX12_cuts_0 {m : tM} {P : Option tV → tM → Prop}   (h : Tj mX12_cuts 9 [some (rV 145), some (iV 0), some (iV 0)] [] (up m 145 0 0) P) : Tj mX12_cuts 0 [some (rV 145)] [] m P := by
  refine Tj.aload_n dX12_cuts_0 rfl rfl ?_
  refine Tj.iconst dX12_cuts_1 (by decide) rfl ?_
  refine Tj.pI (j := 0) dX12_cuts_2 fp_X12_113 sh_145 rfl rfl ?_
  refine Tj.iconst dX12_cuts_5 (by decide) rfl ?_
  refine Tj.istore_n dX12_cuts_6 (Nat.le_of_ble_eq_true rfl) rfl rfl ?_
  refine Tj.iconst dX12_cuts_7 (by decide) rfl ?_
  refine Tj.istore_n dX12_cuts_8 (Nat.le_of_ble_eq_true rfl) rfl rfl ?_
  exact Tj.cut h ⟨rfl, ⟨rfl, ⟨rfl, trivial⟩⟩⟩

theorem wX12_cuts_9 {m : tM} {P : Option tV → tM → Prop} {x1 : Int} {x2 : Int}  (h : (x2 < 1536 → ((0 ≤ x2 ∧ x2 < 1536 ∧ R32 (x1 + (m 148 x2)) ∧ R32 (x2 + 1)) ∧ (Tj mX12_cuts 9 [some (rV 145), some (iV (x1 + (m 148 x2))), some (iV (x2 + 1))] [] m P))) ∧ (¬ x2 < 1536 → ((0 ≤ x1) ∧ (P (some (iV (x1 / 2))) m)))) : Tj mX12_cuts 9 [some (rV 145), some (iV x1), some (iV x2)] [] m P := by
  refine Tj.iload_n dX12_cuts_9 rfl rfl ?_
  refine Tj.sipush dX12_cuts_10 (by decide) (by decide +kernel) rfl ?_
  refine Tj.icmp_ge dX12_cuts_13 rfl rfl (fun c1 => ?_) (fun c1 => ?_)
  · have h := h.1 c1
    obtain ⟨⟨o1, o2, o3, o4⟩, h⟩ := h
    refine Tj.iload_n dX12_cuts_16 rfl rfl ?_
    refine Tj.aload_n dX12_cuts_17 rfl rfl ?_
    refine Tj.getR (b := 148) dX12_cuts_18 fl_X12_16 sh_145 rfl rfl ?_
    refine Tj.iload_n dX12_cuts_21 rfl rfl ?_
    refine Tj.iald dX12_cuts_22 sh_148 o1 o2 rfl ?_
    refine Tj.iadd dX12_cuts_23 o3 rfl ?_
    refine Tj.istore_n dX12_cuts_24 (Nat.le_of_ble_eq_true rfl) rfl rfl ?_
    refine Tj.iinc dX12_cuts_25 rfl (Nat.le_of_ble_eq_true rfl) rfl o4 rfl ?_
    refine Tj.goto dX12_cuts_28 rfl ?_
    exact Tj.cut h ⟨rfl, ⟨rfl, ⟨rfl, trivial⟩⟩⟩
  · have h := h.2 c1
    obtain ⟨o5, h⟩ := h
    refine Tj.iload_n dX12_cuts_31 rfl rfl ?_
    refine Tj.iconst dX12_cuts_32 (by decide) rfl ?_
    refine Tj.idiv dX12_cuts_33 o5 (by decide) rfl ?_
    exact Tj.iret dX12_cuts_34 rfl h

theorem wX12_stepX_0 {m : tM} {P : Option tV → tM → Prop} {x0 : Int}  (h : ∀ v1 : Int, v1 = (if x0 = 0 then 1 else (if x0 = 2 then (-1) else 0)) → (P (some (iV v1)) m)) : Tj mX12_stepX 0 [some (iV x0)] [] m P := by
  refine Tj.iload_n dX12_stepX_0 rfl rfl ?_
  have hj : Tj mX12_stepX 18 [] [iV (if x0 = 0 then 1 else (if x0 = 2 then (-1) else 0))] m P := by
    generalize hv1 : ((if x0 = 0 then 1 else (if x0 = 2 then (-1) else 0)) : Int) = v1
    have h := h v1 hv1.symm
    exact Tj.iret dX12_stepX_18 rfl h
  refine Tj.if_ne dX12_stepX_1 rfl rfl (fun c1 => ?_) (fun c1 => ?_)
  · refine Tj.iconst dX12_stepX_4 (by decide) rfl ?_
    refine Tj.goto dX12_stepX_5 rfl ?_
    try simp only [if_pos c1] at hj ⊢
    exact Tj.cut hj trivial
  · refine Tj.iload_n dX12_stepX_8 rfl rfl ?_
    refine Tj.iconst dX12_stepX_9 (by decide) rfl ?_
    refine Tj.icmp_ne dX12_stepX_10 rfl rfl (fun c2 => ?_) (fun c2 => ?_)
    · refine Tj.iconst dX12_stepX_13 (by decide) rfl ?_
      refine Tj.goto dX12_stepX_14 rfl ?_
      try simp only [if_neg c1, if_pos c2] at hj ⊢
      exact Tj.cut hj trivial
    · refine Tj.iconst dX12_stepX_17 (by decide) rfl ?_
      try simp only [if_neg c1, if_neg c2] at hj ⊢
      exact Tj.cut hj trivial

theorem wX12_stepY_0 {m : tM} {P : Option tV → tM → Prop} {x0 : Int}  (h : ∀ v1 : Int, v1 = (if x0 = 1 then 1 else (if x0 = 3 then (-1) else 0)) → (P (some (iV v1)) m)) : Tj mX12_stepY 0 [some (iV x0)] [] m P := by
  refine Tj.iload_n dX12_stepY_0 rfl rfl ?_
  refine Tj.iconst dX12_stepY_1 (by decide) rfl ?_
  have hj : Tj mX12_stepY 19 [] [iV (if x0 = 1 then 1 else (if x0 = 3 then (-1) else 0))] m P := by
    generalize hv1 : ((if x0 = 1 then 1 else (if x0 = 3 then (-1) else 0)) : Int) = v1
    have h := h v1 hv1.symm
    exact Tj.iret dX12_stepY_19 rfl h
  refine Tj.icmp_ne dX12_stepY_2 rfl rfl (fun c1 => ?_) (fun c1 => ?_)
  · refine Tj.iconst dX12_stepY_5 (by decide) rfl ?_
    refine Tj.goto dX12_stepY_6 rfl ?_
    try simp only [if_pos c1] at hj ⊢
    exact Tj.cut hj trivial
  · refine Tj.iload_n dX12_stepY_9 rfl rfl ?_
    refine Tj.iconst dX12_stepY_10 (by decide) rfl ?_
    refine Tj.icmp_ne dX12_stepY_11 rfl rfl (fun c2 => ?_) (fun c2 => ?_)
    · refine Tj.iconst dX12_stepY_14 (by decide) rfl ?_
      refine Tj.goto dX12_stepY_15 rfl ?_
      try simp only [if_neg c1, if_pos c2] at hj ⊢
      exact Tj.cut hj trivial
    · refine Tj.iconst dX12_stepY_18 (by decide) rfl ?_
      try simp only [if_neg c1, if_neg c2] at hj ⊢
      exact Tj.cut hj trivial

theorem wX12_layAcross_0 {m : tM} {P : Option tV → tM → Prop} {x1 : Int} {x2 : Int}  (h : Clv mX12_findAcross [rV 145, iV x1, iV x2] m (fun m1 => ((0 ≤ x1 ∧ x1 < 384 ∧ R32 (x2 + (m1 164 x1)) ∧ 0 ≤ (x2 + (m1 164 x1))) ∧ (Cli mX12_stepX [iV ((x2 + (m1 164 x1)) % 4)] m1 (fun r1 m2 => ((R32 ((m1 162 x1) + r1)) ∧ (Cli mX12_stepY [iV ((x2 + (m1 164 x1)) % 4)] m2 (fun r2 m3 => ((R32 ((m2 163 x1) + r2) ∧ R32 (((x2 + (m1 164 x1)) % 4) + 2) ∧ R32 ((((x2 + (m1 164 x1)) % 4) + 2) - (m3 145 22)) ∧ R32 (((((x2 + (m1 164 x1)) % 4) + 2) - (m3 145 22)) + 4) ∧ 0 ≤ (((((x2 + (m1 164 x1)) % 4) + 2) - (m3 145 22)) + 4) ∧ 0 ≤ (m3 145 21) ∧ (m3 145 21) < 384) ∧ (((m3 161 (m3 145 21)) = 1 → (((m3 162 (m3 145 21)) = ((m1 162 x1) + r1) → (((m3 163 (m3 145 21)) = ((m2 163 x1) + r2) → (∀ v1 : Int, v1 = (if (m3 164 (m3 145 21)) = ((((((x2 + (m1 164 x1)) % 4) + 2) - (m3 145 22)) + 4) % 4) then 0 else 2) → (P (some (iV v1)) m3))) ∧ (¬ (m3 163 (m3 145 21)) = ((m2 163 x1) + r2) → (P (some (iV 2)) m3)))) ∧ (¬ (m3 162 (m3 145 21)) = ((m1 162 x1) + r1) → (P (some (iV 2)) m3)))) ∧ (¬ (m3 161 (m3 145 21)) = 1 → (P (some (iV 1)) (up (up (up (up m3 161 (m3 145 21) 1) 162 (m3 145 21) ((m1 162 x1) + r1)) 163 (m3 145 21) ((m2 163 x1) + r2)) 164 (m3 145 21) ((((((x2 + (m1 164 x1)) % 4) + 2) - (m3 145 22)) + 4) % 4)))))))))))))) : Tj mX12_layAcross 0 [some (rV 145), some (iV x1), some (iV x2)] [] m P := by
  refine Tj.aload_n dX12_layAcross_0 rfl rfl ?_
  refine Tj.iload_n dX12_layAcross_1 rfl rfl ?_
  refine Tj.iload_n dX12_layAcross_2 rfl rfl ?_
  refine Tj.callVv (as := [_, _]) (rest := []) dX12_layAcross_3 ln_X12_226 sh_145 (by decide) rfl rfl (Nat.le_of_ble_eq_true rfl) ⟨Nat.le_of_ble_eq_true rfl, Nat.le_of_ble_eq_true rfl⟩ (Nat.le_of_ble_eq_true rfl) rfl ?_
  refine Clv.mono h (fun m1 h => ?_)
  obtain ⟨⟨o1, o2, o3, o4⟩, h⟩ := h
  refine Tj.iload_n dX12_layAcross_6 rfl rfl ?_
  refine Tj.aload_n dX12_layAcross_7 rfl rfl ?_
  refine Tj.getR (b := 164) dX12_layAcross_8 fl_X12_64 sh_145 rfl rfl ?_
  refine Tj.iload_n dX12_layAcross_11 rfl rfl ?_
  refine Tj.iald dX12_layAcross_12 sh_164 o1 o2 rfl ?_
  refine Tj.iadd dX12_layAcross_13 o3 rfl ?_
  refine Tj.iconst dX12_layAcross_14 (by decide) rfl ?_
  refine Tj.irem dX12_layAcross_15 o4 (by decide) rfl ?_
  refine Tj.istore_n dX12_layAcross_16 (Nat.le_of_ble_eq_true rfl) rfl rfl ?_
  refine Tj.aload_n dX12_layAcross_17 rfl rfl ?_
  refine Tj.getR (b := 162) dX12_layAcross_18 fl_X12_58 sh_145 rfl rfl ?_
  refine Tj.iload_n dX12_layAcross_21 rfl rfl ?_
  refine Tj.iald dX12_layAcross_22 sh_162 o1 o2 rfl ?_
  refine Tj.iload_n dX12_layAcross_23 rfl rfl ?_
  refine Tj.callSi (as := [_]) (rest := [_]) dX12_layAcross_24 ln_X12_230 rfl rfl (Nat.le_of_ble_eq_true rfl) ⟨Nat.le_of_ble_eq_true rfl, Nat.le_of_ble_eq_true rfl⟩ (Nat.le_of_ble_eq_true rfl) rfl ?_
  refine Cli.mono h (fun r1 m2 h => ?_)
  obtain ⟨o5, h⟩ := h
  refine Tj.iadd dX12_layAcross_27 o5 rfl ?_
  refine Tj.istore dX12_layAcross_28 (Nat.le_of_ble_eq_true rfl) rfl rfl ?_
  refine Tj.aload_n dX12_layAcross_30 rfl rfl ?_
  refine Tj.getR (b := 163) dX12_layAcross_31 fl_X12_61 sh_145 rfl rfl ?_
  refine Tj.iload_n dX12_layAcross_34 rfl rfl ?_
  refine Tj.iald dX12_layAcross_35 sh_163 o1 o2 rfl ?_
  refine Tj.iload_n dX12_layAcross_36 rfl rfl ?_
  refine Tj.callSi (as := [_]) (rest := [_]) dX12_layAcross_37 ln_X12_233 rfl rfl (Nat.le_of_ble_eq_true rfl) ⟨Nat.le_of_ble_eq_true rfl, Nat.le_of_ble_eq_true rfl⟩ (Nat.le_of_ble_eq_true rfl) rfl ?_
  refine Cli.mono h (fun r2 m3 h => ?_)
  obtain ⟨⟨o6, o7, o8, o9, o10, o11, o12⟩, h⟩ := h
  refine Tj.iadd dX12_layAcross_40 o6 rfl ?_
  refine Tj.istore dX12_layAcross_41 (Nat.le_of_ble_eq_true rfl) rfl rfl ?_
  refine Tj.iload_n dX12_layAcross_43 rfl rfl ?_
  refine Tj.iconst dX12_layAcross_44 (by decide) rfl ?_
  refine Tj.iadd dX12_layAcross_45 o7 rfl ?_
  refine Tj.aload_n dX12_layAcross_46 rfl rfl ?_
  refine Tj.gI (j := 22) dX12_layAcross_47 fl_X12_220 sh_145 rfl rfl ?_
  refine Tj.isub dX12_layAcross_50 o8 rfl ?_
  refine Tj.iconst dX12_layAcross_51 (by decide) rfl ?_
  refine Tj.iadd dX12_layAcross_52 o9 rfl ?_
  refine Tj.iconst dX12_layAcross_53 (by decide) rfl ?_
  refine Tj.irem dX12_layAcross_54 o10 (by decide) rfl ?_
  refine Tj.istore dX12_layAcross_55 (Nat.le_of_ble_eq_true rfl) rfl rfl ?_
  refine Tj.aload_n dX12_layAcross_57 rfl rfl ?_
  refine Tj.gI (j := 21) dX12_layAcross_58 fl_X12_213 sh_145 rfl rfl ?_
  refine Tj.istore dX12_layAcross_61 (Nat.le_of_ble_eq_true rfl) rfl rfl ?_
  refine Tj.aload_n dX12_layAcross_63 rfl rfl ?_
  refine Tj.getR (b := 161) dX12_layAcross_64 fl_X12_55 sh_145 rfl rfl ?_
  refine Tj.iload dX12_layAcross_67 rfl rfl ?_
  refine Tj.iald dX12_layAcross_69 sh_161 o11 o12 rfl ?_
  refine Tj.iconst dX12_layAcross_70 (by decide) rfl ?_
  refine Tj.icmp_ne dX12_layAcross_71 rfl rfl (fun c1 => ?_) (fun c1 => ?_)
  · have h := h.1 c1
    refine Tj.aload_n dX12_layAcross_74 rfl rfl ?_
    refine Tj.getR (b := 162) dX12_layAcross_75 fl_X12_58 sh_145 rfl rfl ?_
    refine Tj.iload dX12_layAcross_78 rfl rfl ?_
    refine Tj.iald dX12_layAcross_80 sh_162 o11 o12 rfl ?_
    refine Tj.iload dX12_layAcross_81 rfl rfl ?_
    refine Tj.icmp_ne dX12_layAcross_83 rfl rfl (fun c2 => ?_) (fun c2 => ?_)
    · have h := h.1 c2
      refine Tj.aload_n dX12_layAcross_86 rfl rfl ?_
      refine Tj.getR (b := 163) dX12_layAcross_87 fl_X12_61 sh_145 rfl rfl ?_
      refine Tj.iload dX12_layAcross_90 rfl rfl ?_
      refine Tj.iald dX12_layAcross_92 sh_163 o11 o12 rfl ?_
      refine Tj.iload dX12_layAcross_93 rfl rfl ?_
      refine Tj.icmp_ne dX12_layAcross_95 rfl rfl (fun c3 => ?_) (fun c3 => ?_)
      · have h := h.1 c3
        refine Tj.aload_n dX12_layAcross_98 rfl rfl ?_
        refine Tj.getR (b := 164) dX12_layAcross_99 fl_X12_64 sh_145 rfl rfl ?_
        refine Tj.iload dX12_layAcross_102 rfl rfl ?_
        refine Tj.iald dX12_layAcross_104 sh_164 o11 o12 rfl ?_
        refine Tj.iload dX12_layAcross_105 rfl rfl ?_
        have hj : Tj mX12_layAcross 115 [] [iV (if (m3 164 (m3 145 21)) = ((((((x2 + (m1 164 x1)) % 4) + 2) - (m3 145 22)) + 4) % 4) then 0 else 2)] m3 P := by
          generalize hv1 : ((if (m3 164 (m3 145 21)) = ((((((x2 + (m1 164 x1)) % 4) + 2) - (m3 145 22)) + 4) % 4) then 0 else 2) : Int) = v1
          have h := h v1 hv1.symm
          exact Tj.iret dX12_layAcross_115 rfl h
        refine Tj.icmp_eq dX12_layAcross_107 rfl rfl (fun c4 => ?_) (fun c4 => ?_)
        · refine Tj.iconst dX12_layAcross_114 (by decide) rfl ?_
          try simp only [if_pos c4] at hj ⊢
          exact Tj.cut hj trivial
        · refine Tj.iconst dX12_layAcross_110 (by decide) rfl ?_
          refine Tj.goto dX12_layAcross_111 rfl ?_
          try simp only [if_neg c4] at hj ⊢
          exact Tj.cut hj trivial
      · have h := h.2 c3
        refine Tj.iconst dX12_layAcross_110 (by decide) rfl ?_
        refine Tj.goto dX12_layAcross_111 rfl ?_
        exact Tj.iret dX12_layAcross_115 rfl h
    · have h := h.2 c2
      refine Tj.iconst dX12_layAcross_110 (by decide) rfl ?_
      refine Tj.goto dX12_layAcross_111 rfl ?_
      exact Tj.iret dX12_layAcross_115 rfl h
  · have h := h.2 c1
    refine Tj.aload_n dX12_layAcross_116 rfl rfl ?_
    refine Tj.getR (b := 161) dX12_layAcross_117 fl_X12_55 sh_145 rfl rfl ?_
    refine Tj.iload dX12_layAcross_120 rfl rfl ?_
    refine Tj.iconst dX12_layAcross_122 (by decide) rfl ?_
    refine Tj.iast dX12_layAcross_123 sh_161 o11 o12 rfl ?_
    refine Tj.aload_n dX12_layAcross_124 rfl rfl ?_
    refine Tj.getR (b := 162) dX12_layAcross_125 fl_X12_58 sh_145 rfl rfl ?_
    refine Tj.iload dX12_layAcross_128 rfl rfl ?_
    refine Tj.iload dX12_layAcross_130 rfl rfl ?_
    refine Tj.iast dX12_layAcross_132 sh_162 o11 o12 rfl ?_
    refine Tj.aload_n dX12_layAcross_133 rfl rfl ?_
    refine Tj.getR (b := 163) dX12_layAcross_134 fl_X12_61 sh_145 rfl rfl ?_
    refine Tj.iload dX12_layAcross_137 rfl rfl ?_
    refine Tj.iload dX12_layAcross_139 rfl rfl ?_
    refine Tj.iast dX12_layAcross_141 sh_163 o11 o12 rfl ?_
    refine Tj.aload_n dX12_layAcross_142 rfl rfl ?_
    refine Tj.getR (b := 164) dX12_layAcross_143 fl_X12_64 sh_145 rfl rfl ?_
    refine Tj.iload dX12_layAcross_146 rfl rfl ?_
    refine Tj.iload dX12_layAcross_148 rfl rfl ?_
    refine Tj.iast dX12_layAcross_150 sh_164 o11 o12 rfl ?_
    refine Tj.iconst dX12_layAcross_151 (by decide) rfl ?_
    exact Tj.iret dX12_layAcross_152 rfl h

theorem wX12_lay_0 {m : tM} {P : Option tV → tM → Prop}   (h : Tj mX12_lay 2 [some (rV 145), some (iV 0)] [] m P) : Tj mX12_lay 0 [some (rV 145)] [] m P := by
  refine Tj.iconst dX12_lay_0 (by decide) rfl ?_
  refine Tj.istore_n dX12_lay_1 (Nat.le_of_ble_eq_true rfl) rfl rfl ?_
  exact Tj.cut h ⟨rfl, ⟨rfl, trivial⟩⟩

theorem wX12_lay_2 {m : tM} {P : Option tV → tM → Prop} {x1 : Int}  (h : (x1 < (m 145 17) → ((0 ≤ x1 ∧ x1 < 384 ∧ R32 (x1 + 1)) ∧ (Tj mX12_lay 2 [some (rV 145), some (iV (x1 + 1))] [] (up m 161 x1 0) P))) ∧ (¬ x1 < (m 145 17) → (Tj mX12_lay 57 [some (rV 145), some (iV 1), some (iV 0), some (iV 1)] [] (up (up (up (up m 161 0 1) 162 0 0) 163 0 0) 164 0 0) P))) : Tj mX12_lay 2 [some (rV 145), some (iV x1)] [] m P := by
  refine Tj.iload_n dX12_lay_2 rfl rfl ?_
  refine Tj.aload_n dX12_lay_3 rfl rfl ?_
  refine Tj.gI (j := 17) dX12_lay_4 fl_X12_195 sh_145 rfl rfl ?_
  refine Tj.icmp_ge dX12_lay_7 rfl rfl (fun c1 => ?_) (fun c1 => ?_)
  · have h := h.1 c1
    obtain ⟨⟨o1, o2, o3⟩, h⟩ := h
    refine Tj.aload_n dX12_lay_10 rfl rfl ?_
    refine Tj.getR (b := 161) dX12_lay_11 fl_X12_55 sh_145 rfl rfl ?_
    refine Tj.iload_n dX12_lay_14 rfl rfl ?_
    refine Tj.iconst dX12_lay_15 (by decide) rfl ?_
    refine Tj.iast dX12_lay_16 sh_161 o1 o2 rfl ?_
    refine Tj.iinc dX12_lay_17 rfl (Nat.le_of_ble_eq_true rfl) rfl o3 rfl ?_
    refine Tj.goto dX12_lay_20 rfl ?_
    exact Tj.cut h ⟨rfl, ⟨rfl, trivial⟩⟩
  · have h := h.2 c1
    refine Tj.aload_n dX12_lay_23 rfl rfl ?_
    refine Tj.getR (b := 161) dX12_lay_24 fl_X12_55 sh_145 rfl rfl ?_
    refine Tj.iconst dX12_lay_27 (by decide) rfl ?_
    refine Tj.iconst dX12_lay_28 (by decide) rfl ?_
    refine Tj.iast dX12_lay_29 sh_161 (by decide) (by decide) rfl ?_
    refine Tj.aload_n dX12_lay_30 rfl rfl ?_
    refine Tj.getR (b := 162) dX12_lay_31 fl_X12_58 sh_145 rfl rfl ?_
    refine Tj.iconst dX12_lay_34 (by decide) rfl ?_
    refine Tj.iconst dX12_lay_35 (by decide) rfl ?_
    refine Tj.iast dX12_lay_36 sh_162 (by decide) (by decide) rfl ?_
    refine Tj.aload_n dX12_lay_37 rfl rfl ?_
    refine Tj.getR (b := 163) dX12_lay_38 fl_X12_61 sh_145 rfl rfl ?_
    refine Tj.iconst dX12_lay_41 (by decide) rfl ?_
    refine Tj.iconst dX12_lay_42 (by decide) rfl ?_
    refine Tj.iast dX12_lay_43 sh_163 (by decide) (by decide) rfl ?_
    refine Tj.aload_n dX12_lay_44 rfl rfl ?_
    refine Tj.getR (b := 164) dX12_lay_45 fl_X12_64 sh_145 rfl rfl ?_
    refine Tj.iconst dX12_lay_48 (by decide) rfl ?_
    refine Tj.iconst dX12_lay_49 (by decide) rfl ?_
    refine Tj.iast dX12_lay_50 sh_164 (by decide) (by decide) rfl ?_
    refine Tj.iconst dX12_lay_51 (by decide) rfl ?_
    refine Tj.istore_n dX12_lay_52 (Nat.le_of_ble_eq_true rfl) rfl rfl ?_
    refine Tj.iconst dX12_lay_53 (by decide) rfl ?_
    refine Tj.istore_n dX12_lay_54 (Nat.le_of_ble_eq_true rfl) rfl rfl ?_
    refine Tj.iconst dX12_lay_55 (by decide) rfl ?_
    refine Tj.istore_n dX12_lay_56 (Nat.le_of_ble_eq_true rfl) rfl rfl ?_
    exact Tj.cut h ⟨rfl, ⟨rfl, ⟨rfl, ⟨rfl, trivial⟩⟩⟩⟩

theorem wX12_lay_57 {m : tM} {P : Option tV → tM → Prop} {x1 : Int} {x2 : Int} {x3 : Int}  (h : (x3 = 0 → ((x1 < (m 145 17) → (P (some (iV 1)) m)) ∧ (¬ x1 < (m 145 17) → ((x2 = 0 → (Tj mX12_lay 188 [some (rV 145), none, none, none, some (iV 0)] [] m P)) ∧ (¬ x2 = 0 → (P (some (iV 2)) m)))))) ∧ (¬ x3 = 0 → (Tj mX12_lay 66 [some (rV 145), some (iV x1), some (iV x2), some (iV 0), some (iV 0)] [] m P))) : Tj mX12_lay 57 [some (rV 145), some (iV x1), some (iV x2), some (iV x3)] [] m P := by
  refine Tj.iload_n dX12_lay_57 rfl rfl ?_
  refine Tj.if_eq dX12_lay_58 rfl rfl (fun c1 => ?_) (fun c1 => ?_)
  · have h := h.1 c1
    refine Tj.iload_n dX12_lay_169 rfl rfl ?_
    refine Tj.aload_n dX12_lay_170 rfl rfl ?_
    refine Tj.gI (j := 17) dX12_lay_171 fl_X12_195 sh_145 rfl rfl ?_
    refine Tj.icmp_ge dX12_lay_174 rfl rfl (fun c2 => ?_) (fun c2 => ?_)
    · have h := h.1 c2
      refine Tj.iconst dX12_lay_177 (by decide) rfl ?_
      exact Tj.iret dX12_lay_178 rfl h
    · have h := h.2 c2
      refine Tj.iload_n dX12_lay_179 rfl rfl ?_
      refine Tj.if_eq dX12_lay_180 rfl rfl (fun c3 => ?_) (fun c3 => ?_)
      · have h := h.1 c3
        refine Tj.iconst dX12_lay_185 (by decide) rfl ?_
        refine Tj.istore dX12_lay_186 (Nat.le_of_ble_eq_true rfl) rfl rfl ?_
        exact Tj.cut h ⟨rfl, ⟨rfl, trivial⟩⟩
      · have h := h.2 c3
        refine Tj.iconst dX12_lay_183 (by decide) rfl ?_
        exact Tj.iret dX12_lay_184 rfl h
  · have h := h.2 c1
    refine Tj.iconst dX12_lay_61 (by decide) rfl ?_
    refine Tj.istore_n dX12_lay_62 (Nat.le_of_ble_eq_true rfl) rfl rfl ?_
    refine Tj.iconst dX12_lay_63 (by decide) rfl ?_
    refine Tj.istore dX12_lay_64 (Nat.le_of_ble_eq_true rfl) rfl rfl ?_
    exact Tj.cut h ⟨rfl, ⟨rfl, ⟨rfl, ⟨rfl, ⟨rfl, trivial⟩⟩⟩⟩⟩

theorem wX12_lay_66 {m : tM} {P : Option tV → tM → Prop} {x1 : Int} {x2 : Int} {x3 : Int} {x4 : Int}  (h : (R32 (4 * (m 145 17))) ∧ ((x4 < (4 * (m 145 17)) → ((0 ≤ x4 ∧ 0 ≤ (x4 / 4) ∧ (x4 / 4) < 384) ∧ (((m 161 (x4 / 4)) = 1 → ((x4 < 1536) ∧ (((m 148 x4) = 0 → (Cli mX12_layAcross [rV 145, iV (x4 / 4), iV (x4 % 4)] m (fun r1 m1 => (∀ v1 : Int, v1 = (if x2 = 0 then (if r1 = 2 then 1 else 0) else 1) → (∀ v2 : Int, v2 = (if r1 = 1 then 1 else 0) → ((R32 (x1 + v2)) ∧ (∀ v3 : Int, v3 = (if x3 = 0 then (if r1 = 1 then 1 else 0) else 1) → ((R32 (x4 + 1)) ∧ (Tj mX12_lay 66 [some (rV 145), some (iV (x1 + v2)), some (iV v1), some (iV v3), some (iV (x4 + 1))] [] m1 P))))))))) ∧ (¬ (m 148 x4) = 0 → ((R32 (x4 + 1)) ∧ (Tj mX12_lay 66 [some (rV 145), some (iV x1), some (iV x2), some (iV x3), some (iV (x4 + 1))] [] m P)))))) ∧ (¬ (m 161 (x4 / 4)) = 1 → ((R32 (x4 + 1)) ∧ (Tj mX12_lay 66 [some (rV 145), some (iV x1), some (iV x2), some (iV x3), some (iV (x4 + 1))] [] m P)))))) ∧ (¬ x4 < (4 * (m 145 17)) → (Tj mX12_lay 57 [some (rV 145), some (iV x1), some (iV x2), some (iV x3)] [] m P)))) : Tj mX12_lay 66 [some (rV 145), some (iV x1), some (iV x2), some (iV x3), some (iV x4)] [] m P := by
  obtain ⟨o1, h⟩ := h
  refine Tj.iload dX12_lay_66 rfl rfl ?_
  refine Tj.iconst dX12_lay_68 (by decide) rfl ?_
  refine Tj.aload_n dX12_lay_69 rfl rfl ?_
  refine Tj.gI (j := 17) dX12_lay_70 fl_X12_195 sh_145 rfl rfl ?_
  refine Tj.imul dX12_lay_73 o1 rfl ?_
  refine Tj.icmp_ge dX12_lay_74 rfl rfl (fun c1 => ?_) (fun c1 => ?_)
  · have h := h.1 c1
    obtain ⟨⟨o2, o3, o4⟩, h⟩ := h
    refine Tj.aload_n dX12_lay_77 rfl rfl ?_
    refine Tj.getR (b := 161) dX12_lay_78 fl_X12_55 sh_145 rfl rfl ?_
    refine Tj.iload dX12_lay_81 rfl rfl ?_
    refine Tj.iconst dX12_lay_83 (by decide) rfl ?_
    refine Tj.idiv dX12_lay_84 o2 (by decide) rfl ?_
    refine Tj.iald dX12_lay_85 sh_161 o3 o4 rfl ?_
    refine Tj.iconst dX12_lay_86 (by decide) rfl ?_
    refine Tj.icmp_ne dX12_lay_87 rfl rfl (fun c2 => ?_) (fun c2 => ?_)
    · have h := h.1 c2
      obtain ⟨o5, h⟩ := h
      refine Tj.aload_n dX12_lay_90 rfl rfl ?_
      refine Tj.getR (b := 148) dX12_lay_91 fl_X12_16 sh_145 rfl rfl ?_
      refine Tj.iload dX12_lay_94 rfl rfl ?_
      refine Tj.iald dX12_lay_96 sh_148 o2 o5 rfl ?_
      refine Tj.if_ne dX12_lay_97 rfl rfl (fun c3 => ?_) (fun c3 => ?_)
      · have h := h.1 c3
        refine Tj.aload_n dX12_lay_100 rfl rfl ?_
        refine Tj.iload dX12_lay_101 rfl rfl ?_
        refine Tj.iconst dX12_lay_103 (by decide) rfl ?_
        refine Tj.idiv dX12_lay_104 o2 (by decide) rfl ?_
        refine Tj.iload dX12_lay_105 rfl rfl ?_
        refine Tj.iconst dX12_lay_107 (by decide) rfl ?_
        refine Tj.irem dX12_lay_108 o2 (by decide) rfl ?_
        refine Tj.callVi (as := [_, _]) (rest := []) dX12_lay_109 ln_X12_236 sh_145 (by decide) rfl rfl (Nat.le_of_ble_eq_true rfl) ⟨Nat.le_of_ble_eq_true rfl, Nat.le_of_ble_eq_true rfl⟩ (Nat.le_of_ble_eq_true rfl) rfl ?_
        refine Cli.mono h (fun r1 m1 h => ?_)
        refine Tj.istore dX12_lay_112 (Nat.le_of_ble_eq_true rfl) rfl rfl ?_
        refine Tj.iload_n dX12_lay_114 rfl rfl ?_
        have hj : Tj mX12_lay 129 [some (rV 145), some (iV x1), none, some (iV x3), some (iV x4), some (iV r1)] [iV (if x2 = 0 then (if r1 = 2 then 1 else 0) else 1)] m1 P := by
          generalize hv1 : ((if x2 = 0 then (if r1 = 2 then 1 else 0) else 1) : Int) = v1
          have h := h v1 hv1.symm
          refine Tj.istore_n dX12_lay_129 (Nat.le_of_ble_eq_true rfl) rfl rfl ?_
          refine Tj.iload_n dX12_lay_130 rfl rfl ?_
          refine Tj.iload dX12_lay_131 rfl rfl ?_
          refine Tj.iconst dX12_lay_133 (by decide) rfl ?_
          have hj : Tj mX12_lay 142 [some (rV 145), none, some (iV v1), some (iV x3), some (iV x4), some (iV r1)] [iV (if r1 = 1 then 1 else 0), iV x1] m1 P := by
            generalize hv2 : ((if r1 = 1 then 1 else 0) : Int) = v2
            have h := h v2 hv2.symm
            obtain ⟨o6, h⟩ := h
            refine Tj.iadd dX12_lay_142 o6 rfl ?_
            refine Tj.istore_n dX12_lay_143 (Nat.le_of_ble_eq_true rfl) rfl rfl ?_
            refine Tj.iload_n dX12_lay_144 rfl rfl ?_
            have hj : Tj mX12_lay 159 [some (rV 145), some (iV (x1 + v2)), some (iV v1), none, some (iV x4)] [iV (if x3 = 0 then (if r1 = 1 then 1 else 0) else 1)] m1 P := by
              generalize hv3 : ((if x3 = 0 then (if r1 = 1 then 1 else 0) else 1) : Int) = v3
              have h := h v3 hv3.symm
              obtain ⟨o7, h⟩ := h
              refine Tj.istore_n dX12_lay_159 (Nat.le_of_ble_eq_true rfl) rfl rfl ?_
              refine Tj.iinc dX12_lay_160 rfl (Nat.le_of_ble_eq_true rfl) rfl o7 rfl ?_
              refine Tj.goto dX12_lay_163 rfl ?_
              exact Tj.cut h ⟨rfl, ⟨rfl, ⟨rfl, ⟨rfl, ⟨rfl, trivial⟩⟩⟩⟩⟩
            refine Tj.if_ne dX12_lay_145 rfl rfl (fun c7 => ?_) (fun c7 => ?_)
            · refine Tj.iload dX12_lay_148 rfl rfl ?_
              refine Tj.iconst dX12_lay_150 (by decide) rfl ?_
              refine Tj.icmp_ne dX12_lay_151 rfl rfl (fun c8 => ?_) (fun c8 => ?_)
              · refine Tj.iconst dX12_lay_154 (by decide) rfl ?_
                refine Tj.goto dX12_lay_155 rfl ?_
                try simp only [if_pos c7, if_pos c8] at hj ⊢
                exact Tj.cut hj ⟨rfl, ⟨rfl, ⟨rfl, ⟨rfl, trivial⟩⟩⟩⟩
              · refine Tj.iconst dX12_lay_158 (by decide) rfl ?_
                try simp only [if_pos c7, if_neg c8] at hj ⊢
                exact Tj.cut hj ⟨rfl, ⟨rfl, ⟨rfl, ⟨rfl, trivial⟩⟩⟩⟩
            · refine Tj.iconst dX12_lay_154 (by decide) rfl ?_
              refine Tj.goto dX12_lay_155 rfl ?_
              try simp only [if_neg c7] at hj ⊢
              exact Tj.cut hj ⟨rfl, ⟨rfl, ⟨rfl, ⟨rfl, trivial⟩⟩⟩⟩
          refine Tj.icmp_ne dX12_lay_134 rfl rfl (fun c6 => ?_) (fun c6 => ?_)
          · refine Tj.iconst dX12_lay_137 (by decide) rfl ?_
            refine Tj.goto dX12_lay_138 rfl ?_
            try simp only [if_pos c6] at hj ⊢
            exact Tj.cut hj ⟨rfl, ⟨rfl, ⟨rfl, ⟨rfl, ⟨rfl, trivial⟩⟩⟩⟩⟩
          · refine Tj.iconst dX12_lay_141 (by decide) rfl ?_
            try simp only [if_neg c6] at hj ⊢
            exact Tj.cut hj ⟨rfl, ⟨rfl, ⟨rfl, ⟨rfl, ⟨rfl, trivial⟩⟩⟩⟩⟩
        refine Tj.if_ne dX12_lay_115 rfl rfl (fun c4 => ?_) (fun c4 => ?_)
        · refine Tj.iload dX12_lay_118 rfl rfl ?_
          refine Tj.iconst dX12_lay_120 (by decide) rfl ?_
          refine Tj.icmp_ne dX12_lay_121 rfl rfl (fun c5 => ?_) (fun c5 => ?_)
          · refine Tj.iconst dX12_lay_124 (by decide) rfl ?_
            refine Tj.goto dX12_lay_125 rfl ?_
            try simp only [if_pos c4, if_pos c5] at hj ⊢
            exact Tj.cut hj ⟨rfl, ⟨rfl, ⟨rfl, ⟨rfl, ⟨rfl, trivial⟩⟩⟩⟩⟩
          · refine Tj.iconst dX12_lay_128 (by decide) rfl ?_
            try simp only [if_pos c4, if_neg c5] at hj ⊢
            exact Tj.cut hj ⟨rfl, ⟨rfl, ⟨rfl, ⟨rfl, ⟨rfl, trivial⟩⟩⟩⟩⟩
        · refine Tj.iconst dX12_lay_124 (by decide) rfl ?_
          refine Tj.goto dX12_lay_125 rfl ?_
          try simp only [if_neg c4] at hj ⊢
          exact Tj.cut hj ⟨rfl, ⟨rfl, ⟨rfl, ⟨rfl, ⟨rfl, trivial⟩⟩⟩⟩⟩
      · have h := h.2 c3
        obtain ⟨o8, h⟩ := h
        refine Tj.iinc dX12_lay_160 rfl (Nat.le_of_ble_eq_true rfl) rfl o8 rfl ?_
        refine Tj.goto dX12_lay_163 rfl ?_
        exact Tj.cut h ⟨rfl, ⟨rfl, ⟨rfl, ⟨rfl, ⟨rfl, trivial⟩⟩⟩⟩⟩
    · have h := h.2 c2
      obtain ⟨o9, h⟩ := h
      refine Tj.iinc dX12_lay_160 rfl (Nat.le_of_ble_eq_true rfl) rfl o9 rfl ?_
      refine Tj.goto dX12_lay_163 rfl ?_
      exact Tj.cut h ⟨rfl, ⟨rfl, ⟨rfl, ⟨rfl, ⟨rfl, trivial⟩⟩⟩⟩⟩
  · have h := h.2 c1
    refine Tj.goto dX12_lay_166 rfl ?_
    exact Tj.cut h ⟨rfl, ⟨rfl, ⟨rfl, ⟨rfl, trivial⟩⟩⟩⟩

theorem wX12_lay_188 {m : tM} {P : Option tV → tM → Prop} {x4 : Int}  (h : (x4 < (m 145 17) → (Tj mX12_lay 200 [some (rV 145), none, none, none, some (iV x4), some (iV 0)] [] m P)) ∧ (¬ x4 < (m 145 17) → (P (some (iV 0)) m))) : Tj mX12_lay 188 [some (rV 145), none, none, none, some (iV x4)] [] m P := by
  refine Tj.iload dX12_lay_188 rfl rfl ?_
  refine Tj.aload_n dX12_lay_190 rfl rfl ?_
  refine Tj.gI (j := 17) dX12_lay_191 fl_X12_195 sh_145 rfl rfl ?_
  refine Tj.icmp_ge dX12_lay_194 rfl rfl (fun c1 => ?_) (fun c1 => ?_)
  · have h := h.1 c1
    refine Tj.iconst dX12_lay_197 (by decide) rfl ?_
    refine Tj.istore dX12_lay_198 (Nat.le_of_ble_eq_true rfl) rfl rfl ?_
    exact Tj.cut h ⟨rfl, ⟨rfl, ⟨rfl, trivial⟩⟩⟩
  · have h := h.2 c1
    refine Tj.iconst dX12_lay_255 (by decide) rfl ?_
    exact Tj.iret dX12_lay_256 rfl h

theorem wX12_lay_200 {m : tM} {P : Option tV → tM → Prop} {x4 : Int} {x5 : Int}  (h : (x5 < x4 → ((0 ≤ x4 ∧ x4 < 384 ∧ 0 ≤ x5 ∧ x5 < 384) ∧ (((m 162 x4) = (m 162 x5) → (((m 163 x4) = (m 163 x5) → (P (some (iV 3)) m)) ∧ (¬ (m 163 x4) = (m 163 x5) → ((R32 (x5 + 1)) ∧ (Tj mX12_lay 200 [some (rV 145), none, none, none, some (iV x4), some (iV (x5 + 1))] [] m P))))) ∧ (¬ (m 162 x4) = (m 162 x5) → ((R32 (x5 + 1)) ∧ (Tj mX12_lay 200 [some (rV 145), none, none, none, some (iV x4), some (iV (x5 + 1))] [] m P)))))) ∧ (¬ x5 < x4 → ((R32 (x4 + 1)) ∧ (Tj mX12_lay 188 [some (rV 145), none, none, none, some (iV (x4 + 1))] [] m P)))) : Tj mX12_lay 200 [some (rV 145), none, none, none, some (iV x4), some (iV x5)] [] m P := by
  refine Tj.iload dX12_lay_200 rfl rfl ?_
  refine Tj.iload dX12_lay_202 rfl rfl ?_
  refine Tj.icmp_ge dX12_lay_204 rfl rfl (fun c1 => ?_) (fun c1 => ?_)
  · have h := h.1 c1
    obtain ⟨⟨o1, o2, o3, o4⟩, h⟩ := h
    refine Tj.aload_n dX12_lay_207 rfl rfl ?_
    refine Tj.getR (b := 162) dX12_lay_208 fl_X12_58 sh_145 rfl rfl ?_
    refine Tj.iload dX12_lay_211 rfl rfl ?_
    refine Tj.iald dX12_lay_213 sh_162 o1 o2 rfl ?_
    refine Tj.aload_n dX12_lay_214 rfl rfl ?_
    refine Tj.getR (b := 162) dX12_lay_215 fl_X12_58 sh_145 rfl rfl ?_
    refine Tj.iload dX12_lay_218 rfl rfl ?_
    refine Tj.iald dX12_lay_220 sh_162 o3 o4 rfl ?_
    refine Tj.icmp_ne dX12_lay_221 rfl rfl (fun c2 => ?_) (fun c2 => ?_)
    · have h := h.1 c2
      refine Tj.aload_n dX12_lay_224 rfl rfl ?_
      refine Tj.getR (b := 163) dX12_lay_225 fl_X12_61 sh_145 rfl rfl ?_
      refine Tj.iload dX12_lay_228 rfl rfl ?_
      refine Tj.iald dX12_lay_230 sh_163 o1 o2 rfl ?_
      refine Tj.aload_n dX12_lay_231 rfl rfl ?_
      refine Tj.getR (b := 163) dX12_lay_232 fl_X12_61 sh_145 rfl rfl ?_
      refine Tj.iload dX12_lay_235 rfl rfl ?_
      refine Tj.iald dX12_lay_237 sh_163 o3 o4 rfl ?_
      refine Tj.icmp_ne dX12_lay_238 rfl rfl (fun c3 => ?_) (fun c3 => ?_)
      · have h := h.1 c3
        refine Tj.iconst dX12_lay_241 (by decide) rfl ?_
        exact Tj.iret dX12_lay_242 rfl h
      · have h := h.2 c3
        obtain ⟨o5, h⟩ := h
        refine Tj.iinc dX12_lay_243 rfl (Nat.le_of_ble_eq_true rfl) rfl o5 rfl ?_
        refine Tj.goto dX12_lay_246 rfl ?_
        exact Tj.cut h ⟨rfl, ⟨rfl, ⟨rfl, trivial⟩⟩⟩
    · have h := h.2 c2
      obtain ⟨o6, h⟩ := h
      refine Tj.iinc dX12_lay_243 rfl (Nat.le_of_ble_eq_true rfl) rfl o6 rfl ?_
      refine Tj.goto dX12_lay_246 rfl ?_
      exact Tj.cut h ⟨rfl, ⟨rfl, ⟨rfl, trivial⟩⟩⟩
  · have h := h.2 c1
    obtain ⟨o7, h⟩ := h
    refine Tj.iinc dX12_lay_249 rfl (Nat.le_of_ble_eq_true rfl) rfl o7 rfl ?_
    refine Tj.goto dX12_lay_252 rfl ?_
    exact Tj.cut h ⟨rfl, ⟨rfl, trivial⟩⟩

theorem wX12_open_0 {m : tM} {P : Option tV → tM → Prop}   (h : Cli mX12_wellOf [rV 145] (up m 145 0 0) (fun r1 m1 => ((r1 = 0 → (Clv mX12_findSkin [rV 145] m1 (fun m2 => ((60 < (m2 145 17) → (P (some (iV (-5))) m2)) ∧ (¬ 60 < (m2 145 17) → (Cli mX12_lay [rV 145] m2 (fun r2 m3 => ((r2 = 0 → (Tj mX12_open 47 [some (rV 145), none, some (iV 0)] [] m3 P)) ∧ (¬ r2 = 0 → ((R32 ((-20) - r2)) ∧ (P (some (iV ((-20) - r2))) m3))))))))))) ∧ (¬ r1 = 0 → (P (some (iV (-4))) m1))))) : Tj mX12_open 0 [some (rV 145)] [] m P := by
  refine Tj.aload_n dX12_open_0 rfl rfl ?_
  refine Tj.iconst dX12_open_1 (by decide) rfl ?_
  refine Tj.pI (j := 0) dX12_open_2 fp_X12_113 sh_145 rfl rfl ?_
  refine Tj.aload_n dX12_open_5 rfl rfl ?_
  refine Tj.callVi (as := []) (rest := []) dX12_open_6 ln_X12_182 sh_145 (by decide) rfl rfl (Nat.le_of_ble_eq_true rfl) ⟨Nat.le_of_ble_eq_true rfl, Nat.le_of_ble_eq_true rfl⟩ (Nat.le_of_ble_eq_true rfl) rfl ?_
  refine Cli.mono h (fun r1 m1 h => ?_)
  refine Tj.if_eq dX12_open_9 rfl rfl (fun c1 => ?_) (fun c1 => ?_)
  · have h := h.1 c1
    refine Tj.aload_n dX12_open_15 rfl rfl ?_
    refine Tj.callVv (as := []) (rest := []) dX12_open_16 ln_X12_223 sh_145 (by decide) rfl rfl (Nat.le_of_ble_eq_true rfl) ⟨Nat.le_of_ble_eq_true rfl, Nat.le_of_ble_eq_true rfl⟩ (Nat.le_of_ble_eq_true rfl) rfl ?_
    refine Clv.mono h (fun m2 h => ?_)
    refine Tj.aload_n dX12_open_19 rfl rfl ?_
    refine Tj.gI (j := 17) dX12_open_20 fl_X12_195 sh_145 rfl rfl ?_
    refine Tj.bipush dX12_open_23 (by decide) (by decide +kernel) rfl ?_
    refine Tj.icmp_le dX12_open_25 rfl rfl (fun c2 => ?_) (fun c2 => ?_)
    · have h := h.1 c2
      refine Tj.bipush dX12_open_28 (by decide) (by decide +kernel) rfl ?_
      exact Tj.iret dX12_open_30 rfl h
    · have h := h.2 c2
      refine Tj.aload_n dX12_open_31 rfl rfl ?_
      refine Tj.callVi (as := []) (rest := []) dX12_open_32 ln_X12_239 sh_145 (by decide) rfl rfl (Nat.le_of_ble_eq_true rfl) ⟨Nat.le_of_ble_eq_true rfl, Nat.le_of_ble_eq_true rfl⟩ (Nat.le_of_ble_eq_true rfl) rfl ?_
      refine Cli.mono h (fun r2 m3 h => ?_)
      refine Tj.istore_n dX12_open_35 (Nat.le_of_ble_eq_true rfl) rfl rfl ?_
      refine Tj.iload_n dX12_open_36 rfl rfl ?_
      refine Tj.if_eq dX12_open_37 rfl rfl (fun c3 => ?_) (fun c3 => ?_)
      · have h := h.1 c3
        refine Tj.iconst dX12_open_45 (by decide) rfl ?_
        refine Tj.istore_n dX12_open_46 (Nat.le_of_ble_eq_true rfl) rfl rfl ?_
        exact Tj.cut h ⟨rfl, ⟨rfl, trivial⟩⟩
      · have h := h.2 c3
        obtain ⟨o1, h⟩ := h
        refine Tj.bipush dX12_open_40 (by decide) (by decide +kernel) rfl ?_
        refine Tj.iload_n dX12_open_42 rfl rfl ?_
        refine Tj.isub dX12_open_43 o1 rfl ?_
        exact Tj.iret dX12_open_44 rfl h
  · have h := h.2 c1
    refine Tj.bipush dX12_open_12 (by decide) (by decide +kernel) rfl ?_
    exact Tj.iret dX12_open_14 rfl h

theorem wX12_open_47 {m : tM} {P : Option tV → tM → Prop} {x2 : Int}  (h : (x2 < (m 145 17) → ((0 ≤ x2 ∧ x2 < 384) ∧ (Cli mX12_in [iV (m 162 x2), iV (-30), iV 30] m (fun r1 m1 => ((r1 = 0 → (P (some (iV (-3))) m1)) ∧ (¬ r1 = 0 → (Cli mX12_in [iV (m1 163 x2), iV (-30), iV 30] m1 (fun r2 m2 => ((r2 = 0 → (P (some (iV (-3))) m2)) ∧ (¬ r2 = 0 → ((R32 (x2 + 1)) ∧ (Tj mX12_open 47 [some (rV 145), none, some (iV (x2 + 1))] [] m2 P)))))))))))) ∧ (¬ x2 < (m 145 17) → (Clv mX12_keep [rV 145] m (fun m3 => (Tj mX12_open 110 [some (rV 145), none, some (iV 0)] [] (up m3 145 4 (m3 145 17)) P))))) : Tj mX12_open 47 [some (rV 145), none, some (iV x2)] [] m P := by
  refine Tj.iload_n dX12_open_47 rfl rfl ?_
  refine Tj.aload_n dX12_open_48 rfl rfl ?_
  refine Tj.gI (j := 17) dX12_open_49 fl_X12_195 sh_145 rfl rfl ?_
  refine Tj.icmp_ge dX12_open_52 rfl rfl (fun c1 => ?_) (fun c1 => ?_)
  · have h := h.1 c1
    obtain ⟨⟨o1, o2⟩, h⟩ := h
    refine Tj.aload_n dX12_open_55 rfl rfl ?_
    refine Tj.getR (b := 162) dX12_open_56 fl_X12_58 sh_145 rfl rfl ?_
    refine Tj.iload_n dX12_open_59 rfl rfl ?_
    refine Tj.iald dX12_open_60 sh_162 o1 o2 rfl ?_
    refine Tj.bipush dX12_open_61 (by decide) (by decide +kernel) rfl ?_
    refine Tj.bipush dX12_open_63 (by decide) (by decide +kernel) rfl ?_
    refine Tj.callSi (as := [_, _, _]) (rest := []) dX12_open_65 ln_X12_139 rfl rfl (Nat.le_of_ble_eq_true rfl) ⟨Nat.le_of_ble_eq_true rfl, Nat.le_of_ble_eq_true rfl⟩ (Nat.le_of_ble_eq_true rfl) rfl ?_
    refine Cli.mono h (fun r1 m1 h => ?_)
    refine Tj.if_eq dX12_open_68 rfl rfl (fun c2 => ?_) (fun c2 => ?_)
    · have h := h.1 c2
      refine Tj.bipush dX12_open_87 (by decide) (by decide +kernel) rfl ?_
      exact Tj.iret dX12_open_89 rfl h
    · have h := h.2 c2
      refine Tj.aload_n dX12_open_71 rfl rfl ?_
      refine Tj.getR (b := 163) dX12_open_72 fl_X12_61 sh_145 rfl rfl ?_
      refine Tj.iload_n dX12_open_75 rfl rfl ?_
      refine Tj.iald dX12_open_76 sh_163 o1 o2 rfl ?_
      refine Tj.bipush dX12_open_77 (by decide) (by decide +kernel) rfl ?_
      refine Tj.bipush dX12_open_79 (by decide) (by decide +kernel) rfl ?_
      refine Tj.callSi (as := [_, _, _]) (rest := []) dX12_open_81 ln_X12_139 rfl rfl (Nat.le_of_ble_eq_true rfl) ⟨Nat.le_of_ble_eq_true rfl, Nat.le_of_ble_eq_true rfl⟩ (Nat.le_of_ble_eq_true rfl) rfl ?_
      refine Cli.mono h (fun r2 m2 h => ?_)
      refine Tj.if_ne dX12_open_84 rfl rfl (fun c3 => ?_) (fun c3 => ?_)
      · have h := h.1 c3
        refine Tj.bipush dX12_open_87 (by decide) (by decide +kernel) rfl ?_
        exact Tj.iret dX12_open_89 rfl h
      · have h := h.2 c3
        obtain ⟨o3, h⟩ := h
        refine Tj.iinc dX12_open_90 rfl (Nat.le_of_ble_eq_true rfl) rfl o3 rfl ?_
        refine Tj.goto dX12_open_93 rfl ?_
        exact Tj.cut h ⟨rfl, ⟨rfl, trivial⟩⟩
  · have h := h.2 c1
    refine Tj.aload_n dX12_open_96 rfl rfl ?_
    refine Tj.callVv (as := []) (rest := []) dX12_open_97 ln_X12_136 sh_145 (by decide) rfl rfl (Nat.le_of_ble_eq_true rfl) ⟨Nat.le_of_ble_eq_true rfl, Nat.le_of_ble_eq_true rfl⟩ (Nat.le_of_ble_eq_true rfl) rfl ?_
    refine Clv.mono h (fun m3 h => ?_)
    refine Tj.aload_n dX12_open_100 rfl rfl ?_
    refine Tj.aload_n dX12_open_101 rfl rfl ?_
    refine Tj.gI (j := 17) dX12_open_102 fl_X12_195 sh_145 rfl rfl ?_
    refine Tj.pI (j := 4) dX12_open_105 fp_X12_127 sh_145 rfl rfl ?_
    refine Tj.iconst dX12_open_108 (by decide) rfl ?_
    refine Tj.istore_n dX12_open_109 (Nat.le_of_ble_eq_true rfl) rfl rfl ?_
    exact Tj.cut h ⟨rfl, ⟨rfl, trivial⟩⟩

theorem wX12_open_110 {m : tM} {P : Option tV → tM → Prop} {x2 : Int}  (h : (x2 < (m 145 17) → ((0 ≤ x2 ∧ x2 < 384 ∧ x2 < 60) ∧ (Tj mX12_open 158 [some (rV 145), none, some (iV x2), some (iV 0)] [] (up (up (up (up m 149 x2 (m 162 x2)) 150 x2 (m 163 x2)) 151 x2 0) 152 x2 0) P))) ∧ (¬ x2 < (m 145 17) → (Clv mX12_sort [rV 145] m (fun m1 => (Cli mX12_creases [rV 145] m1 (fun r1 m2 => (P (some (iV r1)) m2))))))) : Tj mX12_open 110 [some (rV 145), none, some (iV x2)] [] m P := by
  refine Tj.iload_n dX12_open_110 rfl rfl ?_
  refine Tj.aload_n dX12_open_111 rfl rfl ?_
  refine Tj.gI (j := 17) dX12_open_112 fl_X12_195 sh_145 rfl rfl ?_
  refine Tj.icmp_ge dX12_open_115 rfl rfl (fun c1 => ?_) (fun c1 => ?_)
  · have h := h.1 c1
    obtain ⟨⟨o1, o2, o3⟩, h⟩ := h
    refine Tj.aload_n dX12_open_118 rfl rfl ?_
    refine Tj.getR (b := 149) dX12_open_119 fl_X12_19 sh_145 rfl rfl ?_
    refine Tj.iload_n dX12_open_122 rfl rfl ?_
    refine Tj.aload_n dX12_open_123 rfl rfl ?_
    refine Tj.getR (b := 162) dX12_open_124 fl_X12_58 sh_145 rfl rfl ?_
    refine Tj.iload_n dX12_open_127 rfl rfl ?_
    refine Tj.iald dX12_open_128 sh_162 o1 o2 rfl ?_
    refine Tj.iast dX12_open_129 sh_149 o1 o3 rfl ?_
    refine Tj.aload_n dX12_open_130 rfl rfl ?_
    refine Tj.getR (b := 150) dX12_open_131 fl_X12_22 sh_145 rfl rfl ?_
    refine Tj.iload_n dX12_open_134 rfl rfl ?_
    refine Tj.aload_n dX12_open_135 rfl rfl ?_
    refine Tj.getR (b := 163) dX12_open_136 fl_X12_61 sh_145 rfl rfl ?_
    refine Tj.iload_n dX12_open_139 rfl rfl ?_
    refine Tj.iald dX12_open_140 sh_163 o1 o2 rfl ?_
    refine Tj.iast dX12_open_141 sh_150 o1 o3 rfl ?_
    refine Tj.aload_n dX12_open_142 rfl rfl ?_
    refine Tj.getR (b := 151) dX12_open_143 fl_X12_25 sh_145 rfl rfl ?_
    refine Tj.iload_n dX12_open_146 rfl rfl ?_
    refine Tj.iconst dX12_open_147 (by decide) rfl ?_
    refine Tj.iast dX12_open_148 sh_151 o1 o3 rfl ?_
    refine Tj.aload_n dX12_open_149 rfl rfl ?_
    refine Tj.getR (b := 152) dX12_open_150 fl_X12_28 sh_145 rfl rfl ?_
    refine Tj.iload_n dX12_open_153 rfl rfl ?_
    refine Tj.iconst dX12_open_154 (by decide) rfl ?_
    refine Tj.iast dX12_open_155 sh_152 o1 o3 rfl ?_
    refine Tj.iconst dX12_open_156 (by decide) rfl ?_
    refine Tj.istore_n dX12_open_157 (Nat.le_of_ble_eq_true rfl) rfl rfl ?_
    exact Tj.cut h ⟨rfl, ⟨rfl, ⟨rfl, trivial⟩⟩⟩
  · have h := h.2 c1
    refine Tj.aload_n dX12_open_265 rfl rfl ?_
    refine Tj.callVv (as := []) (rest := []) dX12_open_266 ln_X12_242 sh_145 (by decide) rfl rfl (Nat.le_of_ble_eq_true rfl) ⟨Nat.le_of_ble_eq_true rfl, Nat.le_of_ble_eq_true rfl⟩ (Nat.le_of_ble_eq_true rfl) rfl ?_
    refine Clv.mono h (fun m1 h => ?_)
    refine Tj.aload_n dX12_open_269 rfl rfl ?_
    refine Tj.callVi (as := []) (rest := []) dX12_open_270 ln_X12_245 sh_145 (by decide) rfl rfl (Nat.le_of_ble_eq_true rfl) ⟨Nat.le_of_ble_eq_true rfl, Nat.le_of_ble_eq_true rfl⟩ (Nat.le_of_ble_eq_true rfl) rfl ?_
    refine Cli.mono h (fun r1 m2 h => ?_)
    exact Tj.iret dX12_open_273 rfl h

theorem wX12_open_158 {m : tM} {P : Option tV → tM → Prop} {x2 : Int} {x3 : Int}  (h : (x3 < 4 → ((0 ≤ x2 ∧ x2 < 384 ∧ R32 (x3 + (m 164 x2)) ∧ 0 ≤ (x3 + (m 164 x2)) ∧ R32 (4 * x2) ∧ R32 ((4 * x2) + x3) ∧ 0 ≤ ((4 * x2) + x3) ∧ ((4 * x2) + x3) < 1536) ∧ (((m 148 ((4 * x2) + x3)) = 0 → ((((x3 + (m 164 x2)) % 4) < 2 → (Clv mX12_findAcross [rV 145, iV x2, iV x3] m (fun m1 => ((((x3 + (m 164 x2)) % 4) = 0 → ((R32 (2 + (m1 145 23)) ∧ x2 < 60) ∧ ((((x3 + (m 164 x2)) % 4) = 1 → ((R32 (x3 + 1)) ∧ (Tj mX12_open 158 [some (rV 145), none, some (iV x2), some (iV (x3 + 1))] [] (up (up m1 151 x2 (2 + (m1 145 23))) 152 x2 (2 + (m1 145 23))) P))) ∧ (¬ ((x3 + (m 164 x2)) % 4) = 1 → ((R32 (x3 + 1)) ∧ (Tj mX12_open 158 [some (rV 145), none, some (iV x2), some (iV (x3 + 1))] [] (up (up m1 151 x2 (2 + (m1 145 23))) 152 x2 (m1 152 x2)) P)))))) ∧ (¬ ((x3 + (m 164 x2)) % 4) = 0 → ((x2 < 60) ∧ ((((x3 + (m 164 x2)) % 4) = 1 → ((R32 (2 + (m1 145 23)) ∧ R32 (x3 + 1)) ∧ (Tj mX12_open 158 [some (rV 145), none, some (iV x2), some (iV (x3 + 1))] [] (up (up m1 151 x2 (m1 151 x2)) 152 x2 (2 + (m1 145 23))) P))) ∧ (¬ ((x3 + (m 164 x2)) % 4) = 1 → ((R32 (x3 + 1)) ∧ (Tj mX12_open 158 [some (rV 145), none, some (iV x2), some (iV (x3 + 1))] [] (up (up m1 151 x2 (m1 151 x2)) 152 x2 (m1 152 x2)) P)))))))))) ∧ (¬ ((x3 + (m 164 x2)) % 4) < 2 → ((R32 (x3 + 1)) ∧ (Tj mX12_open 158 [some (rV 145), none, some (iV x2), some (iV (x3 + 1))] [] m P))))) ∧ (¬ (m 148 ((4 * x2) + x3)) = 0 → ((R32 (x3 + 1)) ∧ (Tj mX12_open 158 [some (rV 145), none, some (iV x2), some (iV (x3 + 1))] [] m P)))))) ∧ (¬ x3 < 4 → ((R32 (x2 + 1)) ∧ (Tj mX12_open 110 [some (rV 145), none, some (iV (x2 + 1))] [] m P)))) : Tj mX12_open 158 [some (rV 145), none, some (iV x2), some (iV x3)] [] m P := by
  refine Tj.iload_n dX12_open_158 rfl rfl ?_
  refine Tj.iconst dX12_open_159 (by decide) rfl ?_
  refine Tj.icmp_ge dX12_open_160 rfl rfl (fun c1 => ?_) (fun c1 => ?_)
  · have h := h.1 c1
    obtain ⟨⟨o1, o2, o3, o4, o5, o6, o7, o8⟩, h⟩ := h
    refine Tj.iload_n dX12_open_163 rfl rfl ?_
    refine Tj.aload_n dX12_open_164 rfl rfl ?_
    refine Tj.getR (b := 164) dX12_open_165 fl_X12_64 sh_145 rfl rfl ?_
    refine Tj.iload_n dX12_open_168 rfl rfl ?_
    refine Tj.iald dX12_open_169 sh_164 o1 o2 rfl ?_
    refine Tj.iadd dX12_open_170 o3 rfl ?_
    refine Tj.iconst dX12_open_171 (by decide) rfl ?_
    refine Tj.irem dX12_open_172 o4 (by decide) rfl ?_
    refine Tj.istore dX12_open_173 (Nat.le_of_ble_eq_true rfl) rfl rfl ?_
    refine Tj.aload_n dX12_open_175 rfl rfl ?_
    refine Tj.getR (b := 148) dX12_open_176 fl_X12_16 sh_145 rfl rfl ?_
    refine Tj.iconst dX12_open_179 (by decide) rfl ?_
    refine Tj.iload_n dX12_open_180 rfl rfl ?_
    refine Tj.imul dX12_open_181 o5 rfl ?_
    refine Tj.iload_n dX12_open_182 rfl rfl ?_
    refine Tj.iadd dX12_open_183 o6 rfl ?_
    refine Tj.iald dX12_open_184 sh_148 o7 o8 rfl ?_
    refine Tj.if_ne dX12_open_185 rfl rfl (fun c2 => ?_) (fun c2 => ?_)
    · have h := h.1 c2
      refine Tj.iload dX12_open_188 rfl rfl ?_
      refine Tj.iconst dX12_open_190 (by decide) rfl ?_
      refine Tj.icmp_ge dX12_open_191 rfl rfl (fun c3 => ?_) (fun c3 => ?_)
      · have h := h.1 c3
        refine Tj.aload_n dX12_open_194 rfl rfl ?_
        refine Tj.iload_n dX12_open_195 rfl rfl ?_
        refine Tj.iload_n dX12_open_196 rfl rfl ?_
        refine Tj.callVv (as := [_, _]) (rest := []) dX12_open_197 ln_X12_226 sh_145 (by decide) rfl rfl (Nat.le_of_ble_eq_true rfl) ⟨Nat.le_of_ble_eq_true rfl, Nat.le_of_ble_eq_true rfl⟩ (Nat.le_of_ble_eq_true rfl) rfl ?_
        refine Clv.mono h (fun m1 h => ?_)
        refine Tj.aload_n dX12_open_200 rfl rfl ?_
        refine Tj.getR (b := 151) dX12_open_201 fl_X12_25 sh_145 rfl rfl ?_
        refine Tj.iload_n dX12_open_204 rfl rfl ?_
        refine Tj.iload dX12_open_205 rfl rfl ?_
        refine Tj.if_ne dX12_open_207 rfl rfl (fun c4 => ?_) (fun c4 => ?_)
        · have h := h.1 c4
          obtain ⟨⟨o9, o10⟩, h⟩ := h
          refine Tj.iconst dX12_open_210 (by decide) rfl ?_
          refine Tj.aload_n dX12_open_211 rfl rfl ?_
          refine Tj.gI (j := 23) dX12_open_212 fl_X12_204 sh_145 rfl rfl ?_
          refine Tj.iadd dX12_open_215 o9 rfl ?_
          refine Tj.goto dX12_open_216 rfl ?_
          refine Tj.iast dX12_open_225 sh_151 o1 o10 rfl ?_
          refine Tj.aload_n dX12_open_226 rfl rfl ?_
          refine Tj.getR (b := 152) dX12_open_227 fl_X12_28 sh_145 rfl rfl ?_
          refine Tj.iload_n dX12_open_230 rfl rfl ?_
          refine Tj.iload dX12_open_231 rfl rfl ?_
          refine Tj.iconst dX12_open_233 (by decide) rfl ?_
          refine Tj.icmp_ne dX12_open_234 rfl rfl (fun c5 => ?_) (fun c5 => ?_)
          · have h := h.1 c5
            obtain ⟨o11, h⟩ := h
            refine Tj.iconst dX12_open_237 (by decide) rfl ?_
            refine Tj.aload_n dX12_open_238 rfl rfl ?_
            refine Tj.gI (j := 23) dX12_open_239 fl_X12_204 sh_145 rfl rfl ?_
            refine Tj.iadd dX12_open_242 o9 rfl ?_
            refine Tj.goto dX12_open_243 rfl ?_
            refine Tj.iast dX12_open_252 sh_152 o1 o10 rfl ?_
            refine Tj.iinc dX12_open_253 rfl (Nat.le_of_ble_eq_true rfl) rfl o11 rfl ?_
            refine Tj.goto dX12_open_256 rfl ?_
            exact Tj.cut h ⟨rfl, ⟨rfl, ⟨rfl, trivial⟩⟩⟩
          · have h := h.2 c5
            obtain ⟨o12, h⟩ := h
            refine Tj.aload_n dX12_open_246 rfl rfl ?_
            refine Tj.getR (b := 152) dX12_open_247 fl_X12_28 sh_145 rfl rfl ?_
            refine Tj.iload_n dX12_open_250 rfl rfl ?_
            refine Tj.iald dX12_open_251 sh_152 o1 o10 rfl ?_
            refine Tj.iast dX12_open_252 sh_152 o1 o10 rfl ?_
            refine Tj.iinc dX12_open_253 rfl (Nat.le_of_ble_eq_true rfl) rfl o12 rfl ?_
            refine Tj.goto dX12_open_256 rfl ?_
            exact Tj.cut h ⟨rfl, ⟨rfl, ⟨rfl, trivial⟩⟩⟩
        · have h := h.2 c4
          obtain ⟨o13, h⟩ := h
          refine Tj.aload_n dX12_open_219 rfl rfl ?_
          refine Tj.getR (b := 151) dX12_open_220 fl_X12_25 sh_145 rfl rfl ?_
          refine Tj.iload_n dX12_open_223 rfl rfl ?_
          refine Tj.iald dX12_open_224 sh_151 o1 o13 rfl ?_
          refine Tj.iast dX12_open_225 sh_151 o1 o13 rfl ?_
          refine Tj.aload_n dX12_open_226 rfl rfl ?_
          refine Tj.getR (b := 152) dX12_open_227 fl_X12_28 sh_145 rfl rfl ?_
          refine Tj.iload_n dX12_open_230 rfl rfl ?_
          refine Tj.iload dX12_open_231 rfl rfl ?_
          refine Tj.iconst dX12_open_233 (by decide) rfl ?_
          refine Tj.icmp_ne dX12_open_234 rfl rfl (fun c6 => ?_) (fun c6 => ?_)
          · have h := h.1 c6
            obtain ⟨⟨o14, o15⟩, h⟩ := h
            refine Tj.iconst dX12_open_237 (by decide) rfl ?_
            refine Tj.aload_n dX12_open_238 rfl rfl ?_
            refine Tj.gI (j := 23) dX12_open_239 fl_X12_204 sh_145 rfl rfl ?_
            refine Tj.iadd dX12_open_242 o14 rfl ?_
            refine Tj.goto dX12_open_243 rfl ?_
            refine Tj.iast dX12_open_252 sh_152 o1 o13 rfl ?_
            refine Tj.iinc dX12_open_253 rfl (Nat.le_of_ble_eq_true rfl) rfl o15 rfl ?_
            refine Tj.goto dX12_open_256 rfl ?_
            exact Tj.cut h ⟨rfl, ⟨rfl, ⟨rfl, trivial⟩⟩⟩
          · have h := h.2 c6
            obtain ⟨o16, h⟩ := h
            refine Tj.aload_n dX12_open_246 rfl rfl ?_
            refine Tj.getR (b := 152) dX12_open_247 fl_X12_28 sh_145 rfl rfl ?_
            refine Tj.iload_n dX12_open_250 rfl rfl ?_
            refine Tj.iald dX12_open_251 sh_152 o1 o13 rfl ?_
            refine Tj.iast dX12_open_252 sh_152 o1 o13 rfl ?_
            refine Tj.iinc dX12_open_253 rfl (Nat.le_of_ble_eq_true rfl) rfl o16 rfl ?_
            refine Tj.goto dX12_open_256 rfl ?_
            exact Tj.cut h ⟨rfl, ⟨rfl, ⟨rfl, trivial⟩⟩⟩
      · have h := h.2 c3
        obtain ⟨o17, h⟩ := h
        refine Tj.iinc dX12_open_253 rfl (Nat.le_of_ble_eq_true rfl) rfl o17 rfl ?_
        refine Tj.goto dX12_open_256 rfl ?_
        exact Tj.cut h ⟨rfl, ⟨rfl, ⟨rfl, trivial⟩⟩⟩
    · have h := h.2 c2
      obtain ⟨o18, h⟩ := h
      refine Tj.iinc dX12_open_253 rfl (Nat.le_of_ble_eq_true rfl) rfl o18 rfl ?_
      refine Tj.goto dX12_open_256 rfl ?_
      exact Tj.cut h ⟨rfl, ⟨rfl, ⟨rfl, trivial⟩⟩⟩
  · have h := h.2 c1
    obtain ⟨o19, h⟩ := h
    refine Tj.iinc dX12_open_259 rfl (Nat.le_of_ble_eq_true rfl) rfl o19 rfl ?_
    refine Tj.goto dX12_open_262 rfl ?_
    exact Tj.cut h ⟨rfl, ⟨rfl, trivial⟩⟩

theorem wX12_isAhead_0 {m : tM} {P : Option tV → tM → Prop} {x1 : Int} {x2 : Int} {x3 : Int}  (h : (0 ≤ x3 ∧ x3 < 60) ∧ ((x2 = (m 150 x3) → (∀ v1 : Int, v1 = (if x1 < (m 149 x3) then 1 else 0) → (P (some (iV v1)) m))) ∧ (¬ x2 = (m 150 x3) → (∀ v2 : Int, v2 = (if x2 < (m 150 x3) then 1 else 0) → (P (some (iV v2)) m))))) : Tj mX12_isAhead 0 [some (rV 145), some (iV x1), some (iV x2), some (iV x3)] [] m P := by
  obtain ⟨⟨o1, o2⟩, h⟩ := h
  refine Tj.iload_n dX12_isAhead_0 rfl rfl ?_
  refine Tj.aload_n dX12_isAhead_1 rfl rfl ?_
  refine Tj.getR (b := 150) dX12_isAhead_2 fl_X12_22 sh_145 rfl rfl ?_
  refine Tj.iload_n dX12_isAhead_5 rfl rfl ?_
  refine Tj.iald dX12_isAhead_6 sh_150 o1 o2 rfl ?_
  refine Tj.icmp_eq dX12_isAhead_7 rfl rfl (fun c1 => ?_) (fun c1 => ?_)
  · have h := h.1 c1
    refine Tj.iload_n dX12_isAhead_28 rfl rfl ?_
    refine Tj.aload_n dX12_isAhead_29 rfl rfl ?_
    refine Tj.getR (b := 149) dX12_isAhead_30 fl_X12_19 sh_145 rfl rfl ?_
    refine Tj.iload_n dX12_isAhead_33 rfl rfl ?_
    refine Tj.iald dX12_isAhead_34 sh_149 o1 o2 rfl ?_
    have hj : Tj mX12_isAhead 43 [] [iV (if x1 < (m 149 x3) then 1 else 0)] m P := by
      generalize hv1 : ((if x1 < (m 149 x3) then 1 else 0) : Int) = v1
      have h := h v1 hv1.symm
      exact Tj.zret dX12_isAhead_43 rfl (by rw [← hv1]; (repeat' split) <;> simp) h
    refine Tj.icmp_ge dX12_isAhead_35 rfl rfl (fun c2 => ?_) (fun c2 => ?_)
    · refine Tj.iconst dX12_isAhead_38 (by decide) rfl ?_
      refine Tj.goto dX12_isAhead_39 rfl ?_
      try simp only [if_pos c2] at hj ⊢
      exact Tj.cut hj trivial
    · refine Tj.iconst dX12_isAhead_42 (by decide) rfl ?_
      try simp only [if_neg c2] at hj ⊢
      exact Tj.cut hj trivial
  · have h := h.2 c1
    refine Tj.iload_n dX12_isAhead_10 rfl rfl ?_
    refine Tj.aload_n dX12_isAhead_11 rfl rfl ?_
    refine Tj.getR (b := 150) dX12_isAhead_12 fl_X12_22 sh_145 rfl rfl ?_
    refine Tj.iload_n dX12_isAhead_15 rfl rfl ?_
    refine Tj.iald dX12_isAhead_16 sh_150 o1 o2 rfl ?_
    have hj : Tj mX12_isAhead 43 [] [iV (if x2 < (m 150 x3) then 1 else 0)] m P := by
      generalize hv2 : ((if x2 < (m 150 x3) then 1 else 0) : Int) = v2
      have h := h v2 hv2.symm
      exact Tj.zret dX12_isAhead_43 rfl (by rw [← hv2]; (repeat' split) <;> simp) h
    refine Tj.icmp_ge dX12_isAhead_17 rfl rfl (fun c3 => ?_) (fun c3 => ?_)
    · refine Tj.iconst dX12_isAhead_20 (by decide) rfl ?_
      refine Tj.goto dX12_isAhead_21 rfl ?_
      try simp only [if_pos c3] at hj ⊢
      exact Tj.cut hj trivial
    · refine Tj.iconst dX12_isAhead_24 (by decide) rfl ?_
      refine Tj.goto dX12_isAhead_25 rfl ?_
      try simp only [if_neg c3] at hj ⊢
      exact Tj.cut hj trivial

theorem wX12_place_0 {m : tM} {P : Option tV → tM → Prop} {x1 : Int} {x2 : Int} {x3 : Int} {x4 : Int} {x5 : Int}  (h : (0 ≤ x1 ∧ x1 < 60) ∧ (P none (up (up (up (up m 149 x1 x2) 150 x1 x3) 151 x1 x4) 152 x1 x5))) : Tj mX12_place 0 [some (rV 145), some (iV x1), some (iV x2), some (iV x3), some (iV x4), some (iV x5)] [] m P := by
  obtain ⟨⟨o1, o2⟩, h⟩ := h
  refine Tj.aload_n dX12_place_0 rfl rfl ?_
  refine Tj.getR (b := 149) dX12_place_1 fl_X12_19 sh_145 rfl rfl ?_
  refine Tj.iload_n dX12_place_4 rfl rfl ?_
  refine Tj.iload_n dX12_place_5 rfl rfl ?_
  refine Tj.iast dX12_place_6 sh_149 o1 o2 rfl ?_
  refine Tj.aload_n dX12_place_7 rfl rfl ?_
  refine Tj.getR (b := 150) dX12_place_8 fl_X12_22 sh_145 rfl rfl ?_
  refine Tj.iload_n dX12_place_11 rfl rfl ?_
  refine Tj.iload_n dX12_place_12 rfl rfl ?_
  refine Tj.iast dX12_place_13 sh_150 o1 o2 rfl ?_
  refine Tj.aload_n dX12_place_14 rfl rfl ?_
  refine Tj.getR (b := 151) dX12_place_15 fl_X12_25 sh_145 rfl rfl ?_
  refine Tj.iload_n dX12_place_18 rfl rfl ?_
  refine Tj.iload dX12_place_19 rfl rfl ?_
  refine Tj.iast dX12_place_21 sh_151 o1 o2 rfl ?_
  refine Tj.aload_n dX12_place_22 rfl rfl ?_
  refine Tj.getR (b := 152) dX12_place_23 fl_X12_28 sh_145 rfl rfl ?_
  refine Tj.iload_n dX12_place_26 rfl rfl ?_
  refine Tj.iload dX12_place_27 rfl rfl ?_
  refine Tj.iast dX12_place_29 sh_152 o1 o2 rfl ?_
  exact Tj.vret dX12_place_30 rfl h

theorem wX12_sort_0 {m : tM} {P : Option tV → tM → Prop}   (h : Tj mX12_sort 2 [some (rV 145), some (iV 1)] [] m P) : Tj mX12_sort 0 [some (rV 145)] [] m P := by
  refine Tj.iconst dX12_sort_0 (by decide) rfl ?_
  refine Tj.istore_n dX12_sort_1 (Nat.le_of_ble_eq_true rfl) rfl rfl ?_
  exact Tj.cut h ⟨rfl, ⟨rfl, trivial⟩⟩

theorem wX12_sort_2 {m : tM} {P : Option tV → tM → Prop} {x1 : Int}  (h : (x1 < (m 145 4) → ((0 ≤ x1 ∧ x1 < 60) ∧ (Tj mX12_sort 43 [some (rV 145), some (iV x1), some (iV (m 149 x1)), some (iV (m 150 x1)), some (iV (m 151 x1)), some (iV (m 152 x1)), some (iV x1)] [] m P))) ∧ (¬ x1 < (m 145 4) → (P none m))) : Tj mX12_sort 2 [some (rV 145), some (iV x1)] [] m P := by
  refine Tj.iload_n dX12_sort_2 rfl rfl ?_
  refine Tj.aload_n dX12_sort_3 rfl rfl ?_
  refine Tj.gI (j := 4) dX12_sort_4 fl_X12_127 sh_145 rfl rfl ?_
  refine Tj.icmp_ge dX12_sort_7 rfl rfl (fun c1 => ?_) (fun c1 => ?_)
  · have h := h.1 c1
    obtain ⟨⟨o1, o2⟩, h⟩ := h
    refine Tj.aload_n dX12_sort_10 rfl rfl ?_
    refine Tj.getR (b := 149) dX12_sort_11 fl_X12_19 sh_145 rfl rfl ?_
    refine Tj.iload_n dX12_sort_14 rfl rfl ?_
    refine Tj.iald dX12_sort_15 sh_149 o1 o2 rfl ?_
    refine Tj.istore_n dX12_sort_16 (Nat.le_of_ble_eq_true rfl) rfl rfl ?_
    refine Tj.aload_n dX12_sort_17 rfl rfl ?_
    refine Tj.getR (b := 150) dX12_sort_18 fl_X12_22 sh_145 rfl rfl ?_
    refine Tj.iload_n dX12_sort_21 rfl rfl ?_
    refine Tj.iald dX12_sort_22 sh_150 o1 o2 rfl ?_
    refine Tj.istore_n dX12_sort_23 (Nat.le_of_ble_eq_true rfl) rfl rfl ?_
    refine Tj.aload_n dX12_sort_24 rfl rfl ?_
    refine Tj.getR (b := 151) dX12_sort_25 fl_X12_25 sh_145 rfl rfl ?_
    refine Tj.iload_n dX12_sort_28 rfl rfl ?_
    refine Tj.iald dX12_sort_29 sh_151 o1 o2 rfl ?_
    refine Tj.istore dX12_sort_30 (Nat.le_of_ble_eq_true rfl) rfl rfl ?_
    refine Tj.aload_n dX12_sort_32 rfl rfl ?_
    refine Tj.getR (b := 152) dX12_sort_33 fl_X12_28 sh_145 rfl rfl ?_
    refine Tj.iload_n dX12_sort_36 rfl rfl ?_
    refine Tj.iald dX12_sort_37 sh_152 o1 o2 rfl ?_
    refine Tj.istore dX12_sort_38 (Nat.le_of_ble_eq_true rfl) rfl rfl ?_
    refine Tj.iload_n dX12_sort_40 rfl rfl ?_
    refine Tj.istore dX12_sort_41 (Nat.le_of_ble_eq_true rfl) rfl rfl ?_
    exact Tj.cut h ⟨rfl, ⟨rfl, ⟨rfl, ⟨rfl, ⟨rfl, ⟨rfl, ⟨rfl, trivial⟩⟩⟩⟩⟩⟩⟩
  · have h := h.2 c1
    exact Tj.vret dX12_sort_127 rfl h

theorem wX12_sort_43 {m : tM} {P : Option tV → tM → Prop} {x1 : Int} {x2 : Int} {x3 : Int} {x4 : Int} {x5 : Int} {x6 : Int}  (h : (0 < x6 → ((R32 (x6 - 1)) ∧ (Cli mX12_isAhead [rV 145, iV x2, iV x3, iV (x6 - 1)] m (fun r1 m1 => ((r1 = 0 → (Clv mX12_place [rV 145, iV x6, iV x2, iV x3, iV x4, iV x5] m1 (fun m2 => ((R32 (x1 + 1)) ∧ (Tj mX12_sort 2 [some (rV 145), some (iV (x1 + 1))] [] m2 P))))) ∧ (¬ r1 = 0 → ((0 ≤ (x6 - 1) ∧ (x6 - 1) < 60) ∧ (Clv mX12_place [rV 145, iV x6, iV (m1 149 (x6 - 1)), iV (m1 150 (x6 - 1)), iV (m1 151 (x6 - 1)), iV (m1 152 (x6 - 1))] m1 (fun m3 => ((R32 (x6 + (-1))) ∧ (Tj mX12_sort 43 [some (rV 145), some (iV x1), some (iV x2), some (iV x3), some (iV x4), some (iV x5), some (iV (x6 + (-1)))] [] m3 P))))))))))) ∧ (¬ 0 < x6 → (Clv mX12_place [rV 145, iV x6, iV x2, iV x3, iV x4, iV x5] m (fun m4 => ((R32 (x1 + 1)) ∧ (Tj mX12_sort 2 [some (rV 145), some (iV (x1 + 1))] [] m4 P)))))) : Tj mX12_sort 43 [some (rV 145), some (iV x1), some (iV x2), some (iV x3), some (iV x4), some (iV x5), some (iV x6)] [] m P := by
  refine Tj.iload dX12_sort_43 rfl rfl ?_
  refine Tj.if_le dX12_sort_45 rfl rfl (fun c1 => ?_) (fun c1 => ?_)
  · have h := h.1 c1
    obtain ⟨o1, h⟩ := h
    refine Tj.aload_n dX12_sort_48 rfl rfl ?_
    refine Tj.iload_n dX12_sort_49 rfl rfl ?_
    refine Tj.iload_n dX12_sort_50 rfl rfl ?_
    refine Tj.iload dX12_sort_51 rfl rfl ?_
    refine Tj.iconst dX12_sort_53 (by decide) rfl ?_
    refine Tj.isub dX12_sort_54 o1 rfl ?_
    refine Tj.callVi (as := [_, _, _]) (rest := []) dX12_sort_55 ln_X12_248 sh_145 (by decide) rfl rfl (Nat.le_of_ble_eq_true rfl) ⟨Nat.le_of_ble_eq_true rfl, Nat.le_of_ble_eq_true rfl⟩ (Nat.le_of_ble_eq_true rfl) rfl ?_
    refine Cli.mono h (fun r1 m1 h => ?_)
    refine Tj.if_eq dX12_sort_58 rfl rfl (fun c2 => ?_) (fun c2 => ?_)
    · have h := h.1 c2
      refine Tj.aload_n dX12_sort_109 rfl rfl ?_
      refine Tj.iload dX12_sort_110 rfl rfl ?_
      refine Tj.iload_n dX12_sort_112 rfl rfl ?_
      refine Tj.iload_n dX12_sort_113 rfl rfl ?_
      refine Tj.iload dX12_sort_114 rfl rfl ?_
      refine Tj.iload dX12_sort_116 rfl rfl ?_
      refine Tj.callVv (as := [_, _, _, _, _]) (rest := []) dX12_sort_118 ln_X12_251 sh_145 (by decide) rfl rfl (Nat.le_of_ble_eq_true rfl) ⟨Nat.le_of_ble_eq_true rfl, Nat.le_of_ble_eq_true rfl⟩ (Nat.le_of_ble_eq_true rfl) rfl ?_
      refine Clv.mono h (fun m2 h => ?_)
      obtain ⟨o2, h⟩ := h
      refine Tj.iinc dX12_sort_121 rfl (Nat.le_of_ble_eq_true rfl) rfl o2 rfl ?_
      refine Tj.goto dX12_sort_124 rfl ?_
      exact Tj.cut h ⟨rfl, ⟨rfl, trivial⟩⟩
    · have h := h.2 c2
      obtain ⟨⟨o3, o4⟩, h⟩ := h
      refine Tj.aload_n dX12_sort_61 rfl rfl ?_
      refine Tj.iload dX12_sort_62 rfl rfl ?_
      refine Tj.aload_n dX12_sort_64 rfl rfl ?_
      refine Tj.getR (b := 149) dX12_sort_65 fl_X12_19 sh_145 rfl rfl ?_
      refine Tj.iload dX12_sort_68 rfl rfl ?_
      refine Tj.iconst dX12_sort_70 (by decide) rfl ?_
      refine Tj.isub dX12_sort_71 o1 rfl ?_
      refine Tj.iald dX12_sort_72 sh_149 o3 o4 rfl ?_
      refine Tj.aload_n dX12_sort_73 rfl rfl ?_
      refine Tj.getR (b := 150) dX12_sort_74 fl_X12_22 sh_145 rfl rfl ?_
      refine Tj.iload dX12_sort_77 rfl rfl ?_
      refine Tj.iconst dX12_sort_79 (by decide) rfl ?_
      refine Tj.isub dX12_sort_80 o1 rfl ?_
      refine Tj.iald dX12_sort_81 sh_150 o3 o4 rfl ?_
      refine Tj.aload_n dX12_sort_82 rfl rfl ?_
      refine Tj.getR (b := 151) dX12_sort_83 fl_X12_25 sh_145 rfl rfl ?_
      refine Tj.iload dX12_sort_86 rfl rfl ?_
      refine Tj.iconst dX12_sort_88 (by decide) rfl ?_
      refine Tj.isub dX12_sort_89 o1 rfl ?_
      refine Tj.iald dX12_sort_90 sh_151 o3 o4 rfl ?_
      refine Tj.aload_n dX12_sort_91 rfl rfl ?_
      refine Tj.getR (b := 152) dX12_sort_92 fl_X12_28 sh_145 rfl rfl ?_
      refine Tj.iload dX12_sort_95 rfl rfl ?_
      refine Tj.iconst dX12_sort_97 (by decide) rfl ?_
      refine Tj.isub dX12_sort_98 o1 rfl ?_
      refine Tj.iald dX12_sort_99 sh_152 o3 o4 rfl ?_
      refine Tj.callVv (as := [_, _, _, _, _]) (rest := []) dX12_sort_100 ln_X12_251 sh_145 (by decide) rfl rfl (Nat.le_of_ble_eq_true rfl) ⟨Nat.le_of_ble_eq_true rfl, Nat.le_of_ble_eq_true rfl⟩ (Nat.le_of_ble_eq_true rfl) rfl ?_
      refine Clv.mono h (fun m3 h => ?_)
      obtain ⟨o5, h⟩ := h
      refine Tj.iinc dX12_sort_103 rfl (Nat.le_of_ble_eq_true rfl) rfl o5 rfl ?_
      refine Tj.goto dX12_sort_106 rfl ?_
      exact Tj.cut h ⟨rfl, ⟨rfl, ⟨rfl, ⟨rfl, ⟨rfl, ⟨rfl, ⟨rfl, trivial⟩⟩⟩⟩⟩⟩⟩
  · have h := h.2 c1
    refine Tj.aload_n dX12_sort_109 rfl rfl ?_
    refine Tj.iload dX12_sort_110 rfl rfl ?_
    refine Tj.iload_n dX12_sort_112 rfl rfl ?_
    refine Tj.iload_n dX12_sort_113 rfl rfl ?_
    refine Tj.iload dX12_sort_114 rfl rfl ?_
    refine Tj.iload dX12_sort_116 rfl rfl ?_
    refine Tj.callVv (as := [_, _, _, _, _]) (rest := []) dX12_sort_118 ln_X12_251 sh_145 (by decide) rfl rfl (Nat.le_of_ble_eq_true rfl) ⟨Nat.le_of_ble_eq_true rfl, Nat.le_of_ble_eq_true rfl⟩ (Nat.le_of_ble_eq_true rfl) rfl ?_
    refine Clv.mono h (fun m4 h => ?_)
    obtain ⟨o6, h⟩ := h
    refine Tj.iinc dX12_sort_121 rfl (Nat.le_of_ble_eq_true rfl) rfl o6 rfl ?_
    refine Tj.goto dX12_sort_124 rfl ?_
    exact Tj.cut h ⟨rfl, ⟨rfl, trivial⟩⟩

theorem wX12_creases_0 {m : tM} {P : Option tV → tM → Prop}   (h : Tj mX12_creases 4 [some (rV 145), some (iV 0), some (iV 0)] [] m P) : Tj mX12_creases 0 [some (rV 145)] [] m P := by
  refine Tj.iconst dX12_creases_0 (by decide) rfl ?_
  refine Tj.istore_n dX12_creases_1 (Nat.le_of_ble_eq_true rfl) rfl rfl ?_
  refine Tj.iconst dX12_creases_2 (by decide) rfl ?_
  refine Tj.istore_n dX12_creases_3 (Nat.le_of_ble_eq_true rfl) rfl rfl ?_
  exact Tj.cut h ⟨rfl, ⟨rfl, ⟨rfl, trivial⟩⟩⟩

theorem wX12_creases_4 {m : tM} {P : Option tV → tM → Prop} {x1 : Int} {x2 : Int}  (h : (x2 < (m 145 4) → ((0 ≤ x2 ∧ x2 < 60) ∧ (∀ v1 : Int, v1 = (if (m 151 x2) = 0 then 0 else 1) → (∀ v2 : Int, v2 = (if (m 152 x2) = 0 then 0 else 1) → ((R32 (v1 + v2) ∧ R32 (x1 + (v1 + v2)) ∧ R32 (x2 + 1)) ∧ (Tj mX12_creases 4 [some (rV 145), some (iV (x1 + (v1 + v2))), some (iV (x2 + 1))] [] m P)))))) ∧ (¬ x2 < (m 145 4) → (P (some (iV x1)) m))) : Tj mX12_creases 4 [some (rV 145), some (iV x1), some (iV x2)] [] m P := by
  refine Tj.iload_n dX12_creases_4 rfl rfl ?_
  refine Tj.aload_n dX12_creases_5 rfl rfl ?_
  refine Tj.gI (j := 4) dX12_creases_6 fl_X12_127 sh_145 rfl rfl ?_
  refine Tj.icmp_ge dX12_creases_9 rfl rfl (fun c1 => ?_) (fun c1 => ?_)
  · have h := h.1 c1
    obtain ⟨⟨o1, o2⟩, h⟩ := h
    refine Tj.iload_n dX12_creases_12 rfl rfl ?_
    refine Tj.aload_n dX12_creases_13 rfl rfl ?_
    refine Tj.getR (b := 151) dX12_creases_14 fl_X12_25 sh_145 rfl rfl ?_
    refine Tj.iload_n dX12_creases_17 rfl rfl ?_
    refine Tj.iald dX12_creases_18 sh_151 o1 o2 rfl ?_
    have hj : Tj mX12_creases 27 [some (rV 145), none, some (iV x2)] [iV (if (m 151 x2) = 0 then 0 else 1), iV x1] m P := by
      generalize hv1 : ((if (m 151 x2) = 0 then 0 else 1) : Int) = v1
      have h := h v1 hv1.symm
      refine Tj.aload_n dX12_creases_27 rfl rfl ?_
      refine Tj.getR (b := 152) dX12_creases_28 fl_X12_28 sh_145 rfl rfl ?_
      refine Tj.iload_n dX12_creases_31 rfl rfl ?_
      refine Tj.iald dX12_creases_32 sh_152 o1 o2 rfl ?_
      have hj : Tj mX12_creases 41 [some (rV 145), none, some (iV x2)] [iV (if (m 152 x2) = 0 then 0 else 1), iV v1, iV x1] m P := by
        generalize hv2 : ((if (m 152 x2) = 0 then 0 else 1) : Int) = v2
        have h := h v2 hv2.symm
        obtain ⟨⟨o3, o4, o5⟩, h⟩ := h
        refine Tj.iadd dX12_creases_41 o3 rfl ?_
        refine Tj.iadd dX12_creases_42 o4 rfl ?_
        refine Tj.istore_n dX12_creases_43 (Nat.le_of_ble_eq_true rfl) rfl rfl ?_
        refine Tj.iinc dX12_creases_44 rfl (Nat.le_of_ble_eq_true rfl) rfl o5 rfl ?_
        refine Tj.goto dX12_creases_47 rfl ?_
        exact Tj.cut h ⟨rfl, ⟨rfl, ⟨rfl, trivial⟩⟩⟩
      refine Tj.if_eq dX12_creases_33 rfl rfl (fun c3 => ?_) (fun c3 => ?_)
      · refine Tj.iconst dX12_creases_40 (by decide) rfl ?_
        try simp only [if_pos c3] at hj ⊢
        exact Tj.cut hj ⟨rfl, ⟨rfl, trivial⟩⟩
      · refine Tj.iconst dX12_creases_36 (by decide) rfl ?_
        refine Tj.goto dX12_creases_37 rfl ?_
        try simp only [if_neg c3] at hj ⊢
        exact Tj.cut hj ⟨rfl, ⟨rfl, trivial⟩⟩
    refine Tj.if_eq dX12_creases_19 rfl rfl (fun c2 => ?_) (fun c2 => ?_)
    · refine Tj.iconst dX12_creases_26 (by decide) rfl ?_
      try simp only [if_pos c2] at hj ⊢
      exact Tj.cut hj ⟨rfl, ⟨rfl, trivial⟩⟩
    · refine Tj.iconst dX12_creases_22 (by decide) rfl ?_
      refine Tj.goto dX12_creases_23 rfl ?_
      try simp only [if_neg c2] at hj ⊢
      exact Tj.cut hj ⟨rfl, ⟨rfl, trivial⟩⟩
  · have h := h.2 c1
    refine Tj.iload_n dX12_creases_50 rfl rfl ?_
    exact Tj.iret dX12_creases_51 rfl h

theorem wX12_spotAt_0 {m : tM} {P : Option tV → tM → Prop} {x1 : Int} {x2 : Int}  (h : Tj mX12_spotAt 2 [some (rV 145), some (iV x1), some (iV x2), some (iV 0)] [] m P) : Tj mX12_spotAt 0 [some (rV 145), some (iV x1), some (iV x2)] [] m P := by
  refine Tj.iconst dX12_spotAt_0 (by decide) rfl ?_
  refine Tj.istore_n dX12_spotAt_1 (Nat.le_of_ble_eq_true rfl) rfl rfl ?_
  exact Tj.cut h ⟨rfl, ⟨rfl, ⟨rfl, ⟨rfl, trivial⟩⟩⟩⟩

theorem wX12_spotAt_2 {m : tM} {P : Option tV → tM → Prop} {x1 : Int} {x2 : Int} {x3 : Int}  (h : (x3 < (m 145 4) → ((0 ≤ x3 ∧ x3 < 60) ∧ (((m 149 x3) = x1 → (((m 150 x3) = x2 → (P (some (iV x3)) m)) ∧ (¬ (m 150 x3) = x2 → ((R32 (x3 + 1)) ∧ (Tj mX12_spotAt 2 [some (rV 145), some (iV x1), some (iV x2), some (iV (x3 + 1))] [] m P))))) ∧ (¬ (m 149 x3) = x1 → ((R32 (x3 + 1)) ∧ (Tj mX12_spotAt 2 [some (rV 145), some (iV x1), some (iV x2), some (iV (x3 + 1))] [] m P)))))) ∧ (¬ x3 < (m 145 4) → (P (some (iV (-1))) m))) : Tj mX12_spotAt 2 [some (rV 145), some (iV x1), some (iV x2), some (iV x3)] [] m P := by
  refine Tj.iload_n dX12_spotAt_2 rfl rfl ?_
  refine Tj.aload_n dX12_spotAt_3 rfl rfl ?_
  refine Tj.gI (j := 4) dX12_spotAt_4 fl_X12_127 sh_145 rfl rfl ?_
  refine Tj.icmp_ge dX12_spotAt_7 rfl rfl (fun c1 => ?_) (fun c1 => ?_)
  · have h := h.1 c1
    obtain ⟨⟨o1, o2⟩, h⟩ := h
    refine Tj.aload_n dX12_spotAt_10 rfl rfl ?_
    refine Tj.getR (b := 149) dX12_spotAt_11 fl_X12_19 sh_145 rfl rfl ?_
    refine Tj.iload_n dX12_spotAt_14 rfl rfl ?_
    refine Tj.iald dX12_spotAt_15 sh_149 o1 o2 rfl ?_
    refine Tj.iload_n dX12_spotAt_16 rfl rfl ?_
    refine Tj.icmp_ne dX12_spotAt_17 rfl rfl (fun c2 => ?_) (fun c2 => ?_)
    · have h := h.1 c2
      refine Tj.aload_n dX12_spotAt_20 rfl rfl ?_
      refine Tj.getR (b := 150) dX12_spotAt_21 fl_X12_22 sh_145 rfl rfl ?_
      refine Tj.iload_n dX12_spotAt_24 rfl rfl ?_
      refine Tj.iald dX12_spotAt_25 sh_150 o1 o2 rfl ?_
      refine Tj.iload_n dX12_spotAt_26 rfl rfl ?_
      refine Tj.icmp_ne dX12_spotAt_27 rfl rfl (fun c3 => ?_) (fun c3 => ?_)
      · have h := h.1 c3
        refine Tj.iload_n dX12_spotAt_30 rfl rfl ?_
        exact Tj.iret dX12_spotAt_31 rfl h
      · have h := h.2 c3
        obtain ⟨o3, h⟩ := h
        refine Tj.iinc dX12_spotAt_32 rfl (Nat.le_of_ble_eq_true rfl) rfl o3 rfl ?_
        refine Tj.goto dX12_spotAt_35 rfl ?_
        exact Tj.cut h ⟨rfl, ⟨rfl, ⟨rfl, ⟨rfl, trivial⟩⟩⟩⟩
    · have h := h.2 c2
      obtain ⟨o4, h⟩ := h
      refine Tj.iinc dX12_spotAt_32 rfl (Nat.le_of_ble_eq_true rfl) rfl o4 rfl ?_
      refine Tj.goto dX12_spotAt_35 rfl ?_
      exact Tj.cut h ⟨rfl, ⟨rfl, ⟨rfl, ⟨rfl, trivial⟩⟩⟩⟩
  · have h := h.2 c1
    refine Tj.iconst dX12_spotAt_38 (by decide) rfl ?_
    exact Tj.iret dX12_spotAt_39 rfl h

theorem wX12_neighbour_0 {m : tM} {P : Option tV → tM → Prop} {x1 : Int} {x2 : Int}  (h : (0 ≤ x1 ∧ x1 < 60) ∧ (Cli mX12_stepX [iV x2] m (fun r1 m1 => ((R32 ((m 149 x1) + r1)) ∧ (Cli mX12_stepY [iV x2] m1 (fun r2 m2 => ((R32 ((m1 150 x1) + r2)) ∧ (Cli mX12_spotAt [rV 145, iV ((m 149 x1) + r1), iV ((m1 150 x1) + r2)] m2 (fun r3 m3 => (P (some (iV r3)) m3)))))))))) : Tj mX12_neighbour 0 [some (rV 145), some (iV x1), some (iV x2)] [] m P := by
  obtain ⟨⟨o1, o2⟩, h⟩ := h
  refine Tj.aload_n dX12_neighbour_0 rfl rfl ?_
  refine Tj.aload_n dX12_neighbour_1 rfl rfl ?_
  refine Tj.getR (b := 149) dX12_neighbour_2 fl_X12_19 sh_145 rfl rfl ?_
  refine Tj.iload_n dX12_neighbour_5 rfl rfl ?_
  refine Tj.iald dX12_neighbour_6 sh_149 o1 o2 rfl ?_
  refine Tj.iload_n dX12_neighbour_7 rfl rfl ?_
  refine Tj.callSi (as := [_]) (rest := [_, _]) dX12_neighbour_8 ln_X12_230 rfl rfl (Nat.le_of_ble_eq_true rfl) ⟨Nat.le_of_ble_eq_true rfl, Nat.le_of_ble_eq_true rfl⟩ (Nat.le_of_ble_eq_true rfl) rfl ?_
  refine Cli.mono h (fun r1 m1 h => ?_)
  obtain ⟨o3, h⟩ := h
  refine Tj.iadd dX12_neighbour_11 o3 rfl ?_
  refine Tj.aload_n dX12_neighbour_12 rfl rfl ?_
  refine Tj.getR (b := 150) dX12_neighbour_13 fl_X12_22 sh_145 rfl rfl ?_
  refine Tj.iload_n dX12_neighbour_16 rfl rfl ?_
  refine Tj.iald dX12_neighbour_17 sh_150 o1 o2 rfl ?_
  refine Tj.iload_n dX12_neighbour_18 rfl rfl ?_
  refine Tj.callSi (as := [_]) (rest := [_, _, _]) dX12_neighbour_19 ln_X12_233 rfl rfl (Nat.le_of_ble_eq_true rfl) ⟨Nat.le_of_ble_eq_true rfl, Nat.le_of_ble_eq_true rfl⟩ (Nat.le_of_ble_eq_true rfl) rfl ?_
  refine Cli.mono h (fun r2 m2 h => ?_)
  obtain ⟨o4, h⟩ := h
  refine Tj.iadd dX12_neighbour_22 o4 rfl ?_
  refine Tj.callVi (as := [_, _]) (rest := []) dX12_neighbour_23 ln_X12_255 sh_145 (by decide) rfl rfl (Nat.le_of_ble_eq_true rfl) ⟨Nat.le_of_ble_eq_true rfl, Nat.le_of_ble_eq_true rfl⟩ (Nat.le_of_ble_eq_true rfl) rfl ?_
  refine Cli.mono h (fun r3 m3 h => ?_)
  exact Tj.iret dX12_neighbour_26 rfl h

theorem wX12_creaseOf_0 {m : tM} {P : Option tV → tM → Prop} {x1 : Int} {x2 : Int}  (h : (x2 < 2 → ((x2 = 0 → ((0 ≤ x1 ∧ x1 < 60) ∧ (P (some (iV (m 151 x1))) m))) ∧ (¬ x2 = 0 → ((0 ≤ x1 ∧ x1 < 60) ∧ (P (some (iV (m 152 x1))) m))))) ∧ (¬ x2 < 2 → (Cli mX12_neighbour [rV 145, iV x1, iV x2] m (fun r1 m1 => ((r1 = (-1) → (P (some (iV 0)) m1)) ∧ (¬ r1 = (-1) → ((x2 = 2 → ((0 ≤ r1 ∧ r1 < 60) ∧ (P (some (iV (m1 151 r1))) m1))) ∧ (¬ x2 = 2 → ((0 ≤ r1 ∧ r1 < 60) ∧ (P (some (iV (m1 152 r1))) m1)))))))))) : Tj mX12_creaseOf 0 [some (rV 145), some (iV x1), some (iV x2)] [] m P := by
  refine Tj.iload_n dX12_creaseOf_0 rfl rfl ?_
  refine Tj.iconst dX12_creaseOf_1 (by decide) rfl ?_
  refine Tj.icmp_ge dX12_creaseOf_2 rfl rfl (fun c1 => ?_) (fun c1 => ?_)
  · have h := h.1 c1
    refine Tj.iload_n dX12_creaseOf_5 rfl rfl ?_
    refine Tj.if_ne dX12_creaseOf_6 rfl rfl (fun c2 => ?_) (fun c2 => ?_)
    · have h := h.1 c2
      obtain ⟨⟨o1, o2⟩, h⟩ := h
      refine Tj.aload_n dX12_creaseOf_9 rfl rfl ?_
      refine Tj.getR (b := 151) dX12_creaseOf_10 fl_X12_25 sh_145 rfl rfl ?_
      refine Tj.iload_n dX12_creaseOf_13 rfl rfl ?_
      refine Tj.iald dX12_creaseOf_14 sh_151 o1 o2 rfl ?_
      refine Tj.goto dX12_creaseOf_15 rfl ?_
      exact Tj.iret dX12_creaseOf_24 rfl h
    · have h := h.2 c2
      obtain ⟨⟨o3, o4⟩, h⟩ := h
      refine Tj.aload_n dX12_creaseOf_18 rfl rfl ?_
      refine Tj.getR (b := 152) dX12_creaseOf_19 fl_X12_28 sh_145 rfl rfl ?_
      refine Tj.iload_n dX12_creaseOf_22 rfl rfl ?_
      refine Tj.iald dX12_creaseOf_23 sh_152 o3 o4 rfl ?_
      exact Tj.iret dX12_creaseOf_24 rfl h
  · have h := h.2 c1
    refine Tj.aload_n dX12_creaseOf_25 rfl rfl ?_
    refine Tj.iload_n dX12_creaseOf_26 rfl rfl ?_
    refine Tj.iload_n dX12_creaseOf_27 rfl rfl ?_
    refine Tj.callVi (as := [_, _]) (rest := []) dX12_creaseOf_28 ln_X12_258 sh_145 (by decide) rfl rfl (Nat.le_of_ble_eq_true rfl) ⟨Nat.le_of_ble_eq_true rfl, Nat.le_of_ble_eq_true rfl⟩ (Nat.le_of_ble_eq_true rfl) rfl ?_
    refine Cli.mono h (fun r1 m1 h => ?_)
    refine Tj.istore_n dX12_creaseOf_31 (Nat.le_of_ble_eq_true rfl) rfl rfl ?_
    refine Tj.iload_n dX12_creaseOf_32 rfl rfl ?_
    refine Tj.iconst dX12_creaseOf_33 (by decide) rfl ?_
    refine Tj.icmp_ne dX12_creaseOf_34 rfl rfl (fun c3 => ?_) (fun c3 => ?_)
    · have h := h.1 c3
      refine Tj.iconst dX12_creaseOf_37 (by decide) rfl ?_
      refine Tj.goto dX12_creaseOf_38 rfl ?_
      exact Tj.iret dX12_creaseOf_61 rfl h
    · have h := h.2 c3
      refine Tj.iload_n dX12_creaseOf_41 rfl rfl ?_
      refine Tj.iconst dX12_creaseOf_42 (by decide) rfl ?_
      refine Tj.icmp_ne dX12_creaseOf_43 rfl rfl (fun c4 => ?_) (fun c4 => ?_)
      · have h := h.1 c4
        obtain ⟨⟨o5, o6⟩, h⟩ := h
        refine Tj.aload_n dX12_creaseOf_46 rfl rfl ?_
        refine Tj.getR (b := 151) dX12_creaseOf_47 fl_X12_25 sh_145 rfl rfl ?_
        refine Tj.iload_n dX12_creaseOf_50 rfl rfl ?_
        refine Tj.iald dX12_creaseOf_51 sh_151 o5 o6 rfl ?_
        refine Tj.goto dX12_creaseOf_52 rfl ?_
        exact Tj.iret dX12_creaseOf_61 rfl h
      · have h := h.2 c4
        obtain ⟨⟨o7, o8⟩, h⟩ := h
        refine Tj.aload_n dX12_creaseOf_55 rfl rfl ?_
        refine Tj.getR (b := 152) dX12_creaseOf_56 fl_X12_28 sh_145 rfl rfl ?_
        refine Tj.iload_n dX12_creaseOf_59 rfl rfl ?_
        refine Tj.iald dX12_creaseOf_60 sh_152 o7 o8 rfl ?_
        exact Tj.iret dX12_creaseOf_61 rfl h

theorem wX12_setCrease_0 {m : tM} {P : Option tV → tM → Prop} {x1 : Int} {x2 : Int} {x3 : Int}  (h : (x2 < 2 → ((x1 = (-1) → ((x1 = (-1) → (P none m)) ∧ (¬ x1 = (-1) → ((0 ≤ x2) ∧ (((x2 % 2) = 1 → ((0 ≤ x1 ∧ x1 < 60) ∧ (P none (up m 152 x1 x3)))) ∧ (¬ (x2 % 2) = 1 → (P none m))))))) ∧ (¬ x1 = (-1) → ((0 ≤ x2) ∧ (((x2 % 2) = 0 → ((0 ≤ x1 ∧ x1 < 60) ∧ ((x1 = (-1) → (P none (up m 151 x1 x3))) ∧ (¬ x1 = (-1) → (((x2 % 2) = 1 → (P none (up (up m 151 x1 x3) 152 x1 x3))) ∧ (¬ (x2 % 2) = 1 → (P none (up m 151 x1 x3)))))))) ∧ (¬ (x2 % 2) = 0 → ((x1 = (-1) → (P none m)) ∧ (¬ x1 = (-1) → (((x2 % 2) = 1 → ((0 ≤ x1 ∧ x1 < 60) ∧ (P none (up m 152 x1 x3)))) ∧ (¬ (x2 % 2) = 1 → (P none m))))))))))) ∧ (¬ x2 < 2 → (Cli mX12_neighbour [rV 145, iV x1, iV x2] m (fun r1 m1 => ((r1 = (-1) → ((r1 = (-1) → (P none m1)) ∧ (¬ r1 = (-1) → ((0 ≤ x2) ∧ (((x2 % 2) = 1 → ((0 ≤ r1 ∧ r1 < 60) ∧ (P none (up m1 152 r1 x3)))) ∧ (¬ (x2 % 2) = 1 → (P none m1))))))) ∧ (¬ r1 = (-1) → ((0 ≤ x2) ∧ (((x2 % 2) = 0 → ((0 ≤ r1 ∧ r1 < 60) ∧ ((r1 = (-1) → (P none (up m1 151 r1 x3))) ∧ (¬ r1 = (-1) → (((x2 % 2) = 1 → (P none (up (up m1 151 r1 x3) 152 r1 x3))) ∧ (¬ (x2 % 2) = 1 → (P none (up m1 151 r1 x3)))))))) ∧ (¬ (x2 % 2) = 0 → ((r1 = (-1) → (P none m1)) ∧ (¬ r1 = (-1) → (((x2 % 2) = 1 → ((0 ≤ r1 ∧ r1 < 60) ∧ (P none (up m1 152 r1 x3)))) ∧ (¬ (x2 % 2) = 1 → (P none m1)))))))))))))) : Tj mX12_setCrease 0 [some (rV 145), some (iV x1), some (iV x2), some (iV x3)] [] m P := by
  refine Tj.iload_n dX12_setCrease_0 rfl rfl ?_
  refine Tj.iconst dX12_setCrease_1 (by decide) rfl ?_
  refine Tj.icmp_ge dX12_setCrease_2 rfl rfl (fun c1 => ?_) (fun c1 => ?_)
  · have h := h.1 c1
    refine Tj.iload_n dX12_setCrease_5 rfl rfl ?_
    refine Tj.goto dX12_setCrease_6 rfl ?_
    refine Tj.istore dX12_setCrease_15 (Nat.le_of_ble_eq_true rfl) rfl rfl ?_
    refine Tj.iload dX12_setCrease_17 rfl rfl ?_
    refine Tj.iconst dX12_setCrease_19 (by decide) rfl ?_
    refine Tj.icmp_eq dX12_setCrease_20 rfl rfl (fun c2 => ?_) (fun c2 => ?_)
    · have h := h.1 c2
      refine Tj.iload dX12_setCrease_37 rfl rfl ?_
      refine Tj.iconst dX12_setCrease_39 (by decide) rfl ?_
      refine Tj.icmp_eq dX12_setCrease_40 rfl rfl (fun c3 => ?_) (fun c3 => ?_)
      · have h := h.1 c3
        exact Tj.vret dX12_setCrease_58 rfl h
      · have h := h.2 c3
        obtain ⟨o1, h⟩ := h
        refine Tj.iload_n dX12_setCrease_43 rfl rfl ?_
        refine Tj.iconst dX12_setCrease_44 (by decide) rfl ?_
        refine Tj.irem dX12_setCrease_45 o1 (by decide) rfl ?_
        refine Tj.iconst dX12_setCrease_46 (by decide) rfl ?_
        refine Tj.icmp_ne dX12_setCrease_47 rfl rfl (fun c4 => ?_) (fun c4 => ?_)
        · have h := h.1 c4
          obtain ⟨⟨o2, o3⟩, h⟩ := h
          refine Tj.aload_n dX12_setCrease_50 rfl rfl ?_
          refine Tj.getR (b := 152) dX12_setCrease_51 fl_X12_28 sh_145 rfl rfl ?_
          refine Tj.iload dX12_setCrease_54 rfl rfl ?_
          refine Tj.iload_n dX12_setCrease_56 rfl rfl ?_
          refine Tj.iast dX12_setCrease_57 sh_152 o2 o3 rfl ?_
          exact Tj.vret dX12_setCrease_58 rfl h
        · have h := h.2 c4
          exact Tj.vret dX12_setCrease_58 rfl h
    · have h := h.2 c2
      obtain ⟨o4, h⟩ := h
      refine Tj.iload_n dX12_setCrease_23 rfl rfl ?_
      refine Tj.iconst dX12_setCrease_24 (by decide) rfl ?_
      refine Tj.irem dX12_setCrease_25 o4 (by decide) rfl ?_
      refine Tj.if_ne dX12_setCrease_26 rfl rfl (fun c5 => ?_) (fun c5 => ?_)
      · have h := h.1 c5
        obtain ⟨⟨o5, o6⟩, h⟩ := h
        refine Tj.aload_n dX12_setCrease_29 rfl rfl ?_
        refine Tj.getR (b := 151) dX12_setCrease_30 fl_X12_25 sh_145 rfl rfl ?_
        refine Tj.iload dX12_setCrease_33 rfl rfl ?_
        refine Tj.iload_n dX12_setCrease_35 rfl rfl ?_
        refine Tj.iast dX12_setCrease_36 sh_151 o5 o6 rfl ?_
        refine Tj.iload dX12_setCrease_37 rfl rfl ?_
        refine Tj.iconst dX12_setCrease_39 (by decide) rfl ?_
        refine Tj.icmp_eq dX12_setCrease_40 rfl rfl (fun c6 => ?_) (fun c6 => ?_)
        · have h := h.1 c6
          exact Tj.vret dX12_setCrease_58 rfl h
        · have h := h.2 c6
          refine Tj.iload_n dX12_setCrease_43 rfl rfl ?_
          refine Tj.iconst dX12_setCrease_44 (by decide) rfl ?_
          refine Tj.irem dX12_setCrease_45 o4 (by decide) rfl ?_
          refine Tj.iconst dX12_setCrease_46 (by decide) rfl ?_
          refine Tj.icmp_ne dX12_setCrease_47 rfl rfl (fun c7 => ?_) (fun c7 => ?_)
          · have h := h.1 c7
            refine Tj.aload_n dX12_setCrease_50 rfl rfl ?_
            refine Tj.getR (b := 152) dX12_setCrease_51 fl_X12_28 sh_145 rfl rfl ?_
            refine Tj.iload dX12_setCrease_54 rfl rfl ?_
            refine Tj.iload_n dX12_setCrease_56 rfl rfl ?_
            refine Tj.iast dX12_setCrease_57 sh_152 o5 o6 rfl ?_
            exact Tj.vret dX12_setCrease_58 rfl h
          · have h := h.2 c7
            exact Tj.vret dX12_setCrease_58 rfl h
      · have h := h.2 c5
        refine Tj.iload dX12_setCrease_37 rfl rfl ?_
        refine Tj.iconst dX12_setCrease_39 (by decide) rfl ?_
        refine Tj.icmp_eq dX12_setCrease_40 rfl rfl (fun c8 => ?_) (fun c8 => ?_)
        · have h := h.1 c8
          exact Tj.vret dX12_setCrease_58 rfl h
        · have h := h.2 c8
          refine Tj.iload_n dX12_setCrease_43 rfl rfl ?_
          refine Tj.iconst dX12_setCrease_44 (by decide) rfl ?_
          refine Tj.irem dX12_setCrease_45 o4 (by decide) rfl ?_
          refine Tj.iconst dX12_setCrease_46 (by decide) rfl ?_
          refine Tj.icmp_ne dX12_setCrease_47 rfl rfl (fun c9 => ?_) (fun c9 => ?_)
          · have h := h.1 c9
            obtain ⟨⟨o7, o8⟩, h⟩ := h
            refine Tj.aload_n dX12_setCrease_50 rfl rfl ?_
            refine Tj.getR (b := 152) dX12_setCrease_51 fl_X12_28 sh_145 rfl rfl ?_
            refine Tj.iload dX12_setCrease_54 rfl rfl ?_
            refine Tj.iload_n dX12_setCrease_56 rfl rfl ?_
            refine Tj.iast dX12_setCrease_57 sh_152 o7 o8 rfl ?_
            exact Tj.vret dX12_setCrease_58 rfl h
          · have h := h.2 c9
            exact Tj.vret dX12_setCrease_58 rfl h
  · have h := h.2 c1
    refine Tj.aload_n dX12_setCrease_9 rfl rfl ?_
    refine Tj.iload_n dX12_setCrease_10 rfl rfl ?_
    refine Tj.iload_n dX12_setCrease_11 rfl rfl ?_
    refine Tj.callVi (as := [_, _]) (rest := []) dX12_setCrease_12 ln_X12_258 sh_145 (by decide) rfl rfl (Nat.le_of_ble_eq_true rfl) ⟨Nat.le_of_ble_eq_true rfl, Nat.le_of_ble_eq_true rfl⟩ (Nat.le_of_ble_eq_true rfl) rfl ?_
    refine Cli.mono h (fun r1 m1 h => ?_)
    refine Tj.istore dX12_setCrease_15 (Nat.le_of_ble_eq_true rfl) rfl rfl ?_
    refine Tj.iload dX12_setCrease_17 rfl rfl ?_
    refine Tj.iconst dX12_setCrease_19 (by decide) rfl ?_
    refine Tj.icmp_eq dX12_setCrease_20 rfl rfl (fun c10 => ?_) (fun c10 => ?_)
    · have h := h.1 c10
      refine Tj.iload dX12_setCrease_37 rfl rfl ?_
      refine Tj.iconst dX12_setCrease_39 (by decide) rfl ?_
      refine Tj.icmp_eq dX12_setCrease_40 rfl rfl (fun c11 => ?_) (fun c11 => ?_)
      · have h := h.1 c11
        exact Tj.vret dX12_setCrease_58 rfl h
      · have h := h.2 c11
        obtain ⟨o9, h⟩ := h
        refine Tj.iload_n dX12_setCrease_43 rfl rfl ?_
        refine Tj.iconst dX12_setCrease_44 (by decide) rfl ?_
        refine Tj.irem dX12_setCrease_45 o9 (by decide) rfl ?_
        refine Tj.iconst dX12_setCrease_46 (by decide) rfl ?_
        refine Tj.icmp_ne dX12_setCrease_47 rfl rfl (fun c12 => ?_) (fun c12 => ?_)
        · have h := h.1 c12
          obtain ⟨⟨o10, o11⟩, h⟩ := h
          refine Tj.aload_n dX12_setCrease_50 rfl rfl ?_
          refine Tj.getR (b := 152) dX12_setCrease_51 fl_X12_28 sh_145 rfl rfl ?_
          refine Tj.iload dX12_setCrease_54 rfl rfl ?_
          refine Tj.iload_n dX12_setCrease_56 rfl rfl ?_
          refine Tj.iast dX12_setCrease_57 sh_152 o10 o11 rfl ?_
          exact Tj.vret dX12_setCrease_58 rfl h
        · have h := h.2 c12
          exact Tj.vret dX12_setCrease_58 rfl h
    · have h := h.2 c10
      obtain ⟨o12, h⟩ := h
      refine Tj.iload_n dX12_setCrease_23 rfl rfl ?_
      refine Tj.iconst dX12_setCrease_24 (by decide) rfl ?_
      refine Tj.irem dX12_setCrease_25 o12 (by decide) rfl ?_
      refine Tj.if_ne dX12_setCrease_26 rfl rfl (fun c13 => ?_) (fun c13 => ?_)
      · have h := h.1 c13
        obtain ⟨⟨o13, o14⟩, h⟩ := h
        refine Tj.aload_n dX12_setCrease_29 rfl rfl ?_
        refine Tj.getR (b := 151) dX12_setCrease_30 fl_X12_25 sh_145 rfl rfl ?_
        refine Tj.iload dX12_setCrease_33 rfl rfl ?_
        refine Tj.iload_n dX12_setCrease_35 rfl rfl ?_
        refine Tj.iast dX12_setCrease_36 sh_151 o13 o14 rfl ?_
        refine Tj.iload dX12_setCrease_37 rfl rfl ?_
        refine Tj.iconst dX12_setCrease_39 (by decide) rfl ?_
        refine Tj.icmp_eq dX12_setCrease_40 rfl rfl (fun c14 => ?_) (fun c14 => ?_)
        · have h := h.1 c14
          exact Tj.vret dX12_setCrease_58 rfl h
        · have h := h.2 c14
          refine Tj.iload_n dX12_setCrease_43 rfl rfl ?_
          refine Tj.iconst dX12_setCrease_44 (by decide) rfl ?_
          refine Tj.irem dX12_setCrease_45 o12 (by decide) rfl ?_
          refine Tj.iconst dX12_setCrease_46 (by decide) rfl ?_
          refine Tj.icmp_ne dX12_setCrease_47 rfl rfl (fun c15 => ?_) (fun c15 => ?_)
          · have h := h.1 c15
            refine Tj.aload_n dX12_setCrease_50 rfl rfl ?_
            refine Tj.getR (b := 152) dX12_setCrease_51 fl_X12_28 sh_145 rfl rfl ?_
            refine Tj.iload dX12_setCrease_54 rfl rfl ?_
            refine Tj.iload_n dX12_setCrease_56 rfl rfl ?_
            refine Tj.iast dX12_setCrease_57 sh_152 o13 o14 rfl ?_
            exact Tj.vret dX12_setCrease_58 rfl h
          · have h := h.2 c15
            exact Tj.vret dX12_setCrease_58 rfl h
      · have h := h.2 c13
        refine Tj.iload dX12_setCrease_37 rfl rfl ?_
        refine Tj.iconst dX12_setCrease_39 (by decide) rfl ?_
        refine Tj.icmp_eq dX12_setCrease_40 rfl rfl (fun c16 => ?_) (fun c16 => ?_)
        · have h := h.1 c16
          exact Tj.vret dX12_setCrease_58 rfl h
        · have h := h.2 c16
          refine Tj.iload_n dX12_setCrease_43 rfl rfl ?_
          refine Tj.iconst dX12_setCrease_44 (by decide) rfl ?_
          refine Tj.irem dX12_setCrease_45 o12 (by decide) rfl ?_
          refine Tj.iconst dX12_setCrease_46 (by decide) rfl ?_
          refine Tj.icmp_ne dX12_setCrease_47 rfl rfl (fun c17 => ?_) (fun c17 => ?_)
          · have h := h.1 c17
            obtain ⟨⟨o15, o16⟩, h⟩ := h
            refine Tj.aload_n dX12_setCrease_50 rfl rfl ?_
            refine Tj.getR (b := 152) dX12_setCrease_51 fl_X12_28 sh_145 rfl rfl ?_
            refine Tj.iload dX12_setCrease_54 rfl rfl ?_
            refine Tj.iload_n dX12_setCrease_56 rfl rfl ?_
            refine Tj.iast dX12_setCrease_57 sh_152 o15 o16 rfl ?_
            exact Tj.vret dX12_setCrease_58 rfl h
          · have h := h.2 c17
            exact Tj.vret dX12_setCrease_58 rfl h

theorem wX12_isPlace_0 {m : tM} {P : Option tV → tM → Prop} {x0 : Int} {x1 : Int}  (h : Cli mX12_in [iV x0, iV (-30), iV 30] m (fun r1 m1 => ((r1 = 0 → (P (some (iV 0)) m1)) ∧ (¬ r1 = 0 → (Cli mX12_in [iV x1, iV (-30), iV 30] m1 (fun r2 m2 => (∀ v1 : Int, v1 = (if r2 = 0 then 0 else 1) → (P (some (iV v1)) m2)))))))) : Tj mX12_isPlace 0 [some (iV x0), some (iV x1)] [] m P := by
  refine Tj.iload_n dX12_isPlace_0 rfl rfl ?_
  refine Tj.bipush dX12_isPlace_1 (by decide) (by decide +kernel) rfl ?_
  refine Tj.bipush dX12_isPlace_3 (by decide) (by decide +kernel) rfl ?_
  refine Tj.callSi (as := [_, _, _]) (rest := []) dX12_isPlace_5 ln_X12_139 rfl rfl (Nat.le_of_ble_eq_true rfl) ⟨Nat.le_of_ble_eq_true rfl, Nat.le_of_ble_eq_true rfl⟩ (Nat.le_of_ble_eq_true rfl) rfl ?_
  refine Cli.mono h (fun r1 m1 h => ?_)
  refine Tj.if_eq dX12_isPlace_8 rfl rfl (fun c1 => ?_) (fun c1 => ?_)
  · have h := h.1 c1
    refine Tj.iconst dX12_isPlace_26 (by decide) rfl ?_
    exact Tj.zret dX12_isPlace_27 rfl (by decide) h
  · have h := h.2 c1
    refine Tj.iload_n dX12_isPlace_11 rfl rfl ?_
    refine Tj.bipush dX12_isPlace_12 (by decide) (by decide +kernel) rfl ?_
    refine Tj.bipush dX12_isPlace_14 (by decide) (by decide +kernel) rfl ?_
    refine Tj.callSi (as := [_, _, _]) (rest := []) dX12_isPlace_16 ln_X12_139 rfl rfl (Nat.le_of_ble_eq_true rfl) ⟨Nat.le_of_ble_eq_true rfl, Nat.le_of_ble_eq_true rfl⟩ (Nat.le_of_ble_eq_true rfl) rfl ?_
    refine Cli.mono h (fun r2 m2 h => ?_)
    have hj : Tj mX12_isPlace 27 [] [iV (if r2 = 0 then 0 else 1)] m2 P := by
      generalize hv1 : ((if r2 = 0 then 0 else 1) : Int) = v1
      have h := h v1 hv1.symm
      exact Tj.zret dX12_isPlace_27 rfl (by rw [← hv1]; (repeat' split) <;> simp) h
    refine Tj.if_eq dX12_isPlace_19 rfl rfl (fun c2 => ?_) (fun c2 => ?_)
    · refine Tj.iconst dX12_isPlace_26 (by decide) rfl ?_
      try simp only [if_pos c2] at hj ⊢
      exact Tj.cut hj trivial
    · refine Tj.iconst dX12_isPlace_22 (by decide) rfl ?_
      refine Tj.goto dX12_isPlace_23 rfl ?_
      try simp only [if_neg c2] at hj ⊢
      exact Tj.cut hj trivial

theorem wX12_spot_0 {m : tM} {P : Option tV → tM → Prop} {x1 : Int} {x2 : Int} {x3 : Int}  (h : Cli mX12_isPlace [iV x1, iV x2] (up m 145 0 0) (fun r1 m1 => ((r1 = 0 → (P (some (iV (-3))) m1)) ∧ (¬ r1 = 0 → (Cli mX12_in [iV x3, iV 0, iV 1] m1 (fun r2 m2 => ((r2 = 0 → (P (some (iV (-3))) m2)) ∧ (¬ r2 = 0 → (Cli mX12_spotAt [rV 145, iV x1, iV x2] m2 (fun r3 m3 => ((r3 = (-1) → ((x3 = 1 → (((m3 145 4) = 60 → (P (some (iV (-5))) m3)) ∧ (¬ (m3 145 4) = 60 → (Clv mX12_keep [rV 145] m3 (fun m4 => ((r3 = (-1) → ((x3 = 1 → (Clv mX12_place [rV 145, iV (m4 145 4), iV x1, iV x2, iV 0, iV 0] m4 (fun m5 => ((R32 ((m5 145 4) + 1)) ∧ (Clv mX12_sort [rV 145] (up m5 145 4 ((m5 145 4) + 1)) (fun m6 => ((r3 = (-1) → (∀ v1 : Int, v1 = (if r3 = (-1) then 0 else 1) → (P (some (iV v1)) m6))) ∧ (¬ r3 = (-1) → ((x3 = 0 → (Tj mX12_spot 110 [some (rV 145), none, none, none, some (iV r3), some (iV 0)] [] m6 P)) ∧ (¬ x3 = 0 → (∀ v2 : Int, v2 = (if r3 = (-1) then 0 else 1) → (P (some (iV v2)) m6)))))))))))) ∧ (¬ x3 = 1 → ((r3 = (-1) → (∀ v3 : Int, v3 = (if r3 = (-1) then 0 else 1) → (P (some (iV v3)) m4))) ∧ (¬ r3 = (-1) → ((x3 = 0 → (Tj mX12_spot 110 [some (rV 145), none, none, none, some (iV r3), some (iV 0)] [] m4 P)) ∧ (¬ x3 = 0 → (∀ v4 : Int, v4 = (if r3 = (-1) then 0 else 1) → (P (some (iV v4)) m4))))))))) ∧ (¬ r3 = (-1) → ((r3 = (-1) → (∀ v5 : Int, v5 = (if r3 = (-1) then 0 else 1) → (P (some (iV v5)) m4))) ∧ (¬ r3 = (-1) → ((x3 = 0 → (Tj mX12_spot 110 [some (rV 145), none, none, none, some (iV r3), some (iV 0)] [] m4 P)) ∧ (¬ x3 = 0 → (∀ v6 : Int, v6 = (if r3 = (-1) then 0 else 1) → (P (some (iV v6)) m4))))))))))))) ∧ (¬ x3 = 1 → (Clv mX12_keep [rV 145] m3 (fun m7 => ((r3 = (-1) → ((x3 = 1 → (Clv mX12_place [rV 145, iV (m7 145 4), iV x1, iV x2, iV 0, iV 0] m7 (fun m8 => ((R32 ((m8 145 4) + 1)) ∧ (Clv mX12_sort [rV 145] (up m8 145 4 ((m8 145 4) + 1)) (fun m9 => ((r3 = (-1) → (∀ v7 : Int, v7 = (if r3 = (-1) then 0 else 1) → (P (some (iV v7)) m9))) ∧ (¬ r3 = (-1) → ((x3 = 0 → (Tj mX12_spot 110 [some (rV 145), none, none, none, some (iV r3), some (iV 0)] [] m9 P)) ∧ (¬ x3 = 0 → (∀ v8 : Int, v8 = (if r3 = (-1) then 0 else 1) → (P (some (iV v8)) m9)))))))))))) ∧ (¬ x3 = 1 → ((r3 = (-1) → (∀ v9 : Int, v9 = (if r3 = (-1) then 0 else 1) → (P (some (iV v9)) m7))) ∧ (¬ r3 = (-1) → ((x3 = 0 → (Tj mX12_spot 110 [some (rV 145), none, none, none, some (iV r3), some (iV 0)] [] m7 P)) ∧ (¬ x3 = 0 → (∀ v10 : Int, v10 = (if r3 = (-1) then 0 else 1) → (P (some (iV v10)) m7))))))))) ∧ (¬ r3 = (-1) → ((r3 = (-1) → (∀ v11 : Int, v11 = (if r3 = (-1) then 0 else 1) → (P (some (iV v11)) m7))) ∧ (¬ r3 = (-1) → ((x3 = 0 → (Tj mX12_spot 110 [some (rV 145), none, none, none, some (iV r3), some (iV 0)] [] m7 P)) ∧ (¬ x3 = 0 → (∀ v12 : Int, v12 = (if r3 = (-1) then 0 else 1) → (P (some (iV v12)) m7))))))))))))) ∧ (¬ r3 = (-1) → (Clv mX12_keep [rV 145] m3 (fun m10 => ((r3 = (-1) → ((x3 = 1 → (Clv mX12_place [rV 145, iV (m10 145 4), iV x1, iV x2, iV 0, iV 0] m10 (fun m11 => ((R32 ((m11 145 4) + 1)) ∧ (Clv mX12_sort [rV 145] (up m11 145 4 ((m11 145 4) + 1)) (fun m12 => ((r3 = (-1) → (∀ v13 : Int, v13 = (if r3 = (-1) then 0 else 1) → (P (some (iV v13)) m12))) ∧ (¬ r3 = (-1) → ((x3 = 0 → (Tj mX12_spot 110 [some (rV 145), none, none, none, some (iV r3), some (iV 0)] [] m12 P)) ∧ (¬ x3 = 0 → (∀ v14 : Int, v14 = (if r3 = (-1) then 0 else 1) → (P (some (iV v14)) m12)))))))))))) ∧ (¬ x3 = 1 → ((r3 = (-1) → (∀ v15 : Int, v15 = (if r3 = (-1) then 0 else 1) → (P (some (iV v15)) m10))) ∧ (¬ r3 = (-1) → ((x3 = 0 → (Tj mX12_spot 110 [some (rV 145), none, none, none, some (iV r3), some (iV 0)] [] m10 P)) ∧ (¬ x3 = 0 → (∀ v16 : Int, v16 = (if r3 = (-1) then 0 else 1) → (P (some (iV v16)) m10))))))))) ∧ (¬ r3 = (-1) → ((r3 = (-1) → (∀ v17 : Int, v17 = (if r3 = (-1) then 0 else 1) → (P (some (iV v17)) m10))) ∧ (¬ r3 = (-1) → ((x3 = 0 → (Tj mX12_spot 110 [some (rV 145), none, none, none, some (iV r3), some (iV 0)] [] m10 P)) ∧ (¬ x3 = 0 → (∀ v18 : Int, v18 = (if r3 = (-1) then 0 else 1) → (P (some (iV v18)) m10)))))))))))))))))))))) : Tj mX12_spot 0 [some (rV 145), some (iV x1), some (iV x2), some (iV x3)] [] m P := by
  refine Tj.aload_n dX12_spot_0 rfl rfl ?_
  refine Tj.iconst dX12_spot_1 (by decide) rfl ?_
  refine Tj.pI (j := 0) dX12_spot_2 fp_X12_113 sh_145 rfl rfl ?_
  refine Tj.iload_n dX12_spot_5 rfl rfl ?_
  refine Tj.iload_n dX12_spot_6 rfl rfl ?_
  refine Tj.callSi (as := [_, _]) (rest := []) dX12_spot_7 ln_X12_261 rfl rfl (Nat.le_of_ble_eq_true rfl) ⟨Nat.le_of_ble_eq_true rfl, Nat.le_of_ble_eq_true rfl⟩ (Nat.le_of_ble_eq_true rfl) rfl ?_
  refine Cli.mono h (fun r1 m1 h => ?_)
  refine Tj.if_eq dX12_spot_10 rfl rfl (fun c1 => ?_) (fun c1 => ?_)
  · have h := h.1 c1
    refine Tj.bipush dX12_spot_22 (by decide) (by decide +kernel) rfl ?_
    exact Tj.iret dX12_spot_24 rfl h
  · have h := h.2 c1
    refine Tj.iload_n dX12_spot_13 rfl rfl ?_
    refine Tj.iconst dX12_spot_14 (by decide) rfl ?_
    refine Tj.iconst dX12_spot_15 (by decide) rfl ?_
    refine Tj.callSi (as := [_, _, _]) (rest := []) dX12_spot_16 ln_X12_139 rfl rfl (Nat.le_of_ble_eq_true rfl) ⟨Nat.le_of_ble_eq_true rfl, Nat.le_of_ble_eq_true rfl⟩ (Nat.le_of_ble_eq_true rfl) rfl ?_
    refine Cli.mono h (fun r2 m2 h => ?_)
    refine Tj.if_ne dX12_spot_19 rfl rfl (fun c2 => ?_) (fun c2 => ?_)
    · have h := h.1 c2
      refine Tj.bipush dX12_spot_22 (by decide) (by decide +kernel) rfl ?_
      exact Tj.iret dX12_spot_24 rfl h
    · have h := h.2 c2
      refine Tj.aload_n dX12_spot_25 rfl rfl ?_
      refine Tj.iload_n dX12_spot_26 rfl rfl ?_
      refine Tj.iload_n dX12_spot_27 rfl rfl ?_
      refine Tj.callVi (as := [_, _]) (rest := []) dX12_spot_28 ln_X12_255 sh_145 (by decide) rfl rfl (Nat.le_of_ble_eq_true rfl) ⟨Nat.le_of_ble_eq_true rfl, Nat.le_of_ble_eq_true rfl⟩ (Nat.le_of_ble_eq_true rfl) rfl ?_
      refine Cli.mono h (fun r3 m3 h => ?_)
      refine Tj.istore dX12_spot_31 (Nat.le_of_ble_eq_true rfl) rfl rfl ?_
      refine Tj.iload dX12_spot_33 rfl rfl ?_
      refine Tj.iconst dX12_spot_35 (by decide) rfl ?_
      refine Tj.icmp_ne dX12_spot_36 rfl rfl (fun c3 => ?_) (fun c3 => ?_)
      · have h := h.1 c3
        refine Tj.iload_n dX12_spot_39 rfl rfl ?_
        refine Tj.iconst dX12_spot_40 (by decide) rfl ?_
        refine Tj.icmp_ne dX12_spot_41 rfl rfl (fun c4 => ?_) (fun c4 => ?_)
        · have h := h.1 c4
          refine Tj.aload_n dX12_spot_44 rfl rfl ?_
          refine Tj.gI (j := 4) dX12_spot_45 fl_X12_127 sh_145 rfl rfl ?_
          refine Tj.bipush dX12_spot_48 (by decide) (by decide +kernel) rfl ?_
          refine Tj.icmp_ne dX12_spot_50 rfl rfl (fun c5 => ?_) (fun c5 => ?_)
          · have h := h.1 c5
            refine Tj.bipush dX12_spot_53 (by decide) (by decide +kernel) rfl ?_
            exact Tj.iret dX12_spot_55 rfl h
          · have h := h.2 c5
            refine Tj.aload_n dX12_spot_56 rfl rfl ?_
            refine Tj.callVv (as := []) (rest := []) dX12_spot_57 ln_X12_136 sh_145 (by decide) rfl rfl (Nat.le_of_ble_eq_true rfl) ⟨Nat.le_of_ble_eq_true rfl, Nat.le_of_ble_eq_true rfl⟩ (Nat.le_of_ble_eq_true rfl) rfl ?_
            refine Clv.mono h (fun m4 h => ?_)
            refine Tj.iload dX12_spot_60 rfl rfl ?_
            refine Tj.iconst dX12_spot_62 (by decide) rfl ?_
            refine Tj.icmp_ne dX12_spot_63 rfl rfl (fun c6 => ?_) (fun c6 => ?_)
            · have h := h.1 c6
              refine Tj.iload_n dX12_spot_66 rfl rfl ?_
              refine Tj.iconst dX12_spot_67 (by decide) rfl ?_
              refine Tj.icmp_ne dX12_spot_68 rfl rfl (fun c7 => ?_) (fun c7 => ?_)
              · have h := h.1 c7
                refine Tj.aload_n dX12_spot_71 rfl rfl ?_
                refine Tj.aload_n dX12_spot_72 rfl rfl ?_
                refine Tj.gI (j := 4) dX12_spot_73 fl_X12_127 sh_145 rfl rfl ?_
                refine Tj.iload_n dX12_spot_76 rfl rfl ?_
                refine Tj.iload_n dX12_spot_77 rfl rfl ?_
                refine Tj.iconst dX12_spot_78 (by decide) rfl ?_
                refine Tj.iconst dX12_spot_79 (by decide) rfl ?_
                refine Tj.callVv (as := [_, _, _, _, _]) (rest := []) dX12_spot_80 ln_X12_251 sh_145 (by decide) rfl rfl (Nat.le_of_ble_eq_true rfl) ⟨Nat.le_of_ble_eq_true rfl, Nat.le_of_ble_eq_true rfl⟩ (Nat.le_of_ble_eq_true rfl) rfl ?_
                refine Clv.mono h (fun m5 h => ?_)
                obtain ⟨o1, h⟩ := h
                refine Tj.aload_n dX12_spot_83 rfl rfl ?_
                refine Tj.dup dX12_spot_84 rfl rfl ?_
                refine Tj.gI (j := 4) dX12_spot_85 fl_X12_127 sh_145 rfl rfl ?_
                refine Tj.iconst dX12_spot_88 (by decide) rfl ?_
                refine Tj.iadd dX12_spot_89 o1 rfl ?_
                refine Tj.pI (j := 4) dX12_spot_90 fp_X12_127 sh_145 rfl rfl ?_
                refine Tj.aload_n dX12_spot_93 rfl rfl ?_
                refine Tj.callVv (as := []) (rest := []) dX12_spot_94 ln_X12_242 sh_145 (by decide) rfl rfl (Nat.le_of_ble_eq_true rfl) ⟨Nat.le_of_ble_eq_true rfl, Nat.le_of_ble_eq_true rfl⟩ (Nat.le_of_ble_eq_true rfl) rfl ?_
                refine Clv.mono h (fun m6 h => ?_)
                refine Tj.iload dX12_spot_97 rfl rfl ?_
                refine Tj.iconst dX12_spot_99 (by decide) rfl ?_
                refine Tj.icmp_eq dX12_spot_100 rfl rfl (fun c8 => ?_) (fun c8 => ?_)
                · have h := h.1 c8
                  refine Tj.iload dX12_spot_202 rfl rfl ?_
                  refine Tj.iconst dX12_spot_204 (by decide) rfl ?_
                  have hj : Tj mX12_spot 213 [] [iV (if r3 = (-1) then 0 else 1)] m6 P := by
                    generalize hv1 : ((if r3 = (-1) then 0 else 1) : Int) = v1
                    have h := h v1 hv1.symm
                    exact Tj.iret dX12_spot_213 rfl h
                  refine Tj.icmp_ne dX12_spot_205 rfl rfl (fun c9 => ?_) (fun c9 => ?_)
                  · refine Tj.iconst dX12_spot_208 (by decide) rfl ?_
                    refine Tj.goto dX12_spot_209 rfl ?_
                    try simp only [if_pos c9] at hj ⊢
                    exact Tj.cut hj trivial
                  · refine Tj.iconst dX12_spot_212 (by decide) rfl ?_
                    try simp only [if_neg c9] at hj ⊢
                    exact Tj.cut hj trivial
                · have h := h.2 c8
                  refine Tj.iload_n dX12_spot_103 rfl rfl ?_
                  refine Tj.if_ne dX12_spot_104 rfl rfl (fun c10 => ?_) (fun c10 => ?_)
                  · have h := h.1 c10
                    refine Tj.iconst dX12_spot_107 (by decide) rfl ?_
                    refine Tj.istore dX12_spot_108 (Nat.le_of_ble_eq_true rfl) rfl rfl ?_
                    exact Tj.cut h ⟨rfl, ⟨rfl, ⟨rfl, trivial⟩⟩⟩
                  · have h := h.2 c10
                    refine Tj.iload dX12_spot_202 rfl rfl ?_
                    refine Tj.iconst dX12_spot_204 (by decide) rfl ?_
                    have hj : Tj mX12_spot 213 [] [iV (if r3 = (-1) then 0 else 1)] m6 P := by
                      generalize hv2 : ((if r3 = (-1) then 0 else 1) : Int) = v2
                      have h := h v2 hv2.symm
                      exact Tj.iret dX12_spot_213 rfl h
                    refine Tj.icmp_ne dX12_spot_205 rfl rfl (fun c11 => ?_) (fun c11 => ?_)
                    · refine Tj.iconst dX12_spot_208 (by decide) rfl ?_
                      refine Tj.goto dX12_spot_209 rfl ?_
                      try simp only [if_pos c11] at hj ⊢
                      exact Tj.cut hj trivial
                    · refine Tj.iconst dX12_spot_212 (by decide) rfl ?_
                      try simp only [if_neg c11] at hj ⊢
                      exact Tj.cut hj trivial
              · have h := h.2 c7
                refine Tj.iload dX12_spot_97 rfl rfl ?_
                refine Tj.iconst dX12_spot_99 (by decide) rfl ?_
                refine Tj.icmp_eq dX12_spot_100 rfl rfl (fun c12 => ?_) (fun c12 => ?_)
                · have h := h.1 c12
                  refine Tj.iload dX12_spot_202 rfl rfl ?_
                  refine Tj.iconst dX12_spot_204 (by decide) rfl ?_
                  have hj : Tj mX12_spot 213 [] [iV (if r3 = (-1) then 0 else 1)] m4 P := by
                    generalize hv3 : ((if r3 = (-1) then 0 else 1) : Int) = v3
                    have h := h v3 hv3.symm
                    exact Tj.iret dX12_spot_213 rfl h
                  refine Tj.icmp_ne dX12_spot_205 rfl rfl (fun c13 => ?_) (fun c13 => ?_)
                  · refine Tj.iconst dX12_spot_208 (by decide) rfl ?_
                    refine Tj.goto dX12_spot_209 rfl ?_
                    try simp only [if_pos c13] at hj ⊢
                    exact Tj.cut hj trivial
                  · refine Tj.iconst dX12_spot_212 (by decide) rfl ?_
                    try simp only [if_neg c13] at hj ⊢
                    exact Tj.cut hj trivial
                · have h := h.2 c12
                  refine Tj.iload_n dX12_spot_103 rfl rfl ?_
                  refine Tj.if_ne dX12_spot_104 rfl rfl (fun c14 => ?_) (fun c14 => ?_)
                  · have h := h.1 c14
                    refine Tj.iconst dX12_spot_107 (by decide) rfl ?_
                    refine Tj.istore dX12_spot_108 (Nat.le_of_ble_eq_true rfl) rfl rfl ?_
                    exact Tj.cut h ⟨rfl, ⟨rfl, ⟨rfl, trivial⟩⟩⟩
                  · have h := h.2 c14
                    refine Tj.iload dX12_spot_202 rfl rfl ?_
                    refine Tj.iconst dX12_spot_204 (by decide) rfl ?_
                    have hj : Tj mX12_spot 213 [] [iV (if r3 = (-1) then 0 else 1)] m4 P := by
                      generalize hv4 : ((if r3 = (-1) then 0 else 1) : Int) = v4
                      have h := h v4 hv4.symm
                      exact Tj.iret dX12_spot_213 rfl h
                    refine Tj.icmp_ne dX12_spot_205 rfl rfl (fun c15 => ?_) (fun c15 => ?_)
                    · refine Tj.iconst dX12_spot_208 (by decide) rfl ?_
                      refine Tj.goto dX12_spot_209 rfl ?_
                      try simp only [if_pos c15] at hj ⊢
                      exact Tj.cut hj trivial
                    · refine Tj.iconst dX12_spot_212 (by decide) rfl ?_
                      try simp only [if_neg c15] at hj ⊢
                      exact Tj.cut hj trivial
            · have h := h.2 c6
              refine Tj.iload dX12_spot_97 rfl rfl ?_
              refine Tj.iconst dX12_spot_99 (by decide) rfl ?_
              refine Tj.icmp_eq dX12_spot_100 rfl rfl (fun c16 => ?_) (fun c16 => ?_)
              · have h := h.1 c16
                refine Tj.iload dX12_spot_202 rfl rfl ?_
                refine Tj.iconst dX12_spot_204 (by decide) rfl ?_
                have hj : Tj mX12_spot 213 [] [iV (if r3 = (-1) then 0 else 1)] m4 P := by
                  generalize hv5 : ((if r3 = (-1) then 0 else 1) : Int) = v5
                  have h := h v5 hv5.symm
                  exact Tj.iret dX12_spot_213 rfl h
                refine Tj.icmp_ne dX12_spot_205 rfl rfl (fun c17 => ?_) (fun c17 => ?_)
                · refine Tj.iconst dX12_spot_208 (by decide) rfl ?_
                  refine Tj.goto dX12_spot_209 rfl ?_
                  try simp only [if_pos c17] at hj ⊢
                  exact Tj.cut hj trivial
                · refine Tj.iconst dX12_spot_212 (by decide) rfl ?_
                  try simp only [if_neg c17] at hj ⊢
                  exact Tj.cut hj trivial
              · have h := h.2 c16
                refine Tj.iload_n dX12_spot_103 rfl rfl ?_
                refine Tj.if_ne dX12_spot_104 rfl rfl (fun c18 => ?_) (fun c18 => ?_)
                · have h := h.1 c18
                  refine Tj.iconst dX12_spot_107 (by decide) rfl ?_
                  refine Tj.istore dX12_spot_108 (Nat.le_of_ble_eq_true rfl) rfl rfl ?_
                  exact Tj.cut h ⟨rfl, ⟨rfl, ⟨rfl, trivial⟩⟩⟩
                · have h := h.2 c18
                  refine Tj.iload dX12_spot_202 rfl rfl ?_
                  refine Tj.iconst dX12_spot_204 (by decide) rfl ?_
                  have hj : Tj mX12_spot 213 [] [iV (if r3 = (-1) then 0 else 1)] m4 P := by
                    generalize hv6 : ((if r3 = (-1) then 0 else 1) : Int) = v6
                    have h := h v6 hv6.symm
                    exact Tj.iret dX12_spot_213 rfl h
                  refine Tj.icmp_ne dX12_spot_205 rfl rfl (fun c19 => ?_) (fun c19 => ?_)
                  · refine Tj.iconst dX12_spot_208 (by decide) rfl ?_
                    refine Tj.goto dX12_spot_209 rfl ?_
                    try simp only [if_pos c19] at hj ⊢
                    exact Tj.cut hj trivial
                  · refine Tj.iconst dX12_spot_212 (by decide) rfl ?_
                    try simp only [if_neg c19] at hj ⊢
                    exact Tj.cut hj trivial
        · have h := h.2 c4
          refine Tj.aload_n dX12_spot_56 rfl rfl ?_
          refine Tj.callVv (as := []) (rest := []) dX12_spot_57 ln_X12_136 sh_145 (by decide) rfl rfl (Nat.le_of_ble_eq_true rfl) ⟨Nat.le_of_ble_eq_true rfl, Nat.le_of_ble_eq_true rfl⟩ (Nat.le_of_ble_eq_true rfl) rfl ?_
          refine Clv.mono h (fun m7 h => ?_)
          refine Tj.iload dX12_spot_60 rfl rfl ?_
          refine Tj.iconst dX12_spot_62 (by decide) rfl ?_
          refine Tj.icmp_ne dX12_spot_63 rfl rfl (fun c20 => ?_) (fun c20 => ?_)
          · have h := h.1 c20
            refine Tj.iload_n dX12_spot_66 rfl rfl ?_
            refine Tj.iconst dX12_spot_67 (by decide) rfl ?_
            refine Tj.icmp_ne dX12_spot_68 rfl rfl (fun c21 => ?_) (fun c21 => ?_)
            · have h := h.1 c21
              refine Tj.aload_n dX12_spot_71 rfl rfl ?_
              refine Tj.aload_n dX12_spot_72 rfl rfl ?_
              refine Tj.gI (j := 4) dX12_spot_73 fl_X12_127 sh_145 rfl rfl ?_
              refine Tj.iload_n dX12_spot_76 rfl rfl ?_
              refine Tj.iload_n dX12_spot_77 rfl rfl ?_
              refine Tj.iconst dX12_spot_78 (by decide) rfl ?_
              refine Tj.iconst dX12_spot_79 (by decide) rfl ?_
              refine Tj.callVv (as := [_, _, _, _, _]) (rest := []) dX12_spot_80 ln_X12_251 sh_145 (by decide) rfl rfl (Nat.le_of_ble_eq_true rfl) ⟨Nat.le_of_ble_eq_true rfl, Nat.le_of_ble_eq_true rfl⟩ (Nat.le_of_ble_eq_true rfl) rfl ?_
              refine Clv.mono h (fun m8 h => ?_)
              obtain ⟨o2, h⟩ := h
              refine Tj.aload_n dX12_spot_83 rfl rfl ?_
              refine Tj.dup dX12_spot_84 rfl rfl ?_
              refine Tj.gI (j := 4) dX12_spot_85 fl_X12_127 sh_145 rfl rfl ?_
              refine Tj.iconst dX12_spot_88 (by decide) rfl ?_
              refine Tj.iadd dX12_spot_89 o2 rfl ?_
              refine Tj.pI (j := 4) dX12_spot_90 fp_X12_127 sh_145 rfl rfl ?_
              refine Tj.aload_n dX12_spot_93 rfl rfl ?_
              refine Tj.callVv (as := []) (rest := []) dX12_spot_94 ln_X12_242 sh_145 (by decide) rfl rfl (Nat.le_of_ble_eq_true rfl) ⟨Nat.le_of_ble_eq_true rfl, Nat.le_of_ble_eq_true rfl⟩ (Nat.le_of_ble_eq_true rfl) rfl ?_
              refine Clv.mono h (fun m9 h => ?_)
              refine Tj.iload dX12_spot_97 rfl rfl ?_
              refine Tj.iconst dX12_spot_99 (by decide) rfl ?_
              refine Tj.icmp_eq dX12_spot_100 rfl rfl (fun c22 => ?_) (fun c22 => ?_)
              · have h := h.1 c22
                refine Tj.iload dX12_spot_202 rfl rfl ?_
                refine Tj.iconst dX12_spot_204 (by decide) rfl ?_
                have hj : Tj mX12_spot 213 [] [iV (if r3 = (-1) then 0 else 1)] m9 P := by
                  generalize hv7 : ((if r3 = (-1) then 0 else 1) : Int) = v7
                  have h := h v7 hv7.symm
                  exact Tj.iret dX12_spot_213 rfl h
                refine Tj.icmp_ne dX12_spot_205 rfl rfl (fun c23 => ?_) (fun c23 => ?_)
                · refine Tj.iconst dX12_spot_208 (by decide) rfl ?_
                  refine Tj.goto dX12_spot_209 rfl ?_
                  try simp only [if_pos c23] at hj ⊢
                  exact Tj.cut hj trivial
                · refine Tj.iconst dX12_spot_212 (by decide) rfl ?_
                  try simp only [if_neg c23] at hj ⊢
                  exact Tj.cut hj trivial
              · have h := h.2 c22
                refine Tj.iload_n dX12_spot_103 rfl rfl ?_
                refine Tj.if_ne dX12_spot_104 rfl rfl (fun c24 => ?_) (fun c24 => ?_)
                · have h := h.1 c24
                  refine Tj.iconst dX12_spot_107 (by decide) rfl ?_
                  refine Tj.istore dX12_spot_108 (Nat.le_of_ble_eq_true rfl) rfl rfl ?_
                  exact Tj.cut h ⟨rfl, ⟨rfl, ⟨rfl, trivial⟩⟩⟩
                · have h := h.2 c24
                  refine Tj.iload dX12_spot_202 rfl rfl ?_
                  refine Tj.iconst dX12_spot_204 (by decide) rfl ?_
                  have hj : Tj mX12_spot 213 [] [iV (if r3 = (-1) then 0 else 1)] m9 P := by
                    generalize hv8 : ((if r3 = (-1) then 0 else 1) : Int) = v8
                    have h := h v8 hv8.symm
                    exact Tj.iret dX12_spot_213 rfl h
                  refine Tj.icmp_ne dX12_spot_205 rfl rfl (fun c25 => ?_) (fun c25 => ?_)
                  · refine Tj.iconst dX12_spot_208 (by decide) rfl ?_
                    refine Tj.goto dX12_spot_209 rfl ?_
                    try simp only [if_pos c25] at hj ⊢
                    exact Tj.cut hj trivial
                  · refine Tj.iconst dX12_spot_212 (by decide) rfl ?_
                    try simp only [if_neg c25] at hj ⊢
                    exact Tj.cut hj trivial
            · have h := h.2 c21
              refine Tj.iload dX12_spot_97 rfl rfl ?_
              refine Tj.iconst dX12_spot_99 (by decide) rfl ?_
              refine Tj.icmp_eq dX12_spot_100 rfl rfl (fun c26 => ?_) (fun c26 => ?_)
              · have h := h.1 c26
                refine Tj.iload dX12_spot_202 rfl rfl ?_
                refine Tj.iconst dX12_spot_204 (by decide) rfl ?_
                have hj : Tj mX12_spot 213 [] [iV (if r3 = (-1) then 0 else 1)] m7 P := by
                  generalize hv9 : ((if r3 = (-1) then 0 else 1) : Int) = v9
                  have h := h v9 hv9.symm
                  exact Tj.iret dX12_spot_213 rfl h
                refine Tj.icmp_ne dX12_spot_205 rfl rfl (fun c27 => ?_) (fun c27 => ?_)
                · refine Tj.iconst dX12_spot_208 (by decide) rfl ?_
                  refine Tj.goto dX12_spot_209 rfl ?_
                  try simp only [if_pos c27] at hj ⊢
                  exact Tj.cut hj trivial
                · refine Tj.iconst dX12_spot_212 (by decide) rfl ?_
                  try simp only [if_neg c27] at hj ⊢
                  exact Tj.cut hj trivial
              · have h := h.2 c26
                refine Tj.iload_n dX12_spot_103 rfl rfl ?_
                refine Tj.if_ne dX12_spot_104 rfl rfl (fun c28 => ?_) (fun c28 => ?_)
                · have h := h.1 c28
                  refine Tj.iconst dX12_spot_107 (by decide) rfl ?_
                  refine Tj.istore dX12_spot_108 (Nat.le_of_ble_eq_true rfl) rfl rfl ?_
                  exact Tj.cut h ⟨rfl, ⟨rfl, ⟨rfl, trivial⟩⟩⟩
                · have h := h.2 c28
                  refine Tj.iload dX12_spot_202 rfl rfl ?_
                  refine Tj.iconst dX12_spot_204 (by decide) rfl ?_
                  have hj : Tj mX12_spot 213 [] [iV (if r3 = (-1) then 0 else 1)] m7 P := by
                    generalize hv10 : ((if r3 = (-1) then 0 else 1) : Int) = v10
                    have h := h v10 hv10.symm
                    exact Tj.iret dX12_spot_213 rfl h
                  refine Tj.icmp_ne dX12_spot_205 rfl rfl (fun c29 => ?_) (fun c29 => ?_)
                  · refine Tj.iconst dX12_spot_208 (by decide) rfl ?_
                    refine Tj.goto dX12_spot_209 rfl ?_
                    try simp only [if_pos c29] at hj ⊢
                    exact Tj.cut hj trivial
                  · refine Tj.iconst dX12_spot_212 (by decide) rfl ?_
                    try simp only [if_neg c29] at hj ⊢
                    exact Tj.cut hj trivial
          · have h := h.2 c20
            refine Tj.iload dX12_spot_97 rfl rfl ?_
            refine Tj.iconst dX12_spot_99 (by decide) rfl ?_
            refine Tj.icmp_eq dX12_spot_100 rfl rfl (fun c30 => ?_) (fun c30 => ?_)
            · have h := h.1 c30
              refine Tj.iload dX12_spot_202 rfl rfl ?_
              refine Tj.iconst dX12_spot_204 (by decide) rfl ?_
              have hj : Tj mX12_spot 213 [] [iV (if r3 = (-1) then 0 else 1)] m7 P := by
                generalize hv11 : ((if r3 = (-1) then 0 else 1) : Int) = v11
                have h := h v11 hv11.symm
                exact Tj.iret dX12_spot_213 rfl h
              refine Tj.icmp_ne dX12_spot_205 rfl rfl (fun c31 => ?_) (fun c31 => ?_)
              · refine Tj.iconst dX12_spot_208 (by decide) rfl ?_
                refine Tj.goto dX12_spot_209 rfl ?_
                try simp only [if_pos c31] at hj ⊢
                exact Tj.cut hj trivial
              · refine Tj.iconst dX12_spot_212 (by decide) rfl ?_
                try simp only [if_neg c31] at hj ⊢
                exact Tj.cut hj trivial
            · have h := h.2 c30
              refine Tj.iload_n dX12_spot_103 rfl rfl ?_
              refine Tj.if_ne dX12_spot_104 rfl rfl (fun c32 => ?_) (fun c32 => ?_)
              · have h := h.1 c32
                refine Tj.iconst dX12_spot_107 (by decide) rfl ?_
                refine Tj.istore dX12_spot_108 (Nat.le_of_ble_eq_true rfl) rfl rfl ?_
                exact Tj.cut h ⟨rfl, ⟨rfl, ⟨rfl, trivial⟩⟩⟩
              · have h := h.2 c32
                refine Tj.iload dX12_spot_202 rfl rfl ?_
                refine Tj.iconst dX12_spot_204 (by decide) rfl ?_
                have hj : Tj mX12_spot 213 [] [iV (if r3 = (-1) then 0 else 1)] m7 P := by
                  generalize hv12 : ((if r3 = (-1) then 0 else 1) : Int) = v12
                  have h := h v12 hv12.symm
                  exact Tj.iret dX12_spot_213 rfl h
                refine Tj.icmp_ne dX12_spot_205 rfl rfl (fun c33 => ?_) (fun c33 => ?_)
                · refine Tj.iconst dX12_spot_208 (by decide) rfl ?_
                  refine Tj.goto dX12_spot_209 rfl ?_
                  try simp only [if_pos c33] at hj ⊢
                  exact Tj.cut hj trivial
                · refine Tj.iconst dX12_spot_212 (by decide) rfl ?_
                  try simp only [if_neg c33] at hj ⊢
                  exact Tj.cut hj trivial
      · have h := h.2 c3
        refine Tj.aload_n dX12_spot_56 rfl rfl ?_
        refine Tj.callVv (as := []) (rest := []) dX12_spot_57 ln_X12_136 sh_145 (by decide) rfl rfl (Nat.le_of_ble_eq_true rfl) ⟨Nat.le_of_ble_eq_true rfl, Nat.le_of_ble_eq_true rfl⟩ (Nat.le_of_ble_eq_true rfl) rfl ?_
        refine Clv.mono h (fun m10 h => ?_)
        refine Tj.iload dX12_spot_60 rfl rfl ?_
        refine Tj.iconst dX12_spot_62 (by decide) rfl ?_
        refine Tj.icmp_ne dX12_spot_63 rfl rfl (fun c34 => ?_) (fun c34 => ?_)
        · have h := h.1 c34
          refine Tj.iload_n dX12_spot_66 rfl rfl ?_
          refine Tj.iconst dX12_spot_67 (by decide) rfl ?_
          refine Tj.icmp_ne dX12_spot_68 rfl rfl (fun c35 => ?_) (fun c35 => ?_)
          · have h := h.1 c35
            refine Tj.aload_n dX12_spot_71 rfl rfl ?_
            refine Tj.aload_n dX12_spot_72 rfl rfl ?_
            refine Tj.gI (j := 4) dX12_spot_73 fl_X12_127 sh_145 rfl rfl ?_
            refine Tj.iload_n dX12_spot_76 rfl rfl ?_
            refine Tj.iload_n dX12_spot_77 rfl rfl ?_
            refine Tj.iconst dX12_spot_78 (by decide) rfl ?_
            refine Tj.iconst dX12_spot_79 (by decide) rfl ?_
            refine Tj.callVv (as := [_, _, _, _, _]) (rest := []) dX12_spot_80 ln_X12_251 sh_145 (by decide) rfl rfl (Nat.le_of_ble_eq_true rfl) ⟨Nat.le_of_ble_eq_true rfl, Nat.le_of_ble_eq_true rfl⟩ (Nat.le_of_ble_eq_true rfl) rfl ?_
            refine Clv.mono h (fun m11 h => ?_)
            obtain ⟨o3, h⟩ := h
            refine Tj.aload_n dX12_spot_83 rfl rfl ?_
            refine Tj.dup dX12_spot_84 rfl rfl ?_
            refine Tj.gI (j := 4) dX12_spot_85 fl_X12_127 sh_145 rfl rfl ?_
            refine Tj.iconst dX12_spot_88 (by decide) rfl ?_
            refine Tj.iadd dX12_spot_89 o3 rfl ?_
            refine Tj.pI (j := 4) dX12_spot_90 fp_X12_127 sh_145 rfl rfl ?_
            refine Tj.aload_n dX12_spot_93 rfl rfl ?_
            refine Tj.callVv (as := []) (rest := []) dX12_spot_94 ln_X12_242 sh_145 (by decide) rfl rfl (Nat.le_of_ble_eq_true rfl) ⟨Nat.le_of_ble_eq_true rfl, Nat.le_of_ble_eq_true rfl⟩ (Nat.le_of_ble_eq_true rfl) rfl ?_
            refine Clv.mono h (fun m12 h => ?_)
            refine Tj.iload dX12_spot_97 rfl rfl ?_
            refine Tj.iconst dX12_spot_99 (by decide) rfl ?_
            refine Tj.icmp_eq dX12_spot_100 rfl rfl (fun c36 => ?_) (fun c36 => ?_)
            · have h := h.1 c36
              refine Tj.iload dX12_spot_202 rfl rfl ?_
              refine Tj.iconst dX12_spot_204 (by decide) rfl ?_
              have hj : Tj mX12_spot 213 [] [iV (if r3 = (-1) then 0 else 1)] m12 P := by
                generalize hv13 : ((if r3 = (-1) then 0 else 1) : Int) = v13
                have h := h v13 hv13.symm
                exact Tj.iret dX12_spot_213 rfl h
              refine Tj.icmp_ne dX12_spot_205 rfl rfl (fun c37 => ?_) (fun c37 => ?_)
              · refine Tj.iconst dX12_spot_208 (by decide) rfl ?_
                refine Tj.goto dX12_spot_209 rfl ?_
                try simp only [if_pos c37] at hj ⊢
                exact Tj.cut hj trivial
              · refine Tj.iconst dX12_spot_212 (by decide) rfl ?_
                try simp only [if_neg c37] at hj ⊢
                exact Tj.cut hj trivial
            · have h := h.2 c36
              refine Tj.iload_n dX12_spot_103 rfl rfl ?_
              refine Tj.if_ne dX12_spot_104 rfl rfl (fun c38 => ?_) (fun c38 => ?_)
              · have h := h.1 c38
                refine Tj.iconst dX12_spot_107 (by decide) rfl ?_
                refine Tj.istore dX12_spot_108 (Nat.le_of_ble_eq_true rfl) rfl rfl ?_
                exact Tj.cut h ⟨rfl, ⟨rfl, ⟨rfl, trivial⟩⟩⟩
              · have h := h.2 c38
                refine Tj.iload dX12_spot_202 rfl rfl ?_
                refine Tj.iconst dX12_spot_204 (by decide) rfl ?_
                have hj : Tj mX12_spot 213 [] [iV (if r3 = (-1) then 0 else 1)] m12 P := by
                  generalize hv14 : ((if r3 = (-1) then 0 else 1) : Int) = v14
                  have h := h v14 hv14.symm
                  exact Tj.iret dX12_spot_213 rfl h
                refine Tj.icmp_ne dX12_spot_205 rfl rfl (fun c39 => ?_) (fun c39 => ?_)
                · refine Tj.iconst dX12_spot_208 (by decide) rfl ?_
                  refine Tj.goto dX12_spot_209 rfl ?_
                  try simp only [if_pos c39] at hj ⊢
                  exact Tj.cut hj trivial
                · refine Tj.iconst dX12_spot_212 (by decide) rfl ?_
                  try simp only [if_neg c39] at hj ⊢
                  exact Tj.cut hj trivial
          · have h := h.2 c35
            refine Tj.iload dX12_spot_97 rfl rfl ?_
            refine Tj.iconst dX12_spot_99 (by decide) rfl ?_
            refine Tj.icmp_eq dX12_spot_100 rfl rfl (fun c40 => ?_) (fun c40 => ?_)
            · have h := h.1 c40
              refine Tj.iload dX12_spot_202 rfl rfl ?_
              refine Tj.iconst dX12_spot_204 (by decide) rfl ?_
              have hj : Tj mX12_spot 213 [] [iV (if r3 = (-1) then 0 else 1)] m10 P := by
                generalize hv15 : ((if r3 = (-1) then 0 else 1) : Int) = v15
                have h := h v15 hv15.symm
                exact Tj.iret dX12_spot_213 rfl h
              refine Tj.icmp_ne dX12_spot_205 rfl rfl (fun c41 => ?_) (fun c41 => ?_)
              · refine Tj.iconst dX12_spot_208 (by decide) rfl ?_
                refine Tj.goto dX12_spot_209 rfl ?_
                try simp only [if_pos c41] at hj ⊢
                exact Tj.cut hj trivial
              · refine Tj.iconst dX12_spot_212 (by decide) rfl ?_
                try simp only [if_neg c41] at hj ⊢
                exact Tj.cut hj trivial
            · have h := h.2 c40
              refine Tj.iload_n dX12_spot_103 rfl rfl ?_
              refine Tj.if_ne dX12_spot_104 rfl rfl (fun c42 => ?_) (fun c42 => ?_)
              · have h := h.1 c42
                refine Tj.iconst dX12_spot_107 (by decide) rfl ?_
                refine Tj.istore dX12_spot_108 (Nat.le_of_ble_eq_true rfl) rfl rfl ?_
                exact Tj.cut h ⟨rfl, ⟨rfl, ⟨rfl, trivial⟩⟩⟩
              · have h := h.2 c42
                refine Tj.iload dX12_spot_202 rfl rfl ?_
                refine Tj.iconst dX12_spot_204 (by decide) rfl ?_
                have hj : Tj mX12_spot 213 [] [iV (if r3 = (-1) then 0 else 1)] m10 P := by
                  generalize hv16 : ((if r3 = (-1) then 0 else 1) : Int) = v16
                  have h := h v16 hv16.symm
                  exact Tj.iret dX12_spot_213 rfl h
                refine Tj.icmp_ne dX12_spot_205 rfl rfl (fun c43 => ?_) (fun c43 => ?_)
                · refine Tj.iconst dX12_spot_208 (by decide) rfl ?_
                  refine Tj.goto dX12_spot_209 rfl ?_
                  try simp only [if_pos c43] at hj ⊢
                  exact Tj.cut hj trivial
                · refine Tj.iconst dX12_spot_212 (by decide) rfl ?_
                  try simp only [if_neg c43] at hj ⊢
                  exact Tj.cut hj trivial
        · have h := h.2 c34
          refine Tj.iload dX12_spot_97 rfl rfl ?_
          refine Tj.iconst dX12_spot_99 (by decide) rfl ?_
          refine Tj.icmp_eq dX12_spot_100 rfl rfl (fun c44 => ?_) (fun c44 => ?_)
          · have h := h.1 c44
            refine Tj.iload dX12_spot_202 rfl rfl ?_
            refine Tj.iconst dX12_spot_204 (by decide) rfl ?_
            have hj : Tj mX12_spot 213 [] [iV (if r3 = (-1) then 0 else 1)] m10 P := by
              generalize hv17 : ((if r3 = (-1) then 0 else 1) : Int) = v17
              have h := h v17 hv17.symm
              exact Tj.iret dX12_spot_213 rfl h
            refine Tj.icmp_ne dX12_spot_205 rfl rfl (fun c45 => ?_) (fun c45 => ?_)
            · refine Tj.iconst dX12_spot_208 (by decide) rfl ?_
              refine Tj.goto dX12_spot_209 rfl ?_
              try simp only [if_pos c45] at hj ⊢
              exact Tj.cut hj trivial
            · refine Tj.iconst dX12_spot_212 (by decide) rfl ?_
              try simp only [if_neg c45] at hj ⊢
              exact Tj.cut hj trivial
          · have h := h.2 c44
            refine Tj.iload_n dX12_spot_103 rfl rfl ?_
            refine Tj.if_ne dX12_spot_104 rfl rfl (fun c46 => ?_) (fun c46 => ?_)
            · have h := h.1 c46
              refine Tj.iconst dX12_spot_107 (by decide) rfl ?_
              refine Tj.istore dX12_spot_108 (Nat.le_of_ble_eq_true rfl) rfl rfl ?_
              exact Tj.cut h ⟨rfl, ⟨rfl, ⟨rfl, trivial⟩⟩⟩
            · have h := h.2 c46
              refine Tj.iload dX12_spot_202 rfl rfl ?_
              refine Tj.iconst dX12_spot_204 (by decide) rfl ?_
              have hj : Tj mX12_spot 213 [] [iV (if r3 = (-1) then 0 else 1)] m10 P := by
                generalize hv18 : ((if r3 = (-1) then 0 else 1) : Int) = v18
                have h := h v18 hv18.symm
                exact Tj.iret dX12_spot_213 rfl h
              refine Tj.icmp_ne dX12_spot_205 rfl rfl (fun c47 => ?_) (fun c47 => ?_)
              · refine Tj.iconst dX12_spot_208 (by decide) rfl ?_
                refine Tj.goto dX12_spot_209 rfl ?_
                try simp only [if_pos c47] at hj ⊢
                exact Tj.cut hj trivial
              · refine Tj.iconst dX12_spot_212 (by decide) rfl ?_
                try simp only [if_neg c47] at hj ⊢
                exact Tj.cut hj trivial

theorem wX12_spot_110 {m : tM} {P : Option tV → tM → Prop} {x4 : Int} {x5 : Int}  (h : (x5 < 4 → (Clv mX12_setCrease [rV 145, iV x4, iV x5, iV 0] m (fun m1 => ((R32 (x5 + 1)) ∧ (Tj mX12_spot 110 [some (rV 145), none, none, none, some (iV x4), some (iV (x5 + 1))] [] m1 P))))) ∧ (¬ x5 < 4 → ((R32 ((m 145 4) - 1)) ∧ (Tj mX12_spot 145 [some (rV 145), none, none, none, some (iV x4), some (iV x4)] [] (up m 145 4 ((m 145 4) - 1)) P)))) : Tj mX12_spot 110 [some (rV 145), none, none, none, some (iV x4), some (iV x5)] [] m P := by
  refine Tj.iload dX12_spot_110 rfl rfl ?_
  refine Tj.iconst dX12_spot_112 (by decide) rfl ?_
  refine Tj.icmp_ge dX12_spot_113 rfl rfl (fun c1 => ?_) (fun c1 => ?_)
  · have h := h.1 c1
    refine Tj.aload_n dX12_spot_116 rfl rfl ?_
    refine Tj.iload dX12_spot_117 rfl rfl ?_
    refine Tj.iload dX12_spot_119 rfl rfl ?_
    refine Tj.iconst dX12_spot_121 (by decide) rfl ?_
    refine Tj.callVv (as := [_, _, _]) (rest := []) dX12_spot_122 ln_X12_265 sh_145 (by decide) rfl rfl (Nat.le_of_ble_eq_true rfl) ⟨Nat.le_of_ble_eq_true rfl, Nat.le_of_ble_eq_true rfl⟩ (Nat.le_of_ble_eq_true rfl) rfl ?_
    refine Clv.mono h (fun m1 h => ?_)
    obtain ⟨o1, h⟩ := h
    refine Tj.iinc dX12_spot_125 rfl (Nat.le_of_ble_eq_true rfl) rfl o1 rfl ?_
    refine Tj.goto dX12_spot_128 rfl ?_
    exact Tj.cut h ⟨rfl, ⟨rfl, ⟨rfl, trivial⟩⟩⟩
  · have h := h.2 c1
    obtain ⟨o2, h⟩ := h
    refine Tj.aload_n dX12_spot_131 rfl rfl ?_
    refine Tj.dup dX12_spot_132 rfl rfl ?_
    refine Tj.gI (j := 4) dX12_spot_133 fl_X12_127 sh_145 rfl rfl ?_
    refine Tj.iconst dX12_spot_136 (by decide) rfl ?_
    refine Tj.isub dX12_spot_137 o2 rfl ?_
    refine Tj.pI (j := 4) dX12_spot_138 fp_X12_127 sh_145 rfl rfl ?_
    refine Tj.iload dX12_spot_141 rfl rfl ?_
    refine Tj.istore dX12_spot_143 (Nat.le_of_ble_eq_true rfl) rfl rfl ?_
    exact Tj.cut h ⟨rfl, ⟨rfl, ⟨rfl, trivial⟩⟩⟩

theorem wX12_spot_145 {m : tM} {P : Option tV → tM → Prop} {x4 : Int} {x5 : Int}  (h : (x5 < (m 145 4) → ((R32 (x5 + 1) ∧ 0 ≤ (x5 + 1) ∧ (x5 + 1) < 60) ∧ (Clv mX12_place [rV 145, iV x5, iV (m 149 (x5 + 1)), iV (m 150 (x5 + 1)), iV (m 151 (x5 + 1)), iV (m 152 (x5 + 1))] m (fun m1 => (Tj mX12_spot 145 [some (rV 145), none, none, none, some (iV x4), some (iV (x5 + 1))] [] m1 P))))) ∧ (¬ x5 < (m 145 4) → (∀ v1 : Int, v1 = (if x4 = (-1) then 0 else 1) → (P (some (iV v1)) m)))) : Tj mX12_spot 145 [some (rV 145), none, none, none, some (iV x4), some (iV x5)] [] m P := by
  refine Tj.iload dX12_spot_145 rfl rfl ?_
  refine Tj.aload_n dX12_spot_147 rfl rfl ?_
  refine Tj.gI (j := 4) dX12_spot_148 fl_X12_127 sh_145 rfl rfl ?_
  refine Tj.icmp_ge dX12_spot_151 rfl rfl (fun c1 => ?_) (fun c1 => ?_)
  · have h := h.1 c1
    obtain ⟨⟨o1, o2, o3⟩, h⟩ := h
    refine Tj.aload_n dX12_spot_154 rfl rfl ?_
    refine Tj.iload dX12_spot_155 rfl rfl ?_
    refine Tj.aload_n dX12_spot_157 rfl rfl ?_
    refine Tj.getR (b := 149) dX12_spot_158 fl_X12_19 sh_145 rfl rfl ?_
    refine Tj.iload dX12_spot_161 rfl rfl ?_
    refine Tj.iconst dX12_spot_163 (by decide) rfl ?_
    refine Tj.iadd dX12_spot_164 o1 rfl ?_
    refine Tj.iald dX12_spot_165 sh_149 o2 o3 rfl ?_
    refine Tj.aload_n dX12_spot_166 rfl rfl ?_
    refine Tj.getR (b := 150) dX12_spot_167 fl_X12_22 sh_145 rfl rfl ?_
    refine Tj.iload dX12_spot_170 rfl rfl ?_
    refine Tj.iconst dX12_spot_172 (by decide) rfl ?_
    refine Tj.iadd dX12_spot_173 o1 rfl ?_
    refine Tj.iald dX12_spot_174 sh_150 o2 o3 rfl ?_
    refine Tj.aload_n dX12_spot_175 rfl rfl ?_
    refine Tj.getR (b := 151) dX12_spot_176 fl_X12_25 sh_145 rfl rfl ?_
    refine Tj.iload dX12_spot_179 rfl rfl ?_
    refine Tj.iconst dX12_spot_181 (by decide) rfl ?_
    refine Tj.iadd dX12_spot_182 o1 rfl ?_
    refine Tj.iald dX12_spot_183 sh_151 o2 o3 rfl ?_
    refine Tj.aload_n dX12_spot_184 rfl rfl ?_
    refine Tj.getR (b := 152) dX12_spot_185 fl_X12_28 sh_145 rfl rfl ?_
    refine Tj.iload dX12_spot_188 rfl rfl ?_
    refine Tj.iconst dX12_spot_190 (by decide) rfl ?_
    refine Tj.iadd dX12_spot_191 o1 rfl ?_
    refine Tj.iald dX12_spot_192 sh_152 o2 o3 rfl ?_
    refine Tj.callVv (as := [_, _, _, _, _]) (rest := []) dX12_spot_193 ln_X12_251 sh_145 (by decide) rfl rfl (Nat.le_of_ble_eq_true rfl) ⟨Nat.le_of_ble_eq_true rfl, Nat.le_of_ble_eq_true rfl⟩ (Nat.le_of_ble_eq_true rfl) rfl ?_
    refine Clv.mono h (fun m1 h => ?_)
    refine Tj.iinc dX12_spot_196 rfl (Nat.le_of_ble_eq_true rfl) rfl o1 rfl ?_
    refine Tj.goto dX12_spot_199 rfl ?_
    exact Tj.cut h ⟨rfl, ⟨rfl, ⟨rfl, trivial⟩⟩⟩
  · have h := h.2 c1
    refine Tj.iload dX12_spot_202 rfl rfl ?_
    refine Tj.iconst dX12_spot_204 (by decide) rfl ?_
    have hj : Tj mX12_spot 213 [] [iV (if x4 = (-1) then 0 else 1)] m P := by
      generalize hv1 : ((if x4 = (-1) then 0 else 1) : Int) = v1
      have h := h v1 hv1.symm
      exact Tj.iret dX12_spot_213 rfl h
    refine Tj.icmp_ne dX12_spot_205 rfl rfl (fun c2 => ?_) (fun c2 => ?_)
    · refine Tj.iconst dX12_spot_208 (by decide) rfl ?_
      refine Tj.goto dX12_spot_209 rfl ?_
      try simp only [if_pos c2] at hj ⊢
      exact Tj.cut hj trivial
    · refine Tj.iconst dX12_spot_212 (by decide) rfl ?_
      try simp only [if_neg c2] at hj ⊢
      exact Tj.cut hj trivial

theorem wX12_toldOf_0 {m : tM} {P : Option tV → tM → Prop} {x0 : Int}  (h : (x0 = 0 → (P (some (iV 5)) m)) ∧ (¬ x0 = 0 → ((x0 = 1 → (P (some (iV 9)) m)) ∧ (¬ x0 = 1 → ((R32 (x0 - 2)) ∧ (P (some (iV (x0 - 2))) m)))))) : Tj mX12_toldOf 0 [some (iV x0)] [] m P := by
  refine Tj.iload_n dX12_toldOf_0 rfl rfl ?_
  refine Tj.if_ne dX12_toldOf_1 rfl rfl (fun c1 => ?_) (fun c1 => ?_)
  · have h := h.1 c1
    refine Tj.iconst dX12_toldOf_4 (by decide) rfl ?_
    refine Tj.goto dX12_toldOf_5 rfl ?_
    exact Tj.iret dX12_toldOf_21 rfl h
  · have h := h.2 c1
    refine Tj.iload_n dX12_toldOf_8 rfl rfl ?_
    refine Tj.iconst dX12_toldOf_9 (by decide) rfl ?_
    refine Tj.icmp_ne dX12_toldOf_10 rfl rfl (fun c2 => ?_) (fun c2 => ?_)
    · have h := h.1 c2
      refine Tj.bipush dX12_toldOf_13 (by decide) (by decide +kernel) rfl ?_
      refine Tj.goto dX12_toldOf_15 rfl ?_
      exact Tj.iret dX12_toldOf_21 rfl h
    · have h := h.2 c2
      obtain ⟨o1, h⟩ := h
      refine Tj.iload_n dX12_toldOf_18 rfl rfl ?_
      refine Tj.iconst dX12_toldOf_19 (by decide) rfl ?_
      refine Tj.isub dX12_toldOf_20 o1 rfl ?_
      exact Tj.iret dX12_toldOf_21 rfl h

theorem wX12_crease_0 {m : tM} {P : Option tV → tM → Prop} {x1 : Int} {x2 : Int} {x3 : Int} {x4 : Int}  (h : Cli mX12_isPlace [iV x1, iV x2] (up m 145 0 0) (fun r1 m1 => ((r1 = 0 → (P (some (iV (-3))) m1)) ∧ (¬ r1 = 0 → (Cli mX12_in [iV x3, iV 0, iV 3] m1 (fun r2 m2 => ((r2 = 0 → (P (some (iV (-3))) m2)) ∧ (¬ r2 = 0 → ((x4 = 0 → (Cli mX12_spotAt [rV 145, iV x1, iV x2] m2 (fun r3 m3 => ((r3 = (-1) → (P (some (iV (-4))) m3)) ∧ (¬ r3 = (-1) → (Cli mX12_neighbour [rV 145, iV r3, iV x3] m3 (fun r4 m4 => ((r4 = (-1) → (P (some (iV (-4))) m4)) ∧ (¬ r4 = (-1) → (Clv mX12_keep [rV 145] m4 (fun m5 => (Cli mX12_creaseOf [rV 145, iV r3, iV x3] m5 (fun r5 m6 => (Cli mX12_toldOf [iV r5] m6 (fun r6 m7 => ((x4 = 5 → (Clv mX12_setCrease [rV 145, iV r3, iV x3, iV 0] m7 (fun m8 => (P (some (iV r6)) m8)))) ∧ (¬ x4 = 5 → ((x4 = 9 → (Clv mX12_setCrease [rV 145, iV r3, iV x3, iV 1] m7 (fun m9 => (P (some (iV r6)) m9)))) ∧ (¬ x4 = 9 → ((R32 (2 + x4)) ∧ (Clv mX12_setCrease [rV 145, iV r3, iV x3, iV (2 + x4)] m7 (fun m10 => (P (some (iV r6)) m10))))))))))))))))))))))) ∧ (¬ x4 = 0 → ((x4 = 1 → (Cli mX12_spotAt [rV 145, iV x1, iV x2] m2 (fun r7 m11 => ((r7 = (-1) → (P (some (iV (-4))) m11)) ∧ (¬ r7 = (-1) → (Cli mX12_neighbour [rV 145, iV r7, iV x3] m11 (fun r8 m12 => ((r8 = (-1) → (P (some (iV (-4))) m12)) ∧ (¬ r8 = (-1) → (Clv mX12_keep [rV 145] m12 (fun m13 => (Cli mX12_creaseOf [rV 145, iV r7, iV x3] m13 (fun r9 m14 => (Cli mX12_toldOf [iV r9] m14 (fun r10 m15 => ((x4 = 5 → (Clv mX12_setCrease [rV 145, iV r7, iV x3, iV 0] m15 (fun m16 => (P (some (iV r10)) m16)))) ∧ (¬ x4 = 5 → ((x4 = 9 → (Clv mX12_setCrease [rV 145, iV r7, iV x3, iV 1] m15 (fun m17 => (P (some (iV r10)) m17)))) ∧ (¬ x4 = 9 → ((R32 (2 + x4)) ∧ (Clv mX12_setCrease [rV 145, iV r7, iV x3, iV (2 + x4)] m15 (fun m18 => (P (some (iV r10)) m18))))))))))))))))))))))) ∧ (¬ x4 = 1 → ((x4 = 5 → (Cli mX12_spotAt [rV 145, iV x1, iV x2] m2 (fun r11 m19 => ((r11 = (-1) → (P (some (iV (-4))) m19)) ∧ (¬ r11 = (-1) → (Cli mX12_neighbour [rV 145, iV r11, iV x3] m19 (fun r12 m20 => ((r12 = (-1) → (P (some (iV (-4))) m20)) ∧ (¬ r12 = (-1) → (Clv mX12_keep [rV 145] m20 (fun m21 => (Cli mX12_creaseOf [rV 145, iV r11, iV x3] m21 (fun r13 m22 => (Cli mX12_toldOf [iV r13] m22 (fun r14 m23 => ((x4 = 5 → (Clv mX12_setCrease [rV 145, iV r11, iV x3, iV 0] m23 (fun m24 => (P (some (iV r14)) m24)))) ∧ (¬ x4 = 5 → ((x4 = 9 → (Clv mX12_setCrease [rV 145, iV r11, iV x3, iV 1] m23 (fun m25 => (P (some (iV r14)) m25)))) ∧ (¬ x4 = 9 → ((R32 (2 + x4)) ∧ (Clv mX12_setCrease [rV 145, iV r11, iV x3, iV (2 + x4)] m23 (fun m26 => (P (some (iV r14)) m26))))))))))))))))))))))) ∧ (¬ x4 = 5 → ((x4 = 9 → (Cli mX12_spotAt [rV 145, iV x1, iV x2] m2 (fun r15 m27 => ((r15 = (-1) → (P (some (iV (-4))) m27)) ∧ (¬ r15 = (-1) → (Cli mX12_neighbour [rV 145, iV r15, iV x3] m27 (fun r16 m28 => ((r16 = (-1) → (P (some (iV (-4))) m28)) ∧ (¬ r16 = (-1) → (Clv mX12_keep [rV 145] m28 (fun m29 => (Cli mX12_creaseOf [rV 145, iV r15, iV x3] m29 (fun r17 m30 => (Cli mX12_toldOf [iV r17] m30 (fun r18 m31 => ((x4 = 5 → (Clv mX12_setCrease [rV 145, iV r15, iV x3, iV 0] m31 (fun m32 => (P (some (iV r18)) m32)))) ∧ (¬ x4 = 5 → ((x4 = 9 → (Clv mX12_setCrease [rV 145, iV r15, iV x3, iV 1] m31 (fun m33 => (P (some (iV r18)) m33)))) ∧ (¬ x4 = 9 → ((R32 (2 + x4)) ∧ (Clv mX12_setCrease [rV 145, iV r15, iV x3, iV (2 + x4)] m31 (fun m34 => (P (some (iV r18)) m34))))))))))))))))))))))) ∧ (¬ x4 = 9 → (P (some (iV (-3))) m2))))))))))))))))) : Tj mX12_crease 0 [some (rV 145), some (iV x1), some (iV x2), some (iV x3), some (iV x4)] [] m P := by
  refine Tj.aload_n dX12_crease_0 rfl rfl ?_
  refine Tj.iconst dX12_crease_1 (by decide) rfl ?_
  refine Tj.pI (j := 0) dX12_crease_2 fp_X12_113 sh_145 rfl rfl ?_
  refine Tj.iload_n dX12_crease_5 rfl rfl ?_
  refine Tj.iload_n dX12_crease_6 rfl rfl ?_
  refine Tj.callSi (as := [_, _]) (rest := []) dX12_crease_7 ln_X12_261 rfl rfl (Nat.le_of_ble_eq_true rfl) ⟨Nat.le_of_ble_eq_true rfl, Nat.le_of_ble_eq_true rfl⟩ (Nat.le_of_ble_eq_true rfl) rfl ?_
  refine Cli.mono h (fun r1 m1 h => ?_)
  refine Tj.if_eq dX12_crease_10 rfl rfl (fun c1 => ?_) (fun c1 => ?_)
  · have h := h.1 c1
    refine Tj.bipush dX12_crease_46 (by decide) (by decide +kernel) rfl ?_
    exact Tj.iret dX12_crease_48 rfl h
  · have h := h.2 c1
    refine Tj.iload_n dX12_crease_13 rfl rfl ?_
    refine Tj.iconst dX12_crease_14 (by decide) rfl ?_
    refine Tj.iconst dX12_crease_15 (by decide) rfl ?_
    refine Tj.callSi (as := [_, _, _]) (rest := []) dX12_crease_16 ln_X12_139 rfl rfl (Nat.le_of_ble_eq_true rfl) ⟨Nat.le_of_ble_eq_true rfl, Nat.le_of_ble_eq_true rfl⟩ (Nat.le_of_ble_eq_true rfl) rfl ?_
    refine Cli.mono h (fun r2 m2 h => ?_)
    refine Tj.if_eq dX12_crease_19 rfl rfl (fun c2 => ?_) (fun c2 => ?_)
    · have h := h.1 c2
      refine Tj.bipush dX12_crease_46 (by decide) (by decide +kernel) rfl ?_
      exact Tj.iret dX12_crease_48 rfl h
    · have h := h.2 c2
      refine Tj.iload dX12_crease_22 rfl rfl ?_
      refine Tj.if_eq dX12_crease_24 rfl rfl (fun c3 => ?_) (fun c3 => ?_)
      · have h := h.1 c3
        refine Tj.aload_n dX12_crease_49 rfl rfl ?_
        refine Tj.iload_n dX12_crease_50 rfl rfl ?_
        refine Tj.iload_n dX12_crease_51 rfl rfl ?_
        refine Tj.callVi (as := [_, _]) (rest := []) dX12_crease_52 ln_X12_255 sh_145 (by decide) rfl rfl (Nat.le_of_ble_eq_true rfl) ⟨Nat.le_of_ble_eq_true rfl, Nat.le_of_ble_eq_true rfl⟩ (Nat.le_of_ble_eq_true rfl) rfl ?_
        refine Cli.mono h (fun r3 m3 h => ?_)
        refine Tj.istore dX12_crease_55 (Nat.le_of_ble_eq_true rfl) rfl rfl ?_
        refine Tj.iload dX12_crease_57 rfl rfl ?_
        refine Tj.iconst dX12_crease_59 (by decide) rfl ?_
        refine Tj.icmp_eq dX12_crease_60 rfl rfl (fun c4 => ?_) (fun c4 => ?_)
        · have h := h.1 c4
          refine Tj.bipush dX12_crease_74 (by decide) (by decide +kernel) rfl ?_
          exact Tj.iret dX12_crease_76 rfl h
        · have h := h.2 c4
          refine Tj.aload_n dX12_crease_63 rfl rfl ?_
          refine Tj.iload dX12_crease_64 rfl rfl ?_
          refine Tj.iload_n dX12_crease_66 rfl rfl ?_
          refine Tj.callVi (as := [_, _]) (rest := []) dX12_crease_67 ln_X12_258 sh_145 (by decide) rfl rfl (Nat.le_of_ble_eq_true rfl) ⟨Nat.le_of_ble_eq_true rfl, Nat.le_of_ble_eq_true rfl⟩ (Nat.le_of_ble_eq_true rfl) rfl ?_
          refine Cli.mono h (fun r4 m4 h => ?_)
          refine Tj.iconst dX12_crease_70 (by decide) rfl ?_
          refine Tj.icmp_ne dX12_crease_71 rfl rfl (fun c5 => ?_) (fun c5 => ?_)
          · have h := h.1 c5
            refine Tj.bipush dX12_crease_74 (by decide) (by decide +kernel) rfl ?_
            exact Tj.iret dX12_crease_76 rfl h
          · have h := h.2 c5
            refine Tj.aload_n dX12_crease_77 rfl rfl ?_
            refine Tj.callVv (as := []) (rest := []) dX12_crease_78 ln_X12_136 sh_145 (by decide) rfl rfl (Nat.le_of_ble_eq_true rfl) ⟨Nat.le_of_ble_eq_true rfl, Nat.le_of_ble_eq_true rfl⟩ (Nat.le_of_ble_eq_true rfl) rfl ?_
            refine Clv.mono h (fun m5 h => ?_)
            refine Tj.aload_n dX12_crease_81 rfl rfl ?_
            refine Tj.iload dX12_crease_82 rfl rfl ?_
            refine Tj.iload_n dX12_crease_84 rfl rfl ?_
            refine Tj.callVi (as := [_, _]) (rest := []) dX12_crease_85 ln_X12_269 sh_145 (by decide) rfl rfl (Nat.le_of_ble_eq_true rfl) ⟨Nat.le_of_ble_eq_true rfl, Nat.le_of_ble_eq_true rfl⟩ (Nat.le_of_ble_eq_true rfl) rfl ?_
            refine Cli.mono h (fun r5 m6 h => ?_)
            refine Tj.callSi (as := [_]) (rest := []) dX12_crease_88 ln_X12_272 rfl rfl (Nat.le_of_ble_eq_true rfl) ⟨Nat.le_of_ble_eq_true rfl, Nat.le_of_ble_eq_true rfl⟩ (Nat.le_of_ble_eq_true rfl) rfl ?_
            refine Cli.mono h (fun r6 m7 h => ?_)
            refine Tj.istore dX12_crease_91 (Nat.le_of_ble_eq_true rfl) rfl rfl ?_
            refine Tj.aload_n dX12_crease_93 rfl rfl ?_
            refine Tj.iload dX12_crease_94 rfl rfl ?_
            refine Tj.iload_n dX12_crease_96 rfl rfl ?_
            refine Tj.iload dX12_crease_97 rfl rfl ?_
            refine Tj.iconst dX12_crease_99 (by decide) rfl ?_
            refine Tj.icmp_ne dX12_crease_100 rfl rfl (fun c6 => ?_) (fun c6 => ?_)
            · have h := h.1 c6
              refine Tj.iconst dX12_crease_103 (by decide) rfl ?_
              refine Tj.goto dX12_crease_104 rfl ?_
              refine Tj.callVv (as := [_, _, _]) (rest := []) dX12_crease_122 ln_X12_265 sh_145 (by decide) rfl rfl (Nat.le_of_ble_eq_true rfl) ⟨Nat.le_of_ble_eq_true rfl, Nat.le_of_ble_eq_true rfl⟩ (Nat.le_of_ble_eq_true rfl) rfl ?_
              refine Clv.mono h (fun m8 h => ?_)
              refine Tj.iload dX12_crease_125 rfl rfl ?_
              exact Tj.iret dX12_crease_127 rfl h
            · have h := h.2 c6
              refine Tj.iload dX12_crease_107 rfl rfl ?_
              refine Tj.bipush dX12_crease_109 (by decide) (by decide +kernel) rfl ?_
              refine Tj.icmp_ne dX12_crease_111 rfl rfl (fun c7 => ?_) (fun c7 => ?_)
              · have h := h.1 c7
                refine Tj.iconst dX12_crease_114 (by decide) rfl ?_
                refine Tj.goto dX12_crease_115 rfl ?_
                refine Tj.callVv (as := [_, _, _]) (rest := []) dX12_crease_122 ln_X12_265 sh_145 (by decide) rfl rfl (Nat.le_of_ble_eq_true rfl) ⟨Nat.le_of_ble_eq_true rfl, Nat.le_of_ble_eq_true rfl⟩ (Nat.le_of_ble_eq_true rfl) rfl ?_
                refine Clv.mono h (fun m9 h => ?_)
                refine Tj.iload dX12_crease_125 rfl rfl ?_
                exact Tj.iret dX12_crease_127 rfl h
              · have h := h.2 c7
                obtain ⟨o1, h⟩ := h
                refine Tj.iconst dX12_crease_118 (by decide) rfl ?_
                refine Tj.iload dX12_crease_119 rfl rfl ?_
                refine Tj.iadd dX12_crease_121 o1 rfl ?_
                refine Tj.callVv (as := [_, _, _]) (rest := []) dX12_crease_122 ln_X12_265 sh_145 (by decide) rfl rfl (Nat.le_of_ble_eq_true rfl) ⟨Nat.le_of_ble_eq_true rfl, Nat.le_of_ble_eq_true rfl⟩ (Nat.le_of_ble_eq_true rfl) rfl ?_
                refine Clv.mono h (fun m10 h => ?_)
                refine Tj.iload dX12_crease_125 rfl rfl ?_
                exact Tj.iret dX12_crease_127 rfl h
      · have h := h.2 c3
        refine Tj.iload dX12_crease_27 rfl rfl ?_
        refine Tj.iconst dX12_crease_29 (by decide) rfl ?_
        refine Tj.icmp_eq dX12_crease_30 rfl rfl (fun c8 => ?_) (fun c8 => ?_)
        · have h := h.1 c8
          refine Tj.aload_n dX12_crease_49 rfl rfl ?_
          refine Tj.iload_n dX12_crease_50 rfl rfl ?_
          refine Tj.iload_n dX12_crease_51 rfl rfl ?_
          refine Tj.callVi (as := [_, _]) (rest := []) dX12_crease_52 ln_X12_255 sh_145 (by decide) rfl rfl (Nat.le_of_ble_eq_true rfl) ⟨Nat.le_of_ble_eq_true rfl, Nat.le_of_ble_eq_true rfl⟩ (Nat.le_of_ble_eq_true rfl) rfl ?_
          refine Cli.mono h (fun r7 m11 h => ?_)
          refine Tj.istore dX12_crease_55 (Nat.le_of_ble_eq_true rfl) rfl rfl ?_
          refine Tj.iload dX12_crease_57 rfl rfl ?_
          refine Tj.iconst dX12_crease_59 (by decide) rfl ?_
          refine Tj.icmp_eq dX12_crease_60 rfl rfl (fun c9 => ?_) (fun c9 => ?_)
          · have h := h.1 c9
            refine Tj.bipush dX12_crease_74 (by decide) (by decide +kernel) rfl ?_
            exact Tj.iret dX12_crease_76 rfl h
          · have h := h.2 c9
            refine Tj.aload_n dX12_crease_63 rfl rfl ?_
            refine Tj.iload dX12_crease_64 rfl rfl ?_
            refine Tj.iload_n dX12_crease_66 rfl rfl ?_
            refine Tj.callVi (as := [_, _]) (rest := []) dX12_crease_67 ln_X12_258 sh_145 (by decide) rfl rfl (Nat.le_of_ble_eq_true rfl) ⟨Nat.le_of_ble_eq_true rfl, Nat.le_of_ble_eq_true rfl⟩ (Nat.le_of_ble_eq_true rfl) rfl ?_
            refine Cli.mono h (fun r8 m12 h => ?_)
            refine Tj.iconst dX12_crease_70 (by decide) rfl ?_
            refine Tj.icmp_ne dX12_crease_71 rfl rfl (fun c10 => ?_) (fun c10 => ?_)
            · have h := h.1 c10
              refine Tj.bipush dX12_crease_74 (by decide) (by decide +kernel) rfl ?_
              exact Tj.iret dX12_crease_76 rfl h
            · have h := h.2 c10
              refine Tj.aload_n dX12_crease_77 rfl rfl ?_
              refine Tj.callVv (as := []) (rest := []) dX12_crease_78 ln_X12_136 sh_145 (by decide) rfl rfl (Nat.le_of_ble_eq_true rfl) ⟨Nat.le_of_ble_eq_true rfl, Nat.le_of_ble_eq_true rfl⟩ (Nat.le_of_ble_eq_true rfl) rfl ?_
              refine Clv.mono h (fun m13 h => ?_)
              refine Tj.aload_n dX12_crease_81 rfl rfl ?_
              refine Tj.iload dX12_crease_82 rfl rfl ?_
              refine Tj.iload_n dX12_crease_84 rfl rfl ?_
              refine Tj.callVi (as := [_, _]) (rest := []) dX12_crease_85 ln_X12_269 sh_145 (by decide) rfl rfl (Nat.le_of_ble_eq_true rfl) ⟨Nat.le_of_ble_eq_true rfl, Nat.le_of_ble_eq_true rfl⟩ (Nat.le_of_ble_eq_true rfl) rfl ?_
              refine Cli.mono h (fun r9 m14 h => ?_)
              refine Tj.callSi (as := [_]) (rest := []) dX12_crease_88 ln_X12_272 rfl rfl (Nat.le_of_ble_eq_true rfl) ⟨Nat.le_of_ble_eq_true rfl, Nat.le_of_ble_eq_true rfl⟩ (Nat.le_of_ble_eq_true rfl) rfl ?_
              refine Cli.mono h (fun r10 m15 h => ?_)
              refine Tj.istore dX12_crease_91 (Nat.le_of_ble_eq_true rfl) rfl rfl ?_
              refine Tj.aload_n dX12_crease_93 rfl rfl ?_
              refine Tj.iload dX12_crease_94 rfl rfl ?_
              refine Tj.iload_n dX12_crease_96 rfl rfl ?_
              refine Tj.iload dX12_crease_97 rfl rfl ?_
              refine Tj.iconst dX12_crease_99 (by decide) rfl ?_
              refine Tj.icmp_ne dX12_crease_100 rfl rfl (fun c11 => ?_) (fun c11 => ?_)
              · have h := h.1 c11
                refine Tj.iconst dX12_crease_103 (by decide) rfl ?_
                refine Tj.goto dX12_crease_104 rfl ?_
                refine Tj.callVv (as := [_, _, _]) (rest := []) dX12_crease_122 ln_X12_265 sh_145 (by decide) rfl rfl (Nat.le_of_ble_eq_true rfl) ⟨Nat.le_of_ble_eq_true rfl, Nat.le_of_ble_eq_true rfl⟩ (Nat.le_of_ble_eq_true rfl) rfl ?_
                refine Clv.mono h (fun m16 h => ?_)
                refine Tj.iload dX12_crease_125 rfl rfl ?_
                exact Tj.iret dX12_crease_127 rfl h
              · have h := h.2 c11
                refine Tj.iload dX12_crease_107 rfl rfl ?_
                refine Tj.bipush dX12_crease_109 (by decide) (by decide +kernel) rfl ?_
                refine Tj.icmp_ne dX12_crease_111 rfl rfl (fun c12 => ?_) (fun c12 => ?_)
                · have h := h.1 c12
                  refine Tj.iconst dX12_crease_114 (by decide) rfl ?_
                  refine Tj.goto dX12_crease_115 rfl ?_
                  refine Tj.callVv (as := [_, _, _]) (rest := []) dX12_crease_122 ln_X12_265 sh_145 (by decide) rfl rfl (Nat.le_of_ble_eq_true rfl) ⟨Nat.le_of_ble_eq_true rfl, Nat.le_of_ble_eq_true rfl⟩ (Nat.le_of_ble_eq_true rfl) rfl ?_
                  refine Clv.mono h (fun m17 h => ?_)
                  refine Tj.iload dX12_crease_125 rfl rfl ?_
                  exact Tj.iret dX12_crease_127 rfl h
                · have h := h.2 c12
                  obtain ⟨o2, h⟩ := h
                  refine Tj.iconst dX12_crease_118 (by decide) rfl ?_
                  refine Tj.iload dX12_crease_119 rfl rfl ?_
                  refine Tj.iadd dX12_crease_121 o2 rfl ?_
                  refine Tj.callVv (as := [_, _, _]) (rest := []) dX12_crease_122 ln_X12_265 sh_145 (by decide) rfl rfl (Nat.le_of_ble_eq_true rfl) ⟨Nat.le_of_ble_eq_true rfl, Nat.le_of_ble_eq_true rfl⟩ (Nat.le_of_ble_eq_true rfl) rfl ?_
                  refine Clv.mono h (fun m18 h => ?_)
                  refine Tj.iload dX12_crease_125 rfl rfl ?_
                  exact Tj.iret dX12_crease_127 rfl h
        · have h := h.2 c8
          refine Tj.iload dX12_crease_33 rfl rfl ?_
          refine Tj.iconst dX12_crease_35 (by decide) rfl ?_
          refine Tj.icmp_eq dX12_crease_36 rfl rfl (fun c13 => ?_) (fun c13 => ?_)
          · have h := h.1 c13
            refine Tj.aload_n dX12_crease_49 rfl rfl ?_
            refine Tj.iload_n dX12_crease_50 rfl rfl ?_
            refine Tj.iload_n dX12_crease_51 rfl rfl ?_
            refine Tj.callVi (as := [_, _]) (rest := []) dX12_crease_52 ln_X12_255 sh_145 (by decide) rfl rfl (Nat.le_of_ble_eq_true rfl) ⟨Nat.le_of_ble_eq_true rfl, Nat.le_of_ble_eq_true rfl⟩ (Nat.le_of_ble_eq_true rfl) rfl ?_
            refine Cli.mono h (fun r11 m19 h => ?_)
            refine Tj.istore dX12_crease_55 (Nat.le_of_ble_eq_true rfl) rfl rfl ?_
            refine Tj.iload dX12_crease_57 rfl rfl ?_
            refine Tj.iconst dX12_crease_59 (by decide) rfl ?_
            refine Tj.icmp_eq dX12_crease_60 rfl rfl (fun c14 => ?_) (fun c14 => ?_)
            · have h := h.1 c14
              refine Tj.bipush dX12_crease_74 (by decide) (by decide +kernel) rfl ?_
              exact Tj.iret dX12_crease_76 rfl h
            · have h := h.2 c14
              refine Tj.aload_n dX12_crease_63 rfl rfl ?_
              refine Tj.iload dX12_crease_64 rfl rfl ?_
              refine Tj.iload_n dX12_crease_66 rfl rfl ?_
              refine Tj.callVi (as := [_, _]) (rest := []) dX12_crease_67 ln_X12_258 sh_145 (by decide) rfl rfl (Nat.le_of_ble_eq_true rfl) ⟨Nat.le_of_ble_eq_true rfl, Nat.le_of_ble_eq_true rfl⟩ (Nat.le_of_ble_eq_true rfl) rfl ?_
              refine Cli.mono h (fun r12 m20 h => ?_)
              refine Tj.iconst dX12_crease_70 (by decide) rfl ?_
              refine Tj.icmp_ne dX12_crease_71 rfl rfl (fun c15 => ?_) (fun c15 => ?_)
              · have h := h.1 c15
                refine Tj.bipush dX12_crease_74 (by decide) (by decide +kernel) rfl ?_
                exact Tj.iret dX12_crease_76 rfl h
              · have h := h.2 c15
                refine Tj.aload_n dX12_crease_77 rfl rfl ?_
                refine Tj.callVv (as := []) (rest := []) dX12_crease_78 ln_X12_136 sh_145 (by decide) rfl rfl (Nat.le_of_ble_eq_true rfl) ⟨Nat.le_of_ble_eq_true rfl, Nat.le_of_ble_eq_true rfl⟩ (Nat.le_of_ble_eq_true rfl) rfl ?_
                refine Clv.mono h (fun m21 h => ?_)
                refine Tj.aload_n dX12_crease_81 rfl rfl ?_
                refine Tj.iload dX12_crease_82 rfl rfl ?_
                refine Tj.iload_n dX12_crease_84 rfl rfl ?_
                refine Tj.callVi (as := [_, _]) (rest := []) dX12_crease_85 ln_X12_269 sh_145 (by decide) rfl rfl (Nat.le_of_ble_eq_true rfl) ⟨Nat.le_of_ble_eq_true rfl, Nat.le_of_ble_eq_true rfl⟩ (Nat.le_of_ble_eq_true rfl) rfl ?_
                refine Cli.mono h (fun r13 m22 h => ?_)
                refine Tj.callSi (as := [_]) (rest := []) dX12_crease_88 ln_X12_272 rfl rfl (Nat.le_of_ble_eq_true rfl) ⟨Nat.le_of_ble_eq_true rfl, Nat.le_of_ble_eq_true rfl⟩ (Nat.le_of_ble_eq_true rfl) rfl ?_
                refine Cli.mono h (fun r14 m23 h => ?_)
                refine Tj.istore dX12_crease_91 (Nat.le_of_ble_eq_true rfl) rfl rfl ?_
                refine Tj.aload_n dX12_crease_93 rfl rfl ?_
                refine Tj.iload dX12_crease_94 rfl rfl ?_
                refine Tj.iload_n dX12_crease_96 rfl rfl ?_
                refine Tj.iload dX12_crease_97 rfl rfl ?_
                refine Tj.iconst dX12_crease_99 (by decide) rfl ?_
                refine Tj.icmp_ne dX12_crease_100 rfl rfl (fun c16 => ?_) (fun c16 => ?_)
                · have h := h.1 c16
                  refine Tj.iconst dX12_crease_103 (by decide) rfl ?_
                  refine Tj.goto dX12_crease_104 rfl ?_
                  refine Tj.callVv (as := [_, _, _]) (rest := []) dX12_crease_122 ln_X12_265 sh_145 (by decide) rfl rfl (Nat.le_of_ble_eq_true rfl) ⟨Nat.le_of_ble_eq_true rfl, Nat.le_of_ble_eq_true rfl⟩ (Nat.le_of_ble_eq_true rfl) rfl ?_
                  refine Clv.mono h (fun m24 h => ?_)
                  refine Tj.iload dX12_crease_125 rfl rfl ?_
                  exact Tj.iret dX12_crease_127 rfl h
                · have h := h.2 c16
                  refine Tj.iload dX12_crease_107 rfl rfl ?_
                  refine Tj.bipush dX12_crease_109 (by decide) (by decide +kernel) rfl ?_
                  refine Tj.icmp_ne dX12_crease_111 rfl rfl (fun c17 => ?_) (fun c17 => ?_)
                  · have h := h.1 c17
                    refine Tj.iconst dX12_crease_114 (by decide) rfl ?_
                    refine Tj.goto dX12_crease_115 rfl ?_
                    refine Tj.callVv (as := [_, _, _]) (rest := []) dX12_crease_122 ln_X12_265 sh_145 (by decide) rfl rfl (Nat.le_of_ble_eq_true rfl) ⟨Nat.le_of_ble_eq_true rfl, Nat.le_of_ble_eq_true rfl⟩ (Nat.le_of_ble_eq_true rfl) rfl ?_
                    refine Clv.mono h (fun m25 h => ?_)
                    refine Tj.iload dX12_crease_125 rfl rfl ?_
                    exact Tj.iret dX12_crease_127 rfl h
                  · have h := h.2 c17
                    obtain ⟨o3, h⟩ := h
                    refine Tj.iconst dX12_crease_118 (by decide) rfl ?_
                    refine Tj.iload dX12_crease_119 rfl rfl ?_
                    refine Tj.iadd dX12_crease_121 o3 rfl ?_
                    refine Tj.callVv (as := [_, _, _]) (rest := []) dX12_crease_122 ln_X12_265 sh_145 (by decide) rfl rfl (Nat.le_of_ble_eq_true rfl) ⟨Nat.le_of_ble_eq_true rfl, Nat.le_of_ble_eq_true rfl⟩ (Nat.le_of_ble_eq_true rfl) rfl ?_
                    refine Clv.mono h (fun m26 h => ?_)
                    refine Tj.iload dX12_crease_125 rfl rfl ?_
                    exact Tj.iret dX12_crease_127 rfl h
          · have h := h.2 c13
            refine Tj.iload dX12_crease_39 rfl rfl ?_
            refine Tj.bipush dX12_crease_41 (by decide) (by decide +kernel) rfl ?_
            refine Tj.icmp_eq dX12_crease_43 rfl rfl (fun c18 => ?_) (fun c18 => ?_)
            · have h := h.1 c18
              refine Tj.aload_n dX12_crease_49 rfl rfl ?_
              refine Tj.iload_n dX12_crease_50 rfl rfl ?_
              refine Tj.iload_n dX12_crease_51 rfl rfl ?_
              refine Tj.callVi (as := [_, _]) (rest := []) dX12_crease_52 ln_X12_255 sh_145 (by decide) rfl rfl (Nat.le_of_ble_eq_true rfl) ⟨Nat.le_of_ble_eq_true rfl, Nat.le_of_ble_eq_true rfl⟩ (Nat.le_of_ble_eq_true rfl) rfl ?_
              refine Cli.mono h (fun r15 m27 h => ?_)
              refine Tj.istore dX12_crease_55 (Nat.le_of_ble_eq_true rfl) rfl rfl ?_
              refine Tj.iload dX12_crease_57 rfl rfl ?_
              refine Tj.iconst dX12_crease_59 (by decide) rfl ?_
              refine Tj.icmp_eq dX12_crease_60 rfl rfl (fun c19 => ?_) (fun c19 => ?_)
              · have h := h.1 c19
                refine Tj.bipush dX12_crease_74 (by decide) (by decide +kernel) rfl ?_
                exact Tj.iret dX12_crease_76 rfl h
              · have h := h.2 c19
                refine Tj.aload_n dX12_crease_63 rfl rfl ?_
                refine Tj.iload dX12_crease_64 rfl rfl ?_
                refine Tj.iload_n dX12_crease_66 rfl rfl ?_
                refine Tj.callVi (as := [_, _]) (rest := []) dX12_crease_67 ln_X12_258 sh_145 (by decide) rfl rfl (Nat.le_of_ble_eq_true rfl) ⟨Nat.le_of_ble_eq_true rfl, Nat.le_of_ble_eq_true rfl⟩ (Nat.le_of_ble_eq_true rfl) rfl ?_
                refine Cli.mono h (fun r16 m28 h => ?_)
                refine Tj.iconst dX12_crease_70 (by decide) rfl ?_
                refine Tj.icmp_ne dX12_crease_71 rfl rfl (fun c20 => ?_) (fun c20 => ?_)
                · have h := h.1 c20
                  refine Tj.bipush dX12_crease_74 (by decide) (by decide +kernel) rfl ?_
                  exact Tj.iret dX12_crease_76 rfl h
                · have h := h.2 c20
                  refine Tj.aload_n dX12_crease_77 rfl rfl ?_
                  refine Tj.callVv (as := []) (rest := []) dX12_crease_78 ln_X12_136 sh_145 (by decide) rfl rfl (Nat.le_of_ble_eq_true rfl) ⟨Nat.le_of_ble_eq_true rfl, Nat.le_of_ble_eq_true rfl⟩ (Nat.le_of_ble_eq_true rfl) rfl ?_
                  refine Clv.mono h (fun m29 h => ?_)
                  refine Tj.aload_n dX12_crease_81 rfl rfl ?_
                  refine Tj.iload dX12_crease_82 rfl rfl ?_
                  refine Tj.iload_n dX12_crease_84 rfl rfl ?_
                  refine Tj.callVi (as := [_, _]) (rest := []) dX12_crease_85 ln_X12_269 sh_145 (by decide) rfl rfl (Nat.le_of_ble_eq_true rfl) ⟨Nat.le_of_ble_eq_true rfl, Nat.le_of_ble_eq_true rfl⟩ (Nat.le_of_ble_eq_true rfl) rfl ?_
                  refine Cli.mono h (fun r17 m30 h => ?_)
                  refine Tj.callSi (as := [_]) (rest := []) dX12_crease_88 ln_X12_272 rfl rfl (Nat.le_of_ble_eq_true rfl) ⟨Nat.le_of_ble_eq_true rfl, Nat.le_of_ble_eq_true rfl⟩ (Nat.le_of_ble_eq_true rfl) rfl ?_
                  refine Cli.mono h (fun r18 m31 h => ?_)
                  refine Tj.istore dX12_crease_91 (Nat.le_of_ble_eq_true rfl) rfl rfl ?_
                  refine Tj.aload_n dX12_crease_93 rfl rfl ?_
                  refine Tj.iload dX12_crease_94 rfl rfl ?_
                  refine Tj.iload_n dX12_crease_96 rfl rfl ?_
                  refine Tj.iload dX12_crease_97 rfl rfl ?_
                  refine Tj.iconst dX12_crease_99 (by decide) rfl ?_
                  refine Tj.icmp_ne dX12_crease_100 rfl rfl (fun c21 => ?_) (fun c21 => ?_)
                  · have h := h.1 c21
                    refine Tj.iconst dX12_crease_103 (by decide) rfl ?_
                    refine Tj.goto dX12_crease_104 rfl ?_
                    refine Tj.callVv (as := [_, _, _]) (rest := []) dX12_crease_122 ln_X12_265 sh_145 (by decide) rfl rfl (Nat.le_of_ble_eq_true rfl) ⟨Nat.le_of_ble_eq_true rfl, Nat.le_of_ble_eq_true rfl⟩ (Nat.le_of_ble_eq_true rfl) rfl ?_
                    refine Clv.mono h (fun m32 h => ?_)
                    refine Tj.iload dX12_crease_125 rfl rfl ?_
                    exact Tj.iret dX12_crease_127 rfl h
                  · have h := h.2 c21
                    refine Tj.iload dX12_crease_107 rfl rfl ?_
                    refine Tj.bipush dX12_crease_109 (by decide) (by decide +kernel) rfl ?_
                    refine Tj.icmp_ne dX12_crease_111 rfl rfl (fun c22 => ?_) (fun c22 => ?_)
                    · have h := h.1 c22
                      refine Tj.iconst dX12_crease_114 (by decide) rfl ?_
                      refine Tj.goto dX12_crease_115 rfl ?_
                      refine Tj.callVv (as := [_, _, _]) (rest := []) dX12_crease_122 ln_X12_265 sh_145 (by decide) rfl rfl (Nat.le_of_ble_eq_true rfl) ⟨Nat.le_of_ble_eq_true rfl, Nat.le_of_ble_eq_true rfl⟩ (Nat.le_of_ble_eq_true rfl) rfl ?_
                      refine Clv.mono h (fun m33 h => ?_)
                      refine Tj.iload dX12_crease_125 rfl rfl ?_
                      exact Tj.iret dX12_crease_127 rfl h
                    · have h := h.2 c22
                      obtain ⟨o4, h⟩ := h
                      refine Tj.iconst dX12_crease_118 (by decide) rfl ?_
                      refine Tj.iload dX12_crease_119 rfl rfl ?_
                      refine Tj.iadd dX12_crease_121 o4 rfl ?_
                      refine Tj.callVv (as := [_, _, _]) (rest := []) dX12_crease_122 ln_X12_265 sh_145 (by decide) rfl rfl (Nat.le_of_ble_eq_true rfl) ⟨Nat.le_of_ble_eq_true rfl, Nat.le_of_ble_eq_true rfl⟩ (Nat.le_of_ble_eq_true rfl) rfl ?_
                      refine Clv.mono h (fun m34 h => ?_)
                      refine Tj.iload dX12_crease_125 rfl rfl ?_
                      exact Tj.iret dX12_crease_127 rfl h
            · have h := h.2 c18
              refine Tj.bipush dX12_crease_46 (by decide) (by decide +kernel) rfl ?_
              exact Tj.iret dX12_crease_48 rfl h

theorem wX12_turned_0 {m : tM} {P : Option tV → tM → Prop} {x1 : Int}  (h : Tj mX12_turned 2 [some (rV 145), some (iV x1), some (iV 0)] [] m P) : Tj mX12_turned 0 [some (rV 145), some (iV x1)] [] m P := by
  refine Tj.iconst dX12_turned_0 (by decide) rfl ?_
  refine Tj.istore_n dX12_turned_1 (Nat.le_of_ble_eq_true rfl) rfl rfl ?_
  exact Tj.cut h ⟨rfl, ⟨rfl, ⟨rfl, trivial⟩⟩⟩

theorem wX12_turned_2 {m : tM} {P : Option tV → tM → Prop} {x1 : Int} {x2 : Int}  (h : (x2 < (m 145 4) → ((x1 = 0 → (Cli mX12_creaseOf [rV 145, iV x2, iV 3] m (fun r1 m1 => ((0 ≤ x2 ∧ x2 < 60) ∧ ((x1 = 0 → (Cli mX12_creaseOf [rV 145, iV x2, iV 0] (up m1 165 x2 r1) (fun r2 m2 => ((R32 (x2 + 1)) ∧ (Tj mX12_turned 2 [some (rV 145), some (iV x1), some (iV (x2 + 1))] [] (up m2 166 x2 r2) P))))) ∧ (¬ x1 = 0 → ((R32 (x2 + 1)) ∧ (Tj mX12_turned 2 [some (rV 145), some (iV x1), some (iV (x2 + 1))] [] (up (up m1 165 x2 r1) 166 x2 (m1 152 x2)) P)))))))) ∧ (¬ x1 = 0 → (Cli mX12_creaseOf [rV 145, iV x2, iV 2] m (fun r3 m3 => ((0 ≤ x2 ∧ x2 < 60) ∧ ((x1 = 0 → (Cli mX12_creaseOf [rV 145, iV x2, iV 0] (up m3 165 x2 r3) (fun r4 m4 => ((R32 (x2 + 1)) ∧ (Tj mX12_turned 2 [some (rV 145), some (iV x1), some (iV (x2 + 1))] [] (up m4 166 x2 r4) P))))) ∧ (¬ x1 = 0 → ((R32 (x2 + 1)) ∧ (Tj mX12_turned 2 [some (rV 145), some (iV x1), some (iV (x2 + 1))] [] (up (up m3 165 x2 r3) 166 x2 (m3 152 x2)) P)))))))))) ∧ (¬ x2 < (m 145 4) → (Tj mX12_turned 68 [some (rV 145), some (iV x1), some (iV 0)] [] m P))) : Tj mX12_turned 2 [some (rV 145), some (iV x1), some (iV x2)] [] m P := by
  refine Tj.iload_n dX12_turned_2 rfl rfl ?_
  refine Tj.aload_n dX12_turned_3 rfl rfl ?_
  refine Tj.gI (j := 4) dX12_turned_4 fl_X12_127 sh_145 rfl rfl ?_
  refine Tj.icmp_ge dX12_turned_7 rfl rfl (fun c1 => ?_) (fun c1 => ?_)
  · have h := h.1 c1
    refine Tj.aload_n dX12_turned_10 rfl rfl ?_
    refine Tj.getR (b := 165) dX12_turned_11 fl_X12_67 sh_145 rfl rfl ?_
    refine Tj.iload_n dX12_turned_14 rfl rfl ?_
    refine Tj.iload_n dX12_turned_15 rfl rfl ?_
    refine Tj.if_ne dX12_turned_16 rfl rfl (fun c2 => ?_) (fun c2 => ?_)
    · have h := h.1 c2
      refine Tj.aload_n dX12_turned_19 rfl rfl ?_
      refine Tj.iload_n dX12_turned_20 rfl rfl ?_
      refine Tj.iconst dX12_turned_21 (by decide) rfl ?_
      refine Tj.callVi (as := [_, _]) (rest := [_, _]) dX12_turned_22 ln_X12_269 sh_145 (by decide) rfl rfl (Nat.le_of_ble_eq_true rfl) ⟨Nat.le_of_ble_eq_true rfl, Nat.le_of_ble_eq_true rfl⟩ (Nat.le_of_ble_eq_true rfl) rfl ?_
      refine Cli.mono h (fun r1 m1 h => ?_)
      obtain ⟨⟨o1, o2⟩, h⟩ := h
      refine Tj.goto dX12_turned_25 rfl ?_
      refine Tj.iast dX12_turned_34 sh_165 o1 o2 rfl ?_
      refine Tj.aload_n dX12_turned_35 rfl rfl ?_
      refine Tj.getR (b := 166) dX12_turned_36 fl_X12_70 sh_145 rfl rfl ?_
      refine Tj.iload_n dX12_turned_39 rfl rfl ?_
      refine Tj.iload_n dX12_turned_40 rfl rfl ?_
      refine Tj.if_ne dX12_turned_41 rfl rfl (fun c3 => ?_) (fun c3 => ?_)
      · have h := h.1 c3
        refine Tj.aload_n dX12_turned_44 rfl rfl ?_
        refine Tj.iload_n dX12_turned_45 rfl rfl ?_
        refine Tj.iconst dX12_turned_46 (by decide) rfl ?_
        refine Tj.callVi (as := [_, _]) (rest := [_, _]) dX12_turned_47 ln_X12_269 sh_145 (by decide) rfl rfl (Nat.le_of_ble_eq_true rfl) ⟨Nat.le_of_ble_eq_true rfl, Nat.le_of_ble_eq_true rfl⟩ (Nat.le_of_ble_eq_true rfl) rfl ?_
        refine Cli.mono h (fun r2 m2 h => ?_)
        obtain ⟨o3, h⟩ := h
        refine Tj.goto dX12_turned_50 rfl ?_
        refine Tj.iast dX12_turned_59 sh_166 o1 o2 rfl ?_
        refine Tj.iinc dX12_turned_60 rfl (Nat.le_of_ble_eq_true rfl) rfl o3 rfl ?_
        refine Tj.goto dX12_turned_63 rfl ?_
        exact Tj.cut h ⟨rfl, ⟨rfl, ⟨rfl, trivial⟩⟩⟩
      · have h := h.2 c3
        obtain ⟨o4, h⟩ := h
        refine Tj.aload_n dX12_turned_53 rfl rfl ?_
        refine Tj.getR (b := 152) dX12_turned_54 fl_X12_28 sh_145 rfl rfl ?_
        refine Tj.iload_n dX12_turned_57 rfl rfl ?_
        refine Tj.iald dX12_turned_58 sh_152 o1 o2 rfl ?_
        refine Tj.iast dX12_turned_59 sh_166 o1 o2 rfl ?_
        refine Tj.iinc dX12_turned_60 rfl (Nat.le_of_ble_eq_true rfl) rfl o4 rfl ?_
        refine Tj.goto dX12_turned_63 rfl ?_
        exact Tj.cut h ⟨rfl, ⟨rfl, ⟨rfl, trivial⟩⟩⟩
    · have h := h.2 c2
      refine Tj.aload_n dX12_turned_28 rfl rfl ?_
      refine Tj.iload_n dX12_turned_29 rfl rfl ?_
      refine Tj.iconst dX12_turned_30 (by decide) rfl ?_
      refine Tj.callVi (as := [_, _]) (rest := [_, _]) dX12_turned_31 ln_X12_269 sh_145 (by decide) rfl rfl (Nat.le_of_ble_eq_true rfl) ⟨Nat.le_of_ble_eq_true rfl, Nat.le_of_ble_eq_true rfl⟩ (Nat.le_of_ble_eq_true rfl) rfl ?_
      refine Cli.mono h (fun r3 m3 h => ?_)
      obtain ⟨⟨o5, o6⟩, h⟩ := h
      refine Tj.iast dX12_turned_34 sh_165 o5 o6 rfl ?_
      refine Tj.aload_n dX12_turned_35 rfl rfl ?_
      refine Tj.getR (b := 166) dX12_turned_36 fl_X12_70 sh_145 rfl rfl ?_
      refine Tj.iload_n dX12_turned_39 rfl rfl ?_
      refine Tj.iload_n dX12_turned_40 rfl rfl ?_
      refine Tj.if_ne dX12_turned_41 rfl rfl (fun c4 => ?_) (fun c4 => ?_)
      · have h := h.1 c4
        refine Tj.aload_n dX12_turned_44 rfl rfl ?_
        refine Tj.iload_n dX12_turned_45 rfl rfl ?_
        refine Tj.iconst dX12_turned_46 (by decide) rfl ?_
        refine Tj.callVi (as := [_, _]) (rest := [_, _]) dX12_turned_47 ln_X12_269 sh_145 (by decide) rfl rfl (Nat.le_of_ble_eq_true rfl) ⟨Nat.le_of_ble_eq_true rfl, Nat.le_of_ble_eq_true rfl⟩ (Nat.le_of_ble_eq_true rfl) rfl ?_
        refine Cli.mono h (fun r4 m4 h => ?_)
        obtain ⟨o7, h⟩ := h
        refine Tj.goto dX12_turned_50 rfl ?_
        refine Tj.iast dX12_turned_59 sh_166 o5 o6 rfl ?_
        refine Tj.iinc dX12_turned_60 rfl (Nat.le_of_ble_eq_true rfl) rfl o7 rfl ?_
        refine Tj.goto dX12_turned_63 rfl ?_
        exact Tj.cut h ⟨rfl, ⟨rfl, ⟨rfl, trivial⟩⟩⟩
      · have h := h.2 c4
        obtain ⟨o8, h⟩ := h
        refine Tj.aload_n dX12_turned_53 rfl rfl ?_
        refine Tj.getR (b := 152) dX12_turned_54 fl_X12_28 sh_145 rfl rfl ?_
        refine Tj.iload_n dX12_turned_57 rfl rfl ?_
        refine Tj.iald dX12_turned_58 sh_152 o5 o6 rfl ?_
        refine Tj.iast dX12_turned_59 sh_166 o5 o6 rfl ?_
        refine Tj.iinc dX12_turned_60 rfl (Nat.le_of_ble_eq_true rfl) rfl o8 rfl ?_
        refine Tj.goto dX12_turned_63 rfl ?_
        exact Tj.cut h ⟨rfl, ⟨rfl, ⟨rfl, trivial⟩⟩⟩
  · have h := h.2 c1
    refine Tj.iconst dX12_turned_66 (by decide) rfl ?_
    refine Tj.istore_n dX12_turned_67 (Nat.le_of_ble_eq_true rfl) rfl rfl ?_
    exact Tj.cut h ⟨rfl, ⟨rfl, ⟨rfl, trivial⟩⟩⟩

theorem wX12_turned_68 {m : tM} {P : Option tV → tM → Prop} {x1 : Int} {x2 : Int}  (h : (x2 < (m 145 4) → ((0 ≤ x2 ∧ x2 < 60) ∧ ((x1 = 0 → ((R32 (-(m 150 x2))) ∧ ((x1 = 0 → (Clv mX12_place [rV 145, iV x2, iV (-(m 150 x2)), iV (m 149 x2), iV (m 165 x2), iV (m 166 x2)] m (fun m1 => ((R32 (x2 + 1)) ∧ (Tj mX12_turned 68 [some (rV 145), some (iV x1), some (iV (x2 + 1))] [] m1 P))))) ∧ (¬ x1 = 0 → (Clv mX12_place [rV 145, iV x2, iV (-(m 150 x2)), iV (m 150 x2), iV (m 165 x2), iV (m 166 x2)] m (fun m2 => ((R32 (x2 + 1)) ∧ (Tj mX12_turned 68 [some (rV 145), some (iV x1), some (iV (x2 + 1))] [] m2 P)))))))) ∧ (¬ x1 = 0 → ((R32 (-(m 149 x2))) ∧ ((x1 = 0 → (Clv mX12_place [rV 145, iV x2, iV (-(m 149 x2)), iV (m 149 x2), iV (m 165 x2), iV (m 166 x2)] m (fun m3 => ((R32 (x2 + 1)) ∧ (Tj mX12_turned 68 [some (rV 145), some (iV x1), some (iV (x2 + 1))] [] m3 P))))) ∧ (¬ x1 = 0 → (Clv mX12_place [rV 145, iV x2, iV (-(m 149 x2)), iV (m 150 x2), iV (m 165 x2), iV (m 166 x2)] m (fun m4 => ((R32 (x2 + 1)) ∧ (Tj mX12_turned 68 [some (rV 145), some (iV x1), some (iV (x2 + 1))] [] m4 P))))))))))) ∧ (¬ x2 < (m 145 4) → (Clv mX12_sort [rV 145] m (fun m5 => (P none m5))))) : Tj mX12_turned 68 [some (rV 145), some (iV x1), some (iV x2)] [] m P := by
  refine Tj.iload_n dX12_turned_68 rfl rfl ?_
  refine Tj.aload_n dX12_turned_69 rfl rfl ?_
  refine Tj.gI (j := 4) dX12_turned_70 fl_X12_127 sh_145 rfl rfl ?_
  refine Tj.icmp_ge dX12_turned_73 rfl rfl (fun c1 => ?_) (fun c1 => ?_)
  · have h := h.1 c1
    obtain ⟨⟨o1, o2⟩, h⟩ := h
    refine Tj.aload_n dX12_turned_76 rfl rfl ?_
    refine Tj.getR (b := 149) dX12_turned_77 fl_X12_19 sh_145 rfl rfl ?_
    refine Tj.iload_n dX12_turned_80 rfl rfl ?_
    refine Tj.iald dX12_turned_81 sh_149 o1 o2 rfl ?_
    refine Tj.istore_n dX12_turned_82 (Nat.le_of_ble_eq_true rfl) rfl rfl ?_
    refine Tj.aload_n dX12_turned_83 rfl rfl ?_
    refine Tj.iload_n dX12_turned_84 rfl rfl ?_
    refine Tj.iload_n dX12_turned_85 rfl rfl ?_
    refine Tj.if_ne dX12_turned_86 rfl rfl (fun c2 => ?_) (fun c2 => ?_)
    · have h := h.1 c2
      obtain ⟨o3, h⟩ := h
      refine Tj.aload_n dX12_turned_89 rfl rfl ?_
      refine Tj.getR (b := 150) dX12_turned_90 fl_X12_22 sh_145 rfl rfl ?_
      refine Tj.iload_n dX12_turned_93 rfl rfl ?_
      refine Tj.iald dX12_turned_94 sh_150 o1 o2 rfl ?_
      refine Tj.ineg dX12_turned_95 o3 rfl ?_
      refine Tj.goto dX12_turned_96 rfl ?_
      refine Tj.iload_n dX12_turned_101 rfl rfl ?_
      refine Tj.if_ne dX12_turned_102 rfl rfl (fun c3 => ?_) (fun c3 => ?_)
      · have h := h.1 c3
        refine Tj.iload_n dX12_turned_105 rfl rfl ?_
        refine Tj.goto dX12_turned_106 rfl ?_
        refine Tj.aload_n dX12_turned_115 rfl rfl ?_
        refine Tj.getR (b := 165) dX12_turned_116 fl_X12_67 sh_145 rfl rfl ?_
        refine Tj.iload_n dX12_turned_119 rfl rfl ?_
        refine Tj.iald dX12_turned_120 sh_165 o1 o2 rfl ?_
        refine Tj.aload_n dX12_turned_121 rfl rfl ?_
        refine Tj.getR (b := 166) dX12_turned_122 fl_X12_70 sh_145 rfl rfl ?_
        refine Tj.iload_n dX12_turned_125 rfl rfl ?_
        refine Tj.iald dX12_turned_126 sh_166 o1 o2 rfl ?_
        refine Tj.callVv (as := [_, _, _, _, _]) (rest := []) dX12_turned_127 ln_X12_251 sh_145 (by decide) rfl rfl (Nat.le_of_ble_eq_true rfl) ⟨Nat.le_of_ble_eq_true rfl, Nat.le_of_ble_eq_true rfl⟩ (Nat.le_of_ble_eq_true rfl) rfl ?_
        refine Clv.mono h (fun m1 h => ?_)
        obtain ⟨o4, h⟩ := h
        refine Tj.iinc dX12_turned_130 rfl (Nat.le_of_ble_eq_true rfl) rfl o4 rfl ?_
        refine Tj.goto dX12_turned_133 rfl ?_
        exact Tj.cut h ⟨rfl, ⟨rfl, ⟨rfl, trivial⟩⟩⟩
      · have h := h.2 c3
        refine Tj.aload_n dX12_turned_109 rfl rfl ?_
        refine Tj.getR (b := 150) dX12_turned_110 fl_X12_22 sh_145 rfl rfl ?_
        refine Tj.iload_n dX12_turned_113 rfl rfl ?_
        refine Tj.iald dX12_turned_114 sh_150 o1 o2 rfl ?_
        refine Tj.aload_n dX12_turned_115 rfl rfl ?_
        refine Tj.getR (b := 165) dX12_turned_116 fl_X12_67 sh_145 rfl rfl ?_
        refine Tj.iload_n dX12_turned_119 rfl rfl ?_
        refine Tj.iald dX12_turned_120 sh_165 o1 o2 rfl ?_
        refine Tj.aload_n dX12_turned_121 rfl rfl ?_
        refine Tj.getR (b := 166) dX12_turned_122 fl_X12_70 sh_145 rfl rfl ?_
        refine Tj.iload_n dX12_turned_125 rfl rfl ?_
        refine Tj.iald dX12_turned_126 sh_166 o1 o2 rfl ?_
        refine Tj.callVv (as := [_, _, _, _, _]) (rest := []) dX12_turned_127 ln_X12_251 sh_145 (by decide) rfl rfl (Nat.le_of_ble_eq_true rfl) ⟨Nat.le_of_ble_eq_true rfl, Nat.le_of_ble_eq_true rfl⟩ (Nat.le_of_ble_eq_true rfl) rfl ?_
        refine Clv.mono h (fun m2 h => ?_)
        obtain ⟨o5, h⟩ := h
        refine Tj.iinc dX12_turned_130 rfl (Nat.le_of_ble_eq_true rfl) rfl o5 rfl ?_
        refine Tj.goto dX12_turned_133 rfl ?_
        exact Tj.cut h ⟨rfl, ⟨rfl, ⟨rfl, trivial⟩⟩⟩
    · have h := h.2 c2
      obtain ⟨o6, h⟩ := h
      refine Tj.iload_n dX12_turned_99 rfl rfl ?_
      refine Tj.ineg dX12_turned_100 o6 rfl ?_
      refine Tj.iload_n dX12_turned_101 rfl rfl ?_
      refine Tj.if_ne dX12_turned_102 rfl rfl (fun c4 => ?_) (fun c4 => ?_)
      · have h := h.1 c4
        refine Tj.iload_n dX12_turned_105 rfl rfl ?_
        refine Tj.goto dX12_turned_106 rfl ?_
        refine Tj.aload_n dX12_turned_115 rfl rfl ?_
        refine Tj.getR (b := 165) dX12_turned_116 fl_X12_67 sh_145 rfl rfl ?_
        refine Tj.iload_n dX12_turned_119 rfl rfl ?_
        refine Tj.iald dX12_turned_120 sh_165 o1 o2 rfl ?_
        refine Tj.aload_n dX12_turned_121 rfl rfl ?_
        refine Tj.getR (b := 166) dX12_turned_122 fl_X12_70 sh_145 rfl rfl ?_
        refine Tj.iload_n dX12_turned_125 rfl rfl ?_
        refine Tj.iald dX12_turned_126 sh_166 o1 o2 rfl ?_
        refine Tj.callVv (as := [_, _, _, _, _]) (rest := []) dX12_turned_127 ln_X12_251 sh_145 (by decide) rfl rfl (Nat.le_of_ble_eq_true rfl) ⟨Nat.le_of_ble_eq_true rfl, Nat.le_of_ble_eq_true rfl⟩ (Nat.le_of_ble_eq_true rfl) rfl ?_
        refine Clv.mono h (fun m3 h => ?_)
        obtain ⟨o7, h⟩ := h
        refine Tj.iinc dX12_turned_130 rfl (Nat.le_of_ble_eq_true rfl) rfl o7 rfl ?_
        refine Tj.goto dX12_turned_133 rfl ?_
        exact Tj.cut h ⟨rfl, ⟨rfl, ⟨rfl, trivial⟩⟩⟩
      · have h := h.2 c4
        refine Tj.aload_n dX12_turned_109 rfl rfl ?_
        refine Tj.getR (b := 150) dX12_turned_110 fl_X12_22 sh_145 rfl rfl ?_
        refine Tj.iload_n dX12_turned_113 rfl rfl ?_
        refine Tj.iald dX12_turned_114 sh_150 o1 o2 rfl ?_
        refine Tj.aload_n dX12_turned_115 rfl rfl ?_
        refine Tj.getR (b := 165) dX12_turned_116 fl_X12_67 sh_145 rfl rfl ?_
        refine Tj.iload_n dX12_turned_119 rfl rfl ?_
        refine Tj.iald dX12_turned_120 sh_165 o1 o2 rfl ?_
        refine Tj.aload_n dX12_turned_121 rfl rfl ?_
        refine Tj.getR (b := 166) dX12_turned_122 fl_X12_70 sh_145 rfl rfl ?_
        refine Tj.iload_n dX12_turned_125 rfl rfl ?_
        refine Tj.iald dX12_turned_126 sh_166 o1 o2 rfl ?_
        refine Tj.callVv (as := [_, _, _, _, _]) (rest := []) dX12_turned_127 ln_X12_251 sh_145 (by decide) rfl rfl (Nat.le_of_ble_eq_true rfl) ⟨Nat.le_of_ble_eq_true rfl, Nat.le_of_ble_eq_true rfl⟩ (Nat.le_of_ble_eq_true rfl) rfl ?_
        refine Clv.mono h (fun m4 h => ?_)
        obtain ⟨o8, h⟩ := h
        refine Tj.iinc dX12_turned_130 rfl (Nat.le_of_ble_eq_true rfl) rfl o8 rfl ?_
        refine Tj.goto dX12_turned_133 rfl ?_
        exact Tj.cut h ⟨rfl, ⟨rfl, ⟨rfl, trivial⟩⟩⟩
  · have h := h.2 c1
    refine Tj.aload_n dX12_turned_136 rfl rfl ?_
    refine Tj.callVv (as := []) (rest := []) dX12_turned_137 ln_X12_242 sh_145 (by decide) rfl rfl (Nat.le_of_ble_eq_true rfl) ⟨Nat.le_of_ble_eq_true rfl, Nat.le_of_ble_eq_true rfl⟩ (Nat.le_of_ble_eq_true rfl) rfl ?_
    refine Clv.mono h (fun m5 h => ?_)
    exact Tj.vret dX12_turned_140 rfl h
