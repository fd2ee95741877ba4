theorem wX3_run_0 {m : tM} {P : Option tV → tM → Prop}   (h : Clv mX6_trace [rV 120, rV 6] m (fun m1 => (Cli mX8_size [rV 6] m1 (fun r1 m2 => (Cli mX6_hangTogether [rV 120] (up m2 124 3 r1) (fun r2 m3 => ((r2 = 0 → (P (some (iV 1)) m3)) ∧ (¬ r2 = 0 → (Clv mX3_layAll [rV 124, rV 6, rV 120] m3 (fun m4 => (Cli mX3_agrees [rV 124, rV 6, rV 120] m4 (fun r3 m5 => ((r3 = 0 → (P (some (iV 2)) m5)) ∧ (¬ r3 = 0 → (Cli mX3_overlaps [rV 124] m5 (fun r4 m6 => (∀ v1 : Int, v1 = (if r4 = 0 then 0 else 3) → (P (some (iV v1)) m6)))))))))))))))))) : Tj mX3_run 0 [some (rV 124), some (rV 6), some (rV 120)] [] m P := by
  refine Tj.aload_n dX3_run_0 rfl rfl ?_
  refine Tj.aload_n dX3_run_1 rfl rfl ?_
  refine Tj.callVv (as := [_]) (rest := []) dX3_run_2 ln_X3_25 sh_120 (by decide) rfl rfl (Nat.le_of_ble_eq_true rfl) ⟨Nat.le_of_ble_eq_true rfl, Nat.le_of_ble_eq_true rfl⟩ (Nat.le_of_ble_eq_true rfl) rfl ?_
  refine Clv.mono h (fun m1 h => ?_)
  refine Tj.aload_n dX3_run_5 rfl rfl ?_
  refine Tj.aload_n dX3_run_6 rfl rfl ?_
  refine Tj.callVi (as := []) (rest := [_]) dX3_run_7 ln_X3_31 sh_6 (by decide) rfl rfl (Nat.le_of_ble_eq_true rfl) ⟨Nat.le_of_ble_eq_true rfl, Nat.le_of_ble_eq_true rfl⟩ (Nat.le_of_ble_eq_true rfl) rfl ?_
  refine Cli.mono h (fun r1 m2 h => ?_)
  refine Tj.pI (j := 3) dX3_run_10 fp_X3_21 sh_124 rfl rfl ?_
  refine Tj.aload_n dX3_run_13 rfl rfl ?_
  refine Tj.callVi (as := []) (rest := []) dX3_run_14 ln_X3_35 sh_120 (by decide) rfl rfl (Nat.le_of_ble_eq_true rfl) ⟨Nat.le_of_ble_eq_true rfl, Nat.le_of_ble_eq_true rfl⟩ (Nat.le_of_ble_eq_true rfl) rfl ?_
  refine Cli.mono h (fun r2 m3 h => ?_)
  refine Tj.if_ne dX3_run_17 rfl rfl (fun c1 => ?_) (fun c1 => ?_)
  · have h := h.1 c1
    refine Tj.iconst dX3_run_20 (by decide) rfl ?_
    exact Tj.iret dX3_run_21 rfl h
  · have h := h.2 c1
    refine Tj.aload_n dX3_run_22 rfl rfl ?_
    refine Tj.aload_n dX3_run_23 rfl rfl ?_
    refine Tj.aload_n dX3_run_24 rfl rfl ?_
    refine Tj.callVv (as := [_, _]) (rest := []) dX3_run_25 ln_X3_39 sh_124 (by decide) rfl rfl (Nat.le_of_ble_eq_true rfl) ⟨Nat.le_of_ble_eq_true rfl, Nat.le_of_ble_eq_true rfl⟩ (Nat.le_of_ble_eq_true rfl) rfl ?_
    refine Clv.mono h (fun m4 h => ?_)
    refine Tj.aload_n dX3_run_28 rfl rfl ?_
    refine Tj.aload_n dX3_run_29 rfl rfl ?_
    refine Tj.aload_n dX3_run_30 rfl rfl ?_
    refine Tj.callVi (as := [_, _]) (rest := []) dX3_run_31 ln_X3_43 sh_124 (by decide) rfl rfl (Nat.le_of_ble_eq_true rfl) ⟨Nat.le_of_ble_eq_true rfl, Nat.le_of_ble_eq_true rfl⟩ (Nat.le_of_ble_eq_true rfl) rfl ?_
    refine Cli.mono h (fun r3 m5 h => ?_)
    refine Tj.if_ne dX3_run_34 rfl rfl (fun c2 => ?_) (fun c2 => ?_)
    · have h := h.1 c2
      refine Tj.iconst dX3_run_37 (by decide) rfl ?_
      exact Tj.iret dX3_run_38 rfl h
    · have h := h.2 c2
      refine Tj.aload_n dX3_run_39 rfl rfl ?_
      refine Tj.callVi (as := []) (rest := []) dX3_run_40 ln_X3_47 sh_124 (by decide) rfl rfl (Nat.le_of_ble_eq_true rfl) ⟨Nat.le_of_ble_eq_true rfl, Nat.le_of_ble_eq_true rfl⟩ (Nat.le_of_ble_eq_true rfl) rfl ?_
      refine Cli.mono h (fun r4 m6 h => ?_)
      have hj : Tj mX3_run 51 [] [iV (if r4 = 0 then 0 else 3)] m6 P := by
        generalize hv1 : ((if r4 = 0 then 0 else 3) : Int) = v1
        have h := h v1 hv1.symm
        exact Tj.iret dX3_run_51 rfl h
      refine Tj.if_eq dX3_run_43 rfl rfl (fun c3 => ?_) (fun c3 => ?_)
      · refine Tj.iconst dX3_run_50 (by decide) rfl ?_
        try simp only [if_pos c3] at hj ⊢
        exact Tj.cut hj trivial
      · refine Tj.iconst dX3_run_46 (by decide) rfl ?_
        refine Tj.goto dX3_run_47 rfl ?_
        try simp only [if_neg c3] at hj ⊢
        exact Tj.cut hj trivial

theorem wX3_poseOf_0 {m : tM} {P : Option tV → tM → Prop} {x1 : Int} {x2 : Int}  (h : (R32 (6 * x1) ∧ R32 ((6 * x1) + x2) ∧ 0 ≤ ((6 * x1) + x2) ∧ ((6 * x1) + x2) < 360) ∧ (P (some (iV (m 125 ((6 * x1) + x2)))) m)) : Tj mX3_poseOf 0 [some (rV 124), some (iV x1), some (iV x2)] [] m P := by
  obtain ⟨⟨o1, o2, o3, o4⟩, h⟩ := h
  refine Tj.aload_n dX3_poseOf_0 rfl rfl ?_
  refine Tj.getR (b := 125) dX3_poseOf_1 fl_X3_11 sh_124 rfl rfl ?_
  refine Tj.bipush dX3_poseOf_4 (by decide) (by decide +kernel) rfl ?_
  refine Tj.iload_n dX3_poseOf_6 rfl rfl ?_
  refine Tj.imul dX3_poseOf_7 o1 rfl ?_
  refine Tj.iload_n dX3_poseOf_8 rfl rfl ?_
  refine Tj.iadd dX3_poseOf_9 o2 rfl ?_
  refine Tj.iald dX3_poseOf_10 sh_125 o3 o4 rfl ?_
  exact Tj.iret dX3_poseOf_11 rfl h

theorem wX3_layAll_0 {m : tM} {P : Option tV → tM → Prop}   (h : Tj mX3_layAll 2 [some (rV 124), some (rV 6), some (rV 120), some (iV 1)] [] m P) : Tj mX3_layAll 0 [some (rV 124), some (rV 6), some (rV 120)] [] m P := by
  refine Tj.iconst dX3_layAll_0 (by decide) rfl ?_
  refine Tj.istore_n dX3_layAll_1 (Nat.le_of_ble_eq_true rfl) rfl rfl ?_
  exact Tj.cut h ⟨rfl, ⟨rfl, ⟨rfl, ⟨rfl, trivial⟩⟩⟩⟩

theorem wX3_layAll_2 {m : tM} {P : Option tV → tM → Prop} {x3 : Int}  (h : (x3 < (m 124 3) → (Cli mX6_inOrder [rV 120, iV x3] m (fun r1 m1 => (Cli mX6_reachedFrom [rV 120, iV r1] m1 (fun r2 m2 => (Cli mX6_reachedBy [rV 120, iV r1] m2 (fun r3 m3 => (Cli mX8_creaseAt [rV 6, iV r2, iV r3] m3 (fun r4 m4 => ((R32 (r4 - 2)) ∧ (Clv mX3_cross [rV 124, iV r2, iV r3, iV (r4 - 2)] m4 (fun m5 => ((R32 (6 * r1) ∧ 0 ≤ (6 * r1) ∧ (6 * r1) + 6 ≤ 360) ∧ (∀ m6 : tM, m6 = (sr m5 125 (cpr (m5 126) (m5 125) 0 (6 * r1) 6)) → ((R32 (x3 + 1)) ∧ (Tj mX3_layAll 2 [some (rV 124), some (rV 6), some (rV 120), some (iV (x3 + 1))] [] m6 P)))))))))))))))) ∧ (¬ x3 < (m 124 3) → (P none m))) : Tj mX3_layAll 2 [some (rV 124), some (rV 6), some (rV 120), some (iV x3)] [] m P := by
  refine Tj.iload_n dX3_layAll_2 rfl rfl ?_
  refine Tj.aload_n dX3_layAll_3 rfl rfl ?_
  refine Tj.gI (j := 3) dX3_layAll_4 fl_X3_21 sh_124 rfl rfl ?_
  refine Tj.icmp_ge dX3_layAll_7 rfl rfl (fun c1 => ?_) (fun c1 => ?_)
  · have h := h.1 c1
    refine Tj.aload_n dX3_layAll_10 rfl rfl ?_
    refine Tj.iload_n dX3_layAll_11 rfl rfl ?_
    refine Tj.callVi (as := [_]) (rest := []) dX3_layAll_12 ln_X3_50 sh_120 (by decide) rfl rfl (Nat.le_of_ble_eq_true rfl) ⟨Nat.le_of_ble_eq_true rfl, Nat.le_of_ble_eq_true rfl⟩ (Nat.le_of_ble_eq_true rfl) rfl ?_
    refine Cli.mono h (fun r1 m1 h => ?_)
    refine Tj.istore dX3_layAll_15 (Nat.le_of_ble_eq_true rfl) rfl rfl ?_
    refine Tj.aload_n dX3_layAll_17 rfl rfl ?_
    refine Tj.iload dX3_layAll_18 rfl rfl ?_
    refine Tj.callVi (as := [_]) (rest := []) dX3_layAll_20 ln_X3_54 sh_120 (by decide) rfl rfl (Nat.le_of_ble_eq_true rfl) ⟨Nat.le_of_ble_eq_true rfl, Nat.le_of_ble_eq_true rfl⟩ (Nat.le_of_ble_eq_true rfl) rfl ?_
    refine Cli.mono h (fun r2 m2 h => ?_)
    refine Tj.istore dX3_layAll_23 (Nat.le_of_ble_eq_true rfl) rfl rfl ?_
    refine Tj.aload_n dX3_layAll_25 rfl rfl ?_
    refine Tj.iload dX3_layAll_26 rfl rfl ?_
    refine Tj.callVi (as := [_]) (rest := []) dX3_layAll_28 ln_X3_57 sh_120 (by decide) rfl rfl (Nat.le_of_ble_eq_true rfl) ⟨Nat.le_of_ble_eq_true rfl, Nat.le_of_ble_eq_true rfl⟩ (Nat.le_of_ble_eq_true rfl) rfl ?_
    refine Cli.mono h (fun r3 m3 h => ?_)
    refine Tj.istore dX3_layAll_31 (Nat.le_of_ble_eq_true rfl) rfl rfl ?_
    refine Tj.aload_n dX3_layAll_33 rfl rfl ?_
    refine Tj.iload dX3_layAll_34 rfl rfl ?_
    refine Tj.iload dX3_layAll_36 rfl rfl ?_
    refine Tj.aload_n dX3_layAll_38 rfl rfl ?_
    refine Tj.iload dX3_layAll_39 rfl rfl ?_
    refine Tj.iload dX3_layAll_41 rfl rfl ?_
    refine Tj.callVi (as := [_, _]) (rest := [_, _, _]) dX3_layAll_43 ln_X3_60 sh_6 (by decide) rfl rfl (Nat.le_of_ble_eq_true rfl) ⟨Nat.le_of_ble_eq_true rfl, Nat.le_of_ble_eq_true rfl⟩ (Nat.le_of_ble_eq_true rfl) rfl ?_
    refine Cli.mono h (fun r4 m4 h => ?_)
    obtain ⟨o1, h⟩ := h
    refine Tj.iconst dX3_layAll_46 (by decide) rfl ?_
    refine Tj.isub dX3_layAll_47 o1 rfl ?_
    refine Tj.callVv (as := [_, _, _]) (rest := []) dX3_layAll_48 ln_X3_64 sh_124 (by decide) rfl rfl (Nat.le_of_ble_eq_true rfl) ⟨Nat.le_of_ble_eq_true rfl, Nat.le_of_ble_eq_true rfl⟩ (Nat.le_of_ble_eq_true rfl) rfl ?_
    refine Clv.mono h (fun m5 h => ?_)
    obtain ⟨⟨o2, o3, o4⟩, h⟩ := h
    refine Tj.aload_n dX3_layAll_51 rfl rfl ?_
    refine Tj.getR (b := 126) dX3_layAll_52 fl_X3_15 sh_124 rfl rfl ?_
    refine Tj.iconst dX3_layAll_55 (by decide) rfl ?_
    refine Tj.aload_n dX3_layAll_56 rfl rfl ?_
    refine Tj.getR (b := 125) dX3_layAll_57 fl_X3_11 sh_124 rfl rfl ?_
    refine Tj.bipush dX3_layAll_60 (by decide) (by decide +kernel) rfl ?_
    refine Tj.iload dX3_layAll_62 rfl rfl ?_
    refine Tj.imul dX3_layAll_64 o2 rfl ?_
    refine Tj.bipush dX3_layAll_65 (by decide) (by decide +kernel) rfl ?_
    refine Tj.copy dX3_layAll_67 ac_X3_68 ac_ok sh_126 sh_125 (by decide) o3 (by decide) (by decide) o4 ⟨Nat.le_of_ble_eq_true rfl, Nat.le_of_ble_eq_true rfl⟩ rfl ?_
    show Tj mX3_layAll 70 [some (rV 124), some (rV 6), some (rV 120), some (iV x3), some (iV r1), some (iV r2), some (iV r3)] [] (sr m5 125 (cpr (m5 126) (m5 125) 0 (6 * r1) 6)) P
    generalize hm6 : (sr m5 125 (cpr (m5 126) (m5 125) 0 (6 * r1) 6)) = m6
    have h := h m6 hm6.symm
    obtain ⟨o5, h⟩ := h
    refine Tj.iinc dX3_layAll_70 rfl (Nat.le_of_ble_eq_true rfl) rfl o5 rfl ?_
    refine Tj.goto dX3_layAll_73 rfl ?_
    exact Tj.cut h ⟨rfl, ⟨rfl, ⟨rfl, ⟨rfl, trivial⟩⟩⟩⟩
  · have h := h.2 c1
    exact Tj.vret dX3_layAll_76 rfl h

theorem wX3_heading_0 {m : tM} {P : Option tV → tM → Prop} {x1 : Int} {x2 : Int}  (h : ∀ v1 : Int, v1 = (if (bAnd x2 1) = 0 then 4 else 5) → (Cli mX3_poseOf [rV 124, iV x1, iV v1] m (fun r1 m1 => ((x2 < 2 → (P (some (iV r1)) m1)) ∧ (¬ x2 < 2 → (Cli mX1_against [iV r1] m1 (fun r2 m2 => (P (some (iV r2)) m2)))))))) : Tj mX3_heading 0 [some (rV 124), some (iV x1), some (iV x2)] [] m P := by
  refine Tj.aload_n dX3_heading_0 rfl rfl ?_
  refine Tj.iload_n dX3_heading_1 rfl rfl ?_
  refine Tj.iload_n dX3_heading_2 rfl rfl ?_
  refine Tj.iconst dX3_heading_3 (by decide) rfl ?_
  refine Tj.iand dX3_heading_4 rfl ?_
  have hj : Tj mX3_heading 13 [none, none, some (iV x2)] [iV (if (bAnd x2 1) = 0 then 4 else 5), iV x1, rV 124] m P := by
    generalize hv1 : ((if (bAnd x2 1) = 0 then 4 else 5) : Int) = v1
    have h := h v1 hv1.symm
    refine Tj.callVi (as := [_, _]) (rest := []) dX3_heading_13 ln_X3_74 sh_124 (by decide) rfl rfl (Nat.le_of_ble_eq_true rfl) ⟨Nat.le_of_ble_eq_true rfl, Nat.le_of_ble_eq_true rfl⟩ (Nat.le_of_ble_eq_true rfl) rfl ?_
    refine Cli.mono h (fun r1 m1 h => ?_)
    refine Tj.istore_n dX3_heading_16 (Nat.le_of_ble_eq_true rfl) rfl rfl ?_
    refine Tj.iload_n dX3_heading_17 rfl rfl ?_
    refine Tj.iconst dX3_heading_18 (by decide) rfl ?_
    refine Tj.icmp_ge dX3_heading_19 rfl rfl (fun c2 => ?_) (fun c2 => ?_)
    · have h := h.1 c2
      refine Tj.iload_n dX3_heading_22 rfl rfl ?_
      refine Tj.goto dX3_heading_23 rfl ?_
      exact Tj.iret dX3_heading_30 rfl h
    · have h := h.2 c2
      refine Tj.iload_n dX3_heading_26 rfl rfl ?_
      refine Tj.callSi (as := [_]) (rest := []) dX3_heading_27 ln_X3_77 rfl rfl (Nat.le_of_ble_eq_true rfl) ⟨Nat.le_of_ble_eq_true rfl, Nat.le_of_ble_eq_true rfl⟩ (Nat.le_of_ble_eq_true rfl) rfl ?_
      refine Cli.mono h (fun r2 m2 h => ?_)
      exact Tj.iret dX3_heading_30 rfl h
  refine Tj.if_ne dX3_heading_5 rfl rfl (fun c1 => ?_) (fun c1 => ?_)
  · refine Tj.iconst dX3_heading_8 (by decide) rfl ?_
    refine Tj.goto dX3_heading_9 rfl ?_
    try simp only [if_pos c1] at hj ⊢
    exact Tj.cut hj ⟨rfl, trivial⟩
  · refine Tj.iconst dX3_heading_12 (by decide) rfl ?_
    try simp only [if_neg c1] at hj ⊢
    exact Tj.cut hj ⟨rfl, trivial⟩

theorem wX3_cross_0 {m : tM} {P : Option tV → tM → Prop} {x1 : Int} {x2 : Int} {x3 : Int}  (h : Cli mX3_poseOf [rV 124, iV x1, iV 3] m (fun r1 m1 => (Cli mX3_heading [rV 124, iV x1, iV x2] m1 (fun r2 m2 => ((x3 = 1 → (Cli mX1_against [iV r1] m2 (fun r3 m3 => ((R32 (6 * x1) ∧ 0 ≤ (6 * x1) ∧ (6 * x1) + 6 ≤ 360) ∧ (∀ m4 : tM, m4 = (sr m3 126 (cpr (m3 125) (m3 126) (6 * x1) 0 6)) → (Tj mX3_cross 80 [some (rV 124), none, some (iV x2), none, none, some (iV r2), some (iV r3), some (iV r2), some (iV 0)] [] m4 P)))))) ∧ (¬ x3 = 1 → ((x3 = (-1) → (Cli mX1_against [iV r2] m2 (fun r4 m5 => ((R32 (6 * x1) ∧ 0 ≤ (6 * x1) ∧ (6 * x1) + 6 ≤ 360) ∧ (∀ m6 : tM, m6 = (sr m5 126 (cpr (m5 125) (m5 126) (6 * x1) 0 6)) → (Tj mX3_cross 80 [some (rV 124), none, some (iV x2), none, none, some (iV r2), some (iV r1), some (iV r4), some (iV 0)] [] m6 P)))))) ∧ (¬ x3 = (-1) → ((R32 (6 * x1) ∧ 0 ≤ (6 * x1) ∧ (6 * x1) + 6 ≤ 360) ∧ (∀ m7 : tM, m7 = (sr m2 126 (cpr (m2 125) (m2 126) (6 * x1) 0 6)) → (Tj mX3_cross 80 [some (rV 124), none, some (iV x2), none, none, some (iV r2), some (iV r2), some (iV r1), some (iV 0)] [] m7 P))))))))))) : Tj mX3_cross 0 [some (rV 124), some (iV x1), some (iV x2), some (iV x3)] [] m P := by
  refine Tj.aload_n dX3_cross_0 rfl rfl ?_
  refine Tj.iload_n dX3_cross_1 rfl rfl ?_
  refine Tj.iconst dX3_cross_2 (by decide) rfl ?_
  refine Tj.callVi (as := [_, _]) (rest := []) dX3_cross_3 ln_X3_74 sh_124 (by decide) rfl rfl (Nat.le_of_ble_eq_true rfl) ⟨Nat.le_of_ble_eq_true rfl, Nat.le_of_ble_eq_true rfl⟩ (Nat.le_of_ble_eq_true rfl) rfl ?_
  refine Cli.mono h (fun r1 m1 h => ?_)
  refine Tj.istore dX3_cross_6 (Nat.le_of_ble_eq_true rfl) rfl rfl ?_
  refine Tj.aload_n dX3_cross_8 rfl rfl ?_
  refine Tj.iload_n dX3_cross_9 rfl rfl ?_
  refine Tj.iload_n dX3_cross_10 rfl rfl ?_
  refine Tj.callVi (as := [_, _]) (rest := []) dX3_cross_11 ln_X3_82 sh_124 (by decide) rfl rfl (Nat.le_of_ble_eq_true rfl) ⟨Nat.le_of_ble_eq_true rfl, Nat.le_of_ble_eq_true rfl⟩ (Nat.le_of_ble_eq_true rfl) rfl ?_
  refine Cli.mono h (fun r2 m2 h => ?_)
  refine Tj.istore dX3_cross_14 (Nat.le_of_ble_eq_true rfl) rfl rfl ?_
  refine Tj.iload dX3_cross_16 rfl rfl ?_
  refine Tj.istore dX3_cross_18 (Nat.le_of_ble_eq_true rfl) rfl rfl ?_
  refine Tj.iload dX3_cross_20 rfl rfl ?_
  refine Tj.istore dX3_cross_22 (Nat.le_of_ble_eq_true rfl) rfl rfl ?_
  refine Tj.iload_n dX3_cross_24 rfl rfl ?_
  refine Tj.iconst dX3_cross_25 (by decide) rfl ?_
  refine Tj.icmp_ne dX3_cross_26 rfl rfl (fun c1 => ?_) (fun c1 => ?_)
  · have h := h.1 c1
    refine Tj.iload dX3_cross_29 rfl rfl ?_
    refine Tj.callSi (as := [_]) (rest := []) dX3_cross_31 ln_X3_77 rfl rfl (Nat.le_of_ble_eq_true rfl) ⟨Nat.le_of_ble_eq_true rfl, Nat.le_of_ble_eq_true rfl⟩ (Nat.le_of_ble_eq_true rfl) rfl ?_
    refine Cli.mono h (fun r3 m3 h => ?_)
    obtain ⟨⟨o1, o2, o3⟩, h⟩ := h
    refine Tj.istore dX3_cross_34 (Nat.le_of_ble_eq_true rfl) rfl rfl ?_
    refine Tj.iload dX3_cross_36 rfl rfl ?_
    refine Tj.istore dX3_cross_38 (Nat.le_of_ble_eq_true rfl) rfl rfl ?_
    refine Tj.goto dX3_cross_40 rfl ?_
    refine Tj.aload_n dX3_cross_59 rfl rfl ?_
    refine Tj.getR (b := 125) dX3_cross_60 fl_X3_11 sh_124 rfl rfl ?_
    refine Tj.bipush dX3_cross_63 (by decide) (by decide +kernel) rfl ?_
    refine Tj.iload_n dX3_cross_65 rfl rfl ?_
    refine Tj.imul dX3_cross_66 o1 rfl ?_
    refine Tj.aload_n dX3_cross_67 rfl rfl ?_
    refine Tj.getR (b := 126) dX3_cross_68 fl_X3_15 sh_124 rfl rfl ?_
    refine Tj.iconst dX3_cross_71 (by decide) rfl ?_
    refine Tj.bipush dX3_cross_72 (by decide) (by decide +kernel) rfl ?_
    refine Tj.copy dX3_cross_74 ac_X3_68 ac_ok sh_125 sh_126 o2 (by decide) (by decide) o3 (by decide) ⟨Nat.le_of_ble_eq_true rfl, Nat.le_of_ble_eq_true rfl⟩ rfl ?_
    show Tj mX3_cross 77 [some (rV 124), some (iV x1), some (iV x2), some (iV x3), some (iV r1), some (iV r2), some (iV r3), some (iV r2)] [] (sr m3 126 (cpr (m3 125) (m3 126) (6 * x1) 0 6)) P
    generalize hm4 : (sr m3 126 (cpr (m3 125) (m3 126) (6 * x1) 0 6)) = m4
    have h := h m4 hm4.symm
    refine Tj.iconst dX3_cross_77 (by decide) rfl ?_
    refine Tj.istore dX3_cross_78 (Nat.le_of_ble_eq_true rfl) rfl rfl ?_
    exact Tj.cut h ⟨rfl, ⟨rfl, ⟨rfl, ⟨rfl, ⟨rfl, ⟨rfl, trivial⟩⟩⟩⟩⟩⟩
  · have h := h.2 c1
    refine Tj.iload_n dX3_cross_43 rfl rfl ?_
    refine Tj.iconst dX3_cross_44 (by decide) rfl ?_
    refine Tj.icmp_ne dX3_cross_45 rfl rfl (fun c2 => ?_) (fun c2 => ?_)
    · have h := h.1 c2
      refine Tj.iload dX3_cross_48 rfl rfl ?_
      refine Tj.istore dX3_cross_50 (Nat.le_of_ble_eq_true rfl) rfl rfl ?_
      refine Tj.iload dX3_cross_52 rfl rfl ?_
      refine Tj.callSi (as := [_]) (rest := []) dX3_cross_54 ln_X3_77 rfl rfl (Nat.le_of_ble_eq_true rfl) ⟨Nat.le_of_ble_eq_true rfl, Nat.le_of_ble_eq_true rfl⟩ (Nat.le_of_ble_eq_true rfl) rfl ?_
      refine Cli.mono h (fun r4 m5 h => ?_)
      obtain ⟨⟨o4, o5, o6⟩, h⟩ := h
      refine Tj.istore dX3_cross_57 (Nat.le_of_ble_eq_true rfl) rfl rfl ?_
      refine Tj.aload_n dX3_cross_59 rfl rfl ?_
      refine Tj.getR (b := 125) dX3_cross_60 fl_X3_11 sh_124 rfl rfl ?_
      refine Tj.bipush dX3_cross_63 (by decide) (by decide +kernel) rfl ?_
      refine Tj.iload_n dX3_cross_65 rfl rfl ?_
      refine Tj.imul dX3_cross_66 o4 rfl ?_
      refine Tj.aload_n dX3_cross_67 rfl rfl ?_
      refine Tj.getR (b := 126) dX3_cross_68 fl_X3_15 sh_124 rfl rfl ?_
      refine Tj.iconst dX3_cross_71 (by decide) rfl ?_
      refine Tj.bipush dX3_cross_72 (by decide) (by decide +kernel) rfl ?_
      refine Tj.copy dX3_cross_74 ac_X3_68 ac_ok sh_125 sh_126 o5 (by decide) (by decide) o6 (by decide) ⟨Nat.le_of_ble_eq_true rfl, Nat.le_of_ble_eq_true rfl⟩ rfl ?_
      show Tj mX3_cross 77 [some (rV 124), some (iV x1), some (iV x2), some (iV x3), some (iV r1), some (iV r2), some (iV r1), some (iV r4)] [] (sr m5 126 (cpr (m5 125) (m5 126) (6 * x1) 0 6)) P
      generalize hm6 : (sr m5 126 (cpr (m5 125) (m5 126) (6 * x1) 0 6)) = m6
      have h := h m6 hm6.symm
      refine Tj.iconst dX3_cross_77 (by decide) rfl ?_
      refine Tj.istore dX3_cross_78 (Nat.le_of_ble_eq_true rfl) rfl rfl ?_
      exact Tj.cut h ⟨rfl, ⟨rfl, ⟨rfl, ⟨rfl, ⟨rfl, ⟨rfl, trivial⟩⟩⟩⟩⟩⟩
    · have h := h.2 c2
      obtain ⟨⟨o7, o8, o9⟩, h⟩ := h
      refine Tj.aload_n dX3_cross_59 rfl rfl ?_
      refine Tj.getR (b := 125) dX3_cross_60 fl_X3_11 sh_124 rfl rfl ?_
      refine Tj.bipush dX3_cross_63 (by decide) (by decide +kernel) rfl ?_
      refine Tj.iload_n dX3_cross_65 rfl rfl ?_
      refine Tj.imul dX3_cross_66 o7 rfl ?_
      refine Tj.aload_n dX3_cross_67 rfl rfl ?_
      refine Tj.getR (b := 126) dX3_cross_68 fl_X3_15 sh_124 rfl rfl ?_
      refine Tj.iconst dX3_cross_71 (by decide) rfl ?_
      refine Tj.bipush dX3_cross_72 (by decide) (by decide +kernel) rfl ?_
      refine Tj.copy dX3_cross_74 ac_X3_68 ac_ok sh_125 sh_126 o8 (by decide) (by decide) o9 (by decide) ⟨Nat.le_of_ble_eq_true rfl, Nat.le_of_ble_eq_true rfl⟩ rfl ?_
      show Tj mX3_cross 77 [some (rV 124), some (iV x1), some (iV x2), some (iV x3), some (iV r1), some (iV r2), some (iV r2), some (iV r1)] [] (sr m2 126 (cpr (m2 125) (m2 126) (6 * x1) 0 6)) P
      generalize hm7 : (sr m2 126 (cpr (m2 125) (m2 126) (6 * x1) 0 6)) = m7
      have h := h m7 hm7.symm
      refine Tj.iconst dX3_cross_77 (by decide) rfl ?_
      refine Tj.istore dX3_cross_78 (Nat.le_of_ble_eq_true rfl) rfl rfl ?_
      exact Tj.cut h ⟨rfl, ⟨rfl, ⟨rfl, ⟨rfl, ⟨rfl, ⟨rfl, trivial⟩⟩⟩⟩⟩⟩

theorem wX3_cross_80 {m : tM} {P : Option tV → tM → Prop} {x2 : Int} {x5 : Int} {x6 : Int} {x7 : Int} {x8 : Int}  (h : (x8 < 3 → ((0 ≤ x8 ∧ x8 < 6) ∧ (Cli mX1_step [iV x5, iV x8] m (fun r1 m1 => (Cli mX1_step [iV x6, iV x8] m1 (fun r2 m2 => ((R32 (r1 + r2) ∧ R32 ((m 126 x8) + (r1 + r2)) ∧ R32 (x8 + 1)) ∧ (Tj mX3_cross 80 [some (rV 124), none, some (iV x2), none, none, some (iV x5), some (iV x6), some (iV x7), some (iV (x8 + 1))] [] (up m2 126 x8 ((m 126 x8) + (r1 + r2))) P)))))))) ∧ (¬ x8 < 3 → (∀ v1 : Int, v1 = (if (bAnd x2 1) = 0 then 4 else 5) → ((x2 < 2 → ((0 ≤ v1 ∧ v1 < 6) ∧ (P none (up (up m 126 3 x7) 126 v1 x6)))) ∧ (¬ x2 < 2 → (Cli mX1_against [iV x6] (up m 126 3 x7) (fun r3 m3 => ((0 ≤ v1 ∧ v1 < 6) ∧ (P none (up m3 126 v1 r3)))))))))) : Tj mX3_cross 80 [some (rV 124), none, some (iV x2), none, none, some (iV x5), some (iV x6), some (iV x7), some (iV x8)] [] m P := by
  refine Tj.iload dX3_cross_80 rfl rfl ?_
  refine Tj.iconst dX3_cross_82 (by decide) rfl ?_
  refine Tj.icmp_ge dX3_cross_83 rfl rfl (fun c1 => ?_) (fun c1 => ?_)
  · have h := h.1 c1
    obtain ⟨⟨o1, o2⟩, h⟩ := h
    refine Tj.aload_n dX3_cross_86 rfl rfl ?_
    refine Tj.getR (b := 126) dX3_cross_87 fl_X3_15 sh_124 rfl rfl ?_
    refine Tj.iload dX3_cross_90 rfl rfl ?_
    refine Tj.dup2 dX3_cross_92 rfl rfl rfl ?_
    refine Tj.iald dX3_cross_93 sh_126 o1 o2 rfl ?_
    refine Tj.iload dX3_cross_94 rfl rfl ?_
    refine Tj.iload dX3_cross_96 rfl rfl ?_
    refine Tj.callSi (as := [_, _]) (rest := [_, _, _]) dX3_cross_98 ln_X3_85 rfl rfl (Nat.le_of_ble_eq_true rfl) ⟨Nat.le_of_ble_eq_true rfl, Nat.le_of_ble_eq_true rfl⟩ (Nat.le_of_ble_eq_true rfl) rfl ?_
    refine Cli.mono h (fun r1 m1 h => ?_)
    refine Tj.iload dX3_cross_101 rfl rfl ?_
    refine Tj.iload dX3_cross_103 rfl rfl ?_
    refine Tj.callSi (as := [_, _]) (rest := [_, _, _, _]) dX3_cross_105 ln_X3_85 rfl rfl (Nat.le_of_ble_eq_true rfl) ⟨Nat.le_of_ble_eq_true rfl, Nat.le_of_ble_eq_true rfl⟩ (Nat.le_of_ble_eq_true rfl) rfl ?_
    refine Cli.mono h (fun r2 m2 h => ?_)
    obtain ⟨⟨o3, o4, o5⟩, h⟩ := h
    refine Tj.iadd dX3_cross_108 o3 rfl ?_
    refine Tj.iadd dX3_cross_109 o4 rfl ?_
    refine Tj.iast dX3_cross_110 sh_126 o1 o2 rfl ?_
    refine Tj.iinc dX3_cross_111 rfl (Nat.le_of_ble_eq_true rfl) rfl o5 rfl ?_
    refine Tj.goto dX3_cross_114 rfl ?_
    exact Tj.cut h ⟨rfl, ⟨rfl, ⟨rfl, ⟨rfl, ⟨rfl, ⟨rfl, trivial⟩⟩⟩⟩⟩⟩
  · have h := h.2 c1
    refine Tj.aload_n dX3_cross_117 rfl rfl ?_
    refine Tj.getR (b := 126) dX3_cross_118 fl_X3_15 sh_124 rfl rfl ?_
    refine Tj.iconst dX3_cross_121 (by decide) rfl ?_
    refine Tj.iload dX3_cross_122 rfl rfl ?_
    refine Tj.iast dX3_cross_124 sh_126 (by decide) (by decide) rfl ?_
    refine Tj.aload_n dX3_cross_125 rfl rfl ?_
    refine Tj.getR (b := 126) dX3_cross_126 fl_X3_15 sh_124 rfl rfl ?_
    refine Tj.iload_n dX3_cross_129 rfl rfl ?_
    refine Tj.iconst dX3_cross_130 (by decide) rfl ?_
    refine Tj.iand dX3_cross_131 rfl ?_
    have hj : Tj mX3_cross 140 [none, none, some (iV x2), none, none, none, some (iV x6)] [iV (if (bAnd x2 1) = 0 then 4 else 5), rV 126] (up m 126 3 x7) P := by
      generalize hv1 : ((if (bAnd x2 1) = 0 then 4 else 5) : Int) = v1
      have h := h v1 hv1.symm
      refine Tj.iload_n dX3_cross_140 rfl rfl ?_
      refine Tj.iconst dX3_cross_141 (by decide) rfl ?_
      refine Tj.icmp_ge dX3_cross_142 rfl rfl (fun c3 => ?_) (fun c3 => ?_)
      · have h := h.1 c3
        obtain ⟨⟨o6, o7⟩, h⟩ := h
        refine Tj.iload dX3_cross_145 rfl rfl ?_
        refine Tj.goto dX3_cross_147 rfl ?_
        refine Tj.iast dX3_cross_155 sh_126 o6 o7 rfl ?_
        exact Tj.vret dX3_cross_156 rfl h
      · have h := h.2 c3
        refine Tj.iload dX3_cross_150 rfl rfl ?_
        refine Tj.callSi (as := [_]) (rest := [_, _]) dX3_cross_152 ln_X3_77 rfl rfl (Nat.le_of_ble_eq_true rfl) ⟨Nat.le_of_ble_eq_true rfl, Nat.le_of_ble_eq_true rfl⟩ (Nat.le_of_ble_eq_true rfl) rfl ?_
        refine Cli.mono h (fun r3 m3 h => ?_)
        obtain ⟨⟨o8, o9⟩, h⟩ := h
        refine Tj.iast dX3_cross_155 sh_126 o8 o9 rfl ?_
        exact Tj.vret dX3_cross_156 rfl h
    refine Tj.if_ne dX3_cross_132 rfl rfl (fun c2 => ?_) (fun c2 => ?_)
    · refine Tj.iconst dX3_cross_135 (by decide) rfl ?_
      refine Tj.goto dX3_cross_136 rfl ?_
      try simp only [if_pos c2] at hj ⊢
      exact Tj.cut hj ⟨rfl, ⟨rfl, trivial⟩⟩
    · refine Tj.iconst dX3_cross_139 (by decide) rfl ?_
      try simp only [if_neg c2] at hj ⊢
      exact Tj.cut hj ⟨rfl, ⟨rfl, trivial⟩⟩

theorem wX3_agrees_0 {m : tM} {P : Option tV → tM → Prop}   (h : Tj mX3_agrees 2 [some (rV 124), some (rV 6), some (rV 120), some (iV 0)] [] m P) : Tj mX3_agrees 0 [some (rV 124), some (rV 6), some (rV 120)] [] m P := by
  refine Tj.iconst dX3_agrees_0 (by decide) rfl ?_
  refine Tj.istore_n dX3_agrees_1 (Nat.le_of_ble_eq_true rfl) rfl rfl ?_
  exact Tj.cut h ⟨rfl, ⟨rfl, ⟨rfl, ⟨rfl, trivial⟩⟩⟩⟩

theorem wX3_agrees_2 {m : tM} {P : Option tV → tM → Prop} {x3 : Int}  (h : (x3 < (m 124 3) → (Tj mX3_agrees 13 [some (rV 124), some (rV 6), some (rV 120), some (iV x3), some (iV 0)] [] m P)) ∧ (¬ x3 < (m 124 3) → (P (some (iV 1)) m))) : Tj mX3_agrees 2 [some (rV 124), some (rV 6), some (rV 120), some (iV x3)] [] m P := by
  refine Tj.iload_n dX3_agrees_2 rfl rfl ?_
  refine Tj.aload_n dX3_agrees_3 rfl rfl ?_
  refine Tj.gI (j := 3) dX3_agrees_4 fl_X3_21 sh_124 rfl rfl ?_
  refine Tj.icmp_ge dX3_agrees_7 rfl rfl (fun c1 => ?_) (fun c1 => ?_)
  · have h := h.1 c1
    refine Tj.iconst dX3_agrees_10 (by decide) rfl ?_
    refine Tj.istore dX3_agrees_11 (Nat.le_of_ble_eq_true rfl) rfl rfl ?_
    exact Tj.cut h ⟨rfl, ⟨rfl, ⟨rfl, ⟨rfl, ⟨rfl, trivial⟩⟩⟩⟩⟩
  · have h := h.2 c1
    refine Tj.iconst dX3_agrees_72 (by decide) rfl ?_
    exact Tj.zret dX3_agrees_73 rfl (by decide) h

theorem wX3_agrees_13 {m : tM} {P : Option tV → tM → Prop} {x3 : Int} {x4 : Int}  (h : (x4 < 2 → (Cli mX6_next [rV 120, iV x3, iV x4] m (fun r1 m1 => ((r1 < 0 → ((R32 (x4 + 1)) ∧ (Tj mX3_agrees 13 [some (rV 124), some (rV 6), some (rV 120), some (iV x3), some (iV (x4 + 1))] [] m1 P))) ∧ (¬ r1 < 0 → (Cli mX8_creaseAt [rV 6, iV x3, iV x4] m1 (fun r2 m2 => ((R32 (r2 - 2)) ∧ (Clv mX3_cross [rV 124, iV x3, iV x4, iV (r2 - 2)] m2 (fun m3 => (Cli mX3_liesBeside [rV 124, iV r1] m3 (fun r3 m4 => ((r3 = 0 → (P (some (iV 0)) m4)) ∧ (¬ r3 = 0 → ((R32 (x4 + 1)) ∧ (Tj mX3_agrees 13 [some (rV 124), some (rV 6), some (rV 120), some (iV x3), some (iV (x4 + 1))] [] m4 P)))))))))))))))) ∧ (¬ x4 < 2 → ((R32 (x3 + 1)) ∧ (Tj mX3_agrees 2 [some (rV 124), some (rV 6), some (rV 120), some (iV (x3 + 1))] [] m P)))) : Tj mX3_agrees 13 [some (rV 124), some (rV 6), some (rV 120), some (iV x3), some (iV x4)] [] m P := by
  refine Tj.iload dX3_agrees_13 rfl rfl ?_
  refine Tj.iconst dX3_agrees_15 (by decide) rfl ?_
  refine Tj.icmp_ge dX3_agrees_16 rfl rfl (fun c1 => ?_) (fun c1 => ?_)
  · have h := h.1 c1
    refine Tj.aload_n dX3_agrees_19 rfl rfl ?_
    refine Tj.iload_n dX3_agrees_20 rfl rfl ?_
    refine Tj.iload dX3_agrees_21 rfl rfl ?_
    refine Tj.callVi (as := [_, _]) (rest := []) dX3_agrees_23 ln_X3_88 sh_120 (by decide) rfl rfl (Nat.le_of_ble_eq_true rfl) ⟨Nat.le_of_ble_eq_true rfl, Nat.le_of_ble_eq_true rfl⟩ (Nat.le_of_ble_eq_true rfl) rfl ?_
    refine Cli.mono h (fun r1 m1 h => ?_)
    refine Tj.istore dX3_agrees_26 (Nat.le_of_ble_eq_true rfl) rfl rfl ?_
    refine Tj.iload dX3_agrees_28 rfl rfl ?_
    refine Tj.if_lt dX3_agrees_30 rfl rfl (fun c2 => ?_) (fun c2 => ?_)
    · have h := h.1 c2
      obtain ⟨o1, h⟩ := h
      refine Tj.iinc dX3_agrees_60 rfl (Nat.le_of_ble_eq_true rfl) rfl o1 rfl ?_
      refine Tj.goto dX3_agrees_63 rfl ?_
      exact Tj.cut h ⟨rfl, ⟨rfl, ⟨rfl, ⟨rfl, ⟨rfl, trivial⟩⟩⟩⟩⟩
    · have h := h.2 c2
      refine Tj.aload_n dX3_agrees_33 rfl rfl ?_
      refine Tj.iload_n dX3_agrees_34 rfl rfl ?_
      refine Tj.iload dX3_agrees_35 rfl rfl ?_
      refine Tj.aload_n dX3_agrees_37 rfl rfl ?_
      refine Tj.iload_n dX3_agrees_38 rfl rfl ?_
      refine Tj.iload dX3_agrees_39 rfl rfl ?_
      refine Tj.callVi (as := [_, _]) (rest := [_, _, _]) dX3_agrees_41 ln_X3_60 sh_6 (by decide) rfl rfl (Nat.le_of_ble_eq_true rfl) ⟨Nat.le_of_ble_eq_true rfl, Nat.le_of_ble_eq_true rfl⟩ (Nat.le_of_ble_eq_true rfl) rfl ?_
      refine Cli.mono h (fun r2 m2 h => ?_)
      obtain ⟨o2, h⟩ := h
      refine Tj.iconst dX3_agrees_44 (by decide) rfl ?_
      refine Tj.isub dX3_agrees_45 o2 rfl ?_
      refine Tj.callVv (as := [_, _, _]) (rest := []) dX3_agrees_46 ln_X3_64 sh_124 (by decide) rfl rfl (Nat.le_of_ble_eq_true rfl) ⟨Nat.le_of_ble_eq_true rfl, Nat.le_of_ble_eq_true rfl⟩ (Nat.le_of_ble_eq_true rfl) rfl ?_
      refine Clv.mono h (fun m3 h => ?_)
      refine Tj.aload_n dX3_agrees_49 rfl rfl ?_
      refine Tj.iload dX3_agrees_50 rfl rfl ?_
      refine Tj.callVi (as := [_]) (rest := []) dX3_agrees_52 ln_X3_91 sh_124 (by decide) rfl rfl (Nat.le_of_ble_eq_true rfl) ⟨Nat.le_of_ble_eq_true rfl, Nat.le_of_ble_eq_true rfl⟩ (Nat.le_of_ble_eq_true rfl) rfl ?_
      refine Cli.mono h (fun r3 m4 h => ?_)
      refine Tj.if_ne dX3_agrees_55 rfl rfl (fun c3 => ?_) (fun c3 => ?_)
      · have h := h.1 c3
        refine Tj.iconst dX3_agrees_58 (by decide) rfl ?_
        exact Tj.zret dX3_agrees_59 rfl (by decide) h
      · have h := h.2 c3
        obtain ⟨o3, h⟩ := h
        refine Tj.iinc dX3_agrees_60 rfl (Nat.le_of_ble_eq_true rfl) rfl o3 rfl ?_
        refine Tj.goto dX3_agrees_63 rfl ?_
        exact Tj.cut h ⟨rfl, ⟨rfl, ⟨rfl, ⟨rfl, ⟨rfl, trivial⟩⟩⟩⟩⟩
  · have h := h.2 c1
    obtain ⟨o4, h⟩ := h
    refine Tj.iinc dX3_agrees_66 rfl (Nat.le_of_ble_eq_true rfl) rfl o4 rfl ?_
    refine Tj.goto dX3_agrees_69 rfl ?_
    exact Tj.cut h ⟨rfl, ⟨rfl, ⟨rfl, ⟨rfl, trivial⟩⟩⟩⟩

theorem wX3_liesBeside_0 {m : tM} {P : Option tV → tM → Prop} {x1 : Int}  (h : Tj mX3_liesBeside 2 [some (rV 124), some (iV x1), some (iV 0)] [] m P) : Tj mX3_liesBeside 0 [some (rV 124), some (iV x1)] [] m P := by
  refine Tj.iconst dX3_liesBeside_0 (by decide) rfl ?_
  refine Tj.istore_n dX3_liesBeside_1 (Nat.le_of_ble_eq_true rfl) rfl rfl ?_
  exact Tj.cut h ⟨rfl, ⟨rfl, ⟨rfl, trivial⟩⟩⟩

theorem wX3_liesBeside_2 {m : tM} {P : Option tV → tM → Prop} {x1 : Int} {x2 : Int}  (h : (x2 < 6 → (Cli mX3_poseOf [rV 124, iV x1, iV x2] m (fun r1 m1 => ((0 ≤ x2 ∧ x2 < 6) ∧ ((r1 = (m1 126 x2) → ((R32 (x2 + 1)) ∧ (Tj mX3_liesBeside 2 [some (rV 124), some (iV x1), some (iV (x2 + 1))] [] m1 P))) ∧ (¬ r1 = (m1 126 x2) → (P (some (iV 0)) m1))))))) ∧ (¬ x2 < 6 → (P (some (iV 1)) m))) : Tj mX3_liesBeside 2 [some (rV 124), some (iV x1), some (iV x2)] [] m P := by
  refine Tj.iload_n dX3_liesBeside_2 rfl rfl ?_
  refine Tj.bipush dX3_liesBeside_3 (by decide) (by decide +kernel) rfl ?_
  refine Tj.icmp_ge dX3_liesBeside_5 rfl rfl (fun c1 => ?_) (fun c1 => ?_)
  · have h := h.1 c1
    refine Tj.aload_n dX3_liesBeside_8 rfl rfl ?_
    refine Tj.iload_n dX3_liesBeside_9 rfl rfl ?_
    refine Tj.iload_n dX3_liesBeside_10 rfl rfl ?_
    refine Tj.callVi (as := [_, _]) (rest := []) dX3_liesBeside_11 ln_X3_74 sh_124 (by decide) rfl rfl (Nat.le_of_ble_eq_true rfl) ⟨Nat.le_of_ble_eq_true rfl, Nat.le_of_ble_eq_true rfl⟩ (Nat.le_of_ble_eq_true rfl) rfl ?_
    refine Cli.mono h (fun r1 m1 h => ?_)
    obtain ⟨⟨o1, o2⟩, h⟩ := h
    refine Tj.aload_n dX3_liesBeside_14 rfl rfl ?_
    refine Tj.getR (b := 126) dX3_liesBeside_15 fl_X3_15 sh_124 rfl rfl ?_
    refine Tj.iload_n dX3_liesBeside_18 rfl rfl ?_
    refine Tj.iald dX3_liesBeside_19 sh_126 o1 o2 rfl ?_
    refine Tj.icmp_eq dX3_liesBeside_20 rfl rfl (fun c2 => ?_) (fun c2 => ?_)
    · have h := h.1 c2
      obtain ⟨o3, h⟩ := h
      refine Tj.iinc dX3_liesBeside_25 rfl (Nat.le_of_ble_eq_true rfl) rfl o3 rfl ?_
      refine Tj.goto dX3_liesBeside_28 rfl ?_
      exact Tj.cut h ⟨rfl, ⟨rfl, ⟨rfl, trivial⟩⟩⟩
    · have h := h.2 c2
      refine Tj.iconst dX3_liesBeside_23 (by decide) rfl ?_
      exact Tj.zret dX3_liesBeside_24 rfl (by decide) h
  · have h := h.2 c1
    refine Tj.iconst dX3_liesBeside_31 (by decide) rfl ?_
    exact Tj.zret dX3_liesBeside_32 rfl (by decide) h

theorem wX3_overlaps_0 {m : tM} {P : Option tV → tM → Prop}   (h : Tj mX3_overlaps 2 [some (rV 124), some (iV 0)] [] m P) : Tj mX3_overlaps 0 [some (rV 124)] [] m P := by
  refine Tj.iconst dX3_overlaps_0 (by decide) rfl ?_
  refine Tj.istore_n dX3_overlaps_1 (Nat.le_of_ble_eq_true rfl) rfl rfl ?_
  exact Tj.cut h ⟨rfl, ⟨rfl, trivial⟩⟩

theorem wX3_overlaps_2 {m : tM} {P : Option tV → tM → Prop} {x1 : Int}  (h : (x1 < (m 124 3) → (Tj mX3_overlaps 12 [some (rV 124), some (iV x1), some (iV 0)] [] m P)) ∧ (¬ x1 < (m 124 3) → (P (some (iV 0)) m))) : Tj mX3_overlaps 2 [some (rV 124), some (iV x1)] [] m P := by
  refine Tj.iload_n dX3_overlaps_2 rfl rfl ?_
  refine Tj.aload_n dX3_overlaps_3 rfl rfl ?_
  refine Tj.gI (j := 3) dX3_overlaps_4 fl_X3_21 sh_124 rfl rfl ?_
  refine Tj.icmp_ge dX3_overlaps_7 rfl rfl (fun c1 => ?_) (fun c1 => ?_)
  · have h := h.1 c1
    refine Tj.iconst dX3_overlaps_10 (by decide) rfl ?_
    refine Tj.istore_n dX3_overlaps_11 (Nat.le_of_ble_eq_true rfl) rfl rfl ?_
    exact Tj.cut h ⟨rfl, ⟨rfl, ⟨rfl, trivial⟩⟩⟩
  · have h := h.2 c1
    refine Tj.iconst dX3_overlaps_76 (by decide) rfl ?_
    exact Tj.zret dX3_overlaps_77 rfl (by decide) h

theorem wX3_overlaps_12 {m : tM} {P : Option tV → tM → Prop} {x1 : Int} {x2 : Int}  (h : (x2 < x1 → (Cli mX3_poseOf [rV 124, iV x1, iV 0] m (fun r1 m1 => (Cli mX3_poseOf [rV 124, iV x2, iV 0] m1 (fun r2 m2 => ((r1 = r2 → (Cli mX3_poseOf [rV 124, iV x1, iV 1] m2 (fun r3 m3 => (Cli mX3_poseOf [rV 124, iV x2, iV 1] m3 (fun r4 m4 => ((r3 = r4 → (Cli mX3_poseOf [rV 124, iV x1, iV 2] m4 (fun r5 m5 => (Cli mX3_poseOf [rV 124, iV x2, iV 2] m5 (fun r6 m6 => ((r5 = r6 → (P (some (iV 1)) m6)) ∧ (¬ r5 = r6 → ((R32 (x2 + 1)) ∧ (Tj mX3_overlaps 12 [some (rV 124), some (iV x1), some (iV (x2 + 1))] [] m6 P))))))))) ∧ (¬ r3 = r4 → ((R32 (x2 + 1)) ∧ (Tj mX3_overlaps 12 [some (rV 124), some (iV x1), some (iV (x2 + 1))] [] m4 P))))))))) ∧ (¬ r1 = r2 → ((R32 (x2 + 1)) ∧ (Tj mX3_overlaps 12 [some (rV 124), some (iV x1), some (iV (x2 + 1))] [] m2 P))))))))) ∧ (¬ x2 < x1 → ((R32 (x1 + 1)) ∧ (Tj mX3_overlaps 2 [some (rV 124), some (iV (x1 + 1))] [] m P)))) : Tj mX3_overlaps 12 [some (rV 124), some (iV x1), some (iV x2)] [] m P := by
  refine Tj.iload_n dX3_overlaps_12 rfl rfl ?_
  refine Tj.iload_n dX3_overlaps_13 rfl rfl ?_
  refine Tj.icmp_ge dX3_overlaps_14 rfl rfl (fun c1 => ?_) (fun c1 => ?_)
  · have h := h.1 c1
    refine Tj.aload_n dX3_overlaps_17 rfl rfl ?_
    refine Tj.iload_n dX3_overlaps_18 rfl rfl ?_
    refine Tj.iconst dX3_overlaps_19 (by decide) rfl ?_
    refine Tj.callVi (as := [_, _]) (rest := []) dX3_overlaps_20 ln_X3_74 sh_124 (by decide) rfl rfl (Nat.le_of_ble_eq_true rfl) ⟨Nat.le_of_ble_eq_true rfl, Nat.le_of_ble_eq_true rfl⟩ (Nat.le_of_ble_eq_true rfl) rfl ?_
    refine Cli.mono h (fun r1 m1 h => ?_)
    refine Tj.aload_n dX3_overlaps_23 rfl rfl ?_
    refine Tj.iload_n dX3_overlaps_24 rfl rfl ?_
    refine Tj.iconst dX3_overlaps_25 (by decide) rfl ?_
    refine Tj.callVi (as := [_, _]) (rest := [_]) dX3_overlaps_26 ln_X3_74 sh_124 (by decide) rfl rfl (Nat.le_of_ble_eq_true rfl) ⟨Nat.le_of_ble_eq_true rfl, Nat.le_of_ble_eq_true rfl⟩ (Nat.le_of_ble_eq_true rfl) rfl ?_
    refine Cli.mono h (fun r2 m2 h => ?_)
    refine Tj.icmp_ne dX3_overlaps_29 rfl rfl (fun c2 => ?_) (fun c2 => ?_)
    · have h := h.1 c2
      refine Tj.aload_n dX3_overlaps_32 rfl rfl ?_
      refine Tj.iload_n dX3_overlaps_33 rfl rfl ?_
      refine Tj.iconst dX3_overlaps_34 (by decide) rfl ?_
      refine Tj.callVi (as := [_, _]) (rest := []) dX3_overlaps_35 ln_X3_74 sh_124 (by decide) rfl rfl (Nat.le_of_ble_eq_true rfl) ⟨Nat.le_of_ble_eq_true rfl, Nat.le_of_ble_eq_true rfl⟩ (Nat.le_of_ble_eq_true rfl) rfl ?_
      refine Cli.mono h (fun r3 m3 h => ?_)
      refine Tj.aload_n dX3_overlaps_38 rfl rfl ?_
      refine Tj.iload_n dX3_overlaps_39 rfl rfl ?_
      refine Tj.iconst dX3_overlaps_40 (by decide) rfl ?_
      refine Tj.callVi (as := [_, _]) (rest := [_]) dX3_overlaps_41 ln_X3_74 sh_124 (by decide) rfl rfl (Nat.le_of_ble_eq_true rfl) ⟨Nat.le_of_ble_eq_true rfl, Nat.le_of_ble_eq_true rfl⟩ (Nat.le_of_ble_eq_true rfl) rfl ?_
      refine Cli.mono h (fun r4 m4 h => ?_)
      refine Tj.icmp_ne dX3_overlaps_44 rfl rfl (fun c3 => ?_) (fun c3 => ?_)
      · have h := h.1 c3
        refine Tj.aload_n dX3_overlaps_47 rfl rfl ?_
        refine Tj.iload_n dX3_overlaps_48 rfl rfl ?_
        refine Tj.iconst dX3_overlaps_49 (by decide) rfl ?_
        refine Tj.callVi (as := [_, _]) (rest := []) dX3_overlaps_50 ln_X3_74 sh_124 (by decide) rfl rfl (Nat.le_of_ble_eq_true rfl) ⟨Nat.le_of_ble_eq_true rfl, Nat.le_of_ble_eq_true rfl⟩ (Nat.le_of_ble_eq_true rfl) rfl ?_
        refine Cli.mono h (fun r5 m5 h => ?_)
        refine Tj.aload_n dX3_overlaps_53 rfl rfl ?_
        refine Tj.iload_n dX3_overlaps_54 rfl rfl ?_
        refine Tj.iconst dX3_overlaps_55 (by decide) rfl ?_
        refine Tj.callVi (as := [_, _]) (rest := [_]) dX3_overlaps_56 ln_X3_74 sh_124 (by decide) rfl rfl (Nat.le_of_ble_eq_true rfl) ⟨Nat.le_of_ble_eq_true rfl, Nat.le_of_ble_eq_true rfl⟩ (Nat.le_of_ble_eq_true rfl) rfl ?_
        refine Cli.mono h (fun r6 m6 h => ?_)
        refine Tj.icmp_ne dX3_overlaps_59 rfl rfl (fun c4 => ?_) (fun c4 => ?_)
        · have h := h.1 c4
          refine Tj.iconst dX3_overlaps_62 (by decide) rfl ?_
          exact Tj.zret dX3_overlaps_63 rfl (by decide) h
        · have h := h.2 c4
          obtain ⟨o1, h⟩ := h
          refine Tj.iinc dX3_overlaps_64 rfl (Nat.le_of_ble_eq_true rfl) rfl o1 rfl ?_
          refine Tj.goto dX3_overlaps_67 rfl ?_
          exact Tj.cut h ⟨rfl, ⟨rfl, ⟨rfl, trivial⟩⟩⟩
      · have h := h.2 c3
        obtain ⟨o2, h⟩ := h
        refine Tj.iinc dX3_overlaps_64 rfl (Nat.le_of_ble_eq_true rfl) rfl o2 rfl ?_
        refine Tj.goto dX3_overlaps_67 rfl ?_
        exact Tj.cut h ⟨rfl, ⟨rfl, ⟨rfl, trivial⟩⟩⟩
    · have h := h.2 c2
      obtain ⟨o3, h⟩ := h
      refine Tj.iinc dX3_overlaps_64 rfl (Nat.le_of_ble_eq_true rfl) rfl o3 rfl ?_
      refine Tj.goto dX3_overlaps_67 rfl ?_
      exact Tj.cut h ⟨rfl, ⟨rfl, ⟨rfl, trivial⟩⟩⟩
  · have h := h.2 c1
    obtain ⟨o4, h⟩ := h
    refine Tj.iinc dX3_overlaps_70 rfl (Nat.le_of_ble_eq_true rfl) rfl o4 rfl ?_
    refine Tj.goto dX3_overlaps_73 rfl ?_
    exact Tj.cut h ⟨rfl, ⟨rfl, trivial⟩⟩

theorem wX3_leavesNoGap_0 {m : tM} {P : Option tV → tM → Prop}   (h : Tj mX3_leavesNoGap 2 [some (rV 124), some (iV 0)] [] m P) : Tj mX3_leavesNoGap 0 [some (rV 124)] [] m P := by
  refine Tj.iconst dX3_leavesNoGap_0 (by decide) rfl ?_
  refine Tj.istore_n dX3_leavesNoGap_1 (Nat.le_of_ble_eq_true rfl) rfl rfl ?_
  exact Tj.cut h ⟨rfl, ⟨rfl, trivial⟩⟩

theorem wX3_leavesNoGap_2 {m : tM} {P : Option tV → tM → Prop} {x1 : Int}  (h : (x1 < (m 124 3) → (Tj mX3_leavesNoGap 12 [some (rV 124), some (iV x1), some (iV 0)] [] m P)) ∧ (¬ x1 < (m 124 3) → (Tj mX3_leavesNoGap 47 [some (rV 124), some (iV 0)] [] m P))) : Tj mX3_leavesNoGap 2 [some (rV 124), some (iV x1)] [] m P := by
  refine Tj.iload_n dX3_leavesNoGap_2 rfl rfl ?_
  refine Tj.aload_n dX3_leavesNoGap_3 rfl rfl ?_
  refine Tj.gI (j := 3) dX3_leavesNoGap_4 fl_X3_21 sh_124 rfl rfl ?_
  refine Tj.icmp_ge dX3_leavesNoGap_7 rfl rfl (fun c1 => ?_) (fun c1 => ?_)
  · have h := h.1 c1
    refine Tj.iconst dX3_leavesNoGap_10 (by decide) rfl ?_
    refine Tj.istore_n dX3_leavesNoGap_11 (Nat.le_of_ble_eq_true rfl) rfl rfl ?_
    exact Tj.cut h ⟨rfl, ⟨rfl, ⟨rfl, trivial⟩⟩⟩
  · have h := h.2 c1
    refine Tj.iconst dX3_leavesNoGap_45 (by decide) rfl ?_
    refine Tj.istore_n dX3_leavesNoGap_46 (Nat.le_of_ble_eq_true rfl) rfl rfl ?_
    exact Tj.cut h ⟨rfl, ⟨rfl, trivial⟩⟩

theorem wX3_leavesNoGap_12 {m : tM} {P : Option tV → tM → Prop} {x1 : Int} {x2 : Int}  (h : (x2 < 4 → ((R32 (4 * x1) ∧ R32 ((4 * x1) + x2)) ∧ (Cli mX3_rim [rV 124, iV x1, iV x2] m (fun r1 m1 => ((0 ≤ ((4 * x1) + x2) ∧ ((4 * x1) + x2) < 240 ∧ R32 (x2 + 1)) ∧ (Tj mX3_leavesNoGap 12 [some (rV 124), some (iV x1), some (iV (x2 + 1))] [] (up m1 127 ((4 * x1) + x2) r1) P)))))) ∧ (¬ x2 < 4 → ((R32 (x1 + 1)) ∧ (Tj mX3_leavesNoGap 2 [some (rV 124), some (iV (x1 + 1))] [] m P)))) : Tj mX3_leavesNoGap 12 [some (rV 124), some (iV x1), some (iV x2)] [] m P := by
  refine Tj.iload_n dX3_leavesNoGap_12 rfl rfl ?_
  refine Tj.iconst dX3_leavesNoGap_13 (by decide) rfl ?_
  refine Tj.icmp_ge dX3_leavesNoGap_14 rfl rfl (fun c1 => ?_) (fun c1 => ?_)
  · have h := h.1 c1
    obtain ⟨⟨o1, o2⟩, h⟩ := h
    refine Tj.aload_n dX3_leavesNoGap_17 rfl rfl ?_
    refine Tj.getR (b := 127) dX3_leavesNoGap_18 fl_X3_18 sh_124 rfl rfl ?_
    refine Tj.iconst dX3_leavesNoGap_21 (by decide) rfl ?_
    refine Tj.iload_n dX3_leavesNoGap_22 rfl rfl ?_
    refine Tj.imul dX3_leavesNoGap_23 o1 rfl ?_
    refine Tj.iload_n dX3_leavesNoGap_24 rfl rfl ?_
    refine Tj.iadd dX3_leavesNoGap_25 o2 rfl ?_
    refine Tj.aload_n dX3_leavesNoGap_26 rfl rfl ?_
    refine Tj.iload_n dX3_leavesNoGap_27 rfl rfl ?_
    refine Tj.iload_n dX3_leavesNoGap_28 rfl rfl ?_
    refine Tj.callVi (as := [_, _]) (rest := [_, _]) dX3_leavesNoGap_29 ln_X3_95 sh_124 (by decide) rfl rfl (Nat.le_of_ble_eq_true rfl) ⟨Nat.le_of_ble_eq_true rfl, Nat.le_of_ble_eq_true rfl⟩ (Nat.le_of_ble_eq_true rfl) rfl ?_
    refine Cli.mono h (fun r1 m1 h => ?_)
    obtain ⟨⟨o3, o4, o5⟩, h⟩ := h
    refine Tj.iast dX3_leavesNoGap_32 sh_127 o3 o4 rfl ?_
    refine Tj.iinc dX3_leavesNoGap_33 rfl (Nat.le_of_ble_eq_true rfl) rfl o5 rfl ?_
    refine Tj.goto dX3_leavesNoGap_36 rfl ?_
    exact Tj.cut h ⟨rfl, ⟨rfl, ⟨rfl, trivial⟩⟩⟩
  · have h := h.2 c1
    obtain ⟨o6, h⟩ := h
    refine Tj.iinc dX3_leavesNoGap_39 rfl (Nat.le_of_ble_eq_true rfl) rfl o6 rfl ?_
    refine Tj.goto dX3_leavesNoGap_42 rfl ?_
    exact Tj.cut h ⟨rfl, ⟨rfl, trivial⟩⟩

theorem wX3_leavesNoGap_47 {m : tM} {P : Option tV → tM → Prop} {x1 : Int}  (h : (R32 (4 * (m 124 3))) ∧ ((x1 < (4 * (m 124 3)) → ((0 ≤ x1 ∧ x1 < 240) ∧ (Cli mX3_timesAmongRims [rV 124, iV (m 127 x1)] m (fun r1 m1 => ((r1 = 2 → ((R32 (x1 + 1)) ∧ (Tj mX3_leavesNoGap 47 [some (rV 124), some (iV (x1 + 1))] [] m1 P))) ∧ (¬ r1 = 2 → (P (some (iV 0)) m1))))))) ∧ (¬ x1 < (4 * (m 124 3)) → (P (some (iV 1)) m)))) : Tj mX3_leavesNoGap 47 [some (rV 124), some (iV x1)] [] m P := by
  obtain ⟨o1, h⟩ := h
  refine Tj.iload_n dX3_leavesNoGap_47 rfl rfl ?_
  refine Tj.iconst dX3_leavesNoGap_48 (by decide) rfl ?_
  refine Tj.aload_n dX3_leavesNoGap_49 rfl rfl ?_
  refine Tj.gI (j := 3) dX3_leavesNoGap_50 fl_X3_21 sh_124 rfl rfl ?_
  refine Tj.imul dX3_leavesNoGap_53 o1 rfl ?_
  refine Tj.icmp_ge dX3_leavesNoGap_54 rfl rfl (fun c1 => ?_) (fun c1 => ?_)
  · have h := h.1 c1
    obtain ⟨⟨o2, o3⟩, h⟩ := h
    refine Tj.aload_n dX3_leavesNoGap_57 rfl rfl ?_
    refine Tj.aload_n dX3_leavesNoGap_58 rfl rfl ?_
    refine Tj.getR (b := 127) dX3_leavesNoGap_59 fl_X3_18 sh_124 rfl rfl ?_
    refine Tj.iload_n dX3_leavesNoGap_62 rfl rfl ?_
    refine Tj.iald dX3_leavesNoGap_63 sh_127 o2 o3 rfl ?_
    refine Tj.callVi (as := [_]) (rest := []) dX3_leavesNoGap_64 ln_X3_98 sh_124 (by decide) rfl rfl (Nat.le_of_ble_eq_true rfl) ⟨Nat.le_of_ble_eq_true rfl, Nat.le_of_ble_eq_true rfl⟩ (Nat.le_of_ble_eq_true rfl) rfl ?_
    refine Cli.mono h (fun r1 m1 h => ?_)
    refine Tj.iconst dX3_leavesNoGap_67 (by decide) rfl ?_
    refine Tj.icmp_eq dX3_leavesNoGap_68 rfl rfl (fun c2 => ?_) (fun c2 => ?_)
    · have h := h.1 c2
      obtain ⟨o4, h⟩ := h
      refine Tj.iinc dX3_leavesNoGap_73 rfl (Nat.le_of_ble_eq_true rfl) rfl o4 rfl ?_
      refine Tj.goto dX3_leavesNoGap_76 rfl ?_
      exact Tj.cut h ⟨rfl, ⟨rfl, trivial⟩⟩
    · have h := h.2 c2
      refine Tj.iconst dX3_leavesNoGap_71 (by decide) rfl ?_
      exact Tj.zret dX3_leavesNoGap_72 rfl (by decide) h
  · have h := h.2 c1
    refine Tj.iconst dX3_leavesNoGap_79 (by decide) rfl ?_
    exact Tj.zret dX3_leavesNoGap_80 rfl (by decide) h

theorem wX3_rim_0 {m : tM} {P : Option tV → tM → Prop} {x1 : Int} {x2 : Int}  (h : Cli mX3_heading [rV 124, iV x1, iV x2] m (fun r1 m1 => (Tj mX3_rim 13 [some (rV 124), some (iV x1), some (iV x2), some (iV r1), some (iV 0), some (iV 0)] [] m1 P))) : Tj mX3_rim 0 [some (rV 124), some (iV x1), some (iV x2)] [] m P := by
  refine Tj.aload_n dX3_rim_0 rfl rfl ?_
  refine Tj.iload_n dX3_rim_1 rfl rfl ?_
  refine Tj.iload_n dX3_rim_2 rfl rfl ?_
  refine Tj.callVi (as := [_, _]) (rest := []) dX3_rim_3 ln_X3_82 sh_124 (by decide) rfl rfl (Nat.le_of_ble_eq_true rfl) ⟨Nat.le_of_ble_eq_true rfl, Nat.le_of_ble_eq_true rfl⟩ (Nat.le_of_ble_eq_true rfl) rfl ?_
  refine Cli.mono h (fun r1 m1 h => ?_)
  refine Tj.istore_n dX3_rim_6 (Nat.le_of_ble_eq_true rfl) rfl rfl ?_
  refine Tj.iconst dX3_rim_7 (by decide) rfl ?_
  refine Tj.istore dX3_rim_8 (Nat.le_of_ble_eq_true rfl) rfl rfl ?_
  refine Tj.iconst dX3_rim_10 (by decide) rfl ?_
  refine Tj.istore dX3_rim_11 (Nat.le_of_ble_eq_true rfl) rfl rfl ?_
  exact Tj.cut h ⟨rfl, ⟨rfl, ⟨rfl, ⟨rfl, ⟨rfl, ⟨rfl, trivial⟩⟩⟩⟩⟩⟩

theorem wX3_rim_13 {m : tM} {P : Option tV → tM → Prop} {x1 : Int} {x2 : Int} {x3 : Int} {x4 : Int} {x5 : Int}  (h : (x5 < 3 → ((R32 (256 * x4) ∧ R32 ((256 * x4) + 128)) ∧ (Cli mX3_poseOf [rV 124, iV x1, iV x5] m (fun r1 m1 => ((R32 (((256 * x4) + 128) + r1)) ∧ (Cli mX1_step [iV x3, iV x5] m1 (fun r2 m2 => ((R32 ((((256 * x4) + 128) + r1) + r2) ∧ R32 (x5 + 1)) ∧ (Tj mX3_rim 13 [some (rV 124), some (iV x1), some (iV x2), some (iV x3), some (iV ((((256 * x4) + 128) + r1) + r2)), some (iV (x5 + 1))] [] m2 P))))))))) ∧ (¬ x5 < 3 → ((R32 (3 * x4) ∧ R32 (x2 + 1)) ∧ (Cli mX3_heading [rV 124, iV x1, iV (bAnd (x2 + 1) 3)] m (fun r3 m3 => ((R32 ((3 * x4) + (bShr r3 1))) ∧ (P (some (iV ((3 * x4) + (bShr r3 1)))) m3))))))) : Tj mX3_rim 13 [some (rV 124), some (iV x1), some (iV x2), some (iV x3), some (iV x4), some (iV x5)] [] m P := by
  refine Tj.iload dX3_rim_13 rfl rfl ?_
  refine Tj.iconst dX3_rim_15 (by decide) rfl ?_
  refine Tj.icmp_ge dX3_rim_16 rfl rfl (fun c1 => ?_) (fun c1 => ?_)
  · have h := h.1 c1
    obtain ⟨⟨o1, o2⟩, h⟩ := h
    refine Tj.sipush dX3_rim_19 (by decide) (by decide +kernel) rfl ?_
    refine Tj.iload dX3_rim_22 rfl rfl ?_
    refine Tj.imul dX3_rim_24 o1 rfl ?_
    refine Tj.sipush dX3_rim_25 (by decide) (by decide +kernel) rfl ?_
    refine Tj.iadd dX3_rim_28 o2 rfl ?_
    refine Tj.aload_n dX3_rim_29 rfl rfl ?_
    refine Tj.iload_n dX3_rim_30 rfl rfl ?_
    refine Tj.iload dX3_rim_31 rfl rfl ?_
    refine Tj.callVi (as := [_, _]) (rest := [_]) dX3_rim_33 ln_X3_74 sh_124 (by decide) rfl rfl (Nat.le_of_ble_eq_true rfl) ⟨Nat.le_of_ble_eq_true rfl, Nat.le_of_ble_eq_true rfl⟩ (Nat.le_of_ble_eq_true rfl) rfl ?_
    refine Cli.mono h (fun r1 m1 h => ?_)
    obtain ⟨o3, h⟩ := h
    refine Tj.iadd dX3_rim_36 o3 rfl ?_
    refine Tj.iload_n dX3_rim_37 rfl rfl ?_
    refine Tj.iload dX3_rim_38 rfl rfl ?_
    refine Tj.callSi (as := [_, _]) (rest := [_]) dX3_rim_40 ln_X3_85 rfl rfl (Nat.le_of_ble_eq_true rfl) ⟨Nat.le_of_ble_eq_true rfl, Nat.le_of_ble_eq_true rfl⟩ (Nat.le_of_ble_eq_true rfl) rfl ?_
    refine Cli.mono h (fun r2 m2 h => ?_)
    obtain ⟨⟨o4, o5⟩, h⟩ := h
    refine Tj.iadd dX3_rim_43 o4 rfl ?_
    refine Tj.istore dX3_rim_44 (Nat.le_of_ble_eq_true rfl) rfl rfl ?_
    refine Tj.iinc dX3_rim_46 rfl (Nat.le_of_ble_eq_true rfl) rfl o5 rfl ?_
    refine Tj.goto dX3_rim_49 rfl ?_
    exact Tj.cut h ⟨rfl, ⟨rfl, ⟨rfl, ⟨rfl, ⟨rfl, ⟨rfl, trivial⟩⟩⟩⟩⟩⟩
  · have h := h.2 c1
    obtain ⟨⟨o6, o7⟩, h⟩ := h
    refine Tj.iconst dX3_rim_52 (by decide) rfl ?_
    refine Tj.iload dX3_rim_53 rfl rfl ?_
    refine Tj.imul dX3_rim_55 o6 rfl ?_
    refine Tj.aload_n dX3_rim_56 rfl rfl ?_
    refine Tj.iload_n dX3_rim_57 rfl rfl ?_
    refine Tj.iload_n dX3_rim_58 rfl rfl ?_
    refine Tj.iconst dX3_rim_59 (by decide) rfl ?_
    refine Tj.iadd dX3_rim_60 o7 rfl ?_
    refine Tj.iconst dX3_rim_61 (by decide) rfl ?_
    refine Tj.iand dX3_rim_62 rfl ?_
    refine Tj.callVi (as := [_, _]) (rest := [_]) dX3_rim_63 ln_X3_82 sh_124 (by decide) rfl rfl (Nat.le_of_ble_eq_true rfl) ⟨Nat.le_of_ble_eq_true rfl, Nat.le_of_ble_eq_true rfl⟩ (Nat.le_of_ble_eq_true rfl) rfl ?_
    refine Cli.mono h (fun r3 m3 h => ?_)
    obtain ⟨o8, h⟩ := h
    refine Tj.iconst dX3_rim_66 (by decide) rfl ?_
    refine Tj.ishr dX3_rim_67 rfl ?_
    refine Tj.iadd dX3_rim_68 o8 rfl ?_
    exact Tj.iret dX3_rim_69 rfl h

theorem wX3_timesAmongRims_0 {m : tM} {P : Option tV → tM → Prop} {x1 : Int}  (h : Tj mX3_timesAmongRims 4 [some (rV 124), some (iV x1), some (iV 0), some (iV 0)] [] m P) : Tj mX3_timesAmongRims 0 [some (rV 124), some (iV x1)] [] m P := by
  refine Tj.iconst dX3_timesAmongRims_0 (by decide) rfl ?_
  refine Tj.istore_n dX3_timesAmongRims_1 (Nat.le_of_ble_eq_true rfl) rfl rfl ?_
  refine Tj.iconst dX3_timesAmongRims_2 (by decide) rfl ?_
  refine Tj.istore_n dX3_timesAmongRims_3 (Nat.le_of_ble_eq_true rfl) rfl rfl ?_
  exact Tj.cut h ⟨rfl, ⟨rfl, ⟨rfl, ⟨rfl, trivial⟩⟩⟩⟩

theorem wX3_timesAmongRims_4 {m : tM} {P : Option tV → tM → Prop} {x1 : Int} {x2 : Int} {x3 : Int}  (h : (R32 (4 * (m 124 3))) ∧ ((x3 < (4 * (m 124 3)) → ((0 ≤ x3 ∧ x3 < 240) ∧ (∀ v1 : Int, v1 = (if (m 127 x3) = x1 then 1 else 0) → ((R32 (x2 + v1) ∧ R32 (x3 + 1)) ∧ (Tj mX3_timesAmongRims 4 [some (rV 124), some (iV x1), some (iV (x2 + v1)), some (iV (x3 + 1))] [] m P))))) ∧ (¬ x3 < (4 * (m 124 3)) → (P (some (iV x2)) m)))) : Tj mX3_timesAmongRims 4 [some (rV 124), some (iV x1), some (iV x2), some (iV x3)] [] m P := by
  obtain ⟨o1, h⟩ := h
  refine Tj.iload_n dX3_timesAmongRims_4 rfl rfl ?_
  refine Tj.iconst dX3_timesAmongRims_5 (by decide) rfl ?_
  refine Tj.aload_n dX3_timesAmongRims_6 rfl rfl ?_
  refine Tj.gI (j := 3) dX3_timesAmongRims_7 fl_X3_21 sh_124 rfl rfl ?_
  refine Tj.imul dX3_timesAmongRims_10 o1 rfl ?_
  refine Tj.icmp_ge dX3_timesAmongRims_11 rfl rfl (fun c1 => ?_) (fun c1 => ?_)
  · have h := h.1 c1
    obtain ⟨⟨o2, o3⟩, h⟩ := h
    refine Tj.iload_n dX3_timesAmongRims_14 rfl rfl ?_
    refine Tj.aload_n dX3_timesAmongRims_15 rfl rfl ?_
    refine Tj.getR (b := 127) dX3_timesAmongRims_16 fl_X3_18 sh_124 rfl rfl ?_
    refine Tj.iload_n dX3_timesAmongRims_19 rfl rfl ?_
    refine Tj.iald dX3_timesAmongRims_20 sh_127 o2 o3 rfl ?_
    refine Tj.iload_n dX3_timesAmongRims_21 rfl rfl ?_
    have hj : Tj mX3_timesAmongRims 30 [some (rV 124), some (iV x1), none, some (iV x3)] [iV (if (m 127 x3) = x1 then 1 else 0), iV x2] m P := by
      generalize hv1 : ((if (m 127 x3) = x1 then 1 else 0) : Int) = v1
      have h := h v1 hv1.symm
      obtain ⟨⟨o4, o5⟩, h⟩ := h
      refine Tj.iadd dX3_timesAmongRims_30 o4 rfl ?_
      refine Tj.istore_n dX3_timesAmongRims_31 (Nat.le_of_ble_eq_true rfl) rfl rfl ?_
      refine Tj.iinc dX3_timesAmongRims_32 rfl (Nat.le_of_ble_eq_true rfl) rfl o5 rfl ?_
      refine Tj.goto dX3_timesAmongRims_35 rfl ?_
      exact Tj.cut h ⟨rfl, ⟨rfl, ⟨rfl, ⟨rfl, trivial⟩⟩⟩⟩
    refine Tj.icmp_ne dX3_timesAmongRims_22 rfl rfl (fun c2 => ?_) (fun c2 => ?_)
    · refine Tj.iconst dX3_timesAmongRims_25 (by decide) rfl ?_
      refine Tj.goto dX3_timesAmongRims_26 rfl ?_
      try simp only [if_pos c2] at hj ⊢
      exact Tj.cut hj ⟨rfl, ⟨rfl, ⟨rfl, trivial⟩⟩⟩
    · refine Tj.iconst dX3_timesAmongRims_29 (by decide) rfl ?_
      try simp only [if_neg c2] at hj ⊢
      exact Tj.cut hj ⟨rfl, ⟨rfl, ⟨rfl, trivial⟩⟩⟩
  · have h := h.2 c1
    refine Tj.iload_n dX3_timesAmongRims_38 rfl rfl ?_
    exact Tj.iret dX3_timesAmongRims_39 rfl h
