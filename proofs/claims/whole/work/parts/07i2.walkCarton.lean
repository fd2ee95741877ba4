theorem wX11_clear_0 {m : tM} {P : Option tV → tM → Prop}   (h : Clv mX7_keep [rV 10, rV 1] m (fun m1 => (Cli mX8_size [rV 6] m1 (fun r1 m2 => (Clv mX8_drop [rV 6] m2 (fun m3 => (P (some (iV r1)) m3))))))) : Tj mX11_clear 0 [some (rV 0)] [] m P := by
  refine Tj.aload_n dX11_clear_0 rfl rfl ?_
  refine Tj.getR (b := 10) dX11_clear_1 fl_X11_19 sh_0 rfl rfl ?_
  refine Tj.aload_n dX11_clear_4 rfl rfl ?_
  refine Tj.getR (b := 1) dX11_clear_5 fl_X11_10 sh_0 rfl rfl ?_
  refine Tj.callVv (as := [_]) (rest := []) dX11_clear_8 ln_X11_83 sh_10 (by decide) rfl rfl (Nat.le_of_ble_eq_true rfl) ⟨Nat.le_of_ble_eq_true rfl, Nat.le_of_ble_eq_true rfl⟩ (Nat.le_of_ble_eq_true rfl) rfl ?_
  refine Clv.mono h (fun m1 h => ?_)
  refine Tj.aload_n dX11_clear_11 rfl rfl ?_
  refine Tj.getR (b := 1) dX11_clear_12 fl_X11_10 sh_0 rfl rfl ?_
  refine Tj.getR (b := 6) dX11_clear_15 fl_X11_180 sh_1 rfl rfl ?_
  refine Tj.callVi (as := []) (rest := []) dX11_clear_18 ln_X11_196 sh_6 (by decide) rfl rfl (Nat.le_of_ble_eq_true rfl) ⟨Nat.le_of_ble_eq_true rfl, Nat.le_of_ble_eq_true rfl⟩ (Nat.le_of_ble_eq_true rfl) rfl ?_
  refine Cli.mono h (fun r1 m2 h => ?_)
  refine Tj.istore_n dX11_clear_21 (Nat.le_of_ble_eq_true rfl) rfl rfl ?_
  refine Tj.aload_n dX11_clear_22 rfl rfl ?_
  refine Tj.getR (b := 1) dX11_clear_23 fl_X11_10 sh_0 rfl rfl ?_
  refine Tj.getR (b := 6) dX11_clear_26 fl_X11_180 sh_1 rfl rfl ?_
  refine Tj.callVv (as := []) (rest := []) dX11_clear_29 ln_X11_224 sh_6 (by decide) rfl rfl (Nat.le_of_ble_eq_true rfl) ⟨Nat.le_of_ble_eq_true rfl, Nat.le_of_ble_eq_true rfl⟩ (Nat.le_of_ble_eq_true rfl) rfl ?_
  refine Clv.mono h (fun m3 h => ?_)
  refine Tj.iload_n dX11_clear_32 rfl rfl ?_
  exact Tj.iret dX11_clear_33 rfl h

theorem wX11_told_0 {m : tM} {P : Option tV → tM → Prop} {x1 : Int} {x2 : Int}  (h : Cli mX8_size [rV 6] m (fun r1 m1 => (Cli mX11_isWithin [iV x1, iV r1] m1 (fun r2 m2 => ((r2 = 0 → (P (some (iV (-3))) m2)) ∧ (¬ r2 = 0 → (Cli mX11_isWithin [iV x2, iV 3] m2 (fun r3 m3 => ((r3 = 0 → (P (some (iV (-3))) m3)) ∧ (¬ r3 = 0 → ((x2 = 0 → (Cli mX8_xOf [rV 6, iV x1] m3 (fun r4 m4 => (P (some (iV r4)) m4)))) ∧ (x2 = 1 → (Cli mX8_yOf [rV 6, iV x1] m3 (fun r5 m5 => (P (some (iV r5)) m5)))) ∧ (¬ x2 = 0 → ¬ x2 = 1 → (Cli mX8_creasesOf [rV 6, iV x1] m3 (fun r6 m6 => (P (some (iV r6)) m6))))))))))))))) : Tj mX11_told 0 [some (rV 0), some (iV x1), some (iV x2)] [] m P := by
  refine Tj.iload_n dX11_told_0 rfl rfl ?_
  refine Tj.aload_n dX11_told_1 rfl rfl ?_
  refine Tj.getR (b := 1) dX11_told_2 fl_X11_10 sh_0 rfl rfl ?_
  refine Tj.getR (b := 6) dX11_told_5 fl_X11_180 sh_1 rfl rfl ?_
  refine Tj.callVi (as := []) (rest := [_]) dX11_told_8 ln_X11_196 sh_6 (by decide) rfl rfl (Nat.le_of_ble_eq_true rfl) ⟨Nat.le_of_ble_eq_true rfl, Nat.le_of_ble_eq_true rfl⟩ (Nat.le_of_ble_eq_true rfl) rfl ?_
  refine Cli.mono h (fun r1 m1 h => ?_)
  refine Tj.callSi (as := [_, _]) (rest := []) dX11_told_11 ln_X11_131 rfl rfl (Nat.le_of_ble_eq_true rfl) ⟨Nat.le_of_ble_eq_true rfl, Nat.le_of_ble_eq_true rfl⟩ (Nat.le_of_ble_eq_true rfl) rfl ?_
  refine Cli.mono h (fun r2 m2 h => ?_)
  refine Tj.if_eq dX11_told_14 rfl rfl (fun c1 => ?_) (fun c1 => ?_)
  · have h := h.1 c1
    refine Tj.bipush dX11_told_25 (by decide) (by decide +kernel) rfl ?_
    exact Tj.iret dX11_told_27 rfl h
  · have h := h.2 c1
    refine Tj.iload_n dX11_told_17 rfl rfl ?_
    refine Tj.iconst dX11_told_18 (by decide) rfl ?_
    refine Tj.callSi (as := [_, _]) (rest := []) dX11_told_19 ln_X11_131 rfl rfl (Nat.le_of_ble_eq_true rfl) ⟨Nat.le_of_ble_eq_true rfl, Nat.le_of_ble_eq_true rfl⟩ (Nat.le_of_ble_eq_true rfl) rfl ?_
    refine Cli.mono h (fun r3 m3 h => ?_)
    refine Tj.if_ne dX11_told_22 rfl rfl (fun c2 => ?_) (fun c2 => ?_)
    · have h := h.1 c2
      refine Tj.bipush dX11_told_25 (by decide) (by decide +kernel) rfl ?_
      exact Tj.iret dX11_told_27 rfl h
    · have h := h.2 c2
      refine Tj.iload_n dX11_told_28 rfl rfl ?_
      show Tj mX11_told 29 [some (rV 0), some (iV x1), some (iV x2)] [iV x2] m3 P
      by_cases c3 : x2 = 0
      · have h := h.1 c3
        refine Tj.lsw (pc' := 56) (off := 27) dX11_told_29 (by decide) (by simp [Op.lookupswitch.offset, c3]) (by decide) ?_
        refine Tj.aload_n dX11_told_56 rfl rfl ?_
        refine Tj.getR (b := 1) dX11_told_57 fl_X11_10 sh_0 rfl rfl ?_
        refine Tj.getR (b := 6) dX11_told_60 fl_X11_180 sh_1 rfl rfl ?_
        refine Tj.iload_n dX11_told_63 rfl rfl ?_
        refine Tj.callVi (as := [_]) (rest := []) dX11_told_64 ln_X11_227 sh_6 (by decide) rfl rfl (Nat.le_of_ble_eq_true rfl) ⟨Nat.le_of_ble_eq_true rfl, Nat.le_of_ble_eq_true rfl⟩ (Nat.le_of_ble_eq_true rfl) rfl ?_
        refine Cli.mono h (fun r4 m4 h => ?_)
        exact Tj.iret dX11_told_67 rfl h
      have h := h.2
      by_cases c4 : x2 = 1
      · have h := h.1 c4
        refine Tj.lsw (pc' := 68) (off := 39) dX11_told_29 (by decide) (by simp [Op.lookupswitch.offset, c4]) (by decide) ?_
        refine Tj.aload_n dX11_told_68 rfl rfl ?_
        refine Tj.getR (b := 1) dX11_told_69 fl_X11_10 sh_0 rfl rfl ?_
        refine Tj.getR (b := 6) dX11_told_72 fl_X11_180 sh_1 rfl rfl ?_
        refine Tj.iload_n dX11_told_75 rfl rfl ?_
        refine Tj.callVi (as := [_]) (rest := []) dX11_told_76 ln_X11_230 sh_6 (by decide) rfl rfl (Nat.le_of_ble_eq_true rfl) ⟨Nat.le_of_ble_eq_true rfl, Nat.le_of_ble_eq_true rfl⟩ (Nat.le_of_ble_eq_true rfl) rfl ?_
        refine Cli.mono h (fun r5 m5 h => ?_)
        exact Tj.iret dX11_told_79 rfl h
      have h := h.2
      have h := h c3 c4
      refine Tj.lsw (pc' := 80) (off := 51) dX11_told_29 (by decide) (by simp [Op.lookupswitch.offset, c3, c4, Ne.symm c3, Ne.symm c4]) (by decide) ?_
      refine Tj.aload_n dX11_told_80 rfl rfl ?_
      refine Tj.getR (b := 1) dX11_told_81 fl_X11_10 sh_0 rfl rfl ?_
      refine Tj.getR (b := 6) dX11_told_84 fl_X11_180 sh_1 rfl rfl ?_
      refine Tj.iload_n dX11_told_87 rfl rfl ?_
      refine Tj.callVi (as := [_]) (rest := []) dX11_told_88 ln_X11_233 sh_6 (by decide) rfl rfl (Nat.le_of_ble_eq_true rfl) ⟨Nat.le_of_ble_eq_true rfl, Nat.le_of_ble_eq_true rfl⟩ (Nat.le_of_ble_eq_true rfl) rfl ?_
      refine Cli.mono h (fun r6 m6 h => ?_)
      exact Tj.iret dX11_told_91 rfl h

theorem wX11_fold_0 {m : tM} {P : Option tV → tM → Prop}   (h : Cli mX3_run [rV 124, rV 6, rV 120] m (fun r1 m1 => (P (some (iV r1)) m1))) : Tj mX11_fold 0 [some (rV 0)] [] m P := by
  refine Tj.aload_n dX11_fold_0 rfl rfl ?_
  refine Tj.getR (b := 124) dX11_fold_1 fl_X11_54 sh_0 rfl rfl ?_
  refine Tj.aload_n dX11_fold_4 rfl rfl ?_
  refine Tj.getR (b := 1) dX11_fold_5 fl_X11_10 sh_0 rfl rfl ?_
  refine Tj.getR (b := 6) dX11_fold_8 fl_X11_180 sh_1 rfl rfl ?_
  refine Tj.aload_n dX11_fold_11 rfl rfl ?_
  refine Tj.getR (b := 120) dX11_fold_12 fl_X11_47 sh_0 rfl rfl ?_
  refine Tj.callVi (as := [_, _]) (rest := []) dX11_fold_15 ln_X11_236 sh_124 (by decide) rfl rfl (Nat.le_of_ble_eq_true rfl) ⟨Nat.le_of_ble_eq_true rfl, Nat.le_of_ble_eq_true rfl⟩ (Nat.le_of_ble_eq_true rfl) rfl ?_
  refine Cli.mono h (fun r1 m1 h => ?_)
  exact Tj.iret dX11_fold_18 rfl h

theorem wX11_where_0 {m : tM} {P : Option tV → tM → Prop} {x1 : Int} {x2 : Int}  (h : Cli mX8_size [rV 6] m (fun r1 m1 => (Cli mX11_isWithin [iV x1, iV r1] m1 (fun r2 m2 => ((r2 = 0 → (P (some (iV (-3))) m2)) ∧ (¬ r2 = 0 → (Cli mX11_isWithin [iV x2, iV 5] m2 (fun r3 m3 => ((r3 = 0 → (P (some (iV (-3))) m3)) ∧ (¬ r3 = 0 → (Cli mX3_run [rV 124, rV 6, rV 120] m3 (fun r4 m4 => ((r4 = 0 → (Cli mX3_poseOf [rV 124, iV x1, iV x2] m4 (fun r5 m5 => ((r5 < 0 → ((R32 (r5 + 1000)) ∧ (P (some (iV (r5 + 1000))) m5))) ∧ (¬ r5 < 0 → (P (some (iV r5)) m5)))))) ∧ (¬ r4 = 0 → (P (some (iV (-4))) m4))))))))))))))) : Tj mX11_where 0 [some (rV 0), some (iV x1), some (iV x2)] [] m P := by
  refine Tj.iload_n dX11_where_0 rfl rfl ?_
  refine Tj.aload_n dX11_where_1 rfl rfl ?_
  refine Tj.getR (b := 1) dX11_where_2 fl_X11_10 sh_0 rfl rfl ?_
  refine Tj.getR (b := 6) dX11_where_5 fl_X11_180 sh_1 rfl rfl ?_
  refine Tj.callVi (as := []) (rest := [_]) dX11_where_8 ln_X11_196 sh_6 (by decide) rfl rfl (Nat.le_of_ble_eq_true rfl) ⟨Nat.le_of_ble_eq_true rfl, Nat.le_of_ble_eq_true rfl⟩ (Nat.le_of_ble_eq_true rfl) rfl ?_
  refine Cli.mono h (fun r1 m1 h => ?_)
  refine Tj.callSi (as := [_, _]) (rest := []) dX11_where_11 ln_X11_131 rfl rfl (Nat.le_of_ble_eq_true rfl) ⟨Nat.le_of_ble_eq_true rfl, Nat.le_of_ble_eq_true rfl⟩ (Nat.le_of_ble_eq_true rfl) rfl ?_
  refine Cli.mono h (fun r2 m2 h => ?_)
  refine Tj.if_eq dX11_where_14 rfl rfl (fun c1 => ?_) (fun c1 => ?_)
  · have h := h.1 c1
    refine Tj.bipush dX11_where_25 (by decide) (by decide +kernel) rfl ?_
    exact Tj.iret dX11_where_27 rfl h
  · have h := h.2 c1
    refine Tj.iload_n dX11_where_17 rfl rfl ?_
    refine Tj.iconst dX11_where_18 (by decide) rfl ?_
    refine Tj.callSi (as := [_, _]) (rest := []) dX11_where_19 ln_X11_131 rfl rfl (Nat.le_of_ble_eq_true rfl) ⟨Nat.le_of_ble_eq_true rfl, Nat.le_of_ble_eq_true rfl⟩ (Nat.le_of_ble_eq_true rfl) rfl ?_
    refine Cli.mono h (fun r3 m3 h => ?_)
    refine Tj.if_ne dX11_where_22 rfl rfl (fun c2 => ?_) (fun c2 => ?_)
    · have h := h.1 c2
      refine Tj.bipush dX11_where_25 (by decide) (by decide +kernel) rfl ?_
      exact Tj.iret dX11_where_27 rfl h
    · have h := h.2 c2
      refine Tj.aload_n dX11_where_28 rfl rfl ?_
      refine Tj.getR (b := 124) dX11_where_29 fl_X11_54 sh_0 rfl rfl ?_
      refine Tj.aload_n dX11_where_32 rfl rfl ?_
      refine Tj.getR (b := 1) dX11_where_33 fl_X11_10 sh_0 rfl rfl ?_
      refine Tj.getR (b := 6) dX11_where_36 fl_X11_180 sh_1 rfl rfl ?_
      refine Tj.aload_n dX11_where_39 rfl rfl ?_
      refine Tj.getR (b := 120) dX11_where_40 fl_X11_47 sh_0 rfl rfl ?_
      refine Tj.callVi (as := [_, _]) (rest := []) dX11_where_43 ln_X11_236 sh_124 (by decide) rfl rfl (Nat.le_of_ble_eq_true rfl) ⟨Nat.le_of_ble_eq_true rfl, Nat.le_of_ble_eq_true rfl⟩ (Nat.le_of_ble_eq_true rfl) rfl ?_
      refine Cli.mono h (fun r4 m4 h => ?_)
      refine Tj.if_eq dX11_where_46 rfl rfl (fun c3 => ?_) (fun c3 => ?_)
      · have h := h.1 c3
        refine Tj.aload_n dX11_where_52 rfl rfl ?_
        refine Tj.getR (b := 124) dX11_where_53 fl_X11_54 sh_0 rfl rfl ?_
        refine Tj.iload_n dX11_where_56 rfl rfl ?_
        refine Tj.iload_n dX11_where_57 rfl rfl ?_
        refine Tj.callVi (as := [_, _]) (rest := []) dX11_where_58 ln_X11_240 sh_124 (by decide) rfl rfl (Nat.le_of_ble_eq_true rfl) ⟨Nat.le_of_ble_eq_true rfl, Nat.le_of_ble_eq_true rfl⟩ (Nat.le_of_ble_eq_true rfl) rfl ?_
        refine Cli.mono h (fun r5 m5 h => ?_)
        refine Tj.istore_n dX11_where_61 (Nat.le_of_ble_eq_true rfl) rfl rfl ?_
        refine Tj.iload_n dX11_where_62 rfl rfl ?_
        refine Tj.if_ge dX11_where_63 rfl rfl (fun c4 => ?_) (fun c4 => ?_)
        · have h := h.1 c4
          obtain ⟨o1, h⟩ := h
          refine Tj.iload_n dX11_where_66 rfl rfl ?_
          refine Tj.sipush dX11_where_67 (by decide) (by decide +kernel) rfl ?_
          refine Tj.iadd dX11_where_70 o1 rfl ?_
          refine Tj.goto dX11_where_71 rfl ?_
          exact Tj.iret dX11_where_75 rfl h
        · have h := h.2 c4
          refine Tj.iload_n dX11_where_74 rfl rfl ?_
          exact Tj.iret dX11_where_75 rfl h
      · have h := h.2 c3
        refine Tj.bipush dX11_where_49 (by decide) (by decide +kernel) rfl ?_
        exact Tj.iret dX11_where_51 rfl h

theorem wX11_closed_0 {m : tM} {P : Option tV → tM → Prop}   (h : Cli mX3_run [rV 124, rV 6, rV 120] m (fun r1 m1 => ((r1 = 0 → (Cli mX3_leavesNoGap [rV 124] m1 (fun r2 m2 => (∀ v1 : Int, v1 = (if r2 = 0 then 0 else 1) → (P (some (iV v1)) m2))))) ∧ (¬ r1 = 0 → (P (some (iV 0)) m1))))) : Tj mX11_closed 0 [some (rV 0)] [] m P := by
  refine Tj.aload_n dX11_closed_0 rfl rfl ?_
  refine Tj.getR (b := 124) dX11_closed_1 fl_X11_54 sh_0 rfl rfl ?_
  refine Tj.aload_n dX11_closed_4 rfl rfl ?_
  refine Tj.getR (b := 1) dX11_closed_5 fl_X11_10 sh_0 rfl rfl ?_
  refine Tj.getR (b := 6) dX11_closed_8 fl_X11_180 sh_1 rfl rfl ?_
  refine Tj.aload_n dX11_closed_11 rfl rfl ?_
  refine Tj.getR (b := 120) dX11_closed_12 fl_X11_47 sh_0 rfl rfl ?_
  refine Tj.callVi (as := [_, _]) (rest := []) dX11_closed_15 ln_X11_236 sh_124 (by decide) rfl rfl (Nat.le_of_ble_eq_true rfl) ⟨Nat.le_of_ble_eq_true rfl, Nat.le_of_ble_eq_true rfl⟩ (Nat.le_of_ble_eq_true rfl) rfl ?_
  refine Cli.mono h (fun r1 m1 h => ?_)
  refine Tj.if_ne dX11_closed_18 rfl rfl (fun c1 => ?_) (fun c1 => ?_)
  · have h := h.1 c1
    refine Tj.aload_n dX11_closed_21 rfl rfl ?_
    refine Tj.getR (b := 124) dX11_closed_22 fl_X11_54 sh_0 rfl rfl ?_
    refine Tj.callVi (as := []) (rest := []) dX11_closed_25 ln_X11_243 sh_124 (by decide) rfl rfl (Nat.le_of_ble_eq_true rfl) ⟨Nat.le_of_ble_eq_true rfl, Nat.le_of_ble_eq_true rfl⟩ (Nat.le_of_ble_eq_true rfl) rfl ?_
    refine Cli.mono h (fun r2 m2 h => ?_)
    have hj : Tj mX11_closed 36 [] [iV (if r2 = 0 then 0 else 1)] m2 P := by
      generalize hv1 : ((if r2 = 0 then 0 else 1) : Int) = v1
      have h := h v1 hv1.symm
      exact Tj.iret dX11_closed_36 rfl h
    refine Tj.if_eq dX11_closed_28 rfl rfl (fun c2 => ?_) (fun c2 => ?_)
    · refine Tj.iconst dX11_closed_35 (by decide) rfl ?_
      try simp only [if_pos c2] at hj ⊢
      exact Tj.cut hj trivial
    · refine Tj.iconst dX11_closed_31 (by decide) rfl ?_
      refine Tj.goto dX11_closed_32 rfl ?_
      try simp only [if_neg c2] at hj ⊢
      exact Tj.cut hj trivial
  · have h := h.2 c1
    refine Tj.iconst dX11_closed_35 (by decide) rfl ?_
    exact Tj.iret dX11_closed_36 rfl h

theorem wX11_form_0 {m : tM} {P : Option tV → tM → Prop} {x1 : Int}  (h : (x1 < 0 → (P (some (iV (-3))) m)) ∧ (¬ x1 < 0 → (Clv mX4_take [rV 133, rV 6] m (fun m1 => (Cli mX4_length [rV 133] m1 (fun r1 m2 => ((x1 < r1 → (Cli mX4_number [rV 133, iV x1] m2 (fun r2 m3 => (P (some (iV r2)) m3)))) ∧ (¬ x1 < r1 → (P (some (iV (-1))) m2))))))))) : Tj mX11_form 0 [some (rV 0), some (iV x1)] [] m P := by
  refine Tj.iload_n dX11_form_0 rfl rfl ?_
  refine Tj.if_ge dX11_form_1 rfl rfl (fun c1 => ?_) (fun c1 => ?_)
  · have h := h.1 c1
    refine Tj.bipush dX11_form_4 (by decide) (by decide +kernel) rfl ?_
    exact Tj.iret dX11_form_6 rfl h
  · have h := h.2 c1
    refine Tj.aload_n dX11_form_7 rfl rfl ?_
    refine Tj.getR (b := 133) dX11_form_8 fl_X11_68 sh_0 rfl rfl ?_
    refine Tj.aload_n dX11_form_11 rfl rfl ?_
    refine Tj.getR (b := 1) dX11_form_12 fl_X11_10 sh_0 rfl rfl ?_
    refine Tj.getR (b := 6) dX11_form_15 fl_X11_180 sh_1 rfl rfl ?_
    refine Tj.callVv (as := [_]) (rest := []) dX11_form_18 ln_X11_246 sh_133 (by decide) rfl rfl (Nat.le_of_ble_eq_true rfl) ⟨Nat.le_of_ble_eq_true rfl, Nat.le_of_ble_eq_true rfl⟩ (Nat.le_of_ble_eq_true rfl) rfl ?_
    refine Clv.mono h (fun m1 h => ?_)
    refine Tj.iload_n dX11_form_21 rfl rfl ?_
    refine Tj.aload_n dX11_form_22 rfl rfl ?_
    refine Tj.getR (b := 133) dX11_form_23 fl_X11_68 sh_0 rfl rfl ?_
    refine Tj.callVi (as := []) (rest := [_]) dX11_form_26 ln_X11_248 sh_133 (by decide) rfl rfl (Nat.le_of_ble_eq_true rfl) ⟨Nat.le_of_ble_eq_true rfl, Nat.le_of_ble_eq_true rfl⟩ (Nat.le_of_ble_eq_true rfl) rfl ?_
    refine Cli.mono h (fun r1 m2 h => ?_)
    refine Tj.icmp_ge dX11_form_29 rfl rfl (fun c2 => ?_) (fun c2 => ?_)
    · have h := h.1 c2
      refine Tj.aload_n dX11_form_32 rfl rfl ?_
      refine Tj.getR (b := 133) dX11_form_33 fl_X11_68 sh_0 rfl rfl ?_
      refine Tj.iload_n dX11_form_36 rfl rfl ?_
      refine Tj.callVi (as := [_]) (rest := []) dX11_form_37 ln_X11_251 sh_133 (by decide) rfl rfl (Nat.le_of_ble_eq_true rfl) ⟨Nat.le_of_ble_eq_true rfl, Nat.le_of_ble_eq_true rfl⟩ (Nat.le_of_ble_eq_true rfl) rfl ?_
      refine Cli.mono h (fun r2 m3 h => ?_)
      refine Tj.goto dX11_form_40 rfl ?_
      exact Tj.iret dX11_form_44 rfl h
    · have h := h.2 c2
      refine Tj.iconst dX11_form_43 (by decide) rfl ?_
      exact Tj.iret dX11_form_44 rfl h

theorem wX11_same_0 {m : tM} {P : Option tV → tM → Prop}   (h : Clv mX4_take [rV 133, rV 6] m (fun m1 => (Cli mX4_timesWritten [rV 133] m1 (fun r1 m2 => (P (some (iV r1)) m2))))) : Tj mX11_same 0 [some (rV 0)] [] m P := by
  refine Tj.aload_n dX11_same_0 rfl rfl ?_
  refine Tj.getR (b := 133) dX11_same_1 fl_X11_68 sh_0 rfl rfl ?_
  refine Tj.aload_n dX11_same_4 rfl rfl ?_
  refine Tj.getR (b := 1) dX11_same_5 fl_X11_10 sh_0 rfl rfl ?_
  refine Tj.getR (b := 6) dX11_same_8 fl_X11_180 sh_1 rfl rfl ?_
  refine Tj.callVv (as := [_]) (rest := []) dX11_same_11 ln_X11_246 sh_133 (by decide) rfl rfl (Nat.le_of_ble_eq_true rfl) ⟨Nat.le_of_ble_eq_true rfl, Nat.le_of_ble_eq_true rfl⟩ (Nat.le_of_ble_eq_true rfl) rfl ?_
  refine Clv.mono h (fun m1 h => ?_)
  refine Tj.aload_n dX11_same_14 rfl rfl ?_
  refine Tj.getR (b := 133) dX11_same_15 fl_X11_68 sh_0 rfl rfl ?_
  refine Tj.callVi (as := []) (rest := []) dX11_same_18 ln_X11_254 sh_133 (by decide) rfl rfl (Nat.le_of_ble_eq_true rfl) ⟨Nat.le_of_ble_eq_true rfl, Nat.le_of_ble_eq_true rfl⟩ (Nat.le_of_ble_eq_true rfl) rfl ?_
  refine Cli.mono h (fun r1 m2 h => ?_)
  exact Tj.iret dX11_same_21 rfl h

theorem wX11_shelve_0 {m : tM} {P : Option tV → tM → Prop} {x1 : Int}  (h : Cli mX11_isWithin [iV x1, iV 6] m (fun r1 m1 => ((r1 = 0 → (P (some (iV (-3))) m1)) ∧ (¬ r1 = 0 → ((0 ≤ x1 ∧ x1 < 6) ∧ (∀ b1 : Nat, 84 + 1 + 4 * Int.toNat x1 = b1 → ((shp b1 = some (8, 0)) ∧ (Clv mX8_become [rV b1, rV 6] m1 (fun m2 => (Cli mX8_size [rV 6] m2 (fun r2 m3 => (P (some (iV r2)) m3)))))))))))) : Tj mX11_shelve 0 [some (rV 0), some (iV x1)] [] m P := by
  refine Tj.iload_n dX11_shelve_0 rfl rfl ?_
  refine Tj.bipush dX11_shelve_1 (by decide) (by decide +kernel) rfl ?_
  refine Tj.callSi (as := [_, _]) (rest := []) dX11_shelve_3 ln_X11_131 rfl rfl (Nat.le_of_ble_eq_true rfl) ⟨Nat.le_of_ble_eq_true rfl, Nat.le_of_ble_eq_true rfl⟩ (Nat.le_of_ble_eq_true rfl) rfl ?_
  refine Cli.mono h (fun r1 m1 h => ?_)
  refine Tj.if_ne dX11_shelve_6 rfl rfl (fun c1 => ?_) (fun c1 => ?_)
  · have h := h.1 c1
    refine Tj.bipush dX11_shelve_9 (by decide) (by decide +kernel) rfl ?_
    exact Tj.iret dX11_shelve_11 rfl h
  · have h := h.2 c1
    obtain ⟨⟨o1, o2⟩, h⟩ := h
    refine Tj.aload_n dX11_shelve_12 rfl rfl ?_
    refine Tj.getR (b := 84) dX11_shelve_13 fl_X11_25 sh_0 rfl rfl ?_
    refine Tj.iload_n dX11_shelve_16 rfl rfl ?_
    obtain ⟨b1, hb1⟩ : ∃ y : Nat, 84 + 1 + 4 * Int.toNat x1 = y := ⟨_, rfl⟩
    have h := h b1 hb1
    refine Tj.aald23 (b := b1) dX11_shelve_17 sh_84 o1 o2 hb1 rfl ?_
    obtain ⟨o3, h⟩ := h
    refine Tj.aload_n dX11_shelve_18 rfl rfl ?_
    refine Tj.getR (b := 1) dX11_shelve_19 fl_X11_10 sh_0 rfl rfl ?_
    refine Tj.getR (b := 6) dX11_shelve_22 fl_X11_180 sh_1 rfl rfl ?_
    refine Tj.callVv (as := [_]) (rest := []) dX11_shelve_25 ln_X11_216 o3 (by decide) rfl rfl (Nat.le_of_ble_eq_true rfl) ⟨Nat.le_of_ble_eq_true rfl, Nat.le_of_ble_eq_true rfl⟩ (Nat.le_of_ble_eq_true rfl) rfl ?_
    refine Clv.mono h (fun m2 h => ?_)
    refine Tj.aload_n dX11_shelve_28 rfl rfl ?_
    refine Tj.getR (b := 1) dX11_shelve_29 fl_X11_10 sh_0 rfl rfl ?_
    refine Tj.getR (b := 6) dX11_shelve_32 fl_X11_180 sh_1 rfl rfl ?_
    refine Tj.callVi (as := []) (rest := []) dX11_shelve_35 ln_X11_196 sh_6 (by decide) rfl rfl (Nat.le_of_ble_eq_true rfl) ⟨Nat.le_of_ble_eq_true rfl, Nat.le_of_ble_eq_true rfl⟩ (Nat.le_of_ble_eq_true rfl) rfl ?_
    refine Cli.mono h (fun r2 m3 h => ?_)
    exact Tj.iret dX11_shelve_38 rfl h

theorem wX11_alike_0 {m : tM} {P : Option tV → tM → Prop} {x1 : Int}  (h : Cli mX11_isWithin [iV x1, iV 6] m (fun r1 m1 => ((r1 = 0 → (P (some (iV (-3))) m1)) ∧ (¬ r1 = 0 → (Clv mX4_take [rV 133, rV 6] m1 (fun m2 => ((0 ≤ x1 ∧ x1 < 6) ∧ (∀ b1 : Nat, 84 + 1 + 4 * Int.toNat x1 = b1 → (Clv mX4_take [rV 137, rV b1] m2 (fun m3 => (Cli mX4_matches [rV 133, rV 137] m3 (fun r2 m4 => (∀ v1 : Int, v1 = (if r2 = 0 then 0 else 1) → (P (some (iV v1)) m4)))))))))))))) : Tj mX11_alike 0 [some (rV 0), some (iV x1)] [] m P := by
  refine Tj.iload_n dX11_alike_0 rfl rfl ?_
  refine Tj.bipush dX11_alike_1 (by decide) (by decide +kernel) rfl ?_
  refine Tj.callSi (as := [_, _]) (rest := []) dX11_alike_3 ln_X11_131 rfl rfl (Nat.le_of_ble_eq_true rfl) ⟨Nat.le_of_ble_eq_true rfl, Nat.le_of_ble_eq_true rfl⟩ (Nat.le_of_ble_eq_true rfl) rfl ?_
  refine Cli.mono h (fun r1 m1 h => ?_)
  refine Tj.if_ne dX11_alike_6 rfl rfl (fun c1 => ?_) (fun c1 => ?_)
  · have h := h.1 c1
    refine Tj.bipush dX11_alike_9 (by decide) (by decide +kernel) rfl ?_
    exact Tj.iret dX11_alike_11 rfl h
  · have h := h.2 c1
    refine Tj.aload_n dX11_alike_12 rfl rfl ?_
    refine Tj.getR (b := 133) dX11_alike_13 fl_X11_68 sh_0 rfl rfl ?_
    refine Tj.aload_n dX11_alike_16 rfl rfl ?_
    refine Tj.getR (b := 1) dX11_alike_17 fl_X11_10 sh_0 rfl rfl ?_
    refine Tj.getR (b := 6) dX11_alike_20 fl_X11_180 sh_1 rfl rfl ?_
    refine Tj.callVv (as := [_]) (rest := []) dX11_alike_23 ln_X11_246 sh_133 (by decide) rfl rfl (Nat.le_of_ble_eq_true rfl) ⟨Nat.le_of_ble_eq_true rfl, Nat.le_of_ble_eq_true rfl⟩ (Nat.le_of_ble_eq_true rfl) rfl ?_
    refine Clv.mono h (fun m2 h => ?_)
    obtain ⟨⟨o1, o2⟩, h⟩ := h
    refine Tj.aload_n dX11_alike_26 rfl rfl ?_
    refine Tj.getR (b := 137) dX11_alike_27 fl_X11_72 sh_0 rfl rfl ?_
    refine Tj.aload_n dX11_alike_30 rfl rfl ?_
    refine Tj.getR (b := 84) dX11_alike_31 fl_X11_25 sh_0 rfl rfl ?_
    refine Tj.iload_n dX11_alike_34 rfl rfl ?_
    obtain ⟨b1, hb1⟩ : ∃ y : Nat, 84 + 1 + 4 * Int.toNat x1 = y := ⟨_, rfl⟩
    have h := h b1 hb1
    refine Tj.aald23 (b := b1) dX11_alike_35 sh_84 o1 o2 hb1 rfl ?_
    refine Tj.callVv (as := [_]) (rest := []) dX11_alike_36 ln_X11_246 sh_137 (by decide) rfl rfl (Nat.le_of_ble_eq_true rfl) ⟨Nat.le_of_ble_eq_true rfl, Nat.le_of_ble_eq_true rfl⟩ (Nat.le_of_ble_eq_true rfl) rfl ?_
    refine Clv.mono h (fun m3 h => ?_)
    refine Tj.aload_n dX11_alike_39 rfl rfl ?_
    refine Tj.getR (b := 133) dX11_alike_40 fl_X11_68 sh_0 rfl rfl ?_
    refine Tj.aload_n dX11_alike_43 rfl rfl ?_
    refine Tj.getR (b := 137) dX11_alike_44 fl_X11_72 sh_0 rfl rfl ?_
    refine Tj.callVi (as := [_]) (rest := []) dX11_alike_47 ln_X11_257 sh_133 (by decide) rfl rfl (Nat.le_of_ble_eq_true rfl) ⟨Nat.le_of_ble_eq_true rfl, Nat.le_of_ble_eq_true rfl⟩ (Nat.le_of_ble_eq_true rfl) rfl ?_
    refine Cli.mono h (fun r2 m4 h => ?_)
    have hj : Tj mX11_alike 58 [] [iV (if r2 = 0 then 0 else 1)] m4 P := by
      generalize hv1 : ((if r2 = 0 then 0 else 1) : Int) = v1
      have h := h v1 hv1.symm
      exact Tj.iret dX11_alike_58 rfl h
    refine Tj.if_eq dX11_alike_50 rfl rfl (fun c2 => ?_) (fun c2 => ?_)
    · refine Tj.iconst dX11_alike_57 (by decide) rfl ?_
      try simp only [if_pos c2] at hj ⊢
      exact Tj.cut hj trivial
    · refine Tj.iconst dX11_alike_53 (by decide) rfl ?_
      refine Tj.goto dX11_alike_54 rfl ?_
      try simp only [if_neg c2] at hj ⊢
      exact Tj.cut hj trivial

theorem wX11_wraps_0 {m : tM} {P : Option tV → tM → Prop}   (h : Cli mX9_fault [rV 109] m (fun r1 m1 => ((r1 = 0 → (Clv mX10_seek [rV 128, rV 6, rV 120, rV 109] m1 (fun m2 => (Cli mX10_ways [rV 128] m2 (fun r2 m3 => (P (some (iV r2)) m3)))))) ∧ (¬ r1 = 0 → (P (some (iV (-4))) m1))))) : Tj mX11_wraps 0 [some (rV 0)] [] m P := by
  refine Tj.aload_n dX11_wraps_0 rfl rfl ?_
  refine Tj.getR (b := 109) dX11_wraps_1 fl_X11_33 sh_0 rfl rfl ?_
  refine Tj.callVi (as := []) (rest := []) dX11_wraps_4 ln_X11_124 sh_109 (by decide) rfl rfl (Nat.le_of_ble_eq_true rfl) ⟨Nat.le_of_ble_eq_true rfl, Nat.le_of_ble_eq_true rfl⟩ (Nat.le_of_ble_eq_true rfl) rfl ?_
  refine Cli.mono h (fun r1 m1 h => ?_)
  refine Tj.if_eq dX11_wraps_7 rfl rfl (fun c1 => ?_) (fun c1 => ?_)
  · have h := h.1 c1
    refine Tj.aload_n dX11_wraps_13 rfl rfl ?_
    refine Tj.getR (b := 128) dX11_wraps_14 fl_X11_61 sh_0 rfl rfl ?_
    refine Tj.aload_n dX11_wraps_17 rfl rfl ?_
    refine Tj.getR (b := 1) dX11_wraps_18 fl_X11_10 sh_0 rfl rfl ?_
    refine Tj.getR (b := 6) dX11_wraps_21 fl_X11_180 sh_1 rfl rfl ?_
    refine Tj.aload_n dX11_wraps_24 rfl rfl ?_
    refine Tj.getR (b := 120) dX11_wraps_25 fl_X11_47 sh_0 rfl rfl ?_
    refine Tj.aload_n dX11_wraps_28 rfl rfl ?_
    refine Tj.getR (b := 109) dX11_wraps_29 fl_X11_33 sh_0 rfl rfl ?_
    refine Tj.callVv (as := [_, _, _]) (rest := []) dX11_wraps_32 ln_X11_261 sh_128 (by decide) rfl rfl (Nat.le_of_ble_eq_true rfl) ⟨Nat.le_of_ble_eq_true rfl, Nat.le_of_ble_eq_true rfl⟩ (Nat.le_of_ble_eq_true rfl) rfl ?_
    refine Clv.mono h (fun m2 h => ?_)
    refine Tj.aload_n dX11_wraps_35 rfl rfl ?_
    refine Tj.getR (b := 128) dX11_wraps_36 fl_X11_61 sh_0 rfl rfl ?_
    refine Tj.callVi (as := []) (rest := []) dX11_wraps_39 ln_X11_265 sh_128 (by decide) rfl rfl (Nat.le_of_ble_eq_true rfl) ⟨Nat.le_of_ble_eq_true rfl, Nat.le_of_ble_eq_true rfl⟩ (Nat.le_of_ble_eq_true rfl) rfl ?_
    refine Cli.mono h (fun r2 m3 h => ?_)
    exact Tj.iret dX11_wraps_42 rfl h
  · have h := h.2 c1
    refine Tj.bipush dX11_wraps_10 (by decide) (by decide +kernel) rfl ?_
    exact Tj.iret dX11_wraps_12 rfl h

theorem wX11_way_0 {m : tM} {P : Option tV → tM → Prop} {x1 : Int} {x2 : Int}  (h : (x1 < 0 → (P (some (iV (-3))) m)) ∧ (¬ x1 < 0 → (Cli mX11_isWithin [iV x2, iV 3] m (fun r1 m1 => ((r1 = 0 → (P (some (iV (-3))) m1)) ∧ (¬ r1 = 0 → (Cli mX9_fault [rV 109] m1 (fun r2 m2 => ((r2 = 0 → (Clv mX10_seek [rV 128, rV 6, rV 120, rV 109] m2 (fun m3 => (Cli mX10_ways [rV 128] m3 (fun r3 m4 => ((x1 < r3 → ((x2 = 0 → (Cli mX10_squareOf [rV 128, iV x1] m4 (fun r4 m5 => (P (some (iV r4)) m5)))) ∧ (x2 = 1 → (Cli mX10_turnOf [rV 128, iV x1] m4 (fun r5 m6 => (P (some (iV r5)) m6)))) ∧ (¬ x2 = 0 → ¬ x2 = 1 → (Cli mX10_isTurnedOver [rV 128, iV x1] m4 (fun r6 m7 => (∀ v1 : Int, v1 = (if r6 = 0 then 0 else 1) → (P (some (iV v1)) m7))))))) ∧ (¬ x1 < r3 → (P (some (iV (-1))) m4)))))))) ∧ (¬ r2 = 0 → (P (some (iV (-4))) m2))))))))))) : Tj mX11_way 0 [some (rV 0), some (iV x1), some (iV x2)] [] m P := by
  refine Tj.iload_n dX11_way_0 rfl rfl ?_
  refine Tj.if_lt dX11_way_1 rfl rfl (fun c1 => ?_) (fun c1 => ?_)
  · have h := h.1 c1
    refine Tj.bipush dX11_way_12 (by decide) (by decide +kernel) rfl ?_
    exact Tj.iret dX11_way_14 rfl h
  · have h := h.2 c1
    refine Tj.iload_n dX11_way_4 rfl rfl ?_
    refine Tj.iconst dX11_way_5 (by decide) rfl ?_
    refine Tj.callSi (as := [_, _]) (rest := []) dX11_way_6 ln_X11_131 rfl rfl (Nat.le_of_ble_eq_true rfl) ⟨Nat.le_of_ble_eq_true rfl, Nat.le_of_ble_eq_true rfl⟩ (Nat.le_of_ble_eq_true rfl) rfl ?_
    refine Cli.mono h (fun r1 m1 h => ?_)
    refine Tj.if_ne dX11_way_9 rfl rfl (fun c2 => ?_) (fun c2 => ?_)
    · have h := h.1 c2
      refine Tj.bipush dX11_way_12 (by decide) (by decide +kernel) rfl ?_
      exact Tj.iret dX11_way_14 rfl h
    · have h := h.2 c2
      refine Tj.aload_n dX11_way_15 rfl rfl ?_
      refine Tj.getR (b := 109) dX11_way_16 fl_X11_33 sh_0 rfl rfl ?_
      refine Tj.callVi (as := []) (rest := []) dX11_way_19 ln_X11_124 sh_109 (by decide) rfl rfl (Nat.le_of_ble_eq_true rfl) ⟨Nat.le_of_ble_eq_true rfl, Nat.le_of_ble_eq_true rfl⟩ (Nat.le_of_ble_eq_true rfl) rfl ?_
      refine Cli.mono h (fun r2 m2 h => ?_)
      refine Tj.if_eq dX11_way_22 rfl rfl (fun c3 => ?_) (fun c3 => ?_)
      · have h := h.1 c3
        refine Tj.aload_n dX11_way_28 rfl rfl ?_
        refine Tj.getR (b := 128) dX11_way_29 fl_X11_61 sh_0 rfl rfl ?_
        refine Tj.aload_n dX11_way_32 rfl rfl ?_
        refine Tj.getR (b := 1) dX11_way_33 fl_X11_10 sh_0 rfl rfl ?_
        refine Tj.getR (b := 6) dX11_way_36 fl_X11_180 sh_1 rfl rfl ?_
        refine Tj.aload_n dX11_way_39 rfl rfl ?_
        refine Tj.getR (b := 120) dX11_way_40 fl_X11_47 sh_0 rfl rfl ?_
        refine Tj.aload_n dX11_way_43 rfl rfl ?_
        refine Tj.getR (b := 109) dX11_way_44 fl_X11_33 sh_0 rfl rfl ?_
        refine Tj.callVv (as := [_, _, _]) (rest := []) dX11_way_47 ln_X11_261 sh_128 (by decide) rfl rfl (Nat.le_of_ble_eq_true rfl) ⟨Nat.le_of_ble_eq_true rfl, Nat.le_of_ble_eq_true rfl⟩ (Nat.le_of_ble_eq_true rfl) rfl ?_
        refine Clv.mono h (fun m3 h => ?_)
        refine Tj.iload_n dX11_way_50 rfl rfl ?_
        refine Tj.aload_n dX11_way_51 rfl rfl ?_
        refine Tj.getR (b := 128) dX11_way_52 fl_X11_61 sh_0 rfl rfl ?_
        refine Tj.callVi (as := []) (rest := [_]) dX11_way_55 ln_X11_265 sh_128 (by decide) rfl rfl (Nat.le_of_ble_eq_true rfl) ⟨Nat.le_of_ble_eq_true rfl, Nat.le_of_ble_eq_true rfl⟩ (Nat.le_of_ble_eq_true rfl) rfl ?_
        refine Cli.mono h (fun r3 m4 h => ?_)
        refine Tj.icmp_lt dX11_way_58 rfl rfl (fun c4 => ?_) (fun c4 => ?_)
        · have h := h.1 c4
          refine Tj.iload_n dX11_way_63 rfl rfl ?_
          show Tj mX11_way 64 [some (rV 0), some (iV x1), some (iV x2)] [iV x2] m4 P
          by_cases c5 : x2 = 0
          · have h := h.1 c5
            refine Tj.lsw (pc' := 92) (off := 28) dX11_way_64 (by decide) (by simp [Op.lookupswitch.offset, c5]) (by decide) ?_
            refine Tj.aload_n dX11_way_92 rfl rfl ?_
            refine Tj.getR (b := 128) dX11_way_93 fl_X11_61 sh_0 rfl rfl ?_
            refine Tj.iload_n dX11_way_96 rfl rfl ?_
            refine Tj.callVi (as := [_]) (rest := []) dX11_way_97 ln_X11_268 sh_128 (by decide) rfl rfl (Nat.le_of_ble_eq_true rfl) ⟨Nat.le_of_ble_eq_true rfl, Nat.le_of_ble_eq_true rfl⟩ (Nat.le_of_ble_eq_true rfl) rfl ?_
            refine Cli.mono h (fun r4 m5 h => ?_)
            exact Tj.iret dX11_way_100 rfl h
          have h := h.2
          by_cases c6 : x2 = 1
          · have h := h.1 c6
            refine Tj.lsw (pc' := 101) (off := 37) dX11_way_64 (by decide) (by simp [Op.lookupswitch.offset, c6]) (by decide) ?_
            refine Tj.aload_n dX11_way_101 rfl rfl ?_
            refine Tj.getR (b := 128) dX11_way_102 fl_X11_61 sh_0 rfl rfl ?_
            refine Tj.iload_n dX11_way_105 rfl rfl ?_
            refine Tj.callVi (as := [_]) (rest := []) dX11_way_106 ln_X11_271 sh_128 (by decide) rfl rfl (Nat.le_of_ble_eq_true rfl) ⟨Nat.le_of_ble_eq_true rfl, Nat.le_of_ble_eq_true rfl⟩ (Nat.le_of_ble_eq_true rfl) rfl ?_
            refine Cli.mono h (fun r5 m6 h => ?_)
            exact Tj.iret dX11_way_109 rfl h
          have h := h.2
          have h := h c5 c6
          refine Tj.lsw (pc' := 110) (off := 46) dX11_way_64 (by decide) (by simp [Op.lookupswitch.offset, c5, c6, Ne.symm c5, Ne.symm c6]) (by decide) ?_
          refine Tj.aload_n dX11_way_110 rfl rfl ?_
          refine Tj.getR (b := 128) dX11_way_111 fl_X11_61 sh_0 rfl rfl ?_
          refine Tj.iload_n dX11_way_114 rfl rfl ?_
          refine Tj.callVi (as := [_]) (rest := []) dX11_way_115 ln_X11_274 sh_128 (by decide) rfl rfl (Nat.le_of_ble_eq_true rfl) ⟨Nat.le_of_ble_eq_true rfl, Nat.le_of_ble_eq_true rfl⟩ (Nat.le_of_ble_eq_true rfl) rfl ?_
          refine Cli.mono h (fun r6 m7 h => ?_)
          have hj : Tj mX11_way 126 [] [iV (if r6 = 0 then 0 else 1)] m7 P := by
            generalize hv1 : ((if r6 = 0 then 0 else 1) : Int) = v1
            have h := h v1 hv1.symm
            exact Tj.iret dX11_way_126 rfl h
          refine Tj.if_eq dX11_way_118 rfl rfl (fun c7 => ?_) (fun c7 => ?_)
          · refine Tj.iconst dX11_way_125 (by decide) rfl ?_
            try simp only [if_pos c7] at hj ⊢
            exact Tj.cut hj trivial
          · refine Tj.iconst dX11_way_121 (by decide) rfl ?_
            refine Tj.goto dX11_way_122 rfl ?_
            try simp only [if_neg c7] at hj ⊢
            exact Tj.cut hj trivial
        · have h := h.2 c4
          refine Tj.iconst dX11_way_61 (by decide) rfl ?_
          exact Tj.iret dX11_way_62 rfl h
      · have h := h.2 c3
        refine Tj.bipush dX11_way_25 (by decide) (by decide +kernel) rfl ?_
        exact Tj.iret dX11_way_27 rfl h

theorem wX11_undo_0 {m : tM} {P : Option tV → tM → Prop}   (h : Cli mX7_size [rV 10] m (fun r1 m1 => ((r1 = 0 → (P (some (iV (-4))) m1)) ∧ (¬ r1 = 0 → (Clv mX7_giveBack [rV 10, rV 1] m1 (fun m2 => (Clv mX9_take [rV 109, rV 2] m2 (fun m3 => (Cli mX7_size [rV 10] m3 (fun r2 m4 => (P (some (iV r2)) m4))))))))))) : Tj mX11_undo 0 [some (rV 0)] [] m P := by
  refine Tj.aload_n dX11_undo_0 rfl rfl ?_
  refine Tj.getR (b := 10) dX11_undo_1 fl_X11_19 sh_0 rfl rfl ?_
  refine Tj.callVi (as := []) (rest := []) dX11_undo_4 ln_X11_277 sh_10 (by decide) rfl rfl (Nat.le_of_ble_eq_true rfl) ⟨Nat.le_of_ble_eq_true rfl, Nat.le_of_ble_eq_true rfl⟩ (Nat.le_of_ble_eq_true rfl) rfl ?_
  refine Cli.mono h (fun r1 m1 h => ?_)
  refine Tj.if_ne dX11_undo_7 rfl rfl (fun c1 => ?_) (fun c1 => ?_)
  · have h := h.1 c1
    refine Tj.bipush dX11_undo_10 (by decide) (by decide +kernel) rfl ?_
    exact Tj.iret dX11_undo_12 rfl h
  · have h := h.2 c1
    refine Tj.aload_n dX11_undo_13 rfl rfl ?_
    refine Tj.getR (b := 10) dX11_undo_14 fl_X11_19 sh_0 rfl rfl ?_
    refine Tj.aload_n dX11_undo_17 rfl rfl ?_
    refine Tj.getR (b := 1) dX11_undo_18 fl_X11_10 sh_0 rfl rfl ?_
    refine Tj.callVv (as := [_]) (rest := []) dX11_undo_21 ln_X11_278 sh_10 (by decide) rfl rfl (Nat.le_of_ble_eq_true rfl) ⟨Nat.le_of_ble_eq_true rfl, Nat.le_of_ble_eq_true rfl⟩ (Nat.le_of_ble_eq_true rfl) rfl ?_
    refine Clv.mono h (fun m2 h => ?_)
    refine Tj.aload_n dX11_undo_24 rfl rfl ?_
    refine Tj.getR (b := 109) dX11_undo_25 fl_X11_33 sh_0 rfl rfl ?_
    refine Tj.aload_n dX11_undo_28 rfl rfl ?_
    refine Tj.getR (b := 1) dX11_undo_29 fl_X11_10 sh_0 rfl rfl ?_
    refine Tj.getR (b := 2) dX11_undo_32 fl_X11_87 sh_1 rfl rfl ?_
    refine Tj.callVv (as := [_]) (rest := []) dX11_undo_35 ln_X11_281 sh_109 (by decide) rfl rfl (Nat.le_of_ble_eq_true rfl) ⟨Nat.le_of_ble_eq_true rfl, Nat.le_of_ble_eq_true rfl⟩ (Nat.le_of_ble_eq_true rfl) rfl ?_
    refine Clv.mono h (fun m3 h => ?_)
    refine Tj.aload_n dX11_undo_38 rfl rfl ?_
    refine Tj.getR (b := 10) dX11_undo_39 fl_X11_19 sh_0 rfl rfl ?_
    refine Tj.callVi (as := []) (rest := []) dX11_undo_42 ln_X11_277 sh_10 (by decide) rfl rfl (Nat.le_of_ble_eq_true rfl) ⟨Nat.le_of_ble_eq_true rfl, Nat.le_of_ble_eq_true rfl⟩ (Nat.le_of_ble_eq_true rfl) rfl ?_
    refine Cli.mono h (fun r2 m4 h => ?_)
    exact Tj.iret dX11_undo_45 rfl h

theorem wX11_count_0 {m : tM} {P : Option tV → tM → Prop} {x1 : Int}  (h : (x1 = 0 → (Cli mX1_cubes [rV 2] m (fun r1 m1 => (P (some (iV r1)) m1)))) ∧ (x1 = 1 → (Cli mX1_layersThere [rV 2] m (fun r2 m2 => (P (some (iV r2)) m2)))) ∧ (x1 = 2 → (Cli mX8_size [rV 6] m (fun r3 m3 => (P (some (iV r3)) m3)))) ∧ (x1 = 3 → (Cli mX8_creaseCount [rV 6] m (fun r4 m4 => (P (some (iV r4)) m4)))) ∧ (x1 = 4 → (Cli mX7_size [rV 10] m (fun r5 m5 => (P (some (iV r5)) m5)))) ∧ (¬ x1 = 0 → ¬ x1 = 1 → ¬ x1 = 2 → ¬ x1 = 3 → ¬ x1 = 4 → (P (some (iV (-3))) m))) : Tj mX11_count 0 [some (rV 0), some (iV x1)] [] m P := by
  refine Tj.iload_n dX11_count_0 rfl rfl ?_
  show Tj mX11_count 1 [some (rV 0), some (iV x1)] [iV x1] m P
  by_cases c1 : x1 = 0
  · have h := h.1 c1
    refine Tj.tsI (pc' := 36) (v := 0) (off := 35) dX11_count_1 c1 (by decide) (by decide) (by decide +kernel) (by decide) ?_
    refine Tj.aload_n dX11_count_36 rfl rfl ?_
    refine Tj.getR (b := 1) dX11_count_37 fl_X11_10 sh_0 rfl rfl ?_
    refine Tj.getR (b := 2) dX11_count_40 fl_X11_87 sh_1 rfl rfl ?_
    refine Tj.callVi (as := []) (rest := []) dX11_count_43 ln_X11_284 sh_2 (by decide) rfl rfl (Nat.le_of_ble_eq_true rfl) ⟨Nat.le_of_ble_eq_true rfl, Nat.le_of_ble_eq_true rfl⟩ (Nat.le_of_ble_eq_true rfl) rfl ?_
    refine Cli.mono h (fun r1 m1 h => ?_)
    exact Tj.iret dX11_count_46 rfl h
  have h := h.2
  by_cases c2 : x1 = 1
  · have h := h.1 c2
    refine Tj.tsI (pc' := 47) (v := 1) (off := 46) dX11_count_1 c2 (by decide) (by decide) (by decide +kernel) (by decide) ?_
    refine Tj.aload_n dX11_count_47 rfl rfl ?_
    refine Tj.getR (b := 1) dX11_count_48 fl_X11_10 sh_0 rfl rfl ?_
    refine Tj.getR (b := 2) dX11_count_51 fl_X11_87 sh_1 rfl rfl ?_
    refine Tj.callVi (as := []) (rest := []) dX11_count_54 ln_X11_287 sh_2 (by decide) rfl rfl (Nat.le_of_ble_eq_true rfl) ⟨Nat.le_of_ble_eq_true rfl, Nat.le_of_ble_eq_true rfl⟩ (Nat.le_of_ble_eq_true rfl) rfl ?_
    refine Cli.mono h (fun r2 m2 h => ?_)
    exact Tj.iret dX11_count_57 rfl h
  have h := h.2
  by_cases c3 : x1 = 2
  · have h := h.1 c3
    refine Tj.tsI (pc' := 58) (v := 2) (off := 57) dX11_count_1 c3 (by decide) (by decide) (by decide +kernel) (by decide) ?_
    refine Tj.aload_n dX11_count_58 rfl rfl ?_
    refine Tj.getR (b := 1) dX11_count_59 fl_X11_10 sh_0 rfl rfl ?_
    refine Tj.getR (b := 6) dX11_count_62 fl_X11_180 sh_1 rfl rfl ?_
    refine Tj.callVi (as := []) (rest := []) dX11_count_65 ln_X11_196 sh_6 (by decide) rfl rfl (Nat.le_of_ble_eq_true rfl) ⟨Nat.le_of_ble_eq_true rfl, Nat.le_of_ble_eq_true rfl⟩ (Nat.le_of_ble_eq_true rfl) rfl ?_
    refine Cli.mono h (fun r3 m3 h => ?_)
    exact Tj.iret dX11_count_68 rfl h
  have h := h.2
  by_cases c4 : x1 = 3
  · have h := h.1 c4
    refine Tj.tsI (pc' := 69) (v := 3) (off := 68) dX11_count_1 c4 (by decide) (by decide) (by decide +kernel) (by decide) ?_
    refine Tj.aload_n dX11_count_69 rfl rfl ?_
    refine Tj.getR (b := 1) dX11_count_70 fl_X11_10 sh_0 rfl rfl ?_
    refine Tj.getR (b := 6) dX11_count_73 fl_X11_180 sh_1 rfl rfl ?_
    refine Tj.callVi (as := []) (rest := []) dX11_count_76 ln_X11_187 sh_6 (by decide) rfl rfl (Nat.le_of_ble_eq_true rfl) ⟨Nat.le_of_ble_eq_true rfl, Nat.le_of_ble_eq_true rfl⟩ (Nat.le_of_ble_eq_true rfl) rfl ?_
    refine Cli.mono h (fun r4 m4 h => ?_)
    exact Tj.iret dX11_count_79 rfl h
  have h := h.2
  by_cases c5 : x1 = 4
  · have h := h.1 c5
    refine Tj.tsI (pc' := 80) (v := 4) (off := 79) dX11_count_1 c5 (by decide) (by decide) (by decide +kernel) (by decide) ?_
    refine Tj.aload_n dX11_count_80 rfl rfl ?_
    refine Tj.getR (b := 10) dX11_count_81 fl_X11_19 sh_0 rfl rfl ?_
    refine Tj.callVi (as := []) (rest := []) dX11_count_84 ln_X11_277 sh_10 (by decide) rfl rfl (Nat.le_of_ble_eq_true rfl) ⟨Nat.le_of_ble_eq_true rfl, Nat.le_of_ble_eq_true rfl⟩ (Nat.le_of_ble_eq_true rfl) rfl ?_
    refine Cli.mono h (fun r5 m5 h => ?_)
    exact Tj.iret dX11_count_87 rfl h
  have h := h.2
  have h := h c1 c2 c3 c4 c5
  refine Tj.tsO (pc' := 88) dX11_count_1 ((Int.lt_or_le x1 0).elim Or.inl (fun q => Or.inr (ts_s (by decide : (4 : Int) + 1 = 5) (ts_s (by decide : (3 : Int) + 1 = 4) (ts_s (by decide : (2 : Int) + 1 = 3) (ts_s (by decide : (1 : Int) + 1 = 2) (ts_s (by decide : (0 : Int) + 1 = 1) q c1) c2) c3) c4) c5))) (by decide) ?_
  refine Tj.bipush dX11_count_88 (by decide) (by decide +kernel) rfl ?_
  exact Tj.iret dX11_count_90 rfl h

theorem wX11_bodyHasChanged_0 {m : tM} {P : Option tV → tM → Prop}   (h : Clv mX2_mend [rV 4] m (fun m1 => (Clv mX9_take [rV 109, rV 2] m1 (fun m2 => (P none m2))))) : Tj mX11_bodyHasChanged 0 [some (rV 0)] [] m P := by
  refine Tj.aload_n dX11_bodyHasChanged_0 rfl rfl ?_
  refine Tj.getR (b := 1) dX11_bodyHasChanged_1 fl_X11_10 sh_0 rfl rfl ?_
  refine Tj.getR (b := 4) dX11_bodyHasChanged_4 fl_X11_156 sh_1 rfl rfl ?_
  refine Tj.callVv (as := []) (rest := []) dX11_bodyHasChanged_7 ln_X11_290 sh_4 (by decide) rfl rfl (Nat.le_of_ble_eq_true rfl) ⟨Nat.le_of_ble_eq_true rfl, Nat.le_of_ble_eq_true rfl⟩ (Nat.le_of_ble_eq_true rfl) rfl ?_
  refine Clv.mono h (fun m1 h => ?_)
  refine Tj.aload_n dX11_bodyHasChanged_10 rfl rfl ?_
  refine Tj.getR (b := 109) dX11_bodyHasChanged_11 fl_X11_33 sh_0 rfl rfl ?_
  refine Tj.aload_n dX11_bodyHasChanged_14 rfl rfl ?_
  refine Tj.getR (b := 1) dX11_bodyHasChanged_15 fl_X11_10 sh_0 rfl rfl ?_
  refine Tj.getR (b := 2) dX11_bodyHasChanged_18 fl_X11_87 sh_1 rfl rfl ?_
  refine Tj.callVv (as := [_]) (rest := []) dX11_bodyHasChanged_21 ln_X11_281 sh_109 (by decide) rfl rfl (Nat.le_of_ble_eq_true rfl) ⟨Nat.le_of_ble_eq_true rfl, Nat.le_of_ble_eq_true rfl⟩ (Nat.le_of_ble_eq_true rfl) rfl ?_
  refine Clv.mono h (fun m2 h => ?_)
  exact Tj.vret dX11_bodyHasChanged_24 rfl h

theorem wX11_isWithin_0 {m : tM} {P : Option tV → tM → Prop} {x0 : Int} {x1 : Int}  (h : ∀ v1 : Int, v1 = (if x0 < 0 then 0 else (if x0 < x1 then 1 else 0)) → (P (some (iV v1)) m)) : Tj mX11_isWithin 0 [some (iV x0), some (iV x1)] [] m P := by
  refine Tj.iload_n dX11_isWithin_0 rfl rfl ?_
  have hj : Tj mX11_isWithin 14 [] [iV (if x0 < 0 then 0 else (if x0 < x1 then 1 else 0))] m P := by
    generalize hv1 : ((if x0 < 0 then 0 else (if x0 < x1 then 1 else 0)) : Int) = v1
    have h := h v1 hv1.symm
    exact Tj.zret dX11_isWithin_14 rfl (by rw [← hv1]; (repeat' split) <;> simp) h
  refine Tj.if_lt dX11_isWithin_1 rfl rfl (fun c1 => ?_) (fun c1 => ?_)
  · refine Tj.iconst dX11_isWithin_13 (by decide) rfl ?_
    try simp only [if_pos c1] at hj ⊢
    exact Tj.cut hj trivial
  · refine Tj.iload_n dX11_isWithin_4 rfl rfl ?_
    refine Tj.iload_n dX11_isWithin_5 rfl rfl ?_
    refine Tj.icmp_ge dX11_isWithin_6 rfl rfl (fun c2 => ?_) (fun c2 => ?_)
    · refine Tj.iconst dX11_isWithin_9 (by decide) rfl ?_
      refine Tj.goto dX11_isWithin_10 rfl ?_
      try simp only [if_neg c1, if_pos c2] at hj ⊢
      exact Tj.cut hj trivial
    · refine Tj.iconst dX11_isWithin_13 (by decide) rfl ?_
      try simp only [if_neg c1, if_neg c2] at hj ⊢
      exact Tj.cut hj trivial
