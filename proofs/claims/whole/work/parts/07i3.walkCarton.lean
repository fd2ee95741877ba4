theorem wX11_undo_0 {m : tM} {P : Option tV → tM → Prop}   (h : Cli mX7_size [rV 10] m (fun r1 m1 => ((r1 = 0 → (P (some (iV (-4))) m1)) ∧ (¬ r1 = 0 → (Clv mX7_giveBack [rV 10, rV 1] m1 (fun m2 => (Clv mX9_take [rV 109, rV 2] m2 (fun m3 => (Cli mX7_size [rV 10] m3 (fun r2 m4 => (P (some (iV r2)) m4))))))))))) : Tj mX11_undo 0 [some (rV 0)] [] m P := by
  refine Tj.aload_n dX11_undo_0 rfl rfl ?_
  refine Tj.getR (b := 10) dX11_undo_1 fl_X11_19 sh_0 rfl rfl ?_
  refine Tj.callVi (as := []) (rest := []) dX11_undo_4 ln_X11_277 sh_10 (by decide) rfl rfl (Nat.le_of_ble_eq_true rfl) ⟨Nat.le_of_ble_eq_true rfl, Nat.le_of_ble_eq_true rfl⟩ (Nat.le_of_ble_eq_true rfl) rfl ?_
  refine Cli.mono h (fun r1 m1 h => ?_)
  refine Tj.if_ne dX11_undo_7 rfl rfl (fun c1 => ?_) (fun c1 => ?_)
  · have h := h.1 c1
    refine Tj.bipush dX11_undo_10 (by decide) (by decide +kernel) rfl ?_
    exact Tj.iret dX11_undo_12 rfl h
  · have h := h.2 c1
    refine Tj.aload_n dX11_undo_13 rfl rfl ?_
    refine Tj.getR (b := 10) dX11_undo_14 fl_X11_19 sh_0 rfl rfl ?_
    refine Tj.aload_n dX11_undo_17 rfl rfl ?_
    refine Tj.getR (b := 1) dX11_undo_18 fl_X11_10 sh_0 rfl rfl ?_
    refine Tj.callVv (as := [_]) (rest := []) dX11_undo_21 ln_X11_278 sh_10 (by decide) rfl rfl (Nat.le_of_ble_eq_true rfl) ⟨Nat.le_of_ble_eq_true rfl, Nat.le_of_ble_eq_true rfl⟩ (Nat.le_of_ble_eq_true rfl) rfl ?_
    refine Clv.mono h (fun m2 h => ?_)
    refine Tj.aload_n dX11_undo_24 rfl rfl ?_
    refine Tj.getR (b := 109) dX11_undo_25 fl_X11_33 sh_0 rfl rfl ?_
    refine Tj.aload_n dX11_undo_28 rfl rfl ?_
    refine Tj.getR (b := 1) dX11_undo_29 fl_X11_10 sh_0 rfl rfl ?_
    refine Tj.getR (b := 2) dX11_undo_32 fl_X11_87 sh_1 rfl rfl ?_
    refine Tj.callVv (as := [_]) (rest := []) dX11_undo_35 ln_X11_281 sh_109 (by decide) rfl rfl (Nat.le_of_ble_eq_true rfl) ⟨Nat.le_of_ble_eq_true rfl, Nat.le_of_ble_eq_true rfl⟩ (Nat.le_of_ble_eq_true rfl) rfl ?_
    refine Clv.mono h (fun m3 h => ?_)
    refine Tj.aload_n dX11_undo_38 rfl rfl ?_
    refine Tj.getR (b := 10) dX11_undo_39 fl_X11_19 sh_0 rfl rfl ?_
    refine Tj.callVi (as := []) (rest := []) dX11_undo_42 ln_X11_277 sh_10 (by decide) rfl rfl (Nat.le_of_ble_eq_true rfl) ⟨Nat.le_of_ble_eq_true rfl, Nat.le_of_ble_eq_true rfl⟩ (Nat.le_of_ble_eq_true rfl) rfl ?_
    refine Cli.mono h (fun r2 m4 h => ?_)
    exact Tj.iret dX11_undo_45 rfl h

theorem wX11_count_0 {m : tM} {P : Option tV → tM → Prop} {x1 : Int}  (h : (x1 = 0 → (Cli mX1_cubes [rV 2] m (fun r1 m1 => (P (some (iV r1)) m1)))) ∧ (x1 = 1 → (Cli mX1_layersThere [rV 2] m (fun r2 m2 => (P (some (iV r2)) m2)))) ∧ (x1 = 2 → (Cli mX8_size [rV 6] m (fun r3 m3 => (P (some (iV r3)) m3)))) ∧ (x1 = 3 → (Cli mX8_creaseCount [rV 6] m (fun r4 m4 => (P (some (iV r4)) m4)))) ∧ (x1 = 4 → (Cli mX7_size [rV 10] m (fun r5 m5 => (P (some (iV r5)) m5)))) ∧ (¬ x1 = 0 → ¬ x1 = 1 → ¬ x1 = 2 → ¬ x1 = 3 → ¬ x1 = 4 → (P (some (iV (-3))) m))) : Tj mX11_count 0 [some (rV 0), some (iV x1)] [] m P := by
  refine Tj.iload_n dX11_count_0 rfl rfl ?_
  show Tj mX11_count 1 [some (rV 0), some (iV x1)] [iV x1] m P
  by_cases c1 : x1 = 0
  · have h := h.1 c1
    refine Tj.tsI (pc' := 36) (v := 0) (off := 35) dX11_count_1 c1 (by decide) (by decide) (by decide +kernel) (by decide) ?_
    refine Tj.aload_n dX11_count_36 rfl rfl ?_
    refine Tj.getR (b := 1) dX11_count_37 fl_X11_10 sh_0 rfl rfl ?_
    refine Tj.getR (b := 2) dX11_count_40 fl_X11_87 sh_1 rfl rfl ?_
    refine Tj.callVi (as := []) (rest := []) dX11_count_43 ln_X11_284 sh_2 (by decide) rfl rfl (Nat.le_of_ble_eq_true rfl) ⟨Nat.le_of_ble_eq_true rfl, Nat.le_of_ble_eq_true rfl⟩ (Nat.le_of_ble_eq_true rfl) rfl ?_
    refine Cli.mono h (fun r1 m1 h => ?_)
    exact Tj.iret dX11_count_46 rfl h
  have h := h.2
  by_cases c2 : x1 = 1
  · have h := h.1 c2
    refine Tj.tsI (pc' := 47) (v := 1) (off := 46) dX11_count_1 c2 (by decide) (by decide) (by decide +kernel) (by decide) ?_
    refine Tj.aload_n dX11_count_47 rfl rfl ?_
    refine Tj.getR (b := 1) dX11_count_48 fl_X11_10 sh_0 rfl rfl ?_
    refine Tj.getR (b := 2) dX11_count_51 fl_X11_87 sh_1 rfl rfl ?_
    refine Tj.callVi (as := []) (rest := []) dX11_count_54 ln_X11_287 sh_2 (by decide) rfl rfl (Nat.le_of_ble_eq_true rfl) ⟨Nat.le_of_ble_eq_true rfl, Nat.le_of_ble_eq_true rfl⟩ (Nat.le_of_ble_eq_true rfl) rfl ?_
    refine Cli.mono h (fun r2 m2 h => ?_)
    exact Tj.iret dX11_count_57 rfl h
  have h := h.2
  by_cases c3 : x1 = 2
  · have h := h.1 c3
    refine Tj.tsI (pc' := 58) (v := 2) (off := 57) dX11_count_1 c3 (by decide) (by decide) (by decide +kernel) (by decide) ?_
    refine Tj.aload_n dX11_count_58 rfl rfl ?_
    refine Tj.getR (b := 1) dX11_count_59 fl_X11_10 sh_0 rfl rfl ?_
    refine Tj.getR (b := 6) dX11_count_62 fl_X11_180 sh_1 rfl rfl ?_
    refine Tj.callVi (as := []) (rest := []) dX11_count_65 ln_X11_196 sh_6 (by decide) rfl rfl (Nat.le_of_ble_eq_true rfl) ⟨Nat.le_of_ble_eq_true rfl, Nat.le_of_ble_eq_true rfl⟩ (Nat.le_of_ble_eq_true rfl) rfl ?_
    refine Cli.mono h (fun r3 m3 h => ?_)
    exact Tj.iret dX11_count_68 rfl h
  have h := h.2
  by_cases c4 : x1 = 3
  · have h := h.1 c4
    refine Tj.tsI (pc' := 69) (v := 3) (off := 68) dX11_count_1 c4 (by decide) (by decide) (by decide +kernel) (by decide) ?_
    refine Tj.aload_n dX11_count_69 rfl rfl ?_
    refine Tj.getR (b := 1) dX11_count_70 fl_X11_10 sh_0 rfl rfl ?_
    refine Tj.getR (b := 6) dX11_count_73 fl_X11_180 sh_1 rfl rfl ?_
    refine Tj.callVi (as := []) (rest := []) dX11_count_76 ln_X11_187 sh_6 (by decide) rfl rfl (Nat.le_of_ble_eq_true rfl) ⟨Nat.le_of_ble_eq_true rfl, Nat.le_of_ble_eq_true rfl⟩ (Nat.le_of_ble_eq_true rfl) rfl ?_
    refine Cli.mono h (fun r4 m4 h => ?_)
    exact Tj.iret dX11_count_79 rfl h
  have h := h.2
  by_cases c5 : x1 = 4
  · have h := h.1 c5
    refine Tj.tsI (pc' := 80) (v := 4) (off := 79) dX11_count_1 c5 (by decide) (by decide) (by decide +kernel) (by decide) ?_
    refine Tj.aload_n dX11_count_80 rfl rfl ?_
    refine Tj.getR (b := 10) dX11_count_81 fl_X11_19 sh_0 rfl rfl ?_
    refine Tj.callVi (as := []) (rest := []) dX11_count_84 ln_X11_277 sh_10 (by decide) rfl rfl (Nat.le_of_ble_eq_true rfl) ⟨Nat.le_of_ble_eq_true rfl, Nat.le_of_ble_eq_true rfl⟩ (Nat.le_of_ble_eq_true rfl) rfl ?_
    refine Cli.mono h (fun r5 m5 h => ?_)
    exact Tj.iret dX11_count_87 rfl h
  have h := h.2
  have h := h c1 c2 c3 c4 c5
  refine Tj.tsO (pc' := 88) dX11_count_1 ((Int.lt_or_le x1 0).elim Or.inl (fun q => Or.inr (ts_s (by decide : (4 : Int) + 1 = 5) (ts_s (by decide : (3 : Int) + 1 = 4) (ts_s (by decide : (2 : Int) + 1 = 3) (ts_s (by decide : (1 : Int) + 1 = 2) (ts_s (by decide : (0 : Int) + 1 = 1) q c1) c2) c3) c4) c5))) (by decide) ?_
  refine Tj.bipush dX11_count_88 (by decide) (by decide +kernel) rfl ?_
  exact Tj.iret dX11_count_90 rfl h

theorem wX11_bodyHasChanged_0 {m : tM} {P : Option tV → tM → Prop}   (h : Clv mX2_mend [rV 4] m (fun m1 => (Clv mX9_take [rV 109, rV 2] m1 (fun m2 => (P none m2))))) : Tj mX11_bodyHasChanged 0 [some (rV 0)] [] m P := by
  refine Tj.aload_n dX11_bodyHasChanged_0 rfl rfl ?_
  refine Tj.getR (b := 1) dX11_bodyHasChanged_1 fl_X11_10 sh_0 rfl rfl ?_
  refine Tj.getR (b := 4) dX11_bodyHasChanged_4 fl_X11_156 sh_1 rfl rfl ?_
  refine Tj.callVv (as := []) (rest := []) dX11_bodyHasChanged_7 ln_X11_290 sh_4 (by decide) rfl rfl (Nat.le_of_ble_eq_true rfl) ⟨Nat.le_of_ble_eq_true rfl, Nat.le_of_ble_eq_true rfl⟩ (Nat.le_of_ble_eq_true rfl) rfl ?_
  refine Clv.mono h (fun m1 h => ?_)
  refine Tj.aload_n dX11_bodyHasChanged_10 rfl rfl ?_
  refine Tj.getR (b := 109) dX11_bodyHasChanged_11 fl_X11_33 sh_0 rfl rfl ?_
  refine Tj.aload_n dX11_bodyHasChanged_14 rfl rfl ?_
  refine Tj.getR (b := 1) dX11_bodyHasChanged_15 fl_X11_10 sh_0 rfl rfl ?_
  refine Tj.getR (b := 2) dX11_bodyHasChanged_18 fl_X11_87 sh_1 rfl rfl ?_
  refine Tj.callVv (as := [_]) (rest := []) dX11_bodyHasChanged_21 ln_X11_281 sh_109 (by decide) rfl rfl (Nat.le_of_ble_eq_true rfl) ⟨Nat.le_of_ble_eq_true rfl, Nat.le_of_ble_eq_true rfl⟩ (Nat.le_of_ble_eq_true rfl) rfl ?_
  refine Clv.mono h (fun m2 h => ?_)
  exact Tj.vret dX11_bodyHasChanged_24 rfl h

theorem wX11_isWithin_0 {m : tM} {P : Option tV → tM → Prop} {x0 : Int} {x1 : Int}  (h : ∀ v1 : Int, v1 = (if x0 < 0 then 0 else (if x0 < x1 then 1 else 0)) → (P (some (iV v1)) m)) : Tj mX11_isWithin 0 [some (iV x0), some (iV x1)] [] m P := by
  refine Tj.iload_n dX11_isWithin_0 rfl rfl ?_
  have hj : Tj mX11_isWithin 14 [] [iV (if x0 < 0 then 0 else (if x0 < x1 then 1 else 0))] m P := by
    generalize hv1 : ((if x0 < 0 then 0 else (if x0 < x1 then 1 else 0)) : Int) = v1
    have h := h v1 hv1.symm
    exact Tj.zret dX11_isWithin_14 rfl (by rw [← hv1]; (repeat' split) <;> simp) h
  refine Tj.if_lt dX11_isWithin_1 rfl rfl (fun c1 => ?_) (fun c1 => ?_)
  · refine Tj.iconst dX11_isWithin_13 (by decide) rfl ?_
    try simp only [if_pos c1] at hj ⊢
    exact Tj.cut hj trivial
  · refine Tj.iload_n dX11_isWithin_4 rfl rfl ?_
    refine Tj.iload_n dX11_isWithin_5 rfl rfl ?_
    refine Tj.icmp_ge dX11_isWithin_6 rfl rfl (fun c2 => ?_) (fun c2 => ?_)
    · refine Tj.iconst dX11_isWithin_9 (by decide) rfl ?_
      refine Tj.goto dX11_isWithin_10 rfl ?_
      try simp only [if_neg c1, if_pos c2] at hj ⊢
      exact Tj.cut hj trivial
    · refine Tj.iconst dX11_isWithin_13 (by decide) rfl ?_
      try simp only [if_neg c1, if_neg c2] at hj ⊢
      exact Tj.cut hj trivial

theorem wX11_isLayer_0 {m : tM} {P : Option tV → tM → Prop} {x0 : Int}  (h : Cli mX11_isWithin [iV x0, iV 4] m (fun r1 m1 => (((r1 = 0 ∨ r1 = 1)) ∧ (P (some (iV r1)) m1)))) : Tj mX11_isLayer 0 [some (iV x0)] [] m P := by
  refine Tj.iload_n dX11_isLayer_0 rfl rfl ?_
  refine Tj.iconst dX11_isLayer_1 (by decide) rfl ?_
  refine Tj.callSi (as := [_, _]) (rest := []) dX11_isLayer_2 ln_X11_131 rfl rfl (Nat.le_of_ble_eq_true rfl) ⟨Nat.le_of_ble_eq_true rfl, Nat.le_of_ble_eq_true rfl⟩ (Nat.le_of_ble_eq_true rfl) rfl ?_
  refine Cli.mono h (fun r1 m1 h => ?_)
  obtain ⟨o1, h⟩ := h
  exact Tj.zret dX11_isLayer_5 rfl o1 h

theorem wX11_isSwitch_0 {m : tM} {P : Option tV → tM → Prop} {x0 : Int}  (h : ∀ v1 : Int, v1 = (if x0 = 0 then 1 else (if x0 = 1 then 1 else 0)) → (P (some (iV v1)) m)) : Tj mX11_isSwitch 0 [some (iV x0)] [] m P := by
  refine Tj.iload_n dX11_isSwitch_0 rfl rfl ?_
  have hj : Tj mX11_isSwitch 14 [] [iV (if x0 = 0 then 1 else (if x0 = 1 then 1 else 0))] m P := by
    generalize hv1 : ((if x0 = 0 then 1 else (if x0 = 1 then 1 else 0)) : Int) = v1
    have h := h v1 hv1.symm
    exact Tj.zret dX11_isSwitch_14 rfl (by rw [← hv1]; (repeat' split) <;> simp) h
  refine Tj.if_eq dX11_isSwitch_1 rfl rfl (fun c1 => ?_) (fun c1 => ?_)
  · refine Tj.iconst dX11_isSwitch_9 (by decide) rfl ?_
    refine Tj.goto dX11_isSwitch_10 rfl ?_
    try simp only [if_pos c1] at hj ⊢
    exact Tj.cut hj trivial
  · refine Tj.iload_n dX11_isSwitch_4 rfl rfl ?_
    refine Tj.iconst dX11_isSwitch_5 (by decide) rfl ?_
    refine Tj.icmp_ne dX11_isSwitch_6 rfl rfl (fun c2 => ?_) (fun c2 => ?_)
    · refine Tj.iconst dX11_isSwitch_9 (by decide) rfl ?_
      refine Tj.goto dX11_isSwitch_10 rfl ?_
      try simp only [if_neg c1, if_pos c2] at hj ⊢
      exact Tj.cut hj trivial
    · refine Tj.iconst dX11_isSwitch_13 (by decide) rfl ?_
      try simp only [if_neg c1, if_neg c2] at hj ⊢
      exact Tj.cut hj trivial

theorem wX11_isLength_0 {m : tM} {P : Option tV → tM → Prop} {x0 : Int}  (h : ∀ v1 : Int, v1 = (if x0 < 1 then 0 else (if 4 < x0 then 0 else 1)) → (P (some (iV v1)) m)) : Tj mX11_isLength 0 [some (iV x0)] [] m P := by
  refine Tj.iload_n dX11_isLength_0 rfl rfl ?_
  refine Tj.iconst dX11_isLength_1 (by decide) rfl ?_
  have hj : Tj mX11_isLength 15 [] [iV (if x0 < 1 then 0 else (if 4 < x0 then 0 else 1))] m P := by
    generalize hv1 : ((if x0 < 1 then 0 else (if 4 < x0 then 0 else 1)) : Int) = v1
    have h := h v1 hv1.symm
    exact Tj.zret dX11_isLength_15 rfl (by rw [← hv1]; (repeat' split) <;> simp) h
  refine Tj.icmp_lt dX11_isLength_2 rfl rfl (fun c1 => ?_) (fun c1 => ?_)
  · refine Tj.iconst dX11_isLength_14 (by decide) rfl ?_
    try simp only [if_pos c1] at hj ⊢
    exact Tj.cut hj trivial
  · refine Tj.iload_n dX11_isLength_5 rfl rfl ?_
    refine Tj.iconst dX11_isLength_6 (by decide) rfl ?_
    refine Tj.icmp_gt dX11_isLength_7 rfl rfl (fun c2 => ?_) (fun c2 => ?_)
    · refine Tj.iconst dX11_isLength_14 (by decide) rfl ?_
      try simp only [if_neg c1, if_pos c2] at hj ⊢
      exact Tj.cut hj trivial
    · refine Tj.iconst dX11_isLength_10 (by decide) rfl ?_
      refine Tj.goto dX11_isLength_11 rfl ?_
      try simp only [if_neg c1, if_neg c2] at hj ⊢
      exact Tj.cut hj trivial

theorem wX11_isOnTable_0 {m : tM} {P : Option tV → tM → Prop} {x0 : Int}  (h : ∀ v1 : Int, v1 = (if x0 < (-30) then 0 else (if 30 < x0 then 0 else 1)) → (P (some (iV v1)) m)) : Tj mX11_isOnTable 0 [some (iV x0)] [] m P := by
  refine Tj.iload_n dX11_isOnTable_0 rfl rfl ?_
  refine Tj.bipush dX11_isOnTable_1 (by decide) (by decide +kernel) rfl ?_
  have hj : Tj mX11_isOnTable 17 [] [iV (if x0 < (-30) then 0 else (if 30 < x0 then 0 else 1))] m P := by
    generalize hv1 : ((if x0 < (-30) then 0 else (if 30 < x0 then 0 else 1)) : Int) = v1
    have h := h v1 hv1.symm
    exact Tj.zret dX11_isOnTable_17 rfl (by rw [← hv1]; (repeat' split) <;> simp) h
  refine Tj.icmp_lt dX11_isOnTable_3 rfl rfl (fun c1 => ?_) (fun c1 => ?_)
  · refine Tj.iconst dX11_isOnTable_16 (by decide) rfl ?_
    try simp only [if_pos c1] at hj ⊢
    exact Tj.cut hj trivial
  · refine Tj.iload_n dX11_isOnTable_6 rfl rfl ?_
    refine Tj.bipush dX11_isOnTable_7 (by decide) (by decide +kernel) rfl ?_
    refine Tj.icmp_gt dX11_isOnTable_9 rfl rfl (fun c2 => ?_) (fun c2 => ?_)
    · refine Tj.iconst dX11_isOnTable_16 (by decide) rfl ?_
      try simp only [if_neg c1, if_pos c2] at hj ⊢
      exact Tj.cut hj trivial
    · refine Tj.iconst dX11_isOnTable_12 (by decide) rfl ?_
      refine Tj.goto dX11_isOnTable_13 rfl ?_
      try simp only [if_neg c1, if_neg c2] at hj ⊢
      exact Tj.cut hj trivial

theorem wX11_arePlaces_0 {m : tM} {P : Option tV → tM → Prop} {x0 : Int} {x1 : Int}  (h : (x1 < 0 → (P (some (iV 0)) m)) ∧ (¬ x1 < 0 → ((x0 < 0 → (P (some (iV 0)) m)) ∧ (¬ x0 < 0 → ((R32 (16 - x1)) ∧ (∀ v1 : Int, v1 = (if (16 - x1) < x0 then 0 else 1) → (P (some (iV v1)) m))))))) : Tj mX11_arePlaces 0 [some (iV x0), some (iV x1)] [] m P := by
  refine Tj.iload_n dX11_arePlaces_0 rfl rfl ?_
  refine Tj.if_lt dX11_arePlaces_1 rfl rfl (fun c1 => ?_) (fun c1 => ?_)
  · have h := h.1 c1
    refine Tj.iconst dX11_arePlaces_20 (by decide) rfl ?_
    exact Tj.zret dX11_arePlaces_21 rfl (by decide) h
  · have h := h.2 c1
    refine Tj.iload_n dX11_arePlaces_4 rfl rfl ?_
    refine Tj.if_lt dX11_arePlaces_5 rfl rfl (fun c2 => ?_) (fun c2 => ?_)
    · have h := h.1 c2
      refine Tj.iconst dX11_arePlaces_20 (by decide) rfl ?_
      exact Tj.zret dX11_arePlaces_21 rfl (by decide) h
    · have h := h.2 c2
      obtain ⟨o1, h⟩ := h
      refine Tj.iload_n dX11_arePlaces_8 rfl rfl ?_
      refine Tj.bipush dX11_arePlaces_9 (by decide) (by decide +kernel) rfl ?_
      refine Tj.iload_n dX11_arePlaces_11 rfl rfl ?_
      refine Tj.isub dX11_arePlaces_12 o1 rfl ?_
      have hj : Tj mX11_arePlaces 21 [] [iV (if (16 - x1) < x0 then 0 else 1)] m P := by
        generalize hv1 : ((if (16 - x1) < x0 then 0 else 1) : Int) = v1
        have h := h v1 hv1.symm
        exact Tj.zret dX11_arePlaces_21 rfl (by rw [← hv1]; (repeat' split) <;> simp) h
      refine Tj.icmp_gt dX11_arePlaces_13 rfl rfl (fun c3 => ?_) (fun c3 => ?_)
      · refine Tj.iconst dX11_arePlaces_20 (by decide) rfl ?_
        try simp only [if_pos c3] at hj ⊢
        exact Tj.cut hj trivial
      · refine Tj.iconst dX11_arePlaces_16 (by decide) rfl ?_
        refine Tj.goto dX11_arePlaces_17 rfl ?_
        try simp only [if_neg c3] at hj ⊢
        exact Tj.cut hj trivial

theorem wX11_toldStep_0 {m : tM} {P : Option tV → tM → Prop} {x0 : Int}  (h : ∀ v1 : Int, v1 = (if x0 < 0 then 9 else x0) → (P (some (iV v1)) m)) : Tj mX11_toldStep 0 [some (iV x0)] [] m P := by
  refine Tj.iload_n dX11_toldStep_0 rfl rfl ?_
  have hj : Tj mX11_toldStep 10 [] [iV (if x0 < 0 then 9 else x0)] m P := by
    generalize hv1 : ((if x0 < 0 then 9 else x0) : Int) = v1
    have h := h v1 hv1.symm
    exact Tj.iret dX11_toldStep_10 rfl h
  refine Tj.if_ge dX11_toldStep_1 rfl rfl (fun c1 => ?_) (fun c1 => ?_)
  · refine Tj.bipush dX11_toldStep_4 (by decide) (by decide +kernel) rfl ?_
    refine Tj.goto dX11_toldStep_6 rfl ?_
    try simp only [if_pos c1] at hj ⊢
    exact Tj.cut hj trivial
  · refine Tj.iload_n dX11_toldStep_9 rfl rfl ?_
    try simp only [if_neg c1] at hj ⊢
    exact Tj.cut hj trivial

theorem wX11_creaseMeant_0 {m : tM} {P : Option tV → tM → Prop} {x0 : Int}  (h : (x0 = 0 → (P (some (iV 2)) m)) ∧ (x0 = 1 → (P (some (iV 3)) m)) ∧ (x0 = 2 → (P (some (iV (-1))) m)) ∧ (x0 = 3 → (P (some (iV (-1))) m)) ∧ (x0 = 4 → (P (some (iV (-1))) m)) ∧ (x0 = 5 → (P (some (iV 0)) m)) ∧ (x0 = 6 → (P (some (iV (-1))) m)) ∧ (x0 = 7 → (P (some (iV (-1))) m)) ∧ (x0 = 8 → (P (some (iV (-1))) m)) ∧ (x0 = 9 → (P (some (iV 1)) m)) ∧ (¬ x0 = 0 → ¬ x0 = 1 → ¬ x0 = 2 → ¬ x0 = 3 → ¬ x0 = 4 → ¬ x0 = 5 → ¬ x0 = 6 → ¬ x0 = 7 → ¬ x0 = 8 → ¬ x0 = 9 → (P (some (iV (-1))) m))) : Tj mX11_creaseMeant 0 [some (iV x0)] [] m P := by
  refine Tj.iload_n dX11_creaseMeant_0 rfl rfl ?_
  show Tj mX11_creaseMeant 1 [some (iV x0)] [iV x0] m P
  by_cases c1 : x0 = 0
  · have h := h.1 c1
    refine Tj.tsI (pc' := 60) (v := 0) (off := 59) dX11_creaseMeant_1 c1 (by decide) (by decide) (by decide +kernel) (by decide) ?_
    refine Tj.iconst dX11_creaseMeant_60 (by decide) rfl ?_
    exact Tj.iret dX11_creaseMeant_61 rfl h
  have h := h.2
  by_cases c2 : x0 = 1
  · have h := h.1 c2
    refine Tj.tsI (pc' := 62) (v := 1) (off := 61) dX11_creaseMeant_1 c2 (by decide) (by decide) (by decide +kernel) (by decide) ?_
    refine Tj.iconst dX11_creaseMeant_62 (by decide) rfl ?_
    exact Tj.iret dX11_creaseMeant_63 rfl h
  have h := h.2
  by_cases c3 : x0 = 2
  · have h := h.1 c3
    refine Tj.tsI (pc' := 64) (v := 2) (off := 63) dX11_creaseMeant_1 c3 (by decide) (by decide) (by decide +kernel) (by decide) ?_
    refine Tj.iconst dX11_creaseMeant_64 (by decide) rfl ?_
    exact Tj.iret dX11_creaseMeant_65 rfl h
  have h := h.2
  by_cases c4 : x0 = 3
  · have h := h.1 c4
    refine Tj.tsI (pc' := 64) (v := 3) (off := 63) dX11_creaseMeant_1 c4 (by decide) (by decide) (by decide +kernel) (by decide) ?_
    refine Tj.iconst dX11_creaseMeant_64 (by decide) rfl ?_
    exact Tj.iret dX11_creaseMeant_65 rfl h
  have h := h.2
  by_cases c5 : x0 = 4
  · have h := h.1 c5
    refine Tj.tsI (pc' := 64) (v := 4) (off := 63) dX11_creaseMeant_1 c5 (by decide) (by decide) (by decide +kernel) (by decide) ?_
    refine Tj.iconst dX11_creaseMeant_64 (by decide) rfl ?_
    exact Tj.iret dX11_creaseMeant_65 rfl h
  have h := h.2
  by_cases c6 : x0 = 5
  · have h := h.1 c6
    refine Tj.tsI (pc' := 56) (v := 5) (off := 55) dX11_creaseMeant_1 c6 (by decide) (by decide) (by decide +kernel) (by decide) ?_
    refine Tj.iconst dX11_creaseMeant_56 (by decide) rfl ?_
    exact Tj.iret dX11_creaseMeant_57 rfl h
  have h := h.2
  by_cases c7 : x0 = 6
  · have h := h.1 c7
    refine Tj.tsI (pc' := 64) (v := 6) (off := 63) dX11_creaseMeant_1 c7 (by decide) (by decide) (by decide +kernel) (by decide) ?_
    refine Tj.iconst dX11_creaseMeant_64 (by decide) rfl ?_
    exact Tj.iret dX11_creaseMeant_65 rfl h
  have h := h.2
  by_cases c8 : x0 = 7
  · have h := h.1 c8
    refine Tj.tsI (pc' := 64) (v := 7) (off := 63) dX11_creaseMeant_1 c8 (by decide) (by decide) (by decide +kernel) (by decide) ?_
    refine Tj.iconst dX11_creaseMeant_64 (by decide) rfl ?_
    exact Tj.iret dX11_creaseMeant_65 rfl h
  have h := h.2
  by_cases c9 : x0 = 8
  · have h := h.1 c9
    refine Tj.tsI (pc' := 64) (v := 8) (off := 63) dX11_creaseMeant_1 c9 (by decide) (by decide) (by decide +kernel) (by decide) ?_
    refine Tj.iconst dX11_creaseMeant_64 (by decide) rfl ?_
    exact Tj.iret dX11_creaseMeant_65 rfl h
  have h := h.2
  by_cases c10 : x0 = 9
  · have h := h.1 c10
    refine Tj.tsI (pc' := 58) (v := 9) (off := 57) dX11_creaseMeant_1 c10 (by decide) (by decide) (by decide +kernel) (by decide) ?_
    refine Tj.iconst dX11_creaseMeant_58 (by decide) rfl ?_
    exact Tj.iret dX11_creaseMeant_59 rfl h
  have h := h.2
  have h := h c1 c2 c3 c4 c5 c6 c7 c8 c9 c10
  refine Tj.tsO (pc' := 64) dX11_creaseMeant_1 ((Int.lt_or_le x0 0).elim Or.inl (fun q => Or.inr (ts_s (by decide : (9 : Int) + 1 = 10) (ts_s (by decide : (8 : Int) + 1 = 9) (ts_s (by decide : (7 : Int) + 1 = 8) (ts_s (by decide : (6 : Int) + 1 = 7) (ts_s (by decide : (5 : Int) + 1 = 6) (ts_s (by decide : (4 : Int) + 1 = 5) (ts_s (by decide : (3 : Int) + 1 = 4) (ts_s (by decide : (2 : Int) + 1 = 3) (ts_s (by decide : (1 : Int) + 1 = 2) (ts_s (by decide : (0 : Int) + 1 = 1) q c1) c2) c3) c4) c5) c6) c7) c8) c9) c10))) (by decide) ?_
  refine Tj.iconst dX11_creaseMeant_64 (by decide) rfl ?_
  exact Tj.iret dX11_creaseMeant_65 rfl h
