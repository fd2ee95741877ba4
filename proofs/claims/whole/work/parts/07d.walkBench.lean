theorem wX0_become_0 {m : tM} {P : Option tV → tM → Prop} {a : Nat} {b : Nat} (s_a0 : shp a = some (0, 0)) (s_a1 : shp (a + 1) = some (1, 0)) (s_a3 : shp (a + 3) = some (2, 0)) (s_a5 : shp (a + 5) = some (8, 0)) (s_b0 : shp b = some (0, 0)) (h : Clv mX1_become [rV (a + 1), rV (b + 1)] m (fun m1 => (Clv mX2_become [rV (a + 3), rV (b + 3)] m1 (fun m2 => (Clv mX8_become [rV (a + 5), rV (b + 5)] m2 (fun m3 => (P none m3))))))) : Tj mX0_become 0 [some (rV a), some (rV b)] [] m P := by
  refine Tj.aload_n dX0_become_0 rfl rfl ?_
  refine Tj.getR (b := (a + 1)) dX0_become_1 fl_X0_10 s_a0 rfl rfl ?_
  refine Tj.aload_n dX0_become_4 rfl rfl ?_
  refine Tj.getR (b := (b + 1)) dX0_become_5 fl_X0_10 s_b0 rfl rfl ?_
  refine Tj.callVv (as := [_]) (rest := []) dX0_become_8 ln_X0_30 s_a1 (by decide) rfl rfl (Nat.le_of_ble_eq_true rfl) ⟨Nat.le_of_ble_eq_true rfl, Nat.le_of_ble_eq_true rfl⟩ (Nat.le_of_ble_eq_true rfl) rfl ?_
  refine Clv.mono h (fun m1 h => ?_)
  refine Tj.aload_n dX0_become_11 rfl rfl ?_
  refine Tj.getR (b := (a + 3)) dX0_become_12 fl_X0_19 s_a0 rfl rfl ?_
  refine Tj.aload_n dX0_become_15 rfl rfl ?_
  refine Tj.getR (b := (b + 3)) dX0_become_16 fl_X0_19 s_b0 rfl rfl ?_
  refine Tj.callVv (as := [_]) (rest := []) dX0_become_19 ln_X0_34 s_a3 (by decide) rfl rfl (Nat.le_of_ble_eq_true rfl) ⟨Nat.le_of_ble_eq_true rfl, Nat.le_of_ble_eq_true rfl⟩ (Nat.le_of_ble_eq_true rfl) rfl ?_
  refine Clv.mono h (fun m2 h => ?_)
  refine Tj.aload_n dX0_become_22 rfl rfl ?_
  refine Tj.getR (b := (a + 5)) dX0_become_23 fl_X0_26 s_a0 rfl rfl ?_
  refine Tj.aload_n dX0_become_26 rfl rfl ?_
  refine Tj.getR (b := (b + 5)) dX0_become_27 fl_X0_26 s_b0 rfl rfl ?_
  refine Tj.callVv (as := [_]) (rest := []) dX0_become_30 ln_X0_37 s_a5 (by decide) rfl rfl (Nat.le_of_ble_eq_true rfl) ⟨Nat.le_of_ble_eq_true rfl, Nat.le_of_ble_eq_true rfl⟩ (Nat.le_of_ble_eq_true rfl) rfl ?_
  refine Clv.mono h (fun m3 h => ?_)
  exact Tj.vret dX0_become_33 rfl h

theorem wX6_trace_0 {m : tM} {P : Option tV → tM → Prop}   (h : Cli mX8_size [rV 6] m (fun r1 m1 => (Tj mX6_trace 10 [some (rV 120), some (rV 6), some (iV 0)] [] (up m1 120 3 r1) P))) : Tj mX6_trace 0 [some (rV 120), some (rV 6)] [] m P := by
  refine Tj.aload_n dX6_trace_0 rfl rfl ?_
  refine Tj.aload_n dX6_trace_1 rfl rfl ?_
  refine Tj.callVi (as := []) (rest := [_]) dX6_trace_2 ln_X6_28 sh_6 (by decide) rfl rfl (Nat.le_of_ble_eq_true rfl) ⟨Nat.le_of_ble_eq_true rfl, Nat.le_of_ble_eq_true rfl⟩ (Nat.le_of_ble_eq_true rfl) rfl ?_
  refine Cli.mono h (fun r1 m1 h => ?_)
  refine Tj.pI (j := 3) dX6_trace_5 fp_X6_21 sh_120 rfl rfl ?_
  refine Tj.iconst dX6_trace_8 (by decide) rfl ?_
  refine Tj.istore_n dX6_trace_9 (Nat.le_of_ble_eq_true rfl) rfl rfl ?_
  exact Tj.cut h ⟨rfl, ⟨rfl, ⟨rfl, trivial⟩⟩⟩

theorem wX6_trace_10 {m : tM} {P : Option tV → tM → Prop} {x2 : Int}  (h : (x2 < (m 120 3) → (Tj mX6_trace 20 [some (rV 120), some (rV 6), some (iV x2), some (iV 0)] [] m P)) ∧ (¬ x2 < (m 120 3) → (Clv mX6_reachAll [rV 120] m (fun m1 => (P none m1))))) : Tj mX6_trace 10 [some (rV 120), some (rV 6), some (iV x2)] [] m P := by
  refine Tj.iload_n dX6_trace_10 rfl rfl ?_
  refine Tj.aload_n dX6_trace_11 rfl rfl ?_
  refine Tj.gI (j := 3) dX6_trace_12 fl_X6_21 sh_120 rfl rfl ?_
  refine Tj.icmp_ge dX6_trace_15 rfl rfl (fun c1 => ?_) (fun c1 => ?_)
  · have h := h.1 c1
    refine Tj.iconst dX6_trace_18 (by decide) rfl ?_
    refine Tj.istore_n dX6_trace_19 (Nat.le_of_ble_eq_true rfl) rfl rfl ?_
    exact Tj.cut h ⟨rfl, ⟨rfl, ⟨rfl, ⟨rfl, trivial⟩⟩⟩⟩
  · have h := h.2 c1
    refine Tj.aload_n dX6_trace_78 rfl rfl ?_
    refine Tj.callVv (as := []) (rest := []) dX6_trace_79 ln_X6_39 sh_120 (by decide) rfl rfl (Nat.le_of_ble_eq_true rfl) ⟨Nat.le_of_ble_eq_true rfl, Nat.le_of_ble_eq_true rfl⟩ (Nat.le_of_ble_eq_true rfl) rfl ?_
    refine Clv.mono h (fun m1 h => ?_)
    exact Tj.vret dX6_trace_82 rfl h

theorem wX6_trace_20 {m : tM} {P : Option tV → tM → Prop} {x2 : Int} {x3 : Int}  (h : (x3 < 4 → (Cli mX8_creaseAt [rV 6, iV x2, iV x3] m (fun r1 m1 => (∀ v1 : Int, v1 = (if r1 = 0 then 0 else 1) → ((R32 (4 * x2) ∧ R32 ((4 * x2) + x3)) ∧ ((v1 = 0 → ((0 ≤ ((4 * x2) + x3) ∧ ((4 * x2) + x3) < 240 ∧ R32 (x3 + 1)) ∧ (Tj mX6_trace 20 [some (rV 120), some (rV 6), some (iV x2), some (iV (x3 + 1))] [] (up m1 121 ((4 * x2) + x3) (-1)) P))) ∧ (¬ v1 = 0 → (Cli mX8_beside [rV 6, iV x2, iV x3] m1 (fun r2 m2 => ((0 ≤ ((4 * x2) + x3) ∧ ((4 * x2) + x3) < 240 ∧ R32 (x3 + 1)) ∧ (Tj mX6_trace 20 [some (rV 120), some (rV 6), some (iV x2), some (iV (x3 + 1))] [] (up m2 121 ((4 * x2) + x3) r2) P))))))))))) ∧ (¬ x3 < 4 → ((R32 (x2 + 1)) ∧ (Tj mX6_trace 10 [some (rV 120), some (rV 6), some (iV (x2 + 1))] [] m P)))) : Tj mX6_trace 20 [some (rV 120), some (rV 6), some (iV x2), some (iV x3)] [] m P := by
  refine Tj.iload_n dX6_trace_20 rfl rfl ?_
  refine Tj.iconst dX6_trace_21 (by decide) rfl ?_
  refine Tj.icmp_ge dX6_trace_22 rfl rfl (fun c1 => ?_) (fun c1 => ?_)
  · have h := h.1 c1
    refine Tj.aload_n dX6_trace_25 rfl rfl ?_
    refine Tj.iload_n dX6_trace_26 rfl rfl ?_
    refine Tj.iload_n dX6_trace_27 rfl rfl ?_
    refine Tj.callVi (as := [_, _]) (rest := []) dX6_trace_28 ln_X6_32 sh_6 (by decide) rfl rfl (Nat.le_of_ble_eq_true rfl) ⟨Nat.le_of_ble_eq_true rfl, Nat.le_of_ble_eq_true rfl⟩ (Nat.le_of_ble_eq_true rfl) rfl ?_
    refine Cli.mono h (fun r1 m1 h => ?_)
    have hj : Tj mX6_trace 39 [some (rV 120), some (rV 6), some (iV x2), some (iV x3)] [iV (if r1 = 0 then 0 else 1)] m1 P := by
      generalize hv1 : ((if r1 = 0 then 0 else 1) : Int) = v1
      have h := h v1 hv1.symm
      obtain ⟨⟨o1, o2⟩, h⟩ := h
      refine Tj.istore dX6_trace_39 (Nat.le_of_ble_eq_true rfl) rfl rfl ?_
      refine Tj.aload_n dX6_trace_41 rfl rfl ?_
      refine Tj.getR (b := 121) dX6_trace_42 fl_X6_9 sh_120 rfl rfl ?_
      refine Tj.iconst dX6_trace_45 (by decide) rfl ?_
      refine Tj.iload_n dX6_trace_46 rfl rfl ?_
      refine Tj.imul dX6_trace_47 o1 rfl ?_
      refine Tj.iload_n dX6_trace_48 rfl rfl ?_
      refine Tj.iadd dX6_trace_49 o2 rfl ?_
      refine Tj.iload dX6_trace_50 rfl rfl ?_
      refine Tj.if_eq dX6_trace_52 rfl rfl (fun c3 => ?_) (fun c3 => ?_)
      · have h := h.1 c3
        obtain ⟨⟨o3, o4, o5⟩, h⟩ := h
        refine Tj.iconst dX6_trace_64 (by decide) rfl ?_
        refine Tj.iast dX6_trace_65 sh_121 o3 o4 rfl ?_
        refine Tj.iinc dX6_trace_66 rfl (Nat.le_of_ble_eq_true rfl) rfl o5 rfl ?_
        refine Tj.goto dX6_trace_69 rfl ?_
        exact Tj.cut h ⟨rfl, ⟨rfl, ⟨rfl, ⟨rfl, trivial⟩⟩⟩⟩
      · have h := h.2 c3
        refine Tj.aload_n dX6_trace_55 rfl rfl ?_
        refine Tj.iload_n dX6_trace_56 rfl rfl ?_
        refine Tj.iload_n dX6_trace_57 rfl rfl ?_
        refine Tj.callVi (as := [_, _]) (rest := [_, _]) dX6_trace_58 ln_X6_36 sh_6 (by decide) rfl rfl (Nat.le_of_ble_eq_true rfl) ⟨Nat.le_of_ble_eq_true rfl, Nat.le_of_ble_eq_true rfl⟩ (Nat.le_of_ble_eq_true rfl) rfl ?_
        refine Cli.mono h (fun r2 m2 h => ?_)
        obtain ⟨⟨o6, o7, o8⟩, h⟩ := h
        refine Tj.goto dX6_trace_61 rfl ?_
        refine Tj.iast dX6_trace_65 sh_121 o6 o7 rfl ?_
        refine Tj.iinc dX6_trace_66 rfl (Nat.le_of_ble_eq_true rfl) rfl o8 rfl ?_
        refine Tj.goto dX6_trace_69 rfl ?_
        exact Tj.cut h ⟨rfl, ⟨rfl, ⟨rfl, ⟨rfl, trivial⟩⟩⟩⟩
    refine Tj.if_eq dX6_trace_31 rfl rfl (fun c2 => ?_) (fun c2 => ?_)
    · refine Tj.iconst dX6_trace_38 (by decide) rfl ?_
      try simp only [if_pos c2] at hj ⊢
      exact Tj.cut hj ⟨rfl, ⟨rfl, ⟨rfl, ⟨rfl, trivial⟩⟩⟩⟩
    · refine Tj.iconst dX6_trace_34 (by decide) rfl ?_
      refine Tj.goto dX6_trace_35 rfl ?_
      try simp only [if_neg c2] at hj ⊢
      exact Tj.cut hj ⟨rfl, ⟨rfl, ⟨rfl, ⟨rfl, trivial⟩⟩⟩⟩
  · have h := h.2 c1
    obtain ⟨o9, h⟩ := h
    refine Tj.iinc dX6_trace_72 rfl (Nat.le_of_ble_eq_true rfl) rfl o9 rfl ?_
    refine Tj.goto dX6_trace_75 rfl ?_
    exact Tj.cut h ⟨rfl, ⟨rfl, ⟨rfl, trivial⟩⟩⟩

theorem wX6_reachAll_0 {m : tM} {P : Option tV → tM → Prop}   (h : Clv mJ7_fill_53178 [rV 123, iV (-1)] m (fun m1 => (Tj mX6_reachAll 29 [some (rV 120), some (iV 0)] [] (up (up m1 120 4 (if 1 < (m1 120 3) then 1 else (m1 120 3))) 122 0 0) P))) : Tj mX6_reachAll 0 [some (rV 120)] [] m P := by
  refine Tj.aload_n dX6_reachAll_0 rfl rfl ?_
  refine Tj.getR (b := 123) dX6_reachAll_1 fl_X6_18 sh_120 rfl rfl ?_
  refine Tj.iconst dX6_reachAll_4 (by decide) rfl ?_
  refine Tj.callSv (as := [_, _]) (rest := []) dX6_reachAll_5 ln_X6_42 rfl rfl (Nat.le_of_ble_eq_true rfl) ⟨Nat.le_of_ble_eq_true rfl, Nat.le_of_ble_eq_true rfl⟩ (Nat.le_of_ble_eq_true rfl) rfl ?_
  refine Clv.mono h (fun m1 h => ?_)
  refine Tj.aload_n dX6_reachAll_8 rfl rfl ?_
  refine Tj.aload_n dX6_reachAll_9 rfl rfl ?_
  refine Tj.gI (j := 3) dX6_reachAll_10 fl_X6_21 sh_120 rfl rfl ?_
  refine Tj.iconst dX6_reachAll_13 (by decide) rfl ?_
  refine Tj.mmin dX6_reachAll_14 mt_X6_48 ⟨Nat.le_of_ble_eq_true rfl, Nat.le_of_ble_eq_true rfl⟩ rfl ?_
  refine Tj.pI (j := 4) dX6_reachAll_17 fp_X6_25 sh_120 rfl rfl ?_
  refine Tj.aload_n dX6_reachAll_20 rfl rfl ?_
  refine Tj.getR (b := 122) dX6_reachAll_21 fl_X6_15 sh_120 rfl rfl ?_
  refine Tj.iconst dX6_reachAll_24 (by decide) rfl ?_
  refine Tj.iconst dX6_reachAll_25 (by decide) rfl ?_
  refine Tj.iast dX6_reachAll_26 sh_122 (by decide) (by decide) rfl ?_
  refine Tj.iconst dX6_reachAll_27 (by decide) rfl ?_
  refine Tj.istore_n dX6_reachAll_28 (Nat.le_of_ble_eq_true rfl) rfl rfl ?_
  exact Tj.cut h ⟨rfl, ⟨rfl, trivial⟩⟩

theorem wX6_reachAll_29 {m : tM} {P : Option tV → tM → Prop} {x1 : Int}  (h : (x1 < (m 120 3) → ((x1 < (m 120 4) → (Tj mX6_reachAll 47 [some (rV 120), some (iV x1), some (iV 0)] [] m P)) ∧ (¬ x1 < (m 120 4) → (P none m)))) ∧ (¬ x1 < (m 120 3) → (P none m))) : Tj mX6_reachAll 29 [some (rV 120), some (iV x1)] [] m P := by
  refine Tj.iload_n dX6_reachAll_29 rfl rfl ?_
  refine Tj.aload_n dX6_reachAll_30 rfl rfl ?_
  refine Tj.gI (j := 3) dX6_reachAll_31 fl_X6_21 sh_120 rfl rfl ?_
  refine Tj.icmp_ge dX6_reachAll_34 rfl rfl (fun c1 => ?_) (fun c1 => ?_)
  · have h := h.1 c1
    refine Tj.iload_n dX6_reachAll_37 rfl rfl ?_
    refine Tj.aload_n dX6_reachAll_38 rfl rfl ?_
    refine Tj.gI (j := 4) dX6_reachAll_39 fl_X6_25 sh_120 rfl rfl ?_
    refine Tj.icmp_ge dX6_reachAll_42 rfl rfl (fun c2 => ?_) (fun c2 => ?_)
    · have h := h.1 c2
      refine Tj.iconst dX6_reachAll_45 (by decide) rfl ?_
      refine Tj.istore_n dX6_reachAll_46 (Nat.le_of_ble_eq_true rfl) rfl rfl ?_
      exact Tj.cut h ⟨rfl, ⟨rfl, ⟨rfl, trivial⟩⟩⟩
    · have h := h.2 c2
      exact Tj.vret dX6_reachAll_128 rfl h
  · have h := h.2 c1
    exact Tj.vret dX6_reachAll_128 rfl h

theorem wX6_reachAll_47 {m : tM} {P : Option tV → tM → Prop} {x1 : Int} {x2 : Int}  (h : (x2 < 4 → ((0 ≤ x1 ∧ x1 < 60 ∧ R32 (4 * (m 122 x1)) ∧ R32 ((4 * (m 122 x1)) + x2) ∧ 0 ≤ ((4 * (m 122 x1)) + x2) ∧ ((4 * (m 122 x1)) + x2) < 240) ∧ ((0 < (m 121 ((4 * (m 122 x1)) + x2)) → ((0 ≤ (m 121 ((4 * (m 122 x1)) + x2)) ∧ (m 121 ((4 * (m 122 x1)) + x2)) < 60) ∧ (((m 123 (m 121 ((4 * (m 122 x1)) + x2))) = (-1) → ((0 ≤ (m 120 4) ∧ (m 120 4) < 60 ∧ R32 ((m 120 4) + 1) ∧ R32 (x2 + 1)) ∧ (Tj mX6_reachAll 47 [some (rV 120), some (iV x1), some (iV (x2 + 1))] [] (up (up (up m 123 (m 121 ((4 * (m 122 x1)) + x2)) ((4 * (m 122 x1)) + x2)) 122 (m 120 4) (m 121 ((4 * (m 122 x1)) + x2))) 120 4 ((m 120 4) + 1)) P))) ∧ (¬ (m 123 (m 121 ((4 * (m 122 x1)) + x2))) = (-1) → ((R32 (x2 + 1)) ∧ (Tj mX6_reachAll 47 [some (rV 120), some (iV x1), some (iV (x2 + 1))] [] m P)))))) ∧ (¬ 0 < (m 121 ((4 * (m 122 x1)) + x2)) → ((R32 (x2 + 1)) ∧ (Tj mX6_reachAll 47 [some (rV 120), some (iV x1), some (iV (x2 + 1))] [] m P)))))) ∧ (¬ x2 < 4 → ((R32 (x1 + 1)) ∧ (Tj mX6_reachAll 29 [some (rV 120), some (iV (x1 + 1))] [] m P)))) : Tj mX6_reachAll 47 [some (rV 120), some (iV x1), some (iV x2)] [] m P := by
  refine Tj.iload_n dX6_reachAll_47 rfl rfl ?_
  refine Tj.iconst dX6_reachAll_48 (by decide) rfl ?_
  refine Tj.icmp_ge dX6_reachAll_49 rfl rfl (fun c1 => ?_) (fun c1 => ?_)
  · have h := h.1 c1
    obtain ⟨⟨o1, o2, o3, o4, o5, o6⟩, h⟩ := h
    refine Tj.iconst dX6_reachAll_52 (by decide) rfl ?_
    refine Tj.aload_n dX6_reachAll_53 rfl rfl ?_
    refine Tj.getR (b := 122) dX6_reachAll_54 fl_X6_15 sh_120 rfl rfl ?_
    refine Tj.iload_n dX6_reachAll_57 rfl rfl ?_
    refine Tj.iald dX6_reachAll_58 sh_122 o1 o2 rfl ?_
    refine Tj.imul dX6_reachAll_59 o3 rfl ?_
    refine Tj.iload_n dX6_reachAll_60 rfl rfl ?_
    refine Tj.iadd dX6_reachAll_61 o4 rfl ?_
    refine Tj.istore_n dX6_reachAll_62 (Nat.le_of_ble_eq_true rfl) rfl rfl ?_
    refine Tj.aload_n dX6_reachAll_63 rfl rfl ?_
    refine Tj.getR (b := 121) dX6_reachAll_64 fl_X6_9 sh_120 rfl rfl ?_
    refine Tj.iload_n dX6_reachAll_67 rfl rfl ?_
    refine Tj.iald dX6_reachAll_68 sh_121 o5 o6 rfl ?_
    refine Tj.istore dX6_reachAll_69 (Nat.le_of_ble_eq_true rfl) rfl rfl ?_
    refine Tj.iload dX6_reachAll_71 rfl rfl ?_
    refine Tj.if_le dX6_reachAll_73 rfl rfl (fun c2 => ?_) (fun c2 => ?_)
    · have h := h.1 c2
      obtain ⟨⟨o7, o8⟩, h⟩ := h
      refine Tj.aload_n dX6_reachAll_76 rfl rfl ?_
      refine Tj.getR (b := 123) dX6_reachAll_77 fl_X6_18 sh_120 rfl rfl ?_
      refine Tj.iload dX6_reachAll_80 rfl rfl ?_
      refine Tj.iald dX6_reachAll_82 sh_123 o7 o8 rfl ?_
      refine Tj.iconst dX6_reachAll_83 (by decide) rfl ?_
      refine Tj.icmp_ne dX6_reachAll_84 rfl rfl (fun c3 => ?_) (fun c3 => ?_)
      · have h := h.1 c3
        obtain ⟨⟨o9, o10, o11, o12⟩, h⟩ := h
        refine Tj.aload_n dX6_reachAll_87 rfl rfl ?_
        refine Tj.getR (b := 123) dX6_reachAll_88 fl_X6_18 sh_120 rfl rfl ?_
        refine Tj.iload dX6_reachAll_91 rfl rfl ?_
        refine Tj.iload_n dX6_reachAll_93 rfl rfl ?_
        refine Tj.iast dX6_reachAll_94 sh_123 o7 o8 rfl ?_
        refine Tj.aload_n dX6_reachAll_95 rfl rfl ?_
        refine Tj.getR (b := 122) dX6_reachAll_96 fl_X6_15 sh_120 rfl rfl ?_
        refine Tj.aload_n dX6_reachAll_99 rfl rfl ?_
        refine Tj.gI (j := 4) dX6_reachAll_100 fl_X6_25 sh_120 rfl rfl ?_
        refine Tj.iload dX6_reachAll_103 rfl rfl ?_
        refine Tj.iast dX6_reachAll_105 sh_122 o9 o10 rfl ?_
        refine Tj.aload_n dX6_reachAll_106 rfl rfl ?_
        refine Tj.dup dX6_reachAll_107 rfl rfl ?_
        refine Tj.gI (j := 4) dX6_reachAll_108 fl_X6_25 sh_120 rfl rfl ?_
        refine Tj.iconst dX6_reachAll_111 (by decide) rfl ?_
        refine Tj.iadd dX6_reachAll_112 o11 rfl ?_
        refine Tj.pI (j := 4) dX6_reachAll_113 fp_X6_25 sh_120 rfl rfl ?_
        refine Tj.iinc dX6_reachAll_116 rfl (Nat.le_of_ble_eq_true rfl) rfl o12 rfl ?_
        refine Tj.goto dX6_reachAll_119 rfl ?_
        exact Tj.cut h ⟨rfl, ⟨rfl, ⟨rfl, trivial⟩⟩⟩
      · have h := h.2 c3
        obtain ⟨o13, h⟩ := h
        refine Tj.iinc dX6_reachAll_116 rfl (Nat.le_of_ble_eq_true rfl) rfl o13 rfl ?_
        refine Tj.goto dX6_reachAll_119 rfl ?_
        exact Tj.cut h ⟨rfl, ⟨rfl, ⟨rfl, trivial⟩⟩⟩
    · have h := h.2 c2
      obtain ⟨o14, h⟩ := h
      refine Tj.iinc dX6_reachAll_116 rfl (Nat.le_of_ble_eq_true rfl) rfl o14 rfl ?_
      refine Tj.goto dX6_reachAll_119 rfl ?_
      exact Tj.cut h ⟨rfl, ⟨rfl, ⟨rfl, trivial⟩⟩⟩
  · have h := h.2 c1
    obtain ⟨o15, h⟩ := h
    refine Tj.iinc dX6_reachAll_122 rfl (Nat.le_of_ble_eq_true rfl) rfl o15 rfl ?_
    refine Tj.goto dX6_reachAll_125 rfl ?_
    exact Tj.cut h ⟨rfl, ⟨rfl, trivial⟩⟩

theorem wX6_hangTogether_0 {m : tM} {P : Option tV → tM → Prop}   (h : ∀ v1 : Int, v1 = (if 0 < (m 120 3) then (if (m 120 4) = (m 120 3) then 1 else 0) else 0) → (P (some (iV v1)) m)) : Tj mX6_hangTogether 0 [some (rV 120)] [] m P := by
  refine Tj.aload_n dX6_hangTogether_0 rfl rfl ?_
  refine Tj.gI (j := 3) dX6_hangTogether_1 fl_X6_21 sh_120 rfl rfl ?_
  have hj : Tj mX6_hangTogether 23 [] [iV (if 0 < (m 120 3) then (if (m 120 4) = (m 120 3) then 1 else 0) else 0)] m P := by
    generalize hv1 : ((if 0 < (m 120 3) then (if (m 120 4) = (m 120 3) then 1 else 0) else 0) : Int) = v1
    have h := h v1 hv1.symm
    exact Tj.zret dX6_hangTogether_23 rfl (by rw [← hv1]; (repeat' split) <;> simp) h
  refine Tj.if_le dX6_hangTogether_4 rfl rfl (fun c1 => ?_) (fun c1 => ?_)
  · refine Tj.aload_n dX6_hangTogether_7 rfl rfl ?_
    refine Tj.gI (j := 4) dX6_hangTogether_8 fl_X6_25 sh_120 rfl rfl ?_
    refine Tj.aload_n dX6_hangTogether_11 rfl rfl ?_
    refine Tj.gI (j := 3) dX6_hangTogether_12 fl_X6_21 sh_120 rfl rfl ?_
    refine Tj.icmp_ne dX6_hangTogether_15 rfl rfl (fun c2 => ?_) (fun c2 => ?_)
    · refine Tj.iconst dX6_hangTogether_18 (by decide) rfl ?_
      refine Tj.goto dX6_hangTogether_19 rfl ?_
      try simp only [if_pos c1, if_pos c2] at hj ⊢
      exact Tj.cut hj trivial
    · refine Tj.iconst dX6_hangTogether_22 (by decide) rfl ?_
      try simp only [if_pos c1, if_neg c2] at hj ⊢
      exact Tj.cut hj trivial
  · refine Tj.iconst dX6_hangTogether_22 (by decide) rfl ?_
    try simp only [if_neg c1] at hj ⊢
    exact Tj.cut hj trivial

theorem wX6_next_0 {m : tM} {P : Option tV → tM → Prop} {x1 : Int} {x2 : Int}  (h : (R32 (4 * x1) ∧ R32 ((4 * x1) + x2) ∧ 0 ≤ ((4 * x1) + x2) ∧ ((4 * x1) + x2) < 240) ∧ (P (some (iV (m 121 ((4 * x1) + x2)))) m)) : Tj mX6_next 0 [some (rV 120), some (iV x1), some (iV x2)] [] m P := by
  obtain ⟨⟨o1, o2, o3, o4⟩, h⟩ := h
  refine Tj.aload_n dX6_next_0 rfl rfl ?_
  refine Tj.getR (b := 121) dX6_next_1 fl_X6_9 sh_120 rfl rfl ?_
  refine Tj.iconst dX6_next_4 (by decide) rfl ?_
  refine Tj.iload_n dX6_next_5 rfl rfl ?_
  refine Tj.imul dX6_next_6 o1 rfl ?_
  refine Tj.iload_n dX6_next_7 rfl rfl ?_
  refine Tj.iadd dX6_next_8 o2 rfl ?_
  refine Tj.iald dX6_next_9 sh_121 o3 o4 rfl ?_
  exact Tj.iret dX6_next_10 rfl h

theorem wX6_inOrder_0 {m : tM} {P : Option tV → tM → Prop} {x1 : Int}  (h : (0 ≤ x1 ∧ x1 < 60) ∧ (P (some (iV (m 122 x1))) m)) : Tj mX6_inOrder 0 [some (rV 120), some (iV x1)] [] m P := by
  obtain ⟨⟨o1, o2⟩, h⟩ := h
  refine Tj.aload_n dX6_inOrder_0 rfl rfl ?_
  refine Tj.getR (b := 122) dX6_inOrder_1 fl_X6_15 sh_120 rfl rfl ?_
  refine Tj.iload_n dX6_inOrder_4 rfl rfl ?_
  refine Tj.iald dX6_inOrder_5 sh_122 o1 o2 rfl ?_
  exact Tj.iret dX6_inOrder_6 rfl h

theorem wX6_reachedFrom_0 {m : tM} {P : Option tV → tM → Prop} {x1 : Int}  (h : (0 ≤ x1 ∧ x1 < 60) ∧ (P (some (iV (bShr (m 123 x1) 2))) m)) : Tj mX6_reachedFrom 0 [some (rV 120), some (iV x1)] [] m P := by
  obtain ⟨⟨o1, o2⟩, h⟩ := h
  refine Tj.aload_n dX6_reachedFrom_0 rfl rfl ?_
  refine Tj.getR (b := 123) dX6_reachedFrom_1 fl_X6_18 sh_120 rfl rfl ?_
  refine Tj.iload_n dX6_reachedFrom_4 rfl rfl ?_
  refine Tj.iald dX6_reachedFrom_5 sh_123 o1 o2 rfl ?_
  refine Tj.iconst dX6_reachedFrom_6 (by decide) rfl ?_
  refine Tj.ishr dX6_reachedFrom_7 rfl ?_
  exact Tj.iret dX6_reachedFrom_8 rfl h

theorem wX6_reachedBy_0 {m : tM} {P : Option tV → tM → Prop} {x1 : Int}  (h : (0 ≤ x1 ∧ x1 < 60) ∧ (P (some (iV (bAnd (m 123 x1) 3))) m)) : Tj mX6_reachedBy 0 [some (rV 120), some (iV x1)] [] m P := by
  obtain ⟨⟨o1, o2⟩, h⟩ := h
  refine Tj.aload_n dX6_reachedBy_0 rfl rfl ?_
  refine Tj.getR (b := 123) dX6_reachedBy_1 fl_X6_18 sh_120 rfl rfl ?_
  refine Tj.iload_n dX6_reachedBy_4 rfl rfl ?_
  refine Tj.iald dX6_reachedBy_5 sh_123 o1 o2 rfl ?_
  refine Tj.iconst dX6_reachedBy_6 (by decide) rfl ?_
  refine Tj.iand dX6_reachedBy_7 rfl ?_
  exact Tj.iret dX6_reachedBy_8 rfl h

theorem wX7_size_0 {m : tM} {P : Option tV → tM → Prop}   (h : P (some (iV (m 10 2))) m) : Tj mX7_size 0 [some (rV 10)] [] m P := by
  refine Tj.aload_n dX7_size_0 rfl rfl ?_
  refine Tj.gI (j := 2) dX7_size_1 fl_X7_20 sh_10 rfl rfl ?_
  exact Tj.iret dX7_size_4 rfl h

theorem wX7_keep_0 {m : tM} {P : Option tV → tM → Prop}   (h : (R32 ((m 10 1) + (m 10 2)) ∧ 0 ≤ ((m 10 1) + (m 10 2)) ∧ 0 ≤ (((m 10 1) + (m 10 2)) % 8) ∧ (((m 10 1) + (m 10 2)) % 8) < 8) ∧ (∀ b1 : Nat, 11 + 1 + 9 * Int.toNat (((m 10 1) + (m 10 2)) % 8) = b1 → ((shp b1 = some (0, 0)) ∧ (Clv mX0_become [rV b1, rV 1] m (fun m1 => (((m1 10 2) < 8 → ((R32 ((m1 10 2) + 1)) ∧ (P none (up m1 10 2 ((m1 10 2) + 1))))) ∧ (¬ (m1 10 2) < 8 → ((R32 ((m1 10 1) + 1) ∧ 0 ≤ ((m1 10 1) + 1)) ∧ (P none (up m1 10 1 (((m1 10 1) + 1) % 8))))))))))) : Tj mX7_keep 0 [some (rV 10), some (rV 1)] [] m P := by
  obtain ⟨⟨o1, o2, o3, o4⟩, h⟩ := h
  refine Tj.aload_n dX7_keep_0 rfl rfl ?_
  refine Tj.getR (b := 11) dX7_keep_1 fl_X7_11 sh_10 rfl rfl ?_
  refine Tj.aload_n dX7_keep_4 rfl rfl ?_
  refine Tj.gI (j := 1) dX7_keep_5 fl_X7_16 sh_10 rfl rfl ?_
  refine Tj.aload_n dX7_keep_8 rfl rfl ?_
  refine Tj.gI (j := 2) dX7_keep_9 fl_X7_20 sh_10 rfl rfl ?_
  refine Tj.iadd dX7_keep_12 o1 rfl ?_
  refine Tj.bipush dX7_keep_13 (by decide) (by decide +kernel) rfl ?_
  refine Tj.irem dX7_keep_15 o2 (by decide) rfl ?_
  obtain ⟨b1, hb1⟩ : ∃ y : Nat, 11 + 1 + 9 * Int.toNat (((m 10 1) + (m 10 2)) % 8) = y := ⟨_, rfl⟩
  have h := h b1 hb1
  refine Tj.aald22 (b := b1) dX7_keep_16 sh_11 o3 o4 hb1 rfl ?_
  obtain ⟨o5, h⟩ := h
  refine Tj.aload_n dX7_keep_17 rfl rfl ?_
  refine Tj.callVv (as := [_]) (rest := []) dX7_keep_18 ln_X7_23 o5 (by decide) rfl rfl (Nat.le_of_ble_eq_true rfl) ⟨Nat.le_of_ble_eq_true rfl, Nat.le_of_ble_eq_true rfl⟩ (Nat.le_of_ble_eq_true rfl) rfl ?_
  refine Clv.mono h (fun m1 h => ?_)
  refine Tj.aload_n dX7_keep_21 rfl rfl ?_
  refine Tj.gI (j := 2) dX7_keep_22 fl_X7_20 sh_10 rfl rfl ?_
  refine Tj.bipush dX7_keep_25 (by decide) (by decide +kernel) rfl ?_
  refine Tj.icmp_ge dX7_keep_27 rfl rfl (fun c1 => ?_) (fun c1 => ?_)
  · have h := h.1 c1
    obtain ⟨o6, h⟩ := h
    refine Tj.aload_n dX7_keep_30 rfl rfl ?_
    refine Tj.dup dX7_keep_31 rfl rfl ?_
    refine Tj.gI (j := 2) dX7_keep_32 fl_X7_20 sh_10 rfl rfl ?_
    refine Tj.iconst dX7_keep_35 (by decide) rfl ?_
    refine Tj.iadd dX7_keep_36 o6 rfl ?_
    refine Tj.pI (j := 2) dX7_keep_37 fp_X7_20 sh_10 rfl rfl ?_
    refine Tj.goto dX7_keep_40 rfl ?_
    exact Tj.vret dX7_keep_56 rfl h
  · have h := h.2 c1
    obtain ⟨⟨o7, o8⟩, h⟩ := h
    refine Tj.aload_n dX7_keep_43 rfl rfl ?_
    refine Tj.aload_n dX7_keep_44 rfl rfl ?_
    refine Tj.gI (j := 1) dX7_keep_45 fl_X7_16 sh_10 rfl rfl ?_
    refine Tj.iconst dX7_keep_48 (by decide) rfl ?_
    refine Tj.iadd dX7_keep_49 o7 rfl ?_
    refine Tj.bipush dX7_keep_50 (by decide) (by decide +kernel) rfl ?_
    refine Tj.irem dX7_keep_52 o8 (by decide) rfl ?_
    refine Tj.pI (j := 1) dX7_keep_53 fp_X7_16 sh_10 rfl rfl ?_
    exact Tj.vret dX7_keep_56 rfl h

theorem wX7_giveBack_0 {m : tM} {P : Option tV → tM → Prop}   (h : (0 < (m 10 2) → ((R32 ((m 10 2) - 1) ∧ R32 ((m 10 1) + ((m 10 2) - 1)) ∧ 0 ≤ ((m 10 1) + ((m 10 2) - 1)) ∧ 0 ≤ (((m 10 1) + ((m 10 2) - 1)) % 8) ∧ (((m 10 1) + ((m 10 2) - 1)) % 8) < 8) ∧ (∀ b1 : Nat, 11 + 1 + 9 * Int.toNat (((m 10 1) + ((m 10 2) - 1)) % 8) = b1 → (Clv mX0_become [rV 1, rV b1] (up m 10 2 ((m 10 2) - 1)) (fun m1 => (P none m1)))))) ∧ (¬ 0 < (m 10 2) → (P none m))) : Tj mX7_giveBack 0 [some (rV 10), some (rV 1)] [] m P := by
  refine Tj.aload_n dX7_giveBack_0 rfl rfl ?_
  refine Tj.gI (j := 2) dX7_giveBack_1 fl_X7_20 sh_10 rfl rfl ?_
  refine Tj.if_le dX7_giveBack_4 rfl rfl (fun c1 => ?_) (fun c1 => ?_)
  · have h := h.1 c1
    obtain ⟨⟨o1, o2, o3, o4, o5⟩, h⟩ := h
    refine Tj.aload_n dX7_giveBack_7 rfl rfl ?_
    refine Tj.dup dX7_giveBack_8 rfl rfl ?_
    refine Tj.gI (j := 2) dX7_giveBack_9 fl_X7_20 sh_10 rfl rfl ?_
    refine Tj.iconst dX7_giveBack_12 (by decide) rfl ?_
    refine Tj.isub dX7_giveBack_13 o1 rfl ?_
    refine Tj.pI (j := 2) dX7_giveBack_14 fp_X7_20 sh_10 rfl rfl ?_
    refine Tj.aload_n dX7_giveBack_17 rfl rfl ?_
    refine Tj.aload_n dX7_giveBack_18 rfl rfl ?_
    refine Tj.getR (b := 11) dX7_giveBack_19 fl_X7_11 sh_10 rfl rfl ?_
    refine Tj.aload_n dX7_giveBack_22 rfl rfl ?_
    refine Tj.gI (j := 1) dX7_giveBack_23 fl_X7_16 sh_10 rfl rfl ?_
    refine Tj.aload_n dX7_giveBack_26 rfl rfl ?_
    refine Tj.gI (j := 2) dX7_giveBack_27 fl_X7_20 sh_10 rfl rfl ?_
    refine Tj.iadd dX7_giveBack_30 o2 rfl ?_
    refine Tj.bipush dX7_giveBack_31 (by decide) (by decide +kernel) rfl ?_
    refine Tj.irem dX7_giveBack_33 o3 (by decide) rfl ?_
    obtain ⟨b1, hb1⟩ : ∃ y : Nat, 11 + 1 + 9 * Int.toNat (((m 10 1) + ((m 10 2) - 1)) % 8) = y := ⟨_, rfl⟩
    have h := h b1 hb1
    refine Tj.aald22 (b := b1) dX7_giveBack_34 sh_11 o4 o5 hb1 rfl ?_
    refine Tj.callVv (as := [_]) (rest := []) dX7_giveBack_35 ln_X7_23 sh_1 (by decide) rfl rfl (Nat.le_of_ble_eq_true rfl) ⟨Nat.le_of_ble_eq_true rfl, Nat.le_of_ble_eq_true rfl⟩ (Nat.le_of_ble_eq_true rfl) rfl ?_
    refine Clv.mono h (fun m1 h => ?_)
    exact Tj.vret dX7_giveBack_38 rfl h
  · have h := h.2 c1
    exact Tj.vret dX7_giveBack_38 rfl h
