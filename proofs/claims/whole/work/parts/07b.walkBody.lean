theorem wX1_coordinate_0 {m : tM} {P : Option tV → tM → Prop} {x0 : Int} {x1 : Int}  (h : (R32 (2 * x1)) ∧ (P (some (iV (bAnd (bShr x0 (2 * x1)) 3))) m)) : Tj mX1_coordinate 0 [some (iV x0), some (iV x1)] [] m P := by
  obtain ⟨o1, h⟩ := h
  refine Tj.iload_n dX1_coordinate_0 rfl rfl ?_
  refine Tj.iconst dX1_coordinate_1 (by decide) rfl ?_
  refine Tj.iload_n dX1_coordinate_2 rfl rfl ?_
  refine Tj.imul dX1_coordinate_3 o1 rfl ?_
  refine Tj.ishr dX1_coordinate_4 rfl ?_
  refine Tj.iconst dX1_coordinate_5 (by decide) rfl ?_
  refine Tj.iand dX1_coordinate_6 rfl ?_
  exact Tj.iret dX1_coordinate_7 rfl h

theorem wX1_against_0 {m : tM} {P : Option tV → tM → Prop} {x0 : Int}  (h : P (some (iV (bXor x0 1))) m) : Tj mX1_against 0 [some (iV x0)] [] m P := by
  refine Tj.iload_n dX1_against_0 rfl rfl ?_
  refine Tj.iconst dX1_against_1 (by decide) rfl ?_
  refine Tj.ixor dX1_against_2 rfl ?_
  exact Tj.iret dX1_against_3 rfl h

theorem wX1_step_0 {m : tM} {P : Option tV → tM → Prop} {x0 : Int} {x1 : Int}  (h : ((bShr x0 1) = x1 → (∀ v1 : Int, v1 = (if (bAnd x0 1) = 0 then 1 else (-1)) → (P (some (iV v1)) m))) ∧ (¬ (bShr x0 1) = x1 → (P (some (iV 0)) m))) : Tj mX1_step 0 [some (iV x0), some (iV x1)] [] m P := by
  refine Tj.iload_n dX1_step_0 rfl rfl ?_
  refine Tj.iconst dX1_step_1 (by decide) rfl ?_
  refine Tj.ishr dX1_step_2 rfl ?_
  refine Tj.iload_n dX1_step_3 rfl rfl ?_
  refine Tj.icmp_eq dX1_step_4 rfl rfl (fun c1 => ?_) (fun c1 => ?_)
  · have h := h.1 c1
    refine Tj.iload_n dX1_step_9 rfl rfl ?_
    refine Tj.iconst dX1_step_10 (by decide) rfl ?_
    refine Tj.iand dX1_step_11 rfl ?_
    have hj : Tj mX1_step 20 [] [iV (if (bAnd x0 1) = 0 then 1 else (-1))] m P := by
      generalize hv1 : ((if (bAnd x0 1) = 0 then 1 else (-1)) : Int) = v1
      have h := h v1 hv1.symm
      exact Tj.iret dX1_step_20 rfl h
    refine Tj.if_ne dX1_step_12 rfl rfl (fun c2 => ?_) (fun c2 => ?_)
    · refine Tj.iconst dX1_step_15 (by decide) rfl ?_
      refine Tj.goto dX1_step_16 rfl ?_
      try simp only [if_pos c2] at hj ⊢
      exact Tj.cut hj trivial
    · refine Tj.iconst dX1_step_19 (by decide) rfl ?_
      try simp only [if_neg c2] at hj ⊢
      exact Tj.cut hj trivial
  · have h := h.2 c1
    refine Tj.iconst dX1_step_7 (by decide) rfl ?_
    exact Tj.iret dX1_step_8 rfl h

theorem wX1_beyond_0 {m : tM} {P : Option tV → tM → Prop} {x0 : Int} {x1 : Int}  (h : (x0 < 0 → (P (some (iV (-1))) m)) ∧ (¬ x0 < 0 → (Cli mX1_step [iV x1, iV (bShr x1 1)] m (fun r1 m1 => (Cli mX1_coordinate [iV x0, iV (bShr x1 1)] m1 (fun r2 m2 => ((R32 (r2 + r1)) ∧ (((r2 + r1) < 0 → (P (some (iV (-1))) m2)) ∧ (¬ (r2 + r1) < 0 → ((3 < (r2 + r1) → (P (some (iV (-1))) m2)) ∧ (¬ 3 < (r2 + r1) → ((R32 (2 * (bShr x1 1)) ∧ R32 (r1 * (bShl 1 (2 * (bShr x1 1)))) ∧ R32 (x0 + (r1 * (bShl 1 (2 * (bShr x1 1)))))) ∧ (P (some (iV (x0 + (r1 * (bShl 1 (2 * (bShr x1 1))))))) m2))))))))))))) : Tj mX1_beyond 0 [some (iV x0), some (iV x1)] [] m P := by
  refine Tj.iload_n dX1_beyond_0 rfl rfl ?_
  refine Tj.if_ge dX1_beyond_1 rfl rfl (fun c1 => ?_) (fun c1 => ?_)
  · have h := h.1 c1
    refine Tj.iconst dX1_beyond_4 (by decide) rfl ?_
    exact Tj.iret dX1_beyond_5 rfl h
  · have h := h.2 c1
    refine Tj.iload_n dX1_beyond_6 rfl rfl ?_
    refine Tj.iconst dX1_beyond_7 (by decide) rfl ?_
    refine Tj.ishr dX1_beyond_8 rfl ?_
    refine Tj.istore_n dX1_beyond_9 (Nat.le_of_ble_eq_true rfl) rfl rfl ?_
    refine Tj.iload_n dX1_beyond_10 rfl rfl ?_
    refine Tj.iload_n dX1_beyond_11 rfl rfl ?_
    refine Tj.callSi (as := [_, _]) (rest := []) dX1_beyond_12 ln_X1_19 rfl rfl (Nat.le_of_ble_eq_true rfl) ⟨Nat.le_of_ble_eq_true rfl, Nat.le_of_ble_eq_true rfl⟩ (Nat.le_of_ble_eq_true rfl) rfl ?_
    refine Cli.mono h (fun r1 m1 h => ?_)
    refine Tj.istore_n dX1_beyond_15 (Nat.le_of_ble_eq_true rfl) rfl rfl ?_
    refine Tj.iload_n dX1_beyond_16 rfl rfl ?_
    refine Tj.iload_n dX1_beyond_17 rfl rfl ?_
    refine Tj.callSi (as := [_, _]) (rest := []) dX1_beyond_18 ln_X1_23 rfl rfl (Nat.le_of_ble_eq_true rfl) ⟨Nat.le_of_ble_eq_true rfl, Nat.le_of_ble_eq_true rfl⟩ (Nat.le_of_ble_eq_true rfl) rfl ?_
    refine Cli.mono h (fun r2 m2 h => ?_)
    obtain ⟨o1, h⟩ := h
    refine Tj.iload_n dX1_beyond_21 rfl rfl ?_
    refine Tj.iadd dX1_beyond_22 o1 rfl ?_
    refine Tj.istore dX1_beyond_23 (Nat.le_of_ble_eq_true rfl) rfl rfl ?_
    refine Tj.iload dX1_beyond_25 rfl rfl ?_
    refine Tj.if_lt dX1_beyond_27 rfl rfl (fun c2 => ?_) (fun c2 => ?_)
    · have h := h.1 c2
      refine Tj.iconst dX1_beyond_36 (by decide) rfl ?_
      exact Tj.iret dX1_beyond_37 rfl h
    · have h := h.2 c2
      refine Tj.iload dX1_beyond_30 rfl rfl ?_
      refine Tj.iconst dX1_beyond_32 (by decide) rfl ?_
      refine Tj.icmp_le dX1_beyond_33 rfl rfl (fun c3 => ?_) (fun c3 => ?_)
      · have h := h.1 c3
        refine Tj.iconst dX1_beyond_36 (by decide) rfl ?_
        exact Tj.iret dX1_beyond_37 rfl h
      · have h := h.2 c3
        obtain ⟨⟨o2, o3, o4⟩, h⟩ := h
        refine Tj.iload_n dX1_beyond_38 rfl rfl ?_
        refine Tj.iload_n dX1_beyond_39 rfl rfl ?_
        refine Tj.iconst dX1_beyond_40 (by decide) rfl ?_
        refine Tj.iconst dX1_beyond_41 (by decide) rfl ?_
        refine Tj.iload_n dX1_beyond_42 rfl rfl ?_
        refine Tj.imul dX1_beyond_43 o2 rfl ?_
        refine Tj.ishl dX1_beyond_44 rfl ?_
        refine Tj.imul dX1_beyond_45 o3 rfl ?_
        refine Tj.iadd dX1_beyond_46 o4 rfl ?_
        exact Tj.iret dX1_beyond_47 rfl h

theorem wX1_has_0 {m : tM} {P : Option tV → tM → Prop} {x0 : Int64} {x2 : Int}  (h : ∀ v1 : Int, v1 = (if x2 < 0 then 0 else (if (lcI ((bLshr x0 x2) &&& 1) 1) = 0 then 1 else 0)) → (P (some (iV v1)) m)) : Tj mX1_has 0 [some (lV x0), none, some (iV x2)] [] m P := by
  refine Tj.iload_n dX1_has_0 rfl rfl ?_
  have hj : Tj mX1_has 19 [] [iV (if x2 < 0 then 0 else (if (lcI ((bLshr x0 x2) &&& 1) 1) = 0 then 1 else 0))] m P := by
    generalize hv1 : ((if x2 < 0 then 0 else (if (lcI ((bLshr x0 x2) &&& 1) 1) = 0 then 1 else 0)) : Int) = v1
    have h := h v1 hv1.symm
    exact Tj.zret dX1_has_19 rfl (by rw [← hv1]; (repeat' split) <;> simp) h
  refine Tj.if_lt dX1_has_1 rfl rfl (fun c1 => ?_) (fun c1 => ?_)
  · refine Tj.iconst dX1_has_18 (by decide) rfl ?_
    try simp only [if_pos c1] at hj ⊢
    exact Tj.cut hj trivial
  · refine Tj.lload_n dX1_has_4 rfl rfl ?_
    refine Tj.iload_n dX1_has_5 rfl rfl ?_
    refine Tj.lshr dX1_has_6 rfl ?_
    refine Tj.lconst (v := 1) dX1_has_7 rfl rfl ?_
    refine Tj.land dX1_has_8 rfl ?_
    refine Tj.lconst (v := 1) dX1_has_9 rfl rfl ?_
    refine Tj.lcmp dX1_has_10 rfl ?_
    refine Tj.if_ne dX1_has_11 rfl rfl (fun c2 => ?_) (fun c2 => ?_)
    · refine Tj.iconst dX1_has_14 (by decide) rfl ?_
      refine Tj.goto dX1_has_15 rfl ?_
      try simp only [if_neg c1, if_pos c2] at hj ⊢
      exact Tj.cut hj trivial
    · refine Tj.iconst dX1_has_18 (by decide) rfl ?_
      try simp only [if_neg c1, if_neg c2] at hj ⊢
      exact Tj.cut hj trivial

theorem wX1_become_0 {m : tM} {P : Option tV → tM → Prop} {a : Nat} {b : Nat} (s_a0 : shp a = some (1, 0)) (s_a1 : shp (a + 1) = some (20, 4)) (s_b0 : shp b = some (1, 0)) (s_b1 : shp (b + 1) = some (20, 4)) (h : ∀ m1 : tM, m1 = (sr m (a + 1) (cpr (m (b + 1)) (m (a + 1)) 0 0 4)) → (P none m1)) : Tj mX1_become 0 [some (rV a), some (rV b)] [] m P := by
  refine Tj.aload_n dX1_become_0 rfl rfl ?_
  refine Tj.getR (b := (b + 1)) dX1_become_1 fl_X1_9 s_b0 rfl rfl ?_
  refine Tj.iconst dX1_become_4 (by decide) rfl ?_
  refine Tj.aload_n dX1_become_5 rfl rfl ?_
  refine Tj.getR (b := (a + 1)) dX1_become_6 fl_X1_9 s_a0 rfl rfl ?_
  refine Tj.iconst dX1_become_9 (by decide) rfl ?_
  refine Tj.iconst dX1_become_10 (by decide) rfl ?_
  refine Tj.copy dX1_become_11 ac_X1_26 ac_ok s_b1 s_a1 (by decide) (by decide) (by decide) (by decide) (by decide) ⟨Nat.le_of_ble_eq_true rfl, Nat.le_of_ble_eq_true rfl⟩ rfl ?_
  show Tj mX1_become 14 [some (rV a), some (rV b)] [] (sr m (a + 1) (cpr (m (b + 1)) (m (a + 1)) 0 0 4)) P
  generalize hm1 : (sr m (a + 1) (cpr (m (b + 1)) (m (a + 1)) 0 0 4)) = m1
  have h := h m1 hm1.symm
  exact Tj.vret dX1_become_14 rfl h

theorem wX1_misses_0 {m : tM} {P : Option tV → tM → Prop} {x1 : Int}  (h : (0 ≤ x1 ∧ x1 < 4) ∧ (∀ v1 : Int, v1 = (if (m 3 x1) = (-1) then 1 else 0) → (P (some (iV v1)) m))) : Tj mX1_misses 0 [some (rV 2), some (iV x1)] [] m P := by
  obtain ⟨⟨o1, o2⟩, h⟩ := h
  refine Tj.aload_n dX1_misses_0 rfl rfl ?_
  refine Tj.getR (b := 3) dX1_misses_1 fl_X1_9 sh_2 rfl rfl ?_
  refine Tj.iload_n dX1_misses_4 rfl rfl ?_
  refine Tj.iald dX1_misses_5 sh_3 o1 o2 rfl ?_
  refine Tj.iconst dX1_misses_6 (by decide) rfl ?_
  have hj : Tj mX1_misses 15 [] [iV (if (m 3 x1) = (-1) then 1 else 0)] m P := by
    generalize hv1 : ((if (m 3 x1) = (-1) then 1 else 0) : Int) = v1
    have h := h v1 hv1.symm
    exact Tj.zret dX1_misses_15 rfl (by rw [← hv1]; (repeat' split) <;> simp) h
  refine Tj.icmp_ne dX1_misses_7 rfl rfl (fun c1 => ?_) (fun c1 => ?_)
  · refine Tj.iconst dX1_misses_10 (by decide) rfl ?_
    refine Tj.goto dX1_misses_11 rfl ?_
    try simp only [if_pos c1] at hj ⊢
    exact Tj.cut hj trivial
  · refine Tj.iconst dX1_misses_14 (by decide) rfl ?_
    try simp only [if_neg c1] at hj ⊢
    exact Tj.cut hj trivial

theorem wX1_bitsOf_0 {m : tM} {P : Option tV → tM → Prop} {x1 : Int}  (h : Cli mX1_misses [rV 2, iV x1] m (fun r1 m1 => ((r1 = 0 → ((0 ≤ x1 ∧ x1 < 4) ∧ (P (some (iV (m1 3 x1))) m1))) ∧ (¬ r1 = 0 → (P (some (iV 0)) m1))))) : Tj mX1_bitsOf 0 [some (rV 2), some (iV x1)] [] m P := by
  refine Tj.aload_n dX1_bitsOf_0 rfl rfl ?_
  refine Tj.iload_n dX1_bitsOf_1 rfl rfl ?_
  refine Tj.callVi (as := [_]) (rest := []) dX1_bitsOf_2 ln_X1_32 sh_2 (by decide) rfl rfl (Nat.le_of_ble_eq_true rfl) ⟨Nat.le_of_ble_eq_true rfl, Nat.le_of_ble_eq_true rfl⟩ (Nat.le_of_ble_eq_true rfl) rfl ?_
  refine Cli.mono h (fun r1 m1 h => ?_)
  refine Tj.if_eq dX1_bitsOf_5 rfl rfl (fun c1 => ?_) (fun c1 => ?_)
  · have h := h.1 c1
    obtain ⟨⟨o1, o2⟩, h⟩ := h
    refine Tj.aload_n dX1_bitsOf_12 rfl rfl ?_
    refine Tj.getR (b := 3) dX1_bitsOf_13 fl_X1_9 sh_2 rfl rfl ?_
    refine Tj.iload_n dX1_bitsOf_16 rfl rfl ?_
    refine Tj.iald dX1_bitsOf_17 sh_3 o1 o2 rfl ?_
    exact Tj.iret dX1_bitsOf_18 rfl h
  · have h := h.2 c1
    refine Tj.iconst dX1_bitsOf_8 (by decide) rfl ?_
    refine Tj.goto dX1_bitsOf_9 rfl ?_
    exact Tj.iret dX1_bitsOf_18 rfl h

theorem wX1_put_0 {m : tM} {P : Option tV → tM → Prop} {x1 : Int} {x2 : Int}  (h : (0 ≤ x1 ∧ x1 < 4) ∧ (P none (up m 3 x1 (bAnd x2 65535)))) : Tj mX1_put 0 [some (rV 2), some (iV x1), some (iV x2)] [] m P := by
  obtain ⟨⟨o1, o2⟩, h⟩ := h
  refine Tj.aload_n dX1_put_0 rfl rfl ?_
  refine Tj.getR (b := 3) dX1_put_1 fl_X1_9 sh_2 rfl rfl ?_
  refine Tj.iload_n dX1_put_4 rfl rfl ?_
  refine Tj.iload_n dX1_put_5 rfl rfl ?_
  refine Tj.ldc dX1_put_6 cn_X1_36 (by decide) rfl ?_
  refine Tj.iand dX1_put_8 rfl ?_
  refine Tj.iast dX1_put_9 sh_3 o1 o2 rfl ?_
  exact Tj.vret dX1_put_10 rfl h

theorem wX1_take_0 {m : tM} {P : Option tV → tM → Prop} {x1 : Int}  (h : (0 ≤ x1 ∧ x1 < 4) ∧ (P none (up m 3 x1 (-1)))) : Tj mX1_take 0 [some (rV 2), some (iV x1)] [] m P := by
  obtain ⟨⟨o1, o2⟩, h⟩ := h
  refine Tj.aload_n dX1_take_0 rfl rfl ?_
  refine Tj.getR (b := 3) dX1_take_1 fl_X1_9 sh_2 rfl rfl ?_
  refine Tj.iload_n dX1_take_4 rfl rfl ?_
  refine Tj.iconst dX1_take_5 (by decide) rfl ?_
  refine Tj.iast dX1_take_6 sh_3 o1 o2 rfl ?_
  exact Tj.vret dX1_take_7 rfl h

theorem wX1_cubesIn_0 {m : tM} {P : Option tV → tM → Prop} {x1 : Int}  (h : Cli mX1_bitsOf [rV 2, iV x1] m (fun r1 m1 => (Cli mJ6_bitCount_0f7a4 [iV r1] m1 (fun r2 m2 => (P (some (iV r2)) m2))))) : Tj mX1_cubesIn 0 [some (rV 2), some (iV x1)] [] m P := by
  refine Tj.aload_n dX1_cubesIn_0 rfl rfl ?_
  refine Tj.iload_n dX1_cubesIn_1 rfl rfl ?_
  refine Tj.callVi (as := [_]) (rest := []) dX1_cubesIn_2 ln_X1_37 sh_2 (by decide) rfl rfl (Nat.le_of_ble_eq_true rfl) ⟨Nat.le_of_ble_eq_true rfl, Nat.le_of_ble_eq_true rfl⟩ (Nat.le_of_ble_eq_true rfl) rfl ?_
  refine Cli.mono h (fun r1 m1 h => ?_)
  refine Tj.callSi (as := [_]) (rest := []) dX1_cubesIn_5 ln_X1_41 rfl rfl (Nat.le_of_ble_eq_true rfl) ⟨Nat.le_of_ble_eq_true rfl, Nat.le_of_ble_eq_true rfl⟩ (Nat.le_of_ble_eq_true rfl) rfl ?_
  refine Cli.mono h (fun r2 m2 h => ?_)
  exact Tj.iret dX1_cubesIn_8 rfl h

theorem wX1_cubes_0 {m : tM} {P : Option tV → tM → Prop}   (h : Cll mX1_cells [rV 2] m (fun r1 m1 => (Cli mJ13_bitCount_95d88 [lV r1] m1 (fun r2 m2 => (P (some (iV r2)) m2))))) : Tj mX1_cubes 0 [some (rV 2)] [] m P := by
  refine Tj.aload_n dX1_cubes_0 rfl rfl ?_
  refine Tj.callVl (as := []) (rest := []) dX1_cubes_1 ln_X1_46 sh_2 (by decide) rfl rfl (Nat.le_of_ble_eq_true rfl) ⟨Nat.le_of_ble_eq_true rfl, Nat.le_of_ble_eq_true rfl⟩ (Nat.le_of_ble_eq_true rfl) rfl ?_
  refine Cll.mono h (fun r1 m1 h => ?_)
  refine Tj.callSi (as := [_]) (rest := []) dX1_cubes_4 ln_X1_50 rfl rfl (Nat.le_of_ble_eq_true rfl) ⟨Nat.le_of_ble_eq_true rfl, Nat.le_of_ble_eq_true rfl⟩ (Nat.le_of_ble_eq_true rfl) rfl ?_
  refine Cli.mono h (fun r2 m2 h => ?_)
  exact Tj.iret dX1_cubes_7 rfl h

theorem wX1_layersThere_0 {m : tM} {P : Option tV → tM → Prop}   (h : Tj mX1_layersThere 4 [some (rV 2), some (iV 0), some (iV 0)] [] m P) : Tj mX1_layersThere 0 [some (rV 2)] [] m P := by
  refine Tj.iconst dX1_layersThere_0 (by decide) rfl ?_
  refine Tj.istore_n dX1_layersThere_1 (Nat.le_of_ble_eq_true rfl) rfl rfl ?_
  refine Tj.iconst dX1_layersThere_2 (by decide) rfl ?_
  refine Tj.istore_n dX1_layersThere_3 (Nat.le_of_ble_eq_true rfl) rfl rfl ?_
  exact Tj.cut h ⟨rfl, ⟨rfl, ⟨rfl, trivial⟩⟩⟩

theorem wX1_layersThere_4 {m : tM} {P : Option tV → tM → Prop} {x1 : Int} {x2 : Int}  (h : (x2 < 4 → (Cli mX1_misses [rV 2, iV x2] m (fun r1 m1 => (∀ v1 : Int, v1 = (if r1 = 0 then 1 else 0) → ((R32 (x1 + v1) ∧ R32 (x2 + 1)) ∧ (Tj mX1_layersThere 4 [some (rV 2), some (iV (x1 + v1)), some (iV (x2 + 1))] [] m1 P)))))) ∧ (¬ x2 < 4 → (P (some (iV x1)) m))) : Tj mX1_layersThere 4 [some (rV 2), some (iV x1), some (iV x2)] [] m P := by
  refine Tj.iload_n dX1_layersThere_4 rfl rfl ?_
  refine Tj.iconst dX1_layersThere_5 (by decide) rfl ?_
  refine Tj.icmp_ge dX1_layersThere_6 rfl rfl (fun c1 => ?_) (fun c1 => ?_)
  · have h := h.1 c1
    refine Tj.iload_n dX1_layersThere_9 rfl rfl ?_
    refine Tj.aload_n dX1_layersThere_10 rfl rfl ?_
    refine Tj.iload_n dX1_layersThere_11 rfl rfl ?_
    refine Tj.callVi (as := [_]) (rest := [_]) dX1_layersThere_12 ln_X1_32 sh_2 (by decide) rfl rfl (Nat.le_of_ble_eq_true rfl) ⟨Nat.le_of_ble_eq_true rfl, Nat.le_of_ble_eq_true rfl⟩ (Nat.le_of_ble_eq_true rfl) rfl ?_
    refine Cli.mono h (fun r1 m1 h => ?_)
    have hj : Tj mX1_layersThere 23 [some (rV 2), none, some (iV x2)] [iV (if r1 = 0 then 1 else 0), iV x1] m1 P := by
      generalize hv1 : ((if r1 = 0 then 1 else 0) : Int) = v1
      have h := h v1 hv1.symm
      obtain ⟨⟨o1, o2⟩, h⟩ := h
      refine Tj.iadd dX1_layersThere_23 o1 rfl ?_
      refine Tj.istore_n dX1_layersThere_24 (Nat.le_of_ble_eq_true rfl) rfl rfl ?_
      refine Tj.iinc dX1_layersThere_25 rfl (Nat.le_of_ble_eq_true rfl) rfl o2 rfl ?_
      refine Tj.goto dX1_layersThere_28 rfl ?_
      exact Tj.cut h ⟨rfl, ⟨rfl, ⟨rfl, trivial⟩⟩⟩
    refine Tj.if_eq dX1_layersThere_15 rfl rfl (fun c2 => ?_) (fun c2 => ?_)
    · refine Tj.iconst dX1_layersThere_22 (by decide) rfl ?_
      try simp only [if_pos c2] at hj ⊢
      exact Tj.cut hj ⟨rfl, ⟨rfl, trivial⟩⟩
    · refine Tj.iconst dX1_layersThere_18 (by decide) rfl ?_
      refine Tj.goto dX1_layersThere_19 rfl ?_
      try simp only [if_neg c2] at hj ⊢
      exact Tj.cut hj ⟨rfl, ⟨rfl, trivial⟩⟩
  · have h := h.2 c1
    refine Tj.iload_n dX1_layersThere_31 rfl rfl ?_
    exact Tj.iret dX1_layersThere_32 rfl h

theorem wX1_cells_0 {m : tM} {P : Option tV → tM → Prop}   (h : Tj mX1_cells 4 [some (rV 2), some (lV 0), none, some (iV 0)] [] m P) : Tj mX1_cells 0 [some (rV 2)] [] m P := by
  refine Tj.lconst (v := 0) dX1_cells_0 rfl rfl ?_
  refine Tj.lstore_n dX1_cells_1 (Nat.le_of_ble_eq_true rfl) rfl rfl ?_
  refine Tj.iconst dX1_cells_2 (by decide) rfl ?_
  refine Tj.istore_n dX1_cells_3 (Nat.le_of_ble_eq_true rfl) rfl rfl ?_
  exact Tj.cut h ⟨rfl, ⟨rfl, ⟨rfl, trivial⟩⟩⟩

theorem wX1_cells_4 {m : tM} {P : Option tV → tM → Prop} {x1 : Int64} {x3 : Int}  (h : (x3 < 4 → (Cli mX1_bitsOf [rV 2, iV x3] m (fun r1 m1 => ((R32 (16 * x3) ∧ R32 (x3 + 1)) ∧ (Tj mX1_cells 4 [some (rV 2), some (lV (x1 ||| (bLshl (Int64.ofInt r1) (16 * x3)))), none, some (iV (x3 + 1))] [] m1 P))))) ∧ (¬ x3 < 4 → (P (some (lV x1)) m))) : Tj mX1_cells 4 [some (rV 2), some (lV x1), none, some (iV x3)] [] m P := by
  refine Tj.iload_n dX1_cells_4 rfl rfl ?_
  refine Tj.iconst dX1_cells_5 (by decide) rfl ?_
  refine Tj.icmp_ge dX1_cells_6 rfl rfl (fun c1 => ?_) (fun c1 => ?_)
  · have h := h.1 c1
    refine Tj.lload_n dX1_cells_9 rfl rfl ?_
    refine Tj.aload_n dX1_cells_10 rfl rfl ?_
    refine Tj.iload_n dX1_cells_11 rfl rfl ?_
    refine Tj.callVi (as := [_]) (rest := [_]) dX1_cells_12 ln_X1_37 sh_2 (by decide) rfl rfl (Nat.le_of_ble_eq_true rfl) ⟨Nat.le_of_ble_eq_true rfl, Nat.le_of_ble_eq_true rfl⟩ (Nat.le_of_ble_eq_true rfl) rfl ?_
    refine Cli.mono h (fun r1 m1 h => ?_)
    obtain ⟨⟨o1, o2⟩, h⟩ := h
    refine Tj.i2l dX1_cells_15 rfl ?_
    refine Tj.bipush dX1_cells_16 (by decide) (by decide +kernel) rfl ?_
    refine Tj.iload_n dX1_cells_18 rfl rfl ?_
    refine Tj.imul dX1_cells_19 o1 rfl ?_
    refine Tj.lshl dX1_cells_20 rfl ?_
    refine Tj.lor dX1_cells_21 rfl ?_
    refine Tj.lstore_n dX1_cells_22 (Nat.le_of_ble_eq_true rfl) rfl rfl ?_
    refine Tj.iinc dX1_cells_23 rfl (Nat.le_of_ble_eq_true rfl) rfl o2 rfl ?_
    refine Tj.goto dX1_cells_26 rfl ?_
    exact Tj.cut h ⟨rfl, ⟨rfl, ⟨rfl, trivial⟩⟩⟩
  · have h := h.2 c1
    refine Tj.lload_n dX1_cells_29 rfl rfl ?_
    exact Tj.lret dX1_cells_30 rfl h

theorem wX1_faultOf_0 {m : tM} {P : Option tV → tM → Prop} {x0 : Int64}  (h : ((lcI x0 0) = 0 → (P (some (iV 1)) m)) ∧ (¬ (lcI x0 0) = 0 → (Cli mX1_hangs [lV x0] m (fun r1 m1 => ((r1 = 0 → (P (some (iV 2)) m1)) ∧ (¬ r1 = 0 → (Cli mX1_meetsBySquares [lV x0] m1 (fun r2 m2 => ((r2 = 0 → (P (some (iV 3)) m2)) ∧ (¬ r2 = 0 → (Cll mX1_flood [lV ((x0 ^^^ (-1)) &&& (-7009493581825)), lV (x0 ^^^ (-1))] m2 (fun r3 m3 => (∀ v1 : Int, v1 = (if (lcI r3 (x0 ^^^ (-1))) = 0 then 0 else 4) → (P (some (iV v1)) m3)))))))))))))) : Tj mX1_faultOf 0 [some (lV x0)] [] m P := by
  refine Tj.lload_n dX1_faultOf_0 rfl rfl ?_
  refine Tj.lconst (v := 0) dX1_faultOf_1 rfl rfl ?_
  refine Tj.lcmp dX1_faultOf_2 rfl ?_
  refine Tj.if_ne dX1_faultOf_3 rfl rfl (fun c1 => ?_) (fun c1 => ?_)
  · have h := h.1 c1
    refine Tj.iconst dX1_faultOf_6 (by decide) rfl ?_
    exact Tj.iret dX1_faultOf_7 rfl h
  · have h := h.2 c1
    refine Tj.lload_n dX1_faultOf_8 rfl rfl ?_
    refine Tj.callSi (as := [_]) (rest := []) dX1_faultOf_9 ln_X1_55 rfl rfl (Nat.le_of_ble_eq_true rfl) ⟨Nat.le_of_ble_eq_true rfl, Nat.le_of_ble_eq_true rfl⟩ (Nat.le_of_ble_eq_true rfl) rfl ?_
    refine Cli.mono h (fun r1 m1 h => ?_)
    refine Tj.if_ne dX1_faultOf_12 rfl rfl (fun c2 => ?_) (fun c2 => ?_)
    · have h := h.1 c2
      refine Tj.iconst dX1_faultOf_15 (by decide) rfl ?_
      exact Tj.iret dX1_faultOf_16 rfl h
    · have h := h.2 c2
      refine Tj.lload_n dX1_faultOf_17 rfl rfl ?_
      refine Tj.callSi (as := [_]) (rest := []) dX1_faultOf_18 ln_X1_59 rfl rfl (Nat.le_of_ble_eq_true rfl) ⟨Nat.le_of_ble_eq_true rfl, Nat.le_of_ble_eq_true rfl⟩ (Nat.le_of_ble_eq_true rfl) rfl ?_
      refine Cli.mono h (fun r2 m2 h => ?_)
      refine Tj.if_ne dX1_faultOf_21 rfl rfl (fun c3 => ?_) (fun c3 => ?_)
      · have h := h.1 c3
        refine Tj.iconst dX1_faultOf_24 (by decide) rfl ?_
        exact Tj.iret dX1_faultOf_25 rfl h
      · have h := h.2 c3
        refine Tj.ldc2_w dX1_faultOf_26 cn_X1_62 rfl ?_
        refine Tj.lstore_n dX1_faultOf_29 (Nat.le_of_ble_eq_true rfl) rfl rfl ?_
        refine Tj.lload_n dX1_faultOf_30 rfl rfl ?_
        refine Tj.ldc2_w dX1_faultOf_31 cn_X1_64 rfl ?_
        refine Tj.lxor dX1_faultOf_34 rfl ?_
        refine Tj.lload_n dX1_faultOf_35 rfl rfl ?_
        refine Tj.land dX1_faultOf_36 rfl ?_
        refine Tj.lload_n dX1_faultOf_37 rfl rfl ?_
        refine Tj.ldc2_w dX1_faultOf_38 cn_X1_64 rfl ?_
        refine Tj.lxor dX1_faultOf_41 rfl ?_
        refine Tj.callSl (as := [_, _]) (rest := []) dX1_faultOf_42 ln_X1_66 rfl rfl (Nat.le_of_ble_eq_true rfl) ⟨Nat.le_of_ble_eq_true rfl, Nat.le_of_ble_eq_true rfl⟩ (Nat.le_of_ble_eq_true rfl) rfl ?_
        refine Cll.mono h (fun r3 m3 h => ?_)
        refine Tj.lload_n dX1_faultOf_45 rfl rfl ?_
        refine Tj.ldc2_w dX1_faultOf_46 cn_X1_64 rfl ?_
        refine Tj.lxor dX1_faultOf_49 rfl ?_
        refine Tj.lcmp dX1_faultOf_50 rfl ?_
        have hj : Tj mX1_faultOf 59 [] [iV (if (lcI r3 (x0 ^^^ (-1))) = 0 then 0 else 4)] m3 P := by
          generalize hv1 : ((if (lcI r3 (x0 ^^^ (-1))) = 0 then 0 else 4) : Int) = v1
          have h := h v1 hv1.symm
          exact Tj.iret dX1_faultOf_59 rfl h
        refine Tj.if_ne dX1_faultOf_51 rfl rfl (fun c4 => ?_) (fun c4 => ?_)
        · refine Tj.iconst dX1_faultOf_54 (by decide) rfl ?_
          refine Tj.goto dX1_faultOf_55 rfl ?_
          try simp only [if_pos c4] at hj ⊢
          exact Tj.cut hj trivial
        · refine Tj.iconst dX1_faultOf_58 (by decide) rfl ?_
          try simp only [if_neg c4] at hj ⊢
          exact Tj.cut hj trivial

theorem wX1_meetsBySquares_0 {m : tM} {P : Option tV → tM → Prop} {x0 : Int64}  (h : Tj mX1_meetsBySquares 2 [some (lV x0), none, some (iV 0)] [] m P) : Tj mX1_meetsBySquares 0 [some (lV x0)] [] m P := by
  refine Tj.iconst dX1_meetsBySquares_0 (by decide) rfl ?_
  refine Tj.istore_n dX1_meetsBySquares_1 (Nat.le_of_ble_eq_true rfl) rfl rfl ?_
  exact Tj.cut h ⟨rfl, ⟨rfl, trivial⟩⟩

theorem wX1_meetsBySquares_2 {m : tM} {P : Option tV → tM → Prop} {x0 : Int64} {x2 : Int}  (h : (x2 < 27 → ((0 ≤ x2 ∧ R32 (16 * (x2 / 9)) ∧ 0 ≤ (x2 / 3) ∧ R32 (4 * ((x2 / 3) % 3)) ∧ R32 ((16 * (x2 / 9)) + (4 * ((x2 / 3) % 3))) ∧ R32 (((16 * (x2 / 9)) + (4 * ((x2 / 3) % 3))) + (x2 % 3))) ∧ (Tj mX1_meetsBySquares 41 [some (lV x0), none, some (iV x2), some (iV (((16 * (x2 / 9)) + (4 * ((x2 / 3) % 3))) + (x2 % 3))), some (rV 1000), some (iV 7), some (iV 0)] [] m P))) ∧ (¬ x2 < 27 → (P (some (iV 1)) m))) : Tj mX1_meetsBySquares 2 [some (lV x0), none, some (iV x2)] [] m P := by
  refine Tj.iload_n dX1_meetsBySquares_2 rfl rfl ?_
  refine Tj.bipush dX1_meetsBySquares_3 (by decide) (by decide +kernel) rfl ?_
  refine Tj.icmp_ge dX1_meetsBySquares_5 rfl rfl (fun c1 => ?_) (fun c1 => ?_)
  · have h := h.1 c1
    obtain ⟨⟨o1, o2, o3, o4, o5, o6⟩, h⟩ := h
    refine Tj.bipush dX1_meetsBySquares_8 (by decide) (by decide +kernel) rfl ?_
    refine Tj.iload_n dX1_meetsBySquares_10 rfl rfl ?_
    refine Tj.bipush dX1_meetsBySquares_11 (by decide) (by decide +kernel) rfl ?_
    refine Tj.idiv dX1_meetsBySquares_13 o1 (by decide) rfl ?_
    refine Tj.imul dX1_meetsBySquares_14 o2 rfl ?_
    refine Tj.iconst dX1_meetsBySquares_15 (by decide) rfl ?_
    refine Tj.iload_n dX1_meetsBySquares_16 rfl rfl ?_
    refine Tj.iconst dX1_meetsBySquares_17 (by decide) rfl ?_
    refine Tj.idiv dX1_meetsBySquares_18 o1 (by decide) rfl ?_
    refine Tj.iconst dX1_meetsBySquares_19 (by decide) rfl ?_
    refine Tj.irem dX1_meetsBySquares_20 o3 (by decide) rfl ?_
    refine Tj.imul dX1_meetsBySquares_21 o4 rfl ?_
    refine Tj.iadd dX1_meetsBySquares_22 o5 rfl ?_
    refine Tj.iload_n dX1_meetsBySquares_23 rfl rfl ?_
    refine Tj.iconst dX1_meetsBySquares_24 (by decide) rfl ?_
    refine Tj.irem dX1_meetsBySquares_25 o1 (by decide) rfl ?_
    refine Tj.iadd dX1_meetsBySquares_26 o6 rfl ?_
    refine Tj.istore_n dX1_meetsBySquares_27 (Nat.le_of_ble_eq_true rfl) rfl rfl ?_
    refine Tj.gets dX1_meetsBySquares_28 fs_X1_70 tW_0 rfl ?_
    refine Tj.astore dX1_meetsBySquares_31 (Nat.le_of_ble_eq_true rfl) rfl rfl ?_
    refine Tj.aload dX1_meetsBySquares_33 rfl rfl ?_
    refine Tj.salen (z := 7) dX1_meetsBySquares_35 tW_0 (by decide) rfl rfl ?_
    refine Tj.istore dX1_meetsBySquares_36 (Nat.le_of_ble_eq_true rfl) rfl rfl ?_
    refine Tj.iconst dX1_meetsBySquares_38 (by decide) rfl ?_
    refine Tj.istore dX1_meetsBySquares_39 (Nat.le_of_ble_eq_true rfl) rfl rfl ?_
    exact Tj.cut h ⟨rfl, ⟨rfl, ⟨rfl, ⟨rfl, ⟨rfl, ⟨rfl, trivial⟩⟩⟩⟩⟩⟩
  · have h := h.2 c1
    refine Tj.iconst dX1_meetsBySquares_81 (by decide) rfl ?_
    exact Tj.zret dX1_meetsBySquares_82 rfl (by decide) h

theorem wX1_meetsBySquares_41 {m : tM} {P : Option tV → tM → Prop} {x0 : Int64} {x2 : Int} {x3 : Int} {x5 : Int} {x6 : Int}  (h : (x6 < x5 → ((0 ≤ x6 ∧ x6 < 7) ∧ (Cli mX1_hangs [lV (x0 &&& (bLshl (stL x6) x3))] m (fun r1 m1 => ((r1 = 0 → (P (some (iV 0)) m1)) ∧ (¬ r1 = 0 → ((R32 (x6 + 1)) ∧ (Tj mX1_meetsBySquares 41 [some (lV x0), none, some (iV x2), some (iV x3), some (rV 1000), some (iV x5), some (iV (x6 + 1))] [] m1 P)))))))) ∧ (¬ x6 < x5 → ((R32 (x2 + 1)) ∧ (Tj mX1_meetsBySquares 2 [some (lV x0), none, some (iV (x2 + 1))] [] m P)))) : Tj mX1_meetsBySquares 41 [some (lV x0), none, some (iV x2), some (iV x3), some (rV 1000), some (iV x5), some (iV x6)] [] m P := by
  refine Tj.iload dX1_meetsBySquares_41 rfl rfl ?_
  refine Tj.iload dX1_meetsBySquares_43 rfl rfl ?_
  refine Tj.icmp_ge dX1_meetsBySquares_45 rfl rfl (fun c1 => ?_) (fun c1 => ?_)
  · have h := h.1 c1
    obtain ⟨⟨o1, o2⟩, h⟩ := h
    refine Tj.aload dX1_meetsBySquares_48 rfl rfl ?_
    refine Tj.iload dX1_meetsBySquares_50 rfl rfl ?_
    refine Tj.slald dX1_meetsBySquares_52 o1 o2 rfl ?_
    refine Tj.lstore dX1_meetsBySquares_53 (Nat.le_of_ble_eq_true rfl) rfl rfl ?_
    refine Tj.lload_n dX1_meetsBySquares_55 rfl rfl ?_
    refine Tj.lload dX1_meetsBySquares_56 rfl rfl ?_
    refine Tj.iload_n dX1_meetsBySquares_58 rfl rfl ?_
    refine Tj.lshl dX1_meetsBySquares_59 rfl ?_
    refine Tj.land dX1_meetsBySquares_60 rfl ?_
    refine Tj.callSi (as := [_]) (rest := []) dX1_meetsBySquares_61 ln_X1_55 rfl rfl (Nat.le_of_ble_eq_true rfl) ⟨Nat.le_of_ble_eq_true rfl, Nat.le_of_ble_eq_true rfl⟩ (Nat.le_of_ble_eq_true rfl) rfl ?_
    refine Cli.mono h (fun r1 m1 h => ?_)
    refine Tj.if_ne dX1_meetsBySquares_64 rfl rfl (fun c2 => ?_) (fun c2 => ?_)
    · have h := h.1 c2
      refine Tj.iconst dX1_meetsBySquares_67 (by decide) rfl ?_
      exact Tj.zret dX1_meetsBySquares_68 rfl (by decide) h
    · have h := h.2 c2
      obtain ⟨o3, h⟩ := h
      refine Tj.iinc dX1_meetsBySquares_69 rfl (Nat.le_of_ble_eq_true rfl) rfl o3 rfl ?_
      refine Tj.goto dX1_meetsBySquares_72 rfl ?_
      exact Tj.cut h ⟨rfl, ⟨rfl, ⟨rfl, ⟨rfl, ⟨rfl, ⟨rfl, trivial⟩⟩⟩⟩⟩⟩
  · have h := h.2 c1
    obtain ⟨o4, h⟩ := h
    refine Tj.iinc dX1_meetsBySquares_75 rfl (Nat.le_of_ble_eq_true rfl) rfl o4 rfl ?_
    refine Tj.goto dX1_meetsBySquares_78 rfl ?_
    exact Tj.cut h ⟨rfl, ⟨rfl, trivial⟩⟩

theorem wX1_hangs_0 {m : tM} {P : Option tV → tM → Prop} {x0 : Int64}  (h : Cll mX1_flood [lV (x0 &&& (-x0)), lV x0] m (fun r1 m1 => (∀ v1 : Int, v1 = (if (lcI r1 x0) = 0 then 1 else 0) → (P (some (iV v1)) m1)))) : Tj mX1_hangs 0 [some (lV x0)] [] m P := by
  refine Tj.lload_n dX1_hangs_0 rfl rfl ?_
  refine Tj.lload_n dX1_hangs_1 rfl rfl ?_
  refine Tj.lneg dX1_hangs_2 rfl ?_
  refine Tj.land dX1_hangs_3 rfl ?_
  refine Tj.lload_n dX1_hangs_4 rfl rfl ?_
  refine Tj.callSl (as := [_, _]) (rest := []) dX1_hangs_5 ln_X1_66 rfl rfl (Nat.le_of_ble_eq_true rfl) ⟨Nat.le_of_ble_eq_true rfl, Nat.le_of_ble_eq_true rfl⟩ (Nat.le_of_ble_eq_true rfl) rfl ?_
  refine Cll.mono h (fun r1 m1 h => ?_)
  refine Tj.lload_n dX1_hangs_8 rfl rfl ?_
  refine Tj.lcmp dX1_hangs_9 rfl ?_
  have hj : Tj mX1_hangs 18 [] [iV (if (lcI r1 x0) = 0 then 1 else 0)] m1 P := by
    generalize hv1 : ((if (lcI r1 x0) = 0 then 1 else 0) : Int) = v1
    have h := h v1 hv1.symm
    exact Tj.zret dX1_hangs_18 rfl (by rw [← hv1]; (repeat' split) <;> simp) h
  refine Tj.if_ne dX1_hangs_10 rfl rfl (fun c1 => ?_) (fun c1 => ?_)
  · refine Tj.iconst dX1_hangs_13 (by decide) rfl ?_
    refine Tj.goto dX1_hangs_14 rfl ?_
    try simp only [if_pos c1] at hj ⊢
    exact Tj.cut hj trivial
  · refine Tj.iconst dX1_hangs_17 (by decide) rfl ?_
    try simp only [if_neg c1] at hj ⊢
    exact Tj.cut hj trivial

theorem wX1_flood_0 {m : tM} {P : Option tV → tM → Prop} {x0 : Int64} {x2 : Int64}  (h : Tj mX1_flood 8 [none, none, some (lV x2), none, some (lV (x0 &&& x2)), none, some (iV 0)] [] m P) : Tj mX1_flood 0 [some (lV x0), none, some (lV x2)] [] m P := by
  refine Tj.lload_n dX1_flood_0 rfl rfl ?_
  refine Tj.lload_n dX1_flood_1 rfl rfl ?_
  refine Tj.land dX1_flood_2 rfl ?_
  refine Tj.lstore dX1_flood_3 (Nat.le_of_ble_eq_true rfl) rfl rfl ?_
  refine Tj.iconst dX1_flood_5 (by decide) rfl ?_
  refine Tj.istore dX1_flood_6 (Nat.le_of_ble_eq_true rfl) rfl rfl ?_
  exact Tj.cut h ⟨rfl, ⟨rfl, ⟨rfl, trivial⟩⟩⟩

theorem wX1_flood_8 {m : tM} {P : Option tV → tM → Prop} {x2 : Int64} {x4 : Int64} {x6 : Int}  (h : (x6 < 64 → (∀ v1 : Int, v1 = (lcI ((((x4 ||| ((bLshl (x4 &&& 8608480567731124087) 1) ||| (bLushr (x4 &&& (-1229782938247303442)) 1))) ||| ((bLshl (x4 &&& 1152657617789587455) 4) ||| (bLushr (x4 &&& (-4222189076152336)) 4))) ||| ((bLshl x4 16) ||| (bLushr x4 16))) &&& x2) x4) → ((v1 = 0 → (P (some (lV x4)) m)) ∧ (¬ v1 = 0 → ((R32 (x6 + 1)) ∧ (Tj mX1_flood 8 [none, none, some (lV x2), none, some (lV ((((x4 ||| ((bLshl (x4 &&& 8608480567731124087) 1) ||| (bLushr (x4 &&& (-1229782938247303442)) 1))) ||| ((bLshl (x4 &&& 1152657617789587455) 4) ||| (bLushr (x4 &&& (-4222189076152336)) 4))) ||| ((bLshl x4 16) ||| (bLushr x4 16))) &&& x2)), none, some (iV (x6 + 1))] [] m P)))))) ∧ (¬ x6 < 64 → (P (some (lV x4)) m))) : Tj mX1_flood 8 [none, none, some (lV x2), none, some (lV x4), none, some (iV x6)] [] m P := by
  refine Tj.iload dX1_flood_8 rfl rfl ?_
  refine Tj.bipush dX1_flood_10 (by decide) (by decide +kernel) rfl ?_
  refine Tj.icmp_ge dX1_flood_12 rfl rfl (fun c1 => ?_) (fun c1 => ?_)
  · have h := h.1 c1
    refine Tj.lload dX1_flood_15 rfl rfl ?_
    refine Tj.ldc2_w dX1_flood_17 cn_X1_74 rfl ?_
    refine Tj.land dX1_flood_20 rfl ?_
    refine Tj.iconst dX1_flood_21 (by decide) rfl ?_
    refine Tj.lshl dX1_flood_22 rfl ?_
    refine Tj.lload dX1_flood_23 rfl rfl ?_
    refine Tj.ldc2_w dX1_flood_25 cn_X1_76 rfl ?_
    refine Tj.land dX1_flood_28 rfl ?_
    refine Tj.iconst dX1_flood_29 (by decide) rfl ?_
    refine Tj.lushr dX1_flood_30 rfl ?_
    refine Tj.lor dX1_flood_31 rfl ?_
    refine Tj.lstore dX1_flood_32 (Nat.le_of_ble_eq_true rfl) rfl rfl ?_
    refine Tj.lload dX1_flood_34 rfl rfl ?_
    refine Tj.ldc2_w dX1_flood_36 cn_X1_78 rfl ?_
    refine Tj.land dX1_flood_39 rfl ?_
    refine Tj.iconst dX1_flood_40 (by decide) rfl ?_
    refine Tj.lshl dX1_flood_41 rfl ?_
    refine Tj.lload dX1_flood_42 rfl rfl ?_
    refine Tj.ldc2_w dX1_flood_44 cn_X1_80 rfl ?_
    refine Tj.land dX1_flood_47 rfl ?_
    refine Tj.iconst dX1_flood_48 (by decide) rfl ?_
    refine Tj.lushr dX1_flood_49 rfl ?_
    refine Tj.lor dX1_flood_50 rfl ?_
    refine Tj.lstore dX1_flood_51 (Nat.le_of_ble_eq_true rfl) rfl rfl ?_
    refine Tj.lload dX1_flood_53 rfl rfl ?_
    refine Tj.bipush dX1_flood_55 (by decide) (by decide +kernel) rfl ?_
    refine Tj.lshl dX1_flood_57 rfl ?_
    refine Tj.lload dX1_flood_58 rfl rfl ?_
    refine Tj.bipush dX1_flood_60 (by decide) (by decide +kernel) rfl ?_
    refine Tj.lushr dX1_flood_62 rfl ?_
    refine Tj.lor dX1_flood_63 rfl ?_
    refine Tj.lstore dX1_flood_64 (Nat.le_of_ble_eq_true rfl) rfl rfl ?_
    refine Tj.lload dX1_flood_66 rfl rfl ?_
    refine Tj.lload dX1_flood_68 rfl rfl ?_
    refine Tj.lor dX1_flood_70 rfl ?_
    refine Tj.lload dX1_flood_71 rfl rfl ?_
    refine Tj.lor dX1_flood_73 rfl ?_
    refine Tj.lload dX1_flood_74 rfl rfl ?_
    refine Tj.lor dX1_flood_76 rfl ?_
    refine Tj.lload_n dX1_flood_77 rfl rfl ?_
    refine Tj.land dX1_flood_78 rfl ?_
    refine Tj.lstore dX1_flood_79 (Nat.le_of_ble_eq_true rfl) rfl rfl ?_
    refine Tj.lload dX1_flood_81 rfl rfl ?_
    refine Tj.lload dX1_flood_83 rfl rfl ?_
    refine Tj.lcmp dX1_flood_85 rfl ?_
    show Tj mX1_flood 86 [none, none, some (lV x2), none, some (lV x4), none, some (iV x6), some (lV ((bLshl (x4 &&& 8608480567731124087) 1) ||| (bLushr (x4 &&& (-1229782938247303442)) 1))), none, some (lV ((bLshl (x4 &&& 1152657617789587455) 4) ||| (bLushr (x4 &&& (-4222189076152336)) 4))), none, some (lV ((bLshl x4 16) ||| (bLushr x4 16))), none, some (lV ((((x4 ||| ((bLshl (x4 &&& 8608480567731124087) 1) ||| (bLushr (x4 &&& (-1229782938247303442)) 1))) ||| ((bLshl (x4 &&& 1152657617789587455) 4) ||| (bLushr (x4 &&& (-4222189076152336)) 4))) ||| ((bLshl x4 16) ||| (bLushr x4 16))) &&& x2))] [iV (lcI ((((x4 ||| ((bLshl (x4 &&& 8608480567731124087) 1) ||| (bLushr (x4 &&& (-1229782938247303442)) 1))) ||| ((bLshl (x4 &&& 1152657617789587455) 4) ||| (bLushr (x4 &&& (-4222189076152336)) 4))) ||| ((bLshl x4 16) ||| (bLushr x4 16))) &&& x2) x4)] m P
    generalize hv1 : ((lcI ((((x4 ||| ((bLshl (x4 &&& 8608480567731124087) 1) ||| (bLushr (x4 &&& (-1229782938247303442)) 1))) ||| ((bLshl (x4 &&& 1152657617789587455) 4) ||| (bLushr (x4 &&& (-4222189076152336)) 4))) ||| ((bLshl x4 16) ||| (bLushr x4 16))) &&& x2) x4) : Int) = v1
    have h := h v1 hv1.symm
    refine Tj.if_ne dX1_flood_86 rfl rfl (fun c2 => ?_) (fun c2 => ?_)
    · have h := h.1 c2
      refine Tj.goto dX1_flood_89 rfl ?_
      refine Tj.lload dX1_flood_102 rfl rfl ?_
      exact Tj.lret dX1_flood_104 rfl h
    · have h := h.2 c2
      obtain ⟨o1, h⟩ := h
      refine Tj.lload dX1_flood_92 rfl rfl ?_
      refine Tj.lstore dX1_flood_94 (Nat.le_of_ble_eq_true rfl) rfl rfl ?_
      refine Tj.iinc dX1_flood_96 rfl (Nat.le_of_ble_eq_true rfl) rfl o1 rfl ?_
      refine Tj.goto dX1_flood_99 rfl ?_
      exact Tj.cut h ⟨rfl, ⟨rfl, ⟨rfl, trivial⟩⟩⟩
  · have h := h.2 c1
    refine Tj.lload dX1_flood_102 rfl rfl ?_
    exact Tj.lret dX1_flood_104 rfl h

theorem wX2_become_0 {m : tM} {P : Option tV → tM → Prop} {a : Nat} {b : Nat} (s_a0 : shp a = some (2, 0)) (s_a1 : shp (a + 1) = some (20, 240)) (s_b0 : shp b = some (2, 0)) (s_b1 : shp (b + 1) = some (20, 240)) (h : ∀ m1 : tM, m1 = (sr m (a + 1) (cpr (m (b + 1)) (m (a + 1)) 0 0 240)) → (P none m1)) : Tj mX2_become 0 [some (rV a), some (rV b)] [] m P := by
  refine Tj.aload_n dX2_become_0 rfl rfl ?_
  refine Tj.getR (b := (b + 1)) dX2_become_1 fl_X2_9 s_b0 rfl rfl ?_
  refine Tj.iconst dX2_become_4 (by decide) rfl ?_
  refine Tj.aload_n dX2_become_5 rfl rfl ?_
  refine Tj.getR (b := (a + 1)) dX2_become_6 fl_X2_9 s_a0 rfl rfl ?_
  refine Tj.iconst dX2_become_9 (by decide) rfl ?_
  refine Tj.sipush dX2_become_10 (by decide) (by decide +kernel) rfl ?_
  refine Tj.copy dX2_become_13 ac_X2_15 ac_ok s_b1 s_a1 (by decide) (by decide) (by decide) (by decide) (by decide) ⟨Nat.le_of_ble_eq_true rfl, Nat.le_of_ble_eq_true rfl⟩ rfl ?_
  show Tj mX2_become 16 [some (rV a), some (rV b)] [] (sr m (a + 1) (cpr (m (b + 1)) (m (a + 1)) 0 0 240)) P
  generalize hm1 : (sr m (a + 1) (cpr (m (b + 1)) (m (a + 1)) 0 0 240)) = m1
  have h := h m1 hm1.symm
  exact Tj.vret dX2_become_16 rfl h

theorem wX2_mend_0 {m : tM} {P : Option tV → tM → Prop}   (h : Clv mJ7_fill_53178 [rV 5, iV 0] m (fun m1 => (P none m1))) : Tj mX2_mend 0 [some (rV 4)] [] m P := by
  refine Tj.aload_n dX2_mend_0 rfl rfl ?_
  refine Tj.getR (b := 5) dX2_mend_1 fl_X2_9 sh_4 rfl rfl ?_
  refine Tj.iconst dX2_mend_4 (by decide) rfl ?_
  refine Tj.callSv (as := [_, _]) (rest := []) dX2_mend_5 ln_X2_21 rfl rfl (Nat.le_of_ble_eq_true rfl) ⟨Nat.le_of_ble_eq_true rfl, Nat.le_of_ble_eq_true rfl⟩ (Nat.le_of_ble_eq_true rfl) rfl ?_
  refine Clv.mono h (fun m1 h => ?_)
  exact Tj.vret dX2_mend_8 rfl h

theorem wX2_isCut_0 {m : tM} {P : Option tV → tM → Prop} {x1 : Int} {x2 : Int}  (h : (0 ≤ x1 ∧ x1 < 240) ∧ (∀ v1 : Int, v1 = (if (bAnd (bShr (m 5 x1) x2) 1) = 1 then 1 else 0) → (P (some (iV v1)) m))) : Tj mX2_isCut 0 [some (rV 4), some (iV x1), some (iV x2)] [] m P := by
  obtain ⟨⟨o1, o2⟩, h⟩ := h
  refine Tj.aload_n dX2_isCut_0 rfl rfl ?_
  refine Tj.getR (b := 5) dX2_isCut_1 fl_X2_9 sh_4 rfl rfl ?_
  refine Tj.iload_n dX2_isCut_4 rfl rfl ?_
  refine Tj.iald dX2_isCut_5 sh_5 o1 o2 rfl ?_
  refine Tj.iload_n dX2_isCut_6 rfl rfl ?_
  refine Tj.ishr dX2_isCut_7 rfl ?_
  refine Tj.iconst dX2_isCut_8 (by decide) rfl ?_
  refine Tj.iand dX2_isCut_9 rfl ?_
  refine Tj.iconst dX2_isCut_10 (by decide) rfl ?_
  have hj : Tj mX2_isCut 19 [] [iV (if (bAnd (bShr (m 5 x1) x2) 1) = 1 then 1 else 0)] m P := by
    generalize hv1 : ((if (bAnd (bShr (m 5 x1) x2) 1) = 1 then 1 else 0) : Int) = v1
    have h := h v1 hv1.symm
    exact Tj.zret dX2_isCut_19 rfl (by rw [← hv1]; (repeat' split) <;> simp) h
  refine Tj.icmp_ne dX2_isCut_11 rfl rfl (fun c1 => ?_) (fun c1 => ?_)
  · refine Tj.iconst dX2_isCut_14 (by decide) rfl ?_
    refine Tj.goto dX2_isCut_15 rfl ?_
    try simp only [if_pos c1] at hj ⊢
    exact Tj.cut hj trivial
  · refine Tj.iconst dX2_isCut_18 (by decide) rfl ?_
    try simp only [if_neg c1] at hj ⊢
    exact Tj.cut hj trivial

theorem wX2_mark_0 {m : tM} {P : Option tV → tM → Prop} {x1 : Int} {x2 : Int} {x3 : Int}  (h : (x3 = 0 → ((0 ≤ x1 ∧ x1 < 240) ∧ (P none (up m 5 x1 (bAnd (m 5 x1) (bXor (bShl 1 x2) (-1))))))) ∧ (¬ x3 = 0 → ((0 ≤ x1 ∧ x1 < 240) ∧ (P none (up m 5 x1 (bOr (m 5 x1) (bShl 1 x2))))))) : Tj mX2_mark 0 [some (rV 4), some (iV x1), some (iV x2), some (iV x3)] [] m P := by
  refine Tj.iconst dX2_mark_0 (by decide) rfl ?_
  refine Tj.iload_n dX2_mark_1 rfl rfl ?_
  refine Tj.ishl dX2_mark_2 rfl ?_
  refine Tj.istore dX2_mark_3 (Nat.le_of_ble_eq_true rfl) rfl rfl ?_
  refine Tj.aload_n dX2_mark_5 rfl rfl ?_
  refine Tj.getR (b := 5) dX2_mark_6 fl_X2_9 sh_4 rfl rfl ?_
  refine Tj.iload_n dX2_mark_9 rfl rfl ?_
  refine Tj.iload_n dX2_mark_10 rfl rfl ?_
  refine Tj.if_eq dX2_mark_11 rfl rfl (fun c1 => ?_) (fun c1 => ?_)
  · have h := h.1 c1
    obtain ⟨⟨o1, o2⟩, h⟩ := h
    refine Tj.aload_n dX2_mark_26 rfl rfl ?_
    refine Tj.getR (b := 5) dX2_mark_27 fl_X2_9 sh_4 rfl rfl ?_
    refine Tj.iload_n dX2_mark_30 rfl rfl ?_
    refine Tj.iald dX2_mark_31 sh_5 o1 o2 rfl ?_
    refine Tj.iload dX2_mark_32 rfl rfl ?_
    refine Tj.iconst dX2_mark_34 (by decide) rfl ?_
    refine Tj.ixor dX2_mark_35 rfl ?_
    refine Tj.iand dX2_mark_36 rfl ?_
    refine Tj.iast dX2_mark_37 sh_5 o1 o2 rfl ?_
    exact Tj.vret dX2_mark_38 rfl h
  · have h := h.2 c1
    obtain ⟨⟨o3, o4⟩, h⟩ := h
    refine Tj.aload_n dX2_mark_14 rfl rfl ?_
    refine Tj.getR (b := 5) dX2_mark_15 fl_X2_9 sh_4 rfl rfl ?_
    refine Tj.iload_n dX2_mark_18 rfl rfl ?_
    refine Tj.iald dX2_mark_19 sh_5 o3 o4 rfl ?_
    refine Tj.iload dX2_mark_20 rfl rfl ?_
    refine Tj.ior dX2_mark_22 rfl ?_
    refine Tj.goto dX2_mark_23 rfl ?_
    refine Tj.iast dX2_mark_37 sh_5 o3 o4 rfl ?_
    exact Tj.vret dX2_mark_38 rfl h

theorem wX2_marks_0 {m : tM} {P : Option tV → tM → Prop}   (h : Tj mX2_marks 4 [some (rV 4), some (iV 0), some (iV 0)] [] m P) : Tj mX2_marks 0 [some (rV 4)] [] m P := by
  refine Tj.iconst dX2_marks_0 (by decide) rfl ?_
  refine Tj.istore_n dX2_marks_1 (Nat.le_of_ble_eq_true rfl) rfl rfl ?_
  refine Tj.iconst dX2_marks_2 (by decide) rfl ?_
  refine Tj.istore_n dX2_marks_3 (Nat.le_of_ble_eq_true rfl) rfl rfl ?_
  exact Tj.cut h ⟨rfl, ⟨rfl, ⟨rfl, trivial⟩⟩⟩

theorem wX2_marks_4 {m : tM} {P : Option tV → tM → Prop} {x1 : Int} {x2 : Int}  (h : (x2 < 240 → ((0 ≤ x2 ∧ x2 < 240) ∧ (Cli mJ6_bitCount_0f7a4 [iV (m 5 x2)] m (fun r1 m1 => ((R32 (x1 + r1) ∧ R32 (x2 + 1)) ∧ (Tj mX2_marks 4 [some (rV 4), some (iV (x1 + r1)), some (iV (x2 + 1))] [] m1 P)))))) ∧ (¬ x2 < 240 → (P (some (iV x1)) m))) : Tj mX2_marks 4 [some (rV 4), some (iV x1), some (iV x2)] [] m P := by
  refine Tj.iload_n dX2_marks_4 rfl rfl ?_
  refine Tj.sipush dX2_marks_5 (by decide) (by decide +kernel) rfl ?_
  refine Tj.icmp_ge dX2_marks_8 rfl rfl (fun c1 => ?_) (fun c1 => ?_)
  · have h := h.1 c1
    obtain ⟨⟨o1, o2⟩, h⟩ := h
    refine Tj.iload_n dX2_marks_11 rfl rfl ?_
    refine Tj.aload_n dX2_marks_12 rfl rfl ?_
    refine Tj.getR (b := 5) dX2_marks_13 fl_X2_9 sh_4 rfl rfl ?_
    refine Tj.iload_n dX2_marks_16 rfl rfl ?_
    refine Tj.iald dX2_marks_17 sh_5 o1 o2 rfl ?_
    refine Tj.callSi (as := [_]) (rest := [_]) dX2_marks_18 ln_X2_27 rfl rfl (Nat.le_of_ble_eq_true rfl) ⟨Nat.le_of_ble_eq_true rfl, Nat.le_of_ble_eq_true rfl⟩ (Nat.le_of_ble_eq_true rfl) rfl ?_
    refine Cli.mono h (fun r1 m1 h => ?_)
    obtain ⟨⟨o3, o4⟩, h⟩ := h
    refine Tj.iadd dX2_marks_21 o3 rfl ?_
    refine Tj.istore_n dX2_marks_22 (Nat.le_of_ble_eq_true rfl) rfl rfl ?_
    refine Tj.iinc dX2_marks_23 rfl (Nat.le_of_ble_eq_true rfl) rfl o4 rfl ?_
    refine Tj.goto dX2_marks_26 rfl ?_
    exact Tj.cut h ⟨rfl, ⟨rfl, ⟨rfl, trivial⟩⟩⟩
  · have h := h.2 c1
    refine Tj.iload_n dX2_marks_29 rfl rfl ?_
    exact Tj.iret dX2_marks_30 rfl h
