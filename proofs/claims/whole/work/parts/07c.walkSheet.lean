theorem wX8_stepX_0 {m : tM} {P : Option tV → tM → Prop} {x0 : Int}  (h : (0 ≤ (bAnd x0 3) ∧ (bAnd x0 3) < 4) ∧ (P (some (iV (stI 1002 (bAnd x0 3)))) m)) : Tj mX8_stepX 0 [some (iV x0)] [] m P := by
  obtain ⟨⟨o1, o2⟩, h⟩ := h
  refine Tj.gets dX8_stepX_0 fs_X8_23 tW_2 rfl ?_
  refine Tj.iload_n dX8_stepX_3 rfl rfl ?_
  refine Tj.iconst dX8_stepX_4 (by decide) rfl ?_
  refine Tj.iand dX8_stepX_5 rfl ?_
  refine Tj.sald dX8_stepX_6 tW_2 o1 o2 rfl ?_
  exact Tj.iret dX8_stepX_7 rfl h

theorem wX8_stepY_0 {m : tM} {P : Option tV → tM → Prop} {x0 : Int}  (h : (0 ≤ (bAnd x0 3) ∧ (bAnd x0 3) < 4) ∧ (P (some (iV (stI 1003 (bAnd x0 3)))) m)) : Tj mX8_stepY 0 [some (iV x0)] [] m P := by
  obtain ⟨⟨o1, o2⟩, h⟩ := h
  refine Tj.gets dX8_stepY_0 fs_X8_26 tW_3 rfl ?_
  refine Tj.iload_n dX8_stepY_3 rfl rfl ?_
  refine Tj.iconst dX8_stepY_4 (by decide) rfl ?_
  refine Tj.iand dX8_stepY_5 rfl ?_
  refine Tj.sald dX8_stepY_6 tW_3 o1 o2 rfl ?_
  exact Tj.iret dX8_stepY_7 rfl h

theorem wX8_mirrored_0 {m : tM} {P : Option tV → tM → Prop} {x0 : Int}  (h : (R32 (2 - x0)) ∧ (P (some (iV (bAnd (2 - x0) 3))) m)) : Tj mX8_mirrored 0 [some (iV x0)] [] m P := by
  obtain ⟨o1, h⟩ := h
  refine Tj.iconst dX8_mirrored_0 (by decide) rfl ?_
  refine Tj.iload_n dX8_mirrored_1 rfl rfl ?_
  refine Tj.isub dX8_mirrored_2 o1 rfl ?_
  refine Tj.iconst dX8_mirrored_3 (by decide) rfl ?_
  refine Tj.iand dX8_mirrored_4 rfl ?_
  exact Tj.iret dX8_mirrored_5 rfl h

theorem wX8_size_0 {m : tM} {P : Option tV → tM → Prop} {a : Nat} (s_a0 : shp a = some (8, 0)) (h : P (some (iV (m a 3))) m) : Tj mX8_size 0 [some (rV a)] [] m P := by
  refine Tj.aload_n dX8_size_0 rfl rfl ?_
  refine Tj.gI (j := 3) dX8_size_1 fl_X8_19 s_a0 rfl rfl ?_
  exact Tj.iret dX8_size_4 rfl h

theorem wX8_xOf_0 {m : tM} {P : Option tV → tM → Prop} {a : Nat} {x1 : Int} (s_a0 : shp a = some (8, 0)) (s_a1 : shp (a + 1) = some (20, 60)) (h : (0 ≤ x1 ∧ x1 < 60) ∧ (P (some (iV (m (a + 1) x1))) m)) : Tj mX8_xOf 0 [some (rV a), some (iV x1)] [] m P := by
  obtain ⟨⟨o1, o2⟩, h⟩ := h
  refine Tj.aload_n dX8_xOf_0 rfl rfl ?_
  refine Tj.getR (b := (a + 1)) dX8_xOf_1 fl_X8_9 s_a0 rfl rfl ?_
  refine Tj.iload_n dX8_xOf_4 rfl rfl ?_
  refine Tj.iald dX8_xOf_5 s_a1 o1 o2 rfl ?_
  exact Tj.iret dX8_xOf_6 rfl h

theorem wX8_yOf_0 {m : tM} {P : Option tV → tM → Prop} {a : Nat} {x1 : Int} (s_a0 : shp a = some (8, 0)) (s_a2 : shp (a + 2) = some (20, 60)) (h : (0 ≤ x1 ∧ x1 < 60) ∧ (P (some (iV (m (a + 2) x1))) m)) : Tj mX8_yOf 0 [some (rV a), some (iV x1)] [] m P := by
  obtain ⟨⟨o1, o2⟩, h⟩ := h
  refine Tj.aload_n dX8_yOf_0 rfl rfl ?_
  refine Tj.getR (b := (a + 2)) dX8_yOf_1 fl_X8_13 s_a0 rfl rfl ?_
  refine Tj.iload_n dX8_yOf_4 rfl rfl ?_
  refine Tj.iald dX8_yOf_5 s_a2 o1 o2 rfl ?_
  exact Tj.iret dX8_yOf_6 rfl h

theorem wX8_creaseAt_0 {m : tM} {P : Option tV → tM → Prop} {a : Nat} {x1 : Int} {x2 : Int} (s_a0 : shp a = some (8, 0)) (s_a3 : shp (a + 3) = some (20, 240)) (h : (R32 (4 * x1) ∧ R32 ((4 * x1) + x2) ∧ 0 ≤ ((4 * x1) + x2) ∧ ((4 * x1) + x2) < 240) ∧ (P (some (iV (m (a + 3) ((4 * x1) + x2)))) m)) : Tj mX8_creaseAt 0 [some (rV a), some (iV x1), some (iV x2)] [] m P := by
  obtain ⟨⟨o1, o2, o3, o4⟩, h⟩ := h
  refine Tj.aload_n dX8_creaseAt_0 rfl rfl ?_
  refine Tj.getR (b := (a + 3)) dX8_creaseAt_1 fl_X8_16 s_a0 rfl rfl ?_
  refine Tj.iconst dX8_creaseAt_4 (by decide) rfl ?_
  refine Tj.iload_n dX8_creaseAt_5 rfl rfl ?_
  refine Tj.imul dX8_creaseAt_6 o1 rfl ?_
  refine Tj.iload_n dX8_creaseAt_7 rfl rfl ?_
  refine Tj.iadd dX8_creaseAt_8 o2 rfl ?_
  refine Tj.iald dX8_creaseAt_9 s_a3 o3 o4 rfl ?_
  exact Tj.iret dX8_creaseAt_10 rfl h

theorem wX8_creasesOf_0 {m : tM} {P : Option tV → tM → Prop} {a : Nat} {x1 : Int}  (h : Tj mX8_creasesOf 4 [some (rV a), some (iV x1), some (iV 0), some (iV 0)] [] m P) : Tj mX8_creasesOf 0 [some (rV a), some (iV x1)] [] m P := by
  refine Tj.iconst dX8_creasesOf_0 (by decide) rfl ?_
  refine Tj.istore_n dX8_creasesOf_1 (Nat.le_of_ble_eq_true rfl) rfl rfl ?_
  refine Tj.iconst dX8_creasesOf_2 (by decide) rfl ?_
  refine Tj.istore_n dX8_creasesOf_3 (Nat.le_of_ble_eq_true rfl) rfl rfl ?_
  exact Tj.cut h ⟨rfl, ⟨rfl, ⟨rfl, ⟨rfl, trivial⟩⟩⟩⟩

theorem wX8_creasesOf_4 {m : tM} {P : Option tV → tM → Prop} {a : Nat} {x1 : Int} {x2 : Int} {x3 : Int} (s_a0 : shp a = some (8, 0)) (h : (x3 < 4 → (Cli mX8_creaseAt [rV a, iV x1, iV x3] m (fun r1 m1 => (∀ v1 : Int, v1 = (if r1 = 0 then 0 else 1) → ((R32 (x2 + v1) ∧ R32 (x3 + 1)) ∧ (Tj mX8_creasesOf 4 [some (rV a), some (iV x1), some (iV (x2 + v1)), some (iV (x3 + 1))] [] m1 P)))))) ∧ (¬ x3 < 4 → (P (some (iV x2)) m))) : Tj mX8_creasesOf 4 [some (rV a), some (iV x1), some (iV x2), some (iV x3)] [] m P := by
  refine Tj.iload_n dX8_creasesOf_4 rfl rfl ?_
  refine Tj.iconst dX8_creasesOf_5 (by decide) rfl ?_
  refine Tj.icmp_ge dX8_creasesOf_6 rfl rfl (fun c1 => ?_) (fun c1 => ?_)
  · have h := h.1 c1
    refine Tj.iload_n dX8_creasesOf_9 rfl rfl ?_
    refine Tj.aload_n dX8_creasesOf_10 rfl rfl ?_
    refine Tj.iload_n dX8_creasesOf_11 rfl rfl ?_
    refine Tj.iload_n dX8_creasesOf_12 rfl rfl ?_
    refine Tj.callVi (as := [_, _]) (rest := [_]) dX8_creasesOf_13 ln_X8_29 s_a0 (by decide) rfl rfl (Nat.le_of_ble_eq_true rfl) ⟨Nat.le_of_ble_eq_true rfl, Nat.le_of_ble_eq_true rfl⟩ (Nat.le_of_ble_eq_true rfl) rfl ?_
    refine Cli.mono h (fun r1 m1 h => ?_)
    have hj : Tj mX8_creasesOf 24 [some (rV a), some (iV x1), none, some (iV x3)] [iV (if r1 = 0 then 0 else 1), iV x2] m1 P := by
      generalize hv1 : ((if r1 = 0 then 0 else 1) : Int) = v1
      have h := h v1 hv1.symm
      obtain ⟨⟨o1, o2⟩, h⟩ := h
      refine Tj.iadd dX8_creasesOf_24 o1 rfl ?_
      refine Tj.istore_n dX8_creasesOf_25 (Nat.le_of_ble_eq_true rfl) rfl rfl ?_
      refine Tj.iinc dX8_creasesOf_26 rfl (Nat.le_of_ble_eq_true rfl) rfl o2 rfl ?_
      refine Tj.goto dX8_creasesOf_29 rfl ?_
      exact Tj.cut h ⟨rfl, ⟨rfl, ⟨rfl, ⟨rfl, trivial⟩⟩⟩⟩
    refine Tj.if_ne dX8_creasesOf_16 rfl rfl (fun c2 => ?_) (fun c2 => ?_)
    · refine Tj.iconst dX8_creasesOf_19 (by decide) rfl ?_
      refine Tj.goto dX8_creasesOf_20 rfl ?_
      try simp only [if_pos c2] at hj ⊢
      exact Tj.cut hj ⟨rfl, ⟨rfl, ⟨rfl, trivial⟩⟩⟩
    · refine Tj.iconst dX8_creasesOf_23 (by decide) rfl ?_
      try simp only [if_neg c2] at hj ⊢
      exact Tj.cut hj ⟨rfl, ⟨rfl, ⟨rfl, trivial⟩⟩⟩
  · have h := h.2 c1
    refine Tj.iload_n dX8_creasesOf_32 rfl rfl ?_
    exact Tj.iret dX8_creasesOf_33 rfl h

theorem wX8_creaseCount_0 {m : tM} {P : Option tV → tM → Prop} {a : Nat}  (h : Tj mX8_creaseCount 4 [some (rV a), some (iV 0), some (iV 0)] [] m P) : Tj mX8_creaseCount 0 [some (rV a)] [] m P := by
  refine Tj.iconst dX8_creaseCount_0 (by decide) rfl ?_
  refine Tj.istore_n dX8_creaseCount_1 (Nat.le_of_ble_eq_true rfl) rfl rfl ?_
  refine Tj.iconst dX8_creaseCount_2 (by decide) rfl ?_
  refine Tj.istore_n dX8_creaseCount_3 (Nat.le_of_ble_eq_true rfl) rfl rfl ?_
  exact Tj.cut h ⟨rfl, ⟨rfl, ⟨rfl, trivial⟩⟩⟩

theorem wX8_creaseCount_4 {m : tM} {P : Option tV → tM → Prop} {a : Nat} {x1 : Int} {x2 : Int} (s_a0 : shp a = some (8, 0)) (h : (x2 < (m a 3) → (Cli mX8_creasesOf [rV a, iV x2] m (fun r1 m1 => ((R32 (x1 + r1) ∧ R32 (x2 + 1)) ∧ (Tj mX8_creaseCount 4 [some (rV a), some (iV (x1 + r1)), some (iV (x2 + 1))] [] m1 P))))) ∧ (¬ x2 < (m a 3) → ((0 ≤ x1) ∧ (P (some (iV (x1 / 2))) m)))) : Tj mX8_creaseCount 4 [some (rV a), some (iV x1), some (iV x2)] [] m P := by
  refine Tj.iload_n dX8_creaseCount_4 rfl rfl ?_
  refine Tj.aload_n dX8_creaseCount_5 rfl rfl ?_
  refine Tj.gI (j := 3) dX8_creaseCount_6 fl_X8_19 s_a0 rfl rfl ?_
  refine Tj.icmp_ge dX8_creaseCount_9 rfl rfl (fun c1 => ?_) (fun c1 => ?_)
  · have h := h.1 c1
    refine Tj.iload_n dX8_creaseCount_12 rfl rfl ?_
    refine Tj.aload_n dX8_creaseCount_13 rfl rfl ?_
    refine Tj.iload_n dX8_creaseCount_14 rfl rfl ?_
    refine Tj.callVi (as := [_]) (rest := [_]) dX8_creaseCount_15 ln_X8_33 s_a0 (by decide) rfl rfl (Nat.le_of_ble_eq_true rfl) ⟨Nat.le_of_ble_eq_true rfl, Nat.le_of_ble_eq_true rfl⟩ (Nat.le_of_ble_eq_true rfl) rfl ?_
    refine Cli.mono h (fun r1 m1 h => ?_)
    obtain ⟨⟨o1, o2⟩, h⟩ := h
    refine Tj.iadd dX8_creaseCount_18 o1 rfl ?_
    refine Tj.istore_n dX8_creaseCount_19 (Nat.le_of_ble_eq_true rfl) rfl rfl ?_
    refine Tj.iinc dX8_creaseCount_20 rfl (Nat.le_of_ble_eq_true rfl) rfl o2 rfl ?_
    refine Tj.goto dX8_creaseCount_23 rfl ?_
    exact Tj.cut h ⟨rfl, ⟨rfl, ⟨rfl, trivial⟩⟩⟩
  · have h := h.2 c1
    obtain ⟨o3, h⟩ := h
    refine Tj.iload_n dX8_creaseCount_26 rfl rfl ?_
    refine Tj.iconst dX8_creaseCount_27 (by decide) rfl ?_
    refine Tj.idiv dX8_creaseCount_28 o3 (by decide) rfl ?_
    exact Tj.iret dX8_creaseCount_29 rfl h

theorem wX8_drop_0 {m : tM} {P : Option tV → tM → Prop} {a : Nat} (s_a0 : shp a = some (8, 0)) (h : P none (up m a 3 0)) : Tj mX8_drop 0 [some (rV a)] [] m P := by
  refine Tj.aload_n dX8_drop_0 rfl rfl ?_
  refine Tj.iconst dX8_drop_1 (by decide) rfl ?_
  refine Tj.pI (j := 3) dX8_drop_2 fp_X8_19 s_a0 rfl rfl ?_
  exact Tj.vret dX8_drop_5 rfl h

theorem wX8_become_0 {m : tM} {P : Option tV → tM → Prop} {a : Nat} {b : Nat} (s_a0 : shp a = some (8, 0)) (s_a1 : shp (a + 1) = some (20, 60)) (s_a2 : shp (a + 2) = some (20, 60)) (s_a3 : shp (a + 3) = some (20, 240)) (s_b0 : shp b = some (8, 0)) (s_b1 : shp (b + 1) = some (20, 60)) (s_b2 : shp (b + 2) = some (20, 60)) (s_b3 : shp (b + 3) = some (20, 240)) (h : (0 ≤ ((up m a 3 (m b 3)) a 3) ∧ 0 + ((up m a 3 (m b 3)) a 3) ≤ 60) ∧ (∀ m1 : tM, m1 = (sr (up m a 3 (m b 3)) (a + 1) (cpr ((up m a 3 (m b 3)) (b + 1)) ((up m a 3 (m b 3)) (a + 1)) 0 0 ((up m a 3 (m b 3)) a 3))) → ((0 ≤ (m1 a 3) ∧ 0 + (m1 a 3) ≤ 60) ∧ (∀ m2 : tM, m2 = (sr m1 (a + 2) (cpr (m1 (b + 2)) (m1 (a + 2)) 0 0 (m1 a 3))) → ((R32 (4 * (m2 a 3)) ∧ 0 ≤ (4 * (m2 a 3)) ∧ 0 + (4 * (m2 a 3)) ≤ 240) ∧ (∀ m3 : tM, m3 = (sr m2 (a + 3) (cpr (m2 (b + 3)) (m2 (a + 3)) 0 0 (4 * (m2 a 3)))) → (P none m3))))))) : Tj mX8_become 0 [some (rV a), some (rV b)] [] m P := by
  obtain ⟨⟨o1, o2⟩, h⟩ := h
  refine Tj.aload_n dX8_become_0 rfl rfl ?_
  refine Tj.aload_n dX8_become_1 rfl rfl ?_
  refine Tj.gI (j := 3) dX8_become_2 fl_X8_19 s_b0 rfl rfl ?_
  refine Tj.pI (j := 3) dX8_become_5 fp_X8_19 s_a0 rfl rfl ?_
  refine Tj.aload_n dX8_become_8 rfl rfl ?_
  refine Tj.getR (b := (b + 1)) dX8_become_9 fl_X8_9 s_b0 rfl rfl ?_
  refine Tj.iconst dX8_become_12 (by decide) rfl ?_
  refine Tj.aload_n dX8_become_13 rfl rfl ?_
  refine Tj.getR (b := (a + 1)) dX8_become_14 fl_X8_9 s_a0 rfl rfl ?_
  refine Tj.iconst dX8_become_17 (by decide) rfl ?_
  refine Tj.aload_n dX8_become_18 rfl rfl ?_
  refine Tj.gI (j := 3) dX8_become_19 fl_X8_19 s_a0 rfl rfl ?_
  refine Tj.copy dX8_become_22 ac_X8_37 ac_ok s_b1 s_a1 (by decide) (by decide) o1 o2 o2 ⟨Nat.le_of_ble_eq_true rfl, Nat.le_of_ble_eq_true rfl⟩ rfl ?_
  show Tj mX8_become 25 [some (rV a), some (rV b)] [] (sr (up m a 3 (m b 3)) (a + 1) (cpr ((up m a 3 (m b 3)) (b + 1)) ((up m a 3 (m b 3)) (a + 1)) 0 0 ((up m a 3 (m b 3)) a 3))) P
  generalize hm1 : (sr (up m a 3 (m b 3)) (a + 1) (cpr ((up m a 3 (m b 3)) (b + 1)) ((up m a 3 (m b 3)) (a + 1)) 0 0 ((up m a 3 (m b 3)) a 3))) = m1
  have h := h m1 hm1.symm
  obtain ⟨⟨o3, o4⟩, h⟩ := h
  refine Tj.aload_n dX8_become_25 rfl rfl ?_
  refine Tj.getR (b := (b + 2)) dX8_become_26 fl_X8_13 s_b0 rfl rfl ?_
  refine Tj.iconst dX8_become_29 (by decide) rfl ?_
  refine Tj.aload_n dX8_become_30 rfl rfl ?_
  refine Tj.getR (b := (a + 2)) dX8_become_31 fl_X8_13 s_a0 rfl rfl ?_
  refine Tj.iconst dX8_become_34 (by decide) rfl ?_
  refine Tj.aload_n dX8_become_35 rfl rfl ?_
  refine Tj.gI (j := 3) dX8_become_36 fl_X8_19 s_a0 rfl rfl ?_
  refine Tj.copy dX8_become_39 ac_X8_37 ac_ok s_b2 s_a2 (by decide) (by decide) o3 o4 o4 ⟨Nat.le_of_ble_eq_true rfl, Nat.le_of_ble_eq_true rfl⟩ rfl ?_
  show Tj mX8_become 42 [some (rV a), some (rV b)] [] (sr m1 (a + 2) (cpr (m1 (b + 2)) (m1 (a + 2)) 0 0 (m1 a 3))) P
  generalize hm2 : (sr m1 (a + 2) (cpr (m1 (b + 2)) (m1 (a + 2)) 0 0 (m1 a 3))) = m2
  have h := h m2 hm2.symm
  obtain ⟨⟨o5, o6, o7⟩, h⟩ := h
  refine Tj.aload_n dX8_become_42 rfl rfl ?_
  refine Tj.getR (b := (b + 3)) dX8_become_43 fl_X8_16 s_b0 rfl rfl ?_
  refine Tj.iconst dX8_become_46 (by decide) rfl ?_
  refine Tj.aload_n dX8_become_47 rfl rfl ?_
  refine Tj.getR (b := (a + 3)) dX8_become_48 fl_X8_16 s_a0 rfl rfl ?_
  refine Tj.iconst dX8_become_51 (by decide) rfl ?_
  refine Tj.iconst dX8_become_52 (by decide) rfl ?_
  refine Tj.aload_n dX8_become_53 rfl rfl ?_
  refine Tj.gI (j := 3) dX8_become_54 fl_X8_19 s_a0 rfl rfl ?_
  refine Tj.imul dX8_become_57 o5 rfl ?_
  refine Tj.copy dX8_become_58 ac_X8_37 ac_ok s_b3 s_a3 (by decide) (by decide) o6 o7 o7 ⟨Nat.le_of_ble_eq_true rfl, Nat.le_of_ble_eq_true rfl⟩ rfl ?_
  show Tj mX8_become 61 [some (rV a), some (rV b)] [] (sr m2 (a + 3) (cpr (m2 (b + 3)) (m2 (a + 3)) 0 0 (4 * (m2 a 3)))) P
  generalize hm3 : (sr m2 (a + 3) (cpr (m2 (b + 3)) (m2 (a + 3)) 0 0 (4 * (m2 a 3)))) = m3
  have h := h m3 hm3.symm
  exact Tj.vret dX8_become_61 rfl h

theorem wX8_find_0 {m : tM} {P : Option tV → tM → Prop} {a : Nat} {x1 : Int} {x2 : Int} (s_a0 : shp a = some (8, 0)) (s_a1 : shp (a + 1) = some (20, 60)) (s_a2 : shp (a + 2) = some (20, 60)) (h : Cli mX8_firstNotBefore [rV a, iV x1, iV x2] m (fun r1 m1 => ((r1 < (m1 a 3) → ((0 ≤ r1 ∧ r1 < 60) ∧ (((m1 (a + 1) r1) = x1 → (∀ v1 : Int, v1 = (if (m1 (a + 2) r1) = x2 then r1 else (-1)) → (P (some (iV v1)) m1))) ∧ (¬ (m1 (a + 1) r1) = x1 → (P (some (iV (-1))) m1))))) ∧ (¬ r1 < (m1 a 3) → (P (some (iV (-1))) m1))))) : Tj mX8_find 0 [some (rV a), some (iV x1), some (iV x2)] [] m P := by
  refine Tj.aload_n dX8_find_0 rfl rfl ?_
  refine Tj.iload_n dX8_find_1 rfl rfl ?_
  refine Tj.iload_n dX8_find_2 rfl rfl ?_
  refine Tj.callVi (as := [_, _]) (rest := []) dX8_find_3 ln_X8_43 s_a0 (by decide) rfl rfl (Nat.le_of_ble_eq_true rfl) ⟨Nat.le_of_ble_eq_true rfl, Nat.le_of_ble_eq_true rfl⟩ (Nat.le_of_ble_eq_true rfl) rfl ?_
  refine Cli.mono h (fun r1 m1 h => ?_)
  refine Tj.istore_n dX8_find_6 (Nat.le_of_ble_eq_true rfl) rfl rfl ?_
  refine Tj.iload_n dX8_find_7 rfl rfl ?_
  refine Tj.aload_n dX8_find_8 rfl rfl ?_
  refine Tj.gI (j := 3) dX8_find_9 fl_X8_19 s_a0 rfl rfl ?_
  refine Tj.icmp_ge dX8_find_12 rfl rfl (fun c1 => ?_) (fun c1 => ?_)
  · have h := h.1 c1
    obtain ⟨⟨o1, o2⟩, h⟩ := h
    refine Tj.aload_n dX8_find_15 rfl rfl ?_
    refine Tj.getR (b := (a + 1)) dX8_find_16 fl_X8_9 s_a0 rfl rfl ?_
    refine Tj.iload_n dX8_find_19 rfl rfl ?_
    refine Tj.iald dX8_find_20 s_a1 o1 o2 rfl ?_
    refine Tj.iload_n dX8_find_21 rfl rfl ?_
    refine Tj.icmp_ne dX8_find_22 rfl rfl (fun c2 => ?_) (fun c2 => ?_)
    · have h := h.1 c2
      refine Tj.aload_n dX8_find_25 rfl rfl ?_
      refine Tj.getR (b := (a + 2)) dX8_find_26 fl_X8_13 s_a0 rfl rfl ?_
      refine Tj.iload_n dX8_find_29 rfl rfl ?_
      refine Tj.iald dX8_find_30 s_a2 o1 o2 rfl ?_
      refine Tj.iload_n dX8_find_31 rfl rfl ?_
      have hj : Tj mX8_find 40 [] [iV (if (m1 (a + 2) r1) = x2 then r1 else (-1))] m1 P := by
        generalize hv1 : ((if (m1 (a + 2) r1) = x2 then r1 else (-1)) : Int) = v1
        have h := h v1 hv1.symm
        exact Tj.iret dX8_find_40 rfl h
      refine Tj.icmp_ne dX8_find_32 rfl rfl (fun c3 => ?_) (fun c3 => ?_)
      · refine Tj.iload_n dX8_find_35 rfl rfl ?_
        refine Tj.goto dX8_find_36 rfl ?_
        try simp only [if_pos c3] at hj ⊢
        exact Tj.cut hj trivial
      · refine Tj.iconst dX8_find_39 (by decide) rfl ?_
        try simp only [if_neg c3] at hj ⊢
        exact Tj.cut hj trivial
    · have h := h.2 c2
      refine Tj.iconst dX8_find_39 (by decide) rfl ?_
      exact Tj.iret dX8_find_40 rfl h
  · have h := h.2 c1
    refine Tj.iconst dX8_find_39 (by decide) rfl ?_
    exact Tj.iret dX8_find_40 rfl h

theorem wX8_beside_0 {m : tM} {P : Option tV → tM → Prop} {a : Nat} {x1 : Int} {x2 : Int} (s_a0 : shp a = some (8, 0)) (s_a1 : shp (a + 1) = some (20, 60)) (s_a2 : shp (a + 2) = some (20, 60)) (h : (0 ≤ x1 ∧ x1 < 60) ∧ (Cli mX8_stepX [iV x2] m (fun r1 m1 => ((R32 ((m (a + 1) x1) + r1)) ∧ (Cli mX8_stepY [iV x2] m1 (fun r2 m2 => ((R32 ((m1 (a + 2) x1) + r2)) ∧ (Cli mX8_find [rV a, iV ((m (a + 1) x1) + r1), iV ((m1 (a + 2) x1) + r2)] m2 (fun r3 m3 => (P (some (iV r3)) m3)))))))))) : Tj mX8_beside 0 [some (rV a), some (iV x1), some (iV x2)] [] m P := by
  obtain ⟨⟨o1, o2⟩, h⟩ := h
  refine Tj.aload_n dX8_beside_0 rfl rfl ?_
  refine Tj.aload_n dX8_beside_1 rfl rfl ?_
  refine Tj.getR (b := (a + 1)) dX8_beside_2 fl_X8_9 s_a0 rfl rfl ?_
  refine Tj.iload_n dX8_beside_5 rfl rfl ?_
  refine Tj.iald dX8_beside_6 s_a1 o1 o2 rfl ?_
  refine Tj.iload_n dX8_beside_7 rfl rfl ?_
  refine Tj.callSi (as := [_]) (rest := [_, _]) dX8_beside_8 ln_X8_46 rfl rfl (Nat.le_of_ble_eq_true rfl) ⟨Nat.le_of_ble_eq_true rfl, Nat.le_of_ble_eq_true rfl⟩ (Nat.le_of_ble_eq_true rfl) rfl ?_
  refine Cli.mono h (fun r1 m1 h => ?_)
  obtain ⟨o3, h⟩ := h
  refine Tj.iadd dX8_beside_11 o3 rfl ?_
  refine Tj.aload_n dX8_beside_12 rfl rfl ?_
  refine Tj.getR (b := (a + 2)) dX8_beside_13 fl_X8_13 s_a0 rfl rfl ?_
  refine Tj.iload_n dX8_beside_16 rfl rfl ?_
  refine Tj.iald dX8_beside_17 s_a2 o1 o2 rfl ?_
  refine Tj.iload_n dX8_beside_18 rfl rfl ?_
  refine Tj.callSi (as := [_]) (rest := [_, _, _]) dX8_beside_19 ln_X8_49 rfl rfl (Nat.le_of_ble_eq_true rfl) ⟨Nat.le_of_ble_eq_true rfl, Nat.le_of_ble_eq_true rfl⟩ (Nat.le_of_ble_eq_true rfl) rfl ?_
  refine Cli.mono h (fun r2 m2 h => ?_)
  obtain ⟨o4, h⟩ := h
  refine Tj.iadd dX8_beside_22 o4 rfl ?_
  refine Tj.callVi (as := [_, _]) (rest := []) dX8_beside_23 ln_X8_52 s_a0 (by decide) rfl rfl (Nat.le_of_ble_eq_true rfl) ⟨Nat.le_of_ble_eq_true rfl, Nat.le_of_ble_eq_true rfl⟩ (Nat.le_of_ble_eq_true rfl) rfl ?_
  refine Cli.mono h (fun r3 m3 h => ?_)
  exact Tj.iret dX8_beside_26 rfl h

theorem wX8_firstNotBefore_0 {m : tM} {P : Option tV → tM → Prop} {a : Nat} {x1 : Int} {x2 : Int}  (h : Tj mX8_firstNotBefore 2 [some (rV a), some (iV x1), some (iV x2), some (iV 0)] [] m P) : Tj mX8_firstNotBefore 0 [some (rV a), some (iV x1), some (iV x2)] [] m P := by
  refine Tj.iconst dX8_firstNotBefore_0 (by decide) rfl ?_
  refine Tj.istore_n dX8_firstNotBefore_1 (Nat.le_of_ble_eq_true rfl) rfl rfl ?_
  exact Tj.cut h ⟨rfl, ⟨rfl, ⟨rfl, ⟨rfl, trivial⟩⟩⟩⟩

theorem wX8_firstNotBefore_2 {m : tM} {P : Option tV → tM → Prop} {a : Nat} {x1 : Int} {x2 : Int} {x3 : Int} (s_a0 : shp a = some (8, 0)) (s_a1 : shp (a + 1) = some (20, 60)) (s_a2 : shp (a + 2) = some (20, 60)) (h : (x3 < (m a 3) → ((0 ≤ x3 ∧ x3 < 60) ∧ ((x2 < (m (a + 2) x3) → (P (some (iV x3)) m)) ∧ (¬ x2 < (m (a + 2) x3) → (((m (a + 2) x3) = x2 → (((m (a + 1) x3) < x1 → ((R32 (x3 + 1)) ∧ (Tj mX8_firstNotBefore 2 [some (rV a), some (iV x1), some (iV x2), some (iV (x3 + 1))] [] m P))) ∧ (¬ (m (a + 1) x3) < x1 → (P (some (iV x3)) m)))) ∧ (¬ (m (a + 2) x3) = x2 → ((R32 (x3 + 1)) ∧ (Tj mX8_firstNotBefore 2 [some (rV a), some (iV x1), some (iV x2), some (iV (x3 + 1))] [] m P)))))))) ∧ (¬ x3 < (m a 3) → (P (some (iV (m a 3))) m))) : Tj mX8_firstNotBefore 2 [some (rV a), some (iV x1), some (iV x2), some (iV x3)] [] m P := by
  refine Tj.iload_n dX8_firstNotBefore_2 rfl rfl ?_
  refine Tj.aload_n dX8_firstNotBefore_3 rfl rfl ?_
  refine Tj.gI (j := 3) dX8_firstNotBefore_4 fl_X8_19 s_a0 rfl rfl ?_
  refine Tj.icmp_ge dX8_firstNotBefore_7 rfl rfl (fun c1 => ?_) (fun c1 => ?_)
  · have h := h.1 c1
    obtain ⟨⟨o1, o2⟩, h⟩ := h
    refine Tj.aload_n dX8_firstNotBefore_10 rfl rfl ?_
    refine Tj.getR (b := (a + 2)) dX8_firstNotBefore_11 fl_X8_13 s_a0 rfl rfl ?_
    refine Tj.iload_n dX8_firstNotBefore_14 rfl rfl ?_
    refine Tj.iald dX8_firstNotBefore_15 s_a2 o1 o2 rfl ?_
    refine Tj.iload_n dX8_firstNotBefore_16 rfl rfl ?_
    refine Tj.icmp_gt dX8_firstNotBefore_17 rfl rfl (fun c2 => ?_) (fun c2 => ?_)
    · have h := h.1 c2
      refine Tj.iload_n dX8_firstNotBefore_40 rfl rfl ?_
      exact Tj.iret dX8_firstNotBefore_41 rfl h
    · have h := h.2 c2
      refine Tj.aload_n dX8_firstNotBefore_20 rfl rfl ?_
      refine Tj.getR (b := (a + 2)) dX8_firstNotBefore_21 fl_X8_13 s_a0 rfl rfl ?_
      refine Tj.iload_n dX8_firstNotBefore_24 rfl rfl ?_
      refine Tj.iald dX8_firstNotBefore_25 s_a2 o1 o2 rfl ?_
      refine Tj.iload_n dX8_firstNotBefore_26 rfl rfl ?_
      refine Tj.icmp_ne dX8_firstNotBefore_27 rfl rfl (fun c3 => ?_) (fun c3 => ?_)
      · have h := h.1 c3
        refine Tj.aload_n dX8_firstNotBefore_30 rfl rfl ?_
        refine Tj.getR (b := (a + 1)) dX8_firstNotBefore_31 fl_X8_9 s_a0 rfl rfl ?_
        refine Tj.iload_n dX8_firstNotBefore_34 rfl rfl ?_
        refine Tj.iald dX8_firstNotBefore_35 s_a1 o1 o2 rfl ?_
        refine Tj.iload_n dX8_firstNotBefore_36 rfl rfl ?_
        refine Tj.icmp_lt dX8_firstNotBefore_37 rfl rfl (fun c4 => ?_) (fun c4 => ?_)
        · have h := h.1 c4
          obtain ⟨o3, h⟩ := h
          refine Tj.iinc dX8_firstNotBefore_42 rfl (Nat.le_of_ble_eq_true rfl) rfl o3 rfl ?_
          refine Tj.goto dX8_firstNotBefore_45 rfl ?_
          exact Tj.cut h ⟨rfl, ⟨rfl, ⟨rfl, ⟨rfl, trivial⟩⟩⟩⟩
        · have h := h.2 c4
          refine Tj.iload_n dX8_firstNotBefore_40 rfl rfl ?_
          exact Tj.iret dX8_firstNotBefore_41 rfl h
      · have h := h.2 c3
        obtain ⟨o4, h⟩ := h
        refine Tj.iinc dX8_firstNotBefore_42 rfl (Nat.le_of_ble_eq_true rfl) rfl o4 rfl ?_
        refine Tj.goto dX8_firstNotBefore_45 rfl ?_
        exact Tj.cut h ⟨rfl, ⟨rfl, ⟨rfl, ⟨rfl, trivial⟩⟩⟩⟩
  · have h := h.2 c1
    refine Tj.aload_n dX8_firstNotBefore_48 rfl rfl ?_
    refine Tj.gI (j := 3) dX8_firstNotBefore_49 fl_X8_19 s_a0 rfl rfl ?_
    exact Tj.iret dX8_firstNotBefore_52 rfl h

theorem wX8_add_0 {m : tM} {P : Option tV → tM → Prop} {a : Nat} {x1 : Int} {x2 : Int} (s_a0 : shp a = some (8, 0)) (s_a1 : shp (a + 1) = some (20, 60)) (s_a2 : shp (a + 2) = some (20, 60)) (h : ((m a 3) < 60 → (Cli mX8_firstNotBefore [rV a, iV x1, iV x2] m (fun r1 m1 => ((R32 (r1 + 1) ∧ R32 ((m1 a 3) - r1)) ∧ (Clv mX8_shift [rV a, iV r1, iV (r1 + 1), iV ((m1 a 3) - r1)] m1 (fun m2 => ((R32 ((m2 a 3) + 1) ∧ 0 ≤ r1 ∧ r1 < 60) ∧ (Tj mX8_add 59 [some (rV a), none, none, some (iV r1), some (iV 0)] [] (up (up (up m2 a 3 ((m2 a 3) + 1)) (a + 1) r1 x1) (a + 2) r1 x2) P)))))))) ∧ (¬ (m a 3) < 60 → (P (some (iV (-1))) m))) : Tj mX8_add 0 [some (rV a), some (iV x1), some (iV x2)] [] m P := by
  refine Tj.aload_n dX8_add_0 rfl rfl ?_
  refine Tj.gI (j := 3) dX8_add_1 fl_X8_19 s_a0 rfl rfl ?_
  refine Tj.bipush dX8_add_4 (by decide) (by decide +kernel) rfl ?_
  refine Tj.icmp_lt dX8_add_6 rfl rfl (fun c1 => ?_) (fun c1 => ?_)
  · have h := h.1 c1
    refine Tj.aload_n dX8_add_11 rfl rfl ?_
    refine Tj.iload_n dX8_add_12 rfl rfl ?_
    refine Tj.iload_n dX8_add_13 rfl rfl ?_
    refine Tj.callVi (as := [_, _]) (rest := []) dX8_add_14 ln_X8_43 s_a0 (by decide) rfl rfl (Nat.le_of_ble_eq_true rfl) ⟨Nat.le_of_ble_eq_true rfl, Nat.le_of_ble_eq_true rfl⟩ (Nat.le_of_ble_eq_true rfl) rfl ?_
    refine Cli.mono h (fun r1 m1 h => ?_)
    obtain ⟨⟨o1, o2⟩, h⟩ := h
    refine Tj.istore_n dX8_add_17 (Nat.le_of_ble_eq_true rfl) rfl rfl ?_
    refine Tj.aload_n dX8_add_18 rfl rfl ?_
    refine Tj.iload_n dX8_add_19 rfl rfl ?_
    refine Tj.iload_n dX8_add_20 rfl rfl ?_
    refine Tj.iconst dX8_add_21 (by decide) rfl ?_
    refine Tj.iadd dX8_add_22 o1 rfl ?_
    refine Tj.aload_n dX8_add_23 rfl rfl ?_
    refine Tj.gI (j := 3) dX8_add_24 fl_X8_19 s_a0 rfl rfl ?_
    refine Tj.iload_n dX8_add_27 rfl rfl ?_
    refine Tj.isub dX8_add_28 o2 rfl ?_
    refine Tj.callVv (as := [_, _, _]) (rest := []) dX8_add_29 ln_X8_55 s_a0 (by decide) rfl rfl (Nat.le_of_ble_eq_true rfl) ⟨Nat.le_of_ble_eq_true rfl, Nat.le_of_ble_eq_true rfl⟩ (Nat.le_of_ble_eq_true rfl) rfl ?_
    refine Clv.mono h (fun m2 h => ?_)
    obtain ⟨⟨o3, o4, o5⟩, h⟩ := h
    refine Tj.aload_n dX8_add_32 rfl rfl ?_
    refine Tj.dup dX8_add_33 rfl rfl ?_
    refine Tj.gI (j := 3) dX8_add_34 fl_X8_19 s_a0 rfl rfl ?_
    refine Tj.iconst dX8_add_37 (by decide) rfl ?_
    refine Tj.iadd dX8_add_38 o3 rfl ?_
    refine Tj.pI (j := 3) dX8_add_39 fp_X8_19 s_a0 rfl rfl ?_
    refine Tj.aload_n dX8_add_42 rfl rfl ?_
    refine Tj.getR (b := (a + 1)) dX8_add_43 fl_X8_9 s_a0 rfl rfl ?_
    refine Tj.iload_n dX8_add_46 rfl rfl ?_
    refine Tj.iload_n dX8_add_47 rfl rfl ?_
    refine Tj.iast dX8_add_48 s_a1 o4 o5 rfl ?_
    refine Tj.aload_n dX8_add_49 rfl rfl ?_
    refine Tj.getR (b := (a + 2)) dX8_add_50 fl_X8_13 s_a0 rfl rfl ?_
    refine Tj.iload_n dX8_add_53 rfl rfl ?_
    refine Tj.iload_n dX8_add_54 rfl rfl ?_
    refine Tj.iast dX8_add_55 s_a2 o4 o5 rfl ?_
    refine Tj.iconst dX8_add_56 (by decide) rfl ?_
    refine Tj.istore dX8_add_57 (Nat.le_of_ble_eq_true rfl) rfl rfl ?_
    exact Tj.cut h ⟨rfl, ⟨rfl, ⟨rfl, trivial⟩⟩⟩
  · have h := h.2 c1
    refine Tj.iconst dX8_add_9 (by decide) rfl ?_
    exact Tj.iret dX8_add_10 rfl h

theorem wX8_add_59 {m : tM} {P : Option tV → tM → Prop} {a : Nat} {x3 : Int} {x4 : Int} (s_a0 : shp a = some (8, 0)) (s_a3 : shp (a + 3) = some (20, 240)) (h : (x4 < 4 → ((R32 (4 * x3) ∧ R32 ((4 * x3) + x4) ∧ 0 ≤ ((4 * x3) + x4) ∧ ((4 * x3) + x4) < 240 ∧ R32 (x4 + 1)) ∧ (Tj mX8_add 59 [some (rV a), none, none, some (iV x3), some (iV (x4 + 1))] [] (up m (a + 3) ((4 * x3) + x4) 0) P))) ∧ (¬ x4 < 4 → (P (some (iV x3)) m))) : Tj mX8_add 59 [some (rV a), none, none, some (iV x3), some (iV x4)] [] m P := by
  refine Tj.iload dX8_add_59 rfl rfl ?_
  refine Tj.iconst dX8_add_61 (by decide) rfl ?_
  refine Tj.icmp_ge dX8_add_62 rfl rfl (fun c1 => ?_) (fun c1 => ?_)
  · have h := h.1 c1
    obtain ⟨⟨o1, o2, o3, o4, o5⟩, h⟩ := h
    refine Tj.aload_n dX8_add_65 rfl rfl ?_
    refine Tj.getR (b := (a + 3)) dX8_add_66 fl_X8_16 s_a0 rfl rfl ?_
    refine Tj.iconst dX8_add_69 (by decide) rfl ?_
    refine Tj.iload_n dX8_add_70 rfl rfl ?_
    refine Tj.imul dX8_add_71 o1 rfl ?_
    refine Tj.iload dX8_add_72 rfl rfl ?_
    refine Tj.iadd dX8_add_74 o2 rfl ?_
    refine Tj.iconst dX8_add_75 (by decide) rfl ?_
    refine Tj.iast dX8_add_76 s_a3 o3 o4 rfl ?_
    refine Tj.iinc dX8_add_77 rfl (Nat.le_of_ble_eq_true rfl) rfl o5 rfl ?_
    refine Tj.goto dX8_add_80 rfl ?_
    exact Tj.cut h ⟨rfl, ⟨rfl, ⟨rfl, trivial⟩⟩⟩
  · have h := h.2 c1
    refine Tj.iload_n dX8_add_83 rfl rfl ?_
    exact Tj.iret dX8_add_84 rfl h

theorem wX8_remove_0 {m : tM} {P : Option tV → tM → Prop} {a : Nat} {x1 : Int}  (h : Tj mX8_remove 2 [some (rV a), some (iV x1), some (iV 0)] [] m P) : Tj mX8_remove 0 [some (rV a), some (iV x1)] [] m P := by
  refine Tj.iconst dX8_remove_0 (by decide) rfl ?_
  refine Tj.istore_n dX8_remove_1 (Nat.le_of_ble_eq_true rfl) rfl rfl ?_
  exact Tj.cut h ⟨rfl, ⟨rfl, ⟨rfl, trivial⟩⟩⟩

theorem wX8_remove_2 {m : tM} {P : Option tV → tM → Prop} {a : Nat} {x1 : Int} {x2 : Int} (s_a0 : shp a = some (8, 0)) (h : (x2 < 4 → (Cli mX8_beside [rV a, iV x1, iV x2] m (fun r1 m1 => ((r1 < 0 → ((R32 (x2 + 1)) ∧ (Tj mX8_remove 2 [some (rV a), some (iV x1), some (iV (x2 + 1))] [] m1 P))) ∧ (¬ r1 < 0 → (Clv mX8_join [rV a, iV x1, iV r1, iV x2, iV 0] m1 (fun m2 => ((R32 (x2 + 1)) ∧ (Tj mX8_remove 2 [some (rV a), some (iV x1), some (iV (x2 + 1))] [] m2 P))))))))) ∧ (¬ x2 < 4 → ((R32 (x1 + 1) ∧ R32 ((m a 3) - x1) ∧ R32 (((m a 3) - x1) - 1)) ∧ (Clv mX8_shift [rV a, iV (x1 + 1), iV x1, iV (((m a 3) - x1) - 1)] m (fun m3 => ((R32 ((m3 a 3) - 1)) ∧ (P none (up m3 a 3 ((m3 a 3) - 1))))))))) : Tj mX8_remove 2 [some (rV a), some (iV x1), some (iV x2)] [] m P := by
  refine Tj.iload_n dX8_remove_2 rfl rfl ?_
  refine Tj.iconst dX8_remove_3 (by decide) rfl ?_
  refine Tj.icmp_ge dX8_remove_4 rfl rfl (fun c1 => ?_) (fun c1 => ?_)
  · have h := h.1 c1
    refine Tj.aload_n dX8_remove_7 rfl rfl ?_
    refine Tj.iload_n dX8_remove_8 rfl rfl ?_
    refine Tj.iload_n dX8_remove_9 rfl rfl ?_
    refine Tj.callVi (as := [_, _]) (rest := []) dX8_remove_10 ln_X8_59 s_a0 (by decide) rfl rfl (Nat.le_of_ble_eq_true rfl) ⟨Nat.le_of_ble_eq_true rfl, Nat.le_of_ble_eq_true rfl⟩ (Nat.le_of_ble_eq_true rfl) rfl ?_
    refine Cli.mono h (fun r1 m1 h => ?_)
    refine Tj.istore_n dX8_remove_13 (Nat.le_of_ble_eq_true rfl) rfl rfl ?_
    refine Tj.iload_n dX8_remove_14 rfl rfl ?_
    refine Tj.if_lt dX8_remove_15 rfl rfl (fun c2 => ?_) (fun c2 => ?_)
    · have h := h.1 c2
      obtain ⟨o1, h⟩ := h
      refine Tj.iinc dX8_remove_26 rfl (Nat.le_of_ble_eq_true rfl) rfl o1 rfl ?_
      refine Tj.goto dX8_remove_29 rfl ?_
      exact Tj.cut h ⟨rfl, ⟨rfl, ⟨rfl, trivial⟩⟩⟩
    · have h := h.2 c2
      refine Tj.aload_n dX8_remove_18 rfl rfl ?_
      refine Tj.iload_n dX8_remove_19 rfl rfl ?_
      refine Tj.iload_n dX8_remove_20 rfl rfl ?_
      refine Tj.iload_n dX8_remove_21 rfl rfl ?_
      refine Tj.iconst dX8_remove_22 (by decide) rfl ?_
      refine Tj.callVv (as := [_, _, _, _]) (rest := []) dX8_remove_23 ln_X8_62 s_a0 (by decide) rfl rfl (Nat.le_of_ble_eq_true rfl) ⟨Nat.le_of_ble_eq_true rfl, Nat.le_of_ble_eq_true rfl⟩ (Nat.le_of_ble_eq_true rfl) rfl ?_
      refine Clv.mono h (fun m2 h => ?_)
      obtain ⟨o2, h⟩ := h
      refine Tj.iinc dX8_remove_26 rfl (Nat.le_of_ble_eq_true rfl) rfl o2 rfl ?_
      refine Tj.goto dX8_remove_29 rfl ?_
      exact Tj.cut h ⟨rfl, ⟨rfl, ⟨rfl, trivial⟩⟩⟩
  · have h := h.2 c1
    obtain ⟨⟨o3, o4, o5⟩, h⟩ := h
    refine Tj.aload_n dX8_remove_32 rfl rfl ?_
    refine Tj.iload_n dX8_remove_33 rfl rfl ?_
    refine Tj.iconst dX8_remove_34 (by decide) rfl ?_
    refine Tj.iadd dX8_remove_35 o3 rfl ?_
    refine Tj.iload_n dX8_remove_36 rfl rfl ?_
    refine Tj.aload_n dX8_remove_37 rfl rfl ?_
    refine Tj.gI (j := 3) dX8_remove_38 fl_X8_19 s_a0 rfl rfl ?_
    refine Tj.iload_n dX8_remove_41 rfl rfl ?_
    refine Tj.isub dX8_remove_42 o4 rfl ?_
    refine Tj.iconst dX8_remove_43 (by decide) rfl ?_
    refine Tj.isub dX8_remove_44 o5 rfl ?_
    refine Tj.callVv (as := [_, _, _]) (rest := []) dX8_remove_45 ln_X8_55 s_a0 (by decide) rfl rfl (Nat.le_of_ble_eq_true rfl) ⟨Nat.le_of_ble_eq_true rfl, Nat.le_of_ble_eq_true rfl⟩ (Nat.le_of_ble_eq_true rfl) rfl ?_
    refine Clv.mono h (fun m3 h => ?_)
    obtain ⟨o6, h⟩ := h
    refine Tj.aload_n dX8_remove_48 rfl rfl ?_
    refine Tj.dup dX8_remove_49 rfl rfl ?_
    refine Tj.gI (j := 3) dX8_remove_50 fl_X8_19 s_a0 rfl rfl ?_
    refine Tj.iconst dX8_remove_53 (by decide) rfl ?_
    refine Tj.isub dX8_remove_54 o6 rfl ?_
    refine Tj.pI (j := 3) dX8_remove_55 fp_X8_19 s_a0 rfl rfl ?_
    exact Tj.vret dX8_remove_58 rfl h

theorem wX8_shift_0 {m : tM} {P : Option tV → tM → Prop} {a : Nat} {x1 : Int} {x2 : Int} {x3 : Int} (s_a0 : shp a = some (8, 0)) (s_a1 : shp (a + 1) = some (20, 60)) (s_a2 : shp (a + 2) = some (20, 60)) (s_a3 : shp (a + 3) = some (20, 240)) (h : (0 ≤ x1 ∧ 0 ≤ x2 ∧ 0 ≤ x3 ∧ x1 + x3 ≤ 60 ∧ x2 + x3 ≤ 60) ∧ (∀ m1 : tM, m1 = (sr m (a + 1) (cpr (m (a + 1)) (m (a + 1)) x1 x2 x3)) → (∀ m2 : tM, m2 = (sr m1 (a + 2) (cpr (m1 (a + 2)) (m1 (a + 2)) x1 x2 x3)) → ((R32 (4 * x1) ∧ R32 (4 * x2) ∧ R32 (4 * x3) ∧ 0 ≤ (4 * x1) ∧ 0 ≤ (4 * x2) ∧ 0 ≤ (4 * x3) ∧ (4 * x1) + (4 * x3) ≤ 240 ∧ (4 * x2) + (4 * x3) ≤ 240) ∧ (∀ m3 : tM, m3 = (sr m2 (a + 3) (cpr (m2 (a + 3)) (m2 (a + 3)) (4 * x1) (4 * x2) (4 * x3))) → (P none m3)))))) : Tj mX8_shift 0 [some (rV a), some (iV x1), some (iV x2), some (iV x3)] [] m P := by
  obtain ⟨⟨o1, o2, o3, o4, o5⟩, h⟩ := h
  refine Tj.aload_n dX8_shift_0 rfl rfl ?_
  refine Tj.getR (b := (a + 1)) dX8_shift_1 fl_X8_9 s_a0 rfl rfl ?_
  refine Tj.iload_n dX8_shift_4 rfl rfl ?_
  refine Tj.aload_n dX8_shift_5 rfl rfl ?_
  refine Tj.getR (b := (a + 1)) dX8_shift_6 fl_X8_9 s_a0 rfl rfl ?_
  refine Tj.iload_n dX8_shift_9 rfl rfl ?_
  refine Tj.iload_n dX8_shift_10 rfl rfl ?_
  refine Tj.copy dX8_shift_11 ac_X8_37 ac_ok s_a1 s_a1 o1 o2 o3 o4 o5 ⟨Nat.le_of_ble_eq_true rfl, Nat.le_of_ble_eq_true rfl⟩ rfl ?_
  show Tj mX8_shift 14 [some (rV a), some (iV x1), some (iV x2), some (iV x3)] [] (sr m (a + 1) (cpr (m (a + 1)) (m (a + 1)) x1 x2 x3)) P
  generalize hm1 : (sr m (a + 1) (cpr (m (a + 1)) (m (a + 1)) x1 x2 x3)) = m1
  have h := h m1 hm1.symm
  refine Tj.aload_n dX8_shift_14 rfl rfl ?_
  refine Tj.getR (b := (a + 2)) dX8_shift_15 fl_X8_13 s_a0 rfl rfl ?_
  refine Tj.iload_n dX8_shift_18 rfl rfl ?_
  refine Tj.aload_n dX8_shift_19 rfl rfl ?_
  refine Tj.getR (b := (a + 2)) dX8_shift_20 fl_X8_13 s_a0 rfl rfl ?_
  refine Tj.iload_n dX8_shift_23 rfl rfl ?_
  refine Tj.iload_n dX8_shift_24 rfl rfl ?_
  refine Tj.copy dX8_shift_25 ac_X8_37 ac_ok s_a2 s_a2 o1 o2 o3 o4 o5 ⟨Nat.le_of_ble_eq_true rfl, Nat.le_of_ble_eq_true rfl⟩ rfl ?_
  show Tj mX8_shift 28 [some (rV a), some (iV x1), some (iV x2), some (iV x3)] [] (sr m1 (a + 2) (cpr (m1 (a + 2)) (m1 (a + 2)) x1 x2 x3)) P
  generalize hm2 : (sr m1 (a + 2) (cpr (m1 (a + 2)) (m1 (a + 2)) x1 x2 x3)) = m2
  have h := h m2 hm2.symm
  obtain ⟨⟨o6, o7, o8, o9, o10, o11, o12, o13⟩, h⟩ := h
  refine Tj.aload_n dX8_shift_28 rfl rfl ?_
  refine Tj.getR (b := (a + 3)) dX8_shift_29 fl_X8_16 s_a0 rfl rfl ?_
  refine Tj.iconst dX8_shift_32 (by decide) rfl ?_
  refine Tj.iload_n dX8_shift_33 rfl rfl ?_
  refine Tj.imul dX8_shift_34 o6 rfl ?_
  refine Tj.aload_n dX8_shift_35 rfl rfl ?_
  refine Tj.getR (b := (a + 3)) dX8_shift_36 fl_X8_16 s_a0 rfl rfl ?_
  refine Tj.iconst dX8_shift_39 (by decide) rfl ?_
  refine Tj.iload_n dX8_shift_40 rfl rfl ?_
  refine Tj.imul dX8_shift_41 o7 rfl ?_
  refine Tj.iconst dX8_shift_42 (by decide) rfl ?_
  refine Tj.iload_n dX8_shift_43 rfl rfl ?_
  refine Tj.imul dX8_shift_44 o8 rfl ?_
  refine Tj.copy dX8_shift_45 ac_X8_37 ac_ok s_a3 s_a3 o9 o10 o11 o12 o13 ⟨Nat.le_of_ble_eq_true rfl, Nat.le_of_ble_eq_true rfl⟩ rfl ?_
  show Tj mX8_shift 48 [some (rV a), some (iV x1), some (iV x2), some (iV x3)] [] (sr m2 (a + 3) (cpr (m2 (a + 3)) (m2 (a + 3)) (4 * x1) (4 * x2) (4 * x3))) P
  generalize hm3 : (sr m2 (a + 3) (cpr (m2 (a + 3)) (m2 (a + 3)) (4 * x1) (4 * x2) (4 * x3))) = m3
  have h := h m3 hm3.symm
  exact Tj.vret dX8_shift_48 rfl h

theorem wX8_join_0 {m : tM} {P : Option tV → tM → Prop} {a : Nat} {x1 : Int} {x2 : Int} {x3 : Int} {x4 : Int} (s_a0 : shp a = some (8, 0)) (s_a3 : shp (a + 3) = some (20, 240)) (h : (R32 (4 * x1) ∧ R32 ((4 * x1) + x3) ∧ 0 ≤ ((4 * x1) + x3) ∧ ((4 * x1) + x3) < 240 ∧ R32 (4 * x2) ∧ R32 (x3 + 2) ∧ R32 ((4 * x2) + (bAnd (x3 + 2) 3)) ∧ 0 ≤ ((4 * x2) + (bAnd (x3 + 2) 3)) ∧ ((4 * x2) + (bAnd (x3 + 2) 3)) < 240) ∧ (P none (up (up m (a + 3) ((4 * x1) + x3) x4) (a + 3) ((4 * x2) + (bAnd (x3 + 2) 3)) x4))) : Tj mX8_join 0 [some (rV a), some (iV x1), some (iV x2), some (iV x3), some (iV x4)] [] m P := by
  obtain ⟨⟨o1, o2, o3, o4, o5, o6, o7, o8, o9⟩, h⟩ := h
  refine Tj.aload_n dX8_join_0 rfl rfl ?_
  refine Tj.getR (b := (a + 3)) dX8_join_1 fl_X8_16 s_a0 rfl rfl ?_
  refine Tj.iconst dX8_join_4 (by decide) rfl ?_
  refine Tj.iload_n dX8_join_5 rfl rfl ?_
  refine Tj.imul dX8_join_6 o1 rfl ?_
  refine Tj.iload_n dX8_join_7 rfl rfl ?_
  refine Tj.iadd dX8_join_8 o2 rfl ?_
  refine Tj.iload dX8_join_9 rfl rfl ?_
  refine Tj.iast dX8_join_11 s_a3 o3 o4 rfl ?_
  refine Tj.aload_n dX8_join_12 rfl rfl ?_
  refine Tj.getR (b := (a + 3)) dX8_join_13 fl_X8_16 s_a0 rfl rfl ?_
  refine Tj.iconst dX8_join_16 (by decide) rfl ?_
  refine Tj.iload_n dX8_join_17 rfl rfl ?_
  refine Tj.imul dX8_join_18 o5 rfl ?_
  refine Tj.iload_n dX8_join_19 rfl rfl ?_
  refine Tj.iconst dX8_join_20 (by decide) rfl ?_
  refine Tj.iadd dX8_join_21 o6 rfl ?_
  refine Tj.iconst dX8_join_22 (by decide) rfl ?_
  refine Tj.iand dX8_join_23 rfl ?_
  refine Tj.iadd dX8_join_24 o7 rfl ?_
  refine Tj.iload dX8_join_25 rfl rfl ?_
  refine Tj.iast dX8_join_27 s_a3 o8 o9 rfl ?_
  exact Tj.vret dX8_join_28 rfl h

theorem wX8_becomeTurned_0 {m : tM} {P : Option tV → tM → Prop} {a : Nat} {b : Nat} {x2 : Int} {x3 : Int} (s_a0 : shp a = some (8, 0)) (h : Tj mX8_becomeTurned 8 [some (rV a), some (rV b), some (iV x2), some (iV x3), some (iV 0)] [] (up m a 3 0) P) : Tj mX8_becomeTurned 0 [some (rV a), some (rV b), some (iV x2), some (iV x3)] [] m P := by
  refine Tj.aload_n dX8_becomeTurned_0 rfl rfl ?_
  refine Tj.iconst dX8_becomeTurned_1 (by decide) rfl ?_
  refine Tj.pI (j := 3) dX8_becomeTurned_2 fp_X8_19 s_a0 rfl rfl ?_
  refine Tj.iconst dX8_becomeTurned_5 (by decide) rfl ?_
  refine Tj.istore dX8_becomeTurned_6 (Nat.le_of_ble_eq_true rfl) rfl rfl ?_
  exact Tj.cut h ⟨rfl, ⟨rfl, ⟨rfl, ⟨rfl, ⟨rfl, trivial⟩⟩⟩⟩⟩

theorem wX8_becomeTurned_8 {m : tM} {P : Option tV → tM → Prop} {a : Nat} {b : Nat} {x2 : Int} {x3 : Int} {x4 : Int} (s_a0 : shp a = some (8, 0)) (s_b0 : shp b = some (8, 0)) (h : (x4 < (m b 3) → (Cli mX8_turnedX [rV b, iV x4, iV x2, iV x3] m (fun r1 m1 => (Cli mX8_turnedY [rV b, iV x4, iV x2, iV x3] m1 (fun r2 m2 => (Cli mX8_add [rV a, iV r1, iV r2] m2 (fun r3 m3 => (Tj mX8_becomeTurned 42 [some (rV a), some (rV b), some (iV x2), some (iV x3), some (iV x4), some (iV r3), some (iV 0)] [] m3 P)))))))) ∧ (¬ x4 < (m b 3) → (P none m))) : Tj mX8_becomeTurned 8 [some (rV a), some (rV b), some (iV x2), some (iV x3), some (iV x4)] [] m P := by
  refine Tj.iload dX8_becomeTurned_8 rfl rfl ?_
  refine Tj.aload_n dX8_becomeTurned_10 rfl rfl ?_
  refine Tj.gI (j := 3) dX8_becomeTurned_11 fl_X8_19 s_b0 rfl rfl ?_
  refine Tj.icmp_ge dX8_becomeTurned_14 rfl rfl (fun c1 => ?_) (fun c1 => ?_)
  · have h := h.1 c1
    refine Tj.aload_n dX8_becomeTurned_17 rfl rfl ?_
    refine Tj.aload_n dX8_becomeTurned_18 rfl rfl ?_
    refine Tj.iload dX8_becomeTurned_19 rfl rfl ?_
    refine Tj.iload_n dX8_becomeTurned_21 rfl rfl ?_
    refine Tj.iload_n dX8_becomeTurned_22 rfl rfl ?_
    refine Tj.callVi (as := [_, _, _]) (rest := [_]) dX8_becomeTurned_23 ln_X8_66 s_b0 (by decide) rfl rfl (Nat.le_of_ble_eq_true rfl) ⟨Nat.le_of_ble_eq_true rfl, Nat.le_of_ble_eq_true rfl⟩ (Nat.le_of_ble_eq_true rfl) rfl ?_
    refine Cli.mono h (fun r1 m1 h => ?_)
    refine Tj.aload_n dX8_becomeTurned_26 rfl rfl ?_
    refine Tj.iload dX8_becomeTurned_27 rfl rfl ?_
    refine Tj.iload_n dX8_becomeTurned_29 rfl rfl ?_
    refine Tj.iload_n dX8_becomeTurned_30 rfl rfl ?_
    refine Tj.callVi (as := [_, _, _]) (rest := [_, _]) dX8_becomeTurned_31 ln_X8_70 s_b0 (by decide) rfl rfl (Nat.le_of_ble_eq_true rfl) ⟨Nat.le_of_ble_eq_true rfl, Nat.le_of_ble_eq_true rfl⟩ (Nat.le_of_ble_eq_true rfl) rfl ?_
    refine Cli.mono h (fun r2 m2 h => ?_)
    refine Tj.callVi (as := [_, _]) (rest := []) dX8_becomeTurned_34 ln_X8_73 s_a0 (by decide) rfl rfl (Nat.le_of_ble_eq_true rfl) ⟨Nat.le_of_ble_eq_true rfl, Nat.le_of_ble_eq_true rfl⟩ (Nat.le_of_ble_eq_true rfl) rfl ?_
    refine Cli.mono h (fun r3 m3 h => ?_)
    refine Tj.istore dX8_becomeTurned_37 (Nat.le_of_ble_eq_true rfl) rfl rfl ?_
    refine Tj.iconst dX8_becomeTurned_39 (by decide) rfl ?_
    refine Tj.istore dX8_becomeTurned_40 (Nat.le_of_ble_eq_true rfl) rfl rfl ?_
    exact Tj.cut h ⟨rfl, ⟨rfl, ⟨rfl, ⟨rfl, ⟨rfl, ⟨rfl, ⟨rfl, trivial⟩⟩⟩⟩⟩⟩⟩
  · have h := h.2 c1
    exact Tj.vret dX8_becomeTurned_87 rfl h

theorem wX8_becomeTurned_42 {m : tM} {P : Option tV → tM → Prop} {a : Nat} {b : Nat} {x2 : Int} {x3 : Int} {x4 : Int} {x5 : Int} {x6 : Int} (s_a0 : shp a = some (8, 0)) (s_a3 : shp (a + 3) = some (20, 240)) (s_b0 : shp b = some (8, 0)) (h : (x5 < 0 → ((R32 (x4 + 1)) ∧ (Tj mX8_becomeTurned 8 [some (rV a), some (rV b), some (iV x2), some (iV x3), some (iV (x4 + 1))] [] m P))) ∧ (¬ x5 < 0 → ((x6 < 4 → ((R32 (4 * x5) ∧ R32 ((4 * x5) + x6)) ∧ (Cli mX8_turnedCrease [rV b, iV x4, iV x6, iV x2, iV x3] m (fun r1 m1 => ((0 ≤ ((4 * x5) + x6) ∧ ((4 * x5) + x6) < 240 ∧ R32 (x6 + 1)) ∧ (Tj mX8_becomeTurned 42 [some (rV a), some (rV b), some (iV x2), some (iV x3), some (iV x4), some (iV x5), some (iV (x6 + 1))] [] (up m1 (a + 3) ((4 * x5) + x6) r1) P)))))) ∧ (¬ x6 < 4 → ((R32 (x4 + 1)) ∧ (Tj mX8_becomeTurned 8 [some (rV a), some (rV b), some (iV x2), some (iV x3), some (iV (x4 + 1))] [] m P)))))) : Tj mX8_becomeTurned 42 [some (rV a), some (rV b), some (iV x2), some (iV x3), some (iV x4), some (iV x5), some (iV x6)] [] m P := by
  refine Tj.iload dX8_becomeTurned_42 rfl rfl ?_
  refine Tj.if_lt dX8_becomeTurned_44 rfl rfl (fun c1 => ?_) (fun c1 => ?_)
  · have h := h.1 c1
    obtain ⟨o1, h⟩ := h
    refine Tj.iinc dX8_becomeTurned_81 rfl (Nat.le_of_ble_eq_true rfl) rfl o1 rfl ?_
    refine Tj.goto dX8_becomeTurned_84 rfl ?_
    exact Tj.cut h ⟨rfl, ⟨rfl, ⟨rfl, ⟨rfl, ⟨rfl, trivial⟩⟩⟩⟩⟩
  · have h := h.2 c1
    refine Tj.iload dX8_becomeTurned_47 rfl rfl ?_
    refine Tj.iconst dX8_becomeTurned_49 (by decide) rfl ?_
    refine Tj.icmp_ge dX8_becomeTurned_50 rfl rfl (fun c2 => ?_) (fun c2 => ?_)
    · have h := h.1 c2
      obtain ⟨⟨o2, o3⟩, h⟩ := h
      refine Tj.aload_n dX8_becomeTurned_53 rfl rfl ?_
      refine Tj.getR (b := (a + 3)) dX8_becomeTurned_54 fl_X8_16 s_a0 rfl rfl ?_
      refine Tj.iconst dX8_becomeTurned_57 (by decide) rfl ?_
      refine Tj.iload dX8_becomeTurned_58 rfl rfl ?_
      refine Tj.imul dX8_becomeTurned_60 o2 rfl ?_
      refine Tj.iload dX8_becomeTurned_61 rfl rfl ?_
      refine Tj.iadd dX8_becomeTurned_63 o3 rfl ?_
      refine Tj.aload_n dX8_becomeTurned_64 rfl rfl ?_
      refine Tj.iload dX8_becomeTurned_65 rfl rfl ?_
      refine Tj.iload dX8_becomeTurned_67 rfl rfl ?_
      refine Tj.iload_n dX8_becomeTurned_69 rfl rfl ?_
      refine Tj.iload_n dX8_becomeTurned_70 rfl rfl ?_
      refine Tj.callVi (as := [_, _, _, _]) (rest := [_, _]) dX8_becomeTurned_71 ln_X8_76 s_b0 (by decide) rfl rfl (Nat.le_of_ble_eq_true rfl) ⟨Nat.le_of_ble_eq_true rfl, Nat.le_of_ble_eq_true rfl⟩ (Nat.le_of_ble_eq_true rfl) rfl ?_
      refine Cli.mono h (fun r1 m1 h => ?_)
      obtain ⟨⟨o4, o5, o6⟩, h⟩ := h
      refine Tj.iast dX8_becomeTurned_74 s_a3 o4 o5 rfl ?_
      refine Tj.iinc dX8_becomeTurned_75 rfl (Nat.le_of_ble_eq_true rfl) rfl o6 rfl ?_
      refine Tj.goto dX8_becomeTurned_78 rfl ?_
      exact Tj.cut h ⟨rfl, ⟨rfl, ⟨rfl, ⟨rfl, ⟨rfl, ⟨rfl, ⟨rfl, trivial⟩⟩⟩⟩⟩⟩⟩
    · have h := h.2 c2
      obtain ⟨o7, h⟩ := h
      refine Tj.iinc dX8_becomeTurned_81 rfl (Nat.le_of_ble_eq_true rfl) rfl o7 rfl ?_
      refine Tj.goto dX8_becomeTurned_84 rfl ?_
      exact Tj.cut h ⟨rfl, ⟨rfl, ⟨rfl, ⟨rfl, ⟨rfl, trivial⟩⟩⟩⟩⟩

theorem wX8_turnedX_0 {m : tM} {P : Option tV → tM → Prop} {a : Nat} {x1 : Int} {x2 : Int} {x3 : Int} (s_a0 : shp a = some (8, 0)) (s_a1 : shp (a + 1) = some (20, 60)) (s_a2 : shp (a + 2) = some (20, 60)) (h : (x3 = 0 → ((0 ≤ x1 ∧ x1 < 60) ∧ (Cli mX8_stepX [iV x2] m (fun r1 m1 => ((R32 ((m (a + 1) x1) * r1)) ∧ (Cli mX8_stepY [iV x2] m1 (fun r2 m2 => ((R32 ((m1 (a + 2) x1) * r2) ∧ R32 (((m (a + 1) x1) * r1) - ((m1 (a + 2) x1) * r2))) ∧ (P (some (iV (((m (a + 1) x1) * r1) - ((m1 (a + 2) x1) * r2)))) m2))))))))) ∧ (¬ x3 = 0 → ((0 ≤ x1 ∧ x1 < 60 ∧ R32 (-(m (a + 1) x1))) ∧ (Cli mX8_stepX [iV x2] m (fun r3 m3 => ((R32 ((-(m (a + 1) x1)) * r3)) ∧ (Cli mX8_stepY [iV x2] m3 (fun r4 m4 => ((R32 ((m3 (a + 2) x1) * r4) ∧ R32 (((-(m (a + 1) x1)) * r3) - ((m3 (a + 2) x1) * r4))) ∧ (P (some (iV (((-(m (a + 1) x1)) * r3) - ((m3 (a + 2) x1) * r4)))) m4)))))))))) : Tj mX8_turnedX 0 [some (rV a), some (iV x1), some (iV x2), some (iV x3)] [] m P := by
  refine Tj.iload_n dX8_turnedX_0 rfl rfl ?_
  refine Tj.if_eq dX8_turnedX_1 rfl rfl (fun c1 => ?_) (fun c1 => ?_)
  · have h := h.1 c1
    obtain ⟨⟨o1, o2⟩, h⟩ := h
    refine Tj.aload_n dX8_turnedX_14 rfl rfl ?_
    refine Tj.getR (b := (a + 1)) dX8_turnedX_15 fl_X8_9 s_a0 rfl rfl ?_
    refine Tj.iload_n dX8_turnedX_18 rfl rfl ?_
    refine Tj.iald dX8_turnedX_19 s_a1 o1 o2 rfl ?_
    refine Tj.istore dX8_turnedX_20 (Nat.le_of_ble_eq_true rfl) rfl rfl ?_
    refine Tj.iload dX8_turnedX_22 rfl rfl ?_
    refine Tj.iload_n dX8_turnedX_24 rfl rfl ?_
    refine Tj.callSi (as := [_]) (rest := [_]) dX8_turnedX_25 ln_X8_46 rfl rfl (Nat.le_of_ble_eq_true rfl) ⟨Nat.le_of_ble_eq_true rfl, Nat.le_of_ble_eq_true rfl⟩ (Nat.le_of_ble_eq_true rfl) rfl ?_
    refine Cli.mono h (fun r1 m1 h => ?_)
    obtain ⟨o3, h⟩ := h
    refine Tj.imul dX8_turnedX_28 o3 rfl ?_
    refine Tj.aload_n dX8_turnedX_29 rfl rfl ?_
    refine Tj.getR (b := (a + 2)) dX8_turnedX_30 fl_X8_13 s_a0 rfl rfl ?_
    refine Tj.iload_n dX8_turnedX_33 rfl rfl ?_
    refine Tj.iald dX8_turnedX_34 s_a2 o1 o2 rfl ?_
    refine Tj.iload_n dX8_turnedX_35 rfl rfl ?_
    refine Tj.callSi (as := [_]) (rest := [_, _]) dX8_turnedX_36 ln_X8_49 rfl rfl (Nat.le_of_ble_eq_true rfl) ⟨Nat.le_of_ble_eq_true rfl, Nat.le_of_ble_eq_true rfl⟩ (Nat.le_of_ble_eq_true rfl) rfl ?_
    refine Cli.mono h (fun r2 m2 h => ?_)
    obtain ⟨⟨o4, o5⟩, h⟩ := h
    refine Tj.imul dX8_turnedX_39 o4 rfl ?_
    refine Tj.isub dX8_turnedX_40 o5 rfl ?_
    exact Tj.iret dX8_turnedX_41 rfl h
  · have h := h.2 c1
    obtain ⟨⟨o6, o7, o8⟩, h⟩ := h
    refine Tj.aload_n dX8_turnedX_4 rfl rfl ?_
    refine Tj.getR (b := (a + 1)) dX8_turnedX_5 fl_X8_9 s_a0 rfl rfl ?_
    refine Tj.iload_n dX8_turnedX_8 rfl rfl ?_
    refine Tj.iald dX8_turnedX_9 s_a1 o6 o7 rfl ?_
    refine Tj.ineg dX8_turnedX_10 o8 rfl ?_
    refine Tj.goto dX8_turnedX_11 rfl ?_
    refine Tj.istore dX8_turnedX_20 (Nat.le_of_ble_eq_true rfl) rfl rfl ?_
    refine Tj.iload dX8_turnedX_22 rfl rfl ?_
    refine Tj.iload_n dX8_turnedX_24 rfl rfl ?_
    refine Tj.callSi (as := [_]) (rest := [_]) dX8_turnedX_25 ln_X8_46 rfl rfl (Nat.le_of_ble_eq_true rfl) ⟨Nat.le_of_ble_eq_true rfl, Nat.le_of_ble_eq_true rfl⟩ (Nat.le_of_ble_eq_true rfl) rfl ?_
    refine Cli.mono h (fun r3 m3 h => ?_)
    obtain ⟨o9, h⟩ := h
    refine Tj.imul dX8_turnedX_28 o9 rfl ?_
    refine Tj.aload_n dX8_turnedX_29 rfl rfl ?_
    refine Tj.getR (b := (a + 2)) dX8_turnedX_30 fl_X8_13 s_a0 rfl rfl ?_
    refine Tj.iload_n dX8_turnedX_33 rfl rfl ?_
    refine Tj.iald dX8_turnedX_34 s_a2 o6 o7 rfl ?_
    refine Tj.iload_n dX8_turnedX_35 rfl rfl ?_
    refine Tj.callSi (as := [_]) (rest := [_, _]) dX8_turnedX_36 ln_X8_49 rfl rfl (Nat.le_of_ble_eq_true rfl) ⟨Nat.le_of_ble_eq_true rfl, Nat.le_of_ble_eq_true rfl⟩ (Nat.le_of_ble_eq_true rfl) rfl ?_
    refine Cli.mono h (fun r4 m4 h => ?_)
    obtain ⟨⟨o10, o11⟩, h⟩ := h
    refine Tj.imul dX8_turnedX_39 o10 rfl ?_
    refine Tj.isub dX8_turnedX_40 o11 rfl ?_
    exact Tj.iret dX8_turnedX_41 rfl h

theorem wX8_turnedY_0 {m : tM} {P : Option tV → tM → Prop} {a : Nat} {x1 : Int} {x2 : Int} {x3 : Int} (s_a0 : shp a = some (8, 0)) (s_a1 : shp (a + 1) = some (20, 60)) (s_a2 : shp (a + 2) = some (20, 60)) (h : (x3 = 0 → ((0 ≤ x1 ∧ x1 < 60) ∧ (Cli mX8_stepY [iV x2] m (fun r1 m1 => ((R32 ((m (a + 1) x1) * r1)) ∧ (Cli mX8_stepX [iV x2] m1 (fun r2 m2 => ((R32 ((m1 (a + 2) x1) * r2) ∧ R32 (((m (a + 1) x1) * r1) + ((m1 (a + 2) x1) * r2))) ∧ (P (some (iV (((m (a + 1) x1) * r1) + ((m1 (a + 2) x1) * r2)))) m2))))))))) ∧ (¬ x3 = 0 → ((0 ≤ x1 ∧ x1 < 60 ∧ R32 (-(m (a + 1) x1))) ∧ (Cli mX8_stepY [iV x2] m (fun r3 m3 => ((R32 ((-(m (a + 1) x1)) * r3)) ∧ (Cli mX8_stepX [iV x2] m3 (fun r4 m4 => ((R32 ((m3 (a + 2) x1) * r4) ∧ R32 (((-(m (a + 1) x1)) * r3) + ((m3 (a + 2) x1) * r4))) ∧ (P (some (iV (((-(m (a + 1) x1)) * r3) + ((m3 (a + 2) x1) * r4)))) m4)))))))))) : Tj mX8_turnedY 0 [some (rV a), some (iV x1), some (iV x2), some (iV x3)] [] m P := by
  refine Tj.iload_n dX8_turnedY_0 rfl rfl ?_
  refine Tj.if_eq dX8_turnedY_1 rfl rfl (fun c1 => ?_) (fun c1 => ?_)
  · have h := h.1 c1
    obtain ⟨⟨o1, o2⟩, h⟩ := h
    refine Tj.aload_n dX8_turnedY_14 rfl rfl ?_
    refine Tj.getR (b := (a + 1)) dX8_turnedY_15 fl_X8_9 s_a0 rfl rfl ?_
    refine Tj.iload_n dX8_turnedY_18 rfl rfl ?_
    refine Tj.iald dX8_turnedY_19 s_a1 o1 o2 rfl ?_
    refine Tj.istore dX8_turnedY_20 (Nat.le_of_ble_eq_true rfl) rfl rfl ?_
    refine Tj.iload dX8_turnedY_22 rfl rfl ?_
    refine Tj.iload_n dX8_turnedY_24 rfl rfl ?_
    refine Tj.callSi (as := [_]) (rest := [_]) dX8_turnedY_25 ln_X8_49 rfl rfl (Nat.le_of_ble_eq_true rfl) ⟨Nat.le_of_ble_eq_true rfl, Nat.le_of_ble_eq_true rfl⟩ (Nat.le_of_ble_eq_true rfl) rfl ?_
    refine Cli.mono h (fun r1 m1 h => ?_)
    obtain ⟨o3, h⟩ := h
    refine Tj.imul dX8_turnedY_28 o3 rfl ?_
    refine Tj.aload_n dX8_turnedY_29 rfl rfl ?_
    refine Tj.getR (b := (a + 2)) dX8_turnedY_30 fl_X8_13 s_a0 rfl rfl ?_
    refine Tj.iload_n dX8_turnedY_33 rfl rfl ?_
    refine Tj.iald dX8_turnedY_34 s_a2 o1 o2 rfl ?_
    refine Tj.iload_n dX8_turnedY_35 rfl rfl ?_
    refine Tj.callSi (as := [_]) (rest := [_, _]) dX8_turnedY_36 ln_X8_46 rfl rfl (Nat.le_of_ble_eq_true rfl) ⟨Nat.le_of_ble_eq_true rfl, Nat.le_of_ble_eq_true rfl⟩ (Nat.le_of_ble_eq_true rfl) rfl ?_
    refine Cli.mono h (fun r2 m2 h => ?_)
    obtain ⟨⟨o4, o5⟩, h⟩ := h
    refine Tj.imul dX8_turnedY_39 o4 rfl ?_
    refine Tj.iadd dX8_turnedY_40 o5 rfl ?_
    exact Tj.iret dX8_turnedY_41 rfl h
  · have h := h.2 c1
    obtain ⟨⟨o6, o7, o8⟩, h⟩ := h
    refine Tj.aload_n dX8_turnedY_4 rfl rfl ?_
    refine Tj.getR (b := (a + 1)) dX8_turnedY_5 fl_X8_9 s_a0 rfl rfl ?_
    refine Tj.iload_n dX8_turnedY_8 rfl rfl ?_
    refine Tj.iald dX8_turnedY_9 s_a1 o6 o7 rfl ?_
    refine Tj.ineg dX8_turnedY_10 o8 rfl ?_
    refine Tj.goto dX8_turnedY_11 rfl ?_
    refine Tj.istore dX8_turnedY_20 (Nat.le_of_ble_eq_true rfl) rfl rfl ?_
    refine Tj.iload dX8_turnedY_22 rfl rfl ?_
    refine Tj.iload_n dX8_turnedY_24 rfl rfl ?_
    refine Tj.callSi (as := [_]) (rest := [_]) dX8_turnedY_25 ln_X8_49 rfl rfl (Nat.le_of_ble_eq_true rfl) ⟨Nat.le_of_ble_eq_true rfl, Nat.le_of_ble_eq_true rfl⟩ (Nat.le_of_ble_eq_true rfl) rfl ?_
    refine Cli.mono h (fun r3 m3 h => ?_)
    obtain ⟨o9, h⟩ := h
    refine Tj.imul dX8_turnedY_28 o9 rfl ?_
    refine Tj.aload_n dX8_turnedY_29 rfl rfl ?_
    refine Tj.getR (b := (a + 2)) dX8_turnedY_30 fl_X8_13 s_a0 rfl rfl ?_
    refine Tj.iload_n dX8_turnedY_33 rfl rfl ?_
    refine Tj.iald dX8_turnedY_34 s_a2 o6 o7 rfl ?_
    refine Tj.iload_n dX8_turnedY_35 rfl rfl ?_
    refine Tj.callSi (as := [_]) (rest := [_, _]) dX8_turnedY_36 ln_X8_46 rfl rfl (Nat.le_of_ble_eq_true rfl) ⟨Nat.le_of_ble_eq_true rfl, Nat.le_of_ble_eq_true rfl⟩ (Nat.le_of_ble_eq_true rfl) rfl ?_
    refine Cli.mono h (fun r4 m4 h => ?_)
    obtain ⟨⟨o10, o11⟩, h⟩ := h
    refine Tj.imul dX8_turnedY_39 o10 rfl ?_
    refine Tj.iadd dX8_turnedY_40 o11 rfl ?_
    exact Tj.iret dX8_turnedY_41 rfl h

theorem wX8_turnedCrease_0 {m : tM} {P : Option tV → tM → Prop} {a : Nat} {x1 : Int} {x2 : Int} {x3 : Int} {x4 : Int} (s_a0 : shp a = some (8, 0)) (s_a3 : shp (a + 3) = some (20, 240)) (h : (R32 (x2 - x3) ∧ R32 (4 * x1)) ∧ ((x4 = 0 → ((R32 ((4 * x1) + (bAnd (x2 - x3) 3)) ∧ 0 ≤ ((4 * x1) + (bAnd (x2 - x3) 3)) ∧ ((4 * x1) + (bAnd (x2 - x3) 3)) < 240) ∧ (P (some (iV (m (a + 3) ((4 * x1) + (bAnd (x2 - x3) 3))))) m))) ∧ (¬ x4 = 0 → (Cli mX8_mirrored [iV (bAnd (x2 - x3) 3)] m (fun r1 m1 => ((R32 ((4 * x1) + r1) ∧ 0 ≤ ((4 * x1) + r1) ∧ ((4 * x1) + r1) < 240) ∧ (P (some (iV (m1 (a + 3) ((4 * x1) + r1)))) m1))))))) : Tj mX8_turnedCrease 0 [some (rV a), some (iV x1), some (iV x2), some (iV x3), some (iV x4)] [] m P := by
  obtain ⟨⟨o1, o2⟩, h⟩ := h
  refine Tj.iload_n dX8_turnedCrease_0 rfl rfl ?_
  refine Tj.iload_n dX8_turnedCrease_1 rfl rfl ?_
  refine Tj.isub dX8_turnedCrease_2 o1 rfl ?_
  refine Tj.iconst dX8_turnedCrease_3 (by decide) rfl ?_
  refine Tj.iand dX8_turnedCrease_4 rfl ?_
  refine Tj.istore dX8_turnedCrease_5 (Nat.le_of_ble_eq_true rfl) rfl rfl ?_
  refine Tj.aload_n dX8_turnedCrease_7 rfl rfl ?_
  refine Tj.getR (b := (a + 3)) dX8_turnedCrease_8 fl_X8_16 s_a0 rfl rfl ?_
  refine Tj.iconst dX8_turnedCrease_11 (by decide) rfl ?_
  refine Tj.iload_n dX8_turnedCrease_12 rfl rfl ?_
  refine Tj.imul dX8_turnedCrease_13 o2 rfl ?_
  refine Tj.iload dX8_turnedCrease_14 rfl rfl ?_
  refine Tj.if_eq dX8_turnedCrease_16 rfl rfl (fun c1 => ?_) (fun c1 => ?_)
  · have h := h.1 c1
    obtain ⟨⟨o3, o4, o5⟩, h⟩ := h
    refine Tj.iload dX8_turnedCrease_27 rfl rfl ?_
    refine Tj.iadd dX8_turnedCrease_29 o3 rfl ?_
    refine Tj.iald dX8_turnedCrease_30 s_a3 o4 o5 rfl ?_
    exact Tj.iret dX8_turnedCrease_31 rfl h
  · have h := h.2 c1
    refine Tj.iload dX8_turnedCrease_19 rfl rfl ?_
    refine Tj.callSi (as := [_]) (rest := [_, _]) dX8_turnedCrease_21 ln_X8_80 rfl rfl (Nat.le_of_ble_eq_true rfl) ⟨Nat.le_of_ble_eq_true rfl, Nat.le_of_ble_eq_true rfl⟩ (Nat.le_of_ble_eq_true rfl) rfl ?_
    refine Cli.mono h (fun r1 m1 h => ?_)
    obtain ⟨⟨o6, o7, o8⟩, h⟩ := h
    refine Tj.goto dX8_turnedCrease_24 rfl ?_
    refine Tj.iadd dX8_turnedCrease_29 o6 rfl ?_
    refine Tj.iald dX8_turnedCrease_30 s_a3 o7 o8 rfl ?_
    exact Tj.iret dX8_turnedCrease_31 rfl h
