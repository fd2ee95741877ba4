theorem wX4_length_0 {m : tM} {P : Option tV → tM → Prop} {a : Nat} (s_a0 : shp a = some (4, 0)) (h : P (some (iV (m a 3))) m) : Tj mX4_length 0 [some (rV a)] [] m P := by
  refine Tj.aload_n dX4_length_0 rfl rfl ?_
  refine Tj.gI (j := 3) dX4_length_1 fl_X4_21 s_a0 rfl rfl ?_
  exact Tj.iret dX4_length_4 rfl h

theorem wX4_number_0 {m : tM} {P : Option tV → tM → Prop} {a : Nat} {x1 : Int} (s_a0 : shp a = some (4, 0)) (s_a1 : shp (a + 1) = some (20, 240)) (h : (0 ≤ x1 ∧ x1 < 240) ∧ (P (some (iV (m (a + 1) x1))) m)) : Tj mX4_number 0 [some (rV a), some (iV x1)] [] m P := by
  obtain ⟨⟨o1, o2⟩, h⟩ := h
  refine Tj.aload_n dX4_number_0 rfl rfl ?_
  refine Tj.getR (b := (a + 1)) dX4_number_1 fl_X4_11 s_a0 rfl rfl ?_
  refine Tj.iload_n dX4_number_4 rfl rfl ?_
  refine Tj.iald dX4_number_5 s_a1 o1 o2 rfl ?_
  exact Tj.iret dX4_number_6 rfl h

theorem wX4_timesWritten_0 {m : tM} {P : Option tV → tM → Prop} {a : Nat} (s_a0 : shp a = some (4, 0)) (h : P (some (iV (m a 4))) m) : Tj mX4_timesWritten 0 [some (rV a)] [] m P := by
  refine Tj.aload_n dX4_timesWritten_0 rfl rfl ?_
  refine Tj.gI (j := 4) dX4_timesWritten_1 fl_X4_25 s_a0 rfl rfl ?_
  exact Tj.iret dX4_timesWritten_4 rfl h

theorem wX4_matches_0 {m : tM} {P : Option tV → tM → Prop} {a : Nat} {b : Nat} (s_a0 : shp a = some (4, 0)) (s_b0 : shp b = some (4, 0)) (h : ((m a 3) = (m b 3) → (Cli mX4_compare [rV a, rV (a + 1), rV (b + 1)] m (fun r1 m1 => (∀ v1 : Int, v1 = (if r1 = 0 then 1 else 0) → (P (some (iV v1)) m1))))) ∧ (¬ (m a 3) = (m b 3) → (P (some (iV 0)) m))) : Tj mX4_matches 0 [some (rV a), some (rV b)] [] m P := by
  refine Tj.aload_n dX4_matches_0 rfl rfl ?_
  refine Tj.gI (j := 3) dX4_matches_1 fl_X4_21 s_a0 rfl rfl ?_
  refine Tj.aload_n dX4_matches_4 rfl rfl ?_
  refine Tj.gI (j := 3) dX4_matches_5 fl_X4_21 s_b0 rfl rfl ?_
  refine Tj.icmp_eq dX4_matches_8 rfl rfl (fun c1 => ?_) (fun c1 => ?_)
  · have h := h.1 c1
    refine Tj.aload_n dX4_matches_13 rfl rfl ?_
    refine Tj.aload_n dX4_matches_14 rfl rfl ?_
    refine Tj.getR (b := (a + 1)) dX4_matches_15 fl_X4_11 s_a0 rfl rfl ?_
    refine Tj.aload_n dX4_matches_18 rfl rfl ?_
    refine Tj.getR (b := (b + 1)) dX4_matches_19 fl_X4_11 s_b0 rfl rfl ?_
    refine Tj.callVi (as := [_, _]) (rest := []) dX4_matches_22 ln_X4_28 s_a0 (by decide) rfl rfl (Nat.le_of_ble_eq_true rfl) ⟨Nat.le_of_ble_eq_true rfl, Nat.le_of_ble_eq_true rfl⟩ (Nat.le_of_ble_eq_true rfl) rfl ?_
    refine Cli.mono h (fun r1 m1 h => ?_)
    have hj : Tj mX4_matches 33 [] [iV (if r1 = 0 then 1 else 0)] m1 P := by
      generalize hv1 : ((if r1 = 0 then 1 else 0) : Int) = v1
      have h := h v1 hv1.symm
      exact Tj.zret dX4_matches_33 rfl (by rw [← hv1]; (repeat' split) <;> simp) h
    refine Tj.if_ne dX4_matches_25 rfl rfl (fun c2 => ?_) (fun c2 => ?_)
    · refine Tj.iconst dX4_matches_28 (by decide) rfl ?_
      refine Tj.goto dX4_matches_29 rfl ?_
      try simp only [if_pos c2] at hj ⊢
      exact Tj.cut hj trivial
    · refine Tj.iconst dX4_matches_32 (by decide) rfl ?_
      try simp only [if_neg c2] at hj ⊢
      exact Tj.cut hj trivial
  · have h := h.2 c1
    refine Tj.iconst dX4_matches_11 (by decide) rfl ?_
    exact Tj.zret dX4_matches_12 rfl (by decide) h

theorem wX4_take_0 {m : tM} {P : Option tV → tM → Prop} {a : Nat} {b : Nat} (s_a0 : shp a = some (4, 0)) (s_b0 : shp b = some (8, 0)) (h : Cli mX8_size [rV b] m (fun r1 m1 => ((R32 (4 * r1)) ∧ (Tj mX4_take 17 [some (rV a), some (rV b), some (iV 0)] [] (up (up m1 a 3 (4 * r1)) a 4 0) P)))) : Tj mX4_take 0 [some (rV a), some (rV b)] [] m P := by
  refine Tj.aload_n dX4_take_0 rfl rfl ?_
  refine Tj.iconst dX4_take_1 (by decide) rfl ?_
  refine Tj.aload_n dX4_take_2 rfl rfl ?_
  refine Tj.callVi (as := []) (rest := [_, _]) dX4_take_3 ln_X4_32 s_b0 (by decide) rfl rfl (Nat.le_of_ble_eq_true rfl) ⟨Nat.le_of_ble_eq_true rfl, Nat.le_of_ble_eq_true rfl⟩ (Nat.le_of_ble_eq_true rfl) rfl ?_
  refine Cli.mono h (fun r1 m1 h => ?_)
  obtain ⟨o1, h⟩ := h
  refine Tj.imul dX4_take_6 o1 rfl ?_
  refine Tj.pI (j := 3) dX4_take_7 fp_X4_21 s_a0 rfl rfl ?_
  refine Tj.aload_n dX4_take_10 rfl rfl ?_
  refine Tj.iconst dX4_take_11 (by decide) rfl ?_
  refine Tj.pI (j := 4) dX4_take_12 fp_X4_25 s_a0 rfl rfl ?_
  refine Tj.iconst dX4_take_15 (by decide) rfl ?_
  refine Tj.istore_n dX4_take_16 (Nat.le_of_ble_eq_true rfl) rfl rfl ?_
  exact Tj.cut h ⟨rfl, ⟨rfl, ⟨rfl, trivial⟩⟩⟩

theorem wX4_take_17 {m : tM} {P : Option tV → tM → Prop} {a : Nat} {b : Nat} {x2 : Int} (s_a0 : shp a = some (4, 0)) (s_a1 : shp (a + 1) = some (20, 240)) (s_a2 : shp (a + 2) = some (20, 240)) (h : (x2 < 8 → (∀ v1 : Int, v1 = (if x2 < 4 then 0 else 1) → (Clv mX4_write [rV a, rV b, iV (bAnd x2 3), iV v1] m (fun m1 => (((m1 a 4) = 0 → ((0 ≤ (m1 a 3) ∧ 0 + (m1 a 3) ≤ 240) ∧ (∀ m2 : tM, m2 = (sr m1 (a + 1) (cpr (m1 (a + 2)) (m1 (a + 1)) 0 0 (m1 a 3))) → ((R32 (x2 + 1)) ∧ (Tj mX4_take 17 [some (rV a), some (rV b), some (iV (x2 + 1))] [] (up m2 a 4 1) P))))) ∧ (¬ (m1 a 4) = 0 → (Cli mX4_compare [rV a, rV (a + 2), rV (a + 1)] m1 (fun r1 m3 => ((r1 < 0 → ((0 ≤ (m3 a 3) ∧ 0 + (m3 a 3) ≤ 240) ∧ (∀ m4 : tM, m4 = (sr m3 (a + 1) (cpr (m3 (a + 2)) (m3 (a + 1)) 0 0 (m3 a 3))) → ((R32 (x2 + 1)) ∧ (Tj mX4_take 17 [some (rV a), some (rV b), some (iV (x2 + 1))] [] (up m4 a 4 1) P))))) ∧ (¬ r1 < 0 → ((r1 = 0 → ((R32 ((m3 a 4) + 1) ∧ R32 (x2 + 1)) ∧ (Tj mX4_take 17 [some (rV a), some (rV b), some (iV (x2 + 1))] [] (up m3 a 4 ((m3 a 4) + 1)) P))) ∧ (¬ r1 = 0 → ((R32 (x2 + 1)) ∧ (Tj mX4_take 17 [some (rV a), some (rV b), some (iV (x2 + 1))] [] m3 P)))))))))))))) ∧ (¬ x2 < 8 → (P none m))) : Tj mX4_take 17 [some (rV a), some (rV b), some (iV x2)] [] m P := by
  refine Tj.iload_n dX4_take_17 rfl rfl ?_
  refine Tj.bipush dX4_take_18 (by decide) (by decide +kernel) rfl ?_
  refine Tj.icmp_ge dX4_take_20 rfl rfl (fun c1 => ?_) (fun c1 => ?_)
  · have h := h.1 c1
    refine Tj.aload_n dX4_take_23 rfl rfl ?_
    refine Tj.aload_n dX4_take_24 rfl rfl ?_
    refine Tj.iload_n dX4_take_25 rfl rfl ?_
    refine Tj.iconst dX4_take_26 (by decide) rfl ?_
    refine Tj.iand dX4_take_27 rfl ?_
    refine Tj.iload_n dX4_take_28 rfl rfl ?_
    refine Tj.iconst dX4_take_29 (by decide) rfl ?_
    have hj : Tj mX4_take 38 [some (rV a), some (rV b), some (iV x2)] [iV (if x2 < 4 then 0 else 1), iV (bAnd x2 3), rV b, rV a] m P := by
      generalize hv1 : ((if x2 < 4 then 0 else 1) : Int) = v1
      have h := h v1 hv1.symm
      refine Tj.callVv (as := [_, _, _]) (rest := []) dX4_take_38 ln_X4_35 s_a0 (by decide) rfl rfl (Nat.le_of_ble_eq_true rfl) ⟨Nat.le_of_ble_eq_true rfl, Nat.le_of_ble_eq_true rfl⟩ (Nat.le_of_ble_eq_true rfl) rfl ?_
      refine Clv.mono h (fun m1 h => ?_)
      refine Tj.aload_n dX4_take_41 rfl rfl ?_
      refine Tj.gI (j := 4) dX4_take_42 fl_X4_25 s_a0 rfl rfl ?_
      refine Tj.if_ne dX4_take_45 rfl rfl (fun c3 => ?_) (fun c3 => ?_)
      · have h := h.1 c3
        obtain ⟨⟨o1, o2⟩, h⟩ := h
        refine Tj.iconst dX4_take_48 (by decide) rfl ?_
        refine Tj.goto dX4_take_49 rfl ?_
        refine Tj.istore_n dX4_take_64 (Nat.le_of_ble_eq_true rfl) rfl rfl ?_
        refine Tj.iload_n dX4_take_65 rfl rfl ?_
        refine Tj.if_ge dX4_take_66 rfl rfl (fun c4 => ?_) (fun c4 => ?_)
        case refine_2 => exact absurd (by decide) c4
        refine Tj.aload_n dX4_take_69 rfl rfl ?_
        refine Tj.getR (b := (a + 2)) dX4_take_70 fl_X4_15 s_a0 rfl rfl ?_
        refine Tj.iconst dX4_take_73 (by decide) rfl ?_
        refine Tj.aload_n dX4_take_74 rfl rfl ?_
        refine Tj.getR (b := (a + 1)) dX4_take_75 fl_X4_11 s_a0 rfl rfl ?_
        refine Tj.iconst dX4_take_78 (by decide) rfl ?_
        refine Tj.aload_n dX4_take_79 rfl rfl ?_
        refine Tj.gI (j := 3) dX4_take_80 fl_X4_21 s_a0 rfl rfl ?_
        refine Tj.copy dX4_take_83 ac_X4_39 ac_ok s_a2 s_a1 (by decide) (by decide) o1 o2 o2 ⟨Nat.le_of_ble_eq_true rfl, Nat.le_of_ble_eq_true rfl⟩ rfl ?_
        show Tj mX4_take 86 [some (rV a), some (rV b), some (iV x2), some (iV (-1))] [] (sr m1 (a + 1) (cpr (m1 (a + 2)) (m1 (a + 1)) 0 0 (m1 a 3))) P
        generalize hm2 : (sr m1 (a + 1) (cpr (m1 (a + 2)) (m1 (a + 1)) 0 0 (m1 a 3))) = m2
        have h := h m2 hm2.symm
        obtain ⟨o3, h⟩ := h
        refine Tj.aload_n dX4_take_86 rfl rfl ?_
        refine Tj.iconst dX4_take_87 (by decide) rfl ?_
        refine Tj.pI (j := 4) dX4_take_88 fp_X4_25 s_a0 rfl rfl ?_
        refine Tj.goto dX4_take_91 rfl ?_
        refine Tj.iinc dX4_take_108 rfl (Nat.le_of_ble_eq_true rfl) rfl o3 rfl ?_
        refine Tj.goto dX4_take_111 rfl ?_
        exact Tj.cut h ⟨rfl, ⟨rfl, ⟨rfl, trivial⟩⟩⟩
      · have h := h.2 c3
        refine Tj.aload_n dX4_take_52 rfl rfl ?_
        refine Tj.aload_n dX4_take_53 rfl rfl ?_
        refine Tj.getR (b := (a + 2)) dX4_take_54 fl_X4_15 s_a0 rfl rfl ?_
        refine Tj.aload_n dX4_take_57 rfl rfl ?_
        refine Tj.getR (b := (a + 1)) dX4_take_58 fl_X4_11 s_a0 rfl rfl ?_
        refine Tj.callVi (as := [_, _]) (rest := []) dX4_take_61 ln_X4_28 s_a0 (by decide) rfl rfl (Nat.le_of_ble_eq_true rfl) ⟨Nat.le_of_ble_eq_true rfl, Nat.le_of_ble_eq_true rfl⟩ (Nat.le_of_ble_eq_true rfl) rfl ?_
        refine Cli.mono h (fun r1 m3 h => ?_)
        refine Tj.istore_n dX4_take_64 (Nat.le_of_ble_eq_true rfl) rfl rfl ?_
        refine Tj.iload_n dX4_take_65 rfl rfl ?_
        refine Tj.if_ge dX4_take_66 rfl rfl (fun c5 => ?_) (fun c5 => ?_)
        · have h := h.1 c5
          obtain ⟨⟨o4, o5⟩, h⟩ := h
          refine Tj.aload_n dX4_take_69 rfl rfl ?_
          refine Tj.getR (b := (a + 2)) dX4_take_70 fl_X4_15 s_a0 rfl rfl ?_
          refine Tj.iconst dX4_take_73 (by decide) rfl ?_
          refine Tj.aload_n dX4_take_74 rfl rfl ?_
          refine Tj.getR (b := (a + 1)) dX4_take_75 fl_X4_11 s_a0 rfl rfl ?_
          refine Tj.iconst dX4_take_78 (by decide) rfl ?_
          refine Tj.aload_n dX4_take_79 rfl rfl ?_
          refine Tj.gI (j := 3) dX4_take_80 fl_X4_21 s_a0 rfl rfl ?_
          refine Tj.copy dX4_take_83 ac_X4_39 ac_ok s_a2 s_a1 (by decide) (by decide) o4 o5 o5 ⟨Nat.le_of_ble_eq_true rfl, Nat.le_of_ble_eq_true rfl⟩ rfl ?_
          show Tj mX4_take 86 [some (rV a), some (rV b), some (iV x2), some (iV r1)] [] (sr m3 (a + 1) (cpr (m3 (a + 2)) (m3 (a + 1)) 0 0 (m3 a 3))) P
          generalize hm4 : (sr m3 (a + 1) (cpr (m3 (a + 2)) (m3 (a + 1)) 0 0 (m3 a 3))) = m4
          have h := h m4 hm4.symm
          obtain ⟨o6, h⟩ := h
          refine Tj.aload_n dX4_take_86 rfl rfl ?_
          refine Tj.iconst dX4_take_87 (by decide) rfl ?_
          refine Tj.pI (j := 4) dX4_take_88 fp_X4_25 s_a0 rfl rfl ?_
          refine Tj.goto dX4_take_91 rfl ?_
          refine Tj.iinc dX4_take_108 rfl (Nat.le_of_ble_eq_true rfl) rfl o6 rfl ?_
          refine Tj.goto dX4_take_111 rfl ?_
          exact Tj.cut h ⟨rfl, ⟨rfl, ⟨rfl, trivial⟩⟩⟩
        · have h := h.2 c5
          refine Tj.iload_n dX4_take_94 rfl rfl ?_
          refine Tj.if_ne dX4_take_95 rfl rfl (fun c6 => ?_) (fun c6 => ?_)
          · have h := h.1 c6
            obtain ⟨⟨o7, o8⟩, h⟩ := h
            refine Tj.aload_n dX4_take_98 rfl rfl ?_
            refine Tj.dup dX4_take_99 rfl rfl ?_
            refine Tj.gI (j := 4) dX4_take_100 fl_X4_25 s_a0 rfl rfl ?_
            refine Tj.iconst dX4_take_103 (by decide) rfl ?_
            refine Tj.iadd dX4_take_104 o7 rfl ?_
            refine Tj.pI (j := 4) dX4_take_105 fp_X4_25 s_a0 rfl rfl ?_
            refine Tj.iinc dX4_take_108 rfl (Nat.le_of_ble_eq_true rfl) rfl o8 rfl ?_
            refine Tj.goto dX4_take_111 rfl ?_
            exact Tj.cut h ⟨rfl, ⟨rfl, ⟨rfl, trivial⟩⟩⟩
          · have h := h.2 c6
            obtain ⟨o9, h⟩ := h
            refine Tj.iinc dX4_take_108 rfl (Nat.le_of_ble_eq_true rfl) rfl o9 rfl ?_
            refine Tj.goto dX4_take_111 rfl ?_
            exact Tj.cut h ⟨rfl, ⟨rfl, ⟨rfl, trivial⟩⟩⟩
    refine Tj.icmp_lt dX4_take_30 rfl rfl (fun c2 => ?_) (fun c2 => ?_)
    · refine Tj.iconst dX4_take_37 (by decide) rfl ?_
      try simp only [if_pos c2] at hj ⊢
      exact Tj.cut hj ⟨rfl, ⟨rfl, ⟨rfl, trivial⟩⟩⟩
    · refine Tj.iconst dX4_take_33 (by decide) rfl ?_
      refine Tj.goto dX4_take_34 rfl ?_
      try simp only [if_neg c2] at hj ⊢
      exact Tj.cut hj ⟨rfl, ⟨rfl, ⟨rfl, trivial⟩⟩⟩
  · have h := h.2 c1
    exact Tj.vret dX4_take_114 rfl h

theorem wX4_compare_0 {m : tM} {P : Option tV → tM → Prop} {a : Nat} {p : Nat} {np : Nat} {q : Nat} {nq : Nat}  (h : Tj mX4_compare 2 [some (rV a), some (rV p), some (rV q), some (iV 0)] [] m P) : Tj mX4_compare 0 [some (rV a), some (rV p), some (rV q)] [] m P := by
  refine Tj.iconst dX4_compare_0 (by decide) rfl ?_
  refine Tj.istore_n dX4_compare_1 (Nat.le_of_ble_eq_true rfl) rfl rfl ?_
  exact Tj.cut h ⟨rfl, ⟨rfl, ⟨rfl, ⟨rfl, trivial⟩⟩⟩⟩

theorem wX4_compare_2 {m : tM} {P : Option tV → tM → Prop} {a : Nat} {p : Nat} {np : Nat} {q : Nat} {nq : Nat} {x3 : Int} (s_a0 : shp a = some (4, 0)) (s_p0 : shp p = some (20, np)) (s_q0 : shp q = some (20, nq)) (h : (x3 < (m a 3) → ((0 ≤ x3 ∧ x3 < np ∧ x3 < nq) ∧ (((m p x3) = (m q x3) → ((R32 (x3 + 1)) ∧ (Tj mX4_compare 2 [some (rV a), some (rV p), some (rV q), some (iV (x3 + 1))] [] m P))) ∧ (¬ (m p x3) = (m q x3) → (∀ v1 : Int, v1 = (if (m p x3) < (m q x3) then (-1) else 1) → (P (some (iV v1)) m)))))) ∧ (¬ x3 < (m a 3) → (P (some (iV 0)) m))) : Tj mX4_compare 2 [some (rV a), some (rV p), some (rV q), some (iV x3)] [] m P := by
  refine Tj.iload_n dX4_compare_2 rfl rfl ?_
  refine Tj.aload_n dX4_compare_3 rfl rfl ?_
  refine Tj.gI (j := 3) dX4_compare_4 fl_X4_21 s_a0 rfl rfl ?_
  refine Tj.icmp_ge dX4_compare_7 rfl rfl (fun c1 => ?_) (fun c1 => ?_)
  · have h := h.1 c1
    obtain ⟨⟨o1, o2, o3⟩, h⟩ := h
    refine Tj.aload_n dX4_compare_10 rfl rfl ?_
    refine Tj.iload_n dX4_compare_11 rfl rfl ?_
    refine Tj.iald dX4_compare_12 s_p0 o1 o2 rfl ?_
    refine Tj.aload_n dX4_compare_13 rfl rfl ?_
    refine Tj.iload_n dX4_compare_14 rfl rfl ?_
    refine Tj.iald dX4_compare_15 s_q0 o1 o3 rfl ?_
    refine Tj.icmp_eq dX4_compare_16 rfl rfl (fun c2 => ?_) (fun c2 => ?_)
    · have h := h.1 c2
      obtain ⟨o4, h⟩ := h
      refine Tj.iinc dX4_compare_34 rfl (Nat.le_of_ble_eq_true rfl) rfl o4 rfl ?_
      refine Tj.goto dX4_compare_37 rfl ?_
      exact Tj.cut h ⟨rfl, ⟨rfl, ⟨rfl, ⟨rfl, trivial⟩⟩⟩⟩
    · have h := h.2 c2
      refine Tj.aload_n dX4_compare_19 rfl rfl ?_
      refine Tj.iload_n dX4_compare_20 rfl rfl ?_
      refine Tj.iald dX4_compare_21 s_p0 o1 o2 rfl ?_
      refine Tj.aload_n dX4_compare_22 rfl rfl ?_
      refine Tj.iload_n dX4_compare_23 rfl rfl ?_
      refine Tj.iald dX4_compare_24 s_q0 o1 o3 rfl ?_
      have hj : Tj mX4_compare 33 [] [iV (if (m p x3) < (m q x3) then (-1) else 1)] m P := by
        generalize hv1 : ((if (m p x3) < (m q x3) then (-1) else 1) : Int) = v1
        have h := h v1 hv1.symm
        exact Tj.iret dX4_compare_33 rfl h
      refine Tj.icmp_ge dX4_compare_25 rfl rfl (fun c3 => ?_) (fun c3 => ?_)
      · refine Tj.iconst dX4_compare_28 (by decide) rfl ?_
        refine Tj.goto dX4_compare_29 rfl ?_
        try simp only [if_pos c3] at hj ⊢
        exact Tj.cut hj trivial
      · refine Tj.iconst dX4_compare_32 (by decide) rfl ?_
        try simp only [if_neg c3] at hj ⊢
        exact Tj.cut hj trivial
  · have h := h.2 c1
    refine Tj.iconst dX4_compare_40 (by decide) rfl ?_
    exact Tj.iret dX4_compare_41 rfl h

theorem wX4_write_0 {m : tM} {P : Option tV → tM → Prop} {a : Nat} {b : Nat} {x2 : Int} {x3 : Int}  (h : Tj mX4_write 11 [some (rV a), some (rV b), some (iV x2), some (iV x3), some (iV 30), some (iV 30), some (iV 0)] [] m P) : Tj mX4_write 0 [some (rV a), some (rV b), some (iV x2), some (iV x3)] [] m P := by
  refine Tj.bipush dX4_write_0 (by decide) (by decide +kernel) rfl ?_
  refine Tj.istore dX4_write_2 (Nat.le_of_ble_eq_true rfl) rfl rfl ?_
  refine Tj.bipush dX4_write_4 (by decide) (by decide +kernel) rfl ?_
  refine Tj.istore dX4_write_6 (Nat.le_of_ble_eq_true rfl) rfl rfl ?_
  refine Tj.iconst dX4_write_8 (by decide) rfl ?_
  refine Tj.istore dX4_write_9 (Nat.le_of_ble_eq_true rfl) rfl rfl ?_
  exact Tj.cut h ⟨rfl, ⟨rfl, ⟨rfl, ⟨rfl, ⟨rfl, ⟨rfl, ⟨rfl, trivial⟩⟩⟩⟩⟩⟩⟩

theorem wX4_write_11 {m : tM} {P : Option tV → tM → Prop} {a : Nat} {b : Nat} {x2 : Int} {x3 : Int} {x4 : Int} {x5 : Int} {x6 : Int} (s_b0 : shp b = some (8, 0)) (h : Cli mX8_size [rV b] m (fun r1 m1 => ((x6 < r1 → (Cli mX8_turnedX [rV b, iV x6, iV x2, iV x3] m1 (fun r2 m2 => (Cli mX8_turnedY [rV b, iV x6, iV x2, iV x3] m2 (fun r3 m3 => ((R32 (x6 + 1)) ∧ (Tj mX4_write 11 [some (rV a), some (rV b), some (iV x2), some (iV x3), some (iV (if r2 < x4 then r2 else x4)), some (iV (if r3 < x5 then r3 else x5)), some (iV (x6 + 1))] [] m3 P))))))) ∧ (¬ x6 < r1 → (Tj mX4_write 59 [some (rV a), some (rV b), some (iV x2), some (iV x3), some (iV x4), some (iV x5), some (iV 0)] [] m1 P))))) : Tj mX4_write 11 [some (rV a), some (rV b), some (iV x2), some (iV x3), some (iV x4), some (iV x5), some (iV x6)] [] m P := by
  refine Tj.iload dX4_write_11 rfl rfl ?_
  refine Tj.aload_n dX4_write_13 rfl rfl ?_
  refine Tj.callVi (as := []) (rest := [_]) dX4_write_14 ln_X4_32 s_b0 (by decide) rfl rfl (Nat.le_of_ble_eq_true rfl) ⟨Nat.le_of_ble_eq_true rfl, Nat.le_of_ble_eq_true rfl⟩ (Nat.le_of_ble_eq_true rfl) rfl ?_
  refine Cli.mono h (fun r1 m1 h => ?_)
  refine Tj.icmp_ge dX4_write_17 rfl rfl (fun c1 => ?_) (fun c1 => ?_)
  · have h := h.1 c1
    refine Tj.iload dX4_write_20 rfl rfl ?_
    refine Tj.aload_n dX4_write_22 rfl rfl ?_
    refine Tj.iload dX4_write_23 rfl rfl ?_
    refine Tj.iload_n dX4_write_25 rfl rfl ?_
    refine Tj.iload_n dX4_write_26 rfl rfl ?_
    refine Tj.callVi (as := [_, _, _]) (rest := [_]) dX4_write_27 ln_X4_45 s_b0 (by decide) rfl rfl (Nat.le_of_ble_eq_true rfl) ⟨Nat.le_of_ble_eq_true rfl, Nat.le_of_ble_eq_true rfl⟩ (Nat.le_of_ble_eq_true rfl) rfl ?_
    refine Cli.mono h (fun r2 m2 h => ?_)
    refine Tj.mmin dX4_write_30 mt_X4_49 ⟨Nat.le_of_ble_eq_true rfl, Nat.le_of_ble_eq_true rfl⟩ rfl ?_
    refine Tj.istore dX4_write_33 (Nat.le_of_ble_eq_true rfl) rfl rfl ?_
    refine Tj.iload dX4_write_35 rfl rfl ?_
    refine Tj.aload_n dX4_write_37 rfl rfl ?_
    refine Tj.iload dX4_write_38 rfl rfl ?_
    refine Tj.iload_n dX4_write_40 rfl rfl ?_
    refine Tj.iload_n dX4_write_41 rfl rfl ?_
    refine Tj.callVi (as := [_, _, _]) (rest := [_]) dX4_write_42 ln_X4_55 s_b0 (by decide) rfl rfl (Nat.le_of_ble_eq_true rfl) ⟨Nat.le_of_ble_eq_true rfl, Nat.le_of_ble_eq_true rfl⟩ (Nat.le_of_ble_eq_true rfl) rfl ?_
    refine Cli.mono h (fun r3 m3 h => ?_)
    obtain ⟨o1, h⟩ := h
    refine Tj.mmin dX4_write_45 mt_X4_49 ⟨Nat.le_of_ble_eq_true rfl, Nat.le_of_ble_eq_true rfl⟩ rfl ?_
    refine Tj.istore dX4_write_48 (Nat.le_of_ble_eq_true rfl) rfl rfl ?_
    refine Tj.iinc dX4_write_50 rfl (Nat.le_of_ble_eq_true rfl) rfl o1 rfl ?_
    refine Tj.goto dX4_write_53 rfl ?_
    exact Tj.cut h ⟨rfl, ⟨rfl, ⟨rfl, ⟨rfl, ⟨rfl, ⟨rfl, ⟨rfl, trivial⟩⟩⟩⟩⟩⟩⟩
  · have h := h.2 c1
    refine Tj.iconst dX4_write_56 (by decide) rfl ?_
    refine Tj.istore dX4_write_57 (Nat.le_of_ble_eq_true rfl) rfl rfl ?_
    exact Tj.cut h ⟨rfl, ⟨rfl, ⟨rfl, ⟨rfl, ⟨rfl, ⟨rfl, ⟨rfl, trivial⟩⟩⟩⟩⟩⟩⟩

theorem wX4_write_59 {m : tM} {P : Option tV → tM → Prop} {a : Nat} {b : Nat} {x2 : Int} {x3 : Int} {x4 : Int} {x5 : Int} {x6 : Int} (s_a0 : shp a = some (4, 0)) (s_b0 : shp b = some (8, 0)) (h : Cli mX8_size [rV b] m (fun r1 m1 => ((x6 < r1 → (Cli mX8_turnedX [rV b, iV x6, iV x2, iV x3] m1 (fun r2 m2 => ((R32 (r2 - x4)) ∧ (Cli mX8_turnedY [rV b, iV x6, iV x2, iV x3] m2 (fun r3 m3 => ((R32 (r3 - x5)) ∧ (Clv mX4_insertKey [rV a, iV x6, iV (bOr (bOr (bShl (r3 - x5) 12) (bShl (r2 - x4) 6)) x6)] m3 (fun m4 => ((R32 (x6 + 1)) ∧ (Tj mX4_write 59 [some (rV a), some (rV b), some (iV x2), some (iV x3), some (iV x4), some (iV x5), some (iV (x6 + 1))] [] m4 P))))))))))) ∧ (¬ x6 < r1 → (Tj mX4_write 123 [some (rV a), some (rV b), some (iV x2), some (iV x3), none, none, some (iV 0)] [] m1 P))))) : Tj mX4_write 59 [some (rV a), some (rV b), some (iV x2), some (iV x3), some (iV x4), some (iV x5), some (iV x6)] [] m P := by
  refine Tj.iload dX4_write_59 rfl rfl ?_
  refine Tj.aload_n dX4_write_61 rfl rfl ?_
  refine Tj.callVi (as := []) (rest := [_]) dX4_write_62 ln_X4_32 s_b0 (by decide) rfl rfl (Nat.le_of_ble_eq_true rfl) ⟨Nat.le_of_ble_eq_true rfl, Nat.le_of_ble_eq_true rfl⟩ (Nat.le_of_ble_eq_true rfl) rfl ?_
  refine Cli.mono h (fun r1 m1 h => ?_)
  refine Tj.icmp_ge dX4_write_65 rfl rfl (fun c1 => ?_) (fun c1 => ?_)
  · have h := h.1 c1
    refine Tj.aload_n dX4_write_68 rfl rfl ?_
    refine Tj.iload dX4_write_69 rfl rfl ?_
    refine Tj.iload_n dX4_write_71 rfl rfl ?_
    refine Tj.iload_n dX4_write_72 rfl rfl ?_
    refine Tj.callVi (as := [_, _, _]) (rest := []) dX4_write_73 ln_X4_45 s_b0 (by decide) rfl rfl (Nat.le_of_ble_eq_true rfl) ⟨Nat.le_of_ble_eq_true rfl, Nat.le_of_ble_eq_true rfl⟩ (Nat.le_of_ble_eq_true rfl) rfl ?_
    refine Cli.mono h (fun r2 m2 h => ?_)
    obtain ⟨o1, h⟩ := h
    refine Tj.iload dX4_write_76 rfl rfl ?_
    refine Tj.isub dX4_write_78 o1 rfl ?_
    refine Tj.istore dX4_write_79 (Nat.le_of_ble_eq_true rfl) rfl rfl ?_
    refine Tj.aload_n dX4_write_81 rfl rfl ?_
    refine Tj.iload dX4_write_82 rfl rfl ?_
    refine Tj.iload_n dX4_write_84 rfl rfl ?_
    refine Tj.iload_n dX4_write_85 rfl rfl ?_
    refine Tj.callVi (as := [_, _, _]) (rest := []) dX4_write_86 ln_X4_55 s_b0 (by decide) rfl rfl (Nat.le_of_ble_eq_true rfl) ⟨Nat.le_of_ble_eq_true rfl, Nat.le_of_ble_eq_true rfl⟩ (Nat.le_of_ble_eq_true rfl) rfl ?_
    refine Cli.mono h (fun r3 m3 h => ?_)
    obtain ⟨o2, h⟩ := h
    refine Tj.iload dX4_write_89 rfl rfl ?_
    refine Tj.isub dX4_write_91 o2 rfl ?_
    refine Tj.istore dX4_write_92 (Nat.le_of_ble_eq_true rfl) rfl rfl ?_
    refine Tj.aload_n dX4_write_94 rfl rfl ?_
    refine Tj.iload dX4_write_95 rfl rfl ?_
    refine Tj.iload dX4_write_97 rfl rfl ?_
    refine Tj.bipush dX4_write_99 (by decide) (by decide +kernel) rfl ?_
    refine Tj.ishl dX4_write_101 rfl ?_
    refine Tj.iload dX4_write_102 rfl rfl ?_
    refine Tj.bipush dX4_write_104 (by decide) (by decide +kernel) rfl ?_
    refine Tj.ishl dX4_write_106 rfl ?_
    refine Tj.ior dX4_write_107 rfl ?_
    refine Tj.iload dX4_write_108 rfl rfl ?_
    refine Tj.ior dX4_write_110 rfl ?_
    refine Tj.callVv (as := [_, _]) (rest := []) dX4_write_111 ln_X4_58 s_a0 (by decide) rfl rfl (Nat.le_of_ble_eq_true rfl) ⟨Nat.le_of_ble_eq_true rfl, Nat.le_of_ble_eq_true rfl⟩ (Nat.le_of_ble_eq_true rfl) rfl ?_
    refine Clv.mono h (fun m4 h => ?_)
    obtain ⟨o3, h⟩ := h
    refine Tj.iinc dX4_write_114 rfl (Nat.le_of_ble_eq_true rfl) rfl o3 rfl ?_
    refine Tj.goto dX4_write_117 rfl ?_
    exact Tj.cut h ⟨rfl, ⟨rfl, ⟨rfl, ⟨rfl, ⟨rfl, ⟨rfl, ⟨rfl, trivial⟩⟩⟩⟩⟩⟩⟩
  · have h := h.2 c1
    refine Tj.iconst dX4_write_120 (by decide) rfl ?_
    refine Tj.istore dX4_write_121 (Nat.le_of_ble_eq_true rfl) rfl rfl ?_
    exact Tj.cut h ⟨rfl, ⟨rfl, ⟨rfl, ⟨rfl, ⟨rfl, trivial⟩⟩⟩⟩⟩

theorem wX4_write_123 {m : tM} {P : Option tV → tM → Prop} {a : Nat} {b : Nat} {x2 : Int} {x3 : Int} {x6 : Int} (s_a0 : shp a = some (4, 0)) (s_a2 : shp (a + 2) = some (20, 240)) (s_a3 : shp (a + 3) = some (20, 60)) (s_b0 : shp b = some (8, 0)) (h : Cli mX8_size [rV b] m (fun r1 m1 => ((x6 < r1 → ((0 ≤ x6 ∧ x6 < 60 ∧ R32 (4 * x6) ∧ 0 ≤ (4 * x6) ∧ (4 * x6) < 240 ∧ R32 ((4 * x6) + 1)) ∧ (∀ v1 : Int, v1 = ((up m1 (a + 2) (4 * x6) (bShr (m1 (a + 3) x6) 12)) (a + 3) x6) → ((0 ≤ ((4 * x6) + 1) ∧ ((4 * x6) + 1) < 240 ∧ R32 ((4 * x6) + 2)) ∧ (Cli mX8_turnedCrease [rV b, iV (bAnd (m1 (a + 3) x6) 63), iV 0, iV x2, iV x3] (up (up m1 (a + 2) (4 * x6) (bShr (m1 (a + 3) x6) 12)) (a + 2) ((4 * x6) + 1) (bAnd (bShr v1 6) 63)) (fun r2 m2 => ((0 ≤ ((4 * x6) + 2) ∧ ((4 * x6) + 2) < 240 ∧ R32 ((4 * x6) + 3)) ∧ (Cli mX8_turnedCrease [rV b, iV (bAnd (m1 (a + 3) x6) 63), iV 1, iV x2, iV x3] (up m2 (a + 2) ((4 * x6) + 2) r2) (fun r3 m3 => ((0 ≤ ((4 * x6) + 3) ∧ ((4 * x6) + 3) < 240 ∧ R32 (x6 + 1)) ∧ (Tj mX4_write 123 [some (rV a), some (rV b), some (iV x2), some (iV x3), none, none, some (iV (x6 + 1))] [] (up m3 (a + 2) ((4 * x6) + 3) r3) P))))))))))) ∧ (¬ x6 < r1 → (P none m1))))) : Tj mX4_write 123 [some (rV a), some (rV b), some (iV x2), some (iV x3), none, none, some (iV x6)] [] m P := by
  refine Tj.iload dX4_write_123 rfl rfl ?_
  refine Tj.aload_n dX4_write_125 rfl rfl ?_
  refine Tj.callVi (as := []) (rest := [_]) dX4_write_126 ln_X4_32 s_b0 (by decide) rfl rfl (Nat.le_of_ble_eq_true rfl) ⟨Nat.le_of_ble_eq_true rfl, Nat.le_of_ble_eq_true rfl⟩ (Nat.le_of_ble_eq_true rfl) rfl ?_
  refine Cli.mono h (fun r1 m1 h => ?_)
  refine Tj.icmp_ge dX4_write_129 rfl rfl (fun c1 => ?_) (fun c1 => ?_)
  · have h := h.1 c1
    obtain ⟨⟨o1, o2, o3, o4, o5, o6⟩, h⟩ := h
    refine Tj.aload_n dX4_write_132 rfl rfl ?_
    refine Tj.getR (b := (a + 3)) dX4_write_133 fl_X4_18 s_a0 rfl rfl ?_
    refine Tj.iload dX4_write_136 rfl rfl ?_
    refine Tj.iald dX4_write_138 s_a3 o1 o2 rfl ?_
    refine Tj.bipush dX4_write_139 (by decide) (by decide +kernel) rfl ?_
    refine Tj.iand dX4_write_141 rfl ?_
    refine Tj.istore dX4_write_142 (Nat.le_of_ble_eq_true rfl) rfl rfl ?_
    refine Tj.aload_n dX4_write_144 rfl rfl ?_
    refine Tj.getR (b := (a + 2)) dX4_write_145 fl_X4_15 s_a0 rfl rfl ?_
    refine Tj.iconst dX4_write_148 (by decide) rfl ?_
    refine Tj.iload dX4_write_149 rfl rfl ?_
    refine Tj.imul dX4_write_151 o3 rfl ?_
    refine Tj.aload_n dX4_write_152 rfl rfl ?_
    refine Tj.getR (b := (a + 3)) dX4_write_153 fl_X4_18 s_a0 rfl rfl ?_
    refine Tj.iload dX4_write_156 rfl rfl ?_
    refine Tj.iald dX4_write_158 s_a3 o1 o2 rfl ?_
    refine Tj.bipush dX4_write_159 (by decide) (by decide +kernel) rfl ?_
    refine Tj.ishr dX4_write_161 rfl ?_
    refine Tj.iast dX4_write_162 s_a2 o4 o5 rfl ?_
    refine Tj.aload_n dX4_write_163 rfl rfl ?_
    refine Tj.getR (b := (a + 2)) dX4_write_164 fl_X4_15 s_a0 rfl rfl ?_
    refine Tj.iconst dX4_write_167 (by decide) rfl ?_
    refine Tj.iload dX4_write_168 rfl rfl ?_
    refine Tj.imul dX4_write_170 o3 rfl ?_
    refine Tj.iconst dX4_write_171 (by decide) rfl ?_
    refine Tj.iadd dX4_write_172 o6 rfl ?_
    refine Tj.aload_n dX4_write_173 rfl rfl ?_
    refine Tj.getR (b := (a + 3)) dX4_write_174 fl_X4_18 s_a0 rfl rfl ?_
    refine Tj.iload dX4_write_177 rfl rfl ?_
    refine Tj.iald dX4_write_179 s_a3 o1 o2 rfl ?_
    show Tj mX4_write 180 [some (rV a), some (rV b), some (iV x2), some (iV x3), none, none, some (iV x6), some (iV (bAnd (m1 (a + 3) x6) 63))] [iV ((up m1 (a + 2) (4 * x6) (bShr (m1 (a + 3) x6) 12)) (a + 3) x6), iV ((4 * x6) + 1), rV (a + 2)] (up m1 (a + 2) (4 * x6) (bShr (m1 (a + 3) x6) 12)) P
    generalize hv1 : (((up m1 (a + 2) (4 * x6) (bShr (m1 (a + 3) x6) 12)) (a + 3) x6) : Int) = v1
    have h := h v1 hv1.symm
    obtain ⟨⟨o7, o8, o9⟩, h⟩ := h
    refine Tj.bipush dX4_write_180 (by decide) (by decide +kernel) rfl ?_
    refine Tj.ishr dX4_write_182 rfl ?_
    refine Tj.bipush dX4_write_183 (by decide) (by decide +kernel) rfl ?_
    refine Tj.iand dX4_write_185 rfl ?_
    refine Tj.iast dX4_write_186 s_a2 o7 o8 rfl ?_
    refine Tj.aload_n dX4_write_187 rfl rfl ?_
    refine Tj.getR (b := (a + 2)) dX4_write_188 fl_X4_15 s_a0 rfl rfl ?_
    refine Tj.iconst dX4_write_191 (by decide) rfl ?_
    refine Tj.iload dX4_write_192 rfl rfl ?_
    refine Tj.imul dX4_write_194 o3 rfl ?_
    refine Tj.iconst dX4_write_195 (by decide) rfl ?_
    refine Tj.iadd dX4_write_196 o9 rfl ?_
    refine Tj.aload_n dX4_write_197 rfl rfl ?_
    refine Tj.iload dX4_write_198 rfl rfl ?_
    refine Tj.iconst dX4_write_200 (by decide) rfl ?_
    refine Tj.iload_n dX4_write_201 rfl rfl ?_
    refine Tj.iload_n dX4_write_202 rfl rfl ?_
    refine Tj.callVi (as := [_, _, _, _]) (rest := [_, _]) dX4_write_203 ln_X4_62 s_b0 (by decide) rfl rfl (Nat.le_of_ble_eq_true rfl) ⟨Nat.le_of_ble_eq_true rfl, Nat.le_of_ble_eq_true rfl⟩ (Nat.le_of_ble_eq_true rfl) rfl ?_
    refine Cli.mono h (fun r2 m2 h => ?_)
    obtain ⟨⟨o10, o11, o12⟩, h⟩ := h
    refine Tj.iast dX4_write_206 s_a2 o10 o11 rfl ?_
    refine Tj.aload_n dX4_write_207 rfl rfl ?_
    refine Tj.getR (b := (a + 2)) dX4_write_208 fl_X4_15 s_a0 rfl rfl ?_
    refine Tj.iconst dX4_write_211 (by decide) rfl ?_
    refine Tj.iload dX4_write_212 rfl rfl ?_
    refine Tj.imul dX4_write_214 o3 rfl ?_
    refine Tj.iconst dX4_write_215 (by decide) rfl ?_
    refine Tj.iadd dX4_write_216 o12 rfl ?_
    refine Tj.aload_n dX4_write_217 rfl rfl ?_
    refine Tj.iload dX4_write_218 rfl rfl ?_
    refine Tj.iconst dX4_write_220 (by decide) rfl ?_
    refine Tj.iload_n dX4_write_221 rfl rfl ?_
    refine Tj.iload_n dX4_write_222 rfl rfl ?_
    refine Tj.callVi (as := [_, _, _, _]) (rest := [_, _]) dX4_write_223 ln_X4_62 s_b0 (by decide) rfl rfl (Nat.le_of_ble_eq_true rfl) ⟨Nat.le_of_ble_eq_true rfl, Nat.le_of_ble_eq_true rfl⟩ (Nat.le_of_ble_eq_true rfl) rfl ?_
    refine Cli.mono h (fun r3 m3 h => ?_)
    obtain ⟨⟨o13, o14, o15⟩, h⟩ := h
    refine Tj.iast dX4_write_226 s_a2 o13 o14 rfl ?_
    refine Tj.iinc dX4_write_227 rfl (Nat.le_of_ble_eq_true rfl) rfl o15 rfl ?_
    refine Tj.goto dX4_write_230 rfl ?_
    exact Tj.cut h ⟨rfl, ⟨rfl, ⟨rfl, ⟨rfl, ⟨rfl, trivial⟩⟩⟩⟩⟩
  · have h := h.2 c1
    exact Tj.vret dX4_write_233 rfl h

theorem wX4_insertKey_0 {m : tM} {P : Option tV → tM → Prop} {a : Nat} {x1 : Int} {x2 : Int}  (h : Tj mX4_insertKey 2 [some (rV a), none, some (iV x2), some (iV x1)] [] m P) : Tj mX4_insertKey 0 [some (rV a), some (iV x1), some (iV x2)] [] m P := by
  refine Tj.iload_n dX4_insertKey_0 rfl rfl ?_
  refine Tj.istore_n dX4_insertKey_1 (Nat.le_of_ble_eq_true rfl) rfl rfl ?_
  exact Tj.cut h ⟨rfl, ⟨rfl, ⟨rfl, trivial⟩⟩⟩

theorem wX4_insertKey_2 {m : tM} {P : Option tV → tM → Prop} {a : Nat} {x2 : Int} {x3 : Int} (s_a0 : shp a = some (4, 0)) (s_a3 : shp (a + 3) = some (20, 60)) (h : (0 < x3 → ((R32 (x3 - 1) ∧ 0 ≤ (x3 - 1) ∧ (x3 - 1) < 60) ∧ ((x2 < (m (a + 3) (x3 - 1)) → ((0 ≤ x3 ∧ x3 < 60 ∧ R32 (x3 + (-1))) ∧ (Tj mX4_insertKey 2 [some (rV a), none, some (iV x2), some (iV (x3 + (-1)))] [] (up m (a + 3) x3 (m (a + 3) (x3 - 1))) P))) ∧ (¬ x2 < (m (a + 3) (x3 - 1)) → ((0 ≤ x3 ∧ x3 < 60) ∧ (P none (up m (a + 3) x3 x2))))))) ∧ (¬ 0 < x3 → ((0 ≤ x3 ∧ x3 < 60) ∧ (P none (up m (a + 3) x3 x2))))) : Tj mX4_insertKey 2 [some (rV a), none, some (iV x2), some (iV x3)] [] m P := by
  refine Tj.iload_n dX4_insertKey_2 rfl rfl ?_
  refine Tj.if_le dX4_insertKey_3 rfl rfl (fun c1 => ?_) (fun c1 => ?_)
  · have h := h.1 c1
    obtain ⟨⟨o1, o2, o3⟩, h⟩ := h
    refine Tj.aload_n dX4_insertKey_6 rfl rfl ?_
    refine Tj.getR (b := (a + 3)) dX4_insertKey_7 fl_X4_18 s_a0 rfl rfl ?_
    refine Tj.iload_n dX4_insertKey_10 rfl rfl ?_
    refine Tj.iconst dX4_insertKey_11 (by decide) rfl ?_
    refine Tj.isub dX4_insertKey_12 o1 rfl ?_
    refine Tj.iald dX4_insertKey_13 s_a3 o2 o3 rfl ?_
    refine Tj.iload_n dX4_insertKey_14 rfl rfl ?_
    refine Tj.icmp_le dX4_insertKey_15 rfl rfl (fun c2 => ?_) (fun c2 => ?_)
    · have h := h.1 c2
      obtain ⟨⟨o4, o5, o6⟩, h⟩ := h
      refine Tj.aload_n dX4_insertKey_18 rfl rfl ?_
      refine Tj.getR (b := (a + 3)) dX4_insertKey_19 fl_X4_18 s_a0 rfl rfl ?_
      refine Tj.iload_n dX4_insertKey_22 rfl rfl ?_
      refine Tj.aload_n dX4_insertKey_23 rfl rfl ?_
      refine Tj.getR (b := (a + 3)) dX4_insertKey_24 fl_X4_18 s_a0 rfl rfl ?_
      refine Tj.iload_n dX4_insertKey_27 rfl rfl ?_
      refine Tj.iconst dX4_insertKey_28 (by decide) rfl ?_
      refine Tj.isub dX4_insertKey_29 o1 rfl ?_
      refine Tj.iald dX4_insertKey_30 s_a3 o2 o3 rfl ?_
      refine Tj.iast dX4_insertKey_31 s_a3 o4 o5 rfl ?_
      refine Tj.iinc dX4_insertKey_32 rfl (Nat.le_of_ble_eq_true rfl) rfl o6 rfl ?_
      refine Tj.goto dX4_insertKey_35 rfl ?_
      exact Tj.cut h ⟨rfl, ⟨rfl, ⟨rfl, trivial⟩⟩⟩
    · have h := h.2 c2
      obtain ⟨⟨o7, o8⟩, h⟩ := h
      refine Tj.aload_n dX4_insertKey_38 rfl rfl ?_
      refine Tj.getR (b := (a + 3)) dX4_insertKey_39 fl_X4_18 s_a0 rfl rfl ?_
      refine Tj.iload_n dX4_insertKey_42 rfl rfl ?_
      refine Tj.iload_n dX4_insertKey_43 rfl rfl ?_
      refine Tj.iast dX4_insertKey_44 s_a3 o7 o8 rfl ?_
      exact Tj.vret dX4_insertKey_45 rfl h
  · have h := h.2 c1
    obtain ⟨⟨o9, o10⟩, h⟩ := h
    refine Tj.aload_n dX4_insertKey_38 rfl rfl ?_
    refine Tj.getR (b := (a + 3)) dX4_insertKey_39 fl_X4_18 s_a0 rfl rfl ?_
    refine Tj.iload_n dX4_insertKey_42 rfl rfl ?_
    refine Tj.iload_n dX4_insertKey_43 rfl rfl ?_
    refine Tj.iast dX4_insertKey_44 s_a3 o9 o10 rfl ?_
    exact Tj.vret dX4_insertKey_45 rfl h
