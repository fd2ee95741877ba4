theorem wX10_ways_0 {m : tM} {P : Option tV → tM → Prop}   (h : P (some (iV (m 128 4))) m) : Tj mX10_ways 0 [some (rV 128)] [] m P := by
  refine Tj.aload_n dX10_ways_0 rfl rfl ?_
  refine Tj.gI (j := 4) dX10_ways_1 fl_X10_24 sh_128 rfl rfl ?_
  exact Tj.iret dX10_ways_4 rfl h

theorem wX10_squareOf_0 {m : tM} {P : Option tV → tM → Prop} {x1 : Int}  (h : (0 ≤ x1 ∧ x1 < 480 ∧ 0 ≤ (bShr (m 132 x1) 2)) ∧ (P (some (iV ((bShr (m 132 x1) 2) % 60))) m)) : Tj mX10_squareOf 0 [some (rV 128), some (iV x1)] [] m P := by
  obtain ⟨⟨o1, o2, o3⟩, h⟩ := h
  refine Tj.aload_n dX10_squareOf_0 rfl rfl ?_
  refine Tj.getR (b := 132) dX10_squareOf_1 fl_X10_21 sh_128 rfl rfl ?_
  refine Tj.iload_n dX10_squareOf_4 rfl rfl ?_
  refine Tj.iald dX10_squareOf_5 sh_132 o1 o2 rfl ?_
  refine Tj.iconst dX10_squareOf_6 (by decide) rfl ?_
  refine Tj.ishr dX10_squareOf_7 rfl ?_
  refine Tj.bipush dX10_squareOf_8 (by decide) (by decide +kernel) rfl ?_
  refine Tj.irem dX10_squareOf_10 o3 (by decide) rfl ?_
  exact Tj.iret dX10_squareOf_11 rfl h

theorem wX10_turnOf_0 {m : tM} {P : Option tV → tM → Prop} {x1 : Int}  (h : (0 ≤ x1 ∧ x1 < 480) ∧ (P (some (iV (bAnd (m 132 x1) 3))) m)) : Tj mX10_turnOf 0 [some (rV 128), some (iV x1)] [] m P := by
  obtain ⟨⟨o1, o2⟩, h⟩ := h
  refine Tj.aload_n dX10_turnOf_0 rfl rfl ?_
  refine Tj.getR (b := 132) dX10_turnOf_1 fl_X10_21 sh_128 rfl rfl ?_
  refine Tj.iload_n dX10_turnOf_4 rfl rfl ?_
  refine Tj.iald dX10_turnOf_5 sh_132 o1 o2 rfl ?_
  refine Tj.iconst dX10_turnOf_6 (by decide) rfl ?_
  refine Tj.iand dX10_turnOf_7 rfl ?_
  exact Tj.iret dX10_turnOf_8 rfl h

theorem wX10_isTurnedOver_0 {m : tM} {P : Option tV → tM → Prop} {x1 : Int}  (h : (0 ≤ x1 ∧ x1 < 480) ∧ (∀ v1 : Int, v1 = (if (m 132 x1) < 240 then 0 else 1) → (P (some (iV v1)) m))) : Tj mX10_isTurnedOver 0 [some (rV 128), some (iV x1)] [] m P := by
  obtain ⟨⟨o1, o2⟩, h⟩ := h
  refine Tj.aload_n dX10_isTurnedOver_0 rfl rfl ?_
  refine Tj.getR (b := 132) dX10_isTurnedOver_1 fl_X10_21 sh_128 rfl rfl ?_
  refine Tj.iload_n dX10_isTurnedOver_4 rfl rfl ?_
  refine Tj.iald dX10_isTurnedOver_5 sh_132 o1 o2 rfl ?_
  refine Tj.sipush dX10_isTurnedOver_6 (by decide) (by decide +kernel) rfl ?_
  have hj : Tj mX10_isTurnedOver 17 [] [iV (if (m 132 x1) < 240 then 0 else 1)] m P := by
    generalize hv1 : ((if (m 132 x1) < 240 then 0 else 1) : Int) = v1
    have h := h v1 hv1.symm
    exact Tj.zret dX10_isTurnedOver_17 rfl (by rw [← hv1]; (repeat' split) <;> simp) h
  refine Tj.icmp_lt dX10_isTurnedOver_9 rfl rfl (fun c1 => ?_) (fun c1 => ?_)
  · refine Tj.iconst dX10_isTurnedOver_16 (by decide) rfl ?_
    try simp only [if_pos c1] at hj ⊢
    exact Tj.cut hj trivial
  · refine Tj.iconst dX10_isTurnedOver_12 (by decide) rfl ?_
    refine Tj.goto dX10_isTurnedOver_13 rfl ?_
    try simp only [if_neg c1] at hj ⊢
    exact Tj.cut hj trivial

theorem wX10_seek_0 {m : tM} {P : Option tV → tM → Prop}   (h : Cli mX8_size [rV 6] (up m 128 4 0) (fun r1 m1 => (Cli mX9_size [rV 109] m1 (fun r2 m2 => ((r1 = r2 → (Clv mX6_trace [rV 120, rV 6] m2 (fun m3 => (Cli mX6_hangTogether [rV 120] m3 (fun r3 m4 => ((r3 = 0 → (P none m4)) ∧ (¬ r3 = 0 → (Tj mX10_seek 33 [some (rV 128), some (rV 6), some (rV 120), some (rV 109), some (iV 0)] [] m4 P)))))))) ∧ (¬ r1 = r2 → (P none m2))))))) : Tj mX10_seek 0 [some (rV 128), some (rV 6), some (rV 120), some (rV 109)] [] m P := by
  refine Tj.aload_n dX10_seek_0 rfl rfl ?_
  refine Tj.iconst dX10_seek_1 (by decide) rfl ?_
  refine Tj.pI (j := 4) dX10_seek_2 fp_X10_24 sh_128 rfl rfl ?_
  refine Tj.aload_n dX10_seek_5 rfl rfl ?_
  refine Tj.callVi (as := []) (rest := []) dX10_seek_6 ln_X10_28 sh_6 (by decide) rfl rfl (Nat.le_of_ble_eq_true rfl) ⟨Nat.le_of_ble_eq_true rfl, Nat.le_of_ble_eq_true rfl⟩ (Nat.le_of_ble_eq_true rfl) rfl ?_
  refine Cli.mono h (fun r1 m1 h => ?_)
  refine Tj.aload_n dX10_seek_9 rfl rfl ?_
  refine Tj.callVi (as := []) (rest := [_]) dX10_seek_10 ln_X10_32 sh_109 (by decide) rfl rfl (Nat.le_of_ble_eq_true rfl) ⟨Nat.le_of_ble_eq_true rfl, Nat.le_of_ble_eq_true rfl⟩ (Nat.le_of_ble_eq_true rfl) rfl ?_
  refine Cli.mono h (fun r2 m2 h => ?_)
  refine Tj.icmp_eq dX10_seek_13 rfl rfl (fun c1 => ?_) (fun c1 => ?_)
  · have h := h.1 c1
    refine Tj.aload_n dX10_seek_17 rfl rfl ?_
    refine Tj.aload_n dX10_seek_18 rfl rfl ?_
    refine Tj.callVv (as := [_]) (rest := []) dX10_seek_19 ln_X10_35 sh_120 (by decide) rfl rfl (Nat.le_of_ble_eq_true rfl) ⟨Nat.le_of_ble_eq_true rfl, Nat.le_of_ble_eq_true rfl⟩ (Nat.le_of_ble_eq_true rfl) rfl ?_
    refine Clv.mono h (fun m3 h => ?_)
    refine Tj.aload_n dX10_seek_22 rfl rfl ?_
    refine Tj.callVi (as := []) (rest := []) dX10_seek_23 ln_X10_41 sh_120 (by decide) rfl rfl (Nat.le_of_ble_eq_true rfl) ⟨Nat.le_of_ble_eq_true rfl, Nat.le_of_ble_eq_true rfl⟩ (Nat.le_of_ble_eq_true rfl) rfl ?_
    refine Cli.mono h (fun r3 m4 h => ?_)
    refine Tj.if_ne dX10_seek_26 rfl rfl (fun c2 => ?_) (fun c2 => ?_)
    · have h := h.1 c2
      exact Tj.vret dX10_seek_29 rfl h
    · have h := h.2 c2
      refine Tj.iconst dX10_seek_30 (by decide) rfl ?_
      refine Tj.istore dX10_seek_31 (Nat.le_of_ble_eq_true rfl) rfl rfl ?_
      exact Tj.cut h ⟨rfl, ⟨rfl, ⟨rfl, ⟨rfl, ⟨rfl, trivial⟩⟩⟩⟩⟩
  · have h := h.2 c1
    exact Tj.vret dX10_seek_16 rfl h

theorem wX10_seek_33 {m : tM} {P : Option tV → tM → Prop} {x4 : Int}  (h : (x4 < 2 → (Tj mX10_seek 42 [some (rV 128), some (rV 6), some (rV 120), some (rV 109), some (iV x4), some (iV 0)] [] m P)) ∧ (¬ x4 < 2 → (P none m))) : Tj mX10_seek 33 [some (rV 128), some (rV 6), some (rV 120), some (rV 109), some (iV x4)] [] m P := by
  refine Tj.iload dX10_seek_33 rfl rfl ?_
  refine Tj.iconst dX10_seek_35 (by decide) rfl ?_
  refine Tj.icmp_ge dX10_seek_36 rfl rfl (fun c1 => ?_) (fun c1 => ?_)
  · have h := h.1 c1
    refine Tj.iconst dX10_seek_39 (by decide) rfl ?_
    refine Tj.istore dX10_seek_40 (Nat.le_of_ble_eq_true rfl) rfl rfl ?_
    exact Tj.cut h ⟨rfl, ⟨rfl, ⟨rfl, ⟨rfl, ⟨rfl, ⟨rfl, trivial⟩⟩⟩⟩⟩⟩
  · have h := h.2 c1
    exact Tj.vret dX10_seek_119 rfl h

theorem wX10_seek_42 {m : tM} {P : Option tV → tM → Prop} {x4 : Int} {x5 : Int}  (h : Cli mX8_size [rV 6] m (fun r1 m1 => ((R32 (4 * r1)) ∧ ((x5 < (4 * r1) → (Cli mX8_size [rV 6] m1 (fun r2 m2 => (∀ v1 : Int, v1 = (if x4 = 1 then 1 else 0) → (Cli mX10_fits [rV 128, iV r2, rV 120, rV 109, iV x5, iV v1] m2 (fun r3 m3 => ((r3 = 0 → ((R32 (x5 + 1)) ∧ (Tj mX10_seek 42 [some (rV 128), some (rV 6), some (rV 120), some (rV 109), some (iV x4), some (iV (x5 + 1))] [] m3 P))) ∧ (¬ r3 = 0 → ((R32 (240 * x4) ∧ R32 ((240 * x4) + x5) ∧ 0 ≤ (m3 128 4) ∧ (m3 128 4) < 480 ∧ R32 ((m3 128 4) + 1) ∧ R32 (x5 + 1)) ∧ (Tj mX10_seek 42 [some (rV 128), some (rV 6), some (rV 120), some (rV 109), some (iV x4), some (iV (x5 + 1))] [] (up (up m3 132 (m3 128 4) ((240 * x4) + x5)) 128 4 ((m3 128 4) + 1)) P)))))))))) ∧ (¬ x5 < (4 * r1) → ((R32 (x4 + 1)) ∧ (Tj mX10_seek 33 [some (rV 128), some (rV 6), some (rV 120), some (rV 109), some (iV (x4 + 1))] [] m1 P))))))) : Tj mX10_seek 42 [some (rV 128), some (rV 6), some (rV 120), some (rV 109), some (iV x4), some (iV x5)] [] m P := by
  refine Tj.iload dX10_seek_42 rfl rfl ?_
  refine Tj.iconst dX10_seek_44 (by decide) rfl ?_
  refine Tj.aload_n dX10_seek_45 rfl rfl ?_
  refine Tj.callVi (as := []) (rest := [_, _]) dX10_seek_46 ln_X10_28 sh_6 (by decide) rfl rfl (Nat.le_of_ble_eq_true rfl) ⟨Nat.le_of_ble_eq_true rfl, Nat.le_of_ble_eq_true rfl⟩ (Nat.le_of_ble_eq_true rfl) rfl ?_
  refine Cli.mono h (fun r1 m1 h => ?_)
  obtain ⟨o1, h⟩ := h
  refine Tj.imul dX10_seek_49 o1 rfl ?_
  refine Tj.icmp_ge dX10_seek_50 rfl rfl (fun c1 => ?_) (fun c1 => ?_)
  · have h := h.1 c1
    refine Tj.aload_n dX10_seek_53 rfl rfl ?_
    refine Tj.aload_n dX10_seek_54 rfl rfl ?_
    refine Tj.callVi (as := []) (rest := [_]) dX10_seek_55 ln_X10_28 sh_6 (by decide) rfl rfl (Nat.le_of_ble_eq_true rfl) ⟨Nat.le_of_ble_eq_true rfl, Nat.le_of_ble_eq_true rfl⟩ (Nat.le_of_ble_eq_true rfl) rfl ?_
    refine Cli.mono h (fun r2 m2 h => ?_)
    refine Tj.aload_n dX10_seek_58 rfl rfl ?_
    refine Tj.aload_n dX10_seek_59 rfl rfl ?_
    refine Tj.iload dX10_seek_60 rfl rfl ?_
    refine Tj.iload dX10_seek_62 rfl rfl ?_
    refine Tj.iconst dX10_seek_64 (by decide) rfl ?_
    have hj : Tj mX10_seek 73 [some (rV 128), some (rV 6), some (rV 120), some (rV 109), some (iV x4), some (iV x5)] [iV (if x4 = 1 then 1 else 0), iV x5, rV 109, rV 120, iV r2, rV 128] m2 P := by
      generalize hv1 : ((if x4 = 1 then 1 else 0) : Int) = v1
      have h := h v1 hv1.symm
      refine Tj.callVi (as := [_, _, _, _, _]) (rest := []) dX10_seek_73 ln_X10_45 sh_128 (by decide) rfl rfl (Nat.le_of_ble_eq_true rfl) ⟨Nat.le_of_ble_eq_true rfl, Nat.le_of_ble_eq_true rfl⟩ (Nat.le_of_ble_eq_true rfl) rfl ?_
      refine Cli.mono h (fun r3 m3 h => ?_)
      refine Tj.if_eq dX10_seek_76 rfl rfl (fun c3 => ?_) (fun c3 => ?_)
      · have h := h.1 c3
        obtain ⟨o2, h⟩ := h
        refine Tj.iinc dX10_seek_107 rfl (Nat.le_of_ble_eq_true rfl) rfl o2 rfl ?_
        refine Tj.goto dX10_seek_110 rfl ?_
        exact Tj.cut h ⟨rfl, ⟨rfl, ⟨rfl, ⟨rfl, ⟨rfl, ⟨rfl, trivial⟩⟩⟩⟩⟩⟩
      · have h := h.2 c3
        obtain ⟨⟨o3, o4, o5, o6, o7, o8⟩, h⟩ := h
        refine Tj.aload_n dX10_seek_79 rfl rfl ?_
        refine Tj.getR (b := 132) dX10_seek_80 fl_X10_21 sh_128 rfl rfl ?_
        refine Tj.aload_n dX10_seek_83 rfl rfl ?_
        refine Tj.gI (j := 4) dX10_seek_84 fl_X10_24 sh_128 rfl rfl ?_
        refine Tj.sipush dX10_seek_87 (by decide) (by decide +kernel) rfl ?_
        refine Tj.iload dX10_seek_90 rfl rfl ?_
        refine Tj.imul dX10_seek_92 o3 rfl ?_
        refine Tj.iload dX10_seek_93 rfl rfl ?_
        refine Tj.iadd dX10_seek_95 o4 rfl ?_
        refine Tj.iast dX10_seek_96 sh_132 o5 o6 rfl ?_
        refine Tj.aload_n dX10_seek_97 rfl rfl ?_
        refine Tj.dup dX10_seek_98 rfl rfl ?_
        refine Tj.gI (j := 4) dX10_seek_99 fl_X10_24 sh_128 rfl rfl ?_
        refine Tj.iconst dX10_seek_102 (by decide) rfl ?_
        refine Tj.iadd dX10_seek_103 o7 rfl ?_
        refine Tj.pI (j := 4) dX10_seek_104 fp_X10_24 sh_128 rfl rfl ?_
        refine Tj.iinc dX10_seek_107 rfl (Nat.le_of_ble_eq_true rfl) rfl o8 rfl ?_
        refine Tj.goto dX10_seek_110 rfl ?_
        exact Tj.cut h ⟨rfl, ⟨rfl, ⟨rfl, ⟨rfl, ⟨rfl, ⟨rfl, trivial⟩⟩⟩⟩⟩⟩
    refine Tj.icmp_ne dX10_seek_65 rfl rfl (fun c2 => ?_) (fun c2 => ?_)
    · refine Tj.iconst dX10_seek_68 (by decide) rfl ?_
      refine Tj.goto dX10_seek_69 rfl ?_
      try simp only [if_pos c2] at hj ⊢
      exact Tj.cut hj ⟨rfl, ⟨rfl, ⟨rfl, ⟨rfl, ⟨rfl, ⟨rfl, trivial⟩⟩⟩⟩⟩⟩
    · refine Tj.iconst dX10_seek_72 (by decide) rfl ?_
      try simp only [if_neg c2] at hj ⊢
      exact Tj.cut hj ⟨rfl, ⟨rfl, ⟨rfl, ⟨rfl, ⟨rfl, ⟨rfl, trivial⟩⟩⟩⟩⟩⟩
  · have h := h.2 c1
    obtain ⟨o9, h⟩ := h
    refine Tj.iinc dX10_seek_113 rfl (Nat.le_of_ble_eq_true rfl) rfl o9 rfl ?_
    refine Tj.goto dX10_seek_116 rfl ?_
    exact Tj.cut h ⟨rfl, ⟨rfl, ⟨rfl, ⟨rfl, ⟨rfl, trivial⟩⟩⟩⟩⟩

theorem wX10_fits_0 {m : tM} {P : Option tV → tM → Prop} {x1 : Int} {x4 : Int} {x5 : Int}  (h : Clv mJ7_fill_53178 [rV 131, iV (-1)] m (fun m1 => (Clv mX10_lay [rV 128, iV 0, iV x4] m1 (fun m2 => (Tj mX10_fits 18 [some (rV 128), some (iV x1), some (rV 120), some (rV 109), none, some (iV x5), some (iV 1)] [] m2 P))))) : Tj mX10_fits 0 [some (rV 128), some (iV x1), some (rV 120), some (rV 109), some (iV x4), some (iV x5)] [] m P := by
  refine Tj.aload_n dX10_fits_0 rfl rfl ?_
  refine Tj.getR (b := 131) dX10_fits_1 fl_X10_18 sh_128 rfl rfl ?_
  refine Tj.iconst dX10_fits_4 (by decide) rfl ?_
  refine Tj.callSv (as := [_, _]) (rest := []) dX10_fits_5 ln_X10_49 rfl rfl (Nat.le_of_ble_eq_true rfl) ⟨Nat.le_of_ble_eq_true rfl, Nat.le_of_ble_eq_true rfl⟩ (Nat.le_of_ble_eq_true rfl) rfl ?_
  refine Clv.mono h (fun m1 h => ?_)
  refine Tj.aload_n dX10_fits_8 rfl rfl ?_
  refine Tj.iconst dX10_fits_9 (by decide) rfl ?_
  refine Tj.iload dX10_fits_10 rfl rfl ?_
  refine Tj.callVv (as := [_, _]) (rest := []) dX10_fits_12 ln_X10_55 sh_128 (by decide) rfl rfl (Nat.le_of_ble_eq_true rfl) ⟨Nat.le_of_ble_eq_true rfl, Nat.le_of_ble_eq_true rfl⟩ (Nat.le_of_ble_eq_true rfl) rfl ?_
  refine Clv.mono h (fun m2 h => ?_)
  refine Tj.iconst dX10_fits_15 (by decide) rfl ?_
  refine Tj.istore dX10_fits_16 (Nat.le_of_ble_eq_true rfl) rfl rfl ?_
  exact Tj.cut h ⟨rfl, ⟨rfl, ⟨rfl, ⟨rfl, ⟨rfl, ⟨rfl, trivial⟩⟩⟩⟩⟩⟩

theorem wX10_fits_18 {m : tM} {P : Option tV → tM → Prop} {x1 : Int} {x5 : Int} {x6 : Int}  (h : (x6 < x1 → (Cli mX6_inOrder [rV 120, iV x6] m (fun r1 m1 => (Cli mX6_reachedFrom [rV 120, iV r1] m1 (fun r2 m2 => (Cli mX6_reachedBy [rV 120, iV r1] m2 (fun r3 m3 => (Cli mX10_landing [rV 128, rV 109, iV r2, iV r3, iV x5] m3 (fun r4 m4 => ((0 ≤ (bShr r4 2) ∧ (bShr r4 2) < 60) ∧ (((m4 131 (bShr r4 2)) = (-1) → (Clv mX10_lay [rV 128, iV r1, iV r4] m4 (fun m5 => ((R32 (x6 + 1)) ∧ (Tj mX10_fits 18 [some (rV 128), some (iV x1), some (rV 120), some (rV 109), none, some (iV x5), some (iV (x6 + 1))] [] m5 P))))) ∧ (¬ (m4 131 (bShr r4 2)) = (-1) → (P (some (iV 0)) m4))))))))))))) ∧ (¬ x6 < x1 → (Tj mX10_fits 85 [some (rV 128), some (iV x1), some (rV 120), some (rV 109), none, some (iV x5), some (iV 0)] [] m P))) : Tj mX10_fits 18 [some (rV 128), some (iV x1), some (rV 120), some (rV 109), none, some (iV x5), some (iV x6)] [] m P := by
  refine Tj.iload dX10_fits_18 rfl rfl ?_
  refine Tj.iload_n dX10_fits_20 rfl rfl ?_
  refine Tj.icmp_ge dX10_fits_21 rfl rfl (fun c1 => ?_) (fun c1 => ?_)
  · have h := h.1 c1
    refine Tj.aload_n dX10_fits_24 rfl rfl ?_
    refine Tj.iload dX10_fits_25 rfl rfl ?_
    refine Tj.callVi (as := [_]) (rest := []) dX10_fits_27 ln_X10_59 sh_120 (by decide) rfl rfl (Nat.le_of_ble_eq_true rfl) ⟨Nat.le_of_ble_eq_true rfl, Nat.le_of_ble_eq_true rfl⟩ (Nat.le_of_ble_eq_true rfl) rfl ?_
    refine Cli.mono h (fun r1 m1 h => ?_)
    refine Tj.istore dX10_fits_30 (Nat.le_of_ble_eq_true rfl) rfl rfl ?_
    refine Tj.aload_n dX10_fits_32 rfl rfl ?_
    refine Tj.aload_n dX10_fits_33 rfl rfl ?_
    refine Tj.aload_n dX10_fits_34 rfl rfl ?_
    refine Tj.iload dX10_fits_35 rfl rfl ?_
    refine Tj.callVi (as := [_]) (rest := [_, _]) dX10_fits_37 ln_X10_63 sh_120 (by decide) rfl rfl (Nat.le_of_ble_eq_true rfl) ⟨Nat.le_of_ble_eq_true rfl, Nat.le_of_ble_eq_true rfl⟩ (Nat.le_of_ble_eq_true rfl) rfl ?_
    refine Cli.mono h (fun r2 m2 h => ?_)
    refine Tj.aload_n dX10_fits_40 rfl rfl ?_
    refine Tj.iload dX10_fits_41 rfl rfl ?_
    refine Tj.callVi (as := [_]) (rest := [_, _, _]) dX10_fits_43 ln_X10_66 sh_120 (by decide) rfl rfl (Nat.le_of_ble_eq_true rfl) ⟨Nat.le_of_ble_eq_true rfl, Nat.le_of_ble_eq_true rfl⟩ (Nat.le_of_ble_eq_true rfl) rfl ?_
    refine Cli.mono h (fun r3 m3 h => ?_)
    refine Tj.iload dX10_fits_46 rfl rfl ?_
    refine Tj.callVi (as := [_, _, _, _]) (rest := []) dX10_fits_48 ln_X10_69 sh_128 (by decide) rfl rfl (Nat.le_of_ble_eq_true rfl) ⟨Nat.le_of_ble_eq_true rfl, Nat.le_of_ble_eq_true rfl⟩ (Nat.le_of_ble_eq_true rfl) rfl ?_
    refine Cli.mono h (fun r4 m4 h => ?_)
    obtain ⟨⟨o1, o2⟩, h⟩ := h
    refine Tj.istore dX10_fits_51 (Nat.le_of_ble_eq_true rfl) rfl rfl ?_
    refine Tj.aload_n dX10_fits_53 rfl rfl ?_
    refine Tj.getR (b := 131) dX10_fits_54 fl_X10_18 sh_128 rfl rfl ?_
    refine Tj.iload dX10_fits_57 rfl rfl ?_
    refine Tj.iconst dX10_fits_59 (by decide) rfl ?_
    refine Tj.ishr dX10_fits_60 rfl ?_
    refine Tj.iald dX10_fits_61 sh_131 o1 o2 rfl ?_
    refine Tj.iconst dX10_fits_62 (by decide) rfl ?_
    refine Tj.icmp_eq dX10_fits_63 rfl rfl (fun c2 => ?_) (fun c2 => ?_)
    · have h := h.1 c2
      refine Tj.aload_n dX10_fits_68 rfl rfl ?_
      refine Tj.iload dX10_fits_69 rfl rfl ?_
      refine Tj.iload dX10_fits_71 rfl rfl ?_
      refine Tj.callVv (as := [_, _]) (rest := []) dX10_fits_73 ln_X10_55 sh_128 (by decide) rfl rfl (Nat.le_of_ble_eq_true rfl) ⟨Nat.le_of_ble_eq_true rfl, Nat.le_of_ble_eq_true rfl⟩ (Nat.le_of_ble_eq_true rfl) rfl ?_
      refine Clv.mono h (fun m5 h => ?_)
      obtain ⟨o3, h⟩ := h
      refine Tj.iinc dX10_fits_76 rfl (Nat.le_of_ble_eq_true rfl) rfl o3 rfl ?_
      refine Tj.goto dX10_fits_79 rfl ?_
      exact Tj.cut h ⟨rfl, ⟨rfl, ⟨rfl, ⟨rfl, ⟨rfl, ⟨rfl, trivial⟩⟩⟩⟩⟩⟩
    · have h := h.2 c2
      refine Tj.iconst dX10_fits_66 (by decide) rfl ?_
      exact Tj.zret dX10_fits_67 rfl (by decide) h
  · have h := h.2 c1
    refine Tj.iconst dX10_fits_82 (by decide) rfl ?_
    refine Tj.istore dX10_fits_83 (Nat.le_of_ble_eq_true rfl) rfl rfl ?_
    exact Tj.cut h ⟨rfl, ⟨rfl, ⟨rfl, ⟨rfl, ⟨rfl, ⟨rfl, trivial⟩⟩⟩⟩⟩⟩

theorem wX10_fits_85 {m : tM} {P : Option tV → tM → Prop} {x1 : Int} {x5 : Int} {x6 : Int}  (h : (x6 < x1 → (Tj mX10_fits 94 [some (rV 128), some (iV x1), some (rV 120), some (rV 109), none, some (iV x5), some (iV x6), some (iV 0)] [] m P)) ∧ (¬ x6 < x1 → (P (some (iV 1)) m))) : Tj mX10_fits 85 [some (rV 128), some (iV x1), some (rV 120), some (rV 109), none, some (iV x5), some (iV x6)] [] m P := by
  refine Tj.iload dX10_fits_85 rfl rfl ?_
  refine Tj.iload_n dX10_fits_87 rfl rfl ?_
  refine Tj.icmp_ge dX10_fits_88 rfl rfl (fun c1 => ?_) (fun c1 => ?_)
  · have h := h.1 c1
    refine Tj.iconst dX10_fits_91 (by decide) rfl ?_
    refine Tj.istore dX10_fits_92 (Nat.le_of_ble_eq_true rfl) rfl rfl ?_
    exact Tj.cut h ⟨rfl, ⟨rfl, ⟨rfl, ⟨rfl, ⟨rfl, ⟨rfl, ⟨rfl, trivial⟩⟩⟩⟩⟩⟩⟩
  · have h := h.2 c1
    refine Tj.iconst dX10_fits_160 (by decide) rfl ?_
    exact Tj.zret dX10_fits_161 rfl (by decide) h

theorem wX10_fits_94 {m : tM} {P : Option tV → tM → Prop} {x1 : Int} {x5 : Int} {x6 : Int} {x7 : Int}  (h : (x7 < 2 → (Cli mX6_next [rV 120, iV x6, iV x7] m (fun r1 m1 => ((r1 < 0 → ((R32 (x7 + 1)) ∧ (Tj mX10_fits 94 [some (rV 128), some (iV x1), some (rV 120), some (rV 109), none, some (iV x5), some (iV x6), some (iV (x7 + 1))] [] m1 P))) ∧ (¬ r1 < 0 → (Cli mX10_landing [rV 128, rV 109, iV x6, iV x7, iV x5] m1 (fun r2 m2 => ((0 ≤ r1 ∧ r1 < 60 ∧ R32 (4 * (m2 129 r1)) ∧ R32 ((4 * (m2 129 r1)) + (m2 130 r1))) ∧ ((r2 = ((4 * (m2 129 r1)) + (m2 130 r1)) → ((R32 (x7 + 1)) ∧ (Tj mX10_fits 94 [some (rV 128), some (iV x1), some (rV 120), some (rV 109), none, some (iV x5), some (iV x6), some (iV (x7 + 1))] [] m2 P))) ∧ (¬ r2 = ((4 * (m2 129 r1)) + (m2 130 r1)) → (P (some (iV 0)) m2))))))))))) ∧ (¬ x7 < 2 → ((R32 (x6 + 1)) ∧ (Tj mX10_fits 85 [some (rV 128), some (iV x1), some (rV 120), some (rV 109), none, some (iV x5), some (iV (x6 + 1))] [] m P)))) : Tj mX10_fits 94 [some (rV 128), some (iV x1), some (rV 120), some (rV 109), none, some (iV x5), some (iV x6), some (iV x7)] [] m P := by
  refine Tj.iload dX10_fits_94 rfl rfl ?_
  refine Tj.iconst dX10_fits_96 (by decide) rfl ?_
  refine Tj.icmp_ge dX10_fits_97 rfl rfl (fun c1 => ?_) (fun c1 => ?_)
  · have h := h.1 c1
    refine Tj.aload_n dX10_fits_100 rfl rfl ?_
    refine Tj.iload dX10_fits_101 rfl rfl ?_
    refine Tj.iload dX10_fits_103 rfl rfl ?_
    refine Tj.callVi (as := [_, _]) (rest := []) dX10_fits_105 ln_X10_73 sh_120 (by decide) rfl rfl (Nat.le_of_ble_eq_true rfl) ⟨Nat.le_of_ble_eq_true rfl, Nat.le_of_ble_eq_true rfl⟩ (Nat.le_of_ble_eq_true rfl) rfl ?_
    refine Cli.mono h (fun r1 m1 h => ?_)
    refine Tj.istore dX10_fits_108 (Nat.le_of_ble_eq_true rfl) rfl rfl ?_
    refine Tj.iload dX10_fits_110 rfl rfl ?_
    refine Tj.if_lt dX10_fits_112 rfl rfl (fun c2 => ?_) (fun c2 => ?_)
    · have h := h.1 c2
      obtain ⟨o1, h⟩ := h
      refine Tj.iinc dX10_fits_148 rfl (Nat.le_of_ble_eq_true rfl) rfl o1 rfl ?_
      refine Tj.goto dX10_fits_151 rfl ?_
      exact Tj.cut h ⟨rfl, ⟨rfl, ⟨rfl, ⟨rfl, ⟨rfl, ⟨rfl, ⟨rfl, trivial⟩⟩⟩⟩⟩⟩⟩
    · have h := h.2 c2
      refine Tj.aload_n dX10_fits_115 rfl rfl ?_
      refine Tj.aload_n dX10_fits_116 rfl rfl ?_
      refine Tj.iload dX10_fits_117 rfl rfl ?_
      refine Tj.iload dX10_fits_119 rfl rfl ?_
      refine Tj.iload dX10_fits_121 rfl rfl ?_
      refine Tj.callVi (as := [_, _, _, _]) (rest := []) dX10_fits_123 ln_X10_69 sh_128 (by decide) rfl rfl (Nat.le_of_ble_eq_true rfl) ⟨Nat.le_of_ble_eq_true rfl, Nat.le_of_ble_eq_true rfl⟩ (Nat.le_of_ble_eq_true rfl) rfl ?_
      refine Cli.mono h (fun r2 m2 h => ?_)
      obtain ⟨⟨o2, o3, o4, o5⟩, h⟩ := h
      refine Tj.iconst dX10_fits_126 (by decide) rfl ?_
      refine Tj.aload_n dX10_fits_127 rfl rfl ?_
      refine Tj.getR (b := 129) dX10_fits_128 fl_X10_9 sh_128 rfl rfl ?_
      refine Tj.iload dX10_fits_131 rfl rfl ?_
      refine Tj.iald dX10_fits_133 sh_129 o2 o3 rfl ?_
      refine Tj.imul dX10_fits_134 o4 rfl ?_
      refine Tj.aload_n dX10_fits_135 rfl rfl ?_
      refine Tj.getR (b := 130) dX10_fits_136 fl_X10_15 sh_128 rfl rfl ?_
      refine Tj.iload dX10_fits_139 rfl rfl ?_
      refine Tj.iald dX10_fits_141 sh_130 o2 o3 rfl ?_
      refine Tj.iadd dX10_fits_142 o5 rfl ?_
      refine Tj.icmp_eq dX10_fits_143 rfl rfl (fun c3 => ?_) (fun c3 => ?_)
      · have h := h.1 c3
        obtain ⟨o6, h⟩ := h
        refine Tj.iinc dX10_fits_148 rfl (Nat.le_of_ble_eq_true rfl) rfl o6 rfl ?_
        refine Tj.goto dX10_fits_151 rfl ?_
        exact Tj.cut h ⟨rfl, ⟨rfl, ⟨rfl, ⟨rfl, ⟨rfl, ⟨rfl, ⟨rfl, trivial⟩⟩⟩⟩⟩⟩⟩
      · have h := h.2 c3
        refine Tj.iconst dX10_fits_146 (by decide) rfl ?_
        exact Tj.zret dX10_fits_147 rfl (by decide) h
  · have h := h.2 c1
    obtain ⟨o7, h⟩ := h
    refine Tj.iinc dX10_fits_154 rfl (Nat.le_of_ble_eq_true rfl) rfl o7 rfl ?_
    refine Tj.goto dX10_fits_157 rfl ?_
    exact Tj.cut h ⟨rfl, ⟨rfl, ⟨rfl, ⟨rfl, ⟨rfl, ⟨rfl, trivial⟩⟩⟩⟩⟩⟩

theorem wX10_lay_0 {m : tM} {P : Option tV → tM → Prop} {x1 : Int} {x2 : Int}  (h : (0 ≤ x1 ∧ x1 < 60 ∧ 0 ≤ (bShr x2 2) ∧ (bShr x2 2) < 60) ∧ (P none (up (up (up m 129 x1 (bShr x2 2)) 130 x1 (bAnd x2 3)) 131 (bShr x2 2) x1))) : Tj mX10_lay 0 [some (rV 128), some (iV x1), some (iV x2)] [] m P := by
  obtain ⟨⟨o1, o2, o3, o4⟩, h⟩ := h
  refine Tj.aload_n dX10_lay_0 rfl rfl ?_
  refine Tj.getR (b := 129) dX10_lay_1 fl_X10_9 sh_128 rfl rfl ?_
  refine Tj.iload_n dX10_lay_4 rfl rfl ?_
  refine Tj.iload_n dX10_lay_5 rfl rfl ?_
  refine Tj.iconst dX10_lay_6 (by decide) rfl ?_
  refine Tj.ishr dX10_lay_7 rfl ?_
  refine Tj.iast dX10_lay_8 sh_129 o1 o2 rfl ?_
  refine Tj.aload_n dX10_lay_9 rfl rfl ?_
  refine Tj.getR (b := 130) dX10_lay_10 fl_X10_15 sh_128 rfl rfl ?_
  refine Tj.iload_n dX10_lay_13 rfl rfl ?_
  refine Tj.iload_n dX10_lay_14 rfl rfl ?_
  refine Tj.iconst dX10_lay_15 (by decide) rfl ?_
  refine Tj.iand dX10_lay_16 rfl ?_
  refine Tj.iast dX10_lay_17 sh_130 o1 o2 rfl ?_
  refine Tj.aload_n dX10_lay_18 rfl rfl ?_
  refine Tj.getR (b := 131) dX10_lay_19 fl_X10_18 sh_128 rfl rfl ?_
  refine Tj.iload_n dX10_lay_22 rfl rfl ?_
  refine Tj.iconst dX10_lay_23 (by decide) rfl ?_
  refine Tj.ishr dX10_lay_24 rfl ?_
  refine Tj.iload_n dX10_lay_25 rfl rfl ?_
  refine Tj.iast dX10_lay_26 sh_131 o3 o4 rfl ?_
  exact Tj.vret dX10_lay_27 rfl h

theorem wX10_landing_0 {m : tM} {P : Option tV → tM → Prop} {x2 : Int} {x3 : Int} {x4 : Int}  (h : (x4 = 0 → ((0 ≤ x2 ∧ x2 < 60 ∧ R32 (x3 - (m 130 x2)) ∧ R32 (x3 + 2)) ∧ (Cli mX9_sideAcross [rV 109, iV (m 129 x2), iV (bAnd (x3 - (m 130 x2)) 3)] m (fun r1 m1 => ((R32 ((x3 + 2) - r1)) ∧ (Cli mX9_squareAcross [rV 109, iV (m1 129 x2), iV (bAnd (x3 - (m 130 x2)) 3)] m1 (fun r2 m2 => ((R32 (4 * r2) ∧ R32 ((4 * r2) + (bAnd ((x3 + 2) - r1) 3))) ∧ (P (some (iV ((4 * r2) + (bAnd ((x3 + 2) - r1) 3)))) m2))))))))) ∧ (¬ x4 = 0 → (Cli mX8_mirrored [iV x3] m (fun r3 m3 => ((0 ≤ x2 ∧ x2 < 60 ∧ R32 (r3 - (m3 130 x2)) ∧ R32 (r3 + 2)) ∧ (Cli mX9_sideAcross [rV 109, iV (m3 129 x2), iV (bAnd (r3 - (m3 130 x2)) 3)] m3 (fun r4 m4 => ((R32 ((r3 + 2) - r4)) ∧ (Cli mX9_squareAcross [rV 109, iV (m4 129 x2), iV (bAnd (r3 - (m3 130 x2)) 3)] m4 (fun r5 m5 => ((R32 (4 * r5) ∧ R32 ((4 * r5) + (bAnd ((r3 + 2) - r4) 3))) ∧ (P (some (iV ((4 * r5) + (bAnd ((r3 + 2) - r4) 3)))) m5)))))))))))) : Tj mX10_landing 0 [some (rV 128), some (rV 109), some (iV x2), some (iV x3), some (iV x4)] [] m P := by
  refine Tj.iload dX10_landing_0 rfl rfl ?_
  refine Tj.if_eq dX10_landing_2 rfl rfl (fun c1 => ?_) (fun c1 => ?_)
  · have h := h.1 c1
    obtain ⟨⟨o1, o2, o3, o4⟩, h⟩ := h
    refine Tj.iload_n dX10_landing_12 rfl rfl ?_
    refine Tj.istore dX10_landing_13 (Nat.le_of_ble_eq_true rfl) rfl rfl ?_
    refine Tj.iload dX10_landing_15 rfl rfl ?_
    refine Tj.aload_n dX10_landing_17 rfl rfl ?_
    refine Tj.getR (b := 130) dX10_landing_18 fl_X10_15 sh_128 rfl rfl ?_
    refine Tj.iload_n dX10_landing_21 rfl rfl ?_
    refine Tj.iald dX10_landing_22 sh_130 o1 o2 rfl ?_
    refine Tj.isub dX10_landing_23 o3 rfl ?_
    refine Tj.iconst dX10_landing_24 (by decide) rfl ?_
    refine Tj.iand dX10_landing_25 rfl ?_
    refine Tj.istore dX10_landing_26 (Nat.le_of_ble_eq_true rfl) rfl rfl ?_
    refine Tj.iload dX10_landing_28 rfl rfl ?_
    refine Tj.iconst dX10_landing_30 (by decide) rfl ?_
    refine Tj.iadd dX10_landing_31 o4 rfl ?_
    refine Tj.aload_n dX10_landing_32 rfl rfl ?_
    refine Tj.aload_n dX10_landing_33 rfl rfl ?_
    refine Tj.getR (b := 129) dX10_landing_34 fl_X10_9 sh_128 rfl rfl ?_
    refine Tj.iload_n dX10_landing_37 rfl rfl ?_
    refine Tj.iald dX10_landing_38 sh_129 o1 o2 rfl ?_
    refine Tj.iload dX10_landing_39 rfl rfl ?_
    refine Tj.callVi (as := [_, _]) (rest := [_]) dX10_landing_41 ln_X10_80 sh_109 (by decide) rfl rfl (Nat.le_of_ble_eq_true rfl) ⟨Nat.le_of_ble_eq_true rfl, Nat.le_of_ble_eq_true rfl⟩ (Nat.le_of_ble_eq_true rfl) rfl ?_
    refine Cli.mono h (fun r1 m1 h => ?_)
    obtain ⟨o5, h⟩ := h
    refine Tj.isub dX10_landing_44 o5 rfl ?_
    refine Tj.iconst dX10_landing_45 (by decide) rfl ?_
    refine Tj.iand dX10_landing_46 rfl ?_
    refine Tj.istore dX10_landing_47 (Nat.le_of_ble_eq_true rfl) rfl rfl ?_
    refine Tj.iconst dX10_landing_49 (by decide) rfl ?_
    refine Tj.aload_n dX10_landing_50 rfl rfl ?_
    refine Tj.aload_n dX10_landing_51 rfl rfl ?_
    refine Tj.getR (b := 129) dX10_landing_52 fl_X10_9 sh_128 rfl rfl ?_
    refine Tj.iload_n dX10_landing_55 rfl rfl ?_
    refine Tj.iald dX10_landing_56 sh_129 o1 o2 rfl ?_
    refine Tj.iload dX10_landing_57 rfl rfl ?_
    refine Tj.callVi (as := [_, _]) (rest := [_]) dX10_landing_59 ln_X10_83 sh_109 (by decide) rfl rfl (Nat.le_of_ble_eq_true rfl) ⟨Nat.le_of_ble_eq_true rfl, Nat.le_of_ble_eq_true rfl⟩ (Nat.le_of_ble_eq_true rfl) rfl ?_
    refine Cli.mono h (fun r2 m2 h => ?_)
    obtain ⟨⟨o6, o7⟩, h⟩ := h
    refine Tj.imul dX10_landing_62 o6 rfl ?_
    refine Tj.iload dX10_landing_63 rfl rfl ?_
    refine Tj.iadd dX10_landing_65 o7 rfl ?_
    exact Tj.iret dX10_landing_66 rfl h
  · have h := h.2 c1
    refine Tj.iload_n dX10_landing_5 rfl rfl ?_
    refine Tj.callSi (as := [_]) (rest := []) dX10_landing_6 ln_X10_77 rfl rfl (Nat.le_of_ble_eq_true rfl) ⟨Nat.le_of_ble_eq_true rfl, Nat.le_of_ble_eq_true rfl⟩ (Nat.le_of_ble_eq_true rfl) rfl ?_
    refine Cli.mono h (fun r3 m3 h => ?_)
    obtain ⟨⟨o8, o9, o10, o11⟩, h⟩ := h
    refine Tj.goto dX10_landing_9 rfl ?_
    refine Tj.istore dX10_landing_13 (Nat.le_of_ble_eq_true rfl) rfl rfl ?_
    refine Tj.iload dX10_landing_15 rfl rfl ?_
    refine Tj.aload_n dX10_landing_17 rfl rfl ?_
    refine Tj.getR (b := 130) dX10_landing_18 fl_X10_15 sh_128 rfl rfl ?_
    refine Tj.iload_n dX10_landing_21 rfl rfl ?_
    refine Tj.iald dX10_landing_22 sh_130 o8 o9 rfl ?_
    refine Tj.isub dX10_landing_23 o10 rfl ?_
    refine Tj.iconst dX10_landing_24 (by decide) rfl ?_
    refine Tj.iand dX10_landing_25 rfl ?_
    refine Tj.istore dX10_landing_26 (Nat.le_of_ble_eq_true rfl) rfl rfl ?_
    refine Tj.iload dX10_landing_28 rfl rfl ?_
    refine Tj.iconst dX10_landing_30 (by decide) rfl ?_
    refine Tj.iadd dX10_landing_31 o11 rfl ?_
    refine Tj.aload_n dX10_landing_32 rfl rfl ?_
    refine Tj.aload_n dX10_landing_33 rfl rfl ?_
    refine Tj.getR (b := 129) dX10_landing_34 fl_X10_9 sh_128 rfl rfl ?_
    refine Tj.iload_n dX10_landing_37 rfl rfl ?_
    refine Tj.iald dX10_landing_38 sh_129 o8 o9 rfl ?_
    refine Tj.iload dX10_landing_39 rfl rfl ?_
    refine Tj.callVi (as := [_, _]) (rest := [_]) dX10_landing_41 ln_X10_80 sh_109 (by decide) rfl rfl (Nat.le_of_ble_eq_true rfl) ⟨Nat.le_of_ble_eq_true rfl, Nat.le_of_ble_eq_true rfl⟩ (Nat.le_of_ble_eq_true rfl) rfl ?_
    refine Cli.mono h (fun r4 m4 h => ?_)
    obtain ⟨o12, h⟩ := h
    refine Tj.isub dX10_landing_44 o12 rfl ?_
    refine Tj.iconst dX10_landing_45 (by decide) rfl ?_
    refine Tj.iand dX10_landing_46 rfl ?_
    refine Tj.istore dX10_landing_47 (Nat.le_of_ble_eq_true rfl) rfl rfl ?_
    refine Tj.iconst dX10_landing_49 (by decide) rfl ?_
    refine Tj.aload_n dX10_landing_50 rfl rfl ?_
    refine Tj.aload_n dX10_landing_51 rfl rfl ?_
    refine Tj.getR (b := 129) dX10_landing_52 fl_X10_9 sh_128 rfl rfl ?_
    refine Tj.iload_n dX10_landing_55 rfl rfl ?_
    refine Tj.iald dX10_landing_56 sh_129 o8 o9 rfl ?_
    refine Tj.iload dX10_landing_57 rfl rfl ?_
    refine Tj.callVi (as := [_, _]) (rest := [_]) dX10_landing_59 ln_X10_83 sh_109 (by decide) rfl rfl (Nat.le_of_ble_eq_true rfl) ⟨Nat.le_of_ble_eq_true rfl, Nat.le_of_ble_eq_true rfl⟩ (Nat.le_of_ble_eq_true rfl) rfl ?_
    refine Cli.mono h (fun r5 m5 h => ?_)
    obtain ⟨⟨o13, o14⟩, h⟩ := h
    refine Tj.imul dX10_landing_62 o13 rfl ?_
    refine Tj.iload dX10_landing_63 rfl rfl ?_
    refine Tj.iadd dX10_landing_65 o14 rfl ?_
    exact Tj.iret dX10_landing_66 rfl h
