theorem wX12_in_0 {m : tM} {P : Option tV → tM → Prop} {x0 : Int} {x1 : Int} {x2 : Int}  (h : ∀ v1 : Int, v1 = (if x0 < x1 then 0 else (if x2 < x0 then 0 else 1)) → (P (some (iV v1)) m)) : Tj mX12_in 0 [some (iV x0), some (iV x1), some (iV x2)] [] m P := by
  refine Tj.iload_n dX12_in_0 rfl rfl ?_
  refine Tj.iload_n dX12_in_1 rfl rfl ?_
  have hj : Tj mX12_in 15 [] [iV (if x0 < x1 then 0 else (if x2 < x0 then 0 else 1))] m P := by
    generalize hv1 : ((if x0 < x1 then 0 else (if x2 < x0 then 0 else 1)) : Int) = v1
    have h := h v1 hv1.symm
    exact Tj.zret dX12_in_15 rfl (by rw [← hv1]; (repeat' split) <;> simp) h
  refine Tj.icmp_lt dX12_in_2 rfl rfl (fun c1 => ?_) (fun c1 => ?_)
  · refine Tj.iconst dX12_in_14 (by decide) rfl ?_
    try simp only [if_pos c1] at hj ⊢
    exact Tj.cut hj trivial
  · refine Tj.iload_n dX12_in_5 rfl rfl ?_
    refine Tj.iload_n dX12_in_6 rfl rfl ?_
    refine Tj.icmp_gt dX12_in_7 rfl rfl (fun c2 => ?_) (fun c2 => ?_)
    · refine Tj.iconst dX12_in_14 (by decide) rfl ?_
      try simp only [if_neg c1, if_pos c2] at hj ⊢
      exact Tj.cut hj trivial
    · refine Tj.iconst dX12_in_10 (by decide) rfl ?_
      refine Tj.goto dX12_in_11 rfl ?_
      try simp only [if_neg c1, if_neg c2] at hj ⊢
      exact Tj.cut hj trivial

theorem wX12_write_0 {m : tM} {P : Option tV → tM → Prop} {p : Nat} {np : Nat} {x2 : Int}  (h : Tj mX12_write 2 [some (rV 145), some (rV p), some (iV x2), some (iV 0)] [] m P) : Tj mX12_write 0 [some (rV 145), some (rV p), some (iV x2)] [] m P := by
  refine Tj.iconst dX12_write_0 (by decide) rfl ?_
  refine Tj.istore_n dX12_write_1 (Nat.le_of_ble_eq_true rfl) rfl rfl ?_
  exact Tj.cut h ⟨rfl, ⟨rfl, ⟨rfl, ⟨rfl, trivial⟩⟩⟩⟩

theorem wX12_write_2 {m : tM} {P : Option tV → tM → Prop} {p : Nat} {np : Nat} {x2 : Int} {x3 : Int} (s_p0 : shp p = some (20, np)) (h : (x3 < x2 → ((0 ≤ x3 ∧ x3 < np ∧ 0 ≤ (m 145 14) ∧ (m 145 14) < 14880 ∧ R32 ((m 145 14) + 1) ∧ R32 (x3 + 1)) ∧ (Tj mX12_write 2 [some (rV 145), some (rV p), some (iV x2), some (iV (x3 + 1))] [] (up (up m 155 (m 145 14) (m p x3)) 145 14 ((m 145 14) + 1)) P))) ∧ (¬ x3 < x2 → (P none m))) : Tj mX12_write 2 [some (rV 145), some (rV p), some (iV x2), some (iV x3)] [] m P := by
  refine Tj.iload_n dX12_write_2 rfl rfl ?_
  refine Tj.iload_n dX12_write_3 rfl rfl ?_
  refine Tj.icmp_ge dX12_write_4 rfl rfl (fun c1 => ?_) (fun c1 => ?_)
  · have h := h.1 c1
    obtain ⟨⟨o1, o2, o3, o4, o5, o6⟩, h⟩ := h
    refine Tj.aload_n dX12_write_7 rfl rfl ?_
    refine Tj.getR (b := 155) dX12_write_8 fl_X12_37 sh_145 rfl rfl ?_
    refine Tj.aload_n dX12_write_11 rfl rfl ?_
    refine Tj.gI (j := 14) dX12_write_12 fl_X12_117 sh_145 rfl rfl ?_
    refine Tj.aload_n dX12_write_15 rfl rfl ?_
    refine Tj.iload_n dX12_write_16 rfl rfl ?_
    refine Tj.iald dX12_write_17 s_p0 o1 o2 rfl ?_
    refine Tj.iast dX12_write_18 sh_155 o3 o4 rfl ?_
    refine Tj.aload_n dX12_write_19 rfl rfl ?_
    refine Tj.dup dX12_write_20 rfl rfl ?_
    refine Tj.gI (j := 14) dX12_write_21 fl_X12_117 sh_145 rfl rfl ?_
    refine Tj.iconst dX12_write_24 (by decide) rfl ?_
    refine Tj.iadd dX12_write_25 o5 rfl ?_
    refine Tj.pI (j := 14) dX12_write_26 fp_X12_117 sh_145 rfl rfl ?_
    refine Tj.iinc dX12_write_29 rfl (Nat.le_of_ble_eq_true rfl) rfl o6 rfl ?_
    refine Tj.goto dX12_write_32 rfl ?_
    exact Tj.cut h ⟨rfl, ⟨rfl, ⟨rfl, ⟨rfl, trivial⟩⟩⟩⟩
  · have h := h.2 c1
    exact Tj.vret dX12_write_35 rfl h

theorem wX12_read_0 {m : tM} {P : Option tV → tM → Prop} {p : Nat} {np : Nat} {x2 : Int}  (h : Tj mX12_read 2 [some (rV 145), some (rV p), some (iV x2), some (iV 0)] [] m P) : Tj mX12_read 0 [some (rV 145), some (rV p), some (iV x2)] [] m P := by
  refine Tj.iconst dX12_read_0 (by decide) rfl ?_
  refine Tj.istore_n dX12_read_1 (Nat.le_of_ble_eq_true rfl) rfl rfl ?_
  exact Tj.cut h ⟨rfl, ⟨rfl, ⟨rfl, ⟨rfl, trivial⟩⟩⟩⟩

theorem wX12_read_2 {m : tM} {P : Option tV → tM → Prop} {p : Nat} {np : Nat} {x2 : Int} {x3 : Int} (s_p0 : shp p = some (20, np)) (h : (x3 < x2 → ((0 ≤ (m 145 14) ∧ (m 145 14) < 14880 ∧ 0 ≤ x3 ∧ x3 < np ∧ R32 (((up m p x3 (m 155 (m 145 14))) 145 14) + 1) ∧ R32 (x3 + 1)) ∧ (Tj mX12_read 2 [some (rV 145), some (rV p), some (iV x2), some (iV (x3 + 1))] [] (up (up m p x3 (m 155 (m 145 14))) 145 14 (((up m p x3 (m 155 (m 145 14))) 145 14) + 1)) P))) ∧ (¬ x3 < x2 → (P none m))) : Tj mX12_read 2 [some (rV 145), some (rV p), some (iV x2), some (iV x3)] [] m P := by
  refine Tj.iload_n dX12_read_2 rfl rfl ?_
  refine Tj.iload_n dX12_read_3 rfl rfl ?_
  refine Tj.icmp_ge dX12_read_4 rfl rfl (fun c1 => ?_) (fun c1 => ?_)
  · have h := h.1 c1
    obtain ⟨⟨o1, o2, o3, o4, o5, o6⟩, h⟩ := h
    refine Tj.aload_n dX12_read_7 rfl rfl ?_
    refine Tj.iload_n dX12_read_8 rfl rfl ?_
    refine Tj.aload_n dX12_read_9 rfl rfl ?_
    refine Tj.getR (b := 155) dX12_read_10 fl_X12_37 sh_145 rfl rfl ?_
    refine Tj.aload_n dX12_read_13 rfl rfl ?_
    refine Tj.gI (j := 14) dX12_read_14 fl_X12_117 sh_145 rfl rfl ?_
    refine Tj.iald dX12_read_17 sh_155 o1 o2 rfl ?_
    refine Tj.iast dX12_read_18 s_p0 o3 o4 rfl ?_
    refine Tj.aload_n dX12_read_19 rfl rfl ?_
    refine Tj.dup dX12_read_20 rfl rfl ?_
    refine Tj.gI (j := 14) dX12_read_21 fl_X12_117 sh_145 rfl rfl ?_
    refine Tj.iconst dX12_read_24 (by decide) rfl ?_
    refine Tj.iadd dX12_read_25 o5 rfl ?_
    refine Tj.pI (j := 14) dX12_read_26 fp_X12_117 sh_145 rfl rfl ?_
    refine Tj.iinc dX12_read_29 rfl (Nat.le_of_ble_eq_true rfl) rfl o6 rfl ?_
    refine Tj.goto dX12_read_32 rfl ?_
    exact Tj.cut h ⟨rfl, ⟨rfl, ⟨rfl, ⟨rfl, trivial⟩⟩⟩⟩
  · have h := h.2 c1
    exact Tj.vret dX12_read_35 rfl h

theorem wX12_keep_0 {m : tM} {P : Option tV → tM → Prop}   (h : (R32 (1860 * (m 145 12))) ∧ (Clv mX12_write [rV 145, rV 146, iV 4] (up m 145 14 (1860 * (m 145 12))) (fun m1 => (Clv mX12_write [rV 145, rV 147, iV 64] m1 (fun m2 => (Clv mX12_write [rV 145, rV 148, iV 1536] m2 (fun m3 => ((0 ≤ (m3 145 14) ∧ (m3 145 14) < 14880 ∧ R32 ((m3 145 14) + 1)) ∧ (Clv mX12_write [rV 145, rV 149, iV 60] (up (up m3 155 (m3 145 14) (m3 145 4)) 145 14 ((m3 145 14) + 1)) (fun m4 => (Clv mX12_write [rV 145, rV 150, iV 60] m4 (fun m5 => (Clv mX12_write [rV 145, rV 151, iV 60] m5 (fun m6 => (Clv mX12_write [rV 145, rV 152, iV 60] m6 (fun m7 => ((R32 ((m7 145 12) + 1) ∧ 0 ≤ ((m7 145 12) + 1)) ∧ (((m7 145 13) < 8 → ((R32 ((m7 145 13) + 1)) ∧ (P none (up (up m7 145 12 (((m7 145 12) + 1) % 8)) 145 13 ((m7 145 13) + 1))))) ∧ (¬ (m7 145 13) < 8 → (P none (up (up m7 145 12 (((m7 145 12) + 1) % 8)) 145 13 8))))))))))))))))))))) : Tj mX12_keep 0 [some (rV 145)] [] m P := by
  obtain ⟨o1, h⟩ := h
  refine Tj.aload_n dX12_keep_0 rfl rfl ?_
  refine Tj.sipush dX12_keep_1 (by decide) (by decide +kernel) rfl ?_
  refine Tj.aload_n dX12_keep_4 rfl rfl ?_
  refine Tj.gI (j := 12) dX12_keep_5 fl_X12_120 sh_145 rfl rfl ?_
  refine Tj.imul dX12_keep_8 o1 rfl ?_
  refine Tj.pI (j := 14) dX12_keep_9 fp_X12_117 sh_145 rfl rfl ?_
  refine Tj.aload_n dX12_keep_12 rfl rfl ?_
  refine Tj.aload_n dX12_keep_13 rfl rfl ?_
  refine Tj.getR (b := 146) dX12_keep_14 fl_X12_7 sh_145 rfl rfl ?_
  refine Tj.iconst dX12_keep_17 (by decide) rfl ?_
  refine Tj.callVv (as := [_, _]) (rest := []) dX12_keep_18 ln_X12_123 sh_145 (by decide) rfl rfl (Nat.le_of_ble_eq_true rfl) ⟨Nat.le_of_ble_eq_true rfl, Nat.le_of_ble_eq_true rfl⟩ (Nat.le_of_ble_eq_true rfl) rfl ?_
  refine Clv.mono h (fun m1 h => ?_)
  refine Tj.aload_n dX12_keep_21 rfl rfl ?_
  refine Tj.aload_n dX12_keep_22 rfl rfl ?_
  refine Tj.getR (b := 147) dX12_keep_23 fl_X12_13 sh_145 rfl rfl ?_
  refine Tj.bipush dX12_keep_26 (by decide) (by decide +kernel) rfl ?_
  refine Tj.callVv (as := [_, _]) (rest := []) dX12_keep_28 ln_X12_123 sh_145 (by decide) rfl rfl (Nat.le_of_ble_eq_true rfl) ⟨Nat.le_of_ble_eq_true rfl, Nat.le_of_ble_eq_true rfl⟩ (Nat.le_of_ble_eq_true rfl) rfl ?_
  refine Clv.mono h (fun m2 h => ?_)
  refine Tj.aload_n dX12_keep_31 rfl rfl ?_
  refine Tj.aload_n dX12_keep_32 rfl rfl ?_
  refine Tj.getR (b := 148) dX12_keep_33 fl_X12_16 sh_145 rfl rfl ?_
  refine Tj.sipush dX12_keep_36 (by decide) (by decide +kernel) rfl ?_
  refine Tj.callVv (as := [_, _]) (rest := []) dX12_keep_39 ln_X12_123 sh_145 (by decide) rfl rfl (Nat.le_of_ble_eq_true rfl) ⟨Nat.le_of_ble_eq_true rfl, Nat.le_of_ble_eq_true rfl⟩ (Nat.le_of_ble_eq_true rfl) rfl ?_
  refine Clv.mono h (fun m3 h => ?_)
  obtain ⟨⟨o2, o3, o4⟩, h⟩ := h
  refine Tj.aload_n dX12_keep_42 rfl rfl ?_
  refine Tj.getR (b := 155) dX12_keep_43 fl_X12_37 sh_145 rfl rfl ?_
  refine Tj.aload_n dX12_keep_46 rfl rfl ?_
  refine Tj.gI (j := 14) dX12_keep_47 fl_X12_117 sh_145 rfl rfl ?_
  refine Tj.aload_n dX12_keep_50 rfl rfl ?_
  refine Tj.gI (j := 4) dX12_keep_51 fl_X12_127 sh_145 rfl rfl ?_
  refine Tj.iast dX12_keep_54 sh_155 o2 o3 rfl ?_
  refine Tj.aload_n dX12_keep_55 rfl rfl ?_
  refine Tj.dup dX12_keep_56 rfl rfl ?_
  refine Tj.gI (j := 14) dX12_keep_57 fl_X12_117 sh_145 rfl rfl ?_
  refine Tj.iconst dX12_keep_60 (by decide) rfl ?_
  refine Tj.iadd dX12_keep_61 o4 rfl ?_
  refine Tj.pI (j := 14) dX12_keep_62 fp_X12_117 sh_145 rfl rfl ?_
  refine Tj.aload_n dX12_keep_65 rfl rfl ?_
  refine Tj.aload_n dX12_keep_66 rfl rfl ?_
  refine Tj.getR (b := 149) dX12_keep_67 fl_X12_19 sh_145 rfl rfl ?_
  refine Tj.bipush dX12_keep_70 (by decide) (by decide +kernel) rfl ?_
  refine Tj.callVv (as := [_, _]) (rest := []) dX12_keep_72 ln_X12_123 sh_145 (by decide) rfl rfl (Nat.le_of_ble_eq_true rfl) ⟨Nat.le_of_ble_eq_true rfl, Nat.le_of_ble_eq_true rfl⟩ (Nat.le_of_ble_eq_true rfl) rfl ?_
  refine Clv.mono h (fun m4 h => ?_)
  refine Tj.aload_n dX12_keep_75 rfl rfl ?_
  refine Tj.aload_n dX12_keep_76 rfl rfl ?_
  refine Tj.getR (b := 150) dX12_keep_77 fl_X12_22 sh_145 rfl rfl ?_
  refine Tj.bipush dX12_keep_80 (by decide) (by decide +kernel) rfl ?_
  refine Tj.callVv (as := [_, _]) (rest := []) dX12_keep_82 ln_X12_123 sh_145 (by decide) rfl rfl (Nat.le_of_ble_eq_true rfl) ⟨Nat.le_of_ble_eq_true rfl, Nat.le_of_ble_eq_true rfl⟩ (Nat.le_of_ble_eq_true rfl) rfl ?_
  refine Clv.mono h (fun m5 h => ?_)
  refine Tj.aload_n dX12_keep_85 rfl rfl ?_
  refine Tj.aload_n dX12_keep_86 rfl rfl ?_
  refine Tj.getR (b := 151) dX12_keep_87 fl_X12_25 sh_145 rfl rfl ?_
  refine Tj.bipush dX12_keep_90 (by decide) (by decide +kernel) rfl ?_
  refine Tj.callVv (as := [_, _]) (rest := []) dX12_keep_92 ln_X12_123 sh_145 (by decide) rfl rfl (Nat.le_of_ble_eq_true rfl) ⟨Nat.le_of_ble_eq_true rfl, Nat.le_of_ble_eq_true rfl⟩ (Nat.le_of_ble_eq_true rfl) rfl ?_
  refine Clv.mono h (fun m6 h => ?_)
  refine Tj.aload_n dX12_keep_95 rfl rfl ?_
  refine Tj.aload_n dX12_keep_96 rfl rfl ?_
  refine Tj.getR (b := 152) dX12_keep_97 fl_X12_28 sh_145 rfl rfl ?_
  refine Tj.bipush dX12_keep_100 (by decide) (by decide +kernel) rfl ?_
  refine Tj.callVv (as := [_, _]) (rest := []) dX12_keep_102 ln_X12_123 sh_145 (by decide) rfl rfl (Nat.le_of_ble_eq_true rfl) ⟨Nat.le_of_ble_eq_true rfl, Nat.le_of_ble_eq_true rfl⟩ (Nat.le_of_ble_eq_true rfl) rfl ?_
  refine Clv.mono h (fun m7 h => ?_)
  obtain ⟨⟨o5, o6⟩, h⟩ := h
  refine Tj.aload_n dX12_keep_105 rfl rfl ?_
  refine Tj.aload_n dX12_keep_106 rfl rfl ?_
  refine Tj.gI (j := 12) dX12_keep_107 fl_X12_120 sh_145 rfl rfl ?_
  refine Tj.iconst dX12_keep_110 (by decide) rfl ?_
  refine Tj.iadd dX12_keep_111 o5 rfl ?_
  refine Tj.bipush dX12_keep_112 (by decide) (by decide +kernel) rfl ?_
  refine Tj.irem dX12_keep_114 o6 (by decide) rfl ?_
  refine Tj.pI (j := 12) dX12_keep_115 fp_X12_120 sh_145 rfl rfl ?_
  refine Tj.aload_n dX12_keep_118 rfl rfl ?_
  refine Tj.aload_n dX12_keep_119 rfl rfl ?_
  refine Tj.gI (j := 13) dX12_keep_120 fl_X12_130 sh_145 rfl rfl ?_
  refine Tj.bipush dX12_keep_123 (by decide) (by decide +kernel) rfl ?_
  refine Tj.icmp_ge dX12_keep_125 rfl rfl (fun c1 => ?_) (fun c1 => ?_)
  · have h := h.1 c1
    obtain ⟨o7, h⟩ := h
    refine Tj.aload_n dX12_keep_128 rfl rfl ?_
    refine Tj.gI (j := 13) dX12_keep_129 fl_X12_130 sh_145 rfl rfl ?_
    refine Tj.iconst dX12_keep_132 (by decide) rfl ?_
    refine Tj.iadd dX12_keep_133 o7 rfl ?_
    refine Tj.goto dX12_keep_134 rfl ?_
    refine Tj.pI (j := 13) dX12_keep_139 fp_X12_130 sh_145 rfl rfl ?_
    exact Tj.vret dX12_keep_142 rfl h
  · have h := h.2 c1
    refine Tj.bipush dX12_keep_137 (by decide) (by decide +kernel) rfl ?_
    refine Tj.pI (j := 13) dX12_keep_139 fp_X12_130 sh_145 rfl rfl ?_
    exact Tj.vret dX12_keep_142 rfl h

theorem wX12_undo_0 {m : tM} {P : Option tV → tM → Prop}   (h : ((m 145 13) = 0 → (P (some (iV (-4))) (up m 145 0 0))) ∧ (¬ (m 145 13) = 0 → ((R32 ((m 145 12) + 8) ∧ R32 (((m 145 12) + 8) - 1) ∧ 0 ≤ (((m 145 12) + 8) - 1) ∧ R32 ((m 145 13) - 1) ∧ R32 (1860 * ((((m 145 12) + 8) - 1) % 8))) ∧ (Clv mX12_read [rV 145, rV 146, iV 4] (up (up (up (up m 145 0 0) 145 12 ((((m 145 12) + 8) - 1) % 8)) 145 13 ((m 145 13) - 1)) 145 14 (1860 * ((((m 145 12) + 8) - 1) % 8))) (fun m1 => (Clv mX12_read [rV 145, rV 147, iV 64] m1 (fun m2 => (Clv mX12_read [rV 145, rV 148, iV 1536] m2 (fun m3 => ((0 ≤ (m3 145 14) ∧ (m3 145 14) < 14880 ∧ R32 ((m3 145 14) + 1)) ∧ (Clv mX12_read [rV 145, rV 149, iV 60] (up (up m3 145 4 (m3 155 (m3 145 14))) 145 14 ((m3 145 14) + 1)) (fun m4 => (Clv mX12_read [rV 145, rV 150, iV 60] m4 (fun m5 => (Clv mX12_read [rV 145, rV 151, iV 60] m5 (fun m6 => (Clv mX12_read [rV 145, rV 152, iV 60] m6 (fun m7 => (P (some (iV (m7 145 13))) m7))))))))))))))))))) : Tj mX12_undo 0 [some (rV 145)] [] m P := by
  refine Tj.aload_n dX12_undo_0 rfl rfl ?_
  refine Tj.iconst dX12_undo_1 (by decide) rfl ?_
  refine Tj.pI (j := 0) dX12_undo_2 fp_X12_113 sh_145 rfl rfl ?_
  refine Tj.aload_n dX12_undo_5 rfl rfl ?_
  refine Tj.gI (j := 13) dX12_undo_6 fl_X12_130 sh_145 rfl rfl ?_
  refine Tj.if_ne dX12_undo_9 rfl rfl (fun c1 => ?_) (fun c1 => ?_)
  · have h := h.1 c1
    refine Tj.bipush dX12_undo_12 (by decide) (by decide +kernel) rfl ?_
    exact Tj.iret dX12_undo_14 rfl h
  · have h := h.2 c1
    obtain ⟨⟨o1, o2, o3, o4, o5⟩, h⟩ := h
    refine Tj.aload_n dX12_undo_15 rfl rfl ?_
    refine Tj.aload_n dX12_undo_16 rfl rfl ?_
    refine Tj.gI (j := 12) dX12_undo_17 fl_X12_120 sh_145 rfl rfl ?_
    refine Tj.bipush dX12_undo_20 (by decide) (by decide +kernel) rfl ?_
    refine Tj.iadd dX12_undo_22 o1 rfl ?_
    refine Tj.iconst dX12_undo_23 (by decide) rfl ?_
    refine Tj.isub dX12_undo_24 o2 rfl ?_
    refine Tj.bipush dX12_undo_25 (by decide) (by decide +kernel) rfl ?_
    refine Tj.irem dX12_undo_27 o3 (by decide) rfl ?_
    refine Tj.pI (j := 12) dX12_undo_28 fp_X12_120 sh_145 rfl rfl ?_
    refine Tj.aload_n dX12_undo_31 rfl rfl ?_
    refine Tj.dup dX12_undo_32 rfl rfl ?_
    refine Tj.gI (j := 13) dX12_undo_33 fl_X12_130 sh_145 rfl rfl ?_
    refine Tj.iconst dX12_undo_36 (by decide) rfl ?_
    refine Tj.isub dX12_undo_37 o4 rfl ?_
    refine Tj.pI (j := 13) dX12_undo_38 fp_X12_130 sh_145 rfl rfl ?_
    refine Tj.aload_n dX12_undo_41 rfl rfl ?_
    refine Tj.sipush dX12_undo_42 (by decide) (by decide +kernel) rfl ?_
    refine Tj.aload_n dX12_undo_45 rfl rfl ?_
    refine Tj.gI (j := 12) dX12_undo_46 fl_X12_120 sh_145 rfl rfl ?_
    refine Tj.imul dX12_undo_49 o5 rfl ?_
    refine Tj.pI (j := 14) dX12_undo_50 fp_X12_117 sh_145 rfl rfl ?_
    refine Tj.aload_n dX12_undo_53 rfl rfl ?_
    refine Tj.aload_n dX12_undo_54 rfl rfl ?_
    refine Tj.getR (b := 146) dX12_undo_55 fl_X12_7 sh_145 rfl rfl ?_
    refine Tj.iconst dX12_undo_58 (by decide) rfl ?_
    refine Tj.callVv (as := [_, _]) (rest := []) dX12_undo_59 ln_X12_133 sh_145 (by decide) rfl rfl (Nat.le_of_ble_eq_true rfl) ⟨Nat.le_of_ble_eq_true rfl, Nat.le_of_ble_eq_true rfl⟩ (Nat.le_of_ble_eq_true rfl) rfl ?_
    refine Clv.mono h (fun m1 h => ?_)
    refine Tj.aload_n dX12_undo_62 rfl rfl ?_
    refine Tj.aload_n dX12_undo_63 rfl rfl ?_
    refine Tj.getR (b := 147) dX12_undo_64 fl_X12_13 sh_145 rfl rfl ?_
    refine Tj.bipush dX12_undo_67 (by decide) (by decide +kernel) rfl ?_
    refine Tj.callVv (as := [_, _]) (rest := []) dX12_undo_69 ln_X12_133 sh_145 (by decide) rfl rfl (Nat.le_of_ble_eq_true rfl) ⟨Nat.le_of_ble_eq_true rfl, Nat.le_of_ble_eq_true rfl⟩ (Nat.le_of_ble_eq_true rfl) rfl ?_
    refine Clv.mono h (fun m2 h => ?_)
    refine Tj.aload_n dX12_undo_72 rfl rfl ?_
    refine Tj.aload_n dX12_undo_73 rfl rfl ?_
    refine Tj.getR (b := 148) dX12_undo_74 fl_X12_16 sh_145 rfl rfl ?_
    refine Tj.sipush dX12_undo_77 (by decide) (by decide +kernel) rfl ?_
    refine Tj.callVv (as := [_, _]) (rest := []) dX12_undo_80 ln_X12_133 sh_145 (by decide) rfl rfl (Nat.le_of_ble_eq_true rfl) ⟨Nat.le_of_ble_eq_true rfl, Nat.le_of_ble_eq_true rfl⟩ (Nat.le_of_ble_eq_true rfl) rfl ?_
    refine Clv.mono h (fun m3 h => ?_)
    obtain ⟨⟨o6, o7, o8⟩, h⟩ := h
    refine Tj.aload_n dX12_undo_83 rfl rfl ?_
    refine Tj.aload_n dX12_undo_84 rfl rfl ?_
    refine Tj.getR (b := 155) dX12_undo_85 fl_X12_37 sh_145 rfl rfl ?_
    refine Tj.aload_n dX12_undo_88 rfl rfl ?_
    refine Tj.gI (j := 14) dX12_undo_89 fl_X12_117 sh_145 rfl rfl ?_
    refine Tj.iald dX12_undo_92 sh_155 o6 o7 rfl ?_
    refine Tj.pI (j := 4) dX12_undo_93 fp_X12_127 sh_145 rfl rfl ?_
    refine Tj.aload_n dX12_undo_96 rfl rfl ?_
    refine Tj.dup dX12_undo_97 rfl rfl ?_
    refine Tj.gI (j := 14) dX12_undo_98 fl_X12_117 sh_145 rfl rfl ?_
    refine Tj.iconst dX12_undo_101 (by decide) rfl ?_
    refine Tj.iadd dX12_undo_102 o8 rfl ?_
    refine Tj.pI (j := 14) dX12_undo_103 fp_X12_117 sh_145 rfl rfl ?_
    refine Tj.aload_n dX12_undo_106 rfl rfl ?_
    refine Tj.aload_n dX12_undo_107 rfl rfl ?_
    refine Tj.getR (b := 149) dX12_undo_108 fl_X12_19 sh_145 rfl rfl ?_
    refine Tj.bipush dX12_undo_111 (by decide) (by decide +kernel) rfl ?_
    refine Tj.callVv (as := [_, _]) (rest := []) dX12_undo_113 ln_X12_133 sh_145 (by decide) rfl rfl (Nat.le_of_ble_eq_true rfl) ⟨Nat.le_of_ble_eq_true rfl, Nat.le_of_ble_eq_true rfl⟩ (Nat.le_of_ble_eq_true rfl) rfl ?_
    refine Clv.mono h (fun m4 h => ?_)
    refine Tj.aload_n dX12_undo_116 rfl rfl ?_
    refine Tj.aload_n dX12_undo_117 rfl rfl ?_
    refine Tj.getR (b := 150) dX12_undo_118 fl_X12_22 sh_145 rfl rfl ?_
    refine Tj.bipush dX12_undo_121 (by decide) (by decide +kernel) rfl ?_
    refine Tj.callVv (as := [_, _]) (rest := []) dX12_undo_123 ln_X12_133 sh_145 (by decide) rfl rfl (Nat.le_of_ble_eq_true rfl) ⟨Nat.le_of_ble_eq_true rfl, Nat.le_of_ble_eq_true rfl⟩ (Nat.le_of_ble_eq_true rfl) rfl ?_
    refine Clv.mono h (fun m5 h => ?_)
    refine Tj.aload_n dX12_undo_126 rfl rfl ?_
    refine Tj.aload_n dX12_undo_127 rfl rfl ?_
    refine Tj.getR (b := 151) dX12_undo_128 fl_X12_25 sh_145 rfl rfl ?_
    refine Tj.bipush dX12_undo_131 (by decide) (by decide +kernel) rfl ?_
    refine Tj.callVv (as := [_, _]) (rest := []) dX12_undo_133 ln_X12_133 sh_145 (by decide) rfl rfl (Nat.le_of_ble_eq_true rfl) ⟨Nat.le_of_ble_eq_true rfl, Nat.le_of_ble_eq_true rfl⟩ (Nat.le_of_ble_eq_true rfl) rfl ?_
    refine Clv.mono h (fun m6 h => ?_)
    refine Tj.aload_n dX12_undo_136 rfl rfl ?_
    refine Tj.aload_n dX12_undo_137 rfl rfl ?_
    refine Tj.getR (b := 152) dX12_undo_138 fl_X12_28 sh_145 rfl rfl ?_
    refine Tj.bipush dX12_undo_141 (by decide) (by decide +kernel) rfl ?_
    refine Tj.callVv (as := [_, _]) (rest := []) dX12_undo_143 ln_X12_133 sh_145 (by decide) rfl rfl (Nat.le_of_ble_eq_true rfl) ⟨Nat.le_of_ble_eq_true rfl, Nat.le_of_ble_eq_true rfl⟩ (Nat.le_of_ble_eq_true rfl) rfl ?_
    refine Clv.mono h (fun m7 h => ?_)
    refine Tj.aload_n dX12_undo_146 rfl rfl ?_
    refine Tj.gI (j := 13) dX12_undo_147 fl_X12_130 sh_145 rfl rfl ?_
    exact Tj.iret dX12_undo_150 rfl h

theorem wX12_change_0 {m : tM} {P : Option tV → tM → Prop}   (h : Clv mX12_keep [rV 145] m (fun m1 => (Tj mX12_change 6 [some (rV 145), some (iV 0)] [] m1 P))) : Tj mX12_change 0 [some (rV 145)] [] m P := by
  refine Tj.aload_n dX12_change_0 rfl rfl ?_
  refine Tj.callVv (as := []) (rest := []) dX12_change_1 ln_X12_136 sh_145 (by decide) rfl rfl (Nat.le_of_ble_eq_true rfl) ⟨Nat.le_of_ble_eq_true rfl, Nat.le_of_ble_eq_true rfl⟩ (Nat.le_of_ble_eq_true rfl) rfl ?_
  refine Clv.mono h (fun m1 h => ?_)
  refine Tj.iconst dX12_change_4 (by decide) rfl ?_
  refine Tj.istore_n dX12_change_5 (Nat.le_of_ble_eq_true rfl) rfl rfl ?_
  exact Tj.cut h ⟨rfl, ⟨rfl, trivial⟩⟩

theorem wX12_change_6 {m : tM} {P : Option tV → tM → Prop} {x1 : Int}  (h : (x1 < 1536 → ((0 ≤ x1 ∧ x1 < 1536 ∧ R32 (x1 + 1)) ∧ (Tj mX12_change 6 [some (rV 145), some (iV (x1 + 1))] [] (up m 148 x1 0) P))) ∧ (¬ x1 < 1536 → (P none m))) : Tj mX12_change 6 [some (rV 145), some (iV x1)] [] m P := by
  refine Tj.iload_n dX12_change_6 rfl rfl ?_
  refine Tj.sipush dX12_change_7 (by decide) (by decide +kernel) rfl ?_
  refine Tj.icmp_ge dX12_change_10 rfl rfl (fun c1 => ?_) (fun c1 => ?_)
  · have h := h.1 c1
    obtain ⟨⟨o1, o2, o3⟩, h⟩ := h
    refine Tj.aload_n dX12_change_13 rfl rfl ?_
    refine Tj.getR (b := 148) dX12_change_14 fl_X12_16 sh_145 rfl rfl ?_
    refine Tj.iload_n dX12_change_17 rfl rfl ?_
    refine Tj.iconst dX12_change_18 (by decide) rfl ?_
    refine Tj.iast dX12_change_19 sh_148 o1 o2 rfl ?_
    refine Tj.iinc dX12_change_20 rfl (Nat.le_of_ble_eq_true rfl) rfl o3 rfl ?_
    refine Tj.goto dX12_change_23 rfl ?_
    exact Tj.cut h ⟨rfl, ⟨rfl, trivial⟩⟩
  · have h := h.2 c1
    exact Tj.vret dX12_change_26 rfl h

theorem wX12_cubesIn_0 {m : tM} {P : Option tV → tM → Prop} {x1 : Int}  (h : Tj mX12_cubesIn 4 [some (rV 145), some (iV x1), some (iV 0), some (iV 0)] [] m P) : Tj mX12_cubesIn 0 [some (rV 145), some (iV x1)] [] m P := by
  refine Tj.iconst dX12_cubesIn_0 (by decide) rfl ?_
  refine Tj.istore_n dX12_cubesIn_1 (Nat.le_of_ble_eq_true rfl) rfl rfl ?_
  refine Tj.iconst dX12_cubesIn_2 (by decide) rfl ?_
  refine Tj.istore_n dX12_cubesIn_3 (Nat.le_of_ble_eq_true rfl) rfl rfl ?_
  exact Tj.cut h ⟨rfl, ⟨rfl, ⟨rfl, ⟨rfl, trivial⟩⟩⟩⟩

theorem wX12_cubesIn_4 {m : tM} {P : Option tV → tM → Prop} {x1 : Int} {x2 : Int} {x3 : Int}  (h : (x3 < 16 → ((R32 (16 * x1) ∧ R32 ((16 * x1) + x3) ∧ 0 ≤ ((16 * x1) + x3) ∧ ((16 * x1) + x3) < 64 ∧ R32 (x2 + (m 147 ((16 * x1) + x3))) ∧ R32 (x3 + 1)) ∧ (Tj mX12_cubesIn 4 [some (rV 145), some (iV x1), some (iV (x2 + (m 147 ((16 * x1) + x3)))), some (iV (x3 + 1))] [] m P))) ∧ (¬ x3 < 16 → (P (some (iV x2)) m))) : Tj mX12_cubesIn 4 [some (rV 145), some (iV x1), some (iV x2), some (iV x3)] [] m P := by
  refine Tj.iload_n dX12_cubesIn_4 rfl rfl ?_
  refine Tj.bipush dX12_cubesIn_5 (by decide) (by decide +kernel) rfl ?_
  refine Tj.icmp_ge dX12_cubesIn_7 rfl rfl (fun c1 => ?_) (fun c1 => ?_)
  · have h := h.1 c1
    obtain ⟨⟨o1, o2, o3, o4, o5, o6⟩, h⟩ := h
    refine Tj.iload_n dX12_cubesIn_10 rfl rfl ?_
    refine Tj.aload_n dX12_cubesIn_11 rfl rfl ?_
    refine Tj.getR (b := 147) dX12_cubesIn_12 fl_X12_13 sh_145 rfl rfl ?_
    refine Tj.bipush dX12_cubesIn_15 (by decide) (by decide +kernel) rfl ?_
    refine Tj.iload_n dX12_cubesIn_17 rfl rfl ?_
    refine Tj.imul dX12_cubesIn_18 o1 rfl ?_
    refine Tj.iload_n dX12_cubesIn_19 rfl rfl ?_
    refine Tj.iadd dX12_cubesIn_20 o2 rfl ?_
    refine Tj.iald dX12_cubesIn_21 sh_147 o3 o4 rfl ?_
    refine Tj.iadd dX12_cubesIn_22 o5 rfl ?_
    refine Tj.istore_n dX12_cubesIn_23 (Nat.le_of_ble_eq_true rfl) rfl rfl ?_
    refine Tj.iinc dX12_cubesIn_24 rfl (Nat.le_of_ble_eq_true rfl) rfl o6 rfl ?_
    refine Tj.goto dX12_cubesIn_27 rfl ?_
    exact Tj.cut h ⟨rfl, ⟨rfl, ⟨rfl, ⟨rfl, trivial⟩⟩⟩⟩
  · have h := h.2 c1
    refine Tj.iload_n dX12_cubesIn_30 rfl rfl ?_
    exact Tj.iret dX12_cubesIn_31 rfl h

theorem wX12_layer_0 {m : tM} {P : Option tV → tM → Prop} {x1 : Int} {x2 : Int}  (h : Cli mX12_in [iV x1, iV 0, iV 3] (up m 145 0 0) (fun r1 m1 => ((r1 = 0 → (P (some (iV (-3))) m1)) ∧ (¬ r1 = 0 → (Clv mX12_change [rV 145] m1 (fun m2 => ((0 ≤ x1 ∧ x1 < 4) ∧ (Tj mX12_layer 30 [some (rV 145), some (iV x1), some (iV x2), some (iV 0)] [] (up m2 146 x1 1) P)))))))) : Tj mX12_layer 0 [some (rV 145), some (iV x1), some (iV x2)] [] m P := by
  refine Tj.aload_n dX12_layer_0 rfl rfl ?_
  refine Tj.iconst dX12_layer_1 (by decide) rfl ?_
  refine Tj.pI (j := 0) dX12_layer_2 fp_X12_113 sh_145 rfl rfl ?_
  refine Tj.iload_n dX12_layer_5 rfl rfl ?_
  refine Tj.iconst dX12_layer_6 (by decide) rfl ?_
  refine Tj.iconst dX12_layer_7 (by decide) rfl ?_
  refine Tj.callSi (as := [_, _, _]) (rest := []) dX12_layer_8 ln_X12_139 rfl rfl (Nat.le_of_ble_eq_true rfl) ⟨Nat.le_of_ble_eq_true rfl, Nat.le_of_ble_eq_true rfl⟩ (Nat.le_of_ble_eq_true rfl) rfl ?_
  refine Cli.mono h (fun r1 m1 h => ?_)
  refine Tj.if_ne dX12_layer_11 rfl rfl (fun c1 => ?_) (fun c1 => ?_)
  · have h := h.1 c1
    refine Tj.bipush dX12_layer_14 (by decide) (by decide +kernel) rfl ?_
    exact Tj.iret dX12_layer_16 rfl h
  · have h := h.2 c1
    refine Tj.aload_n dX12_layer_17 rfl rfl ?_
    refine Tj.callVv (as := []) (rest := []) dX12_layer_18 ln_X12_143 sh_145 (by decide) rfl rfl (Nat.le_of_ble_eq_true rfl) ⟨Nat.le_of_ble_eq_true rfl, Nat.le_of_ble_eq_true rfl⟩ (Nat.le_of_ble_eq_true rfl) rfl ?_
    refine Clv.mono h (fun m2 h => ?_)
    obtain ⟨⟨o1, o2⟩, h⟩ := h
    refine Tj.aload_n dX12_layer_21 rfl rfl ?_
    refine Tj.getR (b := 146) dX12_layer_22 fl_X12_7 sh_145 rfl rfl ?_
    refine Tj.iload_n dX12_layer_25 rfl rfl ?_
    refine Tj.iconst dX12_layer_26 (by decide) rfl ?_
    refine Tj.iast dX12_layer_27 sh_146 o1 o2 rfl ?_
    refine Tj.iconst dX12_layer_28 (by decide) rfl ?_
    refine Tj.istore_n dX12_layer_29 (Nat.le_of_ble_eq_true rfl) rfl rfl ?_
    exact Tj.cut h ⟨rfl, ⟨rfl, ⟨rfl, ⟨rfl, trivial⟩⟩⟩⟩

theorem wX12_layer_30 {m : tM} {P : Option tV → tM → Prop} {x1 : Int} {x2 : Int} {x3 : Int}  (h : (x3 < 16 → ((R32 (16 * x1) ∧ R32 ((16 * x1) + x3) ∧ 0 ≤ ((16 * x1) + x3) ∧ ((16 * x1) + x3) < 64 ∧ R32 (x3 + 1)) ∧ (Tj mX12_layer 30 [some (rV 145), some (iV x1), some (iV x2), some (iV (x3 + 1))] [] (up m 147 ((16 * x1) + x3) (bAnd (bShr x2 x3) 1)) P))) ∧ (¬ x3 < 16 → (Cli mX12_cubesIn [rV 145, iV x1] m (fun r1 m1 => (P (some (iV r1)) m1))))) : Tj mX12_layer 30 [some (rV 145), some (iV x1), some (iV x2), some (iV x3)] [] m P := by
  refine Tj.iload_n dX12_layer_30 rfl rfl ?_
  refine Tj.bipush dX12_layer_31 (by decide) (by decide +kernel) rfl ?_
  refine Tj.icmp_ge dX12_layer_33 rfl rfl (fun c1 => ?_) (fun c1 => ?_)
  · have h := h.1 c1
    obtain ⟨⟨o1, o2, o3, o4, o5⟩, h⟩ := h
    refine Tj.aload_n dX12_layer_36 rfl rfl ?_
    refine Tj.getR (b := 147) dX12_layer_37 fl_X12_13 sh_145 rfl rfl ?_
    refine Tj.bipush dX12_layer_40 (by decide) (by decide +kernel) rfl ?_
    refine Tj.iload_n dX12_layer_42 rfl rfl ?_
    refine Tj.imul dX12_layer_43 o1 rfl ?_
    refine Tj.iload_n dX12_layer_44 rfl rfl ?_
    refine Tj.iadd dX12_layer_45 o2 rfl ?_
    refine Tj.iload_n dX12_layer_46 rfl rfl ?_
    refine Tj.iload_n dX12_layer_47 rfl rfl ?_
    refine Tj.ishr dX12_layer_48 rfl ?_
    refine Tj.iconst dX12_layer_49 (by decide) rfl ?_
    refine Tj.iand dX12_layer_50 rfl ?_
    refine Tj.iast dX12_layer_51 sh_147 o3 o4 rfl ?_
    refine Tj.iinc dX12_layer_52 rfl (Nat.le_of_ble_eq_true rfl) rfl o5 rfl ?_
    refine Tj.goto dX12_layer_55 rfl ?_
    exact Tj.cut h ⟨rfl, ⟨rfl, ⟨rfl, ⟨rfl, trivial⟩⟩⟩⟩
  · have h := h.2 c1
    refine Tj.aload_n dX12_layer_58 rfl rfl ?_
    refine Tj.iload_n dX12_layer_59 rfl rfl ?_
    refine Tj.callVi (as := [_]) (rest := []) dX12_layer_60 ln_X12_146 sh_145 (by decide) rfl rfl (Nat.le_of_ble_eq_true rfl) ⟨Nat.le_of_ble_eq_true rfl, Nat.le_of_ble_eq_true rfl⟩ (Nat.le_of_ble_eq_true rfl) rfl ?_
    refine Cli.mono h (fun r1 m1 h => ?_)
    exact Tj.iret dX12_layer_63 rfl h

theorem wX12_lose_0 {m : tM} {P : Option tV → tM → Prop} {x1 : Int}  (h : Cli mX12_in [iV x1, iV 0, iV 3] (up m 145 0 0) (fun r1 m1 => ((r1 = 0 → (P (some (iV (-3))) m1)) ∧ (¬ r1 = 0 → ((0 ≤ x1 ∧ x1 < 4) ∧ (((m1 146 x1) = 0 → (P (some (iV (-11))) m1)) ∧ (¬ (m1 146 x1) = 0 → (Clv mX12_change [rV 145] m1 (fun m2 => (Cli mX12_cubesIn [rV 145, iV x1] m2 (fun r2 m3 => (Tj mX12_lose 48 [some (rV 145), some (iV x1), some (iV r2), some (iV 0)] [] (up m3 146 x1 0) P)))))))))))) : Tj mX12_lose 0 [some (rV 145), some (iV x1)] [] m P := by
  refine Tj.aload_n dX12_lose_0 rfl rfl ?_
  refine Tj.iconst dX12_lose_1 (by decide) rfl ?_
  refine Tj.pI (j := 0) dX12_lose_2 fp_X12_113 sh_145 rfl rfl ?_
  refine Tj.iload_n dX12_lose_5 rfl rfl ?_
  refine Tj.iconst dX12_lose_6 (by decide) rfl ?_
  refine Tj.iconst dX12_lose_7 (by decide) rfl ?_
  refine Tj.callSi (as := [_, _, _]) (rest := []) dX12_lose_8 ln_X12_139 rfl rfl (Nat.le_of_ble_eq_true rfl) ⟨Nat.le_of_ble_eq_true rfl, Nat.le_of_ble_eq_true rfl⟩ (Nat.le_of_ble_eq_true rfl) rfl ?_
  refine Cli.mono h (fun r1 m1 h => ?_)
  refine Tj.if_ne dX12_lose_11 rfl rfl (fun c1 => ?_) (fun c1 => ?_)
  · have h := h.1 c1
    refine Tj.bipush dX12_lose_14 (by decide) (by decide +kernel) rfl ?_
    exact Tj.iret dX12_lose_16 rfl h
  · have h := h.2 c1
    obtain ⟨⟨o1, o2⟩, h⟩ := h
    refine Tj.aload_n dX12_lose_17 rfl rfl ?_
    refine Tj.getR (b := 146) dX12_lose_18 fl_X12_7 sh_145 rfl rfl ?_
    refine Tj.iload_n dX12_lose_21 rfl rfl ?_
    refine Tj.iald dX12_lose_22 sh_146 o1 o2 rfl ?_
    refine Tj.if_ne dX12_lose_23 rfl rfl (fun c2 => ?_) (fun c2 => ?_)
    · have h := h.1 c2
      refine Tj.bipush dX12_lose_26 (by decide) (by decide +kernel) rfl ?_
      exact Tj.iret dX12_lose_28 rfl h
    · have h := h.2 c2
      refine Tj.aload_n dX12_lose_29 rfl rfl ?_
      refine Tj.callVv (as := []) (rest := []) dX12_lose_30 ln_X12_143 sh_145 (by decide) rfl rfl (Nat.le_of_ble_eq_true rfl) ⟨Nat.le_of_ble_eq_true rfl, Nat.le_of_ble_eq_true rfl⟩ (Nat.le_of_ble_eq_true rfl) rfl ?_
      refine Clv.mono h (fun m2 h => ?_)
      refine Tj.aload_n dX12_lose_33 rfl rfl ?_
      refine Tj.iload_n dX12_lose_34 rfl rfl ?_
      refine Tj.callVi (as := [_]) (rest := []) dX12_lose_35 ln_X12_146 sh_145 (by decide) rfl rfl (Nat.le_of_ble_eq_true rfl) ⟨Nat.le_of_ble_eq_true rfl, Nat.le_of_ble_eq_true rfl⟩ (Nat.le_of_ble_eq_true rfl) rfl ?_
      refine Cli.mono h (fun r2 m3 h => ?_)
      refine Tj.istore_n dX12_lose_38 (Nat.le_of_ble_eq_true rfl) rfl rfl ?_
      refine Tj.aload_n dX12_lose_39 rfl rfl ?_
      refine Tj.getR (b := 146) dX12_lose_40 fl_X12_7 sh_145 rfl rfl ?_
      refine Tj.iload_n dX12_lose_43 rfl rfl ?_
      refine Tj.iconst dX12_lose_44 (by decide) rfl ?_
      refine Tj.iast dX12_lose_45 sh_146 o1 o2 rfl ?_
      refine Tj.iconst dX12_lose_46 (by decide) rfl ?_
      refine Tj.istore_n dX12_lose_47 (Nat.le_of_ble_eq_true rfl) rfl rfl ?_
      exact Tj.cut h ⟨rfl, ⟨rfl, ⟨rfl, ⟨rfl, trivial⟩⟩⟩⟩

theorem wX12_lose_48 {m : tM} {P : Option tV → tM → Prop} {x1 : Int} {x2 : Int} {x3 : Int}  (h : (x3 < 16 → ((R32 (16 * x1) ∧ R32 ((16 * x1) + x3) ∧ 0 ≤ ((16 * x1) + x3) ∧ ((16 * x1) + x3) < 64 ∧ R32 (x3 + 1)) ∧ (Tj mX12_lose 48 [some (rV 145), some (iV x1), some (iV x2), some (iV (x3 + 1))] [] (up m 147 ((16 * x1) + x3) 0) P))) ∧ (¬ x3 < 16 → (P (some (iV x2)) m))) : Tj mX12_lose 48 [some (rV 145), some (iV x1), some (iV x2), some (iV x3)] [] m P := by
  refine Tj.iload_n dX12_lose_48 rfl rfl ?_
  refine Tj.bipush dX12_lose_49 (by decide) (by decide +kernel) rfl ?_
  refine Tj.icmp_ge dX12_lose_51 rfl rfl (fun c1 => ?_) (fun c1 => ?_)
  · have h := h.1 c1
    obtain ⟨⟨o1, o2, o3, o4, o5⟩, h⟩ := h
    refine Tj.aload_n dX12_lose_54 rfl rfl ?_
    refine Tj.getR (b := 147) dX12_lose_55 fl_X12_13 sh_145 rfl rfl ?_
    refine Tj.bipush dX12_lose_58 (by decide) (by decide +kernel) rfl ?_
    refine Tj.iload_n dX12_lose_60 rfl rfl ?_
    refine Tj.imul dX12_lose_61 o1 rfl ?_
    refine Tj.iload_n dX12_lose_62 rfl rfl ?_
    refine Tj.iadd dX12_lose_63 o2 rfl ?_
    refine Tj.iconst dX12_lose_64 (by decide) rfl ?_
    refine Tj.iast dX12_lose_65 sh_147 o3 o4 rfl ?_
    refine Tj.iinc dX12_lose_66 rfl (Nat.le_of_ble_eq_true rfl) rfl o5 rfl ?_
    refine Tj.goto dX12_lose_69 rfl ?_
    exact Tj.cut h ⟨rfl, ⟨rfl, ⟨rfl, ⟨rfl, trivial⟩⟩⟩⟩
  · have h := h.2 c1
    refine Tj.iload_n dX12_lose_72 rfl rfl ?_
    exact Tj.iret dX12_lose_73 rfl h

theorem wX12_cube_0 {m : tM} {P : Option tV → tM → Prop} {x1 : Int} {x2 : Int} {x3 : Int}  (h : Cli mX12_in [iV x1, iV 0, iV 3] (up m 145 0 0) (fun r1 m1 => ((r1 = 0 → (P (some (iV (-3))) m1)) ∧ (¬ r1 = 0 → (Cli mX12_in [iV x3, iV 0, iV 1] m1 (fun r2 m2 => ((r2 = 0 → (P (some (iV (-3))) m2)) ∧ (¬ r2 = 0 → ((0 ≤ x1 ∧ x1 < 4) ∧ (((m2 146 x1) = 0 → (P (some (iV (-11))) m2)) ∧ (¬ (m2 146 x1) = 0 → (Cli mX12_in [iV x2, iV 0, iV 15] m2 (fun r3 m3 => ((r3 = 0 → (P (some (iV (-13))) m3)) ∧ (¬ r3 = 0 → (Clv mX12_change [rV 145] m3 (fun m4 => ((R32 (16 * x1) ∧ R32 ((16 * x1) + x2) ∧ 0 ≤ ((16 * x1) + x2) ∧ ((16 * x1) + x2) < 64) ∧ (P (some (iV (m4 147 ((16 * x1) + x2)))) (up m4 147 ((16 * x1) + x2) x3)))))))))))))))))))) : Tj mX12_cube 0 [some (rV 145), some (iV x1), some (iV x2), some (iV x3)] [] m P := by
  refine Tj.aload_n dX12_cube_0 rfl rfl ?_
  refine Tj.iconst dX12_cube_1 (by decide) rfl ?_
  refine Tj.pI (j := 0) dX12_cube_2 fp_X12_113 sh_145 rfl rfl ?_
  refine Tj.iload_n dX12_cube_5 rfl rfl ?_
  refine Tj.iconst dX12_cube_6 (by decide) rfl ?_
  refine Tj.iconst dX12_cube_7 (by decide) rfl ?_
  refine Tj.callSi (as := [_, _, _]) (rest := []) dX12_cube_8 ln_X12_139 rfl rfl (Nat.le_of_ble_eq_true rfl) ⟨Nat.le_of_ble_eq_true rfl, Nat.le_of_ble_eq_true rfl⟩ (Nat.le_of_ble_eq_true rfl) rfl ?_
  refine Cli.mono h (fun r1 m1 h => ?_)
  refine Tj.if_eq dX12_cube_11 rfl rfl (fun c1 => ?_) (fun c1 => ?_)
  · have h := h.1 c1
    refine Tj.bipush dX12_cube_23 (by decide) (by decide +kernel) rfl ?_
    exact Tj.iret dX12_cube_25 rfl h
  · have h := h.2 c1
    refine Tj.iload_n dX12_cube_14 rfl rfl ?_
    refine Tj.iconst dX12_cube_15 (by decide) rfl ?_
    refine Tj.iconst dX12_cube_16 (by decide) rfl ?_
    refine Tj.callSi (as := [_, _, _]) (rest := []) dX12_cube_17 ln_X12_139 rfl rfl (Nat.le_of_ble_eq_true rfl) ⟨Nat.le_of_ble_eq_true rfl, Nat.le_of_ble_eq_true rfl⟩ (Nat.le_of_ble_eq_true rfl) rfl ?_
    refine Cli.mono h (fun r2 m2 h => ?_)
    refine Tj.if_ne dX12_cube_20 rfl rfl (fun c2 => ?_) (fun c2 => ?_)
    · have h := h.1 c2
      refine Tj.bipush dX12_cube_23 (by decide) (by decide +kernel) rfl ?_
      exact Tj.iret dX12_cube_25 rfl h
    · have h := h.2 c2
      obtain ⟨⟨o1, o2⟩, h⟩ := h
      refine Tj.aload_n dX12_cube_26 rfl rfl ?_
      refine Tj.getR (b := 146) dX12_cube_27 fl_X12_7 sh_145 rfl rfl ?_
      refine Tj.iload_n dX12_cube_30 rfl rfl ?_
      refine Tj.iald dX12_cube_31 sh_146 o1 o2 rfl ?_
      refine Tj.if_ne dX12_cube_32 rfl rfl (fun c3 => ?_) (fun c3 => ?_)
      · have h := h.1 c3
        refine Tj.bipush dX12_cube_35 (by decide) (by decide +kernel) rfl ?_
        exact Tj.iret dX12_cube_37 rfl h
      · have h := h.2 c3
        refine Tj.iload_n dX12_cube_38 rfl rfl ?_
        refine Tj.iconst dX12_cube_39 (by decide) rfl ?_
        refine Tj.bipush dX12_cube_40 (by decide) (by decide +kernel) rfl ?_
        refine Tj.callSi (as := [_, _, _]) (rest := []) dX12_cube_42 ln_X12_139 rfl rfl (Nat.le_of_ble_eq_true rfl) ⟨Nat.le_of_ble_eq_true rfl, Nat.le_of_ble_eq_true rfl⟩ (Nat.le_of_ble_eq_true rfl) rfl ?_
        refine Cli.mono h (fun r3 m3 h => ?_)
        refine Tj.if_ne dX12_cube_45 rfl rfl (fun c4 => ?_) (fun c4 => ?_)
        · have h := h.1 c4
          refine Tj.bipush dX12_cube_48 (by decide) (by decide +kernel) rfl ?_
          exact Tj.iret dX12_cube_50 rfl h
        · have h := h.2 c4
          refine Tj.aload_n dX12_cube_51 rfl rfl ?_
          refine Tj.callVv (as := []) (rest := []) dX12_cube_52 ln_X12_143 sh_145 (by decide) rfl rfl (Nat.le_of_ble_eq_true rfl) ⟨Nat.le_of_ble_eq_true rfl, Nat.le_of_ble_eq_true rfl⟩ (Nat.le_of_ble_eq_true rfl) rfl ?_
          refine Clv.mono h (fun m4 h => ?_)
          obtain ⟨⟨o3, o4, o5, o6⟩, h⟩ := h
          refine Tj.aload_n dX12_cube_55 rfl rfl ?_
          refine Tj.getR (b := 147) dX12_cube_56 fl_X12_13 sh_145 rfl rfl ?_
          refine Tj.bipush dX12_cube_59 (by decide) (by decide +kernel) rfl ?_
          refine Tj.iload_n dX12_cube_61 rfl rfl ?_
          refine Tj.imul dX12_cube_62 o3 rfl ?_
          refine Tj.iload_n dX12_cube_63 rfl rfl ?_
          refine Tj.iadd dX12_cube_64 o4 rfl ?_
          refine Tj.iald dX12_cube_65 sh_147 o5 o6 rfl ?_
          refine Tj.istore dX12_cube_66 (Nat.le_of_ble_eq_true rfl) rfl rfl ?_
          refine Tj.aload_n dX12_cube_68 rfl rfl ?_
          refine Tj.getR (b := 147) dX12_cube_69 fl_X12_13 sh_145 rfl rfl ?_
          refine Tj.bipush dX12_cube_72 (by decide) (by decide +kernel) rfl ?_
          refine Tj.iload_n dX12_cube_74 rfl rfl ?_
          refine Tj.imul dX12_cube_75 o3 rfl ?_
          refine Tj.iload_n dX12_cube_76 rfl rfl ?_
          refine Tj.iadd dX12_cube_77 o4 rfl ?_
          refine Tj.iload_n dX12_cube_78 rfl rfl ?_
          refine Tj.iast dX12_cube_79 sh_147 o5 o6 rfl ?_
          refine Tj.iload dX12_cube_80 rfl rfl ?_
          exact Tj.iret dX12_cube_82 rfl h

theorem wX12_copy_0 {m : tM} {P : Option tV → tM → Prop} {x1 : Int} {x2 : Int} {x3 : Int} {x4 : Int} {x5 : Int}  (h : Cli mX12_in [iV x1, iV 0, iV 3] (up m 145 0 0) (fun r1 m1 => ((r1 = 0 → (P (some (iV (-3))) m1)) ∧ (¬ r1 = 0 → (Cli mX12_in [iV x3, iV 0, iV 3] m1 (fun r2 m2 => ((r2 = 0 → (P (some (iV (-3))) m2)) ∧ (¬ r2 = 0 → ((0 ≤ x1 ∧ x1 < 4) ∧ (((m2 146 x1) = 0 → (P (some (iV (-11))) m2)) ∧ (¬ (m2 146 x1) = 0 → ((0 ≤ x3 ∧ x3 < 4) ∧ (((m2 146 x3) = 0 → (P (some (iV (-11))) m2)) ∧ (¬ (m2 146 x3) = 0 → (Cli mX12_in [iV x5, iV 0, iV 16] m2 (fun r3 m3 => ((r3 = 0 → (P (some (iV (-13))) m3)) ∧ (¬ r3 = 0 → ((R32 (16 - x5)) ∧ (Cli mX12_in [iV x2, iV 0, iV (16 - x5)] m3 (fun r4 m4 => ((r4 = 0 → (P (some (iV (-13))) m4)) ∧ (¬ r4 = 0 → (Cli mX12_in [iV x4, iV 0, iV (16 - x5)] m4 (fun r5 m5 => ((r5 = 0 → (P (some (iV (-13))) m5)) ∧ (¬ r5 = 0 → (Clv mX12_change [rV 145] m5 (fun m6 => (Tj mX12_copy 95 [some (rV 145), some (iV x1), some (iV x2), some (iV x3), some (iV x4), some (iV x5), some (iV 0)] [] m6 P)))))))))))))))))))))))))))))) : Tj mX12_copy 0 [some (rV 145), some (iV x1), some (iV x2), some (iV x3), some (iV x4), some (iV x5)] [] m P := by
  refine Tj.aload_n dX12_copy_0 rfl rfl ?_
  refine Tj.iconst dX12_copy_1 (by decide) rfl ?_
  refine Tj.pI (j := 0) dX12_copy_2 fp_X12_113 sh_145 rfl rfl ?_
  refine Tj.iload_n dX12_copy_5 rfl rfl ?_
  refine Tj.iconst dX12_copy_6 (by decide) rfl ?_
  refine Tj.iconst dX12_copy_7 (by decide) rfl ?_
  refine Tj.callSi (as := [_, _, _]) (rest := []) dX12_copy_8 ln_X12_139 rfl rfl (Nat.le_of_ble_eq_true rfl) ⟨Nat.le_of_ble_eq_true rfl, Nat.le_of_ble_eq_true rfl⟩ (Nat.le_of_ble_eq_true rfl) rfl ?_
  refine Cli.mono h (fun r1 m1 h => ?_)
  refine Tj.if_eq dX12_copy_11 rfl rfl (fun c1 => ?_) (fun c1 => ?_)
  · have h := h.1 c1
    refine Tj.bipush dX12_copy_23 (by decide) (by decide +kernel) rfl ?_
    exact Tj.iret dX12_copy_25 rfl h
  · have h := h.2 c1
    refine Tj.iload_n dX12_copy_14 rfl rfl ?_
    refine Tj.iconst dX12_copy_15 (by decide) rfl ?_
    refine Tj.iconst dX12_copy_16 (by decide) rfl ?_
    refine Tj.callSi (as := [_, _, _]) (rest := []) dX12_copy_17 ln_X12_139 rfl rfl (Nat.le_of_ble_eq_true rfl) ⟨Nat.le_of_ble_eq_true rfl, Nat.le_of_ble_eq_true rfl⟩ (Nat.le_of_ble_eq_true rfl) rfl ?_
    refine Cli.mono h (fun r2 m2 h => ?_)
    refine Tj.if_ne dX12_copy_20 rfl rfl (fun c2 => ?_) (fun c2 => ?_)
    · have h := h.1 c2
      refine Tj.bipush dX12_copy_23 (by decide) (by decide +kernel) rfl ?_
      exact Tj.iret dX12_copy_25 rfl h
    · have h := h.2 c2
      obtain ⟨⟨o1, o2⟩, h⟩ := h
      refine Tj.aload_n dX12_copy_26 rfl rfl ?_
      refine Tj.getR (b := 146) dX12_copy_27 fl_X12_7 sh_145 rfl rfl ?_
      refine Tj.iload_n dX12_copy_30 rfl rfl ?_
      refine Tj.iald dX12_copy_31 sh_146 o1 o2 rfl ?_
      refine Tj.if_eq dX12_copy_32 rfl rfl (fun c3 => ?_) (fun c3 => ?_)
      · have h := h.1 c3
        refine Tj.bipush dX12_copy_44 (by decide) (by decide +kernel) rfl ?_
        exact Tj.iret dX12_copy_46 rfl h
      · have h := h.2 c3
        obtain ⟨⟨o3, o4⟩, h⟩ := h
        refine Tj.aload_n dX12_copy_35 rfl rfl ?_
        refine Tj.getR (b := 146) dX12_copy_36 fl_X12_7 sh_145 rfl rfl ?_
        refine Tj.iload_n dX12_copy_39 rfl rfl ?_
        refine Tj.iald dX12_copy_40 sh_146 o3 o4 rfl ?_
        refine Tj.if_ne dX12_copy_41 rfl rfl (fun c4 => ?_) (fun c4 => ?_)
        · have h := h.1 c4
          refine Tj.bipush dX12_copy_44 (by decide) (by decide +kernel) rfl ?_
          exact Tj.iret dX12_copy_46 rfl h
        · have h := h.2 c4
          refine Tj.iload dX12_copy_47 rfl rfl ?_
          refine Tj.iconst dX12_copy_49 (by decide) rfl ?_
          refine Tj.bipush dX12_copy_50 (by decide) (by decide +kernel) rfl ?_
          refine Tj.callSi (as := [_, _, _]) (rest := []) dX12_copy_52 ln_X12_139 rfl rfl (Nat.le_of_ble_eq_true rfl) ⟨Nat.le_of_ble_eq_true rfl, Nat.le_of_ble_eq_true rfl⟩ (Nat.le_of_ble_eq_true rfl) rfl ?_
          refine Cli.mono h (fun r3 m3 h => ?_)
          refine Tj.if_eq dX12_copy_55 rfl rfl (fun c5 => ?_) (fun c5 => ?_)
          · have h := h.1 c5
            refine Tj.bipush dX12_copy_85 (by decide) (by decide +kernel) rfl ?_
            exact Tj.iret dX12_copy_87 rfl h
          · have h := h.2 c5
            obtain ⟨o5, h⟩ := h
            refine Tj.iload_n dX12_copy_58 rfl rfl ?_
            refine Tj.iconst dX12_copy_59 (by decide) rfl ?_
            refine Tj.bipush dX12_copy_60 (by decide) (by decide +kernel) rfl ?_
            refine Tj.iload dX12_copy_62 rfl rfl ?_
            refine Tj.isub dX12_copy_64 o5 rfl ?_
            refine Tj.callSi (as := [_, _, _]) (rest := []) dX12_copy_65 ln_X12_139 rfl rfl (Nat.le_of_ble_eq_true rfl) ⟨Nat.le_of_ble_eq_true rfl, Nat.le_of_ble_eq_true rfl⟩ (Nat.le_of_ble_eq_true rfl) rfl ?_
            refine Cli.mono h (fun r4 m4 h => ?_)
            refine Tj.if_eq dX12_copy_68 rfl rfl (fun c6 => ?_) (fun c6 => ?_)
            · have h := h.1 c6
              refine Tj.bipush dX12_copy_85 (by decide) (by decide +kernel) rfl ?_
              exact Tj.iret dX12_copy_87 rfl h
            · have h := h.2 c6
              refine Tj.iload dX12_copy_71 rfl rfl ?_
              refine Tj.iconst dX12_copy_73 (by decide) rfl ?_
              refine Tj.bipush dX12_copy_74 (by decide) (by decide +kernel) rfl ?_
              refine Tj.iload dX12_copy_76 rfl rfl ?_
              refine Tj.isub dX12_copy_78 o5 rfl ?_
              refine Tj.callSi (as := [_, _, _]) (rest := []) dX12_copy_79 ln_X12_139 rfl rfl (Nat.le_of_ble_eq_true rfl) ⟨Nat.le_of_ble_eq_true rfl, Nat.le_of_ble_eq_true rfl⟩ (Nat.le_of_ble_eq_true rfl) rfl ?_
              refine Cli.mono h (fun r5 m5 h => ?_)
              refine Tj.if_ne dX12_copy_82 rfl rfl (fun c7 => ?_) (fun c7 => ?_)
              · have h := h.1 c7
                refine Tj.bipush dX12_copy_85 (by decide) (by decide +kernel) rfl ?_
                exact Tj.iret dX12_copy_87 rfl h
              · have h := h.2 c7
                refine Tj.aload_n dX12_copy_88 rfl rfl ?_
                refine Tj.callVv (as := []) (rest := []) dX12_copy_89 ln_X12_143 sh_145 (by decide) rfl rfl (Nat.le_of_ble_eq_true rfl) ⟨Nat.le_of_ble_eq_true rfl, Nat.le_of_ble_eq_true rfl⟩ (Nat.le_of_ble_eq_true rfl) rfl ?_
                refine Clv.mono h (fun m6 h => ?_)
                refine Tj.iconst dX12_copy_92 (by decide) rfl ?_
                refine Tj.istore dX12_copy_93 (Nat.le_of_ble_eq_true rfl) rfl rfl ?_
                exact Tj.cut h ⟨rfl, ⟨rfl, ⟨rfl, ⟨rfl, ⟨rfl, ⟨rfl, ⟨rfl, trivial⟩⟩⟩⟩⟩⟩⟩

theorem wX12_copy_95 {m : tM} {P : Option tV → tM → Prop} {x1 : Int} {x2 : Int} {x3 : Int} {x4 : Int} {x5 : Int} {x6 : Int}  (h : (x6 < x5 → ((x2 < x4 → ((R32 (x5 - 1) ∧ R32 ((x5 - 1) - x6) ∧ R32 (16 * x3) ∧ R32 ((16 * x3) + x4) ∧ R32 (((16 * x3) + x4) + ((x5 - 1) - x6)) ∧ R32 (16 * x1) ∧ R32 ((16 * x1) + x2) ∧ R32 (((16 * x1) + x2) + ((x5 - 1) - x6)) ∧ 0 ≤ (((16 * x1) + x2) + ((x5 - 1) - x6)) ∧ (((16 * x1) + x2) + ((x5 - 1) - x6)) < 64 ∧ 0 ≤ (((16 * x3) + x4) + ((x5 - 1) - x6)) ∧ (((16 * x3) + x4) + ((x5 - 1) - x6)) < 64 ∧ R32 (x6 + 1)) ∧ (Tj mX12_copy 95 [some (rV 145), some (iV x1), some (iV x2), some (iV x3), some (iV x4), some (iV x5), some (iV (x6 + 1))] [] (up m 147 (((16 * x3) + x4) + ((x5 - 1) - x6)) (m 147 (((16 * x1) + x2) + ((x5 - 1) - x6)))) P))) ∧ (¬ x2 < x4 → ((R32 (16 * x3) ∧ R32 ((16 * x3) + x4) ∧ R32 (((16 * x3) + x4) + x6) ∧ R32 (16 * x1) ∧ R32 ((16 * x1) + x2) ∧ R32 (((16 * x1) + x2) + x6) ∧ 0 ≤ (((16 * x1) + x2) + x6) ∧ (((16 * x1) + x2) + x6) < 64 ∧ 0 ≤ (((16 * x3) + x4) + x6) ∧ (((16 * x3) + x4) + x6) < 64 ∧ R32 (x6 + 1)) ∧ (Tj mX12_copy 95 [some (rV 145), some (iV x1), some (iV x2), some (iV x3), some (iV x4), some (iV x5), some (iV (x6 + 1))] [] (up m 147 (((16 * x3) + x4) + x6) (m 147 (((16 * x1) + x2) + x6))) P))))) ∧ (¬ x6 < x5 → (P (some (iV x5)) m))) : Tj mX12_copy 95 [some (rV 145), some (iV x1), some (iV x2), some (iV x3), some (iV x4), some (iV x5), some (iV x6)] [] m P := by
  refine Tj.iload dX12_copy_95 rfl rfl ?_
  refine Tj.iload dX12_copy_97 rfl rfl ?_
  refine Tj.icmp_ge dX12_copy_99 rfl rfl (fun c1 => ?_) (fun c1 => ?_)
  · have h := h.1 c1
    refine Tj.iload dX12_copy_102 rfl rfl ?_
    refine Tj.iload_n dX12_copy_104 rfl rfl ?_
    refine Tj.icmp_le dX12_copy_105 rfl rfl (fun c2 => ?_) (fun c2 => ?_)
    · have h := h.1 c2
      obtain ⟨⟨o1, o2, o3, o4, o5, o6, o7, o8, o9, o10, o11, o12, o13⟩, h⟩ := h
      refine Tj.iload dX12_copy_108 rfl rfl ?_
      refine Tj.iconst dX12_copy_110 (by decide) rfl ?_
      refine Tj.isub dX12_copy_111 o1 rfl ?_
      refine Tj.iload dX12_copy_112 rfl rfl ?_
      refine Tj.isub dX12_copy_114 o2 rfl ?_
      refine Tj.goto dX12_copy_115 rfl ?_
      refine Tj.istore dX12_copy_120 (Nat.le_of_ble_eq_true rfl) rfl rfl ?_
      refine Tj.aload_n dX12_copy_122 rfl rfl ?_
      refine Tj.getR (b := 147) dX12_copy_123 fl_X12_13 sh_145 rfl rfl ?_
      refine Tj.bipush dX12_copy_126 (by decide) (by decide +kernel) rfl ?_
      refine Tj.iload_n dX12_copy_128 rfl rfl ?_
      refine Tj.imul dX12_copy_129 o3 rfl ?_
      refine Tj.iload dX12_copy_130 rfl rfl ?_
      refine Tj.iadd dX12_copy_132 o4 rfl ?_
      refine Tj.iload dX12_copy_133 rfl rfl ?_
      refine Tj.iadd dX12_copy_135 o5 rfl ?_
      refine Tj.aload_n dX12_copy_136 rfl rfl ?_
      refine Tj.getR (b := 147) dX12_copy_137 fl_X12_13 sh_145 rfl rfl ?_
      refine Tj.bipush dX12_copy_140 (by decide) (by decide +kernel) rfl ?_
      refine Tj.iload_n dX12_copy_142 rfl rfl ?_
      refine Tj.imul dX12_copy_143 o6 rfl ?_
      refine Tj.iload_n dX12_copy_144 rfl rfl ?_
      refine Tj.iadd dX12_copy_145 o7 rfl ?_
      refine Tj.iload dX12_copy_146 rfl rfl ?_
      refine Tj.iadd dX12_copy_148 o8 rfl ?_
      refine Tj.iald dX12_copy_149 sh_147 o9 o10 rfl ?_
      refine Tj.iast dX12_copy_150 sh_147 o11 o12 rfl ?_
      refine Tj.iinc dX12_copy_151 rfl (Nat.le_of_ble_eq_true rfl) rfl o13 rfl ?_
      refine Tj.goto dX12_copy_154 rfl ?_
      exact Tj.cut h ⟨rfl, ⟨rfl, ⟨rfl, ⟨rfl, ⟨rfl, ⟨rfl, ⟨rfl, trivial⟩⟩⟩⟩⟩⟩⟩
    · have h := h.2 c2
      obtain ⟨⟨o14, o15, o16, o17, o18, o19, o20, o21, o22, o23, o24⟩, h⟩ := h
      refine Tj.iload dX12_copy_118 rfl rfl ?_
      refine Tj.istore dX12_copy_120 (Nat.le_of_ble_eq_true rfl) rfl rfl ?_
      refine Tj.aload_n dX12_copy_122 rfl rfl ?_
      refine Tj.getR (b := 147) dX12_copy_123 fl_X12_13 sh_145 rfl rfl ?_
      refine Tj.bipush dX12_copy_126 (by decide) (by decide +kernel) rfl ?_
      refine Tj.iload_n dX12_copy_128 rfl rfl ?_
      refine Tj.imul dX12_copy_129 o14 rfl ?_
      refine Tj.iload dX12_copy_130 rfl rfl ?_
      refine Tj.iadd dX12_copy_132 o15 rfl ?_
      refine Tj.iload dX12_copy_133 rfl rfl ?_
      refine Tj.iadd dX12_copy_135 o16 rfl ?_
      refine Tj.aload_n dX12_copy_136 rfl rfl ?_
      refine Tj.getR (b := 147) dX12_copy_137 fl_X12_13 sh_145 rfl rfl ?_
      refine Tj.bipush dX12_copy_140 (by decide) (by decide +kernel) rfl ?_
      refine Tj.iload_n dX12_copy_142 rfl rfl ?_
      refine Tj.imul dX12_copy_143 o17 rfl ?_
      refine Tj.iload_n dX12_copy_144 rfl rfl ?_
      refine Tj.iadd dX12_copy_145 o18 rfl ?_
      refine Tj.iload dX12_copy_146 rfl rfl ?_
      refine Tj.iadd dX12_copy_148 o19 rfl ?_
      refine Tj.iald dX12_copy_149 sh_147 o20 o21 rfl ?_
      refine Tj.iast dX12_copy_150 sh_147 o22 o23 rfl ?_
      refine Tj.iinc dX12_copy_151 rfl (Nat.le_of_ble_eq_true rfl) rfl o24 rfl ?_
      refine Tj.goto dX12_copy_154 rfl ?_
      exact Tj.cut h ⟨rfl, ⟨rfl, ⟨rfl, ⟨rfl, ⟨rfl, ⟨rfl, ⟨rfl, trivial⟩⟩⟩⟩⟩⟩⟩
  · have h := h.2 c1
    refine Tj.iload dX12_copy_157 rfl rfl ?_
    exact Tj.iret dX12_copy_159 rfl h

theorem wX12_box_0 {m : tM} {P : Option tV → tM → Prop} {x1 : Int} {x2 : Int} {x3 : Int}  (h : Cli mX12_in [iV x1, iV 1, iV 4] (up m 145 0 0) (fun r1 m1 => ((r1 = 0 → (P (some (iV (-3))) m1)) ∧ (¬ r1 = 0 → (Cli mX12_in [iV x2, iV 1, iV 4] m1 (fun r2 m2 => ((r2 = 0 → (P (some (iV (-3))) m2)) ∧ (¬ r2 = 0 → (Cli mX12_in [iV x3, iV 1, iV 4] m2 (fun r3 m3 => ((r3 = 0 → (P (some (iV (-3))) m3)) ∧ (¬ r3 = 0 → (Clv mX12_change [rV 145] m3 (fun m4 => (Tj mX12_box 42 [some (rV 145), some (iV x1), some (iV x2), some (iV x3), some (iV 0)] [] m4 P))))))))))))))) : Tj mX12_box 0 [some (rV 145), some (iV x1), some (iV x2), some (iV x3)] [] m P := by
  refine Tj.aload_n dX12_box_0 rfl rfl ?_
  refine Tj.iconst dX12_box_1 (by decide) rfl ?_
  refine Tj.pI (j := 0) dX12_box_2 fp_X12_113 sh_145 rfl rfl ?_
  refine Tj.iload_n dX12_box_5 rfl rfl ?_
  refine Tj.iconst dX12_box_6 (by decide) rfl ?_
  refine Tj.iconst dX12_box_7 (by decide) rfl ?_
  refine Tj.callSi (as := [_, _, _]) (rest := []) dX12_box_8 ln_X12_139 rfl rfl (Nat.le_of_ble_eq_true rfl) ⟨Nat.le_of_ble_eq_true rfl, Nat.le_of_ble_eq_true rfl⟩ (Nat.le_of_ble_eq_true rfl) rfl ?_
  refine Cli.mono h (fun r1 m1 h => ?_)
  refine Tj.if_eq dX12_box_11 rfl rfl (fun c1 => ?_) (fun c1 => ?_)
  · have h := h.1 c1
    refine Tj.bipush dX12_box_32 (by decide) (by decide +kernel) rfl ?_
    exact Tj.iret dX12_box_34 rfl h
  · have h := h.2 c1
    refine Tj.iload_n dX12_box_14 rfl rfl ?_
    refine Tj.iconst dX12_box_15 (by decide) rfl ?_
    refine Tj.iconst dX12_box_16 (by decide) rfl ?_
    refine Tj.callSi (as := [_, _, _]) (rest := []) dX12_box_17 ln_X12_139 rfl rfl (Nat.le_of_ble_eq_true rfl) ⟨Nat.le_of_ble_eq_true rfl, Nat.le_of_ble_eq_true rfl⟩ (Nat.le_of_ble_eq_true rfl) rfl ?_
    refine Cli.mono h (fun r2 m2 h => ?_)
    refine Tj.if_eq dX12_box_20 rfl rfl (fun c2 => ?_) (fun c2 => ?_)
    · have h := h.1 c2
      refine Tj.bipush dX12_box_32 (by decide) (by decide +kernel) rfl ?_
      exact Tj.iret dX12_box_34 rfl h
    · have h := h.2 c2
      refine Tj.iload_n dX12_box_23 rfl rfl ?_
      refine Tj.iconst dX12_box_24 (by decide) rfl ?_
      refine Tj.iconst dX12_box_25 (by decide) rfl ?_
      refine Tj.callSi (as := [_, _, _]) (rest := []) dX12_box_26 ln_X12_139 rfl rfl (Nat.le_of_ble_eq_true rfl) ⟨Nat.le_of_ble_eq_true rfl, Nat.le_of_ble_eq_true rfl⟩ (Nat.le_of_ble_eq_true rfl) rfl ?_
      refine Cli.mono h (fun r3 m3 h => ?_)
      refine Tj.if_ne dX12_box_29 rfl rfl (fun c3 => ?_) (fun c3 => ?_)
      · have h := h.1 c3
        refine Tj.bipush dX12_box_32 (by decide) (by decide +kernel) rfl ?_
        exact Tj.iret dX12_box_34 rfl h
      · have h := h.2 c3
        refine Tj.aload_n dX12_box_35 rfl rfl ?_
        refine Tj.callVv (as := []) (rest := []) dX12_box_36 ln_X12_143 sh_145 (by decide) rfl rfl (Nat.le_of_ble_eq_true rfl) ⟨Nat.le_of_ble_eq_true rfl, Nat.le_of_ble_eq_true rfl⟩ (Nat.le_of_ble_eq_true rfl) rfl ?_
        refine Clv.mono h (fun m4 h => ?_)
        refine Tj.iconst dX12_box_39 (by decide) rfl ?_
        refine Tj.istore dX12_box_40 (Nat.le_of_ble_eq_true rfl) rfl rfl ?_
        exact Tj.cut h ⟨rfl, ⟨rfl, ⟨rfl, ⟨rfl, ⟨rfl, trivial⟩⟩⟩⟩⟩

theorem wX12_box_42 {m : tM} {P : Option tV → tM → Prop} {x1 : Int} {x2 : Int} {x3 : Int} {x4 : Int}  (h : (x4 < 64 → ((0 ≤ x4) ∧ (((x4 % 4) < x1 → ((0 ≤ (x4 / 4)) ∧ ((((x4 / 4) % 4) < x2 → (∀ v1 : Int, v1 = (if (x4 / 16) < x3 then 1 else 0) → ((x4 < 64 ∧ R32 (x4 + 1)) ∧ (Tj mX12_box 42 [some (rV 145), some (iV x1), some (iV x2), some (iV x3), some (iV (x4 + 1))] [] (up m 147 x4 v1) P)))) ∧ (¬ ((x4 / 4) % 4) < x2 → ((x4 < 64 ∧ R32 (x4 + 1)) ∧ (Tj mX12_box 42 [some (rV 145), some (iV x1), some (iV x2), some (iV x3), some (iV (x4 + 1))] [] (up m 147 x4 0) P)))))) ∧ (¬ (x4 % 4) < x1 → ((x4 < 64 ∧ R32 (x4 + 1)) ∧ (Tj mX12_box 42 [some (rV 145), some (iV x1), some (iV x2), some (iV x3), some (iV (x4 + 1))] [] (up m 147 x4 0) P)))))) ∧ (¬ x4 < 64 → (Tj mX12_box 97 [some (rV 145), some (iV x1), some (iV x2), some (iV x3), some (iV 0)] [] m P))) : Tj mX12_box 42 [some (rV 145), some (iV x1), some (iV x2), some (iV x3), some (iV x4)] [] m P := by
  refine Tj.iload dX12_box_42 rfl rfl ?_
  refine Tj.bipush dX12_box_44 (by decide) (by decide +kernel) rfl ?_
  refine Tj.icmp_ge dX12_box_46 rfl rfl (fun c1 => ?_) (fun c1 => ?_)
  · have h := h.1 c1
    obtain ⟨o1, h⟩ := h
    refine Tj.aload_n dX12_box_49 rfl rfl ?_
    refine Tj.getR (b := 147) dX12_box_50 fl_X12_13 sh_145 rfl rfl ?_
    refine Tj.iload dX12_box_53 rfl rfl ?_
    refine Tj.iload dX12_box_55 rfl rfl ?_
    refine Tj.iconst dX12_box_57 (by decide) rfl ?_
    refine Tj.irem dX12_box_58 o1 (by decide) rfl ?_
    refine Tj.iload_n dX12_box_59 rfl rfl ?_
    refine Tj.icmp_ge dX12_box_60 rfl rfl (fun c2 => ?_) (fun c2 => ?_)
    · have h := h.1 c2
      obtain ⟨o2, h⟩ := h
      refine Tj.iload dX12_box_63 rfl rfl ?_
      refine Tj.iconst dX12_box_65 (by decide) rfl ?_
      refine Tj.idiv dX12_box_66 o1 (by decide) rfl ?_
      refine Tj.iconst dX12_box_67 (by decide) rfl ?_
      refine Tj.irem dX12_box_68 o2 (by decide) rfl ?_
      refine Tj.iload_n dX12_box_69 rfl rfl ?_
      refine Tj.icmp_ge dX12_box_70 rfl rfl (fun c3 => ?_) (fun c3 => ?_)
      · have h := h.1 c3
        refine Tj.iload dX12_box_73 rfl rfl ?_
        refine Tj.bipush dX12_box_75 (by decide) (by decide +kernel) rfl ?_
        refine Tj.idiv dX12_box_77 o1 (by decide) rfl ?_
        refine Tj.iload_n dX12_box_78 rfl rfl ?_
        have hj : Tj mX12_box 87 [some (rV 145), some (iV x1), some (iV x2), some (iV x3), some (iV x4)] [iV (if (x4 / 16) < x3 then 1 else 0), iV x4, rV 147] m P := by
          generalize hv1 : ((if (x4 / 16) < x3 then 1 else 0) : Int) = v1
          have h := h v1 hv1.symm
          obtain ⟨⟨o3, o4⟩, h⟩ := h
          refine Tj.iast dX12_box_87 sh_147 o1 o3 rfl ?_
          refine Tj.iinc dX12_box_88 rfl (Nat.le_of_ble_eq_true rfl) rfl o4 rfl ?_
          refine Tj.goto dX12_box_91 rfl ?_
          exact Tj.cut h ⟨rfl, ⟨rfl, ⟨rfl, ⟨rfl, ⟨rfl, trivial⟩⟩⟩⟩⟩
        refine Tj.icmp_ge dX12_box_79 rfl rfl (fun c4 => ?_) (fun c4 => ?_)
        · refine Tj.iconst dX12_box_82 (by decide) rfl ?_
          refine Tj.goto dX12_box_83 rfl ?_
          try simp only [if_pos c4] at hj ⊢
          exact Tj.cut hj ⟨rfl, ⟨rfl, ⟨rfl, ⟨rfl, ⟨rfl, trivial⟩⟩⟩⟩⟩
        · refine Tj.iconst dX12_box_86 (by decide) rfl ?_
          try simp only [if_neg c4] at hj ⊢
          exact Tj.cut hj ⟨rfl, ⟨rfl, ⟨rfl, ⟨rfl, ⟨rfl, trivial⟩⟩⟩⟩⟩
      · have h := h.2 c3
        obtain ⟨⟨o5, o6⟩, h⟩ := h
        refine Tj.iconst dX12_box_86 (by decide) rfl ?_
        refine Tj.iast dX12_box_87 sh_147 o1 o5 rfl ?_
        refine Tj.iinc dX12_box_88 rfl (Nat.le_of_ble_eq_true rfl) rfl o6 rfl ?_
        refine Tj.goto dX12_box_91 rfl ?_
        exact Tj.cut h ⟨rfl, ⟨rfl, ⟨rfl, ⟨rfl, ⟨rfl, trivial⟩⟩⟩⟩⟩
    · have h := h.2 c2
      obtain ⟨⟨o7, o8⟩, h⟩ := h
      refine Tj.iconst dX12_box_86 (by decide) rfl ?_
      refine Tj.iast dX12_box_87 sh_147 o1 o7 rfl ?_
      refine Tj.iinc dX12_box_88 rfl (Nat.le_of_ble_eq_true rfl) rfl o8 rfl ?_
      refine Tj.goto dX12_box_91 rfl ?_
      exact Tj.cut h ⟨rfl, ⟨rfl, ⟨rfl, ⟨rfl, ⟨rfl, trivial⟩⟩⟩⟩⟩
  · have h := h.2 c1
    refine Tj.iconst dX12_box_94 (by decide) rfl ?_
    refine Tj.istore dX12_box_95 (Nat.le_of_ble_eq_true rfl) rfl rfl ?_
    exact Tj.cut h ⟨rfl, ⟨rfl, ⟨rfl, ⟨rfl, ⟨rfl, trivial⟩⟩⟩⟩⟩

theorem wX12_box_97 {m : tM} {P : Option tV → tM → Prop} {x1 : Int} {x2 : Int} {x3 : Int} {x4 : Int}  (h : (x4 < 4 → (∀ v1 : Int, v1 = (if x4 < x3 then 1 else 0) → ((0 ≤ x4 ∧ x4 < 4 ∧ R32 (x4 + 1)) ∧ (Tj mX12_box 97 [some (rV 145), some (iV x1), some (iV x2), some (iV x3), some (iV (x4 + 1))] [] (up m 146 x4 v1) P)))) ∧ (¬ x4 < 4 → ((R32 (x1 * x2) ∧ R32 ((x1 * x2) * x3)) ∧ (P (some (iV ((x1 * x2) * x3))) m)))) : Tj mX12_box 97 [some (rV 145), some (iV x1), some (iV x2), some (iV x3), some (iV x4)] [] m P := by
  refine Tj.iload dX12_box_97 rfl rfl ?_
  refine Tj.iconst dX12_box_99 (by decide) rfl ?_
  refine Tj.icmp_ge dX12_box_100 rfl rfl (fun c1 => ?_) (fun c1 => ?_)
  · have h := h.1 c1
    refine Tj.aload_n dX12_box_103 rfl rfl ?_
    refine Tj.getR (b := 146) dX12_box_104 fl_X12_7 sh_145 rfl rfl ?_
    refine Tj.iload dX12_box_107 rfl rfl ?_
    refine Tj.iload dX12_box_109 rfl rfl ?_
    refine Tj.iload_n dX12_box_111 rfl rfl ?_
    have hj : Tj mX12_box 120 [some (rV 145), some (iV x1), some (iV x2), some (iV x3), some (iV x4)] [iV (if x4 < x3 then 1 else 0), iV x4, rV 146] m P := by
      generalize hv1 : ((if x4 < x3 then 1 else 0) : Int) = v1
      have h := h v1 hv1.symm
      obtain ⟨⟨o1, o2, o3⟩, h⟩ := h
      refine Tj.iast dX12_box_120 sh_146 o1 o2 rfl ?_
      refine Tj.iinc dX12_box_121 rfl (Nat.le_of_ble_eq_true rfl) rfl o3 rfl ?_
      refine Tj.goto dX12_box_124 rfl ?_
      exact Tj.cut h ⟨rfl, ⟨rfl, ⟨rfl, ⟨rfl, ⟨rfl, trivial⟩⟩⟩⟩⟩
    refine Tj.icmp_ge dX12_box_112 rfl rfl (fun c2 => ?_) (fun c2 => ?_)
    · refine Tj.iconst dX12_box_115 (by decide) rfl ?_
      refine Tj.goto dX12_box_116 rfl ?_
      try simp only [if_pos c2] at hj ⊢
      exact Tj.cut hj ⟨rfl, ⟨rfl, ⟨rfl, ⟨rfl, ⟨rfl, trivial⟩⟩⟩⟩⟩
    · refine Tj.iconst dX12_box_119 (by decide) rfl ?_
      try simp only [if_neg c2] at hj ⊢
      exact Tj.cut hj ⟨rfl, ⟨rfl, ⟨rfl, ⟨rfl, ⟨rfl, trivial⟩⟩⟩⟩⟩
  · have h := h.2 c1
    obtain ⟨⟨o4, o5⟩, h⟩ := h
    refine Tj.iload_n dX12_box_127 rfl rfl ?_
    refine Tj.iload_n dX12_box_128 rfl rfl ?_
    refine Tj.imul dX12_box_129 o4 rfl ?_
    refine Tj.iload_n dX12_box_130 rfl rfl ?_
    refine Tj.imul dX12_box_131 o5 rfl ?_
    exact Tj.iret dX12_box_132 rfl h

theorem wX12_cubeAt_0 {m : tM} {P : Option tV → tM → Prop} {x1 : Int} {x2 : Int} {x3 : Int}  (h : Cli mX12_in [iV x1, iV 0, iV 3] m (fun r1 m1 => ((r1 = 0 → (P (some (iV 0)) m1)) ∧ (¬ r1 = 0 → (Cli mX12_in [iV x2, iV 0, iV 3] m1 (fun r2 m2 => ((r2 = 0 → (P (some (iV 0)) m2)) ∧ (¬ r2 = 0 → (Cli mX12_in [iV x3, iV 0, iV 3] m2 (fun r3 m3 => ((r3 = 0 → (P (some (iV 0)) m3)) ∧ (¬ r3 = 0 → ((R32 (16 * x3) ∧ R32 (4 * x2) ∧ R32 ((16 * x3) + (4 * x2)) ∧ R32 (((16 * x3) + (4 * x2)) + x1) ∧ 0 ≤ (((16 * x3) + (4 * x2)) + x1) ∧ (((16 * x3) + (4 * x2)) + x1) < 64) ∧ (P (some (iV (m3 147 (((16 * x3) + (4 * x2)) + x1)))) m3)))))))))))))) : Tj mX12_cubeAt 0 [some (rV 145), some (iV x1), some (iV x2), some (iV x3)] [] m P := by
  refine Tj.iload_n dX12_cubeAt_0 rfl rfl ?_
  refine Tj.iconst dX12_cubeAt_1 (by decide) rfl ?_
  refine Tj.iconst dX12_cubeAt_2 (by decide) rfl ?_
  refine Tj.callSi (as := [_, _, _]) (rest := []) dX12_cubeAt_3 ln_X12_139 rfl rfl (Nat.le_of_ble_eq_true rfl) ⟨Nat.le_of_ble_eq_true rfl, Nat.le_of_ble_eq_true rfl⟩ (Nat.le_of_ble_eq_true rfl) rfl ?_
  refine Cli.mono h (fun r1 m1 h => ?_)
  refine Tj.if_eq dX12_cubeAt_6 rfl rfl (fun c1 => ?_) (fun c1 => ?_)
  · have h := h.1 c1
    refine Tj.iconst dX12_cubeAt_45 (by decide) rfl ?_
    exact Tj.iret dX12_cubeAt_46 rfl h
  · have h := h.2 c1
    refine Tj.iload_n dX12_cubeAt_9 rfl rfl ?_
    refine Tj.iconst dX12_cubeAt_10 (by decide) rfl ?_
    refine Tj.iconst dX12_cubeAt_11 (by decide) rfl ?_
    refine Tj.callSi (as := [_, _, _]) (rest := []) dX12_cubeAt_12 ln_X12_139 rfl rfl (Nat.le_of_ble_eq_true rfl) ⟨Nat.le_of_ble_eq_true rfl, Nat.le_of_ble_eq_true rfl⟩ (Nat.le_of_ble_eq_true rfl) rfl ?_
    refine Cli.mono h (fun r2 m2 h => ?_)
    refine Tj.if_eq dX12_cubeAt_15 rfl rfl (fun c2 => ?_) (fun c2 => ?_)
    · have h := h.1 c2
      refine Tj.iconst dX12_cubeAt_45 (by decide) rfl ?_
      exact Tj.iret dX12_cubeAt_46 rfl h
    · have h := h.2 c2
      refine Tj.iload_n dX12_cubeAt_18 rfl rfl ?_
      refine Tj.iconst dX12_cubeAt_19 (by decide) rfl ?_
      refine Tj.iconst dX12_cubeAt_20 (by decide) rfl ?_
      refine Tj.callSi (as := [_, _, _]) (rest := []) dX12_cubeAt_21 ln_X12_139 rfl rfl (Nat.le_of_ble_eq_true rfl) ⟨Nat.le_of_ble_eq_true rfl, Nat.le_of_ble_eq_true rfl⟩ (Nat.le_of_ble_eq_true rfl) rfl ?_
      refine Cli.mono h (fun r3 m3 h => ?_)
      refine Tj.if_eq dX12_cubeAt_24 rfl rfl (fun c3 => ?_) (fun c3 => ?_)
      · have h := h.1 c3
        refine Tj.iconst dX12_cubeAt_45 (by decide) rfl ?_
        exact Tj.iret dX12_cubeAt_46 rfl h
      · have h := h.2 c3
        obtain ⟨⟨o1, o2, o3, o4, o5, o6⟩, h⟩ := h
        refine Tj.aload_n dX12_cubeAt_27 rfl rfl ?_
        refine Tj.getR (b := 147) dX12_cubeAt_28 fl_X12_13 sh_145 rfl rfl ?_
        refine Tj.bipush dX12_cubeAt_31 (by decide) (by decide +kernel) rfl ?_
        refine Tj.iload_n dX12_cubeAt_33 rfl rfl ?_
        refine Tj.imul dX12_cubeAt_34 o1 rfl ?_
        refine Tj.iconst dX12_cubeAt_35 (by decide) rfl ?_
        refine Tj.iload_n dX12_cubeAt_36 rfl rfl ?_
        refine Tj.imul dX12_cubeAt_37 o2 rfl ?_
        refine Tj.iadd dX12_cubeAt_38 o3 rfl ?_
        refine Tj.iload_n dX12_cubeAt_39 rfl rfl ?_
        refine Tj.iadd dX12_cubeAt_40 o4 rfl ?_
        refine Tj.iald dX12_cubeAt_41 sh_147 o5 o6 rfl ?_
        refine Tj.goto dX12_cubeAt_42 rfl ?_
        exact Tj.iret dX12_cubeAt_46 rfl h

theorem wX12_alongOf_0 {m : tM} {P : Option tV → tM → Prop} {x0 : Int} {x1 : Int}  (h : (0 ≤ x0) ∧ (((x0 / 2) = x1 → (∀ v1 : Int, v1 = (if (x0 % 2) = 0 then 1 else (-1)) → (P (some (iV v1)) m))) ∧ (¬ (x0 / 2) = x1 → (P (some (iV 0)) m)))) : Tj mX12_alongOf 0 [some (iV x0), some (iV x1)] [] m P := by
  obtain ⟨o1, h⟩ := h
  refine Tj.iload_n dX12_alongOf_0 rfl rfl ?_
  refine Tj.iconst dX12_alongOf_1 (by decide) rfl ?_
  refine Tj.idiv dX12_alongOf_2 o1 (by decide) rfl ?_
  refine Tj.iload_n dX12_alongOf_3 rfl rfl ?_
  refine Tj.icmp_eq dX12_alongOf_4 rfl rfl (fun c1 => ?_) (fun c1 => ?_)
  · have h := h.1 c1
    refine Tj.iload_n dX12_alongOf_11 rfl rfl ?_
    refine Tj.iconst dX12_alongOf_12 (by decide) rfl ?_
    refine Tj.irem dX12_alongOf_13 o1 (by decide) rfl ?_
    have hj : Tj mX12_alongOf 22 [] [iV (if (x0 % 2) = 0 then 1 else (-1))] m P := by
      generalize hv1 : ((if (x0 % 2) = 0 then 1 else (-1)) : Int) = v1
      have h := h v1 hv1.symm
      exact Tj.iret dX12_alongOf_22 rfl h
    refine Tj.if_ne dX12_alongOf_14 rfl rfl (fun c2 => ?_) (fun c2 => ?_)
    · refine Tj.iconst dX12_alongOf_17 (by decide) rfl ?_
      refine Tj.goto dX12_alongOf_18 rfl ?_
      try simp only [if_pos c2] at hj ⊢
      exact Tj.cut hj trivial
    · refine Tj.iconst dX12_alongOf_21 (by decide) rfl ?_
      try simp only [if_neg c2] at hj ⊢
      exact Tj.cut hj trivial
  · have h := h.2 c1
    refine Tj.iconst dX12_alongOf_7 (by decide) rfl ?_
    refine Tj.goto dX12_alongOf_8 rfl ?_
    exact Tj.iret dX12_alongOf_22 rfl h

theorem wX12_padded_0 {m : tM} {P : Option tV → tM → Prop} {x1 : Int}  (h : (0 ≤ x1 ∧ R32 ((x1 % 6) - 1) ∧ 0 ≤ (x1 / 6) ∧ R32 (((x1 / 6) % 6) - 1) ∧ R32 ((x1 / 36) - 1)) ∧ (Cli mX12_cubeAt [rV 145, iV ((x1 % 6) - 1), iV (((x1 / 6) % 6) - 1), iV ((x1 / 36) - 1)] m (fun r1 m1 => (P (some (iV r1)) m1)))) : Tj mX12_padded 0 [some (rV 145), some (iV x1)] [] m P := by
  obtain ⟨⟨o1, o2, o3, o4, o5⟩, h⟩ := h
  refine Tj.aload_n dX12_padded_0 rfl rfl ?_
  refine Tj.iload_n dX12_padded_1 rfl rfl ?_
  refine Tj.bipush dX12_padded_2 (by decide) (by decide +kernel) rfl ?_
  refine Tj.irem dX12_padded_4 o1 (by decide) rfl ?_
  refine Tj.iconst dX12_padded_5 (by decide) rfl ?_
  refine Tj.isub dX12_padded_6 o2 rfl ?_
  refine Tj.iload_n dX12_padded_7 rfl rfl ?_
  refine Tj.bipush dX12_padded_8 (by decide) (by decide +kernel) rfl ?_
  refine Tj.idiv dX12_padded_10 o1 (by decide) rfl ?_
  refine Tj.bipush dX12_padded_11 (by decide) (by decide +kernel) rfl ?_
  refine Tj.irem dX12_padded_13 o3 (by decide) rfl ?_
  refine Tj.iconst dX12_padded_14 (by decide) rfl ?_
  refine Tj.isub dX12_padded_15 o4 rfl ?_
  refine Tj.iload_n dX12_padded_16 rfl rfl ?_
  refine Tj.bipush dX12_padded_17 (by decide) (by decide +kernel) rfl ?_
  refine Tj.idiv dX12_padded_19 o1 (by decide) rfl ?_
  refine Tj.iconst dX12_padded_20 (by decide) rfl ?_
  refine Tj.isub dX12_padded_21 o5 rfl ?_
  refine Tj.callVi (as := [_, _, _]) (rest := []) dX12_padded_22 ln_X12_150 sh_145 (by decide) rfl rfl (Nat.le_of_ble_eq_true rfl) ⟨Nat.le_of_ble_eq_true rfl, Nat.le_of_ble_eq_true rfl⟩ (Nat.le_of_ble_eq_true rfl) rfl ?_
  refine Cli.mono h (fun r1 m1 h => ?_)
  exact Tj.iret dX12_padded_25 rfl h

theorem wX12_step_0 {m : tM} {P : Option tV → tM → Prop} {x0 : Int} {x1 : Int}  (h : (0 ≤ x0) ∧ (Cli mX12_alongOf [iV x1, iV 0] m (fun r1 m1 => ((R32 ((x0 % 6) + r1) ∧ 0 ≤ (x0 / 6)) ∧ (Cli mX12_alongOf [iV x1, iV 1] m1 (fun r2 m2 => ((R32 (((x0 / 6) % 6) + r2)) ∧ (Cli mX12_alongOf [iV x1, iV 2] m2 (fun r3 m3 => ((R32 ((x0 / 36) + r3)) ∧ (Cli mX12_in [iV ((x0 % 6) + r1), iV 0, iV 5] m3 (fun r4 m4 => ((r4 = 0 → (P (some (iV (-1))) m4)) ∧ (¬ r4 = 0 → (Cli mX12_in [iV (((x0 / 6) % 6) + r2), iV 0, iV 5] m4 (fun r5 m5 => ((r5 = 0 → (P (some (iV (-1))) m5)) ∧ (¬ r5 = 0 → (Cli mX12_in [iV ((x0 / 36) + r3), iV 0, iV 5] m5 (fun r6 m6 => ((r6 = 0 → (P (some (iV (-1))) m6)) ∧ (¬ r6 = 0 → ((R32 (36 * ((x0 / 36) + r3)) ∧ R32 (6 * (((x0 / 6) % 6) + r2)) ∧ R32 ((36 * ((x0 / 36) + r3)) + (6 * (((x0 / 6) % 6) + r2))) ∧ R32 (((36 * ((x0 / 36) + r3)) + (6 * (((x0 / 6) % 6) + r2))) + ((x0 % 6) + r1))) ∧ (∀ v1 : Int, v1 = (((36 * ((x0 / 36) + r3)) + (6 * (((x0 / 6) % 6) + r2))) + ((x0 % 6) + r1)) → (P (some (iV v1)) m6))))))))))))))))))))))))) : Tj mX12_step 0 [some (iV x0), some (iV x1)] [] m P := by
  obtain ⟨o1, h⟩ := h
  refine Tj.iload_n dX12_step_0 rfl rfl ?_
  refine Tj.bipush dX12_step_1 (by decide) (by decide +kernel) rfl ?_
  refine Tj.irem dX12_step_3 o1 (by decide) rfl ?_
  refine Tj.iload_n dX12_step_4 rfl rfl ?_
  refine Tj.iconst dX12_step_5 (by decide) rfl ?_
  refine Tj.callSi (as := [_, _]) (rest := [_]) dX12_step_6 ln_X12_154 rfl rfl (Nat.le_of_ble_eq_true rfl) ⟨Nat.le_of_ble_eq_true rfl, Nat.le_of_ble_eq_true rfl⟩ (Nat.le_of_ble_eq_true rfl) rfl ?_
  refine Cli.mono h (fun r1 m1 h => ?_)
  obtain ⟨⟨o2, o3⟩, h⟩ := h
  refine Tj.iadd dX12_step_9 o2 rfl ?_
  refine Tj.istore_n dX12_step_10 (Nat.le_of_ble_eq_true rfl) rfl rfl ?_
  refine Tj.iload_n dX12_step_11 rfl rfl ?_
  refine Tj.bipush dX12_step_12 (by decide) (by decide +kernel) rfl ?_
  refine Tj.idiv dX12_step_14 o1 (by decide) rfl ?_
  refine Tj.bipush dX12_step_15 (by decide) (by decide +kernel) rfl ?_
  refine Tj.irem dX12_step_17 o3 (by decide) rfl ?_
  refine Tj.iload_n dX12_step_18 rfl rfl ?_
  refine Tj.iconst dX12_step_19 (by decide) rfl ?_
  refine Tj.callSi (as := [_, _]) (rest := [_]) dX12_step_20 ln_X12_154 rfl rfl (Nat.le_of_ble_eq_true rfl) ⟨Nat.le_of_ble_eq_true rfl, Nat.le_of_ble_eq_true rfl⟩ (Nat.le_of_ble_eq_true rfl) rfl ?_
  refine Cli.mono h (fun r2 m2 h => ?_)
  obtain ⟨o4, h⟩ := h
  refine Tj.iadd dX12_step_23 o4 rfl ?_
  refine Tj.istore_n dX12_step_24 (Nat.le_of_ble_eq_true rfl) rfl rfl ?_
  refine Tj.iload_n dX12_step_25 rfl rfl ?_
  refine Tj.bipush dX12_step_26 (by decide) (by decide +kernel) rfl ?_
  refine Tj.idiv dX12_step_28 o1 (by decide) rfl ?_
  refine Tj.iload_n dX12_step_29 rfl rfl ?_
  refine Tj.iconst dX12_step_30 (by decide) rfl ?_
  refine Tj.callSi (as := [_, _]) (rest := [_]) dX12_step_31 ln_X12_154 rfl rfl (Nat.le_of_ble_eq_true rfl) ⟨Nat.le_of_ble_eq_true rfl, Nat.le_of_ble_eq_true rfl⟩ (Nat.le_of_ble_eq_true rfl) rfl ?_
  refine Cli.mono h (fun r3 m3 h => ?_)
  obtain ⟨o5, h⟩ := h
  refine Tj.iadd dX12_step_34 o5 rfl ?_
  refine Tj.istore dX12_step_35 (Nat.le_of_ble_eq_true rfl) rfl rfl ?_
  refine Tj.iload_n dX12_step_37 rfl rfl ?_
  refine Tj.iconst dX12_step_38 (by decide) rfl ?_
  refine Tj.iconst dX12_step_39 (by decide) rfl ?_
  refine Tj.callSi (as := [_, _, _]) (rest := []) dX12_step_40 ln_X12_139 rfl rfl (Nat.le_of_ble_eq_true rfl) ⟨Nat.le_of_ble_eq_true rfl, Nat.le_of_ble_eq_true rfl⟩ (Nat.le_of_ble_eq_true rfl) rfl ?_
  refine Cli.mono h (fun r4 m4 h => ?_)
  refine Tj.if_eq dX12_step_43 rfl rfl (fun c1 => ?_) (fun c1 => ?_)
  · have h := h.1 c1
    refine Tj.iconst dX12_step_80 (by decide) rfl ?_
    exact Tj.iret dX12_step_81 rfl h
  · have h := h.2 c1
    refine Tj.iload_n dX12_step_46 rfl rfl ?_
    refine Tj.iconst dX12_step_47 (by decide) rfl ?_
    refine Tj.iconst dX12_step_48 (by decide) rfl ?_
    refine Tj.callSi (as := [_, _, _]) (rest := []) dX12_step_49 ln_X12_139 rfl rfl (Nat.le_of_ble_eq_true rfl) ⟨Nat.le_of_ble_eq_true rfl, Nat.le_of_ble_eq_true rfl⟩ (Nat.le_of_ble_eq_true rfl) rfl ?_
    refine Cli.mono h (fun r5 m5 h => ?_)
    refine Tj.if_eq dX12_step_52 rfl rfl (fun c2 => ?_) (fun c2 => ?_)
    · have h := h.1 c2
      refine Tj.iconst dX12_step_80 (by decide) rfl ?_
      exact Tj.iret dX12_step_81 rfl h
    · have h := h.2 c2
      refine Tj.iload dX12_step_55 rfl rfl ?_
      refine Tj.iconst dX12_step_57 (by decide) rfl ?_
      refine Tj.iconst dX12_step_58 (by decide) rfl ?_
      refine Tj.callSi (as := [_, _, _]) (rest := []) dX12_step_59 ln_X12_139 rfl rfl (Nat.le_of_ble_eq_true rfl) ⟨Nat.le_of_ble_eq_true rfl, Nat.le_of_ble_eq_true rfl⟩ (Nat.le_of_ble_eq_true rfl) rfl ?_
      refine Cli.mono h (fun r6 m6 h => ?_)
      refine Tj.if_eq dX12_step_62 rfl rfl (fun c3 => ?_) (fun c3 => ?_)
      · have h := h.1 c3
        refine Tj.iconst dX12_step_80 (by decide) rfl ?_
        exact Tj.iret dX12_step_81 rfl h
      · have h := h.2 c3
        obtain ⟨⟨o6, o7, o8, o9⟩, h⟩ := h
        refine Tj.bipush dX12_step_65 (by decide) (by decide +kernel) rfl ?_
        refine Tj.iload dX12_step_67 rfl rfl ?_
        refine Tj.imul dX12_step_69 o6 rfl ?_
        refine Tj.bipush dX12_step_70 (by decide) (by decide +kernel) rfl ?_
        refine Tj.iload_n dX12_step_72 rfl rfl ?_
        refine Tj.imul dX12_step_73 o7 rfl ?_
        refine Tj.iadd dX12_step_74 o8 rfl ?_
        refine Tj.iload_n dX12_step_75 rfl rfl ?_
        refine Tj.iadd dX12_step_76 o9 rfl ?_
        show Tj mX12_step 77 [some (iV x0), some (iV x1), some (iV ((x0 % 6) + r1)), some (iV (((x0 / 6) % 6) + r2)), some (iV ((x0 / 36) + r3))] [iV (((36 * ((x0 / 36) + r3)) + (6 * (((x0 / 6) % 6) + r2))) + ((x0 % 6) + r1))] m6 P
        generalize hv1 : ((((36 * ((x0 / 36) + r3)) + (6 * (((x0 / 6) % 6) + r2))) + ((x0 % 6) + r1)) : Int) = v1
        have h := h v1 hv1.symm
        refine Tj.goto dX12_step_77 rfl ?_
        exact Tj.iret dX12_step_81 rfl h

theorem wX12_hang_0 {m : tM} {P : Option tV → tM → Prop} {x1 : Int}  (h : Tj mX12_hang 7 [some (rV 145), some (iV x1), some (iV 0), some (iV (-1)), some (iV 0)] [] m P) : Tj mX12_hang 0 [some (rV 145), some (iV x1)] [] m P := by
  refine Tj.iconst dX12_hang_0 (by decide) rfl ?_
  refine Tj.istore_n dX12_hang_1 (Nat.le_of_ble_eq_true rfl) rfl rfl ?_
  refine Tj.iconst dX12_hang_2 (by decide) rfl ?_
  refine Tj.istore_n dX12_hang_3 (Nat.le_of_ble_eq_true rfl) rfl rfl ?_
  refine Tj.iconst dX12_hang_4 (by decide) rfl ?_
  refine Tj.istore dX12_hang_5 (Nat.le_of_ble_eq_true rfl) rfl rfl ?_
  exact Tj.cut h ⟨rfl, ⟨rfl, ⟨rfl, ⟨rfl, ⟨rfl, trivial⟩⟩⟩⟩⟩

theorem wX12_hang_7 {m : tM} {P : Option tV → tM → Prop} {x1 : Int} {x2 : Int} {x3 : Int} {x4 : Int}  (h : (x4 < 216 → ((0 ≤ x4 ∧ x4 < 216) ∧ (Cli mX12_padded [rV 145, iV x4] (up m 156 x4 0) (fun r1 m1 => ((r1 = x1 → (∀ v1 : Int, v1 = (if x3 = (-1) then x4 else x3) → ((R32 (x2 + 1) ∧ R32 (x4 + 1)) ∧ (Tj mX12_hang 7 [some (rV 145), some (iV x1), some (iV (x2 + 1)), some (iV v1), some (iV (x4 + 1))] [] m1 P)))) ∧ (¬ r1 = x1 → ((R32 (x4 + 1)) ∧ (Tj mX12_hang 7 [some (rV 145), some (iV x1), some (iV x2), some (iV x3), some (iV (x4 + 1))] [] m1 P)))))))) ∧ (¬ x4 < 216 → ((0 ≤ x3 ∧ x3 < 216) ∧ (Tj mX12_hang 67 [some (rV 145), some (iV x1), some (iV x2), none, some (iV 1), some (iV 1)] [] (up m 156 x3 1) P)))) : Tj mX12_hang 7 [some (rV 145), some (iV x1), some (iV x2), some (iV x3), some (iV x4)] [] m P := by
  refine Tj.iload dX12_hang_7 rfl rfl ?_
  refine Tj.sipush dX12_hang_9 (by decide) (by decide +kernel) rfl ?_
  refine Tj.icmp_ge dX12_hang_12 rfl rfl (fun c1 => ?_) (fun c1 => ?_)
  · have h := h.1 c1
    obtain ⟨⟨o1, o2⟩, h⟩ := h
    refine Tj.aload_n dX12_hang_15 rfl rfl ?_
    refine Tj.getR (b := 156) dX12_hang_16 fl_X12_40 sh_145 rfl rfl ?_
    refine Tj.iload dX12_hang_19 rfl rfl ?_
    refine Tj.iconst dX12_hang_21 (by decide) rfl ?_
    refine Tj.iast dX12_hang_22 sh_156 o1 o2 rfl ?_
    refine Tj.aload_n dX12_hang_23 rfl rfl ?_
    refine Tj.iload dX12_hang_24 rfl rfl ?_
    refine Tj.callVi (as := [_]) (rest := []) dX12_hang_26 ln_X12_158 sh_145 (by decide) rfl rfl (Nat.le_of_ble_eq_true rfl) ⟨Nat.le_of_ble_eq_true rfl, Nat.le_of_ble_eq_true rfl⟩ (Nat.le_of_ble_eq_true rfl) rfl ?_
    refine Cli.mono h (fun r1 m1 h => ?_)
    refine Tj.iload_n dX12_hang_29 rfl rfl ?_
    refine Tj.icmp_ne dX12_hang_30 rfl rfl (fun c2 => ?_) (fun c2 => ?_)
    · have h := h.1 c2
      refine Tj.iload_n dX12_hang_33 rfl rfl ?_
      refine Tj.iconst dX12_hang_34 (by decide) rfl ?_
      have hj : Tj mX12_hang 44 [some (rV 145), some (iV x1), some (iV x2), none, some (iV x4)] [iV (if x3 = (-1) then x4 else x3)] m1 P := by
        generalize hv1 : ((if x3 = (-1) then x4 else x3) : Int) = v1
        have h := h v1 hv1.symm
        obtain ⟨⟨o3, o4⟩, h⟩ := h
        refine Tj.istore_n dX12_hang_44 (Nat.le_of_ble_eq_true rfl) rfl rfl ?_
        refine Tj.iinc dX12_hang_45 rfl (Nat.le_of_ble_eq_true rfl) rfl o3 rfl ?_
        refine Tj.iinc dX12_hang_48 rfl (Nat.le_of_ble_eq_true rfl) rfl o4 rfl ?_
        refine Tj.goto dX12_hang_51 rfl ?_
        exact Tj.cut h ⟨rfl, ⟨rfl, ⟨rfl, ⟨rfl, ⟨rfl, trivial⟩⟩⟩⟩⟩
      refine Tj.icmp_ne dX12_hang_35 rfl rfl (fun c3 => ?_) (fun c3 => ?_)
      · refine Tj.iload dX12_hang_38 rfl rfl ?_
        refine Tj.goto dX12_hang_40 rfl ?_
        try simp only [if_pos c3] at hj ⊢
        exact Tj.cut hj ⟨rfl, ⟨rfl, ⟨rfl, ⟨rfl, trivial⟩⟩⟩⟩
      · refine Tj.iload_n dX12_hang_43 rfl rfl ?_
        try simp only [if_neg c3] at hj ⊢
        exact Tj.cut hj ⟨rfl, ⟨rfl, ⟨rfl, ⟨rfl, trivial⟩⟩⟩⟩
    · have h := h.2 c2
      obtain ⟨o5, h⟩ := h
      refine Tj.iinc dX12_hang_48 rfl (Nat.le_of_ble_eq_true rfl) rfl o5 rfl ?_
      refine Tj.goto dX12_hang_51 rfl ?_
      exact Tj.cut h ⟨rfl, ⟨rfl, ⟨rfl, ⟨rfl, ⟨rfl, trivial⟩⟩⟩⟩⟩
  · have h := h.2 c1
    obtain ⟨⟨o6, o7⟩, h⟩ := h
    refine Tj.aload_n dX12_hang_54 rfl rfl ?_
    refine Tj.getR (b := 156) dX12_hang_55 fl_X12_40 sh_145 rfl rfl ?_
    refine Tj.iload_n dX12_hang_58 rfl rfl ?_
    refine Tj.iconst dX12_hang_59 (by decide) rfl ?_
    refine Tj.iast dX12_hang_60 sh_156 o6 o7 rfl ?_
    refine Tj.iconst dX12_hang_61 (by decide) rfl ?_
    refine Tj.istore dX12_hang_62 (Nat.le_of_ble_eq_true rfl) rfl rfl ?_
    refine Tj.iconst dX12_hang_64 (by decide) rfl ?_
    refine Tj.istore dX12_hang_65 (Nat.le_of_ble_eq_true rfl) rfl rfl ?_
    exact Tj.cut h ⟨rfl, ⟨rfl, ⟨rfl, ⟨rfl, ⟨rfl, trivial⟩⟩⟩⟩⟩

theorem wX12_hang_67 {m : tM} {P : Option tV → tM → Prop} {x1 : Int} {x2 : Int} {x4 : Int} {x5 : Int}  (h : (x5 = 0 → (∀ v1 : Int, v1 = (if x4 = x2 then 1 else 0) → (P (some (iV v1)) m))) ∧ (¬ x5 = 0 → (Tj mX12_hang 78 [some (rV 145), some (iV x1), some (iV x2), none, some (iV x4), some (iV 0), some (iV 0)] [] m P))) : Tj mX12_hang 67 [some (rV 145), some (iV x1), some (iV x2), none, some (iV x4), some (iV x5)] [] m P := by
  refine Tj.iload dX12_hang_67 rfl rfl ?_
  refine Tj.if_eq dX12_hang_69 rfl rfl (fun c1 => ?_) (fun c1 => ?_)
  · have h := h.1 c1
    refine Tj.iload dX12_hang_171 rfl rfl ?_
    refine Tj.iload_n dX12_hang_173 rfl rfl ?_
    have hj : Tj mX12_hang 182 [] [iV (if x4 = x2 then 1 else 0)] m P := by
      generalize hv1 : ((if x4 = x2 then 1 else 0) : Int) = v1
      have h := h v1 hv1.symm
      exact Tj.zret dX12_hang_182 rfl (by rw [← hv1]; (repeat' split) <;> simp) h
    refine Tj.icmp_ne dX12_hang_174 rfl rfl (fun c2 => ?_) (fun c2 => ?_)
    · refine Tj.iconst dX12_hang_177 (by decide) rfl ?_
      refine Tj.goto dX12_hang_178 rfl ?_
      try simp only [if_pos c2] at hj ⊢
      exact Tj.cut hj trivial
    · refine Tj.iconst dX12_hang_181 (by decide) rfl ?_
      try simp only [if_neg c2] at hj ⊢
      exact Tj.cut hj trivial
  · have h := h.2 c1
    refine Tj.iconst dX12_hang_72 (by decide) rfl ?_
    refine Tj.istore dX12_hang_73 (Nat.le_of_ble_eq_true rfl) rfl rfl ?_
    refine Tj.iconst dX12_hang_75 (by decide) rfl ?_
    refine Tj.istore dX12_hang_76 (Nat.le_of_ble_eq_true rfl) rfl rfl ?_
    exact Tj.cut h ⟨rfl, ⟨rfl, ⟨rfl, ⟨rfl, ⟨rfl, ⟨rfl, trivial⟩⟩⟩⟩⟩⟩

theorem wX12_hang_78 {m : tM} {P : Option tV → tM → Prop} {x1 : Int} {x2 : Int} {x4 : Int} {x5 : Int} {x6 : Int}  (h : (x6 < 216 → (Tj mX12_hang 89 [some (rV 145), some (iV x1), some (iV x2), none, some (iV x4), some (iV x5), some (iV x6), some (iV 0)] [] m P)) ∧ (¬ x6 < 216 → (Tj mX12_hang 67 [some (rV 145), some (iV x1), some (iV x2), none, some (iV x4), some (iV x5)] [] m P))) : Tj mX12_hang 78 [some (rV 145), some (iV x1), some (iV x2), none, some (iV x4), some (iV x5), some (iV x6)] [] m P := by
  refine Tj.iload dX12_hang_78 rfl rfl ?_
  refine Tj.sipush dX12_hang_80 (by decide) (by decide +kernel) rfl ?_
  refine Tj.icmp_ge dX12_hang_83 rfl rfl (fun c1 => ?_) (fun c1 => ?_)
  · have h := h.1 c1
    refine Tj.iconst dX12_hang_86 (by decide) rfl ?_
    refine Tj.istore dX12_hang_87 (Nat.le_of_ble_eq_true rfl) rfl rfl ?_
    exact Tj.cut h ⟨rfl, ⟨rfl, ⟨rfl, ⟨rfl, ⟨rfl, ⟨rfl, ⟨rfl, trivial⟩⟩⟩⟩⟩⟩⟩
  · have h := h.2 c1
    refine Tj.goto dX12_hang_168 rfl ?_
    exact Tj.cut h ⟨rfl, ⟨rfl, ⟨rfl, ⟨rfl, ⟨rfl, trivial⟩⟩⟩⟩⟩

theorem wX12_hang_89 {m : tM} {P : Option tV → tM → Prop} {x1 : Int} {x2 : Int} {x4 : Int} {x5 : Int} {x6 : Int} {x7 : Int}  (h : (x7 < 6 → ((0 ≤ x6 ∧ x6 < 216) ∧ (((m 156 x6) = 1 → (Cli mX12_step [iV x6, iV x7] m (fun r1 m1 => ((r1 = (-1) → ((R32 (x7 + 1)) ∧ (Tj mX12_hang 89 [some (rV 145), some (iV x1), some (iV x2), none, some (iV x4), some (iV x5), some (iV x6), some (iV (x7 + 1))] [] m1 P))) ∧ (¬ r1 = (-1) → ((0 ≤ r1 ∧ r1 < 216) ∧ (((m1 156 r1) = 0 → (Cli mX12_padded [rV 145, iV r1] m1 (fun r2 m2 => ((r2 = x1 → ((R32 (x4 + 1) ∧ R32 (x7 + 1)) ∧ (Tj mX12_hang 89 [some (rV 145), some (iV x1), some (iV x2), none, some (iV (x4 + 1)), some (iV 1), some (iV x6), some (iV (x7 + 1))] [] (up m2 156 r1 1) P))) ∧ (¬ r2 = x1 → ((R32 (x7 + 1)) ∧ (Tj mX12_hang 89 [some (rV 145), some (iV x1), some (iV x2), none, some (iV x4), some (iV x5), some (iV x6), some (iV (x7 + 1))] [] m2 P))))))) ∧ (¬ (m1 156 r1) = 0 → ((R32 (x7 + 1)) ∧ (Tj mX12_hang 89 [some (rV 145), some (iV x1), some (iV x2), none, some (iV x4), some (iV x5), some (iV x6), some (iV (x7 + 1))] [] m1 P)))))))))) ∧ (¬ (m 156 x6) = 1 → ((R32 (x6 + 1)) ∧ (Tj mX12_hang 78 [some (rV 145), some (iV x1), some (iV x2), none, some (iV x4), some (iV x5), some (iV (x6 + 1))] [] m P)))))) ∧ (¬ x7 < 6 → ((R32 (x6 + 1)) ∧ (Tj mX12_hang 78 [some (rV 145), some (iV x1), some (iV x2), none, some (iV x4), some (iV x5), some (iV (x6 + 1))] [] m P)))) : Tj mX12_hang 89 [some (rV 145), some (iV x1), some (iV x2), none, some (iV x4), some (iV x5), some (iV x6), some (iV x7)] [] m P := by
  refine Tj.iload dX12_hang_89 rfl rfl ?_
  refine Tj.bipush dX12_hang_91 (by decide) (by decide +kernel) rfl ?_
  refine Tj.icmp_ge dX12_hang_93 rfl rfl (fun c1 => ?_) (fun c1 => ?_)
  · have h := h.1 c1
    obtain ⟨⟨o1, o2⟩, h⟩ := h
    refine Tj.aload_n dX12_hang_96 rfl rfl ?_
    refine Tj.getR (b := 156) dX12_hang_97 fl_X12_40 sh_145 rfl rfl ?_
    refine Tj.iload dX12_hang_100 rfl rfl ?_
    refine Tj.iald dX12_hang_102 sh_156 o1 o2 rfl ?_
    refine Tj.iconst dX12_hang_103 (by decide) rfl ?_
    refine Tj.icmp_ne dX12_hang_104 rfl rfl (fun c2 => ?_) (fun c2 => ?_)
    · have h := h.1 c2
      refine Tj.iload dX12_hang_107 rfl rfl ?_
      refine Tj.iload dX12_hang_109 rfl rfl ?_
      refine Tj.callSi (as := [_, _]) (rest := []) dX12_hang_111 ln_X12_161 rfl rfl (Nat.le_of_ble_eq_true rfl) ⟨Nat.le_of_ble_eq_true rfl, Nat.le_of_ble_eq_true rfl⟩ (Nat.le_of_ble_eq_true rfl) rfl ?_
      refine Cli.mono h (fun r1 m1 h => ?_)
      refine Tj.istore dX12_hang_114 (Nat.le_of_ble_eq_true rfl) rfl rfl ?_
      refine Tj.iload dX12_hang_116 rfl rfl ?_
      refine Tj.iconst dX12_hang_118 (by decide) rfl ?_
      refine Tj.icmp_eq dX12_hang_119 rfl rfl (fun c3 => ?_) (fun c3 => ?_)
      · have h := h.1 c3
        obtain ⟨o3, h⟩ := h
        refine Tj.iinc dX12_hang_156 rfl (Nat.le_of_ble_eq_true rfl) rfl o3 rfl ?_
        refine Tj.goto dX12_hang_159 rfl ?_
        exact Tj.cut h ⟨rfl, ⟨rfl, ⟨rfl, ⟨rfl, ⟨rfl, ⟨rfl, ⟨rfl, trivial⟩⟩⟩⟩⟩⟩⟩
      · have h := h.2 c3
        obtain ⟨⟨o4, o5⟩, h⟩ := h
        refine Tj.aload_n dX12_hang_122 rfl rfl ?_
        refine Tj.getR (b := 156) dX12_hang_123 fl_X12_40 sh_145 rfl rfl ?_
        refine Tj.iload dX12_hang_126 rfl rfl ?_
        refine Tj.iald dX12_hang_128 sh_156 o4 o5 rfl ?_
        refine Tj.if_ne dX12_hang_129 rfl rfl (fun c4 => ?_) (fun c4 => ?_)
        · have h := h.1 c4
          refine Tj.aload_n dX12_hang_132 rfl rfl ?_
          refine Tj.iload dX12_hang_133 rfl rfl ?_
          refine Tj.callVi (as := [_]) (rest := []) dX12_hang_135 ln_X12_158 sh_145 (by decide) rfl rfl (Nat.le_of_ble_eq_true rfl) ⟨Nat.le_of_ble_eq_true rfl, Nat.le_of_ble_eq_true rfl⟩ (Nat.le_of_ble_eq_true rfl) rfl ?_
          refine Cli.mono h (fun r2 m2 h => ?_)
          refine Tj.iload_n dX12_hang_138 rfl rfl ?_
          refine Tj.icmp_ne dX12_hang_139 rfl rfl (fun c5 => ?_) (fun c5 => ?_)
          · have h := h.1 c5
            obtain ⟨⟨o6, o7⟩, h⟩ := h
            refine Tj.aload_n dX12_hang_142 rfl rfl ?_
            refine Tj.getR (b := 156) dX12_hang_143 fl_X12_40 sh_145 rfl rfl ?_
            refine Tj.iload dX12_hang_146 rfl rfl ?_
            refine Tj.iconst dX12_hang_148 (by decide) rfl ?_
            refine Tj.iast dX12_hang_149 sh_156 o4 o5 rfl ?_
            refine Tj.iinc dX12_hang_150 rfl (Nat.le_of_ble_eq_true rfl) rfl o6 rfl ?_
            refine Tj.iconst dX12_hang_153 (by decide) rfl ?_
            refine Tj.istore dX12_hang_154 (Nat.le_of_ble_eq_true rfl) rfl rfl ?_
            refine Tj.iinc dX12_hang_156 rfl (Nat.le_of_ble_eq_true rfl) rfl o7 rfl ?_
            refine Tj.goto dX12_hang_159 rfl ?_
            exact Tj.cut h ⟨rfl, ⟨rfl, ⟨rfl, ⟨rfl, ⟨rfl, ⟨rfl, ⟨rfl, trivial⟩⟩⟩⟩⟩⟩⟩
          · have h := h.2 c5
            obtain ⟨o8, h⟩ := h
            refine Tj.iinc dX12_hang_156 rfl (Nat.le_of_ble_eq_true rfl) rfl o8 rfl ?_
            refine Tj.goto dX12_hang_159 rfl ?_
            exact Tj.cut h ⟨rfl, ⟨rfl, ⟨rfl, ⟨rfl, ⟨rfl, ⟨rfl, ⟨rfl, trivial⟩⟩⟩⟩⟩⟩⟩
        · have h := h.2 c4
          obtain ⟨o9, h⟩ := h
          refine Tj.iinc dX12_hang_156 rfl (Nat.le_of_ble_eq_true rfl) rfl o9 rfl ?_
          refine Tj.goto dX12_hang_159 rfl ?_
          exact Tj.cut h ⟨rfl, ⟨rfl, ⟨rfl, ⟨rfl, ⟨rfl, ⟨rfl, ⟨rfl, trivial⟩⟩⟩⟩⟩⟩⟩
    · have h := h.2 c2
      obtain ⟨o10, h⟩ := h
      refine Tj.iinc dX12_hang_162 rfl (Nat.le_of_ble_eq_true rfl) rfl o10 rfl ?_
      refine Tj.goto dX12_hang_165 rfl ?_
      exact Tj.cut h ⟨rfl, ⟨rfl, ⟨rfl, ⟨rfl, ⟨rfl, ⟨rfl, trivial⟩⟩⟩⟩⟩⟩
  · have h := h.2 c1
    obtain ⟨o11, h⟩ := h
    refine Tj.iinc dX12_hang_162 rfl (Nat.le_of_ble_eq_true rfl) rfl o11 rfl ?_
    refine Tj.goto dX12_hang_165 rfl ?_
    exact Tj.cut h ⟨rfl, ⟨rfl, ⟨rfl, ⟨rfl, ⟨rfl, ⟨rfl, trivial⟩⟩⟩⟩⟩⟩

theorem wX12_areJoined_0 {m : tM} {P : Option tV → tM → Prop} {x1 : Int}  (h : Tj mX12_areJoined 7 [some (rV 145), some (iV x1), none, some (iV 0), some (iV 0)] [] m P) : Tj mX12_areJoined 0 [some (rV 145), some (iV x1)] [] m P := by
  refine Tj.iconst dX12_areJoined_0 (by decide) rfl ?_
  refine Tj.istore_n dX12_areJoined_1 (Nat.le_of_ble_eq_true rfl) rfl rfl ?_
  refine Tj.iconst dX12_areJoined_2 (by decide) rfl ?_
  refine Tj.istore_n dX12_areJoined_3 (Nat.le_of_ble_eq_true rfl) rfl rfl ?_
  refine Tj.iconst dX12_areJoined_4 (by decide) rfl ?_
  refine Tj.istore dX12_areJoined_5 (Nat.le_of_ble_eq_true rfl) rfl rfl ?_
  exact Tj.cut h ⟨rfl, ⟨rfl, ⟨rfl, ⟨rfl, trivial⟩⟩⟩⟩

theorem wX12_areJoined_7 {m : tM} {P : Option tV → tM → Prop} {x1 : Int} {x3 : Int} {x4 : Int}  (h : (x4 < x1 → ((0 ≤ x4 ∧ x4 < 8 ∧ R32 (x4 + 1)) ∧ (Tj mX12_areJoined 7 [some (rV 145), some (iV x1), none, some (iV (bOr x3 (bShl (m 157 x4) x4))), some (iV (x4 + 1))] [] m P))) ∧ (¬ x4 < x1 → ((R32 (-x3)) ∧ (Tj mX12_areJoined 40 [none, some (iV x1), some (iV (bAnd x3 (-x3))), some (iV x3), some (iV 0)] [] m P)))) : Tj mX12_areJoined 7 [some (rV 145), some (iV x1), none, some (iV x3), some (iV x4)] [] m P := by
  refine Tj.iload dX12_areJoined_7 rfl rfl ?_
  refine Tj.iload_n dX12_areJoined_9 rfl rfl ?_
  refine Tj.icmp_ge dX12_areJoined_10 rfl rfl (fun c1 => ?_) (fun c1 => ?_)
  · have h := h.1 c1
    obtain ⟨⟨o1, o2, o3⟩, h⟩ := h
    refine Tj.iload_n dX12_areJoined_13 rfl rfl ?_
    refine Tj.aload_n dX12_areJoined_14 rfl rfl ?_
    refine Tj.getR (b := 157) dX12_areJoined_15 fl_X12_43 sh_145 rfl rfl ?_
    refine Tj.iload dX12_areJoined_18 rfl rfl ?_
    refine Tj.iald dX12_areJoined_20 sh_157 o1 o2 rfl ?_
    refine Tj.iload dX12_areJoined_21 rfl rfl ?_
    refine Tj.ishl dX12_areJoined_23 rfl ?_
    refine Tj.ior dX12_areJoined_24 rfl ?_
    refine Tj.istore_n dX12_areJoined_25 (Nat.le_of_ble_eq_true rfl) rfl rfl ?_
    refine Tj.iinc dX12_areJoined_26 rfl (Nat.le_of_ble_eq_true rfl) rfl o3 rfl ?_
    refine Tj.goto dX12_areJoined_29 rfl ?_
    exact Tj.cut h ⟨rfl, ⟨rfl, ⟨rfl, ⟨rfl, trivial⟩⟩⟩⟩
  · have h := h.2 c1
    obtain ⟨o4, h⟩ := h
    refine Tj.iload_n dX12_areJoined_32 rfl rfl ?_
    refine Tj.iload_n dX12_areJoined_33 rfl rfl ?_
    refine Tj.ineg dX12_areJoined_34 o4 rfl ?_
    refine Tj.iand dX12_areJoined_35 rfl ?_
    refine Tj.istore_n dX12_areJoined_36 (Nat.le_of_ble_eq_true rfl) rfl rfl ?_
    refine Tj.iconst dX12_areJoined_37 (by decide) rfl ?_
    refine Tj.istore dX12_areJoined_38 (Nat.le_of_ble_eq_true rfl) rfl rfl ?_
    exact Tj.cut h ⟨rfl, ⟨rfl, ⟨rfl, ⟨rfl, trivial⟩⟩⟩⟩

theorem wX12_areJoined_40 {m : tM} {P : Option tV → tM → Prop} {x1 : Int} {x2 : Int} {x3 : Int} {x4 : Int}  (h : (x4 < 8 → (Tj mX12_areJoined 50 [none, some (iV x1), some (iV x2), some (iV x3), some (iV x4), some (iV 0)] [] m P)) ∧ (¬ x4 < 8 → (∀ v1 : Int, v1 = (if x2 = x3 then 1 else 0) → (P (some (iV v1)) m)))) : Tj mX12_areJoined 40 [none, some (iV x1), some (iV x2), some (iV x3), some (iV x4)] [] m P := by
  refine Tj.iload dX12_areJoined_40 rfl rfl ?_
  refine Tj.bipush dX12_areJoined_42 (by decide) (by decide +kernel) rfl ?_
  refine Tj.icmp_ge dX12_areJoined_44 rfl rfl (fun c1 => ?_) (fun c1 => ?_)
  · have h := h.1 c1
    refine Tj.iconst dX12_areJoined_47 (by decide) rfl ?_
    refine Tj.istore dX12_areJoined_48 (Nat.le_of_ble_eq_true rfl) rfl rfl ?_
    exact Tj.cut h ⟨rfl, ⟨rfl, ⟨rfl, ⟨rfl, ⟨rfl, trivial⟩⟩⟩⟩⟩
  · have h := h.2 c1
    refine Tj.iload_n dX12_areJoined_108 rfl rfl ?_
    refine Tj.iload_n dX12_areJoined_109 rfl rfl ?_
    have hj : Tj mX12_areJoined 118 [] [iV (if x2 = x3 then 1 else 0)] m P := by
      generalize hv1 : ((if x2 = x3 then 1 else 0) : Int) = v1
      have h := h v1 hv1.symm
      exact Tj.zret dX12_areJoined_118 rfl (by rw [← hv1]; (repeat' split) <;> simp) h
    refine Tj.icmp_ne dX12_areJoined_110 rfl rfl (fun c2 => ?_) (fun c2 => ?_)
    · refine Tj.iconst dX12_areJoined_113 (by decide) rfl ?_
      refine Tj.goto dX12_areJoined_114 rfl ?_
      try simp only [if_pos c2] at hj ⊢
      exact Tj.cut hj trivial
    · refine Tj.iconst dX12_areJoined_117 (by decide) rfl ?_
      try simp only [if_neg c2] at hj ⊢
      exact Tj.cut hj trivial

theorem wX12_areJoined_50 {m : tM} {P : Option tV → tM → Prop} {x1 : Int} {x2 : Int} {x3 : Int} {x4 : Int} {x5 : Int}  (h : (x5 < x1 → (Tj mX12_areJoined 59 [none, some (iV x1), some (iV x2), some (iV x3), some (iV x4), some (iV x5), some (iV 1)] [] m P)) ∧ (¬ x5 < x1 → ((R32 (x4 + 1)) ∧ (Tj mX12_areJoined 40 [none, some (iV x1), some (iV x2), some (iV x3), some (iV (x4 + 1))] [] m P)))) : Tj mX12_areJoined 50 [none, some (iV x1), some (iV x2), some (iV x3), some (iV x4), some (iV x5)] [] m P := by
  refine Tj.iload dX12_areJoined_50 rfl rfl ?_
  refine Tj.iload_n dX12_areJoined_52 rfl rfl ?_
  refine Tj.icmp_ge dX12_areJoined_53 rfl rfl (fun c1 => ?_) (fun c1 => ?_)
  · have h := h.1 c1
    refine Tj.iconst dX12_areJoined_56 (by decide) rfl ?_
    refine Tj.istore dX12_areJoined_57 (Nat.le_of_ble_eq_true rfl) rfl rfl ?_
    exact Tj.cut h ⟨rfl, ⟨rfl, ⟨rfl, ⟨rfl, ⟨rfl, ⟨rfl, trivial⟩⟩⟩⟩⟩⟩
  · have h := h.2 c1
    obtain ⟨o1, h⟩ := h
    refine Tj.iinc dX12_areJoined_102 rfl (Nat.le_of_ble_eq_true rfl) rfl o1 rfl ?_
    refine Tj.goto dX12_areJoined_105 rfl ?_
    exact Tj.cut h ⟨rfl, ⟨rfl, ⟨rfl, ⟨rfl, trivial⟩⟩⟩⟩

theorem wX12_areJoined_59 {m : tM} {P : Option tV → tM → Prop} {x1 : Int} {x2 : Int} {x3 : Int} {x4 : Int} {x5 : Int} {x6 : Int}  (h : (x6 < x1 → (((bAnd (bShr x2 x5) 1) = 1 → ((R32 (x6 * 2)) ∧ (Tj mX12_areJoined 59 [none, some (iV x1), some (iV (bOr x2 (bAnd x3 (bShl 1 (bXor x5 x6))))), some (iV x3), some (iV x4), some (iV x5), some (iV (x6 * 2))] [] m P))) ∧ (¬ (bAnd (bShr x2 x5) 1) = 1 → ((R32 (x5 + 1)) ∧ (Tj mX12_areJoined 50 [none, some (iV x1), some (iV x2), some (iV x3), some (iV x4), some (iV (x5 + 1))] [] m P))))) ∧ (¬ x6 < x1 → ((R32 (x5 + 1)) ∧ (Tj mX12_areJoined 50 [none, some (iV x1), some (iV x2), some (iV x3), some (iV x4), some (iV (x5 + 1))] [] m P)))) : Tj mX12_areJoined 59 [none, some (iV x1), some (iV x2), some (iV x3), some (iV x4), some (iV x5), some (iV x6)] [] m P := by
  refine Tj.iload dX12_areJoined_59 rfl rfl ?_
  refine Tj.iload_n dX12_areJoined_61 rfl rfl ?_
  refine Tj.icmp_ge dX12_areJoined_62 rfl rfl (fun c1 => ?_) (fun c1 => ?_)
  · have h := h.1 c1
    refine Tj.iload_n dX12_areJoined_65 rfl rfl ?_
    refine Tj.iload dX12_areJoined_66 rfl rfl ?_
    refine Tj.ishr dX12_areJoined_68 rfl ?_
    refine Tj.iconst dX12_areJoined_69 (by decide) rfl ?_
    refine Tj.iand dX12_areJoined_70 rfl ?_
    refine Tj.iconst dX12_areJoined_71 (by decide) rfl ?_
    refine Tj.icmp_ne dX12_areJoined_72 rfl rfl (fun c2 => ?_) (fun c2 => ?_)
    · have h := h.1 c2
      obtain ⟨o1, h⟩ := h
      refine Tj.iload_n dX12_areJoined_75 rfl rfl ?_
      refine Tj.iload_n dX12_areJoined_76 rfl rfl ?_
      refine Tj.iconst dX12_areJoined_77 (by decide) rfl ?_
      refine Tj.iload dX12_areJoined_78 rfl rfl ?_
      refine Tj.iload dX12_areJoined_80 rfl rfl ?_
      refine Tj.ixor dX12_areJoined_82 rfl ?_
      refine Tj.ishl dX12_areJoined_83 rfl ?_
      refine Tj.iand dX12_areJoined_84 rfl ?_
      refine Tj.ior dX12_areJoined_85 rfl ?_
      refine Tj.istore_n dX12_areJoined_86 (Nat.le_of_ble_eq_true rfl) rfl rfl ?_
      refine Tj.iload dX12_areJoined_87 rfl rfl ?_
      refine Tj.iconst dX12_areJoined_89 (by decide) rfl ?_
      refine Tj.imul dX12_areJoined_90 o1 rfl ?_
      refine Tj.istore dX12_areJoined_91 (Nat.le_of_ble_eq_true rfl) rfl rfl ?_
      refine Tj.goto dX12_areJoined_93 rfl ?_
      exact Tj.cut h ⟨rfl, ⟨rfl, ⟨rfl, ⟨rfl, ⟨rfl, ⟨rfl, trivial⟩⟩⟩⟩⟩⟩
    · have h := h.2 c2
      obtain ⟨o2, h⟩ := h
      refine Tj.iinc dX12_areJoined_96 rfl (Nat.le_of_ble_eq_true rfl) rfl o2 rfl ?_
      refine Tj.goto dX12_areJoined_99 rfl ?_
      exact Tj.cut h ⟨rfl, ⟨rfl, ⟨rfl, ⟨rfl, ⟨rfl, trivial⟩⟩⟩⟩⟩
  · have h := h.2 c1
    obtain ⟨o3, h⟩ := h
    refine Tj.iinc dX12_areJoined_96 rfl (Nat.le_of_ble_eq_true rfl) rfl o3 rfl ?_
    refine Tj.goto dX12_areJoined_99 rfl ?_
    exact Tj.cut h ⟨rfl, ⟨rfl, ⟨rfl, ⟨rfl, ⟨rfl, trivial⟩⟩⟩⟩⟩

theorem wX12_isCornerWell_0 {m : tM} {P : Option tV → tM → Prop} {x1 : Int} {x2 : Int} {x3 : Int}  (h : Tj mX12_isCornerWell 3 [some (rV 145), some (iV x1), some (iV x2), some (iV x3), some (iV 0)] [] m P) : Tj mX12_isCornerWell 0 [some (rV 145), some (iV x1), some (iV x2), some (iV x3)] [] m P := by
  refine Tj.iconst dX12_isCornerWell_0 (by decide) rfl ?_
  refine Tj.istore dX12_isCornerWell_1 (Nat.le_of_ble_eq_true rfl) rfl rfl ?_
  exact Tj.cut h ⟨rfl, ⟨rfl, ⟨rfl, ⟨rfl, ⟨rfl, trivial⟩⟩⟩⟩⟩

theorem wX12_isCornerWell_3 {m : tM} {P : Option tV → tM → Prop} {x1 : Int} {x2 : Int} {x3 : Int} {x4 : Int}  (h : (x4 < 8 → ((R32 (x1 + (bAnd x4 1)) ∧ R32 (x2 + (bAnd (bShr x4 1) 1)) ∧ R32 (x3 + (bShr x4 2))) ∧ (Cli mX12_cubeAt [rV 145, iV (x1 + (bAnd x4 1)), iV (x2 + (bAnd (bShr x4 1) 1)), iV (x3 + (bShr x4 2))] m (fun r1 m1 => ((0 ≤ x4 ∧ x4 < 8 ∧ R32 (x4 + 1)) ∧ (Tj mX12_isCornerWell 3 [some (rV 145), some (iV x1), some (iV x2), some (iV x3), some (iV (x4 + 1))] [] (up m1 157 x4 r1) P)))))) ∧ (¬ x4 < 8 → (Cli mX12_areJoined [rV 145, iV 8] m (fun r2 m2 => (((r2 = 0 ∨ r2 = 1)) ∧ (P (some (iV r2)) m2)))))) : Tj mX12_isCornerWell 3 [some (rV 145), some (iV x1), some (iV x2), some (iV x3), some (iV x4)] [] m P := by
  refine Tj.iload dX12_isCornerWell_3 rfl rfl ?_
  refine Tj.bipush dX12_isCornerWell_5 (by decide) (by decide +kernel) rfl ?_
  refine Tj.icmp_ge dX12_isCornerWell_7 rfl rfl (fun c1 => ?_) (fun c1 => ?_)
  · have h := h.1 c1
    obtain ⟨⟨o1, o2, o3⟩, h⟩ := h
    refine Tj.aload_n dX12_isCornerWell_10 rfl rfl ?_
    refine Tj.getR (b := 157) dX12_isCornerWell_11 fl_X12_43 sh_145 rfl rfl ?_
    refine Tj.iload dX12_isCornerWell_14 rfl rfl ?_
    refine Tj.aload_n dX12_isCornerWell_16 rfl rfl ?_
    refine Tj.iload_n dX12_isCornerWell_17 rfl rfl ?_
    refine Tj.iload dX12_isCornerWell_18 rfl rfl ?_
    refine Tj.iconst dX12_isCornerWell_20 (by decide) rfl ?_
    refine Tj.iand dX12_isCornerWell_21 rfl ?_
    refine Tj.iadd dX12_isCornerWell_22 o1 rfl ?_
    refine Tj.iload_n dX12_isCornerWell_23 rfl rfl ?_
    refine Tj.iload dX12_isCornerWell_24 rfl rfl ?_
    refine Tj.iconst dX12_isCornerWell_26 (by decide) rfl ?_
    refine Tj.ishr dX12_isCornerWell_27 rfl ?_
    refine Tj.iconst dX12_isCornerWell_28 (by decide) rfl ?_
    refine Tj.iand dX12_isCornerWell_29 rfl ?_
    refine Tj.iadd dX12_isCornerWell_30 o2 rfl ?_
    refine Tj.iload_n dX12_isCornerWell_31 rfl rfl ?_
    refine Tj.iload dX12_isCornerWell_32 rfl rfl ?_
    refine Tj.iconst dX12_isCornerWell_34 (by decide) rfl ?_
    refine Tj.ishr dX12_isCornerWell_35 rfl ?_
    refine Tj.iadd dX12_isCornerWell_36 o3 rfl ?_
    refine Tj.callVi (as := [_, _, _]) (rest := [_, _]) dX12_isCornerWell_37 ln_X12_150 sh_145 (by decide) rfl rfl (Nat.le_of_ble_eq_true rfl) ⟨Nat.le_of_ble_eq_true rfl, Nat.le_of_ble_eq_true rfl⟩ (Nat.le_of_ble_eq_true rfl) rfl ?_
    refine Cli.mono h (fun r1 m1 h => ?_)
    obtain ⟨⟨o4, o5, o6⟩, h⟩ := h
    refine Tj.iast dX12_isCornerWell_40 sh_157 o4 o5 rfl ?_
    refine Tj.iinc dX12_isCornerWell_41 rfl (Nat.le_of_ble_eq_true rfl) rfl o6 rfl ?_
    refine Tj.goto dX12_isCornerWell_44 rfl ?_
    exact Tj.cut h ⟨rfl, ⟨rfl, ⟨rfl, ⟨rfl, ⟨rfl, trivial⟩⟩⟩⟩⟩
  · have h := h.2 c1
    refine Tj.aload_n dX12_isCornerWell_47 rfl rfl ?_
    refine Tj.bipush dX12_isCornerWell_48 (by decide) (by decide +kernel) rfl ?_
    refine Tj.callVi (as := [_]) (rest := []) dX12_isCornerWell_50 ln_X12_164 sh_145 (by decide) rfl rfl (Nat.le_of_ble_eq_true rfl) ⟨Nat.le_of_ble_eq_true rfl, Nat.le_of_ble_eq_true rfl⟩ (Nat.le_of_ble_eq_true rfl) rfl ?_
    refine Cli.mono h (fun r2 m2 h => ?_)
    obtain ⟨o7, h⟩ := h
    exact Tj.zret dX12_isCornerWell_53 rfl o7 h

theorem wX12_isEdgeWell_0 {m : tM} {P : Option tV → tM → Prop} {x1 : Int} {x2 : Int} {x3 : Int} {x4 : Int}  (h : Tj mX12_isEdgeWell 3 [some (rV 145), some (iV x1), some (iV x2), some (iV x3), some (iV x4), some (iV 0)] [] m P) : Tj mX12_isEdgeWell 0 [some (rV 145), some (iV x1), some (iV x2), some (iV x3), some (iV x4)] [] m P := by
  refine Tj.iconst dX12_isEdgeWell_0 (by decide) rfl ?_
  refine Tj.istore dX12_isEdgeWell_1 (Nat.le_of_ble_eq_true rfl) rfl rfl ?_
  exact Tj.cut h ⟨rfl, ⟨rfl, ⟨rfl, ⟨rfl, ⟨rfl, ⟨rfl, trivial⟩⟩⟩⟩⟩⟩

theorem wX12_isEdgeWell_3 {m : tM} {P : Option tV → tM → Prop} {x1 : Int} {x2 : Int} {x3 : Int} {x4 : Int} {x5 : Int}  (h : (x5 < 4 → ((x4 = 0 → ((R32 (x2 + (bAnd x5 1)) ∧ R32 (x3 + (bShr x5 1))) ∧ (Cli mX12_cubeAt [rV 145, iV x1, iV (x2 + (bAnd x5 1)), iV (x3 + (bShr x5 1))] m (fun r1 m1 => ((0 ≤ x5 ∧ x5 < 8 ∧ R32 (x5 + 1)) ∧ (Tj mX12_isEdgeWell 3 [some (rV 145), some (iV x1), some (iV x2), some (iV x3), some (iV x4), some (iV (x5 + 1))] [] (up m1 157 x5 r1) P)))))) ∧ (¬ x4 = 0 → ((x4 = 1 → ((R32 (x1 + (bAnd x5 1)) ∧ R32 (x3 + (bShr x5 1))) ∧ (Cli mX12_cubeAt [rV 145, iV (x1 + (bAnd x5 1)), iV x2, iV (x3 + (bShr x5 1))] m (fun r2 m2 => ((0 ≤ x5 ∧ x5 < 8 ∧ R32 (x5 + 1)) ∧ (Tj mX12_isEdgeWell 3 [some (rV 145), some (iV x1), some (iV x2), some (iV x3), some (iV x4), some (iV (x5 + 1))] [] (up m2 157 x5 r2) P)))))) ∧ (¬ x4 = 1 → ((R32 (x1 + (bAnd x5 1)) ∧ R32 (x2 + (bShr x5 1))) ∧ (Cli mX12_cubeAt [rV 145, iV (x1 + (bAnd x5 1)), iV (x2 + (bShr x5 1)), iV x3] m (fun r3 m3 => ((0 ≤ x5 ∧ x5 < 8 ∧ R32 (x5 + 1)) ∧ (Tj mX12_isEdgeWell 3 [some (rV 145), some (iV x1), some (iV x2), some (iV x3), some (iV x4), some (iV (x5 + 1))] [] (up m3 157 x5 r3) P)))))))))) ∧ (¬ x5 < 4 → (Cli mX12_areJoined [rV 145, iV 4] m (fun r4 m4 => (((r4 = 0 ∨ r4 = 1)) ∧ (P (some (iV r4)) m4)))))) : Tj mX12_isEdgeWell 3 [some (rV 145), some (iV x1), some (iV x2), some (iV x3), some (iV x4), some (iV x5)] [] m P := by
  refine Tj.iload dX12_isEdgeWell_3 rfl rfl ?_
  refine Tj.iconst dX12_isEdgeWell_5 (by decide) rfl ?_
  refine Tj.icmp_ge dX12_isEdgeWell_6 rfl rfl (fun c1 => ?_) (fun c1 => ?_)
  · have h := h.1 c1
    refine Tj.iload dX12_isEdgeWell_9 rfl rfl ?_
    refine Tj.iconst dX12_isEdgeWell_11 (by decide) rfl ?_
    refine Tj.iand dX12_isEdgeWell_12 rfl ?_
    refine Tj.istore dX12_isEdgeWell_13 (Nat.le_of_ble_eq_true rfl) rfl rfl ?_
    refine Tj.iload dX12_isEdgeWell_15 rfl rfl ?_
    refine Tj.iconst dX12_isEdgeWell_17 (by decide) rfl ?_
    refine Tj.ishr dX12_isEdgeWell_18 rfl ?_
    refine Tj.istore dX12_isEdgeWell_19 (Nat.le_of_ble_eq_true rfl) rfl rfl ?_
    refine Tj.aload_n dX12_isEdgeWell_21 rfl rfl ?_
    refine Tj.getR (b := 157) dX12_isEdgeWell_22 fl_X12_43 sh_145 rfl rfl ?_
    refine Tj.iload dX12_isEdgeWell_25 rfl rfl ?_
    refine Tj.iload dX12_isEdgeWell_27 rfl rfl ?_
    refine Tj.if_ne dX12_isEdgeWell_29 rfl rfl (fun c2 => ?_) (fun c2 => ?_)
    · have h := h.1 c2
      obtain ⟨⟨o1, o2⟩, h⟩ := h
      refine Tj.aload_n dX12_isEdgeWell_32 rfl rfl ?_
      refine Tj.iload_n dX12_isEdgeWell_33 rfl rfl ?_
      refine Tj.iload_n dX12_isEdgeWell_34 rfl rfl ?_
      refine Tj.iload dX12_isEdgeWell_35 rfl rfl ?_
      refine Tj.iadd dX12_isEdgeWell_37 o1 rfl ?_
      refine Tj.iload_n dX12_isEdgeWell_38 rfl rfl ?_
      refine Tj.iload dX12_isEdgeWell_39 rfl rfl ?_
      refine Tj.iadd dX12_isEdgeWell_41 o2 rfl ?_
      refine Tj.callVi (as := [_, _, _]) (rest := [_, _]) dX12_isEdgeWell_42 ln_X12_150 sh_145 (by decide) rfl rfl (Nat.le_of_ble_eq_true rfl) ⟨Nat.le_of_ble_eq_true rfl, Nat.le_of_ble_eq_true rfl⟩ (Nat.le_of_ble_eq_true rfl) rfl ?_
      refine Cli.mono h (fun r1 m1 h => ?_)
      obtain ⟨⟨o3, o4, o5⟩, h⟩ := h
      refine Tj.goto dX12_isEdgeWell_45 rfl ?_
      refine Tj.iast dX12_isEdgeWell_83 sh_157 o3 o4 rfl ?_
      refine Tj.iinc dX12_isEdgeWell_84 rfl (Nat.le_of_ble_eq_true rfl) rfl o5 rfl ?_
      refine Tj.goto dX12_isEdgeWell_87 rfl ?_
      exact Tj.cut h ⟨rfl, ⟨rfl, ⟨rfl, ⟨rfl, ⟨rfl, ⟨rfl, trivial⟩⟩⟩⟩⟩⟩
    · have h := h.2 c2
      refine Tj.iload dX12_isEdgeWell_48 rfl rfl ?_
      refine Tj.iconst dX12_isEdgeWell_50 (by decide) rfl ?_
      refine Tj.icmp_ne dX12_isEdgeWell_51 rfl rfl (fun c3 => ?_) (fun c3 => ?_)
      · have h := h.1 c3
        obtain ⟨⟨o6, o7⟩, h⟩ := h
        refine Tj.aload_n dX12_isEdgeWell_54 rfl rfl ?_
        refine Tj.iload_n dX12_isEdgeWell_55 rfl rfl ?_
        refine Tj.iload dX12_isEdgeWell_56 rfl rfl ?_
        refine Tj.iadd dX12_isEdgeWell_58 o6 rfl ?_
        refine Tj.iload_n dX12_isEdgeWell_59 rfl rfl ?_
        refine Tj.iload_n dX12_isEdgeWell_60 rfl rfl ?_
        refine Tj.iload dX12_isEdgeWell_61 rfl rfl ?_
        refine Tj.iadd dX12_isEdgeWell_63 o7 rfl ?_
        refine Tj.callVi (as := [_, _, _]) (rest := [_, _]) dX12_isEdgeWell_64 ln_X12_150 sh_145 (by decide) rfl rfl (Nat.le_of_ble_eq_true rfl) ⟨Nat.le_of_ble_eq_true rfl, Nat.le_of_ble_eq_true rfl⟩ (Nat.le_of_ble_eq_true rfl) rfl ?_
        refine Cli.mono h (fun r2 m2 h => ?_)
        obtain ⟨⟨o8, o9, o10⟩, h⟩ := h
        refine Tj.goto dX12_isEdgeWell_67 rfl ?_
        refine Tj.iast dX12_isEdgeWell_83 sh_157 o8 o9 rfl ?_
        refine Tj.iinc dX12_isEdgeWell_84 rfl (Nat.le_of_ble_eq_true rfl) rfl o10 rfl ?_
        refine Tj.goto dX12_isEdgeWell_87 rfl ?_
        exact Tj.cut h ⟨rfl, ⟨rfl, ⟨rfl, ⟨rfl, ⟨rfl, ⟨rfl, trivial⟩⟩⟩⟩⟩⟩
      · have h := h.2 c3
        obtain ⟨⟨o11, o12⟩, h⟩ := h
        refine Tj.aload_n dX12_isEdgeWell_70 rfl rfl ?_
        refine Tj.iload_n dX12_isEdgeWell_71 rfl rfl ?_
        refine Tj.iload dX12_isEdgeWell_72 rfl rfl ?_
        refine Tj.iadd dX12_isEdgeWell_74 o11 rfl ?_
        refine Tj.iload_n dX12_isEdgeWell_75 rfl rfl ?_
        refine Tj.iload dX12_isEdgeWell_76 rfl rfl ?_
        refine Tj.iadd dX12_isEdgeWell_78 o12 rfl ?_
        refine Tj.iload_n dX12_isEdgeWell_79 rfl rfl ?_
        refine Tj.callVi (as := [_, _, _]) (rest := [_, _]) dX12_isEdgeWell_80 ln_X12_150 sh_145 (by decide) rfl rfl (Nat.le_of_ble_eq_true rfl) ⟨Nat.le_of_ble_eq_true rfl, Nat.le_of_ble_eq_true rfl⟩ (Nat.le_of_ble_eq_true rfl) rfl ?_
        refine Cli.mono h (fun r3 m3 h => ?_)
        obtain ⟨⟨o13, o14, o15⟩, h⟩ := h
        refine Tj.iast dX12_isEdgeWell_83 sh_157 o13 o14 rfl ?_
        refine Tj.iinc dX12_isEdgeWell_84 rfl (Nat.le_of_ble_eq_true rfl) rfl o15 rfl ?_
        refine Tj.goto dX12_isEdgeWell_87 rfl ?_
        exact Tj.cut h ⟨rfl, ⟨rfl, ⟨rfl, ⟨rfl, ⟨rfl, ⟨rfl, trivial⟩⟩⟩⟩⟩⟩
  · have h := h.2 c1
    refine Tj.aload_n dX12_isEdgeWell_90 rfl rfl ?_
    refine Tj.iconst dX12_isEdgeWell_91 (by decide) rfl ?_
    refine Tj.callVi (as := [_]) (rest := []) dX12_isEdgeWell_92 ln_X12_164 sh_145 (by decide) rfl rfl (Nat.le_of_ble_eq_true rfl) ⟨Nat.le_of_ble_eq_true rfl, Nat.le_of_ble_eq_true rfl⟩ (Nat.le_of_ble_eq_true rfl) rfl ?_
    refine Cli.mono h (fun r4 m4 h => ?_)
    obtain ⟨o16, h⟩ := h
    exact Tj.zret dX12_isEdgeWell_95 rfl o16 h

theorem wX12_isJoinedWell_0 {m : tM} {P : Option tV → tM → Prop}   (h : Tj mX12_isJoinedWell 4 [some (rV 145), some (iV 1), some (iV (-1))] [] m P) : Tj mX12_isJoinedWell 0 [some (rV 145)] [] m P := by
  refine Tj.iconst dX12_isJoinedWell_0 (by decide) rfl ?_
  refine Tj.istore_n dX12_isJoinedWell_1 (Nat.le_of_ble_eq_true rfl) rfl rfl ?_
  refine Tj.iconst dX12_isJoinedWell_2 (by decide) rfl ?_
  refine Tj.istore_n dX12_isJoinedWell_3 (Nat.le_of_ble_eq_true rfl) rfl rfl ?_
  exact Tj.cut h ⟨rfl, ⟨rfl, ⟨rfl, trivial⟩⟩⟩

theorem wX12_isJoinedWell_4 {m : tM} {P : Option tV → tM → Prop} {x1 : Int} {x2 : Int}  (h : (x2 < 4 → (Tj mX12_isJoinedWell 11 [some (rV 145), some (iV x1), some (iV x2), some (iV (-1))] [] m P)) ∧ (¬ x2 < 4 → (((x1 = 0 ∨ x1 = 1)) ∧ (P (some (iV x1)) m)))) : Tj mX12_isJoinedWell 4 [some (rV 145), some (iV x1), some (iV x2)] [] m P := by
  refine Tj.iload_n dX12_isJoinedWell_4 rfl rfl ?_
  refine Tj.iconst dX12_isJoinedWell_5 (by decide) rfl ?_
  refine Tj.icmp_ge dX12_isJoinedWell_6 rfl rfl (fun c1 => ?_) (fun c1 => ?_)
  · have h := h.1 c1
    refine Tj.iconst dX12_isJoinedWell_9 (by decide) rfl ?_
    refine Tj.istore_n dX12_isJoinedWell_10 (Nat.le_of_ble_eq_true rfl) rfl rfl ?_
    exact Tj.cut h ⟨rfl, ⟨rfl, ⟨rfl, ⟨rfl, trivial⟩⟩⟩⟩
  · have h := h.2 c1
    obtain ⟨o1, h⟩ := h
    refine Tj.iload_n dX12_isJoinedWell_100 rfl rfl ?_
    exact Tj.zret dX12_isJoinedWell_101 rfl o1 h

theorem wX12_isJoinedWell_11 {m : tM} {P : Option tV → tM → Prop} {x1 : Int} {x2 : Int} {x3 : Int}  (h : (x3 < 4 → (Tj mX12_isJoinedWell 19 [some (rV 145), some (iV x1), some (iV x2), some (iV x3), some (iV (-1))] [] m P)) ∧ (¬ x3 < 4 → ((R32 (x2 + 1)) ∧ (Tj mX12_isJoinedWell 4 [some (rV 145), some (iV x1), some (iV (x2 + 1))] [] m P)))) : Tj mX12_isJoinedWell 11 [some (rV 145), some (iV x1), some (iV x2), some (iV x3)] [] m P := by
  refine Tj.iload_n dX12_isJoinedWell_11 rfl rfl ?_
  refine Tj.iconst dX12_isJoinedWell_12 (by decide) rfl ?_
  refine Tj.icmp_ge dX12_isJoinedWell_13 rfl rfl (fun c1 => ?_) (fun c1 => ?_)
  · have h := h.1 c1
    refine Tj.iconst dX12_isJoinedWell_16 (by decide) rfl ?_
    refine Tj.istore dX12_isJoinedWell_17 (Nat.le_of_ble_eq_true rfl) rfl rfl ?_
    exact Tj.cut h ⟨rfl, ⟨rfl, ⟨rfl, ⟨rfl, ⟨rfl, trivial⟩⟩⟩⟩⟩
  · have h := h.2 c1
    obtain ⟨o1, h⟩ := h
    refine Tj.iinc dX12_isJoinedWell_94 rfl (Nat.le_of_ble_eq_true rfl) rfl o1 rfl ?_
    refine Tj.goto dX12_isJoinedWell_97 rfl ?_
    exact Tj.cut h ⟨rfl, ⟨rfl, ⟨rfl, trivial⟩⟩⟩

theorem wX12_isJoinedWell_19 {m : tM} {P : Option tV → tM → Prop} {x1 : Int} {x2 : Int} {x3 : Int} {x4 : Int}  (h : (x4 < 4 → ((x1 = 0 → ((R32 (x4 + 1)) ∧ (Tj mX12_isJoinedWell 19 [some (rV 145), some (iV 0), some (iV x2), some (iV x3), some (iV (x4 + 1))] [] m P))) ∧ (¬ x1 = 0 → (Cli mX12_isCornerWell [rV 145, iV x2, iV x3, iV x4] m (fun r1 m1 => ((r1 = 0 → ((R32 (x4 + 1)) ∧ (Tj mX12_isJoinedWell 19 [some (rV 145), some (iV 0), some (iV x2), some (iV x3), some (iV (x4 + 1))] [] m1 P))) ∧ (¬ r1 = 0 → (Cli mX12_isEdgeWell [rV 145, iV x2, iV x3, iV x4, iV 0] m1 (fun r2 m2 => ((r2 = 0 → ((R32 (x4 + 1)) ∧ (Tj mX12_isJoinedWell 19 [some (rV 145), some (iV 0), some (iV x2), some (iV x3), some (iV (x4 + 1))] [] m2 P))) ∧ (¬ r2 = 0 → (Cli mX12_isEdgeWell [rV 145, iV x2, iV x3, iV x4, iV 1] m2 (fun r3 m3 => ((r3 = 0 → ((R32 (x4 + 1)) ∧ (Tj mX12_isJoinedWell 19 [some (rV 145), some (iV 0), some (iV x2), some (iV x3), some (iV (x4 + 1))] [] m3 P))) ∧ (¬ r3 = 0 → (Cli mX12_isEdgeWell [rV 145, iV x2, iV x3, iV x4, iV 2] m3 (fun r4 m4 => (∀ v1 : Int, v1 = (if r4 = 0 then 0 else 1) → ((R32 (x4 + 1)) ∧ (Tj mX12_isJoinedWell 19 [some (rV 145), some (iV v1), some (iV x2), some (iV x3), some (iV (x4 + 1))] [] m4 P)))))))))))))))))))) ∧ (¬ x4 < 4 → ((R32 (x3 + 1)) ∧ (Tj mX12_isJoinedWell 11 [some (rV 145), some (iV x1), some (iV x2), some (iV (x3 + 1))] [] m P)))) : Tj mX12_isJoinedWell 19 [some (rV 145), some (iV x1), some (iV x2), some (iV x3), some (iV x4)] [] m P := by
  refine Tj.iload dX12_isJoinedWell_19 rfl rfl ?_
  refine Tj.iconst dX12_isJoinedWell_21 (by decide) rfl ?_
  refine Tj.icmp_ge dX12_isJoinedWell_22 rfl rfl (fun c1 => ?_) (fun c1 => ?_)
  · have h := h.1 c1
    refine Tj.iload_n dX12_isJoinedWell_25 rfl rfl ?_
    refine Tj.if_eq dX12_isJoinedWell_26 rfl rfl (fun c2 => ?_) (fun c2 => ?_)
    · have h := h.1 c2
      obtain ⟨o1, h⟩ := h
      refine Tj.iconst dX12_isJoinedWell_80 (by decide) rfl ?_
      refine Tj.istore_n dX12_isJoinedWell_81 (Nat.le_of_ble_eq_true rfl) rfl rfl ?_
      refine Tj.iinc dX12_isJoinedWell_82 rfl (Nat.le_of_ble_eq_true rfl) rfl o1 rfl ?_
      refine Tj.goto dX12_isJoinedWell_85 rfl ?_
      exact Tj.cut h ⟨rfl, ⟨rfl, ⟨rfl, ⟨rfl, ⟨rfl, trivial⟩⟩⟩⟩⟩
    · have h := h.2 c2
      refine Tj.aload_n dX12_isJoinedWell_29 rfl rfl ?_
      refine Tj.iload_n dX12_isJoinedWell_30 rfl rfl ?_
      refine Tj.iload_n dX12_isJoinedWell_31 rfl rfl ?_
      refine Tj.iload dX12_isJoinedWell_32 rfl rfl ?_
      refine Tj.callVi (as := [_, _, _]) (rest := []) dX12_isJoinedWell_34 ln_X12_168 sh_145 (by decide) rfl rfl (Nat.le_of_ble_eq_true rfl) ⟨Nat.le_of_ble_eq_true rfl, Nat.le_of_ble_eq_true rfl⟩ (Nat.le_of_ble_eq_true rfl) rfl ?_
      refine Cli.mono h (fun r1 m1 h => ?_)
      refine Tj.if_eq dX12_isJoinedWell_37 rfl rfl (fun c3 => ?_) (fun c3 => ?_)
      · have h := h.1 c3
        obtain ⟨o2, h⟩ := h
        refine Tj.iconst dX12_isJoinedWell_80 (by decide) rfl ?_
        refine Tj.istore_n dX12_isJoinedWell_81 (Nat.le_of_ble_eq_true rfl) rfl rfl ?_
        refine Tj.iinc dX12_isJoinedWell_82 rfl (Nat.le_of_ble_eq_true rfl) rfl o2 rfl ?_
        refine Tj.goto dX12_isJoinedWell_85 rfl ?_
        exact Tj.cut h ⟨rfl, ⟨rfl, ⟨rfl, ⟨rfl, ⟨rfl, trivial⟩⟩⟩⟩⟩
      · have h := h.2 c3
        refine Tj.aload_n dX12_isJoinedWell_40 rfl rfl ?_
        refine Tj.iload_n dX12_isJoinedWell_41 rfl rfl ?_
        refine Tj.iload_n dX12_isJoinedWell_42 rfl rfl ?_
        refine Tj.iload dX12_isJoinedWell_43 rfl rfl ?_
        refine Tj.iconst dX12_isJoinedWell_45 (by decide) rfl ?_
        refine Tj.callVi (as := [_, _, _, _]) (rest := []) dX12_isJoinedWell_46 ln_X12_171 sh_145 (by decide) rfl rfl (Nat.le_of_ble_eq_true rfl) ⟨Nat.le_of_ble_eq_true rfl, Nat.le_of_ble_eq_true rfl⟩ (Nat.le_of_ble_eq_true rfl) rfl ?_
        refine Cli.mono h (fun r2 m2 h => ?_)
        refine Tj.if_eq dX12_isJoinedWell_49 rfl rfl (fun c4 => ?_) (fun c4 => ?_)
        · have h := h.1 c4
          obtain ⟨o3, h⟩ := h
          refine Tj.iconst dX12_isJoinedWell_80 (by decide) rfl ?_
          refine Tj.istore_n dX12_isJoinedWell_81 (Nat.le_of_ble_eq_true rfl) rfl rfl ?_
          refine Tj.iinc dX12_isJoinedWell_82 rfl (Nat.le_of_ble_eq_true rfl) rfl o3 rfl ?_
          refine Tj.goto dX12_isJoinedWell_85 rfl ?_
          exact Tj.cut h ⟨rfl, ⟨rfl, ⟨rfl, ⟨rfl, ⟨rfl, trivial⟩⟩⟩⟩⟩
        · have h := h.2 c4
          refine Tj.aload_n dX12_isJoinedWell_52 rfl rfl ?_
          refine Tj.iload_n dX12_isJoinedWell_53 rfl rfl ?_
          refine Tj.iload_n dX12_isJoinedWell_54 rfl rfl ?_
          refine Tj.iload dX12_isJoinedWell_55 rfl rfl ?_
          refine Tj.iconst dX12_isJoinedWell_57 (by decide) rfl ?_
          refine Tj.callVi (as := [_, _, _, _]) (rest := []) dX12_isJoinedWell_58 ln_X12_171 sh_145 (by decide) rfl rfl (Nat.le_of_ble_eq_true rfl) ⟨Nat.le_of_ble_eq_true rfl, Nat.le_of_ble_eq_true rfl⟩ (Nat.le_of_ble_eq_true rfl) rfl ?_
          refine Cli.mono h (fun r3 m3 h => ?_)
          refine Tj.if_eq dX12_isJoinedWell_61 rfl rfl (fun c5 => ?_) (fun c5 => ?_)
          · have h := h.1 c5
            obtain ⟨o4, h⟩ := h
            refine Tj.iconst dX12_isJoinedWell_80 (by decide) rfl ?_
            refine Tj.istore_n dX12_isJoinedWell_81 (Nat.le_of_ble_eq_true rfl) rfl rfl ?_
            refine Tj.iinc dX12_isJoinedWell_82 rfl (Nat.le_of_ble_eq_true rfl) rfl o4 rfl ?_
            refine Tj.goto dX12_isJoinedWell_85 rfl ?_
            exact Tj.cut h ⟨rfl, ⟨rfl, ⟨rfl, ⟨rfl, ⟨rfl, trivial⟩⟩⟩⟩⟩
          · have h := h.2 c5
            refine Tj.aload_n dX12_isJoinedWell_64 rfl rfl ?_
            refine Tj.iload_n dX12_isJoinedWell_65 rfl rfl ?_
            refine Tj.iload_n dX12_isJoinedWell_66 rfl rfl ?_
            refine Tj.iload dX12_isJoinedWell_67 rfl rfl ?_
            refine Tj.iconst dX12_isJoinedWell_69 (by decide) rfl ?_
            refine Tj.callVi (as := [_, _, _, _]) (rest := []) dX12_isJoinedWell_70 ln_X12_171 sh_145 (by decide) rfl rfl (Nat.le_of_ble_eq_true rfl) ⟨Nat.le_of_ble_eq_true rfl, Nat.le_of_ble_eq_true rfl⟩ (Nat.le_of_ble_eq_true rfl) rfl ?_
            refine Cli.mono h (fun r4 m4 h => ?_)
            have hj : Tj mX12_isJoinedWell 81 [some (rV 145), none, some (iV x2), some (iV x3), some (iV x4)] [iV (if r4 = 0 then 0 else 1)] m4 P := by
              generalize hv1 : ((if r4 = 0 then 0 else 1) : Int) = v1
              have h := h v1 hv1.symm
              obtain ⟨o5, h⟩ := h
              refine Tj.istore_n dX12_isJoinedWell_81 (Nat.le_of_ble_eq_true rfl) rfl rfl ?_
              refine Tj.iinc dX12_isJoinedWell_82 rfl (Nat.le_of_ble_eq_true rfl) rfl o5 rfl ?_
              refine Tj.goto dX12_isJoinedWell_85 rfl ?_
              exact Tj.cut h ⟨rfl, ⟨rfl, ⟨rfl, ⟨rfl, ⟨rfl, trivial⟩⟩⟩⟩⟩
            refine Tj.if_eq dX12_isJoinedWell_73 rfl rfl (fun c6 => ?_) (fun c6 => ?_)
            · refine Tj.iconst dX12_isJoinedWell_80 (by decide) rfl ?_
              try simp only [if_pos c6] at hj ⊢
              exact Tj.cut hj ⟨rfl, ⟨rfl, ⟨rfl, ⟨rfl, trivial⟩⟩⟩⟩
            · refine Tj.iconst dX12_isJoinedWell_76 (by decide) rfl ?_
              refine Tj.goto dX12_isJoinedWell_77 rfl ?_
              try simp only [if_neg c6] at hj ⊢
              exact Tj.cut hj ⟨rfl, ⟨rfl, ⟨rfl, ⟨rfl, trivial⟩⟩⟩⟩
  · have h := h.2 c1
    obtain ⟨o6, h⟩ := h
    refine Tj.iinc dX12_isJoinedWell_88 rfl (Nat.le_of_ble_eq_true rfl) rfl o6 rfl ?_
    refine Tj.goto dX12_isJoinedWell_91 rfl ?_
    exact Tj.cut h ⟨rfl, ⟨rfl, ⟨rfl, ⟨rfl, trivial⟩⟩⟩⟩

theorem wX12_wellOf_0 {m : tM} {P : Option tV → tM → Prop}   (h : Tj mX12_wellOf 4 [some (rV 145), some (iV 0), some (iV 0)] [] m P) : Tj mX12_wellOf 0 [some (rV 145)] [] m P := by
  refine Tj.iconst dX12_wellOf_0 (by decide) rfl ?_
  refine Tj.istore_n dX12_wellOf_1 (Nat.le_of_ble_eq_true rfl) rfl rfl ?_
  refine Tj.iconst dX12_wellOf_2 (by decide) rfl ?_
  refine Tj.istore_n dX12_wellOf_3 (Nat.le_of_ble_eq_true rfl) rfl rfl ?_
  exact Tj.cut h ⟨rfl, ⟨rfl, ⟨rfl, trivial⟩⟩⟩

theorem wX12_wellOf_4 {m : tM} {P : Option tV → tM → Prop} {x1 : Int} {x2 : Int}  (h : (x2 < 64 → ((0 ≤ x2 ∧ x2 < 64 ∧ R32 (x1 + (m 147 x2)) ∧ R32 (x2 + 1)) ∧ (Tj mX12_wellOf 4 [some (rV 145), some (iV (x1 + (m 147 x2))), some (iV (x2 + 1))] [] m P))) ∧ (¬ x2 < 64 → ((x1 = 0 → (P (some (iV 1)) m)) ∧ (¬ x1 = 0 → (Cli mX12_hang [rV 145, iV 1] m (fun r1 m1 => ((r1 = 0 → (P (some (iV 2)) m1)) ∧ (¬ r1 = 0 → (Cli mX12_isJoinedWell [rV 145] m1 (fun r2 m2 => ((r2 = 0 → (P (some (iV 3)) m2)) ∧ (¬ r2 = 0 → (Cli mX12_hang [rV 145, iV 0] m2 (fun r3 m3 => (∀ v1 : Int, v1 = (if r3 = 0 then 4 else 0) → (P (some (iV v1)) m3)))))))))))))))) : Tj mX12_wellOf 4 [some (rV 145), some (iV x1), some (iV x2)] [] m P := by
  refine Tj.iload_n dX12_wellOf_4 rfl rfl ?_
  refine Tj.bipush dX12_wellOf_5 (by decide) (by decide +kernel) rfl ?_
  refine Tj.icmp_ge dX12_wellOf_7 rfl rfl (fun c1 => ?_) (fun c1 => ?_)
  · have h := h.1 c1
    obtain ⟨⟨o1, o2, o3, o4⟩, h⟩ := h
    refine Tj.iload_n dX12_wellOf_10 rfl rfl ?_
    refine Tj.aload_n dX12_wellOf_11 rfl rfl ?_
    refine Tj.getR (b := 147) dX12_wellOf_12 fl_X12_13 sh_145 rfl rfl ?_
    refine Tj.iload_n dX12_wellOf_15 rfl rfl ?_
    refine Tj.iald dX12_wellOf_16 sh_147 o1 o2 rfl ?_
    refine Tj.iadd dX12_wellOf_17 o3 rfl ?_
    refine Tj.istore_n dX12_wellOf_18 (Nat.le_of_ble_eq_true rfl) rfl rfl ?_
    refine Tj.iinc dX12_wellOf_19 rfl (Nat.le_of_ble_eq_true rfl) rfl o4 rfl ?_
    refine Tj.goto dX12_wellOf_22 rfl ?_
    exact Tj.cut h ⟨rfl, ⟨rfl, ⟨rfl, trivial⟩⟩⟩
  · have h := h.2 c1
    refine Tj.iload_n dX12_wellOf_25 rfl rfl ?_
    refine Tj.if_ne dX12_wellOf_26 rfl rfl (fun c2 => ?_) (fun c2 => ?_)
    · have h := h.1 c2
      refine Tj.iconst dX12_wellOf_29 (by decide) rfl ?_
      refine Tj.goto dX12_wellOf_30 rfl ?_
      exact Tj.iret dX12_wellOf_69 rfl h
    · have h := h.2 c2
      refine Tj.aload_n dX12_wellOf_33 rfl rfl ?_
      refine Tj.iconst dX12_wellOf_34 (by decide) rfl ?_
      refine Tj.callVi (as := [_]) (rest := []) dX12_wellOf_35 ln_X12_175 sh_145 (by decide) rfl rfl (Nat.le_of_ble_eq_true rfl) ⟨Nat.le_of_ble_eq_true rfl, Nat.le_of_ble_eq_true rfl⟩ (Nat.le_of_ble_eq_true rfl) rfl ?_
      refine Cli.mono h (fun r1 m1 h => ?_)
      refine Tj.if_ne dX12_wellOf_38 rfl rfl (fun c3 => ?_) (fun c3 => ?_)
      · have h := h.1 c3
        refine Tj.iconst dX12_wellOf_41 (by decide) rfl ?_
        refine Tj.goto dX12_wellOf_42 rfl ?_
        exact Tj.iret dX12_wellOf_69 rfl h
      · have h := h.2 c3
        refine Tj.aload_n dX12_wellOf_45 rfl rfl ?_
        refine Tj.callVi (as := []) (rest := []) dX12_wellOf_46 ln_X12_178 sh_145 (by decide) rfl rfl (Nat.le_of_ble_eq_true rfl) ⟨Nat.le_of_ble_eq_true rfl, Nat.le_of_ble_eq_true rfl⟩ (Nat.le_of_ble_eq_true rfl) rfl ?_
        refine Cli.mono h (fun r2 m2 h => ?_)
        refine Tj.if_ne dX12_wellOf_49 rfl rfl (fun c4 => ?_) (fun c4 => ?_)
        · have h := h.1 c4
          refine Tj.iconst dX12_wellOf_52 (by decide) rfl ?_
          refine Tj.goto dX12_wellOf_53 rfl ?_
          exact Tj.iret dX12_wellOf_69 rfl h
        · have h := h.2 c4
          refine Tj.aload_n dX12_wellOf_56 rfl rfl ?_
          refine Tj.iconst dX12_wellOf_57 (by decide) rfl ?_
          refine Tj.callVi (as := [_]) (rest := []) dX12_wellOf_58 ln_X12_175 sh_145 (by decide) rfl rfl (Nat.le_of_ble_eq_true rfl) ⟨Nat.le_of_ble_eq_true rfl, Nat.le_of_ble_eq_true rfl⟩ (Nat.le_of_ble_eq_true rfl) rfl ?_
          refine Cli.mono h (fun r3 m3 h => ?_)
          have hj : Tj mX12_wellOf 69 [] [iV (if r3 = 0 then 4 else 0)] m3 P := by
            generalize hv1 : ((if r3 = 0 then 4 else 0) : Int) = v1
            have h := h v1 hv1.symm
            exact Tj.iret dX12_wellOf_69 rfl h
          refine Tj.if_ne dX12_wellOf_61 rfl rfl (fun c5 => ?_) (fun c5 => ?_)
          · refine Tj.iconst dX12_wellOf_64 (by decide) rfl ?_
            refine Tj.goto dX12_wellOf_65 rfl ?_
            try simp only [if_pos c5] at hj ⊢
            exact Tj.cut hj trivial
          · refine Tj.iconst dX12_wellOf_68 (by decide) rfl ?_
            try simp only [if_neg c5] at hj ⊢
            exact Tj.cut hj trivial

theorem wX12_well_0 {m : tM} {P : Option tV → tM → Prop}   (h : Cli mX12_wellOf [rV 145] (up m 145 0 0) (fun r1 m1 => (P (some (iV r1)) m1))) : Tj mX12_well 0 [some (rV 145)] [] m P := by
  refine Tj.aload_n dX12_well_0 rfl rfl ?_
  refine Tj.iconst dX12_well_1 (by decide) rfl ?_
  refine Tj.pI (j := 0) dX12_well_2 fp_X12_113 sh_145 rfl rfl ?_
  refine Tj.aload_n dX12_well_5 rfl rfl ?_
  refine Tj.callVi (as := []) (rest := []) dX12_well_6 ln_X12_182 sh_145 (by decide) rfl rfl (Nat.le_of_ble_eq_true rfl) ⟨Nat.le_of_ble_eq_true rfl, Nat.le_of_ble_eq_true rfl⟩ (Nat.le_of_ble_eq_true rfl) rfl ?_
  refine Cli.mono h (fun r1 m1 h => ?_)
  exact Tj.iret dX12_well_9 rfl h

theorem wX12_xOf_0 {m : tM} {P : Option tV → tM → Prop} {x0 : Int}  (h : (0 ≤ x0) ∧ (P (some (iV (x0 % 4))) m)) : Tj mX12_xOf 0 [some (iV x0)] [] m P := by
  obtain ⟨o1, h⟩ := h
  refine Tj.iload_n dX12_xOf_0 rfl rfl ?_
  refine Tj.iconst dX12_xOf_1 (by decide) rfl ?_
  refine Tj.irem dX12_xOf_2 o1 (by decide) rfl ?_
  exact Tj.iret dX12_xOf_3 rfl h

theorem wX12_yOf_0 {m : tM} {P : Option tV → tM → Prop} {x0 : Int}  (h : (0 ≤ x0 ∧ 0 ≤ (x0 / 4)) ∧ (P (some (iV ((x0 / 4) % 4))) m)) : Tj mX12_yOf 0 [some (iV x0)] [] m P := by
  obtain ⟨⟨o1, o2⟩, h⟩ := h
  refine Tj.iload_n dX12_yOf_0 rfl rfl ?_
  refine Tj.iconst dX12_yOf_1 (by decide) rfl ?_
  refine Tj.idiv dX12_yOf_2 o1 (by decide) rfl ?_
  refine Tj.iconst dX12_yOf_3 (by decide) rfl ?_
  refine Tj.irem dX12_yOf_4 o2 (by decide) rfl ?_
  exact Tj.iret dX12_yOf_5 rfl h

theorem wX12_zOf_0 {m : tM} {P : Option tV → tM → Prop} {x0 : Int}  (h : (0 ≤ x0) ∧ (P (some (iV (x0 / 16))) m)) : Tj mX12_zOf 0 [some (iV x0)] [] m P := by
  obtain ⟨o1, h⟩ := h
  refine Tj.iload_n dX12_zOf_0 rfl rfl ?_
  refine Tj.bipush dX12_zOf_1 (by decide) (by decide +kernel) rfl ?_
  refine Tj.idiv dX12_zOf_3 o1 (by decide) rfl ?_
  exact Tj.iret dX12_zOf_4 rfl h

theorem wX12_isCube_0 {m : tM} {P : Option tV → tM → Prop} {x1 : Int} {x2 : Int} {x3 : Int}  (h : Cli mX12_xOf [iV x1] m (fun r1 m1 => (Cli mX12_alongOf [iV x2, iV 0] m1 (fun r2 m2 => ((R32 (r1 + r2)) ∧ ((x3 = (-1) → ((R32 ((r1 + r2) + 0)) ∧ (Cli mX12_yOf [iV x1] m2 (fun r3 m3 => (Cli mX12_alongOf [iV x2, iV 1] m3 (fun r4 m4 => ((R32 (r3 + r4) ∧ R32 ((r3 + r4) + 0)) ∧ (Cli mX12_zOf [iV x1] m4 (fun r5 m5 => (Cli mX12_alongOf [iV x2, iV 2] m5 (fun r6 m6 => ((R32 (r5 + r6) ∧ R32 ((r5 + r6) + 0)) ∧ (Cli mX12_cubeAt [rV 145, iV ((r1 + r2) + 0), iV ((r3 + r4) + 0), iV ((r5 + r6) + 0)] m6 (fun r7 m7 => (∀ v1 : Int, v1 = (if r7 = 1 then 1 else 0) → (P (some (iV v1)) m7)))))))))))))))) ∧ (¬ x3 = (-1) → (Cli mX12_alongOf [iV x3, iV 0] m2 (fun r8 m8 => ((R32 ((r1 + r2) + r8)) ∧ (Cli mX12_yOf [iV x1] m8 (fun r9 m9 => (Cli mX12_alongOf [iV x2, iV 1] m9 (fun r10 m10 => ((R32 (r9 + r10)) ∧ (Cli mX12_alongOf [iV x3, iV 1] m10 (fun r11 m11 => ((R32 ((r9 + r10) + r11)) ∧ (Cli mX12_zOf [iV x1] m11 (fun r12 m12 => (Cli mX12_alongOf [iV x2, iV 2] m12 (fun r13 m13 => ((R32 (r12 + r13)) ∧ (Cli mX12_alongOf [iV x3, iV 2] m13 (fun r14 m14 => ((R32 ((r12 + r13) + r14)) ∧ (Cli mX12_cubeAt [rV 145, iV ((r1 + r2) + r8), iV ((r9 + r10) + r11), iV ((r12 + r13) + r14)] m14 (fun r15 m15 => (∀ v2 : Int, v2 = (if r15 = 1 then 1 else 0) → (P (some (iV v2)) m15)))))))))))))))))))))))))))))) : Tj mX12_isCube 0 [some (rV 145), some (iV x1), some (iV x2), some (iV x3)] [] m P := by
  refine Tj.iload_n dX12_isCube_0 rfl rfl ?_
  refine Tj.callSi (as := [_]) (rest := []) dX12_isCube_1 ln_X12_186 rfl rfl (Nat.le_of_ble_eq_true rfl) ⟨Nat.le_of_ble_eq_true rfl, Nat.le_of_ble_eq_true rfl⟩ (Nat.le_of_ble_eq_true rfl) rfl ?_
  refine Cli.mono h (fun r1 m1 h => ?_)
  refine Tj.iload_n dX12_isCube_4 rfl rfl ?_
  refine Tj.iconst dX12_isCube_5 (by decide) rfl ?_
  refine Tj.callSi (as := [_, _]) (rest := [_]) dX12_isCube_6 ln_X12_154 rfl rfl (Nat.le_of_ble_eq_true rfl) ⟨Nat.le_of_ble_eq_true rfl, Nat.le_of_ble_eq_true rfl⟩ (Nat.le_of_ble_eq_true rfl) rfl ?_
  refine Cli.mono h (fun r2 m2 h => ?_)
  obtain ⟨o1, h⟩ := h
  refine Tj.iadd dX12_isCube_9 o1 rfl ?_
  refine Tj.iload_n dX12_isCube_10 rfl rfl ?_
  refine Tj.iconst dX12_isCube_11 (by decide) rfl ?_
  refine Tj.icmp_ne dX12_isCube_12 rfl rfl (fun c1 => ?_) (fun c1 => ?_)
  · have h := h.1 c1
    obtain ⟨o2, h⟩ := h
    refine Tj.iconst dX12_isCube_15 (by decide) rfl ?_
    refine Tj.goto dX12_isCube_16 rfl ?_
    refine Tj.iadd dX12_isCube_24 o2 rfl ?_
    refine Tj.istore dX12_isCube_25 (Nat.le_of_ble_eq_true rfl) rfl rfl ?_
    refine Tj.iload_n dX12_isCube_27 rfl rfl ?_
    refine Tj.callSi (as := [_]) (rest := []) dX12_isCube_28 ln_X12_189 rfl rfl (Nat.le_of_ble_eq_true rfl) ⟨Nat.le_of_ble_eq_true rfl, Nat.le_of_ble_eq_true rfl⟩ (Nat.le_of_ble_eq_true rfl) rfl ?_
    refine Cli.mono h (fun r3 m3 h => ?_)
    refine Tj.iload_n dX12_isCube_31 rfl rfl ?_
    refine Tj.iconst dX12_isCube_32 (by decide) rfl ?_
    refine Tj.callSi (as := [_, _]) (rest := [_]) dX12_isCube_33 ln_X12_154 rfl rfl (Nat.le_of_ble_eq_true rfl) ⟨Nat.le_of_ble_eq_true rfl, Nat.le_of_ble_eq_true rfl⟩ (Nat.le_of_ble_eq_true rfl) rfl ?_
    refine Cli.mono h (fun r4 m4 h => ?_)
    obtain ⟨⟨o3, o4⟩, h⟩ := h
    refine Tj.iadd dX12_isCube_36 o3 rfl ?_
    refine Tj.iload_n dX12_isCube_37 rfl rfl ?_
    refine Tj.iconst dX12_isCube_38 (by decide) rfl ?_
    refine Tj.icmp_ne dX12_isCube_39 rfl rfl (fun c2 => ?_) (fun c2 => ?_)
    case refine_2 => exact absurd c1 c2
    refine Tj.iconst dX12_isCube_42 (by decide) rfl ?_
    refine Tj.goto dX12_isCube_43 rfl ?_
    refine Tj.iadd dX12_isCube_51 o4 rfl ?_
    refine Tj.istore dX12_isCube_52 (Nat.le_of_ble_eq_true rfl) rfl rfl ?_
    refine Tj.iload_n dX12_isCube_54 rfl rfl ?_
    refine Tj.callSi (as := [_]) (rest := []) dX12_isCube_55 ln_X12_192 rfl rfl (Nat.le_of_ble_eq_true rfl) ⟨Nat.le_of_ble_eq_true rfl, Nat.le_of_ble_eq_true rfl⟩ (Nat.le_of_ble_eq_true rfl) rfl ?_
    refine Cli.mono h (fun r5 m5 h => ?_)
    refine Tj.iload_n dX12_isCube_58 rfl rfl ?_
    refine Tj.iconst dX12_isCube_59 (by decide) rfl ?_
    refine Tj.callSi (as := [_, _]) (rest := [_]) dX12_isCube_60 ln_X12_154 rfl rfl (Nat.le_of_ble_eq_true rfl) ⟨Nat.le_of_ble_eq_true rfl, Nat.le_of_ble_eq_true rfl⟩ (Nat.le_of_ble_eq_true rfl) rfl ?_
    refine Cli.mono h (fun r6 m6 h => ?_)
    obtain ⟨⟨o5, o6⟩, h⟩ := h
    refine Tj.iadd dX12_isCube_63 o5 rfl ?_
    refine Tj.iload_n dX12_isCube_64 rfl rfl ?_
    refine Tj.iconst dX12_isCube_65 (by decide) rfl ?_
    refine Tj.icmp_ne dX12_isCube_66 rfl rfl (fun c3 => ?_) (fun c3 => ?_)
    case refine_2 => exact absurd c1 c3
    refine Tj.iconst dX12_isCube_69 (by decide) rfl ?_
    refine Tj.goto dX12_isCube_70 rfl ?_
    refine Tj.iadd dX12_isCube_78 o6 rfl ?_
    refine Tj.istore dX12_isCube_79 (Nat.le_of_ble_eq_true rfl) rfl rfl ?_
    refine Tj.aload_n dX12_isCube_81 rfl rfl ?_
    refine Tj.iload dX12_isCube_82 rfl rfl ?_
    refine Tj.iload dX12_isCube_84 rfl rfl ?_
    refine Tj.iload dX12_isCube_86 rfl rfl ?_
    refine Tj.callVi (as := [_, _, _]) (rest := []) dX12_isCube_88 ln_X12_150 sh_145 (by decide) rfl rfl (Nat.le_of_ble_eq_true rfl) ⟨Nat.le_of_ble_eq_true rfl, Nat.le_of_ble_eq_true rfl⟩ (Nat.le_of_ble_eq_true rfl) rfl ?_
    refine Cli.mono h (fun r7 m7 h => ?_)
    refine Tj.iconst dX12_isCube_91 (by decide) rfl ?_
    have hj : Tj mX12_isCube 100 [] [iV (if r7 = 1 then 1 else 0)] m7 P := by
      generalize hv1 : ((if r7 = 1 then 1 else 0) : Int) = v1
      have h := h v1 hv1.symm
      exact Tj.zret dX12_isCube_100 rfl (by rw [← hv1]; (repeat' split) <;> simp) h
    refine Tj.icmp_ne dX12_isCube_92 rfl rfl (fun c4 => ?_) (fun c4 => ?_)
    · refine Tj.iconst dX12_isCube_95 (by decide) rfl ?_
      refine Tj.goto dX12_isCube_96 rfl ?_
      try simp only [if_pos c4] at hj ⊢
      exact Tj.cut hj trivial
    · refine Tj.iconst dX12_isCube_99 (by decide) rfl ?_
      try simp only [if_neg c4] at hj ⊢
      exact Tj.cut hj trivial
  · have h := h.2 c1
    refine Tj.iload_n dX12_isCube_19 rfl rfl ?_
    refine Tj.iconst dX12_isCube_20 (by decide) rfl ?_
    refine Tj.callSi (as := [_, _]) (rest := [_]) dX12_isCube_21 ln_X12_154 rfl rfl (Nat.le_of_ble_eq_true rfl) ⟨Nat.le_of_ble_eq_true rfl, Nat.le_of_ble_eq_true rfl⟩ (Nat.le_of_ble_eq_true rfl) rfl ?_
    refine Cli.mono h (fun r8 m8 h => ?_)
    obtain ⟨o7, h⟩ := h
    refine Tj.iadd dX12_isCube_24 o7 rfl ?_
    refine Tj.istore dX12_isCube_25 (Nat.le_of_ble_eq_true rfl) rfl rfl ?_
    refine Tj.iload_n dX12_isCube_27 rfl rfl ?_
    refine Tj.callSi (as := [_]) (rest := []) dX12_isCube_28 ln_X12_189 rfl rfl (Nat.le_of_ble_eq_true rfl) ⟨Nat.le_of_ble_eq_true rfl, Nat.le_of_ble_eq_true rfl⟩ (Nat.le_of_ble_eq_true rfl) rfl ?_
    refine Cli.mono h (fun r9 m9 h => ?_)
    refine Tj.iload_n dX12_isCube_31 rfl rfl ?_
    refine Tj.iconst dX12_isCube_32 (by decide) rfl ?_
    refine Tj.callSi (as := [_, _]) (rest := [_]) dX12_isCube_33 ln_X12_154 rfl rfl (Nat.le_of_ble_eq_true rfl) ⟨Nat.le_of_ble_eq_true rfl, Nat.le_of_ble_eq_true rfl⟩ (Nat.le_of_ble_eq_true rfl) rfl ?_
    refine Cli.mono h (fun r10 m10 h => ?_)
    obtain ⟨o8, h⟩ := h
    refine Tj.iadd dX12_isCube_36 o8 rfl ?_
    refine Tj.iload_n dX12_isCube_37 rfl rfl ?_
    refine Tj.iconst dX12_isCube_38 (by decide) rfl ?_
    refine Tj.icmp_ne dX12_isCube_39 rfl rfl (fun c5 => ?_) (fun c5 => ?_)
    case refine_1 => exact absurd c5 c1
    refine Tj.iload_n dX12_isCube_46 rfl rfl ?_
    refine Tj.iconst dX12_isCube_47 (by decide) rfl ?_
    refine Tj.callSi (as := [_, _]) (rest := [_]) dX12_isCube_48 ln_X12_154 rfl rfl (Nat.le_of_ble_eq_true rfl) ⟨Nat.le_of_ble_eq_true rfl, Nat.le_of_ble_eq_true rfl⟩ (Nat.le_of_ble_eq_true rfl) rfl ?_
    refine Cli.mono h (fun r11 m11 h => ?_)
    obtain ⟨o9, h⟩ := h
    refine Tj.iadd dX12_isCube_51 o9 rfl ?_
    refine Tj.istore dX12_isCube_52 (Nat.le_of_ble_eq_true rfl) rfl rfl ?_
    refine Tj.iload_n dX12_isCube_54 rfl rfl ?_
    refine Tj.callSi (as := [_]) (rest := []) dX12_isCube_55 ln_X12_192 rfl rfl (Nat.le_of_ble_eq_true rfl) ⟨Nat.le_of_ble_eq_true rfl, Nat.le_of_ble_eq_true rfl⟩ (Nat.le_of_ble_eq_true rfl) rfl ?_
    refine Cli.mono h (fun r12 m12 h => ?_)
    refine Tj.iload_n dX12_isCube_58 rfl rfl ?_
    refine Tj.iconst dX12_isCube_59 (by decide) rfl ?_
    refine Tj.callSi (as := [_, _]) (rest := [_]) dX12_isCube_60 ln_X12_154 rfl rfl (Nat.le_of_ble_eq_true rfl) ⟨Nat.le_of_ble_eq_true rfl, Nat.le_of_ble_eq_true rfl⟩ (Nat.le_of_ble_eq_true rfl) rfl ?_
    refine Cli.mono h (fun r13 m13 h => ?_)
    obtain ⟨o10, h⟩ := h
    refine Tj.iadd dX12_isCube_63 o10 rfl ?_
    refine Tj.iload_n dX12_isCube_64 rfl rfl ?_
    refine Tj.iconst dX12_isCube_65 (by decide) rfl ?_
    refine Tj.icmp_ne dX12_isCube_66 rfl rfl (fun c6 => ?_) (fun c6 => ?_)
    case refine_1 => exact absurd c6 c1
    refine Tj.iload_n dX12_isCube_73 rfl rfl ?_
    refine Tj.iconst dX12_isCube_74 (by decide) rfl ?_
    refine Tj.callSi (as := [_, _]) (rest := [_]) dX12_isCube_75 ln_X12_154 rfl rfl (Nat.le_of_ble_eq_true rfl) ⟨Nat.le_of_ble_eq_true rfl, Nat.le_of_ble_eq_true rfl⟩ (Nat.le_of_ble_eq_true rfl) rfl ?_
    refine Cli.mono h (fun r14 m14 h => ?_)
    obtain ⟨o11, h⟩ := h
    refine Tj.iadd dX12_isCube_78 o11 rfl ?_
    refine Tj.istore dX12_isCube_79 (Nat.le_of_ble_eq_true rfl) rfl rfl ?_
    refine Tj.aload_n dX12_isCube_81 rfl rfl ?_
    refine Tj.iload dX12_isCube_82 rfl rfl ?_
    refine Tj.iload dX12_isCube_84 rfl rfl ?_
    refine Tj.iload dX12_isCube_86 rfl rfl ?_
    refine Tj.callVi (as := [_, _, _]) (rest := []) dX12_isCube_88 ln_X12_150 sh_145 (by decide) rfl rfl (Nat.le_of_ble_eq_true rfl) ⟨Nat.le_of_ble_eq_true rfl, Nat.le_of_ble_eq_true rfl⟩ (Nat.le_of_ble_eq_true rfl) rfl ?_
    refine Cli.mono h (fun r15 m15 h => ?_)
    refine Tj.iconst dX12_isCube_91 (by decide) rfl ?_
    have hj : Tj mX12_isCube 100 [] [iV (if r15 = 1 then 1 else 0)] m15 P := by
      generalize hv2 : ((if r15 = 1 then 1 else 0) : Int) = v2
      have h := h v2 hv2.symm
      exact Tj.zret dX12_isCube_100 rfl (by rw [← hv2]; (repeat' split) <;> simp) h
    refine Tj.icmp_ne dX12_isCube_92 rfl rfl (fun c7 => ?_) (fun c7 => ?_)
    · refine Tj.iconst dX12_isCube_95 (by decide) rfl ?_
      refine Tj.goto dX12_isCube_96 rfl ?_
      try simp only [if_pos c7] at hj ⊢
      exact Tj.cut hj trivial
    · refine Tj.iconst dX12_isCube_99 (by decide) rfl ?_
      try simp only [if_neg c7] at hj ⊢
      exact Tj.cut hj trivial

theorem wX12_cubeBy_0 {m : tM} {P : Option tV → tM → Prop} {x0 : Int} {x1 : Int}  (h : Cli mX12_alongOf [iV x1, iV 0] m (fun r1 m1 => ((R32 (x0 + r1)) ∧ (Cli mX12_alongOf [iV x1, iV 1] m1 (fun r2 m2 => ((R32 (4 * r2) ∧ R32 ((x0 + r1) + (4 * r2))) ∧ (Cli mX12_alongOf [iV x1, iV 2] m2 (fun r3 m3 => ((R32 (16 * r3) ∧ R32 (((x0 + r1) + (4 * r2)) + (16 * r3))) ∧ (P (some (iV (((x0 + r1) + (4 * r2)) + (16 * r3)))) m3)))))))))) : Tj mX12_cubeBy 0 [some (iV x0), some (iV x1)] [] m P := by
  refine Tj.iload_n dX12_cubeBy_0 rfl rfl ?_
  refine Tj.iload_n dX12_cubeBy_1 rfl rfl ?_
  refine Tj.iconst dX12_cubeBy_2 (by decide) rfl ?_
  refine Tj.callSi (as := [_, _]) (rest := [_]) dX12_cubeBy_3 ln_X12_154 rfl rfl (Nat.le_of_ble_eq_true rfl) ⟨Nat.le_of_ble_eq_true rfl, Nat.le_of_ble_eq_true rfl⟩ (Nat.le_of_ble_eq_true rfl) rfl ?_
  refine Cli.mono h (fun r1 m1 h => ?_)
  obtain ⟨o1, h⟩ := h
  refine Tj.iadd dX12_cubeBy_6 o1 rfl ?_
  refine Tj.iconst dX12_cubeBy_7 (by decide) rfl ?_
  refine Tj.iload_n dX12_cubeBy_8 rfl rfl ?_
  refine Tj.iconst dX12_cubeBy_9 (by decide) rfl ?_
  refine Tj.callSi (as := [_, _]) (rest := [_, _]) dX12_cubeBy_10 ln_X12_154 rfl rfl (Nat.le_of_ble_eq_true rfl) ⟨Nat.le_of_ble_eq_true rfl, Nat.le_of_ble_eq_true rfl⟩ (Nat.le_of_ble_eq_true rfl) rfl ?_
  refine Cli.mono h (fun r2 m2 h => ?_)
  obtain ⟨⟨o2, o3⟩, h⟩ := h
  refine Tj.imul dX12_cubeBy_13 o2 rfl ?_
  refine Tj.iadd dX12_cubeBy_14 o3 rfl ?_
  refine Tj.bipush dX12_cubeBy_15 (by decide) (by decide +kernel) rfl ?_
  refine Tj.iload_n dX12_cubeBy_17 rfl rfl ?_
  refine Tj.iconst dX12_cubeBy_18 (by decide) rfl ?_
  refine Tj.callSi (as := [_, _]) (rest := [_, _]) dX12_cubeBy_19 ln_X12_154 rfl rfl (Nat.le_of_ble_eq_true rfl) ⟨Nat.le_of_ble_eq_true rfl, Nat.le_of_ble_eq_true rfl⟩ (Nat.le_of_ble_eq_true rfl) rfl ?_
  refine Cli.mono h (fun r3 m3 h => ?_)
  obtain ⟨⟨o4, o5⟩, h⟩ := h
  refine Tj.imul dX12_cubeBy_22 o4 rfl ?_
  refine Tj.iadd dX12_cubeBy_23 o5 rfl ?_
  exact Tj.iret dX12_cubeBy_24 rfl h

theorem wX12_findSkin_0 {m : tM} {P : Option tV → tM → Prop}   (h : Tj mX12_findSkin 7 [some (rV 145), some (iV 0)] [] (up m 145 17 0) P) : Tj mX12_findSkin 0 [some (rV 145)] [] m P := by
  refine Tj.aload_n dX12_findSkin_0 rfl rfl ?_
  refine Tj.iconst dX12_findSkin_1 (by decide) rfl ?_
  refine Tj.pI (j := 17) dX12_findSkin_2 fp_X12_195 sh_145 rfl rfl ?_
  refine Tj.iconst dX12_findSkin_5 (by decide) rfl ?_
  refine Tj.istore_n dX12_findSkin_6 (Nat.le_of_ble_eq_true rfl) rfl rfl ?_
  exact Tj.cut h ⟨rfl, ⟨rfl, trivial⟩⟩

theorem wX12_findSkin_7 {m : tM} {P : Option tV → tM → Prop} {x1 : Int}  (h : (x1 < 64 → (Tj mX12_findSkin 15 [some (rV 145), some (iV x1), some (iV 0)] [] m P)) ∧ (¬ x1 < 64 → (P none m))) : Tj mX12_findSkin 7 [some (rV 145), some (iV x1)] [] m P := by
  refine Tj.iload_n dX12_findSkin_7 rfl rfl ?_
  refine Tj.bipush dX12_findSkin_8 (by decide) (by decide +kernel) rfl ?_
  refine Tj.icmp_ge dX12_findSkin_10 rfl rfl (fun c1 => ?_) (fun c1 => ?_)
  · have h := h.1 c1
    refine Tj.iconst dX12_findSkin_13 (by decide) rfl ?_
    refine Tj.istore_n dX12_findSkin_14 (Nat.le_of_ble_eq_true rfl) rfl rfl ?_
    exact Tj.cut h ⟨rfl, ⟨rfl, ⟨rfl, trivial⟩⟩⟩
  · have h := h.2 c1
    exact Tj.vret dX12_findSkin_98 rfl h

theorem wX12_findSkin_15 {m : tM} {P : Option tV → tM → Prop} {x1 : Int} {x2 : Int}  (h : (x2 < 6 → ((0 ≤ x1 ∧ x1 < 64) ∧ (((m 147 x1) = 1 → (Cli mX12_isCube [rV 145, iV x1, iV x2, iV (-1)] m (fun r1 m1 => ((r1 = 0 → ((0 ≤ (m1 145 17) ∧ (m1 145 17) < 384 ∧ R32 (6 * x1) ∧ R32 ((6 * x1) + x2) ∧ 0 ≤ ((6 * x1) + x2) ∧ ((6 * x1) + x2) < 384 ∧ R32 ((m1 145 17) + 1) ∧ R32 (x2 + 1)) ∧ (Tj mX12_findSkin 15 [some (rV 145), some (iV x1), some (iV (x2 + 1))] [] (up (up (up (up m1 158 (m1 145 17) x1) 159 (m1 145 17) x2) 160 ((6 * x1) + x2) (m1 145 17)) 145 17 ((m1 145 17) + 1)) P))) ∧ (¬ r1 = 0 → ((R32 (x2 + 1)) ∧ (Tj mX12_findSkin 15 [some (rV 145), some (iV x1), some (iV (x2 + 1))] [] m1 P))))))) ∧ (¬ (m 147 x1) = 1 → ((R32 (x1 + 1)) ∧ (Tj mX12_findSkin 7 [some (rV 145), some (iV (x1 + 1))] [] m P)))))) ∧ (¬ x2 < 6 → ((R32 (x1 + 1)) ∧ (Tj mX12_findSkin 7 [some (rV 145), some (iV (x1 + 1))] [] m P)))) : Tj mX12_findSkin 15 [some (rV 145), some (iV x1), some (iV x2)] [] m P := by
  refine Tj.iload_n dX12_findSkin_15 rfl rfl ?_
  refine Tj.bipush dX12_findSkin_16 (by decide) (by decide +kernel) rfl ?_
  refine Tj.icmp_ge dX12_findSkin_18 rfl rfl (fun c1 => ?_) (fun c1 => ?_)
  · have h := h.1 c1
    obtain ⟨⟨o1, o2⟩, h⟩ := h
    refine Tj.aload_n dX12_findSkin_21 rfl rfl ?_
    refine Tj.getR (b := 147) dX12_findSkin_22 fl_X12_13 sh_145 rfl rfl ?_
    refine Tj.iload_n dX12_findSkin_25 rfl rfl ?_
    refine Tj.iald dX12_findSkin_26 sh_147 o1 o2 rfl ?_
    refine Tj.iconst dX12_findSkin_27 (by decide) rfl ?_
    refine Tj.icmp_ne dX12_findSkin_28 rfl rfl (fun c2 => ?_) (fun c2 => ?_)
    · have h := h.1 c2
      refine Tj.aload_n dX12_findSkin_31 rfl rfl ?_
      refine Tj.iload_n dX12_findSkin_32 rfl rfl ?_
      refine Tj.iload_n dX12_findSkin_33 rfl rfl ?_
      refine Tj.iconst dX12_findSkin_34 (by decide) rfl ?_
      refine Tj.callVi (as := [_, _, _]) (rest := []) dX12_findSkin_35 ln_X12_198 sh_145 (by decide) rfl rfl (Nat.le_of_ble_eq_true rfl) ⟨Nat.le_of_ble_eq_true rfl, Nat.le_of_ble_eq_true rfl⟩ (Nat.le_of_ble_eq_true rfl) rfl ?_
      refine Cli.mono h (fun r1 m1 h => ?_)
      refine Tj.if_ne dX12_findSkin_38 rfl rfl (fun c3 => ?_) (fun c3 => ?_)
      · have h := h.1 c3
        obtain ⟨⟨o3, o4, o5, o6, o7, o8, o9, o10⟩, h⟩ := h
        refine Tj.aload_n dX12_findSkin_41 rfl rfl ?_
        refine Tj.getR (b := 158) dX12_findSkin_42 fl_X12_46 sh_145 rfl rfl ?_
        refine Tj.aload_n dX12_findSkin_45 rfl rfl ?_
        refine Tj.gI (j := 17) dX12_findSkin_46 fl_X12_195 sh_145 rfl rfl ?_
        refine Tj.iload_n dX12_findSkin_49 rfl rfl ?_
        refine Tj.iast dX12_findSkin_50 sh_158 o3 o4 rfl ?_
        refine Tj.aload_n dX12_findSkin_51 rfl rfl ?_
        refine Tj.getR (b := 159) dX12_findSkin_52 fl_X12_49 sh_145 rfl rfl ?_
        refine Tj.aload_n dX12_findSkin_55 rfl rfl ?_
        refine Tj.gI (j := 17) dX12_findSkin_56 fl_X12_195 sh_145 rfl rfl ?_
        refine Tj.iload_n dX12_findSkin_59 rfl rfl ?_
        refine Tj.iast dX12_findSkin_60 sh_159 o3 o4 rfl ?_
        refine Tj.aload_n dX12_findSkin_61 rfl rfl ?_
        refine Tj.getR (b := 160) dX12_findSkin_62 fl_X12_52 sh_145 rfl rfl ?_
        refine Tj.bipush dX12_findSkin_65 (by decide) (by decide +kernel) rfl ?_
        refine Tj.iload_n dX12_findSkin_67 rfl rfl ?_
        refine Tj.imul dX12_findSkin_68 o5 rfl ?_
        refine Tj.iload_n dX12_findSkin_69 rfl rfl ?_
        refine Tj.iadd dX12_findSkin_70 o6 rfl ?_
        refine Tj.aload_n dX12_findSkin_71 rfl rfl ?_
        refine Tj.gI (j := 17) dX12_findSkin_72 fl_X12_195 sh_145 rfl rfl ?_
        refine Tj.iast dX12_findSkin_75 sh_160 o7 o8 rfl ?_
        refine Tj.aload_n dX12_findSkin_76 rfl rfl ?_
        refine Tj.dup dX12_findSkin_77 rfl rfl ?_
        refine Tj.gI (j := 17) dX12_findSkin_78 fl_X12_195 sh_145 rfl rfl ?_
        refine Tj.iconst dX12_findSkin_81 (by decide) rfl ?_
        refine Tj.iadd dX12_findSkin_82 o9 rfl ?_
        refine Tj.pI (j := 17) dX12_findSkin_83 fp_X12_195 sh_145 rfl rfl ?_
        refine Tj.iinc dX12_findSkin_86 rfl (Nat.le_of_ble_eq_true rfl) rfl o10 rfl ?_
        refine Tj.goto dX12_findSkin_89 rfl ?_
        exact Tj.cut h ⟨rfl, ⟨rfl, ⟨rfl, trivial⟩⟩⟩
      · have h := h.2 c3
        obtain ⟨o11, h⟩ := h
        refine Tj.iinc dX12_findSkin_86 rfl (Nat.le_of_ble_eq_true rfl) rfl o11 rfl ?_
        refine Tj.goto dX12_findSkin_89 rfl ?_
        exact Tj.cut h ⟨rfl, ⟨rfl, ⟨rfl, trivial⟩⟩⟩
    · have h := h.2 c2
      obtain ⟨o12, h⟩ := h
      refine Tj.iinc dX12_findSkin_92 rfl (Nat.le_of_ble_eq_true rfl) rfl o12 rfl ?_
      refine Tj.goto dX12_findSkin_95 rfl ?_
      exact Tj.cut h ⟨rfl, ⟨rfl, trivial⟩⟩
  · have h := h.2 c1
    obtain ⟨o13, h⟩ := h
    refine Tj.iinc dX12_findSkin_92 rfl (Nat.le_of_ble_eq_true rfl) rfl o13 rfl ?_
    refine Tj.goto dX12_findSkin_95 rfl ?_
    exact Tj.cut h ⟨rfl, ⟨rfl, trivial⟩⟩

theorem wX12_squareOf_0 {m : tM} {P : Option tV → tM → Prop} {x1 : Int} {x2 : Int}  (h : (R32 (6 * x1) ∧ R32 ((6 * x1) + x2) ∧ 0 ≤ ((6 * x1) + x2) ∧ ((6 * x1) + x2) < 384) ∧ (P (some (iV (m 160 ((6 * x1) + x2)))) m)) : Tj mX12_squareOf 0 [some (rV 145), some (iV x1), some (iV x2)] [] m P := by
  obtain ⟨⟨o1, o2, o3, o4⟩, h⟩ := h
  refine Tj.aload_n dX12_squareOf_0 rfl rfl ?_
  refine Tj.getR (b := 160) dX12_squareOf_1 fl_X12_52 sh_145 rfl rfl ?_
  refine Tj.bipush dX12_squareOf_4 (by decide) (by decide +kernel) rfl ?_
  refine Tj.iload_n dX12_squareOf_6 rfl rfl ?_
  refine Tj.imul dX12_squareOf_7 o1 rfl ?_
  refine Tj.iload_n dX12_squareOf_8 rfl rfl ?_
  refine Tj.iadd dX12_squareOf_9 o2 rfl ?_
  refine Tj.iald dX12_squareOf_10 sh_160 o3 o4 rfl ?_
  exact Tj.iret dX12_squareOf_11 rfl h

theorem wX12_looks_0 {m : tM} {P : Option tV → tM → Prop} {x0 : Int} {x1 : Int}  (h : (0 ≤ x0 ∧ R32 ((x0 / 2) + 1) ∧ 0 ≤ ((x0 / 2) + 1) ∧ R32 (2 * (((x0 / 2) + 1) % 3)) ∧ R32 ((x0 / 2) + 2) ∧ 0 ≤ ((x0 / 2) + 2) ∧ R32 (2 * (((x0 / 2) + 2) % 3))) ∧ (∀ v1 : Int, v1 = (if (x0 % 2) = 1 then 1 else 0) → ((x1 = 0 → (P (some (iV (2 * (((x0 / 2) + 1) % 3)))) m)) ∧ (¬ x1 = 0 → ((x1 = 2 → ((R32 ((2 * (((x0 / 2) + 1) % 3)) + 1)) ∧ (P (some (iV ((2 * (((x0 / 2) + 1) % 3)) + 1))) m))) ∧ (¬ x1 = 2 → (∀ v2 : Int, v2 = (if x1 = 1 then 1 else 0) → ((v2 = v1 → ((R32 ((2 * (((x0 / 2) + 2) % 3)) + 1)) ∧ (P (some (iV ((2 * (((x0 / 2) + 2) % 3)) + 1))) m))) ∧ (¬ v2 = v1 → (P (some (iV (2 * (((x0 / 2) + 2) % 3)))) m)))))))))) : Tj mX12_looks 0 [some (iV x0), some (iV x1)] [] m P := by
  obtain ⟨⟨o1, o2, o3, o4, o5, o6, o7⟩, h⟩ := h
  refine Tj.iconst dX12_looks_0 (by decide) rfl ?_
  refine Tj.iload_n dX12_looks_1 rfl rfl ?_
  refine Tj.iconst dX12_looks_2 (by decide) rfl ?_
  refine Tj.idiv dX12_looks_3 o1 (by decide) rfl ?_
  refine Tj.iconst dX12_looks_4 (by decide) rfl ?_
  refine Tj.iadd dX12_looks_5 o2 rfl ?_
  refine Tj.iconst dX12_looks_6 (by decide) rfl ?_
  refine Tj.irem dX12_looks_7 o3 (by decide) rfl ?_
  refine Tj.imul dX12_looks_8 o4 rfl ?_
  refine Tj.istore_n dX12_looks_9 (Nat.le_of_ble_eq_true rfl) rfl rfl ?_
  refine Tj.iconst dX12_looks_10 (by decide) rfl ?_
  refine Tj.iload_n dX12_looks_11 rfl rfl ?_
  refine Tj.iconst dX12_looks_12 (by decide) rfl ?_
  refine Tj.idiv dX12_looks_13 o1 (by decide) rfl ?_
  refine Tj.iconst dX12_looks_14 (by decide) rfl ?_
  refine Tj.iadd dX12_looks_15 o5 rfl ?_
  refine Tj.iconst dX12_looks_16 (by decide) rfl ?_
  refine Tj.irem dX12_looks_17 o6 (by decide) rfl ?_
  refine Tj.imul dX12_looks_18 o7 rfl ?_
  refine Tj.istore_n dX12_looks_19 (Nat.le_of_ble_eq_true rfl) rfl rfl ?_
  refine Tj.iload_n dX12_looks_20 rfl rfl ?_
  refine Tj.iconst dX12_looks_21 (by decide) rfl ?_
  refine Tj.irem dX12_looks_22 o1 (by decide) rfl ?_
  refine Tj.iconst dX12_looks_23 (by decide) rfl ?_
  have hj : Tj mX12_looks 32 [none, some (iV x1), some (iV (2 * (((x0 / 2) + 1) % 3))), some (iV (2 * (((x0 / 2) + 2) % 3)))] [iV (if (x0 % 2) = 1 then 1 else 0)] m P := by
    generalize hv1 : ((if (x0 % 2) = 1 then 1 else 0) : Int) = v1
    have h := h v1 hv1.symm
    refine Tj.istore dX12_looks_32 (Nat.le_of_ble_eq_true rfl) rfl rfl ?_
    refine Tj.iload_n dX12_looks_34 rfl rfl ?_
    refine Tj.if_ne dX12_looks_35 rfl rfl (fun c2 => ?_) (fun c2 => ?_)
    · have h := h.1 c2
      refine Tj.iload_n dX12_looks_38 rfl rfl ?_
      refine Tj.goto dX12_looks_39 rfl ?_
      exact Tj.iret dX12_looks_75 rfl h
    · have h := h.2 c2
      refine Tj.iload_n dX12_looks_42 rfl rfl ?_
      refine Tj.iconst dX12_looks_43 (by decide) rfl ?_
      refine Tj.icmp_ne dX12_looks_44 rfl rfl (fun c3 => ?_) (fun c3 => ?_)
      · have h := h.1 c3
        obtain ⟨o8, h⟩ := h
        refine Tj.iload_n dX12_looks_47 rfl rfl ?_
        refine Tj.iconst dX12_looks_48 (by decide) rfl ?_
        refine Tj.iadd dX12_looks_49 o8 rfl ?_
        refine Tj.goto dX12_looks_50 rfl ?_
        exact Tj.iret dX12_looks_75 rfl h
      · have h := h.2 c3
        refine Tj.iload_n dX12_looks_53 rfl rfl ?_
        refine Tj.iconst dX12_looks_54 (by decide) rfl ?_
        have hj : Tj mX12_looks 63 [none, none, none, some (iV (2 * (((x0 / 2) + 2) % 3))), some (iV v1)] [iV (if x1 = 1 then 1 else 0)] m P := by
          generalize hv2 : ((if x1 = 1 then 1 else 0) : Int) = v2
          have h := h v2 hv2.symm
          refine Tj.iload dX12_looks_63 rfl rfl ?_
          refine Tj.icmp_ne dX12_looks_65 rfl rfl (fun c5 => ?_) (fun c5 => ?_)
          · have h := h.1 c5
            obtain ⟨o9, h⟩ := h
            refine Tj.iload_n dX12_looks_68 rfl rfl ?_
            refine Tj.iconst dX12_looks_69 (by decide) rfl ?_
            refine Tj.iadd dX12_looks_70 o9 rfl ?_
            refine Tj.goto dX12_looks_71 rfl ?_
            exact Tj.iret dX12_looks_75 rfl h
          · have h := h.2 c5
            refine Tj.iload_n dX12_looks_74 rfl rfl ?_
            exact Tj.iret dX12_looks_75 rfl h
        refine Tj.icmp_ne dX12_looks_55 rfl rfl (fun c4 => ?_) (fun c4 => ?_)
        · refine Tj.iconst dX12_looks_58 (by decide) rfl ?_
          refine Tj.goto dX12_looks_59 rfl ?_
          try simp only [if_pos c4] at hj ⊢
          exact Tj.cut hj ⟨rfl, ⟨rfl, trivial⟩⟩
        · refine Tj.iconst dX12_looks_62 (by decide) rfl ?_
          try simp only [if_neg c4] at hj ⊢
          exact Tj.cut hj ⟨rfl, ⟨rfl, trivial⟩⟩
  refine Tj.icmp_ne dX12_looks_24 rfl rfl (fun c1 => ?_) (fun c1 => ?_)
  · refine Tj.iconst dX12_looks_27 (by decide) rfl ?_
    refine Tj.goto dX12_looks_28 rfl ?_
    try simp only [if_pos c1] at hj ⊢
    exact Tj.cut hj ⟨rfl, ⟨rfl, ⟨rfl, trivial⟩⟩⟩
  · refine Tj.iconst dX12_looks_31 (by decide) rfl ?_
    try simp only [if_neg c1] at hj ⊢
    exact Tj.cut hj ⟨rfl, ⟨rfl, ⟨rfl, trivial⟩⟩⟩

theorem wX12_edgeAt_0 {m : tM} {P : Option tV → tM → Prop} {x0 : Int} {x1 : Int} {x2 : Int} {x3 : Int}  (h : (x3 = 0 → (Cli mX12_xOf [iV x0] m (fun r1 m1 => ((R32 (2 * r1)) ∧ (Cli mX12_alongOf [iV x1, iV x3] m1 (fun r2 m2 => ((R32 ((2 * r1) + r2)) ∧ (Cli mX12_looks [iV x1, iV x2] m2 (fun r3 m3 => (Cli mX12_alongOf [iV r3, iV x3] m3 (fun r4 m4 => ((R32 (((2 * r1) + r2) + r4)) ∧ (P (some (iV (((2 * r1) + r2) + r4))) m4))))))))))))) ∧ (¬ x3 = 0 → ((x3 = 1 → (Cli mX12_yOf [iV x0] m (fun r5 m5 => ((R32 (2 * r5)) ∧ (Cli mX12_alongOf [iV x1, iV x3] m5 (fun r6 m6 => ((R32 ((2 * r5) + r6)) ∧ (Cli mX12_looks [iV x1, iV x2] m6 (fun r7 m7 => (Cli mX12_alongOf [iV r7, iV x3] m7 (fun r8 m8 => ((R32 (((2 * r5) + r6) + r8)) ∧ (P (some (iV (((2 * r5) + r6) + r8))) m8))))))))))))) ∧ (¬ x3 = 1 → (Cli mX12_zOf [iV x0] m (fun r9 m9 => ((R32 (2 * r9)) ∧ (Cli mX12_alongOf [iV x1, iV x3] m9 (fun r10 m10 => ((R32 ((2 * r9) + r10)) ∧ (Cli mX12_looks [iV x1, iV x2] m10 (fun r11 m11 => (Cli mX12_alongOf [iV r11, iV x3] m11 (fun r12 m12 => ((R32 (((2 * r9) + r10) + r12)) ∧ (P (some (iV (((2 * r9) + r10) + r12))) m12)))))))))))))))) : Tj mX12_edgeAt 0 [some (iV x0), some (iV x1), some (iV x2), some (iV x3)] [] m P := by
  refine Tj.iload_n dX12_edgeAt_0 rfl rfl ?_
  refine Tj.if_ne dX12_edgeAt_1 rfl rfl (fun c1 => ?_) (fun c1 => ?_)
  · have h := h.1 c1
    refine Tj.iload_n dX12_edgeAt_4 rfl rfl ?_
    refine Tj.callSi (as := [_]) (rest := []) dX12_edgeAt_5 ln_X12_186 rfl rfl (Nat.le_of_ble_eq_true rfl) ⟨Nat.le_of_ble_eq_true rfl, Nat.le_of_ble_eq_true rfl⟩ (Nat.le_of_ble_eq_true rfl) rfl ?_
    refine Cli.mono h (fun r1 m1 h => ?_)
    obtain ⟨o1, h⟩ := h
    refine Tj.goto dX12_edgeAt_8 rfl ?_
    refine Tj.istore dX12_edgeAt_27 (Nat.le_of_ble_eq_true rfl) rfl rfl ?_
    refine Tj.iconst dX12_edgeAt_29 (by decide) rfl ?_
    refine Tj.iload dX12_edgeAt_30 rfl rfl ?_
    refine Tj.imul dX12_edgeAt_32 o1 rfl ?_
    refine Tj.iload_n dX12_edgeAt_33 rfl rfl ?_
    refine Tj.iload_n dX12_edgeAt_34 rfl rfl ?_
    refine Tj.callSi (as := [_, _]) (rest := [_]) dX12_edgeAt_35 ln_X12_154 rfl rfl (Nat.le_of_ble_eq_true rfl) ⟨Nat.le_of_ble_eq_true rfl, Nat.le_of_ble_eq_true rfl⟩ (Nat.le_of_ble_eq_true rfl) rfl ?_
    refine Cli.mono h (fun r2 m2 h => ?_)
    obtain ⟨o2, h⟩ := h
    refine Tj.iadd dX12_edgeAt_38 o2 rfl ?_
    refine Tj.iload_n dX12_edgeAt_39 rfl rfl ?_
    refine Tj.iload_n dX12_edgeAt_40 rfl rfl ?_
    refine Tj.callSi (as := [_, _]) (rest := [_]) dX12_edgeAt_41 ln_X12_201 rfl rfl (Nat.le_of_ble_eq_true rfl) ⟨Nat.le_of_ble_eq_true rfl, Nat.le_of_ble_eq_true rfl⟩ (Nat.le_of_ble_eq_true rfl) rfl ?_
    refine Cli.mono h (fun r3 m3 h => ?_)
    refine Tj.iload_n dX12_edgeAt_44 rfl rfl ?_
    refine Tj.callSi (as := [_, _]) (rest := [_]) dX12_edgeAt_45 ln_X12_154 rfl rfl (Nat.le_of_ble_eq_true rfl) ⟨Nat.le_of_ble_eq_true rfl, Nat.le_of_ble_eq_true rfl⟩ (Nat.le_of_ble_eq_true rfl) rfl ?_
    refine Cli.mono h (fun r4 m4 h => ?_)
    obtain ⟨o3, h⟩ := h
    refine Tj.iadd dX12_edgeAt_48 o3 rfl ?_
    exact Tj.iret dX12_edgeAt_49 rfl h
  · have h := h.2 c1
    refine Tj.iload_n dX12_edgeAt_11 rfl rfl ?_
    refine Tj.iconst dX12_edgeAt_12 (by decide) rfl ?_
    refine Tj.icmp_ne dX12_edgeAt_13 rfl rfl (fun c2 => ?_) (fun c2 => ?_)
    · have h := h.1 c2
      refine Tj.iload_n dX12_edgeAt_16 rfl rfl ?_
      refine Tj.callSi (as := [_]) (rest := []) dX12_edgeAt_17 ln_X12_189 rfl rfl (Nat.le_of_ble_eq_true rfl) ⟨Nat.le_of_ble_eq_true rfl, Nat.le_of_ble_eq_true rfl⟩ (Nat.le_of_ble_eq_true rfl) rfl ?_
      refine Cli.mono h (fun r5 m5 h => ?_)
      obtain ⟨o4, h⟩ := h
      refine Tj.goto dX12_edgeAt_20 rfl ?_
      refine Tj.istore dX12_edgeAt_27 (Nat.le_of_ble_eq_true rfl) rfl rfl ?_
      refine Tj.iconst dX12_edgeAt_29 (by decide) rfl ?_
      refine Tj.iload dX12_edgeAt_30 rfl rfl ?_
      refine Tj.imul dX12_edgeAt_32 o4 rfl ?_
      refine Tj.iload_n dX12_edgeAt_33 rfl rfl ?_
      refine Tj.iload_n dX12_edgeAt_34 rfl rfl ?_
      refine Tj.callSi (as := [_, _]) (rest := [_]) dX12_edgeAt_35 ln_X12_154 rfl rfl (Nat.le_of_ble_eq_true rfl) ⟨Nat.le_of_ble_eq_true rfl, Nat.le_of_ble_eq_true rfl⟩ (Nat.le_of_ble_eq_true rfl) rfl ?_
      refine Cli.mono h (fun r6 m6 h => ?_)
      obtain ⟨o5, h⟩ := h
      refine Tj.iadd dX12_edgeAt_38 o5 rfl ?_
      refine Tj.iload_n dX12_edgeAt_39 rfl rfl ?_
      refine Tj.iload_n dX12_edgeAt_40 rfl rfl ?_
      refine Tj.callSi (as := [_, _]) (rest := [_]) dX12_edgeAt_41 ln_X12_201 rfl rfl (Nat.le_of_ble_eq_true rfl) ⟨Nat.le_of_ble_eq_true rfl, Nat.le_of_ble_eq_true rfl⟩ (Nat.le_of_ble_eq_true rfl) rfl ?_
      refine Cli.mono h (fun r7 m7 h => ?_)
      refine Tj.iload_n dX12_edgeAt_44 rfl rfl ?_
      refine Tj.callSi (as := [_, _]) (rest := [_]) dX12_edgeAt_45 ln_X12_154 rfl rfl (Nat.le_of_ble_eq_true rfl) ⟨Nat.le_of_ble_eq_true rfl, Nat.le_of_ble_eq_true rfl⟩ (Nat.le_of_ble_eq_true rfl) rfl ?_
      refine Cli.mono h (fun r8 m8 h => ?_)
      obtain ⟨o6, h⟩ := h
      refine Tj.iadd dX12_edgeAt_48 o6 rfl ?_
      exact Tj.iret dX12_edgeAt_49 rfl h
    · have h := h.2 c2
      refine Tj.iload_n dX12_edgeAt_23 rfl rfl ?_
      refine Tj.callSi (as := [_]) (rest := []) dX12_edgeAt_24 ln_X12_192 rfl rfl (Nat.le_of_ble_eq_true rfl) ⟨Nat.le_of_ble_eq_true rfl, Nat.le_of_ble_eq_true rfl⟩ (Nat.le_of_ble_eq_true rfl) rfl ?_
      refine Cli.mono h (fun r9 m9 h => ?_)
      obtain ⟨o7, h⟩ := h
      refine Tj.istore dX12_edgeAt_27 (Nat.le_of_ble_eq_true rfl) rfl rfl ?_
      refine Tj.iconst dX12_edgeAt_29 (by decide) rfl ?_
      refine Tj.iload dX12_edgeAt_30 rfl rfl ?_
      refine Tj.imul dX12_edgeAt_32 o7 rfl ?_
      refine Tj.iload_n dX12_edgeAt_33 rfl rfl ?_
      refine Tj.iload_n dX12_edgeAt_34 rfl rfl ?_
      refine Tj.callSi (as := [_, _]) (rest := [_]) dX12_edgeAt_35 ln_X12_154 rfl rfl (Nat.le_of_ble_eq_true rfl) ⟨Nat.le_of_ble_eq_true rfl, Nat.le_of_ble_eq_true rfl⟩ (Nat.le_of_ble_eq_true rfl) rfl ?_
      refine Cli.mono h (fun r10 m10 h => ?_)
      obtain ⟨o8, h⟩ := h
      refine Tj.iadd dX12_edgeAt_38 o8 rfl ?_
      refine Tj.iload_n dX12_edgeAt_39 rfl rfl ?_
      refine Tj.iload_n dX12_edgeAt_40 rfl rfl ?_
      refine Tj.callSi (as := [_, _]) (rest := [_]) dX12_edgeAt_41 ln_X12_201 rfl rfl (Nat.le_of_ble_eq_true rfl) ⟨Nat.le_of_ble_eq_true rfl, Nat.le_of_ble_eq_true rfl⟩ (Nat.le_of_ble_eq_true rfl) rfl ?_
      refine Cli.mono h (fun r11 m11 h => ?_)
      refine Tj.iload_n dX12_edgeAt_44 rfl rfl ?_
      refine Tj.callSi (as := [_, _]) (rest := [_]) dX12_edgeAt_45 ln_X12_154 rfl rfl (Nat.le_of_ble_eq_true rfl) ⟨Nat.le_of_ble_eq_true rfl, Nat.le_of_ble_eq_true rfl⟩ (Nat.le_of_ble_eq_true rfl) rfl ?_
      refine Cli.mono h (fun r12 m12 h => ?_)
      obtain ⟨o9, h⟩ := h
      refine Tj.iadd dX12_edgeAt_48 o9 rfl ?_
      exact Tj.iret dX12_edgeAt_49 rfl h

theorem wX12_findAcross_0 {m : tM} {P : Option tV → tM → Prop} {x1 : Int} {x2 : Int}  (h : (0 ≤ x1 ∧ x1 < 384) ∧ (Cli mX12_looks [iV (m 159 x1), iV x2] m (fun r1 m1 => (Cli mX12_isCube [rV 145, iV (m 158 x1), iV r1, iV (m 159 x1)] (up m1 145 23 1) (fun r2 m2 => ((r2 = 0 → (Cli mX12_isCube [rV 145, iV (m 158 x1), iV r1, iV (-1)] m2 (fun r3 m3 => ((r3 = 0 → (Cli mX12_squareOf [rV 145, iV (m 158 x1), iV r1] m3 (fun r4 m4 => (Tj mX12_findAcross 117 [some (rV 145), none, some (iV x2), some (iV (m 158 x1)), some (iV (m 159 x1)), none, some (iV (m 158 x1)), some (iV r1), some (iV 0)] [] (up m4 145 21 r4) P)))) ∧ (¬ r3 = 0 → (Cli mX12_cubeBy [iV (m 158 x1), iV r1] (up m3 145 23 0) (fun r5 m5 => (Cli mX12_squareOf [rV 145, iV r5, iV (m 159 x1)] m5 (fun r6 m6 => (Tj mX12_findAcross 117 [some (rV 145), none, some (iV x2), some (iV (m 158 x1)), some (iV (m 159 x1)), none, some (iV r5), some (iV (m 159 x1)), some (iV 0)] [] (up m6 145 21 r6) P)))))))))) ∧ (¬ r2 = 0 → (Cli mX12_cubeBy [iV (m 158 x1), iV r1] (up m2 145 23 (-1)) (fun r7 m7 => (Cli mX12_cubeBy [iV r7, iV (m 159 x1)] m7 (fun r8 m8 => (Cli mX12_squareOf [rV 145, iV r8, iV (bXor r1 1)] m8 (fun r9 m9 => (Tj mX12_findAcross 117 [some (rV 145), none, some (iV x2), some (iV (m 158 x1)), some (iV (m 159 x1)), none, some (iV r8), some (iV (bXor r1 1)), some (iV 0)] [] (up m9 145 21 r9) P)))))))))))))) : Tj mX12_findAcross 0 [some (rV 145), some (iV x1), some (iV x2)] [] m P := by
  obtain ⟨⟨o1, o2⟩, h⟩ := h
  refine Tj.aload_n dX12_findAcross_0 rfl rfl ?_
  refine Tj.getR (b := 158) dX12_findAcross_1 fl_X12_46 sh_145 rfl rfl ?_
  refine Tj.iload_n dX12_findAcross_4 rfl rfl ?_
  refine Tj.iald dX12_findAcross_5 sh_158 o1 o2 rfl ?_
  refine Tj.istore_n dX12_findAcross_6 (Nat.le_of_ble_eq_true rfl) rfl rfl ?_
  refine Tj.aload_n dX12_findAcross_7 rfl rfl ?_
  refine Tj.getR (b := 159) dX12_findAcross_8 fl_X12_49 sh_145 rfl rfl ?_
  refine Tj.iload_n dX12_findAcross_11 rfl rfl ?_
  refine Tj.iald dX12_findAcross_12 sh_159 o1 o2 rfl ?_
  refine Tj.istore dX12_findAcross_13 (Nat.le_of_ble_eq_true rfl) rfl rfl ?_
  refine Tj.iload dX12_findAcross_15 rfl rfl ?_
  refine Tj.iload_n dX12_findAcross_17 rfl rfl ?_
  refine Tj.callSi (as := [_, _]) (rest := []) dX12_findAcross_18 ln_X12_201 rfl rfl (Nat.le_of_ble_eq_true rfl) ⟨Nat.le_of_ble_eq_true rfl, Nat.le_of_ble_eq_true rfl⟩ (Nat.le_of_ble_eq_true rfl) rfl ?_
  refine Cli.mono h (fun r1 m1 h => ?_)
  refine Tj.istore dX12_findAcross_21 (Nat.le_of_ble_eq_true rfl) rfl rfl ?_
  refine Tj.iload_n dX12_findAcross_23 rfl rfl ?_
  refine Tj.istore dX12_findAcross_24 (Nat.le_of_ble_eq_true rfl) rfl rfl ?_
  refine Tj.iload dX12_findAcross_26 rfl rfl ?_
  refine Tj.istore dX12_findAcross_28 (Nat.le_of_ble_eq_true rfl) rfl rfl ?_
  refine Tj.aload_n dX12_findAcross_30 rfl rfl ?_
  refine Tj.iconst dX12_findAcross_31 (by decide) rfl ?_
  refine Tj.pI (j := 23) dX12_findAcross_32 fp_X12_204 sh_145 rfl rfl ?_
  refine Tj.aload_n dX12_findAcross_35 rfl rfl ?_
  refine Tj.iload_n dX12_findAcross_36 rfl rfl ?_
  refine Tj.iload dX12_findAcross_37 rfl rfl ?_
  refine Tj.iload dX12_findAcross_39 rfl rfl ?_
  refine Tj.callVi (as := [_, _, _]) (rest := []) dX12_findAcross_41 ln_X12_198 sh_145 (by decide) rfl rfl (Nat.le_of_ble_eq_true rfl) ⟨Nat.le_of_ble_eq_true rfl, Nat.le_of_ble_eq_true rfl⟩ (Nat.le_of_ble_eq_true rfl) rfl ?_
  refine Cli.mono h (fun r2 m2 h => ?_)
  refine Tj.if_eq dX12_findAcross_44 rfl rfl (fun c1 => ?_) (fun c1 => ?_)
  · have h := h.1 c1
    refine Tj.aload_n dX12_findAcross_74 rfl rfl ?_
    refine Tj.iload_n dX12_findAcross_75 rfl rfl ?_
    refine Tj.iload dX12_findAcross_76 rfl rfl ?_
    refine Tj.iconst dX12_findAcross_78 (by decide) rfl ?_
    refine Tj.callVi (as := [_, _, _]) (rest := []) dX12_findAcross_79 ln_X12_198 sh_145 (by decide) rfl rfl (Nat.le_of_ble_eq_true rfl) ⟨Nat.le_of_ble_eq_true rfl, Nat.le_of_ble_eq_true rfl⟩ (Nat.le_of_ble_eq_true rfl) rfl ?_
    refine Cli.mono h (fun r3 m3 h => ?_)
    refine Tj.if_eq dX12_findAcross_82 rfl rfl (fun c2 => ?_) (fun c2 => ?_)
    · have h := h.1 c2
      refine Tj.aload_n dX12_findAcross_102 rfl rfl ?_
      refine Tj.aload_n dX12_findAcross_103 rfl rfl ?_
      refine Tj.iload dX12_findAcross_104 rfl rfl ?_
      refine Tj.iload dX12_findAcross_106 rfl rfl ?_
      refine Tj.callVi (as := [_, _]) (rest := [_]) dX12_findAcross_108 ln_X12_210 sh_145 (by decide) rfl rfl (Nat.le_of_ble_eq_true rfl) ⟨Nat.le_of_ble_eq_true rfl, Nat.le_of_ble_eq_true rfl⟩ (Nat.le_of_ble_eq_true rfl) rfl ?_
      refine Cli.mono h (fun r4 m4 h => ?_)
      refine Tj.pI (j := 21) dX12_findAcross_111 fp_X12_213 sh_145 rfl rfl ?_
      refine Tj.iconst dX12_findAcross_114 (by decide) rfl ?_
      refine Tj.istore dX12_findAcross_115 (Nat.le_of_ble_eq_true rfl) rfl rfl ?_
      exact Tj.cut h ⟨rfl, ⟨rfl, ⟨rfl, ⟨rfl, ⟨rfl, ⟨rfl, ⟨rfl, trivial⟩⟩⟩⟩⟩⟩⟩
    · have h := h.2 c2
      refine Tj.aload_n dX12_findAcross_85 rfl rfl ?_
      refine Tj.iconst dX12_findAcross_86 (by decide) rfl ?_
      refine Tj.pI (j := 23) dX12_findAcross_87 fp_X12_204 sh_145 rfl rfl ?_
      refine Tj.iload_n dX12_findAcross_90 rfl rfl ?_
      refine Tj.iload dX12_findAcross_91 rfl rfl ?_
      refine Tj.callSi (as := [_, _]) (rest := []) dX12_findAcross_93 ln_X12_207 rfl rfl (Nat.le_of_ble_eq_true rfl) ⟨Nat.le_of_ble_eq_true rfl, Nat.le_of_ble_eq_true rfl⟩ (Nat.le_of_ble_eq_true rfl) rfl ?_
      refine Cli.mono h (fun r5 m5 h => ?_)
      refine Tj.istore dX12_findAcross_96 (Nat.le_of_ble_eq_true rfl) rfl rfl ?_
      refine Tj.iload dX12_findAcross_98 rfl rfl ?_
      refine Tj.istore dX12_findAcross_100 (Nat.le_of_ble_eq_true rfl) rfl rfl ?_
      refine Tj.aload_n dX12_findAcross_102 rfl rfl ?_
      refine Tj.aload_n dX12_findAcross_103 rfl rfl ?_
      refine Tj.iload dX12_findAcross_104 rfl rfl ?_
      refine Tj.iload dX12_findAcross_106 rfl rfl ?_
      refine Tj.callVi (as := [_, _]) (rest := [_]) dX12_findAcross_108 ln_X12_210 sh_145 (by decide) rfl rfl (Nat.le_of_ble_eq_true rfl) ⟨Nat.le_of_ble_eq_true rfl, Nat.le_of_ble_eq_true rfl⟩ (Nat.le_of_ble_eq_true rfl) rfl ?_
      refine Cli.mono h (fun r6 m6 h => ?_)
      refine Tj.pI (j := 21) dX12_findAcross_111 fp_X12_213 sh_145 rfl rfl ?_
      refine Tj.iconst dX12_findAcross_114 (by decide) rfl ?_
      refine Tj.istore dX12_findAcross_115 (Nat.le_of_ble_eq_true rfl) rfl rfl ?_
      exact Tj.cut h ⟨rfl, ⟨rfl, ⟨rfl, ⟨rfl, ⟨rfl, ⟨rfl, ⟨rfl, trivial⟩⟩⟩⟩⟩⟩⟩
  · have h := h.2 c1
    refine Tj.aload_n dX12_findAcross_47 rfl rfl ?_
    refine Tj.iconst dX12_findAcross_48 (by decide) rfl ?_
    refine Tj.pI (j := 23) dX12_findAcross_49 fp_X12_204 sh_145 rfl rfl ?_
    refine Tj.iload_n dX12_findAcross_52 rfl rfl ?_
    refine Tj.iload dX12_findAcross_53 rfl rfl ?_
    refine Tj.callSi (as := [_, _]) (rest := []) dX12_findAcross_55 ln_X12_207 rfl rfl (Nat.le_of_ble_eq_true rfl) ⟨Nat.le_of_ble_eq_true rfl, Nat.le_of_ble_eq_true rfl⟩ (Nat.le_of_ble_eq_true rfl) rfl ?_
    refine Cli.mono h (fun r7 m7 h => ?_)
    refine Tj.iload dX12_findAcross_58 rfl rfl ?_
    refine Tj.callSi (as := [_, _]) (rest := []) dX12_findAcross_60 ln_X12_207 rfl rfl (Nat.le_of_ble_eq_true rfl) ⟨Nat.le_of_ble_eq_true rfl, Nat.le_of_ble_eq_true rfl⟩ (Nat.le_of_ble_eq_true rfl) rfl ?_
    refine Cli.mono h (fun r8 m8 h => ?_)
    refine Tj.istore dX12_findAcross_63 (Nat.le_of_ble_eq_true rfl) rfl rfl ?_
    refine Tj.iload dX12_findAcross_65 rfl rfl ?_
    refine Tj.iconst dX12_findAcross_67 (by decide) rfl ?_
    refine Tj.ixor dX12_findAcross_68 rfl ?_
    refine Tj.istore dX12_findAcross_69 (Nat.le_of_ble_eq_true rfl) rfl rfl ?_
    refine Tj.goto dX12_findAcross_71 rfl ?_
    refine Tj.aload_n dX12_findAcross_102 rfl rfl ?_
    refine Tj.aload_n dX12_findAcross_103 rfl rfl ?_
    refine Tj.iload dX12_findAcross_104 rfl rfl ?_
    refine Tj.iload dX12_findAcross_106 rfl rfl ?_
    refine Tj.callVi (as := [_, _]) (rest := [_]) dX12_findAcross_108 ln_X12_210 sh_145 (by decide) rfl rfl (Nat.le_of_ble_eq_true rfl) ⟨Nat.le_of_ble_eq_true rfl, Nat.le_of_ble_eq_true rfl⟩ (Nat.le_of_ble_eq_true rfl) rfl ?_
    refine Cli.mono h (fun r9 m9 h => ?_)
    refine Tj.pI (j := 21) dX12_findAcross_111 fp_X12_213 sh_145 rfl rfl ?_
    refine Tj.iconst dX12_findAcross_114 (by decide) rfl ?_
    refine Tj.istore dX12_findAcross_115 (Nat.le_of_ble_eq_true rfl) rfl rfl ?_
    exact Tj.cut h ⟨rfl, ⟨rfl, ⟨rfl, ⟨rfl, ⟨rfl, ⟨rfl, ⟨rfl, trivial⟩⟩⟩⟩⟩⟩⟩

theorem wX12_findAcross_117 {m : tM} {P : Option tV → tM → Prop} {x2 : Int} {x3 : Int} {x4 : Int} {x6 : Int} {x7 : Int} {x8 : Int}  (h : (x8 < 4 → (Tj mX12_findAcross 129 [some (rV 145), none, some (iV x2), some (iV x3), some (iV x4), none, some (iV x6), some (iV x7), some (iV x8), some (iV 1), some (iV 0)] [] m P)) ∧ (¬ x8 < 4 → (P none m))) : Tj mX12_findAcross 117 [some (rV 145), none, some (iV x2), some (iV x3), some (iV x4), none, some (iV x6), some (iV x7), some (iV x8)] [] m P := by
  refine Tj.iload dX12_findAcross_117 rfl rfl ?_
  refine Tj.iconst dX12_findAcross_119 (by decide) rfl ?_
  refine Tj.icmp_ge dX12_findAcross_120 rfl rfl (fun c1 => ?_) (fun c1 => ?_)
  · have h := h.1 c1
    refine Tj.iconst dX12_findAcross_123 (by decide) rfl ?_
    refine Tj.istore dX12_findAcross_124 (Nat.le_of_ble_eq_true rfl) rfl rfl ?_
    refine Tj.iconst dX12_findAcross_126 (by decide) rfl ?_
    refine Tj.istore dX12_findAcross_127 (Nat.le_of_ble_eq_true rfl) rfl rfl ?_
    exact Tj.cut h ⟨rfl, ⟨rfl, ⟨rfl, ⟨rfl, ⟨rfl, ⟨rfl, ⟨rfl, ⟨rfl, ⟨rfl, trivial⟩⟩⟩⟩⟩⟩⟩⟩⟩
  · have h := h.2 c1
    exact Tj.vret dX12_findAcross_200 rfl h

theorem wX12_findAcross_129 {m : tM} {P : Option tV → tM → Prop} {x2 : Int} {x3 : Int} {x4 : Int} {x6 : Int} {x7 : Int} {x8 : Int} {x9 : Int} {x10 : Int}  (h : (x10 < 3 → ((x9 = 0 → ((R32 (x10 + 1)) ∧ (Tj mX12_findAcross 129 [some (rV 145), none, some (iV x2), some (iV x3), some (iV x4), none, some (iV x6), some (iV x7), some (iV x8), some (iV 0), some (iV (x10 + 1))] [] m P))) ∧ (¬ x9 = 0 → (Cli mX12_edgeAt [iV x6, iV x7, iV x8, iV x10] m (fun r1 m1 => (Cli mX12_edgeAt [iV x3, iV x4, iV x2, iV x10] m1 (fun r2 m2 => (∀ v1 : Int, v1 = (if r1 = r2 then 1 else 0) → ((R32 (x10 + 1)) ∧ (Tj mX12_findAcross 129 [some (rV 145), none, some (iV x2), some (iV x3), some (iV x4), none, some (iV x6), some (iV x7), some (iV x8), some (iV v1), some (iV (x10 + 1))] [] m2 P)))))))))) ∧ (¬ x10 < 3 → (∀ v2 : Int, v2 = (if x9 = 0 then (m 145 22) else x8) → ((R32 (x8 + 1)) ∧ (Tj mX12_findAcross 117 [some (rV 145), none, some (iV x2), some (iV x3), some (iV x4), none, some (iV x6), some (iV x7), some (iV (x8 + 1))] [] (up m 145 22 v2) P))))) : Tj mX12_findAcross 129 [some (rV 145), none, some (iV x2), some (iV x3), some (iV x4), none, some (iV x6), some (iV x7), some (iV x8), some (iV x9), some (iV x10)] [] m P := by
  refine Tj.iload dX12_findAcross_129 rfl rfl ?_
  refine Tj.iconst dX12_findAcross_131 (by decide) rfl ?_
  refine Tj.icmp_ge dX12_findAcross_132 rfl rfl (fun c1 => ?_) (fun c1 => ?_)
  · have h := h.1 c1
    refine Tj.iload dX12_findAcross_135 rfl rfl ?_
    refine Tj.if_eq dX12_findAcross_137 rfl rfl (fun c2 => ?_) (fun c2 => ?_)
    · have h := h.1 c2
      obtain ⟨o1, h⟩ := h
      refine Tj.iconst dX12_findAcross_167 (by decide) rfl ?_
      refine Tj.istore dX12_findAcross_168 (Nat.le_of_ble_eq_true rfl) rfl rfl ?_
      refine Tj.iinc dX12_findAcross_170 rfl (Nat.le_of_ble_eq_true rfl) rfl o1 rfl ?_
      refine Tj.goto dX12_findAcross_173 rfl ?_
      exact Tj.cut h ⟨rfl, ⟨rfl, ⟨rfl, ⟨rfl, ⟨rfl, ⟨rfl, ⟨rfl, ⟨rfl, ⟨rfl, trivial⟩⟩⟩⟩⟩⟩⟩⟩⟩
    · have h := h.2 c2
      refine Tj.iload dX12_findAcross_140 rfl rfl ?_
      refine Tj.iload dX12_findAcross_142 rfl rfl ?_
      refine Tj.iload dX12_findAcross_144 rfl rfl ?_
      refine Tj.iload dX12_findAcross_146 rfl rfl ?_
      refine Tj.callSi (as := [_, _, _, _]) (rest := []) dX12_findAcross_148 ln_X12_216 rfl rfl (Nat.le_of_ble_eq_true rfl) ⟨Nat.le_of_ble_eq_true rfl, Nat.le_of_ble_eq_true rfl⟩ (Nat.le_of_ble_eq_true rfl) rfl ?_
      refine Cli.mono h (fun r1 m1 h => ?_)
      refine Tj.iload_n dX12_findAcross_151 rfl rfl ?_
      refine Tj.iload dX12_findAcross_152 rfl rfl ?_
      refine Tj.iload_n dX12_findAcross_154 rfl rfl ?_
      refine Tj.iload dX12_findAcross_155 rfl rfl ?_
      refine Tj.callSi (as := [_, _, _, _]) (rest := [_]) dX12_findAcross_157 ln_X12_216 rfl rfl (Nat.le_of_ble_eq_true rfl) ⟨Nat.le_of_ble_eq_true rfl, Nat.le_of_ble_eq_true rfl⟩ (Nat.le_of_ble_eq_true rfl) rfl ?_
      refine Cli.mono h (fun r2 m2 h => ?_)
      have hj : Tj mX12_findAcross 168 [some (rV 145), none, some (iV x2), some (iV x3), some (iV x4), none, some (iV x6), some (iV x7), some (iV x8), none, some (iV x10)] [iV (if r1 = r2 then 1 else 0)] m2 P := by
        generalize hv1 : ((if r1 = r2 then 1 else 0) : Int) = v1
        have h := h v1 hv1.symm
        obtain ⟨o2, h⟩ := h
        refine Tj.istore dX12_findAcross_168 (Nat.le_of_ble_eq_true rfl) rfl rfl ?_
        refine Tj.iinc dX12_findAcross_170 rfl (Nat.le_of_ble_eq_true rfl) rfl o2 rfl ?_
        refine Tj.goto dX12_findAcross_173 rfl ?_
        exact Tj.cut h ⟨rfl, ⟨rfl, ⟨rfl, ⟨rfl, ⟨rfl, ⟨rfl, ⟨rfl, ⟨rfl, ⟨rfl, trivial⟩⟩⟩⟩⟩⟩⟩⟩⟩
      refine Tj.icmp_ne dX12_findAcross_160 rfl rfl (fun c3 => ?_) (fun c3 => ?_)
      · refine Tj.iconst dX12_findAcross_163 (by decide) rfl ?_
        refine Tj.goto dX12_findAcross_164 rfl ?_
        try simp only [if_pos c3] at hj ⊢
        exact Tj.cut hj ⟨rfl, ⟨rfl, ⟨rfl, ⟨rfl, ⟨rfl, ⟨rfl, ⟨rfl, ⟨rfl, trivial⟩⟩⟩⟩⟩⟩⟩⟩
      · refine Tj.iconst dX12_findAcross_167 (by decide) rfl ?_
        try simp only [if_neg c3] at hj ⊢
        exact Tj.cut hj ⟨rfl, ⟨rfl, ⟨rfl, ⟨rfl, ⟨rfl, ⟨rfl, ⟨rfl, ⟨rfl, trivial⟩⟩⟩⟩⟩⟩⟩⟩
  · have h := h.2 c1
    refine Tj.aload_n dX12_findAcross_176 rfl rfl ?_
    refine Tj.iload dX12_findAcross_177 rfl rfl ?_
    have hj : Tj mX12_findAcross 191 [some (rV 145), none, some (iV x2), some (iV x3), some (iV x4), none, some (iV x6), some (iV x7), some (iV x8)] [iV (if x9 = 0 then (m 145 22) else x8), rV 145] m P := by
      generalize hv2 : ((if x9 = 0 then (m 145 22) else x8) : Int) = v2
      have h := h v2 hv2.symm
      obtain ⟨o3, h⟩ := h
      refine Tj.pI (j := 22) dX12_findAcross_191 fp_X12_220 sh_145 rfl rfl ?_
      refine Tj.iinc dX12_findAcross_194 rfl (Nat.le_of_ble_eq_true rfl) rfl o3 rfl ?_
      refine Tj.goto dX12_findAcross_197 rfl ?_
      exact Tj.cut h ⟨rfl, ⟨rfl, ⟨rfl, ⟨rfl, ⟨rfl, ⟨rfl, ⟨rfl, trivial⟩⟩⟩⟩⟩⟩⟩
    refine Tj.if_eq dX12_findAcross_179 rfl rfl (fun c4 => ?_) (fun c4 => ?_)
    · refine Tj.aload_n dX12_findAcross_187 rfl rfl ?_
      refine Tj.gI (j := 22) dX12_findAcross_188 fl_X12_220 sh_145 rfl rfl ?_
      try simp only [if_pos c4] at hj ⊢
      exact Tj.cut hj ⟨rfl, ⟨rfl, ⟨rfl, ⟨rfl, ⟨rfl, ⟨rfl, ⟨rfl, trivial⟩⟩⟩⟩⟩⟩⟩
    · refine Tj.iload dX12_findAcross_182 rfl rfl ?_
      refine Tj.goto dX12_findAcross_184 rfl ?_
      try simp only [if_neg c4] at hj ⊢
      exact Tj.cut hj ⟨rfl, ⟨rfl, ⟨rfl, ⟨rfl, ⟨rfl, ⟨rfl, ⟨rfl, trivial⟩⟩⟩⟩⟩⟩⟩

theorem wX12_skin_0 {m : tM} {P : Option tV → tM → Prop}   (h : Clv mX12_findSkin [rV 145] (up m 145 0 0) (fun m1 => (P (some (iV (m1 145 17))) m1))) : Tj mX12_skin 0 [some (rV 145)] [] m P := by
  refine Tj.aload_n dX12_skin_0 rfl rfl ?_
  refine Tj.iconst dX12_skin_1 (by decide) rfl ?_
  refine Tj.pI (j := 0) dX12_skin_2 fp_X12_113 sh_145 rfl rfl ?_
  refine Tj.aload_n dX12_skin_5 rfl rfl ?_
  refine Tj.callVv (as := []) (rest := []) dX12_skin_6 ln_X12_223 sh_145 (by decide) rfl rfl (Nat.le_of_ble_eq_true rfl) ⟨Nat.le_of_ble_eq_true rfl, Nat.le_of_ble_eq_true rfl⟩ (Nat.le_of_ble_eq_true rfl) rfl ?_
  refine Clv.mono h (fun m1 h => ?_)
  refine Tj.aload_n dX12_skin_9 rfl rfl ?_
  refine Tj.gI (j := 17) dX12_skin_10 fl_X12_195 sh_145 rfl rfl ?_
  exact Tj.iret dX12_skin_13 rfl h

theorem wX12_square_0 {m : tM} {P : Option tV → tM → Prop} {x1 : Int} {x2 : Int}  (h : Clv mX12_findSkin [rV 145] (up m 145 0 0) (fun m1 => ((R32 ((m1 145 17) - 1)) ∧ (Cli mX12_in [iV x1, iV 0, iV ((m1 145 17) - 1)] m1 (fun r1 m2 => ((r1 = 0 → (P (some (iV (-3))) m2)) ∧ (¬ r1 = 0 → (Cli mX12_in [iV x2, iV 0, iV 3] m2 (fun r2 m3 => ((r2 = 0 → (P (some (iV (-3))) m3)) ∧ (¬ r2 = 0 → ((0 ≤ x1 ∧ x1 < 384) ∧ ((x2 = 0 → (Cli mX12_xOf [iV (m3 158 x1)] m3 (fun r3 m4 => (P (some (iV r3)) m4)))) ∧ (¬ x2 = 0 → ((x2 = 1 → (Cli mX12_yOf [iV (m3 158 x1)] m3 (fun r4 m5 => (P (some (iV r4)) m5)))) ∧ (¬ x2 = 1 → ((x2 = 2 → (Cli mX12_zOf [iV (m3 158 x1)] m3 (fun r5 m6 => (P (some (iV r5)) m6)))) ∧ (¬ x2 = 2 → (P (some (iV (m3 159 x1))) m3))))))))))))))))))) : Tj mX12_square 0 [some (rV 145), some (iV x1), some (iV x2)] [] m P := by
  refine Tj.aload_n dX12_square_0 rfl rfl ?_
  refine Tj.iconst dX12_square_1 (by decide) rfl ?_
  refine Tj.pI (j := 0) dX12_square_2 fp_X12_113 sh_145 rfl rfl ?_
  refine Tj.aload_n dX12_square_5 rfl rfl ?_
  refine Tj.callVv (as := []) (rest := []) dX12_square_6 ln_X12_223 sh_145 (by decide) rfl rfl (Nat.le_of_ble_eq_true rfl) ⟨Nat.le_of_ble_eq_true rfl, Nat.le_of_ble_eq_true rfl⟩ (Nat.le_of_ble_eq_true rfl) rfl ?_
  refine Clv.mono h (fun m1 h => ?_)
  obtain ⟨o1, h⟩ := h
  refine Tj.iload_n dX12_square_9 rfl rfl ?_
  refine Tj.iconst dX12_square_10 (by decide) rfl ?_
  refine Tj.aload_n dX12_square_11 rfl rfl ?_
  refine Tj.gI (j := 17) dX12_square_12 fl_X12_195 sh_145 rfl rfl ?_
  refine Tj.iconst dX12_square_15 (by decide) rfl ?_
  refine Tj.isub dX12_square_16 o1 rfl ?_
  refine Tj.callSi (as := [_, _, _]) (rest := []) dX12_square_17 ln_X12_139 rfl rfl (Nat.le_of_ble_eq_true rfl) ⟨Nat.le_of_ble_eq_true rfl, Nat.le_of_ble_eq_true rfl⟩ (Nat.le_of_ble_eq_true rfl) rfl ?_
  refine Cli.mono h (fun r1 m2 h => ?_)
  refine Tj.if_eq dX12_square_20 rfl rfl (fun c1 => ?_) (fun c1 => ?_)
  · have h := h.1 c1
    refine Tj.bipush dX12_square_32 (by decide) (by decide +kernel) rfl ?_
    exact Tj.iret dX12_square_34 rfl h
  · have h := h.2 c1
    refine Tj.iload_n dX12_square_23 rfl rfl ?_
    refine Tj.iconst dX12_square_24 (by decide) rfl ?_
    refine Tj.iconst dX12_square_25 (by decide) rfl ?_
    refine Tj.callSi (as := [_, _, _]) (rest := []) dX12_square_26 ln_X12_139 rfl rfl (Nat.le_of_ble_eq_true rfl) ⟨Nat.le_of_ble_eq_true rfl, Nat.le_of_ble_eq_true rfl⟩ (Nat.le_of_ble_eq_true rfl) rfl ?_
    refine Cli.mono h (fun r2 m3 h => ?_)
    refine Tj.if_ne dX12_square_29 rfl rfl (fun c2 => ?_) (fun c2 => ?_)
    · have h := h.1 c2
      refine Tj.bipush dX12_square_32 (by decide) (by decide +kernel) rfl ?_
      exact Tj.iret dX12_square_34 rfl h
    · have h := h.2 c2
      obtain ⟨⟨o2, o3⟩, h⟩ := h
      refine Tj.aload_n dX12_square_35 rfl rfl ?_
      refine Tj.getR (b := 158) dX12_square_36 fl_X12_46 sh_145 rfl rfl ?_
      refine Tj.iload_n dX12_square_39 rfl rfl ?_
      refine Tj.iald dX12_square_40 sh_158 o2 o3 rfl ?_
      refine Tj.istore_n dX12_square_41 (Nat.le_of_ble_eq_true rfl) rfl rfl ?_
      refine Tj.iload_n dX12_square_42 rfl rfl ?_
      refine Tj.if_ne dX12_square_43 rfl rfl (fun c3 => ?_) (fun c3 => ?_)
      · have h := h.1 c3
        refine Tj.iload_n dX12_square_46 rfl rfl ?_
        refine Tj.callSi (as := [_]) (rest := []) dX12_square_47 ln_X12_186 rfl rfl (Nat.le_of_ble_eq_true rfl) ⟨Nat.le_of_ble_eq_true rfl, Nat.le_of_ble_eq_true rfl⟩ (Nat.le_of_ble_eq_true rfl) rfl ?_
        refine Cli.mono h (fun r3 m4 h => ?_)
        refine Tj.goto dX12_square_50 rfl ?_
        exact Tj.iret dX12_square_83 rfl h
      · have h := h.2 c3
        refine Tj.iload_n dX12_square_53 rfl rfl ?_
        refine Tj.iconst dX12_square_54 (by decide) rfl ?_
        refine Tj.icmp_ne dX12_square_55 rfl rfl (fun c4 => ?_) (fun c4 => ?_)
        · have h := h.1 c4
          refine Tj.iload_n dX12_square_58 rfl rfl ?_
          refine Tj.callSi (as := [_]) (rest := []) dX12_square_59 ln_X12_189 rfl rfl (Nat.le_of_ble_eq_true rfl) ⟨Nat.le_of_ble_eq_true rfl, Nat.le_of_ble_eq_true rfl⟩ (Nat.le_of_ble_eq_true rfl) rfl ?_
          refine Cli.mono h (fun r4 m5 h => ?_)
          refine Tj.goto dX12_square_62 rfl ?_
          exact Tj.iret dX12_square_83 rfl h
        · have h := h.2 c4
          refine Tj.iload_n dX12_square_65 rfl rfl ?_
          refine Tj.iconst dX12_square_66 (by decide) rfl ?_
          refine Tj.icmp_ne dX12_square_67 rfl rfl (fun c5 => ?_) (fun c5 => ?_)
          · have h := h.1 c5
            refine Tj.iload_n dX12_square_70 rfl rfl ?_
            refine Tj.callSi (as := [_]) (rest := []) dX12_square_71 ln_X12_192 rfl rfl (Nat.le_of_ble_eq_true rfl) ⟨Nat.le_of_ble_eq_true rfl, Nat.le_of_ble_eq_true rfl⟩ (Nat.le_of_ble_eq_true rfl) rfl ?_
            refine Cli.mono h (fun r5 m6 h => ?_)
            refine Tj.goto dX12_square_74 rfl ?_
            exact Tj.iret dX12_square_83 rfl h
          · have h := h.2 c5
            refine Tj.aload_n dX12_square_77 rfl rfl ?_
            refine Tj.getR (b := 159) dX12_square_78 fl_X12_49 sh_145 rfl rfl ?_
            refine Tj.iload_n dX12_square_81 rfl rfl ?_
            refine Tj.iald dX12_square_82 sh_159 o2 o3 rfl ?_
            exact Tj.iret dX12_square_83 rfl h

theorem wX12_across_0 {m : tM} {P : Option tV → tM → Prop} {x1 : Int} {x2 : Int} {x3 : Int}  (h : Clv mX12_findSkin [rV 145] (up m 145 0 0) (fun m1 => ((R32 ((m1 145 17) - 1)) ∧ (Cli mX12_in [iV x1, iV 0, iV ((m1 145 17) - 1)] m1 (fun r1 m2 => ((r1 = 0 → (P (some (iV (-3))) m2)) ∧ (¬ r1 = 0 → (Cli mX12_in [iV x2, iV 0, iV 3] m2 (fun r2 m3 => ((r2 = 0 → (P (some (iV (-3))) m3)) ∧ (¬ r2 = 0 → (Cli mX12_in [iV x3, iV 0, iV 3] m3 (fun r3 m4 => ((r3 = 0 → (P (some (iV (-3))) m4)) ∧ (¬ r3 = 0 → (Cli mX12_wellOf [rV 145] m4 (fun r4 m5 => ((r4 = 0 → (Clv mX12_findAcross [rV 145, iV x1, iV x2] m5 (fun m6 => ((x3 = 0 → (P (some (iV (m6 145 21))) m6)) ∧ (¬ x3 = 0 → ((x3 = 1 → (P (some (iV (m6 145 22))) m6)) ∧ (¬ x3 = 1 → ((x3 = 2 → (∀ v1 : Int, v1 = (if (m6 145 23) = (-1) then 9 else (m6 145 23)) → (P (some (iV v1)) m6))) ∧ (¬ x3 = 2 → ((R32 (4 * x1) ∧ R32 ((4 * x1) + x2) ∧ 0 ≤ ((4 * x1) + x2) ∧ ((4 * x1) + x2) < 1536) ∧ (P (some (iV (m6 148 ((4 * x1) + x2)))) m6))))))))))) ∧ (¬ r4 = 0 → (P (some (iV (-4))) m5)))))))))))))))))))) : Tj mX12_across 0 [some (rV 145), some (iV x1), some (iV x2), some (iV x3)] [] m P := by
  refine Tj.aload_n dX12_across_0 rfl rfl ?_
  refine Tj.iconst dX12_across_1 (by decide) rfl ?_
  refine Tj.pI (j := 0) dX12_across_2 fp_X12_113 sh_145 rfl rfl ?_
  refine Tj.aload_n dX12_across_5 rfl rfl ?_
  refine Tj.callVv (as := []) (rest := []) dX12_across_6 ln_X12_223 sh_145 (by decide) rfl rfl (Nat.le_of_ble_eq_true rfl) ⟨Nat.le_of_ble_eq_true rfl, Nat.le_of_ble_eq_true rfl⟩ (Nat.le_of_ble_eq_true rfl) rfl ?_
  refine Clv.mono h (fun m1 h => ?_)
  obtain ⟨o1, h⟩ := h
  refine Tj.iload_n dX12_across_9 rfl rfl ?_
  refine Tj.iconst dX12_across_10 (by decide) rfl ?_
  refine Tj.aload_n dX12_across_11 rfl rfl ?_
  refine Tj.gI (j := 17) dX12_across_12 fl_X12_195 sh_145 rfl rfl ?_
  refine Tj.iconst dX12_across_15 (by decide) rfl ?_
  refine Tj.isub dX12_across_16 o1 rfl ?_
  refine Tj.callSi (as := [_, _, _]) (rest := []) dX12_across_17 ln_X12_139 rfl rfl (Nat.le_of_ble_eq_true rfl) ⟨Nat.le_of_ble_eq_true rfl, Nat.le_of_ble_eq_true rfl⟩ (Nat.le_of_ble_eq_true rfl) rfl ?_
  refine Cli.mono h (fun r1 m2 h => ?_)
  refine Tj.if_eq dX12_across_20 rfl rfl (fun c1 => ?_) (fun c1 => ?_)
  · have h := h.1 c1
    refine Tj.bipush dX12_across_41 (by decide) (by decide +kernel) rfl ?_
    exact Tj.iret dX12_across_43 rfl h
  · have h := h.2 c1
    refine Tj.iload_n dX12_across_23 rfl rfl ?_
    refine Tj.iconst dX12_across_24 (by decide) rfl ?_
    refine Tj.iconst dX12_across_25 (by decide) rfl ?_
    refine Tj.callSi (as := [_, _, _]) (rest := []) dX12_across_26 ln_X12_139 rfl rfl (Nat.le_of_ble_eq_true rfl) ⟨Nat.le_of_ble_eq_true rfl, Nat.le_of_ble_eq_true rfl⟩ (Nat.le_of_ble_eq_true rfl) rfl ?_
    refine Cli.mono h (fun r2 m3 h => ?_)
    refine Tj.if_eq dX12_across_29 rfl rfl (fun c2 => ?_) (fun c2 => ?_)
    · have h := h.1 c2
      refine Tj.bipush dX12_across_41 (by decide) (by decide +kernel) rfl ?_
      exact Tj.iret dX12_across_43 rfl h
    · have h := h.2 c2
      refine Tj.iload_n dX12_across_32 rfl rfl ?_
      refine Tj.iconst dX12_across_33 (by decide) rfl ?_
      refine Tj.iconst dX12_across_34 (by decide) rfl ?_
      refine Tj.callSi (as := [_, _, _]) (rest := []) dX12_across_35 ln_X12_139 rfl rfl (Nat.le_of_ble_eq_true rfl) ⟨Nat.le_of_ble_eq_true rfl, Nat.le_of_ble_eq_true rfl⟩ (Nat.le_of_ble_eq_true rfl) rfl ?_
      refine Cli.mono h (fun r3 m4 h => ?_)
      refine Tj.if_ne dX12_across_38 rfl rfl (fun c3 => ?_) (fun c3 => ?_)
      · have h := h.1 c3
        refine Tj.bipush dX12_across_41 (by decide) (by decide +kernel) rfl ?_
        exact Tj.iret dX12_across_43 rfl h
      · have h := h.2 c3
        refine Tj.aload_n dX12_across_44 rfl rfl ?_
        refine Tj.callVi (as := []) (rest := []) dX12_across_45 ln_X12_182 sh_145 (by decide) rfl rfl (Nat.le_of_ble_eq_true rfl) ⟨Nat.le_of_ble_eq_true rfl, Nat.le_of_ble_eq_true rfl⟩ (Nat.le_of_ble_eq_true rfl) rfl ?_
        refine Cli.mono h (fun r4 m5 h => ?_)
        refine Tj.if_eq dX12_across_48 rfl rfl (fun c4 => ?_) (fun c4 => ?_)
        · have h := h.1 c4
          refine Tj.aload_n dX12_across_54 rfl rfl ?_
          refine Tj.iload_n dX12_across_55 rfl rfl ?_
          refine Tj.iload_n dX12_across_56 rfl rfl ?_
          refine Tj.callVv (as := [_, _]) (rest := []) dX12_across_57 ln_X12_226 sh_145 (by decide) rfl rfl (Nat.le_of_ble_eq_true rfl) ⟨Nat.le_of_ble_eq_true rfl, Nat.le_of_ble_eq_true rfl⟩ (Nat.le_of_ble_eq_true rfl) rfl ?_
          refine Clv.mono h (fun m6 h => ?_)
          refine Tj.iload_n dX12_across_60 rfl rfl ?_
          refine Tj.if_ne dX12_across_61 rfl rfl (fun c5 => ?_) (fun c5 => ?_)
          · have h := h.1 c5
            refine Tj.aload_n dX12_across_64 rfl rfl ?_
            refine Tj.gI (j := 21) dX12_across_65 fl_X12_213 sh_145 rfl rfl ?_
            refine Tj.goto dX12_across_68 rfl ?_
            exact Tj.iret dX12_across_118 rfl h
          · have h := h.2 c5
            refine Tj.iload_n dX12_across_71 rfl rfl ?_
            refine Tj.iconst dX12_across_72 (by decide) rfl ?_
            refine Tj.icmp_ne dX12_across_73 rfl rfl (fun c6 => ?_) (fun c6 => ?_)
            · have h := h.1 c6
              refine Tj.aload_n dX12_across_76 rfl rfl ?_
              refine Tj.gI (j := 22) dX12_across_77 fl_X12_220 sh_145 rfl rfl ?_
              refine Tj.goto dX12_across_80 rfl ?_
              exact Tj.iret dX12_across_118 rfl h
            · have h := h.2 c6
              refine Tj.iload_n dX12_across_83 rfl rfl ?_
              refine Tj.iconst dX12_across_84 (by decide) rfl ?_
              refine Tj.icmp_ne dX12_across_85 rfl rfl (fun c7 => ?_) (fun c7 => ?_)
              · have h := h.1 c7
                refine Tj.aload_n dX12_across_88 rfl rfl ?_
                refine Tj.gI (j := 23) dX12_across_89 fl_X12_204 sh_145 rfl rfl ?_
                refine Tj.iconst dX12_across_92 (by decide) rfl ?_
                have hj : Tj mX12_across 118 [] [iV (if (m6 145 23) = (-1) then 9 else (m6 145 23))] m6 P := by
                  generalize hv1 : ((if (m6 145 23) = (-1) then 9 else (m6 145 23)) : Int) = v1
                  have h := h v1 hv1.symm
                  exact Tj.iret dX12_across_118 rfl h
                refine Tj.icmp_ne dX12_across_93 rfl rfl (fun c8 => ?_) (fun c8 => ?_)
                · refine Tj.bipush dX12_across_96 (by decide) (by decide +kernel) rfl ?_
                  refine Tj.goto dX12_across_98 rfl ?_
                  try simp only [if_pos c8] at hj ⊢
                  exact Tj.cut hj trivial
                · refine Tj.aload_n dX12_across_101 rfl rfl ?_
                  refine Tj.gI (j := 23) dX12_across_102 fl_X12_204 sh_145 rfl rfl ?_
                  refine Tj.goto dX12_across_105 rfl ?_
                  try simp only [if_neg c8] at hj ⊢
                  exact Tj.cut hj trivial
              · have h := h.2 c7
                obtain ⟨⟨o2, o3, o4, o5⟩, h⟩ := h
                refine Tj.aload_n dX12_across_108 rfl rfl ?_
                refine Tj.getR (b := 148) dX12_across_109 fl_X12_16 sh_145 rfl rfl ?_
                refine Tj.iconst dX12_across_112 (by decide) rfl ?_
                refine Tj.iload_n dX12_across_113 rfl rfl ?_
                refine Tj.imul dX12_across_114 o2 rfl ?_
                refine Tj.iload_n dX12_across_115 rfl rfl ?_
                refine Tj.iadd dX12_across_116 o3 rfl ?_
                refine Tj.iald dX12_across_117 sh_148 o4 o5 rfl ?_
                exact Tj.iret dX12_across_118 rfl h
        · have h := h.2 c4
          refine Tj.bipush dX12_across_51 (by decide) (by decide +kernel) rfl ?_
          exact Tj.iret dX12_across_53 rfl h

theorem wX12_cut_0 {m : tM} {P : Option tV → tM → Prop} {x1 : Int} {x2 : Int} {x3 : Int}  (h : Clv mX12_findSkin [rV 145] (up m 145 0 0) (fun m1 => ((R32 ((m1 145 17) - 1)) ∧ (Cli mX12_in [iV x1, iV 0, iV ((m1 145 17) - 1)] m1 (fun r1 m2 => ((r1 = 0 → (P (some (iV (-3))) m2)) ∧ (¬ r1 = 0 → (Cli mX12_in [iV x2, iV 0, iV 3] m2 (fun r2 m3 => ((r2 = 0 → (P (some (iV (-3))) m3)) ∧ (¬ r2 = 0 → (Cli mX12_in [iV x3, iV 0, iV 1] m3 (fun r3 m4 => ((r3 = 0 → (P (some (iV (-3))) m4)) ∧ (¬ r3 = 0 → (Cli mX12_wellOf [rV 145] m4 (fun r4 m5 => ((r4 = 0 → (Clv mX12_keep [rV 145] m5 (fun m6 => ((R32 (4 * x1) ∧ R32 ((4 * x1) + x2) ∧ 0 ≤ ((4 * x1) + x2) ∧ ((4 * x1) + x2) < 1536) ∧ (Clv mX12_findAcross [rV 145, iV x1, iV x2] m6 (fun m7 => ((R32 (4 * (m7 145 21)) ∧ R32 ((4 * (m7 145 21)) + (m7 145 22)) ∧ 0 ≤ ((4 * (m7 145 21)) + (m7 145 22)) ∧ ((4 * (m7 145 21)) + (m7 145 22)) < 1536) ∧ (P (some (iV (m6 148 ((4 * x1) + x2)))) (up (up m7 148 ((4 * x1) + x2) x3) 148 ((4 * (m7 145 21)) + (m7 145 22)) x3))))))))) ∧ (¬ r4 = 0 → (P (some (iV (-4))) m5)))))))))))))))))))) : Tj mX12_cut 0 [some (rV 145), some (iV x1), some (iV x2), some (iV x3)] [] m P := by
  refine Tj.aload_n dX12_cut_0 rfl rfl ?_
  refine Tj.iconst dX12_cut_1 (by decide) rfl ?_
  refine Tj.pI (j := 0) dX12_cut_2 fp_X12_113 sh_145 rfl rfl ?_
  refine Tj.aload_n dX12_cut_5 rfl rfl ?_
  refine Tj.callVv (as := []) (rest := []) dX12_cut_6 ln_X12_223 sh_145 (by decide) rfl rfl (Nat.le_of_ble_eq_true rfl) ⟨Nat.le_of_ble_eq_true rfl, Nat.le_of_ble_eq_true rfl⟩ (Nat.le_of_ble_eq_true rfl) rfl ?_
  refine Clv.mono h (fun m1 h => ?_)
  obtain ⟨o1, h⟩ := h
  refine Tj.iload_n dX12_cut_9 rfl rfl ?_
  refine Tj.iconst dX12_cut_10 (by decide) rfl ?_
  refine Tj.aload_n dX12_cut_11 rfl rfl ?_
  refine Tj.gI (j := 17) dX12_cut_12 fl_X12_195 sh_145 rfl rfl ?_
  refine Tj.iconst dX12_cut_15 (by decide) rfl ?_
  refine Tj.isub dX12_cut_16 o1 rfl ?_
  refine Tj.callSi (as := [_, _, _]) (rest := []) dX12_cut_17 ln_X12_139 rfl rfl (Nat.le_of_ble_eq_true rfl) ⟨Nat.le_of_ble_eq_true rfl, Nat.le_of_ble_eq_true rfl⟩ (Nat.le_of_ble_eq_true rfl) rfl ?_
  refine Cli.mono h (fun r1 m2 h => ?_)
  refine Tj.if_eq dX12_cut_20 rfl rfl (fun c1 => ?_) (fun c1 => ?_)
  · have h := h.1 c1
    refine Tj.bipush dX12_cut_41 (by decide) (by decide +kernel) rfl ?_
    exact Tj.iret dX12_cut_43 rfl h
  · have h := h.2 c1
    refine Tj.iload_n dX12_cut_23 rfl rfl ?_
    refine Tj.iconst dX12_cut_24 (by decide) rfl ?_
    refine Tj.iconst dX12_cut_25 (by decide) rfl ?_
    refine Tj.callSi (as := [_, _, _]) (rest := []) dX12_cut_26 ln_X12_139 rfl rfl (Nat.le_of_ble_eq_true rfl) ⟨Nat.le_of_ble_eq_true rfl, Nat.le_of_ble_eq_true rfl⟩ (Nat.le_of_ble_eq_true rfl) rfl ?_
    refine Cli.mono h (fun r2 m3 h => ?_)
    refine Tj.if_eq dX12_cut_29 rfl rfl (fun c2 => ?_) (fun c2 => ?_)
    · have h := h.1 c2
      refine Tj.bipush dX12_cut_41 (by decide) (by decide +kernel) rfl ?_
      exact Tj.iret dX12_cut_43 rfl h
    · have h := h.2 c2
      refine Tj.iload_n dX12_cut_32 rfl rfl ?_
      refine Tj.iconst dX12_cut_33 (by decide) rfl ?_
      refine Tj.iconst dX12_cut_34 (by decide) rfl ?_
      refine Tj.callSi (as := [_, _, _]) (rest := []) dX12_cut_35 ln_X12_139 rfl rfl (Nat.le_of_ble_eq_true rfl) ⟨Nat.le_of_ble_eq_true rfl, Nat.le_of_ble_eq_true rfl⟩ (Nat.le_of_ble_eq_true rfl) rfl ?_
      refine Cli.mono h (fun r3 m4 h => ?_)
      refine Tj.if_ne dX12_cut_38 rfl rfl (fun c3 => ?_) (fun c3 => ?_)
      · have h := h.1 c3
        refine Tj.bipush dX12_cut_41 (by decide) (by decide +kernel) rfl ?_
        exact Tj.iret dX12_cut_43 rfl h
      · have h := h.2 c3
        refine Tj.aload_n dX12_cut_44 rfl rfl ?_
        refine Tj.callVi (as := []) (rest := []) dX12_cut_45 ln_X12_182 sh_145 (by decide) rfl rfl (Nat.le_of_ble_eq_true rfl) ⟨Nat.le_of_ble_eq_true rfl, Nat.le_of_ble_eq_true rfl⟩ (Nat.le_of_ble_eq_true rfl) rfl ?_
        refine Cli.mono h (fun r4 m5 h => ?_)
        refine Tj.if_eq dX12_cut_48 rfl rfl (fun c4 => ?_) (fun c4 => ?_)
        · have h := h.1 c4
          refine Tj.aload_n dX12_cut_54 rfl rfl ?_
          refine Tj.callVv (as := []) (rest := []) dX12_cut_55 ln_X12_136 sh_145 (by decide) rfl rfl (Nat.le_of_ble_eq_true rfl) ⟨Nat.le_of_ble_eq_true rfl, Nat.le_of_ble_eq_true rfl⟩ (Nat.le_of_ble_eq_true rfl) rfl ?_
          refine Clv.mono h (fun m6 h => ?_)
          obtain ⟨⟨o2, o3, o4, o5⟩, h⟩ := h
          refine Tj.aload_n dX12_cut_58 rfl rfl ?_
          refine Tj.getR (b := 148) dX12_cut_59 fl_X12_16 sh_145 rfl rfl ?_
          refine Tj.iconst dX12_cut_62 (by decide) rfl ?_
          refine Tj.iload_n dX12_cut_63 rfl rfl ?_
          refine Tj.imul dX12_cut_64 o2 rfl ?_
          refine Tj.iload_n dX12_cut_65 rfl rfl ?_
          refine Tj.iadd dX12_cut_66 o3 rfl ?_
          refine Tj.iald dX12_cut_67 sh_148 o4 o5 rfl ?_
          refine Tj.istore dX12_cut_68 (Nat.le_of_ble_eq_true rfl) rfl rfl ?_
          refine Tj.aload_n dX12_cut_70 rfl rfl ?_
          refine Tj.iload_n dX12_cut_71 rfl rfl ?_
          refine Tj.iload_n dX12_cut_72 rfl rfl ?_
          refine Tj.callVv (as := [_, _]) (rest := []) dX12_cut_73 ln_X12_226 sh_145 (by decide) rfl rfl (Nat.le_of_ble_eq_true rfl) ⟨Nat.le_of_ble_eq_true rfl, Nat.le_of_ble_eq_true rfl⟩ (Nat.le_of_ble_eq_true rfl) rfl ?_
          refine Clv.mono h (fun m7 h => ?_)
          obtain ⟨⟨o6, o7, o8, o9⟩, h⟩ := h
          refine Tj.aload_n dX12_cut_76 rfl rfl ?_
          refine Tj.getR (b := 148) dX12_cut_77 fl_X12_16 sh_145 rfl rfl ?_
          refine Tj.iconst dX12_cut_80 (by decide) rfl ?_
          refine Tj.iload_n dX12_cut_81 rfl rfl ?_
          refine Tj.imul dX12_cut_82 o2 rfl ?_
          refine Tj.iload_n dX12_cut_83 rfl rfl ?_
          refine Tj.iadd dX12_cut_84 o3 rfl ?_
          refine Tj.iload_n dX12_cut_85 rfl rfl ?_
          refine Tj.iast dX12_cut_86 sh_148 o4 o5 rfl ?_
          refine Tj.aload_n dX12_cut_87 rfl rfl ?_
          refine Tj.getR (b := 148) dX12_cut_88 fl_X12_16 sh_145 rfl rfl ?_
          refine Tj.iconst dX12_cut_91 (by decide) rfl ?_
          refine Tj.aload_n dX12_cut_92 rfl rfl ?_
          refine Tj.gI (j := 21) dX12_cut_93 fl_X12_213 sh_145 rfl rfl ?_
          refine Tj.imul dX12_cut_96 o6 rfl ?_
          refine Tj.aload_n dX12_cut_97 rfl rfl ?_
          refine Tj.gI (j := 22) dX12_cut_98 fl_X12_220 sh_145 rfl rfl ?_
          refine Tj.iadd dX12_cut_101 o7 rfl ?_
          refine Tj.iload_n dX12_cut_102 rfl rfl ?_
          refine Tj.iast dX12_cut_103 sh_148 o8 o9 rfl ?_
          refine Tj.iload dX12_cut_104 rfl rfl ?_
          exact Tj.iret dX12_cut_106 rfl h
        · have h := h.2 c4
          refine Tj.bipush dX12_cut_51 (by decide) (by decide +kernel) rfl ?_
          exact Tj.iret dX12_cut_53 rfl h
