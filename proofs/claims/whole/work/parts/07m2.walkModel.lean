theorem wX12_isOn_0 {m : tM} {P : Option tV → tM → Prop} {x1 : Int} {x2 : Int} {x3 : Int} {x4 : Int}  (h : Cli mX12_toward [rV 145, iV x1, iV x2] m (fun r1 m1 => (Cli mX12_toward [rV 145, iV x3, iV x4] m1 (fun r2 m2 => ((0 ≤ x1 ∧ x1 < 60) ∧ (Cli mX12_alongOf [iV r1, iV 0] m2 (fun r3 m3 => ((R32 ((m2 168 x1) + r3) ∧ 0 ≤ x3 ∧ x3 < 60) ∧ (Cli mX12_alongOf [iV r2, iV 0] m3 (fun r4 m4 => ((R32 ((m3 168 x3) + r4)) ∧ ((((m2 168 x1) + r3) = ((m3 168 x3) + r4) → (Cli mX12_alongOf [iV r1, iV 1] m4 (fun r5 m5 => ((R32 ((m4 169 x1) + r5)) ∧ (Cli mX12_alongOf [iV r2, iV 1] m5 (fun r6 m6 => ((R32 ((m5 169 x3) + r6)) ∧ (∀ v1 : Int, v1 = (if ((m4 169 x1) + r5) = ((m5 169 x3) + r6) then 1 else 0) → ((v1 = 0 → (P (some (iV 0)) m6)) ∧ (¬ v1 = 0 → (Cli mX12_alongOf [iV r1, iV 2] m6 (fun r7 m7 => ((R32 ((m6 170 x1) + r7)) ∧ (Cli mX12_alongOf [iV r2, iV 2] m7 (fun r8 m8 => ((R32 ((m7 170 x3) + r8)) ∧ (∀ v2 : Int, v2 = (if ((m6 170 x1) + r7) = ((m7 170 x3) + r8) then 1 else 0) → ((v2 = 0 → (P (some (iV 0)) m8)) ∧ (¬ v2 = 0 → ((R32 (x2 + 1) ∧ 0 ≤ (x2 + 1)) ∧ (Cli mX12_toward [rV 145, iV x1, iV ((x2 + 1) % 4)] m8 (fun r9 m9 => ((0 ≤ r9 ∧ R32 (x4 + 1) ∧ 0 ≤ (x4 + 1)) ∧ (Cli mX12_toward [rV 145, iV x3, iV ((x4 + 1) % 4)] m9 (fun r10 m10 => ((0 ≤ r10) ∧ (∀ v3 : Int, v3 = (if (r9 / 2) = (r10 / 2) then 1 else 0) → (P (some (iV v3)) m10)))))))))))))))))))))))))))) ∧ (¬ ((m2 168 x1) + r3) = ((m3 168 x3) + r4) → (P (some (iV 0)) m4)))))))))))))) : Tj mX12_isOn 0 [some (rV 145), some (iV x1), some (iV x2), some (iV x3), some (iV x4)] [] m P := by
  refine Tj.aload_n dX12_isOn_0 rfl rfl ?_
  refine Tj.iload_n dX12_isOn_1 rfl rfl ?_
  refine Tj.iload_n dX12_isOn_2 rfl rfl ?_
  refine Tj.callVi (as := [_, _]) (rest := []) dX12_isOn_3 ln_X12_279 sh_145 (by decide) rfl rfl (Nat.le_of_ble_eq_true rfl) ⟨Nat.le_of_ble_eq_true rfl, Nat.le_of_ble_eq_true rfl⟩ (Nat.le_of_ble_eq_true rfl) rfl ?_
  refine Cli.mono h (fun r1 m1 h => ?_)
  refine Tj.istore dX12_isOn_6 (Nat.le_of_ble_eq_true rfl) rfl rfl ?_
  refine Tj.aload_n dX12_isOn_8 rfl rfl ?_
  refine Tj.iload_n dX12_isOn_9 rfl rfl ?_
  refine Tj.iload dX12_isOn_10 rfl rfl ?_
  refine Tj.callVi (as := [_, _]) (rest := []) dX12_isOn_12 ln_X12_279 sh_145 (by decide) rfl rfl (Nat.le_of_ble_eq_true rfl) ⟨Nat.le_of_ble_eq_true rfl, Nat.le_of_ble_eq_true rfl⟩ (Nat.le_of_ble_eq_true rfl) rfl ?_
  refine Cli.mono h (fun r2 m2 h => ?_)
  obtain ⟨⟨o1, o2⟩, h⟩ := h
  refine Tj.istore dX12_isOn_15 (Nat.le_of_ble_eq_true rfl) rfl rfl ?_
  refine Tj.aload_n dX12_isOn_17 rfl rfl ?_
  refine Tj.getR (b := 168) dX12_isOn_18 fl_X12_76 sh_145 rfl rfl ?_
  refine Tj.iload_n dX12_isOn_21 rfl rfl ?_
  refine Tj.iald dX12_isOn_22 sh_168 o1 o2 rfl ?_
  refine Tj.iload dX12_isOn_23 rfl rfl ?_
  refine Tj.iconst dX12_isOn_25 (by decide) rfl ?_
  refine Tj.callSi (as := [_, _]) (rest := [_]) dX12_isOn_26 ln_X12_154 rfl rfl (Nat.le_of_ble_eq_true rfl) ⟨Nat.le_of_ble_eq_true rfl, Nat.le_of_ble_eq_true rfl⟩ (Nat.le_of_ble_eq_true rfl) rfl ?_
  refine Cli.mono h (fun r3 m3 h => ?_)
  obtain ⟨⟨o3, o4, o5⟩, h⟩ := h
  refine Tj.iadd dX12_isOn_29 o3 rfl ?_
  refine Tj.aload_n dX12_isOn_30 rfl rfl ?_
  refine Tj.getR (b := 168) dX12_isOn_31 fl_X12_76 sh_145 rfl rfl ?_
  refine Tj.iload_n dX12_isOn_34 rfl rfl ?_
  refine Tj.iald dX12_isOn_35 sh_168 o4 o5 rfl ?_
  refine Tj.iload dX12_isOn_36 rfl rfl ?_
  refine Tj.iconst dX12_isOn_38 (by decide) rfl ?_
  refine Tj.callSi (as := [_, _]) (rest := [_, _]) dX12_isOn_39 ln_X12_154 rfl rfl (Nat.le_of_ble_eq_true rfl) ⟨Nat.le_of_ble_eq_true rfl, Nat.le_of_ble_eq_true rfl⟩ (Nat.le_of_ble_eq_true rfl) rfl ?_
  refine Cli.mono h (fun r4 m4 h => ?_)
  obtain ⟨o6, h⟩ := h
  refine Tj.iadd dX12_isOn_42 o6 rfl ?_
  refine Tj.icmp_ne dX12_isOn_43 rfl rfl (fun c1 => ?_) (fun c1 => ?_)
  · have h := h.1 c1
    refine Tj.aload_n dX12_isOn_46 rfl rfl ?_
    refine Tj.getR (b := 169) dX12_isOn_47 fl_X12_79 sh_145 rfl rfl ?_
    refine Tj.iload_n dX12_isOn_50 rfl rfl ?_
    refine Tj.iald dX12_isOn_51 sh_169 o1 o2 rfl ?_
    refine Tj.iload dX12_isOn_52 rfl rfl ?_
    refine Tj.iconst dX12_isOn_54 (by decide) rfl ?_
    refine Tj.callSi (as := [_, _]) (rest := [_]) dX12_isOn_55 ln_X12_154 rfl rfl (Nat.le_of_ble_eq_true rfl) ⟨Nat.le_of_ble_eq_true rfl, Nat.le_of_ble_eq_true rfl⟩ (Nat.le_of_ble_eq_true rfl) rfl ?_
    refine Cli.mono h (fun r5 m5 h => ?_)
    obtain ⟨o7, h⟩ := h
    refine Tj.iadd dX12_isOn_58 o7 rfl ?_
    refine Tj.aload_n dX12_isOn_59 rfl rfl ?_
    refine Tj.getR (b := 169) dX12_isOn_60 fl_X12_79 sh_145 rfl rfl ?_
    refine Tj.iload_n dX12_isOn_63 rfl rfl ?_
    refine Tj.iald dX12_isOn_64 sh_169 o4 o5 rfl ?_
    refine Tj.iload dX12_isOn_65 rfl rfl ?_
    refine Tj.iconst dX12_isOn_67 (by decide) rfl ?_
    refine Tj.callSi (as := [_, _]) (rest := [_, _]) dX12_isOn_68 ln_X12_154 rfl rfl (Nat.le_of_ble_eq_true rfl) ⟨Nat.le_of_ble_eq_true rfl, Nat.le_of_ble_eq_true rfl⟩ (Nat.le_of_ble_eq_true rfl) rfl ?_
    refine Cli.mono h (fun r6 m6 h => ?_)
    obtain ⟨o8, h⟩ := h
    refine Tj.iadd dX12_isOn_71 o8 rfl ?_
    have hj : Tj mX12_isOn 80 [some (rV 145), some (iV x1), some (iV x2), some (iV x3), some (iV x4), some (iV r1), some (iV r2)] [iV (if ((m4 169 x1) + r5) = ((m5 169 x3) + r6) then 1 else 0)] m6 P := by
      generalize hv1 : ((if ((m4 169 x1) + r5) = ((m5 169 x3) + r6) then 1 else 0) : Int) = v1
      have h := h v1 hv1.symm
      refine Tj.istore dX12_isOn_80 (Nat.le_of_ble_eq_true rfl) rfl rfl ?_
      refine Tj.iload dX12_isOn_82 rfl rfl ?_
      refine Tj.if_eq dX12_isOn_84 rfl rfl (fun c3 => ?_) (fun c3 => ?_)
      · have h := h.1 c3
        refine Tj.iconst dX12_isOn_120 (by decide) rfl ?_
        refine Tj.istore dX12_isOn_121 (Nat.le_of_ble_eq_true rfl) rfl rfl ?_
        refine Tj.iload dX12_isOn_123 rfl rfl ?_
        refine Tj.if_eq dX12_isOn_125 rfl rfl (fun c4 => ?_) (fun c4 => ?_)
        case refine_2 => exact absurd (by decide) c4
        refine Tj.iconst dX12_isOn_160 (by decide) rfl ?_
        exact Tj.zret dX12_isOn_161 rfl (by decide) h
      · have h := h.2 c3
        refine Tj.aload_n dX12_isOn_87 rfl rfl ?_
        refine Tj.getR (b := 170) dX12_isOn_88 fl_X12_82 sh_145 rfl rfl ?_
        refine Tj.iload_n dX12_isOn_91 rfl rfl ?_
        refine Tj.iald dX12_isOn_92 sh_170 o1 o2 rfl ?_
        refine Tj.iload dX12_isOn_93 rfl rfl ?_
        refine Tj.iconst dX12_isOn_95 (by decide) rfl ?_
        refine Tj.callSi (as := [_, _]) (rest := [_]) dX12_isOn_96 ln_X12_154 rfl rfl (Nat.le_of_ble_eq_true rfl) ⟨Nat.le_of_ble_eq_true rfl, Nat.le_of_ble_eq_true rfl⟩ (Nat.le_of_ble_eq_true rfl) rfl ?_
        refine Cli.mono h (fun r7 m7 h => ?_)
        obtain ⟨o9, h⟩ := h
        refine Tj.iadd dX12_isOn_99 o9 rfl ?_
        refine Tj.aload_n dX12_isOn_100 rfl rfl ?_
        refine Tj.getR (b := 170) dX12_isOn_101 fl_X12_82 sh_145 rfl rfl ?_
        refine Tj.iload_n dX12_isOn_104 rfl rfl ?_
        refine Tj.iald dX12_isOn_105 sh_170 o4 o5 rfl ?_
        refine Tj.iload dX12_isOn_106 rfl rfl ?_
        refine Tj.iconst dX12_isOn_108 (by decide) rfl ?_
        refine Tj.callSi (as := [_, _]) (rest := [_, _]) dX12_isOn_109 ln_X12_154 rfl rfl (Nat.le_of_ble_eq_true rfl) ⟨Nat.le_of_ble_eq_true rfl, Nat.le_of_ble_eq_true rfl⟩ (Nat.le_of_ble_eq_true rfl) rfl ?_
        refine Cli.mono h (fun r8 m8 h => ?_)
        obtain ⟨o10, h⟩ := h
        refine Tj.iadd dX12_isOn_112 o10 rfl ?_
        have hj : Tj mX12_isOn 121 [some (rV 145), some (iV x1), some (iV x2), some (iV x3), some (iV x4)] [iV (if ((m6 170 x1) + r7) = ((m7 170 x3) + r8) then 1 else 0)] m8 P := by
          generalize hv2 : ((if ((m6 170 x1) + r7) = ((m7 170 x3) + r8) then 1 else 0) : Int) = v2
          have h := h v2 hv2.symm
          refine Tj.istore dX12_isOn_121 (Nat.le_of_ble_eq_true rfl) rfl rfl ?_
          refine Tj.iload dX12_isOn_123 rfl rfl ?_
          refine Tj.if_eq dX12_isOn_125 rfl rfl (fun c6 => ?_) (fun c6 => ?_)
          · have h := h.1 c6
            refine Tj.iconst dX12_isOn_160 (by decide) rfl ?_
            exact Tj.zret dX12_isOn_161 rfl (by decide) h
          · have h := h.2 c6
            obtain ⟨⟨o11, o12⟩, h⟩ := h
            refine Tj.aload_n dX12_isOn_128 rfl rfl ?_
            refine Tj.iload_n dX12_isOn_129 rfl rfl ?_
            refine Tj.iload_n dX12_isOn_130 rfl rfl ?_
            refine Tj.iconst dX12_isOn_131 (by decide) rfl ?_
            refine Tj.iadd dX12_isOn_132 o11 rfl ?_
            refine Tj.iconst dX12_isOn_133 (by decide) rfl ?_
            refine Tj.irem dX12_isOn_134 o12 (by decide) rfl ?_
            refine Tj.callVi (as := [_, _]) (rest := []) dX12_isOn_135 ln_X12_279 sh_145 (by decide) rfl rfl (Nat.le_of_ble_eq_true rfl) ⟨Nat.le_of_ble_eq_true rfl, Nat.le_of_ble_eq_true rfl⟩ (Nat.le_of_ble_eq_true rfl) rfl ?_
            refine Cli.mono h (fun r9 m9 h => ?_)
            obtain ⟨⟨o13, o14, o15⟩, h⟩ := h
            refine Tj.iconst dX12_isOn_138 (by decide) rfl ?_
            refine Tj.idiv dX12_isOn_139 o13 (by decide) rfl ?_
            refine Tj.aload_n dX12_isOn_140 rfl rfl ?_
            refine Tj.iload_n dX12_isOn_141 rfl rfl ?_
            refine Tj.iload dX12_isOn_142 rfl rfl ?_
            refine Tj.iconst dX12_isOn_144 (by decide) rfl ?_
            refine Tj.iadd dX12_isOn_145 o14 rfl ?_
            refine Tj.iconst dX12_isOn_146 (by decide) rfl ?_
            refine Tj.irem dX12_isOn_147 o15 (by decide) rfl ?_
            refine Tj.callVi (as := [_, _]) (rest := [_]) dX12_isOn_148 ln_X12_279 sh_145 (by decide) rfl rfl (Nat.le_of_ble_eq_true rfl) ⟨Nat.le_of_ble_eq_true rfl, Nat.le_of_ble_eq_true rfl⟩ (Nat.le_of_ble_eq_true rfl) rfl ?_
            refine Cli.mono h (fun r10 m10 h => ?_)
            obtain ⟨o16, h⟩ := h
            refine Tj.iconst dX12_isOn_151 (by decide) rfl ?_
            refine Tj.idiv dX12_isOn_152 o16 (by decide) rfl ?_
            have hj : Tj mX12_isOn 161 [] [iV (if (r9 / 2) = (r10 / 2) then 1 else 0)] m10 P := by
              generalize hv3 : ((if (r9 / 2) = (r10 / 2) then 1 else 0) : Int) = v3
              have h := h v3 hv3.symm
              exact Tj.zret dX12_isOn_161 rfl (by rw [← hv3]; (repeat' split) <;> simp) h
            refine Tj.icmp_ne dX12_isOn_153 rfl rfl (fun c7 => ?_) (fun c7 => ?_)
            · refine Tj.iconst dX12_isOn_156 (by decide) rfl ?_
              refine Tj.goto dX12_isOn_157 rfl ?_
              try simp only [if_pos c7] at hj ⊢
              exact Tj.cut hj trivial
            · refine Tj.iconst dX12_isOn_160 (by decide) rfl ?_
              try simp only [if_neg c7] at hj ⊢
              exact Tj.cut hj trivial
        refine Tj.icmp_ne dX12_isOn_113 rfl rfl (fun c5 => ?_) (fun c5 => ?_)
        · refine Tj.iconst dX12_isOn_116 (by decide) rfl ?_
          refine Tj.goto dX12_isOn_117 rfl ?_
          try simp only [if_pos c5] at hj ⊢
          exact Tj.cut hj ⟨rfl, ⟨rfl, ⟨rfl, ⟨rfl, ⟨rfl, trivial⟩⟩⟩⟩⟩
        · refine Tj.iconst dX12_isOn_120 (by decide) rfl ?_
          try simp only [if_neg c5] at hj ⊢
          exact Tj.cut hj ⟨rfl, ⟨rfl, ⟨rfl, ⟨rfl, ⟨rfl, trivial⟩⟩⟩⟩⟩
    refine Tj.icmp_ne dX12_isOn_72 rfl rfl (fun c2 => ?_) (fun c2 => ?_)
    · refine Tj.iconst dX12_isOn_75 (by decide) rfl ?_
      refine Tj.goto dX12_isOn_76 rfl ?_
      try simp only [if_pos c2] at hj ⊢
      exact Tj.cut hj ⟨rfl, ⟨rfl, ⟨rfl, ⟨rfl, ⟨rfl, ⟨rfl, ⟨rfl, trivial⟩⟩⟩⟩⟩⟩⟩
    · refine Tj.iconst dX12_isOn_79 (by decide) rfl ?_
      try simp only [if_neg c2] at hj ⊢
      exact Tj.cut hj ⟨rfl, ⟨rfl, ⟨rfl, ⟨rfl, ⟨rfl, ⟨rfl, ⟨rfl, trivial⟩⟩⟩⟩⟩⟩⟩
  · have h := h.2 c1
    refine Tj.iconst dX12_isOn_79 (by decide) rfl ?_
    refine Tj.istore dX12_isOn_80 (Nat.le_of_ble_eq_true rfl) rfl rfl ?_
    refine Tj.iload dX12_isOn_82 rfl rfl ?_
    refine Tj.if_eq dX12_isOn_84 rfl rfl (fun c8 => ?_) (fun c8 => ?_)
    case refine_2 => exact absurd (by decide) c8
    refine Tj.iconst dX12_isOn_120 (by decide) rfl ?_
    refine Tj.istore dX12_isOn_121 (Nat.le_of_ble_eq_true rfl) rfl rfl ?_
    refine Tj.iload dX12_isOn_123 rfl rfl ?_
    refine Tj.if_eq dX12_isOn_125 rfl rfl (fun c9 => ?_) (fun c9 => ?_)
    case refine_2 => exact absurd (by decide) c9
    refine Tj.iconst dX12_isOn_160 (by decide) rfl ?_
    exact Tj.zret dX12_isOn_161 rfl (by decide) h

theorem wX12_closed_0 {m : tM} {P : Option tV → tM → Prop}   (h : Cli mX12_foldOf [rV 145] (up m 145 0 0) (fun r1 m1 => ((r1 = 0 → (Tj mX12_closed 16 [some (rV 145), some (iV 0)] [] m1 P)) ∧ (¬ r1 = 0 → (P (some (iV 0)) m1))))) : Tj mX12_closed 0 [some (rV 145)] [] m P := by
  refine Tj.aload_n dX12_closed_0 rfl rfl ?_
  refine Tj.iconst dX12_closed_1 (by decide) rfl ?_
  refine Tj.pI (j := 0) dX12_closed_2 fp_X12_113 sh_145 rfl rfl ?_
  refine Tj.aload_n dX12_closed_5 rfl rfl ?_
  refine Tj.callVi (as := []) (rest := []) dX12_closed_6 ln_X12_285 sh_145 (by decide) rfl rfl (Nat.le_of_ble_eq_true rfl) ⟨Nat.le_of_ble_eq_true rfl, Nat.le_of_ble_eq_true rfl⟩ (Nat.le_of_ble_eq_true rfl) rfl ?_
  refine Cli.mono h (fun r1 m1 h => ?_)
  refine Tj.if_eq dX12_closed_9 rfl rfl (fun c1 => ?_) (fun c1 => ?_)
  · have h := h.1 c1
    refine Tj.iconst dX12_closed_14 (by decide) rfl ?_
    refine Tj.istore_n dX12_closed_15 (Nat.le_of_ble_eq_true rfl) rfl rfl ?_
    exact Tj.cut h ⟨rfl, ⟨rfl, trivial⟩⟩
  · have h := h.2 c1
    refine Tj.iconst dX12_closed_12 (by decide) rfl ?_
    exact Tj.iret dX12_closed_13 rfl h

theorem wX12_closed_16 {m : tM} {P : Option tV → tM → Prop} {x1 : Int}  (h : (R32 (4 * (m 145 4))) ∧ ((x1 < (4 * (m 145 4)) → (Tj mX12_closed 30 [some (rV 145), some (iV x1), some (iV 0), some (iV 0)] [] m P)) ∧ (¬ x1 < (4 * (m 145 4)) → (P (some (iV 1)) m)))) : Tj mX12_closed 16 [some (rV 145), some (iV x1)] [] m P := by
  obtain ⟨o1, h⟩ := h
  refine Tj.iload_n dX12_closed_16 rfl rfl ?_
  refine Tj.iconst dX12_closed_17 (by decide) rfl ?_
  refine Tj.aload_n dX12_closed_18 rfl rfl ?_
  refine Tj.gI (j := 4) dX12_closed_19 fl_X12_127 sh_145 rfl rfl ?_
  refine Tj.imul dX12_closed_22 o1 rfl ?_
  refine Tj.icmp_ge dX12_closed_23 rfl rfl (fun c1 => ?_) (fun c1 => ?_)
  · have h := h.1 c1
    refine Tj.iconst dX12_closed_26 (by decide) rfl ?_
    refine Tj.istore_n dX12_closed_27 (Nat.le_of_ble_eq_true rfl) rfl rfl ?_
    refine Tj.iconst dX12_closed_28 (by decide) rfl ?_
    refine Tj.istore_n dX12_closed_29 (Nat.le_of_ble_eq_true rfl) rfl rfl ?_
    exact Tj.cut h ⟨rfl, ⟨rfl, ⟨rfl, ⟨rfl, trivial⟩⟩⟩⟩
  · have h := h.2 c1
    refine Tj.iconst dX12_closed_95 (by decide) rfl ?_
    exact Tj.iret dX12_closed_96 rfl h

theorem wX12_closed_30 {m : tM} {P : Option tV → tM → Prop} {x1 : Int} {x2 : Int} {x3 : Int}  (h : (R32 (4 * (m 145 4))) ∧ ((x3 < (4 * (m 145 4)) → ((0 ≤ x1 ∧ 0 ≤ x3) ∧ (((x1 / 4) = (x3 / 4) → ((R32 (x2 + 0) ∧ R32 (x3 + 1)) ∧ (Tj mX12_closed 30 [some (rV 145), some (iV x1), some (iV (x2 + 0)), some (iV (x3 + 1))] [] m P))) ∧ (¬ (x1 / 4) = (x3 / 4) → (Cli mX12_isOn [rV 145, iV (x1 / 4), iV (x1 % 4), iV (x3 / 4), iV (x3 % 4)] m (fun r1 m1 => (∀ v1 : Int, v1 = (if r1 = 0 then 0 else 1) → ((R32 (x2 + v1) ∧ R32 (x3 + 1)) ∧ (Tj mX12_closed 30 [some (rV 145), some (iV x1), some (iV (x2 + v1)), some (iV (x3 + 1))] [] m1 P))))))))) ∧ (¬ x3 < (4 * (m 145 4)) → ((x2 = 1 → ((R32 (x1 + 1)) ∧ (Tj mX12_closed 16 [some (rV 145), some (iV (x1 + 1))] [] m P))) ∧ (¬ x2 = 1 → (P (some (iV 0)) m)))))) : Tj mX12_closed 30 [some (rV 145), some (iV x1), some (iV x2), some (iV x3)] [] m P := by
  obtain ⟨o1, h⟩ := h
  refine Tj.iload_n dX12_closed_30 rfl rfl ?_
  refine Tj.iconst dX12_closed_31 (by decide) rfl ?_
  refine Tj.aload_n dX12_closed_32 rfl rfl ?_
  refine Tj.gI (j := 4) dX12_closed_33 fl_X12_127 sh_145 rfl rfl ?_
  refine Tj.imul dX12_closed_36 o1 rfl ?_
  refine Tj.icmp_ge dX12_closed_37 rfl rfl (fun c1 => ?_) (fun c1 => ?_)
  · have h := h.1 c1
    obtain ⟨⟨o2, o3⟩, h⟩ := h
    refine Tj.iload_n dX12_closed_40 rfl rfl ?_
    refine Tj.iload_n dX12_closed_41 rfl rfl ?_
    refine Tj.iconst dX12_closed_42 (by decide) rfl ?_
    refine Tj.idiv dX12_closed_43 o2 (by decide) rfl ?_
    refine Tj.iload_n dX12_closed_44 rfl rfl ?_
    refine Tj.iconst dX12_closed_45 (by decide) rfl ?_
    refine Tj.idiv dX12_closed_46 o3 (by decide) rfl ?_
    refine Tj.icmp_eq dX12_closed_47 rfl rfl (fun c2 => ?_) (fun c2 => ?_)
    · have h := h.1 c2
      obtain ⟨⟨o4, o5⟩, h⟩ := h
      refine Tj.iconst dX12_closed_73 (by decide) rfl ?_
      refine Tj.iadd dX12_closed_74 o4 rfl ?_
      refine Tj.istore_n dX12_closed_75 (Nat.le_of_ble_eq_true rfl) rfl rfl ?_
      refine Tj.iinc dX12_closed_76 rfl (Nat.le_of_ble_eq_true rfl) rfl o5 rfl ?_
      refine Tj.goto dX12_closed_79 rfl ?_
      exact Tj.cut h ⟨rfl, ⟨rfl, ⟨rfl, ⟨rfl, trivial⟩⟩⟩⟩
    · have h := h.2 c2
      refine Tj.aload_n dX12_closed_50 rfl rfl ?_
      refine Tj.iload_n dX12_closed_51 rfl rfl ?_
      refine Tj.iconst dX12_closed_52 (by decide) rfl ?_
      refine Tj.idiv dX12_closed_53 o2 (by decide) rfl ?_
      refine Tj.iload_n dX12_closed_54 rfl rfl ?_
      refine Tj.iconst dX12_closed_55 (by decide) rfl ?_
      refine Tj.irem dX12_closed_56 o2 (by decide) rfl ?_
      refine Tj.iload_n dX12_closed_57 rfl rfl ?_
      refine Tj.iconst dX12_closed_58 (by decide) rfl ?_
      refine Tj.idiv dX12_closed_59 o3 (by decide) rfl ?_
      refine Tj.iload_n dX12_closed_60 rfl rfl ?_
      refine Tj.iconst dX12_closed_61 (by decide) rfl ?_
      refine Tj.irem dX12_closed_62 o3 (by decide) rfl ?_
      refine Tj.callVi (as := [_, _, _, _]) (rest := [_]) dX12_closed_63 ln_X12_288 sh_145 (by decide) rfl rfl (Nat.le_of_ble_eq_true rfl) ⟨Nat.le_of_ble_eq_true rfl, Nat.le_of_ble_eq_true rfl⟩ (Nat.le_of_ble_eq_true rfl) rfl ?_
      refine Cli.mono h (fun r1 m1 h => ?_)
      have hj : Tj mX12_closed 74 [some (rV 145), some (iV x1), none, some (iV x3)] [iV (if r1 = 0 then 0 else 1), iV x2] m1 P := by
        generalize hv1 : ((if r1 = 0 then 0 else 1) : Int) = v1
        have h := h v1 hv1.symm
        obtain ⟨⟨o6, o7⟩, h⟩ := h
        refine Tj.iadd dX12_closed_74 o6 rfl ?_
        refine Tj.istore_n dX12_closed_75 (Nat.le_of_ble_eq_true rfl) rfl rfl ?_
        refine Tj.iinc dX12_closed_76 rfl (Nat.le_of_ble_eq_true rfl) rfl o7 rfl ?_
        refine Tj.goto dX12_closed_79 rfl ?_
        exact Tj.cut h ⟨rfl, ⟨rfl, ⟨rfl, ⟨rfl, trivial⟩⟩⟩⟩
      refine Tj.if_eq dX12_closed_66 rfl rfl (fun c3 => ?_) (fun c3 => ?_)
      · refine Tj.iconst dX12_closed_73 (by decide) rfl ?_
        try simp only [if_pos c3] at hj ⊢
        exact Tj.cut hj ⟨rfl, ⟨rfl, ⟨rfl, trivial⟩⟩⟩
      · refine Tj.iconst dX12_closed_69 (by decide) rfl ?_
        refine Tj.goto dX12_closed_70 rfl ?_
        try simp only [if_neg c3] at hj ⊢
        exact Tj.cut hj ⟨rfl, ⟨rfl, ⟨rfl, trivial⟩⟩⟩
  · have h := h.2 c1
    refine Tj.iload_n dX12_closed_82 rfl rfl ?_
    refine Tj.iconst dX12_closed_83 (by decide) rfl ?_
    refine Tj.icmp_eq dX12_closed_84 rfl rfl (fun c4 => ?_) (fun c4 => ?_)
    · have h := h.1 c4
      obtain ⟨o8, h⟩ := h
      refine Tj.iinc dX12_closed_89 rfl (Nat.le_of_ble_eq_true rfl) rfl o8 rfl ?_
      refine Tj.goto dX12_closed_92 rfl ?_
      exact Tj.cut h ⟨rfl, ⟨rfl, trivial⟩⟩
    · have h := h.2 c4
      refine Tj.iconst dX12_closed_87 (by decide) rfl ?_
      exact Tj.iret dX12_closed_88 rfl h

theorem wX12_writeForm_0 {m : tM} {P : Option tV → tM → Prop}   (h : Tj mX12_writeForm 8 [some (rV 145), some (iV 60), some (iV 60), some (iV 0)] [] m P) : Tj mX12_writeForm 0 [some (rV 145)] [] m P := by
  refine Tj.bipush dX12_writeForm_0 (by decide) (by decide +kernel) rfl ?_
  refine Tj.istore_n dX12_writeForm_2 (Nat.le_of_ble_eq_true rfl) rfl rfl ?_
  refine Tj.bipush dX12_writeForm_3 (by decide) (by decide +kernel) rfl ?_
  refine Tj.istore_n dX12_writeForm_5 (Nat.le_of_ble_eq_true rfl) rfl rfl ?_
  refine Tj.iconst dX12_writeForm_6 (by decide) rfl ?_
  refine Tj.istore_n dX12_writeForm_7 (Nat.le_of_ble_eq_true rfl) rfl rfl ?_
  exact Tj.cut h ⟨rfl, ⟨rfl, ⟨rfl, ⟨rfl, trivial⟩⟩⟩⟩

theorem wX12_writeForm_8 {m : tM} {P : Option tV → tM → Prop} {x1 : Int} {x2 : Int} {x3 : Int}  (h : (x3 < (m 145 4) → ((0 ≤ x3 ∧ x3 < 60) ∧ (((m 149 x3) < x1 → (((m 150 x3) < x2 → ((R32 (x3 + 1)) ∧ (Tj mX12_writeForm 8 [some (rV 145), some (iV (m 149 x3)), some (iV (m 150 x3)), some (iV (x3 + 1))] [] m P))) ∧ (¬ (m 150 x3) < x2 → ((R32 (x3 + 1)) ∧ (Tj mX12_writeForm 8 [some (rV 145), some (iV (m 149 x3)), some (iV x2), some (iV (x3 + 1))] [] m P))))) ∧ (¬ (m 149 x3) < x1 → (((m 150 x3) < x2 → ((R32 (x3 + 1)) ∧ (Tj mX12_writeForm 8 [some (rV 145), some (iV x1), some (iV (m 150 x3)), some (iV (x3 + 1))] [] m P))) ∧ (¬ (m 150 x3) < x2 → ((R32 (x3 + 1)) ∧ (Tj mX12_writeForm 8 [some (rV 145), some (iV x1), some (iV x2), some (iV (x3 + 1))] [] m P)))))))) ∧ (¬ x3 < (m 145 4) → (Tj mX12_writeForm 66 [some (rV 145), some (iV x1), some (iV x2), some (iV 0)] [] m P))) : Tj mX12_writeForm 8 [some (rV 145), some (iV x1), some (iV x2), some (iV x3)] [] m P := by
  refine Tj.iload_n dX12_writeForm_8 rfl rfl ?_
  refine Tj.aload_n dX12_writeForm_9 rfl rfl ?_
  refine Tj.gI (j := 4) dX12_writeForm_10 fl_X12_127 sh_145 rfl rfl ?_
  refine Tj.icmp_ge dX12_writeForm_13 rfl rfl (fun c1 => ?_) (fun c1 => ?_)
  · have h := h.1 c1
    obtain ⟨⟨o1, o2⟩, h⟩ := h
    refine Tj.aload_n dX12_writeForm_16 rfl rfl ?_
    refine Tj.getR (b := 149) dX12_writeForm_17 fl_X12_19 sh_145 rfl rfl ?_
    refine Tj.iload_n dX12_writeForm_20 rfl rfl ?_
    refine Tj.iald dX12_writeForm_21 sh_149 o1 o2 rfl ?_
    refine Tj.iload_n dX12_writeForm_22 rfl rfl ?_
    refine Tj.icmp_ge dX12_writeForm_23 rfl rfl (fun c2 => ?_) (fun c2 => ?_)
    · have h := h.1 c2
      refine Tj.aload_n dX12_writeForm_26 rfl rfl ?_
      refine Tj.getR (b := 149) dX12_writeForm_27 fl_X12_19 sh_145 rfl rfl ?_
      refine Tj.iload_n dX12_writeForm_30 rfl rfl ?_
      refine Tj.iald dX12_writeForm_31 sh_149 o1 o2 rfl ?_
      refine Tj.goto dX12_writeForm_32 rfl ?_
      refine Tj.istore_n dX12_writeForm_36 (Nat.le_of_ble_eq_true rfl) rfl rfl ?_
      refine Tj.aload_n dX12_writeForm_37 rfl rfl ?_
      refine Tj.getR (b := 150) dX12_writeForm_38 fl_X12_22 sh_145 rfl rfl ?_
      refine Tj.iload_n dX12_writeForm_41 rfl rfl ?_
      refine Tj.iald dX12_writeForm_42 sh_150 o1 o2 rfl ?_
      refine Tj.iload_n dX12_writeForm_43 rfl rfl ?_
      refine Tj.icmp_ge dX12_writeForm_44 rfl rfl (fun c3 => ?_) (fun c3 => ?_)
      · have h := h.1 c3
        obtain ⟨o3, h⟩ := h
        refine Tj.aload_n dX12_writeForm_47 rfl rfl ?_
        refine Tj.getR (b := 150) dX12_writeForm_48 fl_X12_22 sh_145 rfl rfl ?_
        refine Tj.iload_n dX12_writeForm_51 rfl rfl ?_
        refine Tj.iald dX12_writeForm_52 sh_150 o1 o2 rfl ?_
        refine Tj.goto dX12_writeForm_53 rfl ?_
        refine Tj.istore_n dX12_writeForm_57 (Nat.le_of_ble_eq_true rfl) rfl rfl ?_
        refine Tj.iinc dX12_writeForm_58 rfl (Nat.le_of_ble_eq_true rfl) rfl o3 rfl ?_
        refine Tj.goto dX12_writeForm_61 rfl ?_
        exact Tj.cut h ⟨rfl, ⟨rfl, ⟨rfl, ⟨rfl, trivial⟩⟩⟩⟩
      · have h := h.2 c3
        obtain ⟨o4, h⟩ := h
        refine Tj.iload_n dX12_writeForm_56 rfl rfl ?_
        refine Tj.istore_n dX12_writeForm_57 (Nat.le_of_ble_eq_true rfl) rfl rfl ?_
        refine Tj.iinc dX12_writeForm_58 rfl (Nat.le_of_ble_eq_true rfl) rfl o4 rfl ?_
        refine Tj.goto dX12_writeForm_61 rfl ?_
        exact Tj.cut h ⟨rfl, ⟨rfl, ⟨rfl, ⟨rfl, trivial⟩⟩⟩⟩
    · have h := h.2 c2
      refine Tj.iload_n dX12_writeForm_35 rfl rfl ?_
      refine Tj.istore_n dX12_writeForm_36 (Nat.le_of_ble_eq_true rfl) rfl rfl ?_
      refine Tj.aload_n dX12_writeForm_37 rfl rfl ?_
      refine Tj.getR (b := 150) dX12_writeForm_38 fl_X12_22 sh_145 rfl rfl ?_
      refine Tj.iload_n dX12_writeForm_41 rfl rfl ?_
      refine Tj.iald dX12_writeForm_42 sh_150 o1 o2 rfl ?_
      refine Tj.iload_n dX12_writeForm_43 rfl rfl ?_
      refine Tj.icmp_ge dX12_writeForm_44 rfl rfl (fun c4 => ?_) (fun c4 => ?_)
      · have h := h.1 c4
        obtain ⟨o5, h⟩ := h
        refine Tj.aload_n dX12_writeForm_47 rfl rfl ?_
        refine Tj.getR (b := 150) dX12_writeForm_48 fl_X12_22 sh_145 rfl rfl ?_
        refine Tj.iload_n dX12_writeForm_51 rfl rfl ?_
        refine Tj.iald dX12_writeForm_52 sh_150 o1 o2 rfl ?_
        refine Tj.goto dX12_writeForm_53 rfl ?_
        refine Tj.istore_n dX12_writeForm_57 (Nat.le_of_ble_eq_true rfl) rfl rfl ?_
        refine Tj.iinc dX12_writeForm_58 rfl (Nat.le_of_ble_eq_true rfl) rfl o5 rfl ?_
        refine Tj.goto dX12_writeForm_61 rfl ?_
        exact Tj.cut h ⟨rfl, ⟨rfl, ⟨rfl, ⟨rfl, trivial⟩⟩⟩⟩
      · have h := h.2 c4
        obtain ⟨o6, h⟩ := h
        refine Tj.iload_n dX12_writeForm_56 rfl rfl ?_
        refine Tj.istore_n dX12_writeForm_57 (Nat.le_of_ble_eq_true rfl) rfl rfl ?_
        refine Tj.iinc dX12_writeForm_58 rfl (Nat.le_of_ble_eq_true rfl) rfl o6 rfl ?_
        refine Tj.goto dX12_writeForm_61 rfl ?_
        exact Tj.cut h ⟨rfl, ⟨rfl, ⟨rfl, ⟨rfl, trivial⟩⟩⟩⟩
  · have h := h.2 c1
    refine Tj.iconst dX12_writeForm_64 (by decide) rfl ?_
    refine Tj.istore_n dX12_writeForm_65 (Nat.le_of_ble_eq_true rfl) rfl rfl ?_
    exact Tj.cut h ⟨rfl, ⟨rfl, ⟨rfl, ⟨rfl, trivial⟩⟩⟩⟩

theorem wX12_writeForm_66 {m : tM} {P : Option tV → tM → Prop} {x1 : Int} {x2 : Int} {x3 : Int}  (h : (x3 < (m 145 4) → ((R32 (4 * x3) ∧ 0 ≤ x3 ∧ x3 < 60 ∧ R32 ((m 150 x3) - x2) ∧ 0 ≤ (4 * x3) ∧ (4 * x3) < 240 ∧ R32 ((4 * x3) + 1) ∧ R32 ((m 149 x3) - x1) ∧ 0 ≤ ((4 * x3) + 1) ∧ ((4 * x3) + 1) < 240 ∧ R32 ((4 * x3) + 2)) ∧ (((m 151 x3) = 0 → ((0 ≤ ((4 * x3) + 2) ∧ ((4 * x3) + 2) < 240 ∧ R32 ((4 * x3) + 3)) ∧ (((m 152 x3) = 0 → ((0 ≤ ((4 * x3) + 3) ∧ ((4 * x3) + 3) < 240 ∧ R32 (x3 + 1)) ∧ (Tj mX12_writeForm 66 [some (rV 145), some (iV x1), some (iV x2), some (iV (x3 + 1))] [] (up (up (up (up m 175 (4 * x3) ((m 150 x3) - x2)) 175 ((4 * x3) + 1) ((m 149 x3) - x1)) 175 ((4 * x3) + 2) 0) 175 ((4 * x3) + 3) 0) P))) ∧ (¬ (m 152 x3) = 0 → ((0 ≤ ((4 * x3) + 3) ∧ ((4 * x3) + 3) < 240 ∧ R32 (x3 + 1)) ∧ (Tj mX12_writeForm 66 [some (rV 145), some (iV x1), some (iV x2), some (iV (x3 + 1))] [] (up (up (up (up m 175 (4 * x3) ((m 150 x3) - x2)) 175 ((4 * x3) + 1) ((m 149 x3) - x1)) 175 ((4 * x3) + 2) 0) 175 ((4 * x3) + 3) (m 152 x3)) P)))))) ∧ (¬ (m 151 x3) = 0 → ((0 ≤ ((4 * x3) + 2) ∧ ((4 * x3) + 2) < 240 ∧ R32 ((4 * x3) + 3)) ∧ (((m 152 x3) = 0 → ((0 ≤ ((4 * x3) + 3) ∧ ((4 * x3) + 3) < 240 ∧ R32 (x3 + 1)) ∧ (Tj mX12_writeForm 66 [some (rV 145), some (iV x1), some (iV x2), some (iV (x3 + 1))] [] (up (up (up (up m 175 (4 * x3) ((m 150 x3) - x2)) 175 ((4 * x3) + 1) ((m 149 x3) - x1)) 175 ((4 * x3) + 2) (m 151 x3)) 175 ((4 * x3) + 3) 0) P))) ∧ (¬ (m 152 x3) = 0 → ((0 ≤ ((4 * x3) + 3) ∧ ((4 * x3) + 3) < 240 ∧ R32 (x3 + 1)) ∧ (Tj mX12_writeForm 66 [some (rV 145), some (iV x1), some (iV x2), some (iV (x3 + 1))] [] (up (up (up (up m 175 (4 * x3) ((m 150 x3) - x2)) 175 ((4 * x3) + 1) ((m 149 x3) - x1)) 175 ((4 * x3) + 2) (m 151 x3)) 175 ((4 * x3) + 3) (m 152 x3)) P))))))))) ∧ (¬ x3 < (m 145 4) → (P none m))) : Tj mX12_writeForm 66 [some (rV 145), some (iV x1), some (iV x2), some (iV x3)] [] m P := by
  refine Tj.iload_n dX12_writeForm_66 rfl rfl ?_
  refine Tj.aload_n dX12_writeForm_67 rfl rfl ?_
  refine Tj.gI (j := 4) dX12_writeForm_68 fl_X12_127 sh_145 rfl rfl ?_
  refine Tj.icmp_ge dX12_writeForm_71 rfl rfl (fun c1 => ?_) (fun c1 => ?_)
  · have h := h.1 c1
    obtain ⟨⟨o1, o2, o3, o4, o5, o6, o7, o8, o9, o10, o11⟩, h⟩ := h
    refine Tj.aload_n dX12_writeForm_74 rfl rfl ?_
    refine Tj.getR (b := 175) dX12_writeForm_75 fl_X12_97 sh_145 rfl rfl ?_
    refine Tj.iconst dX12_writeForm_78 (by decide) rfl ?_
    refine Tj.iload_n dX12_writeForm_79 rfl rfl ?_
    refine Tj.imul dX12_writeForm_80 o1 rfl ?_
    refine Tj.aload_n dX12_writeForm_81 rfl rfl ?_
    refine Tj.getR (b := 150) dX12_writeForm_82 fl_X12_22 sh_145 rfl rfl ?_
    refine Tj.iload_n dX12_writeForm_85 rfl rfl ?_
    refine Tj.iald dX12_writeForm_86 sh_150 o2 o3 rfl ?_
    refine Tj.iload_n dX12_writeForm_87 rfl rfl ?_
    refine Tj.isub dX12_writeForm_88 o4 rfl ?_
    refine Tj.iast dX12_writeForm_89 sh_175 o5 o6 rfl ?_
    refine Tj.aload_n dX12_writeForm_90 rfl rfl ?_
    refine Tj.getR (b := 175) dX12_writeForm_91 fl_X12_97 sh_145 rfl rfl ?_
    refine Tj.iconst dX12_writeForm_94 (by decide) rfl ?_
    refine Tj.iload_n dX12_writeForm_95 rfl rfl ?_
    refine Tj.imul dX12_writeForm_96 o1 rfl ?_
    refine Tj.iconst dX12_writeForm_97 (by decide) rfl ?_
    refine Tj.iadd dX12_writeForm_98 o7 rfl ?_
    refine Tj.aload_n dX12_writeForm_99 rfl rfl ?_
    refine Tj.getR (b := 149) dX12_writeForm_100 fl_X12_19 sh_145 rfl rfl ?_
    refine Tj.iload_n dX12_writeForm_103 rfl rfl ?_
    refine Tj.iald dX12_writeForm_104 sh_149 o2 o3 rfl ?_
    refine Tj.iload_n dX12_writeForm_105 rfl rfl ?_
    refine Tj.isub dX12_writeForm_106 o8 rfl ?_
    refine Tj.iast dX12_writeForm_107 sh_175 o9 o10 rfl ?_
    refine Tj.aload_n dX12_writeForm_108 rfl rfl ?_
    refine Tj.getR (b := 175) dX12_writeForm_109 fl_X12_97 sh_145 rfl rfl ?_
    refine Tj.iconst dX12_writeForm_112 (by decide) rfl ?_
    refine Tj.iload_n dX12_writeForm_113 rfl rfl ?_
    refine Tj.imul dX12_writeForm_114 o1 rfl ?_
    refine Tj.iconst dX12_writeForm_115 (by decide) rfl ?_
    refine Tj.iadd dX12_writeForm_116 o11 rfl ?_
    refine Tj.aload_n dX12_writeForm_117 rfl rfl ?_
    refine Tj.getR (b := 151) dX12_writeForm_118 fl_X12_25 sh_145 rfl rfl ?_
    refine Tj.iload_n dX12_writeForm_121 rfl rfl ?_
    refine Tj.iald dX12_writeForm_122 sh_151 o2 o3 rfl ?_
    refine Tj.if_ne dX12_writeForm_123 rfl rfl (fun c2 => ?_) (fun c2 => ?_)
    · have h := h.1 c2
      obtain ⟨⟨o12, o13, o14⟩, h⟩ := h
      refine Tj.iconst dX12_writeForm_126 (by decide) rfl ?_
      refine Tj.goto dX12_writeForm_127 rfl ?_
      refine Tj.iast dX12_writeForm_136 sh_175 o12 o13 rfl ?_
      refine Tj.aload_n dX12_writeForm_137 rfl rfl ?_
      refine Tj.getR (b := 175) dX12_writeForm_138 fl_X12_97 sh_145 rfl rfl ?_
      refine Tj.iconst dX12_writeForm_141 (by decide) rfl ?_
      refine Tj.iload_n dX12_writeForm_142 rfl rfl ?_
      refine Tj.imul dX12_writeForm_143 o1 rfl ?_
      refine Tj.iconst dX12_writeForm_144 (by decide) rfl ?_
      refine Tj.iadd dX12_writeForm_145 o14 rfl ?_
      refine Tj.aload_n dX12_writeForm_146 rfl rfl ?_
      refine Tj.getR (b := 152) dX12_writeForm_147 fl_X12_28 sh_145 rfl rfl ?_
      refine Tj.iload_n dX12_writeForm_150 rfl rfl ?_
      refine Tj.iald dX12_writeForm_151 sh_152 o2 o3 rfl ?_
      refine Tj.if_ne dX12_writeForm_152 rfl rfl (fun c3 => ?_) (fun c3 => ?_)
      · have h := h.1 c3
        obtain ⟨⟨o15, o16, o17⟩, h⟩ := h
        refine Tj.iconst dX12_writeForm_155 (by decide) rfl ?_
        refine Tj.goto dX12_writeForm_156 rfl ?_
        refine Tj.iast dX12_writeForm_165 sh_175 o15 o16 rfl ?_
        refine Tj.iinc dX12_writeForm_166 rfl (Nat.le_of_ble_eq_true rfl) rfl o17 rfl ?_
        refine Tj.goto dX12_writeForm_169 rfl ?_
        exact Tj.cut h ⟨rfl, ⟨rfl, ⟨rfl, ⟨rfl, trivial⟩⟩⟩⟩
      · have h := h.2 c3
        obtain ⟨⟨o18, o19, o20⟩, h⟩ := h
        refine Tj.aload_n dX12_writeForm_159 rfl rfl ?_
        refine Tj.getR (b := 152) dX12_writeForm_160 fl_X12_28 sh_145 rfl rfl ?_
        refine Tj.iload_n dX12_writeForm_163 rfl rfl ?_
        refine Tj.iald dX12_writeForm_164 sh_152 o2 o3 rfl ?_
        refine Tj.iast dX12_writeForm_165 sh_175 o18 o19 rfl ?_
        refine Tj.iinc dX12_writeForm_166 rfl (Nat.le_of_ble_eq_true rfl) rfl o20 rfl ?_
        refine Tj.goto dX12_writeForm_169 rfl ?_
        exact Tj.cut h ⟨rfl, ⟨rfl, ⟨rfl, ⟨rfl, trivial⟩⟩⟩⟩
    · have h := h.2 c2
      obtain ⟨⟨o21, o22, o23⟩, h⟩ := h
      refine Tj.aload_n dX12_writeForm_130 rfl rfl ?_
      refine Tj.getR (b := 151) dX12_writeForm_131 fl_X12_25 sh_145 rfl rfl ?_
      refine Tj.iload_n dX12_writeForm_134 rfl rfl ?_
      refine Tj.iald dX12_writeForm_135 sh_151 o2 o3 rfl ?_
      refine Tj.iast dX12_writeForm_136 sh_175 o21 o22 rfl ?_
      refine Tj.aload_n dX12_writeForm_137 rfl rfl ?_
      refine Tj.getR (b := 175) dX12_writeForm_138 fl_X12_97 sh_145 rfl rfl ?_
      refine Tj.iconst dX12_writeForm_141 (by decide) rfl ?_
      refine Tj.iload_n dX12_writeForm_142 rfl rfl ?_
      refine Tj.imul dX12_writeForm_143 o1 rfl ?_
      refine Tj.iconst dX12_writeForm_144 (by decide) rfl ?_
      refine Tj.iadd dX12_writeForm_145 o23 rfl ?_
      refine Tj.aload_n dX12_writeForm_146 rfl rfl ?_
      refine Tj.getR (b := 152) dX12_writeForm_147 fl_X12_28 sh_145 rfl rfl ?_
      refine Tj.iload_n dX12_writeForm_150 rfl rfl ?_
      refine Tj.iald dX12_writeForm_151 sh_152 o2 o3 rfl ?_
      refine Tj.if_ne dX12_writeForm_152 rfl rfl (fun c4 => ?_) (fun c4 => ?_)
      · have h := h.1 c4
        obtain ⟨⟨o24, o25, o26⟩, h⟩ := h
        refine Tj.iconst dX12_writeForm_155 (by decide) rfl ?_
        refine Tj.goto dX12_writeForm_156 rfl ?_
        refine Tj.iast dX12_writeForm_165 sh_175 o24 o25 rfl ?_
        refine Tj.iinc dX12_writeForm_166 rfl (Nat.le_of_ble_eq_true rfl) rfl o26 rfl ?_
        refine Tj.goto dX12_writeForm_169 rfl ?_
        exact Tj.cut h ⟨rfl, ⟨rfl, ⟨rfl, ⟨rfl, trivial⟩⟩⟩⟩
      · have h := h.2 c4
        obtain ⟨⟨o27, o28, o29⟩, h⟩ := h
        refine Tj.aload_n dX12_writeForm_159 rfl rfl ?_
        refine Tj.getR (b := 152) dX12_writeForm_160 fl_X12_28 sh_145 rfl rfl ?_
        refine Tj.iload_n dX12_writeForm_163 rfl rfl ?_
        refine Tj.iald dX12_writeForm_164 sh_152 o2 o3 rfl ?_
        refine Tj.iast dX12_writeForm_165 sh_175 o27 o28 rfl ?_
        refine Tj.iinc dX12_writeForm_166 rfl (Nat.le_of_ble_eq_true rfl) rfl o29 rfl ?_
        refine Tj.goto dX12_writeForm_169 rfl ?_
        exact Tj.cut h ⟨rfl, ⟨rfl, ⟨rfl, ⟨rfl, trivial⟩⟩⟩⟩
  · have h := h.2 c1
    exact Tj.vret dX12_writeForm_172 rfl h

theorem wX12_compare_0 {m : tM} {P : Option tV → tM → Prop} {p : Nat} {np : Nat} {q : Nat} {nq : Nat}  (h : Tj mX12_compare 2 [some (rV 145), some (rV p), some (rV q), some (iV 0)] [] m P) : Tj mX12_compare 0 [some (rV 145), some (rV p), some (rV q)] [] m P := by
  refine Tj.iconst dX12_compare_0 (by decide) rfl ?_
  refine Tj.istore_n dX12_compare_1 (Nat.le_of_ble_eq_true rfl) rfl rfl ?_
  exact Tj.cut h ⟨rfl, ⟨rfl, ⟨rfl, ⟨rfl, trivial⟩⟩⟩⟩

theorem wX12_compare_2 {m : tM} {P : Option tV → tM → Prop} {p : Nat} {np : Nat} {q : Nat} {nq : Nat} {x3 : Int} (s_p0 : shp p = some (20, np)) (s_q0 : shp q = some (20, nq)) (h : (R32 (4 * (m 145 4))) ∧ ((x3 < (4 * (m 145 4)) → ((0 ≤ x3 ∧ x3 < np ∧ x3 < nq) ∧ (((m p x3) = (m q x3) → ((R32 (x3 + 1)) ∧ (Tj mX12_compare 2 [some (rV 145), some (rV p), some (rV q), some (iV (x3 + 1))] [] m P))) ∧ (¬ (m p x3) = (m q x3) → (∀ v1 : Int, v1 = (if (m p x3) < (m q x3) then (-1) else 1) → (P (some (iV v1)) m)))))) ∧ (¬ x3 < (4 * (m 145 4)) → (P (some (iV 0)) m)))) : Tj mX12_compare 2 [some (rV 145), some (rV p), some (rV q), some (iV x3)] [] m P := by
  obtain ⟨o1, h⟩ := h
  refine Tj.iload_n dX12_compare_2 rfl rfl ?_
  refine Tj.iconst dX12_compare_3 (by decide) rfl ?_
  refine Tj.aload_n dX12_compare_4 rfl rfl ?_
  refine Tj.gI (j := 4) dX12_compare_5 fl_X12_127 sh_145 rfl rfl ?_
  refine Tj.imul dX12_compare_8 o1 rfl ?_
  refine Tj.icmp_ge dX12_compare_9 rfl rfl (fun c1 => ?_) (fun c1 => ?_)
  · have h := h.1 c1
    obtain ⟨⟨o2, o3, o4⟩, h⟩ := h
    refine Tj.aload_n dX12_compare_12 rfl rfl ?_
    refine Tj.iload_n dX12_compare_13 rfl rfl ?_
    refine Tj.iald dX12_compare_14 s_p0 o2 o3 rfl ?_
    refine Tj.aload_n dX12_compare_15 rfl rfl ?_
    refine Tj.iload_n dX12_compare_16 rfl rfl ?_
    refine Tj.iald dX12_compare_17 s_q0 o2 o4 rfl ?_
    refine Tj.icmp_eq dX12_compare_18 rfl rfl (fun c2 => ?_) (fun c2 => ?_)
    · have h := h.1 c2
      obtain ⟨o5, h⟩ := h
      refine Tj.iinc dX12_compare_36 rfl (Nat.le_of_ble_eq_true rfl) rfl o5 rfl ?_
      refine Tj.goto dX12_compare_39 rfl ?_
      exact Tj.cut h ⟨rfl, ⟨rfl, ⟨rfl, ⟨rfl, trivial⟩⟩⟩⟩
    · have h := h.2 c2
      refine Tj.aload_n dX12_compare_21 rfl rfl ?_
      refine Tj.iload_n dX12_compare_22 rfl rfl ?_
      refine Tj.iald dX12_compare_23 s_p0 o2 o3 rfl ?_
      refine Tj.aload_n dX12_compare_24 rfl rfl ?_
      refine Tj.iload_n dX12_compare_25 rfl rfl ?_
      refine Tj.iald dX12_compare_26 s_q0 o2 o4 rfl ?_
      have hj : Tj mX12_compare 35 [] [iV (if (m p x3) < (m q x3) then (-1) else 1)] m P := by
        generalize hv1 : ((if (m p x3) < (m q x3) then (-1) else 1) : Int) = v1
        have h := h v1 hv1.symm
        exact Tj.iret dX12_compare_35 rfl h
      refine Tj.icmp_ge dX12_compare_27 rfl rfl (fun c3 => ?_) (fun c3 => ?_)
      · refine Tj.iconst dX12_compare_30 (by decide) rfl ?_
        refine Tj.goto dX12_compare_31 rfl ?_
        try simp only [if_pos c3] at hj ⊢
        exact Tj.cut hj trivial
      · refine Tj.iconst dX12_compare_34 (by decide) rfl ?_
        try simp only [if_neg c3] at hj ⊢
        exact Tj.cut hj trivial
  · have h := h.2 c1
    refine Tj.iconst dX12_compare_42 (by decide) rfl ?_
    exact Tj.iret dX12_compare_43 rfl h

theorem wX12_findForm_0 {m : tM} {P : Option tV → tM → Prop}   (h : Clv mX12_writeForm [rV 145] m (fun m1 => (Tj mX12_findForm 6 [some (rV 145), some (iV 0)] [] m1 P))) : Tj mX12_findForm 0 [some (rV 145)] [] m P := by
  refine Tj.aload_n dX12_findForm_0 rfl rfl ?_
  refine Tj.callVv (as := []) (rest := []) dX12_findForm_1 ln_X12_291 sh_145 (by decide) rfl rfl (Nat.le_of_ble_eq_true rfl) ⟨Nat.le_of_ble_eq_true rfl, Nat.le_of_ble_eq_true rfl⟩ (Nat.le_of_ble_eq_true rfl) rfl ?_
  refine Clv.mono h (fun m1 h => ?_)
  refine Tj.iconst dX12_findForm_4 (by decide) rfl ?_
  refine Tj.istore_n dX12_findForm_5 (Nat.le_of_ble_eq_true rfl) rfl rfl ?_
  exact Tj.cut h ⟨rfl, ⟨rfl, trivial⟩⟩

theorem wX12_findForm_6 {m : tM} {P : Option tV → tM → Prop} {x1 : Int}  (h : (R32 (4 * (m 145 4))) ∧ ((x1 < (4 * (m 145 4)) → ((0 ≤ x1 ∧ x1 < 240 ∧ R32 (x1 + 1)) ∧ (Tj mX12_findForm 6 [some (rV 145), some (iV (x1 + 1))] [] (up m 174 x1 (m 175 x1)) P))) ∧ (¬ x1 < (4 * (m 145 4)) → (Tj mX12_findForm 41 [some (rV 145), some (iV 0)] [] (up m 145 39 0) P)))) : Tj mX12_findForm 6 [some (rV 145), some (iV x1)] [] m P := by
  obtain ⟨o1, h⟩ := h
  refine Tj.iload_n dX12_findForm_6 rfl rfl ?_
  refine Tj.iconst dX12_findForm_7 (by decide) rfl ?_
  refine Tj.aload_n dX12_findForm_8 rfl rfl ?_
  refine Tj.gI (j := 4) dX12_findForm_9 fl_X12_127 sh_145 rfl rfl ?_
  refine Tj.imul dX12_findForm_12 o1 rfl ?_
  refine Tj.icmp_ge dX12_findForm_13 rfl rfl (fun c1 => ?_) (fun c1 => ?_)
  · have h := h.1 c1
    obtain ⟨⟨o2, o3, o4⟩, h⟩ := h
    refine Tj.aload_n dX12_findForm_16 rfl rfl ?_
    refine Tj.getR (b := 174) dX12_findForm_17 fl_X12_94 sh_145 rfl rfl ?_
    refine Tj.iload_n dX12_findForm_20 rfl rfl ?_
    refine Tj.aload_n dX12_findForm_21 rfl rfl ?_
    refine Tj.getR (b := 175) dX12_findForm_22 fl_X12_97 sh_145 rfl rfl ?_
    refine Tj.iload_n dX12_findForm_25 rfl rfl ?_
    refine Tj.iald dX12_findForm_26 sh_175 o2 o3 rfl ?_
    refine Tj.iast dX12_findForm_27 sh_174 o2 o3 rfl ?_
    refine Tj.iinc dX12_findForm_28 rfl (Nat.le_of_ble_eq_true rfl) rfl o4 rfl ?_
    refine Tj.goto dX12_findForm_31 rfl ?_
    exact Tj.cut h ⟨rfl, ⟨rfl, trivial⟩⟩
  · have h := h.2 c1
    refine Tj.aload_n dX12_findForm_34 rfl rfl ?_
    refine Tj.iconst dX12_findForm_35 (by decide) rfl ?_
    refine Tj.pI (j := 39) dX12_findForm_36 fp_X12_294 sh_145 rfl rfl ?_
    refine Tj.iconst dX12_findForm_39 (by decide) rfl ?_
    refine Tj.istore_n dX12_findForm_40 (Nat.le_of_ble_eq_true rfl) rfl rfl ?_
    exact Tj.cut h ⟨rfl, ⟨rfl, trivial⟩⟩

theorem wX12_findForm_41 {m : tM} {P : Option tV → tM → Prop} {x1 : Int}  (h : (x1 < 8 → (Clv mX12_writeForm [rV 145] m (fun m1 => (Cli mX12_compare [rV 145, rV 175, rV 174] m1 (fun r1 m2 => ((r1 < 0 → (Tj mX12_findForm 75 [some (rV 145), some (iV x1), some (iV r1), some (iV 0)] [] (up m2 145 39 0) P)) ∧ (¬ r1 < 0 → (∀ v1 : Int, v1 = (if 0 < r1 then 0 else 1) → ((R32 ((m2 145 39) + v1)) ∧ (Clv mX12_turned [rV 145, iV 0] (up m2 145 39 ((m2 145 39) + v1)) (fun m3 => ((x1 = 3 → (Clv mX12_turned [rV 145, iV 1] m3 (fun m4 => ((R32 (x1 + 1)) ∧ (Tj mX12_findForm 41 [some (rV 145), some (iV (x1 + 1))] [] m4 P))))) ∧ (¬ x1 = 3 → ((x1 = 7 → (Clv mX12_turned [rV 145, iV 1] m3 (fun m5 => ((R32 (x1 + 1)) ∧ (Tj mX12_findForm 41 [some (rV 145), some (iV (x1 + 1))] [] m5 P))))) ∧ (¬ x1 = 7 → ((R32 (x1 + 1)) ∧ (Tj mX12_findForm 41 [some (rV 145), some (iV (x1 + 1))] [] m3 P))))))))))))))))) ∧ (¬ x1 < 8 → (P none m))) : Tj mX12_findForm 41 [some (rV 145), some (iV x1)] [] m P := by
  refine Tj.iload_n dX12_findForm_41 rfl rfl ?_
  refine Tj.bipush dX12_findForm_42 (by decide) (by decide +kernel) rfl ?_
  refine Tj.icmp_ge dX12_findForm_44 rfl rfl (fun c1 => ?_) (fun c1 => ?_)
  · have h := h.1 c1
    refine Tj.aload_n dX12_findForm_47 rfl rfl ?_
    refine Tj.callVv (as := []) (rest := []) dX12_findForm_48 ln_X12_291 sh_145 (by decide) rfl rfl (Nat.le_of_ble_eq_true rfl) ⟨Nat.le_of_ble_eq_true rfl, Nat.le_of_ble_eq_true rfl⟩ (Nat.le_of_ble_eq_true rfl) rfl ?_
    refine Clv.mono h (fun m1 h => ?_)
    refine Tj.aload_n dX12_findForm_51 rfl rfl ?_
    refine Tj.aload_n dX12_findForm_52 rfl rfl ?_
    refine Tj.getR (b := 175) dX12_findForm_53 fl_X12_97 sh_145 rfl rfl ?_
    refine Tj.aload_n dX12_findForm_56 rfl rfl ?_
    refine Tj.getR (b := 174) dX12_findForm_57 fl_X12_94 sh_145 rfl rfl ?_
    refine Tj.callVi (as := [_, _]) (rest := []) dX12_findForm_60 ln_X12_297 sh_145 (by decide) rfl rfl (Nat.le_of_ble_eq_true rfl) ⟨Nat.le_of_ble_eq_true rfl, Nat.le_of_ble_eq_true rfl⟩ (Nat.le_of_ble_eq_true rfl) rfl ?_
    refine Cli.mono h (fun r1 m2 h => ?_)
    refine Tj.istore_n dX12_findForm_63 (Nat.le_of_ble_eq_true rfl) rfl rfl ?_
    refine Tj.iload_n dX12_findForm_64 rfl rfl ?_
    refine Tj.if_ge dX12_findForm_65 rfl rfl (fun c2 => ?_) (fun c2 => ?_)
    · have h := h.1 c2
      refine Tj.aload_n dX12_findForm_68 rfl rfl ?_
      refine Tj.iconst dX12_findForm_69 (by decide) rfl ?_
      refine Tj.pI (j := 39) dX12_findForm_70 fp_X12_294 sh_145 rfl rfl ?_
      refine Tj.iconst dX12_findForm_73 (by decide) rfl ?_
      refine Tj.istore_n dX12_findForm_74 (Nat.le_of_ble_eq_true rfl) rfl rfl ?_
      exact Tj.cut h ⟨rfl, ⟨rfl, ⟨rfl, ⟨rfl, trivial⟩⟩⟩⟩
    · have h := h.2 c2
      refine Tj.aload_n dX12_findForm_103 rfl rfl ?_
      refine Tj.dup dX12_findForm_104 rfl rfl ?_
      refine Tj.gI (j := 39) dX12_findForm_105 fl_X12_294 sh_145 rfl rfl ?_
      refine Tj.iload_n dX12_findForm_108 rfl rfl ?_
      have hj : Tj mX12_findForm 117 [some (rV 145), some (iV x1)] [iV (if 0 < r1 then 0 else 1), iV (m2 145 39), rV 145] m2 P := by
        generalize hv1 : ((if 0 < r1 then 0 else 1) : Int) = v1
        have h := h v1 hv1.symm
        obtain ⟨o1, h⟩ := h
        refine Tj.iadd dX12_findForm_117 o1 rfl ?_
        refine Tj.pI (j := 39) dX12_findForm_118 fp_X12_294 sh_145 rfl rfl ?_
        refine Tj.aload_n dX12_findForm_121 rfl rfl ?_
        refine Tj.iconst dX12_findForm_122 (by decide) rfl ?_
        refine Tj.callVv (as := [_]) (rest := []) dX12_findForm_123 ln_X12_275 sh_145 (by decide) rfl rfl (Nat.le_of_ble_eq_true rfl) ⟨Nat.le_of_ble_eq_true rfl, Nat.le_of_ble_eq_true rfl⟩ (Nat.le_of_ble_eq_true rfl) rfl ?_
        refine Clv.mono h (fun m3 h => ?_)
        refine Tj.iload_n dX12_findForm_126 rfl rfl ?_
        refine Tj.iconst dX12_findForm_127 (by decide) rfl ?_
        refine Tj.icmp_eq dX12_findForm_128 rfl rfl (fun c4 => ?_) (fun c4 => ?_)
        · have h := h.1 c4
          refine Tj.aload_n dX12_findForm_137 rfl rfl ?_
          refine Tj.iconst dX12_findForm_138 (by decide) rfl ?_
          refine Tj.callVv (as := [_]) (rest := []) dX12_findForm_139 ln_X12_275 sh_145 (by decide) rfl rfl (Nat.le_of_ble_eq_true rfl) ⟨Nat.le_of_ble_eq_true rfl, Nat.le_of_ble_eq_true rfl⟩ (Nat.le_of_ble_eq_true rfl) rfl ?_
          refine Clv.mono h (fun m4 h => ?_)
          obtain ⟨o2, h⟩ := h
          refine Tj.iinc dX12_findForm_142 rfl (Nat.le_of_ble_eq_true rfl) rfl o2 rfl ?_
          refine Tj.goto dX12_findForm_145 rfl ?_
          exact Tj.cut h ⟨rfl, ⟨rfl, trivial⟩⟩
        · have h := h.2 c4
          refine Tj.iload_n dX12_findForm_131 rfl rfl ?_
          refine Tj.bipush dX12_findForm_132 (by decide) (by decide +kernel) rfl ?_
          refine Tj.icmp_ne dX12_findForm_134 rfl rfl (fun c5 => ?_) (fun c5 => ?_)
          · have h := h.1 c5
            refine Tj.aload_n dX12_findForm_137 rfl rfl ?_
            refine Tj.iconst dX12_findForm_138 (by decide) rfl ?_
            refine Tj.callVv (as := [_]) (rest := []) dX12_findForm_139 ln_X12_275 sh_145 (by decide) rfl rfl (Nat.le_of_ble_eq_true rfl) ⟨Nat.le_of_ble_eq_true rfl, Nat.le_of_ble_eq_true rfl⟩ (Nat.le_of_ble_eq_true rfl) rfl ?_
            refine Clv.mono h (fun m5 h => ?_)
            obtain ⟨o3, h⟩ := h
            refine Tj.iinc dX12_findForm_142 rfl (Nat.le_of_ble_eq_true rfl) rfl o3 rfl ?_
            refine Tj.goto dX12_findForm_145 rfl ?_
            exact Tj.cut h ⟨rfl, ⟨rfl, trivial⟩⟩
          · have h := h.2 c5
            obtain ⟨o4, h⟩ := h
            refine Tj.iinc dX12_findForm_142 rfl (Nat.le_of_ble_eq_true rfl) rfl o4 rfl ?_
            refine Tj.goto dX12_findForm_145 rfl ?_
            exact Tj.cut h ⟨rfl, ⟨rfl, trivial⟩⟩
      refine Tj.if_gt dX12_findForm_109 rfl rfl (fun c3 => ?_) (fun c3 => ?_)
      · refine Tj.iconst dX12_findForm_116 (by decide) rfl ?_
        try simp only [if_pos c3] at hj ⊢
        exact Tj.cut hj ⟨rfl, ⟨rfl, trivial⟩⟩
      · refine Tj.iconst dX12_findForm_112 (by decide) rfl ?_
        refine Tj.goto dX12_findForm_113 rfl ?_
        try simp only [if_neg c3] at hj ⊢
        exact Tj.cut hj ⟨rfl, ⟨rfl, trivial⟩⟩
  · have h := h.2 c1
    exact Tj.vret dX12_findForm_148 rfl h

theorem wX12_findForm_75 {m : tM} {P : Option tV → tM → Prop} {x1 : Int} {x2 : Int} {x3 : Int}  (h : (R32 (4 * (m 145 4))) ∧ ((x3 < (4 * (m 145 4)) → ((0 ≤ x3 ∧ x3 < 240 ∧ R32 (x3 + 1)) ∧ (Tj mX12_findForm 75 [some (rV 145), some (iV x1), some (iV x2), some (iV (x3 + 1))] [] (up m 174 x3 (m 175 x3)) P))) ∧ (¬ x3 < (4 * (m 145 4)) → (∀ v1 : Int, v1 = (if 0 < x2 then 0 else 1) → ((R32 ((m 145 39) + v1)) ∧ (Clv mX12_turned [rV 145, iV 0] (up m 145 39 ((m 145 39) + v1)) (fun m1 => ((x1 = 3 → (Clv mX12_turned [rV 145, iV 1] m1 (fun m2 => ((R32 (x1 + 1)) ∧ (Tj mX12_findForm 41 [some (rV 145), some (iV (x1 + 1))] [] m2 P))))) ∧ (¬ x1 = 3 → ((x1 = 7 → (Clv mX12_turned [rV 145, iV 1] m1 (fun m3 => ((R32 (x1 + 1)) ∧ (Tj mX12_findForm 41 [some (rV 145), some (iV (x1 + 1))] [] m3 P))))) ∧ (¬ x1 = 7 → ((R32 (x1 + 1)) ∧ (Tj mX12_findForm 41 [some (rV 145), some (iV (x1 + 1))] [] m1 P))))))))))))) : Tj mX12_findForm 75 [some (rV 145), some (iV x1), some (iV x2), some (iV x3)] [] m P := by
  obtain ⟨o1, h⟩ := h
  refine Tj.iload_n dX12_findForm_75 rfl rfl ?_
  refine Tj.iconst dX12_findForm_76 (by decide) rfl ?_
  refine Tj.aload_n dX12_findForm_77 rfl rfl ?_
  refine Tj.gI (j := 4) dX12_findForm_78 fl_X12_127 sh_145 rfl rfl ?_
  refine Tj.imul dX12_findForm_81 o1 rfl ?_
  refine Tj.icmp_ge dX12_findForm_82 rfl rfl (fun c1 => ?_) (fun c1 => ?_)
  · have h := h.1 c1
    obtain ⟨⟨o2, o3, o4⟩, h⟩ := h
    refine Tj.aload_n dX12_findForm_85 rfl rfl ?_
    refine Tj.getR (b := 174) dX12_findForm_86 fl_X12_94 sh_145 rfl rfl ?_
    refine Tj.iload_n dX12_findForm_89 rfl rfl ?_
    refine Tj.aload_n dX12_findForm_90 rfl rfl ?_
    refine Tj.getR (b := 175) dX12_findForm_91 fl_X12_97 sh_145 rfl rfl ?_
    refine Tj.iload_n dX12_findForm_94 rfl rfl ?_
    refine Tj.iald dX12_findForm_95 sh_175 o2 o3 rfl ?_
    refine Tj.iast dX12_findForm_96 sh_174 o2 o3 rfl ?_
    refine Tj.iinc dX12_findForm_97 rfl (Nat.le_of_ble_eq_true rfl) rfl o4 rfl ?_
    refine Tj.goto dX12_findForm_100 rfl ?_
    exact Tj.cut h ⟨rfl, ⟨rfl, ⟨rfl, ⟨rfl, trivial⟩⟩⟩⟩
  · have h := h.2 c1
    refine Tj.aload_n dX12_findForm_103 rfl rfl ?_
    refine Tj.dup dX12_findForm_104 rfl rfl ?_
    refine Tj.gI (j := 39) dX12_findForm_105 fl_X12_294 sh_145 rfl rfl ?_
    refine Tj.iload_n dX12_findForm_108 rfl rfl ?_
    have hj : Tj mX12_findForm 117 [some (rV 145), some (iV x1)] [iV (if 0 < x2 then 0 else 1), iV (m 145 39), rV 145] m P := by
      generalize hv1 : ((if 0 < x2 then 0 else 1) : Int) = v1
      have h := h v1 hv1.symm
      obtain ⟨o5, h⟩ := h
      refine Tj.iadd dX12_findForm_117 o5 rfl ?_
      refine Tj.pI (j := 39) dX12_findForm_118 fp_X12_294 sh_145 rfl rfl ?_
      refine Tj.aload_n dX12_findForm_121 rfl rfl ?_
      refine Tj.iconst dX12_findForm_122 (by decide) rfl ?_
      refine Tj.callVv (as := [_]) (rest := []) dX12_findForm_123 ln_X12_275 sh_145 (by decide) rfl rfl (Nat.le_of_ble_eq_true rfl) ⟨Nat.le_of_ble_eq_true rfl, Nat.le_of_ble_eq_true rfl⟩ (Nat.le_of_ble_eq_true rfl) rfl ?_
      refine Clv.mono h (fun m1 h => ?_)
      refine Tj.iload_n dX12_findForm_126 rfl rfl ?_
      refine Tj.iconst dX12_findForm_127 (by decide) rfl ?_
      refine Tj.icmp_eq dX12_findForm_128 rfl rfl (fun c3 => ?_) (fun c3 => ?_)
      · have h := h.1 c3
        refine Tj.aload_n dX12_findForm_137 rfl rfl ?_
        refine Tj.iconst dX12_findForm_138 (by decide) rfl ?_
        refine Tj.callVv (as := [_]) (rest := []) dX12_findForm_139 ln_X12_275 sh_145 (by decide) rfl rfl (Nat.le_of_ble_eq_true rfl) ⟨Nat.le_of_ble_eq_true rfl, Nat.le_of_ble_eq_true rfl⟩ (Nat.le_of_ble_eq_true rfl) rfl ?_
        refine Clv.mono h (fun m2 h => ?_)
        obtain ⟨o6, h⟩ := h
        refine Tj.iinc dX12_findForm_142 rfl (Nat.le_of_ble_eq_true rfl) rfl o6 rfl ?_
        refine Tj.goto dX12_findForm_145 rfl ?_
        exact Tj.cut h ⟨rfl, ⟨rfl, trivial⟩⟩
      · have h := h.2 c3
        refine Tj.iload_n dX12_findForm_131 rfl rfl ?_
        refine Tj.bipush dX12_findForm_132 (by decide) (by decide +kernel) rfl ?_
        refine Tj.icmp_ne dX12_findForm_134 rfl rfl (fun c4 => ?_) (fun c4 => ?_)
        · have h := h.1 c4
          refine Tj.aload_n dX12_findForm_137 rfl rfl ?_
          refine Tj.iconst dX12_findForm_138 (by decide) rfl ?_
          refine Tj.callVv (as := [_]) (rest := []) dX12_findForm_139 ln_X12_275 sh_145 (by decide) rfl rfl (Nat.le_of_ble_eq_true rfl) ⟨Nat.le_of_ble_eq_true rfl, Nat.le_of_ble_eq_true rfl⟩ (Nat.le_of_ble_eq_true rfl) rfl ?_
          refine Clv.mono h (fun m3 h => ?_)
          obtain ⟨o7, h⟩ := h
          refine Tj.iinc dX12_findForm_142 rfl (Nat.le_of_ble_eq_true rfl) rfl o7 rfl ?_
          refine Tj.goto dX12_findForm_145 rfl ?_
          exact Tj.cut h ⟨rfl, ⟨rfl, trivial⟩⟩
        · have h := h.2 c4
          obtain ⟨o8, h⟩ := h
          refine Tj.iinc dX12_findForm_142 rfl (Nat.le_of_ble_eq_true rfl) rfl o8 rfl ?_
          refine Tj.goto dX12_findForm_145 rfl ?_
          exact Tj.cut h ⟨rfl, ⟨rfl, trivial⟩⟩
    refine Tj.if_gt dX12_findForm_109 rfl rfl (fun c2 => ?_) (fun c2 => ?_)
    · refine Tj.iconst dX12_findForm_116 (by decide) rfl ?_
      try simp only [if_pos c2] at hj ⊢
      exact Tj.cut hj ⟨rfl, ⟨rfl, trivial⟩⟩
    · refine Tj.iconst dX12_findForm_112 (by decide) rfl ?_
      refine Tj.goto dX12_findForm_113 rfl ?_
      try simp only [if_neg c2] at hj ⊢
      exact Tj.cut hj ⟨rfl, ⟨rfl, trivial⟩⟩

theorem wX12_form_0 {m : tM} {P : Option tV → tM → Prop} {x1 : Int}  (h : (x1 < 0 → (P (some (iV (-3))) (up m 145 0 0))) ∧ (¬ x1 < 0 → (Clv mX12_findForm [rV 145] (up m 145 0 0) (fun m1 => ((R32 (4 * (m1 145 4))) ∧ ((x1 < (4 * (m1 145 4)) → ((0 ≤ x1 ∧ x1 < 240) ∧ (P (some (iV (m1 174 x1))) m1))) ∧ (¬ x1 < (4 * (m1 145 4)) → (P (some (iV (-1))) m1)))))))) : Tj mX12_form 0 [some (rV 145), some (iV x1)] [] m P := by
  refine Tj.aload_n dX12_form_0 rfl rfl ?_
  refine Tj.iconst dX12_form_1 (by decide) rfl ?_
  refine Tj.pI (j := 0) dX12_form_2 fp_X12_113 sh_145 rfl rfl ?_
  refine Tj.iload_n dX12_form_5 rfl rfl ?_
  refine Tj.if_ge dX12_form_6 rfl rfl (fun c1 => ?_) (fun c1 => ?_)
  · have h := h.1 c1
    refine Tj.bipush dX12_form_9 (by decide) (by decide +kernel) rfl ?_
    exact Tj.iret dX12_form_11 rfl h
  · have h := h.2 c1
    refine Tj.aload_n dX12_form_12 rfl rfl ?_
    refine Tj.callVv (as := []) (rest := []) dX12_form_13 ln_X12_301 sh_145 (by decide) rfl rfl (Nat.le_of_ble_eq_true rfl) ⟨Nat.le_of_ble_eq_true rfl, Nat.le_of_ble_eq_true rfl⟩ (Nat.le_of_ble_eq_true rfl) rfl ?_
    refine Clv.mono h (fun m1 h => ?_)
    obtain ⟨o1, h⟩ := h
    refine Tj.iload_n dX12_form_16 rfl rfl ?_
    refine Tj.iconst dX12_form_17 (by decide) rfl ?_
    refine Tj.aload_n dX12_form_18 rfl rfl ?_
    refine Tj.gI (j := 4) dX12_form_19 fl_X12_127 sh_145 rfl rfl ?_
    refine Tj.imul dX12_form_22 o1 rfl ?_
    refine Tj.icmp_ge dX12_form_23 rfl rfl (fun c2 => ?_) (fun c2 => ?_)
    · have h := h.1 c2
      obtain ⟨⟨o2, o3⟩, h⟩ := h
      refine Tj.aload_n dX12_form_26 rfl rfl ?_
      refine Tj.getR (b := 174) dX12_form_27 fl_X12_94 sh_145 rfl rfl ?_
      refine Tj.iload_n dX12_form_30 rfl rfl ?_
      refine Tj.iald dX12_form_31 sh_174 o2 o3 rfl ?_
      refine Tj.goto dX12_form_32 rfl ?_
      exact Tj.iret dX12_form_36 rfl h
    · have h := h.2 c2
      refine Tj.iconst dX12_form_35 (by decide) rfl ?_
      exact Tj.iret dX12_form_36 rfl h

theorem wX12_same_0 {m : tM} {P : Option tV → tM → Prop}   (h : Clv mX12_findForm [rV 145] (up m 145 0 0) (fun m1 => (P (some (iV (m1 145 39))) m1))) : Tj mX12_same 0 [some (rV 145)] [] m P := by
  refine Tj.aload_n dX12_same_0 rfl rfl ?_
  refine Tj.iconst dX12_same_1 (by decide) rfl ?_
  refine Tj.pI (j := 0) dX12_same_2 fp_X12_113 sh_145 rfl rfl ?_
  refine Tj.aload_n dX12_same_5 rfl rfl ?_
  refine Tj.callVv (as := []) (rest := []) dX12_same_6 ln_X12_301 sh_145 (by decide) rfl rfl (Nat.le_of_ble_eq_true rfl) ⟨Nat.le_of_ble_eq_true rfl, Nat.le_of_ble_eq_true rfl⟩ (Nat.le_of_ble_eq_true rfl) rfl ?_
  refine Clv.mono h (fun m1 h => ?_)
  refine Tj.aload_n dX12_same_9 rfl rfl ?_
  refine Tj.gI (j := 39) dX12_same_10 fl_X12_294 sh_145 rfl rfl ?_
  exact Tj.iret dX12_same_13 rfl h

theorem wX12_shelve_0 {m : tM} {P : Option tV → tM → Prop} {x1 : Int}  (h : Cli mX12_in [iV x1, iV 0, iV 5] (up m 145 0 0) (fun r1 m1 => ((r1 = 0 → (P (some (iV (-3))) m1)) ∧ (¬ r1 = 0 → (Clv mX12_findForm [rV 145] m1 (fun m2 => ((0 ≤ x1 ∧ x1 < 6) ∧ (Tj mX12_shelve 33 [some (rV 145), some (iV x1), some (iV 0)] [] (up m2 153 x1 (m2 145 4)) P)))))))) : Tj mX12_shelve 0 [some (rV 145), some (iV x1)] [] m P := by
  refine Tj.aload_n dX12_shelve_0 rfl rfl ?_
  refine Tj.iconst dX12_shelve_1 (by decide) rfl ?_
  refine Tj.pI (j := 0) dX12_shelve_2 fp_X12_113 sh_145 rfl rfl ?_
  refine Tj.iload_n dX12_shelve_5 rfl rfl ?_
  refine Tj.iconst dX12_shelve_6 (by decide) rfl ?_
  refine Tj.iconst dX12_shelve_7 (by decide) rfl ?_
  refine Tj.callSi (as := [_, _, _]) (rest := []) dX12_shelve_8 ln_X12_139 rfl rfl (Nat.le_of_ble_eq_true rfl) ⟨Nat.le_of_ble_eq_true rfl, Nat.le_of_ble_eq_true rfl⟩ (Nat.le_of_ble_eq_true rfl) rfl ?_
  refine Cli.mono h (fun r1 m1 h => ?_)
  refine Tj.if_ne dX12_shelve_11 rfl rfl (fun c1 => ?_) (fun c1 => ?_)
  · have h := h.1 c1
    refine Tj.bipush dX12_shelve_14 (by decide) (by decide +kernel) rfl ?_
    exact Tj.iret dX12_shelve_16 rfl h
  · have h := h.2 c1
    refine Tj.aload_n dX12_shelve_17 rfl rfl ?_
    refine Tj.callVv (as := []) (rest := []) dX12_shelve_18 ln_X12_301 sh_145 (by decide) rfl rfl (Nat.le_of_ble_eq_true rfl) ⟨Nat.le_of_ble_eq_true rfl, Nat.le_of_ble_eq_true rfl⟩ (Nat.le_of_ble_eq_true rfl) rfl ?_
    refine Clv.mono h (fun m2 h => ?_)
    obtain ⟨⟨o1, o2⟩, h⟩ := h
    refine Tj.aload_n dX12_shelve_21 rfl rfl ?_
    refine Tj.getR (b := 153) dX12_shelve_22 fl_X12_31 sh_145 rfl rfl ?_
    refine Tj.iload_n dX12_shelve_25 rfl rfl ?_
    refine Tj.aload_n dX12_shelve_26 rfl rfl ?_
    refine Tj.gI (j := 4) dX12_shelve_27 fl_X12_127 sh_145 rfl rfl ?_
    refine Tj.iast dX12_shelve_30 sh_153 o1 o2 rfl ?_
    refine Tj.iconst dX12_shelve_31 (by decide) rfl ?_
    refine Tj.istore_n dX12_shelve_32 (Nat.le_of_ble_eq_true rfl) rfl rfl ?_
    exact Tj.cut h ⟨rfl, ⟨rfl, ⟨rfl, trivial⟩⟩⟩

theorem wX12_shelve_33 {m : tM} {P : Option tV → tM → Prop} {x1 : Int} {x2 : Int}  (h : (R32 (4 * (m 145 4))) ∧ ((x2 < (4 * (m 145 4)) → ((R32 (240 * x1) ∧ R32 ((240 * x1) + x2) ∧ 0 ≤ x2 ∧ x2 < 240 ∧ 0 ≤ ((240 * x1) + x2) ∧ ((240 * x1) + x2) < 1440 ∧ R32 (x2 + 1)) ∧ (Tj mX12_shelve 33 [some (rV 145), some (iV x1), some (iV (x2 + 1))] [] (up m 154 ((240 * x1) + x2) (m 174 x2)) P))) ∧ (¬ x2 < (4 * (m 145 4)) → (P (some (iV (m 145 4))) m)))) : Tj mX12_shelve 33 [some (rV 145), some (iV x1), some (iV x2)] [] m P := by
  obtain ⟨o1, h⟩ := h
  refine Tj.iload_n dX12_shelve_33 rfl rfl ?_
  refine Tj.iconst dX12_shelve_34 (by decide) rfl ?_
  refine Tj.aload_n dX12_shelve_35 rfl rfl ?_
  refine Tj.gI (j := 4) dX12_shelve_36 fl_X12_127 sh_145 rfl rfl ?_
  refine Tj.imul dX12_shelve_39 o1 rfl ?_
  refine Tj.icmp_ge dX12_shelve_40 rfl rfl (fun c1 => ?_) (fun c1 => ?_)
  · have h := h.1 c1
    obtain ⟨⟨o2, o3, o4, o5, o6, o7, o8⟩, h⟩ := h
    refine Tj.aload_n dX12_shelve_43 rfl rfl ?_
    refine Tj.getR (b := 154) dX12_shelve_44 fl_X12_34 sh_145 rfl rfl ?_
    refine Tj.sipush dX12_shelve_47 (by decide) (by decide +kernel) rfl ?_
    refine Tj.iload_n dX12_shelve_50 rfl rfl ?_
    refine Tj.imul dX12_shelve_51 o2 rfl ?_
    refine Tj.iload_n dX12_shelve_52 rfl rfl ?_
    refine Tj.iadd dX12_shelve_53 o3 rfl ?_
    refine Tj.aload_n dX12_shelve_54 rfl rfl ?_
    refine Tj.getR (b := 174) dX12_shelve_55 fl_X12_94 sh_145 rfl rfl ?_
    refine Tj.iload_n dX12_shelve_58 rfl rfl ?_
    refine Tj.iald dX12_shelve_59 sh_174 o4 o5 rfl ?_
    refine Tj.iast dX12_shelve_60 sh_154 o6 o7 rfl ?_
    refine Tj.iinc dX12_shelve_61 rfl (Nat.le_of_ble_eq_true rfl) rfl o8 rfl ?_
    refine Tj.goto dX12_shelve_64 rfl ?_
    exact Tj.cut h ⟨rfl, ⟨rfl, ⟨rfl, trivial⟩⟩⟩
  · have h := h.2 c1
    refine Tj.aload_n dX12_shelve_67 rfl rfl ?_
    refine Tj.gI (j := 4) dX12_shelve_68 fl_X12_127 sh_145 rfl rfl ?_
    exact Tj.iret dX12_shelve_71 rfl h

theorem wX12_alike_0 {m : tM} {P : Option tV → tM → Prop} {x1 : Int}  (h : Cli mX12_in [iV x1, iV 0, iV 5] (up m 145 0 0) (fun r1 m1 => ((r1 = 0 → (P (some (iV (-3))) m1)) ∧ (¬ r1 = 0 → (Clv mX12_findForm [rV 145] m1 (fun m2 => ((0 ≤ x1 ∧ x1 < 6) ∧ (∀ v1 : Int, v1 = (if (m2 153 x1) = (m2 145 4) then 1 else 0) → (Tj mX12_alike 42 [some (rV 145), some (iV x1), some (iV v1), some (iV 0)] [] m2 P))))))))) : Tj mX12_alike 0 [some (rV 145), some (iV x1)] [] m P := by
  refine Tj.aload_n dX12_alike_0 rfl rfl ?_
  refine Tj.iconst dX12_alike_1 (by decide) rfl ?_
  refine Tj.pI (j := 0) dX12_alike_2 fp_X12_113 sh_145 rfl rfl ?_
  refine Tj.iload_n dX12_alike_5 rfl rfl ?_
  refine Tj.iconst dX12_alike_6 (by decide) rfl ?_
  refine Tj.iconst dX12_alike_7 (by decide) rfl ?_
  refine Tj.callSi (as := [_, _, _]) (rest := []) dX12_alike_8 ln_X12_139 rfl rfl (Nat.le_of_ble_eq_true rfl) ⟨Nat.le_of_ble_eq_true rfl, Nat.le_of_ble_eq_true rfl⟩ (Nat.le_of_ble_eq_true rfl) rfl ?_
  refine Cli.mono h (fun r1 m1 h => ?_)
  refine Tj.if_ne dX12_alike_11 rfl rfl (fun c1 => ?_) (fun c1 => ?_)
  · have h := h.1 c1
    refine Tj.bipush dX12_alike_14 (by decide) (by decide +kernel) rfl ?_
    exact Tj.iret dX12_alike_16 rfl h
  · have h := h.2 c1
    refine Tj.aload_n dX12_alike_17 rfl rfl ?_
    refine Tj.callVv (as := []) (rest := []) dX12_alike_18 ln_X12_301 sh_145 (by decide) rfl rfl (Nat.le_of_ble_eq_true rfl) ⟨Nat.le_of_ble_eq_true rfl, Nat.le_of_ble_eq_true rfl⟩ (Nat.le_of_ble_eq_true rfl) rfl ?_
    refine Clv.mono h (fun m2 h => ?_)
    obtain ⟨⟨o1, o2⟩, h⟩ := h
    refine Tj.aload_n dX12_alike_21 rfl rfl ?_
    refine Tj.getR (b := 153) dX12_alike_22 fl_X12_31 sh_145 rfl rfl ?_
    refine Tj.iload_n dX12_alike_25 rfl rfl ?_
    refine Tj.iald dX12_alike_26 sh_153 o1 o2 rfl ?_
    refine Tj.aload_n dX12_alike_27 rfl rfl ?_
    refine Tj.gI (j := 4) dX12_alike_28 fl_X12_127 sh_145 rfl rfl ?_
    have hj : Tj mX12_alike 39 [some (rV 145), some (iV x1)] [iV (if (m2 153 x1) = (m2 145 4) then 1 else 0)] m2 P := by
      generalize hv1 : ((if (m2 153 x1) = (m2 145 4) then 1 else 0) : Int) = v1
      have h := h v1 hv1.symm
      refine Tj.istore_n dX12_alike_39 (Nat.le_of_ble_eq_true rfl) rfl rfl ?_
      refine Tj.iconst dX12_alike_40 (by decide) rfl ?_
      refine Tj.istore_n dX12_alike_41 (Nat.le_of_ble_eq_true rfl) rfl rfl ?_
      exact Tj.cut h ⟨rfl, ⟨rfl, ⟨rfl, ⟨rfl, trivial⟩⟩⟩⟩
    refine Tj.icmp_ne dX12_alike_31 rfl rfl (fun c2 => ?_) (fun c2 => ?_)
    · refine Tj.iconst dX12_alike_34 (by decide) rfl ?_
      refine Tj.goto dX12_alike_35 rfl ?_
      try simp only [if_pos c2] at hj ⊢
      exact Tj.cut hj ⟨rfl, ⟨rfl, trivial⟩⟩
    · refine Tj.iconst dX12_alike_38 (by decide) rfl ?_
      try simp only [if_neg c2] at hj ⊢
      exact Tj.cut hj ⟨rfl, ⟨rfl, trivial⟩⟩

theorem wX12_alike_42 {m : tM} {P : Option tV → tM → Prop} {x1 : Int} {x2 : Int} {x3 : Int}  (h : (R32 (4 * (m 145 4))) ∧ ((x3 < (4 * (m 145 4)) → ((x2 = 0 → (P (some (iV 0)) m)) ∧ (¬ x2 = 0 → ((R32 (240 * x1) ∧ R32 ((240 * x1) + x3) ∧ 0 ≤ ((240 * x1) + x3) ∧ ((240 * x1) + x3) < 1440 ∧ 0 ≤ x3 ∧ x3 < 240) ∧ (∀ v1 : Int, v1 = (if (m 154 ((240 * x1) + x3)) = (m 174 x3) then 1 else 0) → ((R32 (x3 + 1)) ∧ (Tj mX12_alike 42 [some (rV 145), some (iV x1), some (iV v1), some (iV (x3 + 1))] [] m P))))))) ∧ (¬ x3 < (4 * (m 145 4)) → (∀ v2 : Int, v2 = (if x2 = 0 then 0 else 1) → (P (some (iV v2)) m))))) : Tj mX12_alike 42 [some (rV 145), some (iV x1), some (iV x2), some (iV x3)] [] m P := by
  obtain ⟨o1, h⟩ := h
  refine Tj.iload_n dX12_alike_42 rfl rfl ?_
  refine Tj.iconst dX12_alike_43 (by decide) rfl ?_
  refine Tj.aload_n dX12_alike_44 rfl rfl ?_
  refine Tj.gI (j := 4) dX12_alike_45 fl_X12_127 sh_145 rfl rfl ?_
  refine Tj.imul dX12_alike_48 o1 rfl ?_
  refine Tj.icmp_ge dX12_alike_49 rfl rfl (fun c1 => ?_) (fun c1 => ?_)
  · have h := h.1 c1
    refine Tj.iload_n dX12_alike_52 rfl rfl ?_
    refine Tj.if_eq dX12_alike_53 rfl rfl (fun c2 => ?_) (fun c2 => ?_)
    · have h := h.1 c2
      refine Tj.iload_n dX12_alike_89 rfl rfl ?_
      refine Tj.if_eq dX12_alike_90 rfl rfl (fun c3 => ?_) (fun c3 => ?_)
      case refine_2 => exact absurd c2 c3
      refine Tj.iconst dX12_alike_97 (by decide) rfl ?_
      exact Tj.iret dX12_alike_98 rfl h
    · have h := h.2 c2
      obtain ⟨⟨o2, o3, o4, o5, o6, o7⟩, h⟩ := h
      refine Tj.aload_n dX12_alike_56 rfl rfl ?_
      refine Tj.getR (b := 154) dX12_alike_57 fl_X12_34 sh_145 rfl rfl ?_
      refine Tj.sipush dX12_alike_60 (by decide) (by decide +kernel) rfl ?_
      refine Tj.iload_n dX12_alike_63 rfl rfl ?_
      refine Tj.imul dX12_alike_64 o2 rfl ?_
      refine Tj.iload_n dX12_alike_65 rfl rfl ?_
      refine Tj.iadd dX12_alike_66 o3 rfl ?_
      refine Tj.iald dX12_alike_67 sh_154 o4 o5 rfl ?_
      refine Tj.aload_n dX12_alike_68 rfl rfl ?_
      refine Tj.getR (b := 174) dX12_alike_69 fl_X12_94 sh_145 rfl rfl ?_
      refine Tj.iload_n dX12_alike_72 rfl rfl ?_
      refine Tj.iald dX12_alike_73 sh_174 o6 o7 rfl ?_
      have hj : Tj mX12_alike 82 [some (rV 145), some (iV x1), none, some (iV x3)] [iV (if (m 154 ((240 * x1) + x3)) = (m 174 x3) then 1 else 0)] m P := by
        generalize hv1 : ((if (m 154 ((240 * x1) + x3)) = (m 174 x3) then 1 else 0) : Int) = v1
        have h := h v1 hv1.symm
        obtain ⟨o8, h⟩ := h
        refine Tj.istore_n dX12_alike_82 (Nat.le_of_ble_eq_true rfl) rfl rfl ?_
        refine Tj.iinc dX12_alike_83 rfl (Nat.le_of_ble_eq_true rfl) rfl o8 rfl ?_
        refine Tj.goto dX12_alike_86 rfl ?_
        exact Tj.cut h ⟨rfl, ⟨rfl, ⟨rfl, ⟨rfl, trivial⟩⟩⟩⟩
      refine Tj.icmp_ne dX12_alike_74 rfl rfl (fun c4 => ?_) (fun c4 => ?_)
      · refine Tj.iconst dX12_alike_77 (by decide) rfl ?_
        refine Tj.goto dX12_alike_78 rfl ?_
        try simp only [if_pos c4] at hj ⊢
        exact Tj.cut hj ⟨rfl, ⟨rfl, ⟨rfl, trivial⟩⟩⟩
      · refine Tj.iconst dX12_alike_81 (by decide) rfl ?_
        try simp only [if_neg c4] at hj ⊢
        exact Tj.cut hj ⟨rfl, ⟨rfl, ⟨rfl, trivial⟩⟩⟩
  · have h := h.2 c1
    refine Tj.iload_n dX12_alike_89 rfl rfl ?_
    have hj : Tj mX12_alike 98 [] [iV (if x2 = 0 then 0 else 1)] m P := by
      generalize hv2 : ((if x2 = 0 then 0 else 1) : Int) = v2
      have h := h v2 hv2.symm
      exact Tj.iret dX12_alike_98 rfl h
    refine Tj.if_eq dX12_alike_90 rfl rfl (fun c5 => ?_) (fun c5 => ?_)
    · refine Tj.iconst dX12_alike_97 (by decide) rfl ?_
      try simp only [if_pos c5] at hj ⊢
      exact Tj.cut hj trivial
    · refine Tj.iconst dX12_alike_93 (by decide) rfl ?_
      refine Tj.goto dX12_alike_94 rfl ?_
      try simp only [if_neg c5] at hj ⊢
      exact Tj.cut hj trivial

theorem wX12_wrapAcross_0 {m : tM} {P : Option tV → tM → Prop} {x1 : Int} {x2 : Int}  (h : (0 ≤ x1 ∧ x1 < 60 ∧ R32 (x2 - (m 177 x1)) ∧ R32 ((x2 - (m 177 x1)) + 4) ∧ 0 ≤ ((x2 - (m 177 x1)) + 4)) ∧ (Clv mX12_findAcross [rV 145, iV (m 176 x1), iV (((x2 - (m 177 x1)) + 4) % 4)] m (fun m1 => ((R32 (x2 + 2) ∧ R32 ((x2 + 2) - (m1 145 22)) ∧ R32 (((x2 + 2) - (m1 145 22)) + 4) ∧ 0 ≤ (((x2 + 2) - (m1 145 22)) + 4)) ∧ (Cli mX12_neighbour [rV 145, iV x1, iV x2] m1 (fun r1 m2 => ((0 ≤ r1 ∧ r1 < 60) ∧ (((m2 176 r1) = (-1) → ((0 ≤ (m2 145 21) ∧ (m2 145 21) < 384) ∧ (((m2 178 (m2 145 21)) = 0 → ((0 ≤ (m2 145 44) ∧ (m2 145 44) < 60 ∧ R32 ((m2 145 44) + 1)) ∧ (P (some (iV 1)) (up (up (up (up (up m2 178 (m2 145 21) 1) 176 r1 (m2 145 21)) 177 r1 ((((x2 + 2) - (m1 145 22)) + 4) % 4)) 179 (m2 145 44) r1) 145 44 ((m2 145 44) + 1))))) ∧ (¬ (m2 178 (m2 145 21)) = 0 → (P (some (iV 2)) m2))))) ∧ (¬ (m2 176 r1) = (-1) → (((m2 176 r1) = (m2 145 21) → (∀ v1 : Int, v1 = (if (m2 177 r1) = ((((x2 + 2) - (m1 145 22)) + 4) % 4) then 0 else 2) → (P (some (iV v1)) m2))) ∧ (¬ (m2 176 r1) = (m2 145 21) → (P (some (iV 2)) m2)))))))))))) : Tj mX12_wrapAcross 0 [some (rV 145), some (iV x1), some (iV x2)] [] m P := by
  obtain ⟨⟨o1, o2, o3, o4, o5⟩, h⟩ := h
  refine Tj.iload_n dX12_wrapAcross_0 rfl rfl ?_
  refine Tj.aload_n dX12_wrapAcross_1 rfl rfl ?_
  refine Tj.getR (b := 177) dX12_wrapAcross_2 fl_X12_103 sh_145 rfl rfl ?_
  refine Tj.iload_n dX12_wrapAcross_5 rfl rfl ?_
  refine Tj.iald dX12_wrapAcross_6 sh_177 o1 o2 rfl ?_
  refine Tj.isub dX12_wrapAcross_7 o3 rfl ?_
  refine Tj.iconst dX12_wrapAcross_8 (by decide) rfl ?_
  refine Tj.iadd dX12_wrapAcross_9 o4 rfl ?_
  refine Tj.iconst dX12_wrapAcross_10 (by decide) rfl ?_
  refine Tj.irem dX12_wrapAcross_11 o5 (by decide) rfl ?_
  refine Tj.istore_n dX12_wrapAcross_12 (Nat.le_of_ble_eq_true rfl) rfl rfl ?_
  refine Tj.aload_n dX12_wrapAcross_13 rfl rfl ?_
  refine Tj.aload_n dX12_wrapAcross_14 rfl rfl ?_
  refine Tj.getR (b := 176) dX12_wrapAcross_15 fl_X12_100 sh_145 rfl rfl ?_
  refine Tj.iload_n dX12_wrapAcross_18 rfl rfl ?_
  refine Tj.iald dX12_wrapAcross_19 sh_176 o1 o2 rfl ?_
  refine Tj.iload_n dX12_wrapAcross_20 rfl rfl ?_
  refine Tj.callVv (as := [_, _]) (rest := []) dX12_wrapAcross_21 ln_X12_226 sh_145 (by decide) rfl rfl (Nat.le_of_ble_eq_true rfl) ⟨Nat.le_of_ble_eq_true rfl, Nat.le_of_ble_eq_true rfl⟩ (Nat.le_of_ble_eq_true rfl) rfl ?_
  refine Clv.mono h (fun m1 h => ?_)
  obtain ⟨⟨o6, o7, o8, o9⟩, h⟩ := h
  refine Tj.iload_n dX12_wrapAcross_24 rfl rfl ?_
  refine Tj.iconst dX12_wrapAcross_25 (by decide) rfl ?_
  refine Tj.iadd dX12_wrapAcross_26 o6 rfl ?_
  refine Tj.aload_n dX12_wrapAcross_27 rfl rfl ?_
  refine Tj.gI (j := 22) dX12_wrapAcross_28 fl_X12_220 sh_145 rfl rfl ?_
  refine Tj.isub dX12_wrapAcross_31 o7 rfl ?_
  refine Tj.iconst dX12_wrapAcross_32 (by decide) rfl ?_
  refine Tj.iadd dX12_wrapAcross_33 o8 rfl ?_
  refine Tj.iconst dX12_wrapAcross_34 (by decide) rfl ?_
  refine Tj.irem dX12_wrapAcross_35 o9 (by decide) rfl ?_
  refine Tj.istore dX12_wrapAcross_36 (Nat.le_of_ble_eq_true rfl) rfl rfl ?_
  refine Tj.aload_n dX12_wrapAcross_38 rfl rfl ?_
  refine Tj.iload_n dX12_wrapAcross_39 rfl rfl ?_
  refine Tj.iload_n dX12_wrapAcross_40 rfl rfl ?_
  refine Tj.callVi (as := [_, _]) (rest := []) dX12_wrapAcross_41 ln_X12_258 sh_145 (by decide) rfl rfl (Nat.le_of_ble_eq_true rfl) ⟨Nat.le_of_ble_eq_true rfl, Nat.le_of_ble_eq_true rfl⟩ (Nat.le_of_ble_eq_true rfl) rfl ?_
  refine Cli.mono h (fun r1 m2 h => ?_)
  obtain ⟨⟨o10, o11⟩, h⟩ := h
  refine Tj.istore dX12_wrapAcross_44 (Nat.le_of_ble_eq_true rfl) rfl rfl ?_
  refine Tj.aload_n dX12_wrapAcross_46 rfl rfl ?_
  refine Tj.getR (b := 176) dX12_wrapAcross_47 fl_X12_100 sh_145 rfl rfl ?_
  refine Tj.iload dX12_wrapAcross_50 rfl rfl ?_
  refine Tj.iald dX12_wrapAcross_52 sh_176 o10 o11 rfl ?_
  refine Tj.iconst dX12_wrapAcross_53 (by decide) rfl ?_
  refine Tj.icmp_eq dX12_wrapAcross_54 rfl rfl (fun c1 => ?_) (fun c1 => ?_)
  · have h := h.1 c1
    obtain ⟨⟨o12, o13⟩, h⟩ := h
    refine Tj.aload_n dX12_wrapAcross_89 rfl rfl ?_
    refine Tj.getR (b := 178) dX12_wrapAcross_90 fl_X12_106 sh_145 rfl rfl ?_
    refine Tj.aload_n dX12_wrapAcross_93 rfl rfl ?_
    refine Tj.gI (j := 21) dX12_wrapAcross_94 fl_X12_213 sh_145 rfl rfl ?_
    refine Tj.zald dX12_wrapAcross_97 sh_178 o12 o13 rfl ?_
    refine Tj.if_eq dX12_wrapAcross_98 rfl rfl (fun c2 => ?_) (fun c2 => ?_)
    · have h := h.1 c2
      obtain ⟨⟨o14, o15, o16⟩, h⟩ := h
      refine Tj.aload_n dX12_wrapAcross_103 rfl rfl ?_
      refine Tj.getR (b := 178) dX12_wrapAcross_104 fl_X12_106 sh_145 rfl rfl ?_
      refine Tj.aload_n dX12_wrapAcross_107 rfl rfl ?_
      refine Tj.gI (j := 21) dX12_wrapAcross_108 fl_X12_213 sh_145 rfl rfl ?_
      refine Tj.iconst dX12_wrapAcross_111 (by decide) rfl ?_
      refine Tj.zast dX12_wrapAcross_112 sh_178 o12 o13 (by decide) rfl ?_
      refine Tj.aload_n dX12_wrapAcross_113 rfl rfl ?_
      refine Tj.getR (b := 176) dX12_wrapAcross_114 fl_X12_100 sh_145 rfl rfl ?_
      refine Tj.iload dX12_wrapAcross_117 rfl rfl ?_
      refine Tj.aload_n dX12_wrapAcross_119 rfl rfl ?_
      refine Tj.gI (j := 21) dX12_wrapAcross_120 fl_X12_213 sh_145 rfl rfl ?_
      refine Tj.iast dX12_wrapAcross_123 sh_176 o10 o11 rfl ?_
      refine Tj.aload_n dX12_wrapAcross_124 rfl rfl ?_
      refine Tj.getR (b := 177) dX12_wrapAcross_125 fl_X12_103 sh_145 rfl rfl ?_
      refine Tj.iload dX12_wrapAcross_128 rfl rfl ?_
      refine Tj.iload dX12_wrapAcross_130 rfl rfl ?_
      refine Tj.iast dX12_wrapAcross_132 sh_177 o10 o11 rfl ?_
      refine Tj.aload_n dX12_wrapAcross_133 rfl rfl ?_
      refine Tj.getR (b := 179) dX12_wrapAcross_134 fl_X12_110 sh_145 rfl rfl ?_
      refine Tj.aload_n dX12_wrapAcross_137 rfl rfl ?_
      refine Tj.gI (j := 44) dX12_wrapAcross_138 fl_X12_304 sh_145 rfl rfl ?_
      refine Tj.iload dX12_wrapAcross_141 rfl rfl ?_
      refine Tj.iast dX12_wrapAcross_143 sh_179 o14 o15 rfl ?_
      refine Tj.aload_n dX12_wrapAcross_144 rfl rfl ?_
      refine Tj.dup dX12_wrapAcross_145 rfl rfl ?_
      refine Tj.gI (j := 44) dX12_wrapAcross_146 fl_X12_304 sh_145 rfl rfl ?_
      refine Tj.iconst dX12_wrapAcross_149 (by decide) rfl ?_
      refine Tj.iadd dX12_wrapAcross_150 o16 rfl ?_
      refine Tj.pI (j := 44) dX12_wrapAcross_151 fp_X12_304 sh_145 rfl rfl ?_
      refine Tj.iconst dX12_wrapAcross_154 (by decide) rfl ?_
      exact Tj.iret dX12_wrapAcross_155 rfl h
    · have h := h.2 c2
      refine Tj.iconst dX12_wrapAcross_101 (by decide) rfl ?_
      exact Tj.iret dX12_wrapAcross_102 rfl h
  · have h := h.2 c1
    refine Tj.aload_n dX12_wrapAcross_57 rfl rfl ?_
    refine Tj.getR (b := 176) dX12_wrapAcross_58 fl_X12_100 sh_145 rfl rfl ?_
    refine Tj.iload dX12_wrapAcross_61 rfl rfl ?_
    refine Tj.iald dX12_wrapAcross_63 sh_176 o10 o11 rfl ?_
    refine Tj.aload_n dX12_wrapAcross_64 rfl rfl ?_
    refine Tj.gI (j := 21) dX12_wrapAcross_65 fl_X12_213 sh_145 rfl rfl ?_
    refine Tj.icmp_ne dX12_wrapAcross_68 rfl rfl (fun c3 => ?_) (fun c3 => ?_)
    · have h := h.1 c3
      refine Tj.aload_n dX12_wrapAcross_71 rfl rfl ?_
      refine Tj.getR (b := 177) dX12_wrapAcross_72 fl_X12_103 sh_145 rfl rfl ?_
      refine Tj.iload dX12_wrapAcross_75 rfl rfl ?_
      refine Tj.iald dX12_wrapAcross_77 sh_177 o10 o11 rfl ?_
      refine Tj.iload dX12_wrapAcross_78 rfl rfl ?_
      have hj : Tj mX12_wrapAcross 88 [] [iV (if (m2 177 r1) = ((((x2 + 2) - (m1 145 22)) + 4) % 4) then 0 else 2)] m2 P := by
        generalize hv1 : ((if (m2 177 r1) = ((((x2 + 2) - (m1 145 22)) + 4) % 4) then 0 else 2) : Int) = v1
        have h := h v1 hv1.symm
        exact Tj.iret dX12_wrapAcross_88 rfl h
      refine Tj.icmp_eq dX12_wrapAcross_80 rfl rfl (fun c4 => ?_) (fun c4 => ?_)
      · refine Tj.iconst dX12_wrapAcross_87 (by decide) rfl ?_
        try simp only [if_pos c4] at hj ⊢
        exact Tj.cut hj trivial
      · refine Tj.iconst dX12_wrapAcross_83 (by decide) rfl ?_
        refine Tj.goto dX12_wrapAcross_84 rfl ?_
        try simp only [if_neg c4] at hj ⊢
        exact Tj.cut hj trivial
    · have h := h.2 c3
      refine Tj.iconst dX12_wrapAcross_83 (by decide) rfl ?_
      refine Tj.goto dX12_wrapAcross_84 rfl ?_
      exact Tj.iret dX12_wrapAcross_88 rfl h

theorem wX12_doesWrap_0 {m : tM} {P : Option tV → tM → Prop} {x1 : Int} {x2 : Int} {x3 : Int}  (h : Tj mX12_doesWrap 3 [some (rV 145), some (iV x1), some (iV x2), some (iV x3), some (iV 0)] [] m P) : Tj mX12_doesWrap 0 [some (rV 145), some (iV x1), some (iV x2), some (iV x3)] [] m P := by
  refine Tj.iconst dX12_doesWrap_0 (by decide) rfl ?_
  refine Tj.istore dX12_doesWrap_1 (Nat.le_of_ble_eq_true rfl) rfl rfl ?_
  exact Tj.cut h ⟨rfl, ⟨rfl, ⟨rfl, ⟨rfl, ⟨rfl, trivial⟩⟩⟩⟩⟩

theorem wX12_doesWrap_3 {m : tM} {P : Option tV → tM → Prop} {x1 : Int} {x2 : Int} {x3 : Int} {x4 : Int}  (h : (x4 < (m 145 4) → ((0 ≤ x4 ∧ x4 < 60 ∧ R32 (x4 + 1)) ∧ (Tj mX12_doesWrap 3 [some (rV 145), some (iV x1), some (iV x2), some (iV x3), some (iV (x4 + 1))] [] (up m 176 x4 (-1)) P))) ∧ (¬ x4 < (m 145 4) → (Tj mX12_doesWrap 29 [some (rV 145), some (iV x1), some (iV x2), some (iV x3), some (iV 0)] [] m P))) : Tj mX12_doesWrap 3 [some (rV 145), some (iV x1), some (iV x2), some (iV x3), some (iV x4)] [] m P := by
  refine Tj.iload dX12_doesWrap_3 rfl rfl ?_
  refine Tj.aload_n dX12_doesWrap_5 rfl rfl ?_
  refine Tj.gI (j := 4) dX12_doesWrap_6 fl_X12_127 sh_145 rfl rfl ?_
  refine Tj.icmp_ge dX12_doesWrap_9 rfl rfl (fun c1 => ?_) (fun c1 => ?_)
  · have h := h.1 c1
    obtain ⟨⟨o1, o2, o3⟩, h⟩ := h
    refine Tj.aload_n dX12_doesWrap_12 rfl rfl ?_
    refine Tj.getR (b := 176) dX12_doesWrap_13 fl_X12_100 sh_145 rfl rfl ?_
    refine Tj.iload dX12_doesWrap_16 rfl rfl ?_
    refine Tj.iconst dX12_doesWrap_18 (by decide) rfl ?_
    refine Tj.iast dX12_doesWrap_19 sh_176 o1 o2 rfl ?_
    refine Tj.iinc dX12_doesWrap_20 rfl (Nat.le_of_ble_eq_true rfl) rfl o3 rfl ?_
    refine Tj.goto dX12_doesWrap_23 rfl ?_
    exact Tj.cut h ⟨rfl, ⟨rfl, ⟨rfl, ⟨rfl, ⟨rfl, trivial⟩⟩⟩⟩⟩
  · have h := h.2 c1
    refine Tj.iconst dX12_doesWrap_26 (by decide) rfl ?_
    refine Tj.istore dX12_doesWrap_27 (Nat.le_of_ble_eq_true rfl) rfl rfl ?_
    exact Tj.cut h ⟨rfl, ⟨rfl, ⟨rfl, ⟨rfl, ⟨rfl, trivial⟩⟩⟩⟩⟩

theorem wX12_doesWrap_29 {m : tM} {P : Option tV → tM → Prop} {x1 : Int} {x2 : Int} {x3 : Int} {x4 : Int}  (h : (x4 < (m 145 17) → (∀ v1 : Int, v1 = (if x4 = x2 then 1 else 0) → ((0 ≤ x4 ∧ x4 < 384 ∧ (v1 = 0 ∨ v1 = 1) ∧ R32 (x4 + 1)) ∧ (Tj mX12_doesWrap 29 [some (rV 145), some (iV x1), some (iV x2), some (iV x3), some (iV (x4 + 1))] [] (up m 178 x4 v1) P)))) ∧ (¬ x4 < (m 145 17) → ((0 ≤ x1 ∧ x1 < 60) ∧ (Tj mX12_doesWrap 91 [some (rV 145), none, none, none, some (iV 0)] [] (up (up (up (up m 176 x1 x2) 177 x1 x3) 179 0 x1) 145 44 1) P)))) : Tj mX12_doesWrap 29 [some (rV 145), some (iV x1), some (iV x2), some (iV x3), some (iV x4)] [] m P := by
  refine Tj.iload dX12_doesWrap_29 rfl rfl ?_
  refine Tj.aload_n dX12_doesWrap_31 rfl rfl ?_
  refine Tj.gI (j := 17) dX12_doesWrap_32 fl_X12_195 sh_145 rfl rfl ?_
  refine Tj.icmp_ge dX12_doesWrap_35 rfl rfl (fun c1 => ?_) (fun c1 => ?_)
  · have h := h.1 c1
    refine Tj.aload_n dX12_doesWrap_38 rfl rfl ?_
    refine Tj.getR (b := 178) dX12_doesWrap_39 fl_X12_106 sh_145 rfl rfl ?_
    refine Tj.iload dX12_doesWrap_42 rfl rfl ?_
    refine Tj.iload dX12_doesWrap_44 rfl rfl ?_
    refine Tj.iload_n dX12_doesWrap_46 rfl rfl ?_
    have hj : Tj mX12_doesWrap 55 [some (rV 145), some (iV x1), some (iV x2), some (iV x3), some (iV x4)] [iV (if x4 = x2 then 1 else 0), iV x4, rV 178] m P := by
      generalize hv1 : ((if x4 = x2 then 1 else 0) : Int) = v1
      have h := h v1 hv1.symm
      obtain ⟨⟨o1, o2, o3, o4⟩, h⟩ := h
      refine Tj.zast dX12_doesWrap_55 sh_178 o1 o2 o3 rfl ?_
      refine Tj.iinc dX12_doesWrap_56 rfl (Nat.le_of_ble_eq_true rfl) rfl o4 rfl ?_
      refine Tj.goto dX12_doesWrap_59 rfl ?_
      exact Tj.cut h ⟨rfl, ⟨rfl, ⟨rfl, ⟨rfl, ⟨rfl, trivial⟩⟩⟩⟩⟩
    refine Tj.icmp_ne dX12_doesWrap_47 rfl rfl (fun c2 => ?_) (fun c2 => ?_)
    · refine Tj.iconst dX12_doesWrap_50 (by decide) rfl ?_
      refine Tj.goto dX12_doesWrap_51 rfl ?_
      try simp only [if_pos c2] at hj ⊢
      exact Tj.cut hj ⟨rfl, ⟨rfl, ⟨rfl, ⟨rfl, ⟨rfl, trivial⟩⟩⟩⟩⟩
    · refine Tj.iconst dX12_doesWrap_54 (by decide) rfl ?_
      try simp only [if_neg c2] at hj ⊢
      exact Tj.cut hj ⟨rfl, ⟨rfl, ⟨rfl, ⟨rfl, ⟨rfl, trivial⟩⟩⟩⟩⟩
  · have h := h.2 c1
    obtain ⟨⟨o5, o6⟩, h⟩ := h
    refine Tj.aload_n dX12_doesWrap_62 rfl rfl ?_
    refine Tj.getR (b := 176) dX12_doesWrap_63 fl_X12_100 sh_145 rfl rfl ?_
    refine Tj.iload_n dX12_doesWrap_66 rfl rfl ?_
    refine Tj.iload_n dX12_doesWrap_67 rfl rfl ?_
    refine Tj.iast dX12_doesWrap_68 sh_176 o5 o6 rfl ?_
    refine Tj.aload_n dX12_doesWrap_69 rfl rfl ?_
    refine Tj.getR (b := 177) dX12_doesWrap_70 fl_X12_103 sh_145 rfl rfl ?_
    refine Tj.iload_n dX12_doesWrap_73 rfl rfl ?_
    refine Tj.iload_n dX12_doesWrap_74 rfl rfl ?_
    refine Tj.iast dX12_doesWrap_75 sh_177 o5 o6 rfl ?_
    refine Tj.aload_n dX12_doesWrap_76 rfl rfl ?_
    refine Tj.getR (b := 179) dX12_doesWrap_77 fl_X12_110 sh_145 rfl rfl ?_
    refine Tj.iconst dX12_doesWrap_80 (by decide) rfl ?_
    refine Tj.iload_n dX12_doesWrap_81 rfl rfl ?_
    refine Tj.iast dX12_doesWrap_82 sh_179 (by decide) (by decide) rfl ?_
    refine Tj.aload_n dX12_doesWrap_83 rfl rfl ?_
    refine Tj.iconst dX12_doesWrap_84 (by decide) rfl ?_
    refine Tj.pI (j := 44) dX12_doesWrap_85 fp_X12_304 sh_145 rfl rfl ?_
    refine Tj.iconst dX12_doesWrap_88 (by decide) rfl ?_
    refine Tj.istore dX12_doesWrap_89 (Nat.le_of_ble_eq_true rfl) rfl rfl ?_
    exact Tj.cut h ⟨rfl, ⟨rfl, trivial⟩⟩

theorem wX12_doesWrap_91 {m : tM} {P : Option tV → tM → Prop} {x4 : Int}  (h : (x4 < (m 145 44) → (Tj mX12_doesWrap 103 [some (rV 145), none, none, none, some (iV x4), some (iV 0)] [] m P)) ∧ (¬ x4 < (m 145 44) → (∀ v1 : Int, v1 = (if (m 145 44) = (m 145 4) then 1 else 0) → (P (some (iV v1)) m)))) : Tj mX12_doesWrap 91 [some (rV 145), none, none, none, some (iV x4)] [] m P := by
  refine Tj.iload dX12_doesWrap_91 rfl rfl ?_
  refine Tj.aload_n dX12_doesWrap_93 rfl rfl ?_
  refine Tj.gI (j := 44) dX12_doesWrap_94 fl_X12_304 sh_145 rfl rfl ?_
  refine Tj.icmp_ge dX12_doesWrap_97 rfl rfl (fun c1 => ?_) (fun c1 => ?_)
  · have h := h.1 c1
    refine Tj.iconst dX12_doesWrap_100 (by decide) rfl ?_
    refine Tj.istore dX12_doesWrap_101 (Nat.le_of_ble_eq_true rfl) rfl rfl ?_
    exact Tj.cut h ⟨rfl, ⟨rfl, ⟨rfl, trivial⟩⟩⟩
  · have h := h.2 c1
    refine Tj.aload_n dX12_doesWrap_156 rfl rfl ?_
    refine Tj.gI (j := 44) dX12_doesWrap_157 fl_X12_304 sh_145 rfl rfl ?_
    refine Tj.aload_n dX12_doesWrap_160 rfl rfl ?_
    refine Tj.gI (j := 4) dX12_doesWrap_161 fl_X12_127 sh_145 rfl rfl ?_
    have hj : Tj mX12_doesWrap 172 [] [iV (if (m 145 44) = (m 145 4) then 1 else 0)] m P := by
      generalize hv1 : ((if (m 145 44) = (m 145 4) then 1 else 0) : Int) = v1
      have h := h v1 hv1.symm
      exact Tj.zret dX12_doesWrap_172 rfl (by rw [← hv1]; (repeat' split) <;> simp) h
    refine Tj.icmp_ne dX12_doesWrap_164 rfl rfl (fun c2 => ?_) (fun c2 => ?_)
    · refine Tj.iconst dX12_doesWrap_167 (by decide) rfl ?_
      refine Tj.goto dX12_doesWrap_168 rfl ?_
      try simp only [if_pos c2] at hj ⊢
      exact Tj.cut hj trivial
    · refine Tj.iconst dX12_doesWrap_171 (by decide) rfl ?_
      try simp only [if_neg c2] at hj ⊢
      exact Tj.cut hj trivial

theorem wX12_doesWrap_103 {m : tM} {P : Option tV → tM → Prop} {x4 : Int} {x5 : Int}  (h : (x5 < 4 → ((0 ≤ x4 ∧ x4 < 60) ∧ (Cli mX12_creaseOf [rV 145, iV (m 179 x4), iV x5] m (fun r1 m1 => ((r1 = 0 → ((R32 (x5 + 1)) ∧ (Tj mX12_doesWrap 103 [some (rV 145), none, none, none, some (iV x4), some (iV (x5 + 1))] [] m1 P))) ∧ (¬ r1 = 0 → (Cli mX12_wrapAcross [rV 145, iV (m1 179 x4), iV x5] m1 (fun r2 m2 => ((r2 = 2 → (P (some (iV 0)) m2)) ∧ (¬ r2 = 2 → ((R32 (x5 + 1)) ∧ (Tj mX12_doesWrap 103 [some (rV 145), none, none, none, some (iV x4), some (iV (x5 + 1))] [] m2 P)))))))))))) ∧ (¬ x5 < 4 → ((R32 (x4 + 1)) ∧ (Tj mX12_doesWrap 91 [some (rV 145), none, none, none, some (iV (x4 + 1))] [] m P)))) : Tj mX12_doesWrap 103 [some (rV 145), none, none, none, some (iV x4), some (iV x5)] [] m P := by
  refine Tj.iload dX12_doesWrap_103 rfl rfl ?_
  refine Tj.iconst dX12_doesWrap_105 (by decide) rfl ?_
  refine Tj.icmp_ge dX12_doesWrap_106 rfl rfl (fun c1 => ?_) (fun c1 => ?_)
  · have h := h.1 c1
    obtain ⟨⟨o1, o2⟩, h⟩ := h
    refine Tj.aload_n dX12_doesWrap_109 rfl rfl ?_
    refine Tj.aload_n dX12_doesWrap_110 rfl rfl ?_
    refine Tj.getR (b := 179) dX12_doesWrap_111 fl_X12_110 sh_145 rfl rfl ?_
    refine Tj.iload dX12_doesWrap_114 rfl rfl ?_
    refine Tj.iald dX12_doesWrap_116 sh_179 o1 o2 rfl ?_
    refine Tj.iload dX12_doesWrap_117 rfl rfl ?_
    refine Tj.callVi (as := [_, _]) (rest := []) dX12_doesWrap_119 ln_X12_269 sh_145 (by decide) rfl rfl (Nat.le_of_ble_eq_true rfl) ⟨Nat.le_of_ble_eq_true rfl, Nat.le_of_ble_eq_true rfl⟩ (Nat.le_of_ble_eq_true rfl) rfl ?_
    refine Cli.mono h (fun r1 m1 h => ?_)
    refine Tj.if_eq dX12_doesWrap_122 rfl rfl (fun c2 => ?_) (fun c2 => ?_)
    · have h := h.1 c2
      obtain ⟨o3, h⟩ := h
      refine Tj.iinc dX12_doesWrap_144 rfl (Nat.le_of_ble_eq_true rfl) rfl o3 rfl ?_
      refine Tj.goto dX12_doesWrap_147 rfl ?_
      exact Tj.cut h ⟨rfl, ⟨rfl, ⟨rfl, trivial⟩⟩⟩
    · have h := h.2 c2
      refine Tj.aload_n dX12_doesWrap_125 rfl rfl ?_
      refine Tj.aload_n dX12_doesWrap_126 rfl rfl ?_
      refine Tj.getR (b := 179) dX12_doesWrap_127 fl_X12_110 sh_145 rfl rfl ?_
      refine Tj.iload dX12_doesWrap_130 rfl rfl ?_
      refine Tj.iald dX12_doesWrap_132 sh_179 o1 o2 rfl ?_
      refine Tj.iload dX12_doesWrap_133 rfl rfl ?_
      refine Tj.callVi (as := [_, _]) (rest := []) dX12_doesWrap_135 ln_X12_307 sh_145 (by decide) rfl rfl (Nat.le_of_ble_eq_true rfl) ⟨Nat.le_of_ble_eq_true rfl, Nat.le_of_ble_eq_true rfl⟩ (Nat.le_of_ble_eq_true rfl) rfl ?_
      refine Cli.mono h (fun r2 m2 h => ?_)
      refine Tj.iconst dX12_doesWrap_138 (by decide) rfl ?_
      refine Tj.icmp_ne dX12_doesWrap_139 rfl rfl (fun c3 => ?_) (fun c3 => ?_)
      · have h := h.1 c3
        refine Tj.iconst dX12_doesWrap_142 (by decide) rfl ?_
        exact Tj.zret dX12_doesWrap_143 rfl (by decide) h
      · have h := h.2 c3
        obtain ⟨o4, h⟩ := h
        refine Tj.iinc dX12_doesWrap_144 rfl (Nat.le_of_ble_eq_true rfl) rfl o4 rfl ?_
        refine Tj.goto dX12_doesWrap_147 rfl ?_
        exact Tj.cut h ⟨rfl, ⟨rfl, ⟨rfl, trivial⟩⟩⟩
  · have h := h.2 c1
    obtain ⟨o5, h⟩ := h
    refine Tj.iinc dX12_doesWrap_150 rfl (Nat.le_of_ble_eq_true rfl) rfl o5 rfl ?_
    refine Tj.goto dX12_doesWrap_153 rfl ?_
    exact Tj.cut h ⟨rfl, ⟨rfl, trivial⟩⟩

theorem wX12_findWraps_0 {m : tM} {P : Option tV → tM → Prop} {x1 : Int}  (h : Clv mX12_findSkin [rV 145] (up m 145 45 0) (fun m1 => (((m1 145 17) = (m1 145 4) → (Tj mX12_findWraps 23 [some (rV 145), some (iV x1), some (iV 0)] [] m1 P)) ∧ (¬ (m1 145 17) = (m1 145 4) → (P none m1))))) : Tj mX12_findWraps 0 [some (rV 145), some (iV x1)] [] m P := by
  refine Tj.aload_n dX12_findWraps_0 rfl rfl ?_
  refine Tj.iconst dX12_findWraps_1 (by decide) rfl ?_
  refine Tj.pI (j := 45) dX12_findWraps_2 fp_X12_310 sh_145 rfl rfl ?_
  refine Tj.aload_n dX12_findWraps_5 rfl rfl ?_
  refine Tj.callVv (as := []) (rest := []) dX12_findWraps_6 ln_X12_223 sh_145 (by decide) rfl rfl (Nat.le_of_ble_eq_true rfl) ⟨Nat.le_of_ble_eq_true rfl, Nat.le_of_ble_eq_true rfl⟩ (Nat.le_of_ble_eq_true rfl) rfl ?_
  refine Clv.mono h (fun m1 h => ?_)
  refine Tj.aload_n dX12_findWraps_9 rfl rfl ?_
  refine Tj.gI (j := 17) dX12_findWraps_10 fl_X12_195 sh_145 rfl rfl ?_
  refine Tj.aload_n dX12_findWraps_13 rfl rfl ?_
  refine Tj.gI (j := 4) dX12_findWraps_14 fl_X12_127 sh_145 rfl rfl ?_
  refine Tj.icmp_eq dX12_findWraps_17 rfl rfl (fun c1 => ?_) (fun c1 => ?_)
  · have h := h.1 c1
    refine Tj.iconst dX12_findWraps_21 (by decide) rfl ?_
    refine Tj.istore_n dX12_findWraps_22 (Nat.le_of_ble_eq_true rfl) rfl rfl ?_
    exact Tj.cut h ⟨rfl, ⟨rfl, ⟨rfl, trivial⟩⟩⟩
  · have h := h.2 c1
    exact Tj.vret dX12_findWraps_20 rfl h

theorem wX12_findWraps_23 {m : tM} {P : Option tV → tM → Prop} {x1 : Int} {x2 : Int}  (h : (x2 < 2 → ((x2 = 0 → (Tj mX12_findWraps 77 [some (rV 145), some (iV x1), some (iV x2), some (iV 0), some (iV 0)] [] (up (up m 145 49 (m 149 0)) 145 50 (m 150 0)) P)) ∧ (¬ x2 = 0 → ((R32 (-(m 145 49))) ∧ (Cli mX12_spotAt [rV 145, iV (-(m 145 49)), iV (m 145 50)] m (fun r1 m1 => (Tj mX12_findWraps 77 [some (rV 145), some (iV x1), some (iV x2), some (iV r1), some (iV 0)] [] m1 P))))))) ∧ (¬ x2 < 2 → (P none m))) : Tj mX12_findWraps 23 [some (rV 145), some (iV x1), some (iV x2)] [] m P := by
  refine Tj.iload_n dX12_findWraps_23 rfl rfl ?_
  refine Tj.iconst dX12_findWraps_24 (by decide) rfl ?_
  refine Tj.icmp_ge dX12_findWraps_25 rfl rfl (fun c1 => ?_) (fun c1 => ?_)
  · have h := h.1 c1
    refine Tj.iload_n dX12_findWraps_28 rfl rfl ?_
    refine Tj.if_ne dX12_findWraps_29 rfl rfl (fun c2 => ?_) (fun c2 => ?_)
    · have h := h.1 c2
      refine Tj.iconst dX12_findWraps_32 (by decide) rfl ?_
      refine Tj.goto dX12_findWraps_33 rfl ?_
      refine Tj.istore_n dX12_findWraps_49 (Nat.le_of_ble_eq_true rfl) rfl rfl ?_
      refine Tj.iload_n dX12_findWraps_50 rfl rfl ?_
      refine Tj.if_ne dX12_findWraps_51 rfl rfl (fun c3 => ?_) (fun c3 => ?_)
      case refine_2 => exact absurd c2 c3
      refine Tj.aload_n dX12_findWraps_54 rfl rfl ?_
      refine Tj.aload_n dX12_findWraps_55 rfl rfl ?_
      refine Tj.getR (b := 149) dX12_findWraps_56 fl_X12_19 sh_145 rfl rfl ?_
      refine Tj.iconst dX12_findWraps_59 (by decide) rfl ?_
      refine Tj.iald dX12_findWraps_60 sh_149 (by decide) (by decide) rfl ?_
      refine Tj.pI (j := 49) dX12_findWraps_61 fp_X12_313 sh_145 rfl rfl ?_
      refine Tj.aload_n dX12_findWraps_64 rfl rfl ?_
      refine Tj.aload_n dX12_findWraps_65 rfl rfl ?_
      refine Tj.getR (b := 150) dX12_findWraps_66 fl_X12_22 sh_145 rfl rfl ?_
      refine Tj.iconst dX12_findWraps_69 (by decide) rfl ?_
      refine Tj.iald dX12_findWraps_70 sh_150 (by decide) (by decide) rfl ?_
      refine Tj.pI (j := 50) dX12_findWraps_71 fp_X12_316 sh_145 rfl rfl ?_
      refine Tj.iconst dX12_findWraps_74 (by decide) rfl ?_
      refine Tj.istore dX12_findWraps_75 (Nat.le_of_ble_eq_true rfl) rfl rfl ?_
      exact Tj.cut h ⟨rfl, ⟨rfl, ⟨rfl, ⟨rfl, ⟨rfl, trivial⟩⟩⟩⟩⟩
    · have h := h.2 c2
      obtain ⟨o1, h⟩ := h
      refine Tj.aload_n dX12_findWraps_36 rfl rfl ?_
      refine Tj.aload_n dX12_findWraps_37 rfl rfl ?_
      refine Tj.gI (j := 49) dX12_findWraps_38 fl_X12_313 sh_145 rfl rfl ?_
      refine Tj.ineg dX12_findWraps_41 o1 rfl ?_
      refine Tj.aload_n dX12_findWraps_42 rfl rfl ?_
      refine Tj.gI (j := 50) dX12_findWraps_43 fl_X12_316 sh_145 rfl rfl ?_
      refine Tj.callVi (as := [_, _]) (rest := []) dX12_findWraps_46 ln_X12_255 sh_145 (by decide) rfl rfl (Nat.le_of_ble_eq_true rfl) ⟨Nat.le_of_ble_eq_true rfl, Nat.le_of_ble_eq_true rfl⟩ (Nat.le_of_ble_eq_true rfl) rfl ?_
      refine Cli.mono h (fun r1 m1 h => ?_)
      refine Tj.istore_n dX12_findWraps_49 (Nat.le_of_ble_eq_true rfl) rfl rfl ?_
      refine Tj.iload_n dX12_findWraps_50 rfl rfl ?_
      refine Tj.if_ne dX12_findWraps_51 rfl rfl (fun c4 => ?_) (fun c4 => ?_)
      case refine_1 => exact absurd c4 c2
      refine Tj.iconst dX12_findWraps_74 (by decide) rfl ?_
      refine Tj.istore dX12_findWraps_75 (Nat.le_of_ble_eq_true rfl) rfl rfl ?_
      exact Tj.cut h ⟨rfl, ⟨rfl, ⟨rfl, ⟨rfl, ⟨rfl, trivial⟩⟩⟩⟩⟩
  · have h := h.2 c1
    exact Tj.vret dX12_findWraps_160 rfl h

theorem wX12_findWraps_77 {m : tM} {P : Option tV → tM → Prop} {x1 : Int} {x2 : Int} {x3 : Int} {x4 : Int}  (h : (R32 (4 * (m 145 17))) ∧ ((x4 < (4 * (m 145 17)) → ((0 ≤ x4) ∧ (Cli mX12_doesWrap [rV 145, iV x3, iV (x4 / 4), iV (x4 % 4)] m (fun r1 m1 => ((r1 = 0 → ((R32 (x4 + 1)) ∧ (Tj mX12_findWraps 77 [some (rV 145), some (iV x1), some (iV x2), some (iV x3), some (iV (x4 + 1))] [] m1 P))) ∧ (¬ r1 = 0 → (((m1 145 45) = x1 → ((R32 ((m1 145 45) + 1) ∧ R32 (x4 + 1)) ∧ (Tj mX12_findWraps 77 [some (rV 145), some (iV x1), some (iV x2), some (iV x3), some (iV (x4 + 1))] [] (up (up (up (up m1 145 46 (x4 / 4)) 145 47 (x4 % 4)) 145 48 x2) 145 45 ((m1 145 45) + 1)) P))) ∧ (¬ (m1 145 45) = x1 → ((R32 ((m1 145 45) + 1) ∧ R32 (x4 + 1)) ∧ (Tj mX12_findWraps 77 [some (rV 145), some (iV x1), some (iV x2), some (iV x3), some (iV (x4 + 1))] [] (up m1 145 45 ((m1 145 45) + 1)) P)))))))))) ∧ (¬ x4 < (4 * (m 145 17)) → (Clv mX12_turned [rV 145, iV 1] m (fun m2 => ((R32 (x2 + 1)) ∧ (Tj mX12_findWraps 23 [some (rV 145), some (iV x1), some (iV (x2 + 1))] [] m2 P))))))) : Tj mX12_findWraps 77 [some (rV 145), some (iV x1), some (iV x2), some (iV x3), some (iV x4)] [] m P := by
  obtain ⟨o1, h⟩ := h
  refine Tj.iload dX12_findWraps_77 rfl rfl ?_
  refine Tj.iconst dX12_findWraps_79 (by decide) rfl ?_
  refine Tj.aload_n dX12_findWraps_80 rfl rfl ?_
  refine Tj.gI (j := 17) dX12_findWraps_81 fl_X12_195 sh_145 rfl rfl ?_
  refine Tj.imul dX12_findWraps_84 o1 rfl ?_
  refine Tj.icmp_ge dX12_findWraps_85 rfl rfl (fun c1 => ?_) (fun c1 => ?_)
  · have h := h.1 c1
    obtain ⟨o2, h⟩ := h
    refine Tj.aload_n dX12_findWraps_88 rfl rfl ?_
    refine Tj.iload_n dX12_findWraps_89 rfl rfl ?_
    refine Tj.iload dX12_findWraps_90 rfl rfl ?_
    refine Tj.iconst dX12_findWraps_92 (by decide) rfl ?_
    refine Tj.idiv dX12_findWraps_93 o2 (by decide) rfl ?_
    refine Tj.iload dX12_findWraps_94 rfl rfl ?_
    refine Tj.iconst dX12_findWraps_96 (by decide) rfl ?_
    refine Tj.irem dX12_findWraps_97 o2 (by decide) rfl ?_
    refine Tj.callVi (as := [_, _, _]) (rest := []) dX12_findWraps_98 ln_X12_319 sh_145 (by decide) rfl rfl (Nat.le_of_ble_eq_true rfl) ⟨Nat.le_of_ble_eq_true rfl, Nat.le_of_ble_eq_true rfl⟩ (Nat.le_of_ble_eq_true rfl) rfl ?_
    refine Cli.mono h (fun r1 m1 h => ?_)
    refine Tj.if_eq dX12_findWraps_101 rfl rfl (fun c2 => ?_) (fun c2 => ?_)
    · have h := h.1 c2
      obtain ⟨o3, h⟩ := h
      refine Tj.iinc dX12_findWraps_143 rfl (Nat.le_of_ble_eq_true rfl) rfl o3 rfl ?_
      refine Tj.goto dX12_findWraps_146 rfl ?_
      exact Tj.cut h ⟨rfl, ⟨rfl, ⟨rfl, ⟨rfl, ⟨rfl, trivial⟩⟩⟩⟩⟩
    · have h := h.2 c2
      refine Tj.aload_n dX12_findWraps_104 rfl rfl ?_
      refine Tj.gI (j := 45) dX12_findWraps_105 fl_X12_310 sh_145 rfl rfl ?_
      refine Tj.iload_n dX12_findWraps_108 rfl rfl ?_
      refine Tj.icmp_ne dX12_findWraps_109 rfl rfl (fun c3 => ?_) (fun c3 => ?_)
      · have h := h.1 c3
        obtain ⟨⟨o4, o5⟩, h⟩ := h
        refine Tj.aload_n dX12_findWraps_112 rfl rfl ?_
        refine Tj.iload dX12_findWraps_113 rfl rfl ?_
        refine Tj.iconst dX12_findWraps_115 (by decide) rfl ?_
        refine Tj.idiv dX12_findWraps_116 o2 (by decide) rfl ?_
        refine Tj.pI (j := 46) dX12_findWraps_117 fp_X12_322 sh_145 rfl rfl ?_
        refine Tj.aload_n dX12_findWraps_120 rfl rfl ?_
        refine Tj.iload dX12_findWraps_121 rfl rfl ?_
        refine Tj.iconst dX12_findWraps_123 (by decide) rfl ?_
        refine Tj.irem dX12_findWraps_124 o2 (by decide) rfl ?_
        refine Tj.pI (j := 47) dX12_findWraps_125 fp_X12_325 sh_145 rfl rfl ?_
        refine Tj.aload_n dX12_findWraps_128 rfl rfl ?_
        refine Tj.iload_n dX12_findWraps_129 rfl rfl ?_
        refine Tj.pI (j := 48) dX12_findWraps_130 fp_X12_328 sh_145 rfl rfl ?_
        refine Tj.aload_n dX12_findWraps_133 rfl rfl ?_
        refine Tj.dup dX12_findWraps_134 rfl rfl ?_
        refine Tj.gI (j := 45) dX12_findWraps_135 fl_X12_310 sh_145 rfl rfl ?_
        refine Tj.iconst dX12_findWraps_138 (by decide) rfl ?_
        refine Tj.iadd dX12_findWraps_139 o4 rfl ?_
        refine Tj.pI (j := 45) dX12_findWraps_140 fp_X12_310 sh_145 rfl rfl ?_
        refine Tj.iinc dX12_findWraps_143 rfl (Nat.le_of_ble_eq_true rfl) rfl o5 rfl ?_
        refine Tj.goto dX12_findWraps_146 rfl ?_
        exact Tj.cut h ⟨rfl, ⟨rfl, ⟨rfl, ⟨rfl, ⟨rfl, trivial⟩⟩⟩⟩⟩
      · have h := h.2 c3
        obtain ⟨⟨o6, o7⟩, h⟩ := h
        refine Tj.aload_n dX12_findWraps_133 rfl rfl ?_
        refine Tj.dup dX12_findWraps_134 rfl rfl ?_
        refine Tj.gI (j := 45) dX12_findWraps_135 fl_X12_310 sh_145 rfl rfl ?_
        refine Tj.iconst dX12_findWraps_138 (by decide) rfl ?_
        refine Tj.iadd dX12_findWraps_139 o6 rfl ?_
        refine Tj.pI (j := 45) dX12_findWraps_140 fp_X12_310 sh_145 rfl rfl ?_
        refine Tj.iinc dX12_findWraps_143 rfl (Nat.le_of_ble_eq_true rfl) rfl o7 rfl ?_
        refine Tj.goto dX12_findWraps_146 rfl ?_
        exact Tj.cut h ⟨rfl, ⟨rfl, ⟨rfl, ⟨rfl, ⟨rfl, trivial⟩⟩⟩⟩⟩
  · have h := h.2 c1
    refine Tj.aload_n dX12_findWraps_149 rfl rfl ?_
    refine Tj.iconst dX12_findWraps_150 (by decide) rfl ?_
    refine Tj.callVv (as := [_]) (rest := []) dX12_findWraps_151 ln_X12_275 sh_145 (by decide) rfl rfl (Nat.le_of_ble_eq_true rfl) ⟨Nat.le_of_ble_eq_true rfl, Nat.le_of_ble_eq_true rfl⟩ (Nat.le_of_ble_eq_true rfl) rfl ?_
    refine Clv.mono h (fun m2 h => ?_)
    obtain ⟨o8, h⟩ := h
    refine Tj.iinc dX12_findWraps_154 rfl (Nat.le_of_ble_eq_true rfl) rfl o8 rfl ?_
    refine Tj.goto dX12_findWraps_157 rfl ?_
    exact Tj.cut h ⟨rfl, ⟨rfl, ⟨rfl, trivial⟩⟩⟩

theorem wX12_wraps_0 {m : tM} {P : Option tV → tM → Prop}   (h : Cli mX12_wellOf [rV 145] (up m 145 0 0) (fun r1 m1 => ((r1 = 0 → (Clv mX12_findWraps [rV 145, iV (-1)] m1 (fun m2 => (P (some (iV (m2 145 45))) m2)))) ∧ (¬ r1 = 0 → (P (some (iV (-4))) m1))))) : Tj mX12_wraps 0 [some (rV 145)] [] m P := by
  refine Tj.aload_n dX12_wraps_0 rfl rfl ?_
  refine Tj.iconst dX12_wraps_1 (by decide) rfl ?_
  refine Tj.pI (j := 0) dX12_wraps_2 fp_X12_113 sh_145 rfl rfl ?_
  refine Tj.aload_n dX12_wraps_5 rfl rfl ?_
  refine Tj.callVi (as := []) (rest := []) dX12_wraps_6 ln_X12_182 sh_145 (by decide) rfl rfl (Nat.le_of_ble_eq_true rfl) ⟨Nat.le_of_ble_eq_true rfl, Nat.le_of_ble_eq_true rfl⟩ (Nat.le_of_ble_eq_true rfl) rfl ?_
  refine Cli.mono h (fun r1 m1 h => ?_)
  refine Tj.if_eq dX12_wraps_9 rfl rfl (fun c1 => ?_) (fun c1 => ?_)
  · have h := h.1 c1
    refine Tj.aload_n dX12_wraps_15 rfl rfl ?_
    refine Tj.iconst dX12_wraps_16 (by decide) rfl ?_
    refine Tj.callVv (as := [_]) (rest := []) dX12_wraps_17 ln_X12_331 sh_145 (by decide) rfl rfl (Nat.le_of_ble_eq_true rfl) ⟨Nat.le_of_ble_eq_true rfl, Nat.le_of_ble_eq_true rfl⟩ (Nat.le_of_ble_eq_true rfl) rfl ?_
    refine Clv.mono h (fun m2 h => ?_)
    refine Tj.aload_n dX12_wraps_20 rfl rfl ?_
    refine Tj.gI (j := 45) dX12_wraps_21 fl_X12_310 sh_145 rfl rfl ?_
    exact Tj.iret dX12_wraps_24 rfl h
  · have h := h.2 c1
    refine Tj.bipush dX12_wraps_12 (by decide) (by decide +kernel) rfl ?_
    exact Tj.iret dX12_wraps_14 rfl h

theorem wX12_way_0 {m : tM} {P : Option tV → tM → Prop} {x1 : Int} {x2 : Int}  (h : (x1 < 0 → (P (some (iV (-3))) (up m 145 0 0))) ∧ (¬ x1 < 0 → (Cli mX12_in [iV x2, iV 0, iV 2] (up m 145 0 0) (fun r1 m1 => ((r1 = 0 → (P (some (iV (-3))) m1)) ∧ (¬ r1 = 0 → (Cli mX12_wellOf [rV 145] m1 (fun r2 m2 => ((r2 = 0 → (Clv mX12_findWraps [rV 145, iV x1] m2 (fun m3 => (∀ v1 : Int, v1 = (if x1 < (m3 145 45) then (if x2 = 0 then (m3 145 46) else (if x2 = 1 then (m3 145 47) else (m3 145 48))) else (-1)) → (P (some (iV v1)) m3))))) ∧ (¬ r2 = 0 → (P (some (iV (-4))) m2))))))))))) : Tj mX12_way 0 [some (rV 145), some (iV x1), some (iV x2)] [] m P := by
  refine Tj.aload_n dX12_way_0 rfl rfl ?_
  refine Tj.iconst dX12_way_1 (by decide) rfl ?_
  refine Tj.pI (j := 0) dX12_way_2 fp_X12_113 sh_145 rfl rfl ?_
  refine Tj.iload_n dX12_way_5 rfl rfl ?_
  refine Tj.if_lt dX12_way_6 rfl rfl (fun c1 => ?_) (fun c1 => ?_)
  · have h := h.1 c1
    refine Tj.bipush dX12_way_18 (by decide) (by decide +kernel) rfl ?_
    exact Tj.iret dX12_way_20 rfl h
  · have h := h.2 c1
    refine Tj.iload_n dX12_way_9 rfl rfl ?_
    refine Tj.iconst dX12_way_10 (by decide) rfl ?_
    refine Tj.iconst dX12_way_11 (by decide) rfl ?_
    refine Tj.callSi (as := [_, _, _]) (rest := []) dX12_way_12 ln_X12_139 rfl rfl (Nat.le_of_ble_eq_true rfl) ⟨Nat.le_of_ble_eq_true rfl, Nat.le_of_ble_eq_true rfl⟩ (Nat.le_of_ble_eq_true rfl) rfl ?_
    refine Cli.mono h (fun r1 m1 h => ?_)
    refine Tj.if_ne dX12_way_15 rfl rfl (fun c2 => ?_) (fun c2 => ?_)
    · have h := h.1 c2
      refine Tj.bipush dX12_way_18 (by decide) (by decide +kernel) rfl ?_
      exact Tj.iret dX12_way_20 rfl h
    · have h := h.2 c2
      refine Tj.aload_n dX12_way_21 rfl rfl ?_
      refine Tj.callVi (as := []) (rest := []) dX12_way_22 ln_X12_182 sh_145 (by decide) rfl rfl (Nat.le_of_ble_eq_true rfl) ⟨Nat.le_of_ble_eq_true rfl, Nat.le_of_ble_eq_true rfl⟩ (Nat.le_of_ble_eq_true rfl) rfl ?_
      refine Cli.mono h (fun r2 m2 h => ?_)
      refine Tj.if_eq dX12_way_25 rfl rfl (fun c3 => ?_) (fun c3 => ?_)
      · have h := h.1 c3
        refine Tj.aload_n dX12_way_31 rfl rfl ?_
        refine Tj.iload_n dX12_way_32 rfl rfl ?_
        refine Tj.callVv (as := [_]) (rest := []) dX12_way_33 ln_X12_331 sh_145 (by decide) rfl rfl (Nat.le_of_ble_eq_true rfl) ⟨Nat.le_of_ble_eq_true rfl, Nat.le_of_ble_eq_true rfl⟩ (Nat.le_of_ble_eq_true rfl) rfl ?_
        refine Clv.mono h (fun m3 h => ?_)
        refine Tj.iload_n dX12_way_36 rfl rfl ?_
        refine Tj.aload_n dX12_way_37 rfl rfl ?_
        refine Tj.gI (j := 45) dX12_way_38 fl_X12_310 sh_145 rfl rfl ?_
        have hj : Tj mX12_way 75 [] [iV (if x1 < (m3 145 45) then (if x2 = 0 then (m3 145 46) else (if x2 = 1 then (m3 145 47) else (m3 145 48))) else (-1))] m3 P := by
          generalize hv1 : ((if x1 < (m3 145 45) then (if x2 = 0 then (m3 145 46) else (if x2 = 1 then (m3 145 47) else (m3 145 48))) else (-1)) : Int) = v1
          have h := h v1 hv1.symm
          exact Tj.iret dX12_way_75 rfl h
        refine Tj.icmp_lt dX12_way_41 rfl rfl (fun c4 => ?_) (fun c4 => ?_)
        · refine Tj.iload_n dX12_way_48 rfl rfl ?_
          refine Tj.if_ne dX12_way_49 rfl rfl (fun c5 => ?_) (fun c5 => ?_)
          · refine Tj.aload_n dX12_way_52 rfl rfl ?_
            refine Tj.gI (j := 46) dX12_way_53 fl_X12_322 sh_145 rfl rfl ?_
            refine Tj.goto dX12_way_56 rfl ?_
            try simp only [if_pos c4, if_pos c5] at hj ⊢
            exact Tj.cut hj trivial
          · refine Tj.iload_n dX12_way_59 rfl rfl ?_
            refine Tj.iconst dX12_way_60 (by decide) rfl ?_
            refine Tj.icmp_ne dX12_way_61 rfl rfl (fun c6 => ?_) (fun c6 => ?_)
            · refine Tj.aload_n dX12_way_64 rfl rfl ?_
              refine Tj.gI (j := 47) dX12_way_65 fl_X12_325 sh_145 rfl rfl ?_
              refine Tj.goto dX12_way_68 rfl ?_
              try simp only [if_pos c4, if_neg c5, if_pos c6] at hj ⊢
              exact Tj.cut hj trivial
            · refine Tj.aload_n dX12_way_71 rfl rfl ?_
              refine Tj.gI (j := 48) dX12_way_72 fl_X12_328 sh_145 rfl rfl ?_
              try simp only [if_pos c4, if_neg c5, if_neg c6] at hj ⊢
              exact Tj.cut hj trivial
        · refine Tj.iconst dX12_way_44 (by decide) rfl ?_
          refine Tj.goto dX12_way_45 rfl ?_
          try simp only [if_neg c4] at hj ⊢
          exact Tj.cut hj trivial
      · have h := h.2 c3
        refine Tj.bipush dX12_way_28 (by decide) (by decide +kernel) rfl ?_
        exact Tj.iret dX12_way_30 rfl h

theorem wX12_count_0 {m : tM} {P : Option tV → tM → Prop} {x1 : Int}  (h : (x1 = 0 → (Cli mX12_cubesIn [rV 145, iV 0] (up m 145 0 0) (fun r1 m1 => (Cli mX12_cubesIn [rV 145, iV 1] m1 (fun r2 m2 => ((R32 (r1 + r2)) ∧ (Cli mX12_cubesIn [rV 145, iV 2] m2 (fun r3 m3 => ((R32 ((r1 + r2) + r3)) ∧ (Cli mX12_cubesIn [rV 145, iV 3] m3 (fun r4 m4 => ((R32 (((r1 + r2) + r3) + r4)) ∧ (P (some (iV (((r1 + r2) + r3) + r4))) m4))))))))))))) ∧ (x1 = 1 → ((R32 ((m 146 0) + (m 146 1)) ∧ R32 (((m 146 0) + (m 146 1)) + (m 146 2)) ∧ R32 ((((m 146 0) + (m 146 1)) + (m 146 2)) + (m 146 3))) ∧ (P (some (iV ((((m 146 0) + (m 146 1)) + (m 146 2)) + (m 146 3)))) (up m 145 0 0)))) ∧ (x1 = 2 → (P (some (iV (m 145 4))) (up m 145 0 0))) ∧ (x1 = 3 → (Cli mX12_creases [rV 145] (up m 145 0 0) (fun r5 m5 => (P (some (iV r5)) m5)))) ∧ (x1 = 4 → (P (some (iV (m 145 13))) (up m 145 0 0))) ∧ (¬ x1 = 0 → ¬ x1 = 1 → ¬ x1 = 2 → ¬ x1 = 3 → ¬ x1 = 4 → (P (some (iV (-3))) (up m 145 0 0)))) : Tj mX12_count 0 [some (rV 145), some (iV x1)] [] m P := by
  refine Tj.aload_n dX12_count_0 rfl rfl ?_
  refine Tj.iconst dX12_count_1 (by decide) rfl ?_
  refine Tj.pI (j := 0) dX12_count_2 fp_X12_113 sh_145 rfl rfl ?_
  refine Tj.iload_n dX12_count_5 rfl rfl ?_
  show Tj mX12_count 6 [some (rV 145), some (iV x1)] [iV x1] (up m 145 0 0) P
  by_cases c1 : x1 = 0
  · have h := h.1 c1
    refine Tj.tsI (pc' := 40) (v := 0) (off := 34) dX12_count_6 c1 (by decide) (by decide) (by decide +kernel) (by decide) ?_
    refine Tj.aload_n dX12_count_40 rfl rfl ?_
    refine Tj.iconst dX12_count_41 (by decide) rfl ?_
    refine Tj.callVi (as := [_]) (rest := []) dX12_count_42 ln_X12_146 sh_145 (by decide) rfl rfl (Nat.le_of_ble_eq_true rfl) ⟨Nat.le_of_ble_eq_true rfl, Nat.le_of_ble_eq_true rfl⟩ (Nat.le_of_ble_eq_true rfl) rfl ?_
    refine Cli.mono h (fun r1 m1 h => ?_)
    refine Tj.aload_n dX12_count_45 rfl rfl ?_
    refine Tj.iconst dX12_count_46 (by decide) rfl ?_
    refine Tj.callVi (as := [_]) (rest := [_]) dX12_count_47 ln_X12_146 sh_145 (by decide) rfl rfl (Nat.le_of_ble_eq_true rfl) ⟨Nat.le_of_ble_eq_true rfl, Nat.le_of_ble_eq_true rfl⟩ (Nat.le_of_ble_eq_true rfl) rfl ?_
    refine Cli.mono h (fun r2 m2 h => ?_)
    obtain ⟨o1, h⟩ := h
    refine Tj.iadd dX12_count_50 o1 rfl ?_
    refine Tj.aload_n dX12_count_51 rfl rfl ?_
    refine Tj.iconst dX12_count_52 (by decide) rfl ?_
    refine Tj.callVi (as := [_]) (rest := [_]) dX12_count_53 ln_X12_146 sh_145 (by decide) rfl rfl (Nat.le_of_ble_eq_true rfl) ⟨Nat.le_of_ble_eq_true rfl, Nat.le_of_ble_eq_true rfl⟩ (Nat.le_of_ble_eq_true rfl) rfl ?_
    refine Cli.mono h (fun r3 m3 h => ?_)
    obtain ⟨o2, h⟩ := h
    refine Tj.iadd dX12_count_56 o2 rfl ?_
    refine Tj.aload_n dX12_count_57 rfl rfl ?_
    refine Tj.iconst dX12_count_58 (by decide) rfl ?_
    refine Tj.callVi (as := [_]) (rest := [_]) dX12_count_59 ln_X12_146 sh_145 (by decide) rfl rfl (Nat.le_of_ble_eq_true rfl) ⟨Nat.le_of_ble_eq_true rfl, Nat.le_of_ble_eq_true rfl⟩ (Nat.le_of_ble_eq_true rfl) rfl ?_
    refine Cli.mono h (fun r4 m4 h => ?_)
    obtain ⟨o3, h⟩ := h
    refine Tj.iadd dX12_count_62 o3 rfl ?_
    exact Tj.iret dX12_count_63 rfl h
  have h := h.2
  by_cases c2 : x1 = 1
  · have h := h.1 c2
    refine Tj.tsI (pc' := 64) (v := 1) (off := 58) dX12_count_6 c2 (by decide) (by decide) (by decide +kernel) (by decide) ?_
    obtain ⟨⟨o4, o5, o6⟩, h⟩ := h
    refine Tj.aload_n dX12_count_64 rfl rfl ?_
    refine Tj.getR (b := 146) dX12_count_65 fl_X12_7 sh_145 rfl rfl ?_
    refine Tj.iconst dX12_count_68 (by decide) rfl ?_
    refine Tj.iald dX12_count_69 sh_146 (by decide) (by decide) rfl ?_
    refine Tj.aload_n dX12_count_70 rfl rfl ?_
    refine Tj.getR (b := 146) dX12_count_71 fl_X12_7 sh_145 rfl rfl ?_
    refine Tj.iconst dX12_count_74 (by decide) rfl ?_
    refine Tj.iald dX12_count_75 sh_146 (by decide) (by decide) rfl ?_
    refine Tj.iadd dX12_count_76 o4 rfl ?_
    refine Tj.aload_n dX12_count_77 rfl rfl ?_
    refine Tj.getR (b := 146) dX12_count_78 fl_X12_7 sh_145 rfl rfl ?_
    refine Tj.iconst dX12_count_81 (by decide) rfl ?_
    refine Tj.iald dX12_count_82 sh_146 (by decide) (by decide) rfl ?_
    refine Tj.iadd dX12_count_83 o5 rfl ?_
    refine Tj.aload_n dX12_count_84 rfl rfl ?_
    refine Tj.getR (b := 146) dX12_count_85 fl_X12_7 sh_145 rfl rfl ?_
    refine Tj.iconst dX12_count_88 (by decide) rfl ?_
    refine Tj.iald dX12_count_89 sh_146 (by decide) (by decide) rfl ?_
    refine Tj.iadd dX12_count_90 o6 rfl ?_
    exact Tj.iret dX12_count_91 rfl h
  have h := h.2
  by_cases c3 : x1 = 2
  · have h := h.1 c3
    refine Tj.tsI (pc' := 92) (v := 2) (off := 86) dX12_count_6 c3 (by decide) (by decide) (by decide +kernel) (by decide) ?_
    refine Tj.aload_n dX12_count_92 rfl rfl ?_
    refine Tj.gI (j := 4) dX12_count_93 fl_X12_127 sh_145 rfl rfl ?_
    exact Tj.iret dX12_count_96 rfl h
  have h := h.2
  by_cases c4 : x1 = 3
  · have h := h.1 c4
    refine Tj.tsI (pc' := 97) (v := 3) (off := 91) dX12_count_6 c4 (by decide) (by decide) (by decide +kernel) (by decide) ?_
    refine Tj.aload_n dX12_count_97 rfl rfl ?_
    refine Tj.callVi (as := []) (rest := []) dX12_count_98 ln_X12_245 sh_145 (by decide) rfl rfl (Nat.le_of_ble_eq_true rfl) ⟨Nat.le_of_ble_eq_true rfl, Nat.le_of_ble_eq_true rfl⟩ (Nat.le_of_ble_eq_true rfl) rfl ?_
    refine Cli.mono h (fun r5 m5 h => ?_)
    exact Tj.iret dX12_count_101 rfl h
  have h := h.2
  by_cases c5 : x1 = 4
  · have h := h.1 c5
    refine Tj.tsI (pc' := 102) (v := 4) (off := 96) dX12_count_6 c5 (by decide) (by decide) (by decide +kernel) (by decide) ?_
    refine Tj.aload_n dX12_count_102 rfl rfl ?_
    refine Tj.gI (j := 13) dX12_count_103 fl_X12_130 sh_145 rfl rfl ?_
    exact Tj.iret dX12_count_106 rfl h
  have h := h.2
  have h := h c1 c2 c3 c4 c5
  refine Tj.tsO (pc' := 107) dX12_count_6 ((Int.lt_or_le x1 0).elim Or.inl (fun q => Or.inr (ts_s (by decide : (4 : Int) + 1 = 5) (ts_s (by decide : (3 : Int) + 1 = 4) (ts_s (by decide : (2 : Int) + 1 = 3) (ts_s (by decide : (1 : Int) + 1 = 2) (ts_s (by decide : (0 : Int) + 1 = 1) q c1) c2) c3) c4) c5))) (by decide) ?_
  refine Tj.bipush dX12_count_107 (by decide) (by decide +kernel) rfl ?_
  exact Tj.iret dX12_count_109 rfl h
