theorem wX11_cut_0 {m : tM} {P : Option tV → tM → Prop} {x1 : Int} {x2 : Int} {x3 : Int}  (h : Cli mX9_size [rV 109] m (fun r1 m1 => (Cli mX11_isWithin [iV x1, iV r1] m1 (fun r2 m2 => ((r2 = 0 → (P (some (iV (-3))) m2)) ∧ (¬ r2 = 0 → (Cli mX11_isWithin [iV x2, iV 4] m2 (fun r3 m3 => ((r3 = 0 → (P (some (iV (-3))) m3)) ∧ (¬ r3 = 0 → (Cli mX11_isSwitch [iV x3] m3 (fun r4 m4 => ((r4 = 0 → (P (some (iV (-3))) m4)) ∧ (¬ r4 = 0 → (Cli mX9_fault [rV 109] m4 (fun r5 m5 => ((r5 = 0 → (Clv mX7_keep [rV 10, rV 1] m5 (fun m6 => (Cli mX2_isCut [rV 4, iV x1, iV x2] m6 (fun r6 m7 => (∀ v1 : Int, v1 = (if r6 = 0 then 0 else 1) → (∀ v2 : Int, v2 = (if x3 = 1 then 1 else 0) → (Clv mX2_mark [rV 4, iV x1, iV x2, iV v2] m7 (fun m8 => (Cli mX9_squareAcross [rV 109, iV x1, iV x2] m8 (fun r7 m9 => (Cli mX9_sideAcross [rV 109, iV x1, iV x2] m9 (fun r8 m10 => (∀ v3 : Int, v3 = (if x3 = 1 then 1 else 0) → (Clv mX2_mark [rV 4, iV r7, iV r8, iV v3] m10 (fun m11 => (P (some (iV v1)) m11))))))))))))))))) ∧ (¬ r5 = 0 → (P (some (iV (-4))) m5))))))))))))))))))) : Tj mX11_cut 0 [some (rV 0), some (iV x1), some (iV x2), some (iV x3)] [] m P := by
  refine Tj.iload_n dX11_cut_0 rfl rfl ?_
  refine Tj.aload_n dX11_cut_1 rfl rfl ?_
  refine Tj.getR (b := 109) dX11_cut_2 fl_X11_33 sh_0 rfl rfl ?_
  refine Tj.callVi (as := []) (rest := [_]) dX11_cut_5 ln_X11_128 sh_109 (by decide) rfl rfl (Nat.le_of_ble_eq_true rfl) ⟨Nat.le_of_ble_eq_true rfl, Nat.le_of_ble_eq_true rfl⟩ (Nat.le_of_ble_eq_true rfl) rfl ?_
  refine Cli.mono h (fun r1 m1 h => ?_)
  refine Tj.callSi (as := [_, _]) (rest := []) dX11_cut_8 ln_X11_131 rfl rfl (Nat.le_of_ble_eq_true rfl) ⟨Nat.le_of_ble_eq_true rfl, Nat.le_of_ble_eq_true rfl⟩ (Nat.le_of_ble_eq_true rfl) rfl ?_
  refine Cli.mono h (fun r2 m2 h => ?_)
  refine Tj.if_eq dX11_cut_11 rfl rfl (fun c1 => ?_) (fun c1 => ?_)
  · have h := h.1 c1
    refine Tj.bipush dX11_cut_29 (by decide) (by decide +kernel) rfl ?_
    exact Tj.iret dX11_cut_31 rfl h
  · have h := h.2 c1
    refine Tj.iload_n dX11_cut_14 rfl rfl ?_
    refine Tj.iconst dX11_cut_15 (by decide) rfl ?_
    refine Tj.callSi (as := [_, _]) (rest := []) dX11_cut_16 ln_X11_131 rfl rfl (Nat.le_of_ble_eq_true rfl) ⟨Nat.le_of_ble_eq_true rfl, Nat.le_of_ble_eq_true rfl⟩ (Nat.le_of_ble_eq_true rfl) rfl ?_
    refine Cli.mono h (fun r3 m3 h => ?_)
    refine Tj.if_eq dX11_cut_19 rfl rfl (fun c2 => ?_) (fun c2 => ?_)
    · have h := h.1 c2
      refine Tj.bipush dX11_cut_29 (by decide) (by decide +kernel) rfl ?_
      exact Tj.iret dX11_cut_31 rfl h
    · have h := h.2 c2
      refine Tj.iload_n dX11_cut_22 rfl rfl ?_
      refine Tj.callSi (as := [_]) (rest := []) dX11_cut_23 ln_X11_111 rfl rfl (Nat.le_of_ble_eq_true rfl) ⟨Nat.le_of_ble_eq_true rfl, Nat.le_of_ble_eq_true rfl⟩ (Nat.le_of_ble_eq_true rfl) rfl ?_
      refine Cli.mono h (fun r4 m4 h => ?_)
      refine Tj.if_ne dX11_cut_26 rfl rfl (fun c3 => ?_) (fun c3 => ?_)
      · have h := h.1 c3
        refine Tj.bipush dX11_cut_29 (by decide) (by decide +kernel) rfl ?_
        exact Tj.iret dX11_cut_31 rfl h
      · have h := h.2 c3
        refine Tj.aload_n dX11_cut_32 rfl rfl ?_
        refine Tj.getR (b := 109) dX11_cut_33 fl_X11_33 sh_0 rfl rfl ?_
        refine Tj.callVi (as := []) (rest := []) dX11_cut_36 ln_X11_124 sh_109 (by decide) rfl rfl (Nat.le_of_ble_eq_true rfl) ⟨Nat.le_of_ble_eq_true rfl, Nat.le_of_ble_eq_true rfl⟩ (Nat.le_of_ble_eq_true rfl) rfl ?_
        refine Cli.mono h (fun r5 m5 h => ?_)
        refine Tj.if_eq dX11_cut_39 rfl rfl (fun c4 => ?_) (fun c4 => ?_)
        · have h := h.1 c4
          refine Tj.aload_n dX11_cut_45 rfl rfl ?_
          refine Tj.getR (b := 10) dX11_cut_46 fl_X11_19 sh_0 rfl rfl ?_
          refine Tj.aload_n dX11_cut_49 rfl rfl ?_
          refine Tj.getR (b := 1) dX11_cut_50 fl_X11_10 sh_0 rfl rfl ?_
          refine Tj.callVv (as := [_]) (rest := []) dX11_cut_53 ln_X11_83 sh_10 (by decide) rfl rfl (Nat.le_of_ble_eq_true rfl) ⟨Nat.le_of_ble_eq_true rfl, Nat.le_of_ble_eq_true rfl⟩ (Nat.le_of_ble_eq_true rfl) rfl ?_
          refine Clv.mono h (fun m6 h => ?_)
          refine Tj.aload_n dX11_cut_56 rfl rfl ?_
          refine Tj.getR (b := 1) dX11_cut_57 fl_X11_10 sh_0 rfl rfl ?_
          refine Tj.getR (b := 4) dX11_cut_60 fl_X11_156 sh_1 rfl rfl ?_
          refine Tj.iload_n dX11_cut_63 rfl rfl ?_
          refine Tj.iload_n dX11_cut_64 rfl rfl ?_
          refine Tj.callVi (as := [_, _]) (rest := []) dX11_cut_65 ln_X11_160 sh_4 (by decide) rfl rfl (Nat.le_of_ble_eq_true rfl) ⟨Nat.le_of_ble_eq_true rfl, Nat.le_of_ble_eq_true rfl⟩ (Nat.le_of_ble_eq_true rfl) rfl ?_
          refine Cli.mono h (fun r6 m7 h => ?_)
          have hj : Tj mX11_cut 76 [some (rV 0), some (iV x1), some (iV x2), some (iV x3)] [iV (if r6 = 0 then 0 else 1)] m7 P := by
            generalize hv1 : ((if r6 = 0 then 0 else 1) : Int) = v1
            have h := h v1 hv1.symm
            refine Tj.istore dX11_cut_76 (Nat.le_of_ble_eq_true rfl) rfl rfl ?_
            refine Tj.aload_n dX11_cut_78 rfl rfl ?_
            refine Tj.getR (b := 1) dX11_cut_79 fl_X11_10 sh_0 rfl rfl ?_
            refine Tj.getR (b := 4) dX11_cut_82 fl_X11_156 sh_1 rfl rfl ?_
            refine Tj.iload_n dX11_cut_85 rfl rfl ?_
            refine Tj.iload_n dX11_cut_86 rfl rfl ?_
            refine Tj.iload_n dX11_cut_87 rfl rfl ?_
            refine Tj.iconst dX11_cut_88 (by decide) rfl ?_
            have hj : Tj mX11_cut 97 [some (rV 0), some (iV x1), some (iV x2), some (iV x3), some (iV v1)] [iV (if x3 = 1 then 1 else 0), iV x2, iV x1, rV 4] m7 P := by
              generalize hv2 : ((if x3 = 1 then 1 else 0) : Int) = v2
              have h := h v2 hv2.symm
              refine Tj.callVv (as := [_, _, _]) (rest := []) dX11_cut_97 ln_X11_165 sh_4 (by decide) rfl rfl (Nat.le_of_ble_eq_true rfl) ⟨Nat.le_of_ble_eq_true rfl, Nat.le_of_ble_eq_true rfl⟩ (Nat.le_of_ble_eq_true rfl) rfl ?_
              refine Clv.mono h (fun m8 h => ?_)
              refine Tj.aload_n dX11_cut_100 rfl rfl ?_
              refine Tj.getR (b := 1) dX11_cut_101 fl_X11_10 sh_0 rfl rfl ?_
              refine Tj.getR (b := 4) dX11_cut_104 fl_X11_156 sh_1 rfl rfl ?_
              refine Tj.aload_n dX11_cut_107 rfl rfl ?_
              refine Tj.getR (b := 109) dX11_cut_108 fl_X11_33 sh_0 rfl rfl ?_
              refine Tj.iload_n dX11_cut_111 rfl rfl ?_
              refine Tj.iload_n dX11_cut_112 rfl rfl ?_
              refine Tj.callVi (as := [_, _]) (rest := [_]) dX11_cut_113 ln_X11_144 sh_109 (by decide) rfl rfl (Nat.le_of_ble_eq_true rfl) ⟨Nat.le_of_ble_eq_true rfl, Nat.le_of_ble_eq_true rfl⟩ (Nat.le_of_ble_eq_true rfl) rfl ?_
              refine Cli.mono h (fun r7 m9 h => ?_)
              refine Tj.aload_n dX11_cut_116 rfl rfl ?_
              refine Tj.getR (b := 109) dX11_cut_117 fl_X11_33 sh_0 rfl rfl ?_
              refine Tj.iload_n dX11_cut_120 rfl rfl ?_
              refine Tj.iload_n dX11_cut_121 rfl rfl ?_
              refine Tj.callVi (as := [_, _]) (rest := [_, _]) dX11_cut_122 ln_X11_147 sh_109 (by decide) rfl rfl (Nat.le_of_ble_eq_true rfl) ⟨Nat.le_of_ble_eq_true rfl, Nat.le_of_ble_eq_true rfl⟩ (Nat.le_of_ble_eq_true rfl) rfl ?_
              refine Cli.mono h (fun r8 m10 h => ?_)
              refine Tj.iload_n dX11_cut_125 rfl rfl ?_
              refine Tj.iconst dX11_cut_126 (by decide) rfl ?_
              have hj : Tj mX11_cut 135 [none, none, none, none, some (iV v1)] [iV (if x3 = 1 then 1 else 0), iV r8, iV r7, rV 4] m10 P := by
                generalize hv3 : ((if x3 = 1 then 1 else 0) : Int) = v3
                have h := h v3 hv3.symm
                refine Tj.callVv (as := [_, _, _]) (rest := []) dX11_cut_135 ln_X11_165 sh_4 (by decide) rfl rfl (Nat.le_of_ble_eq_true rfl) ⟨Nat.le_of_ble_eq_true rfl, Nat.le_of_ble_eq_true rfl⟩ (Nat.le_of_ble_eq_true rfl) rfl ?_
                refine Clv.mono h (fun m11 h => ?_)
                refine Tj.iload dX11_cut_138 rfl rfl ?_
                exact Tj.iret dX11_cut_140 rfl h
              refine Tj.icmp_ne dX11_cut_127 rfl rfl (fun c7 => ?_) (fun c7 => ?_)
              · refine Tj.iconst dX11_cut_130 (by decide) rfl ?_
                refine Tj.goto dX11_cut_131 rfl ?_
                try simp only [if_pos c7] at hj ⊢
                exact Tj.cut hj ⟨rfl, trivial⟩
              · refine Tj.iconst dX11_cut_134 (by decide) rfl ?_
                try simp only [if_neg c7] at hj ⊢
                exact Tj.cut hj ⟨rfl, trivial⟩
            refine Tj.icmp_ne dX11_cut_89 rfl rfl (fun c6 => ?_) (fun c6 => ?_)
            · refine Tj.iconst dX11_cut_92 (by decide) rfl ?_
              refine Tj.goto dX11_cut_93 rfl ?_
              try simp only [if_pos c6] at hj ⊢
              exact Tj.cut hj ⟨rfl, ⟨rfl, ⟨rfl, ⟨rfl, ⟨rfl, trivial⟩⟩⟩⟩⟩
            · refine Tj.iconst dX11_cut_96 (by decide) rfl ?_
              try simp only [if_neg c6] at hj ⊢
              exact Tj.cut hj ⟨rfl, ⟨rfl, ⟨rfl, ⟨rfl, ⟨rfl, trivial⟩⟩⟩⟩⟩
          refine Tj.if_eq dX11_cut_68 rfl rfl (fun c5 => ?_) (fun c5 => ?_)
          · refine Tj.iconst dX11_cut_75 (by decide) rfl ?_
            try simp only [if_pos c5] at hj ⊢
            exact Tj.cut hj ⟨rfl, ⟨rfl, ⟨rfl, ⟨rfl, trivial⟩⟩⟩⟩
          · refine Tj.iconst dX11_cut_71 (by decide) rfl ?_
            refine Tj.goto dX11_cut_72 rfl ?_
            try simp only [if_neg c5] at hj ⊢
            exact Tj.cut hj ⟨rfl, ⟨rfl, ⟨rfl, ⟨rfl, trivial⟩⟩⟩⟩
        · have h := h.2 c4
          refine Tj.bipush dX11_cut_42 (by decide) (by decide +kernel) rfl ?_
          exact Tj.iret dX11_cut_44 rfl h

theorem wX11_cuts_0 {m : tM} {P : Option tV → tM → Prop}   (h : Cli mX2_marks [rV 4] m (fun r1 m1 => ((0 ≤ r1) ∧ (P (some (iV (r1 / 2))) m1)))) : Tj mX11_cuts 0 [some (rV 0)] [] m P := by
  refine Tj.aload_n dX11_cuts_0 rfl rfl ?_
  refine Tj.getR (b := 1) dX11_cuts_1 fl_X11_10 sh_0 rfl rfl ?_
  refine Tj.getR (b := 4) dX11_cuts_4 fl_X11_156 sh_1 rfl rfl ?_
  refine Tj.callVi (as := []) (rest := []) dX11_cuts_7 ln_X11_169 sh_4 (by decide) rfl rfl (Nat.le_of_ble_eq_true rfl) ⟨Nat.le_of_ble_eq_true rfl, Nat.le_of_ble_eq_true rfl⟩ (Nat.le_of_ble_eq_true rfl) rfl ?_
  refine Cli.mono h (fun r1 m1 h => ?_)
  obtain ⟨o1, h⟩ := h
  refine Tj.iconst dX11_cuts_10 (by decide) rfl ?_
  refine Tj.idiv dX11_cuts_11 o1 (by decide) rfl ?_
  exact Tj.iret dX11_cuts_12 rfl h

theorem wX11_open_0 {m : tM} {P : Option tV → tM → Prop}   (h : Cli mX9_fault [rV 109] m (fun r1 m1 => ((r1 = 0 → (Cli mX9_size [rV 109] m1 (fun r2 m2 => ((60 < r2 → (P (some (iV (-5))) m2)) ∧ (¬ 60 < r2 → (Cli mX5_lay [rV 115, rV 109, rV 4] m2 (fun r3 m3 => ((r3 = 0 → (Cli mX5_isWithinReach [rV 115] m3 (fun r4 m4 => ((r4 = 0 → (P (some (iV (-3))) m4)) ∧ (¬ r4 = 0 → (Clv mX7_keep [rV 10, rV 1] m4 (fun m5 => (Clv mX5_drawOn [rV 115, rV 6, rV 109, rV 4] m5 (fun m6 => (Cli mX8_creaseCount [rV 6] m6 (fun r5 m7 => (P (some (iV r5)) m7)))))))))))) ∧ (¬ r3 = 0 → ((R32 ((-20) - r3)) ∧ (P (some (iV ((-20) - r3))) m3))))))))))) ∧ (¬ r1 = 0 → (P (some (iV (-4))) m1))))) : Tj mX11_open 0 [some (rV 0)] [] m P := by
  refine Tj.aload_n dX11_open_0 rfl rfl ?_
  refine Tj.getR (b := 109) dX11_open_1 fl_X11_33 sh_0 rfl rfl ?_
  refine Tj.callVi (as := []) (rest := []) dX11_open_4 ln_X11_124 sh_109 (by decide) rfl rfl (Nat.le_of_ble_eq_true rfl) ⟨Nat.le_of_ble_eq_true rfl, Nat.le_of_ble_eq_true rfl⟩ (Nat.le_of_ble_eq_true rfl) rfl ?_
  refine Cli.mono h (fun r1 m1 h => ?_)
  refine Tj.if_eq dX11_open_7 rfl rfl (fun c1 => ?_) (fun c1 => ?_)
  · have h := h.1 c1
    refine Tj.aload_n dX11_open_13 rfl rfl ?_
    refine Tj.getR (b := 109) dX11_open_14 fl_X11_33 sh_0 rfl rfl ?_
    refine Tj.callVi (as := []) (rest := []) dX11_open_17 ln_X11_128 sh_109 (by decide) rfl rfl (Nat.le_of_ble_eq_true rfl) ⟨Nat.le_of_ble_eq_true rfl, Nat.le_of_ble_eq_true rfl⟩ (Nat.le_of_ble_eq_true rfl) rfl ?_
    refine Cli.mono h (fun r2 m2 h => ?_)
    refine Tj.bipush dX11_open_20 (by decide) (by decide +kernel) rfl ?_
    refine Tj.icmp_le dX11_open_22 rfl rfl (fun c2 => ?_) (fun c2 => ?_)
    · have h := h.1 c2
      refine Tj.bipush dX11_open_25 (by decide) (by decide +kernel) rfl ?_
      exact Tj.iret dX11_open_27 rfl h
    · have h := h.2 c2
      refine Tj.aload_n dX11_open_28 rfl rfl ?_
      refine Tj.getR (b := 115) dX11_open_29 fl_X11_40 sh_0 rfl rfl ?_
      refine Tj.aload_n dX11_open_32 rfl rfl ?_
      refine Tj.getR (b := 109) dX11_open_33 fl_X11_33 sh_0 rfl rfl ?_
      refine Tj.aload_n dX11_open_36 rfl rfl ?_
      refine Tj.getR (b := 1) dX11_open_37 fl_X11_10 sh_0 rfl rfl ?_
      refine Tj.getR (b := 4) dX11_open_40 fl_X11_156 sh_1 rfl rfl ?_
      refine Tj.callVi (as := [_, _]) (rest := []) dX11_open_43 ln_X11_172 sh_115 (by decide) rfl rfl (Nat.le_of_ble_eq_true rfl) ⟨Nat.le_of_ble_eq_true rfl, Nat.le_of_ble_eq_true rfl⟩ (Nat.le_of_ble_eq_true rfl) rfl ?_
      refine Cli.mono h (fun r3 m3 h => ?_)
      refine Tj.istore_n dX11_open_46 (Nat.le_of_ble_eq_true rfl) rfl rfl ?_
      refine Tj.iload_n dX11_open_47 rfl rfl ?_
      refine Tj.if_eq dX11_open_48 rfl rfl (fun c3 => ?_) (fun c3 => ?_)
      · have h := h.1 c3
        refine Tj.aload_n dX11_open_56 rfl rfl ?_
        refine Tj.getR (b := 115) dX11_open_57 fl_X11_40 sh_0 rfl rfl ?_
        refine Tj.callVi (as := []) (rest := []) dX11_open_60 ln_X11_176 sh_115 (by decide) rfl rfl (Nat.le_of_ble_eq_true rfl) ⟨Nat.le_of_ble_eq_true rfl, Nat.le_of_ble_eq_true rfl⟩ (Nat.le_of_ble_eq_true rfl) rfl ?_
        refine Cli.mono h (fun r4 m4 h => ?_)
        refine Tj.if_ne dX11_open_63 rfl rfl (fun c4 => ?_) (fun c4 => ?_)
        · have h := h.1 c4
          refine Tj.bipush dX11_open_66 (by decide) (by decide +kernel) rfl ?_
          exact Tj.iret dX11_open_68 rfl h
        · have h := h.2 c4
          refine Tj.aload_n dX11_open_69 rfl rfl ?_
          refine Tj.getR (b := 10) dX11_open_70 fl_X11_19 sh_0 rfl rfl ?_
          refine Tj.aload_n dX11_open_73 rfl rfl ?_
          refine Tj.getR (b := 1) dX11_open_74 fl_X11_10 sh_0 rfl rfl ?_
          refine Tj.callVv (as := [_]) (rest := []) dX11_open_77 ln_X11_83 sh_10 (by decide) rfl rfl (Nat.le_of_ble_eq_true rfl) ⟨Nat.le_of_ble_eq_true rfl, Nat.le_of_ble_eq_true rfl⟩ (Nat.le_of_ble_eq_true rfl) rfl ?_
          refine Clv.mono h (fun m5 h => ?_)
          refine Tj.aload_n dX11_open_80 rfl rfl ?_
          refine Tj.getR (b := 115) dX11_open_81 fl_X11_40 sh_0 rfl rfl ?_
          refine Tj.aload_n dX11_open_84 rfl rfl ?_
          refine Tj.getR (b := 1) dX11_open_85 fl_X11_10 sh_0 rfl rfl ?_
          refine Tj.getR (b := 6) dX11_open_88 fl_X11_180 sh_1 rfl rfl ?_
          refine Tj.aload_n dX11_open_91 rfl rfl ?_
          refine Tj.getR (b := 109) dX11_open_92 fl_X11_33 sh_0 rfl rfl ?_
          refine Tj.aload_n dX11_open_95 rfl rfl ?_
          refine Tj.getR (b := 1) dX11_open_96 fl_X11_10 sh_0 rfl rfl ?_
          refine Tj.getR (b := 4) dX11_open_99 fl_X11_156 sh_1 rfl rfl ?_
          refine Tj.callVv (as := [_, _, _]) (rest := []) dX11_open_102 ln_X11_183 sh_115 (by decide) rfl rfl (Nat.le_of_ble_eq_true rfl) ⟨Nat.le_of_ble_eq_true rfl, Nat.le_of_ble_eq_true rfl⟩ (Nat.le_of_ble_eq_true rfl) rfl ?_
          refine Clv.mono h (fun m6 h => ?_)
          refine Tj.aload_n dX11_open_105 rfl rfl ?_
          refine Tj.getR (b := 1) dX11_open_106 fl_X11_10 sh_0 rfl rfl ?_
          refine Tj.getR (b := 6) dX11_open_109 fl_X11_180 sh_1 rfl rfl ?_
          refine Tj.callVi (as := []) (rest := []) dX11_open_112 ln_X11_187 sh_6 (by decide) rfl rfl (Nat.le_of_ble_eq_true rfl) ⟨Nat.le_of_ble_eq_true rfl, Nat.le_of_ble_eq_true rfl⟩ (Nat.le_of_ble_eq_true rfl) rfl ?_
          refine Cli.mono h (fun r5 m7 h => ?_)
          exact Tj.iret dX11_open_115 rfl h
      · have h := h.2 c3
        obtain ⟨o1, h⟩ := h
        refine Tj.bipush dX11_open_51 (by decide) (by decide +kernel) rfl ?_
        refine Tj.iload_n dX11_open_53 rfl rfl ?_
        refine Tj.isub dX11_open_54 o1 rfl ?_
        exact Tj.iret dX11_open_55 rfl h
  · have h := h.2 c1
    refine Tj.bipush dX11_open_10 (by decide) (by decide +kernel) rfl ?_
    exact Tj.iret dX11_open_12 rfl h

theorem wX11_spot_0 {m : tM} {P : Option tV → tM → Prop} {x1 : Int} {x2 : Int} {x3 : Int}  (h : Cli mX11_isOnTable [iV x1] m (fun r1 m1 => ((r1 = 0 → (P (some (iV (-3))) m1)) ∧ (¬ r1 = 0 → (Cli mX11_isOnTable [iV x2] m1 (fun r2 m2 => ((r2 = 0 → (P (some (iV (-3))) m2)) ∧ (¬ r2 = 0 → (Cli mX11_isSwitch [iV x3] m2 (fun r3 m3 => ((r3 = 0 → (P (some (iV (-3))) m3)) ∧ (¬ r3 = 0 → (Cli mX8_find [rV 6, iV x1, iV x2] m3 (fun r4 m4 => ((x3 = 1 → ((r4 < 0 → (Cli mX8_size [rV 6] m4 (fun r5 m5 => ((r5 < 60 → (Clv mX7_keep [rV 10, rV 1] m5 (fun m6 => (Cli mX8_add [rV 6, iV x1, iV x2] m6 (fun r6 m7 => (P (some (iV 0)) m7)))))) ∧ (¬ r5 < 60 → (P (some (iV (-5))) m5)))))) ∧ (¬ r4 < 0 → (Clv mX7_keep [rV 10, rV 1] m4 (fun m8 => (P (some (iV 1)) m8)))))) ∧ (¬ x3 = 1 → (Clv mX7_keep [rV 10, rV 1] m4 (fun m9 => ((x3 = 0 → ((r4 < 0 → (P (some (iV 0)) m9)) ∧ (¬ r4 < 0 → (Clv mX8_remove [rV 6, iV r4] m9 (fun m10 => (P (some (iV 1)) m10)))))) ∧ (¬ x3 = 0 → (∀ v1 : Int, v1 = (if r4 < 0 then 0 else 1) → (P (some (iV v1)) m9)))))))))))))))))))))) : Tj mX11_spot 0 [some (rV 0), some (iV x1), some (iV x2), some (iV x3)] [] m P := by
  refine Tj.iload_n dX11_spot_0 rfl rfl ?_
  refine Tj.callSi (as := [_]) (rest := []) dX11_spot_1 ln_X11_190 rfl rfl (Nat.le_of_ble_eq_true rfl) ⟨Nat.le_of_ble_eq_true rfl, Nat.le_of_ble_eq_true rfl⟩ (Nat.le_of_ble_eq_true rfl) rfl ?_
  refine Cli.mono h (fun r1 m1 h => ?_)
  refine Tj.if_eq dX11_spot_4 rfl rfl (fun c1 => ?_) (fun c1 => ?_)
  · have h := h.1 c1
    refine Tj.bipush dX11_spot_21 (by decide) (by decide +kernel) rfl ?_
    exact Tj.iret dX11_spot_23 rfl h
  · have h := h.2 c1
    refine Tj.iload_n dX11_spot_7 rfl rfl ?_
    refine Tj.callSi (as := [_]) (rest := []) dX11_spot_8 ln_X11_190 rfl rfl (Nat.le_of_ble_eq_true rfl) ⟨Nat.le_of_ble_eq_true rfl, Nat.le_of_ble_eq_true rfl⟩ (Nat.le_of_ble_eq_true rfl) rfl ?_
    refine Cli.mono h (fun r2 m2 h => ?_)
    refine Tj.if_eq dX11_spot_11 rfl rfl (fun c2 => ?_) (fun c2 => ?_)
    · have h := h.1 c2
      refine Tj.bipush dX11_spot_21 (by decide) (by decide +kernel) rfl ?_
      exact Tj.iret dX11_spot_23 rfl h
    · have h := h.2 c2
      refine Tj.iload_n dX11_spot_14 rfl rfl ?_
      refine Tj.callSi (as := [_]) (rest := []) dX11_spot_15 ln_X11_111 rfl rfl (Nat.le_of_ble_eq_true rfl) ⟨Nat.le_of_ble_eq_true rfl, Nat.le_of_ble_eq_true rfl⟩ (Nat.le_of_ble_eq_true rfl) rfl ?_
      refine Cli.mono h (fun r3 m3 h => ?_)
      refine Tj.if_ne dX11_spot_18 rfl rfl (fun c3 => ?_) (fun c3 => ?_)
      · have h := h.1 c3
        refine Tj.bipush dX11_spot_21 (by decide) (by decide +kernel) rfl ?_
        exact Tj.iret dX11_spot_23 rfl h
      · have h := h.2 c3
        refine Tj.aload_n dX11_spot_24 rfl rfl ?_
        refine Tj.getR (b := 1) dX11_spot_25 fl_X11_10 sh_0 rfl rfl ?_
        refine Tj.getR (b := 6) dX11_spot_28 fl_X11_180 sh_1 rfl rfl ?_
        refine Tj.iload_n dX11_spot_31 rfl rfl ?_
        refine Tj.iload_n dX11_spot_32 rfl rfl ?_
        refine Tj.callVi (as := [_, _]) (rest := []) dX11_spot_33 ln_X11_193 sh_6 (by decide) rfl rfl (Nat.le_of_ble_eq_true rfl) ⟨Nat.le_of_ble_eq_true rfl, Nat.le_of_ble_eq_true rfl⟩ (Nat.le_of_ble_eq_true rfl) rfl ?_
        refine Cli.mono h (fun r4 m4 h => ?_)
        refine Tj.istore dX11_spot_36 (Nat.le_of_ble_eq_true rfl) rfl rfl ?_
        refine Tj.iload_n dX11_spot_38 rfl rfl ?_
        refine Tj.iconst dX11_spot_39 (by decide) rfl ?_
        refine Tj.icmp_ne dX11_spot_40 rfl rfl (fun c4 => ?_) (fun c4 => ?_)
        · have h := h.1 c4
          refine Tj.iload dX11_spot_43 rfl rfl ?_
          refine Tj.if_ge dX11_spot_45 rfl rfl (fun c5 => ?_) (fun c5 => ?_)
          · have h := h.1 c5
            refine Tj.aload_n dX11_spot_48 rfl rfl ?_
            refine Tj.getR (b := 1) dX11_spot_49 fl_X11_10 sh_0 rfl rfl ?_
            refine Tj.getR (b := 6) dX11_spot_52 fl_X11_180 sh_1 rfl rfl ?_
            refine Tj.callVi (as := []) (rest := []) dX11_spot_55 ln_X11_196 sh_6 (by decide) rfl rfl (Nat.le_of_ble_eq_true rfl) ⟨Nat.le_of_ble_eq_true rfl, Nat.le_of_ble_eq_true rfl⟩ (Nat.le_of_ble_eq_true rfl) rfl ?_
            refine Cli.mono h (fun r5 m5 h => ?_)
            refine Tj.bipush dX11_spot_58 (by decide) (by decide +kernel) rfl ?_
            refine Tj.icmp_lt dX11_spot_60 rfl rfl (fun c6 => ?_) (fun c6 => ?_)
            · have h := h.1 c6
              refine Tj.aload_n dX11_spot_66 rfl rfl ?_
              refine Tj.getR (b := 10) dX11_spot_67 fl_X11_19 sh_0 rfl rfl ?_
              refine Tj.aload_n dX11_spot_70 rfl rfl ?_
              refine Tj.getR (b := 1) dX11_spot_71 fl_X11_10 sh_0 rfl rfl ?_
              refine Tj.callVv (as := [_]) (rest := []) dX11_spot_74 ln_X11_83 sh_10 (by decide) rfl rfl (Nat.le_of_ble_eq_true rfl) ⟨Nat.le_of_ble_eq_true rfl, Nat.le_of_ble_eq_true rfl⟩ (Nat.le_of_ble_eq_true rfl) rfl ?_
              refine Clv.mono h (fun m6 h => ?_)
              refine Tj.iload_n dX11_spot_77 rfl rfl ?_
              refine Tj.iconst dX11_spot_78 (by decide) rfl ?_
              refine Tj.icmp_ne dX11_spot_79 rfl rfl (fun c7 => ?_) (fun c7 => ?_)
              case refine_2 => exact absurd c4 c7
              refine Tj.iload dX11_spot_82 rfl rfl ?_
              refine Tj.if_ge dX11_spot_84 rfl rfl (fun c8 => ?_) (fun c8 => ?_)
              case refine_2 => exact absurd c5 c8
              refine Tj.aload_n dX11_spot_87 rfl rfl ?_
              refine Tj.getR (b := 1) dX11_spot_88 fl_X11_10 sh_0 rfl rfl ?_
              refine Tj.getR (b := 6) dX11_spot_91 fl_X11_180 sh_1 rfl rfl ?_
              refine Tj.iload_n dX11_spot_94 rfl rfl ?_
              refine Tj.iload_n dX11_spot_95 rfl rfl ?_
              refine Tj.callVi (as := [_, _]) (rest := []) dX11_spot_96 ln_X11_197 sh_6 (by decide) rfl rfl (Nat.le_of_ble_eq_true rfl) ⟨Nat.le_of_ble_eq_true rfl, Nat.le_of_ble_eq_true rfl⟩ (Nat.le_of_ble_eq_true rfl) rfl ?_
              refine Cli.mono h (fun r6 m7 h => ?_)
              refine Tj.pop dX11_spot_99 rfl rfl ?_
              refine Tj.iload_n dX11_spot_100 rfl rfl ?_
              refine Tj.if_ne dX11_spot_101 rfl rfl (fun c9 => ?_) (fun c9 => ?_)
              case refine_1 => exact absurd (c4.symm.trans c9) (by decide)
              refine Tj.iload dX11_spot_121 rfl rfl ?_
              refine Tj.if_lt dX11_spot_123 rfl rfl (fun c10 => ?_) (fun c10 => ?_)
              case refine_2 => exact absurd c5 c10
              refine Tj.iconst dX11_spot_130 (by decide) rfl ?_
              exact Tj.iret dX11_spot_131 rfl h
            · have h := h.2 c6
              refine Tj.bipush dX11_spot_63 (by decide) (by decide +kernel) rfl ?_
              exact Tj.iret dX11_spot_65 rfl h
          · have h := h.2 c5
            refine Tj.aload_n dX11_spot_66 rfl rfl ?_
            refine Tj.getR (b := 10) dX11_spot_67 fl_X11_19 sh_0 rfl rfl ?_
            refine Tj.aload_n dX11_spot_70 rfl rfl ?_
            refine Tj.getR (b := 1) dX11_spot_71 fl_X11_10 sh_0 rfl rfl ?_
            refine Tj.callVv (as := [_]) (rest := []) dX11_spot_74 ln_X11_83 sh_10 (by decide) rfl rfl (Nat.le_of_ble_eq_true rfl) ⟨Nat.le_of_ble_eq_true rfl, Nat.le_of_ble_eq_true rfl⟩ (Nat.le_of_ble_eq_true rfl) rfl ?_
            refine Clv.mono h (fun m8 h => ?_)
            refine Tj.iload_n dX11_spot_77 rfl rfl ?_
            refine Tj.iconst dX11_spot_78 (by decide) rfl ?_
            refine Tj.icmp_ne dX11_spot_79 rfl rfl (fun c11 => ?_) (fun c11 => ?_)
            case refine_2 => exact absurd c4 c11
            refine Tj.iload dX11_spot_82 rfl rfl ?_
            refine Tj.if_ge dX11_spot_84 rfl rfl (fun c12 => ?_) (fun c12 => ?_)
            case refine_1 => exact absurd c12 c5
            refine Tj.iload_n dX11_spot_100 rfl rfl ?_
            refine Tj.if_ne dX11_spot_101 rfl rfl (fun c13 => ?_) (fun c13 => ?_)
            case refine_1 => exact absurd (c4.symm.trans c13) (by decide)
            refine Tj.iload dX11_spot_121 rfl rfl ?_
            refine Tj.if_lt dX11_spot_123 rfl rfl (fun c14 => ?_) (fun c14 => ?_)
            case refine_1 => exact absurd c14 c5
            refine Tj.iconst dX11_spot_126 (by decide) rfl ?_
            refine Tj.goto dX11_spot_127 rfl ?_
            exact Tj.iret dX11_spot_131 rfl h
        · have h := h.2 c4
          refine Tj.aload_n dX11_spot_66 rfl rfl ?_
          refine Tj.getR (b := 10) dX11_spot_67 fl_X11_19 sh_0 rfl rfl ?_
          refine Tj.aload_n dX11_spot_70 rfl rfl ?_
          refine Tj.getR (b := 1) dX11_spot_71 fl_X11_10 sh_0 rfl rfl ?_
          refine Tj.callVv (as := [_]) (rest := []) dX11_spot_74 ln_X11_83 sh_10 (by decide) rfl rfl (Nat.le_of_ble_eq_true rfl) ⟨Nat.le_of_ble_eq_true rfl, Nat.le_of_ble_eq_true rfl⟩ (Nat.le_of_ble_eq_true rfl) rfl ?_
          refine Clv.mono h (fun m9 h => ?_)
          refine Tj.iload_n dX11_spot_77 rfl rfl ?_
          refine Tj.iconst dX11_spot_78 (by decide) rfl ?_
          refine Tj.icmp_ne dX11_spot_79 rfl rfl (fun c15 => ?_) (fun c15 => ?_)
          case refine_1 => exact absurd c15 c4
          refine Tj.iload_n dX11_spot_100 rfl rfl ?_
          refine Tj.if_ne dX11_spot_101 rfl rfl (fun c16 => ?_) (fun c16 => ?_)
          · have h := h.1 c16
            refine Tj.iload dX11_spot_104 rfl rfl ?_
            refine Tj.if_lt dX11_spot_106 rfl rfl (fun c17 => ?_) (fun c17 => ?_)
            · have h := h.1 c17
              refine Tj.iload dX11_spot_121 rfl rfl ?_
              refine Tj.if_lt dX11_spot_123 rfl rfl (fun c18 => ?_) (fun c18 => ?_)
              case refine_2 => exact absurd c17 c18
              refine Tj.iconst dX11_spot_130 (by decide) rfl ?_
              exact Tj.iret dX11_spot_131 rfl h
            · have h := h.2 c17
              refine Tj.aload_n dX11_spot_109 rfl rfl ?_
              refine Tj.getR (b := 1) dX11_spot_110 fl_X11_10 sh_0 rfl rfl ?_
              refine Tj.getR (b := 6) dX11_spot_113 fl_X11_180 sh_1 rfl rfl ?_
              refine Tj.iload dX11_spot_116 rfl rfl ?_
              refine Tj.callVv (as := [_]) (rest := []) dX11_spot_118 ln_X11_200 sh_6 (by decide) rfl rfl (Nat.le_of_ble_eq_true rfl) ⟨Nat.le_of_ble_eq_true rfl, Nat.le_of_ble_eq_true rfl⟩ (Nat.le_of_ble_eq_true rfl) rfl ?_
              refine Clv.mono h (fun m10 h => ?_)
              refine Tj.iload dX11_spot_121 rfl rfl ?_
              refine Tj.if_lt dX11_spot_123 rfl rfl (fun c19 => ?_) (fun c19 => ?_)
              case refine_1 => exact absurd c19 c17
              refine Tj.iconst dX11_spot_126 (by decide) rfl ?_
              refine Tj.goto dX11_spot_127 rfl ?_
              exact Tj.iret dX11_spot_131 rfl h
          · have h := h.2 c16
            refine Tj.iload dX11_spot_121 rfl rfl ?_
            have hj : Tj mX11_spot 131 [] [iV (if r4 < 0 then 0 else 1)] m9 P := by
              generalize hv1 : ((if r4 < 0 then 0 else 1) : Int) = v1
              have h := h v1 hv1.symm
              exact Tj.iret dX11_spot_131 rfl h
            refine Tj.if_lt dX11_spot_123 rfl rfl (fun c20 => ?_) (fun c20 => ?_)
            · refine Tj.iconst dX11_spot_130 (by decide) rfl ?_
              try simp only [if_pos c20] at hj ⊢
              exact Tj.cut hj trivial
            · refine Tj.iconst dX11_spot_126 (by decide) rfl ?_
              refine Tj.goto dX11_spot_127 rfl ?_
              try simp only [if_neg c20] at hj ⊢
              exact Tj.cut hj trivial

theorem wX11_crease_0 {m : tM} {P : Option tV → tM → Prop} {x1 : Int} {x2 : Int} {x3 : Int} {x4 : Int}  (h : Cli mX11_creaseMeant [iV x4] m (fun r1 m1 => (Cli mX11_isOnTable [iV x1] m1 (fun r2 m2 => ((r2 = 0 → (P (some (iV (-3))) m2)) ∧ (¬ r2 = 0 → (Cli mX11_isOnTable [iV x2] m2 (fun r3 m3 => ((r3 = 0 → (P (some (iV (-3))) m3)) ∧ (¬ r3 = 0 → (Cli mX11_isWithin [iV x3, iV 4] m3 (fun r4 m4 => ((r4 = 0 → (P (some (iV (-3))) m4)) ∧ (¬ r4 = 0 → ((r1 < 0 → (P (some (iV (-3))) m4)) ∧ (¬ r1 < 0 → (Cli mX8_find [rV 6, iV x1, iV x2] m4 (fun r5 m5 => ((r5 < 0 → (P (some (iV (-4))) m5)) ∧ (¬ r5 < 0 → (Cli mX8_beside [rV 6, iV r5, iV x3] m5 (fun r6 m6 => ((r6 < 0 → (P (some (iV (-4))) m6)) ∧ (¬ r6 < 0 → (Clv mX7_keep [rV 10, rV 1] m6 (fun m7 => (Cli mX8_creaseAt [rV 6, iV r5, iV x3] m7 (fun r7 m8 => (Clv mX8_join [rV 6, iV r5, iV r6, iV x3, iV r1] m8 (fun m9 => ((r7 = 0 → (P (some (iV 5)) m9)) ∧ (¬ r7 = 0 → ((R32 (r7 - 2)) ∧ (Cli mX11_toldStep [iV (r7 - 2)] m9 (fun r8 m10 => (P (some (iV r8)) m10)))))))))))))))))))))))))))))))))))) : Tj mX11_crease 0 [some (rV 0), some (iV x1), some (iV x2), some (iV x3), some (iV x4)] [] m P := by
  refine Tj.iload dX11_crease_0 rfl rfl ?_
  refine Tj.callSi (as := [_]) (rest := []) dX11_crease_2 ln_X11_203 rfl rfl (Nat.le_of_ble_eq_true rfl) ⟨Nat.le_of_ble_eq_true rfl, Nat.le_of_ble_eq_true rfl⟩ (Nat.le_of_ble_eq_true rfl) rfl ?_
  refine Cli.mono h (fun r1 m1 h => ?_)
  refine Tj.istore dX11_crease_5 (Nat.le_of_ble_eq_true rfl) rfl rfl ?_
  refine Tj.iload_n dX11_crease_7 rfl rfl ?_
  refine Tj.callSi (as := [_]) (rest := []) dX11_crease_8 ln_X11_190 rfl rfl (Nat.le_of_ble_eq_true rfl) ⟨Nat.le_of_ble_eq_true rfl, Nat.le_of_ble_eq_true rfl⟩ (Nat.le_of_ble_eq_true rfl) rfl ?_
  refine Cli.mono h (fun r2 m2 h => ?_)
  refine Tj.if_eq dX11_crease_11 rfl rfl (fun c1 => ?_) (fun c1 => ?_)
  · have h := h.1 c1
    refine Tj.bipush dX11_crease_34 (by decide) (by decide +kernel) rfl ?_
    exact Tj.iret dX11_crease_36 rfl h
  · have h := h.2 c1
    refine Tj.iload_n dX11_crease_14 rfl rfl ?_
    refine Tj.callSi (as := [_]) (rest := []) dX11_crease_15 ln_X11_190 rfl rfl (Nat.le_of_ble_eq_true rfl) ⟨Nat.le_of_ble_eq_true rfl, Nat.le_of_ble_eq_true rfl⟩ (Nat.le_of_ble_eq_true rfl) rfl ?_
    refine Cli.mono h (fun r3 m3 h => ?_)
    refine Tj.if_eq dX11_crease_18 rfl rfl (fun c2 => ?_) (fun c2 => ?_)
    · have h := h.1 c2
      refine Tj.bipush dX11_crease_34 (by decide) (by decide +kernel) rfl ?_
      exact Tj.iret dX11_crease_36 rfl h
    · have h := h.2 c2
      refine Tj.iload_n dX11_crease_21 rfl rfl ?_
      refine Tj.iconst dX11_crease_22 (by decide) rfl ?_
      refine Tj.callSi (as := [_, _]) (rest := []) dX11_crease_23 ln_X11_131 rfl rfl (Nat.le_of_ble_eq_true rfl) ⟨Nat.le_of_ble_eq_true rfl, Nat.le_of_ble_eq_true rfl⟩ (Nat.le_of_ble_eq_true rfl) rfl ?_
      refine Cli.mono h (fun r4 m4 h => ?_)
      refine Tj.if_eq dX11_crease_26 rfl rfl (fun c3 => ?_) (fun c3 => ?_)
      · have h := h.1 c3
        refine Tj.bipush dX11_crease_34 (by decide) (by decide +kernel) rfl ?_
        exact Tj.iret dX11_crease_36 rfl h
      · have h := h.2 c3
        refine Tj.iload dX11_crease_29 rfl rfl ?_
        refine Tj.if_ge dX11_crease_31 rfl rfl (fun c4 => ?_) (fun c4 => ?_)
        · have h := h.1 c4
          refine Tj.bipush dX11_crease_34 (by decide) (by decide +kernel) rfl ?_
          exact Tj.iret dX11_crease_36 rfl h
        · have h := h.2 c4
          refine Tj.aload_n dX11_crease_37 rfl rfl ?_
          refine Tj.getR (b := 1) dX11_crease_38 fl_X11_10 sh_0 rfl rfl ?_
          refine Tj.getR (b := 6) dX11_crease_41 fl_X11_180 sh_1 rfl rfl ?_
          refine Tj.iload_n dX11_crease_44 rfl rfl ?_
          refine Tj.iload_n dX11_crease_45 rfl rfl ?_
          refine Tj.callVi (as := [_, _]) (rest := []) dX11_crease_46 ln_X11_193 sh_6 (by decide) rfl rfl (Nat.le_of_ble_eq_true rfl) ⟨Nat.le_of_ble_eq_true rfl, Nat.le_of_ble_eq_true rfl⟩ (Nat.le_of_ble_eq_true rfl) rfl ?_
          refine Cli.mono h (fun r5 m5 h => ?_)
          refine Tj.istore dX11_crease_49 (Nat.le_of_ble_eq_true rfl) rfl rfl ?_
          refine Tj.iload dX11_crease_51 rfl rfl ?_
          refine Tj.if_ge dX11_crease_53 rfl rfl (fun c5 => ?_) (fun c5 => ?_)
          · have h := h.1 c5
            refine Tj.iconst dX11_crease_56 (by decide) rfl ?_
            refine Tj.goto dX11_crease_57 rfl ?_
            refine Tj.istore dX11_crease_73 (Nat.le_of_ble_eq_true rfl) rfl rfl ?_
            refine Tj.iload dX11_crease_75 rfl rfl ?_
            refine Tj.if_lt dX11_crease_77 rfl rfl (fun c6 => ?_) (fun c6 => ?_)
            case refine_2 => exact absurd c5 c6
            refine Tj.bipush dX11_crease_85 (by decide) (by decide +kernel) rfl ?_
            exact Tj.iret dX11_crease_87 rfl h
          · have h := h.2 c5
            refine Tj.aload_n dX11_crease_60 rfl rfl ?_
            refine Tj.getR (b := 1) dX11_crease_61 fl_X11_10 sh_0 rfl rfl ?_
            refine Tj.getR (b := 6) dX11_crease_64 fl_X11_180 sh_1 rfl rfl ?_
            refine Tj.iload dX11_crease_67 rfl rfl ?_
            refine Tj.iload_n dX11_crease_69 rfl rfl ?_
            refine Tj.callVi (as := [_, _]) (rest := []) dX11_crease_70 ln_X11_206 sh_6 (by decide) rfl rfl (Nat.le_of_ble_eq_true rfl) ⟨Nat.le_of_ble_eq_true rfl, Nat.le_of_ble_eq_true rfl⟩ (Nat.le_of_ble_eq_true rfl) rfl ?_
            refine Cli.mono h (fun r6 m6 h => ?_)
            refine Tj.istore dX11_crease_73 (Nat.le_of_ble_eq_true rfl) rfl rfl ?_
            refine Tj.iload dX11_crease_75 rfl rfl ?_
            refine Tj.if_lt dX11_crease_77 rfl rfl (fun c7 => ?_) (fun c7 => ?_)
            case refine_1 => exact absurd c7 c5
            refine Tj.iload dX11_crease_80 rfl rfl ?_
            refine Tj.if_ge dX11_crease_82 rfl rfl (fun c8 => ?_) (fun c8 => ?_)
            · have h := h.1 c8
              refine Tj.bipush dX11_crease_85 (by decide) (by decide +kernel) rfl ?_
              exact Tj.iret dX11_crease_87 rfl h
            · have h := h.2 c8
              refine Tj.aload_n dX11_crease_88 rfl rfl ?_
              refine Tj.getR (b := 10) dX11_crease_89 fl_X11_19 sh_0 rfl rfl ?_
              refine Tj.aload_n dX11_crease_92 rfl rfl ?_
              refine Tj.getR (b := 1) dX11_crease_93 fl_X11_10 sh_0 rfl rfl ?_
              refine Tj.callVv (as := [_]) (rest := []) dX11_crease_96 ln_X11_83 sh_10 (by decide) rfl rfl (Nat.le_of_ble_eq_true rfl) ⟨Nat.le_of_ble_eq_true rfl, Nat.le_of_ble_eq_true rfl⟩ (Nat.le_of_ble_eq_true rfl) rfl ?_
              refine Clv.mono h (fun m7 h => ?_)
              refine Tj.aload_n dX11_crease_99 rfl rfl ?_
              refine Tj.getR (b := 1) dX11_crease_100 fl_X11_10 sh_0 rfl rfl ?_
              refine Tj.getR (b := 6) dX11_crease_103 fl_X11_180 sh_1 rfl rfl ?_
              refine Tj.iload dX11_crease_106 rfl rfl ?_
              refine Tj.iload_n dX11_crease_108 rfl rfl ?_
              refine Tj.callVi (as := [_, _]) (rest := []) dX11_crease_109 ln_X11_209 sh_6 (by decide) rfl rfl (Nat.le_of_ble_eq_true rfl) ⟨Nat.le_of_ble_eq_true rfl, Nat.le_of_ble_eq_true rfl⟩ (Nat.le_of_ble_eq_true rfl) rfl ?_
              refine Cli.mono h (fun r7 m8 h => ?_)
              refine Tj.istore dX11_crease_112 (Nat.le_of_ble_eq_true rfl) rfl rfl ?_
              refine Tj.aload_n dX11_crease_114 rfl rfl ?_
              refine Tj.getR (b := 1) dX11_crease_115 fl_X11_10 sh_0 rfl rfl ?_
              refine Tj.getR (b := 6) dX11_crease_118 fl_X11_180 sh_1 rfl rfl ?_
              refine Tj.iload dX11_crease_121 rfl rfl ?_
              refine Tj.iload dX11_crease_123 rfl rfl ?_
              refine Tj.iload_n dX11_crease_125 rfl rfl ?_
              refine Tj.iload dX11_crease_126 rfl rfl ?_
              refine Tj.callVv (as := [_, _, _, _]) (rest := []) dX11_crease_128 ln_X11_212 sh_6 (by decide) rfl rfl (Nat.le_of_ble_eq_true rfl) ⟨Nat.le_of_ble_eq_true rfl, Nat.le_of_ble_eq_true rfl⟩ (Nat.le_of_ble_eq_true rfl) rfl ?_
              refine Clv.mono h (fun m9 h => ?_)
              refine Tj.iload dX11_crease_131 rfl rfl ?_
              refine Tj.if_ne dX11_crease_133 rfl rfl (fun c9 => ?_) (fun c9 => ?_)
              · have h := h.1 c9
                refine Tj.iconst dX11_crease_136 (by decide) rfl ?_
                refine Tj.goto dX11_crease_137 rfl ?_
                exact Tj.iret dX11_crease_147 rfl h
              · have h := h.2 c9
                obtain ⟨o1, h⟩ := h
                refine Tj.iload dX11_crease_140 rfl rfl ?_
                refine Tj.iconst dX11_crease_142 (by decide) rfl ?_
                refine Tj.isub dX11_crease_143 o1 rfl ?_
                refine Tj.callSi (as := [_]) (rest := []) dX11_crease_144 ln_X11_153 rfl rfl (Nat.le_of_ble_eq_true rfl) ⟨Nat.le_of_ble_eq_true rfl, Nat.le_of_ble_eq_true rfl⟩ (Nat.le_of_ble_eq_true rfl) rfl ?_
                refine Cli.mono h (fun r8 m10 h => ?_)
                exact Tj.iret dX11_crease_147 rfl h

theorem wX11_turn_0 {m : tM} {P : Option tV → tM → Prop} {x1 : Int}  (h : Cli mX11_isSwitch [iV x1] m (fun r1 m1 => ((r1 = 0 → (P (some (iV (-3))) m1)) ∧ (¬ r1 = 0 → (Clv mX7_keep [rV 10, rV 1] m1 (fun m2 => (Clv mX8_become [rV 141, rV 6] m2 (fun m3 => (∀ v1 : Int, v1 = (if x1 = 0 then 1 else 0) → (∀ v2 : Int, v2 = (if x1 = 1 then 1 else 0) → (Clv mX8_becomeTurned [rV 6, rV 141, iV v1, iV v2] m3 (fun m4 => (P (some (iV 0)) m4))))))))))))) : Tj mX11_turn 0 [some (rV 0), some (iV x1)] [] m P := by
  refine Tj.iload_n dX11_turn_0 rfl rfl ?_
  refine Tj.callSi (as := [_]) (rest := []) dX11_turn_1 ln_X11_111 rfl rfl (Nat.le_of_ble_eq_true rfl) ⟨Nat.le_of_ble_eq_true rfl, Nat.le_of_ble_eq_true rfl⟩ (Nat.le_of_ble_eq_true rfl) rfl ?_
  refine Cli.mono h (fun r1 m1 h => ?_)
  refine Tj.if_ne dX11_turn_4 rfl rfl (fun c1 => ?_) (fun c1 => ?_)
  · have h := h.1 c1
    refine Tj.bipush dX11_turn_7 (by decide) (by decide +kernel) rfl ?_
    exact Tj.iret dX11_turn_9 rfl h
  · have h := h.2 c1
    refine Tj.aload_n dX11_turn_10 rfl rfl ?_
    refine Tj.getR (b := 10) dX11_turn_11 fl_X11_19 sh_0 rfl rfl ?_
    refine Tj.aload_n dX11_turn_14 rfl rfl ?_
    refine Tj.getR (b := 1) dX11_turn_15 fl_X11_10 sh_0 rfl rfl ?_
    refine Tj.callVv (as := [_]) (rest := []) dX11_turn_18 ln_X11_83 sh_10 (by decide) rfl rfl (Nat.le_of_ble_eq_true rfl) ⟨Nat.le_of_ble_eq_true rfl, Nat.le_of_ble_eq_true rfl⟩ (Nat.le_of_ble_eq_true rfl) rfl ?_
    refine Clv.mono h (fun m2 h => ?_)
    refine Tj.aload_n dX11_turn_21 rfl rfl ?_
    refine Tj.getR (b := 141) dX11_turn_22 fl_X11_75 sh_0 rfl rfl ?_
    refine Tj.aload_n dX11_turn_25 rfl rfl ?_
    refine Tj.getR (b := 1) dX11_turn_26 fl_X11_10 sh_0 rfl rfl ?_
    refine Tj.getR (b := 6) dX11_turn_29 fl_X11_180 sh_1 rfl rfl ?_
    refine Tj.callVv (as := [_]) (rest := []) dX11_turn_32 ln_X11_216 sh_141 (by decide) rfl rfl (Nat.le_of_ble_eq_true rfl) ⟨Nat.le_of_ble_eq_true rfl, Nat.le_of_ble_eq_true rfl⟩ (Nat.le_of_ble_eq_true rfl) rfl ?_
    refine Clv.mono h (fun m3 h => ?_)
    refine Tj.aload_n dX11_turn_35 rfl rfl ?_
    refine Tj.getR (b := 1) dX11_turn_36 fl_X11_10 sh_0 rfl rfl ?_
    refine Tj.getR (b := 6) dX11_turn_39 fl_X11_180 sh_1 rfl rfl ?_
    refine Tj.aload_n dX11_turn_42 rfl rfl ?_
    refine Tj.getR (b := 141) dX11_turn_43 fl_X11_75 sh_0 rfl rfl ?_
    refine Tj.iload_n dX11_turn_46 rfl rfl ?_
    have hj : Tj mX11_turn 55 [none, some (iV x1)] [iV (if x1 = 0 then 1 else 0), rV 141, rV 6] m3 P := by
      generalize hv1 : ((if x1 = 0 then 1 else 0) : Int) = v1
      have h := h v1 hv1.symm
      refine Tj.iload_n dX11_turn_55 rfl rfl ?_
      refine Tj.iconst dX11_turn_56 (by decide) rfl ?_
      have hj : Tj mX11_turn 65 [] [iV (if x1 = 1 then 1 else 0), iV v1, rV 141, rV 6] m3 P := by
        generalize hv2 : ((if x1 = 1 then 1 else 0) : Int) = v2
        have h := h v2 hv2.symm
        refine Tj.callVv (as := [_, _, _]) (rest := []) dX11_turn_65 ln_X11_220 sh_6 (by decide) rfl rfl (Nat.le_of_ble_eq_true rfl) ⟨Nat.le_of_ble_eq_true rfl, Nat.le_of_ble_eq_true rfl⟩ (Nat.le_of_ble_eq_true rfl) rfl ?_
        refine Clv.mono h (fun m4 h => ?_)
        refine Tj.iconst dX11_turn_68 (by decide) rfl ?_
        exact Tj.iret dX11_turn_69 rfl h
      refine Tj.icmp_ne dX11_turn_57 rfl rfl (fun c3 => ?_) (fun c3 => ?_)
      · refine Tj.iconst dX11_turn_60 (by decide) rfl ?_
        refine Tj.goto dX11_turn_61 rfl ?_
        try simp only [if_pos c3] at hj ⊢
        exact Tj.cut hj trivial
      · refine Tj.iconst dX11_turn_64 (by decide) rfl ?_
        try simp only [if_neg c3] at hj ⊢
        exact Tj.cut hj trivial
    refine Tj.if_ne dX11_turn_47 rfl rfl (fun c2 => ?_) (fun c2 => ?_)
    · refine Tj.iconst dX11_turn_50 (by decide) rfl ?_
      refine Tj.goto dX11_turn_51 rfl ?_
      try simp only [if_pos c2] at hj ⊢
      exact Tj.cut hj ⟨rfl, trivial⟩
    · refine Tj.iconst dX11_turn_54 (by decide) rfl ?_
      try simp only [if_neg c2] at hj ⊢
      exact Tj.cut hj ⟨rfl, trivial⟩
