theorem wX11_cut_0 {m : tM} {P : Option tV → tM → Prop} {x1 : Int} {x2 : Int} {x3 : Int}  (h : Cli mX9_size [rV 109] m (fun r1 m1 => (Cli mX11_isWithin [iV x1, iV r1] m1 (fun r2 m2 => ((r2 = 0 → (P (some (iV (-3))) m2)) ∧ (¬ r2 = 0 → (Cli mX11_isWithin [iV x2, iV 4] m2 (fun r3 m3 => ((r3 = 0 → (P (some (iV (-3))) m3)) ∧ (¬ r3 = 0 → (Cli mX11_isSwitch [iV x3] m3 (fun r4 m4 => ((r4 = 0 → (P (some (iV (-3))) m4)) ∧ (¬ r4 = 0 → (Cli mX9_fault [rV 109] m4 (fun r5 m5 => ((r5 = 0 → (Clv mX7_keep [rV 10, rV 1] m5 (fun m6 => (Cli mX2_isCut [rV 4, iV x1, iV x2] m6 (fun r6 m7 => (∀ v1 : Int, v1 = (if r6 = 0 then 0 else 1) → (∀ v2 : Int, v2 = (if x3 = 1 then 1 else 0) → (Clv mX2_mark [rV 4, iV x1, iV x2, iV v2] m7 (fun m8 => (Cli mX9_squareAcross [rV 109, iV x1, iV x2] m8 (fun r7 m9 => (Cli mX9_sideAcross [rV 109, iV x1, iV x2] m9 (fun r8 m10 => (∀ v3 : Int, v3 = (if x3 = 1 then 1 else 0) → (Clv mX2_mark [rV 4, iV r7, iV r8, iV v3] m10 (fun m11 => (P (some (iV v1)) m11))))))))))))))))) ∧ (¬ r5 = 0 → (P (some (iV (-4))) m5))))))))))))))))))) : Tj mX11_cut 0 [some (rV 0), some (iV x1), some (iV x2), some (iV x3)] [] m P := by
  refine Tj.iload_n dX11_cut_0 rfl rfl ?_
  refine Tj.aload_n dX11_cut_1 rfl rfl ?_
  refine Tj.getR (b := 109) dX11_cut_2 fl_X11_33 sh_0 rfl rfl ?_
  refine Tj.callVi (as := []) (rest := [_]) dX11_cut_5 ln_X11_128 sh_109 (by decide) rfl rfl (Nat.le_of_ble_eq_true rfl) ⟨Nat.le_of_ble_eq_true rfl, Nat.le_of_ble_eq_true rfl⟩ (Nat.le_of_ble_eq_true rfl) rfl ?_
  refine Cli.mono h (fun r1 m1 h => ?_)
  refine Tj.callSi (as := [_, _]) (rest := []) dX11_cut_8 ln_X11_131 rfl rfl (Nat.le_of_ble_eq_true rfl) ⟨Nat.le_of_ble_eq_true rfl, Nat.le_of_ble_eq_true rfl⟩ (Nat.le_of_ble_eq_true rfl) rfl ?_
  refine Cli.mono h (fun r2 m2 h => ?_)
  refine Tj.if_eq dX11_cut_11 rfl rfl (fun c1 => ?_) (fun c1 => ?_)
  · have h := h.1 c1
    refine Tj.bipush dX11_cut_29 (by decide) (by decide +kernel) rfl ?_
    exact Tj.iret dX11_cut_31 rfl h
  · have h := h.2 c1
    refine Tj.iload_n dX11_cut_14 rfl rfl ?_
    refine Tj.iconst dX11_cut_15 (by decide) rfl ?_
    refine Tj.callSi (as := [_, _]) (rest := []) dX11_cut_16 ln_X11_131 rfl rfl (Nat.le_of_ble_eq_true rfl) ⟨Nat.le_of_ble_eq_true rfl, Nat.le_of_ble_eq_true rfl⟩ (Nat.le_of_ble_eq_true rfl) rfl ?_
    refine Cli.mono h (fun r3 m3 h => ?_)
    refine Tj.if_eq dX11_cut_19 rfl rfl (fun c2 => ?_) (fun c2 => ?_)
    · have h := h.1 c2
      refine Tj.bipush dX11_cut_29 (by decide) (by decide +kernel) rfl ?_
      exact Tj.iret dX11_cut_31 rfl h
    · have h := h.2 c2
      refine Tj.iload_n dX11_cut_22 rfl rfl ?_
      refine Tj.callSi (as := [_]) (rest := []) dX11_cut_23 ln_X11_111 rfl rfl (Nat.le_of_ble_eq_true rfl) ⟨Nat.le_of_ble_eq_true rfl, Nat.le_of_ble_eq_true rfl⟩ (Nat.le_of_ble_eq_true rfl) rfl ?_
      refine Cli.mono h (fun r4 m4 h => ?_)
      refine Tj.if_ne dX11_cut_26 rfl rfl (fun c3 => ?_) (fun c3 => ?_)
      · have h := h.1 c3
        refine Tj.bipush dX11_cut_29 (by decide) (by decide +kernel) rfl ?_
        exact Tj.iret dX11_cut_31 rfl h
      · have h := h.2 c3
        refine Tj.aload_n dX11_cut_32 rfl rfl ?_
        refine Tj.getR (b := 109) dX11_cut_33 fl_X11_33 sh_0 rfl rfl ?_
        refine Tj.callVi (as := []) (rest := []) dX11_cut_36 ln_X11_124 sh_109 (by decide) rfl rfl (Nat.le_of_ble_eq_true rfl) ⟨Nat.le_of_ble_eq_true rfl, Nat.le_of_ble_eq_true rfl⟩ (Nat.le_of_ble_eq_true rfl) rfl ?_
        refine Cli.mono h (fun r5 m5 h => ?_)
        refine Tj.if_eq dX11_cut_39 rfl rfl (fun c4 => ?_) (fun c4 => ?_)
        · have h := h.1 c4
          refine Tj.aload_n dX11_cut_45 rfl rfl ?_
          refine Tj.getR (b := 10) dX11_cut_46 fl_X11_19 sh_0 rfl rfl ?_
          refine Tj.aload_n dX11_cut_49 rfl rfl ?_
          refine Tj.getR (b := 1) dX11_cut_50 fl_X11_10 sh_0 rfl rfl ?_
          refine Tj.callVv (as := [_]) (rest := []) dX11_cut_53 ln_X11_83 sh_10 (by decide) rfl rfl (Nat.le_of_ble_eq_true rfl) ⟨Nat.le_of_ble_eq_true rfl, Nat.le_of_ble_eq_true rfl⟩ (Nat.le_of_ble_eq_true rfl) rfl ?_
          refine Clv.mono h (fun m6 h => ?_)
          refine Tj.aload_n dX11_cut_56 rfl rfl ?_
          refine Tj.getR (b := 1) dX11_cut_57 fl_X11_10 sh_0 rfl rfl ?_
          refine Tj.getR (b := 4) dX11_cut_60 fl_X11_156 sh_1 rfl rfl ?_
          refine Tj.iload_n dX11_cut_63 rfl rfl ?_
          refine Tj.iload_n dX11_cut_64 rfl rfl ?_
          refine Tj.callVi (as := [_, _]) (rest := []) dX11_cut_65 ln_X11_160 sh_4 (by decide) rfl rfl (Nat.le_of_ble_eq_true rfl) ⟨Nat.le_of_ble_eq_true rfl, Nat.le_of_ble_eq_true rfl⟩ (Nat.le_of_ble_eq_true rfl) rfl ?_
          refine Cli.mono h (fun r6 m7 h => ?_)
          have hj : Tj mX11_cut 76 [some (rV 0), some (iV x1), some (iV x2), some (iV x3)] [iV (if r6 = 0 then 0 else 1)] m7 P := by
            generalize hv1 : ((if r6 = 0 then 0 else 1) : Int) = v1
            have h := h v1 hv1.symm
            refine Tj.istore dX11_cut_76 (Nat.le_of_ble_eq_true rfl) rfl rfl ?_
            refine Tj.aload_n dX11_cut_78 rfl rfl ?_
            refine Tj.getR (b := 1) dX11_cut_79 fl_X11_10 sh_0 rfl rfl ?_
            refine Tj.getR (b := 4) dX11_cut_82 fl_X11_156 sh_1 rfl rfl ?_
            refine Tj.iload_n dX11_cut_85 rfl rfl ?_
            refine Tj.iload_n dX11_cut_86 rfl rfl ?_
            refine Tj.iload_n dX11_cut_87 rfl rfl ?_
            refine Tj.iconst dX11_cut_88 (by decide) rfl ?_
            have hj : Tj mX11_cut 97 [some (rV 0), some (iV x1), some (iV x2), some (iV x3), some (iV v1)] [iV (if x3 = 1 then 1 else 0), iV x2, iV x1, rV 4] m7 P := by
              generalize hv2 : ((if x3 = 1 then 1 else 0) : Int) = v2
              have h := h v2 hv2.symm
              refine Tj.callVv (as := [_, _, _]) (rest := []) dX11_cut_97 ln_X11_165 sh_4 (by decide) rfl rfl (Nat.le_of_ble_eq_true rfl) ⟨Nat.le_of_ble_eq_true rfl, Nat.le_of_ble_eq_true rfl⟩ (Nat.le_of_ble_eq_true rfl) rfl ?_
              refine Clv.mono h (fun m8 h => ?_)
              refine Tj.aload_n dX11_cut_100 rfl rfl ?_
              refine Tj.getR (b := 1) dX11_cut_101 fl_X11_10 sh_0 rfl rfl ?_
              refine Tj.getR (b := 4) dX11_cut_104 fl_X11_156 sh_1 rfl rfl ?_
              refine Tj.aload_n dX11_cut_107 rfl rfl ?_
              refine Tj.getR (b := 109) dX11_cut_108 fl_X11_33 sh_0 rfl rfl ?_
              refine Tj.iload_n dX11_cut_111 rfl rfl ?_
              refine Tj.iload_n dX11_cut_112 rfl rfl ?_
              refine Tj.callVi (as := [_, _]) (rest := [_]) dX11_cut_113 ln_X11_144 sh_109 (by decide) rfl rfl (Nat.le_of_ble_eq_true rfl) ⟨Nat.le_of_ble_eq_true rfl, Nat.le_of_ble_eq_true rfl⟩ (Nat.le_of_ble_eq_true rfl) rfl ?_
              refine Cli.mono h (fun r7 m9 h => ?_)
              refine Tj.aload_n dX11_cut_116 rfl rfl ?_
              refine Tj.getR (b := 109) dX11_cut_117 fl_X11_33 sh_0 rfl rfl ?_
              refine Tj.iload_n dX11_cut_120 rfl rfl ?_
              refine Tj.iload_n dX11_cut_121 rfl rfl ?_
              refine Tj.callVi (as := [_, _]) (rest := [_, _]) dX11_cut_122 ln_X11_147 sh_109 (by decide) rfl rfl (Nat.le_of_ble_eq_true rfl) ⟨Nat.le_of_ble_eq_true rfl, Nat.le_of_ble_eq_true rfl⟩ (Nat.le_of_ble_eq_true rfl) rfl ?_
              refine Cli.mono h (fun r8 m10 h => ?_)
              refine Tj.iload_n dX11_cut_125 rfl rfl ?_
              refine Tj.iconst dX11_cut_126 (by decide) rfl ?_
              have hj : Tj mX11_cut 135 [none, none, none, none, some (iV v1)] [iV (if x3 = 1 then 1 else 0), iV r8, iV r7, rV 4] m10 P := by
                generalize hv3 : ((if x3 = 1 then 1 else 0) : Int) = v3
                have h := h v3 hv3.symm
                refine Tj.callVv (as := [_, _, _]) (rest := []) dX11_cut_135 ln_X11_165 sh_4 (by decide) rfl rfl (Nat.le_of_ble_eq_true rfl) ⟨Nat.le_of_ble_eq_true rfl, Nat.le_of_ble_eq_true rfl⟩ (Nat.le_of_ble_eq_true rfl) rfl ?_
                refine Clv.mono h (fun m11 h => ?_)
                refine Tj.iload dX11_cut_138 rfl rfl ?_
                exact Tj.iret dX11_cut_140 rfl h
              refine Tj.icmp_ne dX11_cut_127 rfl rfl (fun c7 => ?_) (fun c7 => ?_)
              · refine Tj.iconst dX11_cut_130 (by decide) rfl ?_
                refine Tj.goto dX11_cut_131 rfl ?_
                try simp only [if_pos c7] at hj ⊢
                exact Tj.cut hj ⟨rfl, trivial⟩
              · refine Tj.iconst dX11_cut_134 (by decide) rfl ?_
                try simp only [if_neg c7] at hj ⊢
                exact Tj.cut hj ⟨rfl, trivial⟩
            refine Tj.icmp_ne dX11_cut_89 rfl rfl (fun c6 => ?_) (fun c6 => ?_)
            · refine Tj.iconst dX11_cut_92 (by decide) rfl ?_
              refine Tj.goto dX11_cut_93 rfl ?_
              try simp only [if_pos c6] at hj ⊢
              exact Tj.cut hj ⟨rfl, ⟨rfl, ⟨rfl, ⟨rfl, ⟨rfl, trivial⟩⟩⟩⟩⟩
            · refine Tj.iconst dX11_cut_96 (by decide) rfl ?_
              try simp only [if_neg c6] at hj ⊢
              exact Tj.cut hj ⟨rfl, ⟨rfl, ⟨rfl, ⟨rfl, ⟨rfl, trivial⟩⟩⟩⟩⟩
          refine Tj.if_eq dX11_cut_68 rfl rfl (fun c5 => ?_) (fun c5 => ?_)
          · refine Tj.iconst dX11_cut_75 (by decide) rfl ?_
            try simp only [if_pos c5] at hj ⊢
            exact Tj.cut hj ⟨rfl, ⟨rfl, ⟨rfl, ⟨rfl, trivial⟩⟩⟩⟩
          · refine Tj.iconst dX11_cut_71 (by decide) rfl ?_
            refine Tj.goto dX11_cut_72 rfl ?_
            try simp only [if_neg c5] at hj ⊢
            exact Tj.cut hj ⟨rfl, ⟨rfl, ⟨rfl, ⟨rfl, trivial⟩⟩⟩⟩
        · have h := h.2 c4
          refine Tj.bipush dX11_cut_42 (by decide) (by decide +kernel) rfl ?_
          exact Tj.iret dX11_cut_44 rfl h

theorem wX11_cuts_0 {m : tM} {P : Option tV → tM → Prop}   (h : Cli mX2_marks [rV 4] m (fun r1 m1 => ((0 ≤ r1) ∧ (P (some (iV (r1 / 2))) m1)))) : Tj mX11_cuts 0 [some (rV 0)] [] m P := by
  refine Tj.aload_n dX11_cuts_0 rfl rfl ?_
  refine Tj.getR (b := 1) dX11_cuts_1 fl_X11_10 sh_0 rfl rfl ?_
  refine Tj.getR (b := 4) dX11_cuts_4 fl_X11_156 sh_1 rfl rfl ?_
  refine Tj.callVi (as := []) (rest := []) dX11_cuts_7 ln_X11_169 sh_4 (by decide) rfl rfl (Nat.le_of_ble_eq_true rfl) ⟨Nat.le_of_ble_eq_true rfl, Nat.le_of_ble_eq_true rfl⟩ (Nat.le_of_ble_eq_true rfl) rfl ?_
  refine Cli.mono h (fun r1 m1 h => ?_)
  obtain ⟨o1, h⟩ := h
  refine Tj.iconst dX11_cuts_10 (by decide) rfl ?_
  refine Tj.idiv dX11_cuts_11 o1 (by decide) rfl ?_
  exact Tj.iret dX11_cuts_12 rfl h

theorem wX11_open_0 {m : tM} {P : Option tV → tM → Prop}   (h : Cli mX9_fault [rV 109] m (fun r1 m1 => ((r1 = 0 → (Cli mX9_size [rV 109] m1 (fun r2 m2 => ((60 < r2 → (P (some (iV (-5))) m2)) ∧ (¬ 60 < r2 → (Cli mX5_lay [rV 115, rV 109, rV 4] m2 (fun r3 m3 => ((r3 = 0 → (Cli mX5_isWithinReach [rV 115] m3 (fun r4 m4 => ((r4 = 0 → (P (some (iV (-3))) m4)) ∧ (¬ r4 = 0 → (Clv mX7_keep [rV 10, rV 1] m4 (fun m5 => (Clv mX5_drawOn [rV 115, rV 6, rV 109, rV 4] m5 (fun m6 => (Cli mX8_creaseCount [rV 6] m6 (fun r5 m7 => (P (some (iV r5)) m7)))))))))))) ∧ (¬ r3 = 0 → ((R32 ((-20) - r3)) ∧ (P (some (iV ((-20) - r3))) m3))))))))))) ∧ (¬ r1 = 0 → (P (some (iV (-4))) m1))))) : Tj mX11_open 0 [some (rV 0)] [] m P := by
  refine Tj.aload_n dX11_open_0 rfl rfl ?_
  refine Tj.getR (b := 109) dX11_open_1 fl_X11_33 sh_0 rfl rfl ?_
  refine Tj.callVi (as := []) (rest := []) dX11_open_4 ln_X11_124 sh_109 (by decide) rfl rfl (Nat.le_of_ble_eq_true rfl) ⟨Nat.le_of_ble_eq_true rfl, Nat.le_of_ble_eq_true rfl⟩ (Nat.le_of_ble_eq_true rfl) rfl ?_
  refine Cli.mono h (fun r1 m1 h => ?_)
  refine Tj.if_eq dX11_open_7 rfl rfl (fun c1 => ?_) (fun c1 => ?_)
  · have h := h.1 c1
    refine Tj.aload_n dX11_open_13 rfl rfl ?_
    refine Tj.getR (b := 109) dX11_open_14 fl_X11_33 sh_0 rfl rfl ?_
    refine Tj.callVi (as := []) (rest := []) dX11_open_17 ln_X11_128 sh_109 (by decide) rfl rfl (Nat.le_of_ble_eq_true rfl) ⟨Nat.le_of_ble_eq_true rfl, Nat.le_of_ble_eq_true rfl⟩ (Nat.le_of_ble_eq_true rfl) rfl ?_
    refine Cli.mono h (fun r2 m2 h => ?_)
    refine Tj.bipush dX11_open_20 (by decide) (by decide +kernel) rfl ?_
    refine Tj.icmp_le dX11_open_22 rfl rfl (fun c2 => ?_) (fun c2 => ?_)
    · have h := h.1 c2
      refine Tj.bipush dX11_open_25 (by decide) (by decide +kernel) rfl ?_
      exact Tj.iret dX11_open_27 rfl h
    · have h := h.2 c2
      refine Tj.aload_n dX11_open_28 rfl rfl ?_
      refine Tj.getR (b := 115) dX11_open_29 fl_X11_40 sh_0 rfl rfl ?_
      refine Tj.aload_n dX11_open_32 rfl rfl ?_
      refine Tj.getR (b := 109) dX11_open_33 fl_X11_33 sh_0 rfl rfl ?_
      refine Tj.aload_n dX11_open_36 rfl rfl ?_
      refine Tj.getR (b := 1) dX11_open_37 fl_X11_10 sh_0 rfl rfl ?_
      refine Tj.getR (b := 4) dX11_open_40 fl_X11_156 sh_1 rfl rfl ?_
      refine Tj.callVi (as := [_, _]) (rest := []) dX11_open_43 ln_X11_172 sh_115 (by decide) rfl rfl (Nat.le_of_ble_eq_true rfl) ⟨Nat.le_of_ble_eq_true rfl, Nat.le_of_ble_eq_true rfl⟩ (Nat.le_of_ble_eq_true rfl) rfl ?_
      refine Cli.mono h (fun r3 m3 h => ?_)
      refine Tj.istore_n dX11_open_46 (Nat.le_of_ble_eq_true rfl) rfl rfl ?_
      refine Tj.iload_n dX11_open_47 rfl rfl ?_
      refine Tj.if_eq dX11_open_48 rfl rfl (fun c3 => ?_) (fun c3 => ?_)
      · have h := h.1 c3
        refine Tj.aload_n dX11_open_56 rfl rfl ?_
        refine Tj.getR (b := 115) dX11_open_57 fl_X11_40 sh_0 rfl rfl ?_
        refine Tj.callVi (as := []) (rest := []) dX11_open_60 ln_X11_176 sh_115 (by decide) rfl rfl (Nat.le_of_ble_eq_true rfl) ⟨Nat.le_of_ble_eq_true rfl, Nat.le_of_ble_eq_true rfl⟩ (Nat.le_of_ble_eq_true rfl) rfl ?_
        refine Cli.mono h (fun r4 m4 h => ?_)
        refine Tj.if_ne dX11_open_63 rfl rfl (fun c4 => ?_) (fun c4 => ?_)
        · have h := h.1 c4
          refine Tj.bipush dX11_open_66 (by decide) (by decide +kernel) rfl ?_
          exact Tj.iret dX11_open_68 rfl h
        · have h := h.2 c4
          refine Tj.aload_n dX11_open_69 rfl rfl ?_
          refine Tj.getR (b := 10) dX11_open_70 fl_X11_19 sh_0 rfl rfl ?_
          refine Tj.aload_n dX11_open_73 rfl rfl ?_
          refine Tj.getR (b := 1) dX11_open_74 fl_X11_10 sh_0 rfl rfl ?_
          refine Tj.callVv (as := [_]) (rest := []) dX11_open_77 ln_X11_83 sh_10 (by decide) rfl rfl (Nat.le_of_ble_eq_true rfl) ⟨Nat.le_of_ble_eq_true rfl, Nat.le_of_ble_eq_true rfl⟩ (Nat.le_of_ble_eq_true rfl) rfl ?_
          refine Clv.mono h (fun m5 h => ?_)
          refine Tj.aload_n dX11_open_80 rfl rfl ?_
          refine Tj.getR (b := 115) dX11_open_81 fl_X11_40 sh_0 rfl rfl ?_
          refine Tj.aload_n dX11_open_84 rfl rfl ?_
          refine Tj.getR (b := 1) dX11_open_85 fl_X11_10 sh_0 rfl rfl ?_
          refine Tj.getR (b := 6) dX11_open_88 fl_X11_180 sh_1 rfl rfl ?_
          refine Tj.aload_n dX11_open_91 rfl rfl ?_
          refine Tj.getR (b := 109) dX11_open_92 fl_X11_33 sh_0 rfl rfl ?_
          refine Tj.aload_n dX11_open_95 rfl rfl ?_
          refine Tj.getR (b := 1) dX11_open_96 fl_X11_10 sh_0 rfl rfl ?_
          refine Tj.getR (b := 4) dX11_open_99 fl_X11_156 sh_1 rfl rfl ?_
          refine Tj.callVv (as := [_, _, _]) (rest := []) dX11_open_102 ln_X11_183 sh_115 (by decide) rfl rfl (Nat.le_of_ble_eq_true rfl) ⟨Nat.le_of_ble_eq_true rfl, Nat.le_of_ble_eq_true rfl⟩ (Nat.le_of_ble_eq_true rfl) rfl ?_
          refine Clv.mono h (fun m6 h => ?_)
          refine Tj.aload_n dX11_open_105 rfl rfl ?_
          refine Tj.getR (b := 1) dX11_open_106 fl_X11_10 sh_0 rfl rfl ?_
          refine Tj.getR (b := 6) dX11_open_109 fl_X11_180 sh_1 rfl rfl ?_
          refine Tj.callVi (as := []) (rest := []) dX11_open_112 ln_X11_187 sh_6 (by decide) rfl rfl (Nat.le_of_ble_eq_true rfl) ⟨Nat.le_of_ble_eq_true rfl, Nat.le_of_ble_eq_true rfl⟩ (Nat.le_of_ble_eq_true rfl) rfl ?_
          refine Cli.mono h (fun r5 m7 h => ?_)
          exact Tj.iret dX11_open_115 rfl h
      · have h := h.2 c3
        obtain ⟨o1, h⟩ := h
        refine Tj.bipush dX11_open_51 (by decide) (by decide +kernel) rfl ?_
        refine Tj.iload_n dX11_open_53 rfl rfl ?_
        refine Tj.isub dX11_open_54 o1 rfl ?_
        exact Tj.iret dX11_open_55 rfl h
  · have h := h.2 c1
    refine Tj.bipush dX11_open_10 (by decide) (by decide +kernel) rfl ?_
    exact Tj.iret dX11_open_12 rfl h

theorem wX11_spot_0 {m : tM} {P : Option tV → tM → Prop} {x1 : Int} {x2 : Int} {x3 : Int}  (h : Cli mX11_isOnTable [iV x1] m (fun r1 m1 => ((r1 = 0 → (P (some (iV (-3))) m1)) ∧ (¬ r1 = 0 → (Cli mX11_isOnTable [iV x2] m1 (fun r2 m2 => ((r2 = 0 → (P (some (iV (-3))) m2)) ∧ (¬ r2 = 0 → (Cli mX11_isSwitch [iV x3] m2 (fun r3 m3 => ((r3 = 0 → (P (some (iV (-3))) m3)) ∧ (¬ r3 = 0 → (Cli mX8_find [rV 6, iV x1, iV x2] m3 (fun r4 m4 => ((x3 = 1 → ((r4 < 0 → (Cli mX8_size [rV 6] m4 (fun r5 m5 => ((r5 < 60 → (Clv mX7_keep [rV 10, rV 1] m5 (fun m6 => ((x3 = 1 → ((r4 < 0 → (Cli mX8_add [rV 6, iV x1, iV x2] m6 (fun r6 m7 => ((x3 = 0 → ((r4 < 0 → (∀ v1 : Int, v1 = (if r4 < 0 then 0 else 1) → (P (some (iV v1)) m7))) ∧ (¬ r4 < 0 → (Clv mX8_remove [rV 6, iV r4] m7 (fun m8 => (∀ v2 : Int, v2 = (if r4 < 0 then 0 else 1) → (P (some (iV v2)) m8))))))) ∧ (¬ x3 = 0 → (∀ v3 : Int, v3 = (if r4 < 0 then 0 else 1) → (P (some (iV v3)) m7))))))) ∧ (¬ r4 < 0 → ((x3 = 0 → ((r4 < 0 → (∀ v4 : Int, v4 = (if r4 < 0 then 0 else 1) → (P (some (iV v4)) m6))) ∧ (¬ r4 < 0 → (Clv mX8_remove [rV 6, iV r4] m6 (fun m9 => (∀ v5 : Int, v5 = (if r4 < 0 then 0 else 1) → (P (some (iV v5)) m9))))))) ∧ (¬ x3 = 0 → (∀ v6 : Int, v6 = (if r4 < 0 then 0 else 1) → (P (some (iV v6)) m6))))))) ∧ (¬ x3 = 1 → ((x3 = 0 → ((r4 < 0 → (∀ v7 : Int, v7 = (if r4 < 0 then 0 else 1) → (P (some (iV v7)) m6))) ∧ (¬ r4 < 0 → (Clv mX8_remove [rV 6, iV r4] m6 (fun m10 => (∀ v8 : Int, v8 = (if r4 < 0 then 0 else 1) → (P (some (iV v8)) m10))))))) ∧ (¬ x3 = 0 → (∀ v9 : Int, v9 = (if r4 < 0 then 0 else 1) → (P (some (iV v9)) m6))))))))) ∧ (¬ r5 < 60 → (P (some (iV (-5))) m5)))))) ∧ (¬ r4 < 0 → (Clv mX7_keep [rV 10, rV 1] m4 (fun m11 => ((x3 = 1 → ((r4 < 0 → (Cli mX8_add [rV 6, iV x1, iV x2] m11 (fun r7 m12 => ((x3 = 0 → ((r4 < 0 → (∀ v10 : Int, v10 = (if r4 < 0 then 0 else 1) → (P (some (iV v10)) m12))) ∧ (¬ r4 < 0 → (Clv mX8_remove [rV 6, iV r4] m12 (fun m13 => (∀ v11 : Int, v11 = (if r4 < 0 then 0 else 1) → (P (some (iV v11)) m13))))))) ∧ (¬ x3 = 0 → (∀ v12 : Int, v12 = (if r4 < 0 then 0 else 1) → (P (some (iV v12)) m12))))))) ∧ (¬ r4 < 0 → ((x3 = 0 → ((r4 < 0 → (∀ v13 : Int, v13 = (if r4 < 0 then 0 else 1) → (P (some (iV v13)) m11))) ∧ (¬ r4 < 0 → (Clv mX8_remove [rV 6, iV r4] m11 (fun m14 => (∀ v14 : Int, v14 = (if r4 < 0 then 0 else 1) → (P (some (iV v14)) m14))))))) ∧ (¬ x3 = 0 → (∀ v15 : Int, v15 = (if r4 < 0 then 0 else 1) → (P (some (iV v15)) m11))))))) ∧ (¬ x3 = 1 → ((x3 = 0 → ((r4 < 0 → (∀ v16 : Int, v16 = (if r4 < 0 then 0 else 1) → (P (some (iV v16)) m11))) ∧ (¬ r4 < 0 → (Clv mX8_remove [rV 6, iV r4] m11 (fun m15 => (∀ v17 : Int, v17 = (if r4 < 0 then 0 else 1) → (P (some (iV v17)) m15))))))) ∧ (¬ x3 = 0 → (∀ v18 : Int, v18 = (if r4 < 0 then 0 else 1) → (P (some (iV v18)) m11))))))))))) ∧ (¬ x3 = 1 → (Clv mX7_keep [rV 10, rV 1] m4 (fun m16 => ((x3 = 1 → ((r4 < 0 → (Cli mX8_add [rV 6, iV x1, iV x2] m16 (fun r8 m17 => ((x3 = 0 → ((r4 < 0 → (∀ v19 : Int, v19 = (if r4 < 0 then 0 else 1) → (P (some (iV v19)) m17))) ∧ (¬ r4 < 0 → (Clv mX8_remove [rV 6, iV r4] m17 (fun m18 => (∀ v20 : Int, v20 = (if r4 < 0 then 0 else 1) → (P (some (iV v20)) m18))))))) ∧ (¬ x3 = 0 → (∀ v21 : Int, v21 = (if r4 < 0 then 0 else 1) → (P (some (iV v21)) m17))))))) ∧ (¬ r4 < 0 → ((x3 = 0 → ((r4 < 0 → (∀ v22 : Int, v22 = (if r4 < 0 then 0 else 1) → (P (some (iV v22)) m16))) ∧ (¬ r4 < 0 → (Clv mX8_remove [rV 6, iV r4] m16 (fun m19 => (∀ v23 : Int, v23 = (if r4 < 0 then 0 else 1) → (P (some (iV v23)) m19))))))) ∧ (¬ x3 = 0 → (∀ v24 : Int, v24 = (if r4 < 0 then 0 else 1) → (P (some (iV v24)) m16))))))) ∧ (¬ x3 = 1 → ((x3 = 0 → ((r4 < 0 → (∀ v25 : Int, v25 = (if r4 < 0 then 0 else 1) → (P (some (iV v25)) m16))) ∧ (¬ r4 < 0 → (Clv mX8_remove [rV 6, iV r4] m16 (fun m20 => (∀ v26 : Int, v26 = (if r4 < 0 then 0 else 1) → (P (some (iV v26)) m20))))))) ∧ (¬ x3 = 0 → (∀ v27 : Int, v27 = (if r4 < 0 then 0 else 1) → (P (some (iV v27)) m16)))))))))))))))))))))))) : Tj mX11_spot 0 [some (rV 0), some (iV x1), some (iV x2), some (iV x3)] [] m P := by
  refine Tj.iload_n dX11_spot_0 rfl rfl ?_
  refine Tj.callSi (as := [_]) (rest := []) dX11_spot_1 ln_X11_190 rfl rfl (Nat.le_of_ble_eq_true rfl) ⟨Nat.le_of_ble_eq_true rfl, Nat.le_of_ble_eq_true rfl⟩ (Nat.le_of_ble_eq_true rfl) rfl ?_
  refine Cli.mono h (fun r1 m1 h => ?_)
  refine Tj.if_eq dX11_spot_4 rfl rfl (fun c1 => ?_) (fun c1 => ?_)
  · have h := h.1 c1
    refine Tj.bipush dX11_spot_21 (by decide) (by decide +kernel) rfl ?_
    exact Tj.iret dX11_spot_23 rfl h
  · have h := h.2 c1
    refine Tj.iload_n dX11_spot_7 rfl rfl ?_
    refine Tj.callSi (as := [_]) (rest := []) dX11_spot_8 ln_X11_190 rfl rfl (Nat.le_of_ble_eq_true rfl) ⟨Nat.le_of_ble_eq_true rfl, Nat.le_of_ble_eq_true rfl⟩ (Nat.le_of_ble_eq_true rfl) rfl ?_
    refine Cli.mono h (fun r2 m2 h => ?_)
    refine Tj.if_eq dX11_spot_11 rfl rfl (fun c2 => ?_) (fun c2 => ?_)
    · have h := h.1 c2
      refine Tj.bipush dX11_spot_21 (by decide) (by decide +kernel) rfl ?_
      exact Tj.iret dX11_spot_23 rfl h
    · have h := h.2 c2
      refine Tj.iload_n dX11_spot_14 rfl rfl ?_
      refine Tj.callSi (as := [_]) (rest := []) dX11_spot_15 ln_X11_111 rfl rfl (Nat.le_of_ble_eq_true rfl) ⟨Nat.le_of_ble_eq_true rfl, Nat.le_of_ble_eq_true rfl⟩ (Nat.le_of_ble_eq_true rfl) rfl ?_
      refine Cli.mono h (fun r3 m3 h => ?_)
      refine Tj.if_ne dX11_spot_18 rfl rfl (fun c3 => ?_) (fun c3 => ?_)
      · have h := h.1 c3
        refine Tj.bipush dX11_spot_21 (by decide) (by decide +kernel) rfl ?_
        exact Tj.iret dX11_spot_23 rfl h
      · have h := h.2 c3
        refine Tj.aload_n dX11_spot_24 rfl rfl ?_
        refine Tj.getR (b := 1) dX11_spot_25 fl_X11_10 sh_0 rfl rfl ?_
        refine Tj.getR (b := 6) dX11_spot_28 fl_X11_180 sh_1 rfl rfl ?_
        refine Tj.iload_n dX11_spot_31 rfl rfl ?_
        refine Tj.iload_n dX11_spot_32 rfl rfl ?_
        refine Tj.callVi (as := [_, _]) (rest := []) dX11_spot_33 ln_X11_193 sh_6 (by decide) rfl rfl (Nat.le_of_ble_eq_true rfl) ⟨Nat.le_of_ble_eq_true rfl, Nat.le_of_ble_eq_true rfl⟩ (Nat.le_of_ble_eq_true rfl) rfl ?_
        refine Cli.mono h (fun r4 m4 h => ?_)
        refine Tj.istore dX11_spot_36 (Nat.le_of_ble_eq_true rfl) rfl rfl ?_
        refine Tj.iload_n dX11_spot_38 rfl rfl ?_
        refine Tj.iconst dX11_spot_39 (by decide) rfl ?_
        refine Tj.icmp_ne dX11_spot_40 rfl rfl (fun c4 => ?_) (fun c4 => ?_)
        · have h := h.1 c4
          refine Tj.iload dX11_spot_43 rfl rfl ?_
          refine Tj.if_ge dX11_spot_45 rfl rfl (fun c5 => ?_) (fun c5 => ?_)
          · have h := h.1 c5
            refine Tj.aload_n dX11_spot_48 rfl rfl ?_
            refine Tj.getR (b := 1) dX11_spot_49 fl_X11_10 sh_0 rfl rfl ?_
            refine Tj.getR (b := 6) dX11_spot_52 fl_X11_180 sh_1 rfl rfl ?_
            refine Tj.callVi (as := []) (rest := []) dX11_spot_55 ln_X11_196 sh_6 (by decide) rfl rfl (Nat.le_of_ble_eq_true rfl) ⟨Nat.le_of_ble_eq_true rfl, Nat.le_of_ble_eq_true rfl⟩ (Nat.le_of_ble_eq_true rfl) rfl ?_
            refine Cli.mono h (fun r5 m5 h => ?_)
            refine Tj.bipush dX11_spot_58 (by decide) (by decide +kernel) rfl ?_
            refine Tj.icmp_lt dX11_spot_60 rfl rfl (fun c6 => ?_) (fun c6 => ?_)
            · have h := h.1 c6
              refine Tj.aload_n dX11_spot_66 rfl rfl ?_
              refine Tj.getR (b := 10) dX11_spot_67 fl_X11_19 sh_0 rfl rfl ?_
              refine Tj.aload_n dX11_spot_70 rfl rfl ?_
              refine Tj.getR (b := 1) dX11_spot_71 fl_X11_10 sh_0 rfl rfl ?_
              refine Tj.callVv (as := [_]) (rest := []) dX11_spot_74 ln_X11_83 sh_10 (by decide) rfl rfl (Nat.le_of_ble_eq_true rfl) ⟨Nat.le_of_ble_eq_true rfl, Nat.le_of_ble_eq_true rfl⟩ (Nat.le_of_ble_eq_true rfl) rfl ?_
              refine Clv.mono h (fun m6 h => ?_)
              refine Tj.iload_n dX11_spot_77 rfl rfl ?_
              refine Tj.iconst dX11_spot_78 (by decide) rfl ?_
              refine Tj.icmp_ne dX11_spot_79 rfl rfl (fun c7 => ?_) (fun c7 => ?_)
              · have h := h.1 c7
                refine Tj.iload dX11_spot_82 rfl rfl ?_
                refine Tj.if_ge dX11_spot_84 rfl rfl (fun c8 => ?_) (fun c8 => ?_)
                · have h := h.1 c8
                  refine Tj.aload_n dX11_spot_87 rfl rfl ?_
                  refine Tj.getR (b := 1) dX11_spot_88 fl_X11_10 sh_0 rfl rfl ?_
                  refine Tj.getR (b := 6) dX11_spot_91 fl_X11_180 sh_1 rfl rfl ?_
                  refine Tj.iload_n dX11_spot_94 rfl rfl ?_
                  refine Tj.iload_n dX11_spot_95 rfl rfl ?_
                  refine Tj.callVi (as := [_, _]) (rest := []) dX11_spot_96 ln_X11_197 sh_6 (by decide) rfl rfl (Nat.le_of_ble_eq_true rfl) ⟨Nat.le_of_ble_eq_true rfl, Nat.le_of_ble_eq_true rfl⟩ (Nat.le_of_ble_eq_true rfl) rfl ?_
                  refine Cli.mono h (fun r6 m7 h => ?_)
                  refine Tj.pop dX11_spot_99 rfl rfl ?_
                  refine Tj.iload_n dX11_spot_100 rfl rfl ?_
                  refine Tj.if_ne dX11_spot_101 rfl rfl (fun c9 => ?_) (fun c9 => ?_)
                  · have h := h.1 c9
                    refine Tj.iload dX11_spot_104 rfl rfl ?_
                    refine Tj.if_lt dX11_spot_106 rfl rfl (fun c10 => ?_) (fun c10 => ?_)
                    · have h := h.1 c10
                      refine Tj.iload dX11_spot_121 rfl rfl ?_
                      have hj : Tj mX11_spot 131 [] [iV (if r4 < 0 then 0 else 1)] m7 P := by
                        generalize hv1 : ((if r4 < 0 then 0 else 1) : Int) = v1
                        have h := h v1 hv1.symm
                        exact Tj.iret dX11_spot_131 rfl h
                      refine Tj.if_lt dX11_spot_123 rfl rfl (fun c11 => ?_) (fun c11 => ?_)
                      · refine Tj.iconst dX11_spot_130 (by decide) rfl ?_
                        try simp only [if_pos c11] at hj ⊢
                        exact Tj.cut hj trivial
                      · refine Tj.iconst dX11_spot_126 (by decide) rfl ?_
                        refine Tj.goto dX11_spot_127 rfl ?_
                        try simp only [if_neg c11] at hj ⊢
                        exact Tj.cut hj trivial
                    · have h := h.2 c10
                      refine Tj.aload_n dX11_spot_109 rfl rfl ?_
                      refine Tj.getR (b := 1) dX11_spot_110 fl_X11_10 sh_0 rfl rfl ?_
                      refine Tj.getR (b := 6) dX11_spot_113 fl_X11_180 sh_1 rfl rfl ?_
                      refine Tj.iload dX11_spot_116 rfl rfl ?_
                      refine Tj.callVv (as := [_]) (rest := []) dX11_spot_118 ln_X11_200 sh_6 (by decide) rfl rfl (Nat.le_of_ble_eq_true rfl) ⟨Nat.le_of_ble_eq_true rfl, Nat.le_of_ble_eq_true rfl⟩ (Nat.le_of_ble_eq_true rfl) rfl ?_
                      refine Clv.mono h (fun m8 h => ?_)
                      refine Tj.iload dX11_spot_121 rfl rfl ?_
                      have hj : Tj mX11_spot 131 [] [iV (if r4 < 0 then 0 else 1)] m8 P := by
                        generalize hv2 : ((if r4 < 0 then 0 else 1) : Int) = v2
                        have h := h v2 hv2.symm
                        exact Tj.iret dX11_spot_131 rfl h
                      refine Tj.if_lt dX11_spot_123 rfl rfl (fun c12 => ?_) (fun c12 => ?_)
                      · refine Tj.iconst dX11_spot_130 (by decide) rfl ?_
                        try simp only [if_pos c12] at hj ⊢
                        exact Tj.cut hj trivial
                      · refine Tj.iconst dX11_spot_126 (by decide) rfl ?_
                        refine Tj.goto dX11_spot_127 rfl ?_
                        try simp only [if_neg c12] at hj ⊢
                        exact Tj.cut hj trivial
                  · have h := h.2 c9
                    refine Tj.iload dX11_spot_121 rfl rfl ?_
                    have hj : Tj mX11_spot 131 [] [iV (if r4 < 0 then 0 else 1)] m7 P := by
                      generalize hv3 : ((if r4 < 0 then 0 else 1) : Int) = v3
                      have h := h v3 hv3.symm
                      exact Tj.iret dX11_spot_131 rfl h
                    refine Tj.if_lt dX11_spot_123 rfl rfl (fun c13 => ?_) (fun c13 => ?_)
                    · refine Tj.iconst dX11_spot_130 (by decide) rfl ?_
                      try simp only [if_pos c13] at hj ⊢
                      exact Tj.cut hj trivial
                    · refine Tj.iconst dX11_spot_126 (by decide) rfl ?_
                      refine Tj.goto dX11_spot_127 rfl ?_
                      try simp only [if_neg c13] at hj ⊢
                      exact Tj.cut hj trivial
                · have h := h.2 c8
                  refine Tj.iload_n dX11_spot_100 rfl rfl ?_
                  refine Tj.if_ne dX11_spot_101 rfl rfl (fun c14 => ?_) (fun c14 => ?_)
                  · have h := h.1 c14
                    refine Tj.iload dX11_spot_104 rfl rfl ?_
                    refine Tj.if_lt dX11_spot_106 rfl rfl (fun c15 => ?_) (fun c15 => ?_)
                    · have h := h.1 c15
                      refine Tj.iload dX11_spot_121 rfl rfl ?_
                      have hj : Tj mX11_spot 131 [] [iV (if r4 < 0 then 0 else 1)] m6 P := by
                        generalize hv4 : ((if r4 < 0 then 0 else 1) : Int) = v4
                        have h := h v4 hv4.symm
                        exact Tj.iret dX11_spot_131 rfl h
                      refine Tj.if_lt dX11_spot_123 rfl rfl (fun c16 => ?_) (fun c16 => ?_)
                      · refine Tj.iconst dX11_spot_130 (by decide) rfl ?_
                        try simp only [if_pos c16] at hj ⊢
                        exact Tj.cut hj trivial
                      · refine Tj.iconst dX11_spot_126 (by decide) rfl ?_
                        refine Tj.goto dX11_spot_127 rfl ?_
                        try simp only [if_neg c16] at hj ⊢
                        exact Tj.cut hj trivial
                    · have h := h.2 c15
                      refine Tj.aload_n dX11_spot_109 rfl rfl ?_
                      refine Tj.getR (b := 1) dX11_spot_110 fl_X11_10 sh_0 rfl rfl ?_
                      refine Tj.getR (b := 6) dX11_spot_113 fl_X11_180 sh_1 rfl rfl ?_
                      refine Tj.iload dX11_spot_116 rfl rfl ?_
                      refine Tj.callVv (as := [_]) (rest := []) dX11_spot_118 ln_X11_200 sh_6 (by decide) rfl rfl (Nat.le_of_ble_eq_true rfl) ⟨Nat.le_of_ble_eq_true rfl, Nat.le_of_ble_eq_true rfl⟩ (Nat.le_of_ble_eq_true rfl) rfl ?_
                      refine Clv.mono h (fun m9 h => ?_)
                      refine Tj.iload dX11_spot_121 rfl rfl ?_
                      have hj : Tj mX11_spot 131 [] [iV (if r4 < 0 then 0 else 1)] m9 P := by
                        generalize hv5 : ((if r4 < 0 then 0 else 1) : Int) = v5
                        have h := h v5 hv5.symm
                        exact Tj.iret dX11_spot_131 rfl h
                      refine Tj.if_lt dX11_spot_123 rfl rfl (fun c17 => ?_) (fun c17 => ?_)
                      · refine Tj.iconst dX11_spot_130 (by decide) rfl ?_
                        try simp only [if_pos c17] at hj ⊢
                        exact Tj.cut hj trivial
                      · refine Tj.iconst dX11_spot_126 (by decide) rfl ?_
                        refine Tj.goto dX11_spot_127 rfl ?_
                        try simp only [if_neg c17] at hj ⊢
                        exact Tj.cut hj trivial
                  · have h := h.2 c14
                    refine Tj.iload dX11_spot_121 rfl rfl ?_
                    have hj : Tj mX11_spot 131 [] [iV (if r4 < 0 then 0 else 1)] m6 P := by
                      generalize hv6 : ((if r4 < 0 then 0 else 1) : Int) = v6
                      have h := h v6 hv6.symm
                      exact Tj.iret dX11_spot_131 rfl h
                    refine Tj.if_lt dX11_spot_123 rfl rfl (fun c18 => ?_) (fun c18 => ?_)
                    · refine Tj.iconst dX11_spot_130 (by decide) rfl ?_
                      try simp only [if_pos c18] at hj ⊢
                      exact Tj.cut hj trivial
                    · refine Tj.iconst dX11_spot_126 (by decide) rfl ?_
                      refine Tj.goto dX11_spot_127 rfl ?_
                      try simp only [if_neg c18] at hj ⊢
                      exact Tj.cut hj trivial
              · have h := h.2 c7
                refine Tj.iload_n dX11_spot_100 rfl rfl ?_
                refine Tj.if_ne dX11_spot_101 rfl rfl (fun c19 => ?_) (fun c19 => ?_)
                · have h := h.1 c19
                  refine Tj.iload dX11_spot_104 rfl rfl ?_
                  refine Tj.if_lt dX11_spot_106 rfl rfl (fun c20 => ?_) (fun c20 => ?_)
                  · have h := h.1 c20
                    refine Tj.iload dX11_spot_121 rfl rfl ?_
                    have hj : Tj mX11_spot 131 [] [iV (if r4 < 0 then 0 else 1)] m6 P := by
                      generalize hv7 : ((if r4 < 0 then 0 else 1) : Int) = v7
                      have h := h v7 hv7.symm
                      exact Tj.iret dX11_spot_131 rfl h
                    refine Tj.if_lt dX11_spot_123 rfl rfl (fun c21 => ?_) (fun c21 => ?_)
                    · refine Tj.iconst dX11_spot_130 (by decide) rfl ?_
                      try simp only [if_pos c21] at hj ⊢
                      exact Tj.cut hj trivial
                    · refine Tj.iconst dX11_spot_126 (by decide) rfl ?_
                      refine Tj.goto dX11_spot_127 rfl ?_
                      try simp only [if_neg c21] at hj ⊢
                      exact Tj.cut hj trivial
                  · have h := h.2 c20
                    refine Tj.aload_n dX11_spot_109 rfl rfl ?_
                    refine Tj.getR (b := 1) dX11_spot_110 fl_X11_10 sh_0 rfl rfl ?_
                    refine Tj.getR (b := 6) dX11_spot_113 fl_X11_180 sh_1 rfl rfl ?_
                    refine Tj.iload dX11_spot_116 rfl rfl ?_
                    refine Tj.callVv (as := [_]) (rest := []) dX11_spot_118 ln_X11_200 sh_6 (by decide) rfl rfl (Nat.le_of_ble_eq_true rfl) ⟨Nat.le_of_ble_eq_true rfl, Nat.le_of_ble_eq_true rfl⟩ (Nat.le_of_ble_eq_true rfl) rfl ?_
                    refine Clv.mono h (fun m10 h => ?_)
                    refine Tj.iload dX11_spot_121 rfl rfl ?_
                    have hj : Tj mX11_spot 131 [] [iV (if r4 < 0 then 0 else 1)] m10 P := by
                      generalize hv8 : ((if r4 < 0 then 0 else 1) : Int) = v8
                      have h := h v8 hv8.symm
                      exact Tj.iret dX11_spot_131 rfl h
                    refine Tj.if_lt dX11_spot_123 rfl rfl (fun c22 => ?_) (fun c22 => ?_)
                    · refine Tj.iconst dX11_spot_130 (by decide) rfl ?_
                      try simp only [if_pos c22] at hj ⊢
                      exact Tj.cut hj trivial
                    · refine Tj.iconst dX11_spot_126 (by decide) rfl ?_
                      refine Tj.goto dX11_spot_127 rfl ?_
                      try simp only [if_neg c22] at hj ⊢
                      exact Tj.cut hj trivial
                · have h := h.2 c19
                  refine Tj.iload dX11_spot_121 rfl rfl ?_
                  have hj : Tj mX11_spot 131 [] [iV (if r4 < 0 then 0 else 1)] m6 P := by
                    generalize hv9 : ((if r4 < 0 then 0 else 1) : Int) = v9
                    have h := h v9 hv9.symm
                    exact Tj.iret dX11_spot_131 rfl h
                  refine Tj.if_lt dX11_spot_123 rfl rfl (fun c23 => ?_) (fun c23 => ?_)
                  · refine Tj.iconst dX11_spot_130 (by decide) rfl ?_
                    try simp only [if_pos c23] at hj ⊢
                    exact Tj.cut hj trivial
                  · refine Tj.iconst dX11_spot_126 (by decide) rfl ?_
                    refine Tj.goto dX11_spot_127 rfl ?_
                    try simp only [if_neg c23] at hj ⊢
                    exact Tj.cut hj trivial
            · have h := h.2 c6
              refine Tj.bipush dX11_spot_63 (by decide) (by decide +kernel) rfl ?_
              exact Tj.iret dX11_spot_65 rfl h
          · have h := h.2 c5
            refine Tj.aload_n dX11_spot_66 rfl rfl ?_
            refine Tj.getR (b := 10) dX11_spot_67 fl_X11_19 sh_0 rfl rfl ?_
            refine Tj.aload_n dX11_spot_70 rfl rfl ?_
            refine Tj.getR (b := 1) dX11_spot_71 fl_X11_10 sh_0 rfl rfl ?_
            refine Tj.callVv (as := [_]) (rest := []) dX11_spot_74 ln_X11_83 sh_10 (by decide) rfl rfl (Nat.le_of_ble_eq_true rfl) ⟨Nat.le_of_ble_eq_true rfl, Nat.le_of_ble_eq_true rfl⟩ (Nat.le_of_ble_eq_true rfl) rfl ?_
            refine Clv.mono h (fun m11 h => ?_)
            refine Tj.iload_n dX11_spot_77 rfl rfl ?_
            refine Tj.iconst dX11_spot_78 (by decide) rfl ?_
            refine Tj.icmp_ne dX11_spot_79 rfl rfl (fun c24 => ?_) (fun c24 => ?_)
            · have h := h.1 c24
              refine Tj.iload dX11_spot_82 rfl rfl ?_
              refine Tj.if_ge dX11_spot_84 rfl rfl (fun c25 => ?_) (fun c25 => ?_)
              · have h := h.1 c25
                refine Tj.aload_n dX11_spot_87 rfl rfl ?_
                refine Tj.getR (b := 1) dX11_spot_88 fl_X11_10 sh_0 rfl rfl ?_
                refine Tj.getR (b := 6) dX11_spot_91 fl_X11_180 sh_1 rfl rfl ?_
                refine Tj.iload_n dX11_spot_94 rfl rfl ?_
                refine Tj.iload_n dX11_spot_95 rfl rfl ?_
                refine Tj.callVi (as := [_, _]) (rest := []) dX11_spot_96 ln_X11_197 sh_6 (by decide) rfl rfl (Nat.le_of_ble_eq_true rfl) ⟨Nat.le_of_ble_eq_true rfl, Nat.le_of_ble_eq_true rfl⟩ (Nat.le_of_ble_eq_true rfl) rfl ?_
                refine Cli.mono h (fun r7 m12 h => ?_)
                refine Tj.pop dX11_spot_99 rfl rfl ?_
                refine Tj.iload_n dX11_spot_100 rfl rfl ?_
                refine Tj.if_ne dX11_spot_101 rfl rfl (fun c26 => ?_) (fun c26 => ?_)
                · have h := h.1 c26
                  refine Tj.iload dX11_spot_104 rfl rfl ?_
                  refine Tj.if_lt dX11_spot_106 rfl rfl (fun c27 => ?_) (fun c27 => ?_)
                  · have h := h.1 c27
                    refine Tj.iload dX11_spot_121 rfl rfl ?_
                    have hj : Tj mX11_spot 131 [] [iV (if r4 < 0 then 0 else 1)] m12 P := by
                      generalize hv10 : ((if r4 < 0 then 0 else 1) : Int) = v10
                      have h := h v10 hv10.symm
                      exact Tj.iret dX11_spot_131 rfl h
                    refine Tj.if_lt dX11_spot_123 rfl rfl (fun c28 => ?_) (fun c28 => ?_)
                    · refine Tj.iconst dX11_spot_130 (by decide) rfl ?_
                      try simp only [if_pos c28] at hj ⊢
                      exact Tj.cut hj trivial
                    · refine Tj.iconst dX11_spot_126 (by decide) rfl ?_
                      refine Tj.goto dX11_spot_127 rfl ?_
                      try simp only [if_neg c28] at hj ⊢
                      exact Tj.cut hj trivial
                  · have h := h.2 c27
                    refine Tj.aload_n dX11_spot_109 rfl rfl ?_
                    refine Tj.getR (b := 1) dX11_spot_110 fl_X11_10 sh_0 rfl rfl ?_
                    refine Tj.getR (b := 6) dX11_spot_113 fl_X11_180 sh_1 rfl rfl ?_
                    refine Tj.iload dX11_spot_116 rfl rfl ?_
                    refine Tj.callVv (as := [_]) (rest := []) dX11_spot_118 ln_X11_200 sh_6 (by decide) rfl rfl (Nat.le_of_ble_eq_true rfl) ⟨Nat.le_of_ble_eq_true rfl, Nat.le_of_ble_eq_true rfl⟩ (Nat.le_of_ble_eq_true rfl) rfl ?_
                    refine Clv.mono h (fun m13 h => ?_)
                    refine Tj.iload dX11_spot_121 rfl rfl ?_
                    have hj : Tj mX11_spot 131 [] [iV (if r4 < 0 then 0 else 1)] m13 P := by
                      generalize hv11 : ((if r4 < 0 then 0 else 1) : Int) = v11
                      have h := h v11 hv11.symm
                      exact Tj.iret dX11_spot_131 rfl h
                    refine Tj.if_lt dX11_spot_123 rfl rfl (fun c29 => ?_) (fun c29 => ?_)
                    · refine Tj.iconst dX11_spot_130 (by decide) rfl ?_
                      try simp only [if_pos c29] at hj ⊢
                      exact Tj.cut hj trivial
                    · refine Tj.iconst dX11_spot_126 (by decide) rfl ?_
                      refine Tj.goto dX11_spot_127 rfl ?_
                      try simp only [if_neg c29] at hj ⊢
                      exact Tj.cut hj trivial
                · have h := h.2 c26
                  refine Tj.iload dX11_spot_121 rfl rfl ?_
                  have hj : Tj mX11_spot 131 [] [iV (if r4 < 0 then 0 else 1)] m12 P := by
                    generalize hv12 : ((if r4 < 0 then 0 else 1) : Int) = v12
                    have h := h v12 hv12.symm
                    exact Tj.iret dX11_spot_131 rfl h
                  refine Tj.if_lt dX11_spot_123 rfl rfl (fun c30 => ?_) (fun c30 => ?_)
                  · refine Tj.iconst dX11_spot_130 (by decide) rfl ?_
                    try simp only [if_pos c30] at hj ⊢
                    exact Tj.cut hj trivial
                  · refine Tj.iconst dX11_spot_126 (by decide) rfl ?_
                    refine Tj.goto dX11_spot_127 rfl ?_
                    try simp only [if_neg c30] at hj ⊢
                    exact Tj.cut hj trivial
              · have h := h.2 c25
                refine Tj.iload_n dX11_spot_100 rfl rfl ?_
                refine Tj.if_ne dX11_spot_101 rfl rfl (fun c31 => ?_) (fun c31 => ?_)
                · have h := h.1 c31
                  refine Tj.iload dX11_spot_104 rfl rfl ?_
                  refine Tj.if_lt dX11_spot_106 rfl rfl (fun c32 => ?_) (fun c32 => ?_)
                  · have h := h.1 c32
                    refine Tj.iload dX11_spot_121 rfl rfl ?_
                    have hj : Tj mX11_spot 131 [] [iV (if r4 < 0 then 0 else 1)] m11 P := by
                      generalize hv13 : ((if r4 < 0 then 0 else 1) : Int) = v13
                      have h := h v13 hv13.symm
                      exact Tj.iret dX11_spot_131 rfl h
                    refine Tj.if_lt dX11_spot_123 rfl rfl (fun c33 => ?_) (fun c33 => ?_)
                    · refine Tj.iconst dX11_spot_130 (by decide) rfl ?_
                      try simp only [if_pos c33] at hj ⊢
                      exact Tj.cut hj trivial
                    · refine Tj.iconst dX11_spot_126 (by decide) rfl ?_
                      refine Tj.goto dX11_spot_127 rfl ?_
                      try simp only [if_neg c33] at hj ⊢
                      exact Tj.cut hj trivial
                  · have h := h.2 c32
                    refine Tj.aload_n dX11_spot_109 rfl rfl ?_
                    refine Tj.getR (b := 1) dX11_spot_110 fl_X11_10 sh_0 rfl rfl ?_
                    refine Tj.getR (b := 6) dX11_spot_113 fl_X11_180 sh_1 rfl rfl ?_
                    refine Tj.iload dX11_spot_116 rfl rfl ?_
                    refine Tj.callVv (as := [_]) (rest := []) dX11_spot_118 ln_X11_200 sh_6 (by decide) rfl rfl (Nat.le_of_ble_eq_true rfl) ⟨Nat.le_of_ble_eq_true rfl, Nat.le_of_ble_eq_true rfl⟩ (Nat.le_of_ble_eq_true rfl) rfl ?_
                    refine Clv.mono h (fun m14 h => ?_)
                    refine Tj.iload dX11_spot_121 rfl rfl ?_
                    have hj : Tj mX11_spot 131 [] [iV (if r4 < 0 then 0 else 1)] m14 P := by
                      generalize hv14 : ((if r4 < 0 then 0 else 1) : Int) = v14
                      have h := h v14 hv14.symm
                      exact Tj.iret dX11_spot_131 rfl h
                    refine Tj.if_lt dX11_spot_123 rfl rfl (fun c34 => ?_) (fun c34 => ?_)
                    · refine Tj.iconst dX11_spot_130 (by decide) rfl ?_
                      try simp only [if_pos c34] at hj ⊢
                      exact Tj.cut hj trivial
                    · refine Tj.iconst dX11_spot_126 (by decide) rfl ?_
                      refine Tj.goto dX11_spot_127 rfl ?_
                      try simp only [if_neg c34] at hj ⊢
                      exact Tj.cut hj trivial
                · have h := h.2 c31
                  refine Tj.iload dX11_spot_121 rfl rfl ?_
                  have hj : Tj mX11_spot 131 [] [iV (if r4 < 0 then 0 else 1)] m11 P := by
                    generalize hv15 : ((if r4 < 0 then 0 else 1) : Int) = v15
                    have h := h v15 hv15.symm
                    exact Tj.iret dX11_spot_131 rfl h
                  refine Tj.if_lt dX11_spot_123 rfl rfl (fun c35 => ?_) (fun c35 => ?_)
                  · refine Tj.iconst dX11_spot_130 (by decide) rfl ?_
                    try simp only [if_pos c35] at hj ⊢
                    exact Tj.cut hj trivial
                  · refine Tj.iconst dX11_spot_126 (by decide) rfl ?_
                    refine Tj.goto dX11_spot_127 rfl ?_
                    try simp only [if_neg c35] at hj ⊢
                    exact Tj.cut hj trivial
            · have h := h.2 c24
              refine Tj.iload_n dX11_spot_100 rfl rfl ?_
              refine Tj.if_ne dX11_spot_101 rfl rfl (fun c36 => ?_) (fun c36 => ?_)
              · have h := h.1 c36
                refine Tj.iload dX11_spot_104 rfl rfl ?_
                refine Tj.if_lt dX11_spot_106 rfl rfl (fun c37 => ?_) (fun c37 => ?_)
                · have h := h.1 c37
                  refine Tj.iload dX11_spot_121 rfl rfl ?_
                  have hj : Tj mX11_spot 131 [] [iV (if r4 < 0 then 0 else 1)] m11 P := by
                    generalize hv16 : ((if r4 < 0 then 0 else 1) : Int) = v16
                    have h := h v16 hv16.symm
                    exact Tj.iret dX11_spot_131 rfl h
                  refine Tj.if_lt dX11_spot_123 rfl rfl (fun c38 => ?_) (fun c38 => ?_)
                  · refine Tj.iconst dX11_spot_130 (by decide) rfl ?_
                    try simp only [if_pos c38] at hj ⊢
                    exact Tj.cut hj trivial
                  · refine Tj.iconst dX11_spot_126 (by decide) rfl ?_
                    refine Tj.goto dX11_spot_127 rfl ?_
                    try simp only [if_neg c38] at hj ⊢
                    exact Tj.cut hj trivial
                · have h := h.2 c37
                  refine Tj.aload_n dX11_spot_109 rfl rfl ?_
                  refine Tj.getR (b := 1) dX11_spot_110 fl_X11_10 sh_0 rfl rfl ?_
                  refine Tj.getR (b := 6) dX11_spot_113 fl_X11_180 sh_1 rfl rfl ?_
                  refine Tj.iload dX11_spot_116 rfl rfl ?_
                  refine Tj.callVv (as := [_]) (rest := []) dX11_spot_118 ln_X11_200 sh_6 (by decide) rfl rfl (Nat.le_of_ble_eq_true rfl) ⟨Nat.le_of_ble_eq_true rfl, Nat.le_of_ble_eq_true rfl⟩ (Nat.le_of_ble_eq_true rfl) rfl ?_
                  refine Clv.mono h (fun m15 h => ?_)
                  refine Tj.iload dX11_spot_121 rfl rfl ?_
                  have hj : Tj mX11_spot 131 [] [iV (if r4 < 0 then 0 else 1)] m15 P := by
                    generalize hv17 : ((if r4 < 0 then 0 else 1) : Int) = v17
                    have h := h v17 hv17.symm
                    exact Tj.iret dX11_spot_131 rfl h
                  refine Tj.if_lt dX11_spot_123 rfl rfl (fun c39 => ?_) (fun c39 => ?_)
                  · refine Tj.iconst dX11_spot_130 (by decide) rfl ?_
                    try simp only [if_pos c39] at hj ⊢
                    exact Tj.cut hj trivial
                  · refine Tj.iconst dX11_spot_126 (by decide) rfl ?_
                    refine Tj.goto dX11_spot_127 rfl ?_
                    try simp only [if_neg c39] at hj ⊢
                    exact Tj.cut hj trivial
              · have h := h.2 c36
                refine Tj.iload dX11_spot_121 rfl rfl ?_
                have hj : Tj mX11_spot 131 [] [iV (if r4 < 0 then 0 else 1)] m11 P := by
                  generalize hv18 : ((if r4 < 0 then 0 else 1) : Int) = v18
                  have h := h v18 hv18.symm
                  exact Tj.iret dX11_spot_131 rfl h
                refine Tj.if_lt dX11_spot_123 rfl rfl (fun c40 => ?_) (fun c40 => ?_)
                · refine Tj.iconst dX11_spot_130 (by decide) rfl ?_
                  try simp only [if_pos c40] at hj ⊢
                  exact Tj.cut hj trivial
                · refine Tj.iconst dX11_spot_126 (by decide) rfl ?_
                  refine Tj.goto dX11_spot_127 rfl ?_
                  try simp only [if_neg c40] at hj ⊢
                  exact Tj.cut hj trivial
        · have h := h.2 c4
          refine Tj.aload_n dX11_spot_66 rfl rfl ?_
          refine Tj.getR (b := 10) dX11_spot_67 fl_X11_19 sh_0 rfl rfl ?_
          refine Tj.aload_n dX11_spot_70 rfl rfl ?_
          refine Tj.getR (b := 1) dX11_spot_71 fl_X11_10 sh_0 rfl rfl ?_
          refine Tj.callVv (as := [_]) (rest := []) dX11_spot_74 ln_X11_83 sh_10 (by decide) rfl rfl (Nat.le_of_ble_eq_true rfl) ⟨Nat.le_of_ble_eq_true rfl, Nat.le_of_ble_eq_true rfl⟩ (Nat.le_of_ble_eq_true rfl) rfl ?_
          refine Clv.mono h (fun m16 h => ?_)
          refine Tj.iload_n dX11_spot_77 rfl rfl ?_
          refine Tj.iconst dX11_spot_78 (by decide) rfl ?_
          refine Tj.icmp_ne dX11_spot_79 rfl rfl (fun c41 => ?_) (fun c41 => ?_)
          · have h := h.1 c41
            refine Tj.iload dX11_spot_82 rfl rfl ?_
            refine Tj.if_ge dX11_spot_84 rfl rfl (fun c42 => ?_) (fun c42 => ?_)
            · have h := h.1 c42
              refine Tj.aload_n dX11_spot_87 rfl rfl ?_
              refine Tj.getR (b := 1) dX11_spot_88 fl_X11_10 sh_0 rfl rfl ?_
              refine Tj.getR (b := 6) dX11_spot_91 fl_X11_180 sh_1 rfl rfl ?_
              refine Tj.iload_n dX11_spot_94 rfl rfl ?_
              refine Tj.iload_n dX11_spot_95 rfl rfl ?_
              refine Tj.callVi (as := [_, _]) (rest := []) dX11_spot_96 ln_X11_197 sh_6 (by decide) rfl rfl (Nat.le_of_ble_eq_true rfl) ⟨Nat.le_of_ble_eq_true rfl, Nat.le_of_ble_eq_true rfl⟩ (Nat.le_of_ble_eq_true rfl) rfl ?_
              refine Cli.mono h (fun r8 m17 h => ?_)
              refine Tj.pop dX11_spot_99 rfl rfl ?_
              refine Tj.iload_n dX11_spot_100 rfl rfl ?_
              refine Tj.if_ne dX11_spot_101 rfl rfl (fun c43 => ?_) (fun c43 => ?_)
              · have h := h.1 c43
                refine Tj.iload dX11_spot_104 rfl rfl ?_
                refine Tj.if_lt dX11_spot_106 rfl rfl (fun c44 => ?_) (fun c44 => ?_)
                · have h := h.1 c44
                  refine Tj.iload dX11_spot_121 rfl rfl ?_
                  have hj : Tj mX11_spot 131 [] [iV (if r4 < 0 then 0 else 1)] m17 P := by
                    generalize hv19 : ((if r4 < 0 then 0 else 1) : Int) = v19
                    have h := h v19 hv19.symm
                    exact Tj.iret dX11_spot_131 rfl h
                  refine Tj.if_lt dX11_spot_123 rfl rfl (fun c45 => ?_) (fun c45 => ?_)
                  · refine Tj.iconst dX11_spot_130 (by decide) rfl ?_
                    try simp only [if_pos c45] at hj ⊢
                    exact Tj.cut hj trivial
                  · refine Tj.iconst dX11_spot_126 (by decide) rfl ?_
                    refine Tj.goto dX11_spot_127 rfl ?_
                    try simp only [if_neg c45] at hj ⊢
                    exact Tj.cut hj trivial
                · have h := h.2 c44
                  refine Tj.aload_n dX11_spot_109 rfl rfl ?_
                  refine Tj.getR (b := 1) dX11_spot_110 fl_X11_10 sh_0 rfl rfl ?_
                  refine Tj.getR (b := 6) dX11_spot_113 fl_X11_180 sh_1 rfl rfl ?_
                  refine Tj.iload dX11_spot_116 rfl rfl ?_
                  refine Tj.callVv (as := [_]) (rest := []) dX11_spot_118 ln_X11_200 sh_6 (by decide) rfl rfl (Nat.le_of_ble_eq_true rfl) ⟨Nat.le_of_ble_eq_true rfl, Nat.le_of_ble_eq_true rfl⟩ (Nat.le_of_ble_eq_true rfl) rfl ?_
                  refine Clv.mono h (fun m18 h => ?_)
                  refine Tj.iload dX11_spot_121 rfl rfl ?_
                  have hj : Tj mX11_spot 131 [] [iV (if r4 < 0 then 0 else 1)] m18 P := by
                    generalize hv20 : ((if r4 < 0 then 0 else 1) : Int) = v20
                    have h := h v20 hv20.symm
                    exact Tj.iret dX11_spot_131 rfl h
                  refine Tj.if_lt dX11_spot_123 rfl rfl (fun c46 => ?_) (fun c46 => ?_)
                  · refine Tj.iconst dX11_spot_130 (by decide) rfl ?_
                    try simp only [if_pos c46] at hj ⊢
                    exact Tj.cut hj trivial
                  · refine Tj.iconst dX11_spot_126 (by decide) rfl ?_
                    refine Tj.goto dX11_spot_127 rfl ?_
                    try simp only [if_neg c46] at hj ⊢
                    exact Tj.cut hj trivial
              · have h := h.2 c43
                refine Tj.iload dX11_spot_121 rfl rfl ?_
                have hj : Tj mX11_spot 131 [] [iV (if r4 < 0 then 0 else 1)] m17 P := by
                  generalize hv21 : ((if r4 < 0 then 0 else 1) : Int) = v21
                  have h := h v21 hv21.symm
                  exact Tj.iret dX11_spot_131 rfl h
                refine Tj.if_lt dX11_spot_123 rfl rfl (fun c47 => ?_) (fun c47 => ?_)
                · refine Tj.iconst dX11_spot_130 (by decide) rfl ?_
                  try simp only [if_pos c47] at hj ⊢
                  exact Tj.cut hj trivial
                · refine Tj.iconst dX11_spot_126 (by decide) rfl ?_
                  refine Tj.goto dX11_spot_127 rfl ?_
                  try simp only [if_neg c47] at hj ⊢
                  exact Tj.cut hj trivial
            · have h := h.2 c42
              refine Tj.iload_n dX11_spot_100 rfl rfl ?_
              refine Tj.if_ne dX11_spot_101 rfl rfl (fun c48 => ?_) (fun c48 => ?_)
              · have h := h.1 c48
                refine Tj.iload dX11_spot_104 rfl rfl ?_
                refine Tj.if_lt dX11_spot_106 rfl rfl (fun c49 => ?_) (fun c49 => ?_)
                · have h := h.1 c49
                  refine Tj.iload dX11_spot_121 rfl rfl ?_
                  have hj : Tj mX11_spot 131 [] [iV (if r4 < 0 then 0 else 1)] m16 P := by
                    generalize hv22 : ((if r4 < 0 then 0 else 1) : Int) = v22
                    have h := h v22 hv22.symm
                    exact Tj.iret dX11_spot_131 rfl h
                  refine Tj.if_lt dX11_spot_123 rfl rfl (fun c50 => ?_) (fun c50 => ?_)
                  · refine Tj.iconst dX11_spot_130 (by decide) rfl ?_
                    try simp only [if_pos c50] at hj ⊢
                    exact Tj.cut hj trivial
                  · refine Tj.iconst dX11_spot_126 (by decide) rfl ?_
                    refine Tj.goto dX11_spot_127 rfl ?_
                    try simp only [if_neg c50] at hj ⊢
                    exact Tj.cut hj trivial
                · have h := h.2 c49
                  refine Tj.aload_n dX11_spot_109 rfl rfl ?_
                  refine Tj.getR (b := 1) dX11_spot_110 fl_X11_10 sh_0 rfl rfl ?_
                  refine Tj.getR (b := 6) dX11_spot_113 fl_X11_180 sh_1 rfl rfl ?_
                  refine Tj.iload dX11_spot_116 rfl rfl ?_
                  refine Tj.callVv (as := [_]) (rest := []) dX11_spot_118 ln_X11_200 sh_6 (by decide) rfl rfl (Nat.le_of_ble_eq_true rfl) ⟨Nat.le_of_ble_eq_true rfl, Nat.le_of_ble_eq_true rfl⟩ (Nat.le_of_ble_eq_true rfl) rfl ?_
                  refine Clv.mono h (fun m19 h => ?_)
                  refine Tj.iload dX11_spot_121 rfl rfl ?_
                  have hj : Tj mX11_spot 131 [] [iV (if r4 < 0 then 0 else 1)] m19 P := by
                    generalize hv23 : ((if r4 < 0 then 0 else 1) : Int) = v23
                    have h := h v23 hv23.symm
                    exact Tj.iret dX11_spot_131 rfl h
                  refine Tj.if_lt dX11_spot_123 rfl rfl (fun c51 => ?_) (fun c51 => ?_)
                  · refine Tj.iconst dX11_spot_130 (by decide) rfl ?_
                    try simp only [if_pos c51] at hj ⊢
                    exact Tj.cut hj trivial
                  · refine Tj.iconst dX11_spot_126 (by decide) rfl ?_
                    refine Tj.goto dX11_spot_127 rfl ?_
                    try simp only [if_neg c51] at hj ⊢
                    exact Tj.cut hj trivial
              · have h := h.2 c48
                refine Tj.iload dX11_spot_121 rfl rfl ?_
                have hj : Tj mX11_spot 131 [] [iV (if r4 < 0 then 0 else 1)] m16 P := by
                  generalize hv24 : ((if r4 < 0 then 0 else 1) : Int) = v24
                  have h := h v24 hv24.symm
                  exact Tj.iret dX11_spot_131 rfl h
                refine Tj.if_lt dX11_spot_123 rfl rfl (fun c52 => ?_) (fun c52 => ?_)
                · refine Tj.iconst dX11_spot_130 (by decide) rfl ?_
                  try simp only [if_pos c52] at hj ⊢
                  exact Tj.cut hj trivial
                · refine Tj.iconst dX11_spot_126 (by decide) rfl ?_
                  refine Tj.goto dX11_spot_127 rfl ?_
                  try simp only [if_neg c52] at hj ⊢
                  exact Tj.cut hj trivial
          · have h := h.2 c41
            refine Tj.iload_n dX11_spot_100 rfl rfl ?_
            refine Tj.if_ne dX11_spot_101 rfl rfl (fun c53 => ?_) (fun c53 => ?_)
            · have h := h.1 c53
              refine Tj.iload dX11_spot_104 rfl rfl ?_
              refine Tj.if_lt dX11_spot_106 rfl rfl (fun c54 => ?_) (fun c54 => ?_)
              · have h := h.1 c54
                refine Tj.iload dX11_spot_121 rfl rfl ?_
                have hj : Tj mX11_spot 131 [] [iV (if r4 < 0 then 0 else 1)] m16 P := by
                  generalize hv25 : ((if r4 < 0 then 0 else 1) : Int) = v25
                  have h := h v25 hv25.symm
                  exact Tj.iret dX11_spot_131 rfl h
                refine Tj.if_lt dX11_spot_123 rfl rfl (fun c55 => ?_) (fun c55 => ?_)
                · refine Tj.iconst dX11_spot_130 (by decide) rfl ?_
                  try simp only [if_pos c55] at hj ⊢
                  exact Tj.cut hj trivial
                · refine Tj.iconst dX11_spot_126 (by decide) rfl ?_
                  refine Tj.goto dX11_spot_127 rfl ?_
                  try simp only [if_neg c55] at hj ⊢
                  exact Tj.cut hj trivial
              · have h := h.2 c54
                refine Tj.aload_n dX11_spot_109 rfl rfl ?_
                refine Tj.getR (b := 1) dX11_spot_110 fl_X11_10 sh_0 rfl rfl ?_
                refine Tj.getR (b := 6) dX11_spot_113 fl_X11_180 sh_1 rfl rfl ?_
                refine Tj.iload dX11_spot_116 rfl rfl ?_
                refine Tj.callVv (as := [_]) (rest := []) dX11_spot_118 ln_X11_200 sh_6 (by decide) rfl rfl (Nat.le_of_ble_eq_true rfl) ⟨Nat.le_of_ble_eq_true rfl, Nat.le_of_ble_eq_true rfl⟩ (Nat.le_of_ble_eq_true rfl) rfl ?_
                refine Clv.mono h (fun m20 h => ?_)
                refine Tj.iload dX11_spot_121 rfl rfl ?_
                have hj : Tj mX11_spot 131 [] [iV (if r4 < 0 then 0 else 1)] m20 P := by
                  generalize hv26 : ((if r4 < 0 then 0 else 1) : Int) = v26
                  have h := h v26 hv26.symm
                  exact Tj.iret dX11_spot_131 rfl h
                refine Tj.if_lt dX11_spot_123 rfl rfl (fun c56 => ?_) (fun c56 => ?_)
                · refine Tj.iconst dX11_spot_130 (by decide) rfl ?_
                  try simp only [if_pos c56] at hj ⊢
                  exact Tj.cut hj trivial
                · refine Tj.iconst dX11_spot_126 (by decide) rfl ?_
                  refine Tj.goto dX11_spot_127 rfl ?_
                  try simp only [if_neg c56] at hj ⊢
                  exact Tj.cut hj trivial
            · have h := h.2 c53
              refine Tj.iload dX11_spot_121 rfl rfl ?_
              have hj : Tj mX11_spot 131 [] [iV (if r4 < 0 then 0 else 1)] m16 P := by
                generalize hv27 : ((if r4 < 0 then 0 else 1) : Int) = v27
                have h := h v27 hv27.symm
                exact Tj.iret dX11_spot_131 rfl h
              refine Tj.if_lt dX11_spot_123 rfl rfl (fun c57 => ?_) (fun c57 => ?_)
              · refine Tj.iconst dX11_spot_130 (by decide) rfl ?_
                try simp only [if_pos c57] at hj ⊢
                exact Tj.cut hj trivial
              · refine Tj.iconst dX11_spot_126 (by decide) rfl ?_
                refine Tj.goto dX11_spot_127 rfl ?_
                try simp only [if_neg c57] at hj ⊢
                exact Tj.cut hj trivial
