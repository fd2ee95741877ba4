theorem wX11_layer_0 {m : tM} {P : Option tV → tM → Prop} {x1 : Int} {x2 : Int}  (h : Cli mX11_isLayer [iV x1] m (fun r1 m1 => ((r1 = 0 → (P (some (iV (-3))) m1)) ∧ (¬ r1 = 0 → (Clv mX7_keep [rV 10, rV 1] m1 (fun m2 => (Clv mX1_put [rV 2, iV x1, iV x2] m2 (fun m3 => (Clv mX11_bodyHasChanged [rV 0] m3 (fun m4 => (Cli mX1_cubesIn [rV 2, iV x1] m4 (fun r2 m5 => (P (some (iV r2)) m5))))))))))))) : Tj mX11_layer 0 [some (rV 0), some (iV x1), some (iV x2)] [] m P := by
  refine Tj.iload_n dX11_layer_0 rfl rfl ?_
  refine Tj.callSi (as := [_]) (rest := []) dX11_layer_1 ln_X11_79 rfl rfl (Nat.le_of_ble_eq_true rfl) ⟨Nat.le_of_ble_eq_true rfl, Nat.le_of_ble_eq_true rfl⟩ (Nat.le_of_ble_eq_true rfl) rfl ?_
  refine Cli.mono h (fun r1 m1 h => ?_)
  refine Tj.if_ne dX11_layer_4 rfl rfl (fun c1 => ?_) (fun c1 => ?_)
  · have h := h.1 c1
    refine Tj.bipush dX11_layer_7 (by decide) (by decide +kernel) rfl ?_
    exact Tj.iret dX11_layer_9 rfl h
  · have h := h.2 c1
    refine Tj.aload_n dX11_layer_10 rfl rfl ?_
    refine Tj.getR (b := 10) dX11_layer_11 fl_X11_19 sh_0 rfl rfl ?_
    refine Tj.aload_n dX11_layer_14 rfl rfl ?_
    refine Tj.getR (b := 1) dX11_layer_15 fl_X11_10 sh_0 rfl rfl ?_
    refine Tj.callVv (as := [_]) (rest := []) dX11_layer_18 ln_X11_83 sh_10 (by decide) rfl rfl (Nat.le_of_ble_eq_true rfl) ⟨Nat.le_of_ble_eq_true rfl, Nat.le_of_ble_eq_true rfl⟩ (Nat.le_of_ble_eq_true rfl) rfl ?_
    refine Clv.mono h (fun m2 h => ?_)
    refine Tj.aload_n dX11_layer_21 rfl rfl ?_
    refine Tj.getR (b := 1) dX11_layer_22 fl_X11_10 sh_0 rfl rfl ?_
    refine Tj.getR (b := 2) dX11_layer_25 fl_X11_87 sh_1 rfl rfl ?_
    refine Tj.iload_n dX11_layer_28 rfl rfl ?_
    refine Tj.iload_n dX11_layer_29 rfl rfl ?_
    refine Tj.callVv (as := [_, _]) (rest := []) dX11_layer_30 ln_X11_91 sh_2 (by decide) rfl rfl (Nat.le_of_ble_eq_true rfl) ⟨Nat.le_of_ble_eq_true rfl, Nat.le_of_ble_eq_true rfl⟩ (Nat.le_of_ble_eq_true rfl) rfl ?_
    refine Clv.mono h (fun m3 h => ?_)
    refine Tj.aload_n dX11_layer_33 rfl rfl ?_
    refine Tj.callVv (as := []) (rest := []) dX11_layer_34 ln_X11_97 sh_0 (by decide) rfl rfl (Nat.le_of_ble_eq_true rfl) ⟨Nat.le_of_ble_eq_true rfl, Nat.le_of_ble_eq_true rfl⟩ (Nat.le_of_ble_eq_true rfl) rfl ?_
    refine Clv.mono h (fun m4 h => ?_)
    refine Tj.aload_n dX11_layer_37 rfl rfl ?_
    refine Tj.getR (b := 1) dX11_layer_38 fl_X11_10 sh_0 rfl rfl ?_
    refine Tj.getR (b := 2) dX11_layer_41 fl_X11_87 sh_1 rfl rfl ?_
    refine Tj.iload_n dX11_layer_44 rfl rfl ?_
    refine Tj.callVi (as := [_]) (rest := []) dX11_layer_45 ln_X11_100 sh_2 (by decide) rfl rfl (Nat.le_of_ble_eq_true rfl) ⟨Nat.le_of_ble_eq_true rfl, Nat.le_of_ble_eq_true rfl⟩ (Nat.le_of_ble_eq_true rfl) rfl ?_
    refine Cli.mono h (fun r2 m5 h => ?_)
    exact Tj.iret dX11_layer_48 rfl h

theorem wX11_lose_0 {m : tM} {P : Option tV → tM → Prop} {x1 : Int}  (h : Cli mX11_isLayer [iV x1] m (fun r1 m1 => ((r1 = 0 → (P (some (iV (-3))) m1)) ∧ (¬ r1 = 0 → (Cli mX1_misses [rV 2, iV x1] m1 (fun r2 m2 => ((r2 = 0 → (Clv mX7_keep [rV 10, rV 1] m2 (fun m3 => (Cli mX1_cubesIn [rV 2, iV x1] m3 (fun r3 m4 => (Clv mX1_take [rV 2, iV x1] m4 (fun m5 => (Clv mX11_bodyHasChanged [rV 0] m5 (fun m6 => (P (some (iV r3)) m6)))))))))) ∧ (¬ r2 = 0 → (P (some (iV (-11))) m2))))))))) : Tj mX11_lose 0 [some (rV 0), some (iV x1)] [] m P := by
  refine Tj.iload_n dX11_lose_0 rfl rfl ?_
  refine Tj.callSi (as := [_]) (rest := []) dX11_lose_1 ln_X11_79 rfl rfl (Nat.le_of_ble_eq_true rfl) ⟨Nat.le_of_ble_eq_true rfl, Nat.le_of_ble_eq_true rfl⟩ (Nat.le_of_ble_eq_true rfl) rfl ?_
  refine Cli.mono h (fun r1 m1 h => ?_)
  refine Tj.if_ne dX11_lose_4 rfl rfl (fun c1 => ?_) (fun c1 => ?_)
  · have h := h.1 c1
    refine Tj.bipush dX11_lose_7 (by decide) (by decide +kernel) rfl ?_
    exact Tj.iret dX11_lose_9 rfl h
  · have h := h.2 c1
    refine Tj.aload_n dX11_lose_10 rfl rfl ?_
    refine Tj.getR (b := 1) dX11_lose_11 fl_X11_10 sh_0 rfl rfl ?_
    refine Tj.getR (b := 2) dX11_lose_14 fl_X11_87 sh_1 rfl rfl ?_
    refine Tj.iload_n dX11_lose_17 rfl rfl ?_
    refine Tj.callVi (as := [_]) (rest := []) dX11_lose_18 ln_X11_104 sh_2 (by decide) rfl rfl (Nat.le_of_ble_eq_true rfl) ⟨Nat.le_of_ble_eq_true rfl, Nat.le_of_ble_eq_true rfl⟩ (Nat.le_of_ble_eq_true rfl) rfl ?_
    refine Cli.mono h (fun r2 m2 h => ?_)
    refine Tj.if_eq dX11_lose_21 rfl rfl (fun c2 => ?_) (fun c2 => ?_)
    · have h := h.1 c2
      refine Tj.aload_n dX11_lose_27 rfl rfl ?_
      refine Tj.getR (b := 10) dX11_lose_28 fl_X11_19 sh_0 rfl rfl ?_
      refine Tj.aload_n dX11_lose_31 rfl rfl ?_
      refine Tj.getR (b := 1) dX11_lose_32 fl_X11_10 sh_0 rfl rfl ?_
      refine Tj.callVv (as := [_]) (rest := []) dX11_lose_35 ln_X11_83 sh_10 (by decide) rfl rfl (Nat.le_of_ble_eq_true rfl) ⟨Nat.le_of_ble_eq_true rfl, Nat.le_of_ble_eq_true rfl⟩ (Nat.le_of_ble_eq_true rfl) rfl ?_
      refine Clv.mono h (fun m3 h => ?_)
      refine Tj.aload_n dX11_lose_38 rfl rfl ?_
      refine Tj.getR (b := 1) dX11_lose_39 fl_X11_10 sh_0 rfl rfl ?_
      refine Tj.getR (b := 2) dX11_lose_42 fl_X11_87 sh_1 rfl rfl ?_
      refine Tj.iload_n dX11_lose_45 rfl rfl ?_
      refine Tj.callVi (as := [_]) (rest := []) dX11_lose_46 ln_X11_100 sh_2 (by decide) rfl rfl (Nat.le_of_ble_eq_true rfl) ⟨Nat.le_of_ble_eq_true rfl, Nat.le_of_ble_eq_true rfl⟩ (Nat.le_of_ble_eq_true rfl) rfl ?_
      refine Cli.mono h (fun r3 m4 h => ?_)
      refine Tj.istore_n dX11_lose_49 (Nat.le_of_ble_eq_true rfl) rfl rfl ?_
      refine Tj.aload_n dX11_lose_50 rfl rfl ?_
      refine Tj.getR (b := 1) dX11_lose_51 fl_X11_10 sh_0 rfl rfl ?_
      refine Tj.getR (b := 2) dX11_lose_54 fl_X11_87 sh_1 rfl rfl ?_
      refine Tj.iload_n dX11_lose_57 rfl rfl ?_
      refine Tj.callVv (as := [_]) (rest := []) dX11_lose_58 ln_X11_107 sh_2 (by decide) rfl rfl (Nat.le_of_ble_eq_true rfl) ⟨Nat.le_of_ble_eq_true rfl, Nat.le_of_ble_eq_true rfl⟩ (Nat.le_of_ble_eq_true rfl) rfl ?_
      refine Clv.mono h (fun m5 h => ?_)
      refine Tj.aload_n dX11_lose_61 rfl rfl ?_
      refine Tj.callVv (as := []) (rest := []) dX11_lose_62 ln_X11_97 sh_0 (by decide) rfl rfl (Nat.le_of_ble_eq_true rfl) ⟨Nat.le_of_ble_eq_true rfl, Nat.le_of_ble_eq_true rfl⟩ (Nat.le_of_ble_eq_true rfl) rfl ?_
      refine Clv.mono h (fun m6 h => ?_)
      refine Tj.iload_n dX11_lose_65 rfl rfl ?_
      exact Tj.iret dX11_lose_66 rfl h
    · have h := h.2 c2
      refine Tj.bipush dX11_lose_24 (by decide) (by decide +kernel) rfl ?_
      exact Tj.iret dX11_lose_26 rfl h

theorem wX11_cube_0 {m : tM} {P : Option tV → tM → Prop} {x1 : Int} {x2 : Int} {x3 : Int}  (h : Cli mX11_isLayer [iV x1] m (fun r1 m1 => ((r1 = 0 → (P (some (iV (-3))) m1)) ∧ (¬ r1 = 0 → (Cli mX11_isSwitch [iV x3] m1 (fun r2 m2 => ((r2 = 0 → (P (some (iV (-3))) m2)) ∧ (¬ r2 = 0 → (Cli mX1_misses [rV 2, iV x1] m2 (fun r3 m3 => ((r3 = 0 → (Cli mX11_arePlaces [iV x2, iV 1] m3 (fun r4 m4 => ((r4 = 0 → (P (some (iV (-13))) m4)) ∧ (¬ r4 = 0 → (Clv mX7_keep [rV 10, rV 1] m4 (fun m5 => (Cli mX1_bitsOf [rV 2, iV x1] m5 (fun r5 m6 => (∀ v1 : Int, v1 = (if x3 = 1 then (bOr r5 (bShl 1 x2)) else (bAnd r5 (bXor (bShl 1 x2) (-1)))) → (Clv mX1_put [rV 2, iV x1, iV v1] m6 (fun m7 => (Clv mX11_bodyHasChanged [rV 0] m7 (fun m8 => (∀ v2 : Int, v2 = (if (bAnd r5 (bShl 1 x2)) = 0 then 0 else 1) → (P (some (iV v2)) m8)))))))))))))))) ∧ (¬ r3 = 0 → (P (some (iV (-11))) m3))))))))))))) : Tj mX11_cube 0 [some (rV 0), some (iV x1), some (iV x2), some (iV x3)] [] m P := by
  refine Tj.iload_n dX11_cube_0 rfl rfl ?_
  refine Tj.callSi (as := [_]) (rest := []) dX11_cube_1 ln_X11_79 rfl rfl (Nat.le_of_ble_eq_true rfl) ⟨Nat.le_of_ble_eq_true rfl, Nat.le_of_ble_eq_true rfl⟩ (Nat.le_of_ble_eq_true rfl) rfl ?_
  refine Cli.mono h (fun r1 m1 h => ?_)
  refine Tj.if_eq dX11_cube_4 rfl rfl (fun c1 => ?_) (fun c1 => ?_)
  · have h := h.1 c1
    refine Tj.bipush dX11_cube_14 (by decide) (by decide +kernel) rfl ?_
    exact Tj.iret dX11_cube_16 rfl h
  · have h := h.2 c1
    refine Tj.iload_n dX11_cube_7 rfl rfl ?_
    refine Tj.callSi (as := [_]) (rest := []) dX11_cube_8 ln_X11_111 rfl rfl (Nat.le_of_ble_eq_true rfl) ⟨Nat.le_of_ble_eq_true rfl, Nat.le_of_ble_eq_true rfl⟩ (Nat.le_of_ble_eq_true rfl) rfl ?_
    refine Cli.mono h (fun r2 m2 h => ?_)
    refine Tj.if_ne dX11_cube_11 rfl rfl (fun c2 => ?_) (fun c2 => ?_)
    · have h := h.1 c2
      refine Tj.bipush dX11_cube_14 (by decide) (by decide +kernel) rfl ?_
      exact Tj.iret dX11_cube_16 rfl h
    · have h := h.2 c2
      refine Tj.aload_n dX11_cube_17 rfl rfl ?_
      refine Tj.getR (b := 1) dX11_cube_18 fl_X11_10 sh_0 rfl rfl ?_
      refine Tj.getR (b := 2) dX11_cube_21 fl_X11_87 sh_1 rfl rfl ?_
      refine Tj.iload_n dX11_cube_24 rfl rfl ?_
      refine Tj.callVi (as := [_]) (rest := []) dX11_cube_25 ln_X11_104 sh_2 (by decide) rfl rfl (Nat.le_of_ble_eq_true rfl) ⟨Nat.le_of_ble_eq_true rfl, Nat.le_of_ble_eq_true rfl⟩ (Nat.le_of_ble_eq_true rfl) rfl ?_
      refine Cli.mono h (fun r3 m3 h => ?_)
      refine Tj.if_eq dX11_cube_28 rfl rfl (fun c3 => ?_) (fun c3 => ?_)
      · have h := h.1 c3
        refine Tj.iload_n dX11_cube_34 rfl rfl ?_
        refine Tj.iconst dX11_cube_35 (by decide) rfl ?_
        refine Tj.callSi (as := [_, _]) (rest := []) dX11_cube_36 ln_X11_114 rfl rfl (Nat.le_of_ble_eq_true rfl) ⟨Nat.le_of_ble_eq_true rfl, Nat.le_of_ble_eq_true rfl⟩ (Nat.le_of_ble_eq_true rfl) rfl ?_
        refine Cli.mono h (fun r4 m4 h => ?_)
        refine Tj.if_ne dX11_cube_39 rfl rfl (fun c4 => ?_) (fun c4 => ?_)
        · have h := h.1 c4
          refine Tj.bipush dX11_cube_42 (by decide) (by decide +kernel) rfl ?_
          exact Tj.iret dX11_cube_44 rfl h
        · have h := h.2 c4
          refine Tj.aload_n dX11_cube_45 rfl rfl ?_
          refine Tj.getR (b := 10) dX11_cube_46 fl_X11_19 sh_0 rfl rfl ?_
          refine Tj.aload_n dX11_cube_49 rfl rfl ?_
          refine Tj.getR (b := 1) dX11_cube_50 fl_X11_10 sh_0 rfl rfl ?_
          refine Tj.callVv (as := [_]) (rest := []) dX11_cube_53 ln_X11_83 sh_10 (by decide) rfl rfl (Nat.le_of_ble_eq_true rfl) ⟨Nat.le_of_ble_eq_true rfl, Nat.le_of_ble_eq_true rfl⟩ (Nat.le_of_ble_eq_true rfl) rfl ?_
          refine Clv.mono h (fun m5 h => ?_)
          refine Tj.aload_n dX11_cube_56 rfl rfl ?_
          refine Tj.getR (b := 1) dX11_cube_57 fl_X11_10 sh_0 rfl rfl ?_
          refine Tj.getR (b := 2) dX11_cube_60 fl_X11_87 sh_1 rfl rfl ?_
          refine Tj.iload_n dX11_cube_63 rfl rfl ?_
          refine Tj.callVi (as := [_]) (rest := []) dX11_cube_64 ln_X11_118 sh_2 (by decide) rfl rfl (Nat.le_of_ble_eq_true rfl) ⟨Nat.le_of_ble_eq_true rfl, Nat.le_of_ble_eq_true rfl⟩ (Nat.le_of_ble_eq_true rfl) rfl ?_
          refine Cli.mono h (fun r5 m6 h => ?_)
          refine Tj.istore dX11_cube_67 (Nat.le_of_ble_eq_true rfl) rfl rfl ?_
          refine Tj.iconst dX11_cube_69 (by decide) rfl ?_
          refine Tj.iload_n dX11_cube_70 rfl rfl ?_
          refine Tj.ishl dX11_cube_71 rfl ?_
          refine Tj.istore dX11_cube_72 (Nat.le_of_ble_eq_true rfl) rfl rfl ?_
          refine Tj.aload_n dX11_cube_74 rfl rfl ?_
          refine Tj.getR (b := 1) dX11_cube_75 fl_X11_10 sh_0 rfl rfl ?_
          refine Tj.getR (b := 2) dX11_cube_78 fl_X11_87 sh_1 rfl rfl ?_
          refine Tj.iload_n dX11_cube_81 rfl rfl ?_
          refine Tj.iload_n dX11_cube_82 rfl rfl ?_
          refine Tj.iconst dX11_cube_83 (by decide) rfl ?_
          have hj : Tj mX11_cube 102 [some (rV 0), none, none, none, some (iV r5), some (iV (bShl 1 x2))] [iV (if x3 = 1 then (bOr r5 (bShl 1 x2)) else (bAnd r5 (bXor (bShl 1 x2) (-1)))), iV x1, rV 2] m6 P := by
            generalize hv1 : ((if x3 = 1 then (bOr r5 (bShl 1 x2)) else (bAnd r5 (bXor (bShl 1 x2) (-1)))) : Int) = v1
            have h := h v1 hv1.symm
            refine Tj.callVv (as := [_, _]) (rest := []) dX11_cube_102 ln_X11_91 sh_2 (by decide) rfl rfl (Nat.le_of_ble_eq_true rfl) ⟨Nat.le_of_ble_eq_true rfl, Nat.le_of_ble_eq_true rfl⟩ (Nat.le_of_ble_eq_true rfl) rfl ?_
            refine Clv.mono h (fun m7 h => ?_)
            refine Tj.aload_n dX11_cube_105 rfl rfl ?_
            refine Tj.callVv (as := []) (rest := []) dX11_cube_106 ln_X11_97 sh_0 (by decide) rfl rfl (Nat.le_of_ble_eq_true rfl) ⟨Nat.le_of_ble_eq_true rfl, Nat.le_of_ble_eq_true rfl⟩ (Nat.le_of_ble_eq_true rfl) rfl ?_
            refine Clv.mono h (fun m8 h => ?_)
            refine Tj.iload dX11_cube_109 rfl rfl ?_
            refine Tj.iload dX11_cube_111 rfl rfl ?_
            refine Tj.iand dX11_cube_113 rfl ?_
            have hj : Tj mX11_cube 122 [] [iV (if (bAnd r5 (bShl 1 x2)) = 0 then 0 else 1)] m8 P := by
              generalize hv2 : ((if (bAnd r5 (bShl 1 x2)) = 0 then 0 else 1) : Int) = v2
              have h := h v2 hv2.symm
              exact Tj.iret dX11_cube_122 rfl h
            refine Tj.if_eq dX11_cube_114 rfl rfl (fun c6 => ?_) (fun c6 => ?_)
            · refine Tj.iconst dX11_cube_121 (by decide) rfl ?_
              try simp only [if_pos c6] at hj ⊢
              exact Tj.cut hj trivial
            · refine Tj.iconst dX11_cube_117 (by decide) rfl ?_
              refine Tj.goto dX11_cube_118 rfl ?_
              try simp only [if_neg c6] at hj ⊢
              exact Tj.cut hj trivial
          refine Tj.icmp_ne dX11_cube_84 rfl rfl (fun c5 => ?_) (fun c5 => ?_)
          · refine Tj.iload dX11_cube_87 rfl rfl ?_
            refine Tj.iload dX11_cube_89 rfl rfl ?_
            refine Tj.ior dX11_cube_91 rfl ?_
            refine Tj.goto dX11_cube_92 rfl ?_
            try simp only [if_pos c5] at hj ⊢
            exact Tj.cut hj ⟨rfl, ⟨rfl, ⟨rfl, trivial⟩⟩⟩
          · refine Tj.iload dX11_cube_95 rfl rfl ?_
            refine Tj.iload dX11_cube_97 rfl rfl ?_
            refine Tj.iconst dX11_cube_99 (by decide) rfl ?_
            refine Tj.ixor dX11_cube_100 rfl ?_
            refine Tj.iand dX11_cube_101 rfl ?_
            try simp only [if_neg c5] at hj ⊢
            exact Tj.cut hj ⟨rfl, ⟨rfl, ⟨rfl, trivial⟩⟩⟩
      · have h := h.2 c3
        refine Tj.bipush dX11_cube_31 (by decide) (by decide +kernel) rfl ?_
        exact Tj.iret dX11_cube_33 rfl h

theorem wX11_copy_0 {m : tM} {P : Option tV → tM → Prop} {x1 : Int} {x2 : Int} {x3 : Int} {x4 : Int} {x5 : Int}  (h : Cli mX11_isLayer [iV x1] m (fun r1 m1 => ((r1 = 0 → (P (some (iV (-3))) m1)) ∧ (¬ r1 = 0 → (Cli mX11_isLayer [iV x3] m1 (fun r2 m2 => ((r2 = 0 → (P (some (iV (-3))) m2)) ∧ (¬ r2 = 0 → (Cli mX1_misses [rV 2, iV x1] m2 (fun r3 m3 => ((r3 = 0 → (Cli mX1_misses [rV 2, iV x3] m3 (fun r4 m4 => ((r4 = 0 → (Cli mX11_arePlaces [iV x2, iV x5] m4 (fun r5 m5 => ((r5 = 0 → (P (some (iV (-13))) m5)) ∧ (¬ r5 = 0 → (Cli mX11_arePlaces [iV x4, iV x5] m5 (fun r6 m6 => ((r6 = 0 → (P (some (iV (-13))) m6)) ∧ (¬ r6 = 0 → (Clv mX7_keep [rV 10, rV 1] m6 (fun m7 => ((R32 ((bShl 1 x5) - 1)) ∧ (Cli mX1_bitsOf [rV 2, iV x1] m7 (fun r7 m8 => (Cli mX1_bitsOf [rV 2, iV x3] m8 (fun r8 m9 => (∀ v1 : Int, v1 = (bOr (bAnd r8 (bXor (bShl ((bShl 1 x5) - 1) x4) (-1))) (bShl (bAnd (bShr r7 x2) ((bShl 1 x5) - 1)) x4)) → (Clv mX1_put [rV 2, iV x3, iV v1] m9 (fun m10 => (Clv mX11_bodyHasChanged [rV 0] m10 (fun m11 => (P (some (iV x5)) m11)))))))))))))))))))))) ∧ (¬ r4 = 0 → (P (some (iV (-11))) m4)))))) ∧ (¬ r3 = 0 → (P (some (iV (-11))) m3))))))))))))) : Tj mX11_copy 0 [some (rV 0), some (iV x1), some (iV x2), some (iV x3), some (iV x4), some (iV x5)] [] m P := by
  refine Tj.iload_n dX11_copy_0 rfl rfl ?_
  refine Tj.callSi (as := [_]) (rest := []) dX11_copy_1 ln_X11_79 rfl rfl (Nat.le_of_ble_eq_true rfl) ⟨Nat.le_of_ble_eq_true rfl, Nat.le_of_ble_eq_true rfl⟩ (Nat.le_of_ble_eq_true rfl) rfl ?_
  refine Cli.mono h (fun r1 m1 h => ?_)
  refine Tj.if_eq dX11_copy_4 rfl rfl (fun c1 => ?_) (fun c1 => ?_)
  · have h := h.1 c1
    refine Tj.bipush dX11_copy_14 (by decide) (by decide +kernel) rfl ?_
    exact Tj.iret dX11_copy_16 rfl h
  · have h := h.2 c1
    refine Tj.iload_n dX11_copy_7 rfl rfl ?_
    refine Tj.callSi (as := [_]) (rest := []) dX11_copy_8 ln_X11_79 rfl rfl (Nat.le_of_ble_eq_true rfl) ⟨Nat.le_of_ble_eq_true rfl, Nat.le_of_ble_eq_true rfl⟩ (Nat.le_of_ble_eq_true rfl) rfl ?_
    refine Cli.mono h (fun r2 m2 h => ?_)
    refine Tj.if_ne dX11_copy_11 rfl rfl (fun c2 => ?_) (fun c2 => ?_)
    · have h := h.1 c2
      refine Tj.bipush dX11_copy_14 (by decide) (by decide +kernel) rfl ?_
      exact Tj.iret dX11_copy_16 rfl h
    · have h := h.2 c2
      refine Tj.aload_n dX11_copy_17 rfl rfl ?_
      refine Tj.getR (b := 1) dX11_copy_18 fl_X11_10 sh_0 rfl rfl ?_
      refine Tj.getR (b := 2) dX11_copy_21 fl_X11_87 sh_1 rfl rfl ?_
      refine Tj.iload_n dX11_copy_24 rfl rfl ?_
      refine Tj.callVi (as := [_]) (rest := []) dX11_copy_25 ln_X11_104 sh_2 (by decide) rfl rfl (Nat.le_of_ble_eq_true rfl) ⟨Nat.le_of_ble_eq_true rfl, Nat.le_of_ble_eq_true rfl⟩ (Nat.le_of_ble_eq_true rfl) rfl ?_
      refine Cli.mono h (fun r3 m3 h => ?_)
      refine Tj.if_ne dX11_copy_28 rfl rfl (fun c3 => ?_) (fun c3 => ?_)
      · have h := h.1 c3
        refine Tj.aload_n dX11_copy_31 rfl rfl ?_
        refine Tj.getR (b := 1) dX11_copy_32 fl_X11_10 sh_0 rfl rfl ?_
        refine Tj.getR (b := 2) dX11_copy_35 fl_X11_87 sh_1 rfl rfl ?_
        refine Tj.iload_n dX11_copy_38 rfl rfl ?_
        refine Tj.callVi (as := [_]) (rest := []) dX11_copy_39 ln_X11_104 sh_2 (by decide) rfl rfl (Nat.le_of_ble_eq_true rfl) ⟨Nat.le_of_ble_eq_true rfl, Nat.le_of_ble_eq_true rfl⟩ (Nat.le_of_ble_eq_true rfl) rfl ?_
        refine Cli.mono h (fun r4 m4 h => ?_)
        refine Tj.if_eq dX11_copy_42 rfl rfl (fun c4 => ?_) (fun c4 => ?_)
        · have h := h.1 c4
          refine Tj.iload_n dX11_copy_48 rfl rfl ?_
          refine Tj.iload dX11_copy_49 rfl rfl ?_
          refine Tj.callSi (as := [_, _]) (rest := []) dX11_copy_51 ln_X11_114 rfl rfl (Nat.le_of_ble_eq_true rfl) ⟨Nat.le_of_ble_eq_true rfl, Nat.le_of_ble_eq_true rfl⟩ (Nat.le_of_ble_eq_true rfl) rfl ?_
          refine Cli.mono h (fun r5 m5 h => ?_)
          refine Tj.if_eq dX11_copy_54 rfl rfl (fun c5 => ?_) (fun c5 => ?_)
          · have h := h.1 c5
            refine Tj.bipush dX11_copy_67 (by decide) (by decide +kernel) rfl ?_
            exact Tj.iret dX11_copy_69 rfl h
          · have h := h.2 c5
            refine Tj.iload dX11_copy_57 rfl rfl ?_
            refine Tj.iload dX11_copy_59 rfl rfl ?_
            refine Tj.callSi (as := [_, _]) (rest := []) dX11_copy_61 ln_X11_114 rfl rfl (Nat.le_of_ble_eq_true rfl) ⟨Nat.le_of_ble_eq_true rfl, Nat.le_of_ble_eq_true rfl⟩ (Nat.le_of_ble_eq_true rfl) rfl ?_
            refine Cli.mono h (fun r6 m6 h => ?_)
            refine Tj.if_ne dX11_copy_64 rfl rfl (fun c6 => ?_) (fun c6 => ?_)
            · have h := h.1 c6
              refine Tj.bipush dX11_copy_67 (by decide) (by decide +kernel) rfl ?_
              exact Tj.iret dX11_copy_69 rfl h
            · have h := h.2 c6
              refine Tj.aload_n dX11_copy_70 rfl rfl ?_
              refine Tj.getR (b := 10) dX11_copy_71 fl_X11_19 sh_0 rfl rfl ?_
              refine Tj.aload_n dX11_copy_74 rfl rfl ?_
              refine Tj.getR (b := 1) dX11_copy_75 fl_X11_10 sh_0 rfl rfl ?_
              refine Tj.callVv (as := [_]) (rest := []) dX11_copy_78 ln_X11_83 sh_10 (by decide) rfl rfl (Nat.le_of_ble_eq_true rfl) ⟨Nat.le_of_ble_eq_true rfl, Nat.le_of_ble_eq_true rfl⟩ (Nat.le_of_ble_eq_true rfl) rfl ?_
              refine Clv.mono h (fun m7 h => ?_)
              obtain ⟨o1, h⟩ := h
              refine Tj.iconst dX11_copy_81 (by decide) rfl ?_
              refine Tj.iload dX11_copy_82 rfl rfl ?_
              refine Tj.ishl dX11_copy_84 rfl ?_
              refine Tj.iconst dX11_copy_85 (by decide) rfl ?_
              refine Tj.isub dX11_copy_86 o1 rfl ?_
              refine Tj.istore dX11_copy_87 (Nat.le_of_ble_eq_true rfl) rfl rfl ?_
              refine Tj.aload_n dX11_copy_89 rfl rfl ?_
              refine Tj.getR (b := 1) dX11_copy_90 fl_X11_10 sh_0 rfl rfl ?_
              refine Tj.getR (b := 2) dX11_copy_93 fl_X11_87 sh_1 rfl rfl ?_
              refine Tj.iload_n dX11_copy_96 rfl rfl ?_
              refine Tj.callVi (as := [_]) (rest := []) dX11_copy_97 ln_X11_118 sh_2 (by decide) rfl rfl (Nat.le_of_ble_eq_true rfl) ⟨Nat.le_of_ble_eq_true rfl, Nat.le_of_ble_eq_true rfl⟩ (Nat.le_of_ble_eq_true rfl) rfl ?_
              refine Cli.mono h (fun r7 m8 h => ?_)
              refine Tj.iload_n dX11_copy_100 rfl rfl ?_
              refine Tj.ishr dX11_copy_101 rfl ?_
              refine Tj.iload dX11_copy_102 rfl rfl ?_
              refine Tj.iand dX11_copy_104 rfl ?_
              refine Tj.istore dX11_copy_105 (Nat.le_of_ble_eq_true rfl) rfl rfl ?_
              refine Tj.aload_n dX11_copy_107 rfl rfl ?_
              refine Tj.getR (b := 1) dX11_copy_108 fl_X11_10 sh_0 rfl rfl ?_
              refine Tj.getR (b := 2) dX11_copy_111 fl_X11_87 sh_1 rfl rfl ?_
              refine Tj.iload_n dX11_copy_114 rfl rfl ?_
              refine Tj.aload_n dX11_copy_115 rfl rfl ?_
              refine Tj.getR (b := 1) dX11_copy_116 fl_X11_10 sh_0 rfl rfl ?_
              refine Tj.getR (b := 2) dX11_copy_119 fl_X11_87 sh_1 rfl rfl ?_
              refine Tj.iload_n dX11_copy_122 rfl rfl ?_
              refine Tj.callVi (as := [_]) (rest := [_, _]) dX11_copy_123 ln_X11_118 sh_2 (by decide) rfl rfl (Nat.le_of_ble_eq_true rfl) ⟨Nat.le_of_ble_eq_true rfl, Nat.le_of_ble_eq_true rfl⟩ (Nat.le_of_ble_eq_true rfl) rfl ?_
              refine Cli.mono h (fun r8 m9 h => ?_)
              refine Tj.iload dX11_copy_126 rfl rfl ?_
              refine Tj.iload dX11_copy_128 rfl rfl ?_
              refine Tj.ishl dX11_copy_130 rfl ?_
              refine Tj.iconst dX11_copy_131 (by decide) rfl ?_
              refine Tj.ixor dX11_copy_132 rfl ?_
              refine Tj.iand dX11_copy_133 rfl ?_
              refine Tj.iload dX11_copy_134 rfl rfl ?_
              refine Tj.iload dX11_copy_136 rfl rfl ?_
              refine Tj.ishl dX11_copy_138 rfl ?_
              refine Tj.ior dX11_copy_139 rfl ?_
              show Tj mX11_copy 140 [some (rV 0), some (iV x1), some (iV x2), some (iV x3), some (iV x4), some (iV x5), some (iV ((bShl 1 x5) - 1)), some (iV (bAnd (bShr r7 x2) ((bShl 1 x5) - 1)))] [iV (bOr (bAnd r8 (bXor (bShl ((bShl 1 x5) - 1) x4) (-1))) (bShl (bAnd (bShr r7 x2) ((bShl 1 x5) - 1)) x4)), iV x3, rV 2] m9 P
              generalize hv1 : ((bOr (bAnd r8 (bXor (bShl ((bShl 1 x5) - 1) x4) (-1))) (bShl (bAnd (bShr r7 x2) ((bShl 1 x5) - 1)) x4)) : Int) = v1
              have h := h v1 hv1.symm
              refine Tj.callVv (as := [_, _]) (rest := []) dX11_copy_140 ln_X11_91 sh_2 (by decide) rfl rfl (Nat.le_of_ble_eq_true rfl) ⟨Nat.le_of_ble_eq_true rfl, Nat.le_of_ble_eq_true rfl⟩ (Nat.le_of_ble_eq_true rfl) rfl ?_
              refine Clv.mono h (fun m10 h => ?_)
              refine Tj.aload_n dX11_copy_143 rfl rfl ?_
              refine Tj.callVv (as := []) (rest := []) dX11_copy_144 ln_X11_97 sh_0 (by decide) rfl rfl (Nat.le_of_ble_eq_true rfl) ⟨Nat.le_of_ble_eq_true rfl, Nat.le_of_ble_eq_true rfl⟩ (Nat.le_of_ble_eq_true rfl) rfl ?_
              refine Clv.mono h (fun m11 h => ?_)
              refine Tj.iload dX11_copy_147 rfl rfl ?_
              exact Tj.iret dX11_copy_149 rfl h
        · have h := h.2 c4
          refine Tj.bipush dX11_copy_45 (by decide) (by decide +kernel) rfl ?_
          exact Tj.iret dX11_copy_47 rfl h
      · have h := h.2 c3
        refine Tj.bipush dX11_copy_45 (by decide) (by decide +kernel) rfl ?_
        exact Tj.iret dX11_copy_47 rfl h

theorem wX11_box_0 {m : tM} {P : Option tV → tM → Prop} {x1 : Int} {x2 : Int} {x3 : Int}  (h : Cli mX11_isLength [iV x1] m (fun r1 m1 => ((r1 = 0 → (P (some (iV (-3))) m1)) ∧ (¬ r1 = 0 → (Cli mX11_isLength [iV x2] m1 (fun r2 m2 => ((r2 = 0 → (P (some (iV (-3))) m2)) ∧ (¬ r2 = 0 → (Cli mX11_isLength [iV x3] m2 (fun r3 m3 => ((r3 = 0 → (P (some (iV (-3))) m3)) ∧ (¬ r3 = 0 → (Clv mX7_keep [rV 10, rV 1] m3 (fun m4 => (Tj mX11_box 41 [some (rV 0), some (iV x1), some (iV x2), some (iV x3), some (iV 0), some (iV 0)] [] m4 P))))))))))))))) : Tj mX11_box 0 [some (rV 0), some (iV x1), some (iV x2), some (iV x3)] [] m P := by
  refine Tj.iload_n dX11_box_0 rfl rfl ?_
  refine Tj.callSi (as := [_]) (rest := []) dX11_box_1 ln_X11_121 rfl rfl (Nat.le_of_ble_eq_true rfl) ⟨Nat.le_of_ble_eq_true rfl, Nat.le_of_ble_eq_true rfl⟩ (Nat.le_of_ble_eq_true rfl) rfl ?_
  refine Cli.mono h (fun r1 m1 h => ?_)
  refine Tj.if_eq dX11_box_4 rfl rfl (fun c1 => ?_) (fun c1 => ?_)
  · have h := h.1 c1
    refine Tj.bipush dX11_box_21 (by decide) (by decide +kernel) rfl ?_
    exact Tj.iret dX11_box_23 rfl h
  · have h := h.2 c1
    refine Tj.iload_n dX11_box_7 rfl rfl ?_
    refine Tj.callSi (as := [_]) (rest := []) dX11_box_8 ln_X11_121 rfl rfl (Nat.le_of_ble_eq_true rfl) ⟨Nat.le_of_ble_eq_true rfl, Nat.le_of_ble_eq_true rfl⟩ (Nat.le_of_ble_eq_true rfl) rfl ?_
    refine Cli.mono h (fun r2 m2 h => ?_)
    refine Tj.if_eq dX11_box_11 rfl rfl (fun c2 => ?_) (fun c2 => ?_)
    · have h := h.1 c2
      refine Tj.bipush dX11_box_21 (by decide) (by decide +kernel) rfl ?_
      exact Tj.iret dX11_box_23 rfl h
    · have h := h.2 c2
      refine Tj.iload_n dX11_box_14 rfl rfl ?_
      refine Tj.callSi (as := [_]) (rest := []) dX11_box_15 ln_X11_121 rfl rfl (Nat.le_of_ble_eq_true rfl) ⟨Nat.le_of_ble_eq_true rfl, Nat.le_of_ble_eq_true rfl⟩ (Nat.le_of_ble_eq_true rfl) rfl ?_
      refine Cli.mono h (fun r3 m3 h => ?_)
      refine Tj.if_ne dX11_box_18 rfl rfl (fun c3 => ?_) (fun c3 => ?_)
      · have h := h.1 c3
        refine Tj.bipush dX11_box_21 (by decide) (by decide +kernel) rfl ?_
        exact Tj.iret dX11_box_23 rfl h
      · have h := h.2 c3
        refine Tj.aload_n dX11_box_24 rfl rfl ?_
        refine Tj.getR (b := 10) dX11_box_25 fl_X11_19 sh_0 rfl rfl ?_
        refine Tj.aload_n dX11_box_28 rfl rfl ?_
        refine Tj.getR (b := 1) dX11_box_29 fl_X11_10 sh_0 rfl rfl ?_
        refine Tj.callVv (as := [_]) (rest := []) dX11_box_32 ln_X11_83 sh_10 (by decide) rfl rfl (Nat.le_of_ble_eq_true rfl) ⟨Nat.le_of_ble_eq_true rfl, Nat.le_of_ble_eq_true rfl⟩ (Nat.le_of_ble_eq_true rfl) rfl ?_
        refine Clv.mono h (fun m4 h => ?_)
        refine Tj.iconst dX11_box_35 (by decide) rfl ?_
        refine Tj.istore dX11_box_36 (Nat.le_of_ble_eq_true rfl) rfl rfl ?_
        refine Tj.iconst dX11_box_38 (by decide) rfl ?_
        refine Tj.istore dX11_box_39 (Nat.le_of_ble_eq_true rfl) rfl rfl ?_
        exact Tj.cut h ⟨rfl, ⟨rfl, ⟨rfl, ⟨rfl, ⟨rfl, ⟨rfl, trivial⟩⟩⟩⟩⟩⟩

theorem wX11_box_41 {m : tM} {P : Option tV → tM → Prop} {x1 : Int} {x2 : Int} {x3 : Int} {x4 : Int} {x5 : Int}  (h : (x5 < x2 → ((R32 ((bShl 1 x1) - 1) ∧ R32 (4 * x5) ∧ R32 (x5 + 1)) ∧ (Tj mX11_box 41 [some (rV 0), some (iV x1), some (iV x2), some (iV x3), some (iV (bOr x4 (bShl ((bShl 1 x1) - 1) (4 * x5)))), some (iV (x5 + 1))] [] m P))) ∧ (¬ x5 < x2 → (Tj mX11_box 71 [some (rV 0), some (iV x1), some (iV x2), some (iV x3), some (iV x4), some (iV 0)] [] m P))) : Tj mX11_box 41 [some (rV 0), some (iV x1), some (iV x2), some (iV x3), some (iV x4), some (iV x5)] [] m P := by
  refine Tj.iload dX11_box_41 rfl rfl ?_
  refine Tj.iload_n dX11_box_43 rfl rfl ?_
  refine Tj.icmp_ge dX11_box_44 rfl rfl (fun c1 => ?_) (fun c1 => ?_)
  · have h := h.1 c1
    obtain ⟨⟨o1, o2, o3⟩, h⟩ := h
    refine Tj.iload dX11_box_47 rfl rfl ?_
    refine Tj.iconst dX11_box_49 (by decide) rfl ?_
    refine Tj.iload_n dX11_box_50 rfl rfl ?_
    refine Tj.ishl dX11_box_51 rfl ?_
    refine Tj.iconst dX11_box_52 (by decide) rfl ?_
    refine Tj.isub dX11_box_53 o1 rfl ?_
    refine Tj.iconst dX11_box_54 (by decide) rfl ?_
    refine Tj.iload dX11_box_55 rfl rfl ?_
    refine Tj.imul dX11_box_57 o2 rfl ?_
    refine Tj.ishl dX11_box_58 rfl ?_
    refine Tj.ior dX11_box_59 rfl ?_
    refine Tj.istore dX11_box_60 (Nat.le_of_ble_eq_true rfl) rfl rfl ?_
    refine Tj.iinc dX11_box_62 rfl (Nat.le_of_ble_eq_true rfl) rfl o3 rfl ?_
    refine Tj.goto dX11_box_65 rfl ?_
    exact Tj.cut h ⟨rfl, ⟨rfl, ⟨rfl, ⟨rfl, ⟨rfl, ⟨rfl, trivial⟩⟩⟩⟩⟩⟩
  · have h := h.2 c1
    refine Tj.iconst dX11_box_68 (by decide) rfl ?_
    refine Tj.istore dX11_box_69 (Nat.le_of_ble_eq_true rfl) rfl rfl ?_
    exact Tj.cut h ⟨rfl, ⟨rfl, ⟨rfl, ⟨rfl, ⟨rfl, ⟨rfl, trivial⟩⟩⟩⟩⟩⟩

theorem wX11_box_71 {m : tM} {P : Option tV → tM → Prop} {x1 : Int} {x2 : Int} {x3 : Int} {x4 : Int} {x5 : Int}  (h : (x5 < 4 → ((x5 < x3 → (Clv mX1_put [rV 2, iV x5, iV x4] m (fun m1 => ((R32 (x5 + 1)) ∧ (Tj mX11_box 71 [some (rV 0), some (iV x1), some (iV x2), some (iV x3), some (iV x4), some (iV (x5 + 1))] [] m1 P))))) ∧ (¬ x5 < x3 → (Clv mX1_take [rV 2, iV x5] m (fun m2 => ((R32 (x5 + 1)) ∧ (Tj mX11_box 71 [some (rV 0), some (iV x1), some (iV x2), some (iV x3), some (iV x4), some (iV (x5 + 1))] [] m2 P))))))) ∧ (¬ x5 < 4 → (Clv mX11_bodyHasChanged [rV 0] m (fun m3 => ((R32 (x1 * x2) ∧ R32 ((x1 * x2) * x3)) ∧ (P (some (iV ((x1 * x2) * x3))) m3)))))) : Tj mX11_box 71 [some (rV 0), some (iV x1), some (iV x2), some (iV x3), some (iV x4), some (iV x5)] [] m P := by
  refine Tj.iload dX11_box_71 rfl rfl ?_
  refine Tj.iconst dX11_box_73 (by decide) rfl ?_
  refine Tj.icmp_ge dX11_box_74 rfl rfl (fun c1 => ?_) (fun c1 => ?_)
  · have h := h.1 c1
    refine Tj.iload dX11_box_77 rfl rfl ?_
    refine Tj.iload_n dX11_box_79 rfl rfl ?_
    refine Tj.icmp_ge dX11_box_80 rfl rfl (fun c2 => ?_) (fun c2 => ?_)
    · have h := h.1 c2
      refine Tj.aload_n dX11_box_83 rfl rfl ?_
      refine Tj.getR (b := 1) dX11_box_84 fl_X11_10 sh_0 rfl rfl ?_
      refine Tj.getR (b := 2) dX11_box_87 fl_X11_87 sh_1 rfl rfl ?_
      refine Tj.iload dX11_box_90 rfl rfl ?_
      refine Tj.iload dX11_box_92 rfl rfl ?_
      refine Tj.callVv (as := [_, _]) (rest := []) dX11_box_94 ln_X11_91 sh_2 (by decide) rfl rfl (Nat.le_of_ble_eq_true rfl) ⟨Nat.le_of_ble_eq_true rfl, Nat.le_of_ble_eq_true rfl⟩ (Nat.le_of_ble_eq_true rfl) rfl ?_
      refine Clv.mono h (fun m1 h => ?_)
      obtain ⟨o1, h⟩ := h
      refine Tj.goto dX11_box_97 rfl ?_
      refine Tj.iinc dX11_box_112 rfl (Nat.le_of_ble_eq_true rfl) rfl o1 rfl ?_
      refine Tj.goto dX11_box_115 rfl ?_
      exact Tj.cut h ⟨rfl, ⟨rfl, ⟨rfl, ⟨rfl, ⟨rfl, ⟨rfl, trivial⟩⟩⟩⟩⟩⟩
    · have h := h.2 c2
      refine Tj.aload_n dX11_box_100 rfl rfl ?_
      refine Tj.getR (b := 1) dX11_box_101 fl_X11_10 sh_0 rfl rfl ?_
      refine Tj.getR (b := 2) dX11_box_104 fl_X11_87 sh_1 rfl rfl ?_
      refine Tj.iload dX11_box_107 rfl rfl ?_
      refine Tj.callVv (as := [_]) (rest := []) dX11_box_109 ln_X11_107 sh_2 (by decide) rfl rfl (Nat.le_of_ble_eq_true rfl) ⟨Nat.le_of_ble_eq_true rfl, Nat.le_of_ble_eq_true rfl⟩ (Nat.le_of_ble_eq_true rfl) rfl ?_
      refine Clv.mono h (fun m2 h => ?_)
      obtain ⟨o2, h⟩ := h
      refine Tj.iinc dX11_box_112 rfl (Nat.le_of_ble_eq_true rfl) rfl o2 rfl ?_
      refine Tj.goto dX11_box_115 rfl ?_
      exact Tj.cut h ⟨rfl, ⟨rfl, ⟨rfl, ⟨rfl, ⟨rfl, ⟨rfl, trivial⟩⟩⟩⟩⟩⟩
  · have h := h.2 c1
    refine Tj.aload_n dX11_box_118 rfl rfl ?_
    refine Tj.callVv (as := []) (rest := []) dX11_box_119 ln_X11_97 sh_0 (by decide) rfl rfl (Nat.le_of_ble_eq_true rfl) ⟨Nat.le_of_ble_eq_true rfl, Nat.le_of_ble_eq_true rfl⟩ (Nat.le_of_ble_eq_true rfl) rfl ?_
    refine Clv.mono h (fun m3 h => ?_)
    obtain ⟨⟨o3, o4⟩, h⟩ := h
    refine Tj.iload_n dX11_box_122 rfl rfl ?_
    refine Tj.iload_n dX11_box_123 rfl rfl ?_
    refine Tj.imul dX11_box_124 o3 rfl ?_
    refine Tj.iload_n dX11_box_125 rfl rfl ?_
    refine Tj.imul dX11_box_126 o4 rfl ?_
    exact Tj.iret dX11_box_127 rfl h

theorem wX11_well_0 {m : tM} {P : Option tV → tM → Prop}   (h : Cli mX9_fault [rV 109] m (fun r1 m1 => (P (some (iV r1)) m1))) : Tj mX11_well 0 [some (rV 0)] [] m P := by
  refine Tj.aload_n dX11_well_0 rfl rfl ?_
  refine Tj.getR (b := 109) dX11_well_1 fl_X11_33 sh_0 rfl rfl ?_
  refine Tj.callVi (as := []) (rest := []) dX11_well_4 ln_X11_124 sh_109 (by decide) rfl rfl (Nat.le_of_ble_eq_true rfl) ⟨Nat.le_of_ble_eq_true rfl, Nat.le_of_ble_eq_true rfl⟩ (Nat.le_of_ble_eq_true rfl) rfl ?_
  refine Cli.mono h (fun r1 m1 h => ?_)
  exact Tj.iret dX11_well_7 rfl h

theorem wX11_skin_0 {m : tM} {P : Option tV → tM → Prop}   (h : Cli mX9_size [rV 109] m (fun r1 m1 => (P (some (iV r1)) m1))) : Tj mX11_skin 0 [some (rV 0)] [] m P := by
  refine Tj.aload_n dX11_skin_0 rfl rfl ?_
  refine Tj.getR (b := 109) dX11_skin_1 fl_X11_33 sh_0 rfl rfl ?_
  refine Tj.callVi (as := []) (rest := []) dX11_skin_4 ln_X11_128 sh_109 (by decide) rfl rfl (Nat.le_of_ble_eq_true rfl) ⟨Nat.le_of_ble_eq_true rfl, Nat.le_of_ble_eq_true rfl⟩ (Nat.le_of_ble_eq_true rfl) rfl ?_
  refine Cli.mono h (fun r1 m1 h => ?_)
  exact Tj.iret dX11_skin_7 rfl h

theorem wX11_square_0 {m : tM} {P : Option tV → tM → Prop} {x1 : Int} {x2 : Int}  (h : Cli mX9_size [rV 109] m (fun r1 m1 => (Cli mX11_isWithin [iV x1, iV r1] m1 (fun r2 m2 => ((r2 = 0 → (P (some (iV (-3))) m2)) ∧ (¬ r2 = 0 → (Cli mX11_isWithin [iV x2, iV 4] m2 (fun r3 m3 => ((r3 = 0 → (P (some (iV (-3))) m3)) ∧ (¬ r3 = 0 → ((x2 = 3 → (Cli mX9_directionOf [rV 109, iV x1] m3 (fun r4 m4 => (P (some (iV r4)) m4)))) ∧ (¬ x2 = 3 → (Cli mX9_placeOf [rV 109, iV x1] m3 (fun r5 m5 => (Cli mX1_coordinate [iV r5, iV x2] m5 (fun r6 m6 => (P (some (iV r6)) m6))))))))))))))))) : Tj mX11_square 0 [some (rV 0), some (iV x1), some (iV x2)] [] m P := by
  refine Tj.iload_n dX11_square_0 rfl rfl ?_
  refine Tj.aload_n dX11_square_1 rfl rfl ?_
  refine Tj.getR (b := 109) dX11_square_2 fl_X11_33 sh_0 rfl rfl ?_
  refine Tj.callVi (as := []) (rest := [_]) dX11_square_5 ln_X11_128 sh_109 (by decide) rfl rfl (Nat.le_of_ble_eq_true rfl) ⟨Nat.le_of_ble_eq_true rfl, Nat.le_of_ble_eq_true rfl⟩ (Nat.le_of_ble_eq_true rfl) rfl ?_
  refine Cli.mono h (fun r1 m1 h => ?_)
  refine Tj.callSi (as := [_, _]) (rest := []) dX11_square_8 ln_X11_131 rfl rfl (Nat.le_of_ble_eq_true rfl) ⟨Nat.le_of_ble_eq_true rfl, Nat.le_of_ble_eq_true rfl⟩ (Nat.le_of_ble_eq_true rfl) rfl ?_
  refine Cli.mono h (fun r2 m2 h => ?_)
  refine Tj.if_eq dX11_square_11 rfl rfl (fun c1 => ?_) (fun c1 => ?_)
  · have h := h.1 c1
    refine Tj.bipush dX11_square_22 (by decide) (by decide +kernel) rfl ?_
    exact Tj.iret dX11_square_24 rfl h
  · have h := h.2 c1
    refine Tj.iload_n dX11_square_14 rfl rfl ?_
    refine Tj.iconst dX11_square_15 (by decide) rfl ?_
    refine Tj.callSi (as := [_, _]) (rest := []) dX11_square_16 ln_X11_131 rfl rfl (Nat.le_of_ble_eq_true rfl) ⟨Nat.le_of_ble_eq_true rfl, Nat.le_of_ble_eq_true rfl⟩ (Nat.le_of_ble_eq_true rfl) rfl ?_
    refine Cli.mono h (fun r3 m3 h => ?_)
    refine Tj.if_ne dX11_square_19 rfl rfl (fun c2 => ?_) (fun c2 => ?_)
    · have h := h.1 c2
      refine Tj.bipush dX11_square_22 (by decide) (by decide +kernel) rfl ?_
      exact Tj.iret dX11_square_24 rfl h
    · have h := h.2 c2
      refine Tj.iload_n dX11_square_25 rfl rfl ?_
      refine Tj.iconst dX11_square_26 (by decide) rfl ?_
      refine Tj.icmp_ne dX11_square_27 rfl rfl (fun c3 => ?_) (fun c3 => ?_)
      · have h := h.1 c3
        refine Tj.aload_n dX11_square_30 rfl rfl ?_
        refine Tj.getR (b := 109) dX11_square_31 fl_X11_33 sh_0 rfl rfl ?_
        refine Tj.iload_n dX11_square_34 rfl rfl ?_
        refine Tj.callVi (as := [_]) (rest := []) dX11_square_35 ln_X11_134 sh_109 (by decide) rfl rfl (Nat.le_of_ble_eq_true rfl) ⟨Nat.le_of_ble_eq_true rfl, Nat.le_of_ble_eq_true rfl⟩ (Nat.le_of_ble_eq_true rfl) rfl ?_
        refine Cli.mono h (fun r4 m4 h => ?_)
        exact Tj.iret dX11_square_38 rfl h
      · have h := h.2 c3
        refine Tj.aload_n dX11_square_39 rfl rfl ?_
        refine Tj.getR (b := 109) dX11_square_40 fl_X11_33 sh_0 rfl rfl ?_
        refine Tj.iload_n dX11_square_43 rfl rfl ?_
        refine Tj.callVi (as := [_]) (rest := []) dX11_square_44 ln_X11_137 sh_109 (by decide) rfl rfl (Nat.le_of_ble_eq_true rfl) ⟨Nat.le_of_ble_eq_true rfl, Nat.le_of_ble_eq_true rfl⟩ (Nat.le_of_ble_eq_true rfl) rfl ?_
        refine Cli.mono h (fun r5 m5 h => ?_)
        refine Tj.iload_n dX11_square_47 rfl rfl ?_
        refine Tj.callSi (as := [_, _]) (rest := []) dX11_square_48 ln_X11_140 rfl rfl (Nat.le_of_ble_eq_true rfl) ⟨Nat.le_of_ble_eq_true rfl, Nat.le_of_ble_eq_true rfl⟩ (Nat.le_of_ble_eq_true rfl) rfl ?_
        refine Cli.mono h (fun r6 m6 h => ?_)
        exact Tj.iret dX11_square_51 rfl h

theorem wX11_across_0 {m : tM} {P : Option tV → tM → Prop} {x1 : Int} {x2 : Int} {x3 : Int}  (h : Cli mX9_size [rV 109] m (fun r1 m1 => (Cli mX11_isWithin [iV x1, iV r1] m1 (fun r2 m2 => ((r2 = 0 → (P (some (iV (-3))) m2)) ∧ (¬ r2 = 0 → (Cli mX11_isWithin [iV x2, iV 4] m2 (fun r3 m3 => ((r3 = 0 → (P (some (iV (-3))) m3)) ∧ (¬ r3 = 0 → (Cli mX11_isWithin [iV x3, iV 4] m3 (fun r4 m4 => ((r4 = 0 → (P (some (iV (-3))) m4)) ∧ (¬ r4 = 0 → (Cli mX9_fault [rV 109] m4 (fun r5 m5 => ((r5 = 0 → ((x3 = 0 → (Cli mX9_squareAcross [rV 109, iV x1, iV x2] m5 (fun r6 m6 => (P (some (iV r6)) m6)))) ∧ (x3 = 1 → (Cli mX9_sideAcross [rV 109, iV x1, iV x2] m5 (fun r7 m7 => (P (some (iV r7)) m7)))) ∧ (x3 = 2 → (Cli mX9_bendAcross [rV 109, iV x1, iV x2] m5 (fun r8 m8 => (Cli mX11_toldStep [iV r8] m8 (fun r9 m9 => (P (some (iV r9)) m9)))))) ∧ (¬ x3 = 0 → ¬ x3 = 1 → ¬ x3 = 2 → (Cli mX2_isCut [rV 4, iV x1, iV x2] m5 (fun r10 m10 => (∀ v1 : Int, v1 = (if r10 = 0 then 0 else 1) → (P (some (iV v1)) m10))))))) ∧ (¬ r5 = 0 → (P (some (iV (-4))) m5))))))))))))))))))) : Tj mX11_across 0 [some (rV 0), some (iV x1), some (iV x2), some (iV x3)] [] m P := by
  refine Tj.iload_n dX11_across_0 rfl rfl ?_
  refine Tj.aload_n dX11_across_1 rfl rfl ?_
  refine Tj.getR (b := 109) dX11_across_2 fl_X11_33 sh_0 rfl rfl ?_
  refine Tj.callVi (as := []) (rest := [_]) dX11_across_5 ln_X11_128 sh_109 (by decide) rfl rfl (Nat.le_of_ble_eq_true rfl) ⟨Nat.le_of_ble_eq_true rfl, Nat.le_of_ble_eq_true rfl⟩ (Nat.le_of_ble_eq_true rfl) rfl ?_
  refine Cli.mono h (fun r1 m1 h => ?_)
  refine Tj.callSi (as := [_, _]) (rest := []) dX11_across_8 ln_X11_131 rfl rfl (Nat.le_of_ble_eq_true rfl) ⟨Nat.le_of_ble_eq_true rfl, Nat.le_of_ble_eq_true rfl⟩ (Nat.le_of_ble_eq_true rfl) rfl ?_
  refine Cli.mono h (fun r2 m2 h => ?_)
  refine Tj.if_eq dX11_across_11 rfl rfl (fun c1 => ?_) (fun c1 => ?_)
  · have h := h.1 c1
    refine Tj.bipush dX11_across_30 (by decide) (by decide +kernel) rfl ?_
    exact Tj.iret dX11_across_32 rfl h
  · have h := h.2 c1
    refine Tj.iload_n dX11_across_14 rfl rfl ?_
    refine Tj.iconst dX11_across_15 (by decide) rfl ?_
    refine Tj.callSi (as := [_, _]) (rest := []) dX11_across_16 ln_X11_131 rfl rfl (Nat.le_of_ble_eq_true rfl) ⟨Nat.le_of_ble_eq_true rfl, Nat.le_of_ble_eq_true rfl⟩ (Nat.le_of_ble_eq_true rfl) rfl ?_
    refine Cli.mono h (fun r3 m3 h => ?_)
    refine Tj.if_eq dX11_across_19 rfl rfl (fun c2 => ?_) (fun c2 => ?_)
    · have h := h.1 c2
      refine Tj.bipush dX11_across_30 (by decide) (by decide +kernel) rfl ?_
      exact Tj.iret dX11_across_32 rfl h
    · have h := h.2 c2
      refine Tj.iload_n dX11_across_22 rfl rfl ?_
      refine Tj.iconst dX11_across_23 (by decide) rfl ?_
      refine Tj.callSi (as := [_, _]) (rest := []) dX11_across_24 ln_X11_131 rfl rfl (Nat.le_of_ble_eq_true rfl) ⟨Nat.le_of_ble_eq_true rfl, Nat.le_of_ble_eq_true rfl⟩ (Nat.le_of_ble_eq_true rfl) rfl ?_
      refine Cli.mono h (fun r4 m4 h => ?_)
      refine Tj.if_ne dX11_across_27 rfl rfl (fun c3 => ?_) (fun c3 => ?_)
      · have h := h.1 c3
        refine Tj.bipush dX11_across_30 (by decide) (by decide +kernel) rfl ?_
        exact Tj.iret dX11_across_32 rfl h
      · have h := h.2 c3
        refine Tj.aload_n dX11_across_33 rfl rfl ?_
        refine Tj.getR (b := 109) dX11_across_34 fl_X11_33 sh_0 rfl rfl ?_
        refine Tj.callVi (as := []) (rest := []) dX11_across_37 ln_X11_124 sh_109 (by decide) rfl rfl (Nat.le_of_ble_eq_true rfl) ⟨Nat.le_of_ble_eq_true rfl, Nat.le_of_ble_eq_true rfl⟩ (Nat.le_of_ble_eq_true rfl) rfl ?_
        refine Cli.mono h (fun r5 m5 h => ?_)
        refine Tj.if_eq dX11_across_40 rfl rfl (fun c4 => ?_) (fun c4 => ?_)
        · have h := h.1 c4
          refine Tj.iload_n dX11_across_46 rfl rfl ?_
          show Tj mX11_across 47 [some (rV 0), some (iV x1), some (iV x2), some (iV x3)] [iV x3] m5 P
          by_cases c5 : x3 = 0
          · have h := h.1 c5
            refine Tj.tsI (pc' := 72) (v := 0) (off := 25) dX11_across_47 c5 (by decide) (by decide) (by decide +kernel) (by decide) ?_
            refine Tj.aload_n dX11_across_72 rfl rfl ?_
            refine Tj.getR (b := 109) dX11_across_73 fl_X11_33 sh_0 rfl rfl ?_
            refine Tj.iload_n dX11_across_76 rfl rfl ?_
            refine Tj.iload_n dX11_across_77 rfl rfl ?_
            refine Tj.callVi (as := [_, _]) (rest := []) dX11_across_78 ln_X11_144 sh_109 (by decide) rfl rfl (Nat.le_of_ble_eq_true rfl) ⟨Nat.le_of_ble_eq_true rfl, Nat.le_of_ble_eq_true rfl⟩ (Nat.le_of_ble_eq_true rfl) rfl ?_
            refine Cli.mono h (fun r6 m6 h => ?_)
            exact Tj.iret dX11_across_81 rfl h
          have h := h.2
          by_cases c6 : x3 = 1
          · have h := h.1 c6
            refine Tj.tsI (pc' := 82) (v := 1) (off := 35) dX11_across_47 c6 (by decide) (by decide) (by decide +kernel) (by decide) ?_
            refine Tj.aload_n dX11_across_82 rfl rfl ?_
            refine Tj.getR (b := 109) dX11_across_83 fl_X11_33 sh_0 rfl rfl ?_
            refine Tj.iload_n dX11_across_86 rfl rfl ?_
            refine Tj.iload_n dX11_across_87 rfl rfl ?_
            refine Tj.callVi (as := [_, _]) (rest := []) dX11_across_88 ln_X11_147 sh_109 (by decide) rfl rfl (Nat.le_of_ble_eq_true rfl) ⟨Nat.le_of_ble_eq_true rfl, Nat.le_of_ble_eq_true rfl⟩ (Nat.le_of_ble_eq_true rfl) rfl ?_
            refine Cli.mono h (fun r7 m7 h => ?_)
            exact Tj.iret dX11_across_91 rfl h
          have h := h.2
          by_cases c7 : x3 = 2
          · have h := h.1 c7
            refine Tj.tsI (pc' := 92) (v := 2) (off := 45) dX11_across_47 c7 (by decide) (by decide) (by decide +kernel) (by decide) ?_
            refine Tj.aload_n dX11_across_92 rfl rfl ?_
            refine Tj.getR (b := 109) dX11_across_93 fl_X11_33 sh_0 rfl rfl ?_
            refine Tj.iload_n dX11_across_96 rfl rfl ?_
            refine Tj.iload_n dX11_across_97 rfl rfl ?_
            refine Tj.callVi (as := [_, _]) (rest := []) dX11_across_98 ln_X11_150 sh_109 (by decide) rfl rfl (Nat.le_of_ble_eq_true rfl) ⟨Nat.le_of_ble_eq_true rfl, Nat.le_of_ble_eq_true rfl⟩ (Nat.le_of_ble_eq_true rfl) rfl ?_
            refine Cli.mono h (fun r8 m8 h => ?_)
            refine Tj.callSi (as := [_]) (rest := []) dX11_across_101 ln_X11_153 rfl rfl (Nat.le_of_ble_eq_true rfl) ⟨Nat.le_of_ble_eq_true rfl, Nat.le_of_ble_eq_true rfl⟩ (Nat.le_of_ble_eq_true rfl) rfl ?_
            refine Cli.mono h (fun r9 m9 h => ?_)
            exact Tj.iret dX11_across_104 rfl h
          have h := h.2
          have h := h c5 c6 c7
          refine Tj.tsO (pc' := 105) dX11_across_47 ((Int.lt_or_le x3 0).elim Or.inl (fun q => Or.inr (ts_s (by decide : (2 : Int) + 1 = 3) (ts_s (by decide : (1 : Int) + 1 = 2) (ts_s (by decide : (0 : Int) + 1 = 1) q c5) c6) c7))) (by decide) ?_
          refine Tj.aload_n dX11_across_105 rfl rfl ?_
          refine Tj.getR (b := 1) dX11_across_106 fl_X11_10 sh_0 rfl rfl ?_
          refine Tj.getR (b := 4) dX11_across_109 fl_X11_156 sh_1 rfl rfl ?_
          refine Tj.iload_n dX11_across_112 rfl rfl ?_
          refine Tj.iload_n dX11_across_113 rfl rfl ?_
          refine Tj.callVi (as := [_, _]) (rest := []) dX11_across_114 ln_X11_160 sh_4 (by decide) rfl rfl (Nat.le_of_ble_eq_true rfl) ⟨Nat.le_of_ble_eq_true rfl, Nat.le_of_ble_eq_true rfl⟩ (Nat.le_of_ble_eq_true rfl) rfl ?_
          refine Cli.mono h (fun r10 m10 h => ?_)
          have hj : Tj mX11_across 125 [] [iV (if r10 = 0 then 0 else 1)] m10 P := by
            generalize hv1 : ((if r10 = 0 then 0 else 1) : Int) = v1
            have h := h v1 hv1.symm
            exact Tj.iret dX11_across_125 rfl h
          refine Tj.if_eq dX11_across_117 rfl rfl (fun c8 => ?_) (fun c8 => ?_)
          · refine Tj.iconst dX11_across_124 (by decide) rfl ?_
            try simp only [if_pos c8] at hj ⊢
            exact Tj.cut hj trivial
          · refine Tj.iconst dX11_across_120 (by decide) rfl ?_
            refine Tj.goto dX11_across_121 rfl ?_
            try simp only [if_neg c8] at hj ⊢
            exact Tj.cut hj trivial
        · have h := h.2 c4
          refine Tj.bipush dX11_across_43 (by decide) (by decide +kernel) rfl ?_
          exact Tj.iret dX11_across_45 rfl h
