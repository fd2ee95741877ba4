theorem wX11_layer_0 {m : tM} {P : Option tV → tM → Prop} {x1 : Int} {x2 : Int}  (h : Cli mX11_isLayer [iV x1] m (fun r1 m1 => ((r1 = 0 → (P (some (iV (-3))) m1)) ∧ (¬ r1 = 0 → (Clv mX7_keep [rV 10, rV 1] m1 (fun m2 => (Clv mX1_put [rV 2, iV x1, iV x2] m2 (fun m3 => (Clv mX11_bodyHasChanged [rV 0] m3 (fun m4 => (Cli mX1_cubesIn [rV 2, iV x1] m4 (fun r2 m5 => (P (some (iV r2)) m5))))))))))))) : Tj mX11_layer 0 [some (rV 0), some (iV x1), some (iV x2)] [] m P := by
  refine Tj.iload_n dX11_layer_0 rfl rfl ?_
  refine Tj.callSi (as := [_]) (rest := []) dX11_layer_1 ln_X11_79 rfl rfl (Nat.le_of_ble_eq_true rfl) ⟨Nat.le_of_ble_eq_true rfl, Nat.le_of_ble_eq_true rfl⟩ (Nat.le_of_ble_eq_true rfl) rfl ?_
  refine Cli.mono h (fun r1 m1 h => ?_)
  refine Tj.if_ne dX11_layer_4 rfl rfl (fun c1 => ?_) (fun c1 => ?_)
  · have h := h.1 c1
    refine Tj.bipush dX11_layer_7 (by decide) (by decide +kernel) rfl ?_
    exact Tj.iret dX11_layer_9 rfl h
  · have h := h.2 c1
    refine Tj.aload_n dX11_layer_10 rfl rfl ?_
    refine Tj.getR (b := 10) dX11_layer_11 fl_X11_19 sh_0 rfl rfl ?_
    refine Tj.aload_n dX11_layer_14 rfl rfl ?_
    refine Tj.getR (b := 1) dX11_layer_15 fl_X11_10 sh_0 rfl rfl ?_
    refine Tj.callVv (as := [_]) (rest := []) dX11_layer_18 ln_X11_83 sh_10 (by decide) rfl rfl (Nat.le_of_ble_eq_true rfl) ⟨Nat.le_of_ble_eq_true rfl, Nat.le_of_ble_eq_true rfl⟩ (Nat.le_of_ble_eq_true rfl) rfl ?_
    refine Clv.mono h (fun m2 h => ?_)
    refine Tj.aload_n dX11_layer_21 rfl rfl ?_
    refine Tj.getR (b := 1) dX11_layer_22 fl_X11_10 sh_0 rfl rfl ?_
    refine Tj.getR (b := 2) dX11_layer_25 fl_X11_87 sh_1 rfl rfl ?_
    refine Tj.iload_n dX11_layer_28 rfl rfl ?_
    refine Tj.iload_n dX11_layer_29 rfl rfl ?_
    refine Tj.callVv (as := [_, _]) (rest := []) dX11_layer_30 ln_X11_91 sh_2 (by decide) rfl rfl (Nat.le_of_ble_eq_true rfl) ⟨Nat.le_of_ble_eq_true rfl, Nat.le_of_ble_eq_true rfl⟩ (Nat.le_of_ble_eq_true rfl) rfl ?_
    refine Clv.mono h (fun m3 h => ?_)
    refine Tj.aload_n dX11_layer_33 rfl rfl ?_
    refine Tj.callVv (as := []) (rest := []) dX11_layer_34 ln_X11_97 sh_0 (by decide) rfl rfl (Nat.le_of_ble_eq_true rfl) ⟨Nat.le_of_ble_eq_true rfl, Nat.le_of_ble_eq_true rfl⟩ (Nat.le_of_ble_eq_true rfl) rfl ?_
    refine Clv.mono h (fun m4 h => ?_)
    refine Tj.aload_n dX11_layer_37 rfl rfl ?_
    refine Tj.getR (b := 1) dX11_layer_38 fl_X11_10 sh_0 rfl rfl ?_
    refine Tj.getR (b := 2) dX11_layer_41 fl_X11_87 sh_1 rfl rfl ?_
    refine Tj.iload_n dX11_layer_44 rfl rfl ?_
    refine Tj.callVi (as := [_]) (rest := []) dX11_layer_45 ln_X11_100 sh_2 (by decide) rfl rfl (Nat.le_of_ble_eq_true rfl) ⟨Nat.le_of_ble_eq_true rfl, Nat.le_of_ble_eq_true rfl⟩ (Nat.le_of_ble_eq_true rfl) rfl ?_
    refine Cli.mono h (fun r2 m5 h => ?_)
    exact Tj.iret dX11_layer_48 rfl h

theorem wX11_lose_0 {m : tM} {P : Option tV → tM → Prop} {x1 : Int}  (h : Cli mX11_isLayer [iV x1] m (fun r1 m1 => ((r1 = 0 → (P (some (iV (-3))) m1)) ∧ (¬ r1 = 0 → (Cli mX1_misses [rV 2, iV x1] m1 (fun r2 m2 => ((r2 = 0 → (Clv mX7_keep [rV 10, rV 1] m2 (fun m3 => (Cli mX1_cubesIn [rV 2, iV x1] m3 (fun r3 m4 => (Clv mX1_take [rV 2, iV x1] m4 (fun m5 => (Clv mX11_bodyHasChanged [rV 0] m5 (fun m6 => (P (some (iV r3)) m6)))))))))) ∧ (¬ r2 = 0 → (P (some (iV (-11))) m2))))))))) : Tj mX11_lose 0 [some (rV 0), some (iV x1)] [] m P := by
  refine Tj.iload_n dX11_lose_0 rfl rfl ?_
  refine Tj.callSi (as := [_]) (rest := []) dX11_lose_1 ln_X11_79 rfl rfl (Nat.le_of_ble_eq_true rfl) ⟨Nat.le_of_ble_eq_true rfl, Nat.le_of_ble_eq_true rfl⟩ (Nat.le_of_ble_eq_true rfl) rfl ?_
  refine Cli.mono h (fun r1 m1 h => ?_)
  refine Tj.if_ne dX11_lose_4 rfl rfl (fun c1 => ?_) (fun c1 => ?_)
  · have h := h.1 c1
    refine Tj.bipush dX11_lose_7 (by decide) (by decide +kernel) rfl ?_
    exact Tj.iret dX11_lose_9 rfl h
  · have h := h.2 c1
    refine Tj.aload_n dX11_lose_10 rfl rfl ?_
    refine Tj.getR (b := 1) dX11_lose_11 fl_X11_10 sh_0 rfl rfl ?_
    refine Tj.getR (b := 2) dX11_lose_14 fl_X11_87 sh_1 rfl rfl ?_
    refine Tj.iload_n dX11_lose_17 rfl rfl ?_
    refine Tj.callVi (as := [_]) (rest := []) dX11_lose_18 ln_X11_104 sh_2 (by decide) rfl rfl (Nat.le_of_ble_eq_true rfl) ⟨Nat.le_of_ble_eq_true rfl, Nat.le_of_ble_eq_true rfl⟩ (Nat.le_of_ble_eq_true rfl) rfl ?_
    refine Cli.mono h (fun r2 m2 h => ?_)
    refine Tj.if_eq dX11_lose_21 rfl rfl (fun c2 => ?_) (fun c2 => ?_)
    · have h := h.1 c2
      refine Tj.aload_n dX11_lose_27 rfl rfl ?_
      refine Tj.getR (b := 10) dX11_lose_28 fl_X11_19 sh_0 rfl rfl ?_
      refine Tj.aload_n dX11_lose_31 rfl rfl ?_
      refine Tj.getR (b := 1) dX11_lose_32 fl_X11_10 sh_0 rfl rfl ?_
      refine Tj.callVv (as := [_]) (rest := []) dX11_lose_35 ln_X11_83 sh_10 (by decide) rfl rfl (Nat.le_of_ble_eq_true rfl) ⟨Nat.le_of_ble_eq_true rfl, Nat.le_of_ble_eq_true rfl⟩ (Nat.le_of_ble_eq_true rfl) rfl ?_
      refine Clv.mono h (fun m3 h => ?_)
      refine Tj.aload_n dX11_lose_38 rfl rfl ?_
      refine Tj.getR (b := 1) dX11_lose_39 fl_X11_10 sh_0 rfl rfl ?_
      refine Tj.getR (b := 2) dX11_lose_42 fl_X11_87 sh_1 rfl rfl ?_
      refine Tj.iload_n dX11_lose_45 rfl rfl ?_
      refine Tj.callVi (as := [_]) (rest := []) dX11_lose_46 ln_X11_100 sh_2 (by decide) rfl rfl (Nat.le_of_ble_eq_true rfl) ⟨Nat.le_of_ble_eq_true rfl, Nat.le_of_ble_eq_true rfl⟩ (Nat.le_of_ble_eq_true rfl) rfl ?_
      refine Cli.mono h (fun r3 m4 h => ?_)
      refine Tj.istore_n dX11_lose_49 (Nat.le_of_ble_eq_true rfl) rfl rfl ?_
      refine Tj.aload_n dX11_lose_50 rfl rfl ?_
      refine Tj.getR (b := 1) dX11_lose_51 fl_X11_10 sh_0 rfl rfl ?_
      refine Tj.getR (b := 2) dX11_lose_54 fl_X11_87 sh_1 rfl rfl ?_
      refine Tj.iload_n dX11_lose_57 rfl rfl ?_
      refine Tj.callVv (as := [_]) (rest := []) dX11_lose_58 ln_X11_107 sh_2 (by decide) rfl rfl (Nat.le_of_ble_eq_true rfl) ⟨Nat.le_of_ble_eq_true rfl, Nat.le_of_ble_eq_true rfl⟩ (Nat.le_of_ble_eq_true rfl) rfl ?_
      refine Clv.mono h (fun m5 h => ?_)
      refine Tj.aload_n dX11_lose_61 rfl rfl ?_
      refine Tj.callVv (as := []) (rest := []) dX11_lose_62 ln_X11_97 sh_0 (by decide) rfl rfl (Nat.le_of_ble_eq_true rfl) ⟨Nat.le_of_ble_eq_true rfl, Nat.le_of_ble_eq_true rfl⟩ (Nat.le_of_ble_eq_true rfl) rfl ?_
      refine Clv.mono h (fun m6 h => ?_)
      refine Tj.iload_n dX11_lose_65 rfl rfl ?_
      exact Tj.iret dX11_lose_66 rfl h
    · have h := h.2 c2
      refine Tj.bipush dX11_lose_24 (by decide) (by decide +kernel) rfl ?_
      exact Tj.iret dX11_lose_26 rfl h

theorem wX11_cube_0 {m : tM} {P : Option tV → tM → Prop} {x1 : Int} {x2 : Int} {x3 : Int}  (h : Cli mX11_isLayer [iV x1] m (fun r1 m1 => ((r1 = 0 → (P (some (iV (-3))) m1)) ∧ (¬ r1 = 0 → (Cli mX11_isSwitch [iV x3] m1 (fun r2 m2 => ((r2 = 0 → (P (some (iV (-3))) m2)) ∧ (¬ r2 = 0 → (Cli mX1_misses [rV 2, iV x1] m2 (fun r3 m3 => ((r3 = 0 → (Cli mX11_arePlaces [iV x2, iV 1] m3 (fun r4 m4 => ((r4 = 0 → (P (some (iV (-13))) m4)) ∧ (¬ r4 = 0 → (Clv mX7_keep [rV 10, rV 1] m4 (fun m5 => (Cli mX1_bitsOf [rV 2, iV x1] m5 (fun r5 m6 => (∀ v1 : Int, v1 = (if x3 = 1 then (bOr r5 (bShl 1 x2)) else (bAnd r5 (bXor (bShl 1 x2) (-1)))) → (Clv mX1_put [rV 2, iV x1, iV v1] m6 (fun m7 => (Clv mX11_bodyHasChanged [rV 0] m7 (fun m8 => (∀ v2 : Int, v2 = (if (bAnd r5 (bShl 1 x2)) = 0 then 0 else 1) → (P (some (iV v2)) m8)))))))))))))))) ∧ (¬ r3 = 0 → (P (some (iV (-11))) m3))))))))))))) : Tj mX11_cube 0 [some (rV 0), some (iV x1), some (iV x2), some (iV x3)] [] m P := by
  refine Tj.iload_n dX11_cube_0 rfl rfl ?_
  refine Tj.callSi (as := [_]) (rest := []) dX11_cube_1 ln_X11_79 rfl rfl (Nat.le_of_ble_eq_true rfl) ⟨Nat.le_of_ble_eq_true rfl, Nat.le_of_ble_eq_true rfl⟩ (Nat.le_of_ble_eq_true rfl) rfl ?_
  refine Cli.mono h (fun r1 m1 h => ?_)
  refine Tj.if_eq dX11_cube_4 rfl rfl (fun c1 => ?_) (fun c1 => ?_)
  · have h := h.1 c1
    refine Tj.bipush dX11_cube_14 (by decide) (by decide +kernel) rfl ?_
    exact Tj.iret dX11_cube_16 rfl h
  · have h := h.2 c1
    refine Tj.iload_n dX11_cube_7 rfl rfl ?_
    refine Tj.callSi (as := [_]) (rest := []) dX11_cube_8 ln_X11_111 rfl rfl (Nat.le_of_ble_eq_true rfl) ⟨Nat.le_of_ble_eq_true rfl, Nat.le_of_ble_eq_true rfl⟩ (Nat.le_of_ble_eq_true rfl) rfl ?_
    refine Cli.mono h (fun r2 m2 h => ?_)
    refine Tj.if_ne dX11_cube_11 rfl rfl (fun c2 => ?_) (fun c2 => ?_)
    · have h := h.1 c2
      refine Tj.bipush dX11_cube_14 (by decide) (by decide +kernel) rfl ?_
      exact Tj.iret dX11_cube_16 rfl h
    · have h := h.2 c2
      refine Tj.aload_n dX11_cube_17 rfl rfl ?_
      refine Tj.getR (b := 1) dX11_cube_18 fl_X11_10 sh_0 rfl rfl ?_
      refine Tj.getR (b := 2) dX11_cube_21 fl_X11_87 sh_1 rfl rfl ?_
      refine Tj.iload_n dX11_cube_24 rfl rfl ?_
      refine Tj.callVi (as := [_]) (rest := []) dX11_cube_25 ln_X11_104 sh_2 (by decide) rfl rfl (Nat.le_of_ble_eq_true rfl) ⟨Nat.le_of_ble_eq_true rfl, Nat.le_of_ble_eq_true rfl⟩ (Nat.le_of_ble_eq_true rfl) rfl ?_
      refine Cli.mono h (fun r3 m3 h => ?_)
      refine Tj.if_eq dX11_cube_28 rfl rfl (fun c3 => ?_) (fun c3 => ?_)
      · have h := h.1 c3
        refine Tj.iload_n dX11_cube_34 rfl rfl ?_
        refine Tj.iconst dX11_cube_35 (by decide) rfl ?_
        refine Tj.callSi (as := [_, _]) (rest := []) dX11_cube_36 ln_X11_114 rfl rfl (Nat.le_of_ble_eq_true rfl) ⟨Nat.le_of_ble_eq_true rfl, Nat.le_of_ble_eq_true rfl⟩ (Nat.le_of_ble_eq_true rfl) rfl ?_
        refine Cli.mono h (fun r4 m4 h => ?_)
        refine Tj.if_ne dX11_cube_39 rfl rfl (fun c4 => ?_) (fun c4 => ?_)
        · have h := h.1 c4
          refine Tj.bipush dX11_cube_42 (by decide) (by decide +kernel) rfl ?_
          exact Tj.iret dX11_cube_44 rfl h
        · have h := h.2 c4
          refine Tj.aload_n dX11_cube_45 rfl rfl ?_
          refine Tj.getR (b := 10) dX11_cube_46 fl_X11_19 sh_0 rfl rfl ?_
          refine Tj.aload_n dX11_cube_49 rfl rfl ?_
          refine Tj.getR (b := 1) dX11_cube_50 fl_X11_10 sh_0 rfl rfl ?_
          refine Tj.callVv (as := [_]) (rest := []) dX11_cube_53 ln_X11_83 sh_10 (by decide) rfl rfl (Nat.le_of_ble_eq_true rfl) ⟨Nat.le_of_ble_eq_true rfl, Nat.le_of_ble_eq_true rfl⟩ (Nat.le_of_ble_eq_true rfl) rfl ?_
          refine Clv.mono h (fun m5 h => ?_)
          refine Tj.aload_n dX11_cube_56 rfl rfl ?_
          refine Tj.getR (b := 1) dX11_cube_57 fl_X11_10 sh_0 rfl rfl ?_
          refine Tj.getR (b := 2) dX11_cube_60 fl_X11_87 sh_1 rfl rfl ?_
          refine Tj.iload_n dX11_cube_63 rfl rfl ?_
          refine Tj.callVi (as := [_]) (rest := []) dX11_cube_64 ln_X11_118 sh_2 (by decide) rfl rfl (Nat.le_of_ble_eq_true rfl) ⟨Nat.le_of_ble_eq_true rfl, Nat.le_of_ble_eq_true rfl⟩ (Nat.le_of_ble_eq_true rfl) rfl ?_
          refine Cli.mono h (fun r5 m6 h => ?_)
          refine Tj.istore dX11_cube_67 (Nat.le_of_ble_eq_true rfl) rfl rfl ?_
          refine Tj.iconst dX11_cube_69 (by decide) rfl ?_
          refine Tj.iload_n dX11_cube_70 rfl rfl ?_
          refine Tj.ishl dX11_cube_71 rfl ?_
          refine Tj.istore dX11_cube_72 (Nat.le_of_ble_eq_true rfl) rfl rfl ?_
          refine Tj.aload_n dX11_cube_74 rfl rfl ?_
          refine Tj.getR (b := 1) dX11_cube_75 fl_X11_10 sh_0 rfl rfl ?_
          refine Tj.getR (b := 2) dX11_cube_78 fl_X11_87 sh_1 rfl rfl ?_
          refine Tj.iload_n dX11_cube_81 rfl rfl ?_
          refine Tj.iload_n dX11_cube_82 rfl rfl ?_
          refine Tj.iconst dX11_cube_83 (by decide) rfl ?_
          have hj : Tj mX11_cube 102 [some (rV 0), none, none, none, some (iV r5), some (iV (bShl 1 x2))] [iV (if x3 = 1 then (bOr r5 (bShl 1 x2)) else (bAnd r5 (bXor (bShl 1 x2) (-1)))), iV x1, rV 2] m6 P := by
            generalize hv1 : (if x3 = 1 then (bOr r5 (bShl 1 x2)) else (bAnd r5 (bXor (bShl 1 x2) (-1)))) = v1
            have h := h v1 hv1.symm
            refine Tj.callVv (as := [_, _]) (rest := []) dX11_cube_102 ln_X11_91 sh_2 (by decide) rfl rfl (Nat.le_of_ble_eq_true rfl) ⟨Nat.le_of_ble_eq_true rfl, Nat.le_of_ble_eq_true rfl⟩ (Nat.le_of_ble_eq_true rfl) rfl ?_
            refine Clv.mono h (fun m7 h => ?_)
            refine Tj.aload_n dX11_cube_105 rfl rfl ?_
            refine Tj.callVv (as := []) (rest := []) dX11_cube_106 ln_X11_97 sh_0 (by decide) rfl rfl (Nat.le_of_ble_eq_true rfl) ⟨Nat.le_of_ble_eq_true rfl, Nat.le_of_ble_eq_true rfl⟩ (Nat.le_of_ble_eq_true rfl) rfl ?_
            refine Clv.mono h (fun m8 h => ?_)
            refine Tj.iload dX11_cube_109 rfl rfl ?_
            refine Tj.iload dX11_cube_111 rfl rfl ?_
            refine Tj.iand dX11_cube_113 rfl ?_
            have hj : Tj mX11_cube 122 [] [iV (if (bAnd r5 (bShl 1 x2)) = 0 then 0 else 1)] m8 P := by
              generalize hv2 : (if (bAnd r5 (bShl 1 x2)) = 0 then 0 else 1) = v2
              have h := h v2 hv2.symm
              exact Tj.iret dX11_cube_122 rfl h
            refine Tj.if_eq dX11_cube_114 rfl rfl (fun c6 => ?_) (fun c6 => ?_)
            · refine Tj.iconst dX11_cube_121 (by decide) rfl ?_
              try simp only [if_pos c6] at hj ⊢
              exact Tj.cut hj trivial
            · refine Tj.iconst dX11_cube_117 (by decide) rfl ?_
              refine Tj.goto dX11_cube_118 rfl ?_
              try simp only [if_neg c6] at hj ⊢
              exact Tj.cut hj trivial
          refine Tj.icmp_ne dX11_cube_84 rfl rfl (fun c5 => ?_) (fun c5 => ?_)
          · refine Tj.iload dX11_cube_87 rfl rfl ?_
            refine Tj.iload dX11_cube_89 rfl rfl ?_
            refine Tj.ior dX11_cube_91 rfl ?_
            refine Tj.goto dX11_cube_92 rfl ?_
            try simp only [if_pos c5] at hj ⊢
            exact Tj.cut hj ⟨rfl, ⟨rfl, ⟨rfl, trivial⟩⟩⟩
          · refine Tj.iload dX11_cube_95 rfl rfl ?_
            refine Tj.iload dX11_cube_97 rfl rfl ?_
            refine Tj.iconst dX11_cube_99 (by decide) rfl ?_
            refine Tj.ixor dX11_cube_100 rfl ?_
            refine Tj.iand dX11_cube_101 rfl ?_
            try simp only [if_neg c5] at hj ⊢
            exact Tj.cut hj ⟨rfl, ⟨rfl, ⟨rfl, trivial⟩⟩⟩
      · have h := h.2 c3
        refine Tj.bipush dX11_cube_31 (by decide) (by decide +kernel) rfl ?_
        exact Tj.iret dX11_cube_33 rfl h

theorem wX11_copy_0 {m : tM} {P : Option tV → tM → Prop} {x1 : Int} {x2 : Int} {x3 : Int} {x4 : Int} {x5 : Int}  (h : Cli mX11_isLayer [iV x1] m (fun r1 m1 => ((r1 = 0 → (P (some (iV (-3))) m1)) ∧ (¬ r1 = 0 → (Cli mX11_isLayer [iV x3] m1 (fun r2 m2 => ((r2 = 0 → (P (some (iV (-3))) m2)) ∧ (¬ r2 = 0 → (Cli mX1_misses [rV 2, iV x1] m2 (fun r3 m3 => ((r3 = 0 → (Cli mX1_misses [rV 2, iV x3] m3 (fun r4 m4 => ((r4 = 0 → (Cli mX11_arePlaces [iV x2, iV x5] m4 (fun r5 m5 => ((r5 = 0 → (P (some (iV (-13))) m5)) ∧ (¬ r5 = 0 → (Cli mX11_arePlaces [iV x4, iV x5] m5 (fun r6 m6 => ((r6 = 0 → (P (some (iV (-13))) m6)) ∧ (¬ r6 = 0 → (Clv mX7_keep [rV 10, rV 1] m6 (fun m7 => ((R32 ((bShl 1 x5) - 1)) ∧ (Cli mX1_bitsOf [rV 2, iV x1] m7 (fun r7 m8 => (Cli mX1_bitsOf [rV 2, iV x3] m8 (fun r8 m9 => (∀ v1 : Int, v1 = (bOr (bAnd r8 (bXor (bShl ((bShl 1 x5) - 1) x4) (-1))) (bShl (bAnd (bShr r7 x2) ((bShl 1 x5) - 1)) x4)) → (Clv mX1_put [rV 2, iV x3, iV v1] m9 (fun m10 => (Clv mX11_bodyHasChanged [rV 0] m10 (fun m11 => (P (some (iV x5)) m11)))))))))))))))))))))) ∧ (¬ r4 = 0 → (P (some (iV (-11))) m4)))))) ∧ (¬ r3 = 0 → (P (some (iV (-11))) m3))))))))))))) : Tj mX11_copy 0 [some (rV 0), some (iV x1), some (iV x2), some (iV x3), some (iV x4), some (iV x5)] [] m P := by
  refine Tj.iload_n dX11_copy_0 rfl rfl ?_
  refine Tj.callSi (as := [_]) (rest := []) dX11_copy_1 ln_X11_79 rfl rfl (Nat.le_of_ble_eq_true rfl) ⟨Nat.le_of_ble_eq_true rfl, Nat.le_of_ble_eq_true rfl⟩ (Nat.le_of_ble_eq_true rfl) rfl ?_
  refine Cli.mono h (fun r1 m1 h => ?_)
  refine Tj.if_eq dX11_copy_4 rfl rfl (fun c1 => ?_) (fun c1 => ?_)
  · have h := h.1 c1
    refine Tj.bipush dX11_copy_14 (by decide) (by decide +kernel) rfl ?_
    exact Tj.iret dX11_copy_16 rfl h
  · have h := h.2 c1
    refine Tj.iload_n dX11_copy_7 rfl rfl ?_
    refine Tj.callSi (as := [_]) (rest := []) dX11_copy_8 ln_X11_79 rfl rfl (Nat.le_of_ble_eq_true rfl) ⟨Nat.le_of_ble_eq_true rfl, Nat.le_of_ble_eq_true rfl⟩ (Nat.le_of_ble_eq_true rfl) rfl ?_
    refine Cli.mono h (fun r2 m2 h => ?_)
    refine Tj.if_ne dX11_copy_11 rfl rfl (fun c2 => ?_) (fun c2 => ?_)
    · have h := h.1 c2
      refine Tj.bipush dX11_copy_14 (by decide) (by decide +kernel) rfl ?_
      exact Tj.iret dX11_copy_16 rfl h
    · have h := h.2 c2
      refine Tj.aload_n dX11_copy_17 rfl rfl ?_
      refine Tj.getR (b := 1) dX11_copy_18 fl_X11_10 sh_0 rfl rfl ?_
      refine Tj.getR (b := 2) dX11_copy_21 fl_X11_87 sh_1 rfl rfl ?_
      refine Tj.iload_n dX11_copy_24 rfl rfl ?_
      refine Tj.callVi (as := [_]) (rest := []) dX11_copy_25 ln_X11_104 sh_2 (by decide) rfl rfl (Nat.le_of_ble_eq_true rfl) ⟨Nat.le_of_ble_eq_true rfl, Nat.le_of_ble_eq_true rfl⟩ (Nat.le_of_ble_eq_true rfl) rfl ?_
      refine Cli.mono h (fun r3 m3 h => ?_)
      refine Tj.if_ne dX11_copy_28 rfl rfl (fun c3 => ?_) (fun c3 => ?_)
      · have h := h.1 c3
        refine Tj.aload_n dX11_copy_31 rfl rfl ?_
        refine Tj.getR (b := 1) dX11_copy_32 fl_X11_10 sh_0 rfl rfl ?_
        refine Tj.getR (b := 2) dX11_copy_35 fl_X11_87 sh_1 rfl rfl ?_
        refine Tj.iload_n dX11_copy_38 rfl rfl ?_
        refine Tj.callVi (as := [_]) (rest := []) dX11_copy_39 ln_X11_104 sh_2 (by decide) rfl rfl (Nat.le_of_ble_eq_true rfl) ⟨Nat.le_of_ble_eq_true rfl, Nat.le_of_ble_eq_true rfl⟩ (Nat.le_of_ble_eq_true rfl) rfl ?_
        refine Cli.mono h (fun r4 m4 h => ?_)
        refine Tj.if_eq dX11_copy_42 rfl rfl (fun c4 => ?_) (fun c4 => ?_)
        · have h := h.1 c4
          refine Tj.iload_n dX11_copy_48 rfl rfl ?_
          refine Tj.iload dX11_copy_49 rfl rfl ?_
          refine Tj.callSi (as := [_, _]) (rest := []) dX11_copy_51 ln_X11_114 rfl rfl (Nat.le_of_ble_eq_true rfl) ⟨Nat.le_of_ble_eq_true rfl, Nat.le_of_ble_eq_true rfl⟩ (Nat.le_of_ble_eq_true rfl) rfl ?_
          refine Cli.mono h (fun r5 m5 h => ?_)
          refine Tj.if_eq dX11_copy_54 rfl rfl (fun c5 => ?_) (fun c5 => ?_)
          · have h := h.1 c5
            refine Tj.bipush dX11_copy_67 (by decide) (by decide +kernel) rfl ?_
            exact Tj.iret dX11_copy_69 rfl h
          · have h := h.2 c5
            refine Tj.iload dX11_copy_57 rfl rfl ?_
            refine Tj.iload dX11_copy_59 rfl rfl ?_
            refine Tj.callSi (as := [_, _]) (rest := []) dX11_copy_61 ln_X11_114 rfl rfl (Nat.le_of_ble_eq_true rfl) ⟨Nat.le_of_ble_eq_true rfl, Nat.le_of_ble_eq_true rfl⟩ (Nat.le_of_ble_eq_true rfl) rfl ?_
            refine Cli.mono h (fun r6 m6 h => ?_)
            refine Tj.if_ne dX11_copy_64 rfl rfl (fun c6 => ?_) (fun c6 => ?_)
            · have h := h.1 c6
              refine Tj.bipush dX11_copy_67 (by decide) (by decide +kernel) rfl ?_
              exact Tj.iret dX11_copy_69 rfl h
            · have h := h.2 c6
              refine Tj.aload_n dX11_copy_70 rfl rfl ?_
              refine Tj.getR (b := 10) dX11_copy_71 fl_X11_19 sh_0 rfl rfl ?_
              refine Tj.aload_n dX11_copy_74 rfl rfl ?_
              refine Tj.getR (b := 1) dX11_copy_75 fl_X11_10 sh_0 rfl rfl ?_
              refine Tj.callVv (as := [_]) (rest := []) dX11_copy_78 ln_X11_83 sh_10 (by decide) rfl rfl (Nat.le_of_ble_eq_true rfl) ⟨Nat.le_of_ble_eq_true rfl, Nat.le_of_ble_eq_true rfl⟩ (Nat.le_of_ble_eq_true rfl) rfl ?_
              refine Clv.mono h (fun m7 h => ?_)
              obtain ⟨o1, h⟩ := h
              refine Tj.iconst dX11_copy_81 (by decide) rfl ?_
              refine Tj.iload dX11_copy_82 rfl rfl ?_
              refine Tj.ishl dX11_copy_84 rfl ?_
              refine Tj.iconst dX11_copy_85 (by decide) rfl ?_
              refine Tj.isub dX11_copy_86 o1 rfl ?_
              refine Tj.istore dX11_copy_87 (Nat.le_of_ble_eq_true rfl) rfl rfl ?_
              refine Tj.aload_n dX11_copy_89 rfl rfl ?_
              refine Tj.getR (b := 1) dX11_copy_90 fl_X11_10 sh_0 rfl rfl ?_
              refine Tj.getR (b := 2) dX11_copy_93 fl_X11_87 sh_1 rfl rfl ?_
              refine Tj.iload_n dX11_copy_96 rfl rfl ?_
              refine Tj.callVi (as := [_]) (rest := []) dX11_copy_97 ln_X11_118 sh_2 (by decide) rfl rfl (Nat.le_of_ble_eq_true rfl) ⟨Nat.le_of_ble_eq_true rfl, Nat.le_of_ble_eq_true rfl⟩ (Nat.le_of_ble_eq_true rfl) rfl ?_
              refine Cli.mono h (fun r7 m8 h => ?_)
              refine Tj.iload_n dX11_copy_100 rfl rfl ?_
              refine Tj.ishr dX11_copy_101 rfl ?_
              refine Tj.iload dX11_copy_102 rfl rfl ?_
              refine Tj.iand dX11_copy_104 rfl ?_
              refine Tj.istore dX11_copy_105 (Nat.le_of_ble_eq_true rfl) rfl rfl ?_
              refine Tj.aload_n dX11_copy_107 rfl rfl ?_
              refine Tj.getR (b := 1) dX11_copy_108 fl_X11_10 sh_0 rfl rfl ?_
              refine Tj.getR (b := 2) dX11_copy_111 fl_X11_87 sh_1 rfl rfl ?_
              refine Tj.iload_n dX11_copy_114 rfl rfl ?_
              refine Tj.aload_n dX11_copy_115 rfl rfl ?_
              refine Tj.getR (b := 1) dX11_copy_116 fl_X11_10 sh_0 rfl rfl ?_
              refine Tj.getR (b := 2) dX11_copy_119 fl_X11_87 sh_1 rfl rfl ?_
              refine Tj.iload_n dX11_copy_122 rfl rfl ?_
              refine Tj.callVi (as := [_]) (rest := [_, _]) dX11_copy_123 ln_X11_118 sh_2 (by decide) rfl rfl (Nat.le_of_ble_eq_true rfl) ⟨Nat.le_of_ble_eq_true rfl, Nat.le_of_ble_eq_true rfl⟩ (Nat.le_of_ble_eq_true rfl) rfl ?_
              refine Cli.mono h (fun r8 m9 h => ?_)
              refine Tj.iload dX11_copy_126 rfl rfl ?_
              refine Tj.iload dX11_copy_128 rfl rfl ?_
              refine Tj.ishl dX11_copy_130 rfl ?_
              refine Tj.iconst dX11_copy_131 (by decide) rfl ?_
              refine Tj.ixor dX11_copy_132 rfl ?_
              refine Tj.iand dX11_copy_133 rfl ?_
              refine Tj.iload dX11_copy_134 rfl rfl ?_
              refine Tj.iload dX11_copy_136 rfl rfl ?_
              refine Tj.ishl dX11_copy_138 rfl ?_
              refine Tj.ior dX11_copy_139 rfl ?_
              show Tj mX11_copy 140 [some (rV 0), some (iV x1), some (iV x2), some (iV x3), some (iV x4), some (iV x5), some (iV ((bShl 1 x5) - 1)), some (iV (bAnd (bShr r7 x2) ((bShl 1 x5) - 1)))] [iV (bOr (bAnd r8 (bXor (bShl ((bShl 1 x5) - 1) x4) (-1))) (bShl (bAnd (bShr r7 x2) ((bShl 1 x5) - 1)) x4)), iV x3, rV 2] m9 P
              generalize hv1 : (bOr (bAnd r8 (bXor (bShl ((bShl 1 x5) - 1) x4) (-1))) (bShl (bAnd (bShr r7 x2) ((bShl 1 x5) - 1)) x4)) = v1
              have h := h v1 hv1.symm
              refine Tj.callVv (as := [_, _]) (rest := []) dX11_copy_140 ln_X11_91 sh_2 (by decide) rfl rfl (Nat.le_of_ble_eq_true rfl) ⟨Nat.le_of_ble_eq_true rfl, Nat.le_of_ble_eq_true rfl⟩ (Nat.le_of_ble_eq_true rfl) rfl ?_
              refine Clv.mono h (fun m10 h => ?_)
              refine Tj.aload_n dX11_copy_143 rfl rfl ?_
              refine Tj.callVv (as := []) (rest := []) dX11_copy_144 ln_X11_97 sh_0 (by decide) rfl rfl (Nat.le_of_ble_eq_true rfl) ⟨Nat.le_of_ble_eq_true rfl, Nat.le_of_ble_eq_true rfl⟩ (Nat.le_of_ble_eq_true rfl) rfl ?_
              refine Clv.mono h (fun m11 h => ?_)
              refine Tj.iload dX11_copy_147 rfl rfl ?_
              exact Tj.iret dX11_copy_149 rfl h
        · have h := h.2 c4
          refine Tj.bipush dX11_copy_45 (by decide) (by decide +kernel) rfl ?_
          exact Tj.iret dX11_copy_47 rfl h
      · have h := h.2 c3
        refine Tj.bipush dX11_copy_45 (by decide) (by decide +kernel) rfl ?_
        exact Tj.iret dX11_copy_47 rfl h

theorem wX11_box_0 {m : tM} {P : Option tV → tM → Prop} {x1 : Int} {x2 : Int} {x3 : Int}  (h : Cli mX11_isLength [iV x1] m (fun r1 m1 => ((r1 = 0 → (P (some (iV (-3))) m1)) ∧ (¬ r1 = 0 → (Cli mX11_isLength [iV x2] m1 (fun r2 m2 => ((r2 = 0 → (P (some (iV (-3))) m2)) ∧ (¬ r2 = 0 → (Cli mX11_isLength [iV x3] m2 (fun r3 m3 => ((r3 = 0 → (P (some (iV (-3))) m3)) ∧ (¬ r3 = 0 → (Clv mX7_keep [rV 10, rV 1] m3 (fun m4 => (Tj mX11_box 41 [some (rV 0), some (iV x1), some (iV x2), some (iV x3), some (iV 0), some (iV 0)] [] m4 P))))))))))))))) : Tj mX11_box 0 [some (rV 0), some (iV x1), some (iV x2), some (iV x3)] [] m P := by
  refine Tj.iload_n dX11_box_0 rfl rfl ?_
  refine Tj.callSi (as := [_]) (rest := []) dX11_box_1 ln_X11_121 rfl rfl (Nat.le_of_ble_eq_true rfl) ⟨Nat.le_of_ble_eq_true rfl, Nat.le_of_ble_eq_true rfl⟩ (Nat.le_of_ble_eq_true rfl) rfl ?_
  refine Cli.mono h (fun r1 m1 h => ?_)
  refine Tj.if_eq dX11_box_4 rfl rfl (fun c1 => ?_) (fun c1 => ?_)
  · have h := h.1 c1
    refine Tj.bipush dX11_box_21 (by decide) (by decide +kernel) rfl ?_
    exact Tj.iret dX11_box_23 rfl h
  · have h := h.2 c1
    refine Tj.iload_n dX11_box_7 rfl rfl ?_
    refine Tj.callSi (as := [_]) (rest := []) dX11_box_8 ln_X11_121 rfl rfl (Nat.le_of_ble_eq_true rfl) ⟨Nat.le_of_ble_eq_true rfl, Nat.le_of_ble_eq_true rfl⟩ (Nat.le_of_ble_eq_true rfl) rfl ?_
    refine Cli.mono h (fun r2 m2 h => ?_)
    refine Tj.if_eq dX11_box_11 rfl rfl (fun c2 => ?_) (fun c2 => ?_)
    · have h := h.1 c2
      refine Tj.bipush dX11_box_21 (by decide) (by decide +kernel) rfl ?_
      exact Tj.iret dX11_box_23 rfl h
    · have h := h.2 c2
      refine Tj.iload_n dX11_box_14 rfl rfl ?_
      refine Tj.callSi (as := [_]) (rest := []) dX11_box_15 ln_X11_121 rfl rfl (Nat.le_of_ble_eq_true rfl) ⟨Nat.le_of_ble_eq_true rfl, Nat.le_of_ble_eq_true rfl⟩ (Nat.le_of_ble_eq_true rfl) rfl ?_
      refine Cli.mono h (fun r3 m3 h => ?_)
      refine Tj.if_ne dX11_box_18 rfl rfl (fun c3 => ?_) (fun c3 => ?_)
      · have h := h.1 c3
        refine Tj.bipush dX11_box_21 (by decide) (by decide +kernel) rfl ?_
        exact Tj.iret dX11_box_23 rfl h
      · have h := h.2 c3
        refine Tj.aload_n dX11_box_24 rfl rfl ?_
        refine Tj.getR (b := 10) dX11_box_25 fl_X11_19 sh_0 rfl rfl ?_
        refine Tj.aload_n dX11_box_28 rfl rfl ?_
        refine Tj.getR (b := 1) dX11_box_29 fl_X11_10 sh_0 rfl rfl ?_
        refine Tj.callVv (as := [_]) (rest := []) dX11_box_32 ln_X11_83 sh_10 (by decide) rfl rfl (Nat.le_of_ble_eq_true rfl) ⟨Nat.le_of_ble_eq_true rfl, Nat.le_of_ble_eq_true rfl⟩ (Nat.le_of_ble_eq_true rfl) rfl ?_
        refine Clv.mono h (fun m4 h => ?_)
        refine Tj.iconst dX11_box_35 (by decide) rfl ?_
        refine Tj.istore dX11_box_36 (Nat.le_of_ble_eq_true rfl) rfl rfl ?_
        refine Tj.iconst dX11_box_38 (by decide) rfl ?_
        refine Tj.istore dX11_box_39 (Nat.le_of_ble_eq_true rfl) rfl rfl ?_
        exact Tj.cut h ⟨rfl, ⟨rfl, ⟨rfl, ⟨rfl, ⟨rfl, ⟨rfl, trivial⟩⟩⟩⟩⟩⟩

theorem wX11_box_41 {m : tM} {P : Option tV → tM → Prop} {x1 : Int} {x2 : Int} {x3 : Int} {x4 : Int} {x5 : Int}  (h : (x5 < x2 → ((R32 ((bShl 1 x1) - 1) ∧ R32 (4 * x5) ∧ R32 (x5 + 1)) ∧ (Tj mX11_box 41 [some (rV 0), some (iV x1), some (iV x2), some (iV x3), some (iV (bOr x4 (bShl ((bShl 1 x1) - 1) (4 * x5)))), some (iV (x5 + 1))] [] m P))) ∧ (¬ x5 < x2 → (Tj mX11_box 71 [some (rV 0), some (iV x1), some (iV x2), some (iV x3), some (iV x4), some (iV 0)] [] m P))) : Tj mX11_box 41 [some (rV 0), some (iV x1), some (iV x2), some (iV x3), some (iV x4), some (iV x5)] [] m P := by
  refine Tj.iload dX11_box_41 rfl rfl ?_
  refine Tj.iload_n dX11_box_43 rfl rfl ?_
  refine Tj.icmp_ge dX11_box_44 rfl rfl (fun c1 => ?_) (fun c1 => ?_)
  · have h := h.1 c1
    obtain ⟨⟨o1, o2, o3⟩, h⟩ := h
    refine Tj.iload dX11_box_47 rfl rfl ?_
    refine Tj.iconst dX11_box_49 (by decide) rfl ?_
    refine Tj.iload_n dX11_box_50 rfl rfl ?_
    refine Tj.ishl dX11_box_51 rfl ?_
    refine Tj.iconst dX11_box_52 (by decide) rfl ?_
    refine Tj.isub dX11_box_53 o1 rfl ?_
    refine Tj.iconst dX11_box_54 (by decide) rfl ?_
    refine Tj.iload dX11_box_55 rfl rfl ?_
    refine Tj.imul dX11_box_57 o2 rfl ?_
    refine Tj.ishl dX11_box_58 rfl ?_
    refine Tj.ior dX11_box_59 rfl ?_
    refine Tj.istore dX11_box_60 (Nat.le_of_ble_eq_true rfl) rfl rfl ?_
    refine Tj.iinc dX11_box_62 rfl (Nat.le_of_ble_eq_true rfl) rfl o3 rfl ?_
    refine Tj.goto dX11_box_65 rfl ?_
    exact Tj.cut h ⟨rfl, ⟨rfl, ⟨rfl, ⟨rfl, ⟨rfl, ⟨rfl, trivial⟩⟩⟩⟩⟩⟩
  · have h := h.2 c1
    refine Tj.iconst dX11_box_68 (by decide) rfl ?_
    refine Tj.istore dX11_box_69 (Nat.le_of_ble_eq_true rfl) rfl rfl ?_
    exact Tj.cut h ⟨rfl, ⟨rfl, ⟨rfl, ⟨rfl, ⟨rfl, ⟨rfl, trivial⟩⟩⟩⟩⟩⟩

theorem wX11_box_71 {m : tM} {P : Option tV → tM → Prop} {x1 : Int} {x2 : Int} {x3 : Int} {x4 : Int} {x5 : Int}  (h : (x5 < 4 → ((x5 < x3 → (Clv mX1_put [rV 2, iV x5, iV x4] m (fun m1 => ((R32 (x5 + 1)) ∧ (Tj mX11_box 71 [some (rV 0), some (iV x1), some (iV x2), some (iV x3), some (iV x4), some (iV (x5 + 1))] [] m1 P))))) ∧ (¬ x5 < x3 → (Clv mX1_take [rV 2, iV x5] m (fun m2 => ((R32 (x5 + 1)) ∧ (Tj mX11_box 71 [some (rV 0), some (iV x1), some (iV x2), some (iV x3), some (iV x4), some (iV (x5 + 1))] [] m2 P))))))) ∧ (¬ x5 < 4 → (Clv mX11_bodyHasChanged [rV 0] m (fun m3 => ((R32 (x1 * x2) ∧ R32 ((x1 * x2) * x3)) ∧ (P (some (iV ((x1 * x2) * x3))) m3)))))) : Tj mX11_box 71 [some (rV 0), some (iV x1), some (iV x2), some (iV x3), some (iV x4), some (iV x5)] [] m P := by
  refine Tj.iload dX11_box_71 rfl rfl ?_
  refine Tj.iconst dX11_box_73 (by decide) rfl ?_
  refine Tj.icmp_ge dX11_box_74 rfl rfl (fun c1 => ?_) (fun c1 => ?_)
  · have h := h.1 c1
    refine Tj.iload dX11_box_77 rfl rfl ?_
    refine Tj.iload_n dX11_box_79 rfl rfl ?_
    refine Tj.icmp_ge dX11_box_80 rfl rfl (fun c2 => ?_) (fun c2 => ?_)
    · have h := h.1 c2
      refine Tj.aload_n dX11_box_83 rfl rfl ?_
      refine Tj.getR (b := 1) dX11_box_84 fl_X11_10 sh_0 rfl rfl ?_
      refine Tj.getR (b := 2) dX11_box_87 fl_X11_87 sh_1 rfl rfl ?_
      refine Tj.iload dX11_box_90 rfl rfl ?_
      refine Tj.iload dX11_box_92 rfl rfl ?_
      refine Tj.callVv (as := [_, _]) (rest := []) dX11_box_94 ln_X11_91 sh_2 (by decide) rfl rfl (Nat.le_of_ble_eq_true rfl) ⟨Nat.le_of_ble_eq_true rfl, Nat.le_of_ble_eq_true rfl⟩ (Nat.le_of_ble_eq_true rfl) rfl ?_
      refine Clv.mono h (fun m1 h => ?_)
      obtain ⟨o1, h⟩ := h
      refine Tj.goto dX11_box_97 rfl ?_
      refine Tj.iinc dX11_box_112 rfl (Nat.le_of_ble_eq_true rfl) rfl o1 rfl ?_
      refine Tj.goto dX11_box_115 rfl ?_
      exact Tj.cut h ⟨rfl, ⟨rfl, ⟨rfl, ⟨rfl, ⟨rfl, ⟨rfl, trivial⟩⟩⟩⟩⟩⟩
    · have h := h.2 c2
      refine Tj.aload_n dX11_box_100 rfl rfl ?_
      refine Tj.getR (b := 1) dX11_box_101 fl_X11_10 sh_0 rfl rfl ?_
      refine Tj.getR (b := 2) dX11_box_104 fl_X11_87 sh_1 rfl rfl ?_
      refine Tj.iload dX11_box_107 rfl rfl ?_
      refine Tj.callVv (as := [_]) (rest := []) dX11_box_109 ln_X11_107 sh_2 (by decide) rfl rfl (Nat.le_of_ble_eq_true rfl) ⟨Nat.le_of_ble_eq_true rfl, Nat.le_of_ble_eq_true rfl⟩ (Nat.le_of_ble_eq_true rfl) rfl ?_
      refine Clv.mono h (fun m2 h => ?_)
      obtain ⟨o2, h⟩ := h
      refine Tj.iinc dX11_box_112 rfl (Nat.le_of_ble_eq_true rfl) rfl o2 rfl ?_
      refine Tj.goto dX11_box_115 rfl ?_
      exact Tj.cut h ⟨rfl, ⟨rfl, ⟨rfl, ⟨rfl, ⟨rfl, ⟨rfl, trivial⟩⟩⟩⟩⟩⟩
  · have h := h.2 c1
    refine Tj.aload_n dX11_box_118 rfl rfl ?_
    refine Tj.callVv (as := []) (rest := []) dX11_box_119 ln_X11_97 sh_0 (by decide) rfl rfl (Nat.le_of_ble_eq_true rfl) ⟨Nat.le_of_ble_eq_true rfl, Nat.le_of_ble_eq_true rfl⟩ (Nat.le_of_ble_eq_true rfl) rfl ?_
    refine Clv.mono h (fun m3 h => ?_)
    obtain ⟨⟨o3, o4⟩, h⟩ := h
    refine Tj.iload_n dX11_box_122 rfl rfl ?_
    refine Tj.iload_n dX11_box_123 rfl rfl ?_
    refine Tj.imul dX11_box_124 o3 rfl ?_
    refine Tj.iload_n dX11_box_125 rfl rfl ?_
    refine Tj.imul dX11_box_126 o4 rfl ?_
    exact Tj.iret dX11_box_127 rfl h

theorem wX11_well_0 {m : tM} {P : Option tV → tM → Prop}   (h : Cli mX9_fault [rV 109] m (fun r1 m1 => (P (some (iV r1)) m1))) : Tj mX11_well 0 [some (rV 0)] [] m P := by
  refine Tj.aload_n dX11_well_0 rfl rfl ?_
  refine Tj.getR (b := 109) dX11_well_1 fl_X11_33 sh_0 rfl rfl ?_
  refine Tj.callVi (as := []) (rest := []) dX11_well_4 ln_X11_124 sh_109 (by decide) rfl rfl (Nat.le_of_ble_eq_true rfl) ⟨Nat.le_of_ble_eq_true rfl, Nat.le_of_ble_eq_true rfl⟩ (Nat.le_of_ble_eq_true rfl) rfl ?_
  refine Cli.mono h (fun r1 m1 h => ?_)
  exact Tj.iret dX11_well_7 rfl h

theorem wX11_skin_0 {m : tM} {P : Option tV → tM → Prop}   (h : Cli mX9_size [rV 109] m (fun r1 m1 => (P (some (iV r1)) m1))) : Tj mX11_skin 0 [some (rV 0)] [] m P := by
  refine Tj.aload_n dX11_skin_0 rfl rfl ?_
  refine Tj.getR (b := 109) dX11_skin_1 fl_X11_33 sh_0 rfl rfl ?_
  refine Tj.callVi (as := []) (rest := []) dX11_skin_4 ln_X11_128 sh_109 (by decide) rfl rfl (Nat.le_of_ble_eq_true rfl) ⟨Nat.le_of_ble_eq_true rfl, Nat.le_of_ble_eq_true rfl⟩ (Nat.le_of_ble_eq_true rfl) rfl ?_
  refine Cli.mono h (fun r1 m1 h => ?_)
  exact Tj.iret dX11_skin_7 rfl h

theorem wX11_square_0 {m : tM} {P : Option tV → tM → Prop} {x1 : Int} {x2 : Int}  (h : Cli mX9_size [rV 109] m (fun r1 m1 => (Cli mX11_isWithin [iV x1, iV r1] m1 (fun r2 m2 => ((r2 = 0 → (P (some (iV (-3))) m2)) ∧ (¬ r2 = 0 → (Cli mX11_isWithin [iV x2, iV 4] m2 (fun r3 m3 => ((r3 = 0 → (P (some (iV (-3))) m3)) ∧ (¬ r3 = 0 → ((x2 = 3 → (Cli mX9_directionOf [rV 109, iV x1] m3 (fun r4 m4 => (P (some (iV r4)) m4)))) ∧ (¬ x2 = 3 → (Cli mX9_placeOf [rV 109, iV x1] m3 (fun r5 m5 => (Cli mX1_coordinate [iV r5, iV x2] m5 (fun r6 m6 => (P (some (iV r6)) m6))))))))))))))))) : Tj mX11_square 0 [some (rV 0), some (iV x1), some (iV x2)] [] m P := by
  refine Tj.iload_n dX11_square_0 rfl rfl ?_
  refine Tj.aload_n dX11_square_1 rfl rfl ?_
  refine Tj.getR (b := 109) dX11_square_2 fl_X11_33 sh_0 rfl rfl ?_
  refine Tj.callVi (as := []) (rest := [_]) dX11_square_5 ln_X11_128 sh_109 (by decide) rfl rfl (Nat.le_of_ble_eq_true rfl) ⟨Nat.le_of_ble_eq_true rfl, Nat.le_of_ble_eq_true rfl⟩ (Nat.le_of_ble_eq_true rfl) rfl ?_
  refine Cli.mono h (fun r1 m1 h => ?_)
  refine Tj.callSi (as := [_, _]) (rest := []) dX11_square_8 ln_X11_131 rfl rfl (Nat.le_of_ble_eq_true rfl) ⟨Nat.le_of_ble_eq_true rfl, Nat.le_of_ble_eq_true rfl⟩ (Nat.le_of_ble_eq_true rfl) rfl ?_
  refine Cli.mono h (fun r2 m2 h => ?_)
  refine Tj.if_eq dX11_square_11 rfl rfl (fun c1 => ?_) (fun c1 => ?_)
  · have h := h.1 c1
    refine Tj.bipush dX11_square_22 (by decide) (by decide +kernel) rfl ?_
    exact Tj.iret dX11_square_24 rfl h
  · have h := h.2 c1
    refine Tj.iload_n dX11_square_14 rfl rfl ?_
    refine Tj.iconst dX11_square_15 (by decide) rfl ?_
    refine Tj.callSi (as := [_, _]) (rest := []) dX11_square_16 ln_X11_131 rfl rfl (Nat.le_of_ble_eq_true rfl) ⟨Nat.le_of_ble_eq_true rfl, Nat.le_of_ble_eq_true rfl⟩ (Nat.le_of_ble_eq_true rfl) rfl ?_
    refine Cli.mono h (fun r3 m3 h => ?_)
    refine Tj.if_ne dX11_square_19 rfl rfl (fun c2 => ?_) (fun c2 => ?_)
    · have h := h.1 c2
      refine Tj.bipush dX11_square_22 (by decide) (by decide +kernel) rfl ?_
      exact Tj.iret dX11_square_24 rfl h
    · have h := h.2 c2
      refine Tj.iload_n dX11_square_25 rfl rfl ?_
      refine Tj.iconst dX11_square_26 (by decide) rfl ?_
      refine Tj.icmp_ne dX11_square_27 rfl rfl (fun c3 => ?_) (fun c3 => ?_)
      · have h := h.1 c3
        refine Tj.aload_n dX11_square_30 rfl rfl ?_
        refine Tj.getR (b := 109) dX11_square_31 fl_X11_33 sh_0 rfl rfl ?_
        refine Tj.iload_n dX11_square_34 rfl rfl ?_
        refine Tj.callVi (as := [_]) (rest := []) dX11_square_35 ln_X11_134 sh_109 (by decide) rfl rfl (Nat.le_of_ble_eq_true rfl) ⟨Nat.le_of_ble_eq_true rfl, Nat.le_of_ble_eq_true rfl⟩ (Nat.le_of_ble_eq_true rfl) rfl ?_
        refine Cli.mono h (fun r4 m4 h => ?_)
        exact Tj.iret dX11_square_38 rfl h
      · have h := h.2 c3
        refine Tj.aload_n dX11_square_39 rfl rfl ?_
        refine Tj.getR (b := 109) dX11_square_40 fl_X11_33 sh_0 rfl rfl ?_
        refine Tj.iload_n dX11_square_43 rfl rfl ?_
        refine Tj.callVi (as := [_]) (rest := []) dX11_square_44 ln_X11_137 sh_109 (by decide) rfl rfl (Nat.le_of_ble_eq_true rfl) ⟨Nat.le_of_ble_eq_true rfl, Nat.le_of_ble_eq_true rfl⟩ (Nat.le_of_ble_eq_true rfl) rfl ?_
        refine Cli.mono h (fun r5 m5 h => ?_)
        refine Tj.iload_n dX11_square_47 rfl rfl ?_
        refine Tj.callSi (as := [_, _]) (rest := []) dX11_square_48 ln_X11_140 rfl rfl (Nat.le_of_ble_eq_true rfl) ⟨Nat.le_of_ble_eq_true rfl, Nat.le_of_ble_eq_true rfl⟩ (Nat.le_of_ble_eq_true rfl) rfl ?_
        refine Cli.mono h (fun r6 m6 h => ?_)
        exact Tj.iret dX11_square_51 rfl h

theorem wX11_across_0 {m : tM} {P : Option tV → tM → Prop} {x1 : Int} {x2 : Int} {x3 : Int}  (h : Cli mX9_size [rV 109] m (fun r1 m1 => (Cli mX11_isWithin [iV x1, iV r1] m1 (fun r2 m2 => ((r2 = 0 → (P (some (iV (-3))) m2)) ∧ (¬ r2 = 0 → (Cli mX11_isWithin [iV x2, iV 4] m2 (fun r3 m3 => ((r3 = 0 → (P (some (iV (-3))) m3)) ∧ (¬ r3 = 0 → (Cli mX11_isWithin [iV x3, iV 4] m3 (fun r4 m4 => ((r4 = 0 → (P (some (iV (-3))) m4)) ∧ (¬ r4 = 0 → (Cli mX9_fault [rV 109] m4 (fun r5 m5 => ((r5 = 0 → ((x3 = 0 → (Cli mX9_squareAcross [rV 109, iV x1, iV x2] m5 (fun r6 m6 => (P (some (iV r6)) m6)))) ∧ (x3 = 1 → (Cli mX9_sideAcross [rV 109, iV x1, iV x2] m5 (fun r7 m7 => (P (some (iV r7)) m7)))) ∧ (x3 = 2 → (Cli mX9_bendAcross [rV 109, iV x1, iV x2] m5 (fun r8 m8 => (Cli mX11_toldStep [iV r8] m8 (fun r9 m9 => (P (some (iV r9)) m9)))))) ∧ (¬ x3 = 0 → ¬ x3 = 1 → ¬ x3 = 2 → (Cli mX2_isCut [rV 4, iV x1, iV x2] m5 (fun r10 m10 => (∀ v1 : Int, v1 = (if r10 = 0 then 0 else 1) → (P (some (iV v1)) m10))))))) ∧ (¬ r5 = 0 → (P (some (iV (-4))) m5))))))))))))))))))) : Tj mX11_across 0 [some (rV 0), some (iV x1), some (iV x2), some (iV x3)] [] m P := by
  refine Tj.iload_n dX11_across_0 rfl rfl ?_
  refine Tj.aload_n dX11_across_1 rfl rfl ?_
  refine Tj.getR (b := 109) dX11_across_2 fl_X11_33 sh_0 rfl rfl ?_
  refine Tj.callVi (as := []) (rest := [_]) dX11_across_5 ln_X11_128 sh_109 (by decide) rfl rfl (Nat.le_of_ble_eq_true rfl) ⟨Nat.le_of_ble_eq_true rfl, Nat.le_of_ble_eq_true rfl⟩ (Nat.le_of_ble_eq_true rfl) rfl ?_
  refine Cli.mono h (fun r1 m1 h => ?_)
  refine Tj.callSi (as := [_, _]) (rest := []) dX11_across_8 ln_X11_131 rfl rfl (Nat.le_of_ble_eq_true rfl) ⟨Nat.le_of_ble_eq_true rfl, Nat.le_of_ble_eq_true rfl⟩ (Nat.le_of_ble_eq_true rfl) rfl ?_
  refine Cli.mono h (fun r2 m2 h => ?_)
  refine Tj.if_eq dX11_across_11 rfl rfl (fun c1 => ?_) (fun c1 => ?_)
  · have h := h.1 c1
    refine Tj.bipush dX11_across_30 (by decide) (by decide +kernel) rfl ?_
    exact Tj.iret dX11_across_32 rfl h
  · have h := h.2 c1
    refine Tj.iload_n dX11_across_14 rfl rfl ?_
    refine Tj.iconst dX11_across_15 (by decide) rfl ?_
    refine Tj.callSi (as := [_, _]) (rest := []) dX11_across_16 ln_X11_131 rfl rfl (Nat.le_of_ble_eq_true rfl) ⟨Nat.le_of_ble_eq_true rfl, Nat.le_of_ble_eq_true rfl⟩ (Nat.le_of_ble_eq_true rfl) rfl ?_
    refine Cli.mono h (fun r3 m3 h => ?_)
    refine Tj.if_eq dX11_across_19 rfl rfl (fun c2 => ?_) (fun c2 => ?_)
    · have h := h.1 c2
      refine Tj.bipush dX11_across_30 (by decide) (by decide +kernel) rfl ?_
      exact Tj.iret dX11_across_32 rfl h
    · have h := h.2 c2
      refine Tj.iload_n dX11_across_22 rfl rfl ?_
      refine Tj.iconst dX11_across_23 (by decide) rfl ?_
      refine Tj.callSi (as := [_, _]) (rest := []) dX11_across_24 ln_X11_131 rfl rfl (Nat.le_of_ble_eq_true rfl) ⟨Nat.le_of_ble_eq_true rfl, Nat.le_of_ble_eq_true rfl⟩ (Nat.le_of_ble_eq_true rfl) rfl ?_
      refine Cli.mono h (fun r4 m4 h => ?_)
      refine Tj.if_ne dX11_across_27 rfl rfl (fun c3 => ?_) (fun c3 => ?_)
      · have h := h.1 c3
        refine Tj.bipush dX11_across_30 (by decide) (by decide +kernel) rfl ?_
        exact Tj.iret dX11_across_32 rfl h
      · have h := h.2 c3
        refine Tj.aload_n dX11_across_33 rfl rfl ?_
        refine Tj.getR (b := 109) dX11_across_34 fl_X11_33 sh_0 rfl rfl ?_
        refine Tj.callVi (as := []) (rest := []) dX11_across_37 ln_X11_124 sh_109 (by decide) rfl rfl (Nat.le_of_ble_eq_true rfl) ⟨Nat.le_of_ble_eq_true rfl, Nat.le_of_ble_eq_true rfl⟩ (Nat.le_of_ble_eq_true rfl) rfl ?_
        refine Cli.mono h (fun r5 m5 h => ?_)
        refine Tj.if_eq dX11_across_40 rfl rfl (fun c4 => ?_) (fun c4 => ?_)
        · have h := h.1 c4
          refine Tj.iload_n dX11_across_46 rfl rfl ?_
          show Tj mX11_across 47 [some (rV 0), some (iV x1), some (iV x2), some (iV x3)] [iV x3] m5 P
          by_cases c5 : x3 = 0
          · have h := h.1 c5
            refine Tj.tsI (v := 0) dX11_across_47 c5 (by decide) (by decide) rfl rfl ?_
            refine Tj.aload_n dX11_across_72 rfl rfl ?_
            refine Tj.getR (b := 109) dX11_across_73 fl_X11_33 sh_0 rfl rfl ?_
            refine Tj.iload_n dX11_across_76 rfl rfl ?_
            refine Tj.iload_n dX11_across_77 rfl rfl ?_
            refine Tj.callVi (as := [_, _]) (rest := []) dX11_across_78 ln_X11_144 sh_109 (by decide) rfl rfl (Nat.le_of_ble_eq_true rfl) ⟨Nat.le_of_ble_eq_true rfl, Nat.le_of_ble_eq_true rfl⟩ (Nat.le_of_ble_eq_true rfl) rfl ?_
            refine Cli.mono h (fun r6 m6 h => ?_)
            exact Tj.iret dX11_across_81 rfl h
          have h := h.2
          by_cases c6 : x3 = 1
          · have h := h.1 c6
            refine Tj.tsI (v := 1) dX11_across_47 c6 (by decide) (by decide) rfl rfl ?_
            refine Tj.aload_n dX11_across_82 rfl rfl ?_
            refine Tj.getR (b := 109) dX11_across_83 fl_X11_33 sh_0 rfl rfl ?_
            refine Tj.iload_n dX11_across_86 rfl rfl ?_
            refine Tj.iload_n dX11_across_87 rfl rfl ?_
            refine Tj.callVi (as := [_, _]) (rest := []) dX11_across_88 ln_X11_147 sh_109 (by decide) rfl rfl (Nat.le_of_ble_eq_true rfl) ⟨Nat.le_of_ble_eq_true rfl, Nat.le_of_ble_eq_true rfl⟩ (Nat.le_of_ble_eq_true rfl) rfl ?_
            refine Cli.mono h (fun r7 m7 h => ?_)
            exact Tj.iret dX11_across_91 rfl h
          have h := h.2
          by_cases c7 : x3 = 2
          · have h := h.1 c7
            refine Tj.tsI (v := 2) dX11_across_47 c7 (by decide) (by decide) rfl rfl ?_
            refine Tj.aload_n dX11_across_92 rfl rfl ?_
            refine Tj.getR (b := 109) dX11_across_93 fl_X11_33 sh_0 rfl rfl ?_
            refine Tj.iload_n dX11_across_96 rfl rfl ?_
            refine Tj.iload_n dX11_across_97 rfl rfl ?_
            refine Tj.callVi (as := [_, _]) (rest := []) dX11_across_98 ln_X11_150 sh_109 (by decide) rfl rfl (Nat.le_of_ble_eq_true rfl) ⟨Nat.le_of_ble_eq_true rfl, Nat.le_of_ble_eq_true rfl⟩ (Nat.le_of_ble_eq_true rfl) rfl ?_
            refine Cli.mono h (fun r8 m8 h => ?_)
            refine Tj.callSi (as := [_]) (rest := []) dX11_across_101 ln_X11_153 rfl rfl (Nat.le_of_ble_eq_true rfl) ⟨Nat.le_of_ble_eq_true rfl, Nat.le_of_ble_eq_true rfl⟩ (Nat.le_of_ble_eq_true rfl) rfl ?_
            refine Cli.mono h (fun r9 m9 h => ?_)
            exact Tj.iret dX11_across_104 rfl h
          have h := h.2
          have h := h c5 c6 c7
          refine Tj.tsO dX11_across_47 (by omega) rfl ?_
          refine Tj.aload_n dX11_across_105 rfl rfl ?_
          refine Tj.getR (b := 1) dX11_across_106 fl_X11_10 sh_0 rfl rfl ?_
          refine Tj.getR (b := 4) dX11_across_109 fl_X11_156 sh_1 rfl rfl ?_
          refine Tj.iload_n dX11_across_112 rfl rfl ?_
          refine Tj.iload_n dX11_across_113 rfl rfl ?_
          refine Tj.callVi (as := [_, _]) (rest := []) dX11_across_114 ln_X11_160 sh_4 (by decide) rfl rfl (Nat.le_of_ble_eq_true rfl) ⟨Nat.le_of_ble_eq_true rfl, Nat.le_of_ble_eq_true rfl⟩ (Nat.le_of_ble_eq_true rfl) rfl ?_
          refine Cli.mono h (fun r10 m10 h => ?_)
          have hj : Tj mX11_across 125 [] [iV (if r10 = 0 then 0 else 1)] m10 P := by
            generalize hv1 : (if r10 = 0 then 0 else 1) = v1
            have h := h v1 hv1.symm
            exact Tj.iret dX11_across_125 rfl h
          refine Tj.if_eq dX11_across_117 rfl rfl (fun c8 => ?_) (fun c8 => ?_)
          · refine Tj.iconst dX11_across_124 (by decide) rfl ?_
            try simp only [if_pos c8] at hj ⊢
            exact Tj.cut hj trivial
          · refine Tj.iconst dX11_across_120 (by decide) rfl ?_
            refine Tj.goto dX11_across_121 rfl ?_
            try simp only [if_neg c8] at hj ⊢
            exact Tj.cut hj trivial
        · have h := h.2 c4
          refine Tj.bipush dX11_across_43 (by decide) (by decide +kernel) rfl ?_
          exact Tj.iret dX11_across_45 rfl h

theorem wX11_cut_0 {m : tM} {P : Option tV → tM → Prop} {x1 : Int} {x2 : Int} {x3 : Int}  (h : Cli mX9_size [rV 109] m (fun r1 m1 => (Cli mX11_isWithin [iV x1, iV r1] m1 (fun r2 m2 => ((r2 = 0 → (P (some (iV (-3))) m2)) ∧ (¬ r2 = 0 → (Cli mX11_isWithin [iV x2, iV 4] m2 (fun r3 m3 => ((r3 = 0 → (P (some (iV (-3))) m3)) ∧ (¬ r3 = 0 → (Cli mX11_isSwitch [iV x3] m3 (fun r4 m4 => ((r4 = 0 → (P (some (iV (-3))) m4)) ∧ (¬ r4 = 0 → (Cli mX9_fault [rV 109] m4 (fun r5 m5 => ((r5 = 0 → (Clv mX7_keep [rV 10, rV 1] m5 (fun m6 => (Cli mX2_isCut [rV 4, iV x1, iV x2] m6 (fun r6 m7 => (∀ v1 : Int, v1 = (if r6 = 0 then 0 else 1) → (∀ v2 : Int, v2 = (if x3 = 1 then 1 else 0) → (Clv mX2_mark [rV 4, iV x1, iV x2, iV v2] m7 (fun m8 => (Cli mX9_squareAcross [rV 109, iV x1, iV x2] m8 (fun r7 m9 => (Cli mX9_sideAcross [rV 109, iV x1, iV x2] m9 (fun r8 m10 => (∀ v3 : Int, v3 = (if x3 = 1 then 1 else 0) → (Clv mX2_mark [rV 4, iV r7, iV r8, iV v3] m10 (fun m11 => (P (some (iV v1)) m11))))))))))))))))) ∧ (¬ r5 = 0 → (P (some (iV (-4))) m5))))))))))))))))))) : Tj mX11_cut 0 [some (rV 0), some (iV x1), some (iV x2), some (iV x3)] [] m P := by
  refine Tj.iload_n dX11_cut_0 rfl rfl ?_
  refine Tj.aload_n dX11_cut_1 rfl rfl ?_
  refine Tj.getR (b := 109) dX11_cut_2 fl_X11_33 sh_0 rfl rfl ?_
  refine Tj.callVi (as := []) (rest := [_]) dX11_cut_5 ln_X11_128 sh_109 (by decide) rfl rfl (Nat.le_of_ble_eq_true rfl) ⟨Nat.le_of_ble_eq_true rfl, Nat.le_of_ble_eq_true rfl⟩ (Nat.le_of_ble_eq_true rfl) rfl ?_
  refine Cli.mono h (fun r1 m1 h => ?_)
  refine Tj.callSi (as := [_, _]) (rest := []) dX11_cut_8 ln_X11_131 rfl rfl (Nat.le_of_ble_eq_true rfl) ⟨Nat.le_of_ble_eq_true rfl, Nat.le_of_ble_eq_true rfl⟩ (Nat.le_of_ble_eq_true rfl) rfl ?_
  refine Cli.mono h (fun r2 m2 h => ?_)
  refine Tj.if_eq dX11_cut_11 rfl rfl (fun c1 => ?_) (fun c1 => ?_)
  · have h := h.1 c1
    refine Tj.bipush dX11_cut_29 (by decide) (by decide +kernel) rfl ?_
    exact Tj.iret dX11_cut_31 rfl h
  · have h := h.2 c1
    refine Tj.iload_n dX11_cut_14 rfl rfl ?_
    refine Tj.iconst dX11_cut_15 (by decide) rfl ?_
    refine Tj.callSi (as := [_, _]) (rest := []) dX11_cut_16 ln_X11_131 rfl rfl (Nat.le_of_ble_eq_true rfl) ⟨Nat.le_of_ble_eq_true rfl, Nat.le_of_ble_eq_true rfl⟩ (Nat.le_of_ble_eq_true rfl) rfl ?_
    refine Cli.mono h (fun r3 m3 h => ?_)
    refine Tj.if_eq dX11_cut_19 rfl rfl (fun c2 => ?_) (fun c2 => ?_)
    · have h := h.1 c2
      refine Tj.bipush dX11_cut_29 (by decide) (by decide +kernel) rfl ?_
      exact Tj.iret dX11_cut_31 rfl h
    · have h := h.2 c2
      refine Tj.iload_n dX11_cut_22 rfl rfl ?_
      refine Tj.callSi (as := [_]) (rest := []) dX11_cut_23 ln_X11_111 rfl rfl (Nat.le_of_ble_eq_true rfl) ⟨Nat.le_of_ble_eq_true rfl, Nat.le_of_ble_eq_true rfl⟩ (Nat.le_of_ble_eq_true rfl) rfl ?_
      refine Cli.mono h (fun r4 m4 h => ?_)
      refine Tj.if_ne dX11_cut_26 rfl rfl (fun c3 => ?_) (fun c3 => ?_)
      · have h := h.1 c3
        refine Tj.bipush dX11_cut_29 (by decide) (by decide +kernel) rfl ?_
        exact Tj.iret dX11_cut_31 rfl h
      · have h := h.2 c3
        refine Tj.aload_n dX11_cut_32 rfl rfl ?_
        refine Tj.getR (b := 109) dX11_cut_33 fl_X11_33 sh_0 rfl rfl ?_
        refine Tj.callVi (as := []) (rest := []) dX11_cut_36 ln_X11_124 sh_109 (by decide) rfl rfl (Nat.le_of_ble_eq_true rfl) ⟨Nat.le_of_ble_eq_true rfl, Nat.le_of_ble_eq_true rfl⟩ (Nat.le_of_ble_eq_true rfl) rfl ?_
        refine Cli.mono h (fun r5 m5 h => ?_)
        refine Tj.if_eq dX11_cut_39 rfl rfl (fun c4 => ?_) (fun c4 => ?_)
        · have h := h.1 c4
          refine Tj.aload_n dX11_cut_45 rfl rfl ?_
          refine Tj.getR (b := 10) dX11_cut_46 fl_X11_19 sh_0 rfl rfl ?_
          refine Tj.aload_n dX11_cut_49 rfl rfl ?_
          refine Tj.getR (b := 1) dX11_cut_50 fl_X11_10 sh_0 rfl rfl ?_
          refine Tj.callVv (as := [_]) (rest := []) dX11_cut_53 ln_X11_83 sh_10 (by decide) rfl rfl (Nat.le_of_ble_eq_true rfl) ⟨Nat.le_of_ble_eq_true rfl, Nat.le_of_ble_eq_true rfl⟩ (Nat.le_of_ble_eq_true rfl) rfl ?_
          refine Clv.mono h (fun m6 h => ?_)
          refine Tj.aload_n dX11_cut_56 rfl rfl ?_
          refine Tj.getR (b := 1) dX11_cut_57 fl_X11_10 sh_0 rfl rfl ?_
          refine Tj.getR (b := 4) dX11_cut_60 fl_X11_156 sh_1 rfl rfl ?_
          refine Tj.iload_n dX11_cut_63 rfl rfl ?_
          refine Tj.iload_n dX11_cut_64 rfl rfl ?_
          refine Tj.callVi (as := [_, _]) (rest := []) dX11_cut_65 ln_X11_160 sh_4 (by decide) rfl rfl (Nat.le_of_ble_eq_true rfl) ⟨Nat.le_of_ble_eq_true rfl, Nat.le_of_ble_eq_true rfl⟩ (Nat.le_of_ble_eq_true rfl) rfl ?_
          refine Cli.mono h (fun r6 m7 h => ?_)
          have hj : Tj mX11_cut 76 [some (rV 0), some (iV x1), some (iV x2), some (iV x3)] [iV (if r6 = 0 then 0 else 1)] m7 P := by
            generalize hv1 : (if r6 = 0 then 0 else 1) = v1
            have h := h v1 hv1.symm
            refine Tj.istore dX11_cut_76 (Nat.le_of_ble_eq_true rfl) rfl rfl ?_
            refine Tj.aload_n dX11_cut_78 rfl rfl ?_
            refine Tj.getR (b := 1) dX11_cut_79 fl_X11_10 sh_0 rfl rfl ?_
            refine Tj.getR (b := 4) dX11_cut_82 fl_X11_156 sh_1 rfl rfl ?_
            refine Tj.iload_n dX11_cut_85 rfl rfl ?_
            refine Tj.iload_n dX11_cut_86 rfl rfl ?_
            refine Tj.iload_n dX11_cut_87 rfl rfl ?_
            refine Tj.iconst dX11_cut_88 (by decide) rfl ?_
            have hj : Tj mX11_cut 97 [some (rV 0), some (iV x1), some (iV x2), some (iV x3), some (iV v1)] [iV (if x3 = 1 then 1 else 0), iV x2, iV x1, rV 4] m7 P := by
              generalize hv2 : (if x3 = 1 then 1 else 0) = v2
              have h := h v2 hv2.symm
              refine Tj.callVv (as := [_, _, _]) (rest := []) dX11_cut_97 ln_X11_165 sh_4 (by decide) rfl rfl (Nat.le_of_ble_eq_true rfl) ⟨Nat.le_of_ble_eq_true rfl, Nat.le_of_ble_eq_true rfl⟩ (Nat.le_of_ble_eq_true rfl) rfl ?_
              refine Clv.mono h (fun m8 h => ?_)
              refine Tj.aload_n dX11_cut_100 rfl rfl ?_
              refine Tj.getR (b := 1) dX11_cut_101 fl_X11_10 sh_0 rfl rfl ?_
              refine Tj.getR (b := 4) dX11_cut_104 fl_X11_156 sh_1 rfl rfl ?_
              refine Tj.aload_n dX11_cut_107 rfl rfl ?_
              refine Tj.getR (b := 109) dX11_cut_108 fl_X11_33 sh_0 rfl rfl ?_
              refine Tj.iload_n dX11_cut_111 rfl rfl ?_
              refine Tj.iload_n dX11_cut_112 rfl rfl ?_
              refine Tj.callVi (as := [_, _]) (rest := [_]) dX11_cut_113 ln_X11_144 sh_109 (by decide) rfl rfl (Nat.le_of_ble_eq_true rfl) ⟨Nat.le_of_ble_eq_true rfl, Nat.le_of_ble_eq_true rfl⟩ (Nat.le_of_ble_eq_true rfl) rfl ?_
              refine Cli.mono h (fun r7 m9 h => ?_)
              refine Tj.aload_n dX11_cut_116 rfl rfl ?_
              refine Tj.getR (b := 109) dX11_cut_117 fl_X11_33 sh_0 rfl rfl ?_
              refine Tj.iload_n dX11_cut_120 rfl rfl ?_
              refine Tj.iload_n dX11_cut_121 rfl rfl ?_
              refine Tj.callVi (as := [_, _]) (rest := [_, _]) dX11_cut_122 ln_X11_147 sh_109 (by decide) rfl rfl (Nat.le_of_ble_eq_true rfl) ⟨Nat.le_of_ble_eq_true rfl, Nat.le_of_ble_eq_true rfl⟩ (Nat.le_of_ble_eq_true rfl) rfl ?_
              refine Cli.mono h (fun r8 m10 h => ?_)
              refine Tj.iload_n dX11_cut_125 rfl rfl ?_
              refine Tj.iconst dX11_cut_126 (by decide) rfl ?_
              have hj : Tj mX11_cut 135 [none, none, none, none, some (iV v1)] [iV (if x3 = 1 then 1 else 0), iV r8, iV r7, rV 4] m10 P := by
                generalize hv3 : (if x3 = 1 then 1 else 0) = v3
                have h := h v3 hv3.symm
                refine Tj.callVv (as := [_, _, _]) (rest := []) dX11_cut_135 ln_X11_165 sh_4 (by decide) rfl rfl (Nat.le_of_ble_eq_true rfl) ⟨Nat.le_of_ble_eq_true rfl, Nat.le_of_ble_eq_true rfl⟩ (Nat.le_of_ble_eq_true rfl) rfl ?_
                refine Clv.mono h (fun m11 h => ?_)
                refine Tj.iload dX11_cut_138 rfl rfl ?_
                exact Tj.iret dX11_cut_140 rfl h
              refine Tj.icmp_ne dX11_cut_127 rfl rfl (fun c7 => ?_) (fun c7 => ?_)
              · refine Tj.iconst dX11_cut_130 (by decide) rfl ?_
                refine Tj.goto dX11_cut_131 rfl ?_
                try simp only [if_pos c7] at hj ⊢
                exact Tj.cut hj ⟨rfl, trivial⟩
              · refine Tj.iconst dX11_cut_134 (by decide) rfl ?_
                try simp only [if_neg c7] at hj ⊢
                exact Tj.cut hj ⟨rfl, trivial⟩
            refine Tj.icmp_ne dX11_cut_89 rfl rfl (fun c6 => ?_) (fun c6 => ?_)
            · refine Tj.iconst dX11_cut_92 (by decide) rfl ?_
              refine Tj.goto dX11_cut_93 rfl ?_
              try simp only [if_pos c6] at hj ⊢
              exact Tj.cut hj ⟨rfl, ⟨rfl, ⟨rfl, ⟨rfl, ⟨rfl, trivial⟩⟩⟩⟩⟩
            · refine Tj.iconst dX11_cut_96 (by decide) rfl ?_
              try simp only [if_neg c6] at hj ⊢
              exact Tj.cut hj ⟨rfl, ⟨rfl, ⟨rfl, ⟨rfl, ⟨rfl, trivial⟩⟩⟩⟩⟩
          refine Tj.if_eq dX11_cut_68 rfl rfl (fun c5 => ?_) (fun c5 => ?_)
          · refine Tj.iconst dX11_cut_75 (by decide) rfl ?_
            try simp only [if_pos c5] at hj ⊢
            exact Tj.cut hj ⟨rfl, ⟨rfl, ⟨rfl, ⟨rfl, trivial⟩⟩⟩⟩
          · refine Tj.iconst dX11_cut_71 (by decide) rfl ?_
            refine Tj.goto dX11_cut_72 rfl ?_
            try simp only [if_neg c5] at hj ⊢
            exact Tj.cut hj ⟨rfl, ⟨rfl, ⟨rfl, ⟨rfl, trivial⟩⟩⟩⟩
        · have h := h.2 c4
          refine Tj.bipush dX11_cut_42 (by decide) (by decide +kernel) rfl ?_
          exact Tj.iret dX11_cut_44 rfl h

theorem wX11_cuts_0 {m : tM} {P : Option tV → tM → Prop}   (h : Cli mX2_marks [rV 4] m (fun r1 m1 => ((0 ≤ r1) ∧ (P (some (iV (r1 / 2))) m1)))) : Tj mX11_cuts 0 [some (rV 0)] [] m P := by
  refine Tj.aload_n dX11_cuts_0 rfl rfl ?_
  refine Tj.getR (b := 1) dX11_cuts_1 fl_X11_10 sh_0 rfl rfl ?_
  refine Tj.getR (b := 4) dX11_cuts_4 fl_X11_156 sh_1 rfl rfl ?_
  refine Tj.callVi (as := []) (rest := []) dX11_cuts_7 ln_X11_169 sh_4 (by decide) rfl rfl (Nat.le_of_ble_eq_true rfl) ⟨Nat.le_of_ble_eq_true rfl, Nat.le_of_ble_eq_true rfl⟩ (Nat.le_of_ble_eq_true rfl) rfl ?_
  refine Cli.mono h (fun r1 m1 h => ?_)
  obtain ⟨o1, h⟩ := h
  refine Tj.iconst dX11_cuts_10 (by decide) rfl ?_
  refine Tj.idiv dX11_cuts_11 o1 (by decide) rfl ?_
  exact Tj.iret dX11_cuts_12 rfl h

theorem wX11_open_0 {m : tM} {P : Option tV → tM → Prop}   (h : Cli mX9_fault [rV 109] m (fun r1 m1 => ((r1 = 0 → (Cli mX9_size [rV 109] m1 (fun r2 m2 => ((60 < r2 → (P (some (iV (-5))) m2)) ∧ (¬ 60 < r2 → (Cli mX5_lay [rV 115, rV 109, rV 4] m2 (fun r3 m3 => ((r3 = 0 → (Cli mX5_isWithinReach [rV 115] m3 (fun r4 m4 => ((r4 = 0 → (P (some (iV (-3))) m4)) ∧ (¬ r4 = 0 → (Clv mX7_keep [rV 10, rV 1] m4 (fun m5 => (Clv mX5_drawOn [rV 115, rV 6, rV 109, rV 4] m5 (fun m6 => (Cli mX8_creaseCount [rV 6] m6 (fun r5 m7 => (P (some (iV r5)) m7)))))))))))) ∧ (¬ r3 = 0 → ((R32 ((-20) - r3)) ∧ (P (some (iV ((-20) - r3))) m3))))))))))) ∧ (¬ r1 = 0 → (P (some (iV (-4))) m1))))) : Tj mX11_open 0 [some (rV 0)] [] m P := by
  refine Tj.aload_n dX11_open_0 rfl rfl ?_
  refine Tj.getR (b := 109) dX11_open_1 fl_X11_33 sh_0 rfl rfl ?_
  refine Tj.callVi (as := []) (rest := []) dX11_open_4 ln_X11_124 sh_109 (by decide) rfl rfl (Nat.le_of_ble_eq_true rfl) ⟨Nat.le_of_ble_eq_true rfl, Nat.le_of_ble_eq_true rfl⟩ (Nat.le_of_ble_eq_true rfl) rfl ?_
  refine Cli.mono h (fun r1 m1 h => ?_)
  refine Tj.if_eq dX11_open_7 rfl rfl (fun c1 => ?_) (fun c1 => ?_)
  · have h := h.1 c1
    refine Tj.aload_n dX11_open_13 rfl rfl ?_
    refine Tj.getR (b := 109) dX11_open_14 fl_X11_33 sh_0 rfl rfl ?_
    refine Tj.callVi (as := []) (rest := []) dX11_open_17 ln_X11_128 sh_109 (by decide) rfl rfl (Nat.le_of_ble_eq_true rfl) ⟨Nat.le_of_ble_eq_true rfl, Nat.le_of_ble_eq_true rfl⟩ (Nat.le_of_ble_eq_true rfl) rfl ?_
    refine Cli.mono h (fun r2 m2 h => ?_)
    refine Tj.bipush dX11_open_20 (by decide) (by decide +kernel) rfl ?_
    refine Tj.icmp_le dX11_open_22 rfl rfl (fun c2 => ?_) (fun c2 => ?_)
    · have h := h.1 c2
      refine Tj.bipush dX11_open_25 (by decide) (by decide +kernel) rfl ?_
      exact Tj.iret dX11_open_27 rfl h
    · have h := h.2 c2
      refine Tj.aload_n dX11_open_28 rfl rfl ?_
      refine Tj.getR (b := 115) dX11_open_29 fl_X11_40 sh_0 rfl rfl ?_
      refine Tj.aload_n dX11_open_32 rfl rfl ?_
      refine Tj.getR (b := 109) dX11_open_33 fl_X11_33 sh_0 rfl rfl ?_
      refine Tj.aload_n dX11_open_36 rfl rfl ?_
      refine Tj.getR (b := 1) dX11_open_37 fl_X11_10 sh_0 rfl rfl ?_
      refine Tj.getR (b := 4) dX11_open_40 fl_X11_156 sh_1 rfl rfl ?_
      refine Tj.callVi (as := [_, _]) (rest := []) dX11_open_43 ln_X11_172 sh_115 (by decide) rfl rfl (Nat.le_of_ble_eq_true rfl) ⟨Nat.le_of_ble_eq_true rfl, Nat.le_of_ble_eq_true rfl⟩ (Nat.le_of_ble_eq_true rfl) rfl ?_
      refine Cli.mono h (fun r3 m3 h => ?_)
      refine Tj.istore_n dX11_open_46 (Nat.le_of_ble_eq_true rfl) rfl rfl ?_
      refine Tj.iload_n dX11_open_47 rfl rfl ?_
      refine Tj.if_eq dX11_open_48 rfl rfl (fun c3 => ?_) (fun c3 => ?_)
      · have h := h.1 c3
        refine Tj.aload_n dX11_open_56 rfl rfl ?_
        refine Tj.getR (b := 115) dX11_open_57 fl_X11_40 sh_0 rfl rfl ?_
        refine Tj.callVi (as := []) (rest := []) dX11_open_60 ln_X11_176 sh_115 (by decide) rfl rfl (Nat.le_of_ble_eq_true rfl) ⟨Nat.le_of_ble_eq_true rfl, Nat.le_of_ble_eq_true rfl⟩ (Nat.le_of_ble_eq_true rfl) rfl ?_
        refine Cli.mono h (fun r4 m4 h => ?_)
        refine Tj.if_ne dX11_open_63 rfl rfl (fun c4 => ?_) (fun c4 => ?_)
        · have h := h.1 c4
          refine Tj.bipush dX11_open_66 (by decide) (by decide +kernel) rfl ?_
          exact Tj.iret dX11_open_68 rfl h
        · have h := h.2 c4
          refine Tj.aload_n dX11_open_69 rfl rfl ?_
          refine Tj.getR (b := 10) dX11_open_70 fl_X11_19 sh_0 rfl rfl ?_
          refine Tj.aload_n dX11_open_73 rfl rfl ?_
          refine Tj.getR (b := 1) dX11_open_74 fl_X11_10 sh_0 rfl rfl ?_
          refine Tj.callVv (as := [_]) (rest := []) dX11_open_77 ln_X11_83 sh_10 (by decide) rfl rfl (Nat.le_of_ble_eq_true rfl) ⟨Nat.le_of_ble_eq_true rfl, Nat.le_of_ble_eq_true rfl⟩ (Nat.le_of_ble_eq_true rfl) rfl ?_
          refine Clv.mono h (fun m5 h => ?_)
          refine Tj.aload_n dX11_open_80 rfl rfl ?_
          refine Tj.getR (b := 115) dX11_open_81 fl_X11_40 sh_0 rfl rfl ?_
          refine Tj.aload_n dX11_open_84 rfl rfl ?_
          refine Tj.getR (b := 1) dX11_open_85 fl_X11_10 sh_0 rfl rfl ?_
          refine Tj.getR (b := 6) dX11_open_88 fl_X11_180 sh_1 rfl rfl ?_
          refine Tj.aload_n dX11_open_91 rfl rfl ?_
          refine Tj.getR (b := 109) dX11_open_92 fl_X11_33 sh_0 rfl rfl ?_
          refine Tj.aload_n dX11_open_95 rfl rfl ?_
          refine Tj.getR (b := 1) dX11_open_96 fl_X11_10 sh_0 rfl rfl ?_
          refine Tj.getR (b := 4) dX11_open_99 fl_X11_156 sh_1 rfl rfl ?_
          refine Tj.callVv (as := [_, _, _]) (rest := []) dX11_open_102 ln_X11_183 sh_115 (by decide) rfl rfl (Nat.le_of_ble_eq_true rfl) ⟨Nat.le_of_ble_eq_true rfl, Nat.le_of_ble_eq_true rfl⟩ (Nat.le_of_ble_eq_true rfl) rfl ?_
          refine Clv.mono h (fun m6 h => ?_)
          refine Tj.aload_n dX11_open_105 rfl rfl ?_
          refine Tj.getR (b := 1) dX11_open_106 fl_X11_10 sh_0 rfl rfl ?_
          refine Tj.getR (b := 6) dX11_open_109 fl_X11_180 sh_1 rfl rfl ?_
          refine Tj.callVi (as := []) (rest := []) dX11_open_112 ln_X11_187 sh_6 (by decide) rfl rfl (Nat.le_of_ble_eq_true rfl) ⟨Nat.le_of_ble_eq_true rfl, Nat.le_of_ble_eq_true rfl⟩ (Nat.le_of_ble_eq_true rfl) rfl ?_
          refine Cli.mono h (fun r5 m7 h => ?_)
          exact Tj.iret dX11_open_115 rfl h
      · have h := h.2 c3
        obtain ⟨o1, h⟩ := h
        refine Tj.bipush dX11_open_51 (by decide) (by decide +kernel) rfl ?_
        refine Tj.iload_n dX11_open_53 rfl rfl ?_
        refine Tj.isub dX11_open_54 o1 rfl ?_
        exact Tj.iret dX11_open_55 rfl h
  · have h := h.2 c1
    refine Tj.bipush dX11_open_10 (by decide) (by decide +kernel) rfl ?_
    exact Tj.iret dX11_open_12 rfl h

theorem wX11_spot_0 {m : tM} {P : Option tV → tM → Prop} {x1 : Int} {x2 : Int} {x3 : Int}  (h : Cli mX11_isOnTable [iV x1] m (fun r1 m1 => ((r1 = 0 → (P (some (iV (-3))) m1)) ∧ (¬ r1 = 0 → (Cli mX11_isOnTable [iV x2] m1 (fun r2 m2 => ((r2 = 0 → (P (some (iV (-3))) m2)) ∧ (¬ r2 = 0 → (Cli mX11_isSwitch [iV x3] m2 (fun r3 m3 => ((r3 = 0 → (P (some (iV (-3))) m3)) ∧ (¬ r3 = 0 → (Cli mX8_find [rV 6, iV x1, iV x2] m3 (fun r4 m4 => ((x3 = 1 → ((r4 < 0 → (Cli mX8_size [rV 6] m4 (fun r5 m5 => ((r5 < 60 → (Clv mX7_keep [rV 10, rV 1] m5 (fun m6 => ((x3 = 1 → ((r4 < 0 → (Cli mX8_add [rV 6, iV x1, iV x2] m6 (fun r6 m7 => ((x3 = 0 → ((r4 < 0 → (∀ v1 : Int, v1 = (if r4 < 0 then 0 else 1) → (P (some (iV v1)) m7))) ∧ (¬ r4 < 0 → (Clv mX8_remove [rV 6, iV r4] m7 (fun m8 => (∀ v2 : Int, v2 = (if r4 < 0 then 0 else 1) → (P (some (iV v2)) m8))))))) ∧ (¬ x3 = 0 → (∀ v3 : Int, v3 = (if r4 < 0 then 0 else 1) → (P (some (iV v3)) m7))))))) ∧ (¬ r4 < 0 → ((x3 = 0 → ((r4 < 0 → (∀ v4 : Int, v4 = (if r4 < 0 then 0 else 1) → (P (some (iV v4)) m6))) ∧ (¬ r4 < 0 → (Clv mX8_remove [rV 6, iV r4] m6 (fun m9 => (∀ v5 : Int, v5 = (if r4 < 0 then 0 else 1) → (P (some (iV v5)) m9))))))) ∧ (¬ x3 = 0 → (∀ v6 : Int, v6 = (if r4 < 0 then 0 else 1) → (P (some (iV v6)) m6))))))) ∧ (¬ x3 = 1 → ((x3 = 0 → ((r4 < 0 → (∀ v7 : Int, v7 = (if r4 < 0 then 0 else 1) → (P (some (iV v7)) m6))) ∧ (¬ r4 < 0 → (Clv mX8_remove [rV 6, iV r4] m6 (fun m10 => (∀ v8 : Int, v8 = (if r4 < 0 then 0 else 1) → (P (some (iV v8)) m10))))))) ∧ (¬ x3 = 0 → (∀ v9 : Int, v9 = (if r4 < 0 then 0 else 1) → (P (some (iV v9)) m6))))))))) ∧ (¬ r5 < 60 → (P (some (iV (-5))) m5)))))) ∧ (¬ r4 < 0 → (Clv mX7_keep [rV 10, rV 1] m4 (fun m11 => ((x3 = 1 → ((r4 < 0 → (Cli mX8_add [rV 6, iV x1, iV x2] m11 (fun r7 m12 => ((x3 = 0 → ((r4 < 0 → (∀ v10 : Int, v10 = (if r4 < 0 then 0 else 1) → (P (some (iV v10)) m12))) ∧ (¬ r4 < 0 → (Clv mX8_remove [rV 6, iV r4] m12 (fun m13 => (∀ v11 : Int, v11 = (if r4 < 0 then 0 else 1) → (P (some (iV v11)) m13))))))) ∧ (¬ x3 = 0 → (∀ v12 : Int, v12 = (if r4 < 0 then 0 else 1) → (P (some (iV v12)) m12))))))) ∧ (¬ r4 < 0 → ((x3 = 0 → ((r4 < 0 → (∀ v13 : Int, v13 = (if r4 < 0 then 0 else 1) → (P (some (iV v13)) m11))) ∧ (¬ r4 < 0 → (Clv mX8_remove [rV 6, iV r4] m11 (fun m14 => (∀ v14 : Int, v14 = (if r4 < 0 then 0 else 1) → (P (some (iV v14)) m14))))))) ∧ (¬ x3 = 0 → (∀ v15 : Int, v15 = (if r4 < 0 then 0 else 1) → (P (some (iV v15)) m11))))))) ∧ (¬ x3 = 1 → ((x3 = 0 → ((r4 < 0 → (∀ v16 : Int, v16 = (if r4 < 0 then 0 else 1) → (P (some (iV v16)) m11))) ∧ (¬ r4 < 0 → (Clv mX8_remove [rV 6, iV r4] m11 (fun m15 => (∀ v17 : Int, v17 = (if r4 < 0 then 0 else 1) → (P (some (iV v17)) m15))))))) ∧ (¬ x3 = 0 → (∀ v18 : Int, v18 = (if r4 < 0 then 0 else 1) → (P (some (iV v18)) m11))))))))))) ∧ (¬ x3 = 1 → (Clv mX7_keep [rV 10, rV 1] m4 (fun m16 => ((x3 = 1 → ((r4 < 0 → (Cli mX8_add [rV 6, iV x1, iV x2] m16 (fun r8 m17 => ((x3 = 0 → ((r4 < 0 → (∀ v19 : Int, v19 = (if r4 < 0 then 0 else 1) → (P (some (iV v19)) m17))) ∧ (¬ r4 < 0 → (Clv mX8_remove [rV 6, iV r4] m17 (fun m18 => (∀ v20 : Int, v20 = (if r4 < 0 then 0 else 1) → (P (some (iV v20)) m18))))))) ∧ (¬ x3 = 0 → (∀ v21 : Int, v21 = (if r4 < 0 then 0 else 1) → (P (some (iV v21)) m17))))))) ∧ (¬ r4 < 0 → ((x3 = 0 → ((r4 < 0 → (∀ v22 : Int, v22 = (if r4 < 0 then 0 else 1) → (P (some (iV v22)) m16))) ∧ (¬ r4 < 0 → (Clv mX8_remove [rV 6, iV r4] m16 (fun m19 => (∀ v23 : Int, v23 = (if r4 < 0 then 0 else 1) → (P (some (iV v23)) m19))))))) ∧ (¬ x3 = 0 → (∀ v24 : Int, v24 = (if r4 < 0 then 0 else 1) → (P (some (iV v24)) m16))))))) ∧ (¬ x3 = 1 → ((x3 = 0 → ((r4 < 0 → (∀ v25 : Int, v25 = (if r4 < 0 then 0 else 1) → (P (some (iV v25)) m16))) ∧ (¬ r4 < 0 → (Clv mX8_remove [rV 6, iV r4] m16 (fun m20 => (∀ v26 : Int, v26 = (if r4 < 0 then 0 else 1) → (P (some (iV v26)) m20))))))) ∧ (¬ x3 = 0 → (∀ v27 : Int, v27 = (if r4 < 0 then 0 else 1) → (P (some (iV v27)) m16)))))))))))))))))))))))) : Tj mX11_spot 0 [some (rV 0), some (iV x1), some (iV x2), some (iV x3)] [] m P := by
  refine Tj.iload_n dX11_spot_0 rfl rfl ?_
  refine Tj.callSi (as := [_]) (rest := []) dX11_spot_1 ln_X11_190 rfl rfl (Nat.le_of_ble_eq_true rfl) ⟨Nat.le_of_ble_eq_true rfl, Nat.le_of_ble_eq_true rfl⟩ (Nat.le_of_ble_eq_true rfl) rfl ?_
  refine Cli.mono h (fun r1 m1 h => ?_)
  refine Tj.if_eq dX11_spot_4 rfl rfl (fun c1 => ?_) (fun c1 => ?_)
  · have h := h.1 c1
    refine Tj.bipush dX11_spot_21 (by decide) (by decide +kernel) rfl ?_
    exact Tj.iret dX11_spot_23 rfl h
  · have h := h.2 c1
    refine Tj.iload_n dX11_spot_7 rfl rfl ?_
    refine Tj.callSi (as := [_]) (rest := []) dX11_spot_8 ln_X11_190 rfl rfl (Nat.le_of_ble_eq_true rfl) ⟨Nat.le_of_ble_eq_true rfl, Nat.le_of_ble_eq_true rfl⟩ (Nat.le_of_ble_eq_true rfl) rfl ?_
    refine Cli.mono h (fun r2 m2 h => ?_)
    refine Tj.if_eq dX11_spot_11 rfl rfl (fun c2 => ?_) (fun c2 => ?_)
    · have h := h.1 c2
      refine Tj.bipush dX11_spot_21 (by decide) (by decide +kernel) rfl ?_
      exact Tj.iret dX11_spot_23 rfl h
    · have h := h.2 c2
      refine Tj.iload_n dX11_spot_14 rfl rfl ?_
      refine Tj.callSi (as := [_]) (rest := []) dX11_spot_15 ln_X11_111 rfl rfl (Nat.le_of_ble_eq_true rfl) ⟨Nat.le_of_ble_eq_true rfl, Nat.le_of_ble_eq_true rfl⟩ (Nat.le_of_ble_eq_true rfl) rfl ?_
      refine Cli.mono h (fun r3 m3 h => ?_)
      refine Tj.if_ne dX11_spot_18 rfl rfl (fun c3 => ?_) (fun c3 => ?_)
      · have h := h.1 c3
        refine Tj.bipush dX11_spot_21 (by decide) (by decide +kernel) rfl ?_
        exact Tj.iret dX11_spot_23 rfl h
      · have h := h.2 c3
        refine Tj.aload_n dX11_spot_24 rfl rfl ?_
        refine Tj.getR (b := 1) dX11_spot_25 fl_X11_10 sh_0 rfl rfl ?_
        refine Tj.getR (b := 6) dX11_spot_28 fl_X11_180 sh_1 rfl rfl ?_
        refine Tj.iload_n dX11_spot_31 rfl rfl ?_
        refine Tj.iload_n dX11_spot_32 rfl rfl ?_
        refine Tj.callVi (as := [_, _]) (rest := []) dX11_spot_33 ln_X11_193 sh_6 (by decide) rfl rfl (Nat.le_of_ble_eq_true rfl) ⟨Nat.le_of_ble_eq_true rfl, Nat.le_of_ble_eq_true rfl⟩ (Nat.le_of_ble_eq_true rfl) rfl ?_
        refine Cli.mono h (fun r4 m4 h => ?_)
        refine Tj.istore dX11_spot_36 (Nat.le_of_ble_eq_true rfl) rfl rfl ?_
        refine Tj.iload_n dX11_spot_38 rfl rfl ?_
        refine Tj.iconst dX11_spot_39 (by decide) rfl ?_
        refine Tj.icmp_ne dX11_spot_40 rfl rfl (fun c4 => ?_) (fun c4 => ?_)
        · have h := h.1 c4
          refine Tj.iload dX11_spot_43 rfl rfl ?_
          refine Tj.if_ge dX11_spot_45 rfl rfl (fun c5 => ?_) (fun c5 => ?_)
          · have h := h.1 c5
            refine Tj.aload_n dX11_spot_48 rfl rfl ?_
            refine Tj.getR (b := 1) dX11_spot_49 fl_X11_10 sh_0 rfl rfl ?_
            refine Tj.getR (b := 6) dX11_spot_52 fl_X11_180 sh_1 rfl rfl ?_
            refine Tj.callVi (as := []) (rest := []) dX11_spot_55 ln_X11_196 sh_6 (by decide) rfl rfl (Nat.le_of_ble_eq_true rfl) ⟨Nat.le_of_ble_eq_true rfl, Nat.le_of_ble_eq_true rfl⟩ (Nat.le_of_ble_eq_true rfl) rfl ?_
            refine Cli.mono h (fun r5 m5 h => ?_)
            refine Tj.bipush dX11_spot_58 (by decide) (by decide +kernel) rfl ?_
            refine Tj.icmp_lt dX11_spot_60 rfl rfl (fun c6 => ?_) (fun c6 => ?_)
            · have h := h.1 c6
              refine Tj.aload_n dX11_spot_66 rfl rfl ?_
              refine Tj.getR (b := 10) dX11_spot_67 fl_X11_19 sh_0 rfl rfl ?_
              refine Tj.aload_n dX11_spot_70 rfl rfl ?_
              refine Tj.getR (b := 1) dX11_spot_71 fl_X11_10 sh_0 rfl rfl ?_
              refine Tj.callVv (as := [_]) (rest := []) dX11_spot_74 ln_X11_83 sh_10 (by decide) rfl rfl (Nat.le_of_ble_eq_true rfl) ⟨Nat.le_of_ble_eq_true rfl, Nat.le_of_ble_eq_true rfl⟩ (Nat.le_of_ble_eq_true rfl) rfl ?_
              refine Clv.mono h (fun m6 h => ?_)
              refine Tj.iload_n dX11_spot_77 rfl rfl ?_
              refine Tj.iconst dX11_spot_78 (by decide) rfl ?_
              refine Tj.icmp_ne dX11_spot_79 rfl rfl (fun c7 => ?_) (fun c7 => ?_)
              · have h := h.1 c7
                refine Tj.iload dX11_spot_82 rfl rfl ?_
                refine Tj.if_ge dX11_spot_84 rfl rfl (fun c8 => ?_) (fun c8 => ?_)
                · have h := h.1 c8
                  refine Tj.aload_n dX11_spot_87 rfl rfl ?_
                  refine Tj.getR (b := 1) dX11_spot_88 fl_X11_10 sh_0 rfl rfl ?_
                  refine Tj.getR (b := 6) dX11_spot_91 fl_X11_180 sh_1 rfl rfl ?_
                  refine Tj.iload_n dX11_spot_94 rfl rfl ?_
                  refine Tj.iload_n dX11_spot_95 rfl rfl ?_
                  refine Tj.callVi (as := [_, _]) (rest := []) dX11_spot_96 ln_X11_197 sh_6 (by decide) rfl rfl (Nat.le_of_ble_eq_true rfl) ⟨Nat.le_of_ble_eq_true rfl, Nat.le_of_ble_eq_true rfl⟩ (Nat.le_of_ble_eq_true rfl) rfl ?_
                  refine Cli.mono h (fun r6 m7 h => ?_)
                  refine Tj.pop dX11_spot_99 rfl rfl ?_
                  refine Tj.iload_n dX11_spot_100 rfl rfl ?_
                  refine Tj.if_ne dX11_spot_101 rfl rfl (fun c9 => ?_) (fun c9 => ?_)
                  · have h := h.1 c9
                    refine Tj.iload dX11_spot_104 rfl rfl ?_
                    refine Tj.if_lt dX11_spot_106 rfl rfl (fun c10 => ?_) (fun c10 => ?_)
                    · have h := h.1 c10
                      refine Tj.iload dX11_spot_121 rfl rfl ?_
                      have hj : Tj mX11_spot 131 [] [iV (if r4 < 0 then 0 else 1)] m7 P := by
                        generalize hv1 : (if r4 < 0 then 0 else 1) = v1
                        have h := h v1 hv1.symm
                        exact Tj.iret dX11_spot_131 rfl h
                      refine Tj.if_lt dX11_spot_123 rfl rfl (fun c11 => ?_) (fun c11 => ?_)
                      · refine Tj.iconst dX11_spot_130 (by decide) rfl ?_
                        try simp only [if_pos c11] at hj ⊢
                        exact Tj.cut hj trivial
                      · refine Tj.iconst dX11_spot_126 (by decide) rfl ?_
                        refine Tj.goto dX11_spot_127 rfl ?_
                        try simp only [if_neg c11] at hj ⊢
                        exact Tj.cut hj trivial
                    · have h := h.2 c10
                      refine Tj.aload_n dX11_spot_109 rfl rfl ?_
                      refine Tj.getR (b := 1) dX11_spot_110 fl_X11_10 sh_0 rfl rfl ?_
                      refine Tj.getR (b := 6) dX11_spot_113 fl_X11_180 sh_1 rfl rfl ?_
                      refine Tj.iload dX11_spot_116 rfl rfl ?_
                      refine Tj.callVv (as := [_]) (rest := []) dX11_spot_118 ln_X11_200 sh_6 (by decide) rfl rfl (Nat.le_of_ble_eq_true rfl) ⟨Nat.le_of_ble_eq_true rfl, Nat.le_of_ble_eq_true rfl⟩ (Nat.le_of_ble_eq_true rfl) rfl ?_
                      refine Clv.mono h (fun m8 h => ?_)
                      refine Tj.iload dX11_spot_121 rfl rfl ?_
                      have hj : Tj mX11_spot 131 [] [iV (if r4 < 0 then 0 else 1)] m8 P := by
                        generalize hv2 : (if r4 < 0 then 0 else 1) = v2
                        have h := h v2 hv2.symm
                        exact Tj.iret dX11_spot_131 rfl h
                      refine Tj.if_lt dX11_spot_123 rfl rfl (fun c12 => ?_) (fun c12 => ?_)
                      · refine Tj.iconst dX11_spot_130 (by decide) rfl ?_
                        try simp only [if_pos c12] at hj ⊢
                        exact Tj.cut hj trivial
                      · refine Tj.iconst dX11_spot_126 (by decide) rfl ?_
                        refine Tj.goto dX11_spot_127 rfl ?_
                        try simp only [if_neg c12] at hj ⊢
                        exact Tj.cut hj trivial
                  · have h := h.2 c9
                    refine Tj.iload dX11_spot_121 rfl rfl ?_
                    have hj : Tj mX11_spot 131 [] [iV (if r4 < 0 then 0 else 1)] m7 P := by
                      generalize hv3 : (if r4 < 0 then 0 else 1) = v3
                      have h := h v3 hv3.symm
                      exact Tj.iret dX11_spot_131 rfl h
                    refine Tj.if_lt dX11_spot_123 rfl rfl (fun c13 => ?_) (fun c13 => ?_)
                    · refine Tj.iconst dX11_spot_130 (by decide) rfl ?_
                      try simp only [if_pos c13] at hj ⊢
                      exact Tj.cut hj trivial
                    · refine Tj.iconst dX11_spot_126 (by decide) rfl ?_
                      refine Tj.goto dX11_spot_127 rfl ?_
                      try simp only [if_neg c13] at hj ⊢
                      exact Tj.cut hj trivial
                · have h := h.2 c8
                  refine Tj.iload_n dX11_spot_100 rfl rfl ?_
                  refine Tj.if_ne dX11_spot_101 rfl rfl (fun c14 => ?_) (fun c14 => ?_)
                  · have h := h.1 c14
                    refine Tj.iload dX11_spot_104 rfl rfl ?_
                    refine Tj.if_lt dX11_spot_106 rfl rfl (fun c15 => ?_) (fun c15 => ?_)
                    · have h := h.1 c15
                      refine Tj.iload dX11_spot_121 rfl rfl ?_
                      have hj : Tj mX11_spot 131 [] [iV (if r4 < 0 then 0 else 1)] m6 P := by
                        generalize hv4 : (if r4 < 0 then 0 else 1) = v4
                        have h := h v4 hv4.symm
                        exact Tj.iret dX11_spot_131 rfl h
                      refine Tj.if_lt dX11_spot_123 rfl rfl (fun c16 => ?_) (fun c16 => ?_)
                      · refine Tj.iconst dX11_spot_130 (by decide) rfl ?_
                        try simp only [if_pos c16] at hj ⊢
                        exact Tj.cut hj trivial
                      · refine Tj.iconst dX11_spot_126 (by decide) rfl ?_
                        refine Tj.goto dX11_spot_127 rfl ?_
                        try simp only [if_neg c16] at hj ⊢
                        exact Tj.cut hj trivial
                    · have h := h.2 c15
                      refine Tj.aload_n dX11_spot_109 rfl rfl ?_
                      refine Tj.getR (b := 1) dX11_spot_110 fl_X11_10 sh_0 rfl rfl ?_
                      refine Tj.getR (b := 6) dX11_spot_113 fl_X11_180 sh_1 rfl rfl ?_
                      refine Tj.iload dX11_spot_116 rfl rfl ?_
                      refine Tj.callVv (as := [_]) (rest := []) dX11_spot_118 ln_X11_200 sh_6 (by decide) rfl rfl (Nat.le_of_ble_eq_true rfl) ⟨Nat.le_of_ble_eq_true rfl, Nat.le_of_ble_eq_true rfl⟩ (Nat.le_of_ble_eq_true rfl) rfl ?_
                      refine Clv.mono h (fun m9 h => ?_)
                      refine Tj.iload dX11_spot_121 rfl rfl ?_
                      have hj : Tj mX11_spot 131 [] [iV (if r4 < 0 then 0 else 1)] m9 P := by
                        generalize hv5 : (if r4 < 0 then 0 else 1) = v5
                        have h := h v5 hv5.symm
                        exact Tj.iret dX11_spot_131 rfl h
                      refine Tj.if_lt dX11_spot_123 rfl rfl (fun c17 => ?_) (fun c17 => ?_)
                      · refine Tj.iconst dX11_spot_130 (by decide) rfl ?_
                        try simp only [if_pos c17] at hj ⊢
                        exact Tj.cut hj trivial
                      · refine Tj.iconst dX11_spot_126 (by decide) rfl ?_
                        refine Tj.goto dX11_spot_127 rfl ?_
                        try simp only [if_neg c17] at hj ⊢
                        exact Tj.cut hj trivial
                  · have h := h.2 c14
                    refine Tj.iload dX11_spot_121 rfl rfl ?_
                    have hj : Tj mX11_spot 131 [] [iV (if r4 < 0 then 0 else 1)] m6 P := by
                      generalize hv6 : (if r4 < 0 then 0 else 1) = v6
                      have h := h v6 hv6.symm
                      exact Tj.iret dX11_spot_131 rfl h
                    refine Tj.if_lt dX11_spot_123 rfl rfl (fun c18 => ?_) (fun c18 => ?_)
                    · refine Tj.iconst dX11_spot_130 (by decide) rfl ?_
                      try simp only [if_pos c18] at hj ⊢
                      exact Tj.cut hj trivial
                    · refine Tj.iconst dX11_spot_126 (by decide) rfl ?_
                      refine Tj.goto dX11_spot_127 rfl ?_
                      try simp only [if_neg c18] at hj ⊢
                      exact Tj.cut hj trivial
              · have h := h.2 c7
                refine Tj.iload_n dX11_spot_100 rfl rfl ?_
                refine Tj.if_ne dX11_spot_101 rfl rfl (fun c19 => ?_) (fun c19 => ?_)
                · have h := h.1 c19
                  refine Tj.iload dX11_spot_104 rfl rfl ?_
                  refine Tj.if_lt dX11_spot_106 rfl rfl (fun c20 => ?_) (fun c20 => ?_)
                  · have h := h.1 c20
                    refine Tj.iload dX11_spot_121 rfl rfl ?_
                    have hj : Tj mX11_spot 131 [] [iV (if r4 < 0 then 0 else 1)] m6 P := by
                      generalize hv7 : (if r4 < 0 then 0 else 1) = v7
                      have h := h v7 hv7.symm
                      exact Tj.iret dX11_spot_131 rfl h
                    refine Tj.if_lt dX11_spot_123 rfl rfl (fun c21 => ?_) (fun c21 => ?_)
                    · refine Tj.iconst dX11_spot_130 (by decide) rfl ?_
                      try simp only [if_pos c21] at hj ⊢
                      exact Tj.cut hj trivial
                    · refine Tj.iconst dX11_spot_126 (by decide) rfl ?_
                      refine Tj.goto dX11_spot_127 rfl ?_
                      try simp only [if_neg c21] at hj ⊢
                      exact Tj.cut hj trivial
                  · have h := h.2 c20
                    refine Tj.aload_n dX11_spot_109 rfl rfl ?_
                    refine Tj.getR (b := 1) dX11_spot_110 fl_X11_10 sh_0 rfl rfl ?_
                    refine Tj.getR (b := 6) dX11_spot_113 fl_X11_180 sh_1 rfl rfl ?_
                    refine Tj.iload dX11_spot_116 rfl rfl ?_
                    refine Tj.callVv (as := [_]) (rest := []) dX11_spot_118 ln_X11_200 sh_6 (by decide) rfl rfl (Nat.le_of_ble_eq_true rfl) ⟨Nat.le_of_ble_eq_true rfl, Nat.le_of_ble_eq_true rfl⟩ (Nat.le_of_ble_eq_true rfl) rfl ?_
                    refine Clv.mono h (fun m10 h => ?_)
                    refine Tj.iload dX11_spot_121 rfl rfl ?_
                    have hj : Tj mX11_spot 131 [] [iV (if r4 < 0 then 0 else 1)] m10 P := by
                      generalize hv8 : (if r4 < 0 then 0 else 1) = v8
                      have h := h v8 hv8.symm
                      exact Tj.iret dX11_spot_131 rfl h
                    refine Tj.if_lt dX11_spot_123 rfl rfl (fun c22 => ?_) (fun c22 => ?_)
                    · refine Tj.iconst dX11_spot_130 (by decide) rfl ?_
                      try simp only [if_pos c22] at hj ⊢
                      exact Tj.cut hj trivial
                    · refine Tj.iconst dX11_spot_126 (by decide) rfl ?_
                      refine Tj.goto dX11_spot_127 rfl ?_
                      try simp only [if_neg c22] at hj ⊢
                      exact Tj.cut hj trivial
                · have h := h.2 c19
                  refine Tj.iload dX11_spot_121 rfl rfl ?_
                  have hj : Tj mX11_spot 131 [] [iV (if r4 < 0 then 0 else 1)] m6 P := by
                    generalize hv9 : (if r4 < 0 then 0 else 1) = v9
                    have h := h v9 hv9.symm
                    exact Tj.iret dX11_spot_131 rfl h
                  refine Tj.if_lt dX11_spot_123 rfl rfl (fun c23 => ?_) (fun c23 => ?_)
                  · refine Tj.iconst dX11_spot_130 (by decide) rfl ?_
                    try simp only [if_pos c23] at hj ⊢
                    exact Tj.cut hj trivial
                  · refine Tj.iconst dX11_spot_126 (by decide) rfl ?_
                    refine Tj.goto dX11_spot_127 rfl ?_
                    try simp only [if_neg c23] at hj ⊢
                    exact Tj.cut hj trivial
            · have h := h.2 c6
              refine Tj.bipush dX11_spot_63 (by decide) (by decide +kernel) rfl ?_
              exact Tj.iret dX11_spot_65 rfl h
          · have h := h.2 c5
            refine Tj.aload_n dX11_spot_66 rfl rfl ?_
            refine Tj.getR (b := 10) dX11_spot_67 fl_X11_19 sh_0 rfl rfl ?_
            refine Tj.aload_n dX11_spot_70 rfl rfl ?_
            refine Tj.getR (b := 1) dX11_spot_71 fl_X11_10 sh_0 rfl rfl ?_
            refine Tj.callVv (as := [_]) (rest := []) dX11_spot_74 ln_X11_83 sh_10 (by decide) rfl rfl (Nat.le_of_ble_eq_true rfl) ⟨Nat.le_of_ble_eq_true rfl, Nat.le_of_ble_eq_true rfl⟩ (Nat.le_of_ble_eq_true rfl) rfl ?_
            refine Clv.mono h (fun m11 h => ?_)
            refine Tj.iload_n dX11_spot_77 rfl rfl ?_
            refine Tj.iconst dX11_spot_78 (by decide) rfl ?_
            refine Tj.icmp_ne dX11_spot_79 rfl rfl (fun c24 => ?_) (fun c24 => ?_)
            · have h := h.1 c24
              refine Tj.iload dX11_spot_82 rfl rfl ?_
              refine Tj.if_ge dX11_spot_84 rfl rfl (fun c25 => ?_) (fun c25 => ?_)
              · have h := h.1 c25
                refine Tj.aload_n dX11_spot_87 rfl rfl ?_
                refine Tj.getR (b := 1) dX11_spot_88 fl_X11_10 sh_0 rfl rfl ?_
                refine Tj.getR (b := 6) dX11_spot_91 fl_X11_180 sh_1 rfl rfl ?_
                refine Tj.iload_n dX11_spot_94 rfl rfl ?_
                refine Tj.iload_n dX11_spot_95 rfl rfl ?_
                refine Tj.callVi (as := [_, _]) (rest := []) dX11_spot_96 ln_X11_197 sh_6 (by decide) rfl rfl (Nat.le_of_ble_eq_true rfl) ⟨Nat.le_of_ble_eq_true rfl, Nat.le_of_ble_eq_true rfl⟩ (Nat.le_of_ble_eq_true rfl) rfl ?_
                refine Cli.mono h (fun r7 m12 h => ?_)
                refine Tj.pop dX11_spot_99 rfl rfl ?_
                refine Tj.iload_n dX11_spot_100 rfl rfl ?_
                refine Tj.if_ne dX11_spot_101 rfl rfl (fun c26 => ?_) (fun c26 => ?_)
                · have h := h.1 c26
                  refine Tj.iload dX11_spot_104 rfl rfl ?_
                  refine Tj.if_lt dX11_spot_106 rfl rfl (fun c27 => ?_) (fun c27 => ?_)
                  · have h := h.1 c27
                    refine Tj.iload dX11_spot_121 rfl rfl ?_
                    have hj : Tj mX11_spot 131 [] [iV (if r4 < 0 then 0 else 1)] m12 P := by
                      generalize hv10 : (if r4 < 0 then 0 else 1) = v10
                      have h := h v10 hv10.symm
                      exact Tj.iret dX11_spot_131 rfl h
                    refine Tj.if_lt dX11_spot_123 rfl rfl (fun c28 => ?_) (fun c28 => ?_)
                    · refine Tj.iconst dX11_spot_130 (by decide) rfl ?_
                      try simp only [if_pos c28] at hj ⊢
                      exact Tj.cut hj trivial
                    · refine Tj.iconst dX11_spot_126 (by decide) rfl ?_
                      refine Tj.goto dX11_spot_127 rfl ?_
                      try simp only [if_neg c28] at hj ⊢
                      exact Tj.cut hj trivial
                  · have h := h.2 c27
                    refine Tj.aload_n dX11_spot_109 rfl rfl ?_
                    refine Tj.getR (b := 1) dX11_spot_110 fl_X11_10 sh_0 rfl rfl ?_
                    refine Tj.getR (b := 6) dX11_spot_113 fl_X11_180 sh_1 rfl rfl ?_
                    refine Tj.iload dX11_spot_116 rfl rfl ?_
                    refine Tj.callVv (as := [_]) (rest := []) dX11_spot_118 ln_X11_200 sh_6 (by decide) rfl rfl (Nat.le_of_ble_eq_true rfl) ⟨Nat.le_of_ble_eq_true rfl, Nat.le_of_ble_eq_true rfl⟩ (Nat.le_of_ble_eq_true rfl) rfl ?_
                    refine Clv.mono h (fun m13 h => ?_)
                    refine Tj.iload dX11_spot_121 rfl rfl ?_
                    have hj : Tj mX11_spot 131 [] [iV (if r4 < 0 then 0 else 1)] m13 P := by
                      generalize hv11 : (if r4 < 0 then 0 else 1) = v11
                      have h := h v11 hv11.symm
                      exact Tj.iret dX11_spot_131 rfl h
                    refine Tj.if_lt dX11_spot_123 rfl rfl (fun c29 => ?_) (fun c29 => ?_)
                    · refine Tj.iconst dX11_spot_130 (by decide) rfl ?_
                      try simp only [if_pos c29] at hj ⊢
                      exact Tj.cut hj trivial
                    · refine Tj.iconst dX11_spot_126 (by decide) rfl ?_
                      refine Tj.goto dX11_spot_127 rfl ?_
                      try simp only [if_neg c29] at hj ⊢
                      exact Tj.cut hj trivial
                · have h := h.2 c26
                  refine Tj.iload dX11_spot_121 rfl rfl ?_
                  have hj : Tj mX11_spot 131 [] [iV (if r4 < 0 then 0 else 1)] m12 P := by
                    generalize hv12 : (if r4 < 0 then 0 else 1) = v12
                    have h := h v12 hv12.symm
                    exact Tj.iret dX11_spot_131 rfl h
                  refine Tj.if_lt dX11_spot_123 rfl rfl (fun c30 => ?_) (fun c30 => ?_)
                  · refine Tj.iconst dX11_spot_130 (by decide) rfl ?_
                    try simp only [if_pos c30] at hj ⊢
                    exact Tj.cut hj trivial
                  · refine Tj.iconst dX11_spot_126 (by decide) rfl ?_
                    refine Tj.goto dX11_spot_127 rfl ?_
                    try simp only [if_neg c30] at hj ⊢
                    exact Tj.cut hj trivial
              · have h := h.2 c25
                refine Tj.iload_n dX11_spot_100 rfl rfl ?_
                refine Tj.if_ne dX11_spot_101 rfl rfl (fun c31 => ?_) (fun c31 => ?_)
                · have h := h.1 c31
                  refine Tj.iload dX11_spot_104 rfl rfl ?_
                  refine Tj.if_lt dX11_spot_106 rfl rfl (fun c32 => ?_) (fun c32 => ?_)
                  · have h := h.1 c32
                    refine Tj.iload dX11_spot_121 rfl rfl ?_
                    have hj : Tj mX11_spot 131 [] [iV (if r4 < 0 then 0 else 1)] m11 P := by
                      generalize hv13 : (if r4 < 0 then 0 else 1) = v13
                      have h := h v13 hv13.symm
                      exact Tj.iret dX11_spot_131 rfl h
                    refine Tj.if_lt dX11_spot_123 rfl rfl (fun c33 => ?_) (fun c33 => ?_)
                    · refine Tj.iconst dX11_spot_130 (by decide) rfl ?_
                      try simp only [if_pos c33] at hj ⊢
                      exact Tj.cut hj trivial
                    · refine Tj.iconst dX11_spot_126 (by decide) rfl ?_
                      refine Tj.goto dX11_spot_127 rfl ?_
                      try simp only [if_neg c33] at hj ⊢
                      exact Tj.cut hj trivial
                  · have h := h.2 c32
                    refine Tj.aload_n dX11_spot_109 rfl rfl ?_
                    refine Tj.getR (b := 1) dX11_spot_110 fl_X11_10 sh_0 rfl rfl ?_
                    refine Tj.getR (b := 6) dX11_spot_113 fl_X11_180 sh_1 rfl rfl ?_
                    refine Tj.iload dX11_spot_116 rfl rfl ?_
                    refine Tj.callVv (as := [_]) (rest := []) dX11_spot_118 ln_X11_200 sh_6 (by decide) rfl rfl (Nat.le_of_ble_eq_true rfl) ⟨Nat.le_of_ble_eq_true rfl, Nat.le_of_ble_eq_true rfl⟩ (Nat.le_of_ble_eq_true rfl) rfl ?_
                    refine Clv.mono h (fun m14 h => ?_)
                    refine Tj.iload dX11_spot_121 rfl rfl ?_
                    have hj : Tj mX11_spot 131 [] [iV (if r4 < 0 then 0 else 1)] m14 P := by
                      generalize hv14 : (if r4 < 0 then 0 else 1) = v14
                      have h := h v14 hv14.symm
                      exact Tj.iret dX11_spot_131 rfl h
                    refine Tj.if_lt dX11_spot_123 rfl rfl (fun c34 => ?_) (fun c34 => ?_)
                    · refine Tj.iconst dX11_spot_130 (by decide) rfl ?_
                      try simp only [if_pos c34] at hj ⊢
                      exact Tj.cut hj trivial
                    · refine Tj.iconst dX11_spot_126 (by decide) rfl ?_
                      refine Tj.goto dX11_spot_127 rfl ?_
                      try simp only [if_neg c34] at hj ⊢
                      exact Tj.cut hj trivial
                · have h := h.2 c31
                  refine Tj.iload dX11_spot_121 rfl rfl ?_
                  have hj : Tj mX11_spot 131 [] [iV (if r4 < 0 then 0 else 1)] m11 P := by
                    generalize hv15 : (if r4 < 0 then 0 else 1) = v15
                    have h := h v15 hv15.symm
                    exact Tj.iret dX11_spot_131 rfl h
                  refine Tj.if_lt dX11_spot_123 rfl rfl (fun c35 => ?_) (fun c35 => ?_)
                  · refine Tj.iconst dX11_spot_130 (by decide) rfl ?_
                    try simp only [if_pos c35] at hj ⊢
                    exact Tj.cut hj trivial
                  · refine Tj.iconst dX11_spot_126 (by decide) rfl ?_
                    refine Tj.goto dX11_spot_127 rfl ?_
                    try simp only [if_neg c35] at hj ⊢
                    exact Tj.cut hj trivial
            · have h := h.2 c24
              refine Tj.iload_n dX11_spot_100 rfl rfl ?_
              refine Tj.if_ne dX11_spot_101 rfl rfl (fun c36 => ?_) (fun c36 => ?_)
              · have h := h.1 c36
                refine Tj.iload dX11_spot_104 rfl rfl ?_
                refine Tj.if_lt dX11_spot_106 rfl rfl (fun c37 => ?_) (fun c37 => ?_)
                · have h := h.1 c37
                  refine Tj.iload dX11_spot_121 rfl rfl ?_
                  have hj : Tj mX11_spot 131 [] [iV (if r4 < 0 then 0 else 1)] m11 P := by
                    generalize hv16 : (if r4 < 0 then 0 else 1) = v16
                    have h := h v16 hv16.symm
                    exact Tj.iret dX11_spot_131 rfl h
                  refine Tj.if_lt dX11_spot_123 rfl rfl (fun c38 => ?_) (fun c38 => ?_)
                  · refine Tj.iconst dX11_spot_130 (by decide) rfl ?_
                    try simp only [if_pos c38] at hj ⊢
                    exact Tj.cut hj trivial
                  · refine Tj.iconst dX11_spot_126 (by decide) rfl ?_
                    refine Tj.goto dX11_spot_127 rfl ?_
                    try simp only [if_neg c38] at hj ⊢
                    exact Tj.cut hj trivial
                · have h := h.2 c37
                  refine Tj.aload_n dX11_spot_109 rfl rfl ?_
                  refine Tj.getR (b := 1) dX11_spot_110 fl_X11_10 sh_0 rfl rfl ?_
                  refine Tj.getR (b := 6) dX11_spot_113 fl_X11_180 sh_1 rfl rfl ?_
                  refine Tj.iload dX11_spot_116 rfl rfl ?_
                  refine Tj.callVv (as := [_]) (rest := []) dX11_spot_118 ln_X11_200 sh_6 (by decide) rfl rfl (Nat.le_of_ble_eq_true rfl) ⟨Nat.le_of_ble_eq_true rfl, Nat.le_of_ble_eq_true rfl⟩ (Nat.le_of_ble_eq_true rfl) rfl ?_
                  refine Clv.mono h (fun m15 h => ?_)
                  refine Tj.iload dX11_spot_121 rfl rfl ?_
                  have hj : Tj mX11_spot 131 [] [iV (if r4 < 0 then 0 else 1)] m15 P := by
                    generalize hv17 : (if r4 < 0 then 0 else 1) = v17
                    have h := h v17 hv17.symm
                    exact Tj.iret dX11_spot_131 rfl h
                  refine Tj.if_lt dX11_spot_123 rfl rfl (fun c39 => ?_) (fun c39 => ?_)
                  · refine Tj.iconst dX11_spot_130 (by decide) rfl ?_
                    try simp only [if_pos c39] at hj ⊢
                    exact Tj.cut hj trivial
                  · refine Tj.iconst dX11_spot_126 (by decide) rfl ?_
                    refine Tj.goto dX11_spot_127 rfl ?_
                    try simp only [if_neg c39] at hj ⊢
                    exact Tj.cut hj trivial
              · have h := h.2 c36
                refine Tj.iload dX11_spot_121 rfl rfl ?_
                have hj : Tj mX11_spot 131 [] [iV (if r4 < 0 then 0 else 1)] m11 P := by
                  generalize hv18 : (if r4 < 0 then 0 else 1) = v18
                  have h := h v18 hv18.symm
                  exact Tj.iret dX11_spot_131 rfl h
                refine Tj.if_lt dX11_spot_123 rfl rfl (fun c40 => ?_) (fun c40 => ?_)
                · refine Tj.iconst dX11_spot_130 (by decide) rfl ?_
                  try simp only [if_pos c40] at hj ⊢
                  exact Tj.cut hj trivial
                · refine Tj.iconst dX11_spot_126 (by decide) rfl ?_
                  refine Tj.goto dX11_spot_127 rfl ?_
                  try simp only [if_neg c40] at hj ⊢
                  exact Tj.cut hj trivial
        · have h := h.2 c4
          refine Tj.aload_n dX11_spot_66 rfl rfl ?_
          refine Tj.getR (b := 10) dX11_spot_67 fl_X11_19 sh_0 rfl rfl ?_
          refine Tj.aload_n dX11_spot_70 rfl rfl ?_
          refine Tj.getR (b := 1) dX11_spot_71 fl_X11_10 sh_0 rfl rfl ?_
          refine Tj.callVv (as := [_]) (rest := []) dX11_spot_74 ln_X11_83 sh_10 (by decide) rfl rfl (Nat.le_of_ble_eq_true rfl) ⟨Nat.le_of_ble_eq_true rfl, Nat.le_of_ble_eq_true rfl⟩ (Nat.le_of_ble_eq_true rfl) rfl ?_
          refine Clv.mono h (fun m16 h => ?_)
          refine Tj.iload_n dX11_spot_77 rfl rfl ?_
          refine Tj.iconst dX11_spot_78 (by decide) rfl ?_
          refine Tj.icmp_ne dX11_spot_79 rfl rfl (fun c41 => ?_) (fun c41 => ?_)
          · have h := h.1 c41
            refine Tj.iload dX11_spot_82 rfl rfl ?_
            refine Tj.if_ge dX11_spot_84 rfl rfl (fun c42 => ?_) (fun c42 => ?_)
            · have h := h.1 c42
              refine Tj.aload_n dX11_spot_87 rfl rfl ?_
              refine Tj.getR (b := 1) dX11_spot_88 fl_X11_10 sh_0 rfl rfl ?_
              refine Tj.getR (b := 6) dX11_spot_91 fl_X11_180 sh_1 rfl rfl ?_
              refine Tj.iload_n dX11_spot_94 rfl rfl ?_
              refine Tj.iload_n dX11_spot_95 rfl rfl ?_
              refine Tj.callVi (as := [_, _]) (rest := []) dX11_spot_96 ln_X11_197 sh_6 (by decide) rfl rfl (Nat.le_of_ble_eq_true rfl) ⟨Nat.le_of_ble_eq_true rfl, Nat.le_of_ble_eq_true rfl⟩ (Nat.le_of_ble_eq_true rfl) rfl ?_
              refine Cli.mono h (fun r8 m17 h => ?_)
              refine Tj.pop dX11_spot_99 rfl rfl ?_
              refine Tj.iload_n dX11_spot_100 rfl rfl ?_
              refine Tj.if_ne dX11_spot_101 rfl rfl (fun c43 => ?_) (fun c43 => ?_)
              · have h := h.1 c43
                refine Tj.iload dX11_spot_104 rfl rfl ?_
                refine Tj.if_lt dX11_spot_106 rfl rfl (fun c44 => ?_) (fun c44 => ?_)
                · have h := h.1 c44
                  refine Tj.iload dX11_spot_121 rfl rfl ?_
                  have hj : Tj mX11_spot 131 [] [iV (if r4 < 0 then 0 else 1)] m17 P := by
                    generalize hv19 : (if r4 < 0 then 0 else 1) = v19
                    have h := h v19 hv19.symm
                    exact Tj.iret dX11_spot_131 rfl h
                  refine Tj.if_lt dX11_spot_123 rfl rfl (fun c45 => ?_) (fun c45 => ?_)
                  · refine Tj.iconst dX11_spot_130 (by decide) rfl ?_
                    try simp only [if_pos c45] at hj ⊢
                    exact Tj.cut hj trivial
                  · refine Tj.iconst dX11_spot_126 (by decide) rfl ?_
                    refine Tj.goto dX11_spot_127 rfl ?_
                    try simp only [if_neg c45] at hj ⊢
                    exact Tj.cut hj trivial
                · have h := h.2 c44
                  refine Tj.aload_n dX11_spot_109 rfl rfl ?_
                  refine Tj.getR (b := 1) dX11_spot_110 fl_X11_10 sh_0 rfl rfl ?_
                  refine Tj.getR (b := 6) dX11_spot_113 fl_X11_180 sh_1 rfl rfl ?_
                  refine Tj.iload dX11_spot_116 rfl rfl ?_
                  refine Tj.callVv (as := [_]) (rest := []) dX11_spot_118 ln_X11_200 sh_6 (by decide) rfl rfl (Nat.le_of_ble_eq_true rfl) ⟨Nat.le_of_ble_eq_true rfl, Nat.le_of_ble_eq_true rfl⟩ (Nat.le_of_ble_eq_true rfl) rfl ?_
                  refine Clv.mono h (fun m18 h => ?_)
                  refine Tj.iload dX11_spot_121 rfl rfl ?_
                  have hj : Tj mX11_spot 131 [] [iV (if r4 < 0 then 0 else 1)] m18 P := by
                    generalize hv20 : (if r4 < 0 then 0 else 1) = v20
                    have h := h v20 hv20.symm
                    exact Tj.iret dX11_spot_131 rfl h
                  refine Tj.if_lt dX11_spot_123 rfl rfl (fun c46 => ?_) (fun c46 => ?_)
                  · refine Tj.iconst dX11_spot_130 (by decide) rfl ?_
                    try simp only [if_pos c46] at hj ⊢
                    exact Tj.cut hj trivial
                  · refine Tj.iconst dX11_spot_126 (by decide) rfl ?_
                    refine Tj.goto dX11_spot_127 rfl ?_
                    try simp only [if_neg c46] at hj ⊢
                    exact Tj.cut hj trivial
              · have h := h.2 c43
                refine Tj.iload dX11_spot_121 rfl rfl ?_
                have hj : Tj mX11_spot 131 [] [iV (if r4 < 0 then 0 else 1)] m17 P := by
                  generalize hv21 : (if r4 < 0 then 0 else 1) = v21
                  have h := h v21 hv21.symm
                  exact Tj.iret dX11_spot_131 rfl h
                refine Tj.if_lt dX11_spot_123 rfl rfl (fun c47 => ?_) (fun c47 => ?_)
                · refine Tj.iconst dX11_spot_130 (by decide) rfl ?_
                  try simp only [if_pos c47] at hj ⊢
                  exact Tj.cut hj trivial
                · refine Tj.iconst dX11_spot_126 (by decide) rfl ?_
                  refine Tj.goto dX11_spot_127 rfl ?_
                  try simp only [if_neg c47] at hj ⊢
                  exact Tj.cut hj trivial
            · have h := h.2 c42
              refine Tj.iload_n dX11_spot_100 rfl rfl ?_
              refine Tj.if_ne dX11_spot_101 rfl rfl (fun c48 => ?_) (fun c48 => ?_)
              · have h := h.1 c48
                refine Tj.iload dX11_spot_104 rfl rfl ?_
                refine Tj.if_lt dX11_spot_106 rfl rfl (fun c49 => ?_) (fun c49 => ?_)
                · have h := h.1 c49
                  refine Tj.iload dX11_spot_121 rfl rfl ?_
                  have hj : Tj mX11_spot 131 [] [iV (if r4 < 0 then 0 else 1)] m16 P := by
                    generalize hv22 : (if r4 < 0 then 0 else 1) = v22
                    have h := h v22 hv22.symm
                    exact Tj.iret dX11_spot_131 rfl h
                  refine Tj.if_lt dX11_spot_123 rfl rfl (fun c50 => ?_) (fun c50 => ?_)
                  · refine Tj.iconst dX11_spot_130 (by decide) rfl ?_
                    try simp only [if_pos c50] at hj ⊢
                    exact Tj.cut hj trivial
                  · refine Tj.iconst dX11_spot_126 (by decide) rfl ?_
                    refine Tj.goto dX11_spot_127 rfl ?_
                    try simp only [if_neg c50] at hj ⊢
                    exact Tj.cut hj trivial
                · have h := h.2 c49
                  refine Tj.aload_n dX11_spot_109 rfl rfl ?_
                  refine Tj.getR (b := 1) dX11_spot_110 fl_X11_10 sh_0 rfl rfl ?_
                  refine Tj.getR (b := 6) dX11_spot_113 fl_X11_180 sh_1 rfl rfl ?_
                  refine Tj.iload dX11_spot_116 rfl rfl ?_
                  refine Tj.callVv (as := [_]) (rest := []) dX11_spot_118 ln_X11_200 sh_6 (by decide) rfl rfl (Nat.le_of_ble_eq_true rfl) ⟨Nat.le_of_ble_eq_true rfl, Nat.le_of_ble_eq_true rfl⟩ (Nat.le_of_ble_eq_true rfl) rfl ?_
                  refine Clv.mono h (fun m19 h => ?_)
                  refine Tj.iload dX11_spot_121 rfl rfl ?_
                  have hj : Tj mX11_spot 131 [] [iV (if r4 < 0 then 0 else 1)] m19 P := by
                    generalize hv23 : (if r4 < 0 then 0 else 1) = v23
                    have h := h v23 hv23.symm
                    exact Tj.iret dX11_spot_131 rfl h
                  refine Tj.if_lt dX11_spot_123 rfl rfl (fun c51 => ?_) (fun c51 => ?_)
                  · refine Tj.iconst dX11_spot_130 (by decide) rfl ?_
                    try simp only [if_pos c51] at hj ⊢
                    exact Tj.cut hj trivial
                  · refine Tj.iconst dX11_spot_126 (by decide) rfl ?_
                    refine Tj.goto dX11_spot_127 rfl ?_
                    try simp only [if_neg c51] at hj ⊢
                    exact Tj.cut hj trivial
              · have h := h.2 c48
                refine Tj.iload dX11_spot_121 rfl rfl ?_
                have hj : Tj mX11_spot 131 [] [iV (if r4 < 0 then 0 else 1)] m16 P := by
                  generalize hv24 : (if r4 < 0 then 0 else 1) = v24
                  have h := h v24 hv24.symm
                  exact Tj.iret dX11_spot_131 rfl h
                refine Tj.if_lt dX11_spot_123 rfl rfl (fun c52 => ?_) (fun c52 => ?_)
                · refine Tj.iconst dX11_spot_130 (by decide) rfl ?_
                  try simp only [if_pos c52] at hj ⊢
                  exact Tj.cut hj trivial
                · refine Tj.iconst dX11_spot_126 (by decide) rfl ?_
                  refine Tj.goto dX11_spot_127 rfl ?_
                  try simp only [if_neg c52] at hj ⊢
                  exact Tj.cut hj trivial
          · have h := h.2 c41
            refine Tj.iload_n dX11_spot_100 rfl rfl ?_
            refine Tj.if_ne dX11_spot_101 rfl rfl (fun c53 => ?_) (fun c53 => ?_)
            · have h := h.1 c53
              refine Tj.iload dX11_spot_104 rfl rfl ?_
              refine Tj.if_lt dX11_spot_106 rfl rfl (fun c54 => ?_) (fun c54 => ?_)
              · have h := h.1 c54
                refine Tj.iload dX11_spot_121 rfl rfl ?_
                have hj : Tj mX11_spot 131 [] [iV (if r4 < 0 then 0 else 1)] m16 P := by
                  generalize hv25 : (if r4 < 0 then 0 else 1) = v25
                  have h := h v25 hv25.symm
                  exact Tj.iret dX11_spot_131 rfl h
                refine Tj.if_lt dX11_spot_123 rfl rfl (fun c55 => ?_) (fun c55 => ?_)
                · refine Tj.iconst dX11_spot_130 (by decide) rfl ?_
                  try simp only [if_pos c55] at hj ⊢
                  exact Tj.cut hj trivial
                · refine Tj.iconst dX11_spot_126 (by decide) rfl ?_
                  refine Tj.goto dX11_spot_127 rfl ?_
                  try simp only [if_neg c55] at hj ⊢
                  exact Tj.cut hj trivial
              · have h := h.2 c54
                refine Tj.aload_n dX11_spot_109 rfl rfl ?_
                refine Tj.getR (b := 1) dX11_spot_110 fl_X11_10 sh_0 rfl rfl ?_
                refine Tj.getR (b := 6) dX11_spot_113 fl_X11_180 sh_1 rfl rfl ?_
                refine Tj.iload dX11_spot_116 rfl rfl ?_
                refine Tj.callVv (as := [_]) (rest := []) dX11_spot_118 ln_X11_200 sh_6 (by decide) rfl rfl (Nat.le_of_ble_eq_true rfl) ⟨Nat.le_of_ble_eq_true rfl, Nat.le_of_ble_eq_true rfl⟩ (Nat.le_of_ble_eq_true rfl) rfl ?_
                refine Clv.mono h (fun m20 h => ?_)
                refine Tj.iload dX11_spot_121 rfl rfl ?_
                have hj : Tj mX11_spot 131 [] [iV (if r4 < 0 then 0 else 1)] m20 P := by
                  generalize hv26 : (if r4 < 0 then 0 else 1) = v26
                  have h := h v26 hv26.symm
                  exact Tj.iret dX11_spot_131 rfl h
                refine Tj.if_lt dX11_spot_123 rfl rfl (fun c56 => ?_) (fun c56 => ?_)
                · refine Tj.iconst dX11_spot_130 (by decide) rfl ?_
                  try simp only [if_pos c56] at hj ⊢
                  exact Tj.cut hj trivial
                · refine Tj.iconst dX11_spot_126 (by decide) rfl ?_
                  refine Tj.goto dX11_spot_127 rfl ?_
                  try simp only [if_neg c56] at hj ⊢
                  exact Tj.cut hj trivial
            · have h := h.2 c53
              refine Tj.iload dX11_spot_121 rfl rfl ?_
              have hj : Tj mX11_spot 131 [] [iV (if r4 < 0 then 0 else 1)] m16 P := by
                generalize hv27 : (if r4 < 0 then 0 else 1) = v27
                have h := h v27 hv27.symm
                exact Tj.iret dX11_spot_131 rfl h
              refine Tj.if_lt dX11_spot_123 rfl rfl (fun c57 => ?_) (fun c57 => ?_)
              · refine Tj.iconst dX11_spot_130 (by decide) rfl ?_
                try simp only [if_pos c57] at hj ⊢
                exact Tj.cut hj trivial
              · refine Tj.iconst dX11_spot_126 (by decide) rfl ?_
                refine Tj.goto dX11_spot_127 rfl ?_
                try simp only [if_neg c57] at hj ⊢
                exact Tj.cut hj trivial

theorem wX11_crease_0 {m : tM} {P : Option tV → tM → Prop} {x1 : Int} {x2 : Int} {x3 : Int} {x4 : Int}  (h : Cli mX11_creaseMeant [iV x4] m (fun r1 m1 => (Cli mX11_isOnTable [iV x1] m1 (fun r2 m2 => ((r2 = 0 → (P (some (iV (-3))) m2)) ∧ (¬ r2 = 0 → (Cli mX11_isOnTable [iV x2] m2 (fun r3 m3 => ((r3 = 0 → (P (some (iV (-3))) m3)) ∧ (¬ r3 = 0 → (Cli mX11_isWithin [iV x3, iV 4] m3 (fun r4 m4 => ((r4 = 0 → (P (some (iV (-3))) m4)) ∧ (¬ r4 = 0 → ((r1 < 0 → (P (some (iV (-3))) m4)) ∧ (¬ r1 < 0 → (Cli mX8_find [rV 6, iV x1, iV x2] m4 (fun r5 m5 => ((r5 < 0 → ((r5 < 0 → (P (some (iV (-4))) m5)) ∧ (¬ r5 < 0 → (((-1) < 0 → (P (some (iV (-4))) m5)) ∧ (¬ (-1) < 0 → (Clv mX7_keep [rV 10, rV 1] m5 (fun m6 => (Cli mX8_creaseAt [rV 6, iV r5, iV x3] m6 (fun r6 m7 => (Clv mX8_join [rV 6, iV r5, iV (-1), iV x3, iV r1] m7 (fun m8 => ((r6 = 0 → (P (some (iV 5)) m8)) ∧ (¬ r6 = 0 → ((R32 (r6 - 2)) ∧ (Cli mX11_toldStep [iV (r6 - 2)] m8 (fun r7 m9 => (P (some (iV r7)) m9))))))))))))))))) ∧ (¬ r5 < 0 → (Cli mX8_beside [rV 6, iV r5, iV x3] m5 (fun r8 m10 => ((r5 < 0 → (P (some (iV (-4))) m10)) ∧ (¬ r5 < 0 → ((r8 < 0 → (P (some (iV (-4))) m10)) ∧ (¬ r8 < 0 → (Clv mX7_keep [rV 10, rV 1] m10 (fun m11 => (Cli mX8_creaseAt [rV 6, iV r5, iV x3] m11 (fun r9 m12 => (Clv mX8_join [rV 6, iV r5, iV r8, iV x3, iV r1] m12 (fun m13 => ((r9 = 0 → (P (some (iV 5)) m13)) ∧ (¬ r9 = 0 → ((R32 (r9 - 2)) ∧ (Cli mX11_toldStep [iV (r9 - 2)] m13 (fun r10 m14 => (P (some (iV r10)) m14)))))))))))))))))))))))))))))))))))))) : Tj mX11_crease 0 [some (rV 0), some (iV x1), some (iV x2), some (iV x3), some (iV x4)] [] m P := by
  refine Tj.iload dX11_crease_0 rfl rfl ?_
  refine Tj.callSi (as := [_]) (rest := []) dX11_crease_2 ln_X11_203 rfl rfl (Nat.le_of_ble_eq_true rfl) ⟨Nat.le_of_ble_eq_true rfl, Nat.le_of_ble_eq_true rfl⟩ (Nat.le_of_ble_eq_true rfl) rfl ?_
  refine Cli.mono h (fun r1 m1 h => ?_)
  refine Tj.istore dX11_crease_5 (Nat.le_of_ble_eq_true rfl) rfl rfl ?_
  refine Tj.iload_n dX11_crease_7 rfl rfl ?_
  refine Tj.callSi (as := [_]) (rest := []) dX11_crease_8 ln_X11_190 rfl rfl (Nat.le_of_ble_eq_true rfl) ⟨Nat.le_of_ble_eq_true rfl, Nat.le_of_ble_eq_true rfl⟩ (Nat.le_of_ble_eq_true rfl) rfl ?_
  refine Cli.mono h (fun r2 m2 h => ?_)
  refine Tj.if_eq dX11_crease_11 rfl rfl (fun c1 => ?_) (fun c1 => ?_)
  · have h := h.1 c1
    refine Tj.bipush dX11_crease_34 (by decide) (by decide +kernel) rfl ?_
    exact Tj.iret dX11_crease_36 rfl h
  · have h := h.2 c1
    refine Tj.iload_n dX11_crease_14 rfl rfl ?_
    refine Tj.callSi (as := [_]) (rest := []) dX11_crease_15 ln_X11_190 rfl rfl (Nat.le_of_ble_eq_true rfl) ⟨Nat.le_of_ble_eq_true rfl, Nat.le_of_ble_eq_true rfl⟩ (Nat.le_of_ble_eq_true rfl) rfl ?_
    refine Cli.mono h (fun r3 m3 h => ?_)
    refine Tj.if_eq dX11_crease_18 rfl rfl (fun c2 => ?_) (fun c2 => ?_)
    · have h := h.1 c2
      refine Tj.bipush dX11_crease_34 (by decide) (by decide +kernel) rfl ?_
      exact Tj.iret dX11_crease_36 rfl h
    · have h := h.2 c2
      refine Tj.iload_n dX11_crease_21 rfl rfl ?_
      refine Tj.iconst dX11_crease_22 (by decide) rfl ?_
      refine Tj.callSi (as := [_, _]) (rest := []) dX11_crease_23 ln_X11_131 rfl rfl (Nat.le_of_ble_eq_true rfl) ⟨Nat.le_of_ble_eq_true rfl, Nat.le_of_ble_eq_true rfl⟩ (Nat.le_of_ble_eq_true rfl) rfl ?_
      refine Cli.mono h (fun r4 m4 h => ?_)
      refine Tj.if_eq dX11_crease_26 rfl rfl (fun c3 => ?_) (fun c3 => ?_)
      · have h := h.1 c3
        refine Tj.bipush dX11_crease_34 (by decide) (by decide +kernel) rfl ?_
        exact Tj.iret dX11_crease_36 rfl h
      · have h := h.2 c3
        refine Tj.iload dX11_crease_29 rfl rfl ?_
        refine Tj.if_ge dX11_crease_31 rfl rfl (fun c4 => ?_) (fun c4 => ?_)
        · have h := h.1 c4
          refine Tj.bipush dX11_crease_34 (by decide) (by decide +kernel) rfl ?_
          exact Tj.iret dX11_crease_36 rfl h
        · have h := h.2 c4
          refine Tj.aload_n dX11_crease_37 rfl rfl ?_
          refine Tj.getR (b := 1) dX11_crease_38 fl_X11_10 sh_0 rfl rfl ?_
          refine Tj.getR (b := 6) dX11_crease_41 fl_X11_180 sh_1 rfl rfl ?_
          refine Tj.iload_n dX11_crease_44 rfl rfl ?_
          refine Tj.iload_n dX11_crease_45 rfl rfl ?_
          refine Tj.callVi (as := [_, _]) (rest := []) dX11_crease_46 ln_X11_193 sh_6 (by decide) rfl rfl (Nat.le_of_ble_eq_true rfl) ⟨Nat.le_of_ble_eq_true rfl, Nat.le_of_ble_eq_true rfl⟩ (Nat.le_of_ble_eq_true rfl) rfl ?_
          refine Cli.mono h (fun r5 m5 h => ?_)
          refine Tj.istore dX11_crease_49 (Nat.le_of_ble_eq_true rfl) rfl rfl ?_
          refine Tj.iload dX11_crease_51 rfl rfl ?_
          refine Tj.if_ge dX11_crease_53 rfl rfl (fun c5 => ?_) (fun c5 => ?_)
          · have h := h.1 c5
            refine Tj.iconst dX11_crease_56 (by decide) rfl ?_
            refine Tj.goto dX11_crease_57 rfl ?_
            refine Tj.istore dX11_crease_73 (Nat.le_of_ble_eq_true rfl) rfl rfl ?_
            refine Tj.iload dX11_crease_75 rfl rfl ?_
            refine Tj.if_lt dX11_crease_77 rfl rfl (fun c6 => ?_) (fun c6 => ?_)
            · have h := h.1 c6
              refine Tj.bipush dX11_crease_85 (by decide) (by decide +kernel) rfl ?_
              exact Tj.iret dX11_crease_87 rfl h
            · have h := h.2 c6
              refine Tj.iload dX11_crease_80 rfl rfl ?_
              refine Tj.if_ge dX11_crease_82 rfl rfl (fun c7 => ?_) (fun c7 => ?_)
              · have h := h.1 c7
                refine Tj.bipush dX11_crease_85 (by decide) (by decide +kernel) rfl ?_
                exact Tj.iret dX11_crease_87 rfl h
              · have h := h.2 c7
                refine Tj.aload_n dX11_crease_88 rfl rfl ?_
                refine Tj.getR (b := 10) dX11_crease_89 fl_X11_19 sh_0 rfl rfl ?_
                refine Tj.aload_n dX11_crease_92 rfl rfl ?_
                refine Tj.getR (b := 1) dX11_crease_93 fl_X11_10 sh_0 rfl rfl ?_
                refine Tj.callVv (as := [_]) (rest := []) dX11_crease_96 ln_X11_83 sh_10 (by decide) rfl rfl (Nat.le_of_ble_eq_true rfl) ⟨Nat.le_of_ble_eq_true rfl, Nat.le_of_ble_eq_true rfl⟩ (Nat.le_of_ble_eq_true rfl) rfl ?_
                refine Clv.mono h (fun m6 h => ?_)
                refine Tj.aload_n dX11_crease_99 rfl rfl ?_
                refine Tj.getR (b := 1) dX11_crease_100 fl_X11_10 sh_0 rfl rfl ?_
                refine Tj.getR (b := 6) dX11_crease_103 fl_X11_180 sh_1 rfl rfl ?_
                refine Tj.iload dX11_crease_106 rfl rfl ?_
                refine Tj.iload_n dX11_crease_108 rfl rfl ?_
                refine Tj.callVi (as := [_, _]) (rest := []) dX11_crease_109 ln_X11_209 sh_6 (by decide) rfl rfl (Nat.le_of_ble_eq_true rfl) ⟨Nat.le_of_ble_eq_true rfl, Nat.le_of_ble_eq_true rfl⟩ (Nat.le_of_ble_eq_true rfl) rfl ?_
                refine Cli.mono h (fun r6 m7 h => ?_)
                refine Tj.istore dX11_crease_112 (Nat.le_of_ble_eq_true rfl) rfl rfl ?_
                refine Tj.aload_n dX11_crease_114 rfl rfl ?_
                refine Tj.getR (b := 1) dX11_crease_115 fl_X11_10 sh_0 rfl rfl ?_
                refine Tj.getR (b := 6) dX11_crease_118 fl_X11_180 sh_1 rfl rfl ?_
                refine Tj.iload dX11_crease_121 rfl rfl ?_
                refine Tj.iload dX11_crease_123 rfl rfl ?_
                refine Tj.iload_n dX11_crease_125 rfl rfl ?_
                refine Tj.iload dX11_crease_126 rfl rfl ?_
                refine Tj.callVv (as := [_, _, _, _]) (rest := []) dX11_crease_128 ln_X11_212 sh_6 (by decide) rfl rfl (Nat.le_of_ble_eq_true rfl) ⟨Nat.le_of_ble_eq_true rfl, Nat.le_of_ble_eq_true rfl⟩ (Nat.le_of_ble_eq_true rfl) rfl ?_
                refine Clv.mono h (fun m8 h => ?_)
                refine Tj.iload dX11_crease_131 rfl rfl ?_
                refine Tj.if_ne dX11_crease_133 rfl rfl (fun c8 => ?_) (fun c8 => ?_)
                · have h := h.1 c8
                  refine Tj.iconst dX11_crease_136 (by decide) rfl ?_
                  refine Tj.goto dX11_crease_137 rfl ?_
                  exact Tj.iret dX11_crease_147 rfl h
                · have h := h.2 c8
                  obtain ⟨o1, h⟩ := h
                  refine Tj.iload dX11_crease_140 rfl rfl ?_
                  refine Tj.iconst dX11_crease_142 (by decide) rfl ?_
                  refine Tj.isub dX11_crease_143 o1 rfl ?_
                  refine Tj.callSi (as := [_]) (rest := []) dX11_crease_144 ln_X11_153 rfl rfl (Nat.le_of_ble_eq_true rfl) ⟨Nat.le_of_ble_eq_true rfl, Nat.le_of_ble_eq_true rfl⟩ (Nat.le_of_ble_eq_true rfl) rfl ?_
                  refine Cli.mono h (fun r7 m9 h => ?_)
                  exact Tj.iret dX11_crease_147 rfl h
          · have h := h.2 c5
            refine Tj.aload_n dX11_crease_60 rfl rfl ?_
            refine Tj.getR (b := 1) dX11_crease_61 fl_X11_10 sh_0 rfl rfl ?_
            refine Tj.getR (b := 6) dX11_crease_64 fl_X11_180 sh_1 rfl rfl ?_
            refine Tj.iload dX11_crease_67 rfl rfl ?_
            refine Tj.iload_n dX11_crease_69 rfl rfl ?_
            refine Tj.callVi (as := [_, _]) (rest := []) dX11_crease_70 ln_X11_206 sh_6 (by decide) rfl rfl (Nat.le_of_ble_eq_true rfl) ⟨Nat.le_of_ble_eq_true rfl, Nat.le_of_ble_eq_true rfl⟩ (Nat.le_of_ble_eq_true rfl) rfl ?_
            refine Cli.mono h (fun r8 m10 h => ?_)
            refine Tj.istore dX11_crease_73 (Nat.le_of_ble_eq_true rfl) rfl rfl ?_
            refine Tj.iload dX11_crease_75 rfl rfl ?_
            refine Tj.if_lt dX11_crease_77 rfl rfl (fun c9 => ?_) (fun c9 => ?_)
            · have h := h.1 c9
              refine Tj.bipush dX11_crease_85 (by decide) (by decide +kernel) rfl ?_
              exact Tj.iret dX11_crease_87 rfl h
            · have h := h.2 c9
              refine Tj.iload dX11_crease_80 rfl rfl ?_
              refine Tj.if_ge dX11_crease_82 rfl rfl (fun c10 => ?_) (fun c10 => ?_)
              · have h := h.1 c10
                refine Tj.bipush dX11_crease_85 (by decide) (by decide +kernel) rfl ?_
                exact Tj.iret dX11_crease_87 rfl h
              · have h := h.2 c10
                refine Tj.aload_n dX11_crease_88 rfl rfl ?_
                refine Tj.getR (b := 10) dX11_crease_89 fl_X11_19 sh_0 rfl rfl ?_
                refine Tj.aload_n dX11_crease_92 rfl rfl ?_
                refine Tj.getR (b := 1) dX11_crease_93 fl_X11_10 sh_0 rfl rfl ?_
                refine Tj.callVv (as := [_]) (rest := []) dX11_crease_96 ln_X11_83 sh_10 (by decide) rfl rfl (Nat.le_of_ble_eq_true rfl) ⟨Nat.le_of_ble_eq_true rfl, Nat.le_of_ble_eq_true rfl⟩ (Nat.le_of_ble_eq_true rfl) rfl ?_
                refine Clv.mono h (fun m11 h => ?_)
                refine Tj.aload_n dX11_crease_99 rfl rfl ?_
                refine Tj.getR (b := 1) dX11_crease_100 fl_X11_10 sh_0 rfl rfl ?_
                refine Tj.getR (b := 6) dX11_crease_103 fl_X11_180 sh_1 rfl rfl ?_
                refine Tj.iload dX11_crease_106 rfl rfl ?_
                refine Tj.iload_n dX11_crease_108 rfl rfl ?_
                refine Tj.callVi (as := [_, _]) (rest := []) dX11_crease_109 ln_X11_209 sh_6 (by decide) rfl rfl (Nat.le_of_ble_eq_true rfl) ⟨Nat.le_of_ble_eq_true rfl, Nat.le_of_ble_eq_true rfl⟩ (Nat.le_of_ble_eq_true rfl) rfl ?_
                refine Cli.mono h (fun r9 m12 h => ?_)
                refine Tj.istore dX11_crease_112 (Nat.le_of_ble_eq_true rfl) rfl rfl ?_
                refine Tj.aload_n dX11_crease_114 rfl rfl ?_
                refine Tj.getR (b := 1) dX11_crease_115 fl_X11_10 sh_0 rfl rfl ?_
                refine Tj.getR (b := 6) dX11_crease_118 fl_X11_180 sh_1 rfl rfl ?_
                refine Tj.iload dX11_crease_121 rfl rfl ?_
                refine Tj.iload dX11_crease_123 rfl rfl ?_
                refine Tj.iload_n dX11_crease_125 rfl rfl ?_
                refine Tj.iload dX11_crease_126 rfl rfl ?_
                refine Tj.callVv (as := [_, _, _, _]) (rest := []) dX11_crease_128 ln_X11_212 sh_6 (by decide) rfl rfl (Nat.le_of_ble_eq_true rfl) ⟨Nat.le_of_ble_eq_true rfl, Nat.le_of_ble_eq_true rfl⟩ (Nat.le_of_ble_eq_true rfl) rfl ?_
                refine Clv.mono h (fun m13 h => ?_)
                refine Tj.iload dX11_crease_131 rfl rfl ?_
                refine Tj.if_ne dX11_crease_133 rfl rfl (fun c11 => ?_) (fun c11 => ?_)
                · have h := h.1 c11
                  refine Tj.iconst dX11_crease_136 (by decide) rfl ?_
                  refine Tj.goto dX11_crease_137 rfl ?_
                  exact Tj.iret dX11_crease_147 rfl h
                · have h := h.2 c11
                  obtain ⟨o2, h⟩ := h
                  refine Tj.iload dX11_crease_140 rfl rfl ?_
                  refine Tj.iconst dX11_crease_142 (by decide) rfl ?_
                  refine Tj.isub dX11_crease_143 o2 rfl ?_
                  refine Tj.callSi (as := [_]) (rest := []) dX11_crease_144 ln_X11_153 rfl rfl (Nat.le_of_ble_eq_true rfl) ⟨Nat.le_of_ble_eq_true rfl, Nat.le_of_ble_eq_true rfl⟩ (Nat.le_of_ble_eq_true rfl) rfl ?_
                  refine Cli.mono h (fun r10 m14 h => ?_)
                  exact Tj.iret dX11_crease_147 rfl h

theorem wX11_turn_0 {m : tM} {P : Option tV → tM → Prop} {x1 : Int}  (h : Cli mX11_isSwitch [iV x1] m (fun r1 m1 => ((r1 = 0 → (P (some (iV (-3))) m1)) ∧ (¬ r1 = 0 → (Clv mX7_keep [rV 10, rV 1] m1 (fun m2 => (Clv mX8_become [rV 141, rV 6] m2 (fun m3 => (∀ v1 : Int, v1 = (if x1 = 0 then 1 else 0) → (∀ v2 : Int, v2 = (if x1 = 1 then 1 else 0) → (Clv mX8_becomeTurned [rV 6, rV 141, iV v1, iV v2] m3 (fun m4 => (P (some (iV 0)) m4))))))))))))) : Tj mX11_turn 0 [some (rV 0), some (iV x1)] [] m P := by
  refine Tj.iload_n dX11_turn_0 rfl rfl ?_
  refine Tj.callSi (as := [_]) (rest := []) dX11_turn_1 ln_X11_111 rfl rfl (Nat.le_of_ble_eq_true rfl) ⟨Nat.le_of_ble_eq_true rfl, Nat.le_of_ble_eq_true rfl⟩ (Nat.le_of_ble_eq_true rfl) rfl ?_
  refine Cli.mono h (fun r1 m1 h => ?_)
  refine Tj.if_ne dX11_turn_4 rfl rfl (fun c1 => ?_) (fun c1 => ?_)
  · have h := h.1 c1
    refine Tj.bipush dX11_turn_7 (by decide) (by decide +kernel) rfl ?_
    exact Tj.iret dX11_turn_9 rfl h
  · have h := h.2 c1
    refine Tj.aload_n dX11_turn_10 rfl rfl ?_
    refine Tj.getR (b := 10) dX11_turn_11 fl_X11_19 sh_0 rfl rfl ?_
    refine Tj.aload_n dX11_turn_14 rfl rfl ?_
    refine Tj.getR (b := 1) dX11_turn_15 fl_X11_10 sh_0 rfl rfl ?_
    refine Tj.callVv (as := [_]) (rest := []) dX11_turn_18 ln_X11_83 sh_10 (by decide) rfl rfl (Nat.le_of_ble_eq_true rfl) ⟨Nat.le_of_ble_eq_true rfl, Nat.le_of_ble_eq_true rfl⟩ (Nat.le_of_ble_eq_true rfl) rfl ?_
    refine Clv.mono h (fun m2 h => ?_)
    refine Tj.aload_n dX11_turn_21 rfl rfl ?_
    refine Tj.getR (b := 141) dX11_turn_22 fl_X11_75 sh_0 rfl rfl ?_
    refine Tj.aload_n dX11_turn_25 rfl rfl ?_
    refine Tj.getR (b := 1) dX11_turn_26 fl_X11_10 sh_0 rfl rfl ?_
    refine Tj.getR (b := 6) dX11_turn_29 fl_X11_180 sh_1 rfl rfl ?_
    refine Tj.callVv (as := [_]) (rest := []) dX11_turn_32 ln_X11_216 sh_141 (by decide) rfl rfl (Nat.le_of_ble_eq_true rfl) ⟨Nat.le_of_ble_eq_true rfl, Nat.le_of_ble_eq_true rfl⟩ (Nat.le_of_ble_eq_true rfl) rfl ?_
    refine Clv.mono h (fun m3 h => ?_)
    refine Tj.aload_n dX11_turn_35 rfl rfl ?_
    refine Tj.getR (b := 1) dX11_turn_36 fl_X11_10 sh_0 rfl rfl ?_
    refine Tj.getR (b := 6) dX11_turn_39 fl_X11_180 sh_1 rfl rfl ?_
    refine Tj.aload_n dX11_turn_42 rfl rfl ?_
    refine Tj.getR (b := 141) dX11_turn_43 fl_X11_75 sh_0 rfl rfl ?_
    refine Tj.iload_n dX11_turn_46 rfl rfl ?_
    have hj : Tj mX11_turn 55 [none, some (iV x1)] [iV (if x1 = 0 then 1 else 0), rV 141, rV 6] m3 P := by
      generalize hv1 : (if x1 = 0 then 1 else 0) = v1
      have h := h v1 hv1.symm
      refine Tj.iload_n dX11_turn_55 rfl rfl ?_
      refine Tj.iconst dX11_turn_56 (by decide) rfl ?_
      have hj : Tj mX11_turn 65 [] [iV (if x1 = 1 then 1 else 0), iV v1, rV 141, rV 6] m3 P := by
        generalize hv2 : (if x1 = 1 then 1 else 0) = v2
        have h := h v2 hv2.symm
        refine Tj.callVv (as := [_, _, _]) (rest := []) dX11_turn_65 ln_X11_220 sh_6 (by decide) rfl rfl (Nat.le_of_ble_eq_true rfl) ⟨Nat.le_of_ble_eq_true rfl, Nat.le_of_ble_eq_true rfl⟩ (Nat.le_of_ble_eq_true rfl) rfl ?_
        refine Clv.mono h (fun m4 h => ?_)
        refine Tj.iconst dX11_turn_68 (by decide) rfl ?_
        exact Tj.iret dX11_turn_69 rfl h
      refine Tj.icmp_ne dX11_turn_57 rfl rfl (fun c3 => ?_) (fun c3 => ?_)
      · refine Tj.iconst dX11_turn_60 (by decide) rfl ?_
        refine Tj.goto dX11_turn_61 rfl ?_
        try simp only [if_pos c3] at hj ⊢
        exact Tj.cut hj trivial
      · refine Tj.iconst dX11_turn_64 (by decide) rfl ?_
        try simp only [if_neg c3] at hj ⊢
        exact Tj.cut hj trivial
    refine Tj.if_ne dX11_turn_47 rfl rfl (fun c2 => ?_) (fun c2 => ?_)
    · refine Tj.iconst dX11_turn_50 (by decide) rfl ?_
      refine Tj.goto dX11_turn_51 rfl ?_
      try simp only [if_pos c2] at hj ⊢
      exact Tj.cut hj ⟨rfl, trivial⟩
    · refine Tj.iconst dX11_turn_54 (by decide) rfl ?_
      try simp only [if_neg c2] at hj ⊢
      exact Tj.cut hj ⟨rfl, trivial⟩

theorem wX11_clear_0 {m : tM} {P : Option tV → tM → Prop}   (h : Clv mX7_keep [rV 10, rV 1] m (fun m1 => (Cli mX8_size [rV 6] m1 (fun r1 m2 => (Clv mX8_drop [rV 6] m2 (fun m3 => (P (some (iV r1)) m3))))))) : Tj mX11_clear 0 [some (rV 0)] [] m P := by
  refine Tj.aload_n dX11_clear_0 rfl rfl ?_
  refine Tj.getR (b := 10) dX11_clear_1 fl_X11_19 sh_0 rfl rfl ?_
  refine Tj.aload_n dX11_clear_4 rfl rfl ?_
  refine Tj.getR (b := 1) dX11_clear_5 fl_X11_10 sh_0 rfl rfl ?_
  refine Tj.callVv (as := [_]) (rest := []) dX11_clear_8 ln_X11_83 sh_10 (by decide) rfl rfl (Nat.le_of_ble_eq_true rfl) ⟨Nat.le_of_ble_eq_true rfl, Nat.le_of_ble_eq_true rfl⟩ (Nat.le_of_ble_eq_true rfl) rfl ?_
  refine Clv.mono h (fun m1 h => ?_)
  refine Tj.aload_n dX11_clear_11 rfl rfl ?_
  refine Tj.getR (b := 1) dX11_clear_12 fl_X11_10 sh_0 rfl rfl ?_
  refine Tj.getR (b := 6) dX11_clear_15 fl_X11_180 sh_1 rfl rfl ?_
  refine Tj.callVi (as := []) (rest := []) dX11_clear_18 ln_X11_196 sh_6 (by decide) rfl rfl (Nat.le_of_ble_eq_true rfl) ⟨Nat.le_of_ble_eq_true rfl, Nat.le_of_ble_eq_true rfl⟩ (Nat.le_of_ble_eq_true rfl) rfl ?_
  refine Cli.mono h (fun r1 m2 h => ?_)
  refine Tj.istore_n dX11_clear_21 (Nat.le_of_ble_eq_true rfl) rfl rfl ?_
  refine Tj.aload_n dX11_clear_22 rfl rfl ?_
  refine Tj.getR (b := 1) dX11_clear_23 fl_X11_10 sh_0 rfl rfl ?_
  refine Tj.getR (b := 6) dX11_clear_26 fl_X11_180 sh_1 rfl rfl ?_
  refine Tj.callVv (as := []) (rest := []) dX11_clear_29 ln_X11_224 sh_6 (by decide) rfl rfl (Nat.le_of_ble_eq_true rfl) ⟨Nat.le_of_ble_eq_true rfl, Nat.le_of_ble_eq_true rfl⟩ (Nat.le_of_ble_eq_true rfl) rfl ?_
  refine Clv.mono h (fun m3 h => ?_)
  refine Tj.iload_n dX11_clear_32 rfl rfl ?_
  exact Tj.iret dX11_clear_33 rfl h

theorem wX11_told_0 {m : tM} {P : Option tV → tM → Prop} {x1 : Int} {x2 : Int}  (h : Cli mX8_size [rV 6] m (fun r1 m1 => (Cli mX11_isWithin [iV x1, iV r1] m1 (fun r2 m2 => ((r2 = 0 → (P (some (iV (-3))) m2)) ∧ (¬ r2 = 0 → (Cli mX11_isWithin [iV x2, iV 3] m2 (fun r3 m3 => ((r3 = 0 → (P (some (iV (-3))) m3)) ∧ (¬ r3 = 0 → ((x2 = 0 → (Cli mX8_xOf [rV 6, iV x1] m3 (fun r4 m4 => (P (some (iV r4)) m4)))) ∧ (x2 = 1 → (Cli mX8_yOf [rV 6, iV x1] m3 (fun r5 m5 => (P (some (iV r5)) m5)))) ∧ (¬ x2 = 0 → ¬ x2 = 1 → (Cli mX8_creasesOf [rV 6, iV x1] m3 (fun r6 m6 => (P (some (iV r6)) m6))))))))))))))) : Tj mX11_told 0 [some (rV 0), some (iV x1), some (iV x2)] [] m P := by
  refine Tj.iload_n dX11_told_0 rfl rfl ?_
  refine Tj.aload_n dX11_told_1 rfl rfl ?_
  refine Tj.getR (b := 1) dX11_told_2 fl_X11_10 sh_0 rfl rfl ?_
  refine Tj.getR (b := 6) dX11_told_5 fl_X11_180 sh_1 rfl rfl ?_
  refine Tj.callVi (as := []) (rest := [_]) dX11_told_8 ln_X11_196 sh_6 (by decide) rfl rfl (Nat.le_of_ble_eq_true rfl) ⟨Nat.le_of_ble_eq_true rfl, Nat.le_of_ble_eq_true rfl⟩ (Nat.le_of_ble_eq_true rfl) rfl ?_
  refine Cli.mono h (fun r1 m1 h => ?_)
  refine Tj.callSi (as := [_, _]) (rest := []) dX11_told_11 ln_X11_131 rfl rfl (Nat.le_of_ble_eq_true rfl) ⟨Nat.le_of_ble_eq_true rfl, Nat.le_of_ble_eq_true rfl⟩ (Nat.le_of_ble_eq_true rfl) rfl ?_
  refine Cli.mono h (fun r2 m2 h => ?_)
  refine Tj.if_eq dX11_told_14 rfl rfl (fun c1 => ?_) (fun c1 => ?_)
  · have h := h.1 c1
    refine Tj.bipush dX11_told_25 (by decide) (by decide +kernel) rfl ?_
    exact Tj.iret dX11_told_27 rfl h
  · have h := h.2 c1
    refine Tj.iload_n dX11_told_17 rfl rfl ?_
    refine Tj.iconst dX11_told_18 (by decide) rfl ?_
    refine Tj.callSi (as := [_, _]) (rest := []) dX11_told_19 ln_X11_131 rfl rfl (Nat.le_of_ble_eq_true rfl) ⟨Nat.le_of_ble_eq_true rfl, Nat.le_of_ble_eq_true rfl⟩ (Nat.le_of_ble_eq_true rfl) rfl ?_
    refine Cli.mono h (fun r3 m3 h => ?_)
    refine Tj.if_ne dX11_told_22 rfl rfl (fun c2 => ?_) (fun c2 => ?_)
    · have h := h.1 c2
      refine Tj.bipush dX11_told_25 (by decide) (by decide +kernel) rfl ?_
      exact Tj.iret dX11_told_27 rfl h
    · have h := h.2 c2
      refine Tj.iload_n dX11_told_28 rfl rfl ?_
      show Tj mX11_told 29 [some (rV 0), some (iV x1), some (iV x2)] [iV x2] m3 P
      by_cases c3 : x2 = 0
      · have h := h.1 c3
        refine Tj.lsw dX11_told_29 (by decide) (by rw [c3]; rfl) rfl ?_
        refine Tj.aload_n dX11_told_56 rfl rfl ?_
        refine Tj.getR (b := 1) dX11_told_57 fl_X11_10 sh_0 rfl rfl ?_
        refine Tj.getR (b := 6) dX11_told_60 fl_X11_180 sh_1 rfl rfl ?_
        refine Tj.iload_n dX11_told_63 rfl rfl ?_
        refine Tj.callVi (as := [_]) (rest := []) dX11_told_64 ln_X11_227 sh_6 (by decide) rfl rfl (Nat.le_of_ble_eq_true rfl) ⟨Nat.le_of_ble_eq_true rfl, Nat.le_of_ble_eq_true rfl⟩ (Nat.le_of_ble_eq_true rfl) rfl ?_
        refine Cli.mono h (fun r4 m4 h => ?_)
        exact Tj.iret dX11_told_67 rfl h
      have h := h.2
      by_cases c4 : x2 = 1
      · have h := h.1 c4
        refine Tj.lsw dX11_told_29 (by decide) (by rw [c4]; rfl) rfl ?_
        refine Tj.aload_n dX11_told_68 rfl rfl ?_
        refine Tj.getR (b := 1) dX11_told_69 fl_X11_10 sh_0 rfl rfl ?_
        refine Tj.getR (b := 6) dX11_told_72 fl_X11_180 sh_1 rfl rfl ?_
        refine Tj.iload_n dX11_told_75 rfl rfl ?_
        refine Tj.callVi (as := [_]) (rest := []) dX11_told_76 ln_X11_230 sh_6 (by decide) rfl rfl (Nat.le_of_ble_eq_true rfl) ⟨Nat.le_of_ble_eq_true rfl, Nat.le_of_ble_eq_true rfl⟩ (Nat.le_of_ble_eq_true rfl) rfl ?_
        refine Cli.mono h (fun r5 m5 h => ?_)
        exact Tj.iret dX11_told_79 rfl h
      have h := h.2
      have h := h c3 c4
      refine Tj.lsw dX11_told_29 (by decide) (by simp [Op.lookupswitch.offset, c3, c4]; rfl) rfl ?_
      refine Tj.aload_n dX11_told_80 rfl rfl ?_
      refine Tj.getR (b := 1) dX11_told_81 fl_X11_10 sh_0 rfl rfl ?_
      refine Tj.getR (b := 6) dX11_told_84 fl_X11_180 sh_1 rfl rfl ?_
      refine Tj.iload_n dX11_told_87 rfl rfl ?_
      refine Tj.callVi (as := [_]) (rest := []) dX11_told_88 ln_X11_233 sh_6 (by decide) rfl rfl (Nat.le_of_ble_eq_true rfl) ⟨Nat.le_of_ble_eq_true rfl, Nat.le_of_ble_eq_true rfl⟩ (Nat.le_of_ble_eq_true rfl) rfl ?_
      refine Cli.mono h (fun r6 m6 h => ?_)
      exact Tj.iret dX11_told_91 rfl h

theorem wX11_fold_0 {m : tM} {P : Option tV → tM → Prop}   (h : Cli mX3_run [rV 124, rV 6, rV 120] m (fun r1 m1 => (P (some (iV r1)) m1))) : Tj mX11_fold 0 [some (rV 0)] [] m P := by
  refine Tj.aload_n dX11_fold_0 rfl rfl ?_
  refine Tj.getR (b := 124) dX11_fold_1 fl_X11_54 sh_0 rfl rfl ?_
  refine Tj.aload_n dX11_fold_4 rfl rfl ?_
  refine Tj.getR (b := 1) dX11_fold_5 fl_X11_10 sh_0 rfl rfl ?_
  refine Tj.getR (b := 6) dX11_fold_8 fl_X11_180 sh_1 rfl rfl ?_
  refine Tj.aload_n dX11_fold_11 rfl rfl ?_
  refine Tj.getR (b := 120) dX11_fold_12 fl_X11_47 sh_0 rfl rfl ?_
  refine Tj.callVi (as := [_, _]) (rest := []) dX11_fold_15 ln_X11_236 sh_124 (by decide) rfl rfl (Nat.le_of_ble_eq_true rfl) ⟨Nat.le_of_ble_eq_true rfl, Nat.le_of_ble_eq_true rfl⟩ (Nat.le_of_ble_eq_true rfl) rfl ?_
  refine Cli.mono h (fun r1 m1 h => ?_)
  exact Tj.iret dX11_fold_18 rfl h

theorem wX11_where_0 {m : tM} {P : Option tV → tM → Prop} {x1 : Int} {x2 : Int}  (h : Cli mX8_size [rV 6] m (fun r1 m1 => (Cli mX11_isWithin [iV x1, iV r1] m1 (fun r2 m2 => ((r2 = 0 → (P (some (iV (-3))) m2)) ∧ (¬ r2 = 0 → (Cli mX11_isWithin [iV x2, iV 5] m2 (fun r3 m3 => ((r3 = 0 → (P (some (iV (-3))) m3)) ∧ (¬ r3 = 0 → (Cli mX3_run [rV 124, rV 6, rV 120] m3 (fun r4 m4 => ((r4 = 0 → (Cli mX3_poseOf [rV 124, iV x1, iV x2] m4 (fun r5 m5 => ((r5 < 0 → ((R32 (r5 + 1000)) ∧ (P (some (iV (r5 + 1000))) m5))) ∧ (¬ r5 < 0 → (P (some (iV r5)) m5)))))) ∧ (¬ r4 = 0 → (P (some (iV (-4))) m4))))))))))))))) : Tj mX11_where 0 [some (rV 0), some (iV x1), some (iV x2)] [] m P := by
  refine Tj.iload_n dX11_where_0 rfl rfl ?_
  refine Tj.aload_n dX11_where_1 rfl rfl ?_
  refine Tj.getR (b := 1) dX11_where_2 fl_X11_10 sh_0 rfl rfl ?_
  refine Tj.getR (b := 6) dX11_where_5 fl_X11_180 sh_1 rfl rfl ?_
  refine Tj.callVi (as := []) (rest := [_]) dX11_where_8 ln_X11_196 sh_6 (by decide) rfl rfl (Nat.le_of_ble_eq_true rfl) ⟨Nat.le_of_ble_eq_true rfl, Nat.le_of_ble_eq_true rfl⟩ (Nat.le_of_ble_eq_true rfl) rfl ?_
  refine Cli.mono h (fun r1 m1 h => ?_)
  refine Tj.callSi (as := [_, _]) (rest := []) dX11_where_11 ln_X11_131 rfl rfl (Nat.le_of_ble_eq_true rfl) ⟨Nat.le_of_ble_eq_true rfl, Nat.le_of_ble_eq_true rfl⟩ (Nat.le_of_ble_eq_true rfl) rfl ?_
  refine Cli.mono h (fun r2 m2 h => ?_)
  refine Tj.if_eq dX11_where_14 rfl rfl (fun c1 => ?_) (fun c1 => ?_)
  · have h := h.1 c1
    refine Tj.bipush dX11_where_25 (by decide) (by decide +kernel) rfl ?_
    exact Tj.iret dX11_where_27 rfl h
  · have h := h.2 c1
    refine Tj.iload_n dX11_where_17 rfl rfl ?_
    refine Tj.iconst dX11_where_18 (by decide) rfl ?_
    refine Tj.callSi (as := [_, _]) (rest := []) dX11_where_19 ln_X11_131 rfl rfl (Nat.le_of_ble_eq_true rfl) ⟨Nat.le_of_ble_eq_true rfl, Nat.le_of_ble_eq_true rfl⟩ (Nat.le_of_ble_eq_true rfl) rfl ?_
    refine Cli.mono h (fun r3 m3 h => ?_)
    refine Tj.if_ne dX11_where_22 rfl rfl (fun c2 => ?_) (fun c2 => ?_)
    · have h := h.1 c2
      refine Tj.bipush dX11_where_25 (by decide) (by decide +kernel) rfl ?_
      exact Tj.iret dX11_where_27 rfl h
    · have h := h.2 c2
      refine Tj.aload_n dX11_where_28 rfl rfl ?_
      refine Tj.getR (b := 124) dX11_where_29 fl_X11_54 sh_0 rfl rfl ?_
      refine Tj.aload_n dX11_where_32 rfl rfl ?_
      refine Tj.getR (b := 1) dX11_where_33 fl_X11_10 sh_0 rfl rfl ?_
      refine Tj.getR (b := 6) dX11_where_36 fl_X11_180 sh_1 rfl rfl ?_
      refine Tj.aload_n dX11_where_39 rfl rfl ?_
      refine Tj.getR (b := 120) dX11_where_40 fl_X11_47 sh_0 rfl rfl ?_
      refine Tj.callVi (as := [_, _]) (rest := []) dX11_where_43 ln_X11_236 sh_124 (by decide) rfl rfl (Nat.le_of_ble_eq_true rfl) ⟨Nat.le_of_ble_eq_true rfl, Nat.le_of_ble_eq_true rfl⟩ (Nat.le_of_ble_eq_true rfl) rfl ?_
      refine Cli.mono h (fun r4 m4 h => ?_)
      refine Tj.if_eq dX11_where_46 rfl rfl (fun c3 => ?_) (fun c3 => ?_)
      · have h := h.1 c3
        refine Tj.aload_n dX11_where_52 rfl rfl ?_
        refine Tj.getR (b := 124) dX11_where_53 fl_X11_54 sh_0 rfl rfl ?_
        refine Tj.iload_n dX11_where_56 rfl rfl ?_
        refine Tj.iload_n dX11_where_57 rfl rfl ?_
        refine Tj.callVi (as := [_, _]) (rest := []) dX11_where_58 ln_X11_240 sh_124 (by decide) rfl rfl (Nat.le_of_ble_eq_true rfl) ⟨Nat.le_of_ble_eq_true rfl, Nat.le_of_ble_eq_true rfl⟩ (Nat.le_of_ble_eq_true rfl) rfl ?_
        refine Cli.mono h (fun r5 m5 h => ?_)
        refine Tj.istore_n dX11_where_61 (Nat.le_of_ble_eq_true rfl) rfl rfl ?_
        refine Tj.iload_n dX11_where_62 rfl rfl ?_
        refine Tj.if_ge dX11_where_63 rfl rfl (fun c4 => ?_) (fun c4 => ?_)
        · have h := h.1 c4
          obtain ⟨o1, h⟩ := h
          refine Tj.iload_n dX11_where_66 rfl rfl ?_
          refine Tj.sipush dX11_where_67 (by decide) (by decide +kernel) rfl ?_
          refine Tj.iadd dX11_where_70 o1 rfl ?_
          refine Tj.goto dX11_where_71 rfl ?_
          exact Tj.iret dX11_where_75 rfl h
        · have h := h.2 c4
          refine Tj.iload_n dX11_where_74 rfl rfl ?_
          exact Tj.iret dX11_where_75 rfl h
      · have h := h.2 c3
        refine Tj.bipush dX11_where_49 (by decide) (by decide +kernel) rfl ?_
        exact Tj.iret dX11_where_51 rfl h

theorem wX11_closed_0 {m : tM} {P : Option tV → tM → Prop}   (h : Cli mX3_run [rV 124, rV 6, rV 120] m (fun r1 m1 => ((r1 = 0 → (Cli mX3_leavesNoGap [rV 124] m1 (fun r2 m2 => (∀ v1 : Int, v1 = (if r2 = 0 then 0 else 1) → (P (some (iV v1)) m2))))) ∧ (¬ r1 = 0 → (P (some (iV 0)) m1))))) : Tj mX11_closed 0 [some (rV 0)] [] m P := by
  refine Tj.aload_n dX11_closed_0 rfl rfl ?_
  refine Tj.getR (b := 124) dX11_closed_1 fl_X11_54 sh_0 rfl rfl ?_
  refine Tj.aload_n dX11_closed_4 rfl rfl ?_
  refine Tj.getR (b := 1) dX11_closed_5 fl_X11_10 sh_0 rfl rfl ?_
  refine Tj.getR (b := 6) dX11_closed_8 fl_X11_180 sh_1 rfl rfl ?_
  refine Tj.aload_n dX11_closed_11 rfl rfl ?_
  refine Tj.getR (b := 120) dX11_closed_12 fl_X11_47 sh_0 rfl rfl ?_
  refine Tj.callVi (as := [_, _]) (rest := []) dX11_closed_15 ln_X11_236 sh_124 (by decide) rfl rfl (Nat.le_of_ble_eq_true rfl) ⟨Nat.le_of_ble_eq_true rfl, Nat.le_of_ble_eq_true rfl⟩ (Nat.le_of_ble_eq_true rfl) rfl ?_
  refine Cli.mono h (fun r1 m1 h => ?_)
  refine Tj.if_ne dX11_closed_18 rfl rfl (fun c1 => ?_) (fun c1 => ?_)
  · have h := h.1 c1
    refine Tj.aload_n dX11_closed_21 rfl rfl ?_
    refine Tj.getR (b := 124) dX11_closed_22 fl_X11_54 sh_0 rfl rfl ?_
    refine Tj.callVi (as := []) (rest := []) dX11_closed_25 ln_X11_243 sh_124 (by decide) rfl rfl (Nat.le_of_ble_eq_true rfl) ⟨Nat.le_of_ble_eq_true rfl, Nat.le_of_ble_eq_true rfl⟩ (Nat.le_of_ble_eq_true rfl) rfl ?_
    refine Cli.mono h (fun r2 m2 h => ?_)
    have hj : Tj mX11_closed 36 [] [iV (if r2 = 0 then 0 else 1)] m2 P := by
      generalize hv1 : (if r2 = 0 then 0 else 1) = v1
      have h := h v1 hv1.symm
      exact Tj.iret dX11_closed_36 rfl h
    refine Tj.if_eq dX11_closed_28 rfl rfl (fun c2 => ?_) (fun c2 => ?_)
    · refine Tj.iconst dX11_closed_35 (by decide) rfl ?_
      try simp only [if_pos c2] at hj ⊢
      exact Tj.cut hj trivial
    · refine Tj.iconst dX11_closed_31 (by decide) rfl ?_
      refine Tj.goto dX11_closed_32 rfl ?_
      try simp only [if_neg c2] at hj ⊢
      exact Tj.cut hj trivial
  · have h := h.2 c1
    refine Tj.iconst dX11_closed_35 (by decide) rfl ?_
    exact Tj.iret dX11_closed_36 rfl h

theorem wX11_form_0 {m : tM} {P : Option tV → tM → Prop} {x1 : Int}  (h : (x1 < 0 → (P (some (iV (-3))) m)) ∧ (¬ x1 < 0 → (Clv mX4_take [rV 133, rV 6] m (fun m1 => (Cli mX4_length [rV 133] m1 (fun r1 m2 => ((x1 < r1 → (Cli mX4_number [rV 133, iV x1] m2 (fun r2 m3 => (P (some (iV r2)) m3)))) ∧ (¬ x1 < r1 → (P (some (iV (-1))) m2))))))))) : Tj mX11_form 0 [some (rV 0), some (iV x1)] [] m P := by
  refine Tj.iload_n dX11_form_0 rfl rfl ?_
  refine Tj.if_ge dX11_form_1 rfl rfl (fun c1 => ?_) (fun c1 => ?_)
  · have h := h.1 c1
    refine Tj.bipush dX11_form_4 (by decide) (by decide +kernel) rfl ?_
    exact Tj.iret dX11_form_6 rfl h
  · have h := h.2 c1
    refine Tj.aload_n dX11_form_7 rfl rfl ?_
    refine Tj.getR (b := 133) dX11_form_8 fl_X11_68 sh_0 rfl rfl ?_
    refine Tj.aload_n dX11_form_11 rfl rfl ?_
    refine Tj.getR (b := 1) dX11_form_12 fl_X11_10 sh_0 rfl rfl ?_
    refine Tj.getR (b := 6) dX11_form_15 fl_X11_180 sh_1 rfl rfl ?_
    refine Tj.callVv (as := [_]) (rest := []) dX11_form_18 ln_X11_246 sh_133 (by decide) rfl rfl (Nat.le_of_ble_eq_true rfl) ⟨Nat.le_of_ble_eq_true rfl, Nat.le_of_ble_eq_true rfl⟩ (Nat.le_of_ble_eq_true rfl) rfl ?_
    refine Clv.mono h (fun m1 h => ?_)
    refine Tj.iload_n dX11_form_21 rfl rfl ?_
    refine Tj.aload_n dX11_form_22 rfl rfl ?_
    refine Tj.getR (b := 133) dX11_form_23 fl_X11_68 sh_0 rfl rfl ?_
    refine Tj.callVi (as := []) (rest := [_]) dX11_form_26 ln_X11_248 sh_133 (by decide) rfl rfl (Nat.le_of_ble_eq_true rfl) ⟨Nat.le_of_ble_eq_true rfl, Nat.le_of_ble_eq_true rfl⟩ (Nat.le_of_ble_eq_true rfl) rfl ?_
    refine Cli.mono h (fun r1 m2 h => ?_)
    refine Tj.icmp_ge dX11_form_29 rfl rfl (fun c2 => ?_) (fun c2 => ?_)
    · have h := h.1 c2
      refine Tj.aload_n dX11_form_32 rfl rfl ?_
      refine Tj.getR (b := 133) dX11_form_33 fl_X11_68 sh_0 rfl rfl ?_
      refine Tj.iload_n dX11_form_36 rfl rfl ?_
      refine Tj.callVi (as := [_]) (rest := []) dX11_form_37 ln_X11_251 sh_133 (by decide) rfl rfl (Nat.le_of_ble_eq_true rfl) ⟨Nat.le_of_ble_eq_true rfl, Nat.le_of_ble_eq_true rfl⟩ (Nat.le_of_ble_eq_true rfl) rfl ?_
      refine Cli.mono h (fun r2 m3 h => ?_)
      refine Tj.goto dX11_form_40 rfl ?_
      exact Tj.iret dX11_form_44 rfl h
    · have h := h.2 c2
      refine Tj.iconst dX11_form_43 (by decide) rfl ?_
      exact Tj.iret dX11_form_44 rfl h

theorem wX11_same_0 {m : tM} {P : Option tV → tM → Prop}   (h : Clv mX4_take [rV 133, rV 6] m (fun m1 => (Cli mX4_timesWritten [rV 133] m1 (fun r1 m2 => (P (some (iV r1)) m2))))) : Tj mX11_same 0 [some (rV 0)] [] m P := by
  refine Tj.aload_n dX11_same_0 rfl rfl ?_
  refine Tj.getR (b := 133) dX11_same_1 fl_X11_68 sh_0 rfl rfl ?_
  refine Tj.aload_n dX11_same_4 rfl rfl ?_
  refine Tj.getR (b := 1) dX11_same_5 fl_X11_10 sh_0 rfl rfl ?_
  refine Tj.getR (b := 6) dX11_same_8 fl_X11_180 sh_1 rfl rfl ?_
  refine Tj.callVv (as := [_]) (rest := []) dX11_same_11 ln_X11_246 sh_133 (by decide) rfl rfl (Nat.le_of_ble_eq_true rfl) ⟨Nat.le_of_ble_eq_true rfl, Nat.le_of_ble_eq_true rfl⟩ (Nat.le_of_ble_eq_true rfl) rfl ?_
  refine Clv.mono h (fun m1 h => ?_)
  refine Tj.aload_n dX11_same_14 rfl rfl ?_
  refine Tj.getR (b := 133) dX11_same_15 fl_X11_68 sh_0 rfl rfl ?_
  refine Tj.callVi (as := []) (rest := []) dX11_same_18 ln_X11_254 sh_133 (by decide) rfl rfl (Nat.le_of_ble_eq_true rfl) ⟨Nat.le_of_ble_eq_true rfl, Nat.le_of_ble_eq_true rfl⟩ (Nat.le_of_ble_eq_true rfl) rfl ?_
  refine Cli.mono h (fun r1 m2 h => ?_)
  exact Tj.iret dX11_same_21 rfl h

theorem wX11_shelve_0 {m : tM} {P : Option tV → tM → Prop} {x1 : Int}  (h : Cli mX11_isWithin [iV x1, iV 6] m (fun r1 m1 => ((r1 = 0 → (P (some (iV (-3))) m1)) ∧ (¬ r1 = 0 → ((0 ≤ x1 ∧ x1 < 6) ∧ (∀ b1 : Nat, 84 + 1 + 4 * Int.toNat x1 = b1 → ((shp b1 = some (8, 0)) ∧ (Clv mX8_become [rV b1, rV 6] m1 (fun m2 => (Cli mX8_size [rV 6] m2 (fun r2 m3 => (P (some (iV r2)) m3)))))))))))) : Tj mX11_shelve 0 [some (rV 0), some (iV x1)] [] m P := by
  refine Tj.iload_n dX11_shelve_0 rfl rfl ?_
  refine Tj.bipush dX11_shelve_1 (by decide) (by decide +kernel) rfl ?_
  refine Tj.callSi (as := [_, _]) (rest := []) dX11_shelve_3 ln_X11_131 rfl rfl (Nat.le_of_ble_eq_true rfl) ⟨Nat.le_of_ble_eq_true rfl, Nat.le_of_ble_eq_true rfl⟩ (Nat.le_of_ble_eq_true rfl) rfl ?_
  refine Cli.mono h (fun r1 m1 h => ?_)
  refine Tj.if_ne dX11_shelve_6 rfl rfl (fun c1 => ?_) (fun c1 => ?_)
  · have h := h.1 c1
    refine Tj.bipush dX11_shelve_9 (by decide) (by decide +kernel) rfl ?_
    exact Tj.iret dX11_shelve_11 rfl h
  · have h := h.2 c1
    obtain ⟨⟨o1, o2⟩, h⟩ := h
    refine Tj.aload_n dX11_shelve_12 rfl rfl ?_
    refine Tj.getR (b := 84) dX11_shelve_13 fl_X11_25 sh_0 rfl rfl ?_
    refine Tj.iload_n dX11_shelve_16 rfl rfl ?_
    obtain ⟨b1, hb1⟩ : ∃ y : Nat, 84 + 1 + 4 * Int.toNat x1 = y := ⟨_, rfl⟩
    have h := h b1 hb1
    refine Tj.aald23 (b := b1) dX11_shelve_17 sh_84 o1 o2 hb1 rfl ?_
    obtain ⟨o3, h⟩ := h
    refine Tj.aload_n dX11_shelve_18 rfl rfl ?_
    refine Tj.getR (b := 1) dX11_shelve_19 fl_X11_10 sh_0 rfl rfl ?_
    refine Tj.getR (b := 6) dX11_shelve_22 fl_X11_180 sh_1 rfl rfl ?_
    refine Tj.callVv (as := [_]) (rest := []) dX11_shelve_25 ln_X11_216 o3 (by decide) rfl rfl (Nat.le_of_ble_eq_true rfl) ⟨Nat.le_of_ble_eq_true rfl, Nat.le_of_ble_eq_true rfl⟩ (Nat.le_of_ble_eq_true rfl) rfl ?_
    refine Clv.mono h (fun m2 h => ?_)
    refine Tj.aload_n dX11_shelve_28 rfl rfl ?_
    refine Tj.getR (b := 1) dX11_shelve_29 fl_X11_10 sh_0 rfl rfl ?_
    refine Tj.getR (b := 6) dX11_shelve_32 fl_X11_180 sh_1 rfl rfl ?_
    refine Tj.callVi (as := []) (rest := []) dX11_shelve_35 ln_X11_196 sh_6 (by decide) rfl rfl (Nat.le_of_ble_eq_true rfl) ⟨Nat.le_of_ble_eq_true rfl, Nat.le_of_ble_eq_true rfl⟩ (Nat.le_of_ble_eq_true rfl) rfl ?_
    refine Cli.mono h (fun r2 m3 h => ?_)
    exact Tj.iret dX11_shelve_38 rfl h

theorem wX11_alike_0 {m : tM} {P : Option tV → tM → Prop} {x1 : Int}  (h : Cli mX11_isWithin [iV x1, iV 6] m (fun r1 m1 => ((r1 = 0 → (P (some (iV (-3))) m1)) ∧ (¬ r1 = 0 → (Clv mX4_take [rV 133, rV 6] m1 (fun m2 => ((0 ≤ x1 ∧ x1 < 6) ∧ (∀ b1 : Nat, 84 + 1 + 4 * Int.toNat x1 = b1 → (Clv mX4_take [rV 137, rV b1] m2 (fun m3 => (Cli mX4_matches [rV 133, rV 137] m3 (fun r2 m4 => (∀ v1 : Int, v1 = (if r2 = 0 then 0 else 1) → (P (some (iV v1)) m4)))))))))))))) : Tj mX11_alike 0 [some (rV 0), some (iV x1)] [] m P := by
  refine Tj.iload_n dX11_alike_0 rfl rfl ?_
  refine Tj.bipush dX11_alike_1 (by decide) (by decide +kernel) rfl ?_
  refine Tj.callSi (as := [_, _]) (rest := []) dX11_alike_3 ln_X11_131 rfl rfl (Nat.le_of_ble_eq_true rfl) ⟨Nat.le_of_ble_eq_true rfl, Nat.le_of_ble_eq_true rfl⟩ (Nat.le_of_ble_eq_true rfl) rfl ?_
  refine Cli.mono h (fun r1 m1 h => ?_)
  refine Tj.if_ne dX11_alike_6 rfl rfl (fun c1 => ?_) (fun c1 => ?_)
  · have h := h.1 c1
    refine Tj.bipush dX11_alike_9 (by decide) (by decide +kernel) rfl ?_
    exact Tj.iret dX11_alike_11 rfl h
  · have h := h.2 c1
    refine Tj.aload_n dX11_alike_12 rfl rfl ?_
    refine Tj.getR (b := 133) dX11_alike_13 fl_X11_68 sh_0 rfl rfl ?_
    refine Tj.aload_n dX11_alike_16 rfl rfl ?_
    refine Tj.getR (b := 1) dX11_alike_17 fl_X11_10 sh_0 rfl rfl ?_
    refine Tj.getR (b := 6) dX11_alike_20 fl_X11_180 sh_1 rfl rfl ?_
    refine Tj.callVv (as := [_]) (rest := []) dX11_alike_23 ln_X11_246 sh_133 (by decide) rfl rfl (Nat.le_of_ble_eq_true rfl) ⟨Nat.le_of_ble_eq_true rfl, Nat.le_of_ble_eq_true rfl⟩ (Nat.le_of_ble_eq_true rfl) rfl ?_
    refine Clv.mono h (fun m2 h => ?_)
    obtain ⟨⟨o1, o2⟩, h⟩ := h
    refine Tj.aload_n dX11_alike_26 rfl rfl ?_
    refine Tj.getR (b := 137) dX11_alike_27 fl_X11_72 sh_0 rfl rfl ?_
    refine Tj.aload_n dX11_alike_30 rfl rfl ?_
    refine Tj.getR (b := 84) dX11_alike_31 fl_X11_25 sh_0 rfl rfl ?_
    refine Tj.iload_n dX11_alike_34 rfl rfl ?_
    obtain ⟨b1, hb1⟩ : ∃ y : Nat, 84 + 1 + 4 * Int.toNat x1 = y := ⟨_, rfl⟩
    have h := h b1 hb1
    refine Tj.aald23 (b := b1) dX11_alike_35 sh_84 o1 o2 hb1 rfl ?_
    refine Tj.callVv (as := [_]) (rest := []) dX11_alike_36 ln_X11_246 sh_137 (by decide) rfl rfl (Nat.le_of_ble_eq_true rfl) ⟨Nat.le_of_ble_eq_true rfl, Nat.le_of_ble_eq_true rfl⟩ (Nat.le_of_ble_eq_true rfl) rfl ?_
    refine Clv.mono h (fun m3 h => ?_)
    refine Tj.aload_n dX11_alike_39 rfl rfl ?_
    refine Tj.getR (b := 133) dX11_alike_40 fl_X11_68 sh_0 rfl rfl ?_
    refine Tj.aload_n dX11_alike_43 rfl rfl ?_
    refine Tj.getR (b := 137) dX11_alike_44 fl_X11_72 sh_0 rfl rfl ?_
    refine Tj.callVi (as := [_]) (rest := []) dX11_alike_47 ln_X11_257 sh_133 (by decide) rfl rfl (Nat.le_of_ble_eq_true rfl) ⟨Nat.le_of_ble_eq_true rfl, Nat.le_of_ble_eq_true rfl⟩ (Nat.le_of_ble_eq_true rfl) rfl ?_
    refine Cli.mono h (fun r2 m4 h => ?_)
    have hj : Tj mX11_alike 58 [] [iV (if r2 = 0 then 0 else 1)] m4 P := by
      generalize hv1 : (if r2 = 0 then 0 else 1) = v1
      have h := h v1 hv1.symm
      exact Tj.iret dX11_alike_58 rfl h
    refine Tj.if_eq dX11_alike_50 rfl rfl (fun c2 => ?_) (fun c2 => ?_)
    · refine Tj.iconst dX11_alike_57 (by decide) rfl ?_
      try simp only [if_pos c2] at hj ⊢
      exact Tj.cut hj trivial
    · refine Tj.iconst dX11_alike_53 (by decide) rfl ?_
      refine Tj.goto dX11_alike_54 rfl ?_
      try simp only [if_neg c2] at hj ⊢
      exact Tj.cut hj trivial

theorem wX11_wraps_0 {m : tM} {P : Option tV → tM → Prop}   (h : Cli mX9_fault [rV 109] m (fun r1 m1 => ((r1 = 0 → (Clv mX10_seek [rV 128, rV 6, rV 120, rV 109] m1 (fun m2 => (Cli mX10_ways [rV 128] m2 (fun r2 m3 => (P (some (iV r2)) m3)))))) ∧ (¬ r1 = 0 → (P (some (iV (-4))) m1))))) : Tj mX11_wraps 0 [some (rV 0)] [] m P := by
  refine Tj.aload_n dX11_wraps_0 rfl rfl ?_
  refine Tj.getR (b := 109) dX11_wraps_1 fl_X11_33 sh_0 rfl rfl ?_
  refine Tj.callVi (as := []) (rest := []) dX11_wraps_4 ln_X11_124 sh_109 (by decide) rfl rfl (Nat.le_of_ble_eq_true rfl) ⟨Nat.le_of_ble_eq_true rfl, Nat.le_of_ble_eq_true rfl⟩ (Nat.le_of_ble_eq_true rfl) rfl ?_
  refine Cli.mono h (fun r1 m1 h => ?_)
  refine Tj.if_eq dX11_wraps_7 rfl rfl (fun c1 => ?_) (fun c1 => ?_)
  · have h := h.1 c1
    refine Tj.aload_n dX11_wraps_13 rfl rfl ?_
    refine Tj.getR (b := 128) dX11_wraps_14 fl_X11_61 sh_0 rfl rfl ?_
    refine Tj.aload_n dX11_wraps_17 rfl rfl ?_
    refine Tj.getR (b := 1) dX11_wraps_18 fl_X11_10 sh_0 rfl rfl ?_
    refine Tj.getR (b := 6) dX11_wraps_21 fl_X11_180 sh_1 rfl rfl ?_
    refine Tj.aload_n dX11_wraps_24 rfl rfl ?_
    refine Tj.getR (b := 120) dX11_wraps_25 fl_X11_47 sh_0 rfl rfl ?_
    refine Tj.aload_n dX11_wraps_28 rfl rfl ?_
    refine Tj.getR (b := 109) dX11_wraps_29 fl_X11_33 sh_0 rfl rfl ?_
    refine Tj.callVv (as := [_, _, _]) (rest := []) dX11_wraps_32 ln_X11_261 sh_128 (by decide) rfl rfl (Nat.le_of_ble_eq_true rfl) ⟨Nat.le_of_ble_eq_true rfl, Nat.le_of_ble_eq_true rfl⟩ (Nat.le_of_ble_eq_true rfl) rfl ?_
    refine Clv.mono h (fun m2 h => ?_)
    refine Tj.aload_n dX11_wraps_35 rfl rfl ?_
    refine Tj.getR (b := 128) dX11_wraps_36 fl_X11_61 sh_0 rfl rfl ?_
    refine Tj.callVi (as := []) (rest := []) dX11_wraps_39 ln_X11_265 sh_128 (by decide) rfl rfl (Nat.le_of_ble_eq_true rfl) ⟨Nat.le_of_ble_eq_true rfl, Nat.le_of_ble_eq_true rfl⟩ (Nat.le_of_ble_eq_true rfl) rfl ?_
    refine Cli.mono h (fun r2 m3 h => ?_)
    exact Tj.iret dX11_wraps_42 rfl h
  · have h := h.2 c1
    refine Tj.bipush dX11_wraps_10 (by decide) (by decide +kernel) rfl ?_
    exact Tj.iret dX11_wraps_12 rfl h

theorem wX11_way_0 {m : tM} {P : Option tV → tM → Prop} {x1 : Int} {x2 : Int}  (h : (x1 < 0 → (P (some (iV (-3))) m)) ∧ (¬ x1 < 0 → (Cli mX11_isWithin [iV x2, iV 3] m (fun r1 m1 => ((r1 = 0 → (P (some (iV (-3))) m1)) ∧ (¬ r1 = 0 → (Cli mX9_fault [rV 109] m1 (fun r2 m2 => ((r2 = 0 → (Clv mX10_seek [rV 128, rV 6, rV 120, rV 109] m2 (fun m3 => (Cli mX10_ways [rV 128] m3 (fun r3 m4 => ((x1 < r3 → ((x2 = 0 → (Cli mX10_squareOf [rV 128, iV x1] m4 (fun r4 m5 => (P (some (iV r4)) m5)))) ∧ (x2 = 1 → (Cli mX10_turnOf [rV 128, iV x1] m4 (fun r5 m6 => (P (some (iV r5)) m6)))) ∧ (¬ x2 = 0 → ¬ x2 = 1 → (Cli mX10_isTurnedOver [rV 128, iV x1] m4 (fun r6 m7 => (∀ v1 : Int, v1 = (if r6 = 0 then 0 else 1) → (P (some (iV v1)) m7))))))) ∧ (¬ x1 < r3 → (P (some (iV (-1))) m4)))))))) ∧ (¬ r2 = 0 → (P (some (iV (-4))) m2))))))))))) : Tj mX11_way 0 [some (rV 0), some (iV x1), some (iV x2)] [] m P := by
  refine Tj.iload_n dX11_way_0 rfl rfl ?_
  refine Tj.if_lt dX11_way_1 rfl rfl (fun c1 => ?_) (fun c1 => ?_)
  · have h := h.1 c1
    refine Tj.bipush dX11_way_12 (by decide) (by decide +kernel) rfl ?_
    exact Tj.iret dX11_way_14 rfl h
  · have h := h.2 c1
    refine Tj.iload_n dX11_way_4 rfl rfl ?_
    refine Tj.iconst dX11_way_5 (by decide) rfl ?_
    refine Tj.callSi (as := [_, _]) (rest := []) dX11_way_6 ln_X11_131 rfl rfl (Nat.le_of_ble_eq_true rfl) ⟨Nat.le_of_ble_eq_true rfl, Nat.le_of_ble_eq_true rfl⟩ (Nat.le_of_ble_eq_true rfl) rfl ?_
    refine Cli.mono h (fun r1 m1 h => ?_)
    refine Tj.if_ne dX11_way_9 rfl rfl (fun c2 => ?_) (fun c2 => ?_)
    · have h := h.1 c2
      refine Tj.bipush dX11_way_12 (by decide) (by decide +kernel) rfl ?_
      exact Tj.iret dX11_way_14 rfl h
    · have h := h.2 c2
      refine Tj.aload_n dX11_way_15 rfl rfl ?_
      refine Tj.getR (b := 109) dX11_way_16 fl_X11_33 sh_0 rfl rfl ?_
      refine Tj.callVi (as := []) (rest := []) dX11_way_19 ln_X11_124 sh_109 (by decide) rfl rfl (Nat.le_of_ble_eq_true rfl) ⟨Nat.le_of_ble_eq_true rfl, Nat.le_of_ble_eq_true rfl⟩ (Nat.le_of_ble_eq_true rfl) rfl ?_
      refine Cli.mono h (fun r2 m2 h => ?_)
      refine Tj.if_eq dX11_way_22 rfl rfl (fun c3 => ?_) (fun c3 => ?_)
      · have h := h.1 c3
        refine Tj.aload_n dX11_way_28 rfl rfl ?_
        refine Tj.getR (b := 128) dX11_way_29 fl_X11_61 sh_0 rfl rfl ?_
        refine Tj.aload_n dX11_way_32 rfl rfl ?_
        refine Tj.getR (b := 1) dX11_way_33 fl_X11_10 sh_0 rfl rfl ?_
        refine Tj.getR (b := 6) dX11_way_36 fl_X11_180 sh_1 rfl rfl ?_
        refine Tj.aload_n dX11_way_39 rfl rfl ?_
        refine Tj.getR (b := 120) dX11_way_40 fl_X11_47 sh_0 rfl rfl ?_
        refine Tj.aload_n dX11_way_43 rfl rfl ?_
        refine Tj.getR (b := 109) dX11_way_44 fl_X11_33 sh_0 rfl rfl ?_
        refine Tj.callVv (as := [_, _, _]) (rest := []) dX11_way_47 ln_X11_261 sh_128 (by decide) rfl rfl (Nat.le_of_ble_eq_true rfl) ⟨Nat.le_of_ble_eq_true rfl, Nat.le_of_ble_eq_true rfl⟩ (Nat.le_of_ble_eq_true rfl) rfl ?_
        refine Clv.mono h (fun m3 h => ?_)
        refine Tj.iload_n dX11_way_50 rfl rfl ?_
        refine Tj.aload_n dX11_way_51 rfl rfl ?_
        refine Tj.getR (b := 128) dX11_way_52 fl_X11_61 sh_0 rfl rfl ?_
        refine Tj.callVi (as := []) (rest := [_]) dX11_way_55 ln_X11_265 sh_128 (by decide) rfl rfl (Nat.le_of_ble_eq_true rfl) ⟨Nat.le_of_ble_eq_true rfl, Nat.le_of_ble_eq_true rfl⟩ (Nat.le_of_ble_eq_true rfl) rfl ?_
        refine Cli.mono h (fun r3 m4 h => ?_)
        refine Tj.icmp_lt dX11_way_58 rfl rfl (fun c4 => ?_) (fun c4 => ?_)
        · have h := h.1 c4
          refine Tj.iload_n dX11_way_63 rfl rfl ?_
          show Tj mX11_way 64 [some (rV 0), some (iV x1), some (iV x2)] [iV x2] m4 P
          by_cases c5 : x2 = 0
          · have h := h.1 c5
            refine Tj.lsw dX11_way_64 (by decide) (by rw [c5]; rfl) rfl ?_
            refine Tj.aload_n dX11_way_92 rfl rfl ?_
            refine Tj.getR (b := 128) dX11_way_93 fl_X11_61 sh_0 rfl rfl ?_
            refine Tj.iload_n dX11_way_96 rfl rfl ?_
            refine Tj.callVi (as := [_]) (rest := []) dX11_way_97 ln_X11_268 sh_128 (by decide) rfl rfl (Nat.le_of_ble_eq_true rfl) ⟨Nat.le_of_ble_eq_true rfl, Nat.le_of_ble_eq_true rfl⟩ (Nat.le_of_ble_eq_true rfl) rfl ?_
            refine Cli.mono h (fun r4 m5 h => ?_)
            exact Tj.iret dX11_way_100 rfl h
          have h := h.2
          by_cases c6 : x2 = 1
          · have h := h.1 c6
            refine Tj.lsw dX11_way_64 (by decide) (by rw [c6]; rfl) rfl ?_
            refine Tj.aload_n dX11_way_101 rfl rfl ?_
            refine Tj.getR (b := 128) dX11_way_102 fl_X11_61 sh_0 rfl rfl ?_
            refine Tj.iload_n dX11_way_105 rfl rfl ?_
            refine Tj.callVi (as := [_]) (rest := []) dX11_way_106 ln_X11_271 sh_128 (by decide) rfl rfl (Nat.le_of_ble_eq_true rfl) ⟨Nat.le_of_ble_eq_true rfl, Nat.le_of_ble_eq_true rfl⟩ (Nat.le_of_ble_eq_true rfl) rfl ?_
            refine Cli.mono h (fun r5 m6 h => ?_)
            exact Tj.iret dX11_way_109 rfl h
          have h := h.2
          have h := h c5 c6
          refine Tj.lsw dX11_way_64 (by decide) (by simp [Op.lookupswitch.offset, c5, c6]; rfl) rfl ?_
          refine Tj.aload_n dX11_way_110 rfl rfl ?_
          refine Tj.getR (b := 128) dX11_way_111 fl_X11_61 sh_0 rfl rfl ?_
          refine Tj.iload_n dX11_way_114 rfl rfl ?_
          refine Tj.callVi (as := [_]) (rest := []) dX11_way_115 ln_X11_274 sh_128 (by decide) rfl rfl (Nat.le_of_ble_eq_true rfl) ⟨Nat.le_of_ble_eq_true rfl, Nat.le_of_ble_eq_true rfl⟩ (Nat.le_of_ble_eq_true rfl) rfl ?_
          refine Cli.mono h (fun r6 m7 h => ?_)
          have hj : Tj mX11_way 126 [] [iV (if r6 = 0 then 0 else 1)] m7 P := by
            generalize hv1 : (if r6 = 0 then 0 else 1) = v1
            have h := h v1 hv1.symm
            exact Tj.iret dX11_way_126 rfl h
          refine Tj.if_eq dX11_way_118 rfl rfl (fun c7 => ?_) (fun c7 => ?_)
          · refine Tj.iconst dX11_way_125 (by decide) rfl ?_
            try simp only [if_pos c7] at hj ⊢
            exact Tj.cut hj trivial
          · refine Tj.iconst dX11_way_121 (by decide) rfl ?_
            refine Tj.goto dX11_way_122 rfl ?_
            try simp only [if_neg c7] at hj ⊢
            exact Tj.cut hj trivial
        · have h := h.2 c4
          refine Tj.iconst dX11_way_61 (by decide) rfl ?_
          exact Tj.iret dX11_way_62 rfl h
      · have h := h.2 c3
        refine Tj.bipush dX11_way_25 (by decide) (by decide +kernel) rfl ?_
        exact Tj.iret dX11_way_27 rfl h

theorem wX11_undo_0 {m : tM} {P : Option tV → tM → Prop}   (h : Cli mX7_size [rV 10] m (fun r1 m1 => ((r1 = 0 → (P (some (iV (-4))) m1)) ∧ (¬ r1 = 0 → (Clv mX7_giveBack [rV 10, rV 1] m1 (fun m2 => (Clv mX9_take [rV 109, rV 2] m2 (fun m3 => (Cli mX7_size [rV 10] m3 (fun r2 m4 => (P (some (iV r2)) m4))))))))))) : Tj mX11_undo 0 [some (rV 0)] [] m P := by
  refine Tj.aload_n dX11_undo_0 rfl rfl ?_
  refine Tj.getR (b := 10) dX11_undo_1 fl_X11_19 sh_0 rfl rfl ?_
  refine Tj.callVi (as := []) (rest := []) dX11_undo_4 ln_X11_277 sh_10 (by decide) rfl rfl (Nat.le_of_ble_eq_true rfl) ⟨Nat.le_of_ble_eq_true rfl, Nat.le_of_ble_eq_true rfl⟩ (Nat.le_of_ble_eq_true rfl) rfl ?_
  refine Cli.mono h (fun r1 m1 h => ?_)
  refine Tj.if_ne dX11_undo_7 rfl rfl (fun c1 => ?_) (fun c1 => ?_)
  · have h := h.1 c1
    refine Tj.bipush dX11_undo_10 (by decide) (by decide +kernel) rfl ?_
    exact Tj.iret dX11_undo_12 rfl h
  · have h := h.2 c1
    refine Tj.aload_n dX11_undo_13 rfl rfl ?_
    refine Tj.getR (b := 10) dX11_undo_14 fl_X11_19 sh_0 rfl rfl ?_
    refine Tj.aload_n dX11_undo_17 rfl rfl ?_
    refine Tj.getR (b := 1) dX11_undo_18 fl_X11_10 sh_0 rfl rfl ?_
    refine Tj.callVv (as := [_]) (rest := []) dX11_undo_21 ln_X11_278 sh_10 (by decide) rfl rfl (Nat.le_of_ble_eq_true rfl) ⟨Nat.le_of_ble_eq_true rfl, Nat.le_of_ble_eq_true rfl⟩ (Nat.le_of_ble_eq_true rfl) rfl ?_
    refine Clv.mono h (fun m2 h => ?_)
    refine Tj.aload_n dX11_undo_24 rfl rfl ?_
    refine Tj.getR (b := 109) dX11_undo_25 fl_X11_33 sh_0 rfl rfl ?_
    refine Tj.aload_n dX11_undo_28 rfl rfl ?_
    refine Tj.getR (b := 1) dX11_undo_29 fl_X11_10 sh_0 rfl rfl ?_
    refine Tj.getR (b := 2) dX11_undo_32 fl_X11_87 sh_1 rfl rfl ?_
    refine Tj.callVv (as := [_]) (rest := []) dX11_undo_35 ln_X11_281 sh_109 (by decide) rfl rfl (Nat.le_of_ble_eq_true rfl) ⟨Nat.le_of_ble_eq_true rfl, Nat.le_of_ble_eq_true rfl⟩ (Nat.le_of_ble_eq_true rfl) rfl ?_
    refine Clv.mono h (fun m3 h => ?_)
    refine Tj.aload_n dX11_undo_38 rfl rfl ?_
    refine Tj.getR (b := 10) dX11_undo_39 fl_X11_19 sh_0 rfl rfl ?_
    refine Tj.callVi (as := []) (rest := []) dX11_undo_42 ln_X11_277 sh_10 (by decide) rfl rfl (Nat.le_of_ble_eq_true rfl) ⟨Nat.le_of_ble_eq_true rfl, Nat.le_of_ble_eq_true rfl⟩ (Nat.le_of_ble_eq_true rfl) rfl ?_
    refine Cli.mono h (fun r2 m4 h => ?_)
    exact Tj.iret dX11_undo_45 rfl h

theorem wX11_count_0 {m : tM} {P : Option tV → tM → Prop} {x1 : Int}  (h : (x1 = 0 → (Cli mX1_cubes [rV 2] m (fun r1 m1 => (P (some (iV r1)) m1)))) ∧ (x1 = 1 → (Cli mX1_layersThere [rV 2] m (fun r2 m2 => (P (some (iV r2)) m2)))) ∧ (x1 = 2 → (Cli mX8_size [rV 6] m (fun r3 m3 => (P (some (iV r3)) m3)))) ∧ (x1 = 3 → (Cli mX8_creaseCount [rV 6] m (fun r4 m4 => (P (some (iV r4)) m4)))) ∧ (x1 = 4 → (Cli mX7_size [rV 10] m (fun r5 m5 => (P (some (iV r5)) m5)))) ∧ (¬ x1 = 0 → ¬ x1 = 1 → ¬ x1 = 2 → ¬ x1 = 3 → ¬ x1 = 4 → (P (some (iV (-3))) m))) : Tj mX11_count 0 [some (rV 0), some (iV x1)] [] m P := by
  refine Tj.iload_n dX11_count_0 rfl rfl ?_
  show Tj mX11_count 1 [some (rV 0), some (iV x1)] [iV x1] m P
  by_cases c1 : x1 = 0
  · have h := h.1 c1
    refine Tj.tsI (v := 0) dX11_count_1 c1 (by decide) (by decide) rfl rfl ?_
    refine Tj.aload_n dX11_count_36 rfl rfl ?_
    refine Tj.getR (b := 1) dX11_count_37 fl_X11_10 sh_0 rfl rfl ?_
    refine Tj.getR (b := 2) dX11_count_40 fl_X11_87 sh_1 rfl rfl ?_
    refine Tj.callVi (as := []) (rest := []) dX11_count_43 ln_X11_284 sh_2 (by decide) rfl rfl (Nat.le_of_ble_eq_true rfl) ⟨Nat.le_of_ble_eq_true rfl, Nat.le_of_ble_eq_true rfl⟩ (Nat.le_of_ble_eq_true rfl) rfl ?_
    refine Cli.mono h (fun r1 m1 h => ?_)
    exact Tj.iret dX11_count_46 rfl h
  have h := h.2
  by_cases c2 : x1 = 1
  · have h := h.1 c2
    refine Tj.tsI (v := 1) dX11_count_1 c2 (by decide) (by decide) rfl rfl ?_
    refine Tj.aload_n dX11_count_47 rfl rfl ?_
    refine Tj.getR (b := 1) dX11_count_48 fl_X11_10 sh_0 rfl rfl ?_
    refine Tj.getR (b := 2) dX11_count_51 fl_X11_87 sh_1 rfl rfl ?_
    refine Tj.callVi (as := []) (rest := []) dX11_count_54 ln_X11_287 sh_2 (by decide) rfl rfl (Nat.le_of_ble_eq_true rfl) ⟨Nat.le_of_ble_eq_true rfl, Nat.le_of_ble_eq_true rfl⟩ (Nat.le_of_ble_eq_true rfl) rfl ?_
    refine Cli.mono h (fun r2 m2 h => ?_)
    exact Tj.iret dX11_count_57 rfl h
  have h := h.2
  by_cases c3 : x1 = 2
  · have h := h.1 c3
    refine Tj.tsI (v := 2) dX11_count_1 c3 (by decide) (by decide) rfl rfl ?_
    refine Tj.aload_n dX11_count_58 rfl rfl ?_
    refine Tj.getR (b := 1) dX11_count_59 fl_X11_10 sh_0 rfl rfl ?_
    refine Tj.getR (b := 6) dX11_count_62 fl_X11_180 sh_1 rfl rfl ?_
    refine Tj.callVi (as := []) (rest := []) dX11_count_65 ln_X11_196 sh_6 (by decide) rfl rfl (Nat.le_of_ble_eq_true rfl) ⟨Nat.le_of_ble_eq_true rfl, Nat.le_of_ble_eq_true rfl⟩ (Nat.le_of_ble_eq_true rfl) rfl ?_
    refine Cli.mono h (fun r3 m3 h => ?_)
    exact Tj.iret dX11_count_68 rfl h
  have h := h.2
  by_cases c4 : x1 = 3
  · have h := h.1 c4
    refine Tj.tsI (v := 3) dX11_count_1 c4 (by decide) (by decide) rfl rfl ?_
    refine Tj.aload_n dX11_count_69 rfl rfl ?_
    refine Tj.getR (b := 1) dX11_count_70 fl_X11_10 sh_0 rfl rfl ?_
    refine Tj.getR (b := 6) dX11_count_73 fl_X11_180 sh_1 rfl rfl ?_
    refine Tj.callVi (as := []) (rest := []) dX11_count_76 ln_X11_187 sh_6 (by decide) rfl rfl (Nat.le_of_ble_eq_true rfl) ⟨Nat.le_of_ble_eq_true rfl, Nat.le_of_ble_eq_true rfl⟩ (Nat.le_of_ble_eq_true rfl) rfl ?_
    refine Cli.mono h (fun r4 m4 h => ?_)
    exact Tj.iret dX11_count_79 rfl h
  have h := h.2
  by_cases c5 : x1 = 4
  · have h := h.1 c5
    refine Tj.tsI (v := 4) dX11_count_1 c5 (by decide) (by decide) rfl rfl ?_
    refine Tj.aload_n dX11_count_80 rfl rfl ?_
    refine Tj.getR (b := 10) dX11_count_81 fl_X11_19 sh_0 rfl rfl ?_
    refine Tj.callVi (as := []) (rest := []) dX11_count_84 ln_X11_277 sh_10 (by decide) rfl rfl (Nat.le_of_ble_eq_true rfl) ⟨Nat.le_of_ble_eq_true rfl, Nat.le_of_ble_eq_true rfl⟩ (Nat.le_of_ble_eq_true rfl) rfl ?_
    refine Cli.mono h (fun r5 m5 h => ?_)
    exact Tj.iret dX11_count_87 rfl h
  have h := h.2
  have h := h c1 c2 c3 c4 c5
  refine Tj.tsO dX11_count_1 (by omega) rfl ?_
  refine Tj.bipush dX11_count_88 (by decide) (by decide +kernel) rfl ?_
  exact Tj.iret dX11_count_90 rfl h

theorem wX11_bodyHasChanged_0 {m : tM} {P : Option tV → tM → Prop}   (h : Clv mX2_mend [rV 4] m (fun m1 => (Clv mX9_take [rV 109, rV 2] m1 (fun m2 => (P none m2))))) : Tj mX11_bodyHasChanged 0 [some (rV 0)] [] m P := by
  refine Tj.aload_n dX11_bodyHasChanged_0 rfl rfl ?_
  refine Tj.getR (b := 1) dX11_bodyHasChanged_1 fl_X11_10 sh_0 rfl rfl ?_
  refine Tj.getR (b := 4) dX11_bodyHasChanged_4 fl_X11_156 sh_1 rfl rfl ?_
  refine Tj.callVv (as := []) (rest := []) dX11_bodyHasChanged_7 ln_X11_290 sh_4 (by decide) rfl rfl (Nat.le_of_ble_eq_true rfl) ⟨Nat.le_of_ble_eq_true rfl, Nat.le_of_ble_eq_true rfl⟩ (Nat.le_of_ble_eq_true rfl) rfl ?_
  refine Clv.mono h (fun m1 h => ?_)
  refine Tj.aload_n dX11_bodyHasChanged_10 rfl rfl ?_
  refine Tj.getR (b := 109) dX11_bodyHasChanged_11 fl_X11_33 sh_0 rfl rfl ?_
  refine Tj.aload_n dX11_bodyHasChanged_14 rfl rfl ?_
  refine Tj.getR (b := 1) dX11_bodyHasChanged_15 fl_X11_10 sh_0 rfl rfl ?_
  refine Tj.getR (b := 2) dX11_bodyHasChanged_18 fl_X11_87 sh_1 rfl rfl ?_
  refine Tj.callVv (as := [_]) (rest := []) dX11_bodyHasChanged_21 ln_X11_281 sh_109 (by decide) rfl rfl (Nat.le_of_ble_eq_true rfl) ⟨Nat.le_of_ble_eq_true rfl, Nat.le_of_ble_eq_true rfl⟩ (Nat.le_of_ble_eq_true rfl) rfl ?_
  refine Clv.mono h (fun m2 h => ?_)
  exact Tj.vret dX11_bodyHasChanged_24 rfl h

theorem wX11_isWithin_0 {m : tM} {P : Option tV → tM → Prop} {x0 : Int} {x1 : Int}  (h : ∀ v1 : Int, v1 = (if x0 < 0 then 0 else (if x0 < x1 then 1 else 0)) → (P (some (iV v1)) m)) : Tj mX11_isWithin 0 [some (iV x0), some (iV x1)] [] m P := by
  refine Tj.iload_n dX11_isWithin_0 rfl rfl ?_
  have hj : Tj mX11_isWithin 14 [] [iV (if x0 < 0 then 0 else (if x0 < x1 then 1 else 0))] m P := by
    generalize hv1 : (if x0 < 0 then 0 else (if x0 < x1 then 1 else 0)) = v1
    have h := h v1 hv1.symm
    exact Tj.zret dX11_isWithin_14 rfl (by rw [← hv1]; (repeat' split) <;> simp) h
  refine Tj.if_lt dX11_isWithin_1 rfl rfl (fun c1 => ?_) (fun c1 => ?_)
  · refine Tj.iconst dX11_isWithin_13 (by decide) rfl ?_
    try simp only [if_pos c1] at hj ⊢
    exact Tj.cut hj trivial
  · refine Tj.iload_n dX11_isWithin_4 rfl rfl ?_
    refine Tj.iload_n dX11_isWithin_5 rfl rfl ?_
    refine Tj.icmp_ge dX11_isWithin_6 rfl rfl (fun c2 => ?_) (fun c2 => ?_)
    · refine Tj.iconst dX11_isWithin_9 (by decide) rfl ?_
      refine Tj.goto dX11_isWithin_10 rfl ?_
      try simp only [if_neg c1, if_pos c2] at hj ⊢
      exact Tj.cut hj trivial
    · refine Tj.iconst dX11_isWithin_13 (by decide) rfl ?_
      try simp only [if_neg c1, if_neg c2] at hj ⊢
      exact Tj.cut hj trivial

theorem wX11_isLayer_0 {m : tM} {P : Option tV → tM → Prop} {x0 : Int}  (h : Cli mX11_isWithin [iV x0, iV 4] m (fun r1 m1 => (((r1 = 0 ∨ r1 = 1)) ∧ (P (some (iV r1)) m1)))) : Tj mX11_isLayer 0 [some (iV x0)] [] m P := by
  refine Tj.iload_n dX11_isLayer_0 rfl rfl ?_
  refine Tj.iconst dX11_isLayer_1 (by decide) rfl ?_
  refine Tj.callSi (as := [_, _]) (rest := []) dX11_isLayer_2 ln_X11_131 rfl rfl (Nat.le_of_ble_eq_true rfl) ⟨Nat.le_of_ble_eq_true rfl, Nat.le_of_ble_eq_true rfl⟩ (Nat.le_of_ble_eq_true rfl) rfl ?_
  refine Cli.mono h (fun r1 m1 h => ?_)
  obtain ⟨o1, h⟩ := h
  exact Tj.zret dX11_isLayer_5 rfl o1 h

theorem wX11_isSwitch_0 {m : tM} {P : Option tV → tM → Prop} {x0 : Int}  (h : ∀ v1 : Int, v1 = (if x0 = 0 then 1 else (if x0 = 1 then 1 else 0)) → (P (some (iV v1)) m)) : Tj mX11_isSwitch 0 [some (iV x0)] [] m P := by
  refine Tj.iload_n dX11_isSwitch_0 rfl rfl ?_
  have hj : Tj mX11_isSwitch 14 [] [iV (if x0 = 0 then 1 else (if x0 = 1 then 1 else 0))] m P := by
    generalize hv1 : (if x0 = 0 then 1 else (if x0 = 1 then 1 else 0)) = v1
    have h := h v1 hv1.symm
    exact Tj.zret dX11_isSwitch_14 rfl (by rw [← hv1]; (repeat' split) <;> simp) h
  refine Tj.if_eq dX11_isSwitch_1 rfl rfl (fun c1 => ?_) (fun c1 => ?_)
  · refine Tj.iconst dX11_isSwitch_9 (by decide) rfl ?_
    refine Tj.goto dX11_isSwitch_10 rfl ?_
    try simp only [if_pos c1] at hj ⊢
    exact Tj.cut hj trivial
  · refine Tj.iload_n dX11_isSwitch_4 rfl rfl ?_
    refine Tj.iconst dX11_isSwitch_5 (by decide) rfl ?_
    refine Tj.icmp_ne dX11_isSwitch_6 rfl rfl (fun c2 => ?_) (fun c2 => ?_)
    · refine Tj.iconst dX11_isSwitch_9 (by decide) rfl ?_
      refine Tj.goto dX11_isSwitch_10 rfl ?_
      try simp only [if_neg c1, if_pos c2] at hj ⊢
      exact Tj.cut hj trivial
    · refine Tj.iconst dX11_isSwitch_13 (by decide) rfl ?_
      try simp only [if_neg c1, if_neg c2] at hj ⊢
      exact Tj.cut hj trivial

theorem wX11_isLength_0 {m : tM} {P : Option tV → tM → Prop} {x0 : Int}  (h : ∀ v1 : Int, v1 = (if x0 < 1 then 0 else (if 4 < x0 then 0 else 1)) → (P (some (iV v1)) m)) : Tj mX11_isLength 0 [some (iV x0)] [] m P := by
  refine Tj.iload_n dX11_isLength_0 rfl rfl ?_
  refine Tj.iconst dX11_isLength_1 (by decide) rfl ?_
  have hj : Tj mX11_isLength 15 [] [iV (if x0 < 1 then 0 else (if 4 < x0 then 0 else 1))] m P := by
    generalize hv1 : (if x0 < 1 then 0 else (if 4 < x0 then 0 else 1)) = v1
    have h := h v1 hv1.symm
    exact Tj.zret dX11_isLength_15 rfl (by rw [← hv1]; (repeat' split) <;> simp) h
  refine Tj.icmp_lt dX11_isLength_2 rfl rfl (fun c1 => ?_) (fun c1 => ?_)
  · refine Tj.iconst dX11_isLength_14 (by decide) rfl ?_
    try simp only [if_pos c1] at hj ⊢
    exact Tj.cut hj trivial
  · refine Tj.iload_n dX11_isLength_5 rfl rfl ?_
    refine Tj.iconst dX11_isLength_6 (by decide) rfl ?_
    refine Tj.icmp_gt dX11_isLength_7 rfl rfl (fun c2 => ?_) (fun c2 => ?_)
    · refine Tj.iconst dX11_isLength_14 (by decide) rfl ?_
      try simp only [if_neg c1, if_pos c2] at hj ⊢
      exact Tj.cut hj trivial
    · refine Tj.iconst dX11_isLength_10 (by decide) rfl ?_
      refine Tj.goto dX11_isLength_11 rfl ?_
      try simp only [if_neg c1, if_neg c2] at hj ⊢
      exact Tj.cut hj trivial

theorem wX11_isOnTable_0 {m : tM} {P : Option tV → tM → Prop} {x0 : Int}  (h : ∀ v1 : Int, v1 = (if x0 < (-30) then 0 else (if 30 < x0 then 0 else 1)) → (P (some (iV v1)) m)) : Tj mX11_isOnTable 0 [some (iV x0)] [] m P := by
  refine Tj.iload_n dX11_isOnTable_0 rfl rfl ?_
  refine Tj.bipush dX11_isOnTable_1 (by decide) (by decide +kernel) rfl ?_
  have hj : Tj mX11_isOnTable 17 [] [iV (if x0 < (-30) then 0 else (if 30 < x0 then 0 else 1))] m P := by
    generalize hv1 : (if x0 < (-30) then 0 else (if 30 < x0 then 0 else 1)) = v1
    have h := h v1 hv1.symm
    exact Tj.zret dX11_isOnTable_17 rfl (by rw [← hv1]; (repeat' split) <;> simp) h
  refine Tj.icmp_lt dX11_isOnTable_3 rfl rfl (fun c1 => ?_) (fun c1 => ?_)
  · refine Tj.iconst dX11_isOnTable_16 (by decide) rfl ?_
    try simp only [if_pos c1] at hj ⊢
    exact Tj.cut hj trivial
  · refine Tj.iload_n dX11_isOnTable_6 rfl rfl ?_
    refine Tj.bipush dX11_isOnTable_7 (by decide) (by decide +kernel) rfl ?_
    refine Tj.icmp_gt dX11_isOnTable_9 rfl rfl (fun c2 => ?_) (fun c2 => ?_)
    · refine Tj.iconst dX11_isOnTable_16 (by decide) rfl ?_
      try simp only [if_neg c1, if_pos c2] at hj ⊢
      exact Tj.cut hj trivial
    · refine Tj.iconst dX11_isOnTable_12 (by decide) rfl ?_
      refine Tj.goto dX11_isOnTable_13 rfl ?_
      try simp only [if_neg c1, if_neg c2] at hj ⊢
      exact Tj.cut hj trivial

theorem wX11_arePlaces_0 {m : tM} {P : Option tV → tM → Prop} {x0 : Int} {x1 : Int}  (h : (x1 < 0 → (P (some (iV 0)) m)) ∧ (¬ x1 < 0 → ((x0 < 0 → (P (some (iV 0)) m)) ∧ (¬ x0 < 0 → ((R32 (16 - x1)) ∧ (∀ v1 : Int, v1 = (if (16 - x1) < x0 then 0 else 1) → (P (some (iV v1)) m))))))) : Tj mX11_arePlaces 0 [some (iV x0), some (iV x1)] [] m P := by
  refine Tj.iload_n dX11_arePlaces_0 rfl rfl ?_
  refine Tj.if_lt dX11_arePlaces_1 rfl rfl (fun c1 => ?_) (fun c1 => ?_)
  · have h := h.1 c1
    refine Tj.iconst dX11_arePlaces_20 (by decide) rfl ?_
    exact Tj.zret dX11_arePlaces_21 rfl (by decide) h
  · have h := h.2 c1
    refine Tj.iload_n dX11_arePlaces_4 rfl rfl ?_
    refine Tj.if_lt dX11_arePlaces_5 rfl rfl (fun c2 => ?_) (fun c2 => ?_)
    · have h := h.1 c2
      refine Tj.iconst dX11_arePlaces_20 (by decide) rfl ?_
      exact Tj.zret dX11_arePlaces_21 rfl (by decide) h
    · have h := h.2 c2
      obtain ⟨o1, h⟩ := h
      refine Tj.iload_n dX11_arePlaces_8 rfl rfl ?_
      refine Tj.bipush dX11_arePlaces_9 (by decide) (by decide +kernel) rfl ?_
      refine Tj.iload_n dX11_arePlaces_11 rfl rfl ?_
      refine Tj.isub dX11_arePlaces_12 o1 rfl ?_
      have hj : Tj mX11_arePlaces 21 [] [iV (if (16 - x1) < x0 then 0 else 1)] m P := by
        generalize hv1 : (if (16 - x1) < x0 then 0 else 1) = v1
        have h := h v1 hv1.symm
        exact Tj.zret dX11_arePlaces_21 rfl (by rw [← hv1]; (repeat' split) <;> simp) h
      refine Tj.icmp_gt dX11_arePlaces_13 rfl rfl (fun c3 => ?_) (fun c3 => ?_)
      · refine Tj.iconst dX11_arePlaces_20 (by decide) rfl ?_
        try simp only [if_pos c3] at hj ⊢
        exact Tj.cut hj trivial
      · refine Tj.iconst dX11_arePlaces_16 (by decide) rfl ?_
        refine Tj.goto dX11_arePlaces_17 rfl ?_
        try simp only [if_neg c3] at hj ⊢
        exact Tj.cut hj trivial

theorem wX11_toldStep_0 {m : tM} {P : Option tV → tM → Prop} {x0 : Int}  (h : ∀ v1 : Int, v1 = (if x0 < 0 then 9 else x0) → (P (some (iV v1)) m)) : Tj mX11_toldStep 0 [some (iV x0)] [] m P := by
  refine Tj.iload_n dX11_toldStep_0 rfl rfl ?_
  have hj : Tj mX11_toldStep 10 [] [iV (if x0 < 0 then 9 else x0)] m P := by
    generalize hv1 : (if x0 < 0 then 9 else x0) = v1
    have h := h v1 hv1.symm
    exact Tj.iret dX11_toldStep_10 rfl h
  refine Tj.if_ge dX11_toldStep_1 rfl rfl (fun c1 => ?_) (fun c1 => ?_)
  · refine Tj.bipush dX11_toldStep_4 (by decide) (by decide +kernel) rfl ?_
    refine Tj.goto dX11_toldStep_6 rfl ?_
    try simp only [if_pos c1] at hj ⊢
    exact Tj.cut hj trivial
  · refine Tj.iload_n dX11_toldStep_9 rfl rfl ?_
    try simp only [if_neg c1] at hj ⊢
    exact Tj.cut hj trivial

theorem wX11_creaseMeant_0 {m : tM} {P : Option tV → tM → Prop} {x0 : Int}  (h : (x0 = 0 → (P (some (iV 2)) m)) ∧ (x0 = 1 → (P (some (iV 3)) m)) ∧ (x0 = 2 → (P (some (iV (-1))) m)) ∧ (x0 = 3 → (P (some (iV (-1))) m)) ∧ (x0 = 4 → (P (some (iV (-1))) m)) ∧ (x0 = 5 → (P (some (iV 0)) m)) ∧ (x0 = 6 → (P (some (iV (-1))) m)) ∧ (x0 = 7 → (P (some (iV (-1))) m)) ∧ (x0 = 8 → (P (some (iV (-1))) m)) ∧ (x0 = 9 → (P (some (iV 1)) m)) ∧ (¬ x0 = 0 → ¬ x0 = 1 → ¬ x0 = 2 → ¬ x0 = 3 → ¬ x0 = 4 → ¬ x0 = 5 → ¬ x0 = 6 → ¬ x0 = 7 → ¬ x0 = 8 → ¬ x0 = 9 → (P (some (iV (-1))) m))) : Tj mX11_creaseMeant 0 [some (iV x0)] [] m P := by
  refine Tj.iload_n dX11_creaseMeant_0 rfl rfl ?_
  show Tj mX11_creaseMeant 1 [some (iV x0)] [iV x0] m P
  by_cases c1 : x0 = 0
  · have h := h.1 c1
    refine Tj.tsI (v := 0) dX11_creaseMeant_1 c1 (by decide) (by decide) rfl rfl ?_
    refine Tj.iconst dX11_creaseMeant_60 (by decide) rfl ?_
    exact Tj.iret dX11_creaseMeant_61 rfl h
  have h := h.2
  by_cases c2 : x0 = 1
  · have h := h.1 c2
    refine Tj.tsI (v := 1) dX11_creaseMeant_1 c2 (by decide) (by decide) rfl rfl ?_
    refine Tj.iconst dX11_creaseMeant_62 (by decide) rfl ?_
    exact Tj.iret dX11_creaseMeant_63 rfl h
  have h := h.2
  by_cases c3 : x0 = 2
  · have h := h.1 c3
    refine Tj.tsI (v := 2) dX11_creaseMeant_1 c3 (by decide) (by decide) rfl rfl ?_
    refine Tj.iconst dX11_creaseMeant_64 (by decide) rfl ?_
    exact Tj.iret dX11_creaseMeant_65 rfl h
  have h := h.2
  by_cases c4 : x0 = 3
  · have h := h.1 c4
    refine Tj.tsI (v := 3) dX11_creaseMeant_1 c4 (by decide) (by decide) rfl rfl ?_
    refine Tj.iconst dX11_creaseMeant_64 (by decide) rfl ?_
    exact Tj.iret dX11_creaseMeant_65 rfl h
  have h := h.2
  by_cases c5 : x0 = 4
  · have h := h.1 c5
    refine Tj.tsI (v := 4) dX11_creaseMeant_1 c5 (by decide) (by decide) rfl rfl ?_
    refine Tj.iconst dX11_creaseMeant_64 (by decide) rfl ?_
    exact Tj.iret dX11_creaseMeant_65 rfl h
  have h := h.2
  by_cases c6 : x0 = 5
  · have h := h.1 c6
    refine Tj.tsI (v := 5) dX11_creaseMeant_1 c6 (by decide) (by decide) rfl rfl ?_
    refine Tj.iconst dX11_creaseMeant_56 (by decide) rfl ?_
    exact Tj.iret dX11_creaseMeant_57 rfl h
  have h := h.2
  by_cases c7 : x0 = 6
  · have h := h.1 c7
    refine Tj.tsI (v := 6) dX11_creaseMeant_1 c7 (by decide) (by decide) rfl rfl ?_
    refine Tj.iconst dX11_creaseMeant_64 (by decide) rfl ?_
    exact Tj.iret dX11_creaseMeant_65 rfl h
  have h := h.2
  by_cases c8 : x0 = 7
  · have h := h.1 c8
    refine Tj.tsI (v := 7) dX11_creaseMeant_1 c8 (by decide) (by decide) rfl rfl ?_
    refine Tj.iconst dX11_creaseMeant_64 (by decide) rfl ?_
    exact Tj.iret dX11_creaseMeant_65 rfl h
  have h := h.2
  by_cases c9 : x0 = 8
  · have h := h.1 c9
    refine Tj.tsI (v := 8) dX11_creaseMeant_1 c9 (by decide) (by decide) rfl rfl ?_
    refine Tj.iconst dX11_creaseMeant_64 (by decide) rfl ?_
    exact Tj.iret dX11_creaseMeant_65 rfl h
  have h := h.2
  by_cases c10 : x0 = 9
  · have h := h.1 c10
    refine Tj.tsI (v := 9) dX11_creaseMeant_1 c10 (by decide) (by decide) rfl rfl ?_
    refine Tj.iconst dX11_creaseMeant_58 (by decide) rfl ?_
    exact Tj.iret dX11_creaseMeant_59 rfl h
  have h := h.2
  have h := h c1 c2 c3 c4 c5 c6 c7 c8 c9 c10
  refine Tj.tsO dX11_creaseMeant_1 (by omega) rfl ?_
  refine Tj.iconst dX11_creaseMeant_64 (by decide) rfl ?_
  exact Tj.iret dX11_creaseMeant_65 rfl h
