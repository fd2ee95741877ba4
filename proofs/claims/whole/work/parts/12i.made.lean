/-! the class is made -/
def A1S : List spec := [] ++ benchS ++ memS
def A2S : List spec := A1S ++ ((23, 6), zr) :: rep sheetS 6
theorem shelf_loop {w0 pre : List cC} {b0 b1 : Nat} {P : Option tV → List cC → Prop} (kk : Cj mX11_init 144 13850 62 [some (rV w0.length), some (iV 6)] [] (w0 ++ .inl (11, [some (rV b0), some (rV b1), some (rV (w0.length + (1 + pre.length))), none, none, none, none, none, none, none, none]) :: (pre ++ .inr (.inr (3, 6, rgf (w0.length + 1 + pre.length + 1) sheetS.length 6)) :: genL (w0.length + 1 + pre.length + 1) (rep sheetS 6))) 108 7718 P) : Cj mX11_init 144 13850 37 [some (rV w0.length), some (iV 0)] [] (w0 ++ .inl (11, [some (rV b0), some (rV b1), some (rV (w0.length + (1 + pre.length))), none, none, none, none, none, none, none, none]) :: (pre ++ [.inr (.inr (3, 6, fun _ => none))])) 84 5534 P := by
  have key := up_nat (n := 6) (fun i => Cj mX11_init 144 13850 37 [some (rV w0.length), some (iV (i : Int))] [] (w0 ++ .inl (11, [some (rV b0), some (rV b1), some (rV (w0.length + (1 + pre.length))), none, none, none, none, none, none, none, none]) :: (pre ++ .inr (.inr (3, 6, rgf (w0.length + 1 + pre.length + 1) sheetS.length i)) :: genL (w0.length + 1 + pre.length + 1) (rep sheetS i))) (84 + 4 * i) (5534 + 364 * i) P) ?_ ?_ 6 0 rfl (by omega)
  · exact key
  · refine Cj.iload_n dX11_init_37 rfl rfl ?_
    refine Cj.bipush dX11_init_38 (by decide +kernel) rfl ?_
    refine Cj.icmp_ge dX11_init_40 (tgt := 62) rfl rfl (by decide) (by decide) (fun q => absurd q (by decide)) (fun _ => ?_)
    exact kk
  · intro i hi ih
    refine Cj.iload_n dX11_init_37 rfl rfl ?_
    refine Cj.bipush dX11_init_38 (by decide +kernel) rfl ?_
    refine Cj.icmp_ge dX11_init_40 (tgt := 62) rfl rfl (by constructor <;> omega) (by decide) (fun _ => ?_) (fun q => absurd q (by omega))
    refine Cj.aload_n dX11_init_43 rfl rfl ?_
    refine Cg.get dX11_init_44 fl_X11_25 rfl rfl ?_
    refine Cj.iload_n dX11_init_47 rfl rfl ?_
    refine Cs.turn (pre := pre) (S := sheetS) dX11_init_48 dX11_init_51 dX11_init_52 dX11_init_55 nw_X11_23 li_X11_29 con_X8 ⟨_, _, rfl⟩ (by omega) rfl (Or.inr ⟨rfl, rfl⟩) rfl hi (by omega) ⟨Nat.le_of_ble_eq_true rfl, Nat.le_of_ble_eq_true rfl⟩ (Nat.le_of_ble_eq_true rfl) (by omega) (by omega) ?_
    refine Cj.iinc dX11_init_56 rfl (Nat.le_of_ble_eq_true rfl) rfl rfl ?_
    refine Cj.goto dX11_init_59 (pc' := 37) rfl ?_
    rw [show 84 + 4 * i + 1 + 3 = 84 + 4 * (i + 1) by omega, show 5534 + 364 * i + 4 + 360 = 5534 + 364 * (i + 1) by omega]
    exact ih
theorem shelf_end (w0 : List cC) : (genL (w0.length + 1) A1S ++ .inr (.inr (3, 6, rgf (w0.length + 1 + (genL (w0.length + 1) A1S).length + 1) sheetS.length 6)) :: genL (w0.length + 1 + (genL (w0.length + 1) A1S).length + 1) (rep sheetS 6)) = genL (w0.length + 1) A2S := by
  unfold A2S
  rw [genL_app, genL_len]
  rfl

def cartonS : List spec := ((11, 0), zr) :: (A2S ++ skinS ++ layoutS ++ linksS ++ foldS ++ wrapS ++ formS ++ formS ++ sheetS)
theorem A2_len : A2S.length = 108 := rfl
theorem con_11a {w0 : List cC} {P : Option tV → List cC → Prop} (kk : Cj mX11_init 144 13850 62 [some (rV w0.length), some (iV 6)] [] (w0 ++ .inl (11, [some (rV (w0.length + 1)), some (rV (w0.length + 10)), some (rV (w0.length + 84)), none, none, none, none, none, none, none, none]) :: genL (w0.length + 1) A2S) 108 7718 P) : Cj mX11_init 144 13850 0 [some (rV w0.length)] [] (w0 ++ [bobj 11]) 0 0 P := by
  have e0 : w0 ++ [bobj 11] = w0 ++ .inl (11, [none, none, none, none, none, none, none, none, none, none, none]) :: genL (w0.length + 1) [] := rfl
  rw [e0]
  refine Cj.aload_n dX11_init_0 rfl rfl ?_
  refine Cj.obj dX11_init_1 oi_X11 oi_inst oi_code (by decide) rfl ?_
  refine Cj.aload_n dX11_init_4 rfl rfl ?_
  refine Cg.make dX11_init_5 dX11_init_8 dX11_init_9 nw_X11_7 li_X11_9 con_X0 (m := 1) rfl (Nat.le_of_ble_eq_true rfl) ⟨Nat.le_of_ble_eq_true rfl, Nat.le_of_ble_eq_true rfl⟩ (Nat.le_of_ble_eq_true rfl) (Nat.le_of_ble_eq_true rfl) (Nat.le_of_ble_eq_true rfl) rfl ?_
  refine Cg.putF dX11_init_12 ff_X11_10 rfl (Nat.le_of_ble_eq_true rfl) rfl ?_
  refine Cj.aload_n dX11_init_15 rfl rfl ?_
  refine Cg.make dX11_init_16 dX11_init_19 dX11_init_20 nw_X11_16 li_X11_18 con_X7 (m := 10) rfl (Nat.le_of_ble_eq_true rfl) ⟨Nat.le_of_ble_eq_true rfl, Nat.le_of_ble_eq_true rfl⟩ (Nat.le_of_ble_eq_true rfl) (Nat.le_of_ble_eq_true rfl) (Nat.le_of_ble_eq_true rfl) rfl ?_
  refine Cg.putF dX11_init_23 ff_X11_19 rfl (Nat.le_of_ble_eq_true rfl) rfl ?_
  show Cj mX11_init 144 13850 26 [some (rV w0.length)] [] (w0 ++ .inl (11, [some (rV (w0.length + 1)), some (rV (w0.length + 10)), none, none, none, none, none, none, none, none, none]) :: genL (w0.length + 1) A1S) 83 5528 P
  refine Cj.aload_n dX11_init_26 rfl rfl ?_
  refine Cj.bipush dX11_init_27 (by decide +kernel) rfl ?_
  refine Cj.newq (kq := 3) (N := 6) dX11_init_29 aq_X11_23 (Or.inr ⟨rfl, rfl⟩) (by omega) (Nat.le_of_ble_eq_true rfl) (Nat.le_of_ble_eq_true rfl) rfl ?_
  rw [ap1, ln1, Nat.add_assoc]
  refine Cg.putF dX11_init_32 ff_X11_25 rfl (Nat.le_of_ble_eq_true rfl) rfl ?_
  refine Cj.iconst dX11_init_35 rfl ?_
  refine Cj.istore_n dX11_init_36 (Nat.le_of_ble_eq_true rfl) rfl rfl ?_
  refine shelf_loop (pre := genL (w0.length + 1) A1S) ?_
  rw [shelf_end, genL_len]
  exact kk
set_option maxRecDepth 100000 in
set_option maxHeartbeats 8000000 in
theorem con_X11 : Con mX11_init 11 144 13850 cartonS := by
  intro w0
  refine con_11a ?_
  refine Cj.aload_n dX11_init_62 rfl rfl ?_
  refine Cg.make dX11_init_63 dX11_init_66 dX11_init_67 nw_X11_30 li_X11_32 con_X9 (m := 109) rfl (Nat.le_of_ble_eq_true rfl) ⟨Nat.le_of_ble_eq_true rfl, Nat.le_of_ble_eq_true rfl⟩ (Nat.le_of_ble_eq_true rfl) (Nat.le_of_ble_eq_true rfl) (Nat.le_of_ble_eq_true rfl) rfl ?_
  refine Cg.putF dX11_init_70 ff_X11_33 rfl (Nat.le_of_ble_eq_true rfl) rfl ?_
  show Cj mX11_init 144 13850 73 [some (rV w0.length), some (iV 6)] [] (w0 ++ .inl (11, [some (rV (w0.length + 1)), some (rV (w0.length + 10)), some (rV (w0.length + 84)), some (rV (w0.length + 109)), none, none, none, none, none, none, none]) :: genL (w0.length + 1) (A2S ++ skinS)) 114 10510 _
  refine Cj.aload_n dX11_init_73 rfl rfl ?_
  refine Cg.make dX11_init_74 dX11_init_77 dX11_init_78 nw_X11_37 li_X11_39 con_X5 (m := 115) rfl (Nat.le_of_ble_eq_true rfl) ⟨Nat.le_of_ble_eq_true rfl, Nat.le_of_ble_eq_true rfl⟩ (Nat.le_of_ble_eq_true rfl) (Nat.le_of_ble_eq_true rfl) (Nat.le_of_ble_eq_true rfl) rfl ?_
  refine Cg.putF dX11_init_81 ff_X11_40 rfl (Nat.le_of_ble_eq_true rfl) rfl ?_
  show Cj mX11_init 144 13850 84 [some (rV w0.length), some (iV 6)] [] (w0 ++ .inl (11, [some (rV (w0.length + 1)), some (rV (w0.length + 10)), some (rV (w0.length + 84)), some (rV (w0.length + 109)), some (rV (w0.length + 115)), none, none, none, none, none, none]) :: genL (w0.length + 1) (A2S ++ skinS ++ layoutS)) 119 10756 _
  refine Cj.aload_n dX11_init_84 rfl rfl ?_
  refine Cg.make dX11_init_85 dX11_init_88 dX11_init_89 nw_X11_44 li_X11_46 con_X6 (m := 120) rfl (Nat.le_of_ble_eq_true rfl) ⟨Nat.le_of_ble_eq_true rfl, Nat.le_of_ble_eq_true rfl⟩ (Nat.le_of_ble_eq_true rfl) (Nat.le_of_ble_eq_true rfl) (Nat.le_of_ble_eq_true rfl) rfl ?_
  refine Cg.putF dX11_init_92 ff_X11_47 rfl (Nat.le_of_ble_eq_true rfl) rfl ?_
  show Cj mX11_init 144 13850 95 [some (rV w0.length), some (iV 6)] [] (w0 ++ .inl (11, [some (rV (w0.length + 1)), some (rV (w0.length + 10)), some (rV (w0.length + 84)), some (rV (w0.length + 109)), some (rV (w0.length + 115)), some (rV (w0.length + 120)), none, none, none, none, none]) :: genL (w0.length + 1) (A2S ++ skinS ++ layoutS ++ linksS)) 123 11121 _
  refine Cj.aload_n dX11_init_95 rfl rfl ?_
  refine Cg.make dX11_init_96 dX11_init_99 dX11_init_100 nw_X11_51 li_X11_53 con_X3 (m := 124) rfl (Nat.le_of_ble_eq_true rfl) ⟨Nat.le_of_ble_eq_true rfl, Nat.le_of_ble_eq_true rfl⟩ (Nat.le_of_ble_eq_true rfl) (Nat.le_of_ble_eq_true rfl) (Nat.le_of_ble_eq_true rfl) rfl ?_
  refine Cg.putF dX11_init_103 ff_X11_54 rfl (Nat.le_of_ble_eq_true rfl) rfl ?_
  show Cj mX11_init 144 13850 106 [some (rV w0.length), some (iV 6)] [] (w0 ++ .inl (11, [some (rV (w0.length + 1)), some (rV (w0.length + 10)), some (rV (w0.length + 84)), some (rV (w0.length + 109)), some (rV (w0.length + 115)), some (rV (w0.length + 120)), some (rV (w0.length + 124)), none, none, none, none]) :: genL (w0.length + 1) (A2S ++ skinS ++ layoutS ++ linksS ++ foldS)) 127 11731 _
  refine Cj.aload_n dX11_init_106 rfl rfl ?_
  refine Cg.make dX11_init_107 dX11_init_110 dX11_init_111 nw_X11_58 li_X11_60 con_X10 (m := 128) rfl (Nat.le_of_ble_eq_true rfl) ⟨Nat.le_of_ble_eq_true rfl, Nat.le_of_ble_eq_true rfl⟩ (Nat.le_of_ble_eq_true rfl) (Nat.le_of_ble_eq_true rfl) (Nat.le_of_ble_eq_true rfl) rfl ?_
  refine Cg.putF dX11_init_114 ff_X11_61 rfl (Nat.le_of_ble_eq_true rfl) rfl ?_
  show Cj mX11_init 144 13850 117 [some (rV w0.length), some (iV 6)] [] (w0 ++ .inl (11, [some (rV (w0.length + 1)), some (rV (w0.length + 10)), some (rV (w0.length + 84)), some (rV (w0.length + 109)), some (rV (w0.length + 115)), some (rV (w0.length + 120)), some (rV (w0.length + 124)), some (rV (w0.length + 128)), none, none, none]) :: genL (w0.length + 1) (A2S ++ skinS ++ layoutS ++ linksS ++ foldS ++ wrapS)) 132 12396 _
  refine Cj.aload_n dX11_init_117 rfl rfl ?_
  refine Cg.make dX11_init_118 dX11_init_121 dX11_init_122 nw_X11_65 li_X11_67 con_X4 (m := 133) rfl (Nat.le_of_ble_eq_true rfl) ⟨Nat.le_of_ble_eq_true rfl, Nat.le_of_ble_eq_true rfl⟩ (Nat.le_of_ble_eq_true rfl) (Nat.le_of_ble_eq_true rfl) (Nat.le_of_ble_eq_true rfl) rfl ?_
  refine Cg.putF dX11_init_125 ff_X11_68 rfl (Nat.le_of_ble_eq_true rfl) rfl ?_
  show Cj mX11_init 144 13850 128 [some (rV w0.length), some (iV 6)] [] (w0 ++ .inl (11, [some (rV (w0.length + 1)), some (rV (w0.length + 10)), some (rV (w0.length + 84)), some (rV (w0.length + 109)), some (rV (w0.length + 115)), some (rV (w0.length + 120)), some (rV (w0.length + 124)), some (rV (w0.length + 128)), some (rV (w0.length + 133)), none, none]) :: genL (w0.length + 1) (A2S ++ skinS ++ layoutS ++ linksS ++ foldS ++ wrapS ++ formS)) 136 12941 _
  refine Cj.aload_n dX11_init_128 rfl rfl ?_
  refine Cg.make dX11_init_129 dX11_init_132 dX11_init_133 nw_X11_65 li_X11_67 con_X4 (m := 137) rfl (Nat.le_of_ble_eq_true rfl) ⟨Nat.le_of_ble_eq_true rfl, Nat.le_of_ble_eq_true rfl⟩ (Nat.le_of_ble_eq_true rfl) (Nat.le_of_ble_eq_true rfl) (Nat.le_of_ble_eq_true rfl) rfl ?_
  refine Cg.putF dX11_init_136 ff_X11_72 rfl (Nat.le_of_ble_eq_true rfl) rfl ?_
  show Cj mX11_init 144 13850 139 [some (rV w0.length), some (iV 6)] [] (w0 ++ .inl (11, [some (rV (w0.length + 1)), some (rV (w0.length + 10)), some (rV (w0.length + 84)), some (rV (w0.length + 109)), some (rV (w0.length + 115)), some (rV (w0.length + 120)), some (rV (w0.length + 124)), some (rV (w0.length + 128)), some (rV (w0.length + 133)), some (rV (w0.length + 137)), none]) :: genL (w0.length + 1) (A2S ++ skinS ++ layoutS ++ linksS ++ foldS ++ wrapS ++ formS ++ formS)) 140 13486 _
  refine Cj.aload_n dX11_init_139 rfl rfl ?_
  refine Cg.make dX11_init_140 dX11_init_143 dX11_init_144 nw_X11_23 li_X11_29 con_X8 (m := 141) rfl (Nat.le_of_ble_eq_true rfl) ⟨Nat.le_of_ble_eq_true rfl, Nat.le_of_ble_eq_true rfl⟩ (Nat.le_of_ble_eq_true rfl) (Nat.le_of_ble_eq_true rfl) (Nat.le_of_ble_eq_true rfl) rfl ?_
  refine Cg.putF dX11_init_147 ff_X11_75 rfl (Nat.le_of_ble_eq_true rfl) rfl ?_
  show Cj mX11_init 144 13850 150 [some (rV w0.length), some (iV 6)] [] (w0 ++ .inl (11, [some (rV (w0.length + 1)), some (rV (w0.length + 10)), some (rV (w0.length + 84)), some (rV (w0.length + 109)), some (rV (w0.length + 115)), some (rV (w0.length + 120)), some (rV (w0.length + 124)), some (rV (w0.length + 128)), some (rV (w0.length + 133)), some (rV (w0.length + 137)), some (rV (w0.length + 141))]) :: genL (w0.length + 1) (A2S ++ skinS ++ layoutS ++ linksS ++ foldS ++ wrapS ++ formS ++ formS ++ sheetS)) 144 13850 _
  exact Cj.vret dX11_init_150 rfl ⟨rfl, rfl⟩
