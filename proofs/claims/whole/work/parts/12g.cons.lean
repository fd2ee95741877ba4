/-! constructors: of a body, a skin, a bench, the memory -/
theorem set_id {α : Type} {l : List α} {a : Nat} {x : α} (h : l[a]? = some x) : l.set a x = l := by
  apply List.ext_getElem?
  intro i
  by_cases q : i = a
  · subst q
    rw [List.getElem?_set_self ((List.getElem?_eq_some_iff.mp h).1), h]
  · rw [List.getElem?_set_ne (Ne.symm q)]
theorem up_nat {n : Nat} (Q : Nat → Prop) (hn : Q n) (hs : ∀ i, i < n → Q (i + 1) → Q i) : ∀ u i : Nat, n - i = u → i ≤ n → Q i
  | 0, i, h, hi => by rw [show i = n by omega]; exact hn
  | u + 1, i, h, hi => hs i (by omega) (up_nat Q hn hs u (i + 1) (by omega) (by omega))
theorem c_fillJ {w : List cC} {a N : Nat} {g : Nat → Int} {x : Int} (hw : w[a]? = some (.inr (.inl (0, N, g)))) (hN : N ≤ 100000) : Cj mJ7_fill_53178 0 0 0 [some (rV a), some (iV x)] [] w 0 0 (fun r w' => r = none ∧ w' = w.set a (.inr (.inl (0, N, fun j => if j < N then x else g j)))) := by
  have hlt := (List.getElem?_eq_some_iff.mp hw).1
  refine Cj.iconst dJ7_fill_53178_0 rfl ?_
  refine Cj.istore_n dJ7_fill_53178_1 (Nat.le_of_ble_eq_true rfl) rfl rfl ?_
  refine Cj.aload_n dJ7_fill_53178_2 rfl rfl ?_
  refine Cj.alen dJ7_fill_53178_3 hw (by omega) rfl ?_
  refine Cj.istore_n dJ7_fill_53178_4 (Nat.le_of_ble_eq_true rfl) rfl rfl ?_
  have key := up_nat (n := N) (fun i => Cj mJ7_fill_53178 0 0 5 [some (rV a), some (iV x), some (iV (i : Int)), some (iV (N : Int))] [] (w.set a (.inr (.inl (0, N, fun j => if j < i then x else g j)))) 0 0 (fun r w' => r = none ∧ w' = w.set a (.inr (.inl (0, N, fun j => if j < N then x else g j))))) ?_ ?_ N 0 (by omega) (by omega)
  · have e : w.set a (.inr (.inl (0, N, fun j => if j < 0 then x else g j))) = w := by
      refine set_id ?_
      rw [hw]
      congr 4
    rw [e] at key
    exact key
  · refine Cj.iload_n dJ7_fill_53178_5 rfl rfl ?_
    refine Cj.iload_n dJ7_fill_53178_6 rfl rfl ?_
    refine Cj.icmp_ge dJ7_fill_53178_7 (tgt := 20) rfl rfl (by constructor <;> omega) (by constructor <;> omega) (fun q => by omega) (fun _ => ?_)
    exact Cj.vret dJ7_fill_53178_20 rfl ⟨rfl, rfl⟩
  · intro i hi ih
    refine Cj.iload_n dJ7_fill_53178_5 rfl rfl ?_
    refine Cj.iload_n dJ7_fill_53178_6 rfl rfl ?_
    refine Cj.icmp_ge dJ7_fill_53178_7 (tgt := 20) rfl rfl (by constructor <;> omega) (by constructor <;> omega) (fun _ => ?_) (fun q => by omega)
    refine Cj.aload_n dJ7_fill_53178_10 rfl rfl ?_
    refine Cj.iload_n dJ7_fill_53178_11 rfl rfl ?_
    refine Cj.iload_n dJ7_fill_53178_12 rfl rfl ?_
    refine Cj.iast dJ7_fill_53178_13 (List.getElem?_set_self hlt) (by omega) (by omega) (by constructor <;> omega) rfl ?_
    rw [List.set_set]
    refine Cj.iinc dJ7_fill_53178_14 rfl (Nat.le_of_ble_eq_true rfl) rfl rfl ?_
    refine Cj.goto dJ7_fill_53178_17 (pc' := 5) rfl ?_
    have e : (fun j : Nat => if j = (i : Int).toNat then x else if j < i then x else g j) = fun j => if j < i + 1 then x else g j := by
      funext j
      rw [Int.toNat_natCast]
      by_cases q : j = i
      · rw [if_pos q, if_pos (by omega)]
      · rw [if_neg q]
        by_cases q2 : j < i
        · rw [if_pos q2, if_pos (by omega)]
        · rw [if_neg q2, if_neg (by omega)]
    rw [e]
    exact ih
theorem c_faultJ {w : List cC} : Cj mX1_faultOf 0 0 0 [some (lV (Int64.ofInt 0)), none] [] w 0 0 (fun r w' => r = some (iV 1) ∧ w' = w) := by
  refine Cj.lload_n dX1_faultOf_0 rfl rfl ?_
  refine Cj.lconst (v := Int64.ofInt 0) dX1_faultOf_1 (by decide +kernel) rfl ?_
  refine Cj.lcmp dX1_faultOf_2 rfl ?_
  rw [show lcI (Int64.ofInt 0) (Int64.ofInt 0) = 0 by decide +kernel]
  refine Cj.if_ne0 dX1_faultOf_3 rfl (tgt := 8) rfl ?_
  refine Cj.iconst dX1_faultOf_6 rfl ?_
  exact Cj.iret dX1_faultOf_7 rfl ⟨rfl, rfl⟩
theorem con_X1 : Con mX1_init 1 1 4 bodyS := by
  intro w0
  have e0 : w0 ++ [bobj 1] = w0 ++ bobj 1 :: genL (w0.length + 1) [] := rfl
  rw [e0]
  refine Cj.aload_n dX1_init_0 rfl rfl ?_
  refine Cj.obj dX1_init_1 oi_X1 oi_inst oi_code (by decide) rfl ?_
  refine Cj.aload_n dX1_init_4 rfl rfl ?_
  refine Cj.iconst dX1_init_5 rfl ?_
  refine Cg.newi dX1_init_6 ac_int (m := 1) rfl (by decide) (Nat.le_of_ble_eq_true rfl) (Nat.le_of_ble_eq_true rfl) rfl ?_
  refine Cg.putF dX1_init_8 ff_X1_9 rfl (Nat.le_of_ble_eq_true rfl) rfl ?_
  refine Cj.aload_n dX1_init_11 rfl rfl ?_
  refine Cg.get dX1_init_12 fl_X1_9 rfl rfl ?_
  refine Cj.iconst dX1_init_15 rfl ?_
  refine Cj.callS (as := [rV (w0.length + 1), iV (-1)]) (rest := []) dX1_init_16 ln_X1_13 rfl rfl (Nat.le_of_ble_eq_true rfl) ⟨Nat.le_of_ble_eq_true rfl, Nat.le_of_ble_eq_true rfl⟩ (Nat.le_of_ble_eq_true rfl) (Nat.le_of_ble_eq_true rfl) (Nat.le_of_ble_eq_true rfl) rfl ?_
  refine Cj.mono (c_fillJ (a := w0.length + 1) (N := 4) (g := fun _ => 0) (x := -1) (gt1 w0 _ _ 0) (by omega)) (fun r w' ⟨e1, e2⟩ => ?_)
  subst e1
  subst e2
  rw [show w0.length + 1 = w0.length + (1 + 0) from rfl, st1]
  exact Cj.vret dX1_init_19 rfl ⟨rfl, rfl⟩
theorem con_X9 : Con mX9_init 9 5 2784 skinS := by
  intro w0
  have e0 : w0 ++ [bobj 9] = w0 ++ bobj 9 :: genL (w0.length + 1) [] := rfl
  rw [e0]
  refine Cj.aload_n dX9_init_0 rfl rfl ?_
  refine Cj.obj dX9_init_1 oi_X9 oi_inst oi_code (by decide) rfl ?_
  refine Cj.aload_n dX9_init_4 rfl rfl ?_
  refine Cj.sipush dX9_init_5 (by decide +kernel) rfl ?_
  refine Cg.newi dX9_init_8 ac_int (m := 1) rfl (by decide) (Nat.le_of_ble_eq_true rfl) (Nat.le_of_ble_eq_true rfl) rfl ?_
  refine Cg.putF dX9_init_10 ff_X9_9 rfl (Nat.le_of_ble_eq_true rfl) rfl ?_
  refine Cj.aload_n dX9_init_13 rfl rfl ?_
  refine Cj.sipush dX9_init_14 (by decide +kernel) rfl ?_
  refine Cg.newi dX9_init_17 ac_int (m := 2) rfl (by decide) (Nat.le_of_ble_eq_true rfl) (Nat.le_of_ble_eq_true rfl) rfl ?_
  refine Cg.putF dX9_init_19 ff_X9_13 rfl (Nat.le_of_ble_eq_true rfl) rfl ?_
  refine Cj.aload_n dX9_init_22 rfl rfl ?_
  refine Cj.sipush dX9_init_23 (by decide +kernel) rfl ?_
  refine Cg.newi dX9_init_26 ac_int (m := 3) rfl (by decide) (Nat.le_of_ble_eq_true rfl) (Nat.le_of_ble_eq_true rfl) rfl ?_
  refine Cg.putF dX9_init_28 ff_X9_18 rfl (Nat.le_of_ble_eq_true rfl) rfl ?_
  refine Cj.aload_n dX9_init_31 rfl rfl ?_
  refine Cj.sipush dX9_init_32 (by decide +kernel) rfl ?_
  refine Cg.newi dX9_init_35 ac_int (m := 4) rfl (by decide) (Nat.le_of_ble_eq_true rfl) (Nat.le_of_ble_eq_true rfl) rfl ?_
  refine Cg.putF dX9_init_37 ff_X9_21 rfl (Nat.le_of_ble_eq_true rfl) rfl ?_
  refine Cj.aload_n dX9_init_40 rfl rfl ?_
  refine Cj.sipush dX9_init_41 (by decide +kernel) rfl ?_
  refine Cg.newi dX9_init_44 ac_int (m := 5) rfl (by decide) (Nat.le_of_ble_eq_true rfl) (Nat.le_of_ble_eq_true rfl) rfl ?_
  refine Cg.putF dX9_init_46 ff_X9_24 rfl (Nat.le_of_ble_eq_true rfl) rfl ?_
  refine Cj.aload_n dX9_init_49 rfl rfl ?_
  refine Cj.lconst (v := Int64.ofInt 0) dX9_init_50 (by decide +kernel) rfl ?_
  refine Cg.putI dX9_init_51 fp_X9_27 (Or.inr ⟨rfl, _, rfl⟩) (Nat.le_of_ble_eq_true rfl) rfl ?_
  refine Cj.aload_n dX9_init_54 rfl rfl ?_
  refine Cj.iconst dX9_init_55 rfl ?_
  refine Cg.putI dX9_init_56 fp_X9_31 (Or.inl ⟨rfl, _, rfl⟩) (Nat.le_of_ble_eq_true rfl) rfl ?_
  refine Cj.aload_n dX9_init_59 rfl rfl ?_
  refine Cj.aload_n dX9_init_60 rfl rfl ?_
  refine Cg.get dX9_init_61 fl_X9_27 rfl rfl ?_
  refine Cj.callS (as := [lV (Int64.ofInt 0)]) (rest := [rV w0.length]) dX9_init_64 ln_X9_35 rfl rfl (Nat.le_of_ble_eq_true rfl) ⟨Nat.le_of_ble_eq_true rfl, Nat.le_of_ble_eq_true rfl⟩ (Nat.le_of_ble_eq_true rfl) (Nat.le_of_ble_eq_true rfl) (Nat.le_of_ble_eq_true rfl) rfl ?_
  refine Cj.mono c_faultJ (fun r w' ⟨e1, e2⟩ => ?_)
  subst e1
  subst e2
  refine Cg.putI dX9_init_67 fp_X9_39 (Or.inl ⟨rfl, _, rfl⟩) (Nat.le_of_ble_eq_true rfl) rfl ?_
  exact Cj.vret dX9_init_70 rfl ⟨rfl, rfl⟩
def benchS : List spec := ((0, 0), zr) :: ([] ++ bodyS ++ edgesS ++ sheetS)
theorem con_X0 : Con mX0_init 0 8 610 benchS := by
  intro w0
  have e0 : w0 ++ [bobj 0] = w0 ++ bobj 0 :: genL (w0.length + 1) [] := rfl
  rw [e0]
  refine Cj.aload_n dX0_init_0 rfl rfl ?_
  refine Cj.obj dX0_init_1 oi_X0 oi_inst oi_code (by decide) rfl ?_
  refine Cj.aload_n dX0_init_4 rfl rfl ?_
  refine Cg.make dX0_init_5 dX0_init_8 dX0_init_9 nw_X0_7 li_X0_9 con_X1 (m := 1) rfl (Nat.le_of_ble_eq_true rfl) ⟨Nat.le_of_ble_eq_true rfl, Nat.le_of_ble_eq_true rfl⟩ (Nat.le_of_ble_eq_true rfl) (Nat.le_of_ble_eq_true rfl) (Nat.le_of_ble_eq_true rfl) rfl ?_
  refine Cg.putF dX0_init_12 ff_X0_10 rfl (Nat.le_of_ble_eq_true rfl) rfl ?_
  refine Cj.aload_n dX0_init_15 rfl rfl ?_
  refine Cg.make dX0_init_16 dX0_init_19 dX0_init_20 nw_X0_16 li_X0_18 con_X2 (m := 3) rfl (Nat.le_of_ble_eq_true rfl) ⟨Nat.le_of_ble_eq_true rfl, Nat.le_of_ble_eq_true rfl⟩ (Nat.le_of_ble_eq_true rfl) (Nat.le_of_ble_eq_true rfl) (Nat.le_of_ble_eq_true rfl) rfl ?_
  refine Cg.putF dX0_init_23 ff_X0_19 rfl (Nat.le_of_ble_eq_true rfl) rfl ?_
  refine Cj.aload_n dX0_init_26 rfl rfl ?_
  refine Cg.make dX0_init_27 dX0_init_30 dX0_init_31 nw_X0_23 li_X0_25 con_X8 (m := 5) rfl (Nat.le_of_ble_eq_true rfl) ⟨Nat.le_of_ble_eq_true rfl, Nat.le_of_ble_eq_true rfl⟩ (Nat.le_of_ble_eq_true rfl) (Nat.le_of_ble_eq_true rfl) (Nat.le_of_ble_eq_true rfl) rfl ?_
  refine Cg.putF dX0_init_34 ff_X0_26 rfl (Nat.le_of_ble_eq_true rfl) rfl ?_
  exact Cj.vret dX0_init_37 rfl ⟨rfl, rfl⟩
