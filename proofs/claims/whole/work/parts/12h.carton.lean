/-! constructors: of the memory, of the class -/
def rep (S : List spec) : Nat → List spec
  | 0 => []
  | i + 1 => rep S i ++ S
theorem rep_len (S : List spec) : ∀ i : Nat, (rep S i).length = S.length * i
  | 0 => rfl
  | i + 1 => by rw [rep, List.length_append, rep_len S i, Nat.mul_succ]
/-- a row of references that is being filled: those below i stand -/
def rgf (c st : Nat) (i : Nat) : Nat → Option Nat := fun j => if j < i then some (c + st * j) else none
theorem rgf_up (c st i b : Nat) (hb : b = c + st * i) : (fun j : Nat => if j = (i : Int).toNat then some b else rgf c st i j) = rgf c st (i + 1) := by
  funext j
  rw [Int.toNat_natCast]
  unfold rgf
  by_cases q : j = i
  · rw [if_pos q, if_pos (by omega), hb, q]
  · rw [if_neg q]
    by_cases q2 : j < i
    · rw [if_pos q2, if_pos (by omega)]
    · rw [if_neg q2, if_neg (by omega)]
theorem get_mid (pre gl g2 : List cC) (x : cC) (j : Nat) (hj : j = pre.length + 1 + gl.length) : (pre ++ x :: (gl ++ g2))[j]? = g2[0]? := by
  subst hj
  rw [List.getElem?_append_right (by omega), show pre.length + 1 + gl.length - pre.length = gl.length + 1 by omega, List.getElem?_cons_succ, List.getElem?_append_right (Nat.le_refl _), Nat.sub_self]
theorem get_pre (pre r : List cC) (x : cC) : (pre ++ x :: r)[pre.length]? = some x := gt0 pre r x
theorem set_pre (pre r : List cC) (x y : cC) : (pre ++ x :: r).set pre.length y = pre ++ y :: r := st0' pre r x y
section CMEM
variable {M : MI} {mc ms : Nat} {P : Option tV → List cC → Prop}
/-- one turn of such a loop: an object is made and put into the row -/
theorem Cs.turn {N : MI} {pc ix iy ci N' mc' ms' kq z : Nat} {S : List spec} {w0 pre : List cC} {X : cC} {i c : Nat} {lv : List (Option tV)} {C : String} {T : u_T} {n' : Nat} {k n : Nat} (d1 : decode M.2.1 pc = .ok (.new ix, 3)) (d2 : decode M.2.1 (pc + 3) = .ok (.dup, 1)) (d3 : decode M.2.1 (pc + 4) = .ok (.invokespecial iy, 3)) (d4 : decode M.2.1 (pc + 7) = .ok (.aastore, 1)) (f1 : NEWc M.1.cls ix ci N') (f2 : LNI M.1.cls iy N) (hc : Con N ci mc' ms' S) (hS : ∃ ri S', S = ((ci, 0), ri) :: S') (hci0 : ci < 20) (hci : vwCl[ci]? = some (C, T, n')) (hkq : (kq = 2 ∧ C = RX0) ∨ (kq = 3 ∧ C = RX8)) (hcc : c = w0.length + 1 + pre.length + 1) (hi : i < z) (hz : z ≤ 100)
    (hroom : N.2.2.2.2.1 + 1 ≤ M.2.2.2.2.1 ∧ 8 + (N.2.2.1 + 11) + N.2.2.2.2.2 ≤ M.2.2.2.2.2) (hlen : 1 ≤ N.2.2.1) (hk : k + 1 + mc' ≤ mc) (hn : n + N' + ms' ≤ ms)
    (kk : Cj M mc ms (pc + 8) lv [] (w0 ++ X :: (pre ++ .inr (.inr (kq, z, rgf c S.length (i + 1))) :: genL c (rep S (i + 1)))) (k + 1 + mc') (n + N' + ms') P) :
    Cj M mc ms pc lv [iV (i : Int), rV (w0.length + (1 + pre.length))] (w0 ++ X :: (pre ++ .inr (.inr (kq, z, rgf c S.length i)) :: genL c (rep S i))) k n P := by
  have hb : w0.length + 1 + (pre ++ .inr (.inr (kq, z, rgf c S.length i)) :: genL c (rep S i)).length = c + S.length * i := by
    rw [List.length_append, List.length_cons, genL_len, rep_len]; omega
  refine Cs.make d1 d2 d3 f1 f2 hc hb (Nat.le_of_ble_eq_true rfl) hroom hlen hk hn rfl ?_
  rw [List.append_assoc, List.cons_append]
  obtain ⟨ri, S', rfl⟩ := hS
  refine Cj.aast (fs := ffs (c + (((ci, 0), ri) :: S').length * i) (fkL.getD ci []) 0 ri) d4 (by rw [gt1]; exact get_pre _ _ _) ?_ hci hkq (by omega) (by omega) (by constructor <;> omega) rfl ?_
  · have e : c + (((ci, 0), ri) :: S').length * i = w0.length + (1 + (pre.length + 1 + (genL c (rep (((ci, 0), ri) :: S') i)).length)) := by rw [genL_len, rep_len]; omega
    have g := get_mid pre (genL c (rep (((ci, 0), ri) :: S') i)) (genL (c + (((ci, 0), ri) :: S').length * i) (((ci, 0), ri) :: S')) (.inr (.inr (kq, z, rgf c (((ci, 0), ri) :: S').length i))) _ rfl
    have h := gt1 w0 (pre ++ .inr (.inr (kq, z, rgf c (((ci, 0), ri) :: S').length i)) :: (genL c (rep (((ci, 0), ri) :: S') i) ++ genL (c + (((ci, 0), ri) :: S').length * i) (((ci, 0), ri) :: S'))) X (pre.length + 1 + (genL c (rep (((ci, 0), ri) :: S') i)).length)
    rw [← e] at h
    rw [h, g]
    show some (fin _ (ci, 0) ri) = _
    unfold fin
    rw [if_neg (by show ¬ ci = 20; omega), if_neg (by show ¬ ci = 21; omega), if_neg (by show ¬ ci = 22; omega), if_neg (by show ¬ ci = 23; omega)]
  · rw [st1, set_pre, rgf_up _ _ _ _ rfl]
    have e : genL c (rep (((ci, 0), ri) :: S') i) ++ genL (c + (((ci, 0), ri) :: S').length * i) (((ci, 0), ri) :: S') = genL c (rep (((ci, 0), ri) :: S') (i + 1)) := by
      rw [rep, genL_app, rep_len]
    rw [e]
    exact kk
end CMEM
def memS : List spec := ((7, 0), zr) :: ((22, 8), zr) :: rep benchS 8
theorem con_X7 : Con mX7_init 7 73 4912 memS := by
  intro w0
  refine Cj.aload_n dX7_init_0 rfl rfl ?_
  refine Cj.obj dX7_init_1 oi_X7 oi_inst oi_code (by decide) rfl ?_
  refine Cj.aload_n dX7_init_4 rfl rfl ?_
  refine Cj.bipush dX7_init_5 (by decide +kernel) rfl ?_
  refine Cj.newq (kq := 2) (N := 8) dX7_init_7 aq_X7_9 (Or.inl ⟨rfl, rfl⟩) (by omega) (Nat.le_of_ble_eq_true rfl) (Nat.le_of_ble_eq_true rfl) rfl ?_
  rw [ap1, show (w0 ++ [bobj 7]).length = w0.length + 1 by rw [List.length_append]; rfl]
  refine Cg.putF dX7_init_10 ff_X7_11 rfl (Nat.le_of_ble_eq_true rfl) rfl ?_
  refine Cj.iconst dX7_init_13 rfl ?_
  refine Cj.istore_n dX7_init_14 (Nat.le_of_ble_eq_true rfl) rfl rfl ?_
  have key := up_nat (n := 8) (fun i => Cj mX7_init 73 4912 15 [some (rV w0.length), some (iV (i : Int))] [] (w0 ++ .inl (7, [some (rV (w0.length + 1)), some (iV 0), some (iV 0)]) :: ([] ++ .inr (.inr (2, 8, rgf (w0.length + 2) benchS.length i)) :: genL (w0.length + 2) (rep benchS i))) (1 + 9 * i) (8 + 613 * i) (fun r w => r = none ∧ w = w0 ++ genL w0.length memS)) ?_ ?_ 8 0 rfl (by omega)
  · exact key
  · refine Cj.iload_n dX7_init_15 rfl rfl ?_
    refine Cj.bipush dX7_init_16 (by decide +kernel) rfl ?_
    refine Cj.icmp_ge dX7_init_18 (tgt := 40) rfl rfl (by decide) (by decide) (fun q => absurd q (by decide)) (fun _ => ?_)
    refine Cj.aload_n dX7_init_40 rfl rfl ?_
    refine Cj.iconst dX7_init_41 rfl ?_
    refine Cg.putI dX7_init_42 fp_X7_16 (Or.inl ⟨rfl, _, rfl⟩) (Nat.le_of_ble_eq_true rfl) rfl ?_
    refine Cj.aload_n dX7_init_45 rfl rfl ?_
    refine Cj.iconst dX7_init_46 rfl ?_
    refine Cg.putI dX7_init_47 fp_X7_20 (Or.inl ⟨rfl, _, rfl⟩) (Nat.le_of_ble_eq_true rfl) rfl ?_
    exact Cj.vret dX7_init_50 rfl ⟨rfl, rfl⟩
  · intro i hi ih
    refine Cj.iload_n dX7_init_15 rfl rfl ?_
    refine Cj.bipush dX7_init_16 (by decide +kernel) rfl ?_
    refine Cj.icmp_ge dX7_init_18 (tgt := 40) rfl rfl (by constructor <;> omega) (by decide) (fun _ => ?_) (fun q => absurd q (by omega))
    refine Cj.aload_n dX7_init_21 rfl rfl ?_
    refine Cg.get dX7_init_22 fl_X7_11 rfl rfl ?_
    refine Cj.iload_n dX7_init_25 rfl rfl ?_
    refine Cs.turn (pre := []) (S := benchS) dX7_init_26 dX7_init_29 dX7_init_30 dX7_init_33 nw_X7_9 li_X7_15 con_X0 ⟨_, _, rfl⟩ (by omega) rfl (Or.inl ⟨rfl, rfl⟩) rfl hi (by omega) ⟨Nat.le_of_ble_eq_true rfl, Nat.le_of_ble_eq_true rfl⟩ (Nat.le_of_ble_eq_true rfl) (by omega) (by omega) ?_
    refine Cj.iinc dX7_init_34 rfl (Nat.le_of_ble_eq_true rfl) rfl rfl ?_
    refine Cj.goto dX7_init_37 (pc' := 15) rfl ?_
    rw [show 1 + 9 * i + 1 + 8 = 1 + 9 * (i + 1) by omega, show 8 + 613 * i + 3 + 610 = 8 + 613 * (i + 1) by omega]
    exact ih
