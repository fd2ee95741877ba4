/-! what is known at the law's entry (by program) -/
theorem ins_X0 : Cond.instantiable RX0 3 ∈ tg_tbl := mem_tg (List.mem_of_getElem? (i := 93) (by decide +kernel)) rfl
theorem ins_X1 : Cond.instantiable RX1 1 ∈ tg_tbl := mem_tg (List.mem_of_getElem? (i := 99) (by decide +kernel)) rfl
theorem ins_X2 : Cond.instantiable RX2 1 ∈ tg_tbl := mem_tg (List.mem_of_getElem? (i := 113) (by decide +kernel)) rfl
theorem ins_X3 : Cond.instantiable RX3 4 ∈ tg_tbl := mem_tg (List.mem_of_getElem? (i := 275) (by decide +kernel)) rfl
theorem ins_X4 : Cond.instantiable RX4 5 ∈ tg_tbl := mem_tg (List.mem_of_getElem? (i := 316) (by decide +kernel)) rfl
theorem ins_X5 : Cond.instantiable RX5 6 ∈ tg_tbl := mem_tg (List.mem_of_getElem? (i := 228) (by decide +kernel)) rfl
theorem ins_X6 : Cond.instantiable RX6 5 ∈ tg_tbl := mem_tg (List.mem_of_getElem? (i := 253) (by decide +kernel)) rfl
theorem ins_X7 : Cond.instantiable RX7 3 ∈ tg_tbl := mem_tg (List.mem_of_getElem? (i := 155) (by decide +kernel)) rfl
theorem ins_X8 : Cond.instantiable RX8 4 ∈ tg_tbl := mem_tg (List.mem_of_getElem? (i := 123) (by decide +kernel)) rfl
theorem ins_X9 : Cond.instantiable RX9 8 ∈ tg_tbl := mem_tg (List.mem_of_getElem? (i := 177) (by decide +kernel)) rfl
theorem ins_X10 : Cond.instantiable RX10 5 ∈ tg_tbl := mem_tg (List.mem_of_getElem? (i := 294) (by decide +kernel)) rfl
theorem ins_X11 : Cond.instantiable RX11 11 ∈ tg_tbl := mem_tg (List.mem_of_getElem? (i := 85) (by decide +kernel)) rfl
theorem ins_X12 : Cond.instantiable RX12 51 ∈ tg_tbl := mem_tg (List.mem_of_getElem? (i := 987) (by decide +kernel)) rfl
theorem ao_X0 : Cond.arrayOver (.object RX0) ∈ lw_tbl := List.mem_of_getElem? (i := 161) (by decide +kernel)
theorem ao_X8 : Cond.arrayOver (.object RX8) ∈ lw_tbl := List.mem_of_getElem? (i := 174) (by decide +kernel)
theorem tg_of {s : State} {args : Array Value} (h : ∀ w ∈ lw_tbl, w.before args s = true) : ∀ w ∈ tg_tbl, w.before args s = true := fun w hw => h w (List.mem_filter.mp hw).1
set_option maxRecDepth 100000 in
theorem st_1000 {s : State} {b : Nat} (ht : ∀ w ∈ lw_tbl, w.before #[Value.ref b] s = true) (hg : (Jvm.Cond.and given_1 narrow_1).before #[Value.ref b] s = true) : ∃ t : Nat, va_Z "CubeCarton$Body" "AROUND_CORNER" "[J" (.ref t) (fun q => s.heap.size ≤ q) s s.heap ∧ va_T .long t 7 (fun j => .long (stL (j : Int))) (fun q => s.heap.size ≤ q) s s.heap := by
  have hs := flat_of_before _ hg
  have hA : ∀ a : Nat, a < s.heap.size → ¬ (fun q => s.heap.size ≤ q) a := fun a h => by show ¬ s.heap.size ≤ a; omega
  have hel : ∀ j : Nat, j < 7 → (Term.elem (.static "CubeCarton$Body" "AROUND_CORNER" "[J") (.int (Int32.ofNat j))).eval #[Value.ref b] s none [] s = some ((fun j => .long (stL (j : Int))) j) := by
    intro j hj
    rcases (show j = 0 ∨ j = 1 ∨ j = 2 ∨ j = 3 ∨ j = 4 ∨ j = 5 ∨ j = 6 by omega) with rfl | rfl | rfl | rfl | rfl | rfl | rfl
    · show _ = some (Value.long (stL ((0 : Nat) : Int)))
      rw [show stL ((0 : Nat) : Int) = 3342387 by decide +kernel]; exact va_eqtl (hs (Cond.eq (.elem (.static "CubeCarton$Body" "AROUND_CORNER" "[J") (.int 0)) (.long 3342387)) (by decide +kernel))
    · show _ = some (Value.long (stL ((1 : Nat) : Int)))
      rw [show stL ((1 : Nat) : Int) = 1114129 by decide +kernel]; exact va_eqtl (hs (Cond.eq (.elem (.static "CubeCarton$Body" "AROUND_CORNER" "[J") (.int 1)) (.long 1114129)) (by decide +kernel))
    · show _ = some (Value.long (stL ((2 : Nat) : Int)))
      rw [show stL ((2 : Nat) : Int) = 2228258 by decide +kernel]; exact va_eqtl (hs (Cond.eq (.elem (.static "CubeCarton$Body" "AROUND_CORNER" "[J") (.int 2)) (.long 2228258)) (by decide +kernel))
    · show _ = some (Value.long (stL ((3 : Nat) : Int)))
      rw [show stL ((3 : Nat) : Int) = 196611 by decide +kernel]; exact va_eqtl (hs (Cond.eq (.elem (.static "CubeCarton$Body" "AROUND_CORNER" "[J") (.int 3)) (.long 196611)) (by decide +kernel))
    · show _ = some (Value.long (stL ((4 : Nat) : Int)))
      rw [show stL ((4 : Nat) : Int) = 3145776 by decide +kernel]; exact va_eqtl (hs (Cond.eq (.elem (.static "CubeCarton$Body" "AROUND_CORNER" "[J") (.int 4)) (.long 3145776)) (by decide +kernel))
    · show _ = some (Value.long (stL ((5 : Nat) : Int)))
      rw [show stL ((5 : Nat) : Int) = 51 by decide +kernel]; exact va_eqtl (hs (Cond.eq (.elem (.static "CubeCarton$Body" "AROUND_CORNER" "[J") (.int 5)) (.long 51)) (by decide +kernel))
    · show _ = some (Value.long (stL ((6 : Nat) : Int)))
      rw [show stL ((6 : Nat) : Int) = 3342336 by decide +kernel]; exact va_eqtl (hs (Cond.eq (.elem (.static "CubeCarton$Body" "AROUND_CORNER" "[J") (.int 6)) (.long 3342336)) (by decide +kernel))
  obtain ⟨t, h1, h2⟩ := va_Tof (tm := (.static "CubeCarton$Body" "AROUND_CORNER" "[J")) (ty := .long) (N := 7) (f := (fun j => .long (stL (j : Int)))) (A := fun q => s.heap.size ≤ q) (by decide) (hs (Cond.arrayOf (.static "CubeCarton$Body" "AROUND_CORNER" "[J") .long) (by decide +kernel)) (va_eqt (hs (Cond.eq (.length (.static "CubeCarton$Body" "AROUND_CORNER" "[J")) (.int 7)) (by decide +kernel))) hel hA
  exact ⟨t, va_Zof (ht _ (List.mem_of_getElem? (i := 199) (by decide +kernel))) (ht _ (List.mem_filter.mp (mem_tg (List.mem_of_getElem? (i := 68) (by decide +kernel)) rfl)).1) h1 hA, h2⟩
set_option maxRecDepth 100000 in
theorem st_1001 {s : State} {b : Nat} (ht : ∀ w ∈ lw_tbl, w.before #[Value.ref b] s = true) (hg : (Jvm.Cond.and given_1 narrow_1).before #[Value.ref b] s = true) : ∃ t : Nat, va_Z "CubeCarton$Skin" "LOOKS" "[I" (.ref t) (fun q => s.heap.size ≤ q) s s.heap ∧ va_T .int t 24 (fun j => .int (Int32.ofInt (stI 1001 (j : Int)))) (fun q => s.heap.size ≤ q) s s.heap := by
  have hs := flat_of_before _ hg
  have hA : ∀ a : Nat, a < s.heap.size → ¬ (fun q => s.heap.size ≤ q) a := fun a h => by show ¬ s.heap.size ≤ a; omega
  have hel : ∀ j : Nat, j < 24 → (Term.elem (.static "CubeCarton$Skin" "LOOKS" "[I") (.int (Int32.ofNat j))).eval #[Value.ref b] s none [] s = some ((fun j => .int (Int32.ofInt (stI 1001 (j : Int)))) j) := by
    intro j hj
    rcases (show j = 0 ∨ j = 1 ∨ j = 2 ∨ j = 3 ∨ j = 4 ∨ j = 5 ∨ j = 6 ∨ j = 7 ∨ j = 8 ∨ j = 9 ∨ j = 10 ∨ j = 11 ∨ j = 12 ∨ j = 13 ∨ j = 14 ∨ j = 15 ∨ j = 16 ∨ j = 17 ∨ j = 18 ∨ j = 19 ∨ j = 20 ∨ j = 21 ∨ j = 22 ∨ j = 23 by omega) with rfl | rfl | rfl | rfl | rfl | rfl | rfl | rfl | rfl | rfl | rfl | rfl | rfl | rfl | rfl | rfl | rfl | rfl | rfl | rfl | rfl | rfl | rfl | rfl
    · show _ = some (Value.int (Int32.ofInt (stI 1001 ((0 : Nat) : Int))))
      rw [show Int32.ofInt (stI 1001 ((0 : Nat) : Int)) = 2 by decide +kernel]; exact va_eqt (hs (Cond.eq (.elem (.static "CubeCarton$Skin" "LOOKS" "[I") (.int 0)) (.int 2)) (by decide +kernel))
    · show _ = some (Value.int (Int32.ofInt (stI 1001 ((1 : Nat) : Int))))
      rw [show Int32.ofInt (stI 1001 ((1 : Nat) : Int)) = 4 by decide +kernel]; exact va_eqt (hs (Cond.eq (.elem (.static "CubeCarton$Skin" "LOOKS" "[I") (.int 1)) (.int 4)) (by decide +kernel))
    · show _ = some (Value.int (Int32.ofInt (stI 1001 ((2 : Nat) : Int))))
      rw [show Int32.ofInt (stI 1001 ((2 : Nat) : Int)) = 3 by decide +kernel]; exact va_eqt (hs (Cond.eq (.elem (.static "CubeCarton$Skin" "LOOKS" "[I") (.int 2)) (.int 3)) (by decide +kernel))
    · show _ = some (Value.int (Int32.ofInt (stI 1001 ((3 : Nat) : Int))))
      rw [show Int32.ofInt (stI 1001 ((3 : Nat) : Int)) = 5 by decide +kernel]; exact va_eqt (hs (Cond.eq (.elem (.static "CubeCarton$Skin" "LOOKS" "[I") (.int 3)) (.int 5)) (by decide +kernel))
    · show _ = some (Value.int (Int32.ofInt (stI 1001 ((4 : Nat) : Int))))
      rw [show Int32.ofInt (stI 1001 ((4 : Nat) : Int)) = 2 by decide +kernel]; exact va_eqt (hs (Cond.eq (.elem (.static "CubeCarton$Skin" "LOOKS" "[I") (.int 4)) (.int 2)) (by decide +kernel))
    · show _ = some (Value.int (Int32.ofInt (stI 1001 ((5 : Nat) : Int))))
      rw [show Int32.ofInt (stI 1001 ((5 : Nat) : Int)) = 5 by decide +kernel]; exact va_eqt (hs (Cond.eq (.elem (.static "CubeCarton$Skin" "LOOKS" "[I") (.int 5)) (.int 5)) (by decide +kernel))
    · show _ = some (Value.int (Int32.ofInt (stI 1001 ((6 : Nat) : Int))))
      rw [show Int32.ofInt (stI 1001 ((6 : Nat) : Int)) = 3 by decide +kernel]; exact va_eqt (hs (Cond.eq (.elem (.static "CubeCarton$Skin" "LOOKS" "[I") (.int 6)) (.int 3)) (by decide +kernel))
    · show _ = some (Value.int (Int32.ofInt (stI 1001 ((7 : Nat) : Int))))
      rw [show Int32.ofInt (stI 1001 ((7 : Nat) : Int)) = 4 by decide +kernel]; exact va_eqt (hs (Cond.eq (.elem (.static "CubeCarton$Skin" "LOOKS" "[I") (.int 7)) (.int 4)) (by decide +kernel))
    · show _ = some (Value.int (Int32.ofInt (stI 1001 ((8 : Nat) : Int))))
      rw [show Int32.ofInt (stI 1001 ((8 : Nat) : Int)) = 4 by decide +kernel]; exact va_eqt (hs (Cond.eq (.elem (.static "CubeCarton$Skin" "LOOKS" "[I") (.int 8)) (.int 4)) (by decide +kernel))
    · show _ = some (Value.int (Int32.ofInt (stI 1001 ((9 : Nat) : Int))))
      rw [show Int32.ofInt (stI 1001 ((9 : Nat) : Int)) = 0 by decide +kernel]; exact va_eqt (hs (Cond.eq (.elem (.static "CubeCarton$Skin" "LOOKS" "[I") (.int 9)) (.int 0)) (by decide +kernel))
    · show _ = some (Value.int (Int32.ofInt (stI 1001 ((10 : Nat) : Int))))
      rw [show Int32.ofInt (stI 1001 ((10 : Nat) : Int)) = 5 by decide +kernel]; exact va_eqt (hs (Cond.eq (.elem (.static "CubeCarton$Skin" "LOOKS" "[I") (.int 10)) (.int 5)) (by decide +kernel))
    · show _ = some (Value.int (Int32.ofInt (stI 1001 ((11 : Nat) : Int))))
      rw [show Int32.ofInt (stI 1001 ((11 : Nat) : Int)) = 1 by decide +kernel]; exact va_eqt (hs (Cond.eq (.elem (.static "CubeCarton$Skin" "LOOKS" "[I") (.int 11)) (.int 1)) (by decide +kernel))
    · show _ = some (Value.int (Int32.ofInt (stI 1001 ((12 : Nat) : Int))))
      rw [show Int32.ofInt (stI 1001 ((12 : Nat) : Int)) = 4 by decide +kernel]; exact va_eqt (hs (Cond.eq (.elem (.static "CubeCarton$Skin" "LOOKS" "[I") (.int 12)) (.int 4)) (by decide +kernel))
    · show _ = some (Value.int (Int32.ofInt (stI 1001 ((13 : Nat) : Int))))
      rw [show Int32.ofInt (stI 1001 ((13 : Nat) : Int)) = 1 by decide +kernel]; exact va_eqt (hs (Cond.eq (.elem (.static "CubeCarton$Skin" "LOOKS" "[I") (.int 13)) (.int 1)) (by decide +kernel))
    · show _ = some (Value.int (Int32.ofInt (stI 1001 ((14 : Nat) : Int))))
      rw [show Int32.ofInt (stI 1001 ((14 : Nat) : Int)) = 5 by decide +kernel]; exact va_eqt (hs (Cond.eq (.elem (.static "CubeCarton$Skin" "LOOKS" "[I") (.int 14)) (.int 5)) (by decide +kernel))
    · show _ = some (Value.int (Int32.ofInt (stI 1001 ((15 : Nat) : Int))))
      rw [show Int32.ofInt (stI 1001 ((15 : Nat) : Int)) = 0 by decide +kernel]; exact va_eqt (hs (Cond.eq (.elem (.static "CubeCarton$Skin" "LOOKS" "[I") (.int 15)) (.int 0)) (by decide +kernel))
    · show _ = some (Value.int (Int32.ofInt (stI 1001 ((16 : Nat) : Int))))
      rw [show Int32.ofInt (stI 1001 ((16 : Nat) : Int)) = 0 by decide +kernel]; exact va_eqt (hs (Cond.eq (.elem (.static "CubeCarton$Skin" "LOOKS" "[I") (.int 16)) (.int 0)) (by decide +kernel))
    · show _ = some (Value.int (Int32.ofInt (stI 1001 ((17 : Nat) : Int))))
      rw [show Int32.ofInt (stI 1001 ((17 : Nat) : Int)) = 2 by decide +kernel]; exact va_eqt (hs (Cond.eq (.elem (.static "CubeCarton$Skin" "LOOKS" "[I") (.int 17)) (.int 2)) (by decide +kernel))
    · show _ = some (Value.int (Int32.ofInt (stI 1001 ((18 : Nat) : Int))))
      rw [show Int32.ofInt (stI 1001 ((18 : Nat) : Int)) = 1 by decide +kernel]; exact va_eqt (hs (Cond.eq (.elem (.static "CubeCarton$Skin" "LOOKS" "[I") (.int 18)) (.int 1)) (by decide +kernel))
    · show _ = some (Value.int (Int32.ofInt (stI 1001 ((19 : Nat) : Int))))
      rw [show Int32.ofInt (stI 1001 ((19 : Nat) : Int)) = 3 by decide +kernel]; exact va_eqt (hs (Cond.eq (.elem (.static "CubeCarton$Skin" "LOOKS" "[I") (.int 19)) (.int 3)) (by decide +kernel))
    · show _ = some (Value.int (Int32.ofInt (stI 1001 ((20 : Nat) : Int))))
      rw [show Int32.ofInt (stI 1001 ((20 : Nat) : Int)) = 0 by decide +kernel]; exact va_eqt (hs (Cond.eq (.elem (.static "CubeCarton$Skin" "LOOKS" "[I") (.int 20)) (.int 0)) (by decide +kernel))
    · show _ = some (Value.int (Int32.ofInt (stI 1001 ((21 : Nat) : Int))))
      rw [show Int32.ofInt (stI 1001 ((21 : Nat) : Int)) = 3 by decide +kernel]; exact va_eqt (hs (Cond.eq (.elem (.static "CubeCarton$Skin" "LOOKS" "[I") (.int 21)) (.int 3)) (by decide +kernel))
    · show _ = some (Value.int (Int32.ofInt (stI 1001 ((22 : Nat) : Int))))
      rw [show Int32.ofInt (stI 1001 ((22 : Nat) : Int)) = 1 by decide +kernel]; exact va_eqt (hs (Cond.eq (.elem (.static "CubeCarton$Skin" "LOOKS" "[I") (.int 22)) (.int 1)) (by decide +kernel))
    · show _ = some (Value.int (Int32.ofInt (stI 1001 ((23 : Nat) : Int))))
      rw [show Int32.ofInt (stI 1001 ((23 : Nat) : Int)) = 2 by decide +kernel]; exact va_eqt (hs (Cond.eq (.elem (.static "CubeCarton$Skin" "LOOKS" "[I") (.int 23)) (.int 2)) (by decide +kernel))
  obtain ⟨t, h1, h2⟩ := va_Tof (tm := (.static "CubeCarton$Skin" "LOOKS" "[I")) (ty := .int) (N := 24) (f := (fun j => .int (Int32.ofInt (stI 1001 (j : Int))))) (A := fun q => s.heap.size ≤ q) (by decide) (hs (Cond.arrayOf (.static "CubeCarton$Skin" "LOOKS" "[I") .int) (by decide +kernel)) (va_eqt (hs (Cond.eq (.length (.static "CubeCarton$Skin" "LOOKS" "[I")) (.int 24)) (by decide +kernel))) hel hA
  exact ⟨t, va_Zof (ht _ (List.mem_of_getElem? (i := 457) (by decide +kernel))) (ht _ (List.mem_filter.mp (mem_tg (List.mem_of_getElem? (i := 73) (by decide +kernel)) rfl)).1) h1 hA, h2⟩
set_option maxRecDepth 100000 in
theorem st_1002 {s : State} {b : Nat} (ht : ∀ w ∈ lw_tbl, w.before #[Value.ref b] s = true) (hg : (Jvm.Cond.and given_1 narrow_1).before #[Value.ref b] s = true) : ∃ t : Nat, va_Z "CubeCarton$Sheet" "STEP_X" "[I" (.ref t) (fun q => s.heap.size ≤ q) s s.heap ∧ va_T .int t 4 (fun j => .int (Int32.ofInt (stI 1002 (j : Int)))) (fun q => s.heap.size ≤ q) s s.heap := by
  have hs := flat_of_before _ hg
  have hA : ∀ a : Nat, a < s.heap.size → ¬ (fun q => s.heap.size ≤ q) a := fun a h => by show ¬ s.heap.size ≤ a; omega
  have hel : ∀ j : Nat, j < 4 → (Term.elem (.static "CubeCarton$Sheet" "STEP_X" "[I") (.int (Int32.ofNat j))).eval #[Value.ref b] s none [] s = some ((fun j => .int (Int32.ofInt (stI 1002 (j : Int)))) j) := by
    intro j hj
    rcases (show j = 0 ∨ j = 1 ∨ j = 2 ∨ j = 3 by omega) with rfl | rfl | rfl | rfl
    · show _ = some (Value.int (Int32.ofInt (stI 1002 ((0 : Nat) : Int))))
      rw [show Int32.ofInt (stI 1002 ((0 : Nat) : Int)) = 1 by decide +kernel]; exact va_eqt (hs (Cond.eq (.elem (.static "CubeCarton$Sheet" "STEP_X" "[I") (.int 0)) (.int 1)) (by decide +kernel))
    · show _ = some (Value.int (Int32.ofInt (stI 1002 ((1 : Nat) : Int))))
      rw [show Int32.ofInt (stI 1002 ((1 : Nat) : Int)) = 0 by decide +kernel]; exact va_eqt (hs (Cond.eq (.elem (.static "CubeCarton$Sheet" "STEP_X" "[I") (.int 1)) (.int 0)) (by decide +kernel))
    · show _ = some (Value.int (Int32.ofInt (stI 1002 ((2 : Nat) : Int))))
      rw [show Int32.ofInt (stI 1002 ((2 : Nat) : Int)) = (-1) by decide +kernel]; exact va_eqt (hs (Cond.eq (.elem (.static "CubeCarton$Sheet" "STEP_X" "[I") (.int 2)) (.int (-1))) (by decide +kernel))
    · show _ = some (Value.int (Int32.ofInt (stI 1002 ((3 : Nat) : Int))))
      rw [show Int32.ofInt (stI 1002 ((3 : Nat) : Int)) = 0 by decide +kernel]; exact va_eqt (hs (Cond.eq (.elem (.static "CubeCarton$Sheet" "STEP_X" "[I") (.int 3)) (.int 0)) (by decide +kernel))
  obtain ⟨t, h1, h2⟩ := va_Tof (tm := (.static "CubeCarton$Sheet" "STEP_X" "[I")) (ty := .int) (N := 4) (f := (fun j => .int (Int32.ofInt (stI 1002 (j : Int))))) (A := fun q => s.heap.size ≤ q) (by decide) (hs (Cond.arrayOf (.static "CubeCarton$Sheet" "STEP_X" "[I") .int) (by decide +kernel)) (va_eqt (hs (Cond.eq (.length (.static "CubeCarton$Sheet" "STEP_X" "[I")) (.int 4)) (by decide +kernel))) hel hA
  exact ⟨t, va_Zof (ht _ (List.mem_of_getElem? (i := 602) (by decide +kernel))) (ht _ (List.mem_filter.mp (mem_tg (List.mem_of_getElem? (i := 71) (by decide +kernel)) rfl)).1) h1 hA, h2⟩
set_option maxRecDepth 100000 in
theorem st_1003 {s : State} {b : Nat} (ht : ∀ w ∈ lw_tbl, w.before #[Value.ref b] s = true) (hg : (Jvm.Cond.and given_1 narrow_1).before #[Value.ref b] s = true) : ∃ t : Nat, va_Z "CubeCarton$Sheet" "STEP_Y" "[I" (.ref t) (fun q => s.heap.size ≤ q) s s.heap ∧ va_T .int t 4 (fun j => .int (Int32.ofInt (stI 1003 (j : Int)))) (fun q => s.heap.size ≤ q) s s.heap := by
  have hs := flat_of_before _ hg
  have hA : ∀ a : Nat, a < s.heap.size → ¬ (fun q => s.heap.size ≤ q) a := fun a h => by show ¬ s.heap.size ≤ a; omega
  have hel : ∀ j : Nat, j < 4 → (Term.elem (.static "CubeCarton$Sheet" "STEP_Y" "[I") (.int (Int32.ofNat j))).eval #[Value.ref b] s none [] s = some ((fun j => .int (Int32.ofInt (stI 1003 (j : Int)))) j) := by
    intro j hj
    rcases (show j = 0 ∨ j = 1 ∨ j = 2 ∨ j = 3 by omega) with rfl | rfl | rfl | rfl
    · show _ = some (Value.int (Int32.ofInt (stI 1003 ((0 : Nat) : Int))))
      rw [show Int32.ofInt (stI 1003 ((0 : Nat) : Int)) = 0 by decide +kernel]; exact va_eqt (hs (Cond.eq (.elem (.static "CubeCarton$Sheet" "STEP_Y" "[I") (.int 0)) (.int 0)) (by decide +kernel))
    · show _ = some (Value.int (Int32.ofInt (stI 1003 ((1 : Nat) : Int))))
      rw [show Int32.ofInt (stI 1003 ((1 : Nat) : Int)) = 1 by decide +kernel]; exact va_eqt (hs (Cond.eq (.elem (.static "CubeCarton$Sheet" "STEP_Y" "[I") (.int 1)) (.int 1)) (by decide +kernel))
    · show _ = some (Value.int (Int32.ofInt (stI 1003 ((2 : Nat) : Int))))
      rw [show Int32.ofInt (stI 1003 ((2 : Nat) : Int)) = 0 by decide +kernel]; exact va_eqt (hs (Cond.eq (.elem (.static "CubeCarton$Sheet" "STEP_Y" "[I") (.int 2)) (.int 0)) (by decide +kernel))
    · show _ = some (Value.int (Int32.ofInt (stI 1003 ((3 : Nat) : Int))))
      rw [show Int32.ofInt (stI 1003 ((3 : Nat) : Int)) = (-1) by decide +kernel]; exact va_eqt (hs (Cond.eq (.elem (.static "CubeCarton$Sheet" "STEP_Y" "[I") (.int 3)) (.int (-1))) (by decide +kernel))
  obtain ⟨t, h1, h2⟩ := va_Tof (tm := (.static "CubeCarton$Sheet" "STEP_Y" "[I")) (ty := .int) (N := 4) (f := (fun j => .int (Int32.ofInt (stI 1003 (j : Int))))) (A := fun q => s.heap.size ≤ q) (by decide) (hs (Cond.arrayOf (.static "CubeCarton$Sheet" "STEP_Y" "[I") .int) (by decide +kernel)) (va_eqt (hs (Cond.eq (.length (.static "CubeCarton$Sheet" "STEP_Y" "[I")) (.int 4)) (by decide +kernel))) hel hA
  exact ⟨t, va_Zof (ht _ (List.mem_of_getElem? (i := 607) (by decide +kernel))) (ht _ (List.mem_filter.mp (mem_tg (List.mem_of_getElem? (i := 71) (by decide +kernel)) rfl)).1) h1 hA, h2⟩
theorem kn_all {s : State} {args : Array Value} (h : ∀ w ∈ tg_tbl, w.before args s = true) : ∀ (k : Nat) (q : vw_C), vwCl[k]? = some q → ∃ (cC : ClassId) (iS : Nat → Nat), u_Kn s q.1 q.2.1 q.2.2 cC iS := by
  intro k q hq
  match k, hq with
  | 0, hq => cases hq; exact u_known h inX0 (h _ ins_X0)
  | 1, hq => cases hq; exact u_known h inX1 (h _ ins_X1)
  | 2, hq => cases hq; exact u_known h inX2 (h _ ins_X2)
  | 3, hq => cases hq; exact u_known h inX3 (h _ ins_X3)
  | 4, hq => cases hq; exact u_known h inX4 (h _ ins_X4)
  | 5, hq => cases hq; exact u_known h inX5 (h _ ins_X5)
  | 6, hq => cases hq; exact u_known h inX6 (h _ ins_X6)
  | 7, hq => cases hq; exact u_known h inX7 (h _ ins_X7)
  | 8, hq => cases hq; exact u_known h inX8 (h _ ins_X8)
  | 9, hq => cases hq; exact u_known h inX9 (h _ ins_X9)
  | 10, hq => cases hq; exact u_known h inX10 (h _ ins_X10)
  | 11, hq => cases hq; exact u_known h inX11 (h _ ins_X11)
  | 12, hq => cases hq; exact u_known h inX12 (h _ ins_X12)
  | k + 13, hq => simp [vwCl] at hq
theorem arr_i {s : State} {args : Array Value} {ty : FieldType} (h : (Cond.arrayClass ty).before args s = true) (hty : ty = .int ∨ ty = .boolean) : ∃ c : ClassId, ArrOfT s c ty ∧ va_RA s c ty := by
  obtain ⟨c, k, comp, h1, h2, h3⟩ := Cond.arrayClass_spec h
  refine ⟨c, fun n z => ⟨fun k h => (by cases h), k, h2, comp, h3⟩, ?_⟩
  rcases hty with rfl | rfl
  · exact h1
  · exact h1
theorem arr_o {s : State} {args : Array Value} {C : String} (h : (Cond.arrayOver (.object C)).before args s = true) : ∃ c : ClassId, ArrOfT s c (.object C) ∧ va_RA s c (.object C) := by
  obtain ⟨comp, c, k, h1, -, h2, h3, h4⟩ := Cond.arrayOver_spec h
  exact ⟨c, fun n z => ⟨fun k h => (by cases h), k, h2, comp, h3⟩, k, comp, h2, h3, h1, h4⟩
/-- the tables, as one -/
theorem tab_all {s : State} {args : Array Value} (ht : ∀ w ∈ lw_tbl, w.before args s = true) : ∃ (D : va_G) (cA : Nat → ClassId), va_K D vwCl (ttys cA) s ∧ va_AO RX0 s ∧ va_AO RX8 s := by
  have hg := tg_of ht
  have kn := kn_all hg
  have ch : ∀ k : Nat, ∃ x : ClassId × (Nat → Nat), ∀ q : vw_C, vwCl[k]? = some q → u_Kn s q.1 q.2.1 q.2.2 x.1 x.2 := fun k => by
    cases hq : vwCl[k]? with
    | none => exact ⟨(0, fun _ => 0), fun q h => by cases h⟩
    | some q =>
      obtain ⟨cC, iS, h⟩ := kn k q hq
      exact ⟨(cC, iS), fun q' h' => by cases h'; exact h⟩
  obtain ⟨c0, a0⟩ := arr_i (hg _ ac_int) (Or.inl rfl)
  obtain ⟨c1, a1⟩ := arr_i (hg _ ac_boo) (Or.inr rfl)
  obtain ⟨c2, a2⟩ := arr_o (ht _ ao_X0)
  obtain ⟨c3, a3⟩ := arr_o (ht _ ao_X8)
  refine ⟨(fun k => (Classical.choose (ch k)).1, fun k => (Classical.choose (ch k)).2), fun k => if k = 0 then c0 else if k = 1 then c1 else if k = 2 then c2 else c3, ⟨fun k q hq => Classical.choose_spec (ch k) q hq, fun k q hq => ?_⟩, va_AO.of (ht _ ao_X0), va_AO.of (ht _ ao_X8)⟩
  match k, hq with
  | 0, hq => cases hq; exact a0
  | 1, hq => cases hq; exact a1
  | 2, hq => cases hq; exact a2
  | 3, hq => cases hq; exact a3
  | k + 4, hq => simp at hq
/-! from the list of cells to the numbered world -/
def okR : Bool := (List.range 180).all (fun a => match SHL[a]? with
  | none => false
  | some sh => (if sh.1 = 22 then decide (a + 1 + 9 * sh.2 ≤ 180) else if sh.1 = 23 then decide (a + 1 + 4 * sh.2 ≤ 180) else if sh.1 = 20 ∨ sh.1 = 21 then true else (fkL.getD sh.1 []).all (fun k => decide (a + k < 182))))
set_option maxRecDepth 100000 in
theorem okR_ok : okR = true := by decide +kernel
theorem ffs_tfs {h0 a : Nat} {ρ : Nat → Nat} {r : Int → Int} : ∀ (ks : List Nat) (j : Nat), (∀ k ∈ ks, ∀ d, k = d + 2 → ρ (a + d) = h0 + (a + d)) → (ffs a ks j r).map (rvo h0) = tfs ρ a ks j r
  | [], j, _ => rfl
  | k :: ks, j, h => by
    rw [ffs, List.map_cons, tfs, ffs_tfs ks (j + 1) (fun k' hk' => h k' (List.mem_cons_of_mem _ hk'))]
    congr 1
    match k, h k List.mem_cons_self with
    | 0, _ => rfl
    | 1, _ => rfl
    | d + 2, hd =>
      show Value.ref (h0 + (a + d)) = .ref (ρ (a + d))
      rw [hd d rfl]
theorem arrV_congr (cI : ClassId) {N : Nat} {f g : Nat → Value} (h : ∀ j, j < N → f j = g j) : arrV cI N f = arrV cI N g := by
  unfold arrV
  congr 2
  funext j
  exact h j.val j.isLt
theorem fin_tel {D : va_G} {cA : Nat → ClassId} {h0 a : Nat} {ρ : Nat → Nat} {sh : Nat × Nat} {r : Int → Int} {H : Heap} (hr : ∀ b, b < 180 → ρ b = h0 + b) (ha : SHL[a]? = some sh) (h : va_at D vwCl (h0 + a, cel cA h0 (fin a sh r)) H) : va_at D vwCl (ρ a, tel cA ρ a sh r) H := by
  have hlt : a < 180 := by
    have := (List.getElem?_eq_some_iff.mp ha).1
    rw [SHL_len] at this
    exact this
  have ok := List.all_eq_true.mp okR_ok a (List.mem_range.mpr hlt)
  rw [ha] at ok
  rw [hr a hlt]
  obtain ⟨c, n⟩ := sh
  by_cases c20 : c = 20
  · subst c20
    exact h
  by_cases c21 : c = 21
  · subst c21
    exact h
  by_cases c22 : c = 22
  · subst c22
    have hb : a + 1 + 9 * n ≤ 180 := by simpa using ok
    have h' : H[h0 + a]? = some (arrV (cA 2) n (fun i => va_rf ((if i < n then some (a + 1 + 9 * i) else none).map (rho0 h0)))) := h
    show H[h0 + a]? = some (arrV (cA 2) n (fun i => va_rf (some (ρ (a + 1 + 9 * i)))))
    rw [h']
    congr 1
    refine arrV_congr _ (fun j hj => ?_)
    rw [if_pos hj, hr _ (by omega)]
    rfl
  by_cases c23 : c = 23
  · subst c23
    have hb : a + 1 + 4 * n ≤ 180 := by simpa using ok
    have h' : H[h0 + a]? = some (arrV (cA 3) n (fun i => va_rf ((if i < n then some (a + 1 + 4 * i) else none).map (rho0 h0)))) := h
    show H[h0 + a]? = some (arrV (cA 3) n (fun i => va_rf (some (ρ (a + 1 + 4 * i)))))
    rw [h']
    congr 1
    refine arrV_congr _ (fun j hj => ?_)
    rw [if_pos hj, hr _ (by omega)]
    rfl
  · have hb : ∀ k ∈ fkL.getD c [], a + k < 182 := by
      have := ok
      simp only [c20, c21, c22, c23, if_false, or_self] at this
      intro k hk
      exact of_decide_eq_true (List.all_eq_true.mp this k hk)
    have e1 : fin a (c, n) r = .inl (c, ffs a (fkL.getD c []) 0 r) := by
      unfold fin
      rw [if_neg (by exact c20), if_neg (by exact c21), if_neg (by exact c22), if_neg (by exact c23)]
    have e2 : tel cA ρ a (c, n) r = .inr (c, tfs ρ a (fkL.getD c []) 0 r) := by
      unfold tel
      rw [if_neg (by exact c20), if_neg (by exact c21), if_neg (by exact c22), if_neg (by exact c23)]
    rw [e1] at h
    rw [e2, ← ffs_tfs (h0 := h0) (fkL.getD c []) 0 (fun k hk d hd => hr _ (by have := hb k hk; omega))]
    exact h
theorem twd_inv {cA : Nat → ClassId} {ρ : Nat → Nat} {m : tM} {k : Nat} {q : Nat × va_E} (h : (twd cA ρ m)[k]? = some q) : k < SHL.length ∧ ∃ sh, SHL[k]? = some sh ∧ q = (ρ k, tel cA ρ k sh (m k)) := by
  have hk : k < SHL.length := by
    have := (List.getElem?_eq_some_iff.mp h).1
    unfold twd at this
    rw [List.length_map, List.length_range] at this
    exact this
  have e : shp k = some SHL[k] := List.getElem?_eq_getElem hk
  rw [twd_get e] at h
  exact ⟨hk, SHL[k], e, (Option.some.inj h).symm⟩
theorem cells_world {D : va_G} {cA : Nat → ClassId} {h0 : Nat} {ρ : Nat → Nat} {H : Heap} (hr : ∀ b, b < 180 → ρ b = h0 + b) (h : CP D cA h0 (genL 0 allS) H) : va_P D vwCl (twd cA ρ m0) H := by
  intro k q hq
  obtain ⟨hk, sh, hsh, rfl⟩ := twd_inv hq
  have e : (allS.map Prod.fst)[k]? = some sh := by rw [allS_sh]; exact hsh
  rw [List.getElem?_map] at e
  cases hp : allS[k]? with
  | none => rw [hp] at e; cases e
  | some p =>
    rw [hp] at e
    have e' : p.1 = sh := Option.some.inj e
    have em : m0 k = p.2 := by unfold m0; rw [List.getD_eq_getElem?_getD, hp]; rfl
    have g := h.2 k (fin k p.1 p.2) (by rw [genL_get, hp]; show some (fin (0 + k) p.1 p.2) = _; rw [Nat.zero_add])
    rw [e'] at g
    rw [em]
    exact fin_tel hr hsh g
theorem world_apart {cA : Nat → ClassId} {h0 : Nat} {ρ : Nat → Nat} (hr : ∀ b, b < 180 → ρ b = h0 + b) (m : tM) : va_D (tA ρ) (twd cA ρ m) := by
  refine ⟨fun i j p q hp hq e => ?_, fun k q hq => ?_⟩
  · obtain ⟨h1, s1, -, rfl⟩ := twd_inv hp
    obtain ⟨h2, s2, -, rfl⟩ := twd_inv hq
    rw [SHL_len] at h1 h2
    have e' : ρ i = ρ j := e
    rw [hr i h1, hr j h2] at e'
    omega
  · obtain ⟨h1, s1, -, rfl⟩ := twd_inv hq
    exact ⟨k, h1, rfl⟩
