/-! the memory behind the constructors, and what holds of it -/
def allS : List spec := cartonS ++ modelS
def m0 : tM := fun a => (allS.getD a ((0, 0), zr)).2
set_option maxRecDepth 100000 in
theorem allS_sh : allS.map Prod.fst = SHL := by decide +kernel
theorem allS_len : allS.length = 180 := by
  have := congrArg List.length allS_sh
  rw [List.length_map] at this
  rw [this]
  rfl
def okS (S : List spec) : Prop := ∀ p ∈ S, ∀ i, R32 (p.2 i)
theorem okS_app {A B : List spec} (h : okS A) (g : okS B) : okS (A ++ B) := fun p hp => by
  rcases List.mem_append.mp hp with q | q
  · exact h p q
  · exact g p q
theorem okS_nil : okS [] := fun p hp => by cases hp
theorem okS_cons {x : spec} {S : List spec} (h : ∀ i, R32 (x.2 i)) (g : okS S) : okS (x :: S) := fun p hp => by
  rcases List.mem_cons.mp hp with q | q
  · rw [q]; exact h
  · exact g p q
theorem r32_0 : R32 0 := by decide
theorem ok_zr : ∀ i, R32 (zr i) := fun _ => r32_0
theorem le00 : (0 : Int) ≤ 0 := by decide
theorem le03 : (0 : Int) ≤ 3 := by decide
theorem okS_rep {S : List spec} (h : okS S) : ∀ i : Nat, okS (rep S i)
  | 0 => okS_nil
  | i + 1 => okS_app (okS_rep h i) h
theorem ok_bodyR : ∀ i, R32 (bodyR i) := fun i => by unfold bodyR; split <;> decide
theorem ok_poseR : ∀ i, R32 (poseR i) := fun i => by unfold poseR; (repeat' split) <;> decide
theorem ok_skinR : ∀ i, R32 (skinR i) := fun i => by unfold skinR; split <;> decide
def zS (S : List spec) : Prop := ∀ p ∈ S, p.2 = zr
theorem okS_z : ∀ (S : List (Nat × Nat)), okS (S.map (fun sh => (sh, zr)))
  | [] => okS_nil
  | _ :: S => okS_cons ok_zr (okS_z S)
theorem ok_body : okS bodyS := okS_cons ok_zr (okS_cons ok_bodyR okS_nil)
theorem ok_edges : okS edgesS := okS_z [(2, 0), (20, 240)]
theorem ok_sheet : okS sheetS := okS_z [(8, 0), (20, 60), (20, 60), (20, 240)]
theorem ok_bench : okS benchS := okS_cons ok_zr (okS_app (okS_app (okS_app okS_nil ok_body) ok_edges) ok_sheet)
theorem ok_mem : okS memS := okS_cons ok_zr (okS_cons ok_zr (okS_rep ok_bench 8))
theorem ok_A2 : okS A2S := okS_app (okS_app (okS_app okS_nil ok_bench) ok_mem) (okS_cons ok_zr (okS_rep ok_sheet 6))
theorem ok_skin : okS skinS := okS_cons ok_skinR (okS_z [(20, 240), (20, 240), (20, 384), (20, 960), (20, 960)])
theorem ok_layout : okS layoutS := okS_z [(5, 0), (20, 60), (20, 60), (20, 60), (20, 60)]
theorem ok_links : okS linksS := okS_z [(6, 0), (20, 240), (20, 60), (20, 60)]
theorem ok_fold : okS foldS := okS_cons ok_zr (okS_cons ok_poseR (okS_z [(20, 6), (20, 240)]))
theorem ok_wrap : okS wrapS := okS_z [(10, 0), (20, 60), (20, 60), (20, 60), (20, 480)]
theorem ok_form : okS formS := okS_z [(4, 0), (20, 240), (20, 240), (20, 60)]
theorem ok_carton : okS cartonS := okS_cons ok_zr (okS_app (okS_app (okS_app (okS_app (okS_app (okS_app (okS_app (okS_app ok_A2 ok_skin) ok_layout) ok_links) ok_fold) ok_wrap) ok_form) ok_form) ok_sheet)
theorem ok_model : okS modelS := okS_z (modelS.map Prod.fst)
theorem m0_32 : M32 m0 := by
  intro a i _
  unfold m0
  rw [List.getD_eq_getElem?_getD]
  cases h : allS[a]? with
  | none => exact ok_zr i
  | some p => exact okS_app ok_carton ok_model p (List.mem_of_getElem? h) i
set_option maxRecDepth 100000 in
theorem m0_rows : m0 3 = bodyR ∧ m0 109 = skinR ∧ m0 125 = poseR := ⟨rfl, rfl, rfl⟩
/-- the other rows that matter are rows of zeros -/
def m0z (a : Nat) : Prop := m0 a = zr
set_option maxRecDepth 100000 in
theorem m0_z1 : m0 5 = zr ∧ m0 6 = zr ∧ m0 7 = zr ∧ m0 8 = zr ∧ m0 9 = zr ∧ m0 10 = zr ∧ m0 145 = zr ∧ m0 146 = zr ∧ m0 147 = zr ∧ m0 148 = zr ∧ m0 149 = zr ∧ m0 150 = zr ∧ m0 151 = zr ∧ m0 152 = zr ∧ m0 153 = zr ∧ m0 154 = zr := ⟨rfl, rfl, rfl, rfl, rfl, rfl, rfl, rfl, rfl, rfl, rfl, rfl, rfl, rfl, rfl, rfl⟩
set_option maxRecDepth 100000 in
theorem m0_z2 : ∀ i : Nat, i < 8 → m0 (12 + 9 * i + 5) = zr := by
  intro i hi
  rcases (show i = 0 ∨ i = 1 ∨ i = 2 ∨ i = 3 ∨ i = 4 ∨ i = 5 ∨ i = 6 ∨ i = 7 by omega) with rfl | rfl | rfl | rfl | rfl | rfl | rfl | rfl <;> rfl
set_option maxRecDepth 100000 in
theorem m0_z3 : ∀ k : Nat, k < 6 → m0 (85 + 4 * k) = zr ∧ m0 (85 + 4 * k + 1) = zr ∧ m0 (85 + 4 * k + 2) = zr ∧ m0 (85 + 4 * k + 3) = zr := by
  intro k hk
  rcases (show k = 0 ∨ k = 1 ∨ k = 2 ∨ k = 3 ∨ k = 4 ∨ k = 5 by omega) with rfl | rfl | rfl | rfl | rfl | rfl <;> exact ⟨rfl, rfl, rfl, rfl⟩
def s0S : SS := (fun _ _ => False, fun _ _ => 0, fun _ _ => 0)
theorem s0_wf : WF s0S := ⟨fun _ _ h => h.elim, fun _ _ => ⟨le00, le03⟩, fun _ _ => ⟨le00, le03⟩, fun _ _ h => absurd rfl h, fun _ _ h => absurd rfl h⟩
theorem rep0 (X Y : Int → Int) (S : Int → Int → Prop) (h : ∀ x y, ¬ S x y) : RepI 0 X Y S := ⟨by decide, by decide, fun i j i0 ij j1 => by omega, fun x y => ⟨fun q => absurd q (h x y), fun ⟨k, k0, k1, _⟩ => by omega⟩⟩
theorem stf0 : ∀ i : Nat, STF s0S 0 i zr (i : Int)
  | 0 => rfl
  | i + 1 => by
    refine ⟨zr, (i : Int), zr, stf0 i, ⟨zr, zr, 0, 0, rep0 _ _ _ (fun x y h => h), fun k k0 k1 => by omega, fun h => by omega, fun k k0 k1 => by omega⟩, ?_⟩
    by_cases q : i = 0
    · subst q
      exact Or.inl ⟨rfl, rfl, fun j j0 j1 => by omega⟩
    · refine Or.inr ⟨by omega, 0, Or.inl ⟨rfl, fun j j0 j1 => by omega⟩, Or.inr (Or.inl ⟨rfl, by omega, fun j j0 j1 => by omega⟩)⟩
theorem nz0 (p : Int) : nrm zr p = 0 := by unfold nrm zr; split <;> rfl
theorem no_cube {p : Int} : ¬ isC (nrm zr) p := fun h => by
  have := h.2
  rw [nz0] at this
  omega
theorem no_outr {p d : Int} : ¬ outr (nrm zr) p d := fun h => no_cube h.1
theorem rel_m0 : Rel m0 := by
  obtain ⟨z5, z6, z7, z8, z9, z10, z145, z146, z147, z148, z149, z150, z151, z152, z153, z154⟩ := m0_z1
  obtain ⟨r3, r109, r125⟩ := m0_rows
  refine ⟨?_, ?_, ?_, ?_, ?_⟩
  · show STR (m0 3) (m0 5) (m0 6 3) (m0 7) (m0 8) (m0 9) (m0 146) (m0 147) (m0 148) (m0 145 4) (m0 149) (m0 150) (m0 151) (m0 152)
    rw [z5, z6, z7, z8, z9, z145, z146, z147, z148, z149, z150, z151, z152, r3]
    refine ⟨fun z h0 h1 => Or.inl ⟨rfl, ?_, fun _ _ _ => rfl⟩, ⟨fun q q0 q1 => ⟨le00, (by decide : (0 : Int) < 16), fun s s0 s1 => ?_⟩, fun _ _ _ => rfl, fun _ _ _ _ _ _ _ _ _ _ => rfl⟩, s0S, s0_wf, ⟨rep0 _ _ _ (fun _ _ h => h), fun k d k0 k1 => ?_⟩, ⟨rep0 _ _ _ (fun _ _ h => h), fun k k0 k1 => ?_⟩⟩
    · unfold bodyR
      rw [if_pos (by omega)]
    · show (0 : Int) = 0 / 2 ^ s.toNat % 2
      rw [Int.zero_ediv]; rfl
    · have : k < 0 := k1
      omega
    · have : k < 0 := k1
      omega
  · unfold HisR
    refine ⟨?_, ?_, ?_, ?_, ?_, ?_⟩
    · rw [z10]; exact ⟨by decide, by decide⟩
    · rw [z10]; exact ⟨by decide, by decide⟩
    · rw [z10, z145]; rfl
    · rw [z145]; exact ⟨by decide, by decide⟩
    · intro i i0 i1
      rw [z10] at i1
      have : i < 0 := i1
      omega
    · intro i hi
      rw [m0_z2 i hi]
      exact ⟨by decide, by decide⟩
  · show HU m0 (nrm (m0 147))
    rw [z147]
    refine ⟨⟨fun p => Or.inl (nz0 p), fun p _ => nz0 p⟩, fun k hk => ?_, ?_, ⟨fun _ => ?_, fun h => ?_, fun h => ?_, fun h => ?_, fun h => ?_⟩, fun k hk h => absurd h no_outr, fun p d s _ _ _ _ _ _ h => absurd h no_outr⟩
    · rw [r109, nz0]
      show lb (Int64.ofInt 0) k = _
      rw [show Int64.ofInt 0 = 0 by decide +kernel, lb_0]
      rfl
    · rw [r109]
      show (0 : Int) = oN (nrm zr) 384
      have b := oN_bound (nrm zr) 384
      by_cases q : 0 < oN (nrm zr) 384
      · obtain ⟨k, -, h, -⟩ := oN_ex (nrm zr) 384 (q := 0) (by omega) q
        exact absurd h no_outr
      · omega
    · rw [r109]; rfl
    all_goals exact absurd (fun p hp => by have := hp.2.2; rw [nz0] at this; omega) h
  · intro k hk
    obtain ⟨a, b, c, d⟩ := m0_z3 k hk
    refine ⟨s0S, s0_wf, ?_, ?_, 8, ?_⟩
    · rw [a, b, c, d]
      refine ⟨rep0 _ _ _ (fun _ _ h => h), fun k d k0 k1 => ?_⟩
      have : k < 0 := k1
      omega
    · rw [a, z153]; rfl
    · rw [a, z154]
      exact stf0 8
  · rw [r125]
    rfl
