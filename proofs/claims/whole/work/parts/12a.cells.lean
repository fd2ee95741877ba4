/-! what the constructors make: a list of cells; a cell's number is its place, its address h0 + its place -/
abbrev cC : Type := (Nat × List (Option tV)) ⊕ (Nat × Nat × (Nat → Int)) ⊕ (Nat × Nat × (Nat → Option Nat))
abbrev rho0 (h0 : Nat) : Nat → Nat := fun a => h0 + a
def rvo (h0 : Nat) : Option tV → Value
  | none => .null
  | some v => rv (rho0 h0) v
def cel (cA : Nat → ClassId) (h0 : Nat) : cC → va_E
  | .inl (ci, fs) => .inr (ci, fs.map (rvo h0))
  | .inr (.inl (k, n, f)) => .inl (cA k, n, .inl (fun i => Int32.ofInt (f i)))
  | .inr (.inr (k, n, f)) => .inl (cA k, n, .inr (.inr (.inr (.inr (fun i => (f i).map (rho0 h0))))))
def bfs : List Nat → List (Option tV)
  | [] => []
  | 0 :: ks => some (iV 0) :: bfs ks
  | 1 :: ks => some (lV 0) :: bfs ks
  | (_ + 2) :: ks => none :: bfs ks
def dfl : List Nat → List Value
  | [] => []
  | 0 :: ks => .int 0 :: dfl ks
  | 1 :: ks => .long 0 :: dfl ks
  | (_ + 2) :: ks => .null :: dfl ks
theorem bfs_map (h0 : Nat) : ∀ ks : List Nat, (bfs ks).map (rvo h0) = dfl ks
  | [] => rfl
  | 0 :: ks => by
    show rvo h0 (some (iV 0)) :: (bfs ks).map (rvo h0) = .int 0 :: dfl ks
    rw [bfs_map h0 ks]
    show Value.int (Int32.ofInt 0) :: dfl ks = _
    rw [ti_0]
  | 1 :: ks => by
    show rvo h0 (some (lV 0)) :: (bfs ks).map (rvo h0) = .long 0 :: dfl ks
    rw [bfs_map h0 ks]
    rfl
  | (_ + 2) :: ks => by
    show rvo h0 none :: (bfs ks).map (rvo h0) = .null :: dfl ks
    rw [bfs_map h0 ks]
    rfl
def bobj (ci : Nat) : cC := .inl (ci, bfs (fkL.getD ci []))
def CP (D : va_G) (cA : Nat → ClassId) (h0 : Nat) (w : List cC) (H : Heap) : Prop := H.size = h0 + w.length ∧ ∀ (k : Nat) (x : cC), w[k]? = some x → va_at D vwCl (h0 + k, cel cA h0 x) H
theorem CP.push {D : va_G} {cA : Nat → ClassId} {h0 : Nat} {w : List cC} {H H1 : Heap} {x : cC} (h : CP D cA h0 w H) (z : H1.size = h0 + w.length + 1) (o : ∀ q, q < h0 + w.length → H1[q]? = H[q]?) (hx : va_at D vwCl (h0 + w.length, cel cA h0 x) H1) : CP D cA h0 (w ++ [x]) H1 := by
  refine ⟨by rw [z, List.length_append]; rfl, fun k y hk => ?_⟩
  by_cases q : k < w.length
  · rw [List.getElem?_append_left q] at hk
    exact (h.2 k y hk).kept (o (h0 + k) (by omega))
  · rw [List.getElem?_append_right (by omega)] at hk
    have hz : k - w.length < 1 := (List.getElem?_eq_some_iff.mp hk).1
    rw [show k - w.length = 0 by omega] at hk
    cases hk
    rw [show k = w.length by omega]
    exact hx
theorem CP.set {D : va_G} {cA : Nat → ClassId} {h0 : Nat} {w : List cC} {H H1 : Heap} {k : Nat} {x0 x : cC} (h : CP D cA h0 w H) (hk : w[k]? = some x0) (z : H1.size = H.size) (o : ∀ q, q ≠ h0 + k → H1[q]? = H[q]?) (hx : va_at D vwCl (h0 + k, cel cA h0 x) H1) : CP D cA h0 (w.set k x) H1 := by
  refine ⟨by rw [z, h.1, List.length_set], fun j y hj => ?_⟩
  by_cases q : j = k
  · subst q
    rw [List.getElem?_set_self ((List.getElem?_eq_some_iff.mp hk).1)] at hj
    cases hj
    exact hx
  · rw [List.getElem?_set_ne (Ne.symm q)] at hj
    exact (h.2 j y hj).kept (o (h0 + j) (by omega))
/-- what stays the same while a constructor runs -/
def CXI (M : MI) (p : Program) (s : State) (mid : MethodId) (args : Array Value) (meth : Method) (c : Code) (D : va_G) (cA : Nat → ClassId) : Prop :=
  p.tables.exec = Jvm.exec ∧ c.code = M.2.1 ∧ meth.sig.returnType = M.2.2.2.1 ∧ c.maxLocals = M.2.2.1 ∧ s.vm.findClass M.1.cls = some mid.cls ∧ (∀ w ∈ tg_tbl, w.before args s = true) ∧ meth.locks = false ∧ meth.name = M.1.name ∧ va_K D vwCl (ttys cA) s ∧ va_AO RX0 s ∧ va_AO RX8 s
abbrev crm (M : MI) (mc ms : Nat) : Room := { frames := M.2.2.2.2.1, cells := mc, slots := ms, locals := M.2.2.2.2.2 }
def cQ (D : va_G) (cA : Nat → ClassId) (h0 : Nat) (P : Option tV → List cC → Prop) : Array Value → State → Outcome → State → Prop := fun _ st oc t =>
  (∃ (r : Option tV) (w : List cC), oc = .returned (r.map (rv (rho0 h0))) ∧ P r w ∧ CP D cA h0 w t.heap) ∧ va_F (fun q => h0 ≤ q) st t
def Cj (M : MI) (mc ms pc : Nat) (lv : List (Option tV)) (st : List tV) (w : List cC) (k n : Nat) (P : Option tV → List cC → Prop) : Prop :=
  ∀ (p : Program) (l : Launch) (e : Env) (s : State) (mid : MethodId) (args : Array Value) (below : List Frame) (meth : Method) (c : Code) (H : Heap) (locs : List Loc) (D : va_G) (cA : Nat → ClassId) (h0 : Nat) (ls : Array Slot),
    CXI M p s mid args meth c D cA → CP D cA h0 w H → va_S (fun q => h0 ≤ q) s.heap H locs → tL (rho0 h0) ls M.2.2.1 lv →
    W p l e (crm M mc ms) s mid args below meth c H locs k n (MQ below (cQ D cA h0 P) args s mc ms (fun q => h0 ≤ q)) (F0 mid pc ls (st.map (rv (rho0 h0))))
theorem Cj.mono {M : MI} {mc ms pc : Nat} {lv : List (Option tV)} {st : List tV} {w : List cC} {k n : Nat} {P P' : Option tV → List cC → Prop} (h : Cj M mc ms pc lv st w k n P) (hp : ∀ r w, P r w → P' r w) : Cj M mc ms pc lv st w k n P' := by
  intro p l e s mid args below meth c H locs D cA h0 ls X hC hS hl T hT hX
  obtain ⟨t, a, o, b1, b2, ⟨⟨r, m', e1, e2, e3⟩, e4⟩, b4⟩ := h p l e s mid args below meth c H locs D cA h0 ls X hC hS hl T hT hX
  exact ⟨t, a, o, b1, b2, ⟨⟨r, m', e1, hp r m' e2, e3⟩, e4⟩, b4⟩
section CJ
variable {M : MI} {mc ms pc pc' : Nat} {lv : List (Option tV)} {st : List tV} {w : List cC} {k n : Nat} {P : Option tV → List cC → Prop}
theorem Cj.op {st' : List tV} (kk : Cj M mc ms pc' lv st' w k n P)
    (h : ∀ (p : Program) (l : Launch) (e : Env) (R : Room) (s : State) (mid : MethodId) (args : Array Value) (below : List Frame) (meth : Method) (c : Code) (H : Heap) (locs : List Loc) (Q : State → Prop) (ls : Array Slot) (ρ : Nat → Nat), p.tables.exec = Jvm.exec → c.code = M.2.1 → s.vm.findClass M.1.cls = some mid.cls → (∀ w ∈ tg_tbl, w.before args s = true) →
      W p l e R s mid args below meth c H locs k n Q (F0 mid pc' ls (st'.map (rv ρ))) → W p l e R s mid args below meth c H locs k n Q (F0 mid pc ls (st.map (rv ρ)))) : Cj M mc ms pc lv st w k n P := by
  intro p l e s mid args below meth c H locs D cA h0 ls X hC hS hl
  exact h p l e _ s mid args below meth c H locs _ ls _ X.1 X.2.1 X.2.2.2.2.1 X.2.2.2.2.2.1 (kk p l e s mid args below meth c H locs D cA h0 ls X hC hS hl)
theorem Cj.iconst {i : Int} (d : decode M.2.1 pc = .ok (.iconst i, 1)) (hp : pc + 1 = pc') (kk : Cj M mc ms pc' lv (iV i :: st) w k n P) : Cj M mc ms pc lv st w k n P := by
  subst hp
  exact Cj.op kk (fun p l e R s mid args below meth c H locs Q ls ρ hx hb hown hts kk => lv_iconst hx hb d rfl kk)
theorem Cj.bipush {i : Int} (d : decode M.2.1 pc = .ok (.bipush i, 2)) (hv : (Int8.ofInt i).toInt32 = Int32.ofInt i) (hp : pc + 2 = pc') (kk : Cj M mc ms pc' lv (iV i :: st) w k n P) : Cj M mc ms pc lv st w k n P := by
  subst hp
  exact Cj.op kk (fun p l e R s mid args below meth c H locs Q ls ρ hx hb hown hts kk => lv_bipush hx hb d hv kk)
theorem Cj.sipush {i : Int} (d : decode M.2.1 pc = .ok (.sipush i, 3)) (hv : (Int16.ofInt i).toInt32 = Int32.ofInt i) (hp : pc + 3 = pc') (kk : Cj M mc ms pc' lv (iV i :: st) w k n P) : Cj M mc ms pc lv st w k n P := by
  subst hp
  exact Cj.op kk (fun p l e R s mid args below meth c H locs Q ls ρ hx hb hown hts kk => lv_sipush hx hb d hv kk)
theorem Cj.lconst {i : Fin 2} {v : Int64} (d : decode M.2.1 pc = .ok (.lconst i, 1)) (hv : Int64.ofNat (i : Nat) = v) (hp : pc + 1 = pc') (kk : Cj M mc ms pc' lv (lV v :: st) w k n P) : Cj M mc ms pc lv st w k n P := by
  subst hp
  exact Cj.op kk (fun p l e R s mid args below meth c H locs Q ls ρ hx hb hown hts kk => lv_lconst hx hb d hv kk)
theorem Cj.dup {v : tV} (d : decode M.2.1 pc = .ok (.dup, 1)) (hv : tcat v = 1) (hp : pc + 1 = pc') (kk : Cj M mc ms pc' lv (v :: v :: st) w k n P) : Cj M mc ms pc lv (v :: st) w k n P := by
  subst hp
  exact Cj.op kk (fun p l e R s mid args below meth c H locs Q ls ρ hx hb hown hts kk => lv_dup hx hb d ((tcat_eq ρ v).trans hv) kk)
theorem Cj.goto {off : Int} (d : decode M.2.1 pc = .ok (.goto off, 3)) (ht : (pc : Int) + off = (pc' : Int)) (kk : Cj M mc ms pc' lv st w k n P) : Cj M mc ms pc lv st w k n P :=
  Cj.op kk (fun p l e R s mid args below meth c H locs Q ls ρ hx hb hown hts kk => lv_goto hx hb d ht kk)
theorem Cj.lcmp {x y : Int64} (d : decode M.2.1 pc = .ok (.lcmp, 1)) (hp : pc + 1 = pc') (kk : Cj M mc ms pc' lv (iV (lcI x y) :: st) w k n P) : Cj M mc ms pc lv (lV y :: lV x :: st) w k n P := by
  subst hp
  exact Cj.op kk (fun p l e R s mid args below meth c H locs Q ls ρ hx hb hown hts kk => W.lcmp hx hb d (by rw [lcI_ok]; exact kk))
theorem Cj.if_ne0 {off : Int} (d : decode M.2.1 pc = .ok (.ifCond .ne off, 3)) (hp : pc + 3 = pc') {tgt : Nat} (ht : (pc : Int) + off = (tgt : Int)) (kk : Cj M mc ms pc' lv st w k n P) : Cj M mc ms pc lv (iV 0 :: st) w k n P := by
  subst hp
  exact Cj.op kk (fun p l e R s mid args below meth c H locs Q ls ρ hx hb hown hts kk => lv_if_ne hx hb d ht (fun q => absurd ti_0 q) (fun _ => kk))
theorem Cj.aload_n {i : Fin 4} {a : Nat} (d : decode M.2.1 pc = .ok (.aload_n i, 1)) (hv : gl lv (i : Nat) = some (rV a)) (hp : pc + 1 = pc') (kk : Cj M mc ms pc' lv (rV a :: st) w k n P) : Cj M mc ms pc lv st w k n P := by
  subst hp
  intro p l e s mid args below meth c H locs D cA h0 ls X hC hS hl
  exact lv_aload_n X.1 X.2.1 d rfl (hl.2.2 _ _ hv) (kk p l e s mid args below meth c H locs D cA h0 ls X hC hS hl)
theorem Cj.iload_n {i : Fin 4} {x : Int} (d : decode M.2.1 pc = .ok (.iload_n i, 1)) (hv : gl lv (i : Nat) = some (iV x)) (hp : pc + 1 = pc') (kk : Cj M mc ms pc' lv (iV x :: st) w k n P) : Cj M mc ms pc lv st w k n P := by
  subst hp
  intro p l e s mid args below meth c H locs D cA h0 ls X hC hS hl
  exact lv_iload_n X.1 X.2.1 d rfl (hl.2.2 _ _ hv) (kk p l e s mid args below meth c H locs D cA h0 ls X hC hS hl)
theorem Cj.lload_n {i : Fin 4} {x : Int64} (d : decode M.2.1 pc = .ok (.lload_n i, 1)) (hv : gl lv (i : Nat) = some (lV x)) (hp : pc + 1 = pc') (kk : Cj M mc ms pc' lv (lV x :: st) w k n P) : Cj M mc ms pc lv st w k n P := by
  subst hp
  intro p l e s mid args below meth c H locs D cA h0 ls X hC hS hl
  exact lv_lload_n X.1 X.2.1 d rfl (hl.2.2 _ _ hv) (kk p l e s mid args below meth c H locs D cA h0 ls X hC hS hl)
theorem Cj.istore_n {i : Fin 4} {x : Int} (d : decode M.2.1 pc = .ok (.istore_n i, 1)) (hi : (i : Nat) < M.2.2.1) (hj : nJb lv (i : Nat) = true) (hp : pc + 1 = pc') (kk : Cj M mc ms pc' (sl lv (i : Nat) (iV x)) st w k n P) : Cj M mc ms pc lv (iV x :: st) w k n P := by
  subst hp
  intro p l e s mid args below meth c H locs D cA h0 ls X hC hS hl
  exact lv_istore_n X.1 X.2.1 d rfl (tL_has hl) hi rfl (fun ls' hl' => kk p l e s mid args below meth c H locs D cA h0 ls' X hC hS (tL_s1 hj hl'))
theorem Cj.iinc {i : Nat} {x z : Int} (d : decode M.2.1 pc = .ok (.iinc i z, 3)) (hv : gl lv i = some (iV x)) (hi : i < M.2.2.1) (hj : nJb lv i = true) (hp : pc + 3 = pc') (kk : Cj M mc ms pc' (sl lv i (iV (x + z))) st w k n P) : Cj M mc ms pc lv st w k n P := by
  subst hp
  intro p l e s mid args below meth c H locs D cA h0 ls X hC hS hl
  obtain ⟨q, hq⟩ := List.getElem?_of_mem (alr_mem (ρ := rho0 h0) hv)
  exact lv_iinc X.1 X.2.1 d (tL_has hl) hq (v := Int32.ofInt (x + z)) (by rw [Int32.ofInt_add]) hi rfl (fun ls' hl' => kk p l e s mid args below meth c H locs D cA h0 ls' X hC hS (tL_s1 (v := iV (x + z)) hj hl'))
theorem Cj.icmp_ge {a b : Int} {off : Int} {tgt : Nat} (d : decode M.2.1 pc = .ok (.if_icmp .ge off, 3)) (ht : (pc : Int) + off = (tgt : Int)) (hp : pc + 3 = pc') (ra : R32 a) (rb : R32 b) (k1 : a < b → Cj M mc ms pc' lv st w k n P) (k2 : ¬ a < b → Cj M mc ms tgt lv st w k n P) : Cj M mc ms pc lv (iV b :: iV a :: st) w k n P := by
  subst hp
  intro p l e s mid args below meth c H locs D cA h0 ls X hC hS hl
  have j1 : a < b → _ := fun q => k1 q p l e s mid args below meth c H locs D cA h0 ls X hC hS hl
  have j2 : ¬ a < b → _ := fun q => k2 q p l e s mid args below meth c H locs D cA h0 ls X hC hS hl
  exact lv_icmp_ge X.1 X.2.1 d ht (fun q => j2 (by have := (ti_le rb ra).mp q; omega)) (fun q => j1 (by have q3 : ¬ b ≤ a := fun q2 => q ((ti_le rb ra).mpr q2); omega))
theorem Cj.cut {lv' : List (Option tV)} (kk : Cj M mc ms pc lv' st w k n P) (h : subL lv' lv) : Cj M mc ms pc lv st w k n P := by
  intro p l e s mid args below meth c H locs D cA h0 ls X hC hS hl
  exact kk p l e s mid args below meth c H locs D cA h0 ls X hC hS ⟨hl.1, hl.2.1, fun i v hv => hl.2.2 i v (subL_ok lv' lv h i v hv)⟩
/-- Object's own constructor -/
theorem Cj.obj {a : Nat} (d : decode M.2.1 pc = .ok (.invokespecial 1, 3)) (f1 : Cond.methodLink M.1.cls 1 Lib.objectInit ∈ tg_tbl) (f2 : Cond.instanceMethod Lib.objectInit ∈ tg_tbl) (f3 : Cond.code Lib.objectInit ⟨#[0xb1]⟩ 1 none ∈ tg_tbl) (hr : 1 ≤ M.2.2.2.2.1 ∧ 12 ≤ M.2.2.2.2.2) (hp : pc + 3 = pc') (kk : Cj M mc ms pc' lv [] w k n P) : Cj M mc ms pc lv [rV a] w k n P := by
  subst hp
  intro p l e s mid args below meth c H locs D cA h0 ls X hC hS hl
  have hts := X.2.2.2.2.2.1
  exact W.objInit X.1 X.2.1 X.2.2.2.2.1 (hts _ f1) (hts _ f2) (hts _ f3) rfl (hl.1.trans X.2.2.2.1.symm) rfl d hr.1 (by simpa [JFrame.monitorRoom] using hr.2) (kk p l e s mid args below meth c H locs D cA h0 ls X hC hS hl)
/-- ends -/
theorem Cj.vret (d : decode M.2.1 pc = .ok (.return_, 1)) (hr : M.2.2.2.1 = none) (h : P none w) : Cj M mc ms pc lv [] w mc ms P := by
  intro p l e s mid args below meth c H locs D cA h0 ls X hC hS hl
  exact W.vret X.1 X.2.1 (X.2.2.1.trans hr) (fun t ht hW => ⟨⟨none, w, rfl, h, by rw [ht]; exact hC⟩, hS.F ht⟩) hS.2.2 d X.2.2.2.2.2.2.1
theorem Cj.iret {x : Int} (d : decode M.2.1 pc = .ok (.ireturn, 1)) (hr : M.2.2.2.1 = some .int) (h : P (some (iV x)) w) : Cj M mc ms pc lv [iV x] w mc ms P := by
  intro p l e s mid args below meth c H locs D cA h0 ls X hC hS hl
  exact W.iret X.1 X.2.1 (X.2.2.1.trans hr) (fun t ht hW => ⟨⟨some (iV x), w, rfl, h, by rw [ht]; exact hC⟩, hS.F ht⟩) hS.2.2 d X.2.2.2.2.2.2.1
end CJ
