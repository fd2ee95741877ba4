/-! THE JUDGEMENT Tj: a method of the system, at a pc, over cells whose places are fixed (shp) and whose numbers are Ints.
A value is an Int (an int in range), an Int64, or the number of a cell. -/
/-- those words of the tables that may be handed on to a callee -/
def tg_tbl : List Cond := lw_tbl.filter goodWord
theorem mem_tg {w : Cond} (h : w ∈ lw_tbl) (g : goodWord w = true) : w ∈ tg_tbl := List.mem_filter.mpr ⟨h, g⟩
abbrev tV : Type := Int ⊕ Int64 ⊕ Nat
abbrev iV (n : Int) : tV := .inl n
abbrev lV (x : Int64) : tV := .inr (.inl x)
abbrev rV (a : Nat) : tV := .inr (.inr a)
abbrev tM : Type := Nat → Int → Int
abbrev R32 (x : Int) : Prop := -2147483648 ≤ x ∧ x ≤ 2147483647
def tR : tV → Prop
  | .inl n => R32 n
  | .inr _ => True
def rv (ρ : Nat → Nat) : tV → Value
  | .inl n => .int (Int32.ofInt n)
  | .inr (.inl x) => .long x
  | .inr (.inr a) => .ref (ρ a)
def tcat : tV → Nat
  | .inr (.inl _) => 2
  | _ => 1
theorem tcat_eq (ρ : Nat → Nat) (v : tV) : (rv ρ v).category = tcat v := by
  rcases v with n | x | a <;> rfl
theorem ti {x : Int} (h : R32 x) : (Int32.ofInt x).toInt = x := Int32.toInt_ofInt_of_le (by omega) (by omega)
theorem ti_inj {x y : Int} (hx : R32 x) (hy : R32 y) : Int32.ofInt x = Int32.ofInt y ↔ x = y := by
  rw [← Int32.toInt_inj, ti hx, ti hy]
theorem ti_lt {x y : Int} (hx : R32 x) (hy : R32 y) : Int32.ofInt x < Int32.ofInt y ↔ x < y := by
  rw [Int32.lt_iff_toInt_lt, ti hx, ti hy]
theorem ti_le {x y : Int} (hx : R32 x) (hy : R32 y) : Int32.ofInt x ≤ Int32.ofInt y ↔ x ≤ y := by
  rw [Int32.le_iff_toInt_le, ti hx, ti hy]
theorem ti_0 : Int32.ofInt 0 = 0 := by decide +kernel
theorem ti_of (x : Int32) : Int32.ofInt x.toInt = x := Int32.ofInt_toInt x
theorem tr_of (x : Int32) : R32 x.toInt := by
  have h1 := Int32.toInt_lt x
  have h2 := Int32.le_toInt x
  constructor <;> omega
theorem ti_cl {x : Int} (h0 : 0 ≤ x) (h : R32 x) : (Int32.ofInt x).toNatClampNeg = x.toNat := by
  show (Int32.ofInt x).toInt.toNat = x.toNat
  rw [ti h]
theorem ti_in {x : Int} {n : Nat} (h0 : 0 ≤ x) (h1 : x < n) (h : R32 x) : vp_in (Int32.ofInt x) n := by
  rw [vp_in_iff, ti h]
  exact ⟨h0, h1⟩
/-- the fields of a cell -/
def fv (ρ : Nat → Nat) (a : Nat) (k : Nat) (x : Int) : Value :=
  match k with
  | 0 => .int (Int32.ofInt x)
  | 1 => .long (Int64.ofInt x)
  | d + 2 => .ref (ρ (a + d))
def tfs (ρ : Nat → Nat) (a : Nat) : List Nat → Nat → (Int → Int) → List Value
  | [], _, _ => []
  | k :: ks, j, r => fv ρ a k (r (j : Int)) :: tfs ρ a ks (j + 1) r
theorem tfs_get (ρ : Nat → Nat) (a : Nat) (r : Int → Int) : ∀ (ks : List Nat) (j i : Nat), (tfs ρ a ks j r)[i]? = (ks[i]?).map (fun k => fv ρ a k (r ((j + i : Nat) : Int)))
  | [], j, i => by simp [tfs]
  | k :: ks, j, 0 => by simp [tfs]
  | k :: ks, j, i + 1 => by
    rw [tfs, List.getElem?_cons_succ, tfs_get ρ a r ks (j + 1) i, List.getElem?_cons_succ]
    rw [show j + 1 + i = j + (i + 1) by omega]
theorem tfs_len (ρ : Nat → Nat) (a : Nat) (r : Int → Int) : ∀ (ks : List Nat) (j : Nat), (tfs ρ a ks j r).length = ks.length
  | [], j => rfl
  | k :: ks, j => by rw [tfs, List.length_cons, List.length_cons, tfs_len ρ a r ks (j + 1)]
/-- a row with one number changed; a memory with one row changed; with one number changed -/
def ur (r : Int → Int) (i x : Int) : Int → Int := fun j => if j = i then x else r j
def sr (m : tM) (a : Nat) (r : Int → Int) : tM := fun b => if b = a then r else m b
abbrev up (m : tM) (a : Nat) (i x : Int) : tM := sr m a (ur (m a) i x)
theorem sr_eq (m : tM) (a : Nat) (r : Int → Int) : sr m a r a = r := by simp [sr]
theorem sr_ne (m : tM) {a b : Nat} (r : Int → Int) (h : b ≠ a) : sr m a r b = m b := by simp [sr, h]
theorem ur_eq (r : Int → Int) (i x : Int) : ur r i x i = x := by simp [ur]
theorem ur_ne (r : Int → Int) {i j : Int} (x : Int) (h : j ≠ i) : ur r i x j = r j := by simp [ur, h]
theorem tfs_upd (ρ : Nat → Nat) (a : Nat) (r : Int → Int) (ks : List Nat) (i : Nat) (k : Nat) (x : Int) (h : ks[i]? = some k) : tfs ρ a ks 0 (ur r (i : Int) x) = (tfs ρ a ks 0 r).set i (fv ρ a k x) := by
  apply List.ext_getElem?
  intro n
  have hi : i < ks.length := (List.getElem?_eq_some_iff.mp h).1
  rw [tfs_get, Nat.zero_add]
  by_cases hn : n = i
  · subst hn
    rw [List.getElem?_set_self (by rw [tfs_len]; exact hi), h, ur_eq]
    rfl
  · rw [List.getElem?_set_ne (Ne.symm hn), tfs_get, Nat.zero_add, ur_ne r x (by omega)]
/-- a cell of the world -/
def tel (cA : Nat → ClassId) (ρ : Nat → Nat) (a : Nat) (sh : Nat × Nat) (r : Int → Int) : va_E :=
  if sh.1 = 20 then .inl (cA 0, sh.2, .inl (fun i => Int32.ofInt (r (i : Int))))
  else if sh.1 = 21 then .inl (cA 1, sh.2, .inl (fun i => Int32.ofInt (r (i : Int))))
  else if sh.1 = 22 then .inl (cA 2, sh.2, .inr (.inr (.inr (.inr (fun i => some (ρ (a + 1 + 9 * i)))))))
  else if sh.1 = 23 then .inl (cA 3, sh.2, .inr (.inr (.inr (.inr (fun i => some (ρ (a + 1 + 4 * i)))))))
  else .inr (sh.1, tfs ρ a (fkL.getD sh.1 []) 0 r)
theorem tel_20 (cA : Nat → ClassId) (ρ : Nat → Nat) (a n : Nat) (r : Int → Int) : tel cA ρ a (20, n) r = .inl (cA 0, n, .inl (fun i => Int32.ofInt (r (i : Int)))) := rfl
theorem tel_21 (cA : Nat → ClassId) (ρ : Nat → Nat) (a n : Nat) (r : Int → Int) : tel cA ρ a (21, n) r = .inl (cA 1, n, .inl (fun i => Int32.ofInt (r (i : Int)))) := rfl
theorem tel_22 (cA : Nat → ClassId) (ρ : Nat → Nat) (a n : Nat) (r : Int → Int) : tel cA ρ a (22, n) r = .inl (cA 2, n, .inr (.inr (.inr (.inr (fun i => some (ρ (a + 1 + 9 * i))))))) := rfl
theorem tel_23 (cA : Nat → ClassId) (ρ : Nat → Nat) (a n : Nat) (r : Int → Int) : tel cA ρ a (23, n) r = .inl (cA 3, n, .inr (.inr (.inr (.inr (fun i => some (ρ (a + 1 + 4 * i))))))) := rfl
theorem tel_o (cA : Nat → ClassId) (ρ : Nat → Nat) (a ci n : Nat) (r : Int → Int) (h : ci < 20) : tel cA ρ a (ci, n) r = .inr (ci, tfs ρ a (fkL.getD ci []) 0 r) := by
  unfold tel
  rw [if_neg (by show ¬ ci = 20; omega), if_neg (by show ¬ ci = 21; omega), if_neg (by show ¬ ci = 22; omega), if_neg (by show ¬ ci = 23; omega)]
def twd (cA : Nat → ClassId) (ρ : Nat → Nat) (m : tM) : va_W := (List.range SHL.length).map (fun a => (ρ a, tel cA ρ a ((shp a).getD (0, 0)) (m a)))
theorem shp_lt {a : Nat} {sh : Nat × Nat} (h : shp a = some sh) : a < SHL.length := (List.getElem?_eq_some_iff.mp h).1
theorem twd_get {cA : Nat → ClassId} {ρ : Nat → Nat} {m : tM} {a : Nat} {sh : Nat × Nat} (h : shp a = some sh) : (twd cA ρ m)[a]? = some (ρ a, tel cA ρ a sh (m a)) := by
  unfold twd
  rw [List.getElem?_map, List.getElem?_range (shp_lt h)]
  show some (ρ a, tel cA ρ a ((shp a).getD (0, 0)) (m a)) = _
  rw [h]
  rfl
theorem twd_set {cA : Nat → ClassId} {ρ : Nat → Nat} {m : tM} {a : Nat} {sh : Nat × Nat} (h : shp a = some sh) (r : Int → Int) : (twd cA ρ m).set a (ρ a, tel cA ρ a sh r) = twd cA ρ (sr m a r) := by
  apply List.ext_getElem?
  intro n
  by_cases hn : n = a
  · subst hn
    have hl : n < (twd cA ρ m).length := by unfold twd; rw [List.length_map, List.length_range]; exact shp_lt h
    rw [List.getElem?_set_self hl, twd_get h, sr_eq]
  · rw [List.getElem?_set_ne (Ne.symm hn)]
    unfold twd
    rw [List.getElem?_map, List.getElem?_map]
    cases hr : (List.range SHL.length)[n]? with
    | none => rfl
    | some b =>
      have hb : b = n := by
        have := (List.getElem?_eq_some_iff.mp hr).2
        rw [List.getElem_range] at this
        exact this.symm
      subst hb
      show some (ρ b, tel cA ρ b ((shp b).getD (0, 0)) (m b)) = some (ρ b, tel cA ρ b ((shp b).getD (0, 0)) (sr m a r b))
      rw [sr_ne m r hn]
def tA (ρ : Nat → Nat) : Nat → Prop := fun q => ∃ a, a < SHL.length ∧ q = ρ a
/-- the static tables -/
def stI (a : Nat) (j : Int) : Int :=
  if a = 1001 then ([2, 4, 3, 5, 2, 5, 3, 4, 4, 0, 5, 1, 4, 1, 5, 0, 0, 2, 1, 3, 0, 3, 1, 2] : List Int).getD j.toNat 0
  else if a = 1002 then ([1, 0, -1, 0] : List Int).getD j.toNat 0
  else ([0, 1, 0, -1] : List Int).getD j.toNat 0
def stL (j : Int) : Int64 := ([0x330033, 0x110011, 0x220022, 0x030003, 0x300030, 0x000033, 0x330000] : List Int64).getD j.toNat 0
abbrev ttys (cA : Nat → ClassId) : List (ClassId × FieldType) := [(cA 0, .int), (cA 1, .boolean), (cA 2, .object RX0), (cA 3, .object RX8)]
/-- a static table, and the field that holds it -/
def tSt (C n d : String) (ty : FieldType) (a N : Nat) (f : Nat → Value) (ρ : Nat → Nat) (U : State) : Prop := va_Z C n d (.ref (ρ a)) (tA ρ) U U.heap ∧ va_T ty (ρ a) N f (tA ρ) U U.heap
def TW (D : va_G) (cA : Nat → ClassId) (ρ : Nat → Nat) (U : State) : Prop :=
  va_K D vwCl (ttys cA) U ∧ (∀ m, va_D (tA ρ) (twd cA ρ m)) ∧
  tSt "CubeCarton$Body" "AROUND_CORNER" "[J" .long 1000 7 (fun j => .long (stL (j : Int))) ρ U ∧
  tSt "CubeCarton$Skin" "LOOKS" "[I" .int 1001 24 (fun j => .int (Int32.ofInt (stI 1001 (j : Int)))) ρ U ∧
  tSt "CubeCarton$Sheet" "STEP_X" "[I" .int 1002 4 (fun j => .int (Int32.ofInt (stI 1002 (j : Int)))) ρ U ∧
  tSt "CubeCarton$Sheet" "STEP_Y" "[I" .int 1003 4 (fun j => .int (Int32.ofInt (stI 1003 (j : Int)))) ρ U
theorem tSt.moved {C n d : String} {ty : FieldType} {a N : Nat} {f : Nat → Value} {ρ : Nat → Nat} {u U : State} (h : tSt C n d ty a N f ρ u) (hvm : u.vm.Alike U.vm) (hq : ∀ q : Nat, q < u.heap.size → ¬ tA ρ q → U.heap[q]? = u.heap[q]?) : tSt C n d ty a N f ρ U :=
  ⟨va_Z.moved hvm (va_Z.kept h.1 hq), va_T.moved hvm (va_T.kept h.2 hq)⟩
theorem TW.moved {D : va_G} {cA : Nat → ClassId} {ρ : Nat → Nat} {u U : State} (h : TW D cA ρ u) (hvm : u.vm.Alike U.vm) (hq : ∀ q : Nat, q < u.heap.size → ¬ tA ρ q → U.heap[q]? = u.heap[q]?) : TW D cA ρ U :=
  ⟨va_K.moved hvm h.1, h.2.1, h.2.2.1.moved hvm hq, h.2.2.2.1.moved hvm hq, h.2.2.2.2.1.moved hvm hq, h.2.2.2.2.2.moved hvm hq⟩
def tJ (a : Nat) (i : Int) : Bool := (fkL.getD ((shp a).getD (99, 0)).1 []).getD i.toNat 0 == 1
def M32 (m : tM) : Prop := ∀ (a : Nat) (i : Int), tJ a i = false → R32 (m a i)
def trm (M : MI) : Room := { frames := M.2.2.2.2.1, cells := 0, slots := 0, locals := M.2.2.2.2.2 }
def tws (M : MI) : List Cond := Cond.code M.1 M.2.1 M.2.2.1 M.2.2.2.1 :: tg_tbl
/-- how a method ends -/
def tQ (D : va_G) (cA : Nat → ClassId) (ρ : Nat → Nat) (P : Option tV → tM → Prop) : Array Value → State → Outcome → State → Prop := fun _ st oc t =>
  (∃ (r : Option tV) (m : tM), oc = .returned (r.map (rv ρ)) ∧ P r m ∧ (∀ v, r = some v → tR v) ∧ M32 m ∧ va_P D vwCl (twd cA ρ m) t.heap) ∧ va_F (tA ρ) st t
/-- what stays the same while a method runs -/
def CX (M : MI) (p : Program) (s : State) (mid : MethodId) (args : Array Value) (meth : Method) (c : Code) (D : va_G) (cA : Nat → ClassId) (ρ : Nat → Nat) : Prop :=
  p.tables.exec = Jvm.exec ∧ c.code = M.2.1 ∧ meth.sig.returnType = M.2.2.2.1 ∧ c.maxLocals = M.2.2.1 ∧ s.vm.findClass M.1.cls = some mid.cls ∧ (∀ w ∈ tg_tbl, w.before args s = true) ∧ meth.locks = false ∧ TW D cA ρ s
/-- the locals -/
def gl : List (Option tV) → Nat → Option tV
  | [], _ => none
  | x :: _, 0 => x
  | _ :: l, n + 1 => gl l n
def sl : List (Option tV) → Nat → tV → List (Option tV)
  | [], 0, v => [some v]
  | [], n + 1, v => none :: sl [] n v
  | _ :: l, 0, v => some v :: l
  | x :: l, n + 1, v => x :: sl l n v
def tL (ρ : Nat → Nat) (ls : Array Slot) (n : Nat) (lv : List (Option tV)) : Prop := ls.size = n ∧ lv_wf ls ∧ ∀ (i : Nat) (v : tV), gl lv i = some v → ls[i]? = some (.val (rv ρ v))
theorem gl_sl : ∀ (lv : List (Option tV)) (i : Nat) (v : tV) (j : Nat), gl (sl lv i v) j = if j = i then some v else gl lv j
  | [], 0, v, 0 => rfl
  | [], 0, v, j + 1 => rfl
  | [], i + 1, v, 0 => rfl
  | [], i + 1, v, j + 1 => by
    show gl (sl [] i v) j = _
    rw [gl_sl [] i v j]
    by_cases h : j = i
    · rw [if_pos h, if_pos (by omega)]
    · rw [if_neg h, if_neg (by omega)]
      rfl
  | x :: l, 0, v, 0 => rfl
  | x :: l, 0, v, j + 1 => rfl
  | x :: l, i + 1, v, 0 => rfl
  | x :: l, i + 1, v, j + 1 => by
    show gl (sl l i v) j = _
    rw [gl_sl l i v j]
    by_cases h : j = i
    · rw [if_pos h, if_pos (by omega)]
    · rw [if_neg h, if_neg (by omega)]
      rfl
/-- taking a value out of the locals -/
def kl : List (Option tV) → Nat → List (Option tV)
  | [], _ => []
  | _ :: l, 0 => none :: l
  | x :: l, n + 1 => x :: kl l n
theorem gl_kl : ∀ (lv : List (Option tV)) (i j : Nat), gl (kl lv i) j = if j = i then none else gl lv j
  | [], i, j => by show none = _; split <;> rfl
  | x :: l, 0, 0 => rfl
  | x :: l, 0, j + 1 => rfl
  | x :: l, i + 1, 0 => rfl
  | x :: l, i + 1, j + 1 => by
    show gl (kl l i) j = _
    rw [gl_kl l i j]
    by_cases h : j = i
    · rw [if_pos h, if_pos (by omega)]
    · rw [if_neg h, if_neg (by omega)]
      rfl
/-- is the local in front of this one no long -/
def nJ (lv : List (Option tV)) (i : Nat) : Prop := ∀ j v, j + 1 = i → gl lv j = some v → tcat v = 1
def tRl (lv : List (Option tV)) : Prop := ∀ i v, gl lv i = some v → tR v
def tRs (st : List tV) : Prop := ∀ v ∈ st, tR v
def Tj (M : MI) (pc : Nat) (lv : List (Option tV)) (st : List tV) (m : tM) (P : Option tV → tM → Prop) : Prop :=
  ∀ (p : Program) (l : Launch) (e : Env) (s : State) (mid : MethodId) (args : Array Value) (below : List Frame) (meth : Method) (c : Code) (H : Heap) (locs : List Loc) (D : va_G) (cA : Nat → ClassId) (ρ : Nat → Nat) (ls : Array Slot),
    CX M p s mid args meth c D cA ρ → tRl lv → tRs st → M32 m → va_P D vwCl (twd cA ρ m) H → va_S (tA ρ) s.heap H locs → tL ρ ls M.2.2.1 lv →
    W p l e (trm M) s mid args below meth c H locs 0 0 (MQ below (tQ D cA ρ P) args s 0 0 (tA ρ)) (F0 mid pc ls (st.map (rv ρ)))
theorem tRs_nil : tRs [] := fun _ h => by cases h
theorem tRs_cons {v : tV} {st : List tV} (h1 : tR v) (h2 : tRs st) : tRs (v :: st) := fun w hw => by
  rcases List.mem_cons.mp hw with rfl | hw
  · exact h1
  · exact h2 w hw
theorem tRs_hd {v : tV} {st : List tV} (h : tRs (v :: st)) : tR v := h v List.mem_cons_self
theorem tRs_tl {v : tV} {st : List tV} (h : tRs (v :: st)) : tRs st := fun w hw => h w (List.mem_cons_of_mem _ hw)
theorem tRl_sl {lv : List (Option tV)} {i : Nat} {v : tV} (h : tRl lv) (hv : tR v) : tRl (sl lv i v) := fun j w hj => by
  rw [gl_sl] at hj
  by_cases e : j = i
  · rw [if_pos e] at hj
    cases hj
    exact hv
  · rw [if_neg e] at hj
    exact h j w hj
/-- what is in range may be known -/
theorem Tj.rl {M : MI} {pc : Nat} {lv : List (Option tV)} {st : List tV} {m : tM} {P : Option tV → tM → Prop} (i : Nat) {n : Int} (h : gl lv i = some (iV n)) (k : R32 n → Tj M pc lv st m P) : Tj M pc lv st m P := by
  intro p l e s mid args below meth c H locs D cA ρ ls X h1 h2 h3 hP hS hl
  exact k (h1 i _ h) p l e s mid args below meth c H locs D cA ρ ls X h1 h2 h3 hP hS hl
theorem Tj.rs {M : MI} {pc : Nat} {lv : List (Option tV)} {st : List tV} {m : tM} {P : Option tV → tM → Prop} {n : Int} (h : iV n ∈ st) (k : R32 n → Tj M pc lv st m P) : Tj M pc lv st m P := by
  intro p l e s mid args below meth c H locs D cA ρ ls X h1 h2 h3 hP hS hl
  exact k (h2 _ h) p l e s mid args below meth c H locs D cA ρ ls X h1 h2 h3 hP hS hl
theorem Tj.rm {M : MI} {pc : Nat} {lv : List (Option tV)} {st : List tV} {m : tM} {P : Option tV → tM → Prop} (k : M32 m → Tj M pc lv st m P) : Tj M pc lv st m P := by
  intro p l e s mid args below meth c H locs D cA ρ ls X h1 h2 h3 hP hS hl
  exact k h3 p l e s mid args below meth c H locs D cA ρ ls X h1 h2 h3 hP hS hl
theorem Tj.mono {M : MI} {pc : Nat} {lv : List (Option tV)} {st : List tV} {m : tM} {P P' : Option tV → tM → Prop} (h : Tj M pc lv st m P) (hp : ∀ r m, P r m → P' r m) : Tj M pc lv st m P' := by
  intro p l e s mid args below meth c H locs D cA ρ ls X h1 h2 h3 hP hS hl T hT hX
  obtain ⟨t, a, o, b1, b2, ⟨⟨r, m', e1, e2, e3⟩, e4⟩, b4⟩ := h p l e s mid args below meth c H locs D cA ρ ls X h1 h2 h3 hP hS hl T hT hX
  exact ⟨t, a, o, b1, b2, ⟨⟨r, m', e1, hp r m' e2, e3⟩, e4⟩, b4⟩
/-- fewer locals -/
theorem Tj.lv {M : MI} {pc : Nat} {lv lv' : List (Option tV)} {st : List tV} {m : tM} {P : Option tV → tM → Prop} (h : ∀ i v, gl lv' i = some v → gl lv i = some v) (k : Tj M pc lv' st m P) : Tj M pc lv st m P := by
  intro p l e s mid args below meth c H locs D cA ρ ls X h1 h2 h3 hP hS hl
  exact k p l e s mid args below meth c H locs D cA ρ ls X (fun i v hv => h1 i v (h i v hv)) h2 h3 hP hS ⟨hl.1, hl.2.1, fun i v hv => hl.2.2 i v (h i v hv)⟩
/-- an instruction that works on the stack alone -/
theorem Tj.op {M : MI} {pc pc' : Nat} {lv : List (Option tV)} {st st' : List tV} {m : tM} {P : Option tV → tM → Prop} (k : Tj M pc' lv st' m P) (hr : tRs st → tRs st')
    (h : ∀ (p : Program) (l : Launch) (e : Env) (R : Room) (s : State) (mid : MethodId) (args : Array Value) (below : List Frame) (meth : Method) (c : Code) (H : Heap) (locs : List Loc) (Q : State → Prop) (ls : Array Slot) (ρ : Nat → Nat), p.tables.exec = Jvm.exec → c.code = M.2.1 → s.vm.findClass M.1.cls = some mid.cls → (∀ w ∈ tg_tbl, w.before args s = true) → tRs st →
      W p l e R s mid args below meth c H locs 0 0 Q (F0 mid pc' ls (st'.map (rv ρ))) → W p l e R s mid args below meth c H locs 0 0 Q (F0 mid pc ls (st.map (rv ρ)))) : Tj M pc lv st m P := by
  intro p l e s mid args below meth c H locs D cA ρ ls X h1 h2 h3 hP hS hl
  exact h p l e (trm M) s mid args below meth c H locs _ ls ρ X.1 X.2.1 X.2.2.2.2.1 X.2.2.2.2.2.1 h2 (k p l e s mid args below meth c H locs D cA ρ ls X h1 (hr h2) h3 hP hS hl)
