/-! a row for each instruction -/
def nJb (lv : List (Option tV)) : Nat → Bool
  | 0 => true
  | j + 1 => match gl lv j with
    | some v => tcat v == 1
    | none => true
theorem nJb_ok {lv : List (Option tV)} {i j : Nat} {v : tV} (h : nJb lv i = true) (hj : j + 1 = i) (hv : gl lv j = some v) : tcat v = 1 := by
  subst hj
  simp only [nJb, hv] at h
  simpa using h
def bAnd (a b : Int) : Int := (Int32.ofInt a &&& Int32.ofInt b).toInt
def bOr (a b : Int) : Int := (Int32.ofInt a ||| Int32.ofInt b).toInt
def bXor (a b : Int) : Int := (Int32.ofInt a ^^^ Int32.ofInt b).toInt
def bShl (a b : Int) : Int := (Int32.ofInt a <<< (Int32.ofInt b &&& 31)).toInt
def bShr (a b : Int) : Int := (Int32.ofInt a >>> (Int32.ofInt b &&& 31)).toInt
def bUshr (a b : Int) : Int := ((Int32.ofInt a).toUInt32 >>> ((Int32.ofInt b).toUInt32 &&& Int32.toUInt32 31)).toInt32.toInt
def lcI (x y : Int64) : Int := if x < y then -1 else if x = y then 0 else 1
theorem lcI_ok (x y : Int64) : lg_cmp x y = Int32.ofInt (lcI x y) := by
  unfold lg_cmp lcI
  by_cases h1 : x < y
  · have h2 : ¬ x > y := fun h => by rw [gt_iff_lt, Int64.lt_iff_toInt_lt] at h; rw [Int64.lt_iff_toInt_lt] at h1; omega
    have h3 : ¬ x = y := fun h => by subst h; rw [Int64.lt_iff_toInt_lt] at h1; omega
    rw [if_neg h2, if_neg h3, if_pos h1]; decide +kernel
  · by_cases h3 : x = y
    · subst h3
      rw [if_neg h1, if_pos rfl, if_pos rfl, if_neg h1]; decide +kernel
    · have h2 : x > y := by
        rw [gt_iff_lt, Int64.lt_iff_toInt_lt]
        rw [Int64.lt_iff_toInt_lt] at h1
        have h4 : x.toInt ≠ y.toInt := fun h => h3 (Int64.toInt_inj.mp h)
        omega
      rw [if_pos h2, if_neg h1, if_neg h3]; decide +kernel
theorem lcI_r (x y : Int64) : R32 (lcI x y) := by
  unfold lcI
  split
  · decide
  · split <;> decide
theorem ti_div {x y : Int} (hx : R32 x) (h0 : 0 ≤ x) (hy : R32 y) (h1 : 0 < y) : Int32.ofInt x / Int32.ofInt y = Int32.ofInt (x / y) := by
  rw [← Int32.toInt_inj]
  have hne : Int32.ofInt y ≠ -1 := by
    intro h
    have := congrArg Int32.toInt h
    rw [ti hy] at this
    have e : (-1 : Int32).toInt = -1 := by decide +kernel
    omega
  have hb : x / y ≤ x := Int.ediv_le_self y h0
  have hb0 : 0 ≤ x / y := Int.ediv_nonneg h0 (by omega)
  rw [Int32.toInt_div_of_ne_right _ _ hne, ti hx, ti hy, ti (by constructor <;> omega), Int.tdiv_eq_ediv_of_nonneg h0]
theorem ti_i2l {x : Int} (hx : R32 x) : (Int32.ofInt x).toInt64 = Int64.ofInt x := by
  rw [← Int64.toInt_inj, Int32.toInt_toInt64, ti hx, Int64.toInt_ofInt_of_le (by omega) (by omega)]
theorem Tj.iconst {M : MI} {pc pc' : Nat} {lv : List (Option tV)} {st : List tV} {m : tM} {P : Option tV → tM → Prop} {n : Int} (d : decode M.2.1 pc = .ok (.iconst n, 1)) (hr : R32 n) (hp : pc + 1 = pc') (k : Tj M pc' lv (iV n :: st) m P) : Tj M pc lv st m P := by
  subst hp
  exact Tj.op k (fun h => tRs_cons hr h) (fun p l e R s mid args below meth c H locs Q ls ρ hx hb hown hts hR kk => lv_iconst hx hb d rfl kk)
theorem Tj.bipush {M : MI} {pc pc' : Nat} {lv : List (Option tV)} {st : List tV} {m : tM} {P : Option tV → tM → Prop} {n : Int} (d : decode M.2.1 pc = .ok (.bipush n, 2)) (hr : R32 n) (hv : (Int8.ofInt n).toInt32 = Int32.ofInt n) (hp : pc + 2 = pc') (k : Tj M pc' lv (iV n :: st) m P) : Tj M pc lv st m P := by
  subst hp
  exact Tj.op k (fun h => tRs_cons hr h) (fun p l e R s mid args below meth c H locs Q ls ρ hx hb hown hts hR kk => lv_bipush hx hb d hv kk)
theorem Tj.sipush {M : MI} {pc pc' : Nat} {lv : List (Option tV)} {st : List tV} {m : tM} {P : Option tV → tM → Prop} {n : Int} (d : decode M.2.1 pc = .ok (.sipush n, 3)) (hr : R32 n) (hv : (Int16.ofInt n).toInt32 = Int32.ofInt n) (hp : pc + 3 = pc') (k : Tj M pc' lv (iV n :: st) m P) : Tj M pc lv st m P := by
  subst hp
  exact Tj.op k (fun h => tRs_cons hr h) (fun p l e R s mid args below meth c H locs Q ls ρ hx hb hown hts hR kk => lv_sipush hx hb d hv kk)
theorem Tj.ldc {M : MI} {pc pc' : Nat} {lv : List (Option tV)} {st : List tV} {m : tM} {P : Option tV → tM → Prop} {n : Int} {idx : Nat} (d : decode M.2.1 pc = .ok (.ldc idx, 2)) (hm : Cond.constant M.1.cls idx (Int32.ofInt n) ∈ tg_tbl) (hr : R32 n) (hp : pc + 2 = pc') (k : Tj M pc' lv (iV n :: st) m P) : Tj M pc lv st m P := by
  subst hp
  exact Tj.op k (fun h => tRs_cons hr h) (fun p l e R s mid args below meth c H locs Q ls ρ hx hb hown hts hR kk => lv_ldc hx hb hown (hts _ hm) d kk)
theorem Tj.ldc_w {M : MI} {pc pc' : Nat} {lv : List (Option tV)} {st : List tV} {m : tM} {P : Option tV → tM → Prop} {n : Int} {idx : Nat} (d : decode M.2.1 pc = .ok (.ldc_w idx, 3)) (hm : Cond.constant M.1.cls idx (Int32.ofInt n) ∈ tg_tbl) (hr : R32 n) (hp : pc + 3 = pc') (k : Tj M pc' lv (iV n :: st) m P) : Tj M pc lv st m P := by
  subst hp
  exact Tj.op k (fun h => tRs_cons hr h) (fun p l e R s mid args below meth c H locs Q ls ρ hx hb hown hts hR kk => lv_ldcw hx hb hown (hts _ hm) d kk)
theorem Tj.ldc2_w {M : MI} {pc pc' : Nat} {lv : List (Option tV)} {st : List tV} {m : tM} {P : Option tV → tM → Prop} {v : Int64} {idx : Nat} (d : decode M.2.1 pc = .ok (.ldc2_w idx, 3)) (hm : Cond.constantLong M.1.cls idx v ∈ tg_tbl) (hp : pc + 3 = pc') (k : Tj M pc' lv (lV v :: st) m P) : Tj M pc lv st m P := by
  subst hp
  exact Tj.op k (fun h => tRs_cons trivial h) (fun p l e R s mid args below meth c H locs Q ls ρ hx hb hown hts hR kk => lv_ldc2 hx hb hown (hts _ hm) d kk)
theorem Tj.lconst {M : MI} {pc pc' : Nat} {lv : List (Option tV)} {st : List tV} {m : tM} {P : Option tV → tM → Prop} {n : Fin 2} {v : Int64} (d : decode M.2.1 pc = .ok (.lconst n, 1)) (hv : Int64.ofNat (n : Nat) = v) (hp : pc + 1 = pc') (k : Tj M pc' lv (lV v :: st) m P) : Tj M pc lv st m P := by
  subst hp
  exact Tj.op k (fun h => tRs_cons trivial h) (fun p l e R s mid args below meth c H locs Q ls ρ hx hb hown hts hR kk => lv_lconst hx hb d hv kk)
theorem Tj.iload_n {M : MI} {pc pc' : Nat} {lv : List (Option tV)} {st : List tV} {m : tM} {P : Option tV → tM → Prop} {i : Fin 4} {n : Int} (d : decode M.2.1 pc = .ok (.iload_n i, 1)) (hv : gl lv (i : Nat) = some (iV n)) (hp : pc + 1 = pc') (k : Tj M pc' lv (iV n :: st) m P) : Tj M pc lv st m P := by
  subst hp
  intro p l e s mid args below meth c H locs D cA ρ ls X h1 h2 h3 hP hS hl
  exact lv_iload_n X.1 X.2.1 d rfl (hl.2.2 _ _ hv) (k p l e s mid args below meth c H locs D cA ρ ls X h1 (tRs_cons (h1 _ _ hv) h2) h3 hP hS hl)
theorem Tj.iload {M : MI} {pc pc' : Nat} {lv : List (Option tV)} {st : List tV} {m : tM} {P : Option tV → tM → Prop} {i : Nat} {n : Int} (d : decode M.2.1 pc = .ok (.iload i, 2)) (hv : gl lv i = some (iV n)) (hp : pc + 2 = pc') (k : Tj M pc' lv (iV n :: st) m P) : Tj M pc lv st m P := by
  subst hp
  intro p l e s mid args below meth c H locs D cA ρ ls X h1 h2 h3 hP hS hl
  exact lv_iload X.1 X.2.1 d (hl.2.2 _ _ hv) (k p l e s mid args below meth c H locs D cA ρ ls X h1 (tRs_cons (h1 _ _ hv) h2) h3 hP hS hl)
theorem Tj.lload_n {M : MI} {pc pc' : Nat} {lv : List (Option tV)} {st : List tV} {m : tM} {P : Option tV → tM → Prop} {i : Fin 4} {x : Int64} (d : decode M.2.1 pc = .ok (.lload_n i, 1)) (hv : gl lv (i : Nat) = some (lV x)) (hp : pc + 1 = pc') (k : Tj M pc' lv (lV x :: st) m P) : Tj M pc lv st m P := by
  subst hp
  intro p l e s mid args below meth c H locs D cA ρ ls X h1 h2 h3 hP hS hl
  exact lv_lload_n X.1 X.2.1 d rfl (hl.2.2 _ _ hv) (k p l e s mid args below meth c H locs D cA ρ ls X h1 (tRs_cons trivial h2) h3 hP hS hl)
theorem Tj.lload {M : MI} {pc pc' : Nat} {lv : List (Option tV)} {st : List tV} {m : tM} {P : Option tV → tM → Prop} {i : Nat} {x : Int64} (d : decode M.2.1 pc = .ok (.lload i, 2)) (hv : gl lv i = some (lV x)) (hp : pc + 2 = pc') (k : Tj M pc' lv (lV x :: st) m P) : Tj M pc lv st m P := by
  subst hp
  intro p l e s mid args below meth c H locs D cA ρ ls X h1 h2 h3 hP hS hl
  exact lv_lload X.1 X.2.1 d (hl.2.2 _ _ hv) (k p l e s mid args below meth c H locs D cA ρ ls X h1 (tRs_cons trivial h2) h3 hP hS hl)
theorem Tj.aload_n {M : MI} {pc pc' : Nat} {lv : List (Option tV)} {st : List tV} {m : tM} {P : Option tV → tM → Prop} {i : Fin 4} {a : Nat} (d : decode M.2.1 pc = .ok (.aload_n i, 1)) (hv : gl lv (i : Nat) = some (rV a)) (hp : pc + 1 = pc') (k : Tj M pc' lv (rV a :: st) m P) : Tj M pc lv st m P := by
  subst hp
  intro p l e s mid args below meth c H locs D cA ρ ls X h1 h2 h3 hP hS hl
  exact lv_aload_n X.1 X.2.1 d rfl (hl.2.2 _ _ hv) (k p l e s mid args below meth c H locs D cA ρ ls X h1 (tRs_cons trivial h2) h3 hP hS hl)
theorem Tj.aload {M : MI} {pc pc' : Nat} {lv : List (Option tV)} {st : List tV} {m : tM} {P : Option tV → tM → Prop} {i : Nat} {a : Nat} (d : decode M.2.1 pc = .ok (.aload i, 2)) (hv : gl lv i = some (rV a)) (hp : pc + 2 = pc') (k : Tj M pc' lv (rV a :: st) m P) : Tj M pc lv st m P := by
  subst hp
  intro p l e s mid args below meth c H locs D cA ρ ls X h1 h2 h3 hP hS hl
  exact lv_aload X.1 X.2.1 d (hl.2.2 _ _ hv) (k p l e s mid args below meth c H locs D cA ρ ls X h1 (tRs_cons trivial h2) h3 hP hS hl)
def al : Nat → List (Option tV) → List (Nat × tV)
  | _, [] => []
  | i, none :: l => al (i + 1) l
  | i, some v :: l => (i, v) :: al (i + 1) l
theorem al_mem : ∀ (lv : List (Option tV)) (k i : Nat) (v : tV), gl lv i = some v ↔ (k + i, v) ∈ al k lv
  | [], k, i, v => by simp [gl, al]
  | none :: l, k, 0, v => by
    have h : ∀ (l : List (Option tV)) (a b : Nat) (v : tV), a < b → (a, v) ∉ al b l := by
      intro l
      induction l with
      | nil => intro a b v _ h; simp [al] at h
      | cons x l ih =>
        intro a b v hab h
        cases x with
        | none => exact ih a (b + 1) v (by omega) h
        | some w =>
          rcases List.mem_cons.mp h with h | h
          · cases h; omega
          · exact ih a (b + 1) v (by omega) h
    constructor
    · intro h; cases h
    · intro h2; exact absurd h2 (h l (k + 0) (k + 1) v (by omega))
  | some w :: l, k, 0, v => by
    have h : ∀ (l : List (Option tV)) (a b : Nat) (v : tV), a < b → (a, v) ∉ al b l := by
      intro l
      induction l with
      | nil => intro a b v _ h; simp [al] at h
      | cons x l ih =>
        intro a b v hab h
        cases x with
        | none => exact ih a (b + 1) v (by omega) h
        | some w =>
          rcases List.mem_cons.mp h with h | h
          · cases h; omega
          · exact ih a (b + 1) v (by omega) h
    constructor
    · intro h; cases h; exact List.mem_cons_self
    · intro h2
      rcases List.mem_cons.mp h2 with h2 | h2
      · cases h2; rfl
      · exact absurd h2 (h l (k + 0) (k + 1) v (by omega))
  | none :: l, k, i + 1, v => by
    show gl l i = some v ↔ (k + (i + 1), v) ∈ al (k + 1) l
    rw [al_mem l (k + 1) i v, show k + 1 + i = k + (i + 1) by omega]
  | some w :: l, k, i + 1, v => by
    show gl l i = some v ↔ (k + (i + 1), v) ∈ (k, w) :: al (k + 1) l
    rw [al_mem l (k + 1) i v, show k + 1 + i = k + (i + 1) by omega, List.mem_cons]
    constructor
    · exact Or.inr
    · rintro (h | h)
      · cases h
      · exact h
def alr (ρ : Nat → Nat) (lv : List (Option tV)) : List (Nat × Value) := (al 0 lv).map (fun q => (q.1, rv ρ q.2))
theorem tL_has {ρ : Nat → Nat} {ls : Array Slot} {n : Nat} {lv : List (Option tV)} (h : tL ρ ls n lv) : lv_has ls n (alr ρ lv) := by
  refine ⟨h.1, h.2.1, fun q hq => ?_⟩
  obtain ⟨⟨i, v⟩, h1, rfl⟩ := List.mem_map.mp hq
  exact h.2.2 i v ((al_mem lv 0 i v).mpr (by rw [Nat.zero_add]; exact h1))
theorem alr_mem {ρ : Nat → Nat} {lv : List (Option tV)} {i : Nat} {v : tV} (h : gl lv i = some v) : (i, rv ρ v) ∈ alr ρ lv := by
  have := (al_mem lv 0 i v).mp h
  rw [Nat.zero_add] at this
  exact List.mem_map.mpr ⟨(i, v), this, rfl⟩
theorem tL_s1 {ρ : Nat → Nat} {ls' : Array Slot} {n i : Nat} {lv : List (Option tV)} {v : tV} (hj : nJb lv i = true)
    (h : lv_has ls' n ((i, rv ρ v) :: (alr ρ lv).filter (fun q => !(q.1 == i) && !(q.1 + 1 == i && q.2.category == 2)))) : tL ρ ls' n (sl lv i v) := by
  refine ⟨h.1, h.2.1, fun j w hw => ?_⟩
  rw [gl_sl] at hw
  by_cases e : j = i
  · rw [if_pos e] at hw
    cases hw
    rw [e]
    exact h.2.2 _ List.mem_cons_self
  · rw [if_neg e] at hw
    refine h.2.2 (j, rv ρ w) (List.mem_cons_of_mem _ (List.mem_filter.mpr ⟨alr_mem hw, ?_⟩))
    show (!(j == i) && !(j + 1 == i && (rv ρ w).category == 2)) = true
    rw [tcat_eq]
    by_cases e2 : j + 1 = i
    · rw [nJb_ok hj e2 hw]
      simp [e]
    · simp [e, e2]
theorem tL_s2 {ρ : Nat → Nat} {ls' : Array Slot} {n i : Nat} {lv : List (Option tV)} {v : tV} (hj : nJb lv i = true)
    (h : lv_has ls' n ((i, rv ρ v) :: (alr ρ lv).filter (fun q => !(q.1 == i) && (!(q.1 == i + 1) && !(q.1 + 1 == i && q.2.category == 2))))) : tL ρ ls' n (kl (sl lv i v) (i + 1)) := by
  refine ⟨h.1, h.2.1, fun j w hw => ?_⟩
  rw [gl_kl] at hw
  by_cases e0 : j = i + 1
  · rw [if_pos e0] at hw
    cases hw
  rw [if_neg e0, gl_sl] at hw
  by_cases e : j = i
  · rw [if_pos e] at hw
    cases hw
    rw [e]
    exact h.2.2 _ List.mem_cons_self
  · rw [if_neg e] at hw
    refine h.2.2 (j, rv ρ w) (List.mem_cons_of_mem _ (List.mem_filter.mpr ⟨alr_mem hw, ?_⟩))
    show (!(j == i) && (!(j == i + 1) && !(j + 1 == i && (rv ρ w).category == 2))) = true
    rw [tcat_eq]
    by_cases e2 : j + 1 = i
    · rw [nJb_ok hj e2 hw]
      simp [e, e0]
    · simp [e, e0, e2]
theorem tRl_kl {lv : List (Option tV)} {i : Nat} (h : tRl lv) : tRl (kl lv i) := fun j w hj => by
  rw [gl_kl] at hj
  by_cases e : j = i
  · rw [if_pos e] at hj; cases hj
  · rw [if_neg e] at hj; exact h j w hj
theorem Tj.istore_n {M : MI} {pc pc' : Nat} {lv : List (Option tV)} {st : List tV} {m : tM} {P : Option tV → tM → Prop} {i : Fin 4} {n : Int} (d : decode M.2.1 pc = .ok (.istore_n i, 1)) (hi : (i : Nat) < M.2.2.1) (hj : nJb lv (i : Nat) = true) (hp : pc + 1 = pc') (k : Tj M pc' (sl lv (i : Nat) (iV n)) st m P) : Tj M pc lv (iV n :: st) m P := by
  subst hp
  intro p l e s mid args below meth c H locs D cA ρ ls X h1 h2 h3 hP hS hl
  exact lv_istore_n X.1 X.2.1 d rfl (tL_has hl) hi rfl (fun ls' hl' => k p l e s mid args below meth c H locs D cA ρ ls' X (tRl_sl h1 (tRs_hd h2)) (tRs_tl h2) h3 hP hS (tL_s1 hj hl'))
theorem Tj.istore {M : MI} {pc pc' : Nat} {lv : List (Option tV)} {st : List tV} {m : tM} {P : Option tV → tM → Prop} {i : Nat} {n : Int} (d : decode M.2.1 pc = .ok (.istore i, 2)) (hi : i < M.2.2.1) (hj : nJb lv i = true) (hp : pc + 2 = pc') (k : Tj M pc' (sl lv i (iV n)) st m P) : Tj M pc lv (iV n :: st) m P := by
  subst hp
  intro p l e s mid args below meth c H locs D cA ρ ls X h1 h2 h3 hP hS hl
  exact lv_istore X.1 X.2.1 d (tL_has hl) hi rfl (fun ls' hl' => k p l e s mid args below meth c H locs D cA ρ ls' X (tRl_sl h1 (tRs_hd h2)) (tRs_tl h2) h3 hP hS (tL_s1 hj hl'))
theorem Tj.astore_n {M : MI} {pc pc' : Nat} {lv : List (Option tV)} {st : List tV} {m : tM} {P : Option tV → tM → Prop} {i : Fin 4} {a : Nat} (d : decode M.2.1 pc = .ok (.astore_n i, 1)) (hi : (i : Nat) < M.2.2.1) (hj : nJb lv (i : Nat) = true) (hp : pc + 1 = pc') (k : Tj M pc' (sl lv (i : Nat) (rV a)) st m P) : Tj M pc lv (rV a :: st) m P := by
  subst hp
  intro p l e s mid args below meth c H locs D cA ρ ls X h1 h2 h3 hP hS hl
  exact lv_astore_n X.1 X.2.1 d rfl (tL_has hl) hi rfl (fun ls' hl' => k p l e s mid args below meth c H locs D cA ρ ls' X (tRl_sl h1 (tRs_hd h2)) (tRs_tl h2) h3 hP hS (tL_s1 hj hl'))
theorem Tj.astore {M : MI} {pc pc' : Nat} {lv : List (Option tV)} {st : List tV} {m : tM} {P : Option tV → tM → Prop} {i : Nat} {a : Nat} (d : decode M.2.1 pc = .ok (.astore i, 2)) (hi : i < M.2.2.1) (hj : nJb lv i = true) (hp : pc + 2 = pc') (k : Tj M pc' (sl lv i (rV a)) st m P) : Tj M pc lv (rV a :: st) m P := by
  subst hp
  intro p l e s mid args below meth c H locs D cA ρ ls X h1 h2 h3 hP hS hl
  exact lv_astore X.1 X.2.1 d (tL_has hl) hi rfl (fun ls' hl' => k p l e s mid args below meth c H locs D cA ρ ls' X (tRl_sl h1 (tRs_hd h2)) (tRs_tl h2) h3 hP hS (tL_s1 hj hl'))
theorem Tj.lstore_n {M : MI} {pc pc' : Nat} {lv : List (Option tV)} {st : List tV} {m : tM} {P : Option tV → tM → Prop} {i : Fin 4} {x : Int64} (d : decode M.2.1 pc = .ok (.lstore_n i, 1)) (hi : (i : Nat) + 1 < M.2.2.1) (hj : nJb lv (i : Nat) = true) (hp : pc + 1 = pc') (k : Tj M pc' (kl (sl lv (i : Nat) (lV x)) ((i : Nat) + 1)) st m P) : Tj M pc lv (lV x :: st) m P := by
  subst hp
  intro p l e s mid args below meth c H locs D cA ρ ls X h1 h2 h3 hP hS hl
  exact lv_lstore_n X.1 X.2.1 d rfl (tL_has hl) hi rfl (fun ls' hl' => k p l e s mid args below meth c H locs D cA ρ ls' X (tRl_kl (tRl_sl h1 trivial)) (tRs_tl h2) h3 hP hS (tL_s2 hj hl'))
theorem Tj.lstore {M : MI} {pc pc' : Nat} {lv : List (Option tV)} {st : List tV} {m : tM} {P : Option tV → tM → Prop} {i : Nat} {x : Int64} (d : decode M.2.1 pc = .ok (.lstore i, 2)) (hi : i + 1 < M.2.2.1) (hj : nJb lv i = true) (hp : pc + 2 = pc') (k : Tj M pc' (kl (sl lv i (lV x)) (i + 1)) st m P) : Tj M pc lv (lV x :: st) m P := by
  subst hp
  intro p l e s mid args below meth c H locs D cA ρ ls X h1 h2 h3 hP hS hl
  exact lv_lstore X.1 X.2.1 d (tL_has hl) hi rfl (fun ls' hl' => k p l e s mid args below meth c H locs D cA ρ ls' X (tRl_kl (tRl_sl h1 trivial)) (tRs_tl h2) h3 hP hS (tL_s2 hj hl'))
theorem Tj.iinc {M : MI} {pc pc' : Nat} {lv : List (Option tV)} {st : List tV} {m : tM} {P : Option tV → tM → Prop} {i : Nat} {n z : Int} (d : decode M.2.1 pc = .ok (.iinc i z, 3)) (hv : gl lv i = some (iV n)) (hi : i < M.2.2.1) (hj : nJb lv i = true) (hr : R32 (n + z)) (hp : pc + 3 = pc') (k : Tj M pc' (sl lv i (iV (n + z))) st m P) : Tj M pc lv st m P := by
  subst hp
  intro p l e s mid args below meth c H locs D cA ρ ls X h1 h2 h3 hP hS hl
  obtain ⟨q, hq⟩ := List.getElem?_of_mem (alr_mem (ρ := ρ) hv)
  exact lv_iinc X.1 X.2.1 d (tL_has hl) hq (v := Int32.ofInt (n + z)) (by rw [Int32.ofInt_add]) hi rfl (fun ls' hl' => k p l e s mid args below meth c H locs D cA ρ ls' X (tRl_sl h1 hr) h2 h3 hP hS (tL_s1 (v := iV (n + z)) hj hl'))
theorem Tj.iadd {M : MI} {pc pc' : Nat} {lv : List (Option tV)} {st : List tV} {m : tM} {P : Option tV → tM → Prop} {a b : Int} (d : decode M.2.1 pc = .ok (.iadd, 1)) (hr : R32 (a + b)) (hp : pc + 1 = pc') (k : Tj M pc' lv (iV (a + b) :: st) m P) : Tj M pc lv (iV b :: iV a :: st) m P := by
  subst hp
  exact Tj.op k (fun h => tRs_cons hr (tRs_tl (tRs_tl h))) (fun p l e R s mid args below meth c H locs Q ls ρ hx hb hown hts hR kk => lv_iadd hx hb d (by rw [← Int32.ofInt_add]; exact kk))
theorem Tj.isub {M : MI} {pc pc' : Nat} {lv : List (Option tV)} {st : List tV} {m : tM} {P : Option tV → tM → Prop} {a b : Int} (d : decode M.2.1 pc = .ok (.isub, 1)) (hr : R32 (a - b)) (hp : pc + 1 = pc') (k : Tj M pc' lv (iV (a - b) :: st) m P) : Tj M pc lv (iV b :: iV a :: st) m P := by
  subst hp
  exact Tj.op k (fun h => tRs_cons hr (tRs_tl (tRs_tl h))) (fun p l e R s mid args below meth c H locs Q ls ρ hx hb hown hts hR kk => lv_isub hx hb d (by rw [← Int32.ofInt_sub]; exact kk))
theorem Tj.imul {M : MI} {pc pc' : Nat} {lv : List (Option tV)} {st : List tV} {m : tM} {P : Option tV → tM → Prop} {a b : Int} (d : decode M.2.1 pc = .ok (.imul, 1)) (hr : R32 (a * b)) (hp : pc + 1 = pc') (k : Tj M pc' lv (iV (a * b) :: st) m P) : Tj M pc lv (iV b :: iV a :: st) m P := by
  subst hp
  exact Tj.op k (fun h => tRs_cons hr (tRs_tl (tRs_tl h))) (fun p l e R s mid args below meth c H locs Q ls ρ hx hb hown hts hR kk => lv_imul hx hb d (by rw [← Int32.ofInt_mul]; exact kk))
theorem Tj.ineg {M : MI} {pc pc' : Nat} {lv : List (Option tV)} {st : List tV} {m : tM} {P : Option tV → tM → Prop} {a : Int} (d : decode M.2.1 pc = .ok (.ineg, 1)) (hr : R32 (-a)) (hp : pc + 1 = pc') (k : Tj M pc' lv (iV (-a) :: st) m P) : Tj M pc lv (iV a :: st) m P := by
  subst hp
  exact Tj.op k (fun h => tRs_cons hr (tRs_tl h)) (fun p l e R s mid args below meth c H locs Q ls ρ hx hb hown hts hR kk => lv_ineg hx hb d (by rw [← Int32.ofInt_neg]; exact kk))
theorem Tj.idiv {M : MI} {pc pc' : Nat} {lv : List (Option tV)} {st : List tV} {m : tM} {P : Option tV → tM → Prop} {a b : Int} (d : decode M.2.1 pc = .ok (.idiv, 1)) (ha : 0 ≤ a) (h1 : 0 < b) (hp : pc + 1 = pc') (k : Tj M pc' lv (iV (a / b) :: st) m P) : Tj M pc lv (iV b :: iV a :: st) m P := by
  subst hp
  refine Tj.op k (fun h => tRs_cons ?_ (tRs_tl (tRs_tl h))) (fun p l e R s mid args below meth c H locs Q ls ρ hx hb hown hts hR kk => lv_idiv hx hb d (fun h => ?_) (by rw [ti_div (tRs_hd (tRs_tl hR)) ha (tRs_hd hR) h1]; exact kk))
  · have h2 : R32 a := tRs_hd (tRs_tl h)
    have hb : a / b ≤ a := Int.ediv_le_self b ha
    have hb0 : 0 ≤ a / b := Int.ediv_nonneg ha (by omega)
    exact ⟨by omega, by omega⟩
  · have h2 : R32 b := tRs_hd hR
    rw [← ti_0, ti_inj h2 (by decide)] at h
    omega
theorem Tj.irem {M : MI} {pc pc' : Nat} {lv : List (Option tV)} {st : List tV} {m : tM} {P : Option tV → tM → Prop} {a b : Int} (d : decode M.2.1 pc = .ok (.irem, 1)) (ha : 0 ≤ a) (h1 : 0 < b) (hp : pc + 1 = pc') (k : Tj M pc' lv (iV (a % b) :: st) m P) : Tj M pc lv (iV b :: iV a :: st) m P := by
  subst hp
  have he : a % b = a - a / b * b := by rw [Int.emod_def, Int.mul_comm]
  refine Tj.op k (fun h => tRs_cons ?_ (tRs_tl (tRs_tl h))) (fun p l e R s mid args below meth c H locs Q ls ρ hx hb hown hts hR kk => lv_irem hx hb d (fun h => ?_) (by rw [ti_div (tRs_hd (tRs_tl hR)) ha (tRs_hd hR) h1, ← Int32.ofInt_mul, ← Int32.ofInt_sub, ← he]; exact kk))
  · have h2 : R32 b := tRs_hd h
    have hb : a % b < b := Int.emod_lt_of_pos a h1
    have hb0 : 0 ≤ a % b := Int.emod_nonneg a (by omega)
    exact ⟨by omega, by omega⟩
  · have h2 : R32 b := tRs_hd hR
    rw [← ti_0, ti_inj h2 (by decide)] at h
    omega
theorem Tj.iand {M : MI} {pc pc' : Nat} {lv : List (Option tV)} {st : List tV} {m : tM} {P : Option tV → tM → Prop} {a b : Int} (d : decode M.2.1 pc = .ok (.iand, 1)) (hp : pc + 1 = pc') (k : Tj M pc' lv (iV (bAnd a b) :: st) m P) : Tj M pc lv (iV b :: iV a :: st) m P := by
  subst hp
  exact Tj.op k (fun h => tRs_cons (tr_of _) (tRs_tl (tRs_tl h))) (fun p l e R s mid args below meth c H locs Q ls ρ hx hb hown hts hR kk => lv_iand hx hb d (by rw [← ti_of (Int32.ofInt a &&& Int32.ofInt b)]; exact kk))
theorem Tj.ior {M : MI} {pc pc' : Nat} {lv : List (Option tV)} {st : List tV} {m : tM} {P : Option tV → tM → Prop} {a b : Int} (d : decode M.2.1 pc = .ok (.ior, 1)) (hp : pc + 1 = pc') (k : Tj M pc' lv (iV (bOr a b) :: st) m P) : Tj M pc lv (iV b :: iV a :: st) m P := by
  subst hp
  exact Tj.op k (fun h => tRs_cons (tr_of _) (tRs_tl (tRs_tl h))) (fun p l e R s mid args below meth c H locs Q ls ρ hx hb hown hts hR kk => lv_ior hx hb d (by rw [← ti_of (Int32.ofInt a ||| Int32.ofInt b)]; exact kk))
theorem Tj.ixor {M : MI} {pc pc' : Nat} {lv : List (Option tV)} {st : List tV} {m : tM} {P : Option tV → tM → Prop} {a b : Int} (d : decode M.2.1 pc = .ok (.ixor, 1)) (hp : pc + 1 = pc') (k : Tj M pc' lv (iV (bXor a b) :: st) m P) : Tj M pc lv (iV b :: iV a :: st) m P := by
  subst hp
  exact Tj.op k (fun h => tRs_cons (tr_of _) (tRs_tl (tRs_tl h))) (fun p l e R s mid args below meth c H locs Q ls ρ hx hb hown hts hR kk => lv_ixor hx hb d (by rw [← ti_of (Int32.ofInt a ^^^ Int32.ofInt b)]; exact kk))
theorem Tj.ishl {M : MI} {pc pc' : Nat} {lv : List (Option tV)} {st : List tV} {m : tM} {P : Option tV → tM → Prop} {a b : Int} (d : decode M.2.1 pc = .ok (.ishl, 1)) (hp : pc + 1 = pc') (k : Tj M pc' lv (iV (bShl a b) :: st) m P) : Tj M pc lv (iV b :: iV a :: st) m P := by
  subst hp
  exact Tj.op k (fun h => tRs_cons (tr_of _) (tRs_tl (tRs_tl h))) (fun p l e R s mid args below meth c H locs Q ls ρ hx hb hown hts hR kk => lv_ishl hx hb d (by rw [← ti_of (Int32.ofInt a <<< (Int32.ofInt b &&& 31))]; exact kk))
theorem Tj.ishr {M : MI} {pc pc' : Nat} {lv : List (Option tV)} {st : List tV} {m : tM} {P : Option tV → tM → Prop} {a b : Int} (d : decode M.2.1 pc = .ok (.ishr, 1)) (hp : pc + 1 = pc') (k : Tj M pc' lv (iV (bShr a b) :: st) m P) : Tj M pc lv (iV b :: iV a :: st) m P := by
  subst hp
  exact Tj.op k (fun h => tRs_cons (tr_of _) (tRs_tl (tRs_tl h))) (fun p l e R s mid args below meth c H locs Q ls ρ hx hb hown hts hR kk => lv_ishr hx hb d (by rw [← ti_of (Int32.ofInt a >>> (Int32.ofInt b &&& 31))]; exact kk))
theorem Tj.iushr {M : MI} {pc pc' : Nat} {lv : List (Option tV)} {st : List tV} {m : tM} {P : Option tV → tM → Prop} {a b : Int} (d : decode M.2.1 pc = .ok (.iushr, 1)) (hp : pc + 1 = pc') (k : Tj M pc' lv (iV (bUshr a b) :: st) m P) : Tj M pc lv (iV b :: iV a :: st) m P := by
  subst hp
  exact Tj.op k (fun h => tRs_cons (tr_of _) (tRs_tl (tRs_tl h))) (fun p l e R s mid args below meth c H locs Q ls ρ hx hb hown hts hR kk => lv_iushr hx hb d (v := Int32.ofInt (bUshr a b)) (ti_of _).symm kk)
theorem Tj.ladd {M : MI} {pc pc' : Nat} {lv : List (Option tV)} {st : List tV} {m : tM} {P : Option tV → tM → Prop} {x y : Int64} (d : decode M.2.1 pc = .ok (.ladd, 1)) (hp : pc + 1 = pc') (k : Tj M pc' lv (lV (x + y) :: st) m P) : Tj M pc lv (lV y :: lV x :: st) m P := by
  subst hp
  exact Tj.op k (fun h => tRs_cons trivial (tRs_tl (tRs_tl h))) (fun p l e R s mid args below meth c H locs Q ls ρ hx hb hown hts hR kk => lv_ladd hx hb d kk)
theorem Tj.lsub {M : MI} {pc pc' : Nat} {lv : List (Option tV)} {st : List tV} {m : tM} {P : Option tV → tM → Prop} {x y : Int64} (d : decode M.2.1 pc = .ok (.lsub, 1)) (hp : pc + 1 = pc') (k : Tj M pc' lv (lV (x - y) :: st) m P) : Tj M pc lv (lV y :: lV x :: st) m P := by
  subst hp
  exact Tj.op k (fun h => tRs_cons trivial (tRs_tl (tRs_tl h))) (fun p l e R s mid args below meth c H locs Q ls ρ hx hb hown hts hR kk => lv_lsub hx hb d kk)
theorem Tj.land {M : MI} {pc pc' : Nat} {lv : List (Option tV)} {st : List tV} {m : tM} {P : Option tV → tM → Prop} {x y : Int64} (d : decode M.2.1 pc = .ok (.land, 1)) (hp : pc + 1 = pc') (k : Tj M pc' lv (lV (x &&& y) :: st) m P) : Tj M pc lv (lV y :: lV x :: st) m P := by
  subst hp
  exact Tj.op k (fun h => tRs_cons trivial (tRs_tl (tRs_tl h))) (fun p l e R s mid args below meth c H locs Q ls ρ hx hb hown hts hR kk => lv_land hx hb d kk)
theorem Tj.lor {M : MI} {pc pc' : Nat} {lv : List (Option tV)} {st : List tV} {m : tM} {P : Option tV → tM → Prop} {x y : Int64} (d : decode M.2.1 pc = .ok (.lor, 1)) (hp : pc + 1 = pc') (k : Tj M pc' lv (lV (x ||| y) :: st) m P) : Tj M pc lv (lV y :: lV x :: st) m P := by
  subst hp
  exact Tj.op k (fun h => tRs_cons trivial (tRs_tl (tRs_tl h))) (fun p l e R s mid args below meth c H locs Q ls ρ hx hb hown hts hR kk => lv_lor hx hb d kk)
theorem Tj.lxor {M : MI} {pc pc' : Nat} {lv : List (Option tV)} {st : List tV} {m : tM} {P : Option tV → tM → Prop} {x y : Int64} (d : decode M.2.1 pc = .ok (.lxor, 1)) (hp : pc + 1 = pc') (k : Tj M pc' lv (lV (x ^^^ y) :: st) m P) : Tj M pc lv (lV y :: lV x :: st) m P := by
  subst hp
  exact Tj.op k (fun h => tRs_cons trivial (tRs_tl (tRs_tl h))) (fun p l e R s mid args below meth c H locs Q ls ρ hx hb hown hts hR kk => lv_lxor hx hb d kk)
theorem Tj.lneg {M : MI} {pc pc' : Nat} {lv : List (Option tV)} {st : List tV} {m : tM} {P : Option tV → tM → Prop} {x : Int64} (d : decode M.2.1 pc = .ok (.lneg, 1)) (hp : pc + 1 = pc') (k : Tj M pc' lv (lV (-x) :: st) m P) : Tj M pc lv (lV x :: st) m P := by
  subst hp
  exact Tj.op k (fun h => tRs_cons trivial (tRs_tl h)) (fun p l e R s mid args below meth c H locs Q ls ρ hx hb hown hts hR kk => lv_lneg hx hb d kk)
def bLshl (x : Int64) (n : Int) : Int64 := x <<< ((Int32.ofInt n).toInt64 &&& 63)
def bLshr (x : Int64) (n : Int) : Int64 := x >>> ((Int32.ofInt n).toInt64 &&& 63)
def bLushr (x : Int64) (n : Int) : Int64 := (x.toUInt64 >>> ((Int32.ofInt n).toInt64.toUInt64 &&& Int64.toUInt64 63)).toInt64
theorem Tj.lshl {M : MI} {pc pc' : Nat} {lv : List (Option tV)} {st : List tV} {m : tM} {P : Option tV → tM → Prop} {x : Int64} {n : Int} (d : decode M.2.1 pc = .ok (.lshl, 1)) (hp : pc + 1 = pc') (k : Tj M pc' lv (lV (bLshl x n) :: st) m P) : Tj M pc lv (iV n :: lV x :: st) m P := by
  subst hp
  exact Tj.op k (fun h => tRs_cons trivial (tRs_tl (tRs_tl h))) (fun p l e R s mid args below meth c H locs Q ls ρ hx hb hown hts hR kk => lv_lshl hx hb d rfl kk)
theorem Tj.lshr {M : MI} {pc pc' : Nat} {lv : List (Option tV)} {st : List tV} {m : tM} {P : Option tV → tM → Prop} {x : Int64} {n : Int} (d : decode M.2.1 pc = .ok (.lshr, 1)) (hp : pc + 1 = pc') (k : Tj M pc' lv (lV (bLshr x n) :: st) m P) : Tj M pc lv (iV n :: lV x :: st) m P := by
  subst hp
  exact Tj.op k (fun h => tRs_cons trivial (tRs_tl (tRs_tl h))) (fun p l e R s mid args below meth c H locs Q ls ρ hx hb hown hts hR kk => lv_lshr hx hb d rfl kk)
theorem Tj.lushr {M : MI} {pc pc' : Nat} {lv : List (Option tV)} {st : List tV} {m : tM} {P : Option tV → tM → Prop} {x : Int64} {n : Int} (d : decode M.2.1 pc = .ok (.lushr, 1)) (hp : pc + 1 = pc') (k : Tj M pc' lv (lV (bLushr x n) :: st) m P) : Tj M pc lv (iV n :: lV x :: st) m P := by
  subst hp
  exact Tj.op k (fun h => tRs_cons trivial (tRs_tl (tRs_tl h))) (fun p l e R s mid args below meth c H locs Q ls ρ hx hb hown hts hR kk => lv_lushr hx hb d rfl kk)
theorem Tj.lcmp {M : MI} {pc pc' : Nat} {lv : List (Option tV)} {st : List tV} {m : tM} {P : Option tV → tM → Prop} {x y : Int64} (d : decode M.2.1 pc = .ok (.lcmp, 1)) (hp : pc + 1 = pc') (k : Tj M pc' lv (iV (lcI x y) :: st) m P) : Tj M pc lv (lV y :: lV x :: st) m P := by
  subst hp
  exact Tj.op k (fun h => tRs_cons (lcI_r x y) (tRs_tl (tRs_tl h))) (fun p l e R s mid args below meth c H locs Q ls ρ hx hb hown hts hR kk => W.lcmp hx hb d (by rw [lcI_ok]; exact kk))
theorem Tj.i2l {M : MI} {pc pc' : Nat} {lv : List (Option tV)} {st : List tV} {m : tM} {P : Option tV → tM → Prop} {n : Int} (d : decode M.2.1 pc = .ok (.i2l, 1)) (hp : pc + 1 = pc') (k : Tj M pc' lv (lV (Int64.ofInt n) :: st) m P) : Tj M pc lv (iV n :: st) m P := by
  subst hp
  exact Tj.op k (fun h => tRs_cons trivial (tRs_tl h)) (fun p l e R s mid args below meth c H locs Q ls ρ hx hb hown hts hR kk => lv_i2l hx hb d (ti_i2l (tRs_hd hR)) kk)
theorem Tj.l2i {M : MI} {pc pc' : Nat} {lv : List (Option tV)} {st : List tV} {m : tM} {P : Option tV → tM → Prop} {x : Int64} (d : decode M.2.1 pc = .ok (.l2i, 1)) (hp : pc + 1 = pc') (k : Tj M pc' lv (iV x.toInt32.toInt :: st) m P) : Tj M pc lv (lV x :: st) m P := by
  subst hp
  exact Tj.op k (fun h => tRs_cons (tr_of _) (tRs_tl h)) (fun p l e R s mid args below meth c H locs Q ls ρ hx hb hown hts hR kk => lv_l2i hx hb d (v := Int32.ofInt x.toInt32.toInt) (ti_of _).symm kk)
theorem Tj.dup {M : MI} {pc pc' : Nat} {lv : List (Option tV)} {st : List tV} {m : tM} {P : Option tV → tM → Prop} {v : tV} (d : decode M.2.1 pc = .ok (.dup, 1)) (hv : tcat v = 1) (hp : pc + 1 = pc') (k : Tj M pc' lv (v :: v :: st) m P) : Tj M pc lv (v :: st) m P := by
  subst hp
  exact Tj.op k (fun h => tRs_cons (tRs_hd h) h) (fun p l e R s mid args below meth c H locs Q ls ρ hx hb hown hts hR kk => lv_dup hx hb d ((tcat_eq ρ v).trans hv) kk)
theorem Tj.pop {M : MI} {pc pc' : Nat} {lv : List (Option tV)} {st : List tV} {m : tM} {P : Option tV → tM → Prop} {v : tV} (d : decode M.2.1 pc = .ok (.pop, 1)) (hv : tcat v = 1) (hp : pc + 1 = pc') (k : Tj M pc' lv st m P) : Tj M pc lv (v :: st) m P := by
  subst hp
  exact Tj.op k (fun h => tRs_tl h) (fun p l e R s mid args below meth c H locs Q ls ρ hx hb hown hts hR kk => lv_pop hx hb d ((tcat_eq ρ v).trans hv) kk)
theorem Tj.dup2 {M : MI} {pc pc' : Nat} {lv : List (Option tV)} {st : List tV} {m : tM} {P : Option tV → tM → Prop} {v w : tV} (d : decode M.2.1 pc = .ok (.dup2, 1)) (hv : tcat v = 1) (hw : tcat w = 1) (hp : pc + 1 = pc') (k : Tj M pc' lv (v :: w :: v :: w :: st) m P) : Tj M pc lv (v :: w :: st) m P := by
  subst hp
  exact Tj.op k (fun h => tRs_cons (tRs_hd h) (tRs_cons (tRs_hd (tRs_tl h)) h)) (fun p l e R s mid args below meth c H locs Q ls ρ hx hb hown hts hR kk => lv_dup2_11 hx hb d ((tcat_eq ρ v).trans hv) ((tcat_eq ρ w).trans hw) kk)
theorem Tj.dup_x1 {M : MI} {pc pc' : Nat} {lv : List (Option tV)} {st : List tV} {m : tM} {P : Option tV → tM → Prop} {v w : tV} (d : decode M.2.1 pc = .ok (.dup_x1, 1)) (hv : tcat v = 1) (hw : tcat w = 1) (hp : pc + 1 = pc') (k : Tj M pc' lv (v :: w :: v :: st) m P) : Tj M pc lv (v :: w :: st) m P := by
  subst hp
  exact Tj.op k (fun h => tRs_cons (tRs_hd h) (tRs_cons (tRs_hd (tRs_tl h)) (tRs_cons (tRs_hd h) (tRs_tl (tRs_tl h))))) (fun p l e R s mid args below meth c H locs Q ls ρ hx hb hown hts hR kk => lv_dup_x1 hx hb d ((tcat_eq ρ v).trans hv) ((tcat_eq ρ w).trans hw) kk)
theorem Tj.goto {M : MI} {pc pc' : Nat} {lv : List (Option tV)} {st : List tV} {m : tM} {P : Option tV → tM → Prop} {off : Int} (d : decode M.2.1 pc = .ok (.goto off, 3)) (ht : (pc : Int) + off = (pc' : Int)) (k : Tj M pc' lv st m P) : Tj M pc lv st m P :=
  Tj.op k (fun h => h) (fun p l e R s mid args below meth c H locs Q ls ρ hx hb hown hts hR kk => lv_goto hx hb d ht kk)
theorem Tj.icmp_eq {M : MI} {pc pc' : Nat} {lv : List (Option tV)} {st : List tV} {m : tM} {P : Option tV → tM → Prop} {a b : Int} {off : Int} {tgt : Nat} (d : decode M.2.1 pc = .ok (.if_icmp .eq off, 3)) (ht : (pc : Int) + off = (tgt : Int)) (hp : pc + 3 = pc') (k1 : a = b → Tj M tgt lv st m P) (k2 : ¬ a = b → Tj M pc' lv st m P) : Tj M pc lv (iV b :: iV a :: st) m P := by
  subst hp
  intro p l e s mid args below meth c H locs D cA ρ ls X h1 h2 h3 hP hS hl
  have ra : R32 a := (tRs_hd (tRs_tl h2))
  have rb : R32 b := (tRs_hd h2)
  have j1 : a = b → _ := fun q => k1 q p l e s mid args below meth c H locs D cA ρ ls X h1 (tRs_tl (tRs_tl h2)) h3 hP hS hl
  have j2 : ¬ a = b → _ := fun q => k2 q p l e s mid args below meth c H locs D cA ρ ls X h1 (tRs_tl (tRs_tl h2)) h3 hP hS hl
  exact lv_icmp_eq X.1 X.2.1 d ht (fun q => j1 (by exact (ti_inj ra rb).mp q)) (fun q => j2 (fun q2 => q (by subst q2; rfl)))
theorem Tj.if_eq {M : MI} {pc pc' : Nat} {lv : List (Option tV)} {st : List tV} {m : tM} {P : Option tV → tM → Prop} {a : Int} {off : Int} {tgt : Nat} (d : decode M.2.1 pc = .ok (.ifCond .eq off, 3)) (ht : (pc : Int) + off = (tgt : Int)) (hp : pc + 3 = pc') (k1 : a = 0 → Tj M tgt lv st m P) (k2 : ¬ a = 0 → Tj M pc' lv st m P) : Tj M pc lv (iV a :: st) m P := by
  subst hp
  intro p l e s mid args below meth c H locs D cA ρ ls X h1 h2 h3 hP hS hl
  have ra : R32 a := (tRs_hd h2)
  have rb : R32 0 := (by decide : R32 0)
  have j1 : a = 0 → _ := fun q => k1 q p l e s mid args below meth c H locs D cA ρ ls X h1 (tRs_tl h2) h3 hP hS hl
  have j2 : ¬ a = 0 → _ := fun q => k2 q p l e s mid args below meth c H locs D cA ρ ls X h1 (tRs_tl h2) h3 hP hS hl
  exact lv_if_eq X.1 X.2.1 d ht (fun q => j1 (by rw [← ti_0] at q; exact (ti_inj ra rb).mp q)) (fun q => j2 (fun q2 => q (by subst q2; exact ti_0)))
theorem Tj.icmp_ne {M : MI} {pc pc' : Nat} {lv : List (Option tV)} {st : List tV} {m : tM} {P : Option tV → tM → Prop} {a b : Int} {off : Int} {tgt : Nat} (d : decode M.2.1 pc = .ok (.if_icmp .ne off, 3)) (ht : (pc : Int) + off = (tgt : Int)) (hp : pc + 3 = pc') (k1 : a = b → Tj M pc' lv st m P) (k2 : ¬ a = b → Tj M tgt lv st m P) : Tj M pc lv (iV b :: iV a :: st) m P := by
  subst hp
  intro p l e s mid args below meth c H locs D cA ρ ls X h1 h2 h3 hP hS hl
  have ra : R32 a := (tRs_hd (tRs_tl h2))
  have rb : R32 b := (tRs_hd h2)
  have j1 : a = b → _ := fun q => k1 q p l e s mid args below meth c H locs D cA ρ ls X h1 (tRs_tl (tRs_tl h2)) h3 hP hS hl
  have j2 : ¬ a = b → _ := fun q => k2 q p l e s mid args below meth c H locs D cA ρ ls X h1 (tRs_tl (tRs_tl h2)) h3 hP hS hl
  exact lv_icmp_ne X.1 X.2.1 d ht (fun q => j2 (fun q2 => q (by subst q2; rfl))) (fun q => j1 (by exact (ti_inj ra rb).mp q))
theorem Tj.if_ne {M : MI} {pc pc' : Nat} {lv : List (Option tV)} {st : List tV} {m : tM} {P : Option tV → tM → Prop} {a : Int} {off : Int} {tgt : Nat} (d : decode M.2.1 pc = .ok (.ifCond .ne off, 3)) (ht : (pc : Int) + off = (tgt : Int)) (hp : pc + 3 = pc') (k1 : a = 0 → Tj M pc' lv st m P) (k2 : ¬ a = 0 → Tj M tgt lv st m P) : Tj M pc lv (iV a :: st) m P := by
  subst hp
  intro p l e s mid args below meth c H locs D cA ρ ls X h1 h2 h3 hP hS hl
  have ra : R32 a := (tRs_hd h2)
  have rb : R32 0 := (by decide : R32 0)
  have j1 : a = 0 → _ := fun q => k1 q p l e s mid args below meth c H locs D cA ρ ls X h1 (tRs_tl h2) h3 hP hS hl
  have j2 : ¬ a = 0 → _ := fun q => k2 q p l e s mid args below meth c H locs D cA ρ ls X h1 (tRs_tl h2) h3 hP hS hl
  exact lv_if_ne X.1 X.2.1 d ht (fun q => j2 (fun q2 => q (by subst q2; exact ti_0))) (fun q => j1 (by rw [← ti_0] at q; exact (ti_inj ra rb).mp q))
theorem Tj.icmp_lt {M : MI} {pc pc' : Nat} {lv : List (Option tV)} {st : List tV} {m : tM} {P : Option tV → tM → Prop} {a b : Int} {off : Int} {tgt : Nat} (d : decode M.2.1 pc = .ok (.if_icmp .lt off, 3)) (ht : (pc : Int) + off = (tgt : Int)) (hp : pc + 3 = pc') (k1 : a < b → Tj M tgt lv st m P) (k2 : ¬ a < b → Tj M pc' lv st m P) : Tj M pc lv (iV b :: iV a :: st) m P := by
  subst hp
  intro p l e s mid args below meth c H locs D cA ρ ls X h1 h2 h3 hP hS hl
  have ra : R32 a := (tRs_hd (tRs_tl h2))
  have rb : R32 b := (tRs_hd h2)
  have j1 : a < b → _ := fun q => k1 q p l e s mid args below meth c H locs D cA ρ ls X h1 (tRs_tl (tRs_tl h2)) h3 hP hS hl
  have j2 : ¬ a < b → _ := fun q => k2 q p l e s mid args below meth c H locs D cA ρ ls X h1 (tRs_tl (tRs_tl h2)) h3 hP hS hl
  exact lv_icmp_lt X.1 X.2.1 d ht (fun q => j1 (by exact (ti_lt ra rb).mp q)) (fun q => j2 (fun q2 => q (by exact (ti_lt ra rb).mpr q2)))
theorem Tj.if_lt {M : MI} {pc pc' : Nat} {lv : List (Option tV)} {st : List tV} {m : tM} {P : Option tV → tM → Prop} {a : Int} {off : Int} {tgt : Nat} (d : decode M.2.1 pc = .ok (.ifCond .lt off, 3)) (ht : (pc : Int) + off = (tgt : Int)) (hp : pc + 3 = pc') (k1 : a < 0 → Tj M tgt lv st m P) (k2 : ¬ a < 0 → Tj M pc' lv st m P) : Tj M pc lv (iV a :: st) m P := by
  subst hp
  intro p l e s mid args below meth c H locs D cA ρ ls X h1 h2 h3 hP hS hl
  have ra : R32 a := (tRs_hd h2)
  have rb : R32 0 := (by decide : R32 0)
  have j1 : a < 0 → _ := fun q => k1 q p l e s mid args below meth c H locs D cA ρ ls X h1 (tRs_tl h2) h3 hP hS hl
  have j2 : ¬ a < 0 → _ := fun q => k2 q p l e s mid args below meth c H locs D cA ρ ls X h1 (tRs_tl h2) h3 hP hS hl
  exact lv_if_lt X.1 X.2.1 d ht (fun q => j1 (by rw [← ti_0] at q; exact (ti_lt ra rb).mp q)) (fun q => j2 (fun q2 => q (by rw [← ti_0]; exact (ti_lt ra rb).mpr q2)))
theorem Tj.icmp_ge {M : MI} {pc pc' : Nat} {lv : List (Option tV)} {st : List tV} {m : tM} {P : Option tV → tM → Prop} {a b : Int} {off : Int} {tgt : Nat} (d : decode M.2.1 pc = .ok (.if_icmp .ge off, 3)) (ht : (pc : Int) + off = (tgt : Int)) (hp : pc + 3 = pc') (k1 : a < b → Tj M pc' lv st m P) (k2 : ¬ a < b → Tj M tgt lv st m P) : Tj M pc lv (iV b :: iV a :: st) m P := by
  subst hp
  intro p l e s mid args below meth c H locs D cA ρ ls X h1 h2 h3 hP hS hl
  have ra : R32 a := (tRs_hd (tRs_tl h2))
  have rb : R32 b := (tRs_hd h2)
  have j1 : a < b → _ := fun q => k1 q p l e s mid args below meth c H locs D cA ρ ls X h1 (tRs_tl (tRs_tl h2)) h3 hP hS hl
  have j2 : ¬ a < b → _ := fun q => k2 q p l e s mid args below meth c H locs D cA ρ ls X h1 (tRs_tl (tRs_tl h2)) h3 hP hS hl
  exact lv_icmp_ge X.1 X.2.1 d ht (fun q => j2 (by have := (ti_le rb ra).mp q; omega)) (fun q => j1 (by have q3 : ¬ b ≤ a := fun q2 => q ((ti_le rb ra).mpr q2); omega))
theorem Tj.if_ge {M : MI} {pc pc' : Nat} {lv : List (Option tV)} {st : List tV} {m : tM} {P : Option tV → tM → Prop} {a : Int} {off : Int} {tgt : Nat} (d : decode M.2.1 pc = .ok (.ifCond .ge off, 3)) (ht : (pc : Int) + off = (tgt : Int)) (hp : pc + 3 = pc') (k1 : a < 0 → Tj M pc' lv st m P) (k2 : ¬ a < 0 → Tj M tgt lv st m P) : Tj M pc lv (iV a :: st) m P := by
  subst hp
  intro p l e s mid args below meth c H locs D cA ρ ls X h1 h2 h3 hP hS hl
  have ra : R32 a := (tRs_hd h2)
  have rb : R32 0 := (by decide : R32 0)
  have j1 : a < 0 → _ := fun q => k1 q p l e s mid args below meth c H locs D cA ρ ls X h1 (tRs_tl h2) h3 hP hS hl
  have j2 : ¬ a < 0 → _ := fun q => k2 q p l e s mid args below meth c H locs D cA ρ ls X h1 (tRs_tl h2) h3 hP hS hl
  exact lv_if_ge X.1 X.2.1 d ht (fun q => j2 (by rw [← ti_0] at q; have := (ti_le rb ra).mp q; omega)) (fun q => j1 (by rw [← ti_0] at q; have q3 : ¬ 0 ≤ a := fun q2 => q ((ti_le rb ra).mpr q2); omega))
theorem Tj.icmp_gt {M : MI} {pc pc' : Nat} {lv : List (Option tV)} {st : List tV} {m : tM} {P : Option tV → tM → Prop} {a b : Int} {off : Int} {tgt : Nat} (d : decode M.2.1 pc = .ok (.if_icmp .gt off, 3)) (ht : (pc : Int) + off = (tgt : Int)) (hp : pc + 3 = pc') (k1 : b < a → Tj M tgt lv st m P) (k2 : ¬ b < a → Tj M pc' lv st m P) : Tj M pc lv (iV b :: iV a :: st) m P := by
  subst hp
  intro p l e s mid args below meth c H locs D cA ρ ls X h1 h2 h3 hP hS hl
  have ra : R32 a := (tRs_hd (tRs_tl h2))
  have rb : R32 b := (tRs_hd h2)
  have j1 : b < a → _ := fun q => k1 q p l e s mid args below meth c H locs D cA ρ ls X h1 (tRs_tl (tRs_tl h2)) h3 hP hS hl
  have j2 : ¬ b < a → _ := fun q => k2 q p l e s mid args below meth c H locs D cA ρ ls X h1 (tRs_tl (tRs_tl h2)) h3 hP hS hl
  exact lv_icmp_gt X.1 X.2.1 d ht (fun q => j1 (by exact (ti_lt rb ra).mp q)) (fun q => j2 (fun q2 => q (by exact (ti_lt rb ra).mpr q2)))
theorem Tj.if_gt {M : MI} {pc pc' : Nat} {lv : List (Option tV)} {st : List tV} {m : tM} {P : Option tV → tM → Prop} {a : Int} {off : Int} {tgt : Nat} (d : decode M.2.1 pc = .ok (.ifCond .gt off, 3)) (ht : (pc : Int) + off = (tgt : Int)) (hp : pc + 3 = pc') (k1 : 0 < a → Tj M tgt lv st m P) (k2 : ¬ 0 < a → Tj M pc' lv st m P) : Tj M pc lv (iV a :: st) m P := by
  subst hp
  intro p l e s mid args below meth c H locs D cA ρ ls X h1 h2 h3 hP hS hl
  have ra : R32 a := (tRs_hd h2)
  have rb : R32 0 := (by decide : R32 0)
  have j1 : 0 < a → _ := fun q => k1 q p l e s mid args below meth c H locs D cA ρ ls X h1 (tRs_tl h2) h3 hP hS hl
  have j2 : ¬ 0 < a → _ := fun q => k2 q p l e s mid args below meth c H locs D cA ρ ls X h1 (tRs_tl h2) h3 hP hS hl
  exact lv_if_gt X.1 X.2.1 d ht (fun q => j1 (by rw [← ti_0] at q; exact (ti_lt rb ra).mp q)) (fun q => j2 (fun q2 => q (by rw [← ti_0]; exact (ti_lt rb ra).mpr q2)))
theorem Tj.icmp_le {M : MI} {pc pc' : Nat} {lv : List (Option tV)} {st : List tV} {m : tM} {P : Option tV → tM → Prop} {a b : Int} {off : Int} {tgt : Nat} (d : decode M.2.1 pc = .ok (.if_icmp .le off, 3)) (ht : (pc : Int) + off = (tgt : Int)) (hp : pc + 3 = pc') (k1 : b < a → Tj M pc' lv st m P) (k2 : ¬ b < a → Tj M tgt lv st m P) : Tj M pc lv (iV b :: iV a :: st) m P := by
  subst hp
  intro p l e s mid args below meth c H locs D cA ρ ls X h1 h2 h3 hP hS hl
  have ra : R32 a := (tRs_hd (tRs_tl h2))
  have rb : R32 b := (tRs_hd h2)
  have j1 : b < a → _ := fun q => k1 q p l e s mid args below meth c H locs D cA ρ ls X h1 (tRs_tl (tRs_tl h2)) h3 hP hS hl
  have j2 : ¬ b < a → _ := fun q => k2 q p l e s mid args below meth c H locs D cA ρ ls X h1 (tRs_tl (tRs_tl h2)) h3 hP hS hl
  exact lv_icmp_le X.1 X.2.1 d ht (fun q => j2 (by have := (ti_le ra rb).mp q; omega)) (fun q => j1 (by have q3 : ¬ a ≤ b := fun q2 => q ((ti_le ra rb).mpr q2); omega))
theorem Tj.if_le {M : MI} {pc pc' : Nat} {lv : List (Option tV)} {st : List tV} {m : tM} {P : Option tV → tM → Prop} {a : Int} {off : Int} {tgt : Nat} (d : decode M.2.1 pc = .ok (.ifCond .le off, 3)) (ht : (pc : Int) + off = (tgt : Int)) (hp : pc + 3 = pc') (k1 : 0 < a → Tj M pc' lv st m P) (k2 : ¬ 0 < a → Tj M tgt lv st m P) : Tj M pc lv (iV a :: st) m P := by
  subst hp
  intro p l e s mid args below meth c H locs D cA ρ ls X h1 h2 h3 hP hS hl
  have ra : R32 a := (tRs_hd h2)
  have rb : R32 0 := (by decide : R32 0)
  have j1 : 0 < a → _ := fun q => k1 q p l e s mid args below meth c H locs D cA ρ ls X h1 (tRs_tl h2) h3 hP hS hl
  have j2 : ¬ 0 < a → _ := fun q => k2 q p l e s mid args below meth c H locs D cA ρ ls X h1 (tRs_tl h2) h3 hP hS hl
  exact lv_if_le X.1 X.2.1 d ht (fun q => j2 (by rw [← ti_0] at q; have := (ti_le ra rb).mp q; omega)) (fun q => j1 (by rw [← ti_0] at q; have q3 : ¬ a ≤ 0 := fun q2 => q ((ti_le ra rb).mpr q2); omega))
theorem Tj.tsI {M : MI} {pc pc' : Nat} {lv : List (Option tV)} {st : List tV} {m : tM} {P : Option tV → tM → Prop} {n v : Int} {dflt lo hi off : Int} {offs : Array Int} {len : Nat} (d : decode M.2.1 pc = .ok (.tableswitch dflt lo hi offs, len)) (e : n = v) (h1 : lo ≤ v) (h2 : v ≤ hi) (ho : offs[(v - lo).toNat]? = some off) (ht : (pc : Int) + off = (pc' : Int)) (k : Tj M pc' lv st m P) : Tj M pc lv (iV n :: st) m P := by
  subst e
  exact Tj.op k (fun h => tRs_tl h) (fun p l e R s mid args below meth c H locs Q ls ρ hx hb hown hts hR kk => lv_tableIn hx hb d (by rw [ti (tRs_hd hR)]; omega) (by rw [ti (tRs_hd hR)]; omega) (by rw [ti (tRs_hd hR)]; exact ho) ht kk)
theorem Tj.tsO {M : MI} {pc pc' : Nat} {lv : List (Option tV)} {st : List tV} {m : tM} {P : Option tV → tM → Prop} {n : Int} {dflt lo hi : Int} {offs : Array Int} {len : Nat} (d : decode M.2.1 pc = .ok (.tableswitch dflt lo hi offs, len)) (he : n < lo ∨ hi < n) (ht : (pc : Int) + dflt = (pc' : Int)) (k : Tj M pc' lv st m P) : Tj M pc lv (iV n :: st) m P :=
  Tj.op k (fun h => tRs_tl h) (fun p l e R s mid args below meth c H locs Q ls ρ hx hb hown hts hR kk => lv_tableOut hx hb d (by rw [ti (tRs_hd hR)]; exact he) ht kk)
theorem Tj.lsw {M : MI} {pc pc' : Nat} {lv : List (Option tV)} {st : List tV} {m : tM} {P : Option tV → tM → Prop} {n : Int} {dflt off : Int} {ps : Array (Int × Int)} {len : Nat} (d : decode M.2.1 pc = .ok (.lookupswitch dflt ps, len)) (hs : (ps.toList.zip (ps.toList.drop 1)).all (fun (a, next) => a.1 < next.1) = true) (ho : Op.lookupswitch.offset ps.toList dflt n = off) (ht : (pc : Int) + off = (pc' : Int)) (k : Tj M pc' lv st m P) : Tj M pc lv (iV n :: st) m P :=
  Tj.op k (fun h => tRs_tl h) (fun p l e R s mid args below meth c H locs Q ls ρ hx hb hown hts hR kk => lv_lookup hx hb d hs (by rw [ti (tRs_hd hR)]; exact ho) ht kk)
