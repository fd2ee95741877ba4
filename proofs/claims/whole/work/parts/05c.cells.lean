/-! fields, arrays, static tables, copies, ends and calls -/
def FLD (own : String) (idx ci k kind : Nat) : Prop := ∃ q : vw_C, vwCl[ci]? = some q ∧ k < q.2.2 ∧ (∀ w ∈ u_ws q.1 q.2.1 q.2.2, w ∈ tg_tbl) ∧ Cond.fieldLink own idx q.1 (q.2.1 k).2.1 (q.2.1 k).2.2.1 ∈ tg_tbl ∧ (q.2.1 k).1 = q.1 ∧ (fkL.getD ci [])[k]? = some kind ∧ ci < 20 ∧ (fkL.getD ci []).length = q.2.2
def FLP (own : String) (idx ci k kind : Nat) : Prop := FLD own idx ci k kind ∧ ∃ q : vw_C, vwCl[ci]? = some q ∧ ∃ ty0 : Nat → FieldType, (∀ k, k < q.2.2 → parseFieldDescriptor (q.2.1 k).2.2.1 = some (ty0 k)) ∧ (∀ a, a < q.2.2 → ∀ b, b < q.2.2 → a ≠ b → (q.2.1 a).2.1 ≠ (q.2.1 b).2.1) ∧ (q.2.1 k).2.2.2 = false ∧ parseFieldDescriptor (q.2.1 k).2.2.1 = some (if kind = 0 then .int else .long)
section TJC
variable {M : MI} {pc pc' : Nat} {lv : List (Option tV)} {st : List tV} {m : tM} {P : Option tV → tM → Prop}
theorem Tj.getV {idx ci k kind a : Nat} {v : tV} (d : decode M.2.1 pc = .ok (.getfield idx, 3)) (f : FLD M.1.cls idx ci k kind) (hs : shp a = some (ci, 0)) (hr : M32 m → tR v) (hv : ∀ ρ, fv ρ a kind (m a (k : Int)) = rv ρ v) (hp : pc + 3 = pc') (kk : Tj M pc' lv (v :: st) m P) : Tj M pc lv (rV a :: st) m P := by
  subst hp
  intro p l e s mid args below meth c H locs D cA ρ ls X h1 h2 h3 hP hS hl
  obtain ⟨⟨C, T, N⟩, f1, f2, f3, f4, f5, f6, f7, f8⟩ := f
  have he := twd_get (cA := cA) (ρ := ρ) (m := m) hs
  rw [tel_o cA ρ a ci 0 (m a) f7] at he
  have hfs : (tfs ρ a (fkL.getD ci []) 0 (m a))[k]? = some (rv ρ v) := by
    rw [tfs_get, f6, Nat.zero_add]
    exact congrArg some (hv ρ)
  exact va_get X.1 X.2.1 X.2.2.2.2.2.1 f3 X.2.2.2.2.1 X.2.2.2.2.2.2.2.1 hP a he f1 k f2 (X.2.2.2.2.2.1 _ f4) (fun x hx => by rw [← f5]; exact hx) hfs d (kk p l e s mid args below meth c H locs D cA ρ ls X h1 (tRs_cons (hr h3) (tRs_tl h2)) h3 hP hS hl)
theorem tJ_f {a ci k : Nat} (hs : shp a = some (ci, 0)) (f6 : (fkL.getD ci [])[k]? = some 0) : tJ a (k : Int) = false := by
  unfold tJ
  rw [hs]
  show ((fkL.getD ci []).getD (k : Int).toNat 0 == 1) = false
  rw [Int.toNat_natCast, List.getD_eq_getElem?_getD, f6]
  rfl
theorem tJ_a {a n : Nat} (i : Int) (hs : shp a = some (20, n)) : tJ a i = false := by
  unfold tJ
  rw [hs]
  rfl
theorem tJ_z {a n : Nat} (i : Int) (hs : shp a = some (21, n)) : tJ a i = false := by
  unfold tJ
  rw [hs]
  rfl
theorem Tj.getI {idx ci k a : Nat} (d : decode M.2.1 pc = .ok (.getfield idx, 3)) (f : FLD M.1.cls idx ci k 0) (hs : shp a = some (ci, 0)) (hp : pc + 3 = pc') (kk : Tj M pc' lv (iV (m a (k : Int)) :: st) m P) : Tj M pc lv (rV a :: st) m P :=
  Tj.getV d f hs (fun h => by obtain ⟨q, -, -, -, -, -, f6, -⟩ := f; exact h a k (tJ_f hs f6)) (fun ρ => rfl) hp kk
theorem Tj.getJ {idx ci k a : Nat} (d : decode M.2.1 pc = .ok (.getfield idx, 3)) (f : FLD M.1.cls idx ci k 1) (hs : shp a = some (ci, 0)) (hp : pc + 3 = pc') (kk : Tj M pc' lv (lV (Int64.ofInt (m a (k : Int))) :: st) m P) : Tj M pc lv (rV a :: st) m P :=
  Tj.getV (v := lV (Int64.ofInt (m a (k : Int)))) d f hs (fun _ => trivial) (fun ρ => rfl) hp kk
theorem Tj.getR {idx ci k a b δ : Nat} (d : decode M.2.1 pc = .ok (.getfield idx, 3)) (f : FLD M.1.cls idx ci k (δ + 2)) (hs : shp a = some (ci, 0)) (hb : a + δ = b) (hp : pc + 3 = pc') (kk : Tj M pc' lv (rV b :: st) m P) : Tj M pc lv (rV a :: st) m P :=
  Tj.getV (v := rV b) d f hs (fun _ => trivial) (fun ρ => by subst hb; rfl) hp kk
theorem M32_sr {a : Nat} {r : Int → Int} (h : M32 m) (hr : ∀ i, tJ a i = false → R32 (r i)) : M32 (sr m a r) := by
  intro b i hb
  by_cases e : b = a
  · subst e
    rw [sr_eq]
    exact hr i hb
  · rw [sr_ne m r e]
    exact h b i hb
theorem Tj.putV {idx ci k kind a : Nat} {v : tV} {x : Int} (d : decode M.2.1 pc = .ok (.putfield idx, 3)) (f : FLP M.1.cls idx ci k kind) (hs : shp a = some (ci, 0)) (hk : kind = 0 ∨ kind = 1) (hv : ∀ ρ, fv ρ a kind x = rv ρ v) (hx : tR v → tJ a (k : Int) = false → R32 x) (hp : pc + 3 = pc') (kk : Tj M pc' lv st (up m a (k : Int) x) P) : Tj M pc lv (v :: rV a :: st) m P := by
  subst hp
  intro p l e s mid args below meth c H locs D cA ρ ls X h1 h2 h3 hP hS hl
  obtain ⟨⟨⟨C, T, N⟩, f1, f2, f3, f4, f5, f6, f7, f8⟩, ⟨C', T', N'⟩, g1, ty0, g2, g3, g4, g5⟩ := f
  have eq := Option.some.inj (g1.symm.trans f1)
  cases eq
  have he := twd_get (cA := cA) (ρ := ρ) (m := m) hs
  rw [tel_o cA ρ a ci 0 (m a) f7] at he
  have hT := X.2.2.2.2.2.2.2
  have hset : (twd cA ρ m).set a (ρ a, .inr (ci, (tfs ρ a (fkL.getD ci []) 0 (m a)).set k (rv ρ v))) = twd cA ρ (up m a (k : Int) x) := by
    rw [← twd_set hs, tel_o cA ρ a ci 0 _ f7, tfs_upd ρ a (m a) _ k kind x f6, hv ρ]
  have hn : narrow (if kind = 0 then FieldType.int else .long) (rv ρ v) = rv ρ v ∧ fits (if kind = 0 then FieldType.int else .long) (rv ρ v) = true := by
    rcases hk with rfl | rfl
    · rw [← hv ρ]; exact ⟨rfl, rfl⟩
    · rw [← hv ρ]; exact ⟨rfl, rfl⟩
  refine va_put X.1 X.2.1 X.2.2.2.2.2.1 f3 ty0 g2 g3 X.2.2.2.2.1 hT.1 hP (hT.2.1 m) hS a he f1 k f2 (X.2.2.2.2.2.1 _ f4) (fun x hx => by rw [← f5]; exact hx) g4 (v := rv ρ v) g5 hn.1 hn.2 (by rw [tfs_len, f8]; exact f2) d (fun H1 locs1 hP1 hD1 hS1 => ?_)
  rw [hset] at hP1
  exact kk p l e s mid args below meth c H1 locs1 D cA ρ ls X h1 (tRs_tl (tRs_tl h2)) (M32_sr h3 (fun i hi => by
    by_cases ei : i = (k : Int)
    · subst ei; rw [ur_eq]; exact hx (tRs_hd h2) hi
    · rw [ur_ne _ _ ei]; exact h3 a i hi)) hP1 hS1 hl
theorem Tj.putI {idx ci k a : Nat} {x : Int} (d : decode M.2.1 pc = .ok (.putfield idx, 3)) (f : FLP M.1.cls idx ci k 0) (hs : shp a = some (ci, 0)) (hp : pc + 3 = pc') (kk : Tj M pc' lv st (up m a (k : Int) x) P) : Tj M pc lv (iV x :: rV a :: st) m P :=
  Tj.putV d f hs (Or.inl rfl) (fun ρ => rfl) (fun h _ => h) hp kk
theorem Tj.putJ {idx ci k a : Nat} {x : Int64} (d : decode M.2.1 pc = .ok (.putfield idx, 3)) (f : FLP M.1.cls idx ci k 1) (hs : shp a = some (ci, 0)) (hj : tJ a (k : Int) = true) (hp : pc + 3 = pc') (kk : Tj M pc' lv st (up m a (k : Int) x.toInt) P) : Tj M pc lv (lV x :: rV a :: st) m P :=
  Tj.putV d f hs (Or.inr rfl) (fun ρ => by show Value.long _ = Value.long _; rw [Int64.ofInt_toInt]) (fun _ h => by rw [hj] at h; cases h) hp kk
theorem ix_cast {i : Int} (h : 0 ≤ i) : ((i.toNat : Nat) : Int) = i := Int.toNat_of_nonneg h
theorem Tj.iald {a n : Nat} {i : Int} (d : decode M.2.1 pc = .ok (.iaload, 1)) (hs : shp a = some (20, n)) (h0 : 0 ≤ i) (h1 : i < n) (hp : pc + 1 = pc') (kk : Tj M pc' lv (iV (m a i) :: st) m P) : Tj M pc lv (iV i :: rV a :: st) m P := by
  subst hp
  intro p l e s mid args below meth c H locs D cA ρ ls X h1' h2 h3 hP hS hl
  have ri : R32 i := tRs_hd h2
  have he := twd_get (cA := cA) (ρ := ρ) (m := m) hs
  rw [tel_20] at he
  refine va_iald X.1 X.2.1 X.2.2.2.2.2.2.2.1 hP a 0 he rfl (ti_in h0 h1 ri) d ?_
  rw [ti_cl h0 ri]
  show W _ _ _ _ _ _ _ _ _ _ _ _ _ _ _ (F0 _ _ _ (Value.int (Int32.ofInt (m a ((i.toNat : Nat) : Int))) :: _))
  rw [ix_cast h0]
  exact kk p l e s mid args below meth c H locs D cA ρ ls X h1' (tRs_cons (h3 a i (tJ_a i hs)) (tRs_tl (tRs_tl h2))) h3 hP hS hl
theorem Tj.zald {a n : Nat} {i : Int} (d : decode M.2.1 pc = .ok (.baload, 1)) (hs : shp a = some (21, n)) (h0 : 0 ≤ i) (h1 : i < n) (hp : pc + 1 = pc') (kk : Tj M pc' lv (iV (m a i) :: st) m P) : Tj M pc lv (iV i :: rV a :: st) m P := by
  subst hp
  intro p l e s mid args below meth c H locs D cA ρ ls X h1' h2 h3 hP hS hl
  have ri : R32 i := tRs_hd h2
  have he := twd_get (cA := cA) (ρ := ρ) (m := m) hs
  rw [tel_21] at he
  refine va_zald X.1 X.2.1 X.2.2.2.2.2.2.2.1 hP a 1 he rfl (ti_in h0 h1 ri) d ?_
  rw [ti_cl h0 ri]
  show W _ _ _ _ _ _ _ _ _ _ _ _ _ _ _ (F0 _ _ _ (Value.int (Int32.ofInt (m a ((i.toNat : Nat) : Int))) :: _))
  rw [ix_cast h0]
  exact kk p l e s mid args below meth c H locs D cA ρ ls X h1' (tRs_cons (h3 a i (tJ_z i hs)) (tRs_tl (tRs_tl h2))) h3 hP hS hl
theorem upd_ur (r : Int → Int) {i : Int} (h0 : 0 ≤ i) (x : Int) : upd (fun j : Nat => Int32.ofInt (r (j : Int))) i.toNat (Int32.ofInt x) = fun j : Nat => Int32.ofInt (ur r i x (j : Int)) := by
  funext j
  by_cases hj : j = i.toNat
  · subst hj
    rw [pk_us, ix_cast h0, ur_eq]
  · rw [pk_un hj, ur_ne r x (by omega)]
theorem Tj.iast {a n : Nat} {i x : Int} (d : decode M.2.1 pc = .ok (.iastore, 1)) (hs : shp a = some (20, n)) (h0 : 0 ≤ i) (h1 : i < n) (hp : pc + 1 = pc') (kk : Tj M pc' lv st (up m a i x) P) : Tj M pc lv (iV x :: iV i :: rV a :: st) m P := by
  subst hp
  intro p l e s mid args below meth c H locs D cA ρ ls X h1' h2 h3 hP hS hl
  have ri : R32 i := tRs_hd (tRs_tl h2)
  have rx : R32 x := tRs_hd h2
  have he := twd_get (cA := cA) (ρ := ρ) (m := m) hs
  rw [tel_20] at he
  have hT := X.2.2.2.2.2.2.2
  refine va_iast X.1 X.2.1 hT.1 hP (hT.2.1 m) hS a 0 he rfl (ti_in h0 h1 ri) d (fun H1 locs1 hP1 hD1 hS1 => ?_)
  rw [ti_cl h0 ri, upd_ur (m a) h0 x, ← tel_20 cA ρ a n (ur (m a) i x), twd_set hs] at hP1
  exact kk p l e s mid args below meth c H1 locs1 D cA ρ ls X h1' (tRs_tl (tRs_tl (tRs_tl h2))) (M32_sr h3 (fun j hj => by
    by_cases ei : j = i
    · subst ei; rw [ur_eq]; exact rx
    · rw [ur_ne _ _ ei]; exact h3 a j hj)) hP1 hS1 hl
theorem Tj.zast {a n : Nat} {i x : Int} (d : decode M.2.1 pc = .ok (.bastore, 1)) (hs : shp a = some (21, n)) (h0 : 0 ≤ i) (h1 : i < n) (hx : x = 0 ∨ x = 1) (hp : pc + 1 = pc') (kk : Tj M pc' lv st (up m a i x) P) : Tj M pc lv (iV x :: iV i :: rV a :: st) m P := by
  subst hp
  intro p l e s mid args below meth c H locs D cA ρ ls X h1' h2 h3 hP hS hl
  have ri : R32 i := tRs_hd (tRs_tl h2)
  have rx : R32 x := tRs_hd h2
  have he := twd_get (cA := cA) (ρ := ρ) (m := m) hs
  rw [tel_21] at he
  have hT := X.2.2.2.2.2.2.2
  have hn : vp_nar .boolean (Int32.ofInt x) = Int32.ofInt x := by
    rcases hx with rfl | rfl <;> decide +kernel
  refine va_zast X.1 X.2.1 hT.1 hP (hT.2.1 m) hS a 1 he rfl (ti_in h0 h1 ri) d (fun H1 locs1 hP1 hD1 hS1 => ?_)
  rw [hn, ti_cl h0 ri, upd_ur (m a) h0 x, ← tel_21 cA ρ a n (ur (m a) i x), twd_set hs] at hP1
  exact kk p l e s mid args below meth c H1 locs1 D cA ρ ls X h1' (tRs_tl (tRs_tl (tRs_tl h2))) (M32_sr h3 (fun j hj => by
    by_cases ei : j = i
    · subst ei; rw [ur_eq]; exact rx
    · rw [ur_ne _ _ ei]; exact h3 a j hj)) hP1 hS1 hl
theorem Tj.aald22 {a n b : Nat} {i : Int} (d : decode M.2.1 pc = .ok (.aaload, 1)) (hs : shp a = some (22, n)) (h0 : 0 ≤ i) (h1 : i < n) (hb : a + 1 + 9 * i.toNat = b) (hp : pc + 1 = pc') (kk : Tj M pc' lv (rV b :: st) m P) : Tj M pc lv (iV i :: rV a :: st) m P := by
  subst hp; subst hb
  intro p l e s mid args below meth c H locs D cA ρ ls X h1' h2 h3 hP hS hl
  have ri : R32 i := tRs_hd h2
  have he := twd_get (cA := cA) (ρ := ρ) (m := m) hs
  rw [tel_22] at he
  refine va_aldq X.1 X.2.1 X.2.2.2.2.2.2.2.1 hP a 2 he rfl (ti_in h0 h1 ri) d ?_
  rw [ti_cl h0 ri]
  exact kk p l e s mid args below meth c H locs D cA ρ ls X h1' (tRs_cons trivial (tRs_tl (tRs_tl h2))) h3 hP hS hl
theorem Tj.aald23 {a n b : Nat} {i : Int} (d : decode M.2.1 pc = .ok (.aaload, 1)) (hs : shp a = some (23, n)) (h0 : 0 ≤ i) (h1 : i < n) (hb : a + 1 + 4 * i.toNat = b) (hp : pc + 1 = pc') (kk : Tj M pc' lv (rV b :: st) m P) : Tj M pc lv (iV i :: rV a :: st) m P := by
  subst hp; subst hb
  intro p l e s mid args below meth c H locs D cA ρ ls X h1' h2 h3 hP hS hl
  have ri : R32 i := tRs_hd h2
  have he := twd_get (cA := cA) (ρ := ρ) (m := m) hs
  rw [tel_23] at he
  refine va_aldq X.1 X.2.1 X.2.2.2.2.2.2.2.1 hP a 3 he rfl (ti_in h0 h1 ri) d ?_
  rw [ti_cl h0 ri]
  exact kk p l e s mid args below meth c H locs D cA ρ ls X h1' (tRs_cons trivial (tRs_tl (tRs_tl h2))) h3 hP hS hl
theorem Tj.alen {a n : Nat} (d : decode M.2.1 pc = .ok (.arraylength, 1)) (hs : shp a = some (20, n)) (hn : n ≤ 2147483647) (hp : pc + 1 = pc') (kk : Tj M pc' lv (iV (n : Int) :: st) m P) : Tj M pc lv (rV a :: st) m P := by
  subst hp
  intro p l e s mid args below meth c H locs D cA ρ ls X h1' h2 h3 hP hS hl
  have he := twd_get (cA := cA) (ρ := ρ) (m := m) hs
  rw [tel_20] at he
  refine va_alen (v := Int32.ofInt (n : Int)) X.1 X.2.1 X.2.2.2.2.2.2.2.1 hP a 0 he rfl (by show Int32.ofNat n = _; rw [Int32.ofInt_eq_ofNat]) d ?_
  exact kk p l e s mid args below meth c H locs D cA ρ ls X h1' (tRs_cons (⟨by omega, by omega⟩ : R32 (n : Int)) (tRs_tl h2)) h3 hP hS hl
/-- a static table -/
theorem Tj.gets {idx a : Nat} {C n ds : String} {ty : FieldType} {N : Nat} {f : Nat → Value} (d : decode M.2.1 pc = .ok (.getstatic idx, 3)) (hl' : Cond.fieldLink M.1.cls idx C n ds ∈ tg_tbl) (hT : ∀ D cA ρ U, TW D cA ρ U → tSt C n ds ty a N f ρ U) (hp : pc + 3 = pc') (kk : Tj M pc' lv (rV a :: st) m P) : Tj M pc lv st m P := by
  subst hp
  intro p l e s mid args below meth c H locs D cA ρ ls X h1' h2 h3 hP hS hl
  exact va_gets X.1 X.2.1 (hT D cA ρ s X.2.2.2.2.2.2.2).1 hS X.2.2.2.2.1 (X.2.2.2.2.2.1 _ hl') (fun _ h => h) d (kk p l e s mid args below meth c H locs D cA ρ ls X h1' (tRs_cons trivial h2) h3 hP hS hl)
theorem tW_0 : ∀ D cA ρ U, TW D cA ρ U → tSt "CubeCarton$Body" "AROUND_CORNER" "[J" .long 1000 7 (fun j => .long (stL (j : Int))) ρ U := fun _ _ _ _ h => h.2.2.1
theorem tW_1 : ∀ D cA ρ U, TW D cA ρ U → tSt "CubeCarton$Skin" "LOOKS" "[I" .int 1001 24 (fun j => .int (Int32.ofInt (stI 1001 (j : Int)))) ρ U := fun _ _ _ _ h => h.2.2.2.1
theorem tW_2 : ∀ D cA ρ U, TW D cA ρ U → tSt "CubeCarton$Sheet" "STEP_X" "[I" .int 1002 4 (fun j => .int (Int32.ofInt (stI 1002 (j : Int)))) ρ U := fun _ _ _ _ h => h.2.2.2.2.1
theorem tW_3 : ∀ D cA ρ U, TW D cA ρ U → tSt "CubeCarton$Sheet" "STEP_Y" "[I" .int 1003 4 (fun j => .int (Int32.ofInt (stI 1003 (j : Int)))) ρ U := fun _ _ _ _ h => h.2.2.2.2.2
theorem list_r (l : List Int) (h : ∀ x ∈ l, R32 x) (n : Nat) : R32 (l.getD n 0) := by
  rw [List.getD_eq_getElem?_getD]
  cases hx : l[n]? with
  | none => decide
  | some x => exact h x (List.mem_of_getElem? hx)
theorem stI_r (a : Nat) (j : Int) : R32 (stI a j) := by
  unfold stI
  split
  · exact list_r _ (by decide) _
  · split
    · exact list_r _ (by decide) _
    · exact list_r _ (by decide) _
theorem Tj.sald {a N : Nat} {C n ds : String} {i : Int} (d : decode M.2.1 pc = .ok (.iaload, 1)) (hT : ∀ D cA ρ U, TW D cA ρ U → tSt C n ds .int a N (fun j => .int (Int32.ofInt (stI a (j : Int)))) ρ U) (h0 : 0 ≤ i) (h1 : i < N) (hp : pc + 1 = pc') (kk : Tj M pc' lv (iV (stI a i) :: st) m P) : Tj M pc lv (iV i :: rV a :: st) m P := by
  subst hp
  intro p l e s mid args below meth c H locs D cA ρ ls X h1' h2 h3 hP hS hl
  have ri : R32 i := tRs_hd h2
  exact va_ti X.1 X.2.1 (hT D cA ρ s X.2.2.2.2.2.2.2).2 hS (ti_in h0 h1 ri) (v := .int (Int32.ofInt (stI a i))) (by rw [ti_cl h0 ri, ix_cast h0]) d (kk p l e s mid args below meth c H locs D cA ρ ls X h1' (tRs_cons (stI_r a i) (tRs_tl (tRs_tl h2))) h3 hP hS hl)
theorem Tj.slald {i : Int} (d : decode M.2.1 pc = .ok (.laload, 1)) (h0 : 0 ≤ i) (h1 : i < 7) (hp : pc + 1 = pc') (kk : Tj M pc' lv (lV (stL i) :: st) m P) : Tj M pc lv (iV i :: rV 1000 :: st) m P := by
  subst hp
  intro p l e s mid args below meth c H locs D cA ρ ls X h1' h2 h3 hP hS hl
  have ri : R32 i := tRs_hd h2
  exact va_tl X.1 X.2.1 (tW_0 D cA ρ s X.2.2.2.2.2.2.2).2 hS (ti_in h0 h1 ri) (v := .long (stL i)) (by rw [ti_cl h0 ri, ix_cast h0]) d (kk p l e s mid args below meth c H locs D cA ρ ls X h1' (tRs_cons trivial (tRs_tl (tRs_tl h2))) h3 hP hS hl)
/-- System.arraycopy of ints -/
def cpr (f g : Int → Int) (sp dp n : Int) : Int → Int := fun j => if dp ≤ j ∧ j < dp + n then f (sp + (j - dp)) else g j
theorem Tj.copy {a b na nb idx : Nat} {sp dp n : Int} (d : decode M.2.1 pc = .ok (.invokestatic idx, 3)) (hl' : Cond.methodLink M.1.cls idx arraycopyName ∈ tg_tbl) (hc : (Cond.native arraycopyName ∈ tg_tbl) ∧ (Cond.static arraycopyName ∈ tg_tbl) ∧ Cond.initialized "java/lang/System" ∈ tg_tbl) (ha : shp a = some (20, na)) (hb : shp b = some (20, nb)) (h1 : 0 ≤ sp) (h2 : 0 ≤ dp) (h3 : 0 ≤ n) (h4 : sp + n ≤ na) (h5 : dp + n ≤ nb) (hroom : 1 ≤ M.2.2.2.2.1 ∧ (st.map tcat).sum + (5 + 2 + 11) ≤ M.2.2.2.2.2) (hp : pc + 3 = pc') (kk : Tj M pc' lv st (sr m b (cpr (m a) (m b) sp dp n)) P) : Tj M pc lv (iV n :: iV dp :: rV b :: iV sp :: rV a :: st) m P := by
  subst hp
  intro p l e s mid args below meth c H locs D cA ρ ls X q1 q2 q3 hP hS hl
  have rn : R32 n := tRs_hd q2
  have rd : R32 dp := tRs_hd (tRs_tl q2)
  have rs : R32 sp := tRs_hd (tRs_tl (tRs_tl (tRs_tl q2)))
  have hea := twd_get (cA := cA) (ρ := ρ) (m := m) ha
  have heb := twd_get (cA := cA) (ρ := ρ) (m := m) hb
  rw [tel_20] at hea heb
  have hT := X.2.2.2.2.2.2.2
  have hts := X.2.2.2.2.2.1
  have neg : ∀ {x : Int}, R32 x → 0 ≤ x → ¬ Int32.ofInt x < 0 := fun hr h0 h => by
    rw [← ti_0, ti_lt hr (by decide)] at h
    omega
  have hlen : (((st.map (rv ρ))).map fun v => v.category).sum = (st.map tcat).sum := by
    rw [List.map_map]
    exact congrArg List.sum (List.map_congr_left (fun v _ => tcat_eq ρ v))
  refine va_copyi X.1 X.2.1 (X.2.2.2.1.trans hl.1.symm) X.2.2.2.2.1 (hts _ hl') (hts _ hc.1) (hts _ hc.2.1) (hts _ hc.2.2) hT.1 hP (hT.2.1 m) hS a b 0 0 hea heb rfl rfl rfl (neg rs h1) (neg rd h2) (neg rn h3) (by rw [ti_cl h1 rs, ti_cl h3 rn]; omega) (by rw [ti_cl h2 rd, ti_cl h3 rn]; omega) (fun _ _ => rfl) hroom.1 (by rw [hlen]; exact hroom.2) d (fun H1 locs1 hP1 hD1 hS1 => ?_)
  have hcp : va_cpy (fun i : Nat => Int32.ofInt (m a (i : Int))) (fun i : Nat => Int32.ofInt (m b (i : Int))) (Int32.ofInt sp).toNatClampNeg (Int32.ofInt dp).toNatClampNeg (Int32.ofInt n).toNatClampNeg = fun i : Nat => Int32.ofInt (cpr (m a) (m b) sp dp n (i : Int)) := by
    funext j
    rw [ti_cl h1 rs, ti_cl h2 rd, ti_cl h3 rn]
    unfold va_cpy cpr
    by_cases hj : dp ≤ (j : Int) ∧ (j : Int) < dp + n
    · rw [if_pos hj, if_pos (by omega)]
      show Int32.ofInt (m a ((sp.toNat + (j - dp.toNat) : Nat) : Int)) = _
      rw [show ((sp.toNat + (j - dp.toNat) : Nat) : Int) = sp + ((j : Int) - dp) by omega]
    · rw [if_neg hj, if_neg (by omega)]
  rw [hcp, ← tel_20 cA ρ b nb (cpr (m a) (m b) sp dp n), twd_set hb] at hP1
  exact kk p l e s mid args below meth c H1 locs1 D cA ρ ls X q1 (tRs_tl (tRs_tl (tRs_tl (tRs_tl (tRs_tl q2))))) (M32_sr q3 (fun j hj => by
    unfold cpr
    split
    · exact q3 a _ (tJ_a _ ha)
    · exact q3 b _ hj)) hP1 hS1 hl
/-- ends -/
theorem Tj.iret {n : Int} (d : decode M.2.1 pc = .ok (.ireturn, 1)) (hr : M.2.2.2.1 = some .int) (h : P (some (iV n)) m) : Tj M pc lv [iV n] m P := by
  intro p l e s mid args below meth c H locs D cA ρ ls X h1 h2 h3 hP hS hl
  exact W.iret X.1 X.2.1 (X.2.2.1.trans hr) (fun t ht hW => ⟨⟨some (iV n), m, rfl, h, fun v hv => by cases hv; exact tRs_hd h2, h3, by rw [ht]; exact hP⟩, hS.F ht⟩) hS.2.2 d X.2.2.2.2.2.2.1
theorem Tj.zret {n : Int} (d : decode M.2.1 pc = .ok (.ireturn, 1)) (hr : M.2.2.2.1 = some .boolean) (hn : n = 0 ∨ n = 1) (h : P (some (iV n)) m) : Tj M pc lv [iV n] m P := by
  intro p l e s mid args below meth c H locs D cA ρ ls X h1 h2 h3 hP hS hl
  exact W.zret X.1 X.2.1 (X.2.2.1.trans hr) (by rcases hn with rfl | rfl <;> decide +kernel) (fun t ht hW => ⟨⟨some (iV n), m, rfl, h, fun v hv => by cases hv; exact tRs_hd h2, h3, by rw [ht]; exact hP⟩, hS.F ht⟩) hS.2.2 d X.2.2.2.2.2.2.1
theorem Tj.lret {x : Int64} (d : decode M.2.1 pc = .ok (.lreturn, 1)) (hr : M.2.2.2.1 = some .long) (h : P (some (lV x)) m) : Tj M pc lv [lV x] m P := by
  intro p l e s mid args below meth c H locs D cA ρ ls X h1 h2 h3 hP hS hl
  exact W.lret X.1 X.2.1 (X.2.2.1.trans hr) (fun t ht hW => ⟨⟨some (lV x), m, rfl, h, fun v hv => by cases hv; exact trivial, h3, by rw [ht]; exact hP⟩, hS.F ht⟩) hS.2.2 d X.2.2.2.2.2.2.1
theorem Tj.vret (d : decode M.2.1 pc = .ok (.return_, 1)) (hr : M.2.2.2.1 = none) (h : P none m) : Tj M pc lv [] m P := by
  intro p l e s mid args below meth c H locs D cA ρ ls X h1 h2 h3 hP hS hl
  exact W.vret X.1 X.2.1 (X.2.2.1.trans hr) (fun t ht hW => ⟨⟨none, m, rfl, h, (fun v hv => by cases hv), h3, by rw [ht]; exact hP⟩, hS.F ht⟩) hS.2.2 d X.2.2.2.2.2.2.1
end TJC
