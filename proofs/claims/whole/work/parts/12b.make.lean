/-! constructors: making cells, writing to them, calls -/
def NEWc (own : String) (idx ci N : Nat) : Prop := ∃ q : vw_C, vwCl[ci]? = some q ∧ q.2.2 = N ∧ (∀ w ∈ u_ws q.1 q.2.1 q.2.2, w ∈ tg_tbl) ∧ Cond.classLink own idx q.1 ∈ tg_tbl ∧ Cond.instantiable q.1 N ∈ tg_tbl ∧ Cond.initialized q.1 ∈ tg_tbl ∧ ∃ ty0 : Nat → FieldType, (∀ k, k < N → parseFieldDescriptor (q.2.1 k).2.2.1 = some (ty0 k)) ∧ ∀ j, j < N → defaultValue (ty0 j) = vp_V (dfl (fkL.getD ci [])) j
def FPF (own : String) (idx ci k : Nat) : Prop := ∃ q : vw_C, vwCl[ci]? = some q ∧ k < q.2.2 ∧ (∀ w ∈ u_ws q.1 q.2.1 q.2.2, w ∈ tg_tbl) ∧ Cond.fieldLink own idx q.1 (q.2.1 k).2.1 (q.2.1 k).2.2.1 ∈ tg_tbl ∧ (q.2.1 k).1 = own ∧ q.1 = own ∧ (q.2.1 k).2.2.2 = true ∧ (∃ ty0 : Nat → FieldType, (∀ k, k < q.2.2 → parseFieldDescriptor (q.2.1 k).2.2.1 = some (ty0 k))) ∧ (∀ a, a < q.2.2 → ∀ b, b < q.2.2 → a ≠ b → (q.2.1 a).2.1 ≠ (q.2.1 b).2.1) ∧ ∃ ty : FieldType, parseFieldDescriptor (q.2.1 k).2.2.1 = some ty ∧ ∀ a : Nat, narrow ty (.ref a) = .ref a ∧ fits ty (.ref a) = true
theorem map_set_rvo (h0 : Nat) (fs : List (Option tV)) (k : Nat) (v : tV) : (fs.set k (some v)).map (rvo h0) = (fs.map (rvo h0)).set k (rv (rho0 h0) v) := by
  rw [List.map_set]; rfl
section CJ2
variable {M : MI} {mc ms pc pc' : Nat} {lv : List (Option tV)} {st : List tV} {w : List cC} {k n : Nat} {P : Option tV → List cC → Prop}
theorem Cj.new {idx ci N : Nat} (d : decode M.2.1 pc = .ok (.new idx, 3)) (f : NEWc M.1.cls idx ci N) (hk : k + 1 ≤ mc) (hn : n + N ≤ ms) (hp : pc + 3 = pc') (kk : Cj M mc ms pc' lv (rV w.length :: st) (w ++ [bobj ci]) (k + 1) (n + N) P) : Cj M mc ms pc lv st w k n P := by
  subst hp
  intro p l e s mid args below meth c H locs D cA h0 ls X hC hS hl
  obtain ⟨⟨C, T, N'⟩, f1, rfl, f3, f4, f5, f6, ty0, g1, g2⟩ := f
  have hts := X.2.2.2.2.2.1
  have hKn := X.2.2.2.2.2.2.2.2.1.1 ci _ f1
  refine W.newcK X.1 X.2.1 X.2.2.2.2.1 (hts _ f4) (hts _ f5) (hts _ f6) rfl d hk hn hKn.2.1 hC.1 (fun H1 kC hkC e1 z1 o1 => ?_)
  have hS1 : va_S (fun q => h0 ≤ q) s.heap H1 locs := ⟨Nat.le_trans hS.1 (by rw [z1, hC.1]; omega), fun x h1 h2 => (o1 x (by have := hS.1; rw [hC.1] at this; omega)).trans (hS.2.1 x h1 h2), hS.2.2⟩
  refine kk p l e s mid args below meth c H1 locs D cA h0 ls X (hC.push z1 o1 ⟨_, f1, (u_born ty0 hts f3 hKn hkC e1 g1).to (fun j hj => ?_)⟩) hS1 hl
  show defaultValue (ty0 j) = vp_V ((bfs (fkL.getD ci [])).map (rvo h0)) j
  rw [bfs_map]
  exact g2 j hj
theorem neg32 {x : Int} (hr : R32 x) (h0 : 0 ≤ x) : ¬ Int32.ofInt x < 0 := fun h => by
  rw [← ti_0, ti_lt hr (by decide)] at h
  omega
theorem Cj.newi {N : Nat} (d : decode M.2.1 pc = .ok (.newarray .int, 2)) (fa : Cond.arrayClass .int ∈ tg_tbl) (hN : N ≤ 100000) (hk : k + 1 ≤ mc) (hn : n + N ≤ ms) (hp : pc + 2 = pc') (kk : Cj M mc ms pc' lv (rV w.length :: st) (w ++ [.inr (.inl (0, N, fun _ => 0))]) (k + 1) (n + N) P) : Cj M mc ms pc lv (iV (N : Int) :: st) w k n P := by
  subst hp
  intro p l e s mid args below meth c H locs D cA h0 ls X hC hS hl
  have hts := X.2.2.2.2.2.1
  have hKa := X.2.2.2.2.2.2.2.2.1.2 0 (cA 0, .int) rfl
  have hr : R32 (N : Int) := by constructor <;> omega
  refine va_newaK (atype := .int) X.1 X.2.1 (hts _ fa) rfl d rfl (neg32 hr (by omega)) (N := N) (by rw [ti_cl (by omega) hr]; omega) (by show N * 4 ≤ _; omega) hk hn hC.1 (fun H1 cA' e1 z1 o1 hAr hNm => ?_)
  have ec : cA' = cA 0 := Option.some.inj (hNm.symm.trans hKa.2)
  subst ec
  have hS1 : va_S (fun q => h0 ≤ q) s.heap H1 locs := ⟨Nat.le_trans hS.1 (by rw [z1, hC.1]; omega), fun x h1 h2 => (o1 x (by have := hS.1; rw [hC.1] at this; omega)).trans (hS.2.1 x h1 h2), hS.2.2⟩
  refine kk p l e s mid args below meth c H1 locs D cA h0 ls X (hC.push z1 o1 ?_) hS1 hl
  show H1[h0 + w.length]? = some (arrV (cA 0) N (fun _ => .int (Int32.ofInt 0)))
  rw [ti_0]
  exact e1
theorem Cj.newz {N : Nat} (d : decode M.2.1 pc = .ok (.newarray .boolean, 2)) (fa : Cond.arrayClass .boolean ∈ tg_tbl) (hN : N ≤ 100000) (hk : k + 1 ≤ mc) (hn : n + N ≤ ms) (hp : pc + 2 = pc') (kk : Cj M mc ms pc' lv (rV w.length :: st) (w ++ [.inr (.inl (1, N, fun _ => 0))]) (k + 1) (n + N) P) : Cj M mc ms pc lv (iV (N : Int) :: st) w k n P := by
  subst hp
  intro p l e s mid args below meth c H locs D cA h0 ls X hC hS hl
  have hts := X.2.2.2.2.2.1
  have hKa := X.2.2.2.2.2.2.2.2.1.2 1 (cA 1, .boolean) rfl
  have hr : R32 (N : Int) := by constructor <;> omega
  refine va_newaK (atype := .boolean) X.1 X.2.1 (hts _ fa) rfl d rfl (neg32 hr (by omega)) (N := N) (by rw [ti_cl (by omega) hr]; omega) (by show N * 1 ≤ _; omega) hk hn hC.1 (fun H1 cA' e1 z1 o1 hAr hNm => ?_)
  have ec : cA' = cA 1 := Option.some.inj (hNm.symm.trans hKa.2)
  subst ec
  have hS1 : va_S (fun q => h0 ≤ q) s.heap H1 locs := ⟨Nat.le_trans hS.1 (by rw [z1, hC.1]; omega), fun x h1 h2 => (o1 x (by have := hS.1; rw [hC.1] at this; omega)).trans (hS.2.1 x h1 h2), hS.2.2⟩
  refine kk p l e s mid args below meth c H1 locs D cA h0 ls X (hC.push z1 o1 ?_) hS1 hl
  show H1[h0 + w.length]? = some (arrV (cA 1) N (fun _ => .int (Int32.ofInt 0)))
  rw [ti_0]
  exact e1
theorem Cj.newq {idx kq N : Nat} {C : String} (d : decode M.2.1 pc = .ok (.anewarray idx, 3)) (fl : Cond.classLink M.1.cls idx C ∈ tg_tbl) (hkq : (kq = 2 ∧ C = RX0) ∨ (kq = 3 ∧ C = RX8)) (hN : N ≤ 100000) (hk : k + 1 ≤ mc) (hn : n + N ≤ ms) (hp : pc + 3 = pc') (kk : Cj M mc ms pc' lv (rV w.length :: st) (w ++ [.inr (.inr (kq, N, fun _ => none))]) (k + 1) (n + N) P) : Cj M mc ms pc lv (iV (N : Int) :: st) w k n P := by
  subst hp
  intro p l e s mid args below meth c H locs D cA h0 ls X hC hS hl
  have hts := X.2.2.2.2.2.1
  have hr : R32 (N : Int) := by constructor <;> omega
  have hao : (Cond.arrayOver (.object C)).before args s = true := by
    rcases hkq with ⟨-, rfl⟩ | ⟨-, rfl⟩
    · exact va_AO.use X.2.2.2.2.2.2.2.2.2.1
    · exact va_AO.use X.2.2.2.2.2.2.2.2.2.2
  have hfc : s.vm.findClass ("[" ++ (FieldType.object C).toString) = some (cA kq) := by
    rcases hkq with ⟨rfl, rfl⟩ | ⟨rfl, rfl⟩
    · obtain ⟨-, -, -, -, -, h⟩ := (X.2.2.2.2.2.2.2.2.1.2 2 (cA 2, .object RX0) rfl).2
      exact h
    · obtain ⟨-, -, -, -, -, h⟩ := (X.2.2.2.2.2.2.2.2.1.2 3 (cA 3, .object RX8) rfl).2
      exact h
  have hcl : (Int32.ofInt (N : Int)).toNatClampNeg = N := by rw [ti_cl (by omega) hr]; omega
  refine W.anew X.1 X.2.1 X.2.2.2.2.1 (hts _ fl) hao rfl d rfl (neg32 hr (by omega)) (by rw [hcl]; omega) hk (by rw [hcl]; exact hn) (fun cA' kA comp f1 f2 f3 f4 => ?_)
  have ec : cA' = cA kq := Option.some.inj (f1.symm.trans hfc)
  subst ec
  rw [hcl, arrV_new]
  generalize hH1 : H.push (arrV (cA kq) N (fun _ => .null)) = H1
  have z1 : H1.size = h0 + w.length + 1 := by rw [← hH1, Array.size_push, hC.1]
  have o1 : ∀ q, q < h0 + w.length → H1[q]? = H[q]? := fun q hq => by rw [← hH1, Array.getElem?_push, if_neg (by rw [hC.1]; omega)]
  have hS1 : va_S (fun q => h0 ≤ q) s.heap H1 locs := ⟨Nat.le_trans hS.1 (by rw [z1, hC.1]; omega), fun x h1 h2 => (o1 x (by have := hS.1; rw [hC.1] at this; omega)).trans (hS.2.1 x h1 h2), hS.2.2⟩
  have := kk p l e s mid args below meth c H1 locs D cA h0 ls X (hC.push z1 o1 (by
    show H1[h0 + w.length]? = some (arrV (cA kq) N (fun _ => .null))
    rw [← hH1, ← hC.1, Array.getElem?_push_size])) hS1 hl
  rw [hC.1]
  exact this
/-- a field of a reference, in its constructor -/
theorem Cj.putF {idx ci kf a b : Nat} {fs : List (Option tV)} (d : decode M.2.1 pc = .ok (.putfield idx, 3)) (f : FPF M.1.cls idx ci kf) (hin : M.1.name = "<init>") (hw : w[a]? = some (.inl (ci, fs))) (hl' : kf < fs.length) (hp : pc + 3 = pc') (kk : Cj M mc ms pc' lv st (w.set a (.inl (ci, fs.set kf (some (rV b))))) k n P) : Cj M mc ms pc lv (rV b :: rV a :: st) w k n P := by
  subst hp
  intro p l e s mid args below meth c H locs D cA h0 ls X hC hS hl
  obtain ⟨⟨C, T, N⟩, f1, f2, f3, f4, f5, f6, f7, ⟨ty0, g1⟩, g2, ty, g3, g4⟩ := f
  have hts := X.2.2.2.2.2.1
  have hK := X.2.2.2.2.2.2.2.2.1
  have hown := X.2.2.2.2.1
  obtain ⟨r, h1, cell, q1, q2, q3, q4⟩ := hC.2 a _ hw
  have hr : r = (C, T, N) := Option.some.inj (h1.symm.trans f1)
  subst hr
  have hap := va_apart (own := M.1.cls) hts f3 ty0 g1 g2 hK f1
  obtain ⟨hSl, hfc, kC, hkC, hkind⟩ := hK.1 ci _ f1
  obtain ⟨cf, kf', fi, fd, hi, hsl⟩ := hSl kf f2
  have hlay := hts _ (f3 _ (u_in_lay f2))
  unfold u_lay at hlay
  rw [if_pos f7] at hlay
  have hst := (u_facts hfc hkC (u_lays hts f3 f2) hi).1
  have hcf : mid.cls = cf := by
    obtain ⟨_, _, c', _, _, _, -, -, hf', -, -, -, hown2, -⟩ := Cond.laysFinal_spec hlay
    have e1 : c' = cf := by have := hi.symm.trans hf'; simp at this; exact this.1.symm
    rw [f5] at hown2
    rw [← e1]; exact Option.some.inj (hown.symm.trans hown2)
  have h6 := u_fits hfc hkC hkind (Or.inr hlay) hi g3 (g4 (h0 + b)).1 (g4 (h0 + b)).2
  have hi2 : s.fieldFound? C (T kf).2.1 (T kf).2.2.1 = some (cf, kf', fi, fd) := by
    have e : C = (T kf).1 := by rw [f5]; exact f6
    rw [e]; exact hi
  refine W.putFinK X.1 X.2.1 hown (hts _ f4) hi2 hst hcf (X.2.2.2.2.2.2.2.1.trans hin) (v := .ref (h0 + b)) (by rw [q2]; exact h6) q1 q3 (by rw [hsl]; exact k2_hasslot (q4 kf f2)) rfl rfl d fun H' e1 e2 e3 => ?_
  rw [hsl] at e1 ⊢
  refine kk p l e s mid args below meth c H' _ D cA h0 ls X (hC.set hw e2 e3 ⟨_, f1, t_OB.to (V := updV (vp_V (fs.map (rvo h0))) kf (.ref (h0 + b))) ⟨_, e1, q2, q3, t_set q4 hap f2 (.ref (h0 + b))⟩ (fun j _ => ?_)⟩) (hS.put e2 e3 (by show h0 ≤ h0 + a; omega)) hl
  rw [vp_updV_set (by rw [List.length_map]; exact hl')]
  show vp_V ((fs.map (rvo h0)).set kf (.ref (h0 + b))) j = vp_V ((fs.set kf (some (rV b))).map (rvo h0)) j
  rw [map_set_rvo]
  rfl
/-- a field of a number -/
theorem Cj.putI {idx ci kf kind a : Nat} {v : tV} {fs : List (Option tV)} (d : decode M.2.1 pc = .ok (.putfield idx, 3)) (f : FLP M.1.cls idx ci kf kind) (hv : (kind = 0 ∧ ∃ x, v = iV x) ∨ (kind = 1 ∧ ∃ x, v = lV x)) (hw : w[a]? = some (.inl (ci, fs))) (hl' : kf < fs.length) (hp : pc + 3 = pc') (kk : Cj M mc ms pc' lv st (w.set a (.inl (ci, fs.set kf (some v)))) k n P) : Cj M mc ms pc lv (v :: rV a :: st) w k n P := by
  subst hp
  intro p l e s mid args below meth c H locs D cA h0 ls X hC hS hl
  obtain ⟨⟨⟨C, T, N⟩, f1, f2, f3, f4, f5, f6, f7, f8⟩, ⟨C', T', N'⟩, g1, ty0, g2, g3, g4, g5⟩ := f
  have eq := Option.some.inj (g1.symm.trans f1)
  cases eq
  have hts := X.2.2.2.2.2.1
  have hK := X.2.2.2.2.2.2.2.2.1
  have hown := X.2.2.2.2.1
  obtain ⟨r, h1, cell, q1, q2, q3, q4⟩ := hC.2 a _ hw
  have hr : r = (C, T, N) := Option.some.inj (h1.symm.trans f1)
  subst hr
  have hap := va_apart (own := M.1.cls) hts f3 ty0 g2 g3 hK f1
  obtain ⟨hSl, hfc, kC, hkC, hkind⟩ := hK.1 ci _ f1
  obtain ⟨cf, kf', fi, fd, hi, hsl⟩ := hSl kf f2
  have hlay := hts _ (f3 _ (u_in_lay f2))
  unfold u_lay at hlay
  rw [if_neg (by rw [g4]; decide)] at hlay
  have hst := (u_facts hfc hkC (u_lays hts f3 f2) hi).1
  have hn : narrow (if kind = 0 then FieldType.int else .long) (rv (rho0 h0) v) = rv (rho0 h0) v ∧ fits (if kind = 0 then FieldType.int else .long) (rv (rho0 h0) v) = true := by
    rcases hv with ⟨rfl, x, rfl⟩ | ⟨rfl, x, rfl⟩
    · exact ⟨rfl, rfl⟩
    · exact ⟨rfl, rfl⟩
  have h6 := u_store hfc hkC hkind hlay hi g5 hn.1 hn.2
  have hi2 : s.fieldFound? C (T kf).2.1 (T kf).2.2.1 = some (cf, kf', fi, fd) := by
    rw [← show (T kf).1 = C from f5]; exact hi
  refine W.putK X.1 X.2.1 (f := fd) ⟨hown, hts _ f4, ⟨_, _, _, hi2⟩, hst⟩ (v := rv (rho0 h0) v) (by rw [q2]; exact h6) q1 q3 (by rw [hsl]; exact k2_hasslot (q4 kf f2)) rfl rfl d fun H' e1 e2 e3 => ?_
  rw [hsl] at e1 ⊢
  refine kk p l e s mid args below meth c H' _ D cA h0 ls X (hC.set hw e2 e3 ⟨_, f1, t_OB.to (V := updV (vp_V (fs.map (rvo h0))) kf (rv (rho0 h0) v)) ⟨_, e1, q2, q3, t_set q4 hap f2 (rv (rho0 h0) v)⟩ (fun j _ => ?_)⟩) (hS.put e2 e3 (by show h0 ≤ h0 + a; omega)) hl
  rw [vp_updV_set (by rw [List.length_map]; exact hl')]
  show vp_V ((fs.map (rvo h0)).set kf (rv (rho0 h0) v)) j = vp_V ((fs.set kf (some v)).map (rvo h0)) j
  rw [map_set_rvo]
theorem Cj.get {idx ci kf kind a : Nat} {v : tV} {fs : List (Option tV)} (d : decode M.2.1 pc = .ok (.getfield idx, 3)) (f : FLD M.1.cls idx ci kf kind) (hw : w[a]? = some (.inl (ci, fs))) (hv : fs[kf]? = some (some v)) (hp : pc + 3 = pc') (kk : Cj M mc ms pc' lv (v :: st) w k n P) : Cj M mc ms pc lv (rV a :: st) w k n P := by
  subst hp
  intro p l e s mid args below meth c H locs D cA h0 ls X hC hS hl
  obtain ⟨⟨C, T, N⟩, f1, f2, f3, f4, f5, f6, f7, f8⟩ := f
  have hP : va_P D vwCl [(h0 + a, cel cA h0 (.inl (ci, fs)))] H := fun k q hq => by
    have hz : k < 1 := (List.getElem?_eq_some_iff.mp hq).1
    rw [show k = 0 by omega] at hq
    cases hq
    exact hC.2 a _ hw
  have hfs : (fs.map (rvo h0))[kf]? = some (rv (rho0 h0) v) := by rw [List.getElem?_map, hv]; rfl
  exact va_get X.1 X.2.1 X.2.2.2.2.2.1 f3 X.2.2.2.2.1 X.2.2.2.2.2.2.2.2.1 hP 0 rfl f1 kf f2 (X.2.2.2.2.2.1 _ f4) (fun x hx => by rw [← show (T kf).1 = C from f5]; exact hx) hfs d (kk p l e s mid args below meth c H locs D cA h0 ls X hC hS hl)
theorem Cj.iast {a N : Nat} {g : Nat → Int} {i x : Int} (d : decode M.2.1 pc = .ok (.iastore, 1)) (hw : w[a]? = some (.inr (.inl (0, N, g)))) (i0 : 0 ≤ i) (i1 : i < N) (hi : R32 i) (hp : pc + 1 = pc') (kk : Cj M mc ms pc' lv st (w.set a (.inr (.inl (0, N, fun j => if j = i.toNat then x else g j)))) k n P) : Cj M mc ms pc lv (iV x :: iV i :: rV a :: st) w k n P := by
  subst hp
  intro p l e s mid args below meth c H locs D cA h0 ls X hC hS hl
  have hKa := X.2.2.2.2.2.2.2.2.1.2 0 (cA 0, .int) rfl
  have hc : H[h0 + a]? = some (arrV (cA 0) N (fun j => .int (Int32.ofInt (g j)))) := hC.2 a _ hw
  refine W.iast (j := Int32.ofInt i) (x := Int32.ofInt x) X.1 X.2.1 hc (hKa.1 N _) (fun q => by cases q) (by show ¬ (_ < 0 ∨ (arrV _ _ _).slots.size ≤ _); rw [arrV_size]; exact ti_in i0 i1 hi) rfl rfl d fun H1 e1 z oq => ?_
  refine kk p l e s mid args below meth c H1 _ D cA h0 ls X (hC.set hw z oq ?_) (hS.put z oq (by show h0 ≤ h0 + a; omega)) hl
  show H1[h0 + a]? = some (arrV (cA 0) N (fun j => .int (Int32.ofInt (if j = i.toNat then x else g j))))
  rw [e1, arrV_store, ti_cl i0 hi]
  congr 2
  funext q
  by_cases hq : q = i.toNat
  · simp [updV, hq]
  · simp [updV, hq]
theorem Cj.aast {a b ci kq N : Nat} {g : Nat → Option Nat} {i : Int} {fs : List (Option tV)} {C : String} {T : u_T} {N' : Nat} (d : decode M.2.1 pc = .ok (.aastore, 1)) (hw : w[a]? = some (.inr (.inr (kq, N, g)))) (hb : w[b]? = some (.inl (ci, fs))) (hci : vwCl[ci]? = some (C, T, N')) (hkq : (kq = 2 ∧ C = RX0) ∨ (kq = 3 ∧ C = RX8)) (i0 : 0 ≤ i) (i1 : i < N) (hi : R32 i) (hp : pc + 1 = pc') (kk : Cj M mc ms pc' lv st (w.set a (.inr (.inr (kq, N, fun j => if j = i.toNat then some b else g j)))) k n P) : Cj M mc ms pc lv (rV b :: iV i :: rV a :: st) w k n P := by
  subst hp
  intro p l e s mid args below meth c H locs D cA h0 ls X hC hS hl
  have hc : H[h0 + a]? = some (arrV (cA kq) N (fun j => va_rf ((g j).map (rho0 h0)))) := hC.2 a _ hw
  obtain ⟨r', hr', cellV, g1, g2, g3, -⟩ := hC.2 b _ hb
  have hcls := (X.2.2.2.2.2.2.2.2.1.1 ci _ hci).2
  have hra : ∃ (kA : Class) (comp : ClassId), s.vm.classes[cA kq]? = some kA ∧ kA.kind = .array comp (.object C) ∧ s.vm.findClass C = some comp := by
    rcases hkq with ⟨rfl, rfl⟩ | ⟨rfl, rfl⟩
    · obtain ⟨kA, comp, a1, a2, a3, -⟩ := (X.2.2.2.2.2.2.2.2.1.2 2 (cA 2, .object RX0) rfl).2
      exact ⟨kA, comp, a1, a2, a3⟩
    · obtain ⟨kA, comp, a1, a2, a3, -⟩ := (X.2.2.2.2.2.2.2.2.1.2 3 (cA 3, .object RX8) rfl).2
      exact ⟨kA, comp, a1, a2, a3⟩
  obtain ⟨kA, comp, k1, k2, k3⟩ := hra
  have hcomp : comp = D.1 ci := Option.some.inj (k3.symm.trans hcls.1)
  subst hcomp
  obtain ⟨kC, hkC, hkd⟩ := hcls.2
  have hin := ti_in i0 i1 hi
  have ei := ti_cl i0 hi
  refine W.aast (a := h0 + a) (v := h0 + b) (j := Int32.ofInt i) X.1 X.2.1 hc (fun q h => by cases h) (fun h => by cases h) k1 k2 rfl hkC ⟨fun q => hin (Or.inl q), by show _ < (arrV _ _ _).slots.size; rw [arrV_size]; exact Nat.not_le.mp fun q => hin (Or.inr q)⟩ g1 (fun q h => by rw [g3] at h; cases h) (by rw [g2]; exact hkC) (by rw [g2]; exact va_assign ⟨hcls.1, kC, hkC, hkd⟩) rfl rfl d fun H1 e1 z oq => ?_
  refine kk p l e s mid args below meth c H1 _ D cA h0 ls X (hC.set hw z oq ?_) (hS.put z oq (by show h0 ≤ h0 + a; omega)) hl
  show H1[h0 + a]? = some (arrV (cA kq) N (fun j => va_rf ((if j = i.toNat then some b else g j).map (rho0 h0))))
  rw [e1, arrV_store, ei]
  congr 2
  funext q
  by_cases hq : q = i.toNat
  · simp [updV, va_rf, hq]
  · simp [updV, va_rf, hq]
end CJ2
