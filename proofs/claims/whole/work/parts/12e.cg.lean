/-! constructors: the cells in front, the object, what it has made -/
section CG
variable {M N : MI} {mc ms mc' ms' pc pc' : Nat} {lv : List (Option tV)} {st : List tV} {w0 r : List cC} {X : cC} {A S : List spec} {k n : Nat} {P : Option tV → List cC → Prop}
theorem ap1 (w0 r s : List cC) (X : cC) : (w0 ++ X :: r) ++ s = w0 ++ X :: (r ++ s) := by rw [List.append_assoc]; rfl
theorem ln1 (w0 r : List cC) (X : cC) : (w0 ++ X :: r).length = w0.length + 1 + r.length := by rw [List.length_append, List.length_cons]; omega
theorem gt0 (w0 r : List cC) (X : cC) : (w0 ++ X :: r)[w0.length]? = some X := by rw [List.getElem?_append_right (Nat.le_refl _), Nat.sub_self]; rfl
theorem st0' (w0 r : List cC) (X Y : cC) : (w0 ++ X :: r).set w0.length Y = w0 ++ Y :: r := by rw [List.set_append_right _ _ (Nat.le_refl _), Nat.sub_self]; rfl
theorem gt1 (w0 r : List cC) (X : cC) (j : Nat) : (w0 ++ X :: r)[w0.length + (1 + j)]? = r[j]? := by
  rw [List.getElem?_append_right (by omega), show w0.length + (1 + j) - w0.length = j + 1 by omega]; rfl
theorem st1 (w0 r : List cC) (X y : cC) (j : Nat) : (w0 ++ X :: r).set (w0.length + (1 + j)) y = w0 ++ X :: r.set j y := by
  rw [List.set_append_right _ _ (by omega), show w0.length + (1 + j) - w0.length = j + 1 by omega]; rfl
theorem gen1 (c : Nat) (A : List spec) (x : spec) : genL c A ++ [fin (c + A.length) x.1 x.2] = genL c (A ++ [x]) := by rw [genL_app]; rfl
theorem Cg.newi {N m : Nat} (d : decode M.2.1 pc = .ok (.newarray .int, 2)) (fa : Cond.arrayClass .int ∈ tg_tbl) (hm : 1 + A.length = m) (hN : N ≤ 100000) (hk : k + 1 ≤ mc) (hn : n + N ≤ ms) (hp : pc + 2 = pc') (kk : Cj M mc ms pc' lv (rV (w0.length + m) :: st) (w0 ++ X :: genL (w0.length + 1) (A ++ [((20, N), zr)])) (k + 1) (n + N) P) : Cj M mc ms pc lv (iV (N : Int) :: st) (w0 ++ X :: genL (w0.length + 1) A) k n P := by
  refine Cj.newi d fa hN hk hn hp ?_
  rw [ap1, ln1, genL_len, show w0.length + 1 + A.length = w0.length + m by omega]
  have := gen1 (w0.length + 1) A ((20, N), zr)
  rw [← this] at kk
  exact kk
theorem Cg.newz {N m : Nat} (d : decode M.2.1 pc = .ok (.newarray .boolean, 2)) (fa : Cond.arrayClass .boolean ∈ tg_tbl) (hm : 1 + A.length = m) (hN : N ≤ 100000) (hk : k + 1 ≤ mc) (hn : n + N ≤ ms) (hp : pc + 2 = pc') (kk : Cj M mc ms pc' lv (rV (w0.length + m) :: st) (w0 ++ X :: genL (w0.length + 1) (A ++ [((21, N), zr)])) (k + 1) (n + N) P) : Cj M mc ms pc lv (iV (N : Int) :: st) (w0 ++ X :: genL (w0.length + 1) A) k n P := by
  refine Cj.newz d fa hN hk hn hp ?_
  rw [ap1, ln1, genL_len, show w0.length + 1 + A.length = w0.length + m by omega]
  have := gen1 (w0.length + 1) A ((21, N), zr)
  rw [← this] at kk
  exact kk
theorem Cg.putF {idx ci kf b : Nat} {fs : List (Option tV)} (d : decode M.2.1 pc = .ok (.putfield idx, 3)) (f : FPF M.1.cls idx ci kf) (hin : M.1.name = "<init>") (hl' : kf < fs.length) (hp : pc + 3 = pc') (kk : Cj M mc ms pc' lv st (w0 ++ .inl (ci, fs.set kf (some (rV b))) :: r) k n P) : Cj M mc ms pc lv (rV b :: rV w0.length :: st) (w0 ++ .inl (ci, fs) :: r) k n P := by
  refine Cj.putF d f hin (gt0 _ _ _) hl' hp ?_
  rw [st0']
  exact kk
theorem Cg.putI {idx ci kf kind : Nat} {v : tV} {fs : List (Option tV)} (d : decode M.2.1 pc = .ok (.putfield idx, 3)) (f : FLP M.1.cls idx ci kf kind) (hv : (kind = 0 ∧ ∃ x, v = iV x) ∨ (kind = 1 ∧ ∃ x, v = lV x)) (hl' : kf < fs.length) (hp : pc + 3 = pc') (kk : Cj M mc ms pc' lv st (w0 ++ .inl (ci, fs.set kf (some v)) :: r) k n P) : Cj M mc ms pc lv (v :: rV w0.length :: st) (w0 ++ .inl (ci, fs) :: r) k n P := by
  refine Cj.putI d f hv (gt0 _ _ _) hl' hp ?_
  rw [st0']
  exact kk
theorem Cg.get {idx ci kf kind : Nat} {v : tV} {fs : List (Option tV)} (d : decode M.2.1 pc = .ok (.getfield idx, 3)) (f : FLD M.1.cls idx ci kf kind) (hv : fs[kf]? = some (some v)) (hp : pc + 3 = pc') (kk : Cj M mc ms pc' lv (v :: st) (w0 ++ .inl (ci, fs) :: r) k n P) : Cj M mc ms pc lv (rV w0.length :: st) (w0 ++ .inl (ci, fs) :: r) k n P :=
  Cj.get d f (gt0 _ _ _) hv hp kk
theorem Cg.iast {j N : Nat} {g : Nat → Int} {i x : Int} (d : decode M.2.1 pc = .ok (.iastore, 1)) (hw : r[j]? = some (.inr (.inl (0, N, g)))) (i0 : 0 ≤ i) (i1 : i < N) (hi : R32 i) (hp : pc + 1 = pc') (kk : Cj M mc ms pc' lv st (w0 ++ X :: r.set j (.inr (.inl (0, N, fun j => if j = i.toNat then x else g j)))) k n P) : Cj M mc ms pc lv (iV x :: iV i :: rV (w0.length + (1 + j)) :: st) (w0 ++ X :: r) k n P := by
  refine Cj.iast d (by rw [gt1]; exact hw) i0 i1 hi hp ?_
  rw [st1]
  exact kk
/-- an object is made: new, dup, its constructor -/
theorem Cs.make {ix iy ci N' b : Nat} (d1 : decode M.2.1 pc = .ok (.new ix, 3)) (d2 : decode M.2.1 (pc + 3) = .ok (.dup, 1)) (d3 : decode M.2.1 (pc + 4) = .ok (.invokespecial iy, 3)) (f1 : NEWc M.1.cls ix ci N') (f2 : LNI M.1.cls iy N) (hc : Con N ci mc' ms' S) (hb : w0.length + 1 + r.length = b) (hcat : (st.map tcat).sum + 1 ≤ 8) (hroom : N.2.2.2.2.1 + 1 ≤ M.2.2.2.2.1 ∧ 8 + (N.2.2.1 + 11) + N.2.2.2.2.2 ≤ M.2.2.2.2.2) (hlen : 1 ≤ N.2.2.1) (hk : k + 1 + mc' ≤ mc) (hn : n + N' + ms' ≤ ms) (hp : pc + 7 = pc')
    (kk : Cj M mc ms pc' lv (rV b :: st) (w0 ++ X :: (r ++ genL b S)) (k + 1 + mc') (n + N' + ms') P) : Cj M mc ms pc lv st (w0 ++ X :: r) k n P := by
  subst hp; subst hb
  refine Cj.new d1 f1 (by omega) (by omega) rfl (Cj.dup d2 rfl rfl (Cj.callI d3 f2 (by show 1 + (st.map tcat).sum ≤ 8; omega) hroom hlen hk hn rfl ?_))
  have h := hc (w0 ++ X :: r)
  rw [ln1] at h ⊢
  refine Cj.mono h (fun r' w' ⟨e1, e2⟩ => ⟨e1, ?_⟩)
  rw [e2, ap1]
  exact kk
theorem Cg.make {ix iy ci N' m : Nat} (d1 : decode M.2.1 pc = .ok (.new ix, 3)) (d2 : decode M.2.1 (pc + 3) = .ok (.dup, 1)) (d3 : decode M.2.1 (pc + 4) = .ok (.invokespecial iy, 3)) (f1 : NEWc M.1.cls ix ci N') (f2 : LNI M.1.cls iy N) (hc : Con N ci mc' ms' S) (hm : 1 + A.length = m) (hcat : (st.map tcat).sum + 1 ≤ 8) (hroom : N.2.2.2.2.1 + 1 ≤ M.2.2.2.2.1 ∧ 8 + (N.2.2.1 + 11) + N.2.2.2.2.2 ≤ M.2.2.2.2.2) (hlen : 1 ≤ N.2.2.1) (hk : k + 1 + mc' ≤ mc) (hn : n + N' + ms' ≤ ms) (hp : pc + 7 = pc')
    (kk : Cj M mc ms pc' lv (rV (w0.length + m) :: st) (w0 ++ X :: genL (w0.length + 1) (A ++ S)) (k + 1 + mc') (n + N' + ms') P) : Cj M mc ms pc lv st (w0 ++ X :: genL (w0.length + 1) A) k n P := by
  refine Cs.make d1 d2 d3 f1 f2 hc (b := w0.length + m) (by rw [genL_len]; omega) hcat hroom hlen hk hn hp ?_
  rw [genL_app, show w0.length + 1 + A.length = w0.length + m by omega] at kk
  exact kk
theorem Cj.alen {a N : Nat} {g : Nat → Int} {w : List cC} (d : decode M.2.1 pc = .ok (.arraylength, 1)) (hw : w[a]? = some (.inr (.inl (0, N, g)))) (hN : N ≤ 2147483647) (hp : pc + 1 = pc') (kk : Cj M mc ms pc' lv (iV (N : Int) :: st) w k n P) : Cj M mc ms pc lv (rV a :: st) w k n P := by
  subst hp
  intro p l e s mid args below meth c H locs D cA h0 ls X hC hS hl
  have hKa := X.2.2.2.2.2.2.2.2.1.2 0 (cA 0, .int) rfl
  have hc : H[h0 + a]? = some (arrV (cA 0) N (fun j => .int (Int32.ofInt (g j)))) := hC.2 a _ hw
  exact W.alen (n := Int32.ofInt (N : Int)) X.1 X.2.1 hc (hKa.1 N _) (by rw [arrV_size]; exact (Int32.ofInt_eq_ofNat).symm) rfl rfl d (kk p l e s mid args below meth c H locs D cA h0 ls X hC hS hl)
end CG
