/-! java.lang.Math; rows with numbers as they are printed -/
def MTH (own : String) (idx : Nat) (y : MethodName) (cd : ByteArray) (n : Nat) : Prop := Cond.methodLink own idx y ∈ tg_tbl ∧ Cond.static y ∈ tg_tbl ∧ Cond.initialized "java/lang/Math" ∈ tg_tbl ∧ Cond.code y cd n (some .int) ∈ tg_tbl
section TJM
variable {M : MI} {pc pc' : Nat} {lv : List (Option tV)} {st : List tV} {m : tM} {P : Option tV → tM → Prop}
theorem Tj.mmin {idx : Nat} {a b : Int} (d : decode M.2.1 pc = .ok (.invokestatic idx, 3)) (f : MTH M.1.cls idx Lib.Math.min.name Lib.Math.min.code 2) (hroom : 1 ≤ M.2.2.2.2.1 ∧ (st.map tcat).sum + 13 ≤ M.2.2.2.2.2) (hp : pc + 3 = pc') (k : Tj M pc' lv (iV (if b < a then b else a) :: st) m P) : Tj M pc lv (iV b :: iV a :: st) m P := by
  subst hp
  intro p l e s mid args below meth c H locs D cA ρ ls X h1 h2 h3 hP hS hl
  have hts := X.2.2.2.2.2.1
  have ra : R32 a := tRs_hd (tRs_tl h2)
  have rb : R32 b := tRs_hd h2
  refine va_mmin X.1 X.2.1 (X.2.2.2.1.trans hl.1.symm) X.2.2.2.2.1 (hts _ f.1) (hts _ f.2.1) (hts _ f.2.2.1) (hts _ f.2.2.2) hroom.1 (by rw [tcat_sum]; exact hroom.2) (Nat.zero_le _) (Nat.zero_le _) d ?_
  have he : (if Int32.ofInt b < Int32.ofInt a then Int32.ofInt b else Int32.ofInt a) = Int32.ofInt (if b < a then b else a) := by
    by_cases h : b < a
    · rw [if_pos h, if_pos ((ti_lt rb ra).mpr h)]
    · rw [if_neg h, if_neg (fun q => h ((ti_lt rb ra).mp q))]
  rw [he]
  exact k p l e s mid args below meth c H locs D cA ρ ls X h1 (tRs_cons (show R32 _ by split <;> assumption) (tRs_tl (tRs_tl h2))) h3 hP hS hl
theorem Tj.mabs {idx : Nat} {a : Int} (d : decode M.2.1 pc = .ok (.invokestatic idx, 3)) (f : MTH M.1.cls idx Lib.Math.abs.name Lib.Math.abs.code 1) (hr : R32 (0 - a)) (hroom : 1 ≤ M.2.2.2.2.1 ∧ (st.map tcat).sum + 13 ≤ M.2.2.2.2.2) (hp : pc + 3 = pc') (k : Tj M pc' lv (iV (if 0 ≤ a then a else 0 - a) :: st) m P) : Tj M pc lv (iV a :: st) m P := by
  subst hp
  intro p l e s mid args below meth c H locs D cA ρ ls X h1 h2 h3 hP hS hl
  have hts := X.2.2.2.2.2.1
  have ra : R32 a := tRs_hd h2
  refine va_mabs X.1 X.2.1 (X.2.2.2.1.trans hl.1.symm) X.2.2.2.2.1 (hts _ f.1) (hts _ f.2.1) (hts _ f.2.2.1) (hts _ f.2.2.2) hroom.1 (by rw [tcat_sum]; exact hroom.2) (Nat.zero_le _) (Nat.zero_le _) d ?_
  have he : (if 0 ≤ Int32.ofInt a then Int32.ofInt a else 0 - Int32.ofInt a) = Int32.ofInt (if 0 ≤ a then a else 0 - a) := by
    rw [← ti_0]
    by_cases h : 0 ≤ a
    · rw [if_pos h, if_pos ((ti_le (by decide) ra).mpr h)]
    · rw [if_neg h, if_neg (fun q => h ((ti_le (by decide) ra).mp q)), Int32.ofInt_sub]
  rw [he]
  exact k p l e s mid args below meth c H locs D cA ρ ls X h1 (tRs_cons (show R32 _ by split <;> assumption) (tRs_tl h2)) h3 hP hS hl
theorem Tj.gI {idx ci k a : Nat} {j : Int} (d : decode M.2.1 pc = .ok (.getfield idx, 3)) (f : FLD M.1.cls idx ci k 0) (hs : shp a = some (ci, 0)) (hj : (k : Int) = j) (hp : pc + 3 = pc') (kk : Tj M pc' lv (iV (m a j) :: st) m P) : Tj M pc lv (rV a :: st) m P := by
  subst hj; exact Tj.getI d f hs hp kk
theorem Tj.gJ {idx ci k a : Nat} {j : Int} (d : decode M.2.1 pc = .ok (.getfield idx, 3)) (f : FLD M.1.cls idx ci k 1) (hs : shp a = some (ci, 0)) (hj : (k : Int) = j) (hp : pc + 3 = pc') (kk : Tj M pc' lv (lV (Int64.ofInt (m a j)) :: st) m P) : Tj M pc lv (rV a :: st) m P := by
  subst hj; exact Tj.getJ d f hs hp kk
theorem Tj.pI {idx ci k a : Nat} {j x : Int} (d : decode M.2.1 pc = .ok (.putfield idx, 3)) (f : FLP M.1.cls idx ci k 0) (hs : shp a = some (ci, 0)) (hj : (k : Int) = j) (hp : pc + 3 = pc') (kk : Tj M pc' lv st (up m a j x) P) : Tj M pc lv (iV x :: rV a :: st) m P := by
  subst hj; exact Tj.putI d f hs hp kk
theorem Tj.pJ {idx ci k a : Nat} {j : Int} {x : Int64} (d : decode M.2.1 pc = .ok (.putfield idx, 3)) (f : FLP M.1.cls idx ci k 1) (hs : shp a = some (ci, 0)) (hj : (k : Int) = j) (ht : tJ a j = true) (hp : pc + 3 = pc') (kk : Tj M pc' lv st (up m a j x.toInt) P) : Tj M pc lv (lV x :: rV a :: st) m P := by
  subst hj; exact Tj.putJ d f hs ht hp kk
/-- fewer locals, by their list -/
def subL : List (Option tV) → List (Option tV) → Prop
  | [], _ => True
  | none :: l', [] => subL l' []
  | none :: l', _ :: l => subL l' l
  | some _ :: _, [] => False
  | some v :: l', x :: l => x = some v ∧ subL l' l
theorem subL_ok : ∀ (lv' lv : List (Option tV)), subL lv' lv → ∀ i v, gl lv' i = some v → gl lv i = some v
  | [], _, _, i, v, hv => by cases hv
  | none :: l', [], h, 0, v, hv => by cases hv
  | none :: l', [], h, i + 1, v, hv => by have := subL_ok l' [] h i v hv; cases this
  | none :: l', _ :: l, h, 0, v, hv => by cases hv
  | none :: l', _ :: l, h, i + 1, v, hv => subL_ok l' l h i v hv
  | some w :: l', [], h, i, v, hv => h.elim
  | some w :: l', x :: l, h, 0, v, hv => h.1.trans hv
  | some w :: l', x :: l, h, i + 1, v, hv => subL_ok l' l h.2 i v hv
theorem Tj.cut {lv' : List (Option tV)} (k : Tj M pc lv' st m P) (h : subL lv' lv) : Tj M pc lv st m P := Tj.lv (subL_ok lv' lv h) k
end TJM
