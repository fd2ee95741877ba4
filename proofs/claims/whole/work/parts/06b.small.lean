theorem ts_s {n k k' : Int} (e : k + 1 = k') (h : k ≤ n) (c : ¬ n = k) : k' ≤ n := by omega
/-- the length of a static table -/
theorem Tj.salen {M : MI} {pc pc' : Nat} {lv : List (Option tV)} {st : List tV} {m : tM} {P : Option tV → tM → Prop} {a N : Nat} {C n ds : String} {ty : FieldType} {f : Nat → Value} {z : Int} (d : decode M.2.1 pc = .ok (.arraylength, 1)) (hT : ∀ D cA ρ U, TW D cA ρ U → tSt C n ds ty a N f ρ U) (hN : N ≤ 2147483647) (hz : (N : Int) = z) (hp : pc + 1 = pc') (kk : Tj M pc' lv (iV z :: st) m P) : Tj M pc lv (rV a :: st) m P := by
  subst hp; subst hz
  intro p l e s mid args below meth c H locs D cA ρ ls X h1' h2 h3' hP hS hl
  obtain ⟨cell, h1, h3, h4, h5, h6, h7, h8⟩ := (hT D cA ρ s X.2.2.2.2.2.2.2).2
  refine W.alen (n := Int32.ofInt (N : Int)) X.1 X.2.1 (cell := cell) (by rw [hS.2.1 (ρ a) (Array.getElem?_eq_some_iff.mp h1).1 h8]; exact h1) h3 (by rw [h6, Int32.ofInt_eq_ofNat]) rfl rfl d ?_
  exact kk p l e s mid args below meth c H locs D cA ρ ls X h1' (tRs_cons (⟨by omega, by omega⟩ : R32 (N : Int)) (tRs_tl h2)) h3' hP hS hl
