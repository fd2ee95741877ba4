/-! ways over a graph: labels that are carried across its edges -/
def EG (n : Int) (c4 nb : Int → Int → Int) (k d o : Int) : Prop := 0 ≤ k ∧ k < n ∧ 0 ≤ d ∧ d < 4 ∧ c4 k d ≠ 0 ∧ nb k d = o
/-- a graph whose edges go both ways -/
def GR (n : Int) (c4 nb : Int → Int → Int) : Prop := (0 ≤ n ∧ n ≤ 60) ∧ ∀ k d, 0 ≤ k → k < n → 0 ≤ d → d < 4 → (0 ≤ c4 k d ∧ c4 k d ≤ 3) ∧ (c4 k d ≠ 0 → (0 ≤ nb k d ∧ nb k d < n) ∧ c4 (nb k d) ((d + 2) % 4) = c4 k d ∧ nb (nb k d) ((d + 2) % 4) = k)
def REG (n : Int) (c4 nb : Int → Int → Int) (k : Int) : Prop := ∀ Q : Int → Prop, Q 0 → (∀ k d o, EG n c4 nb k d o → Q k → Q o) → Q k
/-- a label that comes along some way -/
def DER {L : Type} (n : Int) (c4 nb : Int → Int → Int) (cr : Int → Int → L → L) (l0 : L) (k : Int) (l : L) : Prop := ∀ Q : Int → L → Prop, Q 0 l0 → (∀ k d o l, EG n c4 nb k d o → Q k l → Q o (cr k d l)) → Q k l
def CNS {L : Type} (n : Int) (c4 nb : Int → Int → Int) (cr : Int → Int → L → L) (lab : Int → L) : Prop := ∀ k d o, EG n c4 nb k d o → lab o = cr k d (lab k)
theorem DER.eq {L : Type} {n : Int} {c4 nb : Int → Int → Int} {cr : Int → Int → L → L} {l0 : L} {lab : Int → L} (h0 : lab 0 = l0) (h : CNS n c4 nb cr lab) {k : Int} {l : L} (d : DER n c4 nb cr l0 k l) : l = lab k :=
  d (fun k l => l = lab k) h0.symm (fun k d o l e q => by rw [h k d o e, q])
theorem DER.rf {L : Type} {n : Int} {c4 nb : Int → Int → Int} {cr : Int → Int → L → L} {l0 : L} : DER n c4 nb cr l0 0 l0 := fun _ h _ => h
theorem DER.st {L : Type} {n : Int} {c4 nb : Int → Int → Int} {cr : Int → Int → L → L} {l0 : L} {k d o : Int} {l : L} (h : DER n c4 nb cr l0 k l) (e : EG n c4 nb k d o) : DER n c4 nb cr l0 o (cr k d l) := fun Q q s => s k d o l e (h Q q s)
/-- two labellings that come along ways: one agrees if the other does, and then they are one -/
theorem CNS.two {L : Type} {n : Int} {c4 nb : Int → Int → Int} {cr : Int → Int → L → L} {l0 : L} {a b : Int → L} (hg : GR n c4 nb) (a0 : a 0 = l0) (ha : ∀ k, 0 ≤ k → k < n → DER n c4 nb cr l0 k (a k)) (hb : ∀ k, 0 ≤ k → k < n → DER n c4 nb cr l0 k (b k)) (h : CNS n c4 nb cr a) : (∀ k, 0 ≤ k → k < n → b k = a k) ∧ CNS n c4 nb cr b := by
  have e : ∀ k, 0 ≤ k → k < n → b k = a k := fun k k0 k1 => DER.eq a0 h (hb k k0 k1)
  refine ⟨e, fun k d o g => ?_⟩
  obtain ⟨k0, k1, d0, d1, c, q⟩ := id g
  have r := ((hg.2 k d k0 k1 d0 d1).2 c).1
  rw [q] at r
  rw [e k k0 k1, e o r.1 r.2]
  exact h k d o g
theorem cn_true (n : Nat) : cn (fun _ => true) n = n := by
  induction n with
  | zero => rfl
  | succ n ih => rw [cn, ih]; rfl
/-- places in a row of different ones -/
theorem row_le {R n : Int} {O : Int → Int} (R0 : 0 ≤ R) (h : ∀ i, 0 ≤ i → i < R → 0 ≤ O i ∧ O i < n) (inj : ∀ i j, 0 ≤ i → i < R → 0 ≤ j → j < R → O i = O j → i = j) : R ≤ n ∨ R = 0 := by
  by_cases z : R = 0
  · exact Or.inr z
  · have n0 := h 0 (by omega) (by omega)
    have := pigeon R.toNat n.toNat (fun _ => true) (fun i => (O (i : Int)).toNat) (fun i hi _ => by
      have := h i (by omega) (by omega)
      show (O (i : Int)).toNat < n.toNat
      omega) (fun i j hi hj _ _ e => by
      have a := h i (by omega) (by omega)
      have b := h j (by omega) (by omega)
      have e' : (O (i : Int)).toNat = (O (j : Int)).toNat := e
      have := inj i j (by omega) (by omega) (by omega) (by omega) (by omega)
      omega)
    rw [cn_true] at this
    exact Or.inl (by omega)
/-- all are in the row -/
theorem row_all {n : Int} {O : Int → Int} (n0 : 0 ≤ n) (h : ∀ i, 0 ≤ i → i < n → 0 ≤ O i ∧ O i < n) (inj : ∀ i j, 0 ≤ i → i < n → 0 ≤ j → j < n → O i = O j → i = j) {k : Int} (k0 : 0 ≤ k) (k1 : k < n) : ∃ i, 0 ≤ i ∧ i < n ∧ O i = k := by
  refine Classical.byContradiction (fun no => ?_)
  have := row_le (R := n + 1) (n := n) (O := fun i => if i = n then k else O i) (by omega) (fun i i0 i1 => by
    show 0 ≤ (if i = n then k else O i) ∧ (if i = n then k else O i) < n
    by_cases q : i = n
    · rw [if_pos q]; exact ⟨k0, k1⟩
    · rw [if_neg q]; exact h i i0 (by omega)) (fun i j i0 i1 j0 j1 e => by
    by_cases q : i = n
    · by_cases g : j = n
      · omega
      · rw [if_pos q, if_neg g] at e; exact absurd ⟨j, j0, by omega, e.symm⟩ no
    · by_cases g : j = n
      · rw [if_neg q, if_pos g] at e; exact absurd ⟨i, i0, by omega, e⟩ no
      · rw [if_neg q, if_neg g] at e; exact inj i j i0 (by omega) j0 (by omega) e)
  omega
/-! folding -/
abbrev P6 : Type := Int × Int × Int × Int × Int × Int
def hdF (d : Int) (p : P6) : Int := if d < 2 then (if d % 2 = 0 then p.2.2.2.2.1 else p.2.2.2.2.2) else x1 (if d % 2 = 0 then p.2.2.2.2.1 else p.2.2.2.2.2)
def onF (q f t : Int) : Int := if q = 1 then x1 f else if q = -1 then f else t
def fnF (q f t : Int) : Int := if q = 1 then t else if q = -1 then x1 t else f
def crF (d q : Int) (p : P6) : P6 := (p.1 + (alO (hdF d p) 0 + alO (onF q p.2.2.2.1 (hdF d p)) 0), p.2.1 + (alO (hdF d p) 1 + alO (onF q p.2.2.2.1 (hdF d p)) 1), p.2.2.1 + (alO (hdF d p) 2 + alO (onF q p.2.2.2.1 (hdF d p)) 2), fnF q p.2.2.2.1 (hdF d p), if d % 2 = 0 then (if d < 2 then onF q p.2.2.2.1 (hdF d p) else x1 (onF q p.2.2.2.1 (hdF d p))) else p.2.2.2.2.1, if d % 2 = 0 then p.2.2.2.2.2 else (if d < 2 then onF q p.2.2.2.1 (hdF d p) else x1 (onF q p.2.2.2.1 (hdF d p))))
abbrev d6 (d : Int) : Prop := 0 ≤ d ∧ d < 6
def vF (p : P6) : Prop := d6 p.2.2.2.1 ∧ d6 p.2.2.2.2.1 ∧ d6 p.2.2.2.2.2
theorem al_x1 {d : Int} (h : d6 d) (a : Int) : alO (x1 d) a = - alO d a := by
  obtain ⟨h0, h1⟩ := h
  rcases (show d = 0 ∨ d = 1 ∨ d = 2 ∨ d = 3 ∨ d = 4 ∨ d = 5 by omega) with rfl | rfl | rfl | rfl | rfl | rfl <;> simp [alO, x1] <;> (repeat' split) <;> omega
theorem x1_6 {d : Int} (h : d6 d) : d6 (x1 d) := (x1_r h.1 h.2).1
theorem hdF_6 {d : Int} {p : P6} (h : vF p) : d6 (hdF d p) := by
  unfold hdF
  split
  · split
    · exact h.2.1
    · exact h.2.2
  · split
    · exact x1_6 h.2.1
    · exact x1_6 h.2.2
theorem onF_6 {q f t : Int} (hf : d6 f) (ht : d6 t) : d6 (onF q f t) := by
  unfold onF
  split
  · exact x1_6 hf
  · split
    · exact hf
    · exact ht
theorem fnF_6 {q f t : Int} (hf : d6 f) (ht : d6 t) : d6 (fnF q f t) := by
  unfold fnF
  split
  · exact ht
  · split
    · exact x1_6 ht
    · exact hf
theorem crF_v {d q : Int} {p : P6} (h : vF p) : vF (crF d q p) := by
  have t := hdF_6 (d := d) h
  have o := onF_6 (q := q) h.1 t
  refine ⟨fnF_6 h.1 t, ?_, ?_⟩
  · show d6 (if d % 2 = 0 then _ else _)
    split
    · split
      · exact o
      · exact x1_6 o
    · exact h.2.1
  · show d6 (if d % 2 = 0 then _ else _)
    split
    · exact h.2.2
    · split
      · exact o
      · exact x1_6 o
theorem crF_inv {d q : Int} {p : P6} (h : vF p) (hd : d = 0 ∨ d = 1) (hq : q = -1 ∨ q = 0 ∨ q = 1) : crF (d + 2) q (crF d q p) = p := by
  obtain ⟨x, y, z, f, r, u⟩ := p
  obtain ⟨hf, hr, hu⟩ := h
  have ff := (x1_r hf.1 hf.2).2.1
  have rr := (x1_r hr.1 hr.2).2.1
  have uu := (x1_r hu.1 hu.2).2.1
  rcases hd with rfl | rfl <;> rcases hq with rfl | rfl | rfl
  all_goals
    simp only [crF, hdF, onF, fnF] at *
    simp [ff, rr, uu, al_x1 hf, al_x1 hr, al_x1 hu]
    try (refine ⟨?_, ?_, ?_⟩ <;> omega)
