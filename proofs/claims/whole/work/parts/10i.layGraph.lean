/-! the skin laid flat: the graph of its squares -/
abbrev L3 : Type := Int × Int × Int
/-- what lies across, by the rows of the class's hull -/
def SKN (n : Int) (L B : Int → Int) : Prop := ∀ k s, 0 ≤ k → k < n → 0 ≤ s → s < 4 → (0 ≤ L (4 * k + s) / 4 ∧ L (4 * k + s) / 4 < n) ∧ L (L (4 * k + s)) = 4 * k + s ∧ (B (4 * k + s) = -1 ∨ B (4 * k + s) = 0 ∨ B (4 * k + s) = 1) ∧ B (L (4 * k + s)) = B (4 * k + s)
theorem HU.skn {m : tM} {c : Int → Int} (h : HU m c) : SKN (oN c 384) (m 113) (m 114) := by
  intro k s k0 k1 s0 s1
  obtain ⟨p, d, p0, d0, ho, eq, -⟩ := sq_ex k0 k1
  have cr := cr_r p0.1 p0.2 d0.1 d0.2 s0 s1 ho
  have ob := oN_384 c cr.1.1 cr.1.2 cr.2.1.1 cr.2.1.2 cr.2.2.2.1
  have l1 := h.2.2.2.2.2.at p0 d0 ⟨s0, s1⟩ ho
  have l2 := h.2.2.2.2.2.at cr.1 cr.2.1 cr.2.2.1 cr.2.2.2.1
  rw [cr.2.2.2.2.1, cr.2.2.2.2.2.1, cr.2.2.2.2.2.2.1, cr.2.2.2.2.2.2.2, eq] at l2
  rw [eq] at l1
  have t := cr.2.2.1
  refine ⟨by rw [l1.1]; omega, by rw [l1.1]; exact l2.1, ?_, by rw [l1.1, l1.2]; exact l2.2⟩
  rw [l1.2]
  unfold cB
  split
  · exact Or.inl rfl
  · split
    · exact Or.inr (Or.inl rfl)
    · exact Or.inr (Or.inr rfl)
def aqL (L : Int → Int) : Int → Int → Int := fun k s => L (4 * k + s) / 4
def ucL (ct : Int → Int) : Int → Int → Int := fun k s => if ct (4 * k + s) = 0 then 1 else 0
def crL (L : Int → Int) : Int → Int → L3 → L3 := fun k s l => (l.1 + dX ((s + l.2.2) % 4), l.2.1 + dY ((s + l.2.2) % 4), (s + l.2.2 + 2 - L (4 * k + s) % 4) % 4)
abbrev LD (n : Int) (L ct : Int → Int) (k : Int) (l : L3) : Prop := DER n (ucL ct) (aqL L) (crL L) (0, 0, 0) k l
theorem LD.r {n : Int} {L ct : Int → Int} {k : Int} {l : L3} (h : LD n L ct k l) : REG n (ucL ct) (aqL L) k :=
  fun Q q hs => h (fun k _ => Q k) q (fun k d o _ e q => hs k d o e q)
theorem LD.t {n : Int} {L ct : Int → Int} {k : Int} {l : L3} (h : LD n L ct k l) : 0 ≤ l.2.2 ∧ l.2.2 < 4 :=
  h (fun _ l => 0 ≤ l.2.2 ∧ l.2.2 < 4) ⟨by decide, by decide⟩ (fun k d o l _ _ => by
    show 0 ≤ (d + l.2.2 + 2 - L (4 * k + d) % 4) % 4 ∧ (d + l.2.2 + 2 - L (4 * k + d) % 4) % 4 < 4
    omega)
def bL (b : Int) (l : L3) : Prop := (-b ≤ l.1 ∧ l.1 ≤ b) ∧ (-b ≤ l.2.1 ∧ l.2.1 ≤ b)
theorem crL_b {L : Int → Int} {k s b : Int} {l : L3} (h : bL b l) : bL (b + 1) (crL L k s l) := by
  have a := dX_r ((s + l.2.2) % 4)
  have c := dY_r ((s + l.2.2) % 4)
  obtain ⟨h1, h2⟩ := h
  exact ⟨by show -(b + 1) ≤ l.1 + _ ∧ l.1 + _ ≤ b + 1; omega, by show -(b + 1) ≤ l.2.1 + _ ∧ l.2.1 + _ ≤ b + 1; omega⟩
def OVL3 (n : Int) (lab : Int → L3) : Prop := ∃ a b, 0 ≤ b ∧ b < a ∧ a < n ∧ (lab a).1 = (lab b).1 ∧ (lab a).2.1 = (lab b).2.1
def RLL (n : Int) (L ct : Int → Int) (lab : Int → L3) (r : Int) : Prop := (¬ (∀ k, 0 ≤ k → k < n → REG n (ucL ct) (aqL L) k) → r = 1) ∧ ((∀ k, 0 ≤ k → k < n → REG n (ucL ct) (aqL L) k) → (∀ k, 0 ≤ k → k < n → LD n L ct k (lab k) ∧ bL 60 (lab k)) ∧ lab 0 = (0, 0, 0) ∧ (¬ CNS n (ucL ct) (aqL L) (crL L) lab → r = 2) ∧ (CNS n (ucL ct) (aqL L) (crL L) lab → (OVL3 n lab → r = 3) ∧ (¬ OVL3 n lab → r = 0)))
theorem CNS.two3 {n : Int} {L B ct : Int → Int} {a b : Int → L3} (hg : SKN n L B) (a0 : a 0 = (0, 0, 0)) (hb : ∀ k, 0 ≤ k → k < n → LD n L ct k (b k)) (h : CNS n (ucL ct) (aqL L) (crL L) a) : (∀ k, 0 ≤ k → k < n → b k = a k) ∧ CNS n (ucL ct) (aqL L) (crL L) b := by
  have e : ∀ k, 0 ≤ k → k < n → b k = a k := fun k k0 k1 => DER.eq a0 h (hb k k0 k1)
  refine ⟨e, fun k d o g => ?_⟩
  obtain ⟨k0, k1, d0, d1, c, q⟩ := id g
  have r := (hg k d k0 k1 d0 d1).1
  rw [show L (4 * k + d) / 4 = o from q] at r
  rw [e k k0 k1, e o r.1 r.2]
  exact h k d o g
theorem RLL.uniq {n : Int} {L B ct : Int → Int} {a b : Int → L3} {r r' : Int} (hg : SKN n L B) (h : RLL n L ct a r) (h' : RLL n L ct b r') : r = r' ∧ (r ≠ 1 → r ≠ 2 → ∀ k, 0 ≤ k → k < n → a k = b k) := by
  by_cases q : ∀ k, 0 ≤ k → k < n → REG n (ucL ct) (aqL L) k
  · obtain ⟨a1, a2, a3, a4⟩ := h.2 q
    obtain ⟨b1, b2, b3, b4⟩ := h'.2 q
    by_cases c : CNS n (ucL ct) (aqL L) (crL L) a
    · obtain ⟨e, cb⟩ := CNS.two3 hg a2 (fun k k0 k1 => (b1 k k0 k1).1) c
      have ov : OVL3 n a ↔ OVL3 n b := by
        constructor
        · rintro ⟨x, y, y0, yx, xn, z⟩
          exact ⟨x, y, y0, yx, xn, by rw [e x (by omega) xn, e y y0 (by omega)]; exact z⟩
        · rintro ⟨x, y, y0, yx, xn, z⟩
          rw [e x (by omega) xn, e y y0 (by omega)] at z
          exact ⟨x, y, y0, yx, xn, z⟩
      by_cases o : OVL3 n a
      · exact ⟨by rw [(a4 c).1 o, (b4 cb).1 (ov.1 o)], fun _ _ k k0 k1 => (e k k0 k1).symm⟩
      · exact ⟨by rw [(a4 c).2 o, (b4 cb).2 (fun z => o (ov.2 z))], fun _ _ k k0 k1 => (e k k0 k1).symm⟩
    · have cb : ¬ CNS n (ucL ct) (aqL L) (crL L) b := fun z => c (CNS.two3 hg b2 (fun k k0 k1 => (a1 k k0 k1).1) z).2
      exact ⟨by rw [a3 c, b3 cb], fun _ z => absurd (a3 c) z⟩
  · exact ⟨by rw [h.1 q, h'.1 q], fun z => absurd (h.1 q) z⟩
/-- what the class has laid so far -/
def LI (n : Int) (L ct : Int → Int) (lab : Int → L3) (O : Int → Int) (R i d : Int) : Prop := (1 ≤ R ∧ R ≤ n) ∧ O 0 = 0 ∧ (∀ j, 0 ≤ j → j < R → 0 ≤ O j ∧ O j < n) ∧ (∀ j l, 0 ≤ j → j < R → 0 ≤ l → l < R → O j = O l → j = l) ∧ (∀ x, 0 ≤ x → x < n → ((lab x).2.2 = -1 ↔ ¬ ∃ j, 0 ≤ j ∧ j < R ∧ O j = x)) ∧ (∀ j, 0 ≤ j → j < R → LD n L ct (O j) (lab (O j)) ∧ bL j (lab (O j))) ∧ lab 0 = (0, 0, 0) ∧ (∀ j e, 0 ≤ j → j < R → (j < i ∨ (j = i ∧ e < d)) → 0 ≤ e → e < 4 → ct (4 * O j + e) = 0 → ∃ l, 0 ≤ l ∧ l < R ∧ O l = aqL L (O j) e)
theorem LI.add {n : Int} {L B ct : Int → Int} {lab lab' : Int → L3} {O : Int → Int} {R i d : Int} (hg : SKN n L B) (h : LI n L ct lab O R i d) (i0 : 0 ≤ i) (i1 : i < R) (d0 : 0 ≤ d) (d1 : d < 4) (hc : ct (4 * O i + d) = 0) (hs : (lab (aqL L (O i) d)).2.2 = -1) (e1 : lab' (aqL L (O i) d) = crL L (O i) d (lab (O i))) (e2 : ∀ x, x ≠ aqL L (O i) d → lab' x = lab x) : R + 1 ≤ n ∧ LI n L ct lab' (ur O R (aqL L (O i) d)) (R + 1) i (d + 1) := by
  obtain ⟨a, b, c, e, g, f, z, k⟩ := h
  have oi := c i i0 i1
  have nx : 0 ≤ aqL L (O i) d ∧ aqL L (O i) d < n := (hg (O i) d oi.1 oi.2 d0 d1).1
  have new := (g _ nx.1 nx.2).1 hs
  have di := f i i0 i1
  have ege : EG n (ucL ct) (aqL L) (O i) d (aqL L (O i) d) := ⟨oi.1, oi.2, d0, d1, by unfold ucL; rw [if_pos hc]; omega, rfl⟩
  have dn : LD n L ct (aqL L (O i) d) (crL L (O i) d (lab (O i))) := DER.st di.1 ege
  have bn := crL_b (L := L) (k := O i) (s := d) di.2
  generalize hX : aqL L (O i) d = x at *
  have at1 : ∀ j, j < R → ur O R x j = O j := fun j hj => ur_ne _ _ (by omega)
  have ne : ∀ j, 0 ≤ j → j < R → O j ≠ x := fun j j0 j1 w => new ⟨j, j0, j1, w⟩
  have rng : ∀ j, 0 ≤ j → j < R + 1 → 0 ≤ ur O R x j ∧ ur O R x j < n := fun j j0 j1 => by
    by_cases q : j = R
    · rw [q, ur_eq]; exact nx
    · rw [at1 j (by omega)]; exact c j j0 (by omega)
  have inj : ∀ j l, 0 ≤ j → j < R + 1 → 0 ≤ l → l < R + 1 → ur O R x j = ur O R x l → j = l := fun j l j0 j1 l0 l1 q => by
    by_cases q1 : j = R
    · by_cases q2 : l = R
      · omega
      · rw [q1, ur_eq, at1 l (by omega)] at q; exact absurd q.symm (ne l l0 (by omega))
    · by_cases q2 : l = R
      · rw [q2, ur_eq, at1 j (by omega)] at q; exact absurd q (ne j j0 (by omega))
      · rw [at1 j (by omega), at1 l (by omega)] at q; exact e j l j0 (by omega) l0 (by omega) q
  have le : R + 1 ≤ n := by
    rcases row_le (by omega) rng inj with q | q
    · exact q
    · omega
  refine ⟨le, ⟨by omega, le⟩, by rw [at1 0 (by omega)]; exact b, rng, inj, fun y y0 y1 => ?_, fun j j0 j1 => ?_, ?_, fun j e' j0 j1 hj e0 e1' hcc => ?_⟩
  · by_cases q : y = x
    · rw [q, e1]
      have := dn.t
      constructor
      · intro w; omega
      · intro w; exact absurd ⟨R, by omega, by omega, ur_eq _ _ _⟩ w
    · rw [e2 y q, g y y0 y1]
      constructor
      · rintro w ⟨j, j0, j1, j2⟩
        by_cases v : j = R
        · rw [v, ur_eq] at j2; exact q j2.symm
        · rw [at1 j (by omega)] at j2; exact w ⟨j, j0, by omega, j2⟩
      · rintro w ⟨j, j0, j1, j2⟩
        exact w ⟨j, j0, by omega, by rw [at1 j j1]; exact j2⟩
  · by_cases q : j = R
    · rw [q, ur_eq, e1]
      obtain ⟨y1, y2⟩ := bn
      exact ⟨dn, by omega, by omega⟩
    · rw [at1 j (by omega), e2 _ (ne j j0 (by omega))]
      exact f j j0 (by omega)
  · have w : (0 : Int) ≠ x := fun w => by
      have := ne 0 (by omega) (by omega)
      rw [b] at this
      exact this w
    rw [e2 0 w]; exact z
  · have jR : j < R := by omega
    rw [at1 j jR] at hcc ⊢
    by_cases w : j = i ∧ e' = d
    · rw [w.1, w.2, hX]
      exact ⟨R, by omega, by omega, ur_eq _ _ _⟩
    · obtain ⟨l, l0, l1, l2⟩ := k j e' j0 jR (by omega) e0 e1' hcc
      exact ⟨l, l0, by omega, by rw [at1 l l1]; exact l2⟩
theorem LI.all {n : Int} {L B ct : Int → Int} {lab : Int → L3} {O : Int → Int} {R : Int} (hg : SKN n L B) (np : 0 < n) (h : LI n L ct lab O R R 0) : R = n ↔ ∀ k, 0 ≤ k → k < n → REG n (ucL ct) (aqL L) k := by
  obtain ⟨a, b, c, e, g, f, z, k⟩ := h
  constructor
  · intro q x x0 x1
    obtain ⟨i, i0, i1, i2⟩ := row_all (O := O) (by omega) (fun i i0 i1 => c i i0 (by omega)) (fun i j i0 i1 j0 j1 => e i j i0 (by omega) j0 (by omega)) x0 x1
    rw [← i2]
    exact (f i i0 (by omega)).1.r
  · intro all
    have ix : ∀ x, ∃ i, (0 ≤ x ∧ x < n) → (0 ≤ i ∧ i < R ∧ O i = x) := fun x => by
      by_cases q : 0 ≤ x ∧ x < n
      · have := all x q.1 q.2 (fun x => ∃ i, 0 ≤ i ∧ i < R ∧ O i = x) ⟨0, by omega, by omega, b⟩ (fun y d o g ⟨i, i0, i1, i2⟩ => by
          obtain ⟨-, -, d0, d1, hc, ho⟩ := g
          subst i2
          have hc' : ct (4 * O i + d) = 0 := by
            unfold ucL at hc
            by_cases w : ct (4 * O i + d) = 0
            · exact w
            · rw [if_neg w] at hc; exact absurd rfl hc
          obtain ⟨l, l0, l1, l2⟩ := k i d i0 i1 (by omega) d0 d1 hc'
          exact ⟨l, l0, l1, by rw [l2, ho]⟩)
        obtain ⟨i, hi⟩ := this
        exact ⟨i, fun _ => hi⟩
      · exact ⟨0, fun g => absurd g q⟩
    have hch : ∃ I : Int → Int, ∀ x, (0 ≤ x ∧ x < n) → (0 ≤ I x ∧ I x < R ∧ O (I x) = x) := ⟨fun x => Classical.choose (ix x), fun x => Classical.choose_spec (ix x)⟩
    obtain ⟨I, hI⟩ := hch
    rcases row_le (R := n) (n := R) (O := I) (by omega) (fun x x0 x1 => ⟨(hI x ⟨x0, x1⟩).1, (hI x ⟨x0, x1⟩).2.1⟩) (fun x y x0 x1 y0 y1 e => by
      have p := (hI x ⟨x0, x1⟩).2.2
      have q := (hI y ⟨y0, y1⟩).2.2
      rw [e] at p
      omega) with q | q
    · omega
    · omega
