/-! fold and where, on both sides; what holds between the calls -/
def Rel (m : tM) : Prop := Cur m ∧ HisR m ∧ HUc m ∧ SHV m ∧ pose (m 125) 0 = p0F
theorem EG.congr {n : Int} {c4 nb c4' nb' : Int → Int → Int} (h : ∀ k d, 0 ≤ k → k < n → c4' k d = c4 k d ∧ nb' k d = nb k d) (k d o : Int) : EG n c4 nb k d o ↔ EG n c4' nb' k d o := by
  constructor
  · rintro ⟨a, b, c, d', e, f⟩
    obtain ⟨x, y⟩ := h k d a b
    exact ⟨a, b, c, d', by rw [x]; exact e, by rw [y]; exact f⟩
  · rintro ⟨a, b, c, d', e, f⟩
    obtain ⟨x, y⟩ := h k d a b
    exact ⟨a, b, c, d', by rw [← x]; exact e, by rw [← y]; exact f⟩
theorem RFF.congr {n : Int} {c4 nb c4' nb' : Int → Int → Int} {lab : Int → P6} {r : Int} (h : ∀ k d, 0 ≤ k → k < n → c4' k d = c4 k d ∧ nb' k d = nb k d) (g : RFF n c4 nb lab r) : RFF n c4' nb' lab r := by
  have hE := EG.congr h
  have reg : ∀ k, REG n c4 nb k ↔ REG n c4' nb' k := fun k => ⟨fun x Q q hs => x Q q (fun k d o e => hs k d o ((hE k d o).1 e)), fun x Q q hs => x Q q (fun k d o e => hs k d o ((hE k d o).2 e))⟩
  have fd : ∀ k p, FD n c4 nb k p → FD n c4' nb' k p := fun k p x Q q hs => x Q q (fun k d o l e ql => by
    show Q o (crF d (c4 k d - 2) l)
    rw [← (h k d e.1 e.2.1).1]
    exact hs k d o l ((hE k d o).1 e) ql)
  have cns : CNS n c4 nb (fun k d => crF d (c4 k d - 2)) lab ↔ CNS n c4' nb' (fun k d => crF d (c4' k d - 2)) lab := by
    constructor
    · intro x k d o e
      have e' := (hE k d o).2 e
      have := x k d o e'
      show lab o = crF d (c4' k d - 2) (lab k)
      rw [(h k d e.1 e.2.1).1]
      exact this
    · intro x k d o e
      have e' := (hE k d o).1 e
      have := x k d o e'
      show lab o = crF d (c4 k d - 2) (lab k)
      rw [← (h k d e.1 e.2.1).1]
      exact this
  have all : (0 < n ∧ ∀ k, 0 ≤ k → k < n → REG n c4 nb k) ↔ (0 < n ∧ ∀ k, 0 ≤ k → k < n → REG n c4' nb' k) := ⟨fun x => ⟨x.1, fun k k0 k1 => (reg k).1 (x.2 k k0 k1)⟩, fun x => ⟨x.1, fun k k0 k1 => (reg k).2 (x.2 k k0 k1)⟩⟩
  refine ⟨fun z => g.1 (fun y => z (all.1 y)), fun z => ?_⟩
  obtain ⟨a, b, c, d⟩ := g.2 (all.2 z)
  exact ⟨fun k k0 k1 => ⟨fd k _ (a k k0 k1).1, (a k k0 k1).2⟩, b, fun y => c (fun w => y (cns.1 w)), fun y => d (cns.2 y)⟩
section C10g
variable {m : tM}
/-- the folding's cells have changed, nothing else -/
theorem fold_same {m' : tM} (h : Rel m) (f1 : ∀ a, a < 120 ∨ (127 < a ∧ a < 145) → m' a = m a) (f2 : ∀ a, 146 ≤ a → a ≤ 155 → m' a = m a) (e4 : m' 145 4 = m 145 4) (e12 : m' 145 12 = m 145 12) (e13 : m' 145 13 = m 145 13) (hp : pose (m' 125) 0 = p0F) : Rel m' := by
  obtain ⟨hc, hh, hu, hs, -⟩ := h
  refine ⟨?_, hh.congr (fun a a0 a1 => f1 a (by omega)) (f2 155 (by omega) (by omega)) e12 e13, ?_, hs.congr (fun c hc => ?_), hp⟩
  · show STR (m' 3) (m' 5) (m' 6 3) (m' 7) (m' 8) (m' 9) (m' 146) (m' 147) (m' 148) (m' 145 4) (m' 149) (m' 150) (m' 151) (m' 152)
    rw [f1 3 (by omega), f1 5 (by omega), f1 6 (by omega), f1 7 (by omega), f1 8 (by omega), f1 9 (by omega), f2 146 (by omega) (by omega), f2 147 (by omega) (by omega), f2 148 (by omega) (by omega), e4, f2 149 (by omega) (by omega), f2 150 (by omega) (by omega), f2 151 (by omega) (by omega), f2 152 (by omega) (by omega)]
    exact hc
  · show HU m' (nrm (m' 147))
    rw [f2 147 (by omega) (by omega)]
    exact hu.congr (fun a a0 a1 => f1 a (by omega))
  · by_cases q : c < 145
    · exact f1 c (by omega)
    · exact f2 c (by omega) (by omega)
/-- the class has folded -/
def RUNR (m : tM) (r : Int) (m1 : tM) : Prop := (∀ c, c < 120 ∨ 126 < c → m1 c = m c) ∧ m1 124 3 = m 6 3 ∧ pose (m1 125) 0 = p0F ∧ ∃ s, WF s ∧ RepC (m 6 3) (m 7) (m 8) (m 9) s ∧ RepM (m 145 4) (m 149) (m 150) (m 151) (m 152) s ∧ RFF (m 6 3) (cG s (m 7) (m 8)) (nG (m 6 3) (m 7) (m 8)) (pose (m1 125)) r
theorem run_rel {K : Int → tM → Prop} (h : Rel m) (hk : ∀ r m1, RUNR m r m1 → K r m1) : Cli mX3_run [rV 124, rV 6, rV 120] m K := by
  obtain ⟨hc, hh, hu, hs, hp⟩ := id h
  obtain ⟨-, -, s, hw, rc, rm⟩ := id hc
  exact c_runF rc hw hp (fun r m1 f1 e124 p1 rff => hk r m1 ⟨f1, e124, p1, s, hw, rc, rm, rff⟩)
/-- then the reference: one number, and the same poses -/
theorem fold_rel {r : Int} {m1 mm : tM} {K : Int → tM → Prop} (h : Rel m) (R : RUNR m r m1) (fm : ∀ c, c < 120 ∨ 127 < c → mm c = m c) (e125 : mm 125 = m1 125) (hk : ∀ m2, (∀ c, c < 167 ∨ 173 < c → m2 c = (up mm 145 0 0) c) → Rel m2 → (r = 0 → ∀ k, 0 ≤ k → k < m 6 3 → pose (m1 125) k = labM m2 k ∧ (∃ s, FD (m 6 3) (cG s (m 7) (m 8)) (nG (m 6 3) (m 7) (m 8)) k (labM m2 k)) ∧ bF 120 (labM m2 k)) → K r m2) : Cli mX12_foldOf [rV 145] (up mm 145 0 0) K := by
  obtain ⟨f1, e124, p1, s, hw, rc, rm, rff⟩ := R
  have ce := h.1.eq
  have u : ∀ c, 127 < c → c ≠ 145 → (up mm 145 0 0) c = m c := fun c c1 c2 => by rw [up_ne _ _ _ c2, fm c (by omega)]
  have u145 : ∀ j, j ≠ 0 → (up mm 145 0 0) 145 j = m 145 j := fun j hj => by rw [up_at_ne _ _ _ hj, fm 145 (by omega)]
  refine c_foldOf (by rw [u145 4 (by omega), u 149 (by omega) (by omega), u 150 (by omega) (by omega), u 151 (by omega) (by omega), u 152 (by omega) (by omega)]; exact rm) hw (fun r' m2 f2 rff' => ?_)
  rw [u145 4 (by omega), u 149 (by omega) (by omega), u 150 (by omega) (by omega), ← ce.1] at rff'
  have rff2 := RFF.congr (c4' := cG s (m 7) (m 8)) (nb' := nG (m 6 3) (m 7) (m 8)) (fun k d k0 k1 => by
    obtain ⟨x, y⟩ := ce.2 k k0 k1
    constructor
    · show s4 s (m 7 k) (m 8 k) d = s4 s (m 149 k) (m 150 k) d
      rw [x, y]
    · show fnd (m 6 3) (m 7) (m 8) (m 7 k + dX d) (m 8 k + dY d) = fnd (m 6 3) (m 149) (m 150) (m 149 k + dX d) (m 150 k + dY d)
      have hs' : srt (m 6 3) (m 149) (m 150) := by rw [ce.1]; exact rm.1.2.2.1
      rw [x, y]
      exact fnd_congr hs' (fun j j0 j1 => (ce.2 j j0 j1).1) (fun j j0 j1 => (ce.2 j j0 j1).2) _ _) rff'
  obtain ⟨er, ep⟩ := RFF.uniq (GRs rc.1 hw) rff rff2
  have e125' : m2 125 = m1 125 := by rw [f2 125 (by omega), up_ne _ _ _ (by omega), e125]
  have rel : Rel m2 := fold_same h (fun a ha => by rw [f2 a (by omega), up_ne _ _ _ (by omega), fm a (by omega)]) (fun a a0 a1 => by rw [f2 a (by omega), u a (by omega) (by omega)]) (by rw [f2 145 (by omega), u145 4 (by omega)]) (by rw [f2 145 (by omega), u145 12 (by omega)]) (by rw [f2 145 (by omega), u145 13 (by omega)]) (by rw [e125']; exact p1)
  have fin := hk m2 f2 rel (fun z k k0 k1 => by
    refine ⟨ep z k k0 k1, ?_⟩
    by_cases q : 0 < m 6 3 ∧ ∀ k, 0 ≤ k → k < m 6 3 → REG (m 6 3) (cG s (m 7) (m 8)) (nG (m 6 3) (m 7) (m 8)) k
    · have := (rff2.2 q).1 k k0 k1
      exact ⟨⟨s, this.1⟩, this.2⟩
    · have := rff.1 q
      omega)
  rw [← er]
  exact fin
theorem sim_fold {K : Int → Int → tM → Prop} (h : Rel m) (hk : ∀ r m', Rel m' → K r r m') : Cli mX11_fold [rV 0] m (fun r m1 => Cli mX12_fold [rV 145] m1 (fun r' m2 => K r r' m2)) :=
  wX11_fold_0 (run_rel h (fun r m1 R => ⟨_, rfl, wX12_fold_0 (fold_rel h R (fun c hc => R.1 c (by omega)) rfl (fun m2 f2 rel _ => ⟨_, rfl, hk r m2 rel⟩))⟩))
theorem rel_up0 (h : Rel m) : Rel (up m 145 0 0) := by
  obtain ⟨hc, hh, hu, hs, hp⟩ := id h
  obtain ⟨i1, i2, i3, i4⟩ := idleB hc hh hu
  exact ⟨i1, i2, i3, hs.congr (fun c hc => up_ne _ _ _ (by omega)), by rw [up_ne _ _ _ (by omega)]; exact hp⟩
theorem sim_where {p w : Int} {K : Int → Int → tM → Prop} (h : Rel m) (hk : ∀ r m', Rel m' → K r r m') : Cli mX11_where [rV 0, iV p, iV w] m (fun r m1 => Cli mX12_where [rV 145, iV p, iV w] m1 (fun r' m2 => K r r' m2)) := by
  have h0 := rel_up0 h
  have nn := h.1.n
  have e4 := h.1.eq.1
  have bad : (¬ ((0 ≤ p ∧ p < m 6 3) ∧ (0 ≤ w ∧ w < 5))) → Cli mX12_where [rV 145, iV p, iV w] m (fun r' m2 => K (-3) r' m2) := fun no => by
    refine wX12_where_0 ⟨by constructor <;> omega, c_in ⟨fun _ => ⟨_, rfl, hk _ _ h0⟩, fun g1 => c_in ⟨fun _ => ⟨_, rfl, hk _ _ h0⟩, fun g2 => absurd ?_ no⟩⟩⟩
    have := if11 g1
    have := if11 g2
    omega
  refine wX11_where_0 (c_size shS_6 (c_isWithin ⟨fun g => ⟨_, rfl, bad (fun z => if10 g z.1)⟩, fun g => c_isWithin ⟨fun g2 => ⟨_, rfl, bad (fun z => if10 g2 z.2)⟩, fun g2 => run_rel h (fun r m1 R => ?_)⟩⟩))
  have pp := if11 g
  have pw := if11 g2
  have f1 := R.1
  have e14 : m1 145 4 = m 6 3 := by rw [f1 145 (by omega), e4]
  -- the reference
  have ref : ∀ v, (r = 0 → ∀ y, y = m1 125 (6 * p + w) → v = if y < 0 then y + 1000 else y) → (¬ r = 0 → v = -4) → Cli mX12_where [rV 145, iV p, iV w] m1 (fun r' m2 => K v r' m2) := fun v v1 v2 => by
    refine wX12_where_0 ⟨by rw [e14]; constructor <;> omega, c_in ⟨fun g3 => absurd (if10 g3) (by rw [e14]; omega), fun _ => c_in ⟨fun g3 => absurd (if10 g3) (by omega), fun _ => fold_rel h R (fun c hc => f1 c (by omega)) rfl (fun m2 f2 rel hp => ⟨fun z => ?_, fun z => ⟨_, rfl, by rw [v2 z]; exact hk _ _ rel⟩⟩)⟩⟩⟩
    obtain ⟨ep, -, b1, b2, b3⟩ := hp z p pp.1 pp.2
    obtain ⟨s, fd⟩ := (hp z p pp.1 pp.2).2.1
    obtain ⟨d1, d2, -⟩ := fd.v
    have q0 : m1 125 (6 * p) = m2 168 p := congrArg (fun z : P6 => z.1) ep
    have q1 : m1 125 (6 * p + 1) = m2 169 p := congrArg (fun z : P6 => z.2.1) ep
    have q2 : m1 125 (6 * p + 2) = m2 170 p := congrArg (fun z : P6 => z.2.2.1) ep
    have q3 : m1 125 (6 * p + 3) = m2 173 p := congrArg (fun z : P6 => z.2.2.2.1) ep
    have q4 : m1 125 (6 * p + 4) = m2 171 p := congrArg (fun z : P6 => z.2.2.2.2.1) ep
    have c1 : -120 ≤ m2 168 p ∧ m2 168 p ≤ 120 := b1
    have c2 : -120 ≤ m2 169 p ∧ m2 169 p ≤ 120 := b2
    have c3 : -120 ≤ m2 170 p ∧ m2 170 p ≤ 120 := b3
    have c4 : 0 ≤ m2 173 p ∧ m2 173 p < 6 := d1
    have c5 : 0 ≤ m2 171 p ∧ m2 171 p < 6 := d2
    have fin : ∀ y, y = m1 125 (6 * p + w) → (-1000 ≤ y ∧ y ≤ 1000) → (y < 0 → (R32 (y + 1000) ∧ ∃ n, some (iV (y + 1000)) = some (iV n) ∧ K v n m2)) ∧ (¬ y < 0 → ∃ n, some (iV y) = some (iV n) ∧ K v n m2) := fun y hy by' => by
      have e := v1 z y hy
      refine ⟨fun g => ⟨by constructor <;> omega, _, rfl, ?_⟩, fun g => ⟨_, rfl, ?_⟩⟩
      · rw [if_pos g] at e; rw [e]; exact hk _ _ rel
      · rw [if_neg g] at e; rw [e]; exact hk _ _ rel
    refine ⟨fun a => ⟨⟨pp.1, by omega⟩, fin _ (by rw [a, Int.add_zero, q0]) (by omega)⟩, fun a => ⟨fun b => ⟨⟨pp.1, by omega⟩, fin _ (by rw [b, q1]) (by omega)⟩, fun b => ⟨fun x => ⟨⟨pp.1, by omega⟩, fin _ (by rw [x, q2]) (by omega)⟩, fun x => ⟨fun y => ⟨⟨pp.1, by omega⟩, fin _ (by rw [y, q3]) (by omega)⟩, fun y => ⟨⟨pp.1, by omega⟩, fin _ (by rw [show w = 4 by omega, q4]) (by omega)⟩⟩⟩⟩⟩
  refine ⟨fun z => c_poseOf pp.1 (by omega) pw.1 (by omega) ?_, fun z => ⟨_, rfl, ref _ (fun y => absurd y z) (fun _ => rfl)⟩⟩
  -- the class's number is small
  obtain ⟨f1', e124, p1, s, hw, rc, rm, rff⟩ := R
  have all : 0 < m 6 3 ∧ ∀ k, 0 ≤ k → k < m 6 3 → REG (m 6 3) (cG s (m 7) (m 8)) (nG (m 6 3) (m 7) (m 8)) k := by
    refine Classical.byContradiction (fun no => ?_)
    have := rff.1 no
    omega
  obtain ⟨fd, b1, b2, b3⟩ := (rff.2 all).1 p pp.1 pp.2
  obtain ⟨d1, d2, -⟩ := fd.v
  have c1 : -120 ≤ m1 125 (6 * p) ∧ m1 125 (6 * p) ≤ 120 := b1
  have c2 : -120 ≤ m1 125 (6 * p + 1) ∧ m1 125 (6 * p + 1) ≤ 120 := b2
  have c3 : -120 ≤ m1 125 (6 * p + 2) ∧ m1 125 (6 * p + 2) ≤ 120 := b3
  have c4 : 0 ≤ m1 125 (6 * p + 3) ∧ m1 125 (6 * p + 3) < 6 := d1
  have c5 : 0 ≤ m1 125 (6 * p + 4) ∧ m1 125 (6 * p + 4) < 6 := d2
  have sm : -120 ≤ m1 125 (6 * p + w) ∧ m1 125 (6 * p + w) ≤ 120 := by
    rcases (show w = 0 ∨ w = 1 ∨ w = 2 ∨ w = 3 ∨ w = 4 by omega) with rfl | rfl | rfl | rfl | rfl
    · rw [Int.add_zero]; exact c1
    · exact c2
    · exact c3
    · omega
    · omega
  refine ⟨fun g3 => ⟨by constructor <;> omega, _, rfl, ref _ (fun _ y hy => by rw [hy, if_pos g3]) (fun y => absurd z y)⟩, fun g3 => ⟨_, rfl, ref _ (fun _ y hy => by rw [hy, if_neg g3]) (fun y => absurd z y)⟩⟩
end C10g
