/-! closed, on both sides -/
def ax3 (p : P6) : Prop := p.2.2.2.1 / 2 ≠ p.2.2.2.2.1 / 2 ∧ p.2.2.2.1 / 2 ≠ p.2.2.2.2.2 / 2 ∧ p.2.2.2.2.1 / 2 ≠ p.2.2.2.2.2 / 2
theorem x1_h {d : Int} (h : d6 d) : x1 d / 2 = d / 2 := (x1_r h.1 h.2).2.2
theorem hdF_h {d : Int} {p : P6} (h : vF p) : hdF d p / 2 = if d % 2 = 0 then p.2.2.2.2.1 / 2 else p.2.2.2.2.2 / 2 := by
  unfold hdF
  by_cases q : d % 2 = 0
  · rw [if_pos q, if_pos q]
    split
    · rfl
    · exact x1_h h.2.1
  · rw [if_neg q, if_neg q]
    split
    · rfl
    · exact x1_h h.2.2
theorem crF_a {d q : Int} {p : P6} (h : vF p) (a : ax3 p) : ax3 (crF d q p) := by
  have t6 := hdF_6 (d := d) h
  have th := hdF_h (d := d) h
  have fh := x1_h h.1
  have tt := x1_h t6
  have oh : (if d < 2 then onF q p.2.2.2.1 (hdF d p) else x1 (onF q p.2.2.2.1 (hdF d p))) / 2 = onF q p.2.2.2.1 (hdF d p) / 2 := by
    split
    · rfl
    · exact x1_h (onF_6 h.1 t6)
  have on : onF q p.2.2.2.1 (hdF d p) / 2 = if q = 1 ∨ q = -1 then p.2.2.2.1 / 2 else hdF d p / 2 := by
    unfold onF
    by_cases g : q = 1
    · rw [if_pos g, if_pos (Or.inl g)]; exact fh
    · rw [if_neg g]
      by_cases g2 : q = -1
      · rw [if_pos g2, if_pos (Or.inr g2)]
      · rw [if_neg g2, if_neg (by omega)]
  have fn : fnF q p.2.2.2.1 (hdF d p) / 2 = if q = 1 ∨ q = -1 then hdF d p / 2 else p.2.2.2.1 / 2 := by
    unfold fnF
    by_cases g : q = 1
    · rw [if_pos g, if_pos (Or.inl g)]
    · rw [if_neg g]
      by_cases g2 : q = -1
      · rw [if_pos g2, if_pos (Or.inr g2)]; exact tt
      · rw [if_neg g2, if_neg (by omega)]
  obtain ⟨a1, a2, a3⟩ := a
  unfold ax3 crF
  simp only
  by_cases e : d % 2 = 0
  · rw [if_pos e] at th
    simp only [if_pos e]
    rw [oh, on, fn, th]
    by_cases g : q = 1 ∨ q = -1
    · rw [if_pos g, if_pos g]; exact ⟨fun z => a1 z.symm, a3, a2⟩
    · rw [if_neg g, if_neg g]; exact ⟨a1, a2, a3⟩
  · rw [if_neg e] at th
    simp only [if_neg e]
    rw [oh, on, fn, th]
    by_cases g : q = 1 ∨ q = -1
    · rw [if_pos g, if_pos g]; exact ⟨fun z => a3 z.symm, fun z => a2 z.symm, fun z => a1 z.symm⟩
    · rw [if_neg g, if_neg g]; exact ⟨a1, a2, a3⟩
theorem FD.a {n : Int} {c4 nb : Int → Int → Int} {k : Int} {p : P6} (h : FD n c4 nb k p) : ax3 p :=
  (h (fun _ p => vF p ∧ ax3 p) ⟨⟨⟨by decide, by decide⟩, ⟨by decide, by decide⟩, ⟨by decide, by decide⟩⟩, by decide, by decide, by decide⟩ (fun _ _ _ _ _ q => ⟨crF_v q.1, crF_a q.1 q.2⟩)).2
/-- one side is another -/
abbrev SOn (p : P6) (d : Int) (p' : P6) (d' : Int) : Prop := p.1 + alO (hdF d p) 0 = p'.1 + alO (hdF d' p') 0 ∧ p.2.1 + alO (hdF d p) 1 = p'.2.1 + alO (hdF d' p') 1 ∧ p.2.2.1 + alO (hdF d p) 2 = p'.2.2.1 + alO (hdF d' p') 2 ∧ hdF ((d + 1) % 4) p / 2 = hdF ((d' + 1) % 4) p' / 2
def rmN (p : P6) (d : Int) : Int := 3 * (256 * (256 * (128 + p.1 + alO (hdF d p) 0) + 128 + p.2.1 + alO (hdF d p) 1) + 128 + p.2.2.1 + alO (hdF d p) 2) + hdF ((d + 1) % 4) p / 2
theorem rm_inj {A B C h A' B' C' h' : Int} (a : -121 ≤ A ∧ A ≤ 121) (b : -121 ≤ B ∧ B ≤ 121) (c : -121 ≤ C ∧ C ≤ 121) (q : 0 ≤ h ∧ h ≤ 2) (a' : -121 ≤ A' ∧ A' ≤ 121) (b' : -121 ≤ B' ∧ B' ≤ 121) (c' : -121 ≤ C' ∧ C' ≤ 121) (q' : 0 ≤ h' ∧ h' ≤ 2) (e : 3 * (256 * (256 * (128 + A) + 128 + B) + 128 + C) + h = 3 * (256 * (256 * (128 + A') + 128 + B') + 128 + C') + h') : A = A' ∧ B = B' ∧ C = C' ∧ h = h' := by
  have e1 : 256 * (256 * (128 + A) + 128 + B) + 128 + C = 256 * (256 * (128 + A') + 128 + B') + 128 + C' ∧ h = h' := by
    generalize 256 * (256 * (128 + A) + 128 + B) + 128 + C = N at *
    generalize 256 * (256 * (128 + A') + 128 + B') + 128 + C' = N' at *
    clear a b c a' b' c'
    omega
  have e2 : 256 * (128 + A) + 128 + B = 256 * (128 + A') + 128 + B' ∧ C = C' := by
    have e1 := e1.1
    generalize 256 * (128 + A) + 128 + B = N at *
    generalize 256 * (128 + A') + 128 + B' = N' at *
    clear a b a' b' q q' e
    omega
  have e3 : A = A' ∧ B = B' := by
    have e2 := e2.1
    clear c c' q q' e e1
    omega
  exact ⟨e3.1, e3.2, e2.2, e1.2⟩
theorem rmN_iff {p p' : P6} {d d' : Int} (hb : bF 120 p) (hb' : bF 120 p') (hv : vF p) (hv' : vF p') : rmN p d = rmN p' d' ↔ SOn p d p' d' := by
  have a0 := alO_b (hdF d p) 0
  have a1 := alO_b (hdF d p) 1
  have a2 := alO_b (hdF d p) 2
  have b0 := alO_b (hdF d' p') 0
  have b1 := alO_b (hdF d' p') 1
  have b2 := alO_b (hdF d' p') 2
  have h6 := hdF_6 (d := (d + 1) % 4) hv
  have h6' := hdF_6 (d := (d' + 1) % 4) hv'
  obtain ⟨x, y, z⟩ := hb
  obtain ⟨x', y', z'⟩ := hb'
  unfold rmN
  constructor
  · intro e
    refine rm_inj (by omega) (by omega) (by omega) (by omega) (by omega) (by omega) (by omega) (by omega) ?_
    rw [← Int.add_assoc, ← Int.add_assoc, ← Int.add_assoc, ← Int.add_assoc, ← Int.add_assoc, ← Int.add_assoc]
    exact e
  · rintro ⟨e1, e2, e3, e4⟩
    rw [e4, Int.add_assoc 128, e1, Int.add_assoc (256 * (128 + (p'.1 + alO (hdF d' p') 0)) + 128), e2, Int.add_assoc (256 * (256 * (128 + (p'.1 + alO (hdF d' p') 0)) + 128 + (p'.2.1 + alO (hdF d' p') 1)) + 128), e3]
    simp only [Int.add_assoc]
theorem al_inj : ∀ d : Fin 6, ∀ e : Fin 6, alO d.val 0 = alO e.val 0 → alO d.val 1 = alO e.val 1 → alO d.val 2 = alO e.val 2 → d.val = e.val := by decide +kernel
theorem x1_ne {d : Int} (h : d6 d) : x1 d ≠ d := by unfold x1; split <;> omega
/-- the four sides of a spot are different -/
theorem own {p : P6} {d d' : Int} (hv : vF p) (ha : ax3 p) (d0 : 0 ≤ d) (d1 : d < 4) (e0 : 0 ≤ d') (e1 : d' < 4) (h : SOn p d p d') : d = d' := by
  have h1 := hdF_6 (d := d) hv
  have h2 := hdF_6 (d := d') hv
  obtain ⟨s1, s2, s3, -⟩ := h
  have e := al_inj ⟨(hdF d p).toNat, by omega⟩ ⟨(hdF d' p).toNat, by omega⟩
  simp only [ix_cast h1.1, ix_cast h2.1] at e
  have eq := e (by omega) (by omega) (by omega)
  have he : hdF d p = hdF d' p := by omega
  have g1 := hdF_h (d := d) hv
  have g2 := hdF_h (d := d') hv
  rw [he, g2] at g1
  have par : d % 2 = d' % 2 := by
    by_cases q : d % 2 = 0
    · by_cases q' : d' % 2 = 0
      · omega
      · rw [if_pos q, if_neg q'] at g1; exact absurd g1.symm ha.2.2
    · by_cases q' : d' % 2 = 0
      · rw [if_neg q, if_pos q'] at g1; exact absurd g1 ha.2.2
      · omega
  unfold hdF at he
  rw [par] at he
  by_cases q : d < 2
  · by_cases q' : d' < 2
    · omega
    · rw [if_pos q, if_neg q'] at he
      by_cases w : d' % 2 = 0
      · rw [if_pos w] at he; exact absurd he.symm (x1_ne hv.2.1)
      · rw [if_neg w] at he; exact absurd he.symm (x1_ne hv.2.2)
  · by_cases q' : d' < 2
    · rw [if_neg q, if_pos q'] at he
      by_cases w : d' % 2 = 0
      · rw [if_pos w] at he; exact absurd he (x1_ne hv.2.1)
      · rw [if_neg w] at he; exact absurd he (x1_ne hv.2.2)
    · omega
/-- a side among all, and among those of the others -/
theorem rims {n : Int} {a b : Int → P6} (n0 : 0 ≤ n) (hab : ∀ k, 0 ≤ k → k < n → a k = b k) (hv : ∀ k, 0 ≤ k → k < n → vF (b k) ∧ ax3 (b k) ∧ bF 120 (b k)) {i : Int} (i0 : 0 ≤ i) (i1 : i < 4 * n) : cn (fun j => decide (rmN (a ((j : Int) / 4)) ((j : Int) % 4) = rmN (a (i / 4)) (i % 4))) (4 * n).toNat = 1 + cn (fun j => decide (i / 4 ≠ (j : Int) / 4 ∧ SOn (b (i / 4)) (i % 4) (b ((j : Int) / 4)) ((j : Int) % 4))) (4 * n).toNat := by
  rw [cn_split (fun j => decide (rmN (a ((j : Int) / 4)) ((j : Int) % 4) = rmN (a (i / 4)) (i % 4))) (fun j => decide (i / 4 = (j : Int) / 4)) (4 * n).toNat]
  have vi := hv (i / 4) (by omega) (by omega)
  have conv : ∀ j : Nat, j < (4 * n).toNat → (rmN (a ((j : Int) / 4)) ((j : Int) % 4) = rmN (a (i / 4)) (i % 4) ↔ SOn (b (i / 4)) (i % 4) (b ((j : Int) / 4)) ((j : Int) % 4)) := fun j hj => by
    have vj := hv ((j : Int) / 4) (by omega) (by omega)
    rw [hab _ (by omega) (by omega), hab _ (by omega) (by omega), ← rmN_iff vi.2.2 vj.2.2 vi.1 vj.1]
    exact ⟨fun e => e.symm, fun e => e.symm⟩
  have one : cn (fun j => decide (rmN (a ((j : Int) / 4)) ((j : Int) % 4) = rmN (a (i / 4)) (i % 4)) && decide (i / 4 = (j : Int) / 4)) (4 * n).toNat = 1 := by
    have only : ∀ j : Nat, j < (4 * n).toNat → (decide (rmN (a ((j : Int) / 4)) ((j : Int) % 4) = rmN (a (i / 4)) (i % 4)) && decide (i / 4 = (j : Int) / 4)) = true → (j : Int) = i := fun j hj g => by
      rw [Bool.and_eq_true] at g
      have g1 := (conv j hj).1 (of_decide_eq_true g.1)
      have g2 := of_decide_eq_true g.2
      rw [← g2] at g1
      have := own vi.1 vi.2.1 (by omega) (by omega) (by omega) (by omega) g1
      omega
    have le := cn_one (fun j => decide (rmN (a ((j : Int) / 4)) ((j : Int) % 4) = rmN (a (i / 4)) (i % 4)) && decide (i / 4 = (j : Int) / 4)) (4 * n).toNat (fun j l hj hl gj gl => by
      have := only j hj gj
      have := only l hl gl
      omega)
    have ge := cn_lt (fun _ => false) (fun j => decide (rmN (a ((j : Int) / 4)) ((j : Int) % 4) = rmN (a (i / 4)) (i % 4)) && decide (i / 4 = (j : Int) / 4)) (4 * n).toNat (fun _ _ g => absurd g (by decide)) ⟨i.toNat, by omega, by
      rw [ix_cast i0, Bool.and_eq_true]
      exact ⟨decide_eq_true rfl, decide_eq_true rfl⟩, rfl⟩
    omega
  rw [one]
  congr 1
  have le := cn_le (fun j => decide (rmN (a ((j : Int) / 4)) ((j : Int) % 4) = rmN (a (i / 4)) (i % 4)) && !decide (i / 4 = (j : Int) / 4)) (fun j => decide (i / 4 ≠ (j : Int) / 4 ∧ SOn (b (i / 4)) (i % 4) (b ((j : Int) / 4)) ((j : Int) % 4))) (4 * n).toNat (fun j hj g => by
    rw [Bool.and_eq_true] at g
    have g2 : ¬ i / 4 = (j : Int) / 4 := by simpa using g.2
    exact decide_eq_true ⟨g2, (conv j hj).1 (of_decide_eq_true g.1)⟩)
  have ge := cn_le (fun j => decide (i / 4 ≠ (j : Int) / 4 ∧ SOn (b (i / 4)) (i % 4) (b ((j : Int) / 4)) ((j : Int) % 4))) (fun j => decide (rmN (a ((j : Int) / 4)) ((j : Int) % 4) = rmN (a (i / 4)) (i % 4)) && !decide (i / 4 = (j : Int) / 4)) (4 * n).toNat (fun j hj g => by
    have g' := of_decide_eq_true g
    rw [Bool.and_eq_true]
    exact ⟨decide_eq_true ((conv j hj).2 g'.2), by simpa using g'.1⟩)
  omega
section C10h
variable {m : tM}
theorem c_rim {k d : Int} {K : Int → tM → Prop} (k0 : 0 ≤ k) (k1 : k < 60) (d0 : 0 ≤ d) (d1 : d < 4) (hv : vF (pose (m 125) k)) (hb : bF 120 (pose (m 125) k)) (h : K (rmN (pose (m 125) k) d) m) : Cli mX3_rim [rV 124, iV k, iV d] m K := by
  have t6 := hdF_6 (d := d) hv
  have h6 := hdF_6 (d := (d + 1) % 4) hv
  have a0 := alO_b (hdF d (pose (m 125) k)) 0
  have a1 := alO_b (hdF d (pose (m 125) k)) 1
  have a2 := alO_b (hdF d (pose (m 125) k)) 2
  obtain ⟨b0, b1, b2⟩ := hb
  have c0 : -120 ≤ m 125 (6 * k + 0) ∧ m 125 (6 * k + 0) ≤ 120 := by rw [Int.add_zero]; exact b0
  have c1 : -120 ≤ m 125 (6 * k + 1) ∧ m 125 (6 * k + 1) ≤ 120 := b1
  have c2 : -120 ≤ m 125 (6 * k + 2) ∧ m 125 (6 * k + 2) ≤ 120 := b2
  have en : rmN (pose (m 125) k) d = 3 * (256 * (256 * (256 * 0 + 128 + m 125 (6 * k + 0) + alO (hdF d (pose (m 125) k)) 0) + 128 + m 125 (6 * k + 1) + alO (hdF d (pose (m 125) k)) 1) + 128 + m 125 (6 * k + 2) + alO (hdF d (pose (m 125) k)) 2) + hdF ((d + 1) % 4) (pose (m 125) k) / 2 := by
    unfold rmN
    show 3 * (256 * (256 * (128 + m 125 (6 * k) + _) + 128 + m 125 (6 * k + 1) + _) + 128 + m 125 (6 * k + 2) + _) + _ = _
    rw [Int.add_zero]
    omega
  rw [en] at h
  refine wX3_rim_0 (c_heading k0 k1 d0 d1 hv ?_)
  generalize hdF d (pose (m 125) k) = t at *
  refine wX3_rim_13 ⟨fun _ => ⟨⟨by constructor <;> omega, by constructor <;> omega⟩, c_poseOf k0 k1 (by omega) (by omega) ⟨by constructor <;> omega, c_stepA t6 ⟨⟨by constructor <;> omega, by constructor <;> omega⟩, ?_⟩⟩⟩, fun g => absurd (by omega) g⟩
  rw [show (0 : Int) + 1 = 1 by omega]
  refine wX3_rim_13 ⟨fun _ => ⟨⟨by constructor <;> omega, by constructor <;> omega⟩, c_poseOf k0 k1 (by omega) (by omega) ⟨by constructor <;> omega, c_stepA t6 ⟨⟨by constructor <;> omega, by constructor <;> omega⟩, ?_⟩⟩⟩, fun g => absurd (by omega) g⟩
  rw [show (1 : Int) + 1 = 2 by omega]
  refine wX3_rim_13 ⟨fun _ => ⟨⟨by constructor <;> omega, by constructor <;> omega⟩, c_poseOf k0 k1 (by omega) (by omega) ⟨by constructor <;> omega, c_stepA t6 ⟨⟨by constructor <;> omega, by constructor <;> omega⟩, ?_⟩⟩⟩, fun g => absurd (by omega) g⟩
  refine wX3_rim_13 ⟨fun g => absurd g (by omega), fun _ => ⟨⟨by constructor <;> omega, by constructor <;> omega⟩, ?_⟩⟩
  rw [bAnd_3 (by constructor <;> omega)]
  refine c_heading k0 k1 (by omega) (by omega) hv ?_
  rw [bShr_1 (by constructor <;> omega)]
  exact ⟨by constructor <;> omega, _, rfl, h⟩
theorem c_times {n v : Int} {K : Int → tM → Prop} (hn : m 124 3 = n) (n0 : 0 ≤ n) (n1 : n ≤ 60) (h : K (cn (fun j => decide (m 127 (j : Int) = v)) (4 * n).toNat : Int) m) : Cli mX3_timesAmongRims [rV 124, iV v] m K := by
  refine wX3_timesAmongRims_0 ?_
  have key := up_ind (n := 4 * n) (fun i => Tj mX3_timesAmongRims 4 [some (rV 124), some (iV v), some (iV (cn (fun j => decide (m 127 (j : Int) = v)) i.toNat : Int)), some (iV i)] [] m (fun r m' => ∃ x, r = some (iV x) ∧ K x m')) ?_ ?_ (i := 0) (by omega) (by omega)
  · exact key
  · exact wX3_timesAmongRims_4 ⟨by rw [hn]; constructor <;> omega, fun g => absurd g (by rw [hn]; omega), fun _ => ⟨_, rfl, h⟩⟩
  · intro i i0 i1 ih
    have b := cn_bound (fun j => decide (m 127 (j : Int) = v)) i.toNat
    refine wX3_timesAmongRims_4 ⟨by rw [hn]; constructor <;> omega, fun _ => ⟨⟨i0, by omega⟩, fun w hw => ?_⟩, fun g => absurd (by rw [hn]; exact i1) g⟩
    have w2 : w = 0 ∨ w = 1 := by rw [hw]; split <;> omega
    refine ⟨⟨by constructor <;> omega, by constructor <;> omega⟩, ?_⟩
    have e : (cn (fun j => decide (m 127 (j : Int) = v)) i.toNat : Int) + w = (cn (fun j => decide (m 127 (j : Int) = v)) (i + 1).toNat : Int) := by
      rw [show (i + 1).toNat = i.toNat + 1 by omega]
      show _ = ((cn _ i.toNat + (if decide (m 127 (i.toNat : Int) = v) = true then 1 else 0) : Nat) : Int)
      rw [ix_cast i0, hw]
      by_cases q : m 127 i = v
      · rw [if_pos q, if_pos (decide_eq_true q)]; rfl
      · rw [if_neg q, if_neg (fun z => q (of_decide_eq_true z))]; rfl
    rw [e]
    exact ih
theorem c_leavesNoGap {n : Int} {K : Int → tM → Prop} (hn : m 124 3 = n) (n0 : 0 ≤ n) (n1 : n ≤ 60) (hv : ∀ k, 0 ≤ k → k < n → vF (pose (m 125) k) ∧ bF 120 (pose (m 125) k)) (h : ∀ r m', (∀ c, c ≠ 127 → m' c = m c) → ((r = 1 ∧ ∀ i, 0 ≤ i → i < 4 * n → cn (fun j => decide (rmN (pose (m 125) ((j : Int) / 4)) ((j : Int) % 4) = rmN (pose (m 125) (i / 4)) (i % 4))) (4 * n).toNat = 2) ∨ (r = 0 ∧ ∃ i, 0 ≤ i ∧ i < 4 * n ∧ cn (fun j => decide (rmN (pose (m 125) ((j : Int) / 4)) ((j : Int) % 4) = rmN (pose (m 125) (i / 4)) (i % 4))) (4 * n).toNat ≠ 2)) → K r m') : Cli mX3_leavesNoGap [rV 124] m K := by
  refine wX3_leavesNoGap_0 ?_
  have key := up_ind (n := n) (fun k => ∀ m', (∀ c, c ≠ 127 → m' c = m c) → (∀ j, 0 ≤ j → j < 4 * k → m' 127 j = rmN (pose (m 125) (j / 4)) (j % 4)) → Tj mX3_leavesNoGap 2 [some (rV 124), some (iV k)] [] m' (fun r m' => ∃ x, r = some (iV x) ∧ K x m')) ?_ ?_ (i := 0) (by omega) n0
  · exact key m (fun _ _ => rfl) (fun j j0 j1 => by omega)
  · intro m' fr hrow
    have e3 : m' 124 3 = n := by rw [fr 124 (by omega), hn]
    refine wX3_leavesNoGap_2 ⟨fun g => absurd g (by rw [e3]; omega), fun _ => ?_⟩
    have ecn : ∀ i, 0 ≤ i → i < 4 * n → cn (fun j => decide (m' 127 (j : Int) = m' 127 i)) (4 * n).toNat = cn (fun j => decide (rmN (pose (m 125) ((j : Int) / 4)) ((j : Int) % 4) = rmN (pose (m 125) (i / 4)) (i % 4))) (4 * n).toNat := fun i i0 i1 => by
      have le := cn_le (fun j => decide (m' 127 (j : Int) = m' 127 i)) (fun j => decide (rmN (pose (m 125) ((j : Int) / 4)) ((j : Int) % 4) = rmN (pose (m 125) (i / 4)) (i % 4))) (4 * n).toNat (fun j hj g => by
        have g' := of_decide_eq_true g
        rw [hrow j (by omega) (by omega), hrow i i0 i1] at g'
        exact decide_eq_true g')
      have ge := cn_le (fun j => decide (rmN (pose (m 125) ((j : Int) / 4)) ((j : Int) % 4) = rmN (pose (m 125) (i / 4)) (i % 4))) (fun j => decide (m' 127 (j : Int) = m' 127 i)) (4 * n).toNat (fun j hj g => by
        have g' := of_decide_eq_true g
        refine decide_eq_true ?_
        rw [hrow j (by omega) (by omega), hrow i i0 i1]
        exact g')
      omega
    have key2 := up_ind (n := 4 * n) (fun i => (∀ j, 0 ≤ j → j < i → cn (fun l => decide (m' 127 (l : Int) = m' 127 j)) (4 * n).toNat = 2) → Tj mX3_leavesNoGap 47 [some (rV 124), some (iV i)] [] m' (fun r m' => ∃ x, r = some (iV x) ∧ K x m')) ?_ ?_ (i := 0) (by omega) (by omega)
    · exact key2 (fun j j0 j1 => by omega)
    · intro ok
      exact wX3_leavesNoGap_47 ⟨by rw [e3]; constructor <;> omega, fun g => absurd g (by rw [e3]; omega), fun _ => ⟨_, rfl, h 1 m' fr (Or.inl ⟨rfl, fun i i0 i1 => by rw [← ecn i i0 i1]; exact ok i i0 i1⟩)⟩⟩
    · intro i i0 i1 ih ok
      refine wX3_leavesNoGap_47 ⟨by rw [e3]; constructor <;> omega, fun _ => ⟨⟨i0, by omega⟩, c_times e3 n0 n1 ⟨fun g => ⟨by constructor <;> omega, ih (fun j j0 j1 => ?_)⟩, fun g => ⟨_, rfl, h 0 m' fr (Or.inr ⟨rfl, i, i0, i1, fun z => g ?_⟩)⟩⟩⟩, fun g => absurd (by rw [e3]; exact i1) g⟩
      · by_cases q : j = i
        · rw [q]; exact Int.ofNat.inj g
        · exact ok j j0 (by omega)
      · rw [← ecn i i0 i1] at z
        rw [z]; rfl
  · intro k k0 k1 ih m' fr hrow
    have e3 : m' 124 3 = n := by rw [fr 124 (by omega), hn]
    refine wX3_leavesNoGap_2 ⟨fun _ => ?_, fun g => absurd (by rw [e3]; exact k1) g⟩
    have key2 := up_ind (n := 4) (fun d => ∀ m', (∀ c, c ≠ 127 → m' c = m c) → (∀ j, 0 ≤ j → j < 4 * k + d → m' 127 j = rmN (pose (m 125) (j / 4)) (j % 4)) → Tj mX3_leavesNoGap 12 [some (rV 124), some (iV k), some (iV d)] [] m' (fun r m' => ∃ x, r = some (iV x) ∧ K x m')) ?_ ?_ (i := 0) (by omega) (by omega)
    · exact key2 m' fr (fun j j0 j1 => hrow j j0 (by omega))
    · intro m' fr hrow
      exact wX3_leavesNoGap_12 ⟨fun g => by omega, fun _ => ⟨by constructor <;> omega, ih m' fr (fun j j0 j1 => hrow j j0 (by omega))⟩⟩
    · intro d d0 d1 ih2 m' fr hrow
      have e125 : m' 125 = m 125 := fr 125 (by omega)
      have vk := hv k k0 k1
      refine wX3_leavesNoGap_12 ⟨fun _ => ⟨⟨by constructor <;> omega, by constructor <;> omega⟩, c_rim k0 (by omega) d0 d1 (by rw [e125]; exact vk.1) (by rw [e125]; exact vk.2) ⟨⟨by omega, by omega, by constructor <;> omega⟩, ih2 _ (fun c hc => by rw [up_ne _ _ _ hc, fr c hc]) (fun j j0 j1 => ?_)⟩⟩, fun g => absurd d1 g⟩
      by_cases q : j = 4 * k + d
      · rw [q, up_at, e125, show (4 * k + d) / 4 = k by omega, show (4 * k + d) % 4 = d by omega]
      · rw [up_at_ne _ _ _ q]
        exact hrow j j0 (by omega)
theorem c_isOn {k d o e : Int} {K : Int → tM → Prop} (k0 : 0 ≤ k) (k1 : k < 60) (d0 : 0 ≤ d) (d1 : d < 4) (o0 : 0 ≤ o) (o1 : o < 60) (e0 : 0 ≤ e) (e1 : e < 4) (hv : vF (labM m k)) (hb : bF 120 (labM m k)) (hv' : vF (labM m o)) (hb' : bF 120 (labM m o)) (h : K (if SOn (labM m k) d (labM m o) e then 1 else 0) m) : Cli mX12_isOn [rV 145, iV k, iV d, iV o, iV e] m K := by
  have t6 := hdF_6 (d := d) hv
  have u6 := hdF_6 (d := e) hv'
  have t6' := hdF_6 (d := (d + 1) % 4) hv
  have u6' := hdF_6 (d := (e + 1) % 4) hv'
  have a0 := alO_b (hdF d (labM m k)) 0
  have a1 := alO_b (hdF d (labM m k)) 1
  have a2 := alO_b (hdF d (labM m k)) 2
  have c0 := alO_b (hdF e (labM m o)) 0
  have c1 := alO_b (hdF e (labM m o)) 1
  have c2 := alO_b (hdF e (labM m o)) 2
  obtain ⟨b0, b1, b2⟩ := hb
  obtain ⟨b0', b1', b2'⟩ := hb'
  have x0 : -120 ≤ m 168 k ∧ m 168 k ≤ 120 := b0
  have x1 : -120 ≤ m 169 k ∧ m 169 k ≤ 120 := b1
  have x2 : -120 ≤ m 170 k ∧ m 170 k ≤ 120 := b2
  have y0 : -120 ≤ m 168 o ∧ m 168 o ≤ 120 := b0'
  have y1 : -120 ≤ m 169 o ∧ m 169 o ≤ 120 := b1'
  have y2 : -120 ≤ m 170 o ∧ m 170 o ≤ 120 := b2'
  have no : ¬ SOn (labM m k) d (labM m o) e → K 0 m := fun q => by rw [if_neg q] at h; exact h
  refine wX12_isOn_0 (c_toward k0 k1 d0 d1 hv (c_toward o0 o1 e0 e1 hv' ⟨⟨k0, k1⟩, c_alongOf t6.1 ⟨⟨by constructor <;> omega, o0, o1⟩, c_alongOf u6.1 ⟨by constructor <;> omega, fun g1 => c_alongOf t6.1 ⟨by constructor <;> omega, c_alongOf u6.1 ⟨by constructor <;> omega, fun v1 h1 => ⟨fun g2 => ⟨_, rfl, no (fun z => ?_)⟩, fun g2 => c_alongOf t6.1 ⟨by constructor <;> omega, c_alongOf u6.1 ⟨by constructor <;> omega, fun v2 h2 => ⟨fun g3 => ⟨_, rfl, no (fun z => ?_)⟩, fun g3 => ⟨⟨by constructor <;> omega, by omega⟩, c_toward k0 k1 (by omega) (by omega) hv ⟨⟨t6'.1, by constructor <;> omega, by omega⟩, c_toward o0 o1 (by omega) (by omega) hv' ⟨u6'.1, fun v3 h3 => ⟨_, rfl, ?_⟩⟩⟩⟩⟩⟩⟩⟩⟩⟩, fun g1 => ⟨_, rfl, no (fun z => g1 z.1)⟩⟩⟩⟩))
  · rw [if_pos (show m 169 k + alO (hdF d (labM m k)) 1 = m 169 o + alO (hdF e (labM m o)) 1 from z.2.1)] at h1; omega
  · rw [if_pos (show m 170 k + alO (hdF d (labM m k)) 2 = m 170 o + alO (hdF e (labM m o)) 2 from z.2.2.1)] at h2; omega
  · have q2 : m 169 k + alO (hdF d (labM m k)) 1 = m 169 o + alO (hdF e (labM m o)) 1 := by
      by_cases w : m 169 k + alO (hdF d (labM m k)) 1 = m 169 o + alO (hdF e (labM m o)) 1
      · exact w
      · rw [if_neg w] at h1; exact absurd h1 g2
    have q3 : m 170 k + alO (hdF d (labM m k)) 2 = m 170 o + alO (hdF e (labM m o)) 2 := by
      by_cases w : m 170 k + alO (hdF d (labM m k)) 2 = m 170 o + alO (hdF e (labM m o)) 2
      · exact w
      · rw [if_neg w] at h2; exact absurd h2 g3
    by_cases w : hdF ((d + 1) % 4) (labM m k) / 2 = hdF ((e + 1) % 4) (labM m o) / 2
    · rw [if_pos w] at h3
      rw [if_pos ⟨g1, q2, q3, w⟩] at h
      rw [h3]; exact h
    · rw [if_neg w] at h3
      rw [if_neg (fun z => w z.2.2.2)] at h
      rw [h3]; exact h
theorem sim_closed {K : Int → Int → tM → Prop} (h : Rel m) (hk : ∀ r m', Rel m' → K r r m') : Cli mX11_closed [rV 0] m (fun r m1 => Cli mX12_closed [rV 145] m1 (fun r' m2 => K r r' m2)) := by
  have nn := h.1.n
  have e4 := h.1.eq.1
  refine wX11_closed_0 (run_rel h (fun r m1 R => ⟨fun z => ?_, fun z => ⟨_, rfl, wX12_closed_0 (fold_rel h R (fun c hc => R.1 c (by omega)) rfl (fun m2 f2 rel _ => ⟨fun y => absurd y z, fun _ => ⟨_, rfl, hk _ _ rel⟩⟩))⟩⟩))
  -- the class's poses
  have vC : ∀ k, 0 ≤ k → k < m 6 3 → vF (pose (m1 125) k) ∧ bF 120 (pose (m1 125) k) := fun k k0 k1 => by
    obtain ⟨f1', e124, p1, s, hw, rc, rm, rff⟩ := R
    have all : 0 < m 6 3 ∧ ∀ k, 0 ≤ k → k < m 6 3 → REG (m 6 3) (cG s (m 7) (m 8)) (nG (m 6 3) (m 7) (m 8)) k := by
      refine Classical.byContradiction (fun no => ?_)
      have := rff.1 no
      omega
    obtain ⟨fd, b⟩ := (rff.2 all).1 k k0 k1
    exact ⟨fd.v, b⟩
  refine c_leavesNoGap (n := m 6 3) R.2.1 nn.1 nn.2 vC (fun r2 m2 f2 hr2 v hv => ⟨_, rfl, wX12_closed_0 (fold_rel h R (fun c hc => by rw [f2 c (by omega), R.1 c (by omega)]) (f2 125 (by omega)) (fun m3 f3 rel hp => ⟨fun _ => ?_, fun y => absurd z y⟩))⟩)
  have hp' := hp z
  have vM : ∀ k, 0 ≤ k → k < m 6 3 → vF (labM m3 k) ∧ ax3 (labM m3 k) ∧ bF 120 (labM m3 k) := fun k k0 k1 => by
    obtain ⟨-, ⟨s, fd⟩, b⟩ := hp' k k0 k1
    exact ⟨fd.v, fd.a, b⟩
  have cnt := fun {i : Int} (i0 : 0 ≤ i) (i1 : i < 4 * m 6 3) => rims (a := pose (m1 125)) (b := labM m3) nn.1 (fun k k0 k1 => (hp' k k0 k1).1) vM i0 i1
  have e34 : m3 145 4 = m 6 3 := by rw [f3 145 (by omega), up_at_ne _ _ _ (by omega), f2 145 (by omega), R.1 145 (by omega), e4]
  have key := up_ind (n := 4 * m 6 3) (fun i => (∀ j, 0 ≤ j → j < i → cn (fun l => decide (j / 4 ≠ (l : Int) / 4 ∧ SOn (labM m3 (j / 4)) (j % 4) (labM m3 ((l : Int) / 4)) ((l : Int) % 4))) (4 * m 6 3).toNat = 1) → Tj mX12_closed 16 [some (rV 145), some (iV i)] [] m3 (fun r m' => ∃ x, r = some (iV x) ∧ K v x m')) ?_ ?_ (i := 0) (by omega) (by omega)
  · exact key (fun j j0 j1 => by omega)
  · intro ok
    refine wX12_closed_16 ⟨by rw [e34]; constructor <;> omega, fun g => absurd g (by rw [e34]; omega), fun _ => ⟨_, rfl, ?_⟩⟩
    have ev : v = 1 := by
      rcases hr2 with ⟨r1, -⟩ | ⟨r0, i, i0, i1, ne⟩
      · rw [hv, if_neg (by omega)]
      · have := cnt i0 i1
        rw [ok i i0 i1] at this
        exact absurd this ne
    rw [ev]
    exact hk _ _ rel
  · intro i i0 i1 ih ok
    refine wX12_closed_16 ⟨by rw [e34]; constructor <;> omega, fun _ => ?_, fun g => absurd (by rw [e34]; exact i1) g⟩
    have key2 := up_ind (n := 4 * m 6 3) (fun o => Tj mX12_closed 30 [some (rV 145), some (iV i), some (iV (cn (fun l => decide (i / 4 ≠ (l : Int) / 4 ∧ SOn (labM m3 (i / 4)) (i % 4) (labM m3 ((l : Int) / 4)) ((l : Int) % 4))) o.toNat : Int)), some (iV o)] [] m3 (fun r m' => ∃ x, r = some (iV x) ∧ K v x m')) ?_ ?_ (i := 0) (by omega) (by omega)
    · exact key2
    · refine wX12_closed_30 ⟨by rw [e34]; constructor <;> omega, fun g => absurd g (by rw [e34]; omega), fun _ => ⟨fun g => ⟨by constructor <;> omega, ih (fun j j0 j1 => ?_)⟩, fun g => ⟨_, rfl, ?_⟩⟩⟩
      · by_cases q : j = i
        · rw [q]; exact Int.ofNat.inj g
        · exact ok j j0 (by omega)
      · have ev : v = 0 := by
          rcases hr2 with ⟨r1, al⟩ | ⟨r0, -⟩
          · have := cnt i0 i1
            rw [al i i0 i1] at this
            exact absurd (show ((cn (fun l => decide (i / 4 ≠ (l : Int) / 4 ∧ SOn (labM m3 (i / 4)) (i % 4) (labM m3 ((l : Int) / 4)) ((l : Int) % 4))) (4 * m 6 3).toNat : Nat) : Int) = 1 by omega) g
          · rw [hv, if_pos r0]
        rw [ev]
        exact hk _ _ rel
    · intro o o0 o1 ih2
      have b := cn_bound (fun l => decide (i / 4 ≠ (l : Int) / 4 ∧ SOn (labM m3 (i / 4)) (i % 4) (labM m3 ((l : Int) / 4)) ((l : Int) % 4))) o.toNat
      have nx : (cn (fun l => decide (i / 4 ≠ (l : Int) / 4 ∧ SOn (labM m3 (i / 4)) (i % 4) (labM m3 ((l : Int) / 4)) ((l : Int) % 4))) (o + 1).toNat : Int) = (cn (fun l => decide (i / 4 ≠ (l : Int) / 4 ∧ SOn (labM m3 (i / 4)) (i % 4) (labM m3 ((l : Int) / 4)) ((l : Int) % 4))) o.toNat : Int) + (if i / 4 ≠ o / 4 ∧ SOn (labM m3 (i / 4)) (i % 4) (labM m3 (o / 4)) (o % 4) then 1 else 0) := by
        rw [show (o + 1).toNat = o.toNat + 1 by omega]
        show ((cn _ o.toNat + (if decide (i / 4 ≠ (o.toNat : Int) / 4 ∧ SOn (labM m3 (i / 4)) (i % 4) (labM m3 ((o.toNat : Int) / 4)) ((o.toNat : Int) % 4)) = true then 1 else 0) : Nat) : Int) = _
        rw [ix_cast o0]
        by_cases q : i / 4 ≠ o / 4 ∧ SOn (labM m3 (i / 4)) (i % 4) (labM m3 (o / 4)) (o % 4)
        · rw [if_pos (decide_eq_true q), if_pos q]; rfl
        · rw [if_neg (fun z => q (of_decide_eq_true z)), if_neg q]; rfl
      have v1 := vM (i / 4) (by omega) (by omega)
      have v2 := vM (o / 4) (by omega) (by omega)
      refine wX12_closed_30 ⟨by rw [e34]; constructor <;> omega, fun _ => ⟨⟨i0, o0⟩, fun g => ⟨⟨by constructor <;> omega, by constructor <;> omega⟩, ?_⟩, fun g => c_isOn (by omega) (by omega) (by omega) (by omega) (by omega) (by omega) (by omega) (by omega) v1.1 v1.2.2 v2.1 v2.2.2 (fun w hw => ?_)⟩, fun g => absurd (by rw [e34]; exact o1) g⟩
      · rw [if_neg (fun z => z.1 g)] at nx
        rw [← nx]; exact ih2
      · have w2 : w = if i / 4 ≠ o / 4 ∧ SOn (labM m3 (i / 4)) (i % 4) (labM m3 (o / 4)) (o % 4) then 1 else 0 := by
          rw [hw]
          by_cases q : SOn (labM m3 (i / 4)) (i % 4) (labM m3 (o / 4)) (o % 4)
          · rw [if_pos q, if_neg (by omega), if_pos ⟨g, q⟩]
          · rw [if_neg q, if_pos rfl, if_neg (fun z => q z.2)]
        have w3 : w = 0 ∨ w = 1 := by rw [w2]; split <;> omega
        refine ⟨⟨by constructor <;> omega, by constructor <;> omega⟩, ?_⟩
        rw [w2, ← nx]; exact ih2
end C10h
