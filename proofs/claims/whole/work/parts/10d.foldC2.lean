/-! the class folds a sheet -/
def p0F : P6 := (0, 0, 0, 4, 0, 2)
abbrev FD (n : Int) (c4 nb : Int → Int → Int) (k : Int) (p : P6) : Prop := DER n c4 nb (fun k d => crF d (c4 k d - 2)) p0F k p
theorem FD.v {n : Int} {c4 nb : Int → Int → Int} {k : Int} {p : P6} (h : FD n c4 nb k p) : vF p :=
  h (fun _ p => vF p) ⟨⟨by decide, by decide⟩, ⟨by decide, by decide⟩, ⟨by decide, by decide⟩⟩ (fun _ _ _ _ _ q => crF_v q)
theorem FD.r {n : Int} {c4 nb : Int → Int → Int} {k : Int} {p : P6} (h : FD n c4 nb k p) : REG n c4 nb k :=
  fun Q q hs => h (fun k _ => Q k) q (fun k d o _ e q => hs k d o e q)
def CN01 (n : Int) (c4 nb : Int → Int → Int) (lab : Int → P6) : Prop := ∀ k d o, d < 2 → EG n c4 nb k d o → lab o = crF d (c4 k d - 2) (lab k)
/-- two directions are enough -/
theorem CN01.all {n : Int} {c4 nb : Int → Int → Int} {lab : Int → P6} (hg : GR n c4 nb) (hv : ∀ k, 0 ≤ k → k < n → vF (lab k)) (h : CN01 n c4 nb lab) : CNS n c4 nb (fun k d => crF d (c4 k d - 2)) lab := by
  intro k d o e
  by_cases q : d < 2
  · exact h k d o q e
  · obtain ⟨k0, k1, d0, d1, hc, ho⟩ := e
    obtain ⟨r1, r2⟩ := hg.2 k d k0 k1 d0 d1
    obtain ⟨x0, x2, x3⟩ := r2 hc
    rw [ho] at x0 x2 x3
    have ed : (d + 2) % 4 = d - 2 := by omega
    rw [ed] at x2 x3
    have back := h o (d - 2) k (by omega) ⟨x0.1, x0.2, by omega, by omega, by rw [x2]; exact hc, x3⟩
    rw [x2] at back
    have iv := crF_inv (d := d - 2) (q := c4 k d - 2) (hv o x0.1 x0.2) (by omega) (by omega)
    rw [← back, show d - 2 + 2 = d by omega] at iv
    exact iv.symm
theorem CNS.to01 {n : Int} {c4 nb : Int → Int → Int} {lab : Int → P6} (h : CNS n c4 nb (fun k d => crF d (c4 k d - 2)) lab) : CN01 n c4 nb lab := fun k d o _ e => h k d o e
def RFF (n : Int) (c4 nb : Int → Int → Int) (lab : Int → P6) (r : Int) : Prop := (¬ (0 < n ∧ ∀ k, 0 ≤ k → k < n → REG n c4 nb k) → r = 1) ∧ ((0 < n ∧ ∀ k, 0 ≤ k → k < n → REG n c4 nb k) → (∀ k, 0 ≤ k → k < n → FD n c4 nb k (lab k) ∧ bF 120 (lab k)) ∧ lab 0 = p0F ∧ (¬ CNS n c4 nb (fun k d => crF d (c4 k d - 2)) lab → r = 2) ∧ (CNS n c4 nb (fun k d => crF d (c4 k d - 2)) lab → (OVL n lab → r = 3) ∧ (¬ OVL n lab → r = 0)))
theorem OVL.congr {n : Int} {a b : Int → P6} (h : ∀ k, 0 ≤ k → k < n → b k = a k) (o : OVL n a) : OVL n b := by
  obtain ⟨x, y, y0, yx, xn, e⟩ := o
  exact ⟨x, y, y0, yx, xn, by rw [h x (by omega) xn, h y y0 (by omega)]; exact e⟩
/-- what is told of a folding is one number, and the poses are the same -/
theorem RFF.uniq {n : Int} {c4 nb : Int → Int → Int} {a b : Int → P6} {r r' : Int} (hg : GR n c4 nb) (h : RFF n c4 nb a r) (h' : RFF n c4 nb b r') : r = r' ∧ (r = 0 → ∀ k, 0 ≤ k → k < n → a k = b k) := by
  by_cases q : 0 < n ∧ ∀ k, 0 ≤ k → k < n → REG n c4 nb k
  · obtain ⟨a1, a2, a3, a4⟩ := h.2 q
    obtain ⟨b1, b2, b3, b4⟩ := h'.2 q
    by_cases c : CNS n c4 nb (fun k d => crF d (c4 k d - 2)) a
    · obtain ⟨e, cb⟩ := CNS.two hg a2 (fun k k0 k1 => (a1 k k0 k1).1) (fun k k0 k1 => (b1 k k0 k1).1) c
      by_cases o : OVL n a
      · have ob := o.congr e
        exact ⟨by rw [(a4 c).1 o, (b4 cb).1 ob], fun z => by rw [(a4 c).1 o] at z; omega⟩
      · have ob : ¬ OVL n b := fun z => o (z.congr (fun k k0 k1 => (e k k0 k1).symm))
        exact ⟨by rw [(a4 c).2 o, (b4 cb).2 ob], fun _ k k0 k1 => (e k k0 k1).symm⟩
    · have cb : ¬ CNS n c4 nb (fun k d => crF d (c4 k d - 2)) b := fun z => c (CNS.two hg b2 (fun k k0 k1 => (b1 k k0 k1).1) (fun k k0 k1 => (a1 k k0 k1).1) z).2
      exact ⟨by rw [a3 c, b3 cb], fun z => by rw [a3 c] at z; omega⟩
  · exact ⟨by rw [h.1 q, h'.1 q], fun z => by rw [h.1 q] at z; omega⟩
section C10d
variable {m : tM}
theorem c_layAllF {n : Int} {c4 nb : Int → Int → Int} {K : tM → Prop} (hg : GR n c4 nb) (np : 0 < n) (hn : m 124 3 = n) (h9 : ∀ k d, 0 ≤ k → k < n → 0 ≤ d → d < 4 → m 9 (4 * k + d) = c4 k d) (bi : BI n c4 nb (m 122) (m 123) n n 0) (hp : pose (m 125) 0 = p0F) (h : ∀ m', (∀ c, c ≠ 125 → c ≠ 126 → m' c = m c) → (∀ j, 0 ≤ j → j < 6 → m' 125 j = m 125 j) → (∀ k, 0 ≤ k → k < n → FD n c4 nb k (pose (m' 125) k) ∧ bF 120 (pose (m' 125) k)) → K m') : Clv mX3_layAll [rV 124, rV 6, rV 120] m K := by
  have n1 := hg.1.2
  obtain ⟨-, b, c, e, f, -, -⟩ := bi
  refine wX3_layAll_0 ?_
  have key := up_ind (n := n) (fun i => 1 ≤ i → ∀ m', (∀ c, c ≠ 125 → c ≠ 126 → m' c = m c) → (∀ j, 0 ≤ j → j < 6 → m' 125 j = m 125 j) → (∀ j, 0 ≤ j → j < i → FD n c4 nb (m 122 j) (pose (m' 125) (m 122 j)) ∧ bF (2 * j) (pose (m' 125) (m 122 j))) → Tj mX3_layAll 2 [some (rV 124), some (rV 6), some (rV 120), some (iV i)] [] m' (fun r m' => r = none ∧ K m')) ?_ ?_ (i := 1) (by omega) (by omega)
  · refine key (by omega) m (fun _ _ _ => rfl) (fun _ _ _ => rfl) (fun j j0 j1 => ?_)
    rw [show j = 0 by omega, b, hp]
    exact ⟨DER.rf, ⟨by decide, by decide⟩, ⟨by decide, by decide⟩, ⟨by decide, by decide⟩⟩
  · intro _ m' fr six hd
    refine wX3_layAll_2 ⟨fun g => absurd g (by rw [fr 124 (by omega) (by omega), hn]; omega), fun _ => ⟨rfl, h m' fr six (fun k k0 k1 => ?_)⟩⟩
    obtain ⟨i, i0, i1, i2⟩ := row_all (O := m 122) (by omega) c e k0 k1
    obtain ⟨x, y⟩ := hd i i0 i1
    rw [i2] at x y
    obtain ⟨y1, y2, y3⟩ := y
    exact ⟨x, by omega, by omega, by omega⟩
  · intro i i0 i1 ih ip m' fr six hd
    obtain ⟨op, l, d, l0, l1, d0, sl, eg⟩ := f i ip i1
    have oi := c i i0 i1
    have ol := c l l0 (by omega)
    obtain ⟨dl, bl⟩ := hd l l0 l1
    have e122 : m' 122 i = m 122 i := by rw [fr 122 (by omega) (by omega)]
    have e123 : m' 123 (m 122 i) = 4 * m 122 l + d := by rw [fr 123 (by omega) (by omega)]; exact sl
    have c4r := (hg.2 (m 122 l) d ol.1 ol.2 d0.1 d0.2).1
    have e9 : m' 9 (4 * m 122 l + d) = c4 (m 122 l) d := by rw [fr 9 (by omega) (by omega)]; exact h9 _ _ ol.1 ol.2 d0.1 d0.2
    refine wX3_layAll_2 ⟨fun _ => wX6_inOrder_0 ⟨⟨i0, by omega⟩, _, rfl, ?_⟩, fun g => absurd (by rw [fr 124 (by omega) (by omega), hn]; exact i1) g⟩
    rw [e122]
    refine wX6_reachedFrom_0 ⟨⟨oi.1, by omega⟩, _, rfl, wX6_reachedBy_0 ⟨⟨oi.1, by omega⟩, _, rfl, ?_⟩⟩
    rw [e123, bShr_2 (by constructor <;> omega), bAnd_3 (by constructor <;> omega), show (4 * m 122 l + d) / 4 = m 122 l by omega, show (4 * m 122 l + d) % 4 = d by omega]
    refine c_creaseAt shS_6 ol.1 (by omega) d0.1 d0.2 ?_
    show R32 (m' 9 (4 * m 122 l + d) - 2) ∧ _
    rw [show m' (6 + 3) (4 * m 122 l + d) = m' 9 (4 * m 122 l + d) from rfl, e9]
    refine ⟨by constructor <;> omega, c_cross ol.1 (by omega) d0.1 d0.2 dl.v ?_ (fun m5 f5 p5 => ⟨⟨by constructor <;> omega, by omega, by omega⟩, fun m6 e6 => ⟨by constructor <;> omega, ?_⟩⟩)⟩
    · obtain ⟨y1, y2, y3⟩ := bl
      exact ⟨by omega, by omega, by omega⟩
    · have r125 : ∀ j, m6 125 j = if 6 * m 122 i ≤ j ∧ j < 6 * m 122 i + 6 then m5 126 (0 + (j - 6 * m 122 i)) else m' 125 j := fun j => by
        rw [e6, sr_eq, f5 125 (by omega)]; rfl
      have f6 : ∀ x, x ≠ 125 → x ≠ 126 → m6 x = m x := fun x x1 x2 => by rw [e6, sr_ne _ _ x1, f5 x x2, fr x x1 x2]
      have other : ∀ x, 0 ≤ x → x ≠ m 122 i → pose (m6 125) x = pose (m' 125) x := fun x x0 x1 => by
        unfold pose
        rw [r125, r125, r125, r125, r125, r125, if_neg (by omega), if_neg (by omega), if_neg (by omega), if_neg (by omega), if_neg (by omega), if_neg (by omega)]
      have self : pose (m6 125) (m 122 i) = crF d (c4 (m 122 l) d - 2) (pose (m' 125) (m 122 l)) := by
        rw [← p5]
        unfold pose ps6
        rw [r125, r125, r125, r125, r125, r125, if_pos (by omega), if_pos (by omega), if_pos (by omega), if_pos (by omega), if_pos (by omega), if_pos (by omega)]
        rw [show 0 + (6 * m 122 i - 6 * m 122 i) = 0 by omega, show 0 + (6 * m 122 i + 1 - 6 * m 122 i) = 1 by omega, show 0 + (6 * m 122 i + 2 - 6 * m 122 i) = 2 by omega, show 0 + (6 * m 122 i + 3 - 6 * m 122 i) = 3 by omega, show 0 + (6 * m 122 i + 4 - 6 * m 122 i) = 4 by omega, show 0 + (6 * m 122 i + 5 - 6 * m 122 i) = 5 by omega]
      refine ih (by omega) m6 f6 (fun j j0 j1 => by rw [r125, if_neg (by omega)]; exact six j j0 j1) (fun j j0 j1 => ?_)
      by_cases q : j = i
      · rw [q, self]
        refine ⟨DER.st dl eg, ?_⟩
        have := crF_b (d := d) (q := c4 (m 122 l) d - 2) bl
        obtain ⟨y1, y2, y3⟩ := this
        exact ⟨by omega, by omega, by omega⟩
      · rw [other _ (c j j0 (by omega)).1 (fun z => q (e j i j0 (by omega) i0 i1 z))]
        exact hd j j0 (by omega)
theorem c_agreesF {n : Int} {c4 nb : Int → Int → Int} {K : Int → tM → Prop} (hg : GR n c4 nb) (hn : m 124 3 = n) (h9 : ∀ k d, 0 ≤ k → k < n → 0 ≤ d → d < 4 → m 9 (4 * k + d) = c4 k d) (hN : ∀ k d, 0 ≤ k → k < n → 0 ≤ d → d < 4 → m 121 (4 * k + d) = if c4 k d = 0 then -1 else nb k d) (hv : ∀ k, 0 ≤ k → k < n → vF (pose (m 125) k) ∧ bF 200 (pose (m 125) k)) (h1 : CN01 n c4 nb (pose (m 125)) → ∀ m', (∀ c, c ≠ 126 → m' c = m c) → K 1 m') (h0 : ¬ CN01 n c4 nb (pose (m 125)) → ∀ m', (∀ c, c ≠ 126 → m' c = m c) → K 0 m') : Cli mX3_agrees [rV 124, rV 6, rV 120] m K := by
  have n0 := hg.1.1
  have n1 := hg.1.2
  refine wX3_agrees_0 ?_
  have key := up_ind (n := n) (fun k => ∀ m', (∀ c, c ≠ 126 → m' c = m c) → (∀ j d o, j < k → d < 2 → EG n c4 nb j d o → pose (m 125) o = crF d (c4 j d - 2) (pose (m 125) j)) → Tj mX3_agrees 2 [some (rV 124), some (rV 6), some (rV 120), some (iV k)] [] m' (fun r m' => ∃ x, r = some (iV x) ∧ K x m')) ?_ ?_ (i := 0) (by omega) n0
  · exact key m (fun _ _ => rfl) (fun j d o j1 _ e => absurd e.1 (by omega))
  · intro m' fr ok
    exact wX3_agrees_2 ⟨fun g => absurd g (by rw [fr 124 (by omega), hn]; omega), fun _ => ⟨_, rfl, h1 (fun k d o d2 e => ok k d o e.2.1 d2 e) m' fr⟩⟩
  · intro k k0 k1 ih m' fr ok
    refine wX3_agrees_2 ⟨fun _ => ?_, fun g => absurd (by rw [fr 124 (by omega), hn]; exact k1) g⟩
    have key2 := up_ind (n := 2) (fun d => ∀ m', (∀ c, c ≠ 126 → m' c = m c) → (∀ j e o, (j < k ∨ (j = k ∧ e < d)) → e < 2 → EG n c4 nb j e o → pose (m 125) o = crF e (c4 j e - 2) (pose (m 125) j)) → Tj mX3_agrees 13 [some (rV 124), some (rV 6), some (rV 120), some (iV k), some (iV d)] [] m' (fun r m' => ∃ x, r = some (iV x) ∧ K x m')) ?_ ?_ (i := 0) (by omega) (by omega)
    · refine key2 m' fr (fun j d o hj d2 e => ok j d o ?_ d2 e)
      have := e.2.2.1
      omega
    · intro m' fr ok
      exact wX3_agrees_13 ⟨fun g => by omega, fun _ => ⟨by constructor <;> omega, ih m' fr (fun j d o hj d2 e => ok j d o (by omega) d2 e)⟩⟩
    · intro d d0 d1 ih2 m' fr ok
      have eN : m' 121 (4 * k + d) = if c4 k d = 0 then -1 else nb k d := by rw [fr 121 (by omega)]; exact hN k d k0 k1 d0 (by omega)
      have e9 : m' 9 (4 * k + d) = c4 k d := by rw [fr 9 (by omega)]; exact h9 k d k0 k1 d0 (by omega)
      have c4r := (hg.2 k d k0 k1 d0 (by omega)).1
      refine wX3_agrees_13 ⟨fun _ => wX6_next_0 ⟨⟨by constructor <;> omega, by constructor <;> omega, by omega, by omega⟩, _, rfl, ?_⟩, fun g => absurd d1 g⟩
      rw [eN]
      by_cases hc : c4 k d = 0
      · rw [if_pos hc]
        refine ⟨fun _ => ⟨by constructor <;> omega, ih2 m' fr (fun j e o hj e2 eg => ?_)⟩, fun g => absurd (by omega) g⟩
        by_cases q : j = k ∧ e = d
        · have := eg.2.2.2.2.1
          rw [q.1, q.2] at this
          exact absurd hc this
        · exact ok j e o (by omega) e2 eg
      · rw [if_neg hc]
        have nx := ((hg.2 k d k0 k1 d0 (by omega)).2 hc).1
        refine ⟨fun g => by omega, fun _ => c_creaseAt shS_6 k0 (by omega) d0 (by omega) ?_⟩
        rw [show m' (6 + 3) (4 * k + d) = m' 9 (4 * k + d) from rfl, e9]
        have e125 : m' 125 = m 125 := fr 125 (by omega)
        have vk := hv k k0 k1
        refine ⟨by constructor <;> omega, c_cross k0 (by omega) d0 (by omega) (by rw [e125]; exact vk.1) (by rw [e125]; exact vk.2) (fun m2 f2 p2 => ?_)⟩
        rw [e125] at p2
        have fr2 : ∀ c, c ≠ 126 → m2 c = m c := fun c hc => by rw [f2 c hc, fr c hc]
        have e125' : m2 125 = m 125 := fr2 125 (by omega)
        refine c_liesBeside nx.1 (by omega) (fun z => ⟨fun g => by omega, fun _ => ⟨by constructor <;> omega, ih2 m2 fr2 (fun j e o hj e2 eg => ?_)⟩⟩) (fun z => ⟨fun _ => ⟨_, rfl, h0 (fun w => z ?_) m2 fr2⟩, fun g => absurd rfl g⟩)
        · by_cases q : j = k ∧ e = d
          · obtain ⟨-, -, -, -, -, ho⟩ := eg
            rw [q.1, q.2] at ho ⊢
            rw [← ho, ← p2, ← z, e125']
          · exact ok j e o (by omega) e2 eg
        · rw [p2, e125']
          exact w k d (nb k d) d1 ⟨k0, k1, d0, by omega, hc, rfl⟩
/-- the class's folding -/
theorem c_runF {s : SS} {K : Int → tM → Prop} (hr : RepC (m 6 3) (m 7) (m 8) (m 9) s) (hw : WF s) (hp : pose (m 125) 0 = p0F) (h : ∀ r m', (∀ c, c < 120 ∨ 126 < c → m' c = m c) → m' 124 3 = m 6 3 → pose (m' 125) 0 = p0F → RFF (m 6 3) (cG s (m 7) (m 8)) (nG (m 6 3) (m 7) (m 8)) (pose (m' 125)) r → K r m') : Cli mX3_run [rV 124, rV 6, rV 120] m K := by
  have hg := GRs hr.1 hw
  have n0 := hr.1.1
  have n1 := hr.1.2.1
  refine wX3_run_0 (c_trace hr hw (fun m1 f1 e1 tr => c_size shS_6 ?_))
  generalize hm2 : up m1 124 3 (m1 6 3) = m2
  have f2 : ∀ c, c ≠ 124 → m2 c = m1 c := fun c hc => by rw [← hm2, up_ne _ _ _ hc]
  have e124 : m2 124 3 = m 6 3 := by rw [← hm2, up_at, f1 6 (by omega)]
  have e120 : m2 120 = m1 120 := f2 120 (by omega)
  have e125 : m2 125 = m 125 := by rw [f2 125 (by omega), f1 125 (by omega)]
  refine wX6_hangTogether_0 (fun v hv => ⟨v, rfl, ?_⟩)
  rw [e120, e1] at hv
  by_cases np : 0 < m 6 3
  · rw [if_pos np] at hv
    have al := trc_all hg tr np
    by_cases q : m1 120 4 = m 6 3
    · rw [if_pos q] at hv
      refine ⟨fun g => by omega, fun _ => ?_⟩
      have all := al.1 q
      have bi := tr.2.2 np
      rw [q] at bi
      have h9 : ∀ k d, 0 ≤ k → k < m 6 3 → 0 ≤ d → d < 4 → m2 9 (4 * k + d) = cG s (m 7) (m 8) k d := fun k d k0 k1 d0 d1 => by rw [f2 9 (by omega), f1 9 (by omega)]; exact hr.2 k d k0 k1 d0 d1
      refine c_layAllF hg np e124 h9 (by rw [f2 122 (by omega), f2 123 (by omega)]; exact bi) (by rw [e125]; exact hp) (fun m3 f3 six hd => ?_)
      have q0 : pose (m3 125) 0 = p0F := by
        rw [← hp, ← e125]
        unfold pose
        rw [six _ (by omega) (by omega), six _ (by omega) (by omega), six _ (by omega) (by omega), six _ (by omega) (by omega), six _ (by omega) (by omega), six _ (by omega) (by omega)]
      have hv3 : ∀ k, 0 ≤ k → k < m 6 3 → vF (pose (m3 125) k) ∧ bF 200 (pose (m3 125) k) := fun k k0 k1 => by
        obtain ⟨x, y1, y2, y3⟩ := hd k k0 k1
        exact ⟨x.v, by omega, by omega, by omega⟩
      have e124' : m3 124 3 = m 6 3 := by rw [f3 124 (by omega) (by omega), e124]
      refine c_agreesF hg e124' (by rw [f3 9 (by omega) (by omega)]; exact h9) (by rw [f3 121 (by omega) (by omega), f2 121 (by omega)]; exact tr.1) hv3 (fun cn m4 f4 => ⟨fun g => by omega, fun _ => ?_⟩) (fun cn m4 f4 => ⟨fun _ => ⟨_, rfl, h 2 m4 ?_ ?_ ?_ ?_⟩, fun g => absurd rfl g⟩)
      · have cns := cn.all hg (fun k k0 k1 => (hv3 k k0 k1).1)
        have e4 : m4 125 = m3 125 := f4 125 (by omega)
        have fin : ∀ r, ((OVL (m 6 3) (pose (m3 125)) → r = 3) ∧ (¬ OVL (m 6 3) (pose (m3 125)) → r = 0)) → K r m4 := fun r hrr => h r m4 (fun c hc => by rw [f4 c (by omega), f3 c (by omega) (by omega), f2 c (by omega), f1 c (by omega)]) (by rw [f4 124 (by omega), e124']) (by rw [e4]; exact q0) (by
          rw [e4]
          exact ⟨fun z => absurd ⟨np, all⟩ z, fun _ => ⟨hd, q0, fun z => absurd cns z, fun _ => hrr⟩⟩)
        refine c_overlapsF (n := m 6 3) (by rw [f4 124 (by omega), e124']) n0 n1 (fun o v hv => ⟨v, rfl, fin v ?_⟩) (fun o v hv => ⟨v, rfl, fin v ?_⟩)
        · rw [e4] at o
          rw [if_neg (by omega)] at hv
          exact ⟨fun _ => hv, fun z => absurd o z⟩
        · rw [e4] at o
          rw [if_pos rfl] at hv
          exact ⟨fun z => absurd z o, fun _ => hv⟩
      · exact fun c hc => by rw [f4 c (by omega), f3 c (by omega) (by omega), f2 c (by omega), f1 c (by omega)]
      · rw [f4 124 (by omega), e124']
      · rw [f4 125 (by omega)]; exact q0
      · rw [f4 125 (by omega)]
        exact ⟨fun z => absurd ⟨np, all⟩ z, fun _ => ⟨hd, q0, fun _ => rfl, fun z => absurd z.to01 cn⟩⟩
    · rw [if_neg q] at hv
      refine ⟨fun _ => ⟨_, rfl, h 1 m2 (fun c hc => by rw [f2 c (by omega), f1 c (by omega)]) e124 (by rw [e125]; exact hp) ⟨fun _ => rfl, fun z => absurd (al.2 z.2) q⟩⟩, fun g => absurd hv g⟩
  · rw [if_neg np] at hv
    exact ⟨fun _ => ⟨_, rfl, h 1 m2 (fun c hc => by rw [f2 c (by omega), f1 c (by omega)]) e124 (by rw [e125]; exact hp) ⟨fun _ => rfl, fun z => absurd z.1 np⟩⟩, fun g => absurd hv g⟩
end C10d
