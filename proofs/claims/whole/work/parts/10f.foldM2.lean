/-! the reference folds: its search -/
/-- what is folded so far -/
def FI (n : Int) (c4 nb : Int → Int → Int) (m m' : tM) (f tw : Int) : Prop := (∀ c, c < 167 ∨ 173 < c → m' c = m c) ∧ (∀ k, 0 ≤ k → k < n → m' 167 k = 0 ∨ m' 167 k = 1) ∧ m' 167 0 = 1 ∧ labM m' 0 = p0F ∧ (∀ k, 0 ≤ k → k < n → m' 167 k = 1 → FD n c4 nb k (labM m' k) ∧ bF (2 * (f - 1)) (labM m' k)) ∧ (1 ≤ f ∧ f = (cn (fun k => decide (m' 167 (k : Int) = 1)) n.toNat : Int)) ∧ (tw = 0 ∨ (tw = 1 ∧ ∃ k d o, EG n c4 nb k d o ∧ m' 167 k = 1 ∧ m' 167 o = 1 ∧ labM m' o ≠ crF d (c4 k d - 2) (labM m' k)))
theorem cn_up {r : Int → Int} {n o : Int} (o0 : 0 ≤ o) (o1 : o < n) (h : r o ≠ 1) : cn (fun k => decide (ur r o 1 (k : Int) = 1)) n.toNat = cn (fun k => decide (r (k : Int) = 1)) n.toNat + 1 := by
  rw [cn_split (fun j => decide (ur r o 1 (j : Int) = 1)) (fun j => decide (j = o.toNat)) n.toNat]
  have one : cn (fun j => decide (ur r o 1 (j : Int) = 1) && decide (j = o.toNat)) n.toNat = 1 := by
    have le := cn_one (fun j => decide (ur r o 1 (j : Int) = 1) && decide (j = o.toNat)) n.toNat (fun i j _ _ hi hj => by
      simp at hi hj
      omega)
    have ge := cn_lt (fun _ => false) (fun j => decide (ur r o 1 (j : Int) = 1) && decide (j = o.toNat)) n.toNat (fun _ _ g => absurd g (by decide)) ⟨o.toNat, by omega, by
      rw [ix_cast o0, ur_eq]; simp, rfl⟩
    omega
  rw [one]
  have rest : cn (fun j => decide (ur r o 1 (j : Int) = 1) && !decide (j = o.toNat)) n.toNat = cn (fun j => decide (r (j : Int) = 1)) n.toNat := by
    have le := cn_le (fun j => decide (ur r o 1 (j : Int) = 1) && !decide (j = o.toNat)) (fun j => decide (r (j : Int) = 1)) n.toNat (fun j hj g => by
      rw [Bool.and_eq_true] at g
      have q : ¬ j = o.toNat := by simpa using g.2
      have g1 := of_decide_eq_true g.1
      rw [ur_ne _ _ (by omega)] at g1
      exact decide_eq_true g1)
    have ge := cn_le (fun j => decide (r (j : Int) = 1)) (fun j => decide (ur r o 1 (j : Int) = 1) && !decide (j = o.toNat)) n.toNat (fun j hj g => by
      have g1 := of_decide_eq_true g
      have q : ¬ j = o.toNat := fun e => by rw [e, ix_cast o0] at g1; exact h g1
      rw [Bool.and_eq_true]
      refine ⟨decide_eq_true ?_, by simpa using q⟩
      rw [ur_ne _ _ (by omega)]; exact g1)
    omega
  omega
section C10f
variable {m : tM}
theorem c_foldEnd {n : Int} {K : Int → tM → Prop} (hn : m 145 4 = n) (n0 : 0 ≤ n) (n1 : n ≤ 60) (h1 : OVL n (labM m) → K 3 m) (h0 : ¬ OVL n (labM m) → K 0 m) : Tj mX12_foldOf 223 [some (rV 145), none, none, none, some (iV 0)] [] m (fun r m' => ∃ x, r = some (iV x) ∧ K x m') := by
  have key := up_ind (n := n) (fun a => (∀ a' b, 0 ≤ b → b < a' → a' < a → ¬ ((labM m a').1 = (labM m b).1 ∧ (labM m a').2.1 = (labM m b).2.1 ∧ (labM m a').2.2.1 = (labM m b).2.2.1)) → Tj mX12_foldOf 223 [some (rV 145), none, none, none, some (iV a)] [] m (fun r m' => ∃ n, r = some (iV n) ∧ K n m')) ?_ ?_ (i := 0) (by omega) n0
  · exact key (fun a' b b0 b1 a1 => by omega)
  · intro no
    refine wX12_foldOf_223 ⟨fun g => absurd g (by rw [hn]; omega), fun _ => ⟨_, rfl, h0 ?_⟩⟩
    rintro ⟨a, b, b0, ba, an, e⟩
    exact no a b b0 ba an e
  · intro a a0 a1 ih no
    refine wX12_foldOf_223 ⟨fun _ => ?_, fun g => absurd (by rw [hn]; exact a1) g⟩
    have key2 := up_ind (n := a) (fun b => (∀ b', 0 ≤ b' → b' < b → ¬ ((labM m a).1 = (labM m b').1 ∧ (labM m a).2.1 = (labM m b').2.1 ∧ (labM m a).2.2.1 = (labM m b').2.2.1)) → Tj mX12_foldOf 235 [some (rV 145), none, none, none, some (iV a), some (iV b)] [] m (fun r m' => ∃ n, r = some (iV n) ∧ K n m')) ?_ ?_ (i := 0) (by omega) a0
    · exact key2 (fun b' b0 b1 => by omega)
    · intro nb
      refine wX12_foldOf_235 ⟨fun g => by omega, fun _ => ⟨by constructor <;> omega, ih (fun a' b b0 b1 a1' => ?_)⟩⟩
      by_cases q : a' = a
      · rw [q]; exact nb b b0 (by omega)
      · exact no a' b b0 b1 (by omega)
    · intro b b0 b1 ih2 nb
      have nxt : ¬ ((labM m a).1 = (labM m b).1 ∧ (labM m a).2.1 = (labM m b).2.1 ∧ (labM m a).2.2.1 = (labM m b).2.2.1) → Tj mX12_foldOf 235 [some (rV 145), none, none, none, some (iV a), some (iV (b + 1))] [] m (fun r m' => ∃ n, r = some (iV n) ∧ K n m') := fun z => ih2 (fun b' b0' b1' => by
        by_cases q : b' = b
        · rw [q]; exact z
        · exact nb b' b0' (by omega))
      exact wX12_foldOf_235 ⟨fun _ => ⟨⟨a0, by omega, b0, by omega⟩, fun g1 => ⟨fun g2 => ⟨fun g3 => ⟨_, rfl, h1 ⟨a, b, b0, b1, a1, g1, g2, g3⟩⟩, fun g3 => ⟨by constructor <;> omega, nxt (fun z => g3 z.2.2)⟩⟩, fun g2 => ⟨by constructor <;> omega, nxt (fun z => g2 z.2.1)⟩⟩, fun g1 => ⟨by constructor <;> omega, nxt (fun z => g1 z.1)⟩⟩, fun g => absurd b1 g⟩
/-- a pass has found nothing more -/
theorem fold_fin {n : Int} {c4 nb : Int → Int → Int} {m' : tM} {f tw : Int} {K : Int → tM → Prop} (hg : GR n c4 nb) (np : 0 < n) (hn : m 145 4 = n) (h : FI n c4 nb m m' f tw) (cl : ∀ k d o, EG n c4 nb k d o → m' 167 k = 1 → m' 167 o = 1 ∧ (tw = 0 → labM m' o = crF d (c4 k d - 2) (labM m' k))) (hk : ∀ r m', (∀ c, c < 167 ∨ 173 < c → m' c = m c) → RFF n c4 nb (labM m') r → K r m') : Tj mX12_foldOf 87 [some (rV 145), some (iV f), some (iV tw), some (iV 0)] [] m' (fun r m' => ∃ x, r = some (iV x) ∧ K x m') := by
  obtain ⟨a1, a2, a3, a4, a5, a6, a7⟩ := h
  have e4 : m' 145 4 = n := by rw [a1 145 (by omega), hn]
  have fb := cn_bound (fun k => decide (m' 167 (k : Int) = 1)) n.toNat
  refine wX12_foldOf_87 ⟨fun _ => ⟨fun g => ⟨_, rfl, hk 1 m' a1 ⟨fun _ => rfl, fun z => ?_⟩⟩, fun g => ?_⟩, fun g => absurd rfl g⟩
  · -- not all
    exfalso
    rw [e4] at g
    have laid : ∀ k, 0 ≤ k → k < n → m' 167 k = 1 := fun k k0 k1 => z.2 k k0 k1 (fun k => m' 167 k = 1) a3 (fun k d o e q => (cl k d o e q).1)
    have := cn_le (fun _ => true) (fun k => decide (m' 167 (k : Int) = 1)) n.toNat (fun k hk _ => decide_eq_true (laid k (by omega) (by omega)))
    rw [cn_true] at this
    omega
  · rw [e4] at g
    have full := cn_full (fun k => decide (m' 167 (k : Int) = 1)) n.toNat (by omega)
    have laid : ∀ k, 0 ≤ k → k < n → m' 167 k = 1 := fun k k0 k1 => by
      have := of_decide_eq_true (full k.toNat (by omega))
      rw [ix_cast k0] at this
      exact this
    have fn : f ≤ 60 := by have := hg.1.2; omega
    have all : 0 < n ∧ ∀ k, 0 ≤ k → k < n → REG n c4 nb k := ⟨np, fun k k0 k1 => (a5 k k0 k1 (laid k k0 k1)).1.r⟩
    have lab : ∀ k, 0 ≤ k → k < n → FD n c4 nb k (labM m' k) ∧ bF 120 (labM m' k) := fun k k0 k1 => by
      obtain ⟨x, y1, y2, y3⟩ := a5 k k0 k1 (laid k k0 k1)
      exact ⟨x, by omega, by omega, by omega⟩
    refine ⟨fun g2 => ?_, fun g2 => ⟨_, rfl, hk 2 m' a1 ⟨fun z => absurd all z, fun _ => ⟨lab, a4, fun _ => rfl, fun z => ?_⟩⟩⟩⟩
    · have cns : CNS n c4 nb (fun k d => crF d (c4 k d - 2)) (labM m') := fun k d o e => (cl k d o e (laid k e.1 e.2.1)).2 g2
      exact c_foldEnd e4 (by omega) hg.1.2 (fun o => hk 3 m' a1 ⟨fun z => absurd all z, fun _ => ⟨lab, a4, fun z => absurd cns z, fun _ => ⟨fun _ => rfl, fun z => absurd o z⟩⟩⟩) (fun o => hk 0 m' a1 ⟨fun z => absurd all z, fun _ => ⟨lab, a4, fun z => absurd cns z, fun _ => ⟨fun z => absurd z o, fun _ => rfl⟩⟩⟩)
    · rcases a7 with q | ⟨-, k, d, o, e, -, -, ne⟩
      · exact absurd q g2
      · exact absurd (z k d o e) ne
theorem fold_loop {s : SS} {n : Int} {K : Int → tM → Prop} (hr : RepM (m 145 4) (m 149) (m 150) (m 151) (m 152) s) (hw : WF s) (hn : m 145 4 = n) (np : 0 < n) (hk : ∀ r m', (∀ c, c < 167 ∨ 173 < c → m' c = m c) → RFF n (cG s (m 149) (m 150)) (nG n (m 149) (m 150)) (labM m') r → K r m') : ∀ (fuel : Nat) (f tw : Int) (m0 : tM), FI n (cG s (m 149) (m 150)) (nG n (m 149) (m 150)) m m0 f tw → n - f < fuel → Tj mX12_foldOf 87 [some (rV 145), some (iV f), some (iV tw), some (iV 1)] [] m0 (fun r m' => ∃ x, r = some (iV x) ∧ K x m') := by
  have hg : GR n (cG s (m 149) (m 150)) (nG n (m 149) (m 150)) := by
    have := GRs hr.1 hw
    rw [hn] at this
    exact this
  have n1 := hg.1.2
  intro fuel
  induction fuel with
  | zero =>
    intro f tw m0 hi hf
    have fb := cn_bound (fun k => decide (m0 167 (k : Int) = 1)) n.toNat
    have := hi.2.2.2.2.2.1.2
    omega
  | succ fuel ihf =>
    intro f0 tw0 m0 hi hf
    refine wX12_foldOf_87 ⟨fun g => by omega, fun _ => ?_⟩
    have key := up_ind (n := 4 * n) (fun x => ∀ (f tw mo : Int) (m' : tM), FI n (cG s (m 149) (m 150)) (nG n (m 149) (m 150)) m m' f tw → (mo = 0 ∧ f = f0 ∧ (∀ k d o, 4 * k + d < x → EG n (cG s (m 149) (m 150)) (nG n (m 149) (m 150)) k d o → m' 167 k = 1 → m' 167 o = 1 ∧ (tw = 0 → labM m' o = crF d (cG s (m 149) (m 150) k d - 2) (labM m' k)))) ∨ (mo = 1 ∧ f0 < f) → Tj mX12_foldOf 96 [some (rV 145), some (iV f), some (iV tw), some (iV mo), some (iV x)] [] m' (fun r m' => ∃ x, r = some (iV x) ∧ K x m')) ?_ ?_ (i := 0) (by omega) (by omega)
    · exact key f0 tw0 0 m0 hi (Or.inl ⟨rfl, rfl, fun k d o hx e => by have := e.1; have := e.2.2.1; omega⟩)
    · intro f tw mo m' fi hmo
      have e4 : m' 145 4 = n := by rw [fi.1 145 (by omega), hn]
      refine wX12_foldOf_96 ⟨by rw [e4]; constructor <;> omega, fun g => absurd g (by rw [e4]; omega), fun _ => ?_⟩
      rcases hmo with ⟨rfl, -, cl⟩ | ⟨rfl, lt⟩
      · exact fold_fin hg np hn fi (fun k d o e q => cl k d o (by have := e.2.1; have := e.2.2.2.1; omega) e q) hk
      · exact ihf f tw m' fi (by omega)
    · intro x x0 x1 ih f tw mo m' fi hmo
      obtain ⟨a1, a2, a3, a4, a5, a6, a7⟩ := id fi
      have e4 : m' 145 4 = n := by rw [a1 145 (by omega), hn]
      have e149 : m' 149 = m 149 := a1 149 (by omega)
      have e150 : m' 150 = m 150 := a1 150 (by omega)
      have hr' : RepM (m' 145 4) (m' 149) (m' 150) (m' 151) (m' 152) s := by rw [a1 145 (by omega), e149, e150, a1 151 (by omega), a1 152 (by omega)]; exact hr
      have fb := cn_bound (fun k => decide (m' 167 (k : Int) = 1)) n.toNat
      have k0 : 0 ≤ x / 4 := by omega
      have k1 : x / 4 < n := by omega
      have rr' := hr'.1.rch hw
      -- an edge that is no edge, or of one that isn't folded
      have skip : (∀ o, EG n (cG s (m 149) (m 150)) (nG n (m 149) (m 150)) (x / 4) (x % 4) o → m' 167 (x / 4) = 1 → m' 167 o = 1 ∧ (tw = 0 → labM m' o = crF (x % 4) (cG s (m 149) (m 150) (x / 4) (x % 4) - 2) (labM m' (x / 4)))) → Tj mX12_foldOf 96 [some (rV 145), some (iV f), some (iV tw), some (iV mo), some (iV (x + 1))] [] m' (fun r m' => ∃ x, r = some (iV x) ∧ K x m') := fun hs => ih f tw mo m' fi (by
        rcases hmo with ⟨b1, b2, cl⟩ | b
        · refine Or.inl ⟨b1, b2, fun k d o hx e q => ?_⟩
          by_cases w : 4 * k + d = x
          · have d0 := e.2.2.1
            have d1 := e.2.2.2.1
            have ek : x / 4 = k := by omega
            have ed : x % 4 = d := by omega
            rw [ek, ed] at hs
            exact hs o e q
          · exact cl k d o (by omega) e q
        · exact Or.inr b)
      refine wX12_foldOf_96 ⟨by rw [e4]; constructor <;> omega, fun _ => ⟨⟨x0, by omega, by omega⟩, fun g1 => c_creaseOf (by rw [e4]; omega) (by rw [e4]; omega) hr'.1.2.2.1 rr' k0 (by rw [e4]; exact k1) (by omega) ?_, fun g1 => ⟨by constructor <;> omega, skip (fun o e q => absurd q g1)⟩⟩, fun g => absurd (by rw [e4]; exact x1) g⟩
      rw [crO_rep hr' hw k0 (by rw [e4]; exact k1) (by omega) (by omega), show s4 s (m' 149 (x / 4)) (m' 150 (x / 4)) (x % 4) = cG s (m 149) (m 150) (x / 4) (x % 4) by rw [e149, e150]; rfl]
      obtain ⟨dk, bk⟩ := a5 (x / 4) k0 k1 g1
      refine ⟨fun g2 => ⟨by constructor <;> omega, skip (fun o e _ => absurd g2 e.2.2.2.2.1)⟩, fun g2 => ?_⟩
      have edge : EG n (cG s (m 149) (m 150)) (nG n (m 149) (m 150)) (x / 4) (x % 4) (nG n (m 149) (m 150) (x / 4) (x % 4)) := ⟨k0, k1, by omega, by omega, g2, rfl⟩
      have nx := ((hg.2 (x / 4) (x % 4) k0 k1 (by omega) (by omega)).2 g2).1
      have bk' : bF 200 (labM m' (x / 4)) := by
        obtain ⟨y1, y2, y3⟩ := bk
        exact ⟨by omega, by omega, by omega⟩
      refine c_foldAcross hr' hw k0 (by rw [e4]; exact k1) (by omega) (by omega) (by rw [e149, e150]; exact g2) dk.v bk' ?_ ?_
      · rw [e4, e149, e150]
        intro g3
        constructor
        · intro g4 v1 h1 v2 h2
          rw [if_neg (by omega)] at h2
          have t1 : v1 = tw := by
            rw [h1]
            rcases a7 with q | ⟨q, -⟩
            · rw [if_pos q, if_neg (by omega), q]
            · rw [if_neg (by omega), q]
          rw [h2, Int.add_zero, t1]
          refine ⟨by constructor <;> omega, fun v3 h3 => ⟨by constructor <;> omega, ?_⟩⟩
          have t3 : v3 = mo := by
            rw [h3]
            rcases hmo with ⟨q, -⟩ | ⟨q, -⟩
            · rw [if_pos q, if_neg (by omega), q]
            · rw [if_neg (by omega), q]
          rw [t3]
          exact skip (fun o e _ => by rw [← e.2.2.2.2.2]; exact ⟨g3, fun _ => g4⟩)
        · intro g4 v1 h1 v2 h2
          rw [if_neg (by omega)] at h2
          have t1 : v1 = 1 := by
            rw [h1]
            split
            · rw [if_pos rfl]
            · rfl
          rw [h2, Int.add_zero, t1]
          refine ⟨by constructor <;> omega, fun v3 h3 => ⟨by constructor <;> omega, ?_⟩⟩
          have t3 : v3 = mo := by
            rw [h3]
            rcases hmo with ⟨q, -⟩ | ⟨q, -⟩
            · rw [if_pos q, if_neg (by omega), q]
            · rw [if_neg (by omega), q]
          rw [t3]
          refine ih f 1 mo m' ⟨a1, a2, a3, a4, a5, a6, Or.inr ⟨rfl, _, _, _, edge, g1, g3, g4⟩⟩ ?_
          rcases hmo with ⟨b1, b2, cl⟩ | b
          · refine Or.inl ⟨b1, b2, fun k d o hx e q => ⟨?_, fun z => absurd z (by omega)⟩⟩
            by_cases w : 4 * k + d = x
            · have d0 := e.2.2.1
              have d1 := e.2.2.2.1
              have ek : x / 4 = k := by omega
              have ed : x % 4 = d := by omega
              rw [← e.2.2.2.2.2, ← ek, ← ed]
              exact g3
            · exact (cl k d o (by omega) e q).1
          · exact Or.inr b
      · rw [e4, e149, e150]
        intro g3 m2 f2 r167 lo lx v1 h1 v2 h2
        rw [if_pos rfl] at h2
        have t1 : v1 = tw := by
          rw [h1]
          rcases a7 with q | ⟨q, -⟩
          · rw [if_pos q, if_neg (by omega), q]
          · rw [if_neg (by omega), q]
        rw [h2, t1]
        generalize hoo : nG n (m 149) (m 150) (x / 4) (x % 4) = o at *
        have cu := cn_up (r := m' 167) nx.1 nx.2 g3
        have fb2 := cn_bound (fun k => decide (ur (m' 167) o 1 (k : Int) = 1)) n.toNat
        refine ⟨by constructor <;> omega, fun v3 h3 => ⟨by constructor <;> omega, ?_⟩⟩
        have t3 : v3 = 1 := by
          rw [h3]
          split
          · rw [if_pos rfl]
          · rfl
        rw [t3]
        refine ih (f + 1) tw 1 m2 ⟨fun c hc => by rw [f2 c hc, a1 c hc], fun k k0 k1 => ?_, ?_, ?_, fun k k0' k1' hk => ?_, ⟨by omega, ?_⟩, ?_⟩ (Or.inr ⟨rfl, by
          rcases hmo with ⟨-, b2, -⟩ | ⟨-, b⟩ <;> omega⟩)
        · rw [r167]
          by_cases w : k = o
          · rw [w, ur_eq]; exact Or.inr rfl
          · rw [ur_ne _ _ w]; exact a2 k k0 k1
        · rw [r167]
          by_cases w : 0 = o
          · rw [w, ur_eq]
          · rw [ur_ne _ _ w]; exact a3
        · have w : 0 ≠ o := fun w => g3 (by rw [← w]; exact a3)
          rw [lx 0 w]; exact a4
        · by_cases w : k = o
          · rw [w, lo]
            refine ⟨DER.st dk edge, ?_⟩
            have := crF_b (d := x % 4) (q := cG s (m 149) (m 150) (x / 4) (x % 4) - 2) bk
            obtain ⟨y1, y2, y3⟩ := this
            exact ⟨by omega, by omega, by omega⟩
          · rw [r167, ur_ne _ _ w] at hk
            rw [lx k w]
            obtain ⟨z1, y1, y2, y3⟩ := a5 k k0' k1' hk
            exact ⟨z1, by omega, by omega, by omega⟩
        · rw [r167, cu]; omega
        · rcases a7 with q | ⟨q, k, d, o', e, l1, l2, ne⟩
          · exact Or.inl q
          · have w1 : k ≠ o := fun w => g3 (by rw [← w]; exact l1)
            have w2 : o' ≠ o := fun w => g3 (by rw [← w]; exact l2)
            exact Or.inr ⟨q, k, d, o', e, by rw [r167, ur_ne _ _ w1]; exact l1, by rw [r167, ur_ne _ _ w2]; exact l2, by rw [lx k w1, lx o' w2]; exact ne⟩
theorem c_foldOf {s : SS} {K : Int → tM → Prop} (hr : RepM (m 145 4) (m 149) (m 150) (m 151) (m 152) s) (hw : WF s) (hk : ∀ r m', (∀ c, c < 167 ∨ 173 < c → m' c = m c) → RFF (m 145 4) (cG s (m 149) (m 150)) (nG (m 145 4) (m 149) (m 150)) (labM m') r → K r m') : Cli mX12_foldOf [rV 145] m K := by
  have n0 := hr.1.1
  have n1 := hr.1.2.1
  refine wX12_foldOf_0 ⟨fun g => ⟨_, rfl, hk 1 m (fun _ _ => rfl) ⟨fun _ => rfl, fun z => absurd z.1 (by omega)⟩⟩, fun g => ?_⟩
  have np : 0 < m 145 4 := by omega
  have key := up_ind (n := m 145 4) (fun i => Tj mX12_foldOf 11 [some (rV 145), some (iV i)] [] (sr m 167 (fil (fun _ => 0) (m 167) 0 i)) (fun r m' => ∃ x, r = some (iV x) ∧ K x m')) ?_ ?_ (i := 0) (by omega) n0
  · rw [fil_0, sr_self] at key
    exact key
  · generalize hm1 : sr m 167 (fil (fun _ => 0) (m 167) 0 (m 145 4)) = m1
    have f1 : ∀ c, c ≠ 167 → m1 c = m c := fun c hc => by rw [← hm1, sr_ne _ _ hc]
    have z1 : ∀ k, 0 ≤ k → k < m 145 4 → m1 167 k = 0 := fun k k0 k1 => by rw [← hm1, sr_eq, fil_in _ _ (by omega)]
    refine wX12_foldOf_11 ⟨fun g => absurd g (by rw [f1 145 (by omega)]; omega), fun _ m2 e2 => ?_⟩
    generalize hm3 : up m2 173 0 4 = m3
    have r167 : m3 167 = ur (m1 167) 0 1 := by
      rw [← hm3, up_ne _ _ _ (by omega), e2, up_ne _ _ _ (by omega), up_ne _ _ _ (by omega), up_ne _ _ _ (by omega), up_ne _ _ _ (by omega), up_ne _ _ _ (by omega)]
      exact sr_eq _ _ _
    have lab : labM m3 0 = p0F := by
      refine p6_ext ?_ ?_ ?_ ?_ ?_ ?_
      · rw [← hm3, up_ne _ _ _ (by omega), e2, up_ne _ _ _ (by omega), up_ne _ _ _ (by omega), up_ne _ _ _ (by omega), up_ne _ _ _ (by omega), up_at]
      · rw [← hm3, up_ne _ _ _ (by omega), e2, up_ne _ _ _ (by omega), up_ne _ _ _ (by omega), up_ne _ _ _ (by omega), up_at]
      · rw [← hm3, up_ne _ _ _ (by omega), e2, up_ne _ _ _ (by omega), up_ne _ _ _ (by omega), up_at]
      · rw [← hm3, up_at]
      · rw [← hm3, up_ne _ _ _ (by omega), e2, up_ne _ _ _ (by omega), up_at]
      · rw [← hm3, up_ne _ _ _ (by omega), e2, up_at]
    have f3 : ∀ c, c < 167 ∨ 173 < c → m3 c = m c := fun c hc => by
      rw [← hm3, up_ne _ _ _ (by omega), e2, up_ne _ _ _ (by omega), up_ne _ _ _ (by omega), up_ne _ _ _ (by omega), up_ne _ _ _ (by omega), up_ne _ _ _ (by omega), up_ne _ _ _ (by omega), f1 c (by omega)]
    have cu := cn_up (r := m1 167) (n := m 145 4) (o := 0) (by omega) np (by rw [z1 0 (by omega) np]; omega)
    have cz := cn_zero (fun k => decide (m1 167 (k : Int) = 1)) (m 145 4).toNat (fun k hk => decide_eq_false (by rw [z1 k (by omega) (by omega)]; omega))
    refine fold_loop hr hw rfl np hk 61 1 0 m3 ⟨f3, fun k k0 k1 => ?_, by rw [r167, ur_eq], lab, fun k k0 k1 hk' => ?_, ⟨by omega, by rw [r167, cu, cz]; rfl⟩, Or.inl rfl⟩ (by omega)
    · rw [r167]
      by_cases w : k = 0
      · rw [w, ur_eq]; exact Or.inr rfl
      · rw [ur_ne _ _ w]; exact Or.inl (z1 k k0 k1)
    · by_cases w : k = 0
      · rw [w, lab]
        exact ⟨DER.rf, ⟨by decide, by decide⟩, ⟨by decide, by decide⟩, ⟨by decide, by decide⟩⟩
      · rw [r167, ur_ne _ _ w, z1 k k0 k1] at hk'; omega
  · intro i i0 i1 ih
    have e4 : (sr m 167 (fil (fun _ => 0) (m 167) 0 i)) 145 4 = m 145 4 := by rw [sr_ne _ _ (by omega)]
    refine wX12_foldOf_11 ⟨fun _ => ⟨⟨i0, by omega, by constructor <;> omega⟩, ?_⟩, fun g => absurd (by rw [e4]; exact i1) g⟩
    have := fil_s (fun _ => 0) (m 167) 0 i0
    rw [show 0 + i = i by omega] at this
    rw [up_sr, this]
    exact ih
end C10f
