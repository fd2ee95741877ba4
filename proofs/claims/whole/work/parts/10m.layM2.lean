/-! the reference lays a skin flat: its search -/
def GI (n : Int) (L ct : Int → Int) (m m' : tM) (f tw : Int) : Prop := FR3 m m' ∧ (∀ k, 0 ≤ k → k < n → m' 161 k = 0 ∨ m' 161 k = 1) ∧ m' 161 0 = 1 ∧ labL m' 0 = (0, 0, 0) ∧ (∀ k, 0 ≤ k → k < n → m' 161 k = 1 → LD n L ct k (labL m' k) ∧ bL (f - 1) (labL m' k)) ∧ (1 ≤ f ∧ f = (cn (fun k => decide (m' 161 (k : Int) = 1)) n.toNat : Int)) ∧ (tw = 0 ∨ (tw = 1 ∧ ∃ k d o, EG n (ucL ct) (aqL L) k d o ∧ m' 161 k = 1 ∧ m' 161 o = 1 ∧ labL m' o ≠ crL L k d (labL m' k)))
section C10m
variable {m : tM} {c L B ct : Int → Int} {n : Int}
theorem c_layEnd {K : Int → tM → Prop} (hn : m 145 17 = n) (n0 : 0 ≤ n) (n1 : n ≤ 384) (h1 : OVL3 n (labL m) → K 3 m) (h0 : ¬ OVL3 n (labL m) → K 0 m) : Tj mX12_lay 188 [some (rV 145), none, none, none, some (iV 0)] [] m (fun r m' => ∃ x, r = some (iV x) ∧ K x m') := by
  have key := up_ind (n := n) (fun a => (∀ a' b, 0 ≤ b → b < a' → a' < a → ¬ ((labL m a').1 = (labL m b).1 ∧ (labL m a').2.1 = (labL m b).2.1)) → Tj mX12_lay 188 [some (rV 145), none, none, none, some (iV a)] [] m (fun r m' => ∃ n, r = some (iV n) ∧ K n m')) ?_ ?_ (i := 0) (by omega) n0
  · exact key (fun a' b b0 b1 a1 => by omega)
  · intro no
    refine wX12_lay_188 ⟨fun g => absurd g (by rw [hn]; omega), fun _ => ⟨_, rfl, h0 ?_⟩⟩
    rintro ⟨a, b, b0, ba, an, e⟩
    exact no a b b0 ba an e
  · intro a a0 a1 ih no
    refine wX12_lay_188 ⟨fun _ => ?_, fun g => absurd (by rw [hn]; exact a1) g⟩
    have key2 := up_ind (n := a) (fun b => (∀ b', 0 ≤ b' → b' < b → ¬ ((labL m a).1 = (labL m b').1 ∧ (labL m a).2.1 = (labL m b').2.1)) → Tj mX12_lay 200 [some (rV 145), none, none, none, some (iV a), some (iV b)] [] m (fun r m' => ∃ n, r = some (iV n) ∧ K n m')) ?_ ?_ (i := 0) (by omega) a0
    · exact key2 (fun b' b0 b1 => by omega)
    · intro nb
      refine wX12_lay_200 ⟨fun g => by omega, fun _ => ⟨by constructor <;> omega, ih (fun a' b b0 b1 a1' => ?_)⟩⟩
      by_cases q : a' = a
      · rw [q]; exact nb b b0 (by omega)
      · exact no a' b b0 b1 (by omega)
    · intro b b0 b1 ih2 nb
      have nxt : ¬ ((labL m a).1 = (labL m b).1 ∧ (labL m a).2.1 = (labL m b).2.1) → Tj mX12_lay 200 [some (rV 145), none, none, none, some (iV a), some (iV (b + 1))] [] m (fun r m' => ∃ n, r = some (iV n) ∧ K n m') := fun z => ih2 (fun b' b0' b1' => by
        by_cases q : b' = b
        · rw [q]; exact z
        · exact nb b' b0' (by omega))
      exact wX12_lay_200 ⟨fun _ => ⟨⟨a0, by omega, b0, by omega⟩, fun g1 => ⟨fun g2 => ⟨_, rfl, h1 ⟨a, b, b0, b1, a1, g1, g2⟩⟩, fun g2 => ⟨by constructor <;> omega, nxt (fun z => g2 z.2)⟩⟩, fun g1 => ⟨by constructor <;> omega, nxt (fun z => g1 z.1)⟩⟩, fun g => absurd b1 g⟩
theorem lay_fin {m' : tM} {f tw : Int} {K : Int → tM → Prop} (np : 0 < n) (n1 : n ≤ 60) (hn : m 145 17 = n) (h : GI n L ct m m' f tw) (cl : ∀ k d o, EG n (ucL ct) (aqL L) k d o → m' 161 k = 1 → m' 161 o = 1 ∧ (tw = 0 → labL m' o = crL L k d (labL m' k))) (hk : ∀ r m', FR3 m m' → RLL n L ct (labL m') r → K r m') : Tj mX12_lay 57 [some (rV 145), some (iV f), some (iV tw), some (iV 0)] [] m' (fun r m' => ∃ x, r = some (iV x) ∧ K x m') := by
  obtain ⟨a1, a2, a3, a4, a5, a6, a7⟩ := h
  have e4 : m' 145 17 = n := by rw [a1.2 17 (by omega) (by omega) (by omega), hn]
  have fb := cn_bound (fun k => decide (m' 161 (k : Int) = 1)) n.toNat
  refine wX12_lay_57 ⟨fun _ => ⟨fun g => ⟨_, rfl, hk 1 m' a1 ⟨fun _ => rfl, fun z => ?_⟩⟩, fun g => ?_⟩, fun g => absurd rfl g⟩
  · exfalso
    rw [e4] at g
    have laid : ∀ k, 0 ≤ k → k < n → m' 161 k = 1 := fun k k0 k1 => z k k0 k1 (fun k => m' 161 k = 1) a3 (fun k d o e q => (cl k d o e q).1)
    have := cn_le (fun _ => true) (fun k => decide (m' 161 (k : Int) = 1)) n.toNat (fun k hk _ => decide_eq_true (laid k (by omega) (by omega)))
    rw [cn_true] at this
    omega
  · rw [e4] at g
    have full := cn_full (fun k => decide (m' 161 (k : Int) = 1)) n.toNat (by omega)
    have laid : ∀ k, 0 ≤ k → k < n → m' 161 k = 1 := fun k k0 k1 => by
      have := of_decide_eq_true (full k.toNat (by omega))
      rw [ix_cast k0] at this
      exact this
    have all : ∀ k, 0 ≤ k → k < n → REG n (ucL ct) (aqL L) k := fun k k0 k1 => (a5 k k0 k1 (laid k k0 k1)).1.r
    have lab : ∀ k, 0 ≤ k → k < n → LD n L ct k (labL m' k) ∧ bL 60 (labL m' k) := fun k k0 k1 => by
      obtain ⟨x, y1, y2⟩ := a5 k k0 k1 (laid k k0 k1)
      exact ⟨x, by omega, by omega⟩
    refine ⟨fun g2 => ?_, fun g2 => ⟨_, rfl, hk 2 m' a1 ⟨fun z => absurd all z, fun _ => ⟨lab, a4, fun _ => rfl, fun z => ?_⟩⟩⟩⟩
    · have cns : CNS n (ucL ct) (aqL L) (crL L) (labL m') := fun k d o e => (cl k d o e (laid k e.1 e.2.1)).2 g2
      exact c_layEnd e4 (by omega) (by omega) (fun o => hk 3 m' a1 ⟨fun z => absurd all z, fun _ => ⟨lab, a4, fun z => absurd cns z, fun _ => ⟨fun _ => rfl, fun z => absurd o z⟩⟩⟩) (fun o => hk 0 m' a1 ⟨fun z => absurd all z, fun _ => ⟨lab, a4, fun z => absurd cns z, fun _ => ⟨fun z => absurd z o, fun _ => rfl⟩⟩⟩)
    · rcases a7 with q | ⟨-, k, d, o, e, -, -, ne⟩
      · exact absurd q g2
      · exact absurd (z k d o e) ne
theorem lay_loop {K : Int → tM → Prop} (hc : CE m c) (hN : NS c 384 (m 158) (m 159) (m 160)) (hL : LDS c (4 * oN c 384) L B) (hg : SKN n L B) (hn : m 145 17 = n) (en : n = oN c 384) (np : 0 < n) (n1 : n ≤ 60) (hct : m 148 = ct) (hk : ∀ r m', FR3 m m' → RLL n L ct (labL m') r → K r m') : ∀ (fuel : Nat) (f tw : Int) (m0 : tM), GI n L ct m m0 f tw → n - f < fuel → Tj mX12_lay 57 [some (rV 145), some (iV f), some (iV tw), some (iV 1)] [] m0 (fun r m' => ∃ x, r = some (iV x) ∧ K x m') := by
  intro fuel
  induction fuel with
  | zero =>
    intro f tw m0 hi hf
    have fb := cn_bound (fun k => decide (m0 161 (k : Int) = 1)) n.toNat
    have := hi.2.2.2.2.2.1.2
    omega
  | succ fuel ihf =>
    intro f0 tw0 m0 hi hf
    refine wX12_lay_57 ⟨fun g => by omega, fun _ => ?_⟩
    have key := up_ind (n := 4 * n) (fun x => ∀ (f tw mo : Int) (m' : tM), GI n L ct m m' f tw → (mo = 0 ∧ f = f0 ∧ (∀ k d o, 4 * k + d < x → EG n (ucL ct) (aqL L) k d o → m' 161 k = 1 → m' 161 o = 1 ∧ (tw = 0 → labL m' o = crL L k d (labL m' k)))) ∨ (mo = 1 ∧ f0 < f) → Tj mX12_lay 66 [some (rV 145), some (iV f), some (iV tw), some (iV mo), some (iV x)] [] m' (fun r m' => ∃ x, r = some (iV x) ∧ K x m')) ?_ ?_ (i := 0) (by omega) (by omega)
    · exact key f0 tw0 0 m0 hi (Or.inl ⟨rfl, rfl, fun k d o hx e => by have := e.1; have := e.2.2.1; omega⟩)
    · intro f tw mo m' fi hmo
      have e4 : m' 145 17 = n := by rw [fi.1.2 17 (by omega) (by omega) (by omega), hn]
      refine wX12_lay_66 ⟨by rw [e4]; constructor <;> omega, fun g => absurd g (by rw [e4]; omega), fun _ => ?_⟩
      rcases hmo with ⟨rfl, -, cl⟩ | ⟨rfl, lt⟩
      · exact lay_fin np n1 hn fi (fun k d o e q => cl k d o (by have := e.2.1; have := e.2.2.2.1; omega) e q) hk
      · exact ihf f tw m' fi (by omega)
    · intro x x0 x1 ih f tw mo m' fi hmo
      obtain ⟨a1, a2, a3, a4, a5, a6, a7⟩ := id fi
      have e4 : m' 145 17 = n := by rw [a1.2 17 (by omega) (by omega) (by omega), hn]
      have e148 : m' 148 = ct := by rw [a1.1 148 (by omega) (by omega), hct]
      have fb := cn_bound (fun k => decide (m' 161 (k : Int) = 1)) n.toNat
      have k0 : 0 ≤ x / 4 := by omega
      have k1 : x / 4 < n := by omega
      have ex : 4 * (x / 4) + x % 4 = x := by omega
      have skip : (∀ o, EG n (ucL ct) (aqL L) (x / 4) (x % 4) o → m' 161 (x / 4) = 1 → m' 161 o = 1 ∧ (tw = 0 → labL m' o = crL L (x / 4) (x % 4) (labL m' (x / 4)))) → Tj mX12_lay 66 [some (rV 145), some (iV f), some (iV tw), some (iV mo), some (iV (x + 1))] [] m' (fun r m' => ∃ x, r = some (iV x) ∧ K x m') := fun hs => ih f tw mo m' fi (by
        rcases hmo with ⟨b1, b2, cl⟩ | b
        · refine Or.inl ⟨b1, b2, fun k d o hx e q => ?_⟩
          by_cases w : 4 * k + d = x
          · have d0 := e.2.2.1
            have d1 := e.2.2.2.1
            have ek : x / 4 = k := by omega
            have ed : x % 4 = d := by omega
            rw [ek, ed] at hs
            exact hs o e q
          · exact cl k d o (by omega) e q
        · exact Or.inr b)
      refine wX12_lay_66 ⟨by rw [e4]; constructor <;> omega, fun _ => ⟨⟨x0, by omega, by omega⟩, fun g1 => ⟨by omega, fun g2 => ?_, fun g2 => ⟨by constructor <;> omega, skip (fun o e _ => ?_)⟩⟩, fun g1 => ⟨by constructor <;> omega, skip (fun o e q => absurd q g1)⟩⟩, fun g => absurd (by rw [e4]; exact x1) g⟩
      rotate_left
      · have := ucL_e.1 e.2.2.2.2.1
        rw [ex] at this
        rw [e148] at g2
        exact absurd this g2
      rw [e148] at g2
      obtain ⟨dk, bk⟩ := a5 (x / 4) k0 k1 g1
      have edge : EG n (ucL ct) (aqL L) (x / 4) (x % 4) (aqL L (x / 4) (x % 4)) := ⟨k0, k1, by omega, by omega, ucL_e.2 (by rw [ex]; exact g2), rfl⟩
      have nx : 0 ≤ aqL L (x / 4) (x % 4) ∧ aqL L (x / 4) (x % 4) < n := (hg (x / 4) (x % 4) k0 k1 (by omega) (by omega)).1
      have bk' : bL 100 (labL m' (x / 4)) := by
        obtain ⟨y1, y2⟩ := bk
        exact ⟨by omega, by omega⟩
      refine c_layAcross (c := c) (L := L) (B := B) (fun q q0 q1 => by rw [a1.1 147 (by omega) (by omega)]; exact hc q q0 q1) (by rw [a1.1 158 (by omega) (by omega), a1.1 159 (by omega) (by omega), a1.1 160 (by omega) (by omega)]; exact hN) hL k0 (by omega) (by omega) (by omega) dk.t bk' ?_ ?_
      · intro g3 m2 fr2 same
        have lb : ∀ y, labL m2 y = labL m' y := fun y => by
          unfold labL
          rw [same 162 (by omega) (by omega), same 163 (by omega) (by omega), same 164 (by omega) (by omega)]
        have e161 : m2 161 = m' 161 := same 161 (by omega) (by omega)
        have fi2 : ∀ tw', (tw' = 0 ∨ (tw' = 1 ∧ ∃ k d o, EG n (ucL ct) (aqL L) k d o ∧ m' 161 k = 1 ∧ m' 161 o = 1 ∧ labL m' o ≠ crL L k d (labL m' k))) → GI n L ct m m2 f tw' := fun tw' htw => by
          refine ⟨⟨fun y y1 y2 => by rw [fr2.1 y y1 y2, a1.1 y y1 y2], fun j j1 j2 j3 => by rw [fr2.2 j j1 j2 j3, a1.2 j j1 j2 j3]⟩, ?_, ?_, ?_, ?_, ?_, ?_⟩
          · rw [e161]; exact a2
          · rw [e161]; exact a3
          · rw [lb]; exact a4
          · intro y y0 y1 hy
            rw [e161] at hy
            rw [lb]
            exact a5 y y0 y1 hy
          · rw [e161]; exact a6
          · rw [e161]
            rcases htw with q | ⟨q, k, d, o, w⟩
            · exact Or.inl q
            · exact Or.inr ⟨q, k, d, o, by rw [lb, lb]; exact w⟩
        have cont : ∀ (tw' : Int), (tw = 0 → tw' = 0 ∨ tw' = 1) → (tw' = 0 → tw = 0 ∧ labL m' (aqL L (x / 4) (x % 4)) = crL L (x / 4) (x % 4) (labL m' (x / 4))) → (tw' = 0 ∨ (tw' = 1 ∧ ∃ k d o, EG n (ucL ct) (aqL L) k d o ∧ m' 161 k = 1 ∧ m' 161 o = 1 ∧ labL m' o ≠ crL L k d (labL m' k))) → Tj mX12_lay 66 [some (rV 145), some (iV f), some (iV tw'), some (iV mo), some (iV (x + 1))] [] m2 (fun r m' => ∃ x, r = some (iV x) ∧ K x m') := fun tw' _ h0 htw => ih f tw' mo m2 (fi2 tw' htw) (by
          rcases hmo with ⟨b1, b2, cl⟩ | b
          · refine Or.inl ⟨b1, b2, fun k d o hx e q => ?_⟩
            rw [e161] at q ⊢
            rw [lb, lb]
            by_cases w : 4 * k + d = x
            · have d0 := e.2.2.1
              have d1 := e.2.2.2.1
              have ek : x / 4 = k := by omega
              have ed : x % 4 = d := by omega
              have eo := e.2.2.2.2.2
              rw [ek, ed] at g3 h0
              rw [← eo]
              exact ⟨g3, fun z => (h0 z).2⟩
            · exact ⟨(cl k d o (by omega) e q).1, fun z => (cl k d o (by omega) e q).2 (h0 z).1⟩
          · exact Or.inr b)
        constructor
        · intro g4 v1 h1 v2 h2
          rw [if_neg (by omega)] at h2
          have t1 : v1 = tw := by
            rw [h1]
            rcases a7 with q | ⟨q, -⟩
            · rw [if_pos q, if_neg (by omega), q]
            · rw [if_neg (by omega), q]
          rw [h2, Int.add_zero, t1]
          refine ⟨by constructor <;> omega, fun v3 h3 => ⟨by constructor <;> omega, ?_⟩⟩
          have t3 : v3 = mo := by
            rw [h3]
            rcases hmo with ⟨q, -⟩ | ⟨q, -⟩
            · rw [if_pos q, if_neg (by omega), q]
            · rw [if_neg (by omega), q]
          rw [t3]
          exact cont tw (fun z => Or.inl z) (fun z => ⟨z, g4⟩) a7
        · intro g4 v1 h1 v2 h2
          rw [if_neg (by omega)] at h2
          have t1 : v1 = 1 := by
            rw [h1]
            split
            · rw [if_pos rfl]
            · rfl
          rw [h2, Int.add_zero, t1]
          refine ⟨by constructor <;> omega, fun v3 h3 => ⟨by constructor <;> omega, ?_⟩⟩
          have t3 : v3 = mo := by
            rw [h3]
            rcases hmo with ⟨q, -⟩ | ⟨q, -⟩
            · rw [if_pos q, if_neg (by omega), q]
            · rw [if_neg (by omega), q]
          rw [t3]
          exact cont 1 (fun _ => Or.inr rfl) (fun z => absurd z (by omega)) (Or.inr ⟨rfl, _, _, _, edge, g1, g3, g4⟩)
      · intro g3 m2 f2 r161 lo lx v1 h1 v2 h2
        rw [if_pos rfl] at h2
        have t1 : v1 = tw := by
          rw [h1]
          rcases a7 with q | ⟨q, -⟩
          · rw [if_pos q, if_neg (by omega), q]
          · rw [if_neg (by omega), q]
        rw [h2, t1]
        generalize hoo : aqL L (x / 4) (x % 4) = o at *
        have cu := cn_up (r := m' 161) nx.1 nx.2 g3
        have fb2 := cn_bound (fun k => decide (ur (m' 161) o 1 (k : Int) = 1)) n.toNat
        refine ⟨by constructor <;> omega, fun v3 h3 => ⟨by constructor <;> omega, ?_⟩⟩
        have t3 : v3 = 1 := by
          rw [h3]
          split
          · rw [if_pos rfl]
          · rfl
        rw [t3]
        refine ih (f + 1) tw 1 m2 ⟨⟨fun y y1 y2 => by rw [f2.1 y y1 y2, a1.1 y y1 y2], fun j j1 j2 j3 => by rw [f2.2 j j1 j2 j3, a1.2 j j1 j2 j3]⟩, fun k k0 k1 => ?_, ?_, ?_, fun k k0' k1' hk => ?_, ⟨by omega, ?_⟩, ?_⟩ (Or.inr ⟨rfl, by
          rcases hmo with ⟨-, b2, -⟩ | ⟨-, b⟩ <;> omega⟩)
        · rw [r161]
          by_cases w : k = o
          · rw [w, ur_eq]; exact Or.inr rfl
          · rw [ur_ne _ _ w]; exact a2 k k0 k1
        · rw [r161]
          by_cases w : 0 = o
          · rw [w, ur_eq]
          · rw [ur_ne _ _ w]; exact a3
        · have w : 0 ≠ o := fun w => g3 (by rw [← w]; exact a3)
          rw [lx 0 w]; exact a4
        · by_cases w : k = o
          · rw [w, lo]
            refine ⟨DER.st dk edge, ?_⟩
            have := crL_b (L := L) (k := x / 4) (s := x % 4) bk
            obtain ⟨y1, y2⟩ := this
            exact ⟨by omega, by omega⟩
          · rw [r161, ur_ne _ _ w] at hk
            rw [lx k w]
            obtain ⟨z1, y1, y2⟩ := a5 k k0' k1' hk
            exact ⟨z1, by omega, by omega⟩
        · rw [r161, cu]; omega
        · rcases a7 with q | ⟨q, k, d, o', e, l1, l2, ne⟩
          · exact Or.inl q
          · have w1 : k ≠ o := fun w => g3 (by rw [← w]; exact l1)
            have w2 : o' ≠ o := fun w => g3 (by rw [← w]; exact l2)
            exact Or.inr ⟨q, k, d, o', e, by rw [r161, ur_ne _ _ w1]; exact l1, by rw [r161, ur_ne _ _ w2]; exact l2, by rw [lx k w1, lx o' w2]; exact ne⟩
theorem c_layM {K : Int → tM → Prop} (hc : CE m c) (hN : NS c 384 (m 158) (m 159) (m 160)) (hL : LDS c (4 * oN c 384) L B) (hg : SKN n L B) (hn : m 145 17 = n) (en : n = oN c 384) (np : 0 < n) (n1 : n ≤ 60) (hk : ∀ r m', FR3 m m' → RLL n L (m 148) (labL m') r → K r m') : Cli mX12_lay [rV 145] m K := by
  refine wX12_lay_0 ?_
  have key := up_ind (n := n) (fun i => Tj mX12_lay 2 [some (rV 145), some (iV i)] [] (sr m 161 (fil (fun _ => 0) (m 161) 0 i)) (fun r m' => ∃ x, r = some (iV x) ∧ K x m')) ?_ ?_ (i := 0) (by omega) (by omega)
  · rw [fil_0, sr_self] at key
    exact key
  · generalize hm1 : sr m 161 (fil (fun _ => 0) (m 161) 0 n) = m1
    have f1 : ∀ c, c ≠ 161 → m1 c = m c := fun c hc => by rw [← hm1, sr_ne _ _ hc]
    have z1 : ∀ k, 0 ≤ k → k < n → m1 161 k = 0 := fun k k0 k1 => by rw [← hm1, sr_eq, fil_in _ _ (by omega)]
    refine wX12_lay_2 ⟨fun g => absurd g (by rw [f1 145 (by omega), hn]; omega), fun _ => ?_⟩
    generalize hm3 : up (up (up (up m1 161 0 1) 162 0 0) 163 0 0) 164 0 0 = m3
    have r161 : m3 161 = ur (m1 161) 0 1 := by
      rw [← hm3, up_ne _ _ _ (by omega), up_ne _ _ _ (by omega), up_ne _ _ _ (by omega)]
      exact sr_eq _ _ _
    have lab : labL m3 0 = (0, 0, 0) := by
      refine l3_ext ?_ ?_ ?_
      · rw [← hm3, up_ne _ _ _ (by omega), up_ne _ _ _ (by omega), up_at]
      · rw [← hm3, up_ne _ _ _ (by omega), up_at]
      · rw [← hm3, up_at]
    have f3 : FR3 m m3 := ⟨fun y y1 y2 => by rw [← hm3, up_ne _ _ _ (by omega), up_ne _ _ _ (by omega), up_ne _ _ _ (by omega), up_ne _ _ _ (by omega), f1 y (by omega)], fun j _ _ _ => by rw [← hm3, up_ne _ _ _ (by omega), up_ne _ _ _ (by omega), up_ne _ _ _ (by omega), up_ne _ _ _ (by omega), f1 145 (by omega)]⟩
    have cu := cn_up (r := m1 161) (n := n) (o := 0) (by omega) np (by rw [z1 0 (by omega) np]; omega)
    have cz := cn_zero (fun k => decide (m1 161 (k : Int) = 1)) n.toNat (fun k hk => decide_eq_false (by rw [z1 k (by omega) (by omega)]; omega))
    refine lay_loop hc hN hL hg hn en np n1 rfl hk 61 1 0 m3 ⟨f3, fun k k0 k1 => ?_, by rw [r161, ur_eq], lab, fun k k0 k1 hk' => ?_, ⟨by omega, by rw [r161, cu, cz]; rfl⟩, Or.inl rfl⟩ (by omega)
    · rw [r161]
      by_cases w : k = 0
      · rw [w, ur_eq]; exact Or.inr rfl
      · rw [ur_ne _ _ w]; exact Or.inl (z1 k k0 k1)
    · by_cases w : k = 0
      · rw [w, lab]
        exact ⟨DER.rf, ⟨by decide, by decide⟩, ⟨by decide, by decide⟩⟩
      · rw [r161, ur_ne _ _ w, z1 k k0 k1] at hk'; omega
  · intro i i0 i1 ih
    have e4 : (sr m 161 (fil (fun _ => 0) (m 161) 0 i)) 145 17 = n := by rw [sr_ne _ _ (by omega), hn]
    refine wX12_lay_2 ⟨fun _ => ⟨⟨i0, by omega, by constructor <;> omega⟩, ?_⟩, fun g => absurd (by rw [e4]; exact i1) g⟩
    have := fil_s (fun _ => 0) (m 161) 0 i0
    rw [show 0 + i = i by omega] at this
    rw [up_sr, this]
    exact ih
end C10m
