/-! the class lays a skin flat: does it agree -/
section C10k
variable {m : tM} {n : Int} {L B ct : Int → Int}
theorem c_liesBesideL {k s : Int} {K : Int → tM → Prop} (n1 : n ≤ 60) (hg : SKN n (m 113) B) (k0 : 0 ≤ k) (k1 : k < n) (s0 : 0 ≤ s) (s1 : s < 4) (ht : 0 ≤ m 118 k ∧ m 118 k < 4) (hb : bL 100 (labC m k)) (h1 : labC m (aqL (m 113) k s) = crL (m 113) k s (labC m k) → K 1 m) (h0 : labC m (aqL (m 113) k s) ≠ crL (m 113) k s (labC m k) → K 0 m) : Cli mX5_liesBeside [rV 115, rV 109, iV k, iV s] m K := by
  have sk := hg k s k0 k1 s0 s1
  have b1 : -100 ≤ m 116 k ∧ m 116 k ≤ 100 := hb.1
  have b2 : -100 ≤ m 117 k ∧ m 117 k ≤ 100 := hb.2
  have xr := dX_r ((s + m 118 k) % 4)
  have yr := dY_r ((s + m 118 k) % 4)
  refine wX5_liesBeside_0 (c_squareAcross (v := m 113 (4 * k + s) / 4) (t := m 113 (4 * k + s) % 4) k0 (by omega) s0 s1 (by omega) sk.1.1 (by omega) (by omega) (by omega) ⟨⟨k0, by omega, by constructor <;> omega, sk.1.1, by omega⟩, ?_⟩)
  rw [bAnd_3 (by constructor <;> omega)]
  refine c_stepX ?_
  rw [show (s + m 118 k) % 4 % 4 = (s + m 118 k) % 4 by omega]
  refine ⟨by constructor <;> omega, fun g1 => c_stepY ?_, fun g1 => ⟨_, rfl, h0 (fun z => g1 (congrArg (fun z : L3 => z.1) z))⟩⟩
  rw [show (s + m 118 k) % 4 % 4 = (s + m 118 k) % 4 by omega]
  refine ⟨by constructor <;> omega, fun g2 => c_turnBeside k0 (by omega) s0 s1 ht (by omega) (fun v hv => ⟨_, rfl, ?_⟩), fun g2 => ⟨_, rfl, h0 (fun z => g2 (congrArg (fun z : L3 => z.2.1) z))⟩⟩
  by_cases g3 : m 118 (m 113 (4 * k + s) / 4) = (s + m 118 k + 2 - m 113 (4 * k + s) % 4) % 4
  · rw [if_pos g3] at hv
    rw [hv]
    exact h1 (l3_ext g1 g2 g3)
  · rw [if_neg g3] at hv
    rw [hv]
    exact h0 (fun z => g3 (congrArg (fun z : L3 => z.2.2) z))
theorem c_agreesL {K : Int → tM → Prop} (n0 : 0 ≤ n) (n1 : n ≤ 60) (hg : SKN n (m 113) B) (hE : E1 (m 5) ct) (hn : m 115 4 = n) (hv : ∀ k, 0 ≤ k → k < n → (0 ≤ m 118 k ∧ m 118 k < 4) ∧ bL 100 (labC m k)) (h1 : CNS n (ucL ct) (aqL (m 113)) (crL (m 113)) (labC m) → K 1 m) (h0 : ¬ CNS n (ucL ct) (aqL (m 113)) (crL (m 113)) (labC m) → K 0 m) : Cli mX5_agrees [rV 115, rV 109, rV 4] m K := by
  refine wX5_agrees_0 ?_
  have key := up_ind (n := n) (fun k => (∀ j d o, j < k → EG n (ucL ct) (aqL (m 113)) j d o → labC m o = crL (m 113) j d (labC m j)) → Tj mX5_agrees 2 [some (rV 115), some (rV 109), some (rV 4), some (iV k)] [] m (fun r m' => ∃ x, r = some (iV x) ∧ K x m')) ?_ ?_ (i := 0) (by omega) n0
  · exact key (fun j d o j1 e => absurd e.1 (by omega))
  · intro ok
    exact wX5_agrees_2 ⟨fun g => absurd g (by rw [hn]; omega), fun _ => ⟨_, rfl, h1 (fun k d o e => ok k d o e.2.1 e)⟩⟩
  · intro k k0 k1 ih ok
    refine wX5_agrees_2 ⟨fun _ => ?_, fun g => absurd (by rw [hn]; exact k1) g⟩
    have key2 := up_ind (n := 4) (fun d => (∀ j e o, (j < k ∨ (j = k ∧ e < d)) → EG n (ucL ct) (aqL (m 113)) j e o → labC m o = crL (m 113) j e (labC m j)) → Tj mX5_agrees 13 [some (rV 115), some (rV 109), some (rV 4), some (iV k), some (iV d)] [] m (fun r m' => ∃ x, r = some (iV x) ∧ K x m')) ?_ ?_ (i := 0) (by omega) (by omega)
    · refine key2 (fun j d o hj e => ok j d o ?_ e)
      have := e.2.2.1
      omega
    · intro ok
      refine wX5_agrees_13 ⟨fun g => by omega, fun _ => ⟨by constructor <;> omega, ih (fun j d o hj e => ok j d o ?_ e)⟩⟩
      have := e.2.2.2.1
      omega
    · intro d d0 d1 ih2 ok
      have ee := hE k k0 (by omega)
      have vk := hv k k0 k1
      refine wX5_agrees_13 ⟨fun _ => c_isCut k0 (by omega) d0 d1 ⟨ee.1, ee.2.1⟩ ?_, fun g => absurd d1 g⟩
      rw [← ee.2.2 d d0 d1]
      refine ⟨fun hc => c_liesBesideL n1 hg k0 k1 d0 d1 vk.1 vk.2 (fun z => ⟨fun g => by omega, fun _ => ⟨by constructor <;> omega, ih2 (fun j e o hj eg => ?_)⟩⟩) (fun z => ⟨fun _ => ⟨_, rfl, h0 (fun w => z (w k d _ ⟨k0, k1, d0, d1, ucL_e.2 hc, rfl⟩))⟩, fun g => absurd rfl g⟩), fun hc => ⟨by constructor <;> omega, ih2 (fun j e o hj eg => ?_)⟩⟩
      · by_cases q : j = k ∧ e = d
        · obtain ⟨-, -, -, -, -, eo⟩ := eg
          rw [q.1, q.2] at eo ⊢
          rw [← eo]; exact z
        · exact ok j e o (by omega) eg
      · by_cases q : j = k ∧ e = d
        · have := ucL_e.1 eg.2.2.2.2.1
          rw [q.1, q.2] at this
          exact absurd this hc
        · exact ok j e o (by omega) eg
theorem c_overlapsL {K : Int → tM → Prop} (hn : m 115 4 = n) (n0 : 0 ≤ n) (n1 : n ≤ 60) (h1 : OVL3 n (labC m) → K 1 m) (h0 : ¬ OVL3 n (labC m) → K 0 m) : Cli mX5_overlaps [rV 115] m K := by
  refine wX5_overlaps_0 ?_
  have key := up_ind (n := n) (fun a => (∀ a' b, 0 ≤ b → b < a' → a' < a → ¬ ((labC m a').1 = (labC m b).1 ∧ (labC m a').2.1 = (labC m b).2.1)) → Tj mX5_overlaps 2 [some (rV 115), some (iV a)] [] m (fun r m' => ∃ n, r = some (iV n) ∧ K n m')) ?_ ?_ (i := 0) (by omega) n0
  · exact key (fun a' b b0 b1 a1 => by omega)
  · intro no
    refine wX5_overlaps_2 ⟨fun g => absurd g (by rw [hn]; omega), fun _ => ⟨_, rfl, h0 ?_⟩⟩
    rintro ⟨a, b, b0, ba, an, e⟩
    exact no a b b0 ba an e
  · intro a a0 a1 ih no
    refine wX5_overlaps_2 ⟨fun _ => ?_, fun g => absurd (by rw [hn]; exact a1) g⟩
    have key2 := up_ind (n := a) (fun b => (∀ b', 0 ≤ b' → b' < b → ¬ ((labC m a).1 = (labC m b').1 ∧ (labC m a).2.1 = (labC m b').2.1)) → Tj mX5_overlaps 12 [some (rV 115), some (iV a), some (iV b)] [] m (fun r m' => ∃ n, r = some (iV n) ∧ K n m')) ?_ ?_ (i := 0) (by omega) a0
    · exact key2 (fun b' b0 b1 => by omega)
    · intro nb
      refine wX5_overlaps_12 ⟨fun g => by omega, fun _ => ⟨by constructor <;> omega, ih (fun a' b b0 b1 a1' => ?_)⟩⟩
      by_cases q : a' = a
      · rw [q]; exact nb b b0 (by omega)
      · exact no a' b b0 b1 (by omega)
    · intro b b0 b1 ih2 nb
      have nxt : ¬ ((labC m a).1 = (labC m b).1 ∧ (labC m a).2.1 = (labC m b).2.1) → Tj mX5_overlaps 12 [some (rV 115), some (iV a), some (iV (b + 1))] [] m (fun r m' => ∃ n, r = some (iV n) ∧ K n m') := fun z => ih2 (fun b' b0' b1' => by
        by_cases q : b' = b
        · rw [q]; exact z
        · exact nb b' b0' (by omega))
      exact wX5_overlaps_12 ⟨fun _ => ⟨⟨a0, by omega, b0, by omega⟩, fun g1 => ⟨fun g2 => ⟨_, rfl, h1 ⟨a, b, b0, b1, a1, g1, g2⟩⟩, fun g2 => ⟨by constructor <;> omega, nxt (fun z => g2 z.2)⟩⟩, fun g1 => ⟨by constructor <;> omega, nxt (fun z => g1 z.1)⟩⟩, fun g => absurd b1 g⟩
/-- the class's laying -/
theorem c_layC {K : Int → tM → Prop} (hn : m 109 6 = n) (np : 0 < n) (n1 : n ≤ 60) (hg : SKN n (m 113) B) (hE : E1 (m 5) ct) (h : ∀ r m', (∀ c, c < 115 ∨ 119 < c → m' c = m c) → m' 115 4 = n → RLL n (m 113) ct (labC m') r → K r m') : Cli mX5_lay [rV 115, rV 109, rV 4] m K := by
  refine wX5_lay_0 (wX9_size_0 ⟨_, rfl, ?_⟩)
  rw [hn]
  have f0 : ∀ c, c ≠ 115 → (up m 115 4 n) c = m c := fun c hc => up_ne _ _ _ hc
  refine c_layAllC (n := n) (B := B) (ct := ct) np n1 (by rw [f0 113 (by omega)]; exact hg) (by rw [f0 5 (by omega)]; exact hE) (up_at _ _ _ _) (fun m2 f2 e4 li => ?_)
  rw [f0 113 (by omega)] at li
  have fr : ∀ c, c < 115 ∨ 119 < c → m2 c = m c := fun c hc => by rw [f2 c hc, f0 c (by omega)]
  have al := li.all hg np
  have le := li.1.2
  rw [e4]
  refine ⟨fun g => ⟨_, rfl, h 1 m2 fr e4 ⟨fun _ => rfl, fun z => ?_⟩⟩, fun g => ?_⟩
  · have := al.2 z; omega
  · have eR : m2 115 5 = n := by omega
    have all := al.1 eR
    have lab : ∀ k, 0 ≤ k → k < n → LD n (m 113) ct k (labC m2 k) ∧ bL 60 (labC m2 k) := fun k k0 k1 => by
      obtain ⟨a, b, c, e, -, f, -, -⟩ := li
      rw [eR] at c e f
      obtain ⟨i, i0, i1, i2⟩ := row_all (O := m2 119) (by omega) c e k0 k1
      obtain ⟨x, y1, y2⟩ := f i i0 i1
      rw [i2] at x y1 y2
      exact ⟨x, by omega, by omega⟩
    have z0 : labC m2 0 = (0, 0, 0) := li.2.2.2.2.2.2.1
    refine c_agreesL (n := n) (B := B) (ct := ct) (by omega) n1 (by rw [fr 113 (by omega)]; exact hg) (by rw [fr 5 (by omega)]; exact hE) e4 (fun k k0 k1 => ?_) (fun cn => ⟨fun g => by omega, fun _ => ?_⟩) (fun cn => ⟨fun _ => ⟨_, rfl, h 2 m2 fr e4 ?_⟩, fun g => absurd rfl g⟩)
    · obtain ⟨x, y1, y2⟩ := lab k k0 k1
      exact ⟨x.t, by omega, by omega⟩
    · rw [fr 113 (by omega)] at cn
      refine c_overlapsL e4 (by omega) n1 (fun o v hv => ⟨_, rfl, h v m2 fr e4 ⟨fun z => absurd all z, fun _ => ⟨lab, z0, fun z => absurd cn z, fun _ => ⟨fun _ => ?_, fun z => absurd o z⟩⟩⟩⟩) (fun o v hv => ⟨_, rfl, h v m2 fr e4 ⟨fun z => absurd all z, fun _ => ⟨lab, z0, fun z => absurd cn z, fun _ => ⟨fun z => absurd z o, fun _ => ?_⟩⟩⟩⟩)
      · rw [hv, if_neg (by omega)]
      · rw [hv, if_pos rfl]
    · rw [fr 113 (by omega)] at cn
      exact ⟨fun z => absurd all z, fun _ => ⟨lab, z0, fun _ => rfl, fun z => absurd z cn⟩⟩
end C10k
