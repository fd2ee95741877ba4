/-! the class folds -/
theorem trc_all {n : Int} {c4 nb : Int → Int → Int} {N O St : Int → Int} {R : Int} (hg : GR n c4 nb) (h : TRC n c4 nb N O St R) (np : 0 < n) : R = n ↔ ∀ k, 0 ≤ k → k < n → REG n c4 nb k := by
  obtain ⟨a, b, c, e, f, -, k⟩ := h.2.2 np
  constructor
  · intro q x x0 x1
    obtain ⟨i, i0, i1, i2⟩ := row_all (O := O) (by omega) (fun i i0 i1 => c i i0 (by omega)) (fun i j i0 i1 j0 j1 => e i j i0 (by omega) j0 (by omega)) x0 x1
    have all : ∀ (t : Nat) (j : Int), j = t → j < R → REG n c4 nb (O j) := by
      intro t
      induction t using Nat.strongRecOn with
      | ind t ih =>
        intro j jt j1 Q hQ hs
        by_cases z : j = 0
        · rw [z, b]; exact hQ
        · obtain ⟨-, l, d, l0, l1, -, -, g⟩ := f j (by omega) j1
          exact hs _ d _ g (ih l.toNat (by omega) l (by omega) (by omega) Q hQ hs)
    rw [← i2]
    exact all i.toNat i (by omega) (by omega)
  · intro all
    have ix : ∀ x, ∃ i, (0 ≤ x ∧ x < n) → (0 ≤ i ∧ i < R ∧ O i = x) := fun x => by
      by_cases q : 0 ≤ x ∧ x < n
      · have := all x q.1 q.2 (fun x => ∃ i, 0 ≤ i ∧ i < R ∧ O i = x) ⟨0, by omega, by omega, b⟩ (fun y d o g ⟨i, i0, i1, i2⟩ => by
          obtain ⟨-, -, d0, d1, hc, ho⟩ := g
          subst i2
          obtain ⟨l, l0, l1, l2⟩ := k i d i0 i1 (by omega) d0 d1 hc
          exact ⟨l, l0, l1, by rw [l2, ho]⟩)
        obtain ⟨i, hi⟩ := this
        exact ⟨i, fun _ => hi⟩
      · exact ⟨0, fun g => absurd g q⟩
    have hch : ∃ I : Int → Int, ∀ x, (0 ≤ x ∧ x < n) → (0 ≤ I x ∧ I x < R ∧ O (I x) = x) := ⟨fun x => Classical.choose (ix x), fun x => Classical.choose_spec (ix x)⟩
    obtain ⟨I, hI⟩ := hch
    rcases row_le (R := n) (n := R) (O := I) (by omega) (fun x x0 x1 => ⟨(hI x ⟨x0, x1⟩).1, (hI x ⟨x0, x1⟩).2.1⟩) (fun x y x0 x1 y0 y1 e => by
      have p := (hI x ⟨x0, x1⟩).2.2
      have q := (hI y ⟨y0, y1⟩).2.2
      rw [e] at p
      omega) with q | q
    · omega
    · omega
def ps6 (r : Int → Int) : P6 := (r 0, r 1, r 2, r 3, r 4, r 5)
def pose (P : Int → Int) (k : Int) : P6 := (P (6 * k), P (6 * k + 1), P (6 * k + 2), P (6 * k + 3), P (6 * k + 4), P (6 * k + 5))
def bF (b : Int) (p : P6) : Prop := (-b ≤ p.1 ∧ p.1 ≤ b) ∧ (-b ≤ p.2.1 ∧ p.2.1 ≤ b) ∧ (-b ≤ p.2.2.1 ∧ p.2.2.1 ≤ b)
theorem crF_b {d q b : Int} {p : P6} (h : bF b p) : bF (b + 2) (crF d q p) := by
  obtain ⟨h1, h2, h3⟩ := h
  have a0 := alO_b (hdF d p) 0
  have a1 := alO_b (hdF d p) 1
  have a2 := alO_b (hdF d p) 2
  have b0 := alO_b (onF q p.2.2.2.1 (hdF d p)) 0
  have b1 := alO_b (onF q p.2.2.2.1 (hdF d p)) 1
  have b2 := alO_b (onF q p.2.2.2.1 (hdF d p)) 2
  refine ⟨?_, ?_, ?_⟩
  · show -(b + 2) ≤ p.1 + _ ∧ p.1 + _ ≤ b + 2; omega
  · show -(b + 2) ≤ p.2.1 + _ ∧ p.2.1 + _ ≤ b + 2; omega
  · show -(b + 2) ≤ p.2.2.1 + _ ∧ p.2.2.1 + _ ≤ b + 2; omega
section C10c
variable {m : tM}
theorem c_poseOf {k w : Int} {K : Int → tM → Prop} (k0 : 0 ≤ k) (k1 : k < 60) (w0 : 0 ≤ w) (w1 : w < 6) (h : K (m 125 (6 * k + w)) m) : Cli mX3_poseOf [rV 124, iV k, iV w] m K :=
  wX3_poseOf_0 ⟨⟨by constructor <;> omega, by constructor <;> omega, by omega, by omega⟩, _, rfl, h⟩
theorem c_stepA {d a : Int} {K : Int → tM → Prop} (hd : d6 d) (h : K (alO d a) m) : Cli mX1_step [iV d, iV a] m K := by
  have e1 := bShr_1 (x := d) (by constructor <;> omega)
  have e2 := bAnd_1 (x := d) (by constructor <;> omega)
  unfold alO at h
  refine wX1_step_0 ?_
  rw [e1, e2]
  refine ⟨fun g v hv => ⟨v, rfl, ?_⟩, fun g => ⟨_, rfl, ?_⟩⟩
  · rw [if_pos g] at h; rw [hv]; exact h
  · rw [if_neg g] at h; exact h
theorem c_heading {k d : Int} {K : Int → tM → Prop} (k0 : 0 ≤ k) (k1 : k < 60) (d0 : 0 ≤ d) (d1 : d < 4) (hv : vF (pose (m 125) k)) (h : K (hdF d (pose (m 125) k)) m) : Cli mX3_heading [rV 124, iV k, iV d] m K := by
  have e2 := bAnd_1 (x := d) (by constructor <;> omega)
  refine wX3_heading_0 (fun v hv' => ?_)
  rw [e2] at hv'
  unfold hdF at h
  by_cases q : d % 2 = 0
  · rw [if_pos q] at hv'
    rw [if_pos q] at h
    subst hv'
    refine c_poseOf k0 k1 (by omega) (by omega) ⟨fun g => ⟨_, rfl, ?_⟩, fun g => c_against hv.2.1.1 hv.2.1.2 ⟨_, rfl, ?_⟩⟩
    · rw [if_pos g] at h; exact h
    · rw [if_neg g] at h; exact h
  · rw [if_neg q] at hv'
    rw [if_neg q] at h
    subst hv'
    refine c_poseOf k0 k1 (by omega) (by omega) ⟨fun g => ⟨_, rfl, ?_⟩, fun g => c_against hv.2.2.1 hv.2.2.2 ⟨_, rfl, ?_⟩⟩
    · rw [if_pos g] at h; exact h
    · rw [if_neg g] at h; exact h
theorem cross_end {d t on fn : Int} {p : P6} {K : tM → Prop} (d0 : 0 ≤ d) (d1 : d < 4) (ht : d6 t) (ho : d6 on) (hb : bF 200 p) (hp : ps6 (m 126) = p) (h : ∀ m', (∀ c, c ≠ 126 → m' c = m c) → ps6 (m' 126) = (p.1 + (alO t 0 + alO on 0), p.2.1 + (alO t 1 + alO on 1), p.2.2.1 + (alO t 2 + alO on 2), fn, (if d % 2 = 0 then (if d < 2 then on else x1 on) else p.2.2.2.2.1), (if d % 2 = 0 then p.2.2.2.2.2 else (if d < 2 then on else x1 on))) → K m') : Tj mX3_cross 80 [some (rV 124), none, some (iV d), none, none, some (iV t), some (iV on), some (iV fn), some (iV 0)] [] m (fun r m' => r = none ∧ K m') := by
  have a0 := alO_b t 0
  have a1 := alO_b t 1
  have a2 := alO_b t 2
  have b0 := alO_b on 0
  have b1 := alO_b on 1
  have b2 := alO_b on 2
  have p0 : m 126 0 = p.1 := congrArg (fun z : P6 => z.1) hp
  have p1 : m 126 1 = p.2.1 := congrArg (fun z : P6 => z.2.1) hp
  have p2 : m 126 2 = p.2.2.1 := congrArg (fun z : P6 => z.2.2.1) hp
  have p4 : m 126 4 = p.2.2.2.2.1 := congrArg (fun z : P6 => z.2.2.2.2.1) hp
  have p5 : m 126 5 = p.2.2.2.2.2 := congrArg (fun z : P6 => z.2.2.2.2.2) hp
  obtain ⟨h1, h2, h3⟩ := hb
  refine wX3_cross_80 ⟨fun _ => ⟨⟨by omega, by omega⟩, c_stepA ht (c_stepA ho ⟨⟨by constructor <;> omega, by rw [p0]; constructor <;> omega, by constructor <;> omega⟩, ?_⟩)⟩, fun g => absurd (by omega) g⟩
  rw [p0, show (0 : Int) + 1 = 1 by omega]
  refine wX3_cross_80 ⟨fun _ => ⟨⟨by omega, by omega⟩, c_stepA ht (c_stepA ho ⟨⟨by constructor <;> omega, by rw [up_at_ne _ _ _ (by omega)]; show R32 (m 126 1 + _); rw [p1]; constructor <;> omega, by constructor <;> omega⟩, ?_⟩)⟩, fun g => absurd (by omega) g⟩
  rw [show (1 : Int) + 1 = 2 by omega, up_at_ne _ _ _ (show (1 : Int) ≠ 0 by omega), p1]
  refine wX3_cross_80 ⟨fun _ => ⟨⟨by omega, by omega⟩, c_stepA ht (c_stepA ho ⟨⟨by constructor <;> omega, by rw [up_at_ne _ _ _ (by omega), up_at_ne _ _ _ (by omega)]; show R32 (m 126 2 + _); rw [p2]; constructor <;> omega, by constructor <;> omega⟩, ?_⟩)⟩, fun g => absurd (by omega) g⟩
  rw [up_at_ne _ _ _ (show (2 : Int) ≠ 1 by omega), up_at_ne _ _ _ (show (2 : Int) ≠ 0 by omega), p2, show (2 : Int) + 1 = 3 by omega]
  generalize hm1 : up (up (up m 126 0 (p.1 + (alO t 0 + alO on 0))) 126 1 (p.2.1 + (alO t 1 + alO on 1))) 126 2 (p.2.2.1 + (alO t 2 + alO on 2)) = m1
  have f1 : ∀ c, c ≠ 126 → m1 c = m c := fun c hc => by rw [← hm1, up_ne _ _ _ hc, up_ne _ _ _ hc, up_ne _ _ _ hc]
  have r0 : m1 126 0 = p.1 + (alO t 0 + alO on 0) := by rw [← hm1, up_at_ne _ _ _ (by omega), up_at_ne _ _ _ (by omega), up_at]
  have r1 : m1 126 1 = p.2.1 + (alO t 1 + alO on 1) := by rw [← hm1, up_at_ne _ _ _ (by omega), up_at]
  have r2 : m1 126 2 = p.2.2.1 + (alO t 2 + alO on 2) := by rw [← hm1, up_at]
  have r4 : m1 126 4 = p.2.2.2.2.1 := by rw [← hm1, up_at_ne _ _ _ (by omega), up_at_ne _ _ _ (by omega), up_at_ne _ _ _ (by omega), p4]
  have r5 : m1 126 5 = p.2.2.2.2.2 := by rw [← hm1, up_at_ne _ _ _ (by omega), up_at_ne _ _ _ (by omega), up_at_ne _ _ _ (by omega), p5]
  have e2 := bAnd_1 (x := d) (by constructor <;> omega)
  refine wX3_cross_80 ⟨fun g => absurd g (by omega), fun _ v hv => ?_⟩
  rw [e2] at hv
  have fin : ∀ w, w = (if d < 2 then on else x1 on) → K (up (up m1 126 3 fn) 126 v w) := fun w hw => by
    refine h _ (fun c hc => by rw [up_ne _ _ _ hc, up_ne _ _ _ hc, f1 c hc]) ?_
    unfold ps6
    by_cases q : d % 2 = 0
    · rw [if_pos q] at hv
      subst hv
      rw [up_at_ne _ _ _ (by omega), up_at_ne _ _ _ (by omega), up_at_ne _ _ _ (by omega), up_at_ne _ _ _ (by omega), up_at_ne _ _ _ (by omega), up_at_ne _ _ _ (by omega), up_at_ne _ _ _ (by omega), up_at, up_at, up_at_ne _ _ _ (by omega), up_at_ne _ _ _ (by omega), r0, r1, r2, r5, if_pos q, if_pos q, hw]
    · rw [if_neg q] at hv
      subst hv
      rw [up_at_ne _ _ _ (by omega), up_at_ne _ _ _ (by omega), up_at_ne _ _ _ (by omega), up_at_ne _ _ _ (by omega), up_at_ne _ _ _ (by omega), up_at_ne _ _ _ (by omega), up_at_ne _ _ _ (by omega), up_at, up_at_ne _ _ _ (by omega), up_at_ne _ _ _ (by omega), up_at, r0, r1, r2, r4, if_neg q, if_neg q, hw]
  have v6 : 0 ≤ v ∧ v < 6 := by rw [hv]; split <;> omega
  refine ⟨fun g => ⟨v6, rfl, fin on (if_pos g).symm⟩, fun g => c_against ho.1 ho.2 ⟨v6, rfl, fin _ (if_neg g).symm⟩⟩
theorem c_cross {k d q : Int} {K : tM → Prop} (k0 : 0 ≤ k) (k1 : k < 60) (d0 : 0 ≤ d) (d1 : d < 4) (hv : vF (pose (m 125) k)) (hb : bF 200 (pose (m 125) k)) (h : ∀ m', (∀ c, c ≠ 126 → m' c = m c) → ps6 (m' 126) = crF d q (pose (m 125) k) → K m') : Clv mX3_cross [rV 124, iV k, iV d, iV q] m K := by
  have t6 := hdF_6 (d := d) hv
  have cp : ∀ {on fn : Int}, d6 on → (onF q (pose (m 125) k).2.2.2.1 (hdF d (pose (m 125) k)) = on) → (fnF q (pose (m 125) k).2.2.2.1 (hdF d (pose (m 125) k)) = fn) → Tj mX3_cross 80 [some (rV 124), none, some (iV d), none, none, some (iV (hdF d (pose (m 125) k))), some (iV on), some (iV fn), some (iV 0)] [] (sr m 126 (cpr (m 125) (m 126) (6 * k) 0 6)) (fun r m' => r = none ∧ K m') := fun {on fn} o6 e1 e2 => by
    refine cross_end (p := pose (m 125) k) d0 d1 t6 o6 hb ?_ (fun m' fr e => h m' (fun c hc => by rw [fr c hc, sr_ne _ _ hc]) ?_)
    · rw [sr_eq]
      unfold ps6 pose cpr
      rw [if_pos (by omega), if_pos (by omega), if_pos (by omega), if_pos (by omega), if_pos (by omega), if_pos (by omega)]
      rw [show 6 * k + (0 - 0) = 6 * k by omega, show 6 * k + (1 - 0) = 6 * k + 1 by omega, show 6 * k + (2 - 0) = 6 * k + 2 by omega, show 6 * k + (3 - 0) = 6 * k + 3 by omega, show 6 * k + (4 - 0) = 6 * k + 4 by omega, show 6 * k + (5 - 0) = 6 * k + 5 by omega]
    · rw [e]
      unfold crF
      rw [e1, e2]
  refine wX3_cross_0 (c_poseOf k0 k1 (by omega) (by omega) (c_heading k0 k1 d0 d1 hv ⟨fun g => c_against hv.1.1 hv.1.2 ⟨⟨by constructor <;> omega, by omega, by omega⟩, fun m4 e => ?_⟩, fun g => ⟨fun g2 => c_against t6.1 t6.2 ⟨⟨by constructor <;> omega, by omega, by omega⟩, fun m4 e => ?_⟩, fun g2 => ⟨⟨by constructor <;> omega, by omega, by omega⟩, fun m4 e => ?_⟩⟩⟩))
  · rw [e]
    exact cp (x1_6 hv.1) (by unfold onF; rw [if_pos g]; rfl) (by unfold fnF; rw [if_pos g])
  · rw [e]
    exact cp hv.1 (by unfold onF; rw [if_neg g, if_pos g2]; rfl) (by unfold fnF; rw [if_neg g, if_pos g2])
  · rw [e]
    exact cp t6 (by unfold onF; rw [if_neg g, if_neg g2]) (by unfold fnF; rw [if_neg g, if_neg g2]; rfl)
theorem c_liesBeside {k : Int} {K : Int → tM → Prop} (k0 : 0 ≤ k) (k1 : k < 60) (h1 : pose (m 125) k = ps6 (m 126) → K 1 m) (h0 : pose (m 125) k ≠ ps6 (m 126) → K 0 m) : Cli mX3_liesBeside [rV 124, iV k] m K := by
  refine wX3_liesBeside_0 ?_
  have key := up_ind (n := 6) (fun w => (∀ j, 0 ≤ j → j < w → m 125 (6 * k + j) = m 126 j) → Tj mX3_liesBeside 2 [some (rV 124), some (iV k), some (iV w)] [] m (fun r m' => ∃ n, r = some (iV n) ∧ K n m')) ?_ ?_ (i := 0) (by omega) (by omega)
  · exact key (fun j j0 j1 => by omega)
  · intro e
    refine wX3_liesBeside_2 ⟨fun g => by omega, fun _ => ⟨_, rfl, h1 ?_⟩⟩
    unfold pose ps6
    have e0 := e 0 (by omega) (by omega)
    rw [Int.add_zero] at e0
    rw [e0, e 1 (by omega) (by omega), e 2 (by omega) (by omega), e 3 (by omega) (by omega), e 4 (by omega) (by omega), e 5 (by omega) (by omega)]
  · intro w w0 w1 ih e
    refine wX3_liesBeside_2 ⟨fun _ => c_poseOf k0 k1 w0 w1 ⟨⟨w0, w1⟩, fun g => ⟨by constructor <;> omega, ih (fun j j0 j1 => ?_)⟩, fun g => ⟨_, rfl, h0 (fun z => g ?_)⟩⟩, fun g => absurd w1 g⟩
    · by_cases q : j = w
      · rw [q]; exact g
      · exact e j j0 (by omega)
    · have z0 : m 125 (6 * k) = m 126 0 := congrArg (fun z : P6 => z.1) z
      have z1 : m 125 (6 * k + 1) = m 126 1 := congrArg (fun z : P6 => z.2.1) z
      have z2 : m 125 (6 * k + 2) = m 126 2 := congrArg (fun z : P6 => z.2.2.1) z
      have z3 : m 125 (6 * k + 3) = m 126 3 := congrArg (fun z : P6 => z.2.2.2.1) z
      have z4 : m 125 (6 * k + 4) = m 126 4 := congrArg (fun z : P6 => z.2.2.2.2.1) z
      have z5 : m 125 (6 * k + 5) = m 126 5 := congrArg (fun z : P6 => z.2.2.2.2.2) z
      rcases (show w = 0 ∨ w = 1 ∨ w = 2 ∨ w = 3 ∨ w = 4 ∨ w = 5 by omega) with rfl | rfl | rfl | rfl | rfl | rfl
      · rw [Int.add_zero]; exact z0
      · exact z1
      · exact z2
      · exact z3
      · exact z4
      · exact z5
def OVL (n : Int) (lab : Int → P6) : Prop := ∃ a b, 0 ≤ b ∧ b < a ∧ a < n ∧ (lab a).1 = (lab b).1 ∧ (lab a).2.1 = (lab b).2.1 ∧ (lab a).2.2.1 = (lab b).2.2.1
theorem c_overlapsF {n : Int} {K : Int → tM → Prop} (hn : m 124 3 = n) (n0 : 0 ≤ n) (n1 : n ≤ 60) (h1 : OVL n (pose (m 125)) → K 1 m) (h0 : ¬ OVL n (pose (m 125)) → K 0 m) : Cli mX3_overlaps [rV 124] m K := by
  refine wX3_overlaps_0 ?_
  have key := up_ind (n := n) (fun a => (∀ a' b, 0 ≤ b → b < a' → a' < a → ¬ ((pose (m 125) a').1 = (pose (m 125) b).1 ∧ (pose (m 125) a').2.1 = (pose (m 125) b).2.1 ∧ (pose (m 125) a').2.2.1 = (pose (m 125) b).2.2.1)) → Tj mX3_overlaps 2 [some (rV 124), some (iV a)] [] m (fun r m' => ∃ n, r = some (iV n) ∧ K n m')) ?_ ?_ (i := 0) (by omega) n0
  · exact key (fun a' b b0 b1 a1 => by omega)
  · intro no
    refine wX3_overlaps_2 ⟨fun g => absurd g (by rw [hn]; omega), fun _ => ⟨_, rfl, h0 ?_⟩⟩
    rintro ⟨a, b, b0, ba, an, e⟩
    exact no a b b0 ba an e
  · intro a a0 a1 ih no
    refine wX3_overlaps_2 ⟨fun _ => ?_, fun g => absurd (by rw [hn]; exact a1) g⟩
    have key2 := up_ind (n := a) (fun b => (∀ b', 0 ≤ b' → b' < b → ¬ ((pose (m 125) a).1 = (pose (m 125) b').1 ∧ (pose (m 125) a).2.1 = (pose (m 125) b').2.1 ∧ (pose (m 125) a).2.2.1 = (pose (m 125) b').2.2.1)) → Tj mX3_overlaps 12 [some (rV 124), some (iV a), some (iV b)] [] m (fun r m' => ∃ n, r = some (iV n) ∧ K n m')) ?_ ?_ (i := 0) (by omega) a0
    · exact key2 (fun b' b0 b1 => by omega)
    · intro nb
      refine wX3_overlaps_12 ⟨fun g => by omega, fun _ => ⟨by constructor <;> omega, ih (fun a' b b0 b1 a1' => ?_)⟩⟩
      by_cases q : a' = a
      · rw [q]; exact nb b b0 (by omega)
      · exact no a' b b0 b1 (by omega)
    · intro b b0 b1 ih2 nb
      have nxt : ¬ ((pose (m 125) a).1 = (pose (m 125) b).1 ∧ (pose (m 125) a).2.1 = (pose (m 125) b).2.1 ∧ (pose (m 125) a).2.2.1 = (pose (m 125) b).2.2.1) → Tj mX3_overlaps 12 [some (rV 124), some (iV a), some (iV (b + 1))] [] m (fun r m' => ∃ n, r = some (iV n) ∧ K n m') := fun z => ih2 (fun b' b0' b1' => by
        by_cases q : b' = b
        · rw [q]; exact z
        · exact nb b' b0' (by omega))
      have z0 : ∀ k, (pose (m 125) k).1 = m 125 (6 * k + 0) := fun k => by rw [Int.add_zero]; rfl
      refine wX3_overlaps_12 ⟨fun _ => c_poseOf a0 (by omega) (by omega) (by omega) (c_poseOf b0 (by omega) (by omega) (by omega) ⟨fun g1 => c_poseOf a0 (by omega) (by omega) (by omega) (c_poseOf b0 (by omega) (by omega) (by omega) ⟨fun g2 => c_poseOf a0 (by omega) (by omega) (by omega) (c_poseOf b0 (by omega) (by omega) (by omega) ⟨fun g3 => ⟨_, rfl, h1 ⟨a, b, b0, b1, a1, ?_, g2, g3⟩⟩, fun g3 => ⟨by constructor <;> omega, nxt (fun z => g3 z.2.2)⟩⟩), fun g2 => ⟨by constructor <;> omega, nxt (fun z => g2 z.2.1)⟩⟩), fun g1 => ⟨by constructor <;> omega, nxt (fun z => g1 ?_)⟩⟩), fun g => absurd b1 g⟩
      · rw [z0, z0]; exact g1
      · rw [← z0, ← z0]; exact z.1
end C10c
