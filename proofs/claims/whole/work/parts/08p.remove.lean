/-! a spot goes -/
def z4 (s : SS) (x y : Int) : SS := setS (setS (setS (setS s x y 0 0) x y 1 0) x y 2 0) x y 3 0
def delS (s : SS) (x y : Int) : SS := (fun x' y' => s.1 x' y' ∧ ¬ (x' = x ∧ y' = y), s.2.1, s.2.2)
theorem dXY {d : Int} (h0 : 0 ≤ d) (h1 : d < 4) : ¬ (dX d = 0 ∧ dY d = 0) := by
  rcases d4 h0 h1 with rfl | rfl | rfl | rfl <;> decide
theorem s4_z {s : SS} {x y d d' : Int} (h0 : 0 ≤ d') (h1 : d' < 4) (g0 : 0 ≤ d) (g1 : d < 4) : s4 (setS s x y d' 0) x y d = if d = d' then 0 else s4 s x y d := by
  rw [s4_set s h0 h1 g0 g1]
  have := dXY h0 h1
  exact if_iff (by omega)
theorem s4_z4 (s : SS) (x y : Int) {d : Int} (g0 : 0 ≤ d) (g1 : d < 4) : s4 (z4 s x y) x y d = 0 := by
  unfold z4
  rw [s4_z (by omega) (by omega) g0 g1, s4_z (by omega) (by omega) g0 g1, s4_z (by omega) (by omega) g0 g1, s4_z (by omega) (by omega) g0 g1]
  rcases d4 g0 g1 with rfl | rfl | rfl | rfl <;> simp
theorem WF.z {s : SS} (h : WF s) {x y d : Int} (d0 : 0 ≤ d) (d1 : d < 4) : WF (setS s x y d 0) := h.set d0 d1 (by omega) (by omega) (fun q => absurd rfl q)
theorem WF.z4 {s : SS} (h : WF s) (x y : Int) : WF (z4 s x y) := (((h.z (by omega) (by omega)).z (by omega) (by omega)).z (by omega) (by omega)).z (by omega) (by omega)
theorem z4_1 (s : SS) (x y : Int) : (z4 s x y).1 = s.1 := by unfold z4; rw [setS_1, setS_1, setS_1, setS_1]
theorem WF.del {s : SS} (h : WF s) {x y : Int} (hz : ∀ d, 0 ≤ d → d < 4 → s4 s x y d = 0) : WF (delS s x y) := by
  obtain ⟨a, b, c, e, f⟩ := h
  refine ⟨fun x' y' q => a _ _ q.1, b, c, fun x' y' q => ⟨⟨(e _ _ q).1, fun g => ?_⟩, ⟨(e _ _ q).2, fun g => ?_⟩⟩, fun x' y' q => ⟨⟨(f _ _ q).1, fun g => ?_⟩, ⟨(f _ _ q).2, fun g => ?_⟩⟩⟩
  · have := hz 0 (by omega) (by omega)
    rw [← g.1, ← g.2] at this
    exact q this
  · have z : s.2.1 (x - 1) y = 0 := hz 2 (by omega) (by omega)
    rw [← g.1, ← g.2, show x' + 1 - 1 = x' by omega] at z
    exact q z
  · have z : s.2.2 x y = 0 := hz 1 (by omega) (by omega)
    rw [← g.1, ← g.2] at z
    exact q z
  · have z : s.2.2 x (y - 1) = 0 := hz 3 (by omega) (by omega)
    rw [← g.1, ← g.2, show y' + 1 - 1 = y' by omega] at z
    exact q z
/-- to a place without spot there is no crease -/
theorem s4_abs {s : SS} (h : WF s) {x y d : Int} (d0 : 0 ≤ d) (d1 : d < 4) (hn : ¬ s.1 (x + dX d) (y + dY d)) : s4 s x y d = 0 := by
  obtain ⟨a, b, c, e, f⟩ := h
  rcases d4 d0 d1 with rfl | rfl | rfl | rfl
  · show s.2.1 x y = 0
    by_cases q : s.2.1 x y = 0
    · exact q
    · refine absurd (e _ _ q).2 ?_
      rw [show dX 0 = 1 from rfl, show dY 0 = 0 from rfl, Int.add_zero] at hn; exact hn
  · show s.2.2 x y = 0
    by_cases q : s.2.2 x y = 0
    · exact q
    · refine absurd (f _ _ q).2 ?_
      rw [show dX 1 = 0 from rfl, show dY 1 = 1 from rfl, Int.add_zero] at hn; exact hn
  · show s.2.1 (x - 1) y = 0
    by_cases q : s.2.1 (x - 1) y = 0
    · exact q
    · refine absurd (e _ _ q).1 ?_
      rw [show dX 2 = -1 from rfl, show dY 2 = 0 from rfl, Int.add_zero] at hn; exact hn
  · show s.2.2 x (y - 1) = 0
    by_cases q : s.2.2 x (y - 1) = 0
    · exact q
    · refine absurd (f _ _ q).1 ?_
      rw [show dX 3 = 0 from rfl, show dY 3 = -1 from rfl, Int.add_zero] at hn; exact hn
/-- a row without its element i -/
theorem RepI.del {n i : Int} {X Y X' Y' : Int → Int} {S : Int → Int → Prop} (h : RepI n X Y S) (i0 : 0 ≤ i) (i1 : i < n) (h1 : ∀ j, 0 ≤ j → j < i → X' j = X j ∧ Y' j = Y j) (h2 : ∀ j, i ≤ j → j < n - 1 → X' j = X (j + 1) ∧ Y' j = Y (j + 1)) : RepI (n - 1) X' Y' (fun x' y' => S x' y' ∧ ¬ (x' = X i ∧ y' = Y i)) := by
  have e1 := h.2.1
  refine ⟨by omega, by omega, fun p q p0 pq q1 => ?_, fun x' y' => ⟨?_, ?_⟩⟩
  · rcases Int.lt_or_le q i with t | t
    · rw [(h1 p p0 (by omega)).1, (h1 p p0 (by omega)).2, (h1 q (by omega) t).1, (h1 q (by omega) t).2]
      exact h.2.2.1 p q p0 pq (by omega)
    · rw [(h2 q t q1).1, (h2 q t q1).2]
      rcases Int.lt_or_le p i with t2 | t2
      · rw [(h1 p p0 t2).1, (h1 p p0 t2).2]
        exact h.2.2.1 p (q + 1) p0 (by omega) (by omega)
      · rw [(h2 p t2 (by omega)).1, (h2 p t2 (by omega)).2]
        exact h.2.2.1 (p + 1) (q + 1) (by omega) (by omega) (by omega)
  · rintro ⟨q, qn⟩
    obtain ⟨k, k0, k1, k2, k3⟩ := (h.2.2.2 _ _).mp q
    rcases Int.lt_trichotomy k i with t | t | t
    · exact ⟨k, k0, by omega, by rw [(h1 k k0 t).1]; exact k2, by rw [(h1 k k0 t).2]; exact k3⟩
    · rw [t] at k2 k3; exact absurd ⟨k2.symm, k3.symm⟩ qn
    · have e := h2 (k - 1) (by omega) (by omega)
      rw [show k - 1 + 1 = k by omega] at e
      exact ⟨k - 1, by omega, by omega, by rw [e.1]; exact k2, by rw [e.2]; exact k3⟩
  · rintro ⟨k, k0, k1, k2, k3⟩
    rcases Int.lt_or_le k i with t | t
    · have e := h1 k k0 t
      rw [e.1] at k2
      rw [e.2] at k3
      refine ⟨(h.2.2.2 _ _).mpr ⟨k, k0, by omega, k2, k3⟩, fun g => ?_⟩
      have := srt_inj h.2.2.1 k0 (by omega) i0 i1 (k2.trans g.1) (k3.trans g.2)
      omega
    · have e := h2 k t k1
      rw [e.1] at k2
      rw [e.2] at k3
      refine ⟨(h.2.2.2 _ _).mpr ⟨k + 1, by omega, by omega, k2, k3⟩, fun g => ?_⟩
      have := srt_inj h.2.2.1 (by omega : 0 ≤ k + 1) (by omega) i0 i1 (k2.trans g.1) (k3.trans g.2)
      omega
section C8p
variable {m : tM}
theorem c_remove {a : Nat} {k : Int} {s : SS} {K : tM → Prop} (sa : shS a) (hr : RepC (m a 3) (m (a + 1)) (m (a + 2)) (m (a + 3)) s) (hw : WF s) (k0 : 0 ≤ k) (k1 : k < m a 3) (h : ∀ m', (∀ c, c < a ∨ a + 3 < c → m' c = m c) → RepC (m' a 3) (m' (a + 1)) (m' (a + 2)) (m' (a + 3)) (delS (z4 s (m (a + 1) k) (m (a + 2) k)) (m (a + 1) k) (m (a + 2) k)) → K m') : Clv mX8_remove [rV a, iV k] m K := by
  have n0 := hr.1.1
  have n1 := hr.1.2.1
  generalize hx : m (a + 1) k = x at h
  generalize hy : m (a + 2) k = y at h
  -- one direction
  have step : ∀ (t : Int) (r : Int → Int) (s' : SS), 0 ≤ t → t < 4 → WF s' → s'.1 = s.1 → RepC (m a 3) (m (a + 1)) (m (a + 2)) r s' → (∀ r', RepC (m a 3) (m (a + 1)) (m (a + 2)) r' (setS s' x y t 0) → Tj mX8_remove 2 [some (rV a), some (iV k), some (iV (t + 1))] [] (sr m (a + 3) r') (fun q m' => q = none ∧ K m')) → Tj mX8_remove 2 [some (rV a), some (iV k), some (iV t)] [] (sr m (a + 3) r) (fun q m' => q = none ∧ K m') := by
    intro t r s' t0 t1 w' e1 rep nxt
    have f0 : (sr m (a + 3) r) a = m a := sr_ne _ _ (by omega)
    have f1 : (sr m (a + 3) r) (a + 1) = m (a + 1) := sr_ne _ _ (by omega)
    have f2 : (sr m (a + 3) r) (a + 2) = m (a + 2) := sr_ne _ _ (by omega)
    refine wX8_remove_2 sa.1 ⟨fun _ => c_beside sa (by rw [f0]; exact n0) (by rw [f0]; exact n1) (by rw [f0, f1, f2]; exact hr.1.2.2.1) (by rw [f0, f1, f2]; exact hr.1.rch hw) k0 (by rw [f0]; exact k1) t0 t1 ?_, fun c => absurd t1 c⟩
    rw [f0, f1, f2]
    have nbe : nbr (m a 3) (m (a + 1)) (m (a + 2)) k t = fnd (m a 3) (m (a + 1)) (m (a + 2)) (x + dX t) (y + dY t) := by unfold nbr; rw [hx, hy]
    rw [nbe]
    rcases fnd_cases (m a 3) (m (a + 1)) (m (a + 2)) (x + dX t) (y + dY t) with g | g
    · refine ⟨fun _ => ⟨by constructor <;> omega, nxt r ?_⟩, fun c => by omega⟩
      rw [setS_self (s4_abs w' t0 t1 (by rw [e1]; exact fun e => (hr.1.fnd_iff _ _).mp e g.1))]
      exact rep
    · refine ⟨fun c => by omega, fun _ => c_join sa k0 (by omega) g.1 (by omega) t0 t1 ⟨by constructor <;> omega, ?_⟩⟩
      rw [sr_eq, sr_sr]
      refine nxt _ ?_
      have := rep.join (v := 0) k0 k1 g.1 g.2.1 t0 t1 (by rw [g.2.2.1, hx]) (by rw [g.2.2.2, hy])
      rw [hx, hy] at this
      exact this
  refine wX8_remove_0 ?_
  have start := step 0 (m (a + 3)) s (by omega) (by omega) hw rfl hr (fun r1 p1 => step 1 r1 _ (by omega) (by omega) (hw.z (by omega) (by omega)) (setS_1 _ _ _ _ _) p1 (fun r2 p2 => step 2 r2 _ (by omega) (by omega) ((hw.z (by omega) (by omega)).z (by omega) (by omega)) (by rw [setS_1, setS_1]) p2 (fun r3 p3 => step 3 r3 _ (by omega) (by omega) (((hw.z (by omega) (by omega)).z (by omega) (by omega)).z (by omega) (by omega)) (by rw [setS_1, setS_1, setS_1]) p3 (fun r4 p4 => ?_))))
  · rw [sr_self] at start
    exact start
  have f0 : (sr m (a + 3) r4) a = m a := sr_ne _ _ (by omega)
  have f1 : (sr m (a + 3) r4) (a + 1) = m (a + 1) := sr_ne _ _ (by omega)
  have f2 : (sr m (a + 3) r4) (a + 2) = m (a + 2) := sr_ne _ _ (by omega)
  have f3 : (sr m (a + 3) r4) (a + 3) = r4 := sr_eq _ _ _
  refine wX8_remove_2 sa.1 ⟨fun c => by omega, fun _ => ?_⟩
  rw [f0]
  refine ⟨⟨by constructor <;> omega, by constructor <;> omega, by constructor <;> omega⟩, c_shift sa (by omega) k0 (by omega) (by omega) (by omega) (fun m5 g0 g1 g2 g3 => ?_)⟩
  rw [f1] at g1
  rw [f2] at g2
  rw [f3] at g3
  have e5 : m5 a = m a := by rw [g0 a (by omega), f0]
  rw [e5]
  refine ⟨by constructor <;> omega, rfl, h _ (fun c hc => ?_) ?_⟩
  · rw [up_ne _ _ _ (by omega), g0 c (by omega), sr_ne _ _ (by omega)]
  · rw [up_at, up_ne _ _ _ (by omega : a + 1 ≠ a), up_ne _ _ _ (by omega : a + 2 ≠ a), up_ne _ _ _ (by omega : a + 3 ≠ a), g1, g2, g3]
    have lo : ∀ j, 0 ≤ j → j < k → fil (fun z => m (a + 1) (k + 1 + z)) (m (a + 1)) k (m a 3 - k - 1) j = m (a + 1) j ∧ fil (fun z => m (a + 2) (k + 1 + z)) (m (a + 2)) k (m a 3 - k - 1) j = m (a + 2) j := fun j j0 j1 => ⟨fil_out _ _ (by omega), fil_out _ _ (by omega)⟩
    have hi : ∀ j, k ≤ j → j < m a 3 - 1 → fil (fun z => m (a + 1) (k + 1 + z)) (m (a + 1)) k (m a 3 - k - 1) j = m (a + 1) (j + 1) ∧ fil (fun z => m (a + 2) (k + 1 + z)) (m (a + 2)) k (m a 3 - k - 1) j = m (a + 2) (j + 1) := fun j j0 j1 => by
      rw [fil_in _ _ (by omega), fil_in _ _ (by omega), show k + 1 + (j - k) = j + 1 by omega]; exact ⟨rfl, rfl⟩
    refine ⟨?_, fun j d j0 j1 d0 d1 => ?_⟩
    · have := hr.1.del k0 k1 lo hi
      rw [hx, hy] at this
      show RepI _ _ _ (fun x' y' => (z4 s x y).1 x' y' ∧ ¬ (x' = x ∧ y' = y))
      rw [z4_1]
      exact this
    · show _ = s4 (z4 s x y) _ _ d
      rcases Int.lt_or_le j k with t | t
      · rw [(lo j j0 t).1, (lo j j0 t).2, fil_out _ _ (by omega)]
        exact p4.2 j d j0 (by omega) d0 d1
      · rw [(hi j t j1).1, (hi j t j1).2, fil_in _ _ (by omega), show 4 * (k + 1) + (4 * j + d - 4 * k) = 4 * (j + 1) + d by omega]
        exact p4.2 (j + 1) d (by omega) (by omega) d0 d1
end C8p
