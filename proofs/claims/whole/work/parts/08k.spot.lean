/-! a spot comes -/
def addS (s : SS) (x y : Int) : SS := (fun x' y' => s.1 x' y' ∨ (x' = x ∧ y' = y), s.2.1, s.2.2)
theorem WF.add {s : SS} (h : WF s) {x y : Int} (hx : -30 ≤ x ∧ x ≤ 30) (hy : -30 ≤ y ∧ y ≤ 30) : WF (addS s x y) := by
  refine ⟨fun x' y' q => ?_, h.2.1, h.2.2.1, fun x' y' q => ?_, fun x' y' q => ?_⟩
  · rcases q with q | ⟨rfl, rfl⟩
    · exact h.1 _ _ q
    · exact ⟨hx, hy⟩
  · exact ⟨Or.inl (h.2.2.2.1 _ _ q).1, Or.inl (h.2.2.2.1 _ _ q).2⟩
  · exact ⟨Or.inl (h.2.2.2.2 _ _ q).1, Or.inl (h.2.2.2.2 _ _ q).2⟩
theorem s4_out {s : SS} (h : WF s) {x y d : Int} (hn : ¬ s.1 x y) : s4 s x y d = 0 := by
  unfold s4
  by_cases c0 : d = 0
  · rw [if_pos c0]
    by_cases q : s.2.1 x y = 0
    · exact q
    · exact absurd (h.2.2.2.1 _ _ q).1 hn
  rw [if_neg c0]
  by_cases c1 : d = 1
  · rw [if_pos c1]
    by_cases q : s.2.2 x y = 0
    · exact q
    · exact absurd (h.2.2.2.2 _ _ q).1 hn
  rw [if_neg c1]
  by_cases c2 : d = 2
  · rw [if_pos c2]
    by_cases q : s.2.1 (x - 1) y = 0
    · exact q
    · have := (h.2.2.2.1 _ _ q).2
      rw [show x - 1 + 1 = x by omega] at this
      exact absurd this hn
  · rw [if_neg c2]
    by_cases q : s.2.2 x (y - 1) = 0
    · exact q
    · have := (h.2.2.2.2 _ _ q).2
      rw [show y - 1 + 1 = y by omega] at this
      exact absurd this hn
theorem s4_add (s : SS) (x y x' y' d : Int) : s4 (addS s x y) x' y' d = s4 s x' y' d := rfl
/-- a row with a place put in at i -/
theorem RepI.ins {n i x y : Int} {X Y X' Y' : Int → Int} {S : Int → Int → Prop} (h : RepI n X Y S) (n60 : n < 60) (hno : ¬ S x y) (hf : FNB n X Y x y i) (h1 : ∀ j, 0 ≤ j → j < i → X' j = X j ∧ Y' j = Y j) (h2 : X' i = x ∧ Y' i = y) (h3 : ∀ j, i < j → j ≤ n → X' j = X (j - 1) ∧ Y' j = Y (j - 1)) : RepI (n + 1) X' Y' (fun x' y' => S x' y' ∨ (x' = x ∧ y' = y)) := by
  obtain ⟨i0, i1, f1, f2⟩ := hf
  have hafter : ∀ j, i ≤ j → j < n → y < Y j ∨ (y = Y j ∧ x < X j) := by
    intro j j0 j1
    have ne : ¬ (X i = x ∧ Y i = y) := fun q => hno ((h.2.2.2 _ _).mpr ⟨i, i0, by omega, q.1, q.2⟩)
    have g := f2 (by omega)
    rcases Int.lt_or_eq_of_le j0 with q | q
    · have := h.2.2.1 i j i0 q j1; omega
    · subst q; omega
  refine ⟨by have := h.1; omega, by omega, fun p q p0 pq q1 => ?_, fun x' y' => ⟨?_, ?_⟩⟩
  · rcases Int.lt_trichotomy q i with t | t | t
    · rw [(h1 p p0 (by omega)).1, (h1 p p0 (by omega)).2, (h1 q (by omega) t).1, (h1 q (by omega) t).2]
      exact h.2.2.1 p q p0 pq (by omega)
    · rw [t, (h1 p p0 (by omega)).1, (h1 p p0 (by omega)).2, h2.1, h2.2]
      exact f1 p p0 (by omega)
    · rw [(h3 q t (by omega)).1, (h3 q t (by omega)).2]
      rcases Int.lt_trichotomy p i with t2 | t2 | t2
      · rw [(h1 p p0 t2).1, (h1 p p0 t2).2]
        exact h.2.2.1 p (q - 1) p0 (by omega) (by omega)
      · rw [t2, h2.1, h2.2]
        exact hafter (q - 1) (by omega) (by omega)
      · rw [(h3 p t2 (by omega)).1, (h3 p t2 (by omega)).2]
        exact h.2.2.1 (p - 1) (q - 1) (by omega) (by omega) (by omega)
  · rintro (q | ⟨q1, q2⟩)
    · obtain ⟨k, k0, k1, k2, k3⟩ := (h.2.2.2 _ _).mp q
      rcases Int.lt_or_le k i with t | t
      · exact ⟨k, k0, by omega, by rw [(h1 k k0 t).1]; exact k2, by rw [(h1 k k0 t).2]; exact k3⟩
      · have e := h3 (k + 1) (by omega) (by omega)
        rw [show k + 1 - 1 = k by omega] at e
        exact ⟨k + 1, by omega, by omega, by rw [e.1]; exact k2, by rw [e.2]; exact k3⟩
    · exact ⟨i, i0, by omega, by rw [h2.1, q1], by rw [h2.2, q2]⟩
  · rintro ⟨k, k0, k1, k2, k3⟩
    rcases Int.lt_trichotomy k i with t | t | t
    · refine Or.inl ((h.2.2.2 _ _).mpr ⟨k, k0, by omega, ?_, ?_⟩)
      · rw [← (h1 k k0 t).1]; exact k2
      · rw [← (h1 k k0 t).2]; exact k3
    · rw [t] at k2 k3
      exact Or.inr ⟨by rw [← k2, h2.1], by rw [← k3, h2.2]⟩
    · refine Or.inl ((h.2.2.2 _ _).mpr ⟨k - 1, by omega, by omega, ?_, ?_⟩)
      · rw [← (h3 k t (by omega)).1]; exact k2
      · rw [← (h3 k t (by omega)).2]; exact k3
theorem RepC.add {m m' : tM} {a : Nat} {x y i : Int} {s : SS} (h : RepC (m a 3) (m (a + 1)) (m (a + 2)) (m (a + 3)) s) (hw : WF s) (hno : ¬ s.1 x y) (n60 : m a 3 < 60) (ha : ADD m m' a x y i) : RepC (m' a 3) (m' (a + 1)) (m' (a + 2)) (m' (a + 3)) (addS s x y) := by
  obtain ⟨hf, a1, a2, a3, a4, a5⟩ := ha
  rw [a2]
  refine ⟨h.1.ins n60 hno hf (fun j j0 j1 => ⟨(a3 j j0 j1).1, (a3 j j0 j1).2.1⟩) ⟨a4.1, a4.2.1⟩ (fun j j0 j1 => ⟨(a5 j j0 j1).1, (a5 j j0 j1).2.1⟩), fun k d k0 k1 d0 d1 => ?_⟩
  rw [s4_add]
  obtain ⟨i0, i1, -, -⟩ := hf
  rcases Int.lt_trichotomy k i with t | t | t
  · obtain ⟨e1, e2, e3⟩ := a3 k k0 t
    rw [e1, e2, e3 d d0 d1]
    exact h.2 k d k0 (by omega) d0 d1
  · obtain ⟨e1, e2, e3⟩ := a4
    rw [t, e1, e2, e3 d d0 d1, s4_out hw hno]
  · obtain ⟨e1, e2, e3⟩ := a5 k t (by omega)
    rw [e1, e2, e3 d d0 d1]
    exact h.2 (k - 1) d (by omega) (by omega) d0 d1
/-- sorted anew: the same places with their creases -/
theorem RepM.sort {n : Int} {m m' : tM} {s : SS} (n0 : 0 ≤ n) (n60 : n ≤ 60) (hp : PM n m m') (hs : srt n (m' 149) (m' 150)) (hS : ∀ x y, s.1 x y ↔ ∃ k, 0 ≤ k ∧ k < n ∧ m 149 k = x ∧ m 150 k = y) (hc : ∀ k, 0 ≤ k → k < n → m 151 k = s.2.1 (m 149 k) (m 150 k) ∧ m 152 k = s.2.2 (m 149 k) (m 150 k)) : RepM n (m' 149) (m' 150) (m' 151) (m' 152) s := by
  obtain ⟨σ, τ, a, b⟩ := hp
  refine ⟨⟨n0, n60, hs, fun x y => (hS x y).trans ⟨?_, ?_⟩⟩, fun k k0 k1 => ?_⟩
  · rintro ⟨k, k0, k1, k2, k3⟩
    obtain ⟨p, q, r⟩ := (a k k0 k1).2
    exact ⟨τ k, p, q, by rw [b 149 (by omega) (by omega) _ p q, r]; exact k2, by rw [b 150 (by omega) (by omega) _ p q, r]; exact k3⟩
  · rintro ⟨k, k0, k1, k2, k3⟩
    obtain ⟨p, q, r⟩ := (a k k0 k1).1
    exact ⟨σ k, p, q, by rw [← b 149 (by omega) (by omega) _ k0 k1]; exact k2, by rw [← b 150 (by omega) (by omega) _ k0 k1]; exact k3⟩
  · obtain ⟨p, q, r⟩ := (a k k0 k1).1
    rw [b 149 (by omega) (by omega) _ k0 k1, b 150 (by omega) (by omega) _ k0 k1, b 151 (by omega) (by omega) _ k0 k1, b 152 (by omega) (by omega) _ k0 k1]
    exact hc _ p q
section C8k
variable {m : tM}
/-- the reference: a spot laid at the end, and sorted in -/
theorem c_addM {x y : Int} {s : SS} {K : tM → Prop} (hr : RepM (m 145 4) (m 149) (m 150) (m 151) (m 152) s) (hw : WF s) (hno : ¬ s.1 x y) (n60 : m 145 4 < 60) (h : ∀ m', (∀ c, c < 145 ∨ (145 < c ∧ c < 149) ∨ 152 < c → m' c = m c) → (∀ j, j ≠ 4 → m' 145 j = m 145 j) → RepM (m' 145 4) (m' 149) (m' 150) (m' 151) (m' 152) (addS s x y) → K m') : Clv mX12_place [rV 145, iV (m 145 4), iV x, iV y, iV 0, iV 0] m (fun m5 => R32 (m5 145 4 + 1) ∧ Clv mX12_sort [rV 145] (up m5 145 4 (m5 145 4 + 1)) K) := by
  have n0 := hr.1.1
  refine c_place (f := fun c => if c = 149 then x else if c = 150 then y else 0) n0 n60 (fun m5 p => ?_)
  have e145 := p.1 145 (by omega)
  rw [e145]
  refine ⟨by constructor <;> omega, ?_⟩
  generalize hm6 : up m5 145 4 (m 145 4 + 1) = m6
  have q4 : m6 145 4 = m 145 4 + 1 := by rw [← hm6, up_at]
  have qr : ∀ c, c ≠ 145 → m6 c = m5 c := fun c hc => by rw [← hm6, up_ne _ _ _ hc]
  have r149 : m6 149 = ur (m 149) (m 145 4) x := by rw [qr _ (by omega), p.2 149 (by omega) (by omega)]; rfl
  have r150 : m6 150 = ur (m 150) (m 145 4) y := by rw [qr _ (by omega), p.2 150 (by omega) (by omega)]; rfl
  have r151 : m6 151 = ur (m 151) (m 145 4) 0 := by rw [qr _ (by omega), p.2 151 (by omega) (by omega)]; rfl
  have r152 : m6 152 = ur (m 152) (m 145 4) 0 := by rw [qr _ (by omega), p.2 152 (by omega) (by omega)]; rfl
  have pts : ∀ k, 0 ≤ k → k < m 145 4 + 1 → (k = m 145 4 ∧ m6 149 k = x ∧ m6 150 k = y ∧ m6 151 k = 0 ∧ m6 152 k = 0) ∨ (k < m 145 4 ∧ m6 149 k = m 149 k ∧ m6 150 k = m 150 k ∧ m6 151 k = m 151 k ∧ m6 152 k = m 152 k) := by
    intro k k0 k1
    rw [r149, r150, r151, r152]
    by_cases q : k = m 145 4
    · subst q; exact Or.inl ⟨rfl, ur_eq _ _ _, ur_eq _ _ _, ur_eq _ _ _, ur_eq _ _ _⟩
    · exact Or.inr ⟨by omega, ur_ne _ _ q, ur_ne _ _ q, ur_ne _ _ q, ur_ne _ _ q⟩
  have hdst : dst (m6 145 4) (m6 149) (m6 150) := by
    rw [q4]
    intro i j i0 i1 j0 j1 hx hy
    rcases pts i i0 i1 with ⟨a1, a2, a3, -⟩ | ⟨a1, a2, a3, -⟩ <;> rcases pts j j0 j1 with ⟨b1, b2, b3, -⟩ | ⟨b1, b2, b3, -⟩
    · omega
    · exact absurd ((hr.1.2.2.2 x y).mpr ⟨j, j0, b1, by rw [← b2, ← hx, a2], by rw [← b3, ← hy, a3]⟩) hno
    · exact absurd ((hr.1.2.2.2 x y).mpr ⟨i, i0, a1, by rw [← a2, hx, b2], by rw [← a3, hy, b3]⟩) hno
    · exact srt_inj hr.1.2.2.1 i0 a1 j0 b1 (by rw [← a2, ← b2, hx]) (by rw [← a3, ← b3, hy])
  refine c_sort (by omega) (by omega) hdst (fun m7 so => h m7 (fun c hc => ?_) (fun j hj => ?_) ?_)
  · rw [so.1 c (by omega), qr c (by omega), p.1 c (by omega)]
  · rw [so.1 145 (by omega), ← hm6, up_at_ne _ _ _ hj, e145]
  · have e4 : m7 145 4 = m 145 4 + 1 := by rw [so.1 145 (by omega), q4]
    rw [e4]
    have s2 := so.2
    rw [q4] at s2
    refine RepM.sort (by omega) (by omega) s2.1 s2.2 (fun x' y' => ⟨?_, ?_⟩) (fun k k0 k1 => ?_)
    · rintro (q | ⟨q1, q2⟩)
      · obtain ⟨k, k0, k1, k2, k3⟩ := (hr.1.2.2.2 _ _).mp q
        rcases pts k k0 (by omega) with ⟨a1, -⟩ | ⟨a1, a2, a3, -⟩
        · omega
        · exact ⟨k, k0, by omega, by rw [a2]; exact k2, by rw [a3]; exact k3⟩
      · rcases pts (m 145 4) n0 (by omega) with ⟨a1, a2, a3, -⟩ | ⟨a1, -⟩
        · exact ⟨m 145 4, n0, by omega, by rw [a2, q1], by rw [a3, q2]⟩
        · omega
    · rintro ⟨k, k0, k1, k2, k3⟩
      rcases pts k k0 k1 with ⟨a1, a2, a3, -⟩ | ⟨a1, a2, a3, -⟩
      · exact Or.inr ⟨by rw [← k2, a2], by rw [← k3, a3]⟩
      · exact Or.inl ((hr.1.2.2.2 _ _).mpr ⟨k, k0, a1, by rw [← a2]; exact k2, by rw [← a3]; exact k3⟩)
    · rcases pts k k0 k1 with ⟨a1, a2, a3, a4, a5⟩ | ⟨a1, a2, a3, a4, a5⟩
      · rw [a2, a3, a4, a5]
        have z0 := s4_out hw (d := 0) hno
        have z1 := s4_out hw (d := 1) hno
        exact ⟨z0.symm, z1.symm⟩
      · rw [a2, a3, a4, a5]
        exact hr.2 k k0 a1
end C8k
