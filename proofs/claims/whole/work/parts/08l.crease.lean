/-! a crease is set -/
def u2 (f : Int → Int → Int) (x y v : Int) : Int → Int → Int := fun a b => if a = x ∧ b = y then v else f a b
def setS (s : SS) (x y d v : Int) : SS := if d = 0 then (s.1, u2 s.2.1 x y v, s.2.2) else if d = 1 then (s.1, s.2.1, u2 s.2.2 x y v) else if d = 2 then (s.1, u2 s.2.1 (x - 1) y v, s.2.2) else (s.1, s.2.1, u2 s.2.2 x (y - 1) v)
theorem d4 {d : Int} (h0 : 0 ≤ d) (h1 : d < 4) : d = 0 ∨ d = 1 ∨ d = 2 ∨ d = 3 := by omega
theorem setS_1 (s : SS) (x y d v : Int) : (setS s x y d v).1 = s.1 := by
  unfold setS
  (repeat' split) <;> rfl
theorem if_iff {c c' : Prop} [Decidable c] [Decidable c'] {a b : Int} (h : c ↔ c') : (if c then a else b) = if c' then a else b := by
  by_cases q : c
  · rw [if_pos q, if_pos (h.mp q)]
  · rw [if_neg q, if_neg (fun q2 => q (h.mpr q2))]
theorem s4_set (s : SS) {x y d v x' y' d' : Int} (h0 : 0 ≤ d) (h1 : d < 4) (g0 : 0 ≤ d') (g1 : d' < 4) : s4 (setS s x y d v) x' y' d' = if (x' = x ∧ y' = y ∧ d' = d) ∨ (x' = x + dX d ∧ y' = y + dY d ∧ d' = (d + 2) % 4) then v else s4 s x' y' d' := by
  rcases d4 h0 h1 with rfl | rfl | rfl | rfl <;> rcases d4 g0 g1 with rfl | rfl | rfl | rfl
  · show (if x' = x ∧ y' = y then v else s.2.1 x' y') = (if _ then v else s.2.1 x' y'); exact if_iff (by rw [show dX 0 = 1 from rfl, show dY 0 = 0 from rfl]; omega)
  · show s.2.2 x' y' = (if _ then v else s.2.2 x' y'); rw [if_neg (by simp only [dX, dY]; omega)]
  · show (if x' - 1 = x ∧ y' = y then v else s.2.1 (x' - 1) y') = (if _ then v else s.2.1 (x' - 1) y'); exact if_iff (by simp only [dX, dY, if_true]; omega)
  · show s.2.2 x' (y' - 1) = (if _ then v else s.2.2 x' (y' - 1)); rw [if_neg (by simp only [dX, dY]; omega)]
  · show s.2.1 x' y' = (if _ then v else s.2.1 x' y'); rw [if_neg (by simp only [dX, dY]; omega)]
  · show (if x' = x ∧ y' = y then v else s.2.2 x' y') = (if _ then v else s.2.2 x' y'); exact if_iff (by rw [show dX 1 = 0 from rfl, show dY 1 = 1 from rfl]; omega)
  · show s.2.1 (x' - 1) y' = (if _ then v else s.2.1 (x' - 1) y'); rw [if_neg (by simp only [dX, dY]; omega)]
  · show (if x' = x ∧ y' - 1 = y then v else s.2.2 x' (y' - 1)) = (if _ then v else s.2.2 x' (y' - 1)); exact if_iff (by rw [show dX 1 = 0 from rfl, show dY 1 = 1 from rfl]; omega)
  · show (if x' = x - 1 ∧ y' = y then v else s.2.1 x' y') = (if _ then v else s.2.1 x' y'); exact if_iff (by rw [show dX 2 = -1 from rfl, show dY 2 = 0 from rfl]; omega)
  · show s.2.2 x' y' = (if _ then v else s.2.2 x' y'); rw [if_neg (by omega)]
  · show (if x' - 1 = x - 1 ∧ y' = y then v else s.2.1 (x' - 1) y') = (if _ then v else s.2.1 (x' - 1) y'); exact if_iff (by rw [show dX 2 = -1 from rfl, show dY 2 = 0 from rfl]; omega)
  · show s.2.2 x' (y' - 1) = (if _ then v else s.2.2 x' (y' - 1)); rw [if_neg (by omega)]
  · show s.2.1 x' y' = (if _ then v else s.2.1 x' y'); rw [if_neg (by omega)]
  · show (if x' = x ∧ y' = y - 1 then v else s.2.2 x' y') = (if _ then v else s.2.2 x' y'); exact if_iff (by rw [show dX 3 = 0 from rfl, show dY 3 = -1 from rfl]; omega)
  · show s.2.1 (x' - 1) y' = (if _ then v else s.2.1 (x' - 1) y'); rw [if_neg (by omega)]
  · show (if x' = x ∧ y' - 1 = y - 1 then v else s.2.2 x' (y' - 1)) = (if _ then v else s.2.2 x' (y' - 1)); exact if_iff (by rw [show dX 3 = 0 from rfl, show dY 3 = -1 from rfl]; omega)
theorem u2_self {f : Int → Int → Int} {x y v : Int} (h : f x y = v) : u2 f x y v = f := by
  funext a b
  unfold u2
  by_cases q : a = x ∧ b = y
  · rw [if_pos q, q.1, q.2, h]
  · rw [if_neg q]
theorem setS_self {s : SS} {x y d v : Int} (h : s4 s x y d = v) : setS s x y d v = s := by
  unfold setS
  unfold s4 at h
  by_cases c0 : d = 0
  · rw [if_pos c0] at h ⊢; rw [u2_self h]
  rw [if_neg c0] at h ⊢
  by_cases c1 : d = 1
  · rw [if_pos c1] at h ⊢; rw [u2_self h]
  rw [if_neg c1] at h ⊢
  by_cases c2 : d = 2
  · rw [if_pos c2] at h ⊢; rw [u2_self h]
  rw [if_neg c2] at h ⊢
  rw [u2_self h]
theorem u2_r {f : Int → Int → Int} (h : ∀ x y, 0 ≤ f x y ∧ f x y ≤ 3) {x y v : Int} (v0 : 0 ≤ v) (v1 : v ≤ 3) : ∀ a b, 0 ≤ u2 f x y v a b ∧ u2 f x y v a b ≤ 3 := by
  intro a b
  unfold u2
  split
  · exact ⟨v0, v1⟩
  · exact h a b
theorem u2_nz {f : Int → Int → Int} {Q : Int → Int → Prop} (h : ∀ a b, f a b ≠ 0 → Q a b) {x y v : Int} (hv : v ≠ 0 → Q x y) : ∀ a b, u2 f x y v a b ≠ 0 → Q a b := by
  intro a b hq
  unfold u2 at hq
  by_cases q : a = x ∧ b = y
  · rw [if_pos q] at hq; rw [q.1, q.2]; exact hv hq
  · rw [if_neg q] at hq; exact h a b hq
theorem WF.set {s : SS} (h : WF s) {x y d v : Int} (d0 : 0 ≤ d) (d1 : d < 4) (v0 : 0 ≤ v) (v1 : v ≤ 3) (hp : v ≠ 0 → s.1 x y ∧ s.1 (x + dX d) (y + dY d)) : WF (setS s x y d v) := by
  obtain ⟨a, b, c, e, f⟩ := h
  rcases d4 d0 d1 with rfl | rfl | rfl | rfl
  · exact ⟨a, u2_r b v0 v1, c, u2_nz e (fun q => ⟨(hp q).1, by have := (hp q).2; rw [show dX 0 = 1 from rfl, show dY 0 = 0 from rfl, Int.add_zero] at this; exact this⟩), f⟩
  · exact ⟨a, b, u2_r c v0 v1, e, u2_nz f (fun q => ⟨(hp q).1, by have := (hp q).2; rw [show dX 1 = 0 from rfl, show dY 1 = 1 from rfl, Int.add_zero] at this; exact this⟩)⟩
  · exact ⟨a, u2_r b v0 v1, c, u2_nz e (fun q => ⟨by have := (hp q).2; rw [show dX 2 = -1 from rfl, show dY 2 = 0 from rfl, Int.add_zero] at this; exact this, by rw [show x - 1 + 1 = x by omega]; exact (hp q).1⟩), f⟩
  · exact ⟨a, b, u2_r c v0 v1, e, u2_nz f (fun q => ⟨by have := (hp q).2; rw [show dX 3 = 0 from rfl, show dY 3 = -1 from rfl, Int.add_zero] at this; exact this, by rw [show y - 1 + 1 = y by omega]; exact (hp q).1⟩)⟩
/-- the class: join -/
theorem RepC.join {n : Int} {X Y C : Int → Int} {s : SS} (h : RepC n X Y C s) {k j d v : Int} (k0 : 0 ≤ k) (k1 : k < n) (j0 : 0 ≤ j) (j1 : j < n) (d0 : 0 ≤ d) (d1 : d < 4) (hx : X j = X k + dX d) (hy : Y j = Y k + dY d) : RepC n X Y (ur (ur C (4 * k + d) v) (4 * j + (d + 2) % 4) v) (setS s (X k) (Y k) d v) := by
  refine ⟨by rw [setS_1]; exact h.1, fun k' d' k0' k1' d0' d1' => ?_⟩
  rw [s4_set s d0 d1 d0' d1']
  by_cases q1 : k' = j ∧ d' = (d + 2) % 4
  · rw [q1.1, q1.2, ur_eq, if_pos (Or.inr ⟨hx, hy, rfl⟩)]
  · rw [ur_ne _ _ (by omega)]
    by_cases q2 : k' = k ∧ d' = d
    · rw [q2.1, q2.2, ur_eq, if_pos (Or.inl ⟨rfl, rfl, rfl⟩)]
    · rw [ur_ne _ _ (by omega), if_neg]
      · exact h.2 k' d' k0' k1' d0' d1'
      · rintro (⟨e1, e2, e3⟩ | ⟨e1, e2, e3⟩)
        · exact q2 ⟨srt_inj h.1.2.2.1 k0' k1' k0 k1 e1 e2, e3⟩
        · exact q1 ⟨srt_inj h.1.2.2.1 k0' k1' j0 j1 (e1.trans hx.symm) (e2.trans hy.symm), e3⟩
/-- the reference: setCrease -/
theorem c_setCrease {m : tM} {k d v : Int} {s : SS} {K : tM → Prop} (hr : RepM (m 145 4) (m 149) (m 150) (m 151) (m 152) s) (hw : WF s) (k0 : 0 ≤ k) (k1 : k < m 145 4) (d0 : 0 ≤ d) (d1 : d < 4) (hv : nbr (m 145 4) (m 149) (m 150) k d = -1 → v = 0) (h : ∀ m', (∀ c, c ≠ 151 → c ≠ 152 → m' c = m c) → RepM (m' 145 4) (m' 149) (m' 150) (m' 151) (m' 152) (setS s (m 149 k) (m 150 k) d v) → K m') : Clv mX12_setCrease [rV 145, iV k, iV d, iV v] m K := by
  have h0 := hr.1.1
  have h1 := hr.1.2.1
  have inj : ∀ i j, 0 ≤ i → i < m 145 4 → 0 ≤ j → j < m 145 4 → m 149 i = m 149 j → m 150 i = m 150 j → i = j := fun i j i0 i1 j0 j1 => srt_inj hr.1.2.2.1 i0 i1 j0 j1
  -- right or up of spot o becomes v
  have rt : ∀ o : Int, 0 ≤ o → o < m 145 4 → ∀ s', s'.1 = s.1 → s'.2.1 = u2 s.2.1 (m 149 o) (m 150 o) v → s'.2.2 = s.2.2 → RepM ((up m 151 o v) 145 4) ((up m 151 o v) 149) ((up m 151 o v) 150) ((up m 151 o v) 151) ((up m 151 o v) 152) s' := by
    intro o o0 o1 s' e1 e2 e3
    rw [up_ne _ _ _ (by omega : (145 : Nat) ≠ 151), up_ne _ _ _ (by omega : (149 : Nat) ≠ 151), up_ne _ _ _ (by omega : (150 : Nat) ≠ 151), up_ne _ _ _ (by omega : (152 : Nat) ≠ 151)]
    refine ⟨by rw [e1]; exact hr.1, fun j j0 j1 => ?_⟩
    rw [e2, e3]
    refine ⟨?_, (hr.2 j j0 j1).2⟩
    unfold u2
    by_cases q : j = o
    · subst q; rw [up_at, if_pos ⟨rfl, rfl⟩]
    · rw [up_at_ne _ _ _ q, if_neg (fun e => q (inj j o j0 j1 o0 o1 e.1 e.2))]; exact (hr.2 j j0 j1).1
  have ut : ∀ o : Int, 0 ≤ o → o < m 145 4 → ∀ s', s'.1 = s.1 → s'.2.1 = s.2.1 → s'.2.2 = u2 s.2.2 (m 149 o) (m 150 o) v → RepM ((up m 152 o v) 145 4) ((up m 152 o v) 149) ((up m 152 o v) 150) ((up m 152 o v) 151) ((up m 152 o v) 152) s' := by
    intro o o0 o1 s' e1 e2 e3
    rw [up_ne _ _ _ (by omega : (145 : Nat) ≠ 152), up_ne _ _ _ (by omega : (149 : Nat) ≠ 152), up_ne _ _ _ (by omega : (150 : Nat) ≠ 152), up_ne _ _ _ (by omega : (151 : Nat) ≠ 152)]
    refine ⟨by rw [e1]; exact hr.1, fun j j0 j1 => ?_⟩
    rw [e2, e3]
    refine ⟨(hr.2 j j0 j1).1, ?_⟩
    unfold u2
    by_cases q : j = o
    · subst q; rw [up_at, if_pos ⟨rfl, rfl⟩]
    · rw [up_at_ne _ _ _ q, if_neg (fun e => q (inj j o j0 j1 o0 o1 e.1 e.2))]; exact (hr.2 j j0 j1).2
  refine wX12_setCrease_0 ⟨fun c => ⟨fun c2 => by omega, fun c2 => ⟨d0, fun c3 => ⟨⟨k0, by omega⟩, rfl, ?_⟩, fun c3 => ⟨fun c4 => ⟨⟨k0, by omega⟩, rfl, ?_⟩, fun c4 => by omega⟩⟩⟩, fun c => c_neighbour h0 h1 hr.1.2.2.1 (hr.1.rch hw) k0 k1 ⟨fun c2 => ⟨rfl, ?_⟩, fun c2 => ⟨d0, fun c3 => ⟨?_, rfl, ?_⟩, fun c3 => ⟨fun c4 => ⟨?_, rfl, ?_⟩, fun c4 => by omega⟩⟩⟩⟩
  · have e : d = 0 := by omega
    subst e
    exact h _ (fun c c1 c2 => up_ne _ _ _ c1) (rt k k0 k1 _ rfl rfl rfl)
  · have e : d = 1 := by omega
    subst e
    exact h _ (fun c c1 c2 => up_ne _ _ _ c2) (ut k k0 k1 _ rfl rfl rfl)
  · have e := hv c2
    subst e
    have z : s4 s (m 149 k) (m 150 k) d = 0 := by
      rw [← crO_rep hr hw k0 k1 d0 d1]
      unfold crO
      rw [if_neg (by omega), if_neg (by omega), if_pos c2]
    rw [setS_self z] at h
    exact h m (fun _ _ _ => rfl) hr
  · rcases fnd_cases (m 145 4) (m 149) (m 150) (m 149 k + dX d) (m 150 k + dY d) with q | q
    · exact absurd q.1 c2
    · exact ⟨q.1, Int.lt_of_lt_of_le q.2.1 h1⟩
  · rcases fnd_cases (m 145 4) (m 149) (m 150) (m 149 k + dX d) (m 150 k + dY d) with q | q
    · exact absurd q.1 c2
    · have e : d = 2 := by omega
      subst e
      refine h _ (fun c c1 c2 => up_ne _ _ _ c1) (rt _ q.1 q.2.1 _ rfl ?_ rfl)
      show u2 s.2.1 (m 149 k - 1) (m 150 k) v = u2 s.2.1 (m 149 (fnd _ _ _ _ _)) (m 150 (fnd _ _ _ _ _)) v
      rw [q.2.2.1, q.2.2.2, show dX 2 = -1 from rfl, show dY 2 = 0 from rfl, Int.add_zero]
      rfl
  · rcases fnd_cases (m 145 4) (m 149) (m 150) (m 149 k + dX d) (m 150 k + dY d) with q | q
    · exact absurd q.1 c2
    · exact ⟨q.1, Int.lt_of_lt_of_le q.2.1 h1⟩
  · rcases fnd_cases (m 145 4) (m 149) (m 150) (m 149 k + dX d) (m 150 k + dY d) with q | q
    · exact absurd q.1 c2
    · have e : d = 3 := by omega
      subst e
      refine h _ (fun c c1 c2 => up_ne _ _ _ c2) (ut _ q.1 q.2.1 _ rfl rfl ?_)
      show u2 s.2.2 (m 149 k) (m 150 k - 1) v = u2 s.2.2 (m 149 (fnd _ _ _ _ _)) (m 150 (fnd _ _ _ _ _)) v
      rw [q.2.2.1, q.2.2.2, show dX 3 = 0 from rfl, show dY 3 = -1 from rfl, Int.add_zero]
      rfl
