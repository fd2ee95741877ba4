/-! the form of a sheet: what is written of it -/
def FW (s : SS) (n : Int) (w : Int → Int) : Prop := ∃ (X Y : Int → Int) (lx ly : Int), RepI n X Y s.1 ∧ (∀ k, 0 ≤ k → k < n → lx ≤ X k ∧ ly ≤ Y k) ∧ (0 < n → (∃ k, 0 ≤ k ∧ k < n ∧ X k = lx) ∧ (∃ k, 0 ≤ k ∧ k < n ∧ Y k = ly)) ∧ ∀ k, 0 ≤ k → k < n → w (4 * k) = Y k - ly ∧ w (4 * k + 1) = X k - lx ∧ w (4 * k + 2) = s.2.1 (X k) (Y k) ∧ w (4 * k + 3) = s.2.2 (X k) (Y k)
theorem FW.uniq {s : SS} {n n' : Int} {w w' : Int → Int} (h : FW s n w) (h' : FW s n' w') : n = n' ∧ ∀ i, 0 ≤ i → i < 4 * n → w i = w' i := by
  obtain ⟨X, Y, lx, ly, r, a, b, c⟩ := h
  obtain ⟨X', Y', lx', ly', r', a', b', c'⟩ := h'
  obtain ⟨e, xy⟩ := r.same r'
  subst e
  refine ⟨rfl, fun i i0 i1 => ?_⟩
  obtain ⟨⟨u, u0, u1, u2⟩, v, v0, v1, v2⟩ := b (by omega)
  obtain ⟨⟨u', u0', u1', u2'⟩, v', v0', v1', v2'⟩ := b' (by omega)
  have elx : lx = lx' := by
    have := a u' u0' u1'
    have := a' u u0 u1
    have := xy u u0 u1
    have := xy u' u0' u1'
    omega
  have ely : ly = ly' := by
    have := a v' v0' v1'
    have := a' v v0 v1
    have := xy v v0 v1
    have := xy v' v0' v1'
    omega
  have k0 : 0 ≤ i / 4 := by omega
  have k1 : i / 4 < n := by omega
  obtain ⟨c1, c2, c3, c4⟩ := c (i / 4) k0 k1
  obtain ⟨d1, d2, d3, d4⟩ := c' (i / 4) k0 k1
  obtain ⟨e1, e2⟩ := xy (i / 4) k0 k1
  rw [← e2, ← ely] at d1
  rw [← e1, ← elx] at d2
  rw [← e1, ← e2] at d3 d4
  rcases (show i % 4 = 0 ∨ i % 4 = 1 ∨ i % 4 = 2 ∨ i % 4 = 3 by omega) with q | q | q | q
  · rw [show 4 * (i / 4) = i by omega] at c1 d1; rw [c1, d1]
  · rw [show 4 * (i / 4) + 1 = i by omega] at c2 d2; rw [c2, d2]
  · rw [show 4 * (i / 4) + 2 = i by omega] at c3 d3; rw [c3, d3]
  · rw [show 4 * (i / 4) + 3 = i by omega] at c4 d4; rw [c4, d4]
/-- rows in order: -1, 0, 1 -/
def cmR (n : Int) (a b : Int → Int) (r : Int) : Prop := (r = 0 ∧ ∀ i, 0 ≤ i → i < n → a i = b i) ∨ ∃ k, 0 ≤ k ∧ k < n ∧ (∀ i, 0 ≤ i → i < k → a i = b i) ∧ ((a k < b k ∧ r = -1) ∨ (b k < a k ∧ r = 1))
theorem cmR.uniq {n : Int} {a b a' b' : Int → Int} {r r' : Int} (h : cmR n a b r) (h' : cmR n a' b' r') (ea : ∀ i, 0 ≤ i → i < n → a i = a' i) (eb : ∀ i, 0 ≤ i → i < n → b i = b' i) : r = r' := by
  rcases h with ⟨e, f⟩ | ⟨k, k0, k1, f, g⟩ <;> rcases h' with ⟨e', f'⟩ | ⟨k', k0', k1', f', g'⟩
  · omega
  · have := f k' k0' k1'; have := ea k' k0' k1'; have := eb k' k0' k1'; omega
  · have := f' k k0 k1; have := ea k k0 k1; have := eb k k0 k1; omega
  · have a1 := ea k k0 k1
    have a2 := eb k k0 k1
    have b1 := ea k' k0' k1'
    have b2 := eb k' k0' k1'
    rcases Int.lt_trichotomy k k' with q | q | q
    · have := f' k k0 q; omega
    · subst q; omega
    · have := f k' k0' q; omega
/-- the least of the first i that are written, and how many times -/
def STF (s : SS) (n : Int) : Nat → (Int → Int) → Int → Prop
  | 0, _, t => t = 0
  | i + 1, L, t => ∃ L0 t0 W, STF s n i L0 t0 ∧ FW (gS ((i : Int) % 4) ((i : Int) / 4) s) n W ∧ ((t0 = 0 ∧ t = 1 ∧ (∀ j, 0 ≤ j → j < 4 * n → L j = W j)) ∨ (t0 ≠ 0 ∧ ∃ r, cmR (4 * n) W L0 r ∧ ((r = -1 ∧ t = 1 ∧ (∀ j, 0 ≤ j → j < 4 * n → L j = W j)) ∨ (r = 0 ∧ t = t0 + 1 ∧ (∀ j, 0 ≤ j → j < 4 * n → L j = L0 j)) ∨ (r = 1 ∧ t = t0 ∧ (∀ j, 0 ≤ j → j < 4 * n → L j = L0 j)))))
theorem STF.uniq {s : SS} {n : Int} : ∀ (i : Nat) {L L' : Int → Int} {t t' : Int}, STF s n i L t → STF s n i L' t' → t = t' ∧ (0 < i → ∀ j, 0 ≤ j → j < 4 * n → L j = L' j) ∧ 0 ≤ t ∧ t ≤ i ∧ (0 < i → 1 ≤ t)
  | 0, L, L', t, t', h, h' => by
    have a : t = 0 := h
    have b : t' = 0 := h'
    exact ⟨by omega, fun q => absurd q (by omega), by omega, by omega, fun q => absurd q (by omega)⟩
  | i + 1, L, L', t, t', h, h' => by
    obtain ⟨L0, t0, W, a, b, c⟩ := h
    obtain ⟨L0', t0', W', a', b', c'⟩ := h'
    obtain ⟨et, el, t1, t2, t3⟩ := STF.uniq i a a'
    have ew := (b.uniq b').2
    subst et
    by_cases z : t0 = 0
    · have i0 : i = 0 := by
        by_cases q : i = 0
        · exact q
        · have := t3 (by omega); omega
      rcases c with ⟨-, c1, c2⟩ | ⟨c1, -⟩
      · rcases c' with ⟨-, d1, d2⟩ | ⟨d1, -⟩
        · exact ⟨by omega, fun _ j j0 j1 => by rw [c2 j j0 j1, d2 j j0 j1, ew j j0 j1], by omega, by omega, fun _ => by omega⟩
        · exact absurd z d1
      · exact absurd z c1
    · have ip : 0 < i := by
        by_cases q : i = 0
        · subst q; omega
        · omega
      have el' := el ip
      rcases c with ⟨c1, -⟩ | ⟨-, r, cr, cc⟩
      · exact absurd c1 z
      · rcases c' with ⟨d1, -⟩ | ⟨-, r', cr', cc'⟩
        · exact absurd d1 z
        · have er := cr.uniq cr' ew el'
          subst er
          rcases cc with ⟨q, x1, x2⟩ | ⟨q, x1, x2⟩ | ⟨q, x1, x2⟩ <;> rcases cc' with ⟨q', y1, y2⟩ | ⟨q', y1, y2⟩ | ⟨q', y1, y2⟩ <;> first
            | omega
            | exact ⟨by omega, fun _ j j0 j1 => by rw [x2 j j0 j1, y2 j j0 j1, ew j j0 j1], by omega, by omega, fun _ => by omega⟩
            | exact ⟨by omega, fun _ j j0 j1 => by rw [x2 j j0 j1, y2 j j0 j1, el' j j0 j1], by omega, by omega, fun _ => by omega⟩
/-! the eight of the reference are those of the class -/
theorem SS.ext3 {s t : SS} (h1 : ∀ x y, s.1 x y ↔ t.1 x y) (h2 : ∀ x y, s.2.1 x y = t.2.1 x y) (h3 : ∀ x y, s.2.2 x y = t.2.2 x y) : s = t := by
  obtain ⟨a, b, c⟩ := s
  obtain ⟨a', b', c'⟩ := t
  have e1 : a = a' := funext (fun x => funext (fun y => propext (h1 x y)))
  have e2 : b = b' := funext (fun x => funext (fun y => h2 x y))
  have e3 : c = c' := funext (fun x => funext (fun y => h3 x y))
  rw [e1, e2, e3]
theorem g_00 (s : SS) : gS 0 0 s = s := by
  have e : ∀ x y, hX 0 0 x y = x ∧ hY 0 x y = y := fun x y => by
    show x * 1 + y * 0 = x ∧ y * 1 - x * 0 = y
    omega
  refine SS.ext3 (fun x y => ?_) (fun x y => ?_) (fun x y => ?_)
  · show s.1 (hX 0 0 x y) (hY 0 x y) ↔ _
    rw [(e x y).1, (e x y).2]
  · show s4 s (hX 0 0 x y) (hY 0 x y) 0 = _
    rw [(e x y).1, (e x y).2]; rfl
  · show s4 s (hX 0 0 x y) (hY 0 x y) 1 = _
    rw [(e x y).1, (e x y).2]; rfl
theorem t0_g (s : SS) {q o : Int} (q0 : 0 ≤ q) (q1 : q < 4) (ho : o = 0 ∨ o = 1) : tS 0 (gS q o s) = gS ((q + 1) % 4) o s := by
  have e : ∀ x y, hX q o y (-x) = hX ((q + 1) % 4) o x y ∧ hY q y (-x) = hY ((q + 1) % 4) x y := fun x y => by
    rcases d4 q0 q1 with rfl | rfl | rfl | rfl <;> rcases ho with rfl | rfl <;> simp [hX, hY, dX, dY] <;> omega
  have eb : bd q o 3 = bd ((q + 1) % 4) o 0 ∧ bd q o 0 = bd ((q + 1) % 4) o 1 := by
    rcases d4 q0 q1 with rfl | rfl | rfl | rfl <;> rcases ho with rfl | rfl <;> decide
  refine SS.ext3 (fun x y => ?_) (fun x y => ?_) (fun x y => ?_)
  · show s.1 (hX q o y (-x)) (hY q y (-x)) ↔ s.1 (hX ((q + 1) % 4) o x y) (hY ((q + 1) % 4) x y)
    rw [(e x y).1, (e x y).2]
  · show s4 (gS q o s) y (-x) 3 = s4 s (hX ((q + 1) % 4) o x y) (hY ((q + 1) % 4) x y) (bd ((q + 1) % 4) o 0)
    rw [s4_g s q0 q1 ho (by omega) (by omega), (e x y).1, (e x y).2, eb.1]
  · show s4 (gS q o s) y (-x) 0 = s4 s (hX ((q + 1) % 4) o x y) (hY ((q + 1) % 4) x y) (bd ((q + 1) % 4) o 1)
    rw [s4_g s q0 q1 ho (by omega) (by omega), (e x y).1, (e x y).2, eb.2]
theorem t1_t1 (s : SS) : tS 1 (gS 0 1 s) = s := by
  have e : ∀ x y, hX 0 1 (-x) y = x ∧ hY 0 (-x) y = y := fun x y => by
    show -(-x * 1 + y * 0) = x ∧ y * 1 - -x * 0 = y
    omega
  refine SS.ext3 (fun x y => ?_) (fun x y => ?_) (fun x y => ?_)
  · show s.1 (hX 0 1 (-x) y) (hY 0 (-x) y) ↔ _
    rw [(e x y).1, (e x y).2]
  · show s4 (gS 0 1 s) (-x) y 2 = _
    rw [s4_g s (by omega) (by omega) (Or.inr rfl) (by omega) (by omega), (e x y).1, (e x y).2]; rfl
  · show s4 (gS 0 1 s) (-x) y 1 = _
    rw [s4_g s (by omega) (by omega) (Or.inr rfl) (by omega) (by omega), (e x y).1, (e x y).2]; rfl
theorem WF.g {s : SS} (w : WF s) {q o : Int} (q0 : 0 ≤ q) (q1 : q < 4) (ho : o = 0 ∨ o = 1) : WF (gS q o s) := by
  have h0 : WF (gS 0 o s) := by
    rcases ho with rfl | rfl
    · rw [g_00]; exact w
    · rw [g_t1]; exact w.turn (Or.inr rfl)
  have h1 : WF (gS 1 o s) := by rw [← show tS 0 (gS 0 o s) = gS 1 o s from t0_g s (by omega) (by omega) ho]; exact h0.turn (Or.inl rfl)
  have h2 : WF (gS 2 o s) := by rw [← show tS 0 (gS 1 o s) = gS 2 o s from t0_g s (by omega) (by omega) ho]; exact h1.turn (Or.inl rfl)
  have h3 : WF (gS 3 o s) := by rw [← show tS 0 (gS 2 o s) = gS 3 o s from t0_g s (by omega) (by omega) ho]; exact h2.turn (Or.inl rfl)
  rcases d4 q0 q1 with rfl | rfl | rfl | rfl
  · exact h0
  · exact h1
  · exact h2
  · exact h3
