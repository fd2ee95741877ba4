/-! sheets: spots as a set of places, creases as numbers at places -/
abbrev SS : Type := (Int → Int → Prop) × (Int → Int → Int) × (Int → Int → Int)
def WF (s : SS) : Prop := (∀ x y, s.1 x y → (-30 ≤ x ∧ x ≤ 30) ∧ (-30 ≤ y ∧ y ≤ 30)) ∧ (∀ x y, 0 ≤ s.2.1 x y ∧ s.2.1 x y ≤ 3) ∧ (∀ x y, 0 ≤ s.2.2 x y ∧ s.2.2 x y ≤ 3) ∧ (∀ x y, s.2.1 x y ≠ 0 → s.1 x y ∧ s.1 (x + 1) y) ∧ (∀ x y, s.2.2 x y ≠ 0 → s.1 x y ∧ s.1 x (y + 1))
def RepI (n : Int) (X Y : Int → Int) (S : Int → Int → Prop) : Prop := 0 ≤ n ∧ n ≤ 60 ∧ srt n X Y ∧ ∀ x y, S x y ↔ ∃ k, 0 ≤ k ∧ k < n ∧ X k = x ∧ Y k = y
def RepM (n : Int) (X Y R U : Int → Int) (s : SS) : Prop := RepI n X Y s.1 ∧ ∀ k, 0 ≤ k → k < n → R k = s.2.1 (X k) (Y k) ∧ U k = s.2.2 (X k) (Y k)
/-- the crease at (x, y) to direction d -/
def s4 (s : SS) (x y d : Int) : Int := if d = 0 then s.2.1 x y else if d = 1 then s.2.2 x y else if d = 2 then s.2.1 (x - 1) y else s.2.2 x (y - 1)
def RepC (n : Int) (X Y C : Int → Int) (s : SS) : Prop := RepI n X Y s.1 ∧ ∀ k d, 0 ≤ k → k < n → 0 ≤ d → d < 4 → C (4 * k + d) = s4 s (X k) (Y k) d
theorem RepI.in {n : Int} {X Y : Int → Int} {S : Int → Int → Prop} (h : RepI n X Y S) {k : Int} (k0 : 0 ≤ k) (k1 : k < n) : S (X k) (Y k) := (h.2.2.2 _ _).mpr ⟨k, k0, k1, rfl, rfl⟩
theorem RepI.rch {n : Int} {X Y : Int → Int} {s : SS} (h : RepI n X Y s.1) (hw : WF s) : rch n X Y := fun k k0 k1 => hw.1 _ _ (h.in k0 k1)
/-- two sorted rows of one set are one row -/
theorem RepI.same {n n' : Int} {X Y X' Y' : Int → Int} {S : Int → Int → Prop} (h : RepI n X Y S) (h' : RepI n' X' Y' S) : n = n' ∧ ∀ k, 0 ≤ k → k < n → X k = X' k ∧ Y k = Y' k := by
  have key : ∀ (t : Nat) (k : Int), k = t → k < n → k < n' → X k = X' k ∧ Y k = Y' k := by
    intro t
    induction t using Nat.strongRecOn with
    | ind t ih =>
      intro k kt k1 k2
      have k0 : 0 ≤ k := by omega
      obtain ⟨j, j0, j1, jx, jy⟩ := (h'.2.2.2 _ _).mp (h.in k0 k1)
      obtain ⟨i, i0, i1, ix, iy⟩ := (h.2.2.2 _ _).mp (h'.in k0 k2)
      have hj : k ≤ j := by
        rcases Int.lt_or_le j k with q | q
        · have := ih j.toNat (by omega) j (by omega) (by omega) j1
          have := h.2.2.1 j k j0 q k1
          omega
        · exact q
      have hi : k ≤ i := by
        rcases Int.lt_or_le i k with q | q
        · have := ih i.toNat (by omega) i (by omega) i1 (by omega)
          have := h'.2.2.1 i k i0 q k2
          omega
        · exact q
      rcases Int.lt_or_eq_of_le hj with q | q
      · have a := h'.2.2.1 k j k0 q j1
        rcases Int.lt_or_eq_of_le hi with q2 | q2
        · have b := h.2.2.1 k i k0 q2 i1
          omega
        · subst q2; omega
      · subst q; exact ⟨jx.symm, jy.symm⟩
  have le : ∀ {n n' : Int} {X Y X' Y' : Int → Int}, RepI n X Y S → RepI n' X' Y' S → (∀ (t : Nat) (k : Int), k = t → k < n → k < n' → X k = X' k ∧ Y k = Y' k) → n' ≤ n := by
    intro n n' X Y X' Y' h h' key
    rcases Int.lt_or_le n n' with q | q
    · obtain ⟨i, i0, i1, ix, iy⟩ := (h.2.2.2 _ _).mp (h'.in h.1 q)
      have := key i.toNat i (by omega) i1 (by omega)
      have := h'.2.2.1 i n i0 i1 q
      omega
    · exact q
  have e1 := le h h' key
  have e2 := le h' h (fun t k kt k1 k2 => by have := key t k kt k2 k1; exact ⟨this.1.symm, this.2.symm⟩)
  have e : n = n' := by omega
  exact ⟨e, fun k k0 k1 => key k.toNat k (by omega) k1 (by omega)⟩
theorem RepI.fnd_iff {n : Int} {X Y : Int → Int} {S : Int → Int → Prop} (h : RepI n X Y S) (x y : Int) : S x y ↔ fnd n X Y x y ≠ -1 := by
  rw [h.2.2.2]
  rcases fnd_cases n X Y x y with q | q
  · constructor
    · rintro ⟨k, k0, k1, k2⟩; exact absurd k2 (q.2 k k0 k1)
    · intro g; exact absurd q.1 g
  · exact ⟨fun _ => by omega, fun _ => ⟨_, q⟩⟩
/-- the reference's crease is that of the places -/
theorem crO_rep {n : Int} {X Y R U : Int → Int} {s : SS} (h : RepM n X Y R U s) (hw : WF s) {k d : Int} (k0 : 0 ≤ k) (k1 : k < n) (d0 : 0 ≤ d) (d1 : d < 4) : crO n X Y R U k d = s4 s (X k) (Y k) d := by
  unfold crO s4
  by_cases c0 : d = 0
  · rw [if_pos c0, if_pos c0]; exact (h.2 k k0 k1).1
  rw [if_neg c0, if_neg c0]
  by_cases c1 : d = 1
  · rw [if_pos c1, if_pos c1]; exact (h.2 k k0 k1).2
  rw [if_neg c1, if_neg c1]
  unfold nbr
  rcases fnd_cases n X Y (X k + dX d) (Y k + dY d) with q | q
  · rw [if_pos q.1]
    have no : ¬ s.1 (X k + dX d) (Y k + dY d) := fun g => (h.1.fnd_iff _ _).mp g q.1
    by_cases c2 : d = 2
    · rw [if_pos c2]
      subst c2
      have e : ¬ s.2.1 (X k - 1) (Y k) ≠ 0 := fun g => no (by
        have := (hw.2.2.2.1 _ _ g).1
        rw [show X k + dX 2 = X k - 1 from rfl, show Y k + dY 2 = Y k from Int.add_zero _]; exact this)
      omega
    · rw [if_neg c2]
      have c3 : d = 3 := by omega
      subst c3
      have e : ¬ s.2.2 (X k) (Y k - 1) ≠ 0 := fun g => no (by
        have := (hw.2.2.2.2 _ _ g).1
        rw [show Y k + dY 3 = Y k - 1 from rfl, show X k + dX 3 = X k from Int.add_zero _]; exact this)
      omega
  · rw [if_neg (by omega)]
    by_cases c2 : d = 2
    · rw [if_pos c2, if_pos c2, (h.2 _ q.1 q.2.1).1, q.2.2.1, q.2.2.2]
      subst c2
      rw [show X k + dX 2 = X k - 1 from rfl, show Y k + dY 2 = Y k from Int.add_zero _]
    · rw [if_neg c2, if_neg c2, (h.2 _ q.1 q.2.1).2, q.2.2.1, q.2.2.2]
      have c3 : d = 3 := by omega
      subst c3
      rw [show Y k + dY 3 = Y k - 1 from rfl, show X k + dX 3 = X k from Int.add_zero _]
