/-! spots: finding them -/
def dX (d : Int) : Int := if d = 0 then 1 else if d = 2 then -1 else 0
def dY (d : Int) : Int := if d = 1 then 1 else if d = 3 then -1 else 0
theorem dX_r (d : Int) : -1 ≤ dX d ∧ dX d ≤ 1 := by unfold dX; (repeat' split) <;> omega
theorem dY_r (d : Int) : -1 ≤ dY d ∧ dY d ≤ 1 := by unfold dY; (repeat' split) <;> omega
def srt (n : Int) (xs ys : Int → Int) : Prop := ∀ i j, 0 ≤ i → i < j → j < n → ys i < ys j ∨ (ys i = ys j ∧ xs i < xs j)
noncomputable def fnd (n : Int) (xs ys : Int → Int) (x y : Int) : Int := @dite Int (∃ k : Int, 0 ≤ k ∧ k < n ∧ xs k = x ∧ ys k = y) (Classical.propDecidable _) (fun h => Classical.choose h) (fun _ => -1)
theorem fnd_cases (n : Int) (xs ys : Int → Int) (x y : Int) : (fnd n xs ys x y = -1 ∧ ∀ k, 0 ≤ k → k < n → ¬ (xs k = x ∧ ys k = y)) ∨ (0 ≤ fnd n xs ys x y ∧ fnd n xs ys x y < n ∧ xs (fnd n xs ys x y) = x ∧ ys (fnd n xs ys x y) = y) := by
  unfold fnd
  by_cases h : ∃ k : Int, 0 ≤ k ∧ k < n ∧ xs k = x ∧ ys k = y
  · rw [dif_pos h]
    exact Or.inr (Classical.choose_spec h)
  · rw [dif_neg h]
    exact Or.inl ⟨rfl, fun k k0 k1 k2 => h ⟨k, k0, k1, k2⟩⟩
theorem fnd_none {n : Int} {xs ys : Int → Int} {x y : Int} (h : ∀ k, 0 ≤ k → k < n → ¬ (xs k = x ∧ ys k = y)) : fnd n xs ys x y = -1 := by
  rcases fnd_cases n xs ys x y with q | q
  · exact q.1
  · exact absurd ⟨q.2.2.1, q.2.2.2⟩ (h _ q.1 q.2.1)
theorem srt_inj {n : Int} {xs ys : Int → Int} (h : srt n xs ys) {i j : Int} (i0 : 0 ≤ i) (i1 : i < n) (j0 : 0 ≤ j) (j1 : j < n) (hx : xs i = xs j) (hy : ys i = ys j) : i = j := by
  rcases Int.lt_trichotomy i j with q | q | q
  · have := h i j i0 q j1; omega
  · exact q
  · have := h j i j0 q i1; omega
theorem fnd_some {n : Int} {xs ys : Int → Int} {x y k : Int} (hs : srt n xs ys) (k0 : 0 ≤ k) (k1 : k < n) (hx : xs k = x) (hy : ys k = y) : fnd n xs ys x y = k := by
  rcases fnd_cases n xs ys x y with q | q
  · exact absurd ⟨hx, hy⟩ (q.2 k k0 k1)
  · exact srt_inj hs q.1 q.2.1 k0 k1 (q.2.2.1.trans hx.symm) (q.2.2.2.trans hy.symm)
theorem fnd_r (n : Int) (xs ys : Int → Int) (x y : Int) (hn : 0 ≤ n) : -1 ≤ fnd n xs ys x y ∧ fnd n xs ys x y ≤ n := by
  rcases fnd_cases n xs ys x y with q | q <;> omega
theorem fnd_congr {n : Int} {xs ys X Y : Int → Int} (hs : srt n X Y) (hx : ∀ k, 0 ≤ k → k < n → xs k = X k) (hy : ∀ k, 0 ≤ k → k < n → ys k = Y k) (x y : Int) : fnd n xs ys x y = fnd n X Y x y := by
  rcases fnd_cases n xs ys x y with q | q
  · rw [q.1, fnd_none]
    intro k k0 k1
    rw [← hx k k0 k1, ← hy k k0 k1]
    exact q.2 k k0 k1
  · rw [fnd_some hs q.1 q.2.1 (by rw [← hx _ q.1 q.2.1]; exact q.2.2.1) (by rw [← hy _ q.1 q.2.1]; exact q.2.2.2)]
section C8f
variable {m : tM}
/-- the first spot not before (x, y), or all -/
def FNB (n : Int) (xs ys : Int → Int) (x y i : Int) : Prop := 0 ≤ i ∧ i ≤ n ∧ (∀ j, 0 ≤ j → j < i → ys j < y ∨ (ys j = y ∧ xs j < x)) ∧ (i < n → y < ys i ∨ (ys i = y ∧ x ≤ xs i))
theorem c_fnb {a : Nat} {x y : Int} {K : Int → tM → Prop} (sa : shS a) (h0 : 0 ≤ m a 3) (h1 : m a 3 ≤ 60) (h : ∀ i, FNB (m a 3) (m (a + 1)) (m (a + 2)) x y i → K i m) : Cli mX8_firstNotBefore [rV a, iV x, iV y] m K := by
  refine wX8_firstNotBefore_0 ?_
  have key := up_ind (n := m a 3) (fun i => (∀ j, 0 ≤ j → j < i → m (a + 2) j < y ∨ (m (a + 2) j = y ∧ m (a + 1) j < x)) → Tj mX8_firstNotBefore 2 [some (rV a), some (iV x), some (iV y), some (iV i)] [] m (fun r m' => ∃ n, r = some (iV n) ∧ K n m')) ?_ ?_ (i := 0) (by omega) h0
  · exact key (fun j j0 j1 => by omega)
  · intro q
    exact wX8_firstNotBefore_2 sa.1 sa.2.1 sa.2.2.1 ⟨fun c => by omega, fun _ => ⟨_, rfl, h _ ⟨h0, by omega, q, fun c => by omega⟩⟩⟩
  · intro i i0 i1 ih q
    refine wX8_firstNotBefore_2 sa.1 sa.2.1 sa.2.2.1 ⟨fun _ => ⟨⟨i0, by omega⟩, fun c => ⟨_, rfl, h _ ⟨i0, by omega, q, fun _ => Or.inl c⟩⟩, fun c => ⟨fun c2 => ⟨fun c3 => ⟨by constructor <;> omega, ih (fun j j0 j1 => ?_)⟩, fun c3 => ⟨_, rfl, h _ ⟨i0, by omega, q, fun _ => Or.inr ⟨c2, by omega⟩⟩⟩⟩, fun c2 => ⟨by constructor <;> omega, ih (fun j j0 j1 => ?_)⟩⟩⟩, fun c => absurd i1 c⟩
    · by_cases e : j = i
      · subst e; exact Or.inr ⟨c2, c3⟩
      · exact q j j0 (by omega)
    · by_cases e : j = i
      · subst e; exact Or.inl (by omega)
      · exact q j j0 (by omega)
theorem c_find {a : Nat} {x y : Int} {K : Int → tM → Prop} (sa : shS a) (h0 : 0 ≤ m a 3) (h1 : m a 3 ≤ 60) (hs : srt (m a 3) (m (a + 1)) (m (a + 2))) (h : K (fnd (m a 3) (m (a + 1)) (m (a + 2)) x y) m) : Cli mX8_find [rV a, iV x, iV y] m K := by
  refine wX8_find_0 sa.1 sa.2.1 sa.2.2.1 (c_fnb sa h0 h1 (fun i q => ?_))
  obtain ⟨q0, q1, q2, q3⟩ := q
  have none : ¬ (i < m a 3 ∧ m (a + 1) i = x ∧ m (a + 2) i = y) → fnd (m a 3) (m (a + 1)) (m (a + 2)) x y = -1 := by
    intro g
    refine fnd_none (fun k k0 k1 e => ?_)
    rcases Int.lt_trichotomy k i with t | t | t
    · have := q2 k k0 t; omega
    · subst t; exact g ⟨k1, e⟩
    · have := hs i k q0 t k1
      have := q3 (by omega)
      omega
  refine ⟨fun c => ⟨⟨q0, by omega⟩, fun c2 v hv => ⟨v, rfl, ?_⟩, fun c2 => ⟨_, rfl, ?_⟩⟩, fun c => ⟨_, rfl, ?_⟩⟩
  · by_cases c3 : m (a + 2) i = y
    · rw [if_pos c3] at hv
      rw [hv, ← fnd_some hs q0 c c2 c3]
      exact h
    · rw [if_neg c3] at hv
      rw [hv, ← none (fun e => c3 e.2.2)]
      exact h
  · rw [← none (fun e => c2 e.2.1)]; exact h
  · rw [← none (fun e => c e.1)]; exact h
theorem st_x : ∀ d : Nat, d < 4 → stI 1002 (d : Int) = dX (d : Int) ∧ stI 1003 (d : Int) = dY (d : Int) := by decide +kernel
theorem c_stepX {x : Int} {K : Int → tM → Prop} (h : K (dX (x % 4)) m) : Cli mX8_stepX [iV x] m K := by
  refine Tj.rl 0 rfl (fun hx => wX8_stepX_0 ?_)
  rw [bAnd_3 hx]
  have e := (st_x (x % 4).toNat (by omega)).1
  rw [ix_cast (by omega)] at e
  exact ⟨⟨by omega, by omega⟩, _, rfl, by rw [e]; exact h⟩
theorem c_stepY {x : Int} {K : Int → tM → Prop} (h : K (dY (x % 4)) m) : Cli mX8_stepY [iV x] m K := by
  refine Tj.rl 0 rfl (fun hx => wX8_stepY_0 ?_)
  rw [bAnd_3 hx]
  have e := (st_x (x % 4).toNat (by omega)).2
  rw [ix_cast (by omega)] at e
  exact ⟨⟨by omega, by omega⟩, _, rfl, by rw [e]; exact h⟩
/-- coordinates in reach -/
def rch (n : Int) (xs ys : Int → Int) : Prop := ∀ k, 0 ≤ k → k < n → (-30 ≤ xs k ∧ xs k ≤ 30) ∧ (-30 ≤ ys k ∧ ys k ≤ 30)
/-- the neighbour of spot k -/
noncomputable def nbr (n : Int) (xs ys : Int → Int) (k d : Int) : Int := fnd n xs ys (xs k + dX d) (ys k + dY d)
theorem c_beside {a : Nat} {k d : Int} {K : Int → tM → Prop} (sa : shS a) (h0 : 0 ≤ m a 3) (h1 : m a 3 ≤ 60) (hs : srt (m a 3) (m (a + 1)) (m (a + 2))) (hr : rch (m a 3) (m (a + 1)) (m (a + 2))) (k0 : 0 ≤ k) (k1 : k < m a 3) (d0 : 0 ≤ d) (d1 : d < 4) (h : K (nbr (m a 3) (m (a + 1)) (m (a + 2)) k d) m) : Cli mX8_beside [rV a, iV k, iV d] m K := by
  have r := hr k k0 k1
  have q1 := dX_r d
  have q2 := dY_r d
  refine wX8_beside_0 sa.1 sa.2.1 sa.2.2.1 ⟨⟨k0, by omega⟩, c_stepX ?_⟩
  rw [Int.emod_eq_of_lt d0 d1]
  refine ⟨by constructor <;> omega, c_stepY ?_⟩
  rw [Int.emod_eq_of_lt d0 d1]
  exact ⟨by constructor <;> omega, c_find sa h0 h1 hs ⟨_, rfl, h⟩⟩
/-! the reference's -/
theorem c_spotAt {x y : Int} {K : Int → tM → Prop} (h0 : 0 ≤ m 145 4) (h1 : m 145 4 ≤ 60) (hs : srt (m 145 4) (m 149) (m 150)) (h : K (fnd (m 145 4) (m 149) (m 150) x y) m) : Cli mX12_spotAt [rV 145, iV x, iV y] m K := by
  refine wX12_spotAt_0 ?_
  have key := up_ind (n := m 145 4) (fun i => (∀ j, 0 ≤ j → j < i → ¬ (m 149 j = x ∧ m 150 j = y)) → Tj mX12_spotAt 2 [some (rV 145), some (iV x), some (iV y), some (iV i)] [] m (fun r m' => ∃ n, r = some (iV n) ∧ K n m')) ?_ ?_ (i := 0) (by omega) h0
  · exact key (fun j j0 j1 => by omega)
  · intro q
    refine wX12_spotAt_2 ⟨fun c => by omega, fun _ => ⟨_, rfl, ?_⟩⟩
    rw [fnd_none q] at h
    exact h
  · intro i i0 i1 ih q
    have nx : ¬ (m 149 i = x ∧ m 150 i = y) → ∀ j, 0 ≤ j → j < i + 1 → ¬ (m 149 j = x ∧ m 150 j = y) := fun g j j0 j1 => by
      by_cases e : j = i
      · subst e; exact g
      · exact q j j0 (by omega)
    refine wX12_spotAt_2 ⟨fun _ => ⟨⟨i0, by omega⟩, fun c => ⟨fun c2 => ⟨_, rfl, ?_⟩, fun c2 => ⟨by constructor <;> omega, ih (nx (fun e => c2 e.2))⟩⟩, fun c => ⟨by constructor <;> omega, ih (nx (fun e => c e.1))⟩⟩, fun c => absurd i1 c⟩
    rw [fnd_some hs i0 i1 c c2] at h
    exact h
theorem c_stepXM {x : Int} {K : Int → tM → Prop} (h : K (dX x) m) : Cli mX12_stepX [iV x] m K := wX12_stepX_0 (fun v hv => ⟨v, rfl, by rw [hv]; exact h⟩)
theorem c_stepYM {x : Int} {K : Int → tM → Prop} (h : K (dY x) m) : Cli mX12_stepY [iV x] m K := wX12_stepY_0 (fun v hv => ⟨v, rfl, by rw [hv]; exact h⟩)
theorem c_neighbour {k d : Int} {K : Int → tM → Prop} (h0 : 0 ≤ m 145 4) (h1 : m 145 4 ≤ 60) (hs : srt (m 145 4) (m 149) (m 150)) (hr : rch (m 145 4) (m 149) (m 150)) (k0 : 0 ≤ k) (k1 : k < m 145 4) (h : K (nbr (m 145 4) (m 149) (m 150) k d) m) : Cli mX12_neighbour [rV 145, iV k, iV d] m K := by
  have r := hr k k0 k1
  have q1 := dX_r d
  have q2 := dY_r d
  refine wX12_neighbour_0 ⟨⟨k0, by omega⟩, c_stepXM ⟨by constructor <;> omega, c_stepYM ⟨by constructor <;> omega, c_spotAt h0 h1 hs ⟨_, rfl, h⟩⟩⟩⟩
/-- the crease of spot k to direction d -/
noncomputable def crO (n : Int) (xs ys R U : Int → Int) (k d : Int) : Int := if d = 0 then R k else if d = 1 then U k else if nbr n xs ys k d = -1 then 0 else if d = 2 then R (nbr n xs ys k d) else U (nbr n xs ys k d)
theorem c_creaseOf {k d : Int} {K : Int → tM → Prop} (h0 : 0 ≤ m 145 4) (h1 : m 145 4 ≤ 60) (hs : srt (m 145 4) (m 149) (m 150)) (hr : rch (m 145 4) (m 149) (m 150)) (k0 : 0 ≤ k) (k1 : k < m 145 4) (d0 : 0 ≤ d) (h : K (crO (m 145 4) (m 149) (m 150) (m 151) (m 152) k d) m) : Cli mX12_creaseOf [rV 145, iV k, iV d] m K := by
  unfold crO at h
  refine wX12_creaseOf_0 ⟨fun c => ⟨fun c2 => ⟨⟨k0, by omega⟩, _, rfl, by rw [if_pos c2] at h; exact h⟩, fun c2 => ⟨⟨k0, by omega⟩, _, rfl, by rw [if_neg c2, if_pos (by omega)] at h; exact h⟩⟩, fun c => c_neighbour h0 h1 hs hr k0 k1 ?_⟩
  rw [if_neg (by omega), if_neg (by omega)] at h
  refine ⟨fun c2 => ⟨_, rfl, by rw [if_pos c2] at h; exact h⟩, fun c2 => ?_⟩
  rw [if_neg c2] at h
  have hb : 0 ≤ nbr (m 145 4) (m 149) (m 150) k d ∧ nbr (m 145 4) (m 149) (m 150) k d < 60 := by
    rcases fnd_cases (m 145 4) (m 149) (m 150) (m 149 k + dX d) (m 150 k + dY d) with q | q
    · exact absurd q.1 c2
    · exact ⟨q.1, Int.lt_of_lt_of_le q.2.1 h1⟩
  exact ⟨fun c3 => ⟨hb, _, rfl, by rw [if_pos c3] at h; exact h⟩, fun c3 => ⟨hb, _, rfl, by rw [if_neg c3] at h; exact h⟩⟩
end C8f
