/-! the reference's place and sort -/
section C8i
variable {m : tM}
def PL (m m' : tM) (i : Int) (f : Nat → Int) : Prop := (∀ c, c < 149 ∨ 152 < c → m' c = m c) ∧ (∀ c, 149 ≤ c → c ≤ 152 → m' c = ur (m c) i (f c))
theorem c_place {i : Int} {f : Nat → Int} {K : tM → Prop} (i0 : 0 ≤ i) (i1 : i < 60) (h : ∀ m', PL m m' i f → K m') : Clv mX12_place [rV 145, iV i, iV (f 149), iV (f 150), iV (f 151), iV (f 152)] m K := by
  refine wX12_place_0 ⟨⟨i0, i1⟩, rfl, h _ ⟨fun c hc => ?_, fun c c0 c1 => ?_⟩⟩
  · rw [up_ne _ _ _ (by omega), up_ne _ _ _ (by omega), up_ne _ _ _ (by omega), up_ne _ _ _ (by omega)]
  · rcases (show c = 149 ∨ c = 150 ∨ c = 151 ∨ c = 152 by omega) with rfl | rfl | rfl | rfl
    · rw [up_ne _ _ _ (by omega), up_ne _ _ _ (by omega), up_ne _ _ _ (by omega)]; exact sr_eq _ _ _
    · rw [up_ne _ _ _ (by omega), up_ne _ _ _ (by omega)]
      refine (sr_eq _ _ _).trans ?_
      rw [up_ne _ _ _ (by omega)]
    · rw [up_ne _ _ _ (by omega)]
      refine (sr_eq _ _ _).trans ?_
      rw [up_ne _ _ _ (by omega), up_ne _ _ _ (by omega)]
    · refine (sr_eq _ _ _).trans ?_
      rw [up_ne _ _ _ (by omega), up_ne _ _ _ (by omega), up_ne _ _ _ (by omega)]
/-- ahead, in the order y, x -/
def ahd (x y x' y' : Int) : Prop := y < y' ∨ (y = y' ∧ x < x')
theorem c_isAhead {x y k : Int} {K : Int → tM → Prop} (k0 : 0 ≤ k) (k1 : k < 60) (h : ∀ v, (v = 0 ∧ ¬ ahd x y (m 149 k) (m 150 k)) ∨ (v = 1 ∧ ahd x y (m 149 k) (m 150 k)) → K v m) : Cli mX12_isAhead [rV 145, iV x, iV y, iV k] m K := by
  unfold ahd at h
  refine wX12_isAhead_0 ⟨⟨k0, k1⟩, fun c v hv => ⟨v, rfl, h v ?_⟩, fun c v hv => ⟨v, rfl, h v ?_⟩⟩
  · by_cases q : x < m 149 k
    · rw [if_pos q] at hv; exact Or.inr ⟨hv, by omega⟩
    · rw [if_neg q] at hv; exact Or.inl ⟨hv, by omega⟩
  · by_cases q : y < m 150 k
    · rw [if_pos q] at hv; exact Or.inr ⟨hv, by omega⟩
    · rw [if_neg q] at hv; exact Or.inl ⟨hv, by omega⟩
def dst (n : Int) (X Y : Int → Int) : Prop := ∀ i j, 0 ≤ i → i < n → 0 ≤ j → j < n → X i = X j → Y i = Y j → i = j
/-- the four rows in another order -/
def PM (n : Int) (m m' : tM) : Prop := ∃ σ τ : Int → Int, (∀ j, 0 ≤ j → j < n → (0 ≤ σ j ∧ σ j < n ∧ τ (σ j) = j) ∧ (0 ≤ τ j ∧ τ j < n ∧ σ (τ j) = j)) ∧ ∀ c, 149 ≤ c → c ≤ 152 → ∀ j, 0 ≤ j → j < n → m' c j = m c (σ j)
theorem PM.rf (n : Int) (m : tM) : PM n m m := ⟨id, id, fun j j0 j1 => ⟨⟨j0, j1, rfl⟩, ⟨j0, j1, rfl⟩⟩, fun _ _ _ _ _ _ => rfl⟩
theorem PM.tr {n : Int} {m1 m2 m3 : tM} (h : PM n m1 m2) (h' : PM n m2 m3) : PM n m1 m3 := by
  obtain ⟨σ, τ, a, b⟩ := h
  obtain ⟨σ', τ', a', b'⟩ := h'
  refine ⟨fun j => σ (σ' j), fun j => τ' (τ j), fun j j0 j1 => ⟨?_, ?_⟩, fun c c0 c1 j j0 j1 => ?_⟩
  · obtain ⟨p, q, r⟩ := (a' j j0 j1).1
    obtain ⟨p2, q2, r2⟩ := (a _ p q).1
    exact ⟨p2, q2, by show τ' (τ (σ (σ' j))) = j; rw [r2, r]⟩
  · obtain ⟨p, q, r⟩ := (a j j0 j1).2
    obtain ⟨p2, q2, r2⟩ := (a' _ p q).2
    exact ⟨p2, q2, by show σ (σ' (τ' (τ j))) = j; rw [r2, r]⟩
  · obtain ⟨p, q, r⟩ := (a' j j0 j1).1
    rw [b' c c0 c1 j j0 j1, b c c0 c1 _ p q]
theorem PM.dst {n : Int} {m m' : tM} (h : PM n m m') (hd : dst n (m 149) (m 150)) : dst n (m' 149) (m' 150) := by
  obtain ⟨σ, τ, a, b⟩ := h
  intro i j i0 i1 j0 j1 hx hy
  obtain ⟨p, q, r⟩ := (a i i0 i1).1
  obtain ⟨p2, q2, r2⟩ := (a j j0 j1).1
  rw [b 149 (by omega) (by omega) i i0 i1, b 149 (by omega) (by omega) j j0 j1] at hx
  rw [b 150 (by omega) (by omega) i i0 i1, b 150 (by omega) (by omega) j j0 j1] at hy
  have := hd _ _ p q p2 q2 hx hy
  rw [← r, ← r2, this]
/-- what sort does -/
def SO (m m' : tM) : Prop := (∀ c, c < 149 ∨ 152 < c → m' c = m c) ∧ PM (m 145 4) m m' ∧ srt (m 145 4) (m' 149) (m' 150)
/-- element k moved to place i -/
theorem PM.ins {n k i : Int} {m m' : tM} (i0 : 0 ≤ i) (ik : i ≤ k) (kn : k < n) (h : ∀ c, 149 ≤ c → c ≤ 152 → (∀ j, 0 ≤ j → j < i → m' c j = m c j) ∧ m' c i = m c k ∧ (∀ j, i < j → j ≤ k → m' c j = m c (j - 1)) ∧ (∀ j, k < j → m' c j = m c j)) : PM n m m' := by
  refine ⟨fun j => if j < i then j else if j = i then k else if j ≤ k then j - 1 else j, fun j => if j < i then j else if j < k then j + 1 else if j = k then i else j, fun j j0 j1 => ⟨⟨?_, ?_, ?_⟩, ⟨?_, ?_, ?_⟩⟩, fun c c0 c1 j j0 j1 => ?_⟩
  · show 0 ≤ (if j < i then j else if j = i then k else if j ≤ k then j - 1 else j); (repeat' split) <;> omega
  · show (if j < i then j else if j = i then k else if j ≤ k then j - 1 else j) < n; (repeat' split) <;> omega
  · show (if (if j < i then j else if j = i then k else if j ≤ k then j - 1 else j) < i then (if j < i then j else if j = i then k else if j ≤ k then j - 1 else j) else if (if j < i then j else if j = i then k else if j ≤ k then j - 1 else j) < k then (if j < i then j else if j = i then k else if j ≤ k then j - 1 else j) + 1 else if (if j < i then j else if j = i then k else if j ≤ k then j - 1 else j) = k then i else (if j < i then j else if j = i then k else if j ≤ k then j - 1 else j)) = j
    (repeat' split) <;> omega
  · show 0 ≤ (if j < i then j else if j < k then j + 1 else if j = k then i else j); (repeat' split) <;> omega
  · show (if j < i then j else if j < k then j + 1 else if j = k then i else j) < n; (repeat' split) <;> omega
  · show (if (if j < i then j else if j < k then j + 1 else if j = k then i else j) < i then (if j < i then j else if j < k then j + 1 else if j = k then i else j) else if (if j < i then j else if j < k then j + 1 else if j = k then i else j) = i then k else if (if j < i then j else if j < k then j + 1 else if j = k then i else j) ≤ k then (if j < i then j else if j < k then j + 1 else if j = k then i else j) - 1 else (if j < i then j else if j < k then j + 1 else if j = k then i else j)) = j
    (repeat' split) <;> omega
  · obtain ⟨a, b, d, e⟩ := h c c0 c1
    show m' c j = m c (if j < i then j else if j = i then k else if j ≤ k then j - 1 else j)
    by_cases q : j < i
    · rw [if_pos q]; exact a j j0 q
    rw [if_neg q]
    by_cases q2 : j = i
    · rw [if_pos q2, q2]; exact b
    rw [if_neg q2]
    by_cases q3 : j ≤ k
    · rw [if_pos q3]; exact d j (by omega) q3
    · rw [if_neg q3]; exact e j (by omega)
theorem c_sort {K : tM → Prop} (h0 : 0 ≤ m 145 4) (h1 : m 145 4 ≤ 60) (hd : dst (m 145 4) (m 149) (m 150)) (h : ∀ m', SO m m' → K m') : Clv mX12_sort [rV 145] m K := by
  refine wX12_sort_0 ?_
  have outer : ∀ (t : Nat) (k : Int), 1 ≤ k → (m 145 4 - k).toNat = t → ∀ m1, (∀ c, c < 149 ∨ 152 < c → m1 c = m c) → PM (m 145 4) m m1 → (k ≤ m 145 4 → srt k (m1 149) (m1 150)) → (m 145 4 < k → srt (m 145 4) (m1 149) (m1 150)) → Tj mX12_sort 2 [some (rV 145), some (iV k)] [] m1 (fun r m' => r = none ∧ K m') := by
    intro t
    induction t with
    | zero =>
      intro k k0 kt m1 f1 f2 f3 f4
      have e145 := f1 145 (by omega)
      refine wX12_sort_2 ⟨fun c => ?_, fun c => ⟨rfl, h m1 ⟨f1, f2, ?_⟩⟩⟩
      · rw [e145] at c; omega
      · rcases Int.lt_or_le (m 145 4) k with q | q
        · exact f4 q
        · have e : k = m 145 4 := by omega
          rw [← e]; exact f3 (by omega)
    | succ t ih =>
      intro k k0 kt m1 f1 f2 f3 f4
      have e145 := f1 145 (by omega)
      have kn : k < m 145 4 := by omega
      have sk := f3 (by omega)
      have d1 := f2.dst hd
      refine wX12_sort_2 ⟨fun _ => ⟨⟨by omega, by omega⟩, ?_⟩, fun c => by rw [e145] at c; omega⟩
      -- the inner loop
      have inner : ∀ (u : Nat) (i : Int), i = u → i ≤ k → ∀ m2, (∀ c, c < 149 ∨ 152 < c → m2 c = m1 c) → (∀ c, 149 ≤ c → c ≤ 152 → (∀ j, 0 ≤ j → j < i → m2 c j = m1 c j) ∧ (∀ j, i < j → j ≤ k → m2 c j = m1 c (j - 1)) ∧ (∀ j, k < j → m2 c j = m1 c j)) → (∀ j, i ≤ j → j < k → ahd (m1 149 k) (m1 150 k) (m1 149 j) (m1 150 j)) → Tj mX12_sort 43 [some (rV 145), some (iV k), some (iV (m1 149 k)), some (iV (m1 150 k)), some (iV (m1 151 k)), some (iV (m1 152 k)), some (iV i)] [] m2 (fun r m' => r = none ∧ K m') := by
        -- the end: element k is laid at i
        have fin : ∀ (i : Int), 0 ≤ i → i ≤ k → ∀ m2, (∀ c, c < 149 ∨ 152 < c → m2 c = m1 c) → (∀ c, 149 ≤ c → c ≤ 152 → (∀ j, 0 ≤ j → j < i → m2 c j = m1 c j) ∧ (∀ j, i < j → j ≤ k → m2 c j = m1 c (j - 1)) ∧ (∀ j, k < j → m2 c j = m1 c j)) → (∀ j, i ≤ j → j < k → ahd (m1 149 k) (m1 150 k) (m1 149 j) (m1 150 j)) → (0 < i → ¬ ahd (m1 149 k) (m1 150 k) (m1 149 (i - 1)) (m1 150 (i - 1))) → Clv mX12_place [rV 145, iV i, iV (m1 149 k), iV (m1 150 k), iV (m1 151 k), iV (m1 152 k)] m2 (fun m3 => R32 (k + 1) ∧ Tj mX12_sort 2 [some (rV 145), some (iV (k + 1))] [] m3 (fun r m' => r = none ∧ K m')) := by
          intro i i0 ik m2 g1 g2 g3 g4
          refine c_place (f := fun c => m1 c k) i0 (by omega) (fun m3 p => ⟨by constructor <;> omega, ?_⟩)
          have rows : ∀ c, 149 ≤ c → c ≤ 152 → (∀ j, 0 ≤ j → j < i → m3 c j = m1 c j) ∧ m3 c i = m1 c k ∧ (∀ j, i < j → j ≤ k → m3 c j = m1 c (j - 1)) ∧ (∀ j, k < j → m3 c j = m1 c j) := by
            intro c c0 c1
            obtain ⟨a, b, d⟩ := g2 c c0 c1
            have e := p.2 c c0 c1
            refine ⟨fun j j0 j1 => ?_, ?_, fun j j0 j1 => ?_, fun j j0 => ?_⟩
            · rw [e, ur_ne _ _ (by omega)]; exact a j j0 j1
            · rw [e, ur_eq]
            · rw [e, ur_ne _ _ (by omega)]; exact b j j0 j1
            · rw [e, ur_ne _ _ (by omega)]; exact d j j0
          have srt' : srt (k + 1) (m3 149) (m3 150) := by
            obtain ⟨ax, bx, dx, _⟩ := rows 149 (by omega) (by omega)
            obtain ⟨ay, by', dy, _⟩ := rows 150 (by omega) (by omega)
            have before : ∀ p, 0 ≤ p → p < i → m1 150 p < m1 150 k ∨ (m1 150 p = m1 150 k ∧ m1 149 p < m1 149 k) := by
              intro p p0 p1
              have n4 := g4 (by omega)
              unfold ahd at n4
              have ne : ¬ (m1 149 (i - 1) = m1 149 k ∧ m1 150 (i - 1) = m1 150 k) := fun q => by
                have := d1 (i - 1) k (by omega) (by omega) (by omega) kn q.1 q.2
                omega
              rcases Int.lt_or_eq_of_le (show p ≤ i - 1 by omega) with q | q
              · have := sk p (i - 1) p0 q (by omega); omega
              · subst q; omega
            intro w z w0 wz z1
            rcases Int.lt_trichotomy z i with t1 | t1 | t1
            · rw [ax w w0 (by omega), ax z (by omega) t1, ay w w0 (by omega), ay z (by omega) t1]
              exact sk w z w0 wz (by omega)
            · rw [t1, ax w w0 (by omega), bx, ay w w0 (by omega), by']
              exact before w w0 (by omega)
            · rw [dx z t1 (by omega), dy z t1 (by omega)]
              rcases Int.lt_trichotomy w i with t2 | t2 | t2
              · rw [ax w w0 t2, ay w w0 t2]
                exact sk w (z - 1) w0 (by omega) (by omega)
              · rw [t2, bx, by']
                exact g3 (z - 1) (by omega) (by omega)
              · rw [dx w t2 (by omega), dy w t2 (by omega)]
                exact sk (w - 1) (z - 1) (by omega) (by omega) (by omega)
          have pm : PM (m 145 4) m1 m3 := PM.ins i0 ik kn rows
          refine ih (k + 1) (by omega) (by omega) m3 (fun c hc => by rw [p.1 c hc, g1 c hc, f1 c hc]) (f2.tr pm) (fun _ => srt') (fun q => by omega)
        intro u
        induction u with
        | zero =>
          intro i iu ik m2 g1 g2 g3
          exact wX12_sort_43 ⟨fun c => by omega, fun _ => fin i (by omega) ik m2 g1 g2 g3 (fun q => by omega)⟩
        | succ u ihu =>
          intro i iu ik m2 g1 g2 g3
          have e149 := (g2 149 (by omega) (by omega)).1 (i - 1) (by omega) (by omega)
          have e150 := (g2 150 (by omega) (by omega)).1 (i - 1) (by omega) (by omega)
          refine wX12_sort_43 ⟨fun _ => ⟨by constructor <;> omega, c_isAhead (by omega) (by omega) (fun v hv => ?_)⟩, fun c => by omega⟩
          rw [e149, e150] at hv
          refine ⟨fun c => fin i (by omega) ik m2 g1 g2 g3 (fun _ => ?_), fun c => ⟨⟨by omega, by omega⟩, c_place (f := fun c => m2 c (i - 1)) (by omega) (by omega) (fun m3 p => ⟨by constructor <;> omega, ?_⟩)⟩⟩
          · rcases hv with q | q
            · exact q.2
            · omega
          · have hah : ahd (m1 149 k) (m1 150 k) (m1 149 (i - 1)) (m1 150 (i - 1)) := by
              rcases hv with q | q
              · omega
              · exact q.2
            refine ihu (i + (-1)) (by omega) (by omega) m3 (fun c hc => by rw [p.1 c hc, g1 c hc]) (fun c c0 c1 => ?_) (fun j j0 j1 => ?_)
            · obtain ⟨a, b, d⟩ := g2 c c0 c1
              have e := p.2 c c0 c1
              refine ⟨fun j j0 j1 => ?_, fun j j0 j1 => ?_, fun j j0 => ?_⟩
              · rw [e, ur_ne _ _ (by omega)]; exact a j j0 (by omega)
              · by_cases q : j = i
                · subst q; rw [e, ur_eq]; exact a (j - 1) (by omega) (by omega)
                · rw [e, ur_ne _ _ q]; exact b j (by omega) j1
              · rw [e, ur_ne _ _ (by omega)]; exact d j j0
            · by_cases q : j = i - 1
              · subst q; exact hah
              · exact g3 j (by omega) j1
      exact inner k.toNat k (by omega) (by omega) m1 (fun _ _ => rfl) (fun c _ _ => ⟨fun _ _ _ => rfl, fun j j0 j1 => by omega, fun _ _ => rfl⟩) (fun j j0 j1 => by omega)
  refine outer _ 1 (by omega) rfl m (fun _ _ => rfl) (PM.rf _ _) (fun _ i j i0 ij j1 => by omega) (fun q i j i0 ij j1 => by omega)
end C8i
