/-! the form: the class writes -/
def shF (a : Nat) : Prop := shp a = some (4, 0) ∧ shp (a + 1) = some (20, 240) ∧ shp (a + 2) = some (20, 240) ∧ shp (a + 3) = some (20, 60)
theorem shF_133 : shF 133 := ⟨sh_133, sh_134, sh_135, sh_136⟩
theorem shF_137 : shF 137 := ⟨sh_137, sh_138, sh_139, sh_140⟩
def shf (K : Int → Int) (t i : Int) : Int → Int := fun j => if t < j ∧ j ≤ i then K (j - 1) else K j
theorem shf_s (K : Int → Int) {t i : Int} (ti : t ≤ i) : ur (shf K t i) t (K (t - 1)) = shf K (t - 1) i := by
  funext j
  by_cases e : j = t
  · subst e
    rw [ur_eq]
    unfold shf
    rw [if_pos (by omega)]
  · rw [ur_ne _ _ e]
    unfold shf
    by_cases g : t < j ∧ j ≤ i
    · rw [if_pos g, if_pos (by omega)]
    · rw [if_neg g, if_neg (by omega)]
/-- keys in order -/
def KSI (kf : Int → Int) (i : Int) (K : Int → Int) : Prop := (∀ j, 0 ≤ j → j < i → ∃ k, 0 ≤ k ∧ k < i ∧ K j = kf k) ∧ (∀ k, 0 ≤ k → k < i → ∃ j, 0 ≤ j ∧ j < i ∧ K j = kf k) ∧ ∀ j l, 0 ≤ j → j < l → l < i → K j < K l
theorem KSI.ins {kf K : Int → Int} {i p : Int} (h : KSI kf i K) (i0 : 0 ≤ i) (ne : ∀ k, 0 ≤ k → k < i → kf k ≠ kf i) (p0 : 0 ≤ p) (p1 : p ≤ i) (hi : ∀ j, p ≤ j → j < i → kf i < K j) (lo : p = 0 ∨ K (p - 1) ≤ kf i) : KSI kf (i + 1) (ur (shf K p i) p (kf i)) := by
  obtain ⟨h1, h2, h3⟩ := h
  have low : ∀ j, 0 ≤ j → j < p → K j < kf i := fun j j0 j1 => by
    rcases lo with q | q
    · omega
    · obtain ⟨k, k0, k1, k2⟩ := h1 (p - 1) (by omega) (by omega)
      have := ne k k0 k1
      by_cases e : j = p - 1
      · rw [e]; omega
      · have := h3 j (p - 1) j0 (by omega) (by omega); omega
  have at1 : ∀ j, 0 ≤ j → j < p → ur (shf K p i) p (kf i) j = K j := fun j j0 j1 => by
    rw [ur_ne _ _ (by omega)]; unfold shf; rw [if_neg (by omega)]
  have at2 : ∀ j, p < j → j ≤ i → ur (shf K p i) p (kf i) j = K (j - 1) := fun j j0 j1 => by
    rw [ur_ne _ _ (by omega)]; unfold shf; rw [if_pos (by omega)]
  refine ⟨fun j j0 j1 => ?_, fun k k0 k1 => ?_, fun j l j0 jl l1 => ?_⟩
  · rcases Int.lt_trichotomy j p with q | q | q
    · rw [at1 j j0 q]
      obtain ⟨k, a, b, c⟩ := h1 j j0 (by omega)
      exact ⟨k, a, by omega, c⟩
    · subst q; rw [ur_eq]; exact ⟨i, i0, by omega, rfl⟩
    · rw [at2 j q (by omega)]
      obtain ⟨k, a, b, c⟩ := h1 (j - 1) (by omega) (by omega)
      exact ⟨k, a, by omega, c⟩
  · by_cases q : k = i
    · exact ⟨p, p0, by omega, by rw [ur_eq, q]⟩
    · obtain ⟨j, a, b, c⟩ := h2 k k0 (by omega)
      by_cases g : j < p
      · exact ⟨j, a, by omega, by rw [at1 j a g]; exact c⟩
      · exact ⟨j + 1, by omega, by omega, by rw [at2 (j + 1) (by omega) (by omega), show j + 1 - 1 = j by omega]; exact c⟩
  · rcases Int.lt_trichotomy j p with q | q | q
    · rw [at1 j j0 q]
      rcases Int.lt_trichotomy l p with g | g | g
      · rw [at1 l (by omega) g]; exact h3 j l j0 jl (by omega)
      · subst g; rw [ur_eq]; exact low j j0 q
      · rw [at2 l g (by omega)]
        have a := low j j0 q
        have b := hi (l - 1) (by omega) (by omega)
        omega
    · subst q
      rw [ur_eq, at2 l jl (by omega)]
      exact hi (l - 1) (by omega) (by omega)
    · rw [at2 j q (by omega), at2 l (by omega) (by omega)]
      exact h3 (j - 1) (l - 1) (by omega) (by omega) (by omega)
section C9u
variable {m : tM}
theorem c_insertKey {a : Nat} {i key : Int} {Q : tM → Prop} (sa : shF a) (i0 : 0 ≤ i) (i1 : i < 60) (h : ∀ p, 0 ≤ p → p ≤ i → (∀ j, p ≤ j → j < i → key < m (a + 3) j) → (p = 0 ∨ m (a + 3) (p - 1) ≤ key) → Q (sr m (a + 3) (ur (shf (m (a + 3)) p i) p key))) : Clv mX4_insertKey [rV a, iV i, iV key] m Q := by
  refine wX4_insertKey_0 ?_
  have key' : ∀ (n : Nat) (t : Int), t = n → t ≤ i → (∀ j, t ≤ j → j < i → key < m (a + 3) j) → Tj mX4_insertKey 2 [some (rV a), none, some (iV key), some (iV t)] [] (sr m (a + 3) (shf (m (a + 3)) t i)) (fun r m' => r = none ∧ Q m') := by
    intro n
    induction n with
    | zero =>
      intro t ht ti hj
      have t0 : t = 0 := by omega
      subst t0
      refine wX4_insertKey_2 sa.1 sa.2.2.2 ⟨fun g => by omega, fun _ => ⟨⟨by omega, by omega⟩, rfl, ?_⟩⟩
      rw [up_sr]
      exact h 0 (by omega) ti hj (Or.inl rfl)
    | succ n ih =>
      intro t ht ti hj
      have e : (sr m (a + 3) (shf (m (a + 3)) t i)) (a + 3) (t - 1) = m (a + 3) (t - 1) := by
        rw [sr_eq]; unfold shf; rw [if_neg (by omega)]
      refine wX4_insertKey_2 sa.1 sa.2.2.2 ⟨fun _ => ⟨⟨by constructor <;> omega, by omega, by omega⟩, fun g => ⟨⟨by omega, by omega, by constructor <;> omega⟩, ?_⟩, fun g => ⟨⟨by omega, by omega⟩, rfl, ?_⟩⟩, fun g => by omega⟩
      · rw [e] at g ⊢
        rw [up_sr, shf_s _ ti, show t + -1 = t - 1 by omega]
        refine ih (t - 1) (by omega) (by omega) (fun j j0 j1 => ?_)
        by_cases q : j = t - 1
        · rw [q]; exact g
        · exact hj j (by omega) j1
      · rw [e] at g
        rw [up_sr]
        exact h t (by omega) ti hj (Or.inr (by omega))
  have := key' i.toNat i (by omega) (Int.le_refl i) (fun j j0 j1 => by omega)
  have z : shf (m (a + 3)) i i = m (a + 3) := by
    funext j; unfold shf; rw [if_neg (by omega)]
  rw [z, sr_self] at this
  exact this
theorem bOr_nat2 {a b : Nat} (ha : a < 1073741824) (hb : b < 1073741824) : bOr (a : Int) (b : Int) = ((a ||| b : Nat) : Int) := by
  unfold bOr
  have := Nat.or_lt_two_pow (n := 30) ha hb
  rw [oi_nat, oi_nat, nI_or, nI_ti (by omega)]
theorem key_val {x y k : Int} (x0 : 0 ≤ x) (x1 : x < 64) (y0 : 0 ≤ y) (y1 : y < 64) (k0 : 0 ≤ k) (k1 : k < 64) : bOr (bOr (bShl y 12) (bShl x 6)) k = 4096 * y + 64 * x + k := by
  have e1 : bShl y 12 = y * 4096 := bShl_mul (by omega) (by omega) y0 (by show y * 4096 < _; omega)
  have e2 : bShl x 6 = x * 64 := bShl_mul (by omega) (by omega) x0 (by show x * 64 < _; omega)
  rw [e1, e2]
  obtain ⟨X, rfl⟩ := Int.eq_ofNat_of_zero_le x0
  obtain ⟨Y, rfl⟩ := Int.eq_ofNat_of_zero_le y0
  obtain ⟨k', rfl⟩ := Int.eq_ofNat_of_zero_le k0
  have a1 : Y * 4096 ||| X * 64 = Y * 4096 + X * 64 := by
    have := Nat.shiftLeft_add_eq_or_of_lt (i := 12) (b := X * 64) (show X * 64 < 2 ^ 12 by omega) Y
    rw [Nat.shiftLeft_eq] at this
    exact this.symm
  have a2 : (Y * 4096 + X * 64) ||| k' = Y * 4096 + X * 64 + k' := by
    have := Nat.shiftLeft_add_eq_or_of_lt (i := 6) (b := k') (show k' < 2 ^ 6 by omega) (Y * 64 + X)
    rw [Nat.shiftLeft_eq, show (Y * 64 + X) * 2 ^ 6 = Y * 4096 + X * 64 by omega] at this
    exact this.symm
  rw [show (Y : Int) * 4096 = ((Y * 4096 : Nat) : Int) by omega, show (X : Int) * 64 = ((X * 64 : Nat) : Int) by omega, bOr_nat2 (by omega) (by omega), a1, bOr_nat2 (by omega) (by omega), a2]
  omega
theorem gX_r {q o x y : Int} (q0 : 0 ≤ q) (q1 : q < 4) (rx : -30 ≤ x ∧ x ≤ 30) (ry : -30 ≤ y ∧ y ≤ 30) : (-30 ≤ gX q o x y ∧ gX q o x y ≤ 30) ∧ (-30 ≤ gY q o x y ∧ gY q o x y ≤ 30) := by
  unfold gX gY
  by_cases g : o = 0
  · rw [if_pos g]
    rcases d4 q0 q1 with rfl | rfl | rfl | rfl <;> simp [dX, dY] <;> omega
  · rw [if_neg g]
    rcases d4 q0 q1 with rfl | rfl | rfl | rfl <;> simp [dX, dY] <;> omega
/-- the least so far -/
def MN (X : Int → Int) (i l : Int) : Prop := (-30 ≤ l ∧ l ≤ 30) ∧ (∀ k, 0 ≤ k → k < i → l ≤ X k) ∧ (l = 30 ∨ ∃ k, 0 ≤ k ∧ k < i ∧ X k = l)
theorem MN.s {X : Int → Int} {i l : Int} (h : MN X i l) (i0 : 0 ≤ i) (r : -30 ≤ X i ∧ X i ≤ 30) : MN X (i + 1) (if X i < l then X i else l) := by
  obtain ⟨a, b, c⟩ := h
  by_cases q : X i < l
  · rw [if_pos q]
    refine ⟨r, fun k k0 k1 => ?_, Or.inr ⟨i, i0, by omega, rfl⟩⟩
    by_cases e : k = i
    · rw [e]; omega
    · have := b k k0 (by omega); omega
  · rw [if_neg q]
    refine ⟨a, fun k k0 k1 => ?_, ?_⟩
    · by_cases e : k = i
      · rw [e]; omega
      · exact b k k0 (by omega)
    · rcases c with c | ⟨k, k0, k1, k2⟩
      · exact Or.inl c
      · exact Or.inr ⟨k, k0, by omega, k2⟩
theorem MN.fin {X : Int → Int} {n l : Int} (h : MN X n l) (r : ∀ k, 0 ≤ k → k < n → X k ≤ 30) (n0 : 0 < n) : ∃ k, 0 ≤ k ∧ k < n ∧ X k = l := by
  obtain ⟨a, b, c⟩ := h
  rcases c with c | c
  · have := b 0 (by omega) n0
    have := r 0 (by omega) n0
    exact ⟨0, by omega, n0, by omega⟩
  · exact c
theorem c_writeF {a b : Nat} {q o : Int} {s : SS} {Q : tM → Prop} (sa : shF a) (sb : shS b) (hab : b + 3 < a) (hr : RepC (m b 3) (m (b + 1)) (m (b + 2)) (m (b + 3)) s) (hw : WF s) (q0 : 0 ≤ q) (q1 : q < 4) (ho : o = 0 ∨ o = 1) (h : ∀ m', (∀ c, c ≠ a + 2 → c ≠ a + 3 → m' c = m c) → FW (gS q o s) (m b 3) (m' (a + 2)) → Q m') : Clv mX4_write [rV a, rV b, iV q, iV o] m Q := by
  generalize hn : m b 3 = n at hr h
  have n0 := hr.1.1
  have n1 := hr.1.2.1
  have rr := hr.1.rch hw
  generalize hX1 : m (b + 1) = X1 at hr rr
  generalize hY1 : m (b + 2) = Y1 at hr rr
  generalize hC1 : m (b + 3) = C1 at hr
  have gr : ∀ k, 0 ≤ k → k < n → (-30 ≤ gX q o (X1 k) (Y1 k) ∧ gX q o (X1 k) (Y1 k) ≤ 30) ∧ (-30 ≤ gY q o (X1 k) (Y1 k) ∧ gY q o (X1 k) (Y1 k) ≤ 30) := fun k k0 k1 => gX_r q0 q1 (rr k k0 k1).1 (rr k k0 k1).2
  -- what the rows are, whatever the form's rows hold
  have tX : ∀ {m' : tM} {k : Int} {K : Int → tM → Prop}, (∀ c, c ≠ a + 2 → c ≠ a + 3 → m' c = m c) → 0 ≤ k → k < n → K (gX q o (X1 k) (Y1 k)) m' → Cli mX8_turnedX [rV b, iV k, iV q, iV o] m' K := fun {m' k K} fr k0 k1 hk => by
    have ex : m' (b + 1) = X1 := by rw [fr _ (by omega) (by omega), hX1]
    have ey : m' (b + 2) = Y1 := by rw [fr _ (by omega) (by omega), hY1]
    exact c_turnedX sb k0 (by omega) (by rw [ex]; exact (rr k k0 k1).1) (by rw [ey]; exact (rr k k0 k1).2) q0 q1 (by rw [ex, ey]; exact hk)
  have tY : ∀ {m' : tM} {k : Int} {K : Int → tM → Prop}, (∀ c, c ≠ a + 2 → c ≠ a + 3 → m' c = m c) → 0 ≤ k → k < n → K (gY q o (X1 k) (Y1 k)) m' → Cli mX8_turnedY [rV b, iV k, iV q, iV o] m' K := fun {m' k K} fr k0 k1 hk => by
    have ex : m' (b + 1) = X1 := by rw [fr _ (by omega) (by omega), hX1]
    have ey : m' (b + 2) = Y1 := by rw [fr _ (by omega) (by omega), hY1]
    exact c_turnedY sb k0 (by omega) (by rw [ex]; exact (rr k k0 k1).1) (by rw [ey]; exact (rr k k0 k1).2) q0 q1 (by rw [ex, ey]; exact hk)
  refine wX4_write_0 ?_
  have key := up_ind (n := n) (fun i => ∀ lx ly, MN (fun k => gX q o (X1 k) (Y1 k)) i lx → MN (fun k => gY q o (X1 k) (Y1 k)) i ly → Tj mX4_write 11 [some (rV a), some (rV b), some (iV q), some (iV o), some (iV lx), some (iV ly), some (iV i)] [] m (fun r m' => r = none ∧ Q m')) ?_ ?_ (i := 0) (by omega) n0
  · exact key 30 30 ⟨by omega, fun k _ _ => by omega, Or.inl rfl⟩ ⟨by omega, fun k _ _ => by omega, Or.inl rfl⟩
  · intro lx ly hx hy
    refine wX4_write_11 sb.1 (c_size sb ⟨fun g => absurd g (by rw [hn]; omega), fun _ => ?_⟩)
    have bx := hx.2.1
    have bY := hy.2.1
    -- the keys
    have kfb : ∀ k, 0 ≤ k → k < n → (0 ≤ gX q o (X1 k) (Y1 k) - lx ∧ gX q o (X1 k) (Y1 k) - lx ≤ 60) ∧ (0 ≤ gY q o (X1 k) (Y1 k) - ly ∧ gY q o (X1 k) (Y1 k) - ly ≤ 60) := fun k k0 k1 => by
      have := bx k k0 k1
      have := bY k k0 k1
      have := gr k k0 k1
      have := hx.1
      have := hy.1
      simp only at *
      omega
    generalize hkf : (fun k => 4096 * (gY q o (X1 k) (Y1 k) - ly) + 64 * (gX q o (X1 k) (Y1 k) - lx) + k : Int → Int) = kf
    have kfe : ∀ k, kf k = 4096 * (gY q o (X1 k) (Y1 k) - ly) + 64 * (gX q o (X1 k) (Y1 k) - lx) + k := fun k => by rw [← hkf]
    have key2 := up_ind (n := n) (fun i => ∀ K, KSI kf i K → Tj mX4_write 59 [some (rV a), some (rV b), some (iV q), some (iV o), some (iV lx), some (iV ly), some (iV i)] [] (sr m (a + 3) K) (fun r m' => r = none ∧ Q m')) ?_ ?_ (i := 0) (by omega) n0
    · have := key2 (m (a + 3)) ⟨fun j j0 j1 => by omega, fun k k0 k1 => by omega, fun j l j0 jl l1 => by omega⟩
      rw [sr_self] at this
      exact this
    · intro K hK
      have f3 : ∀ c, c ≠ a + 3 → (sr m (a + 3) K) c = m c := fun c hc => sr_ne _ _ hc
      refine wX4_write_59 sa.1 sb.1 (c_size sb ⟨fun g => absurd g (by rw [f3 b (by omega), hn]; omega), fun _ => ?_⟩)
      generalize hm2 : sr m (a + 3) K = m2 at f3
      have eK : m2 (a + 3) = K := by rw [← hm2, sr_eq]
      -- the rows
      have dec : ∀ j, 0 ≤ j → j < n → ∃ k, 0 ≤ k ∧ k < n ∧ K j = kf k ∧ K j / 4096 = gY q o (X1 k) (Y1 k) - ly ∧ K j / 64 % 64 = gX q o (X1 k) (Y1 k) - lx ∧ K j % 64 = k ∧ (0 ≤ K j ∧ K j < 1000000) := fun j j0 j1 => by
        obtain ⟨k, k0, k1, k2⟩ := hK.1 j j0 j1
        have b := kfb k k0 k1
        have e := kfe k
        rw [k2]
        exact ⟨k, k0, k1, rfl, by omega, by omega, by omega, by omega, by omega⟩
      have key3 := up_ind (n := n) (fun i => ∀ m', (∀ c, c ≠ a + 2 → m' c = m2 c) → (∀ j, 0 ≤ j → j < i → m' (a + 2) (4 * j) = K j / 4096 ∧ m' (a + 2) (4 * j + 1) = K j / 64 % 64 ∧ m' (a + 2) (4 * j + 2) = C1 (4 * (K j % 64) + bd q o 0) ∧ m' (a + 2) (4 * j + 3) = C1 (4 * (K j % 64) + bd q o 1)) → Tj mX4_write 123 [some (rV a), some (rV b), some (iV q), some (iV o), none, none, some (iV i)] [] m' (fun r m' => r = none ∧ Q m')) ?_ ?_ (i := 0) (by omega) n0
      · exact key3 m2 (fun _ _ => rfl) (fun j j0 j1 => by omega)
      · intro m' fr hrow
        refine wX4_write_123 sa.1 sa.2.2.1 sa.2.2.2 sb.1 (c_size sb ⟨fun g => absurd g (by rw [fr b (by omega), f3 b (by omega), hn]; omega), fun _ => ⟨rfl, h m' (fun c c1 c2 => by rw [fr c c1, f3 c c2]) ?_⟩⟩)
        have inv : ∀ k, hX q o (gX q o (X1 k) (Y1 k)) (gY q o (X1 k) (Y1 k)) = X1 k ∧ hY q (gX q o (X1 k) (Y1 k)) (gY q o (X1 k) (Y1 k)) = Y1 k := fun k => gh q0 q1 ho (X1 k) (Y1 k)
        refine ⟨fun j => K j / 64 % 64 + lx, fun j => K j / 4096 + ly, lx, ly, ⟨n0, n1, fun i j i0 ij j1 => ?_, fun x y => ?_⟩, fun j j0 j1 => ?_, fun np => ⟨?_, ?_⟩, fun j j0 j1 => ?_⟩
        · obtain ⟨k, k0, k1, k2, k3, k4, k5, k6⟩ := dec i i0 (by omega)
          obtain ⟨l, l0, l1, l2, l3, l4, l5, l6⟩ := dec j (by omega) j1
          have lt := hK.2.2 i j i0 ij j1
          by_cases e : gX q o (X1 k) (Y1 k) = gX q o (X1 l) (Y1 l) ∧ gY q o (X1 k) (Y1 k) = gY q o (X1 l) (Y1 l)
          · have ik := inv k
            have il := inv l
            rw [e.1, e.2] at ik
            have := srt_inj hr.1.2.2.1 k0 k1 l0 l1 (by rw [← ik.1, il.1]) (by rw [← ik.2, il.2])
            subst this
            omega
          · have a1 := kfe k
            have a2 := kfe l
            have b1 := kfb k k0 k1
            have b2 := kfb l l0 l1
            show K i / 4096 + ly < K j / 4096 + ly ∨ (K i / 4096 + ly = K j / 4096 + ly ∧ K i / 64 % 64 + lx < K j / 64 % 64 + lx)
            rw [k3, k4, l3, l4]
            omega
        · show s.1 (hX q o x y) (hY q x y) ↔ _
          rw [hr.1.2.2.2]
          constructor
          · rintro ⟨k, k0, k1, k2, k3⟩
            obtain ⟨j, j0, j1, j2⟩ := hK.2.1 k k0 k1
            obtain ⟨l, l0, l1, l2, l3, l4, l5, l6⟩ := dec j j0 j1
            have e := kfe k
            have b1 := kfb k k0 k1
            have lk : l = k := by rw [← l5, j2]; omega
            subst lk
            have hgx := hg q0 q1 ho x y
            rw [← k2, ← k3] at hgx
            exact ⟨j, j0, j1, by show K j / 64 % 64 + lx = x; rw [l4, hgx.1]; omega, by show K j / 4096 + ly = y; rw [l3, hgx.2]; omega⟩
          · rintro ⟨j, j0, j1, j2, j3⟩
            obtain ⟨l, l0, l1, l2, l3, l4, l5, l6⟩ := dec j j0 j1
            have ex : gX q o (X1 l) (Y1 l) = x := by
              have : K j / 64 % 64 + lx = x := j2
              omega
            have ey : gY q o (X1 l) (Y1 l) = y := by
              have : K j / 4096 + ly = y := j3
              omega
            have il := inv l
            rw [ex, ey] at il
            exact ⟨l, l0, l1, il.1.symm, il.2.symm⟩
        · obtain ⟨l, l0, l1, l2, l3, l4, l5, l6⟩ := dec j j0 j1
          have b1 := kfb l l0 l1
          show lx ≤ K j / 64 % 64 + lx ∧ ly ≤ K j / 4096 + ly
          omega
        · obtain ⟨k, k0, k1, k2⟩ := hx.fin (fun k k0 k1 => (gr k k0 k1).1.2) np
          obtain ⟨j, j0, j1, j2⟩ := hK.2.1 k k0 k1
          obtain ⟨l, l0, l1, l2, l3, l4, l5, l6⟩ := dec j j0 j1
          have e := kfe k
          have b1 := kfb k k0 k1
          have lk : l = k := by rw [← l5, j2]; omega
          subst lk
          refine ⟨j, j0, j1, ?_⟩
          show K j / 64 % 64 + lx = lx
          omega
        · obtain ⟨k, k0, k1, k2⟩ := hy.fin (fun k k0 k1 => (gr k k0 k1).2.2) np
          obtain ⟨j, j0, j1, j2⟩ := hK.2.1 k k0 k1
          obtain ⟨l, l0, l1, l2, l3, l4, l5, l6⟩ := dec j j0 j1
          have e := kfe k
          have b1 := kfb k k0 k1
          have lk : l = k := by rw [← l5, j2]; omega
          subst lk
          refine ⟨j, j0, j1, ?_⟩
          show K j / 4096 + ly = ly
          omega
        · obtain ⟨l, l0, l1, l2, l3, l4, l5, l6⟩ := dec j j0 j1
          obtain ⟨w1, w2, w3, w4⟩ := hrow j j0 j1
          have bb : ∀ d, 0 ≤ bd q o d ∧ bd q o d < 4 := fun d => by unfold bd; split <;> omega
          have il := inv l
          have px : K j / 64 % 64 + lx = gX q o (X1 l) (Y1 l) := by omega
          have py : K j / 4096 + ly = gY q o (X1 l) (Y1 l) := by omega
          refine ⟨by rw [w1]; show _ = K j / 4096 + ly - ly; omega, by rw [w2]; show _ = K j / 64 % 64 + lx - lx; omega, ?_, ?_⟩
          · rw [w3, l5, hr.2 l _ l0 l1 (bb 0).1 (bb 0).2]
            show _ = s4 s (hX q o (K j / 64 % 64 + lx) (K j / 4096 + ly)) (hY q (K j / 64 % 64 + lx) (K j / 4096 + ly)) (bd q o 0)
            rw [px, py, il.1, il.2]
          · rw [w4, l5, hr.2 l _ l0 l1 (bb 1).1 (bb 1).2]
            show _ = s4 s (hX q o (K j / 64 % 64 + lx) (K j / 4096 + ly)) (hY q (K j / 64 % 64 + lx) (K j / 4096 + ly)) (bd q o 1)
            rw [px, py, il.1, il.2]
      · intro i i0 i1 ih m' fr hrow
        obtain ⟨l, l0, l1, l2, l3, l4, l5, l6⟩ := dec i i0 i1
        have eb : m' b 3 = n := by rw [fr b (by omega), f3 b (by omega), hn]
        have e3 : m' (a + 3) = K := by rw [fr _ (by omega), eK]
        have rk : R32 (K i) := by constructor <;> omega
        have s12 : bShr (K i) 12 = K i / 4096 := bShr_div rk (by omega) (by omega)
        have s6 : bShr (K i) 6 = K i / 64 := bShr_div rk (by omega) (by omega)
        have s63 : bAnd (K i) 63 = K i % 64 := bAnd_63 rk
        have s663 : bAnd (bShr (K i) 6) 63 = K i / 64 % 64 := by rw [bAnd_63 (show R32 (bShr (K i) 6) from tr_of _), s6]
        refine wX4_write_123 sa.1 sa.2.2.1 sa.2.2.2 sb.1 (c_size sb ⟨fun _ => ?_, fun g => absurd (by rw [eb]; exact i1) g⟩)
        rw [e3]
        refine ⟨⟨i0, by omega, by constructor <;> omega, by omega, by omega, by constructor <;> omega⟩, fun v hv => ?_⟩
        have ev : v = K i := by rw [hv, up_ne _ _ _ (by omega), e3]
        rw [ev, s12, s63, s663]
        refine ⟨⟨by omega, by omega, by constructor <;> omega⟩, ?_⟩
        generalize hma : up (up m' (a + 2) (4 * i) (K i / 4096)) (a + 2) (4 * i + 1) (K i / 64 % 64) = ma
        have fa : ∀ c, c ≠ a + 2 → ma c = m' c := fun c hc => by rw [← hma, up_ne _ _ _ hc, up_ne _ _ _ hc]
        have cb : ma (b + 3) = C1 := by rw [fa _ (by omega), fr _ (by omega), f3 _ (by omega), hC1]
        refine c_turnedCrease sb (by omega) (by omega) (by omega) (by omega) q0 q1 ⟨⟨by omega, by omega, by constructor <;> omega⟩, ?_⟩
        rw [cb]
        generalize hmb : up ma (a + 2) (4 * i + 2) (C1 (4 * (K i % 64) + bd q o 0)) = mb
        have fb : ∀ c, c ≠ a + 2 → mb c = m' c := fun c hc => by rw [← hmb, up_ne _ _ _ hc, fa c hc]
        have cb2 : mb (b + 3) = C1 := by rw [fb _ (by omega), fr _ (by omega), f3 _ (by omega), hC1]
        refine c_turnedCrease sb (by omega) (by omega) (by omega) (by omega) q0 q1 ⟨⟨by omega, by omega, by constructor <;> omega⟩, ?_⟩
        rw [cb2]
        have e2 : ∀ j, (up mb (a + 2) (4 * i + 3) (C1 (4 * (K i % 64) + bd q o 1))) (a + 2) j = if j = 4 * i + 3 then C1 (4 * (K i % 64) + bd q o 1) else if j = 4 * i + 2 then C1 (4 * (K i % 64) + bd q o 0) else if j = 4 * i + 1 then K i / 64 % 64 else if j = 4 * i then K i / 4096 else m' (a + 2) j := fun j => by
          by_cases g3 : j = 4 * i + 3
          · rw [if_pos g3, g3, up_at]
          · rw [if_neg g3, up_at_ne _ _ _ g3, ← hmb]
            by_cases g2 : j = 4 * i + 2
            · rw [if_pos g2, g2, up_at]
            · rw [if_neg g2, up_at_ne _ _ _ g2, ← hma]
              by_cases g1 : j = 4 * i + 1
              · rw [if_pos g1, g1, up_at]
              · rw [if_neg g1, up_at_ne _ _ _ g1]
                by_cases g0 : j = 4 * i
                · rw [if_pos g0, g0, up_at]
                · rw [if_neg g0, up_at_ne _ _ _ g0]
        refine ih _ (fun c hc => by rw [up_ne _ _ _ hc, fb c hc, fr c hc]) (fun j j0 j1 => ?_)
        rw [e2, e2, e2, e2]
        by_cases q : j = i
        · subst q
          rw [if_neg (by omega), if_neg (by omega), if_neg (by omega), if_pos rfl, if_neg (by omega), if_neg (by omega), if_pos rfl, if_neg (by omega), if_pos rfl, if_pos rfl]
          exact ⟨rfl, rfl, rfl, rfl⟩
        · rw [if_neg (by omega), if_neg (by omega), if_neg (by omega), if_neg (by omega), if_neg (by omega), if_neg (by omega), if_neg (by omega), if_neg (by omega), if_neg (by omega), if_neg (by omega), if_neg (by omega), if_neg (by omega), if_neg (by omega), if_neg (by omega), if_neg (by omega), if_neg (by omega)]
          exact hrow j j0 (by omega)
    · intro i i0 i1 ih K hK
      have f3 : ∀ c, c ≠ a + 2 → c ≠ a + 3 → (sr m (a + 3) K) c = m c := fun c _ hc => sr_ne _ _ hc
      have b1 := kfb i i0 i1
      refine wX4_write_59 sa.1 sb.1 (c_size sb ⟨fun _ => tX f3 i0 i1 ⟨by constructor <;> omega, tY f3 i0 i1 ⟨by constructor <;> omega, ?_⟩⟩, fun g => absurd (by rw [f3 b (by omega) (by omega), hn]; exact i1) g⟩)
      rw [key_val (by omega) (by omega) (by omega) (by omega) i0 (by omega), ← kfe i]
      refine c_insertKey sa i0 (by omega) (fun p p0 p1 hi lo => ⟨by constructor <;> omega, ?_⟩)
      rw [sr_eq] at hi lo ⊢
      rw [sr_sr]
      refine ih _ (hK.ins i0 (fun k k0 k1 e => ?_) p0 p1 hi lo)
      have a1 := kfe k
      have a2 := kfe i
      have b2 := kfb k k0 (by omega)
      omega
  · intro i i0 i1 ih lx ly hx hy
    have f0 : ∀ c, c ≠ a + 2 → c ≠ a + 3 → m c = m c := fun _ _ _ => rfl
    have g := gr i i0 i1
    refine wX4_write_11 sb.1 (c_size sb ⟨fun _ => tX f0 i0 i1 (tY f0 i0 i1 ⟨by constructor <;> omega, ih _ _ (hx.s i0 g.1) (hy.s i0 g.2)⟩), fun g => absurd (by rw [hn]; exact i1) g⟩)
end C9u
