/-! the relation between the class's cells and the reference's: bodies, edges, sheets, history -/
def BR (l t c : Int → Int) : Prop := ∀ z, 0 ≤ z → z < 4 → (t z = 0 ∧ l z = -1 ∧ ∀ p, 0 ≤ p → p < 16 → c (16 * z + p) = 0) ∨ (t z = 1 ∧ 0 ≤ l z ∧ l z < 65536 ∧ ∀ p, 0 ≤ p → p < 16 → c (16 * z + p) = l z / 2 ^ p.toNat % 2)
def ER (c sd ct : Int → Int) : Prop := (∀ q, 0 ≤ q → q < 240 → 0 ≤ sd q ∧ sd q < 16 ∧ ∀ s, 0 ≤ s → s < 4 → ct (4 * q + s) = sd q / 2 ^ s.toNat % 2) ∧ (∀ k, 960 ≤ k → k < 1536 → ct k = 0) ∧ SYM c ct
def SHR (n : Int) (xs ys cr : Int → Int) (n' : Int) (X Y R U : Int → Int) : Prop := ∃ s, WF s ∧ RepC n xs ys cr s ∧ RepM n' X Y R U s
def STR (l sd : Int → Int) (n : Int) (xs ys cr t c ct : Int → Int) (n' : Int) (X Y R U : Int → Int) : Prop := BR l t c ∧ ER c sd ct ∧ SHR n xs ys cr n' X Y R U
theorem BR.congr {l t c l' t' c' : Int → Int} (h : BR l t c) (h1 : ∀ z, 0 ≤ z → z < 4 → l' z = l z) (h2 : ∀ z, 0 ≤ z → z < 4 → t' z = t z) (h3 : ∀ z, 0 ≤ z → z < 64 → c' z = c z) : BR l' t' c' := by
  intro z z0 z1
  rw [h1 z z0 z1, h2 z z0 z1]
  rcases h z z0 z1 with ⟨a, b, d⟩ | ⟨a, b, b2, d⟩
  · exact Or.inl ⟨a, b, fun p p0 p1 => by rw [h3 _ (by omega) (by omega)]; exact d p p0 p1⟩
  · exact Or.inr ⟨a, b, b2, fun p p0 p1 => by rw [h3 _ (by omega) (by omega)]; exact d p p0 p1⟩
theorem ER.congr {c sd ct c' sd' ct' : Int → Int} (h : ER c sd ct) (h0 : ∀ z, 0 ≤ z → z < 64 → c' z = c z) (h1 : ∀ z, 0 ≤ z → z < 240 → sd' z = sd z) (h2 : ∀ z, 0 ≤ z → z < 1536 → ct' z = ct z) : ER c' sd' ct' := by
  refine ⟨fun q q0 q1 => ?_, fun k k0 k1 => by rw [h2 k (by omega) k1]; exact h.2.1 k k0 k1, h.2.2.congr h0 h2⟩
  obtain ⟨a, b, d⟩ := h.1 q q0 q1
  rw [h1 q q0 q1]
  exact ⟨a, b, fun s s0 s1 => by rw [h2 _ (by omega) (by omega)]; exact d s s0 s1⟩
theorem srt.congr {n : Int} {X Y X' Y' : Int → Int} (h : srt n X Y) (h1 : ∀ k, 0 ≤ k → k < n → X' k = X k) (h2 : ∀ k, 0 ≤ k → k < n → Y' k = Y k) : srt n X' Y' := by
  intro i j i0 ij j1
  rw [h1 i i0 (by omega), h1 j (by omega) j1, h2 i i0 (by omega), h2 j (by omega) j1]
  exact h i j i0 ij j1
theorem RepI.congr {n : Int} {X Y X' Y' : Int → Int} {S : Int → Int → Prop} (h : RepI n X Y S) (h1 : ∀ k, 0 ≤ k → k < n → X' k = X k) (h2 : ∀ k, 0 ≤ k → k < n → Y' k = Y k) : RepI n X' Y' S := by
  refine ⟨h.1, h.2.1, h.2.2.1.congr h1 h2, fun x y => (h.2.2.2 x y).trans ⟨?_, ?_⟩⟩
  · rintro ⟨k, k0, k1, k2, k3⟩
    exact ⟨k, k0, k1, (h1 k k0 k1).trans k2, (h2 k k0 k1).trans k3⟩
  · rintro ⟨k, k0, k1, k2, k3⟩
    exact ⟨k, k0, k1, (h1 k k0 k1).symm.trans k2, (h2 k k0 k1).symm.trans k3⟩
theorem RepC.congr {n : Int} {X Y C X' Y' C' : Int → Int} {s : SS} (h : RepC n X Y C s) (h1 : ∀ k, 0 ≤ k → k < n → X' k = X k) (h2 : ∀ k, 0 ≤ k → k < n → Y' k = Y k) (h3 : ∀ k, 0 ≤ k → k < 4 * n → C' k = C k) : RepC n X' Y' C' s := by
  refine ⟨h.1.congr h1 h2, fun k d k0 k1 d0 d1 => ?_⟩
  rw [h3 _ (by omega) (by omega), h1 k k0 k1, h2 k k0 k1]
  exact h.2 k d k0 k1 d0 d1
theorem RepM.congr {n : Int} {X Y R U X' Y' R' U' : Int → Int} {s : SS} (h : RepM n X Y R U s) (h1 : ∀ k, 0 ≤ k → k < n → X' k = X k) (h2 : ∀ k, 0 ≤ k → k < n → Y' k = Y k) (h3 : ∀ k, 0 ≤ k → k < n → R' k = R k) (h4 : ∀ k, 0 ≤ k → k < n → U' k = U k) : RepM n X' Y' R' U' s := by
  refine ⟨h.1.congr h1 h2, fun k k0 k1 => ?_⟩
  rw [h3 k k0 k1, h4 k k0 k1, h1 k k0 k1, h2 k k0 k1]
  exact h.2 k k0 k1
abbrev Cur (m : tM) : Prop := STR (m 3) (m 5) (m 6 3) (m 7) (m 8) (m 9) (m 146) (m 147) (m 148) (m 145 4) (m 149) (m 150) (m 151) (m 152)
abbrev Snp (m : tM) (i : Nat) (o : Int) : Prop := STR (m (12 + 9 * i + 2)) (m (12 + 9 * i + 4)) (m (12 + 9 * i + 5) 3) (m (12 + 9 * i + 6)) (m (12 + 9 * i + 7)) (m (12 + 9 * i + 8)) (fun z => m 155 (o + z)) (fun z => m 155 (o + 4 + z)) (fun z => m 155 (o + 68 + z)) (m 155 (o + 1604)) (fun z => m 155 (o + 1605 + z)) (fun z => m 155 (o + 1665 + z)) (fun z => m 155 (o + 1725 + z)) (fun z => m 155 (o + 1785 + z))
def HisR (m : tM) : Prop := (0 ≤ m 10 1 ∧ m 10 1 < 8) ∧ (0 ≤ m 10 2 ∧ m 10 2 ≤ 8) ∧ m 145 13 = m 10 2 ∧ (0 ≤ m 145 12 ∧ m 145 12 < 8) ∧ (∀ i, 0 ≤ i → i < m 10 2 → Snp m ((m 10 1 + i) % 8).toNat (1860 * ((m 145 12 - m 10 2 + i) % 8))) ∧ (∀ i : Nat, i < 8 → 0 ≤ m (12 + 9 * i + 5) 3 ∧ m (12 + 9 * i + 5) 3 ≤ 60)
theorem Snp.keep {m m' : tM} {i : Nat} {o : Int} (h : Snp m i o) (h1 : ∀ c, 12 + 9 * i + 2 ≤ c → c ≤ 12 + 9 * i + 8 → m' c = m c) (h2 : ∀ z, 0 ≤ z → z < 1845 → m' 155 (o + z) = m 155 (o + z)) : Snp m' i o := by
  obtain ⟨hb, he, s, w, rc, rm⟩ := h
  refine ⟨hb.congr (fun z _ _ => by rw [h1 _ (by omega) (by omega)]) (fun z z0 z1 => h2 z z0 (by omega)) (fun z z0 z1 => by show m' 155 (o + 4 + z) = m 155 (o + 4 + z); rw [Int.add_assoc]; exact h2 _ (by omega) (by omega)), he.congr (fun z z0 z1 => by show m' 155 (o + 4 + z) = m 155 (o + 4 + z); rw [Int.add_assoc]; exact h2 _ (by omega) (by omega)) (fun z _ _ => by rw [h1 _ (by omega) (by omega)]) (fun z z0 z1 => by show m' 155 (o + 68 + z) = m 155 (o + 68 + z); rw [Int.add_assoc]; exact h2 _ (by omega) (by omega)), s, w, ?_, ?_⟩
  · rw [h1 (12 + 9 * i + 5) (by omega) (by omega), h1 (12 + 9 * i + 6) (by omega) (by omega), h1 (12 + 9 * i + 7) (by omega) (by omega), h1 (12 + 9 * i + 8) (by omega) (by omega)]
    exact rc
  · have n60 := rm.1.2.1
    rw [show m' 155 (o + 1604) = m 155 (o + 1604) from h2 1604 (by omega) (by omega)]
    refine rm.congr (fun z z0 z1 => ?_) (fun z z0 z1 => ?_) (fun z z0 z1 => ?_) (fun z z0 z1 => ?_)
    · show m' 155 (o + 1605 + z) = m 155 (o + 1605 + z); rw [Int.add_assoc]; exact h2 _ (by omega) (by omega)
    · show m' 155 (o + 1665 + z) = m 155 (o + 1665 + z); rw [Int.add_assoc]; exact h2 _ (by omega) (by omega)
    · show m' 155 (o + 1725 + z) = m 155 (o + 1725 + z); rw [Int.add_assoc]; exact h2 _ (by omega) (by omega)
    · show m' 155 (o + 1785 + z) = m 155 (o + 1785 + z); rw [Int.add_assoc]; exact h2 _ (by omega) (by omega)
theorem HisR.congr {m m' : tM} (h : HisR m) (h1 : ∀ c, 10 ≤ c → c ≤ 83 → m' c = m c) (h2 : m' 155 = m 155) (h3 : m' 145 12 = m 145 12) (h4 : m' 145 13 = m 145 13) : HisR m' := by
  obtain ⟨a, b, c, d, e, f⟩ := h
  have e10 := h1 10 (by omega) (by omega)
  refine ⟨by rw [e10]; exact a, by rw [e10]; exact b, by rw [h4, e10]; exact c, by rw [h3]; exact d, fun i i0 i1 => ?_, fun i hi => ?_⟩
  · rw [e10] at i1 ⊢
    rw [h3]
    exact Snp.keep (e i i0 i1) (fun c c0 c1 => h1 c (by omega) (by omega)) (fun z _ _ => by rw [h2])
  · rw [h1 _ (by omega) (by omega)]; exact f i hi
/-- a state copied to the ring, and to a block -/
theorem Snp.of {m m1 m2 : tM} {b : Nat} {i : Nat} {o : Int} (hb : b = 12 + 9 * i) (h : Cur m) (hk : BE m m1 b 1) (hm : BLK (m2 155) o m) (hr : ∀ c, b + 2 ≤ c → c ≤ b + 8 → m2 c = m1 c) : Snp m2 i o := by
  subst hb
  obtain ⟨k1, k2, k3, k4, k5, k6, k7⟩ := hk
  obtain ⟨b1, b2, b3, b4, b5, b6, b7, b8⟩ := hm
  obtain ⟨hB, hE, s, w, rc, rm⟩ := h
  have n60 := rm.1.2.1
  refine ⟨hB.congr (fun z z0 z1 => by rw [hr _ (by omega) (by omega)]; exact k2 z z0 z1) (fun z z0 z1 => b1 z z0 z1) (fun z z0 z1 => b2 z z0 z1), hE.congr (fun z z0 z1 => b2 z z0 z1) (fun z z0 z1 => by rw [hr _ (by omega) (by omega)]; exact k3 z z0 z1) (fun z z0 z1 => b3 z z0 z1), s, w, ?_, ?_⟩
  · have e : m2 (12 + 9 * i + 5) 3 = m 6 3 := by rw [hr _ (by omega) (by omega)]; exact k4
    rw [e]
    exact rc.congr (fun z z0 z1 => by rw [hr _ (by omega) (by omega)]; exact k5 z z0 z1) (fun z z0 z1 => by rw [hr _ (by omega) (by omega)]; exact k6 z z0 z1) (fun z z0 z1 => by rw [hr _ (by omega) (by omega)]; exact k7 z z0 z1)
  · rw [b4]
    exact rm.congr (fun z z0 z1 => b5 z z0 (by omega)) (fun z z0 z1 => b6 z z0 (by omega)) (fun z z0 z1 => b7 z z0 (by omega)) (fun z z0 z1 => b8 z z0 (by omega))
/-- kept on both sides -/
theorem HisR.keep {m mk m1 m2 : tM} (h : HisR m) (hc : Cur m) (hk : KP m mk) (g1 : ∀ c, 10 ≤ c → c ≤ 83 → m1 c = mk c) (g2 : ∀ c, 146 ≤ c → m1 c = m c) (g3 : ∀ j, j ≠ 0 → m1 145 j = m 145 j) (hm : KM m1 m2) : HisR m2 := by
  obtain ⟨a, b, c, d, e, f⟩ := h
  obtain ⟨mb, kb, kk⟩ := hk
  obtain ⟨r1, r2, r3, r4, r5, r6⟩ := hm
  have E12 := g3 12 (by omega)
  have E13 := g3 13 (by omega)
  have E155 := g2 155 (by omega)
  rw [E12] at r3 r5 r6
  rw [E13] at r4
  rw [E155] at r5
  have blk : BLK (m2 155) (1860 * m 145 12) m := by
    obtain ⟨b1, b2, b3, b4, b5, b6, b7, b8⟩ := r6
    rw [g2 146 (by omega)] at b1
    rw [g2 147 (by omega)] at b2
    rw [g2 148 (by omega)] at b3
    rw [g3 4 (by omega)] at b4
    rw [g2 149 (by omega)] at b5
    rw [g2 150 (by omega)] at b6
    rw [g2 151 (by omega)] at b7
    rw [g2 152 (by omega)] at b8
    exact ⟨b1, b2, b3, b4, b5, b6, b7, b8⟩
  generalize hi : ((m 10 1 + m 10 2) % 8).toNat = w at kb
  have hw : w < 8 := by omega
  have rows : ∀ c, 10 ≤ c → c ≤ 83 → c ≠ 10 → m2 c = mb c := fun c c0 c1 c2 => by
    rw [r1 c (by omega) (by omega), g1 c c0 c1, kk]
    split
    · exact up_ne _ _ _ c2
    · exact up_ne _ _ _ c2
  have other : ∀ c, 10 ≤ c → c ≤ 83 → c ≠ 10 → (c < 12 + 9 * w + 2 ∨ 12 + 9 * w + 8 < c) → m2 c = m c := fun c c0 c1 c2 c3 => by rw [rows c c0 c1 c2]; exact kb.1 c c3
  have m10 : mb 10 = m 10 := kb.1 10 (by omega)
  have new : Snp m2 w (1860 * m 145 12) := Snp.of rfl hc kb blk (fun c c0 c1 => rows c (by omega) (by omega) (by omega))
  have old : ∀ i, 0 ≤ i → i < m 10 2 → ((m 10 1 + i) % 8).toNat ≠ w → (m 145 12 - m 10 2 + i) % 8 ≠ m 145 12 → Snp m2 ((m 10 1 + i) % 8).toNat (1860 * ((m 145 12 - m 10 2 + i) % 8)) := fun i i0 i1 n1 n2 =>
    Snp.keep (e i i0 i1) (fun c c0 c1 => other c (by omega) (by omega) (by omega) (by omega)) (fun z z0 z1 => r5 _ (by omega))
  have fin : ∀ i : Nat, i < 8 → 0 ≤ m2 (12 + 9 * i + 5) 3 ∧ m2 (12 + 9 * i + 5) 3 ≤ 60 := fun i hi8 => by
    by_cases q : i = w
    · subst q
      rw [rows _ (by omega) (by omega) (by omega), kb.2.2.2.1]
      obtain ⟨-, -, s, -, rc, -⟩ := hc
      exact ⟨rc.1.1, rc.1.2.1⟩
    · rw [other _ (by omega) (by omega) (by omega) (by omega)]; exact f i hi8
  by_cases q : m 10 2 < 8
  · rw [if_pos q] at kk
    have t1 : m2 10 1 = m 10 1 := by rw [r1 10 (by omega) (by omega), g1 10 (by omega) (by omega), kk, up_at_ne _ _ _ (by omega), m10]
    have t2 : m2 10 2 = m 10 2 + 1 := by rw [r1 10 (by omega) (by omega), g1 10 (by omega) (by omega), kk, up_at]
    rw [c, if_pos q] at r4
    refine ⟨by rw [t1]; exact a, by rw [t2]; omega, by rw [r4, t2], by rw [r3]; omega, fun i i0 i1 => ?_, fin⟩
    rw [t2] at i1 ⊢
    rw [t1, r3]
    by_cases q2 : i = m 10 2
    · subst q2
      rw [hi, show ((m 145 12 + 1) % 8 - (m 10 2 + 1) + m 10 2) % 8 = m 145 12 by omega]
      exact new
    · have := old i i0 (by omega) (by omega) (by omega)
      rw [show ((m 145 12 + 1) % 8 - (m 10 2 + 1) + i) % 8 = (m 145 12 - m 10 2 + i) % 8 by omega]
      exact this
  · rw [if_neg q] at kk
    have t1 : m2 10 1 = (m 10 1 + 1) % 8 := by rw [r1 10 (by omega) (by omega), g1 10 (by omega) (by omega), kk, up_at]
    have t2 : m2 10 2 = m 10 2 := by rw [r1 10 (by omega) (by omega), g1 10 (by omega) (by omega), kk, up_at_ne _ _ _ (by omega), m10]
    rw [c, if_neg q] at r4
    refine ⟨by rw [t1]; omega, by rw [t2]; exact b, by rw [r4, t2]; omega, by rw [r3]; omega, fun i i0 i1 => ?_, fin⟩
    rw [t2] at i1 ⊢
    rw [t1, r3]
    by_cases q2 : i = 7
    · subst q2
      rw [show (((m 10 1 + 1) % 8 + 7) % 8).toNat = w by omega, show ((m 145 12 + 1) % 8 - m 10 2 + 7) % 8 = m 145 12 by omega]
      exact new
    · have := old (i + 1) (by omega) (by omega) (by omega) (by omega)
      rw [show ((m 10 1 + 1) % 8 + i) % 8 = (m 10 1 + (i + 1)) % 8 by omega, show ((m 145 12 + 1) % 8 - m 10 2 + i) % 8 = (m 145 12 - m 10 2 + (i + 1)) % 8 by omega]
      exact this
