/-! undo: the reference, and what comes back -/
def UM (m m' : tM) : Prop := (∀ c, c < 145 ∨ 152 < c → m' c = m c) ∧ m' 145 12 = (m 145 12 + 8 - 1) % 8 ∧ m' 145 13 = m 145 13 - 1 ∧ BLK (m 155) (1860 * ((m 145 12 + 8 - 1) % 8)) m'
section C8x
variable {m : tM}
theorem c_undoM {K : Int → tM → Prop} (h1 : 0 ≤ m 145 12 ∧ m 145 12 < 8) (h2 : 0 ≤ m 145 13 ∧ m 145 13 ≤ 8) (hno : m 145 13 = 0 → K (-4) (up m 145 0 0)) (h : 0 < m 145 13 → ∀ m', UM m m' → K (m 145 13 - 1) m') : Cli mX12_undo [rV 145] m K := by
  refine wX12_undo_0 ⟨fun c => ⟨_, rfl, hno c⟩, fun c => ⟨⟨by constructor <;> omega, by constructor <;> omega, by omega, by constructor <;> omega, by constructor <;> omega⟩, ?_⟩⟩
  generalize ho : 1860 * ((m 145 12 + 8 - 1) % 8) = o
  have o0 : 0 ≤ o ∧ o + 1860 ≤ 14880 := by omega
  generalize hm0 : up (up (up (up m 145 0 0) 145 12 ((m 145 12 + 8 - 1) % 8)) 145 13 (m 145 13 - 1)) 145 14 o = m0
  have p0 : m0 145 14 = o := by rw [← hm0, up_at]
  have k13 : m0 145 13 = m 145 13 - 1 := by rw [← hm0, up_at_ne _ _ _ (by omega), up_at]
  have k12 : m0 145 12 = (m 145 12 + 8 - 1) % 8 := by rw [← hm0, up_at_ne _ _ _ (by omega), up_at_ne _ _ _ (by omega), up_at]
  have r0 : ∀ c, c ≠ 145 → m0 c = m c := fun c hc => by rw [← hm0, up_ne _ _ _ hc, up_ne _ _ _ hc, up_ne _ _ _ hc, up_ne _ _ _ hc]
  refine c_read sh_146 (by omega) (by omega) (by omega) (by omega) (by omega) (fun m1 ⟨a1, b1, p1, t1, w1⟩ => ?_)
  refine c_read sh_147 (by omega) (by omega) (by omega) (by omega) (by omega) (fun m2 ⟨a2, b2, p2, t2, w2⟩ => ?_)
  refine c_read sh_148 (by omega) (by omega) (by omega) (by omega) (by omega) (fun m3 ⟨a3, b3, p3, t3, w3⟩ => ?_)
  refine ⟨⟨by omega, by omega, by constructor <;> omega⟩, ?_⟩
  have q155 : m3 155 = m 155 := by rw [a3 155 (by omega) (by omega), a2 155 (by omega) (by omega), a1 155 (by omega) (by omega), r0 155 (by omega)]
  generalize hm4 : up (up m3 145 4 (m3 155 (m3 145 14))) 145 14 (m3 145 14 + 1) = m4
  have p4 : m4 145 14 = m3 145 14 + 1 := by rw [← hm4, up_at]
  have v4 : m4 145 4 = m 155 (o + 1604) := by rw [← hm4, up_at_ne _ _ _ (by omega), up_at, q155, show m3 145 14 = o + 1604 by omega]
  have b4 : ∀ j, j ≠ 14 → j ≠ 4 → m4 145 j = m3 145 j := fun j j1 j2 => by rw [← hm4, up_at_ne _ _ _ j1, up_at_ne _ _ _ j2]
  have a4 : ∀ c, c ≠ 145 → m4 c = m3 c := fun c hc => by rw [← hm4, up_ne _ _ _ hc, up_ne _ _ _ hc]
  refine c_read sh_149 (by omega) (by omega) (by omega) (by omega) (by omega) (fun m5 ⟨a5, b5, p5, t5, w5⟩ => ?_)
  refine c_read sh_150 (by omega) (by omega) (by omega) (by omega) (by omega) (fun m6 ⟨a6, b6, p6, t6, w6⟩ => ?_)
  refine c_read sh_151 (by omega) (by omega) (by omega) (by omega) (by omega) (fun m7 ⟨a7, b7, p7, t7, w7⟩ => ?_)
  refine c_read sh_152 (by omega) (by omega) (by omega) (by omega) (by omega) (fun m8 ⟨a8, b8, p8, t8, w8⟩ => ⟨_, rfl, ?_⟩)
  have s145 : ∀ j, j ≠ 14 → j ≠ 4 → m8 145 j = m0 145 j := fun j j1 j2 => by rw [b8 j j1, b7 j j1, b6 j j1, b5 j j1, b4 j j1 j2, b3 j j1, b2 j j1, b1 j j1]
  have e13 : m8 145 13 = m 145 13 - 1 := by rw [s145 13 (by omega) (by omega), k13]
  rw [e13]
  have u4 : m4 155 = m 155 := by rw [a4 155 (by omega), q155]
  have u5 : m5 155 = m 155 := by rw [a5 155 (by omega) (by omega), u4]
  have u6 : m6 155 = m 155 := by rw [a6 155 (by omega) (by omega), u5]
  have u7 : m7 155 = m 155 := by rw [a7 155 (by omega) (by omega), u6]
  have u2 : m2 155 = m 155 := by rw [a2 155 (by omega) (by omega), a1 155 (by omega) (by omega), r0 155 (by omega)]
  have u1 : m1 155 = m 155 := by rw [a1 155 (by omega) (by omega), r0 155 (by omega)]
  refine h (by omega) m8 ⟨fun c hc => ?_, by rw [s145 12 (by omega) (by omega), k12], e13, ?_⟩
  · rw [a8 c (by omega) (by omega), a7 c (by omega) (by omega), a6 c (by omega) (by omega), a5 c (by omega) (by omega), a4 c (by omega), a3 c (by omega) (by omega), a2 c (by omega) (by omega), a1 c (by omega) (by omega), r0 c (by omega)]
  · rw [ho]
    refine ⟨fun z z0 z1 => ?_, fun z z0 z1 => ?_, fun z z0 z1 => ?_, ?_, fun z z0 z1 => ?_, fun z z0 z1 => ?_, fun z z0 z1 => ?_, fun z z0 z1 => ?_⟩
    · rw [a8 _ (by omega) (by omega), a7 _ (by omega) (by omega), a6 _ (by omega) (by omega), a5 _ (by omega) (by omega), a4 _ (by omega), a3 _ (by omega) (by omega), a2 _ (by omega) (by omega), w1 z z0 z1, r0 155 (by omega), p0]
    · rw [a8 _ (by omega) (by omega), a7 _ (by omega) (by omega), a6 _ (by omega) (by omega), a5 _ (by omega) (by omega), a4 _ (by omega), a3 _ (by omega) (by omega), w2 z z0 z1, u1, show m1 145 14 = o + 4 by omega]
    · rw [a8 _ (by omega) (by omega), a7 _ (by omega) (by omega), a6 _ (by omega) (by omega), a5 _ (by omega) (by omega), a4 _ (by omega), w3 z z0 z1, u2, show m2 145 14 = o + 68 by omega]
    · rw [b8 4 (by omega), b7 4 (by omega), b6 4 (by omega), b5 4 (by omega), v4]
    · rw [a8 _ (by omega) (by omega), a7 _ (by omega) (by omega), a6 _ (by omega) (by omega), w5 z z0 z1, u4, show m4 145 14 = o + 1605 by omega]
    · rw [a8 _ (by omega) (by omega), a7 _ (by omega) (by omega), w6 z z0 z1, u5, show m5 145 14 = o + 1665 by omega]
    · rw [a8 _ (by omega) (by omega), w7 z z0 z1, u6, show m6 145 14 = o + 1725 by omega]
    · rw [w8 z z0 z1, u7, show m7 145 14 = o + 1785 by omega]
/-- the state that was kept last comes back on both sides -/
theorem HisR.undo {m m1 m1' m2 : tM} (h : HisR m) (hk : 0 < m 10 2) (hb : BE (up m 10 2 (m 10 2 - 1)) m1 1 (12 + 9 * ((m 10 1 + (m 10 2 - 1)) % 8).toNat)) (g1 : ∀ c, c < 84 → m1' c = m1 c) (g2 : ∀ c, 145 ≤ c → m1' c = m1 c) (hu : UM m1' m2) : Cur m2 ∧ HisR m2 := by
  obtain ⟨a, b, c, d, e, f⟩ := h
  obtain ⟨u1, u2, u3, u4⟩ := hu
  generalize hi : ((m 10 1 + (m 10 2 - 1)) % 8).toNat = w at hb
  have hw : w < 8 := by omega
  obtain ⟨k1, k2, k3, k4, k5, k6, k7⟩ := hb
  have fr : ∀ c, 10 < c → m1 c = m c := fun c hc => by rw [k1 c (by omega), up_ne _ _ _ (by omega)]
  have r10 : m1 10 = (up m 10 2 (m 10 2 - 1)) 10 := k1 10 (by omega)
  have t1 : m2 10 1 = m 10 1 := by rw [u1 10 (by omega), g1 10 (by omega), r10, up_at_ne _ _ _ (by omega)]
  have t2 : m2 10 2 = m 10 2 - 1 := by rw [u1 10 (by omega), g1 10 (by omega), r10, up_at]
  have e145 : m1' 145 = m 145 := by rw [g2 145 (by omega), fr 145 (by omega)]
  have e155 : m1' 155 = m 155 := by rw [g2 155 (by omega), fr 155 (by omega)]
  rw [e145] at u2 u3 u4
  rw [e155] at u4
  have low : ∀ c, 10 < c → c < 84 → m2 c = m c := fun c c0 c1 => by rw [u1 c (by omega), g1 c c1, fr c c0]
  have q155 : m2 155 = m 155 := by rw [u1 155 (by omega), e155]
  have oe : (m 145 12 + 8 - 1) % 8 = (m 145 12 - m 10 2 + (m 10 2 - 1)) % 8 := by omega
  have snp := e (m 10 2 - 1) (by omega) (by omega)
  rw [hi, ← oe] at snp
  refine ⟨?_, by rw [t1]; exact a, by rw [t2]; omega, by rw [u3, t2, c], by rw [u2]; omega, fun i i0 i1 => ?_, fun i hi8 => by rw [low _ (by omega) (by omega)]; exact f i hi8⟩
  · obtain ⟨b1, b2, b3, b4, b5, b6, b7, b8⟩ := u4
    obtain ⟨hB, hE, s, ws, rc, rm⟩ := snp
    have cl : ∀ c, 3 ≤ c → c < 10 → m2 c = m1 c := fun c c0 c1 => by rw [u1 c (by omega), g1 c (by omega)]
    have up5 : ∀ c, c ≠ 10 → (up m 10 2 (m 10 2 - 1)) c = m c := fun c hc => up_ne _ _ _ hc
    have E6 : m2 6 3 = m (12 + 9 * w + 5) 3 := by rw [cl 6 (by omega) (by omega)]; exact k4.trans (by rw [up5 _ (by omega)])
    have N := rc.1.2.1
    refine ⟨hB.congr (fun z z0 z1 => by rw [cl 3 (by omega) (by omega)]; exact (k2 z z0 z1).trans (by rw [up5 _ (by omega)])) (fun z z0 z1 => (b1 z z0 z1).symm) (fun z z0 z1 => (b2 z z0 z1).symm), hE.congr (fun z z0 z1 => (b2 z z0 z1).symm) (fun z z0 z1 => by rw [cl 5 (by omega) (by omega)]; exact (k3 z z0 z1).trans (by rw [up5 _ (by omega)])) (fun z z0 z1 => (b3 z z0 z1).symm), s, ws, ?_, ?_⟩
    · rw [E6]
      rw [up5 (12 + 9 * w + 5) (by omega)] at k5 k6 k7
      refine rc.congr (fun z z0 z1 => ?_) (fun z z0 z1 => ?_) (fun z z0 z1 => ?_)
      · rw [cl 7 (by omega) (by omega)]; exact (k5 z z0 z1).trans (by rw [up5 _ (by omega)])
      · rw [cl 8 (by omega) (by omega)]; exact (k6 z z0 z1).trans (by rw [up5 _ (by omega)])
      · rw [cl 9 (by omega) (by omega)]; exact (k7 z z0 z1).trans (by rw [up5 _ (by omega)])
    · have M := rm.1.2.1
      rw [← b4]
      exact rm.congr (fun z z0 z1 => (b5 z z0 (by omega)).symm) (fun z z0 z1 => (b6 z z0 (by omega)).symm) (fun z z0 z1 => (b7 z z0 (by omega)).symm) (fun z z0 z1 => (b8 z z0 (by omega)).symm)
  · rw [t2] at i1 ⊢
    rw [t1, u2]
    have := e i i0 (by omega)
    rw [show ((m 145 12 + 8 - 1) % 8 - (m 10 2 - 1) + i) % 8 = (m 145 12 - m 10 2 + i) % 8 by omega]
    exact Snp.keep this (fun c c0 c1 => low c (by omega) (by omega)) (fun z _ _ => by rw [q155])
end C8x
