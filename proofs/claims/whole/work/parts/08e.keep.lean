/-! the reference's keep, change and undo -/
/-- block o of the reference's history holds the state m -/
def BLK (old : Int → Int) (o : Int) (m : tM) : Prop := (∀ z, 0 ≤ z → z < 4 → old (o + z) = m 146 z) ∧ (∀ z, 0 ≤ z → z < 64 → old (o + 4 + z) = m 147 z) ∧ (∀ z, 0 ≤ z → z < 1536 → old (o + 68 + z) = m 148 z) ∧ old (o + 1604) = m 145 4 ∧ (∀ z, 0 ≤ z → z < 60 → old (o + 1605 + z) = m 149 z) ∧ (∀ z, 0 ≤ z → z < 60 → old (o + 1665 + z) = m 150 z) ∧ (∀ z, 0 ≤ z → z < 60 → old (o + 1725 + z) = m 151 z) ∧ (∀ z, 0 ≤ z → z < 60 → old (o + 1785 + z) = m 152 z)
def KM (m m' : tM) : Prop := (∀ c, c ≠ 155 → c ≠ 145 → m' c = m c) ∧ (∀ j, j ≠ 12 → j ≠ 13 → j ≠ 14 → m' 145 j = m 145 j) ∧ m' 145 12 = (m 145 12 + 1) % 8 ∧ m' 145 13 = (if m 145 13 < 8 then m 145 13 + 1 else 8) ∧ (∀ j, j < 1860 * m 145 12 ∨ 1860 * m 145 12 + 1860 ≤ j → m' 155 j = m 155 j) ∧ BLK (m' 155) (1860 * m 145 12) m
section C8e
variable {m : tM}
theorem c_keepM {K : tM → Prop} (h1 : 0 ≤ m 145 12 ∧ m 145 12 < 8) (h2 : 0 ≤ m 145 13 ∧ m 145 13 ≤ 8) (h : ∀ m', KM m m' → K m') : Clv mX12_keep [rV 145] m K := by
  refine wX12_keep_0 ⟨by constructor <;> omega, ?_⟩
  generalize hm0 : up m 145 14 (1860 * m 145 12) = m0
  have p0 : m0 145 14 = 1860 * m 145 12 := by rw [← hm0, up_at]
  have q0 : ∀ j, j ≠ 14 → m0 145 j = m 145 j := fun j hj => by rw [← hm0, up_at_ne _ _ _ hj]
  have r0 : ∀ c, c ≠ 145 → m0 c = m c := fun c hc => by rw [← hm0, up_ne _ _ _ hc]
  refine c_write sh_146 (by omega) (by omega) (by omega) (by omega) (by omega) (fun m1 ⟨a1, b1, p1, o1, w1⟩ => ?_)
  refine c_write sh_147 (by omega) (by omega) (by omega) (by omega) (by omega) (fun m2 ⟨a2, b2, p2, o2, w2⟩ => ?_)
  refine c_write sh_148 (by omega) (by omega) (by omega) (by omega) (by omega) (fun m3 ⟨a3, b3, p3, o3, w3⟩ => ?_)
  refine ⟨⟨by omega, by omega, by constructor <;> omega⟩, ?_⟩
  generalize hm4 : up (up m3 155 (m3 145 14) (m3 145 4)) 145 14 (m3 145 14 + 1) = m4
  have p4 : m4 145 14 = m3 145 14 + 1 := by rw [← hm4, up_at]
  have b4 : ∀ j, j ≠ 14 → m4 145 j = m3 145 j := fun j hj => by rw [← hm4, up_at_ne _ _ _ hj, up_ne _ _ _ (by omega)]
  have a4 : ∀ c, c ≠ 155 → c ≠ 145 → m4 c = m3 c := fun c c1 c2 => by rw [← hm4, up_ne _ _ _ c2, up_ne _ _ _ c1]
  have o4 : ∀ j, j ≠ m3 145 14 → m4 155 j = m3 155 j := fun j hj => by rw [← hm4, up_ne _ _ _ (by omega), up_at_ne _ _ _ hj]
  have w4 : m4 155 (m3 145 14) = m3 145 4 := by rw [← hm4, up_ne _ _ _ (by omega), up_at]
  refine c_write sh_149 (by omega) (by omega) (by omega) (by omega) (by omega) (fun m5 ⟨a5, b5, p5, o5, w5⟩ => ?_)
  refine c_write sh_150 (by omega) (by omega) (by omega) (by omega) (by omega) (fun m6 ⟨a6, b6, p6, o6, w6⟩ => ?_)
  refine c_write sh_151 (by omega) (by omega) (by omega) (by omega) (by omega) (fun m7 ⟨a7, b7, p7, o7, w7⟩ => ?_)
  refine c_write sh_152 (by omega) (by omega) (by omega) (by omega) (by omega) (fun m8 ⟨a8, b8, p8, o8, w8⟩ => ?_)
  have s145 : ∀ j, j ≠ 14 → m8 145 j = m 145 j := fun j hj => by rw [b8 j hj, b7 j hj, b6 j hj, b5 j hj, b4 j hj, b3 j hj, b2 j hj, b1 j hj, q0 j hj]
  have rows : ∀ c, c ≠ 155 → c ≠ 145 → m8 c = m c := fun c c1 c2 => by rw [a8 c c1 c2, a7 c c1 c2, a6 c c1 c2, a5 c c1 c2, a4 c c1 c2, a3 c c1 c2, a2 c c1 c2, a1 c c1 c2, r0 c c2]
  have g12 := s145 12 (by omega)
  have g13 := s145 13 (by omega)
  have out : ∀ j, j < 1860 * m 145 12 ∨ 1860 * m 145 12 + 1860 ≤ j → m8 155 j = m 155 j := fun j hj => by
    rw [o8 j (by omega), o7 j (by omega), o6 j (by omega), o5 j (by omega), o4 j (by omega), o3 j (by omega), o2 j (by omega), o1 j (by omega), r0 155 (by omega)]
  have blk : BLK (m8 155) (1860 * m 145 12) m := by
    refine ⟨fun z z0 z1 => ?_, fun z z0 z1 => ?_, fun z z0 z1 => ?_, ?_, fun z z0 z1 => ?_, fun z z0 z1 => ?_, fun z z0 z1 => ?_, fun z z0 z1 => ?_⟩
    · rw [o8 _ (by omega), o7 _ (by omega), o6 _ (by omega), o5 _ (by omega), o4 _ (by omega), o3 _ (by omega), o2 _ (by omega)]
      have := w1 z z0 z1
      rw [p0] at this
      rw [this, r0 146 (by omega)]
    · rw [o8 _ (by omega), o7 _ (by omega), o6 _ (by omega), o5 _ (by omega), o4 _ (by omega), o3 _ (by omega)]
      have := w2 z z0 z1
      rw [p1, p0] at this
      rw [this, a1 147 (by omega) (by omega), r0 147 (by omega)]
    · rw [o8 _ (by omega), o7 _ (by omega), o6 _ (by omega), o5 _ (by omega), o4 _ (by omega)]
      have := w3 z z0 z1
      rw [p2, p1, p0, show 1860 * m 145 12 + 4 + 64 = 1860 * m 145 12 + 68 by omega] at this
      rw [this, a2 148 (by omega) (by omega), a1 148 (by omega) (by omega), r0 148 (by omega)]
    · rw [o8 _ (by omega), o7 _ (by omega), o6 _ (by omega), o5 _ (by omega)]
      rw [show 1860 * m 145 12 + 1604 = m3 145 14 by omega, w4, b3 4 (by omega), b2 4 (by omega), b1 4 (by omega), q0 4 (by omega)]
    · rw [o8 _ (by omega), o7 _ (by omega), o6 _ (by omega)]
      have := w5 z z0 z1
      rw [show m4 145 14 = 1860 * m 145 12 + 1605 by omega] at this
      rw [this, a4 149 (by omega) (by omega), a3 149 (by omega) (by omega), a2 149 (by omega) (by omega), a1 149 (by omega) (by omega), r0 149 (by omega)]
    · rw [o8 _ (by omega), o7 _ (by omega)]
      have := w6 z z0 z1
      rw [show m5 145 14 = 1860 * m 145 12 + 1665 by omega] at this
      rw [this, a5 150 (by omega) (by omega), a4 150 (by omega) (by omega), a3 150 (by omega) (by omega), a2 150 (by omega) (by omega), a1 150 (by omega) (by omega), r0 150 (by omega)]
    · rw [o8 _ (by omega)]
      have := w7 z z0 z1
      rw [show m6 145 14 = 1860 * m 145 12 + 1725 by omega] at this
      rw [this, a6 151 (by omega) (by omega), a5 151 (by omega) (by omega), a4 151 (by omega) (by omega), a3 151 (by omega) (by omega), a2 151 (by omega) (by omega), a1 151 (by omega) (by omega), r0 151 (by omega)]
    · have := w8 z z0 z1
      rw [show m7 145 14 = 1860 * m 145 12 + 1785 by omega] at this
      rw [this, a7 152 (by omega) (by omega), a6 152 (by omega) (by omega), a5 152 (by omega) (by omega), a4 152 (by omega) (by omega), a3 152 (by omega) (by omega), a2 152 (by omega) (by omega), a1 152 (by omega) (by omega), r0 152 (by omega)]
  refine ⟨⟨by constructor <;> omega, by omega⟩, fun c => ⟨by constructor <;> omega, rfl, h _ ⟨fun c c1 c2 => ?_, fun j j1 j2 j3 => ?_, ?_, ?_, ?_, ?_⟩⟩, fun c => ⟨rfl, h _ ⟨fun c c1 c2 => ?_, fun j j1 j2 j3 => ?_, ?_, ?_, ?_, ?_⟩⟩⟩
  · rw [up_ne _ _ _ c2, up_ne _ _ _ c2, rows c c1 c2]
  · rw [up_at_ne _ _ _ j2, up_at_ne _ _ _ j1, s145 j j3]
  · rw [up_at_ne _ _ _ (by omega), up_at, g12]
  · rw [up_at, g13, if_pos (by omega)]
  · intro j hj; rw [up_ne _ _ _ (by omega), up_ne _ _ _ (by omega)]; exact out j hj
  · rw [up_ne _ _ _ (by omega), up_ne _ _ _ (by omega)]; exact blk
  · rw [up_ne _ _ _ c2, up_ne _ _ _ c2, rows c c1 c2]
  · rw [up_at_ne _ _ _ j2, up_at_ne _ _ _ j1, s145 j j3]
  · rw [up_at_ne _ _ _ (by omega), up_at, g12]
  · rw [up_at, if_neg (by omega)]
  · intro j hj; rw [up_ne _ _ _ (by omega), up_ne _ _ _ (by omega)]; exact out j hj
  · rw [up_ne _ _ _ (by omega), up_ne _ _ _ (by omega)]; exact blk
/-- change: kept, and no cuts -/
def CM (m m' : tM) : Prop := ∃ m1, KM m m1 ∧ m' = sr m1 148 (fil (fun _ => 0) (m1 148) 0 1536)
theorem c_change {K : tM → Prop} (h1 : 0 ≤ m 145 12 ∧ m 145 12 < 8) (h2 : 0 ≤ m 145 13 ∧ m 145 13 ≤ 8) (h : ∀ m', CM m m' → K m') : Clv mX12_change [rV 145] m K := by
  refine wX12_change_0 (c_keepM h1 h2 (fun m1 k => ?_))
  have key := up_ind (n := 1536) (fun i => Tj mX12_change 6 [some (rV 145), some (iV i)] [] (sr m1 148 (fil (fun _ => 0) (m1 148) 0 i)) (fun r m' => r = none ∧ K m')) ?_ ?_ (i := 0) (by omega) (by omega)
  · rw [fil_0, sr_self] at key
    exact key
  · exact wX12_change_6 ⟨fun c => by omega, fun _ => ⟨rfl, h _ ⟨m1, k, rfl⟩⟩⟩
  · intro i i0 i1 ih
    refine wX12_change_6 ⟨fun _ => ⟨⟨i0, i1, by constructor <;> omega⟩, ?_⟩, fun c => absurd i1 c⟩
    have f := fil_s (fun _ => 0) (m1 148) 0 i0
    rw [Int.zero_add] at f
    rw [up_sr, f]
    exact ih
end C8e
