/-! copies of sheets, bodies, edges and benches; the ring of the class -/
def shS (a : Nat) : Prop := shp a = some (8, 0) ∧ shp (a + 1) = some (20, 60) ∧ shp (a + 2) = some (20, 60) ∧ shp (a + 3) = some (20, 240)
def shB (a : Nat) : Prop := shp a = some (0, 0) ∧ shp (a + 1) = some (1, 0) ∧ shp (a + 2) = some (20, 4) ∧ shp (a + 3) = some (2, 0) ∧ shp (a + 4) = some (20, 240) ∧ shS (a + 5)
theorem shS_6 : shS 6 := ⟨rfl, rfl, rfl, rfl⟩
theorem shS_141 : shS 141 := ⟨rfl, rfl, rfl, rfl⟩
theorem shS_sh : ∀ k : Nat, k < 6 → shS (85 + 4 * k) := by
  intro k hk
  rcases (show k = 0 ∨ k = 1 ∨ k = 2 ∨ k = 3 ∨ k = 4 ∨ k = 5 by omega) with rfl | rfl | rfl | rfl | rfl | rfl <;> exact ⟨rfl, rfl, rfl, rfl⟩
theorem shB_1 : shB 1 := ⟨rfl, rfl, rfl, rfl, rfl, rfl, rfl, rfl, rfl⟩
theorem shB_r : ∀ k : Nat, k < 8 → shB (12 + 9 * k) := by
  intro k hk
  rcases (show k = 0 ∨ k = 1 ∨ k = 2 ∨ k = 3 ∨ k = 4 ∨ k = 5 ∨ k = 6 ∨ k = 7 by omega) with rfl | rfl | rfl | rfl | rfl | rfl | rfl | rfl <;> exact ⟨rfl, rfl, rfl, rfl, rfl, rfl, rfl, rfl, rfl⟩
/-- what a copy of a sheet is -/
def SE (m m' : tM) (a b : Nat) : Prop := (∀ c, c < a ∨ a + 3 < c → m' c = m c) ∧ m' a 3 = m b 3 ∧ (∀ z, 0 ≤ z → z < m b 3 → m' (a + 1) z = m (b + 1) z) ∧ (∀ z, 0 ≤ z → z < m b 3 → m' (a + 2) z = m (b + 2) z) ∧ (∀ z, 0 ≤ z → z < 4 * m b 3 → m' (a + 3) z = m (b + 3) z)
section C8c
variable {m : tM}
theorem c_sheetBecome {a b : Nat} {K : tM → Prop} (sa : shS a) (sb : shS b) (hab : a + 4 ≤ b ∨ b + 4 ≤ a) (h0 : 0 ≤ m b 3) (h1 : m b 3 ≤ 60) (h : ∀ m', SE m m' a b → K m') : Clv mX8_become [rV a, rV b] m K := by
  refine wX8_become_0 sa.1 sa.2.1 sa.2.2.1 sa.2.2.2 sb.1 sb.2.1 sb.2.2.1 sb.2.2.2 ?_
  rw [up_at]
  refine ⟨⟨h0, by omega⟩, fun m1 e1 => ?_⟩
  have g1 : m1 a 3 = m b 3 := by rw [e1, sr_ne _ _ (by omega), up_at]
  rw [g1]
  refine ⟨⟨h0, by omega⟩, fun m2 e2 => ?_⟩
  have g2 : m2 a 3 = m b 3 := by rw [e2, sr_ne _ _ (by omega), g1]
  rw [g2]
  refine ⟨⟨by constructor <;> omega, by omega, by omega⟩, fun m3 e3 => ⟨rfl, h m3 ⟨fun c hc => ?_, ?_, fun z z0 z1 => ?_, fun z z0 z1 => ?_, fun z z0 z1 => ?_⟩⟩⟩
  · rw [e3, sr_ne _ _ (by omega), e2, sr_ne _ _ (by omega), e1, sr_ne _ _ (by omega), up_ne _ _ _ (by omega)]
  · rw [e3, sr_ne _ _ (by omega), g2]
  · rw [e3, sr_ne _ _ (by omega), e2, sr_ne _ _ (by omega), e1, sr_eq, cpr_fil, fil_in _ _ (by omega), up_ne _ _ _ (by omega)]
    show m (b + 1) (0 + (z - 0)) = _
    rw [Int.zero_add, Int.sub_zero]
  · rw [e3, sr_ne _ _ (by omega), e2, sr_eq, cpr_fil, fil_in _ _ (by omega)]
    show m1 (b + 2) (0 + (z - 0)) = _
    rw [Int.zero_add, Int.sub_zero, e1, sr_ne _ _ (by omega), up_ne _ _ _ (by omega)]
  · rw [e3, sr_eq, cpr_fil, fil_in _ _ (by omega)]
    show m2 (b + 3) (0 + (z - 0)) = _
    rw [Int.zero_add, Int.sub_zero, e2, sr_ne _ _ (by omega), e1, sr_ne _ _ (by omega), up_ne _ _ _ (by omega)]
/-- what a copy of a bench is -/
def BE (m m' : tM) (a b : Nat) : Prop := (∀ c, c < a + 2 ∨ a + 8 < c → m' c = m c) ∧ (∀ z, 0 ≤ z → z < 4 → m' (a + 2) z = m (b + 2) z) ∧ (∀ z, 0 ≤ z → z < 240 → m' (a + 4) z = m (b + 4) z) ∧ m' (a + 5) 3 = m (b + 5) 3 ∧ (∀ z, 0 ≤ z → z < m (b + 5) 3 → m' (a + 6) z = m (b + 6) z) ∧ (∀ z, 0 ≤ z → z < m (b + 5) 3 → m' (a + 7) z = m (b + 7) z) ∧ (∀ z, 0 ≤ z → z < 4 * m (b + 5) 3 → m' (a + 8) z = m (b + 8) z)
theorem c_benchBecome {a b : Nat} {K : tM → Prop} (sa : shB a) (sb : shB b) (hab : a + 9 ≤ b ∨ b + 9 ≤ a) (h0 : 0 ≤ m (b + 5) 3) (h1 : m (b + 5) 3 ≤ 60) (h : ∀ m', BE m m' a b → K m') : Clv mX0_become [rV a, rV b] m K := by
  obtain ⟨a0, a1, a2, a3, a4, a5⟩ := sa
  obtain ⟨b0, b1, b2, b3, b4, b5⟩ := sb
  refine wX0_become_0 a0 a1 a3 a5.1 b0 ?_
  refine wX1_become_0 (a := a + 1) (b := b + 1) a1 a2 b1 b2 (fun m1 e1 => ⟨rfl, ?_⟩)
  refine wX2_become_0 (a := a + 3) (b := b + 3) a3 a4 b3 b4 (fun m2 e2 => ⟨rfl, ?_⟩)
  have q : m2 (b + 5) = m (b + 5) := by rw [e2, sr_ne _ _ (by omega), e1, sr_ne _ _ (by omega)]
  refine c_sheetBecome a5 b5 (by omega) (by rw [q]; exact h0) (by rw [q]; exact h1) (fun m3 s => ⟨rfl, h m3 ?_⟩)
  obtain ⟨s1, s2, s3, s4, s5⟩ := s
  rw [q] at s2 s3 s4 s5
  refine ⟨fun c hc => ?_, fun z z0 z1 => ?_, fun z z0 z1 => ?_, s2, fun z z0 z1 => ?_, fun z z0 z1 => ?_, fun z z0 z1 => ?_⟩
  · rw [s1 c (by omega), e2, sr_ne _ _ (by omega), e1, sr_ne _ _ (by omega)]
  · rw [s1 _ (by omega), e2, sr_ne _ _ (by omega), e1, show a + 2 = a + 1 + 1 by omega, sr_eq, cpr_fil, fil_in _ _ (by omega)]
    show m (b + 2) (0 + (z - 0)) = _
    rw [Int.zero_add, Int.sub_zero]
  · rw [s1 _ (by omega), e2, show a + 4 = a + 3 + 1 by omega, sr_eq, cpr_fil, fil_in _ _ (by omega)]
    show m1 (b + 4) (0 + (z - 0)) = _
    rw [Int.zero_add, Int.sub_zero, e1, sr_ne _ _ (by omega)]
  · have := s3 z z0 z1
    rw [show a + 6 = a + 5 + 1 by omega, this, e2, sr_ne _ _ (by omega), e1, sr_ne _ _ (by omega)]
  · have := s4 z z0 z1
    rw [show a + 7 = a + 5 + 2 by omega, this, e2, sr_ne _ _ (by omega), e1, sr_ne _ _ (by omega)]
  · have := s5 z z0 z1
    rw [show a + 8 = a + 5 + 3 by omega, this, e2, sr_ne _ _ (by omega), e1, sr_ne _ _ (by omega)]
/-- Memory.keep: what stands in the ring then -/
def KP (m m' : tM) : Prop := ∃ m1, BE m m1 (12 + 9 * ((m 10 1 + m 10 2) % 8).toNat) 1 ∧ m' = if m 10 2 < 8 then up m1 10 2 (m 10 2 + 1) else up m1 10 1 ((m 10 1 + 1) % 8)
theorem c_keep {K : tM → Prop} (h1 : 0 ≤ m 10 1 ∧ m 10 1 < 8) (h2 : 0 ≤ m 10 2 ∧ m 10 2 ≤ 8) (h3 : 0 ≤ m 6 3 ∧ m 6 3 ≤ 60) (h : ∀ m', KP m m' → K m') : Clv mX7_keep [rV 10, rV 1] m K := by
  refine wX7_keep_0 ⟨⟨by constructor <;> omega, by omega, by omega, by omega⟩, fun b e => ?_⟩
  have e' : b = 12 + 9 * ((m 10 1 + m 10 2) % 8).toNat := by omega
  have hk : ((m 10 1 + m 10 2) % 8).toNat < 8 := by omega
  have sb := shB_r _ hk
  rw [← e'] at sb
  refine ⟨sb.1, c_benchBecome sb shB_1 (by omega) h3.1 h3.2 (fun m1 hb => ?_)⟩
  have q : m1 10 = m 10 := hb.1 10 (by omega)
  rw [q]
  refine ⟨fun c => ⟨by constructor <;> omega, rfl, h _ ⟨m1, by rw [← e']; exact hb, by rw [if_pos c]⟩⟩, fun c => ⟨⟨by constructor <;> omega, by omega⟩, rfl, h _ ⟨m1, by rw [← e']; exact hb, by rw [if_neg c]⟩⟩⟩
theorem c_giveBack {K : tM → Prop} (h1 : 0 ≤ m 10 1 ∧ m 10 1 < 8) (h2 : 0 < m 10 2 ∧ m 10 2 ≤ 8) (h3 : ∀ i, i < 8 → 0 ≤ m (12 + 9 * i + 5) 3 ∧ m (12 + 9 * i + 5) 3 ≤ 60) (h : ∀ m', BE (up m 10 2 (m 10 2 - 1)) m' 1 (12 + 9 * ((m 10 1 + (m 10 2 - 1)) % 8).toNat) → K m') : Clv mX7_giveBack [rV 10, rV 1] m K := by
  refine wX7_giveBack_0 ⟨fun _ => ⟨⟨by constructor <;> omega, by constructor <;> omega, by omega, by omega, by omega⟩, fun b e => ?_⟩, fun c => by omega⟩
  have e' : b = 12 + 9 * ((m 10 1 + (m 10 2 - 1)) % 8).toNat := by omega
  have hk : ((m 10 1 + (m 10 2 - 1)) % 8).toNat < 8 := by omega
  have sb := shB_r _ hk
  have hn := h3 _ hk
  rw [← e'] at sb h hn
  have q : (up m 10 2 (m 10 2 - 1)) (b + 5) = m (b + 5) := up_ne _ _ _ (by omega)
  exact c_benchBecome shB_1 sb (by omega) (by rw [q]; exact hn.1) (by rw [q]; exact hn.2) (fun m1 hb => ⟨rfl, h m1 hb⟩)
end C8c
