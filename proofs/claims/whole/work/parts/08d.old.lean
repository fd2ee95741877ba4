/-! the reference's history -/
theorem ur_self (r : Int → Int) (i : Int) : ur r i (r i) = r := by
  funext j
  by_cases h : j = i
  · subst h; rw [ur_eq]
  · rw [ur_ne _ _ h]
def WR (m m' : tM) (p : Nat) (n : Int) : Prop := (∀ c, c ≠ 155 → c ≠ 145 → m' c = m c) ∧ (∀ j, j ≠ 14 → m' 145 j = m 145 j) ∧ m' 145 14 = m 145 14 + n ∧ (∀ j, j < m 145 14 ∨ m 145 14 + n ≤ j → m' 155 j = m 155 j) ∧ (∀ z, 0 ≤ z → z < n → m' 155 (m 145 14 + z) = m p z)
section C8d
variable {m : tM}
theorem c_write {p np : Nat} {n : Int} {K : tM → Prop} (s0 : shp p = some (20, np)) (hp : p ≠ 155 ∧ p ≠ 145) (h0 : 0 ≤ n) (hn : n ≤ np) (hq : 0 ≤ m 145 14 ∧ m 145 14 + n ≤ 14880) (hb : np ≤ 100000) (h : ∀ m', WR m m' p n → K m') : Clv mX12_write [rV 145, rV p, iV n] m K := by
  refine wX12_write_0 (np := 0) ?_
  have key := up_ind (n := n) (fun i => Tj mX12_write 2 [some (rV 145), some (rV p), some (iV n), some (iV i)] [] (sr (sr m 155 (fil (m p) (m 155) (m 145 14) i)) 145 (ur (m 145) 14 (m 145 14 + i))) (fun r m' => r = none ∧ K m')) ?_ ?_ (i := 0) (by omega) (by omega)
  · rw [fil_0, sr_self, Int.add_zero, ur_self, sr_self] at key
    exact key
  · refine wX12_write_2 s0 ⟨fun c => by omega, fun _ => ⟨rfl, h _ ⟨fun c c1 c2 => ?_, fun j hj => ?_, ?_, fun j hj => ?_, fun z z0 z1 => ?_⟩⟩⟩
    · rw [sr_ne _ _ c2, sr_ne _ _ c1]
    · rw [sr_eq, ur_ne _ _ hj]
    · rw [sr_eq, ur_eq]
    · rw [sr_ne _ _ (by omega), sr_eq, fil_out _ _ (by omega)]
    · rw [sr_ne _ _ (by omega), sr_eq, fil_in _ _ (by omega), show m 145 14 + z - m 145 14 = z by omega]
  · intro i i0 i1 ih
    have e1 : (sr (sr m 155 (fil (m p) (m 155) (m 145 14) i)) 145 (ur (m 145) 14 (m 145 14 + i))) 145 14 = m 145 14 + i := by rw [sr_eq, ur_eq]
    have e2 : (sr (sr m 155 (fil (m p) (m 155) (m 145 14) i)) 145 (ur (m 145) 14 (m 145 14 + i))) p i = m p i := by rw [sr_ne _ _ hp.2, sr_ne _ _ hp.1]
    refine wX12_write_2 s0 ⟨fun _ => ?_, fun c => absurd i1 c⟩
    rw [e1, e2]
    refine ⟨⟨i0, by omega, by omega, by omega, by constructor <;> omega, by constructor <;> omega⟩, ?_⟩
    have e3 : up (up (sr (sr m 155 (fil (m p) (m 155) (m 145 14) i)) 145 (ur (m 145) 14 (m 145 14 + i))) 155 (m 145 14 + i) (m p i)) 145 14 (m 145 14 + i + 1) = sr (sr m 155 (fil (m p) (m 155) (m 145 14) (i + 1))) 145 (ur (m 145) 14 (m 145 14 + (i + 1))) := by
      rw [sr_comm m _ _ (by omega), up_sr, sr_comm _ _ _ (by omega), up_sr, sr_comm m _ _ (by omega), sr_comm m _ _ (by omega), ur_ur, fil_s _ _ _ i0, Int.add_assoc, sr_comm _ _ _ (by omega)]
    rw [e3]
    exact ih
def RD (m m' : tM) (p : Nat) (n : Int) : Prop := (∀ c, c ≠ p → c ≠ 145 → m' c = m c) ∧ (∀ j, j ≠ 14 → m' 145 j = m 145 j) ∧ m' 145 14 = m 145 14 + n ∧ (∀ z, n ≤ z → m' p z = m p z) ∧ (∀ z, 0 ≤ z → z < n → m' p z = m 155 (m 145 14 + z))
theorem c_read {p np : Nat} {n : Int} {K : tM → Prop} (s0 : shp p = some (20, np)) (hp : p ≠ 155 ∧ p ≠ 145) (h0 : 0 ≤ n) (hn : n ≤ np) (hq : 0 ≤ m 145 14 ∧ m 145 14 + n ≤ 14880) (hb : np ≤ 100000) (h : ∀ m', RD m m' p n → K m') : Clv mX12_read [rV 145, rV p, iV n] m K := by
  refine wX12_read_0 (np := 0) ?_
  have key := up_ind (n := n) (fun i => Tj mX12_read 2 [some (rV 145), some (rV p), some (iV n), some (iV i)] [] (sr (sr m p (fil (fun k => m 155 (m 145 14 + k)) (m p) 0 i)) 145 (ur (m 145) 14 (m 145 14 + i))) (fun r m' => r = none ∧ K m')) ?_ ?_ (i := 0) (by omega) (by omega)
  · rw [fil_0, sr_self, Int.add_zero, ur_self, sr_self] at key
    exact key
  · refine wX12_read_2 s0 ⟨fun c => by omega, fun _ => ⟨rfl, h _ ⟨fun c c1 c2 => ?_, fun j hj => ?_, ?_, fun z hz => ?_, fun z z0 z1 => ?_⟩⟩⟩
    · rw [sr_ne _ _ c2, sr_ne _ _ c1]
    · rw [sr_eq, ur_ne _ _ hj]
    · rw [sr_eq, ur_eq]
    · rw [sr_ne _ _ hp.2, sr_eq, fil_out _ _ (by omega)]
    · rw [sr_ne _ _ hp.2, sr_eq, fil_in _ _ (by omega), Int.sub_zero]
  · intro i i0 i1 ih
    have e1 : (sr (sr m p (fil (fun k => m 155 (m 145 14 + k)) (m p) 0 i)) 145 (ur (m 145) 14 (m 145 14 + i))) 145 14 = m 145 14 + i := by rw [sr_eq, ur_eq]
    have e2 : (sr (sr m p (fil (fun k => m 155 (m 145 14 + k)) (m p) 0 i)) 145 (ur (m 145) 14 (m 145 14 + i))) 155 (m 145 14 + i) = m 155 (m 145 14 + i) := by rw [sr_ne _ _ (by omega), sr_ne _ _ (Ne.symm hp.1)]
    refine wX12_read_2 s0 ⟨fun _ => ?_, fun c => absurd i1 c⟩
    rw [e1, e2, up_ne _ _ _ (Ne.symm hp.2), e1]
    refine ⟨⟨by omega, by omega, i0, by omega, by constructor <;> omega, by constructor <;> omega⟩, ?_⟩
    have e3 : up (up (sr (sr m p (fil (fun k => m 155 (m 145 14 + k)) (m p) 0 i)) 145 (ur (m 145) 14 (m 145 14 + i))) p i (m 155 (m 145 14 + i))) 145 14 (m 145 14 + i + 1) = sr (sr m p (fil (fun k => m 155 (m 145 14 + k)) (m p) 0 (i + 1))) 145 (ur (m 145) 14 (m 145 14 + (i + 1))) := by
      have f := fil_s (fun k => m 155 (m 145 14 + k)) (m p) 0 i0
      rw [Int.zero_add] at f
      rw [sr_comm m _ _ hp.2, up_sr, sr_comm _ _ _ (Ne.symm hp.2), up_sr, sr_comm m _ _ hp.2, sr_comm m _ _ hp.2, ur_ur, f, Int.add_assoc, sr_comm _ _ _ (Ne.symm hp.2)]
    rw [e3]
    exact ih
end C8d
