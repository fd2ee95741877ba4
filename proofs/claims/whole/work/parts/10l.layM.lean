/-! the reference lays a skin flat -/
def labL (m : tM) (k : Int) : L3 := (m 162 k, m 163 k, m 164 k)
abbrev FR3 (m m' : tM) : Prop := (∀ c, c ≠ 145 → c < 161 ∨ 164 < c → m' c = m c) ∧ (∀ j, j ≠ 21 → j ≠ 22 → j ≠ 23 → m' 145 j = m 145 j)
section C10l
variable {m : tM} {c L B : Int → Int}
theorem c_layAcross {k s : Int} {K : Int → tM → Prop} (hc : CE m c) (hn : NS c 384 (m 158) (m 159) (m 160)) (hL : LDS c (4 * oN c 384) L B) (k0 : 0 ≤ k) (k1 : k < oN c 384) (s0 : 0 ≤ s) (s1 : s < 4) (ht : 0 ≤ m 164 k ∧ m 164 k < 4) (hb : bL 100 (labL m k)) (hold : m 161 (aqL L k s) = 1 → ∀ m', FR3 m m' → (∀ c, 161 ≤ c → c ≤ 164 → m' c = m c) → (labL m (aqL L k s) = crL L k s (labL m k) → K 0 m') ∧ (labL m (aqL L k s) ≠ crL L k s (labL m k) → K 2 m')) (hnew : m 161 (aqL L k s) ≠ 1 → ∀ m', FR3 m m' → m' 161 = ur (m 161) (aqL L k s) 1 → labL m' (aqL L k s) = crL L k s (labL m k) → (∀ x, x ≠ aqL L k s → labL m' x = labL m x) → K 1 m') : Cli mX12_layAcross [rV 145, iV k, iV s] m K := by
  obtain ⟨p, d, p0, d0, ho, eq, -⟩ := sq_ex k0 k1
  have cr := cr_r p0.1 p0.2 d0.1 d0.2 s0 s1 ho
  have ob := oN_384 c cr.1.1 cr.1.2 cr.2.1.1 cr.2.1.2 cr.2.2.2.1
  have ob0 := oN_384 c p0.1 p0.2 d0.1 d0.2 ho
  have l := (hL.at p0 d0 ⟨s0, s1⟩ ho).1
  rw [eq] at l
  have t := cr.2.2.1
  have eo : aqL L k s = oN c (sq (cP c p d s) (cD c p d s)) := by unfold aqL; rw [l]; omega
  have et : L (4 * k + s) % 4 = cS c p d s := by rw [l]; omega
  rw [eo] at hold hnew
  refine wX12_layAcross_0 (c_findAcross hc hn p0.1 p0.2 d0.1 d0.2 s0 s1 ho eq.symm (fun m1 fa => ?_))
  obtain ⟨a1, a2, a3, a4, a5⟩ := fa
  have e162 : m1 162 = m 162 := a1 162 (by omega)
  have e163 : m1 163 = m 163 := a1 163 (by omega)
  have e164 : m1 164 = m 164 := a1 164 (by omega)
  have b1 : -100 ≤ m 162 k ∧ m 162 k ≤ 100 := hb.1
  have b2 : -100 ≤ m 163 k ∧ m 163 k ≤ 100 := hb.2
  have xr := dX_r ((s + m 164 k) % 4)
  have yr := dY_r ((s + m 164 k) % 4)
  have fr1 : FR3 m m1 := ⟨fun c c1 _ => a1 c c1, a2⟩
  rw [e164]
  refine ⟨⟨k0, by omega, by constructor <;> omega, by omega⟩, c_stepXM ⟨by rw [e162]; constructor <;> omega, c_stepYM ?_⟩⟩
  rw [a3, a4]
  generalize oN c (sq (cP c p d s) (cD c p d s)) = o at *
  refine ⟨⟨by rw [e163]; constructor <;> omega, by constructor <;> omega, by constructor <;> omega, by constructor <;> omega, by omega, by omega, by omega⟩, ?_⟩
  have E : (m 162 k + dX ((s + m 164 k) % 4), m 163 k + dY ((s + m 164 k) % 4), ((s + m 164 k) % 4 + 2 - cS c p d s + 4) % 4) = crL L k s (labL m k) := by
    refine l3_ext rfl rfl ?_
    show _ = (s + m 164 k + 2 - L (4 * k + s) % 4) % 4
    rw [et]
    omega
  rw [← E] at hold hnew
  rw [a1 161 (by omega), e162, e163, e164]
  refine ⟨fun g => ?_, fun g => ⟨_, rfl, hnew g _ ⟨fun x x1 x2 => ?_, fun j j1 j2 j3 => ?_⟩ ?_ ?_ (fun x hx => ?_)⟩⟩
  · obtain ⟨k0', k2'⟩ := hold g m1 fr1 (fun x x1 x2 => a1 x (by omega))
    refine ⟨fun g1 => ⟨fun g2 v hv => ⟨_, rfl, ?_⟩, fun g2 => ⟨_, rfl, k2' (fun z => g2 (congrArg (fun z : L3 => z.2.1) z))⟩⟩, fun g1 => ⟨_, rfl, k2' (fun z => g1 (congrArg (fun z : L3 => z.1) z))⟩⟩
    by_cases g3 : m 164 o = ((s + m 164 k) % 4 + 2 - cS c p d s + 4) % 4
    · rw [if_pos g3] at hv
      rw [hv]
      exact k0' (l3_ext g1 g2 g3)
    · rw [if_neg g3] at hv
      rw [hv]
      exact k2' (fun z => g3 (congrArg (fun z : L3 => z.2.2) z))
  · rw [up_ne _ _ _ (by omega), up_ne _ _ _ (by omega), up_ne _ _ _ (by omega), up_ne _ _ _ (by omega), a1 x x1]
  · rw [up_ne _ _ _ (by omega), up_ne _ _ _ (by omega), up_ne _ _ _ (by omega), up_ne _ _ _ (by omega), a2 j j1 j2 j3]
  · rw [up_ne _ _ _ (by omega), up_ne _ _ _ (by omega), up_ne _ _ _ (by omega), ← a1 161 (by omega)]
    exact sr_eq _ _ _
  · refine l3_ext ?_ ?_ ?_
    · rw [up_ne _ _ _ (by omega), up_ne _ _ _ (by omega), up_at]
    · rw [up_ne _ _ _ (by omega), up_at]
    · rw [up_at]
  · refine l3_ext ?_ ?_ ?_
    · rw [up_ne _ _ _ (by omega), up_ne _ _ _ (by omega), up_at_ne _ _ _ hx, up_ne _ _ _ (by omega), e162]
    · rw [up_ne _ _ _ (by omega), up_at_ne _ _ _ hx, up_ne _ _ _ (by omega), up_ne _ _ _ (by omega), e163]
    · rw [up_at_ne _ _ _ hx, up_ne _ _ _ (by omega), up_ne _ _ _ (by omega), up_ne _ _ _ (by omega), e164]
end C10l
