/-! crease, on both sides -/
def tld (v : Int) : Int := if v = 0 then 5 else if v = 1 then 9 else v - 2
section C8n
variable {m : tM}
theorem sim_idle (hc : Cur m) (hh : HisR m) : Cur (up m 145 0 0) ∧ HisR (up m 145 0 0) ∧ OTH m (up m 145 0 0) := by
  have r : ∀ c, c ≠ 145 → (up m 145 0 0) c = m c := fun c h => up_ne _ _ _ h
  refine ⟨?_, hh.congr (fun c c0 c1 => r c (by omega)) (r 155 (by omega)) (up_at_ne _ _ _ (by omega)) (up_at_ne _ _ _ (by omega)), fun c h => r c (by omega)⟩
  show STR _ _ _ _ _ _ _ _ _ _ _ _ _ _
  rw [r 3 (by omega), r 5 (by omega), r 6 (by omega), r 7 (by omega), r 8 (by omega), r 9 (by omega), r 146 (by omega), r 147 (by omega), r 148 (by omega), r 149 (by omega), r 150 (by omega), r 151 (by omega), r 152 (by omega), up_at_ne _ _ _ (by omega : (4 : Int) ≠ 0)]
  exact hc
theorem c_toldOf {v : Int} {K : Int → tM → Prop} (v0 : 0 ≤ v) (v1 : v ≤ 3) (h : K (tld v) m) : Cli mX12_toldOf [iV v] m K := by
  unfold tld at h
  refine wX12_toldOf_0 ⟨fun c => ⟨_, rfl, by rw [if_pos c] at h; exact h⟩, fun c => ⟨fun c2 => ⟨_, rfl, by rw [if_neg c, if_pos c2] at h; exact h⟩, fun c2 => ⟨by constructor <;> omega, _, rfl, by rw [if_neg c, if_neg c2] at h; exact h⟩⟩⟩
theorem s4_r {s : SS} (h : WF s) (x y d : Int) : 0 ≤ s4 s x y d ∧ s4 s x y d ≤ 3 := by
  unfold s4
  split
  · exact h.2.1 _ _
  split
  · exact h.2.2.1 _ _
  split
  · exact h.2.1 _ _
  · exact h.2.2.1 _ _
theorem RepM.rows {m m' : tM} {s : SS} (h : RepM (m 145 4) (m 149) (m 150) (m 151) (m 152) s) (h4 : m' 145 4 = m 145 4) (hr : ∀ c, 149 ≤ c → c ≤ 152 → m' c = m c) : RepM (m' 145 4) (m' 149) (m' 150) (m' 151) (m' 152) s := by
  rw [h4, hr 149 (by omega) (by omega), hr 150 (by omega) (by omega), hr 151 (by omega) (by omega), hr 152 (by omega) (by omega)]
  exact h
theorem crM_r (q : Int) : -1 ≤ crM q ∧ crM q ≤ 3 := by unfold crM; (repeat' split) <;> omega
theorem c_creaseM {x y d q : Int} {s : SS} {K : Int → tM → Prop} (hr : RepM (m 145 4) (m 149) (m 150) (m 151) (m 152) s) (hw : WF s) (h12 : 0 ≤ m 145 12 ∧ m 145 12 < 8) (h13 : 0 ≤ m 145 13 ∧ m 145 13 ≤ 8)
    (hbad : ¬ (((-30 ≤ x ∧ x ≤ 30) ∧ (-30 ≤ y ∧ y ≤ 30)) ∧ (0 ≤ d ∧ d < 4) ∧ 0 ≤ crM q) → K (-3) (up m 145 0 0))
    (hno : (((-30 ≤ x ∧ x ≤ 30) ∧ (-30 ≤ y ∧ y ≤ 30)) ∧ (0 ≤ d ∧ d < 4) ∧ 0 ≤ crM q) → ¬ (s.1 x y ∧ s.1 (x + dX d) (y + dY d)) → K (-4) (up m 145 0 0))
    (hok : (((-30 ≤ x ∧ x ≤ 30) ∧ (-30 ≤ y ∧ y ≤ 30)) ∧ (0 ≤ d ∧ d < 4) ∧ 0 ≤ crM q) → s.1 x y → s.1 (x + dX d) (y + dY d) → ∀ m3, KM (up m 145 0 0) m3 → ∀ m4, (∀ c, c ≠ 151 → c ≠ 152 → m4 c = m3 c) → RepM (m4 145 4) (m4 149) (m4 150) (m4 151) (m4 152) (setS s x y d (crM q)) → K (tld (s4 s x y d)) m4) : Cli mX12_crease [rV 145, iV x, iV y, iV d, iV q] m K := by
  generalize hm0 : up m 145 0 0 = m0 at hbad hno hok
  have q0 : ∀ j, j ≠ 0 → m0 145 j = m 145 j := fun j hj => by rw [← hm0, up_at_ne _ _ _ hj]
  have r0 : ∀ c, c ≠ 145 → m0 c = m c := fun c hc => by rw [← hm0, up_ne _ _ _ hc]
  have hr0 : RepM (m0 145 4) (m0 149) (m0 150) (m0 151) (m0 152) s := hr.rows (q0 4 (by omega)) (fun c c0 c1 => r0 c (by omega))
  have h0 := hr0.1.1
  have h1 := hr0.1.2.1
  -- behind the tests
  have core : (((-30 ≤ x ∧ x ≤ 30) ∧ (-30 ≤ y ∧ y ≤ 30)) ∧ (0 ≤ d ∧ d < 4) ∧ 0 ≤ crM q) → Tj mX12_crease 49 [some (rV 145), some (iV x), some (iV y), some (iV d), some (iV q)] [] m0 (fun r m' => ∃ n, r = some (iV n) ∧ K n m') := by
    intro hv
    obtain ⟨hxy, hd, hq⟩ := id hv
    refine wX12_crease_49 (c_spotAt h0 h1 hr0.1.2.2.1 ⟨fun c => ⟨_, rfl, hno hv (fun e => (hr0.1.fnd_iff x y).mp e.1 c)⟩, fun c => ?_⟩)
    rcases fnd_cases (m0 145 4) (m0 149) (m0 150) x y with g | g
    · exact absurd g.1 c
    generalize fnd (m0 145 4) (m0 149) (m0 150) x y = k at g c ⊢
    obtain ⟨k0, k1, kx, ky⟩ := g
    have sxy : s.1 x y := (hr0.1.2.2.2 x y).mpr ⟨k, k0, k1, kx, ky⟩
    refine c_neighbour h0 h1 hr0.1.2.2.1 (hr0.1.rch hw) k0 k1 ⟨fun c2 => ⟨_, rfl, hno hv (fun e => ?_)⟩, fun c2 => ?_⟩
    · unfold nbr at c2
      rw [kx, ky] at c2
      exact (hr0.1.fnd_iff _ _).mp e.2 c2
    have sn : s.1 (x + dX d) (y + dY d) := by
      rw [hr0.1.fnd_iff, ← kx, ← ky]; exact c2
    refine c_keepM (by rw [q0 12 (by omega)]; exact h12) (by rw [q0 13 (by omega)]; exact h13) (fun m3 km => ?_)
    obtain ⟨k1', k2', -, -, -, -⟩ := id km
    have hr3 : RepM (m3 145 4) (m3 149) (m3 150) (m3 151) (m3 152) s := hr0.rows (k2' 4 (by omega) (by omega) (by omega)) (fun c c0 c1 => k1' c (by omega) (by omega))
    have e4 : m3 145 4 = m0 145 4 := k2' 4 (by omega) (by omega) (by omega)
    have k3 : k < m3 145 4 := by rw [e4]; exact k1
    have ex : m3 149 k = x := by rw [k1' 149 (by omega) (by omega)]; exact kx
    have ey : m3 150 k = y := by rw [k1' 150 (by omega) (by omega)]; exact ky
    refine c_creaseOf hr3.1.1 hr3.1.2.1 hr3.1.2.2.1 (hr3.1.rch hw) k0 k3 hd.1 ?_
    rw [crO_rep hr3 hw k0 k3 hd.1 hd.2, ex, ey]
    have sr := s4_r hw x y d
    refine c_toldOf sr.1 sr.2 ?_
    have nb : nbr (m3 145 4) (m3 149) (m3 150) k d ≠ -1 := by
      rw [e4, k1' 149 (by omega) (by omega), k1' 150 (by omega) (by omega)]; exact c2
    have fin : ∀ v, v = crM q → Clv mX12_setCrease [rV 145, iV k, iV d, iV v] m3 (fun m4 => ∃ n, some (iV (tld (s4 s x y d))) = some (iV n) ∧ K n m4) := by
      intro v hv'
      subst hv'
      refine c_setCrease hr3 hw k0 k3 hd.1 hd.2 (fun e => absurd e nb) (fun m4 f1 f2 => ⟨_, rfl, ?_⟩)
      rw [ex, ey] at f2
      exact hok hv sxy sn m3 km m4 f1 f2
    unfold crM at hq fin
    refine ⟨fun c3 => fin 0 ?_, fun c3 => ⟨fun c4 => fin 1 ?_, fun c4 => ⟨?_, fin (2 + q) ?_⟩⟩⟩
    · subst c3; rfl
    · subst c4; rfl
    · by_cases a0 : q = 0
      · subst a0; decide
      · by_cases a1 : q = 1
        · subst a1; decide
        · rw [if_neg a0, if_neg a1, if_neg c3, if_neg c4] at hq; omega
    · by_cases a0 : q = 0
      · subst a0; rfl
      · by_cases a1 : q = 1
        · subst a1; rfl
        · rw [if_neg a0, if_neg a1, if_neg c3, if_neg c4] at hq; omega
  refine wX12_crease_0 ?_
  rw [hm0]
  refine c_isPlace ⟨fun c => ⟨_, rfl, hbad (fun e => by rw [if_pos e.1] at c; omega)⟩, fun c => ?_⟩
  have p1 : (-30 ≤ x ∧ x ≤ 30) ∧ (-30 ≤ y ∧ y ≤ 30) := by
    by_cases g : (-30 ≤ x ∧ x ≤ 30) ∧ (-30 ≤ y ∧ y ≤ 30)
    · exact g
    · rw [if_neg g] at c; exact absurd rfl c
  refine c_in ⟨fun c => ⟨_, rfl, hbad (fun e => by rw [if_pos (by omega)] at c; omega)⟩, fun c => ?_⟩
  have p2 : 0 ≤ d ∧ d < 4 := by
    by_cases g : 0 ≤ d ∧ d ≤ 3
    · omega
    · rw [if_neg g] at c; exact absurd rfl c
  refine ⟨fun c0 => core ⟨p1, p2, by subst c0; decide⟩, fun c0 => ⟨fun c1 => core ⟨p1, p2, by subst c1; decide⟩, fun c1 => ⟨fun c5 => core ⟨p1, p2, by subst c5; decide⟩, fun c5 => ⟨fun c9 => core ⟨p1, p2, by subst c9; decide⟩, fun c9 => ⟨_, rfl, hbad (fun e => ?_)⟩⟩⟩⟩⟩
  have e3 := e.2.2
  unfold crM at e3
  rw [if_neg c0, if_neg c1, if_neg c5, if_neg c9] at e3
  omega
end C8n
