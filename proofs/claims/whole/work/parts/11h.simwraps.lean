/-! wraps and way, on both sides -/
theorem WLL_in {s : SS} {L : Int → Int} {n x0 y0 v : Int} (n0 : 0 ≤ n) (n1 : n ≤ 60) (h : v ∈ WLL s L n x0 y0) : 0 ≤ v ∧ v < 480 := by
  unfold WLL at h
  rw [List.mem_append] at h
  rcases h with h | h
  · have := fl_in _ v h; omega
  · have := fl_in _ v h; omega
theorem WLL_len (s : SS) (L : Int → Int) {n : Int} (x0 y0 : Int) (n0 : 0 ≤ n) (n1 : n ≤ 60) : (WLL s L n x0 y0).length ≤ 480 := by
  unfold WLL
  rw [List.length_append]
  have a := fl_len (fun k => WRP s L 0 x0 y0 k) 0 (4 * n).toNat
  have b := fl_len (fun k => WRP s L 1 x0 y0 k) 240 (4 * n).toNat
  omega
section C11h
variable {m : tM}
theorem wrap_rel {m' : tM} {s : SS} (h : Rel m) (f1 : ∀ x, x < 120 ∨ (123 < x ∧ x < 128) ∨ (132 < x ∧ x < 145) ∨ (145 < x ∧ x < 149) ∨ (152 < x ∧ x < 156) → m' x = m x) (e12 : m' 145 12 = m 145 12) (e13 : m' 145 13 = m 145 13) (ws : WF s) (rc : RepC (m 6 3) (m 7) (m 8) (m 9) s) (rm : RepM (m' 145 4) (m' 149) (m' 150) (m' 151) (m' 152) s) : Rel m' := by
  obtain ⟨hc, hh, hu, hs, hp⟩ := h
  obtain ⟨hB, hE, -⟩ := hc
  refine ⟨⟨?_, ?_, s, ws, ?_, rm⟩, hh.congr (fun a a0 a1 => f1 a (by omega)) (f1 155 (by omega)) e12 e13, ?_, hs.congr (fun x hx => f1 x (by omega)), by rw [f1 125 (by omega)]; exact hp⟩
  · rw [f1 3 (by omega), f1 146 (by omega), f1 147 (by omega)]; exact hB
  · rw [f1 5 (by omega), f1 147 (by omega), f1 148 (by omega)]; exact hE
  · rw [f1 6 (by omega), f1 7 (by omega), f1 8 (by omega), f1 9 (by omega)]; exact rc
  · show HU m' (nrm (m' 147))
    rw [f1 147 (by omega)]
    exact hu.congr (fun a a0 a1 => f1 a (by omega))
theorem ref_wraps {mm : tM} {s : SS} {i : Int} {G Z : tM → Prop} (h : Rel m) (ws : WF s) (rc : RepC (m 6 3) (m 7) (m 8) (m 9) s) (rm : RepM (m 145 4) (m 149) (m 150) (m 151) (m 152) s) (fm : ∀ x, x < 120 ∨ (123 < x ∧ x < 128) ∨ 132 < x → mm x = m x) (hz : m 109 7 ≠ 0 → ∀ m2, Rel m2 → Z m2) (hg : m 109 7 = 0 → ∀ m2, Rel m2 → (m 6 3 ≠ m 109 6 → m2 145 45 = 0) → (m 6 3 = m 109 6 → RFL (WLL s (m 113) (m 6 3) (m 7 0) (m 8 0)) i m2) → G m2) : Cli mX12_wellOf [rV 145] (up mm 145 0 0) (fun r1 m1 => (r1 = 0 → Clv mX12_findWraps [rV 145, iV i] m1 G) ∧ (¬ r1 = 0 → Z m1)) := by
  obtain ⟨hc, hh, hu, hs, hp⟩ := id h
  have ce := hc.eq
  have u : ∀ x, x < 120 ∨ (123 < x ∧ x < 128) ∨ (132 < x ∧ x ≠ 145) → (up mm 145 0 0) x = m x := fun x hx => by rw [up_ne _ _ _ (by omega), fm x (by omega)]
  have u145 : ∀ j, j ≠ 0 → (up mm 145 0 0) 145 j = m 145 j := fun j hj => by rw [up_at_ne _ _ _ hj, fm 145 (by omega)]
  refine c_wellOf (c := nrm (m 147)) (fun p p0 p1 => by rw [u 147 (by omega)]; exact ceN m p p0 p1) hu.1 (fun w m1 hw fr => ?_)
  have ew := FLT.uniq hu.2.2.2.1 hw
  rw [← ew]
  have g1 : ∀ x, x < 120 ∨ (123 < x ∧ x < 128) ∨ (132 < x ∧ x ≠ 145 ∧ x ≠ 156 ∧ x ≠ 157) → m1 x = m x := fun x hx => by rw [fr x (by omega) (by omega), u x (by omega)]
  have j1 : ∀ j, j ≠ 0 → m1 145 j = m 145 j := fun j hj => by rw [fr 145 (by omega) (by omega), u145 j hj]
  have r1 : RepM (m1 145 4) (m1 149) (m1 150) (m1 151) (m1 152) s := by
    rw [j1 4 (by omega), g1 149 (by omega), g1 150 (by omega), g1 151 (by omega), g1 152 (by omega)]; exact rm
  refine ⟨fun z => ?_, fun z => hz z m1 (wrap_rel h (fun x hx => g1 x (by omega)) (j1 12 (by omega)) (j1 13 (by omega)) ws rc r1)⟩
  have np : 0 < oN (nrm (m 147)) 384 := by
    have w := hu.2.2.2.1
    rw [z] at w
    exact FLT.pos w
  refine c_findWraps (c := nrm (m 147)) (L := m 113) (B := m 114) (n := m 6 3) r1 ws (by rw [j1 4 (by omega), ce.1]) np (fun p p0 p1 => by rw [g1 147 (by omega)]; exact ceN m p p0 p1) hu.2.2.2.2.2 hu.skn (fun m2 f2 r2 a1 a2 => ?_)
  refine hg z m2 (wrap_rel h (fun x hx => by rw [f2.1 x (by omega), g1 x (by omega)]) (by rw [f2.2 12 (by omega), j1 12 (by omega)]) (by rw [f2.2 13 (by omega), j1 13 (by omega)]) ws rc r2) (fun ne => a1 (fun e => ne (by rw [hu.2.2.1, e]))) (fun e => ?_)
  have en : oN (nrm (m 147)) 384 = m 6 3 := by rw [e, hu.2.2.1]
  have := a2 en
  rw [g1 149 (by omega), g1 150 (by omega)] at this
  have e0 := ce.2 0 (by omega) (by omega)
  rw [e0.1, e0.2]
  exact this
theorem sim_wraps {K : Int → Int → tM → Prop} (h : Rel m) (hk : ∀ r m', Rel m' → K r r m') : Cli mX11_wraps [rV 0] m (fun r m1 => Cli mX12_wraps [rV 145] m1 (fun r' m2 => K r r' m2)) := by
  obtain ⟨hc, hh, hu, hs, hp⟩ := id h
  obtain ⟨-, -, s, ws, rc, rm⟩ := id hc
  refine wX11_wraps_0 (wX9_fault_0 ⟨_, rfl, fun z => c_seek rc ws hu (fun m1 f1 a1 a2 => wX10_ways_0 ⟨_, rfl, _, rfl, wX12_wraps_0 (ref_wraps h ws rc rm f1 (fun y => absurd z y) (fun _ m2 rel b1 b2 => ⟨_, rfl, ?_⟩))⟩), fun z => ⟨_, rfl, wX12_wraps_0 (ref_wraps h ws rc rm (fun _ _ => rfl) (fun _ m2 rel => ⟨_, rfl, hk _ _ rel⟩) (fun y => absurd y z))⟩⟩)
  have e : m1 128 4 = m2 145 45 := by
    by_cases q : m 6 3 = m 109 6
    · rw [(a2 q).1, (b2 q).1]
    · rw [a1 q, b1 q]
  rw [e]
  exact hk _ _ rel
theorem sim_way {x1 x2 : Int} {K : Int → Int → tM → Prop} (h : Rel m) (hk : ∀ r m', Rel m' → K r r m') : Cli mX11_way [rV 0, iV x1, iV x2] m (fun r m1 => Cli mX12_way [rV 145, iV x1, iV x2] m1 (fun r' m2 => K r r' m2)) := by
  obtain ⟨hc, hh, hu, hs, hp⟩ := id h
  obtain ⟨-, -, s, ws, rc, rm⟩ := id hc
  have nn := hc.n
  refine wX11_way_0 ⟨fun g => ⟨_, rfl, wX12_way_0 ⟨fun _ => ⟨_, rfl, hk _ _ (rel_up0 h)⟩, fun y => absurd g y⟩⟩, fun g => c_isWithin ⟨fun g2 => ⟨_, rfl, wX12_way_0 ⟨fun y => absurd y g, fun _ => c_in ⟨fun _ => ⟨_, rfl, hk _ _ (rel_up0 h)⟩, fun y => absurd (if11 y) (by have := if10 g2; omega)⟩⟩⟩, fun g2 => ?_⟩⟩
  have pw := if11 g2
  -- the reference, up to its search
  have ref : ∀ (mm : tM) (v : Int), (∀ x, x < 120 ∨ (123 < x ∧ x < 128) ∨ 132 < x → mm x = m x) → (m 109 7 ≠ 0 → v = -4) → (m 109 7 = 0 → ∀ m2 : tM, (m 6 3 ≠ m 109 6 → m2 145 45 = 0) → (m 6 3 = m 109 6 → RFL (WLL s (m 113) (m 6 3) (m 7 0) (m 8 0)) x1 m2) → v = (if x1 < (m2 145 45) then (if x2 = 0 then (m2 145 46) else (if x2 = 1 then (m2 145 47) else (m2 145 48))) else (-1))) → Cli mX12_way [rV 145, iV x1, iV x2] mm (fun r' m2 => K v r' m2) := fun mm v fm v1 v2 => by
    refine wX12_way_0 ⟨fun y => absurd y g, fun _ => c_in ⟨fun y => absurd (by omega) (if10 y), fun _ => ref_wraps h ws rc rm fm (fun z m2 rel => ⟨_, rfl, by rw [v1 z]; exact hk _ _ rel⟩) (fun z m2 rel b1 b2 v' hv' => ⟨_, rfl, ?_⟩)⟩⟩
    rw [hv', ← v2 z m2 b1 b2]
    exact hk _ _ rel
  refine wX9_fault_0 ⟨_, rfl, fun z => c_seek rc ws hu (fun m1 f1 a1 a2 => wX10_ways_0 ⟨_, rfl, fun lt => ?_, fun ge => ⟨_, rfl, ref m1 (-1) f1 (fun y => absurd z y) (fun _ m2 b1 b2 => ?_)⟩⟩), fun z => ⟨_, rfl, ref m (-4) (fun _ _ => rfl) (fun _ => rfl) (fun y => absurd y z)⟩⟩
  · have q : m 6 3 = m 109 6 := Classical.byContradiction (fun q => by rw [a1 q] at lt; omega)
    obtain ⟨l1, l2⟩ := a2 q
    have len := WLL_len s (m 113) (m 7 0) (m 8 0) nn.1 nn.2
    have il : x1.toNat < (WLL s (m 113) (m 6 3) (m 7 0) (m 8 0)).length := by omega
    have ev := List.getElem?_eq_getElem il
    generalize (WLL s (m 113) (m 6 3) (m 7 0) (m 8 0))[x1.toNat] = v at ev
    have vr := WLL_in nn.1 nn.2 (List.mem_of_getElem? ev)
    have ew := l2 x1.toNat v ev
    rw [ix_cast (by omega)] at ew
    have eb : bShr (m1 132 x1) 2 = v / 4 := by rw [ew]; exact bShr_2 (by constructor <;> omega)
    have ea : bAnd (m1 132 x1) 3 = v % 4 := by rw [ew]; exact bAnd_3 (by constructor <;> omega)
    have fin : ∀ r : Int, (x2 = 0 → r = v % 240 / 4) → (x2 = 1 → r = v % 4) → (x2 = 2 → r = v / 240) → Cli mX12_way [rV 145, iV x1, iV x2] m1 (fun r' m2 => K r r' m2) := fun r r0 r1 r2 => by
      refine ref m1 r f1 (fun y => absurd z y) (fun _ m2 b1 b2 => ?_)
      obtain ⟨c1, c2⟩ := b2 q
      obtain ⟨d1, d2, d3⟩ := c2 v (by omega) ev
      rw [if_pos (by omega)]
      by_cases w0 : x2 = 0
      · rw [if_pos w0, d1]; exact r0 w0
      · by_cases w1 : x2 = 1
        · rw [if_neg w0, if_pos w1, d2]; exact r1 w1
        · rw [if_neg w0, if_neg w1, d3]; exact r2 (by omega)
    refine ⟨fun w => wX10_squareOf_0 ?_, fun w => wX10_turnOf_0 ?_, fun w0 w1 => wX10_isTurnedOver_0 ⟨⟨by omega, by omega⟩, fun v1 h1 => ⟨_, rfl, fun v2 h2 => ⟨_, rfl, fin _ (fun y => absurd y w0) (fun y => absurd y w1) (fun _ => ?_)⟩⟩⟩⟩
    · rw [eb]
      exact ⟨⟨by omega, by omega, by omega⟩, _, rfl, _, rfl, fin _ (fun _ => by omega) (fun y => by omega) (fun y => by omega)⟩
    · rw [ea]
      exact ⟨⟨by omega, by omega⟩, _, rfl, _, rfl, fin _ (fun y => by omega) (fun _ => rfl) (fun y => by omega)⟩
    · rw [ew] at h1
      by_cases w : v < 240
      · rw [if_pos w] at h1
        rw [h2, if_pos h1]; omega
      · rw [if_neg w] at h1
        rw [h2, if_neg (by omega)]; omega
  · have e : m1 128 4 = m2 145 45 := by
      by_cases q : m 6 3 = m 109 6
      · rw [(a2 q).1, (b2 q).1]
      · rw [a1 q, b1 q]
    rw [if_neg (by omega)]
end C11h
