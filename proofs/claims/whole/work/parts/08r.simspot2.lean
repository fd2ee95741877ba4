/-! spot: the class, and both sides -/
section C8r
variable {m : tM}
theorem c_spotC {x y on : Int} {s : SS} {K : Int → tM → Prop} (hr : RepC (m 6 3) (m 7) (m 8) (m 9) s) (hw : WF s) (h1 : 0 ≤ m 10 1 ∧ m 10 1 < 8) (h2 : 0 ≤ m 10 2 ∧ m 10 2 ≤ 8)
    (hbad : ¬ (((-30 ≤ x ∧ x ≤ 30) ∧ (-30 ≤ y ∧ y ≤ 30)) ∧ (on = 0 ∨ on = 1)) → K (-3) m)
    (hfull : ((-30 ≤ x ∧ x ≤ 30) ∧ (-30 ≤ y ∧ y ≤ 30)) → on = 1 → ¬ s.1 x y → ¬ m 6 3 < 60 → K (-5) m)
    (hadd : ((-30 ≤ x ∧ x ≤ 30) ∧ (-30 ≤ y ∧ y ≤ 30)) → on = 1 → ¬ s.1 x y → m 6 3 < 60 → ∀ mk, KP m mk → ∀ m1, (∀ c, c < 6 ∨ 9 < c → m1 c = mk c) → RepC (m1 6 3) (m1 7) (m1 8) (m1 9) (addS s x y) → K 0 m1)
    (hsame : ((-30 ≤ x ∧ x ≤ 30) ∧ (-30 ≤ y ∧ y ≤ 30)) → ∀ r, ((on = 1 ∧ s.1 x y ∧ r = 1) ∨ (on = 0 ∧ ¬ s.1 x y ∧ r = 0)) → ∀ mk, KP m mk → K r mk)
    (hrem : ((-30 ≤ x ∧ x ≤ 30) ∧ (-30 ≤ y ∧ y ≤ 30)) → on = 0 → s.1 x y → ∀ mk, KP m mk → ∀ m1, (∀ c, c < 6 ∨ 9 < c → m1 c = mk c) → RepC (m1 6 3) (m1 7) (m1 8) (m1 9) (delS (z4 s x y) x y) → K 1 m1) : Cli mX11_spot [rV 0, iV x, iV y, iV on] m K := by
  have n0 := hr.1.1
  have n1 := hr.1.2.1
  refine wX11_spot_0 (c_isOnTable ⟨fun c => ⟨_, rfl, hbad (fun e => by rw [if_pos e.1.1] at c; omega)⟩, fun c => ?_⟩)
  have p1 : -30 ≤ x ∧ x ≤ 30 := by
    by_cases g : -30 ≤ x ∧ x ≤ 30
    · exact g
    · rw [if_neg g] at c; exact absurd rfl c
  refine c_isOnTable ⟨fun c => ⟨_, rfl, hbad (fun e => by rw [if_pos e.1.2] at c; omega)⟩, fun c => ?_⟩
  have p2 : -30 ≤ y ∧ y ≤ 30 := by
    by_cases g : -30 ≤ y ∧ y ≤ 30
    · exact g
    · rw [if_neg g] at c; exact absurd rfl c
  refine c_isSwitch ⟨fun c => ⟨_, rfl, hbad (fun e => by rw [if_pos e.2] at c; omega)⟩, fun c => ?_⟩
  have p3 : on = 0 ∨ on = 1 := by
    by_cases g : on = 0 ∨ on = 1
    · exact g
    · rw [if_neg g] at c; exact absurd rfl c
  have rk : ∀ mk, KP m mk → RepC (mk 6 3) (mk 7) (mk 8) (mk 9) s := fun mk kp => RepC.rows (a := 6) hr (fun c c0 c1 => kp.fr (by omega))
  refine c_find shS_6 n0 n1 hr.1.2.2.1 ?_
  show (on = 1 → (fnd (m 6 3) (m 7) (m 8) x y < 0 → _) ∧ (¬ fnd (m 6 3) (m 7) (m 8) x y < 0 → _)) ∧ _
  have no : fnd (m 6 3) (m 7) (m 8) x y < 0 → ¬ s.1 x y := fun c e => by
    rcases fnd_cases (m 6 3) (m 7) (m 8) x y with g | g
    · exact (hr.1.fnd_iff x y).mp e g.1
    · omega
  have yes : ¬ fnd (m 6 3) (m 7) (m 8) x y < 0 → s.1 x y := fun c => (hr.1.fnd_iff x y).mpr (by omega)
  refine ⟨fun c2 => ⟨fun c3 => c_size shS_6 ⟨fun c4 => c_keep h1 h2 ⟨n0, n1⟩ (fun mk kp => ?_), fun c4 => ⟨_, rfl, hfull ⟨p1, p2⟩ c2 (no c3) c4⟩⟩, fun c3 => c_keep h1 h2 ⟨n0, n1⟩ (fun mk kp => ⟨_, rfl, hsame ⟨p1, p2⟩ 1 (Or.inl ⟨c2, yes c3, rfl⟩) mk kp⟩)⟩, fun c2 => c_keep h1 h2 ⟨n0, n1⟩ (fun mk kp => ⟨fun c3 => ⟨fun c4 => ⟨_, rfl, hsame ⟨p1, p2⟩ 0 (Or.inr ⟨c3, no c4, rfl⟩) mk kp⟩, fun c4 => ?_⟩, fun c3 => by omega⟩)⟩
  · have e6 : mk 6 = m 6 := kp.fr (by omega)
    refine c_add shS_6 (by rw [e6]; exact n0) (by rw [e6]; exact c4) (fun m1 i ad => ⟨_, rfl, ?_⟩)
    exact hadd ⟨p1, p2⟩ c2 (no c3) c4 mk kp m1 (fun c hc => ad.2.1 c (by omega)) (RepC.add (a := 6) (rk mk kp) hw (no c3) (by rw [e6]; exact c4) ad)
  · have c4 : ¬ fnd (m 6 3) (m 7) (m 8) x y < 0 := c4
    show Clv mX8_remove [rV 6, iV (fnd (m 6 3) (m 7) (m 8) x y)] mk _
    rcases fnd_cases (m 6 3) (m 7) (m 8) x y with g | g
    · omega
    have sxy := yes c4
    generalize fnd (m 6 3) (m 7) (m 8) x y = k at g c4 ⊢
    obtain ⟨k0, k1, kx, ky⟩ := g
    have e6 : mk 6 = m 6 := kp.fr (by omega)
    have e7 : mk 7 = m 7 := kp.fr (by omega)
    have e8 : mk 8 = m 8 := kp.fr (by omega)
    refine c_remove (a := 6) shS_6 (rk mk kp) hw k0 (by rw [e6]; exact k1) (fun m1 f1 f2 => ⟨_, rfl, ?_⟩)
    have f2' : RepC (m1 6 3) (m1 7) (m1 8) (m1 9) (delS (z4 s (mk 7 k) (mk 8 k)) (mk 7 k) (mk 8 k)) := f2
    rw [e7, e8, kx, ky] at f2'
    exact hrem ⟨p1, p2⟩ c3 sxy mk kp m1 (fun c hc => f1 c (by omega)) f2'
theorem sim_spot {x y on : Int} {K : Int → Int → tM → Prop} (hc : Cur m) (hh : HisR m) (h : ∀ r m', Cur m' → HisR m' → OTH m m' → K r r m') : Cli mX11_spot [rV 0, iV x, iV y, iV on] m (fun r m1 => Cli mX12_spot [rV 145, iV x, iV y, iV on] m1 (fun r' m2 => K r r' m2)) := by
  obtain ⟨a, b, c, d', -, -⟩ := id hh
  obtain ⟨hB, hE, s, hw, rc, rm⟩ := id hc
  have idle := sim_idle hc hh
  have ce := hc.eq
  have c13 : 0 ≤ m 145 13 ∧ m 145 13 ≤ 8 := by rw [c]; exact b
  -- the reference, behind a change of the class's sheet
  have rmk : ∀ mk, KP m mk → ∀ m1 : tM, (∀ c, c < 6 ∨ 9 < c → m1 c = mk c) → RepM (m1 145 4) (m1 149) (m1 150) (m1 151) (m1 152) s ∧ (0 ≤ m1 145 12 ∧ m1 145 12 < 8) ∧ (0 ≤ m1 145 13 ∧ m1 145 13 ≤ 8) ∧ m1 145 4 = m 145 4 := fun mk kp m1 f => by
    have e145 : m1 145 = m 145 := by rw [f 145 (by omega), kp.fr (by omega)]
    exact ⟨rm.rows (by rw [e145]) (fun c c0 c1 => by rw [f c (by omega), kp.fr (by omega)]), by rw [e145]; exact d', by rw [e145]; exact c13, by rw [e145]⟩
  refine c_spotC rc hw a b (fun g => ?_) (fun g g1 g2 g3 => ?_) (fun g g1 g2 g3 mk kp m1 f1 rep => ?_) (fun g r g1 mk kp => ?_) (fun g g1 g2 mk kp m1 f1 rep => ?_)
  · exact c_spotM rm hw d' c13 (fun _ => h _ _ idle.1 idle.2.1 idle.2.2) (fun e1 e2 => absurd ⟨e1, Or.inr e2⟩ g) (fun e1 e2 => absurd ⟨e1, Or.inr e2⟩ g) (fun e1 r e2 => absurd ⟨e1, by omega⟩ g) (fun e1 e2 => absurd ⟨e1, Or.inl e2⟩ g)
  · have n1 := rc.1.2.1
    exact c_spotM rm hw d' c13 (fun e => absurd ⟨g, Or.inr g1⟩ e) (fun _ _ _ _ => h _ _ idle.1 idle.2.1 idle.2.2) (fun _ _ _ e => by omega) (fun _ r e => by rcases e with e | e; exact absurd e.2.1 g2; omega) (fun _ e => by omega)
  · obtain ⟨rm1, k12, k13, k4⟩ := rmk mk kp m1 f1
    refine c_spotM rm1 hw k12 k13 (fun e => absurd ⟨g, Or.inr g1⟩ e) (fun _ _ _ e => by omega) (fun _ _ _ _ m3 km m4 f4 f5 rep4 => ?_) (fun _ r e => by rcases e with e | e; exact absurd e.2.1 g2; omega) (fun _ e => by omega)
    obtain ⟨his, r3, r3', -⟩ := sim_keep hc hh kp (fun c hc => f1 c (by omega)) rfl km
    obtain ⟨x1, x2, x3⟩ := sim_end hc his r3 (m4 := m4) (fun c hc => f4 c (by omega)) (f5 12 (by omega)) (f5 13 (by omega)) ⟨addS s x y, hw.add g.1 g.2, by
      have t : ∀ c, c < 145 → m4 c = m1 c := fun c hc => by rw [f4 c (by omega), r3' c hc]
      rw [t 6 (by omega), t 7 (by omega), t 8 (by omega), t 9 (by omega)]; exact rep, rep4⟩
    exact h _ _ x1 x2 x3
  · obtain ⟨rm1, k12, k13, k4⟩ := rmk mk kp mk (fun _ _ => rfl)
    have fin : ∀ r', r' = r → ∀ m3, KM (up mk 145 0 0) m3 → K r r' m3 := fun r' er m3 km => by
      subst er
      obtain ⟨his, r3, r3', r3''⟩ := sim_keep hc hh kp (fun c hc => rfl) rfl km
      obtain ⟨x1, x2, x3⟩ := sim_end hc his r3 (m4 := m3) (fun c hc => rfl) rfl rfl ⟨s, hw, by
        have t : ∀ c, c < 10 → m3 c = m c := fun c hc => by rw [r3' c (by omega), kp.fr (by omega)]
        rw [t 6 (by omega), t 7 (by omega), t 8 (by omega), t 9 (by omega)]; exact rc, rm.rows (r3'' 4 (by omega) (by omega) (by omega) (by omega)) (fun c c0 c1 => r3 c (by omega))⟩
      exact h _ _ x1 x2 x3
    refine c_spotM rm1 hw k12 k13 (fun e => absurd ⟨g, by omega⟩ e) (fun _ e1 e2 _ => ?_) (fun _ e1 e2 _ => ?_) (fun _ r' e m3 km => fin r' ?_ m3 km) (fun _ e1 e2 => ?_)
    · rcases g1 with e | e
      · exact absurd e.2.1 e2
      · omega
    · rcases g1 with e | e
      · exact absurd e.2.1 e2
      · omega
    · rcases g1 with e1 | e1 <;> rcases e with e | e
      · omega
      · omega
      · omega
      · omega
    · rcases g1 with e | e
      · omega
      · exact absurd e2 e.2.1
  · obtain ⟨rm1, k12, k13, k4⟩ := rmk mk kp m1 f1
    refine c_spotM rm1 hw k12 k13 (fun e => absurd ⟨g, Or.inl g1⟩ e) (fun _ e => by omega) (fun _ e => by omega) (fun _ r e => by rcases e with e | e; omega; exact absurd g2 e.2.1) (fun _ _ _ m3 km m4 f4 f5 rep4 => ?_)
    obtain ⟨his, r3, r3', -⟩ := sim_keep hc hh kp (fun c hc => f1 c (by omega)) rfl km
    obtain ⟨x1, x2, x3⟩ := sim_end hc his r3 (m4 := m4) (fun c hc => f4 c (by omega)) (f5 12 (by omega)) (f5 13 (by omega)) ⟨delS (z4 s x y) x y, (hw.z4 x y).del (fun d d0 d1 => s4_z4 s x y d0 d1), by
      have t : ∀ c, c < 145 → m4 c = m1 c := fun c hc => by rw [f4 c (by omega), r3' c hc]
      rw [t 6 (by omega), t 7 (by omega), t 8 (by omega), t 9 (by omega)]; exact rep, rep4⟩
    exact h _ _ x1 x2 x3
end C8r
