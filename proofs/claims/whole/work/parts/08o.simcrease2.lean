/-! crease: the class, and both sides -/
section C8o
variable {m : tM}
theorem RepC.rows {m m' : tM} {a : Nat} {s : SS} (h : RepC (m a 3) (m (a + 1)) (m (a + 2)) (m (a + 3)) s) (hr : ∀ c, a ≤ c → c ≤ a + 3 → m' c = m c) : RepC (m' a 3) (m' (a + 1)) (m' (a + 2)) (m' (a + 3)) s := by
  rw [hr a (by omega) (by omega), hr (a + 1) (by omega) (by omega), hr (a + 2) (by omega) (by omega), hr (a + 3) (by omega) (by omega)]
  exact h
theorem c_creaseC {x y d q : Int} {s : SS} {K : Int → tM → Prop} (hr : RepC (m 6 3) (m 7) (m 8) (m 9) s) (hw : WF s) (h1 : 0 ≤ m 10 1 ∧ m 10 1 < 8) (h2 : 0 ≤ m 10 2 ∧ m 10 2 ≤ 8)
    (hbad : ¬ (((-30 ≤ x ∧ x ≤ 30) ∧ (-30 ≤ y ∧ y ≤ 30)) ∧ (0 ≤ d ∧ d < 4) ∧ 0 ≤ crM q) → K (-3) m)
    (hno : (((-30 ≤ x ∧ x ≤ 30) ∧ (-30 ≤ y ∧ y ≤ 30)) ∧ (0 ≤ d ∧ d < 4) ∧ 0 ≤ crM q) → ¬ (s.1 x y ∧ s.1 (x + dX d) (y + dY d)) → K (-4) m)
    (hok : (((-30 ≤ x ∧ x ≤ 30) ∧ (-30 ≤ y ∧ y ≤ 30)) ∧ (0 ≤ d ∧ d < 4) ∧ 0 ≤ crM q) → s.1 x y → s.1 (x + dX d) (y + dY d) → ∀ mk, KP m mk → ∀ m1, (∀ c, c ≠ 9 → m1 c = mk c) → RepC (m1 6 3) (m1 7) (m1 8) (m1 9) (setS s x y d (crM q)) → K (tld (s4 s x y d)) m1) : Cli mX11_crease [rV 0, iV x, iV y, iV d, iV q] m K := by
  have n0 := hr.1.1
  have n1 := hr.1.2.1
  refine wX11_crease_0 (c_creaseMeant (c_isOnTable ⟨fun c => ⟨_, rfl, hbad (fun e => by rw [if_pos e.1.1] at c; omega)⟩, fun c => ?_⟩))
  have p1 : -30 ≤ x ∧ x ≤ 30 := by
    by_cases g : -30 ≤ x ∧ x ≤ 30
    · exact g
    · rw [if_neg g] at c; exact absurd rfl c
  refine c_isOnTable ⟨fun c => ⟨_, rfl, hbad (fun e => by rw [if_pos e.1.2] at c; omega)⟩, fun c => ?_⟩
  have p2 : -30 ≤ y ∧ y ≤ 30 := by
    by_cases g : -30 ≤ y ∧ y ≤ 30
    · exact g
    · rw [if_neg g] at c; exact absurd rfl c
  refine c_isWithin ⟨fun c => ⟨_, rfl, hbad (fun e => by rw [if_pos e.2.1] at c; omega)⟩, fun c => ?_⟩
  have p3 : 0 ≤ d ∧ d < 4 := by
    by_cases g : 0 ≤ d ∧ d < 4
    · exact g
    · rw [if_neg g] at c; exact absurd rfl c
  refine ⟨fun c => ⟨_, rfl, hbad (fun e => by omega)⟩, fun c => ?_⟩
  have hv : ((-30 ≤ x ∧ x ≤ 30) ∧ (-30 ≤ y ∧ y ≤ 30)) ∧ (0 ≤ d ∧ d < 4) ∧ 0 ≤ crM q := ⟨⟨p1, p2⟩, p3, by omega⟩
  refine c_find shS_6 n0 n1 hr.1.2.2.1 ?_
  show (fnd (m 6 3) (m 7) (m 8) x y < 0 → _) ∧ (¬ fnd (m 6 3) (m 7) (m 8) x y < 0 → _)
  refine ⟨fun c => ⟨_, rfl, hno hv (fun e => (hr.1.fnd_iff x y).mp e.1 ?_)⟩, fun c => ?_⟩
  · rcases fnd_cases (m 6 3) (m 7) (m 8) x y with g | g
    · exact g.1
    · omega
  rcases fnd_cases (m 6 3) (m 7) (m 8) x y with g | g
  · omega
  generalize fnd (m 6 3) (m 7) (m 8) x y = k at g c ⊢
  obtain ⟨k0, k1, kx, ky⟩ := g
  have sxy : s.1 x y := (hr.1.2.2.2 x y).mpr ⟨k, k0, k1, kx, ky⟩
  refine c_beside shS_6 n0 n1 hr.1.2.2.1 (hr.1.rch hw) k0 k1 p3.1 p3.2 ?_
  show (nbr (m 6 3) (m 7) (m 8) k d < 0 → _) ∧ (¬ nbr (m 6 3) (m 7) (m 8) k d < 0 → _)
  have nbe : nbr (m 6 3) (m 7) (m 8) k d = fnd (m 6 3) (m 7) (m 8) (x + dX d) (y + dY d) := by unfold nbr; rw [kx, ky]
  rw [nbe]
  refine ⟨fun c2 => ⟨_, rfl, hno hv (fun e => (hr.1.fnd_iff _ _).mp e.2 ?_)⟩, fun c2 => ?_⟩
  · rcases fnd_cases (m 6 3) (m 7) (m 8) (x + dX d) (y + dY d) with g | g
    · exact g.1
    · omega
  rcases fnd_cases (m 6 3) (m 7) (m 8) (x + dX d) (y + dY d) with g | g
  · omega
  generalize fnd (m 6 3) (m 7) (m 8) (x + dX d) (y + dY d) = j at g c2 ⊢
  obtain ⟨j0, j1, jx, jy⟩ := g
  have sn : s.1 (x + dX d) (y + dY d) := (hr.1.2.2.2 _ _).mpr ⟨j, j0, j1, jx, jy⟩
  refine c_keep h1 h2 ⟨n0, n1⟩ (fun mk kp => c_creaseAt shS_6 k0 (by omega) p3.1 p3.2 ?_)
  have f : ∀ c, c < 10 → mk c = m c := fun c hc => kp.fr (by omega)
  have e9 : mk (6 + 3) = m 9 := f 9 (by omega)
  refine c_join shS_6 k0 (by omega) j0 (by omega) p3.1 p3.2 ?_
  rw [e9]
  have s4v : m 9 (4 * k + d) = s4 s x y d := by
    have := hr.2 k d k0 k1 p3.1 p3.2
    rw [kx, ky] at this
    exact this
  rw [s4v]
  have sr' := s4_r hw x y d
  have rep : RepC ((sr mk (6 + 3) (ur (ur (m 9) (4 * k + d) (crM q)) (4 * j + (d + 2) % 4) (crM q))) 6 3) ((sr mk (6 + 3) (ur (ur (m 9) (4 * k + d) (crM q)) (4 * j + (d + 2) % 4) (crM q))) 7) ((sr mk (6 + 3) (ur (ur (m 9) (4 * k + d) (crM q)) (4 * j + (d + 2) % 4) (crM q))) 8) ((sr mk (6 + 3) (ur (ur (m 9) (4 * k + d) (crM q)) (4 * j + (d + 2) % 4) (crM q))) 9) (setS s x y d (crM q)) := by
    rw [sr_ne _ _ (by omega : (6 : Nat) ≠ 6 + 3), sr_ne _ _ (by omega : (7 : Nat) ≠ 6 + 3), sr_ne _ _ (by omega : (8 : Nat) ≠ 6 + 3), show (9 : Nat) = 6 + 3 from rfl, sr_eq, f 6 (by omega), f 7 (by omega), f 8 (by omega)]
    have := hr.join (v := crM q) k0 k1 j0 j1 p3.1 p3.2 (by rw [jx, kx]) (by rw [jy, ky])
    rw [kx, ky] at this
    exact this
  have done := hok hv sxy sn mk kp _ (fun c hc => sr_ne _ _ hc) rep
  unfold tld at done
  refine ⟨fun c3 => ⟨_, rfl, ?_⟩, fun c3 => ⟨by constructor <;> omega, c_toldStep ⟨_, rfl, ?_⟩⟩⟩
  · rw [if_pos c3] at done; exact done
  · rw [if_neg c3] at done
    by_cases e1 : s4 s x y d = 1
    · rw [if_pos e1] at done; rw [if_pos (by omega)]; exact done
    · rw [if_neg e1] at done; rw [if_neg (by omega)]; exact done
theorem sim_crease {x y d q : Int} {K : Int → Int → tM → Prop} (hc : Cur m) (hh : HisR m) (h : ∀ r m', Cur m' → HisR m' → OTH m m' → K r r m') : Cli mX11_crease [rV 0, iV x, iV y, iV d, iV q] m (fun r m1 => Cli mX12_crease [rV 145, iV x, iV y, iV d, iV q] m1 (fun r' m2 => K r r' m2)) := by
  obtain ⟨a, b, c, d', -, -⟩ := id hh
  obtain ⟨hB, hE, s, hw, rc, rm⟩ := id hc
  have idle := sim_idle hc hh
  have c13 : 0 ≤ m 145 13 ∧ m 145 13 ≤ 8 := by rw [c]; exact b
  refine c_creaseC rc hw a b (fun g => ?_) (fun g g2 => ?_) (fun g g1 g2 mk kp m1 f1 rep => ?_)
  · exact c_creaseM rm hw d' c13 (fun _ => h _ _ idle.1 idle.2.1 idle.2.2) (fun e => absurd e g) (fun e => absurd e g)
  · exact c_creaseM rm hw d' c13 (fun e => absurd g e) (fun _ _ => h _ _ idle.1 idle.2.1 idle.2.2) (fun _ e1 e2 => absurd ⟨e1, e2⟩ g2)
  · have e145 : m1 145 = m 145 := by rw [f1 145 (by omega), kp.fr (by omega)]
    have rr : ∀ c, 149 ≤ c → c ≤ 152 → m1 c = m c := fun c c0 c1 => by rw [f1 c (by omega), kp.fr (by omega)]
    refine c_creaseM (rm.rows (by rw [e145]) rr) hw (by rw [e145]; exact d') (by rw [e145]; exact c13) (fun e => absurd g e) (fun _ e => absurd ⟨g1, g2⟩ e) (fun _ _ _ m3 km m4 f4 rep4 => ?_)
    obtain ⟨his, r3, r3', -⟩ := sim_keep hc hh kp (fun c hc => f1 c (by omega)) rfl km
    have v0 := g.2.2
    have v1 := (crM_r q).2
    obtain ⟨x1, x2, x3⟩ := sim_end hc his r3 (m4 := m4) (fun c hc => f4 c (by omega) (by omega)) (by rw [f4 145 (by omega) (by omega)]) (by rw [f4 145 (by omega) (by omega)]) ⟨setS s x y d (crM q), hw.set g.2.1.1 g.2.1.2 v0 v1 (fun _ => ⟨g1, g2⟩), by
      have t : ∀ c, c < 145 → m4 c = m1 c := fun c hc => by rw [f4 c (by omega) (by omega), r3' c hc]
      rw [t 6 (by omega), t 7 (by omega), t 8 (by omega), t 9 (by omega)]; exact rep, rep4⟩
    exact h _ _ x1 x2 x3
end C8o
