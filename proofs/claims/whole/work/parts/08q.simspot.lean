/-! spot, on both sides -/
section C8q
variable {m : tM}
/-- the reference takes spot k away -/
theorem c_removeM {k : Int} {s : SS} {K : Int → tM → Prop} (hr : RepM (m 145 4) (m 149) (m 150) (m 151) (m 152) s) (hw : WF s) (k0 : 0 ≤ k) (k1 : k < m 145 4) (h : ∀ m', (∀ c, c < 145 ∨ (145 < c ∧ c < 149) ∨ 152 < c → m' c = m c) → (∀ j, j ≠ 4 → m' 145 j = m 145 j) → RepM (m' 145 4) (m' 149) (m' 150) (m' 151) (m' 152) (delS (z4 s (m 149 k) (m 150 k)) (m 149 k) (m 150 k)) → K 1 m') : Tj mX12_spot 110 [some (rV 145), none, none, none, some (iV k), some (iV 0)] [] m (fun r m' => ∃ n, r = some (iV n) ∧ K n m') := by
  generalize hx : m 149 k = x at h
  generalize hy : m 150 k = y at h
  have step : ∀ (t : Int) (m1 : tM) (s' : SS), 0 ≤ t → t < 4 → WF s' → (∀ c, c ≠ 151 → c ≠ 152 → m1 c = m c) → RepM (m1 145 4) (m1 149) (m1 150) (m1 151) (m1 152) s' → (∀ m2, (∀ c, c ≠ 151 → c ≠ 152 → m2 c = m c) → RepM (m2 145 4) (m2 149) (m2 150) (m2 151) (m2 152) (setS s' x y t 0) → Tj mX12_spot 110 [some (rV 145), none, none, none, some (iV k), some (iV (t + 1))] [] m2 (fun r m' => ∃ n, r = some (iV n) ∧ K n m')) → Tj mX12_spot 110 [some (rV 145), none, none, none, some (iV k), some (iV t)] [] m1 (fun r m' => ∃ n, r = some (iV n) ∧ K n m') := by
    intro t m1 s' t0 t1 w' f rep nxt
    have e145 := f 145 (by omega) (by omega)
    refine wX12_spot_110 ⟨fun _ => c_setCrease rep w' k0 (by rw [e145]; exact k1) t0 t1 (fun _ => rfl) (fun m2 g1 g2 => ⟨by constructor <;> omega, nxt m2 (fun c c1 c2 => by rw [g1 c c1 c2, f c c1 c2]) ?_⟩), fun c => absurd t1 c⟩
    rw [f 149 (by omega) (by omega), f 150 (by omega) (by omega), hx, hy] at g2
    exact g2
  refine step 0 m s (by omega) (by omega) hw (fun _ _ _ => rfl) hr (fun m1 a1 p1 => step 1 m1 _ (by omega) (by omega) (hw.z (by omega) (by omega)) a1 p1 (fun m2 a2 p2 => step 2 m2 _ (by omega) (by omega) ((hw.z (by omega) (by omega)).z (by omega) (by omega)) a2 p2 (fun m3 a3 p3 => step 3 m3 _ (by omega) (by omega) (((hw.z (by omega) (by omega)).z (by omega) (by omega)).z (by omega) (by omega)) a3 p3 (fun m4 a4 p4 => ?_))))
  have e145 := a4 145 (by omega) (by omega)
  have n0 := hr.1.1
  have n1 := hr.1.2.1
  refine wX12_spot_110 ⟨fun c => by omega, fun _ => ?_⟩
  rw [e145]
  refine ⟨by constructor <;> omega, ?_⟩
  generalize hm5 : up m4 145 4 (m 145 4 - 1) = m5
  have q4 : m5 145 4 = m 145 4 - 1 := by rw [← hm5, up_at]
  have q5 : ∀ j, j ≠ 4 → m5 145 j = m 145 j := fun j hj => by rw [← hm5, up_at_ne _ _ _ hj, e145]
  have r5 : ∀ c, c ≠ 145 → m5 c = m4 c := fun c hc => by rw [← hm5, up_ne _ _ _ hc]
  have loop : ∀ (u : Nat) (i : Int), (m 145 4 - 1 - i).toNat = u → k ≤ i → i ≤ m 145 4 - 1 → ∀ m6, (∀ c, c < 149 ∨ 152 < c → m6 c = m5 c) → (∀ c, 149 ≤ c → c ≤ 152 → (∀ j, 0 ≤ j → j < k → m6 c j = m4 c j) ∧ (∀ j, k ≤ j → j < i → m6 c j = m4 c (j + 1)) ∧ (∀ j, i ≤ j → m6 c j = m4 c j)) → Tj mX12_spot 145 [some (rV 145), none, none, none, some (iV k), some (iV i)] [] m6 (fun r m' => ∃ n, r = some (iV n) ∧ K n m') := by
    intro u
    induction u with
    | zero =>
      intro i iu ki i1 m6 g1 g2
      have ie : i = m 145 4 - 1 := by omega
      have e6 : m6 145 = m5 145 := g1 145 (by omega)
      refine wX12_spot_145 ⟨fun c => by rw [e6, q4] at c; omega, fun _ v hv => ⟨v, rfl, ?_⟩⟩
      rw [hv, if_neg (by omega)]
      refine h m6 (fun c hc => ?_) (fun j hj => by rw [e6, q5 j hj]) ?_
      · rw [g1 c (by omega), r5 c (by omega), a4 c (by omega) (by omega)]
      · rw [e6, q4]
        have rw4 : ∀ c, 149 ≤ c → c ≤ 152 → (∀ j, 0 ≤ j → j < k → m6 c j = m4 c j) ∧ (∀ j, k ≤ j → j < m 145 4 - 1 → m6 c j = m4 c (j + 1)) := fun c c0 c1 => ⟨(g2 c c0 c1).1, fun j j0 j1 => (g2 c c0 c1).2.1 j j0 (by omega)⟩
        have A := rw4 149 (by omega) (by omega)
        have B := rw4 150 (by omega) (by omega)
        have C := rw4 151 (by omega) (by omega)
        have D := rw4 152 (by omega) (by omega)
        have p4' := p4
        rw [e145] at p4'
        refine ⟨?_, fun j j0 j1 => ?_⟩
        · have := p4'.1.del (X' := m6 149) (Y' := m6 150) k0 k1 (fun j j0 j1 => ⟨A.1 j j0 j1, B.1 j j0 j1⟩) (fun j j0 j1 => ⟨A.2 j j0 j1, B.2 j j0 j1⟩)
          rw [a4 149 (by omega) (by omega), a4 150 (by omega) (by omega), hx, hy] at this
          exact this
        · show m6 151 j = (z4 s x y).2.1 _ _ ∧ m6 152 j = (z4 s x y).2.2 _ _
          rcases Int.lt_or_le j k with t | t
          · rw [A.1 j j0 t, B.1 j j0 t, C.1 j j0 t, D.1 j j0 t]
            exact p4'.2 j j0 (by omega)
          · rw [A.2 j t j1, B.2 j t j1, C.2 j t j1, D.2 j t j1]
            exact p4'.2 (j + 1) (by omega) (by omega)
    | succ u ih =>
      intro i iu ki i1 m6 g1 g2
      have e6 : m6 145 = m5 145 := g1 145 (by omega)
      refine wX12_spot_145 ⟨fun _ => ⟨⟨by constructor <;> omega, by omega, by omega⟩, c_place (f := fun c => m6 c (i + 1)) (by omega) (by omega) (fun m7 p => ?_)⟩, fun c => by rw [e6, q4] at c; omega⟩
      refine ih (i + 1) (by omega) (by omega) (by omega) m7 (fun c hc => by rw [p.1 c hc, g1 c hc]) (fun c c0 c1 => ?_)
      obtain ⟨a, b, d⟩ := g2 c c0 c1
      have e := p.2 c c0 c1
      refine ⟨fun j j0 j1 => ?_, fun j j0 j1 => ?_, fun j j0 => ?_⟩
      · rw [e, ur_ne _ _ (by omega)]; exact a j j0 j1
      · by_cases q : j = i
        · subst q; rw [e, ur_eq]; exact d (j + 1) (by omega)
        · rw [e, ur_ne _ _ q]; exact b j j0 (by omega)
      · rw [e, ur_ne _ _ (by omega)]; exact d j (by omega)
  exact loop _ k rfl (Int.le_refl k) (by omega) m5 (fun _ _ => rfl) (fun c c0 c1 => ⟨fun j j0 j1 => by rw [r5 c (by omega)], fun j j0 j1 => by omega, fun j j0 => by rw [r5 c (by omega)]⟩)
/-- the reference's spot, by what it comes to -/
theorem c_spotM {x y on : Int} {s : SS} {K : Int → tM → Prop} (hr : RepM (m 145 4) (m 149) (m 150) (m 151) (m 152) s) (hw : WF s) (h12 : 0 ≤ m 145 12 ∧ m 145 12 < 8) (h13 : 0 ≤ m 145 13 ∧ m 145 13 ≤ 8)
    (hbad : ¬ (((-30 ≤ x ∧ x ≤ 30) ∧ (-30 ≤ y ∧ y ≤ 30)) ∧ (on = 0 ∨ on = 1)) → K (-3) (up m 145 0 0))
    (hfull : ((-30 ≤ x ∧ x ≤ 30) ∧ (-30 ≤ y ∧ y ≤ 30)) → on = 1 → ¬ s.1 x y → m 145 4 = 60 → K (-5) (up m 145 0 0))
    (hadd : ((-30 ≤ x ∧ x ≤ 30) ∧ (-30 ≤ y ∧ y ≤ 30)) → on = 1 → ¬ s.1 x y → m 145 4 < 60 → ∀ m3, KM (up m 145 0 0) m3 → ∀ m4, (∀ c, c < 145 ∨ (145 < c ∧ c < 149) ∨ 152 < c → m4 c = m3 c) → (∀ j, j ≠ 4 → m4 145 j = m3 145 j) → RepM (m4 145 4) (m4 149) (m4 150) (m4 151) (m4 152) (addS s x y) → K 0 m4)
    (hsame : ((-30 ≤ x ∧ x ≤ 30) ∧ (-30 ≤ y ∧ y ≤ 30)) → ∀ r, ((on = 1 ∧ s.1 x y ∧ r = 1) ∨ (on = 0 ∧ ¬ s.1 x y ∧ r = 0)) → ∀ m3, KM (up m 145 0 0) m3 → K r m3)
    (hrem : ((-30 ≤ x ∧ x ≤ 30) ∧ (-30 ≤ y ∧ y ≤ 30)) → on = 0 → s.1 x y → ∀ m3, KM (up m 145 0 0) m3 → ∀ m4, (∀ c, c < 145 ∨ (145 < c ∧ c < 149) ∨ 152 < c → m4 c = m3 c) → (∀ j, j ≠ 4 → m4 145 j = m3 145 j) → RepM (m4 145 4) (m4 149) (m4 150) (m4 151) (m4 152) (delS (z4 s x y) x y) → K 1 m4) : Cli mX12_spot [rV 145, iV x, iV y, iV on] m K := by
  generalize hm0 : up m 145 0 0 = m0 at hbad hfull hadd hsame hrem
  have q0 : ∀ j, j ≠ 0 → m0 145 j = m 145 j := fun j hj => by rw [← hm0, up_at_ne _ _ _ hj]
  have r0 : ∀ c, c ≠ 145 → m0 c = m c := fun c hc => by rw [← hm0, up_ne _ _ _ hc]
  have hr0 : RepM (m0 145 4) (m0 149) (m0 150) (m0 151) (m0 152) s := hr.rows (q0 4 (by omega)) (fun c c0 c1 => r0 c (by omega))
  have h0 := hr0.1.1
  have h1 := hr0.1.2.1
  have e4 := q0 4 (by omega)
  refine wX12_spot_0 ?_
  rw [hm0]
  refine c_isPlace ⟨fun c => ⟨_, rfl, hbad (fun e => by rw [if_pos e.1] at c; omega)⟩, fun c => ?_⟩
  have p1 : (-30 ≤ x ∧ x ≤ 30) ∧ (-30 ≤ y ∧ y ≤ 30) := by
    by_cases g : (-30 ≤ x ∧ x ≤ 30) ∧ (-30 ≤ y ∧ y ≤ 30)
    · exact g
    · rw [if_neg g] at c; exact absurd rfl c
  refine c_in ⟨fun c => ⟨_, rfl, hbad (fun e => by rw [if_pos (by omega)] at c; omega)⟩, fun c => ?_⟩
  have p2 : on = 0 ∨ on = 1 := by
    by_cases g : 0 ≤ on ∧ on ≤ 1
    · omega
    · rw [if_neg g] at c; exact absurd rfl c
  have k12 : 0 ≤ m0 145 12 ∧ m0 145 12 < 8 := by rw [q0 12 (by omega)]; exact h12
  have k13 : 0 ≤ m0 145 13 ∧ m0 145 13 ≤ 8 := by rw [q0 13 (by omega)]; exact h13
  have kr : ∀ m3, KM m0 m3 → RepM (m3 145 4) (m3 149) (m3 150) (m3 151) (m3 152) s := fun m3 km => hr0.rows (km.2.1 4 (by omega) (by omega) (by omega)) (fun c c0 c1 => km.1 c (by omega) (by omega))
  refine c_spotAt h0 h1 hr0.1.2.2.1 ⟨fun c2 => ⟨fun c3 => ⟨fun c4 => ⟨_, rfl, ?_⟩, fun c4 => c_keepM k12 k13 (fun m3 km => ?_)⟩, fun c3 => c_keepM k12 k13 (fun m3 km => ⟨_, rfl, ?_⟩)⟩, fun c2 => c_keepM k12 k13 (fun m3 km => ⟨fun c3 => ?_, fun c3 => ⟨_, rfl, ?_⟩⟩)⟩
  · exact hfull p1 c3 (fun e => (hr0.1.fnd_iff x y).mp e c2) (by rw [← e4]; exact c4)
  · have no : ¬ s.1 x y := fun e => (hr0.1.fnd_iff x y).mp e c2
    have n3 : m3 145 4 = m0 145 4 := km.2.1 4 (by omega) (by omega) (by omega)
    exact c_addM (kr m3 km) hw no (by omega) (fun m4 f1 f2 f3 => ⟨_, rfl, hadd p1 c3 no (by omega) m3 km m4 f1 f2 f3⟩)
  · exact hsame p1 0 (Or.inr ⟨by omega, fun e => (hr0.1.fnd_iff x y).mp e c2, rfl⟩) m3 km
  · rcases fnd_cases (m0 145 4) (m0 149) (m0 150) x y with g | g
    · exact absurd g.1 c2
    generalize fnd (m0 145 4) (m0 149) (m0 150) x y = k at g c2 ⊢
    obtain ⟨k0, k1, kx, ky⟩ := g
    have n3 : m3 145 4 = m0 145 4 := km.2.1 4 (by omega) (by omega) (by omega)
    refine c_removeM (kr m3 km) hw k0 (by rw [n3]; exact k1) (fun m4 f1 f2 f3 => ?_)
    rw [km.1 149 (by omega) (by omega), km.1 150 (by omega) (by omega), kx, ky] at f3
    exact hrem p1 c3 ((hr0.1.2.2.2 x y).mpr ⟨k, k0, k1, kx, ky⟩) m3 km m4 f1 f2 f3
  · exact hsame p1 1 (Or.inl ⟨by omega, (hr0.1.fnd_iff x y).mpr c2, rfl⟩) m3 km
end C8q
