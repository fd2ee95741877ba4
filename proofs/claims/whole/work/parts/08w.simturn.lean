/-! turn, on both sides -/
theorem g_t0 (s : SS) : gS 1 0 s = tS 0 s := by
  have e : ∀ x y, hX 1 0 x y = pX 0 x y ∧ hY 1 x y = pY 0 x y := fun x y => by
    show x * 0 + y * 1 = y ∧ y * 0 - x * 1 = -x
    omega
  unfold gS tS
  simp only [(e _ _).1, (e _ _).2]
  rfl
theorem g_t1 (s : SS) : gS 0 1 s = tS 1 s := by
  have e : ∀ x y, hX 0 1 x y = pX 1 x y ∧ hY 0 x y = pY 1 x y := fun x y => by
    show -(x * 1 + y * 0) = -x ∧ y * 1 - x * 0 = y
    omega
  unfold gS tS
  simp only [(e _ _).1, (e _ _).2]
  rfl
section C8w
variable {m : tM}
theorem sim_turn {t : Int} {K : Int → Int → tM → Prop} (hc : Cur m) (hh : HisR m) (h : ∀ r m', Cur m' → HisR m' → OTH m m' → K r r m') : Cli mX11_turn [rV 0, iV t] m (fun r m1 => Cli mX12_turn [rV 145, iV t] m1 (fun r' m2 => K r r' m2)) := by
  obtain ⟨a, b, c, d', -, -⟩ := id hh
  obtain ⟨hB, hE, s, hw, rc, rm⟩ := id hc
  have idle := sim_idle hc hh
  have n0 := rc.1.1
  have n1 := rc.1.2.1
  have c13 : 0 ≤ m 145 13 ∧ m 145 13 ≤ 8 := by rw [c]; exact b
  refine wX11_turn_0 (c_isSwitch ⟨fun g => ⟨_, rfl, wX12_turn_0 (c_in ⟨fun _ => ⟨_, rfl, h _ _ idle.1 idle.2.1 idle.2.2⟩, fun g2 => ?_⟩)⟩, fun g => ?_⟩)
  · by_cases q : t = 0 ∨ t = 1
    · rw [if_pos q] at g; omega
    · rw [if_neg (by omega)] at g2; exact absurd rfl g2
  have p : t = 0 ∨ t = 1 := by
    by_cases q : t = 0 ∨ t = 1
    · exact q
    · rw [if_neg q] at g; exact absurd rfl g
  refine c_keep a b ⟨n0, n1⟩ (fun mk kp => ?_)
  have e6 : mk 6 = m 6 := kp.fr (by omega)
  have e7 : mk 7 = m 7 := kp.fr (by omega)
  have e8 : mk 8 = m 8 := kp.fr (by omega)
  have e9 : mk 9 = m 9 := kp.fr (by omega)
  refine c_sheetBecome shS_141 shS_6 (by omega) (by rw [e6]; exact n0) (by rw [e6]; exact n1) (fun m3 se v hv v' hv' => ?_)
  obtain ⟨s1, s2, s3, s4', s5⟩ := se
  have rb : RepC (m3 141 3) (m3 (141 + 1)) (m3 (141 + 2)) (m3 (141 + 3)) s := by
    rw [s2, e6]
    refine rc.congr (fun k k0 k1 => ?_) (fun k k0 k1 => ?_) (fun k k0 k1 => ?_)
    · rw [s3 k k0 (by rw [e6]; exact k1)]; show mk 7 k = m 7 k; rw [e7]
    · rw [s4' k k0 (by rw [e6]; exact k1)]; show mk 8 k = m 8 k; rw [e8]
    · rw [s5 k k0 (by rw [e6]; exact k1)]; show mk 9 k = m 9 k; rw [e9]
  have hv0 : 0 ≤ v ∧ v < 4 := by rw [hv]; split <;> omega
  have hv1 : v' = 0 ∨ v' = 1 := by rw [hv']; split <;> omega
  have gt : gS v v' s = tS t s := by
    rcases p with rfl | rfl
    · rw [hv, hv', if_pos rfl, if_neg (by omega)]; exact g_t0 s
    · rw [hv, hv', if_neg (by omega), if_pos rfl]; exact g_t1 s
  refine c_becomeTurned shS_6 shS_141 (by omega) rb hw hv0.1 hv0.2 hv1 (fun m4 f4 rep => ⟨_, rfl, ?_⟩)
  rw [gt] at rep
  have f1 : ∀ c, (c < 6 ∨ (9 < c ∧ c < 141) ∨ 144 < c) → m4 c = mk c := fun c hc => by rw [f4 c (by omega), s1 c (by omega)]
  have e145 : m4 145 = m 145 := by rw [f1 145 (by omega), kp.fr (by omega)]
  refine wX12_turn_0 (c_in ⟨fun g2 => by rw [if_pos (by omega)] at g2; omega, fun _ => ?_⟩)
  refine c_keepM (by rw [up_at_ne _ _ _ (by omega), e145]; exact d') (by rw [up_at_ne _ _ _ (by omega), e145]; exact c13) (fun m5 km => ?_)
  obtain ⟨his, r3, r3', r3''⟩ := sim_keep hc hh kp f1 rfl km
  have rm5 : RepM (m5 145 4) (m5 149) (m5 150) (m5 151) (m5 152) s := rm.rows (r3'' 4 (by omega) (by omega) (by omega) (by omega)) (fun c c0 c1 => r3 c (by omega))
  refine c_turned rm5 hw p (fun m6 f6 rep6 => ⟨_, rfl, ?_⟩)
  have e6' : m6 145 = m5 145 := f6 145 (by omega)
  obtain ⟨x1, x2, x3⟩ := sim_end hc his r3 (m4 := m6) (fun c hc => f6 c (by omega)) (by rw [e6']) (by rw [e6']) ⟨tS t s, hw.turn p, by
    have q : ∀ c, c < 145 → m6 c = m4 c := fun c hc => by rw [f6 c (by omega), r3' c hc]
    rw [q 6 (by omega), q 7 (by omega), q 8 (by omega), q 9 (by omega)]; exact rep, rep6⟩
  exact h _ _ x1 x2 x3
end C8w
