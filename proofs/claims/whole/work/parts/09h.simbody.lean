/-! calls on the body, on both sides -/
theorem CM.fr {m m3 : tM} (h : CM m m3) {a : Nat} (h1 : a ≠ 145) (h2 : a ≠ 148) (h3 : a ≠ 155) : m3 a = m a := by
  obtain ⟨mK, km, e⟩ := h
  rw [e, sr_ne _ _ h2, km.1 a h3 h1]
section C9h
variable {m : tM}
theorem idleB (hc : Cur m) (hh : HisR m) (hu : HUc m) : Cur (up m 145 0 0) ∧ HisR (up m 145 0 0) ∧ HUc (up m 145 0 0) ∧ OTB m (up m 145 0 0) := by
  have i := sim_idle hc hh
  refine ⟨i.1, i.2.1, ?_, fun a ha => up_ne _ _ _ (by omega)⟩
  show HU (up m 145 0 0) (nrm ((up m 145 0 0) 147))
  rw [up_ne _ _ _ (by omega)]
  exact hu.congr (fun a a0 a1 => up_ne _ _ _ (by omega))
theorem body_mid {mk m2 m3 : tM} (kp : KP m mk) (f2 : ∀ a, a ≠ 3 → a ≠ 5 → (a < 109 ∨ 114 < a) → m2 a = mk a) (cm : CM (up m2 145 0 0) m3) : m3 146 = m 146 ∧ m3 147 = m 147 := by
  rw [cm.fr (by omega) (by omega) (by omega), cm.fr (a := 147) (by omega) (by omega) (by omega), up_ne _ _ _ (by omega), up_ne _ _ _ (by omega), f2 146 (by omega) (by omega) (by omega), f2 147 (by omega) (by omega) (by omega), kp.fr (by omega), kp.fr (by omega)]
  exact ⟨rfl, rfl⟩
theorem body_145 {mk m2 : tM} (kp : KP m mk) (f2 : ∀ a, a ≠ 3 → a ≠ 5 → (a < 109 ∨ 114 < a) → m2 a = mk a) : m2 145 = m 145 := by rw [f2 145 (by omega) (by omega) (by omega), kp.fr (by omega)]
theorem body_kb {mk m2 : tM} (hh : HisR m) (kp : KP m mk) (f2 : ∀ a, a ≠ 3 → a ≠ 5 → (a < 109 ∨ 114 < a) → m2 a = mk a) : (0 ≤ (up m2 145 0 0) 145 12 ∧ (up m2 145 0 0) 145 12 < 8) ∧ (0 ≤ (up m2 145 0 0) 145 13 ∧ (up m2 145 0 0) 145 13 ≤ 8) := by
  obtain ⟨-, b, c, d, -, -⟩ := hh
  rw [up_at_ne _ _ _ (by omega), up_at_ne _ _ _ (by omega), body_145 kp f2, c]
  exact ⟨d, b⟩
/-- the layers are changed, the class goes on -/
theorem body_cls {mk m1 : tM} {t' c' : Int → Int} {K : tM → Prop} (hu : HUc m) (kp : KP m mk) (f1 : ∀ a, a ≠ 3 → m1 a = mk a) (hb : BR (m1 3) t' c') (h : ∀ m2, (∀ a, a ≠ 3 → a ≠ 5 → (a < 109 ∨ 114 < a) → m2 a = mk a) → m2 3 = m1 3 → (∀ q, 0 ≤ q → q < 240 → m2 5 q = 0) → HU m2 (nrm c') → K m2) : Clv mX11_bodyHasChanged [rV 0] m1 K :=
  c_bodyHasChanged (hu.congr (fun a a0 a1 => by rw [f1 a (by omega), kp.fr (by omega)])) hb (fun m2 f2 z5 hu2 => h m2 (fun a a1 a2 a3 => by rw [f2 a a2 a3, f1 a a1]) (f2 3 (by omega) (by omega)) z5 hu2)
theorem sim_layer {z x : Int} {K : Int → Int → tM → Prop} (hc : Cur m) (hh : HisR m) (hu : HUc m) (h : ∀ r m', Cur m' → HisR m' → HUc m' → OTB m m' → K r r m') : Cli mX11_layer [rV 0, iV z, iV x] m (fun r m1 => Cli mX12_layer [rV 145, iV z, iV x] m1 (fun r' m2 => K r r' m2)) := by
  obtain ⟨a, b, c, d', -, -⟩ := id hh
  obtain ⟨i1, i2, i3, i4⟩ := idleB hc hh hu
  refine wX11_layer_0 (c_isLayer ⟨fun g => ⟨_, rfl, c_layerM d' (by rw [c]; exact b) (fun _ => h _ _ i1 i2 i3 i4) (fun p => by rw [if_pos p] at g; omega)⟩, fun g => ?_⟩)
  have p : 0 ≤ z ∧ z < 4 := by
    by_cases q : 0 ≤ z ∧ z < 4
    · exact q
    · rw [if_neg q] at g; exact absurd rfl g
  refine c_keep a b hc.n (fun mk kp => c_put p.1 p.2 ?_)
  have e3 : mk 3 = m 3 := kp.fr (by omega)
  have n3 : (up mk 3 z (x % 65536)) 3 = ur (m 3) z (x % 65536) := by rw [← e3]; exact sr_eq _ _ _
  have hb : BR ((up mk 3 z (x % 65536)) 3) (ur (m 146) z 1) (fil (fun p => x / 2 ^ p.toNat % 2) (m 147) (16 * z) 16) := BR.put hc.1 p.1 p.2 n3 rfl rfl
  refine body_cls hu kp (fun a ha => up_ne _ _ _ ha) hb (fun m2 f2 t3 z5 hu2 => ?_)
  have hb2 : BR (m2 3) (ur (m 146) z 1) (fil (fun p => x / 2 ^ p.toNat % 2) (m 147) (16 * z) 16) := by rw [t3]; exact hb
  obtain ⟨l0, l1, -⟩ := hb2.lb p.1 p.2
  refine c_cubesIn p.1 p.2 l0 l1 ⟨_, rfl, ?_⟩
  have e145 := body_145 kp f2
  refine c_layerM (by rw [e145]; exact d') (by rw [e145, c]; exact b) (fun q => absurd p q) (fun _ m3 cm m4 e4 => ?_)
  obtain ⟨t1, t2⟩ := body_mid kp f2 cm
  have c147 : m4 147 = fil (fun p => x / 2 ^ p.toNat % 2) (m 147) (16 * z) 16 := by rw [e4, sr_eq, t2]
  have c146 : m4 146 = ur (m 146) z 1 := by
    rw [e4, sr_ne _ _ (by omega), ← t1]
    exact sr_eq _ _ _
  have hb4 : BR (m2 3) (m4 146) (m4 147) := by rw [c146, c147]; exact hb2
  obtain ⟨j1, j2, j3, j4⟩ := body_end hc hh kp f2 z5 hu2 cm (m4 := m4) (fun a a1 a2 => by rw [e4, sr_ne _ _ a2, up_ne _ _ _ a1]) hb4 (by rw [c147])
  rw [hb4.cnt p.1 p.2]
  exact h _ _ j1 j2 j3 j4
theorem sim_lose {z : Int} {K : Int → Int → tM → Prop} (hc : Cur m) (hh : HisR m) (hu : HUc m) (h : ∀ r m', Cur m' → HisR m' → HUc m' → OTB m m' → K r r m') : Cli mX11_lose [rV 0, iV z] m (fun r m1 => Cli mX12_lose [rV 145, iV z] m1 (fun r' m2 => K r r' m2)) := by
  obtain ⟨a, b, c, d', -, -⟩ := id hh
  obtain ⟨i1, i2, i3, i4⟩ := idleB hc hh hu
  refine wX11_lose_0 (c_isLayer ⟨fun g => ⟨_, rfl, wX12_lose_0 (c_in ⟨fun _ => ⟨_, rfl, h _ _ i1 i2 i3 i4⟩, fun g2 => ?_⟩)⟩, fun g => ?_⟩)
  · by_cases q : 0 ≤ z ∧ z < 4
    · rw [if_pos q] at g; omega
    · rw [if_neg (by omega)] at g2; exact absurd rfl g2
  have p : 0 ≤ z ∧ z < 4 := by
    by_cases q : 0 ≤ z ∧ z < 4
    · exact q
    · rw [if_neg q] at g; exact absurd rfl g
  obtain ⟨s1, s2⟩ := hc.1.mis p.1 p.2
  refine c_misses p.1 p.2 ⟨fun g2 => ?_, fun g2 => ⟨_, rfl, wX12_lose_0 (c_in ⟨fun g3 => by rw [if_pos (by omega)] at g3; omega, fun _ => ⟨p, fun _ => ⟨_, rfl, h _ _ i1 i2 i3 i4⟩, fun g3 => ?_⟩⟩)⟩⟩
  rotate_left
  · by_cases q : m 3 z = -1
    · rw [up_ne _ _ _ (by omega)] at g3; exact absurd (s1.1 q) g3
    · rw [if_neg q] at g2; exact absurd rfl g2
  have nm : ¬ m 3 z = -1 := fun q => by rw [if_pos q] at g2; omega
  have tz : ¬ m 146 z = 0 := fun q => nm (s1.2 q)
  refine c_keep a b hc.n (fun mk kp => ?_)
  have e3 : mk 3 = m 3 := kp.fr (by omega)
  obtain ⟨l0, l1, -⟩ := hc.1.lb p.1 p.2
  refine c_cubesIn p.1 p.2 (by rw [e3]; exact l0) (by rw [e3]; exact l1) (c_take1 p.1 p.2 ?_)
  rw [e3]
  have n3 : (up mk 3 z (-1)) 3 = ur (m 3) z (-1) := by rw [← e3]; exact sr_eq _ _ _
  have hb : BR ((up mk 3 z (-1)) 3) (ur (m 146) z 0) (fil (fun _ => 0) (m 147) (16 * z) 16) := BR.los hc.1 n3 (fun w hw => ur_ne _ _ hw) (ur_eq _ _ _) (fun p p0 p1 => by rw [fil_in _ _ (by omega)]) (fun q hq => by rw [fil_out _ _ (by omega)])
  refine body_cls hu kp (fun a ha => up_ne _ _ _ ha) hb (fun m2 f2 t3 z5 hu2 => ⟨_, rfl, ?_⟩)
  have k := body_kb hh kp f2
  have e146 : (up m2 145 0 0) 146 = m 146 := by rw [up_ne _ _ _ (by omega), f2 146 (by omega) (by omega) (by omega), kp.fr (by omega)]
  refine wX12_lose_0 (c_in ⟨fun g3 => by rw [if_pos (by omega)] at g3; omega, fun _ => ⟨p, fun g3 => absurd (by rw [e146] at g3; exact g3) tz, fun _ => c_change k.1 k.2 (fun m3 cm => ?_)⟩⟩)
  obtain ⟨t1, t2⟩ := body_mid kp f2 cm
  refine c_cubesInM p.1 p.2 (fun w w0 w1 => by rw [t2]; exact hc.1.c01 (by omega) (by omega)) ?_
  rw [t2, hc.1.cnt p.1 p.2]
  have key := up_ind (n := 16) (fun i => Tj mX12_lose 48 [some (rV 145), some (iV z), some (iV (popN (lbits (m 3 z)).toNat 16 : Int)), some (iV i)] [] (sr (up m3 146 z 0) 147 (fil (fun _ => 0) (m3 147) (16 * z) i)) (fun r m' => ∃ n, r = some (iV n) ∧ K (popN (lbits (m 3 z)).toNat 16 : Int) n m')) ?_ ?_ (i := 0) (by omega) (by omega)
  · rw [fil_0, show m3 147 = (up m3 146 z 0) 147 from (up_ne _ _ _ (by omega)).symm, sr_self] at key
    exact key
  · refine wX12_lose_48 ⟨fun c => by omega, fun _ => ⟨_, rfl, ?_⟩⟩
    generalize hm4 : sr (up m3 146 z 0) 147 (fil (fun _ => 0) (m3 147) (16 * z) 16) = m4
    have c147 : m4 147 = fil (fun _ => 0) (m 147) (16 * z) 16 := by rw [← hm4, sr_eq, t2]
    have c146 : m4 146 = ur (m 146) z 0 := by
      rw [← hm4, sr_ne _ _ (by omega), ← t1]
      exact sr_eq _ _ _
    obtain ⟨j1, j2, j3, j4⟩ := body_end hc hh kp f2 z5 hu2 cm (m4 := m4) (fun a a1 a2 => by rw [← hm4, sr_ne _ _ a2, up_ne _ _ _ a1]) (by rw [c146, c147, t3]; exact hb) (by rw [c147])
    exact h _ _ j1 j2 j3 j4
  · intro i i0 i1' ih
    refine wX12_lose_48 ⟨fun _ => ⟨⟨by constructor <;> omega, by constructor <;> omega, by omega, by omega, by constructor <;> omega⟩, ?_⟩, fun c => absurd i1' c⟩
    rw [up_sr, fil_s (fun _ => 0) (m3 147) (16 * z) i0]
    exact ih
theorem sim_cube {z w on : Int} {K : Int → Int → tM → Prop} (hc : Cur m) (hh : HisR m) (hu : HUc m) (h : ∀ r m', Cur m' → HisR m' → HUc m' → OTB m m' → K r r m') : Cli mX11_cube [rV 0, iV z, iV w, iV on] m (fun r m1 => Cli mX12_cube [rV 145, iV z, iV w, iV on] m1 (fun r' m2 => K r r' m2)) := by
  obtain ⟨a, b, c, d', -, -⟩ := id hh
  obtain ⟨i1, i2, i3, i4⟩ := idleB hc hh hu
  refine wX11_cube_0 (c_isLayer ⟨fun g => ⟨_, rfl, wX12_cube_0 (c_in ⟨fun _ => ⟨_, rfl, h _ _ i1 i2 i3 i4⟩, fun g2 => ?_⟩)⟩, fun g => ?_⟩)
  · by_cases q : 0 ≤ z ∧ z < 4
    · rw [if_pos q] at g; omega
    · rw [if_neg (by omega)] at g2; exact absurd rfl g2
  have p : 0 ≤ z ∧ z < 4 := by
    by_cases q : 0 ≤ z ∧ z < 4
    · exact q
    · rw [if_neg q] at g; exact absurd rfl g
  refine c_isSwitch ⟨fun g2 => ⟨_, rfl, wX12_cube_0 (c_in ⟨fun g3 => by rw [if_pos (by omega)] at g3; omega, fun _ => c_in ⟨fun _ => ⟨_, rfl, h _ _ i1 i2 i3 i4⟩, fun g3 => ?_⟩⟩)⟩, fun g2 => ?_⟩
  · by_cases q : on = 0 ∨ on = 1
    · rw [if_pos q] at g2; omega
    · rw [if_neg (by omega)] at g3; exact absurd rfl g3
  have po : on = 0 ∨ on = 1 := by
    by_cases q : on = 0 ∨ on = 1
    · exact q
    · rw [if_neg q] at g2; exact absurd rfl g2
  obtain ⟨s1, s2⟩ := hc.1.mis p.1 p.2
  refine c_misses p.1 p.2 ⟨fun g3 => ?_, fun g3 => ⟨_, rfl, wX12_cube_0 (c_in ⟨fun g4 => by rw [if_pos (by omega)] at g4; omega, fun _ => c_in ⟨fun g4 => by rw [if_pos (by omega)] at g4; omega, fun _ => ⟨p, fun _ => ⟨_, rfl, h _ _ i1 i2 i3 i4⟩, fun g4 => ?_⟩⟩⟩)⟩⟩
  rotate_left
  · by_cases q : m 3 z = -1
    · rw [up_ne _ _ _ (by omega)] at g4; exact absurd (s1.1 q) g4
    · rw [if_neg q] at g3; exact absurd rfl g3
  have nm : ¬ m 3 z = -1 := fun q => by rw [if_pos q] at g3; omega
  have tz : ¬ m 146 z = 0 := fun q => nm (s1.2 q)
  have tz1 : m 146 z = 1 := by omega
  have e0 : (up m 145 0 0) 146 z = m 146 z := by rw [up_ne _ _ _ (by omega)]
  refine c_arePlaces ⟨fun g4 => ⟨_, rfl, wX12_cube_0 (c_in ⟨fun g5 => by rw [if_pos (by omega)] at g5; omega, fun _ => c_in ⟨fun g5 => by rw [if_pos (by omega)] at g5; omega, fun _ => ⟨p, fun g5 => absurd (e0.symm.trans g5) tz, fun _ => c_in ⟨fun _ => ⟨_, rfl, h _ _ i1 i2 i3 i4⟩, fun g5 => ?_⟩⟩⟩⟩)⟩, fun g4 => ?_⟩
  · by_cases q : 0 ≤ w ∧ w ≤ 15
    · rw [if_pos (by omega)] at g4; omega
    · rw [if_neg q] at g5; exact absurd rfl g5
  have pw : 0 ≤ w ∧ w < 16 := by
    by_cases q : 0 ≤ w ∧ w < 16
    · exact q
    · rw [if_neg (by omega)] at g4; exact absurd rfl g4
  refine c_keep a b hc.n (fun mk kp => ?_)
  have e3 : mk 3 = m 3 := kp.fr (by omega)
  obtain ⟨l0, l1, l2⟩ := hc.1.lb p.1 p.2
  refine c_bitsOf p.1 p.2 (fun v hv => ?_)
  rw [e3] at hv ⊢
  generalize hbz : lbits (m 3 z) = bz at l0 l1 l2 hv ⊢
  have rbz : R32 bz := by constructor <;> omega
  obtain ⟨wn, rfl⟩ := Int.eq_ofNat_of_zero_le pw.1
  have rv : R32 v := by
    rw [hv]; split
    · exact tr_of _
    · exact tr_of _
  have bv : ∀ q : Nat, q < 16 → v / 2 ^ q % 2 = if q = wn then on else bz / 2 ^ q % 2 := fun q hq => by
    rw [ib_bit rv hq, ib_bit rbz hq]
    rcases po with rfl | rfl
    · have hv' : v = bAnd bz (bXor (bShl 1 (wn : Int)) (-1)) := by rw [hv]; exact if_neg (by omega)
      rw [hv', ib_and, ib_not _ (by omega), ib_one (by omega) (by omega)]
      by_cases e : q = wn
      · rw [if_pos e, decide_eq_true e]; simp
      · rw [if_neg e, decide_eq_false e]; simp
    · have hv' : v = bOr bz (bShl 1 (wn : Int)) := by rw [hv]; exact if_pos rfl
      rw [hv', ib_or, ib_one (by omega) (by omega)]
      by_cases e : q = wn
      · rw [if_pos e, decide_eq_true e]; simp
      · rw [if_neg e, decide_eq_false e]; simp
  refine c_put p.1 p.2 ?_
  have n3 : (up mk 3 z (v % 65536)) 3 = ur (m 3) z (v % 65536) := by rw [← e3]; exact sr_eq _ _ _
  have hb : BR ((up mk 3 z (v % 65536)) 3) (m 146) (ur (m 147) (16 * z + wn) on) := by
    refine BR.lay hc.1 p.1 p.2 n3 (fun _ _ => rfl) tz1 (fun q q0 q1 => ?_) (fun q hq => ur_ne _ _ (by omega))
    rw [bv q.toNat (by omega)]
    by_cases e : q = wn
    · rw [if_pos (by omega), e, ur_eq]
    · rw [if_neg (by omega), ur_ne _ _ (by omega), l2 q q0 q1]
  refine body_cls hu kp (fun a ha => up_ne _ _ _ ha) hb (fun m2 f2 t3 z5 hu2 v2 hv2 => ⟨_, rfl, ?_⟩)
  have k := body_kb hh kp f2
  have e146 : (up m2 145 0 0) 146 = m 146 := by rw [up_ne _ _ _ (by omega), f2 146 (by omega) (by omega) (by omega), kp.fr (by omega)]
  refine wX12_cube_0 (c_in ⟨fun g5 => by rw [if_pos (by omega)] at g5; omega, fun _ => c_in ⟨fun g5 => by rw [if_pos (by omega)] at g5; omega, fun _ => ⟨p, fun g5 => absurd (by rw [e146] at g5; exact g5) tz, fun _ => c_in ⟨fun g5 => by rw [if_pos (by omega)] at g5; omega, fun _ => c_change k.1 k.2 (fun m3 cm => ⟨⟨by constructor <;> omega, by constructor <;> omega, by omega, by omega⟩, _, rfl, ?_⟩)⟩⟩⟩⟩)
  obtain ⟨t1, t2⟩ := body_mid kp f2 cm
  have er : v2 = m3 147 (16 * z + wn) := by
    have hh := ib_bit rbz (p := wn) (by omega)
    have l2' := l2 wn (by omega) (by omega)
    rw [Int.toNat_natCast] at l2'
    rw [t2, l2', hh, hv2]
    cases q : ib bz wn
    · rw [if_pos ((ib_hit (by omega)).2 q)]; rfl
    · rw [if_neg (fun e => by have := (ib_hit (show wn < 16 by omega)).1 e; rw [q] at this; exact absurd this (by decide))]; rfl
  rw [er]
  generalize hm4 : up m3 147 (16 * z + wn) on = m4
  have c147 : m4 147 = ur (m 147) (16 * z + wn) on := by rw [← hm4, ← t2]; exact sr_eq _ _ _
  have c146 : m4 146 = m 146 := by rw [← hm4, up_ne _ _ _ (by omega), t1]
  obtain ⟨j1, j2, j3, j4⟩ := body_end hc hh kp f2 z5 hu2 cm (m4 := m4) (fun a a1 a2 => by rw [← hm4, up_ne _ _ _ a2]) (by rw [c146, c147, t3]; exact hb) (by rw [c147])
  exact h _ _ j1 j2 j3 j4
end C9h
