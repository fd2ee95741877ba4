/-! cut and cuts, on both sides -/
/-- the class's cells of one memory, the reference's of another -/
def mix (a b : tM) : tM := fun c => if c < 145 then a c else b c
theorem mix_l (a b : tM) {c : Nat} (h : c < 145) : mix a b c = a c := if_pos h
theorem mix_r (a b : tM) {c : Nat} (h : ¬ c < 145) : mix a b c = b c := if_neg h
theorem KP.mx {m mk : tM} (h : KP m mk) (b : tM) : KP (mix m b) (mix mk b) := by
  obtain ⟨m1, be, e⟩ := h
  have e10 : (mix m b) 10 = m 10 := mix_l _ _ (by omega)
  generalize hw : ((m 10 1 + m 10 2) % 8).toNat = w at be
  have w8 : w < 8 := by omega
  obtain ⟨b1, b2, b3, b4, b5, b6, b7⟩ := be
  unfold KP
  rw [e10, hw]
  refine ⟨mix m1 b, ⟨fun c hc => ?_, fun z z0 z1 => ?_, fun z z0 z1 => ?_, ?_, fun z z0 z1 => ?_, fun z z0 z1 => ?_, fun z z0 z1 => ?_⟩, ?_⟩
  · by_cases q : c < 145
    · rw [mix_l _ _ q, mix_l _ _ q, b1 c hc]
    · rw [mix_r _ _ q, mix_r _ _ q]
  · rw [mix_l _ _ (by omega), mix_l _ _ (by omega)]; exact b2 z z0 z1
  · rw [mix_l _ _ (by omega), mix_l _ _ (by omega)]; exact b3 z z0 z1
  · rw [mix_l _ _ (by omega), mix_l _ _ (by omega)]; exact b4
  · rw [mix_l _ _ (by omega)] at z1
    rw [mix_l _ _ (by omega), mix_l _ _ (by omega)]; exact b5 z z0 z1
  · rw [mix_l _ _ (by omega)] at z1
    rw [mix_l _ _ (by omega), mix_l _ _ (by omega)]; exact b6 z z0 z1
  · rw [mix_l _ _ (by omega)] at z1
    rw [mix_l _ _ (by omega), mix_l _ _ (by omega)]; exact b7 z z0 z1
  · funext c
    by_cases q : c < 145
    · rw [mix_l _ _ q, e]
      by_cases g : m 10 2 < 8
      · rw [if_pos g, if_pos g]
        by_cases t : c = 10
        · rw [t]; show sr m1 10 (ur (m1 10) 2 _) 10 = sr _ 10 (ur (mix m1 b 10) 2 _) 10
          rw [sr_eq, sr_eq, mix_l _ _ (by omega)]
        · rw [up_ne _ _ _ t, up_ne _ _ _ t, mix_l _ _ q]
      · rw [if_neg g, if_neg g]
        by_cases t : c = 10
        · rw [t]; show sr m1 10 (ur (m1 10) 1 _) 10 = sr _ 10 (ur (mix m1 b 10) 1 _) 10
          rw [sr_eq, sr_eq, mix_l _ _ (by omega)]
        · rw [up_ne _ _ _ t, up_ne _ _ _ t, mix_l _ _ q]
    · rw [mix_r _ _ q]
      split
      · rw [up_ne _ _ _ (by omega), mix_r _ _ q]
      · rw [up_ne _ _ _ (by omega), mix_r _ _ q]
/-- kept on both sides, with work of the reference between -/
theorem HisR.keep2 {m mk m1 m2 : tM} (h : HisR m) (hc : Cur m) (kp : KP m mk) (g1 : ∀ c, 10 ≤ c → c ≤ 83 → m1 c = mk c) (g2 : ∀ c, 146 ≤ c → c ≤ 155 → m1 c = m c) (e4 : m1 145 4 = m 145 4) (e12 : m1 145 12 = m 145 12) (e13 : m1 145 13 = m 145 13) (hm : KM m1 m2) : HisR m2 := by
  have l : ∀ c, c < 145 → mix m m1 c = m c := fun c q => mix_l _ _ q
  have r : ∀ c, ¬ c < 145 → mix m m1 c = m1 c := fun c q => mix_r _ _ q
  have h' : HisR (mix m m1) := h.congr (fun c _ _ => l c (by omega)) (by rw [r 155 (by omega), g2 155 (by omega) (by omega)]) (by rw [r 145 (by omega), e12]) (by rw [r 145 (by omega), e13])
  have hc' : Cur (mix m m1) := by
    show STR (mix m m1 3) (mix m m1 5) (mix m m1 6 3) (mix m m1 7) (mix m m1 8) (mix m m1 9) (mix m m1 146) (mix m m1 147) (mix m m1 148) (mix m m1 145 4) (mix m m1 149) (mix m m1 150) (mix m m1 151) (mix m m1 152)
    rw [l 3 (by omega), l 5 (by omega), l 6 (by omega), l 7 (by omega), l 8 (by omega), l 9 (by omega), r 146 (by omega), r 147 (by omega), r 148 (by omega), r 145 (by omega), r 149 (by omega), r 150 (by omega), r 151 (by omega), r 152 (by omega), g2 146 (by omega) (by omega), g2 147 (by omega) (by omega), g2 148 (by omega) (by omega), e4, g2 149 (by omega) (by omega), g2 150 (by omega) (by omega), g2 151 (by omega) (by omega), g2 152 (by omega) (by omega)]
    exact hc
  exact HisR.keep h' hc' (kp.mx m1) (fun c c0 c1 => by rw [mix_l _ _ (by omega)]; exact g1 c c0 c1) (fun c c0 => (r c (by omega)).symm) (fun j _ => by rw [r 145 (by omega)]) hm
section C9q
variable {m : tM}
theorem sim_cut {q s on : Int} {K : Int → Int → tM → Prop} (hc : Cur m) (hh : HisR m) (hu : HUc m) (h : ∀ r m', Cur m' → HisR m' → HUc m' → OTB m m' → K r r m') : Cli mX11_cut [rV 0, iV q, iV s, iV on] m (fun r m1 => Cli mX12_cut [rV 145, iV q, iV s, iV on] m1 (fun r' m2 => K r r' m2)) := by
  have o240 := oN_240 (nrm (m 147))
  have ob := oN_bound (nrm (m 147)) 384
  have h6 := hu.2.2.1
  obtain ⟨ha, hb', hc', hd', -, -⟩ := id hh
  have bad : (¬ ((0 ≤ q ∧ q < m 109 6) ∧ (0 ≤ s ∧ s < 4) ∧ (on = 0 ∨ on = 1))) → Cli mX12_cut [rV 145, iV q, iV s, iV on] m (fun r' m2 => K (-3) r' m2) := fun no => by
    refine wX12_cut_0 (c_findSkin (ce0 m) (fun m1 hq => ?_))
    obtain ⟨j1, j2, j3, j4⟩ := skin_same hc hh hu hq
    have e := hq.2.2.1
    refine ⟨by constructor <;> omega, c_in ⟨fun _ => ⟨_, rfl, h _ _ j1 j2 j3 j4⟩, fun g1 => c_in ⟨fun _ => ⟨_, rfl, h _ _ j1 j2 j3 j4⟩, fun g2 => c_in ⟨fun _ => ⟨_, rfl, h _ _ j1 j2 j3 j4⟩, fun g3 => absurd ?_ no⟩⟩⟩⟩
    have := if11 g1
    have := if11 g2
    have := if11 g3
    omega
  refine wX11_cut_0 (wX9_size_0 ⟨_, rfl, c_isWithin ⟨fun g => ⟨_, rfl, bad (fun z => if10 g z.1)⟩, fun g => c_isWithin ⟨fun g2 => ⟨_, rfl, bad (fun z => if10 g2 z.2.1)⟩, fun g2 => c_isSwitch ⟨fun g3 => ⟨_, rfl, bad (fun z => if10 g3 z.2.2)⟩, fun g3 => ?_⟩⟩⟩⟩)
  have pq := if11 g
  have ps := if11 g2
  have po := if11 g3
  obtain ⟨p, d, p0, d0, ho, eq, -⟩ := sq_ex (c := nrm (m 147)) pq.1 (by omega)
  have cr := cr_r p0.1 p0.2 d0.1 d0.2 ps.1 ps.2 ho
  have ob2 := oN_384 _ cr.1.1 cr.1.2 cr.2.1.1 cr.2.1.2 cr.2.2.2.1
  have ld := hu.2.2.2.2.2.at p0 d0 ps ho
  rw [eq] at ld
  generalize hq' : oN (nrm (m 147)) (sq (cP (nrm (m 147)) p d s) (cD (nrm (m 147)) p d s)) = q' at ld ob2
  generalize hs' : cS (nrm (m 147)) p d s = s' at ld
  have ps' : 0 ≤ s' ∧ s' < 4 := by rw [← hs']; exact cr.2.2.1
  obtain ⟨hB, hE, hS⟩ := id hc
  obtain ⟨b0, b1, b2⟩ := hE.1 q pq.1 (by omega)
  -- the reference's start
  have ref : ∀ {mm : tM} {Q : Int → tM → Prop}, CE mm (nrm (m 147)) → (∀ w m2, FLT (nrm (m 147)) w → NS (nrm (m 147)) 384 (m2 158) (m2 159) (m2 160) → (∀ a, a ≠ 145 → a ≠ 156 → a ≠ 157 → a ≠ 158 → a ≠ 159 → a ≠ 160 → m2 a = mm a) → (∀ j, j ≠ 0 → j ≠ 17 → m2 145 j = mm 145 j) → (w = 0 → Clv mX12_keep [rV 145] m2 (fun m6 => ((R32 (4 * q) ∧ R32 ((4 * q) + s) ∧ 0 ≤ ((4 * q) + s) ∧ ((4 * q) + s) < 1536) ∧ (Clv mX12_findAcross [rV 145, iV q, iV s] m6 (fun m7 => ((R32 (4 * (m7 145 21)) ∧ R32 ((4 * (m7 145 21)) + (m7 145 22)) ∧ 0 ≤ ((4 * (m7 145 21)) + (m7 145 22)) ∧ ((4 * (m7 145 21)) + (m7 145 22)) < 1536) ∧ (∃ n, some (iV (m6 148 ((4 * q) + s))) = some (iV n) ∧ Q n (up (up m7 148 ((4 * q) + s) on) 148 ((4 * (m7 145 21)) + (m7 145 22)) on)))))))) ∧ (¬ w = 0 → Q (-4) m2)) → Cli mX12_cut [rV 145, iV q, iV s, iV on] mm Q := by
    intro mm Q ce hk
    refine wX12_cut_0 (c_findSkin (c := nrm (m 147)) (fun x x0 x1 => by rw [up_ne _ _ _ (by omega)]; exact ce x x0 x1) (fun m1 hq => ?_))
    have e := hq.2.2.1
    refine ⟨by constructor <;> omega, c_in ⟨fun g1 => absurd (if10 g1) (by omega), fun _ => c_in ⟨fun g1 => absurd (if10 g1) (by omega), fun _ => c_in ⟨fun g1 => absurd (if10 g1) (by omega), fun _ => c_wellOf (c := nrm (m 147)) (fun x x0 x1 => by rw [hq.1 147 (by omega) (by omega) (by omega) (by omega), up_ne _ _ _ (by omega)]; exact ce x x0 x1) hu.1 (fun u m2 hf fr => ?_)⟩⟩⟩⟩
    have k := hk u m2 hf (by rw [fr 158 (by omega) (by omega), fr 159 (by omega) (by omega), fr 160 (by omega) (by omega)]; exact hq.2.2.2) (fun a a1 a2 a3 a4 a5 a6 => by rw [fr a a2 a3, hq.1 a a1 a4 a5 a6, up_ne _ _ _ a1]) (fun j j0 j1 => by rw [fr 145 (by omega) (by omega), hq.2.1 j j1, up_at_ne _ _ _ j0])
    exact ⟨k.1, fun g1 => ⟨_, rfl, k.2 g1⟩⟩
  refine wX9_fault_0 ⟨_, rfl, fun g4 => ?_, fun g4 => ⟨_, rfl, ref (ceN m) (fun w m2 hf ns fr fj => ⟨fun z => absurd ((FLT.zero hf hu.2.2.2.1).1 z) g4, fun z => ?_⟩)⟩⟩
  · refine c_keep ha hb' hc.n (fun mk kp => ?_)
    have e5 : mk 5 = m 5 := kp.fr (by omega)
    have e113 : mk 113 = m 113 := kp.fr (by omega)
    refine c_isCut pq.1 (by omega) ps.1 ps.2 (by rw [e5]; exact ⟨b0, b1⟩) (fun v1 hv1 v2 hv2 => ?_)
    have e2 : v2 = on := by
      rw [hv2]
      rcases po with rfl | rfl
      · rfl
      · rfl
    rw [e2]
    refine c_mark pq.1 (by omega) (c_squareAcross (v := q') (t := s') pq.1 (by omega) ps.1 ps.2 (by rw [up_ne _ _ _ (by omega), e113]; exact ld.1) ob2.1 (by omega) ps'.1 ps'.2 (c_sideAcross (v := q') (t := s') pq.1 (by omega) ps.1 ps.2 (by rw [up_ne _ _ _ (by omega), e113]; exact ld.1) ob2.1 (by omega) ps'.1 ps'.2 (fun v3 hv3 => ?_)))
    have e3 : v3 = on := by
      rw [hv3]
      rcases po with rfl | rfl
      · rfl
      · rfl
    rw [e3]
    refine c_mark ob2.1 (by omega) ⟨_, rfl, ?_⟩
    generalize hm1 : up (up mk 5 q (mkB (mk 5 q) s on)) 5 q' (mkB ((up mk 5 q (mkB (mk 5 q) s on)) 5 q') s' on) = m1
    have f1 : ∀ a, a ≠ 5 → m1 a = mk a := fun a h5 => by rw [← hm1, up_ne _ _ _ h5, up_ne _ _ _ h5]
    have r5 : m1 5 = ur (ur (m 5) q (mkB (m 5 q) s on)) q' (mkB (ur (m 5) q (mkB (m 5 q) s on) q') s' on) := by
      rw [← hm1, ← e5]
      show sr _ 5 (ur (sr mk 5 (ur (mk 5) q (mkB (mk 5 q) s on)) 5) q' (mkB (sr mk 5 (ur (mk 5) q (mkB (mk 5 q) s on)) 5 q') s' on)) 5 = _
      rw [sr_eq, sr_eq]
    have e147 : m1 147 = m 147 := by rw [f1 147 (by omega), kp.fr (by omega)]
    have e145 : m1 145 = m 145 := by rw [f1 145 (by omega), kp.fr (by omega)]
    refine ref (fun x x0 x1 => by rw [e147]; exact ceN m x x0 x1) (fun w m2 hf ns fr fj => ⟨fun z => ?_, fun z => absurd ((FLT.zero hf hu.2.2.2.1).2 g4) z⟩)
    refine c_keepM (by rw [fj 12 (by omega) (by omega), e145]; exact hd') (by rw [fj 13 (by omega) (by omega), e145, hc']; exact hb') (fun m6 km => ?_)
    obtain ⟨k1, k2, k3, k4, k5, k6⟩ := id km
    have his : HisR m6 := HisR.keep2 hh hc kp (fun x x0 x1 => by rw [fr x (by omega) (by omega) (by omega) (by omega) (by omega) (by omega), f1 x (by omega)]) (fun x x0 x1 => by rw [fr x (by omega) (by omega) (by omega) (by omega) (by omega) (by omega), f1 x (by omega), kp.fr (by omega)]) (by rw [fj 4 (by omega) (by omega), e145]) (by rw [fj 12 (by omega) (by omega), e145]) (by rw [fj 13 (by omega) (by omega), e145]) km
    have lo : ∀ a, a < 145 ∨ (145 < a ∧ a < 155) → m6 a = m1 a := fun a h5 => by rw [k1 a (by omega) (by omega), fr a (by omega) (by omega) (by omega) (by omega) (by omega) (by omega)]
    have e148 : m6 148 = m 148 := by rw [lo 148 (by omega), f1 148 (by omega), kp.fr (by omega)]
    refine ⟨⟨by constructor <;> omega, by constructor <;> omega, by omega, by omega⟩, c_findAcross (c := nrm (m 147)) (fun x x0 x1 => by rw [lo 147 (by omega), e147]; exact ceN m x x0 x1) (by rw [k1 158 (by omega) (by omega), k1 159 (by omega) (by omega), k1 160 (by omega) (by omega)]; exact ns) p0.1 p0.2 d0.1 d0.2 ps.1 ps.2 ho eq.symm (fun m7 fa => ?_)⟩
    obtain ⟨a1, a2, a3, a4, a5⟩ := fa
    rw [hq'] at a3
    rw [hs'] at a4
    rw [a3, a4]
    refine ⟨⟨by constructor <;> omega, by constructor <;> omega, by omega, by omega⟩, _, rfl, ?_⟩
    generalize hm8 : up (up m7 148 (4 * q + s) on) 148 (4 * q' + s') on = m8
    have f8 : ∀ a, a ≠ 148 → m8 a = m7 a := fun a h5 => by rw [← hm8, up_ne _ _ _ h5, up_ne _ _ _ h5]
    have r148 : m8 148 = ur (ur (m 148) (4 * q + s) on) (4 * q' + s') on := by
      rw [← hm8, ← e148, ← a1 148 (by omega)]
      show sr _ 148 (ur (sr m7 148 (ur (m7 148) (4 * q + s) on) 148) (4 * q' + s') on) 148 = _
      rw [sr_eq, sr_eq]
    have er : v1 = m6 148 (4 * q + s) := by
      rw [hv1, e148, b2 s ps.1 ps.2, e5]
      rcases (show m 5 q / 2 ^ s.toNat % 2 = 0 ∨ m 5 q / 2 ^ s.toNat % 2 = 1 by omega) with y | y
      · rw [y]; rfl
      · rw [y]; rfl
    rw [er]
    have rows : ∀ a, a ≠ 5 → a < 10 ∨ (83 < a ∧ a < 145) ∨ (145 < a ∧ a < 148) ∨ (148 < a ∧ a < 155) → m8 a = m a := fun a h5 h6 => by rw [f8 a (by omega), a1 a (by omega), lo a (by omega), f1 a h5, kp.fr (by omega)]
    have e84 : m8 145 4 = m 145 4 := by rw [f8 145 (by omega), a2 4 (by omega) (by omega) (by omega), k2 4 (by omega) (by omega) (by omega), fj 4 (by omega) (by omega), e145]
    refine h _ _ ⟨?_, ⟨?_, fun k k0 k1 => ?_, ?_⟩, ?_⟩ (his.congr (fun a a0 a1' => by rw [f8 a (by omega), a1 a (by omega)]) (by rw [f8 155 (by omega), a1 155 (by omega)]) (by rw [f8 145 (by omega), a2 12 (by omega) (by omega) (by omega)]) (by rw [f8 145 (by omega), a2 13 (by omega) (by omega) (by omega)])) ?_ (fun a ha => rows a (by omega) (by omega))
    · rw [rows 3 (by omega) (by omega), rows 146 (by omega) (by omega), rows 147 (by omega) (by omega)]; exact hB
    · rw [r148, f8 5 (by omega), a1 5 (by omega), lo 5 (by omega), r5]
      exact (E1.mark hE.1 pq.1 (by omega) ps.1 ps.2 po).mark ob2.1 (by omega) ps'.1 ps'.2 po
    · rw [r148, ur_ne _ _ (by omega), ur_ne _ _ (by omega)]; exact hE.2.1 k k0 k1
    · rw [r148, rows 147 (by omega) (by omega)]
      have := SYM0.mark hE.2.2 (on := on) p0.1 p0.2 d0.1 d0.2 ps.1 ps.2 ho
      rw [hq', hs', eq] at this
      exact this
    · rw [rows 6 (by omega) (by omega), rows 7 (by omega) (by omega), rows 8 (by omega) (by omega), rows 9 (by omega) (by omega), e84, rows 149 (by omega) (by omega), rows 150 (by omega) (by omega), rows 151 (by omega) (by omega), rows 152 (by omega) (by omega)]
      exact hS
    · show HU m8 (nrm (m8 147))
      rw [rows 147 (by omega) (by omega)]
      exact hu.congr (fun a a0 a1' => rows a (by omega) (by omega))
  · obtain ⟨j1, j2, j3, j4⟩ := rest_same hc hh hu (m' := m2) (fun a ha => fr a (by omega) (by omega) (by omega) (by omega) (by omega) (by omega)) (fun a a0 a1 => fr a (by omega) (by omega) (by omega) (by omega) (by omega) (by omega)) (fj 4 (by omega) (by omega)) (fj 12 (by omega) (by omega)) (fj 13 (by omega) (by omega))
    exact h _ _ j1 j2 j3 j4
/-! the number of cuts -/
theorem sm4 (f : Int → Int) : ∀ n : Nat, sm f (4 * n) = sm (fun q => f (4 * q) + f (4 * q + 1) + f (4 * q + 2) + f (4 * q + 3)) n
  | 0 => rfl
  | n + 1 => by
    rw [show 4 * (n + 1) = 4 * n + 1 + 1 + 1 + 1 by omega, sm, sm, sm, sm, sm, sm4 f n, show ((4 * n + 1 + 1 + 1 : Nat) : Int) = 4 * (n : Int) + 3 by omega, show ((4 * n + 1 + 1 : Nat) : Int) = 4 * (n : Int) + 2 by omega, show ((4 * n + 1 : Nat) : Int) = 4 * (n : Int) + 1 by omega, show ((4 * n : Nat) : Int) = 4 * (n : Int) by omega]
    omega
theorem sm_z (f : Int → Int) (n : Nat) : ∀ k : Nat, (∀ j : Int, n ≤ j → j < n + k → f j = 0) → sm f (n + k) = sm f n
  | 0, _ => rfl
  | k + 1, h => by
    show sm f (n + k) + f ((n + k : Nat) : Int) = _
    rw [sm_z f n k (fun j j0 j1 => h j j0 (by omega)), h _ (by omega) (by omega)]
    omega
theorem pop4_f : ∀ x : Fin 16, (popN x.val 16 : Int) = (x.val : Int) / 2 ^ 0 % 2 + (x.val : Int) / 2 ^ 1 % 2 + (x.val : Int) / 2 ^ 2 % 2 + (x.val : Int) / 2 ^ 3 % 2 := by decide +kernel
theorem sim_cuts {K : Int → Int → tM → Prop} (hc : Cur m) (hh : HisR m) (hu : HUc m) (h : ∀ r m', Cur m' → HisR m' → HUc m' → OTB m m' → K r r m') : Cli mX11_cuts [rV 0] m (fun r m1 => Cli mX12_cuts [rV 145] m1 (fun r' m2 => K r r' m2)) := by
  obtain ⟨i1, i2, i3, i4⟩ := idleB hc hh hu
  obtain ⟨hB, hE, hS⟩ := id hc
  have p4 : ∀ q : Int, 0 ≤ q → q < 240 → (popN (m 5 q).toNat 16 : Int) = m 148 (4 * q) + m 148 (4 * q + 1) + m 148 (4 * q + 2) + m 148 (4 * q + 3) := fun q q0 q1 => by
    obtain ⟨b0, b1, b2⟩ := hE.1 q q0 q1
    have f := pop4_f ⟨(m 5 q).toNat, by omega⟩
    simp only [ix_cast b0] at f
    have e0 := b2 0 (by omega) (by omega)
    rw [Int.add_zero] at e0
    rw [f, e0, b2 1 (by omega) (by omega), b2 2 (by omega) (by omega), b2 3 (by omega) (by omega)]
    rfl
  have b01 : ∀ k : Int, 0 ≤ k → k < 1536 → 0 ≤ m 148 k ∧ m 148 k ≤ 1 := fun k k0 k1 => by
    by_cases g : k < 960
    · have := (hE.1 (k / 4) (by omega) (by omega)).2.2 (k % 4) (by omega) (by omega)
      rw [show 4 * (k / 4) + k % 4 = k by omega] at this
      rw [this]; omega
    · rw [hE.2.1 k (by omega) k1]; omega
  have bd : ∀ n : Nat, n ≤ 1536 → 0 ≤ sm (m 148) n ∧ sm (m 148) n ≤ n := by
    intro n
    induction n with
    | zero => intro _; rw [sm]; omega
    | succ n ih =>
      intro hn
      have := ih (by omega)
      have := b01 n (by omega) (by omega)
      rw [sm]
      omega
  have tot : sm (m 148) 1536 = sm (fun q => (popN (m 5 q).toNat 16 : Int)) 240 := by
    rw [show (1536 : Nat) = 960 + 576 from rfl, sm_z (m 148) 960 576 (fun j j0 j1 => hE.2.1 j (by omega) (by omega)), show (960 : Nat) = 4 * 240 from rfl, sm4]
    exact sm_congr (fun q q0 q1 => (p4 q q0 (by omega)).symm)
  have pb : ∀ n : Nat, n ≤ 240 → 0 ≤ sm (fun q => (popN (m 5 q).toNat 16 : Int)) n ∧ sm (fun q => (popN (m 5 q).toNat 16 : Int)) n ≤ 4 * n := by
    intro n
    induction n with
    | zero => intro _; rw [sm]; omega
    | succ n ih =>
      intro hn
      have := ih (by omega)
      have e := p4 n (by omega) (by omega)
      have := b01 (4 * n) (by omega) (by omega)
      have := b01 (4 * n + 1) (by omega) (by omega)
      have := b01 (4 * n + 2) (by omega) (by omega)
      have := b01 (4 * n + 3) (by omega) (by omega)
      rw [sm]
      omega
  refine wX11_cuts_0 (wX2_marks_0 ?_)
  have key := up_ind (n := 240) (fun i => Tj mX2_marks 4 [some (rV 4), some (iV (sm (fun q => (popN (m 5 q).toNat 16 : Int)) i.toNat)), some (iV i)] [] m (fun r m' => ∃ n, r = some (iV n) ∧ 0 ≤ n ∧ ∃ n', some (iV (n / 2)) = some (iV n') ∧ Cli mX12_cuts [rV 145] m' (fun r' m2 => K n' r' m2))) ?_ ?_ (i := 0) (by omega) (by omega)
  · exact key
  · have b := pb 240 (Nat.le_refl _)
    refine wX2_marks_4 ⟨fun g => by omega, fun _ => ⟨_, rfl, b.1, _, rfl, wX12_cuts_0 ?_⟩⟩
    have key2 := up_ind (n := 1536) (fun i => Tj mX12_cuts 9 [some (rV 145), some (iV (sm (m 148) i.toNat)), some (iV i)] [] (up m 145 0 0) (fun r m' => ∃ n, r = some (iV n) ∧ K (sm (fun q => (popN (m 5 q).toNat 16 : Int)) 240 / 2) n m')) ?_ ?_ (i := 0) (by omega) (by omega)
    · exact key2
    · have b' := bd 1536 (Nat.le_refl _)
      refine wX12_cuts_9 ⟨fun g => by omega, fun _ => ⟨b'.1, _, rfl, ?_⟩⟩
      show K _ (sm (m 148) 1536 / 2) _
      rw [tot]
      exact h _ _ i1 i2 i3 i4
    · intro i i0 i1' ih
      have b' := bd i.toNat (by omega)
      have c' := b01 i i0 i1'
      have e : (up m 145 0 0) 148 i = m 148 i := by rw [up_ne _ _ _ (by omega)]
      refine wX12_cuts_9 ⟨fun _ => ⟨⟨i0, i1', by rw [e]; constructor <;> omega, by constructor <;> omega⟩, ?_⟩, fun g => absurd i1' g⟩
      rw [e, show sm (m 148) i.toNat + m 148 i = sm (m 148) (i + 1).toNat by rw [show (i + 1).toNat = i.toNat + 1 by omega, sm, ix_cast i0]]
      exact ih
  · intro i i0 i1' ih
    obtain ⟨c0, c1, -⟩ := hE.1 i i0 i1'
    have b := pb i.toNat (by omega)
    have b' := pb (i.toNat + 1) (by omega)
    rw [sm, ix_cast i0] at b'
    refine wX2_marks_4 ⟨fun _ => ⟨⟨i0, i1'⟩, c_bitCount c0 (by omega) ⟨⟨by constructor <;> omega, by constructor <;> omega⟩, ?_⟩⟩, fun g => absurd i1' g⟩
    rw [show sm (fun q => (popN (m 5 q).toNat 16 : Int)) i.toNat + (popN (m 5 i).toNat 16 : Int) = sm (fun q => (popN (m 5 q).toNat 16 : Int)) (i + 1).toNat by rw [show (i + 1).toNat = i.toNat + 1 by omega, sm, ix_cast i0]]
    exact ih
end C9q
