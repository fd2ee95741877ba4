/-! what is told of the skin, and cuts: on both sides -/
section C9p
variable {m : tM}
/-- nothing of what matters has changed -/
theorem rest_same {m' : tM} (hc : Cur m) (hh : HisR m) (hu : HUc m) (f1 : ∀ a, a < 145 → m' a = m a) (f2 : ∀ a, 146 ≤ a → a ≤ 155 → m' a = m a) (e4 : m' 145 4 = m 145 4) (e12 : m' 145 12 = m 145 12) (e13 : m' 145 13 = m 145 13) : Cur m' ∧ HisR m' ∧ HUc m' ∧ OTB m m' := by
  refine ⟨?_, hh.congr (fun a a0 a1 => f1 a (by omega)) (f2 155 (by omega) (by omega)) e12 e13, ?_, fun a ha => ?_⟩
  · show STR (m' 3) (m' 5) (m' 6 3) (m' 7) (m' 8) (m' 9) (m' 146) (m' 147) (m' 148) (m' 145 4) (m' 149) (m' 150) (m' 151) (m' 152)
    rw [f1 3 (by omega), f1 5 (by omega), f1 6 (by omega), f1 7 (by omega), f1 8 (by omega), f1 9 (by omega), f2 146 (by omega) (by omega), f2 147 (by omega) (by omega), f2 148 (by omega) (by omega), e4, f2 149 (by omega) (by omega), f2 150 (by omega) (by omega), f2 151 (by omega) (by omega), f2 152 (by omega) (by omega)]
    exact hc
  · show HU m' (nrm (m' 147))
    rw [f2 147 (by omega) (by omega)]
    exact hu.congr (fun a a0 a1 => f1 a (by omega))
  · by_cases q : a < 145
    · exact f1 a q
    · exact f2 a (by omega) (by omega)
theorem ceN (m : tM) : CE m (nrm (m 147)) := fun _ p0 p1 => (nrm_in p0 p1).symm
theorem sim_well {K : Int → Int → tM → Prop} (hc : Cur m) (hh : HisR m) (hu : HUc m) (h : ∀ r m', Cur m' → HisR m' → HUc m' → OTB m m' → K r r m') : Cli mX11_well [rV 0] m (fun r m1 => Cli mX12_well [rV 145] m1 (fun r' m2 => K r r' m2)) := by
  refine wX11_well_0 (wX9_fault_0 ⟨_, rfl, _, rfl, wX12_well_0 (c_wellOf (c := nrm (m 147)) (fun p p0 p1 => by rw [up_ne _ _ _ (by omega)]; exact ceN m p p0 p1) hu.1 (fun w m' hw fr => ⟨_, rfl, ?_⟩))⟩)
  obtain ⟨j1, j2, j3, j4⟩ := rest_same hc hh hu (m' := m') (fun a ha => by rw [fr a (by omega) (by omega), up_ne _ _ _ (by omega)]) (fun a a0 a1 => by rw [fr a (by omega) (by omega), up_ne _ _ _ (by omega)]) (by rw [fr 145 (by omega) (by omega), up_at_ne _ _ _ (by omega)]) (by rw [fr 145 (by omega) (by omega), up_at_ne _ _ _ (by omega)]) (by rw [fr 145 (by omega) (by omega), up_at_ne _ _ _ (by omega)])
  rw [FLT.uniq hu.2.2.2.1 hw]
  exact h _ _ j1 j2 j3 j4
/-- the reference's skin is found: nothing else is touched -/
theorem skin_same {m1 : tM} {c : Int → Int} {n : Nat} (hc : Cur m) (hh : HisR m) (hu : HUc m) (hq : FQ c (up m 145 0 0) n m1) : Cur m1 ∧ HisR m1 ∧ HUc m1 ∧ OTB m m1 :=
  rest_same hc hh hu (fun a ha => by rw [hq.1 a (by omega) (by omega) (by omega) (by omega), up_ne _ _ _ (by omega)]) (fun a a0 a1 => by rw [hq.1 a (by omega) (by omega) (by omega) (by omega), up_ne _ _ _ (by omega)]) (by rw [hq.2.1 4 (by omega), up_at_ne _ _ _ (by omega)]) (by rw [hq.2.1 12 (by omega), up_at_ne _ _ _ (by omega)]) (by rw [hq.2.1 13 (by omega), up_at_ne _ _ _ (by omega)])
theorem ce0 (m : tM) : CE (up m 145 0 0) (nrm (m 147)) := fun p p0 p1 => by rw [up_ne _ _ _ (by omega)]; exact ceN m p p0 p1
theorem sim_skin {K : Int → Int → tM → Prop} (hc : Cur m) (hh : HisR m) (hu : HUc m) (h : ∀ r m', Cur m' → HisR m' → HUc m' → OTB m m' → K r r m') : Cli mX11_skin [rV 0] m (fun r m1 => Cli mX12_skin [rV 145] m1 (fun r' m2 => K r r' m2)) := by
  refine wX11_skin_0 (wX9_size_0 ⟨_, rfl, _, rfl, wX12_skin_0 (c_findSkin (ce0 m) (fun m1 hq => ⟨_, rfl, ?_⟩))⟩)
  obtain ⟨j1, j2, j3, j4⟩ := skin_same hc hh hu hq
  rw [hu.2.2.1, hq.2.2.1]
  exact h _ _ j1 j2 j3 j4
/-- a square by its number -/
theorem sq_ex {c : Int → Int} {q : Int} (q0 : 0 ≤ q) (q1 : q < oN c 384) : ∃ p d, (0 ≤ p ∧ p < 64) ∧ (0 ≤ d ∧ d < 6) ∧ outr c p d ∧ oN c (sq p d) = q ∧ (sq p d < 384) := by
  obtain ⟨k, k1, k2, k3⟩ := oN_ex c 384 q0 q1
  have e : sq ((k : Int) / 6) ((k : Int) % 6) = k := by unfold sq; omega
  exact ⟨(k : Int) / 6, (k : Int) % 6, by omega, by omega, k2, by rw [e]; exact k3, by rw [e]; exact k1⟩
theorem NS.at {c : Int → Int} {P D N : Int → Int} (h : NS c 384 P D N) {p d : Int} (p0 : 0 ≤ p ∧ p < 64) (d0 : 0 ≤ d ∧ d < 6) (ho : outr c p d) : P (oN c (sq p d)) = p ∧ D (oN c (sq p d)) = d ∧ N (6 * p + d) = oN c (sq p d) := by
  have e := sq_c p0.1 d0.1
  have r := h (sq p d) (by omega) (by rw [sq_p p0.1 d0.1 d0.2, sq_d p0.1 d0.1 d0.2]; exact ho)
  rw [sq_p p0.1 d0.1 d0.2, sq_d p0.1 d0.1 d0.2, e] at r
  exact r
theorem sim_square {q w : Int} {K : Int → Int → tM → Prop} (hc : Cur m) (hh : HisR m) (hu : HUc m) (h : ∀ r m', Cur m' → HisR m' → HUc m' → OTB m m' → K r r m') : Cli mX11_square [rV 0, iV q, iV w] m (fun r m1 => Cli mX12_square [rV 145, iV q, iV w] m1 (fun r' m2 => K r r' m2)) := by
  have o240 := oN_240 (nrm (m 147))
  have ob := oN_bound (nrm (m 147)) 384
  have h6 := hu.2.2.1
  refine wX11_square_0 (wX9_size_0 ⟨_, rfl, c_isWithin ⟨fun g => ⟨_, rfl, wX12_square_0 (c_findSkin (ce0 m) (fun m1 hq => ?_))⟩, fun g => c_isWithin ⟨fun g2 => ⟨_, rfl, wX12_square_0 (c_findSkin (ce0 m) (fun m1 hq => ?_))⟩, fun g2 => ?_⟩⟩⟩)
  · obtain ⟨j1, j2, j3, j4⟩ := skin_same hc hh hu hq
    have e := hq.2.2.1
    refine ⟨by constructor <;> omega, c_in ⟨fun _ => ⟨_, rfl, h _ _ j1 j2 j3 j4⟩, fun g3 => absurd (if11 g3) (by have := if10 g; omega)⟩⟩
  · obtain ⟨j1, j2, j3, j4⟩ := skin_same hc hh hu hq
    have e := hq.2.2.1
    refine ⟨by constructor <;> omega, c_in ⟨fun _ => ⟨_, rfl, h _ _ j1 j2 j3 j4⟩, fun g3 => c_in ⟨fun _ => ⟨_, rfl, h _ _ j1 j2 j3 j4⟩, fun g4 => absurd (if11 g4) (by have := if10 g2; omega)⟩⟩⟩
  · have pq := if11 g
    have pw := if11 g2
    obtain ⟨p, d, p0, d0, ho, eq, -⟩ := sq_ex (c := nrm (m 147)) pq.1 (by omega)
    have r := hu.2.2.2.2.1.at p0 d0 ho
    rw [eq] at r
    have ref : ∀ v, (w = 0 → v = p % 4) → (w = 1 → v = p / 4 % 4) → (w = 2 → v = p / 16) → (w = 3 → v = d) → Cli mX12_square [rV 145, iV q, iV w] m (fun r' m2 => K v r' m2) := fun v v0 v1 v2 v3 => by
      refine wX12_square_0 (c_findSkin (ce0 m) (fun m1 hq => ?_))
      obtain ⟨j1, j2, j3, j4⟩ := skin_same hc hh hu hq
      have e := hq.2.2.1
      have s := hq.2.2.2.at p0 d0 ho
      rw [eq] at s
      refine ⟨by constructor <;> omega, c_in ⟨fun g3 => absurd (if10 g3) (by omega), fun _ => c_in ⟨fun g3 => absurd (if10 g3) (by omega), fun _ => ⟨⟨by omega, by omega⟩, ?_⟩⟩⟩⟩
      rw [s.1, s.2.1]
      refine ⟨fun a => c_pX p0.1 ⟨_, rfl, ?_⟩, fun a => ⟨fun b => c_pY p0.1 ⟨_, rfl, ?_⟩, fun b => ⟨fun x => c_pZ p0.1 ⟨_, rfl, ?_⟩, fun x => ⟨_, rfl, ?_⟩⟩⟩⟩
      · rw [v0 a]; exact h _ _ j1 j2 j3 j4
      · rw [v1 b]; exact h _ _ j1 j2 j3 j4
      · rw [v2 x]; exact h _ _ j1 j2 j3 j4
      · rw [v3 (by omega)]; exact h _ _ j1 j2 j3 j4
    refine ⟨fun a => wX9_directionOf_0 ⟨⟨pq.1, by omega⟩, _, rfl, _, rfl, ?_⟩, fun a => wX9_placeOf_0 ⟨⟨pq.1, by omega⟩, _, rfl, c_coordinate pw.1 (by omega) ⟨_, rfl, ?_⟩⟩⟩
    · rw [r.2.1]
      exact ref d (fun _ => by omega) (fun _ => by omega) (fun _ => by omega) (fun _ => rfl)
    · rw [r.1]
      refine ref _ (fun e => ?_) (fun e => ?_) (fun e => ?_) (fun e => absurd e a)
      · subst e; show p / 1 % 4 = p % 4; omega
      · subst e; rfl
      · subst e; show p / 16 % 4 = p / 16; omega
theorem c_isCut {q s : Int} {K : Int → tM → Prop} (q0 : 0 ≤ q) (q1 : q < 240) (s0 : 0 ≤ s) (s1 : s < 4) (b : 0 ≤ m 5 q ∧ m 5 q < 16) (h : K (m 5 q / 2 ^ s.toNat % 2) m) : Cli mX2_isCut [rV 4, iV q, iV s] m K := by
  refine wX2_isCut_0 ⟨⟨q0, q1⟩, fun v hv => ⟨v, rfl, ?_⟩⟩
  rw [bit_of (by constructor <;> omega) s0 (by omega)] at hv
  rcases (show m 5 q / 2 ^ s.toNat % 2 = 0 ∨ m 5 q / 2 ^ s.toNat % 2 = 1 by omega) with e | e
  · rw [e] at hv h; rw [hv]; exact h
  · rw [e] at hv h; rw [hv]; exact h
/-- one side's mark -/
def mkB (b s on : Int) : Int := if on = 0 then bAnd b (bXor (bShl 1 s) (-1)) else bOr b (bShl 1 s)
theorem mk_f : ∀ b : Fin 16, ∀ s : Fin 4, (0 ≤ mkB b.val s.val 0 ∧ mkB b.val s.val 0 < 16) ∧ (0 ≤ mkB b.val s.val 1 ∧ mkB b.val s.val 1 < 16) ∧ ∀ t : Fin 4, mkB b.val s.val 0 / 2 ^ t.val % 2 = (if t.val = s.val then 0 else (b.val : Int) / 2 ^ t.val % 2) ∧ mkB b.val s.val 1 / 2 ^ t.val % 2 = (if t.val = s.val then 1 else (b.val : Int) / 2 ^ t.val % 2) := by decide +kernel
theorem mk_r {b s on : Int} (b0 : 0 ≤ b) (b1 : b < 16) (s0 : 0 ≤ s) (s1 : s < 4) (o : on = 0 ∨ on = 1) : (0 ≤ mkB b s on ∧ mkB b s on < 16) ∧ ∀ t, 0 ≤ t → t < 4 → mkB b s on / 2 ^ t.toNat % 2 = if t = s then on else b / 2 ^ t.toNat % 2 := by
  have f := mk_f ⟨b.toNat, by omega⟩ ⟨s.toNat, by omega⟩
  simp only [ix_cast b0, ix_cast s0] at f
  refine ⟨?_, fun t t0 t1 => ?_⟩
  · rcases o with rfl | rfl
    · exact f.1
    · exact f.2.1
  · have g := f.2.2 ⟨t.toNat, by omega⟩
    simp only at g
    by_cases q : t = s
    · rw [if_pos (by omega), if_pos (by omega)] at g
      rw [if_pos q]
      rcases o with rfl | rfl
      · exact g.1
      · exact g.2
    · rw [if_neg (by omega), if_neg (by omega)] at g
      rw [if_neg q]
      rcases o with rfl | rfl
      · exact g.1
      · exact g.2
theorem c_mark {q s on : Int} {K : tM → Prop} (q0 : 0 ≤ q) (q1 : q < 240) (h : K (up m 5 q (mkB (m 5 q) s on))) : Clv mX2_mark [rV 4, iV q, iV s, iV on] m K := by
  unfold mkB at h
  refine wX2_mark_0 ⟨fun g => ⟨⟨q0, q1⟩, rfl, ?_⟩, fun g => ⟨⟨q0, q1⟩, rfl, ?_⟩⟩
  · rw [if_pos g] at h; exact h
  · rw [if_neg g] at h; exact h
abbrev E1 (sd ct : Int → Int) : Prop := ∀ q, 0 ≤ q → q < 240 → 0 ≤ sd q ∧ sd q < 16 ∧ ∀ s, 0 ≤ s → s < 4 → ct (4 * q + s) = sd q / 2 ^ s.toNat % 2
theorem E1.mark {sd ct : Int → Int} (h : E1 sd ct) {q s on : Int} (q0 : 0 ≤ q) (q1 : q < 240) (s0 : 0 ≤ s) (s1 : s < 4) (o : on = 0 ∨ on = 1) : E1 (ur sd q (mkB (sd q) s on)) (ur ct (4 * q + s) on) := by
  intro r r0 r1
  by_cases e : r = q
  · subst e
    obtain ⟨a, b, d⟩ := h r r0 r1
    have k := mk_r a b s0 s1 o
    rw [ur_eq]
    refine ⟨k.1.1, k.1.2, fun t t0 t1 => ?_⟩
    rw [k.2 t t0 t1]
    by_cases g : t = s
    · rw [if_pos g, g, ur_eq]
    · rw [if_neg g, ur_ne _ _ (by omega)]; exact d t t0 t1
  · obtain ⟨a, b, d⟩ := h r r0 r1
    rw [ur_ne _ _ e]
    exact ⟨a, b, fun t t0 t1 => by rw [ur_ne _ _ (by omega)]; exact d t t0 t1⟩
theorem SYM0.mark {c ct : Int → Int} (h : SYM0 c ct) {p d s on : Int} (p0 : 0 ≤ p) (p1 : p < 64) (d0 : 0 ≤ d) (d1 : d < 6) (s0 : 0 ≤ s) (s1 : s < 4) (ho : outr c p d) : SYM0 c (ur (ur ct (4 * oN c (sq p d) + s) on) (4 * oN c (sq (cP c p d s) (cD c p d s)) + cS c p d s) on) := by
  have inj : ∀ {p d s p' d' s' : Int}, 0 ≤ p → p < 64 → 0 ≤ d → d < 6 → 0 ≤ s → s < 4 → outr c p d → 0 ≤ p' → p' < 64 → 0 ≤ d' → d' < 6 → 0 ≤ s' → s' < 4 → outr c p' d' → 4 * oN c (sq p d) + s = 4 * oN c (sq p' d') + s' → p = p' ∧ d = d' ∧ s = s' := by
    intro p d s p' d' s' p0 p1 d0 d1 s0 s1 ho q0 q1 e0 e1 t0 t1 ho' e
    have w := oN_inj c (j := sq p d) (k := sq p' d') (by rw [sq_p p0 d0 d1, sq_d p0 d0 d1]; exact ho) (by rw [sq_p q0 e0 e1, sq_d q0 e0 e1]; exact ho') (by omega)
    have a := sq_c p0 d0
    have b := sq_c q0 e0
    rw [w] at a
    omega
  have r := cr_r p0 p1 d0 d1 s0 s1 ho
  intro p' d' s' q0 q1 e0 e1 t0 t1 ho'
  have r' := cr_r q0 q1 e0 e1 t0 t1 ho'
  have old := h p' d' s' q0 q1 e0 e1 t0 t1 ho'
  by_cases a : 4 * oN c (sq p' d') + s' = 4 * oN c (sq p d) + s
  · obtain ⟨rfl, rfl, rfl⟩ := inj q0 q1 e0 e1 t0 t1 ho' p0 p1 d0 d1 s0 s1 ho a
    rw [ur_eq]
    by_cases b : 4 * oN c (sq p' d') + s' = 4 * oN c (sq (cP c p' d' s') (cD c p' d' s')) + cS c p' d' s'
    · rw [b, ur_eq]
    · rw [ur_ne _ _ b, ur_eq]
  · by_cases b : 4 * oN c (sq p' d') + s' = 4 * oN c (sq (cP c p d s) (cD c p d s)) + cS c p d s
    · obtain ⟨x1, x2, x3⟩ := inj q0 q1 e0 e1 t0 t1 ho' r.1.1 r.1.2 r.2.1.1 r.2.1.2 r.2.2.1.1 r.2.2.1.2 r.2.2.2.1 b
      have y1 : cP c p' d' s' = p := by rw [x1, x2, x3]; exact r.2.2.2.2.1
      have y2 : cD c p' d' s' = d := by rw [x1, x2, x3]; exact r.2.2.2.2.2.1
      have y3 : cS c p' d' s' = s := by rw [x1, x2, x3]; exact r.2.2.2.2.2.2.1
      rw [y1, y2, y3, b, ur_eq]
      by_cases g : 4 * oN c (sq p d) + s = 4 * oN c (sq (cP c p d s) (cD c p d s)) + cS c p d s
      · rw [g, ur_eq]
      · rw [ur_ne _ _ g, ur_eq]
    · rw [ur_ne _ _ b, ur_ne _ _ a]
      have a' : ¬ 4 * oN c (sq (cP c p' d' s') (cD c p' d' s')) + cS c p' d' s' = 4 * oN c (sq (cP c p d s) (cD c p d s)) + cS c p d s := fun e => by
        obtain ⟨x1, x2, x3⟩ := inj r'.1.1 r'.1.2 r'.2.1.1 r'.2.1.2 r'.2.2.1.1 r'.2.2.1.2 r'.2.2.2.1 r.1.1 r.1.2 r.2.1.1 r.2.1.2 r.2.2.1.1 r.2.2.1.2 r.2.2.2.1 e
        have z1 := r'.2.2.2.2.1
        have z2 := r'.2.2.2.2.2.1
        have z3 := r'.2.2.2.2.2.2.1
        rw [x1, x2, x3] at z1 z2 z3
        rw [r.2.2.2.2.1] at z1
        rw [r.2.2.2.2.2.1] at z2
        rw [r.2.2.2.2.2.2.1] at z3
        exact a (by rw [z1, z2, z3])
      have b' : ¬ 4 * oN c (sq (cP c p' d' s') (cD c p' d' s')) + cS c p' d' s' = 4 * oN c (sq p d) + s := fun e => by
        obtain ⟨x1, x2, x3⟩ := inj r'.1.1 r'.1.2 r'.2.1.1 r'.2.1.2 r'.2.2.1.1 r'.2.2.1.2 r'.2.2.2.1 p0 p1 d0 d1 s0 s1 ho e
        have z1 := r'.2.2.2.2.1
        have z2 := r'.2.2.2.2.2.1
        have z3 := r'.2.2.2.2.2.2.1
        rw [x1, x2, x3] at z1 z2 z3
        exact b (by rw [z1, z2, z3])
      rw [ur_ne _ _ a', ur_ne _ _ b']
      exact old
theorem LDS.at {c : Int → Int} {L B : Int → Int} (h : LDS c (4 * oN c 384) L B) {p d s : Int} (p0 : 0 ≤ p ∧ p < 64) (d0 : 0 ≤ d ∧ d < 6) (s0 : 0 ≤ s ∧ s < 4) (ho : outr c p d) : L (4 * oN c (sq p d) + s) = 4 * oN c (sq (cP c p d s) (cD c p d s)) + cS c p d s ∧ B (4 * oN c (sq p d) + s) = cB c p d s := by
  have := oN_384 c p0.1 p0.2 d0.1 d0.2 ho
  exact h p d s p0.1 p0.2 d0.1 d0.2 s0.1 s0.2 ho (by omega)
/-- the leads, read -/
theorem c_squareAcross {q s v t : Int} {K : Int → tM → Prop} (q0 : 0 ≤ q) (q1 : q < 240) (s0 : 0 ≤ s) (s1 : s < 4) (e : m 113 (4 * q + s) = 4 * v + t) (v0 : 0 ≤ v) (v1 : v < 384) (t0 : 0 ≤ t) (t1 : t < 4) (h : K v m) : Cli mX9_squareAcross [rV 109, iV q, iV s] m K := by
  refine wX9_squareAcross_0 ⟨⟨by constructor <;> omega, by constructor <;> omega, by omega, by omega⟩, _, rfl, ?_⟩
  rw [e, bShr_2 (by constructor <;> omega), show (4 * v + t) / 4 = v by omega]
  exact h
theorem c_sideAcross {q s v t : Int} {K : Int → tM → Prop} (q0 : 0 ≤ q) (q1 : q < 240) (s0 : 0 ≤ s) (s1 : s < 4) (e : m 113 (4 * q + s) = 4 * v + t) (v0 : 0 ≤ v) (v1 : v < 384) (t0 : 0 ≤ t) (t1 : t < 4) (h : K t m) : Cli mX9_sideAcross [rV 109, iV q, iV s] m K := by
  refine wX9_sideAcross_0 ⟨⟨by constructor <;> omega, by constructor <;> omega, by omega, by omega⟩, _, rfl, ?_⟩
  rw [e, bAnd_3 (by constructor <;> omega), show (4 * v + t) % 4 = t by omega]
  exact h
theorem FLT.zero {c : Int → Int} {w w' : Int} (h : FLT c w) (h' : FLT c w') : w = 0 ↔ w' = 0 := by rw [h.uniq h']
theorem sim_across {q s w : Int} {K : Int → Int → tM → Prop} (hc : Cur m) (hh : HisR m) (hu : HUc m) (h : ∀ r m', Cur m' → HisR m' → HUc m' → OTB m m' → K r r m') : Cli mX11_across [rV 0, iV q, iV s, iV w] m (fun r m1 => Cli mX12_across [rV 145, iV q, iV s, iV w] m1 (fun r' m2 => K r r' m2)) := by
  have o240 := oN_240 (nrm (m 147))
  have ob := oN_bound (nrm (m 147)) 384
  have h6 := hu.2.2.1
  -- the reference, up to its answer
  have bad : (¬ ((0 ≤ q ∧ q < m 109 6) ∧ (0 ≤ s ∧ s < 4) ∧ (0 ≤ w ∧ w < 4))) → Cli mX12_across [rV 145, iV q, iV s, iV w] m (fun r' m2 => K (-3) r' m2) := fun no => by
    refine wX12_across_0 (c_findSkin (ce0 m) (fun m1 hq => ?_))
    obtain ⟨j1, j2, j3, j4⟩ := skin_same hc hh hu hq
    have e := hq.2.2.1
    refine ⟨by constructor <;> omega, c_in ⟨fun _ => ⟨_, rfl, h _ _ j1 j2 j3 j4⟩, fun g1 => c_in ⟨fun _ => ⟨_, rfl, h _ _ j1 j2 j3 j4⟩, fun g2 => c_in ⟨fun _ => ⟨_, rfl, h _ _ j1 j2 j3 j4⟩, fun g3 => absurd ?_ no⟩⟩⟩⟩
    have := if11 g1
    have := if11 g2
    have := if11 g3
    omega
  refine wX11_across_0 (wX9_size_0 ⟨_, rfl, c_isWithin ⟨fun g => ⟨_, rfl, bad (fun z => if10 g z.1)⟩, fun g => c_isWithin ⟨fun g2 => ⟨_, rfl, bad (fun z => if10 g2 z.2.1)⟩, fun g2 => c_isWithin ⟨fun g3 => ⟨_, rfl, bad (fun z => if10 g3 z.2.2)⟩, fun g3 => ?_⟩⟩⟩⟩)
  have pq := if11 g
  have ps := if11 g2
  have pw := if11 g3
  obtain ⟨p, d, p0, d0, ho, eq, -⟩ := sq_ex (c := nrm (m 147)) pq.1 (by omega)
  have cr := cr_r p0.1 p0.2 d0.1 d0.2 ps.1 ps.2 ho
  have ob2 := oN_384 _ cr.1.1 cr.1.2 cr.2.1.1 cr.2.1.2 cr.2.2.2.1
  have ld := hu.2.2.2.2.2.at p0 d0 ps ho
  rw [eq] at ld
  obtain ⟨hB, hE, hS⟩ := id hc
  obtain ⟨b0, b1, b2⟩ := hE.1 q pq.1 (by omega)
  have ref : ∀ v, (m 109 7 = 0 → (w = 0 → v = oN (nrm (m 147)) (sq (cP (nrm (m 147)) p d s) (cD (nrm (m 147)) p d s))) ∧ (w = 1 → v = cS (nrm (m 147)) p d s) ∧ (w = 2 → v = if cB (nrm (m 147)) p d s = -1 then 9 else cB (nrm (m 147)) p d s) ∧ (w = 3 → v = m 148 (4 * q + s))) → (m 109 7 ≠ 0 → v = -4) → Cli mX12_across [rV 145, iV q, iV s, iV w] m (fun r' m2 => K v r' m2) := fun v v1 v2 => by
    refine wX12_across_0 (c_findSkin (ce0 m) (fun m1 hq => ?_))
    have e := hq.2.2.1
    have e147 : m1 147 = m 147 := by rw [hq.1 147 (by omega) (by omega) (by omega) (by omega), up_ne _ _ _ (by omega)]
    refine ⟨by constructor <;> omega, c_in ⟨fun g1 => absurd (if10 g1) (by omega), fun _ => c_in ⟨fun g1 => absurd (if10 g1) (by omega), fun _ => c_in ⟨fun g1 => absurd (if10 g1) (by omega), fun _ => c_wellOf (c := nrm (m 147)) (fun x x0 x1 => by rw [e147]; exact ceN m x x0 x1) hu.1 (fun u m2 hf fr => ⟨fun g1 => ?_, fun g1 => ⟨_, rfl, ?_⟩⟩)⟩⟩⟩⟩
    · have z := (FLT.zero hf hu.2.2.2.1).1 g1
      obtain ⟨w0, w1, w2, w3⟩ := v1 z
      have ns2 : NS (nrm (m 147)) 384 (m2 158) (m2 159) (m2 160) := by rw [fr 158 (by omega) (by omega), fr 159 (by omega) (by omega), fr 160 (by omega) (by omega)]; exact hq.2.2.2
      refine c_findAcross (c := nrm (m 147)) (fun x x0 x1 => by rw [fr 147 (by omega) (by omega), e147]; exact ceN m x x0 x1) ns2 p0.1 p0.2 d0.1 d0.2 ps.1 ps.2 ho eq.symm (fun m3 fa => ?_)
      obtain ⟨f1, f2, f3, f4, f5⟩ := fa
      obtain ⟨j1, j2, j3, j4⟩ := rest_same hc hh hu (m' := m3) (fun a ha => by rw [f1 a (by omega), fr a (by omega) (by omega), hq.1 a (by omega) (by omega) (by omega) (by omega), up_ne _ _ _ (by omega)]) (fun a a0 a1 => by rw [f1 a (by omega), fr a (by omega) (by omega), hq.1 a (by omega) (by omega) (by omega) (by omega), up_ne _ _ _ (by omega)]) (by rw [f2 4 (by omega) (by omega) (by omega), fr 145 (by omega) (by omega), hq.2.1 4 (by omega), up_at_ne _ _ _ (by omega)]) (by rw [f2 12 (by omega) (by omega) (by omega), fr 145 (by omega) (by omega), hq.2.1 12 (by omega), up_at_ne _ _ _ (by omega)]) (by rw [f2 13 (by omega) (by omega) (by omega), fr 145 (by omega) (by omega), hq.2.1 13 (by omega), up_at_ne _ _ _ (by omega)])
      refine ⟨fun a => ⟨_, rfl, ?_⟩, fun a => ⟨fun b => ⟨_, rfl, ?_⟩, fun b => ⟨fun x y hy => ⟨_, rfl, ?_⟩, fun x => ⟨⟨by constructor <;> omega, by constructor <;> omega, by omega, by omega⟩, _, rfl, ?_⟩⟩⟩⟩
      · rw [f3, w0 a]; exact h _ _ j1 j2 j3 j4
      · rw [f4, w1 b]; exact h _ _ j1 j2 j3 j4
      · rw [hy, f5, w2 x]; exact h _ _ j1 j2 j3 j4
      · rw [w3 (by omega), f1 148 (by omega), fr 148 (by omega) (by omega), hq.1 148 (by omega) (by omega) (by omega) (by omega), up_ne _ _ _ (by omega)]; exact h _ _ j1 j2 j3 j4
    · have z : m 109 7 ≠ 0 := fun z => g1 ((FLT.zero hf hu.2.2.2.1).2 z)
      rw [v2 z]
      obtain ⟨j1, j2, j3, j4⟩ := rest_same hc hh hu (m' := m2) (fun a ha => by rw [fr a (by omega) (by omega), hq.1 a (by omega) (by omega) (by omega) (by omega), up_ne _ _ _ (by omega)]) (fun a a0 a1 => by rw [fr a (by omega) (by omega), hq.1 a (by omega) (by omega) (by omega) (by omega), up_ne _ _ _ (by omega)]) (by rw [fr 145 (by omega) (by omega), hq.2.1 4 (by omega), up_at_ne _ _ _ (by omega)]) (by rw [fr 145 (by omega) (by omega), hq.2.1 12 (by omega), up_at_ne _ _ _ (by omega)]) (by rw [fr 145 (by omega) (by omega), hq.2.1 13 (by omega), up_at_ne _ _ _ (by omega)])
      exact h _ _ j1 j2 j3 j4
  refine wX9_fault_0 ⟨_, rfl, fun g4 => ⟨fun a => ?_, fun a => ?_, fun a => ?_, fun a b x => ?_⟩, fun g4 => ⟨_, rfl, ref _ (fun z => absurd z g4) (fun _ => rfl)⟩⟩
  · exact c_squareAcross pq.1 (by omega) ps.1 ps.2 ld.1 ob2.1 (by omega) cr.2.2.1.1 cr.2.2.1.2 ⟨_, rfl, ref _ (fun _ => ⟨fun _ => rfl, fun _ => by omega, fun _ => by omega, fun _ => by omega⟩) (fun z => absurd g4 z)⟩
  · exact c_sideAcross pq.1 (by omega) ps.1 ps.2 ld.1 ob2.1 (by omega) cr.2.2.1.1 cr.2.2.1.2 ⟨_, rfl, ref _ (fun _ => ⟨fun _ => by omega, fun _ => rfl, fun _ => by omega, fun _ => by omega⟩) (fun z => absurd g4 z)⟩
  · refine wX9_bendAcross_0 ⟨⟨by constructor <;> omega, by constructor <;> omega, by omega, by omega⟩, _, rfl, wX11_toldStep_0 (fun v hv => ⟨_, rfl, _, rfl, ref _ (fun _ => ⟨fun _ => by omega, fun _ => by omega, fun _ => ?_, fun _ => by omega⟩) (fun z => absurd g4 z)⟩)⟩
    rw [hv, ld.2]
    have cb : cB (nrm (m 147)) p d s = -1 ∨ cB (nrm (m 147)) p d s = 0 ∨ cB (nrm (m 147)) p d s = 1 := by
      unfold cB
      split
      · exact Or.inl rfl
      · split
        · exact Or.inr (Or.inl rfl)
        · exact Or.inr (Or.inr rfl)
    by_cases y : cB (nrm (m 147)) p d s = -1
    · rw [if_pos y, if_pos (by omega)]
    · rw [if_neg y, if_neg (by omega)]
  · refine c_isCut pq.1 (by omega) ps.1 ps.2 ⟨b0, b1⟩ (fun v hv => ⟨_, rfl, ref _ (fun _ => ⟨fun _ => by omega, fun _ => by omega, fun _ => by omega, fun _ => ?_⟩) (fun z => absurd g4 z)⟩)
    rw [hv, b2 s ps.1 ps.2]
    rcases (show m 5 q / 2 ^ s.toNat % 2 = 0 ∨ m 5 q / 2 ^ s.toNat % 2 = 1 by omega) with y | y
    · rw [y]; rfl
    · rw [y]; rfl
end C9p
