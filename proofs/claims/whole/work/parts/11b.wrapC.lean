/-! a sheet wraps a body: the class tries one start -/
def RGR (n : Int) (c4 nb : Int → Int → Int) (r k : Int) : Prop := ∀ Q : Int → Prop, Q r → (∀ k d o, EG n c4 nb k d o → Q k → Q o) → Q k
def DR (n : Int) (c4 nb : Int → Int → Int) (L : Int → Int) (ov r st k l : Int) : Prop := ∀ Q : Int → Int → Prop, Q r st → (∀ k d o l, EG n c4 nb k d o → Q k l → Q o (crW L ov d l)) → Q k l
def CWr (n : Int) (c4 nb : Int → Int → Int) (L : Int → Int) (ov : Int) (lab : Int → Int) : Prop := ∀ k d o, EG n c4 nb k d o → lab o = crW L ov d (lab k)
def FT (n : Int) (c4 nb : Int → Int → Int) (L : Int → Int) (ov r st : Int) : Prop := ∃ lab : Int → Int, lab r = st ∧ CWr n c4 nb L ov lab ∧ (∀ j k, 0 ≤ j → j < n → 0 ≤ k → k < n → lab j / 4 = lab k / 4 → j = k) ∧ ∀ k, 0 ≤ k → k < n → RGR n c4 nb r k
theorem DR.eq {n : Int} {c4 nb : Int → Int → Int} {L : Int → Int} {ov r st k l : Int} {lab : Int → Int} (h0 : lab r = st) (h : CWr n c4 nb L ov lab) (d : DR n c4 nb L ov r st k l) : l = lab k :=
  d (fun k l => l = lab k) h0.symm (fun k d o l e q => by show crW L ov d l = lab o; rw [h k d o e, q])
theorem DR.rf {n : Int} {c4 nb : Int → Int → Int} {L : Int → Int} {ov r st : Int} : DR n c4 nb L ov r st r st := fun _ h _ => h
theorem DR.st {n : Int} {c4 nb : Int → Int → Int} {L : Int → Int} {ov r st k d o l : Int} (h : DR n c4 nb L ov r st k l) (e : EG n c4 nb k d o) : DR n c4 nb L ov r st o (crW L ov d l) := fun Q q s => s k d o l e (h Q q s)
theorem DR.rg {n : Int} {c4 nb : Int → Int → Int} {L : Int → Int} {ov r st k l : Int} (h : DR n c4 nb L ov r st k l) : RGR n c4 nb r k := fun Q q hs => h (fun k _ => Q k) q (fun k d o _ e q => hs k d o e q)
/-- two directions are enough -/
theorem CWr.of2 {n : Int} {c4 nb : Int → Int → Int} {L B lab : Int → Int} {ov : Int} (hg : GR n c4 nb) (hS : SKN n L B) (hv : ∀ k, 0 ≤ k → k < n → 0 ≤ lab k ∧ lab k < 4 * n) (h : ∀ k d o, d < 2 → EG n c4 nb k d o → lab o = crW L ov d (lab k)) : CWr n c4 nb L ov lab := by
  intro k d o e
  by_cases q : d < 2
  · exact h k d o q e
  · obtain ⟨k0, k1, d0, d1, hc, ho⟩ := e
    obtain ⟨r1, r2⟩ := hg.2 k d k0 k1 d0 d1
    obtain ⟨x0, x2, x3⟩ := r2 hc
    rw [ho] at x0 x2 x3
    have ed : (d + 2) % 4 = d - 2 := by omega
    rw [ed] at x2 x3
    have back := h o (d - 2) k (by omega) ⟨x0.1, x0.2, by omega, by omega, by rw [x2]; exact hc, x3⟩
    have v := hv o x0.1 x0.2
    have iv := crW_inv hS (ov := ov) (d := d - 2) (l := lab o) (by omega) (by omega) v.1 v.2
    rw [← back, show (d - 2 + 2) % 4 = d by omega] at iv
    exact iv.symm
def lbW (m : tM) (k : Int) : Int := 4 * m 129 k + m 130 k
/-- what is laid so far, along the order O -/
def WI (n : Int) (c4 nb : Int → Int → Int) (ov st : Int) (m m' : tM) (i : Int) : Prop := (∀ c, c < 129 ∨ 131 < c → m' c = m c) ∧ (∀ j, 0 ≤ j → j < i → DR n c4 nb (m 113) ov 0 st (m 122 j) (lbW m' (m 122 j)) ∧ (0 ≤ m' 129 (m 122 j) ∧ m' 129 (m 122 j) < n) ∧ (0 ≤ m' 130 (m 122 j) ∧ m' 130 (m 122 j) < 4)) ∧ (∀ j l, 0 ≤ j → j < i → 0 ≤ l → l < i → m' 129 (m 122 j) = m' 129 (m 122 l) → j = l) ∧ (∀ q, 0 ≤ q → q < 60 → (m' 131 q = -1 ↔ ¬ ∃ j, 0 ≤ j ∧ j < i ∧ m' 129 (m 122 j) = q))
section C11b
variable {m : tM}
theorem c_landing {n ov k d : Int} {B : Int → Int} {K : Int → tM → Prop} (hS : SKN n (m 113) B) (n1 : n ≤ 60) (k0 : 0 ≤ k) (k1 : k < 60) (d0 : 0 ≤ d) (d1 : d < 4) (ho : ov = 0 ∨ ov = 1) (q0 : 0 ≤ m 129 k ∧ m 129 k < n) (t0 : 0 ≤ m 130 k ∧ m 130 k < 4) (h : K (crW (m 113) ov d (lbW m k)) m) : Cli mX10_landing [rV 128, rV 109, iV k, iV d, iV ov] m K := by
  have el : lbW m k / 4 = m 129 k := by unfold lbW; omega
  have et : lbW m k % 4 = m 130 k := by unfold lbW; omega
  have fin : ∀ a, 0 ≤ a → a < 4 → lkW ov d = a → ((0 ≤ k ∧ k < 60 ∧ R32 (a - (m 130 k)) ∧ R32 (a + 2)) ∧ (Cli mX9_sideAcross [rV 109, iV (m 129 k), iV (bAnd (a - (m 130 k)) 3)] m (fun r1 m1 => ((R32 ((a + 2) - r1)) ∧ (Cli mX9_squareAcross [rV 109, iV (m1 129 k), iV (bAnd (a - (m 130 k)) 3)] m1 (fun r2 m2 => ((R32 (4 * r2) ∧ R32 ((4 * r2) + (bAnd ((a + 2) - r1) 3))) ∧ (∃ x, some (iV ((4 * r2) + (bAnd ((a + 2) - r1) 3))) = some (iV x) ∧ K x m2)))))))) := by
    intro a a0 a1 ea
    have eb : bAnd (a - m 130 k) 3 = (a - m 130 k) % 4 := bAnd_3 (by constructor <;> omega)
    have sd : sdW ov d (lbW m k) = (a - m 130 k) % 4 := by unfold sdW; rw [ea, et]
    have s0 : 0 ≤ (a - m 130 k) % 4 ∧ (a - m 130 k) % 4 < 4 := by omega
    have hR : R32 (a - m 130 k) := by constructor <;> omega
    rw [eb]
    generalize (a - m 130 k) % 4 = sd' at *
    have r := (hS (m 129 k) sd' q0.1 q0.2 s0.1 s0.2).1
    have ec : crW (m 113) ov d (lbW m k) = 4 * (m 113 (4 * m 129 k + sd') / 4) + (a + 2 - m 113 (4 * m 129 k + sd') % 4) % 4 := by unfold crW; rw [el, sd, ea]
    rw [ec] at h
    generalize hoo : m 113 (4 * m 129 k + sd') = o at *
    have eR : bAnd (a + 2 - o % 4) 3 = (a + 2 - o % 4) % 4 := bAnd_3 (by constructor <;> omega)
    refine ⟨⟨k0, k1, hR, by constructor <;> omega⟩, c_sideAcross (v := o / 4) (t := o % 4) q0.1 (by omega) s0.1 s0.2 (by rw [hoo]; omega) (by omega) (by omega) (by omega) (by omega) ⟨by constructor <;> omega, c_squareAcross (v := o / 4) (t := o % 4) q0.1 (by omega) s0.1 s0.2 (by rw [hoo]; omega) (by omega) (by omega) (by omega) (by omega) ?_⟩⟩
    rw [eR]
    exact ⟨⟨by constructor <;> omega, by constructor <;> omega⟩, _, rfl, h⟩
  rcases ho with rfl | rfl
  · exact wX10_landing_0 ⟨fun _ => fin d d0 d1 rfl, fun g => absurd rfl g⟩
  · exact wX10_landing_0 ⟨fun g => by omega, fun _ => c_mirrored (by omega) (by omega) (fin _ (by omega) (by omega) rfl)⟩
theorem c_layW {k l : Int} {K : tM → Prop} (k0 : 0 ≤ k) (k1 : k < 60) (l0 : 0 ≤ l) (l1 : l < 240) (h : ∀ m', (∀ c, c < 129 ∨ 131 < c → m' c = m c) → m' 129 = ur (m 129) k (l / 4) → m' 130 = ur (m 130) k (l % 4) → m' 131 = ur (m 131) (l / 4) k → K m') : Clv mX10_lay [rV 128, iV k, iV l] m K := by
  have e1 : bShr l 2 = l / 4 := bShr_2 (by constructor <;> omega)
  have e2 : bAnd l 3 = l % 4 := bAnd_3 (by constructor <;> omega)
  refine wX10_lay_0 ?_
  rw [e1, e2]
  refine ⟨⟨k0, k1, by omega, by omega⟩, rfl, h _ (fun c hc => by rw [up_ne _ _ _ (by omega), up_ne _ _ _ (by omega), up_ne _ _ _ (by omega)]) ?_ ?_ ?_⟩
  · rw [up_ne _ _ _ (by omega), up_ne _ _ _ (by omega)]; exact sr_eq _ _ _
  · rw [up_ne _ _ _ (by omega)]
    show sr _ 130 (ur ((up m 129 k (l / 4)) 130) k (l % 4)) 130 = _
    rw [sr_eq, up_ne _ _ _ (by omega)]
  · show sr _ 131 (ur ((up (up m 129 k (l / 4)) 130 k (l % 4)) 131) (l / 4) k) 131 = _
    rw [sr_eq, up_ne _ _ _ (by omega), up_ne _ _ _ (by omega)]
theorem fits_end {n ov st : Int} {c4 nb : Int → Int → Int} {B : Int → Int} {m' : tM} {K : Int → tM → Prop} (hg : GR n c4 nb) (np : 0 < n) (hS : SKN n (m 113) B) (hN : ∀ k d, 0 ≤ k → k < n → 0 ≤ d → d < 4 → m 121 (4 * k + d) = if c4 k d = 0 then -1 else nb k d) (bi : BI n c4 nb (m 122) (m 123) n n 0) (ho : ov = 0 ∨ ov = 1) (wi : WI n c4 nb ov st m m' n) (e0 : lbW m' 0 = st) (h1 : FT n c4 nb (m 113) ov 0 st → K 1 m') (h0 : ¬ FT n c4 nb (m 113) ov 0 st → K 0 m') : Tj mX10_fits 85 [some (rV 128), some (iV n), some (rV 120), some (rV 109), none, some (iV ov), some (iV 0)] [] m' (fun r m' => ∃ x, r = some (iV x) ∧ K x m') := by
  have n1 := hg.1.2
  obtain ⟨-, b, c, e, -, -, -⟩ := bi
  obtain ⟨w1, w2, w3, -⟩ := wi
  have all : ∀ k, 0 ≤ k → k < n → DR n c4 nb (m 113) ov 0 st k (lbW m' k) ∧ (0 ≤ m' 129 k ∧ m' 129 k < n) ∧ (0 ≤ m' 130 k ∧ m' 130 k < 4) := fun k k0 k1 => by
    obtain ⟨i, i0, i1, i2⟩ := row_all (O := m 122) (by omega) c e k0 k1
    have := w2 i i0 i1
    rw [i2] at this
    exact this
  have inj : ∀ j k, 0 ≤ j → j < n → 0 ≤ k → k < n → m' 129 j = m' 129 k → j = k := fun j k j0 j1 k0 k1 q => by
    obtain ⟨i, i0, i1, i2⟩ := row_all (O := m 122) (by omega) c e j0 j1
    obtain ⟨l, l0, l1, l2⟩ := row_all (O := m 122) (by omega) c e k0 k1
    have := w3 i l i0 i1 l0 l1 (by rw [i2, l2]; exact q)
    rw [← i2, ← l2, this]
  have e113 : m' 113 = m 113 := w1 113 (by omega)
  have key := up_ind (n := n) (fun k => (∀ j d o, j < k → d < 2 → EG n c4 nb j d o → lbW m' o = crW (m 113) ov d (lbW m' j)) → Tj mX10_fits 85 [some (rV 128), some (iV n), some (rV 120), some (rV 109), none, some (iV ov), some (iV k)] [] m' (fun r m' => ∃ x, r = some (iV x) ∧ K x m')) ?_ ?_ (i := 0) (by omega) (by omega)
  · exact key (fun j d o j1 _ eg => absurd eg.1 (by omega))
  · intro ok
    refine wX10_fits_85 ⟨fun g => by omega, fun _ => ⟨_, rfl, h1 ⟨lbW m', e0, ?_, fun j k j0 j1 k0 k1 q => ?_, fun k k0 k1 => (all k k0 k1).1.rg⟩⟩⟩
    · refine CWr.of2 hg hS (fun k k0 k1 => ?_) (fun k d o d2 eg => ok k d o eg.2.1 d2 eg)
      obtain ⟨-, a1, a2⟩ := all k k0 k1
      unfold lbW
      omega
    · have a := (all j j0 j1).2
      have a' := (all k k0 k1).2
      refine inj j k j0 j1 k0 k1 ?_
      unfold lbW at q
      omega
  · intro k k0 k1 ih ok
    refine wX10_fits_85 ⟨fun _ => ?_, fun g => absurd k1 g⟩
    have key2 := up_ind (n := 2) (fun d => (∀ j e o, (j < k ∨ (j = k ∧ e < d)) → e < 2 → EG n c4 nb j e o → lbW m' o = crW (m 113) ov e (lbW m' j)) → Tj mX10_fits 94 [some (rV 128), some (iV n), some (rV 120), some (rV 109), none, some (iV ov), some (iV k), some (iV d)] [] m' (fun r m' => ∃ x, r = some (iV x) ∧ K x m')) ?_ ?_ (i := 0) (by omega) (by omega)
    · refine key2 (fun j d o hj d2 eg => ok j d o ?_ d2 eg)
      have := eg.2.2.1
      omega
    · intro ok2
      exact wX10_fits_94 ⟨fun g => by omega, fun _ => ⟨by constructor <;> omega, ih (fun j d o hj d2 eg => ok2 j d o (by omega) d2 eg)⟩⟩
    · intro d d0 d1 ih2 ok2
      have eN : m' 121 (4 * k + d) = if c4 k d = 0 then -1 else nb k d := by rw [w1 121 (by omega)]; exact hN k d k0 k1 d0 (by omega)
      refine wX10_fits_94 ⟨fun _ => wX6_next_0 ⟨⟨by constructor <;> omega, by constructor <;> omega, by omega, by omega⟩, _, rfl, ?_⟩, fun g => absurd d1 g⟩
      rw [eN]
      by_cases hc : c4 k d = 0
      · rw [if_pos hc]
        refine ⟨fun _ => ⟨by constructor <;> omega, ih2 (fun j e' o hj e2 eg => ?_)⟩, fun g => by omega⟩
        by_cases w : j = k ∧ e' = d
        · have := eg.2.2.2.2.1
          rw [w.1, w.2] at this
          exact absurd hc this
        · exact ok2 j e' o (by omega) e2 eg
      · rw [if_neg hc]
        have nx := ((hg.2 k d k0 k1 d0 (by omega)).2 hc).1
        have eg : EG n c4 nb k d (nb k d) := ⟨k0, k1, d0, by omega, hc, rfl⟩
        generalize nb k d = o at *
        obtain ⟨-, a1, a2⟩ := all k k0 k1
        obtain ⟨-, c1, c2⟩ := all o nx.1 nx.2
        refine ⟨fun g => by omega, fun _ => c_landing (B := B) (by rw [e113]; exact hS) n1 k0 (by omega) d0 (by omega) ho a1 a2 ⟨⟨nx.1, by omega, by constructor <;> omega, by constructor <;> omega⟩, fun g => ⟨by constructor <;> omega, ih2 (fun j e' o' hj e2 eg' => ?_)⟩, fun g => ⟨_, rfl, h0 ?_⟩⟩⟩
        · by_cases w : j = k ∧ e' = d
          · have a := eg'.2.2.2.2.2
            rw [w.1, w.2, eg.2.2.2.2.2] at a
            rw [w.1, w.2, ← a, ← e113]
            exact g.symm
          · exact ok2 j e' o' (by omega) e2 eg'
        · rintro ⟨lab, l0, cw, -, -⟩
          rw [e113] at g
          have x1 := DR.eq l0 cw (all k k0 k1).1
          have x2 := DR.eq l0 cw (all o nx.1 nx.2).1
          have x3 := cw k d o eg
          rw [← x1, ← x2] at x3
          exact g x3.symm
theorem c_fits {n ov st : Int} {c4 nb : Int → Int → Int} {B : Int → Int} {K : Int → tM → Prop} (hg : GR n c4 nb) (np : 0 < n) (hS : SKN n (m 113) B) (hN : ∀ k d, 0 ≤ k → k < n → 0 ≤ d → d < 4 → m 121 (4 * k + d) = if c4 k d = 0 then -1 else nb k d) (bi : BI n c4 nb (m 122) (m 123) n n 0) (ho : ov = 0 ∨ ov = 1) (s0 : 0 ≤ st) (s1 : st < 4 * n) (h1 : FT n c4 nb (m 113) ov 0 st → ∀ m', (∀ c, c < 129 ∨ 131 < c → m' c = m c) → K 1 m') (h0 : ¬ FT n c4 nb (m 113) ov 0 st → ∀ m', (∀ c, c < 129 ∨ 131 < c → m' c = m c) → K 0 m') : Cli mX10_fits [rV 128, iV n, rV 120, rV 109, iV st, iV ov] m K := by
  have n1 := hg.1.2
  obtain ⟨-, b, c, e, f, -, -⟩ := id bi
  refine wX10_fits_0 (c_fill sh_131 (by omega) ?_)
  generalize hm1 : sr m 131 (fil (fun _ => -1) (m 131) 0 (60 : Nat)) = m1
  have f1 : ∀ x, x ≠ 131 → m1 x = m x := fun x hx => by rw [← hm1, sr_ne _ _ hx]
  have z1 : ∀ q, 0 ≤ q → q < 60 → m1 131 q = -1 := fun q q0 q1 => by rw [← hm1, sr_eq, fil_in _ _ (by omega)]
  refine c_layW (by omega) (by omega) s0 (by omega) (fun m2 f2 e129 e130 e131 => ?_)
  have key := up_ind (n := n) (fun i => 1 ≤ i → ∀ m', WI n c4 nb ov st m m' i → lbW m' 0 = st → Tj mX10_fits 18 [some (rV 128), some (iV n), some (rV 120), some (rV 109), none, some (iV ov), some (iV i)] [] m' (fun r m' => ∃ x, r = some (iV x) ∧ K x m')) ?_ ?_ (i := 1) (by omega) (by omega)
  · have a0 : lbW m2 0 = st := by unfold lbW; rw [e129, e130, ur_eq, ur_eq]; omega
    have a1 : m2 129 0 = st / 4 := by rw [e129, ur_eq]
    have a2 : m2 130 0 = st % 4 := by rw [e130, ur_eq]
    refine key (by omega) m2 ⟨fun x hx => by rw [f2 x hx, f1 x (by omega)], fun j j0 j1 => ?_, fun j l j0 j1 l0 l1 _ => by omega, fun q q0 q1 => ?_⟩ a0
    · rw [show j = 0 by omega, b, a0, a1, a2]
      exact ⟨DR.rf, by omega, by omega⟩
    · rw [e131]
      by_cases w : q = st / 4
      · rw [w, ur_eq]
        exact ⟨fun z => by omega, fun z => absurd ⟨0, by omega, by omega, by rw [b, a1]⟩ z⟩
      · rw [ur_ne _ _ w, z1 q q0 q1]
        refine ⟨fun _ => ?_, fun _ => rfl⟩
        rintro ⟨j, j0, j1, j2⟩
        rw [show j = 0 by omega, b, a1] at j2
        exact w j2.symm
  · intro _ m' wi l0
    exact wX10_fits_18 ⟨fun g => by omega, fun _ => fits_end hg np hS hN bi ho wi l0 (fun z => h1 z m' wi.1) (fun z => h0 z m' wi.1)⟩
  · intro i i0 i1 ih ip m' wi lb0
    obtain ⟨w1, w2, w3, w4⟩ := id wi
    obtain ⟨op, l, d, l0, l1, d0, sl, eg⟩ := f i ip i1
    have oi := c i i0 i1
    have ol := c l l0 (by omega)
    obtain ⟨dl, a1, a2⟩ := w2 l l0 l1
    have e113 : m' 113 = m 113 := w1 113 (by omega)
    have e122 : m' 122 i = m 122 i := by rw [w1 122 (by omega)]
    have e123 : m' 123 (m 122 i) = 4 * m 122 l + d := by rw [w1 123 (by omega)]; exact sl
    refine wX10_fits_18 ⟨fun _ => wX6_inOrder_0 ⟨⟨i0, by omega⟩, _, rfl, ?_⟩, fun g => absurd i1 g⟩
    rw [e122]
    refine wX6_reachedFrom_0 ⟨⟨oi.1, by omega⟩, _, rfl, wX6_reachedBy_0 ⟨⟨oi.1, by omega⟩, _, rfl, ?_⟩⟩
    rw [e123, bShr_2 (by constructor <;> omega), bAnd_3 (by constructor <;> omega), show (4 * m 122 l + d) / 4 = m 122 l by omega, show (4 * m 122 l + d) % 4 = d by omega]
    refine c_landing (B := B) (by rw [e113]; exact hS) n1 ol.1 (by omega) d0.1 d0.2 ho a1 a2 ?_
    rw [e113]
    have lr : 0 ≤ lbW m' (m 122 l) ∧ lbW m' (m 122 l) < 4 * n := by unfold lbW; omega
    have cr := crW_r hS (ov := ov) (d := d) lr.1 lr.2
    have dn := DR.st dl eg
    generalize hx : crW (m 113) ov d (lbW m' (m 122 l)) = x at *
    rw [bShr_2 (by constructor <;> omega)]
    refine ⟨by omega, fun g => c_layW oi.1 (by omega) cr.1 (by omega) (fun m5 f5 r129 r130 r131 => ⟨by constructor <;> omega, ?_⟩), fun g => ⟨_, rfl, h0 ?_ m' w1⟩⟩
    · have free := (w4 (x / 4) (by omega) (by omega)).1 g
      have oth : ∀ j, 0 ≤ j → j < i → m 122 j ≠ m 122 i := fun j j0 j1 z => by
        have := e j i j0 (by omega) i0 i1 z
        omega
      have at9 : ∀ j, 0 ≤ j → j < i → m5 129 (m 122 j) = m' 129 (m 122 j) := fun j j0 j1 => by rw [r129, ur_ne _ _ (oth j j0 j1)]
      have at0 : ∀ j, 0 ≤ j → j < i → m5 130 (m 122 j) = m' 130 (m 122 j) := fun j j0 j1 => by rw [r130, ur_ne _ _ (oth j j0 j1)]
      have n9 : m5 129 (m 122 i) = x / 4 := by rw [r129, ur_eq]
      have n0 : m5 130 (m 122 i) = x % 4 := by rw [r130, ur_eq]
      have lbo : ∀ j, 0 ≤ j → j < i → lbW m5 (m 122 j) = lbW m' (m 122 j) := fun j j0 j1 => by unfold lbW; rw [at9 j j0 j1, at0 j j0 j1]
      refine ih (by omega) m5 ⟨fun y hy => by rw [f5 y hy, w1 y hy], fun j j0 j1 => ?_, fun j k j0 j1 k0 k1 z => ?_, fun q q0 q1 => ?_⟩ ?_
      · by_cases w : j = i
        · rw [w, n9, n0, show lbW m5 (m 122 i) = x by unfold lbW; rw [n9, n0]; omega]
          exact ⟨dn, by omega, by omega⟩
        · rw [at9 j j0 (by omega), at0 j j0 (by omega), lbo j j0 (by omega)]
          exact w2 j j0 (by omega)
      · by_cases w : j = i
        · by_cases v : k = i
          · omega
          · rw [w, n9, at9 k k0 (by omega)] at z
            exact absurd ⟨k, k0, by omega, z.symm⟩ free
        · by_cases v : k = i
          · rw [v, n9, at9 j j0 (by omega)] at z
            exact absurd ⟨j, j0, by omega, z⟩ free
          · rw [at9 j j0 (by omega), at9 k k0 (by omega)] at z
            exact w3 j k j0 (by omega) k0 (by omega) z
      · rw [r131]
        by_cases w : q = x / 4
        · rw [w, ur_eq]
          exact ⟨fun z => by omega, fun z => absurd ⟨i, by omega, by omega, n9⟩ z⟩
        · rw [ur_ne _ _ w, w4 q q0 q1]
          constructor
          · rintro z ⟨j, j0, j1, j2⟩
            by_cases v : j = i
            · rw [v, n9] at j2; exact w j2.symm
            · rw [at9 j j0 (by omega)] at j2; exact z ⟨j, j0, by omega, j2⟩
          · rintro z ⟨j, j0, j1, j2⟩
            exact z ⟨j, j0, by omega, by rw [at9 j j0 j1]; exact j2⟩
      · have := lbo 0 (by omega) (by omega)
        rw [b] at this
        rw [this]; exact lb0
    · rintro ⟨lab, l0', cw, inj, -⟩
      have tk : ∃ j, 0 ≤ j ∧ j < i ∧ m' 129 (m 122 j) = x / 4 := Classical.byContradiction (fun no => g ((w4 (x / 4) (by omega) (by omega)).2 no))
      obtain ⟨j, j0, j1, j2⟩ := tk
      obtain ⟨dj, b1, b2⟩ := w2 j j0 j1
      have y1 := DR.eq l0' cw dj
      have y2 := DR.eq l0' cw dn
      have oj := c j j0 (by omega)
      have := inj (m 122 j) (m 122 i) oj.1 oj.2 oi.1 oi.2 (by rw [← y1, ← y2, ← j2]; unfold lbW; omega)
      have := e j i j0 (by omega) i0 i1 this
      omega
end C11b
