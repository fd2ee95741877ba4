/-! a skin is drawn as a sheet: the class, walked -/
section C10p
variable {m : tM} {n : Int} {ct : Int → Int}
theorem draw_sides {K : tM → Prop} {lab : Int → L3} {q spot : Int} (n1 : n ≤ 60) (ok : OKL n (m 113) (m 114) ct lab) (hE : E1 (m 5) ct) (hn : m 115 4 = n) (hl : lab = labC m) (q0 : 0 ≤ q) (q1 : q < n) (sp0 : 0 ≤ spot) (sp1 : spot < n) (ex : m 7 spot = (lab q).1) (ey : m 8 spot = (lab q).2.1) {s : SS} (hr : RepC (m 6 3) (m 7) (m 8) (m 9) s) (e63 : m 6 3 = n) (di : DI n (m 114) ct lab s (4 * q)) (h : ∀ m' s', (∀ c, c ≠ 9 → m' c = m c) → RepC (m' 6 3) (m' 7) (m' 8) (m' 9) s' → DI n (m 114) ct lab s' (4 * (q + 1)) → Tj mX5_drawOn 44 [some (rV 115), some (rV 6), some (rV 109), some (rV 4), some (iV (q + 1))] [] m' (fun r m' => r = none ∧ K m')) : Tj mX5_drawOn 76 [some (rV 115), some (rV 6), some (rV 109), some (rV 4), some (iV q), some (iV spot), some (iV 0)] [] m (fun r m' => r = none ∧ K m') := by
  have tq := (ok.2.2.2.1 q q0 q1).1
  have t118 : (lab q).2.2 = m 118 q := by rw [hl]; rfl
  have key := up_ind (n := 4) (fun e => ∀ m' s', (∀ c, c ≠ 9 → m' c = m c) → RepC (m' 6 3) (m' 7) (m' 8) (m' 9) s' → DI n (m 114) ct lab s' (4 * q + e) → Tj mX5_drawOn 76 [some (rV 115), some (rV 6), some (rV 109), some (rV 4), some (iV q), some (iV spot), some (iV e)] [] m' (fun r m' => r = none ∧ K m')) ?_ ?_ (i := 0) (by omega) (by omega)
  · exact key m s (fun _ _ => rfl) hr (by rw [Int.add_zero]; exact di)
  · intro m' s' fr hr' di'
    exact wX5_drawOn_76 ⟨fun g => by omega, fun _ => ⟨by constructor <;> omega, h m' s' fr hr' (by rw [show 4 * (q + 1) = 4 * q + 4 by omega]; exact di')⟩⟩
  · intro e e0 e1 ih m' s' fr hr' di'
    have hw := di'.1
    have e7 : m' 7 = m 7 := fr 7 (by omega)
    have e8 : m' 8 = m 8 := fr 8 (by omega)
    have e6 : m' 6 3 = n := by rw [fr 6 (by omega), e63]
    have e118 : m' 118 q = (lab q).2.2 := by rw [fr 118 (by omega), t118]
    have rr := hr'.1.rch hw
    have dd : (e + m' 118 q) % 4 = drL lab q e := by rw [e118]; rfl
    have dr : 0 ≤ drL lab q e ∧ drL lab q e < 4 := by unfold drL; omega
    have ee := hE q q0 (by omega)
    have cutE : m' 5 q / 2 ^ e.toNat % 2 = ct (4 * q + e) := by rw [fr 5 (by omega)]; exact (ee.2.2 e e0 e1).symm
    refine wX5_drawOn_76 ⟨fun _ => ⟨⟨q0, by omega, by constructor <;> omega⟩, fun g => by omega, fun _ => ?_⟩, fun g => absurd e1 g⟩
    rw [bAnd_3 (by constructor <;> omega), dd]
    refine c_beside shS_6 (by rw [e6]; omega) (by rw [e6]; exact n1) hr'.1.2.2.1 rr sp0 (by rw [e6]; exact sp1) dr.1 dr.2 ?_
    have nb0 := fnd_cases (m' 6 3) (m' 7) (m' 8) (m' 7 spot + dX (drL lab q e)) (m' 8 spot + dY (drL lab q e))
    generalize hN : nbr (m' 6 3) (m' (6 + 1)) (m' (6 + 2)) spot (drL lab q e) = N
    have hN' : fnd (m' 6 3) (m' 7) (m' 8) (m' 7 spot + dX (drL lab q e)) (m' 8 spot + dY (drL lab q e)) = N := hN
    have nb := nb0
    rw [hN'] at nb
    refine ⟨fun g => ⟨by constructor <;> omega, ih m' s' fr hr' (di'.cut e0 e1 (fun hc => ?_))⟩, fun g => c_isCut q0 (by omega) e0 e1 (by rw [fr 5 (by omega)]; exact ⟨ee.1, ee.2.1⟩) ?_⟩
    · -- an uncut side has its neighbour
      obtain ⟨r, ax, ay, -, -⟩ := ok.ac q0 q1 e0 e1 hc
      have inS : s'.1 (m' 7 spot + dX (drL lab q e)) (m' 8 spot + dY (drL lab q e)) := by
        rw [e7, e8, ex, ey]
        exact (di'.2.1 _ _).2 ⟨_, r.1, r.2, ax, ay⟩
      have := (hr'.1.fnd_iff _ _).1 inS
      rw [hN'] at this
      rcases nb with w | w
      · exact this w.1
      · omega
    · rw [cutE]
      refine ⟨fun hc => wX9_bendAcross_0 ⟨⟨by constructor <;> omega, by constructor <;> omega, by omega, by omega⟩, _, rfl, ?_⟩, fun hc => ⟨by constructor <;> omega, ih m' s' fr hr' (di'.cut e0 e1 hc)⟩⟩
      have vr := vL_r ok q0 q1 e0 e1
      show R32 (2 + m' 114 (4 * q + e)) ∧ Clv mX8_join [rV 6, iV spot, iV N, iV (drL lab q e), iV (2 + m' 114 (4 * q + e))] m' _
      rw [show m' 114 (4 * q + e) = m 114 (4 * q + e) by rw [fr 114 (by omega)], ← vr.2.2 hc]
      rcases nb with w | w
      · omega
      · refine ⟨by constructor <;> omega, c_join shS_6 sp0 (by omega) w.1 (by omega) dr.1 dr.2 ⟨by constructor <;> omega, ?_⟩⟩
        have j := RepC.join hr' (v := vL (m 114) ct q e) sp0 (by rw [e6]; exact sp1) w.1 w.2.1 dr.1 dr.2 w.2.2.1 w.2.2.2
        rw [show m' 7 spot = (lab q).1 by rw [e7, ex], show m' 8 spot = (lab q).2.1 by rw [e8, ey]] at j
        refine ih _ (setS s' (lab q).1 (lab q).2.1 (drL lab q e) (vL (m 114) ct q e)) (fun c hc => ?_) ?_ (di'.join ok q0 q1 e0 e1 hc)
        · rw [sr_ne _ _ (show c ≠ 6 + 3 by omega), fr c hc]
        · rw [sr_ne _ _ (show 6 ≠ 6 + 3 by omega), sr_ne _ _ (show 7 ≠ 6 + 3 by omega), sr_ne _ _ (show 8 ≠ 6 + 3 by omega), show (sr m' (6 + 3) (ur (ur (m' (6 + 3)) (4 * spot + drL lab q e) (vL (m 114) ct q e)) (4 * N + (drL lab q e + 2) % 4) (vL (m 114) ct q e))) 9 = ur (ur (m' 9) (4 * spot + drL lab q e) (vL (m 114) ct q e)) (4 * N + (drL lab q e + 2) % 4) (vL (m 114) ct q e) from sr_eq _ _ _]
          exact j
theorem c_drawOn {K : tM → Prop} (n0 : 0 ≤ n) (n1 : n ≤ 60) (ok : OKL n (m 113) (m 114) ct (labC m)) (hE : E1 (m 5) ct) (hn : m 115 4 = n) (h : ∀ m' s, (∀ c, c < 6 ∨ 9 < c → m' c = m c) → WF s → DRW n (m 114) ct (labC m) s → RepC (m' 6 3) (m' 7) (m' 8) (m' 9) s → K m') : Clv mX5_drawOn [rV 115, rV 6, rV 109, rV 4] m K := by
  refine wX5_drawOn_0 (wX8_drop_0 sh_6 ⟨rfl, ?_⟩)
  have key := up_ind (n := n) (fun i => ∀ m' s, (∀ c, c < 6 ∨ 9 < c → m' c = m c) → WF s → RepC (m' 6 3) (m' 7) (m' 8) (m' 9) s → m' 6 3 = i → (∀ x y, s.1 x y ↔ ∃ q, 0 ≤ q ∧ q < i ∧ (labC m q).1 = x ∧ (labC m q).2.1 = y) → (∀ x y, s.2.1 x y = 0 ∧ s.2.2 x y = 0) → Tj mX5_drawOn 7 [some (rV 115), some (rV 6), some (rV 109), some (rV 4), some (iV i)] [] m' (fun r m' => r = none ∧ K m')) ?_ ?_ (i := 0) (by omega) n0
  · refine key _ (fun _ _ => False, fun _ _ => 0, fun _ _ => 0) (fun c hc => up_ne _ _ _ (by omega)) ⟨fun _ _ q => q.elim, fun _ _ => ⟨Int.le_refl 0, (by decide : (0 : Int) ≤ 3)⟩, fun _ _ => ⟨Int.le_refl 0, (by decide : (0 : Int) ≤ 3)⟩, fun _ _ q => absurd rfl q, fun _ _ q => absurd rfl q⟩ ?_ (up_at _ _ _ _) (fun x y => ⟨fun q => q.elim, fun ⟨q, q0, q1, _⟩ => by omega⟩) (fun _ _ => ⟨rfl, rfl⟩)
    rw [up_at]
    exact ⟨⟨by omega, by omega, fun i j i0 ij j1 => by omega, fun x y => ⟨fun q => q.elim, fun ⟨k, k0, k1, _⟩ => by omega⟩⟩, fun k d k0 k1 => by omega⟩
  · intro m' s fr hw hr e63 hS hZ
    have e115 : m' 115 4 = n := by rw [fr 115 (by omega), hn]
    refine wX5_drawOn_7 ⟨fun g => absurd g (by rw [e115]; omega), fun _ => ?_⟩
    have di0 : DI n (m 114) ct (labC m) s (4 * 0) := ⟨hw, hS, fun q e _ _ _ _ => Or.inl (by
      unfold s4
      split
      · exact (hZ _ _).1
      · split
        · exact (hZ _ _).2
        · split
          · exact (hZ _ _).1
          · exact (hZ _ _).2), fun q e q0 q1 e0 e1 hx => by omega⟩
    have key2 := up_ind (n := n) (fun q => ∀ m'' s'', (∀ c, c ≠ 9 → m'' c = m' c) → RepC (m'' 6 3) (m'' 7) (m'' 8) (m'' 9) s'' → DI n (m 114) ct (labC m) s'' (4 * q) → Tj mX5_drawOn 44 [some (rV 115), some (rV 6), some (rV 109), some (rV 4), some (iV q)] [] m'' (fun r m' => r = none ∧ K m')) ?_ ?_ (i := 0) (by omega) n0
    · exact key2 m' s (fun _ _ => rfl) hr di0
    · intro m'' s'' fr2 hr2 di2
      refine wX5_drawOn_44 ⟨fun g => absurd g (by rw [fr2 115 (by omega), e115]; omega), fun _ => ⟨rfl, h m'' s'' (fun c hc => by rw [fr2 c (by omega), fr c hc]) di2.1 ⟨di2.2.1, fun q e q0 q1 e0 e1 => di2.2.2.2 q e q0 q1 e0 e1 (by omega)⟩ hr2⟩⟩
    · intro q q0 q1 ih m'' s'' fr2 hr2 di2
      have e63'' : m'' 6 3 = n := by rw [fr2 6 (by omega), e63]
      have g116 : m'' 116 = m 116 := by rw [fr2 116 (by omega), fr 116 (by omega)]
      have g117 : m'' 117 = m 117 := by rw [fr2 117 (by omega), fr 117 (by omega)]
      have lab'' : labC m = labC m'' := by
        funext k
        unfold labC
        rw [g116, g117, fr2 118 (by omega), fr 118 (by omega)]
      refine wX5_drawOn_44 ⟨fun _ => ⟨⟨q0, by omega⟩, ?_⟩, fun g => absurd (by rw [fr2 115 (by omega), e115]; exact q1) g⟩
      rw [g116, g117]
      refine c_find shS_6 (by rw [e63'']; exact n0) (by rw [e63'']; exact n1) hr2.1.2.2.1 ?_
      have inS : s''.1 (m 116 q) (m 117 q) := (di2.2.1 _ _).2 ⟨q, q0, q1, rfl, rfl⟩
      have f := (hr2.1.fnd_iff _ _).1 inS
      rcases fnd_cases (m'' 6 3) (m'' 7) (m'' 8) (m 116 q) (m 117 q) with w | w
      · exact absurd w.1 f
      · refine draw_sides (ct := ct) (lab := labC m) n1 (by rw [fr2 113 (by omega), fr2 114 (by omega), fr 113 (by omega), fr 114 (by omega)]; exact ok) (by rw [fr2 5 (by omega), fr 5 (by omega)]; exact hE) (by rw [fr2 115 (by omega), e115]) lab'' q0 q1 w.1 (by rw [← e63'']; exact w.2.1) w.2.2.1 w.2.2.2 hr2 e63'' (by rw [fr2 114 (by omega), fr 114 (by omega)]; exact di2) (fun m3 s3 f3 hr3 di3 => ih m3 s3 (fun c hc => by rw [f3 c hc, fr2 c hc]) hr3 (by rw [fr2 114 (by omega), fr 114 (by omega)] at di3; exact di3))
  · intro i i0 i1 ih m' s fr hw hr e63 hS hZ
    have e115 : m' 115 4 = n := by rw [fr 115 (by omega), hn]
    have o := ok.2.2.2.1 i i0 i1
    have hno : ¬ s.1 (m 116 i) (m 117 i) := fun z => by
      obtain ⟨q, a, b, c, d⟩ := (hS _ _).1 z
      have := ok.inj a (by omega) i0 i1 c d
      omega
    refine wX5_drawOn_7 ⟨fun _ => ⟨⟨i0, by omega⟩, ?_⟩, fun g => absurd (by rw [e115]; exact i1) g⟩
    rw [show m' 116 = m 116 from fr 116 (by omega), show m' 117 = m 117 from fr 117 (by omega)]
    refine c_add shS_6 (by rw [e63]; exact i0) (by rw [e63]; omega) (fun m2 j ad => ⟨by constructor <;> omega, ?_⟩)
    have hr2 := RepC.add hr hw hno (by rw [e63]; omega) ad
    refine ih m2 (addS s (m 116 i) (m 117 i)) (fun c hc => by rw [ad.2.1 c (by omega), fr c hc]) (hw.add o.2.1 o.2.2) hr2 (by rw [ad.2.2.1, e63]) (fun x y => ?_) hZ
    show (s.1 x y ∨ (x = m 116 i ∧ y = m 117 i)) ↔ _
    rw [hS]
    constructor
    · rintro (⟨q, a, b, c, d⟩ | ⟨a, b⟩)
      · exact ⟨q, a, by omega, c, d⟩
      · exact ⟨i, i0, by omega, a.symm, b.symm⟩
    · rintro ⟨q, a, b, c, d⟩
      by_cases w : q = i
      · rw [w] at c d
        exact Or.inr ⟨c.symm, d.symm⟩
      · exact Or.inl ⟨q, a, by omega, c, d⟩
end C10p
