/-! the ways of a sheet: the class traces them -/
theorem s4_nb {s : SS} (hw : WF s) {x y d : Int} (d0 : 0 ≤ d) (d1 : d < 4) (h : s4 s x y d ≠ 0) : s.1 (x + dX d) (y + dY d) := by
  rcases d4 d0 d1 with rfl | rfl | rfl | rfl
  · have := (hw.2.2.2.1 x y h).2
    show s.1 (x + 1) (y + 0)
    rw [Int.add_zero]; exact this
  · have := (hw.2.2.2.2 x y h).2
    show s.1 (x + 0) (y + 1)
    rw [Int.add_zero]; exact this
  · have := (hw.2.2.2.1 (x - 1) y h).1
    show s.1 (x + -1) (y + 0)
    rw [Int.add_zero]; exact this
  · have := (hw.2.2.2.2 x (y - 1) h).1
    show s.1 (x + 0) (y + -1)
    rw [Int.add_zero]; exact this
theorem s4_r3 {s : SS} (hw : WF s) (x y d : Int) : 0 ≤ s4 s x y d ∧ s4 s x y d ≤ 3 := by
  unfold s4
  split
  · exact hw.2.1 _ _
  · split
    · exact hw.2.2.1 _ _
    · split
      · exact hw.2.1 _ _
      · exact hw.2.2.1 _ _
noncomputable def cG (s : SS) (X Y : Int → Int) : Int → Int → Int := fun k d => s4 s (X k) (Y k) d
noncomputable def nG (n : Int) (X Y : Int → Int) : Int → Int → Int := fun k d => nbr n X Y k d
theorem nG_in {s : SS} {n : Int} {X Y : Int → Int} (hr : RepI n X Y s.1) (hw : WF s) {k d : Int} (d0 : 0 ≤ d) (d1 : d < 4) (h : cG s X Y k d ≠ 0) : (0 ≤ nG n X Y k d ∧ nG n X Y k d < n) ∧ X (nG n X Y k d) = X k + dX d ∧ Y (nG n X Y k d) = Y k + dY d := by
  have g := s4_nb hw d0 d1 h
  have f := (hr.fnd_iff _ _).1 g
  rcases fnd_cases n X Y (X k + dX d) (Y k + dY d) with q | q
  · exact absurd q.1 f
  · exact ⟨⟨q.1, q.2.1⟩, q.2.2.1, q.2.2.2⟩
theorem dX_op {d : Int} (d0 : 0 ≤ d) (d1 : d < 4) : dX ((d + 2) % 4) = - dX d ∧ dY ((d + 2) % 4) = - dY d := by
  rcases d4 d0 d1 with rfl | rfl | rfl | rfl <;> decide
theorem GRs {s : SS} {n : Int} {X Y : Int → Int} (hr : RepI n X Y s.1) (hw : WF s) : GR n (cG s X Y) (nG n X Y) := by
  refine ⟨⟨hr.1, hr.2.1⟩, fun k d k0 k1 d0 d1 => ⟨s4_r3 hw _ _ _, fun h => ?_⟩⟩
  obtain ⟨a, b, c⟩ := nG_in hr hw d0 d1 h
  refine ⟨a, ?_, ?_⟩
  · show s4 s (X (nG n X Y k d)) (Y (nG n X Y k d)) ((d + 2) % 4) = s4 s (X k) (Y k) d
    rw [b, c]
    exact (s4_sym s (X k) (Y k) d0 d1).symm
  · show fnd n X Y (X (nG n X Y k d) + dX ((d + 2) % 4)) (Y (nG n X Y k d) + dY ((d + 2) % 4)) = k
    have o := dX_op d0 d1
    exact fnd_some hr.2.2.1 k0 k1 (by rw [b, o.1]; omega) (by rw [c, o.2]; omega)
/-- the row of those that are reached -/
def BI (n : Int) (c4 nb : Int → Int → Int) (O St : Int → Int) (R i d : Int) : Prop := (1 ≤ R ∧ R ≤ n) ∧ O 0 = 0 ∧ (∀ j, 0 ≤ j → j < R → 0 ≤ O j ∧ O j < n) ∧ (∀ j l, 0 ≤ j → j < R → 0 ≤ l → l < R → O j = O l → j = l) ∧ (∀ j, 1 ≤ j → j < R → 0 < O j ∧ ∃ l e, 0 ≤ l ∧ l < j ∧ (0 ≤ e ∧ e < 4) ∧ St (O j) = 4 * O l + e ∧ EG n c4 nb (O l) e (O j)) ∧ (∀ x, 0 < x → x < n → (St x = -1 ↔ ¬ ∃ j, 0 ≤ j ∧ j < R ∧ O j = x)) ∧ (∀ j e, 0 ≤ j → j < R → (j < i ∨ (j = i ∧ e < d)) → 0 ≤ e → e < 4 → c4 (O j) e ≠ 0 → ∃ l, 0 ≤ l ∧ l < R ∧ O l = nb (O j) e)
theorem BI.add {n : Int} {c4 nb : Int → Int → Int} {O St : Int → Int} {R i d : Int} (hg : GR n c4 nb) (h : BI n c4 nb O St R i d) (i0 : 0 ≤ i) (i1 : i < R) (d0 : 0 ≤ d) (d1 : d < 4) (hc : c4 (O i) d ≠ 0) (hx : 0 < nb (O i) d) (hs : St (nb (O i) d) = -1) : R + 1 ≤ n ∧ BI n c4 nb (ur O R (nb (O i) d)) (ur St (nb (O i) d) (4 * O i + d)) (R + 1) i (d + 1) := by
  obtain ⟨a, b, c, e, f, g, k⟩ := h
  have oi := c i i0 i1
  have nx := ((hg.2 (O i) d oi.1 oi.2 d0 d1).2 hc).1
  have new := (g (nb (O i) d) hx nx.2).1 hs
  generalize hX : nb (O i) d = x at *
  have at1 : ∀ j, j < R → ur O R x j = O j := fun j hj => ur_ne _ _ (by omega)
  have rng : ∀ j, 0 ≤ j → j < R + 1 → 0 ≤ ur O R x j ∧ ur O R x j < n := fun j j0 j1 => by
    by_cases q : j = R
    · rw [q, ur_eq]; exact ⟨by omega, nx.2⟩
    · rw [at1 j (by omega)]; exact c j j0 (by omega)
  have inj : ∀ j l, 0 ≤ j → j < R + 1 → 0 ≤ l → l < R + 1 → ur O R x j = ur O R x l → j = l := fun j l j0 j1 l0 l1 q => by
    by_cases q1 : j = R
    · by_cases q2 : l = R
      · omega
      · rw [q1, ur_eq, at1 l (by omega)] at q; exact absurd ⟨l, l0, by omega, q.symm⟩ new
    · by_cases q2 : l = R
      · rw [q2, ur_eq, at1 j (by omega)] at q; exact absurd ⟨j, j0, by omega, q⟩ new
      · rw [at1 j (by omega), at1 l (by omega)] at q; exact e j l j0 (by omega) l0 (by omega) q
  have le : R + 1 ≤ n := by
    rcases row_le (by omega) rng inj with q | q
    · exact q
    · omega
  refine ⟨le, ⟨by omega, le⟩, by rw [at1 0 (by omega)]; exact b, rng, inj, fun j j0 j1 => ?_, fun y y0 y1 => ?_, fun j e' j0 j1 hj e0 e1 hcc => ?_⟩
  · by_cases q : j = R
    · subst q
      rw [ur_eq]
      refine ⟨hx, i, d, i0, i1, ⟨d0, d1⟩, ?_, ?_⟩
      · rw [ur_eq, at1 i i1]
      · rw [at1 i i1]; exact ⟨oi.1, oi.2, d0, d1, hc, hX⟩
    · rw [at1 j (by omega)]
      obtain ⟨p1, l, e', l0, l1, e0, q1, q2⟩ := f j j0 (by omega)
      refine ⟨p1, l, e', l0, l1, e0, ?_, ?_⟩
      · rw [at1 l (by omega), ur_ne _ _ (fun z => new ⟨j, by omega, by omega, z⟩)]; exact q1
      · rw [at1 l (by omega)]; exact q2
  · by_cases q : y = x
    · subst q
      rw [ur_eq]
      constructor
      · intro z; omega
      · intro z; exact absurd ⟨R, by omega, by omega, ur_eq _ _ _⟩ z
    · rw [ur_ne _ _ q, g y y0 y1]
      constructor
      · rintro z ⟨j, j0, j1, j2⟩
        by_cases w : j = R
        · rw [w, ur_eq] at j2; exact q j2.symm
        · rw [at1 j (by omega)] at j2; exact z ⟨j, j0, by omega, j2⟩
      · rintro z ⟨j, j0, j1, j2⟩
        exact z ⟨j, j0, by omega, by rw [at1 j j1]; exact j2⟩
  · have jR : j < R := by omega
    rw [at1 j jR] at hcc ⊢
    by_cases w : j = i ∧ e' = d
    · rw [w.1, w.2, hX]
      exact ⟨R, by omega, by omega, ur_eq _ _ _⟩
    · obtain ⟨l, l0, l1, l2⟩ := k j e' j0 jR (by omega) e0 e1 hcc
      exact ⟨l, l0, by omega, by rw [at1 l l1]; exact l2⟩
def TRC (n : Int) (c4 nb : Int → Int → Int) (N O St : Int → Int) (R : Int) : Prop := (∀ k d, 0 ≤ k → k < n → 0 ≤ d → d < 4 → N (4 * k + d) = if c4 k d = 0 then -1 else nb k d) ∧ (n = 0 → R = 0) ∧ (0 < n → BI n c4 nb O St R R 0)
section C10b
variable {m : tM}
theorem c_reachAll {n : Int} {c4 nb : Int → Int → Int} {K : tM → Prop} (hg : GR n c4 nb) (hn : m 120 3 = n) (hN : ∀ k d, 0 ≤ k → k < n → 0 ≤ d → d < 4 → m 121 (4 * k + d) = if c4 k d = 0 then -1 else nb k d) (h : ∀ m', (∀ c, c ≠ 120 → c ≠ 122 → c ≠ 123 → m' c = m c) → m' 120 3 = n → TRC n c4 nb (m' 121) (m' 122) (m' 123) (m' 120 4) → K m') : Clv mX6_reachAll [rV 120] m K := by
  have n0 := hg.1.1
  have n1 := hg.1.2
  refine wX6_reachAll_0 (c_fill sh_123 (by omega) ?_)
  generalize hm1 : sr m 123 (fil (fun _ => -1) (m 123) 0 (60 : Nat)) = m1
  have f1 : ∀ c, c ≠ 123 → m1 c = m c := fun c hc => by rw [← hm1, sr_ne _ _ hc]
  have s1 : ∀ x, 0 ≤ x → x < 60 → m1 123 x = -1 := fun x x0 x1 => by rw [← hm1, sr_eq, fil_in _ _ (by omega)]
  rw [show m1 120 3 = n by rw [f1 120 (by omega), hn]]
  generalize hm2 : up (up m1 120 4 (if 1 < n then 1 else n)) 122 0 0 = m2
  have f2 : ∀ c, c ≠ 120 → c ≠ 122 → c ≠ 123 → m2 c = m c := fun c c1 c2 c3 => by rw [← hm2, up_ne _ _ _ c2, up_ne _ _ _ c1, f1 c c3]
  have e3 : m2 120 3 = n := by rw [← hm2, up_ne _ _ _ (by omega), up_at_ne _ _ _ (by omega), f1 120 (by omega), hn]
  have e4 : m2 120 4 = if 1 < n then 1 else n := by rw [← hm2, up_ne _ _ _ (by omega), up_at]
  have e122 : m2 122 0 = 0 := by rw [← hm2, up_at]
  have e123 : m2 123 = m1 123 := by rw [← hm2, up_ne _ _ _ (by omega), up_ne _ _ _ (by omega)]
  by_cases z : n = 0
  · refine wX6_reachAll_29 ⟨fun g => absurd g (by rw [e3]; omega), fun _ => ⟨rfl, h m2 f2 e3 ⟨fun k d k0 k1 => by omega, fun _ => by rw [e4, if_neg (by omega)]; exact z, fun g => by omega⟩⟩⟩
  have R1 : m2 120 4 = 1 := by rw [e4]; split <;> omega
  have start : BI n c4 nb (m2 122) (m2 123) (m2 120 4) 0 0 := by
    rw [R1]
    refine ⟨by omega, e122, fun j j0 j1 => ?_, fun j l j0 j1 l0 l1 _ => by omega, fun j j0 j1 => by omega, fun x x0 x1 => ?_, fun j e j0 j1 hj => by omega⟩
    · rw [show j = 0 by omega, e122]; omega
    · rw [e123, s1 x (by omega) (by omega)]
      refine ⟨fun _ => ?_, fun _ => rfl⟩
      rintro ⟨j, j0, j1, j2⟩
      rw [show j = 0 by omega, e122] at j2; omega
  have key := up_ind (n := n) (fun i => ∀ m', (∀ c, c ≠ 120 → c ≠ 122 → c ≠ 123 → m' c = m c) → m' 120 3 = n → BI n c4 nb (m' 122) (m' 123) (m' 120 4) i 0 → Tj mX6_reachAll 29 [some (rV 120), some (iV i)] [] m' (fun r m' => r = none ∧ K m')) ?_ ?_ (i := 0) (by omega) n0
  · exact key m2 f2 e3 start
  · intro m' fr e bi
    refine wX6_reachAll_29 ⟨fun g => absurd g (by rw [e]; omega), fun _ => ⟨rfl, h m' fr e ⟨by rw [fr 121 (by omega) (by omega) (by omega)]; exact hN, fun q => absurd q z, fun _ => ?_⟩⟩⟩
    obtain ⟨a, b, c, d, f, g, k⟩ := bi
    exact ⟨a, b, c, d, f, g, fun j e' j0 j1 hj e0 e1 hc => k j e' j0 j1 (by omega) e0 e1 hc⟩
  · intro i i0 i1 ih m' fr e bi
    refine wX6_reachAll_29 ⟨fun _ => ⟨fun gR => ?_, fun gR => ⟨rfl, h m' fr e ⟨by rw [fr 121 (by omega) (by omega) (by omega)]; exact hN, fun q => absurd q z, fun _ => ?_⟩⟩⟩, fun g => absurd (by rw [e]; exact i1) g⟩
    · have key2 := up_ind (n := 4) (fun d => ∀ m', (∀ c, c ≠ 120 → c ≠ 122 → c ≠ 123 → m' c = m c) → m' 120 3 = n → i < m' 120 4 → BI n c4 nb (m' 122) (m' 123) (m' 120 4) i d → Tj mX6_reachAll 47 [some (rV 120), some (iV i), some (iV d)] [] m' (fun r m' => r = none ∧ K m')) ?_ ?_ (i := 0) (by omega) (by omega)
      · exact key2 m' fr e gR bi
      · intro m' fr e gR bi
        refine wX6_reachAll_47 ⟨fun g => by omega, fun _ => ⟨by constructor <;> omega, ih m' fr e ?_⟩⟩
        obtain ⟨a, b, c, d, f, g, k⟩ := bi
        exact ⟨a, b, c, d, f, g, fun j e' j0 j1 hj e0 e1 hc => k j e' j0 j1 (by omega) e0 e1 hc⟩
      · intro d d0 d1 ih2 m' fr e gR bi
        obtain ⟨a, b, c, dd, f, g, k⟩ := id bi
        have oi := c i i0 gR
        have e121 : m' 121 (4 * m' 122 i + d) = if c4 (m' 122 i) d = 0 then -1 else nb (m' 122 i) d := by rw [fr 121 (by omega) (by omega) (by omega)]; exact hN _ _ oi.1 oi.2 d0 d1
        refine wX6_reachAll_47 ⟨fun _ => ?_, fun q => absurd d1 q⟩
        refine ⟨⟨i0, by omega, by constructor <;> omega, by constructor <;> omega, by omega, by omega⟩, ?_⟩
        by_cases hc : c4 (m' 122 i) d = 0
        · rw [e121, if_pos hc]
          refine ⟨fun q => by omega, fun _ => ⟨by constructor <;> omega, ih2 m' fr e gR ⟨a, b, c, dd, f, g, fun j e' j0 j1 hj e0 e1 hcc => ?_⟩⟩⟩
          by_cases w : j = i ∧ e' = d
          · rw [w.1, w.2] at hcc; exact absurd hc hcc
          · exact k j e' j0 j1 (by omega) e0 e1 hcc
        · have nx := ((hg.2 _ d oi.1 oi.2 d0 d1).2 hc).1
          rw [e121, if_neg hc]
          have skip : (∃ l, 0 ≤ l ∧ l < m' 120 4 ∧ m' 122 l = nb (m' 122 i) d) → BI n c4 nb (m' 122) (m' 123) (m' 120 4) i (d + 1) := fun hl => ⟨a, b, c, dd, f, g, fun j e' j0 j1 hj e0 e1 hcc => by
            by_cases w : j = i ∧ e' = d
            · rw [w.1, w.2]; exact hl
            · exact k j e' j0 j1 (by omega) e0 e1 hcc⟩
          refine ⟨fun q => ⟨⟨nx.1, by omega⟩, fun q2 => ?_, fun q2 => ⟨by constructor <;> omega, ih2 m' fr e gR (skip ?_)⟩⟩, fun q => ⟨by constructor <;> omega, ih2 m' fr e gR (skip ⟨0, by omega, by omega, by rw [b]; omega⟩)⟩⟩
          · obtain ⟨le, bi'⟩ := bi.add hg i0 gR d0 d1 hc q q2
            refine ⟨⟨by omega, by omega, by constructor <;> omega, by constructor <;> omega⟩, ih2 _ (fun x x1 x2 x3 => by rw [up_ne _ _ _ x1, up_ne _ _ _ x2, up_ne _ _ _ x3, fr x x1 x2 x3]) (by rw [up_at_ne _ _ _ (by omega), up_ne _ _ _ (by omega), up_ne _ _ _ (by omega), e]) (by rw [up_at]; omega) ?_⟩
            have q122 : (up (up (up m' 123 (nb (m' 122 i) d) (4 * m' 122 i + d)) 122 (m' 120 4) (nb (m' 122 i) d)) 120 4 (m' 120 4 + 1)) 122 = ur (m' 122) (m' 120 4) (nb (m' 122 i) d) := by
              rw [up_ne _ _ _ (by omega)]
              show sr _ 122 (ur ((up m' 123 (nb (m' 122 i) d) (4 * m' 122 i + d)) 122) (m' 120 4) (nb (m' 122 i) d)) 122 = _
              rw [sr_eq, up_ne _ _ _ (by omega)]
            have q123 : (up (up (up m' 123 (nb (m' 122 i) d) (4 * m' 122 i + d)) 122 (m' 120 4) (nb (m' 122 i) d)) 120 4 (m' 120 4 + 1)) 123 = ur (m' 123) (nb (m' 122 i) d) (4 * m' 122 i + d) := by
              rw [up_ne _ _ _ (by omega), up_ne _ _ _ (by omega)]
              exact sr_eq _ _ _
            rw [up_at, q122, q123]
            exact bi'
          · refine Classical.byContradiction (fun no => q2 ((g _ q nx.2).2 no))
    · obtain ⟨a, b, c, d, f, g, k⟩ := bi
      exact ⟨a, b, c, d, f, g, fun j e' j0 j1 hj e0 e1 hc => k j e' j0 j1 (by omega) e0 e1 hc⟩
theorem c_trace {s : SS} {K : tM → Prop} (hr : RepC (m 6 3) (m 7) (m 8) (m 9) s) (hw : WF s) (h : ∀ m', (∀ c, c < 120 ∨ 123 < c → m' c = m c) → m' 120 3 = m 6 3 → TRC (m 6 3) (cG s (m 7) (m 8)) (nG (m 6 3) (m 7) (m 8)) (m' 121) (m' 122) (m' 123) (m' 120 4) → K m') : Clv mX6_trace [rV 120, rV 6] m K := by
  have n0 := hr.1.1
  have n1 := hr.1.2.1
  have hg := GRs hr.1 hw
  have rr := hr.1.rch hw
  refine wX6_trace_0 (c_size shS_6 ?_)
  have key := up_ind (n := m 6 3) (fun k => ∀ m', (∀ c, c ≠ 120 → c ≠ 121 → m' c = m c) → m' 120 3 = m 6 3 → (∀ j d, 0 ≤ j → j < k → 0 ≤ d → d < 4 → m' 121 (4 * j + d) = if cG s (m 7) (m 8) j d = 0 then -1 else nG (m 6 3) (m 7) (m 8) j d) → Tj mX6_trace 10 [some (rV 120), some (rV 6), some (iV k)] [] m' (fun r m' => r = none ∧ K m')) ?_ ?_ (i := 0) (by omega) n0
  · exact key _ (fun c c1 _ => up_ne _ _ _ c1) (up_at _ _ _ _) (fun j d j0 j1 => by omega)
  · intro m' fr e hN
    refine wX6_trace_10 ⟨fun g => absurd g (by rw [e]; omega), fun _ => c_reachAll hg e hN (fun m2 f2 e2 tr => ⟨rfl, h m2 (fun c hc => by rw [f2 c (by omega) (by omega) (by omega), fr c (by omega) (by omega)]) e2 tr⟩)⟩
  · intro k k0 k1 ih m' fr e hN
    refine wX6_trace_10 ⟨fun _ => ?_, fun g => absurd (by rw [e]; exact k1) g⟩
    have key2 := up_ind (n := 4) (fun d => ∀ m', (∀ c, c ≠ 120 → c ≠ 121 → m' c = m c) → m' 120 3 = m 6 3 → (∀ j e, 0 ≤ j → (j < k ∨ (j = k ∧ e < d)) → 0 ≤ e → e < 4 → m' 121 (4 * j + e) = if cG s (m 7) (m 8) j e = 0 then -1 else nG (m 6 3) (m 7) (m 8) j e) → Tj mX6_trace 20 [some (rV 120), some (rV 6), some (iV k), some (iV d)] [] m' (fun r m' => r = none ∧ K m')) ?_ ?_ (i := 0) (by omega) (by omega)
    · exact key2 m' fr e (fun j d j0 j1 d0 d1 => hN j d j0 (by omega) d0 d1)
    · intro m' fr e hN
      exact wX6_trace_20 ⟨fun g => by omega, fun _ => ⟨by constructor <;> omega, ih m' fr e (fun j d j0 j1 d0 d1 => hN j d j0 (by omega) d0 d1)⟩⟩
    · intro d d0 d1 ih2 m' fr e hN
      have e6 : m' 6 = m 6 := fr 6 (by omega) (by omega)
      have e7 : m' 7 = m 7 := fr 7 (by omega) (by omega)
      have e8 : m' 8 = m 8 := fr 8 (by omega) (by omega)
      have e9 : m' 9 (4 * k + d) = cG s (m 7) (m 8) k d := by rw [fr 9 (by omega) (by omega)]; exact hr.2 k d k0 k1 d0 d1
      have nxt : ∀ v, v = (if cG s (m 7) (m 8) k d = 0 then -1 else nG (m 6 3) (m 7) (m 8) k d) → Tj mX6_trace 20 [some (rV 120), some (rV 6), some (iV k), some (iV (d + 1))] [] (up m' 121 (4 * k + d) v) (fun r m' => r = none ∧ K m') := fun v hv => ih2 _ (fun c c1 c2 => by rw [up_ne _ _ _ c2, fr c c1 c2]) (by rw [up_ne _ _ _ (by omega), e]) (fun j e' j0 j1 e0 e1 => by
        by_cases q : j = k ∧ e' = d
        · rw [q.1, q.2, up_at, hv]
        · rw [up_at_ne _ _ _ (by omega)]
          exact hN j e' j0 (by omega) e0 e1)
      refine wX6_trace_20 ⟨fun _ => c_creaseAt shS_6 k0 (by omega) d0 d1 (fun v hv => ⟨⟨by constructor <;> omega, by constructor <;> omega⟩, fun g => ⟨⟨by omega, by omega, by constructor <;> omega⟩, nxt _ ?_⟩, fun g => ?_⟩), fun g => absurd d1 g⟩
      · have hv' : v = if m' 9 (4 * k + d) = 0 then 0 else 1 := hv
        rw [e9] at hv'
        by_cases q : cG s (m 7) (m 8) k d = 0
        · rw [if_pos q]
        · rw [if_neg q] at hv'; omega
      · have hv' : v = if m' 9 (4 * k + d) = 0 then 0 else 1 := hv
        rw [e9] at hv'
        have q : ¬ cG s (m 7) (m 8) k d = 0 := fun q => by rw [if_pos q] at hv'; omega
        refine c_beside shS_6 (by rw [e6]; exact n0) (by rw [e6]; exact n1) (by rw [e6]; show srt (m 6 3) (m' 7) (m' 8); rw [e7, e8]; exact hr.1.2.2.1) (by rw [e6]; show rch (m 6 3) (m' 7) (m' 8); rw [e7, e8]; exact rr) k0 (by rw [e6]; exact k1) d0 d1 ⟨⟨by omega, by omega, by constructor <;> omega⟩, nxt _ ?_⟩
        rw [if_neg q, e6]
        show nbr (m 6 3) (m' 7) (m' 8) k d = nbr (m 6 3) (m 7) (m 8) k d
        rw [e7, e8]
end C10b
