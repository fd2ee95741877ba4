/-! the class lays a skin flat -/
def labC (m : tM) (k : Int) : L3 := (m 116 k, m 117 k, m 118 k)
theorem l3_ext {a b c a' b' c' : Int} (h1 : a = a') (h2 : b = b') (h3 : c = c') : ((a, b, c) : L3) = (a', b', c') := by rw [h1, h2, h3]
theorem ucL_e {ct : Int → Int} {k s : Int} : ucL ct k s ≠ 0 ↔ ct (4 * k + s) = 0 := by
  unfold ucL
  by_cases q : ct (4 * k + s) = 0
  · rw [if_pos q]; exact ⟨fun _ => q, fun _ => by omega⟩
  · rw [if_neg q]; exact ⟨fun z => absurd rfl z, fun z => absurd z q⟩
section C10j
variable {m : tM} {n : Int} {L B ct : Int → Int}
theorem c_turnBeside {k s : Int} {K : Int → tM → Prop} (k0 : 0 ≤ k) (k1 : k < 60) (s0 : 0 ≤ s) (s1 : s < 4) (ht : 0 ≤ m 118 k ∧ m 118 k < 4) (hl : 0 ≤ m 113 (4 * k + s) ∧ m 113 (4 * k + s) < 960) (h : K ((s + m 118 k + 2 - m 113 (4 * k + s) % 4) % 4) m) : Cli mX5_turnBeside [rV 115, rV 109, iV k, iV s] m K := by
  refine wX5_turnBeside_0 ⟨⟨k0, k1, by constructor <;> omega, by constructor <;> omega⟩, c_sideAcross (v := m 113 (4 * k + s) / 4) (t := m 113 (4 * k + s) % 4) k0 (by omega) s0 s1 (by omega) (by omega) (by omega) (by omega) (by omega) ⟨by constructor <;> omega, _, rfl, ?_⟩⟩
  rw [bAnd_3 (by constructor <;> omega)]
  exact h
theorem c_layOne {x X Y t : Int} {K : tM → Prop} (x0 : 0 ≤ x) (x1 : x < 60) (r : 0 ≤ m 115 5 ∧ m 115 5 < 60) (h : ∀ m', (∀ c, c < 115 ∨ 119 < c → m' c = m c) → m' 115 4 = m 115 4 → m' 115 5 = m 115 5 + 1 → m' 119 = ur (m 119) (m 115 5) x → labC m' x = (X, Y, t) → (∀ y, y ≠ x → labC m' y = labC m y) → K m') : Clv mX5_layOne [rV 115, iV x, iV X, iV Y, iV t] m K := by
  refine wX5_layOne_0 ⟨⟨x0, x1, r.1, r.2, by constructor <;> omega⟩, rfl, h _ (fun c hc => ?_) ?_ ?_ ?_ ?_ (fun y hy => ?_)⟩
  · rw [up_ne _ _ _ (by omega), up_ne _ _ _ (by omega), up_ne _ _ _ (by omega), up_ne _ _ _ (by omega), up_ne _ _ _ (by omega)]
  · rw [up_at_ne _ _ _ (by omega), up_ne _ _ _ (by omega), up_ne _ _ _ (by omega), up_ne _ _ _ (by omega), up_ne _ _ _ (by omega)]
  · rw [up_at]
  · rw [up_ne _ _ _ (by omega)]
    show sr _ 119 (ur ((up (up (up m 116 x X) 117 x Y) 118 x t) 119) (m 115 5) x) 119 = _
    rw [sr_eq, up_ne _ _ _ (by omega), up_ne _ _ _ (by omega), up_ne _ _ _ (by omega)]
  · refine l3_ext ?_ ?_ ?_
    · rw [up_ne _ _ _ (by omega), up_ne _ _ _ (by omega), up_ne _ _ _ (by omega), up_ne _ _ _ (by omega), up_at]
    · rw [up_ne _ _ _ (by omega), up_ne _ _ _ (by omega), up_ne _ _ _ (by omega), up_at]
    · rw [up_ne _ _ _ (by omega), up_ne _ _ _ (by omega), up_at]
  · refine l3_ext ?_ ?_ ?_
    · rw [up_ne _ _ _ (by omega), up_ne _ _ _ (by omega), up_ne _ _ _ (by omega), up_ne _ _ _ (by omega), up_at_ne _ _ _ hy]
    · rw [up_ne _ _ _ (by omega), up_ne _ _ _ (by omega), up_ne _ _ _ (by omega), up_at_ne _ _ _ hy, up_ne _ _ _ (by omega)]
    · rw [up_ne _ _ _ (by omega), up_ne _ _ _ (by omega), up_at_ne _ _ _ hy, up_ne _ _ _ (by omega), up_ne _ _ _ (by omega)]
theorem c_layAllC {K : tM → Prop} (np : 0 < n) (n1 : n ≤ 60) (hg : SKN n (m 113) B) (hE : E1 (m 5) ct) (hn : m 115 4 = n) (h : ∀ m', (∀ c, c < 115 ∨ 119 < c → m' c = m c) → m' 115 4 = n → LI n (m 113) ct (labC m') (m' 119) (m' 115 5) (m' 115 5) 0 → K m') : Clv mX5_layAll [rV 115, rV 109, rV 4] m K := by
  refine wX5_layAll_0 (c_fill sh_118 (by omega) ?_)
  generalize hm1 : up (sr m 118 (fil (fun _ => -1) (m 118) 0 (60 : Nat))) 115 5 0 = m1
  have f1 : ∀ c, c ≠ 115 → c ≠ 118 → m1 c = m c := fun c c1 c2 => by rw [← hm1, up_ne _ _ _ c1, sr_ne _ _ c2]
  have e4 : m1 115 4 = n := by rw [← hm1, up_at_ne _ _ _ (by omega), sr_ne _ _ (by omega), hn]
  have e5 : m1 115 5 = 0 := by rw [← hm1, up_at]
  have t1 : ∀ x, 0 ≤ x → x < 60 → m1 118 x = -1 := fun x x0 x1 => by rw [← hm1, up_ne _ _ _ (by omega), sr_eq, fil_in _ _ (by omega)]
  refine c_layOne (by omega) (by omega) (by rw [e5]; omega) (fun m2 f2 g4 g5 gO gl gx => ?_)
  have fr2 : ∀ c, c < 115 ∨ 119 < c → m2 c = m c := fun c hc => by rw [f2 c hc, f1 c (by omega) (by omega)]
  have R1 : m2 115 5 = 1 := by rw [g5, e5]; rfl
  have O0 : m2 119 0 = 0 := by rw [gO, e5, ur_eq]
  have start : LI n (m 113) ct (labC m2) (m2 119) (m2 115 5) 0 0 := by
    rw [R1]
    refine ⟨by omega, O0, fun j j0 j1 => ?_, fun j l j0 j1 l0 l1 _ => by omega, fun x x0 x1 => ?_, fun j j0 j1 => ?_, gl, fun j e j0 j1 hj => by omega⟩
    · rw [show j = 0 by omega, O0]; omega
    · by_cases q : x = 0
      · rw [q, gl]
        constructor
        · intro w; exact absurd w (by decide)
        · intro w; exact absurd ⟨0, by omega, by omega, O0⟩ w
      · rw [gx x q]
        refine ⟨fun _ => ?_, fun _ => t1 x x0 (by omega)⟩
        rintro ⟨j, j0, j1, j2⟩
        rw [show j = 0 by omega, O0] at j2; omega
    · rw [show j = 0 by omega, O0, gl]
      exact ⟨DER.rf, ⟨by decide, by decide⟩, ⟨by decide, by decide⟩⟩
  have key := up_ind (n := n) (fun i => ∀ m', (∀ c, c < 115 ∨ 119 < c → m' c = m c) → m' 115 4 = n → LI n (m 113) ct (labC m') (m' 119) (m' 115 5) i 0 → Tj mX5_layAll 23 [some (rV 115), some (rV 109), some (rV 4), some (iV i)] [] m' (fun r m' => r = none ∧ K m')) ?_ ?_ (i := 0) (by omega) (by omega)
  · exact key m2 fr2 (by rw [g4, e4]) start
  · intro m' fr e li
    refine wX5_layAll_23 ⟨fun g => absurd g (by rw [e]; omega), fun _ => ⟨rfl, h m' fr e ?_⟩⟩
    obtain ⟨a, b, c, d, f, g, z, k⟩ := li
    exact ⟨a, b, c, d, f, g, z, fun j e' j0 j1 hj e0 e1 hc => k j e' j0 j1 (by omega) e0 e1 hc⟩
  · intro i i0 i1 ih m' fr e li
    refine wX5_layAll_23 ⟨fun _ => ⟨fun gR => ⟨⟨i0, by omega⟩, ?_⟩, fun gR => ⟨rfl, h m' fr e ?_⟩⟩, fun g => absurd (by rw [e]; exact i1) g⟩
    · have key2 := up_ind (n := 4) (fun d => ∀ m'', (∀ c, c < 115 ∨ 119 < c → m'' c = m c) → m'' 115 4 = n → i < m'' 115 5 → m'' 119 i = m' 119 i → LI n (m 113) ct (labC m'') (m'' 119) (m'' 115 5) i d → Tj mX5_layAll 50 [some (rV 115), some (rV 109), some (rV 4), some (iV i), some (iV (m' 119 i)), some (iV d)] [] m'' (fun r m' => r = none ∧ K m')) ?_ ?_ (i := 0) (by omega) (by omega)
      · exact key2 m' fr e gR rfl li
      · intro m'' fr e gR _ li
        refine wX5_layAll_50 ⟨fun g => by omega, fun _ => ⟨by constructor <;> omega, ih m'' fr e ?_⟩⟩
        obtain ⟨a, b, c, d, f, g, z, k⟩ := li
        exact ⟨a, b, c, d, f, g, z, fun j e' j0 j1 hj e0 e1 hc => k j e' j0 j1 (by omega) e0 e1 hc⟩
      · intro d d0 d1 ih2 m'' fr e gR eo li
        obtain ⟨a, b, c, dd, g, f, z, k⟩ := id li
        have oi := c i i0 gR
        rw [← eo]
        have sk := hg (m'' 119 i) d oi.1 oi.2 d0 d1
        have e113 : m'' 113 = m 113 := fr 113 (by omega)
        have ee := hE (m'' 119 i) oi.1 (by omega)
        have ec : m'' 5 (m'' 119 i) / 2 ^ d.toNat % 2 = ct (4 * m'' 119 i + d) := by rw [fr 5 (by omega)]; exact (ee.2.2 d d0 d1).symm
        have nxt : LI n (m 113) ct (labC m'') (m'' 119) (m'' 115 5) i (d + 1) → Tj mX5_layAll 50 [some (rV 115), some (rV 109), some (rV 4), some (iV i), some (iV (m' 119 i)), some (iV (d + 1))] [] m'' (fun r m' => r = none ∧ K m') := fun w => ih2 m'' fr e gR eo w
        rw [← eo] at nxt
        refine wX5_layAll_50 ⟨fun _ => c_squareAcross (v := m 113 (4 * m'' 119 i + d) / 4) (t := m 113 (4 * m'' 119 i + d) % 4) oi.1 (by omega) d0 d1 (by rw [e113]; omega) sk.1.1 (by omega) (by omega) (by omega) (c_isCut oi.1 (by omega) d0 d1 (by rw [fr 5 (by omega)]; exact ⟨ee.1, ee.2.1⟩) ?_), fun q => absurd d1 q⟩
        rw [ec]
        refine ⟨fun hc => ⟨⟨sk.1.1, by omega⟩, fun hs => ?_, fun hs => ⟨by constructor <;> omega, nxt ⟨a, b, c, dd, g, f, z, fun j e' j0 j1 hj e0 e1 hcc => ?_⟩⟩⟩, fun hc => ⟨by constructor <;> omega, nxt ⟨a, b, c, dd, g, f, z, fun j e' j0 j1 hj e0 e1 hcc => ?_⟩⟩⟩
        · -- a new one
          have di := f i i0 gR
          have tt := di.1.t
          have tt' : 0 ≤ m'' 118 (m'' 119 i) ∧ m'' 118 (m'' 119 i) < 4 := tt
          have b1 : -i ≤ m'' 116 (m'' 119 i) ∧ m'' 116 (m'' 119 i) ≤ i := di.2.1
          have b2 : -i ≤ m'' 117 (m'' 119 i) ∧ m'' 117 (m'' 119 i) ≤ i := di.2.2
          have xr := dX_r ((d + m'' 118 (m'' 119 i)) % 4)
          have yr := dY_r ((d + m'' 118 (m'' 119 i)) % 4)
          obtain ⟨le0, -⟩ := li.add (lab' := fun x => if x = aqL (m 113) (m'' 119 i) d then crL (m 113) (m'' 119 i) d (labC m'' (m'' 119 i)) else labC m'' x) hg i0 gR d0 d1 hc hs (if_pos rfl) (fun x hx => if_neg hx)
          refine ⟨⟨oi.1, by omega, by constructor <;> omega⟩, ?_⟩
          rw [bAnd_3 (by constructor <;> omega)]
          refine c_stepX ?_
          rw [show (d + m'' 118 (m'' 119 i)) % 4 % 4 = (d + m'' 118 (m'' 119 i)) % 4 by omega]
          refine ⟨by constructor <;> omega, c_stepY ?_⟩
          rw [show (d + m'' 118 (m'' 119 i)) % 4 % 4 = (d + m'' 118 (m'' 119 i)) % 4 by omega]
          refine ⟨by constructor <;> omega, c_turnBeside oi.1 (by omega) d0 d1 tt' (by rw [e113]; omega) (c_layOne sk.1.1 (by omega) (by omega) (fun m3 f3 q4 q5 qO ql qx => ⟨by constructor <;> omega, ?_⟩))⟩
          have lab : labC m3 (aqL (m 113) (m'' 119 i) d) = crL (m 113) (m'' 119 i) d (labC m'' (m'' 119 i)) := by
            rw [e113] at ql
            exact ql
          obtain ⟨le, li'⟩ := li.add hg i0 gR d0 d1 hc hs lab qx
          have o3 : m3 119 = ur (m'' 119) (m'' 115 5) (aqL (m 113) (m'' 119 i) d) := qO
          have oi3 : m3 119 i = m'' 119 i := by rw [o3, ur_ne _ _ (by omega)]
          have := ih2 m3 (fun x hx => by rw [f3 x hx, fr x hx]) (by rw [q4, e]) (by rw [q5]; omega) (by rw [oi3, eo]) (by rw [q5, o3]; exact li')
          rw [← eo] at this
          exact this
        · by_cases w : j = i ∧ e' = d
          · rw [w.1, w.2]
            refine Classical.byContradiction (fun no => hs ((g _ sk.1.1 sk.1.2).2 no))
          · exact k j e' j0 j1 (by omega) e0 e1 hcc
        · by_cases w : j = i ∧ e' = d
          · rw [w.1, w.2] at hcc; exact absurd hcc hc
          · exact k j e' j0 j1 (by omega) e0 e1 hcc
    · obtain ⟨a, b, c, d, f, g, z, k⟩ := li
      exact ⟨a, b, c, d, f, g, z, fun j e' j0 j1 hj e0 e1 hc => k j e' j0 j1 (by omega) e0 e1 hc⟩
end C10j
