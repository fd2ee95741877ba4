/-! form, same, shelve, alike: on both sides -/
/-- the shelves: the class holds sheets, the reference their forms -/
def SHV (m : tM) : Prop := ∀ k : Nat, k < 6 → ∃ s, WF s ∧ RepC (m (85 + 4 * k) 3) (m (85 + 4 * k + 1)) (m (85 + 4 * k + 2)) (m (85 + 4 * k + 3)) s ∧ m 153 (k : Int) = m (85 + 4 * k) 3 ∧ ∃ t, STF s (m (85 + 4 * k) 3) 8 (fun i => m 154 (240 * (k : Int) + i)) t
theorem SHV.congr {m m' : tM} (h : SHV m) (g : ∀ c, (84 ≤ c ∧ c ≤ 108) ∨ c = 153 ∨ c = 154 → m' c = m c) : SHV m' := by
  intro k hk
  rw [g (85 + 4 * k) (by omega), g (85 + 4 * k + 1) (by omega), g (85 + 4 * k + 2) (by omega), g (85 + 4 * k + 3) (by omega), g 153 (by omega), g 154 (by omega)]
  exact h k hk
section C9x
variable {m : tM}
/-- both have looked at the sheet's form -/
theorem form_same {m1 m2 : tM} {s : SS} (hc : Cur m) (hh : HisR m) (hu : HUc m) (hw : WF s) (rc : RepC (m 6 3) (m 7) (m 8) (m 9) s) (f1 : ∀ c, c < 133 ∨ 140 < c → m1 c = m c) (fr : ∀ c, c < 145 ∨ (145 < c ∧ c < 149) ∨ (152 < c ∧ c < 165) ∨ (166 < c ∧ c < 174) ∨ 175 < c → m2 c = (up m1 145 0 0) c) (fj : ∀ j, j ≠ 39 → m2 145 j = (up m1 145 0 0) 145 j) (rep : RepM (m2 145 4) (m2 149) (m2 150) (m2 151) (m2 152) s) : Cur m2 ∧ HisR m2 ∧ HUc m2 ∧ OTB m m2 := by
  obtain ⟨hB, hE, -⟩ := hc
  have lo : ∀ c, c < 133 ∨ (140 < c ∧ c < 145) ∨ (145 < c ∧ c < 149) ∨ (152 < c ∧ c < 165) → m2 c = m c := fun c hc => by rw [fr c (by omega), up_ne _ _ _ (by omega), f1 c (by omega)]
  refine ⟨⟨?_, ?_, s, hw, ?_, rep⟩, hh.congr (fun c c0 c1 => lo c (by omega)) (lo 155 (by omega)) (by rw [fj 12 (by omega), up_at_ne _ _ _ (by omega), f1 145 (by omega)]) (by rw [fj 13 (by omega), up_at_ne _ _ _ (by omega), f1 145 (by omega)]), ?_, fun c hc => lo c (by omega)⟩
  · rw [lo 3 (by omega), lo 146 (by omega), lo 147 (by omega)]; exact hB
  · rw [lo 5 (by omega), lo 147 (by omega), lo 148 (by omega)]; exact hE
  · rw [lo 6 (by omega), lo 7 (by omega), lo 8 (by omega), lo 9 (by omega)]; exact rc
  · show HU m2 (nrm (m2 147))
    rw [lo 147 (by omega)]
    exact hu.congr (fun a a0 a1 => lo a (by omega))
/-- what the reference's sheet is, behind the class's work -/
theorem rep_up {m1 : tM} {s : SS} (rm : RepM (m 145 4) (m 149) (m 150) (m 151) (m 152) s) (f1 : ∀ c, 140 < c → m1 c = m c) : RepM ((up m1 145 0 0) 145 4) ((up m1 145 0 0) 149) ((up m1 145 0 0) 150) ((up m1 145 0 0) 151) ((up m1 145 0 0) 152) s := by
  rw [up_at_ne _ _ _ (by omega), up_ne _ _ _ (by omega), up_ne _ _ _ (by omega), up_ne _ _ _ (by omega), up_ne _ _ _ (by omega), f1 145 (by omega), f1 149 (by omega), f1 150 (by omega), f1 151 (by omega), f1 152 (by omega)]
  exact rm
theorem sim_form {i : Int} {K : Int → Int → tM → Prop} (hc : Cur m) (hh : HisR m) (hu : HUc m) (h : ∀ r m', Cur m' → HisR m' → HUc m' → OTB m m' → K r r m') : Cli mX11_form [rV 0, iV i] m (fun r m1 => Cli mX12_form [rV 145, iV i] m1 (fun r' m2 => K r r' m2)) := by
  obtain ⟨i1, i2, i3, i4⟩ := idleB hc hh hu
  obtain ⟨-, -, s, hw, rc, rm⟩ := id hc
  have e4 := hc.eq.1
  have n0 := rc.1.1
  have n1 := rc.1.2.1
  refine wX11_form_0 ⟨fun g => ⟨_, rfl, wX12_form_0 ⟨fun _ => ⟨_, rfl, h _ _ i1 i2 i3 i4⟩, fun g2 => absurd g g2⟩⟩, fun g => c_takeF shF_133 shS_6 (by omega) rc hw (fun m1 f1 l1 st1 => wX4_length_0 sh_133 ⟨_, rfl, ?_⟩)⟩
  rw [l1]
  have ref : ∀ v, (i < 4 * m 6 3 → v = m1 134 i) → (¬ i < 4 * m 6 3 → v = -1) → Cli mX12_form [rV 145, iV i] m1 (fun r' m2 => K v r' m2) := fun v v1 v2 => by
    refine wX12_form_0 ⟨fun g2 => absurd g2 g, fun _ => c_findForm (rep_up rm (fun c hc => f1 c (by omega))) hw (fun m2 fr fj rep st => ?_)⟩
    obtain ⟨j1, j2, j3, j4⟩ := form_same hc hh hu hw rc (fun c hc => f1 c (by omega)) fr fj rep
    have en : m2 145 4 = m 6 3 := by rw [fj 4 (by omega), up_at_ne _ _ _ (by omega), f1 145 (by omega), ← e4]
    rw [up_at_ne _ _ _ (by omega), f1 145 (by omega), ← e4] at st
    have u := STF.uniq 8 st1 st
    rw [en]
    refine ⟨by constructor <;> omega, fun g2 => ⟨⟨by omega, by omega⟩, _, rfl, ?_⟩, fun g2 => ⟨_, rfl, ?_⟩⟩
    · rw [v1 g2, ← u.2.1 (by omega) i (by omega) g2]; exact h _ _ j1 j2 j3 j4
    · rw [v2 g2]; exact h _ _ j1 j2 j3 j4
  refine ⟨fun g2 => wX4_number_0 sh_133 sh_134 ⟨⟨by omega, by omega⟩, _, rfl, _, rfl, ref _ (fun _ => rfl) (fun g3 => absurd g2 g3)⟩, fun g2 => ⟨_, rfl, ref _ (fun g3 => absurd g3 g2) (fun _ => rfl)⟩⟩
theorem sim_same {K : Int → Int → tM → Prop} (hc : Cur m) (hh : HisR m) (hu : HUc m) (h : ∀ r m', Cur m' → HisR m' → HUc m' → OTB m m' → K r r m') : Cli mX11_same [rV 0] m (fun r m1 => Cli mX12_same [rV 145] m1 (fun r' m2 => K r r' m2)) := by
  obtain ⟨-, -, s, hw, rc, rm⟩ := id hc
  have e4 := hc.eq.1
  refine wX11_same_0 (c_takeF shF_133 shS_6 (by omega) rc hw (fun m1 f1 l1 st1 => wX4_timesWritten_0 sh_133 ⟨_, rfl, _, rfl, wX12_same_0 (c_findForm (rep_up rm (fun c hc => f1 c (by omega))) hw (fun m2 fr fj rep st => ⟨_, rfl, ?_⟩))⟩))
  obtain ⟨j1, j2, j3, j4⟩ := form_same hc hh hu hw rc (fun c hc => f1 c (by omega)) fr fj rep
  rw [up_at_ne _ _ _ (by omega), f1 145 (by omega), ← e4] at st
  have u := STF.uniq 8 st1 st
  rw [u.1]
  exact h _ _ j1 j2 j3 j4
theorem shS_shv {k : Nat} (hk : k < 6) : shS (85 + 4 * k) := by
  have : k = 0 ∨ k = 1 ∨ k = 2 ∨ k = 3 ∨ k = 4 ∨ k = 5 := by omega
  rcases this with rfl | rfl | rfl | rfl | rfl | rfl <;> exact ⟨rfl, rfl, rfl, rfl⟩
theorem sim_shelve {k : Int} {K : Int → Int → tM → Prop} (hc : Cur m) (hh : HisR m) (hu : HUc m) (hs : SHV m) (h : ∀ r m', Cur m' → HisR m' → HUc m' → SHV m' → m' 125 = m 125 → K r r m') : Cli mX11_shelve [rV 0, iV k] m (fun r m1 => Cli mX12_shelve [rV 145, iV k] m1 (fun r' m2 => K r r' m2)) := by
  obtain ⟨i1, i2, i3, i4⟩ := idleB hc hh hu
  obtain ⟨hB, hE, s, hw, rc, rm⟩ := id hc
  have e4 := hc.eq.1
  have n0 := rc.1.1
  have n1 := rc.1.2.1
  refine wX11_shelve_0 (c_isWithin ⟨fun g => ⟨_, rfl, wX12_shelve_0 (c_in ⟨fun _ => ⟨_, rfl, h _ _ i1 i2 i3 (hs.congr (fun c hc => up_ne _ _ _ (by omega))) (up_ne _ _ _ (by omega))⟩, fun g2 => absurd (if11 g2) (by have := if10 g; omega)⟩)⟩, fun g => ?_⟩)
  have pk := if11 g
  obtain ⟨kn, rfl⟩ := Int.eq_ofNat_of_zero_le pk.1
  have k6 : kn < 6 := by omega
  refine ⟨pk, fun b eb => ?_⟩
  rw [Int.toNat_natCast] at eb
  have eb' : b = 85 + 4 * kn := by omega
  subst eb'
  refine ⟨(shS_shv k6).1, c_sheetBecome (shS_shv k6) shS_6 (by omega) n0 n1 (fun m1 se => c_size shS_6 ⟨_, rfl, ?_⟩)⟩
  obtain ⟨s1, s2, s3, s4', s5⟩ := se
  have f1 : ∀ c, c < 85 + 4 * kn ∨ 85 + 4 * kn + 3 < c → m1 c = m c := fun c hc => s1 c (by omega)
  rw [f1 6 (by omega)]
  refine wX12_shelve_0 (c_in ⟨fun g2 => absurd (if10 g2) (by omega), fun _ => c_findForm (rep_up rm (fun c hc => f1 c (by omega))) hw (fun m2 fr fj rep st => ?_)⟩)
  have en : m2 145 4 = m 6 3 := by rw [fj 4 (by omega), up_at_ne _ _ _ (by omega), f1 145 (by omega), ← e4]
  rw [up_at_ne _ _ _ (by omega), f1 145 (by omega), ← e4] at st
  rw [en]
  have lo : ∀ c, c < 145 ∨ (145 < c ∧ c < 149) ∨ (152 < c ∧ c < 165) → m2 c = m1 c := fun c hc => by rw [fr c (by omega), up_ne _ _ _ (by omega)]
  refine ⟨pk, ?_⟩
  generalize hm3 : up m2 153 (kn : Int) (m 6 3) = m3
  have f3 : ∀ c, c ≠ 153 → m3 c = m2 c := fun c hc => by rw [← hm3, up_ne _ _ _ hc]
  have key := up_ind (n := 4 * m 6 3) (fun j => Tj mX12_shelve 33 [some (rV 145), some (iV (kn : Int)), some (iV j)] [] (sr m3 154 (fil (m3 174) (m3 154) (240 * (kn : Int)) j)) (fun r m' => ∃ x, r = some (iV x) ∧ K (m 6 3) x m')) ?_ ?_ (i := 0) (by omega) (by omega)
  · rw [fil_0, sr_self] at key
    exact key
  · generalize hm4 : sr m3 154 (fil (m3 174) (m3 154) (240 * (kn : Int)) (4 * m 6 3)) = m4
    have f4 : ∀ c, c ≠ 153 → c ≠ 154 → m4 c = m2 c := fun c c1 c2 => by rw [← hm4, sr_ne _ _ c2, f3 c c1]
    have e44 : m4 145 4 = m 6 3 := by rw [f4 145 (by omega) (by omega), en]
    refine wX12_shelve_33 ⟨by rw [e44]; constructor <;> omega, fun g2 => absurd g2 (by rw [e44]; omega), fun _ => ⟨_, rfl, ?_⟩⟩
    rw [e44]
    have rows : ∀ c, c < 85 + 4 * kn ∨ (85 + 4 * kn + 3 < c ∧ c < 145) ∨ (145 < c ∧ c < 149) ∨ c = 155 → m4 c = m c := fun c hc => by rw [f4 c (by omega) (by omega), lo c (by omega), f1 c (by omega)]
    refine h _ _ ⟨?_, ?_, s, hw, ?_, ?_⟩ (hh.congr (fun c c0 c1 => rows c (by omega)) (rows 155 (by omega)) (by rw [f4 145 (by omega) (by omega), fj 12 (by omega), up_at_ne _ _ _ (by omega), f1 145 (by omega)]) (by rw [f4 145 (by omega) (by omega), fj 13 (by omega), up_at_ne _ _ _ (by omega), f1 145 (by omega)])) ?_ ?_ (rows 125 (by omega))
    · rw [rows 3 (by omega), rows 146 (by omega), rows 147 (by omega)]; exact hB
    · rw [rows 5 (by omega), rows 147 (by omega), rows 148 (by omega)]; exact hE
    · rw [rows 6 (by omega), rows 7 (by omega), rows 8 (by omega), rows 9 (by omega)]; exact rc
    · rw [f4 145 (by omega) (by omega), f4 149 (by omega) (by omega), f4 150 (by omega) (by omega), f4 151 (by omega) (by omega), f4 152 (by omega) (by omega)]; exact rep
    · show HU m4 (nrm (m4 147))
      rw [rows 147 (by omega)]
      exact hu.congr (fun a a0 a1 => rows a (by omega))
    · intro j hj
      have e153 : m4 153 = ur (m 153) (kn : Int) (m 6 3) := by
        rw [← hm4, sr_ne _ _ (by omega), ← hm3, ← f1 153 (by omega), ← lo 153 (by omega)]
        exact sr_eq _ _ _
      have e154 : m4 154 = fil (m2 174) (m 154) (240 * (kn : Int)) (4 * m 6 3) := by
        rw [← hm4, sr_eq, f3 174 (by omega), f3 154 (by omega), lo 154 (by omega), f1 154 (by omega)]
      by_cases q : j = kn
      · subst q
        have sp : ∀ c, 85 + 4 * j ≤ c → c ≤ 85 + 4 * j + 3 → m4 c = m1 c := fun c c0 c1 => by rw [f4 c (by omega) (by omega), lo c (by omega)]
        have e0 : m4 (85 + 4 * j) 3 = m 6 3 := by rw [sp _ (by omega) (by omega)]; exact s2
        refine ⟨s, hw, ?_, by rw [e153, ur_eq, e0], m2 145 39, ?_⟩
        · rw [e0]
          refine rc.congr (fun x x0 x1 => ?_) (fun x x0 x1 => ?_) (fun x x0 x1 => ?_)
          · rw [sp _ (by omega) (by omega)]; exact s3 x x0 x1
          · rw [sp _ (by omega) (by omega)]; exact s4' x x0 x1
          · rw [sp _ (by omega) (by omega)]; exact s5 x x0 x1
        · rw [e0, e154]
          obtain ⟨L0, t0, W, a, b, d⟩ := st
          refine ⟨L0, t0, W, a, b, ?_⟩
          have el : ∀ x, 0 ≤ x → x < 4 * m 6 3 → fil (m2 174) (m 154) (240 * (j : Int)) (4 * m 6 3) (240 * (j : Int) + x) = m2 174 x := fun x x0 x1 => by
            rw [fil_in _ _ (by omega)]
            congr 1
            omega
          rcases d with ⟨d1, d2, d3⟩ | ⟨d1, r, d2, ⟨e1, e2, e3⟩ | ⟨e1, e2, e3⟩ | ⟨e1, e2, e3⟩⟩
          · exact Or.inl ⟨d1, d2, fun x x0 x1 => (el x x0 x1).trans (d3 x x0 x1)⟩
          · exact Or.inr ⟨d1, r, d2, Or.inl ⟨e1, e2, fun x x0 x1 => (el x x0 x1).trans (e3 x x0 x1)⟩⟩
          · exact Or.inr ⟨d1, r, d2, Or.inr (Or.inl ⟨e1, e2, fun x x0 x1 => (el x x0 x1).trans (e3 x x0 x1)⟩)⟩
          · exact Or.inr ⟨d1, r, d2, Or.inr (Or.inr ⟨e1, e2, fun x x0 x1 => (el x x0 x1).trans (e3 x x0 x1)⟩)⟩
      · obtain ⟨s', w', r', g', t', st'⟩ := hs j hj
        rw [rows (85 + 4 * j) (by omega), rows (85 + 4 * j + 1) (by omega), rows (85 + 4 * j + 2) (by omega), rows (85 + 4 * j + 3) (by omega), e153, ur_ne _ _ (by omega), e154]
        refine ⟨s', w', r', g', t', ?_⟩
        have n1' := r'.1.2.1
        obtain ⟨L0, t0, W, a, b, d⟩ := st'
        refine ⟨L0, t0, W, a, b, ?_⟩
        have el : ∀ x, 0 ≤ x → x < 4 * m (85 + 4 * j) 3 → fil (m2 174) (m 154) (240 * (kn : Int)) (4 * m 6 3) (240 * (j : Int) + x) = m 154 (240 * (j : Int) + x) := fun x x0 x1 => fil_out _ _ (by omega)
        rcases d with ⟨d1, d2, d3⟩ | ⟨d1, r, d2, ⟨e1, e2, e3⟩ | ⟨e1, e2, e3⟩ | ⟨e1, e2, e3⟩⟩
        · exact Or.inl ⟨d1, d2, fun x x0 x1 => (el x x0 x1).trans (d3 x x0 x1)⟩
        · exact Or.inr ⟨d1, r, d2, Or.inl ⟨e1, e2, fun x x0 x1 => (el x x0 x1).trans (e3 x x0 x1)⟩⟩
        · exact Or.inr ⟨d1, r, d2, Or.inr (Or.inl ⟨e1, e2, fun x x0 x1 => (el x x0 x1).trans (e3 x x0 x1)⟩)⟩
        · exact Or.inr ⟨d1, r, d2, Or.inr (Or.inr ⟨e1, e2, fun x x0 x1 => (el x x0 x1).trans (e3 x x0 x1)⟩)⟩
  · intro j j0 j1 ih
    have e34 : (sr m3 154 (fil (m3 174) (m3 154) (240 * (kn : Int)) j)) 145 4 = m 6 3 := by rw [sr_ne _ _ (by omega), f3 145 (by omega), en]
    refine wX12_shelve_33 ⟨by rw [e34]; constructor <;> omega, fun _ => ⟨⟨by constructor <;> omega, by constructor <;> omega, j0, by omega, by omega, by omega, by constructor <;> omega⟩, ?_⟩, fun g2 => absurd (by rw [e34]; exact j1) g2⟩
    rw [up_sr, sr_ne _ _ (show 174 ≠ 154 by omega), fil_s (m3 174) (m3 154) (240 * (kn : Int)) j0]
    exact ih
theorem sim_alike {k : Int} {K : Int → Int → tM → Prop} (hc : Cur m) (hh : HisR m) (hu : HUc m) (hs : SHV m) (h : ∀ r m', Cur m' → HisR m' → HUc m' → OTB m m' → K r r m') : Cli mX11_alike [rV 0, iV k] m (fun r m1 => Cli mX12_alike [rV 145, iV k] m1 (fun r' m2 => K r r' m2)) := by
  obtain ⟨i1, i2, i3, i4⟩ := idleB hc hh hu
  obtain ⟨hB, hE, s, hw, rc, rm⟩ := id hc
  have e4 := hc.eq.1
  have n0 := rc.1.1
  have n1 := rc.1.2.1
  refine wX11_alike_0 (c_isWithin ⟨fun g => ⟨_, rfl, wX12_alike_0 (c_in ⟨fun _ => ⟨_, rfl, h _ _ i1 i2 i3 i4⟩, fun g2 => absurd (if11 g2) (by have := if10 g; omega)⟩)⟩, fun g => ?_⟩)
  have pk := if11 g
  obtain ⟨kn, rfl⟩ := Int.eq_ofNat_of_zero_le pk.1
  have k6 : kn < 6 := by omega
  obtain ⟨s', w', r', g', t', st'⟩ := hs kn k6
  refine c_takeF shF_133 shS_6 (by omega) rc hw (fun m1 f1 l1 st1 => ⟨pk, fun b eb => ?_⟩)
  rw [Int.toNat_natCast] at eb
  have eb' : b = 85 + 4 * kn := by omega
  subst eb'
  have eb3 : m1 (85 + 4 * kn) 3 = m (85 + 4 * kn) 3 := by rw [f1 _ (by omega)]
  refine c_takeF shF_137 (shS_shv k6) (by omega) (s := s') (by rw [f1 _ (by omega), f1 _ (by omega), f1 _ (by omega), f1 _ (by omega)]; exact r') w' (fun m2 f2 l2 st2 => ?_)
  rw [eb3] at l2 st2
  have a133 : m2 133 = m1 133 := f2 133 (by omega)
  have a134 : m2 134 = m1 134 := f2 134 (by omega)
  have nk1 := r'.1.2.1
  have nk0 := r'.1.1
  have u2 := STF.uniq 8 st2 st'
  have f12 : ∀ c, c < 133 ∨ 140 < c → m2 c = m c := fun c hc => by rw [f2 c (by omega), f1 c (by omega)]
  -- the reference
  have ref : ∀ v, ((m 6 3 = m (85 + 4 * kn) 3 ∧ ∀ j, 0 ≤ j → j < 4 * m 6 3 → m1 134 j = m2 138 j) → v = 1) → (¬ (m 6 3 = m (85 + 4 * kn) 3 ∧ ∀ j, 0 ≤ j → j < 4 * m 6 3 → m1 134 j = m2 138 j) → v = 0) → Cli mX12_alike [rV 145, iV (kn : Int)] m2 (fun r' m2 => K v r' m2) := fun v v1 v2 => by
    refine wX12_alike_0 (c_in ⟨fun g2 => absurd (if10 g2) (by omega), fun _ => c_findForm (rep_up rm (fun c hc => f12 c (by omega))) hw (fun m3 fr fj rep st => ⟨pk, fun w hw' => ?_⟩)⟩)
    obtain ⟨j1, j2, j3, j4⟩ := form_same hc hh hu hw rc f12 fr fj rep
    have en : m3 145 4 = m 6 3 := by rw [fj 4 (by omega), up_at_ne _ _ _ (by omega), f12 145 (by omega), ← e4]
    rw [up_at_ne _ _ _ (by omega), f12 145 (by omega), ← e4] at st
    have u1 := STF.uniq 8 st1 st
    have e153 : m3 153 = m 153 := by rw [fr 153 (by omega), up_ne _ _ _ (by omega), f12 153 (by omega)]
    have e154 : m3 154 = m 154 := by rw [fr 154 (by omega), up_ne _ _ _ (by omega), f12 154 (by omega)]
    rw [e153, en, g'] at hw'
    -- both rows
    have rowK : ∀ j, 0 ≤ j → j < 4 * m (85 + 4 * kn) 3 → m3 154 (240 * (kn : Int) + j) = m2 138 j := fun j j0 j1 => by rw [e154]; exact (u2.2.1 (by omega) j j0 j1).symm
    have rowC : ∀ j, 0 ≤ j → j < 4 * m 6 3 → m3 174 j = m1 134 j := fun j j0 j1 => (u1.2.1 (by omega) j j0 j1).symm
    have key := up_ind (n := 4 * m 6 3) (fun j => ∀ x, (x = 0 ∧ ¬ (m 6 3 = m (85 + 4 * kn) 3 ∧ ∀ j, 0 ≤ j → j < 4 * m 6 3 → m1 134 j = m2 138 j)) ∨ (x = 1 ∧ m 6 3 = m (85 + 4 * kn) 3 ∧ ∀ y, 0 ≤ y → y < j → m1 134 y = m2 138 y) → Tj mX12_alike 42 [some (rV 145), some (iV (kn : Int)), some (iV x), some (iV j)] [] m3 (fun r m' => ∃ y, r = some (iV y) ∧ K v y m')) ?_ ?_ (i := 0) (by omega) (by omega)
    · refine key w ?_
      by_cases q : m (85 + 4 * kn) 3 = m 6 3
      · rw [if_pos q] at hw'
        exact Or.inr ⟨hw', q.symm, fun y y0 y1 => by omega⟩
      · rw [if_neg q] at hw'
        exact Or.inl ⟨hw', fun z => q z.1.symm⟩
    · intro x hx
      refine wX12_alike_42 ⟨by rw [en]; constructor <;> omega, fun g2 => absurd g2 (by rw [en]; omega), fun _ y hy => ⟨_, rfl, ?_⟩⟩
      rcases hx with ⟨x0, q⟩ | ⟨x1, q⟩
      · rw [if_pos x0] at hy
        rw [hy, v2 q]
        exact h _ _ j1 j2 j3 j4
      · rw [if_neg (by omega)] at hy
        rw [hy, v1 q]
        exact h _ _ j1 j2 j3 j4
    · intro j j0 j1' ih x hx
      refine wX12_alike_42 ⟨by rw [en]; constructor <;> omega, fun _ => ⟨fun g2 => ⟨_, rfl, ?_⟩, fun g2 => ⟨⟨by constructor <;> omega, by constructor <;> omega, by omega, by omega, j0, by omega⟩, fun y hy => ⟨by constructor <;> omega, ih y ?_⟩⟩⟩, fun g2 => absurd (by rw [en]; exact j1') g2⟩
      · rcases hx with ⟨x0, q⟩ | ⟨x1, q⟩
        · rw [v2 q]; exact h _ _ j1 j2 j3 j4
        · omega
      · rcases hx with ⟨x0, q⟩ | ⟨x1, q1, q2⟩
        · exact absurd x0 g2
        · rw [rowK j j0 (by omega), rowC j j0 j1'] at hy
          by_cases e : m2 138 j = m1 134 j
          · rw [if_pos e] at hy
            refine Or.inr ⟨hy, q1, fun z z0 z1 => ?_⟩
            by_cases ez : z = j
            · rw [ez]; exact e.symm
            · exact q2 z z0 (by omega)
          · rw [if_neg e] at hy
            exact Or.inl ⟨hy, fun z => e (z.2 j j0 j1').symm⟩
  refine wX4_matches_0 sh_133 sh_137 ⟨fun g2 => ?_, fun g2 => ⟨_, rfl, fun v hv => ⟨_, rfl, ref v (fun z => ?_) (fun _ => by rw [hv, if_pos rfl])⟩⟩⟩
  · rw [a133, l1, l2] at g2
    refine c_compareC (np := 240) (nq := 240) sh_133 sh_134 sh_138 (by rw [a133, l1]; omega) (by rw [a133, l1]; omega) (by rw [a133, l1]; omega) (fun r cr x hx => ⟨_, rfl, fun v hv => ⟨_, rfl, ref v (fun z => ?_) (fun z => ?_)⟩⟩)
    · rw [a133, l1, a134] at cr
      have er : r = 0 := by
        rcases cr with ⟨e, -⟩ | ⟨y, y0, y1, -, w⟩
        · exact e
        · have := z.2 y y0 y1
          rcases w with ⟨w, -⟩ | ⟨w, -⟩
          · have w' : m1 134 y < m2 138 y := w
            omega
          · have w' : m2 138 y < m1 134 y := w
            omega
      rw [if_pos er] at hx
      rw [hv, hx]
      rfl
    · rw [a133, l1, a134] at cr
      have er : ¬ r = 0 := fun e => by
        rcases cr with ⟨-, f⟩ | ⟨y, y0, y1, -, w⟩
        · exact z ⟨by omega, f⟩
        · rcases w with ⟨-, w⟩ | ⟨-, w⟩ <;> omega
      rw [if_neg er] at hx
      rw [hv, hx]
      rfl
  · exact absurd (by rw [a133, l1, l2, z.1]) g2
end C9x
