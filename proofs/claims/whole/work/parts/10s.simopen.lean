/-! open, on both sides -/
theorem OKL.congr {n : Int} {L B ct : Int → Int} {a b : Int → L3} (hab : ∀ k, 0 ≤ k → k < n → b k = a k) (h : OKL n L B ct a) : OKL n L B ct b := by
  obtain ⟨h1, h2, h3, h4, h5⟩ := h
  refine ⟨h1, fun k d o e => ?_, fun ⟨x, y, y0, yx, xn, z⟩ => h3 ⟨x, y, y0, yx, xn, ?_⟩, fun q q0 q1 => by rw [hab q q0 q1]; exact h4 q q0 q1, h5⟩
  · have r := (h1 k d e.1 e.2.1 e.2.2.1 e.2.2.2.1).1
    rw [show L (4 * k + d) / 4 = o from e.2.2.2.2.2] at r
    rw [hab k e.1 e.2.1, hab o r.1 r.2]
    exact h2 k d o e
  · rw [hab x (by omega) xn, hab y y0 (by omega)] at z
    exact z
theorem DRW.congr {n : Int} {B ct : Int → Int} {a b : Int → L3} {s : SS} (hab : ∀ k, 0 ≤ k → k < n → b k = a k) (h : DRW n B ct a s) : DRW n B ct b s := by
  refine ⟨fun x y => (h.1 x y).trans ⟨?_, ?_⟩, fun q e q0 q1 e0 e1 => ?_⟩
  · rintro ⟨q, q0, q1, q2, q3⟩
    exact ⟨q, q0, q1, by rw [hab q q0 q1]; exact q2, by rw [hab q q0 q1]; exact q3⟩
  · rintro ⟨q, q0, q1, q2, q3⟩
    rw [hab q q0 q1] at q2 q3
    exact ⟨q, q0, q1, q2, q3⟩
  · have := h.2 q e q0 q1 e0 e1
    unfold drL at this ⊢
    rw [hab q q0 q1]
    exact this
theorem lay_same {m m' : tM} (h : Rel m) (f1 : ∀ a, a < 115 ∨ (119 < a ∧ a < 145) → m' a = m a) (f2 : ∀ a, 146 ≤ a → a ≤ 155 → m' a = m a) (e4 : m' 145 4 = m 145 4) (e12 : m' 145 12 = m 145 12) (e13 : m' 145 13 = m 145 13) : Rel m' := by
  obtain ⟨hc, hh, hu, hs, hp⟩ := h
  refine ⟨?_, hh.congr (fun a a0 a1 => f1 a (by omega)) (f2 155 (by omega) (by omega)) e12 e13, ?_, hs.congr (fun c hc => ?_), by rw [f1 125 (by omega)]; exact hp⟩
  · show STR (m' 3) (m' 5) (m' 6 3) (m' 7) (m' 8) (m' 9) (m' 146) (m' 147) (m' 148) (m' 145 4) (m' 149) (m' 150) (m' 151) (m' 152)
    rw [f1 3 (by omega), f1 5 (by omega), f1 6 (by omega), f1 7 (by omega), f1 8 (by omega), f1 9 (by omega), f2 146 (by omega) (by omega), f2 147 (by omega) (by omega), f2 148 (by omega) (by omega), e4, f2 149 (by omega) (by omega), f2 150 (by omega) (by omega), f2 151 (by omega) (by omega), f2 152 (by omega) (by omega)]
    exact hc
  · show HU m' (nrm (m' 147))
    rw [f2 147 (by omega) (by omega)]
    exact hu.congr (fun a a0 a1 => f1 a (by omega))
  · by_cases q : c < 145
    · exact f1 c (by omega)
    · exact f2 c (by omega) (by omega)
/-- the frame of the reference's work up to its laying -/
abbrev FRO (mm m3 : tM) : Prop := (∀ x, x < 145 ∨ (146 ≤ x ∧ x ≤ 155) → m3 x = mm x) ∧ (m3 145 4 = mm 145 4 ∧ m3 145 12 = mm 145 12 ∧ m3 145 13 = mm 145 13)
section C10s
variable {m : tM}
theorem ref_open {mm : tM} {Q : Int → tM → Prop} (h : Rel m) (fm : ∀ x, 145 ≤ x → mm x = m x) (hno : m 109 7 ≠ 0 → ∀ m2, FRO mm m2 → Q (-4) m2) (hbig : m 109 7 = 0 → 60 < m 109 6 → ∀ m2, FRO mm m2 → Q (-5) m2) (hlay : m 109 7 = 0 → ¬ 60 < m 109 6 → ∀ r m3, FRO mm m3 → m3 145 17 = m 109 6 → NS (nrm (m 147)) 384 (m3 158) (m3 159) (m3 160) → RLL (m 109 6) (m 113) (m 148) (labL m3) r → (r = 0 → Tj mX12_open 47 [some (rV 145), none, some (iV 0)] [] m3 (fun r m' => ∃ x, r = some (iV x) ∧ Q x m')) ∧ (¬ r = 0 → (-3 ≤ r ∧ r ≤ 3) ∧ Q ((-20) - r) m3)) : Cli mX12_open [rV 145] mm Q := by
  obtain ⟨hc, hh, hu, hs, hp⟩ := id h
  have e6 := hu.2.2.1
  have cE : ∀ {z : tM}, z 147 = m 147 → CE z (nrm (m 147)) := fun e q q0 q1 => by rw [e]; exact ceN m q q0 q1
  refine wX12_open_0 (c_wellOf (c := nrm (m 147)) (cE (by rw [up_ne _ _ _ (by omega), fm 147 (by omega)])) hu.1 (fun w m1 hw fr => ?_))
  have u : ∀ x, x ≠ 145 → x ≠ 156 → x ≠ 157 → m1 x = mm x := fun x x1 x2 x3 => by rw [fr x x2 x3, up_ne _ _ _ x1]
  have us : ∀ j, j ≠ 0 → m1 145 j = mm 145 j := fun j hj => by rw [fr 145 (by omega) (by omega), up_at_ne _ _ _ hj]
  refine ⟨fun z => c_findSkin (cE (by rw [u 147 (by omega) (by omega) (by omega), fm 147 (by omega)])) (fun m2 fq => ?_), fun z => ⟨_, rfl, hno (fun y => z ((FLT.zero hw hu.2.2.2.1).2 y)) m1 ⟨fun x hx => u x (by omega) (by omega) (by omega), us 4 (by omega), us 12 (by omega), us 13 (by omega)⟩⟩⟩
  have z0 := (FLT.zero hw hu.2.2.2.1).1 z
  obtain ⟨q1, q2, q3, q4⟩ := fq
  have fo : FRO mm m2 := ⟨fun x hx => by rw [q1 x (by omega) (by omega) (by omega) (by omega), u x (by omega) (by omega) (by omega)], by rw [q2 4 (by omega), us 4 (by omega)], by rw [q2 12 (by omega), us 12 (by omega)], by rw [q2 13 (by omega), us 13 (by omega)]⟩
  rw [← e6] at q3
  have np : 0 < m 109 6 := by
    have w := hu.2.2.2.1
    rw [z0] at w
    rw [e6]
    exact FLT.pos w
  refine ⟨fun g => ⟨_, rfl, hbig z0 (by rw [← q3]; exact g) m2 fo⟩, fun g => ?_⟩
  rw [q3] at g
  have sk := hu.skn
  rw [← e6] at sk
  refine c_layM (c := nrm (m 147)) (L := m 113) (B := m 114) (cE (by rw [fo.1 147 (by omega), fm 147 (by omega)])) q4 hu.2.2.2.2.2 sk q3 e6 np (by omega) (fun r m3 f3 rll => ?_)
  rw [show m2 148 = m 148 by rw [fo.1 148 (by omega), fm 148 (by omega)]] at rll
  have l := hlay z0 g r m3 ⟨fun x hx => by rw [f3.1 x (by omega) (by omega), fo.1 x hx], by rw [f3.2 4 (by omega) (by omega) (by omega), fo.2.1], by rw [f3.2 12 (by omega) (by omega) (by omega), fo.2.2.1], by rw [f3.2 13 (by omega) (by omega) (by omega), fo.2.2.2]⟩ (by rw [f3.2 17 (by omega) (by omega) (by omega), q3]) (by rw [f3.1 158 (by omega) (by omega), f3.1 159 (by omega) (by omega), f3.1 160 (by omega) (by omega)]; exact q4) rll
  exact ⟨l.1, fun y => ⟨by have := (l.2 y).1; constructor <;> omega, _, rfl, (l.2 y).2⟩⟩
theorem RLL.b {n : Int} {L ct : Int → Int} {lab : Int → L3} {r : Int} (h : RLL n L ct lab r) : r = 0 ∨ r = 1 ∨ r = 2 ∨ r = 3 := by
  by_cases q : ∀ k, 0 ≤ k → k < n → REG n (ucL ct) (aqL L) k
  · obtain ⟨a1, a2, a3, a4⟩ := h.2 q
    by_cases c : CNS n (ucL ct) (aqL L) (crL L) lab
    · by_cases o : OVL3 n lab
      · exact Or.inr (Or.inr (Or.inr ((a4 c).1 o)))
      · exact Or.inl ((a4 c).2 o)
    · exact Or.inr (Or.inr (Or.inl (a3 c)))
  · exact Or.inr (Or.inl (h.1 q))
theorem RLL.ok {n : Int} {L B ct : Int → Int} {lab : Int → L3} (h : RLL n L ct lab 0) (sk : SKN n L B) (rc : RCL n lab) (cs : ∀ q e, 0 ≤ q → q < n → 0 ≤ e → e < 4 → ct (L (4 * q + e)) = ct (4 * q + e)) : OKL n L B ct lab := by
  have q : ∀ k, 0 ≤ k → k < n → REG n (ucL ct) (aqL L) k := Classical.byContradiction (fun no => by have := h.1 no; omega)
  obtain ⟨a1, a2, a3, a4⟩ := h.2 q
  have c : CNS n (ucL ct) (aqL L) (crL L) lab := Classical.byContradiction (fun no => by have := a3 no; omega)
  have o : ¬ OVL3 n lab := fun o => by have := (a4 c).1 o; omega
  exact ⟨sk, c, o, fun k k0 k1 => ⟨(a1 k k0 k1).1.t, rc k k0 k1⟩, cs⟩
theorem sim_open {K : Int → Int → tM → Prop} (h : Rel m) (hk : ∀ r m', Rel m' → K r r m') : Cli mX11_open [rV 0] m (fun r m1 => Cli mX12_open [rV 145] m1 (fun r' m2 => K r r' m2)) := by
  obtain ⟨hc, hh, hu, hs, hp⟩ := id h
  obtain ⟨hB, hE, hS⟩ := id hc
  obtain ⟨ha, hb', hc', hd', -, -⟩ := id hh
  have e6 := hu.2.2.1
  have sk := hu.skn
  rw [← e6] at sk
  have idle : ∀ {mm m2 : tM}, (∀ x, x < 115 ∨ 119 < x → mm x = m x) → FRO mm m2 → Rel m2 := fun {mm m2} f fo => lay_same h (fun a ha => by rw [fo.1 a (by omega), f a (by omega)]) (fun a a0 a1 => by rw [fo.1 a (by omega), f a (by omega)]) (by rw [fo.2.1, f 145 (by omega)]) (by rw [fo.2.2.1, f 145 (by omega)]) (by rw [fo.2.2.2, f 145 (by omega)])
  refine wX11_open_0 (wX9_fault_0 ⟨_, rfl, fun z => wX9_size_0 ⟨_, rfl, fun g => ⟨_, rfl, ref_open h (fun _ _ => rfl) (fun y => absurd z y) (fun _ _ m2 fo => hk _ _ (idle (fun _ _ => rfl) fo)) (fun _ y => absurd g y)⟩, fun g => ?_⟩, fun z => ⟨_, rfl, ref_open h (fun _ _ => rfl) (fun _ m2 fo => hk _ _ (idle (fun _ _ => rfl) fo)) (fun y => absurd y z) (fun y => absurd y z)⟩⟩)
  have np : 0 < m 109 6 := by
    have w := hu.2.2.2.1
    rw [z] at w
    rw [e6]
    exact FLT.pos w
  refine c_layC (B := m 114) (ct := m 148) rfl np (by omega) sk hE.1 (fun r m1 f1 e115 rll => ?_)
  have rb := rll.b
  refine ⟨fun r0 => ?_, fun r0 => ⟨by constructor <;> omega, _, rfl, ref_open h (fun x hx => f1 x (by omega)) (fun y => absurd z y) (fun _ y => absurd y g) (fun _ _ r' m3 fo _ _ rll' => ?_)⟩⟩
  · subst r0
    have cs : ∀ q e, 0 ≤ q → q < m 109 6 → 0 ≤ e → e < 4 → m 148 (m 113 (4 * q + e)) = m 148 (4 * q + e) := fun q e q0 q1 e0 e1 => SYM0.L hE.2.2 hu.2.2.2.2.2 q0 (by rw [← e6]; exact q1) e0 e1
    have bl : ∀ q, 0 ≤ q → q < m 109 6 → bL 60 (labC m1 q) := fun q q0 q1 => by
      have al : ∀ k, 0 ≤ k → k < m 109 6 → REG (m 109 6) (ucL (m 148)) (aqL (m 113)) k := Classical.byContradiction (fun no => by have := rll.1 no; omega)
      exact ((rll.2 al).1 q q0 q1).2
    refine c_reachC e115 (by omega) (by omega) bl (fun rc => ⟨fun y => by omega, fun _ => ?_⟩) (fun rc => ⟨fun _ => ⟨_, rfl, ref_open h (fun x hx => f1 x (by omega)) (fun y => absurd z y) (fun _ y => absurd y g) (fun _ _ r' m3 fo e17 _ rll' => ?_)⟩, fun y => absurd rfl y⟩)
    · have ok := rll.ok sk rc cs
      refine c_keep (by rw [f1 10 (by omega)]; exact ha) (by rw [f1 10 (by omega)]; exact hb') (by rw [f1 6 (by omega)]; exact hc.n) (fun mk kp => ?_)
      have kf : ∀ x, x < 10 ∨ 83 < x → mk x = m1 x := fun x hx => kp.fr hx
      have labk : labC mk = labC m1 := by
        funext k
        unfold labC
        rw [kf 116 (by omega), kf 117 (by omega), kf 118 (by omega)]
      refine c_drawOn (n := m 109 6) (ct := m 148) (by omega) (by omega) (by rw [kf 113 (by omega), kf 114 (by omega), f1 113 (by omega), f1 114 (by omega), labk]; exact ok) (by rw [kf 5 (by omega), f1 5 (by omega)]; exact hE.1) (by rw [kf 115 (by omega), e115]) (fun m5 s f5 ws dw rc5 => ?_)
      rw [kf 114 (by omega), f1 114 (by omega), labk] at dw
      refine c_creaseCount shS_6 rc5.1.1 rc5.1.2.1 ⟨_, rfl, ?_⟩
      have g5 : ∀ x, x < 6 ∨ 83 < x → x < 115 ∨ 119 < x → m5 x = m x := fun x x1 x2 => by rw [f5 x (by omega), kf x (by omega), f1 x x2]
      refine ref_open h (fun x hx => g5 x (by omega) (by omega)) (fun y => absurd z y) (fun _ y => absurd y g) (fun _ _ r' m3 fo e17 ns rll' => ?_)
      obtain ⟨er, el⟩ := RLL.uniq sk rll rll'
      have el' := el (by omega) (by omega)
      refine ⟨fun r0 => reachM e17 (by omega) (by omega) (fun rcM => ?_) (fun rcM => absurd (fun q q0 q1 => by rw [← el' q q0 q1]; exact rc q q0 q1) rcM), fun r0 => absurd er.symm r0⟩
      refine c_keepM (by rw [fo.2.2.1, g5 145 (by omega) (by omega)]; exact hd') (by rw [fo.2.2.2, g5 145 (by omega) (by omega), hc']; exact hb') (fun m4 km => ?_)
      obtain ⟨k1, k2, k3, k4, k5, k6⟩ := id km
      have R1 : Rel m1 := lay_same h (fun a ha => f1 a (by omega)) (fun a a0 a1 => f1 a (by omega)) (by rw [f1 145 (by omega)]) (by rw [f1 145 (by omega)]) (by rw [f1 145 (by omega)])
      have his : HisR m4 := HisR.keep2 R1.2.1 R1.1 kp (fun x x0 x1 => by rw [fo.1 x (by omega), f5 x (by omega)]) (fun x x0 x1 => by rw [fo.1 x (by omega), g5 x (by omega) (by omega), f1 x (by omega)]) (by rw [fo.2.1, g5 145 (by omega) (by omega), f1 145 (by omega)]) (by rw [fo.2.2.1, g5 145 (by omega) (by omega), f1 145 (by omega)]) (by rw [fo.2.2.2, g5 145 (by omega) (by omega), f1 145 (by omega)]) km
      have e417 : m4 145 17 = m 109 6 := by rw [k2 17 (by omega) (by omega) (by omega), e17]
      rw [e417]
      generalize hm : up m4 145 4 (m 109 6) = m7
      have f7 : ∀ x, x ≠ 145 → m7 x = m4 x := fun x hx => by rw [← hm, up_ne _ _ _ hx]
      have j7 : ∀ j, j ≠ 4 → m7 145 j = m4 145 j := fun j hj => by rw [← hm, up_at_ne _ _ _ hj]
      have h74 : m7 145 4 = m 109 6 := by rw [← hm, up_at]
      have g7 : ∀ x, x < 6 ∨ (83 < x ∧ x < 145) ∨ (146 ≤ x ∧ x < 155) → x < 115 ∨ 119 < x → m7 x = m x := fun x x1 x2 => by rw [f7 x (by omega), k1 x (by omega) (by omega), fo.1 x (by omega), g5 x (by omega) x2]
      have lab7 : ∀ k, 0 ≤ k → k < m 109 6 → labL m7 k = labC m1 k := fun k k0 k1' => by
        rw [el' k k0 k1']
        unfold labL
        rw [f7 162 (by omega), f7 163 (by omega), f7 164 (by omega), k1 162 (by omega) (by omega), k1 163 (by omega) (by omega), k1 164 (by omega) (by omega)]
      refine draw_all (c := nrm (m 147)) (L := m 113) (B := m 114) (ct := m 148) (n := m 109 6) (fun q q0 q1 => by rw [g7 147 (by omega) (by omega)]; exact ceN m q q0 q1) (by rw [f7 158 (by omega), f7 159 (by omega), f7 160 (by omega), k1 158 (by omega) (by omega), k1 159 (by omega) (by omega), k1 160 (by omega) (by omega)]; exact ns) hu.2.2.2.2.2 e6 (by omega) (g7 148 (by omega) (by omega)) (by rw [j7 17 (by omega), e417]) h74 (ok.congr lab7) ws (dw.congr lab7) (fun m8 f8 rep => ?_)
      have g8 : ∀ x, x < 6 ∨ (83 < x ∧ x < 145) ∨ (146 ≤ x ∧ x < 149) ∨ (152 < x ∧ x < 155) → x < 115 ∨ 119 < x → m8 x = m x := fun x x1 x2 => by rw [f8.1 x (by omega) (by omega), g7 x (by omega) x2]
      have l8 : ∀ x, x < 145 → m8 x = m5 x := fun x hx => by rw [f8.1 x (by omega) (by omega), f7 x (by omega), k1 x (by omega) (by omega), fo.1 x (by omega)]
      have rel : Rel m8 := by
        refine ⟨⟨?_, ?_, s, ws, ?_, rep⟩, his.congr (fun x x0 x1 => by rw [f8.1 x (by omega) (by omega), f7 x (by omega)]) (by rw [f8.1 155 (by omega) (by omega), f7 155 (by omega)]) (by rw [f8.2 12 (by omega) (by omega) (by omega), j7 12 (by omega)]) (by rw [f8.2 13 (by omega) (by omega) (by omega), j7 13 (by omega)]), ?_, hs.congr (fun x hx => g8 x (by omega) (by omega)), by rw [g8 125 (by omega) (by omega)]; exact hp⟩
        · rw [g8 3 (by omega) (by omega), g8 146 (by omega) (by omega), g8 147 (by omega) (by omega)]; exact hB
        · rw [g8 5 (by omega) (by omega), g8 147 (by omega) (by omega), g8 148 (by omega) (by omega)]; exact hE
        · rw [l8 6 (by omega), l8 7 (by omega), l8 8 (by omega), l8 9 (by omega)]; exact rc5
        · show HU m8 (nrm (m8 147))
          rw [g8 147 (by omega) (by omega)]
          exact hu.congr (fun a a0 a1 => g8 a (by omega) (by omega))
      have sum := crease_sum rel.1
      rw [l8 6 (by omega), l8 9 (by omega)] at sum
      rw [← sum]
      exact hk _ _ rel
    · obtain ⟨er, el⟩ := RLL.uniq sk rll rll'
      have el' := el (by omega) (by omega)
      exact ⟨fun r0 => reachM e17 (by omega) (by omega) (fun rcM => absurd (fun q q0 q1 => by rw [el' q q0 q1]; exact rcM q q0 q1) rc) (fun _ => hk _ _ (idle f1 fo)), fun r0 => absurd er.symm r0⟩
  · obtain ⟨er, -⟩ := RLL.uniq sk rll rll'
    refine ⟨fun y => absurd (er.trans y) r0, fun _ => ⟨by omega, ?_⟩⟩
    rw [← er]
    exact hk _ _ (idle f1 fo)
end C10s
