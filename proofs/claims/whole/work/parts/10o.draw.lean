/-! a skin is drawn as a sheet: the class -/
def vL (B ct : Int → Int) (q e : Int) : Int := if ct (4 * q + e) = 0 then 2 + B (4 * q + e) else 0
def drL (lab : Int → L3) (q e : Int) : Int := (e + (lab q).2.2) % 4
/-- the sheet that is drawn of labels -/
def DRW (n : Int) (B ct : Int → Int) (lab : Int → L3) (s : SS) : Prop := (∀ x y, s.1 x y ↔ ∃ q, 0 ≤ q ∧ q < n ∧ (lab q).1 = x ∧ (lab q).2.1 = y) ∧ (∀ q e, 0 ≤ q → q < n → 0 ≤ e → e < 4 → s4 s (lab q).1 (lab q).2.1 (drL lab q e) = vL B ct q e)
/-- what holds of labels that agree and don't overlap -/
def OKL (n : Int) (L B ct : Int → Int) (lab : Int → L3) : Prop := SKN n L B ∧ CNS n (ucL ct) (aqL L) (crL L) lab ∧ ¬ OVL3 n lab ∧ (∀ q, 0 ≤ q → q < n → (0 ≤ (lab q).2.2 ∧ (lab q).2.2 < 4) ∧ (-30 ≤ (lab q).1 ∧ (lab q).1 ≤ 30) ∧ (-30 ≤ (lab q).2.1 ∧ (lab q).2.1 ≤ 30)) ∧ (∀ q e, 0 ≤ q → q < n → 0 ≤ e → e < 4 → ct (L (4 * q + e)) = ct (4 * q + e))
theorem OKL.inj {n : Int} {L B ct : Int → Int} {lab : Int → L3} (h : OKL n L B ct lab) {a b : Int} (a0 : 0 ≤ a) (a1 : a < n) (b0 : 0 ≤ b) (b1 : b < n) (ex : (lab a).1 = (lab b).1) (ey : (lab a).2.1 = (lab b).2.1) : a = b := by
  rcases Int.lt_trichotomy a b with q | q | q
  · exact absurd ⟨b, a, a0, q, b1, ex.symm, ey.symm⟩ h.2.2.1
  · exact q
  · exact absurd ⟨a, b, b0, q, a1, ex, ey⟩ h.2.2.1
/-- what lies across an uncut side -/
theorem OKL.ac {n : Int} {L B ct : Int → Int} {lab : Int → L3} (h : OKL n L B ct lab) {q e : Int} (q0 : 0 ≤ q) (q1 : q < n) (e0 : 0 ≤ e) (e1 : e < 4) (hc : ct (4 * q + e) = 0) : (0 ≤ L (4 * q + e) / 4 ∧ L (4 * q + e) / 4 < n) ∧ (lab (L (4 * q + e) / 4)).1 = (lab q).1 + dX (drL lab q e) ∧ (lab (L (4 * q + e) / 4)).2.1 = (lab q).2.1 + dY (drL lab q e) ∧ drL lab (L (4 * q + e) / 4) (L (4 * q + e) % 4) = (drL lab q e + 2) % 4 ∧ vL B ct (L (4 * q + e) / 4) (L (4 * q + e) % 4) = vL B ct q e := by
  obtain ⟨sk, cn, -, -, cs⟩ := h
  obtain ⟨r, -, -, bb⟩ := sk q e q0 q1 e0 e1
  have c := cn q e (L (4 * q + e) / 4) ⟨q0, q1, e0, e1, ucL_e.2 hc, rfl⟩
  have cx : (lab (L (4 * q + e) / 4)).1 = (lab q).1 + dX ((e + (lab q).2.2) % 4) := by rw [c]; rfl
  have cy : (lab (L (4 * q + e) / 4)).2.1 = (lab q).2.1 + dY ((e + (lab q).2.2) % 4) := by rw [c]; rfl
  have ctn : (lab (L (4 * q + e) / 4)).2.2 = (e + (lab q).2.2 + 2 - L (4 * q + e) % 4) % 4 := by rw [c]; rfl
  refine ⟨r, cx, cy, ?_, ?_⟩
  · unfold drL
    rw [ctn]
    omega
  · unfold vL
    rw [show 4 * (L (4 * q + e) / 4) + L (4 * q + e) % 4 = L (4 * q + e) by omega, cs q e q0 q1 e0 e1, bb]
theorem vL_r {n : Int} {L B ct : Int → Int} {lab : Int → L3} (h : OKL n L B ct lab) {q e : Int} (q0 : 0 ≤ q) (q1 : q < n) (e0 : 0 ≤ e) (e1 : e < 4) : 0 ≤ vL B ct q e ∧ vL B ct q e ≤ 3 ∧ (ct (4 * q + e) = 0 → vL B ct q e = 2 + B (4 * q + e)) := by
  have b := (h.1 q e q0 q1 e0 e1).2.2.1
  unfold vL
  split
  · exact ⟨by omega, by omega, fun _ => rfl⟩
  · rename_i z
    exact ⟨by omega, by omega, fun w => absurd w z⟩
section C10o
variable {m : tM} {n : Int} {L B ct : Int → Int}
/-- as far as it is drawn: every crease is right, or none yet -/
def DI (n : Int) (B ct : Int → Int) (lab : Int → L3) (s : SS) (x : Int) : Prop := WF s ∧ (∀ x y, s.1 x y ↔ ∃ q, 0 ≤ q ∧ q < n ∧ (lab q).1 = x ∧ (lab q).2.1 = y) ∧ (∀ q e, 0 ≤ q → q < n → 0 ≤ e → e < 4 → s4 s (lab q).1 (lab q).2.1 (drL lab q e) = 0 ∨ s4 s (lab q).1 (lab q).2.1 (drL lab q e) = vL B ct q e) ∧ (∀ q e, 0 ≤ q → q < n → 0 ≤ e → e < 4 → 4 * q + e < x → s4 s (lab q).1 (lab q).2.1 (drL lab q e) = vL B ct q e)
theorem DI.cut {lab : Int → L3} {s : SS} {q e : Int} (h : DI n B ct lab s (4 * q + e)) (e0 : 0 ≤ e) (e1 : e < 4) (hc : ct (4 * q + e) ≠ 0) : DI n B ct lab s (4 * q + (e + 1)) := by
  obtain ⟨a, b, c, d⟩ := h
  refine ⟨a, b, c, fun q' e' q0' q1' e0' e1' hx => ?_⟩
  by_cases w : 4 * q' + e' = 4 * q + e
  · have w1 : q' = q := by omega
    have w2 : e' = e := by omega
    have z : vL B ct q' e' = 0 := by unfold vL; rw [w, if_neg hc]
    rcases c q' e' q0' q1' e0' e1' with y | y
    · rw [y, z]
    · exact y
  · exact d q' e' q0' q1' e0' e1' (by omega)
theorem DI.join {lab : Int → L3} {s : SS} {q e : Int} (ok : OKL n L B ct lab) (h : DI n B ct lab s (4 * q + e)) (q0 : 0 ≤ q) (q1 : q < n) (e0 : 0 ≤ e) (e1 : e < 4) (hc : ct (4 * q + e) = 0) : DI n B ct lab (setS s (lab q).1 (lab q).2.1 (drL lab q e) (vL B ct q e)) (4 * q + (e + 1)) := by
  obtain ⟨a, b, c, d⟩ := h
  obtain ⟨r, ax, ay, ad, av⟩ := ok.ac q0 q1 e0 e1 hc
  have vr := vL_r ok q0 q1 e0 e1
  have dr : 0 ≤ drL lab q e ∧ drL lab q e < 4 := by unfold drL; omega
  have s4e : ∀ q' e', 0 ≤ q' → q' < n → 0 ≤ e' → e' < 4 → s4 (setS s (lab q).1 (lab q).2.1 (drL lab q e) (vL B ct q e)) (lab q').1 (lab q').2.1 (drL lab q' e') = if (4 * q' + e' = 4 * q + e) ∨ (4 * q' + e' = L (4 * q + e)) then vL B ct q e else s4 s (lab q').1 (lab q').2.1 (drL lab q' e') := fun q' e' q0' q1' e0' e1' => by
    have dr' : 0 ≤ drL lab q' e' ∧ drL lab q' e' < 4 := by unfold drL; omega
    rw [s4_set s dr.1 dr.2 dr'.1 dr'.2]
    refine if_iff ⟨?_, ?_⟩
    · rintro (⟨x1, x2, x3⟩ | ⟨x1, x2, x3⟩)
      · have w := ok.inj q0' q1' q0 q1 x1 x2
        subst w
        unfold drL at x3
        exact Or.inl (by omega)
      · have w := ok.inj q0' q1' r.1 r.2 (by rw [x1, ax]) (by rw [x2, ay])
        rw [← ad, w] at x3
        unfold drL at x3
        exact Or.inr (by omega)
    · rintro (x | x)
      · have w1 : q' = q := by omega
        have w2 : e' = e := by omega
        exact Or.inl ⟨by rw [w1], by rw [w1], by rw [w1, w2]⟩
      · have w1 : q' = L (4 * q + e) / 4 := by omega
        have w2 : e' = L (4 * q + e) % 4 := by omega
        exact Or.inr ⟨by rw [w1, ax], by rw [w1, ay], by rw [w1, w2, ad]⟩
  have val : ∀ q' e', 0 ≤ e' → e' < 4 → ((4 * q' + e' = 4 * q + e) ∨ (4 * q' + e' = L (4 * q + e))) → vL B ct q e = vL B ct q' e' := fun q' e' e0' e1' x => by
    rcases x with x | x
    · have w1 : q' = q := by omega
      have w2 : e' = e := by omega
      rw [w1, w2]
    · have w1 : q' = L (4 * q + e) / 4 := by omega
      have w2 : e' = L (4 * q + e) % 4 := by omega
      rw [w1, w2, av]
  refine ⟨a.set dr.1 dr.2 vr.1 vr.2.1 (fun _ => ⟨(b _ _).2 ⟨q, q0, q1, rfl, rfl⟩, (b _ _).2 ⟨_, r.1, r.2, ax, ay⟩⟩), ?_, fun q' e' q0' q1' e0' e1' => ?_, fun q' e' q0' q1' e0' e1' hx => ?_⟩
  · rw [setS_1]; exact b
  · rw [s4e q' e' q0' q1' e0' e1']
    by_cases w : (4 * q' + e' = 4 * q + e) ∨ (4 * q' + e' = L (4 * q + e))
    · rw [if_pos w]; exact Or.inr (val q' e' e0' e1' w)
    · rw [if_neg w]; exact c q' e' q0' q1' e0' e1'
  · rw [s4e q' e' q0' q1' e0' e1']
    by_cases w : (4 * q' + e' = 4 * q + e) ∨ (4 * q' + e' = L (4 * q + e))
    · rw [if_pos w]; exact val q' e' e0' e1' w
    · rw [if_neg w]; exact d q' e' q0' q1' e0' e1' (by omega)
end C10o
