/-! a sheet wraps a body: the reference tries one start -/
def lbM (m : tM) (k : Int) : Int := 4 * m 176 k + m 177 k
abbrev FRW (m m' : tM) : Prop := (∀ c, c ≠ 145 → c < 176 ∨ 179 < c → m' c = m c) ∧ (∀ j, j ≠ 21 → j ≠ 22 → j ≠ 23 → j ≠ 44 → m' 145 j = m 145 j)
theorem FRW.tr {m m1 m2 : tM} (h : FRW m m1) (g : FRW m1 m2) : FRW m m2 := ⟨fun c c1 c2 => by rw [g.1 c c1 c2, h.1 c c1 c2], fun j j1 j2 j3 j4 => by rw [g.2 j j1 j2 j3 j4, h.2 j j1 j2 j3 j4]⟩
/-- what is queued so far -/
def QI (n : Int) (c4 nb : Int → Int → Int) (L : Int → Int) (r st : Int) (m' : tM) (a d : Int) : Prop :=
  (1 ≤ m' 145 44 ∧ m' 145 44 ≤ n) ∧ (m' 179 0 = r ∧ lbM m' r = st) ∧ (∀ j, 0 ≤ j → j < m' 145 44 → 0 ≤ m' 179 j ∧ m' 179 j < n) ∧
  (∀ j l, 0 ≤ j → j < m' 145 44 → 0 ≤ l → l < m' 145 44 → m' 179 j = m' 179 l → j = l) ∧
  (∀ x, 0 ≤ x → x < n → (m' 176 x = -1 ↔ ¬ ∃ j, 0 ≤ j ∧ j < m' 145 44 ∧ m' 179 j = x)) ∧
  (∀ j, 0 ≤ j → j < m' 145 44 → DR n c4 nb L 0 r st (m' 179 j) (lbM m' (m' 179 j)) ∧ (0 ≤ m' 176 (m' 179 j) ∧ m' 176 (m' 179 j) < n) ∧ (0 ≤ m' 177 (m' 179 j) ∧ m' 177 (m' 179 j) < 4)) ∧
  (∀ j l, 0 ≤ j → j < m' 145 44 → 0 ≤ l → l < m' 145 44 → m' 176 (m' 179 j) = m' 176 (m' 179 l) → j = l) ∧
  (∀ q, 0 ≤ q → q < n → (m' 178 q = 0 ↔ ¬ ∃ j, 0 ≤ j ∧ j < m' 145 44 ∧ m' 176 (m' 179 j) = q)) ∧
  (∀ j e, 0 ≤ j → j < m' 145 44 → (j < a ∨ (j = a ∧ e < d)) → 0 ≤ e → e < 4 → c4 (m' 179 j) e ≠ 0 → (∃ l, 0 ≤ l ∧ l < m' 145 44 ∧ m' 179 l = nb (m' 179 j) e) ∧ lbM m' (nb (m' 179 j) e) = crW L 0 e (lbM m' (m' 179 j)))
theorem QI.congr {n : Int} {c4 nb : Int → Int → Int} {L : Int → Int} {r st : Int} {m m' : tM} {a d : Int} (h : QI n c4 nb L r st m a d) (e44 : m' 145 44 = m 145 44) (e6 : m' 176 = m 176) (e7 : m' 177 = m 177) (e8 : m' 178 = m 178) (e9 : m' 179 = m 179) : QI n c4 nb L r st m' a d := by
  have el : lbM m' = lbM m := by funext k; unfold lbM; rw [e6, e7]
  unfold QI
  rw [e44, e6, e7, e8, e9, el]
  exact h
/-- a new one -/
theorem QI.add {n : Int} {c4 nb : Int → Int → Int} {L B : Int → Int} {r st : Int} {m m' : tM} {a d : Int} (hg : GR n c4 nb) (hS : SKN n L B) (h : QI n c4 nb L r st m a d) (a0 : 0 ≤ a) (a1 : a < m 145 44) (d0 : 0 ≤ d) (d1 : d < 4) (hc : c4 (m 179 a) d ≠ 0) (ho : m 176 (nb (m 179 a) d) = -1) (hq : m 178 (crW L 0 d (lbM m (m 179 a)) / 4) = 0) (e44 : m' 145 44 = m 145 44 + 1) (e6 : m' 176 = ur (m 176) (nb (m 179 a) d) (crW L 0 d (lbM m (m 179 a)) / 4)) (e7 : m' 177 = ur (m 177) (nb (m 179 a) d) (crW L 0 d (lbM m (m 179 a)) % 4)) (e8 : m' 178 = ur (m 178) (crW L 0 d (lbM m (m 179 a)) / 4) 1) (e9 : m' 179 = ur (m 179) (m 145 44) (nb (m 179 a) d)) : m 145 44 < n ∧ QI n c4 nb L r st m' a (d + 1) := by
  obtain ⟨R, ⟨q0, qst⟩, rng, inj, six, lab, dif, tak, clo⟩ := h
  have oi := rng a a0 a1
  have nx := ((hg.2 (m 179 a) d oi.1 oi.2 d0 d1).2 hc).1
  have new := (six (nb (m 179 a) d) nx.1 nx.2).1 ho
  obtain ⟨da, s1, t1⟩ := lab a a0 a1
  have lr : 0 ≤ lbM m (m 179 a) ∧ lbM m (m 179 a) < 4 * n := by unfold lbM; omega
  have cr := crW_r hS (ov := 0) (d := d) lr.1 lr.2
  have eg : EG n c4 nb (m 179 a) d (nb (m 179 a) d) := ⟨oi.1, oi.2, d0, d1, hc, rfl⟩
  have dn := DR.st da eg
  have free := (tak (crW L 0 d (lbM m (m 179 a)) / 4) (by omega) (by omega)).1 hq
  generalize hX : nb (m 179 a) d = x at *
  generalize hY : crW L 0 d (lbM m (m 179 a)) = y at *
  generalize hR : m 145 44 = R' at *
  have at9 : ∀ j, j < R' → m' 179 j = m 179 j := fun j hj => by rw [e9, ur_ne _ _ (by omega)]
  have n9 : m' 179 R' = x := by rw [e9, ur_eq]
  have ne : ∀ j, 0 ≤ j → j < R' → m 179 j ≠ x := fun j j0 j1 w => new ⟨j, j0, j1, w⟩
  have o6 : ∀ j, 0 ≤ j → j < R' → m' 176 (m 179 j) = m 176 (m 179 j) := fun j j0 j1 => by rw [e6, ur_ne _ _ (ne j j0 j1)]
  have o7 : ∀ j, 0 ≤ j → j < R' → m' 177 (m 179 j) = m 177 (m 179 j) := fun j j0 j1 => by rw [e7, ur_ne _ _ (ne j j0 j1)]
  have x6 : m' 176 x = y / 4 := by rw [e6, ur_eq]
  have x7 : m' 177 x = y % 4 := by rw [e7, ur_eq]
  have ol : ∀ j, 0 ≤ j → j < R' → lbM m' (m 179 j) = lbM m (m 179 j) := fun j j0 j1 => by unfold lbM; rw [o6 j j0 j1, o7 j j0 j1]
  have xl : lbM m' x = y := by unfold lbM; rw [x6, x7]; omega
  have rng' : ∀ j, 0 ≤ j → j < R' + 1 → 0 ≤ m' 179 j ∧ m' 179 j < n := fun j j0 j1 => by
    by_cases q : j = R'
    · rw [q, n9]; exact nx
    · rw [at9 j (by omega)]; exact rng j j0 (by omega)
  have inj' : ∀ j l, 0 ≤ j → j < R' + 1 → 0 ≤ l → l < R' + 1 → m' 179 j = m' 179 l → j = l := fun j l j0 j1 l0 l1 q => by
    by_cases q1 : j = R'
    · by_cases q2 : l = R'
      · omega
      · rw [q1, n9, at9 l (by omega)] at q; exact absurd q.symm (ne l l0 (by omega))
    · by_cases q2 : l = R'
      · rw [q2, n9, at9 j (by omega)] at q; exact absurd q (ne j j0 (by omega))
      · rw [at9 j (by omega), at9 l (by omega)] at q; exact inj j l j0 (by omega) l0 (by omega) q
  have le : R' + 1 ≤ n := by
    rcases row_le (by omega) rng' inj' with q | q
    · exact q
    · omega
  refine ⟨by omega, ?_⟩
  unfold QI
  rw [e44]
  refine ⟨by omega, ⟨by rw [at9 0 (by omega)]; exact q0, ?_⟩, rng', inj', fun z z0 z1 => ?_, fun j j0 j1 => ?_, fun j l j0 j1 l0 l1 q => ?_, fun q q0' q1' => ?_, fun j e j0 j1 hj e0 e1 hcc => ?_⟩
  · have := ol 0 (by omega) (by omega)
    rw [q0] at this
    rw [this]; exact qst
  · by_cases q : z = x
    · rw [q, x6]
      exact ⟨fun w => by omega, fun w => absurd ⟨R', by omega, by omega, n9⟩ w⟩
    · rw [e6, ur_ne _ _ q, six z z0 z1]
      constructor
      · rintro w ⟨j, j0, j1, j2⟩
        by_cases v : j = R'
        · rw [v, n9] at j2; exact q j2.symm
        · rw [at9 j (by omega)] at j2; exact w ⟨j, j0, by omega, j2⟩
      · rintro w ⟨j, j0, j1, j2⟩
        exact w ⟨j, j0, by omega, by rw [at9 j j1]; exact j2⟩
  · by_cases q : j = R'
    · rw [q, n9, xl, x6, x7]
      exact ⟨dn, by omega, by omega⟩
    · rw [at9 j (by omega), ol j j0 (by omega), o6 j j0 (by omega), o7 j j0 (by omega)]
      exact lab j j0 (by omega)
  · by_cases q1 : j = R'
    · by_cases q2 : l = R'
      · omega
      · rw [q1, n9, x6, at9 l (by omega), o6 l l0 (by omega)] at q
        exact absurd ⟨l, l0, by omega, q.symm⟩ free
    · by_cases q2 : l = R'
      · rw [q2, n9, x6, at9 j (by omega), o6 j j0 (by omega)] at q
        exact absurd ⟨j, j0, by omega, q⟩ free
      · rw [at9 j (by omega), at9 l (by omega), o6 j j0 (by omega), o6 l l0 (by omega)] at q
        exact dif j l j0 (by omega) l0 (by omega) q
  · by_cases w : q = y / 4
    · rw [w, e8, ur_eq]
      exact ⟨fun z => by omega, fun z => absurd ⟨R', by omega, by omega, by rw [n9, x6]⟩ z⟩
    · rw [e8, ur_ne _ _ w, tak q q0' q1']
      constructor
      · rintro z ⟨j, j0, j1, j2⟩
        by_cases v : j = R'
        · rw [v, n9, x6] at j2; exact w j2.symm
        · rw [at9 j (by omega), o6 j j0 (by omega)] at j2; exact z ⟨j, j0, by omega, j2⟩
      · rintro z ⟨j, j0, j1, j2⟩
        exact z ⟨j, j0, by omega, by rw [at9 j j1, o6 j j0 j1]; exact j2⟩
  · have jR : j < R' := by omega
    rw [at9 j jR] at hcc ⊢
    by_cases w : j = a ∧ e = d
    · rw [w.1, w.2, hX, xl, ol a a0 a1]
      exact ⟨⟨R', by omega, by omega, n9⟩, hY.symm⟩
    · obtain ⟨⟨l, l0, l1, l2⟩, g⟩ := clo j e j0 jR (by omega) e0 e1 hcc
      refine ⟨⟨l, l0, by omega, by rw [at9 l l1]; exact l2⟩, ?_⟩
      rw [← l2, ol l l0 l1, ol j j0 jR, l2]
      exact g
section C11c
variable {m : tM} {c L B : Int → Int} {n : Int}
theorem c_wrapAcross {s : SS} {k d : Int} {K : Int → tM → Prop} (hr : RepM (m 145 4) (m 149) (m 150) (m 151) (m 152) s) (hw : WF s) (hn : m 145 4 = n) (en : n = oN c 384) (hc : CE m c) (hN : NS c 384 (m 158) (m 159) (m 160)) (hL : LDS c (4 * oN c 384) L B) (k0 : 0 ≤ k) (k1 : k < n) (d0 : 0 ≤ d) (d1 : d < 4) (he : cG s (m 149) (m 150) k d ≠ 0) (q0 : 0 ≤ m 176 k ∧ m 176 k < n) (t0 : 0 ≤ m 177 k ∧ m 177 k < 4) (h44 : 0 ≤ m 145 44) (h44' : m 176 (nG n (m 149) (m 150) k d) = -1 → m 178 (crW L 0 d (lbM m k) / 4) = 0 → m 145 44 < n) (hold : m 176 (nG n (m 149) (m 150) k d) ≠ -1 → ∀ m', FRW m m' → m' 145 44 = m 145 44 → (∀ x, 176 ≤ x → x ≤ 179 → m' x = m x) → (lbM m (nG n (m 149) (m 150) k d) = crW L 0 d (lbM m k) → K 0 m') ∧ (lbM m (nG n (m 149) (m 150) k d) ≠ crW L 0 d (lbM m k) → K 2 m')) (hnr : m 176 (nG n (m 149) (m 150) k d) ≠ -1 → (0 ≤ m 177 (nG n (m 149) (m 150) k d) ∧ m 177 (nG n (m 149) (m 150) k d) < 4)) (htak : m 176 (nG n (m 149) (m 150) k d) = -1 → m 178 (crW L 0 d (lbM m k) / 4) ≠ 0 → ∀ m', FRW m m' → K 2 m') (hnew : m 176 (nG n (m 149) (m 150) k d) = -1 → m 178 (crW L 0 d (lbM m k) / 4) = 0 → ∀ m', FRW m m' → m' 145 44 = m 145 44 + 1 → m' 176 = ur (m 176) (nG n (m 149) (m 150) k d) (crW L 0 d (lbM m k) / 4) → m' 177 = ur (m 177) (nG n (m 149) (m 150) k d) (crW L 0 d (lbM m k) % 4) → m' 178 = ur (m 178) (crW L 0 d (lbM m k) / 4) 1 → m' 179 = ur (m 179) (m 145 44) (nG n (m 149) (m 150) k d) → K 1 m') : Cli mX12_wrapAcross [rV 145, iV k, iV d] m K := by
  have n0 := hr.1.1
  have n1 := hr.1.2.1
  have rr := hr.1.rch hw
  have nx := (nG_in hr.1 hw d0 d1 he).1
  obtain ⟨p, di, p0, di0, ho, eq, -⟩ := sq_ex (c := c) q0.1 (by omega)
  generalize hsd : (d - m 177 k + 4) % 4 = sd
  have s0 : 0 ≤ sd ∧ sd < 4 := by omega
  have cr := cr_r p0.1 p0.2 di0.1 di0.2 s0.1 s0.2 ho
  have ob := oN_384 c cr.1.1 cr.1.2 cr.2.1.1 cr.2.1.2 cr.2.2.2.1
  have l := (hL.at p0 di0 s0 ho).1
  rw [eq] at l
  have t := cr.2.2.1
  have el : lbM m k / 4 = m 176 k := by unfold lbM; omega
  have et : lbM m k % 4 = m 177 k := by unfold lbM; omega
  have esd : sdW 0 d (lbM m k) = sd := by unfold sdW lkW; rw [if_pos rfl, et]; omega
  have ecr : crW L 0 d (lbM m k) = 4 * oN c (sq (cP c p di sd) (cD c p di sd)) + (d + 2 - cS c p di sd) % 4 := by
    unfold crW
    rw [el, esd, l, show lkW 0 d = d from if_pos rfl]
    omega
  refine wX12_wrapAcross_0 ⟨⟨k0, by omega, by constructor <;> omega, by constructor <;> omega, by omega⟩, ?_⟩
  rw [hsd]
  refine c_findAcross hc hN p0.1 p0.2 di0.1 di0.2 s0.1 s0.2 ho eq.symm (fun m1 fa => ?_)
  obtain ⟨a1, a2, a3, a4, a5⟩ := fa
  have fr1 : FRW m m1 := ⟨fun x x1 _ => a1 x x1, fun j j1 j2 j3 _ => a2 j j1 j2 j3⟩
  have e14 : m1 145 4 = m 145 4 := a2 4 (by omega) (by omega) (by omega)
  have e44 : m1 145 44 = m 145 44 := a2 44 (by omega) (by omega) (by omega)
  have e149 : m1 149 = m 149 := a1 149 (by omega)
  have e150 : m1 150 = m 150 := a1 150 (by omega)
  have e176 : m1 176 = m 176 := a1 176 (by omega)
  have e177 : m1 177 = m 177 := a1 177 (by omega)
  have e178 : m1 178 = m 178 := a1 178 (by omega)
  have e179 : m1 179 = m 179 := a1 179 (by omega)
  rw [a4]
  refine ⟨⟨by constructor <;> omega, by constructor <;> omega, by constructor <;> omega, by omega⟩, c_neighbour (by rw [e14]; exact n0) (by rw [e14]; exact n1) (by rw [e14, e149, e150]; exact hr.1.2.2.1) (by rw [e14, e149, e150]; exact rr) k0 (by rw [e14, hn]; exact k1) ?_⟩
  have en' : nbr (m1 145 4) (m1 149) (m1 150) k d = nG n (m 149) (m 150) k d := by rw [e14, e149, e150, hn]; rfl
  rw [en', a3, e44, e176, e177, e178]
  rw [hn] at nx
  generalize nG n (m 149) (m 150) k d = o at *
  have eqq : crW L 0 d (lbM m k) / 4 = oN c (sq (cP c p di sd) (cD c p di sd)) := by rw [ecr]; omega
  have eqt : crW L 0 d (lbM m k) % 4 = (d + 2 - cS c p di sd + 4) % 4 := by rw [ecr]; omega
  rw [eqq] at h44' htak hnew
  rw [eqt] at hnew
  refine ⟨⟨nx.1, by omega⟩, fun g => ⟨⟨ob.1, ob.2.2⟩, fun g2 => ⟨⟨h44, by have := h44' g g2; omega, by have := h44' g g2; constructor <;> omega⟩, _, rfl, hnew g g2 _ ⟨fun x x1 x2 => ?_, fun j j1 j2 j3 j4 => ?_⟩ ?_ ?_ ?_ ?_ ?_⟩, fun g2 => ⟨_, rfl, htak g g2 m1 fr1⟩⟩, fun g => ?_⟩
  · rw [up_ne _ _ _ x1, up_ne _ _ _ (by omega), up_ne _ _ _ (by omega), up_ne _ _ _ (by omega), up_ne _ _ _ (by omega), a1 x x1]
  · rw [up_at_ne _ _ _ j4, up_ne _ _ _ (by omega), up_ne _ _ _ (by omega), up_ne _ _ _ (by omega), up_ne _ _ _ (by omega), a2 j j1 j2 j3]
  · rw [up_at]
  · rw [up_ne _ _ _ (by omega), up_ne _ _ _ (by omega), up_ne _ _ _ (by omega)]
    show sr _ 176 (ur ((up m1 178 _ 1) 176) o _) 176 = _
    rw [sr_eq, up_ne _ _ _ (by omega), e176]
  · rw [up_ne _ _ _ (by omega), up_ne _ _ _ (by omega)]
    show sr _ 177 (ur ((up (up m1 178 _ 1) 176 o _) 177) o _) 177 = _
    rw [sr_eq, up_ne _ _ _ (by omega), up_ne _ _ _ (by omega), e177]
  · rw [up_ne _ _ _ (by omega), up_ne _ _ _ (by omega), up_ne _ _ _ (by omega), up_ne _ _ _ (by omega)]
    show sr _ 178 (ur (m1 178) _ 1) 178 = _
    rw [sr_eq, e178]
  · rw [up_ne _ _ _ (by omega)]
    show sr _ 179 (ur ((up (up (up m1 178 _ 1) 176 o _) 177 o _) 179) _ o) 179 = _
    rw [sr_eq, up_ne _ _ _ (by omega), up_ne _ _ _ (by omega), up_ne _ _ _ (by omega), e179]
  · obtain ⟨k0', k2'⟩ := hold g m1 fr1 e44 (fun x x1 x2 => a1 x (by omega))
    have tr := hnr g
    have lo : lbM m o = 4 * m 176 o + m 177 o := rfl
    rw [ecr, lo] at k0' k2'
    refine ⟨fun g1 v hv => ⟨_, rfl, ?_⟩, fun g1 => ⟨_, rfl, k2' (fun z => g1 (by omega))⟩⟩
    by_cases g2 : m 177 o = (d + 2 - cS c p di sd + 4) % 4
    · rw [if_pos g2] at hv
      rw [hv]
      exact k0' (by omega)
    · rw [if_neg g2] at hv
      rw [hv]
      exact k2' (fun z => g2 (by omega))
end C11c
