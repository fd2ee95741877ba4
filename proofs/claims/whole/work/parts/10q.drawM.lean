/-! a skin is drawn as a sheet: the reference -/
abbrev FR4 (m m' : tM) : Prop := (∀ c, c ≠ 145 → c < 149 ∨ 152 < c → m' c = m c) ∧ (∀ j, j ≠ 21 → j ≠ 22 → j ≠ 23 → m' 145 j = m 145 j)
section C10q
variable {m : tM} {c L B ct : Int → Int} {n : Int}
theorem draw_row {K : Int → tM → Prop} {k : Int} (hc : CE m c) (hN : NS c 384 (m 158) (m 159) (m 160)) (hL : LDS c (4 * oN c 384) L B) (en : n = oN c 384) (n1 : n ≤ 60) (hct : m 148 = ct) (k0 : 0 ≤ k) (k1 : k < n) (ht : 0 ≤ m 164 k ∧ m 164 k < 4) (hB : ∀ e, 0 ≤ e → e < 4 → -1 ≤ B (4 * k + e) ∧ B (4 * k + e) ≤ 1) (z1 : m 151 k = 0) (z2 : m 152 k = 0) (h : ∀ m', FR4 m m' → (∀ j, j ≠ k → m' 151 j = m 151 j ∧ m' 152 j = m 152 j) → m' 149 = m 149 → m' 150 = m 150 → m' 151 k = vL B ct k ((0 - m 164 k) % 4) → m' 152 k = vL B ct k ((1 - m 164 k) % 4) → Tj mX12_open 110 [some (rV 145), none, some (iV (k + 1))] [] m' (fun r m' => ∃ x, r = some (iV x) ∧ K x m')) : Tj mX12_open 158 [some (rV 145), none, some (iV k), some (iV 0)] [] m (fun r m' => ∃ x, r = some (iV x) ∧ K x m') := by
  obtain ⟨p, d, p0, d0, ho, eq, -⟩ := sq_ex (c := c) k0 (by omega)
  have key := up_ind (n := 4) (fun e => ∀ m', FR4 m m' → (∀ j, j ≠ k → m' 151 j = m 151 j ∧ m' 152 j = m 152 j) → m' 149 = m 149 → m' 150 = m 150 → m' 151 k = (if (0 - m 164 k) % 4 < e then vL B ct k ((0 - m 164 k) % 4) else 0) → m' 152 k = (if (1 - m 164 k) % 4 < e then vL B ct k ((1 - m 164 k) % 4) else 0) → Tj mX12_open 158 [some (rV 145), none, some (iV k), some (iV e)] [] m' (fun r m' => ∃ x, r = some (iV x) ∧ K x m')) ?_ ?_ (i := 0) (by omega) (by omega)
  · exact key m ⟨fun _ _ _ => rfl, fun _ _ _ _ => rfl⟩ (fun _ _ => ⟨rfl, rfl⟩) rfl rfl (by rw [if_neg (by omega)]; exact z1) (by rw [if_neg (by omega)]; exact z2)
  · intro m' fr ot e1 e2 r1 r2
    rw [if_pos (by omega)] at r1 r2
    exact wX12_open_158 ⟨fun g => by omega, fun _ => ⟨by constructor <;> omega, h m' fr ot e1 e2 r1 r2⟩⟩
  · intro e e0 e1 ih m' fr ot q1 q2 r1 r2
    have e164 : m' 164 = m 164 := fr.1 164 (by omega) (by omega)
    have e148 : m' 148 = ct := by rw [fr.1 148 (by omega) (by omega), hct]
    have be := hB e e0 e1
    -- nothing is written
    have skip : ((0 - m 164 k) % 4 = e → vL B ct k e = 0) → ((1 - m 164 k) % 4 = e → vL B ct k e = 0) → Tj mX12_open 158 [some (rV 145), none, some (iV k), some (iV (e + 1))] [] m' (fun r m' => ∃ x, r = some (iV x) ∧ K x m') := fun s1 s2 => ih m' fr ot q1 q2 (by
        rw [r1]
        by_cases w : (0 - m 164 k) % 4 = e
        · rw [if_neg (by omega), if_pos (by omega), w, s1 w]
        · by_cases w2 : (0 - m 164 k) % 4 < e
          · rw [if_pos w2, if_pos (by omega)]
          · rw [if_neg w2, if_neg (by omega)]) (by
        rw [r2]
        by_cases w : (1 - m 164 k) % 4 = e
        · rw [if_neg (by omega), if_pos (by omega), w, s2 w]
        · by_cases w2 : (1 - m 164 k) % 4 < e
          · rw [if_pos w2, if_pos (by omega)]
          · rw [if_neg w2, if_neg (by omega)])
    refine wX12_open_158 ⟨fun _ => ?_, fun g => absurd e1 g⟩
    rw [e164, e148]
    refine ⟨⟨k0, by omega, by constructor <;> omega, by omega, by constructor <;> omega, by constructor <;> omega, by omega, by omega⟩, fun g1 => ⟨fun g2 => ?_, fun g2 => ⟨by constructor <;> omega, skip (fun w => by omega) (fun w => by omega)⟩⟩, fun g1 => ⟨by constructor <;> omega, skip (fun _ => by unfold vL; rw [if_neg g1]) (fun _ => by unfold vL; rw [if_neg g1])⟩⟩
    have ve : vL B ct k e = 2 + B (4 * k + e) := by unfold vL; rw [if_pos g1]
    refine c_findAcross (c := c) (fun q q0 q1 => by rw [fr.1 147 (by omega) (by omega)]; exact hc q q0 q1) (by rw [fr.1 158 (by omega) (by omega), fr.1 159 (by omega) (by omega), fr.1 160 (by omega) (by omega)]; exact hN) p0.1 p0.2 d0.1 d0.2 e0 e1 ho eq.symm (fun m1 fa => ?_)
    obtain ⟨a1, a2, a3, a4, a5⟩ := fa
    have hb : m1 145 23 = B (4 * k + e) := by
      rw [a5, ← (hL.at p0 d0 ⟨e0, e1⟩ ho).2, eq]
    rw [hb]
    -- both rows are written
    have wr : ∀ u v, u = (if (0 - m 164 k) % 4 = e then vL B ct k e else m' 151 k) → v = (if (1 - m 164 k) % 4 = e then vL B ct k e else m' 152 k) → Tj mX12_open 158 [some (rV 145), none, some (iV k), some (iV (e + 1))] [] (up (up m1 151 k u) 152 k v) (fun r m' => ∃ x, r = some (iV x) ∧ K x m') := fun u v hu hv => by
      refine ih _ ⟨fun x x1 x2 => by rw [up_ne _ _ _ (by omega), up_ne _ _ _ (by omega), a1 x x1, fr.1 x x1 x2], fun j j1 j2 j3 => by rw [up_ne _ _ _ (by omega), up_ne _ _ _ (by omega), a2 j j1 j2 j3, fr.2 j j1 j2 j3]⟩ (fun j hj => ?_) (by rw [up_ne _ _ _ (by omega), up_ne _ _ _ (by omega), a1 149 (by omega), q1]) (by rw [up_ne _ _ _ (by omega), up_ne _ _ _ (by omega), a1 150 (by omega), q2]) ?_ ?_
      · rw [up_ne _ _ _ (show 151 ≠ 152 by omega), up_at_ne _ _ _ hj, up_at_ne _ _ _ hj, up_ne _ _ _ (show 152 ≠ 151 by omega), a1 151 (by omega), a1 152 (by omega)]
        exact ot j hj
      · rw [up_ne _ _ _ (by omega), up_at, hu, r1]
        by_cases w : (0 - m 164 k) % 4 = e
        · rw [if_pos w, if_pos (by omega), w]
        · rw [if_neg w]
          by_cases w2 : (0 - m 164 k) % 4 < e
          · rw [if_pos w2, if_pos (by omega)]
          · rw [if_neg w2, if_neg (by omega)]
      · rw [up_at, hv, r2]
        by_cases w : (1 - m 164 k) % 4 = e
        · rw [if_pos w, if_pos (by omega), w]
        · rw [if_neg w]
          by_cases w2 : (1 - m 164 k) % 4 < e
          · rw [if_pos w2, if_pos (by omega)]
          · rw [if_neg w2, if_neg (by omega)]
    have e151 : m1 151 = m' 151 := a1 151 (by omega)
    have e152 : m1 152 = m' 152 := a1 152 (by omega)
    refine ⟨fun g3 => ⟨⟨by constructor <;> omega, by omega, by constructor <;> omega⟩, wr _ _ ?_ ?_⟩, fun g3 => ⟨by omega, fun g4 => ⟨⟨by constructor <;> omega, by constructor <;> omega⟩, wr _ _ ?_ ?_⟩, fun g4 => absurd (by omega) g4⟩⟩
    · rw [if_pos (by omega), ve]
    · rw [if_neg (by omega), e152]
    · rw [if_neg (by omega), e151]
    · rw [if_pos (by omega), ve]
theorem draw_all {K : Int → tM → Prop} (hc : CE m c) (hN : NS c 384 (m 158) (m 159) (m 160)) (hL : LDS c (4 * oN c 384) L B) (en : n = oN c 384) (n1 : n ≤ 60) (hct : m 148 = ct) (hn : m 145 17 = n) (h4 : m 145 4 = n) (ok : OKL n L B ct (labL m)) {s : SS} (hw : WF s) (hd : DRW n B ct (labL m) s) (h : ∀ m', FR4 m m' → RepM (m' 145 4) (m' 149) (m' 150) (m' 151) (m' 152) s → K (sm (fun k => nz (m' 151 k) + nz (m' 152 k)) (m' 145 4).toNat) m') : Tj mX12_open 110 [some (rV 145), none, some (iV 0)] [] m (fun r m' => ∃ x, r = some (iV x) ∧ K x m') := by
  have n0 : 0 ≤ n := by rw [en]; exact (oN_bound c 384).1
  have tn : ∀ k, 0 ≤ k → k < n → 0 ≤ m 164 k ∧ m 164 k < 4 := fun k k0 k1 => (ok.2.2.2.1 k k0 k1).1
  have key := up_ind (n := n) (fun k => ∀ m', FR4 m m' → (∀ j, 0 ≤ j → j < k → m' 149 j = m 162 j ∧ m' 150 j = m 163 j ∧ m' 151 j = vL B ct j ((0 - m 164 j) % 4) ∧ m' 152 j = vL B ct j ((1 - m 164 j) % 4)) → Tj mX12_open 110 [some (rV 145), none, some (iV k)] [] m' (fun r m' => ∃ x, r = some (iV x) ∧ K x m')) ?_ ?_ (i := 0) (by omega) n0
  · exact key m ⟨fun _ _ _ => rfl, fun _ _ _ _ => rfl⟩ (fun j j0 j1 => by omega)
  · intro m' fr rows
    have e17 : m' 145 17 = n := by rw [fr.2 17 (by omega) (by omega) (by omega), hn]
    have e4 : m' 145 4 = n := by rw [fr.2 4 (by omega) (by omega) (by omega), h4]
    refine wX12_open_110 ⟨fun g => absurd g (by rw [e17]; omega), fun _ => c_sort (by rw [e4]; exact n0) (by rw [e4]; exact n1) (fun i j i0 i1 j0 j1 ex ey => ?_) (fun m2 so => ?_)⟩
    · rw [e4] at i1 j1
      have a := rows i i0 i1
      have b := rows j j0 j1
      exact ok.inj i0 i1 j0 j1 (show m 162 i = m 162 j by rw [← a.1, ← b.1]; exact ex) (show m 163 i = m 163 j by rw [← a.2.1, ← b.2.1]; exact ey)
    · obtain ⟨s1, s2, s3⟩ := so
      rw [e4] at s2 s3
      have e24 : m2 145 4 = n := by rw [s1 145 (by omega), e4]
      have rep : RepM n (m2 149) (m2 150) (m2 151) (m2 152) s := RepM.sort n0 n1 s2 s3 (fun x y => by
        rw [hd.1]
        constructor
        · rintro ⟨q, q0, q1, q2, q3⟩
          have a := rows q q0 q1
          exact ⟨q, q0, q1, by rw [a.1]; exact q2, by rw [a.2.1]; exact q3⟩
        · rintro ⟨q, q0, q1, q2, q3⟩
          have a := rows q q0 q1
          exact ⟨q, q0, q1, by rw [a.1] at q2; exact q2, by rw [a.2.1] at q3; exact q3⟩) (fun k k0 k1 => by
        have a := rows k k0 k1
        have t := tn k k0 k1
        rw [a.1, a.2.1, a.2.2.1, a.2.2.2]
        have d1 := hd.2 k ((0 - m 164 k) % 4) k0 k1 (by omega) (by omega)
        have d2 := hd.2 k ((1 - m 164 k) % 4) k0 k1 (by omega) (by omega)
        have z1 : drL (labL m) k ((0 - m 164 k) % 4) = 0 := by
          show ((0 - m 164 k) % 4 + m 164 k) % 4 = 0
          omega
        have z2 : drL (labL m) k ((1 - m 164 k) % 4) = 1 := by
          show ((1 - m 164 k) % 4 + m 164 k) % 4 = 1
          omega
        rw [z1] at d1
        rw [z2] at d2
        exact ⟨d1.symm, d2.symm⟩)
      refine c_creases (by rw [e24]; exact n0) (by rw [e24]; exact n1) ⟨_, rfl, h m2 ⟨fun x x1 x2 => by rw [s1 x (by omega), fr.1 x x1 x2], fun j j1 j2 j3 => by rw [s1 145 (by omega), fr.2 j j1 j2 j3]⟩ (by rw [e24]; exact rep)⟩
  · intro k k0 k1 ih m' fr rows
    have e17 : m' 145 17 = n := by rw [fr.2 17 (by omega) (by omega) (by omega), hn]
    refine wX12_open_110 ⟨fun _ => ⟨⟨k0, by omega, by omega⟩, ?_⟩, fun g => absurd (by rw [e17]; exact k1) g⟩
    rw [show m' 162 = m 162 from fr.1 162 (by omega) (by omega), show m' 163 = m 163 from fr.1 163 (by omega) (by omega)]
    generalize hm2 : up (up (up (up m' 149 k (m 162 k)) 150 k (m 163 k)) 151 k 0) 152 k 0 = m2
    have f2 : ∀ x, x < 149 ∨ 152 < x → m2 x = m' x := fun x hx => by rw [← hm2, up_ne _ _ _ (by omega), up_ne _ _ _ (by omega), up_ne _ _ _ (by omega), up_ne _ _ _ (by omega)]
    have g149 : m2 149 = ur (m' 149) k (m 162 k) := by
      rw [← hm2, up_ne _ _ _ (by omega), up_ne _ _ _ (by omega), up_ne _ _ _ (by omega)]
      exact sr_eq _ _ _
    have g150 : m2 150 = ur (m' 150) k (m 163 k) := by
      rw [← hm2, up_ne _ _ _ (by omega), up_ne _ _ _ (by omega)]
      show sr _ 150 (ur ((up m' 149 k (m 162 k)) 150) k (m 163 k)) 150 = _
      rw [sr_eq, up_ne _ _ _ (by omega)]
    have g151 : ∀ j, m2 151 j = if j = k then 0 else m' 151 j := fun j => by
      rw [← hm2, up_ne _ _ _ (by omega)]
      by_cases w : j = k
      · rw [if_pos w, w, up_at]
      · rw [if_neg w, up_at_ne _ _ _ w, up_ne _ _ _ (by omega), up_ne _ _ _ (by omega)]
    have g152 : ∀ j, m2 152 j = if j = k then 0 else m' 152 j := fun j => by
      rw [← hm2]
      by_cases w : j = k
      · rw [if_pos w, w, up_at]
      · rw [if_neg w, up_at_ne _ _ _ w, up_ne _ _ _ (by omega), up_ne _ _ _ (by omega), up_ne _ _ _ (by omega)]
    have r164 : m2 164 = m 164 := by rw [f2 164 (by omega), fr.1 164 (by omega) (by omega)]
    refine draw_row (c := c) (L := L) (B := B) (ct := ct) (fun q q0 q1 => by rw [f2 147 (by omega), fr.1 147 (by omega) (by omega)]; exact hc q q0 q1) (by rw [f2 158 (by omega), f2 159 (by omega), f2 160 (by omega), fr.1 158 (by omega) (by omega), fr.1 159 (by omega) (by omega), fr.1 160 (by omega) (by omega)]; exact hN) hL en n1 (by rw [f2 148 (by omega), fr.1 148 (by omega) (by omega), hct]) k0 k1 (by rw [r164]; exact tn k k0 k1) (fun e e0 e1 => by
      have := (ok.1 k e k0 k1 e0 e1).2.2.1
      omega) (by rw [g151, if_pos rfl]) (by rw [g152, if_pos rfl]) (fun m3 f3 ot q149 q150 q151 q152 => ih m3 ⟨fun x x1 x2 => by rw [f3.1 x x1 x2, f2 x x2, fr.1 x x1 x2], fun j j1 j2 j3 => by rw [f3.2 j j1 j2 j3, f2 145 (by omega), fr.2 j j1 j2 j3]⟩ (fun j j0 j1 => ?_))
    rw [r164] at q151 q152
    by_cases w : j = k
    · rw [w, q149, q150, g149, g150, ur_eq, ur_eq]
      exact ⟨rfl, rfl, q151, q152⟩
    · have o := ot j w
      rw [g151, g152, if_neg w, if_neg w] at o
      rw [q149, q150, g149, g150, ur_ne _ _ w, ur_ne _ _ w, o.1, o.2]
      exact rows j j0 (by omega)
end C10q
