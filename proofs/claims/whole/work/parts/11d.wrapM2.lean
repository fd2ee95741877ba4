/-! a sheet wraps a body: the reference's search -/
theorem QI.fin {n : Int} {c4 nb : Int → Int → Int} {L : Int → Int} {r st : Int} {m : tM} {a d : Int} (h : QI n c4 nb L r st m a d) (ha : m 145 44 ≤ a) : (m 145 44 = n → FT n c4 nb L 0 r st) ∧ (m 145 44 ≠ n → ¬ FT n c4 nb L 0 r st) := by
  obtain ⟨R, ⟨q0, qst⟩, rng, inj, six, lab, dif, tak, clo⟩ := h
  constructor
  · intro e
    have ex : ∀ k, 0 ≤ k → k < n → ∃ i, 0 ≤ i ∧ i < n ∧ m 179 i = k := fun k k0 k1 => row_all (O := m 179) (by omega) (fun i i0 i1 => rng i i0 (by omega)) (fun i j i0 i1 j0 j1 => inj i j i0 (by omega) j0 (by omega)) k0 k1
    refine ⟨lbM m, qst, fun k d' o eg => ?_, fun j k j0 j1 k0 k1 q => ?_, fun k k0 k1 => ?_⟩
    · obtain ⟨k0, k1, d0, d1, hc, ho⟩ := eg
      obtain ⟨i, i0, i1, i2⟩ := ex k k0 k1
      rw [← i2] at hc ho ⊢
      have := (clo i d' i0 (by omega) (by omega) d0 d1 hc).2
      rw [ho] at this
      exact this
    · obtain ⟨i, i0, i1, i2⟩ := ex j j0 j1
      obtain ⟨l, l0, l1, l2⟩ := ex k k0 k1
      rw [← i2, ← l2] at q ⊢
      have a1 := (lab i i0 (by omega)).2
      have a2 := (lab l l0 (by omega)).2
      have := dif i l i0 (by omega) l0 (by omega) (by unfold lbM at q; omega)
      rw [this]
    · obtain ⟨i, i0, i1, i2⟩ := ex k k0 k1
      rw [← i2]
      exact (lab i i0 (by omega)).1.rg
  · rintro ne ⟨-, -, -, -, rg⟩
    have ix : ∀ x, ∃ i, (0 ≤ x ∧ x < n) → (0 ≤ i ∧ i < m 145 44 ∧ m 179 i = x) := fun x => by
      by_cases q : 0 ≤ x ∧ x < n
      · have := rg x q.1 q.2 (fun x => ∃ i, 0 ≤ i ∧ i < m 145 44 ∧ m 179 i = x) ⟨0, by omega, by omega, q0⟩ (fun y e o g ⟨i, i0, i1, i2⟩ => by
          obtain ⟨-, -, d0, d1, hc, ho⟩ := g
          subst i2
          obtain ⟨l, l0, l1, l2⟩ := (clo i e i0 i1 (by omega) d0 d1 hc).1
          exact ⟨l, l0, l1, by rw [l2, ho]⟩)
        obtain ⟨i, hi⟩ := this
        exact ⟨i, fun _ => hi⟩
      · exact ⟨0, fun g => absurd g q⟩
    have hch : ∃ I : Int → Int, ∀ x, (0 ≤ x ∧ x < n) → (0 ≤ I x ∧ I x < m 145 44 ∧ m 179 (I x) = x) := ⟨fun x => Classical.choose (ix x), fun x => Classical.choose_spec (ix x)⟩
    obtain ⟨I, hI⟩ := hch
    rcases row_le (R := n) (n := m 145 44) (O := I) (by omega) (fun x x0 x1 => ⟨(hI x ⟨x0, x1⟩).1, (hI x ⟨x0, x1⟩).2.1⟩) (fun x y x0 x1 y0 y1 e => by
      have p := (hI x ⟨x0, x1⟩).2.2
      have q := (hI y ⟨y0, y1⟩).2.2
      rw [e] at p
      omega) with q | q
    · omega
    · omega
section C11d
variable {m : tM} {c L B : Int → Int} {n : Int}
theorem wrap_loop {s : SS} {r st : Int} {m1 : tM} {K : Int → tM → Prop} (hr : RepM (m 145 4) (m 149) (m 150) (m 151) (m 152) s) (hw : WF s) (hn : m 145 4 = n) (en : n = oN c 384) (hc : CE m c) (hN : NS c 384 (m 158) (m 159) (m 160)) (hL : LDS c (4 * oN c 384) L B) (hS : SKN n L B) (fr1 : FRW m m1) (q1 : QI n (cG s (m 149) (m 150)) (nG n (m 149) (m 150)) L r st m1 0 0) (h1 : FT n (cG s (m 149) (m 150)) (nG n (m 149) (m 150)) L 0 r st → ∀ m', FRW m m' → K 1 m') (h0 : ¬ FT n (cG s (m 149) (m 150)) (nG n (m 149) (m 150)) L 0 r st → ∀ m', FRW m m' → K 0 m') : Tj mX12_doesWrap 91 [some (rV 145), none, none, none, some (iV 0)] [] m1 (fun r m' => ∃ x, r = some (iV x) ∧ K x m') := by
  have hg : GR n (cG s (m 149) (m 150)) (nG n (m 149) (m 150)) := by
    have := GRs hr.1 hw
    rw [hn] at this
    exact this
  have n0 := hg.1.1
  have n1 := hg.1.2
  have fin : ∀ (a : Int) (m' : tM), FRW m m' → QI n (cG s (m 149) (m 150)) (nG n (m 149) (m 150)) L r st m' a 0 → m' 145 44 ≤ a → ∀ v1 : Int, v1 = (if (m' 145 44) = (m' 145 4) then 1 else 0) → ∃ x, some (iV v1) = some (iV x) ∧ K x m' := fun a m' fr qi ha v hv => by
    obtain ⟨y1, y2⟩ := qi.fin ha
    rw [fr.2 4 (by omega) (by omega) (by omega) (by omega), hn] at hv
    by_cases w : m' 145 44 = n
    · rw [if_pos w] at hv
      rw [hv]
      exact ⟨_, rfl, h1 (y1 w) m' fr⟩
    · rw [if_neg w] at hv
      rw [hv]
      exact ⟨_, rfl, h0 (y2 w) m' fr⟩
  have key := up_ind (n := n) (fun a => ∀ m', FRW m m' → QI n (cG s (m 149) (m 150)) (nG n (m 149) (m 150)) L r st m' a 0 → Tj mX12_doesWrap 91 [some (rV 145), none, none, none, some (iV a)] [] m' (fun r m' => ∃ x, r = some (iV x) ∧ K x m')) ?_ ?_ (i := 0) (by omega) n0
  · exact key m1 fr1 q1
  · intro m' fr qi
    have := qi.1
    exact wX12_doesWrap_91 ⟨fun g => by omega, fun g => fin n m' fr qi (by omega)⟩
  · intro a a0 a1 ih m' fr qi
    refine wX12_doesWrap_91 ⟨fun g => ?_, fun g => fin a m' fr qi (by omega)⟩
    have key2 := up_ind (n := 4) (fun d => ∀ m', FRW m m' → a < m' 145 44 → QI n (cG s (m 149) (m 150)) (nG n (m 149) (m 150)) L r st m' a d → Tj mX12_doesWrap 103 [some (rV 145), none, none, none, some (iV a), some (iV d)] [] m' (fun r m' => ∃ x, r = some (iV x) ∧ K x m')) ?_ ?_ (i := 0) (by omega) (by omega)
    · exact key2 m' fr g qi
    · intro m' fr g qi
      refine wX12_doesWrap_103 ⟨fun g => by omega, fun _ => ⟨by constructor <;> omega, ih m' fr ?_⟩⟩
      obtain ⟨x1, x2, x3, x4, x5, x6, x7, x8, x9⟩ := qi
      exact ⟨x1, x2, x3, x4, x5, x6, x7, x8, fun j e j0 j1 hj e0 e1 => x9 j e j0 j1 (by omega) e0 e1⟩
    · intro d d0 d1 ih2 m' fr g qi
      obtain ⟨x1, x2, x3, x4, x5, x6, x7, x8, x9⟩ := id qi
      have e4 : m' 145 4 = m 145 4 := fr.2 4 (by omega) (by omega) (by omega) (by omega)
      have e149 : m' 149 = m 149 := fr.1 149 (by omega) (by omega)
      have e150 : m' 150 = m 150 := fr.1 150 (by omega) (by omega)
      have hr' : RepM (m' 145 4) (m' 149) (m' 150) (m' 151) (m' 152) s := by rw [e4, e149, e150, fr.1 151 (by omega) (by omega), fr.1 152 (by omega) (by omega)]; exact hr
      have rr' := hr'.1.rch hw
      have oi := x3 a a0 g
      obtain ⟨da, sa, ta⟩ := x6 a a0 g
      -- a direction that leads nowhere new
      have skip : ∀ m2 : tM, FRW m m2 → m2 145 44 = m' 145 44 → (∀ x, 176 ≤ x → x ≤ 179 → m2 x = m' x) → (cG s (m 149) (m 150) (m' 179 a) d ≠ 0 → (∃ l, 0 ≤ l ∧ l < m' 145 44 ∧ m' 179 l = nG n (m 149) (m 150) (m' 179 a) d) ∧ lbM m' (nG n (m 149) (m 150) (m' 179 a) d) = crW L 0 d (lbM m' (m' 179 a))) → Tj mX12_doesWrap 103 [some (rV 145), none, none, none, some (iV a), some (iV (d + 1))] [] m2 (fun r m' => ∃ x, r = some (iV x) ∧ K x m') := fun m2 fr2 e44 same hs => by
        refine ih2 m2 fr2 (by rw [e44]; exact g) (QI.congr ?_ e44 (same 176 (by omega) (by omega)) (same 177 (by omega) (by omega)) (same 178 (by omega) (by omega)) (same 179 (by omega) (by omega)))
        refine ⟨x1, x2, x3, x4, x5, x6, x7, x8, fun j e j0 j1 hj e0 e1 hcc => ?_⟩
        by_cases w : j = a ∧ e = d
        · rw [w.1, w.2] at hcc ⊢
          exact hs hcc
        · exact x9 j e j0 j1 (by omega) e0 e1 hcc
      refine wX12_doesWrap_103 ⟨fun _ => ⟨⟨a0, by omega⟩, c_creaseOf (by rw [e4, hn]; exact n0) (by rw [e4, hn]; exact n1) hr'.1.2.2.1 rr' oi.1 (by rw [e4, hn]; exact oi.2) d0 ?_⟩, fun y => absurd d1 y⟩
      rw [crO_rep hr' hw oi.1 (by rw [e4, hn]; exact oi.2) d0 d1, show s4 s (m' 149 (m' 179 a)) (m' 150 (m' 179 a)) d = cG s (m 149) (m 150) (m' 179 a) d by rw [e149, e150]; rfl]
      refine ⟨fun g2 => ⟨by constructor <;> omega, skip m' fr rfl (fun _ _ _ => rfl) (fun z => absurd g2 z)⟩, fun g2 => ?_⟩
      have nx := ((hg.2 (m' 179 a) d oi.1 oi.2 d0 d1).2 g2).1
      have eg : EG n (cG s (m 149) (m 150)) (nG n (m 149) (m 150)) (m' 179 a) d (nG n (m 149) (m 150) (m' 179 a) d) := ⟨oi.1, oi.2, d0, d1, g2, rfl⟩
      have lr : 0 ≤ lbM m' (m' 179 a) ∧ lbM m' (m' 179 a) < 4 * n := by unfold lbM; omega
      have cr := crW_r hS (ov := 0) (d := d) lr.1 lr.2
      have inq : m' 176 (nG n (m 149) (m 150) (m' 179 a) d) ≠ -1 → ∃ l, 0 ≤ l ∧ l < m' 145 44 ∧ m' 179 l = nG n (m 149) (m 150) (m' 179 a) d := fun z => Classical.byContradiction (fun no => z ((x5 _ nx.1 nx.2).2 no))
      have dn := DR.st da eg
      refine c_wrapAcross (c := c) (L := L) (B := B) (n := n) hr' hw (by rw [e4, hn]) en (fun q q0 q1 => by rw [fr.1 147 (by omega) (by omega)]; exact hc q q0 q1) (by rw [fr.1 158 (by omega) (by omega), fr.1 159 (by omega) (by omega), fr.1 160 (by omega) (by omega)]; exact hN) hL oi.1 oi.2 d0 d1 (by rw [e149, e150]; exact g2) sa ta (by omega) ?_ ?_ ?_ ?_ ?_
      · rw [e149, e150]
        intro y1 y2
        have ne : ∀ j, 0 ≤ j → j < m' 145 44 → m' 179 j ≠ nG n (m 149) (m 150) (m' 179 a) d := fun j j0 j1 w => (x5 _ nx.1 nx.2).1 y1 ⟨j, j0, j1, w⟩
        generalize nG n (m 149) (m 150) (m' 179 a) d = o at *
        have le := row_le (R := m' 145 44 + 1) (n := n) (O := ur (m' 179) (m' 145 44) o) (by omega) (fun j j0 j1 => by
          by_cases w : j = m' 145 44
          · rw [w, ur_eq]; exact nx
          · rw [ur_ne _ _ w]; exact x3 j j0 (by omega)) (fun j l j0 j1 l0 l1 z => by
          by_cases w : j = m' 145 44
          · by_cases v : l = m' 145 44
            · omega
            · rw [w, ur_eq, ur_ne _ _ v] at z; exact absurd z.symm (ne l l0 (by omega))
          · by_cases v : l = m' 145 44
            · rw [v, ur_eq, ur_ne _ _ w] at z; exact absurd z (ne j j0 (by omega))
            · rw [ur_ne _ _ w, ur_ne _ _ v] at z; exact x4 j l j0 (by omega) l0 (by omega) z)
        omega
      · rw [e149, e150]
        intro y1 m2 f2 e44 same
        obtain ⟨l, l0, l1, l2⟩ := inq y1
        refine ⟨fun z => ⟨fun w => by omega, fun _ => ⟨by constructor <;> omega, skip m2 (fr.tr f2) e44 same (fun _ => ⟨⟨l, l0, l1, l2⟩, z⟩)⟩⟩, fun z => ⟨fun _ => ⟨_, rfl, h0 ?_ m2 (fr.tr f2)⟩, fun w => absurd rfl w⟩⟩
        rintro ⟨lab, s0, cw, -, -⟩
        have p1 := DR.eq s0 cw (x6 l l0 l1).1
        have p2 := DR.eq s0 cw dn
        rw [l2] at p1
        exact z (p1.trans p2.symm)
      · rw [e149, e150]
        intro y1
        obtain ⟨l, l0, l1, l2⟩ := inq y1
        rw [← l2]
        exact (x6 l l0 l1).2.2
      · rw [e149, e150]
        intro y1 y2 m2 f2
        refine ⟨fun _ => ⟨_, rfl, h0 ?_ m2 (fr.tr f2)⟩, fun w => absurd rfl w⟩
        rintro ⟨lab, s0, cw, inj, -⟩
        have tk : ∃ j, 0 ≤ j ∧ j < m' 145 44 ∧ m' 176 (m' 179 j) = crW L 0 d (lbM m' (m' 179 a)) / 4 := Classical.byContradiction (fun no => y2 ((x8 _ (by omega) (by omega)).2 no))
        obtain ⟨j, j0, j1, j2⟩ := tk
        obtain ⟨dj, b1, b2⟩ := x6 j j0 j1
        have p1 := DR.eq s0 cw dj
        have p2 := DR.eq s0 cw dn
        have oj := x3 j j0 j1
        have := inj (m' 179 j) _ oj.1 oj.2 nx.1 nx.2 (by rw [← p1, ← p2, ← j2]; unfold lbM; omega)
        exact (x5 _ nx.1 nx.2).1 y1 ⟨j, j0, j1, this⟩
      · rw [e149, e150]
        intro y1 y2 m2 f2 e44 e6 e7 e8 e9
        obtain ⟨-, qi2⟩ := QI.add hg hS qi a0 g d0 d1 g2 y1 y2 e44 e6 e7 e8 e9
        exact ⟨fun w => by omega, fun _ => ⟨by constructor <;> omega, ih2 m2 (fr.tr f2) (by omega) qi2⟩⟩
theorem c_doesWrap {s : SS} {r q t : Int} {K : Int → tM → Prop} (hr : RepM (m 145 4) (m 149) (m 150) (m 151) (m 152) s) (hw : WF s) (hn : m 145 4 = n) (e17 : m 145 17 = n) (en : n = oN c 384) (hc : CE m c) (hN : NS c 384 (m 158) (m 159) (m 160)) (hL : LDS c (4 * oN c 384) L B) (hS : SKN n L B) (r0 : 0 ≤ r) (r1 : r < n) (q0 : 0 ≤ q) (q1 : q < n) (t0 : 0 ≤ t) (t1 : t < 4) (h1 : FT n (cG s (m 149) (m 150)) (nG n (m 149) (m 150)) L 0 r (4 * q + t) → ∀ m', FRW m m' → K 1 m') (h0 : ¬ FT n (cG s (m 149) (m 150)) (nG n (m 149) (m 150)) L 0 r (4 * q + t) → ∀ m', FRW m m' → K 0 m') : Cli mX12_doesWrap [rV 145, iV r, iV q, iV t] m K := by
  have n1 := hr.1.2.1
  rw [hn] at n1
  refine wX12_doesWrap_0 ?_
  have key := up_ind (n := n) (fun k => Tj mX12_doesWrap 3 [some (rV 145), some (iV r), some (iV q), some (iV t), some (iV k)] [] (sr m 176 (fil (fun _ => -1) (m 176) 0 k)) (fun r m' => ∃ x, r = some (iV x) ∧ K x m')) ?_ ?_ (i := 0) (by omega) (by omega)
  · rw [fil_0, sr_self] at key
    exact key
  · generalize hm1 : sr m 176 (fil (fun _ => -1) (m 176) 0 n) = m1
    have f1 : ∀ x, x ≠ 176 → m1 x = m x := fun x hx => by rw [← hm1, sr_ne _ _ hx]
    have z1 : ∀ k, 0 ≤ k → k < n → m1 176 k = -1 := fun k k0 k1 => by rw [← hm1, sr_eq, fil_in _ _ (by omega)]
    refine wX12_doesWrap_3 ⟨fun g => absurd g (by rw [f1 145 (by omega), hn]; omega), fun _ => ?_⟩
    have key2 := up_ind (n := n) (fun k => Tj mX12_doesWrap 29 [some (rV 145), some (iV r), some (iV q), some (iV t), some (iV k)] [] (sr m1 178 (fil (fun k => if k = q then 1 else 0) (m1 178) 0 k)) (fun r m' => ∃ x, r = some (iV x) ∧ K x m')) ?_ ?_ (i := 0) (by omega) (by omega)
    · rw [fil_0, sr_self] at key2
      exact key2
    · generalize hm2 : sr m1 178 (fil (fun k => if k = q then 1 else 0) (m1 178) 0 n) = m2
      have f2 : ∀ x, x ≠ 178 → m2 x = m1 x := fun x hx => by rw [← hm2, sr_ne _ _ hx]
      have z2 : ∀ k, 0 ≤ k → k < n → m2 178 k = if k = q then 1 else 0 := fun k k0 k1 => by rw [← hm2, sr_eq, fil_in _ _ (by omega), show k - 0 = k by omega]
      refine wX12_doesWrap_29 ⟨fun g => absurd g (by rw [f2 145 (by omega), f1 145 (by omega), e17]; omega), fun _ => ⟨⟨r0, by omega⟩, ?_⟩⟩
      generalize hm3 : up (up (up (up m2 176 r q) 177 r t) 179 0 r) 145 44 1 = m3
      have e6 : m3 176 = ur (m1 176) r q := by
        rw [← hm3, up_ne _ _ _ (by omega), up_ne _ _ _ (by omega), up_ne _ _ _ (by omega)]
        show sr m2 176 (ur (m2 176) r q) 176 = _
        rw [sr_eq, f2 176 (by omega)]
      have e7 : m3 177 r = t := by rw [← hm3, up_ne _ _ _ (by omega), up_ne _ _ _ (by omega), up_at]
      have e8 : m3 178 = m2 178 := by rw [← hm3, up_ne _ _ _ (by omega), up_ne _ _ _ (by omega), up_ne _ _ _ (by omega), up_ne _ _ _ (by omega)]
      have e9 : m3 179 0 = r := by rw [← hm3, up_ne _ _ _ (by omega), up_at]
      have e44 : m3 145 44 = 1 := by rw [← hm3, up_at]
      have e6r : m3 176 r = q := by rw [e6, ur_eq]
      have lb : lbM m3 r = 4 * q + t := by unfold lbM; rw [e6r, e7]
      refine wrap_loop (c := c) (L := L) (B := B) (n := n) (st := 4 * q + t) (r := r) hr hw hn en hc hN hL hS ⟨fun x x1 x2 => ?_, fun j j1 j2 j3 j4 => ?_⟩ ?_ h1 h0
      · rw [← hm3, up_ne _ _ _ x1, up_ne _ _ _ (by omega), up_ne _ _ _ (by omega), up_ne _ _ _ (by omega), f2 x (by omega), f1 x (by omega)]
      · rw [← hm3, up_at_ne _ _ _ j4, up_ne _ _ _ (by omega), up_ne _ _ _ (by omega), up_ne _ _ _ (by omega), f2 145 (by omega), f1 145 (by omega)]
      · unfold QI
        rw [e44]
        refine ⟨by omega, ⟨e9, lb⟩, fun j j0 j1 => ?_, fun j l j0 j1 l0 l1 _ => by omega, fun x x0 x1 => ?_, fun j j0 j1 => ?_, fun j l j0 j1 l0 l1 _ => by omega, fun y y0 y1 => ?_, fun j e j0 j1 hj => by omega⟩
        · rw [show j = 0 by omega, e9]; exact ⟨r0, r1⟩
        · by_cases w : x = r
          · rw [w, e6r]
            exact ⟨fun z => by omega, fun z => absurd ⟨0, by omega, by omega, e9⟩ z⟩
          · rw [e6, ur_ne _ _ w, z1 x x0 x1]
            refine ⟨fun _ => ?_, fun _ => rfl⟩
            rintro ⟨j, j0, j1, j2⟩
            rw [show j = 0 by omega, e9] at j2
            exact w j2.symm
        · rw [show j = 0 by omega, e9, lb, e6r, e7]
          exact ⟨DR.rf, by omega, by omega⟩
        · rw [e8, z2 y y0 y1]
          by_cases w : y = q
          · rw [if_pos w]
            exact ⟨fun z => by omega, fun z => absurd ⟨0, by omega, by omega, by rw [e9, e6r, w]⟩ z⟩
          · rw [if_neg w]
            refine ⟨fun _ => ?_, fun _ => rfl⟩
            rintro ⟨j, j0, j1, j2⟩
            rw [show j = 0 by omega, e9, e6r] at j2
            exact w j2.symm
    · intro k k0 k1 ih
      have e : (sr m1 178 (fil (fun k => if k = q then 1 else 0) (m1 178) 0 k)) 145 17 = n := by rw [sr_ne _ _ (by omega), f1 145 (by omega), e17]
      refine wX12_doesWrap_29 ⟨fun _ v hv => ⟨⟨k0, by omega, by rw [hv]; split <;> omega, by constructor <;> omega⟩, ?_⟩, fun g => absurd (by rw [e]; exact k1) g⟩
      have := fil_s (fun k => if k = q then 1 else 0) (m1 178) 0 k0
      rw [show 0 + k = k by omega] at this
      rw [up_sr, hv, this]
      exact ih
  · intro k k0 k1 ih
    have e4 : (sr m 176 (fil (fun _ => -1) (m 176) 0 k)) 145 4 = n := by rw [sr_ne _ _ (by omega), hn]
    refine wX12_doesWrap_3 ⟨fun _ => ⟨⟨k0, by omega, by constructor <;> omega⟩, ?_⟩, fun g => absurd (by rw [e4]; exact k1) g⟩
    have := fil_s (fun _ => -1) (m 176) 0 k0
    rw [show 0 + k = k by omega] at this
    rw [up_sr, this]
    exact ih
end C11d
