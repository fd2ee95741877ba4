/-! the form: taken by the class, found by the reference -/
section C9v
variable {m : tM}
theorem c_compareC {a p q np nq : Nat} {Q : Int → tM → Prop} (sa : shp a = some (4, 0)) (sp : shp p = some (20, np)) (sq : shp q = some (20, nq)) (hp : m a 3 ≤ np) (hq : m a 3 ≤ nq) (n240 : m a 3 ≤ 240) (h : ∀ r, cmR (m a 3) (m p) (m q) r → Q r m) : Cli mX4_compare [rV a, rV p, rV q] m Q := by
  refine wX4_compare_0 (np := np) (nq := nq) ?_
  by_cases n0 : m a 3 < 0
  · refine wX4_compare_2 sa sp sq ⟨fun g => by omega, fun _ => ⟨_, rfl, h 0 (Or.inl ⟨rfl, fun i i0 i1 => by omega⟩)⟩⟩
  have key := up_ind (n := m a 3) (fun i => (∀ j, 0 ≤ j → j < i → m p j = m q j) → Tj mX4_compare 2 [some (rV a), some (rV p), some (rV q), some (iV i)] [] m (fun r m' => ∃ n, r = some (iV n) ∧ Q n m')) ?_ ?_ (i := 0) (by omega) (by omega)
  · exact key (fun j j0 j1 => by omega)
  · intro e
    exact wX4_compare_2 sa sp sq ⟨fun g => by omega, fun _ => ⟨_, rfl, h 0 (Or.inl ⟨rfl, e⟩)⟩⟩
  · intro i i0 i1 ih e
    refine wX4_compare_2 sa sp sq ⟨fun _ => ⟨⟨i0, by omega, by omega⟩, fun g => ⟨by constructor <;> omega, ih (fun j j0 j1 => ?_)⟩, fun g v hv => ⟨v, rfl, h v (Or.inr ⟨i, i0, i1, e, ?_⟩)⟩⟩, fun g => absurd i1 g⟩
    · by_cases q' : j = i
      · rw [q']; exact g
      · exact e j j0 (by omega)
    · by_cases l : m p i < m q i
      · rw [if_pos l] at hv; exact Or.inl ⟨l, hv⟩
      · rw [if_neg l] at hv; exact Or.inr ⟨by omega, hv⟩
theorem c_compareM {p q np nq : Nat} {Q : Int → tM → Prop} (sp : shp p = some (20, np)) (sq : shp q = some (20, nq)) (n0 : 0 ≤ m 145 4) (n1 : m 145 4 ≤ 60) (hp : 240 ≤ np) (hq : 240 ≤ nq) (h : ∀ r, cmR (4 * m 145 4) (m p) (m q) r → Q r m) : Cli mX12_compare [rV 145, rV p, rV q] m Q := by
  refine wX12_compare_0 (np := np) (nq := nq) ?_
  have key := up_ind (n := 4 * m 145 4) (fun i => (∀ j, 0 ≤ j → j < i → m p j = m q j) → Tj mX12_compare 2 [some (rV 145), some (rV p), some (rV q), some (iV i)] [] m (fun r m' => ∃ n, r = some (iV n) ∧ Q n m')) ?_ ?_ (i := 0) (by omega) (by omega)
  · exact key (fun j j0 j1 => by omega)
  · intro e
    exact wX12_compare_2 sp sq ⟨by constructor <;> omega, fun g => by omega, fun _ => ⟨_, rfl, h 0 (Or.inl ⟨rfl, e⟩)⟩⟩
  · intro i i0 i1 ih e
    refine wX12_compare_2 sp sq ⟨by constructor <;> omega, fun _ => ⟨⟨i0, by omega, by omega⟩, fun g => ⟨by constructor <;> omega, ih (fun j j0 j1 => ?_)⟩, fun g v hv => ⟨v, rfl, h v (Or.inr ⟨i, i0, i1, e, ?_⟩)⟩⟩, fun g => absurd i1 g⟩
    · by_cases q' : j = i
      · rw [q']; exact g
      · exact e j j0 (by omega)
    · by_cases l : m p i < m q i
      · rw [if_pos l] at hv; exact Or.inl ⟨l, hv⟩
      · rw [if_neg l] at hv; exact Or.inr ⟨by omega, hv⟩
theorem cmR.r {n : Int} {a b : Int → Int} {r : Int} (h : cmR n a b r) : r = -1 ∨ r = 0 ∨ r = 1 := by
  rcases h with ⟨e, -⟩ | ⟨k, -, -, -, ⟨-, e⟩ | ⟨-, e⟩⟩
  · exact Or.inr (Or.inl e)
  · exact Or.inl e
  · exact Or.inr (Or.inr e)
theorem cpr_0 (s d : Int → Int) {n j : Int} (j0 : 0 ≤ j) (j1 : j < n) : cpr s d 0 0 n j = s j := by
  unfold cpr
  rw [if_pos (by omega), show 0 + (j - 0) = j by omega]
/-- the class takes the form of a sheet -/
theorem c_takeF {a b : Nat} {s : SS} {Q : tM → Prop} (sa : shF a) (sb : shS b) (hab : b + 3 < a) (hr : RepC (m b 3) (m (b + 1)) (m (b + 2)) (m (b + 3)) s) (hw : WF s) (h : ∀ m', (∀ c, c < a ∨ a + 3 < c → m' c = m c) → m' a 3 = 4 * m b 3 → STF s (m b 3) 8 (m' (a + 1)) (m' a 4) → Q m') : Clv mX4_take [rV a, rV b] m Q := by
  have n0 := hr.1.1
  have n1 := hr.1.2.1
  refine wX4_take_0 sa.1 sb.1 (c_size sb ⟨by constructor <;> omega, ?_⟩)
  have key := up_ind (n := 8) (fun i => ∀ m', (∀ c, c < a ∨ a + 3 < c → m' c = m c) → m' a 3 = 4 * m b 3 → STF s (m b 3) i.toNat (m' (a + 1)) (m' a 4) → Tj mX4_take 17 [some (rV a), some (rV b), some (iV i)] [] m' (fun r m' => r = none ∧ Q m')) ?_ ?_ (i := 0) (by omega) (by omega)
  · refine key _ (fun c hc => by rw [up_ne _ _ _ (by omega), up_ne _ _ _ (by omega)]) (by rw [up_at_ne _ _ _ (by omega), up_at]) ?_
    show (up (up m a 3 (4 * m b 3)) a 4 0) a 4 = 0
    rw [up_at]
  · intro m' fr e3 st
    exact wX4_take_17 sa.1 sa.2.1 sa.2.2.1 ⟨fun g => by omega, fun _ => ⟨rfl, h m' fr e3 st⟩⟩
  · intro i i0 i1 ih m' fr e3 st
    have tb := (STF.uniq i.toNat st st).2.2
    have q0 : bAnd i 3 = i % 4 := bAnd_3 (by constructor <;> omega)
    refine wX4_take_17 sa.1 sa.2.1 sa.2.2.1 ⟨fun _ v hv => ?_, fun g => absurd i1 g⟩
    have ev : v = i / 4 := by
      rw [hv]; split <;> omega
    rw [q0, ev]
    have eb : m' b 3 = m b 3 := by rw [fr b (by omega)]
    refine c_writeF sa sb hab (s := s) (by rw [fr b (by omega), fr (b + 1) (by omega), fr (b + 2) (by omega), fr (b + 3) (by omega)]; exact hr) hw (by omega) (by omega) (by omega) (fun m1 f1 fw => ?_)
    rw [eb] at fw
    have ea : m1 a = m' a := f1 a (by omega) (by omega)
    have e1 : m1 (a + 1) = m' (a + 1) := f1 (a + 1) (by omega) (by omega)
    have en : (i + 1).toNat = i.toNat + 1 := by omega
    have fw' : FW (gS ((i.toNat : Int) % 4) ((i.toNat : Int) / 4) s) (m b 3) (m1 (a + 2)) := by rw [ix_cast i0]; exact fw
    have st' : STF s (m b 3) i.toNat (m1 (a + 1)) (m1 a 4) := by rw [ea, e1]; exact st
    have fr1 : ∀ c, c < a ∨ a + 3 < c → m1 c = m c := fun c hc => by rw [f1 c (by omega) (by omega), fr c hc]
    have s3 : m1 a 3 = 4 * m b 3 := by rw [ea, e3]
    -- the row is taken as the least
    have tk : ∀ {t : Int}, ((m1 a 4 = 0 ∧ t = 1) ∨ (m1 a 4 ≠ 0 ∧ t = 1 ∧ cmR (4 * m b 3) (m1 (a + 2)) (m1 (a + 1)) (-1))) → Tj mX4_take 17 [some (rV a), some (rV b), some (iV (i + 1))] [] (up (sr m1 (a + 1) (cpr (m1 (a + 2)) (m1 (a + 1)) 0 0 (m1 a 3))) a 4 t) (fun r m' => r = none ∧ Q m') := fun {t} ht => by
      generalize hm2 : up (sr m1 (a + 1) (cpr (m1 (a + 2)) (m1 (a + 1)) 0 0 (m1 a 3))) a 4 t = m2
      have l2 : ∀ j, 0 ≤ j → j < 4 * m b 3 → m2 (a + 1) j = m1 (a + 2) j := fun j j0 j1 => by
        rw [← hm2, up_ne _ _ _ (by omega), sr_eq, s3, cpr_0 _ _ j0 j1]
      have t2 : m2 a 4 = t := by rw [← hm2, up_at]
      refine ih m2 (fun c hc => by rw [← hm2, up_ne _ _ _ (by omega), sr_ne _ _ (by omega), fr1 c hc]) (by rw [← hm2, up_at_ne _ _ _ (by omega), sr_ne _ _ (by omega), s3]) ?_
      rw [en]
      refine ⟨_, _, _, st', fw', ?_⟩
      rcases ht with ⟨g1, g2⟩ | ⟨g1, g2, g3⟩
      · exact Or.inl ⟨g1, by rw [t2, g2], l2⟩
      · exact Or.inr ⟨g1, -1, g3, Or.inl ⟨rfl, by rw [t2, g2], l2⟩⟩
    refine ⟨fun g => ⟨by rw [s3]; omega, fun m2 hm2 => ⟨by constructor <;> omega, ?_⟩⟩, fun g => c_compareC sa.1 sa.2.2.1 sa.2.1 (by rw [s3]; omega) (by rw [s3]; omega) (by rw [s3]; omega) (fun r cr => ?_)⟩
    · rw [hm2]
      exact tk (Or.inl ⟨g, rfl⟩)
    · rw [s3] at cr
      refine ⟨fun g2 => ⟨by rw [s3]; omega, fun m2 hm2 => ⟨by constructor <;> omega, ?_⟩⟩, fun g2 => ⟨fun g3 => ⟨⟨?_, by constructor <;> omega⟩, ih _ (fun c hc => by rw [up_ne _ _ _ (by omega), fr1 c hc]) (by rw [up_at_ne _ _ _ (by omega), s3]) ?_⟩, fun g3 => ⟨by constructor <;> omega, ih m1 fr1 s3 ?_⟩⟩⟩
      · rw [hm2]
        have er : r = -1 := by have := cr.r; omega
        rw [er] at cr
        exact tk (Or.inr ⟨g, rfl, cr⟩)
      · rw [ea]; constructor <;> omega
      · rw [en]
        rw [g3] at cr
        refine ⟨_, _, _, st', fw', Or.inr ⟨g, 0, cr, Or.inr (Or.inl ⟨rfl, by rw [up_at], fun j _ _ => by rw [up_ne _ _ _ (by omega)]⟩)⟩⟩
      · rw [en]
        have er : r = 1 := by have := cr.r; omega
        rw [er] at cr
        exact ⟨_, _, _, st', fw', Or.inr ⟨g, 1, cr, Or.inr (Or.inr ⟨rfl, rfl, fun j _ _ => rfl⟩)⟩⟩
/-- the reference writes its sheet -/
theorem c_writeForm {s : SS} {Q : tM → Prop} (hr : RepM (m 145 4) (m 149) (m 150) (m 151) (m 152) s) (hw : WF s) (h : ∀ m', (∀ c, c ≠ 175 → m' c = m c) → FW s (m 145 4) (m' 175) → Q m') : Clv mX12_writeForm [rV 145] m Q := by
  have n0 := hr.1.1
  have n1 := hr.1.2.1
  have rr := hr.1.rch hw
  refine wX12_writeForm_0 ?_
  have key := up_ind (n := m 145 4) (fun i => ∀ lx ly, ((-30 ≤ lx ∧ lx ≤ 60) ∧ (∀ k, 0 ≤ k → k < i → lx ≤ m 149 k) ∧ ((lx = 60 ∧ i = 0) ∨ ∃ k, 0 ≤ k ∧ k < i ∧ m 149 k = lx)) → ((-30 ≤ ly ∧ ly ≤ 60) ∧ (∀ k, 0 ≤ k → k < i → ly ≤ m 150 k) ∧ ((ly = 60 ∧ i = 0) ∨ ∃ k, 0 ≤ k ∧ k < i ∧ m 150 k = ly)) → Tj mX12_writeForm 8 [some (rV 145), some (iV lx), some (iV ly), some (iV i)] [] m (fun r m' => r = none ∧ Q m')) ?_ ?_ (i := 0) (by omega) n0
  · exact key 60 60 ⟨by omega, fun k _ _ => by omega, Or.inl ⟨rfl, rfl⟩⟩ ⟨by omega, fun k _ _ => by omega, Or.inl ⟨rfl, rfl⟩⟩
  · intro lx ly hx hy
    refine wX12_writeForm_8 ⟨fun g => by omega, fun _ => ?_⟩
    have key2 := up_ind (n := m 145 4) (fun i => ∀ m', (∀ c, c ≠ 175 → m' c = m c) → (∀ k, 0 ≤ k → k < i → m' 175 (4 * k) = m 150 k - ly ∧ m' 175 (4 * k + 1) = m 149 k - lx ∧ m' 175 (4 * k + 2) = m 151 k ∧ m' 175 (4 * k + 3) = m 152 k) → Tj mX12_writeForm 66 [some (rV 145), some (iV lx), some (iV ly), some (iV i)] [] m' (fun r m' => r = none ∧ Q m')) ?_ ?_ (i := 0) (by omega) n0
    · exact key2 m (fun _ _ => rfl) (fun k k0 k1 => by omega)
    · intro m' fr hrow
      refine wX12_writeForm_66 ⟨fun g => absurd g (by rw [fr 145 (by omega)]; omega), fun _ => ⟨rfl, h m' fr ⟨m 149, m 150, lx, ly, hr.1, fun k k0 k1 => ⟨hx.2.1 k k0 k1, hy.2.1 k k0 k1⟩, fun np => ⟨?_, ?_⟩, fun k k0 k1 => ?_⟩⟩⟩
      · rcases hx.2.2 with g | g
        · omega
        · exact g
      · rcases hy.2.2 with g | g
        · omega
        · exact g
      · obtain ⟨a, b, c, d⟩ := hrow k k0 k1
        obtain ⟨e, f⟩ := hr.2 k k0 k1
        exact ⟨a, b, by rw [c, e], by rw [d, f]⟩
    · intro i i0 i1 ih m' fr hrow
      have r := rr i i0 i1
      have e4 : m' 145 4 = m 145 4 := by rw [fr 145 (by omega)]
      have e149 : m' 149 = m 149 := fr 149 (by omega)
      have e150 : m' 150 = m 150 := fr 150 (by omega)
      have e151 : m' 151 = m 151 := fr 151 (by omega)
      have e152 : m' 152 = m 152 := fr 152 (by omega)
      have step : ∀ u v, u = m 151 i → v = m 152 i → Tj mX12_writeForm 66 [some (rV 145), some (iV lx), some (iV ly), some (iV (i + 1))] [] (up (up (up (up m' 175 (4 * i) (m' 150 i - ly)) 175 (4 * i + 1) (m' 149 i - lx)) 175 (4 * i + 2) u) 175 (4 * i + 3) v) (fun r m' => r = none ∧ Q m') := fun u v hu hv => by
        have e2 : ∀ j, (up (up (up (up m' 175 (4 * i) (m' 150 i - ly)) 175 (4 * i + 1) (m' 149 i - lx)) 175 (4 * i + 2) u) 175 (4 * i + 3) v) 175 j = if j = 4 * i + 3 then v else if j = 4 * i + 2 then u else if j = 4 * i + 1 then m' 149 i - lx else if j = 4 * i then m' 150 i - ly else m' 175 j := fun j => by
          by_cases g3 : j = 4 * i + 3
          · rw [if_pos g3, g3, up_at]
          · rw [if_neg g3, up_at_ne _ _ _ g3]
            by_cases g2 : j = 4 * i + 2
            · rw [if_pos g2, g2, up_at]
            · rw [if_neg g2, up_at_ne _ _ _ g2]
              by_cases g1 : j = 4 * i + 1
              · rw [if_pos g1, g1, up_at]
              · rw [if_neg g1, up_at_ne _ _ _ g1]
                by_cases g0 : j = 4 * i
                · rw [if_pos g0, g0, up_at]
                · rw [if_neg g0, up_at_ne _ _ _ g0]
        refine ih _ (fun c hc => by rw [up_ne _ _ _ hc, up_ne _ _ _ hc, up_ne _ _ _ hc, up_ne _ _ _ hc, fr c hc]) (fun k k0 k1 => ?_)
        rw [e2, e2, e2, e2]
        by_cases q : k = i
        · subst q
          rw [if_neg (by omega), if_neg (by omega), if_neg (by omega), if_pos rfl, if_neg (by omega), if_neg (by omega), if_pos rfl, if_neg (by omega), if_pos rfl, if_pos rfl, e149, e150]
          exact ⟨rfl, rfl, hu, hv⟩
        · rw [if_neg (by omega), if_neg (by omega), if_neg (by omega), if_neg (by omega), if_neg (by omega), if_neg (by omega), if_neg (by omega), if_neg (by omega), if_neg (by omega), if_neg (by omega), if_neg (by omega), if_neg (by omega), if_neg (by omega), if_neg (by omega), if_neg (by omega), if_neg (by omega)]
          exact hrow k k0 (by omega)
      have hx1 := hx.1
      have hy1 := hy.1
      refine wX12_writeForm_66 ⟨fun _ => ⟨⟨by constructor <;> omega, i0, by omega, by rw [e150]; constructor <;> omega, by omega, by omega, by constructor <;> omega, by rw [e149]; constructor <;> omega, by omega, by omega, by constructor <;> omega⟩, fun g1 => ⟨⟨by omega, by omega, by constructor <;> omega⟩, fun g2 => ⟨⟨by omega, by omega, by constructor <;> omega⟩, step 0 0 (by rw [← e151]; exact g1.symm) (by rw [← e152]; exact g2.symm)⟩, fun g2 => ⟨⟨by omega, by omega, by constructor <;> omega⟩, step 0 _ (by rw [← e151]; exact g1.symm) (by rw [e152])⟩⟩, fun g1 => ⟨⟨by omega, by omega, by constructor <;> omega⟩, fun g2 => ⟨⟨by omega, by omega, by constructor <;> omega⟩, step _ 0 (by rw [e151]) (by rw [← e152]; exact g2.symm)⟩, fun g2 => ⟨⟨by omega, by omega, by constructor <;> omega⟩, step _ _ (by rw [e151]) (by rw [e152])⟩⟩⟩, fun g => absurd (by rw [e4]; exact i1) g⟩
  · intro i i0 i1 ih lx ly hx hy
    have r := rr i i0 i1
    have ns : ∀ {X : Int → Int} {l : Int}, (-30 ≤ X i ∧ X i ≤ 30) → ((-30 ≤ l ∧ l ≤ 60) ∧ (∀ k, 0 ≤ k → k < i → l ≤ X k) ∧ ((l = 60 ∧ i = 0) ∨ ∃ k, 0 ≤ k ∧ k < i ∧ X k = l)) → (X i < l → ((-30 ≤ X i ∧ X i ≤ 60) ∧ (∀ k, 0 ≤ k → k < i + 1 → X i ≤ X k) ∧ ((X i = 60 ∧ i + 1 = 0) ∨ ∃ k, 0 ≤ k ∧ k < i + 1 ∧ X k = X i))) ∧ (¬ X i < l → ((-30 ≤ l ∧ l ≤ 60) ∧ (∀ k, 0 ≤ k → k < i + 1 → l ≤ X k) ∧ ((l = 60 ∧ i + 1 = 0) ∨ ∃ k, 0 ≤ k ∧ k < i + 1 ∧ X k = l))) := fun {X l} rx hx => by
      refine ⟨fun g => ⟨by omega, fun k k0 k1 => ?_, Or.inr ⟨i, i0, by omega, rfl⟩⟩, fun g => ⟨hx.1, fun k k0 k1 => ?_, ?_⟩⟩
      · by_cases e : k = i
        · rw [e]; omega
        · have := hx.2.1 k k0 (by omega); omega
      · by_cases e : k = i
        · rw [e]; omega
        · exact hx.2.1 k k0 (by omega)
      · rcases hx.2.2 with ⟨a, b⟩ | ⟨k, k0, k1, k2⟩
        · omega
        · exact Or.inr ⟨k, k0, by omega, k2⟩
    obtain ⟨x1, x2⟩ := ns r.1 hx
    obtain ⟨y1, y2⟩ := ns r.2 hy
    exact wX12_writeForm_8 ⟨fun _ => ⟨⟨i0, by omega⟩, fun g1 => ⟨fun g2 => ⟨by constructor <;> omega, ih _ _ (x1 g1) (y1 g2)⟩, fun g2 => ⟨by constructor <;> omega, ih _ _ (x1 g1) (y2 g2)⟩⟩, fun g1 => ⟨fun g2 => ⟨by constructor <;> omega, ih _ _ (x2 g1) (y1 g2)⟩, fun g2 => ⟨by constructor <;> omega, ih _ _ (x2 g1) (y2 g2)⟩⟩⟩, fun g => absurd i1 g⟩
end C9v
