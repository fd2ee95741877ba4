/-! the form: found by the reference; form, same, on both sides -/
/-- the sheet of the reference at its step -/
def shE (s : SS) (i : Int) : SS := @ite SS (i = 8) (Int.instDecidableEq i 8) s (gS (i % 4) (i / 4) s)
theorem shE_0 (s : SS) : shE s 0 = s := by
  unfold shE
  rw [if_neg (by omega)]
  exact g_00 s
theorem shE_8 (s : SS) : shE s 8 = s := by unfold shE; rw [if_pos rfl]
theorem shE_i (s : SS) {i : Int} (h : i < 8) : shE s i = gS (i % 4) (i / 4) s := by unfold shE; rw [if_neg (by omega)]
theorem WF.shE {s : SS} (w : WF s) {i : Int} (i0 : 0 ≤ i) (i1 : i ≤ 8) : WF (shE s i) := by
  by_cases q : i = 8
  · rw [q, shE_8]; exact w
  · rw [shE_i s (by omega)]; exact w.g (by omega) (by omega) (by omega)
theorem shE_n (s : SS) {i : Int} (i0 : 0 ≤ i) (i1 : i < 8) (h3 : i ≠ 3) (h7 : i ≠ 7) : tS 0 (shE s i) = shE s (i + 1) := by
  rw [shE_i s i1, t0_g s (by omega) (by omega) (by omega), shE_i s (by omega), show (i % 4 + 1) % 4 = (i + 1) % 4 by omega, show i / 4 = (i + 1) / 4 by omega]
theorem shE_t3 (s : SS) : tS 1 (tS 0 (shE s 3)) = shE s 4 := by
  rw [shE_i s (by omega), t0_g s (by omega) (by omega) (by omega)]
  show tS 1 (gS 0 0 s) = _
  rw [g_00, shE_i s (by omega)]
  exact (g_t1 s).symm
theorem shE_t7 (s : SS) : tS 1 (tS 0 (shE s 7)) = shE s 8 := by
  rw [shE_i s (by omega), t0_g s (by omega) (by omega) (by omega), shE_8]
  exact t1_t1 s
section C9w
variable {m : tM}
theorem c_findForm {s : SS} {Q : tM → Prop} (hr : RepM (m 145 4) (m 149) (m 150) (m 151) (m 152) s) (hw : WF s) (h : ∀ m', (∀ c, c < 145 ∨ (145 < c ∧ c < 149) ∨ (152 < c ∧ c < 165) ∨ (166 < c ∧ c < 174) ∨ 175 < c → m' c = m c) → (∀ j, j ≠ 39 → m' 145 j = m 145 j) → RepM (m' 145 4) (m' 149) (m' 150) (m' 151) (m' 152) s → STF s (m 145 4) 8 (m' 174) (m' 145 39) → Q m') : Clv mX12_findForm [rV 145] m Q := by
  have n0 := hr.1.1
  have n1 := hr.1.2.1
  generalize hn : m 145 4 = n at n0 n1 h
  refine wX12_findForm_0 (c_writeForm hr hw (fun m1 f1 fw0 => ?_))
  have e14 : m1 145 4 = n := by rw [f1 145 (by omega), hn]
  rw [hn] at fw0
  -- a copy
  have key0 := up_ind (n := 4 * n) (fun i => Tj mX12_findForm 6 [some (rV 145), some (iV i)] [] (sr m1 174 (fil (m1 175) (m1 174) 0 i)) (fun r m' => r = none ∧ Q m')) ?_ ?_ (i := 0) (by omega) (by omega)
  · rw [fil_0, sr_self] at key0
    exact key0
  · have e4 : (sr m1 174 (fil (m1 175) (m1 174) 0 (4 * n))) 145 4 = n := by rw [sr_ne _ _ (by omega), e14]
    refine wX12_findForm_6 ⟨by rw [e4]; constructor <;> omega, fun g => absurd g (by rw [e4]; omega), fun _ => ?_⟩
    -- the eight
    have key := up_ind (n := 8) (fun i => ∀ m', (∀ c, c < 145 ∨ (145 < c ∧ c < 149) ∨ (152 < c ∧ c < 165) ∨ (166 < c ∧ c < 174) ∨ 175 < c → m' c = m c) → (∀ j, j ≠ 39 → m' 145 j = m 145 j) → RepM (m' 145 4) (m' 149) (m' 150) (m' 151) (m' 152) (shE s i) → (i = 0 → FW s n (m' 174)) → STF s n i.toNat (m' 174) (m' 145 39) → Tj mX12_findForm 41 [some (rV 145), some (iV i)] [] m' (fun r m' => r = none ∧ Q m')) ?_ ?_ (i := 0) (by omega) (by omega)
    · generalize hm2 : up (sr m1 174 (fil (m1 175) (m1 174) 0 (4 * n))) 145 39 0 = m2
      have f2 : ∀ c, c ≠ 145 → c ≠ 174 → m2 c = m1 c := fun c c1 c2 => by rw [← hm2, up_ne _ _ _ c1, sr_ne _ _ c2]
      have g2 : ∀ j, j ≠ 39 → m2 145 j = m 145 j := fun j hj => by rw [← hm2, up_at_ne _ _ _ hj, sr_ne _ _ (by omega), f1 145 (by omega)]
      refine key m2 (fun c hc => by rw [f2 c (by omega) (by omega), f1 c (by omega)]) g2 ?_ (fun _ => ?_) ?_
      · rw [shE_0, g2 4 (by omega), f2 149 (by omega) (by omega), f2 150 (by omega) (by omega), f2 151 (by omega) (by omega), f2 152 (by omega) (by omega), f1 149 (by omega), f1 150 (by omega), f1 151 (by omega), f1 152 (by omega)]
        exact hr
      · obtain ⟨X, Y, lx, ly, a, b, c, d⟩ := fw0
        have e174 : ∀ j, 0 ≤ j → j < 4 * n → m2 174 j = m1 175 j := fun j j0 j1 => by rw [← hm2, up_ne _ _ _ (by omega), sr_eq, fil_in _ _ (by omega), show j - 0 = j by omega]
        refine ⟨X, Y, lx, ly, a, b, c, fun k k0 k1 => ?_⟩
        rw [e174 _ (by omega) (by omega), e174 _ (by omega) (by omega), e174 _ (by omega) (by omega), e174 _ (by omega) (by omega)]
        exact d k k0 k1
      · show m2 145 39 = 0
        rw [← hm2, up_at]
    · intro m' fr fj rep _ st
      rw [shE_8] at rep
      exact wX12_findForm_41 ⟨fun g => by omega, fun _ => ⟨rfl, h m' fr fj rep st⟩⟩
    · intro i i0 i1 ih m' fr fj rep z st
      have e4 : m' 145 4 = n := by rw [fj 4 (by omega), hn]
      have wi := hw.shE i0 (show i ≤ 8 by omega)
      have tb := (STF.uniq i.toNat st st).2.2
      have en : (i + 1).toNat = i.toNat + 1 := by omega
      -- what comes behind a step
      have aft : ∀ mm : tM, (∀ c, c < 145 ∨ (145 < c ∧ c < 149) ∨ (152 < c ∧ c < 165) ∨ (166 < c ∧ c < 174) ∨ 175 < c → mm c = m c) → (∀ j, j ≠ 39 → mm 145 j = m 145 j) → RepM (mm 145 4) (mm 149) (mm 150) (mm 151) (mm 152) (shE s i) → STF s n (i.toNat + 1) (mm 174) (mm 145 39) → Clv mX12_turned [rV 145, iV 0] mm (fun m3 => ((i = 3 → (Clv mX12_turned [rV 145, iV 1] m3 (fun m4 => ((R32 (i + 1)) ∧ (Tj mX12_findForm 41 [some (rV 145), some (iV (i + 1))] [] m4 (fun r m' => r = none ∧ Q m')))))) ∧ (¬ i = 3 → ((i = 7 → (Clv mX12_turned [rV 145, iV 1] m3 (fun m5 => ((R32 (i + 1)) ∧ (Tj mX12_findForm 41 [some (rV 145), some (iV (i + 1))] [] m5 (fun r m' => r = none ∧ Q m')))))) ∧ (¬ i = 7 → ((R32 (i + 1)) ∧ (Tj mX12_findForm 41 [some (rV 145), some (iV (i + 1))] [] m3 (fun r m' => r = none ∧ Q m')))))))) := fun mm gr gj grep gst => by
        refine c_turned grep wi (Or.inl rfl) (fun m3 f3 r3 => ?_)
        have w3 := wi.turn (h := 0) (Or.inl rfl)
        have nxt : ∀ m4 : tM, (∀ c, c < 149 ∨ (152 < c ∧ c < 165) ∨ 166 < c → m4 c = mm c) → RepM (m4 145 4) (m4 149) (m4 150) (m4 151) (m4 152) (shE s (i + 1)) → Tj mX12_findForm 41 [some (rV 145), some (iV (i + 1))] [] m4 (fun r m' => r = none ∧ Q m') := fun m4 f4 r4 => by
          refine ih m4 (fun c hc => by rw [f4 c (by omega), gr c hc]) (fun j hj => by rw [f4 145 (by omega), gj j hj]) r4 (fun g => by omega) ?_
          rw [f4 174 (by omega), f4 145 (by omega), en]
          exact gst
        refine ⟨fun g3 => c_turned r3 w3 (Or.inr rfl) (fun m4 f4 r4 => ⟨by constructor <;> omega, nxt m4 (fun c hc => by rw [f4 c hc, f3 c hc]) ?_⟩), fun g3 => ⟨fun g7 => c_turned r3 w3 (Or.inr rfl) (fun m4 f4 r4 => ⟨by constructor <;> omega, nxt m4 (fun c hc => by rw [f4 c hc, f3 c hc]) ?_⟩), fun g7 => ⟨by constructor <;> omega, nxt m3 f3 ?_⟩⟩⟩
        · rw [show shE s (i + 1) = tS 1 (tS 0 (shE s i)) by rw [g3]; exact (shE_t3 s).symm]; exact r4
        · rw [show shE s (i + 1) = tS 1 (tS 0 (shE s i)) by rw [g7]; exact (shE_t7 s).symm]; exact r4
        · rw [← shE_n s i0 i1 g3 g7]; exact r3
      refine wX12_findForm_41 ⟨fun _ => c_writeForm rep wi (fun m2 f2 fw => ?_), fun g => absurd i1 g⟩
      rw [e4, shE_i s i1] at fw
      have fw' : FW (gS ((i.toNat : Int) % 4) ((i.toNat : Int) / 4) s) n (m2 175) := by rw [ix_cast i0]; exact fw
      have e24 : m2 145 4 = n := by rw [f2 145 (by omega), e4]
      have e239 : m2 145 39 = m' 145 39 := by rw [f2 145 (by omega)]
      have e2174 : m2 174 = m' 174 := f2 174 (by omega)
      have st2 : STF s n i.toNat (m2 174) (m2 145 39) := by rw [e239, e2174]; exact st
      have fr2 : ∀ c, c < 145 ∨ (145 < c ∧ c < 149) ∨ (152 < c ∧ c < 165) ∨ (166 < c ∧ c < 174) ∨ 175 < c → m2 c = m c := fun c hc => by rw [f2 c (by omega), fr c hc]
      have fj2 : ∀ j, j ≠ 39 → m2 145 j = m 145 j := fun j hj => by rw [f2 145 (by omega), fj j hj]
      have rep2 : RepM (m2 145 4) (m2 149) (m2 150) (m2 151) (m2 152) (shE s i) := by
        rw [f2 145 (by omega), f2 149 (by omega), f2 150 (by omega), f2 151 (by omega), f2 152 (by omega)]; exact rep
      -- at the first step the row is the form
      have first : i = 0 → ∀ j, 0 ≤ j → j < 4 * n → m2 175 j = m2 174 j := fun q j j0 j1 => by
        have a := z q
        rw [q] at fw
        have e : gS (0 % 4) (0 / 4) s = s := g_00 s
        rw [e] at fw
        rw [e2174]
        exact (fw.uniq a).2 j j0 j1
      have t0i : m' 145 39 = 0 ↔ i = 0 := by
        constructor
        · intro e
          by_cases q : i = 0
          · exact q
          · have := tb.2.2 (by omega); omega
        · intro q
          have := tb.2.1
          omega
      refine c_compareM (np := 240) (nq := 240) sh_175 sh_174 (by rw [e24]; exact n0) (by rw [e24]; exact n1) (by omega) (by omega) (fun r cr => ?_)
      rw [e24] at cr
      have r0 : i = 0 → r = 0 := fun q => by
        rcases cr with ⟨e, -⟩ | ⟨k, k0, k1, -, g⟩
        · exact e
        · have := first q k k0 k1
          rcases g with ⟨g, -⟩ | ⟨g, -⟩ <;> omega
      refine ⟨fun g => ?_, fun g v hv => ⟨?_, aft _ (fun c hc => by rw [up_ne _ _ _ (by omega), fr2 c hc]) (fun j hj => by rw [up_at_ne _ _ _ hj, fj2 j hj]) ?_ ?_⟩⟩
      · -- a smaller row: it is copied
        have er : r = -1 := by have := cr.r; omega
        have ip : i ≠ 0 := fun q => by have := r0 q; omega
        generalize hm3 : up m2 145 39 0 = m3
        have f3 : ∀ c, c ≠ 145 → m3 c = m2 c := fun c hc => by rw [← hm3, up_ne _ _ _ hc]
        have g3 : ∀ j, j ≠ 39 → m3 145 j = m2 145 j := fun j hj => by rw [← hm3, up_at_ne _ _ _ hj]
        have z3 : m3 145 39 = 0 := by rw [← hm3, up_at]
        have key2 := up_ind (n := 4 * n) (fun k => Tj mX12_findForm 75 [some (rV 145), some (iV i), some (iV r), some (iV k)] [] (sr m3 174 (fil (m3 175) (m3 174) 0 k)) (fun r m' => r = none ∧ Q m')) ?_ ?_ (i := 0) (by omega) (by omega)
        · rw [fil_0, sr_self] at key2
          exact key2
        · have e34 : (sr m3 174 (fil (m3 175) (m3 174) 0 (4 * n))) 145 4 = n := by rw [sr_ne _ _ (by omega), g3 4 (by omega), e24]
          have e339 : (sr m3 174 (fil (m3 175) (m3 174) 0 (4 * n))) 145 39 = 0 := by rw [sr_ne _ _ (by omega), z3]
          refine wX12_findForm_75 ⟨by rw [e34]; constructor <;> omega, fun g => absurd g (by rw [e34]; omega), fun _ v hv => ?_⟩
          have ev : v = 1 := by rw [hv, if_neg (by omega)]
          rw [e339, ev]
          refine ⟨by constructor <;> omega, aft _ (fun c hc => by rw [up_ne _ _ _ (by omega), sr_ne _ _ (by omega), f3 c (by omega), fr2 c hc]) (fun j hj => by rw [up_at_ne _ _ _ hj, sr_ne _ _ (by omega), g3 j hj, fj2 j hj]) ?_ ?_⟩
          · rw [up_at_ne _ _ _ (by omega), sr_ne _ _ (by omega), up_ne _ _ _ (by omega), sr_ne _ _ (by omega), up_ne _ _ _ (by omega), sr_ne _ _ (by omega), up_ne _ _ _ (by omega), sr_ne _ _ (by omega), up_ne _ _ _ (by omega), sr_ne _ _ (by omega), g3 4 (by omega), f3 149 (by omega), f3 150 (by omega), f3 151 (by omega), f3 152 (by omega)]
            exact rep2
          · rw [up_ne _ _ _ (by omega), sr_eq, up_at]
            rw [er] at cr
            refine ⟨_, _, _, st2, fw', Or.inr ⟨by rw [e239]; exact fun e => ip (t0i.1 e), -1, cr, Or.inl ⟨rfl, rfl, fun j j0 j1 => ?_⟩⟩⟩
            rw [fil_in _ _ (by omega), show j - 0 = j by omega, f3 175 (by omega)]
        · intro k k0 k1 ih2
          have e34 : (sr m3 174 (fil (m3 175) (m3 174) 0 k)) 145 4 = n := by rw [sr_ne _ _ (by omega), g3 4 (by omega), e24]
          refine wX12_findForm_75 ⟨by rw [e34]; constructor <;> omega, fun _ => ⟨⟨k0, by omega, by constructor <;> omega⟩, ?_⟩, fun g => absurd (by rw [e34]; exact k1) g⟩
          have := fil_s (m3 175) (m3 174) 0 k0
          rw [show 0 + k = k by omega] at this
          rw [up_sr, sr_ne _ _ (show 175 ≠ 174 by omega), this]
          exact ih2
      · rw [e239]
        have : v = 0 ∨ v = 1 := by rw [hv]; split <;> omega
        constructor <;> omega
      · rw [up_at_ne _ _ _ (by omega), up_ne _ _ _ (by omega), up_ne _ _ _ (by omega), up_ne _ _ _ (by omega), up_ne _ _ _ (by omega)]
        exact rep2
      · rw [up_ne _ _ _ (by omega), up_at]
        refine ⟨_, _, _, st2, fw', ?_⟩
        by_cases q : i = 0
        · have e := r0 q
          rw [if_neg (by omega)] at hv
          refine Or.inl ⟨by rw [e239]; exact t0i.2 q, by rw [hv, e239, t0i.2 q]; rfl, fun j j0 j1 => (first q j j0 j1).symm⟩
        · refine Or.inr ⟨by rw [e239]; exact fun e => q (t0i.1 e), r, cr, ?_⟩
          rcases cr.r with e | e | e
          · omega
          · rw [if_neg (by omega)] at hv
            exact Or.inr (Or.inl ⟨e, by rw [hv], fun j _ _ => rfl⟩)
          · rw [if_pos (by omega)] at hv
            exact Or.inr (Or.inr ⟨e, by rw [hv, Int.add_zero], fun j _ _ => rfl⟩)
  · intro i i0 i1 ih
    have e4 : (sr m1 174 (fil (m1 175) (m1 174) 0 i)) 145 4 = n := by rw [sr_ne _ _ (by omega), e14]
    refine wX12_findForm_6 ⟨by rw [e4]; constructor <;> omega, fun _ => ⟨⟨i0, by omega, by constructor <;> omega⟩, ?_⟩, fun g => absurd (by rw [e4]; exact i1) g⟩
    have := fil_s (m1 175) (m1 174) 0 i0
    rw [show 0 + i = i by omega] at this
    rw [up_sr, sr_ne _ _ (show 175 ≠ 174 by omega), this]
    exact ih
end C9w
