/-! the reference turns a sheet: a quarter (0), or over (1) -/
def pX (h x y : Int) : Int := if h = 0 then y else -x
def pY (h x y : Int) : Int := if h = 0 then -x else y
def iX (h x y : Int) : Int := if h = 0 then -y else -x
def iY (h x y : Int) : Int := if h = 0 then x else y
def dR (h : Int) : Int := if h = 0 then 3 else 2
def dU (h : Int) : Int := if h = 0 then 0 else 1
def tS (h : Int) (s : SS) : SS := (fun x y => s.1 (pX h x y) (pY h x y), fun x y => s4 s (pX h x y) (pY h x y) (dR h), fun x y => s4 s (pX h x y) (pY h x y) (dU h))
theorem pX_i {h : Int} (hh : h = 0 ∨ h = 1) (x y : Int) : pX h (iX h x y) (iY h x y) = x ∧ pY h (iX h x y) (iY h x y) = y := by
  rcases hh with rfl | rfl
  · exact ⟨rfl, Int.neg_neg y⟩
  · exact ⟨Int.neg_neg x, rfl⟩
theorem iX_p {h : Int} (hh : h = 0 ∨ h = 1) (x y : Int) : iX h (pX h x y) (pY h x y) = x ∧ iY h (pX h x y) (pY h x y) = y := by
  rcases hh with rfl | rfl
  · exact ⟨Int.neg_neg x, rfl⟩
  · exact ⟨Int.neg_neg x, rfl⟩
theorem WF.turn {s : SS} (w : WF s) {h : Int} (hh : h = 0 ∨ h = 1) : WF (tS h s) := by
  refine ⟨fun x y q => ?_, fun x y => s4_r w _ _ _, fun x y => s4_r w _ _ _, fun x y q => ?_, fun x y q => ?_⟩
  · have := w.1 _ _ q
    rcases hh with rfl | rfl
    · have e : pX 0 x y = y ∧ pY 0 x y = -x := ⟨rfl, rfl⟩
      rw [e.1, e.2] at this; omega
    · have e : pX 1 x y = -x ∧ pY 1 x y = y := ⟨rfl, rfl⟩
      rw [e.1, e.2] at this; omega
  · rcases hh with rfl | rfl
    · have := w.2.2.2.2 y (-x - 1) q
      rw [show -x - 1 + 1 = -x by omega] at this
      refine ⟨this.2, ?_⟩
      show s.1 y (-(x + 1))
      rw [show -(x + 1) = -x - 1 by omega]
      exact this.1
    · have := w.2.2.2.1 (-x - 1) y q
      rw [show -x - 1 + 1 = -x by omega] at this
      refine ⟨this.2, ?_⟩
      show s.1 (-(x + 1)) y
      rw [show -(x + 1) = -x - 1 by omega]
      exact this.1
  · rcases hh with rfl | rfl
    · exact w.2.2.2.1 y (-x) q
    · exact w.2.2.2.2 (-x) y q
section C8t
variable {m : tM}
theorem c_turned {h : Int} {s : SS} {K : tM → Prop} (hr : RepM (m 145 4) (m 149) (m 150) (m 151) (m 152) s) (hw : WF s) (hh : h = 0 ∨ h = 1) (hk : ∀ m', (∀ c, c < 149 ∨ (152 < c ∧ c < 165) ∨ 166 < c → m' c = m c) → RepM (m' 145 4) (m' 149) (m' 150) (m' 151) (m' 152) (tS h s) → K m') : Clv mX12_turned [rV 145, iV h] m K := by
  have n0 := hr.1.1
  have n1 := hr.1.2.1
  refine wX12_turned_0 ?_
  generalize hf1 : (fun k => s4 s (m 149 k) (m 150 k) (dR h)) = f1
  generalize hf2 : (fun k => s4 s (m 149 k) (m 150 k) (dU h)) = f2
  have e1 : ∀ k, f1 k = s4 s (m 149 k) (m 150 k) (dR h) := fun k => by rw [← hf1]
  have e2 : ∀ k, f2 k = s4 s (m 149 k) (m 150 k) (dU h) := fun k => by rw [← hf2]
  -- behind the first loop
  have second : ∀ mz : tM, (∀ c, c ≠ 165 → c ≠ 166 → mz c = m c) → (∀ k, 0 ≤ k → k < m 145 4 → mz 165 k = f1 k ∧ mz 166 k = f2 k) → Tj mX12_turned 68 [some (rV 145), some (iV h), some (iV 0)] [] mz (fun r m' => r = none ∧ K m') := by
    intro mz z1 z2
    have z145 := z1 145 (by omega) (by omega)
    have z149 := z1 149 (by omega) (by omega)
    have z150 := z1 150 (by omega) (by omega)
    have loop : ∀ (u : Nat) (i : Int), (m 145 4 - i).toNat = u → 0 ≤ i → i ≤ m 145 4 → ∀ m6, (∀ c, c < 149 ∨ 152 < c → m6 c = mz c) → (∀ j, 0 ≤ j → j < i → m6 149 j = iX h (m 149 j) (m 150 j) ∧ m6 150 j = iY h (m 149 j) (m 150 j) ∧ m6 151 j = f1 j ∧ m6 152 j = f2 j) → (∀ j, i ≤ j → m6 149 j = m 149 j ∧ m6 150 j = m 150 j) → Tj mX12_turned 68 [some (rV 145), some (iV h), some (iV i)] [] m6 (fun r m' => r = none ∧ K m') := by
      intro u
      induction u with
      | zero =>
        intro i iu i0 i1 m6 g1 g2 g3
        have ie : i = m 145 4 := by omega
        have e6 : m6 145 = m 145 := by rw [g1 145 (by omega), z145]
        have hd : dst (m6 145 4) (m6 149) (m6 150) := by
          rw [e6]
          intro a b a0 a1 b0 b1 hx hy
          obtain ⟨ax, ay, -, -⟩ := g2 a a0 (by omega)
          obtain ⟨bx, by', -, -⟩ := g2 b b0 (by omega)
          rw [ax, bx] at hx
          rw [ay, by'] at hy
          have p := pX_i hh (m 149 a) (m 150 a)
          have q := pX_i hh (m 149 b) (m 150 b)
          rw [hx, hy] at p
          exact srt_inj hr.1.2.2.1 a0 a1 b0 b1 (p.1.symm.trans q.1) (p.2.symm.trans q.2)
        refine wX12_turned_68 ⟨fun c => by rw [e6] at c; omega, fun _ => c_sort (by rw [e6]; exact n0) (by rw [e6]; exact n1) hd (fun m7 so => ⟨rfl, hk m7 (fun c hc => ?_) ?_⟩)⟩
        · rw [so.1 c (by omega), g1 c (by omega), z1 c (by omega) (by omega)]
        · have e7 : m7 145 4 = m 145 4 := by rw [so.1 145 (by omega), e6]
          rw [e7]
          have s2 := so.2
          rw [e6] at s2
          refine RepM.sort n0 n1 s2.1 s2.2 (fun x y => ⟨fun q => ?_, fun ⟨k, k0, k1, k2, k3⟩ => ?_⟩) (fun k k0 k1 => ?_)
          · obtain ⟨k, k0, k1, k2, k3⟩ := (hr.1.2.2.2 _ _).mp q
            obtain ⟨ax, ay, -, -⟩ := g2 k k0 (by omega)
            have p := iX_p hh x y
            exact ⟨k, k0, k1, by rw [ax, k2, k3]; exact p.1, by rw [ay, k2, k3]; exact p.2⟩
          · obtain ⟨ax, ay, -, -⟩ := g2 k k0 (by omega)
            refine (hr.1.2.2.2 _ _).mpr ⟨k, k0, k1, ?_, ?_⟩
            · rw [← k2, ← k3, ax, ay]; exact (pX_i hh _ _).1.symm
            · rw [← k2, ← k3, ax, ay]; exact (pX_i hh _ _).2.symm
          · obtain ⟨ax, ay, ar, au⟩ := g2 k k0 (by omega)
            have p := pX_i hh (m 149 k) (m 150 k)
            rw [ar, au, ax, ay, e1, e2]
            show _ = s4 s (pX h _ _) (pY h _ _) _ ∧ _ = s4 s (pX h _ _) (pY h _ _) _
            rw [p.1, p.2]
            exact ⟨rfl, rfl⟩
      | succ u ih =>
        intro i iu i0 i1 m6 g1 g2 g3
        have e6 : m6 145 = m 145 := by rw [g1 145 (by omega), z145]
        have il : i < m 145 4 := by omega
        obtain ⟨x3, y3⟩ := g3 i (Int.le_refl i)
        have r := hr.1.rch hw i i0 il
        have q165 : m6 165 i = f1 i := by rw [g1 165 (by omega)]; exact (z2 i i0 il).1
        have q166 : m6 166 i = f2 i := by rw [g1 166 (by omega)]; exact (z2 i i0 il).2
        have nxt : ∀ m7, PL m6 m7 i (fun c => if c = 149 then iX h (m 149 i) (m 150 i) else if c = 150 then iY h (m 149 i) (m 150 i) else if c = 151 then f1 i else f2 i) → Tj mX12_turned 68 [some (rV 145), some (iV h), some (iV (i + 1))] [] m7 (fun r m' => r = none ∧ K m') := by
          intro m7 p
          have a149 : m7 149 = ur (m6 149) i (iX h (m 149 i) (m 150 i)) := p.2 149 (by omega) (by omega)
          have a150 : m7 150 = ur (m6 150) i (iY h (m 149 i) (m 150 i)) := p.2 150 (by omega) (by omega)
          have a151 : m7 151 = ur (m6 151) i (f1 i) := p.2 151 (by omega) (by omega)
          have a152 : m7 152 = ur (m6 152) i (f2 i) := p.2 152 (by omega) (by omega)
          refine ih (i + 1) (by omega) (by omega) (by omega) m7 (fun c hc => by rw [p.1 c hc, g1 c hc]) (fun j j0 j1 => ?_) (fun j j0 => ?_)
          · rw [a149, a150, a151, a152]
            by_cases q : j = i
            · subst q; rw [ur_eq, ur_eq, ur_eq, ur_eq]; exact ⟨rfl, rfl, rfl, rfl⟩
            · rw [ur_ne _ _ q, ur_ne _ _ q, ur_ne _ _ q, ur_ne _ _ q]; exact g2 j j0 (by omega)
          · rw [a149, a150, ur_ne _ _ (by omega), ur_ne _ _ (by omega)]; exact g3 j (by omega)
        refine wX12_turned_68 ⟨fun _ => ⟨⟨i0, by omega⟩, fun c => ?_, fun c => ?_⟩, fun c => by rw [e6] at c; omega⟩
        · subst c
          rw [x3, y3, q165, q166]
          refine ⟨by constructor <;> omega, ?_⟩
          exact c_place (f := fun c => if c = 149 then iX 0 (m 149 i) (m 150 i) else if c = 150 then iY 0 (m 149 i) (m 150 i) else if c = 151 then f1 i else f2 i) i0 (by omega) (fun m7 p => ⟨by constructor <;> omega, nxt m7 p⟩)
        · have h1 : h = 1 := by omega
          subst h1
          rw [x3, y3, q165, q166]
          refine ⟨by constructor <;> omega, ?_⟩
          exact c_place (f := fun c => if c = 149 then iX 1 (m 149 i) (m 150 i) else if c = 150 then iY 1 (m 149 i) (m 150 i) else if c = 151 then f1 i else f2 i) i0 (by omega) (fun m7 p => ⟨by constructor <;> omega, nxt m7 p⟩)
    exact loop _ 0 rfl (by omega) n0 mz (fun _ _ => rfl) (fun j j0 j1 => by omega) (fun j _ => ⟨by rw [z149], by rw [z150]⟩)
  -- the first loop
  have key := up_ind (n := m 145 4) (fun i => Tj mX12_turned 2 [some (rV 145), some (iV h), some (iV i)] [] (sr (sr m 165 (fil f1 (m 165) 0 i)) 166 (fil f2 (m 166) 0 i)) (fun r m' => r = none ∧ K m')) ?_ ?_ (i := 0) (by omega) n0
  · rw [fil_0, fil_0, sr_self, sr_self] at key
    exact key
  · refine wX12_turned_2 ⟨fun c => ?_, fun _ => second _ (fun c c1 c2 => by rw [sr_ne _ _ c2, sr_ne _ _ c1]) (fun k k0 k1 => ?_)⟩
    · rw [sr_ne _ _ (by omega), sr_ne _ _ (by omega)] at c; omega
    · rw [sr_ne _ _ (by omega : (165 : Nat) ≠ 166), sr_eq, sr_eq, fil_in _ _ (by omega), fil_in _ _ (by omega), Int.sub_zero]; exact ⟨rfl, rfl⟩
  · intro i i0 i1 ih
    generalize hM : sr (sr m 165 (fil f1 (m 165) 0 i)) 166 (fil f2 (m 166) 0 i) = M0
    have R : ∀ c, c ≠ 165 → c ≠ 166 → M0 c = m c := fun c c1 c2 => by rw [← hM, sr_ne _ _ c2, sr_ne _ _ c1]
    have e145 := R 145 (by omega) (by omega)
    have rep : RepM (M0 145 4) (M0 149) (M0 150) (M0 151) (M0 152) s := hr.rows (by rw [e145]) (fun c c0 c1 => R c (by omega) (by omega))
    have fin : up (up M0 165 i (f1 i)) 166 i (f2 i) = sr (sr m 165 (fil f1 (m 165) 0 (i + 1))) 166 (fil f2 (m 166) 0 (i + 1)) := by
      have s1 := fil_s f1 (m 165) 0 i0
      have s2 := fil_s f2 (m 166) 0 i0
      rw [Int.zero_add] at s1 s2
      rw [← hM, sr_comm m _ _ (by omega), up_sr, sr_comm _ _ _ (by omega), up_sr, s1, s2]
    have f1v : crO (M0 145 4) (M0 149) (M0 150) (M0 151) (M0 152) i (dR h) = f1 i := by
      rw [crO_rep rep hw i0 (by rw [e145]; exact i1) (by rcases hh with rfl | rfl <;> decide) (by rcases hh with rfl | rfl <;> decide), R 149 (by omega) (by omega), R 150 (by omega) (by omega), e1]
    refine wX12_turned_2 ⟨fun _ => ⟨fun c => ?_, fun c => ?_⟩, fun c => by rw [e145] at c; omega⟩
    · subst c
      refine c_creaseOf rep.1.1 rep.1.2.1 rep.1.2.2.1 (rep.1.rch hw) i0 (by rw [e145]; exact i1) (by omega) ?_
      rw [show (3 : Int) = dR 0 from rfl, f1v]
      refine ⟨⟨i0, by omega⟩, ?_⟩
      have rep2 : RepM ((up M0 165 i (f1 i)) 145 4) ((up M0 165 i (f1 i)) 149) ((up M0 165 i (f1 i)) 150) ((up M0 165 i (f1 i)) 151) ((up M0 165 i (f1 i)) 152) s := rep.rows (by rw [up_ne _ _ _ (by omega)]) (fun c c0 c1 => up_ne _ _ _ (by omega))
      refine c_creaseOf rep2.1.1 rep2.1.2.1 rep2.1.2.2.1 (rep2.1.rch hw) i0 (by rw [up_ne _ _ _ (by omega), e145]; exact i1) (by omega) ⟨by constructor <;> omega, ?_⟩
      rw [crO_rep rep2 hw i0 (by rw [up_ne _ _ _ (by omega), e145]; exact i1) (by omega) (by omega), up_ne _ _ _ (by omega : (149 : Nat) ≠ 165), up_ne _ _ _ (by omega : (150 : Nat) ≠ 165), R 149 (by omega) (by omega), R 150 (by omega) (by omega)]
      have : s4 s (m 149 i) (m 150 i) 0 = f2 i := by rw [e2]; rfl
      rw [this, fin]
      exact ih
    · have h1 : h = 1 := by omega
      subst h1
      refine c_creaseOf rep.1.1 rep.1.2.1 rep.1.2.2.1 (rep.1.rch hw) i0 (by rw [e145]; exact i1) (by omega) ?_
      rw [show (2 : Int) = dR 1 from rfl, f1v]
      refine ⟨⟨i0, by omega, by constructor <;> omega⟩, ?_⟩
      have : M0 152 i = f2 i := by
        rw [(rep.2 i i0 (by rw [e145]; exact i1)).2, R 149 (by omega) (by omega), R 150 (by omega) (by omega), e2]; rfl
      rw [this, fin]
      exact ih
end C8t
