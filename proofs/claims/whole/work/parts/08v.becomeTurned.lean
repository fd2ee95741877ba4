/-! becomeTurned -/
section C8v
variable {m : tM}
theorem c_becomeTurned {a b : Nat} {q o : Int} {s : SS} {K : tM → Prop} (sa : shS a) (sb : shS b) (hab : a + 4 ≤ b ∨ b + 4 ≤ a) (hr : RepC (m b 3) (m (b + 1)) (m (b + 2)) (m (b + 3)) s) (hw : WF s) (q0 : 0 ≤ q) (q1 : q < 4) (ho : o = 0 ∨ o = 1) (h : ∀ m', (∀ c, c < a ∨ a + 3 < c → m' c = m c) → RepC (m' a 3) (m' (a + 1)) (m' (a + 2)) (m' (a + 3)) (gS q o s) → K m') : Clv mX8_becomeTurned [rV a, rV b, iV q, iV o] m K := by
  have n0 := hr.1.1
  have n1 := hr.1.2.1
  have loop : ∀ (u : Nat) (i : Int), (m b 3 - i).toNat = u → 0 ≤ i → i ≤ m b 3 → ∀ m1, (∀ c, c < a ∨ a + 3 < c → m1 c = m c) → m1 a 3 = i → RepI i (m1 (a + 1)) (m1 (a + 2)) (fun x y => ∃ j, 0 ≤ j ∧ j < i ∧ gX q o (m (b + 1) j) (m (b + 2) j) = x ∧ gY q o (m (b + 1) j) (m (b + 2) j) = y) → (∀ k d, 0 ≤ k → k < i → 0 ≤ d → d < 4 → m1 (a + 3) (4 * k + d) = s4 s (hX q o (m1 (a + 1) k) (m1 (a + 2) k)) (hY q (m1 (a + 1) k) (m1 (a + 2) k)) (bd q o d)) → Tj mX8_becomeTurned 8 [some (rV a), some (rV b), some (iV q), some (iV o), some (iV i)] [] m1 (fun r m' => r = none ∧ K m') := by
    intro u
    induction u with
    | zero =>
      intro i iu i0 i1 m1 f1 f2 f3 f4
      have ie : i = m b 3 := by omega
      have eb := f1 b (by omega)
      refine wX8_becomeTurned_8 sa.1 sb.1 ⟨fun c => by rw [eb] at c; omega, fun _ => ⟨rfl, h m1 f1 ?_⟩⟩
      rw [f2]
      refine ⟨⟨f3.1, f3.2.1, f3.2.2.1, fun x y => ?_⟩, fun k d k0 k1 d0 d1 => ?_⟩
      · refine Iff.trans ⟨fun g => ?_, fun g => ?_⟩ (f3.2.2.2 x y)
        · obtain ⟨j, j0, j1, jx, jy⟩ := (hr.1.2.2.2 _ _).mp g
          refine ⟨j, j0, by omega, ?_, ?_⟩
          · rw [jx, jy]; exact (hg q0 q1 ho x y).1
          · rw [jx, jy]; exact (hg q0 q1 ho x y).2
        · obtain ⟨j, j0, j1, jx, jy⟩ := g
          refine (hr.1.2.2.2 _ _).mpr ⟨j, j0, by omega, ?_, ?_⟩
          · rw [← jx, ← jy]; exact (gh q0 q1 ho _ _).1.symm
          · rw [← jx, ← jy]; exact (gh q0 q1 ho _ _).2.symm
      · rw [s4_g s q0 q1 ho d0 d1]
        exact f4 k d k0 k1 d0 d1
    | succ u ih =>
      intro i iu i0 i1 m1 f1 f2 f3 f4
      have il : i < m b 3 := by omega
      have eb := f1 b (by omega)
      have eb1 := f1 (b + 1) (by omega)
      have eb2 := f1 (b + 2) (by omega)
      have eb3 := f1 (b + 3) (by omega)
      have r := hr.1.rch hw i i0 il
      generalize hx : m (b + 1) i = px at r
      generalize hy : m (b + 2) i = py at r
      refine wX8_becomeTurned_8 sa.1 sb.1 ⟨fun _ => c_turnedX sb i0 (by omega) (by rw [eb1, hx]; exact r.1) (by rw [eb2, hy]; exact r.2) q0 q1 (c_turnedY sb i0 (by omega) (by rw [eb1, hx]; exact r.1) (by rw [eb2, hy]; exact r.2) q0 q1 ?_), fun c => by rw [eb] at c; omega⟩
      rw [eb1, eb2, hx, hy]
      refine c_add sa (by rw [f2]; exact i0) (by rw [f2]; omega) (fun m2 e ad => ?_)
      obtain ⟨hf, a1, a2, a3, a4, a5⟩ := id ad
      rw [f2] at hf a2 a5
      have no : ¬ (∃ j, 0 ≤ j ∧ j < i ∧ gX q o (m (b + 1) j) (m (b + 2) j) = gX q o px py ∧ gY q o (m (b + 1) j) (m (b + 2) j) = gY q o px py) := by
        rintro ⟨j, j0, j1, jx, jy⟩
        have p := gh q0 q1 ho (m (b + 1) j) (m (b + 2) j)
        have p' := gh q0 q1 ho px py
        rw [jx, jy] at p
        have := srt_inj hr.1.2.2.1 j0 (by omega) i0 il (by rw [hx]; exact p.1.symm.trans p'.1) (by rw [hy]; exact p.2.symm.trans p'.2)
        omega
      have ri := f3.ins (by omega) no hf (fun j j0 j1 => ⟨(a3 j j0 j1).1, (a3 j j0 j1).2.1⟩) ⟨a4.1, a4.2.1⟩ (fun j j0 j1 => ⟨(a5 j j0 j1).1, (a5 j j0 j1).2.1⟩)
      obtain ⟨e0, e1, -, -⟩ := id hf
      have b2 : ∀ c, c < a ∨ a + 3 < c → m2 c = m c := fun c hc => by rw [a1 c hc, f1 c hc]
      generalize hv : (fun d => s4 s px py (bd q o d)) = val
      have vd : ∀ d, val d = s4 s px py (bd q o d) := fun d => by rw [← hv]
      have key := up_ind (n := 4) (fun d => Tj mX8_becomeTurned 42 [some (rV a), some (rV b), some (iV q), some (iV o), some (iV i), some (iV e), some (iV d)] [] (sr m2 (a + 3) (fil val (m2 (a + 3)) (4 * e) d)) (fun r m' => r = none ∧ K m')) ?_ ?_ (i := 0) (by omega) (by omega)
      · rw [fil_0, sr_self] at key
        exact key
      · refine wX8_becomeTurned_42 sa.1 sa.2.2.2 sb.1 ⟨fun c => by omega, fun _ => ⟨fun c => by omega, fun _ => ⟨by constructor <;> omega, ?_⟩⟩⟩
        have g0 : ∀ c, c ≠ a + 3 → (sr m2 (a + 3) (fil val (m2 (a + 3)) (4 * e) 4)) c = m2 c := fun c hc => sr_ne _ _ hc
        refine ih (i + 1) (by omega) (by omega) (by omega) _ (fun c hc => by rw [g0 c (by omega), b2 c hc]) (by rw [g0 a (by omega), a2]) ?_ (fun k d k0 k1 d0 d1 => ?_)
        · rw [g0 (a + 1) (by omega), g0 (a + 2) (by omega)]
          refine ⟨ri.1, ri.2.1, ri.2.2.1, fun x y => Iff.trans ⟨fun g => ?_, fun g => ?_⟩ (ri.2.2.2 x y)⟩
          · obtain ⟨j, j0, j1, jx, jy⟩ := g
            by_cases w : j = i
            · rw [w, hx, hy] at jx jy; exact Or.inr ⟨jx.symm, jy.symm⟩
            · exact Or.inl ⟨j, j0, by omega, jx, jy⟩
          · rcases g with ⟨j, j0, j1, jx, jy⟩ | ⟨gx, gy⟩
            · exact ⟨j, j0, by omega, jx, jy⟩
            · exact ⟨i, i0, by omega, by rw [hx, hy]; exact gx.symm, by rw [hx, hy]; exact gy.symm⟩
        · rw [g0 (a + 1) (by omega), g0 (a + 2) (by omega), sr_eq]
          rcases Int.lt_trichotomy k e with w | w | w
          · obtain ⟨c1, c2, c3⟩ := a3 k k0 w
            rw [fil_out _ _ (by omega), c3 d d0 d1, c1, c2]
            exact f4 k d k0 (by omega) d0 d1
          · rw [w, fil_in _ _ (by omega), a4.1, a4.2.1, (gh q0 q1 ho px py).1, (gh q0 q1 ho px py).2, show 4 * e + d - 4 * e = d by omega, vd]
          · obtain ⟨c1, c2, c3⟩ := a5 k w (by omega)
            rw [fil_out _ _ (by omega), c3 d d0 d1, c1, c2]
            exact f4 (k - 1) d (by omega) (by omega) d0 d1
      · intro d d0 d1 ihd
        have g3 : (sr m2 (a + 3) (fil val (m2 (a + 3)) (4 * e) d)) (b + 3) = m (b + 3) := by rw [sr_ne _ _ (by omega), b2 _ (by omega)]
        refine wX8_becomeTurned_42 sa.1 sa.2.2.2 sb.1 ⟨fun c => by omega, fun _ => ⟨fun _ => ⟨⟨by constructor <;> omega, by constructor <;> omega⟩, c_turnedCrease sb i0 (by omega) d0 d1 q0 q1 ⟨⟨by omega, by omega, by constructor <;> omega⟩, ?_⟩⟩, fun c => absurd d1 c⟩⟩
        have bb : 0 ≤ bd q o d ∧ bd q o d < 4 := by unfold bd; split <;> omega
        rw [g3, hr.2 i (bd q o d) i0 il bb.1 bb.2, hx, hy, ← vd d, up_sr, fil_s _ _ _ d0]
        exact ihd
  refine wX8_becomeTurned_0 sa.1 ?_
  refine loop _ 0 rfl (by omega) n0 _ (fun c hc => up_ne _ _ _ (by omega)) (up_at _ _ _ _) ⟨by omega, by omega, fun i j i0 ij j1 => by omega, fun x y => ⟨fun ⟨j, j0, j1, _⟩ => by omega, fun ⟨k, k0, k1, _⟩ => by omega⟩⟩ (fun k d k0 k1 => by omega)
end C8v
