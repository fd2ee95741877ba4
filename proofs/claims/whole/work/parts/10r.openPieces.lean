/-! open: the pieces -/
/-- a body with a cube has a square -/
theorem has_sq {c : Int → Int} : ∀ (t : Nat) (p : Int), 0 ≤ p → p < 64 → c p = 1 → 3 - p % 4 ≤ t → 0 < oN c 384
  | 0, p, p0, p1, hc, ht => by
    have e : bynd p 0 = -1 := by unfold bynd; rw [if_neg (by omega), if_pos rfl, if_pos (by omega)]
    have := oN_384 c p0 p1 (d := 0) (by omega) (by omega) ⟨⟨p0, hc⟩, fun z => by rw [e] at z; omega⟩
    omega
  | t + 1, p, p0, p1, hc, ht => by
    by_cases q : isC c (bynd p 0)
    · have b := by_r p0 p1 (d := 0) (by omega) (by omega)
      have e : bynd p 0 = if p % 4 = 3 then -1 else p + 1 := by unfold bynd; rw [if_neg (by omega), if_pos rfl]
      by_cases w : p % 4 = 3
      · rw [e, if_pos w] at q; exact absurd q.1 (by omega)
      · rw [e, if_neg w] at q
        exact has_sq t (p + 1) (by omega) (by omega) q.2 (by omega)
    · have := oN_384 c p0 p1 (d := 0) (by omega) (by omega) ⟨⟨p0, hc⟩, q⟩
      omega
theorem FLT.pos {c : Int → Int} (h : FLT c 0) : 0 < oN c 384 := by
  have w : ¬ W1 c := fun w => by have := h.1 w; omega
  refine Classical.byContradiction (fun no => w (fun p hp => no ?_))
  exact has_sq 3 p hp.1 hp.2.1 hp.2.2 (by omega)
/-- cuts lie on both sides -/
theorem SYM0.L {c ct L B : Int → Int} (h : SYM0 c ct) (hL : LDS c (4 * oN c 384) L B) {q e : Int} (q0 : 0 ≤ q) (q1 : q < oN c 384) (e0 : 0 ≤ e) (e1 : e < 4) : ct (L (4 * q + e)) = ct (4 * q + e) := by
  obtain ⟨p, d, p0, d0, ho, eq, -⟩ := sq_ex q0 q1
  have l := (hL.at p0 d0 ⟨e0, e1⟩ ho).1
  rw [eq] at l
  have s := h p d e p0.1 p0.2 d0.1 d0.2 e0 e1 ho
  rw [eq] at s
  rw [l]
  exact s
section C10r
variable {m : tM} {n : Int}
def RCL (n : Int) (lab : Int → L3) : Prop := ∀ q, 0 ≤ q → q < n → (-30 ≤ (lab q).1 ∧ (lab q).1 ≤ 30) ∧ (-30 ≤ (lab q).2.1 ∧ (lab q).2.1 ≤ 30)
theorem c_reachC {K : Int → tM → Prop} (hn : m 115 4 = n) (n0 : 0 ≤ n) (n1 : n ≤ 60) (hb : ∀ q, 0 ≤ q → q < n → bL 60 (labC m q)) (h1 : RCL n (labC m) → K 1 m) (h0 : ¬ RCL n (labC m) → K 0 m) : Cli mX5_isWithinReach [rV 115] m K := by
  refine wX5_isWithinReach_0 ?_
  have key := up_ind (n := n) (fun i => (∀ q, 0 ≤ q → q < i → (-30 ≤ m 116 q ∧ m 116 q ≤ 30) ∧ (-30 ≤ m 117 q ∧ m 117 q ≤ 30)) → Tj mX5_isWithinReach 2 [some (rV 115), some (iV i)] [] m (fun r m' => ∃ x, r = some (iV x) ∧ K x m')) ?_ ?_ (i := 0) (by omega) n0
  · exact key (fun q q0 q1 => by omega)
  · intro ok
    exact wX5_isWithinReach_2 ⟨fun g => absurd g (by rw [hn]; omega), fun _ => ⟨_, rfl, h1 ok⟩⟩
  · intro i i0 i1 ih ok
    have b1 : -60 ≤ m 116 i ∧ m 116 i ≤ 60 := (hb i i0 i1).1
    have b2 : -60 ≤ m 117 i ∧ m 117 i ≤ 60 := (hb i i0 i1).2
    refine wX5_isWithinReach_2 ⟨fun _ => ⟨⟨i0, by omega, by constructor <;> omega⟩, fun g => ⟨_, rfl, h0 (fun z => ?_)⟩, fun g => ⟨by constructor <;> omega, fun g2 => ⟨_, rfl, h0 (fun z => ?_)⟩, fun g2 => ⟨by constructor <;> omega, ih (fun q q0 q1 => ?_)⟩⟩⟩, fun g => absurd (by rw [hn]; exact i1) g⟩
    · have : -30 ≤ m 116 i ∧ m 116 i ≤ 30 := (z i i0 i1).1
      split at g <;> omega
    · have : -30 ≤ m 117 i ∧ m 117 i ≤ 30 := (z i i0 i1).2
      split at g2 <;> omega
    · by_cases w : q = i
      · rw [w]
        refine ⟨?_, ?_⟩
        · split at g <;> omega
        · split at g2 <;> omega
      · exact ok q q0 (by omega)
theorem reachM {K : Int → tM → Prop} (hn : m 145 17 = n) (n0 : 0 ≤ n) (n1 : n ≤ 60) (h1 : RCL n (labL m) → Clv mX12_keep [rV 145] m (fun m3 => (Tj mX12_open 110 [some (rV 145), none, some (iV 0)] [] (up m3 145 4 (m3 145 17)) (fun r m' => ∃ x, r = some (iV x) ∧ K x m')))) (h0 : ¬ RCL n (labL m) → K (-3) m) : Tj mX12_open 47 [some (rV 145), none, some (iV 0)] [] m (fun r m' => ∃ x, r = some (iV x) ∧ K x m') := by
  have key := up_ind (n := n) (fun i => (∀ q, 0 ≤ q → q < i → (-30 ≤ m 162 q ∧ m 162 q ≤ 30) ∧ (-30 ≤ m 163 q ∧ m 163 q ≤ 30)) → Tj mX12_open 47 [some (rV 145), none, some (iV i)] [] m (fun r m' => ∃ x, r = some (iV x) ∧ K x m')) ?_ ?_ (i := 0) (by omega) n0
  · exact key (fun q q0 q1 => by omega)
  · intro ok
    exact wX12_open_47 ⟨fun g => absurd g (by rw [hn]; omega), fun _ => h1 ok⟩
  · intro i i0 i1 ih ok
    refine wX12_open_47 ⟨fun _ => ⟨⟨i0, by omega⟩, c_in ⟨fun g => ⟨_, rfl, h0 (fun z => if10 g (z i i0 i1).1)⟩, fun g => c_in ⟨fun g2 => ⟨_, rfl, h0 (fun z => if10 g2 (z i i0 i1).2)⟩, fun g2 => ⟨by constructor <;> omega, ih (fun q q0 q1 => ?_)⟩⟩⟩⟩, fun g => absurd (by rw [hn]; exact i1) g⟩
    by_cases w : q = i
    · rw [w]; exact ⟨if11 g, if11 g2⟩
    · exact ok q q0 (by omega)
end C10r
