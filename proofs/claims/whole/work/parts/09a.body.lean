/-! layers -/
section C9a
variable {m : tM}
theorem c_misses {z : Int} {K : Int → tM → Prop} (z0 : 0 ≤ z) (z1 : z < 4) (h : K (if m 3 z = -1 then 1 else 0) m) : Cli mX1_misses [rV 2, iV z] m K :=
  wX1_misses_0 ⟨⟨z0, z1⟩, fun v hv => ⟨v, rfl, by rw [hv]; exact h⟩⟩
/-- the bits of a layer, none if it is missing -/
def lbits (l : Int) : Int := if l = -1 then 0 else l
theorem c_bitsOf {z : Int} {K : Int → tM → Prop} (z0 : 0 ≤ z) (z1 : z < 4) (h : K (lbits (m 3 z)) m) : Cli mX1_bitsOf [rV 2, iV z] m K := by
  unfold lbits at h
  refine wX1_bitsOf_0 (c_misses z0 z1 ⟨fun c => ⟨⟨z0, z1⟩, _, rfl, ?_⟩, fun c => ⟨_, rfl, ?_⟩⟩)
  · by_cases q : m 3 z = -1
    · rw [if_pos q] at c; omega
    · rw [if_neg q] at h; exact h
  · by_cases q : m 3 z = -1
    · rw [if_pos q] at h; exact h
    · rw [if_neg q] at c; exact absurd rfl c
theorem c_put {z x : Int} {K : tM → Prop} (z0 : 0 ≤ z) (z1 : z < 4) (h : K (up m 3 z (x % 65536))) : Clv mX1_put [rV 2, iV z, iV x] m K := by
  refine Tj.rl 2 rfl (fun hx => wX1_put_0 ⟨⟨z0, z1⟩, rfl, ?_⟩)
  rw [bAnd_65535 hx]
  exact h
theorem c_take1 {z : Int} {K : tM → Prop} (z0 : 0 ≤ z) (z1 : z < 4) (h : K (up m 3 z (-1))) : Clv mX1_take [rV 2, iV z] m K := wX1_take_0 ⟨⟨z0, z1⟩, rfl, h⟩
theorem c_cubesIn {z : Int} {K : Int → tM → Prop} (z0 : 0 ≤ z) (z1 : z < 4) (b0 : 0 ≤ lbits (m 3 z)) (b1 : lbits (m 3 z) < 65536) (h : K (popN (lbits (m 3 z)).toNat 16 : Int) m) : Cli mX1_cubesIn [rV 2, iV z] m K :=
  wX1_cubesIn_0 (c_bitsOf z0 z1 (c_bitCount b0 b1 ⟨_, rfl, h⟩))
/-- the reference: a sum -/
theorem c_cubesInM {z : Int} {K : Int → tM → Prop} (z0 : 0 ≤ z) (z1 : z < 4) (hc : ∀ p, 0 ≤ p → p < 16 → 0 ≤ m 147 (16 * z + p) ∧ m 147 (16 * z + p) ≤ 1) (h : K (sm (fun p => m 147 (16 * z + p)) 16) m) : Cli mX12_cubesIn [rV 145, iV z] m K := by
  refine wX12_cubesIn_0 ?_
  have B : ∀ n : Nat, n ≤ 16 → 0 ≤ sm (fun p => m 147 (16 * z + p)) n ∧ sm (fun p => m 147 (16 * z + p)) n ≤ n := by
    intro n
    induction n with
    | zero => intro _; rw [sm]; omega
    | succ n ih =>
      intro hn
      have := ih (by omega)
      have c := hc n (by omega) (by omega)
      rw [sm]
      omega
  have key := up_ind (n := 16) (fun i => Tj mX12_cubesIn 4 [some (rV 145), some (iV z), some (iV (sm (fun p => m 147 (16 * z + p)) i.toNat)), some (iV i)] [] m (fun r m' => ∃ n, r = some (iV n) ∧ K n m')) ?_ ?_ (i := 0) (by omega) (by omega)
  · exact key
  · exact wX12_cubesIn_4 ⟨fun c => by omega, fun _ => ⟨_, rfl, h⟩⟩
  · intro i i0 i1 ih
    have b := B i.toNat (by omega)
    have c := hc i i0 i1
    refine wX12_cubesIn_4 ⟨fun _ => ⟨⟨by constructor <;> omega, by constructor <;> omega, by omega, by omega, by constructor <;> omega, by constructor <;> omega⟩, ?_⟩, fun c => absurd i1 c⟩
    have e : sm (fun p => m 147 (16 * z + p)) i.toNat + m 147 (16 * z + i) = sm (fun p => m 147 (16 * z + p)) (i + 1).toNat := by
      rw [show (i + 1).toNat = i.toNat + 1 by omega, sm, ix_cast i0]
    rw [e]
    exact ih
end C9a
/-- what a layer is, in both -/
theorem BR.lb {l t c : Int → Int} (h : BR l t c) {z : Int} (z0 : 0 ≤ z) (z1 : z < 4) : 0 ≤ lbits (l z) ∧ lbits (l z) < 65536 ∧ ∀ p, 0 ≤ p → p < 16 → c (16 * z + p) = lbits (l z) / 2 ^ p.toNat % 2 := by
  unfold lbits
  rcases h z z0 z1 with ⟨a, b, d⟩ | ⟨a, b, b2, d⟩
  · rw [if_pos b]
    refine ⟨by omega, by omega, fun p p0 p1 => ?_⟩
    rw [d p p0 p1, Int.zero_ediv]
    rfl
  · rw [if_neg (by omega)]
    exact ⟨b, b2, d⟩
theorem pop_sum (n : Nat) : ∀ k, (popN n k : Int) = sm (fun p => (n : Int) / 2 ^ p.toNat % 2) k
  | 0 => rfl
  | k + 1 => by
    rw [sm, ← pop_sum n k, popN, Int.natCast_add, Int.toNat_natCast]
    congr 1
theorem BR.cnt {l t c : Int → Int} (h : BR l t c) {z : Int} (z0 : 0 ≤ z) (z1 : z < 4) : sm (fun p => c (16 * z + p)) 16 = (popN (lbits (l z)).toNat 16 : Int) := by
  obtain ⟨a, b, d⟩ := h.lb z0 z1
  rw [pop_sum, ix_cast a]
  exact sm_congr (fun p p0 p1 => d p p0 (by omega))
