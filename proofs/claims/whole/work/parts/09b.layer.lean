/-! layer: the reference; what it is for the bodies -/
theorem bit_mod (x : Int) {p : Int} (p0 : 0 ≤ p) (p1 : p < 16) : x % 65536 / 2 ^ p.toNat % 2 = x / 2 ^ p.toNat % 2 := by
  rcases (show p = 0 ∨ p = 1 ∨ p = 2 ∨ p = 3 ∨ p = 4 ∨ p = 5 ∨ p = 6 ∨ p = 7 ∨ p = 8 ∨ p = 9 ∨ p = 10 ∨ p = 11 ∨ p = 12 ∨ p = 13 ∨ p = 14 ∨ p = 15 by omega) with rfl | rfl | rfl | rfl | rfl | rfl | rfl | rfl | rfl | rfl | rfl | rfl | rfl | rfl | rfl | rfl
  · show x % 65536 / 1 % 2 = x / 1 % 2; omega
  · show x % 65536 / 2 % 2 = x / 2 % 2; omega
  · show x % 65536 / 4 % 2 = x / 4 % 2; omega
  · show x % 65536 / 8 % 2 = x / 8 % 2; omega
  · show x % 65536 / 16 % 2 = x / 16 % 2; omega
  · show x % 65536 / 32 % 2 = x / 32 % 2; omega
  · show x % 65536 / 64 % 2 = x / 64 % 2; omega
  · show x % 65536 / 128 % 2 = x / 128 % 2; omega
  · show x % 65536 / 256 % 2 = x / 256 % 2; omega
  · show x % 65536 / 512 % 2 = x / 512 % 2; omega
  · show x % 65536 / 1024 % 2 = x / 1024 % 2; omega
  · show x % 65536 / 2048 % 2 = x / 2048 % 2; omega
  · show x % 65536 / 4096 % 2 = x / 4096 % 2; omega
  · show x % 65536 / 8192 % 2 = x / 8192 % 2; omega
  · show x % 65536 / 16384 % 2 = x / 16384 % 2; omega
  · show x % 65536 / 32768 % 2 = x / 32768 % 2; omega
theorem bit_of {x p : Int} (hx : R32 x) (p0 : 0 ≤ p) (p1 : p < 16) : bAnd (bShr x p) 1 = x / 2 ^ p.toNat % 2 := by
  have e := bShr_div hx p0 (by omega)
  have r : R32 (bShr x p) := tr_of _
  rw [bAnd_1 r, e]
/-- a layer is laid, in both -/
theorem BR.put {l t c l' t' c' : Int → Int} (h : BR l t c) {z x : Int} (z0 : 0 ≤ z) (z1 : z < 4) (h1 : l' = ur l z (x % 65536)) (h2 : t' = ur t z 1) (h3 : c' = fil (fun p => x / 2 ^ p.toNat % 2) c (16 * z) 16) : BR l' t' c' := by
  subst h1; subst h2; subst h3
  intro w w0 w1
  by_cases q : w = z
  · subst q
    rw [ur_eq, ur_eq]
    refine Or.inr ⟨rfl, by omega, by omega, fun p p0 p1 => ?_⟩
    rw [fil_in _ _ (by omega), show 16 * w + p - 16 * w = p by omega, bit_mod x p0 p1]
  · rw [ur_ne _ _ q, ur_ne _ _ q]
    rcases h w w0 w1 with ⟨a, b, d⟩ | ⟨a, b, b2, d⟩
    · exact Or.inl ⟨a, b, fun p p0 p1 => by rw [fil_out _ _ (by omega)]; exact d p p0 p1⟩
    · exact Or.inr ⟨a, b, b2, fun p p0 p1 => by rw [fil_out _ _ (by omega)]; exact d p p0 p1⟩
section C9b
variable {m : tM}
theorem c_layerM {z x : Int} {K : Int → tM → Prop} (h12 : 0 ≤ m 145 12 ∧ m 145 12 < 8) (h13 : 0 ≤ m 145 13 ∧ m 145 13 ≤ 8) (hbad : ¬ (0 ≤ z ∧ z < 4) → K (-3) (up m 145 0 0)) (hok : 0 ≤ z ∧ z < 4 → ∀ m1, CM (up m 145 0 0) m1 → ∀ m2, m2 = sr (up m1 146 z 1) 147 (fil (fun p => x / 2 ^ p.toNat % 2) (m1 147) (16 * z) 16) → K (sm (fun p => m2 147 (16 * z + p)) 16) m2) : Cli mX12_layer [rV 145, iV z, iV x] m K := by
  refine Tj.rl 2 rfl (fun hx => ?_)
  refine wX12_layer_0 (c_in ⟨fun c => ⟨_, rfl, hbad (fun e => by rw [if_pos (by omega)] at c; omega)⟩, fun c => ?_⟩)
  have p : 0 ≤ z ∧ z < 4 := by
    by_cases g : 0 ≤ z ∧ z ≤ 3
    · omega
    · rw [if_neg g] at c; exact absurd rfl c
  refine c_change (by rw [up_at_ne _ _ _ (by omega)]; exact h12) (by rw [up_at_ne _ _ _ (by omega)]; exact h13) (fun m1 cm => ⟨p, ?_⟩)
  have e147 : (up m1 146 z 1) 147 = m1 147 := up_ne _ _ _ (by omega)
  have key := up_ind (n := 16) (fun i => Tj mX12_layer 30 [some (rV 145), some (iV z), some (iV x), some (iV i)] [] (sr (up m1 146 z 1) 147 (fil (fun p => x / 2 ^ p.toNat % 2) (m1 147) (16 * z) i)) (fun r m' => ∃ n, r = some (iV n) ∧ K n m')) ?_ ?_ (i := 0) (by omega) (by omega)
  · rw [fil_0, ← e147, sr_self] at key
    exact key
  · refine wX12_layer_30 ⟨fun c => by omega, fun _ => c_cubesInM p.1 p.2 (fun w w0 w1 => ?_) ⟨_, rfl, hok p m1 cm _ rfl⟩⟩
    rw [sr_eq, fil_in _ _ (by omega)]
    have := Int.emod_nonneg (x / 2 ^ (16 * z + w - 16 * z).toNat) (by decide : (2 : Int) ≠ 0)
    have := Int.emod_lt_of_pos (x / 2 ^ (16 * z + w - 16 * z).toNat) (by decide : (0 : Int) < 2)
    omega
  · intro i i0 i1 ih
    refine wX12_layer_30 ⟨fun _ => ⟨⟨by constructor <;> omega, by constructor <;> omega, by omega, by omega, by constructor <;> omega⟩, ?_⟩, fun c => absurd i1 c⟩
    rw [bit_of hx i0 i1, up_sr, fil_s (fun p => x / 2 ^ p.toNat % 2) (m1 147) (16 * z) i0]
    exact ih
end C9b
