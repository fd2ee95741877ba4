/-! sums; how many creases -/
def sm (f : Int → Int) : Nat → Int
  | 0 => 0
  | n + 1 => sm f n + f (n : Int)
theorem sm_congr {f g : Int → Int} : ∀ {n : Nat}, (∀ k : Int, 0 ≤ k → k < n → f k = g k) → sm f n = sm g n
  | 0, _ => rfl
  | n + 1, h => by rw [sm, sm, sm_congr (fun k k0 k1 => h k k0 (by omega)), h n (by omega) (by omega)]
theorem sm_add (f g : Int → Int) : ∀ n, sm (fun k => f k + g k) n = sm f n + sm g n
  | 0 => rfl
  | n + 1 => by rw [sm, sm, sm, sm_add f g n]; omega
theorem sm_zero : ∀ n, sm (fun _ => 0) n = 0
  | 0 => rfl
  | n + 1 => by rw [sm, sm_zero n]; rfl
theorem sm_comm (f : Int → Int → Int) (n : Nat) : ∀ k, sm (fun i => sm (fun j => f i j) n) k = sm (fun j => sm (fun i => f i j) k) n
  | 0 => (sm_zero n).symm
  | k + 1 => by
    rw [sm, sm_comm f n k, ← sm_add]
    rfl
theorem sm_none {f : Int → Int} : ∀ {n : Nat}, (∀ k : Int, 0 ≤ k → k < n → f k = 0) → sm f n = 0 := fun {n} h => (sm_congr h).trans (sm_zero n)
theorem sm_one {f : Int → Int} {j : Int} : ∀ {n : Nat}, 0 ≤ j → j < n → (∀ k : Int, 0 ≤ k → k < n → k ≠ j → f k = 0) → sm f n = f j
  | 0, h0, h1, _ => by omega
  | n + 1, h0, h1, h => by
    rw [sm]
    by_cases q : j = n
    · subst q
      rw [sm_none (fun k k0 k1 => h k k0 (by omega) (by omega)), Int.zero_add]
    · rw [sm_one h0 (by omega) (fun k k0 k1 => h k k0 (by omega)), h n (by omega) (by omega) (fun e => q e.symm), Int.add_zero]
theorem sm_bound {f : Int → Int} {c : Int} (h : ∀ k, 0 ≤ f k ∧ f k ≤ c) : ∀ n : Nat, 0 ≤ sm f n ∧ sm f n ≤ n * c
  | 0 => by rw [sm]; omega
  | n + 1 => by
    have a := sm_bound h n
    have b := h n
    rw [sm]
    have e : ((n + 1 : Nat) : Int) * c = n * c + c := by
      rw [Int.natCast_add, Int.add_mul]; omega
    rw [e]
    omega
/-- a number at places, summed over the spots, and over their neighbours -/
theorem sm_shift {n : Nat} {X Y : Int → Int} {S : Int → Int → Prop} (h : RepI (n : Int) X Y S) (g : Int → Int → Int) (dx dy : Int) (hg : ∀ x y, g x y ≠ 0 → S x y ∧ S (x + dx) (y + dy)) : sm (fun k => g (X k - dx) (Y k - dy)) n = sm (fun k => g (X k) (Y k)) n := by
  have inj := h.2.2.1
  have e1 : sm (fun k => g (X k - dx) (Y k - dy)) n = sm (fun k => sm (fun j => if X j = X k - dx ∧ Y j = Y k - dy then g (X j) (Y j) else 0) n) n := by
    refine sm_congr (fun k k0 k1 => ?_)
    by_cases q : g (X k - dx) (Y k - dy) = 0
    · rw [q, sm_none (fun j j0 j1 => ?_)]
      by_cases w : X j = X k - dx ∧ Y j = Y k - dy
      · rw [if_pos w, w.1, w.2, q]
      · rw [if_neg w]
    · obtain ⟨j, j0, j1, jx, jy⟩ := (h.2.2.2 _ _).mp (hg _ _ q).1
      rw [sm_one j0 j1 (fun i i0 i1 ij => ?_), if_pos ⟨jx, jy⟩, jx, jy]
      rw [if_neg]
      intro w
      exact ij (srt_inj inj i0 i1 j0 j1 (w.1.trans jx.symm) (w.2.trans jy.symm))
  rw [e1, sm_comm]
  refine sm_congr (fun j j0 j1 => ?_)
  by_cases q : g (X j) (Y j) = 0
  · rw [q, sm_none (fun k k0 k1 => ?_)]
    by_cases w : X j = X k - dx ∧ Y j = Y k - dy
    · rw [if_pos w]
    · rw [if_neg w]
  · obtain ⟨k, k0, k1, kx, ky⟩ := (h.2.2.2 _ _).mp (hg _ _ q).2
    rw [sm_one k0 k1 (fun i i0 i1 ik => ?_), if_pos ⟨by omega, by omega⟩]
    rw [if_neg]
    intro w
    exact ik (srt_inj inj i0 i1 k0 k1 (by omega) (by omega))
def nz (v : Int) : Int := if v = 0 then 0 else 1
theorem nz_r (v : Int) : 0 ≤ nz v ∧ nz v ≤ 1 := by unfold nz; split <;> omega
theorem nz_ne {v : Int} (h : nz v ≠ 0) : v ≠ 0 := by
  intro e
  unfold nz at h
  rw [if_pos e] at h
  exact h rfl
section C8y
variable {m : tM}
theorem c_creases {K : Int → tM → Prop} (h0 : 0 ≤ m 145 4) (h1 : m 145 4 ≤ 60) (h : K (sm (fun k => nz (m 151 k) + nz (m 152 k)) (m 145 4).toNat) m) : Cli mX12_creases [rV 145] m K := by
  refine wX12_creases_0 ?_
  have bd2 : ∀ k, 0 ≤ nz (m 151 k) + nz (m 152 k) ∧ nz (m 151 k) + nz (m 152 k) ≤ 2 := fun k => by
    have a := nz_r (m 151 k); have b := nz_r (m 152 k); omega
  have key := up_ind (n := m 145 4) (fun i => Tj mX12_creases 4 [some (rV 145), some (iV (sm (fun k => nz (m 151 k) + nz (m 152 k)) i.toNat)), some (iV i)] [] m (fun r m' => ∃ n, r = some (iV n) ∧ K n m')) ?_ ?_ (i := 0) (by omega) h0
  · exact key
  · exact wX12_creases_4 ⟨fun c => by omega, fun _ => ⟨_, rfl, h⟩⟩
  · intro i i0 i1 ih
    refine wX12_creases_4 ⟨fun _ => ⟨⟨i0, by omega⟩, fun v hv v' hv' => ?_⟩, fun c => absurd i1 c⟩
    have e1 : v = nz (m 151 i) := hv
    have e2 : v' = nz (m 152 i) := hv'
    have B := sm_bound bd2 i.toNat
    have C := bd2 i
    rw [e1, e2]
    refine ⟨⟨by constructor <;> omega, by constructor <;> omega, by constructor <;> omega⟩, ?_⟩
    have e : sm (fun k => nz (m 151 k) + nz (m 152 k)) i.toNat + (nz (m 151 i) + nz (m 152 i)) = sm (fun k => nz (m 151 k) + nz (m 152 k)) (i + 1).toNat := by
      rw [show (i + 1).toNat = i.toNat + 1 by omega, sm, ix_cast i0]
    rw [e]
    exact ih
theorem c_creaseCount {a : Nat} {K : Int → tM → Prop} (sa : shS a) (h0 : 0 ≤ m a 3) (h1 : m a 3 ≤ 60) (h : K (sm (fun k => cnt4 (m (a + 3)) k) (m a 3).toNat / 2) m) : Cli mX8_creaseCount [rV a] m K := by
  refine wX8_creaseCount_0 ?_
  have b4 : ∀ k, 0 ≤ cnt4 (m (a + 3)) k ∧ cnt4 (m (a + 3)) k ≤ 4 := fun k => by
    unfold cnt4
    have x0 := if01 (c := m (a + 3) (4 * k) = 0)
    have x1 := if01 (c := m (a + 3) (4 * k + 1) = 0)
    have x2 := if01 (c := m (a + 3) (4 * k + 2) = 0)
    have x3 := if01 (c := m (a + 3) (4 * k + 3) = 0)
    omega
  have key := up_ind (n := m a 3) (fun i => Tj mX8_creaseCount 4 [some (rV a), some (iV (sm (fun k => cnt4 (m (a + 3)) k) i.toNat)), some (iV i)] [] m (fun r m' => ∃ n, r = some (iV n) ∧ K n m')) ?_ ?_ (i := 0) (by omega) h0
  · exact key
  · have B := sm_bound b4 (m a 3).toNat
    exact wX8_creaseCount_4 sa.1 ⟨fun c => by omega, fun _ => ⟨B.1, _, rfl, h⟩⟩
  · intro i i0 i1 ih
    have B : 0 ≤ sm (fun k => cnt4 (m (a + 3)) k) i.toNat ∧ sm (fun k => cnt4 (m (a + 3)) k) i.toNat ≤ (i.toNat : Int) * 4 := sm_bound b4 i.toNat
    have C := b4 i
    refine wX8_creaseCount_4 sa.1 ⟨fun _ => c_creasesOf sa i0 (by omega) ⟨⟨by constructor <;> omega, by constructor <;> omega⟩, ?_⟩, fun c => absurd i1 c⟩
    have e : sm (fun k => cnt4 (m (a + 3)) k) i.toNat + cnt4 (m (a + 3)) i = sm (fun k => cnt4 (m (a + 3)) k) (i + 1).toNat := by
      rw [show (i + 1).toNat = i.toNat + 1 by omega, sm, ix_cast i0]
    rw [e]
    exact ih
/-- both count the same creases -/
theorem crease_sum (hc : Cur m) : sm (fun k => cnt4 (m 9) k) (m 6 3).toNat / 2 = sm (fun k => nz (m 151 k) + nz (m 152 k)) (m 145 4).toNat := by
  have ce := hc.eq
  obtain ⟨hB, hE, s, hw, rc, rm⟩ := hc
  have n0 := rc.1.1
  obtain ⟨n, hn⟩ : ∃ n : Nat, m 6 3 = n := ⟨(m 6 3).toNat, by omega⟩
  have hn' : m 145 4 = n := by rw [← ce.1, hn]
  have ri : RepI (n : Int) (m 7) (m 8) s.1 := by rw [← hn]; exact rc.1
  rw [hn, hn', Int.toNat_natCast]
  have e1 : sm (fun k => cnt4 (m 9) k) n = sm (fun k => ((nz (s.2.1 (m 7 k) (m 8 k)) + nz (s.2.2 (m 7 k) (m 8 k))) + nz (s.2.1 (m 7 k - 1) (m 8 k - 0))) + nz (s.2.2 (m 7 k - 0) (m 8 k - 1))) n := by
    refine sm_congr (fun k k0 k1 => ?_)
    have q := fun d d0 d1 => rc.2 k d k0 (by omega) d0 d1
    have z0 := q 0 (by omega) (by omega)
    rw [Int.add_zero] at z0
    unfold cnt4
    rw [z0, q 1 (by omega) (by omega), q 2 (by omega) (by omega), q 3 (by omega) (by omega), Int.sub_zero, Int.sub_zero]
    rfl
  have s1 := sm_shift ri (fun x y => nz (s.2.1 x y)) 1 0 (fun x y g => by
    have := hw.2.2.2.1 _ _ (nz_ne g)
    rw [Int.add_zero]; exact this)
  have s2 := sm_shift ri (fun x y => nz (s.2.2 x y)) 0 1 (fun x y g => by
    have := hw.2.2.2.2 _ _ (nz_ne g)
    rw [Int.add_zero]; exact this)
  have e2 : sm (fun k => nz (m 151 k) + nz (m 152 k)) n = sm (fun k => nz (s.2.1 (m 7 k) (m 8 k)) + nz (s.2.2 (m 7 k) (m 8 k))) n := by
    refine sm_congr (fun k k0 k1 => ?_)
    have r := rm.2 k k0 (by omega)
    have x := ce.2 k k0 (by omega)
    rw [r.1, r.2, x.1, x.2]
  rw [e1, sm_add, sm_add, s1, s2, e2, sm_add]
  omega
end C8y
