/-! the class's sheet: shift, add, join, remove -/
section C8h
variable {m : tM}
theorem c_creaseAt {a : Nat} {k d : Int} {K : Int → tM → Prop} (sa : shS a) (k0 : 0 ≤ k) (k1 : k < 60) (d0 : 0 ≤ d) (d1 : d < 4) (h : K (m (a + 3) (4 * k + d)) m) : Cli mX8_creaseAt [rV a, iV k, iV d] m K :=
  wX8_creaseAt_0 sa.1 sa.2.2.2 ⟨⟨by constructor <;> omega, by constructor <;> omega, by omega, by omega⟩, _, rfl, h⟩
theorem c_size {a : Nat} {K : Int → tM → Prop} (sa : shS a) (h : K (m a 3) m) : Cli mX8_size [rV a] m K := wX8_size_0 sa.1 ⟨_, rfl, h⟩
theorem c_xOf {a : Nat} {k : Int} {K : Int → tM → Prop} (sa : shS a) (k0 : 0 ≤ k) (k1 : k < 60) (h : K (m (a + 1) k) m) : Cli mX8_xOf [rV a, iV k] m K := wX8_xOf_0 sa.1 sa.2.1 ⟨⟨k0, k1⟩, _, rfl, h⟩
theorem c_yOf {a : Nat} {k : Int} {K : Int → tM → Prop} (sa : shS a) (k0 : 0 ≤ k) (k1 : k < 60) (h : K (m (a + 2) k) m) : Cli mX8_yOf [rV a, iV k] m K := wX8_yOf_0 sa.1 sa.2.2.1 ⟨⟨k0, k1⟩, _, rfl, h⟩
/-- how many creases a spot has -/
def cnt4 (C : Int → Int) (k : Int) : Int := (if C (4 * k) = 0 then 0 else 1) + (if C (4 * k + 1) = 0 then 0 else 1) + (if C (4 * k + 2) = 0 then 0 else 1) + (if C (4 * k + 3) = 0 then 0 else 1)
theorem if01 {c : Prop} [Decidable c] : 0 ≤ (if c then (0 : Int) else 1) ∧ (if c then (0 : Int) else 1) ≤ 1 := by split <;> omega
theorem c_creasesOf {a : Nat} {k : Int} {K : Int → tM → Prop} (sa : shS a) (k0 : 0 ≤ k) (k1 : k < 60) (h : K (cnt4 (m (a + 3)) k) m) : Cli mX8_creasesOf [rV a, iV k] m K := by
  refine wX8_creasesOf_0 ?_
  have g : ∀ x d : Int, 0 ≤ x → x ≤ 10 → 0 ≤ d → d < 4 → (Tj mX8_creasesOf 4 [some (rV a), some (iV k), some (iV (x + (if m (a + 3) (4 * k + d) = 0 then 0 else 1))), some (iV (d + 1))] [] m (fun r m' => ∃ n, r = some (iV n) ∧ K n m')) → Tj mX8_creasesOf 4 [some (rV a), some (iV k), some (iV x), some (iV d)] [] m (fun r m' => ∃ n, r = some (iV n) ∧ K n m') := by
    intro x d x0 x1 d0 d1 q
    refine wX8_creasesOf_4 sa.1 ⟨fun _ => c_creaseAt sa k0 k1 d0 d1 (fun v hv => ?_), fun c => absurd d1 c⟩
    have := if01 (c := m (a + 3) (4 * k + d) = 0)
    rw [hv]
    exact ⟨⟨by constructor <;> omega, by constructor <;> omega⟩, q⟩
  have b0 := if01 (c := m (a + 3) (4 * k + 0) = 0)
  have b1 := if01 (c := m (a + 3) (4 * k + 1) = 0)
  have b2 := if01 (c := m (a + 3) (4 * k + 2) = 0)
  refine g 0 0 (by omega) (by omega) (by omega) (by omega) (g _ 1 (by omega) (by omega) (by omega) (by omega) (g _ 2 (by omega) (by omega) (by omega) (by omega) (g _ 3 (by omega) (by omega) (by omega) (by omega) ?_)))
  refine wX8_creasesOf_4 sa.1 ⟨fun c => by omega, fun _ => ⟨_, rfl, ?_⟩⟩
  unfold cnt4 at h
  rw [Int.zero_add, Int.add_zero]
  exact h
/-- shift -/
theorem c_shift {a : Nat} {f t n : Int} {K : tM → Prop} (sa : shS a) (f0 : 0 ≤ f) (t0 : 0 ≤ t) (n0 : 0 ≤ n) (fn : f + n ≤ 60) (tn : t + n ≤ 60)
    (h : ∀ m', (∀ c, c < a + 1 ∨ a + 3 < c → m' c = m c) → m' (a + 1) = fil (fun z => m (a + 1) (f + z)) (m (a + 1)) t n → m' (a + 2) = fil (fun z => m (a + 2) (f + z)) (m (a + 2)) t n → m' (a + 3) = fil (fun z => m (a + 3) (4 * f + z)) (m (a + 3)) (4 * t) (4 * n) → K m') : Clv mX8_shift [rV a, iV f, iV t, iV n] m K := by
  refine wX8_shift_0 sa.1 sa.2.1 sa.2.2.1 sa.2.2.2 ⟨⟨f0, t0, n0, fn, tn⟩, fun m1 e1 m2 e2 => ⟨⟨by constructor <;> omega, by constructor <;> omega, by constructor <;> omega, by omega, by omega, by omega, by omega, by omega⟩, fun m3 e3 => ⟨rfl, h m3 (fun c hc => ?_) ?_ ?_ ?_⟩⟩⟩
  · rw [e3, sr_ne _ _ (by omega), e2, sr_ne _ _ (by omega), e1, sr_ne _ _ (by omega)]
  · rw [e3, sr_ne _ _ (by omega), e2, sr_ne _ _ (by omega), e1, sr_eq, cpr_fil]
  · rw [e3, sr_ne _ _ (by omega), e2, sr_eq, cpr_fil, e1, sr_ne _ _ (by omega)]
  · rw [e3, sr_eq, cpr_fil, e2, sr_ne _ _ (by omega), e1, sr_ne _ _ (by omega)]
/-- a spot added at place i of the row -/
def ADD (m m' : tM) (a : Nat) (x y i : Int) : Prop := FNB (m a 3) (m (a + 1)) (m (a + 2)) x y i ∧ (∀ c, c < a ∨ a + 3 < c → m' c = m c) ∧ m' a 3 = m a 3 + 1 ∧
  (∀ j, 0 ≤ j → j < i → m' (a + 1) j = m (a + 1) j ∧ m' (a + 2) j = m (a + 2) j ∧ ∀ d, 0 ≤ d → d < 4 → m' (a + 3) (4 * j + d) = m (a + 3) (4 * j + d)) ∧
  (m' (a + 1) i = x ∧ m' (a + 2) i = y ∧ ∀ d, 0 ≤ d → d < 4 → m' (a + 3) (4 * i + d) = 0) ∧
  (∀ j, i < j → j ≤ m a 3 → m' (a + 1) j = m (a + 1) (j - 1) ∧ m' (a + 2) j = m (a + 2) (j - 1) ∧ ∀ d, 0 ≤ d → d < 4 → m' (a + 3) (4 * j + d) = m (a + 3) (4 * (j - 1) + d))
theorem c_add {a : Nat} {x y : Int} {K : Int → tM → Prop} (sa : shS a) (h0 : 0 ≤ m a 3) (h1 : m a 3 < 60) (h : ∀ m' i, ADD m m' a x y i → K i m') : Cli mX8_add [rV a, iV x, iV y] m K := by
  refine wX8_add_0 sa.1 sa.2.1 sa.2.2.1 ⟨fun _ => c_fnb sa h0 (by omega) (fun i q => ?_), fun c => absurd h1 c⟩
  obtain ⟨q0, q1, q2, q3⟩ := id q
  refine ⟨⟨by constructor <;> omega, by constructor <;> omega⟩, c_shift sa q0 (by omega) (by omega) (by omega) (by omega) (fun m1 g0 g1 g2 g3 => ?_)⟩
  have ga := g0 a (by omega)
  rw [ga]
  refine ⟨⟨by constructor <;> omega, q0, by omega⟩, ?_⟩
  generalize hm2 : up (up (up m1 a 3 (m a 3 + 1)) (a + 1) i x) (a + 2) i y = m2
  have key := up_ind (n := 4) (fun t => Tj mX8_add 59 [some (rV a), none, none, some (iV i), some (iV t)] [] (sr m2 (a + 3) (fil (fun _ => 0) (m2 (a + 3)) (4 * i) t)) (fun r m' => ∃ n, r = some (iV n) ∧ K n m')) ?_ ?_ (i := 0) (by omega) (by omega)
  · rw [fil_0, sr_self] at key
    exact key
  · refine wX8_add_59 sa.1 sa.2.2.2 ⟨fun c => by omega, fun _ => ⟨_, rfl, h _ _ ⟨q, fun c hc => ?_, ?_, fun j j0 j1 => ⟨?_, ?_, fun d d0 d1 => ?_⟩, ⟨?_, ?_, fun d d0 d1 => ?_⟩, fun j j0 j1 => ⟨?_, ?_, fun d d0 d1 => ?_⟩⟩⟩⟩
    · rw [sr_ne _ _ (by omega), ← hm2, up_ne _ _ _ (by omega), up_ne _ _ _ (by omega), up_ne _ _ _ (by omega), g0 c (by omega)]
    · rw [sr_ne _ _ (by omega), ← hm2, up_ne _ _ _ (by omega), up_ne _ _ _ (by omega), up_at]
    · rw [sr_ne _ _ (by omega), ← hm2, up_ne _ _ _ (by omega), up_at_ne _ _ _ (by omega), up_ne _ _ _ (by omega), g1, fil_out _ _ (by omega)]
    · rw [sr_ne _ _ (by omega), ← hm2, up_at_ne _ _ _ (by omega), up_ne _ _ _ (by omega), up_ne _ _ _ (by omega), g2, fil_out _ _ (by omega)]
    · rw [sr_eq, fil_out _ _ (by omega), ← hm2, up_ne _ _ _ (by omega), up_ne _ _ _ (by omega), up_ne _ _ _ (by omega), g3, fil_out _ _ (by omega)]
    · rw [sr_ne _ _ (by omega), ← hm2, up_ne _ _ _ (by omega), up_at]
    · rw [sr_ne _ _ (by omega), ← hm2, up_at]
    · rw [sr_eq, fil_in _ _ (by omega)]
    · rw [sr_ne _ _ (by omega), ← hm2, up_ne _ _ _ (by omega), up_at_ne _ _ _ (by omega), up_ne _ _ _ (by omega), g1, fil_in _ _ (by omega), show i + (j - (i + 1)) = j - 1 by omega]
    · rw [sr_ne _ _ (by omega), ← hm2, up_at_ne _ _ _ (by omega), up_ne _ _ _ (by omega), up_ne _ _ _ (by omega), g2, fil_in _ _ (by omega), show i + (j - (i + 1)) = j - 1 by omega]
    · rw [sr_eq, fil_out _ _ (by omega), ← hm2, up_ne _ _ _ (by omega), up_ne _ _ _ (by omega), up_ne _ _ _ (by omega), g3, fil_in _ _ (by omega), show 4 * i + (4 * j + d - 4 * (i + 1)) = 4 * (j - 1) + d by omega]
  · intro t t0 t1 ih
    refine wX8_add_59 sa.1 sa.2.2.2 ⟨fun _ => ⟨⟨by constructor <;> omega, by constructor <;> omega, by omega, by omega, by constructor <;> omega⟩, ?_⟩, fun c => absurd t1 c⟩
    rw [up_sr, fil_s (fun _ => 0) _ _ t0]
    exact ih
/-- join: a crease written at both its spots -/
theorem c_join {a : Nat} {k j d v : Int} {K : tM → Prop} (sa : shS a) (k0 : 0 ≤ k) (k1 : k < 60) (j0 : 0 ≤ j) (j1 : j < 60) (d0 : 0 ≤ d) (d1 : d < 4) (h : K (sr m (a + 3) (ur (ur (m (a + 3)) (4 * k + d) v) (4 * j + (d + 2) % 4) v))) : Clv mX8_join [rV a, iV k, iV j, iV d, iV v] m K := by
  refine wX8_join_0 sa.1 sa.2.2.2 ?_
  rw [bAnd_3 (by constructor <;> omega)]
  refine ⟨⟨by constructor <;> omega, by constructor <;> omega, by omega, by omega, by constructor <;> omega, by constructor <;> omega, by constructor <;> omega, by omega, by omega⟩, rfl, ?_⟩
  rw [up_sr]
  exact h
end C8h
