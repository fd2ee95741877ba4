/-! the bits of longs; not more than 240 outer squares -/
def lb (x : Int64) (n : Nat) : Bool := x.toBitVec.getLsbD n
theorem lb_or (x y : Int64) (n : Nat) : lb (x ||| y) n = (lb x n || lb y n) := by
  unfold lb; rw [Int64.toBitVec_or, BitVec.getLsbD_or]
theorem lb_and (x y : Int64) (n : Nat) : lb (x &&& y) n = (lb x n && lb y n) := by
  unfold lb; rw [Int64.toBitVec_and, BitVec.getLsbD_and]
theorem lb_xor (x y : Int64) (n : Nat) : lb (x ^^^ y) n = (lb x n != lb y n) := by
  unfold lb; rw [Int64.toBitVec_xor, BitVec.getLsbD_xor]
theorem lb_not (x : Int64) {n : Nat} (h : n < 64) : lb (x ^^^ (-1)) n = !lb x n := by
  rw [lb_xor]
  have : ∀ k : Fin 64, lb (-1) k.val = true := by decide +kernel
  rw [this ⟨n, h⟩]; cases lb x n <;> rfl
theorem lb_ext {x y : Int64} (h : ∀ n, n < 64 → lb x n = lb y n) : x = y := by
  apply Int64.toBitVec_inj.1
  apply BitVec.eq_of_getLsbD_eq
  intro i hi
  exact h i hi
theorem lcI_0 (x y : Int64) : lcI x y = 0 ↔ x = y := by
  unfold lcI
  constructor
  · intro h
    split at h
    · omega
    · split at h
      · assumption
      · omega
  · intro h; subst h
    rw [if_neg (Int64.lt_irrefl), if_pos rfl]
theorem sh64 {n : Nat} (h : n < 64) : (((Int32.ofInt (n : Int)).toInt64 &&& 63).toBitVec.smod 64) = BitVec.ofNat 64 n := by
  have e : ∀ k : Fin 64, (((Int32.ofInt (k.val : Int)).toInt64 &&& 63).toBitVec.smod 64) = BitVec.ofNat 64 k.val := by decide +kernel
  exact e ⟨n, h⟩
theorem lb_shl (x : Int64) {s n : Nat} (hs : s < 64) (hn : n < 64) : lb (bLshl x (s : Int)) n = (decide (s ≤ n) && lb x (n - s)) := by
  unfold lb bLshl
  rw [Int64.toBitVec_shiftLeft, sh64 hs, BitVec.shiftLeft_eq', BitVec.getLsbD_shiftLeft, BitVec.toNat_ofNat, Nat.mod_eq_of_lt (by omega)]
  by_cases q : s ≤ n
  · simp [q, hn]
  · simp [q]
theorem lb_ushr (x : Int64) {s n : Nat} (hs : s < 64) : lb (bLushr x (s : Int)) n = lb x (n + s) := by
  unfold lb bLushr
  have e : ∀ k : Fin 64, ((Int32.ofInt (k.val : Int)).toInt64.toUInt64 &&& Int64.toUInt64 63).toBitVec % 64 = BitVec.ofNat 64 k.val := by decide +kernel
  show (x.toUInt64 >>> ((Int32.ofInt (s : Int)).toInt64.toUInt64 &&& Int64.toUInt64 63)).toBitVec.getLsbD n = _
  rw [UInt64.toBitVec_shiftRight, e ⟨s, hs⟩, BitVec.ushiftRight_eq', BitVec.getLsbD_ushiftRight, BitVec.toNat_ofNat, Nat.mod_eq_of_lt (by omega), Nat.add_comm]
  rfl
theorem lb_out (x : Int64) {n : Nat} (h : 64 ≤ n) : lb x n = false := by
  unfold lb; exact BitVec.getLsbD_of_ge _ _ h
theorem lb_1 (n : Nat) : lb 1 n = decide (n = 0) := by
  by_cases h : n < 64
  · have : ∀ k : Fin 64, lb 1 k.val = decide (k.val = 0) := by decide +kernel
    exact this ⟨n, h⟩
  · rw [lb_out _ (by omega)]; simp; omega
theorem lb_0 (n : Nat) : lb 0 n = false := by
  by_cases h : n < 64
  · have : ∀ k : Fin 64, lb 0 k.val = false := by decide +kernel
    exact this ⟨n, h⟩
  · rw [lb_out _ (by omega)]
theorem lb_shr0 (x : Int64) {s : Nat} (hs : s < 64) : lb (bLshr x (s : Int)) 0 = lb x s := by
  unfold lb bLshr
  rw [Int64.toBitVec_shiftRight, sh64 hs, BitVec.sshiftRight_eq', BitVec.getLsbD_sshiftRight, BitVec.toNat_ofNat, Nat.mod_eq_of_lt (by omega)]
  simp [hs]
theorem has_iff (x : Int64) {s : Nat} (hs : s < 64) : lcI ((bLshr x (s : Int)) &&& 1) 1 = 0 ↔ lb x s = true := by
  rw [lcI_0]
  constructor
  · intro h
    have := congrArg (fun y => lb y 0) h
    simp only [lb_and, lb_1, lb_shr0 x hs] at this
    simpa using this
  · intro h
    apply lb_ext
    intro n hn
    rw [lb_and, lb_1]
    by_cases q : n = 0
    · subst q; rw [lb_shr0 x hs, h]; rfl
    · simp [q]
/-- the bits of an Int -/
theorem lb_ofInt {r : Int} (h0 : 0 ≤ r) (h1 : r < 65536) (n : Nat) : lb (Int64.ofInt r) n = decide (r / 2 ^ n % 2 = 1) := by
  unfold lb
  obtain ⟨k, rfl⟩ := Int.eq_ofNat_of_zero_le h0
  rw [Int64.ofInt_eq_ofNat]
  show (BitVec.ofNat 64 k).getLsbD n = _
  rw [BitVec.getLsbD_ofNat]
  have e : ((k : Int) / 2 ^ n % 2 = 1) ↔ k / 2 ^ n % 2 = 1 := by
    have : ((k / 2 ^ n % 2 : Nat) : Int) = (k : Int) / 2 ^ n % 2 := by simp
    omega
  by_cases q : n < 64
  · rw [Nat.testBit_eq_decide_div_mod_eq]
    simp [q, e]
  · have : k / 2 ^ n = 0 := Nat.div_eq_of_lt (Nat.lt_of_lt_of_le (show k < 2 ^ 16 by omega) (Nat.pow_le_pow_right (by omega) (by omega)))
    simp [q, e, this]

def cn (b : Nat → Bool) : Nat → Nat
  | 0 => 0
  | k + 1 => cn b k + (if b k then 1 else 0)
theorem cn_split (b q : Nat → Bool) : ∀ n, cn b n = cn (fun k => b k && q k) n + cn (fun k => b k && !q k) n
  | 0 => rfl
  | n + 1 => by
    rw [cn, cn, cn, cn_split b q n]
    cases b n <;> cases q n <;> simp <;> omega
theorem cn_zero (b : Nat → Bool) : ∀ n, (∀ k, k < n → b k = false) → cn b n = 0
  | 0, _ => rfl
  | n + 1, h => by
    rw [cn, cn_zero b n (fun k hk => h k (by omega)), h n (by omega)]
    rfl
theorem cn_one (b : Nat → Bool) : ∀ n, (∀ j k, j < n → k < n → b j = true → b k = true → j = k) → cn b n ≤ 1
  | 0, _ => by rw [cn]; omega
  | n + 1, h => by
    rw [cn]
    by_cases q : b n = true
    · rw [cn_zero b n (fun k hk => by
        by_cases g : b k = true
        · have := h k n (by omega) (by omega) g q; omega
        · simpa using g)]
      rw [if_pos q]; omega
    · rw [if_neg q]
      have := cn_one b n (fun j k hj hk => h j k (by omega) (by omega))
      omega
theorem pigeon (n : Nat) : ∀ (N : Nat) (b : Nat → Bool) (f : Nat → Nat), (∀ k, k < n → b k = true → f k < N) → (∀ j k, j < n → k < n → b j = true → b k = true → f j = f k → j = k) → cn b n ≤ N
  | 0, b, f, h1, _ => by
    rw [cn_zero b n (fun k hk => by
      by_cases g : b k = true
      · have := h1 k hk g; omega
      · simpa using g)]
    omega
  | N + 1, b, f, h1, h2 => by
    rw [cn_split b (fun k => decide (f k = N)) n]
    have a := cn_one (fun k => b k && decide (f k = N)) n (fun j k hj hk bj bk => by
      simp at bj bk
      exact h2 j k hj hk bj.1 bk.1 (by omega))
    have c := pigeon n N (fun k => b k && !decide (f k = N)) f (fun k hk bk => by
      simp at bk
      have := h1 k hk bk.1
      omega) (fun j k hj hk bj bk => by
      simp at bj bk
      exact h2 j k hj hk bj.1 bk.1)
    omega
theorem oN_cn (c : Int → Int) : ∀ n : Nat, oN c n = (cn (fun k => decide (outr c ((k : Int) / 6) ((k : Int) % 6))) n : Int)
  | 0 => rfl
  | n + 1 => by
    rw [oN, cn, oN_cn c n]
    by_cases q : outr c ((n : Int) / 6) ((n : Int) % 6)
    · rw [if_pos q, if_pos (decide_eq_true q)]; rfl
    · rw [if_neg q, if_neg (fun h => q (of_decide_eq_true h))]; rfl
/-- the number of a face -/
def fc (p d : Int) : Int := if d / 2 = 0 then 16 * (p % 4 + (1 - d % 2)) + p / 4 else if d / 2 = 1 then 80 + 16 * (p / 4 % 4 + (1 - d % 2)) + (p / 16 * 4 + p % 4) else 160 + 16 * (p / 16 + (1 - d % 2)) + p % 16
def gF (f e : Int) : Int := if f / 80 = 0 then 4 * (f % 16) + (f % 80 / 16 - e) else if f / 80 = 1 then f % 16 / 4 * 16 + 4 * (f % 80 / 16 - e) + f % 16 % 4 else 16 * (f % 80 / 16 - e) + f % 16
theorem fc_f : ∀ p : Fin 64, ∀ d : Fin 6, (0 ≤ fc p.val d.val ∧ fc p.val d.val < 240) ∧ gF (fc p.val d.val) (1 - (d.val : Int) % 2) = p.val ∧ fc p.val d.val / 80 = (d.val : Int) / 2 ∧ (0 ≤ fc p.val d.val % 80 / 16 - (1 - (d.val : Int) % 2) ∧ fc p.val d.val % 80 / 16 - (1 - (d.val : Int) % 2) ≤ 3) ∧ (0 ≤ fc p.val d.val % 80 / 16 - (d.val : Int) % 2 ∧ fc p.val d.val % 80 / 16 - (d.val : Int) % 2 ≤ 3 → gF (fc p.val d.val) ((d.val : Int) % 2) = bynd p.val d.val) := by decide +kernel
theorem fc_r {p d : Int} (p0 : 0 ≤ p) (p1 : p < 64) (d0 : 0 ≤ d) (d1 : d < 6) : (0 ≤ fc p d ∧ fc p d < 240) ∧ gF (fc p d) (1 - d % 2) = p ∧ fc p d / 80 = d / 2 ∧ (0 ≤ fc p d % 80 / 16 - (1 - d % 2) ∧ fc p d % 80 / 16 - (1 - d % 2) ≤ 3) ∧ (0 ≤ fc p d % 80 / 16 - d % 2 ∧ fc p d % 80 / 16 - d % 2 ≤ 3 → gF (fc p d) (d % 2) = bynd p d) := by
  have := fc_f ⟨p.toNat, by omega⟩ ⟨d.toNat, by omega⟩
  simp only [ix_cast p0, ix_cast d0] at this
  exact this
theorem fc_inj (c : Int → Int) {p d p' d' : Int} (p0 : 0 ≤ p) (p1 : p < 64) (d0 : 0 ≤ d) (d1 : d < 6) (q0 : 0 ≤ p') (q1 : p' < 64) (e0 : 0 ≤ d') (e1 : d' < 6) (h : outr c p d) (h' : outr c p' d') (hf : fc p d = fc p' d') : p = p' ∧ d = d' := by
  obtain ⟨a1, a2, a3, a4, a5⟩ := fc_r p0 p1 d0 d1
  obtain ⟨b1, b2, b3, b4, b5⟩ := fc_r q0 q1 e0 e1
  rw [← hf] at b2 b3 b4 b5
  by_cases q : d % 2 = d' % 2
  · have : d = d' := by omega
    subst this
    exact ⟨by rw [← a2, ← b2], rfl⟩
  · have e : 1 - d' % 2 = d % 2 := by omega
    rw [e] at b2 b4
    have := a5 b4
    rw [b2] at this
    exact absurd (this ▸ h'.1) h.2
theorem oN_240 (c : Int → Int) : oN c 384 ≤ 240 := by
  rw [oN_cn]
  have := pigeon 384 240 (fun k => decide (outr c ((k : Int) / 6) ((k : Int) % 6))) (fun k => (fc ((k : Int) / 6) ((k : Int) % 6)).toNat) (fun k hk _ => by
    have := (fc_r (p := (k : Int) / 6) (d := (k : Int) % 6) (by omega) (by omega) (by omega) (by omega)).1
    show (fc _ _).toNat < 240
    omega) (fun j k hj hk bj bk e => by
    have r1 := (fc_r (p := (j : Int) / 6) (d := (j : Int) % 6) (by omega) (by omega) (by omega) (by omega)).1
    have r2 := (fc_r (p := (k : Int) / 6) (d := (k : Int) % 6) (by omega) (by omega) (by omega) (by omega)).1
    have e' : (fc ((j : Int) / 6) ((j : Int) % 6)).toNat = (fc ((k : Int) / 6) ((k : Int) % 6)).toNat := e
    have := fc_inj c (by omega) (by omega) (by omega) (by omega) (by omega) (by omega) (by omega) (by omega) (of_decide_eq_true bj) (of_decide_eq_true bk) (show fc ((j : Int) / 6) ((j : Int) % 6) = fc ((k : Int) / 6) ((k : Int) % 6) by omega)
    omega)
  omega
