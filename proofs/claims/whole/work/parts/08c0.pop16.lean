/-! Integer.bitCount of 16 bits: all numbers -/
def bcA (n : Nat) : Nat := n - (n / 2 &&& 1431655765)
def bcB (n : Nat) : Nat := (bcA n &&& 858993459) + (bcA n / 4 &&& 858993459)
def bcC (n : Nat) : Nat := (bcB n + bcB n / 16) &&& 252645135
def bcD (n : Nat) : Nat := bcC n + bcC n / 256
def bcE (n : Nat) : Nat := (bcD n + bcD n / 65536) &&& 63
def popN (n : Nat) : Nat → Nat
  | 0 => 0
  | k + 1 => popN n k + n / 2 ^ k % 2
set_option maxRecDepth 100000 in
theorem bcE_0 : ∀ a, a < 16 → ∀ b, b < 256 → bcE (0 + (256 * a + b)) = popN (0 + (256 * a + b)) 16 := by decide +kernel
set_option maxRecDepth 100000 in
theorem bcE_1 : ∀ a, a < 16 → ∀ b, b < 256 → bcE (4096 + (256 * a + b)) = popN (4096 + (256 * a + b)) 16 := by decide +kernel
set_option maxRecDepth 100000 in
theorem bcE_2 : ∀ a, a < 16 → ∀ b, b < 256 → bcE (8192 + (256 * a + b)) = popN (8192 + (256 * a + b)) 16 := by decide +kernel
set_option maxRecDepth 100000 in
theorem bcE_3 : ∀ a, a < 16 → ∀ b, b < 256 → bcE (12288 + (256 * a + b)) = popN (12288 + (256 * a + b)) 16 := by decide +kernel
set_option maxRecDepth 100000 in
theorem bcE_4 : ∀ a, a < 16 → ∀ b, b < 256 → bcE (16384 + (256 * a + b)) = popN (16384 + (256 * a + b)) 16 := by decide +kernel
set_option maxRecDepth 100000 in
theorem bcE_5 : ∀ a, a < 16 → ∀ b, b < 256 → bcE (20480 + (256 * a + b)) = popN (20480 + (256 * a + b)) 16 := by decide +kernel
set_option maxRecDepth 100000 in
theorem bcE_6 : ∀ a, a < 16 → ∀ b, b < 256 → bcE (24576 + (256 * a + b)) = popN (24576 + (256 * a + b)) 16 := by decide +kernel
set_option maxRecDepth 100000 in
theorem bcE_7 : ∀ a, a < 16 → ∀ b, b < 256 → bcE (28672 + (256 * a + b)) = popN (28672 + (256 * a + b)) 16 := by decide +kernel
set_option maxRecDepth 100000 in
theorem bcE_8 : ∀ a, a < 16 → ∀ b, b < 256 → bcE (32768 + (256 * a + b)) = popN (32768 + (256 * a + b)) 16 := by decide +kernel
set_option maxRecDepth 100000 in
theorem bcE_9 : ∀ a, a < 16 → ∀ b, b < 256 → bcE (36864 + (256 * a + b)) = popN (36864 + (256 * a + b)) 16 := by decide +kernel
set_option maxRecDepth 100000 in
theorem bcE_10 : ∀ a, a < 16 → ∀ b, b < 256 → bcE (40960 + (256 * a + b)) = popN (40960 + (256 * a + b)) 16 := by decide +kernel
set_option maxRecDepth 100000 in
theorem bcE_11 : ∀ a, a < 16 → ∀ b, b < 256 → bcE (45056 + (256 * a + b)) = popN (45056 + (256 * a + b)) 16 := by decide +kernel
set_option maxRecDepth 100000 in
theorem bcE_12 : ∀ a, a < 16 → ∀ b, b < 256 → bcE (49152 + (256 * a + b)) = popN (49152 + (256 * a + b)) 16 := by decide +kernel
set_option maxRecDepth 100000 in
theorem bcE_13 : ∀ a, a < 16 → ∀ b, b < 256 → bcE (53248 + (256 * a + b)) = popN (53248 + (256 * a + b)) 16 := by decide +kernel
set_option maxRecDepth 100000 in
theorem bcE_14 : ∀ a, a < 16 → ∀ b, b < 256 → bcE (57344 + (256 * a + b)) = popN (57344 + (256 * a + b)) 16 := by decide +kernel
set_option maxRecDepth 100000 in
theorem bcE_15 : ∀ a, a < 16 → ∀ b, b < 256 → bcE (61440 + (256 * a + b)) = popN (61440 + (256 * a + b)) 16 := by decide +kernel
theorem bcE_pop' {n : Nat} (h : n < 65536) : bcE n = popN n 16 := by
  have key : ∀ c, (∀ a, a < 16 → ∀ b, b < 256 → bcE (c + (256 * a + b)) = popN (c + (256 * a + b)) 16) → c ≤ n → n < c + 4096 → bcE n = popN n 16 := by
    intro c hc h1 h2
    have := hc ((n - c) / 256) (by omega) ((n - c) % 256) (by omega)
    rw [show c + (256 * ((n - c) / 256) + (n - c) % 256) = n by omega] at this
    exact this
  rcases Nat.lt_or_ge n 4096 with q | q
  · exact key 0 bcE_0 (by omega) (by omega)
  rcases Nat.lt_or_ge n 8192 with q | q
  · exact key 4096 bcE_1 (by omega) (by omega)
  rcases Nat.lt_or_ge n 12288 with q | q
  · exact key 8192 bcE_2 (by omega) (by omega)
  rcases Nat.lt_or_ge n 16384 with q | q
  · exact key 12288 bcE_3 (by omega) (by omega)
  rcases Nat.lt_or_ge n 20480 with q | q
  · exact key 16384 bcE_4 (by omega) (by omega)
  rcases Nat.lt_or_ge n 24576 with q | q
  · exact key 20480 bcE_5 (by omega) (by omega)
  rcases Nat.lt_or_ge n 28672 with q | q
  · exact key 24576 bcE_6 (by omega) (by omega)
  rcases Nat.lt_or_ge n 32768 with q | q
  · exact key 28672 bcE_7 (by omega) (by omega)
  rcases Nat.lt_or_ge n 36864 with q | q
  · exact key 32768 bcE_8 (by omega) (by omega)
  rcases Nat.lt_or_ge n 40960 with q | q
  · exact key 36864 bcE_9 (by omega) (by omega)
  rcases Nat.lt_or_ge n 45056 with q | q
  · exact key 40960 bcE_10 (by omega) (by omega)
  rcases Nat.lt_or_ge n 49152 with q | q
  · exact key 45056 bcE_11 (by omega) (by omega)
  rcases Nat.lt_or_ge n 53248 with q | q
  · exact key 49152 bcE_12 (by omega) (by omega)
  rcases Nat.lt_or_ge n 57344 with q | q
  · exact key 53248 bcE_13 (by omega) (by omega)
  rcases Nat.lt_or_ge n 61440 with q | q
  · exact key 57344 bcE_14 (by omega) (by omega)
  exact key 61440 bcE_15 (by omega) (by omega)
