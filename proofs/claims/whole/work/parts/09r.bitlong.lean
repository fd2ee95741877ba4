/-! Long.bitCount -/
theorem and_cut (k : Nat) {a p : Nat} (b q : Nat) (ha : a < 2 ^ k) (hp : p < 2 ^ k) : (a + 2 ^ k * b) &&& (p + 2 ^ k * q) = (a &&& p) + 2 ^ k * (b &&& q) := by
  have h0 : 0 < 2 ^ k := Nat.pow_pos (by omega)
  have m1 : (a + 2 ^ k * b) % 2 ^ k = a := by rw [Nat.add_mul_mod_self_left, Nat.mod_eq_of_lt ha]
  have m2 : (p + 2 ^ k * q) % 2 ^ k = p := by rw [Nat.add_mul_mod_self_left, Nat.mod_eq_of_lt hp]
  have d1 : (a + 2 ^ k * b) / 2 ^ k = b := by rw [Nat.add_mul_div_left _ _ h0, Nat.div_eq_of_lt ha, Nat.zero_add]
  have d2 : (p + 2 ^ k * q) / 2 ^ k = q := by rw [Nat.add_mul_div_left _ _ h0, Nat.div_eq_of_lt hp, Nat.zero_add]
  have e := Nat.mod_add_div ((a + 2 ^ k * b) &&& (p + 2 ^ k * q)) (2 ^ k)
  rw [Nat.and_mod_two_pow, Nat.and_div_two_pow, m1, m2, d1, d2] at e
  exact e.symm
def fA (M X : Nat) : Nat := X - (X / 2 &&& M)
def fB (M A : Nat) : Nat := (A &&& M) + (A / 4 &&& M)
def fCC (M B : Nat) : Nat := (B + B / 16) &&& M
theorem fA_cut {a : Nat} (b M : Nat) (ha : a < 65536) : fA (21845 + 65536 * M) (a + 65536 * b) = fA 21845 a + 65536 * fA M b := by
  unfold fA
  have e1 : (a + 65536 * b) / 2 = (a / 2 + 32768 * (b % 2)) + 65536 * (b / 2) := by omega
  have e2 : ((a / 2 + 32768 * (b % 2)) + 2 ^ 16 * (b / 2)) &&& (21845 + 2 ^ 16 * M) = ((a / 2 + 32768 * (b % 2)) &&& 21845) + 2 ^ 16 * (b / 2 &&& M) := and_cut 16 _ _ (by omega) (by omega)
  have e3 : (a / 2 + 2 ^ 15 * (b % 2)) &&& (21845 + 2 ^ 15 * 0) = (a / 2 &&& 21845) + 2 ^ 15 * (b % 2 &&& 0) := and_cut 15 _ _ (by omega) (by omega)
  have e4 : (a / 2 + 32768 * (b % 2)) &&& 21845 = a / 2 &&& 21845 := by
    have : b % 2 &&& 0 = 0 := Nat.and_zero _
    rw [this] at e3
    exact e3
  have e5 : (a + 65536 * b) / 2 &&& (21845 + 65536 * M) = (a / 2 &&& 21845) + 65536 * (b / 2 &&& M) := by
    rw [e1, ← e4]; exact e2
  have l1 : a / 2 &&& 21845 ≤ a / 2 := Nat.and_le_left
  have l2 : b / 2 &&& M ≤ b / 2 := Nat.and_le_left
  rw [e5]
  omega
theorem fB_cut {a : Nat} (b M : Nat) (ha : a < 65536) : fB (13107 + 65536 * M) (a + 65536 * b) = fB 13107 a + 65536 * fB M b := by
  unfold fB
  have e0 : (a + 2 ^ 16 * b) &&& (13107 + 2 ^ 16 * M) = (a &&& 13107) + 2 ^ 16 * (b &&& M) := and_cut 16 _ _ (by omega) (by omega)
  have e1 : (a + 65536 * b) / 4 = (a / 4 + 16384 * (b % 4)) + 65536 * (b / 4) := by omega
  have e2 : ((a / 4 + 16384 * (b % 4)) + 2 ^ 16 * (b / 4)) &&& (13107 + 2 ^ 16 * M) = ((a / 4 + 16384 * (b % 4)) &&& 13107) + 2 ^ 16 * (b / 4 &&& M) := and_cut 16 _ _ (by omega) (by omega)
  have e3 : (a / 4 + 2 ^ 14 * (b % 4)) &&& (13107 + 2 ^ 14 * 0) = (a / 4 &&& 13107) + 2 ^ 14 * (b % 4 &&& 0) := and_cut 14 _ _ (by omega) (by omega)
  have e4 : (a / 4 + 16384 * (b % 4)) &&& 13107 = a / 4 &&& 13107 := by
    have : b % 4 &&& 0 = 0 := Nat.and_zero _
    rw [this] at e3
    exact e3
  have e5 : (a + 65536 * b) / 4 &&& (13107 + 65536 * M) = (a / 4 &&& 13107) + 65536 * (b / 4 &&& M) := by
    rw [e1, ← e4]; exact e2
  have e6 : (a + 65536 * b) &&& (13107 + 65536 * M) = (a &&& 13107) + 65536 * (b &&& M) := e0
  rw [e5, e6]
  omega
theorem fC_cut {a : Nat} (b M : Nat) (ha : a ≤ 26214) (hb : b % 16 ≤ 6) : fCC (3855 + 65536 * M) (a + 65536 * b) = fCC 3855 a + 65536 * fCC M b := by
  unfold fCC
  have e1 : (a + 65536 * b) + (a + 65536 * b) / 16 = (a + a / 16 + 4096 * (b % 16)) + 65536 * (b + b / 16) := by omega
  have e2 : ((a + a / 16 + 4096 * (b % 16)) + 2 ^ 16 * (b + b / 16)) &&& (3855 + 2 ^ 16 * M) = ((a + a / 16 + 4096 * (b % 16)) &&& 3855) + 2 ^ 16 * ((b + b / 16) &&& M) := and_cut 16 _ _ (by omega) (by omega)
  have e3 : ∀ x : Nat, (x % 4096 + 2 ^ 12 * (x / 4096)) &&& (3855 + 2 ^ 12 * 0) = (x % 4096 &&& 3855) + 2 ^ 12 * (x / 4096 &&& 0) := fun x => and_cut 12 _ _ (Nat.mod_lt _ (by omega)) (by omega)
  have e4 : ∀ x : Nat, x &&& 3855 = x % 4096 &&& 3855 := fun x => by
    have t := e3 x
    have : x / 4096 &&& 0 = 0 := Nat.and_zero _
    rw [this] at t
    have u : x % 4096 + 2 ^ 12 * (x / 4096) = x := by have := Nat.mod_add_div x 4096; omega
    rw [u] at t
    exact t
  have e5 : (a + a / 16 + 4096 * (b % 16)) &&& 3855 = (a + a / 16) &&& 3855 := by
    rw [e4 (a + a / 16 + 4096 * (b % 16)), e4 (a + a / 16)]
    congr 1
    omega
  rw [e1, ← e5]
  exact e2
theorem fB_lo (M A : Nat) (hM : M % 16 = 3) : fB M A % 16 ≤ 6 := by
  unfold fB
  have h : ∀ x : Nat, (x &&& M) % 16 ≤ 3 := fun x => by
    have := Nat.and_mod_two_pow (n := 4) (a := x) (b := M)
    have l : (x % 2 ^ 4 &&& M % 2 ^ 4) ≤ M % 2 ^ 4 := Nat.and_le_right
    rw [← this] at l
    have e : M % 2 ^ 4 = 3 := hM
    rw [e] at l
    exact l
  have a := h A
  have b := h (A / 4)
  omega
theorem fB_hi (A : Nat) : fB 13107 A ≤ 26214 := by
  unfold fB
  have a : A &&& 13107 ≤ 13107 := Nat.and_le_right
  have b : A / 4 &&& 13107 ≤ 13107 := Nat.and_le_right
  omega
def c16 (n : Nat) : Nat := fCC 3855 (fB 13107 (fA 21845 n))
theorem fA_le (M n : Nat) : fA M n ≤ n := Nat.sub_le _ _
/-- one 16 bits more -/
theorem c_cut {a : Nat} (b M1 M2 M3 : Nat) (ha : a < 65536) (hM : M2 % 16 = 3 ∨ M2 = 0) : fCC (3855 + 65536 * M3) (fB (13107 + 65536 * M2) (fA (21845 + 65536 * M1) (a + 65536 * b))) = c16 a + 65536 * fCC M3 (fB M2 (fA M1 b)) := by
  have l := fA_le 21845 a
  rw [fA_cut b M1 ha, fB_cut _ M2 (by omega)]
  refine fC_cut _ M3 (fB_hi _) ?_
  rcases hM with h | h
  · exact fB_lo _ _ h
  · subst h
    unfold fB
    rw [Nat.and_zero, Nat.and_zero]
    omega
theorem c16_bc {n : Nat} (h : n < 65536) : bcC n = c16 n := by
  have := c_cut 0 21845 13107 3855 h (Or.inl rfl)
  have z : fCC 3855 (fB 13107 (fA 21845 0)) = 0 := by decide
  rw [z, Nat.mul_zero] at this
  exact this
theorem c16_by (n : Nat) : c16 n % 256 ≤ 15 ∧ c16 n / 256 ≤ 15 := by
  have e := and_cut 8 (a := 15) (p := 15) 15 15 (by omega) (by omega)
  generalize hx : fB 13107 (fA 21845 n) + fB 13107 (fA 21845 n) / 16 = x
  have : c16 n = x &&& 3855 := by unfold c16 fCC; rw [hx]
  rw [this]
  have m := Nat.and_mod_two_pow (n := 8) (a := x) (b := 3855)
  have d := Nat.and_div_two_pow (n := 8) (a := x) (b := 3855)
  have l1 : (x % 2 ^ 8 &&& 3855 % 2 ^ 8) ≤ 3855 % 2 ^ 8 := Nat.and_le_right
  have l2 : (x / 2 ^ 8 &&& 3855 / 2 ^ 8) ≤ 3855 / 2 ^ 8 := Nat.and_le_right
  rw [← m] at l1
  rw [← d] at l2
  exact ⟨l1, l2⟩
theorem c16_pop {n : Nat} (h : n < 65536) : popN n 16 = c16 n % 256 + c16 n / 256 := by
  rw [← bcE_pop' h]
  have b := c16_by n
  unfold bcE bcD
  rw [c16_bc h]
  have e : ∀ x : Nat, x &&& 63 = x % 64 := fun x => Nat.and_two_pow_sub_one_eq_mod x 6
  have f0 : (c16 n + c16 n / 256) / 65536 = 0 := by omega
  have f1 : c16 n + c16 n / 256 = (c16 n % 256 + c16 n / 256) + 64 * (4 * (c16 n / 256)) := by omega
  rw [e, f0, Nat.add_zero, f1, Nat.add_mul_mod_self_left, Nat.mod_eq_of_lt (by omega)]
theorem by1 {a b R1 R2 C D : Nat} (hC : C = a + 256 * R1) (e1 : R1 = b + 256 * R2) (ha : a < 256) (hD : D = C + C / 256) : D = (a + b) + 256 * (R1 + R2) := by
  have : C / 256 = R1 := by omega
  omega
theorem by2 {x y z s1 s2 s3 D E : Nat} (hD : D = x + 256 * s1) (h1 : s1 = y + 256 * s2) (h2 : s2 = z + 256 * s3) (hx : x < 256) (hy : y < 256) (hE : E = D + D / 65536) : E = (x + z) + 256 * (s1 + s3) := by
  have : D / 65536 = s2 := by clear h2 hE; omega
  rw [this] at hE
  clear this
  omega
theorem by3 {x0 x1 x2 x3 x4 t1 t2 t3 t4 t5 E F : Nat} (hE : E = x0 + 256 * t1) (h1 : t1 = x1 + 256 * t2) (h2 : t2 = x2 + 256 * t3) (h3 : t3 = x3 + 256 * t4) (h4 : t4 = x4 + 256 * t5) (y0 : x0 < 256) (y1 : x1 < 256) (y2 : x2 < 256) (y3 : x3 < 256) (hF : F = E + E / 4294967296) : F = (x0 + x4) + 256 * (t1 + t5) := by
  have d0 : E / 256 = t1 := by clear h1 h2 h3 h4 hF; omega
  have d1 : t1 / 256 = t2 := by clear hE h2 h3 h4 hF d0; omega
  have d2 : t2 / 256 = t3 := by clear hE h1 h3 h4 hF d0 d1; omega
  have d3 : t3 / 256 = t4 := by clear hE h1 h2 h4 hF d0 d1 d2; omega
  have d4 : E / 4294967296 = E / 256 / 256 / 256 / 256 := by rw [Nat.div_div_eq_div_mul, Nat.div_div_eq_div_mul, Nat.div_div_eq_div_mul]
  rw [d4, d0, d1, d2, d3] at hF
  clear d0 d1 d2 d3 d4 h1 h2 h3
  omega
theorem by_s {R S a b T : Nat} (h : R = a + 256 * S) (g : S = b + 256 * T) : R + S = (a + b) + 256 * (S + T) := by omega
theorem by_t {s s' a a' u u' : Nat} (h : s = a + 256 * u) (g : s' = a' + 256 * u') : s + s' = (a + a') + 256 * (u + u') := by omega
/-- the sum of bytes -/
theorem bytes {a0 a1 a2 a3 b0 b1 b2 b3 R1 R2 R3 R4 R5 R6 C D E F : Nat} (h0 : a0 ≤ 15) (h1 : a1 ≤ 15) (h2 : a2 ≤ 15) (h3 : a3 ≤ 15) (g0 : b0 ≤ 15) (g1 : b1 ≤ 15) (g2 : b2 ≤ 15) (g3 : b3 ≤ 15) (hC : C = a0 + 256 * R1) (e1 : R1 = b0 + 256 * R2) (e2 : R2 = a1 + 256 * R3) (e3 : R3 = b1 + 256 * R4) (e4 : R4 = a2 + 256 * R5) (e5 : R5 = b2 + 256 * R6) (e6 : R6 = a3 + 256 * b3) (hD : D = C + C / 256) (hE : E = D + D / 65536) (hF : F = E + E / 4294967296) : F % 128 = a0 + b0 + a1 + b1 + a2 + b2 + a3 + b3 := by
  have e7 : b3 = b3 + 256 * 0 := by omega
  have D1 := by1 hC e1 (by omega) hD
  have S1 := by_s e1 e2
  have S2 := by_s e2 e3
  have S3 := by_s e3 e4
  have S4 := by_s e4 e5
  have S5 := by_s e5 e6
  have S6 := by_s e6 e7
  have E1 := by2 D1 S1 S2 (by omega) (by omega) hE
  have T1 := by_t S1 S3
  have T2 := by_t S2 S4
  have T3 := by_t S3 S5
  have T4 := by_t S4 S6
  have F1 := by3 E1 T1 T2 T3 T4 (by omega) (by omega) (by omega) (by omega) hF
  generalize hz : R1 + R2 + (R3 + R4) + (R5 + R6 + (b3 + 0)) = z at F1
  clear hz T1 T2 T3 T4 E1 S1 S2 S3 S4 S5 S6 D1 hC e1 e2 e3 e4 e5 e6 e7 hD hE hF
  omega
/-! the long, as a number -/
abbrev tn (x : Int64) : Nat := x.toBitVec.toNat
theorem tn_lt (x : Int64) : tn x < 18446744073709551616 := x.toBitVec.isLt
theorem tn_and (x y : Int64) : tn (x &&& y) = tn x &&& tn y := by
  show (x &&& y).toBitVec.toNat = _
  rw [Int64.toBitVec_and, BitVec.toNat_and]
theorem tn_shr (x : Int64) {s : Nat} (hs : s < 64) : tn (bLushr x (s : Int)) = tn x / 2 ^ s := by
  have e : ∀ k : Fin 64, ((Int32.ofInt (k.val : Int)).toInt64.toUInt64 &&& Int64.toUInt64 63).toBitVec % 64 = BitVec.ofNat 64 k.val := by decide +kernel
  show (x.toUInt64 >>> ((Int32.ofInt (s : Int)).toInt64.toUInt64 &&& Int64.toUInt64 63)).toBitVec.toNat = _
  rw [UInt64.toBitVec_shiftRight, e ⟨s, hs⟩, BitVec.ushiftRight_eq', BitVec.toNat_ushiftRight, BitVec.toNat_ofNat, Nat.mod_eq_of_lt (by omega), Nat.shiftRight_eq_div_pow]
  rfl
theorem tn_sub {x y : Int64} (h : tn y ≤ tn x) : tn (x - y) = tn x - tn y := by
  show (x - y).toBitVec.toNat = _
  have a := tn_lt x
  have b := tn_lt y
  rw [Int64.toBitVec_sub, BitVec.toNat_sub]
  show (18446744073709551616 - tn y + tn x) % 18446744073709551616 = _
  omega
theorem tn_add {x y : Int64} (h : tn x + tn y < 18446744073709551616) : tn (x + y) = tn x + tn y := by
  show (x + y).toBitVec.toNat = _
  rw [Int64.toBitVec_add, BitVec.toNat_add]
  exact Nat.mod_eq_of_lt h
theorem tn_last (x : Int64) : bAnd (Int32.toInt (Int64.toInt32 x)) 127 = ((tn x % 128 : Nat) : Int) := by
  have r : R32 (Int32.toInt (Int64.toInt32 x)) := tr_of _
  rw [bAnd_mask r 7 (by omega) 127 (by decide)]
  have h := oi_bv r
  rw [Int32.ofInt_toInt] at h
  have e : (Int64.toInt32 x).toBitVec.toNat = tn x % 4294967296 := by
    show (x.toBitVec.signExtend 32).toNat = _
    rw [BitVec.signExtend_eq_setWidth_of_le _ (by omega), BitVec.toNat_setWidth]
  rw [e] at h
  show (Int64.toInt32 x).toInt % 128 = _
  omega
