/-! bits of Ints -/
theorem oi_nat (n : Nat) : Int32.ofInt (n : Int) = nI n := by rw [nI, Int32.ofInt_eq_ofNat]
theorem nI_ti {n : Nat} (h : n < 2147483648) : (nI n).toInt = (n : Int) := nI_toInt (by omega)
theorem oi_bv {x : Int} (h : R32 x) : ((Int32.ofInt x).toBitVec.toNat : Int) = x % 4294967296 := by
  have h1 : (Int32.ofInt x).toInt = x := ti h
  have h2 : (Int32.ofInt x).toBitVec.toInt = x := h1
  have h3 := BitVec.toInt_eq_toNat_bmod (Int32.ofInt x).toBitVec
  rw [h2] at h3
  have h4 : (Int32.ofInt x).toBitVec.toNat < 4294967296 := (Int32.ofInt x).toBitVec.isLt
  have h5 : (((Int32.ofInt x).toBitVec.toNat : Int).bmod (2 ^ 32)) % ((2 ^ 32 : Nat) : Int) = ((Int32.ofInt x).toBitVec.toNat : Int) % ((2 ^ 32 : Nat) : Int) := by rw [Int.bmod_emod]
  rw [← h3] at h5
  omega
theorem bAnd_mask {x : Int} (h : R32 x) (k : Nat) (hk : k ≤ 30) (y : Int) (hy : y = 2 ^ k - 1) : bAnd x y = x % 2 ^ k := by
  subst hy
  have hp : (2 : Nat) ^ k ≤ 1073741824 := Nat.pow_le_pow_right (by omega) hk
  have hp0 : 0 < (2 : Nat) ^ k := Nat.pow_pos (by omega)
  have e : (2 : Int) ^ k - 1 = ((2 ^ k - 1 : Nat) : Int) := by
    have : ((2 ^ k : Nat) : Int) = (2 : Int) ^ k := by simp
    omega
  unfold bAnd
  rw [e, oi_nat, pk_and (Int32.ofInt x) k (by rw [pk_tn (by omega)])]
  have hb : (Int32.ofInt x).toBitVec.toNat % 2 ^ k < 2 ^ k := Nat.mod_lt _ hp0
  rw [nI_ti (by omega)]
  have hm := oi_bv h
  have e2 : ((2 ^ k : Nat) : Int) = (2 : Int) ^ k := by simp
  rw [Int.natCast_emod, hm, e2]
  apply Int.emod_emod_of_dvd
  have : (4294967296 : Int) = 2 ^ k * 2 ^ (32 - k) := by
    rw [← Int.pow_add, show k + (32 - k) = 32 by omega]; rfl
  exact ⟨_, this⟩
theorem bAnd_3 {x : Int} (h : R32 x) : bAnd x 3 = x % 4 := bAnd_mask h 2 (by omega) 3 (by decide)
theorem bAnd_1 {x : Int} (h : R32 x) : bAnd x 1 = x % 2 := bAnd_mask h 1 (by omega) 1 (by decide)
theorem bAnd_63 {x : Int} (h : R32 x) : bAnd x 63 = x % 64 := bAnd_mask h 6 (by omega) 63 (by decide)
theorem bAnd_65535 {x : Int} (h : R32 x) : bAnd x 65535 = x % 65536 := bAnd_mask h 16 (by omega) 65535 (by decide)
theorem sh_amt {s : Int} (h0 : 0 ≤ s) (h1 : s < 32) : ((Int32.ofInt s &&& 31).toBitVec.smod 32).toNat = s.toNat := by
  have e : ∀ n : Nat, n < 32 → ((Int32.ofInt (n : Int) &&& 31).toBitVec.smod 32).toNat = n := by decide +kernel
  have := e s.toNat (by omega)
  rw [ix_cast h0] at this
  exact this
theorem bShr_div {x s : Int} (h : R32 x) (h0 : 0 ≤ s) (h1 : s < 32) : bShr x s = x / 2 ^ s.toNat := by
  unfold bShr
  rw [pk_shr _ _ s.toNat (sh_amt h0 h1), ti h, Int.shiftRight_eq_div_pow]
  simp
theorem bShr_1 {x : Int} (h : R32 x) : bShr x 1 = x / 2 := bShr_div h (by decide) (by decide)
theorem bShr_2 {x : Int} (h : R32 x) : bShr x 2 = x / 4 := bShr_div h (by decide) (by decide)
theorem bShl_mul {x s : Int} (h0 : 0 ≤ s) (h1 : s < 32) (hx : 0 ≤ x) (hm : x * 2 ^ s.toNat < 2147483648) : bShl x s = x * 2 ^ s.toNat := by
  unfold bShl
  obtain ⟨n, rfl⟩ := Int.eq_ofNat_of_zero_le hx
  have e : ((n * 2 ^ s.toNat : Nat) : Int) = (n : Int) * 2 ^ s.toNat := by simp
  rw [oi_nat, pk_shlN _ s.toNat (sh_amt h0 h1) (by omega), nI_ti (by omega), e]
theorem bXor_1 {x : Int} (h0 : 0 ≤ x) (h1 : x < 6) : bXor x 1 = if x % 2 = 0 then x + 1 else x - 1 := by
  have e : ∀ n : Nat, n < 6 → bXor (n : Int) 1 = if (n : Int) % 2 = 0 then (n : Int) + 1 else (n : Int) - 1 := by decide +kernel
  have := e x.toNat (by omega)
  rw [ix_cast h0] at this
  exact this
