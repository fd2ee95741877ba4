/-! Integer.bitCount of 16 bits -/
theorem nI_and (a b : Nat) : nI a &&& nI b = nI (a &&& b) := by
  apply Int32.toBitVec_inj.1
  show BitVec.ofNat 32 a &&& BitVec.ofNat 32 b = BitVec.ofNat 32 (a &&& b)
  apply BitVec.eq_of_getLsbD_eq
  intro i hi
  simp [hi]
theorem bAnd_nat {a b : Nat} (ha : a < 2147483648) : bAnd (a : Int) (b : Int) = ((a &&& b : Nat) : Int) := by
  unfold bAnd
  rw [oi_nat, oi_nat, nI_and, nI_ti (Nat.lt_of_le_of_lt Nat.and_le_left ha)]
theorem bUshr_nat {a : Nat} (s : Int) (k : Nat) (ha : a < 2147483648) (hs : (((Int32.ofInt s).toUInt32 &&& Int32.toUInt32 31).toBitVec % 32).toNat = k) : bUshr (a : Int) s = ((a / 2 ^ k : Nat) : Int) := by
  unfold bUshr
  rw [oi_nat, pk_ushrN (by omega) _ k hs, nI_ti (Nat.lt_of_le_of_lt (Nat.div_le_self _ _) ha)]
section C8z
variable {m : tM}
theorem c_bitCount {x : Int} {K : Int → tM → Prop} (x0 : 0 ≤ x) (x1 : x < 65536) (h : K (popN x.toNat 16 : Int) m) : Cli mJ6_bitCount_0f7a4 [iV x] m K := by
  obtain ⟨n, rfl⟩ := Int.eq_ofNat_of_zero_le x0
  have hn : n < 65536 := by omega
  have e1 : bAnd (bUshr (n : Int) 1) 1431655765 = ((n / 2 &&& 1431655765 : Nat) : Int) := by
    rw [bUshr_nat 1 1 (by omega) (by decide +kernel)]
    exact bAnd_nat (b := 1431655765) (by omega)
  have l1 : n / 2 &&& 1431655765 ≤ n / 2 := Nat.and_le_left
  have e2 : (n : Int) - bAnd (bUshr (n : Int) 1) 1431655765 = (bcA n : Int) := by
    rw [e1]; unfold bcA; omega
  have hA : bcA n ≤ n := by unfold bcA; omega
  have l2 : bcA n &&& 858993459 ≤ bcA n := Nat.and_le_left
  have l3 : bcA n / 4 &&& 858993459 ≤ bcA n / 4 := Nat.and_le_left
  have hB : bcB n ≤ 2 * n := by unfold bcB; omega
  have l4 : (bcB n + bcB n / 16) &&& 252645135 ≤ bcB n + bcB n / 16 := Nat.and_le_left
  have hC : bcC n ≤ 4 * n := by unfold bcC; omega
  have hD : bcD n ≤ 8 * n := by unfold bcD; omega
  refine wJ6_bitCount_0f7a4_0 ?_
  rw [e2]
  have e3 : bAnd (bUshr (bcA n : Int) 2) 858993459 = ((bcA n / 4 &&& 858993459 : Nat) : Int) := by
    rw [bUshr_nat 2 2 (by omega) (by decide +kernel)]
    exact bAnd_nat (b := 858993459) (by omega)
  have e4 : bAnd (bcA n : Int) 858993459 = ((bcA n &&& 858993459 : Nat) : Int) := bAnd_nat (b := 858993459) (by omega)
  refine ⟨by constructor <;> omega, fun v1 h1 => ?_⟩
  rw [e3] at h1
  rw [e4]
  have e5 : ((bcA n &&& 858993459 : Nat) : Int) + v1 = (bcB n : Int) := by rw [h1]; unfold bcB; omega
  rw [e5]
  refine ⟨by constructor <;> omega, fun v2 h2 => ?_⟩
  rw [h2]
  have e6 : bUshr (bcB n : Int) 4 = ((bcB n / 16 : Nat) : Int) := bUshr_nat 4 4 (by omega) (by decide +kernel)
  have e7 : bAnd ((bcB n : Int) + bUshr (bcB n : Int) 4) 252645135 = (bcC n : Int) := by
    rw [e6, show (bcB n : Int) + ((bcB n / 16 : Nat) : Int) = ((bcB n + bcB n / 16 : Nat) : Int) by omega]
    exact bAnd_nat (b := 252645135) (by omega)
  have e8 : bUshr (bcC n : Int) 8 = ((bcC n / 256 : Nat) : Int) := bUshr_nat 8 8 (by omega) (by decide +kernel)
  have e9 : (bcC n : Int) + bUshr (bcC n : Int) 8 = (bcD n : Int) := by rw [e8]; unfold bcD; omega
  rw [e7, e9]
  refine ⟨⟨by rw [e6]; constructor <;> omega, by constructor <;> omega⟩, fun v3 h3 => ?_⟩
  rw [h3]
  have ea : bUshr (bcD n : Int) 16 = ((bcD n / 65536 : Nat) : Int) := bUshr_nat 16 16 (by omega) (by decide +kernel)
  have eb : bAnd ((bcD n : Int) + bUshr (bcD n : Int) 16) 63 = (bcE n : Int) := by
    rw [ea, show (bcD n : Int) + ((bcD n / 65536 : Nat) : Int) = ((bcD n + bcD n / 65536 : Nat) : Int) by omega]
    exact bAnd_nat (b := 63) (by omega)
  rw [eb]
  refine ⟨by rw [ea]; constructor <;> omega, _, rfl, ?_⟩
  rw [bcE_pop' hn]
  exact h
end C8z
