/-! Long.bitCount, walked; count, on both sides -/
theorem h256 (c z : Nat) : c + 65536 * z = c % 256 + 256 * (c / 256 + 256 * z) := by omega
theorem h256' (c : Nat) : c = c % 256 + 256 * (c / 256) := by omega
theorem fCC_le (M B : Nat) : fCC M B ≤ M := Nat.and_le_right
section C9s
variable {m : tM}
theorem c_longCount {x : Int64} {n0 n1 n2 n3 : Nat} {K : Int → tM → Prop} (h0 : n0 < 65536) (h1 : n1 < 65536) (h2 : n2 < 65536) (h3 : n3 < 65536) (hx : tn x = n0 + 65536 * (n1 + 65536 * (n2 + 65536 * n3))) (h : K ((popN n0 16 + popN n1 16 + popN n2 16 + popN n3 16 : Nat) : Int) m) : Cli mJ13_bitCount_95d88 [lV x] m K := by
  refine Tj.cut (lv' := [some (lV x)]) (wJ13_bitCount_95d88_0 (fun v1 hv1 => ⟨_, rfl, ?_⟩)) ⟨rfl, trivial⟩
  rw [hv1, tn_last]
  have t1 : tn 6148914691236517205 = 21845 + 65536 * (21845 + 65536 * (21845 + 65536 * 21845)) := by decide +kernel
  have t2 : tn 3689348814741910323 = 13107 + 65536 * (13107 + 65536 * (13107 + 65536 * 13107)) := by decide +kernel
  have t3 : tn 1085102592571150095 = 3855 + 65536 * (3855 + 65536 * (3855 + 65536 * 3855)) := by decide +kernel
  have lx := tn_lt x
  -- the pairs
  have s1 : tn (bLushr x 1) = tn x / 2 := tn_shr x (s := 1) (by omega)
  have a1 : tn ((bLushr x 1) &&& 6148914691236517205) = tn x / 2 &&& (21845 + 65536 * (21845 + 65536 * (21845 + 65536 * 21845))) := by rw [tn_and, s1, t1]
  have a1' : tn ((bLushr x 1) &&& 6148914691236517205) ≤ tn x := by
    rw [a1]
    exact Nat.le_trans Nat.and_le_left (Nat.div_le_self _ _)
  have A : tn (x - ((bLushr x 1) &&& 6148914691236517205)) = fA (21845 + 65536 * (21845 + 65536 * (21845 + 65536 * 21845))) (tn x) := by
    rw [tn_sub a1', a1]; rfl
  generalize x - ((bLushr x 1) &&& 6148914691236517205) = xa at A ⊢
  -- the fours
  have s2 : tn (bLushr xa 2) = tn xa / 4 := tn_shr xa (s := 2) (by omega)
  have b1 : tn (xa &&& 3689348814741910323) = tn xa &&& (13107 + 65536 * (13107 + 65536 * (13107 + 65536 * 13107))) := by rw [tn_and, t2]
  have b2 : tn ((bLushr xa 2) &&& 3689348814741910323) = tn xa / 4 &&& (13107 + 65536 * (13107 + 65536 * (13107 + 65536 * 13107))) := by rw [tn_and, s2, t2]
  have b1' : tn (xa &&& 3689348814741910323) ≤ 3689348814741910323 := by rw [b1]; exact Nat.and_le_right
  have b2' : tn ((bLushr xa 2) &&& 3689348814741910323) ≤ 3689348814741910323 := by rw [b2]; exact Nat.and_le_right
  have B : tn ((xa &&& 3689348814741910323) + ((bLushr xa 2) &&& 3689348814741910323)) = fB (13107 + 65536 * (13107 + 65536 * (13107 + 65536 * 13107))) (tn xa) := by
    rw [tn_add (by omega), b1, b2]; rfl
  have lB : tn ((xa &&& 3689348814741910323) + ((bLushr xa 2) &&& 3689348814741910323)) ≤ 7378697629483820646 := by rw [tn_add (by omega)]; omega
  generalize (xa &&& 3689348814741910323) + ((bLushr xa 2) &&& 3689348814741910323) = xb at B lB ⊢
  -- the eights
  have s3 : tn (bLushr xb 4) = tn xb / 16 := tn_shr xb (s := 4) (by omega)
  have C : tn ((xb + (bLushr xb 4)) &&& 1085102592571150095) = fCC (3855 + 65536 * (3855 + 65536 * (3855 + 65536 * 3855))) (tn xb) := by
    rw [tn_and, tn_add (by rw [s3]; omega), s3, t3]; rfl
  generalize (xb + (bLushr xb 4)) &&& 1085102592571150095 = xc at C ⊢
  have e : tn xc = c16 n0 + 65536 * (c16 n1 + 65536 * (c16 n2 + 65536 * c16 n3)) := by
    rw [C, B, A, hx, c_cut _ _ _ _ h0 (Or.inl (by decide)), c_cut _ _ _ _ h1 (Or.inl (by decide)), c_cut _ _ _ _ h2 (Or.inl (by decide))]
    rfl
  have y0 := c16_by n0
  have y1 := c16_by n1
  have y2 := c16_by n2
  have y3 := c16_by n3
  have lC : tn xc ≤ 1085102592571150095 := by rw [C]; exact fCC_le _ _
  -- the sum
  have s4 : tn (bLushr xc 8) = tn xc / 256 := tn_shr xc (s := 8) (by omega)
  have D : tn (xc + (bLushr xc 8)) = tn xc + tn xc / 256 := by rw [tn_add (by rw [s4]; omega), s4]
  have lD : tn (xc + (bLushr xc 8)) ≤ 2170205185142300190 := by rw [D]; omega
  generalize xc + (bLushr xc 8) = xd at D lD ⊢
  have s5 : tn (bLushr xd 16) = tn xd / 65536 := tn_shr xd (s := 16) (by omega)
  have E : tn (xd + (bLushr xd 16)) = tn xd + tn xd / 65536 := by rw [tn_add (by rw [s5]; omega), s5]
  have lE : tn (xd + (bLushr xd 16)) ≤ 4340410370284600380 := by rw [E]; omega
  generalize xd + (bLushr xd 16) = xe at E lE ⊢
  have s6 : tn (bLushr xe 32) = tn xe / 4294967296 := tn_shr xe (s := 32) (by omega)
  have F : tn (xe + (bLushr xe 32)) = tn xe + tn xe / 4294967296 := by rw [tn_add (by rw [s6]; omega), s6]
  have fin := bytes (a0 := c16 n0 % 256) (b0 := c16 n0 / 256) (a1 := c16 n1 % 256) (b1 := c16 n1 / 256) (a2 := c16 n2 % 256) (b2 := c16 n2 / 256) (a3 := c16 n3 % 256) (b3 := c16 n3 / 256) (R1 := c16 n0 / 256 + 256 * (c16 n1 + 65536 * (c16 n2 + 65536 * c16 n3))) (R2 := c16 n1 + 65536 * (c16 n2 + 65536 * c16 n3)) (R3 := c16 n1 / 256 + 256 * (c16 n2 + 65536 * c16 n3)) (R4 := c16 n2 + 65536 * c16 n3) (R5 := c16 n2 / 256 + 256 * c16 n3) (R6 := c16 n3) y0.1 y1.1 y2.1 y3.1 y0.2 y1.2 y2.2 y3.2 (by rw [e]; exact h256 _ _) rfl (h256 _ _) rfl (h256 _ _) rfl (h256' _) D E F
  rw [fin, show c16 n0 % 256 + c16 n0 / 256 + c16 n1 % 256 + c16 n1 / 256 + c16 n2 % 256 + c16 n2 / 256 + c16 n3 % 256 + c16 n3 / 256 = popN n0 16 + popN n1 16 + popN n2 16 + popN n3 16 by rw [c16_pop h0, c16_pop h1, c16_pop h2, c16_pop h3]; simp only [Nat.add_assoc]]
  exact h
/-- the number of a long by its layers -/
theorem tn_bits {x : Int64} {b0 b1 b2 b3 : Nat} (h0 : b0 < 65536) (h1 : b1 < 65536) (h2 : b2 < 65536) (h3 : b3 < 65536) (hb : ∀ n, n < 64 → lb x n = (if n < 16 then b0 else if n < 32 then b1 else if n < 48 then b2 else b3).testBit (n % 16)) : tn x = b0 + 65536 * (b1 + 65536 * (b2 + 65536 * b3)) := by
  refine Nat.eq_of_testBit_eq (fun i => ?_)
  have lt : ∀ {b k : Nat}, b < 65536 → 16 ≤ k → b.testBit k = false := fun hb hk => Nat.testBit_lt_two_pow (Nat.lt_of_lt_of_le hb (Nat.pow_le_pow_right (n := 2) (by omega) hk))
  have cut : ∀ (a r i : Nat), a < 65536 → (a + 65536 * r).testBit i = if i < 16 then a.testBit i else r.testBit (i - 16) := fun a r i ha => by
    have := Nat.testBit_two_pow_mul_add r (i := 16) (b := a) ha i
    rw [Nat.add_comm] at this
    exact this
  rw [cut _ _ _ h0, cut _ _ _ h1, cut _ _ _ h2]
  by_cases q : i < 64
  · have e := hb i q
    unfold lb at e
    show x.toBitVec.toNat.testBit i = _
    rw [BitVec.testBit_toNat, e]
    by_cases q1 : i < 16
    · rw [if_pos q1, if_pos q1, Nat.mod_eq_of_lt q1]
    · rw [if_neg q1, if_neg q1]
      by_cases q2 : i < 32
      · rw [if_pos q2, if_pos (by omega), show i % 16 = i - 16 by omega]
      · rw [if_neg q2, if_neg (show ¬ i - 16 < 16 by omega)]
        by_cases q3 : i < 48
        · rw [if_pos q3, if_pos (by omega), show i % 16 = i - 16 - 16 by omega]
        · rw [if_neg q3, if_neg (by omega), show i % 16 = i - 16 - 16 - 16 by omega]
  · have : x.toBitVec.toNat.testBit i = false := by rw [BitVec.testBit_toNat]; exact BitVec.getLsbD_of_ge _ _ (by omega)
    show x.toBitVec.toNat.testBit i = _
    rw [this, if_neg (by omega), if_neg (by omega), if_neg (by omega), lt h3 (by omega)]
theorem c_cubes {t c : Int → Int} {K : Int → tM → Prop} (hb : BR (m 3) t c) (h : K (sm (fun p => c (16 * 0 + p)) 16 + sm (fun p => c (16 * 1 + p)) 16 + sm (fun p => c (16 * 2 + p)) 16 + sm (fun p => c (16 * 3 + p)) 16) m) : Cli mX1_cubes [rV 2] m K := by
  refine wX1_cubes_0 (c_cells hb (fun x hx => ?_))
  obtain ⟨p0, q0, r0⟩ := hb.lb (z := 0) (by omega) (by omega)
  obtain ⟨p1, q1, r1⟩ := hb.lb (z := 1) (by omega) (by omega)
  obtain ⟨p2, q2, r2⟩ := hb.lb (z := 2) (by omega) (by omega)
  obtain ⟨p3, q3, r3⟩ := hb.lb (z := 3) (by omega) (by omega)
  have bit : ∀ {z b : Int} {n : Nat}, 0 ≤ b → (∀ p, 0 ≤ p → p < 16 → c (16 * z + p) = b / 2 ^ p.toNat % 2) → 16 * z ≤ n → (n : Int) < 16 * z + 16 → 0 ≤ z → (decide (c (n : Int) = 1)) = b.toNat.testBit (n % 16) := fun {z b n} b0 hr n0 n1 z0 => by
    have e := hr ((n : Int) - 16 * z) (by omega) (by omega)
    rw [show 16 * z + ((n : Int) - 16 * z) = n by omega, show ((n : Int) - 16 * z).toNat = n % 16 by omega] at e
    obtain ⟨k, rfl⟩ := Int.eq_ofNat_of_zero_le b0
    rw [Int.toNat_natCast, Nat.testBit_eq_decide_div_mod_eq, e]
    have : ((k / 2 ^ (n % 16) % 2 : Nat) : Int) = (k : Int) / 2 ^ (n % 16) % 2 := by simp
    by_cases g : k / 2 ^ (n % 16) % 2 = 1
    · rw [decide_eq_true g, decide_eq_true (by omega)]
    · rw [decide_eq_false g, decide_eq_false (by omega)]
  refine c_longCount (n0 := (lbits (m 3 0)).toNat) (n1 := (lbits (m 3 1)).toNat) (n2 := (lbits (m 3 2)).toNat) (n3 := (lbits (m 3 3)).toNat) (by omega) (by omega) (by omega) (by omega) (tn_bits (by omega) (by omega) (by omega) (by omega) (fun n hn => ?_)) ⟨_, rfl, ?_⟩
  · rw [hx n hn]
    by_cases g1 : n < 16
    · rw [if_pos g1]; exact bit p0 r0 (by omega) (by omega) (by omega)
    · rw [if_neg g1]
      by_cases g2 : n < 32
      · rw [if_pos g2]; exact bit p1 r1 (by omega) (by omega) (by omega)
      · rw [if_neg g2]
        by_cases g3 : n < 48
        · rw [if_pos g3]; exact bit p2 r2 (by omega) (by omega) (by omega)
        · rw [if_neg g3]; exact bit p3 r3 (by omega) (by omega) (by omega)
  · rw [hb.cnt (z := 0) (by omega) (by omega), hb.cnt (z := 1) (by omega) (by omega), hb.cnt (z := 2) (by omega) (by omega), hb.cnt (z := 3) (by omega) (by omega)] at h
    simp only [Int.natCast_add]
    exact h
theorem c_layersThere {t c : Int → Int} {K : Int → tM → Prop} (hb : BR (m 3) t c) (h : K (t 0 + t 1 + t 2 + t 3) m) : Cli mX1_layersThere [rV 2] m K := by
  refine wX1_layersThere_0 ?_
  have v : ∀ z, 0 ≤ z → z < 4 → ∀ w : Int, w = (if (if m 3 z = -1 then (1 : Int) else 0) = 0 then 1 else 0) → w = t z := fun z z0 z1 w hw => by
    obtain ⟨s1, s2⟩ := hb.mis z0 z1
    by_cases q : m 3 z = -1
    · rw [if_pos q, if_neg (by omega)] at hw
      rw [hw, s1.1 q]
    · rw [if_neg q, if_pos rfl] at hw
      have : ¬ t z = 0 := fun e => q (s1.2 e)
      omega
  have r : ∀ z, 0 ≤ z → z < 4 → 0 ≤ t z ∧ t z ≤ 1 := fun z z0 z1 => by
    rcases (hb.mis z0 z1).2 with e | e <;> omega
  have r0 := r 0 (by omega) (by omega)
  have r1 := r 1 (by omega) (by omega)
  have r2 := r 2 (by omega) (by omega)
  have r3 := r 3 (by omega) (by omega)
  refine wX1_layersThere_4 ⟨fun _ => c_misses (by omega) (by omega) (fun w hw => ?_), fun g => absurd (by omega) g⟩
  rw [v 0 (by omega) (by omega) w hw]
  refine ⟨⟨by constructor <;> omega, by constructor <;> omega⟩, wX1_layersThere_4 ⟨fun _ => c_misses (by omega) (by omega) (fun w hw => ?_), fun g => absurd (by omega) g⟩⟩
  rw [v 1 (by omega) (by omega) w hw]
  refine ⟨⟨by constructor <;> omega, by constructor <;> omega⟩, wX1_layersThere_4 ⟨fun _ => c_misses (by omega) (by omega) (fun w hw => ?_), fun g => absurd (by omega) g⟩⟩
  rw [v 2 (by omega) (by omega) w hw]
  refine ⟨⟨by constructor <;> omega, by constructor <;> omega⟩, wX1_layersThere_4 ⟨fun _ => c_misses (by omega) (by omega) (fun w hw => ?_), fun g => absurd (by omega) g⟩⟩
  rw [v 3 (by omega) (by omega) w hw]
  refine ⟨⟨by constructor <;> omega, by constructor <;> omega⟩, wX1_layersThere_4 ⟨fun g => absurd g (by omega), fun _ => ⟨_, rfl, ?_⟩⟩⟩
  rw [Int.zero_add]
  exact h
theorem sim_count {w : Int} {K : Int → Int → tM → Prop} (hc : Cur m) (hh : HisR m) (hu : HUc m) (h : ∀ r m', Cur m' → HisR m' → HUc m' → OTB m m' → K r r m') : Cli mX11_count [rV 0, iV w] m (fun r m1 => Cli mX12_count [rV 145, iV w] m1 (fun r' m2 => K r r' m2)) := by
  obtain ⟨i1, i2, i3, i4⟩ := idleB hc hh hu
  have fin := fun r => h r _ i1 i2 i3 i4
  have n60 := hc.n
  have ce := hc.eq
  have cs := crease_sum hc
  obtain ⟨hB, hE, hS⟩ := id hc
  have r : ∀ z, 0 ≤ z → z < 4 → 0 ≤ m 146 z ∧ m 146 z ≤ 1 := fun z z0 z1 => by
    rcases (hB.mis z0 z1).2 with e | e <;> omega
  have r0 := r 0 (by omega) (by omega)
  have r1 := r 1 (by omega) (by omega)
  have r2 := r 2 (by omega) (by omega)
  have r3 := r 3 (by omega) (by omega)
  have e147 : (up m 145 0 0) 147 = m 147 := up_ne _ _ _ (by omega)
  have sb : ∀ z, 0 ≤ z → z < 4 → 0 ≤ sm (fun p => m 147 (16 * z + p)) 16 ∧ sm (fun p => m 147 (16 * z + p)) 16 ≤ 16 := fun z z0 z1 => by
    have : ∀ n : Nat, n ≤ 16 → 0 ≤ sm (fun p => m 147 (16 * z + p)) n ∧ sm (fun p => m 147 (16 * z + p)) n ≤ n := by
      intro n
      induction n with
      | zero => intro _; rw [sm]; omega
      | succ n ih =>
        intro hn
        have := ih (by omega)
        have c := hB.c01 (q := 16 * z + n) (by omega) (by omega)
        rw [sm]
        omega
    exact this 16 (Nat.le_refl _)
  have b0 := sb 0 (by omega) (by omega)
  have b1 := sb 1 (by omega) (by omega)
  have b2 := sb 2 (by omega) (by omega)
  have b3 := sb 3 (by omega) (by omega)
  have ci : ∀ {z : Int} {K : Int → tM → Prop}, 0 ≤ z → z < 4 → K (sm (fun p => m 147 (16 * z + p)) 16) (up m 145 0 0) → Cli mX12_cubesIn [rV 145, iV z] (up m 145 0 0) K := fun {z K} z0 z1 hk => c_cubesInM z0 z1 (fun p p0 p1 => by rw [e147]; exact hB.c01 (by omega) (by omega)) (by rw [e147]; exact hk)
  refine wX11_count_0 ⟨fun e => ?_, fun e => ?_, fun e => ?_, fun e => ?_, fun e => ?_, fun e0 e1 e2 e3 e4 => ?_⟩
  · refine c_cubes hB ⟨_, rfl, wX12_count_0 ⟨fun _ => ci (by omega) (by omega) (ci (by omega) (by omega) ⟨by constructor <;> omega, ci (by omega) (by omega) ⟨by constructor <;> omega, ci (by omega) (by omega) ⟨by constructor <;> omega, _, rfl, fin _⟩⟩⟩), fun g => by omega, fun g => by omega, fun g => by omega, fun g => by omega, fun g => absurd e g⟩⟩
  · refine c_layersThere hB ⟨_, rfl, wX12_count_0 ⟨fun g => by omega, fun _ => ⟨⟨by constructor <;> omega, by constructor <;> omega, by constructor <;> omega⟩, _, rfl, fin _⟩, fun g => by omega, fun g => by omega, fun g => by omega, fun _ g => absurd e g⟩⟩
  · refine c_size shS_6 ⟨_, rfl, wX12_count_0 ⟨fun g => by omega, fun g => by omega, fun _ => ⟨_, rfl, ?_⟩, fun g => by omega, fun g => by omega, fun _ _ g => absurd e g⟩⟩
    rw [← ce.1]
    exact fin _
  · refine c_creaseCount shS_6 n60.1 n60.2 ⟨_, rfl, wX12_count_0 ⟨fun g => by omega, fun g => by omega, fun g => by omega, fun _ => ?_, fun g => by omega, fun _ _ _ g => absurd e g⟩⟩
    refine c_creases (by rw [up_at_ne _ _ _ (by omega), ← ce.1]; exact n60.1) (by rw [up_at_ne _ _ _ (by omega), ← ce.1]; exact n60.2) ⟨_, rfl, ?_⟩
    rw [up_ne _ _ _ (by omega), up_ne _ _ _ (by omega), up_at_ne _ _ _ (by omega), ← cs]
    exact fin _
  · refine wX7_size_0 ⟨_, rfl, _, rfl, wX12_count_0 ⟨fun g => by omega, fun g => by omega, fun g => by omega, fun g => by omega, fun _ => ⟨_, rfl, ?_⟩, fun _ _ _ _ g => absurd e g⟩⟩
    rw [hh.2.2.1]
    exact fin _
  · exact ⟨_, rfl, wX12_count_0 ⟨fun g => absurd g e0, fun g => absurd g e1, fun g => absurd g e2, fun g => absurd g e3, fun g => absurd g e4, fun _ _ _ _ _ => ⟨_, rfl, fin _⟩⟩⟩
end C9s
