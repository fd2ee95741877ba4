/-! whether a body is well, in the reference -/
theorem nI_or (a b : Nat) : nI a ||| nI b = nI (a ||| b) := by
  apply Int32.toBitVec_inj.1
  show BitVec.ofNat 32 a ||| BitVec.ofNat 32 b = BitVec.ofNat 32 (a ||| b)
  apply BitVec.eq_of_getLsbD_eq
  intro i hi
  simp [hi]
theorem bOr_nat {a b : Nat} (ha : a < 256) (hb : b < 256) : bOr (a : Int) (b : Int) = ((a ||| b : Nat) : Int) := by
  unfold bOr
  have := Nat.or_lt_two_pow (n := 8) ha hb
  rw [oi_nat, oi_nat, nI_or, nI_ti (by omega)]
theorem bXs_f : ∀ i : Fin 8, ∀ b : Fin 8, bShl 1 (bXor (i.val : Int) (b.val : Int)) = ((1 <<< (i.val ^^^ b.val) : Nat) : Int) ∧ (1 <<< (i.val ^^^ b.val) : Nat) < 256 := by decide +kernel
theorem jb_int {a r i b : Nat} (ha : a < 256) (hr : r < 256) (hi : i < 8) (hb : b < 8) : bOr (r : Int) (bAnd (a : Int) (bShl 1 (bXor (i : Int) (b : Int)))) = (jb a r i b : Int) ∧ jb a r i b < 256 := by
  have f := bXs_f ⟨i, hi⟩ ⟨b, hb⟩
  simp only at f
  have l : a &&& (1 <<< (i ^^^ b)) < 256 := Nat.lt_of_le_of_lt Nat.and_le_left ha
  rw [f.1, bAnd_nat (by omega), bOr_nat hr l]
  exact ⟨rfl, Nat.or_lt_two_pow (n := 8) hr l⟩
theorem tb_int {r i : Nat} (hr : r < 256) (hi : i < 8) : (bAnd (bShr (r : Int) (i : Int)) 1 = 1) ↔ r.testBit i = true := by
  have e := bit_of (x := (r : Int)) (p := (i : Int)) (by constructor <;> omega) (by omega) (by omega)
  rw [e, Int.toNat_natCast, Nat.testBit_eq_decide_div_mod_eq, decide_eq_true_eq]
  have : ((r / 2 ^ i % 2 : Nat) : Int) = (r : Int) / 2 ^ i % 2 := by simp
  omega
theorem al_f : ∀ P : Fin 256, ∀ i : Fin 8, bOr ((P.val % 2 ^ i.val : Nat) : Int) (bShl ((P.val / 2 ^ i.val % 2 : Nat) : Int) (i.val : Int)) = ((P.val % 2 ^ (i.val + 1) : Nat) : Int) := by decide +kernel
theorem lwI_f : ∀ P : Fin 256, bAnd (P.val : Int) (-(P.val : Int)) = (lwN P.val : Int) ∧ lwN P.val < 256 := by decide +kernel
section C9o
variable {m : tM} {c : Int → Int}
theorem c_areJoined {n P : Nat} {K : Int → tM → Prop} (hn : n48 n) (hP : P < 2 ^ n) (hr : ∀ i : Nat, i < n → m 157 (i : Int) = ((P / 2 ^ i % 2 : Nat) : Int)) (h : K (if JN n P then 1 else 0) m) : Cli mX12_areJoined [rV 145, iV (n : Int)] m K := by
  have hn8 : n ≤ 8 := by rcases hn with rfl | rfl <;> omega
  have hP8 : P < 256 := Nat.lt_of_lt_of_le hP (Nat.pow_le_pow_right (n := 2) (by omega) hn8)
  refine wX12_areJoined_0 ?_
  have key := up_ind (n := (n : Int)) (fun i => Tj mX12_areJoined 7 [some (rV 145), some (iV (n : Int)), none, some (iV ((P % 2 ^ i.toNat : Nat) : Int)), some (iV i)] [] m (fun r m' => ∃ x, r = some (iV x) ∧ K x m')) ?_ ?_ (i := 0) (by omega) (by omega)
  · rw [show P % 2 ^ (0 : Int).toNat = 0 by show P % 1 = 0; omega] at key
    exact key
  · rw [Int.toNat_natCast, Nat.mod_eq_of_lt hP]
    have lw := lwI_f ⟨P, hP8⟩
    simp only at lw
    refine wX12_areJoined_7 ⟨fun g => by omega, fun _ => ⟨by constructor <;> omega, ?_⟩⟩
    rw [lw.1]
    -- the rounds
    have bnd : ∀ k i, jr n P i (jt n P k (lwN P)) < 256 := fun k i => by
      have ji256 : ∀ r i, r < 256 → i < 8 → ji n P i r < 256 := fun r i hr hi => by
        have b1 := (jb_int (b := 1) hP8 hr hi (by omega)).2
        have b2 := (jb_int (b := 2) hP8 b1 hi (by omega)).2
        have b3 := (jb_int (b := 4) hP8 b2 hi (by omega)).2
        unfold ji
        split
        · split
          · exact b2
          · exact b3
        · exact hr
      have jr256 : ∀ i r, r < 256 → i ≤ 8 → jr n P i r < 256 := fun i => by
        induction i with
        | zero => exact fun r hr _ => hr
        | succ i ih => exact fun r hr hi => ji256 _ i (ih r hr (by omega)) (by omega)
      have jt256 : ∀ k, jt n P k (lwN P) < 256 := fun k => by
        induction k with
        | zero => exact lw.2
        | succ k ih => exact jr256 n _ ih hn8
      by_cases q : i ≤ 8
      · exact jr256 i _ (jt256 k) q
      · -- beyond: not used
        have : ∀ j, j ≤ i → jr n P j (jt n P k (lwN P)) < 256 := fun j => by
          induction j with
          | zero => exact fun _ => jt256 k
          | succ j ih =>
            intro hj
            have r := ih (by omega)
            by_cases j8 : j < 8
            · exact ji256 _ j r j8
            · show ji n P j _ < 256
              unfold ji
              rw [if_neg]
              · exact r
              · rw [Nat.testBit_lt_two_pow (Nat.lt_of_lt_of_le r (Nat.pow_le_pow_right (n := 2) (by omega) (show 8 ≤ j by omega)))]
                decide
        exact this i (Nat.le_refl i)
    have key2 := up_ind (n := 8) (fun k => Tj mX12_areJoined 40 [none, some (iV (n : Int)), some (iV (jt n P k.toNat (lwN P) : Int)), some (iV (P : Int)), some (iV k)] [] m (fun r m' => ∃ x, r = some (iV x) ∧ K x m')) ?_ ?_ (i := 0) (by omega) (by omega)
    · exact key2
    · refine wX12_areJoined_40 ⟨fun g => by omega, fun _ v hv => ⟨v, rfl, ?_⟩⟩
      have e : v = if JN n P then 1 else 0 := by
        rw [hv]
        by_cases q : JN n P
        · rw [if_pos q, if_pos]
          exact congrArg (fun x : Nat => (x : Int)) q
        · rw [if_neg q, if_neg]
          intro g
          exact q (Int.ofNat.inj g)
      rw [e]
      exact h
    · intro k k0 k1 ih
      refine wX12_areJoined_40 ⟨fun _ => ?_, fun g => absurd k1 g⟩
      have key3 := up_ind (n := (n : Int)) (fun i => Tj mX12_areJoined 50 [none, some (iV (n : Int)), some (iV (jr n P i.toNat (jt n P k.toNat (lwN P)) : Int)), some (iV (P : Int)), some (iV k), some (iV i)] [] m (fun r m' => ∃ x, r = some (iV x) ∧ K x m')) ?_ ?_ (i := 0) (by omega) (by omega)
      · exact key3
      · refine wX12_areJoined_50 ⟨fun g => by omega, fun _ => ⟨by constructor <;> omega, ?_⟩⟩
        rw [show (k + 1).toNat = k.toNat + 1 by omega] at ih
        rw [Int.toNat_natCast]
        exact ih
      · intro i i0 i1 ih3
        obtain ⟨iN, rfl⟩ := Int.eq_ofNat_of_zero_le i0
        rw [Int.toNat_natCast]
        rw [show ((iN : Int) + 1).toNat = iN + 1 by omega] at ih3
        have rb := bnd k.toNat iN
        generalize hr0 : jr n P iN (jt n P k.toNat (lwN P)) = r at rb
        have ih4 : Tj mX12_areJoined 50 [none, some (iV (n : Int)), some (iV (ji n P iN r : Int)), some (iV (P : Int)), some (iV k), some (iV ((iN : Int) + 1))] [] m (fun r m' => ∃ x, r = some (iV x) ∧ K x m') := by
          rw [← hr0]; exact ih3
        refine wX12_areJoined_50 ⟨fun _ => ?_, fun g => absurd i1 g⟩
        have i8 : iN < 8 := by omega
        by_cases tb : r.testBit iN = true
        · have q1 := jb_int (b := 1) hP8 rb i8 (by omega)
          have q2 := jb_int (b := 2) hP8 q1.2 i8 (by omega)
          have q3 := jb_int (b := 4) hP8 q2.2 i8 (by omega)
          have t1 : (jb P r iN 1).testBit iN = true := by rw [tb_jb, tb]; rfl
          have t2 : (jb P (jb P r iN 1) iN 2).testBit iN = true := by rw [tb_jb, t1]; rfl
          refine wX12_areJoined_59 ⟨fun _ => ⟨fun _ => ⟨by constructor <;> omega, ?_⟩, fun g => absurd ((tb_int rb i8).2 tb) g⟩, fun g => absurd (by rcases hn with rfl | rfl <;> omega) g⟩
          rw [show bOr (r : Int) (bAnd (P : Int) (bShl 1 (bXor (iN : Int) 1))) = (jb P r iN 1 : Int) from q1.1, show (1 : Int) * 2 = 2 by omega]
          refine wX12_areJoined_59 ⟨fun _ => ⟨fun _ => ⟨by constructor <;> omega, ?_⟩, fun g => absurd ((tb_int q1.2 i8).2 t1) g⟩, fun g => absurd (by rcases hn with rfl | rfl <;> omega) g⟩
          rw [show bOr (jb P r iN 1 : Int) (bAnd (P : Int) (bShl 1 (bXor (iN : Int) 2))) = (jb P (jb P r iN 1) iN 2 : Int) from q2.1, show (2 : Int) * 2 = 4 by omega]
          rcases hn with rfl | rfl
          · refine wX12_areJoined_59 ⟨fun g => absurd g (by omega), fun _ => ⟨by constructor <;> omega, ?_⟩⟩
            have e : ji 4 P iN r = jb P (jb P r iN 1) iN 2 := by unfold ji; rw [if_pos tb, if_pos rfl]
            rw [← e]
            exact ih4
          · refine wX12_areJoined_59 ⟨fun _ => ⟨fun _ => ⟨by constructor <;> omega, ?_⟩, fun g => absurd ((tb_int q2.2 i8).2 t2) g⟩, fun g => absurd (by omega) g⟩
            rw [show bOr (jb P (jb P r iN 1) iN 2 : Int) (bAnd (P : Int) (bShl 1 (bXor (iN : Int) 4))) = (jb P (jb P (jb P r iN 1) iN 2) iN 4 : Int) from q3.1, show (4 : Int) * 2 = 8 by omega]
            refine wX12_areJoined_59 ⟨fun g => absurd g (by omega), fun _ => ⟨by constructor <;> omega, ?_⟩⟩
            have e : ji 8 P iN r = jb P (jb P (jb P r iN 1) iN 2) iN 4 := by unfold ji; rw [if_pos tb, if_neg (by omega)]
            rw [← e]
            exact ih4
        · refine wX12_areJoined_59 ⟨fun _ => ⟨fun g => absurd ((tb_int rb i8).1 g) tb, fun _ => ⟨by constructor <;> omega, ?_⟩⟩, fun g => absurd (by rcases hn with rfl | rfl <;> omega) g⟩
          have e : ji n P iN r = r := by unfold ji; rw [if_neg tb]
          rw [e] at ih4
          exact ih4
  · intro i i0 i1 ih
    obtain ⟨iN, rfl⟩ := Int.eq_ofNat_of_zero_le i0
    refine wX12_areJoined_7 ⟨fun _ => ⟨⟨i0, by omega, by constructor <;> omega⟩, ?_⟩, fun g => absurd i1 g⟩
    have e := al_f ⟨P, hP8⟩ ⟨iN, by omega⟩
    simp only at e
    rw [hr iN (by omega), Int.toNat_natCast, e]
    rw [show ((iN : Int) + 1).toNat = iN + 1 by omega] at ih
    exact ih
theorem V3_01 {c : Int → Int} (h01 : ∀ p, c p = 0 ∨ c p = 1) (x y z : Int) : V3 c x y z = 0 ∨ V3 c x y z = 1 := by
  unfold V3 vl
  split
  · exact h01 _
  · exact Or.inl rfl
theorem pt_row {f : Nat → Int} (h : ∀ i, f i = 0 ∨ f i = 1) {n i : Nat} (hi : i < n) : f i = ((pt f n / 2 ^ i % 2 : Nat) : Int) := by
  have e := pt_bit f n hi
  rw [Nat.testBit_eq_decide_div_mod_eq] at e
  rcases h i with q | q
  · rw [q] at e
    have := of_decide_eq_false e
    omega
  · rw [q] at e
    have := of_decide_eq_true e
    omega
theorem c_corner {x y z : Int} {K : Int → tM → Prop} (hc : CE m c) (h01 : ∀ p, c p = 0 ∨ c p = 1) (x0 : -1 ≤ x ∧ x < 4) (y0 : -1 ≤ y ∧ y < 4) (z0 : -1 ≤ z ∧ z < 4) (h : ∀ m', (∀ a, a ≠ 157 → m' a = m a) → K (if CW c x y z then 1 else 0) m') : Cli mX12_isCornerWell [rV 145, iV x, iV y, iV z] m K := by
  refine wX12_isCornerWell_0 ?_
  have key := up_ind (n := 8) (fun i => ∀ m', (∀ a, a ≠ 157 → m' a = m a) → (∀ j : Nat, (j : Int) < i → m' 157 (j : Int) = fC c x y z j) → Tj mX12_isCornerWell 3 [some (rV 145), some (iV x), some (iV y), some (iV z), some (iV i)] [] m' (fun r m' => ∃ v, r = some (iV v) ∧ K v m')) ?_ ?_ (i := 0) (by omega) (by omega)
  · exact key m (fun _ _ => rfl) (fun j hj => by omega)
  · intro m' fr hr
    refine wX12_isCornerWell_3 ⟨fun g => by omega, fun _ => c_areJoined (n := 8) (P := pt (fC c x y z) 8) (Or.inr rfl) (pt_lt _ 8) (fun i hi => ?_) ⟨?_, _, rfl, h m' fr⟩⟩
    · rw [hr i (by omega)]
      exact pt_row (f := fC c x y z) (fun i => V3_01 h01 (x + (i : Int) % 2) (y + (i : Int) / 2 % 2) (z + (i : Int) / 4)) hi
    · split
      · exact Or.inr rfl
      · exact Or.inl rfl
  · intro i i0 i1 ih m' fr hr
    obtain ⟨iN, rfl⟩ := Int.eq_ofNat_of_zero_le i0
    have ri : R32 (iN : Int) := by constructor <;> omega
    have b1 := bAnd_1 ri
    have b2 : bAnd (bShr (iN : Int) 1) 1 = (iN : Int) / 2 % 2 := by rw [bAnd_1 (show R32 (bShr (iN : Int) 1) from tr_of _), bShr_1 ri]
    have b3 := bShr_2 ri
    refine wX12_isCornerWell_3 ⟨fun _ => ?_, fun g => absurd i1 g⟩
    rw [b1, b2, b3]
    refine ⟨⟨by constructor <;> omega, by constructor <;> omega, by constructor <;> omega⟩, c_cubeAt (c := c) (fun q q0 q1 => by rw [fr 147 (by omega)]; exact hc q q0 q1) ⟨⟨by omega, by omega, by constructor <;> omega⟩, ih _ (fun a ha => by rw [up_ne _ _ _ ha, fr a ha]) (fun j hj => ?_)⟩⟩
    by_cases q : (j : Int) = iN
    · rw [q, up_at, show j = iN by omega]
      rfl
    · rw [up_at_ne _ _ _ q]
      exact hr j (by omega)
theorem c_edge {x y z a : Int} {K : Int → tM → Prop} (hc : CE m c) (h01 : ∀ p, c p = 0 ∨ c p = 1) (x0 : -1 ≤ x ∧ x < 4) (y0 : -1 ≤ y ∧ y < 4) (z0 : -1 ≤ z ∧ z < 4) (h : ∀ m', (∀ a, a ≠ 157 → m' a = m a) → K (if EW c x y z a then 1 else 0) m') : Cli mX12_isEdgeWell [rV 145, iV x, iV y, iV z, iV a] m K := by
  refine wX12_isEdgeWell_0 ?_
  have f01 : ∀ i, fE c x y z a i = 0 ∨ fE c x y z a i = 1 := fun i => by
    unfold fE
    split
    · exact V3_01 h01 _ _ _
    · split
      · exact V3_01 h01 _ _ _
      · exact V3_01 h01 _ _ _
  have key := up_ind (n := 4) (fun i => ∀ m', (∀ a, a ≠ 157 → m' a = m a) → (∀ j : Nat, (j : Int) < i → m' 157 (j : Int) = fE c x y z a j) → Tj mX12_isEdgeWell 3 [some (rV 145), some (iV x), some (iV y), some (iV z), some (iV a), some (iV i)] [] m' (fun r m' => ∃ v, r = some (iV v) ∧ K v m')) ?_ ?_ (i := 0) (by omega) (by omega)
  · exact key m (fun _ _ => rfl) (fun j hj => by omega)
  · intro m' fr hr
    refine wX12_isEdgeWell_3 ⟨fun g => by omega, fun _ => c_areJoined (n := 4) (P := pt (fE c x y z a) 4) (Or.inl rfl) (pt_lt _ 4) (fun i hi => ?_) ⟨?_, _, rfl, h m' fr⟩⟩
    · rw [hr i (by omega)]
      exact pt_row f01 hi
    · split
      · exact Or.inr rfl
      · exact Or.inl rfl
  · intro i i0 i1 ih m' fr hr
    obtain ⟨iN, rfl⟩ := Int.eq_ofNat_of_zero_le i0
    have ri : R32 (iN : Int) := by constructor <;> omega
    have b1 := bAnd_1 ri
    have b3 := bShr_1 ri
    have ce' : CE m' c := fun q q0 q1 => by rw [fr 147 (by omega)]; exact hc q q0 q1
    have nxt : ∀ v, v = fE c x y z a iN → Tj mX12_isEdgeWell 3 [some (rV 145), some (iV x), some (iV y), some (iV z), some (iV a), some (iV ((iN : Int) + 1))] [] (up m' 157 (iN : Int) v) (fun r m' => ∃ v, r = some (iV v) ∧ K v m') := fun v hv => ih _ (fun a ha => by rw [up_ne _ _ _ ha, fr a ha]) (fun j hj => by
      by_cases q : (j : Int) = iN
      · rw [q, up_at, show j = iN by omega]; exact hv
      · rw [up_at_ne _ _ _ q]
        exact hr j (by omega))
    refine wX12_isEdgeWell_3 ⟨fun _ => ?_, fun g => absurd i1 g⟩
    rw [b1, b3]
    refine ⟨fun ga => ⟨⟨by constructor <;> omega, by constructor <;> omega⟩, c_cubeAt ce' ⟨⟨by omega, by omega, by constructor <;> omega⟩, nxt _ ?_⟩⟩, fun ga => ⟨fun gb => ⟨⟨by constructor <;> omega, by constructor <;> omega⟩, c_cubeAt ce' ⟨⟨by omega, by omega, by constructor <;> omega⟩, nxt _ ?_⟩⟩, fun gb => ⟨⟨by constructor <;> omega, by constructor <;> omega⟩, c_cubeAt ce' ⟨⟨by omega, by omega, by constructor <;> omega⟩, nxt _ ?_⟩⟩⟩⟩
    · unfold fE; rw [if_pos ga]; rfl
    · unfold fE; rw [if_neg ga, if_pos gb]; rfl
    · unfold fE; rw [if_neg ga, if_neg gb]; rfl
abbrev AW (c : Int → Int) (x y z : Int) : Prop := CW c x y z ∧ EW c x y z 0 ∧ EW c x y z 1 ∧ EW c x y z 2
/-- from the first number on -/
theorem up_ind1 {n : Int} (Q : Int → Prop) (hn : Q n) (hs : ∀ i, -1 ≤ i → i < n → Q (i + 1) → Q i) {i : Int} (h0 : -1 ≤ i) (h1 : i ≤ n) : Q i := by
  have := up_ind (n := n + 1) (fun j => Q (j - 1)) (by rw [show n + 1 - 1 = n by omega]; exact hn) (fun j j0 j1 h => hs (j - 1) (by omega) (by omega) (by rw [show j - 1 + 1 = j + 1 - 1 by omega]; exact h)) (i := i + 1) (by omega) (by omega)
  rw [show i + 1 - 1 = i by omega] at this
  exact this
theorem c_joinedWell {K : Int → tM → Prop} (hc : CE m c) (h01 : ∀ p, c p = 0 ∨ c p = 1) (h1 : W3 c → ∀ m', (∀ a, a ≠ 157 → m' a = m a) → K 1 m') (h0 : ¬ W3 c → ∀ m', (∀ a, a ≠ 157 → m' a = m a) → K 0 m') : Cli mX12_isJoinedWell [rV 145] m K := by
  refine wX12_isJoinedWell_0 ?_
  -- f = 1: all so far are well; f = 0: one isn't
  have key := up_ind1 (n := 4) (fun x => ∀ f m', (∀ a, a ≠ 157 → m' a = m a) → ((f = 1 ∧ ∀ x' y' z', -1 ≤ x' → x' < x → -1 ≤ y' → y' < 4 → -1 ≤ z' → z' < 4 → AW c x' y' z') ∨ (f = 0 ∧ ¬ W3 c)) → Tj mX12_isJoinedWell 4 [some (rV 145), some (iV f), some (iV x)] [] m' (fun r m' => ∃ v, r = some (iV v) ∧ K v m')) ?_ ?_ (i := -1) (by omega) (by omega)
  · exact key 1 m (fun _ _ => rfl) (Or.inl ⟨rfl, fun x' y' z' a b => by omega⟩)
  · intro f m' fr hf
    refine wX12_isJoinedWell_4 ⟨fun g => by omega, fun _ => ?_⟩
    rcases hf with ⟨rfl, g⟩ | ⟨rfl, g⟩
    · exact ⟨Or.inr rfl, _, rfl, h1 ((W3_iff c).1 (fun x y z a1 a2 a3 a4 a5 a6 => g x y z a1 a2 a3 a4 a5 a6)) m' fr⟩
    · exact ⟨Or.inl rfl, _, rfl, h0 g m' fr⟩
  · intro x x0 x1 ih f m' fr hf
    refine wX12_isJoinedWell_4 ⟨fun _ => ?_, fun g => absurd x1 g⟩
    have key2 := up_ind1 (n := 4) (fun y => ∀ f m', (∀ a, a ≠ 157 → m' a = m a) → ((f = 1 ∧ ∀ x' y' z', -1 ≤ x' → x' < x ∨ (x' = x ∧ y' < y) → -1 ≤ y' → y' < 4 → -1 ≤ z' → z' < 4 → AW c x' y' z') ∨ (f = 0 ∧ ¬ W3 c)) → Tj mX12_isJoinedWell 11 [some (rV 145), some (iV f), some (iV x), some (iV y)] [] m' (fun r m' => ∃ v, r = some (iV v) ∧ K v m')) ?_ ?_ (i := -1) (by omega) (by omega)
    · refine key2 f m' fr ?_
      rcases hf with ⟨a, g⟩ | g
      · exact Or.inl ⟨a, fun x' y' z' b1 b2 b3 b4 b5 b6 => g x' y' z' b1 (by omega) b3 b4 b5 b6⟩
      · exact Or.inr g
    · intro f m' fr hf
      refine wX12_isJoinedWell_11 ⟨fun g => by omega, fun _ => ⟨by constructor <;> omega, ih f m' fr ?_⟩⟩
      rcases hf with ⟨a, g⟩ | g
      · exact Or.inl ⟨a, fun x' y' z' b1 b2 b3 b4 b5 b6 => g x' y' z' b1 (by omega) b3 b4 b5 b6⟩
      · exact Or.inr g
    · intro y y0 y1 ih2 f m' fr hf
      refine wX12_isJoinedWell_11 ⟨fun _ => ?_, fun g => absurd y1 g⟩
      have key3 := up_ind1 (n := 4) (fun z => ∀ f m', (∀ a, a ≠ 157 → m' a = m a) → ((f = 1 ∧ ∀ x' y' z', -1 ≤ x' → x' < x ∨ (x' = x ∧ (y' < y ∨ (y' = y ∧ z' < z))) → -1 ≤ y' → y' < 4 → -1 ≤ z' → z' < 4 → AW c x' y' z') ∨ (f = 0 ∧ ¬ W3 c)) → Tj mX12_isJoinedWell 19 [some (rV 145), some (iV f), some (iV x), some (iV y), some (iV z)] [] m' (fun r m' => ∃ v, r = some (iV v) ∧ K v m')) ?_ ?_ (i := -1) (by omega) (by omega)
      · refine key3 f m' fr ?_
        rcases hf with ⟨a, g⟩ | g
        · exact Or.inl ⟨a, fun x' y' z' b1 b2 b3 b4 b5 b6 => g x' y' z' b1 (by omega) b3 b4 b5 b6⟩
        · exact Or.inr g
      · intro f m' fr hf
        refine wX12_isJoinedWell_19 ⟨fun g => by omega, fun _ => ⟨by constructor <;> omega, ih2 f m' fr ?_⟩⟩
        rcases hf with ⟨a, g⟩ | g
        · exact Or.inl ⟨a, fun x' y' z' b1 b2 b3 b4 b5 b6 => g x' y' z' b1 (by omega) b3 b4 b5 b6⟩
        · exact Or.inr g
      · intro z z0 z1 ih3 f m' fr hf
        have bad : ¬ AW c x y z → ¬ W3 c := fun n w => n ((W3_iff c).2 w x y z x0 x1 y0 y1 z0 z1)
        have cE : ∀ {mm : tM}, (∀ a, a ≠ 157 → mm a = m a) → CE mm c := fun g q q0 q1 => by rw [g 147 (by omega)]; exact hc q q0 q1
        refine wX12_isJoinedWell_19 ⟨fun _ => ⟨fun g => ⟨by constructor <;> omega, ih3 0 m' fr (Or.inr ⟨rfl, ?_⟩)⟩, fun g => ?_⟩, fun g => absurd z1 g⟩
        · rcases hf with ⟨a, _⟩ | a
          · omega
          · exact a.2
        have hf1 : ∀ x' y' z', -1 ≤ x' → x' < x ∨ (x' = x ∧ (y' < y ∨ (y' = y ∧ z' < z))) → -1 ≤ y' → y' < 4 → -1 ≤ z' → z' < 4 → AW c x' y' z' := by
          rcases hf with ⟨_, a⟩ | a
          · exact a
          · exact absurd a.1 g
        refine c_corner (cE fr) h01 ⟨x0, x1⟩ ⟨y0, y1⟩ ⟨z0, z1⟩ (fun m1 f1 => ⟨fun g1 => ⟨by constructor <;> omega, ih3 0 m1 (fun a ha => by rw [f1 a ha, fr a ha]) (Or.inr ⟨rfl, bad (fun w => if10 g1 w.1)⟩)⟩, fun g1 => ?_⟩)
        have fr1 : ∀ a, a ≠ 157 → m1 a = m a := fun a ha => by rw [f1 a ha, fr a ha]
        refine c_edge (cE fr1) h01 ⟨x0, x1⟩ ⟨y0, y1⟩ ⟨z0, z1⟩ (fun m2 f2 => ⟨fun g2 => ⟨by constructor <;> omega, ih3 0 m2 (fun a ha => by rw [f2 a ha, fr1 a ha]) (Or.inr ⟨rfl, bad (fun w => if10 g2 w.2.1)⟩)⟩, fun g2 => ?_⟩)
        have fr2 : ∀ a, a ≠ 157 → m2 a = m a := fun a ha => by rw [f2 a ha, fr1 a ha]
        refine c_edge (cE fr2) h01 ⟨x0, x1⟩ ⟨y0, y1⟩ ⟨z0, z1⟩ (fun m3 f3 => ⟨fun g3 => ⟨by constructor <;> omega, ih3 0 m3 (fun a ha => by rw [f3 a ha, fr2 a ha]) (Or.inr ⟨rfl, bad (fun w => if10 g3 w.2.2.1)⟩)⟩, fun g3 => ?_⟩)
        have fr3 : ∀ a, a ≠ 157 → m3 a = m a := fun a ha => by rw [f3 a ha, fr2 a ha]
        refine c_edge (cE fr3) h01 ⟨x0, x1⟩ ⟨y0, y1⟩ ⟨z0, z1⟩ (fun m4 f4 v hv => ⟨by constructor <;> omega, ih3 v m4 (fun a ha => by rw [f4 a ha, fr3 a ha]) ?_⟩)
        by_cases g4 : EW c x y z 2
        · rw [if_pos g4, if_neg (by omega)] at hv
          refine Or.inl ⟨hv, fun x' y' z' b1 b2 b3 b4 b5 b6 => ?_⟩
          by_cases q : x' = x ∧ y' = y ∧ z' = z
          · rw [q.1, q.2.1, q.2.2]
            exact ⟨if11 g1, if11 g2, if11 g3, g4⟩
          · exact hf1 x' y' z' b1 (by omega) b3 b4 b5 b6
        · rw [if_neg g4, if_pos rfl] at hv
          exact Or.inr ⟨hv, bad (fun w => g4 w.2.2.2)⟩
/-- the number of the reference is that of the class -/
theorem c_wellOf {K : Int → tM → Prop} (hc : CE m c) (hN : N01 c) (h : ∀ w m', FLT c w → (∀ a, a ≠ 156 → a ≠ 157 → m' a = m a) → K w m') : Cli mX12_wellOf [rV 145] m K := by
  have h01 := hN.1
  refine wX12_wellOf_0 ?_
  have B : ∀ n : Nat, 0 ≤ sm c n ∧ sm c n ≤ n := by
    intro n
    induction n with
    | zero => rw [sm]; omega
    | succ n ih =>
      have := h01 n
      rw [sm]
      omega
  have key := up_ind (n := 64) (fun i => Tj mX12_wellOf 4 [some (rV 145), some (iV (sm c i.toNat)), some (iV i)] [] m (fun r m' => ∃ v, r = some (iV v) ∧ K v m')) ?_ ?_ (i := 0) (by omega) (by omega)
  · exact key
  · have z : sm c 64 = 0 ↔ W1 c := by
      constructor
      · intro e p hp
        have all : ∀ n : Nat, sm c n = 0 → ∀ k : Nat, k < n → c k = 0 := by
          intro n
          induction n with
          | zero => intro _ k hk; omega
          | succ n ih =>
            intro e k hk
            have b := B n
            have q := h01 n
            rw [sm] at e
            by_cases g : k = n
            · subst g; omega
            · exact ih (by omega) k (by omega)
        have := all 64 e p.toNat (by have := hp.1; have := hp.2.1; omega)
        rw [ix_cast hp.1, hp.2.2] at this
        omega
      · intro w
        have all : ∀ n : Nat, n ≤ 64 → sm c n = 0 := by
          intro n
          induction n with
          | zero => intro _; rw [sm]
          | succ n ih =>
            intro hn
            have q := h01 n
            have g : ¬ c n = 1 := fun e => w n ⟨by omega, by omega, e⟩
            rw [sm, ih (by omega)]
            omega
        exact all 64 (Nat.le_refl 64)
    refine wX12_wellOf_4 ⟨fun g => by omega, fun _ => ⟨fun g => ⟨_, rfl, h 1 m ?_ (fun _ _ _ => rfl)⟩, fun g => ?_⟩⟩
    · have a := z.1 g
      exact ⟨fun _ => rfl, fun b => absurd a b, fun b => absurd a b, fun b => absurd a b, fun b => absurd a b⟩
    · have a : ¬ W1 c := fun b => g (z.2 b)
      have ex : ∃ k, S6 c 1 k := by
        refine Classical.byContradiction (fun no => a (fun p hp => no ⟨e6 p, ?_⟩))
        have := S6_e (c := c) hp.1 hp.2.1
        rw [hp.2.2] at this
        exact this
      refine c_hang hc ex (fun q m1 f1 => ⟨fun g => by omega, fun _ => ?_⟩) (fun q m1 f1 => ⟨fun _ => ⟨_, rfl, h 2 m1 ?_ (fun x x1 _ => f1 x x1)⟩, fun g => absurd rfl g⟩)
      · have b := (W2_iff c).1 q
        refine c_joinedWell (c := c) (fun q q0 q1 => by rw [f1 147 (by omega)]; exact hc q q0 q1) h01 (fun d m2 f2 => ⟨fun g => by omega, fun _ => ?_⟩) (fun d m2 f2 => ⟨fun _ => ⟨_, rfl, h 3 m2 ⟨fun e => absurd e a, fun _ e => absurd b e, fun _ _ _ => rfl, fun _ _ e => absurd e d, fun _ _ e => absurd e d⟩ (fun x x1 x2 => by rw [f2 x x2, f1 x x1])⟩, fun g => absurd rfl g⟩)
        have ex0 : ∃ k, S6 c 0 k := ⟨0, sh6 (by omega) (by omega) (by decide +kernel)⟩
        refine c_hang (c := c) (fun q q0 q1 => by rw [f2 147 (by omega), f1 147 (by omega)]; exact hc q q0 q1) ex0 (fun e m3 f3 v hv => ⟨v, rfl, h v m3 ?_ (fun x x1 x2 => by rw [f3 x x1, f2 x x2, f1 x x1])⟩) (fun e m3 f3 v hv => ⟨v, rfl, h v m3 ?_ (fun x x1 x2 => by rw [f3 x x1, f2 x x2, f1 x x1])⟩)
        · have e4 := (W4_iff h01).1 e
          rw [if_neg (by omega)] at hv
          exact ⟨fun z => absurd z a, fun _ z => absurd b z, fun _ _ z => absurd d z, fun _ _ _ z => absurd e4 z, fun _ _ _ _ => hv⟩
        · have e4 : ¬ W4 c := fun z => e ((W4_iff h01).2 z)
          rw [if_pos rfl] at hv
          exact ⟨fun z => absurd z a, fun _ z => absurd b z, fun _ _ z => absurd d z, fun _ _ _ _ => hv, fun _ _ _ z => absurd z e4⟩
      · have b : ¬ W2 c := fun z => q ((W2_iff c).2 z)
        exact ⟨fun z => absurd z a, fun _ _ => rfl, fun _ z => absurd z b, fun _ z => absurd z b, fun _ z => absurd z b⟩
  · intro i i0 i1 ih
    have b := B i.toNat
    have q := h01 i
    have e := hc i i0 i1
    refine wX12_wellOf_4 ⟨fun _ => ⟨⟨i0, i1, by rw [e]; constructor <;> omega, by constructor <;> omega⟩, ?_⟩, fun g => absurd i1 g⟩
    rw [e]
    have e2 : sm c i.toNat + c i = sm c (i + 1).toNat := by
      rw [show (i + 1).toNat = i.toNat + 1 by omega, sm, ix_cast i0]
    rw [e2]
    exact ih
end C9o
