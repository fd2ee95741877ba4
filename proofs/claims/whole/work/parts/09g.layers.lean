/-! the bits of ints; how layers change -/
def ib (x : Int) (p : Nat) : Bool := (Int32.ofInt x).toBitVec.getLsbD p
theorem ib_oi (y : Int32) (p : Nat) : ib y.toInt p = y.toBitVec.getLsbD p := by unfold ib; rw [Int32.ofInt_toInt]
theorem ib_or (a b : Int) (p : Nat) : ib (bOr a b) p = (ib a p || ib b p) := by
  unfold bOr; rw [ib_oi, Int32.toBitVec_or, BitVec.getLsbD_or]; rfl
theorem ib_and (a b : Int) (p : Nat) : ib (bAnd a b) p = (ib a p && ib b p) := by
  unfold bAnd; rw [ib_oi, Int32.toBitVec_and, BitVec.getLsbD_and]; rfl
theorem ib_not (a : Int) {p : Nat} (h : p < 32) : ib (bXor a (-1)) p = !ib a p := by
  unfold bXor; rw [ib_oi, Int32.toBitVec_xor, BitVec.getLsbD_xor]
  have : ∀ k : Fin 32, (Int32.ofInt (-1)).toBitVec.getLsbD k.val = true := by decide +kernel
  rw [this ⟨p, h⟩]
  show (ib a p ^^ true) = _
  cases ib a p <;> rfl
theorem sh32 {s : Int} (h0 : 0 ≤ s) (h1 : s < 32) : (Int32.ofInt s &&& 31).toBitVec.smod 32 = BitVec.ofNat 32 s.toNat := by
  have e : ∀ k : Fin 32, (Int32.ofInt (k.val : Int) &&& 31).toBitVec.smod 32 = BitVec.ofNat 32 k.val := by decide +kernel
  have := e ⟨s.toNat, by omega⟩
  simp only [ix_cast h0] at this
  exact this
theorem ib_shl (a : Int) {s : Int} {p : Nat} (h0 : 0 ≤ s) (h1 : s < 32) (hp : p < 32) : ib (bShl a s) p = (decide (s.toNat ≤ p) && ib a (p - s.toNat)) := by
  unfold bShl; rw [ib_oi, Int32.toBitVec_shiftLeft, sh32 h0 h1, BitVec.shiftLeft_eq', BitVec.getLsbD_shiftLeft, BitVec.toNat_ofNat, Nat.mod_eq_of_lt (by omega)]
  by_cases q : s.toNat ≤ p
  · rw [decide_eq_true q, decide_eq_false (show ¬ p < s.toNat by omega), decide_eq_true hp]; rfl
  · rw [decide_eq_false q, decide_eq_true (show p < s.toNat by omega)]; simp
theorem ib_shr (a : Int) {s : Int} {p : Nat} (h0 : 0 ≤ s) (hp : s.toNat + p < 32) : ib (bShr a s) p = ib a (s.toNat + p) := by
  unfold bShr; rw [ib_oi, Int32.toBitVec_shiftRight, sh32 h0 (by omega), BitVec.sshiftRight_eq', BitVec.getLsbD_sshiftRight, BitVec.toNat_ofNat, Nat.mod_eq_of_lt (by omega)]
  have : p < 32 := by omega
  simp [this, hp, ib]
theorem ib_bit {x : Int} (h : R32 x) {p : Nat} (hp : p < 16) : x / 2 ^ p % 2 = if ib x p then 1 else 0 := by
  have e := bit_of h (p := (p : Int)) (by omega) (by omega)
  rw [Int.toNat_natCast] at e
  rw [← e, bAnd_1 (show R32 (bShr x p) from tr_of _)]
  have a : ib (bShr x p) 0 = ib x p := by
    have := ib_shr x (s := (p : Int)) (p := 0) (by omega) (by omega)
    rw [Int.toNat_natCast, Nat.add_zero] at this
    exact this
  rw [← a]
  have r : R32 (bShr x p) := tr_of _
  generalize bShr x p = y at r
  have b := bAnd_1 r
  have c := ib_and y 1 0
  rw [b] at c
  have o1 : ib 1 0 = true := by decide +kernel
  have o0 : ib 0 0 = false := by decide +kernel
  rw [o1, Bool.and_true] at c
  rw [← c]
  rcases (show y % 2 = 0 ∨ y % 2 = 1 by omega) with q | q
  · rw [q, o0]; rfl
  · rw [q, o1]; rfl
theorem ib_row {n p : Nat} (hn : n ≤ 16) (hp : p < 32) : ib (bShl 1 (n : Int) - 1) p = decide (p < n) := by
  have e : ∀ n : Fin 17, ∀ p : Fin 32, ib (bShl 1 (n.val : Int) - 1) p.val = decide (p.val < n.val) := by decide +kernel
  exact e ⟨n, by omega⟩ ⟨p, hp⟩
theorem ib_one {n p : Nat} (hn : n < 32) (hp : p < 32) : ib (bShl 1 (n : Int)) p = decide (p = n) := by
  have e : ∀ n : Fin 32, ∀ p : Fin 32, ib (bShl 1 (n.val : Int)) p.val = decide (p.val = n.val) := by decide +kernel
  exact e ⟨n, hn⟩ ⟨p, hp⟩
theorem ib_zero (p : Nat) : ib 0 p = false := by
  show (BitVec.ofInt 32 0).getLsbD p = false
  simp
theorem ib_hit {a : Int} {n : Nat} (hn : n < 16) : bAnd a (bShl 1 (n : Int)) = 0 ↔ ib a n = false := by
  constructor
  · intro h
    have := ib_and a (bShl 1 (n : Int)) n
    rw [h, ib_zero, ib_one (by omega) (by omega), decide_eq_true rfl, Bool.and_true] at this
    exact this.symm
  · intro h
    have e : (Int32.ofInt a &&& Int32.ofInt (bShl 1 (n : Int))) = 0 := by
      apply Int32.toBitVec_inj.1
      apply BitVec.eq_of_getLsbD_eq
      intro i hi
      rw [Int32.toBitVec_and, BitVec.getLsbD_and]
      show (ib a i && ib (bShl 1 (n : Int)) i) = (BitVec.ofNat 32 0).getLsbD i
      rw [ib_one (by omega) hi]
      by_cases q : i = n
      · subst q; rw [h]; simp
      · rw [decide_eq_false q]; simp
    unfold bAnd
    rw [e]
    rfl
/-- a layer is laid anew -/
theorem BR.lay {l t c l' t' c' : Int → Int} (h : BR l t c) {z x : Int} (z0 : 0 ≤ z) (z1 : z < 4) (h1 : l' = ur l z (x % 65536)) (h2 : ∀ w, w ≠ z → t' w = t w) (h2' : t' z = 1) (h3 : ∀ p, 0 ≤ p → p < 16 → c' (16 * z + p) = x / 2 ^ p.toNat % 2) (h4 : ∀ q, q < 16 * z ∨ 16 * z + 16 ≤ q → c' q = c q) : BR l' t' c' := by
  subst h1
  intro w w0 w1
  by_cases q : w = z
  · subst q
    rw [ur_eq]
    exact Or.inr ⟨h2', by omega, by omega, fun p p0 p1 => by rw [h3 p p0 p1, bit_mod x p0 p1]⟩
  · rw [ur_ne _ _ q, h2 w q]
    rcases h w w0 w1 with ⟨a, b, d⟩ | ⟨a, b, b2, d⟩
    · exact Or.inl ⟨a, b, fun p p0 p1 => by rw [h4 _ (by omega)]; exact d p p0 p1⟩
    · exact Or.inr ⟨a, b, b2, fun p p0 p1 => by rw [h4 _ (by omega)]; exact d p p0 p1⟩
/-- a layer is lost -/
theorem BR.los {l t c l' t' c' : Int → Int} (h : BR l t c) {z : Int} (h1 : l' = ur l z (-1)) (h2 : ∀ w, w ≠ z → t' w = t w) (h2' : t' z = 0) (h3 : ∀ p, 0 ≤ p → p < 16 → c' (16 * z + p) = 0) (h4 : ∀ q, q < 16 * z ∨ 16 * z + 16 ≤ q → c' q = c q) : BR l' t' c' := by
  subst h1
  intro w w0 w1
  by_cases q : w = z
  · subst q
    rw [ur_eq]
    exact Or.inl ⟨h2', rfl, h3⟩
  · rw [ur_ne _ _ q, h2 w q]
    rcases h w w0 w1 with ⟨a, b, d⟩ | ⟨a, b, b2, d⟩
    · exact Or.inl ⟨a, b, fun p p0 p1 => by rw [h4 _ (by omega)]; exact d p p0 p1⟩
    · exact Or.inr ⟨a, b, b2, fun p p0 p1 => by rw [h4 _ (by omega)]; exact d p p0 p1⟩
theorem BR.mis {l t c : Int → Int} (h : BR l t c) {z : Int} (z0 : 0 ≤ z) (z1 : z < 4) : (l z = -1 ↔ t z = 0) ∧ (t z = 0 ∨ t z = 1) := by
  rcases h z z0 z1 with ⟨a, b, d⟩ | ⟨a, b, b2, d⟩
  · exact ⟨⟨fun _ => a, fun _ => b⟩, Or.inl a⟩
  · exact ⟨⟨fun e => by omega, fun e => by omega⟩, Or.inr a⟩
theorem BR.c01 {l t c : Int → Int} (h : BR l t c) {q : Int} (q0 : 0 ≤ q) (q1 : q < 64) : 0 ≤ c q ∧ c q ≤ 1 := by
  have := (h.lb (z := q / 16) (by omega) (by omega)).2.2 (q % 16) (by omega) (by omega)
  rw [show 16 * (q / 16) + q % 16 = q by omega] at this
  rw [this]; omega
/-! a body's change, on both sides -/
def OTB (m m' : tM) : Prop := ∀ c, ((84 ≤ c ∧ c ≤ 108) ∨ c = 125 ∨ c = 153 ∨ c = 154) → m' c = m c
abbrev HUc (m : tM) : Prop := HU m (nrm (m 147))
section C9g2
variable {m : tM}
theorem c_bodyHasChanged {t c c0 : Int → Int} {K : tM → Prop} (h0 : HU m c0) (hb : BR (m 3) t c) (h : ∀ m', (∀ a, a ≠ 5 → (a < 109 ∨ 114 < a) → m' a = m a) → (∀ q, 0 ≤ q → q < 240 → m' 5 q = 0) → HU m' (nrm c) → K m') : Clv mX11_bodyHasChanged [rV 0] m K := by
  refine wX11_bodyHasChanged_0 (wX2_mend_0 (c_fill sh_5 (by omega) ⟨rfl, ?_⟩))
  generalize hm1 : sr m 5 (fil (fun _ => 0) (m 5) 0 (240 : Nat)) = m1
  have f1 : ∀ a, a ≠ 5 → m1 a = m a := fun a ha => by rw [← hm1, sr_ne _ _ ha]
  refine c_takeSkin (h0.congr (fun a a0 a1 => f1 a (by omega))) hb.n01 (t := t) (by rw [f1 3 (by omega)]; exact hb.nrm) (fun m' f hu => ⟨rfl, h m' (fun a a1 a2 => by rw [f a a2, f1 a a1]) (fun q q0 q1 => ?_) hu⟩)
  rw [f 5 (by omega), ← hm1, sr_eq, fil_in _ _ (by omega)]
theorem SYM.zero {c ct : Int → Int} (h : ∀ z, 0 ≤ z → z < 1536 → ct z = 0) : SYM c ct := by
  intro p d s p0 p1 d0 d1 s0 s1 ho
  have r := cr_r p0 p1 d0 d1 s0 s1 ho
  have b := oN_384 _ p0 p1 d0 d1 ho
  have b' := oN_384 _ r.1.1 r.1.2 r.2.1.1 r.2.1.2 r.2.2.2.1
  have s' := r.2.2.1
  rw [h _ (by omega) (by omega), h _ (by omega) (by omega)]
theorem body_end {mk m2 m3 m4 : tM} {c' : Int → Int} (hc : Cur m) (hh : HisR m) (kp : KP m mk) (f2 : ∀ a, a ≠ 3 → a ≠ 5 → (a < 109 ∨ 114 < a) → m2 a = mk a) (z5 : ∀ q, 0 ≤ q → q < 240 → m2 5 q = 0) (hu : HU m2 (nrm c')) (cm : CM (up m2 145 0 0) m3) (f4 : ∀ a, a ≠ 146 → a ≠ 147 → m4 a = m3 a) (hb : BR (m2 3) (m4 146) (m4 147)) (hn : nrm (m4 147) = nrm c') : Cur m4 ∧ HisR m4 ∧ HUc m4 ∧ OTB m m4 := by
  obtain ⟨mK, km, e3⟩ := cm
  obtain ⟨k1, k2, k3, k4, k5, k6⟩ := id km
  have g145 : m2 145 = m 145 := by rw [f2 145 (by omega) (by omega) (by omega), kp.fr (by omega)]
  have r2 : ∀ c, c ≠ 145 → (up m2 145 0 0) c = m2 c := fun c hc => up_ne _ _ _ hc
  have q2 : ∀ j, j ≠ 0 → (up m2 145 0 0) 145 j = m 145 j := fun j hj => by rw [up_at_ne _ _ _ hj, g145]
  have his : HisR mK := HisR.keep hh hc kp (fun c c0 c1 => by rw [r2 c (by omega), f2 c (by omega) (by omega) (by omega)]) (fun c hc => by rw [r2 c (by omega), f2 c (by omega) (by omega) (by omega), kp.fr (by omega)]) q2 km
  have r3 : ∀ a, a ≠ 148 → m3 a = mK a := fun a ha => by rw [e3, sr_ne _ _ ha]
  have rows : ∀ a, a ≠ 3 → a ≠ 5 → (a < 10 ∨ 83 < a) → (a < 109 ∨ 114 < a) → a < 145 ∨ (148 < a ∧ a ≠ 155) → m4 a = m a := fun a a1 a2 a3 a4 a5 => by rw [f4 a (by omega) (by omega), r3 a (by omega), k1 a (by omega) (by omega), r2 a (by omega), f2 a a1 a2 a4, kp.fr a3]
  have low : ∀ a, a < 145 → m4 a = m2 a := fun a ha => by rw [f4 a (by omega) (by omega), r3 a (by omega), k1 a (by omega) (by omega), r2 a (by omega)]
  have e4 : m4 145 4 = m 145 4 := by rw [f4 145 (by omega) (by omega), r3 145 (by omega), k2 4 (by omega) (by omega) (by omega), q2 4 (by omega)]
  have e148 : ∀ z, 0 ≤ z → z < 1536 → m4 148 z = 0 := fun z z0 z1 => by rw [f4 148 (by omega) (by omega), e3, sr_eq, fil_in _ _ (by omega)]
  refine ⟨⟨by rw [low 3 (by omega)]; exact hb, ⟨fun q q0 q1 => ?_, fun k k0 k1 => e148 k (by omega) k1, SYM.zero e148⟩, ?_⟩, his.congr (fun c c0 c1 => by rw [f4 c (by omega) (by omega), r3 c (by omega)]) (by rw [f4 155 (by omega) (by omega), r3 155 (by omega)]) (by rw [f4 145 (by omega) (by omega), r3 145 (by omega)]) (by rw [f4 145 (by omega) (by omega), r3 145 (by omega)]), ?_, fun a ha => rows a (by omega) (by omega) (by omega) (by omega) (by omega)⟩
  · rw [low 5 (by omega), z5 q q0 q1]
    refine ⟨by omega, by omega, fun s s0 s1 => ?_⟩
    rw [e148 _ (by omega) (by omega), Int.zero_ediv]
    rfl
  · rw [e4, rows 6 (by omega) (by omega) (by omega) (by omega) (by omega), rows 7 (by omega) (by omega) (by omega) (by omega) (by omega), rows 8 (by omega) (by omega) (by omega) (by omega) (by omega), rows 9 (by omega) (by omega) (by omega) (by omega) (by omega), rows 149 (by omega) (by omega) (by omega) (by omega) (by omega), rows 150 (by omega) (by omega) (by omega) (by omega) (by omega), rows 151 (by omega) (by omega) (by omega) (by omega) (by omega), rows 152 (by omega) (by omega) (by omega) (by omega) (by omega)]
    exact hc.2.2
  · show HU m4 (nrm (m4 147))
    rw [hn]
    exact hu.congr (fun a a0 a1 => low a (by omega))
end C9g2
