/-! copy, box and undo, on both sides -/
/-- a row copied within a row -/
def cw (c : Int → Int) (s t lo hi : Int) : Int → Int := fun q => if t + lo ≤ q ∧ q < t + hi then c (q - t + s) else c q
theorem cw_up (c : Int → Int) {s t i : Int} (i0 : 0 ≤ i) : ur (cw c s t 0 i) (t + i) (c (s + i)) = cw c s t 0 (i + 1) := by
  funext q
  by_cases e : q = t + i
  · subst e
    rw [ur_eq]
    unfold cw
    rw [if_pos (by omega), show t + i - t + s = s + i by omega]
  · rw [ur_ne _ _ e]
    unfold cw
    by_cases g : t + 0 ≤ q ∧ q < t + i
    · rw [if_pos g, if_pos (by omega)]
    · rw [if_neg g, if_neg (by omega)]
theorem cw_dn (c : Int → Int) {s t n i : Int} : ur (cw c s t (n - i) n) (t + (n - 1 - i)) (c (s + (n - 1 - i))) = cw c s t (n - (i + 1)) n ∨ i < 0 := by
  by_cases i0 : i < 0
  · exact Or.inr i0
  refine Or.inl ?_
  funext q
  by_cases e : q = t + (n - 1 - i)
  · subst e
    rw [ur_eq]
    unfold cw
    rw [if_pos (by omega), show t + (n - 1 - i) - t + s = s + (n - 1 - i) by omega]
  · rw [ur_ne _ _ e]
    unfold cw
    by_cases g : t + (n - i) ≤ q ∧ q < t + n
    · rw [if_pos g, if_pos (by omega)]
    · rw [if_neg g, if_neg (by omega)]
theorem cw_out {c : Int → Int} {s t lo hi q : Int} (h : ¬ (t + lo ≤ q ∧ q < t + hi)) : cw c s t lo hi q = c q := by unfold cw; rw [if_neg h]
section C9i
variable {m : tM}
theorem copy_loop {z w y v n : Int} {c0 : Int → Int} {Q : Int → tM → Prop} (z0 : 0 ≤ z ∧ z < 4) (y0 : 0 ≤ y ∧ y < 4) (n0 : 0 ≤ n ∧ n ≤ 16) (w0 : 0 ≤ w ∧ w + n ≤ 16) (v0 : 0 ≤ v ∧ v + n ≤ 16) (hc : m 147 = c0) (h : Q n (sr m 147 (cw c0 (16 * z + w) (16 * y + v) 0 n))) : Tj mX12_copy 95 [some (rV 145), some (iV z), some (iV w), some (iV y), some (iV v), some (iV n), some (iV 0)] [] m (fun r m' => ∃ x, r = some (iV x) ∧ Q x m') := by
  by_cases q : w < v
  · have key := up_ind (n := n) (fun i => Tj mX12_copy 95 [some (rV 145), some (iV z), some (iV w), some (iV y), some (iV v), some (iV n), some (iV i)] [] (sr m 147 (cw c0 (16 * z + w) (16 * y + v) (n - i) n)) (fun r m' => ∃ x, r = some (iV x) ∧ Q x m')) ?_ ?_ (i := 0) (by omega) (by omega)
    · have e : cw c0 (16 * z + w) (16 * y + v) (n - 0) n = m 147 := by
        rw [hc]
        funext q
        exact cw_out (by omega)
      rw [e, sr_self] at key
      exact key
    · refine wX12_copy_95 ⟨fun c => by omega, fun _ => ⟨_, rfl, ?_⟩⟩
      rw [show n - n = 0 by omega]
      exact h
    · intro i i0 i1 ih
      refine wX12_copy_95 ⟨fun _ => ⟨fun _ => ⟨⟨by constructor <;> omega, by constructor <;> omega, by constructor <;> omega, by constructor <;> omega, by constructor <;> omega, by constructor <;> omega, by constructor <;> omega, by constructor <;> omega, by omega, by omega, by omega, by omega, by constructor <;> omega⟩, ?_⟩, fun c => absurd q c⟩, fun c => absurd i1 c⟩
      rw [sr_eq, cw_out (by omega), up_sr]
      rcases cw_dn c0 (s := 16 * z + w) (t := 16 * y + v) (n := n) (i := i) with e | e
      · rw [e]; exact ih
      · omega
  · have key := up_ind (n := n) (fun i => Tj mX12_copy 95 [some (rV 145), some (iV z), some (iV w), some (iV y), some (iV v), some (iV n), some (iV i)] [] (sr m 147 (cw c0 (16 * z + w) (16 * y + v) 0 i)) (fun r m' => ∃ x, r = some (iV x) ∧ Q x m')) ?_ ?_ (i := 0) (by omega) (by omega)
    · have e : cw c0 (16 * z + w) (16 * y + v) 0 0 = m 147 := by
        rw [hc]
        funext q
        exact cw_out (by omega)
      rw [e, sr_self] at key
      exact key
    · exact wX12_copy_95 ⟨fun c => by omega, fun _ => ⟨_, rfl, h⟩⟩
    · intro i i0 i1 ih
      refine wX12_copy_95 ⟨fun _ => ⟨fun c => absurd c q, fun _ => ⟨⟨by constructor <;> omega, by constructor <;> omega, by constructor <;> omega, by constructor <;> omega, by constructor <;> omega, by constructor <;> omega, by omega, by omega, by omega, by omega, by constructor <;> omega⟩, ?_⟩⟩, fun c => absurd i1 c⟩
      rw [sr_eq, cw_out (by omega), up_sr, cw_up c0 i0]
      exact ih
theorem if10 {P : Prop} [Decidable P] (h : (if P then (1 : Int) else 0) = 0) : ¬ P := fun p => by rw [if_pos p] at h; omega
theorem if11 {P : Prop} [Decidable P] (h : ¬ (if P then (1 : Int) else 0) = 0) : P := by
  by_cases q : P
  · exact q
  · rw [if_neg q] at h; exact absurd rfl h
theorem sim_copy {z w y v n : Int} {K : Int → Int → tM → Prop} (hc : Cur m) (hh : HisR m) (hu : HUc m) (h : ∀ r m', Cur m' → HisR m' → HUc m' → OTB m m' → K r r m') : Cli mX11_copy [rV 0, iV z, iV w, iV y, iV v, iV n] m (fun r m1 => Cli mX12_copy [rV 145, iV z, iV w, iV y, iV v, iV n] m1 (fun r' m2 => K r r' m2)) := by
  obtain ⟨a, b, c, d', -, -⟩ := id hh
  obtain ⟨i1, i2, i3, i4⟩ := idleB hc hh hu
  have idle := h (-3) _ i1 i2 i3 i4
  have idle2 := h (-11) _ i1 i2 i3 i4
  have idle3 := h (-13) _ i1 i2 i3 i4
  refine Tj.rl 5 rfl (fun rn => ?_)
  refine wX11_copy_0 (c_isLayer ⟨fun g => ⟨_, rfl, wX12_copy_0 (c_in ⟨fun _ => ⟨_, rfl, idle⟩, fun g2 => absurd (if11 g2) (by have := if10 g; omega)⟩)⟩, fun g => ?_⟩)
  have pz := if11 g
  refine c_isLayer ⟨fun g => ⟨_, rfl, wX12_copy_0 (c_in ⟨fun g3 => absurd (if10 g3) (by omega), fun _ => c_in ⟨fun _ => ⟨_, rfl, idle⟩, fun g2 => absurd (if11 g2) (by have := if10 g; omega)⟩⟩)⟩, fun g => ?_⟩
  have py := if11 g
  obtain ⟨s1, s2⟩ := hc.1.mis pz.1 pz.2
  obtain ⟨u1, u2⟩ := hc.1.mis py.1 py.2
  have e0 : ∀ x, (up m 145 0 0) 146 x = m 146 x := fun x => by rw [up_ne _ _ _ (by omega)]
  refine c_misses pz.1 pz.2 ⟨fun g2 => ?_, fun g2 => ⟨_, rfl, wX12_copy_0 (c_in ⟨fun g3 => absurd (if10 g3) (by omega), fun _ => c_in ⟨fun g3 => absurd (if10 g3) (by omega), fun _ => ⟨pz, fun _ => ⟨_, rfl, idle2⟩, fun g3 => absurd (s1.1 (if11 g2)) (by rw [← e0]; exact g3)⟩⟩⟩)⟩⟩
  have nm : ¬ m 3 z = -1 := if10 g2
  have tz : ¬ m 146 z = 0 := fun q => nm (s1.2 q)
  refine c_misses py.1 py.2 ⟨fun g3 => ?_, fun g3 => ⟨_, rfl, wX12_copy_0 (c_in ⟨fun g4 => absurd (if10 g4) (by omega), fun _ => c_in ⟨fun g4 => absurd (if10 g4) (by omega), fun _ => ⟨pz, fun g4 => absurd ((e0 z).symm.trans g4) tz, fun _ => ⟨py, fun _ => ⟨_, rfl, idle2⟩, fun g4 => absurd (u1.1 (if11 g3)) (by rw [← e0]; exact g4)⟩⟩⟩⟩)⟩⟩
  have nm2 : ¬ m 3 y = -1 := if10 g3
  have ty : ¬ m 146 y = 0 := fun q => nm2 (u1.2 q)
  have ty1 : m 146 y = 1 := by omega
  -- the reference with its checks
  have ref : ∀ {mm : tM} {Q : Int → tM → Prop}, (up mm 145 0 0) 146 = m 146 → (¬ (0 ≤ n ∧ 0 ≤ w ∧ w + n ≤ 16 ∧ 0 ≤ v ∧ v + n ≤ 16) → Q (-13) (up mm 145 0 0)) → ((0 ≤ n ∧ 0 ≤ w ∧ w + n ≤ 16 ∧ 0 ≤ v ∧ v + n ≤ 16) → Clv mX12_change [rV 145] (up mm 145 0 0) (fun m6 => Tj mX12_copy 95 [some (rV 145), some (iV z), some (iV w), some (iV y), some (iV v), some (iV n), some (iV 0)] [] m6 (fun r m' => ∃ x, r = some (iV x) ∧ Q x m'))) → Cli mX12_copy [rV 145, iV z, iV w, iV y, iV v, iV n] mm Q := by
    intro mm Q e hn hy
    refine wX12_copy_0 (c_in ⟨fun g4 => absurd (if10 g4) (by omega), fun _ => c_in ⟨fun g4 => absurd (if10 g4) (by omega), fun _ => ⟨pz, fun g4 => absurd (by rw [← e]; exact g4) tz, fun _ => ⟨py, fun g4 => absurd (by rw [← e]; exact g4) ty, fun _ => c_in ⟨fun g4 => ⟨_, rfl, hn (fun q => if10 g4 (by omega))⟩, fun g4 => ?_⟩⟩⟩⟩⟩)
    have p1 := if11 g4
    refine ⟨by constructor <;> omega, c_in ⟨fun g5 => ⟨_, rfl, hn (fun q => if10 g5 (by omega))⟩, fun g5 => ?_⟩⟩
    have p2 := if11 g5
    refine c_in ⟨fun g6 => ⟨_, rfl, hn (fun q => if10 g6 (by omega))⟩, fun g6 => ?_⟩
    have p3 := if11 g6
    exact hy (by omega)
  refine c_arePlaces ⟨fun g4 => ⟨_, rfl, ref (up_ne _ _ _ (by omega)) (fun _ => idle3) (fun q => absurd (if10 g4) (by omega))⟩, fun g4 => ?_⟩
  have p4 := if11 g4
  refine c_arePlaces ⟨fun g5 => ⟨_, rfl, ref (up_ne _ _ _ (by omega)) (fun _ => idle3) (fun q => absurd (if10 g5) (by omega))⟩, fun g5 => ?_⟩
  have p5 := if11 g5
  refine c_keep a b hc.n (fun mk kp => ?_)
  have e3 : mk 3 = m 3 := kp.fr (by omega)
  obtain ⟨nn, rfl⟩ := Int.eq_ofNat_of_zero_le p4.1
  obtain ⟨wn, rfl⟩ := Int.eq_ofNat_of_zero_le p4.2.1
  obtain ⟨vn, rfl⟩ := Int.eq_ofNat_of_zero_le p5.2.1
  have rw1 : ∀ k : Fin 17, R32 (bShl 1 (k.val : Int) - 1) := by decide +kernel
  refine ⟨rw1 ⟨nn, by omega⟩, ?_⟩
  obtain ⟨l0, l1, l2⟩ := hc.1.lb pz.1 pz.2
  obtain ⟨k0, k1, k2⟩ := hc.1.lb py.1 py.2
  refine c_bitsOf pz.1 pz.2 (c_bitsOf py.1 py.2 (fun x hx => c_put py.1 py.2 ?_))
  rw [e3] at hx
  generalize lbits (m 3 z) = bz at l0 l1 l2 hx
  generalize lbits (m 3 y) = by' at k0 k1 k2 hx
  have rz : R32 bz := by constructor <;> omega
  have ry : R32 by' := by constructor <;> omega
  have rx : R32 x := by rw [hx]; exact tr_of _
  have bx : ∀ q : Nat, q < 16 → x / 2 ^ q % 2 = if vn ≤ q ∧ q < vn + nn then bz / 2 ^ (q - vn + wn) % 2 else by' / 2 ^ q % 2 := fun q hq => by
    rw [ib_bit rx hq, ib_bit ry hq, hx, ib_or, ib_and, ib_not _ (by omega), ib_shl _ (by omega) (by omega) (by omega), ib_shl _ (by omega) (by omega) (by omega), ib_and, Int.toNat_natCast, ib_row (by omega) (by omega)]
    by_cases e : vn ≤ q ∧ q < vn + nn
    · rw [if_pos e, ib_shr _ (by omega) (by omega), Int.toNat_natCast, decide_eq_true e.1, decide_eq_true (show q - vn < nn by omega), ib_bit rz (by omega), show wn + (q - vn) = q - vn + wn by omega]
      simp
    · rw [if_neg e]
      by_cases e1 : vn ≤ q
      · rw [decide_eq_true e1, decide_eq_false (show ¬ q - vn < nn by omega)]; simp
      · rw [decide_eq_false e1]; simp
  have n3 : (up mk 3 y (x % 65536)) 3 = ur (m 3) y (x % 65536) := by rw [← e3]; exact sr_eq _ _ _
  have hb : BR ((up mk 3 y (x % 65536)) 3) (m 146) (cw (m 147) (16 * z + wn) (16 * y + vn) 0 nn) := by
    refine BR.lay hc.1 py.1 py.2 n3 (fun _ _ => rfl) ty1 (fun q q0 q1 => ?_) (fun q hq => cw_out (by omega))
    rw [bx q.toNat (by omega)]
    unfold cw
    by_cases e : vn ≤ q.toNat ∧ q.toNat < vn + nn
    · rw [if_pos e, if_pos (by omega)]
      have := l2 (q - vn + wn) (by omega) (by omega)
      rw [show (q - vn + wn).toNat = q.toNat - vn + wn by omega] at this
      rw [← this]
      congr 1
      omega
    · rw [if_neg e, if_neg (by omega)]
      exact k2 q q0 q1
  refine body_cls hu kp (fun a ha => up_ne _ _ _ ha) hb (fun m2 f2 t3 z5 hu2 => ⟨_, rfl, ?_⟩)
  have k := body_kb hh kp f2
  have e146 : (up m2 145 0 0) 146 = m 146 := by rw [up_ne _ _ _ (by omega), f2 146 (by omega) (by omega) (by omega), kp.fr (by omega)]
  refine ref e146 (fun q => absurd (by omega) q) (fun _ => c_change k.1 k.2 (fun m3 cm => ?_))
  obtain ⟨t1, t2⟩ := body_mid kp f2 cm
  refine copy_loop pz py (by omega) (by omega) (by omega) t2 ?_
  generalize hm4 : sr m3 147 (cw (m 147) (16 * z + wn) (16 * y + vn) 0 nn) = m4
  have c147 : m4 147 = cw (m 147) (16 * z + wn) (16 * y + vn) 0 nn := by rw [← hm4, sr_eq]
  have c146 : m4 146 = m 146 := by rw [← hm4, sr_ne _ _ (by omega), t1]
  obtain ⟨j1, j2, j3, j4⟩ := body_end hc hh kp f2 z5 hu2 cm (m4 := m4) (fun a a1 a2 => by rw [← hm4, sr_ne _ _ a2]) (by rw [c146, c147, t3]; exact hb) (by rw [c147])
  exact h _ _ j1 j2 j3 j4
end C9i
/-! boxes -/
def BX (a y : Int) : Int := (2 ^ a.toNat - 1) * ((16 ^ y.toNat - 1) / 15)
theorem BX_f : ∀ a : Fin 4, ∀ y : Fin 4, R32 (bShl 1 (a.val + 1) - 1) ∧ bOr (BX (a.val + 1) y.val) (bShl (bShl 1 (a.val + 1) - 1) (4 * y.val)) = BX (a.val + 1) (y.val + 1) := by decide +kernel
theorem BX_b : ∀ a : Fin 4, ∀ y : Fin 4, (0 ≤ BX (a.val + 1) (y.val + 1) ∧ BX (a.val + 1) (y.val + 1) < 65536) ∧ ∀ p : Fin 16, BX (a.val + 1) (y.val + 1) / 2 ^ p.val % 2 = if (p.val : Int) % 4 < a.val + 1 ∧ (p.val : Int) / 4 < y.val + 1 then 1 else 0 := by decide +kernel
theorem BX_s {a y : Int} (a0 : 1 ≤ a) (a1 : a ≤ 4) (y0 : 0 ≤ y) (y1 : y < 4) : R32 (bShl 1 a - 1) ∧ bOr (BX a y) (bShl (bShl 1 a - 1) (4 * y)) = BX a (y + 1) := by
  have := BX_f ⟨(a - 1).toNat, by omega⟩ ⟨y.toNat, by omega⟩
  simp only [ix_cast y0, show (((a - 1).toNat : Nat) : Int) + 1 = a by omega] at this
  exact this
theorem BX_r {a y : Int} (a0 : 1 ≤ a) (a1 : a ≤ 4) (y0 : 1 ≤ y) (y1 : y ≤ 4) : (0 ≤ BX a y ∧ BX a y < 65536) ∧ ∀ p, 0 ≤ p → p < 16 → BX a y / 2 ^ p.toNat % 2 = if p % 4 < a ∧ p / 4 < y then 1 else 0 := by
  have := BX_b ⟨(a - 1).toNat, by omega⟩ ⟨(y - 1).toNat, by omega⟩
  simp only [show (((a - 1).toNat : Nat) : Int) + 1 = a by omega, show (((y - 1).toNat : Nat) : Int) + 1 = y by omega] at this
  refine ⟨this.1, fun p p0 p1 => ?_⟩
  have g := this.2 ⟨p.toNat, by omega⟩
  simp only [ix_cast p0] at g
  exact g
/-- the cubes of a box -/
def bxC (a b c : Int) : Int → Int := fun k => if k % 4 < a ∧ k / 4 % 4 < b ∧ k / 16 < c then 1 else 0
def bxT (c : Int) : Int → Int := fun z => if z < c then 1 else 0
section C9j
variable {m : tM}
theorem sim_box {a b c : Int} {K : Int → Int → tM → Prop} (hc : Cur m) (hh : HisR m) (hu : HUc m) (h : ∀ r m', Cur m' → HisR m' → HUc m' → OTB m m' → K r r m') : Cli mX11_box [rV 0, iV a, iV b, iV c] m (fun r m1 => Cli mX12_box [rV 145, iV a, iV b, iV c] m1 (fun r' m2 => K r r' m2)) := by
  obtain ⟨ha, hb', hc', d', -, -⟩ := id hh
  obtain ⟨i1, i2, i3, i4⟩ := idleB hc hh hu
  have idle := h (-3) _ i1 i2 i3 i4
  refine wX11_box_0 (c_isLength ⟨fun g => ⟨_, rfl, wX12_box_0 (c_in ⟨fun _ => ⟨_, rfl, idle⟩, fun g2 => absurd (if11 g2) (by have := if10 g; omega)⟩)⟩, fun g => ?_⟩)
  have pa := if11 g
  refine c_isLength ⟨fun g => ⟨_, rfl, wX12_box_0 (c_in ⟨fun g3 => absurd (if10 g3) (by omega), fun _ => c_in ⟨fun _ => ⟨_, rfl, idle⟩, fun g2 => absurd (if11 g2) (by have := if10 g; omega)⟩⟩)⟩, fun g => ?_⟩
  have pb := if11 g
  refine c_isLength ⟨fun g => ⟨_, rfl, wX12_box_0 (c_in ⟨fun g3 => absurd (if10 g3) (by omega), fun _ => c_in ⟨fun g3 => absurd (if10 g3) (by omega), fun _ => c_in ⟨fun _ => ⟨_, rfl, idle⟩, fun g2 => absurd (if11 g2) (by have := if10 g; omega)⟩⟩⟩)⟩, fun g => ?_⟩
  have pc := if11 g
  refine c_keep ha hb' hc.n (fun mk kp => ?_)
  have e3 : mk 3 = m 3 := kp.fr (by omega)
  have vol : 0 ≤ a * b ∧ a * b ≤ 16 ∧ 0 ≤ a * b * c ∧ a * b * c ≤ 64 := by
    rcases (show a = 1 ∨ a = 2 ∨ a = 3 ∨ a = 4 by omega) with rfl | rfl | rfl | rfl <;> rcases (show b = 1 ∨ b = 2 ∨ b = 3 ∨ b = 4 by omega) with rfl | rfl | rfl | rfl <;> omega
  have key := up_ind (n := b) (fun y => Tj mX11_box 41 [some (rV 0), some (iV a), some (iV b), some (iV c), some (iV (BX a y)), some (iV y)] [] mk (fun r m' => ∃ n, r = some (iV n) ∧ (Cli mX12_box [rV 145, iV a, iV b, iV c] m' (fun r' m2 => K n r' m2)))) ?_ ?_ (i := 0) (by omega) (by omega)
  · rw [show BX a 0 = 0 by unfold BX; simp] at key
    exact key
  · refine wX11_box_41 ⟨fun g => by omega, fun _ => ?_⟩
    obtain ⟨bx0, bx1⟩ := BX_r pa.1 pa.2 pb.1 pb.2
    have key2 := up_ind (n := 4) (fun z => Tj mX11_box 71 [some (rV 0), some (iV a), some (iV b), some (iV c), some (iV (BX a b)), some (iV z)] [] (sr mk 3 (fil (fun w => if w < c then BX a b else -1) (m 3) 0 z)) (fun r m' => ∃ n, r = some (iV n) ∧ (Cli mX12_box [rV 145, iV a, iV b, iV c] m' (fun r' m2 => K n r' m2)))) ?_ ?_ (i := 0) (by omega) (by omega)
    · rw [fil_0, ← e3, sr_self] at key2
      exact key2
    · refine wX11_box_71 ⟨fun g => by omega, fun _ => ?_⟩
      generalize hm1 : sr mk 3 (fil (fun w => if w < c then BX a b else -1) (m 3) 0 4) = m1
      have n3 : m1 3 = fil (fun w => if w < c then BX a b else -1) (m 3) 0 4 := by rw [← hm1, sr_eq]
      have hb : BR (m1 3) (bxT c) (bxC a b c) := by
        intro w w0 w1
        rw [n3, fil_in _ _ (by omega), show w - 0 = w by omega]
        unfold bxT
        by_cases q : w < c
        · simp only [if_pos q]
          refine Or.inr ⟨trivial, bx0.1, bx0.2, fun p p0 p1 => ?_⟩
          rw [bx1 p p0 p1]
          unfold bxC
          by_cases e : p % 4 < a ∧ p / 4 < b
          · rw [if_pos e, if_pos (by omega)]
          · rw [if_neg e, if_neg (by omega)]
        · simp only [if_neg q]
          refine Or.inl ⟨trivial, trivial, fun p p0 p1 => ?_⟩
          unfold bxC
          rw [if_neg (by omega)]
      refine body_cls hu kp (fun a ha => by rw [← hm1, sr_ne _ _ ha]) hb (fun m2 f2 t3 z5 hu2 => ⟨⟨by constructor <;> omega, by constructor <;> omega⟩, _, rfl, ?_⟩)
      have k := body_kb hh kp f2
      refine wX12_box_0 (c_in ⟨fun g3 => absurd (if10 g3) (by omega), fun _ => c_in ⟨fun g3 => absurd (if10 g3) (by omega), fun _ => c_in ⟨fun g3 => absurd (if10 g3) (by omega), fun _ => c_change k.1 k.2 (fun m3 cm => ?_)⟩⟩⟩)
      obtain ⟨t1, t2⟩ := body_mid kp f2 cm
      have key3 := up_ind (n := 64) (fun i => Tj mX12_box 42 [some (rV 145), some (iV a), some (iV b), some (iV c), some (iV i)] [] (sr m3 147 (fil (bxC a b c) (m3 147) 0 i)) (fun r m' => ∃ n, r = some (iV n) ∧ K (a * b * c) n m')) ?_ ?_ (i := 0) (by omega) (by omega)
      · rw [fil_0, sr_self] at key3
        exact key3
      · refine wX12_box_42 ⟨fun g => by omega, fun _ => ?_⟩
        generalize hm5 : sr m3 147 (fil (bxC a b c) (m3 147) 0 64) = m5
        have e5 : m5 146 = m 146 := by rw [← hm5, sr_ne _ _ (by omega), t1]
        have key4 := up_ind (n := 4) (fun i => Tj mX12_box 97 [some (rV 145), some (iV a), some (iV b), some (iV c), some (iV i)] [] (sr m5 146 (fil (bxT c) (m5 146) 0 i)) (fun r m' => ∃ n, r = some (iV n) ∧ K (a * b * c) n m')) ?_ ?_ (i := 0) (by omega) (by omega)
        · rw [fil_0, sr_self] at key4
          exact key4
        · refine wX12_box_97 ⟨fun g => by omega, fun _ => ⟨⟨by constructor <;> omega, by constructor <;> omega⟩, _, rfl, ?_⟩⟩
          generalize hm4 : sr m5 146 (fil (bxT c) (m5 146) 0 4) = m4
          have c147 : m4 147 = fil (bxC a b c) (m3 147) 0 64 := by rw [← hm4, sr_ne _ _ (by omega), ← hm5, sr_eq]
          have c146 : m4 146 = fil (bxT c) (m5 146) 0 4 := by rw [← hm4, sr_eq]
          obtain ⟨j1, j2, j3, j4⟩ := body_end hc hh kp f2 z5 hu2 cm (m4 := m4) (fun x a1 a2 => by rw [← hm4, sr_ne _ _ a1, ← hm5, sr_ne _ _ a2]) (by
            rw [t3, c146, c147]
            exact hb.congr (fun _ _ _ => rfl) (fun z z0 z1 => by rw [fil_in _ _ (by omega), show z - 0 = z by omega]) (fun z z0 z1 => by rw [fil_in _ _ (by omega), show z - 0 = z by omega])) (by
            rw [c147]
            exact nrm_congr (fun z z0 z1 => by rw [fil_in _ _ (by omega), show z - 0 = z by omega]))
          exact h _ _ j1 j2 j3 j4
        · intro i i0 i1' ih
          refine wX12_box_97 ⟨fun _ v hv => ⟨⟨i0, i1', by constructor <;> omega⟩, ?_⟩, fun g => absurd i1' g⟩
          rw [hv, up_sr]
          have := fil_s (bxT c) (m5 146) 0 i0
          rw [show 0 + i = i by omega] at this
          show Tj mX12_box 97 _ [] (sr m5 146 (ur (fil (bxT c) (m5 146) 0 i) i (bxT c i))) _
          rw [this]
          exact ih
      · intro i i0 i1' ih
        have st := fil_s (bxC a b c) (m3 147) 0 i0
        rw [show 0 + i = i by omega] at st
        rw [← st] at ih
        refine wX12_box_42 ⟨fun _ => ⟨i0, fun g1 => ⟨by omega, fun g2 v hv => ⟨⟨i1', by constructor <;> omega⟩, ?_⟩, fun g2 => ⟨⟨i1', by constructor <;> omega⟩, ?_⟩⟩, fun g1 => ⟨⟨i1', by constructor <;> omega⟩, ?_⟩⟩, fun g => absurd i1' g⟩
        · rw [up_sr, show v = bxC a b c i by
            rw [hv]; unfold bxC
            by_cases e : i / 16 < c
            · rw [if_pos e, if_pos ⟨g1, g2, e⟩]
            · rw [if_neg e, if_neg (fun q => e q.2.2)]]
          exact ih
        · rw [show bxC a b c i = 0 by unfold bxC; exact if_neg (fun q => g2 q.2.1)] at ih
          rw [up_sr]
          exact ih
        · rw [show bxC a b c i = 0 by unfold bxC; exact if_neg (fun q => g1 q.1)] at ih
          rw [up_sr]
          exact ih
    · intro z z0 z1 ih
      have st := fil_s (fun w => if w < c then BX a b else -1) (m 3) 0 z0
      rw [show 0 + z = z by omega] at st
      rw [← st] at ih
      refine wX11_box_71 ⟨fun _ => ⟨fun g => c_put z0 z1 ⟨by constructor <;> omega, ?_⟩, fun g => c_take1 z0 z1 ⟨by constructor <;> omega, ?_⟩⟩, fun g => absurd z1 g⟩
      · simp only [if_pos g] at ih
        rw [up_sr, Int.emod_eq_of_lt bx0.1 bx0.2]
        exact ih
      · simp only [if_neg g] at ih
        rw [up_sr]
        exact ih
  · intro y y0 y1 ih
    obtain ⟨r1, r2⟩ := BX_s pa.1 pa.2 y0 (by omega)
    refine wX11_box_41 ⟨fun _ => ⟨⟨r1, by constructor <;> omega, by constructor <;> omega⟩, ?_⟩, fun g => absurd y1 g⟩
    rw [r2]
    exact ih
theorem sim_undo {K : Int → Int → tM → Prop} (hc : Cur m) (hh : HisR m) (hu : HUc m) (h : ∀ r m', Cur m' → HisR m' → HUc m' → OTB m m' → K r r m') : Cli mX11_undo [rV 0] m (fun r m1 => Cli mX12_undo [rV 145] m1 (fun r' m2 => K r r' m2)) := by
  obtain ⟨a, b, c, d', e', f'⟩ := id hh
  obtain ⟨i1, i2, i3, i4⟩ := idleB hc hh hu
  have c13 : 0 ≤ m 145 13 ∧ m 145 13 ≤ 8 := by rw [c]; exact b
  refine wX11_undo_0 (wX7_size_0 ⟨_, rfl, fun g => ⟨_, rfl, c_undoM d' c13 (fun _ => h _ _ i1 i2 i3 i4) (fun q => by rw [c, g] at q; omega)⟩, fun g => ?_⟩)
  have pos : 0 < m 10 2 := by omega
  refine c_giveBack a ⟨pos, b.2⟩ f' (fun m1 hb => ?_)
  have fr : ∀ x, x < 3 ∨ 9 < x → m1 x = (up m 10 2 (m 10 2 - 1)) x := fun x hx => hb.1 x (by omega)
  -- the body that comes back
  have sn := e' (m 10 2 - 1) (by omega) (by omega)
  have b3 : ∀ z, 0 ≤ z → z < 4 → m1 3 z = m (12 + 9 * ((m 10 1 + (m 10 2 - 1)) % 8).toNat + 2) z := fun z z0 z1 => by
    have := hb.2.1 z z0 z1
    rw [up_ne _ _ _ (by omega)] at this
    exact this
  have hbr := (sn.1).congr (l' := m1 3) (t' := fun z => m 155 (1860 * ((m 145 12 - m 10 2 + (m 10 2 - 1)) % 8) + z)) (c' := fun z => m 155 (1860 * ((m 145 12 - m 10 2 + (m 10 2 - 1)) % 8) + 4 + z)) b3 (fun _ _ _ => rfl) (fun _ _ _ => rfl)
  refine c_takeSkin (hu.congr (fun x x0 x1 => by rw [fr x (by omega), up_ne _ _ _ (by omega)])) hbr.n01 hbr.nrm (fun m2 f2 hu2 => wX7_size_0 ⟨_, rfl, _, rfl, ?_⟩)
  have e145 : m2 145 = m 145 := by rw [f2 145 (by omega), fr 145 (by omega), up_ne _ _ _ (by omega)]
  have e10 : m2 10 2 = m 10 2 - 1 := by rw [f2 10 (by omega), fr 10 (by omega), up_at]
  refine c_undoM (by rw [e145]; exact d') (by rw [e145]; exact c13) (fun q => by rw [e145, c] at q; omega) (fun q m3 um => ?_)
  obtain ⟨j1, j2⟩ := HisR.undo hh pos hb (m1' := m2) (fun x hx => f2 x (by omega)) (fun x hx => f2 x (by omega)) um
  rw [e145, c, e10]
  refine h _ _ j1 j2 ?_ (fun x hx => by rw [um.1 x (by omega), f2 x (by omega), fr x (by omega), up_ne _ _ _ (by omega)])
  show HU m3 (nrm (m3 147))
  have en : nrm (m3 147) = nrm (fun z => m 155 (1860 * ((m 145 12 - m 10 2 + (m 10 2 - 1)) % 8) + 4 + z)) := by
    refine nrm_congr (fun z z0 z1 => ?_)
    have := um.2.2.2.2.1 z z0 z1
    rw [f2 155 (by omega), fr 155 (by omega), up_ne _ _ _ (by omega), e145] at this
    rw [← this, show (m 145 12 + 8 - 1) % 8 = (m 145 12 - m 10 2 + (m 10 2 - 1)) % 8 by omega]
  rw [en]
  exact hu2.congr (fun x x0 x1 => um.1 x (by omega))
end C9j
