/-! places that hang together: the flood of the class -/
theorem cn_le (a b : Nat → Bool) : ∀ n, (∀ k, k < n → a k = true → b k = true) → cn a n ≤ cn b n
  | 0, _ => Nat.le_refl _
  | n + 1, h => by
    have := cn_le a b n (fun k hk => h k (by omega))
    have g := h n (by omega)
    rw [cn, cn]
    cases ha : a n
    · simp; omega
    · rw [g ha]; simp; omega
theorem cn_lt (a b : Nat → Bool) : ∀ n, (∀ k, k < n → a k = true → b k = true) → (∃ k, k < n ∧ b k = true ∧ a k = false) → cn a n < cn b n
  | 0, _, ⟨k, hk, _⟩ => by omega
  | n + 1, h, ⟨k, hk, kb, ka⟩ => by
    rw [cn, cn]
    by_cases q : k = n
    · subst q
      have := cn_le a b k (fun j hj => h j (by omega))
      rw [kb, ka]; simp; omega
    · have := cn_lt a b n (fun j hj => h j (by omega)) ⟨k, by omega, kb, ka⟩
      have g := h n (by omega)
      cases ha : a n
      · simp; omega
      · rw [g ha]; simp; omega
theorem cn_bound (a : Nat → Bool) : ∀ n, cn a n ≤ n
  | 0 => Nat.le_refl _
  | n + 1 => by have := cn_bound a n; rw [cn]; split <;> omega
theorem cn_full (a : Nat → Bool) (n : Nat) (h : n ≤ cn a n) : ∀ k, k < n → a k = true := by
  intro k hk
  by_cases q : a k = true
  · exact q
  · have := cn_lt a (fun _ => true) n (fun _ _ _ => rfl) ⟨k, hk, rfl, by simpa using q⟩
    have := cn_bound (fun _ => true) n
    omega
/-- the places of a long -/
abbrev bt (x : Int64) (p : Int) : Prop := 0 ≤ p ∧ p < 64 ∧ lb x p.toNat = true
def grow (x w : Int64) : Int64 := (((x ||| ((bLshl (x &&& 8608480567731124087) 1) ||| (bLushr (x &&& (-1229782938247303442)) 1))) ||| ((bLshl (x &&& 1152657617789587455) 4) ||| (bLushr (x &&& (-4222189076152336)) 4))) ||| ((bLshl x 16) ||| (bLushr x 16))) &&& w
theorem mk1 {n : Nat} (h : n < 64) : lb 8608480567731124087 n = decide (n % 4 ≠ 3) := by
  have : ∀ k : Fin 64, lb 8608480567731124087 k.val = decide (k.val % 4 ≠ 3) := by decide +kernel
  exact this ⟨n, h⟩
theorem mk2 {n : Nat} (h : n < 64) : lb (-1229782938247303442) n = decide (n % 4 ≠ 0) := by
  have : ∀ k : Fin 64, lb (-1229782938247303442) k.val = decide (k.val % 4 ≠ 0) := by decide +kernel
  exact this ⟨n, h⟩
theorem mk3 {n : Nat} (h : n < 64) : lb 1152657617789587455 n = decide (n / 4 % 4 ≠ 3) := by
  have : ∀ k : Fin 64, lb 1152657617789587455 k.val = decide (k.val / 4 % 4 ≠ 3) := by decide +kernel
  exact this ⟨n, h⟩
theorem mk4 {n : Nat} (h : n < 64) : lb (-4222189076152336) n = decide (n / 4 % 4 ≠ 0) := by
  have : ∀ k : Fin 64, lb (-4222189076152336) k.val = decide (k.val / 4 % 4 ≠ 0) := by decide +kernel
  exact this ⟨n, h⟩
theorem btn {x : Int64} {n : Nat} (h : lb x n = true) : bt x (n : Int) := by
  refine ⟨by omega, ?_, h⟩
  by_cases q : 64 ≤ n
  · rw [lb_out x q] at h; exact absurd h (by decide)
  · omega
theorem bt_grow (x w : Int64) (p : Int) : bt (grow x w) p ↔ (bt w p ∧ (bt x p ∨ ∃ d, 0 ≤ d ∧ d < 6 ∧ bt x (bynd p d))) := by
  constructor
  · rintro ⟨p0, p1, h⟩
    obtain ⟨n, rfl⟩ := Int.eq_ofNat_of_zero_le p0
    rw [Int.toNat_natCast] at h
    have hn : n < 64 := by omega
    unfold grow at h
    have s1 := lb_shl (x &&& 8608480567731124087) (s := 1) (n := n) (by omega) hn
    have s2 := lb_ushr (x &&& (-1229782938247303442)) (s := 1) (n := n) (by omega)
    have s3 := lb_shl (x &&& 1152657617789587455) (s := 4) (n := n) (by omega) hn
    have s4 := lb_ushr (x &&& (-4222189076152336)) (s := 4) (n := n) (by omega)
    have s5 := lb_shl x (s := 16) (n := n) (by omega) hn
    have s6 := lb_ushr x (s := 16) (n := n) (by omega)
    rw [lb_and, lb_or, lb_or, lb_or, lb_or, lb_or, lb_or] at h
    rw [Bool.and_eq_true, Bool.or_eq_true, Bool.or_eq_true, Bool.or_eq_true, Bool.or_eq_true, Bool.or_eq_true, Bool.or_eq_true] at h
    refine ⟨⟨p0, p1, h.2⟩, ?_⟩
    rcases h.1 with ((h | h | h) | h | h) | h | h
    · exact Or.inl ⟨p0, p1, h⟩
    · erw [s1] at h
      rw [lb_and, Bool.and_eq_true, Bool.and_eq_true] at h
      have a := of_decide_eq_true h.1
      have b := h.2.2
      rw [mk1 (by omega)] at b
      have b := of_decide_eq_true b
      refine Or.inr ⟨1, by omega, by omega, ?_⟩
      rw [show bynd (n : Int) 1 = ((n - 1 : Nat) : Int) by unfold bynd; (repeat' split) <;> omega]
      exact btn h.2.1
    · erw [s2] at h
      rw [lb_and, Bool.and_eq_true] at h
      have r := btn h.1
      have b := h.2
      have r2 := r.2.1
      rw [mk2 (by omega)] at b
      have b := of_decide_eq_true b
      refine Or.inr ⟨0, by omega, by omega, ?_⟩
      rw [show bynd (n : Int) 0 = ((n + 1 : Nat) : Int) by unfold bynd; (repeat' split) <;> omega]
      exact r
    · erw [s3] at h
      rw [lb_and, Bool.and_eq_true, Bool.and_eq_true] at h
      have a := of_decide_eq_true h.1
      have b := h.2.2
      rw [mk3 (by omega)] at b
      have b := of_decide_eq_true b
      refine Or.inr ⟨3, by omega, by omega, ?_⟩
      rw [show bynd (n : Int) 3 = ((n - 4 : Nat) : Int) by unfold bynd; (repeat' split) <;> omega]
      exact btn h.2.1
    · erw [s4] at h
      rw [lb_and, Bool.and_eq_true] at h
      have r := btn h.1
      have b := h.2
      have r2 := r.2.1
      rw [mk4 (by omega)] at b
      have b := of_decide_eq_true b
      refine Or.inr ⟨2, by omega, by omega, ?_⟩
      rw [show bynd (n : Int) 2 = ((n + 4 : Nat) : Int) by unfold bynd; (repeat' split) <;> omega]
      exact r
    · erw [s5] at h
      rw [Bool.and_eq_true] at h
      have a := of_decide_eq_true h.1
      refine Or.inr ⟨5, by omega, by omega, ?_⟩
      rw [show bynd (n : Int) 5 = ((n - 16 : Nat) : Int) by unfold bynd; (repeat' split) <;> omega]
      exact btn h.2
    · erw [s6] at h
      have r := btn h
      have r2 := r.2.1
      refine Or.inr ⟨4, by omega, by omega, ?_⟩
      rw [show bynd (n : Int) 4 = ((n + 16 : Nat) : Int) by unfold bynd; (repeat' split) <;> omega]
      exact r
  · rintro ⟨hw, hx⟩
    obtain ⟨p0, p1, hw⟩ := hw
    obtain ⟨n, rfl⟩ := Int.eq_ofNat_of_zero_le p0
    rw [Int.toNat_natCast] at hw
    have hn : n < 64 := by omega
    refine ⟨p0, p1, ?_⟩
    rw [Int.toNat_natCast]
    unfold grow
    have s1 := lb_shl (x &&& 8608480567731124087) (s := 1) (n := n) (by omega) hn
    have s2 := lb_ushr (x &&& (-1229782938247303442)) (s := 1) (n := n) (by omega)
    have s3 := lb_shl (x &&& 1152657617789587455) (s := 4) (n := n) (by omega) hn
    have s4 := lb_ushr (x &&& (-4222189076152336)) (s := 4) (n := n) (by omega)
    have s5 := lb_shl x (s := 16) (n := n) (by omega) hn
    have s6 := lb_ushr x (s := 16) (n := n) (by omega)
    rw [lb_and, lb_or, lb_or, lb_or, lb_or, lb_or, lb_or]
    rw [Bool.and_eq_true, Bool.or_eq_true, Bool.or_eq_true, Bool.or_eq_true, Bool.or_eq_true, Bool.or_eq_true, Bool.or_eq_true]
    refine ⟨?_, hw⟩
    rcases hx with h | ⟨d, d0, d1, b0, b1, h⟩
    · exact Or.inl (Or.inl (Or.inl h.2.2))
    · rcases (show d = 0 ∨ d = 1 ∨ d = 2 ∨ d = 3 ∨ d = 4 ∨ d = 5 by omega) with rfl | rfl | rfl | rfl | rfl | rfl
      · have e : bynd (n : Int) 0 = ((n + 1 : Nat) : Int) ∧ n % 4 ≠ 3 := by unfold bynd at b0 ⊢; (repeat' split at b0) <;> (try omega) <;> ((repeat' split) <;> omega)
        rw [e.1] at h b1
        refine Or.inl (Or.inl (Or.inr (Or.inr ?_)))
        erw [s2]
        rw [lb_and, Bool.and_eq_true, mk2 (by omega)]
        exact ⟨h, decide_eq_true (by omega)⟩
      · have e : bynd (n : Int) 1 = ((n - 1 : Nat) : Int) ∧ n % 4 ≠ 0 := by unfold bynd at b0 ⊢; (repeat' split at b0) <;> (try omega) <;> ((repeat' split) <;> omega)
        rw [e.1] at h b1
        refine Or.inl (Or.inl (Or.inr (Or.inl ?_)))
        erw [s1]
        rw [lb_and, Bool.and_eq_true, Bool.and_eq_true, mk1 (by omega)]
        exact ⟨decide_eq_true (by omega), h, decide_eq_true (by omega)⟩
      · have e : bynd (n : Int) 2 = ((n + 4 : Nat) : Int) ∧ n / 4 % 4 ≠ 3 := by unfold bynd at b0 ⊢; (repeat' split at b0) <;> (try omega) <;> ((repeat' split) <;> omega)
        rw [e.1] at h b1
        refine Or.inl (Or.inr (Or.inr ?_))
        erw [s4]
        rw [lb_and, Bool.and_eq_true, mk4 (by omega)]
        exact ⟨h, decide_eq_true (by omega)⟩
      · have e : bynd (n : Int) 3 = ((n - 4 : Nat) : Int) ∧ n / 4 % 4 ≠ 0 := by unfold bynd at b0 ⊢; (repeat' split at b0) <;> (try omega) <;> ((repeat' split) <;> omega)
        rw [e.1] at h b1
        refine Or.inl (Or.inr (Or.inl ?_))
        erw [s3]
        rw [lb_and, Bool.and_eq_true, Bool.and_eq_true, mk3 (by omega)]
        exact ⟨decide_eq_true (by omega), h, decide_eq_true (by omega)⟩
      · have e : bynd (n : Int) 4 = ((n + 16 : Nat) : Int) := by unfold bynd at b0 ⊢; (repeat' split at b0) <;> (try omega) <;> ((repeat' split) <;> omega)
        rw [e] at h b1
        refine Or.inr (Or.inr ?_)
        erw [s6]
        exact h
      · have e : bynd (n : Int) 5 = ((n - 16 : Nat) : Int) ∧ 16 ≤ n := by unfold bynd at b0 ⊢; (repeat' split at b0) <;> (try omega) <;> ((repeat' split) <;> omega)
        rw [e.1] at h b1
        refine Or.inr (Or.inl ?_)
        erw [s5]
        rw [Bool.and_eq_true]
        exact ⟨decide_eq_true (by omega), h⟩
/-- what is reached from a place, within a set -/
def RCH (A : Int → Prop) (p q : Int) : Prop := ∀ Q : Int → Prop, Q p → (∀ a d, 0 ≤ d → d < 6 → Q a → A (bynd a d) → Q (bynd a d)) → Q q
theorem RCH.refl (A : Int → Prop) (p : Int) : RCH A p p := fun _ h _ => h
theorem RCH.trans {A : Int → Prop} {p q r : Int} (h : RCH A p q) (g : RCH A q r) : RCH A p r := fun Q hp hc => g Q (h Q hp hc) hc
theorem RCH.step {A : Int → Prop} {p q d : Int} (h : RCH A p q) (d0 : 0 ≤ d) (d1 : d < 6) (hd : A (bynd q d)) : RCH A p (bynd q d) := fun Q hp hc => hc q d d0 d1 (h Q hp hc) hd
theorem RCH.sym {A : Int → Prop} (hA : ∀ p, A p → 0 ≤ p ∧ p < 64) {p q : Int} (h : RCH A p q) (hp : A p) : RCH A q p := by
  refine (h (fun a => A a ∧ RCH A a p) ⟨hp, RCH.refl A p⟩ (fun a d d0 d1 ⟨ha, hr⟩ hd => ⟨hd, fun Q hq hc => hr Q ?_ hc⟩)).2
  have r := by_r (hA a ha).1 (hA a ha).2 d0 d1
  have x := x1_r d0 d1
  have := hc (bynd a d) (x1 d) x.1.1 x.1.2 hq
  rw [r.2.2 (hA _ hd).1] at this
  exact this ha
/-- hanging together -/
def CN (A : Int → Prop) : Prop := ∀ p q, A p → A q → RCH A p q
theorem RCH.congr {A B : Int → Prop} (h : ∀ p, A p ↔ B p) {p q : Int} : RCH A p q ↔ RCH B p q :=
  ⟨fun g Q hp hc => g Q hp (fun a d d0 d1 ha hb => hc a d d0 d1 ha ((h _).1 hb)), fun g Q hp hc => g Q hp (fun a d d0 d1 ha hb => hc a d d0 d1 ha ((h _).2 hb))⟩
theorem CN.congr {A B : Int → Prop} (h : ∀ p, A p ↔ B p) : CN A ↔ CN B :=
  ⟨fun g p q hp hq => (RCH.congr h).1 (g p q ((h p).2 hp) ((h q).2 hq)), fun g p q hp hq => (RCH.congr h).2 (g p q ((h p).1 hp) ((h q).1 hq))⟩
/-- a flood -/
def FLO (x w r : Int64) : Prop := (∀ p, bt r p → bt w p) ∧ (∀ p, bt x p → bt w p → bt r p) ∧ (∀ p d, 0 ≤ d → d < 6 → bt r p → bt w (bynd p d) → bt r (bynd p d)) ∧ (∀ p, bt r p → ∃ s, bt x s ∧ bt w s ∧ RCH (bt w) s p)
theorem bt_and (x y : Int64) (p : Int) : bt (x &&& y) p ↔ bt x p ∧ bt y p := by
  unfold bt
  rw [lb_and, Bool.and_eq_true]
  exact ⟨fun h => ⟨⟨h.1, h.2.1, h.2.2.1⟩, h.1, h.2.1, h.2.2.2⟩, fun h => ⟨h.1.1, h.1.2.1, h.1.2.2, h.2.2.2⟩⟩
theorem bt_ext {x y : Int64} (h : ∀ p, bt x p ↔ bt y p) : x = y := by
  refine lb_ext (fun n hn => ?_)
  have := h (n : Int)
  unfold bt at this
  rw [Int.toNat_natCast] at this
  have e : lb x n = true ↔ lb y n = true := ⟨fun g => (this.1 ⟨by omega, by omega, g⟩).2.2, fun g => (this.2 ⟨by omega, by omega, g⟩).2.2⟩
  cases hx : lb x n <;> cases hy : lb y n <;> simp [hx, hy] at e ⊢
theorem grow_back {w r : Int64} {p d : Int} (d0 : 0 ≤ d) (d1 : d < 6) (h : bt r p) (hw : bt w (bynd p d)) : bt (grow r w) (bynd p d) := by
  refine (bt_grow r w _).2 ⟨hw, Or.inr ⟨x1 d, (x1_r d0 d1).1.1, (x1_r d0 d1).1.2, ?_⟩⟩
  rw [(by_r h.1 h.2.1 d0 d1).2.2 hw.1]
  exact h
theorem grow_sound {x w r : Int64} (h0 : ∀ p, bt r p → bt w p) (h : ∀ p, bt r p → ∃ s, bt x s ∧ bt w s ∧ RCH (bt w) s p) : ∀ p, bt (grow r w) p → ∃ s, bt x s ∧ bt w s ∧ RCH (bt w) s p := by
  intro p hp
  obtain ⟨hw, hr | ⟨d, d0, d1, hr⟩⟩ := (bt_grow r w p).1 hp
  · exact h p hr
  · obtain ⟨s, s1, s2, s3⟩ := h _ hr
    refine ⟨s, s1, s2, ?_⟩
    have e := (by_r hw.1 hw.2.1 d0 d1).2.2 hr.1
    have := s3.step (x1_r d0 d1).1.1 (x1_r d0 d1).1.2 (by rw [e]; exact hw)
    rw [e] at this
    exact this
section C9e
variable {m : tM}
theorem c_flood {x w : Int64} {K : Int64 → tM → Prop} (h : ∀ r, FLO x w r → K r m) : Cll mX1_flood [lV x, lV w] m K := by
  refine Tj.cut (lv' := [some (lV x), none, some (lV w)]) (wX1_flood_0 ?_) ⟨rfl, rfl, trivial⟩
  have key := up_ind (n := 64) (fun i => ∀ r : Int64, (∀ p, bt r p → bt w p) → (∀ p, bt x p → bt w p → bt r p) → (∀ p, bt r p → ∃ s, bt x s ∧ bt w s ∧ RCH (bt w) s p) → i ≤ (cn (lb r) 64 : Int) → Tj mX1_flood 8 [none, none, some (lV w), none, some (lV r), none, some (iV i)] [] m (fun r m' => ∃ n, r = some (lV n) ∧ K n m')) ?_ ?_ (i := 0) (by omega) (by omega)
  · refine key _ (fun p hp => ((bt_and x w p).1 hp).2) (fun p hx hw => (bt_and x w p).2 ⟨hx, hw⟩) (fun p hp => ?_) (by omega)
    have := (bt_and x w p).1 hp
    exact ⟨p, this.1, this.2, RCH.refl _ _⟩
  · intro r r1 r2 r3 r4
    refine wX1_flood_8 ⟨fun c => by omega, fun _ => ⟨_, rfl, h r ⟨r1, r2, fun p d d0 d1 hp hw => ?_, r3⟩⟩⟩
    have f := cn_full (lb r) 64 (by omega) (bynd p d).toNat (by have := hw.1; have := hw.2.1; omega)
    exact ⟨hw.1, hw.2.1, f⟩
  · intro i i0 i1 ih r r1 r2 r3 r4
    refine wX1_flood_8 ⟨fun _ v hv => ⟨fun c => ?_, fun c => ⟨by constructor <;> omega, ?_⟩⟩, fun c => absurd i1 c⟩
    · have e : grow r w = r := (lcI_0 _ _).1 (hv.symm.trans c)
      refine ⟨_, rfl, h r ⟨r1, r2, fun p d d0 d1 hp hw => ?_, r3⟩⟩
      have := grow_back d0 d1 hp hw
      rw [e] at this
      exact this
    · have ne : grow r w ≠ r := fun e => c (hv.trans ((lcI_0 _ _).2 e))
      have sub : ∀ p, bt r p → bt (grow r w) p := fun p hp => (bt_grow r w p).2 ⟨r1 p hp, Or.inl hp⟩
      have sub' : ∀ k, k < 64 → lb r k = true → lb (grow r w) k = true := fun k hk hb => by
        have := (sub (k : Int) (btn hb)).2.2
        rw [Int.toNat_natCast] at this
        exact this
      have lt : cn (lb r) 64 < cn (lb (grow r w)) 64 := by
        refine cn_lt _ _ 64 sub' ?_
        refine Classical.byContradiction (fun no => ne (lb_ext (fun n hn => ?_)))
        cases hr : lb r n
        · cases hg : lb (grow r w) n
          · rfl
          · exact absurd ⟨n, hn, hg, hr⟩ no
        · exact sub' n hn hr
      exact ih (grow r w) (fun p hp => ((bt_grow r w p).1 hp).1) (fun p hx hw => sub p (r2 p hx hw)) (grow_sound r1 r3) (by omega)
end C9e
/-- the lowest bit -/
theorem lb_low (x : Int64) (n : Nat) : lb (x &&& (-x)) n = true ↔ lb x n = true ∧ ∀ j, j < n → lb x j = false := by
  rw [lb_and]
  by_cases hn : n < 64
  · have e : lb (-x) n = (lb x n ^^ decide (∃ j, j < n ∧ lb x j = true)) := by
      unfold lb
      rw [Int64.toBitVec_neg, BitVec.getLsbD_neg]
      simp [hn]
    rw [e]
    cases hx : lb x n
    · simp
    · simp
  · rw [lb_out x (by omega)]; simp
theorem ex_low (a : Nat → Bool) : ∀ n, (∃ k, k < n ∧ a k = true) → ∃ k, k < n ∧ a k = true ∧ ∀ j, j < k → a j = false
  | 0, ⟨k, hk, _⟩ => by omega
  | n + 1, ⟨k, hk, ha⟩ => by
    by_cases q : ∃ k, k < n ∧ a k = true
    · obtain ⟨j, j1, j2, j3⟩ := ex_low a n q
      exact ⟨j, by omega, j2, j3⟩
    · have z : ∀ j, j < n → a j = false := fun j hj => by
        cases hh : a j
        · rfl
        · exact absurd ⟨j, hj, hh⟩ q
      by_cases e : k = n
      · subst e; exact ⟨k, hk, ha, z⟩
      · rw [z k (by omega)] at ha; exact absurd ha (by decide)
theorem bt_r (x : Int64) : ∀ p, bt x p → 0 ≤ p ∧ p < 64 := fun _ h => ⟨h.1, h.2.1⟩
theorem hang_iff {x r : Int64} (h : FLO (x &&& (-x)) x r) : lcI r x = 0 ↔ CN (bt x) := by
  rw [lcI_0]
  obtain ⟨h1, h2, h3, h4⟩ := h
  constructor
  · intro e p q hp hq
    subst e
    obtain ⟨s, s1, s2, s3⟩ := h4 p hp
    obtain ⟨t, t1, t2, t3⟩ := h4 q hq
    have es := (lb_low _ _).1 s1.2.2
    have et := (lb_low _ _).1 t1.2.2
    have : s = t := by
      have a := s1.1
      have b := t1.1
      rcases Nat.lt_trichotomy s.toNat t.toNat with g | g | g
      · have := et.2 _ g; rw [es.1] at this; exact absurd this (by decide)
      · omega
      · have := es.2 _ g; rw [et.1] at this; exact absurd this (by decide)
    subst this
    exact (s3.sym (bt_r _) s2).trans t3
  · intro c
    refine bt_ext (fun p => ⟨h1 p, fun hp => ?_⟩)
    obtain ⟨k, k1, k2, k3⟩ := ex_low (lb x) 64 ⟨p.toNat, by have := hp.1; have := hp.2.1; omega, hp.2.2⟩
    have lo : bt (x &&& (-x)) (k : Int) := btn ((lb_low x k).2 ⟨k2, k3⟩)
    have hk := btn k2
    exact c k p hk hp (bt r) (h2 _ lo hk) (fun a d d0 d1 ha hb => h3 a d d0 d1 ha hb)
section C9e2
variable {m : tM}
theorem c_hangs {x : Int64} {K : Int → tM → Prop} (h1 : CN (bt x) → K 1 m) (h0 : ¬ CN (bt x) → K 0 m) : Cli mX1_hangs [lV x] m K := by
  refine Tj.cut (lv' := [some (lV x)]) (wX1_hangs_0 (c_flood (fun r hr v hv => ⟨v, rfl, ?_⟩))) ⟨rfl, trivial⟩
  have := hang_iff hr
  by_cases q : CN (bt x)
  · rw [hv, if_pos (this.2 q)]; exact h1 q
  · rw [hv, if_neg (fun e => q (this.1 e))]; exact h0 q
end C9e2
