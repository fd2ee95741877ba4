/-! squares that meet by squares: bits that are joined -/
def jb (a r i b : Nat) : Nat := r ||| (a &&& (1 <<< (i ^^^ b)))
def ji (n a i r : Nat) : Nat := if r.testBit i = true then (if n = 4 then jb a (jb a r i 1) i 2 else jb a (jb a (jb a r i 1) i 2) i 4) else r
def jr (n a : Nat) : Nat → Nat → Nat
  | 0, r => r
  | i + 1, r => ji n a i (jr n a i r)
def jt (n a : Nat) : Nat → Nat → Nat
  | 0, r => r
  | k + 1, r => jr n a n (jt n a k r)
def lwN (a : Nat) : Nat := a &&& (256 - a)
abbrev JN (n a : Nat) : Prop := jt n a 8 (lwN a) = a
abbrev flip (n b : Nat) : Prop := b = 1 ∨ b = 2 ∨ (b = 4 ∧ n = 8)
abbrev n48 (n : Nat) : Prop := n = 4 ∨ n = 8
theorem tb_jb (a r i b t : Nat) : (jb a r i b).testBit t = (r.testBit t || (a.testBit t && decide (i ^^^ b = t))) := by
  unfold jb
  rw [Nat.testBit_or, Nat.testBit_and, Nat.one_shiftLeft, Nat.testBit_two_pow]
theorem ji_mono {n a i r t : Nat} (h : r.testBit t = true) : (ji n a i r).testBit t = true := by
  unfold ji
  split
  · split
    · rw [tb_jb, tb_jb, h]; rfl
    · rw [tb_jb, tb_jb, tb_jb, h]; rfl
  · exact h
theorem ji_hit {n a i r b : Nat} (hn : n48 n) (hb : flip n b) (h : r.testBit i = true) (ha : a.testBit (i ^^^ b) = true) : (ji n a i r).testBit (i ^^^ b) = true := by
  unfold ji
  rw [if_pos h]
  rcases hn with rfl | rfl
  · rw [if_pos rfl]
    rcases hb with rfl | rfl | ⟨_, q⟩
    · rw [tb_jb, tb_jb, ha, decide_eq_true (rfl : i ^^^ 1 = i ^^^ 1)]; simp
    · rw [tb_jb, ha, decide_eq_true (rfl : i ^^^ 2 = i ^^^ 2)]; simp
    · omega
  · rw [if_neg (by omega)]
    rcases hb with rfl | rfl | ⟨rfl, _⟩
    · rw [tb_jb, tb_jb, tb_jb, ha, decide_eq_true (rfl : i ^^^ 1 = i ^^^ 1)]; simp
    · rw [tb_jb, tb_jb, ha, decide_eq_true (rfl : i ^^^ 2 = i ^^^ 2)]; simp
    · rw [tb_jb, ha, decide_eq_true (rfl : i ^^^ 4 = i ^^^ 4)]; simp
theorem jr_mono {n a r t : Nat} : ∀ i, r.testBit t = true → (jr n a i r).testBit t = true
  | 0, h => h
  | i + 1, h => ji_mono (jr_mono i h)
theorem jr_le {n a r t i : Nat} : ∀ k, i ≤ k → (jr n a i r).testBit t = true → (jr n a k r).testBit t = true
  | 0, hk, h => by rw [show i = 0 by omega] at h; exact h
  | k + 1, hk, h => by
    by_cases q : i = k + 1
    · rw [q] at h; exact h
    · exact ji_mono (jr_le k (by omega) h)
theorem xr_f : (∀ i : Fin 4, i.val ^^^ 1 < 4 ∧ i.val ^^^ 2 < 4) ∧ ∀ i : Fin 8, i.val ^^^ 1 < 8 ∧ i.val ^^^ 2 < 8 ∧ i.val ^^^ 4 < 8 := by decide +kernel
theorem xr_lt {n i b : Nat} (hn : n48 n) (hb : flip n b) (hi : i < n) : i ^^^ b < n := by
  rcases hn with rfl | rfl
  · have := xr_f.1 ⟨i, hi⟩
    rcases hb with rfl | rfl | ⟨_, q⟩
    · exact this.1
    · exact this.2
    · omega
  · have := xr_f.2 ⟨i, hi⟩
    rcases hb with rfl | rfl | ⟨rfl, _⟩
    · exact this.1
    · exact this.2.1
    · exact this.2.2
/-- every bit is within, and reached -/
def SND (n a : Nat) (Q : Nat → Prop) (r : Nat) : Prop := ∀ t, r.testBit t = true → t < n ∧ a.testBit t = true ∧ Q t
theorem SND.jB {n a i r b : Nat} {Q : Nat → Prop} (h : SND n a Q r) (hn : n48 n) (hb : flip n b) (hi : i < n) (hq : a.testBit (i ^^^ b) = true → Q (i ^^^ b)) : SND n a Q (jb a r i b) := by
  intro t ht
  rw [tb_jb, Bool.or_eq_true, Bool.and_eq_true] at ht
  rcases ht with g | ⟨g1, g2⟩
  · exact h t g
  · have e := of_decide_eq_true g2
    subst e
    exact ⟨xr_lt hn hb hi, g1, hq g1⟩
theorem SND.jI {n a i r : Nat} {Q : Nat → Prop} (h : SND n a Q r) (hn : n48 n) (hi : i < n) (hc : ∀ x b, x < n → flip n b → Q x → a.testBit (x ^^^ b) = true → Q (x ^^^ b)) : SND n a Q (ji n a i r) := by
  show SND n a Q (if r.testBit i = true then (if n = 4 then jb a (jb a r i 1) i 2 else jb a (jb a (jb a r i 1) i 2) i 4) else r)
  by_cases g : r.testBit i = true
  · rw [if_pos g]
    have q := (h i g).2.2
    have f1 : flip n 1 := Or.inl rfl
    have f2 : flip n 2 := Or.inr (Or.inl rfl)
    have s1 := h.jB hn f1 hi (hc i 1 hi f1 q)
    have s2 := s1.jB hn f2 hi (hc i 2 hi f2 q)
    rcases hn with rfl | rfl
    · rw [if_pos rfl]; exact s2
    · rw [if_neg (by omega)]
      have f4 : flip 8 4 := Or.inr (Or.inr ⟨rfl, rfl⟩)
      exact s2.jB (Or.inr rfl) f4 hi (hc i 4 hi f4 q)
  · rw [if_neg g]; exact h
theorem SND.jR {n a r : Nat} {Q : Nat → Prop} (h : SND n a Q r) (hn : n48 n) (hc : ∀ x b, x < n → flip n b → Q x → a.testBit (x ^^^ b) = true → Q (x ^^^ b)) : ∀ i, i ≤ n → SND n a Q (jr n a i r)
  | 0, _ => h
  | i + 1, hi => (SND.jR h hn hc i (by omega)).jI hn (by omega) hc
theorem SND.jT {n a r : Nat} {Q : Nat → Prop} (h : SND n a Q r) (hn : n48 n) (hc : ∀ x b, x < n → flip n b → Q x → a.testBit (x ^^^ b) = true → Q (x ^^^ b)) : ∀ k, SND n a Q (jt n a k r)
  | 0 => h
  | k + 1 => (SND.jT h hn hc k).jR hn hc n (Nat.le_refl n)
theorem jt_fix8 : ∀ a : Fin 256, jt 8 a.val 9 (lwN a.val) = jt 8 a.val 8 (lwN a.val) := by decide +kernel
theorem jt_fix4 : ∀ a : Fin 16, jt 4 a.val 9 (lwN a.val) = jt 4 a.val 8 (lwN a.val) := by decide +kernel
theorem lw_f : ∀ a : Fin 256, a.val ≠ 0 → ∃ l : Fin 8, lwN a.val = 1 <<< l.val ∧ a.val.testBit l.val = true := by decide +kernel
theorem lw_f4 : ∀ a : Fin 16, a.val ≠ 0 → ∃ l : Fin 4, lwN a.val = 1 <<< l.val ∧ a.val.testBit l.val = true := by decide +kernel
theorem jt_fix {n a : Nat} (hn : n48 n) (ha : a < 2 ^ n) : jt n a 9 (lwN a) = jt n a 8 (lwN a) := by
  rcases hn with rfl | rfl
  · exact jt_fix4 ⟨a, ha⟩
  · exact jt_fix8 ⟨a, ha⟩
theorem lw_r {n a : Nat} (hn : n48 n) (ha : a < 2 ^ n) (h0 : a ≠ 0) : ∃ l, l < n ∧ lwN a = 1 <<< l ∧ a.testBit l = true := by
  rcases hn with rfl | rfl
  · obtain ⟨l, h⟩ := lw_f4 ⟨a, ha⟩ h0
    exact ⟨l.val, l.isLt, h⟩
  · obtain ⟨l, h⟩ := lw_f ⟨a, ha⟩ h0
    exact ⟨l.val, l.isLt, h⟩
theorem jt_mono {n a r t : Nat} : ∀ k, r.testBit t = true → (jt n a k r).testBit t = true
  | 0, h => h
  | k + 1, h => jr_mono n (jt_mono k h)
/-- joined bits -/
def RN (n a i j : Nat) : Prop := ∀ Q : Nat → Prop, Q i → (∀ x b, x < n → flip n b → Q x → a.testBit (x ^^^ b) = true → Q (x ^^^ b)) → Q j
def CNn (n a : Nat) : Prop := ∀ i j, i < n → j < n → a.testBit i = true → a.testBit j = true → RN n a i j
theorem RN.sym {n a i j : Nat} (hn : n48 n) (h : RN n a i j) (hi : i < n) (ha : a.testBit i = true) : RN n a j i := by
  refine (h (fun x => (x < n ∧ a.testBit x = true) ∧ RN n a x i) ⟨⟨hi, ha⟩, fun Q q _ => q⟩ (fun x b xn hb ⟨⟨_, hx⟩, hr⟩ ht => ⟨⟨xr_lt hn hb xn, ht⟩, fun Q q hc => hr Q ?_ hc⟩)).2
  have := hc (x ^^^ b) b (xr_lt hn hb xn) hb q
  rw [Nat.xor_assoc, Nat.xor_self, Nat.xor_zero] at this
  exact this hx
theorem RN.trans {n a i j k : Nat} (h : RN n a i j) (g : RN n a j k) : RN n a i k := fun Q q hc => g Q (h Q q hc) hc
theorem JN_iff {n a : Nat} (hn : n48 n) (ha : a < 2 ^ n) : JN n a ↔ CNn n a := by
  constructor
  · intro h i j hi hj ti tj
    have a0 : a ≠ 0 := fun e => by rw [e, Nat.zero_testBit] at ti; exact absurd ti (by decide)
    obtain ⟨l, l1, l2, l3⟩ := lw_r hn ha a0
    have all : ∀ t, a.testBit t = true → RN n a l t := fun t ht Q q hc => by
      have s : SND n a Q (lwN a) := fun x hx => by
        rw [l2, Nat.one_shiftLeft, Nat.testBit_two_pow] at hx
        have := of_decide_eq_true hx
        subst this
        exact ⟨l1, l3, q⟩
      have := s.jT hn hc 8 t
      rw [show jt n a 8 (lwN a) = a from h] at this
      exact (this ht).2.2
    exact ((all i ti).sym hn l1 l3).trans (all j tj)
  · intro h
    have s0 : SND n a (fun _ => True) (lwN a) := fun t ht => by
      unfold lwN at ht
      rw [Nat.testBit_and, Bool.and_eq_true] at ht
      refine ⟨?_, ht.1, trivial⟩
      by_cases q : t < n
      · exact q
      · have := Nat.testBit_lt_two_pow (show a < 2 ^ t from Nat.lt_of_lt_of_le ha (Nat.pow_le_pow_right (by omega) (by omega)))
        rw [this] at ht
        exact absurd ht.1 (by decide)
    have s1 := s0.jT hn (fun _ _ _ _ _ _ => trivial) 8
    refine Nat.eq_of_testBit_eq (fun t => ?_)
    by_cases ht : a.testBit t = true
    · rw [ht]
      have a0 : a ≠ 0 := fun e => by rw [e, Nat.zero_testBit] at ht; exact absurd ht (by decide)
      have tn : t < n := by
        by_cases q : t < n
        · exact q
        · have := Nat.testBit_lt_two_pow (show a < 2 ^ t from Nat.lt_of_lt_of_le ha (Nat.pow_le_pow_right (by omega) (by omega)))
          rw [this] at ht
          exact absurd ht (by decide)
      obtain ⟨l, l1, l2, l3⟩ := lw_r hn ha a0
      refine h l t l1 tn l3 ht (fun x => (jt n a 8 (lwN a)).testBit x = true) ?_ (fun x b xn hb hx hxb => ?_)
      · refine jt_mono 8 ?_
        rw [l2, Nat.one_shiftLeft, Nat.testBit_two_pow]
        exact decide_eq_true rfl
      · have fx : jr n a n (jt n a 8 (lwN a)) = jt n a 8 (lwN a) := jt_fix hn ha
        have h1 : (jr n a (x + 1) (jt n a 8 (lwN a))).testBit (x ^^^ b) = true := ji_hit hn hb (jr_mono x hx) hxb
        have h2 := jr_le n (by omega) h1
        rw [fx] at h2
        exact h2
    · cases g : (jt n a 8 (lwN a)).testBit t
      · exact (by simpa using ht : a.testBit t = false).symm
      · exact absurd (s1 t g).2.1 ht
/-! patterns -/
def pt (f : Nat → Int) : Nat → Nat
  | 0 => 0
  | i + 1 => (if f i = 1 then 2 ^ i else 0) + pt f i
theorem pt_lt (f : Nat → Int) : ∀ n, pt f n < 2 ^ n
  | 0 => by rw [pt]; decide
  | n + 1 => by
    have := pt_lt f n
    rw [pt, Nat.pow_succ]
    split <;> omega
theorem pt_bit (f : Nat → Int) : ∀ (n : Nat) {i : Nat}, i < n → (pt f n).testBit i = decide (f i = 1)
  | 0, i, h => by omega
  | n + 1, i, h => by
    rw [pt]
    by_cases q : i = n
    · subst q
      have l := Nat.testBit_lt_two_pow (pt_lt f i)
      by_cases g : f i = 1
      · rw [if_pos g, Nat.testBit_two_pow_add_eq, l, decide_eq_true g]; rfl
      · rw [if_neg g, Nat.zero_add, l, decide_eq_false g]
    · by_cases g : f n = 1
      · rw [if_pos g, Nat.testBit_two_pow_add_gt (by omega)]
        exact pt_bit f n (by omega)
      · rw [if_neg g, Nat.zero_add]
        exact pt_bit f n (by omega)
/-- bits laid into a cube of bits -/
theorem emb_CN {n : Nat} {E : Nat → Int} {A : Int → Prop} {f : Nat → Int} (hn : n48 n) (hA : ∀ p, A p ↔ ∃ i, i < n ∧ p = E i ∧ f i = 1) (inj : ∀ i j, i < n → j < n → E i = E j → i = j) (h1 : ∀ i d j, i < n → 0 ≤ d → d < 6 → j < n → bynd (E i) d = E j → ∃ b, flip n b ∧ j = i ^^^ b) (h2 : ∀ i b, i < n → flip n b → ∃ d, 0 ≤ d ∧ d < 6 ∧ bynd (E i) d = E (i ^^^ b)) : CN A ↔ JN n (pt f n) := by
  rw [JN_iff hn (pt_lt f n)]
  have bit : ∀ i, i < n → ((pt f n).testBit i = true ↔ f i = 1) := fun i hi => by
    rw [pt_bit f n hi]
    exact ⟨fun g => of_decide_eq_true g, fun g => decide_eq_true g⟩
  constructor
  · intro h i j hi hj ti tj Q q hc
    have := h (E i) (E j) ((hA _).2 ⟨i, hi, rfl, (bit i hi).1 ti⟩) ((hA _).2 ⟨j, hj, rfl, (bit j hj).1 tj⟩) (fun p => ∃ x, x < n ∧ p = E x ∧ Q x) ⟨i, hi, rfl, q⟩ (fun p d d0 d1 ⟨x, xn, xe, xq⟩ hp => ?_)
    · obtain ⟨x, xn, xe, xq⟩ := this
      rw [inj j x hj xn xe]; exact xq
    · obtain ⟨y, yn, ye, yf⟩ := (hA _).1 hp
      subst xe
      obtain ⟨b, hb, e⟩ := h1 x d y xn d0 d1 yn ye
      refine ⟨y, yn, ye, ?_⟩
      rw [e]
      exact hc x b xn hb xq (by rw [← e]; exact (bit y yn).2 yf)
  · intro h p q hp hq Q hQ hc
    obtain ⟨i, hi, rfl, fi⟩ := (hA _).1 hp
    obtain ⟨j, hj, rfl, fj⟩ := (hA _).1 hq
    refine h i j hi hj ((bit i hi).2 fi) ((bit j hj).2 fj) (fun x => Q (E x)) hQ (fun x b xn hb hx hxb => ?_)
    obtain ⟨d, d0, d1, e⟩ := h2 x b xn hb
    have xl := xr_lt hn hb xn
    have := hc (E x) d d0 d1 hx
    rw [e] at this
    exact this ((hA _).2 ⟨_, xl, rfl, (bit _ xl).1 hxb⟩)
