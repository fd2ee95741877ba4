/-! hanging together in the reference: the places with a rim about them -/
def pd (k : Int) : Int := plc (k % 6 - 1) (k / 6 % 6 - 1) (k / 36 - 1)
def st6 (k d : Int) : Int := if (0 ≤ k % 6 + alO d 0 ∧ k % 6 + alO d 0 ≤ 5) ∧ (0 ≤ k / 6 % 6 + alO d 1 ∧ k / 6 % 6 + alO d 1 ≤ 5) ∧ (0 ≤ k / 36 + alO d 2 ∧ k / 36 + alO d 2 ≤ 5) then 36 * (k / 36 + alO d 2) + 6 * (k / 6 % 6 + alO d 1) + (k % 6 + alO d 0) else -1
def e6 (p : Int) : Int := 36 * (p / 16 + 1) + 6 * (p / 4 % 4 + 1) + (p % 4 + 1)
def vl (c : Int → Int) (p : Int) : Int := if 0 ≤ p then c p else 0
/-- the places of the wide grid that are so -/
def S6 (c : Int → Int) (w k : Int) : Prop := 0 ≤ k ∧ k < 216 ∧ vl c (pd k) = w
theorem st6_f1 : ∀ k : Fin 216, ∀ d : Fin 6, -1 ≤ st6 k.val d.val ∧ st6 k.val d.val < 216 ∧ (0 ≤ st6 k.val d.val → st6 (st6 k.val d.val) (x1 d.val) = k.val) := by decide +kernel
theorem st6_f2 : ∀ k : Fin 216, ∀ d : Fin 6, 0 ≤ pd k.val → e6 (pd k.val) = k.val ∧ 0 ≤ st6 k.val d.val ∧ pd (st6 k.val d.val) = bynd (pd k.val) d.val := by decide +kernel
theorem st6_f3 : ∀ k : Fin 216, ∀ d : Fin 6, pd k.val < 0 → 0 ≤ st6 k.val d.val → 0 ≤ pd (st6 k.val d.val) → rimP (pd (st6 k.val d.val)) := by decide +kernel
theorem pd_f : ∀ k : Fin 216, -1 ≤ pd k.val ∧ pd k.val < 64 := by decide +kernel
theorem e6_f : ∀ p : Fin 64, (0 ≤ e6 p.val ∧ e6 p.val < 216) ∧ pd (e6 p.val) = p.val ∧ (rimP (p.val : Int) → ∃ d : Fin 6, 0 ≤ st6 (e6 p.val) d.val ∧ pd (st6 (e6 p.val) d.val) < 0) := by decide +kernel
/-- a way along the rim to its first place -/
def dirF (k : Int) : Int := if k / 36 = 0 then (if 0 < k % 6 then 1 else 3) else if k % 6 = 0 ∨ k % 6 = 5 ∨ k / 6 % 6 = 0 ∨ k / 6 % 6 = 5 then 5 else 1
def rk6 (k : Int) : Int := k % 6 + k / 6 % 6 + k / 36
theorem rim_f : ∀ k : Fin 216, pd k.val < 0 → k.val ≠ 0 → (0 ≤ dirF k.val ∧ dirF k.val < 6) ∧ 0 ≤ st6 k.val (dirF k.val) ∧ pd (st6 k.val (dirF k.val)) < 0 ∧ rk6 (st6 k.val (dirF k.val)) < rk6 k.val := by decide +kernel
theorem st6_r {k d : Int} (k0 : 0 ≤ k) (k1 : k < 216) (d0 : 0 ≤ d) (d1 : d < 6) : -1 ≤ st6 k d ∧ st6 k d < 216 ∧ (0 ≤ st6 k d → st6 (st6 k d) (x1 d) = k) ∧ (0 ≤ pd k → e6 (pd k) = k ∧ 0 ≤ st6 k d ∧ pd (st6 k d) = bynd (pd k) d) ∧ (pd k < 0 → 0 ≤ st6 k d → 0 ≤ pd (st6 k d) → rimP (pd (st6 k d))) := by
  have a := st6_f1 ⟨k.toNat, by omega⟩ ⟨d.toNat, by omega⟩
  have b := st6_f2 ⟨k.toNat, by omega⟩ ⟨d.toNat, by omega⟩
  have e := st6_f3 ⟨k.toNat, by omega⟩ ⟨d.toNat, by omega⟩
  simp only [ix_cast k0, ix_cast d0] at a b e
  exact ⟨a.1, a.2.1, a.2.2, b, e⟩
theorem pd_r {k : Int} (k0 : 0 ≤ k) (k1 : k < 216) : -1 ≤ pd k ∧ pd k < 64 := by
  have := pd_f ⟨k.toNat, by omega⟩
  simp only [ix_cast k0] at this
  exact this
theorem e6_r {p : Int} (p0 : 0 ≤ p) (p1 : p < 64) : (0 ≤ e6 p ∧ e6 p < 216) ∧ pd (e6 p) = p ∧ (rimP p → ∃ d, 0 ≤ d ∧ d < 6 ∧ 0 ≤ st6 (e6 p) d ∧ pd (st6 (e6 p) d) < 0) := by
  have := e6_f ⟨p.toNat, by omega⟩
  simp only [ix_cast p0] at this
  refine ⟨this.1, this.2.1, fun h => ?_⟩
  obtain ⟨d, h1, h2⟩ := this.2.2 h
  exact ⟨d.val, by omega, by omega, h1, h2⟩
theorem rim_r {k : Int} (k0 : 0 ≤ k) (k1 : k < 216) (h : pd k < 0) (hk : k ≠ 0) : (0 ≤ dirF k ∧ dirF k < 6) ∧ 0 ≤ st6 k (dirF k) ∧ pd (st6 k (dirF k)) < 0 ∧ rk6 (st6 k (dirF k)) < rk6 k := by
  have := rim_f ⟨k.toNat, by omega⟩
  simp only [ix_cast k0] at this
  exact this h (by omega)
/-- reached along steps of the wide grid -/
def R6 (A : Int → Prop) (p q : Int) : Prop := ∀ Q : Int → Prop, Q p → (∀ a d, 0 ≤ d → d < 6 → Q a → A (st6 a d) → Q (st6 a d)) → Q q
theorem R6.refl (A : Int → Prop) (p : Int) : R6 A p p := fun _ h _ => h
theorem R6.trans {A : Int → Prop} {p q r : Int} (h : R6 A p q) (g : R6 A q r) : R6 A p r := fun Q hp hc => g Q (h Q hp hc) hc
theorem R6.step {A : Int → Prop} {p q d : Int} (h : R6 A p q) (d0 : 0 ≤ d) (d1 : d < 6) (hd : A (st6 q d)) : R6 A p (st6 q d) := fun Q hp hc => hc q d d0 d1 (h Q hp hc) hd
theorem R6.sym {A : Int → Prop} (hA : ∀ p, A p → 0 ≤ p ∧ p < 216) {p q : Int} (h : R6 A p q) (hp : A p) : R6 A q p := by
  refine (h (fun a => A a ∧ R6 A a p) ⟨hp, R6.refl A p⟩ (fun a d d0 d1 ⟨ha, hr⟩ hd => ⟨hd, fun Q hq hc => hr Q ?_ hc⟩)).2
  have r := st6_r (hA a ha).1 (hA a ha).2 d0 d1
  have x := x1_r d0 d1
  have := hc (st6 a d) (x1 d) x.1.1 x.1.2 hq
  rw [r.2.2.1 (hA _ hd).1] at this
  exact this ha
def CN6 (A : Int → Prop) : Prop := ∀ p q, A p → A q → R6 A p q
theorem S6_r (c : Int → Int) (w : Int) : ∀ p, S6 c w p → 0 ≤ p ∧ p < 216 := fun _ h => ⟨h.1, h.2.1⟩
theorem cu6 {c : Int → Int} {k : Int} (h : S6 c 1 k) : cuP c (pd k) ∧ e6 (pd k) = k := by
  obtain ⟨k0, k1, v⟩ := h
  have r := pd_r k0 k1
  have p0 : 0 ≤ pd k := by
    by_cases q : 0 ≤ pd k
    · exact q
    · unfold vl at v; rw [if_neg q] at v; omega
  have v' : c (pd k) = 1 := by unfold vl at v; rw [if_pos p0] at v; exact v
  exact ⟨⟨p0, r.2, v'⟩, ((st6_r k0 k1 (d := 0) (by omega) (by omega)).2.2.2.1 p0).1⟩
theorem S6_e {c : Int → Int} {p : Int} (p0 : 0 ≤ p) (p1 : p < 64) : S6 c (c p) (e6 p) := by
  obtain ⟨a, b, -⟩ := e6_r p0 p1
  exact ⟨a.1, a.2, by rw [b]; unfold vl; rw [if_pos p0]⟩
theorem e6_by {p d : Int} (p0 : 0 ≤ p) (p1 : p < 64) (d0 : 0 ≤ d) (d1 : d < 6) (hb : 0 ≤ bynd p d) : st6 (e6 p) d = e6 (bynd p d) := by
  obtain ⟨a, b, -⟩ := e6_r p0 p1
  have r := st6_r a.1 a.2 d0 d1
  rw [b] at r
  obtain ⟨r1, r2, r3⟩ := r.2.2.2.1 p0
  rw [← r3] at hb ⊢
  exact ((st6_r r2 r.2.1 (d := 0) (by omega) (by omega)).2.2.2.1 hb).1.symm
/-- the cubes -/
theorem W2_iff (c : Int → Int) : CN6 (S6 c 1) ↔ W2 c := by
  constructor
  · intro h p q hp hq Q hQ hc
    have rp := e6_r hp.1 hp.2.1
    have rq := e6_r hq.1 hq.2.1
    have sp := S6_e (c := c) hp.1 hp.2.1
    have sq' := S6_e (c := c) hq.1 hq.2.1
    rw [hp.2.2] at sp
    rw [hq.2.2] at sq'
    have := h (e6 p) (e6 q) sp sq' (fun k => S6 c 1 k ∧ Q (pd k)) ⟨sp, by rw [rp.2.1]; exact hQ⟩ (fun a d d0 d1 ⟨ha, qa⟩ hs => ⟨hs, ?_⟩)
    · rw [rq.2.1] at this; exact this.2
    · have ca := cu6 ha
      have r := (st6_r ha.1 ha.2.1 d0 d1).2.2.2.1 ca.1.1
      rw [r.2.2]
      exact hc (pd a) d d0 d1 qa (by rw [← r.2.2]; exact (cu6 hs).1)
  · intro h a b ha hb Q hQ hc
    have ca := cu6 ha
    have cb := cu6 hb
    have := h (pd a) (pd b) ca.1 cb.1 (fun p => cuP c p ∧ Q (e6 p)) ⟨ca.1, by rw [ca.2]; exact hQ⟩ (fun p d d0 d1 ⟨hp, qp⟩ hn => ⟨hn, ?_⟩)
    · rw [cb.2] at this; exact this.2
    · have e := e6_by hp.1 hp.2.1 d0 d1 hn.1
      have sn := S6_e (c := c) hn.1 hn.2.1
      rw [hn.2.2] at sn
      have := hc (e6 p) d d0 d1 qp
      rw [e] at this
      exact this sn
theorem em6 {c : Int → Int} (h01 : ∀ p, c p = 0 ∨ c p = 1) {k : Int} (h : S6 c 0 k) (hp : 0 ≤ pd k) : emP c (pd k) := by
  obtain ⟨k0, k1, v⟩ := h
  have r := pd_r k0 k1
  unfold vl at v
  rw [if_pos hp] at v
  exact ⟨hp, r.2, by omega⟩
theorem sh6 {c : Int → Int} {k : Int} (k0 : 0 ≤ k) (k1 : k < 216) (h : pd k < 0) : S6 c 0 k := ⟨k0, k1, by unfold vl; rw [if_neg (by omega)]⟩
theorem shell (c : Int → Int) : ∀ (n : Nat) (k : Int), rk6 k ≤ n → 0 ≤ k → k < 216 → pd k < 0 → R6 (S6 c 0) 0 k
  | 0, k, hn, k0, k1, _ => by
    have : k = 0 := by unfold rk6 at hn; omega
    rw [this]; exact R6.refl _ _
  | n + 1, k, hn, k0, k1, hp => by
    by_cases q : k = 0
    · rw [q]; exact R6.refl _ _
    · obtain ⟨d, a, b, e⟩ := rim_r k0 k1 hp q
      have r := st6_r k0 k1 d.1 d.2
      have x := x1_r d.1 d.2
      have := (shell c n _ (by omega) a r.2.1 b).step x.1.1 x.1.2 (by rw [r.2.2.1 a]; exact sh6 k0 k1 hp)
      rw [r.2.2.1 a] at this
      exact this
/-- what is no cube -/
theorem W4_iff {c : Int → Int} (h01 : ∀ p, c p = 0 ∨ c p = 1) : CN6 (S6 c 0) ↔ W4 c := by
  have z0 : pd 0 = -1 := by decide +kernel
  have s0 : S6 c 0 0 := sh6 (by omega) (by omega) (by omega)
  constructor
  · intro h p hp
    obtain ⟨a, b, -⟩ := e6_r hp.1 hp.2.1
    have sp := S6_e (c := c) hp.1 hp.2.1
    rw [show c p = 0 by have := h01 p; have := hp.2.2; omega] at sp
    have := h 0 (e6 p) s0 sp (fun k => S6 c 0 k ∧ (pd k < 0 ∨ ∃ s, emP c s ∧ rimP s ∧ RCH (emP c) s (pd k))) ⟨s0, Or.inl (by omega)⟩ (fun k d d0 d1 ⟨hk, qk⟩ hs => ⟨hs, ?_⟩)
    · rw [b] at this
      rcases this.2 with g | g
      · omega
      · exact g
    · have r := st6_r hk.1 hk.2.1 d0 d1
      by_cases g : pd (st6 k d) < 0
      · exact Or.inl g
      · refine Or.inr ?_
        have en := em6 h01 hs (by omega)
        rcases qk with q | ⟨s, s1, s2, s3⟩
        · exact ⟨_, en, r.2.2.2.2 q hs.1 (by omega), RCH.refl _ _⟩
        · by_cases q : pd k < 0
          · exact ⟨_, en, r.2.2.2.2 q hs.1 (by omega), RCH.refl _ _⟩
          · have e := (r.2.2.2.1 (by omega)).2.2
            refine ⟨s, s1, s2, ?_⟩
            rw [e] at en ⊢
            exact s3.step d0 d1 en
  · intro h
    have all : ∀ k, S6 c 0 k → R6 (S6 c 0) 0 k := fun k hk => by
      by_cases g : pd k < 0
      · exact shell c (rk6 k).toNat k (by omega) hk.1 hk.2.1 g
      · have en := em6 h01 hk (by omega)
        have ek := ((st6_r hk.1 hk.2.1 (d := 0) (by omega) (by omega)).2.2.2.1 (by omega)).1
        obtain ⟨s, s1, s2, s3⟩ := h _ en
        obtain ⟨a, b, f⟩ := e6_r s1.1 s1.2.1
        obtain ⟨d, d0, d1, f1, f2⟩ := f s2
        have r := st6_r a.1 a.2 d0 d1
        have x := x1_r d0 d1
        have ss := S6_e (c := c) s1.1 s1.2.1
        rw [show c s = 0 by have := h01 s; have := s1.2.2; omega] at ss
        have t1 := (shell c (rk6 (st6 (e6 s) d)).toNat _ (by omega) f1 r.2.1 f2).step x.1.1 x.1.2 (by rw [r.2.2.1 f1]; exact ss)
        rw [r.2.2.1 f1] at t1
        refine t1.trans ?_
        intro Q hQ hc
        have := s3 (fun p => emP c p ∧ Q (e6 p)) ⟨s1, hQ⟩ (fun p d d0 d1 ⟨hp, qp⟩ hn => ⟨hn, ?_⟩)
        · rw [ek] at this; exact this.2
        · have e := e6_by hp.1 hp.2.1 d0 d1 hn.1
          have sn := S6_e (c := c) hn.1 hn.2.1
          rw [show c (bynd p d) = 0 by have := h01 (bynd p d); have := hn.2.2; omega] at sn
          have := hc (e6 p) d d0 d1 qp
          rw [e] at this
          exact this sn
    intro p q hp hq
    exact ((all p hp).sym (S6_r c 0) s0).trans (all q hq)
/-! the search of the reference -/
section C9k
variable {m : tM} {c : Int → Int}
theorem c_padded {k : Int} {K : Int → tM → Prop} (hc : CE m c) (k0 : 0 ≤ k) (k1 : k < 216) (h : K (vl c (pd k)) m) : Cli mX12_padded [rV 145, iV k] m K :=
  wX12_padded_0 ⟨⟨k0, by constructor <;> omega, by omega, by constructor <;> omega, by constructor <;> omega⟩, c_cubeAt hc ⟨_, rfl, h⟩⟩
theorem c_step6 {k d : Int} {K : Int → tM → Prop} (k0 : 0 ≤ k) (k1 : k < 216) (d0 : 0 ≤ d) (h : K (st6 k d) m) : Cli mX12_step [iV k, iV d] m K := by
  have b0 := alO_b d 0
  have b1 := alO_b d 1
  have b2 := alO_b d 2
  have no : ¬ ((0 ≤ k % 6 + alO d 0 ∧ k % 6 + alO d 0 ≤ 5) ∧ (0 ≤ k / 6 % 6 + alO d 1 ∧ k / 6 % 6 + alO d 1 ≤ 5) ∧ (0 ≤ k / 36 + alO d 2 ∧ k / 36 + alO d 2 ≤ 5)) → K (-1) m := fun q => by
    have e : st6 k d = -1 := if_neg q
    rw [e] at h; exact h
  refine wX12_step_0 ⟨k0, c_alongOf d0 ⟨⟨by constructor <;> omega, by omega⟩, c_alongOf d0 ⟨by constructor <;> omega, c_alongOf d0 ⟨by constructor <;> omega, c_in ⟨fun g => ⟨_, rfl, no (fun q => if10 g q.1)⟩, fun g => c_in ⟨fun g2 => ⟨_, rfl, no (fun q => if10 g2 q.2.1)⟩, fun g2 => c_in ⟨fun g3 => ⟨_, rfl, no (fun q => if10 g3 q.2.2)⟩, fun g3 => ?_⟩⟩⟩⟩⟩⟩⟩
  have p1 := if11 g
  have p2 := if11 g2
  have p3 := if11 g3
  refine ⟨⟨by constructor <;> omega, by constructor <;> omega, by constructor <;> omega, by constructor <;> omega⟩, fun v hv => ⟨v, rfl, ?_⟩⟩
  have e : st6 k d = 36 * (k / 36 + alO d 2) + 6 * (k / 6 % 6 + alO d 1) + (k % 6 + alO d 0) := if_pos ⟨p1, p2, p3⟩
  rw [hv, ← e]
  exact h
/-- what is seen so far -/
def HI (c : Int → Int) (w f : Int) (m m' : tM) (n : Int) : Prop := (∀ a, a ≠ 156 → m' a = m a) ∧ (∀ k, 0 ≤ k → k < 216 → m' 156 k = 0 ∨ m' 156 k = 1) ∧ (∀ k, 0 ≤ k → k < 216 → m' 156 k = 1 → S6 c w k ∧ R6 (S6 c w) f k) ∧ m' 156 f = 1 ∧ n = (cn (fun k => decide (m' 156 (k : Int) = 1)) 216 : Int)
theorem HI.add {w f n k : Int} {m' : tM} (h : HI c w f m m' n) (k0 : 0 ≤ k) (k1 : k < 216) (hk : m' 156 k = 0) (hs : S6 c w k) (hr : R6 (S6 c w) f k) : HI c w f m (up m' 156 k 1) (n + 1) := by
  obtain ⟨h1, h2, h3, h4, h5⟩ := h
  have e : (up m' 156 k 1) 156 = ur (m' 156) k 1 := sr_eq _ _ _
  refine ⟨fun a ha => by rw [up_ne _ _ _ ha, h1 a ha], fun j j0 j1 => ?_, fun j j0 j1 hj => ?_, ?_, ?_⟩
  · rw [e]
    by_cases q : j = k
    · rw [q, ur_eq]; exact Or.inr rfl
    · rw [ur_ne _ _ q]; exact h2 j j0 j1
  · by_cases q : j = k
    · rw [q]; exact ⟨hs, hr⟩
    · rw [e, ur_ne _ _ q] at hj
      exact h3 j j0 j1 hj
  · rw [e]
    by_cases q : f = k
    · rw [q, ur_eq]
    · rw [ur_ne _ _ q]; exact h4
  · rw [e, h5]
    have a : cn (fun j => decide (ur (m' 156) k 1 (j : Int) = 1)) 216 = cn (fun j => decide (m' 156 (j : Int) = 1)) 216 + 1 := by
      rw [cn_split (fun j => decide (ur (m' 156) k 1 (j : Int) = 1)) (fun j => decide (j = k.toNat)) 216]
      have one : cn (fun j => decide (ur (m' 156) k 1 (j : Int) = 1) && decide (j = k.toNat)) 216 = 1 := by
        have le := cn_one (fun j => decide (ur (m' 156) k 1 (j : Int) = 1) && decide (j = k.toNat)) 216 (fun i j _ _ hi hj => by
          simp at hi hj
          omega)
        have ge := cn_lt (fun _ => false) (fun j => decide (ur (m' 156) k 1 (j : Int) = 1) && decide (j = k.toNat)) 216 (fun _ _ g => absurd g (by decide)) ⟨k.toNat, by omega, by
          rw [ix_cast k0, ur_eq]; simp, rfl⟩
        omega
      rw [one]
      have rest : cn (fun j => decide (ur (m' 156) k 1 (j : Int) = 1) && !decide (j = k.toNat)) 216 = cn (fun j => decide (m' 156 (j : Int) = 1)) 216 := by
        have le := cn_le (fun j => decide (ur (m' 156) k 1 (j : Int) = 1) && !decide (j = k.toNat)) (fun j => decide (m' 156 (j : Int) = 1)) 216 (fun j hj g => by
          rw [Bool.and_eq_true] at g
          have q : ¬ j = k.toNat := by simpa using g.2
          have g1 := of_decide_eq_true g.1
          rw [ur_ne _ _ (by omega)] at g1
          exact decide_eq_true g1)
        have ge := cn_le (fun j => decide (m' 156 (j : Int) = 1)) (fun j => decide (ur (m' 156) k 1 (j : Int) = 1) && !decide (j = k.toNat)) 216 (fun j hj g => by
          have g1 := of_decide_eq_true g
          have q : ¬ j = k.toNat := fun e => by rw [e, ix_cast k0, hk] at g1; omega
          rw [Bool.and_eq_true]
          refine ⟨decide_eq_true ?_, by simpa using q⟩
          rw [ur_ne _ _ (by omega)]; exact g1)
        omega
      omega
    omega
end C9k
