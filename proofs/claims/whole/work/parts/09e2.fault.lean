/-! what is wrong with a body: the number of the class -/
def lsC (k : Int) : Int := ((16 * (k / 9)) + (4 * ((k / 3) % 3))) + (k % 3)
def MSK (j k : Int) : Int64 := bLshl (stL j) (lsC k)
/-- the outer places -/
abbrev rimP (p : Int) : Prop := p % 4 = 0 ∨ p % 4 = 3 ∨ p / 4 % 4 = 0 ∨ p / 4 % 4 = 3 ∨ p / 16 = 0 ∨ p / 16 = 3
abbrev cuP (c : Int → Int) (p : Int) : Prop := 0 ≤ p ∧ p < 64 ∧ c p = 1
abbrev emP (c : Int → Int) (p : Int) : Prop := 0 ≤ p ∧ p < 64 ∧ c p ≠ 1
def W1 (c : Int → Int) : Prop := ∀ p, ¬ cuP c p
def W2 (c : Int → Int) : Prop := CN (cuP c)
def W3 (c : Int → Int) : Prop := ∀ k j, 0 ≤ k → k < 27 → 0 ≤ j → j < 7 → CN (fun p => cuP c p ∧ bt (MSK j k) p)
def W4 (c : Int → Int) : Prop := ∀ p, emP c p → ∃ s, emP c s ∧ rimP s ∧ RCH (emP c) s p
def FLT (c : Int → Int) (w : Int) : Prop := (W1 c → w = 1) ∧ (¬ W1 c → ¬ W2 c → w = 2) ∧ (¬ W1 c → W2 c → ¬ W3 c → w = 3) ∧ (¬ W1 c → W2 c → W3 c → ¬ W4 c → w = 4) ∧ (¬ W1 c → W2 c → W3 c → W4 c → w = 0)
theorem FLT.uniq {c : Int → Int} {w w' : Int} (h : FLT c w) (g : FLT c w') : w = w' := by
  obtain ⟨h1, h2, h3, h4, h5⟩ := h
  obtain ⟨g1, g2, g3, g4, g5⟩ := g
  by_cases a : W1 c
  · rw [h1 a, g1 a]
  · by_cases b : W2 c
    · by_cases d : W3 c
      · by_cases e : W4 c
        · rw [h5 a b d e, g5 a b d e]
        · rw [h4 a b d e, g4 a b d e]
      · rw [h3 a b d, g3 a b d]
    · rw [h2 a b, g2 a b]
theorem LB.btI {x : Int64} {c : Int → Int} (h : LB x c) (p : Int) : bt x p ↔ cuP c p := by
  show (0 ≤ p ∧ p < 64 ∧ lb x p.toNat = true) ↔ _
  constructor
  · rintro ⟨p0, p1, g⟩
    rw [h p.toNat (by omega), ix_cast p0] at g
    exact ⟨p0, p1, of_decide_eq_true g⟩
  · rintro ⟨p0, p1, g⟩
    rw [h p.toNat (by omega), ix_cast p0]
    exact ⟨p0, p1, decide_eq_true g⟩
theorem LB.nbt {x : Int64} {c : Int → Int} (h : LB x c) (p : Int) : bt (x ^^^ (-1)) p ↔ emP c p := by
  constructor
  · rintro ⟨p0, p1, g⟩
    rw [lb_not x (show p.toNat < 64 by omega), h p.toNat (by omega), ix_cast p0] at g
    refine ⟨p0, p1, fun e => ?_⟩
    rw [decide_eq_true e] at g
    exact absurd g (by decide)
  · rintro ⟨p0, p1, g⟩
    refine ⟨p0, p1, ?_⟩
    rw [lb_not x (show p.toNat < 64 by omega), h p.toNat (by omega), ix_cast p0, decide_eq_false g]
    rfl
theorem rim_bt (p : Int) : bt (-7009493581825) p ↔ 0 ≤ p ∧ p < 64 ∧ rimP p := by
  have e : ∀ k : Fin 64, lb (-7009493581825) k.val = decide (rimP (k.val : Int)) := by decide +kernel
  constructor
  · rintro ⟨p0, p1, g⟩
    have := e ⟨p.toNat, by omega⟩
    simp only [ix_cast p0] at this
    rw [g] at this
    exact ⟨p0, p1, of_decide_eq_true this.symm⟩
  · rintro ⟨p0, p1, g⟩
    have := e ⟨p.toNat, by omega⟩
    simp only [ix_cast p0] at this
    exact ⟨p0, p1, this.trans (decide_eq_true g)⟩
section C9e3
variable {m : tM}
theorem c_meets {x : Int64} {c : Int → Int} {K : Int → tM → Prop} (hx : LB x c) (h1 : W3 c → K 1 m) (h0 : ¬ W3 c → K 0 m) : Cli mX1_meetsBySquares [lV x] m K := by
  refine Tj.cut (lv' := [some (lV x)]) (wX1_meetsBySquares_0 ?_) ⟨rfl, trivial⟩
  have hb : ∀ k j p, bt (x &&& MSK j k) p ↔ (cuP c p ∧ bt (MSK j k) p) := fun k j p => by rw [bt_and, hx.btI]
  have key := up_ind (n := 27) (fun k => (∀ k' j, 0 ≤ k' → k' < k → 0 ≤ j → j < 7 → CN (fun p => cuP c p ∧ bt (MSK j k') p)) → Tj mX1_meetsBySquares 2 [some (lV x), none, some (iV k)] [] m (fun r m' => ∃ n, r = some (iV n) ∧ K n m')) ?_ ?_ (i := 0) (by omega) (by omega)
  · exact key (fun k' j a b => by omega)
  · intro hk
    exact wX1_meetsBySquares_2 ⟨fun c => by omega, fun _ => ⟨_, rfl, h1 (fun k j k0 k1 j0 j1 => hk k j k0 k1 j0 j1)⟩⟩
  · intro k k0 k1 ih hk
    refine wX1_meetsBySquares_2 ⟨fun _ => ⟨⟨k0, by constructor <;> omega, by omega, by constructor <;> omega, by constructor <;> omega, by constructor <;> omega⟩, ?_⟩, fun c => absurd k1 c⟩
    have key2 := up_ind (n := 7) (fun j => (∀ j', 0 ≤ j' → j' < j → CN (fun p => cuP c p ∧ bt (MSK j' k) p)) → Tj mX1_meetsBySquares 41 [some (lV x), none, some (iV k), some (iV (lsC k)), some (rV 1000), some (iV 7), some (iV j)] [] m (fun r m' => ∃ n, r = some (iV n) ∧ K n m')) ?_ ?_ (i := 0) (by omega) (by omega)
    · exact key2 (fun j' a b => by omega)
    · intro hj
      refine wX1_meetsBySquares_41 ⟨fun c => by omega, fun _ => ⟨by constructor <;> omega, ih (fun k' j a b j0 j1 => ?_)⟩⟩
      by_cases q : k' = k
      · subst q; exact hj j j0 j1
      · exact hk k' j a (by omega) j0 j1
    · intro j j0 j1 ih2 hj
      refine wX1_meetsBySquares_41 ⟨fun _ => ⟨⟨j0, j1⟩, c_hangs (fun g => ⟨fun c => by omega, fun _ => ⟨by constructor <;> omega, ih2 (fun j' a b => ?_)⟩⟩) (fun g => ⟨fun _ => ⟨_, rfl, h0 (fun w => g ((CN.congr (hb k j)).2 (w k j k0 k1 j0 j1)))⟩, fun c => absurd rfl c⟩)⟩, fun c => absurd j1 c⟩
      by_cases q : j' = j
      · subst q; exact (CN.congr (hb k j')).1 g
      · exact hj j' a (by omega)
theorem c_faultOf {x : Int64} {c : Int → Int} {K : Int → tM → Prop} (hx : LB x c) (h : ∀ w, FLT c w → K w m) : Cli mX1_faultOf [lV x] m K := by
  have w1 : lcI x 0 = 0 ↔ W1 c := by
    rw [lcI_0]
    constructor
    · intro e p hp
      subst e
      have := (hx.btI p).2 hp
      exact absurd ((lb_0 _).symm.trans this.2.2) (by decide)
    · intro e
      refine lb_ext (fun n hn => ?_)
      rw [lb_0, hx n hn]
      exact decide_eq_false (fun g => e n ⟨by omega, by omega, g⟩)
  have w2 : CN (bt x) ↔ W2 c := CN.congr hx.btI
  refine Tj.cut (lv' := [some (lV x)]) (wX1_faultOf_0 ⟨fun g => ⟨_, rfl, h 1 ?_⟩, fun g => ?_⟩) ⟨rfl, trivial⟩
  · have a := w1.1 g
    exact ⟨fun _ => rfl, fun b => absurd a b, fun b => absurd a b, fun b => absurd a b, fun b => absurd a b⟩
  · have a : ¬ W1 c := fun b => g (w1.2 b)
    refine c_hangs (fun g2 => ⟨fun z => by omega, fun _ => ?_⟩) (fun g2 => ⟨fun _ => ⟨_, rfl, h 2 ?_⟩, fun z => absurd rfl z⟩)
    · have b := w2.1 g2
      refine c_meets hx (fun d => ⟨fun z => by omega, fun _ => ?_⟩) (fun d => ⟨fun _ => ⟨_, rfl, h 3 ⟨fun e => absurd e a, fun _ e => absurd b e, fun _ _ _ => rfl, fun _ _ e => absurd e d, fun _ _ e => absurd e d⟩⟩, fun z => absurd rfl z⟩)
      refine c_flood (fun r hr v hv => ⟨v, rfl, h v ?_⟩)
      obtain ⟨r1, r2, r3, r4⟩ := hr
      have w4 : lcI r (x ^^^ (-1)) = 0 ↔ W4 c := by
        rw [lcI_0]
        constructor
        · intro e p hp
          obtain ⟨s, s1, s2, s3⟩ := r4 p (by rw [e]; exact (hx.nbt p).2 hp)
          exact ⟨s, (hx.nbt s).1 s2, ((rim_bt s).1 ((bt_and _ _ s).1 s1).2).2.2, (RCH.congr hx.nbt).1 s3⟩
        · intro e
          refine bt_ext (fun p => ⟨r1 p, fun hp => ?_⟩)
          obtain ⟨s, s1, s2, s3⟩ := e p ((hx.nbt p).1 hp)
          have s1' := (hx.nbt s).2 s1
          exact (RCH.congr hx.nbt).2 s3 (bt r) (r2 s ((bt_and _ _ s).2 ⟨s1', (rim_bt s).2 ⟨s1.1, s1.2.1, s2⟩⟩) s1') (fun a d d0 d1 ha hd => r3 a d d0 d1 ha hd)
      by_cases e : W4 c
      · rw [if_pos (w4.2 e)] at hv
        exact ⟨fun z => absurd z a, fun _ z => absurd b z, fun _ _ z => absurd d z, fun _ _ _ z => absurd e z, fun _ _ _ _ => hv⟩
      · rw [if_neg (fun z => e (w4.1 z))] at hv
        exact ⟨fun z => absurd z a, fun _ z => absurd b z, fun _ _ z => absurd d z, fun _ _ _ _ => hv, fun _ _ _ z => absurd z e⟩
    · have b : ¬ W2 c := fun z => g2 (w2.2 z)
      exact ⟨fun z => absurd z a, fun _ _ => rfl, fun _ z => absurd z b, fun _ z => absurd z b, fun _ z => absurd z b⟩
end C9e3
