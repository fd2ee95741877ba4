/-! the hull: the numbers of the squares, what they lead to -/
def NS (c : Int → Int) (n : Nat) (P D N : Int → Int) : Prop := ∀ k : Nat, k < n → outr c ((k : Int) / 6) ((k : Int) % 6) → P (oN c k) = (k : Int) / 6 ∧ D (oN c k) = (k : Int) % 6 ∧ N k = oN c k
def NQ (c : Int → Int) (m : tM) (n : Nat) (m' : tM) : Prop := (∀ a, a ≠ 109 → a ≠ 110 → a ≠ 111 → a ≠ 112 → m' a = m a) ∧ (∀ j, j ≠ 6 → m' 109 j = m 109 j) ∧ m' 109 6 = oN c n ∧ NS c n (m' 110) (m' 111) (m' 112)
theorem NQ.skip {c : Int → Int} {m m' : tM} {n : Nat} (h : NQ c m n m') (ho : ¬ outr c ((n : Int) / 6) ((n : Int) % 6)) : NQ c m (n + 1) m' := by
  obtain ⟨h1, h2, h3, h4⟩ := h
  refine ⟨h1, h2, by rw [oN, if_neg ho, h3]; omega, fun k hk g => ?_⟩
  by_cases q : k = n
  · subst q; exact absurd g ho
  · exact h4 k (by omega) g
theorem NQ.add {c : Int → Int} {m m' : tM} {n : Nat} {p d : Int} (h : NQ c m n m') (hp : p = (n : Int) / 6) (hd : d = (n : Int) % 6) (ho : outr c ((n : Int) / 6) ((n : Int) % 6)) : NQ c m (n + 1) (up (up (up (up m' 112 (n : Int) (m' 109 6)) 110 (m' 109 6) p) 111 (m' 109 6) d) 109 6 (m' 109 6 + 1)) := by
  obtain ⟨h1, h2, h3, h4⟩ := h
  rw [h3]
  have e110 : (up (up (up (up m' 112 (n : Int) (oN c n)) 110 (oN c n) p) 111 (oN c n) d) 109 6 (oN c n + 1)) 110 = ur (m' 110) (oN c n) p := by
    rw [up_ne _ _ _ (by omega), up_ne _ _ _ (by omega)]
    show sr _ _ _ _ = _
    rw [sr_eq, up_ne _ _ _ (by omega)]
  have e111 : (up (up (up (up m' 112 (n : Int) (oN c n)) 110 (oN c n) p) 111 (oN c n) d) 109 6 (oN c n + 1)) 111 = ur (m' 111) (oN c n) d := by
    rw [up_ne _ _ _ (by omega)]
    show sr _ _ _ _ = _
    rw [sr_eq, up_ne _ _ _ (by omega), up_ne _ _ _ (by omega)]
  have e112 : (up (up (up (up m' 112 (n : Int) (oN c n)) 110 (oN c n) p) 111 (oN c n) d) 109 6 (oN c n + 1)) 112 = ur (m' 112) n (oN c n) := by
    rw [up_ne _ _ _ (by omega), up_ne _ _ _ (by omega), up_ne _ _ _ (by omega)]
    show sr _ _ _ _ = _
    rw [sr_eq]
  refine ⟨fun a a1 a2 a3 a4 => ?_, fun j hj => ?_, ?_, ?_⟩
  · rw [up_ne _ _ _ a1, up_ne _ _ _ a3, up_ne _ _ _ a2, up_ne _ _ _ a4, h1 a a1 a2 a3 a4]
  · rw [up_at_ne _ _ _ hj, up_ne _ _ _ (by omega), up_ne _ _ _ (by omega), up_ne _ _ _ (by omega), h2 j hj]
  · rw [up_at, oN, if_pos ho]
  · rw [e110, e111, e112]
    intro k hk g
    by_cases q : k = n
    · subst q
      rw [ur_eq, ur_eq, ur_eq]
      exact ⟨hp, hd, rfl⟩
    · have := oN_lt c (show k < n by omega) g
      rw [ur_ne _ _ (by omega), ur_ne _ _ (by omega), ur_ne _ _ (by omega)]
      exact h4 k (by omega) g
section C9f
variable {m : tM}
theorem c_numberSquares {c : Int → Int} {K : tM → Prop} (hx : LB (Int64.ofInt (m 109 5)) c) (h : ∀ m', NQ c m 384 m' → K m') : Clv mX9_numberSquares [rV 109] m K := by
  refine wX9_numberSquares_0 ?_
  have key := up_ind (n := 64) (fun p => ∀ m', NQ c m (6 * p).toNat m' → Tj mX9_numberSquares 7 [some (rV 109), some (iV p)] [] m' (fun r m' => r = none ∧ K m')) ?_ ?_ (i := 0) (by omega) (by omega)
  · refine key _ ⟨fun a a1 _ _ _ => up_ne _ _ _ a1, fun j hj => up_at_ne _ _ _ hj, ?_, fun k hk => ?_⟩
    · rw [up_at]; rfl
    · exact absurd hk (by omega)
  · intro m' hm
    exact wX9_numberSquares_7 ⟨fun c => by omega, fun _ => ⟨rfl, h m' hm⟩⟩
  · intro p p0 p1 ih m' hm
    refine wX9_numberSquares_7 ⟨fun _ => ?_, fun c => absurd p1 c⟩
    have key2 := up_ind (n := 6) (fun d => ∀ m', NQ c m (6 * p + d).toNat m' → Tj mX9_numberSquares 15 [some (rV 109), some (iV p), some (iV d)] [] m' (fun r m' => r = none ∧ K m')) ?_ ?_ (i := 0) (by omega) (by omega)
    · exact key2 m' (by rw [show (6 * p + 0).toNat = (6 * p).toNat by omega]; exact hm)
    · intro m1 h1
      exact wX9_numberSquares_15 ⟨fun c => by omega, fun _ => ⟨by constructor <;> omega, ih m1 (by rw [show (6 * (p + 1)).toNat = (6 * p + 6).toNat by omega]; exact h1)⟩⟩
    · intro d d0 d1 ih2 m1 h1
      have hx1 : LB (Int64.ofInt (m1 109 5)) c := by rw [h1.2.1 5 (by omega)]; exact hx
      have en : (6 * p + (d + 1)).toNat = (6 * p + d).toNat + 1 := by omega
      have ep : p = (((6 * p + d).toNat : Nat) : Int) / 6 := by omega
      have ed : d = (((6 * p + d).toNat : Nat) : Int) % 6 := by omega
      have br := by_r p0 p1 d0 d1
      refine wX9_numberSquares_15 ⟨fun _ => c_has hx1 p1 ⟨fun g => ⟨by constructor <;> omega, ih2 m1 ?_⟩, fun g => ?_⟩, fun c => absurd d1 c⟩
      · rw [en]
        refine h1.skip ?_
        rw [← ep, ← ed]
        intro o
        rw [if_pos o.1] at g
        omega
      · have hp : isC c p := by
          by_cases q : isC c p
          · exact q
          · rw [if_neg q] at g; exact absurd rfl g
        refine c_beyond p1 d0 d1 (c_has hx1 br.2.1 (fun v hv => ⟨fun g2 => ⟨by constructor <;> omega, ih2 m1 ?_⟩, fun g2 => ?_⟩))
        · rw [en]
          refine h1.skip ?_
          rw [← ep, ← ed]
          intro o
          rw [hv, if_neg o.2, if_pos rfl] at g2
          omega
        · have ho : outr c p d := by
            refine ⟨hp, fun q => ?_⟩
            rw [hv, if_pos q, if_neg (by omega)] at g2
            exact absurd rfl g2
          have o240 := oN_240 c
          have ob := oN_384 c p0 p1 d0 d1 ho
          have e6 : m1 109 6 = oN c (sq p d) := h1.2.2.1
          refine ⟨fun g3 => ⟨⟨by constructor <;> omega, by constructor <;> omega, by omega, by omega, by omega, by omega, by constructor <;> omega, by constructor <;> omega⟩, ih2 _ ?_⟩, fun g3 => absurd (by omega) g3⟩
          have := h1.add ep ed (by rw [← ep, ← ed]; exact ho)
          rw [ix_cast (show 0 ≤ 6 * p + d by omega)] at this
          rw [en]
          exact this
theorem c_note {q s b p d l : Int} {K : tM → Prop} (q0 : 0 ≤ q) (q1 : q < 240) (s0 : 0 ≤ s) (s1 : s < 4) (p0 : 0 ≤ p) (p1 : p < 64) (d0 : 0 ≤ d) (d1 : d < 6) (hn : 0 ≤ m 112 (6 * p + d) ∧ m 112 (6 * p + d) < 384) (hl : 0 ≤ sL d l ∧ sL d l < 4) (h : K (up (up m 113 (4 * q + s) (4 * m 112 (6 * p + d) + sL d l)) 114 (4 * q + s) b)) : Clv mX9_note [rV 109, iV q, iV s, iV b, iV p, iV d, iV l] m K :=
  wX9_note_0 ⟨⟨by constructor <;> omega, by constructor <;> omega, by omega, by omega, by constructor <;> omega, by constructor <;> omega, by constructor <;> omega⟩, c_sideLooking d0 d1 ⟨⟨by constructor <;> omega, by omega, by omega⟩, rfl, h⟩⟩
theorem c_lead {c : Int → Int} {p d s q : Int} {K : tM → Prop} (hx : LB (Int64.ofInt (m 109 5)) c) (hn : NS c 384 (m 110) (m 111) (m 112)) (p0 : 0 ≤ p) (p1 : p < 64) (d0 : 0 ≤ d) (d1 : d < 6) (s0 : 0 ≤ s) (s1 : s < 4) (ho : outr c p d) (hq : q = oN c (sq p d)) (h : K (up (up m 113 (4 * q + s) (4 * oN c (sq (cP c p d s) (cD c p d s)) + cS c p d s)) 114 (4 * q + s) (cB c p d s))) : Clv mX9_lead [rV 109, iV q, iV s] m K := by
  have es := sq_c p0 d0
  have r := hn (sq p d) (by omega) (by rw [sq_p p0 d0 d1, sq_d p0 d0 d1]; exact ho)
  rw [sq_p p0 d0 d1, sq_d p0 d0 d1, ← hq] at r
  have o240 := oN_240 c
  have ob := oN_384 c p0 p1 d0 d1 ho
  have l := LK_r d0 d1 s0 s1
  have n := by_r p0 p1 l.1.1 l.1.2
  have a := aP_r p0 p1 d0 d1 s0 s1
  have cr := cr_r p0 p1 d0 d1 s0 s1 ho
  have ec := sq_c cr.1.1 cr.2.1.1
  have ob2 := oN_384 c cr.1.1 cr.1.2 cr.2.1.1 cr.2.1.2 cr.2.2.2.1
  have r2 := hn (sq (cP c p d s) (cD c p d s)) (by omega) (by rw [sq_p cr.1.1 cr.2.1.1 cr.2.1.2, sq_d cr.1.1 cr.2.1.1 cr.2.1.2]; exact cr.2.2.2.1)
  have rn := r2.2.2
  rw [ec] at rn
  have fin : ∀ {b p' d' l' : Int} (_ : p' = cP c p d s) (_ : d' = cD c p d s) (_ : l' = cL c p d s) (_ : b = cB c p d s), Clv mX9_note [rV 109, iV q, iV s, iV b, iV p', iV d', iV l'] m (fun m5 => (none : Option tV) = none ∧ K m5) := by
    intro b p' d' l' e1 e2 e3 e4
    subst e1; subst e2; subst e3; subst e4
    refine c_note (by omega) (by omega) s0 s1 cr.1.1 cr.1.2 cr.2.1.1 cr.2.1.2 (by omega) cr.2.2.1 ⟨rfl, ?_⟩
    rw [rn]
    exact h
  have xd := x1_r d0 d1
  refine wX9_lead_0 ?_
  rw [r.1, r.2.1]
  refine ⟨⟨by omega, by omega, by constructor <;> omega, by constructor <;> omega, by omega, by omega⟩, c_beyond p1 l.1.1 l.1.2 (c_beyond n.2.1 d0 d1 (c_has hx a.2.1 ⟨fun g => c_has hx n.2.1 ⟨fun g2 => fin ?_ ?_ ?_ ?_, fun g2 => c_against l.1.1 l.1.2 (fin ?_ ?_ ?_ ?_)⟩, fun g => c_against l.1.1 l.1.2 (c_against d0 d1 (fin ?_ ?_ ?_ ?_))⟩))⟩
  all_goals first
    | (have ha : isC c (aP p d s) := by
        by_cases w : isC c (aP p d s)
        · exact w
        · exact absurd (if_neg w) g
       first
        | (unfold cP; rw [if_pos ha]; rfl)
        | (unfold cD; rw [if_pos ha]; rfl)
        | (unfold cL; rw [if_pos ha])
        | (unfold cB; rw [if_pos ha]))
    | (have ha : ¬ isC c (aP p d s) := fun w => by
        have : (1 : Int) = 0 := (if_pos w).symm.trans g
        omega
       have hh : isC c (nP p d s) := by
        by_cases w : isC c (nP p d s)
        · exact w
        · exact absurd (if_neg w) g2
       first
        | (unfold cP; rw [if_neg ha, if_pos hh]; rfl)
        | (unfold cD; rw [if_neg ha, if_pos hh])
        | (unfold cL; rw [if_neg ha, if_pos hh]; rfl)
        | (unfold cB; rw [if_neg ha, if_pos hh]))
    | (have ha : ¬ isC c (aP p d s) := fun w => by
        have : (1 : Int) = 0 := (if_pos w).symm.trans g
        omega
       have hh : ¬ isC c (nP p d s) := fun w => by
        have : (1 : Int) = 0 := (if_pos w).symm.trans g2
        omega
       first
        | (unfold cP; rw [if_neg ha, if_neg hh])
        | (unfold cD; rw [if_neg ha, if_neg hh]; rfl)
        | (unfold cL; rw [if_neg ha, if_neg hh])
        | (unfold cB; rw [if_neg ha, if_neg hh]))
end C9f
/-- the leads of the first sides -/
def LDS (c : Int → Int) (z : Int) (L B : Int → Int) : Prop := ∀ p d s, 0 ≤ p → p < 64 → 0 ≤ d → d < 6 → 0 ≤ s → s < 4 → outr c p d → 4 * oN c (sq p d) + s < z → L (4 * oN c (sq p d) + s) = 4 * oN c (sq (cP c p d s) (cD c p d s)) + cS c p d s ∧ B (4 * oN c (sq p d) + s) = cB c p d s
/-- a body's cubes, and nothing else -/
def N01 (c : Int → Int) : Prop := (∀ p, c p = 0 ∨ c p = 1) ∧ ∀ p, ¬ (0 ≤ p ∧ p < 64) → c p = 0
theorem N01.eq {c c' : Int → Int} (h : N01 c) (h' : N01 c') {x : Int64} (g : LB x c) (g' : LB x c') : c = c' := by
  funext p
  by_cases q : 0 ≤ p ∧ p < 64
  · have a := g p.toNat (by omega)
    have b := g' p.toNat (by omega)
    rw [ix_cast q.1] at a b
    rw [a] at b
    rcases h.1 p with u | u <;> rcases h'.1 p with v | v
    · rw [u, v]
    · rw [u, v] at b; exact absurd b (by decide)
    · rw [u, v] at b; exact absurd b (by decide)
    · rw [u, v]
  · rw [h.2 p q, h'.2 p q]
theorem BR.n01 {l t c : Int → Int} (h : BR l t c) : N01 (nrm c) := by
  refine ⟨fun p => ?_, fun p hp => by unfold nrm; rw [if_neg hp]⟩
  by_cases q : 0 ≤ p ∧ p < 64
  · rw [nrm_in q.1 q.2]
    have := (h.lb (z := p / 16) (by omega) (by omega)).2.2 (p % 16) (by omega) (by omega)
    rw [show 16 * (p / 16) + p % 16 = p by omega] at this
    rw [this]
    omega
  · unfold nrm; rw [if_neg q]; exact Or.inl rfl
theorem BR.nrm {l t c : Int → Int} (h : BR l t c) : BR l t (nrm c) := h.congr (fun _ _ _ => rfl) (fun _ _ _ => rfl) (fun _ z0 z1 => nrm_in z0 z1)
/-- the hull of a body -/
def HU (m : tM) (c : Int → Int) : Prop := N01 c ∧ LB (Int64.ofInt (m 109 5)) c ∧ m 109 6 = oN c 384 ∧ FLT c (m 109 7) ∧ NS c 384 (m 110) (m 111) (m 112) ∧ LDS c (4 * oN c 384) (m 113) (m 114)
theorem HU.congr {m m' : tM} {c : Int → Int} (h : HU m c) (g : ∀ a, 109 ≤ a → a ≤ 114 → m' a = m a) : HU m' c := by
  unfold HU
  rw [g 109 (by omega) (by omega), g 110 (by omega) (by omega), g 111 (by omega) (by omega), g 112 (by omega) (by omega), g 113 (by omega) (by omega), g 114 (by omega) (by omega)]
  exact h
section C9g
variable {m : tM}
/-- the leads of all squares, one by one -/
theorem leads_all {c : Int → Int} {K : tM → Prop} (hx : LB (Int64.ofInt (m 109 5)) c) (h6 : m 109 6 = oN c 384) (hn : NS c 384 (m 110) (m 111) (m 112)) (h : ∀ m', (∀ a, a ≠ 113 → a ≠ 114 → m' a = m a) → LDS c (4 * oN c 384) (m' 113) (m' 114) → K m') : Tj mX9_take 38 [some (rV 109), none, some (iV 0)] [] m (fun r m' => r = none ∧ K m') := by
  have o240 := oN_240 c
  have ob := oN_bound c 384
  have key := up_ind (n := oN c 384) (fun q => ∀ m', (∀ a, a ≠ 113 → a ≠ 114 → m' a = m a) → LDS c (4 * q) (m' 113) (m' 114) → Tj mX9_take 38 [some (rV 109), none, some (iV q)] [] m' (fun r m' => r = none ∧ K m')) ?_ ?_ (i := 0) (by omega) (by omega)
  · refine key m (fun _ _ _ => rfl) (fun p d s p0 p1 d0 d1 s0 s1 ho hz => ?_)
    have := oN_384 c p0 p1 d0 d1 ho
    omega
  · intro m' f l
    refine wX9_take_38 ⟨fun g => ?_, fun _ => ⟨rfl, h m' f l⟩⟩
    rw [f 109 (by omega) (by omega), h6] at g
    omega
  · intro q q0 q1 ih m' f l
    refine wX9_take_38 ⟨fun _ => ?_, fun g => absurd (by rw [f 109 (by omega) (by omega), h6]; exact q1) g⟩
    obtain ⟨k, k1, k2, k3⟩ := oN_ex c 384 q0 q1
    have key2 := up_ind (n := 4) (fun s => ∀ m', (∀ a, a ≠ 113 → a ≠ 114 → m' a = m a) → LDS c (4 * q + s) (m' 113) (m' 114) → Tj mX9_take 48 [some (rV 109), none, some (iV q), some (iV s)] [] m' (fun r m' => r = none ∧ K m')) ?_ ?_ (i := 0) (by omega) (by omega)
    · exact key2 m' f (by rw [show 4 * q + 0 = 4 * q by omega]; exact l)
    · intro m1 f1 l1
      exact wX9_take_48 ⟨fun g => by omega, fun _ => ⟨by constructor <;> omega, ih m1 f1 (by rw [show 4 * (q + 1) = 4 * q + 4 by omega]; exact l1)⟩⟩
    · intro s s0 s1 ih2 m1 f1 l1
      have ek : sq ((k : Int) / 6) ((k : Int) % 6) = k := by unfold sq; omega
      refine wX9_take_48 ⟨fun _ => c_lead (p := (k : Int) / 6) (d := (k : Int) % 6) (by rw [f1 109 (by omega) (by omega)]; exact hx) (by rw [f1 110 (by omega) (by omega), f1 111 (by omega) (by omega), f1 112 (by omega) (by omega)]; exact hn) (by omega) (by omega) (by omega) (by omega) s0 s1 k2 (by rw [ek, k3]) ⟨by constructor <;> omega, ih2 _ (fun a a1 a2 => ?_) ?_⟩, fun g => absurd s1 g⟩
      · rw [up_ne _ _ _ a2, up_ne _ _ _ a1, f1 a a1 a2]
      · intro p d s' p0 p1 d0 d1 s0' s1' ho hz
        have e113 : (up (up m1 113 (4 * q + s) (4 * oN c (sq (cP c ((k : Int) / 6) ((k : Int) % 6) s) (cD c ((k : Int) / 6) ((k : Int) % 6) s)) + cS c ((k : Int) / 6) ((k : Int) % 6) s)) 114 (4 * q + s) (cB c ((k : Int) / 6) ((k : Int) % 6) s)) 113 = ur (m1 113) (4 * q + s) (4 * oN c (sq (cP c ((k : Int) / 6) ((k : Int) % 6) s) (cD c ((k : Int) / 6) ((k : Int) % 6) s)) + cS c ((k : Int) / 6) ((k : Int) % 6) s) := by
          rw [up_ne _ _ _ (by omega)]
          exact sr_eq _ _ _
        have e114 : (up (up m1 113 (4 * q + s) (4 * oN c (sq (cP c ((k : Int) / 6) ((k : Int) % 6) s) (cD c ((k : Int) / 6) ((k : Int) % 6) s)) + cS c ((k : Int) / 6) ((k : Int) % 6) s)) 114 (4 * q + s) (cB c ((k : Int) / 6) ((k : Int) % 6) s)) 114 = ur (m1 114) (4 * q + s) (cB c ((k : Int) / 6) ((k : Int) % 6) s) := by
          show sr _ _ _ _ = _
          rw [sr_eq, up_ne _ _ _ (by omega)]
        rw [e113, e114]
        by_cases w : 4 * oN c (sq p d) + s' = 4 * q + s
        · have w1 : s' = s := by omega
          have w2 : oN c (sq p d) = oN c k := by omega
          have w3 := oN_inj c (by rw [sq_p p0 d0 d1, sq_d p0 d0 d1]; exact ho) k2 w2
          have w4 := sq_c p0 d0
          rw [w3] at w4
          rw [w, ur_eq, ur_eq, w1, show (k : Int) / 6 = p by omega, show (k : Int) % 6 = d by omega]
          exact ⟨rfl, rfl⟩
        · rw [ur_ne _ _ w, ur_ne _ _ w]
          exact l1 p d s' p0 p1 d0 d1 s0' s1' ho (by omega)
/-- the hull is worked out anew -/
theorem c_takeSkin {t c0 c : Int → Int} {K : tM → Prop} (h0 : HU m c0) (hc : N01 c) (hb : BR (m 3) t c) (h : ∀ m', (∀ a, a < 109 ∨ 114 < a → m' a = m a) → HU m' c → K m') : Clv mX9_take [rV 109, rV 2] m K := by
  refine wX9_take_0 (c_cells hb (fun x hx => ⟨fun g => ⟨rfl, h m (fun _ _ => rfl) ?_⟩, fun g => c_cells hb (fun y hy => ?_)⟩))
  · have e := (lcI_0 _ _).1 g
    rw [e] at hx
    rw [hc.eq h0.1 hx h0.2.1]
    exact h0
  · rw [Int64.ofInt_toInt]
    refine c_faultOf hy (fun w hw => c_numberSquares (c := c) ?_ (fun m4 q => ?_))
    · rw [up_at_ne _ _ _ (by omega), up_at, Int64.ofInt_toInt]
      exact hy
    · obtain ⟨q1, q2, q3, q4⟩ := q
      have e5 : Int64.ofInt (m4 109 5) = y := by rw [q2 5 (by omega), up_at_ne _ _ _ (by omega), up_at, Int64.ofInt_toInt]
      refine leads_all (c := c) (by rw [e5]; exact hy) q3 q4 (fun m5 f l => h m5 (fun a ha => ?_) ⟨hc, ?_, ?_, ?_, ?_, l⟩)
      · rw [f a (by omega) (by omega), q1 a (by omega) (by omega) (by omega) (by omega), up_ne _ _ _ (by omega), up_ne _ _ _ (by omega)]
      · rw [f 109 (by omega) (by omega), e5]; exact hy
      · rw [f 109 (by omega) (by omega)]; exact q3
      · rw [f 109 (by omega) (by omega), q2 7 (by omega), up_at]; exact hw
      · rw [f 110 (by omega) (by omega), f 111 (by omega) (by omega), f 112 (by omega) (by omega)]; exact q4
end C9g
