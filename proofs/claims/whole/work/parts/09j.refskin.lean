/-! the skin in the reference -/
def alO (d a : Int) : Int := if d / 2 = a then (if d % 2 = 0 then 1 else (-1)) else 0
def plc (x y z : Int) : Int := if (0 ≤ x ∧ x ≤ 3) ∧ (0 ≤ y ∧ y ≤ 3) ∧ (0 ≤ z ∧ z ≤ 3) then ((16 * z) + (4 * y)) + x else -1
def co (p a : Int) : Int := if a = 0 then p % 4 else if a = 1 then p / 4 % 4 else p / 16
theorem alO_b (d a : Int) : -1 ≤ alO d a ∧ alO d a ≤ 1 := by unfold alO; split; split <;> omega; omega
theorem pl1_f : ∀ p : Fin 64, ∀ d : Fin 6, plc ((p.val : Int) % 4 + alO d.val 0) ((p.val : Int) / 4 % 4 + alO d.val 1) ((p.val : Int) / 16 + alO d.val 2) = bynd p.val d.val ∧ (0 ≤ bynd p.val d.val → (p.val : Int) + alO d.val 0 + 4 * alO d.val 1 + 16 * alO d.val 2 = bynd p.val d.val ∧ co (bynd p.val d.val) 0 = co p.val 0 + alO d.val 0 ∧ co (bynd p.val d.val) 1 = co p.val 1 + alO d.val 1 ∧ co (bynd p.val d.val) 2 = co p.val 2 + alO d.val 2) := by decide +kernel
theorem pl2_f : ∀ p : Fin 64, ∀ d : Fin 6, ∀ t : Fin 6, (t.val : Int) / 2 ≠ (d.val : Int) / 2 → plc ((p.val : Int) % 4 + alO t.val 0 + alO d.val 0) ((p.val : Int) / 4 % 4 + alO t.val 1 + alO d.val 1) ((p.val : Int) / 16 + alO t.val 2 + alO d.val 2) = bynd (bynd p.val t.val) d.val := by decide +kernel
theorem pl1_r {p d : Int} (p0 : 0 ≤ p) (p1 : p < 64) (d0 : 0 ≤ d) (d1 : d < 6) : plc (p % 4 + alO d 0) (p / 4 % 4 + alO d 1) (p / 16 + alO d 2) = bynd p d ∧ (0 ≤ bynd p d → p + alO d 0 + 4 * alO d 1 + 16 * alO d 2 = bynd p d ∧ co (bynd p d) 0 = co p 0 + alO d 0 ∧ co (bynd p d) 1 = co p 1 + alO d 1 ∧ co (bynd p d) 2 = co p 2 + alO d 2) := by
  have := pl1_f ⟨p.toNat, by omega⟩ ⟨d.toNat, by omega⟩
  simp only [ix_cast p0, ix_cast d0] at this
  exact this
theorem pl2_r {p d t : Int} (p0 : 0 ≤ p) (p1 : p < 64) (d0 : 0 ≤ d) (d1 : d < 6) (t0 : 0 ≤ t) (t1 : t < 6) (h : t / 2 ≠ d / 2) : plc (p % 4 + alO t 0 + alO d 0) (p / 4 % 4 + alO t 1 + alO d 1) (p / 16 + alO t 2 + alO d 2) = bynd (bynd p t) d := by
  have := pl2_f ⟨p.toNat, by omega⟩ ⟨d.toNat, by omega⟩ ⟨t.toNat, by omega⟩
  simp only [ix_cast p0, ix_cast d0, ix_cast t0] at this
  exact this h
theorem up_self (m : tM) (a : Nat) (i : Int) : up m a i (m a i) = m := by
  show sr m a (ur (m a) i (m a i)) = m
  rw [ur_self, sr_self]
/-- the reference's cubes -/
abbrev CE (m : tM) (c : Int → Int) : Prop := ∀ p, 0 ≤ p → p < 64 → m 147 p = c p
section C9j2
variable {m : tM} {c : Int → Int}
theorem c_alongOf {d a : Int} {K : Int → tM → Prop} (d0 : 0 ≤ d) (h : K (alO d a) m) : Cli mX12_alongOf [iV d, iV a] m K := by
  unfold alO at h
  refine wX12_alongOf_0 ⟨d0, fun g v hv => ⟨v, rfl, ?_⟩, fun g => ⟨_, rfl, ?_⟩⟩
  · rw [if_pos g] at h; rw [hv]; exact h
  · rw [if_neg g] at h; exact h
theorem c_pX {p : Int} {K : Int → tM → Prop} (p0 : 0 ≤ p) (h : K (p % 4) m) : Cli mX12_xOf [iV p] m K := wX12_xOf_0 ⟨p0, _, rfl, h⟩
theorem c_pY {p : Int} {K : Int → tM → Prop} (p0 : 0 ≤ p) (h : K (p / 4 % 4) m) : Cli mX12_yOf [iV p] m K := wX12_yOf_0 ⟨⟨p0, by omega⟩, _, rfl, h⟩
theorem c_pZ {p : Int} {K : Int → tM → Prop} (p0 : 0 ≤ p) (h : K (p / 16) m) : Cli mX12_zOf [iV p] m K := wX12_zOf_0 ⟨p0, _, rfl, h⟩
theorem c_cubeAt {x y z : Int} {K : Int → tM → Prop} (hc : CE m c) (h : K (if 0 ≤ plc x y z then c (plc x y z) else 0) m) : Cli mX12_cubeAt [rV 145, iV x, iV y, iV z] m K := by
  have no : ¬ ((0 ≤ x ∧ x ≤ 3) ∧ (0 ≤ y ∧ y ≤ 3) ∧ (0 ≤ z ∧ z ≤ 3)) → K 0 m := fun q => by
    have e : plc x y z = -1 := if_neg q
    rw [e, if_neg (by omega)] at h; exact h
  refine wX12_cubeAt_0 (c_in ⟨fun g => ⟨_, rfl, no (fun q => if10 g q.1)⟩, fun g => c_in ⟨fun g2 => ⟨_, rfl, no (fun q => if10 g2 q.2.1)⟩, fun g2 => c_in ⟨fun g3 => ⟨_, rfl, no (fun q => if10 g3 q.2.2)⟩, fun g3 => ?_⟩⟩⟩)
  have p1 := if11 g
  have p2 := if11 g2
  have p3 := if11 g3
  refine ⟨⟨by constructor <;> omega, by constructor <;> omega, by constructor <;> omega, by constructor <;> omega, by omega, by omega⟩, _, rfl, ?_⟩
  have e : plc x y z = ((16 * z) + (4 * y)) + x := if_pos ⟨p1, p2, p3⟩
  rw [e, if_pos (by omega)] at h
  rw [hc _ (by omega) (by omega)]
  exact h
theorem cube_is {x y z : Int} : (if (if 0 ≤ plc x y z then c (plc x y z) else 0) = 1 then (1 : Int) else 0) = if isC c (plc x y z) then 1 else 0 := by
  by_cases q : 0 ≤ plc x y z
  · rw [if_pos q]
    by_cases g : c (plc x y z) = 1
    · rw [if_pos g, if_pos ⟨q, g⟩]
    · rw [if_neg g, if_neg (fun e => g e.2)]
  · rw [if_neg q, if_neg (by omega), if_neg (fun e => q e.1)]
theorem c_isCube1 {p d : Int} {K : Int → tM → Prop} (hc : CE m c) (p0 : 0 ≤ p) (p1 : p < 64) (d0 : 0 ≤ d) (d1 : d < 6) (h : K (if isC c (bynd p d) then 1 else 0) m) : Cli mX12_isCube [rV 145, iV p, iV d, iV (-1)] m K := by
  have b0 := alO_b d 0
  have b1 := alO_b d 1
  have b2 := alO_b d 2
  refine wX12_isCube_0 (c_pX p0 (c_alongOf d0 ⟨by constructor <;> omega, fun _ => ⟨by constructor <;> omega, c_pY p0 (c_alongOf d0 ⟨⟨by constructor <;> omega, by constructor <;> omega⟩, c_pZ p0 (c_alongOf d0 ⟨⟨by constructor <;> omega, by constructor <;> omega⟩, c_cubeAt hc (fun v hv => ⟨v, rfl, ?_⟩)⟩)⟩)⟩, fun g => absurd rfl g⟩))
  rw [cube_is, Int.add_zero, Int.add_zero, Int.add_zero, (pl1_r p0 p1 d0 d1).1] at hv
  rw [hv]
  exact h
theorem c_isCube2 {p d t : Int} {K : Int → tM → Prop} (hc : CE m c) (p0 : 0 ≤ p) (p1 : p < 64) (d0 : 0 ≤ d) (d1 : d < 6) (t0 : 0 ≤ t) (t1 : t < 6) (hd : t / 2 ≠ d / 2) (h : K (if isC c (bynd (bynd p t) d) then 1 else 0) m) : Cli mX12_isCube [rV 145, iV p, iV t, iV d] m K := by
  have b0 := alO_b d 0
  have b1 := alO_b d 1
  have b2 := alO_b d 2
  have e0 := alO_b t 0
  have e1 := alO_b t 1
  have e2 := alO_b t 2
  refine wX12_isCube_0 (c_pX p0 (c_alongOf t0 ⟨by constructor <;> omega, fun g => by omega, fun _ => c_alongOf d0 ⟨by constructor <;> omega, c_pY p0 (c_alongOf t0 ⟨by constructor <;> omega, c_alongOf d0 ⟨by constructor <;> omega, c_pZ p0 (c_alongOf t0 ⟨by constructor <;> omega, c_alongOf d0 ⟨by constructor <;> omega, c_cubeAt hc (fun v hv => ⟨v, rfl, ?_⟩)⟩⟩)⟩⟩)⟩⟩))
  rw [cube_is, pl2_r p0 p1 d0 d1 t0 t1 hd] at hv
  rw [hv]
  exact h
end C9j2
/-- the squares of the reference, as far as they are numbered -/
def FQ (c : Int → Int) (m : tM) (n : Nat) (m' : tM) : Prop := (∀ a, a ≠ 145 → a ≠ 158 → a ≠ 159 → a ≠ 160 → m' a = m a) ∧ (∀ j, j ≠ 17 → m' 145 j = m 145 j) ∧ m' 145 17 = oN c n ∧ NS c n (m' 158) (m' 159) (m' 160)
theorem FQ.skip {c : Int → Int} {m m' : tM} {n : Nat} (h : FQ c m n m') : ∀ i : Nat, (∀ j, j < i → ¬ outr c (((n + j : Nat) : Int) / 6) (((n + j : Nat) : Int) % 6)) → FQ c m (n + i) m'
  | 0, _ => h
  | i + 1, hi => by
    obtain ⟨h1, h2, h3, h4⟩ := FQ.skip h i (fun j hj => hi j (by omega))
    have ho := hi i (by omega)
    refine ⟨h1, h2, ?_, fun k hk g => ?_⟩
    · show m' 145 17 = oN c (n + i + 1)
      rw [oN, if_neg ho, h3]; omega
    · by_cases q : k = n + i
      · subst q; exact absurd g ho
      · exact h4 k (by omega) g
theorem FQ.add {c : Int → Int} {m m' : tM} {n : Nat} {p d : Int} (h : FQ c m n m') (hp : p = (n : Int) / 6) (hd : d = (n : Int) % 6) (ho : outr c ((n : Int) / 6) ((n : Int) % 6)) : FQ c m (n + 1) (up (up (up (up m' 158 (m' 145 17) p) 159 (m' 145 17) d) 160 (n : Int) (m' 145 17)) 145 17 (m' 145 17 + 1)) := by
  obtain ⟨h1, h2, h3, h4⟩ := h
  rw [h3]
  generalize hm : up (up (up (up m' 158 (oN c n) p) 159 (oN c n) d) 160 (n : Int) (oN c n)) 145 17 (oN c n + 1) = mm
  have e158 : mm 158 = ur (m' 158) (oN c n) p := by
    rw [← hm, up_ne _ _ _ (by omega), up_ne _ _ _ (by omega), up_ne _ _ _ (by omega)]
    exact sr_eq _ _ _
  have e159 : mm 159 = ur (m' 159) (oN c n) d := by
    rw [← hm, up_ne _ _ _ (by omega), up_ne _ _ _ (by omega)]
    show sr _ _ _ _ = _
    rw [sr_eq, up_ne _ _ _ (by omega)]
  have e160 : mm 160 = ur (m' 160) n (oN c n) := by
    rw [← hm, up_ne _ _ _ (by omega)]
    show sr _ _ _ _ = _
    rw [sr_eq, up_ne _ _ _ (by omega), up_ne _ _ _ (by omega)]
  refine ⟨fun a a1 a2 a3 a4 => ?_, fun j hj => ?_, ?_, ?_⟩
  · rw [← hm, up_ne _ _ _ a1, up_ne _ _ _ a4, up_ne _ _ _ a3, up_ne _ _ _ a2, h1 a a1 a2 a3 a4]
  · rw [← hm, up_at_ne _ _ _ hj, up_ne _ _ _ (by omega), up_ne _ _ _ (by omega), up_ne _ _ _ (by omega), h2 j hj]
  · rw [← hm, up_at, oN, if_pos ho]
  · rw [e158, e159, e160]
    intro k hk g
    by_cases q : k = n
    · subst q
      rw [ur_eq, ur_eq, ur_eq]
      exact ⟨hp, hd, rfl⟩
    · have := oN_lt c (show k < n by omega) g
      rw [ur_ne _ _ (by omega), ur_ne _ _ (by omega), ur_ne _ _ (by omega)]
      exact h4 k (by omega) g
section C9j3
variable {m : tM} {c : Int → Int}
theorem c_findSkin {K : tM → Prop} (hc : CE m c) (h : ∀ m', FQ c m 384 m' → K m') : Clv mX12_findSkin [rV 145] m K := by
  refine wX12_findSkin_0 ?_
  have key := up_ind (n := 64) (fun p => ∀ m', FQ c m (6 * p).toNat m' → Tj mX12_findSkin 7 [some (rV 145), some (iV p)] [] m' (fun r m' => r = none ∧ K m')) ?_ ?_ (i := 0) (by omega) (by omega)
  · refine key _ ⟨fun a a1 _ _ _ => up_ne _ _ _ a1, fun j hj => up_at_ne _ _ _ hj, ?_, fun k hk => ?_⟩
    · rw [up_at]; rfl
    · exact absurd hk (by omega)
  · intro m' hm
    exact wX12_findSkin_7 ⟨fun c => by omega, fun _ => ⟨rfl, h m' hm⟩⟩
  · intro p p0 p1 ih m' hm
    refine wX12_findSkin_7 ⟨fun _ => ?_, fun c => absurd p1 c⟩
    have key2 := up_ind (n := 6) (fun d => ∀ m', FQ c m (6 * p + d).toNat m' → Tj mX12_findSkin 15 [some (rV 145), some (iV p), some (iV d)] [] m' (fun r m' => r = none ∧ K m')) ?_ ?_ (i := 0) (by omega) (by omega)
    · exact key2 m' (by rw [show (6 * p + 0).toNat = (6 * p).toNat by omega]; exact hm)
    · intro m1 h1
      exact wX12_findSkin_15 ⟨fun c => by omega, fun _ => ⟨by constructor <;> omega, ih m1 (by rw [show (6 * (p + 1)).toNat = (6 * p + 6).toNat by omega]; exact h1)⟩⟩
    · intro d d0 d1 ih2 m1 h1
      have ce1 : CE m1 c := fun q q0 q1 => by rw [h1.1 147 (by omega) (by omega) (by omega) (by omega)]; exact hc q q0 q1
      have en : (6 * p + (d + 1)).toNat = (6 * p + d).toNat + 1 := by omega
      have ep : p = (((6 * p + d).toNat : Nat) : Int) / 6 := by omega
      have ed : d = (((6 * p + d).toNat : Nat) : Int) % 6 := by omega
      refine wX12_findSkin_15 ⟨fun _ => ⟨⟨p0, p1⟩, fun g => c_isCube1 ce1 p0 p1 d0 d1 ⟨fun g2 => ?_, fun g2 => ⟨by constructor <;> omega, ih2 m1 ?_⟩⟩, fun g => ⟨by constructor <;> omega, ih m1 ?_⟩⟩, fun c => absurd d1 c⟩
      · have ho : outr c p d := ⟨⟨p0, by rw [← ce1 p p0 p1]; exact g⟩, if10 g2⟩
        have ob := oN_384 c p0 p1 d0 d1 ho
        have e6 : m1 145 17 = oN c (sq p d) := h1.2.2.1
        refine ⟨⟨by omega, by omega, by constructor <;> omega, by constructor <;> omega, by omega, by omega, by constructor <;> omega, by constructor <;> omega⟩, ih2 _ ?_⟩
        have := h1.add ep ed (by rw [← ep, ← ed]; exact ho)
        rw [ix_cast (show 0 ≤ 6 * p + d by omega)] at this
        rw [en]
        exact this
      · rw [en]
        refine h1.skip 1 (fun j hj => ?_)
        rw [show j = 0 by omega, Nat.add_zero, ← ep, ← ed]
        exact fun o => o.2 (if11 g2)
      · rw [show (6 * (p + 1)).toNat = (6 * p + d).toNat + (6 - d).toNat by omega]
        refine h1.skip _ (fun j hj o => ?_)
        rw [show (((6 * p + d).toNat + j : Nat) : Int) / 6 = p by omega] at o
        exact g (by rw [ce1 p p0 p1]; exact o.1.2)
theorem lk_f : ∀ d : Fin 6, ∀ s : Fin 4, LK d.val s.val = if (s.val : Int) = 0 then 2 * (((d.val : Int) / 2 + 1) % 3) else if (s.val : Int) = 2 then 2 * (((d.val : Int) / 2 + 1) % 3) + 1 else if (if (s.val : Int) = 1 then (1 : Int) else 0) = (if (d.val : Int) % 2 = 1 then (1 : Int) else 0) then 2 * (((d.val : Int) / 2 + 2) % 3) + 1 else 2 * (((d.val : Int) / 2 + 2) % 3) := by decide +kernel
theorem c_looks {d s : Int} {K : Int → tM → Prop} (d0 : 0 ≤ d) (d1 : d < 6) (s0 : 0 ≤ s) (s1 : s < 4) (h : K (LK d s) m) : Cli mX12_looks [iV d, iV s] m K := by
  have e := lk_f ⟨d.toNat, by omega⟩ ⟨s.toNat, by omega⟩
  simp only [ix_cast d0, ix_cast s0] at e
  rw [e] at h
  refine wX12_looks_0 ⟨⟨d0, by constructor <;> omega, by omega, by constructor <;> omega, by constructor <;> omega, by omega, by constructor <;> omega⟩, fun v hv => ⟨fun g => ⟨_, rfl, ?_⟩, fun g => ⟨fun g2 => ⟨by constructor <;> omega, _, rfl, ?_⟩, fun g2 v2 hv2 => ⟨fun g3 => ⟨by constructor <;> omega, _, rfl, ?_⟩, fun g3 => ⟨_, rfl, ?_⟩⟩⟩⟩⟩
  · rw [if_pos g] at h; exact h
  · rw [if_neg g, if_pos g2] at h; exact h
  · rw [if_neg g, if_neg g2, ← hv, ← hv2, if_pos g3] at h; exact h
  · rw [if_neg g, if_neg g2, ← hv, ← hv2, if_neg g3] at h; exact h
theorem c_cubeBy {p d : Int} {K : Int → tM → Prop} (p0 : 0 ≤ p) (p1 : p < 64) (d0 : 0 ≤ d) (d1 : d < 6) (hb : 0 ≤ bynd p d) (h : K (bynd p d) m) : Cli mX12_cubeBy [iV p, iV d] m K := by
  have b0 := alO_b d 0
  have b1 := alO_b d 1
  have b2 := alO_b d 2
  refine wX12_cubeBy_0 (c_alongOf d0 ⟨by constructor <;> omega, c_alongOf d0 ⟨⟨by constructor <;> omega, by constructor <;> omega⟩, c_alongOf d0 ⟨⟨by constructor <;> omega, by constructor <;> omega⟩, _, rfl, ?_⟩⟩⟩)
  rw [((pl1_r p0 p1 d0 d1).2 hb).1]
  exact h
def eA (p d s a : Int) : Int := 2 * co p a + alO d a + alO (LK d s) a
theorem c_edgeAt {p d s a : Int} {K : Int → tM → Prop} (p0 : 0 ≤ p) (p1 : p < 64) (d0 : 0 ≤ d) (d1 : d < 6) (s0 : 0 ≤ s) (s1 : s < 4) (h : K (eA p d s a) m) : Cli mX12_edgeAt [iV p, iV d, iV s, iV a] m K := by
  have b0 := alO_b d a
  have b1 := alO_b (LK d s) a
  have l := LK_r d0 d1 s0 s1
  unfold eA co at h
  refine wX12_edgeAt_0 ⟨fun g => c_pX p0 ⟨by constructor <;> omega, c_alongOf d0 ⟨by constructor <;> omega, c_looks d0 d1 s0 s1 (c_alongOf l.1.1 ⟨by constructor <;> omega, _, rfl, ?_⟩)⟩⟩, fun g => ⟨fun g2 => c_pY p0 ⟨by constructor <;> omega, c_alongOf d0 ⟨by constructor <;> omega, c_looks d0 d1 s0 s1 (c_alongOf l.1.1 ⟨by constructor <;> omega, _, rfl, ?_⟩)⟩⟩, fun g2 => c_pZ p0 ⟨by constructor <;> omega, c_alongOf d0 ⟨by constructor <;> omega, c_looks d0 d1 s0 s1 (c_alongOf l.1.1 ⟨by constructor <;> omega, _, rfl, ?_⟩)⟩⟩⟩⟩
  · rw [if_pos g] at h; exact h
  · rw [if_neg g, if_pos g2] at h; exact h
  · rw [if_neg g, if_neg g2] at h; exact h
/-- the side is found by its edge -/
theorem side_loop {p d s p' d' T : Int} {K : tM → Prop} (p0 : 0 ≤ p) (p1 : p < 64) (d0 : 0 ≤ d) (d1 : d < 6) (s0 : 0 ≤ s) (s1 : s < 4) (q0 : 0 ≤ p') (q1 : p' < 64) (e0 : 0 ≤ d') (e1 : d' < 6) (t0 : 0 ≤ T) (t1 : T < 4) (hT : ∀ k, 0 ≤ k → k < 4 → ((∀ a, 0 ≤ a → a < 3 → eA p' d' k a = eA p d s a) ↔ k = T)) (h : K (up m 145 22 T)) : Tj mX12_findAcross 117 [some (rV 145), none, some (iV s), some (iV p), some (iV d), none, some (iV p'), some (iV d'), some (iV 0)] [] m (fun r m' => r = none ∧ K m') := by
  have key := up_ind (n := 4) (fun k => Tj mX12_findAcross 117 [some (rV 145), none, some (iV s), some (iV p), some (iV d), none, some (iV p'), some (iV d'), some (iV k)] [] (if k ≤ T then m else up m 145 22 T) (fun r m' => r = none ∧ K m')) ?_ ?_ (i := 0) (by omega) (by omega)
  · rw [if_pos t0] at key; exact key
  · rw [if_neg (by omega)]
    exact wX12_findAcross_117 ⟨fun g => by omega, fun _ => ⟨rfl, h⟩⟩
  · intro k k0 k1 ih
    refine wX12_findAcross_117 ⟨fun _ => ?_, fun g => absurd k1 g⟩
    have key2 := up_ind (n := 3) (fun a => ∀ f : Int, (f = 0 ∧ (∃ b, 0 ≤ b ∧ b < 3 ∧ eA p' d' k b ≠ eA p d s b)) ∨ (f = 1 ∧ ∀ b, 0 ≤ b → b < a → eA p' d' k b = eA p d s b) → Tj mX12_findAcross 129 [some (rV 145), none, some (iV s), some (iV p), some (iV d), none, some (iV p'), some (iV d'), some (iV k), some (iV f), some (iV a)] [] (if k ≤ T then m else up m 145 22 T) (fun r m' => r = none ∧ K m')) ?_ ?_ (i := 0) (by omega) (by omega)
    · exact key2 1 (Or.inr ⟨rfl, fun b b0 b1 => by omega⟩)
    · intro f hf
      refine wX12_findAcross_129 ⟨fun g => by omega, fun _ v hv => ⟨by constructor <;> omega, ?_⟩⟩
      have e : up (if k ≤ T then m else up m 145 22 T) 145 22 v = if k + 1 ≤ T then m else up m 145 22 T := by
        rcases hf with ⟨f0, b, b0, b1, b2⟩ | ⟨f1, fb⟩
        · rw [if_pos f0] at hv
          have ne : k ≠ T := fun g => b2 ((hT k k0 k1).2 g b b0 b1)
          rw [hv, up_self]
          by_cases q : k ≤ T
          · rw [if_pos q, if_pos (by omega)]
          · rw [if_neg q, if_neg (by omega)]
        · rw [if_neg (by omega)] at hv
          have eq : k = T := (hT k k0 k1).1 fb
          rw [hv, if_pos (by omega), if_neg (by omega), eq]
      rw [e]
      exact ih
    · intro a a0 a1 ih2 f hf
      refine wX12_findAcross_129 ⟨fun _ => ⟨fun g => ⟨by constructor <;> omega, ih2 0 ?_⟩, fun g => c_edgeAt q0 q1 e0 e1 k0 k1 (c_edgeAt p0 p1 d0 d1 s0 s1 (fun v hv => ⟨by constructor <;> omega, ih2 v ?_⟩))⟩, fun g => absurd a1 g⟩
      · rcases hf with ⟨f0, fb⟩ | ⟨f1, fb⟩
        · exact Or.inl ⟨rfl, fb⟩
        · omega
      · rcases hf with ⟨f0, fb⟩ | ⟨f1, fb⟩
        · omega
        · by_cases q : eA p' d' k a = eA p d s a
          · rw [if_pos q] at hv
            refine Or.inr ⟨hv, fun b b0 b1 => ?_⟩
            by_cases w : b = a
            · rw [w]; exact q
            · exact fb b b0 (by omega)
          · rw [if_neg q] at hv
            exact Or.inl ⟨hv, a, a0, a1, q⟩
theorem edge_f : ∀ d : Fin 6, ∀ s : Fin 4, ∀ k : Fin 4,
    ((alO (LK d.val s.val) 0 + alO (LK (LK d.val s.val) k.val) 0 = alO d.val 0 + alO (LK d.val s.val) 0 ∧ alO (LK d.val s.val) 1 + alO (LK (LK d.val s.val) k.val) 1 = alO d.val 1 + alO (LK d.val s.val) 1 ∧ alO (LK d.val s.val) 2 + alO (LK (LK d.val s.val) k.val) 2 = alO d.val 2 + alO (LK d.val s.val) 2) ↔ (k.val : Int) = sL (LK d.val s.val) d.val) ∧
    ((2 * alO (LK d.val s.val) 0 + alO d.val 0 + alO (LK d.val k.val) 0 = alO d.val 0 + alO (LK d.val s.val) 0 ∧ 2 * alO (LK d.val s.val) 1 + alO d.val 1 + alO (LK d.val k.val) 1 = alO d.val 1 + alO (LK d.val s.val) 1 ∧ 2 * alO (LK d.val s.val) 2 + alO d.val 2 + alO (LK d.val k.val) 2 = alO d.val 2 + alO (LK d.val s.val) 2) ↔ (k.val : Int) = sL d.val (x1 (LK d.val s.val))) ∧
    ((2 * (alO (LK d.val s.val) 0 + alO d.val 0) + alO (x1 (LK d.val s.val)) 0 + alO (LK (x1 (LK d.val s.val)) k.val) 0 = alO d.val 0 + alO (LK d.val s.val) 0 ∧ 2 * (alO (LK d.val s.val) 1 + alO d.val 1) + alO (x1 (LK d.val s.val)) 1 + alO (LK (x1 (LK d.val s.val)) k.val) 1 = alO d.val 1 + alO (LK d.val s.val) 1 ∧ 2 * (alO (LK d.val s.val) 2 + alO d.val 2) + alO (x1 (LK d.val s.val)) 2 + alO (LK (x1 (LK d.val s.val)) k.val) 2 = alO d.val 2 + alO (LK d.val s.val) 2) ↔ (k.val : Int) = sL (x1 (LK d.val s.val)) (x1 d.val)) := by decide +kernel
theorem edge_r {d s k : Int} (d0 : 0 ≤ d) (d1 : d < 6) (s0 : 0 ≤ s) (s1 : s < 4) (k0 : 0 ≤ k) (k1 : k < 4) :
    ((alO (LK d s) 0 + alO (LK (LK d s) k) 0 = alO d 0 + alO (LK d s) 0 ∧ alO (LK d s) 1 + alO (LK (LK d s) k) 1 = alO d 1 + alO (LK d s) 1 ∧ alO (LK d s) 2 + alO (LK (LK d s) k) 2 = alO d 2 + alO (LK d s) 2) ↔ k = sL (LK d s) d) ∧
    ((2 * alO (LK d s) 0 + alO d 0 + alO (LK d k) 0 = alO d 0 + alO (LK d s) 0 ∧ 2 * alO (LK d s) 1 + alO d 1 + alO (LK d k) 1 = alO d 1 + alO (LK d s) 1 ∧ 2 * alO (LK d s) 2 + alO d 2 + alO (LK d k) 2 = alO d 2 + alO (LK d s) 2) ↔ k = sL d (x1 (LK d s))) ∧
    ((2 * (alO (LK d s) 0 + alO d 0) + alO (x1 (LK d s)) 0 + alO (LK (x1 (LK d s)) k) 0 = alO d 0 + alO (LK d s) 0 ∧ 2 * (alO (LK d s) 1 + alO d 1) + alO (x1 (LK d s)) 1 + alO (LK (x1 (LK d s)) k) 1 = alO d 1 + alO (LK d s) 1 ∧ 2 * (alO (LK d s) 2 + alO d 2) + alO (x1 (LK d s)) 2 + alO (LK (x1 (LK d s)) k) 2 = alO d 2 + alO (LK d s) 2) ↔ k = sL (x1 (LK d s)) (x1 d)) := by
  have := edge_f ⟨d.toNat, by omega⟩ ⟨s.toNat, by omega⟩ ⟨k.toNat, by omega⟩
  simp only [ix_cast d0, ix_cast s0, ix_cast k0] at this
  exact this
theorem all3 {P : Int → Prop} : (∀ a, 0 ≤ a → a < 3 → P a) ↔ (P 0 ∧ P 1 ∧ P 2) := by
  refine ⟨fun h => ⟨h 0 (by omega) (by omega), h 1 (by omega) (by omega), h 2 (by omega) (by omega)⟩, fun h a a0 a1 => ?_⟩
  rcases (show a = 0 ∨ a = 1 ∨ a = 2 by omega) with rfl | rfl | rfl
  · exact h.1
  · exact h.2.1
  · exact h.2.2
/-- what findAcross leaves -/
def FA (c : Int → Int) (p d s : Int) (m m' : tM) : Prop := (∀ a, a ≠ 145 → m' a = m a) ∧ (∀ j, j ≠ 21 → j ≠ 22 → j ≠ 23 → m' 145 j = m 145 j) ∧ m' 145 21 = oN c (sq (cP c p d s) (cD c p d s)) ∧ m' 145 22 = cS c p d s ∧ m' 145 23 = cB c p d s
theorem c_findAcross {p d s q : Int} {K : tM → Prop} (hc : CE m c) (hn : NS c 384 (m 158) (m 159) (m 160)) (p0 : 0 ≤ p) (p1 : p < 64) (d0 : 0 ≤ d) (d1 : d < 6) (s0 : 0 ≤ s) (s1 : s < 4) (ho : outr c p d) (hq : q = oN c (sq p d)) (h : ∀ m', FA c p d s m m' → K m') : Clv mX12_findAcross [rV 145, iV q, iV s] m K := by
  have es := sq_c p0 d0
  have r := hn (sq p d) (by omega) (by rw [sq_p p0 d0 d1, sq_d p0 d0 d1]; exact ho)
  rw [sq_p p0 d0 d1, sq_d p0 d0 d1, ← hq] at r
  have ob := oN_384 c p0 p1 d0 d1 ho
  have l := LK_r d0 d1 s0 s1
  have n := by_r p0 p1 l.1.1 l.1.2
  have nr := nP_r p0 p1 d0 d1 s0 s1
  have ar := aP_r p0 p1 d0 d1 s0 s1
  have cr := cr_r p0 p1 d0 d1 s0 s1 ho
  have ec := sq_c cr.1.1 cr.2.1.1
  have r2 := (hn (sq (cP c p d s) (cD c p d s)) (by omega) (by rw [sq_p cr.1.1 cr.2.1.1 cr.2.1.2, sq_d cr.1.1 cr.2.1.1 cr.2.1.2]; exact cr.2.2.2.1)).2.2
  rw [ec] at r2
  have fin : ∀ {p' d' b : Int} (mm : tM), p' = cP c p d s → d' = cD c p d s → b = cB c p d s → mm = up m 145 23 b → (∀ k, 0 ≤ k → k < 4 → ((∀ a, 0 ≤ a → a < 3 → eA p' d' k a = eA p d s a) ↔ k = cS c p d s)) → Cli mX12_squareOf [rV 145, iV p', iV d'] mm (fun r4 m4 => (Tj mX12_findAcross 117 [some (rV 145), none, some (iV s), some (iV p), some (iV d), none, some (iV p'), some (iV d'), some (iV 0)] [] (up m4 145 21 r4) (fun r m' => r = none ∧ K m'))) := by
    intro p' d' b mm e1 e2 e3 e4 hT
    have cr1 := cr.1
    have cr2 := cr.2.1
    rw [← e1] at cr1
    rw [← e2] at cr2
    refine wX12_squareOf_0 ⟨⟨by constructor <;> omega, by constructor <;> omega, by omega, by omega⟩, _, rfl, ?_⟩
    refine side_loop p0 p1 d0 d1 s0 s1 cr1.1 cr1.2 cr2.1 cr2.2 cr.2.2.1.1 cr.2.2.1.2 hT (h _ ?_)
    have em : mm 160 (6 * p' + d') = oN c (sq (cP c p d s) (cD c p d s)) := by rw [e4, up_ne _ _ _ (by omega), e1, e2, r2]
    rw [em, e4]
    refine ⟨fun a ha => ?_, fun j j1 j2 j3 => ?_, ?_, up_at _ _ _ _, ?_⟩
    · rw [up_ne _ _ _ ha, up_ne _ _ _ ha, up_ne _ _ _ ha]
    · rw [up_at_ne _ _ _ j2, up_at_ne _ _ _ j1, up_at_ne _ _ _ j3]
    · rw [up_at_ne _ _ _ (by omega), up_at]
    · rw [up_at_ne _ _ _ (by omega), up_at_ne _ _ _ (by omega), up_at, e3]
  have ce1 : ∀ v, CE (up m 145 23 v) c := fun v q q0 q1 => by rw [up_ne _ _ _ (by omega)]; exact hc q q0 q1
  refine wX12_findAcross_0 ?_
  rw [r.1, r.2.1]
  refine ⟨⟨by omega, by omega⟩, c_looks d0 d1 s0 s1 (c_isCube2 (ce1 1) p0 p1 d0 d1 l.1.1 l.1.2 l.2.1 ⟨fun g => c_isCube1 (ce1 1) p0 p1 l.1.1 l.1.2 ⟨fun g2 => ?_, fun g2 => ?_⟩, fun g => ?_⟩)⟩
  · have ha : ¬ isC c (aP p d s) := if10 g
    have hn' : ¬ isC c (nP p d s) := if10 g2
    refine fin (b := 1) _ (by unfold cP; rw [if_neg ha, if_neg hn']) (by unfold cD; rw [if_neg ha, if_neg hn']) (by unfold cB; rw [if_neg ha, if_neg hn']) rfl (fun k k0 k1 => ?_)
    have e := (edge_r d0 d1 s0 s1 k0 k1).1
    rw [show cS c p d s = sL (LK d s) d by unfold cS cD cL; rw [if_neg ha, if_neg hn', if_neg ha, if_neg hn'], ← e, all3]
    unfold eA
    constructor
    · rintro ⟨a1, a2, a3⟩; exact ⟨by omega, by omega, by omega⟩
    · rintro ⟨a1, a2, a3⟩; exact ⟨by omega, by omega, by omega⟩
  · have ha : ¬ isC c (aP p d s) := if10 g
    have hn' : isC c (nP p d s) := if11 g2
    have n0 : 0 ≤ bynd p (LK d s) := hn'.1
    have pl := ((pl1_r p0 p1 l.1.1 l.1.2).2 n0).2
    refine c_cubeBy p0 p1 l.1.1 l.1.2 n0 (fin (b := 0) _ (by unfold cP; rw [if_neg ha, if_pos hn']; rfl) (by unfold cD; rw [if_neg ha, if_pos hn']) (by unfold cB; rw [if_neg ha, if_pos hn']) ?_ (fun k k0 k1 => ?_))
    · show sr (sr m 145 (ur (m 145) 23 1)) 145 (ur ((sr m 145 (ur (m 145) 23 1)) 145) 23 0) = sr m 145 (ur (m 145) 23 0)
      rw [sr_eq, sr_sr, ur_ur]
    · have e := (edge_r d0 d1 s0 s1 k0 k1).2.1
      rw [show cS c p d s = sL d (x1 (LK d s)) by unfold cS cD cL; rw [if_neg ha, if_pos hn', if_neg ha, if_pos hn'], ← e, all3]
      unfold eA
      rw [pl.1, pl.2.1, pl.2.2]
      constructor
      · rintro ⟨a1, a2, a3⟩; exact ⟨by omega, by omega, by omega⟩
      · rintro ⟨a1, a2, a3⟩; exact ⟨by omega, by omega, by omega⟩
  · have ha : isC c (aP p d s) := if11 g
    have a0 : 0 ≤ bynd (bynd p (LK d s)) d := ha.1
    have n0 : 0 ≤ bynd p (LK d s) := ar.2.2 ha.1
    have pl := ((pl1_r p0 p1 l.1.1 l.1.2).2 n0).2
    have pl2 := ((pl1_r n0 n.2.1 d0 d1).2 a0).2
    refine c_cubeBy p0 p1 l.1.1 l.1.2 n0 (c_cubeBy n0 n.2.1 d0 d1 a0 ?_)
    rw [bXor_1 l.1.1 l.1.2]
    refine fin (b := -1) (d' := x1 (LK d s)) _ (by unfold cP; rw [if_pos ha]; rfl) (by unfold cD; rw [if_pos ha]) (by unfold cB; rw [if_pos ha]) ?_ (fun k k0 k1 => ?_)
    · show sr (sr m 145 (ur (m 145) 23 1)) 145 (ur ((sr m 145 (ur (m 145) 23 1)) 145) 23 (-1)) = sr m 145 (ur (m 145) 23 (-1))
      rw [sr_eq, sr_sr, ur_ur]
    · have e := (edge_r d0 d1 s0 s1 k0 k1).2.2
      rw [show cS c p d s = sL (x1 (LK d s)) (x1 d) by unfold cS cD cL; rw [if_pos ha, if_pos ha], ← e, all3]
      unfold eA
      rw [pl2.1, pl2.2.1, pl2.2.2, pl.1, pl.2.1, pl.2.2]
      constructor
      · rintro ⟨a1, a2, a3⟩; exact ⟨by omega, by omega, by omega⟩
      · rintro ⟨a1, a2, a3⟩; exact ⟨by omega, by omega, by omega⟩
end C9j3
