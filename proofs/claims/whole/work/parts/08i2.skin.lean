/-! the geometry of skins: places, directions, what lies across a side -/
def bynd (p d : Int) : Int :=
  if p < 0 then -1 else if d = 0 then (if p % 4 = 3 then -1 else p + 1) else if d = 1 then (if p % 4 = 0 then -1 else p - 1)
  else if d = 2 then (if p / 4 % 4 = 3 then -1 else p + 4) else if d = 3 then (if p / 4 % 4 = 0 then -1 else p - 4)
  else if d = 4 then (if p / 16 = 3 then -1 else p + 16) else (if p / 16 = 0 then -1 else p - 16)
def x1 (d : Int) : Int := if d % 2 = 0 then d + 1 else d - 1
def LK (d s : Int) : Int := stI 1001 (4 * d + s)
def sL (d L : Int) : Int := if LK d 0 = L then 0 else if LK d 1 = L then 1 else if LK d 2 = L then 2 else 3
def nP (p d s : Int) : Int := bynd p (LK d s)
def aP (p d s : Int) : Int := bynd (bynd p (LK d s)) d
abbrev isC (c : Int → Int) (p : Int) : Prop := 0 ≤ p ∧ c p = 1
abbrev outr (c : Int → Int) (p d : Int) : Prop := isC c p ∧ ¬ isC c (bynd p d)
def cB (c : Int → Int) (p d s : Int) : Int := if isC c (aP p d s) then -1 else if isC c (nP p d s) then 0 else 1
def cP (c : Int → Int) (p d s : Int) : Int := if isC c (aP p d s) then aP p d s else if isC c (nP p d s) then nP p d s else p
def cD (c : Int → Int) (p d s : Int) : Int := if isC c (aP p d s) then x1 (LK d s) else if isC c (nP p d s) then d else LK d s
def cL (c : Int → Int) (p d s : Int) : Int := if isC c (aP p d s) then x1 d else if isC c (nP p d s) then x1 (LK d s) else d
def cS (c : Int → Int) (p d s : Int) : Int := sL (cD c p d s) (cL c p d s)
/-- the outer squares below a number -/
def oN (c : Int → Int) : Nat → Int
  | 0 => 0
  | k + 1 => oN c k + (if outr c ((k : Int) / 6) ((k : Int) % 6) then 1 else 0)
def nrm (c : Int → Int) : Int → Int := fun p => if 0 ≤ p ∧ p < 64 then c p else 0
theorem nrm_congr {c c' : Int → Int} (h : ∀ p, 0 ≤ p → p < 64 → c' p = c p) : nrm c' = nrm c := by
  funext p
  unfold nrm
  by_cases q : 0 ≤ p ∧ p < 64
  · rw [if_pos q, if_pos q, h p q.1 q.2]
  · rw [if_neg q, if_neg q]
theorem nrm_in {c : Int → Int} {p : Int} (h0 : 0 ≤ p) (h1 : p < 64) : nrm c p = c p := by unfold nrm; rw [if_pos ⟨h0, h1⟩]
theorem oN_bound (c : Int → Int) : ∀ k : Nat, 0 ≤ oN c k ∧ oN c k ≤ k
  | 0 => ⟨Int.le_refl 0, Int.le_refl 0⟩
  | k + 1 => by
    have := oN_bound c k
    rw [oN]
    split <;> omega
theorem oN_mono (c : Int → Int) {j k : Nat} (h : j ≤ k) : oN c j ≤ oN c k := by
  induction k with
  | zero => rw [show j = 0 by omega]; exact Int.le_refl _
  | succ k ih =>
    by_cases q : j = k + 1
    · rw [q]; exact Int.le_refl _
    · have := ih (by omega)
      rw [oN]
      split <;> omega
theorem oN_lt (c : Int → Int) {j k : Nat} (h : j < k) (ho : outr c ((j : Int) / 6) ((j : Int) % 6)) : oN c j < oN c k := by
  have h1 : oN c (j + 1) = oN c j + 1 := by rw [oN, if_pos ho]
  have := oN_mono c (show j + 1 ≤ k by omega)
  omega
theorem oN_inj (c : Int → Int) {j k : Nat} (hj : outr c ((j : Int) / 6) ((j : Int) % 6)) (hk : outr c ((k : Int) / 6) ((k : Int) % 6)) (h : oN c j = oN c k) : j = k := by
  rcases Nat.lt_trichotomy j k with g | g | g
  · have := oN_lt c g hj; omega
  · exact g
  · have := oN_lt c g hk; omega
theorem oN_ex (c : Int → Int) : ∀ (n : Nat) {q : Int}, 0 ≤ q → q < oN c n → ∃ k : Nat, k < n ∧ outr c ((k : Int) / 6) ((k : Int) % 6) ∧ oN c k = q
  | 0, q, h0, h1 => by rw [oN] at h1; omega
  | n + 1, q, h0, h1 => by
    by_cases g : q < oN c n
    · obtain ⟨k, k1, k2, k3⟩ := oN_ex c n h0 g
      exact ⟨k, by omega, k2, k3⟩
    · rw [oN] at h1
      by_cases o : outr c ((n : Int) / 6) ((n : Int) % 6)
      · rw [if_pos o] at h1
        exact ⟨n, by omega, o, by omega⟩
      · rw [if_neg o] at h1; omega
/-- the number of a square -/
def sq (p d : Int) : Nat := (6 * p + d).toNat
theorem sq_c {p d : Int} (p0 : 0 ≤ p) (d0 : 0 ≤ d) : ((sq p d : Nat) : Int) = 6 * p + d := by unfold sq; omega
theorem sq_p {p d : Int} (p0 : 0 ≤ p) (d0 : 0 ≤ d) (d1 : d < 6) : ((sq p d : Nat) : Int) / 6 = p := by have := sq_c p0 d0; omega
theorem sq_d {p d : Int} (p0 : 0 ≤ p) (d0 : 0 ≤ d) (d1 : d < 6) : ((sq p d : Nat) : Int) % 6 = d := by have := sq_c p0 d0; omega
/-! finite facts -/
theorem fin64 {P : Int → Prop} (h : ∀ p : Fin 64, P ((p.val : Nat) : Int)) {p : Int} (p0 : 0 ≤ p) (p1 : p < 64) : P p := by
  have := h ⟨p.toNat, by omega⟩
  rw [show (((⟨p.toNat, by omega⟩ : Fin 64).val : Nat) : Int) = p from ix_cast p0] at this
  exact this
theorem fin6 {P : Int → Prop} (h : ∀ p : Fin 6, P ((p.val : Nat) : Int)) {p : Int} (p0 : 0 ≤ p) (p1 : p < 6) : P p := by
  have := h ⟨p.toNat, by omega⟩
  rw [show (((⟨p.toNat, by omega⟩ : Fin 6).val : Nat) : Int) = p from ix_cast p0] at this
  exact this
theorem fin4 {P : Int → Prop} (h : ∀ p : Fin 4, P ((p.val : Nat) : Int)) {p : Int} (p0 : 0 ≤ p) (p1 : p < 4) : P p := by
  have := h ⟨p.toNat, by omega⟩
  rw [show (((⟨p.toNat, by omega⟩ : Fin 4).val : Nat) : Int) = p from ix_cast p0] at this
  exact this
theorem LK_f : ∀ d : Fin 6, ∀ s : Fin 4, (0 ≤ LK d.val s.val ∧ LK d.val s.val < 6) ∧ LK d.val s.val / 2 ≠ (d.val : Int) / 2 ∧ sL d.val (LK d.val s.val) = s.val ∧ (0 ≤ x1 (LK d.val s.val) ∧ x1 (LK d.val s.val) < 6) ∧ x1 (x1 (LK d.val s.val)) = LK d.val s.val ∧ x1 (LK d.val s.val) / 2 = LK d.val s.val / 2 := by decide +kernel
theorem sL_f : ∀ d : Fin 6, ∀ l : Fin 6, (l.val : Int) / 2 ≠ (d.val : Int) / 2 → (0 ≤ sL d.val l.val ∧ sL d.val l.val < 4) ∧ LK d.val (sL d.val l.val) = l.val := by decide +kernel
theorem x1_f : ∀ d : Fin 6, (0 ≤ x1 d.val ∧ x1 d.val < 6) ∧ x1 (x1 d.val) = d.val ∧ x1 d.val / 2 = (d.val : Int) / 2 := by decide +kernel
theorem by_f : ∀ p : Fin 64, ∀ d : Fin 6, -1 ≤ bynd p.val d.val ∧ bynd p.val d.val < 64 ∧ (0 ≤ bynd p.val d.val → bynd (bynd p.val d.val) (x1 d.val) = p.val) := by decide +kernel
theorem by2_f : ∀ p : Fin 64, ∀ d : Fin 6, ∀ t : Fin 6, (t.val : Int) / 2 ≠ (d.val : Int) / 2 → bynd (bynd p.val t.val) d.val = bynd (bynd p.val d.val) t.val := by decide +kernel
theorem LK_r {d s : Int} (d0 : 0 ≤ d) (d1 : d < 6) (s0 : 0 ≤ s) (s1 : s < 4) : (0 ≤ LK d s ∧ LK d s < 6) ∧ LK d s / 2 ≠ d / 2 ∧ sL d (LK d s) = s ∧ (0 ≤ x1 (LK d s) ∧ x1 (LK d s) < 6) ∧ x1 (x1 (LK d s)) = LK d s ∧ x1 (LK d s) / 2 = LK d s / 2 :=
  fin6 (P := fun d => (0 ≤ LK d s ∧ LK d s < 6) ∧ LK d s / 2 ≠ d / 2 ∧ sL d (LK d s) = s ∧ (0 ≤ x1 (LK d s) ∧ x1 (LK d s) < 6) ∧ x1 (x1 (LK d s)) = LK d s ∧ x1 (LK d s) / 2 = LK d s / 2) (fun d => fin4 (P := fun s => (0 ≤ LK d.val s ∧ LK d.val s < 6) ∧ LK d.val s / 2 ≠ (d.val : Int) / 2 ∧ sL d.val (LK d.val s) = s ∧ (0 ≤ x1 (LK d.val s) ∧ x1 (LK d.val s) < 6) ∧ x1 (x1 (LK d.val s)) = LK d.val s ∧ x1 (LK d.val s) / 2 = LK d.val s / 2) (fun s => LK_f d s) s0 s1) d0 d1
theorem sL_r {d l : Int} (d0 : 0 ≤ d) (d1 : d < 6) (l0 : 0 ≤ l) (l1 : l < 6) (h : l / 2 ≠ d / 2) : (0 ≤ sL d l ∧ sL d l < 4) ∧ LK d (sL d l) = l :=
  fin6 (P := fun d => l / 2 ≠ d / 2 → (0 ≤ sL d l ∧ sL d l < 4) ∧ LK d (sL d l) = l) (fun d => fin6 (P := fun l => l / 2 ≠ (d.val : Int) / 2 → (0 ≤ sL d.val l ∧ sL d.val l < 4) ∧ LK d.val (sL d.val l) = l) (fun l => sL_f d l) l0 l1) d0 d1 h
theorem x1_r {d : Int} (d0 : 0 ≤ d) (d1 : d < 6) : (0 ≤ x1 d ∧ x1 d < 6) ∧ x1 (x1 d) = d ∧ x1 d / 2 = d / 2 :=
  fin6 (P := fun d => (0 ≤ x1 d ∧ x1 d < 6) ∧ x1 (x1 d) = d ∧ x1 d / 2 = d / 2) x1_f d0 d1
theorem by_r {p d : Int} (p0 : 0 ≤ p) (p1 : p < 64) (d0 : 0 ≤ d) (d1 : d < 6) : -1 ≤ bynd p d ∧ bynd p d < 64 ∧ (0 ≤ bynd p d → bynd (bynd p d) (x1 d) = p) :=
  fin64 (P := fun p => -1 ≤ bynd p d ∧ bynd p d < 64 ∧ (0 ≤ bynd p d → bynd (bynd p d) (x1 d) = p)) (fun p => fin6 (P := fun d => -1 ≤ bynd p.val d ∧ bynd p.val d < 64 ∧ (0 ≤ bynd p.val d → bynd (bynd p.val d) (x1 d) = p.val)) (fun d => by_f p d) d0 d1) p0 p1
theorem by2_r {p d t : Int} (p0 : 0 ≤ p) (p1 : p < 64) (d0 : 0 ≤ d) (d1 : d < 6) (t0 : 0 ≤ t) (t1 : t < 6) (h : t / 2 ≠ d / 2) : bynd (bynd p t) d = bynd (bynd p d) t :=
  fin64 (P := fun p => t / 2 ≠ d / 2 → bynd (bynd p t) d = bynd (bynd p d) t) (fun p => fin6 (P := fun d => t / 2 ≠ d / 2 → bynd (bynd p.val t) d = bynd (bynd p.val d) t) (fun d => fin6 (P := fun t => t / 2 ≠ (d.val : Int) / 2 → bynd (bynd p.val t) d.val = bynd (bynd p.val d.val) t) (fun t => by2_f p d t) t0 t1) d0 d1) p0 p1 h
theorem by_neg {p d : Int} (h : p < 0) : bynd p d = -1 := by unfold bynd; rw [if_pos h]
section C8i2
variable {c : Int → Int} {p d s : Int}
theorem aP_r (p0 : 0 ≤ p) (p1 : p < 64) (d0 : 0 ≤ d) (d1 : d < 6) (s0 : 0 ≤ s) (s1 : s < 4) : -1 ≤ aP p d s ∧ aP p d s < 64 ∧ (0 ≤ aP p d s → 0 ≤ nP p d s) := by
  have l := LK_r d0 d1 s0 s1
  have n := by_r p0 p1 l.1.1 l.1.2
  unfold aP nP
  by_cases q : bynd p (LK d s) < 0
  · rw [by_neg q]; omega
  · have a := by_r (show 0 ≤ bynd p (LK d s) by omega) n.2.1 d0 d1
    omega
theorem nP_r (p0 : 0 ≤ p) (p1 : p < 64) (d0 : 0 ≤ d) (d1 : d < 6) (s0 : 0 ≤ s) (s1 : s < 4) : -1 ≤ nP p d s ∧ nP p d s < 64 := by
  have l := LK_r d0 d1 s0 s1
  have n := by_r p0 p1 l.1.1 l.1.2
  exact ⟨n.1, n.2.1⟩
/-- what lies across is a square, seen back -/
theorem cr_r (p0 : 0 ≤ p) (p1 : p < 64) (d0 : 0 ≤ d) (d1 : d < 6) (s0 : 0 ≤ s) (s1 : s < 4) (ho : outr c p d) : (0 ≤ cP c p d s ∧ cP c p d s < 64) ∧ (0 ≤ cD c p d s ∧ cD c p d s < 6) ∧ (0 ≤ cS c p d s ∧ cS c p d s < 4) ∧ outr c (cP c p d s) (cD c p d s) ∧ cP c (cP c p d s) (cD c p d s) (cS c p d s) = p ∧ cD c (cP c p d s) (cD c p d s) (cS c p d s) = d ∧ cS c (cP c p d s) (cD c p d s) (cS c p d s) = s ∧ cB c (cP c p d s) (cD c p d s) (cS c p d s) = cB c p d s := by
  have l := LK_r d0 d1 s0 s1
  have n := by_r p0 p1 l.1.1 l.1.2
  have dd := by_r p0 p1 d0 d1
  have xd := x1_r d0 d1
  have ar := aP_r p0 p1 d0 d1 s0 s1
  have b2 := by2_r p0 p1 d0 d1 l.1.1 l.1.2 l.2.1
  have na : aP p d s = bynd (nP p d s) d := rfl
  have nn : nP p d s = bynd p (LK d s) := rfl
  by_cases ha : isC c (aP p d s)
  · have a0 := ha.1
    have n0 := ar.2.2 a0
    have sr := sL_r l.2.2.2.1.1 l.2.2.2.1.2 xd.1.1 xd.1.2 (by rw [xd.2.2, l.2.2.2.2.2]; exact fun e => l.2.1 e.symm)
    have e1 : cP c p d s = aP p d s := by unfold cP; rw [if_pos ha]
    have e2 : cD c p d s = x1 (LK d s) := by unfold cD; rw [if_pos ha]
    have e3 : cS c p d s = sL (x1 (LK d s)) (x1 d) := by unfold cS; rw [e2]; unfold cL; rw [if_pos ha]
    have e4 : cB c p d s = -1 := by unfold cB; rw [if_pos ha]
    -- back
    have na2 := by_r n0 (nP_r p0 p1 d0 d1 s0 s1).2 d0 d1
    rw [← na] at na2
    have f1 : nP (aP p d s) (x1 (LK d s)) (sL (x1 (LK d s)) (x1 d)) = nP p d s := by
      show bynd (aP p d s) (LK (x1 (LK d s)) (sL (x1 (LK d s)) (x1 d))) = _
      rw [sr.2]; exact na2.2.2 a0
    have f2 : aP (aP p d s) (x1 (LK d s)) (sL (x1 (LK d s)) (x1 d)) = p := by
      show bynd (nP (aP p d s) (x1 (LK d s)) (sL (x1 (LK d s)) (x1 d))) (x1 (LK d s)) = p
      rw [f1]; exact n.2.2 n0
    have f3 : isC c (aP (aP p d s) (x1 (LK d s)) (sL (x1 (LK d s)) (x1 d))) := by rw [f2]; exact ho.1
    rw [e1, e2, e3, e4]
    refine ⟨⟨a0, ar.2.1⟩, l.2.2.2.1, sr.1, ⟨ha, ?_⟩, ?_, ?_, ?_, ?_⟩
    · -- beyond it is what is beyond the first
      have : aP p d s = bynd (bynd p d) (LK d s) := b2
      have bd0 : 0 ≤ bynd p d := by
        by_cases q : bynd p d < 0
        · rw [by_neg q] at this; omega
        · omega
      have := (by_r bd0 dd.2.1 l.1.1 l.1.2).2.2
      rw [← b2] at this
      rw [show bynd (aP p d s) (x1 (LK d s)) = bynd p d from this a0]
      exact ho.2
    · unfold cP; rw [if_pos f3, f2]
    · unfold cD; rw [if_pos f3, sr.2, xd.2.1]
    · unfold cS cD cL
      rw [if_pos f3, if_pos f3, sr.2, xd.2.1, l.2.2.2.2.1, l.2.2.1]
    · unfold cB; rw [if_pos f3]
  · by_cases hn : isC c (nP p d s)
    · have n0 := hn.1
      have sr := sL_r d0 d1 l.2.2.2.1.1 l.2.2.2.1.2 (by rw [l.2.2.2.2.2]; exact l.2.1)
      have e1 : cP c p d s = nP p d s := by unfold cP; rw [if_neg ha, if_pos hn]
      have e2 : cD c p d s = d := by unfold cD; rw [if_neg ha, if_pos hn]
      have e3 : cS c p d s = sL d (x1 (LK d s)) := by unfold cS; rw [e2]; unfold cL; rw [if_neg ha, if_pos hn]
      have e4 : cB c p d s = 0 := by unfold cB; rw [if_neg ha, if_pos hn]
      have f1 : nP (nP p d s) d (sL d (x1 (LK d s))) = p := by
        show bynd (nP p d s) (LK d (sL d (x1 (LK d s)))) = p
        rw [sr.2]; exact n.2.2 n0
      have f2 : aP (nP p d s) d (sL d (x1 (LK d s))) = bynd p d := by
        show bynd (nP (nP p d s) d (sL d (x1 (LK d s)))) d = bynd p d
        rw [f1]
      have f3 : ¬ isC c (aP (nP p d s) d (sL d (x1 (LK d s)))) := by rw [f2]; exact ho.2
      have f4 : isC c (nP (nP p d s) d (sL d (x1 (LK d s)))) := by rw [f1]; exact ho.1
      rw [e1, e2, e3, e4]
      refine ⟨⟨n0, n.2.1⟩, ⟨d0, d1⟩, sr.1, ⟨hn, ha⟩, ?_, ?_, ?_, ?_⟩
      · unfold cP; rw [if_neg f3, if_pos f4, f1]
      · unfold cD; rw [if_neg f3, if_pos f4]
      · unfold cS cD cL
        rw [if_neg f3, if_pos f4, if_neg f3, if_pos f4, sr.2, l.2.2.2.2.1, l.2.2.1]
      · unfold cB; rw [if_neg f3, if_pos f4]
    · have sr := sL_r l.1.1 l.1.2 d0 d1 (fun e => l.2.1 e.symm)
      have e1 : cP c p d s = p := by unfold cP; rw [if_neg ha, if_neg hn]
      have e2 : cD c p d s = LK d s := by unfold cD; rw [if_neg ha, if_neg hn]
      have e3 : cS c p d s = sL (LK d s) d := by unfold cS; rw [e2]; unfold cL; rw [if_neg ha, if_neg hn]
      have e4 : cB c p d s = 1 := by unfold cB; rw [if_neg ha, if_neg hn]
      have f1 : nP p (LK d s) (sL (LK d s) d) = bynd p d := by
        show bynd p (LK (LK d s) (sL (LK d s) d)) = _
        rw [sr.2]
      have f2 : aP p (LK d s) (sL (LK d s) d) = aP p d s := by
        show bynd (nP p (LK d s) (sL (LK d s) d)) (LK d s) = aP p d s
        rw [f1]; exact b2.symm
      have f3 : ¬ isC c (aP p (LK d s) (sL (LK d s) d)) := by rw [f2]; exact ha
      have f4 : ¬ isC c (nP p (LK d s) (sL (LK d s) d)) := by rw [f1]; exact ho.2
      rw [e1, e2, e3, e4]
      refine ⟨⟨p0, p1⟩, l.1, sr.1, ⟨ho.1, hn⟩, ?_, ?_, ?_, ?_⟩
      · unfold cP; rw [if_neg f3, if_neg f4]
      · unfold cD; rw [if_neg f3, if_neg f4, sr.2]
      · unfold cS cD cL
        rw [if_neg f3, if_neg f4, if_neg f3, if_neg f4, sr.2, l.2.2.1]
      · unfold cB; rw [if_neg f3, if_neg f4]
end C8i2
/-- a cut edge is cut on both of its sides -/
def SYM0 (c ct : Int → Int) : Prop := ∀ p d s, 0 ≤ p → p < 64 → 0 ≤ d → d < 6 → 0 ≤ s → s < 4 → outr c p d → ct (4 * oN c (sq (cP c p d s) (cD c p d s)) + cS c p d s) = ct (4 * oN c (sq p d) + s)
def SYM (c ct : Int → Int) : Prop := SYM0 (nrm c) ct
theorem oN_384 (c : Int → Int) {p d : Int} (p0 : 0 ≤ p) (p1 : p < 64) (d0 : 0 ≤ d) (d1 : d < 6) (ho : outr c p d) : 0 ≤ oN c (sq p d) ∧ oN c (sq p d) < oN c 384 ∧ oN c (sq p d) < 384 := by
  have e := sq_c p0 d0
  have h := oN_lt c (show sq p d < 384 by omega) (by rw [sq_p p0 d0 d1, sq_d p0 d0 d1]; exact ho)
  have := oN_bound c (sq p d)
  omega
theorem SYM0.congr {c ct ct' : Int → Int} (h : SYM0 c ct) (h2 : ∀ z, 0 ≤ z → z < 1536 → ct' z = ct z) : SYM0 c ct' := by
  intro p d s p0 p1 d0 d1 s0 s1 ho
  have r := cr_r p0 p1 d0 d1 s0 s1 ho
  have b := oN_384 c p0 p1 d0 d1 ho
  have b' := oN_384 c r.1.1 r.1.2 r.2.1.1 r.2.1.2 r.2.2.2.1
  have s' := r.2.2.1
  rw [h2 _ (by omega) (by omega), h2 _ (by omega) (by omega)]
  exact h p d s p0 p1 d0 d1 s0 s1 ho
theorem SYM.congr {c ct c' ct' : Int → Int} (h : SYM c ct) (h1 : ∀ z, 0 ≤ z → z < 64 → c' z = c z) (h2 : ∀ z, 0 ≤ z → z < 1536 → ct' z = ct z) : SYM c' ct' := by
  unfold SYM
  rw [nrm_congr h1]
  exact SYM0.congr h h2
