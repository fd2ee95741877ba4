/-! corners and edges: class and reference agree -/
def bs (j i : Nat) : Int := if j = 0 then (i : Int) % 2 + 4 * ((i : Int) / 2 % 2) + 16 * ((i : Int) / 4) else if j = 1 then 4 * ((i : Int) % 2) + 16 * ((i : Int) / 2) else if j = 2 then 1 + 4 * ((i : Int) % 2) + 16 * ((i : Int) / 2) else if j = 3 then (i : Int) % 2 + 16 * ((i : Int) / 2) else if j = 4 then 4 + (i : Int) % 2 + 16 * ((i : Int) / 2) else if j = 5 then (i : Int) % 2 + 4 * ((i : Int) / 2) else 16 + (i : Int) % 2 + 4 * ((i : Int) / 2)
def nJm (j : Nat) : Nat := if j = 0 then 8 else 4
def off (d : Int) : Int := if d = 0 then 1 else if d = 1 then -1 else if d = 2 then 4 else if d = 3 then -4 else if d = 4 then 16 else -16
def dirO (o : Int) : Int := if o = 1 then 0 else if o = -1 then 1 else if o = 4 then 2 else if o = -4 then 3 else if o = 16 then 4 else 5
theorem by_off {p d : Int} (p0 : 0 ≤ p) (d0 : 0 ≤ d) (d1 : d < 6) (h : 0 ≤ bynd p d) : bynd p d = p + off d := by
  rcases (show d = 0 ∨ d = 1 ∨ d = 2 ∨ d = 3 ∨ d = 4 ∨ d = 5 by omega) with rfl | rfl | rfl | rfl | rfl | rfl
  all_goals (unfold bynd at h ⊢; unfold off; (repeat' split at h) <;> (try omega) <;> ((repeat' split) <;> omega))
theorem msk_f : ∀ j : Fin 7, ∀ q : Fin 64, lb (stL j.val) q.val = true ↔ ∃ i : Fin 8, i.val < nJm j.val ∧ (q.val : Int) = bs j.val i.val := by decide +kernel
theorem adj1_f : ∀ j : Fin 7, ∀ i : Fin 8, ∀ d : Fin 6, ∀ t : Fin 8, i.val < nJm j.val → t.val < nJm j.val → bs j.val t.val - bs j.val i.val = off d.val → ((t.val = i.val ^^^ 1) ∨ (t.val = i.val ^^^ 2) ∨ (t.val = i.val ^^^ 4 ∧ nJm j.val = 8)) := by decide +kernel
theorem bsi_f : ∀ j : Fin 7, ∀ i : Fin 8, ∀ t : Fin 8, i.val < nJm j.val → t.val < nJm j.val → bs j.val i.val = bs j.val t.val → i.val = t.val := by decide +kernel
theorem bsr_f : ∀ j : Fin 7, ∀ i : Fin 8, i.val < nJm j.val → 0 ≤ bs j.val i.val ∧ bs j.val i.val ≤ 21 := by decide +kernel
theorem adj2_f : ∀ k : Fin 27, ∀ j : Fin 7, ∀ i : Fin 8, i.val < nJm j.val → bynd (lsC k.val + bs j.val i.val) (dirO (bs j.val (i.val ^^^ 1) - bs j.val i.val)) = lsC k.val + bs j.val (i.val ^^^ 1) ∧ bynd (lsC k.val + bs j.val i.val) (dirO (bs j.val (i.val ^^^ 2) - bs j.val i.val)) = lsC k.val + bs j.val (i.val ^^^ 2) ∧ (nJm j.val = 8 → bynd (lsC k.val + bs j.val i.val) (dirO (bs j.val (i.val ^^^ 4) - bs j.val i.val)) = lsC k.val + bs j.val (i.val ^^^ 4)) := by decide +kernel
theorem dirO_r (o : Int) : 0 ≤ dirO o ∧ dirO o < 6 := by unfold dirO; (repeat' split) <;> omega
theorem nJm_48 (j : Nat) : n48 (nJm j) := by unfold nJm; split; exact Or.inr rfl; exact Or.inl rfl
theorem nJm_8 (j : Nat) : nJm j ≤ 8 := by unfold nJm; split <;> omega
theorem lsC_r {k : Int} (k0 : 0 ≤ k) (k1 : k < 27) : 0 ≤ lsC k ∧ lsC k ≤ 42 := by unfold lsC; omega
theorem msk_iff {j : Nat} {k p : Int} (hj : j < 7) (k0 : 0 ≤ k) (k1 : k < 27) : bt (MSK j k) p ↔ ∃ i, i < nJm j ∧ p = lsC k + bs j i := by
  have l := lsC_r k0 k1
  have e : ∀ n : Nat, n < 64 → lb (MSK j k) n = (decide ((lsC k).toNat ≤ n) && lb (stL j) (n - (lsC k).toNat)) := fun n hn => by
    unfold MSK
    have := lb_shl (stL j) (s := (lsC k).toNat) (n := n) (by omega) hn
    rw [ix_cast l.1] at this
    exact this
  constructor
  · rintro ⟨p0, p1, h⟩
    rw [e _ (by omega), Bool.and_eq_true] at h
    have a := of_decide_eq_true h.1
    obtain ⟨i, i1, i2⟩ := (msk_f ⟨j, hj⟩ ⟨p.toNat - (lsC k).toNat, by omega⟩).1 h.2
    exact ⟨i.val, i1, by simp only at i2; omega⟩
  · rintro ⟨i, i1, i2⟩
    have n8 := nJm_8 j
    have r := bsr_f ⟨j, hj⟩ ⟨i, by omega⟩ i1
    simp only at r
    refine ⟨by omega, by omega, ?_⟩
    rw [e _ (by omega), Bool.and_eq_true]
    refine ⟨decide_eq_true (by omega), ?_⟩
    have := (msk_f ⟨j, hj⟩ ⟨(bs j i).toNat, by omega⟩).2 ⟨⟨i, by omega⟩, i1, by simp only; omega⟩
    simp only at this
    rw [show p.toNat - (lsC k).toNat = (bs j i).toNat by omega]
    exact this
theorem cls_JN {c : Int → Int} {j : Nat} {k : Int} (hj : j < 7) (k0 : 0 ≤ k) (k1 : k < 27) : CN (fun p => cuP c p ∧ bt (MSK j k) p) ↔ JN (nJm j) (pt (fun i => c (lsC k + bs j i)) (nJm j)) := by
  have l := lsC_r k0 k1
  have n8 := nJm_8 j
  have r : ∀ i, i < nJm j → 0 ≤ bs j i ∧ bs j i ≤ 21 := fun i hi => bsr_f ⟨j, hj⟩ ⟨i, by omega⟩ hi
  refine emb_CN (E := fun i => lsC k + bs j i) (nJm_48 j) (fun p => ?_) (fun i t hi ht e => ?_) (fun i d t hi d0 d1 ht e => ?_) (fun i b hi hb => ?_)
  · rw [msk_iff hj k0 k1]
    constructor
    · rintro ⟨⟨_, _, g⟩, i, i1, i2⟩
      exact ⟨i, i1, i2, by rw [← i2]; exact g⟩
    · rintro ⟨i, i1, i2, i3⟩
      have := r i i1
      exact ⟨⟨by omega, by omega, by rw [i2]; exact i3⟩, i, i1, i2⟩
  · exact bsi_f ⟨j, hj⟩ ⟨i, by omega⟩ ⟨t, by omega⟩ hi ht (by simp only at e ⊢; omega)
  · have ri := r i hi
    have rt := r t ht
    have o := by_off (show 0 ≤ lsC k + bs j i by omega) d0 d1 (by omega)
    have := adj1_f ⟨j, hj⟩ ⟨i, by omega⟩ ⟨d.toNat, by omega⟩ ⟨t, by omega⟩ hi ht (by simp only [ix_cast d0]; omega)
    simp only at this
    rcases this with q | q | q
    · exact ⟨1, Or.inl rfl, q⟩
    · exact ⟨2, Or.inr (Or.inl rfl), q⟩
    · exact ⟨4, Or.inr (Or.inr ⟨rfl, q.2⟩), q.1⟩
  · have a := adj2_f ⟨k.toNat, by omega⟩ ⟨j, hj⟩ ⟨i, by omega⟩ hi
    simp only [ix_cast k0] at a
    rcases hb with rfl | rfl | ⟨rfl, q⟩
    · exact ⟨_, (dirO_r _).1, (dirO_r _).2, a.1⟩
    · exact ⟨_, (dirO_r _).1, (dirO_r _).2, a.2.1⟩
    · exact ⟨_, (dirO_r _).1, (dirO_r _).2, a.2.2 q⟩
/-- the cube or nothing at a point -/
def V3 (c : Int → Int) (x y z : Int) : Int := vl c (plc x y z)
theorem V3_out {c : Int → Int} {x y z : Int} (h : ¬ ((0 ≤ x ∧ x ≤ 3) ∧ (0 ≤ y ∧ y ≤ 3) ∧ (0 ≤ z ∧ z ≤ 3))) : V3 c x y z ≠ 1 := by
  have e : plc x y z = -1 := if_neg h
  unfold V3 vl
  rw [e, if_neg (by omega)]
  omega
theorem V3_in {c : Int → Int} {x y z : Int} (h : (0 ≤ x ∧ x ≤ 3) ∧ (0 ≤ y ∧ y ≤ 3) ∧ (0 ≤ z ∧ z ≤ 3)) : V3 c x y z = c (16 * z + 4 * y + x) := by
  have e : plc x y z = 16 * z + 4 * y + x := if_pos h
  unfold V3 vl
  rw [e, if_pos (by omega)]
def fC (c : Int → Int) (x y z : Int) : Nat → Int := fun i => V3 c (x + (i : Int) % 2) (y + (i : Int) / 2 % 2) (z + (i : Int) / 4)
def fE (c : Int → Int) (x y z a : Int) : Nat → Int := fun i => if a = 0 then V3 c x (y + (i : Int) % 2) (z + (i : Int) / 2) else if a = 1 then V3 c (x + (i : Int) % 2) y (z + (i : Int) / 2) else V3 c (x + (i : Int) % 2) (y + (i : Int) / 2) z
abbrev CW (c : Int → Int) (x y z : Int) : Prop := JN 8 (pt (fC c x y z) 8)
abbrev EW (c : Int → Int) (x y z a : Int) : Prop := JN 4 (pt (fE c x y z a) 4)
theorem pt_congr {f g : Nat → Int} : ∀ n, (∀ i, i < n → f i = g i) → pt f n = pt g n
  | 0, _ => rfl
  | n + 1, h => by rw [pt, pt, h n (by omega), pt_congr n (fun i hi => h i (by omega))]
theorem JN4_f : ∀ P : Fin 16, ((P.val.testBit 0 = false ∧ P.val.testBit 2 = false) ∨ (P.val.testBit 1 = false ∧ P.val.testBit 3 = false) ∨ (P.val.testBit 0 = false ∧ P.val.testBit 1 = false) ∨ (P.val.testBit 2 = false ∧ P.val.testBit 3 = false)) → JN 4 P.val := by decide +kernel
theorem JN4_t {f : Nat → Int} (h : (f 0 ≠ 1 ∧ f 2 ≠ 1) ∨ (f 1 ≠ 1 ∧ f 3 ≠ 1) ∨ (f 0 ≠ 1 ∧ f 1 ≠ 1) ∨ (f 2 ≠ 1 ∧ f 3 ≠ 1)) : JN 4 (pt f 4) := by
  refine JN4_f ⟨pt f 4, pt_lt f 4⟩ ?_
  simp only
  rw [pt_bit f 4 (show 0 < 4 by omega), pt_bit f 4 (show 1 < 4 by omega), pt_bit f 4 (show 2 < 4 by omega), pt_bit f 4 (show 3 < 4 by omega)]
  rcases h with ⟨a, b⟩ | ⟨a, b⟩ | ⟨a, b⟩ | ⟨a, b⟩
  · exact Or.inl ⟨decide_eq_false a, decide_eq_false b⟩
  · exact Or.inr (Or.inl ⟨decide_eq_false a, decide_eq_false b⟩)
  · exact Or.inr (Or.inr (Or.inl ⟨decide_eq_false a, decide_eq_false b⟩))
  · exact Or.inr (Or.inr (Or.inr ⟨decide_eq_false a, decide_eq_false b⟩))
/-- four bits among eight -/
def s48 (P g0 g1 g2 g3 : Nat) : Nat := (if P.testBit 0 = true then 2 ^ g0 else 0) + (if P.testBit 1 = true then 2 ^ g1 else 0) + (if P.testBit 2 = true then 2 ^ g2 else 0) + (if P.testBit 3 = true then 2 ^ g3 else 0)
theorem s48_f : ∀ P : Fin 16, JN 4 P.val → JN 8 (s48 P.val 1 3 5 7) ∧ JN 8 (s48 P.val 0 2 4 6) ∧ JN 8 (s48 P.val 2 3 6 7) ∧ JN 8 (s48 P.val 0 1 4 5) ∧ JN 8 (s48 P.val 4 5 6 7) ∧ JN 8 (s48 P.val 0 1 2 3) := by decide +kernel
theorem s48_r (f : Nat → Int) (g0 g1 g2 g3 : Nat) : s48 (pt f 4) g0 g1 g2 g3 = (if f 0 = 1 then 2 ^ g0 else 0) + (if f 1 = 1 then 2 ^ g1 else 0) + (if f 2 = 1 then 2 ^ g2 else 0) + (if f 3 = 1 then 2 ^ g3 else 0) := by
  unfold s48
  rw [pt_bit f 4 (show 0 < 4 by omega), pt_bit f 4 (show 1 < 4 by omega), pt_bit f 4 (show 2 < 4 by omega), pt_bit f 4 (show 3 < 4 by omega)]
  simp only [decide_eq_true_eq]
theorem JN8_s {f : Nat → Int} (h : JN 4 (pt f 4)) : JN 8 (s48 (pt f 4) 1 3 5 7) ∧ JN 8 (s48 (pt f 4) 0 2 4 6) ∧ JN 8 (s48 (pt f 4) 2 3 6 7) ∧ JN 8 (s48 (pt f 4) 0 1 4 5) ∧ JN 8 (s48 (pt f 4) 4 5 6 7) ∧ JN 8 (s48 (pt f 4) 0 1 2 3) := s48_f ⟨pt f 4, pt_lt f 4⟩ h
theorem pt8 (f : Nat → Int) : pt f 8 = (if f 7 = 1 then 2 ^ 7 else 0) + ((if f 6 = 1 then 2 ^ 6 else 0) + ((if f 5 = 1 then 2 ^ 5 else 0) + ((if f 4 = 1 then 2 ^ 4 else 0) + ((if f 3 = 1 then 2 ^ 3 else 0) + ((if f 2 = 1 then 2 ^ 2 else 0) + ((if f 1 = 1 then 2 ^ 1 else 0) + ((if f 0 = 1 then 2 ^ 0 else 0) + 0))))))) := rfl
theorem W3_iff (c : Int → Int) : (∀ x y z, -1 ≤ x → x < 4 → -1 ≤ y → y < 4 → -1 ≤ z → z < 4 → CW c x y z ∧ EW c x y z 0 ∧ EW c x y z 1 ∧ EW c x y z 2) ↔ W3 c := by
  -- inner ones
  have i0 : ∀ {x y z k : Int}, 0 ≤ x → x ≤ 2 → 0 ≤ y → y ≤ 2 → 0 ≤ z → z ≤ 2 → k = x + 3 * y + 9 * z → (CW c x y z ↔ CN (fun p => cuP c p ∧ bt (MSK ((0 : Nat) : Int) k) p)) := fun {x y z k} a1 a2 a3 a4 a5 a6 e => by
    rw [cls_JN (by omega) (by omega) (by omega)]
    show JN 8 _ ↔ JN 8 _
    rw [pt_congr (f := fC c x y z) (g := fun i => c (lsC k + bs 0 i)) 8 (fun i hi => ?_)]
    · exact Iff.rfl
    · unfold fC
      rw [V3_in (by omega)]
      congr 1
      unfold lsC bs
      rw [if_pos rfl]
      omega
  have i1 : ∀ {x y z k : Int} (j : Nat), (j = 1 ∨ j = 2) → 0 ≤ x → x ≤ 3 → 0 ≤ y → y ≤ 2 → 0 ≤ z → z ≤ 2 → x - j + 1 ≤ 2 → 0 ≤ x - j + 1 → k = (x - j + 1) + 3 * y + 9 * z → (EW c x y z 0 ↔ CN (fun p => cuP c p ∧ bt (MSK (j : Int) k) p)) := fun {x y z k} j hj a1 a2 a3 a4 a5 a6 a7 a8 e => by
    rw [cls_JN (by omega) (by omega) (by omega)]
    have nj : nJm j = 4 := if_neg (by omega)
    rw [nj]
    show JN 4 _ ↔ JN 4 _
    rw [pt_congr (f := fE c x y z 0) (g := fun i => c (lsC k + bs j i)) 4 (fun i hi => ?_)]
    · unfold fE
      rw [if_pos rfl, V3_in (by omega)]
      congr 1
      unfold lsC bs
      rcases hj with rfl | rfl
      · rw [if_neg (by omega), if_pos rfl]; omega
      · rw [if_neg (by omega), if_neg (by omega), if_pos rfl]; omega
  have i2 : ∀ {x y z k : Int} (j : Nat), (j = 3 ∨ j = 4) → 0 ≤ x → x ≤ 2 → 0 ≤ y → y ≤ 3 → 0 ≤ z → z ≤ 2 → y - j + 3 ≤ 2 → 0 ≤ y - j + 3 → k = x + 3 * (y - j + 3) + 9 * z → (EW c x y z 1 ↔ CN (fun p => cuP c p ∧ bt (MSK (j : Int) k) p)) := fun {x y z k} j hj a1 a2 a3 a4 a5 a6 a7 a8 e => by
    rw [cls_JN (by omega) (by omega) (by omega)]
    have nj : nJm j = 4 := if_neg (by omega)
    rw [nj]
    show JN 4 _ ↔ JN 4 _
    rw [pt_congr (f := fE c x y z 1) (g := fun i => c (lsC k + bs j i)) 4 (fun i hi => ?_)]
    · unfold fE
      rw [if_neg (by omega), if_pos rfl, V3_in (by omega)]
      congr 1
      unfold lsC bs
      rcases hj with rfl | rfl
      · rw [if_neg (by omega), if_neg (by omega), if_neg (by omega), if_pos rfl]; omega
      · rw [if_neg (by omega), if_neg (by omega), if_neg (by omega), if_neg (by omega), if_pos rfl]; omega
  have i3 : ∀ {x y z k : Int} (j : Nat), (j = 5 ∨ j = 6) → 0 ≤ x → x ≤ 2 → 0 ≤ y → y ≤ 2 → 0 ≤ z → z ≤ 3 → z - j + 5 ≤ 2 → 0 ≤ z - j + 5 → k = x + 3 * y + 9 * (z - j + 5) → (EW c x y z 2 ↔ CN (fun p => cuP c p ∧ bt (MSK (j : Int) k) p)) := fun {x y z k} j hj a1 a2 a3 a4 a5 a6 a7 a8 e => by
    rw [cls_JN (by omega) (by omega) (by omega)]
    have nj : nJm j = 4 := if_neg (by omega)
    rw [nj]
    show JN 4 _ ↔ JN 4 _
    rw [pt_congr (f := fE c x y z 2) (g := fun i => c (lsC k + bs j i)) 4 (fun i hi => ?_)]
    · unfold fE
      rw [if_neg (by omega), if_neg (by omega), V3_in (by omega)]
      congr 1
      unfold lsC bs
      rcases hj with rfl | rfl
      · rw [if_neg (by omega), if_neg (by omega), if_neg (by omega), if_neg (by omega), if_neg (by omega), if_pos rfl]; omega
      · rw [if_neg (by omega), if_neg (by omega), if_neg (by omega), if_neg (by omega), if_neg (by omega), if_neg (by omega)]; omega
  constructor
  · intro h k j k0 k1 j0 j1
    rcases (show j = 0 ∨ j = 1 ∨ j = 2 ∨ j = 3 ∨ j = 4 ∨ j = 5 ∨ j = 6 by omega) with rfl | rfl | rfl | rfl | rfl | rfl | rfl
    · exact (i0 (x := k % 3) (y := k / 3 % 3) (z := k / 9) (by omega) (by omega) (by omega) (by omega) (by omega) (by omega) (by omega)).1 (h _ _ _ (by omega) (by omega) (by omega) (by omega) (by omega) (by omega)).1
    · exact (i1 (x := k % 3) (y := k / 3 % 3) (z := k / 9) 1 (by omega) (by omega) (by omega) (by omega) (by omega) (by omega) (by omega) (by omega) (by omega) (by omega)).1 (h _ _ _ (by omega) (by omega) (by omega) (by omega) (by omega) (by omega)).2.1
    · exact (i1 (x := k % 3 + 1) (y := k / 3 % 3) (z := k / 9) 2 (by omega) (by omega) (by omega) (by omega) (by omega) (by omega) (by omega) (by omega) (by omega) (by omega)).1 (h _ _ _ (by omega) (by omega) (by omega) (by omega) (by omega) (by omega)).2.1
    · exact (i2 (x := k % 3) (y := k / 3 % 3) (z := k / 9) 3 (by omega) (by omega) (by omega) (by omega) (by omega) (by omega) (by omega) (by omega) (by omega) (by omega)).1 (h _ _ _ (by omega) (by omega) (by omega) (by omega) (by omega) (by omega)).2.2.1
    · exact (i2 (x := k % 3) (y := k / 3 % 3 + 1) (z := k / 9) 4 (by omega) (by omega) (by omega) (by omega) (by omega) (by omega) (by omega) (by omega) (by omega) (by omega)).1 (h _ _ _ (by omega) (by omega) (by omega) (by omega) (by omega) (by omega)).2.2.1
    · exact (i3 (x := k % 3) (y := k / 3 % 3) (z := k / 9) 5 (by omega) (by omega) (by omega) (by omega) (by omega) (by omega) (by omega) (by omega) (by omega) (by omega)).1 (h _ _ _ (by omega) (by omega) (by omega) (by omega) (by omega) (by omega)).2.2.2
    · exact (i3 (x := k % 3) (y := k / 3 % 3) (z := k / 9 + 1) 6 (by omega) (by omega) (by omega) (by omega) (by omega) (by omega) (by omega) (by omega) (by omega) (by omega)).1 (h _ _ _ (by omega) (by omega) (by omega) (by omega) (by omega) (by omega)).2.2.2
  · intro h
    have e0 : ∀ x y z, -1 ≤ x → x < 4 → -1 ≤ y → y < 4 → -1 ≤ z → z < 4 → EW c x y z 0 := fun x y z a1 a2 a3 a4 a5 a6 => by
      by_cases q : 0 ≤ x ∧ 0 ≤ y ∧ y ≤ 2 ∧ 0 ≤ z ∧ z ≤ 2
      · by_cases g : x = 3
        · exact (i1 2 (by omega) (by omega) (by omega) (by omega) (by omega) (by omega) (by omega) (by omega) (by omega) rfl).2 (h _ 2 (by omega) (by omega) (by omega) (by omega))
        · exact (i1 1 (by omega) (by omega) (by omega) (by omega) (by omega) (by omega) (by omega) (by omega) (by omega) rfl).2 (h _ 1 (by omega) (by omega) (by omega) (by omega))
      · refine JN4_t ?_
        have o : ∀ i : Nat, ¬ ((0 ≤ x ∧ x ≤ 3) ∧ (0 ≤ y + (i : Int) % 2 ∧ y + (i : Int) % 2 ≤ 3) ∧ (0 ≤ z + (i : Int) / 2 ∧ z + (i : Int) / 2 ≤ 3)) → fE c x y z 0 i ≠ 1 := fun i g => by unfold fE; rw [if_pos rfl]; exact V3_out g
        by_cases x0 : x < 0
        · exact Or.inl ⟨o 0 (by omega), o 2 (by omega)⟩
        by_cases y0 : y < 0
        · exact Or.inl ⟨o 0 (by omega), o 2 (by omega)⟩
        by_cases y3 : y = 3
        · exact Or.inr (Or.inl ⟨o 1 (by omega), o 3 (by omega)⟩)
        by_cases z0 : z < 0
        · exact Or.inr (Or.inr (Or.inl ⟨o 0 (by omega), o 1 (by omega)⟩))
        · exact Or.inr (Or.inr (Or.inr ⟨o 2 (by omega), o 3 (by omega)⟩))
    have e1 : ∀ x y z, -1 ≤ x → x < 4 → -1 ≤ y → y < 4 → -1 ≤ z → z < 4 → EW c x y z 1 := fun x y z a1 a2 a3 a4 a5 a6 => by
      by_cases q : 0 ≤ y ∧ 0 ≤ x ∧ x ≤ 2 ∧ 0 ≤ z ∧ z ≤ 2
      · by_cases g : y = 3
        · exact (i2 4 (by omega) (by omega) (by omega) (by omega) (by omega) (by omega) (by omega) (by omega) (by omega) rfl).2 (h _ 4 (by omega) (by omega) (by omega) (by omega))
        · exact (i2 3 (by omega) (by omega) (by omega) (by omega) (by omega) (by omega) (by omega) (by omega) (by omega) rfl).2 (h _ 3 (by omega) (by omega) (by omega) (by omega))
      · refine JN4_t ?_
        have o : ∀ i : Nat, ¬ ((0 ≤ x + (i : Int) % 2 ∧ x + (i : Int) % 2 ≤ 3) ∧ (0 ≤ y ∧ y ≤ 3) ∧ (0 ≤ z + (i : Int) / 2 ∧ z + (i : Int) / 2 ≤ 3)) → fE c x y z 1 i ≠ 1 := fun i g => by unfold fE; rw [if_neg (by omega), if_pos rfl]; exact V3_out g
        by_cases x0 : y < 0
        · exact Or.inl ⟨o 0 (by omega), o 2 (by omega)⟩
        by_cases y0 : x < 0
        · exact Or.inl ⟨o 0 (by omega), o 2 (by omega)⟩
        by_cases y3 : x = 3
        · exact Or.inr (Or.inl ⟨o 1 (by omega), o 3 (by omega)⟩)
        by_cases z0 : z < 0
        · exact Or.inr (Or.inr (Or.inl ⟨o 0 (by omega), o 1 (by omega)⟩))
        · exact Or.inr (Or.inr (Or.inr ⟨o 2 (by omega), o 3 (by omega)⟩))
    have e2 : ∀ x y z, -1 ≤ x → x < 4 → -1 ≤ y → y < 4 → -1 ≤ z → z < 4 → EW c x y z 2 := fun x y z a1 a2 a3 a4 a5 a6 => by
      by_cases q : 0 ≤ z ∧ 0 ≤ x ∧ x ≤ 2 ∧ 0 ≤ y ∧ y ≤ 2
      · by_cases g : z = 3
        · exact (i3 6 (by omega) (by omega) (by omega) (by omega) (by omega) (by omega) (by omega) (by omega) (by omega) rfl).2 (h _ 6 (by omega) (by omega) (by omega) (by omega))
        · exact (i3 5 (by omega) (by omega) (by omega) (by omega) (by omega) (by omega) (by omega) (by omega) (by omega) rfl).2 (h _ 5 (by omega) (by omega) (by omega) (by omega))
      · refine JN4_t ?_
        have o : ∀ i : Nat, ¬ ((0 ≤ x + (i : Int) % 2 ∧ x + (i : Int) % 2 ≤ 3) ∧ (0 ≤ y + (i : Int) / 2 ∧ y + (i : Int) / 2 ≤ 3) ∧ (0 ≤ z ∧ z ≤ 3)) → fE c x y z 2 i ≠ 1 := fun i g => by unfold fE; rw [if_neg (by omega), if_neg (by omega)]; exact V3_out g
        by_cases x0 : z < 0
        · exact Or.inl ⟨o 0 (by omega), o 2 (by omega)⟩
        by_cases y0 : x < 0
        · exact Or.inl ⟨o 0 (by omega), o 2 (by omega)⟩
        by_cases y3 : x = 3
        · exact Or.inr (Or.inl ⟨o 1 (by omega), o 3 (by omega)⟩)
        by_cases z0 : y < 0
        · exact Or.inr (Or.inr (Or.inl ⟨o 0 (by omega), o 1 (by omega)⟩))
        · exact Or.inr (Or.inr (Or.inr ⟨o 2 (by omega), o 3 (by omega)⟩))
    intro x y z a1 a2 a3 a4 a5 a6
    refine ⟨?_, e0 x y z a1 a2 a3 a4 a5 a6, e1 x y z a1 a2 a3 a4 a5 a6, e2 x y z a1 a2 a3 a4 a5 a6⟩
    have out : ∀ i : Nat, ¬ ((0 ≤ x + (i : Int) % 2 ∧ x + (i : Int) % 2 ≤ 3) ∧ (0 ≤ y + (i : Int) / 2 % 2 ∧ y + (i : Int) / 2 % 2 ≤ 3) ∧ (0 ≤ z + (i : Int) / 4 ∧ z + (i : Int) / 4 ≤ 3)) → ¬ fC c x y z i = 1 := fun i g => V3_out g
    by_cases x0 : x < 0
    · have := (JN8_s (e0 0 y z (by omega) (by omega) a3 a4 a5 a6)).1
      have ex : x = -1 := by omega
      subst ex
      rw [s48_r] at this
      show JN 8 _
      rw [pt8, if_neg (out 0 (by omega)), if_neg (out 2 (by omega)), if_neg (out 4 (by omega)), if_neg (out 6 (by omega))]
      have t : ∀ i : Nat, i < 4 → fC c (-1) y z (2 * i + 1) = fE c 0 y z 0 i := fun i hi => by
        unfold fC fE; rw [if_pos rfl]
        congr 1 <;> omega
      rw [show fC c (-1) y z 1 = fE c 0 y z 0 0 from t 0 (by omega), show fC c (-1) y z 3 = fE c 0 y z 0 1 from t 1 (by omega), show fC c (-1) y z 5 = fE c 0 y z 0 2 from t 2 (by omega), show fC c (-1) y z 7 = fE c 0 y z 0 3 from t 3 (by omega)]
      rw [show ∀ a b d e : Nat, e + (0 + (d + (0 + (b + (0 + (a + (0 + 0))))))) = a + b + d + e from fun a b d e => by omega]
      exact this
    by_cases x3 : x = 3
    · have := (JN8_s (e0 3 y z (by omega) (by omega) a3 a4 a5 a6)).2.1
      subst x3
      rw [s48_r] at this
      show JN 8 _
      rw [pt8, if_neg (out 1 (by omega)), if_neg (out 3 (by omega)), if_neg (out 5 (by omega)), if_neg (out 7 (by omega))]
      have t : ∀ i : Nat, i < 4 → fC c 3 y z (2 * i) = fE c 3 y z 0 i := fun i hi => by
        unfold fC fE; rw [if_pos rfl]
        congr 1 <;> omega
      rw [show fC c 3 y z 0 = fE c 3 y z 0 0 from t 0 (by omega), show fC c 3 y z 2 = fE c 3 y z 0 1 from t 1 (by omega), show fC c 3 y z 4 = fE c 3 y z 0 2 from t 2 (by omega), show fC c 3 y z 6 = fE c 3 y z 0 3 from t 3 (by omega)]
      rw [show ∀ a b d e : Nat, 0 + (e + (0 + (d + (0 + (b + (0 + (a + 0))))))) = a + b + d + e from fun a b d e => by omega]
      exact this
    by_cases y0 : y < 0
    · have := (JN8_s (e1 x 0 z a1 a2 (by omega) (by omega) a5 a6)).2.2.1
      have ex : y = -1 := by omega
      subst ex
      rw [s48_r] at this
      show JN 8 _
      rw [pt8, if_neg (out 0 (by omega)), if_neg (out 1 (by omega)), if_neg (out 4 (by omega)), if_neg (out 5 (by omega))]
      have t : ∀ i : Nat, i < 4 → fC c x (-1) z (i % 2 + 2 + 4 * (i / 2)) = fE c x 0 z 1 i := fun i hi => by
        unfold fC fE; rw [if_neg (by omega), if_pos rfl]
        congr 1 <;> omega
      rw [show fC c x (-1) z 2 = fE c x 0 z 1 0 from t 0 (by omega), show fC c x (-1) z 3 = fE c x 0 z 1 1 from t 1 (by omega), show fC c x (-1) z 6 = fE c x 0 z 1 2 from t 2 (by omega), show fC c x (-1) z 7 = fE c x 0 z 1 3 from t 3 (by omega)]
      rw [show ∀ a b d e : Nat, e + (d + (0 + (0 + (b + (a + (0 + (0 + 0))))))) = a + b + d + e from fun a b d e => by omega]
      exact this
    by_cases y3 : y = 3
    · have := (JN8_s (e1 x 3 z a1 a2 (by omega) (by omega) a5 a6)).2.2.2.1
      subst y3
      rw [s48_r] at this
      show JN 8 _
      rw [pt8, if_neg (out 2 (by omega)), if_neg (out 3 (by omega)), if_neg (out 6 (by omega)), if_neg (out 7 (by omega))]
      have t : ∀ i : Nat, i < 4 → fC c x 3 z (i % 2 + 4 * (i / 2)) = fE c x 3 z 1 i := fun i hi => by
        unfold fC fE; rw [if_neg (by omega), if_pos rfl]
        congr 1 <;> omega
      rw [show fC c x 3 z 0 = fE c x 3 z 1 0 from t 0 (by omega), show fC c x 3 z 1 = fE c x 3 z 1 1 from t 1 (by omega), show fC c x 3 z 4 = fE c x 3 z 1 2 from t 2 (by omega), show fC c x 3 z 5 = fE c x 3 z 1 3 from t 3 (by omega)]
      rw [show ∀ a b d e : Nat, 0 + (0 + (e + (d + (0 + (0 + (b + (a + 0))))))) = a + b + d + e from fun a b d e => by omega]
      exact this
    by_cases z0 : z < 0
    · have := (JN8_s (e2 x y 0 a1 a2 a3 a4 (by omega) (by omega))).2.2.2.2.1
      have ex : z = -1 := by omega
      subst ex
      rw [s48_r] at this
      show JN 8 _
      rw [pt8, if_neg (out 0 (by omega)), if_neg (out 1 (by omega)), if_neg (out 2 (by omega)), if_neg (out 3 (by omega))]
      have t : ∀ i : Nat, i < 4 → fC c x y (-1) (i + 4) = fE c x y 0 2 i := fun i hi => by
        unfold fC fE; rw [if_neg (by omega), if_neg (by omega)]
        congr 1 <;> omega
      rw [show fC c x y (-1) 4 = fE c x y 0 2 0 from t 0 (by omega), show fC c x y (-1) 5 = fE c x y 0 2 1 from t 1 (by omega), show fC c x y (-1) 6 = fE c x y 0 2 2 from t 2 (by omega), show fC c x y (-1) 7 = fE c x y 0 2 3 from t 3 (by omega)]
      rw [show ∀ a b d e : Nat, e + (d + (b + (a + (0 + (0 + (0 + (0 + 0))))))) = a + b + d + e from fun a b d e => by omega]
      exact this
    by_cases z3 : z = 3
    · have := (JN8_s (e2 x y 3 a1 a2 a3 a4 (by omega) (by omega))).2.2.2.2.2
      subst z3
      rw [s48_r] at this
      show JN 8 _
      rw [pt8, if_neg (out 4 (by omega)), if_neg (out 5 (by omega)), if_neg (out 6 (by omega)), if_neg (out 7 (by omega))]
      have t : ∀ i : Nat, i < 4 → fC c x y 3 i = fE c x y 3 2 i := fun i hi => by
        unfold fC fE; rw [if_neg (by omega), if_neg (by omega)]
        congr 1 <;> omega
      rw [show fC c x y 3 0 = fE c x y 3 2 0 from t 0 (by omega), show fC c x y 3 1 = fE c x y 3 2 1 from t 1 (by omega), show fC c x y 3 2 = fE c x y 3 2 2 from t 2 (by omega), show fC c x y 3 3 = fE c x y 3 2 3 from t 3 (by omega)]
      rw [show ∀ a b d e : Nat, 0 + (0 + (0 + (0 + (e + (d + (b + (a + 0))))))) = a + b + d + e from fun a b d e => by omega]
      exact this
    exact (i0 (by omega) (by omega) (by omega) (by omega) (by omega) (by omega) rfl).2 (h _ 0 (by omega) (by omega) (by omega) (by omega))
