/-! wrapping, told by places; turned over -/
def WRP (s : SS) (L : Int → Int) (ov x0 y0 st : Int) : Prop := ∃ lab : Int → Int → Int, lab x0 y0 = st ∧ (∀ x y d, 0 ≤ d → d < 4 → s4 s x y d ≠ 0 → s.1 x y → lab (x + dX d) (y + dY d) = crW L ov d (lab x y)) ∧ (∀ x y x' y', s.1 x y → s.1 x' y' → lab x y / 4 = lab x' y' / 4 → x = x' ∧ y = y') ∧ (∀ Q : Int → Int → Prop, Q x0 y0 → (∀ x y d, 0 ≤ d → d < 4 → s4 s x y d ≠ 0 → s.1 x y → Q x y → Q (x + dX d) (y + dY d)) → ∀ x y, s.1 x y → Q x y)
theorem FT_WRP {s : SS} {n : Int} {X Y L : Int → Int} {ov r st : Int} (hr : RepI n X Y s.1) (hw : WF s) (r0 : 0 ≤ r) (r1 : r < n) : FT n (cG s X Y) (nG n X Y) L ov r st ↔ WRP s L ov (X r) (Y r) st := by
  have fk : ∀ k, 0 ≤ k → k < n → fnd n X Y (X k) (Y k) = k := fun k k0 k1 => fnd_some hr.2.2.1 k0 k1 rfl rfl
  constructor
  · rintro ⟨lab, l0, cw, inj, rg⟩
    refine ⟨fun x y => lab (fnd n X Y x y), ?_, fun x y d d0 d1 hs hp => ?_, fun x y x' y' hp hp' e => ?_, fun Q q hs x y hp => ?_⟩
    · show lab (fnd n X Y (X r) (Y r)) = st
      rw [fk r r0 r1]; exact l0
    · obtain ⟨k, k0, k1, rfl, rfl⟩ := (hr.2.2.2 x y).1 hp
      have := cw k d (nG n X Y k d) ⟨k0, k1, d0, d1, hs, rfl⟩
      show lab (fnd n X Y (X k + dX d) (Y k + dY d)) = crW L ov d (lab (fnd n X Y (X k) (Y k)))
      rw [fk k k0 k1]
      exact this
    · obtain ⟨k, k0, k1, rfl, rfl⟩ := (hr.2.2.2 x y).1 hp
      obtain ⟨j, j0, j1, rfl, rfl⟩ := (hr.2.2.2 x' y').1 hp'
      have e' : lab (fnd n X Y (X k) (Y k)) / 4 = lab (fnd n X Y (X j) (Y j)) / 4 := e
      rw [fk k k0 k1, fk j j0 j1] at e'
      rw [inj k j k0 k1 j0 j1 e']
      exact ⟨rfl, rfl⟩
    · obtain ⟨k, k0, k1, rfl, rfl⟩ := (hr.2.2.2 x y).1 hp
      refine rg k k0 k1 (fun k => Q (X k) (Y k)) q (fun k d o e z => ?_)
      obtain ⟨a0, a1, d0, d1, hc, ho⟩ := e
      obtain ⟨-, b, c⟩ := nG_in hr hw d0 d1 hc
      have := hs (X k) (Y k) d d0 d1 hc (hr.in a0 a1) z
      rw [ho] at b c
      show Q (X o) (Y o)
      rw [b, c]; exact this
  · rintro ⟨lab, l0, cw, inj, rg⟩
    refine ⟨fun k => lab (X k) (Y k), l0, fun k d o e => ?_, fun j k j0 j1 k0 k1 e => ?_, fun k k0 k1 Q q hs => ?_⟩
    · obtain ⟨a0, a1, d0, d1, hc, ho⟩ := e
      obtain ⟨-, b, c⟩ := nG_in hr hw d0 d1 hc
      rw [ho] at b c
      show lab (X o) (Y o) = crW L ov d (lab (X k) (Y k))
      rw [b, c]
      exact cw _ _ d d0 d1 hc (hr.in a0 a1)
    · have := inj _ _ _ _ (hr.in j0 j1) (hr.in k0 k1) e
      exact srt_inj hr.2.2.1 j0 j1 k0 k1 this.1 this.2
    · have := rg (fun x y => Q (fnd n X Y x y)) (by show Q (fnd n X Y (X r) (Y r)); rw [fk r r0 r1]; exact q) (fun x y d d0 d1 hc hp z => by
        obtain ⟨j, j0, j1, rfl, rfl⟩ := (hr.2.2.2 x y).1 hp
        have z' : Q (fnd n X Y (X j) (Y j)) := z
        rw [fk j j0 j1] at z'
        exact hs j d (nG n X Y j d) ⟨j0, j1, d0, d1, hc, rfl⟩ z') (X k) (Y k) (hr.in k0 k1)
      have this' : Q (fnd n X Y (X k) (Y k)) := this
      rw [fk k k0 k1] at this'
      exact this'
theorem s4_t1 (s : SS) (x y : Int) {d : Int} (d0 : 0 ≤ d) (d1 : d < 4) : s4 (tS 1 s) x y d = s4 s (-x) y ((2 - d) % 4) := by
  rcases d4 d0 d1 with rfl | rfl | rfl | rfl
  · rfl
  · rfl
  · show s.2.1 (-(x - 1) - 1) y = s.2.1 (-x) y
    rw [show -(x - 1) - 1 = -x by omega]
  · rfl
theorem dX_m {d : Int} (d0 : 0 ≤ d) (d1 : d < 4) : dX ((2 - d) % 4) = - dX d ∧ dY ((2 - d) % 4) = dY d := by
  rcases d4 d0 d1 with rfl | rfl | rfl | rfl <;> decide
theorem crW_m (L : Int → Int) {ov d : Int} (l : Int) (d0 : 0 ≤ d) (d1 : d < 4) (ho : ov = 0 ∨ ov = 1) : crW L (1 - ov) d l = crW L ov ((2 - d) % 4) l := by
  have e : lkW (1 - ov) d = lkW ov ((2 - d) % 4) := by
    unfold lkW
    rcases ho with rfl | rfl
    · rw [if_neg (by omega), if_pos rfl]
    · rw [if_pos (by omega), if_neg (by omega)]; omega
  unfold crW sdW
  rw [e]
theorem WRP.m {s : SS} {L : Int → Int} {ov x0 y0 st : Int} (ho : ov = 0 ∨ ov = 1) (h : WRP s L ov x0 y0 st) : WRP (tS 1 s) L (1 - ov) (-x0) y0 st := by
  obtain ⟨lab, l0, cw, inj, rg⟩ := h
  refine ⟨fun x y => lab (-x) y, ?_, fun x y d d0 d1 hs hp => ?_, fun x y x' y' hp hp' e => ?_, fun Q q hs x y hp => ?_⟩
  · show lab (- -x0) y0 = st
    rw [Int.neg_neg]; exact l0
  · rw [s4_t1 s x y d0 d1] at hs
    have := cw (-x) y ((2 - d) % 4) (by omega) (by omega) hs hp
    obtain ⟨a, b⟩ := dX_m d0 d1
    rw [a, b] at this
    show lab (-(x + dX d)) (y + dY d) = crW L (1 - ov) d (lab (-x) y)
    rw [show -(x + dX d) = -x + -dX d by omega, this, crW_m L _ d0 d1 ho]
  · have := inj (-x) y (-x') y' hp hp' e
    omega
  · have := rg (fun x y => Q (-x) y) q (fun x y d d0 d1 hc hp z => by
      have e := s4_t1 s (-x) y (d := (2 - d) % 4) (by omega) (by omega)
      rw [Int.neg_neg, show (2 - (2 - d) % 4) % 4 = d by omega] at e
      have hp' : (tS 1 s).1 (-x) y := by
        show s.1 (- -x) y
        rw [Int.neg_neg]; exact hp
      have := hs (-x) y ((2 - d) % 4) (by omega) (by omega) (by rw [e]; exact hc) hp' z
      obtain ⟨a, b⟩ := dX_m d0 d1
      rw [a, b] at this
      show Q (-(x + dX d)) (y + dY d)
      rw [show -(x + dX d) = -x + -dX d by omega]
      exact this) (-x) y hp
    have this' : Q (- -x) y := this
    rw [Int.neg_neg] at this'
    exact this'
theorem t1_t1' (s : SS) : tS 1 (tS 1 s) = s := by
  rw [← g_t1 s]; exact t1_t1 s
theorem WRP.mi {s : SS} {L : Int → Int} {x0 y0 st : Int} : WRP s L 1 x0 y0 st ↔ WRP (tS 1 s) L 0 (-x0) y0 st := by
  constructor
  · intro h
    exact h.m (Or.inr rfl)
  · intro h
    have := h.m (Or.inl rfl)
    rw [t1_t1', Int.neg_neg] at this
    exact this
/-! the row of those that are found -/
noncomputable def fl (F : Int → Prop) (b : Int) : Nat → List Int
  | 0 => []
  | k + 1 => @ite (List Int) (F (k : Int)) (Classical.propDecidable _) (fl F b k ++ [b + (k : Int)]) (fl F b k)
theorem fl_y {F : Int → Prop} {b : Int} {k : Nat} (h : F (k : Int)) : fl F b (k + 1) = fl F b k ++ [b + (k : Int)] := by rw [fl]; exact if_pos h
theorem fl_n {F : Int → Prop} {b : Int} {k : Nat} (h : ¬ F (k : Int)) : fl F b (k + 1) = fl F b k := by rw [fl]; exact if_neg h
theorem fl_len (F : Int → Prop) (b : Int) : ∀ k : Nat, (fl F b k).length ≤ k
  | 0 => Nat.le_refl _
  | k + 1 => by
    have := fl_len F b k
    by_cases q : F (k : Int)
    · rw [fl_y q, List.length_append]
      show (fl F b k).length + 1 ≤ k + 1
      omega
    · rw [fl_n q]; omega
theorem fl_nil {F : Int → Prop} {b : Int} : ∀ k : Nat, (∀ j : Nat, j < k → ¬ F (j : Int)) → fl F b k = []
  | 0, _ => rfl
  | k + 1, h => by
    rw [fl_n (h k (by omega))]
    exact fl_nil k (fun j hj => h j (by omega))
theorem fl_in {F : Int → Prop} {b : Int} : ∀ (k : Nat) (v : Int), v ∈ fl F b k → b ≤ v ∧ v < b + k
  | 0, v, h => by cases h
  | k + 1, v, h => by
    by_cases q : F (k : Int)
    · rw [fl_y q, List.mem_append] at h
      rcases h with h | h
      · have := fl_in k v h; omega
      · have := List.mem_singleton.1 h; omega
    · rw [fl_n q] at h
      have := fl_in k v h; omega
theorem fl_congr {F G : Int → Prop} {b : Int} : ∀ k : Nat, (∀ j : Nat, j < k → (F (j : Int) ↔ G (j : Int))) → fl F b k = fl G b k
  | 0, _ => rfl
  | k + 1, h => by
    have ih := fl_congr (b := b) k (fun j hj => h j (by omega))
    by_cases q : F (k : Int)
    · rw [fl_y q, fl_y ((h k (by omega)).1 q), ih]
    · rw [fl_n q, fl_n (fun z => q ((h k (by omega)).2 z)), ih]
/-- a row of memory that holds a list -/
def LST (l : List Int) (many : Int) (row : Int → Int) : Prop := many = (l.length : Int) ∧ ∀ (j : Nat) (v : Int), l[j]? = some v → row (j : Int) = v
theorem LST.add {l : List Int} {many : Int} {row : Int → Int} (h : LST l many row) (x : Int) : LST (l ++ [x]) (many + 1) (ur row many x) := by
  obtain ⟨h1, h2⟩ := h
  refine ⟨by rw [List.length_append, h1]; rfl, fun j v hj => ?_⟩
  rw [List.getElem?_append] at hj
  by_cases q : j < l.length
  · rw [if_pos q] at hj
    rw [ur_ne _ _ (by omega)]
    exact h2 j v hj
  · rw [if_neg q] at hj
    have e : j - l.length = 0 := by
      by_cases w : j - l.length = 0
      · exact w
      · have : ([x] : List Int)[j - l.length]? = none := List.getElem?_eq_none (by show 1 ≤ _; omega)
        rw [this] at hj; cases hj
    rw [e] at hj
    have ej : (j : Int) = many := by omega
    rw [ej, ur_eq]
    exact Option.some.inj hj
noncomputable def WLL (s : SS) (L : Int → Int) (n x0 y0 : Int) : List Int := fl (fun k => WRP s L 0 x0 y0 k) 0 (4 * n).toNat ++ fl (fun k => WRP s L 1 x0 y0 k) 240 (4 * n).toNat
