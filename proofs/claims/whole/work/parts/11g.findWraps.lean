/-! the reference finds all ways in which a sheet wraps a body -/
def RFL (l : List Int) (i : Int) (m : tM) : Prop := m 145 45 = (l.length : Int) ∧ ∀ v, 0 ≤ i → l[i.toNat]? = some v → m 145 46 = v % 240 / 4 ∧ m 145 47 = v % 4 ∧ m 145 48 = v / 240
theorem RFL.congr {l : List Int} {i : Int} {m m' : tM} (h : RFL l i m) (e : ∀ j, 45 ≤ j → j ≤ 48 → m' 145 j = m 145 j) : RFL l i m' := by
  unfold RFL
  rw [e 45 (by omega) (by omega), e 46 (by omega) (by omega), e 47 (by omega) (by omega), e 48 (by omega) (by omega)]
  exact h
theorem RFL.add {l : List Int} {i x : Int} {m m' : tM} (h : RFL l i m) (e45 : m' 145 45 = m 145 45 + 1) (hy : m 145 45 = i → m' 145 46 = x % 240 / 4 ∧ m' 145 47 = x % 4 ∧ m' 145 48 = x / 240) (hn : m 145 45 ≠ i → m' 145 46 = m 145 46 ∧ m' 145 47 = m 145 47 ∧ m' 145 48 = m 145 48) : RFL (l ++ [x]) i m' := by
  obtain ⟨h1, h2⟩ := h
  refine ⟨by rw [e45, h1, List.length_append]; rfl, fun v i0 hv => ?_⟩
  rw [List.getElem?_append] at hv
  by_cases q : i.toNat < l.length
  · rw [if_pos q] at hv
    obtain ⟨a, b, c⟩ := hn (by omega)
    rw [a, b, c]
    exact h2 v i0 hv
  · rw [if_neg q] at hv
    have e : i.toNat - l.length = 0 := by
      by_cases w : i.toNat - l.length = 0
      · exact w
      · have : ([x] : List Int)[i.toNat - l.length]? = none := List.getElem?_eq_none (by show 1 ≤ _; omega)
        rw [this] at hv; cases hv
    rw [e] at hv
    have : x = v := Option.some.inj hv
    rw [← this]
    exact hy (by omega)
abbrev FR77 (m m' : tM) : Prop := (∀ c, c ≠ 145 → c < 176 ∨ 179 < c → m' c = m c) ∧ (∀ j, j ≠ 21 → j ≠ 22 → j ≠ 23 → j < 44 ∨ 48 < j → m' 145 j = m 145 j)
section C11g
variable {m : tM} {c L B : Int → Int} {n : Int}
theorem findW_in {s : SS} {r i ov : Int} {F : Int → Prop} {pre : List Int} {P : Option tV → tM → Prop} (hr : RepM (m 145 4) (m 149) (m 150) (m 151) (m 152) s) (hw : WF s) (hn : m 145 4 = n) (e17 : m 145 17 = n) (en : n = oN c 384) (hc : CE m c) (hN : NS c 384 (m 158) (m 159) (m 160)) (hL : LDS c (4 * oN c 384) L B) (hS : SKN n L B) (r0 : 0 ≤ r) (r1 : r < n) (ho : ov = 0 ∨ ov = 1) (hF : ∀ k, 0 ≤ k → k < 4 * n → (F k ↔ FT n (cG s (m 149) (m 150)) (nG n (m 149) (m 150)) L 0 r k)) (pl : pre.length ≤ 240) (hnext : ∀ m', FR77 m m' → RFL (pre ++ fl F (240 * ov) (4 * n).toNat) i m' → Clv mX12_turned [rV 145, iV 1] m' (fun m2 => R32 (ov + 1) ∧ Tj mX12_findWraps 23 [some (rV 145), some (iV i), some (iV (ov + 1))] [] m2 P)) (h0 : RFL pre i m) : Tj mX12_findWraps 77 [some (rV 145), some (iV i), some (iV ov), some (iV r), some (iV 0)] [] m P := by
  have n1 := hr.1.2.1
  rw [hn] at n1
  have key := up_ind (n := 4 * n) (fun k => ∀ m', FR77 m m' → RFL (pre ++ fl F (240 * ov) k.toNat) i m' → Tj mX12_findWraps 77 [some (rV 145), some (iV i), some (iV ov), some (iV r), some (iV k)] [] m' P) ?_ ?_ (i := 0) (by omega) (by omega)
  · refine key m ⟨fun _ _ _ => rfl, fun _ _ _ _ _ => rfl⟩ ?_
    show RFL (pre ++ []) i m
    rw [List.append_nil]
    exact h0
  · intro m' fr ls
    have e : m' 145 17 = n := by rw [fr.2 17 (by omega) (by omega) (by omega) (by omega), e17]
    refine wX12_findWraps_77 ?_
    rw [e]
    exact ⟨by constructor <;> omega, fun g => by omega, fun _ => hnext m' fr ls⟩
  · intro k k0 k1 ih m' fr ls
    have e : m' 145 17 = n := by rw [fr.2 17 (by omega) (by omega) (by omega) (by omega), e17]
    have e4 : m' 145 4 = m 145 4 := fr.2 4 (by omega) (by omega) (by omega) (by omega)
    have e149 : m' 149 = m 149 := fr.1 149 (by omega) (by omega)
    have e150 : m' 150 = m 150 := fr.1 150 (by omega) (by omega)
    have len : m' 145 45 ≤ 240 + k ∧ 0 ≤ m' 145 45 := by
      have := ls.1
      have l := fl_len F (240 * ov) k.toNat
      rw [List.length_append] at this
      omega
    have en' : (k + 1).toNat = k.toNat + 1 := by omega
    have ek : 4 * (k / 4) + k % 4 = k := by omega
    refine wX12_findWraps_77 ?_
    rw [e]
    refine ⟨by constructor <;> omega, fun _ => ⟨k0, c_doesWrap (c := c) (L := L) (B := B) (n := n) (s := s) (by rw [e4, e149, e150, fr.1 151 (by omega) (by omega), fr.1 152 (by omega) (by omega)]; exact hr) hw (by rw [e4, hn]) e en (fun q q0 q1 => by rw [fr.1 147 (by omega) (by omega)]; exact hc q q0 q1) (by rw [fr.1 158 (by omega) (by omega), fr.1 159 (by omega) (by omega), fr.1 160 (by omega) (by omega)]; exact hN) hL hS r0 r1 (by omega) (by omega) (by omega) (by omega) ?_ ?_⟩, fun g => absurd k1 g⟩
    · rw [e149, e150, ek]
      intro ft m5 f5
      have e45 : m5 145 45 = m' 145 45 := f5.2 45 (by omega) (by omega) (by omega) (by omega)
      have fk : F ((k.toNat : Nat) : Int) := by rw [ix_cast k0]; exact (hF k k0 k1).2 ft
      have fr5 : FR77 m m5 := ⟨fun x x1 x2 => by rw [f5.1 x x1 x2, fr.1 x x1 x2], fun j j1 j2 j3 j4 => by rw [f5.2 j j1 j2 j3 (by omega), fr.2 j j1 j2 j3 j4]⟩
      have ls5 : RFL (pre ++ fl F (240 * ov) k.toNat) i m5 := ls.congr (fun j j0 j1 => f5.2 j (by omega) (by omega) (by omega) (by omega))
      refine ⟨fun w => by omega, fun _ => ⟨fun w => ⟨⟨by rw [e45]; constructor <;> omega, by constructor <;> omega⟩, ih _ ⟨fun x x1 x2 => by rw [up_ne _ _ _ x1, up_ne _ _ _ x1, up_ne _ _ _ x1, up_ne _ _ _ x1, fr5.1 x x1 x2], fun j j1 j2 j3 j4 => by rw [up_at_ne _ _ _ (by omega), up_at_ne _ _ _ (by omega), up_at_ne _ _ _ (by omega), up_at_ne _ _ _ (by omega), fr5.2 j j1 j2 j3 j4]⟩ ?_⟩, fun w => ⟨⟨by rw [e45]; constructor <;> omega, by constructor <;> omega⟩, ih _ ⟨fun x x1 x2 => by rw [up_ne _ _ _ x1, fr5.1 x x1 x2], fun j j1 j2 j3 j4 => by rw [up_at_ne _ _ _ (by omega), fr5.2 j j1 j2 j3 j4]⟩ ?_⟩⟩⟩
      · rw [en', fl_y fk, ix_cast k0, ← List.append_assoc]
        refine ls5.add (by rw [up_at]) (fun _ => ⟨?_, ?_, ?_⟩) (fun z => absurd w z)
        · rw [up_at_ne _ _ _ (by omega), up_at_ne _ _ _ (by omega), up_at_ne _ _ _ (by omega), up_at]
          rcases ho with q | q <;> subst q <;> omega
        · rw [up_at_ne _ _ _ (by omega), up_at_ne _ _ _ (by omega), up_at]
          rcases ho with q | q <;> subst q <;> omega
        · rw [up_at_ne _ _ _ (by omega), up_at]
          rcases ho with q | q <;> subst q <;> omega
      · rw [en', fl_y fk, ix_cast k0, ← List.append_assoc]
        exact ls5.add (by rw [up_at]) (fun z => absurd z w) (fun _ => ⟨up_at_ne _ _ _ (by omega), up_at_ne _ _ _ (by omega), up_at_ne _ _ _ (by omega)⟩)
    · rw [e149, e150, ek]
      intro ft m5 f5
      have fk : ¬ F ((k.toNat : Nat) : Int) := by rw [ix_cast k0]; exact fun z => ft ((hF k k0 k1).1 z)
      refine ⟨fun _ => ⟨by constructor <;> omega, ih m5 ⟨fun x x1 x2 => by rw [f5.1 x x1 x2, fr.1 x x1 x2], fun j j1 j2 j3 j4 => by rw [f5.2 j j1 j2 j3 (by omega), fr.2 j j1 j2 j3 j4]⟩ ?_⟩, fun w => absurd rfl w⟩
      rw [en', fl_n fk]
      exact ls.congr (fun j j0 j1 => f5.2 j (by omega) (by omega) (by omega) (by omega))
abbrev FW2 (m m' : tM) : Prop := (∀ x, x < 145 ∨ (145 < x ∧ x < 149) ∨ (152 < x ∧ x < 158) ∨ (160 < x ∧ x < 165) ∨ (166 < x ∧ x < 176) ∨ 179 < x → m' x = m x) ∧ (∀ j, j < 17 → m' 145 j = m 145 j)
theorem c_findWraps {s : SS} {i : Int} {K : tM → Prop} (hr : RepM (m 145 4) (m 149) (m 150) (m 151) (m 152) s) (hw : WF s) (hn : m 145 4 = n) (np : 0 < oN c 384) (hc : CE m c) (hL : LDS c (4 * oN c 384) L B) (hS : SKN (oN c 384) L B) (h : ∀ m', FW2 m m' → RepM (m' 145 4) (m' 149) (m' 150) (m' 151) (m' 152) s → (oN c 384 ≠ n → m' 145 45 = 0) → (oN c 384 = n → RFL (WLL s L n (m 149 0) (m 150 0)) i m') → K m') : Clv mX12_findWraps [rV 145, iV i] m K := by
  have n1 := hr.1.2.1
  rw [hn] at n1
  refine wX12_findWraps_0 (c_findSkin (c := c) (fun q q0 q1 => by rw [up_ne _ _ _ (by omega)]; exact hc q q0 q1) (fun m1 fq => ?_))
  obtain ⟨q1, q2, q3, q4⟩ := fq
  have f1 : ∀ x, x ≠ 145 → x < 158 ∨ 160 < x → m1 x = m x := fun x x1 x2 => by rw [q1 x x1 (by omega) (by omega) (by omega), up_ne _ _ _ x1]
  have j1 : ∀ j, j ≠ 17 → j ≠ 45 → m1 145 j = m 145 j := fun j a b => by rw [q2 j a, up_at_ne _ _ _ b]
  have e45 : m1 145 45 = 0 := by rw [q2 45 (by omega), up_at]
  have e4 : m1 145 4 = n := by rw [j1 4 (by omega) (by omega), hn]
  have r1 : RepM (m1 145 4) (m1 149) (m1 150) (m1 151) (m1 152) s := by
    rw [j1 4 (by omega) (by omega), f1 149 (by omega) (by omega), f1 150 (by omega) (by omega), f1 151 (by omega) (by omega), f1 152 (by omega) (by omega)]
    exact hr
  rw [q3, e4]
  refine ⟨fun g => ?_, fun g => ⟨rfl, h m1 ⟨fun x hx => f1 x (by omega) (by omega), fun j hj => j1 j (by omega) (by omega)⟩ r1 (fun _ => e45) (fun z => absurd z g)⟩⟩
  have g' : oN c 384 = n := g
  have np' : 0 < n := by omega
  have x0r := (hr.1.rch hw 0 (by omega) (by omega)).1
  have s0 : s.1 (m 149 0) (m 150 0) := hr.1.in (by omega) (by omega)
  rw [g'] at hS
  have len0 := fl_len (fun k => WRP s L 0 (m 149 0) (m 150 0) k) (240 * 0) (4 * n).toNat
  -- as it is
  refine wX12_findWraps_23 ⟨fun _ => ⟨fun _ => ?_, fun w => absurd rfl w⟩, fun w => absurd (by omega) w⟩
  generalize hm2 : up (up m1 145 49 (m1 149 0)) 145 50 (m1 150 0) = m2
  have f2 : ∀ x, x ≠ 145 → m2 x = m1 x := fun x hx => by rw [← hm2, up_ne _ _ _ hx, up_ne _ _ _ hx]
  have j2 : ∀ j, j ≠ 49 → j ≠ 50 → m2 145 j = m1 145 j := fun j a b => by rw [← hm2, up_at_ne _ _ _ b, up_at_ne _ _ _ a]
  have e49 : m2 145 49 = m 149 0 := by rw [← hm2, up_at_ne _ _ _ (by omega), up_at, f1 149 (by omega) (by omega)]
  have e50 : m2 145 50 = m 150 0 := by rw [← hm2, up_at, f1 150 (by omega) (by omega)]
  have e149 : m2 149 = m 149 := by rw [f2 149 (by omega), f1 149 (by omega) (by omega)]
  have e150 : m2 150 = m 150 := by rw [f2 150 (by omega), f1 150 (by omega) (by omega)]
  have r2 : RepM (m2 145 4) (m2 149) (m2 150) (m2 151) (m2 152) s := by
    rw [j2 4 (by omega) (by omega), f2 149 (by omega), f2 150 (by omega), f2 151 (by omega), f2 152 (by omega)]
    exact r1
  have e24 : m2 145 4 = n := by rw [j2 4 (by omega) (by omega), e4]
  have rI : RepI n (m 149) (m 150) s.1 := by have := hr.1; rw [hn] at this; exact this
  refine findW_in (m := m2) (c := c) (L := L) (B := B) (n := n) (s := s) (ov := 0) (F := fun k => WRP s L 0 (m 149 0) (m 150 0) k) (pre := []) r2 hw e24 (by rw [j2 17 (by omega) (by omega), q3, g']) g'.symm (fun q q0 q1 => by rw [f2 147 (by omega), f1 147 (by omega) (by omega)]; exact hc q q0 q1) (by rw [f2 158 (by omega), f2 159 (by omega), f2 160 (by omega)]; exact q4) hL hS (by omega) np' (Or.inl rfl) (fun k _ _ => by rw [e149, e150]; exact (FT_WRP rI hw (by omega) np').symm) (by show (0 : Nat) ≤ 240; omega) (fun m3 f3 l3 => ?_) ⟨by rw [j2 45 (by omega) (by omega), e45]; rfl, fun v _ hv => by cases hv⟩
  rw [List.nil_append] at l3
  have r3 : RepM (m3 145 4) (m3 149) (m3 150) (m3 151) (m3 152) s := by
    rw [f3.2 4 (by omega) (by omega) (by omega) (by omega), f3.1 149 (by omega) (by omega), f3.1 150 (by omega) (by omega), f3.1 151 (by omega) (by omega), f3.1 152 (by omega) (by omega)]
    exact r2
  refine c_turned r3 hw (Or.inr rfl) (fun m4 f4 r4 => ⟨by constructor <;> omega, ?_⟩)
  have hw1 := hw.turn (h := 1) (Or.inr rfl)
  have e44 : m4 145 4 = n := by rw [f4 145 (by omega), f3.2 4 (by omega) (by omega) (by omega) (by omega), e24]
  have e449 : m4 145 49 = m 149 0 := by rw [f4 145 (by omega), f3.2 49 (by omega) (by omega) (by omega) (by omega), e49]
  have e450 : m4 145 50 = m 150 0 := by rw [f4 145 (by omega), f3.2 50 (by omega) (by omega) (by omega) (by omega), e50]
  have rI4 : RepI n (m4 149) (m4 150) (tS 1 s).1 := by have := r4.1; rw [e44] at this; exact this
  have s1 : (tS 1 s).1 (-m 149 0) (m 150 0) := by
    show s.1 (- -m 149 0) (m 150 0)
    rw [Int.neg_neg]; exact s0
  -- turned over
  refine wX12_findWraps_23 ⟨fun _ => ⟨fun w => by omega, fun _ => ?_⟩, fun w => absurd (by omega) w⟩
  rw [e449, e450]
  refine ⟨by constructor <;> omega, c_spotAt (by rw [e44]; omega) (by rw [e44]; exact n1) (by rw [e44]; exact rI4.2.2.1) ?_⟩
  rw [e44]
  have fr : (0 ≤ fnd n (m4 149) (m4 150) (-m 149 0) (m 150 0) ∧ fnd n (m4 149) (m4 150) (-m 149 0) (m 150 0) < n) ∧ m4 149 (fnd n (m4 149) (m4 150) (-m 149 0) (m 150 0)) = -m 149 0 ∧ m4 150 (fnd n (m4 149) (m4 150) (-m 149 0) (m 150 0)) = m 150 0 := by
    have z := (rI4.fnd_iff _ _).1 s1
    rcases fnd_cases n (m4 149) (m4 150) (-m 149 0) (m 150 0) with q | q
    · exact absurd q.1 z
    · exact ⟨⟨q.1, q.2.1⟩, q.2.2⟩
  generalize fnd n (m4 149) (m4 150) (-m 149 0) (m 150 0) = rt at *
  have g4 : ∀ x, x ≠ 145 → x < 149 ∨ (152 < x ∧ x < 165) ∨ (166 < x ∧ x < 176) ∨ 179 < x → m4 x = m2 x := fun x x1 x2 => by rw [f4 x (by omega), f3.1 x x1 (by omega)]
  refine findW_in (m := m4) (c := c) (L := L) (B := B) (n := n) (s := tS 1 s) (ov := 0 + 1) (F := fun k => WRP s L 1 (m 149 0) (m 150 0) k) (pre := fl (fun k => WRP s L 0 (m 149 0) (m 150 0) k) (240 * 0) (4 * n).toNat) r4 hw1 e44 (by rw [f4 145 (by omega), f3.2 17 (by omega) (by omega) (by omega) (by omega), j2 17 (by omega) (by omega), q3, g']) g'.symm (fun q q0 q1 => by rw [g4 147 (by omega) (by omega), f2 147 (by omega), f1 147 (by omega) (by omega)]; exact hc q q0 q1) (by rw [g4 158 (by omega) (by omega), g4 159 (by omega) (by omega), g4 160 (by omega) (by omega), f2 158 (by omega), f2 159 (by omega), f2 160 (by omega)]; exact q4) hL hS fr.1.1 fr.1.2 (Or.inr rfl) (fun k _ _ => ?_) (by omega) (fun m5 f5 l5 => ?_) (l3.congr (fun j a b => by rw [f4 145 (by omega)]))
  · rw [FT_WRP rI4 hw1 fr.1.1 fr.1.2, fr.2.1, fr.2.2]
    exact WRP.mi
  · have r5 : RepM (m5 145 4) (m5 149) (m5 150) (m5 151) (m5 152) (tS 1 s) := by
      rw [f5.2 4 (by omega) (by omega) (by omega) (by omega), f5.1 149 (by omega) (by omega), f5.1 150 (by omega) (by omega), f5.1 151 (by omega) (by omega), f5.1 152 (by omega) (by omega)]
      exact r4
    refine c_turned r5 hw1 (Or.inr rfl) (fun m6 f6 r6 => ⟨by constructor <;> omega, ?_⟩)
    rw [t1_t1'] at r6
    refine wX12_findWraps_23 ⟨fun w => by omega, fun _ => ⟨rfl, h m6 ⟨fun x hx => ?_, fun j hj => ?_⟩ r6 (fun z => absurd g' z) (fun _ => ?_)⟩⟩
    · rw [f6 x (by omega), f5.1 x (by omega) (by omega), g4 x (by omega) (by omega), f2 x (by omega), f1 x (by omega) (by omega)]
    · rw [f6 145 (by omega), f5.2 j (by omega) (by omega) (by omega) (by omega), f4 145 (by omega), f3.2 j (by omega) (by omega) (by omega) (by omega), j2 j (by omega) (by omega), j1 j (by omega) (by omega)]
    · exact l5.congr (fun j a b => by rw [f6 145 (by omega)])
end C11g
