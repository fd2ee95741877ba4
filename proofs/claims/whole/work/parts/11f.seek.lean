/-! the class seeks all ways in which a sheet wraps a body -/
section C11f
variable {m : tM}
theorem seek_in {n ov : Int} {c4 nb : Int → Int → Int} {B : Int → Int} {F : Int → Prop} {pre : List Int} {P : Option tV → tM → Prop} (hg : GR n c4 nb) (np : 0 < n) (hn : m 6 3 = n) (hS : SKN n (m 113) B) (hN : ∀ k d, 0 ≤ k → k < n → 0 ≤ d → d < 4 → m 121 (4 * k + d) = if c4 k d = 0 then -1 else nb k d) (bi : BI n c4 nb (m 122) (m 123) n n 0) (ho : ov = 0 ∨ ov = 1) (hF : ∀ k, 0 ≤ k → k < 4 * n → (F k ↔ FT n c4 nb (m 113) ov 0 k)) (pl : pre.length ≤ 240) (hnext : ∀ m', (∀ x, x < 128 ∨ 132 < x → m' x = m x) → LST (pre ++ fl F (240 * ov) (4 * n).toNat) (m' 128 4) (m' 132) → Tj mX10_seek 33 [some (rV 128), some (rV 6), some (rV 120), some (rV 109), some (iV (ov + 1))] [] m' P) : ∀ m', (∀ x, x < 128 ∨ 132 < x → m' x = m x) → LST pre (m' 128 4) (m' 132) → Tj mX10_seek 42 [some (rV 128), some (rV 6), some (rV 120), some (rV 109), some (iV ov), some (iV 0)] [] m' P := by
  have n1 := hg.1.2
  have key := up_ind (n := 4 * n) (fun k => ∀ m', (∀ x, x < 128 ∨ 132 < x → m' x = m x) → LST (pre ++ fl F (240 * ov) k.toNat) (m' 128 4) (m' 132) → Tj mX10_seek 42 [some (rV 128), some (rV 6), some (rV 120), some (rV 109), some (iV ov), some (iV k)] [] m' P) ?_ ?_ (i := 0) (by omega) (by omega)
  · intro m' fr ls
    refine key m' fr ?_
    show LST (pre ++ []) _ _
    rw [List.append_nil]
    exact ls
  · intro m' fr ls
    have e6 : m' 6 3 = n := by rw [fr 6 (by omega), hn]
    refine wX10_seek_42 (c_size shS_6 ?_)
    rw [e6]
    exact ⟨by constructor <;> omega, fun g => by omega, fun _ => ⟨by constructor <;> omega, hnext m' fr ls⟩⟩
  · intro k k0 k1 ih m' fr ls
    have e6 : m' 6 3 = n := by rw [fr 6 (by omega), hn]
    have e113 : m' 113 = m 113 := fr 113 (by omega)
    have len : m' 128 4 ≤ 240 + k ∧ 0 ≤ m' 128 4 := by
      have := ls.1
      have l := fl_len F (240 * ov) k.toNat
      rw [List.length_append] at this
      omega
    have en : (k + 1).toNat = k.toNat + 1 := by omega
    refine wX10_seek_42 (c_size shS_6 ?_)
    rw [e6]
    refine ⟨by constructor <;> omega, fun _ => c_size shS_6 ?_, fun g => absurd k1 g⟩
    rw [e6]
    intro v1 hv1
    have ev : v1 = ov := by
      rcases ho with q | q
      · rw [hv1, if_neg (by omega), q]
      · rw [hv1, if_pos q, q]
    rw [ev]
    refine c_fits (B := B) hg np (by rw [e113]; exact hS) (by rw [fr 121 (by omega)]; exact hN) (by rw [fr 122 (by omega), fr 123 (by omega)]; exact bi) ho k0 k1 ?_ ?_
    · rw [e113]
      intro ft m5 f5
      have e128 : m5 128 = m' 128 := f5 128 (by omega)
      have e132 : m5 132 = m' 132 := f5 132 (by omega)
      refine ⟨fun w => by omega, fun _ => ⟨⟨by constructor <;> omega, by constructor <;> omega, by rw [e128]; omega, by rw [e128]; omega, by rw [e128]; constructor <;> omega, by constructor <;> omega⟩, ih _ (fun x hx => by rw [up_ne _ _ _ (by omega), up_ne _ _ _ (by omega), f5 x (by omega), fr x hx]) ?_⟩⟩
      have a := ls.add (240 * ov + k)
      have fk : F ((k.toNat : Nat) : Int) := by rw [ix_cast k0]; exact (hF k k0 k1).2 ft
      rw [en, fl_y fk, ix_cast k0, ← List.append_assoc, up_at, e128]
      have r132 : (up (up m5 132 (m' 128 4) (240 * ov + k)) 128 4 (m' 128 4 + 1)) 132 = ur (m' 132) (m' 128 4) (240 * ov + k) := by
        rw [up_ne _ _ _ (by omega)]
        show sr _ 132 (ur (m5 132) (m' 128 4) (240 * ov + k)) 132 = _
        rw [sr_eq, e132]
      rw [r132]
      exact a
    · rw [e113]
      intro ft m5 f5
      refine ⟨fun _ => ⟨by constructor <;> omega, ih m5 (fun x hx => by rw [f5 x (by omega), fr x hx]) ?_⟩, fun w => absurd rfl w⟩
      have fk : ¬ F ((k.toNat : Nat) : Int) := by rw [ix_cast k0]; exact fun z => ft ((hF k k0 k1).1 z)
      rw [en, fl_n fk, f5 128 (by omega), f5 132 (by omega)]
      exact ls
theorem c_seek {s : SS} {c : Int → Int} {K : tM → Prop} (hr : RepC (m 6 3) (m 7) (m 8) (m 9) s) (hw : WF s) (hu : HU m c) (h : ∀ m', (∀ x, x < 120 ∨ (123 < x ∧ x < 128) ∨ 132 < x → m' x = m x) → (m 6 3 ≠ m 109 6 → m' 128 4 = 0) → (m 6 3 = m 109 6 → LST (WLL s (m 113) (m 6 3) (m 7 0) (m 8 0)) (m' 128 4) (m' 132)) → K m') : Clv mX10_seek [rV 128, rV 6, rV 120, rV 109] m K := by
  have hg := GRs hr.1 hw
  have n1 := hg.1.2
  have n0 := hg.1.1
  have sk := hu.skn
  rw [← hu.2.2.1] at sk
  refine wX10_seek_0 (c_size shS_6 ?_)
  generalize hm0 : up m 128 4 0 = m0
  have f0 : ∀ x, x ≠ 128 → m0 x = m x := fun x hx => by rw [← hm0, up_ne _ _ _ hx]
  have z0 : m0 128 4 = 0 := by rw [← hm0, up_at]
  refine wX9_size_0 ⟨_, rfl, fun g => c_trace (s := s) (by rw [f0 6 (by omega), f0 7 (by omega), f0 8 (by omega), f0 9 (by omega)]; exact hr) hw (fun m1 f1 e3 tr => ?_), fun g => ⟨rfl, h m0 (fun x hx => f0 x (by omega)) (fun _ => z0) (fun z => absurd (by rw [f0 6 (by omega), f0 109 (by omega)]; exact z) g)⟩⟩
  have g' : m 6 3 = m 109 6 := by
    rw [f0 6 (by omega), f0 109 (by omega)] at g
    exact g
  rw [← g'] at sk
  rw [f0 6 (by omega), f0 7 (by omega), f0 8 (by omega)] at tr
  rw [f0 6 (by omega)] at e3
  have fm : ∀ x, x < 120 ∨ (123 < x ∧ x < 128) ∨ 132 < x → m1 x = m x := fun x hx => by rw [f1 x (by omega), f0 x (by omega)]
  have z1 : m1 128 4 = 0 := by rw [f1 128 (by omega), z0]
  generalize hn : m 6 3 = n at *
  have toF : ∀ ov k, 0 < n → (WRP s (m 113) ov (m 7 0) (m 8 0) k ↔ FT n (cG s (m 7) (m 8)) (nG n (m 7) (m 8)) (m 113) ov 0 k) := fun ov k np => (FT_WRP hr.1 hw (by omega) np).symm
  refine wX6_hangTogether_0 (fun v hv => ⟨_, rfl, fun gv => ⟨rfl, h m1 fm (fun z => absurd g' z) (fun _ => ?_)⟩, fun gv => ?_⟩)
  · -- it doesn't hang together
    have no : ∀ (ov : Int) (b : Int), fl (fun k => WRP s (m 113) ov (m 7 0) (m 8 0) k) b (4 * n).toNat = [] := fun ov b => fl_nil _ (fun j hj z => by
      have np : 0 < n := by omega
      obtain ⟨-, -, -, -, rg⟩ := (toF ov j np).1 z
      have := (trc_all hg tr np).2 rg
      rw [e3, if_pos np, if_pos this] at hv
      omega)
    show LST (WLL s (m 113) n (m 7 0) (m 8 0)) _ _
    unfold WLL
    rw [no 0 0, no 1 240, z1]
    exact ⟨rfl, fun j v hj => by cases hj⟩
  · have np : 0 < n := by
      by_cases q : 0 < n
      · exact q
      · rw [e3, if_neg q] at hv; exact absurd hv gv
    have eR : m1 120 4 = n := by
      rw [e3, if_pos np] at hv
      by_cases q : m1 120 4 = n
      · exact q
      · rw [if_neg q] at hv; exact absurd hv gv
    obtain ⟨hN, -, bi⟩ := tr
    have bi := bi np
    rw [eR] at bi
    have e113 : m1 113 = m 113 := fm 113 (by omega)
    have len0 := fl_len (fun k => WRP s (m 113) 0 (m 7 0) (m 8 0) k) (240 * 0) (4 * n).toNat
    refine wX10_seek_33 ⟨fun _ => ?_, fun w => absurd (by omega) w⟩
    refine seek_in (m := m1) (ov := 0) (B := m 114) (F := fun k => WRP s (m 113) 0 (m 7 0) (m 8 0) k) (pre := []) hg np (by rw [fm 6 (by omega), hn]) (by rw [e113]; exact sk) hN bi (Or.inl rfl) (fun k _ _ => by rw [e113]; exact toF 0 k np) (by show (0 : Nat) ≤ 240; omega) (fun m2 f2 l2 => ?_) m1 (fun _ _ => rfl) ⟨by rw [z1]; rfl, fun j v hj => by cases hj⟩
    rw [List.nil_append] at l2
    refine wX10_seek_33 ⟨fun _ => ?_, fun w => absurd (by omega) w⟩
    refine seek_in (m := m1) (ov := 0 + 1) (B := m 114) (F := fun k => WRP s (m 113) 1 (m 7 0) (m 8 0) k) (pre := fl (fun k => WRP s (m 113) 0 (m 7 0) (m 8 0) k) (240 * 0) (4 * n).toNat) hg np (by rw [fm 6 (by omega), hn]) (by rw [e113]; exact sk) hN bi (Or.inr rfl) (fun k _ _ => by rw [e113]; exact toF 1 k np) (by omega) (fun m3 f3 l3 => ?_) m2 f2 l2
    refine wX10_seek_33 ⟨fun w => by omega, fun _ => ⟨rfl, h m3 (fun x hx => by rw [f3 x (by omega), fm x hx]) (fun z => absurd g' z) (fun _ => ?_)⟩⟩
    exact l3
end C11f
