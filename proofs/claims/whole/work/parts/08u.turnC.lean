/-! the class turns a sheet: over, if so (o 1), then by quarters (q) -/
def gX (q o x y : Int) : Int := (if o = 0 then x else -x) * dX q - y * dY q
def gY (q o x y : Int) : Int := (if o = 0 then x else -x) * dY q + y * dX q
def hX (q o x y : Int) : Int := if o = 0 then x * dX q + y * dY q else -(x * dX q + y * dY q)
def hY (q x y : Int) : Int := y * dX q - x * dY q
def bd (q o d : Int) : Int := if o = 0 then (d - q) % 4 else (2 - (d - q) % 4) % 4
theorem gh {q o : Int} (q0 : 0 ≤ q) (q1 : q < 4) (ho : o = 0 ∨ o = 1) (x y : Int) : hX q o (gX q o x y) (gY q o x y) = x ∧ hY q (gX q o x y) (gY q o x y) = y := by
  rcases d4 q0 q1 with rfl | rfl | rfl | rfl <;> rcases ho with rfl | rfl <;> simp only [gX, gY, hX, hY, dX, dY] <;> simp <;> omega
theorem hg {q o : Int} (q0 : 0 ≤ q) (q1 : q < 4) (ho : o = 0 ∨ o = 1) (x y : Int) : gX q o (hX q o x y) (hY q x y) = x ∧ gY q o (hX q o x y) (hY q x y) = y := by
  rcases d4 q0 q1 with rfl | rfl | rfl | rfl <;> rcases ho with rfl | rfl <;> simp only [gX, gY, hX, hY, dX, dY] <;> simp <;> omega
theorem dX3 (d : Int) : dX d = 1 ∨ dX d = 0 ∨ dX d = -1 := by unfold dX; (repeat' split) <;> omega
theorem dY3 (d : Int) : dY d = 1 ∨ dY d = 0 ∨ dY d = -1 := by unfold dY; (repeat' split) <;> omega
section C8u
variable {m : tM}
theorem c_turnedX {b : Nat} {k q o : Int} {K : Int → tM → Prop} (sb : shS b) (k0 : 0 ≤ k) (k1 : k < 60) (rx : -30 ≤ m (b + 1) k ∧ m (b + 1) k ≤ 30) (ry : -30 ≤ m (b + 2) k ∧ m (b + 2) k ≤ 30) (q0 : 0 ≤ q) (q1 : q < 4) (h : K (gX q o (m (b + 1) k) (m (b + 2) k)) m) : Cli mX8_turnedX [rV b, iV k, iV q, iV o] m K := by
  unfold gX at h
  refine wX8_turnedX_0 sb.1 sb.2.1 sb.2.2.1 ⟨fun c => ⟨⟨k0, k1⟩, c_stepX ?_⟩, fun c => ⟨⟨k0, k1, by constructor <;> omega⟩, c_stepX ?_⟩⟩
  · rw [if_pos c] at h
    rw [Int.emod_eq_of_lt q0 q1]
    refine ⟨?_, c_stepY ?_⟩
    · rcases dX3 q with e | e | e <;> rw [e] <;> constructor <;> omega
    · rw [Int.emod_eq_of_lt q0 q1]
      refine ⟨⟨?_, ?_⟩, _, rfl, h⟩
      · rcases dY3 q with e | e | e <;> rw [e] <;> constructor <;> omega
      · rcases dX3 q with e | e | e <;> rcases dY3 q with e' | e' | e' <;> rw [e, e'] <;> constructor <;> omega
  · rw [if_neg c] at h
    rw [Int.emod_eq_of_lt q0 q1]
    refine ⟨?_, c_stepY ?_⟩
    · rcases dX3 q with e | e | e <;> rw [e] <;> constructor <;> omega
    · rw [Int.emod_eq_of_lt q0 q1]
      refine ⟨⟨?_, ?_⟩, _, rfl, h⟩
      · rcases dY3 q with e | e | e <;> rw [e] <;> constructor <;> omega
      · rcases dX3 q with e | e | e <;> rcases dY3 q with e' | e' | e' <;> rw [e, e'] <;> constructor <;> omega
theorem c_turnedY {b : Nat} {k q o : Int} {K : Int → tM → Prop} (sb : shS b) (k0 : 0 ≤ k) (k1 : k < 60) (rx : -30 ≤ m (b + 1) k ∧ m (b + 1) k ≤ 30) (ry : -30 ≤ m (b + 2) k ∧ m (b + 2) k ≤ 30) (q0 : 0 ≤ q) (q1 : q < 4) (h : K (gY q o (m (b + 1) k) (m (b + 2) k)) m) : Cli mX8_turnedY [rV b, iV k, iV q, iV o] m K := by
  unfold gY at h
  refine wX8_turnedY_0 sb.1 sb.2.1 sb.2.2.1 ⟨fun c => ⟨⟨k0, k1⟩, c_stepY ?_⟩, fun c => ⟨⟨k0, k1, by constructor <;> omega⟩, c_stepY ?_⟩⟩
  · rw [if_pos c] at h
    rw [Int.emod_eq_of_lt q0 q1]
    refine ⟨?_, c_stepX ?_⟩
    · rcases dY3 q with e | e | e <;> rw [e] <;> constructor <;> omega
    · rw [Int.emod_eq_of_lt q0 q1]
      refine ⟨⟨?_, ?_⟩, _, rfl, h⟩
      · rcases dX3 q with e | e | e <;> rw [e] <;> constructor <;> omega
      · rcases dX3 q with e | e | e <;> rcases dY3 q with e' | e' | e' <;> rw [e, e'] <;> constructor <;> omega
  · rw [if_neg c] at h
    rw [Int.emod_eq_of_lt q0 q1]
    refine ⟨?_, c_stepX ?_⟩
    · rcases dY3 q with e | e | e <;> rw [e] <;> constructor <;> omega
    · rw [Int.emod_eq_of_lt q0 q1]
      refine ⟨⟨?_, ?_⟩, _, rfl, h⟩
      · rcases dX3 q with e | e | e <;> rw [e] <;> constructor <;> omega
      · rcases dX3 q with e | e | e <;> rcases dY3 q with e' | e' | e' <;> rw [e, e'] <;> constructor <;> omega
theorem c_mirrored {d : Int} {K : Int → tM → Prop} (d0 : -4 ≤ d) (d1 : d < 8) (h : K ((2 - d) % 4) m) : Cli mX8_mirrored [iV d] m K := by
  refine wX8_mirrored_0 ⟨by constructor <;> omega, ?_⟩
  rw [bAnd_3 (by constructor <;> omega)]
  exact ⟨_, rfl, h⟩
theorem c_turnedCrease {b : Nat} {k d q o : Int} {K : Int → tM → Prop} (sb : shS b) (k0 : 0 ≤ k) (k1 : k < 60) (d0 : 0 ≤ d) (d1 : d < 4) (q0 : 0 ≤ q) (q1 : q < 4) (h : K (m (b + 3) (4 * k + bd q o d)) m) : Cli mX8_turnedCrease [rV b, iV k, iV d, iV q, iV o] m K := by
  unfold bd at h
  refine wX8_turnedCrease_0 sb.1 sb.2.2.2 ⟨⟨by constructor <;> omega, by constructor <;> omega⟩, ?_⟩
  rw [bAnd_3 (by constructor <;> omega)]
  refine ⟨fun c => ⟨⟨by constructor <;> omega, by omega, by omega⟩, _, rfl, ?_⟩, fun c => c_mirrored (by omega) (by omega) ⟨⟨by constructor <;> omega, by omega, by omega⟩, _, rfl, ?_⟩⟩
  · rw [if_pos c] at h; exact h
  · rw [if_neg c] at h; exact h
end C8u
/-- the sheet that comes of it -/
def gS (q o : Int) (s : SS) : SS := (fun x y => s.1 (hX q o x y) (hY q x y), fun x y => s4 s (hX q o x y) (hY q x y) (bd q o 0), fun x y => s4 s (hX q o x y) (hY q x y) (bd q o 1))
theorem s4_sym (s : SS) (x y : Int) {d : Int} (d0 : 0 ≤ d) (d1 : d < 4) : s4 s x y d = s4 s (x + dX d) (y + dY d) ((d + 2) % 4) := by
  rcases d4 d0 d1 with rfl | rfl | rfl | rfl
  · show s.2.1 x y = s.2.1 (x + 1 - 1) (y + 0)
    rw [show x + 1 - 1 = x by omega, Int.add_zero]
  · show s.2.2 x y = s.2.2 (x + 0) (y + 1 - 1)
    rw [show y + 1 - 1 = y by omega, Int.add_zero]
  · show s.2.1 (x - 1) y = s.2.1 (x + -1) (y + 0)
    rw [Int.add_zero]; rfl
  · show s.2.2 x (y - 1) = s.2.2 (x + 0) (y + -1)
    rw [Int.add_zero]; rfl
theorem s4_g (s : SS) {q o d : Int} (q0 : 0 ≤ q) (q1 : q < 4) (ho : o = 0 ∨ o = 1) (d0 : 0 ≤ d) (d1 : d < 4) (x y : Int) : s4 (gS q o s) x y d = s4 s (hX q o x y) (hY q x y) (bd q o d) := by
  have b0 : ∀ d, 0 ≤ bd q o d ∧ bd q o d < 4 := fun d => by unfold bd; split <;> omega
  rcases d4 d0 d1 with rfl | rfl | rfl | rfl
  · rfl
  · rfl
  · show s4 s (hX q o (x - 1) y) (hY q (x - 1) y) (bd q o 0) = _
    rw [s4_sym s (hX q o x y) (hY q x y) (b0 2).1 (b0 2).2]
    have e : (bd q o 2 + 2) % 4 = bd q o 0 ∧ hX q o x y + dX (bd q o 2) = hX q o (x - 1) y ∧ hY q x y + dY (bd q o 2) = hY q (x - 1) y := by
      rcases d4 q0 q1 with rfl | rfl | rfl | rfl <;> rcases ho with rfl | rfl <;> refine ⟨by decide, ?_, ?_⟩ <;> simp [hX, hY, bd, dX, dY] <;> omega
    rw [e.1, e.2.1, e.2.2]
  · show s4 s (hX q o x (y - 1)) (hY q x (y - 1)) (bd q o 1) = _
    rw [s4_sym s (hX q o x y) (hY q x y) (b0 3).1 (b0 3).2]
    have e : (bd q o 3 + 2) % 4 = bd q o 1 ∧ hX q o x y + dX (bd q o 3) = hX q o x (y - 1) ∧ hY q x y + dY (bd q o 3) = hY q x (y - 1) := by
      rcases d4 q0 q1 with rfl | rfl | rfl | rfl <;> rcases ho with rfl | rfl <;> refine ⟨by decide, ?_, ?_⟩ <;> simp [hX, hY, bd, dX, dY] <;> omega
    rw [e.1, e.2.1, e.2.2]
