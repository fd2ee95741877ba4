/-! the hull: places, directions, has, cells -/
abbrev LB (x : Int64) (c : Int → Int) : Prop := ∀ n : Nat, n < 64 → lb x n = decide (c (n : Int) = 1)
theorem LB.uniq {x y : Int64} {c : Int → Int} (h : LB x c) (g : LB y c) : x = y := lb_ext (fun n hn => by rw [h n hn, g n hn])
section C9d
variable {m : tM}
theorem c_coordinate {p a : Int} {K : Int → tM → Prop} (a0 : 0 ≤ a) (a1 : a < 3) (h : K (p / 2 ^ (2 * a).toNat % 4) m) : Cli mX1_coordinate [iV p, iV a] m K := by
  refine Tj.rl 0 rfl (fun hp => wX1_coordinate_0 ⟨by constructor <;> omega, _, rfl, ?_⟩)
  have e := bShr_div hp (show 0 ≤ 2 * a by omega) (by omega)
  have r : R32 (bShr p (2 * a)) := tr_of _
  rw [bAnd_3 r, e]
  exact h
theorem c_step {d a sg : Int} {K : Int → tM → Prop} (hb : bShr d 1 = a) (hs : (if bAnd d 1 = 0 then 1 else (-1)) = sg) (h : K sg m) : Cli mX1_step [iV d, iV a] m K :=
  wX1_step_0 ⟨fun _ v hv => ⟨v, rfl, by rw [hv, hs]; exact h⟩, fun c => absurd hb c⟩
theorem beyond_aux {p d a sg w : Int} {K : Int → tM → Prop} (hb : bShr d 1 = a) (hs : (if bAnd d 1 = 0 then 1 else (-1)) = sg) (hw : bShl 1 (2 * a) = w) (hp : (2 : Int) ^ (2 * a).toNat = w) (a0 : 0 ≤ a) (a1 : a < 3) (s0 : sg = 1 ∨ sg = -1) (w0 : w = 1 ∨ w = 4 ∨ w = 16) (p1 : p < 64) (h : K (if p < 0 then -1 else if p / w % 4 + sg < 0 then -1 else if 3 < p / w % 4 + sg then -1 else p + sg * w) m) : Cli mX1_beyond [iV p, iV d] m K := by
  refine wX1_beyond_0 ⟨fun c => ⟨_, rfl, by rw [if_pos c] at h; exact h⟩, fun c => ?_⟩
  rw [if_neg c] at h
  rw [hb]
  refine c_step hb hs (c_coordinate a0 a1 ?_)
  rw [hp]
  have q0 := Int.emod_nonneg (p / w) (by decide : (4 : Int) ≠ 0)
  have q1 := Int.emod_lt_of_pos (p / w) (by decide : (0 : Int) < 4)
  refine ⟨by constructor <;> omega, fun g => ⟨_, rfl, by rw [if_pos g] at h; exact h⟩, fun g => ?_⟩
  rw [if_neg g] at h
  refine ⟨fun g2 => ⟨_, rfl, by rw [if_pos g2] at h; exact h⟩, fun g2 => ?_⟩
  rw [if_neg g2] at h
  rw [hw]
  refine ⟨⟨by constructor <;> omega, ?_, ?_⟩, _, rfl, h⟩
  · rcases s0 with rfl | rfl <;> rcases w0 with rfl | rfl | rfl <;> constructor <;> omega
  · rcases s0 with rfl | rfl <;> rcases w0 with rfl | rfl | rfl <;> constructor <;> omega
/-- the place one on -/
theorem c_beyond {p d : Int} {K : Int → tM → Prop} (p1 : p < 64) (d0 : 0 ≤ d) (d1 : d < 6) (h : K (bynd p d) m) : Cli mX1_beyond [iV p, iV d] m K := by
  rcases (show d = 0 ∨ d = 1 ∨ d = 2 ∨ d = 3 ∨ d = 4 ∨ d = 5 by omega) with rfl | rfl | rfl | rfl | rfl | rfl
  · refine beyond_aux (a := 0) (sg := 1) (w := 1) (by decide +kernel) (by decide +kernel) (by decide +kernel) (by decide +kernel) (by decide) (by decide) (by decide) (by decide) p1 ?_
    rw [show (if p < 0 then -1 else if p / 1 % 4 + 1 < 0 then -1 else if 3 < p / 1 % 4 + 1 then -1 else p + 1 * 1) = bynd p 0 by unfold bynd; (repeat' split) <;> omega]
    exact h
  · refine beyond_aux (a := 0) (sg := -1) (w := 1) (by decide +kernel) (by decide +kernel) (by decide +kernel) (by decide +kernel) (by decide) (by decide) (by decide) (by decide) p1 ?_
    rw [show (if p < 0 then -1 else if p / 1 % 4 + -1 < 0 then -1 else if 3 < p / 1 % 4 + -1 then -1 else p + -1 * 1) = bynd p 1 by unfold bynd; (repeat' split) <;> omega]
    exact h
  · refine beyond_aux (a := 1) (sg := 1) (w := 4) (by decide +kernel) (by decide +kernel) (by decide +kernel) (by decide +kernel) (by decide) (by decide) (by decide) (by decide) p1 ?_
    rw [show (if p < 0 then -1 else if p / 4 % 4 + 1 < 0 then -1 else if 3 < p / 4 % 4 + 1 then -1 else p + 1 * 4) = bynd p 2 by unfold bynd; (repeat' split) <;> omega]
    exact h
  · refine beyond_aux (a := 1) (sg := -1) (w := 4) (by decide +kernel) (by decide +kernel) (by decide +kernel) (by decide +kernel) (by decide) (by decide) (by decide) (by decide) p1 ?_
    rw [show (if p < 0 then -1 else if p / 4 % 4 + -1 < 0 then -1 else if 3 < p / 4 % 4 + -1 then -1 else p + -1 * 4) = bynd p 3 by unfold bynd; (repeat' split) <;> omega]
    exact h
  · refine beyond_aux (a := 2) (sg := 1) (w := 16) (by decide +kernel) (by decide +kernel) (by decide +kernel) (by decide +kernel) (by decide) (by decide) (by decide) (by decide) p1 ?_
    rw [show (if p < 0 then -1 else if p / 16 % 4 + 1 < 0 then -1 else if 3 < p / 16 % 4 + 1 then -1 else p + 1 * 16) = bynd p 4 by unfold bynd; (repeat' split) <;> omega]
    exact h
  · refine beyond_aux (a := 2) (sg := -1) (w := 16) (by decide +kernel) (by decide +kernel) (by decide +kernel) (by decide +kernel) (by decide) (by decide) (by decide) (by decide) p1 ?_
    rw [show (if p < 0 then -1 else if p / 16 % 4 + -1 < 0 then -1 else if 3 < p / 16 % 4 + -1 then -1 else p + -1 * 16) = bynd p 5 by unfold bynd; (repeat' split) <;> omega]
    exact h
theorem c_against {d : Int} {K : Int → tM → Prop} (d0 : 0 ≤ d) (d1 : d < 6) (h : K (x1 d) m) : Cli mX1_against [iV d] m K :=
  wX1_against_0 ⟨_, rfl, by rw [bXor_1 d0 d1]; exact h⟩
theorem c_has {x : Int64} {c : Int → Int} {p : Int} {K : Int → tM → Prop} (hx : LB x c) (p1 : p < 64) (h : K (if isC c p then 1 else 0) m) : Cli mX1_has [lV x, iV p] m K := by
  refine wX1_has_0 (fun v hv => ⟨v, rfl, ?_⟩)
  have e : v = if isC c p then 1 else 0 := by
    rw [hv]
    by_cases q : p < 0
    · rw [if_pos q, if_neg (fun g => by omega)]
    · rw [if_neg q]
      have g := has_iff x (s := p.toNat) (by omega)
      rw [ix_cast (show 0 ≤ p by omega), hx p.toNat (by omega), ix_cast (show 0 ≤ p by omega)] at g
      by_cases w : c p = 1
      · rw [if_pos (g.2 (decide_eq_true w)), if_pos ⟨by omega, w⟩]
      · rw [if_neg (fun a => w (of_decide_eq_true (g.1 a))), if_neg (fun a => w a.2)]
  rw [e]; exact h
theorem c_cells {t c : Int → Int} {K : Int64 → tM → Prop} (hb : BR (m 3) t c) (h : ∀ x, LB x c → K x m) : Cll mX1_cells [rV 2] m K := by
  refine wX1_cells_0 ?_
  have key := up_ind (n := 4) (fun i => ∀ x : Int64, (∀ n : Nat, n < 64 → lb x n = decide ((n : Int) < 16 * i ∧ c n = 1)) → Tj mX1_cells 4 [some (rV 2), some (lV x), none, some (iV i)] [] m (fun r m' => ∃ n, r = some (lV n) ∧ K n m')) ?_ ?_ (i := 0) (by omega) (by omega)
  · exact key 0 (fun n hn => by rw [lb_0]; exact (decide_eq_false (by omega)).symm)
  · intro x hx
    refine wX1_cells_4 ⟨fun c => by omega, fun _ => ⟨_, rfl, h x (fun n hn => ?_)⟩⟩
    rw [hx n hn]
    by_cases q : c n = 1
    · rw [decide_eq_true q, decide_eq_true ⟨by omega, q⟩]
    · rw [decide_eq_false q, decide_eq_false (fun g => q g.2)]
  · intro i i0 i1 ih x hx
    obtain ⟨b0, b1, b2⟩ := hb.lb i0 i1
    refine wX1_cells_4 ⟨fun _ => c_bitsOf i0 i1 ⟨⟨by constructor <;> omega, by constructor <;> omega⟩, ih _ (fun n hn => ?_)⟩, fun c => absurd i1 c⟩
    have e1 := lb_shl (Int64.ofInt (lbits (m 3 i))) (s := (16 * i).toNat) (n := n) (by omega) hn
    rw [ix_cast (show 0 ≤ 16 * i by omega)] at e1
    rw [lb_or, e1, lb_ofInt b0 b1, hx n hn]
    by_cases q : (n : Int) < 16 * i
    · rw [decide_eq_false (show ¬ (16 * i).toNat ≤ n by omega), Bool.false_and, Bool.or_false]
      by_cases g : c n = 1
      · rw [decide_eq_true ⟨q, g⟩, decide_eq_true ⟨by omega, g⟩]
      · rw [decide_eq_false (fun a => g a.2), decide_eq_false (fun a => g a.2)]
    · rw [decide_eq_false (fun a => q a.1), Bool.false_or, decide_eq_true (show (16 * i).toNat ≤ n by omega), Bool.true_and]
      by_cases r : (n : Int) < 16 * (i + 1)
      · have := b2 ((n : Int) - 16 * i) (by omega) (by omega)
        rw [show 16 * i + ((n : Int) - 16 * i) = n by omega, show ((n : Int) - 16 * i).toNat = n - (16 * i).toNat by omega] at this
        rw [← this]
        by_cases g : c n = 1
        · rw [decide_eq_true g, decide_eq_true ⟨r, g⟩]
        · rw [decide_eq_false g, decide_eq_false (fun a => g a.2)]
      · have z : lbits (m 3 i) / 2 ^ (n - (16 * i).toNat) = 0 := by
          have e2 : (65536 : Int) ≤ 2 ^ (n - (16 * i).toNat) := by
            have := Nat.pow_le_pow_right (show 0 < 2 by omega) (show 16 ≤ n - (16 * i).toNat by omega)
            have e3 : ((2 ^ (n - (16 * i).toNat) : Nat) : Int) = (2 : Int) ^ (n - (16 * i).toNat) := by simp
            omega
          exact Int.ediv_eq_zero_of_lt b0 (by omega)
        rw [z, decide_eq_false (by decide), decide_eq_false (fun a => r a.1)]
/-- the side that looks there -/
theorem c_sideLooking {d l : Int} {K : Int → tM → Prop} (d0 : 0 ≤ d) (d1 : d < 6) (h : K (sL d l) m) : Cli mX9_sideLooking [iV d, iV l] m K := by
  unfold sL LK at h
  refine wX9_sideLooking_0 (wX9_sideLooking_2 ⟨fun _ => ⟨⟨by constructor <;> omega, by constructor <;> omega, by omega, by omega⟩, fun c => ⟨_, rfl, by rw [if_pos c] at h; exact h⟩, fun c => ⟨by constructor <;> omega, ?_⟩⟩, fun c => absurd (by omega) c⟩)
  rw [if_neg c] at h
  refine wX9_sideLooking_2 ⟨fun _ => ⟨⟨by constructor <;> omega, by constructor <;> omega, by omega, by omega⟩, fun c => ⟨_, rfl, by rw [show (0 : Int) + 1 = 1 by omega] at c ⊢; rw [if_pos c] at h; exact h⟩, fun c => ⟨by constructor <;> omega, ?_⟩⟩, fun c => absurd (by omega) c⟩
  rw [show (0 : Int) + 1 = 1 by omega] at c ⊢
  rw [if_neg c] at h
  refine wX9_sideLooking_2 ⟨fun _ => ⟨⟨by constructor <;> omega, by constructor <;> omega, by omega, by omega⟩, fun c => ⟨_, rfl, by rw [show (1 : Int) + 1 = 2 by omega] at c ⊢; rw [if_pos c] at h; exact h⟩, fun c => ⟨by constructor <;> omega, ?_⟩⟩, fun c => absurd (by omega) c⟩
  rw [show (1 : Int) + 1 = 2 by omega] at c ⊢
  rw [if_neg c] at h
  exact wX9_sideLooking_2 ⟨fun c => absurd c (by omega), fun _ => ⟨_, rfl, h⟩⟩
end C9d
