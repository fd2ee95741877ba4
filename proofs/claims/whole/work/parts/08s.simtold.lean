/-! told, on both sides -/
section C8s
variable {m : tM}
def cntS (s : SS) (x y : Int) : Int := (if s4 s x y 0 = 0 then 0 else 1) + (if s4 s x y 1 = 0 then 0 else 1) + (if s4 s x y 2 = 0 then 0 else 1) + (if s4 s x y 3 = 0 then 0 else 1)
theorem sim_told {k w : Int} {K : Int → Int → tM → Prop} (hc : Cur m) (hh : HisR m) (h : ∀ r m', Cur m' → HisR m' → OTH m m' → K r r m') : Cli mX11_told [rV 0, iV k, iV w] m (fun r m1 => Cli mX12_told [rV 145, iV k, iV w] m1 (fun r' m2 => K r r' m2)) := by
  obtain ⟨hB, hE, s, hw, rc, rm⟩ := id hc
  have idle := sim_idle hc hh
  have ce := hc.eq
  have n0 := rc.1.1
  have n1 := rc.1.2.1
  have m0 := rm.1.1
  have m1' := rm.1.2.1
  -- the reference
  have ref : ∀ r : Int, (¬ ((0 ≤ k ∧ k < m 145 4) ∧ 0 ≤ w ∧ w < 3) → r = -3) → (((0 ≤ k ∧ k < m 145 4) ∧ 0 ≤ w ∧ w < 3) → r = if w = 0 then m 149 k else if w = 1 then m 150 k else cntS s (m 149 k) (m 150 k)) → Cli mX12_told [rV 145, iV k, iV w] m (fun r' m2 => K r r' m2) := by
    intro r rb rg
    refine wX12_told_0 ⟨by constructor <;> omega, c_in ⟨fun c => ⟨_, rfl, ?_⟩, fun c => c_in ⟨fun c2 => ⟨_, rfl, ?_⟩, fun c2 => ?_⟩⟩⟩
    · rw [rb (fun e => by rw [if_pos (by omega)] at c; omega)]; exact h _ _ idle.1 idle.2.1 idle.2.2
    · rw [rb (fun e => by rw [if_pos (by omega)] at c2; omega)]; exact h _ _ idle.1 idle.2.1 idle.2.2
    have p1 : 0 ≤ k ∧ k < m 145 4 := by
      by_cases g : 0 ≤ k ∧ k ≤ m 145 4 - 1
      · omega
      · rw [if_neg g] at c; exact absurd rfl c
    have p2 : 0 ≤ w ∧ w < 3 := by
      by_cases g : 0 ≤ w ∧ w ≤ 2
      · omega
      · rw [if_neg g] at c2; exact absurd rfl c2
    have er := rg ⟨p1, p2⟩
    generalize hm0 : up m 145 0 0 = mz at idle ⊢
    have q0 : ∀ j, j ≠ 0 → mz 145 j = m 145 j := fun j hj => by rw [← hm0, up_at_ne _ _ _ hj]
    have r0 : ∀ c, c ≠ 145 → mz c = m c := fun c hc => by rw [← hm0, up_ne _ _ _ hc]
    have hr0 : RepM (mz 145 4) (mz 149) (mz 150) (mz 151) (mz 152) s := rm.rows (q0 4 (by omega)) (fun c c0 c1 => r0 c (by omega))
    have g : ∀ a d : Int, 0 ≤ a → a ≤ 10 → 0 ≤ d → d < 4 → (Tj mX12_told 36 [some (rV 145), some (iV k), some (iV w), some (iV (a + (if s4 s (m 149 k) (m 150 k) d = 0 then 0 else 1))), some (iV (d + 1))] [] mz (fun r' m2 => ∃ n, r' = some (iV n) ∧ K r n m2)) → Tj mX12_told 36 [some (rV 145), some (iV k), some (iV w), some (iV a), some (iV d)] [] mz (fun r' m2 => ∃ n, r' = some (iV n) ∧ K r n m2) := by
      intro a d a0 a1 d0 d1 q
      have k3 : k < mz 145 4 := by rw [q0 4 (by omega)]; exact p1.2
      refine wX12_told_36 ⟨fun _ => c_creaseOf hr0.1.1 hr0.1.2.1 hr0.1.2.2.1 (hr0.1.rch hw) p1.1 k3 d0 (fun v hv => ?_), fun c => absurd d1 c⟩
      rw [crO_rep hr0 hw p1.1 k3 d0 d1, r0 149 (by omega), r0 150 (by omega)] at hv
      have := if01 (c := s4 s (m 149 k) (m 150 k) d = 0)
      rw [hv]
      exact ⟨⟨by constructor <;> omega, by constructor <;> omega⟩, q⟩
    have b0 := if01 (c := s4 s (m 149 k) (m 150 k) 0 = 0)
    have b1 := if01 (c := s4 s (m 149 k) (m 150 k) 1 = 0)
    have b2 := if01 (c := s4 s (m 149 k) (m 150 k) 2 = 0)
    refine g 0 0 (by omega) (by omega) (by omega) (by omega) (g _ 1 (by omega) (by omega) (by omega) (by omega) (g _ 2 (by omega) (by omega) (by omega) (by omega) (g _ 3 (by omega) (by omega) (by omega) (by omega) ?_)))
    refine wX12_told_36 ⟨fun c => by omega, fun _ => ⟨fun e0 => ⟨⟨p1.1, by omega⟩, _, rfl, ?_⟩, fun e0 => ⟨fun e1 => ⟨⟨p1.1, by omega⟩, _, rfl, ?_⟩, fun e1 => ⟨_, rfl, ?_⟩⟩⟩⟩
    · rw [if_pos e0] at er; rw [r0 149 (by omega), er]; exact h _ _ idle.1 idle.2.1 idle.2.2
    · rw [if_neg e0, if_pos e1] at er; rw [r0 150 (by omega), er]; exact h _ _ idle.1 idle.2.1 idle.2.2
    · rw [if_neg e0, if_neg e1] at er
      unfold cntS at er
      rw [Int.zero_add, er]
      exact h _ _ idle.1 idle.2.1 idle.2.2
  refine wX11_told_0 (c_size shS_6 (c_isWithin ⟨fun c => ⟨_, rfl, ref _ (fun _ => rfl) (fun e => ?_)⟩, fun c => c_isWithin ⟨fun c2 => ⟨_, rfl, ref _ (fun _ => rfl) (fun e => ?_)⟩, fun c2 => ?_⟩⟩))
  · rw [if_pos (by omega)] at c; omega
  · rw [if_pos (by omega)] at c2; omega
  have p1 : 0 ≤ k ∧ k < m 6 3 := by
    by_cases g : 0 ≤ k ∧ k < m 6 3
    · exact g
    · rw [if_neg g] at c; exact absurd rfl c
  have p2 : 0 ≤ w ∧ w < 3 := by
    by_cases g : 0 ≤ w ∧ w < 3
    · exact g
    · rw [if_neg g] at c2; exact absurd rfl c2
  have exy := ce.2 k p1.1 p1.2
  refine ⟨fun e0 => c_xOf shS_6 p1.1 (by omega) ⟨_, rfl, ref _ (fun e => absurd ⟨by omega, p2⟩ e) (fun _ => ?_)⟩, fun e1 => c_yOf shS_6 p1.1 (by omega) ⟨_, rfl, ref _ (fun e => absurd ⟨by omega, p2⟩ e) (fun _ => ?_)⟩, fun e0 e1 => c_creasesOf shS_6 p1.1 (by omega) ⟨_, rfl, ref _ (fun e => absurd ⟨by omega, p2⟩ e) (fun _ => ?_)⟩⟩
  · rw [if_pos e0]; exact exy.1
  · rw [if_neg (by omega), if_pos e1]; exact exy.2
  · rw [if_neg e0, if_neg e1, ← exy.1, ← exy.2]
    unfold cnt4 cntS
    have q := fun d d0 d1 => rc.2 k d p1.1 p1.2 d0 d1
    have z0 := q 0 (by omega) (by omega)
    rw [Int.add_zero] at z0
    rw [show m (6 + 3) = m 9 from rfl, z0, q 1 (by omega) (by omega), q 2 (by omega) (by omega), q 3 (by omega) (by omega)]
end C8s
