/-! the search of the reference, walked -/
section C9l
variable {m : tM} {c : Int → Int} {w f : Int}
abbrev nS (c : Int → Int) (w : Int) (n : Nat) : Nat := cn (fun j => decide (vl c (pd (j : Int)) = w)) n
theorem hang_end {m' : tM} {n : Int} {K : Int → tM → Prop} (hf : S6 c w f) (h : HI c w f m m' n) (cl : ∀ j d, 0 ≤ j → j < 216 → 0 ≤ d → d < 6 → m' 156 j = 1 → S6 c w (st6 j d) → m' 156 (st6 j d) = 1) (h1 : CN6 (S6 c w) → K 1 m') (h0 : ¬ CN6 (S6 c w) → K 0 m') : K (if n = (nS c w 216 : Int) then 1 else 0) m' := by
  obtain ⟨a1, a2, a3, a4, a5⟩ := h
  have sub : ∀ k : Nat, k < 216 → decide (m' 156 (k : Int) = 1) = true → decide (vl c (pd (k : Int)) = w) = true := fun k hk g => decide_eq_true (a3 k (by omega) (by omega) (of_decide_eq_true g)).1.2.2
  by_cases q : CN6 (S6 c w)
  · have seen : ∀ k, S6 c w k → m' 156 k = 1 := fun k hk => by
      have := q f k hf hk (fun j => (0 ≤ j ∧ j < 216) ∧ m' 156 j = 1) ⟨⟨hf.1, hf.2.1⟩, a4⟩ (fun a d d0 d1 ha hs => ⟨⟨hs.1, hs.2.1⟩, cl a d ha.1.1 ha.1.2 d0 d1 ha.2 hs⟩)
      exact this.2
    have le := cn_le (fun k : Nat => decide (m' 156 (k : Int) = 1)) (fun k : Nat => decide (vl c (pd (k : Int)) = w)) 216 sub
    have ge := cn_le (fun j => decide (vl c (pd (j : Int)) = w)) (fun j => decide (m' 156 (j : Int) = 1)) 216 (fun k hk g => decide_eq_true (seen k ⟨by omega, by omega, of_decide_eq_true g⟩))
    rw [if_pos (by rw [a5]; show ((cn _ 216 : Nat) : Int) = ((cn _ 216 : Nat) : Int); omega)]
    exact h1 q
  · rw [if_neg]
    · exact h0 q
    · intro e
      rw [a5] at e
      have e' : cn (fun k => decide (m' 156 (k : Int) = 1)) 216 = nS c w 216 := by omega
      have seen : ∀ k, S6 c w k → m' 156 k = 1 := fun k hk => by
        by_cases g : m' 156 k = 1
        · exact g
        · have := cn_lt (fun k : Nat => decide (m' 156 (k : Int) = 1)) (fun k : Nat => decide (vl c (pd (k : Int)) = w)) 216 sub ⟨k.toNat, by have := hk.1; have := hk.2.1; omega, by
            show decide (vl c (pd (k.toNat : Int)) = w) = true
            rw [ix_cast hk.1]; exact decide_eq_true hk.2.2, by
            show decide (m' 156 (k.toNat : Int) = 1) = false
            rw [ix_cast hk.1]; exact decide_eq_false g⟩
          have e2 : cn (fun j => decide (vl c (pd (j : Int)) = w)) 216 = nS c w 216 := rfl
          omega
      refine q (fun a b ha hb => ?_)
      have ra := (a3 a ha.1 ha.2.1 (seen a ha)).2
      have rb := (a3 b hb.1 hb.2.1 (seen b hb)).2
      exact (ra.sym (S6_r c w) hf).trans rb
theorem hang_loop {K : Int → tM → Prop} (hc : CE m c) (hf : S6 c w f) (h1 : CN6 (S6 c w) → ∀ m', (∀ a, a ≠ 156 → m' a = m a) → K 1 m') (h0 : ¬ CN6 (S6 c w) → ∀ m', (∀ a, a ≠ 156 → m' a = m a) → K 0 m') : ∀ (fuel : Nat) (n : Int) (m0 : tM), HI c w f m m0 n → 216 - n ≤ fuel → Tj mX12_hang 67 [some (rV 145), some (iV w), some (iV (nS c w 216 : Int)), none, some (iV n), some (iV 1)] [] m0 (fun r m' => ∃ x, r = some (iV x) ∧ K x m') := by
  intro fuel
  induction fuel with
  | zero =>
    intro n m0 hi hn
    refine wX12_hang_67 ⟨fun g => by omega, fun _ => ?_⟩
    -- all is seen
    have full := cn_full (fun k => decide (m0 156 (k : Int) = 1)) 216 (by have := hi.2.2.2.2; omega)
    have key := up_ind (n := 216) (fun k => Tj mX12_hang 78 [some (rV 145), some (iV w), some (iV (nS c w 216 : Int)), none, some (iV n), some (iV 0), some (iV k)] [] m0 (fun r m' => ∃ x, r = some (iV x) ∧ K x m')) ?_ ?_ (i := 0) (by omega) (by omega)
    · exact key
    · refine wX12_hang_78 ⟨fun g => by omega, fun _ => wX12_hang_67 ⟨fun _ v hv => ⟨v, rfl, ?_⟩, fun g => absurd rfl g⟩⟩
      rw [hv]
      exact hang_end (K := K) hf hi (fun j d j0 j1 d0 d1 _ hs => by
        have := of_decide_eq_true (full (st6 j d).toNat (by have := hs.1; have := hs.2.1; omega))
        rw [ix_cast hs.1] at this
        exact this) (fun q => h1 q m0 hi.1) (fun q => h0 q m0 hi.1)
    · intro k k0 k1 ih
      refine wX12_hang_78 ⟨fun _ => ?_, fun g => absurd k1 g⟩
      have key2 := up_ind (n := 6) (fun d => Tj mX12_hang 89 [some (rV 145), some (iV w), some (iV (nS c w 216 : Int)), none, some (iV n), some (iV 0), some (iV k), some (iV d)] [] m0 (fun r m' => ∃ x, r = some (iV x) ∧ K x m')) ?_ ?_ (i := 0) (by omega) (by omega)
      · exact key2
      · exact wX12_hang_89 ⟨fun g => by omega, fun _ => ⟨by constructor <;> omega, ih⟩⟩
      · intro d d0 d1 ih2
        have r := st6_r k0 k1 d0 d1
        refine wX12_hang_89 ⟨fun _ => ⟨⟨k0, k1⟩, fun _ => c_step6 k0 k1 d0 ⟨fun _ => ⟨by constructor <;> omega, ih2⟩, fun g2 => ⟨⟨by omega, r.2.1⟩, fun g3 => ?_, fun _ => ⟨by constructor <;> omega, ih2⟩⟩⟩, fun _ => ⟨by constructor <;> omega, ih⟩⟩, fun g => absurd d1 g⟩
        have := of_decide_eq_true (full (st6 k d).toNat (by omega))
        rw [ix_cast (by omega), g3] at this
        omega
  | succ fuel ihf =>
    intro n0 m0 hi hn
    refine wX12_hang_67 ⟨fun g => by omega, fun _ => ?_⟩
    have bnd : ∀ {n : Int} {m' : tM}, HI c w f m m' n → 0 ≤ n ∧ n ≤ 216 := fun h => by
      rw [h.2.2.2.2]
      exact ⟨by omega, Int.ofNat_le.2 (cn_bound _ 216)⟩
    have key := up_ind (n := 216) (fun k => ∀ (n mo : Int) (m' : tM), HI c w f m m' n → (mo = 0 ∧ n = n0 ∧ (∀ j d, 0 ≤ j → j < k → 0 ≤ d → d < 6 → m' 156 j = 1 → S6 c w (st6 j d) → m' 156 (st6 j d) = 1)) ∨ (mo = 1 ∧ n0 < n) → Tj mX12_hang 78 [some (rV 145), some (iV w), some (iV (nS c w 216 : Int)), none, some (iV n), some (iV mo), some (iV k)] [] m' (fun r m' => ∃ x, r = some (iV x) ∧ K x m')) ?_ ?_ (i := 0) (by omega) (by omega)
    · exact key n0 0 m0 hi (Or.inl ⟨rfl, rfl, fun j d j0 j1 => by omega⟩)
    · intro n mo m' hm hmo
      refine wX12_hang_78 ⟨fun g => by omega, fun _ => ?_⟩
      rcases hmo with ⟨e, _, cl⟩ | ⟨e, lt⟩
      · subst e
        refine wX12_hang_67 ⟨fun _ v hv => ⟨v, rfl, ?_⟩, fun g => absurd rfl g⟩
        rw [hv]
        exact hang_end (K := K) hf hm cl (fun q => h1 q m' hm.1) (fun q => h0 q m' hm.1)
      · subst e
        exact ihf n m' hm (by omega)
    · intro k k0 k1 ih n mo m' hm hmo
      refine wX12_hang_78 ⟨fun _ => ?_, fun g => absurd k1 g⟩
      have key2 := up_ind (n := 6) (fun d => ∀ (n mo : Int) (m' : tM), HI c w f m m' n → (mo = 0 ∧ n = n0 ∧ (∀ j e, 0 ≤ j → (j < k ∨ (j = k ∧ e < d)) → 0 ≤ e → e < 6 → m' 156 j = 1 → S6 c w (st6 j e) → m' 156 (st6 j e) = 1)) ∨ (mo = 1 ∧ n0 < n) → Tj mX12_hang 89 [some (rV 145), some (iV w), some (iV (nS c w 216 : Int)), none, some (iV n), some (iV mo), some (iV k), some (iV d)] [] m' (fun r m' => ∃ x, r = some (iV x) ∧ K x m')) ?_ ?_ (i := 0) (by omega) (by omega)
      · refine key2 n mo m' hm ?_
        rcases hmo with ⟨e, e2, cl⟩ | e
        · exact Or.inl ⟨e, e2, fun j d j0 j1 d0 d1 => cl j d j0 (by omega) d0 d1⟩
        · exact Or.inr e
      · intro n mo m' hm hmo
        refine wX12_hang_89 ⟨fun g => by omega, fun _ => ⟨by constructor <;> omega, ih n mo m' hm ?_⟩⟩
        rcases hmo with ⟨e, e2, cl⟩ | e
        · exact Or.inl ⟨e, e2, fun j d j0 j1 d0 d1 => cl j d j0 (by omega) d0 d1⟩
        · exact Or.inr e
      · intro d d0 d1 ih2 n mo m' hm hmo
        have r := st6_r k0 k1 d0 d1
        have nb := bnd hm
        have ce' : CE m' c := fun q q0 q1 => by rw [hm.1 147 (by omega)]; exact hc q q0 q1
        have skip : ((m' 156 k = 1 → S6 c w (st6 k d) → m' 156 (st6 k d) = 1)) → (mo = 0 ∧ n = n0 ∧ (∀ j e, 0 ≤ j → (j < k ∨ (j = k ∧ e < d + 1)) → 0 ≤ e → e < 6 → m' 156 j = 1 → S6 c w (st6 j e) → m' 156 (st6 j e) = 1)) ∨ (mo = 1 ∧ n0 < n) := fun hs => by
          rcases hmo with ⟨e, e2, cl⟩ | e
          · refine Or.inl ⟨e, e2, fun j x j0 j1 x0 x1 => ?_⟩
            by_cases q : j = k ∧ x = d
            · rw [q.1, q.2]; exact hs
            · exact cl j x j0 (by omega) x0 x1
          · exact Or.inr e
        refine wX12_hang_89 ⟨fun _ => ⟨⟨k0, k1⟩, fun g1 => c_step6 k0 k1 d0 ⟨fun g2 => ⟨by constructor <;> omega, ih2 n mo m' hm (skip (fun _ hs => by have := hs.1; omega))⟩, fun g2 => ⟨⟨by omega, r.2.1⟩, fun g3 => c_padded ce' (by omega) r.2.1 ⟨fun g4 => ⟨⟨by constructor <;> omega, by constructor <;> omega⟩, ih2 (n + 1) 1 _ ?_ ?_⟩, fun g4 => ⟨by constructor <;> omega, ih2 n mo m' hm (skip (fun _ hs => absurd hs.2.2 g4))⟩⟩, fun g3 => ⟨by constructor <;> omega, ih2 n mo m' hm (skip (fun _ _ => ?_))⟩⟩⟩, fun g1 => ⟨by constructor <;> omega, ih n mo m' hm ?_⟩⟩, fun g => absurd d1 g⟩
        · have hk := hm.2.2.1 k k0 k1 g1
          have hs : S6 c w (st6 k d) := ⟨by omega, r.2.1, g4⟩
          exact hm.add (by omega) r.2.1 g3 hs (hk.2.step d0 d1 hs)
        · refine Or.inr ⟨rfl, ?_⟩
          rcases hmo with ⟨_, e2, _⟩ | ⟨_, e2⟩ <;> omega
        · rcases hm.2.1 (st6 k d) (by omega) r.2.1 with q | q
          · exact absurd q g3
          · exact q
        · rcases hmo with ⟨e, e2, cl⟩ | e
          · refine Or.inl ⟨e, e2, fun j x j0 j1 x0 x1 hj => ?_⟩
            by_cases q : j = k
            · rw [q] at hj; exact absurd hj g1
            · exact cl j x j0 (by omega) x0 x1 hj
          · exact Or.inr e
theorem c_hang {K : Int → tM → Prop} (hc : CE m c) (hS : ∃ k, S6 c w k) (h1 : CN6 (S6 c w) → ∀ m', (∀ a, a ≠ 156 → m' a = m a) → K 1 m') (h0 : ¬ CN6 (S6 c w) → ∀ m', (∀ a, a ≠ 156 → m' a = m a) → K 0 m') : Cli mX12_hang [rV 145, iV w] m K := by
  refine wX12_hang_0 ?_
  have key := up_ind (n := 216) (fun k => ∀ (f : Int) (m' : tM), (∀ a, a ≠ 156 → m' a = m a) → (∀ j, 0 ≤ j → j < k → m' 156 j = 0) → ((f = -1 ∧ ∀ j, 0 ≤ j → j < k → vl c (pd j) ≠ w) ∨ (0 ≤ f ∧ f < k ∧ vl c (pd f) = w)) → Tj mX12_hang 7 [some (rV 145), some (iV w), some (iV (nS c w k.toNat : Int)), some (iV f), some (iV k)] [] m' (fun r m' => ∃ x, r = some (iV x) ∧ K x m')) ?_ ?_ (i := 0) (by omega) (by omega)
  · exact key (-1) m (fun _ _ => rfl) (fun j a b => by omega) (Or.inl ⟨rfl, fun j a b => by omega⟩)
  · intro f m' fr z hf
    have hf2 : 0 ≤ f ∧ f < 216 ∧ vl c (pd f) = w := by
      rcases hf with ⟨-, g⟩ | g
      · obtain ⟨k, k0, k1, k2⟩ := hS
        exact absurd k2 (g k k0 k1)
      · exact g
    have sf : S6 c w f := hf2
    refine wX12_hang_7 ⟨fun g => by omega, fun _ => ⟨⟨hf2.1, hf2.2.1⟩, ?_⟩⟩
    have e : (up m' 156 f 1) 156 = ur (m' 156) f 1 := sr_eq _ _ _
    have hi : HI c w f m (up m' 156 f 1) 1 := by
      refine ⟨fun a ha => by rw [up_ne _ _ _ ha, fr a ha], fun j j0 j1 => ?_, fun j j0 j1 hj => ?_, up_at _ _ _ _, ?_⟩
      · rw [e]
        by_cases q : j = f
        · rw [q, ur_eq]; exact Or.inr rfl
        · rw [ur_ne _ _ q]; exact Or.inl (z j j0 j1)
      · by_cases q : j = f
        · rw [q]; exact ⟨sf, R6.refl _ _⟩
        · rw [e, ur_ne _ _ q, z j j0 j1] at hj; omega
      · rw [e]
        have le := cn_one (fun j => decide (ur (m' 156) f 1 (j : Int) = 1)) 216 (fun i j hi hj gi gj => by
          have ei : (i : Int) = f := by
            by_cases q : (i : Int) = f
            · exact q
            · have := of_decide_eq_true gi
              rw [ur_ne _ _ q, z _ (by omega) (by omega)] at this; omega
          have ej : (j : Int) = f := by
            by_cases q : (j : Int) = f
            · exact q
            · have := of_decide_eq_true gj
              rw [ur_ne _ _ q, z _ (by omega) (by omega)] at this; omega
          omega)
        have ge := cn_lt (fun _ => false) (fun j => decide (ur (m' 156) f 1 (j : Int) = 1)) 216 (fun _ _ g => absurd g (by decide)) ⟨f.toNat, by omega, by
          rw [ix_cast hf2.1, ur_eq]; rfl, rfl⟩
        omega
    exact hang_loop hc sf h1 h0 216 1 _ hi (by omega)
  · intro k k0 k1 ih f m' fr z hf
    have ce' : CE (up m' 156 k 0) c := fun q q0 q1 => by rw [up_ne _ _ _ (by omega), fr 147 (by omega)]; exact hc q q0 q1
    have fr' : ∀ a, a ≠ 156 → (up m' 156 k 0) a = m a := fun a ha => by rw [up_ne _ _ _ ha, fr a ha]
    have z' : ∀ j, 0 ≤ j → j < k + 1 → (up m' 156 k 0) 156 j = 0 := fun j j0 j1 => by
      by_cases q : j = k
      · rw [q, up_at]
      · rw [up_at_ne _ _ _ q]; exact z j j0 (by omega)
    have nb : nS c w k.toNat ≤ k.toNat := cn_bound _ k.toNat
    have ns : nS c w (k + 1).toNat = nS c w k.toNat + (if decide (vl c (pd k) = w) = true then 1 else 0) := by
      rw [show (k + 1).toNat = k.toNat + 1 by omega]
      show cn _ _ + (if decide (vl c (pd (k.toNat : Int)) = w) = true then 1 else 0) = _
      rw [ix_cast k0]
    refine wX12_hang_7 ⟨fun _ => ⟨⟨k0, k1⟩, c_padded ce' k0 k1 ⟨fun g v hv => ⟨⟨by constructor <;> omega, by constructor <;> omega⟩, ?_⟩, fun g => ⟨by constructor <;> omega, ?_⟩⟩⟩, fun g => absurd k1 g⟩
    · have := ih v _ fr' z' (Or.inr (by
        rcases hf with ⟨a, b⟩ | ⟨a, b, d⟩
        · rw [if_pos a] at hv; rw [hv]; exact ⟨k0, by omega, g⟩
        · rw [if_neg (by omega)] at hv; rw [hv]; exact ⟨a, by omega, d⟩))
      rw [ns, if_pos (decide_eq_true g)] at this
      exact this
    · have := ih f _ fr' z' (by
        rcases hf with ⟨a, b⟩ | ⟨a, b, d⟩
        · refine Or.inl ⟨a, fun j j0 j1 => ?_⟩
          by_cases q : j = k
          · rw [q]; exact g
          · exact b j j0 (by omega)
        · exact Or.inr ⟨a, by omega, d⟩)
      rw [ns, if_neg (fun e => g (of_decide_eq_true e))] at this
      exact this
end C9l
