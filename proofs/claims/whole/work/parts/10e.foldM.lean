/-! the reference folds -/
def labM (m : tM) (k : Int) : P6 := (m 168 k, m 169 k, m 170 k, m 173 k, m 171 k, m 172 k)
theorem p6_ext {a b c d e f a' b' c' d' e' f' : Int} (h1 : a = a') (h2 : b = b') (h3 : c = c') (h4 : d = d') (h5 : e = e') (h6 : f = f') : ((a, b, c, d, e, f) : P6) = (a', b', c', d', e', f') := by rw [h1, h2, h3, h4, h5, h6]
theorem labM_congr {m m' : tM} (h : ∀ c, 168 ≤ c → c ≤ 173 → m' c = m c) (k : Int) : labM m' k = labM m k := by
  unfold labM
  rw [h 168 (by omega) (by omega), h 169 (by omega) (by omega), h 170 (by omega) (by omega), h 171 (by omega) (by omega), h 172 (by omega) (by omega), h 173 (by omega) (by omega)]
section C10e
variable {m : tM}
theorem c_toward {k d : Int} {K : Int → tM → Prop} (k0 : 0 ≤ k) (k1 : k < 60) (d0 : 0 ≤ d) (d1 : d < 4) (hv : vF (labM m k)) (h : K (hdF d (labM m k)) m) : Cli mX12_toward [rV 145, iV k, iV d] m K := by
  have hr : d6 (m 171 k) := hv.2.1
  have hu : d6 (m 172 k) := hv.2.2
  rcases d4 d0 d1 with rfl | rfl | rfl | rfl
  · exact wX12_toward_0 ⟨fun _ => ⟨⟨k0, k1⟩, _, rfl, h⟩, fun g => absurd rfl g⟩
  · exact wX12_toward_0 ⟨fun g => by omega, fun _ => ⟨fun _ => ⟨⟨k0, k1⟩, _, rfl, h⟩, fun g => absurd rfl g⟩⟩
  · refine wX12_toward_0 ⟨fun g => by omega, fun _ => ⟨fun g => by omega, fun _ => ⟨fun _ => ⟨⟨k0, k1⟩, _, rfl, ?_⟩, fun g => absurd rfl g⟩⟩⟩
    rw [bXor_1 hr.1 hr.2]; exact h
  · refine wX12_toward_0 ⟨fun g => by omega, fun _ => ⟨fun g => by omega, fun _ => ⟨fun g => by omega, fun _ => ⟨⟨k0, k1⟩, _, rfl, ?_⟩⟩⟩⟩
    rw [bXor_1 hu.1 hu.2]; exact h
theorem c_foldAcross {s : SS} {k d : Int} {K : Int → tM → Prop} (hr : RepM (m 145 4) (m 149) (m 150) (m 151) (m 152) s) (hw : WF s) (k0 : 0 ≤ k) (k1 : k < m 145 4) (d0 : 0 ≤ d) (d1 : d < 4) (hc : cG s (m 149) (m 150) k d ≠ 0) (hv : vF (labM m k)) (hb : bF 200 (labM m k)) (hold : m 167 (nG (m 145 4) (m 149) (m 150) k d) = 1 → (labM m (nG (m 145 4) (m 149) (m 150) k d) = crF d (cG s (m 149) (m 150) k d - 2) (labM m k) → K 0 m) ∧ (labM m (nG (m 145 4) (m 149) (m 150) k d) ≠ crF d (cG s (m 149) (m 150) k d - 2) (labM m k) → K 2 m)) (hnew : m 167 (nG (m 145 4) (m 149) (m 150) k d) ≠ 1 → ∀ m', (∀ c, c < 167 ∨ 173 < c → m' c = m c) → m' 167 = ur (m 167) (nG (m 145 4) (m 149) (m 150) k d) 1 → labM m' (nG (m 145 4) (m 149) (m 150) k d) = crF d (cG s (m 149) (m 150) k d - 2) (labM m k) → (∀ x, x ≠ nG (m 145 4) (m 149) (m 150) k d → labM m' x = labM m x) → K 1 m') : Cli mX12_foldAcross [rV 145, iV k, iV d] m K := by
  have n0 := hr.1.1
  have n1 := hr.1.2.1
  have rr := hr.1.rch hw
  have c4r := s4_r3 hw (m 149 k) (m 150 k) d
  have nx := (nG_in hr.1 hw d0 d1 hc).1
  have t6 := hdF_6 (d := d) hv
  have t6' := hdF_6 (d := (d + 1) % 4) hv
  have f6 : d6 (m 173 k) := hv.1
  obtain ⟨b1, b2, b3⟩ := hb
  have b1' : -200 ≤ m 168 k ∧ m 168 k ≤ 200 := b1
  have b2' : -200 ≤ m 169 k ∧ m 169 k ≤ 200 := b2
  have b3' : -200 ≤ m 170 k ∧ m 170 k ≤ 200 := b3
  refine wX12_foldAcross_0 (c_creaseOf n0 n1 hr.1.2.2.1 rr k0 k1 d0 ?_)
  rw [crO_rep hr hw k0 k1 d0 d1]
  generalize hq : s4 s (m 149 k) (m 150 k) d - 2 = q
  have q3 : q = -1 ∨ q = 0 ∨ q = 1 := by
    have : s4 s (m 149 k) (m 150 k) d ≠ 0 := hc
    omega
  have eq : cG s (m 149) (m 150) k d - 2 = q := hq
  rw [eq] at hold hnew
  generalize ho : nG (m 145 4) (m 149) (m 150) k d = o at nx hold hnew
  refine ⟨by constructor <;> omega, c_neighbour n0 n1 hr.1.2.2.1 rr k0 k1 ?_⟩
  rw [show nbr (m 145 4) (m 149) (m 150) k d = o from ho]
  refine c_toward k0 (by omega) d0 d1 hv ⟨⟨by constructor <;> omega, by omega⟩, c_toward k0 (by omega) (by omega) (by omega) hv ⟨⟨k0, by omega⟩, fun v1 h1 v2 h2 v3 h3 => ?_⟩⟩
  rw [bXor_1 f6.1 f6.2] at h1 h3
  rw [bXor_1 t6.1 t6.2] at h2
  generalize ht : hdF d (labM m k) = t at *
  have e1 : v1 = onF q (m 173 k) t := by
    rw [h1]; unfold onF
    rcases q3 with rfl | rfl | rfl <;> rfl
  have e3 : v3 = v1 := by rw [h3, h1]
  have e2 : v2 = fnF q (m 173 k) t := by
    rw [h2]; unfold fnF
    rcases q3 with rfl | rfl | rfl <;> rfl
  have o6 : d6 v1 := by rw [e1]; exact onF_6 f6 t6
  rw [e3]
  have a0 := alO_b t 0
  have a1 := alO_b t 1
  have a2 := alO_b t 2
  have c0 := alO_b v1 0
  have c1 := alO_b v1 1
  have c2 := alO_b v1 2
  refine c_alongOf t6.1 ⟨by constructor <;> omega, c_alongOf o6.1 ⟨by constructor <;> omega, c_alongOf t6.1 ⟨by constructor <;> omega, c_alongOf o6.1 ⟨by constructor <;> omega, c_alongOf t6.1 ⟨by constructor <;> omega, c_alongOf o6.1 ⟨by constructor <;> omega, fun v4 h4 v5 h5 => ⟨⟨nx.1, by omega⟩, ?_⟩⟩⟩⟩⟩⟩⟩
  rw [bXor_1 o6.1 o6.2, bXor_1 t6'.1 t6'.2] at h4 h5
  -- right and up
  have rr6 : d6 (m 171 k) := hv.2.1
  have uu6 : d6 (m 172 k) := hv.2.2
  have xr := (x1_r rr6.1 rr6.2).2.1
  have xu := (x1_r uu6.1 uu6.2).2.1
  have E : (m 168 k + alO t 0 + alO v1 0, m 169 k + alO t 1 + alO v1 1, m 170 k + alO t 2 + alO v1 2, v2, v4, v5) = crF d q (labM m k) := by
    unfold crF
    rw [ht]
    rw [show onF q (labM m k).2.2.2.1 t = v1 from e1.symm, show fnF q (labM m k).2.2.2.1 t = v2 from e2.symm]
    refine p6_ext ?_ ?_ ?_ rfl ?_ ?_
    · show _ = m 168 k + (alO t 0 + alO v1 0); omega
    · show _ = m 169 k + (alO t 1 + alO v1 1); omega
    · show _ = m 170 k + (alO t 2 + alO v1 2); omega
    · rw [h4]
      rcases d4 d0 d1 with rfl | rfl | rfl | rfl
      · rfl
      · exact xr
      · rfl
      · rfl
    · rw [h5]
      rcases d4 d0 d1 with rfl | rfl | rfl | rfl
      · rfl
      · rfl
      · exact xu
      · rfl
  rw [← E] at hold hnew
  refine ⟨fun g => ?_, fun g m11 h11 => ⟨_, rfl, hnew g _ ?_ ?_ ?_ ?_⟩⟩
  · obtain ⟨k0', k2'⟩ := hold g
    refine ⟨fun g1 => ⟨fun g2 => ⟨fun g3 => ⟨fun g4 => ⟨fun g5 v6 h6 v7 h7 => ⟨_, rfl, ?_⟩, fun g5 => ⟨_, rfl, k2' (fun z => g5 (congrArg (fun z : P6 => z.2.2.2.2.2) z))⟩⟩, fun g4 => ⟨_, rfl, k2' (fun z => g4 (congrArg (fun z : P6 => z.2.2.2.2.1) z))⟩⟩, fun g3 => ⟨_, rfl, k2' (fun z => g3 (congrArg (fun z : P6 => z.2.2.1) z))⟩⟩, fun g2 => ⟨_, rfl, k2' (fun z => g2 (congrArg (fun z : P6 => z.2.1) z))⟩⟩, fun g1 => ⟨_, rfl, k2' (fun z => g1 (congrArg (fun z : P6 => z.1) z))⟩⟩
    by_cases g6 : m 173 o = v2
    · rw [if_pos g6] at h6
      rw [h6, if_neg (by omega)] at h7
      rw [h7]
      exact k0' (p6_ext g1 g2 g3 g6 g4 g5)
    · rw [if_neg g6] at h6
      rw [h6, if_pos rfl] at h7
      rw [h7]
      exact k2' (fun z => g6 (congrArg (fun z : P6 => z.2.2.2.1) z))
  · intro c hc
    rw [up_ne _ _ _ (by omega), h11, up_ne _ _ _ (by omega), up_ne _ _ _ (by omega), up_ne _ _ _ (by omega), up_ne _ _ _ (by omega), up_ne _ _ _ (by omega), up_ne _ _ _ (by omega)]
  · rw [up_ne _ _ _ (by omega), h11, up_ne _ _ _ (by omega), up_ne _ _ _ (by omega), up_ne _ _ _ (by omega), up_ne _ _ _ (by omega), up_ne _ _ _ (by omega)]
    exact sr_eq _ _ _
  · refine p6_ext ?_ ?_ ?_ ?_ ?_ ?_
    · rw [up_ne _ _ _ (by omega), h11, up_ne _ _ _ (by omega), up_ne _ _ _ (by omega), up_ne _ _ _ (by omega), up_ne _ _ _ (by omega), up_at]
    · rw [up_ne _ _ _ (by omega), h11, up_ne _ _ _ (by omega), up_ne _ _ _ (by omega), up_ne _ _ _ (by omega), up_at]
    · rw [up_ne _ _ _ (by omega), h11, up_ne _ _ _ (by omega), up_ne _ _ _ (by omega), up_at]
    · rw [up_at]
    · rw [up_ne _ _ _ (by omega), h11, up_ne _ _ _ (by omega), up_at]
    · rw [up_ne _ _ _ (by omega), h11, up_at]
  · intro x hx
    refine p6_ext ?_ ?_ ?_ ?_ ?_ ?_
    · rw [up_ne _ _ _ (by omega), h11, up_ne _ _ _ (by omega), up_ne _ _ _ (by omega), up_ne _ _ _ (by omega), up_ne _ _ _ (by omega), up_at_ne _ _ _ hx, up_ne _ _ _ (by omega)]
    · rw [up_ne _ _ _ (by omega), h11, up_ne _ _ _ (by omega), up_ne _ _ _ (by omega), up_ne _ _ _ (by omega), up_at_ne _ _ _ hx, up_ne _ _ _ (by omega), up_ne _ _ _ (by omega)]
    · rw [up_ne _ _ _ (by omega), h11, up_ne _ _ _ (by omega), up_ne _ _ _ (by omega), up_at_ne _ _ _ hx, up_ne _ _ _ (by omega), up_ne _ _ _ (by omega), up_ne _ _ _ (by omega)]
    · rw [up_at_ne _ _ _ hx, h11, up_ne _ _ _ (by omega), up_ne _ _ _ (by omega), up_ne _ _ _ (by omega), up_ne _ _ _ (by omega), up_ne _ _ _ (by omega), up_ne _ _ _ (by omega)]
    · rw [up_ne _ _ _ (by omega), h11, up_ne _ _ _ (by omega), up_at_ne _ _ _ hx, up_ne _ _ _ (by omega), up_ne _ _ _ (by omega), up_ne _ _ _ (by omega), up_ne _ _ _ (by omega)]
    · rw [up_ne _ _ _ (by omega), h11, up_at_ne _ _ _ hx, up_ne _ _ _ (by omega), up_ne _ _ _ (by omega), up_ne _ _ _ (by omega), up_ne _ _ _ (by omega), up_ne _ _ _ (by omega)]
end C10e
