/-! calls on the sheet, on both sides -/
/-- the cells of which the rest of the relation speaks -/
def OTH (m m' : tM) : Prop := ∀ c, (c = 3 ∨ c = 5 ∨ (84 ≤ c ∧ c ≤ 114) ∨ c = 125 ∨ (146 ≤ c ∧ c ≤ 148) ∨ c = 153 ∨ c = 154) → m' c = m c
theorem OTH.rf (m : tM) : OTH m m := fun _ _ => rfl
theorem KP.fr {m mk : tM} (h : KP m mk) {c : Nat} (hc : c < 10 ∨ 83 < c) : mk c = m c := by
  obtain ⟨mb, kb, kk⟩ := h
  generalize hi : ((m 10 1 + m 10 2) % 8).toNat = w at kb
  have hw : w < 8 := by omega
  rw [kk]
  split
  · rw [up_ne _ _ _ (by omega)]; exact kb.1 c (by omega)
  · rw [up_ne _ _ _ (by omega)]; exact kb.1 c (by omega)
section C8m
variable {m : tM}
/-- keep on both sides: what holds behind it, with the class's changes between -/
theorem Cur.n {m : tM} (h : Cur m) : (0 ≤ m 6 3 ∧ m 6 3 ≤ 60) := by
  obtain ⟨-, -, s, -, rc, -⟩ := h
  exact ⟨rc.1.1, rc.1.2.1⟩
theorem Cur.eq {m : tM} (h : Cur m) : m 6 3 = m 145 4 ∧ (∀ k, 0 ≤ k → k < m 6 3 → m 7 k = m 149 k ∧ m 8 k = m 150 k) := by
  obtain ⟨-, -, s, -, rc, rm⟩ := h
  exact rc.1.same rm.1
/-- a call that tells: both sides answer one thing, nothing changes but thrown -/
theorem c_isPlace {x y : Int} {K : Int → tM → Prop} (h : K (if (-30 ≤ x ∧ x ≤ 30) ∧ (-30 ≤ y ∧ y ≤ 30) then 1 else 0) m) : Cli mX12_isPlace [iV x, iV y] m K := by
  refine wX12_isPlace_0 (c_in ⟨fun c => ⟨_, rfl, ?_⟩, fun c => c_in (fun v hv => ⟨v, rfl, ?_⟩)⟩)
  · by_cases q : -30 ≤ x ∧ x ≤ 30
    · rw [if_pos q] at c; omega
    · rw [if_neg (fun e => q e.1)] at h; exact h
  · by_cases q : -30 ≤ x ∧ x ≤ 30
    · by_cases q2 : -30 ≤ y ∧ y ≤ 30
      · rw [if_pos q2] at hv; rw [if_pos ⟨q, q2⟩] at h; rw [hv]; exact h
      · rw [if_neg q2] at hv; rw [if_neg (fun e => q2 e.2)] at h; rw [hv]; exact h
    · rw [if_neg q] at c; exact absurd rfl c
theorem sim_clear {K : Int → Int → tM → Prop} (hc : Cur m) (hh : HisR m) (h : ∀ r m', Cur m' → HisR m' → OTH m m' → K r r m') : Cli mX11_clear [rV 0] m (fun r m1 => Cli mX12_clear [rV 145] m1 (fun r' m2 => K r r' m2)) := by
  obtain ⟨a, b, c, d, -, -⟩ := id hh
  have ce := hc.eq
  refine wX11_clear_0 (c_keep a b hc.n (fun mk kp => c_size shS_6 (wX8_drop_0 sh_6 ⟨rfl, _, rfl, ?_⟩)))
  have e6 := kp.fr (c := 6) (by omega)
  have e145 := kp.fr (c := 145) (by omega)
  generalize hm1 : up mk 6 3 0 = m1
  have r1 : ∀ c, c ≠ 6 → m1 c = mk c := fun c hc => by rw [← hm1, up_ne _ _ _ hc]
  have g145 : m1 145 = m 145 := by rw [r1 145 (by omega), e145]
  generalize hm2 : up m1 145 0 0 = m2
  have r2 : ∀ c, c ≠ 145 → m2 c = m1 c := fun c hc => by rw [← hm2, up_ne _ _ _ hc]
  have q2 : ∀ j, j ≠ 0 → m2 145 j = m 145 j := fun j hj => by rw [← hm2, up_at_ne _ _ _ hj, g145]
  refine wX12_clear_0 ?_
  rw [hm2]
  refine c_keepM (by rw [q2 12 (by omega)]; exact d) (by rw [q2 13 (by omega), c]; exact b) (fun m3 km => ⟨_, rfl, ?_⟩)
  obtain ⟨k1, k2, k3, k4, k5, k6⟩ := id km
  have h4 : m3 145 4 = mk 6 3 := by rw [k2 4 (by omega) (by omega) (by omega), q2 4 (by omega), e6]; exact ce.1.symm
  rw [h4]
  have his : HisR m3 := HisR.keep hh hc kp (fun c c0 c1 => by rw [r2 c (by omega), r1 c (by omega)]) (fun c hc => by rw [r2 c (by omega), r1 c (by omega), kp.fr (by omega)]) q2 km
  have rows : ∀ c, c ≠ 155 → c ≠ 145 → c ≠ 6 → (c < 10 ∨ 83 < c) → m3 c = m c := fun c c1 c2 c3 c4 => by rw [k1 c c1 c2, r2 c c2, r1 c c3, kp.fr c4]
  refine h _ _ ?_ (his.congr (fun c c0 c1 => up_ne _ _ _ (by omega)) (up_ne _ _ _ (by omega)) (up_at_ne _ _ _ (by omega)) (up_at_ne _ _ _ (by omega))) (fun c hc => ?_)
  · obtain ⟨hB, hE, s, w, rc, rm⟩ := hc
    have f : ∀ c, c ≠ 145 → (up m3 145 4 0) c = m3 c := fun c hc => up_ne _ _ _ hc
    refine ⟨?_, ?_, (fun _ _ => False, fun _ _ => 0, fun _ _ => 0), ⟨fun _ _ q => q.elim, fun _ _ => ⟨Int.le_refl 0, (by decide : (0 : Int) ≤ 3)⟩, fun _ _ => ⟨Int.le_refl 0, (by decide : (0 : Int) ≤ 3)⟩, fun _ _ q => absurd rfl q, fun _ _ q => absurd rfl q⟩, ?_, ?_⟩
    · rw [f 3 (by omega), f 146 (by omega), f 147 (by omega), rows 3 (by omega) (by omega) (by omega) (by omega), rows 146 (by omega) (by omega) (by omega) (by omega), rows 147 (by omega) (by omega) (by omega) (by omega)]; exact hB
    · rw [f 5 (by omega), f 147 (by omega), f 148 (by omega), rows 5 (by omega) (by omega) (by omega) (by omega), rows 147 (by omega) (by omega) (by omega) (by omega), rows 148 (by omega) (by omega) (by omega) (by omega)]; exact hE
    · have z : (up m3 145 4 0) 6 3 = 0 := by rw [f 6 (by omega), k1 6 (by omega) (by omega), r2 6 (by omega), ← hm1, up_at]
      rw [z]
      exact ⟨⟨by omega, by omega, fun i j i0 ij j1 => by omega, fun x y => ⟨fun q => q.elim, fun ⟨k, k0, k1, _⟩ => by omega⟩⟩, fun k d k0 k1 => by omega⟩
    · rw [up_at]
      exact ⟨⟨by omega, by omega, fun i j i0 ij j1 => by omega, fun x y => ⟨fun q => q.elim, fun ⟨k, k0, k1, _⟩ => by omega⟩⟩, fun k k0 k1 => by omega⟩
  · rw [up_ne _ _ _ (by omega)]
    exact rows c (by omega) (by omega) (by omega) (by omega)
/-- both sides have kept; the class has changed its sheet, the reference nothing yet -/
theorem sim_keep {m mk m1 m2 m3 : tM} (hc : Cur m) (hh : HisR m) (kp : KP m mk) (h1 : ∀ c, (c < 6 ∨ (9 < c ∧ c < 141) ∨ 144 < c) → m1 c = mk c) (h2 : m2 = up m1 145 0 0) (km : KM m2 m3) : HisR m3 ∧ (∀ c, c < 6 ∨ (83 < c ∧ c < 141) ∨ (145 < c ∧ c ≠ 155) → m3 c = m c) ∧ (∀ c, c < 145 → m3 c = m1 c) ∧ (∀ j, j ≠ 0 → j ≠ 12 → j ≠ 13 → j ≠ 14 → m3 145 j = m 145 j) := by
  have g145 : m1 145 = m 145 := by rw [h1 145 (by omega), kp.fr (by omega)]
  have r2 : ∀ c, c ≠ 145 → m2 c = m1 c := fun c hc => by rw [h2, up_ne _ _ _ hc]
  have q2 : ∀ j, j ≠ 0 → m2 145 j = m 145 j := fun j hj => by rw [h2, up_at_ne _ _ _ hj, g145]
  obtain ⟨k1, k2, k3, k4, k5, k6⟩ := id km
  refine ⟨HisR.keep hh hc kp (fun c c0 c1 => by rw [r2 c (by omega), h1 c (by omega)]) (fun c hc => by rw [r2 c (by omega), h1 c (by omega), kp.fr (by omega)]) q2 km, fun c hc => ?_, fun c hc => ?_, fun j j0 j1 j2 j3 => ?_⟩
  · rw [k1 c (by omega) (by omega), r2 c (by omega), h1 c (by omega), kp.fr (by omega)]
  · rw [k1 c (by omega) (by omega), r2 c (by omega)]
  · rw [k2 j j1 j2 j3, q2 j j0]
/-- the reference may keep: its bounds -/
theorem sim_kb {m mk m1 : tM} (hh : HisR m) (kp : KP m mk) (h1 : m1 145 = mk 145) : (0 ≤ (up m1 145 0 0) 145 12 ∧ (up m1 145 0 0) 145 12 < 8) ∧ (0 ≤ (up m1 145 0 0) 145 13 ∧ (up m1 145 0 0) 145 13 ≤ 8) := by
  obtain ⟨-, b, c, d, -, -⟩ := hh
  rw [up_at_ne _ _ _ (by omega), up_at_ne _ _ _ (by omega), h1, kp.fr (by omega), c]
  exact ⟨d, b⟩
/-- the end: all but the sheet is as it was -/
theorem sim_end {m m3 m4 : tM} (hc : Cur m) (his : HisR m3) (r3 : ∀ c, c < 6 ∨ (83 < c ∧ c < 141) ∨ (145 < c ∧ c ≠ 155) → m3 c = m c) (h4 : ∀ c, c < 145 ∨ (145 < c ∧ c < 149) ∨ c = 153 ∨ c = 154 ∨ c = 155 → m4 c = m3 c) (h5 : m4 145 12 = m3 145 12) (h6 : m4 145 13 = m3 145 13) (hs : SHR (m4 6 3) (m4 7) (m4 8) (m4 9) (m4 145 4) (m4 149) (m4 150) (m4 151) (m4 152)) : Cur m4 ∧ HisR m4 ∧ OTH m m4 := by
  have rw1 : ∀ c, c < 6 ∨ (83 < c ∧ c < 141) ∨ (145 < c ∧ c < 149) ∨ c = 153 ∨ c = 154 → m4 c = m c := fun c hc => by rw [h4 c (by omega), r3 c (by omega)]
  refine ⟨⟨?_, ?_, hs⟩, his.congr (fun c c0 c1 => h4 c (by omega)) (h4 155 (by omega)) h5 h6, fun c hc => rw1 c (by omega)⟩
  · rw [rw1 3 (by omega), rw1 146 (by omega), rw1 147 (by omega)]; exact hc.1
  · rw [rw1 5 (by omega), rw1 147 (by omega), rw1 148 (by omega)]; exact hc.2.1
end C8m
