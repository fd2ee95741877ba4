/-! the law, from its entry -/
theorem W.afterC {p : Program} {l : Launch} {e : Env} {R : Room} {s : State} {mid : MethodId} {args : Array Value} {below : List Frame} {meth : Method} {c : Code} {H : Heap} {locs : List Loc} {k n mc ms pc h0 : Nat} {ls : Array Slot} {st0 rest : List Value} {a0 : Array Value} {D : va_G} {cA : Nat → ClassId} {P : Option tV → List cC → Prop} {Q : State → Prop}
    (hr : va_Run p l e R s mid args below meth c H locs k n mc ms (F0 mid pc ls st0) rest (cQ D cA h0 P a0) (fun q => h0 ≤ q)) (hS : va_S (fun q => h0 ≤ q) s.heap H locs)
    (kk : ∀ (r : Option tV) (w' : List cC) (H1 : Heap) (locs1 : List Loc), P r w' → CP D cA h0 w' H1 → va_S (fun q => h0 ≤ q) s.heap H1 locs1 → W p l e R s mid args below meth c H1 locs1 (k + mc) (n + ms) Q (F0 mid (pc + 3) ls ((r.map (rv (rho0 h0))).toList ++ rest))) : W p l e R s mid args below meth c H locs k n Q (F0 mid pc ls st0) := by
  intro T hT hX
  obtain ⟨v, st₀, t, T', L, h0', X', hL, e1, e2, ⟨⟨r, w', hv, hp, hC⟩, hz, hk⟩, stp⟩ := hr T hT hX
  rw [h0'] at hz hk
  have hv' : v = r.map (rv (rho0 h0)) := by cases hv; rfl
  subst hv'
  have hS' : va_S (fun q => h0 ≤ q) s.heap T'.heap (locs ++ L) := ⟨Nat.le_trans hS.1 (by rw [e1]; exact hz), fun q g1 g2 => by rw [e1, hk q (Nat.lt_of_lt_of_le g1 hS.1) g2]; exact hS.2.1 q g1 g2, fun q hq => by
    rcases List.mem_append.mp hq with h | h
    · exact hS.2.2 q h
    · exact hL q h⟩
  obtain ⟨t2, a1, b1⟩ := kk r w' T'.heap (locs ++ L) hp (by rw [e1]; exact hC) hS' T' rfl X'
  exact ⟨t2, stp t2 a1, b1⟩
/-- the law makes an object -/
theorem law_make {p : Program} {l : Launch} {e : Env} {s : State} {mid : MethodId} {args : Array Value} {below : List Frame} {meth : Method} {c : Code} {H : Heap} {locs : List Loc} {k n pc ix iy ci N' mc' ms' : Nat} {ls : Array Slot} {D : va_G} {cA : Nat → ClassId} {Q : State → Prop} {N : MI} {S : List spec} {w : List cC} (hx : p.tables.exec = Jvm.exec) (hb : c.code = cL_law) (hml : c.maxLocals = 4) (hown : s.vm.findClass RL = some mid.cls) (hts : ∀ w ∈ tg_tbl, w.before args s = true) (hK : va_K D vwCl (ttys cA) s) (ao0 : va_AO RX0 s) (ao8 : va_AO RX8 s) (hsz : ls.size = 4) (hC : CP D cA s.heap.size w H) (hS : va_S (fun q => s.heap.size ≤ q) s.heap H locs) (d1 : decode cL_law pc = .ok (.new ix, 3)) (d2 : decode cL_law (pc + 3) = .ok (.dup, 1)) (d3 : decode cL_law (pc + 4) = .ok (.invokespecial iy, 3)) (f1 : NEWc RL ix ci N') (f2 : LNI RL iy N) (hc : Con N ci mc' ms' S)
    (hroom : N.2.2.2.2.1 + 1 ≤ 10 ∧ 8 + (N.2.2.1 + 11) + N.2.2.2.2.2 ≤ 396) (hlen : 1 ≤ N.2.2.1) (hk : k + 1 + mc' ≤ 600000) (hn : n + N' + ms' ≤ 7302250)
    (kk : ∀ (H1 : Heap) (locs1 : List Loc), CP D cA s.heap.size (w ++ genL w.length S) H1 → va_S (fun q => s.heap.size ≤ q) s.heap H1 locs1 → W p l e room_1 s mid args below meth c H1 locs1 (k + 1 + mc') (n + N' + ms') Q (F0 mid (pc + 7) ls [.ref (s.heap.size + w.length)])) : W p l e room_1 s mid args below meth c H locs k n Q (F0 mid pc ls []) := by
  obtain ⟨⟨C, T, N2⟩, f1, rfl, f3, f4, f5, f6, ty0, g1, g2⟩ := f1
  have hKn := hK.1 ci _ f1
  refine W.newcK hx hb hown (hts _ f4) (hts _ f5) (hts _ f6) rfl d1 (by show k + 1 ≤ 600000; omega) (by show n + N2 ≤ 7302250; have hn' : n + N2 + ms' ≤ 7302250 := hn; omega) hKn.2.1 hC.1 (fun H1 kC hkC e1 z1 o1 => ?_)
  have hS1 : va_S (fun q => s.heap.size ≤ q) s.heap H1 locs := ⟨Nat.le_trans hS.1 (by rw [z1, hC.1]; omega), fun x h1 h2 => (o1 x (by have := hS.1; rw [hC.1] at this; omega)).trans (hS.2.1 x h1 h2), hS.2.2⟩
  have hC1 : CP D cA s.heap.size (w ++ [bobj ci]) H1 := hC.push z1 o1 ⟨_, f1, (u_born ty0 hts f3 hKn hkC e1 g1).to (fun j hj => by
    show defaultValue (ty0 j) = vp_V ((bfs (fkL.getD ci [])).map (rvo s.heap.size)) j
    rw [bfs_map]
    exact g2 j hj)⟩
  refine lv_dup hx hb d2 rfl ?_
  obtain ⟨i1, i2, i3, i4, i5⟩ := f2
  have hM := Cj.met (as := [rV w.length]) (hc w) i5 hlen l D cA s.heap.size
  have pre : ∀ U : State, U.heap = H1 → s.WarmedH U.vm → cPc D cA s.heap.size [rV w.length] (w ++ [bobj ci]) ([rV w.length].map (rv (rho0 s.heap.size))).toArray U := fun U hU hW => ⟨rfl, by rw [hU]; exact hC1, va_K.moved hW.alike hK, va_AO.moved hW.alike ao0, va_AO.moved hW.alike ao8⟩
  refine W.afterC (va_runI (As := []) (b := s.heap.size + w.length) (rest := [.ref (s.heap.size + w.length)]) (n := 0) (own := RL) (Ts := tg_tbl) (nL := 4) ⟨hx, hb, hml, hown, hts⟩ hM
    (cwI (ws' := tg_tbl) 0 hts (tws_good i5) (by unfold tws; rw [i4]) rfl rfl (hts _ i5.2.2.1) (hts _ i1) (hts _ i2) i3 ⟨i5.2.2.2.1.1, i5.2.2.2.1.2, i5.2.2.2.2⟩ hroom) ⟨cPc_blind D cA s.heap.size [rV w.length] (w ++ [bobj ci]), pre⟩ rfl rfl hsz rfl (lv_room (Nat.le_of_ble_eq_true rfl)) d3 ⟨hk, hn⟩) hS1 (fun r w' H2 locs2 hp hC2 hS2 => ?_)
  obtain ⟨rfl, rfl⟩ := hp
  exact kk H2 locs2 hC2 hS2
def rhoL (h0 t0 t1 t2 t3 b : Nat) : Nat → Nat := fun a => if a < 180 then h0 + a else if a = 1000 then t0 else if a = 1001 then t1 else if a = 1002 then t2 else if a = 1003 then t3 else b
theorem genL_all : [] ++ genL ([] : List cC).length cartonS ++ genL ([] ++ genL ([] : List cC).length cartonS).length modelS = genL 0 allS := by
  rw [List.nil_append, genL_len]
  unfold allS
  rw [genL_app, Nat.zero_add]
  rfl
theorem carton_len : cartonS.length = 145 := by
  have h := allS_len
  unfold allS at h
  rw [List.length_append] at h
  have : modelS.length = 35 := rfl
  omega
set_option maxHeartbeats 4000000 in
set_option maxRecDepth 100000 in
theorem whole_start {p : Program} {e : Env} {s : State} {m : MethodId} {below : List Frame} {meth : Method} {c : Code} (l : Launch) {b L : Nat} {xs : Nat → Int32} (hL : L ≤ 3072) (C0 : lw_At p s m meth c b L xs) : W p l e room_1 s m #[Value.ref b] below meth c s.heap [] 0 0 (lw_Z below #[Value.ref b] s) (entryFrame m ([Value.ref b] : List Value).toArray 4) := by
  obtain ⟨hx, hb, hr, hml, hown, hts, hX, hbl, hlocks, hgv⟩ := id C0
  have htg := tg_of hts
  obtain ⟨D, cA, hK, ao0, ao8⟩ := tab_all hts
  obtain ⟨t0, z0, y0⟩ := st_1000 hts hgv
  obtain ⟨t1, z1, y1⟩ := st_1001 hts hgv
  obtain ⟨t2, z2, y2⟩ := st_1002 hts hgv
  obtain ⟨t3, z3, y3⟩ := st_1003 hts hgv
  have hl := lv_entry ([.ref b]) (n := 4) (Nat.le_of_ble_eq_true rfl)
  rw [lg_entry_eq]
  generalize (lg_sl ([.ref b]) ++ List.replicate (4 - (lg_sl ([.ref b])).length) Slot.unset).toArray = ls at hl ⊢
  have hl : lv_has ls 4 [(0, .ref b)] := hl
  have hC0 : CP D cA s.heap.size [] s.heap := ⟨rfl, fun k x h => by simp at h⟩
  refine law_make hx hb hml hown htg hK ao0 ao8 hl.1 hC0 va_S.rf dL_law_0 dL_law_3 dL_law_4 nw_L_7 li_L_9 con_X11 ⟨Nat.le_of_ble_eq_true rfl, Nat.le_of_ble_eq_true rfl⟩ (Nat.le_of_ble_eq_true rfl) (Nat.le_of_ble_eq_true rfl) (Nat.le_of_ble_eq_true rfl) (fun H1 locs1 hC1 hS1 => ?_)
  refine lv_astore_n (lv' := [(1, .ref (s.heap.size + ([] : List cC).length)), (0, .ref b)]) hx hb dL_law_7 rfl hl (by decide) rfl (fun ls hl => ?_)
  refine law_make hx hb hml hown htg hK ao0 ao8 hl.1 hC1 hS1 dL_law_8 dL_law_11 dL_law_12 nw_L_10 li_L_12 con_X12 ⟨Nat.le_of_ble_eq_true rfl, Nat.le_of_ble_eq_true rfl⟩ (Nat.le_of_ble_eq_true rfl) (Nat.le_of_ble_eq_true rfl) (Nat.le_of_ble_eq_true rfl) (fun H2 locs2 hC2 hS2 => ?_)
  rw [genL_all] at hC2
  rw [show (([] ++ genL ([] : List cC).length cartonS : List cC)).length = 145 by rw [List.nil_append, genL_len]; exact carton_len]
  refine lv_astore_n (lv' := [(2, .ref (s.heap.size + 145)), (1, .ref (s.heap.size + 0)), (0, .ref b)]) hx hb dL_law_15 rfl hl (by decide) rfl (fun ls hl => ?_)
  refine lv_iconst (v := 0) hx hb dL_law_16 (by decide +kernel) ?_
  refine lv_istore_n (lv' := [(3, .int 0), (2, .ref (s.heap.size + 145)), (1, .ref (s.heap.size + 0)), (0, .ref b)]) hx hb dL_law_17 rfl hl (by decide) rfl (fun ls hl => ?_)
  generalize hρ : rhoL s.heap.size t0 t1 t2 t3 b = ρ
  have hr180 : ∀ a, a < 180 → ρ a = s.heap.size + a := fun a ha => by rw [← hρ]; unfold rhoL; rw [if_pos ha]
  have nar : ∀ q, tA ρ q → s.heap.size ≤ q := fun q ⟨a, ha, he⟩ => by
    rw [SHL_len] at ha
    rw [he, hr180 a ha]
    omega
  have r0 : ρ 1000 = t0 := by rw [← hρ]; rfl
  have r1 : ρ 1001 = t1 := by rw [← hρ]; rfl
  have r2 : ρ 1002 = t2 := by rw [← hρ]; rfl
  have r3 : ρ 1003 = t3 := by rw [← hρ]; rfl
  have rb : ρ 2000 = b := by rw [← hρ]; rfl
  have tw : TW D cA ρ s := by
    refine ⟨hK, fun m => world_apart hr180 m, ⟨?_, ?_⟩, ⟨?_, ?_⟩, ⟨?_, ?_⟩, ⟨?_, ?_⟩⟩
    · rw [r0]; exact z0.narrow nar
    · rw [r0]; exact y0.narrow nar
    · rw [r1]; exact z1.narrow nar
    · rw [r1]; exact y1.narrow nar
    · rw [r2]; exact z2.narrow nar
    · rw [r2]; exact y2.narrow nar
    · rw [r3]; exact z3.narrow nar
    · rw [r3]; exact y3.narrow nar
  have X : LX p s m meth c b L xs D cA ρ := ⟨hx, hb, hr, hml, hown, htg, hlocks, tw, hX, hbl, hr180, rb, hL⟩
  have hS3 : va_S (tA ρ) s.heap H2 [] := ⟨hS2.1, fun q g1 _ => hS2.2.1 q g1 (by show ¬ s.heap.size ≤ q; omega), fun q hq => by cases hq⟩
  have hT : tL ρ ls 4 (llv 0) := by
    refine ⟨hl.1, hl.2.1, fun i v hv => ?_⟩
    match i, hv with
    | 0, hv =>
      cases hv
      show ls[0]? = some (.val (.ref (ρ 2000)))
      rw [rb]
      exact lv_at hl 3 rfl
    | 1, hv =>
      cases hv
      show ls[1]? = some (.val (.ref (ρ 0)))
      rw [hr180 0 (by omega)]
      exact lv_at hl 2 rfl
    | 2, hv =>
      cases hv
      show ls[2]? = some (.val (.ref (ρ 145)))
      rw [hr180 145 (by omega)]
      exact lv_at hl 1 rfl
    | 3, hv =>
      cases hv
      show ls[3]? = some (.val (.int (Int32.ofInt 0)))
      rw [ti_0]
      exact lv_at hl 0 rfl
    | i + 4, hv => cases hv
  refine va_forget (fun q hq => hS2.2.2 q hq) ?_
  exact law_loop hL (L + 6) 0 m0 rel_m0 (by omega) (by omega) (by omega) p l e s m below meth c b H2 [] D cA ρ ls X tRs_nil r32_0 m0_32 (cells_world hr180 hC2) hS3 hT
