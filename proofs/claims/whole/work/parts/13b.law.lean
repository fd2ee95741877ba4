/-! the law: its judgement -/
def R_law : String := "CubeCartonLaw"
def lw_P (b : Addr) (xs : List Int32) (args : Array Value) (s : State) : Prop := args = #[.ref b] ∧ s.IntsAt b xs ∧ xs.length ≤ 3072 ∧ (Jvm.Cond.and given_1 narrow_1).before args s = true
def lw_Q (_ : Array Value) (s : State) (o : Outcome) (t : State) : Prop := o = .returned (some (.int 1)) ∧ Framed s o t [] 600000 7302250
def lw_Z (below : List Frame) (a : Array Value) (s : State) : State → Prop := fun t => ∃ o, t.status = .running ∧ Ended t below o ∧ lw_Q a s o t
theorem lw_ret {p : Program} {l : Launch} {e : Env} {s : State} {m : MethodId} {below : List Frame} {meth : Method} {c : Code} {b : Nat} (hx : p.tables.exec = Jvm.exec) (hb : c.code = code) (hr : meth.sig.returnType = ret) (hlocks : meth.locks = false) {pc : Nat} {H : Heap} {ls : Array Slot} (hdg : decode code pc = .ok (.ireturn, 1)) : W p l e room_1 s m #[Value.ref b] below meth c H [] 600000 7302250 (lw_Z below #[Value.ref b] s) (F0 m pc ls [.int 1]) := by
  intro T hT X
  obtain ⟨fs, hret, hrun, hended, hW, hframe⟩ := X.leave (v := some (.int 1)) (hlocks := hlocks) (fun h => by rw [hr] at h; cases h)
  have hmeth' : T.vm.method? m = some meth := X.method'
  refine ⟨T.setFrames fs, ?_, .returned (some (.int 1)), hrun, hended, rfl, ⟨_, rfl⟩, hW, hframe⟩
  jvm_step X.here [X.here.top, hx, hb, hdg, hmeth', hr, ret, narrow_b1]
  (try refine ⟨rfl, ?_⟩); (try refine ⟨rfl, ?_⟩)
  first | (intro acts; rw [hret _ acts rfl rfl rfl]) | rw [hret _ _ rfl rfl rfl]
  exact Steps.refl _
def lw_At (p : Program) (s : State) (m : MethodId) (meth : Method) (c : Code) (b L : Nat) (xs : Nat → Int32) : Prop :=
  p.tables.exec = Jvm.exec ∧ c.code = code ∧ meth.sig.returnType = ret ∧ c.maxLocals = 4 ∧ s.vm.findClass R_law = some m.cls ∧ (∀ w ∈ lw_tbl, w.before #[Value.ref b] s = true) ∧ va_X b L xs s s.heap ∧ b < s.heap.size ∧ meth.locks = false ∧ (Jvm.Cond.and given_1 narrow_1).before #[Value.ref b] s = true
def LX (p : Program) (s : State) (mid : MethodId) (meth : Method) (c : Code) (b L : Nat) (xs : Nat → Int32) (D : va_G) (cA : Nat → ClassId) (ρ : Nat → Nat) : Prop :=
  p.tables.exec = Jvm.exec ∧ c.code = cL_law ∧ meth.sig.returnType = ret ∧ c.maxLocals = 4 ∧ s.vm.findClass RL = some mid.cls ∧ (∀ w ∈ tg_tbl, w.before #[Value.ref b] s = true) ∧ meth.locks = false ∧ TW D cA ρ s ∧ va_X b L xs s s.heap ∧ b < s.heap.size ∧ (∀ a, a < 180 → ρ a = s.heap.size + a) ∧ ρ 2000 = b ∧ L ≤ 3072
set_option maxRecDepth 100000 in
theorem SHL_len : SHL.length = 180 := rfl
theorem LX.ge {p : Program} {s : State} {mid : MethodId} {meth : Method} {c : Code} {b L : Nat} {xs : Nat → Int32} {D : va_G} {cA : Nat → ClassId} {ρ : Nat → Nat} (X : LX p s mid meth c b L xs D cA ρ) {q : Nat} (h : tA ρ q) : s.heap.size ≤ q := by
  obtain ⟨a, ha, rfl⟩ := h
  rw [SHL_len] at ha
  rw [X.2.2.2.2.2.2.2.2.2.2.1 a ha]
  omega
theorem LX.nb {p : Program} {s : State} {mid : MethodId} {meth : Method} {c : Code} {b L : Nat} {xs : Nat → Int32} {D : va_G} {cA : Nat → ClassId} {ρ : Nat → Nat} (X : LX p s mid meth c b L xs D cA ρ) : ¬ tA ρ b := fun h => by
  have := X.ge h
  have := X.2.2.2.2.2.2.2.2.2.1
  omega
abbrev llv (i : Int) : List (Option tV) := [some (rV 2000), some (rV 0), some (rV 145), some (iV i)]
def Lj (L : Nat) (xs : Nat → Int32) (pc : Nat) (i : Int) (st : List tV) (m : tM) : Prop :=
  ∀ (p : Program) (l : Launch) (e : Env) (s : State) (mid : MethodId) (below : List Frame) (meth : Method) (c : Code) (b : Nat) (H : Heap) (locs : List Loc) (D : va_G) (cA : Nat → ClassId) (ρ : Nat → Nat) (ls : Array Slot),
    LX p s mid meth c b L xs D cA ρ → tRs st → R32 i → M32 m → va_P D vwCl (twd cA ρ m) H → va_S (tA ρ) s.heap H locs → tL ρ ls 4 (llv i) →
    W p l e room_1 s mid #[Value.ref b] below meth c H locs 180 36578 (lw_Z below #[Value.ref b] s) (F0 mid pc ls (st.map (rv ρ)))
section LJ
variable {L : Nat} {xs : Nat → Int32} {pc pc' : Nat} {i : Int} {st : List tV} {m : tM}
theorem Lj.op {st' : List tV} (kk : Lj L xs pc' i st' m) (hr : tRs st → tRs st')
    (h : ∀ (p : Program) (l : Launch) (e : Env) (R : Room) (s : State) (mid : MethodId) (args : Array Value) (below : List Frame) (meth : Method) (c : Code) (H : Heap) (locs : List Loc) (Q : State → Prop) (ls : Array Slot) (ρ : Nat → Nat), p.tables.exec = Jvm.exec → c.code = cL_law → tRs st →
      W p l e R s mid args below meth c H locs 180 36578 Q (F0 mid pc' ls (st'.map (rv ρ))) → W p l e R s mid args below meth c H locs 180 36578 Q (F0 mid pc ls (st.map (rv ρ)))) : Lj L xs pc i st m := by
  intro p l e s mid below meth c b H locs D cA ρ ls X h2 hi h3 hP hS hl
  exact h p l e _ s mid _ below meth c H locs _ ls ρ X.1 X.2.1 h2 (kk p l e s mid below meth c b H locs D cA ρ ls X (hr h2) hi h3 hP hS hl)
theorem Lj.iconst {n : Int} (d : decode cL_law pc = .ok (.iconst n, 1)) (hr : R32 n) (hp : pc + 1 = pc') (k : Lj L xs pc' i (iV n :: st) m) : Lj L xs pc i st m := by
  subst hp
  exact Lj.op k (fun h => tRs_cons hr h) (fun p l e R s mid args below meth c H locs Q ls ρ hx hb hR kk => lv_iconst hx hb d rfl kk)
theorem Lj.bipush {n : Int} (d : decode cL_law pc = .ok (.bipush n, 2)) (hr : R32 n) (hv : (Int8.ofInt n).toInt32 = Int32.ofInt n) (hp : pc + 2 = pc') (k : Lj L xs pc' i (iV n :: st) m) : Lj L xs pc i st m := by
  subst hp
  exact Lj.op k (fun h => tRs_cons hr h) (fun p l e R s mid args below meth c H locs Q ls ρ hx hb hR kk => lv_bipush hx hb d hv kk)
theorem Lj.iadd {a b : Int} (d : decode cL_law pc = .ok (.iadd, 1)) (hr : R32 (a + b)) (hp : pc + 1 = pc') (k : Lj L xs pc' i (iV (a + b) :: st) m) : Lj L xs pc i (iV b :: iV a :: st) m := by
  subst hp
  exact Lj.op k (fun h => tRs_cons hr (tRs_tl (tRs_tl h))) (fun p l e R s mid args below meth c H locs Q ls ρ hx hb hR kk => lv_iadd hx hb d (by rw [← Int32.ofInt_add]; exact kk))
theorem Lj.isub {a b : Int} (d : decode cL_law pc = .ok (.isub, 1)) (hr : R32 (a - b)) (hp : pc + 1 = pc') (k : Lj L xs pc' i (iV (a - b) :: st) m) : Lj L xs pc i (iV b :: iV a :: st) m := by
  subst hp
  exact Lj.op k (fun h => tRs_cons hr (tRs_tl (tRs_tl h))) (fun p l e R s mid args below meth c H locs Q ls ρ hx hb hR kk => lv_isub hx hb d (by rw [← Int32.ofInt_sub]; exact kk))
theorem Lj.iand {a b : Int} (d : decode cL_law pc = .ok (.iand, 1)) (hp : pc + 1 = pc') (k : Lj L xs pc' i (iV (bAnd a b) :: st) m) : Lj L xs pc i (iV b :: iV a :: st) m := by
  subst hp
  exact Lj.op k (fun h => tRs_cons (tr_of _) (tRs_tl (tRs_tl h))) (fun p l e R s mid args below meth c H locs Q ls ρ hx hb hR kk => lv_iand hx hb d (by rw [← ti_of (Int32.ofInt a &&& Int32.ofInt b)]; exact kk))
theorem Lj.goto {off : Int} (d : decode cL_law pc = .ok (.goto off, 3)) (ht : (pc : Int) + off = (pc' : Int)) (k : Lj L xs pc' i st m) : Lj L xs pc i st m :=
  Lj.op k (fun h => h) (fun p l e R s mid args below meth c H locs Q ls ρ hx hb hR kk => lv_goto hx hb d ht kk)
theorem Lj.tsI {n v : Int} {dflt lo hi off : Int} {offs : Array Int} {len : Nat} (d : decode cL_law pc = .ok (.tableswitch dflt lo hi offs, len)) (e : n = v) (h1 : lo ≤ v) (h2 : v ≤ hi) (ho : offs[(v - lo).toNat]? = some off) (ht : (pc : Int) + off = (pc' : Int)) (k : Lj L xs pc' i st m) : Lj L xs pc i (iV n :: st) m := by
  subst e
  exact Lj.op k (fun h => tRs_tl h) (fun p l e R s mid args below meth c H locs Q ls ρ hx hb hR kk => lv_tableIn hx hb d (by rw [ti (tRs_hd hR)]; omega) (by rw [ti (tRs_hd hR)]; omega) (by rw [ti (tRs_hd hR)]; exact ho) ht kk)
theorem Lj.tsO {n : Int} {dflt lo hi : Int} {offs : Array Int} {len : Nat} (d : decode cL_law pc = .ok (.tableswitch dflt lo hi offs, len)) (he : n < lo ∨ hi < n) (ht : (pc : Int) + dflt = (pc' : Int)) (k : Lj L xs pc' i st m) : Lj L xs pc i (iV n :: st) m :=
  Lj.op k (fun h => tRs_tl h) (fun p l e R s mid args below meth c H locs Q ls ρ hx hb hR kk => lv_tableOut hx hb d (by rw [ti (tRs_hd hR)]; exact he) ht kk)
theorem Lj.same {r : Int} {off : Int} {tgt : Nat} (d : decode cL_law pc = .ok (.if_icmp .eq off, 3)) (ht : (pc : Int) + off = (tgt : Int)) (k : Lj L xs tgt i st m) : Lj L xs pc i (iV r :: iV r :: st) m :=
  Lj.op k (fun h => tRs_tl (tRs_tl h)) (fun p l e R s mid args below meth c H locs Q ls ρ hx hb hR kk => lv_icmp_eq hx hb d ht (fun _ => kk) (fun q => absurd rfl q))
theorem Lj.aload {j : Fin 4} {a : Nat} (d : decode cL_law pc = .ok (.aload_n j, 1)) (hv : gl (llv i) (j : Nat) = some (rV a)) (hp : pc + 1 = pc') (k : Lj L xs pc' i (rV a :: st) m) : Lj L xs pc i st m := by
  subst hp
  intro p l e s mid below meth c b H locs D cA ρ ls X h2 hi h3 hP hS hl
  exact lv_aload_n X.1 X.2.1 d rfl (hl.2.2 _ _ hv) (k p l e s mid below meth c b H locs D cA ρ ls X (tRs_cons trivial h2) hi h3 hP hS hl)
theorem Lj.iload (d : decode cL_law pc = .ok (.iload_n 3, 1)) (hp : pc + 1 = pc') (k : Lj L xs pc' i (iV i :: st) m) : Lj L xs pc i st m := by
  subst hp
  intro p l e s mid below meth c b H locs D cA ρ ls X h2 hi h3 hP hS hl
  exact lv_iload_n X.1 X.2.1 d rfl (hl.2.2 3 (iV i) rfl) (k p l e s mid below meth c b H locs D cA ρ ls X (tRs_cons hi h2) hi h3 hP hS hl)
theorem Lj.iinc {z : Int} (d : decode cL_law pc = .ok (.iinc 3 z, 3)) (hr : R32 (i + z)) (hp : pc + 3 = pc') (k : Lj L xs pc' (i + z) st m) : Lj L xs pc i st m := by
  subst hp
  intro p l e s mid below meth c b H locs D cA ρ ls X h2 hi h3 hP hS hl
  obtain ⟨q, hq⟩ := List.getElem?_of_mem (alr_mem (ρ := ρ) (lv := llv i) (i := 3) (v := iV i) rfl)
  exact lv_iinc X.1 X.2.1 d (tL_has hl) hq (v := Int32.ofInt (i + z)) (by rw [Int32.ofInt_add]) (Nat.le_of_ble_eq_true rfl) rfl (fun ls' hl' => k p l e s mid below meth c b H locs D cA ρ ls' X h2 hr h3 hP hS (tL_s1 (lv := llv i) (i := 3) (v := iV (i + z)) rfl hl'))
theorem Lj.icmp_gt {a b : Int} {off : Int} {tgt : Nat} (d : decode cL_law pc = .ok (.if_icmp .gt off, 3)) (ht : (pc : Int) + off = (tgt : Int)) (hp : pc + 3 = pc') (k1 : ¬ b < a → Lj L xs pc' i st m) (k2 : b < a → Lj L xs tgt i st m) : Lj L xs pc i (iV b :: iV a :: st) m := by
  subst hp
  intro p l e s mid below meth c bb H locs D cA ρ ls X h2 hi h3 hP hS hl
  have ra : R32 a := tRs_hd (tRs_tl h2)
  have rb : R32 b := tRs_hd h2
  have j1 : ¬ b < a → _ := fun q => k1 q p l e s mid below meth c bb H locs D cA ρ ls X (tRs_tl (tRs_tl h2)) hi h3 hP hS hl
  have j2 : b < a → _ := fun q => k2 q p l e s mid below meth c bb H locs D cA ρ ls X (tRs_tl (tRs_tl h2)) hi h3 hP hS hl
  exact lv_icmp_gt X.1 X.2.1 d ht (fun q => j2 ((ti_lt rb ra).mp q)) (fun q => j1 (fun q2 => q ((ti_lt rb ra).mpr q2)))
theorem Lj.slen (d : decode cL_law pc = .ok (.arraylength, 1)) (hp : pc + 1 = pc') (k : Lj L xs pc' i (iV (L : Int) :: st) m) : Lj L xs pc i (rV 2000 :: st) m := by
  subst hp
  intro p l e s mid below meth c b H locs D cA ρ ls X h2 hi h3 hP hS hl
  have hb := X.2.2.2.2.2.2.2.2.2.2.2.1
  have hL := X.2.2.2.2.2.2.2.2.2.2.2.2
  show W p l e room_1 s mid #[Value.ref b] below meth c H locs 180 36578 (lw_Z below #[Value.ref b] s) (F0 mid pc ls (.ref (ρ 2000) :: st.map (rv ρ)))
  rw [hb]
  refine va_slen X.1 X.2.1 X.2.2.2.2.2.2.2.2.1 X.2.2.2.2.2.2.2.2.2.1 X.nb hS d ?_
  have := k p l e s mid below meth c b H locs D cA ρ ls X (tRs_cons (by show R32 (L : Int); constructor <;> omega) (tRs_tl h2)) hi h3 hP hS hl
  rw [show Int32.ofNat L = Int32.ofInt (L : Int) from (Int32.ofInt_eq_ofNat).symm]
  exact this
theorem Lj.sld {j : Int} (d : decode cL_law pc = .ok (.iaload, 1)) (j0 : 0 ≤ j) (j1 : j < L) (hp : pc + 1 = pc') (k : Lj L xs pc' i (iV (xs j.toNat).toInt :: st) m) : Lj L xs pc i (iV j :: rV 2000 :: st) m := by
  subst hp
  intro p l e s mid below meth c b H locs D cA ρ ls X h2 hi h3 hP hS hl
  have hb := X.2.2.2.2.2.2.2.2.2.2.2.1
  have rj : R32 j := tRs_hd h2
  show W p l e room_1 s mid #[Value.ref b] below meth c H locs 180 36578 (lw_Z below #[Value.ref b] s) (F0 mid pc ls (.int (Int32.ofInt j) :: .ref (ρ 2000) :: st.map (rv ρ)))
  rw [hb]
  refine va_sld X.1 X.2.1 X.2.2.2.2.2.2.2.2.1 X.2.2.2.2.2.2.2.2.2.1 X.nb hS (ti_in j0 j1 rj) d ?_
  have := k p l e s mid below meth c b H locs D cA ρ ls X (tRs_cons (tr_of _) (tRs_tl (tRs_tl h2))) hi h3 hP hS hl
  rw [ti_cl j0 rj]
  have e : rv ρ (iV (xs j.toNat).toInt) = .int (xs j.toNat) := by
    show Value.int (Int32.ofInt (xs j.toNat).toInt) = _
    rw [ti_of]
  rw [← e]
  exact this
/-- a call of the class or of the reference -/
theorem Lj.call {N : MI} {idx np ci a : Nat} {as rest : List tV} (d : decode cL_law pc = .ok (.invokevirtual idx, 3)) (f : LNV RL idx N ci np) (hs : shp a = some (ci, 0)) (hci : ci < 20) (hn : as.length = np) (hst : st = as.reverse ++ rV a :: rest) (hcat : (rest.map tcat).sum ≤ 8) (hroom : N.2.2.2.2.1 + 1 ≤ 10 ∧ 8 + (N.2.2.1 + 11) + N.2.2.2.2.2 ≤ 396) (hlen : ((rV a :: as).map tcat).sum ≤ N.2.2.1) (hp : pc + 3 = pc')
    (k : Cli N (rV a :: as) m (fun r m' => Lj L xs pc' i (iV r :: rest) m')) : Lj L xs pc i st m := by
  subst hp; subst hst
  intro p l e s mid below meth c b H locs D cA ρ ls X h2 hi h3 hP hS hl
  obtain ⟨q, f1, f2, f3, f4, f5, f6⟩ := f
  have hts := X.2.2.2.2.2.1
  have hT := X.2.2.2.2.2.2.2.1
  have has : tRs (rV a :: as) := tRs_cons trivial (fun w hw => h2 w (List.mem_append_left _ (List.mem_reverse.mpr hw)))
  have hre : tRs rest := fun w hw => h2 w (List.mem_append_right _ (List.mem_cons_of_mem _ hw))
  have k' : Tj N 0 (ent (rV a :: as)) [] m (fun r m' => Lj L xs (pc + 3) i (r.toList ++ rest) m') := Tj.mono k (fun r m' ⟨x, e, q⟩ => by subst e; exact q)
  have hM := Tj.met k' f6 hlen has h3 l D cA ρ
  have he := twd_get (cA := cA) (ρ := ρ) (m := m) hs
  rw [tel_o cA ρ a ci 0 (m a) hci] at he
  have hgood : GoodIn tg_tbl (wsV RL idx q.1 N.1 (tws N)) := fun w hw => by
    unfold wsV at hw
    rcases List.mem_append.mp hw with hw | hw
    · rcases List.mem_cons.mp hw with rfl | hw
      · exact good_mem f3
      · rcases List.mem_cons.mp hw with rfl | hw
        · exact good_mem f4
        · rcases List.mem_cons.mp hw with rfl | hw
          · exact good_mem f5
          · rw [List.mem_singleton.mp hw, ← f2]
            exact good_mem f6.2.2.1
    · exact tws_good f6 w hw
  have pre : ∀ U : State, U.heap = H → s.WarmedH U.vm → tPc D cA ρ (rV a :: as) m ((rV a :: as).map (rv ρ)).toArray U := fun U hU hW => ⟨rfl, by rw [hU]; exact hP, TW.moved hT hW.alike (fun q g1 g2 => by rw [hU]; exact hS.2.1 q g1 g2)⟩
  have run := va_runV (p := p) (e := e) (R := room_1) (below := below) (meth := meth) (locs := locs) (cells := 180) (slots := 36578) (g := F0 mid pc ls ((as.reverse ++ rV a :: rest).map (rv ρ))) (As := as.map (rv ρ)) (rest := rest.map (rv ρ)) (n := np) (b := ρ a) (C := q.1) (own := RL) (Ts := tg_tbl) (nL := 4) ⟨X.1, X.2.1, X.2.2.2.1, X.2.2.2.2.1, hts⟩ hM
    (cwV (ws' := tg_tbl) np hts hgood rfl rfl rfl ⟨f2, f6.2.2.2.1.1, f6.2.2.2.1.2, f6.2.2.2.2⟩ hroom) ⟨tPc_blind D cA ρ (rV a :: as) m, va_recv hT.1 hP f1 he, pre⟩ rfl (by rw [List.length_map]; exact hn) hl.1 (by show List.map (rv ρ) (as.reverse ++ rV a :: rest) = _; rw [List.map_append, List.map_reverse]; rfl) (lv_room (by rw [tcat_sum]; exact hcat)) d ⟨by decide, by decide⟩
  intro T hTT hX
  obtain ⟨v, st₀, t, T', LL, h0, X', hL, e1, e2, ⟨⟨r, m', hv, hp, hrr, hm, hP'⟩, hz, hk⟩, stp⟩ := run T hTT hX
  rw [h0] at hz hk
  have hv' : v = r.map (rv ρ) := by cases hv; rfl
  subst hv'
  have hS' : va_S (tA ρ) s.heap T'.heap (locs ++ LL) := ⟨Nat.le_trans hS.1 (by rw [e1]; exact hz), fun q g1 g2 => by rw [e1, hk q (Nat.lt_of_lt_of_le g1 hS.1) g2]; exact hS.2.1 q g1 g2, fun q hq => by
    rcases List.mem_append.mp hq with h | h
    · exact hS.2.2 q h
    · exact hL q h⟩
  have h2' : tRs (r.toList ++ rest) := fun w hw => by
    rcases List.mem_append.mp hw with h | h
    · exact hrr w (Option.mem_toList.mp h)
    · exact hre w h
  obtain ⟨t2, a1, b1⟩ := hp p l e s mid below meth c b T'.heap (locs ++ LL) D cA ρ ls X h2' hi hm (by rw [e1]; exact hP') hS' hl T' rfl X'
  refine ⟨t2, stp t2 ?_, b1⟩
  have es : (r.toList ++ rest).map (rv ρ) = (r.map (rv ρ)).toList ++ rest.map (rv ρ) := by
    rw [List.map_append]
    cases r <;> rfl
  rw [es] at a1
  exact a1
/-- the law's end -/
theorem Lj.fin (d1 : decode cL_law pc = .ok (.iconst 1, 1)) (d2 : decode cL_law (pc + 1) = .ok (.ireturn, 1)) : Lj L xs pc i [] m := by
  intro p l e s mid below meth c b H locs D cA ρ ls X h2 hi h3 hP hS hl
  refine va_forget (fun q hq => X.ge (hS.2.2 q hq)) (W.widen (k := 600000) (n := 7302250) (by omega) (by omega) ?_)
  refine lv_iconst X.1 X.2.1 d1 rfl ?_
  exact lw_ret X.1 X.2.1 X.2.2.1 X.2.2.2.2.2.2.1 d2
end LJ
