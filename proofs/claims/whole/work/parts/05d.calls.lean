/-! calls -/
def MOK (N : MI) (n : Nat) : Prop := plainName N.1.cls = true ∧ Cond.code N.1 N.2.1 N.2.2.1 N.2.2.2.1 ∈ tg_tbl ∧ Cond.initialized N.1.cls ∈ tg_tbl ∧ (N.1.cls ≠ "java/lang/invoke/MethodHandle" ∧ N.1.cls ≠ "java/lang/invoke/VarHandle") ∧ (parseMethodDescriptor N.1.desc).map (fun d => d.parameters.length) = some n
def LNS (own : String) (idx : Nat) (N : MI) (n : Nat) : Prop := Cond.methodLink own idx N.1 ∈ tg_tbl ∧ Cond.static N.1 ∈ tg_tbl ∧ MOK N n
def LNV (own : String) (idx : Nat) (N : MI) (ci n : Nat) : Prop := ∃ q : vw_C, vwCl[ci]? = some q ∧ N.1.cls = q.1 ∧ Cond.methodLink own idx N.1 ∈ tg_tbl ∧ Cond.instanceMethod N.1 ∈ tg_tbl ∧ Cond.selects q.1 N.1 N.1 ∈ tg_tbl ∧ MOK N n
theorem good_mem {w : Cond} (h : w ∈ tg_tbl) : w ∈ tg_tbl ∧ ((w.onTables && w.keeps) = true ∨ ∃ ty, w = .arrayClass ty) := ⟨h, good_of_word (List.mem_filter.mp h).2⟩
theorem tws_good {N : MI} {n : Nat} (h : MOK N n) : GoodIn tg_tbl (tws N) := fun w hw => by
  rcases List.mem_cons.mp hw with rfl | hw
  · exact good_mem h.2.1
  · exact good_mem hw
/-- the locals with which a method begins -/
def ent : List tV → List (Option tV)
  | [] => []
  | .inl n :: vs => some (.inl n) :: ent vs
  | .inr (.inl x) :: vs => some (.inr (.inl x)) :: none :: ent vs
  | .inr (.inr a) :: vs => some (.inr (.inr a)) :: ent vs
theorem ent_args (ρ : Nat → Nat) : ∀ (as : List tV) (k i : Nat) (v : tV), gl (ent as) i = some v → (k + i, rv ρ v) ∈ lv_args k (as.map (rv ρ))
  | [], k, i, v, h => by cases h
  | .inl n :: vs, k, 0, v, h => by cases h; exact List.mem_cons_self
  | .inl n :: vs, k, i + 1, v, h => by
    have := ent_args ρ vs (k + 1) i v h
    rw [show k + 1 + i = k + (i + 1) by omega] at this
    exact List.mem_cons_of_mem _ this
  | .inr (.inl x) :: vs, k, 0, v, h => by cases h; exact List.mem_cons_self
  | .inr (.inl x) :: vs, k, 1, v, h => by cases h
  | .inr (.inl x) :: vs, k, i + 2, v, h => by
    have := ent_args ρ vs (k + 2) i v h
    rw [show k + 2 + i = k + (i + 2) by omega] at this
    exact List.mem_cons_of_mem _ this
  | .inr (.inr a) :: vs, k, 0, v, h => by cases h; exact List.mem_cons_self
  | .inr (.inr a) :: vs, k, i + 1, v, h => by
    have := ent_args ρ vs (k + 1) i v h
    rw [show k + 1 + i = k + (i + 1) by omega] at this
    exact List.mem_cons_of_mem _ this
theorem ent_len (ρ : Nat → Nat) : ∀ (as : List tV), (lg_sl (as.map (rv ρ))).length = (as.map tcat).sum
  | [] => rfl
  | v :: vs => by
    have ih := ent_len ρ vs
    show (([v].map (rv ρ)) ++ vs.map (rv ρ) |> lg_sl).length = _
    unfold lg_sl at ih ⊢
    rw [List.flatMap_append, List.length_append, ih]
    show _ = tcat v + (vs.map tcat).sum
    rcases v with n | x | a <;> rfl
theorem ent_r : ∀ {as : List tV}, tRs as → tRl (ent as)
  | [], _, i, v, h => by cases h
  | .inl n :: vs, hs, 0, v, h => by cases h; exact tRs_hd hs
  | .inl n :: vs, hs, i + 1, v, h => ent_r (tRs_tl hs) i v h
  | .inr (.inl x) :: vs, hs, 0, v, h => by cases h; exact trivial
  | .inr (.inl x) :: vs, hs, 1, v, h => by cases h
  | .inr (.inl x) :: vs, hs, i + 2, v, h => ent_r (tRs_tl hs) i v h
  | .inr (.inr a) :: vs, hs, 0, v, h => by cases h; exact trivial
  | .inr (.inr a) :: vs, hs, i + 1, v, h => ent_r (tRs_tl hs) i v h
theorem tL_ent (ρ : Nat → Nat) (as : List tV) {n : Nat} (h : (as.map tcat).sum ≤ n) : tL ρ ((lg_sl (as.map (rv ρ)) ++ List.replicate (n - (lg_sl (as.map (rv ρ))).length) Slot.unset).toArray) n (ent as) := by
  have hl := lv_entry (as.map (rv ρ)) (n := n) (by rw [ent_len]; exact h)
  refine ⟨hl.1, hl.2.1, fun i v hv => ?_⟩
  have := ent_args ρ as 0 i v hv
  rw [Nat.zero_add] at this
  exact hl.2.2 _ this
abbrev tPc (D : va_G) (cA : Nat → ClassId) (ρ : Nat → Nat) (as : List tV) (m : tM) : Array Value → State → Prop := va_Pc (as.map (rv ρ)) (fun U => va_P D vwCl (twd cA ρ m) U.heap ∧ TW D cA ρ U)
theorem tPc_blind (D : va_G) (cA : Nat → ClassId) (ρ : Nat → Nat) (as : List tV) (m : tM) : FrameBlind (tPc D cA ρ as m) := fun a U g mk q => ⟨q.1, q.2.1, TW.moved q.2.2 (Vm.Alike.refl U.vm) (fun _ _ _ => rfl)⟩
theorem Tj.met {N : MI} {n : Nat} {as : List tV} {m : tM} {P : Option tV → tM → Prop} (h : Tj N 0 (ent as) [] m P) (hok : MOK N n) (hlen : (as.map tcat).sum ≤ N.2.2.1) (has : tRs as) (hm : M32 m) (l : Launch) (D : va_G) (cA : Nat → ClassId) (ρ : Nat → Nat) :
    Met l N.1 (tws N) (trm N) (tPc D cA ρ as m) (tQ D cA ρ P) 0 0 (tA ρ) := by
  refine Met.ofW (cc := N.2.1) (maxL := N.2.2.1) (ret := N.2.2.2.1) hok.1 rfl ?_
  intro p e s mid args below meth c s₁ B hml hv
  obtain ⟨rfl, hP, hT⟩ := hv
  have hts := atoms_spec (ws := tws N) B.pre
  rw [lg_entry_eq]
  exact h p l e s mid _ below meth c s.heap [] D cA ρ _ ⟨B.exec, B.bytes, B.returns, hml, findClass_of_methodNamed B.named, fun w hw => hts w (List.mem_cons_of_mem _ hw), B.notSynchronized, hT⟩ (ent_r has) tRs_nil hm hP va_S.rf (tL_ent ρ as hlen)
section TJK
variable {M N : MI} {pc pc' : Nat} {lv : List (Option tV)} {st rest as : List tV} {m : tM} {P : Option tV → tM → Prop}
theorem tcat_sum (ρ : Nat → Nat) (st : List tV) : ((st.map (rv ρ)).map fun v => v.category).sum = (st.map tcat).sum := by
  rw [List.map_map]
  exact congrArg List.sum (List.map_congr_left (fun v _ => tcat_eq ρ v))
/-- what follows a call -/
theorem Tj.after {p : Program} {l : Launch} {e : Env} {s : State} {mid : MethodId} {args : Array Value} {below : List Frame} {meth : Method} {c : Code} {H : Heap} {locs : List Loc} {D : va_G} {cA : Nat → ClassId} {ρ : Nat → Nat} {ls : Array Slot} {st0 : List Value} {a0 : Array Value}
    (X : CX M p s mid args meth c D cA ρ) (h1 : tRl lv) (h2 : tRs rest) (hS : va_S (tA ρ) s.heap H locs) (hl : tL ρ ls M.2.2.1 lv)
    (hr : va_Run p l e (trm M) s mid args below meth c H locs 0 0 0 0 (F0 mid pc ls st0) (rest.map (rv ρ)) (tQ D cA ρ (fun r m' => Tj M (pc + 3) lv (r.toList ++ rest) m' P) a0) (tA ρ)) :
    W p l e (trm M) s mid args below meth c H locs 0 0 (MQ below (tQ D cA ρ P) args s 0 0 (tA ρ)) (F0 mid pc ls st0) := by
  intro T hT hX
  obtain ⟨v, st₀, t, T', L, h0, X', hL, e1, e2, ⟨⟨r, m', hv, hp, hrr, hm, hP⟩, hz, hk⟩, stp⟩ := hr T hT hX
  rw [h0] at hz hk
  have hv' : v = r.map (rv ρ) := by cases hv; rfl
  subst hv'
  have hS' : va_S (tA ρ) s.heap T'.heap (locs ++ L) := ⟨Nat.le_trans hS.1 (by rw [e1]; exact hz), fun q g1 g2 => by rw [e1, hk q (Nat.lt_of_lt_of_le g1 hS.1) g2]; exact hS.2.1 q g1 g2, fun q hq => by
    rcases List.mem_append.mp hq with h | h
    · exact hS.2.2 q h
    · exact hL q h⟩
  have h2' : tRs (r.toList ++ rest) := fun w hw => by
    rcases List.mem_append.mp hw with h | h
    · exact hrr w (Option.mem_toList.mp h)
    · exact h2 w h
  obtain ⟨t2, a1, b1⟩ := hp p l e s mid args below meth c T'.heap (locs ++ L) D cA ρ ls X h1 h2' hm (by rw [e1]; exact hP) hS' hl T' rfl X'
  refine ⟨t2, stp t2 ?_, b1⟩
  have es : (r.toList ++ rest).map (rv ρ) = (r.map (rv ρ)).toList ++ rest.map (rv ρ) := by
    rw [List.map_append]
    cases r <;> rfl
  rw [es] at a1
  exact a1
theorem Tj.pre {p : Program} {s : State} {mid : MethodId} {args : Array Value} {meth : Method} {c : Code} {H : Heap} {locs : List Loc} {D : va_G} {cA : Nat → ClassId} {ρ : Nat → Nat} (X : CX M p s mid args meth c D cA ρ) (hP : va_P D vwCl (twd cA ρ m) H) (hS : va_S (tA ρ) s.heap H locs) : ∀ U : State, U.heap = H → s.WarmedH U.vm → tPc D cA ρ as m (as.map (rv ρ)).toArray U :=
  fun U hU hW => ⟨rfl, by rw [hU]; exact hP, TW.moved X.2.2.2.2.2.2.2 hW.alike (fun q g1 g2 => by rw [hU]; exact hS.2.1 q g1 g2)⟩
theorem Tj.callS {idx n : Nat} (d : decode M.2.1 pc = .ok (.invokestatic idx, 3)) (f : LNS M.1.cls idx N n) (hn : as.length = n) (hst : st = as.reverse ++ rest) (hcat : (rest.map tcat).sum ≤ 8) (hroom : N.2.2.2.2.1 + 1 ≤ M.2.2.2.2.1 ∧ 8 + (N.2.2.1 + 11) + N.2.2.2.2.2 ≤ M.2.2.2.2.2) (hlen : (as.map tcat).sum ≤ N.2.2.1) (hp : pc + 3 = pc')
    (k : Tj N 0 (ent as) [] m (fun r m' => Tj M pc' lv (r.toList ++ rest) m' P)) : Tj M pc lv st m P := by
  subst hp; subst hst
  intro p l e s mid args below meth c H locs D cA ρ ls X h1 h2 h3 hP hS hl
  have has : tRs as := fun w hw => h2 w (List.mem_append_left _ (List.mem_reverse.mpr hw))
  have hre : tRs rest := fun w hw => h2 w (List.mem_append_right _ hw)
  have hM := Tj.met k f.2.2 hlen has h3 l D cA ρ
  refine Tj.after X h1 hre hS hl (va_runS (As := as.map (rv ρ)) (n := n) (own := M.1.cls) (Ts := tg_tbl) (nL := M.2.2.1) ⟨X.1, X.2.1, X.2.2.2.1, X.2.2.2.2.1, X.2.2.2.2.2.1⟩ hM
    (va_cwS (ws' := tg_tbl) n X.2.2.2.2.2.1 (fun w hw => ?_) rfl rfl rfl ⟨f.2.2.2.2.2.1.1, f.2.2.2.2.2.1.2, f.2.2.2.2.2.2⟩ hroom) ⟨tPc_blind D cA ρ as m, Tj.pre X hP hS⟩ rfl (by rw [List.length_map]; exact hn) hl.1 (by show List.map (rv ρ) (as.reverse ++ rest) = _; rw [List.map_append, List.map_reverse]) (lv_room (by rw [tcat_sum]; exact hcat)) d ⟨Nat.le_refl _, Nat.le_refl _⟩)
  unfold va_wsS at hw
  rcases List.mem_append.mp hw with hw | hw
  · rcases List.mem_cons.mp hw with rfl | hw
    · exact good_mem f.1
    · rcases List.mem_cons.mp hw with rfl | hw
      · exact good_mem f.2.1
      · rw [List.mem_singleton.mp hw]
        exact good_mem f.2.2.2.2.1
  · exact tws_good f.2.2 w hw
theorem Tj.callV {idx n ci a : Nat} (d : decode M.2.1 pc = .ok (.invokevirtual idx, 3)) (f : LNV M.1.cls idx N ci n) (hs : shp a = some (ci, 0)) (hci : ci < 20) (hn : as.length = n) (hst : st = as.reverse ++ rV a :: rest) (hcat : (rest.map tcat).sum ≤ 8) (hroom : N.2.2.2.2.1 + 1 ≤ M.2.2.2.2.1 ∧ 8 + (N.2.2.1 + 11) + N.2.2.2.2.2 ≤ M.2.2.2.2.2) (hlen : ((rV a :: as).map tcat).sum ≤ N.2.2.1) (hp : pc + 3 = pc')
    (k : Tj N 0 (ent (rV a :: as)) [] m (fun r m' => Tj M pc' lv (r.toList ++ rest) m' P)) : Tj M pc lv st m P := by
  subst hp; subst hst
  intro p l e s mid args below meth c H locs D cA ρ ls X h1 h2 h3 hP hS hl
  obtain ⟨q, f1, f2, f3, f4, f5, f6⟩ := f
  have has : tRs (rV a :: as) := tRs_cons trivial (fun w hw => h2 w (List.mem_append_left _ (List.mem_reverse.mpr hw)))
  have hre : tRs rest := fun w hw => h2 w (List.mem_append_right _ (List.mem_cons_of_mem _ hw))
  have hM := Tj.met k f6 hlen has h3 l D cA ρ
  have he := twd_get (cA := cA) (ρ := ρ) (m := m) hs
  rw [tel_o cA ρ a ci 0 (m a) hci] at he
  refine Tj.after X h1 hre hS hl (va_runV (As := as.map (rv ρ)) (n := n) (b := ρ a) (C := q.1) (own := M.1.cls) (Ts := tg_tbl) (nL := M.2.2.1) ⟨X.1, X.2.1, X.2.2.2.1, X.2.2.2.2.1, X.2.2.2.2.2.1⟩ hM
    (cwV (ws' := tg_tbl) n X.2.2.2.2.2.1 (fun w hw => ?_) rfl rfl rfl ⟨f2, f6.2.2.2.1.1, f6.2.2.2.1.2, f6.2.2.2.2⟩ hroom) ⟨tPc_blind D cA ρ (rV a :: as) m, va_recv X.2.2.2.2.2.2.2.1 hP f1 he, Tj.pre (as := rV a :: as) X hP hS⟩ rfl (by rw [List.length_map]; exact hn) hl.1 (by show List.map (rv ρ) (as.reverse ++ rV a :: rest) = _; rw [List.map_append, List.map_reverse]; rfl) (lv_room (by rw [tcat_sum]; exact hcat)) d ⟨Nat.le_refl _, Nat.le_refl _⟩)
  unfold wsV at hw
  rcases List.mem_append.mp hw with hw | hw
  · rcases List.mem_cons.mp hw with rfl | hw
    · exact good_mem f3
    · rcases List.mem_cons.mp hw with rfl | hw
      · exact good_mem f4
      · rcases List.mem_cons.mp hw with rfl | hw
        · exact good_mem f5
        · rw [List.mem_singleton.mp hw, ← f2]
          exact good_mem f6.2.2.1
  · exact tws_good f6 w hw
end TJK
/-- a call, by what it gives -/
def Cli (N : MI) (as : List tV) (m : tM) (K : Int → tM → Prop) : Prop := Tj N 0 (ent as) [] m (fun r m' => ∃ n, r = some (iV n) ∧ K n m')
def Cll (N : MI) (as : List tV) (m : tM) (K : Int64 → tM → Prop) : Prop := Tj N 0 (ent as) [] m (fun r m' => ∃ x, r = some (lV x) ∧ K x m')
def Clv (N : MI) (as : List tV) (m : tM) (K : tM → Prop) : Prop := Tj N 0 (ent as) [] m (fun r m' => r = none ∧ K m')
theorem Cli.mono {N : MI} {as : List tV} {m : tM} {K K' : Int → tM → Prop} (h : Cli N as m K) (hk : ∀ n m', K n m' → K' n m') : Cli N as m K' := Tj.mono h (fun r m' ⟨n, e, q⟩ => ⟨n, e, hk n m' q⟩)
theorem Cll.mono {N : MI} {as : List tV} {m : tM} {K K' : Int64 → tM → Prop} (h : Cll N as m K) (hk : ∀ n m', K n m' → K' n m') : Cll N as m K' := Tj.mono h (fun r m' ⟨n, e, q⟩ => ⟨n, e, hk n m' q⟩)
theorem Clv.mono {N : MI} {as : List tV} {m : tM} {K K' : tM → Prop} (h : Clv N as m K) (hk : ∀ m', K m' → K' m') : Clv N as m K' := Tj.mono h (fun r m' ⟨e, q⟩ => ⟨e, hk m' q⟩)
section TJL
variable {M N : MI} {pc pc' : Nat} {lv : List (Option tV)} {st rest as : List tV} {m : tM} {P : Option tV → tM → Prop}
theorem Tj.callSi {idx n : Nat} (d : decode M.2.1 pc = .ok (.invokestatic idx, 3)) (f : LNS M.1.cls idx N n) (hn : as.length = n) (hst : st = as.reverse ++ rest) (hcat : (rest.map tcat).sum ≤ 8) (hroom : N.2.2.2.2.1 + 1 ≤ M.2.2.2.2.1 ∧ 8 + (N.2.2.1 + 11) + N.2.2.2.2.2 ≤ M.2.2.2.2.2) (hlen : (as.map tcat).sum ≤ N.2.2.1) (hp : pc + 3 = pc')
    (k : Cli N as m (fun r m' => Tj M pc' lv (iV r :: rest) m' P)) : Tj M pc lv st m P := Tj.callS d f hn hst hcat hroom hlen hp (Tj.mono k (fun r m' ⟨x, e, q⟩ => by subst e; exact q))
theorem Tj.callSl {idx n : Nat} (d : decode M.2.1 pc = .ok (.invokestatic idx, 3)) (f : LNS M.1.cls idx N n) (hn : as.length = n) (hst : st = as.reverse ++ rest) (hcat : (rest.map tcat).sum ≤ 8) (hroom : N.2.2.2.2.1 + 1 ≤ M.2.2.2.2.1 ∧ 8 + (N.2.2.1 + 11) + N.2.2.2.2.2 ≤ M.2.2.2.2.2) (hlen : (as.map tcat).sum ≤ N.2.2.1) (hp : pc + 3 = pc')
    (k : Cll N as m (fun r m' => Tj M pc' lv (lV r :: rest) m' P)) : Tj M pc lv st m P := Tj.callS d f hn hst hcat hroom hlen hp (Tj.mono k (fun r m' ⟨x, e, q⟩ => by subst e; exact q))
theorem Tj.callSv {idx n : Nat} (d : decode M.2.1 pc = .ok (.invokestatic idx, 3)) (f : LNS M.1.cls idx N n) (hn : as.length = n) (hst : st = as.reverse ++ rest) (hcat : (rest.map tcat).sum ≤ 8) (hroom : N.2.2.2.2.1 + 1 ≤ M.2.2.2.2.1 ∧ 8 + (N.2.2.1 + 11) + N.2.2.2.2.2 ≤ M.2.2.2.2.2) (hlen : (as.map tcat).sum ≤ N.2.2.1) (hp : pc + 3 = pc')
    (k : Clv N as m (fun m' => Tj M pc' lv rest m' P)) : Tj M pc lv st m P := Tj.callS d f hn hst hcat hroom hlen hp (Tj.mono k (fun r m' ⟨e, q⟩ => by subst e; exact q))
theorem Tj.callVi {idx n ci a : Nat} (d : decode M.2.1 pc = .ok (.invokevirtual idx, 3)) (f : LNV M.1.cls idx N ci n) (hs : shp a = some (ci, 0)) (hci : ci < 20) (hn : as.length = n) (hst : st = as.reverse ++ rV a :: rest) (hcat : (rest.map tcat).sum ≤ 8) (hroom : N.2.2.2.2.1 + 1 ≤ M.2.2.2.2.1 ∧ 8 + (N.2.2.1 + 11) + N.2.2.2.2.2 ≤ M.2.2.2.2.2) (hlen : ((rV a :: as).map tcat).sum ≤ N.2.2.1) (hp : pc + 3 = pc')
    (k : Cli N (rV a :: as) m (fun r m' => Tj M pc' lv (iV r :: rest) m' P)) : Tj M pc lv st m P := Tj.callV d f hs hci hn hst hcat hroom hlen hp (Tj.mono k (fun r m' ⟨x, e, q⟩ => by subst e; exact q))
theorem Tj.callVl {idx n ci a : Nat} (d : decode M.2.1 pc = .ok (.invokevirtual idx, 3)) (f : LNV M.1.cls idx N ci n) (hs : shp a = some (ci, 0)) (hci : ci < 20) (hn : as.length = n) (hst : st = as.reverse ++ rV a :: rest) (hcat : (rest.map tcat).sum ≤ 8) (hroom : N.2.2.2.2.1 + 1 ≤ M.2.2.2.2.1 ∧ 8 + (N.2.2.1 + 11) + N.2.2.2.2.2 ≤ M.2.2.2.2.2) (hlen : ((rV a :: as).map tcat).sum ≤ N.2.2.1) (hp : pc + 3 = pc')
    (k : Cll N (rV a :: as) m (fun r m' => Tj M pc' lv (lV r :: rest) m' P)) : Tj M pc lv st m P := Tj.callV d f hs hci hn hst hcat hroom hlen hp (Tj.mono k (fun r m' ⟨x, e, q⟩ => by subst e; exact q))
theorem Tj.callVv {idx n ci a : Nat} (d : decode M.2.1 pc = .ok (.invokevirtual idx, 3)) (f : LNV M.1.cls idx N ci n) (hs : shp a = some (ci, 0)) (hci : ci < 20) (hn : as.length = n) (hst : st = as.reverse ++ rV a :: rest) (hcat : (rest.map tcat).sum ≤ 8) (hroom : N.2.2.2.2.1 + 1 ≤ M.2.2.2.2.1 ∧ 8 + (N.2.2.1 + 11) + N.2.2.2.2.2 ≤ M.2.2.2.2.2) (hlen : ((rV a :: as).map tcat).sum ≤ N.2.2.1) (hp : pc + 3 = pc')
    (k : Clv N (rV a :: as) m (fun m' => Tj M pc' lv rest m' P)) : Tj M pc lv st m P := Tj.callV d f hs hci hn hst hcat hroom hlen hp (Tj.mono k (fun r m' ⟨e, q⟩ => by subst e; exact q))
end TJL
