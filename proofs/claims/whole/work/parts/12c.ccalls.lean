/-! constructors: calls -/
abbrev cPc (D : va_G) (cA : Nat → ClassId) (h0 : Nat) (as : List tV) (w : List cC) : Array Value → State → Prop := va_Pc (as.map (rv (rho0 h0))) (fun U => CP D cA h0 w U.heap ∧ va_K D vwCl (ttys cA) U ∧ va_AO RX0 U ∧ va_AO RX8 U)
theorem cPc_blind (D : va_G) (cA : Nat → ClassId) (h0 : Nat) (as : List tV) (w : List cC) : FrameBlind (cPc D cA h0 as w) := fun a U g mk q => ⟨q.1, q.2.1, va_K.moved (u := U) (U := U.calling g mk a) (Vm.Alike.refl U.vm) q.2.2.1, va_AO.moved (u := U) (U := U.calling g mk a) (Vm.Alike.refl U.vm) q.2.2.2.1, va_AO.moved (u := U) (U := U.calling g mk a) (Vm.Alike.refl U.vm) q.2.2.2.2⟩
theorem Cj.met {N : MI} {np mc ms : Nat} {as : List tV} {w : List cC} {P : Option tV → List cC → Prop} (h : Cj N mc ms 0 (ent as) [] w 0 0 P) (hok : MOK N np) (hlen : (as.map tcat).sum ≤ N.2.2.1) (l : Launch) (D : va_G) (cA : Nat → ClassId) (h0 : Nat) :
    Met l N.1 (tws N) (crm N mc ms) (cPc D cA h0 as w) (cQ D cA h0 P) mc ms (fun q => h0 ≤ q) := by
  refine Met.ofW (cc := N.2.1) (maxL := N.2.2.1) (ret := N.2.2.2.1) hok.1 rfl ?_
  intro p e s mid args below meth c s₁ B hml hv
  obtain ⟨rfl, hC, hK, ha0, ha8⟩ := hv
  have hts := atoms_spec (ws := tws N) B.pre
  rw [lg_entry_eq]
  exact h p l e s mid _ below meth c s.heap [] D cA h0 _ ⟨B.exec, B.bytes, B.returns, hml, findClass_of_methodNamed B.named, fun w hw => hts w (List.mem_cons_of_mem _ hw), B.notSynchronized, (name_of_methodNamed B.named B.method).1, hK, ha0, ha8⟩ hC va_S.rf (tL_ent (rho0 h0) as hlen)
section CJ3
variable {M N : MI} {mc ms mc' ms' pc pc' : Nat} {lv : List (Option tV)} {rest as : List tV} {w : List cC} {k n : Nat} {P : Option tV → List cC → Prop}
theorem Cj.after {p : Program} {l : Launch} {e : Env} {s : State} {mid : MethodId} {args : Array Value} {below : List Frame} {meth : Method} {c : Code} {H : Heap} {locs : List Loc} {D : va_G} {cA : Nat → ClassId} {h0 : Nat} {ls : Array Slot} {st0 : List Value} {a0 : Array Value}
    (X : CXI M p s mid args meth c D cA) (hS : va_S (fun q => h0 ≤ q) s.heap H locs) (hl : tL (rho0 h0) ls M.2.2.1 lv)
    (hr : va_Run p l e (crm M mc ms) s mid args below meth c H locs k n mc' ms' (F0 mid pc ls st0) (rest.map (rv (rho0 h0))) (cQ D cA h0 (fun r w' => Cj M mc ms (pc + 3) lv (r.toList ++ rest) w' (k + mc') (n + ms') P) a0) (fun q => h0 ≤ q)) :
    W p l e (crm M mc ms) s mid args below meth c H locs k n (MQ below (cQ D cA h0 P) args s mc ms (fun q => h0 ≤ q)) (F0 mid pc ls st0) := by
  intro T hT hX
  obtain ⟨v, st₀, t, T', L, h0', X', hL, e1, e2, ⟨⟨r, w', hv, hp, hC⟩, hz, hk⟩, stp⟩ := hr T hT hX
  rw [h0'] at hz hk
  have hv' : v = r.map (rv (rho0 h0)) := by cases hv; rfl
  subst hv'
  have hS' : va_S (fun q => h0 ≤ q) s.heap T'.heap (locs ++ L) := ⟨Nat.le_trans hS.1 (by rw [e1]; exact hz), fun q g1 g2 => by rw [e1, hk q (Nat.lt_of_lt_of_le g1 hS.1) g2]; exact hS.2.1 q g1 g2, fun q hq => by
    rcases List.mem_append.mp hq with h | h
    · exact hS.2.2 q h
    · exact hL q h⟩
  obtain ⟨t2, a1, b1⟩ := hp p l e s mid args below meth c T'.heap (locs ++ L) D cA h0 ls X (by rw [e1]; exact hC) hS' hl T' rfl X'
  refine ⟨t2, stp t2 ?_, b1⟩
  have es : (r.toList ++ rest).map (rv (rho0 h0)) = (r.map (rv (rho0 h0))).toList ++ rest.map (rv (rho0 h0)) := by
    rw [List.map_append]
    cases r <;> rfl
  rw [es] at a1
  exact a1
def LNI (own : String) (idx : Nat) (N : MI) : Prop := Cond.methodLink own idx N.1 ∈ tg_tbl ∧ Cond.instanceMethod N.1 ∈ tg_tbl ∧ N.1.name = "<init>" ∧ N.2.2.2.1 = none ∧ MOK N 0
theorem Cj.pre {p : Program} {s : State} {mid : MethodId} {args : Array Value} {meth : Method} {c : Code} {H : Heap} {D : va_G} {cA : Nat → ClassId} {h0 : Nat} (X : CXI M p s mid args meth c D cA) (hC : CP D cA h0 w H) : ∀ U : State, U.heap = H → s.WarmedH U.vm → cPc D cA h0 as w (as.map (rv (rho0 h0))).toArray U :=
  fun U hU hW => ⟨rfl, by rw [hU]; exact hC, va_K.moved hW.alike X.2.2.2.2.2.2.2.2.1, va_AO.moved hW.alike X.2.2.2.2.2.2.2.2.2.1, va_AO.moved hW.alike X.2.2.2.2.2.2.2.2.2.2⟩
/-- a constructor is called -/
theorem Cj.callI {idx a : Nat} (d : decode M.2.1 pc = .ok (.invokespecial idx, 3)) (f : LNI M.1.cls idx N) (hcat : (rest.map tcat).sum ≤ 8) (hroom : N.2.2.2.2.1 + 1 ≤ M.2.2.2.2.1 ∧ 8 + (N.2.2.1 + 11) + N.2.2.2.2.2 ≤ M.2.2.2.2.2) (hlen : 1 ≤ N.2.2.1) (hk : k + mc' ≤ mc) (hn : n + ms' ≤ ms) (hp : pc + 3 = pc')
    (kk : Cj N mc' ms' 0 [some (rV a)] [] w 0 0 (fun r w' => r = none ∧ Cj M mc ms pc' lv rest w' (k + mc') (n + ms') P)) : Cj M mc ms pc lv (rV a :: rest) w k n P := by
  subst hp
  intro p l e s mid args below meth c H locs D cA h0 ls X hC hS hl
  obtain ⟨f1, f2, f3, f4, f5⟩ := f
  have hts := X.2.2.2.2.2.1
  have hM := Cj.met (as := [rV a]) (Cj.mono kk (P' := fun r w' => Cj M mc ms (pc + 3) lv (r.toList ++ rest) w' (k + mc') (n + ms') P) (fun r w' ⟨q1, q2⟩ => by subst q1; exact q2)) f5 hlen l D cA h0
  exact Cj.after X hS hl (va_runI (As := []) (b := h0 + a) (rest := rest.map (rv (rho0 h0))) (n := 0) (own := M.1.cls) (Ts := tg_tbl) (nL := M.2.2.1) ⟨X.1, X.2.1, X.2.2.2.1, X.2.2.2.2.1, hts⟩ hM
    (cwI (ws' := tg_tbl) 0 hts (tws_good f5) (by unfold tws; rw [f4]) rfl rfl (hts _ f5.2.2.1) (hts _ f1) (hts _ f2) f3 ⟨f5.2.2.2.1.1, f5.2.2.2.1.2, f5.2.2.2.2⟩ hroom) ⟨cPc_blind D cA h0 [rV a] w, Cj.pre (as := [rV a]) X hC⟩ rfl rfl hl.1 rfl (lv_room (by rw [tcat_sum]; exact hcat)) d ⟨hk, hn⟩)
theorem Cj.callS {idx np : Nat} {st : List tV} (d : decode M.2.1 pc = .ok (.invokestatic idx, 3)) (f : LNS M.1.cls idx N np) (hn : as.length = np) (hst : st = as.reverse ++ rest) (hcat : (rest.map tcat).sum ≤ 8) (hroom : N.2.2.2.2.1 + 1 ≤ M.2.2.2.2.1 ∧ 8 + (N.2.2.1 + 11) + N.2.2.2.2.2 ≤ M.2.2.2.2.2) (hlen : (as.map tcat).sum ≤ N.2.2.1) (hk : k ≤ mc) (hm : n ≤ ms) (hp : pc + 3 = pc')
    (kk : Cj N 0 0 0 (ent as) [] w 0 0 (fun r w' => Cj M mc ms pc' lv (r.toList ++ rest) w' k n P)) : Cj M mc ms pc lv st w k n P := by
  subst hp; subst hst
  intro p l e s mid args below meth c H locs D cA h0 ls X hC hS hl
  have hts := X.2.2.2.2.2.1
  have hM := Cj.met kk f.2.2 hlen l D cA h0
  refine Cj.after (mc' := 0) (ms' := 0) X hS hl (va_runS (As := as.map (rv (rho0 h0))) (n := np) (own := M.1.cls) (Ts := tg_tbl) (nL := M.2.2.1) ⟨X.1, X.2.1, X.2.2.2.1, X.2.2.2.2.1, hts⟩ hM
    (va_cwS (ws' := tg_tbl) np hts (fun w hw => ?_) rfl rfl rfl ⟨f.2.2.2.2.2.1.1, f.2.2.2.2.2.1.2, f.2.2.2.2.2.2⟩ hroom) ⟨cPc_blind D cA h0 as w, Cj.pre X hC⟩ rfl (by rw [List.length_map]; exact hn) hl.1 (by show List.map (rv (rho0 h0)) (as.reverse ++ rest) = _; rw [List.map_append, List.map_reverse]) (lv_room (by rw [tcat_sum]; exact hcat)) d ⟨hk, hm⟩)
  unfold va_wsS at hw
  rcases List.mem_append.mp hw with hw | hw
  · rcases List.mem_cons.mp hw with rfl | hw
    · exact good_mem f.1
    · rcases List.mem_cons.mp hw with rfl | hw
      · exact good_mem f.2.1
      · rw [List.mem_singleton.mp hw]
        exact good_mem f.2.2.2.2.1
  · exact tws_good f.2.2 w hw
end CJ3
/-! the finished cells -/
def fvv (a : Nat) (k : Nat) (x : Int) : tV := match k with
  | 0 => iV x
  | 1 => lV (Int64.ofInt x)
  | d + 2 => rV (a + d)
def ffs (a : Nat) : List Nat → Nat → (Int → Int) → List (Option tV)
  | [], _, _ => []
  | k :: ks, j, r => some (fvv a k (r (j : Int))) :: ffs a ks (j + 1) r
def fin (a : Nat) (sh : Nat × Nat) (r : Int → Int) : cC :=
  if sh.1 = 20 then .inr (.inl (0, sh.2, fun i => r (i : Int)))
  else if sh.1 = 21 then .inr (.inl (1, sh.2, fun i => r (i : Int)))
  else if sh.1 = 22 then .inr (.inr (2, sh.2, fun i => if i < sh.2 then some (a + 1 + 9 * i) else none))
  else if sh.1 = 23 then .inr (.inr (3, sh.2, fun i => if i < sh.2 then some (a + 1 + 4 * i) else none))
  else .inl (sh.1, ffs a (fkL.getD sh.1 []) 0 r)
abbrev spec : Type := (Nat × Nat) × (Int → Int)
def zr : Int → Int := fun _ => 0
def genL : Nat → List spec → List cC
  | _, [] => []
  | n, p :: S => fin n p.1 p.2 :: genL (n + 1) S
theorem genL_app : ∀ (A B : List spec) (n : Nat), genL n (A ++ B) = genL n A ++ genL (n + A.length) B
  | [], B, n => rfl
  | p :: A, B, n => by
    show fin n p.1 p.2 :: genL (n + 1) (A ++ B) = fin n p.1 p.2 :: genL (n + 1) A ++ _
    rw [genL_app A B (n + 1), List.length_cons, show n + 1 + A.length = n + (A.length + 1) by omega]
    rfl
theorem genL_len : ∀ (A : List spec) (n : Nat), (genL n A).length = A.length
  | [], n => rfl
  | p :: A, n => by rw [genL, List.length_cons, List.length_cons, genL_len A (n + 1)]
theorem genL_get : ∀ (A : List spec) (n k : Nat), (genL n A)[k]? = (A[k]?).map (fun p => fin (n + k) p.1 p.2)
  | [], n, k => by simp [genL]
  | p :: A, n, 0 => by simp [genL]
  | p :: A, n, k + 1 => by
    rw [genL, List.getElem?_cons_succ, List.getElem?_cons_succ, genL_get A (n + 1) k, show n + 1 + k = n + (k + 1) by omega]
/-- what a constructor does -/
def Con (M : MI) (ci mc ms : Nat) (S : List spec) : Prop := ∀ w0 : List cC, Cj M mc ms 0 [some (rV w0.length)] [] (w0 ++ [bobj ci]) 0 0 (fun r w => r = none ∧ w = w0 ++ genL w0.length S)
