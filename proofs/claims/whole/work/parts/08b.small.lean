/-! rows and memories: laws -/
theorem sr_sr (m : tM) (a : Nat) (r r' : Int → Int) : sr (sr m a r) a r' = sr m a r' := by
  funext b
  by_cases h : b = a
  · subst h; rw [sr_eq, sr_eq]
  · rw [sr_ne _ _ h, sr_ne _ _ h, sr_ne _ _ h]
theorem sr_comm (m : tM) {a b : Nat} (r r' : Int → Int) (h : a ≠ b) : sr (sr m a r) b r' = sr (sr m b r') a r := by
  funext c
  by_cases h1 : c = a
  · subst h1; rw [sr_ne _ _ h, sr_eq, sr_eq]
  · by_cases h2 : c = b
    · subst h2; rw [sr_eq, sr_ne _ _ h1, sr_eq]
    · rw [sr_ne _ _ h2, sr_ne _ _ h1, sr_ne _ _ h1, sr_ne _ _ h2]
theorem sr_self (m : tM) (a : Nat) : sr m a (m a) = m := by
  funext b
  by_cases h : b = a
  · subst h; rw [sr_eq]
  · rw [sr_ne _ _ h]
theorem up_sr (m : tM) (a : Nat) (r : Int → Int) (i x : Int) : up (sr m a r) a i x = sr m a (ur r i x) := by
  show sr (sr m a r) a (ur (sr m a r a) i x) = _
  rw [sr_eq, sr_sr]
theorem up_ne (m : tM) {a b : Nat} (i x : Int) (h : b ≠ a) : up m a i x b = m b := sr_ne _ _ h
theorem up_at (m : tM) (a : Nat) (i x : Int) : up m a i x a i = x := by show sr _ _ _ a i = x; rw [sr_eq, ur_eq]
theorem up_at_ne (m : tM) (a : Nat) {i j : Int} (x : Int) (h : j ≠ i) : up m a i x a j = m a j := by show sr _ _ _ a j = _; rw [sr_eq, ur_ne _ _ h]
theorem ur_ur (r : Int → Int) (i x y : Int) : ur (ur r i x) i y = ur r i y := by
  funext j
  by_cases h : j = i
  · subst h; rw [ur_eq, ur_eq]
  · rw [ur_ne _ _ h, ur_ne _ _ h, ur_ne _ _ h]
/-- a stretch of a row written -/
def fil (f g : Int → Int) (dp n : Int) : Int → Int := fun j => if dp ≤ j ∧ j < dp + n then f (j - dp) else g j
theorem fil_0 (f g : Int → Int) (dp : Int) : fil f g dp 0 = g := by
  funext j
  unfold fil
  rw [if_neg (by omega)]
theorem fil_s (f g : Int → Int) (dp : Int) {n : Int} (h : 0 ≤ n) : ur (fil f g dp n) (dp + n) (f n) = fil f g dp (n + 1) := by
  funext j
  by_cases h1 : j = dp + n
  · subst h1
    rw [ur_eq]
    unfold fil
    rw [if_pos (by omega), show dp + n - dp = n by omega]
  · rw [ur_ne _ _ h1]
    unfold fil
    by_cases h2 : dp ≤ j ∧ j < dp + n
    · rw [if_pos h2, if_pos (by omega)]
    · rw [if_neg h2, if_neg (by omega)]
theorem fil_in (f g : Int → Int) {dp n j : Int} (h : dp ≤ j ∧ j < dp + n) : fil f g dp n j = f (j - dp) := by unfold fil; rw [if_pos h]
theorem fil_out (f g : Int → Int) {dp n j : Int} (h : ¬ (dp ≤ j ∧ j < dp + n)) : fil f g dp n j = g j := by unfold fil; rw [if_neg h]
theorem cpr_fil (f g : Int → Int) (sp dp n : Int) : cpr f g sp dp n = fil (fun k => f (sp + k)) g dp n := rfl
/-- a count that goes up -/
theorem up_ind {n : Int} (Q : Int → Prop) (hn : Q n) (hs : ∀ i, 0 ≤ i → i < n → Q (i + 1) → Q i) {i : Int} (h0 : 0 ≤ i) (h1 : i ≤ n) : Q i := by
  obtain ⟨k, hk⟩ : ∃ k : Nat, (k : Int) = n - i := ⟨(n - i).toNat, by omega⟩
  induction k generalizing i with
  | zero =>
    have : i = n := by omega
    subst this; exact hn
  | succ k ih => exact hs i h0 (by omega) (ih (by omega) (by omega) (by omega))
/-! contracts of the small methods of the class -/
section C8b
variable {m : tM}
theorem c_isWithin {x b : Int} {K : Int → tM → Prop} (h : K (if 0 ≤ x ∧ x < b then 1 else 0) m) : Cli mX11_isWithin [iV x, iV b] m K := by
  refine wX11_isWithin_0 (fun v hv => ⟨v, rfl, ?_⟩)
  rw [show v = (if 0 ≤ x ∧ x < b then 1 else 0) by rw [hv]; (repeat' split) <;> omega]
  exact h
theorem ite01 {c : Prop} [Decidable c] : (if c then (1 : Int) else 0) = 0 ∨ (if c then (1 : Int) else 0) = 1 := by split <;> simp
theorem c_isLayer {x : Int} {K : Int → tM → Prop} (h : K (if 0 ≤ x ∧ x < 4 then 1 else 0) m) : Cli mX11_isLayer [iV x] m K :=
  wX11_isLayer_0 (c_isWithin ⟨ite01, _, rfl, h⟩)
theorem c_isSwitch {x : Int} {K : Int → tM → Prop} (h : K (if x = 0 ∨ x = 1 then 1 else 0) m) : Cli mX11_isSwitch [iV x] m K := by
  refine wX11_isSwitch_0 (fun v hv => ⟨v, rfl, ?_⟩)
  rw [show v = (if x = 0 ∨ x = 1 then 1 else 0) by rw [hv]; (repeat' split) <;> omega]
  exact h
theorem c_isLength {x : Int} {K : Int → tM → Prop} (h : K (if 1 ≤ x ∧ x ≤ 4 then 1 else 0) m) : Cli mX11_isLength [iV x] m K := by
  refine wX11_isLength_0 (fun v hv => ⟨v, rfl, ?_⟩)
  rw [show v = (if 1 ≤ x ∧ x ≤ 4 then 1 else 0) by rw [hv]; (repeat' split) <;> omega]
  exact h
theorem c_isOnTable {x : Int} {K : Int → tM → Prop} (h : K (if -30 ≤ x ∧ x ≤ 30 then 1 else 0) m) : Cli mX11_isOnTable [iV x] m K := by
  refine wX11_isOnTable_0 (fun v hv => ⟨v, rfl, ?_⟩)
  rw [show v = (if -30 ≤ x ∧ x ≤ 30 then 1 else 0) by rw [hv]; (repeat' split) <;> omega]
  exact h
theorem c_arePlaces {x n : Int} {K : Int → tM → Prop} (h : K (if 0 ≤ n ∧ 0 ≤ x ∧ x + n ≤ 16 then 1 else 0) m) : Cli mX11_arePlaces [iV x, iV n] m K := by
  refine Tj.rl 1 rfl (fun hn => ?_)
  refine wX11_arePlaces_0 ⟨fun c => ⟨0, rfl, ?_⟩, fun c => ⟨fun c2 => ⟨0, rfl, ?_⟩, fun c2 => ⟨by constructor <;> omega, fun v hv => ⟨v, rfl, ?_⟩⟩⟩⟩
  · rw [if_neg (by omega)] at h; exact h
  · rw [if_neg (by omega)] at h; exact h
  · rw [show v = (if 0 ≤ n ∧ 0 ≤ x ∧ x + n ≤ 16 then 1 else 0) by rw [hv]; (repeat' split) <;> omega]
    exact h
theorem c_toldStep {x : Int} {K : Int → tM → Prop} (h : K (if x < 0 then 9 else x) m) : Cli mX11_toldStep [iV x] m K :=
  wX11_toldStep_0 (fun v hv => ⟨v, rfl, by rw [hv]; exact h⟩)
/-- how a sheet holds the crease that a number means -/
def crM (q : Int) : Int := if q = 0 then 2 else if q = 1 then 3 else if q = 5 then 0 else if q = 9 then 1 else -1
theorem c_creaseMeant {x : Int} {K : Int → tM → Prop} (h : K (crM x) m) : Cli mX11_creaseMeant [iV x] m K := by
  refine wX11_creaseMeant_0 ⟨fun c => ?_, fun c => ?_, fun c => ?_, fun c => ?_, fun c => ?_, fun c => ?_, fun c => ?_, fun c => ?_, fun c => ?_, fun c => ?_, fun c0 c1 _ _ _ c5 _ _ _ c9 => ?_⟩
  iterate 10 (subst c; exact ⟨_, rfl, h⟩)
  refine ⟨_, rfl, ?_⟩
  unfold crM at h
  rw [if_neg c0, if_neg c1, if_neg c5, if_neg c9] at h
  exact h
theorem c_in {x a b : Int} {K : Int → tM → Prop} (h : K (if a ≤ x ∧ x ≤ b then 1 else 0) m) : Cli mX12_in [iV x, iV a, iV b] m K := by
  refine wX12_in_0 (fun v hv => ⟨v, rfl, ?_⟩)
  rw [show v = (if a ≤ x ∧ x ≤ b then 1 else 0) by rw [hv]; (repeat' split) <;> omega]
  exact h
/-- Arrays.fill -/
theorem c_fill {p np : Nat} {x : Int} {K : tM → Prop} (s0 : shp p = some (20, np)) (hn : np ≤ 100000) (h : K (sr m p (fil (fun _ => x) (m p) 0 np))) : Clv mJ7_fill_53178 [rV p, iV x] m K := by
  refine wJ7_fill_53178_0 s0 ⟨by omega, ?_⟩
  have key := up_ind (n := (np : Int)) (fun i => Tj mJ7_fill_53178 5 [some (rV p), some (iV x), some (iV i), some (iV (np : Int))] [] (sr m p (fil (fun _ => x) (m p) 0 i)) (fun r m' => r = none ∧ K m')) ?_ ?_ (i := 0) (by omega) (by omega)
  · rw [fil_0, sr_self] at key
    exact key
  · exact wJ7_fill_53178_5 s0 ⟨fun c => by omega, fun _ => ⟨rfl, h⟩⟩
  · intro i h0 h1 ih
    refine wJ7_fill_53178_5 s0 ⟨fun _ => ⟨⟨h0, by omega, by constructor <;> omega⟩, ?_⟩, fun c => absurd h1 c⟩
    rw [up_sr]
    have := fil_s (fun _ => x) (m p) 0 h0
    rw [Int.zero_add] at this
    rw [this]
    exact ih
end C8b
