/-! every call keeps what holds between the calls -/
theorem Rel.T {m m' : tM} (h : Rel m) (a : Cur m') (b : HisR m') (o : OTH m m') : Rel m' := by
  refine ⟨a, b, ?_, h.2.2.2.1.congr (fun c hc => o c (by omega)), by rw [o 125 (by omega)]; exact h.2.2.2.2⟩
  show HU m' (nrm (m' 147))
  rw [o 147 (by omega)]
  exact h.2.2.1.congr (fun c c0 c1 => o c (by omega))
theorem Rel.B {m m' : tM} (h : Rel m) (a : Cur m') (b : HisR m') (u : HUc m') (o : OTB m m') : Rel m' :=
  ⟨a, b, u, h.2.2.2.1.congr (fun c hc => o c (by omega)), by rw [o 125 (by omega)]; exact h.2.2.2.2⟩
section C10n
variable {m : tM} {K : Int → Int → tM → Prop}
theorem rel_clear (h : Rel m) (hk : ∀ r m', Rel m' → K r r m') : Cli mX11_clear [rV 0] m (fun r m1 => Cli mX12_clear [rV 145] m1 (fun r' m2 => K r r' m2)) :=
  sim_clear h.1 h.2.1 (fun r m' a b o => hk r m' (h.T a b o))
theorem rel_crease {x1 x2 x3 x4 : Int} (h : Rel m) (hk : ∀ r m', Rel m' → K r r m') : Cli mX11_crease [rV 0, iV x1, iV x2, iV x3, iV x4] m (fun r m1 => Cli mX12_crease [rV 145, iV x1, iV x2, iV x3, iV x4] m1 (fun r' m2 => K r r' m2)) :=
  sim_crease h.1 h.2.1 (fun r m' a b o => hk r m' (h.T a b o))
theorem rel_spot {x1 x2 x3 : Int} (h : Rel m) (hk : ∀ r m', Rel m' → K r r m') : Cli mX11_spot [rV 0, iV x1, iV x2, iV x3] m (fun r m1 => Cli mX12_spot [rV 145, iV x1, iV x2, iV x3] m1 (fun r' m2 => K r r' m2)) :=
  sim_spot h.1 h.2.1 (fun r m' a b o => hk r m' (h.T a b o))
theorem rel_told {x1 x2 : Int} (h : Rel m) (hk : ∀ r m', Rel m' → K r r m') : Cli mX11_told [rV 0, iV x1, iV x2] m (fun r m1 => Cli mX12_told [rV 145, iV x1, iV x2] m1 (fun r' m2 => K r r' m2)) :=
  sim_told h.1 h.2.1 (fun r m' a b o => hk r m' (h.T a b o))
theorem rel_turn {x1 : Int} (h : Rel m) (hk : ∀ r m', Rel m' → K r r m') : Cli mX11_turn [rV 0, iV x1] m (fun r m1 => Cli mX12_turn [rV 145, iV x1] m1 (fun r' m2 => K r r' m2)) :=
  sim_turn h.1 h.2.1 (fun r m' a b o => hk r m' (h.T a b o))
theorem rel_layer {x1 x2 : Int} (h : Rel m) (hk : ∀ r m', Rel m' → K r r m') : Cli mX11_layer [rV 0, iV x1, iV x2] m (fun r m1 => Cli mX12_layer [rV 145, iV x1, iV x2] m1 (fun r' m2 => K r r' m2)) :=
  sim_layer h.1 h.2.1 h.2.2.1 (fun r m' a b u o => hk r m' (h.B a b u o))
theorem rel_lose {x1 : Int} (h : Rel m) (hk : ∀ r m', Rel m' → K r r m') : Cli mX11_lose [rV 0, iV x1] m (fun r m1 => Cli mX12_lose [rV 145, iV x1] m1 (fun r' m2 => K r r' m2)) :=
  sim_lose h.1 h.2.1 h.2.2.1 (fun r m' a b u o => hk r m' (h.B a b u o))
theorem rel_cube {x1 x2 x3 : Int} (h : Rel m) (hk : ∀ r m', Rel m' → K r r m') : Cli mX11_cube [rV 0, iV x1, iV x2, iV x3] m (fun r m1 => Cli mX12_cube [rV 145, iV x1, iV x2, iV x3] m1 (fun r' m2 => K r r' m2)) :=
  sim_cube h.1 h.2.1 h.2.2.1 (fun r m' a b u o => hk r m' (h.B a b u o))
theorem rel_copy {x1 x2 x3 x4 x5 : Int} (h : Rel m) (hk : ∀ r m', Rel m' → K r r m') : Cli mX11_copy [rV 0, iV x1, iV x2, iV x3, iV x4, iV x5] m (fun r m1 => Cli mX12_copy [rV 145, iV x1, iV x2, iV x3, iV x4, iV x5] m1 (fun r' m2 => K r r' m2)) :=
  sim_copy h.1 h.2.1 h.2.2.1 (fun r m' a b u o => hk r m' (h.B a b u o))
theorem rel_box {x1 x2 x3 : Int} (h : Rel m) (hk : ∀ r m', Rel m' → K r r m') : Cli mX11_box [rV 0, iV x1, iV x2, iV x3] m (fun r m1 => Cli mX12_box [rV 145, iV x1, iV x2, iV x3] m1 (fun r' m2 => K r r' m2)) :=
  sim_box h.1 h.2.1 h.2.2.1 (fun r m' a b u o => hk r m' (h.B a b u o))
theorem rel_undo (h : Rel m) (hk : ∀ r m', Rel m' → K r r m') : Cli mX11_undo [rV 0] m (fun r m1 => Cli mX12_undo [rV 145] m1 (fun r' m2 => K r r' m2)) :=
  sim_undo h.1 h.2.1 h.2.2.1 (fun r m' a b u o => hk r m' (h.B a b u o))
theorem rel_count {x1 : Int} (h : Rel m) (hk : ∀ r m', Rel m' → K r r m') : Cli mX11_count [rV 0, iV x1] m (fun r m1 => Cli mX12_count [rV 145, iV x1] m1 (fun r' m2 => K r r' m2)) :=
  sim_count h.1 h.2.1 h.2.2.1 (fun r m' a b u o => hk r m' (h.B a b u o))
theorem rel_well (h : Rel m) (hk : ∀ r m', Rel m' → K r r m') : Cli mX11_well [rV 0] m (fun r m1 => Cli mX12_well [rV 145] m1 (fun r' m2 => K r r' m2)) :=
  sim_well h.1 h.2.1 h.2.2.1 (fun r m' a b u o => hk r m' (h.B a b u o))
theorem rel_skin (h : Rel m) (hk : ∀ r m', Rel m' → K r r m') : Cli mX11_skin [rV 0] m (fun r m1 => Cli mX12_skin [rV 145] m1 (fun r' m2 => K r r' m2)) :=
  sim_skin h.1 h.2.1 h.2.2.1 (fun r m' a b u o => hk r m' (h.B a b u o))
theorem rel_square {x1 x2 : Int} (h : Rel m) (hk : ∀ r m', Rel m' → K r r m') : Cli mX11_square [rV 0, iV x1, iV x2] m (fun r m1 => Cli mX12_square [rV 145, iV x1, iV x2] m1 (fun r' m2 => K r r' m2)) :=
  sim_square h.1 h.2.1 h.2.2.1 (fun r m' a b u o => hk r m' (h.B a b u o))
theorem rel_across {x1 x2 x3 : Int} (h : Rel m) (hk : ∀ r m', Rel m' → K r r m') : Cli mX11_across [rV 0, iV x1, iV x2, iV x3] m (fun r m1 => Cli mX12_across [rV 145, iV x1, iV x2, iV x3] m1 (fun r' m2 => K r r' m2)) :=
  sim_across h.1 h.2.1 h.2.2.1 (fun r m' a b u o => hk r m' (h.B a b u o))
theorem rel_cut {x1 x2 x3 : Int} (h : Rel m) (hk : ∀ r m', Rel m' → K r r m') : Cli mX11_cut [rV 0, iV x1, iV x2, iV x3] m (fun r m1 => Cli mX12_cut [rV 145, iV x1, iV x2, iV x3] m1 (fun r' m2 => K r r' m2)) :=
  sim_cut h.1 h.2.1 h.2.2.1 (fun r m' a b u o => hk r m' (h.B a b u o))
theorem rel_cuts (h : Rel m) (hk : ∀ r m', Rel m' → K r r m') : Cli mX11_cuts [rV 0] m (fun r m1 => Cli mX12_cuts [rV 145] m1 (fun r' m2 => K r r' m2)) :=
  sim_cuts h.1 h.2.1 h.2.2.1 (fun r m' a b u o => hk r m' (h.B a b u o))
theorem rel_form {x1 : Int} (h : Rel m) (hk : ∀ r m', Rel m' → K r r m') : Cli mX11_form [rV 0, iV x1] m (fun r m1 => Cli mX12_form [rV 145, iV x1] m1 (fun r' m2 => K r r' m2)) :=
  sim_form h.1 h.2.1 h.2.2.1 (fun r m' a b u o => hk r m' (h.B a b u o))
theorem rel_same (h : Rel m) (hk : ∀ r m', Rel m' → K r r m') : Cli mX11_same [rV 0] m (fun r m1 => Cli mX12_same [rV 145] m1 (fun r' m2 => K r r' m2)) :=
  sim_same h.1 h.2.1 h.2.2.1 (fun r m' a b u o => hk r m' (h.B a b u o))
theorem rel_alike {x1 : Int} (h : Rel m) (hk : ∀ r m', Rel m' → K r r m') : Cli mX11_alike [rV 0, iV x1] m (fun r m1 => Cli mX12_alike [rV 145, iV x1] m1 (fun r' m2 => K r r' m2)) :=
  sim_alike h.1 h.2.1 h.2.2.1 h.2.2.2.1 (fun r m' a b u o => hk r m' (h.B a b u o))
theorem rel_shelve {x1 : Int} (h : Rel m) (hk : ∀ r m', Rel m' → K r r m') : Cli mX11_shelve [rV 0, iV x1] m (fun r m1 => Cli mX12_shelve [rV 145, iV x1] m1 (fun r' m2 => K r r' m2)) :=
  sim_shelve h.1 h.2.1 h.2.2.1 h.2.2.2.1 (fun r m' a b u s e => hk r m' ⟨a, b, u, s, by rw [e]; exact h.2.2.2.2⟩)
end C10n
