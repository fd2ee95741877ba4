theorem wX11_isLayer_0 {m : tM} {P : Option tV → tM → Prop} {x0 : Int}  (h : Cli mX11_isWithin [iV x0, iV 4] m (fun r1 m1 => (((r1 = 0 ∨ r1 = 1)) ∧ (P (some (iV r1)) m1)))) : Tj mX11_isLayer 0 [some (iV x0)] [] m P := by
  refine Tj.iload_n dX11_isLayer_0 rfl rfl ?_
  refine Tj.iconst dX11_isLayer_1 (by decide) rfl ?_
  refine Tj.callSi (as := [_, _]) (rest := []) dX11_isLayer_2 ln_X11_131 rfl rfl (Nat.le_of_ble_eq_true rfl) ⟨Nat.le_of_ble_eq_true rfl, Nat.le_of_ble_eq_true rfl⟩ (Nat.le_of_ble_eq_true rfl) rfl ?_
  refine Cli.mono h (fun r1 m1 h => ?_)
  obtain ⟨o1, h⟩ := h
  exact Tj.zret dX11_isLayer_5 rfl o1 h

theorem wX11_isSwitch_0 {m : tM} {P : Option tV → tM → Prop} {x0 : Int}  (h : ∀ v1 : Int, v1 = (if x0 = 0 then 1 else (if x0 = 1 then 1 else 0)) → (P (some (iV v1)) m)) : Tj mX11_isSwitch 0 [some (iV x0)] [] m P := by
  refine Tj.iload_n dX11_isSwitch_0 rfl rfl ?_
  have hj : Tj mX11_isSwitch 14 [] [iV (if x0 = 0 then 1 else (if x0 = 1 then 1 else 0))] m P := by
    generalize hv1 : ((if x0 = 0 then 1 else (if x0 = 1 then 1 else 0)) : Int) = v1
    have h := h v1 hv1.symm
    exact Tj.zret dX11_isSwitch_14 rfl (by rw [← hv1]; (repeat' split) <;> simp) h
  refine Tj.if_eq dX11_isSwitch_1 rfl rfl (fun c1 => ?_) (fun c1 => ?_)
  · refine Tj.iconst dX11_isSwitch_9 (by decide) rfl ?_
    refine Tj.goto dX11_isSwitch_10 rfl ?_
    try simp only [if_pos c1] at hj ⊢
    exact Tj.cut hj trivial
  · refine Tj.iload_n dX11_isSwitch_4 rfl rfl ?_
    refine Tj.iconst dX11_isSwitch_5 (by decide) rfl ?_
    refine Tj.icmp_ne dX11_isSwitch_6 rfl rfl (fun c2 => ?_) (fun c2 => ?_)
    · refine Tj.iconst dX11_isSwitch_9 (by decide) rfl ?_
      refine Tj.goto dX11_isSwitch_10 rfl ?_
      try simp only [if_neg c1, if_pos c2] at hj ⊢
      exact Tj.cut hj trivial
    · refine Tj.iconst dX11_isSwitch_13 (by decide) rfl ?_
      try simp only [if_neg c1, if_neg c2] at hj ⊢
      exact Tj.cut hj trivial

theorem wX11_isLength_0 {m : tM} {P : Option tV → tM → Prop} {x0 : Int}  (h : ∀ v1 : Int, v1 = (if x0 < 1 then 0 else (if 4 < x0 then 0 else 1)) → (P (some (iV v1)) m)) : Tj mX11_isLength 0 [some (iV x0)] [] m P := by
  refine Tj.iload_n dX11_isLength_0 rfl rfl ?_
  refine Tj.iconst dX11_isLength_1 (by decide) rfl ?_
  have hj : Tj mX11_isLength 15 [] [iV (if x0 < 1 then 0 else (if 4 < x0 then 0 else 1))] m P := by
    generalize hv1 : ((if x0 < 1 then 0 else (if 4 < x0 then 0 else 1)) : Int) = v1
    have h := h v1 hv1.symm
    exact Tj.zret dX11_isLength_15 rfl (by rw [← hv1]; (repeat' split) <;> simp) h
  refine Tj.icmp_lt dX11_isLength_2 rfl rfl (fun c1 => ?_) (fun c1 => ?_)
  · refine Tj.iconst dX11_isLength_14 (by decide) rfl ?_
    try simp only [if_pos c1] at hj ⊢
    exact Tj.cut hj trivial
  · refine Tj.iload_n dX11_isLength_5 rfl rfl ?_
    refine Tj.iconst dX11_isLength_6 (by decide) rfl ?_
    refine Tj.icmp_gt dX11_isLength_7 rfl rfl (fun c2 => ?_) (fun c2 => ?_)
    · refine Tj.iconst dX11_isLength_14 (by decide) rfl ?_
      try simp only [if_neg c1, if_pos c2] at hj ⊢
      exact Tj.cut hj trivial
    · refine Tj.iconst dX11_isLength_10 (by decide) rfl ?_
      refine Tj.goto dX11_isLength_11 rfl ?_
      try simp only [if_neg c1, if_neg c2] at hj ⊢
      exact Tj.cut hj trivial

theorem wX11_isOnTable_0 {m : tM} {P : Option tV → tM → Prop} {x0 : Int}  (h : ∀ v1 : Int, v1 = (if x0 < (-30) then 0 else (if 30 < x0 then 0 else 1)) → (P (some (iV v1)) m)) : Tj mX11_isOnTable 0 [some (iV x0)] [] m P := by
  refine Tj.iload_n dX11_isOnTable_0 rfl rfl ?_
  refine Tj.bipush dX11_isOnTable_1 (by decide) (by decide +kernel) rfl ?_
  have hj : Tj mX11_isOnTable 17 [] [iV (if x0 < (-30) then 0 else (if 30 < x0 then 0 else 1))] m P := by
    generalize hv1 : ((if x0 < (-30) then 0 else (if 30 < x0 then 0 else 1)) : Int) = v1
    have h := h v1 hv1.symm
    exact Tj.zret dX11_isOnTable_17 rfl (by rw [← hv1]; (repeat' split) <;> simp) h
  refine Tj.icmp_lt dX11_isOnTable_3 rfl rfl (fun c1 => ?_) (fun c1 => ?_)
  · refine Tj.iconst dX11_isOnTable_16 (by decide) rfl ?_
    try simp only [if_pos c1] at hj ⊢
    exact Tj.cut hj trivial
  · refine Tj.iload_n dX11_isOnTable_6 rfl rfl ?_
    refine Tj.bipush dX11_isOnTable_7 (by decide) (by decide +kernel) rfl ?_
    refine Tj.icmp_gt dX11_isOnTable_9 rfl rfl (fun c2 => ?_) (fun c2 => ?_)
    · refine Tj.iconst dX11_isOnTable_16 (by decide) rfl ?_
      try simp only [if_neg c1, if_pos c2] at hj ⊢
      exact Tj.cut hj trivial
    · refine Tj.iconst dX11_isOnTable_12 (by decide) rfl ?_
      refine Tj.goto dX11_isOnTable_13 rfl ?_
      try simp only [if_neg c1, if_neg c2] at hj ⊢
      exact Tj.cut hj trivial

theorem wX11_arePlaces_0 {m : tM} {P : Option tV → tM → Prop} {x0 : Int} {x1 : Int}  (h : (x1 < 0 → (P (some (iV 0)) m)) ∧ (¬ x1 < 0 → ((x0 < 0 → (P (some (iV 0)) m)) ∧ (¬ x0 < 0 → ((R32 (16 - x1)) ∧ (∀ v1 : Int, v1 = (if (16 - x1) < x0 then 0 else 1) → (P (some (iV v1)) m))))))) : Tj mX11_arePlaces 0 [some (iV x0), some (iV x1)] [] m P := by
  refine Tj.iload_n dX11_arePlaces_0 rfl rfl ?_
  refine Tj.if_lt dX11_arePlaces_1 rfl rfl (fun c1 => ?_) (fun c1 => ?_)
  · have h := h.1 c1
    refine Tj.iconst dX11_arePlaces_20 (by decide) rfl ?_
    exact Tj.zret dX11_arePlaces_21 rfl (by decide) h
  · have h := h.2 c1
    refine Tj.iload_n dX11_arePlaces_4 rfl rfl ?_
    refine Tj.if_lt dX11_arePlaces_5 rfl rfl (fun c2 => ?_) (fun c2 => ?_)
    · have h := h.1 c2
      refine Tj.iconst dX11_arePlaces_20 (by decide) rfl ?_
      exact Tj.zret dX11_arePlaces_21 rfl (by decide) h
    · have h := h.2 c2
      obtain ⟨o1, h⟩ := h
      refine Tj.iload_n dX11_arePlaces_8 rfl rfl ?_
      refine Tj.bipush dX11_arePlaces_9 (by decide) (by decide +kernel) rfl ?_
      refine Tj.iload_n dX11_arePlaces_11 rfl rfl ?_
      refine Tj.isub dX11_arePlaces_12 o1 rfl ?_
      have hj : Tj mX11_arePlaces 21 [] [iV (if (16 - x1) < x0 then 0 else 1)] m P := by
        generalize hv1 : ((if (16 - x1) < x0 then 0 else 1) : Int) = v1
        have h := h v1 hv1.symm
        exact Tj.zret dX11_arePlaces_21 rfl (by rw [← hv1]; (repeat' split) <;> simp) h
      refine Tj.icmp_gt dX11_arePlaces_13 rfl rfl (fun c3 => ?_) (fun c3 => ?_)
      · refine Tj.iconst dX11_arePlaces_20 (by decide) rfl ?_
        try simp only [if_pos c3] at hj ⊢
        exact Tj.cut hj trivial
      · refine Tj.iconst dX11_arePlaces_16 (by decide) rfl ?_
        refine Tj.goto dX11_arePlaces_17 rfl ?_
        try simp only [if_neg c3] at hj ⊢
        exact Tj.cut hj trivial

theorem wX11_toldStep_0 {m : tM} {P : Option tV → tM → Prop} {x0 : Int}  (h : ∀ v1 : Int, v1 = (if x0 < 0 then 9 else x0) → (P (some (iV v1)) m)) : Tj mX11_toldStep 0 [some (iV x0)] [] m P := by
  refine Tj.iload_n dX11_toldStep_0 rfl rfl ?_
  have hj : Tj mX11_toldStep 10 [] [iV (if x0 < 0 then 9 else x0)] m P := by
    generalize hv1 : ((if x0 < 0 then 9 else x0) : Int) = v1
    have h := h v1 hv1.symm
    exact Tj.iret dX11_toldStep_10 rfl h
  refine Tj.if_ge dX11_toldStep_1 rfl rfl (fun c1 => ?_) (fun c1 => ?_)
  · refine Tj.bipush dX11_toldStep_4 (by decide) (by decide +kernel) rfl ?_
    refine Tj.goto dX11_toldStep_6 rfl ?_
    try simp only [if_pos c1] at hj ⊢
    exact Tj.cut hj trivial
  · refine Tj.iload_n dX11_toldStep_9 rfl rfl ?_
    try simp only [if_neg c1] at hj ⊢
    exact Tj.cut hj trivial

theorem wX11_creaseMeant_0 {m : tM} {P : Option tV → tM → Prop} {x0 : Int}  (h : (x0 = 0 → (P (some (iV 2)) m)) ∧ (x0 = 1 → (P (some (iV 3)) m)) ∧ (x0 = 2 → (P (some (iV (-1))) m)) ∧ (x0 = 3 → (P (some (iV (-1))) m)) ∧ (x0 = 4 → (P (some (iV (-1))) m)) ∧ (x0 = 5 → (P (some (iV 0)) m)) ∧ (x0 = 6 → (P (some (iV (-1))) m)) ∧ (x0 = 7 → (P (some (iV (-1))) m)) ∧ (x0 = 8 → (P (some (iV (-1))) m)) ∧ (x0 = 9 → (P (some (iV 1)) m)) ∧ (¬ x0 = 0 → ¬ x0 = 1 → ¬ x0 = 2 → ¬ x0 = 3 → ¬ x0 = 4 → ¬ x0 = 5 → ¬ x0 = 6 → ¬ x0 = 7 → ¬ x0 = 8 → ¬ x0 = 9 → (P (some (iV (-1))) m))) : Tj mX11_creaseMeant 0 [some (iV x0)] [] m P := by
  refine Tj.iload_n dX11_creaseMeant_0 rfl rfl ?_
  show Tj mX11_creaseMeant 1 [some (iV x0)] [iV x0] m P
  by_cases c1 : x0 = 0
  · have h := h.1 c1
    refine Tj.tsI (pc' := 60) (v := 0) (off := 59) dX11_creaseMeant_1 c1 (by decide) (by decide) (by decide +kernel) (by decide) ?_
    refine Tj.iconst dX11_creaseMeant_60 (by decide) rfl ?_
    exact Tj.iret dX11_creaseMeant_61 rfl h
  have h := h.2
  by_cases c2 : x0 = 1
  · have h := h.1 c2
    refine Tj.tsI (pc' := 62) (v := 1) (off := 61) dX11_creaseMeant_1 c2 (by decide) (by decide) (by decide +kernel) (by decide) ?_
    refine Tj.iconst dX11_creaseMeant_62 (by decide) rfl ?_
    exact Tj.iret dX11_creaseMeant_63 rfl h
  have h := h.2
  by_cases c3 : x0 = 2
  · have h := h.1 c3
    refine Tj.tsI (pc' := 64) (v := 2) (off := 63) dX11_creaseMeant_1 c3 (by decide) (by decide) (by decide +kernel) (by decide) ?_
    refine Tj.iconst dX11_creaseMeant_64 (by decide) rfl ?_
    exact Tj.iret dX11_creaseMeant_65 rfl h
  have h := h.2
  by_cases c4 : x0 = 3
  · have h := h.1 c4
    refine Tj.tsI (pc' := 64) (v := 3) (off := 63) dX11_creaseMeant_1 c4 (by decide) (by decide) (by decide +kernel) (by decide) ?_
    refine Tj.iconst dX11_creaseMeant_64 (by decide) rfl ?_
    exact Tj.iret dX11_creaseMeant_65 rfl h
  have h := h.2
  by_cases c5 : x0 = 4
  · have h := h.1 c5
    refine Tj.tsI (pc' := 64) (v := 4) (off := 63) dX11_creaseMeant_1 c5 (by decide) (by decide) (by decide +kernel) (by decide) ?_
    refine Tj.iconst dX11_creaseMeant_64 (by decide) rfl ?_
    exact Tj.iret dX11_creaseMeant_65 rfl h
  have h := h.2
  by_cases c6 : x0 = 5
  · have h := h.1 c6
    refine Tj.tsI (pc' := 56) (v := 5) (off := 55) dX11_creaseMeant_1 c6 (by decide) (by decide) (by decide +kernel) (by decide) ?_
    refine Tj.iconst dX11_creaseMeant_56 (by decide) rfl ?_
    exact Tj.iret dX11_creaseMeant_57 rfl h
  have h := h.2
  by_cases c7 : x0 = 6
  · have h := h.1 c7
    refine Tj.tsI (pc' := 64) (v := 6) (off := 63) dX11_creaseMeant_1 c7 (by decide) (by decide) (by decide +kernel) (by decide) ?_
    refine Tj.iconst dX11_creaseMeant_64 (by decide) rfl ?_
    exact Tj.iret dX11_creaseMeant_65 rfl h
  have h := h.2
  by_cases c8 : x0 = 7
  · have h := h.1 c8
    refine Tj.tsI (pc' := 64) (v := 7) (off := 63) dX11_creaseMeant_1 c8 (by decide) (by decide) (by decide +kernel) (by decide) ?_
    refine Tj.iconst dX11_creaseMeant_64 (by decide) rfl ?_
    exact Tj.iret dX11_creaseMeant_65 rfl h
  have h := h.2
  by_cases c9 : x0 = 8
  · have h := h.1 c9
    refine Tj.tsI (pc' := 64) (v := 8) (off := 63) dX11_creaseMeant_1 c9 (by decide) (by decide) (by decide +kernel) (by decide) ?_
    refine Tj.iconst dX11_creaseMeant_64 (by decide) rfl ?_
    exact Tj.iret dX11_creaseMeant_65 rfl h
  have h := h.2
  by_cases c10 : x0 = 9
  · have h := h.1 c10
    refine Tj.tsI (pc' := 58) (v := 9) (off := 57) dX11_creaseMeant_1 c10 (by decide) (by decide) (by decide +kernel) (by decide) ?_
    refine Tj.iconst dX11_creaseMeant_58 (by decide) rfl ?_
    exact Tj.iret dX11_creaseMeant_59 rfl h
  have h := h.2
  have h := h c1 c2 c3 c4 c5 c6 c7 c8 c9 c10
  refine Tj.tsO (pc' := 64) dX11_creaseMeant_1 ((Int.lt_or_le x0 0).elim Or.inl (fun q => Or.inr (ts_s (by decide : (9 : Int) + 1 = 10) (ts_s (by decide : (8 : Int) + 1 = 9) (ts_s (by decide : (7 : Int) + 1 = 8) (ts_s (by decide : (6 : Int) + 1 = 7) (ts_s (by decide : (5 : Int) + 1 = 6) (ts_s (by decide : (4 : Int) + 1 = 5) (ts_s (by decide : (3 : Int) + 1 = 4) (ts_s (by decide : (2 : Int) + 1 = 3) (ts_s (by decide : (1 : Int) + 1 = 2) (ts_s (by decide : (0 : Int) + 1 = 1) q c1) c2) c3) c4) c5) c6) c7) c8) c9) c10))) (by decide) ?_
  refine Tj.iconst dX11_creaseMeant_64 (by decide) rfl ?_
  exact Tj.iret dX11_creaseMeant_65 rfl h
