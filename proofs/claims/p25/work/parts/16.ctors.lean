theorem q_sameI {D : va_G} {cl : List vw_C} {cI cJ cA : ClassId} {s : State} (h : va_K D cl (q_ty cI cJ ++ [(cA, .int)]) s) : cI = cA := Option.some.inj ((h.2 0 _ rfl).2.symm.trans (h.2 2 _ rfl).2)
theorem q_sameJ {D : va_G} {cl : List vw_C} {cI cJ cA : ClassId} {s : State} (h : va_K D cl (q_ty cI cJ ++ [(cA, .long)]) s) : cJ = cA := Option.some.inj ((h.2 1 _ rfl).2.symm.trans (h.2 2 _ rfl).2)
set_option maxHeartbeats 4000000 in
set_option maxRecDepth 100000 in
theorem c_X0_init (l : Launch) (dC : Nat → ClassId) (dI : Nat → Nat → Nat) (cI cJ : ClassId) (h0 sz : Nat) : Met l yX0_init wsX0_init ({ frames := 1, cells := 2, slots := 48, locals := 12 } : Room) (va_Pc [.ref h0] (q_W (dC, dI) vwCl [(h0, .inr (0, [.null, .null, .int 0, .long 0, .long 0, .long 0]))] (q_ty cI cJ) sz)) (va_Qv (S := Nat × Nat) (fun _ => True) (fun u => q_E (dC, dI) vwCl (wBd h0 u.1 u.2 cI ((fun _ => 0), (fun _ => 0), 8, 0, 0, 0)) (q_ty cI cJ) (va_A [(h0, .inr (0, [.null, .null, .int 0, .long 0, .long 0, .long 0]))] sz)) (va_A [(h0, .inr (0, [.null, .null, .int 0, .long 0, .long 0, .long 0]))] sz)) 2 48 (va_A [(h0, .inr (0, [.null, .null, .int 0, .long 0, .long 0, .long 0]))] sz) := by
  refine Met.ofW (cc := cX0_init) (maxL := 1) (ret := none) (by decide) rfl ?_
  intro p e s m args below meth c s₁ BB hml hv
  obtain ⟨rfl, hsz, hP, hK, hn, hD0⟩ := hv
  have hx := BB.exec
  have hb := BB.bytes
  have hr := BB.returns
  have hts := atoms_spec (ws := wsX0_init) BB.pre
  have hown : s.vm.findClass RX0 = some m.cls := findClass_of_methodNamed BB.named
  have hlocks := BB.notSynchronized
  have hin : meth.name = "<init>" := (name_of_methodNamed BB.named BB.method).1
  subst hsz
  have hD := hD0.self (sz := s.heap.size)
  generalize hAe : va_A [(h0, .inr (0, [.null, .null, .int 0, .long 0, .long 0, .long 0]))] s.heap.size = A at hD ⊢
  have hA : ∀ q : Nat, s.heap.size ≤ q → A q := fun q h => by rw [← hAe]; exact Or.inr h
  have hS : va_S A s.heap s.heap [] := va_S.rf
  have hi0 : ∀ w ∈ u_ws RX0 TX0 6, w ∈ wsX0_init := by decide +kernel
  have hl := lv_entry [.ref h0] (n := 1) (Nat.le_of_ble_eq_true rfl)
  rw [lg_entry_eq]
  generalize (lg_sl [.ref h0] ++ List.replicate (1 - (lg_sl [.ref h0]).length) Slot.unset).toArray = ls at hl ⊢
  have hl : lv_has ls 1 [(0, .ref h0)] := hl
  refine lv_aload_n hx hb dX0_init_0 rfl (lv_at hl 0 rfl) ?_
  refine W.objInit hx hb hown (hts (.methodLink RX0 3 objectInit) (by decide +kernel)) (hts (.instanceMethod objectInit) (by decide +kernel)) (hts _ (List.mem_cons_of_mem _ (List.mem_append_left _ (List.mem_of_getElem? (i := 2) rfl)))) rfl (by rw [hml]; exact hl.1) rfl dX0_init_1 (Nat.le_of_ble_eq_true rfl) (Nat.le_of_ble_eq_true rfl) ?_
  refine W.eq (g2 := F0 m 4 ls []) rfl ?_
  refine lv_aload_n hx hb dX0_init_4 rfl (lv_at hl 0 rfl) ?_
  refine lv_bipush (v := 40) hx hb dX0_init_5 (by decide) ?_
  refine va_newa (atype := .int) (ty := .int) (a0 := (40, .inl (fun _ => 0))) (N' := 40) hx hb (hts (.arrayClass .int) (by decide +kernel)) rfl hK hP hD hS hA (fun _ => rfl) (by decide) (by decide) (by decide) (Nat.le_of_ble_eq_true rfl) (Nat.le_of_ble_eq_true rfl) dX0_init_7 (fun q1 cA H hK2 hP hD hS => ?_)
  obtain rfl := q_sameI hK2
  have hP : va_P (dC, dI) vwCl [(h0, .inr (0, [.null, .null, .int 0, .long 0, .long 0, .long 0])), (q1, .inl (cI, 40, .inl (fun _ => 0)))] H := hP
  have hD : va_D A [(h0, .inr (0, [.null, .null, .int 0, .long 0, .long 0, .long 0])), (q1, .inl (cI, 40, .inl (fun _ => 0)))] := hD
  refine va_putF (D := (dC, dI)) (ci := 0) (v := .ref q1) (ty := .array .int) (C := RX0) (T := TX0) (N := 6) hx hb hts hi0 tyX0 tyX0_ok nmX0 hown hK hP hD hS 0 rfl rfl 0 (by decide) (hts (.fieldLink RX0 9 RX0 "flips" "[I") (by decide +kernel)) (fun _ h9 => h9) rfl hin rfl (by decide +kernel) rfl rfl (Nat.le_of_ble_eq_true rfl) dX0_init_9 (fun H locs hP hD hS => ?_)
  have hP : va_P (dC, dI) vwCl [(h0, .inr (0, [.ref q1, .null, .int 0, .long 0, .long 0, .long 0])), (q1, .inl (cI, 40, .inl (fun _ => 0)))] H := hP
  have hD : va_D A [(h0, .inr (0, [.ref q1, .null, .int 0, .long 0, .long 0, .long 0])), (q1, .inl (cI, 40, .inl (fun _ => 0)))] := hD
  refine lv_aload_n hx hb dX0_init_12 rfl (lv_at hl 0 rfl) ?_
  refine lv_bipush (v := 8) hx hb dX0_init_13 (by decide) ?_
  refine va_newa (atype := .int) (ty := .int) (a0 := (8, .inl (fun _ => 0))) (N' := 8) hx hb (hts (.arrayClass .int) (by decide +kernel)) rfl hK hP hD hS hA (fun _ => rfl) (by decide) (by decide) (by decide) (Nat.le_of_ble_eq_true rfl) (Nat.le_of_ble_eq_true rfl) dX0_init_15 (fun q2 cA H hK2 hP hD hS => ?_)
  obtain rfl := q_sameI hK2
  have hP : va_P (dC, dI) vwCl [(h0, .inr (0, [.ref q1, .null, .int 0, .long 0, .long 0, .long 0])), (q1, .inl (cI, 40, .inl (fun _ => 0))), (q2, .inl (cI, 8, .inl (fun _ => 0)))] H := hP
  have hD : va_D A [(h0, .inr (0, [.ref q1, .null, .int 0, .long 0, .long 0, .long 0])), (q1, .inl (cI, 40, .inl (fun _ => 0))), (q2, .inl (cI, 8, .inl (fun _ => 0)))] := hD
  refine va_putF (D := (dC, dI)) (ci := 0) (v := .ref q2) (ty := .array .int) (C := RX0) (T := TX0) (N := 6) hx hb hts hi0 tyX0 tyX0_ok nmX0 hown hK hP hD hS 0 rfl rfl 1 (by decide) (hts (.fieldLink RX0 15 RX0 "wear" "[I") (by decide +kernel)) (fun _ h9 => h9) rfl hin rfl (by decide +kernel) rfl rfl (Nat.le_of_ble_eq_true rfl) dX0_init_17 (fun H locs hP hD hS => ?_)
  have hP : va_P (dC, dI) vwCl [(h0, .inr (0, [.ref q1, .ref q2, .int 0, .long 0, .long 0, .long 0])), (q1, .inl (cI, 40, .inl (fun _ => 0))), (q2, .inl (cI, 8, .inl (fun _ => 0)))] H := hP
  have hD : va_D A [(h0, .inr (0, [.ref q1, .ref q2, .int 0, .long 0, .long 0, .long 0])), (q1, .inl (cI, 40, .inl (fun _ => 0))), (q2, .inl (cI, 8, .inl (fun _ => 0)))] := hD
  refine lv_aload_n hx hb dX0_init_20 rfl (lv_at hl 0 rfl) ?_
  refine lv_bipush (v := 8) hx hb dX0_init_21 (by decide) ?_
  refine va_put (D := (dC, dI)) (ci := 0) (v := .int 8) (ty := .int) (C := RX0) (T := TX0) (N := 6) hx hb hts hi0 tyX0 tyX0_ok nmX0 hown hK hP hD hS 0 rfl rfl 2 (by decide) (hts (.fieldLink RX0 18 RX0 "columns" "I") (by decide +kernel)) (fun _ h9 => h9) rfl (by decide +kernel) rfl rfl (Nat.le_of_ble_eq_true rfl) dX0_init_23 (fun H locs hP hD hS => ?_)
  have hP : va_P (dC, dI) vwCl [(h0, .inr (0, [.ref q1, .ref q2, .int 8, .long 0, .long 0, .long 0])), (q1, .inl (cI, 40, .inl (fun _ => 0))), (q2, .inl (cI, 8, .inl (fun _ => 0)))] H := hP
  have hD : va_D A [(h0, .inr (0, [.ref q1, .ref q2, .int 8, .long 0, .long 0, .long 0])), (q1, .inl (cI, 40, .inl (fun _ => 0))), (q2, .inl (cI, 8, .inl (fun _ => 0)))] := hD
  have hP9 := hP.sub (ws' := (wBd h0 q1 q2 cI ((fun _ => 0), (fun _ => 0), 8, 0, 0, 0))) [0, 1, 2] rfl
  have hD9 := hD.sub (ws' := (wBd h0 q1 q2 cI ((fun _ => 0), (fun _ => 0), 8, 0, 0, 0))) [0, 1, 2] (by decide) rfl
  refine W.widen (k := 2) (n := 48) (Nat.le_of_ble_eq_true rfl) (Nat.le_of_ble_eq_true rfl) ?_
  exact W.vret hx hb hr (fun t ht hW => ⟨⟨(q1, q2), rfl, trivial, ⟨by rw [ht]; exact hP9, va_K.moved hW.alike hK, hD9⟩⟩, hS.F ht⟩) hS.2.2 dX0_init_26
set_option maxHeartbeats 4000000 in
set_option maxRecDepth 100000 in
theorem c_X1_init (l : Launch) (dC : Nat → ClassId) (dI : Nat → Nat → Nat) (cI cJ : ClassId) (h0 sz : Nat) : Met l yX1_init wsX1_init ({ frames := 1, cells := 5, slots := 38, locals := 12 } : Room) (va_Pc [.ref h0] (q_W (dC, dI) vwCl [(h0, .inr (1, [.null, .null, .null, .null, .null, .int 0, .int 0]))] (q_ty cI cJ) sz)) (va_Qv (S := Nat × Nat × Nat × Nat × Nat) (fun _ => True) (fun u => q_E (dC, dI) vwCl (wBk h0 u.1 u.2.1 u.2.2.1 u.2.2.2.1 u.2.2.2.2 cI cJ ((fun _ => 0), (fun _ => 0), (fun _ => 0), (fun _ => 0), (fun _ => 0), 0, 0)) (q_ty cI cJ) (va_A [(h0, .inr (1, [.null, .null, .null, .null, .null, .int 0, .int 0]))] sz)) (va_A [(h0, .inr (1, [.null, .null, .null, .null, .null, .int 0, .int 0]))] sz)) 5 38 (va_A [(h0, .inr (1, [.null, .null, .null, .null, .null, .int 0, .int 0]))] sz) := by
  refine Met.ofW (cc := cX1_init) (maxL := 1) (ret := none) (by decide) rfl ?_
  intro p e s m args below meth c s₁ BB hml hv
  obtain ⟨rfl, hsz, hP, hK, hn, hD0⟩ := hv
  have hx := BB.exec
  have hb := BB.bytes
  have hr := BB.returns
  have hts := atoms_spec (ws := wsX1_init) BB.pre
  have hown : s.vm.findClass RX1 = some m.cls := findClass_of_methodNamed BB.named
  have hlocks := BB.notSynchronized
  have hin : meth.name = "<init>" := (name_of_methodNamed BB.named BB.method).1
  subst hsz
  have hD := hD0.self (sz := s.heap.size)
  generalize hAe : va_A [(h0, .inr (1, [.null, .null, .null, .null, .null, .int 0, .int 0]))] s.heap.size = A at hD ⊢
  have hA : ∀ q : Nat, s.heap.size ≤ q → A q := fun q h => by rw [← hAe]; exact Or.inr h
  have hS : va_S A s.heap s.heap [] := va_S.rf
  have hi1 : ∀ w ∈ u_ws RX1 TX1 7, w ∈ wsX1_init := by decide +kernel
  have hl := lv_entry [.ref h0] (n := 1) (Nat.le_of_ble_eq_true rfl)
  rw [lg_entry_eq]
  generalize (lg_sl [.ref h0] ++ List.replicate (1 - (lg_sl [.ref h0]).length) Slot.unset).toArray = ls at hl ⊢
  have hl : lv_has ls 1 [(0, .ref h0)] := hl
  refine lv_aload_n hx hb dX1_init_0 rfl (lv_at hl 0 rfl) ?_
  refine W.objInit hx hb hown (hts (.methodLink RX1 3 objectInit) (by decide +kernel)) (hts (.instanceMethod objectInit) (by decide +kernel)) (hts _ (List.mem_cons_of_mem _ (List.mem_append_left _ (List.mem_of_getElem? (i := 2) rfl)))) rfl (by rw [hml]; exact hl.1) rfl dX1_init_1 (Nat.le_of_ble_eq_true rfl) (Nat.le_of_ble_eq_true rfl) ?_
  refine W.eq (g2 := F0 m 4 ls []) rfl ?_
  refine lv_aload_n hx hb dX1_init_4 rfl (lv_at hl 0 rfl) ?_
  refine lv_bipush (v := 7) hx hb dX1_init_5 (by decide) ?_
  refine va_newa (atype := .int) (ty := .int) (a0 := (7, .inl (fun _ => 0))) (N' := 7) hx hb (hts (.arrayClass .int) (by decide +kernel)) rfl hK hP hD hS hA (fun _ => rfl) (by decide) (by decide) (by decide) (Nat.le_of_ble_eq_true rfl) (Nat.le_of_ble_eq_true rfl) dX1_init_7 (fun q1 cA H hK2 hP hD hS => ?_)
  obtain rfl := q_sameI hK2
  have hP : va_P (dC, dI) vwCl [(h0, .inr (1, [.null, .null, .null, .null, .null, .int 0, .int 0])), (q1, .inl (cI, 7, .inl (fun _ => 0)))] H := hP
  have hD : va_D A [(h0, .inr (1, [.null, .null, .null, .null, .null, .int 0, .int 0])), (q1, .inl (cI, 7, .inl (fun _ => 0)))] := hD
  refine va_putF (D := (dC, dI)) (ci := 1) (v := .ref q1) (ty := .array .int) (C := RX1) (T := TX1) (N := 7) hx hb hts hi1 tyX1 tyX1_ok nmX1 hown hK hP hD hS 0 rfl rfl 0 (by decide) (hts (.fieldLink RX1 9 RX1 "columnsOfLetters" "[I") (by decide +kernel)) (fun _ h9 => h9) rfl hin rfl (by decide +kernel) rfl rfl (Nat.le_of_ble_eq_true rfl) dX1_init_9 (fun H locs hP hD hS => ?_)
  have hP : va_P (dC, dI) vwCl [(h0, .inr (1, [.ref q1, .null, .null, .null, .null, .int 0, .int 0])), (q1, .inl (cI, 7, .inl (fun _ => 0)))] H := hP
  have hD : va_D A [(h0, .inr (1, [.ref q1, .null, .null, .null, .null, .int 0, .int 0])), (q1, .inl (cI, 7, .inl (fun _ => 0)))] := hD
  refine lv_aload_n hx hb dX1_init_12 rfl (lv_at hl 0 rfl) ?_
  refine lv_bipush (v := 7) hx hb dX1_init_13 (by decide) ?_
  refine va_newa (atype := .int) (ty := .int) (a0 := (7, .inl (fun _ => 0))) (N' := 7) hx hb (hts (.arrayClass .int) (by decide +kernel)) rfl hK hP hD hS hA (fun _ => rfl) (by decide) (by decide) (by decide) (Nat.le_of_ble_eq_true rfl) (Nat.le_of_ble_eq_true rfl) dX1_init_15 (fun q2 cA H hK2 hP hD hS => ?_)
  obtain rfl := q_sameI hK2
  have hP : va_P (dC, dI) vwCl [(h0, .inr (1, [.ref q1, .null, .null, .null, .null, .int 0, .int 0])), (q1, .inl (cI, 7, .inl (fun _ => 0))), (q2, .inl (cI, 7, .inl (fun _ => 0)))] H := hP
  have hD : va_D A [(h0, .inr (1, [.ref q1, .null, .null, .null, .null, .int 0, .int 0])), (q1, .inl (cI, 7, .inl (fun _ => 0))), (q2, .inl (cI, 7, .inl (fun _ => 0)))] := hD
  refine va_putF (D := (dC, dI)) (ci := 1) (v := .ref q2) (ty := .array .int) (C := RX1) (T := TX1) (N := 7) hx hb hts hi1 tyX1 tyX1_ok nmX1 hown hK hP hD hS 0 rfl rfl 1 (by decide) (hts (.fieldLink RX1 15 RX1 "formsOfLetters" "[I") (by decide +kernel)) (fun _ h9 => h9) rfl hin rfl (by decide +kernel) rfl rfl (Nat.le_of_ble_eq_true rfl) dX1_init_17 (fun H locs hP hD hS => ?_)
  have hP : va_P (dC, dI) vwCl [(h0, .inr (1, [.ref q1, .ref q2, .null, .null, .null, .int 0, .int 0])), (q1, .inl (cI, 7, .inl (fun _ => 0))), (q2, .inl (cI, 7, .inl (fun _ => 0)))] H := hP
  have hD : va_D A [(h0, .inr (1, [.ref q1, .ref q2, .null, .null, .null, .int 0, .int 0])), (q1, .inl (cI, 7, .inl (fun _ => 0))), (q2, .inl (cI, 7, .inl (fun _ => 0)))] := hD
  refine lv_aload_n hx hb dX1_init_20 rfl (lv_at hl 0 rfl) ?_
  refine lv_bipush (v := 8) hx hb dX1_init_21 (by decide) ?_
  refine va_newa (atype := .int) (ty := .int) (a0 := (8, .inl (fun _ => 0))) (N' := 8) hx hb (hts (.arrayClass .int) (by decide +kernel)) rfl hK hP hD hS hA (fun _ => rfl) (by decide) (by decide) (by decide) (Nat.le_of_ble_eq_true rfl) (Nat.le_of_ble_eq_true rfl) dX1_init_23 (fun q3 cA H hK2 hP hD hS => ?_)
  obtain rfl := q_sameI hK2
  have hP : va_P (dC, dI) vwCl [(h0, .inr (1, [.ref q1, .ref q2, .null, .null, .null, .int 0, .int 0])), (q1, .inl (cI, 7, .inl (fun _ => 0))), (q2, .inl (cI, 7, .inl (fun _ => 0))), (q3, .inl (cI, 8, .inl (fun _ => 0)))] H := hP
  have hD : va_D A [(h0, .inr (1, [.ref q1, .ref q2, .null, .null, .null, .int 0, .int 0])), (q1, .inl (cI, 7, .inl (fun _ => 0))), (q2, .inl (cI, 7, .inl (fun _ => 0))), (q3, .inl (cI, 8, .inl (fun _ => 0)))] := hD
  refine va_putF (D := (dC, dI)) (ci := 1) (v := .ref q3) (ty := .array .int) (C := RX1) (T := TX1) (N := 7) hx hb hts hi1 tyX1 tyX1_ok nmX1 hown hK hP hD hS 0 rfl rfl 2 (by decide) (hts (.fieldLink RX1 18 RX1 "rows" "[I") (by decide +kernel)) (fun _ h9 => h9) rfl hin rfl (by decide +kernel) rfl rfl (Nat.le_of_ble_eq_true rfl) dX1_init_25 (fun H locs hP hD hS => ?_)
  have hP : va_P (dC, dI) vwCl [(h0, .inr (1, [.ref q1, .ref q2, .ref q3, .null, .null, .int 0, .int 0])), (q1, .inl (cI, 7, .inl (fun _ => 0))), (q2, .inl (cI, 7, .inl (fun _ => 0))), (q3, .inl (cI, 8, .inl (fun _ => 0)))] H := hP
  have hD : va_D A [(h0, .inr (1, [.ref q1, .ref q2, .ref q3, .null, .null, .int 0, .int 0])), (q1, .inl (cI, 7, .inl (fun _ => 0))), (q2, .inl (cI, 7, .inl (fun _ => 0))), (q3, .inl (cI, 8, .inl (fun _ => 0)))] := hD
  refine lv_aload_n hx hb dX1_init_28 rfl (lv_at hl 0 rfl) ?_
  refine lv_bipush (v := 8) hx hb dX1_init_29 (by decide) ?_
  refine va_newa (atype := .int) (ty := .int) (a0 := (8, .inl (fun _ => 0))) (N' := 8) hx hb (hts (.arrayClass .int) (by decide +kernel)) rfl hK hP hD hS hA (fun _ => rfl) (by decide) (by decide) (by decide) (Nat.le_of_ble_eq_true rfl) (Nat.le_of_ble_eq_true rfl) dX1_init_31 (fun q4 cA H hK2 hP hD hS => ?_)
  obtain rfl := q_sameI hK2
  have hP : va_P (dC, dI) vwCl [(h0, .inr (1, [.ref q1, .ref q2, .ref q3, .null, .null, .int 0, .int 0])), (q1, .inl (cI, 7, .inl (fun _ => 0))), (q2, .inl (cI, 7, .inl (fun _ => 0))), (q3, .inl (cI, 8, .inl (fun _ => 0))), (q4, .inl (cI, 8, .inl (fun _ => 0)))] H := hP
  have hD : va_D A [(h0, .inr (1, [.ref q1, .ref q2, .ref q3, .null, .null, .int 0, .int 0])), (q1, .inl (cI, 7, .inl (fun _ => 0))), (q2, .inl (cI, 7, .inl (fun _ => 0))), (q3, .inl (cI, 8, .inl (fun _ => 0))), (q4, .inl (cI, 8, .inl (fun _ => 0)))] := hD
  refine va_putF (D := (dC, dI)) (ci := 1) (v := .ref q4) (ty := .array .int) (C := RX1) (T := TX1) (N := 7) hx hb hts hi1 tyX1 tyX1_ok nmX1 hown hK hP hD hS 0 rfl rfl 3 (by decide) (hts (.fieldLink RX1 21 RX1 "lengths" "[I") (by decide +kernel)) (fun _ h9 => h9) rfl hin rfl (by decide +kernel) rfl rfl (Nat.le_of_ble_eq_true rfl) dX1_init_33 (fun H locs hP hD hS => ?_)
  have hP : va_P (dC, dI) vwCl [(h0, .inr (1, [.ref q1, .ref q2, .ref q3, .ref q4, .null, .int 0, .int 0])), (q1, .inl (cI, 7, .inl (fun _ => 0))), (q2, .inl (cI, 7, .inl (fun _ => 0))), (q3, .inl (cI, 8, .inl (fun _ => 0))), (q4, .inl (cI, 8, .inl (fun _ => 0)))] H := hP
  have hD : va_D A [(h0, .inr (1, [.ref q1, .ref q2, .ref q3, .ref q4, .null, .int 0, .int 0])), (q1, .inl (cI, 7, .inl (fun _ => 0))), (q2, .inl (cI, 7, .inl (fun _ => 0))), (q3, .inl (cI, 8, .inl (fun _ => 0))), (q4, .inl (cI, 8, .inl (fun _ => 0)))] := hD
  refine lv_aload_n hx hb dX1_init_36 rfl (lv_at hl 0 rfl) ?_
  refine lv_bipush (v := 8) hx hb dX1_init_37 (by decide) ?_
  refine va_newa (atype := .long) (ty := .long) (a0 := (8, .inr (.inl (fun _ => 0)))) (N' := 8) hx hb (hts (.arrayClass .long) (by decide +kernel)) rfl hK hP hD hS hA (fun _ => rfl) (by decide) (by decide) (by decide) (Nat.le_of_ble_eq_true rfl) (Nat.le_of_ble_eq_true rfl) dX1_init_39 (fun q5 cA H hK2 hP hD hS => ?_)
  obtain rfl := q_sameJ hK2
  have hP : va_P (dC, dI) vwCl [(h0, .inr (1, [.ref q1, .ref q2, .ref q3, .ref q4, .null, .int 0, .int 0])), (q1, .inl (cI, 7, .inl (fun _ => 0))), (q2, .inl (cI, 7, .inl (fun _ => 0))), (q3, .inl (cI, 8, .inl (fun _ => 0))), (q4, .inl (cI, 8, .inl (fun _ => 0))), (q5, .inl (cJ, 8, .inr (.inl (fun _ => 0))))] H := hP
  have hD : va_D A [(h0, .inr (1, [.ref q1, .ref q2, .ref q3, .ref q4, .null, .int 0, .int 0])), (q1, .inl (cI, 7, .inl (fun _ => 0))), (q2, .inl (cI, 7, .inl (fun _ => 0))), (q3, .inl (cI, 8, .inl (fun _ => 0))), (q4, .inl (cI, 8, .inl (fun _ => 0))), (q5, .inl (cJ, 8, .inr (.inl (fun _ => 0))))] := hD
  refine va_putF (D := (dC, dI)) (ci := 1) (v := .ref q5) (ty := .array .long) (C := RX1) (T := TX1) (N := 7) hx hb hts hi1 tyX1 tyX1_ok nmX1 hown hK hP hD hS 0 rfl rfl 4 (by decide) (hts (.fieldLink RX1 24 RX1 "forms" "[J") (by decide +kernel)) (fun _ h9 => h9) rfl hin rfl (by decide +kernel) rfl rfl (Nat.le_of_ble_eq_true rfl) dX1_init_41 (fun H locs hP hD hS => ?_)
  have hP : va_P (dC, dI) vwCl [(h0, .inr (1, [.ref q1, .ref q2, .ref q3, .ref q4, .ref q5, .int 0, .int 0])), (q1, .inl (cI, 7, .inl (fun _ => 0))), (q2, .inl (cI, 7, .inl (fun _ => 0))), (q3, .inl (cI, 8, .inl (fun _ => 0))), (q4, .inl (cI, 8, .inl (fun _ => 0))), (q5, .inl (cJ, 8, .inr (.inl (fun _ => 0))))] H := hP
  have hD : va_D A [(h0, .inr (1, [.ref q1, .ref q2, .ref q3, .ref q4, .ref q5, .int 0, .int 0])), (q1, .inl (cI, 7, .inl (fun _ => 0))), (q2, .inl (cI, 7, .inl (fun _ => 0))), (q3, .inl (cI, 8, .inl (fun _ => 0))), (q4, .inl (cI, 8, .inl (fun _ => 0))), (q5, .inl (cJ, 8, .inr (.inl (fun _ => 0))))] := hD
  have hP9 := hP.sub (ws' := (wBk h0 q1 q2 q3 q4 q5 cI cJ ((fun _ => 0), (fun _ => 0), (fun _ => 0), (fun _ => 0), (fun _ => 0), 0, 0))) [0, 1, 2, 3, 4, 5] rfl
  have hD9 := hD.sub (ws' := (wBk h0 q1 q2 q3 q4 q5 cI cJ ((fun _ => 0), (fun _ => 0), (fun _ => 0), (fun _ => 0), (fun _ => 0), 0, 0))) [0, 1, 2, 3, 4, 5] (by decide) rfl
  refine W.widen (k := 5) (n := 38) (Nat.le_of_ble_eq_true rfl) (Nat.le_of_ble_eq_true rfl) ?_
  exact W.vret hx hb hr (fun t ht hW => ⟨⟨(q1, q2, q3, q4, q5), rfl, trivial, ⟨by rw [ht]; exact hP9, va_K.moved hW.alike hK, hD9⟩⟩, hS.F ht⟩) hS.2.2 dX1_init_44
set_option maxHeartbeats 4000000 in
set_option maxRecDepth 100000 in
theorem c_X2_init (l : Launch) (dC : Nat → ClassId) (dI : Nat → Nat → Nat) (cI cJ : ClassId) (h0 sz : Nat) : Met l yX2_init wsX2_init ({ frames := 1, cells := 3, slots := 520, locals := 12 } : Room) (va_Pc [.ref h0] (q_W (dC, dI) vwCl [(h0, .inr (2, [.null, .null, .null, .long 0, .long 0, .int 0, .int 0, .int 0]))] (q_ty cI cJ) sz)) (va_Qv (S := Nat × Nat × Nat) (fun _ => True) (fun u => q_E (dC, dI) vwCl (wPl h0 u.1 u.2.1 u.2.2 cI ((fun _ => 0), (fun _ => 0), (fun _ => 0), 0, 0, 0, 0, -1)) (q_ty cI cJ) (va_A [(h0, .inr (2, [.null, .null, .null, .long 0, .long 0, .int 0, .int 0, .int 0]))] sz)) (va_A [(h0, .inr (2, [.null, .null, .null, .long 0, .long 0, .int 0, .int 0, .int 0]))] sz)) 3 520 (va_A [(h0, .inr (2, [.null, .null, .null, .long 0, .long 0, .int 0, .int 0, .int 0]))] sz) := by
  refine Met.ofW (cc := cX2_init) (maxL := 1) (ret := none) (by decide) rfl ?_
  intro p e s m args below meth c s₁ BB hml hv
  obtain ⟨rfl, hsz, hP, hK, hn, hD0⟩ := hv
  have hx := BB.exec
  have hb := BB.bytes
  have hr := BB.returns
  have hts := atoms_spec (ws := wsX2_init) BB.pre
  have hown : s.vm.findClass RX2 = some m.cls := findClass_of_methodNamed BB.named
  have hlocks := BB.notSynchronized
  have hin : meth.name = "<init>" := (name_of_methodNamed BB.named BB.method).1
  subst hsz
  have hD := hD0.self (sz := s.heap.size)
  generalize hAe : va_A [(h0, .inr (2, [.null, .null, .null, .long 0, .long 0, .int 0, .int 0, .int 0]))] s.heap.size = A at hD ⊢
  have hA : ∀ q : Nat, s.heap.size ≤ q → A q := fun q h => by rw [← hAe]; exact Or.inr h
  have hS : va_S A s.heap s.heap [] := va_S.rf
  have hi2 : ∀ w ∈ u_ws RX2 TX2 8, w ∈ wsX2_init := by decide +kernel
  have hl := lv_entry [.ref h0] (n := 1) (Nat.le_of_ble_eq_true rfl)
  rw [lg_entry_eq]
  generalize (lg_sl [.ref h0] ++ List.replicate (1 - (lg_sl [.ref h0]).length) Slot.unset).toArray = ls at hl ⊢
  have hl : lv_has ls 1 [(0, .ref h0)] := hl
  refine lv_aload_n hx hb dX2_init_0 rfl (lv_at hl 0 rfl) ?_
  refine W.objInit hx hb hown (hts (.methodLink RX2 3 objectInit) (by decide +kernel)) (hts (.instanceMethod objectInit) (by decide +kernel)) (hts _ (List.mem_cons_of_mem _ (List.mem_append_left _ (List.mem_of_getElem? (i := 2) rfl)))) rfl (by rw [hml]; exact hl.1) rfl dX2_init_1 (Nat.le_of_ble_eq_true rfl) (Nat.le_of_ble_eq_true rfl) ?_
  refine W.eq (g2 := F0 m 4 ls []) rfl ?_
  refine lv_aload_n hx hb dX2_init_4 rfl (lv_at hl 0 rfl) ?_
  refine lv_sipush (v := 256) hx hb dX2_init_5 (by decide) ?_
  refine va_newa (atype := .int) (ty := .int) (a0 := (256, .inl (fun _ => 0))) (N' := 256) hx hb (hts (.arrayClass .int) (by decide +kernel)) rfl hK hP hD hS hA (fun _ => rfl) (by decide) (by decide) (by decide) (Nat.le_of_ble_eq_true rfl) (Nat.le_of_ble_eq_true rfl) dX2_init_8 (fun q1 cA H hK2 hP hD hS => ?_)
  obtain rfl := q_sameI hK2
  have hP : va_P (dC, dI) vwCl [(h0, .inr (2, [.null, .null, .null, .long 0, .long 0, .int 0, .int 0, .int 0])), (q1, .inl (cI, 256, .inl (fun _ => 0)))] H := hP
  have hD : va_D A [(h0, .inr (2, [.null, .null, .null, .long 0, .long 0, .int 0, .int 0, .int 0])), (q1, .inl (cI, 256, .inl (fun _ => 0)))] := hD
  refine va_putF (D := (dC, dI)) (ci := 2) (v := .ref q1) (ty := .array .int) (C := RX2) (T := TX2) (N := 8) hx hb hts hi2 tyX2 tyX2_ok nmX2 hown hK hP hD hS 0 rfl rfl 0 (by decide) (hts (.fieldLink RX2 9 RX2 "stepsLeft" "[I") (by decide +kernel)) (fun _ h9 => h9) rfl hin rfl (by decide +kernel) rfl rfl (Nat.le_of_ble_eq_true rfl) dX2_init_10 (fun H locs hP hD hS => ?_)
  have hP : va_P (dC, dI) vwCl [(h0, .inr (2, [.ref q1, .null, .null, .long 0, .long 0, .int 0, .int 0, .int 0])), (q1, .inl (cI, 256, .inl (fun _ => 0)))] H := hP
  have hD : va_D A [(h0, .inr (2, [.ref q1, .null, .null, .long 0, .long 0, .int 0, .int 0, .int 0])), (q1, .inl (cI, 256, .inl (fun _ => 0)))] := hD
  refine lv_aload_n hx hb dX2_init_13 rfl (lv_at hl 0 rfl) ?_
  refine lv_sipush (v := 256) hx hb dX2_init_14 (by decide) ?_
  refine va_newa (atype := .int) (ty := .int) (a0 := (256, .inl (fun _ => 0))) (N' := 256) hx hb (hts (.arrayClass .int) (by decide +kernel)) rfl hK hP hD hS hA (fun _ => rfl) (by decide) (by decide) (by decide) (Nat.le_of_ble_eq_true rfl) (Nat.le_of_ble_eq_true rfl) dX2_init_17 (fun q2 cA H hK2 hP hD hS => ?_)
  obtain rfl := q_sameI hK2
  have hP : va_P (dC, dI) vwCl [(h0, .inr (2, [.ref q1, .null, .null, .long 0, .long 0, .int 0, .int 0, .int 0])), (q1, .inl (cI, 256, .inl (fun _ => 0))), (q2, .inl (cI, 256, .inl (fun _ => 0)))] H := hP
  have hD : va_D A [(h0, .inr (2, [.ref q1, .null, .null, .long 0, .long 0, .int 0, .int 0, .int 0])), (q1, .inl (cI, 256, .inl (fun _ => 0))), (q2, .inl (cI, 256, .inl (fun _ => 0)))] := hD
  refine va_putF (D := (dC, dI)) (ci := 2) (v := .ref q2) (ty := .array .int) (C := RX2) (T := TX2) (N := 8) hx hb hts hi2 tyX2 tyX2_ok nmX2 hown hK hP hD hS 0 rfl rfl 1 (by decide) (hts (.fieldLink RX2 15 RX2 "dotsIn" "[I") (by decide +kernel)) (fun _ h9 => h9) rfl hin rfl (by decide +kernel) rfl rfl (Nat.le_of_ble_eq_true rfl) dX2_init_19 (fun H locs hP hD hS => ?_)
  have hP : va_P (dC, dI) vwCl [(h0, .inr (2, [.ref q1, .ref q2, .null, .long 0, .long 0, .int 0, .int 0, .int 0])), (q1, .inl (cI, 256, .inl (fun _ => 0))), (q2, .inl (cI, 256, .inl (fun _ => 0)))] H := hP
  have hD : va_D A [(h0, .inr (2, [.ref q1, .ref q2, .null, .long 0, .long 0, .int 0, .int 0, .int 0])), (q1, .inl (cI, 256, .inl (fun _ => 0))), (q2, .inl (cI, 256, .inl (fun _ => 0)))] := hD
  refine lv_aload_n hx hb dX2_init_22 rfl (lv_at hl 0 rfl) ?_
  refine lv_bipush (v := 8) hx hb dX2_init_23 (by decide) ?_
  refine va_newa (atype := .int) (ty := .int) (a0 := (8, .inl (fun _ => 0))) (N' := 8) hx hb (hts (.arrayClass .int) (by decide +kernel)) rfl hK hP hD hS hA (fun _ => rfl) (by decide) (by decide) (by decide) (Nat.le_of_ble_eq_true rfl) (Nat.le_of_ble_eq_true rfl) dX2_init_25 (fun q3 cA H hK2 hP hD hS => ?_)
  obtain rfl := q_sameI hK2
  have hP : va_P (dC, dI) vwCl [(h0, .inr (2, [.ref q1, .ref q2, .null, .long 0, .long 0, .int 0, .int 0, .int 0])), (q1, .inl (cI, 256, .inl (fun _ => 0))), (q2, .inl (cI, 256, .inl (fun _ => 0))), (q3, .inl (cI, 8, .inl (fun _ => 0)))] H := hP
  have hD : va_D A [(h0, .inr (2, [.ref q1, .ref q2, .null, .long 0, .long 0, .int 0, .int 0, .int 0])), (q1, .inl (cI, 256, .inl (fun _ => 0))), (q2, .inl (cI, 256, .inl (fun _ => 0))), (q3, .inl (cI, 8, .inl (fun _ => 0)))] := hD
  refine va_putF (D := (dC, dI)) (ci := 2) (v := .ref q3) (ty := .array .int) (C := RX2) (T := TX2) (N := 8) hx hb hts hi2 tyX2 tyX2_ok nmX2 hown hK hP hD hS 0 rfl rfl 2 (by decide) (hts (.fieldLink RX2 18 RX2 "plan" "[I") (by decide +kernel)) (fun _ h9 => h9) rfl hin rfl (by decide +kernel) rfl rfl (Nat.le_of_ble_eq_true rfl) dX2_init_27 (fun H locs hP hD hS => ?_)
  have hP : va_P (dC, dI) vwCl [(h0, .inr (2, [.ref q1, .ref q2, .ref q3, .long 0, .long 0, .int 0, .int 0, .int 0])), (q1, .inl (cI, 256, .inl (fun _ => 0))), (q2, .inl (cI, 256, .inl (fun _ => 0))), (q3, .inl (cI, 8, .inl (fun _ => 0)))] H := hP
  have hD : va_D A [(h0, .inr (2, [.ref q1, .ref q2, .ref q3, .long 0, .long 0, .int 0, .int 0, .int 0])), (q1, .inl (cI, 256, .inl (fun _ => 0))), (q2, .inl (cI, 256, .inl (fun _ => 0))), (q3, .inl (cI, 8, .inl (fun _ => 0)))] := hD
  refine lv_aload_n hx hb dX2_init_30 rfl (lv_at hl 0 rfl) ?_
  refine lv_iconst (v := (-1)) hx hb dX2_init_31 (by decide) ?_
  refine va_put (D := (dC, dI)) (ci := 2) (v := .int (-1)) (ty := .int) (C := RX2) (T := TX2) (N := 8) hx hb hts hi2 tyX2 tyX2_ok nmX2 hown hK hP hD hS 0 rfl rfl 7 (by decide) (hts (.fieldLink RX2 21 RX2 "steps" "I") (by decide +kernel)) (fun _ h9 => h9) rfl (by decide +kernel) rfl rfl (Nat.le_of_ble_eq_true rfl) dX2_init_32 (fun H locs hP hD hS => ?_)
  have hP : va_P (dC, dI) vwCl [(h0, .inr (2, [.ref q1, .ref q2, .ref q3, .long 0, .long 0, .int 0, .int 0, .int (-1)])), (q1, .inl (cI, 256, .inl (fun _ => 0))), (q2, .inl (cI, 256, .inl (fun _ => 0))), (q3, .inl (cI, 8, .inl (fun _ => 0)))] H := hP
  have hD : va_D A [(h0, .inr (2, [.ref q1, .ref q2, .ref q3, .long 0, .long 0, .int 0, .int 0, .int (-1)])), (q1, .inl (cI, 256, .inl (fun _ => 0))), (q2, .inl (cI, 256, .inl (fun _ => 0))), (q3, .inl (cI, 8, .inl (fun _ => 0)))] := hD
  have hP9 := hP.sub (ws' := (wPl h0 q1 q2 q3 cI ((fun _ => 0), (fun _ => 0), (fun _ => 0), 0, 0, 0, 0, -1))) [0, 1, 2, 3] rfl
  have hD9 := hD.sub (ws' := (wPl h0 q1 q2 q3 cI ((fun _ => 0), (fun _ => 0), (fun _ => 0), 0, 0, 0, 0, -1))) [0, 1, 2, 3] (by decide) rfl
  refine W.widen (k := 3) (n := 520) (Nat.le_of_ble_eq_true rfl) (Nat.le_of_ble_eq_true rfl) ?_
  exact W.vret hx hb hr (fun t ht hW => ⟨⟨(q1, q2, q3), rfl, trivial, ⟨by rw [ht]; exact hP9, va_K.moved hW.alike hK, hD9⟩⟩, hS.F ht⟩) hS.2.2 dX2_init_35
set_option maxHeartbeats 4000000 in
set_option maxRecDepth 100000 in
theorem c_X4_init (l : Launch) (dC : Nat → ClassId) (dI : Nat → Nat → Nat) (cI cJ : ClassId) (h0 sz : Nat) : Met l yX4_init wsX4_init ({ frames := 1, cells := 0, slots := 0, locals := 12 } : Room) (va_Pc [.ref h0] (q_W (dC, dI) vwCl [(h0, .inr (4, [.int 0, .int 0, .int 0, .int 0, .int 0]))] (q_ty cI cJ) sz)) (va_Qv (S := Unit) (fun _ => True) (fun u => q_E (dC, dI) vwCl (wWi h0  (0, 0, 0, 0, 7)) (q_ty cI cJ) (va_A [(h0, .inr (4, [.int 0, .int 0, .int 0, .int 0, .int 0]))] sz)) (va_A [(h0, .inr (4, [.int 0, .int 0, .int 0, .int 0, .int 0]))] sz)) 0 0 (va_A [(h0, .inr (4, [.int 0, .int 0, .int 0, .int 0, .int 0]))] sz) := by
  refine Met.ofW (cc := cX4_init) (maxL := 1) (ret := none) (by decide) rfl ?_
  intro p e s m args below meth c s₁ BB hml hv
  obtain ⟨rfl, hsz, hP, hK, hn, hD0⟩ := hv
  have hx := BB.exec
  have hb := BB.bytes
  have hr := BB.returns
  have hts := atoms_spec (ws := wsX4_init) BB.pre
  have hown : s.vm.findClass RX4 = some m.cls := findClass_of_methodNamed BB.named
  have hlocks := BB.notSynchronized
  have hin : meth.name = "<init>" := (name_of_methodNamed BB.named BB.method).1
  subst hsz
  have hD := hD0.self (sz := s.heap.size)
  generalize hAe : va_A [(h0, .inr (4, [.int 0, .int 0, .int 0, .int 0, .int 0]))] s.heap.size = A at hD ⊢
  have hA : ∀ q : Nat, s.heap.size ≤ q → A q := fun q h => by rw [← hAe]; exact Or.inr h
  have hS : va_S A s.heap s.heap [] := va_S.rf
  have hi4 : ∀ w ∈ u_ws RX4 TX4 5, w ∈ wsX4_init := by decide +kernel
  have hl := lv_entry [.ref h0] (n := 1) (Nat.le_of_ble_eq_true rfl)
  rw [lg_entry_eq]
  generalize (lg_sl [.ref h0] ++ List.replicate (1 - (lg_sl [.ref h0]).length) Slot.unset).toArray = ls at hl ⊢
  have hl : lv_has ls 1 [(0, .ref h0)] := hl
  refine lv_aload_n hx hb dX4_init_0 rfl (lv_at hl 0 rfl) ?_
  refine W.objInit hx hb hown (hts (.methodLink RX4 3 objectInit) (by decide +kernel)) (hts (.instanceMethod objectInit) (by decide +kernel)) (hts _ (List.mem_cons_of_mem _ (List.mem_append_left _ (List.mem_of_getElem? (i := 2) rfl)))) rfl (by rw [hml]; exact hl.1) rfl dX4_init_1 (Nat.le_of_ble_eq_true rfl) (Nat.le_of_ble_eq_true rfl) ?_
  refine W.eq (g2 := F0 m 4 ls []) rfl ?_
  refine lv_aload_n hx hb dX4_init_4 rfl (lv_at hl 0 rfl) ?_
  refine lv_bipush (v := 7) hx hb dX4_init_5 (by decide) ?_
  refine va_put (D := (dC, dI)) (ci := 4) (v := .int 7) (ty := .int) (C := RX4) (T := TX4) (N := 5) hx hb hts hi4 tyX4 tyX4_ok nmX4 hown hK hP hD hS 0 rfl rfl 4 (by decide) (hts (.fieldLink RX4 9 RX4 "lastNumber" "I") (by decide +kernel)) (fun _ h9 => h9) rfl (by decide +kernel) rfl rfl (Nat.le_of_ble_eq_true rfl) dX4_init_7 (fun H locs hP hD hS => ?_)
  have hP : va_P (dC, dI) vwCl [(h0, .inr (4, [.int 0, .int 0, .int 0, .int 0, .int 7]))] H := hP
  have hD : va_D A [(h0, .inr (4, [.int 0, .int 0, .int 0, .int 0, .int 7]))] := hD
  have hP9 := hP.sub (ws' := (wWi h0  (0, 0, 0, 0, 7))) [0] rfl
  have hD9 := hD.sub (ws' := (wWi h0  (0, 0, 0, 0, 7))) [0] (by decide) rfl
  refine W.widen (k := 0) (n := 0) (Nat.le_of_ble_eq_true rfl) (Nat.le_of_ble_eq_true rfl) ?_
  exact W.vret hx hb hr (fun t ht hW => ⟨⟨(), rfl, trivial, ⟨by rw [ht]; exact hP9, va_K.moved hW.alike hK, hD9⟩⟩, hS.F ht⟩) hS.2.2 dX4_init_10
set_option maxHeartbeats 4000000 in
set_option maxRecDepth 100000 in
theorem c_X3_init (l : Launch) (dC : Nat → ClassId) (dI : Nat → Nat → Nat) (cI cJ : ClassId) (h0 sz : Nat) : Met l yX3_init wsX3_init ({ frames := 1, cells := 2, slots := 12, locals := 12 } : Room) (va_Pc [.ref h0] (q_W (dC, dI) vwCl [(h0, .inr (3, [.null, .null, .int 0, .int 0, .int 0]))] (q_ty cI cJ) sz)) (va_Qv (S := Nat × Nat) (fun _ => True) (fun u => q_E (dC, dI) vwCl (wRt h0 u.1 u.2 cI ((fun _ => 0), (fun _ => 0), 0, 0, 0)) (q_ty cI cJ) (va_A [(h0, .inr (3, [.null, .null, .int 0, .int 0, .int 0]))] sz)) (va_A [(h0, .inr (3, [.null, .null, .int 0, .int 0, .int 0]))] sz)) 2 12 (va_A [(h0, .inr (3, [.null, .null, .int 0, .int 0, .int 0]))] sz) := by
  refine Met.ofW (cc := cX3_init) (maxL := 1) (ret := none) (by decide) rfl ?_
  intro p e s m args below meth c s₁ BB hml hv
  obtain ⟨rfl, hsz, hP, hK, hn, hD0⟩ := hv
  have hx := BB.exec
  have hb := BB.bytes
  have hr := BB.returns
  have hts := atoms_spec (ws := wsX3_init) BB.pre
  have hown : s.vm.findClass RX3 = some m.cls := findClass_of_methodNamed BB.named
  have hlocks := BB.notSynchronized
  have hin : meth.name = "<init>" := (name_of_methodNamed BB.named BB.method).1
  subst hsz
  have hD := hD0.self (sz := s.heap.size)
  generalize hAe : va_A [(h0, .inr (3, [.null, .null, .int 0, .int 0, .int 0]))] s.heap.size = A at hD ⊢
  have hA : ∀ q : Nat, s.heap.size ≤ q → A q := fun q h => by rw [← hAe]; exact Or.inr h
  have hS : va_S A s.heap s.heap [] := va_S.rf
  have hi3 : ∀ w ∈ u_ws RX3 TX3 5, w ∈ wsX3_init := by decide +kernel
  have hl := lv_entry [.ref h0] (n := 1) (Nat.le_of_ble_eq_true rfl)
  rw [lg_entry_eq]
  generalize (lg_sl [.ref h0] ++ List.replicate (1 - (lg_sl [.ref h0]).length) Slot.unset).toArray = ls at hl ⊢
  have hl : lv_has ls 1 [(0, .ref h0)] := hl
  refine lv_aload_n hx hb dX3_init_0 rfl (lv_at hl 0 rfl) ?_
  refine W.objInit hx hb hown (hts (.methodLink RX3 3 objectInit) (by decide +kernel)) (hts (.instanceMethod objectInit) (by decide +kernel)) (hts _ (List.mem_cons_of_mem _ (List.mem_append_left _ (List.mem_of_getElem? (i := 2) rfl)))) rfl (by rw [hml]; exact hl.1) rfl dX3_init_1 (Nat.le_of_ble_eq_true rfl) (Nat.le_of_ble_eq_true rfl) ?_
  refine W.eq (g2 := F0 m 4 ls []) rfl ?_
  refine lv_aload_n hx hb dX3_init_4 rfl (lv_at hl 0 rfl) ?_
  refine lv_bipush (v := 6) hx hb dX3_init_5 (by decide) ?_
  refine va_newa (atype := .int) (ty := .int) (a0 := (6, .inl (fun _ => 0))) (N' := 6) hx hb (hts (.arrayClass .int) (by decide +kernel)) rfl hK hP hD hS hA (fun _ => rfl) (by decide) (by decide) (by decide) (Nat.le_of_ble_eq_true rfl) (Nat.le_of_ble_eq_true rfl) dX3_init_7 (fun q1 cA H hK2 hP hD hS => ?_)
  obtain rfl := q_sameI hK2
  have hP : va_P (dC, dI) vwCl [(h0, .inr (3, [.null, .null, .int 0, .int 0, .int 0])), (q1, .inl (cI, 6, .inl (fun _ => 0)))] H := hP
  have hD : va_D A [(h0, .inr (3, [.null, .null, .int 0, .int 0, .int 0])), (q1, .inl (cI, 6, .inl (fun _ => 0)))] := hD
  refine va_putF (D := (dC, dI)) (ci := 3) (v := .ref q1) (ty := .array .int) (C := RX3) (T := TX3) (N := 5) hx hb hts hi3 tyX3 tyX3_ok nmX3 hown hK hP hD hS 0 rfl rfl 0 (by decide) (hts (.fieldLink RX3 9 RX3 "ways" "[I") (by decide +kernel)) (fun _ h9 => h9) rfl hin rfl (by decide +kernel) rfl rfl (Nat.le_of_ble_eq_true rfl) dX3_init_9 (fun H locs hP hD hS => ?_)
  have hP : va_P (dC, dI) vwCl [(h0, .inr (3, [.ref q1, .null, .int 0, .int 0, .int 0])), (q1, .inl (cI, 6, .inl (fun _ => 0)))] H := hP
  have hD : va_D A [(h0, .inr (3, [.ref q1, .null, .int 0, .int 0, .int 0])), (q1, .inl (cI, 6, .inl (fun _ => 0)))] := hD
  refine lv_aload_n hx hb dX3_init_12 rfl (lv_at hl 0 rfl) ?_
  refine lv_bipush (v := 6) hx hb dX3_init_13 (by decide) ?_
  refine va_newa (atype := .int) (ty := .int) (a0 := (6, .inl (fun _ => 0))) (N' := 6) hx hb (hts (.arrayClass .int) (by decide +kernel)) rfl hK hP hD hS hA (fun _ => rfl) (by decide) (by decide) (by decide) (Nat.le_of_ble_eq_true rfl) (Nat.le_of_ble_eq_true rfl) dX3_init_15 (fun q2 cA H hK2 hP hD hS => ?_)
  obtain rfl := q_sameI hK2
  have hP : va_P (dC, dI) vwCl [(h0, .inr (3, [.ref q1, .null, .int 0, .int 0, .int 0])), (q1, .inl (cI, 6, .inl (fun _ => 0))), (q2, .inl (cI, 6, .inl (fun _ => 0)))] H := hP
  have hD : va_D A [(h0, .inr (3, [.ref q1, .null, .int 0, .int 0, .int 0])), (q1, .inl (cI, 6, .inl (fun _ => 0))), (q2, .inl (cI, 6, .inl (fun _ => 0)))] := hD
  refine va_putF (D := (dC, dI)) (ci := 3) (v := .ref q2) (ty := .array .int) (C := RX3) (T := TX3) (N := 5) hx hb hts hi3 tyX3 tyX3_ok nmX3 hown hK hP hD hS 0 rfl rfl 1 (by decide) (hts (.fieldLink RX3 15 RX3 "linesOfStops" "[I") (by decide +kernel)) (fun _ h9 => h9) rfl hin rfl (by decide +kernel) rfl rfl (Nat.le_of_ble_eq_true rfl) dX3_init_17 (fun H locs hP hD hS => ?_)
  have hP : va_P (dC, dI) vwCl [(h0, .inr (3, [.ref q1, .ref q2, .int 0, .int 0, .int 0])), (q1, .inl (cI, 6, .inl (fun _ => 0))), (q2, .inl (cI, 6, .inl (fun _ => 0)))] H := hP
  have hD : va_D A [(h0, .inr (3, [.ref q1, .ref q2, .int 0, .int 0, .int 0])), (q1, .inl (cI, 6, .inl (fun _ => 0))), (q2, .inl (cI, 6, .inl (fun _ => 0)))] := hD
  have hP9 := hP.sub (ws' := (wRt h0 q1 q2 cI ((fun _ => 0), (fun _ => 0), 0, 0, 0))) [0, 1, 2] rfl
  have hD9 := hD.sub (ws' := (wRt h0 q1 q2 cI ((fun _ => 0), (fun _ => 0), 0, 0, 0))) [0, 1, 2] (by decide) rfl
  refine W.widen (k := 2) (n := 12) (Nat.le_of_ble_eq_true rfl) (Nat.le_of_ble_eq_true rfl) ?_
  exact W.vret hx hb hr (fun t ht hW => ⟨⟨(q1, q2), rfl, trivial, ⟨by rw [ht]; exact hP9, va_K.moved hW.alike hK, hD9⟩⟩, hS.F ht⟩) hS.2.2 dX3_init_20
set_option maxHeartbeats 4000000 in
set_option maxRecDepth 100000 in
theorem c_X5_init (l : Launch) (dC : Nat → ClassId) (dI : Nat → Nat → Nat) (cI cJ : ClassId) (h0 sz : Nat) : Met l yX5_init wsX5_init ({ frames := 2, cells := 17, slots := 649, locals := 32 } : Room) (va_Pc [.ref h0] (q_W (dC, dI) vwCl [(h0, .inr (5, [.null, .null, .null, .null, .null, .int 0, .int 0, .int 0, .int 0]))] (q_ty cI cJ) sz)) (va_Qv (S := Nat → Nat) (fun u => u 0 = h0) (fun u => q_E (dC, dI) vwCl (wSg u cI cJ (10, 3, 0, -1) ((fun _ => 0), (fun _ => 0), 8, 0, 0, 0) ((fun _ => 0), (fun _ => 0), (fun _ => 0), (fun _ => 0), (fun _ => 0), 0, 0) ((fun _ => 0), (fun _ => 0), (fun _ => 0), 0, 0, 0, 0, -1) (0, 0, 0, 0, 7) ((fun _ => 0), (fun _ => 0), 0, 0, 0)) (q_ty cI cJ) (va_A [(h0, .inr (5, [.null, .null, .null, .null, .null, .int 0, .int 0, .int 0, .int 0]))] sz)) (va_A [(h0, .inr (5, [.null, .null, .null, .null, .null, .int 0, .int 0, .int 0, .int 0]))] sz)) 17 649 (va_A [(h0, .inr (5, [.null, .null, .null, .null, .null, .int 0, .int 0, .int 0, .int 0]))] sz) := by
  refine Met.ofW (cc := cX5_init) (maxL := 1) (ret := none) (by decide) rfl ?_
  intro p e s m args below meth c s₁ BB hml hv
  obtain ⟨rfl, hsz, hP, hK, hn, hD0⟩ := hv
  have hx := BB.exec
  have hb := BB.bytes
  have hr := BB.returns
  have hts := atoms_spec (ws := wsX5_init) BB.pre
  have hown : s.vm.findClass RX5 = some m.cls := findClass_of_methodNamed BB.named
  have hlocks := BB.notSynchronized
  have hin : meth.name = "<init>" := (name_of_methodNamed BB.named BB.method).1
  subst hsz
  have hD := hD0.self (sz := s.heap.size)
  generalize hAe : va_A [(h0, .inr (5, [.null, .null, .null, .null, .null, .int 0, .int 0, .int 0, .int 0]))] s.heap.size = A at hD ⊢
  have hA : ∀ q : Nat, s.heap.size ≤ q → A q := fun q h => by rw [← hAe]; exact Or.inr h
  have hS : va_S A s.heap s.heap [] := va_S.rf
  have hi5 : ∀ w ∈ u_ws RX5 TX5 9, w ∈ wsX5_init := by decide +kernel
  have hi0 : ∀ w ∈ u_ws RX0 TX0 6, w ∈ wsX5_init := by decide +kernel
  have hi1 : ∀ w ∈ u_ws RX1 TX1 7, w ∈ wsX5_init := by decide +kernel
  have hi2 : ∀ w ∈ u_ws RX2 TX2 8, w ∈ wsX5_init := by decide +kernel
  have hi4 : ∀ w ∈ u_ws RX4 TX4 5, w ∈ wsX5_init := by decide +kernel
  have hi3 : ∀ w ∈ u_ws RX3 TX3 5, w ∈ wsX5_init := by decide +kernel
  have hl := lv_entry [.ref h0] (n := 1) (Nat.le_of_ble_eq_true rfl)
  rw [lg_entry_eq]
  generalize (lg_sl [.ref h0] ++ List.replicate (1 - (lg_sl [.ref h0]).length) Slot.unset).toArray = ls at hl ⊢
  have hl : lv_has ls 1 [(0, .ref h0)] := hl
  refine lv_aload_n hx hb dX5_init_0 rfl (lv_at hl 0 rfl) ?_
  refine W.objInit hx hb hown (hts (.methodLink RX5 1 objectInit) (by decide +kernel)) (hts (.instanceMethod objectInit) (by decide +kernel)) (hts (.code objectInit ⟨#[0xb1]⟩ 1 none) (List.mem_of_getElem? (i := 3) (by decide +kernel))) rfl (by rw [hml]; exact hl.1) rfl dX5_init_1 (Nat.le_of_ble_eq_true rfl) (Nat.le_of_ble_eq_true rfl) ?_
  refine W.eq (g2 := F0 m 4 ls []) rfl ?_
  refine lv_aload_n hx hb dX5_init_4 rfl (lv_at hl 0 rfl) ?_
  refine va_new (ci := 0) (fs := [.null, .null, .int 0, .long 0, .long 0, .long 0]) (C := RX0) (T := TX0) (N := 6) hx hb hts hi0 tyX0 tyX0_ok hown (hts (.classLink RX5 7 RX0) (by decide +kernel)) (hts (.instantiable RX0 6) (by decide +kernel)) (hts (.initialized RX0) (by decide +kernel)) hK hP hD hS hA rfl (fun j hj => by rcases (show j = 0 ∨ j = 1 ∨ j = 2 ∨ j = 3 ∨ j = 4 ∨ j = 5 by omega) with rfl | rfl | rfl | rfl | rfl | rfl <;> rfl) (Nat.le_of_ble_eq_true rfl) (Nat.le_of_ble_eq_true rfl) dX5_init_5 (fun q1 H hP hD hS => ?_)
  have hP : va_P (dC, dI) vwCl [(h0, .inr (5, [.null, .null, .null, .null, .null, .int 0, .int 0, .int 0, .int 0])), (q1, .inr (0, [.null, .null, .int 0, .long 0, .long 0, .long 0]))] H := hP
  have hD : va_D A [(h0, .inr (5, [.null, .null, .null, .null, .null, .int 0, .int 0, .int 0, .int 0])), (q1, .inr (0, [.null, .null, .int 0, .long 0, .long 0, .long 0]))] := hD
  refine lv_dup hx hb dX5_init_8 rfl ?_
  have hPc := hP.sub (ws' := [(q1, .inr (0, [.null, .null, .int 0, .long 0, .long 0, .long 0]))]) [1] rfl
  have hDc := hD.sub (ws' := [(q1, .inr (0, [.null, .null, .int 0, .long 0, .long 0, .long 0]))]) [1] (by decide) rfl
  have hFc := va_free (wc := [(q1, .inr (0, [.null, .null, .int 0, .long 0, .long 0, .long 0]))]) hD hS hA [1] rfl
  refine va_callv (va_runIN (As := []) (rest := [.ref q1, .ref h0]) ⟨hx, hb, hml, hown, hts⟩ (c_X0_init l dC dI cI cJ q1 H.size) ⟨va_cnB 0 hts gX5_init_X0_init_n9 rfl rfl rfl (nm_RX5_9 hn) (hts (.initialized RX0) (by decide +kernel)) (by decide +kernel) ⟨(Nat.le_of_ble_eq_true rfl), (Nat.le_of_ble_eq_true rfl)⟩, rfl, hts (.instanceMethod yX0_init) (by decide +kernel)⟩ ⟨q_Wblind, q_Wpre hPc hK hn hDc⟩ rfl rfl hl.1 rfl (lv_room (Nat.le_of_ble_eq_true rfl)) dX5_init_9 ⟨(Nat.le_of_ble_eq_true rfl), (Nat.le_of_ble_eq_true rfl)⟩) hS (fun q _ h => hFc q h) hFc (fun u t H1 locs ht hvm hw hB hz1 hk1 hS => ?_)
  obtain ⟨q2, q3⟩ := u
  obtain ⟨hP1, hK1, hD1⟩ := hB
  rw [ht] at hP1
  obtain ⟨hP, hD⟩ := va_join (wr := [(h0, .inr (5, [.null, .null, .null, .null, .null, .int 0, .int 0, .int 0, .int 0]))]) (w1 := [(q1, .inr (0, [.ref q2, .ref q3, .int 8, .long 0, .long 0, .long 0])), (q2, .inl (cI, 40, .inl (fun _ => 0))), (q3, .inl (cI, 8, .inl (fun _ => 0)))]) hP hD [1] [0] rfl rfl (by decide) (by decide) hk1 hFc hP1 hD1
  generalize H1 = H at hP hS ⊢
  have hP : va_P (dC, dI) vwCl [(h0, .inr (5, [.null, .null, .null, .null, .null, .int 0, .int 0, .int 0, .int 0])), (q1, .inr (0, [.ref q2, .ref q3, .int 8, .long 0, .long 0, .long 0])), (q2, .inl (cI, 40, .inl (fun _ => 0))), (q3, .inl (cI, 8, .inl (fun _ => 0)))] H := hP
  have hD : va_D A [(h0, .inr (5, [.null, .null, .null, .null, .null, .int 0, .int 0, .int 0, .int 0])), (q1, .inr (0, [.ref q2, .ref q3, .int 8, .long 0, .long 0, .long 0])), (q2, .inl (cI, 40, .inl (fun _ => 0))), (q3, .inl (cI, 8, .inl (fun _ => 0)))] := hD
  refine va_putF (D := (dC, dI)) (ci := 5) (v := .ref q1) (ty := .object "Flapline$Board") (C := RX5) (T := TX5) (N := 9) hx hb hts hi5 tyX5 tyX5_ok nmX5 hown hK hP hD hS 0 rfl rfl 0 (by decide) (hts (.fieldLink RX5 10 RX5 "board" "LFlapline$Board;") (by decide +kernel)) (fun _ h9 => h9) rfl hin rfl (by decide +kernel) rfl rfl (Nat.le_of_ble_eq_true rfl) dX5_init_12 (fun H locs hP hD hS => ?_)
  have hP : va_P (dC, dI) vwCl [(h0, .inr (5, [.ref q1, .null, .null, .null, .null, .int 0, .int 0, .int 0, .int 0])), (q1, .inr (0, [.ref q2, .ref q3, .int 8, .long 0, .long 0, .long 0])), (q2, .inl (cI, 40, .inl (fun _ => 0))), (q3, .inl (cI, 8, .inl (fun _ => 0)))] H := hP
  have hD : va_D A [(h0, .inr (5, [.ref q1, .null, .null, .null, .null, .int 0, .int 0, .int 0, .int 0])), (q1, .inr (0, [.ref q2, .ref q3, .int 8, .long 0, .long 0, .long 0])), (q2, .inl (cI, 40, .inl (fun _ => 0))), (q3, .inl (cI, 8, .inl (fun _ => 0)))] := hD
  refine lv_aload_n hx hb dX5_init_15 rfl (lv_at hl 0 rfl) ?_
  refine va_new (ci := 1) (fs := [.null, .null, .null, .null, .null, .int 0, .int 0]) (C := RX1) (T := TX1) (N := 7) hx hb hts hi1 tyX1 tyX1_ok hown (hts (.classLink RX5 16 RX1) (by decide +kernel)) (hts (.instantiable RX1 7) (by decide +kernel)) (hts (.initialized RX1) (by decide +kernel)) hK hP hD hS hA rfl (fun j hj => by rcases (show j = 0 ∨ j = 1 ∨ j = 2 ∨ j = 3 ∨ j = 4 ∨ j = 5 ∨ j = 6 by omega) with rfl | rfl | rfl | rfl | rfl | rfl | rfl <;> rfl) (Nat.le_of_ble_eq_true rfl) (Nat.le_of_ble_eq_true rfl) dX5_init_16 (fun q4 H hP hD hS => ?_)
  have hP : va_P (dC, dI) vwCl [(h0, .inr (5, [.ref q1, .null, .null, .null, .null, .int 0, .int 0, .int 0, .int 0])), (q1, .inr (0, [.ref q2, .ref q3, .int 8, .long 0, .long 0, .long 0])), (q2, .inl (cI, 40, .inl (fun _ => 0))), (q3, .inl (cI, 8, .inl (fun _ => 0))), (q4, .inr (1, [.null, .null, .null, .null, .null, .int 0, .int 0]))] H := hP
  have hD : va_D A [(h0, .inr (5, [.ref q1, .null, .null, .null, .null, .int 0, .int 0, .int 0, .int 0])), (q1, .inr (0, [.ref q2, .ref q3, .int 8, .long 0, .long 0, .long 0])), (q2, .inl (cI, 40, .inl (fun _ => 0))), (q3, .inl (cI, 8, .inl (fun _ => 0))), (q4, .inr (1, [.null, .null, .null, .null, .null, .int 0, .int 0]))] := hD
  refine lv_dup hx hb dX5_init_19 rfl ?_
  have hPc := hP.sub (ws' := [(q4, .inr (1, [.null, .null, .null, .null, .null, .int 0, .int 0]))]) [4] rfl
  have hDc := hD.sub (ws' := [(q4, .inr (1, [.null, .null, .null, .null, .null, .int 0, .int 0]))]) [4] (by decide) rfl
  have hFc := va_free (wc := [(q4, .inr (1, [.null, .null, .null, .null, .null, .int 0, .int 0]))]) hD hS hA [4] rfl
  refine va_callv (va_runIN (As := []) (rest := [.ref q4, .ref h0]) ⟨hx, hb, hml, hown, hts⟩ (c_X1_init l dC dI cI cJ q4 H.size) ⟨va_cnB 0 hts gX5_init_X1_init_n18 rfl rfl rfl (nm_RX5_18 hn) (hts (.initialized RX1) (by decide +kernel)) (by decide +kernel) ⟨(Nat.le_of_ble_eq_true rfl), (Nat.le_of_ble_eq_true rfl)⟩, rfl, hts (.instanceMethod yX1_init) (by decide +kernel)⟩ ⟨q_Wblind, q_Wpre hPc hK hn hDc⟩ rfl rfl hl.1 rfl (lv_room (Nat.le_of_ble_eq_true rfl)) dX5_init_20 ⟨(Nat.le_of_ble_eq_true rfl), (Nat.le_of_ble_eq_true rfl)⟩) hS (fun q _ h => hFc q h) hFc (fun u t H1 locs ht hvm hw hB hz1 hk1 hS => ?_)
  obtain ⟨q5, q6, q7, q8, q9⟩ := u
  obtain ⟨hP1, hK1, hD1⟩ := hB
  rw [ht] at hP1
  obtain ⟨hP, hD⟩ := va_join (wr := [(h0, .inr (5, [.ref q1, .null, .null, .null, .null, .int 0, .int 0, .int 0, .int 0])), (q1, .inr (0, [.ref q2, .ref q3, .int 8, .long 0, .long 0, .long 0])), (q2, .inl (cI, 40, .inl (fun _ => 0))), (q3, .inl (cI, 8, .inl (fun _ => 0)))]) (w1 := [(q4, .inr (1, [.ref q5, .ref q6, .ref q7, .ref q8, .ref q9, .int 0, .int 0])), (q5, .inl (cI, 7, .inl (fun _ => 0))), (q6, .inl (cI, 7, .inl (fun _ => 0))), (q7, .inl (cI, 8, .inl (fun _ => 0))), (q8, .inl (cI, 8, .inl (fun _ => 0))), (q9, .inl (cJ, 8, .inr (.inl (fun _ => 0))))]) hP hD [4] [0, 1, 2, 3] rfl rfl (by decide) (by decide) hk1 hFc hP1 hD1
  generalize H1 = H at hP hS ⊢
  have hP : va_P (dC, dI) vwCl [(h0, .inr (5, [.ref q1, .null, .null, .null, .null, .int 0, .int 0, .int 0, .int 0])), (q1, .inr (0, [.ref q2, .ref q3, .int 8, .long 0, .long 0, .long 0])), (q2, .inl (cI, 40, .inl (fun _ => 0))), (q3, .inl (cI, 8, .inl (fun _ => 0))), (q4, .inr (1, [.ref q5, .ref q6, .ref q7, .ref q8, .ref q9, .int 0, .int 0])), (q5, .inl (cI, 7, .inl (fun _ => 0))), (q6, .inl (cI, 7, .inl (fun _ => 0))), (q7, .inl (cI, 8, .inl (fun _ => 0))), (q8, .inl (cI, 8, .inl (fun _ => 0))), (q9, .inl (cJ, 8, .inr (.inl (fun _ => 0))))] H := hP
  have hD : va_D A [(h0, .inr (5, [.ref q1, .null, .null, .null, .null, .int 0, .int 0, .int 0, .int 0])), (q1, .inr (0, [.ref q2, .ref q3, .int 8, .long 0, .long 0, .long 0])), (q2, .inl (cI, 40, .inl (fun _ => 0))), (q3, .inl (cI, 8, .inl (fun _ => 0))), (q4, .inr (1, [.ref q5, .ref q6, .ref q7, .ref q8, .ref q9, .int 0, .int 0])), (q5, .inl (cI, 7, .inl (fun _ => 0))), (q6, .inl (cI, 7, .inl (fun _ => 0))), (q7, .inl (cI, 8, .inl (fun _ => 0))), (q8, .inl (cI, 8, .inl (fun _ => 0))), (q9, .inl (cJ, 8, .inr (.inl (fun _ => 0))))] := hD
  refine va_putF (D := (dC, dI)) (ci := 5) (v := .ref q4) (ty := .object "Flapline$Book") (C := RX5) (T := TX5) (N := 9) hx hb hts hi5 tyX5 tyX5_ok nmX5 hown hK hP hD hS 0 rfl rfl 1 (by decide) (hts (.fieldLink RX5 19 RX5 "book" "LFlapline$Book;") (by decide +kernel)) (fun _ h9 => h9) rfl hin rfl (by decide +kernel) rfl rfl (Nat.le_of_ble_eq_true rfl) dX5_init_23 (fun H locs hP hD hS => ?_)
  have hP : va_P (dC, dI) vwCl [(h0, .inr (5, [.ref q1, .ref q4, .null, .null, .null, .int 0, .int 0, .int 0, .int 0])), (q1, .inr (0, [.ref q2, .ref q3, .int 8, .long 0, .long 0, .long 0])), (q2, .inl (cI, 40, .inl (fun _ => 0))), (q3, .inl (cI, 8, .inl (fun _ => 0))), (q4, .inr (1, [.ref q5, .ref q6, .ref q7, .ref q8, .ref q9, .int 0, .int 0])), (q5, .inl (cI, 7, .inl (fun _ => 0))), (q6, .inl (cI, 7, .inl (fun _ => 0))), (q7, .inl (cI, 8, .inl (fun _ => 0))), (q8, .inl (cI, 8, .inl (fun _ => 0))), (q9, .inl (cJ, 8, .inr (.inl (fun _ => 0))))] H := hP
  have hD : va_D A [(h0, .inr (5, [.ref q1, .ref q4, .null, .null, .null, .int 0, .int 0, .int 0, .int 0])), (q1, .inr (0, [.ref q2, .ref q3, .int 8, .long 0, .long 0, .long 0])), (q2, .inl (cI, 40, .inl (fun _ => 0))), (q3, .inl (cI, 8, .inl (fun _ => 0))), (q4, .inr (1, [.ref q5, .ref q6, .ref q7, .ref q8, .ref q9, .int 0, .int 0])), (q5, .inl (cI, 7, .inl (fun _ => 0))), (q6, .inl (cI, 7, .inl (fun _ => 0))), (q7, .inl (cI, 8, .inl (fun _ => 0))), (q8, .inl (cI, 8, .inl (fun _ => 0))), (q9, .inl (cJ, 8, .inr (.inl (fun _ => 0))))] := hD
  refine lv_aload_n hx hb dX5_init_26 rfl (lv_at hl 0 rfl) ?_
  refine va_new (ci := 2) (fs := [.null, .null, .null, .long 0, .long 0, .int 0, .int 0, .int 0]) (C := RX2) (T := TX2) (N := 8) hx hb hts hi2 tyX2 tyX2_ok hown (hts (.classLink RX5 23 RX2) (by decide +kernel)) (hts (.instantiable RX2 8) (by decide +kernel)) (hts (.initialized RX2) (by decide +kernel)) hK hP hD hS hA rfl (fun j hj => by rcases (show j = 0 ∨ j = 1 ∨ j = 2 ∨ j = 3 ∨ j = 4 ∨ j = 5 ∨ j = 6 ∨ j = 7 by omega) with rfl | rfl | rfl | rfl | rfl | rfl | rfl | rfl <;> rfl) (Nat.le_of_ble_eq_true rfl) (Nat.le_of_ble_eq_true rfl) dX5_init_27 (fun q10 H hP hD hS => ?_)
  have hP : va_P (dC, dI) vwCl [(h0, .inr (5, [.ref q1, .ref q4, .null, .null, .null, .int 0, .int 0, .int 0, .int 0])), (q1, .inr (0, [.ref q2, .ref q3, .int 8, .long 0, .long 0, .long 0])), (q2, .inl (cI, 40, .inl (fun _ => 0))), (q3, .inl (cI, 8, .inl (fun _ => 0))), (q4, .inr (1, [.ref q5, .ref q6, .ref q7, .ref q8, .ref q9, .int 0, .int 0])), (q5, .inl (cI, 7, .inl (fun _ => 0))), (q6, .inl (cI, 7, .inl (fun _ => 0))), (q7, .inl (cI, 8, .inl (fun _ => 0))), (q8, .inl (cI, 8, .inl (fun _ => 0))), (q9, .inl (cJ, 8, .inr (.inl (fun _ => 0)))), (q10, .inr (2, [.null, .null, .null, .long 0, .long 0, .int 0, .int 0, .int 0]))] H := hP
  have hD : va_D A [(h0, .inr (5, [.ref q1, .ref q4, .null, .null, .null, .int 0, .int 0, .int 0, .int 0])), (q1, .inr (0, [.ref q2, .ref q3, .int 8, .long 0, .long 0, .long 0])), (q2, .inl (cI, 40, .inl (fun _ => 0))), (q3, .inl (cI, 8, .inl (fun _ => 0))), (q4, .inr (1, [.ref q5, .ref q6, .ref q7, .ref q8, .ref q9, .int 0, .int 0])), (q5, .inl (cI, 7, .inl (fun _ => 0))), (q6, .inl (cI, 7, .inl (fun _ => 0))), (q7, .inl (cI, 8, .inl (fun _ => 0))), (q8, .inl (cI, 8, .inl (fun _ => 0))), (q9, .inl (cJ, 8, .inr (.inl (fun _ => 0)))), (q10, .inr (2, [.null, .null, .null, .long 0, .long 0, .int 0, .int 0, .int 0]))] := hD
  refine lv_dup hx hb dX5_init_30 rfl ?_
  have hPc := hP.sub (ws' := [(q10, .inr (2, [.null, .null, .null, .long 0, .long 0, .int 0, .int 0, .int 0]))]) [10] rfl
  have hDc := hD.sub (ws' := [(q10, .inr (2, [.null, .null, .null, .long 0, .long 0, .int 0, .int 0, .int 0]))]) [10] (by decide) rfl
  have hFc := va_free (wc := [(q10, .inr (2, [.null, .null, .null, .long 0, .long 0, .int 0, .int 0, .int 0]))]) hD hS hA [10] rfl
  refine va_callv (va_runIN (As := []) (rest := [.ref q10, .ref h0]) ⟨hx, hb, hml, hown, hts⟩ (c_X2_init l dC dI cI cJ q10 H.size) ⟨va_cnB 0 hts gX5_init_X2_init_n25 rfl rfl rfl (nm_RX5_25 hn) (hts (.initialized RX2) (by decide +kernel)) (by decide +kernel) ⟨(Nat.le_of_ble_eq_true rfl), (Nat.le_of_ble_eq_true rfl)⟩, rfl, hts (.instanceMethod yX2_init) (by decide +kernel)⟩ ⟨q_Wblind, q_Wpre hPc hK hn hDc⟩ rfl rfl hl.1 rfl (lv_room (Nat.le_of_ble_eq_true rfl)) dX5_init_31 ⟨(Nat.le_of_ble_eq_true rfl), (Nat.le_of_ble_eq_true rfl)⟩) hS (fun q _ h => hFc q h) hFc (fun u t H1 locs ht hvm hw hB hz1 hk1 hS => ?_)
  obtain ⟨q11, q12, q13⟩ := u
  obtain ⟨hP1, hK1, hD1⟩ := hB
  rw [ht] at hP1
  obtain ⟨hP, hD⟩ := va_join (wr := [(h0, .inr (5, [.ref q1, .ref q4, .null, .null, .null, .int 0, .int 0, .int 0, .int 0])), (q1, .inr (0, [.ref q2, .ref q3, .int 8, .long 0, .long 0, .long 0])), (q2, .inl (cI, 40, .inl (fun _ => 0))), (q3, .inl (cI, 8, .inl (fun _ => 0))), (q4, .inr (1, [.ref q5, .ref q6, .ref q7, .ref q8, .ref q9, .int 0, .int 0])), (q5, .inl (cI, 7, .inl (fun _ => 0))), (q6, .inl (cI, 7, .inl (fun _ => 0))), (q7, .inl (cI, 8, .inl (fun _ => 0))), (q8, .inl (cI, 8, .inl (fun _ => 0))), (q9, .inl (cJ, 8, .inr (.inl (fun _ => 0))))]) (w1 := [(q10, .inr (2, [.ref q11, .ref q12, .ref q13, .long 0, .long 0, .int 0, .int 0, .int (-1)])), (q11, .inl (cI, 256, .inl (fun _ => 0))), (q12, .inl (cI, 256, .inl (fun _ => 0))), (q13, .inl (cI, 8, .inl (fun _ => 0)))]) hP hD [10] [0, 1, 2, 3, 4, 5, 6, 7, 8, 9] rfl rfl (by decide) (by decide) hk1 hFc hP1 hD1
  generalize H1 = H at hP hS ⊢
  have hP : va_P (dC, dI) vwCl [(h0, .inr (5, [.ref q1, .ref q4, .null, .null, .null, .int 0, .int 0, .int 0, .int 0])), (q1, .inr (0, [.ref q2, .ref q3, .int 8, .long 0, .long 0, .long 0])), (q2, .inl (cI, 40, .inl (fun _ => 0))), (q3, .inl (cI, 8, .inl (fun _ => 0))), (q4, .inr (1, [.ref q5, .ref q6, .ref q7, .ref q8, .ref q9, .int 0, .int 0])), (q5, .inl (cI, 7, .inl (fun _ => 0))), (q6, .inl (cI, 7, .inl (fun _ => 0))), (q7, .inl (cI, 8, .inl (fun _ => 0))), (q8, .inl (cI, 8, .inl (fun _ => 0))), (q9, .inl (cJ, 8, .inr (.inl (fun _ => 0)))), (q10, .inr (2, [.ref q11, .ref q12, .ref q13, .long 0, .long 0, .int 0, .int 0, .int (-1)])), (q11, .inl (cI, 256, .inl (fun _ => 0))), (q12, .inl (cI, 256, .inl (fun _ => 0))), (q13, .inl (cI, 8, .inl (fun _ => 0)))] H := hP
  have hD : va_D A [(h0, .inr (5, [.ref q1, .ref q4, .null, .null, .null, .int 0, .int 0, .int 0, .int 0])), (q1, .inr (0, [.ref q2, .ref q3, .int 8, .long 0, .long 0, .long 0])), (q2, .inl (cI, 40, .inl (fun _ => 0))), (q3, .inl (cI, 8, .inl (fun _ => 0))), (q4, .inr (1, [.ref q5, .ref q6, .ref q7, .ref q8, .ref q9, .int 0, .int 0])), (q5, .inl (cI, 7, .inl (fun _ => 0))), (q6, .inl (cI, 7, .inl (fun _ => 0))), (q7, .inl (cI, 8, .inl (fun _ => 0))), (q8, .inl (cI, 8, .inl (fun _ => 0))), (q9, .inl (cJ, 8, .inr (.inl (fun _ => 0)))), (q10, .inr (2, [.ref q11, .ref q12, .ref q13, .long 0, .long 0, .int 0, .int 0, .int (-1)])), (q11, .inl (cI, 256, .inl (fun _ => 0))), (q12, .inl (cI, 256, .inl (fun _ => 0))), (q13, .inl (cI, 8, .inl (fun _ => 0)))] := hD
  refine va_putF (D := (dC, dI)) (ci := 5) (v := .ref q10) (ty := .object "Flapline$Planner") (C := RX5) (T := TX5) (N := 9) hx hb hts hi5 tyX5 tyX5_ok nmX5 hown hK hP hD hS 0 rfl rfl 2 (by decide) (hts (.fieldLink RX5 26 RX5 "planner" "LFlapline$Planner;") (by decide +kernel)) (fun _ h9 => h9) rfl hin rfl (by decide +kernel) rfl rfl (Nat.le_of_ble_eq_true rfl) dX5_init_34 (fun H locs hP hD hS => ?_)
  have hP : va_P (dC, dI) vwCl [(h0, .inr (5, [.ref q1, .ref q4, .ref q10, .null, .null, .int 0, .int 0, .int 0, .int 0])), (q1, .inr (0, [.ref q2, .ref q3, .int 8, .long 0, .long 0, .long 0])), (q2, .inl (cI, 40, .inl (fun _ => 0))), (q3, .inl (cI, 8, .inl (fun _ => 0))), (q4, .inr (1, [.ref q5, .ref q6, .ref q7, .ref q8, .ref q9, .int 0, .int 0])), (q5, .inl (cI, 7, .inl (fun _ => 0))), (q6, .inl (cI, 7, .inl (fun _ => 0))), (q7, .inl (cI, 8, .inl (fun _ => 0))), (q8, .inl (cI, 8, .inl (fun _ => 0))), (q9, .inl (cJ, 8, .inr (.inl (fun _ => 0)))), (q10, .inr (2, [.ref q11, .ref q12, .ref q13, .long 0, .long 0, .int 0, .int 0, .int (-1)])), (q11, .inl (cI, 256, .inl (fun _ => 0))), (q12, .inl (cI, 256, .inl (fun _ => 0))), (q13, .inl (cI, 8, .inl (fun _ => 0)))] H := hP
  have hD : va_D A [(h0, .inr (5, [.ref q1, .ref q4, .ref q10, .null, .null, .int 0, .int 0, .int 0, .int 0])), (q1, .inr (0, [.ref q2, .ref q3, .int 8, .long 0, .long 0, .long 0])), (q2, .inl (cI, 40, .inl (fun _ => 0))), (q3, .inl (cI, 8, .inl (fun _ => 0))), (q4, .inr (1, [.ref q5, .ref q6, .ref q7, .ref q8, .ref q9, .int 0, .int 0])), (q5, .inl (cI, 7, .inl (fun _ => 0))), (q6, .inl (cI, 7, .inl (fun _ => 0))), (q7, .inl (cI, 8, .inl (fun _ => 0))), (q8, .inl (cI, 8, .inl (fun _ => 0))), (q9, .inl (cJ, 8, .inr (.inl (fun _ => 0)))), (q10, .inr (2, [.ref q11, .ref q12, .ref q13, .long 0, .long 0, .int 0, .int 0, .int (-1)])), (q11, .inl (cI, 256, .inl (fun _ => 0))), (q12, .inl (cI, 256, .inl (fun _ => 0))), (q13, .inl (cI, 8, .inl (fun _ => 0)))] := hD
  refine lv_aload_n hx hb dX5_init_37 rfl (lv_at hl 0 rfl) ?_
  refine va_new (ci := 4) (fs := [.int 0, .int 0, .int 0, .int 0, .int 0]) (C := RX4) (T := TX4) (N := 5) hx hb hts hi4 tyX4 tyX4_ok hown (hts (.classLink RX5 30 RX4) (by decide +kernel)) (hts (.instantiable RX4 5) (by decide +kernel)) (hts (.initialized RX4) (by decide +kernel)) hK hP hD hS hA rfl (fun j hj => by rcases (show j = 0 ∨ j = 1 ∨ j = 2 ∨ j = 3 ∨ j = 4 by omega) with rfl | rfl | rfl | rfl | rfl <;> rfl) (Nat.le_of_ble_eq_true rfl) (Nat.le_of_ble_eq_true rfl) dX5_init_38 (fun q14 H hP hD hS => ?_)
  have hP : va_P (dC, dI) vwCl [(h0, .inr (5, [.ref q1, .ref q4, .ref q10, .null, .null, .int 0, .int 0, .int 0, .int 0])), (q1, .inr (0, [.ref q2, .ref q3, .int 8, .long 0, .long 0, .long 0])), (q2, .inl (cI, 40, .inl (fun _ => 0))), (q3, .inl (cI, 8, .inl (fun _ => 0))), (q4, .inr (1, [.ref q5, .ref q6, .ref q7, .ref q8, .ref q9, .int 0, .int 0])), (q5, .inl (cI, 7, .inl (fun _ => 0))), (q6, .inl (cI, 7, .inl (fun _ => 0))), (q7, .inl (cI, 8, .inl (fun _ => 0))), (q8, .inl (cI, 8, .inl (fun _ => 0))), (q9, .inl (cJ, 8, .inr (.inl (fun _ => 0)))), (q10, .inr (2, [.ref q11, .ref q12, .ref q13, .long 0, .long 0, .int 0, .int 0, .int (-1)])), (q11, .inl (cI, 256, .inl (fun _ => 0))), (q12, .inl (cI, 256, .inl (fun _ => 0))), (q13, .inl (cI, 8, .inl (fun _ => 0))), (q14, .inr (4, [.int 0, .int 0, .int 0, .int 0, .int 0]))] H := hP
  have hD : va_D A [(h0, .inr (5, [.ref q1, .ref q4, .ref q10, .null, .null, .int 0, .int 0, .int 0, .int 0])), (q1, .inr (0, [.ref q2, .ref q3, .int 8, .long 0, .long 0, .long 0])), (q2, .inl (cI, 40, .inl (fun _ => 0))), (q3, .inl (cI, 8, .inl (fun _ => 0))), (q4, .inr (1, [.ref q5, .ref q6, .ref q7, .ref q8, .ref q9, .int 0, .int 0])), (q5, .inl (cI, 7, .inl (fun _ => 0))), (q6, .inl (cI, 7, .inl (fun _ => 0))), (q7, .inl (cI, 8, .inl (fun _ => 0))), (q8, .inl (cI, 8, .inl (fun _ => 0))), (q9, .inl (cJ, 8, .inr (.inl (fun _ => 0)))), (q10, .inr (2, [.ref q11, .ref q12, .ref q13, .long 0, .long 0, .int 0, .int 0, .int (-1)])), (q11, .inl (cI, 256, .inl (fun _ => 0))), (q12, .inl (cI, 256, .inl (fun _ => 0))), (q13, .inl (cI, 8, .inl (fun _ => 0))), (q14, .inr (4, [.int 0, .int 0, .int 0, .int 0, .int 0]))] := hD
  refine lv_dup hx hb dX5_init_41 rfl ?_
  have hPc := hP.sub (ws' := [(q14, .inr (4, [.int 0, .int 0, .int 0, .int 0, .int 0]))]) [14] rfl
  have hDc := hD.sub (ws' := [(q14, .inr (4, [.int 0, .int 0, .int 0, .int 0, .int 0]))]) [14] (by decide) rfl
  have hFc := va_free (wc := [(q14, .inr (4, [.int 0, .int 0, .int 0, .int 0, .int 0]))]) hD hS hA [14] rfl
  refine va_callv (va_runIN (As := []) (rest := [.ref q14, .ref h0]) ⟨hx, hb, hml, hown, hts⟩ (c_X4_init l dC dI cI cJ q14 H.size) ⟨va_cnB 0 hts gX5_init_X4_init_n32 rfl rfl rfl (nm_RX5_32 hn) (hts (.initialized RX4) (by decide +kernel)) (by decide +kernel) ⟨(Nat.le_of_ble_eq_true rfl), (Nat.le_of_ble_eq_true rfl)⟩, rfl, hts (.instanceMethod yX4_init) (by decide +kernel)⟩ ⟨q_Wblind, q_Wpre hPc hK hn hDc⟩ rfl rfl hl.1 rfl (lv_room (Nat.le_of_ble_eq_true rfl)) dX5_init_42 ⟨(Nat.le_of_ble_eq_true rfl), (Nat.le_of_ble_eq_true rfl)⟩) hS (fun q _ h => hFc q h) hFc (fun u t H1 locs ht hvm hw hB hz1 hk1 hS => ?_)
  obtain ⟨⟩ := u
  obtain ⟨hP1, hK1, hD1⟩ := hB
  rw [ht] at hP1
  obtain ⟨hP, hD⟩ := va_join (wr := [(h0, .inr (5, [.ref q1, .ref q4, .ref q10, .null, .null, .int 0, .int 0, .int 0, .int 0])), (q1, .inr (0, [.ref q2, .ref q3, .int 8, .long 0, .long 0, .long 0])), (q2, .inl (cI, 40, .inl (fun _ => 0))), (q3, .inl (cI, 8, .inl (fun _ => 0))), (q4, .inr (1, [.ref q5, .ref q6, .ref q7, .ref q8, .ref q9, .int 0, .int 0])), (q5, .inl (cI, 7, .inl (fun _ => 0))), (q6, .inl (cI, 7, .inl (fun _ => 0))), (q7, .inl (cI, 8, .inl (fun _ => 0))), (q8, .inl (cI, 8, .inl (fun _ => 0))), (q9, .inl (cJ, 8, .inr (.inl (fun _ => 0)))), (q10, .inr (2, [.ref q11, .ref q12, .ref q13, .long 0, .long 0, .int 0, .int 0, .int (-1)])), (q11, .inl (cI, 256, .inl (fun _ => 0))), (q12, .inl (cI, 256, .inl (fun _ => 0))), (q13, .inl (cI, 8, .inl (fun _ => 0)))]) (w1 := [(q14, .inr (4, [.int 0, .int 0, .int 0, .int 0, .int 7]))]) hP hD [14] [0, 1, 2, 3, 4, 5, 6, 7, 8, 9, 10, 11, 12, 13] rfl rfl (by decide) (by decide) hk1 hFc hP1 hD1
  generalize H1 = H at hP hS ⊢
  have hP : va_P (dC, dI) vwCl [(h0, .inr (5, [.ref q1, .ref q4, .ref q10, .null, .null, .int 0, .int 0, .int 0, .int 0])), (q1, .inr (0, [.ref q2, .ref q3, .int 8, .long 0, .long 0, .long 0])), (q2, .inl (cI, 40, .inl (fun _ => 0))), (q3, .inl (cI, 8, .inl (fun _ => 0))), (q4, .inr (1, [.ref q5, .ref q6, .ref q7, .ref q8, .ref q9, .int 0, .int 0])), (q5, .inl (cI, 7, .inl (fun _ => 0))), (q6, .inl (cI, 7, .inl (fun _ => 0))), (q7, .inl (cI, 8, .inl (fun _ => 0))), (q8, .inl (cI, 8, .inl (fun _ => 0))), (q9, .inl (cJ, 8, .inr (.inl (fun _ => 0)))), (q10, .inr (2, [.ref q11, .ref q12, .ref q13, .long 0, .long 0, .int 0, .int 0, .int (-1)])), (q11, .inl (cI, 256, .inl (fun _ => 0))), (q12, .inl (cI, 256, .inl (fun _ => 0))), (q13, .inl (cI, 8, .inl (fun _ => 0))), (q14, .inr (4, [.int 0, .int 0, .int 0, .int 0, .int 7]))] H := hP
  have hD : va_D A [(h0, .inr (5, [.ref q1, .ref q4, .ref q10, .null, .null, .int 0, .int 0, .int 0, .int 0])), (q1, .inr (0, [.ref q2, .ref q3, .int 8, .long 0, .long 0, .long 0])), (q2, .inl (cI, 40, .inl (fun _ => 0))), (q3, .inl (cI, 8, .inl (fun _ => 0))), (q4, .inr (1, [.ref q5, .ref q6, .ref q7, .ref q8, .ref q9, .int 0, .int 0])), (q5, .inl (cI, 7, .inl (fun _ => 0))), (q6, .inl (cI, 7, .inl (fun _ => 0))), (q7, .inl (cI, 8, .inl (fun _ => 0))), (q8, .inl (cI, 8, .inl (fun _ => 0))), (q9, .inl (cJ, 8, .inr (.inl (fun _ => 0)))), (q10, .inr (2, [.ref q11, .ref q12, .ref q13, .long 0, .long 0, .int 0, .int 0, .int (-1)])), (q11, .inl (cI, 256, .inl (fun _ => 0))), (q12, .inl (cI, 256, .inl (fun _ => 0))), (q13, .inl (cI, 8, .inl (fun _ => 0))), (q14, .inr (4, [.int 0, .int 0, .int 0, .int 0, .int 7]))] := hD
  refine va_putF (D := (dC, dI)) (ci := 5) (v := .ref q14) (ty := .object "Flapline$Wire") (C := RX5) (T := TX5) (N := 9) hx hb hts hi5 tyX5 tyX5_ok nmX5 hown hK hP hD hS 0 rfl rfl 3 (by decide) (hts (.fieldLink RX5 33 RX5 "wire" "LFlapline$Wire;") (by decide +kernel)) (fun _ h9 => h9) rfl hin rfl (by decide +kernel) rfl rfl (Nat.le_of_ble_eq_true rfl) dX5_init_45 (fun H locs hP hD hS => ?_)
  have hP : va_P (dC, dI) vwCl [(h0, .inr (5, [.ref q1, .ref q4, .ref q10, .ref q14, .null, .int 0, .int 0, .int 0, .int 0])), (q1, .inr (0, [.ref q2, .ref q3, .int 8, .long 0, .long 0, .long 0])), (q2, .inl (cI, 40, .inl (fun _ => 0))), (q3, .inl (cI, 8, .inl (fun _ => 0))), (q4, .inr (1, [.ref q5, .ref q6, .ref q7, .ref q8, .ref q9, .int 0, .int 0])), (q5, .inl (cI, 7, .inl (fun _ => 0))), (q6, .inl (cI, 7, .inl (fun _ => 0))), (q7, .inl (cI, 8, .inl (fun _ => 0))), (q8, .inl (cI, 8, .inl (fun _ => 0))), (q9, .inl (cJ, 8, .inr (.inl (fun _ => 0)))), (q10, .inr (2, [.ref q11, .ref q12, .ref q13, .long 0, .long 0, .int 0, .int 0, .int (-1)])), (q11, .inl (cI, 256, .inl (fun _ => 0))), (q12, .inl (cI, 256, .inl (fun _ => 0))), (q13, .inl (cI, 8, .inl (fun _ => 0))), (q14, .inr (4, [.int 0, .int 0, .int 0, .int 0, .int 7]))] H := hP
  have hD : va_D A [(h0, .inr (5, [.ref q1, .ref q4, .ref q10, .ref q14, .null, .int 0, .int 0, .int 0, .int 0])), (q1, .inr (0, [.ref q2, .ref q3, .int 8, .long 0, .long 0, .long 0])), (q2, .inl (cI, 40, .inl (fun _ => 0))), (q3, .inl (cI, 8, .inl (fun _ => 0))), (q4, .inr (1, [.ref q5, .ref q6, .ref q7, .ref q8, .ref q9, .int 0, .int 0])), (q5, .inl (cI, 7, .inl (fun _ => 0))), (q6, .inl (cI, 7, .inl (fun _ => 0))), (q7, .inl (cI, 8, .inl (fun _ => 0))), (q8, .inl (cI, 8, .inl (fun _ => 0))), (q9, .inl (cJ, 8, .inr (.inl (fun _ => 0)))), (q10, .inr (2, [.ref q11, .ref q12, .ref q13, .long 0, .long 0, .int 0, .int 0, .int (-1)])), (q11, .inl (cI, 256, .inl (fun _ => 0))), (q12, .inl (cI, 256, .inl (fun _ => 0))), (q13, .inl (cI, 8, .inl (fun _ => 0))), (q14, .inr (4, [.int 0, .int 0, .int 0, .int 0, .int 7]))] := hD
  refine lv_aload_n hx hb dX5_init_48 rfl (lv_at hl 0 rfl) ?_
  refine va_new (ci := 3) (fs := [.null, .null, .int 0, .int 0, .int 0]) (C := RX3) (T := TX3) (N := 5) hx hb hts hi3 tyX3 tyX3_ok hown (hts (.classLink RX5 37 RX3) (by decide +kernel)) (hts (.instantiable RX3 5) (by decide +kernel)) (hts (.initialized RX3) (by decide +kernel)) hK hP hD hS hA rfl (fun j hj => by rcases (show j = 0 ∨ j = 1 ∨ j = 2 ∨ j = 3 ∨ j = 4 by omega) with rfl | rfl | rfl | rfl | rfl <;> rfl) (Nat.le_of_ble_eq_true rfl) (Nat.le_of_ble_eq_true rfl) dX5_init_49 (fun q15 H hP hD hS => ?_)
  have hP : va_P (dC, dI) vwCl [(h0, .inr (5, [.ref q1, .ref q4, .ref q10, .ref q14, .null, .int 0, .int 0, .int 0, .int 0])), (q1, .inr (0, [.ref q2, .ref q3, .int 8, .long 0, .long 0, .long 0])), (q2, .inl (cI, 40, .inl (fun _ => 0))), (q3, .inl (cI, 8, .inl (fun _ => 0))), (q4, .inr (1, [.ref q5, .ref q6, .ref q7, .ref q8, .ref q9, .int 0, .int 0])), (q5, .inl (cI, 7, .inl (fun _ => 0))), (q6, .inl (cI, 7, .inl (fun _ => 0))), (q7, .inl (cI, 8, .inl (fun _ => 0))), (q8, .inl (cI, 8, .inl (fun _ => 0))), (q9, .inl (cJ, 8, .inr (.inl (fun _ => 0)))), (q10, .inr (2, [.ref q11, .ref q12, .ref q13, .long 0, .long 0, .int 0, .int 0, .int (-1)])), (q11, .inl (cI, 256, .inl (fun _ => 0))), (q12, .inl (cI, 256, .inl (fun _ => 0))), (q13, .inl (cI, 8, .inl (fun _ => 0))), (q14, .inr (4, [.int 0, .int 0, .int 0, .int 0, .int 7])), (q15, .inr (3, [.null, .null, .int 0, .int 0, .int 0]))] H := hP
  have hD : va_D A [(h0, .inr (5, [.ref q1, .ref q4, .ref q10, .ref q14, .null, .int 0, .int 0, .int 0, .int 0])), (q1, .inr (0, [.ref q2, .ref q3, .int 8, .long 0, .long 0, .long 0])), (q2, .inl (cI, 40, .inl (fun _ => 0))), (q3, .inl (cI, 8, .inl (fun _ => 0))), (q4, .inr (1, [.ref q5, .ref q6, .ref q7, .ref q8, .ref q9, .int 0, .int 0])), (q5, .inl (cI, 7, .inl (fun _ => 0))), (q6, .inl (cI, 7, .inl (fun _ => 0))), (q7, .inl (cI, 8, .inl (fun _ => 0))), (q8, .inl (cI, 8, .inl (fun _ => 0))), (q9, .inl (cJ, 8, .inr (.inl (fun _ => 0)))), (q10, .inr (2, [.ref q11, .ref q12, .ref q13, .long 0, .long 0, .int 0, .int 0, .int (-1)])), (q11, .inl (cI, 256, .inl (fun _ => 0))), (q12, .inl (cI, 256, .inl (fun _ => 0))), (q13, .inl (cI, 8, .inl (fun _ => 0))), (q14, .inr (4, [.int 0, .int 0, .int 0, .int 0, .int 7])), (q15, .inr (3, [.null, .null, .int 0, .int 0, .int 0]))] := hD
  refine lv_dup hx hb dX5_init_52 rfl ?_
  have hPc := hP.sub (ws' := [(q15, .inr (3, [.null, .null, .int 0, .int 0, .int 0]))]) [15] rfl
  have hDc := hD.sub (ws' := [(q15, .inr (3, [.null, .null, .int 0, .int 0, .int 0]))]) [15] (by decide) rfl
  have hFc := va_free (wc := [(q15, .inr (3, [.null, .null, .int 0, .int 0, .int 0]))]) hD hS hA [15] rfl
  refine va_callv (va_runIN (As := []) (rest := [.ref q15, .ref h0]) ⟨hx, hb, hml, hown, hts⟩ (c_X3_init l dC dI cI cJ q15 H.size) ⟨va_cnB 0 hts gX5_init_X3_init_n39 rfl rfl rfl (nm_RX5_39 hn) (hts (.initialized RX3) (by decide +kernel)) (by decide +kernel) ⟨(Nat.le_of_ble_eq_true rfl), (Nat.le_of_ble_eq_true rfl)⟩, rfl, hts (.instanceMethod yX3_init) (by decide +kernel)⟩ ⟨q_Wblind, q_Wpre hPc hK hn hDc⟩ rfl rfl hl.1 rfl (lv_room (Nat.le_of_ble_eq_true rfl)) dX5_init_53 ⟨(Nat.le_of_ble_eq_true rfl), (Nat.le_of_ble_eq_true rfl)⟩) hS (fun q _ h => hFc q h) hFc (fun u t H1 locs ht hvm hw hB hz1 hk1 hS => ?_)
  obtain ⟨q16, q17⟩ := u
  obtain ⟨hP1, hK1, hD1⟩ := hB
  rw [ht] at hP1
  obtain ⟨hP, hD⟩ := va_join (wr := [(h0, .inr (5, [.ref q1, .ref q4, .ref q10, .ref q14, .null, .int 0, .int 0, .int 0, .int 0])), (q1, .inr (0, [.ref q2, .ref q3, .int 8, .long 0, .long 0, .long 0])), (q2, .inl (cI, 40, .inl (fun _ => 0))), (q3, .inl (cI, 8, .inl (fun _ => 0))), (q4, .inr (1, [.ref q5, .ref q6, .ref q7, .ref q8, .ref q9, .int 0, .int 0])), (q5, .inl (cI, 7, .inl (fun _ => 0))), (q6, .inl (cI, 7, .inl (fun _ => 0))), (q7, .inl (cI, 8, .inl (fun _ => 0))), (q8, .inl (cI, 8, .inl (fun _ => 0))), (q9, .inl (cJ, 8, .inr (.inl (fun _ => 0)))), (q10, .inr (2, [.ref q11, .ref q12, .ref q13, .long 0, .long 0, .int 0, .int 0, .int (-1)])), (q11, .inl (cI, 256, .inl (fun _ => 0))), (q12, .inl (cI, 256, .inl (fun _ => 0))), (q13, .inl (cI, 8, .inl (fun _ => 0))), (q14, .inr (4, [.int 0, .int 0, .int 0, .int 0, .int 7]))]) (w1 := [(q15, .inr (3, [.ref q16, .ref q17, .int 0, .int 0, .int 0])), (q16, .inl (cI, 6, .inl (fun _ => 0))), (q17, .inl (cI, 6, .inl (fun _ => 0)))]) hP hD [15] [0, 1, 2, 3, 4, 5, 6, 7, 8, 9, 10, 11, 12, 13, 14] rfl rfl (by decide) (by decide) hk1 hFc hP1 hD1
  generalize H1 = H at hP hS ⊢
  have hP : va_P (dC, dI) vwCl [(h0, .inr (5, [.ref q1, .ref q4, .ref q10, .ref q14, .null, .int 0, .int 0, .int 0, .int 0])), (q1, .inr (0, [.ref q2, .ref q3, .int 8, .long 0, .long 0, .long 0])), (q2, .inl (cI, 40, .inl (fun _ => 0))), (q3, .inl (cI, 8, .inl (fun _ => 0))), (q4, .inr (1, [.ref q5, .ref q6, .ref q7, .ref q8, .ref q9, .int 0, .int 0])), (q5, .inl (cI, 7, .inl (fun _ => 0))), (q6, .inl (cI, 7, .inl (fun _ => 0))), (q7, .inl (cI, 8, .inl (fun _ => 0))), (q8, .inl (cI, 8, .inl (fun _ => 0))), (q9, .inl (cJ, 8, .inr (.inl (fun _ => 0)))), (q10, .inr (2, [.ref q11, .ref q12, .ref q13, .long 0, .long 0, .int 0, .int 0, .int (-1)])), (q11, .inl (cI, 256, .inl (fun _ => 0))), (q12, .inl (cI, 256, .inl (fun _ => 0))), (q13, .inl (cI, 8, .inl (fun _ => 0))), (q14, .inr (4, [.int 0, .int 0, .int 0, .int 0, .int 7])), (q15, .inr (3, [.ref q16, .ref q17, .int 0, .int 0, .int 0])), (q16, .inl (cI, 6, .inl (fun _ => 0))), (q17, .inl (cI, 6, .inl (fun _ => 0)))] H := hP
  have hD : va_D A [(h0, .inr (5, [.ref q1, .ref q4, .ref q10, .ref q14, .null, .int 0, .int 0, .int 0, .int 0])), (q1, .inr (0, [.ref q2, .ref q3, .int 8, .long 0, .long 0, .long 0])), (q2, .inl (cI, 40, .inl (fun _ => 0))), (q3, .inl (cI, 8, .inl (fun _ => 0))), (q4, .inr (1, [.ref q5, .ref q6, .ref q7, .ref q8, .ref q9, .int 0, .int 0])), (q5, .inl (cI, 7, .inl (fun _ => 0))), (q6, .inl (cI, 7, .inl (fun _ => 0))), (q7, .inl (cI, 8, .inl (fun _ => 0))), (q8, .inl (cI, 8, .inl (fun _ => 0))), (q9, .inl (cJ, 8, .inr (.inl (fun _ => 0)))), (q10, .inr (2, [.ref q11, .ref q12, .ref q13, .long 0, .long 0, .int 0, .int 0, .int (-1)])), (q11, .inl (cI, 256, .inl (fun _ => 0))), (q12, .inl (cI, 256, .inl (fun _ => 0))), (q13, .inl (cI, 8, .inl (fun _ => 0))), (q14, .inr (4, [.int 0, .int 0, .int 0, .int 0, .int 7])), (q15, .inr (3, [.ref q16, .ref q17, .int 0, .int 0, .int 0])), (q16, .inl (cI, 6, .inl (fun _ => 0))), (q17, .inl (cI, 6, .inl (fun _ => 0)))] := hD
  refine va_putF (D := (dC, dI)) (ci := 5) (v := .ref q15) (ty := .object "Flapline$Route") (C := RX5) (T := TX5) (N := 9) hx hb hts hi5 tyX5 tyX5_ok nmX5 hown hK hP hD hS 0 rfl rfl 4 (by decide) (hts (.fieldLink RX5 40 RX5 "route" "LFlapline$Route;") (by decide +kernel)) (fun _ h9 => h9) rfl hin rfl (by decide +kernel) rfl rfl (Nat.le_of_ble_eq_true rfl) dX5_init_56 (fun H locs hP hD hS => ?_)
  have hP : va_P (dC, dI) vwCl [(h0, .inr (5, [.ref q1, .ref q4, .ref q10, .ref q14, .ref q15, .int 0, .int 0, .int 0, .int 0])), (q1, .inr (0, [.ref q2, .ref q3, .int 8, .long 0, .long 0, .long 0])), (q2, .inl (cI, 40, .inl (fun _ => 0))), (q3, .inl (cI, 8, .inl (fun _ => 0))), (q4, .inr (1, [.ref q5, .ref q6, .ref q7, .ref q8, .ref q9, .int 0, .int 0])), (q5, .inl (cI, 7, .inl (fun _ => 0))), (q6, .inl (cI, 7, .inl (fun _ => 0))), (q7, .inl (cI, 8, .inl (fun _ => 0))), (q8, .inl (cI, 8, .inl (fun _ => 0))), (q9, .inl (cJ, 8, .inr (.inl (fun _ => 0)))), (q10, .inr (2, [.ref q11, .ref q12, .ref q13, .long 0, .long 0, .int 0, .int 0, .int (-1)])), (q11, .inl (cI, 256, .inl (fun _ => 0))), (q12, .inl (cI, 256, .inl (fun _ => 0))), (q13, .inl (cI, 8, .inl (fun _ => 0))), (q14, .inr (4, [.int 0, .int 0, .int 0, .int 0, .int 7])), (q15, .inr (3, [.ref q16, .ref q17, .int 0, .int 0, .int 0])), (q16, .inl (cI, 6, .inl (fun _ => 0))), (q17, .inl (cI, 6, .inl (fun _ => 0)))] H := hP
  have hD : va_D A [(h0, .inr (5, [.ref q1, .ref q4, .ref q10, .ref q14, .ref q15, .int 0, .int 0, .int 0, .int 0])), (q1, .inr (0, [.ref q2, .ref q3, .int 8, .long 0, .long 0, .long 0])), (q2, .inl (cI, 40, .inl (fun _ => 0))), (q3, .inl (cI, 8, .inl (fun _ => 0))), (q4, .inr (1, [.ref q5, .ref q6, .ref q7, .ref q8, .ref q9, .int 0, .int 0])), (q5, .inl (cI, 7, .inl (fun _ => 0))), (q6, .inl (cI, 7, .inl (fun _ => 0))), (q7, .inl (cI, 8, .inl (fun _ => 0))), (q8, .inl (cI, 8, .inl (fun _ => 0))), (q9, .inl (cJ, 8, .inr (.inl (fun _ => 0)))), (q10, .inr (2, [.ref q11, .ref q12, .ref q13, .long 0, .long 0, .int 0, .int 0, .int (-1)])), (q11, .inl (cI, 256, .inl (fun _ => 0))), (q12, .inl (cI, 256, .inl (fun _ => 0))), (q13, .inl (cI, 8, .inl (fun _ => 0))), (q14, .inr (4, [.int 0, .int 0, .int 0, .int 0, .int 7])), (q15, .inr (3, [.ref q16, .ref q17, .int 0, .int 0, .int 0])), (q16, .inl (cI, 6, .inl (fun _ => 0))), (q17, .inl (cI, 6, .inl (fun _ => 0)))] := hD
  refine lv_aload_n hx hb dX5_init_59 rfl (lv_at hl 0 rfl) ?_
  refine lv_bipush (v := 10) hx hb dX5_init_60 (by decide) ?_
  refine va_put (D := (dC, dI)) (ci := 5) (v := .int 10) (ty := .int) (C := RX5) (T := TX5) (N := 9) hx hb hts hi5 tyX5 tyX5_ok nmX5 hown hK hP hD hS 0 rfl rfl 5 (by decide) (hts (.fieldLink RX5 44 RX5 "power" "I") (by decide +kernel)) (fun _ h9 => h9) rfl (by decide +kernel) rfl rfl (Nat.le_of_ble_eq_true rfl) dX5_init_62 (fun H locs hP hD hS => ?_)
  have hP : va_P (dC, dI) vwCl [(h0, .inr (5, [.ref q1, .ref q4, .ref q10, .ref q14, .ref q15, .int 10, .int 0, .int 0, .int 0])), (q1, .inr (0, [.ref q2, .ref q3, .int 8, .long 0, .long 0, .long 0])), (q2, .inl (cI, 40, .inl (fun _ => 0))), (q3, .inl (cI, 8, .inl (fun _ => 0))), (q4, .inr (1, [.ref q5, .ref q6, .ref q7, .ref q8, .ref q9, .int 0, .int 0])), (q5, .inl (cI, 7, .inl (fun _ => 0))), (q6, .inl (cI, 7, .inl (fun _ => 0))), (q7, .inl (cI, 8, .inl (fun _ => 0))), (q8, .inl (cI, 8, .inl (fun _ => 0))), (q9, .inl (cJ, 8, .inr (.inl (fun _ => 0)))), (q10, .inr (2, [.ref q11, .ref q12, .ref q13, .long 0, .long 0, .int 0, .int 0, .int (-1)])), (q11, .inl (cI, 256, .inl (fun _ => 0))), (q12, .inl (cI, 256, .inl (fun _ => 0))), (q13, .inl (cI, 8, .inl (fun _ => 0))), (q14, .inr (4, [.int 0, .int 0, .int 0, .int 0, .int 7])), (q15, .inr (3, [.ref q16, .ref q17, .int 0, .int 0, .int 0])), (q16, .inl (cI, 6, .inl (fun _ => 0))), (q17, .inl (cI, 6, .inl (fun _ => 0)))] H := hP
  have hD : va_D A [(h0, .inr (5, [.ref q1, .ref q4, .ref q10, .ref q14, .ref q15, .int 10, .int 0, .int 0, .int 0])), (q1, .inr (0, [.ref q2, .ref q3, .int 8, .long 0, .long 0, .long 0])), (q2, .inl (cI, 40, .inl (fun _ => 0))), (q3, .inl (cI, 8, .inl (fun _ => 0))), (q4, .inr (1, [.ref q5, .ref q6, .ref q7, .ref q8, .ref q9, .int 0, .int 0])), (q5, .inl (cI, 7, .inl (fun _ => 0))), (q6, .inl (cI, 7, .inl (fun _ => 0))), (q7, .inl (cI, 8, .inl (fun _ => 0))), (q8, .inl (cI, 8, .inl (fun _ => 0))), (q9, .inl (cJ, 8, .inr (.inl (fun _ => 0)))), (q10, .inr (2, [.ref q11, .ref q12, .ref q13, .long 0, .long 0, .int 0, .int 0, .int (-1)])), (q11, .inl (cI, 256, .inl (fun _ => 0))), (q12, .inl (cI, 256, .inl (fun _ => 0))), (q13, .inl (cI, 8, .inl (fun _ => 0))), (q14, .inr (4, [.int 0, .int 0, .int 0, .int 0, .int 7])), (q15, .inr (3, [.ref q16, .ref q17, .int 0, .int 0, .int 0])), (q16, .inl (cI, 6, .inl (fun _ => 0))), (q17, .inl (cI, 6, .inl (fun _ => 0)))] := hD
  refine lv_aload_n hx hb dX5_init_65 rfl (lv_at hl 0 rfl) ?_
  refine lv_iconst (v := 3) hx hb dX5_init_66 (by decide) ?_
  refine va_put (D := (dC, dI)) (ci := 5) (v := .int 3) (ty := .int) (C := RX5) (T := TX5) (N := 9) hx hb hts hi5 tyX5 tyX5_ok nmX5 hown hK hP hD hS 0 rfl rfl 6 (by decide) (hts (.fieldLink RX5 48 RX5 "blur" "I") (by decide +kernel)) (fun _ h9 => h9) rfl (by decide +kernel) rfl rfl (Nat.le_of_ble_eq_true rfl) dX5_init_67 (fun H locs hP hD hS => ?_)
  have hP : va_P (dC, dI) vwCl [(h0, .inr (5, [.ref q1, .ref q4, .ref q10, .ref q14, .ref q15, .int 10, .int 3, .int 0, .int 0])), (q1, .inr (0, [.ref q2, .ref q3, .int 8, .long 0, .long 0, .long 0])), (q2, .inl (cI, 40, .inl (fun _ => 0))), (q3, .inl (cI, 8, .inl (fun _ => 0))), (q4, .inr (1, [.ref q5, .ref q6, .ref q7, .ref q8, .ref q9, .int 0, .int 0])), (q5, .inl (cI, 7, .inl (fun _ => 0))), (q6, .inl (cI, 7, .inl (fun _ => 0))), (q7, .inl (cI, 8, .inl (fun _ => 0))), (q8, .inl (cI, 8, .inl (fun _ => 0))), (q9, .inl (cJ, 8, .inr (.inl (fun _ => 0)))), (q10, .inr (2, [.ref q11, .ref q12, .ref q13, .long 0, .long 0, .int 0, .int 0, .int (-1)])), (q11, .inl (cI, 256, .inl (fun _ => 0))), (q12, .inl (cI, 256, .inl (fun _ => 0))), (q13, .inl (cI, 8, .inl (fun _ => 0))), (q14, .inr (4, [.int 0, .int 0, .int 0, .int 0, .int 7])), (q15, .inr (3, [.ref q16, .ref q17, .int 0, .int 0, .int 0])), (q16, .inl (cI, 6, .inl (fun _ => 0))), (q17, .inl (cI, 6, .inl (fun _ => 0)))] H := hP
  have hD : va_D A [(h0, .inr (5, [.ref q1, .ref q4, .ref q10, .ref q14, .ref q15, .int 10, .int 3, .int 0, .int 0])), (q1, .inr (0, [.ref q2, .ref q3, .int 8, .long 0, .long 0, .long 0])), (q2, .inl (cI, 40, .inl (fun _ => 0))), (q3, .inl (cI, 8, .inl (fun _ => 0))), (q4, .inr (1, [.ref q5, .ref q6, .ref q7, .ref q8, .ref q9, .int 0, .int 0])), (q5, .inl (cI, 7, .inl (fun _ => 0))), (q6, .inl (cI, 7, .inl (fun _ => 0))), (q7, .inl (cI, 8, .inl (fun _ => 0))), (q8, .inl (cI, 8, .inl (fun _ => 0))), (q9, .inl (cJ, 8, .inr (.inl (fun _ => 0)))), (q10, .inr (2, [.ref q11, .ref q12, .ref q13, .long 0, .long 0, .int 0, .int 0, .int (-1)])), (q11, .inl (cI, 256, .inl (fun _ => 0))), (q12, .inl (cI, 256, .inl (fun _ => 0))), (q13, .inl (cI, 8, .inl (fun _ => 0))), (q14, .inr (4, [.int 0, .int 0, .int 0, .int 0, .int 7])), (q15, .inr (3, [.ref q16, .ref q17, .int 0, .int 0, .int 0])), (q16, .inl (cI, 6, .inl (fun _ => 0))), (q17, .inl (cI, 6, .inl (fun _ => 0)))] := hD
  refine lv_aload_n hx hb dX5_init_70 rfl (lv_at hl 0 rfl) ?_
  refine lv_iconst (v := (-1)) hx hb dX5_init_71 (by decide) ?_
  refine va_put (D := (dC, dI)) (ci := 5) (v := .int (-1)) (ty := .int) (C := RX5) (T := TX5) (N := 9) hx hb hts hi5 tyX5 tyX5_ok nmX5 hown hK hP hD hS 0 rfl rfl 8 (by decide) (hts (.fieldLink RX5 51 RX5 "shownLast" "I") (by decide +kernel)) (fun _ h9 => h9) rfl (by decide +kernel) rfl rfl (Nat.le_of_ble_eq_true rfl) dX5_init_72 (fun H locs hP hD hS => ?_)
  have hP : va_P (dC, dI) vwCl [(h0, .inr (5, [.ref q1, .ref q4, .ref q10, .ref q14, .ref q15, .int 10, .int 3, .int 0, .int (-1)])), (q1, .inr (0, [.ref q2, .ref q3, .int 8, .long 0, .long 0, .long 0])), (q2, .inl (cI, 40, .inl (fun _ => 0))), (q3, .inl (cI, 8, .inl (fun _ => 0))), (q4, .inr (1, [.ref q5, .ref q6, .ref q7, .ref q8, .ref q9, .int 0, .int 0])), (q5, .inl (cI, 7, .inl (fun _ => 0))), (q6, .inl (cI, 7, .inl (fun _ => 0))), (q7, .inl (cI, 8, .inl (fun _ => 0))), (q8, .inl (cI, 8, .inl (fun _ => 0))), (q9, .inl (cJ, 8, .inr (.inl (fun _ => 0)))), (q10, .inr (2, [.ref q11, .ref q12, .ref q13, .long 0, .long 0, .int 0, .int 0, .int (-1)])), (q11, .inl (cI, 256, .inl (fun _ => 0))), (q12, .inl (cI, 256, .inl (fun _ => 0))), (q13, .inl (cI, 8, .inl (fun _ => 0))), (q14, .inr (4, [.int 0, .int 0, .int 0, .int 0, .int 7])), (q15, .inr (3, [.ref q16, .ref q17, .int 0, .int 0, .int 0])), (q16, .inl (cI, 6, .inl (fun _ => 0))), (q17, .inl (cI, 6, .inl (fun _ => 0)))] H := hP
  have hD : va_D A [(h0, .inr (5, [.ref q1, .ref q4, .ref q10, .ref q14, .ref q15, .int 10, .int 3, .int 0, .int (-1)])), (q1, .inr (0, [.ref q2, .ref q3, .int 8, .long 0, .long 0, .long 0])), (q2, .inl (cI, 40, .inl (fun _ => 0))), (q3, .inl (cI, 8, .inl (fun _ => 0))), (q4, .inr (1, [.ref q5, .ref q6, .ref q7, .ref q8, .ref q9, .int 0, .int 0])), (q5, .inl (cI, 7, .inl (fun _ => 0))), (q6, .inl (cI, 7, .inl (fun _ => 0))), (q7, .inl (cI, 8, .inl (fun _ => 0))), (q8, .inl (cI, 8, .inl (fun _ => 0))), (q9, .inl (cJ, 8, .inr (.inl (fun _ => 0)))), (q10, .inr (2, [.ref q11, .ref q12, .ref q13, .long 0, .long 0, .int 0, .int 0, .int (-1)])), (q11, .inl (cI, 256, .inl (fun _ => 0))), (q12, .inl (cI, 256, .inl (fun _ => 0))), (q13, .inl (cI, 8, .inl (fun _ => 0))), (q14, .inr (4, [.int 0, .int 0, .int 0, .int 0, .int 7])), (q15, .inr (3, [.ref q16, .ref q17, .int 0, .int 0, .int 0])), (q16, .inl (cI, 6, .inl (fun _ => 0))), (q17, .inl (cI, 6, .inl (fun _ => 0)))] := hD
  have hP9 := hP.sub (ws' := (wSg (fun i => ([h0, q1, q2, q3, q4, q5, q6, q7, q8, q9, q10, q11, q12, q13, q14, q15, q16, q17] : List Nat).getD i 0) cI cJ (10, 3, 0, -1) ((fun _ => 0), (fun _ => 0), 8, 0, 0, 0) ((fun _ => 0), (fun _ => 0), (fun _ => 0), (fun _ => 0), (fun _ => 0), 0, 0) ((fun _ => 0), (fun _ => 0), (fun _ => 0), 0, 0, 0, 0, -1) (0, 0, 0, 0, 7) ((fun _ => 0), (fun _ => 0), 0, 0, 0))) [0, 1, 2, 3, 4, 5, 6, 7, 8, 9, 10, 11, 12, 13, 14, 15, 16, 17] rfl
  have hD9 := hD.sub (ws' := (wSg (fun i => ([h0, q1, q2, q3, q4, q5, q6, q7, q8, q9, q10, q11, q12, q13, q14, q15, q16, q17] : List Nat).getD i 0) cI cJ (10, 3, 0, -1) ((fun _ => 0), (fun _ => 0), 8, 0, 0, 0) ((fun _ => 0), (fun _ => 0), (fun _ => 0), (fun _ => 0), (fun _ => 0), 0, 0) ((fun _ => 0), (fun _ => 0), (fun _ => 0), 0, 0, 0, 0, -1) (0, 0, 0, 0, 7) ((fun _ => 0), (fun _ => 0), 0, 0, 0))) [0, 1, 2, 3, 4, 5, 6, 7, 8, 9, 10, 11, 12, 13, 14, 15, 16, 17] (by decide) rfl
  refine W.widen (k := 17) (n := 649) (Nat.le_of_ble_eq_true rfl) (Nat.le_of_ble_eq_true rfl) ?_
  exact W.vret hx hb hr (fun t ht hW => ⟨⟨(fun i => ([h0, q1, q2, q3, q4, q5, q6, q7, q8, q9, q10, q11, q12, q13, q14, q15, q16, q17] : List Nat).getD i 0), rfl, rfl, ⟨by rw [ht]; exact hP9, va_K.moved hW.alike hK, hD9⟩⟩, hS.F ht⟩) hS.2.2 dX5_init_75
