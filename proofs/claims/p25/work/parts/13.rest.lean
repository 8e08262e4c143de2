def f_X3_fact (T : q_Rt) (x0 : Int32) : Int32 := (if x0 = 14 then T.2.2.1 else if x0 = 15 then T.2.2.2.1 else T.2.2.2.2)
set_option maxHeartbeats 4000000 in
set_option maxRecDepth 100000 in
theorem c_X3_fact (l : Launch) (dC : Nat → ClassId) (dI : Nat → Nat → Nat) (cI cJ : ClassId) (t0 : Nat) (t1 : Nat) (t2 : Nat) (T : q_Rt) (x0 : Int32) : Met l yX3_fact wsX3_fact ({ frames := 0, cells := 0, slots := 0, locals := 0 } : Room) (va_Pc [.ref t0, .int x0] (q_B (dC, dI) vwCl (wRt t0 t1 t2 cI T) (q_ty cI cJ))) (k2_QcV (.int (f_X3_fact T x0))) 0 0 (fun _ => False) := by
  refine Met.ofW (cc := cX3_fact) (maxL := 2) (ret := (some .int)) (by decide) rfl ?_
  intro p e s m args below meth c s₁ BB hml hv
  obtain ⟨rfl, hP, hK, hn⟩ := hv
  have hx := BB.exec
  have hb := BB.bytes
  have hr := BB.returns
  have hts := atoms_spec (ws := wsX3_fact) BB.pre
  have hown : s.vm.findClass RX3 = some m.cls := findClass_of_methodNamed BB.named
  have hlocks := BB.notSynchronized
  have hi3 : ∀ w ∈ u_ws RX3 TX3 5, w ∈ wsX3_fact := by decide +kernel
  have hl := lv_entry [.ref t0, .int x0] (n := 2) (Nat.le_of_ble_eq_true rfl)
  rw [lg_entry_eq]
  generalize (lg_sl [.ref t0, .int x0] ++ List.replicate (2 - (lg_sl [.ref t0, .int x0]).length) Slot.unset).toArray = ls at hl ⊢
  have hl : lv_has ls 2 [(0, .ref t0), (1, .int x0)] := hl
  generalize hf : f_X3_fact T x0 = r0
  unfold f_X3_fact at hf
  refine lv_iload_n hx hb dX3_fact_0 rfl (lv_at hl 1 rfl) ?_
  by_cases c_1 : x0 = 14
  · replace hf := (if_pos c_1).symm.trans hf
    refine lv_lookup (x := x0) (off := 27) (tgt := 28) hx hb dX3_fact_1 (by decide) (by rw [c_1]; decide) (by decide) ?_
    refine lv_aload_n hx hb dX3_fact_28 rfl (lv_at hl 0 rfl) ?_
    refine va_get (D := (dC, dI)) (ci := 3) (v := .int T.2.2.1) (C := RX3) (T := TX3) (N := 5) hx hb hts hi3 hown hK hP 0 rfl rfl 2 (by decide) (hts (.fieldLink RX3 18 RX3 "stops" "I") (by decide +kernel)) (fun _ h9 => h9) rfl dX3_fact_29 ?_
    exact W.iret (v := T.2.2.1) hx hb hr (fun t ht hW => ⟨congrArg (fun z => Outcome.returned (some (.int z))) hf, ht⟩) (fun q h => absurd h List.not_mem_nil) dX3_fact_32
  replace hf := (if_neg c_1).symm.trans hf
  by_cases c_2 : x0 = 15
  · replace hf := (if_pos c_2).symm.trans hf
    refine lv_lookup (x := x0) (off := 32) (tgt := 33) hx hb dX3_fact_1 (by decide) (by rw [c_2]; decide) (by decide) ?_
    refine lv_aload_n hx hb dX3_fact_33 rfl (lv_at hl 0 rfl) ?_
    refine va_get (D := (dC, dI)) (ci := 3) (v := .int T.2.2.2.1) (C := RX3) (T := TX3) (N := 5) hx hb hts hi3 hown hK hP 0 rfl rfl 3 (by decide) (hts (.fieldLink RX3 29 RX3 "next" "I") (by decide +kernel)) (fun _ h9 => h9) rfl dX3_fact_34 ?_
    exact W.iret (v := T.2.2.2.1) hx hb hr (fun t ht hW => ⟨congrArg (fun z => Outcome.returned (some (.int z))) hf, ht⟩) (fun q h => absurd h List.not_mem_nil) dX3_fact_37
  replace hf := (if_neg c_2).symm.trans hf
  have e_14 := q_sw x0 14 c_1 (by decide)
  have e_15 := q_sw x0 15 c_2 (by decide)
  refine lv_lookup (x := x0) (off := 37) (tgt := 38) hx hb dX3_fact_1 (by decide) ?_ (by decide) ?_
  · show Op.lookupswitch.offset [(14, 27), (15, 32)] 37 x0.toInt = 37
    rw [Op.lookupswitch.offset_cons, if_neg (by omega), Op.lookupswitch.offset_cons, if_neg (by omega), Op.lookupswitch.offset_nil]
  refine lv_aload_n hx hb dX3_fact_38 rfl (lv_at hl 0 rfl) ?_
  refine va_get (D := (dC, dI)) (ci := 3) (v := .int T.2.2.2.2) (C := RX3) (T := TX3) (N := 5) hx hb hts hi3 hown hK hP 0 rfl rfl 4 (by decide) (hts (.fieldLink RX3 26 RX3 "turned" "I") (by decide +kernel)) (fun _ h9 => h9) rfl dX3_fact_39 ?_
  exact W.iret (v := T.2.2.2.2) hx hb hr (fun t ht hW => ⟨congrArg (fun z => Outcome.returned (some (.int z))) hf, ht⟩) (fun q h => absurd h List.not_mem_nil) dX3_fact_42
def f_X3_isTrue (T : q_Rt)  : Int32 := (if T.2.2.2.1 = (-1) then 1 else (if T.2.2.2.1 = 0 then 1 else (if T.2.2.2.1 ≤ 0 then 0 else (if T.2.2.1 ≤ T.2.2.2.1 then 0 else 1))))
set_option maxHeartbeats 4000000 in
set_option maxRecDepth 100000 in
theorem c_X3_isTrue (l : Launch) (dC : Nat → ClassId) (dI : Nat → Nat → Nat) (cI cJ : ClassId) (t0 : Nat) (t1 : Nat) (t2 : Nat) (T : q_Rt)  : Met l yX3_isTrue wsX3_isTrue ({ frames := 0, cells := 0, slots := 0, locals := 0 } : Room) (va_Pc [.ref t0] (q_B (dC, dI) vwCl (wRt t0 t1 t2 cI T) (q_ty cI cJ))) (k2_QcV (.int (f_X3_isTrue T))) 0 0 (fun _ => False) := by
  refine Met.ofW (cc := cX3_isTrue) (maxL := 1) (ret := (some .boolean)) (by decide) rfl ?_
  intro p e s m args below meth c s₁ BB hml hv
  obtain ⟨rfl, hP, hK, hn⟩ := hv
  have hx := BB.exec
  have hb := BB.bytes
  have hr := BB.returns
  have hts := atoms_spec (ws := wsX3_isTrue) BB.pre
  have hown : s.vm.findClass RX3 = some m.cls := findClass_of_methodNamed BB.named
  have hlocks := BB.notSynchronized
  have hi3 : ∀ w ∈ u_ws RX3 TX3 5, w ∈ wsX3_isTrue := by decide +kernel
  have hl := lv_entry [.ref t0] (n := 1) (Nat.le_of_ble_eq_true rfl)
  rw [lg_entry_eq]
  generalize (lg_sl [.ref t0] ++ List.replicate (1 - (lg_sl [.ref t0]).length) Slot.unset).toArray = ls at hl ⊢
  have hl : lv_has ls 1 [(0, .ref t0)] := hl
  generalize hf : f_X3_isTrue T = r0
  unfold f_X3_isTrue at hf
  refine lv_aload_n hx hb dX3_isTrue_0 rfl (lv_at hl 0 rfl) ?_
  refine va_get (D := (dC, dI)) (ci := 3) (v := .int T.2.2.2.1) (C := RX3) (T := TX3) (N := 5) hx hb hts hi3 hown hK hP 0 rfl rfl 3 (by decide) (hts (.fieldLink RX3 29 RX3 "next" "I") (by decide +kernel)) (fun _ h9 => h9) rfl dX3_isTrue_1 ?_
  refine lv_iconst (v := (-1)) hx hb dX3_isTrue_4 (by decide) ?_
  refine lv_icmp_eq (tgt := 33) hx hb dX3_isTrue_5 (by decide) (fun c_1 => ?_) (fun c_1 => ?_)
  · replace hf := (if_pos c_1).symm.trans hf
    refine lv_iconst (v := 1) hx hb dX3_isTrue_33 (by decide) ?_
    refine lv_goto (tgt := 38) hx hb dX3_isTrue_34 (by decide) ?_
    exact W.zret (v := 1) (ty := .boolean) hx hb hr rfl (fun t ht hW => ⟨congrArg (fun z => Outcome.returned (some (.int z))) hf, ht⟩) (fun q h => absurd h List.not_mem_nil) dX3_isTrue_38
  · replace hf := (if_neg c_1).symm.trans hf
    refine lv_aload_n hx hb dX3_isTrue_8 rfl (lv_at hl 0 rfl) ?_
    refine va_get (D := (dC, dI)) (ci := 3) (v := .int T.2.2.2.1) (C := RX3) (T := TX3) (N := 5) hx hb hts hi3 hown hK hP 0 rfl rfl 3 (by decide) (hts (.fieldLink RX3 29 RX3 "next" "I") (by decide +kernel)) (fun _ h9 => h9) rfl dX3_isTrue_9 ?_
    refine lv_if_eq (tgt := 33) hx hb dX3_isTrue_12 (by decide) (fun c_2 => ?_) (fun c_2 => ?_)
    · replace hf := (if_pos c_2).symm.trans hf
      refine lv_iconst (v := 1) hx hb dX3_isTrue_33 (by decide) ?_
      refine lv_goto (tgt := 38) hx hb dX3_isTrue_34 (by decide) ?_
      exact W.zret (v := 1) (ty := .boolean) hx hb hr rfl (fun t ht hW => ⟨congrArg (fun z => Outcome.returned (some (.int z))) hf, ht⟩) (fun q h => absurd h List.not_mem_nil) dX3_isTrue_38
    · replace hf := (if_neg c_2).symm.trans hf
      refine lv_aload_n hx hb dX3_isTrue_15 rfl (lv_at hl 0 rfl) ?_
      refine va_get (D := (dC, dI)) (ci := 3) (v := .int T.2.2.2.1) (C := RX3) (T := TX3) (N := 5) hx hb hts hi3 hown hK hP 0 rfl rfl 3 (by decide) (hts (.fieldLink RX3 29 RX3 "next" "I") (by decide +kernel)) (fun _ h9 => h9) rfl dX3_isTrue_16 ?_
      refine lv_if_le (tgt := 37) hx hb dX3_isTrue_19 (by decide) (fun c_3 => ?_) (fun c_3 => ?_)
      · replace hf := (if_pos c_3).symm.trans hf
        refine lv_iconst (v := 0) hx hb dX3_isTrue_37 (by decide) ?_
        exact W.zret (v := 0) (ty := .boolean) hx hb hr rfl (fun t ht hW => ⟨congrArg (fun z => Outcome.returned (some (.int z))) hf, ht⟩) (fun q h => absurd h List.not_mem_nil) dX3_isTrue_38
      · replace hf := (if_neg c_3).symm.trans hf
        refine lv_aload_n hx hb dX3_isTrue_22 rfl (lv_at hl 0 rfl) ?_
        refine va_get (D := (dC, dI)) (ci := 3) (v := .int T.2.2.2.1) (C := RX3) (T := TX3) (N := 5) hx hb hts hi3 hown hK hP 0 rfl rfl 3 (by decide) (hts (.fieldLink RX3 29 RX3 "next" "I") (by decide +kernel)) (fun _ h9 => h9) rfl dX3_isTrue_23 ?_
        refine lv_aload_n hx hb dX3_isTrue_26 rfl (lv_at hl 0 rfl) ?_
        refine va_get (D := (dC, dI)) (ci := 3) (v := .int T.2.2.1) (C := RX3) (T := TX3) (N := 5) hx hb hts hi3 hown hK hP 0 rfl rfl 2 (by decide) (hts (.fieldLink RX3 18 RX3 "stops" "I") (by decide +kernel)) (fun _ h9 => h9) rfl dX3_isTrue_27 ?_
        refine lv_icmp_ge (tgt := 37) hx hb dX3_isTrue_30 (by decide) (fun c_4 => ?_) (fun c_4 => ?_)
        · replace hf := (if_pos c_4).symm.trans hf
          refine lv_iconst (v := 0) hx hb dX3_isTrue_37 (by decide) ?_
          exact W.zret (v := 0) (ty := .boolean) hx hb hr rfl (fun t ht hW => ⟨congrArg (fun z => Outcome.returned (some (.int z))) hf, ht⟩) (fun q h => absurd h List.not_mem_nil) dX3_isTrue_38
        · replace hf := (if_neg c_4).symm.trans hf
          refine lv_iconst (v := 1) hx hb dX3_isTrue_33 (by decide) ?_
          refine lv_goto (tgt := 38) hx hb dX3_isTrue_34 (by decide) ?_
          exact W.zret (v := 1) (ty := .boolean) hx hb hr rfl (fun t ht hW => ⟨congrArg (fun z => Outcome.returned (some (.int z))) hf, ht⟩) (fun q h => absurd h List.not_mem_nil) dX3_isTrue_38
def f_X4_fact (I : q_Wi) (x0 : Int32) : Int32 := (if x0 = 9 then I.1 else if x0 = 10 then I.2.1 else if x0 = 11 then I.2.2.1 else if x0 = 12 then I.2.2.2.1 else I.2.2.2.2)
set_option maxHeartbeats 4000000 in
set_option maxRecDepth 100000 in
theorem c_X4_fact (l : Launch) (dC : Nat → ClassId) (dI : Nat → Nat → Nat) (cI cJ : ClassId) (i0 : Nat) (I : q_Wi) (x0 : Int32) : Met l yX4_fact wsX4_fact ({ frames := 0, cells := 0, slots := 0, locals := 0 } : Room) (va_Pc [.ref i0, .int x0] (q_B (dC, dI) vwCl (wWi i0  I) (q_ty cI cJ))) (k2_QcV (.int (f_X4_fact I x0))) 0 0 (fun _ => False) := by
  refine Met.ofW (cc := cX4_fact) (maxL := 2) (ret := (some .int)) (by decide) rfl ?_
  intro p e s m args below meth c s₁ BB hml hv
  obtain ⟨rfl, hP, hK, hn⟩ := hv
  have hx := BB.exec
  have hb := BB.bytes
  have hr := BB.returns
  have hts := atoms_spec (ws := wsX4_fact) BB.pre
  have hown : s.vm.findClass RX4 = some m.cls := findClass_of_methodNamed BB.named
  have hlocks := BB.notSynchronized
  have hi4 : ∀ w ∈ u_ws RX4 TX4 5, w ∈ wsX4_fact := by decide +kernel
  have hl := lv_entry [.ref i0, .int x0] (n := 2) (Nat.le_of_ble_eq_true rfl)
  rw [lg_entry_eq]
  generalize (lg_sl [.ref i0, .int x0] ++ List.replicate (2 - (lg_sl [.ref i0, .int x0]).length) Slot.unset).toArray = ls at hl ⊢
  have hl : lv_has ls 2 [(0, .ref i0), (1, .int x0)] := hl
  generalize hf : f_X4_fact I x0 = r0
  unfold f_X4_fact at hf
  refine lv_iload_n hx hb dX4_fact_0 rfl (lv_at hl 1 rfl) ?_
  by_cases c_1 : x0 = 9
  · replace hf := (if_pos c_1).symm.trans hf
    refine lv_tableIn (x := x0) (off := 31) (tgt := 32) hx hb dX4_fact_1 (by rw [c_1]; decide) (by rw [c_1]; decide) (by rw [c_1]; rfl) (by decide) ?_
    refine lv_aload_n hx hb dX4_fact_32 rfl (lv_at hl 0 rfl) ?_
    refine va_get (D := (dC, dI)) (ci := 4) (v := .int I.1) (C := RX4) (T := TX4) (N := 5) hx hb hts hi4 hown hK hP 0 rfl rfl 0 (by decide) (hts (.fieldLink RX4 24 RX4 "broken" "I") (by decide +kernel)) (fun _ h9 => h9) rfl dX4_fact_33 ?_
    exact W.iret (v := I.1) hx hb hr (fun t ht hW => ⟨congrArg (fun z => Outcome.returned (some (.int z))) hf, ht⟩) (fun q h => absurd h List.not_mem_nil) dX4_fact_36
  replace hf := (if_neg c_1).symm.trans hf
  by_cases c_2 : x0 = 10
  · replace hf := (if_pos c_2).symm.trans hf
    refine lv_tableIn (x := x0) (off := 36) (tgt := 37) hx hb dX4_fact_1 (by rw [c_2]; decide) (by rw [c_2]; decide) (by rw [c_2]; rfl) (by decide) ?_
    refine lv_aload_n hx hb dX4_fact_37 rfl (lv_at hl 0 rfl) ?_
    refine va_get (D := (dC, dI)) (ci := 4) (v := .int I.2.1) (C := RX4) (T := TX4) (N := 5) hx hb hts hi4 hown hK hP 0 rfl rfl 1 (by decide) (hts (.fieldLink RX4 27 RX4 "old" "I") (by decide +kernel)) (fun _ h9 => h9) rfl dX4_fact_38 ?_
    exact W.iret (v := I.2.1) hx hb hr (fun t ht hW => ⟨congrArg (fun z => Outcome.returned (some (.int z))) hf, ht⟩) (fun q h => absurd h List.not_mem_nil) dX4_fact_41
  replace hf := (if_neg c_2).symm.trans hf
  by_cases c_3 : x0 = 11
  · replace hf := (if_pos c_3).symm.trans hf
    refine lv_tableIn (x := x0) (off := 41) (tgt := 42) hx hb dX4_fact_1 (by rw [c_3]; decide) (by rw [c_3]; decide) (by rw [c_3]; rfl) (by decide) ?_
    refine lv_aload_n hx hb dX4_fact_42 rfl (lv_at hl 0 rfl) ?_
    refine va_get (D := (dC, dI)) (ci := 4) (v := .int I.2.2.1) (C := RX4) (T := TX4) (N := 5) hx hb hts hi4 hown hK hP 0 rfl rfl 2 (by decide) (hts (.fieldLink RX4 21 RX4 "taken" "I") (by decide +kernel)) (fun _ h9 => h9) rfl dX4_fact_43 ?_
    exact W.iret (v := I.2.2.1) hx hb hr (fun t ht hW => ⟨congrArg (fun z => Outcome.returned (some (.int z))) hf, ht⟩) (fun q h => absurd h List.not_mem_nil) dX4_fact_46
  replace hf := (if_neg c_3).symm.trans hf
  by_cases c_4 : x0 = 12
  · replace hf := (if_pos c_4).symm.trans hf
    refine lv_tableIn (x := x0) (off := 46) (tgt := 47) hx hb dX4_fact_1 (by rw [c_4]; decide) (by rw [c_4]; decide) (by rw [c_4]; rfl) (by decide) ?_
    refine lv_aload_n hx hb dX4_fact_47 rfl (lv_at hl 0 rfl) ?_
    refine va_get (D := (dC, dI)) (ci := 4) (v := .int I.2.2.2.1) (C := RX4) (T := TX4) (N := 5) hx hb hts hi4 hown hK hP 0 rfl rfl 3 (by decide) (hts (.fieldLink RX4 30 RX4 "unshown" "I") (by decide +kernel)) (fun _ h9 => h9) rfl dX4_fact_48 ?_
    exact W.iret (v := I.2.2.2.1) hx hb hr (fun t ht hW => ⟨congrArg (fun z => Outcome.returned (some (.int z))) hf, ht⟩) (fun q h => absurd h List.not_mem_nil) dX4_fact_51
  replace hf := (if_neg c_4).symm.trans hf
  have e_9 := q_sw x0 9 c_1 (by decide)
  have e_10 := q_sw x0 10 c_2 (by decide)
  have e_11 := q_sw x0 11 c_3 (by decide)
  have e_12 := q_sw x0 12 c_4 (by decide)
  have g_5 : W p l e (headSpec wsX4_fact ({ frames := 0, cells := 0, slots := 0, locals := 0 } : Room)).room s m [.ref i0, .int x0].toArray below meth c s.heap [] 0 0 (MQ below (k2_QcV (.int r0)) [.ref i0, .int x0].toArray s 0 0 (fun _ => False)) (F0 m 52 ls []) := by
    refine lv_aload_n hx hb dX4_fact_52 rfl (lv_at hl 0 rfl) ?_
    refine va_get (D := (dC, dI)) (ci := 4) (v := .int I.2.2.2.2) (C := RX4) (T := TX4) (N := 5) hx hb hts hi4 hown hK hP 0 rfl rfl 4 (by decide) (hts (.fieldLink RX4 9 RX4 "lastNumber" "I") (by decide +kernel)) (fun _ h9 => h9) rfl dX4_fact_53 ?_
    exact W.iret (v := I.2.2.2.2) hx hb hr (fun t ht hW => ⟨congrArg (fun z => Outcome.returned (some (.int z))) hf, ht⟩) (fun q h => absurd h List.not_mem_nil) dX4_fact_56
  exact lv_tableOut (x := x0) (tgt := 52) hx hb dX4_fact_1 (by omega) (by decide) g_5
