def f_X5_needColumn (B : q_Bd) (x0 : Int32) : Option (Unit) := (if x0 < 0 then none else (if x0 < B.2.2.1 then some () else none))
set_option maxHeartbeats 4000000 in
set_option maxRecDepth 100000 in
theorem c_X5_needColumn (l : Launch) (dC : Nat → ClassId) (dI : Nat → Nat → Nat) (cI cJ : ClassId) (a : Nat → Nat) (F : q_Fl) (B : q_Bd) (K : q_Bk) (N : q_Pl) (I : q_Wi) (T : q_Rt) (x0 : Int32) (r0 : Unit) (hf : f_X5_needColumn B x0 = some r0) : Met l yX5_needColumn wsX5_needColumn ({ frames := 0, cells := 0, slots := 0, locals := 0 } : Room) (va_Pc [.ref (a 0), .int x0] (q_B (dC, dI) vwCl (wSg a cI cJ F B K N I T) (q_ty cI cJ))) (va_Sv (fun _ => True)) 0 0 (fun _ => False) := by
  refine Met.ofW (cc := cX5_needColumn) (maxL := 2) (ret := none) (by decide) rfl ?_
  intro p e s m args below meth c s₁ BB hml hv
  obtain ⟨rfl, hP, hK, hn⟩ := hv
  have hx := BB.exec
  have hb := BB.bytes
  have hr := BB.returns
  have hts := atoms_spec (ws := wsX5_needColumn) BB.pre
  have hown : s.vm.findClass RX5 = some m.cls := findClass_of_methodNamed BB.named
  have hlocks := BB.notSynchronized
  have hi0 : ∀ w ∈ u_ws RX0 TX0 6, w ∈ wsX5_needColumn := by decide +kernel
  have hi5 : ∀ w ∈ u_ws RX5 TX5 9, w ∈ wsX5_needColumn := by decide +kernel
  have hl := lv_entry [.ref (a 0), .int x0] (n := 2) (Nat.le_of_ble_eq_true rfl)
  rw [lg_entry_eq]
  generalize (lg_sl [.ref (a 0), .int x0] ++ List.replicate (2 - (lg_sl [.ref (a 0), .int x0]).length) Slot.unset).toArray = ls at hl ⊢
  have hl : lv_has ls 2 [(0, .ref (a 0)), (1, .int x0)] := hl
  unfold f_X5_needColumn at hf
  refine lv_iload_n hx hb dX5_needColumn_0 rfl (lv_at hl 1 rfl) ?_
  refine lv_if_lt (tgt := 15) hx hb dX5_needColumn_1 (by decide) (fun c_1 => ?_) (fun c_1 => ?_)
  · replace hf := (if_pos c_1).symm.trans hf
    cases hf
  · replace hf := (if_neg c_1).symm.trans hf
    refine lv_iload_n hx hb dX5_needColumn_4 rfl (lv_at hl 1 rfl) ?_
    refine lv_aload_n hx hb dX5_needColumn_5 rfl (lv_at hl 0 rfl) ?_
    refine va_get (D := (dC, dI)) (ci := 5) (v := .ref (a 1)) (C := RX5) (T := TX5) (N := 9) hx hb hts hi5 hown hK hP 0 rfl rfl 0 (by decide) (hts (.fieldLink RX5 10 RX5 "board" "LFlapline$Board;") (by decide +kernel)) (fun _ h9 => h9) rfl dX5_needColumn_6 ?_
    refine va_getN (D := (dC, dI)) (ci := 0) (v := .int B.2.2.1) (C := RX0) (T := TX0) (N := 6) hx hb hts hi0 hown hK hP 1 rfl rfl 2 (by decide) (nf_RX5_61 hn) (fun _ h9 => h9) rfl dX5_needColumn_9 ?_
    refine lv_icmp_lt (tgt := 26) hx hb dX5_needColumn_12 (by decide) (fun c_2 => ?_) (fun c_2 => ?_)
    · replace hf := (if_pos c_2).symm.trans hf
      replace hf := Option.some.inj hf
      exact W.vret hx hb hr (fun t ht hW => ⟨rfl, trivial, ht⟩) (fun q h => absurd h List.not_mem_nil) dX5_needColumn_26
    · replace hf := (if_neg c_2).symm.trans hf
      cases hf
def f_X5_needDot (B : q_Bd) (x0 : Int32) (x1 : Int32) : Option (Unit) := ((f_X5_needColumn B x0).bind fun x_1 => (if (f_X5_isHeight x1) = 0 then none else some ()))
set_option maxHeartbeats 4000000 in
set_option maxRecDepth 100000 in
theorem c_X5_needDot (l : Launch) (dC : Nat → ClassId) (dI : Nat → Nat → Nat) (cI cJ : ClassId) (a : Nat → Nat) (F : q_Fl) (B : q_Bd) (K : q_Bk) (N : q_Pl) (I : q_Wi) (T : q_Rt) (x0 : Int32) (x1 : Int32) (r0 : Unit) (hf : f_X5_needDot B x0 x1 = some r0) : Met l yX5_needDot wsX5_needDot ({ frames := 1, cells := 0, slots := 0, locals := 21 } : Room) (va_Pc [.ref (a 0), .int x0, .int x1] (q_B (dC, dI) vwCl (wSg a cI cJ F B K N I T) (q_ty cI cJ))) (va_Sv (fun _ => True)) 0 0 (fun _ => False) := by
  refine Met.ofW (cc := cX5_needDot) (maxL := 3) (ret := none) (by decide) rfl ?_
  intro p e s m args below meth c s₁ BB hml hv
  obtain ⟨rfl, hP, hK, hn⟩ := hv
  have hx := BB.exec
  have hb := BB.bytes
  have hr := BB.returns
  have hts := atoms_spec (ws := wsX5_needDot) BB.pre
  have hown : s.vm.findClass RX5 = some m.cls := findClass_of_methodNamed BB.named
  have hlocks := BB.notSynchronized
  have hl := lv_entry [.ref (a 0), .int x0, .int x1] (n := 3) (Nat.le_of_ble_eq_true rfl)
  rw [lg_entry_eq]
  generalize (lg_sl [.ref (a 0), .int x0, .int x1] ++ List.replicate (3 - (lg_sl [.ref (a 0), .int x0, .int x1]).length) Slot.unset).toArray = ls at hl ⊢
  have hl : lv_has ls 3 [(0, .ref (a 0)), (1, .int x0), (2, .int x1)] := hl
  unfold f_X5_needDot at hf
  refine lv_aload_n hx hb dX5_needDot_0 rfl (lv_at hl 0 rfl) ?_
  refine lv_iload_n hx hb dX5_needDot_1 rfl (lv_at hl 1 rfl) ?_
  obtain ⟨x_1, hx_1, hf⟩ := Option.bind_eq_some_iff.mp hf
  refine q_vV (As := [.int x0]) (rest := []) ⟨hx, hb, hml, hown, hts⟩ (c_X5_needColumn l dC dI cI cJ a F B K N I T x0 x_1 hx_1) (cwV 1 hts gX5_needDot_X5_needColumn rfl rfl rfl (by decide +kernel) ⟨Nat.le_of_ble_eq_true rfl, Nat.le_of_ble_eq_true rfl⟩) hK hn hP (ci := 5) rfl rfl rfl hl.1 rfl (Nat.le_of_ble_eq_true rfl) dX5_needDot_2 ⟨Nat.zero_le _, Nat.zero_le _⟩ ?_
  refine lv_iload_n hx hb dX5_needDot_5 rfl (lv_at hl 2 rfl) ?_
  refine q_rS (As := [.int x1]) (rest := []) ⟨hx, hb, hml, hown, hts⟩ (c_X5_isHeight l dC dI cI cJ x1) (va_cwS 1 hts gX5_needDot_X5_isHeight rfl rfl rfl (by decide +kernel) ⟨Nat.le_of_ble_eq_true rfl, Nat.le_of_ble_eq_true rfl⟩) hK hn (hP.sub (ws' := []) [] rfl) rfl hl.1 rfl (Nat.le_of_ble_eq_true rfl) dX5_needDot_6 ⟨Nat.zero_le _, Nat.zero_le _⟩ ?_
  refine lv_if_ne (tgt := 22) hx hb dX5_needDot_9 (by decide) (fun c_2 => ?_) (fun c_2 => ?_)
  · replace hf := (if_neg c_2).symm.trans hf
    replace hf := Option.some.inj hf
    exact W.vret hx hb hr (fun t ht hW => ⟨rfl, trivial, ht⟩) (fun q h => absurd h List.not_mem_nil) dX5_needDot_22
  · replace hf := (if_pos c_2).symm.trans hf
    cases hf
def f_X5_isLine (K : q_Bk) (x0 : Int32) : Int32 := (if x0 < 0 then 0 else (if K.2.2.2.2.2.2 ≤ x0 then 0 else 1))
set_option maxHeartbeats 4000000 in
set_option maxRecDepth 100000 in
theorem c_X5_isLine (l : Launch) (dC : Nat → ClassId) (dI : Nat → Nat → Nat) (cI cJ : ClassId) (a : Nat → Nat) (F : q_Fl) (B : q_Bd) (K : q_Bk) (N : q_Pl) (I : q_Wi) (T : q_Rt) (x0 : Int32) : Met l yX5_isLine wsX5_isLine ({ frames := 0, cells := 0, slots := 0, locals := 0 } : Room) (va_Pc [.ref (a 0), .int x0] (q_B (dC, dI) vwCl (wSg a cI cJ F B K N I T) (q_ty cI cJ))) (k2_QcV (.int (f_X5_isLine K x0))) 0 0 (fun _ => False) := by
  refine Met.ofW (cc := cX5_isLine) (maxL := 2) (ret := (some .boolean)) (by decide) rfl ?_
  intro p e s m args below meth c s₁ BB hml hv
  obtain ⟨rfl, hP, hK, hn⟩ := hv
  have hx := BB.exec
  have hb := BB.bytes
  have hr := BB.returns
  have hts := atoms_spec (ws := wsX5_isLine) BB.pre
  have hown : s.vm.findClass RX5 = some m.cls := findClass_of_methodNamed BB.named
  have hlocks := BB.notSynchronized
  have hi1 : ∀ w ∈ u_ws RX1 TX1 7, w ∈ wsX5_isLine := by decide +kernel
  have hi5 : ∀ w ∈ u_ws RX5 TX5 9, w ∈ wsX5_isLine := by decide +kernel
  have hl := lv_entry [.ref (a 0), .int x0] (n := 2) (Nat.le_of_ble_eq_true rfl)
  rw [lg_entry_eq]
  generalize (lg_sl [.ref (a 0), .int x0] ++ List.replicate (2 - (lg_sl [.ref (a 0), .int x0]).length) Slot.unset).toArray = ls at hl ⊢
  have hl : lv_has ls 2 [(0, .ref (a 0)), (1, .int x0)] := hl
  generalize hf : f_X5_isLine K x0 = r0
  unfold f_X5_isLine at hf
  refine lv_iload_n hx hb dX5_isLine_0 rfl (lv_at hl 1 rfl) ?_
  refine lv_if_lt (tgt := 19) hx hb dX5_isLine_1 (by decide) (fun c_1 => ?_) (fun c_1 => ?_)
  · replace hf := (if_pos c_1).symm.trans hf
    refine lv_iconst (v := 0) hx hb dX5_isLine_19 (by decide) ?_
    exact W.zret (v := 0) (ty := .boolean) hx hb hr rfl (fun t ht hW => ⟨congrArg (fun z => Outcome.returned (some (.int z))) hf, ht⟩) (fun q h => absurd h List.not_mem_nil) dX5_isLine_20
  · replace hf := (if_neg c_1).symm.trans hf
    refine lv_iload_n hx hb dX5_isLine_4 rfl (lv_at hl 1 rfl) ?_
    refine lv_aload_n hx hb dX5_isLine_5 rfl (lv_at hl 0 rfl) ?_
    refine va_get (D := (dC, dI)) (ci := 5) (v := .ref (a 4)) (C := RX5) (T := TX5) (N := 9) hx hb hts hi5 hown hK hP 0 rfl rfl 1 (by decide) (hts (.fieldLink RX5 19 RX5 "book" "LFlapline$Book;") (by decide +kernel)) (fun _ h9 => h9) rfl dX5_isLine_6 ?_
    refine va_getN (D := (dC, dI)) (ci := 1) (v := .int K.2.2.2.2.2.2) (C := RX1) (T := TX1) (N := 7) hx hb hts hi1 hown hK hP 4 rfl rfl 6 (by decide) (nf_RX5_95 hn) (fun _ h9 => h9) rfl dX5_isLine_9 ?_
    refine lv_icmp_ge (tgt := 19) hx hb dX5_isLine_12 (by decide) (fun c_2 => ?_) (fun c_2 => ?_)
    · replace hf := (if_pos c_2).symm.trans hf
      refine lv_iconst (v := 0) hx hb dX5_isLine_19 (by decide) ?_
      exact W.zret (v := 0) (ty := .boolean) hx hb hr rfl (fun t ht hW => ⟨congrArg (fun z => Outcome.returned (some (.int z))) hf, ht⟩) (fun q h => absurd h List.not_mem_nil) dX5_isLine_20
    · replace hf := (if_neg c_2).symm.trans hf
      refine lv_iconst (v := 1) hx hb dX5_isLine_15 (by decide) ?_
      refine lv_goto (tgt := 20) hx hb dX5_isLine_16 (by decide) ?_
      exact W.zret (v := 1) (ty := .boolean) hx hb hr rfl (fun t ht hW => ⟨congrArg (fun z => Outcome.returned (some (.int z))) hf, ht⟩) (fun q h => absurd h List.not_mem_nil) dX5_isLine_20
def f_X5_needLine (K : q_Bk) (x0 : Int32) : Option (Unit) := (if (f_X5_isLine K x0) = 0 then none else some ())
set_option maxHeartbeats 4000000 in
set_option maxRecDepth 100000 in
theorem c_X5_needLine (l : Launch) (dC : Nat → ClassId) (dI : Nat → Nat → Nat) (cI cJ : ClassId) (a : Nat → Nat) (F : q_Fl) (B : q_Bd) (K : q_Bk) (N : q_Pl) (I : q_Wi) (T : q_Rt) (x0 : Int32) (r0 : Unit) (hf : f_X5_needLine K x0 = some r0) : Met l yX5_needLine wsX5_needLine ({ frames := 1, cells := 0, slots := 0, locals := 21 } : Room) (va_Pc [.ref (a 0), .int x0] (q_B (dC, dI) vwCl (wSg a cI cJ F B K N I T) (q_ty cI cJ))) (va_Sv (fun _ => True)) 0 0 (fun _ => False) := by
  refine Met.ofW (cc := cX5_needLine) (maxL := 2) (ret := none) (by decide) rfl ?_
  intro p e s m args below meth c s₁ BB hml hv
  obtain ⟨rfl, hP, hK, hn⟩ := hv
  have hx := BB.exec
  have hb := BB.bytes
  have hr := BB.returns
  have hts := atoms_spec (ws := wsX5_needLine) BB.pre
  have hown : s.vm.findClass RX5 = some m.cls := findClass_of_methodNamed BB.named
  have hlocks := BB.notSynchronized
  have hl := lv_entry [.ref (a 0), .int x0] (n := 2) (Nat.le_of_ble_eq_true rfl)
  rw [lg_entry_eq]
  generalize (lg_sl [.ref (a 0), .int x0] ++ List.replicate (2 - (lg_sl [.ref (a 0), .int x0]).length) Slot.unset).toArray = ls at hl ⊢
  have hl : lv_has ls 2 [(0, .ref (a 0)), (1, .int x0)] := hl
  unfold f_X5_needLine at hf
  refine lv_aload_n hx hb dX5_needLine_0 rfl (lv_at hl 0 rfl) ?_
  refine lv_iload_n hx hb dX5_needLine_1 rfl (lv_at hl 1 rfl) ?_
  refine q_rV (As := [.int x0]) (rest := []) ⟨hx, hb, hml, hown, hts⟩ (c_X5_isLine l dC dI cI cJ a F B K N I T x0) (cwV 1 hts gX5_needLine_X5_isLine rfl rfl rfl (by decide +kernel) ⟨Nat.le_of_ble_eq_true rfl, Nat.le_of_ble_eq_true rfl⟩) hK hn hP (ci := 5) rfl rfl rfl hl.1 rfl (Nat.le_of_ble_eq_true rfl) dX5_needLine_2 ⟨Nat.zero_le _, Nat.zero_le _⟩ ?_
  refine lv_if_ne (tgt := 19) hx hb dX5_needLine_5 (by decide) (fun c_1 => ?_) (fun c_1 => ?_)
  · replace hf := (if_neg c_1).symm.trans hf
    replace hf := Option.some.inj hf
    exact W.vret hx hb hr (fun t ht hW => ⟨rfl, trivial, ht⟩) (fun q h => absurd h List.not_mem_nil) dX5_needLine_19
  · replace hf := (if_pos c_1).symm.trans hf
    cases hf
def f_X5_lastOffset (B : q_Bd) (K : q_Bk) (x0 : Int32) : Int32 := (if x0 < 0 then (-1) else (if (nI 8) ≤ x0 then (-1) else B.2.2.1 - (K.2.2.2.1 x0.toNatClampNeg)))
set_option maxHeartbeats 4000000 in
set_option maxRecDepth 100000 in
theorem c_X5_lastOffset (l : Launch) (dC : Nat → ClassId) (dI : Nat → Nat → Nat) (cI cJ : ClassId) (a : Nat → Nat) (F : q_Fl) (B : q_Bd) (K : q_Bk) (N : q_Pl) (I : q_Wi) (T : q_Rt) (x0 : Int32) : Met l yX5_lastOffset wsX5_lastOffset ({ frames := 0, cells := 0, slots := 0, locals := 0 } : Room) (va_Pc [.ref (a 0), .int x0] (q_B (dC, dI) vwCl (wSg a cI cJ F B K N I T) (q_ty cI cJ))) (k2_QcV (.int (f_X5_lastOffset B K x0))) 0 0 (fun _ => False) := by
  refine Met.ofW (cc := cX5_lastOffset) (maxL := 2) (ret := (some .int)) (by decide) rfl ?_
  intro p e s m args below meth c s₁ BB hml hv
  obtain ⟨rfl, hP, hK, hn⟩ := hv
  have hx := BB.exec
  have hb := BB.bytes
  have hr := BB.returns
  have hts := atoms_spec (ws := wsX5_lastOffset) BB.pre
  have hown : s.vm.findClass RX5 = some m.cls := findClass_of_methodNamed BB.named
  have hlocks := BB.notSynchronized
  have hi0 : ∀ w ∈ u_ws RX0 TX0 6, w ∈ wsX5_lastOffset := by decide +kernel
  have hi1 : ∀ w ∈ u_ws RX1 TX1 7, w ∈ wsX5_lastOffset := by decide +kernel
  have hi5 : ∀ w ∈ u_ws RX5 TX5 9, w ∈ wsX5_lastOffset := by decide +kernel
  have hl := lv_entry [.ref (a 0), .int x0] (n := 2) (Nat.le_of_ble_eq_true rfl)
  rw [lg_entry_eq]
  generalize (lg_sl [.ref (a 0), .int x0] ++ List.replicate (2 - (lg_sl [.ref (a 0), .int x0]).length) Slot.unset).toArray = ls at hl ⊢
  have hl : lv_has ls 2 [(0, .ref (a 0)), (1, .int x0)] := hl
  generalize hf : f_X5_lastOffset B K x0 = r0
  unfold f_X5_lastOffset at hf
  refine lv_iload_n hx hb dX5_lastOffset_0 rfl (lv_at hl 1 rfl) ?_
  refine lv_if_lt (tgt := 36) hx hb dX5_lastOffset_1 (by decide) (fun c_1 => ?_) (fun c_1 => ?_)
  · replace hf := (if_pos c_1).symm.trans hf
    refine lv_iconst (v := (-1)) hx hb dX5_lastOffset_36 (by decide) ?_
    exact W.iret (v := (-1)) hx hb hr (fun t ht hW => ⟨congrArg (fun z => Outcome.returned (some (.int z))) hf, ht⟩) (fun q h => absurd h List.not_mem_nil) dX5_lastOffset_37
  · replace hf := (if_neg c_1).symm.trans hf
    refine lv_iload_n hx hb dX5_lastOffset_4 rfl (lv_at hl 1 rfl) ?_
    refine lv_aload_n hx hb dX5_lastOffset_5 rfl (lv_at hl 0 rfl) ?_
    refine va_get (D := (dC, dI)) (ci := 5) (v := .ref (a 4)) (C := RX5) (T := TX5) (N := 9) hx hb hts hi5 hown hK hP 0 rfl rfl 1 (by decide) (hts (.fieldLink RX5 19 RX5 "book" "LFlapline$Book;") (by decide +kernel)) (fun _ h9 => h9) rfl dX5_lastOffset_6 ?_
    refine va_getN (D := (dC, dI)) (ci := 1) (v := .ref (a 8)) (C := RX1) (T := TX1) (N := 7) hx hb hts hi1 hown hK hP 4 rfl rfl 3 (by decide) (nf_RX5_305 hn) (fun _ h9 => h9) rfl dX5_lastOffset_9 ?_
    refine va_alen (v := nI 8) hx hb hK hP 8 0 rfl rfl rfl dX5_lastOffset_12 ?_
    refine lv_icmp_ge (tgt := 36) hx hb dX5_lastOffset_13 (by decide) (fun c_2 => ?_) (fun c_2 => ?_)
    · replace hf := (if_pos c_2).symm.trans hf
      refine lv_iconst (v := (-1)) hx hb dX5_lastOffset_36 (by decide) ?_
      exact W.iret (v := (-1)) hx hb hr (fun t ht hW => ⟨congrArg (fun z => Outcome.returned (some (.int z))) hf, ht⟩) (fun q h => absurd h List.not_mem_nil) dX5_lastOffset_37
    · replace hf := (if_neg c_2).symm.trans hf
      refine lv_aload_n hx hb dX5_lastOffset_16 rfl (lv_at hl 0 rfl) ?_
      refine va_get (D := (dC, dI)) (ci := 5) (v := .ref (a 1)) (C := RX5) (T := TX5) (N := 9) hx hb hts hi5 hown hK hP 0 rfl rfl 0 (by decide) (hts (.fieldLink RX5 10 RX5 "board" "LFlapline$Board;") (by decide +kernel)) (fun _ h9 => h9) rfl dX5_lastOffset_17 ?_
      refine va_getN (D := (dC, dI)) (ci := 0) (v := .int B.2.2.1) (C := RX0) (T := TX0) (N := 6) hx hb hts hi0 hown hK hP 1 rfl rfl 2 (by decide) (nf_RX5_61 hn) (fun _ h9 => h9) rfl dX5_lastOffset_20 ?_
      refine lv_aload_n hx hb dX5_lastOffset_23 rfl (lv_at hl 0 rfl) ?_
      refine va_get (D := (dC, dI)) (ci := 5) (v := .ref (a 4)) (C := RX5) (T := TX5) (N := 9) hx hb hts hi5 hown hK hP 0 rfl rfl 1 (by decide) (hts (.fieldLink RX5 19 RX5 "book" "LFlapline$Book;") (by decide +kernel)) (fun _ h9 => h9) rfl dX5_lastOffset_24 ?_
      refine va_getN (D := (dC, dI)) (ci := 1) (v := .ref (a 8)) (C := RX1) (T := TX1) (N := 7) hx hb hts hi1 hown hK hP 4 rfl rfl 3 (by decide) (nf_RX5_305 hn) (fun _ h9 => h9) rfl dX5_lastOffset_27 ?_
      refine lv_iload_n hx hb dX5_lastOffset_30 rfl (lv_at hl 1 rfl) ?_
      refine va_iald hx hb hK hP 8 0 rfl rfl (q_in c_1 c_2 (by decide)) dX5_lastOffset_31 ?_
      refine lv_isub hx hb dX5_lastOffset_32 ?_
      refine lv_goto (tgt := 37) hx hb dX5_lastOffset_33 (by decide) ?_
      exact W.iret (v := B.2.2.1 - (K.2.2.2.1 x0.toNatClampNeg)) hx hb hr (fun t ht hW => ⟨congrArg (fun z => Outcome.returned (some (.int z))) hf, ht⟩) (fun q h => absurd h List.not_mem_nil) dX5_lastOffset_37
def f_X5_harm (B : q_Bd) (K : q_Bk) (x0 : Int32) (x1 : Int32) : Int32 := (f_J13_bitCount_95d88 (((f_X1_placed K x0 x1) ^^^ B.2.2.2.2.2) &&& B.2.2.2.2.1))
set_option maxHeartbeats 4000000 in
set_option maxRecDepth 100000 in
theorem c_X5_harm (l : Launch) (dC : Nat → ClassId) (dI : Nat → Nat → Nat) (cI cJ : ClassId) (a : Nat → Nat) (F : q_Fl) (B : q_Bd) (K : q_Bk) (N : q_Pl) (I : q_Wi) (T : q_Rt) (x0 : Int32) (x1 : Int32) : Met l yX5_harm wsX5_harm ({ frames := 1, cells := 0, slots := 0, locals := 22 } : Room) (va_Pc [.ref (a 0), .int x0, .int x1] (q_B (dC, dI) vwCl (wSg a cI cJ F B K N I T) (q_ty cI cJ))) (k2_QcV (.int (f_X5_harm B K x0 x1))) 0 0 (fun _ => False) := by
  refine Met.ofW (cc := cX5_harm) (maxL := 3) (ret := (some .int)) (by decide) rfl ?_
  intro p e s m args below meth c s₁ BB hml hv
  obtain ⟨rfl, hP, hK, hn⟩ := hv
  have hx := BB.exec
  have hb := BB.bytes
  have hr := BB.returns
  have hts := atoms_spec (ws := wsX5_harm) BB.pre
  have hown : s.vm.findClass RX5 = some m.cls := findClass_of_methodNamed BB.named
  have hlocks := BB.notSynchronized
  have hi0 : ∀ w ∈ u_ws RX0 TX0 6, w ∈ wsX5_harm := by decide +kernel
  have hi5 : ∀ w ∈ u_ws RX5 TX5 9, w ∈ wsX5_harm := by decide +kernel
  have hl := lv_entry [.ref (a 0), .int x0, .int x1] (n := 3) (Nat.le_of_ble_eq_true rfl)
  rw [lg_entry_eq]
  generalize (lg_sl [.ref (a 0), .int x0, .int x1] ++ List.replicate (3 - (lg_sl [.ref (a 0), .int x0, .int x1]).length) Slot.unset).toArray = ls at hl ⊢
  have hl : lv_has ls 3 [(0, .ref (a 0)), (1, .int x0), (2, .int x1)] := hl
  generalize hf : f_X5_harm B K x0 x1 = r0
  unfold f_X5_harm at hf
  refine lv_aload_n hx hb dX5_harm_0 rfl (lv_at hl 0 rfl) ?_
  refine va_get (D := (dC, dI)) (ci := 5) (v := .ref (a 4)) (C := RX5) (T := TX5) (N := 9) hx hb hts hi5 hown hK hP 0 rfl rfl 1 (by decide) (hts (.fieldLink RX5 19 RX5 "book" "LFlapline$Book;") (by decide +kernel)) (fun _ h9 => h9) rfl dX5_harm_1 ?_
  refine lv_iload_n hx hb dX5_harm_4 rfl (lv_at hl 1 rfl) ?_
  refine lv_iload_n hx hb dX5_harm_5 rfl (lv_at hl 2 rfl) ?_
  refine q_rVN (As := [.int x0, .int x1]) (rest := []) ⟨hx, hb, hml, hown, hts⟩ (c_X1_placed l dC dI cI cJ (a 4) (a 5) (a 6) (a 7) (a 8) (a 9) K x0 x1) ⟨va_cnB 2 hts gX5_harm_X1_placed_n250 rfl rfl rfl (nm_RX5_250 hn) (hts (.initialized RX1) (by decide +kernel)) (by decide +kernel) ⟨Nat.le_of_ble_eq_true rfl, Nat.le_of_ble_eq_true rfl⟩, hts (.instanceMethod yX1_placed) (by decide +kernel), hts (.selects RX1 yX1_placed yX1_placed) (by decide +kernel)⟩ hK hn (hP.sub (ws' := (wBk (a 4) (a 5) (a 6) (a 7) (a 8) (a 9) cI cJ K)) [4, 5, 6, 7, 8, 9] rfl) (ci := 1) rfl rfl rfl hl.1 rfl (Nat.le_of_ble_eq_true rfl) dX5_harm_6 ⟨Nat.zero_le _, Nat.zero_le _⟩ ?_
  refine lv_aload_n hx hb dX5_harm_9 rfl (lv_at hl 0 rfl) ?_
  refine va_get (D := (dC, dI)) (ci := 5) (v := .ref (a 1)) (C := RX5) (T := TX5) (N := 9) hx hb hts hi5 hown hK hP 0 rfl rfl 0 (by decide) (hts (.fieldLink RX5 10 RX5 "board" "LFlapline$Board;") (by decide +kernel)) (fun _ h9 => h9) rfl dX5_harm_10 ?_
  refine va_getN (D := (dC, dI)) (ci := 0) (v := .long B.2.2.2.2.2) (C := RX0) (T := TX0) (N := 6) hx hb hts hi0 hown hK hP 1 rfl rfl 5 (by decide) (nf_RX5_342 hn) (fun _ h9 => h9) rfl dX5_harm_13 ?_
  refine lv_lxor hx hb dX5_harm_16 ?_
  refine lv_aload_n hx hb dX5_harm_17 rfl (lv_at hl 0 rfl) ?_
  refine va_get (D := (dC, dI)) (ci := 5) (v := .ref (a 1)) (C := RX5) (T := TX5) (N := 9) hx hb hts hi5 hown hK hP 0 rfl rfl 0 (by decide) (hts (.fieldLink RX5 10 RX5 "board" "LFlapline$Board;") (by decide +kernel)) (fun _ h9 => h9) rfl dX5_harm_18 ?_
  refine va_getN (D := (dC, dI)) (ci := 0) (v := .long B.2.2.2.2.1) (C := RX0) (T := TX0) (N := 6) hx hb hts hi0 hown hK hP 1 rfl rfl 4 (by decide) (nf_RX5_294 hn) (fun _ h9 => h9) rfl dX5_harm_21 ?_
  refine lv_land hx hb dX5_harm_24 ?_
  refine q_rS (As := [.long (((f_X1_placed K x0 x1) ^^^ B.2.2.2.2.2) &&& B.2.2.2.2.1)]) (rest := []) ⟨hx, hb, hml, hown, hts⟩ (c_J13_bitCount_95d88 l dC dI cI cJ (((f_X1_placed K x0 x1) ^^^ B.2.2.2.2.2) &&& B.2.2.2.2.1)) (va_cwS 1 hts gX5_harm_J13_bitCount_95d88 rfl rfl rfl (by decide +kernel) ⟨Nat.le_of_ble_eq_true rfl, Nat.le_of_ble_eq_true rfl⟩) hK hn (hP.sub (ws' := []) [] rfl) rfl hl.1 rfl (Nat.le_of_ble_eq_true rfl) dX5_harm_25 ⟨Nat.zero_le _, Nat.zero_le _⟩ ?_
  exact W.iret (v := (f_J13_bitCount_95d88 (((f_X1_placed K x0 x1) ^^^ B.2.2.2.2.2) &&& B.2.2.2.2.1))) hx hb hr (fun t ht hW => ⟨congrArg (fun z => Outcome.returned (some (.int z))) hf, ht⟩) (fun q h => absurd h List.not_mem_nil) dX5_harm_28
def fl_X5_bestOffset_7 (x0 : Int32) (B : q_Bd) (K : q_Bk) : Nat → Int32 → Int32 → Int32 → Option (Int32 × Int32 × Int32)
  | 0, _, _, _ => none
  | nn + 1, i2_7, i3_7, i4_7 => (if (f_X5_lastOffset B K x0) < i4_7 then some (i2_7, i3_7, i4_7) else (if i2_7 = (-1) then fl_X5_bestOffset_7 x0 B K nn i4_7 (f_X5_harm B K x0 i4_7) (i4_7 + 1) else (if i3_7 ≤ (f_X5_harm B K x0 i4_7) then fl_X5_bestOffset_7 x0 B K nn i2_7 i3_7 (i4_7 + 1) else fl_X5_bestOffset_7 x0 B K nn i4_7 (f_X5_harm B K x0 i4_7) (i4_7 + 1))))
def f_X5_bestOffset (B : q_Bd) (K : q_Bk) (x0 : Int32) : Option (Int32) := ((fl_X5_bestOffset_7 x0 B K 1000 (-1) (-1) 0).bind fun z_4 => some z_4.1)
set_option maxHeartbeats 4000000 in
set_option maxRecDepth 100000 in
theorem c_X5_bestOffset (l : Launch) (dC : Nat → ClassId) (dI : Nat → Nat → Nat) (cI cJ : ClassId) (a : Nat → Nat) (F : q_Fl) (B : q_Bd) (K : q_Bk) (N : q_Pl) (I : q_Wi) (T : q_Rt) (x0 : Int32) (r0 : Int32) (hf : f_X5_bestOffset B K x0 = some r0) : Met l yX5_bestOffset wsX5_bestOffset ({ frames := 2, cells := 0, slots := 0, locals := 44 } : Room) (va_Pc [.ref (a 0), .int x0] (q_B (dC, dI) vwCl (wSg a cI cJ F B K N I T) (q_ty cI cJ))) (k2_QcV (.int r0)) 0 0 (fun _ => False) := by
  refine Met.ofW (cc := cX5_bestOffset) (maxL := 6) (ret := (some .int)) (by decide) rfl ?_
  intro p e s m args below meth c s₁ BB hml hv
  obtain ⟨rfl, hP, hK, hn⟩ := hv
  have hx := BB.exec
  have hb := BB.bytes
  have hr := BB.returns
  have hts := atoms_spec (ws := wsX5_bestOffset) BB.pre
  have hown : s.vm.findClass RX5 = some m.cls := findClass_of_methodNamed BB.named
  have hlocks := BB.notSynchronized
  have hl := lv_entry [.ref (a 0), .int x0] (n := 6) (Nat.le_of_ble_eq_true rfl)
  rw [lg_entry_eq]
  generalize (lg_sl [.ref (a 0), .int x0] ++ List.replicate (6 - (lg_sl [.ref (a 0), .int x0]).length) Slot.unset).toArray = ls at hl ⊢
  have hl : lv_has ls 6 [(0, .ref (a 0)), (1, .int x0)] := hl
  unfold f_X5_bestOffset at hf
  refine lv_iconst (v := (-1)) hx hb dX5_bestOffset_0 (by decide) ?_
  refine lv_istore_n (lv' := [(2, .int (-1)), (0, .ref (a 0)), (1, .int x0)]) hx hb dX5_bestOffset_1 rfl hl (by decide) rfl (fun ls hl => ?_)
  refine lv_iconst (v := (-1)) hx hb dX5_bestOffset_2 (by decide) ?_
  refine lv_istore_n (lv' := [(3, .int (-1)), (2, .int (-1)), (0, .ref (a 0)), (1, .int x0)]) hx hb dX5_bestOffset_3 rfl hl (by decide) rfl (fun ls hl => ?_)
  refine lv_iconst (v := 0) hx hb dX5_bestOffset_4 (by decide) ?_
  refine lv_istore (lv' := [(4, .int 0), (3, .int (-1)), (2, .int (-1)), (0, .ref (a 0)), (1, .int x0)]) hx hb dX5_bestOffset_5 hl (by decide) rfl (fun ls hl => ?_)
  have L_7 : ∀ (nn : Nat) (i2_7 : Int32) (i3_7 : Int32) (i4_7 : Int32) (ls : Array Slot) (z_7 : (Int32 × Int32 × Int32)), lv_has ls 6 [(4, .int i4_7), (3, .int i3_7), (2, .int i2_7), (0, .ref (a 0)), (1, .int x0)] → fl_X5_bestOffset_7 x0 B K nn i2_7 i3_7 i4_7 = some z_7 → (∀ (ls : Array Slot), lv_has ls 6 [(4, .int z_7.2.2), (3, .int z_7.2.1), (2, .int z_7.1), (0, .ref (a 0)), (1, .int x0)] → W p l e (headSpec wsX5_bestOffset ({ frames := 2, cells := 0, slots := 0, locals := 44 } : Room)).room s m [.ref (a 0), .int x0].toArray below meth c s.heap [] 0 0 (MQ below (k2_QcV (.int r0)) [.ref (a 0), .int x0].toArray s 0 0 (fun _ => False)) (F0 m 49 ls [])) → W p l e (headSpec wsX5_bestOffset ({ frames := 2, cells := 0, slots := 0, locals := 44 } : Room)).room s m [.ref (a 0), .int x0].toArray below meth c s.heap [] 0 0 (MQ below (k2_QcV (.int r0)) [.ref (a 0), .int x0].toArray s 0 0 (fun _ => False)) (F0 m 7 ls []) := by
    intro nn
    induction nn with
    | zero =>
      intro i2_7 i3_7 i4_7  ls z_7 hl hf hex_7
      rw [fl_X5_bestOffset_7] at hf
      cases hf
    | succ nn ih =>
      intro i2_7 i3_7 i4_7  ls z_7 hl hf hex_7
      rw [fl_X5_bestOffset_7] at hf
      refine lv_iload hx hb dX5_bestOffset_7 (lv_at hl 0 rfl) ?_
      refine lv_aload_n hx hb dX5_bestOffset_9 rfl (lv_at hl 3 rfl) ?_
      refine lv_iload_n hx hb dX5_bestOffset_10 rfl (lv_at hl 4 rfl) ?_
      refine q_rV (As := [.int x0]) (rest := [.int i4_7]) ⟨hx, hb, hml, hown, hts⟩ (c_X5_lastOffset l dC dI cI cJ a F B K N I T x0) (cwV 1 hts gX5_bestOffset_X5_lastOffset rfl rfl rfl (by decide +kernel) ⟨Nat.le_of_ble_eq_true rfl, Nat.le_of_ble_eq_true rfl⟩) hK hn hP (ci := 5) rfl rfl rfl hl.1 rfl (Nat.le_of_ble_eq_true rfl) dX5_bestOffset_11 ⟨Nat.zero_le _, Nat.zero_le _⟩ ?_
      refine lv_icmp_gt (tgt := 49) hx hb dX5_bestOffset_14 (by decide) (fun c_1 => ?_) (fun c_1 => ?_)
      · replace hf := (if_pos c_1).symm.trans hf
        replace hf := Option.some.inj hf
        subst hf
        exact hex_7 ls (lv_sub hl [0, 1, 2, 3, 4] rfl)
      · replace hf := (if_neg c_1).symm.trans hf
        refine lv_aload_n hx hb dX5_bestOffset_17 rfl (lv_at hl 3 rfl) ?_
        refine lv_iload_n hx hb dX5_bestOffset_18 rfl (lv_at hl 4 rfl) ?_
        refine lv_iload hx hb dX5_bestOffset_19 (lv_at hl 0 rfl) ?_
        refine q_rV (As := [.int x0, .int i4_7]) (rest := []) ⟨hx, hb, hml, hown, hts⟩ (c_X5_harm l dC dI cI cJ a F B K N I T x0 i4_7) (cwV 2 hts gX5_bestOffset_X5_harm rfl rfl rfl (by decide +kernel) ⟨Nat.le_of_ble_eq_true rfl, Nat.le_of_ble_eq_true rfl⟩) hK hn hP (ci := 5) rfl rfl rfl hl.1 rfl (Nat.le_of_ble_eq_true rfl) dX5_bestOffset_21 ⟨Nat.zero_le _, Nat.zero_le _⟩ ?_
        refine lv_istore (lv' := [(5, .int (f_X5_harm B K x0 i4_7)), (4, .int i4_7), (3, .int i3_7), (2, .int i2_7), (0, .ref (a 0)), (1, .int x0)]) hx hb dX5_bestOffset_24 hl (by decide) rfl (fun ls hl => ?_)
        refine lv_iload_n hx hb dX5_bestOffset_26 rfl (lv_at hl 3 rfl) ?_
        refine lv_iconst (v := (-1)) hx hb dX5_bestOffset_27 (by decide) ?_
        refine lv_icmp_eq (tgt := 37) hx hb dX5_bestOffset_28 (by decide) (fun c_2 => ?_) (fun c_2 => ?_)
        · replace hf := (if_pos c_2).symm.trans hf
          refine lv_iload hx hb dX5_bestOffset_37 (lv_at hl 1 rfl) ?_
          refine lv_istore_n (lv' := [(2, .int i4_7), (5, .int (f_X5_harm B K x0 i4_7)), (4, .int i4_7), (3, .int i3_7), (0, .ref (a 0)), (1, .int x0)]) hx hb dX5_bestOffset_39 rfl hl (by decide) rfl (fun ls hl => ?_)
          refine lv_iload hx hb dX5_bestOffset_40 (lv_at hl 1 rfl) ?_
          refine lv_istore_n (lv' := [(3, .int (f_X5_harm B K x0 i4_7)), (2, .int i4_7), (5, .int (f_X5_harm B K x0 i4_7)), (4, .int i4_7), (0, .ref (a 0)), (1, .int x0)]) hx hb dX5_bestOffset_42 rfl hl (by decide) rfl (fun ls hl => ?_)
          refine lv_iinc (v := i4_7 + 1) (lv' := [(4, .int (i4_7 + 1)), (3, .int (f_X5_harm B K x0 i4_7)), (2, .int i4_7), (5, .int (f_X5_harm B K x0 i4_7)), (0, .ref (a 0)), (1, .int x0)]) hx hb dX5_bestOffset_43 hl (k := 3) rfl rfl (by decide) rfl (fun ls hl => ?_)
          refine lv_goto (tgt := 7) hx hb dX5_bestOffset_46 (by decide) ?_
          exact ih i4_7 (f_X5_harm B K x0 i4_7) (i4_7 + 1) ls _ (lv_sub hl [0, 1, 2, 4, 5] rfl) hf hex_7
        · replace hf := (if_neg c_2).symm.trans hf
          refine lv_iload hx hb dX5_bestOffset_31 (lv_at hl 0 rfl) ?_
          refine lv_iload_n hx hb dX5_bestOffset_33 rfl (lv_at hl 2 rfl) ?_
          refine lv_icmp_ge (tgt := 43) hx hb dX5_bestOffset_34 (by decide) (fun c_3 => ?_) (fun c_3 => ?_)
          · replace hf := (if_pos c_3).symm.trans hf
            refine lv_iinc (v := i4_7 + 1) (lv' := [(4, .int (i4_7 + 1)), (5, .int (f_X5_harm B K x0 i4_7)), (3, .int i3_7), (2, .int i2_7), (0, .ref (a 0)), (1, .int x0)]) hx hb dX5_bestOffset_43 hl (k := 1) rfl rfl (by decide) rfl (fun ls hl => ?_)
            refine lv_goto (tgt := 7) hx hb dX5_bestOffset_46 (by decide) ?_
            exact ih i2_7 i3_7 (i4_7 + 1) ls _ (lv_sub hl [0, 2, 3, 4, 5] rfl) hf hex_7
          · replace hf := (if_neg c_3).symm.trans hf
            refine lv_iload hx hb dX5_bestOffset_37 (lv_at hl 1 rfl) ?_
            refine lv_istore_n (lv' := [(2, .int i4_7), (5, .int (f_X5_harm B K x0 i4_7)), (4, .int i4_7), (3, .int i3_7), (0, .ref (a 0)), (1, .int x0)]) hx hb dX5_bestOffset_39 rfl hl (by decide) rfl (fun ls hl => ?_)
            refine lv_iload hx hb dX5_bestOffset_40 (lv_at hl 1 rfl) ?_
            refine lv_istore_n (lv' := [(3, .int (f_X5_harm B K x0 i4_7)), (2, .int i4_7), (5, .int (f_X5_harm B K x0 i4_7)), (4, .int i4_7), (0, .ref (a 0)), (1, .int x0)]) hx hb dX5_bestOffset_42 rfl hl (by decide) rfl (fun ls hl => ?_)
            refine lv_iinc (v := i4_7 + 1) (lv' := [(4, .int (i4_7 + 1)), (3, .int (f_X5_harm B K x0 i4_7)), (2, .int i4_7), (5, .int (f_X5_harm B K x0 i4_7)), (0, .ref (a 0)), (1, .int x0)]) hx hb dX5_bestOffset_43 hl (k := 3) rfl rfl (by decide) rfl (fun ls hl => ?_)
            refine lv_goto (tgt := 7) hx hb dX5_bestOffset_46 (by decide) ?_
            exact ih i4_7 (f_X5_harm B K x0 i4_7) (i4_7 + 1) ls _ (lv_sub hl [0, 1, 2, 4, 5] rfl) hf hex_7
  obtain ⟨z_4, hz_4, hf⟩ := Option.bind_eq_some_iff.mp hf
  refine L_7 1000 (-1) (-1) 0 ls z_4 (lv_sub hl [0, 1, 2, 3, 4] rfl) hz_4 (fun ls hl => ?_)
  refine lv_iload_n hx hb dX5_bestOffset_49 rfl (lv_at hl 2 rfl) ?_
  replace hf := Option.some.inj hf
  exact W.iret (v := z_4.1) hx hb hr (fun t ht hW => ⟨congrArg (fun z => Outcome.returned (some (.int z))) hf, ht⟩) (fun q h => absurd h List.not_mem_nil) dX5_bestOffset_50
def f_X5_goalAt (B : q_Bd) (K : q_Bk) (x0 : Int32) (x1 : Int32) : Int64 := (f_X0_withStuck B (f_X1_placed K x0 x1))
set_option maxHeartbeats 4000000 in
set_option maxRecDepth 100000 in
theorem c_X5_goalAt (l : Launch) (dC : Nat → ClassId) (dI : Nat → Nat → Nat) (cI cJ : ClassId) (a : Nat → Nat) (F : q_Fl) (B : q_Bd) (K : q_Bk) (N : q_Pl) (I : q_Wi) (T : q_Rt) (x0 : Int32) (x1 : Int32) : Met l yX5_goalAt wsX5_goalAt ({ frames := 1, cells := 0, slots := 0, locals := 22 } : Room) (va_Pc [.ref (a 0), .int x0, .int x1] (q_B (dC, dI) vwCl (wSg a cI cJ F B K N I T) (q_ty cI cJ))) (k2_QcV (.long (f_X5_goalAt B K x0 x1))) 0 0 (fun _ => False) := by
  refine Met.ofW (cc := cX5_goalAt) (maxL := 3) (ret := (some .long)) (by decide) rfl ?_
  intro p e s m args below meth c s₁ BB hml hv
  obtain ⟨rfl, hP, hK, hn⟩ := hv
  have hx := BB.exec
  have hb := BB.bytes
  have hr := BB.returns
  have hts := atoms_spec (ws := wsX5_goalAt) BB.pre
  have hown : s.vm.findClass RX5 = some m.cls := findClass_of_methodNamed BB.named
  have hlocks := BB.notSynchronized
  have hi5 : ∀ w ∈ u_ws RX5 TX5 9, w ∈ wsX5_goalAt := by decide +kernel
  have hl := lv_entry [.ref (a 0), .int x0, .int x1] (n := 3) (Nat.le_of_ble_eq_true rfl)
  rw [lg_entry_eq]
  generalize (lg_sl [.ref (a 0), .int x0, .int x1] ++ List.replicate (3 - (lg_sl [.ref (a 0), .int x0, .int x1]).length) Slot.unset).toArray = ls at hl ⊢
  have hl : lv_has ls 3 [(0, .ref (a 0)), (1, .int x0), (2, .int x1)] := hl
  generalize hf : f_X5_goalAt B K x0 x1 = r0
  unfold f_X5_goalAt at hf
  refine lv_aload_n hx hb dX5_goalAt_0 rfl (lv_at hl 0 rfl) ?_
  refine va_get (D := (dC, dI)) (ci := 5) (v := .ref (a 1)) (C := RX5) (T := TX5) (N := 9) hx hb hts hi5 hown hK hP 0 rfl rfl 0 (by decide) (hts (.fieldLink RX5 10 RX5 "board" "LFlapline$Board;") (by decide +kernel)) (fun _ h9 => h9) rfl dX5_goalAt_1 ?_
  refine lv_aload_n hx hb dX5_goalAt_4 rfl (lv_at hl 0 rfl) ?_
  refine va_get (D := (dC, dI)) (ci := 5) (v := .ref (a 4)) (C := RX5) (T := TX5) (N := 9) hx hb hts hi5 hown hK hP 0 rfl rfl 1 (by decide) (hts (.fieldLink RX5 19 RX5 "book" "LFlapline$Book;") (by decide +kernel)) (fun _ h9 => h9) rfl dX5_goalAt_5 ?_
  refine lv_iload_n hx hb dX5_goalAt_8 rfl (lv_at hl 1 rfl) ?_
  refine lv_iload_n hx hb dX5_goalAt_9 rfl (lv_at hl 2 rfl) ?_
  refine q_rVN (As := [.int x0, .int x1]) (rest := [.ref (a 1)]) ⟨hx, hb, hml, hown, hts⟩ (c_X1_placed l dC dI cI cJ (a 4) (a 5) (a 6) (a 7) (a 8) (a 9) K x0 x1) ⟨va_cnB 2 hts gX5_goalAt_X1_placed_n250 rfl rfl rfl (nm_RX5_250 hn) (hts (.initialized RX1) (by decide +kernel)) (by decide +kernel) ⟨Nat.le_of_ble_eq_true rfl, Nat.le_of_ble_eq_true rfl⟩, hts (.instanceMethod yX1_placed) (by decide +kernel), hts (.selects RX1 yX1_placed yX1_placed) (by decide +kernel)⟩ hK hn (hP.sub (ws' := (wBk (a 4) (a 5) (a 6) (a 7) (a 8) (a 9) cI cJ K)) [4, 5, 6, 7, 8, 9] rfl) (ci := 1) rfl rfl rfl hl.1 rfl (Nat.le_of_ble_eq_true rfl) dX5_goalAt_10 ⟨Nat.zero_le _, Nat.zero_le _⟩ ?_
  refine q_rVN (As := [.long (f_X1_placed K x0 x1)]) (rest := []) ⟨hx, hb, hml, hown, hts⟩ (c_X0_withStuck l dC dI cI cJ (a 1) (a 2) (a 3) B (f_X1_placed K x0 x1)) ⟨va_cnB 1 hts gX5_goalAt_X0_withStuck_n351 rfl rfl rfl (nm_RX5_351 hn) (hts (.initialized RX0) (by decide +kernel)) (by decide +kernel) ⟨Nat.le_of_ble_eq_true rfl, Nat.le_of_ble_eq_true rfl⟩, hts (.instanceMethod yX0_withStuck) (by decide +kernel), hts (.selects RX0 yX0_withStuck yX0_withStuck) (by decide +kernel)⟩ hK hn (hP.sub (ws' := (wBd (a 1) (a 2) (a 3) cI B)) [1, 2, 3] rfl) (ci := 0) rfl rfl rfl hl.1 rfl (Nat.le_of_ble_eq_true rfl) dX5_goalAt_13 ⟨Nat.zero_le _, Nat.zero_le _⟩ ?_
  exact W.lret (v := (f_X0_withStuck B (f_X1_placed K x0 x1))) hx hb hr (fun t ht hW => ⟨congrArg (fun z => Outcome.returned (some (.long z))) hf, ht⟩) (fun q h => absurd h List.not_mem_nil) dX5_goalAt_16
def fl_X5_distance_6 (x0 : Int64) (x1 : Int32) (B : q_Bd) (K : q_Bk) : Nat → Int32 → Int32 → Option (Int32 × Int32)
  | 0, _, _ => none
  | nn + 1, i4_6, i5_6 => (if (f_X5_lastOffset B K x1) < i5_6 then some (i4_6, i5_6) else fl_X5_distance_6 x0 x1 B K nn (f_X5_lesser i4_6 (f_J13_bitCount_95d88 (x0 ^^^ (f_X1_placed K x1 i5_6)))) (i5_6 + 1))
def f_X5_distance (B : q_Bd) (K : q_Bk) (x0 : Int64) (x1 : Int32) : Option (Int32) := ((fl_X5_distance_6 x0 x1 B K 1000 (-1) 0).bind fun z_2 => some z_2.1)
set_option maxHeartbeats 4000000 in
set_option maxRecDepth 100000 in
theorem c_X5_distance (l : Launch) (dC : Nat → ClassId) (dI : Nat → Nat → Nat) (cI cJ : ClassId) (a : Nat → Nat) (F : q_Fl) (B : q_Bd) (K : q_Bk) (N : q_Pl) (I : q_Wi) (T : q_Rt) (x0 : Int64) (x1 : Int32) (r0 : Int32) (hf : f_X5_distance B K x0 x1 = some r0) : Met l yX5_distance wsX5_distance ({ frames := 1, cells := 0, slots := 0, locals := 22 } : Room) (va_Pc [.ref (a 0), .long x0, .int x1] (q_B (dC, dI) vwCl (wSg a cI cJ F B K N I T) (q_ty cI cJ))) (k2_QcV (.int r0)) 0 0 (fun _ => False) := by
  refine Met.ofW (cc := cX5_distance) (maxL := 6) (ret := (some .int)) (by decide) rfl ?_
  intro p e s m args below meth c s₁ BB hml hv
  obtain ⟨rfl, hP, hK, hn⟩ := hv
  have hx := BB.exec
  have hb := BB.bytes
  have hr := BB.returns
  have hts := atoms_spec (ws := wsX5_distance) BB.pre
  have hown : s.vm.findClass RX5 = some m.cls := findClass_of_methodNamed BB.named
  have hlocks := BB.notSynchronized
  have hi5 : ∀ w ∈ u_ws RX5 TX5 9, w ∈ wsX5_distance := by decide +kernel
  have hl := lv_entry [.ref (a 0), .long x0, .int x1] (n := 6) (Nat.le_of_ble_eq_true rfl)
  rw [lg_entry_eq]
  generalize (lg_sl [.ref (a 0), .long x0, .int x1] ++ List.replicate (6 - (lg_sl [.ref (a 0), .long x0, .int x1]).length) Slot.unset).toArray = ls at hl ⊢
  have hl : lv_has ls 6 [(0, .ref (a 0)), (1, .long x0), (3, .int x1)] := hl
  unfold f_X5_distance at hf
  refine lv_iconst (v := (-1)) hx hb dX5_distance_0 (by decide) ?_
  refine lv_istore (lv' := [(4, .int (-1)), (0, .ref (a 0)), (1, .long x0), (3, .int x1)]) hx hb dX5_distance_1 hl (by decide) rfl (fun ls hl => ?_)
  refine lv_iconst (v := 0) hx hb dX5_distance_3 (by decide) ?_
  refine lv_istore (lv' := [(5, .int 0), (4, .int (-1)), (0, .ref (a 0)), (1, .long x0), (3, .int x1)]) hx hb dX5_distance_4 hl (by decide) rfl (fun ls hl => ?_)
  have L_6 : ∀ (nn : Nat) (i4_6 : Int32) (i5_6 : Int32) (ls : Array Slot) (z_6 : (Int32 × Int32)), lv_has ls 6 [(5, .int i5_6), (4, .int i4_6), (0, .ref (a 0)), (1, .long x0), (3, .int x1)] → fl_X5_distance_6 x0 x1 B K nn i4_6 i5_6 = some z_6 → (∀ (ls : Array Slot), lv_has ls 6 [(5, .int z_6.2), (4, .int z_6.1), (0, .ref (a 0)), (1, .long x0), (3, .int x1)] → W p l e (headSpec wsX5_distance ({ frames := 1, cells := 0, slots := 0, locals := 22 } : Room)).room s m [.ref (a 0), .long x0, .int x1].toArray below meth c s.heap [] 0 0 (MQ below (k2_QcV (.int r0)) [.ref (a 0), .long x0, .int x1].toArray s 0 0 (fun _ => False)) (F0 m 44 ls [])) → W p l e (headSpec wsX5_distance ({ frames := 1, cells := 0, slots := 0, locals := 22 } : Room)).room s m [.ref (a 0), .long x0, .int x1].toArray below meth c s.heap [] 0 0 (MQ below (k2_QcV (.int r0)) [.ref (a 0), .long x0, .int x1].toArray s 0 0 (fun _ => False)) (F0 m 6 ls []) := by
    intro nn
    induction nn with
    | zero =>
      intro i4_6 i5_6  ls z_6 hl hf hex_6
      rw [fl_X5_distance_6] at hf
      cases hf
    | succ nn ih =>
      intro i4_6 i5_6  ls z_6 hl hf hex_6
      rw [fl_X5_distance_6] at hf
      refine lv_iload hx hb dX5_distance_6 (lv_at hl 0 rfl) ?_
      refine lv_aload_n hx hb dX5_distance_8 rfl (lv_at hl 2 rfl) ?_
      refine lv_iload_n hx hb dX5_distance_9 rfl (lv_at hl 4 rfl) ?_
      refine q_rV (As := [.int x1]) (rest := [.int i5_6]) ⟨hx, hb, hml, hown, hts⟩ (c_X5_lastOffset l dC dI cI cJ a F B K N I T x1) (cwV 1 hts gX5_distance_X5_lastOffset rfl rfl rfl (by decide +kernel) ⟨Nat.le_of_ble_eq_true rfl, Nat.le_of_ble_eq_true rfl⟩) hK hn hP (ci := 5) rfl rfl rfl hl.1 rfl (Nat.le_of_ble_eq_true rfl) dX5_distance_10 ⟨Nat.zero_le _, Nat.zero_le _⟩ ?_
      refine lv_icmp_gt (tgt := 44) hx hb dX5_distance_13 (by decide) (fun c_1 => ?_) (fun c_1 => ?_)
      · replace hf := (if_pos c_1).symm.trans hf
        replace hf := Option.some.inj hf
        subst hf
        exact hex_6 ls (lv_sub hl [0, 1, 2, 3, 4] rfl)
      · replace hf := (if_neg c_1).symm.trans hf
        refine lv_iload hx hb dX5_distance_16 (lv_at hl 1 rfl) ?_
        refine lv_lload_n hx hb dX5_distance_18 rfl (lv_at hl 3 rfl) ?_
        refine lv_aload_n hx hb dX5_distance_19 rfl (lv_at hl 2 rfl) ?_
        refine va_get (D := (dC, dI)) (ci := 5) (v := .ref (a 4)) (C := RX5) (T := TX5) (N := 9) hx hb hts hi5 hown hK hP 0 rfl rfl 1 (by decide) (hts (.fieldLink RX5 19 RX5 "book" "LFlapline$Book;") (by decide +kernel)) (fun _ h9 => h9) rfl dX5_distance_20 ?_
        refine lv_iload_n hx hb dX5_distance_23 rfl (lv_at hl 4 rfl) ?_
        refine lv_iload hx hb dX5_distance_24 (lv_at hl 0 rfl) ?_
        refine q_rVN (As := [.int x1, .int i5_6]) (rest := [.long x0, .int i4_6]) ⟨hx, hb, hml, hown, hts⟩ (c_X1_placed l dC dI cI cJ (a 4) (a 5) (a 6) (a 7) (a 8) (a 9) K x1 i5_6) ⟨va_cnB 2 hts gX5_distance_X1_placed_n250 rfl rfl rfl (nm_RX5_250 hn) (hts (.initialized RX1) (by decide +kernel)) (by decide +kernel) ⟨Nat.le_of_ble_eq_true rfl, Nat.le_of_ble_eq_true rfl⟩, hts (.instanceMethod yX1_placed) (by decide +kernel), hts (.selects RX1 yX1_placed yX1_placed) (by decide +kernel)⟩ hK hn (hP.sub (ws' := (wBk (a 4) (a 5) (a 6) (a 7) (a 8) (a 9) cI cJ K)) [4, 5, 6, 7, 8, 9] rfl) (ci := 1) rfl rfl rfl hl.1 rfl (Nat.le_of_ble_eq_true rfl) dX5_distance_26 ⟨Nat.zero_le _, Nat.zero_le _⟩ ?_
        refine lv_lxor hx hb dX5_distance_29 ?_
        refine q_rS (As := [.long (x0 ^^^ (f_X1_placed K x1 i5_6))]) (rest := [.int i4_6]) ⟨hx, hb, hml, hown, hts⟩ (c_J13_bitCount_95d88 l dC dI cI cJ (x0 ^^^ (f_X1_placed K x1 i5_6))) (va_cwS 1 hts gX5_distance_J13_bitCount_95d88 rfl rfl rfl (by decide +kernel) ⟨Nat.le_of_ble_eq_true rfl, Nat.le_of_ble_eq_true rfl⟩) hK hn (hP.sub (ws' := []) [] rfl) rfl hl.1 rfl (Nat.le_of_ble_eq_true rfl) dX5_distance_30 ⟨Nat.zero_le _, Nat.zero_le _⟩ ?_
        refine q_rS (As := [.int i4_6, .int (f_J13_bitCount_95d88 (x0 ^^^ (f_X1_placed K x1 i5_6)))]) (rest := []) ⟨hx, hb, hml, hown, hts⟩ (c_X5_lesser l dC dI cI cJ i4_6 (f_J13_bitCount_95d88 (x0 ^^^ (f_X1_placed K x1 i5_6)))) (va_cwS 2 hts gX5_distance_X5_lesser rfl rfl rfl (by decide +kernel) ⟨Nat.le_of_ble_eq_true rfl, Nat.le_of_ble_eq_true rfl⟩) hK hn (hP.sub (ws' := []) [] rfl) rfl hl.1 rfl (Nat.le_of_ble_eq_true rfl) dX5_distance_33 ⟨Nat.zero_le _, Nat.zero_le _⟩ ?_
        refine lv_istore (lv' := [(4, .int (f_X5_lesser i4_6 (f_J13_bitCount_95d88 (x0 ^^^ (f_X1_placed K x1 i5_6))))), (5, .int i5_6), (0, .ref (a 0)), (1, .long x0), (3, .int x1)]) hx hb dX5_distance_36 hl (by decide) rfl (fun ls hl => ?_)
        refine lv_iinc (v := i5_6 + 1) (lv' := [(5, .int (i5_6 + 1)), (4, .int (f_X5_lesser i4_6 (f_J13_bitCount_95d88 (x0 ^^^ (f_X1_placed K x1 i5_6))))), (0, .ref (a 0)), (1, .long x0), (3, .int x1)]) hx hb dX5_distance_38 hl (k := 1) rfl rfl (by decide) rfl (fun ls hl => ?_)
        refine lv_goto (tgt := 6) hx hb dX5_distance_41 (by decide) ?_
        exact ih (f_X5_lesser i4_6 (f_J13_bitCount_95d88 (x0 ^^^ (f_X1_placed K x1 i5_6)))) (i5_6 + 1) ls _ (lv_sub hl [0, 1, 2, 3, 4] rfl) hf hex_6
  obtain ⟨z_2, hz_2, hf⟩ := Option.bind_eq_some_iff.mp hf
  refine L_6 1000 (-1) 0 ls z_2 (lv_sub hl [0, 1, 2, 3, 4] rfl) hz_2 (fun ls hl => ?_)
  refine lv_iload hx hb dX5_distance_44 (lv_at hl 1 rfl) ?_
  replace hf := Option.some.inj hf
  exact W.iret (v := z_2.1) hx hb hr (fun t ht hW => ⟨congrArg (fun z => Outcome.returned (some (.int z))) hf, ht⟩) (fun q h => absurd h List.not_mem_nil) dX5_distance_46
def f_X5_says (B : q_Bd) (K : q_Bk) (x0 : Int64) (x1 : Int32) : Option (Int32) := ((f_X5_distance B K x0 x1).bind fun x_1 => (if x_1 = 0 then some 1 else some 0))
set_option maxHeartbeats 4000000 in
set_option maxRecDepth 100000 in
theorem c_X5_says (l : Launch) (dC : Nat → ClassId) (dI : Nat → Nat → Nat) (cI cJ : ClassId) (a : Nat → Nat) (F : q_Fl) (B : q_Bd) (K : q_Bk) (N : q_Pl) (I : q_Wi) (T : q_Rt) (x0 : Int64) (x1 : Int32) (r0 : Int32) (hf : f_X5_says B K x0 x1 = some r0) : Met l yX5_says wsX5_says ({ frames := 2, cells := 0, slots := 0, locals := 47 } : Room) (va_Pc [.ref (a 0), .long x0, .int x1] (q_B (dC, dI) vwCl (wSg a cI cJ F B K N I T) (q_ty cI cJ))) (k2_QcV (.int r0)) 0 0 (fun _ => False) := by
  refine Met.ofW (cc := cX5_says) (maxL := 4) (ret := (some .boolean)) (by decide) rfl ?_
  intro p e s m args below meth c s₁ BB hml hv
  obtain ⟨rfl, hP, hK, hn⟩ := hv
  have hx := BB.exec
  have hb := BB.bytes
  have hr := BB.returns
  have hts := atoms_spec (ws := wsX5_says) BB.pre
  have hown : s.vm.findClass RX5 = some m.cls := findClass_of_methodNamed BB.named
  have hlocks := BB.notSynchronized
  have hl := lv_entry [.ref (a 0), .long x0, .int x1] (n := 4) (Nat.le_of_ble_eq_true rfl)
  rw [lg_entry_eq]
  generalize (lg_sl [.ref (a 0), .long x0, .int x1] ++ List.replicate (4 - (lg_sl [.ref (a 0), .long x0, .int x1]).length) Slot.unset).toArray = ls at hl ⊢
  have hl : lv_has ls 4 [(0, .ref (a 0)), (1, .long x0), (3, .int x1)] := hl
  unfold f_X5_says at hf
  refine lv_aload_n hx hb dX5_says_0 rfl (lv_at hl 0 rfl) ?_
  refine lv_lload_n hx hb dX5_says_1 rfl (lv_at hl 1 rfl) ?_
  refine lv_iload_n hx hb dX5_says_2 rfl (lv_at hl 2 rfl) ?_
  obtain ⟨x_1, hx_1, hf⟩ := Option.bind_eq_some_iff.mp hf
  refine q_rV (As := [.long x0, .int x1]) (rest := []) ⟨hx, hb, hml, hown, hts⟩ (c_X5_distance l dC dI cI cJ a F B K N I T x0 x1 x_1 hx_1) (cwV 2 hts gX5_says_X5_distance rfl rfl rfl (by decide +kernel) ⟨Nat.le_of_ble_eq_true rfl, Nat.le_of_ble_eq_true rfl⟩) hK hn hP (ci := 5) rfl rfl rfl hl.1 rfl (Nat.le_of_ble_eq_true rfl) dX5_says_3 ⟨Nat.zero_le _, Nat.zero_le _⟩ ?_
  refine lv_if_ne (tgt := 13) hx hb dX5_says_6 (by decide) (fun c_2 => ?_) (fun c_2 => ?_)
  · replace hf := (if_neg c_2).symm.trans hf
    refine lv_iconst (v := 0) hx hb dX5_says_13 (by decide) ?_
    replace hf := Option.some.inj hf
    exact W.zret (v := 0) (ty := .boolean) hx hb hr rfl (fun t ht hW => ⟨congrArg (fun z => Outcome.returned (some (.int z))) hf, ht⟩) (fun q h => absurd h List.not_mem_nil) dX5_says_14
  · replace hf := (if_pos c_2).symm.trans hf
    refine lv_iconst (v := 1) hx hb dX5_says_9 (by decide) ?_
    refine lv_goto (tgt := 14) hx hb dX5_says_10 (by decide) ?_
    replace hf := Option.some.inj hf
    exact W.zret (v := 1) (ty := .boolean) hx hb hr rfl (fun t ht hW => ⟨congrArg (fun z => Outcome.returned (some (.int z))) hf, ht⟩) (fun q h => absurd h List.not_mem_nil) dX5_says_14
def f_X5_dot (B : q_Bd) (x0 : Int32) (x1 : Int32) (x2 : Int32) : Option (Int32) := ((f_X5_needDot B x0 x1).bind fun x_1 => (if x2 < 0 then none else (if x2 ≤ 2 then (if x2 = 0 then some (f_X0_faceOf B x0 x1) else (if x2 = 1 then some (f_X5_at 40 B.1 (f_X5_bitOf x0 x1)) else some (f_X0_stuckFaceOf B x0 x1))) else none)))
set_option maxHeartbeats 4000000 in
set_option maxRecDepth 100000 in
theorem c_X5_dot (l : Launch) (dC : Nat → ClassId) (dI : Nat → Nat → Nat) (cI cJ : ClassId) (a : Nat → Nat) (F : q_Fl) (B : q_Bd) (K : q_Bk) (N : q_Pl) (I : q_Wi) (T : q_Rt) (x0 : Int32) (x1 : Int32) (x2 : Int32) (r0 : Int32) (hf : f_X5_dot B x0 x1 x2 = some r0) : Met l yX5_dot wsX5_dot ({ frames := 3, cells := 0, slots := 0, locals := 66 } : Room) (va_Pc [.ref (a 0), .int x0, .int x1, .int x2] (q_B (dC, dI) vwCl (wSg a cI cJ F B K N I T) (q_ty cI cJ))) (k2_QcV (.int r0)) 0 0 (fun _ => False) := by
  refine Met.ofW (cc := cX5_dot) (maxL := 4) (ret := (some .int)) (by decide) rfl ?_
  intro p e s m args below meth c s₁ BB hml hv
  obtain ⟨rfl, hP, hK, hn⟩ := hv
  have hx := BB.exec
  have hb := BB.bytes
  have hr := BB.returns
  have hts := atoms_spec (ws := wsX5_dot) BB.pre
  have hown : s.vm.findClass RX5 = some m.cls := findClass_of_methodNamed BB.named
  have hlocks := BB.notSynchronized
  have hi0 : ∀ w ∈ u_ws RX0 TX0 6, w ∈ wsX5_dot := by decide +kernel
  have hi5 : ∀ w ∈ u_ws RX5 TX5 9, w ∈ wsX5_dot := by decide +kernel
  have hl := lv_entry [.ref (a 0), .int x0, .int x1, .int x2] (n := 4) (Nat.le_of_ble_eq_true rfl)
  rw [lg_entry_eq]
  generalize (lg_sl [.ref (a 0), .int x0, .int x1, .int x2] ++ List.replicate (4 - (lg_sl [.ref (a 0), .int x0, .int x1, .int x2]).length) Slot.unset).toArray = ls at hl ⊢
  have hl : lv_has ls 4 [(0, .ref (a 0)), (1, .int x0), (2, .int x1), (3, .int x2)] := hl
  unfold f_X5_dot at hf
  refine lv_aload_n hx hb dX5_dot_0 rfl (lv_at hl 0 rfl) ?_
  refine lv_iload_n hx hb dX5_dot_1 rfl (lv_at hl 1 rfl) ?_
  refine lv_iload_n hx hb dX5_dot_2 rfl (lv_at hl 2 rfl) ?_
  obtain ⟨x_1, hx_1, hf⟩ := Option.bind_eq_some_iff.mp hf
  refine q_vV (As := [.int x0, .int x1]) (rest := []) ⟨hx, hb, hml, hown, hts⟩ (c_X5_needDot l dC dI cI cJ a F B K N I T x0 x1 x_1 hx_1) (cwV 2 hts gX5_dot_X5_needDot rfl rfl rfl (by decide +kernel) ⟨Nat.le_of_ble_eq_true rfl, Nat.le_of_ble_eq_true rfl⟩) hK hn hP (ci := 5) rfl rfl rfl hl.1 rfl (Nat.le_of_ble_eq_true rfl) dX5_dot_3 ⟨Nat.zero_le _, Nat.zero_le _⟩ ?_
  refine lv_iload_n hx hb dX5_dot_6 rfl (lv_at hl 3 rfl) ?_
  refine lv_if_lt (tgt := 15) hx hb dX5_dot_7 (by decide) (fun c_2 => ?_) (fun c_2 => ?_)
  · replace hf := (if_pos c_2).symm.trans hf
    cases hf
  · replace hf := (if_neg c_2).symm.trans hf
    refine lv_iload_n hx hb dX5_dot_10 rfl (lv_at hl 3 rfl) ?_
    refine lv_iconst (v := 2) hx hb dX5_dot_11 (by decide) ?_
    refine lv_icmp_le (tgt := 25) hx hb dX5_dot_12 (by decide) (fun c_3 => ?_) (fun c_3 => ?_)
    · replace hf := (if_pos c_3).symm.trans hf
      refine lv_iload_n hx hb dX5_dot_25 rfl (lv_at hl 3 rfl) ?_
      refine lv_if_ne (tgt := 39) hx hb dX5_dot_26 (by decide) (fun c_4 => ?_) (fun c_4 => ?_)
      · replace hf := (if_neg c_4).symm.trans hf
        refine lv_iload_n hx hb dX5_dot_39 rfl (lv_at hl 3 rfl) ?_
        refine lv_iconst (v := 1) hx hb dX5_dot_40 (by decide) ?_
        refine lv_icmp_ne (tgt := 62) hx hb dX5_dot_41 (by decide) (fun c_5 => ?_) (fun c_5 => ?_)
        · replace hf := (if_neg c_5).symm.trans hf
          refine lv_aload_n hx hb dX5_dot_62 rfl (lv_at hl 0 rfl) ?_
          refine va_get (D := (dC, dI)) (ci := 5) (v := .ref (a 1)) (C := RX5) (T := TX5) (N := 9) hx hb hts hi5 hown hK hP 0 rfl rfl 0 (by decide) (hts (.fieldLink RX5 10 RX5 "board" "LFlapline$Board;") (by decide +kernel)) (fun _ h9 => h9) rfl dX5_dot_63 ?_
          refine lv_iload_n hx hb dX5_dot_66 rfl (lv_at hl 1 rfl) ?_
          refine lv_iload_n hx hb dX5_dot_67 rfl (lv_at hl 2 rfl) ?_
          refine q_rVN (As := [.int x0, .int x1]) (rest := []) ⟨hx, hb, hml, hown, hts⟩ (c_X0_stuckFaceOf l dC dI cI cJ (a 1) (a 2) (a 3) B x0 x1) ⟨va_cnB 2 hts gX5_dot_X0_stuckFaceOf_n202 rfl rfl rfl (nm_RX5_202 hn) (hts (.initialized RX0) (by decide +kernel)) (by decide +kernel) ⟨Nat.le_of_ble_eq_true rfl, Nat.le_of_ble_eq_true rfl⟩, hts (.instanceMethod yX0_stuckFaceOf) (by decide +kernel), hts (.selects RX0 yX0_stuckFaceOf yX0_stuckFaceOf) (by decide +kernel)⟩ hK hn (hP.sub (ws' := (wBd (a 1) (a 2) (a 3) cI B)) [1, 2, 3] rfl) (ci := 0) rfl rfl rfl hl.1 rfl (Nat.le_of_ble_eq_true rfl) dX5_dot_68 ⟨Nat.zero_le _, Nat.zero_le _⟩ ?_
          replace hf := Option.some.inj hf
          exact W.iret (v := (f_X0_stuckFaceOf B x0 x1)) hx hb hr (fun t ht hW => ⟨congrArg (fun z => Outcome.returned (some (.int z))) hf, ht⟩) (fun q h => absurd h List.not_mem_nil) dX5_dot_71
        · replace hf := (if_pos c_5).symm.trans hf
          refine lv_aload_n hx hb dX5_dot_44 rfl (lv_at hl 0 rfl) ?_
          refine va_get (D := (dC, dI)) (ci := 5) (v := .ref (a 1)) (C := RX5) (T := TX5) (N := 9) hx hb hts hi5 hown hK hP 0 rfl rfl 0 (by decide) (hts (.fieldLink RX5 10 RX5 "board" "LFlapline$Board;") (by decide +kernel)) (fun _ h9 => h9) rfl dX5_dot_45 ?_
          refine va_getN (D := (dC, dI)) (ci := 0) (v := .ref (a 2)) (C := RX0) (T := TX0) (N := 6) hx hb hts hi0 hown hK hP 1 rfl rfl 0 (by decide) (nf_RX5_196 hn) (fun _ h9 => h9) rfl dX5_dot_48 ?_
          refine lv_iload_n hx hb dX5_dot_51 rfl (lv_at hl 1 rfl) ?_
          refine lv_iload_n hx hb dX5_dot_52 rfl (lv_at hl 2 rfl) ?_
          refine q_rS (As := [.int x0, .int x1]) (rest := [.ref (a 2)]) ⟨hx, hb, hml, hown, hts⟩ (c_X5_bitOf l dC dI cI cJ x0 x1) (va_cwS 2 hts gX5_dot_X5_bitOf rfl rfl rfl (by decide +kernel) ⟨Nat.le_of_ble_eq_true rfl, Nat.le_of_ble_eq_true rfl⟩) hK hn (hP.sub (ws' := []) [] rfl) rfl hl.1 rfl (Nat.le_of_ble_eq_true rfl) dX5_dot_53 ⟨Nat.zero_le _, Nat.zero_le _⟩ ?_
          refine q_rS (As := [.ref (a 2), .int (f_X5_bitOf x0 x1)]) (rest := []) ⟨hx, hb, hml, hown, hts⟩ (c_X5_at l dC dI cI cJ (a 2) 40 B.1 (by decide) (f_X5_bitOf x0 x1)) (va_cwS 2 hts gX5_dot_X5_at rfl rfl rfl (by decide +kernel) ⟨Nat.le_of_ble_eq_true rfl, Nat.le_of_ble_eq_true rfl⟩) hK hn (hP.sub (ws' := [((a 2), .inl (cI, 40, .inl B.1))]) [2] rfl) rfl hl.1 rfl (Nat.le_of_ble_eq_true rfl) dX5_dot_56 ⟨Nat.zero_le _, Nat.zero_le _⟩ ?_
          refine lv_goto (tgt := 71) hx hb dX5_dot_59 (by decide) ?_
          replace hf := Option.some.inj hf
          exact W.iret (v := (f_X5_at 40 B.1 (f_X5_bitOf x0 x1))) hx hb hr (fun t ht hW => ⟨congrArg (fun z => Outcome.returned (some (.int z))) hf, ht⟩) (fun q h => absurd h List.not_mem_nil) dX5_dot_71
      · replace hf := (if_pos c_4).symm.trans hf
        refine lv_aload_n hx hb dX5_dot_29 rfl (lv_at hl 0 rfl) ?_
        refine va_get (D := (dC, dI)) (ci := 5) (v := .ref (a 1)) (C := RX5) (T := TX5) (N := 9) hx hb hts hi5 hown hK hP 0 rfl rfl 0 (by decide) (hts (.fieldLink RX5 10 RX5 "board" "LFlapline$Board;") (by decide +kernel)) (fun _ h9 => h9) rfl dX5_dot_30 ?_
        refine lv_iload_n hx hb dX5_dot_33 rfl (lv_at hl 1 rfl) ?_
        refine lv_iload_n hx hb dX5_dot_34 rfl (lv_at hl 2 rfl) ?_
        refine q_rVN (As := [.int x0, .int x1]) (rest := []) ⟨hx, hb, hml, hown, hts⟩ (c_X0_faceOf l dC dI cI cJ (a 1) (a 2) (a 3) B x0 x1) ⟨va_cnB 2 hts gX5_dot_X0_faceOf_n113 rfl rfl rfl (nm_RX5_113 hn) (hts (.initialized RX0) (by decide +kernel)) (by decide +kernel) ⟨Nat.le_of_ble_eq_true rfl, Nat.le_of_ble_eq_true rfl⟩, hts (.instanceMethod yX0_faceOf) (by decide +kernel), hts (.selects RX0 yX0_faceOf yX0_faceOf) (by decide +kernel)⟩ hK hn (hP.sub (ws' := (wBd (a 1) (a 2) (a 3) cI B)) [1, 2, 3] rfl) (ci := 0) rfl rfl rfl hl.1 rfl (Nat.le_of_ble_eq_true rfl) dX5_dot_35 ⟨Nat.zero_le _, Nat.zero_le _⟩ ?_
        replace hf := Option.some.inj hf
        exact W.iret (v := (f_X0_faceOf B x0 x1)) hx hb hr (fun t ht hW => ⟨congrArg (fun z => Outcome.returned (some (.int z))) hf, ht⟩) (fun q h => absurd h List.not_mem_nil) dX5_dot_38
    · replace hf := (if_neg c_3).symm.trans hf
      cases hf
def f_X5_columnFact (B : q_Bd) (x0 : Int32) (x1 : Int32) : Int32 := (if x1 = 0 then (f_X5_setIn B.2.2.2.1 x0) else (if x1 = 1 then (f_X5_at 8 B.2.1 x0) else (f_J6_bitCount_0f7a4 (f_X5_setIn B.2.2.2.2.1 x0))))
set_option maxHeartbeats 4000000 in
set_option maxRecDepth 100000 in
theorem c_X5_columnFact (l : Launch) (dC : Nat → ClassId) (dI : Nat → Nat → Nat) (cI cJ : ClassId) (a : Nat → Nat) (F : q_Fl) (B : q_Bd) (K : q_Bk) (N : q_Pl) (I : q_Wi) (T : q_Rt) (x0 : Int32) (x1 : Int32) : Met l yX5_columnFact wsX5_columnFact ({ frames := 1, cells := 0, slots := 0, locals := 22 } : Room) (va_Pc [.ref (a 0), .int x0, .int x1] (q_B (dC, dI) vwCl (wSg a cI cJ F B K N I T) (q_ty cI cJ))) (k2_QcV (.int (f_X5_columnFact B x0 x1))) 0 0 (fun _ => False) := by
  refine Met.ofW (cc := cX5_columnFact) (maxL := 3) (ret := (some .int)) (by decide) rfl ?_
  intro p e s m args below meth c s₁ BB hml hv
  obtain ⟨rfl, hP, hK, hn⟩ := hv
  have hx := BB.exec
  have hb := BB.bytes
  have hr := BB.returns
  have hts := atoms_spec (ws := wsX5_columnFact) BB.pre
  have hown : s.vm.findClass RX5 = some m.cls := findClass_of_methodNamed BB.named
  have hlocks := BB.notSynchronized
  have hi0 : ∀ w ∈ u_ws RX0 TX0 6, w ∈ wsX5_columnFact := by decide +kernel
  have hi5 : ∀ w ∈ u_ws RX5 TX5 9, w ∈ wsX5_columnFact := by decide +kernel
  have hl := lv_entry [.ref (a 0), .int x0, .int x1] (n := 3) (Nat.le_of_ble_eq_true rfl)
  rw [lg_entry_eq]
  generalize (lg_sl [.ref (a 0), .int x0, .int x1] ++ List.replicate (3 - (lg_sl [.ref (a 0), .int x0, .int x1]).length) Slot.unset).toArray = ls at hl ⊢
  have hl : lv_has ls 3 [(0, .ref (a 0)), (1, .int x0), (2, .int x1)] := hl
  generalize hf : f_X5_columnFact B x0 x1 = r0
  unfold f_X5_columnFact at hf
  refine lv_iload_n hx hb dX5_columnFact_0 rfl (lv_at hl 2 rfl) ?_
  refine lv_if_ne (tgt := 16) hx hb dX5_columnFact_1 (by decide) (fun c_1 => ?_) (fun c_1 => ?_)
  · replace hf := (if_neg c_1).symm.trans hf
    refine lv_iload_n hx hb dX5_columnFact_16 rfl (lv_at hl 2 rfl) ?_
    refine lv_iconst (v := 1) hx hb dX5_columnFact_17 (by decide) ?_
    refine lv_icmp_ne (tgt := 35) hx hb dX5_columnFact_18 (by decide) (fun c_2 => ?_) (fun c_2 => ?_)
    · replace hf := (if_neg c_2).symm.trans hf
      refine lv_aload_n hx hb dX5_columnFact_35 rfl (lv_at hl 0 rfl) ?_
      refine va_get (D := (dC, dI)) (ci := 5) (v := .ref (a 1)) (C := RX5) (T := TX5) (N := 9) hx hb hts hi5 hown hK hP 0 rfl rfl 0 (by decide) (hts (.fieldLink RX5 10 RX5 "board" "LFlapline$Board;") (by decide +kernel)) (fun _ h9 => h9) rfl dX5_columnFact_36 ?_
      refine va_getN (D := (dC, dI)) (ci := 0) (v := .long B.2.2.2.2.1) (C := RX0) (T := TX0) (N := 6) hx hb hts hi0 hown hK hP 1 rfl rfl 4 (by decide) (nf_RX5_294 hn) (fun _ h9 => h9) rfl dX5_columnFact_39 ?_
      refine lv_iload_n hx hb dX5_columnFact_42 rfl (lv_at hl 1 rfl) ?_
      refine q_rS (As := [.long B.2.2.2.2.1, .int x0]) (rest := []) ⟨hx, hb, hml, hown, hts⟩ (c_X5_setIn l dC dI cI cJ B.2.2.2.2.1 x0) (va_cwS 2 hts gX5_columnFact_X5_setIn rfl rfl rfl (by decide +kernel) ⟨Nat.le_of_ble_eq_true rfl, Nat.le_of_ble_eq_true rfl⟩) hK hn (hP.sub (ws' := []) [] rfl) rfl hl.1 rfl (Nat.le_of_ble_eq_true rfl) dX5_columnFact_43 ⟨Nat.zero_le _, Nat.zero_le _⟩ ?_
      refine q_rS (As := [.int (f_X5_setIn B.2.2.2.2.1 x0)]) (rest := []) ⟨hx, hb, hml, hown, hts⟩ (c_J6_bitCount_0f7a4 l dC dI cI cJ (f_X5_setIn B.2.2.2.2.1 x0)) (va_cwS 1 hts gX5_columnFact_J6_bitCount_0f7a4 rfl rfl rfl (by decide +kernel) ⟨Nat.le_of_ble_eq_true rfl, Nat.le_of_ble_eq_true rfl⟩) hK hn (hP.sub (ws' := []) [] rfl) rfl hl.1 rfl (Nat.le_of_ble_eq_true rfl) dX5_columnFact_46 ⟨Nat.zero_le _, Nat.zero_le _⟩ ?_
      exact W.iret (v := (f_J6_bitCount_0f7a4 (f_X5_setIn B.2.2.2.2.1 x0))) hx hb hr (fun t ht hW => ⟨congrArg (fun z => Outcome.returned (some (.int z))) hf, ht⟩) (fun q h => absurd h List.not_mem_nil) dX5_columnFact_49
    · replace hf := (if_pos c_2).symm.trans hf
      refine lv_aload_n hx hb dX5_columnFact_21 rfl (lv_at hl 0 rfl) ?_
      refine va_get (D := (dC, dI)) (ci := 5) (v := .ref (a 1)) (C := RX5) (T := TX5) (N := 9) hx hb hts hi5 hown hK hP 0 rfl rfl 0 (by decide) (hts (.fieldLink RX5 10 RX5 "board" "LFlapline$Board;") (by decide +kernel)) (fun _ h9 => h9) rfl dX5_columnFact_22 ?_
      refine va_getN (D := (dC, dI)) (ci := 0) (v := .ref (a 3)) (C := RX0) (T := TX0) (N := 6) hx hb hts hi0 hown hK hP 1 rfl rfl 1 (by decide) (nf_RX5_123 hn) (fun _ h9 => h9) rfl dX5_columnFact_25 ?_
      refine lv_iload_n hx hb dX5_columnFact_28 rfl (lv_at hl 1 rfl) ?_
      refine q_rS (As := [.ref (a 3), .int x0]) (rest := []) ⟨hx, hb, hml, hown, hts⟩ (c_X5_at l dC dI cI cJ (a 3) 8 B.2.1 (by decide) x0) (va_cwS 2 hts gX5_columnFact_X5_at rfl rfl rfl (by decide +kernel) ⟨Nat.le_of_ble_eq_true rfl, Nat.le_of_ble_eq_true rfl⟩) hK hn (hP.sub (ws' := [((a 3), .inl (cI, 8, .inl B.2.1))]) [3] rfl) rfl hl.1 rfl (Nat.le_of_ble_eq_true rfl) dX5_columnFact_29 ⟨Nat.zero_le _, Nat.zero_le _⟩ ?_
      refine lv_goto (tgt := 49) hx hb dX5_columnFact_32 (by decide) ?_
      exact W.iret (v := (f_X5_at 8 B.2.1 x0)) hx hb hr (fun t ht hW => ⟨congrArg (fun z => Outcome.returned (some (.int z))) hf, ht⟩) (fun q h => absurd h List.not_mem_nil) dX5_columnFact_49
  · replace hf := (if_pos c_1).symm.trans hf
    refine lv_aload_n hx hb dX5_columnFact_4 rfl (lv_at hl 0 rfl) ?_
    refine va_get (D := (dC, dI)) (ci := 5) (v := .ref (a 1)) (C := RX5) (T := TX5) (N := 9) hx hb hts hi5 hown hK hP 0 rfl rfl 0 (by decide) (hts (.fieldLink RX5 10 RX5 "board" "LFlapline$Board;") (by decide +kernel)) (fun _ h9 => h9) rfl dX5_columnFact_5 ?_
    refine va_getN (D := (dC, dI)) (ci := 0) (v := .long B.2.2.2.1) (C := RX0) (T := TX0) (N := 6) hx hb hts hi0 hown hK hP 1 rfl rfl 3 (by decide) (nf_RX5_287 hn) (fun _ h9 => h9) rfl dX5_columnFact_8 ?_
    refine lv_iload_n hx hb dX5_columnFact_11 rfl (lv_at hl 1 rfl) ?_
    refine q_rS (As := [.long B.2.2.2.1, .int x0]) (rest := []) ⟨hx, hb, hml, hown, hts⟩ (c_X5_setIn l dC dI cI cJ B.2.2.2.1 x0) (va_cwS 2 hts gX5_columnFact_X5_setIn rfl rfl rfl (by decide +kernel) ⟨Nat.le_of_ble_eq_true rfl, Nat.le_of_ble_eq_true rfl⟩) hK hn (hP.sub (ws' := []) [] rfl) rfl hl.1 rfl (Nat.le_of_ble_eq_true rfl) dX5_columnFact_12 ⟨Nat.zero_le _, Nat.zero_le _⟩ ?_
    exact W.iret (v := (f_X5_setIn B.2.2.2.1 x0)) hx hb hr (fun t ht hW => ⟨congrArg (fun z => Outcome.returned (some (.int z))) hf, ht⟩) (fun q h => absurd h List.not_mem_nil) dX5_columnFact_15
def f_X5_column (B : q_Bd) (x0 : Int32) (x1 : Int32) : Option (Int32) := ((f_X5_needColumn B x0).bind fun x_1 => (if x1 < 0 then none else (if x1 ≤ 2 then some (f_X5_columnFact B x0 x1) else none)))
set_option maxHeartbeats 4000000 in
set_option maxRecDepth 100000 in
theorem c_X5_column (l : Launch) (dC : Nat → ClassId) (dI : Nat → Nat → Nat) (cI cJ : ClassId) (a : Nat → Nat) (F : q_Fl) (B : q_Bd) (K : q_Bk) (N : q_Pl) (I : q_Wi) (T : q_Rt) (x0 : Int32) (x1 : Int32) (r0 : Int32) (hf : f_X5_column B x0 x1 = some r0) : Met l yX5_column wsX5_column ({ frames := 2, cells := 0, slots := 0, locals := 44 } : Room) (va_Pc [.ref (a 0), .int x0, .int x1] (q_B (dC, dI) vwCl (wSg a cI cJ F B K N I T) (q_ty cI cJ))) (k2_QcV (.int r0)) 0 0 (fun _ => False) := by
  refine Met.ofW (cc := cX5_column) (maxL := 3) (ret := (some .int)) (by decide) rfl ?_
  intro p e s m args below meth c s₁ BB hml hv
  obtain ⟨rfl, hP, hK, hn⟩ := hv
  have hx := BB.exec
  have hb := BB.bytes
  have hr := BB.returns
  have hts := atoms_spec (ws := wsX5_column) BB.pre
  have hown : s.vm.findClass RX5 = some m.cls := findClass_of_methodNamed BB.named
  have hlocks := BB.notSynchronized
  have hl := lv_entry [.ref (a 0), .int x0, .int x1] (n := 3) (Nat.le_of_ble_eq_true rfl)
  rw [lg_entry_eq]
  generalize (lg_sl [.ref (a 0), .int x0, .int x1] ++ List.replicate (3 - (lg_sl [.ref (a 0), .int x0, .int x1]).length) Slot.unset).toArray = ls at hl ⊢
  have hl : lv_has ls 3 [(0, .ref (a 0)), (1, .int x0), (2, .int x1)] := hl
  unfold f_X5_column at hf
  refine lv_aload_n hx hb dX5_column_0 rfl (lv_at hl 0 rfl) ?_
  refine lv_iload_n hx hb dX5_column_1 rfl (lv_at hl 1 rfl) ?_
  obtain ⟨x_1, hx_1, hf⟩ := Option.bind_eq_some_iff.mp hf
  refine q_vV (As := [.int x0]) (rest := []) ⟨hx, hb, hml, hown, hts⟩ (c_X5_needColumn l dC dI cI cJ a F B K N I T x0 x_1 hx_1) (cwV 1 hts gX5_column_X5_needColumn rfl rfl rfl (by decide +kernel) ⟨Nat.le_of_ble_eq_true rfl, Nat.le_of_ble_eq_true rfl⟩) hK hn hP (ci := 5) rfl rfl rfl hl.1 rfl (Nat.le_of_ble_eq_true rfl) dX5_column_2 ⟨Nat.zero_le _, Nat.zero_le _⟩ ?_
  refine lv_iload_n hx hb dX5_column_5 rfl (lv_at hl 2 rfl) ?_
  refine lv_if_lt (tgt := 14) hx hb dX5_column_6 (by decide) (fun c_2 => ?_) (fun c_2 => ?_)
  · replace hf := (if_pos c_2).symm.trans hf
    cases hf
  · replace hf := (if_neg c_2).symm.trans hf
    refine lv_iload_n hx hb dX5_column_9 rfl (lv_at hl 2 rfl) ?_
    refine lv_iconst (v := 2) hx hb dX5_column_10 (by decide) ?_
    refine lv_icmp_le (tgt := 24) hx hb dX5_column_11 (by decide) (fun c_3 => ?_) (fun c_3 => ?_)
    · replace hf := (if_pos c_3).symm.trans hf
      refine lv_aload_n hx hb dX5_column_24 rfl (lv_at hl 0 rfl) ?_
      refine lv_iload_n hx hb dX5_column_25 rfl (lv_at hl 1 rfl) ?_
      refine lv_iload_n hx hb dX5_column_26 rfl (lv_at hl 2 rfl) ?_
      refine q_rV (As := [.int x0, .int x1]) (rest := []) ⟨hx, hb, hml, hown, hts⟩ (c_X5_columnFact l dC dI cI cJ a F B K N I T x0 x1) (cwV 2 hts gX5_column_X5_columnFact rfl rfl rfl (by decide +kernel) ⟨Nat.le_of_ble_eq_true rfl, Nat.le_of_ble_eq_true rfl⟩) hK hn hP (ci := 5) rfl rfl rfl hl.1 rfl (Nat.le_of_ble_eq_true rfl) dX5_column_27 ⟨Nat.zero_le _, Nat.zero_le _⟩ ?_
      replace hf := Option.some.inj hf
      exact W.iret (v := (f_X5_columnFact B x0 x1)) hx hb hr (fun t ht hW => ⟨congrArg (fun z => Outcome.returned (some (.int z))) hf, ht⟩) (fun q h => absurd h List.not_mem_nil) dX5_column_30
    · replace hf := (if_neg c_3).symm.trans hf
      cases hf
def f_X5_leastHarm (B : q_Bd) (K : q_Bk) (x0 : Int32) : Option (Int32) := ((f_X5_bestOffset B K x0).bind fun x_1 => (if x_1 = (-1) then some (-1) else some (f_X5_harm B K x0 x_1)))
set_option maxHeartbeats 4000000 in
set_option maxRecDepth 100000 in
theorem c_X5_leastHarm (l : Launch) (dC : Nat → ClassId) (dI : Nat → Nat → Nat) (cI cJ : ClassId) (a : Nat → Nat) (F : q_Fl) (B : q_Bd) (K : q_Bk) (N : q_Pl) (I : q_Wi) (T : q_Rt) (x0 : Int32) (r0 : Int32) (hf : f_X5_leastHarm B K x0 = some r0) : Met l yX5_leastHarm wsX5_leastHarm ({ frames := 3, cells := 0, slots := 0, locals := 69 } : Room) (va_Pc [.ref (a 0), .int x0] (q_B (dC, dI) vwCl (wSg a cI cJ F B K N I T) (q_ty cI cJ))) (k2_QcV (.int r0)) 0 0 (fun _ => False) := by
  refine Met.ofW (cc := cX5_leastHarm) (maxL := 3) (ret := (some .int)) (by decide) rfl ?_
  intro p e s m args below meth c s₁ BB hml hv
  obtain ⟨rfl, hP, hK, hn⟩ := hv
  have hx := BB.exec
  have hb := BB.bytes
  have hr := BB.returns
  have hts := atoms_spec (ws := wsX5_leastHarm) BB.pre
  have hown : s.vm.findClass RX5 = some m.cls := findClass_of_methodNamed BB.named
  have hlocks := BB.notSynchronized
  have hl := lv_entry [.ref (a 0), .int x0] (n := 3) (Nat.le_of_ble_eq_true rfl)
  rw [lg_entry_eq]
  generalize (lg_sl [.ref (a 0), .int x0] ++ List.replicate (3 - (lg_sl [.ref (a 0), .int x0]).length) Slot.unset).toArray = ls at hl ⊢
  have hl : lv_has ls 3 [(0, .ref (a 0)), (1, .int x0)] := hl
  unfold f_X5_leastHarm at hf
  refine lv_aload_n hx hb dX5_leastHarm_0 rfl (lv_at hl 0 rfl) ?_
  refine lv_iload_n hx hb dX5_leastHarm_1 rfl (lv_at hl 1 rfl) ?_
  obtain ⟨x_1, hx_1, hf⟩ := Option.bind_eq_some_iff.mp hf
  refine q_rV (As := [.int x0]) (rest := []) ⟨hx, hb, hml, hown, hts⟩ (c_X5_bestOffset l dC dI cI cJ a F B K N I T x0 x_1 hx_1) (cwV 1 hts gX5_leastHarm_X5_bestOffset rfl rfl rfl (by decide +kernel) ⟨Nat.le_of_ble_eq_true rfl, Nat.le_of_ble_eq_true rfl⟩) hK hn hP (ci := 5) rfl rfl rfl hl.1 rfl (Nat.le_of_ble_eq_true rfl) dX5_leastHarm_2 ⟨Nat.zero_le _, Nat.zero_le _⟩ ?_
  refine lv_istore_n (lv' := [(2, .int x_1), (0, .ref (a 0)), (1, .int x0)]) hx hb dX5_leastHarm_5 rfl hl (by decide) rfl (fun ls hl => ?_)
  refine lv_iload_n hx hb dX5_leastHarm_6 rfl (lv_at hl 0 rfl) ?_
  refine lv_iconst (v := (-1)) hx hb dX5_leastHarm_7 (by decide) ?_
  refine lv_icmp_ne (tgt := 15) hx hb dX5_leastHarm_8 (by decide) (fun c_2 => ?_) (fun c_2 => ?_)
  · replace hf := (if_neg c_2).symm.trans hf
    refine lv_aload_n hx hb dX5_leastHarm_15 rfl (lv_at hl 1 rfl) ?_
    refine lv_iload_n hx hb dX5_leastHarm_16 rfl (lv_at hl 2 rfl) ?_
    refine lv_iload_n hx hb dX5_leastHarm_17 rfl (lv_at hl 0 rfl) ?_
    refine q_rV (As := [.int x0, .int x_1]) (rest := []) ⟨hx, hb, hml, hown, hts⟩ (c_X5_harm l dC dI cI cJ a F B K N I T x0 x_1) (cwV 2 hts gX5_leastHarm_X5_harm rfl rfl rfl (by decide +kernel) ⟨Nat.le_of_ble_eq_true rfl, Nat.le_of_ble_eq_true rfl⟩) hK hn hP (ci := 5) rfl rfl rfl hl.1 rfl (Nat.le_of_ble_eq_true rfl) dX5_leastHarm_18 ⟨Nat.zero_le _, Nat.zero_le _⟩ ?_
    replace hf := Option.some.inj hf
    exact W.iret (v := (f_X5_harm B K x0 x_1)) hx hb hr (fun t ht hW => ⟨congrArg (fun z => Outcome.returned (some (.int z))) hf, ht⟩) (fun q h => absurd h List.not_mem_nil) dX5_leastHarm_21
  · replace hf := (if_pos c_2).symm.trans hf
    refine lv_iconst (v := (-1)) hx hb dX5_leastHarm_11 (by decide) ?_
    refine lv_goto (tgt := 21) hx hb dX5_leastHarm_12 (by decide) ?_
    replace hf := Option.some.inj hf
    exact W.iret (v := (-1)) hx hb hr (fun t ht hW => ⟨congrArg (fun z => Outcome.returned (some (.int z))) hf, ht⟩) (fun q h => absurd h List.not_mem_nil) dX5_leastHarm_21
def f_X5_lineFact (B : q_Bd) (K : q_Bk) (N : q_Pl) (x0 : Int32) (x1 : Int32) : Option (Int32) := (if x1 = 0 then some (f_X5_at 8 K.2.2.1 x0) else if x1 = 1 then some (f_X5_at 8 K.2.2.2.1 x0) else if x1 = 2 then ((f_X5_bestOffset B K x0).bind fun x_4 => some x_4) else if x1 = 3 then ((f_X5_leastHarm B K x0).bind fun x_6 => some x_6) else if x1 = 4 then ((f_X5_distance B K B.2.2.2.1 x0).bind fun x_8 => some x_8) else if x1 = 5 then ((f_X5_says B K B.2.2.2.1 x0).bind fun x_10 => (if x_10 = 0 then some 0 else some 1)) else if x1 = 6 then some N.2.2.2.2.2.2.2 else some (f_X2_flips N))
set_option maxHeartbeats 4000000 in
set_option maxRecDepth 100000 in
theorem c_X5_lineFact (l : Launch) (dC : Nat → ClassId) (dI : Nat → Nat → Nat) (cI cJ : ClassId) (a : Nat → Nat) (F : q_Fl) (B : q_Bd) (K : q_Bk) (N : q_Pl) (I : q_Wi) (T : q_Rt) (x0 : Int32) (x1 : Int32) (r0 : Int32) (hf : f_X5_lineFact B K N x0 x1 = some r0) : Met l yX5_lineFact wsX5_lineFact ({ frames := 4, cells := 0, slots := 0, locals := 91 } : Room) (va_Pc [.ref (a 0), .int x0, .int x1] (q_B (dC, dI) vwCl (wSg a cI cJ F B K N I T) (q_ty cI cJ))) (k2_QcV (.int r0)) 0 0 (fun _ => False) := by
  refine Met.ofW (cc := cX5_lineFact) (maxL := 3) (ret := (some .int)) (by decide) rfl ?_
  intro p e s m args below meth c s₁ BB hml hv
  obtain ⟨rfl, hP, hK, hn⟩ := hv
  have hx := BB.exec
  have hb := BB.bytes
  have hr := BB.returns
  have hts := atoms_spec (ws := wsX5_lineFact) BB.pre
  have hown : s.vm.findClass RX5 = some m.cls := findClass_of_methodNamed BB.named
  have hlocks := BB.notSynchronized
  have hi0 : ∀ w ∈ u_ws RX0 TX0 6, w ∈ wsX5_lineFact := by decide +kernel
  have hi1 : ∀ w ∈ u_ws RX1 TX1 7, w ∈ wsX5_lineFact := by decide +kernel
  have hi2 : ∀ w ∈ u_ws RX2 TX2 8, w ∈ wsX5_lineFact := by decide +kernel
  have hi5 : ∀ w ∈ u_ws RX5 TX5 9, w ∈ wsX5_lineFact := by decide +kernel
  have hl := lv_entry [.ref (a 0), .int x0, .int x1] (n := 3) (Nat.le_of_ble_eq_true rfl)
  rw [lg_entry_eq]
  generalize (lg_sl [.ref (a 0), .int x0, .int x1] ++ List.replicate (3 - (lg_sl [.ref (a 0), .int x0, .int x1]).length) Slot.unset).toArray = ls at hl ⊢
  have hl : lv_has ls 3 [(0, .ref (a 0)), (1, .int x0), (2, .int x1)] := hl
  unfold f_X5_lineFact at hf
  refine lv_iload_n hx hb dX5_lineFact_0 rfl (lv_at hl 2 rfl) ?_
  by_cases c_1 : x1 = 0
  · replace hf := (if_pos c_1).symm.trans hf
    refine lv_tableIn (x := x1) (off := 43) (tgt := 44) hx hb dX5_lineFact_1 (by rw [c_1]; decide) (by rw [c_1]; decide) (by rw [c_1]; rfl) (by decide) ?_
    refine lv_aload_n hx hb dX5_lineFact_44 rfl (lv_at hl 0 rfl) ?_
    refine va_get (D := (dC, dI)) (ci := 5) (v := .ref (a 4)) (C := RX5) (T := TX5) (N := 9) hx hb hts hi5 hown hK hP 0 rfl rfl 1 (by decide) (hts (.fieldLink RX5 19 RX5 "book" "LFlapline$Book;") (by decide +kernel)) (fun _ h9 => h9) rfl dX5_lineFact_45 ?_
    refine va_getN (D := (dC, dI)) (ci := 1) (v := .ref (a 7)) (C := RX1) (T := TX1) (N := 7) hx hb hts hi1 hown hK hP 4 rfl rfl 2 (by decide) (nf_RX5_302 hn) (fun _ h9 => h9) rfl dX5_lineFact_48 ?_
    refine lv_iload_n hx hb dX5_lineFact_51 rfl (lv_at hl 1 rfl) ?_
    refine q_rS (As := [.ref (a 7), .int x0]) (rest := []) ⟨hx, hb, hml, hown, hts⟩ (c_X5_at l dC dI cI cJ (a 7) 8 K.2.2.1 (by decide) x0) (va_cwS 2 hts gX5_lineFact_X5_at rfl rfl rfl (by decide +kernel) ⟨Nat.le_of_ble_eq_true rfl, Nat.le_of_ble_eq_true rfl⟩) hK hn (hP.sub (ws' := [((a 7), .inl (cI, 8, .inl K.2.2.1))]) [7] rfl) rfl hl.1 rfl (Nat.le_of_ble_eq_true rfl) dX5_lineFact_52 ⟨Nat.zero_le _, Nat.zero_le _⟩ ?_
    replace hf := Option.some.inj hf
    exact W.iret (v := (f_X5_at 8 K.2.2.1 x0)) hx hb hr (fun t ht hW => ⟨congrArg (fun z => Outcome.returned (some (.int z))) hf, ht⟩) (fun q h => absurd h List.not_mem_nil) dX5_lineFact_55
  replace hf := (if_neg c_1).symm.trans hf
  by_cases c_2 : x1 = 1
  · replace hf := (if_pos c_2).symm.trans hf
    refine lv_tableIn (x := x1) (off := 55) (tgt := 56) hx hb dX5_lineFact_1 (by rw [c_2]; decide) (by rw [c_2]; decide) (by rw [c_2]; rfl) (by decide) ?_
    refine lv_aload_n hx hb dX5_lineFact_56 rfl (lv_at hl 0 rfl) ?_
    refine va_get (D := (dC, dI)) (ci := 5) (v := .ref (a 4)) (C := RX5) (T := TX5) (N := 9) hx hb hts hi5 hown hK hP 0 rfl rfl 1 (by decide) (hts (.fieldLink RX5 19 RX5 "book" "LFlapline$Book;") (by decide +kernel)) (fun _ h9 => h9) rfl dX5_lineFact_57 ?_
    refine va_getN (D := (dC, dI)) (ci := 1) (v := .ref (a 8)) (C := RX1) (T := TX1) (N := 7) hx hb hts hi1 hown hK hP 4 rfl rfl 3 (by decide) (nf_RX5_305 hn) (fun _ h9 => h9) rfl dX5_lineFact_60 ?_
    refine lv_iload_n hx hb dX5_lineFact_63 rfl (lv_at hl 1 rfl) ?_
    refine q_rS (As := [.ref (a 8), .int x0]) (rest := []) ⟨hx, hb, hml, hown, hts⟩ (c_X5_at l dC dI cI cJ (a 8) 8 K.2.2.2.1 (by decide) x0) (va_cwS 2 hts gX5_lineFact_X5_at rfl rfl rfl (by decide +kernel) ⟨Nat.le_of_ble_eq_true rfl, Nat.le_of_ble_eq_true rfl⟩) hK hn (hP.sub (ws' := [((a 8), .inl (cI, 8, .inl K.2.2.2.1))]) [8] rfl) rfl hl.1 rfl (Nat.le_of_ble_eq_true rfl) dX5_lineFact_64 ⟨Nat.zero_le _, Nat.zero_le _⟩ ?_
    replace hf := Option.some.inj hf
    exact W.iret (v := (f_X5_at 8 K.2.2.2.1 x0)) hx hb hr (fun t ht hW => ⟨congrArg (fun z => Outcome.returned (some (.int z))) hf, ht⟩) (fun q h => absurd h List.not_mem_nil) dX5_lineFact_67
  replace hf := (if_neg c_2).symm.trans hf
  by_cases c_3 : x1 = 2
  · replace hf := (if_pos c_3).symm.trans hf
    refine lv_tableIn (x := x1) (off := 67) (tgt := 68) hx hb dX5_lineFact_1 (by rw [c_3]; decide) (by rw [c_3]; decide) (by rw [c_3]; rfl) (by decide) ?_
    refine lv_aload_n hx hb dX5_lineFact_68 rfl (lv_at hl 0 rfl) ?_
    refine lv_iload_n hx hb dX5_lineFact_69 rfl (lv_at hl 1 rfl) ?_
    obtain ⟨x_4, hx_4, hf⟩ := Option.bind_eq_some_iff.mp hf
    refine q_rV (As := [.int x0]) (rest := []) ⟨hx, hb, hml, hown, hts⟩ (c_X5_bestOffset l dC dI cI cJ a F B K N I T x0 x_4 hx_4) (cwV 1 hts gX5_lineFact_X5_bestOffset rfl rfl rfl (by decide +kernel) ⟨Nat.le_of_ble_eq_true rfl, Nat.le_of_ble_eq_true rfl⟩) hK hn hP (ci := 5) rfl rfl rfl hl.1 rfl (Nat.le_of_ble_eq_true rfl) dX5_lineFact_70 ⟨Nat.zero_le _, Nat.zero_le _⟩ ?_
    replace hf := Option.some.inj hf
    exact W.iret (v := x_4) hx hb hr (fun t ht hW => ⟨congrArg (fun z => Outcome.returned (some (.int z))) hf, ht⟩) (fun q h => absurd h List.not_mem_nil) dX5_lineFact_73
  replace hf := (if_neg c_3).symm.trans hf
  by_cases c_5 : x1 = 3
  · replace hf := (if_pos c_5).symm.trans hf
    refine lv_tableIn (x := x1) (off := 73) (tgt := 74) hx hb dX5_lineFact_1 (by rw [c_5]; decide) (by rw [c_5]; decide) (by rw [c_5]; rfl) (by decide) ?_
    refine lv_aload_n hx hb dX5_lineFact_74 rfl (lv_at hl 0 rfl) ?_
    refine lv_iload_n hx hb dX5_lineFact_75 rfl (lv_at hl 1 rfl) ?_
    obtain ⟨x_6, hx_6, hf⟩ := Option.bind_eq_some_iff.mp hf
    refine q_rV (As := [.int x0]) (rest := []) ⟨hx, hb, hml, hown, hts⟩ (c_X5_leastHarm l dC dI cI cJ a F B K N I T x0 x_6 hx_6) (cwV 1 hts gX5_lineFact_X5_leastHarm rfl rfl rfl (by decide +kernel) ⟨Nat.le_of_ble_eq_true rfl, Nat.le_of_ble_eq_true rfl⟩) hK hn hP (ci := 5) rfl rfl rfl hl.1 rfl (Nat.le_of_ble_eq_true rfl) dX5_lineFact_76 ⟨Nat.zero_le _, Nat.zero_le _⟩ ?_
    replace hf := Option.some.inj hf
    exact W.iret (v := x_6) hx hb hr (fun t ht hW => ⟨congrArg (fun z => Outcome.returned (some (.int z))) hf, ht⟩) (fun q h => absurd h List.not_mem_nil) dX5_lineFact_79
  replace hf := (if_neg c_5).symm.trans hf
  by_cases c_7 : x1 = 4
  · replace hf := (if_pos c_7).symm.trans hf
    refine lv_tableIn (x := x1) (off := 79) (tgt := 80) hx hb dX5_lineFact_1 (by rw [c_7]; decide) (by rw [c_7]; decide) (by rw [c_7]; rfl) (by decide) ?_
    refine lv_aload_n hx hb dX5_lineFact_80 rfl (lv_at hl 0 rfl) ?_
    refine lv_aload_n hx hb dX5_lineFact_81 rfl (lv_at hl 0 rfl) ?_
    refine va_get (D := (dC, dI)) (ci := 5) (v := .ref (a 1)) (C := RX5) (T := TX5) (N := 9) hx hb hts hi5 hown hK hP 0 rfl rfl 0 (by decide) (hts (.fieldLink RX5 10 RX5 "board" "LFlapline$Board;") (by decide +kernel)) (fun _ h9 => h9) rfl dX5_lineFact_82 ?_
    refine va_getN (D := (dC, dI)) (ci := 0) (v := .long B.2.2.2.1) (C := RX0) (T := TX0) (N := 6) hx hb hts hi0 hown hK hP 1 rfl rfl 3 (by decide) (nf_RX5_287 hn) (fun _ h9 => h9) rfl dX5_lineFact_85 ?_
    refine lv_iload_n hx hb dX5_lineFact_88 rfl (lv_at hl 1 rfl) ?_
    obtain ⟨x_8, hx_8, hf⟩ := Option.bind_eq_some_iff.mp hf
    refine q_rV (As := [.long B.2.2.2.1, .int x0]) (rest := []) ⟨hx, hb, hml, hown, hts⟩ (c_X5_distance l dC dI cI cJ a F B K N I T B.2.2.2.1 x0 x_8 hx_8) (cwV 2 hts gX5_lineFact_X5_distance rfl rfl rfl (by decide +kernel) ⟨Nat.le_of_ble_eq_true rfl, Nat.le_of_ble_eq_true rfl⟩) hK hn hP (ci := 5) rfl rfl rfl hl.1 rfl (Nat.le_of_ble_eq_true rfl) dX5_lineFact_89 ⟨Nat.zero_le _, Nat.zero_le _⟩ ?_
    replace hf := Option.some.inj hf
    exact W.iret (v := x_8) hx hb hr (fun t ht hW => ⟨congrArg (fun z => Outcome.returned (some (.int z))) hf, ht⟩) (fun q h => absurd h List.not_mem_nil) dX5_lineFact_92
  replace hf := (if_neg c_7).symm.trans hf
  by_cases c_9 : x1 = 5
  · replace hf := (if_pos c_9).symm.trans hf
    refine lv_tableIn (x := x1) (off := 92) (tgt := 93) hx hb dX5_lineFact_1 (by rw [c_9]; decide) (by rw [c_9]; decide) (by rw [c_9]; rfl) (by decide) ?_
    refine lv_aload_n hx hb dX5_lineFact_93 rfl (lv_at hl 0 rfl) ?_
    refine lv_aload_n hx hb dX5_lineFact_94 rfl (lv_at hl 0 rfl) ?_
    refine va_get (D := (dC, dI)) (ci := 5) (v := .ref (a 1)) (C := RX5) (T := TX5) (N := 9) hx hb hts hi5 hown hK hP 0 rfl rfl 0 (by decide) (hts (.fieldLink RX5 10 RX5 "board" "LFlapline$Board;") (by decide +kernel)) (fun _ h9 => h9) rfl dX5_lineFact_95 ?_
    refine va_getN (D := (dC, dI)) (ci := 0) (v := .long B.2.2.2.1) (C := RX0) (T := TX0) (N := 6) hx hb hts hi0 hown hK hP 1 rfl rfl 3 (by decide) (nf_RX5_287 hn) (fun _ h9 => h9) rfl dX5_lineFact_98 ?_
    refine lv_iload_n hx hb dX5_lineFact_101 rfl (lv_at hl 1 rfl) ?_
    obtain ⟨x_10, hx_10, hf⟩ := Option.bind_eq_some_iff.mp hf
    refine q_rV (As := [.long B.2.2.2.1, .int x0]) (rest := []) ⟨hx, hb, hml, hown, hts⟩ (c_X5_says l dC dI cI cJ a F B K N I T B.2.2.2.1 x0 x_10 hx_10) (cwV 2 hts gX5_lineFact_X5_says rfl rfl rfl (by decide +kernel) ⟨Nat.le_of_ble_eq_true rfl, Nat.le_of_ble_eq_true rfl⟩) hK hn hP (ci := 5) rfl rfl rfl hl.1 rfl (Nat.le_of_ble_eq_true rfl) dX5_lineFact_102 ⟨Nat.zero_le _, Nat.zero_le _⟩ ?_
    refine lv_if_eq (tgt := 112) hx hb dX5_lineFact_105 (by decide) (fun c_11 => ?_) (fun c_11 => ?_)
    · replace hf := (if_pos c_11).symm.trans hf
      refine lv_iconst (v := 0) hx hb dX5_lineFact_112 (by decide) ?_
      replace hf := Option.some.inj hf
      exact W.iret (v := 0) hx hb hr (fun t ht hW => ⟨congrArg (fun z => Outcome.returned (some (.int z))) hf, ht⟩) (fun q h => absurd h List.not_mem_nil) dX5_lineFact_113
    · replace hf := (if_neg c_11).symm.trans hf
      refine lv_iconst (v := 1) hx hb dX5_lineFact_108 (by decide) ?_
      refine lv_goto (tgt := 113) hx hb dX5_lineFact_109 (by decide) ?_
      replace hf := Option.some.inj hf
      exact W.iret (v := 1) hx hb hr (fun t ht hW => ⟨congrArg (fun z => Outcome.returned (some (.int z))) hf, ht⟩) (fun q h => absurd h List.not_mem_nil) dX5_lineFact_113
  replace hf := (if_neg c_9).symm.trans hf
  by_cases c_12 : x1 = 6
  · replace hf := (if_pos c_12).symm.trans hf
    refine lv_tableIn (x := x1) (off := 113) (tgt := 114) hx hb dX5_lineFact_1 (by rw [c_12]; decide) (by rw [c_12]; decide) (by rw [c_12]; rfl) (by decide) ?_
    refine lv_aload_n hx hb dX5_lineFact_114 rfl (lv_at hl 0 rfl) ?_
    refine va_get (D := (dC, dI)) (ci := 5) (v := .ref (a 10)) (C := RX5) (T := TX5) (N := 9) hx hb hts hi5 hown hK hP 0 rfl rfl 2 (by decide) (hts (.fieldLink RX5 26 RX5 "planner" "LFlapline$Planner;") (by decide +kernel)) (fun _ h9 => h9) rfl dX5_lineFact_115 ?_
    refine va_getN (D := (dC, dI)) (ci := 2) (v := .int N.2.2.2.2.2.2.2) (C := RX2) (T := TX2) (N := 8) hx hb hts hi2 hown hK hP 10 rfl rfl 7 (by decide) (nf_RX5_318 hn) (fun _ h9 => h9) rfl dX5_lineFact_118 ?_
    replace hf := Option.some.inj hf
    exact W.iret (v := N.2.2.2.2.2.2.2) hx hb hr (fun t ht hW => ⟨congrArg (fun z => Outcome.returned (some (.int z))) hf, ht⟩) (fun q h => absurd h List.not_mem_nil) dX5_lineFact_121
  replace hf := (if_neg c_12).symm.trans hf
  have e_0 := q_sw x1 0 c_1 (by decide)
  have e_1 := q_sw x1 1 c_2 (by decide)
  have e_2 := q_sw x1 2 c_3 (by decide)
  have e_3 := q_sw x1 3 c_5 (by decide)
  have e_4 := q_sw x1 4 c_7 (by decide)
  have e_5 := q_sw x1 5 c_9 (by decide)
  have e_6 := q_sw x1 6 c_12 (by decide)
  have g_13 : W p l e (headSpec wsX5_lineFact ({ frames := 4, cells := 0, slots := 0, locals := 91 } : Room)).room s m [.ref (a 0), .int x0, .int x1].toArray below meth c s.heap [] 0 0 (MQ below (k2_QcV (.int r0)) [.ref (a 0), .int x0, .int x1].toArray s 0 0 (fun _ => False)) (F0 m 122 ls []) := by
    refine lv_aload_n hx hb dX5_lineFact_122 rfl (lv_at hl 0 rfl) ?_
    refine va_get (D := (dC, dI)) (ci := 5) (v := .ref (a 10)) (C := RX5) (T := TX5) (N := 9) hx hb hts hi5 hown hK hP 0 rfl rfl 2 (by decide) (hts (.fieldLink RX5 26 RX5 "planner" "LFlapline$Planner;") (by decide +kernel)) (fun _ h9 => h9) rfl dX5_lineFact_123 ?_
    refine q_rVN (As := []) (rest := []) ⟨hx, hb, hml, hown, hts⟩ (c_X2_flips l dC dI cI cJ (a 10) (a 11) (a 12) (a 13) N) ⟨va_cnB 0 hts gX5_lineFact_X2_flips_n321 rfl rfl rfl (nm_RX5_321 hn) (hts (.initialized RX2) (by decide +kernel)) (by decide +kernel) ⟨Nat.le_of_ble_eq_true rfl, Nat.le_of_ble_eq_true rfl⟩, hts (.instanceMethod yX2_flips) (by decide +kernel), hts (.selects RX2 yX2_flips yX2_flips) (by decide +kernel)⟩ hK hn (hP.sub (ws' := (wPl (a 10) (a 11) (a 12) (a 13) cI N)) [10, 11, 12, 13] rfl) (ci := 2) rfl rfl rfl hl.1 rfl (Nat.le_of_ble_eq_true rfl) dX5_lineFact_126 ⟨Nat.zero_le _, Nat.zero_le _⟩ ?_
    replace hf := Option.some.inj hf
    exact W.iret (v := (f_X2_flips N)) hx hb hr (fun t ht hW => ⟨congrArg (fun z => Outcome.returned (some (.int z))) hf, ht⟩) (fun q h => absurd h List.not_mem_nil) dX5_lineFact_129
  exact lv_tableOut (x := x1) (tgt := 122) hx hb dX5_lineFact_1 (by omega) (by decide) g_13
def fl_X5_readAs_8 (x0 : Int64) (B : q_Bd) (K : q_Bk) : Nat → Int32 → Int32 → Int32 → Option (Int32 × Int32 × Int32)
  | 0, _, _, _ => none
  | nn + 1, i3_8, i4_8, i5_8 => (if K.2.2.2.2.2.2 ≤ i5_8 then some (i3_8, i4_8, i5_8) else ((f_X5_distance B K x0 i5_8).bind fun x_2 => (if x_2 = (-1) then (if x_2 = (-1) then fl_X5_readAs_8 x0 B K nn i3_8 i4_8 (i5_8 + 1) else (if i4_8 = (-1) then fl_X5_readAs_8 x0 B K nn i5_8 x_2 (i5_8 + 1) else (if i4_8 ≤ x_2 then fl_X5_readAs_8 x0 B K nn i3_8 i4_8 (i5_8 + 1) else fl_X5_readAs_8 x0 B K nn i5_8 x_2 (i5_8 + 1)))) else (if x_2 = i4_8 then fl_X5_readAs_8 x0 B K nn (-1) i4_8 (i5_8 + 1) else (if x_2 = (-1) then fl_X5_readAs_8 x0 B K nn i3_8 i4_8 (i5_8 + 1) else (if i4_8 = (-1) then fl_X5_readAs_8 x0 B K nn i5_8 x_2 (i5_8 + 1) else (if i4_8 ≤ x_2 then fl_X5_readAs_8 x0 B K nn i3_8 i4_8 (i5_8 + 1) else fl_X5_readAs_8 x0 B K nn i5_8 x_2 (i5_8 + 1))))))))
def f_X5_readAs (F : q_Fl) (B : q_Bd) (K : q_Bk) (x0 : Int64) : Option (Int32) := ((fl_X5_readAs_8 x0 B K 1000 (-1) (-1) 0).bind fun z_11 => (if F.2.1 < z_11.2.1 then some (-1) else some z_11.1))
set_option maxHeartbeats 4000000 in
set_option maxRecDepth 100000 in
theorem c_X5_readAs (l : Launch) (dC : Nat → ClassId) (dI : Nat → Nat → Nat) (cI cJ : ClassId) (a : Nat → Nat) (F : q_Fl) (B : q_Bd) (K : q_Bk) (N : q_Pl) (I : q_Wi) (T : q_Rt) (x0 : Int64) (r0 : Int32) (hf : f_X5_readAs F B K x0 = some r0) : Met l yX5_readAs wsX5_readAs ({ frames := 2, cells := 0, slots := 0, locals := 47 } : Room) (va_Pc [.ref (a 0), .long x0] (q_B (dC, dI) vwCl (wSg a cI cJ F B K N I T) (q_ty cI cJ))) (k2_QcV (.int r0)) 0 0 (fun _ => False) := by
  refine Met.ofW (cc := cX5_readAs) (maxL := 7) (ret := (some .int)) (by decide) rfl ?_
  intro p e s m args below meth c s₁ BB hml hv
  obtain ⟨rfl, hP, hK, hn⟩ := hv
  have hx := BB.exec
  have hb := BB.bytes
  have hr := BB.returns
  have hts := atoms_spec (ws := wsX5_readAs) BB.pre
  have hown : s.vm.findClass RX5 = some m.cls := findClass_of_methodNamed BB.named
  have hlocks := BB.notSynchronized
  have hi1 : ∀ w ∈ u_ws RX1 TX1 7, w ∈ wsX5_readAs := by decide +kernel
  have hi5 : ∀ w ∈ u_ws RX5 TX5 9, w ∈ wsX5_readAs := by decide +kernel
  have hl := lv_entry [.ref (a 0), .long x0] (n := 7) (Nat.le_of_ble_eq_true rfl)
  rw [lg_entry_eq]
  generalize (lg_sl [.ref (a 0), .long x0] ++ List.replicate (7 - (lg_sl [.ref (a 0), .long x0]).length) Slot.unset).toArray = ls at hl ⊢
  have hl : lv_has ls 7 [(0, .ref (a 0)), (1, .long x0)] := hl
  unfold f_X5_readAs at hf
  refine lv_iconst (v := (-1)) hx hb dX5_readAs_0 (by decide) ?_
  refine lv_istore_n (lv' := [(3, .int (-1)), (0, .ref (a 0)), (1, .long x0)]) hx hb dX5_readAs_1 rfl hl (by decide) rfl (fun ls hl => ?_)
  refine lv_iconst (v := (-1)) hx hb dX5_readAs_2 (by decide) ?_
  refine lv_istore (lv' := [(4, .int (-1)), (3, .int (-1)), (0, .ref (a 0)), (1, .long x0)]) hx hb dX5_readAs_3 hl (by decide) rfl (fun ls hl => ?_)
  refine lv_iconst (v := 0) hx hb dX5_readAs_5 (by decide) ?_
  refine lv_istore (lv' := [(5, .int 0), (4, .int (-1)), (3, .int (-1)), (0, .ref (a 0)), (1, .long x0)]) hx hb dX5_readAs_6 hl (by decide) rfl (fun ls hl => ?_)
  have L_8 : ∀ (nn : Nat) (i3_8 : Int32) (i4_8 : Int32) (i5_8 : Int32) (ls : Array Slot) (z_8 : (Int32 × Int32 × Int32)), lv_has ls 7 [(5, .int i5_8), (4, .int i4_8), (3, .int i3_8), (0, .ref (a 0)), (1, .long x0)] → fl_X5_readAs_8 x0 B K nn i3_8 i4_8 i5_8 = some z_8 → (∀ (ls : Array Slot), lv_has ls 7 [(5, .int z_8.2.2), (4, .int z_8.2.1), (3, .int z_8.1), (0, .ref (a 0)), (1, .long x0)] → W p l e (headSpec wsX5_readAs ({ frames := 2, cells := 0, slots := 0, locals := 47 } : Room)).room s m [.ref (a 0), .long x0].toArray below meth c s.heap [] 0 0 (MQ below (k2_QcV (.int r0)) [.ref (a 0), .long x0].toArray s 0 0 (fun _ => False)) (F0 m 79 ls [])) → W p l e (headSpec wsX5_readAs ({ frames := 2, cells := 0, slots := 0, locals := 47 } : Room)).room s m [.ref (a 0), .long x0].toArray below meth c s.heap [] 0 0 (MQ below (k2_QcV (.int r0)) [.ref (a 0), .long x0].toArray s 0 0 (fun _ => False)) (F0 m 8 ls []) := by
    intro nn
    induction nn with
    | zero =>
      intro i3_8 i4_8 i5_8  ls z_8 hl hf hex_8
      rw [fl_X5_readAs_8] at hf
      cases hf
    | succ nn ih =>
      intro i3_8 i4_8 i5_8  ls z_8 hl hf hex_8
      rw [fl_X5_readAs_8] at hf
      refine lv_iload hx hb dX5_readAs_8 (lv_at hl 0 rfl) ?_
      refine lv_aload_n hx hb dX5_readAs_10 rfl (lv_at hl 3 rfl) ?_
      refine va_get (D := (dC, dI)) (ci := 5) (v := .ref (a 4)) (C := RX5) (T := TX5) (N := 9) hx hb hts hi5 hown hK hP 0 rfl rfl 1 (by decide) (hts (.fieldLink RX5 19 RX5 "book" "LFlapline$Book;") (by decide +kernel)) (fun _ h9 => h9) rfl dX5_readAs_11 ?_
      refine va_getN (D := (dC, dI)) (ci := 1) (v := .int K.2.2.2.2.2.2) (C := RX1) (T := TX1) (N := 7) hx hb hts hi1 hown hK hP 4 rfl rfl 6 (by decide) (nf_RX5_95 hn) (fun _ h9 => h9) rfl dX5_readAs_14 ?_
      refine lv_icmp_ge (tgt := 79) hx hb dX5_readAs_17 (by decide) (fun c_1 => ?_) (fun c_1 => ?_)
      · replace hf := (if_pos c_1).symm.trans hf
        replace hf := Option.some.inj hf
        subst hf
        exact hex_8 ls (lv_sub hl [0, 1, 2, 3, 4] rfl)
      · replace hf := (if_neg c_1).symm.trans hf
        refine lv_aload_n hx hb dX5_readAs_20 rfl (lv_at hl 3 rfl) ?_
        refine lv_lload_n hx hb dX5_readAs_21 rfl (lv_at hl 4 rfl) ?_
        refine lv_iload hx hb dX5_readAs_22 (lv_at hl 0 rfl) ?_
        obtain ⟨x_2, hx_2, hf⟩ := Option.bind_eq_some_iff.mp hf
        refine q_rV (As := [.long x0, .int i5_8]) (rest := []) ⟨hx, hb, hml, hown, hts⟩ (c_X5_distance l dC dI cI cJ a F B K N I T x0 i5_8 x_2 hx_2) (cwV 2 hts gX5_readAs_X5_distance rfl rfl rfl (by decide +kernel) ⟨Nat.le_of_ble_eq_true rfl, Nat.le_of_ble_eq_true rfl⟩) hK hn hP (ci := 5) rfl rfl rfl hl.1 rfl (Nat.le_of_ble_eq_true rfl) dX5_readAs_24 ⟨Nat.zero_le _, Nat.zero_le _⟩ ?_
        refine lv_istore (lv' := [(6, .int x_2), (5, .int i5_8), (4, .int i4_8), (3, .int i3_8), (0, .ref (a 0)), (1, .long x0)]) hx hb dX5_readAs_27 hl (by decide) rfl (fun ls hl => ?_)
        refine lv_iload hx hb dX5_readAs_29 (lv_at hl 0 rfl) ?_
        refine lv_iconst (v := (-1)) hx hb dX5_readAs_31 (by decide) ?_
        refine lv_icmp_eq (tgt := 47) hx hb dX5_readAs_32 (by decide) (fun c_3 => ?_) (fun c_3 => ?_)
        · replace hf := (if_pos c_3).symm.trans hf
          refine lv_iload hx hb dX5_readAs_47 (lv_at hl 0 rfl) ?_
          refine lv_iconst (v := (-1)) hx hb dX5_readAs_49 (by decide) ?_
          refine lv_icmp_eq (tgt := 73) hx hb dX5_readAs_50 (by decide) (fun c_4 => ?_) (fun c_4 => ?_)
          · replace hf := (if_pos c_4).symm.trans hf
            refine lv_iinc (v := i5_8 + 1) (lv' := [(5, .int (i5_8 + 1)), (6, .int x_2), (4, .int i4_8), (3, .int i3_8), (0, .ref (a 0)), (1, .long x0)]) hx hb dX5_readAs_73 hl (k := 1) rfl rfl (by decide) rfl (fun ls hl => ?_)
            refine lv_goto (tgt := 8) hx hb dX5_readAs_76 (by decide) ?_
            exact ih i3_8 i4_8 (i5_8 + 1) ls _ (lv_sub hl [0, 2, 3, 4, 5] rfl) hf hex_8
          · replace hf := (if_neg c_4).symm.trans hf
            refine lv_iload hx hb dX5_readAs_53 (lv_at hl 2 rfl) ?_
            refine lv_iconst (v := (-1)) hx hb dX5_readAs_55 (by decide) ?_
            refine lv_icmp_eq (tgt := 66) hx hb dX5_readAs_56 (by decide) (fun c_5 => ?_) (fun c_5 => ?_)
            · replace hf := (if_pos c_5).symm.trans hf
              refine lv_iload hx hb dX5_readAs_66 (lv_at hl 1 rfl) ?_
              refine lv_istore_n (lv' := [(3, .int i5_8), (6, .int x_2), (5, .int i5_8), (4, .int i4_8), (0, .ref (a 0)), (1, .long x0)]) hx hb dX5_readAs_68 rfl hl (by decide) rfl (fun ls hl => ?_)
              refine lv_iload hx hb dX5_readAs_69 (lv_at hl 1 rfl) ?_
              refine lv_istore (lv' := [(4, .int x_2), (3, .int i5_8), (6, .int x_2), (5, .int i5_8), (0, .ref (a 0)), (1, .long x0)]) hx hb dX5_readAs_71 hl (by decide) rfl (fun ls hl => ?_)
              refine lv_iinc (v := i5_8 + 1) (lv' := [(5, .int (i5_8 + 1)), (4, .int x_2), (3, .int i5_8), (6, .int x_2), (0, .ref (a 0)), (1, .long x0)]) hx hb dX5_readAs_73 hl (k := 3) rfl rfl (by decide) rfl (fun ls hl => ?_)
              refine lv_goto (tgt := 8) hx hb dX5_readAs_76 (by decide) ?_
              exact ih i5_8 x_2 (i5_8 + 1) ls _ (lv_sub hl [0, 1, 2, 4, 5] rfl) hf hex_8
            · replace hf := (if_neg c_5).symm.trans hf
              refine lv_iload hx hb dX5_readAs_59 (lv_at hl 0 rfl) ?_
              refine lv_iload hx hb dX5_readAs_61 (lv_at hl 2 rfl) ?_
              refine lv_icmp_ge (tgt := 73) hx hb dX5_readAs_63 (by decide) (fun c_6 => ?_) (fun c_6 => ?_)
              · replace hf := (if_pos c_6).symm.trans hf
                refine lv_iinc (v := i5_8 + 1) (lv' := [(5, .int (i5_8 + 1)), (6, .int x_2), (4, .int i4_8), (3, .int i3_8), (0, .ref (a 0)), (1, .long x0)]) hx hb dX5_readAs_73 hl (k := 1) rfl rfl (by decide) rfl (fun ls hl => ?_)
                refine lv_goto (tgt := 8) hx hb dX5_readAs_76 (by decide) ?_
                exact ih i3_8 i4_8 (i5_8 + 1) ls _ (lv_sub hl [0, 2, 3, 4, 5] rfl) hf hex_8
              · replace hf := (if_neg c_6).symm.trans hf
                refine lv_iload hx hb dX5_readAs_66 (lv_at hl 1 rfl) ?_
                refine lv_istore_n (lv' := [(3, .int i5_8), (6, .int x_2), (5, .int i5_8), (4, .int i4_8), (0, .ref (a 0)), (1, .long x0)]) hx hb dX5_readAs_68 rfl hl (by decide) rfl (fun ls hl => ?_)
                refine lv_iload hx hb dX5_readAs_69 (lv_at hl 1 rfl) ?_
                refine lv_istore (lv' := [(4, .int x_2), (3, .int i5_8), (6, .int x_2), (5, .int i5_8), (0, .ref (a 0)), (1, .long x0)]) hx hb dX5_readAs_71 hl (by decide) rfl (fun ls hl => ?_)
                refine lv_iinc (v := i5_8 + 1) (lv' := [(5, .int (i5_8 + 1)), (4, .int x_2), (3, .int i5_8), (6, .int x_2), (0, .ref (a 0)), (1, .long x0)]) hx hb dX5_readAs_73 hl (k := 3) rfl rfl (by decide) rfl (fun ls hl => ?_)
                refine lv_goto (tgt := 8) hx hb dX5_readAs_76 (by decide) ?_
                exact ih i5_8 x_2 (i5_8 + 1) ls _ (lv_sub hl [0, 1, 2, 4, 5] rfl) hf hex_8
        · replace hf := (if_neg c_3).symm.trans hf
          refine lv_iload hx hb dX5_readAs_35 (lv_at hl 0 rfl) ?_
          refine lv_iload hx hb dX5_readAs_37 (lv_at hl 2 rfl) ?_
          refine lv_icmp_ne (tgt := 47) hx hb dX5_readAs_39 (by decide) (fun c_7 => ?_) (fun c_7 => ?_)
          · replace hf := (if_neg c_7).symm.trans hf
            refine lv_iload hx hb dX5_readAs_47 (lv_at hl 0 rfl) ?_
            refine lv_iconst (v := (-1)) hx hb dX5_readAs_49 (by decide) ?_
            refine lv_icmp_eq (tgt := 73) hx hb dX5_readAs_50 (by decide) (fun c_8 => ?_) (fun c_8 => ?_)
            · replace hf := (if_pos c_8).symm.trans hf
              refine lv_iinc (v := i5_8 + 1) (lv' := [(5, .int (i5_8 + 1)), (6, .int x_2), (4, .int i4_8), (3, .int i3_8), (0, .ref (a 0)), (1, .long x0)]) hx hb dX5_readAs_73 hl (k := 1) rfl rfl (by decide) rfl (fun ls hl => ?_)
              refine lv_goto (tgt := 8) hx hb dX5_readAs_76 (by decide) ?_
              exact ih i3_8 i4_8 (i5_8 + 1) ls _ (lv_sub hl [0, 2, 3, 4, 5] rfl) hf hex_8
            · replace hf := (if_neg c_8).symm.trans hf
              refine lv_iload hx hb dX5_readAs_53 (lv_at hl 2 rfl) ?_
              refine lv_iconst (v := (-1)) hx hb dX5_readAs_55 (by decide) ?_
              refine lv_icmp_eq (tgt := 66) hx hb dX5_readAs_56 (by decide) (fun c_9 => ?_) (fun c_9 => ?_)
              · replace hf := (if_pos c_9).symm.trans hf
                refine lv_iload hx hb dX5_readAs_66 (lv_at hl 1 rfl) ?_
                refine lv_istore_n (lv' := [(3, .int i5_8), (6, .int x_2), (5, .int i5_8), (4, .int i4_8), (0, .ref (a 0)), (1, .long x0)]) hx hb dX5_readAs_68 rfl hl (by decide) rfl (fun ls hl => ?_)
                refine lv_iload hx hb dX5_readAs_69 (lv_at hl 1 rfl) ?_
                refine lv_istore (lv' := [(4, .int x_2), (3, .int i5_8), (6, .int x_2), (5, .int i5_8), (0, .ref (a 0)), (1, .long x0)]) hx hb dX5_readAs_71 hl (by decide) rfl (fun ls hl => ?_)
                refine lv_iinc (v := i5_8 + 1) (lv' := [(5, .int (i5_8 + 1)), (4, .int x_2), (3, .int i5_8), (6, .int x_2), (0, .ref (a 0)), (1, .long x0)]) hx hb dX5_readAs_73 hl (k := 3) rfl rfl (by decide) rfl (fun ls hl => ?_)
                refine lv_goto (tgt := 8) hx hb dX5_readAs_76 (by decide) ?_
                exact ih i5_8 x_2 (i5_8 + 1) ls _ (lv_sub hl [0, 1, 2, 4, 5] rfl) hf hex_8
              · replace hf := (if_neg c_9).symm.trans hf
                refine lv_iload hx hb dX5_readAs_59 (lv_at hl 0 rfl) ?_
                refine lv_iload hx hb dX5_readAs_61 (lv_at hl 2 rfl) ?_
                refine lv_icmp_ge (tgt := 73) hx hb dX5_readAs_63 (by decide) (fun c_10 => ?_) (fun c_10 => ?_)
                · replace hf := (if_pos c_10).symm.trans hf
                  refine lv_iinc (v := i5_8 + 1) (lv' := [(5, .int (i5_8 + 1)), (6, .int x_2), (4, .int i4_8), (3, .int i3_8), (0, .ref (a 0)), (1, .long x0)]) hx hb dX5_readAs_73 hl (k := 1) rfl rfl (by decide) rfl (fun ls hl => ?_)
                  refine lv_goto (tgt := 8) hx hb dX5_readAs_76 (by decide) ?_
                  exact ih i3_8 i4_8 (i5_8 + 1) ls _ (lv_sub hl [0, 2, 3, 4, 5] rfl) hf hex_8
                · replace hf := (if_neg c_10).symm.trans hf
                  refine lv_iload hx hb dX5_readAs_66 (lv_at hl 1 rfl) ?_
                  refine lv_istore_n (lv' := [(3, .int i5_8), (6, .int x_2), (5, .int i5_8), (4, .int i4_8), (0, .ref (a 0)), (1, .long x0)]) hx hb dX5_readAs_68 rfl hl (by decide) rfl (fun ls hl => ?_)
                  refine lv_iload hx hb dX5_readAs_69 (lv_at hl 1 rfl) ?_
                  refine lv_istore (lv' := [(4, .int x_2), (3, .int i5_8), (6, .int x_2), (5, .int i5_8), (0, .ref (a 0)), (1, .long x0)]) hx hb dX5_readAs_71 hl (by decide) rfl (fun ls hl => ?_)
                  refine lv_iinc (v := i5_8 + 1) (lv' := [(5, .int (i5_8 + 1)), (4, .int x_2), (3, .int i5_8), (6, .int x_2), (0, .ref (a 0)), (1, .long x0)]) hx hb dX5_readAs_73 hl (k := 3) rfl rfl (by decide) rfl (fun ls hl => ?_)
                  refine lv_goto (tgt := 8) hx hb dX5_readAs_76 (by decide) ?_
                  exact ih i5_8 x_2 (i5_8 + 1) ls _ (lv_sub hl [0, 1, 2, 4, 5] rfl) hf hex_8
          · replace hf := (if_pos c_7).symm.trans hf
            refine lv_iconst (v := (-1)) hx hb dX5_readAs_42 (by decide) ?_
            refine lv_istore_n (lv' := [(3, .int (-1)), (6, .int x_2), (5, .int i5_8), (4, .int i4_8), (0, .ref (a 0)), (1, .long x0)]) hx hb dX5_readAs_43 rfl hl (by decide) rfl (fun ls hl => ?_)
            refine lv_goto (tgt := 73) hx hb dX5_readAs_44 (by decide) ?_
            refine lv_iinc (v := i5_8 + 1) (lv' := [(5, .int (i5_8 + 1)), (3, .int (-1)), (6, .int x_2), (4, .int i4_8), (0, .ref (a 0)), (1, .long x0)]) hx hb dX5_readAs_73 hl (k := 2) rfl rfl (by decide) rfl (fun ls hl => ?_)
            refine lv_goto (tgt := 8) hx hb dX5_readAs_76 (by decide) ?_
            exact ih (-1) i4_8 (i5_8 + 1) ls _ (lv_sub hl [0, 3, 1, 4, 5] rfl) hf hex_8
  obtain ⟨z_11, hz_11, hf⟩ := Option.bind_eq_some_iff.mp hf
  refine L_8 1000 (-1) (-1) 0 ls z_11 (lv_sub hl [0, 1, 2, 3, 4] rfl) hz_11 (fun ls hl => ?_)
  refine lv_iload hx hb dX5_readAs_79 (lv_at hl 1 rfl) ?_
  refine lv_aload_n hx hb dX5_readAs_81 rfl (lv_at hl 3 rfl) ?_
  refine va_get (D := (dC, dI)) (ci := 5) (v := .int F.2.1) (C := RX5) (T := TX5) (N := 9) hx hb hts hi5 hown hK hP 0 rfl rfl 6 (by decide) (hts (.fieldLink RX5 48 RX5 "blur" "I") (by decide +kernel)) (fun _ h9 => h9) rfl dX5_readAs_82 ?_
  refine lv_icmp_gt (tgt := 92) hx hb dX5_readAs_85 (by decide) (fun c_12 => ?_) (fun c_12 => ?_)
  · replace hf := (if_pos c_12).symm.trans hf
    refine lv_iconst (v := (-1)) hx hb dX5_readAs_92 (by decide) ?_
    replace hf := Option.some.inj hf
    exact W.iret (v := (-1)) hx hb hr (fun t ht hW => ⟨congrArg (fun z => Outcome.returned (some (.int z))) hf, ht⟩) (fun q h => absurd h List.not_mem_nil) dX5_readAs_93
  · replace hf := (if_neg c_12).symm.trans hf
    refine lv_iload_n hx hb dX5_readAs_88 rfl (lv_at hl 2 rfl) ?_
    refine lv_goto (tgt := 93) hx hb dX5_readAs_89 (by decide) ?_
    replace hf := Option.some.inj hf
    exact W.iret (v := z_11.1) hx hb hr (fun t ht hW => ⟨congrArg (fun z => Outcome.returned (some (.int z))) hf, ht⟩) (fun q h => absurd h List.not_mem_nil) dX5_readAs_93
def f_X5_signFact (F : q_Fl) (B : q_Bd) (K : q_Bk) (I : q_Wi) (T : q_Rt) (x0 : Int32) : Option (Int32) := (if x0 = 0 then some B.2.2.1 else if x0 = 1 then some F.1 else if x0 = 2 then some F.2.1 else if x0 = 3 then some K.2.2.2.2.2.1 else if x0 = 4 then some K.2.2.2.2.2.2 else if x0 = 5 then ((f_X5_readAs F B K B.2.2.2.1).bind fun x_7 => some x_7) else if x0 = 6 then some (f_J13_bitCount_95d88 B.2.2.2.2.1) else if x0 = 7 then ((f_X0_allFlips B).bind fun x_10 => some x_10) else if x0 = 8 then some F.2.2.1 else if x0 = 17 then some F.2.2.2 else (if 13 < x0 then some (f_X3_fact T x0) else some (f_X4_fact I x0)))
set_option maxHeartbeats 4000000 in
set_option maxRecDepth 100000 in
theorem c_X5_signFact (l : Launch) (dC : Nat → ClassId) (dI : Nat → Nat → Nat) (cI cJ : ClassId) (a : Nat → Nat) (F : q_Fl) (B : q_Bd) (K : q_Bk) (N : q_Pl) (I : q_Wi) (T : q_Rt) (x0 : Int32) (r0 : Int32) (hf : f_X5_signFact F B K I T x0 = some r0) : Met l yX5_signFact wsX5_signFact ({ frames := 3, cells := 0, slots := 0, locals := 73 } : Room) (va_Pc [.ref (a 0), .int x0] (q_B (dC, dI) vwCl (wSg a cI cJ F B K N I T) (q_ty cI cJ))) (k2_QcV (.int r0)) 0 0 (fun _ => False) := by
  refine Met.ofW (cc := cX5_signFact) (maxL := 2) (ret := (some .int)) (by decide) rfl ?_
  intro p e s m args below meth c s₁ BB hml hv
  obtain ⟨rfl, hP, hK, hn⟩ := hv
  have hx := BB.exec
  have hb := BB.bytes
  have hr := BB.returns
  have hts := atoms_spec (ws := wsX5_signFact) BB.pre
  have hown : s.vm.findClass RX5 = some m.cls := findClass_of_methodNamed BB.named
  have hlocks := BB.notSynchronized
  have hi0 : ∀ w ∈ u_ws RX0 TX0 6, w ∈ wsX5_signFact := by decide +kernel
  have hi1 : ∀ w ∈ u_ws RX1 TX1 7, w ∈ wsX5_signFact := by decide +kernel
  have hi5 : ∀ w ∈ u_ws RX5 TX5 9, w ∈ wsX5_signFact := by decide +kernel
  have hl := lv_entry [.ref (a 0), .int x0] (n := 2) (Nat.le_of_ble_eq_true rfl)
  rw [lg_entry_eq]
  generalize (lg_sl [.ref (a 0), .int x0] ++ List.replicate (2 - (lg_sl [.ref (a 0), .int x0]).length) Slot.unset).toArray = ls at hl ⊢
  have hl : lv_has ls 2 [(0, .ref (a 0)), (1, .int x0)] := hl
  unfold f_X5_signFact at hf
  refine lv_iload_n hx hb dX5_signFact_0 rfl (lv_at hl 1 rfl) ?_
  by_cases c_1 : x0 = 0
  · replace hf := (if_pos c_1).symm.trans hf
    refine lv_tableIn (x := x0) (off := 87) (tgt := 88) hx hb dX5_signFact_1 (by rw [c_1]; decide) (by rw [c_1]; decide) (by rw [c_1]; rfl) (by decide) ?_
    refine lv_aload_n hx hb dX5_signFact_88 rfl (lv_at hl 0 rfl) ?_
    refine va_get (D := (dC, dI)) (ci := 5) (v := .ref (a 1)) (C := RX5) (T := TX5) (N := 9) hx hb hts hi5 hown hK hP 0 rfl rfl 0 (by decide) (hts (.fieldLink RX5 10 RX5 "board" "LFlapline$Board;") (by decide +kernel)) (fun _ h9 => h9) rfl dX5_signFact_89 ?_
    refine va_getN (D := (dC, dI)) (ci := 0) (v := .int B.2.2.1) (C := RX0) (T := TX0) (N := 6) hx hb hts hi0 hown hK hP 1 rfl rfl 2 (by decide) (nf_RX5_61 hn) (fun _ h9 => h9) rfl dX5_signFact_92 ?_
    replace hf := Option.some.inj hf
    exact W.iret (v := B.2.2.1) hx hb hr (fun t ht hW => ⟨congrArg (fun z => Outcome.returned (some (.int z))) hf, ht⟩) (fun q h => absurd h List.not_mem_nil) dX5_signFact_95
  replace hf := (if_neg c_1).symm.trans hf
  by_cases c_2 : x0 = 1
  · replace hf := (if_pos c_2).symm.trans hf
    refine lv_tableIn (x := x0) (off := 95) (tgt := 96) hx hb dX5_signFact_1 (by rw [c_2]; decide) (by rw [c_2]; decide) (by rw [c_2]; rfl) (by decide) ?_
    refine lv_aload_n hx hb dX5_signFact_96 rfl (lv_at hl 0 rfl) ?_
    refine va_get (D := (dC, dI)) (ci := 5) (v := .int F.1) (C := RX5) (T := TX5) (N := 9) hx hb hts hi5 hown hK hP 0 rfl rfl 5 (by decide) (hts (.fieldLink RX5 44 RX5 "power" "I") (by decide +kernel)) (fun _ h9 => h9) rfl dX5_signFact_97 ?_
    replace hf := Option.some.inj hf
    exact W.iret (v := F.1) hx hb hr (fun t ht hW => ⟨congrArg (fun z => Outcome.returned (some (.int z))) hf, ht⟩) (fun q h => absurd h List.not_mem_nil) dX5_signFact_100
  replace hf := (if_neg c_2).symm.trans hf
  by_cases c_3 : x0 = 2
  · replace hf := (if_pos c_3).symm.trans hf
    refine lv_tableIn (x := x0) (off := 100) (tgt := 101) hx hb dX5_signFact_1 (by rw [c_3]; decide) (by rw [c_3]; decide) (by rw [c_3]; rfl) (by decide) ?_
    refine lv_aload_n hx hb dX5_signFact_101 rfl (lv_at hl 0 rfl) ?_
    refine va_get (D := (dC, dI)) (ci := 5) (v := .int F.2.1) (C := RX5) (T := TX5) (N := 9) hx hb hts hi5 hown hK hP 0 rfl rfl 6 (by decide) (hts (.fieldLink RX5 48 RX5 "blur" "I") (by decide +kernel)) (fun _ h9 => h9) rfl dX5_signFact_102 ?_
    replace hf := Option.some.inj hf
    exact W.iret (v := F.2.1) hx hb hr (fun t ht hW => ⟨congrArg (fun z => Outcome.returned (some (.int z))) hf, ht⟩) (fun q h => absurd h List.not_mem_nil) dX5_signFact_105
  replace hf := (if_neg c_3).symm.trans hf
  by_cases c_4 : x0 = 3
  · replace hf := (if_pos c_4).symm.trans hf
    refine lv_tableIn (x := x0) (off := 105) (tgt := 106) hx hb dX5_signFact_1 (by rw [c_4]; decide) (by rw [c_4]; decide) (by rw [c_4]; rfl) (by decide) ?_
    refine lv_aload_n hx hb dX5_signFact_106 rfl (lv_at hl 0 rfl) ?_
    refine va_get (D := (dC, dI)) (ci := 5) (v := .ref (a 4)) (C := RX5) (T := TX5) (N := 9) hx hb hts hi5 hown hK hP 0 rfl rfl 1 (by decide) (hts (.fieldLink RX5 19 RX5 "book" "LFlapline$Book;") (by decide +kernel)) (fun _ h9 => h9) rfl dX5_signFact_107 ?_
    refine va_getN (D := (dC, dI)) (ci := 1) (v := .int K.2.2.2.2.2.1) (C := RX1) (T := TX1) (N := 7) hx hb hts hi1 hown hK hP 4 rfl rfl 5 (by decide) (nf_RX5_78 hn) (fun _ h9 => h9) rfl dX5_signFact_110 ?_
    replace hf := Option.some.inj hf
    exact W.iret (v := K.2.2.2.2.2.1) hx hb hr (fun t ht hW => ⟨congrArg (fun z => Outcome.returned (some (.int z))) hf, ht⟩) (fun q h => absurd h List.not_mem_nil) dX5_signFact_113
  replace hf := (if_neg c_4).symm.trans hf
  by_cases c_5 : x0 = 4
  · replace hf := (if_pos c_5).symm.trans hf
    refine lv_tableIn (x := x0) (off := 113) (tgt := 114) hx hb dX5_signFact_1 (by rw [c_5]; decide) (by rw [c_5]; decide) (by rw [c_5]; rfl) (by decide) ?_
    refine lv_aload_n hx hb dX5_signFact_114 rfl (lv_at hl 0 rfl) ?_
    refine va_get (D := (dC, dI)) (ci := 5) (v := .ref (a 4)) (C := RX5) (T := TX5) (N := 9) hx hb hts hi5 hown hK hP 0 rfl rfl 1 (by decide) (hts (.fieldLink RX5 19 RX5 "book" "LFlapline$Book;") (by decide +kernel)) (fun _ h9 => h9) rfl dX5_signFact_115 ?_
    refine va_getN (D := (dC, dI)) (ci := 1) (v := .int K.2.2.2.2.2.2) (C := RX1) (T := TX1) (N := 7) hx hb hts hi1 hown hK hP 4 rfl rfl 6 (by decide) (nf_RX5_95 hn) (fun _ h9 => h9) rfl dX5_signFact_118 ?_
    replace hf := Option.some.inj hf
    exact W.iret (v := K.2.2.2.2.2.2) hx hb hr (fun t ht hW => ⟨congrArg (fun z => Outcome.returned (some (.int z))) hf, ht⟩) (fun q h => absurd h List.not_mem_nil) dX5_signFact_121
  replace hf := (if_neg c_5).symm.trans hf
  by_cases c_6 : x0 = 5
  · replace hf := (if_pos c_6).symm.trans hf
    refine lv_tableIn (x := x0) (off := 121) (tgt := 122) hx hb dX5_signFact_1 (by rw [c_6]; decide) (by rw [c_6]; decide) (by rw [c_6]; rfl) (by decide) ?_
    refine lv_aload_n hx hb dX5_signFact_122 rfl (lv_at hl 0 rfl) ?_
    refine lv_aload_n hx hb dX5_signFact_123 rfl (lv_at hl 0 rfl) ?_
    refine va_get (D := (dC, dI)) (ci := 5) (v := .ref (a 1)) (C := RX5) (T := TX5) (N := 9) hx hb hts hi5 hown hK hP 0 rfl rfl 0 (by decide) (hts (.fieldLink RX5 10 RX5 "board" "LFlapline$Board;") (by decide +kernel)) (fun _ h9 => h9) rfl dX5_signFact_124 ?_
    refine va_getN (D := (dC, dI)) (ci := 0) (v := .long B.2.2.2.1) (C := RX0) (T := TX0) (N := 6) hx hb hts hi0 hown hK hP 1 rfl rfl 3 (by decide) (nf_RX5_287 hn) (fun _ h9 => h9) rfl dX5_signFact_127 ?_
    obtain ⟨x_7, hx_7, hf⟩ := Option.bind_eq_some_iff.mp hf
    refine q_rV (As := [.long B.2.2.2.1]) (rest := []) ⟨hx, hb, hml, hown, hts⟩ (c_X5_readAs l dC dI cI cJ a F B K N I T B.2.2.2.1 x_7 hx_7) (cwV 1 hts gX5_signFact_X5_readAs rfl rfl rfl (by decide +kernel) ⟨Nat.le_of_ble_eq_true rfl, Nat.le_of_ble_eq_true rfl⟩) hK hn hP (ci := 5) rfl rfl rfl hl.1 rfl (Nat.le_of_ble_eq_true rfl) dX5_signFact_130 ⟨Nat.zero_le _, Nat.zero_le _⟩ ?_
    replace hf := Option.some.inj hf
    exact W.iret (v := x_7) hx hb hr (fun t ht hW => ⟨congrArg (fun z => Outcome.returned (some (.int z))) hf, ht⟩) (fun q h => absurd h List.not_mem_nil) dX5_signFact_133
  replace hf := (if_neg c_6).symm.trans hf
  by_cases c_8 : x0 = 6
  · replace hf := (if_pos c_8).symm.trans hf
    refine lv_tableIn (x := x0) (off := 133) (tgt := 134) hx hb dX5_signFact_1 (by rw [c_8]; decide) (by rw [c_8]; decide) (by rw [c_8]; rfl) (by decide) ?_
    refine lv_aload_n hx hb dX5_signFact_134 rfl (lv_at hl 0 rfl) ?_
    refine va_get (D := (dC, dI)) (ci := 5) (v := .ref (a 1)) (C := RX5) (T := TX5) (N := 9) hx hb hts hi5 hown hK hP 0 rfl rfl 0 (by decide) (hts (.fieldLink RX5 10 RX5 "board" "LFlapline$Board;") (by decide +kernel)) (fun _ h9 => h9) rfl dX5_signFact_135 ?_
    refine va_getN (D := (dC, dI)) (ci := 0) (v := .long B.2.2.2.2.1) (C := RX0) (T := TX0) (N := 6) hx hb hts hi0 hown hK hP 1 rfl rfl 4 (by decide) (nf_RX5_294 hn) (fun _ h9 => h9) rfl dX5_signFact_138 ?_
    refine q_rS (As := [.long B.2.2.2.2.1]) (rest := []) ⟨hx, hb, hml, hown, hts⟩ (c_J13_bitCount_95d88 l dC dI cI cJ B.2.2.2.2.1) (va_cwS 1 hts gX5_signFact_J13_bitCount_95d88 rfl rfl rfl (by decide +kernel) ⟨Nat.le_of_ble_eq_true rfl, Nat.le_of_ble_eq_true rfl⟩) hK hn (hP.sub (ws' := []) [] rfl) rfl hl.1 rfl (Nat.le_of_ble_eq_true rfl) dX5_signFact_141 ⟨Nat.zero_le _, Nat.zero_le _⟩ ?_
    replace hf := Option.some.inj hf
    exact W.iret (v := (f_J13_bitCount_95d88 B.2.2.2.2.1)) hx hb hr (fun t ht hW => ⟨congrArg (fun z => Outcome.returned (some (.int z))) hf, ht⟩) (fun q h => absurd h List.not_mem_nil) dX5_signFact_144
  replace hf := (if_neg c_8).symm.trans hf
  by_cases c_9 : x0 = 7
  · replace hf := (if_pos c_9).symm.trans hf
    refine lv_tableIn (x := x0) (off := 144) (tgt := 145) hx hb dX5_signFact_1 (by rw [c_9]; decide) (by rw [c_9]; decide) (by rw [c_9]; rfl) (by decide) ?_
    refine lv_aload_n hx hb dX5_signFact_145 rfl (lv_at hl 0 rfl) ?_
    refine va_get (D := (dC, dI)) (ci := 5) (v := .ref (a 1)) (C := RX5) (T := TX5) (N := 9) hx hb hts hi5 hown hK hP 0 rfl rfl 0 (by decide) (hts (.fieldLink RX5 10 RX5 "board" "LFlapline$Board;") (by decide +kernel)) (fun _ h9 => h9) rfl dX5_signFact_146 ?_
    obtain ⟨x_10, hx_10, hf⟩ := Option.bind_eq_some_iff.mp hf
    refine q_rVN (As := []) (rest := []) ⟨hx, hb, hml, hown, hts⟩ (c_X0_allFlips l dC dI cI cJ (a 1) (a 2) (a 3) B x_10 hx_10) ⟨va_cnB 0 hts gX5_signFact_X0_allFlips_n332 rfl rfl rfl (nm_RX5_332 hn) (hts (.initialized RX0) (by decide +kernel)) (by decide +kernel) ⟨Nat.le_of_ble_eq_true rfl, Nat.le_of_ble_eq_true rfl⟩, hts (.instanceMethod yX0_allFlips) (by decide +kernel), hts (.selects RX0 yX0_allFlips yX0_allFlips) (by decide +kernel)⟩ hK hn (hP.sub (ws' := (wBd (a 1) (a 2) (a 3) cI B)) [1, 2, 3] rfl) (ci := 0) rfl rfl rfl hl.1 rfl (Nat.le_of_ble_eq_true rfl) dX5_signFact_149 ⟨Nat.zero_le _, Nat.zero_le _⟩ ?_
    replace hf := Option.some.inj hf
    exact W.iret (v := x_10) hx hb hr (fun t ht hW => ⟨congrArg (fun z => Outcome.returned (some (.int z))) hf, ht⟩) (fun q h => absurd h List.not_mem_nil) dX5_signFact_152
  replace hf := (if_neg c_9).symm.trans hf
  by_cases c_11 : x0 = 8
  · replace hf := (if_pos c_11).symm.trans hf
    refine lv_tableIn (x := x0) (off := 152) (tgt := 153) hx hb dX5_signFact_1 (by rw [c_11]; decide) (by rw [c_11]; decide) (by rw [c_11]; rfl) (by decide) ?_
    refine lv_aload_n hx hb dX5_signFact_153 rfl (lv_at hl 0 rfl) ?_
    refine va_get (D := (dC, dI)) (ci := 5) (v := .int F.2.2.1) (C := RX5) (T := TX5) (N := 9) hx hb hts hi5 hown hK hP 0 rfl rfl 7 (by decide) (hts (.fieldLink RX5 335 RX5 "stepsEver" "I") (by decide +kernel)) (fun _ h9 => h9) rfl dX5_signFact_154 ?_
    replace hf := Option.some.inj hf
    exact W.iret (v := F.2.2.1) hx hb hr (fun t ht hW => ⟨congrArg (fun z => Outcome.returned (some (.int z))) hf, ht⟩) (fun q h => absurd h List.not_mem_nil) dX5_signFact_157
  replace hf := (if_neg c_11).symm.trans hf
  by_cases c_12 : x0 = 17
  · replace hf := (if_pos c_12).symm.trans hf
    refine lv_tableIn (x := x0) (off := 157) (tgt := 158) hx hb dX5_signFact_1 (by rw [c_12]; decide) (by rw [c_12]; decide) (by rw [c_12]; rfl) (by decide) ?_
    refine lv_aload_n hx hb dX5_signFact_158 rfl (lv_at hl 0 rfl) ?_
    refine va_get (D := (dC, dI)) (ci := 5) (v := .int F.2.2.2) (C := RX5) (T := TX5) (N := 9) hx hb hts hi5 hown hK hP 0 rfl rfl 8 (by decide) (hts (.fieldLink RX5 51 RX5 "shownLast" "I") (by decide +kernel)) (fun _ h9 => h9) rfl dX5_signFact_159 ?_
    replace hf := Option.some.inj hf
    exact W.iret (v := F.2.2.2) hx hb hr (fun t ht hW => ⟨congrArg (fun z => Outcome.returned (some (.int z))) hf, ht⟩) (fun q h => absurd h List.not_mem_nil) dX5_signFact_162
  replace hf := (if_neg c_12).symm.trans hf
  have e_0 := q_sw x0 0 c_1 (by decide)
  have e_1 := q_sw x0 1 c_2 (by decide)
  have e_2 := q_sw x0 2 c_3 (by decide)
  have e_3 := q_sw x0 3 c_4 (by decide)
  have e_4 := q_sw x0 4 c_5 (by decide)
  have e_5 := q_sw x0 5 c_6 (by decide)
  have e_6 := q_sw x0 6 c_8 (by decide)
  have e_7 := q_sw x0 7 c_9 (by decide)
  have e_8 := q_sw x0 8 c_11 (by decide)
  have e_17 := q_sw x0 17 c_12 (by decide)
  have g_14 : W p l e (headSpec wsX5_signFact ({ frames := 3, cells := 0, slots := 0, locals := 73 } : Room)).room s m [.ref (a 0), .int x0].toArray below meth c s.heap [] 0 0 (MQ below (k2_QcV (.int r0)) [.ref (a 0), .int x0].toArray s 0 0 (fun _ => False)) (F0 m 163 ls []) := by
    refine lv_iload_n hx hb dX5_signFact_163 rfl (lv_at hl 1 rfl) ?_
    refine lv_bipush (v := 13) hx hb dX5_signFact_164 (by decide) ?_
    refine lv_icmp_gt (tgt := 180) hx hb dX5_signFact_166 (by decide) (fun c_13 => ?_) (fun c_13 => ?_)
    · replace hf := (if_pos c_13).symm.trans hf
      refine lv_aload_n hx hb dX5_signFact_180 rfl (lv_at hl 0 rfl) ?_
      refine va_get (D := (dC, dI)) (ci := 5) (v := .ref (a 15)) (C := RX5) (T := TX5) (N := 9) hx hb hts hi5 hown hK hP 0 rfl rfl 4 (by decide) (hts (.fieldLink RX5 40 RX5 "route" "LFlapline$Route;") (by decide +kernel)) (fun _ h9 => h9) rfl dX5_signFact_181 ?_
      refine lv_iload_n hx hb dX5_signFact_184 rfl (lv_at hl 1 rfl) ?_
      refine q_rVN (As := [.int x0]) (rest := []) ⟨hx, hb, hml, hown, hts⟩ (c_X3_fact l dC dI cI cJ (a 15) (a 16) (a 17) T x0) ⟨va_cnB 1 hts gX5_signFact_X3_fact_n341 rfl rfl rfl (nm_RX5_341 hn) (hts (.initialized RX3) (by decide +kernel)) (by decide +kernel) ⟨Nat.le_of_ble_eq_true rfl, Nat.le_of_ble_eq_true rfl⟩, hts (.instanceMethod yX3_fact) (by decide +kernel), hts (.selects RX3 yX3_fact yX3_fact) (by decide +kernel)⟩ hK hn (hP.sub (ws' := (wRt (a 15) (a 16) (a 17) cI T)) [15, 16, 17] rfl) (ci := 3) rfl rfl rfl hl.1 rfl (Nat.le_of_ble_eq_true rfl) dX5_signFact_185 ⟨Nat.zero_le _, Nat.zero_le _⟩ ?_
      replace hf := Option.some.inj hf
      exact W.iret (v := (f_X3_fact T x0)) hx hb hr (fun t ht hW => ⟨congrArg (fun z => Outcome.returned (some (.int z))) hf, ht⟩) (fun q h => absurd h List.not_mem_nil) dX5_signFact_188
    · replace hf := (if_neg c_13).symm.trans hf
      refine lv_aload_n hx hb dX5_signFact_169 rfl (lv_at hl 0 rfl) ?_
      refine va_get (D := (dC, dI)) (ci := 5) (v := .ref (a 14)) (C := RX5) (T := TX5) (N := 9) hx hb hts hi5 hown hK hP 0 rfl rfl 3 (by decide) (hts (.fieldLink RX5 33 RX5 "wire" "LFlapline$Wire;") (by decide +kernel)) (fun _ h9 => h9) rfl dX5_signFact_170 ?_
      refine lv_iload_n hx hb dX5_signFact_173 rfl (lv_at hl 1 rfl) ?_
      refine q_rVN (As := [.int x0]) (rest := []) ⟨hx, hb, hml, hown, hts⟩ (c_X4_fact l dC dI cI cJ (a 14) I x0) ⟨va_cnB 1 hts gX5_signFact_X4_fact_n338 rfl rfl rfl (nm_RX5_338 hn) (hts (.initialized RX4) (by decide +kernel)) (by decide +kernel) ⟨Nat.le_of_ble_eq_true rfl, Nat.le_of_ble_eq_true rfl⟩, hts (.instanceMethod yX4_fact) (by decide +kernel), hts (.selects RX4 yX4_fact yX4_fact) (by decide +kernel)⟩ hK hn (hP.sub (ws' := (wWi (a 14)  I)) [14] rfl) (ci := 4) rfl rfl rfl hl.1 rfl (Nat.le_of_ble_eq_true rfl) dX5_signFact_174 ⟨Nat.zero_le _, Nat.zero_le _⟩ ?_
      refine lv_goto (tgt := 188) hx hb dX5_signFact_177 (by decide) ?_
      replace hf := Option.some.inj hf
      exact W.iret (v := (f_X4_fact I x0)) hx hb hr (fun t ht hW => ⟨congrArg (fun z => Outcome.returned (some (.int z))) hf, ht⟩) (fun q h => absurd h List.not_mem_nil) dX5_signFact_188
  by_cases c_out : x0.toInt < 0 ∨ 17 < x0.toInt
  · exact lv_tableOut (x := x0) (tgt := 163) hx hb dX5_signFact_1 c_out (by decide) g_14
  · refine lv_tableIn (x := x0) (off := 162) (tgt := 163) hx hb dX5_signFact_1 (by omega) (by omega) ?_ (by decide) g_14
    have e9 : (x0.toInt - 0).toNat = 9 ∨ (x0.toInt - 0).toNat = 10 ∨ (x0.toInt - 0).toNat = 11 ∨ (x0.toInt - 0).toNat = 12 ∨ (x0.toInt - 0).toNat = 13 ∨ (x0.toInt - 0).toNat = 14 ∨ (x0.toInt - 0).toNat = 15 ∨ (x0.toInt - 0).toNat = 16 := by omega
    rcases e9 with e9 | e9 | e9 | e9 | e9 | e9 | e9 | e9 <;> rw [e9] <;> rfl
def f_X5_sign (F : q_Fl) (B : q_Bd) (K : q_Bk) (I : q_Wi) (T : q_Rt) (x0 : Int32) : Option (Int32) := (if x0 < 0 then none else (if x0 ≤ 17 then ((f_X5_signFact F B K I T x0).bind fun x_3 => some x_3) else none))
set_option maxHeartbeats 4000000 in
set_option maxRecDepth 100000 in
theorem c_X5_sign (l : Launch) (dC : Nat → ClassId) (dI : Nat → Nat → Nat) (cI cJ : ClassId) (a : Nat → Nat) (F : q_Fl) (B : q_Bd) (K : q_Bk) (N : q_Pl) (I : q_Wi) (T : q_Rt) (x0 : Int32) (r0 : Int32) (hf : f_X5_sign F B K I T x0 = some r0) : Met l yX5_sign wsX5_sign ({ frames := 4, cells := 0, slots := 0, locals := 94 } : Room) (va_Pc [.ref (a 0), .int x0] (q_B (dC, dI) vwCl (wSg a cI cJ F B K N I T) (q_ty cI cJ))) (k2_QcV (.int r0)) 0 0 (fun _ => False) := by
  refine Met.ofW (cc := cX5_sign) (maxL := 2) (ret := (some .int)) (by decide) rfl ?_
  intro p e s m args below meth c s₁ BB hml hv
  obtain ⟨rfl, hP, hK, hn⟩ := hv
  have hx := BB.exec
  have hb := BB.bytes
  have hr := BB.returns
  have hts := atoms_spec (ws := wsX5_sign) BB.pre
  have hown : s.vm.findClass RX5 = some m.cls := findClass_of_methodNamed BB.named
  have hlocks := BB.notSynchronized
  have hl := lv_entry [.ref (a 0), .int x0] (n := 2) (Nat.le_of_ble_eq_true rfl)
  rw [lg_entry_eq]
  generalize (lg_sl [.ref (a 0), .int x0] ++ List.replicate (2 - (lg_sl [.ref (a 0), .int x0]).length) Slot.unset).toArray = ls at hl ⊢
  have hl : lv_has ls 2 [(0, .ref (a 0)), (1, .int x0)] := hl
  unfold f_X5_sign at hf
  refine lv_iload_n hx hb dX5_sign_0 rfl (lv_at hl 1 rfl) ?_
  refine lv_if_lt (tgt := 10) hx hb dX5_sign_1 (by decide) (fun c_1 => ?_) (fun c_1 => ?_)
  · replace hf := (if_pos c_1).symm.trans hf
    cases hf
  · replace hf := (if_neg c_1).symm.trans hf
    refine lv_iload_n hx hb dX5_sign_4 rfl (lv_at hl 1 rfl) ?_
    refine lv_bipush (v := 17) hx hb dX5_sign_5 (by decide) ?_
    refine lv_icmp_le (tgt := 20) hx hb dX5_sign_7 (by decide) (fun c_2 => ?_) (fun c_2 => ?_)
    · replace hf := (if_pos c_2).symm.trans hf
      refine lv_aload_n hx hb dX5_sign_20 rfl (lv_at hl 0 rfl) ?_
      refine lv_iload_n hx hb dX5_sign_21 rfl (lv_at hl 1 rfl) ?_
      obtain ⟨x_3, hx_3, hf⟩ := Option.bind_eq_some_iff.mp hf
      refine q_rV (As := [.int x0]) (rest := []) ⟨hx, hb, hml, hown, hts⟩ (c_X5_signFact l dC dI cI cJ a F B K N I T x0 x_3 hx_3) (cwV 1 hts gX5_sign_X5_signFact rfl rfl rfl (by decide +kernel) ⟨Nat.le_of_ble_eq_true rfl, Nat.le_of_ble_eq_true rfl⟩) hK hn hP (ci := 5) rfl rfl rfl hl.1 rfl (Nat.le_of_ble_eq_true rfl) dX5_sign_22 ⟨Nat.zero_le _, Nat.zero_le _⟩ ?_
      replace hf := Option.some.inj hf
      exact W.iret (v := x_3) hx hb hr (fun t ht hW => ⟨congrArg (fun z => Outcome.returned (some (.int z))) hf, ht⟩) (fun q h => absurd h List.not_mem_nil) dX5_sign_25
    · replace hf := (if_neg c_2).symm.trans hf
      cases hf
def fl_X5_isWrong_3 (x0 : Int64) (x1 : Int32) (B : q_Bd) (K : q_Bk) : Nat → Int32 → Option ((Int32) ⊕ (Int32))
  | 0, _ => none
  | nn + 1, i4_3 => (if K.2.2.2.2.2.2 ≤ i4_3 then some (.inr i4_3) else (if i4_3 = x1 then fl_X5_isWrong_3 x0 x1 B K nn (i4_3 + 1) else ((f_X5_says B K x0 i4_3).bind fun x_3 => (if x_3 = 0 then fl_X5_isWrong_3 x0 x1 B K nn (i4_3 + 1) else ((f_X5_says B K B.2.2.2.1 i4_3).bind fun x_5 => (if x_5 = 0 then some (.inl 1) else fl_X5_isWrong_3 x0 x1 B K nn (i4_3 + 1)))))))
def f_X5_isWrong (B : q_Bd) (K : q_Bk) (x0 : Int64) (x1 : Int32) : Option (Int32) := ((fl_X5_isWrong_3 x0 x1 B K 1000 0).bind fun z_7 => Sum.elim (fun r_ => some r_) (fun y_8 => some 0) z_7)
set_option maxHeartbeats 4000000 in
set_option maxRecDepth 100000 in
theorem c_X5_isWrong (l : Launch) (dC : Nat → ClassId) (dI : Nat → Nat → Nat) (cI cJ : ClassId) (a : Nat → Nat) (F : q_Fl) (B : q_Bd) (K : q_Bk) (N : q_Pl) (I : q_Wi) (T : q_Rt) (x0 : Int64) (x1 : Int32) (r0 : Int32) (hf : f_X5_isWrong B K x0 x1 = some r0) : Met l yX5_isWrong wsX5_isWrong ({ frames := 3, cells := 0, slots := 0, locals := 70 } : Room) (va_Pc [.ref (a 0), .long x0, .int x1] (q_B (dC, dI) vwCl (wSg a cI cJ F B K N I T) (q_ty cI cJ))) (k2_QcV (.int r0)) 0 0 (fun _ => False) := by
  refine Met.ofW (cc := cX5_isWrong) (maxL := 5) (ret := (some .boolean)) (by decide) rfl ?_
  intro p e s m args below meth c s₁ BB hml hv
  obtain ⟨rfl, hP, hK, hn⟩ := hv
  have hx := BB.exec
  have hb := BB.bytes
  have hr := BB.returns
  have hts := atoms_spec (ws := wsX5_isWrong) BB.pre
  have hown : s.vm.findClass RX5 = some m.cls := findClass_of_methodNamed BB.named
  have hlocks := BB.notSynchronized
  have hi0 : ∀ w ∈ u_ws RX0 TX0 6, w ∈ wsX5_isWrong := by decide +kernel
  have hi1 : ∀ w ∈ u_ws RX1 TX1 7, w ∈ wsX5_isWrong := by decide +kernel
  have hi5 : ∀ w ∈ u_ws RX5 TX5 9, w ∈ wsX5_isWrong := by decide +kernel
  have hl := lv_entry [.ref (a 0), .long x0, .int x1] (n := 5) (Nat.le_of_ble_eq_true rfl)
  rw [lg_entry_eq]
  generalize (lg_sl [.ref (a 0), .long x0, .int x1] ++ List.replicate (5 - (lg_sl [.ref (a 0), .long x0, .int x1]).length) Slot.unset).toArray = ls at hl ⊢
  have hl : lv_has ls 5 [(0, .ref (a 0)), (1, .long x0), (3, .int x1)] := hl
  unfold f_X5_isWrong at hf
  refine lv_iconst (v := 0) hx hb dX5_isWrong_0 (by decide) ?_
  refine lv_istore (lv' := [(4, .int 0), (0, .ref (a 0)), (1, .long x0), (3, .int x1)]) hx hb dX5_isWrong_1 hl (by decide) rfl (fun ls hl => ?_)
  have L_3 : ∀ (nn : Nat) (i4_3 : Int32) (ls : Array Slot) (z_3 : ((Int32) ⊕ (Int32))), lv_has ls 5 [(4, .int i4_3), (0, .ref (a 0)), (1, .long x0), (3, .int x1)] → fl_X5_isWrong_3 x0 x1 B K nn i4_3 = some z_3 → (∀ r_ : Int32, z_3 = .inl r_ → r_ = r0) → (∀ (y : Int32) (ls : Array Slot), z_3 = .inr y → lv_has ls 5 [(4, .int y), (0, .ref (a 0)), (1, .long x0), (3, .int x1)] → W p l e (headSpec wsX5_isWrong ({ frames := 3, cells := 0, slots := 0, locals := 70 } : Room)).room s m [.ref (a 0), .long x0, .int x1].toArray below meth c s.heap [] 0 0 (MQ below (k2_QcV (.int r0)) [.ref (a 0), .long x0, .int x1].toArray s 0 0 (fun _ => False)) (F0 m 55 ls [])) → W p l e (headSpec wsX5_isWrong ({ frames := 3, cells := 0, slots := 0, locals := 70 } : Room)).room s m [.ref (a 0), .long x0, .int x1].toArray below meth c s.heap [] 0 0 (MQ below (k2_QcV (.int r0)) [.ref (a 0), .long x0, .int x1].toArray s 0 0 (fun _ => False)) (F0 m 3 ls []) := by
    intro nn
    induction nn with
    | zero =>
      intro i4_3  ls z_3 hl hf hret_3 hex_3
      rw [fl_X5_isWrong_3] at hf
      cases hf
    | succ nn ih =>
      intro i4_3  ls z_3 hl hf hret_3 hex_3
      rw [fl_X5_isWrong_3] at hf
      refine lv_iload hx hb dX5_isWrong_3 (lv_at hl 0 rfl) ?_
      refine lv_aload_n hx hb dX5_isWrong_5 rfl (lv_at hl 1 rfl) ?_
      refine va_get (D := (dC, dI)) (ci := 5) (v := .ref (a 4)) (C := RX5) (T := TX5) (N := 9) hx hb hts hi5 hown hK hP 0 rfl rfl 1 (by decide) (hts (.fieldLink RX5 19 RX5 "book" "LFlapline$Book;") (by decide +kernel)) (fun _ h9 => h9) rfl dX5_isWrong_6 ?_
      refine va_getN (D := (dC, dI)) (ci := 1) (v := .int K.2.2.2.2.2.2) (C := RX1) (T := TX1) (N := 7) hx hb hts hi1 hown hK hP 4 rfl rfl 6 (by decide) (nf_RX5_95 hn) (fun _ h9 => h9) rfl dX5_isWrong_9 ?_
      refine lv_icmp_ge (tgt := 55) hx hb dX5_isWrong_12 (by decide) (fun c_1 => ?_) (fun c_1 => ?_)
      · replace hf := (if_pos c_1).symm.trans hf
        exact hex_3 i4_3 ls (Option.some.inj hf).symm (lv_sub hl [0, 1, 2, 3] rfl)
      · replace hf := (if_neg c_1).symm.trans hf
        refine lv_iload hx hb dX5_isWrong_15 (lv_at hl 0 rfl) ?_
        refine lv_iload_n hx hb dX5_isWrong_17 rfl (lv_at hl 3 rfl) ?_
        refine lv_icmp_eq (tgt := 49) hx hb dX5_isWrong_18 (by decide) (fun c_2 => ?_) (fun c_2 => ?_)
        · replace hf := (if_pos c_2).symm.trans hf
          refine lv_iinc (v := i4_3 + 1) (lv' := [(4, .int (i4_3 + 1)), (0, .ref (a 0)), (1, .long x0), (3, .int x1)]) hx hb dX5_isWrong_49 hl (k := 0) rfl rfl (by decide) rfl (fun ls hl => ?_)
          refine lv_goto (tgt := 3) hx hb dX5_isWrong_52 (by decide) ?_
          exact ih (i4_3 + 1) ls _ (lv_sub hl [0, 1, 2, 3] rfl) hf hret_3 hex_3
        · replace hf := (if_neg c_2).symm.trans hf
          refine lv_aload_n hx hb dX5_isWrong_21 rfl (lv_at hl 1 rfl) ?_
          refine lv_lload_n hx hb dX5_isWrong_22 rfl (lv_at hl 2 rfl) ?_
          refine lv_iload hx hb dX5_isWrong_23 (lv_at hl 0 rfl) ?_
          obtain ⟨x_3, hx_3, hf⟩ := Option.bind_eq_some_iff.mp hf
          refine q_rV (As := [.long x0, .int i4_3]) (rest := []) ⟨hx, hb, hml, hown, hts⟩ (c_X5_says l dC dI cI cJ a F B K N I T x0 i4_3 x_3 hx_3) (cwV 2 hts gX5_isWrong_X5_says rfl rfl rfl (by decide +kernel) ⟨Nat.le_of_ble_eq_true rfl, Nat.le_of_ble_eq_true rfl⟩) hK hn hP (ci := 5) rfl rfl rfl hl.1 rfl (Nat.le_of_ble_eq_true rfl) dX5_isWrong_25 ⟨Nat.zero_le _, Nat.zero_le _⟩ ?_
          refine lv_if_eq (tgt := 49) hx hb dX5_isWrong_28 (by decide) (fun c_4 => ?_) (fun c_4 => ?_)
          · replace hf := (if_pos c_4).symm.trans hf
            refine lv_iinc (v := i4_3 + 1) (lv' := [(4, .int (i4_3 + 1)), (0, .ref (a 0)), (1, .long x0), (3, .int x1)]) hx hb dX5_isWrong_49 hl (k := 0) rfl rfl (by decide) rfl (fun ls hl => ?_)
            refine lv_goto (tgt := 3) hx hb dX5_isWrong_52 (by decide) ?_
            exact ih (i4_3 + 1) ls _ (lv_sub hl [0, 1, 2, 3] rfl) hf hret_3 hex_3
          · replace hf := (if_neg c_4).symm.trans hf
            refine lv_aload_n hx hb dX5_isWrong_31 rfl (lv_at hl 1 rfl) ?_
            refine lv_aload_n hx hb dX5_isWrong_32 rfl (lv_at hl 1 rfl) ?_
            refine va_get (D := (dC, dI)) (ci := 5) (v := .ref (a 1)) (C := RX5) (T := TX5) (N := 9) hx hb hts hi5 hown hK hP 0 rfl rfl 0 (by decide) (hts (.fieldLink RX5 10 RX5 "board" "LFlapline$Board;") (by decide +kernel)) (fun _ h9 => h9) rfl dX5_isWrong_33 ?_
            refine va_getN (D := (dC, dI)) (ci := 0) (v := .long B.2.2.2.1) (C := RX0) (T := TX0) (N := 6) hx hb hts hi0 hown hK hP 1 rfl rfl 3 (by decide) (nf_RX5_287 hn) (fun _ h9 => h9) rfl dX5_isWrong_36 ?_
            refine lv_iload hx hb dX5_isWrong_39 (lv_at hl 0 rfl) ?_
            obtain ⟨x_5, hx_5, hf⟩ := Option.bind_eq_some_iff.mp hf
            refine q_rV (As := [.long B.2.2.2.1, .int i4_3]) (rest := []) ⟨hx, hb, hml, hown, hts⟩ (c_X5_says l dC dI cI cJ a F B K N I T B.2.2.2.1 i4_3 x_5 hx_5) (cwV 2 hts gX5_isWrong_X5_says rfl rfl rfl (by decide +kernel) ⟨Nat.le_of_ble_eq_true rfl, Nat.le_of_ble_eq_true rfl⟩) hK hn hP (ci := 5) rfl rfl rfl hl.1 rfl (Nat.le_of_ble_eq_true rfl) dX5_isWrong_41 ⟨Nat.zero_le _, Nat.zero_le _⟩ ?_
            refine lv_if_ne (tgt := 49) hx hb dX5_isWrong_44 (by decide) (fun c_6 => ?_) (fun c_6 => ?_)
            · replace hf := (if_neg c_6).symm.trans hf
              refine lv_iinc (v := i4_3 + 1) (lv' := [(4, .int (i4_3 + 1)), (0, .ref (a 0)), (1, .long x0), (3, .int x1)]) hx hb dX5_isWrong_49 hl (k := 0) rfl rfl (by decide) rfl (fun ls hl => ?_)
              refine lv_goto (tgt := 3) hx hb dX5_isWrong_52 (by decide) ?_
              exact ih (i4_3 + 1) ls _ (lv_sub hl [0, 1, 2, 3] rfl) hf hret_3 hex_3
            · replace hf := (if_pos c_6).symm.trans hf
              refine lv_iconst (v := 1) hx hb dX5_isWrong_47 (by decide) ?_
              replace hf := hret_3 1 (Option.some.inj hf).symm
              exact W.zret (v := 1) (ty := .boolean) hx hb hr rfl (fun t ht hW => ⟨congrArg (fun z => Outcome.returned (some (.int z))) hf, ht⟩) (fun q h => absurd h List.not_mem_nil) dX5_isWrong_48
  obtain ⟨z_7, hz_7, hf⟩ := Option.bind_eq_some_iff.mp hf
  refine L_3 1000 0 ls z_7 (lv_sub hl [0, 1, 2, 3] rfl) hz_7 (fun r_ hz => by rw [hz] at hf; exact Option.some.inj hf) (fun y_8 ls hz hl => ?_)
  subst hz
  simp only [Sum.elim_inr] at hf
  refine lv_iconst (v := 0) hx hb dX5_isWrong_55 (by decide) ?_
  replace hf := Option.some.inj hf
  exact W.zret (v := 0) (ty := .boolean) hx hb hr rfl (fun t ht hW => ⟨congrArg (fun z => Outcome.returned (some (.int z))) hf, ht⟩) (fun q h => absurd h List.not_mem_nil) dX5_isWrong_56
def f_X5_readOfGoal (F : q_Fl) (B : q_Bd) (K : q_Bk) (x0 : Int32) : Option (Int32) := ((f_X5_bestOffset B K x0).bind fun x_1 => (if x_1 = (-1) then some (-1) else ((f_X5_readAs F B K (f_X5_goalAt B K x0 x_1)).bind fun x_3 => some x_3)))
set_option maxHeartbeats 4000000 in
set_option maxRecDepth 100000 in
theorem c_X5_readOfGoal (l : Launch) (dC : Nat → ClassId) (dI : Nat → Nat → Nat) (cI cJ : ClassId) (a : Nat → Nat) (F : q_Fl) (B : q_Bd) (K : q_Bk) (N : q_Pl) (I : q_Wi) (T : q_Rt) (x0 : Int32) (r0 : Int32) (hf : f_X5_readOfGoal F B K x0 = some r0) : Met l yX5_readOfGoal wsX5_readOfGoal ({ frames := 3, cells := 0, slots := 0, locals := 73 } : Room) (va_Pc [.ref (a 0), .int x0] (q_B (dC, dI) vwCl (wSg a cI cJ F B K N I T) (q_ty cI cJ))) (k2_QcV (.int r0)) 0 0 (fun _ => False) := by
  refine Met.ofW (cc := cX5_readOfGoal) (maxL := 3) (ret := (some .int)) (by decide) rfl ?_
  intro p e s m args below meth c s₁ BB hml hv
  obtain ⟨rfl, hP, hK, hn⟩ := hv
  have hx := BB.exec
  have hb := BB.bytes
  have hr := BB.returns
  have hts := atoms_spec (ws := wsX5_readOfGoal) BB.pre
  have hown : s.vm.findClass RX5 = some m.cls := findClass_of_methodNamed BB.named
  have hlocks := BB.notSynchronized
  have hl := lv_entry [.ref (a 0), .int x0] (n := 3) (Nat.le_of_ble_eq_true rfl)
  rw [lg_entry_eq]
  generalize (lg_sl [.ref (a 0), .int x0] ++ List.replicate (3 - (lg_sl [.ref (a 0), .int x0]).length) Slot.unset).toArray = ls at hl ⊢
  have hl : lv_has ls 3 [(0, .ref (a 0)), (1, .int x0)] := hl
  unfold f_X5_readOfGoal at hf
  refine lv_aload_n hx hb dX5_readOfGoal_0 rfl (lv_at hl 0 rfl) ?_
  refine lv_iload_n hx hb dX5_readOfGoal_1 rfl (lv_at hl 1 rfl) ?_
  obtain ⟨x_1, hx_1, hf⟩ := Option.bind_eq_some_iff.mp hf
  refine q_rV (As := [.int x0]) (rest := []) ⟨hx, hb, hml, hown, hts⟩ (c_X5_bestOffset l dC dI cI cJ a F B K N I T x0 x_1 hx_1) (cwV 1 hts gX5_readOfGoal_X5_bestOffset rfl rfl rfl (by decide +kernel) ⟨Nat.le_of_ble_eq_true rfl, Nat.le_of_ble_eq_true rfl⟩) hK hn hP (ci := 5) rfl rfl rfl hl.1 rfl (Nat.le_of_ble_eq_true rfl) dX5_readOfGoal_2 ⟨Nat.zero_le _, Nat.zero_le _⟩ ?_
  refine lv_istore_n (lv' := [(2, .int x_1), (0, .ref (a 0)), (1, .int x0)]) hx hb dX5_readOfGoal_5 rfl hl (by decide) rfl (fun ls hl => ?_)
  refine lv_iload_n hx hb dX5_readOfGoal_6 rfl (lv_at hl 0 rfl) ?_
  refine lv_iconst (v := (-1)) hx hb dX5_readOfGoal_7 (by decide) ?_
  refine lv_icmp_ne (tgt := 15) hx hb dX5_readOfGoal_8 (by decide) (fun c_2 => ?_) (fun c_2 => ?_)
  · replace hf := (if_neg c_2).symm.trans hf
    refine lv_aload_n hx hb dX5_readOfGoal_15 rfl (lv_at hl 1 rfl) ?_
    refine lv_aload_n hx hb dX5_readOfGoal_16 rfl (lv_at hl 1 rfl) ?_
    refine lv_iload_n hx hb dX5_readOfGoal_17 rfl (lv_at hl 2 rfl) ?_
    refine lv_iload_n hx hb dX5_readOfGoal_18 rfl (lv_at hl 0 rfl) ?_
    refine q_rV (As := [.int x0, .int x_1]) (rest := [.ref (a 0)]) ⟨hx, hb, hml, hown, hts⟩ (c_X5_goalAt l dC dI cI cJ a F B K N I T x0 x_1) (cwV 2 hts gX5_readOfGoal_X5_goalAt rfl rfl rfl (by decide +kernel) ⟨Nat.le_of_ble_eq_true rfl, Nat.le_of_ble_eq_true rfl⟩) hK hn hP (ci := 5) rfl rfl rfl hl.1 rfl (Nat.le_of_ble_eq_true rfl) dX5_readOfGoal_19 ⟨Nat.zero_le _, Nat.zero_le _⟩ ?_
    obtain ⟨x_3, hx_3, hf⟩ := Option.bind_eq_some_iff.mp hf
    refine q_rV (As := [.long (f_X5_goalAt B K x0 x_1)]) (rest := []) ⟨hx, hb, hml, hown, hts⟩ (c_X5_readAs l dC dI cI cJ a F B K N I T (f_X5_goalAt B K x0 x_1) x_3 hx_3) (cwV 1 hts gX5_readOfGoal_X5_readAs rfl rfl rfl (by decide +kernel) ⟨Nat.le_of_ble_eq_true rfl, Nat.le_of_ble_eq_true rfl⟩) hK hn hP (ci := 5) rfl rfl rfl hl.1 rfl (Nat.le_of_ble_eq_true rfl) dX5_readOfGoal_22 ⟨Nat.zero_le _, Nat.zero_le _⟩ ?_
    replace hf := Option.some.inj hf
    exact W.iret (v := x_3) hx hb hr (fun t ht hW => ⟨congrArg (fun z => Outcome.returned (some (.int z))) hf, ht⟩) (fun q h => absurd h List.not_mem_nil) dX5_readOfGoal_25
  · replace hf := (if_pos c_2).symm.trans hf
    refine lv_iconst (v := (-1)) hx hb dX5_readOfGoal_11 (by decide) ?_
    refine lv_goto (tgt := 25) hx hb dX5_readOfGoal_12 (by decide) ?_
    replace hf := Option.some.inj hf
    exact W.iret (v := (-1)) hx hb hr (fun t ht hW => ⟨congrArg (fun z => Outcome.returned (some (.int z))) hf, ht⟩) (fun q h => absurd h List.not_mem_nil) dX5_readOfGoal_25
