def f_X5_bitOf  (x0 : Int32) (x1 : Int32) : Int32 := (5 * x0) + x1
set_option maxHeartbeats 4000000 in
set_option maxRecDepth 100000 in
theorem c_X5_bitOf (l : Launch) (dC : Nat → ClassId) (dI : Nat → Nat → Nat) (cI cJ : ClassId)   (x0 : Int32) (x1 : Int32) : Met l yX5_bitOf wsX5_bitOf ({ frames := 0, cells := 0, slots := 0, locals := 0 } : Room) (va_Pc [.int x0, .int x1] (q_B (dC, dI) vwCl [] (q_ty cI cJ))) (k2_QcV (.int (f_X5_bitOf x0 x1))) 0 0 (fun _ => False) := by
  refine Met.ofW (cc := cX5_bitOf) (maxL := 2) (ret := (some .int)) (by decide) rfl ?_
  intro p e s m args below meth c s₁ BB hml hv
  obtain ⟨rfl, hP, hK, hn⟩ := hv
  have hx := BB.exec
  have hb := BB.bytes
  have hr := BB.returns
  have hts := atoms_spec (ws := wsX5_bitOf) BB.pre
  have hown : s.vm.findClass RX5 = some m.cls := findClass_of_methodNamed BB.named
  have hlocks := BB.notSynchronized
  have hl := lv_entry [.int x0, .int x1] (n := 2) (Nat.le_of_ble_eq_true rfl)
  rw [lg_entry_eq]
  generalize (lg_sl [.int x0, .int x1] ++ List.replicate (2 - (lg_sl [.int x0, .int x1]).length) Slot.unset).toArray = ls at hl ⊢
  have hl : lv_has ls 2 [(0, .int x0), (1, .int x1)] := hl
  generalize hf : f_X5_bitOf x0 x1 = r0
  unfold f_X5_bitOf at hf
  refine lv_iconst (v := 5) hx hb dX5_bitOf_0 (by decide) ?_
  refine lv_iload_n hx hb dX5_bitOf_1 rfl (lv_at hl 0 rfl) ?_
  refine lv_imul hx hb dX5_bitOf_2 ?_
  refine lv_iload_n hx hb dX5_bitOf_3 rfl (lv_at hl 1 rfl) ?_
  refine lv_iadd hx hb dX5_bitOf_4 ?_
  exact W.iret (v := (5 * x0) + x1) hx hb hr (fun t ht hW => ⟨congrArg (fun z => Outcome.returned (some (.int z))) hf, ht⟩) (fun q h => absurd h List.not_mem_nil) dX5_bitOf_5
def f_X5_dotIn  (x0 : Int32) (x1 : Int32) : Int64 := (1 : Int64) <<< ((f_X5_bitOf x0 x1).toInt64 &&& 63)
set_option maxHeartbeats 4000000 in
set_option maxRecDepth 100000 in
theorem c_X5_dotIn (l : Launch) (dC : Nat → ClassId) (dI : Nat → Nat → Nat) (cI cJ : ClassId)   (x0 : Int32) (x1 : Int32) : Met l yX5_dotIn wsX5_dotIn ({ frames := 1, cells := 0, slots := 0, locals := 21 } : Room) (va_Pc [.int x0, .int x1] (q_B (dC, dI) vwCl [] (q_ty cI cJ))) (k2_QcV (.long (f_X5_dotIn x0 x1))) 0 0 (fun _ => False) := by
  refine Met.ofW (cc := cX5_dotIn) (maxL := 2) (ret := (some .long)) (by decide) rfl ?_
  intro p e s m args below meth c s₁ BB hml hv
  obtain ⟨rfl, hP, hK, hn⟩ := hv
  have hx := BB.exec
  have hb := BB.bytes
  have hr := BB.returns
  have hts := atoms_spec (ws := wsX5_dotIn) BB.pre
  have hown : s.vm.findClass RX5 = some m.cls := findClass_of_methodNamed BB.named
  have hlocks := BB.notSynchronized
  have hl := lv_entry [.int x0, .int x1] (n := 2) (Nat.le_of_ble_eq_true rfl)
  rw [lg_entry_eq]
  generalize (lg_sl [.int x0, .int x1] ++ List.replicate (2 - (lg_sl [.int x0, .int x1]).length) Slot.unset).toArray = ls at hl ⊢
  have hl : lv_has ls 2 [(0, .int x0), (1, .int x1)] := hl
  generalize hf : f_X5_dotIn x0 x1 = r0
  unfold f_X5_dotIn at hf
  refine lv_lconst (v := 1) hx hb dX5_dotIn_0 (by decide) ?_
  refine lv_iload_n hx hb dX5_dotIn_1 rfl (lv_at hl 0 rfl) ?_
  refine lv_iload_n hx hb dX5_dotIn_2 rfl (lv_at hl 1 rfl) ?_
  refine q_rS (As := [.int x0, .int x1]) (rest := [.long 1]) ⟨hx, hb, hml, hown, hts⟩ (c_X5_bitOf l dC dI cI cJ x0 x1) (va_cwS 2 hts gX5_dotIn_X5_bitOf rfl rfl rfl (by decide +kernel) ⟨Nat.le_of_ble_eq_true rfl, Nat.le_of_ble_eq_true rfl⟩) hK hn hP rfl hl.1 rfl (Nat.le_of_ble_eq_true rfl) dX5_dotIn_3 ⟨Nat.zero_le _, Nat.zero_le _⟩ ?_
  refine lv_lshl (v := (1 : Int64) <<< ((f_X5_bitOf x0 x1).toInt64 &&& 63)) hx hb dX5_dotIn_6 rfl ?_
  exact W.lret (v := (1 : Int64) <<< ((f_X5_bitOf x0 x1).toInt64 &&& 63)) hx hb hr (fun t ht hW => ⟨congrArg (fun z => Outcome.returned (some (.long z))) hf, ht⟩) (fun q h => absurd h List.not_mem_nil) dX5_dotIn_7
def f_X5_put (n : Nat) (f : q_IA) (x1 : Int32) (x2 : Int32) : q_IA := (if x1 < 0 then f else (if (nI n) ≤ x1 then f else (upd f x1.toNatClampNeg x2)))
set_option maxHeartbeats 4000000 in
set_option maxRecDepth 100000 in
theorem c_X5_put (l : Launch) (dC : Nat → ClassId) (dI : Nat → Nat → Nat) (cI cJ : ClassId) (b : Nat) (sz : Nat) (n : Nat) (f : q_IA) (hN : n < 2147483648) (x1 : Int32) (x2 : Int32) : Met l yX5_put wsX5_put ({ frames := 0, cells := 0, slots := 0, locals := 0 } : Room) (va_Pc [.ref b, .int x1, .int x2] (q_W (dC, dI) vwCl [(b, .inl (cI, n, .inl f))] (q_ty cI cJ) sz)) (va_Qv (S := Unit) (fun _ => True) (fun _ => q_E (dC, dI) vwCl [(b, .inl (cI, n, .inl (f_X5_put n f x1 x2)))] (q_ty cI cJ) (va_A [(b, .inl (cI, n, .inl f))] sz)) (va_A [(b, .inl (cI, n, .inl f))] sz)) 0 0 (va_A [(b, .inl (cI, n, .inl f))] sz) := by
  refine Met.ofW (cc := cX5_put) (maxL := 3) (ret := none) (by decide) rfl ?_
  intro p e s m args below meth c s₁ BB hml hv
  obtain ⟨rfl, hsz, hP, hK, hn, hD0⟩ := hv
  have hx := BB.exec
  have hb := BB.bytes
  have hr := BB.returns
  have hts := atoms_spec (ws := wsX5_put) BB.pre
  have hown : s.vm.findClass RX5 = some m.cls := findClass_of_methodNamed BB.named
  have hlocks := BB.notSynchronized
  subst hsz
  have hD := hD0.self (sz := s.heap.size)
  generalize hAe : va_A [(b, .inl (cI, n, .inl f))] s.heap.size = A at hD ⊢
  have hA : ∀ q : Nat, s.heap.size ≤ q → A q := fun q h => by rw [← hAe]; exact Or.inr h
  have hS : va_S A s.heap s.heap [] := va_S.rf
  have hl := lv_entry [.ref b, .int x1, .int x2] (n := 3) (Nat.le_of_ble_eq_true rfl)
  rw [lg_entry_eq]
  generalize (lg_sl [.ref b, .int x1, .int x2] ++ List.replicate (3 - (lg_sl [.ref b, .int x1, .int x2]).length) Slot.unset).toArray = ls at hl ⊢
  have hl : lv_has ls 3 [(0, .ref b), (1, .int x1), (2, .int x2)] := hl
  generalize hf : f_X5_put n f x1 x2 = r0
  obtain ⟨H, hH⟩ : ∃ H, H = s.heap := ⟨_, rfl⟩
  obtain ⟨locs, hlocs⟩ : ∃ x : List Loc, x = [] := ⟨_, rfl⟩
  rw [← hH] at hP
  have hS : va_S A s.heap H locs := by rw [hH, hlocs]; exact hS
  suffices hgoal : ∀ (H : Heap) (locs : List Loc), va_P (dC, dI) vwCl [(b, .inl (cI, n, .inl f))] H → va_S A s.heap H locs → W p l e (headSpec wsX5_put ({ frames := 0, cells := 0, slots := 0, locals := 0 } : Room)).room s m [.ref b, .int x1, .int x2].toArray below meth c H locs 0 0 (MQ below (va_Qv (S := Unit) (fun _ => True) (fun _ => q_E (dC, dI) vwCl [(b, .inl (cI, n, .inl r0))] (q_ty cI cJ) A) A) [.ref b, .int x1, .int x2].toArray s 0 0 A) (F0 m 0 ls []) by
    have h9 := hgoal H locs hP hS
    rw [hH, hlocs] at h9
    exact h9
  clear hP hS hH H hlocs locs
  intro H locs hP hS
  unfold f_X5_put at hf
  refine lv_iload_n hx hb dX5_put_0 rfl (lv_at hl 1 rfl) ?_
  refine lv_if_lt (tgt := 14) hx hb dX5_put_1 (by decide) (fun c_1 => ?_) (fun c_1 => ?_)
  · replace hf := (if_pos c_1).symm.trans hf
    subst hf
    exact W.vret hx hb hr (fun t ht hW => ⟨⟨(), rfl, trivial, ⟨by rw [ht]; exact hP, va_K.moved hW.alike hK, hD⟩⟩, hS.F ht⟩) hS.2.2 dX5_put_14
  · replace hf := (if_neg c_1).symm.trans hf
    refine lv_iload_n hx hb dX5_put_4 rfl (lv_at hl 1 rfl) ?_
    refine lv_aload_n hx hb dX5_put_5 rfl (lv_at hl 0 rfl) ?_
    refine va_alen (v := nI n) hx hb hK hP 0 0 rfl rfl rfl dX5_put_6 ?_
    refine lv_icmp_ge (tgt := 14) hx hb dX5_put_7 (by decide) (fun c_2 => ?_) (fun c_2 => ?_)
    · replace hf := (if_pos c_2).symm.trans hf
      subst hf
      exact W.vret hx hb hr (fun t ht hW => ⟨⟨(), rfl, trivial, ⟨by rw [ht]; exact hP, va_K.moved hW.alike hK, hD⟩⟩, hS.F ht⟩) hS.2.2 dX5_put_14
    · replace hf := (if_neg c_2).symm.trans hf
      refine lv_aload_n hx hb dX5_put_10 rfl (lv_at hl 0 rfl) ?_
      refine lv_iload_n hx hb dX5_put_11 rfl (lv_at hl 1 rfl) ?_
      refine lv_iload_n hx hb dX5_put_12 rfl (lv_at hl 2 rfl) ?_
      refine va_iast hx hb hK hP hD hS 0 0 rfl rfl (q_in c_1 c_2 hN) dX5_put_13 (fun H locs hP hD hS => ?_)
      have hP : va_P (dC, dI) vwCl [(b, .inl (cI, n, .inl (upd f x1.toNatClampNeg x2)))] H := hP
      have hD : va_D A [(b, .inl (cI, n, .inl (upd f x1.toNatClampNeg x2)))] := hD
      subst hf
      exact W.vret hx hb hr (fun t ht hW => ⟨⟨(), rfl, trivial, ⟨by rw [ht]; exact hP, va_K.moved hW.alike hK, hD⟩⟩, hS.F ht⟩) hS.2.2 dX5_put_14
def f_X5_at (n : Nat) (f : q_IA) (x1 : Int32) : Int32 := (if x1 < 0 then 0 else (if (nI n) ≤ x1 then 0 else f x1.toNatClampNeg))
set_option maxHeartbeats 4000000 in
set_option maxRecDepth 100000 in
theorem c_X5_at (l : Launch) (dC : Nat → ClassId) (dI : Nat → Nat → Nat) (cI cJ : ClassId) (b : Nat) (n : Nat) (f : q_IA) (hN : n < 2147483648) (x1 : Int32) : Met l yX5_at wsX5_at ({ frames := 0, cells := 0, slots := 0, locals := 0 } : Room) (va_Pc [.ref b, .int x1] (q_B (dC, dI) vwCl [(b, .inl (cI, n, .inl f))] (q_ty cI cJ))) (k2_QcV (.int (f_X5_at n f x1))) 0 0 (fun _ => False) := by
  refine Met.ofW (cc := cX5_at) (maxL := 2) (ret := (some .int)) (by decide) rfl ?_
  intro p e s m args below meth c s₁ BB hml hv
  obtain ⟨rfl, hP, hK, hn⟩ := hv
  have hx := BB.exec
  have hb := BB.bytes
  have hr := BB.returns
  have hts := atoms_spec (ws := wsX5_at) BB.pre
  have hown : s.vm.findClass RX5 = some m.cls := findClass_of_methodNamed BB.named
  have hlocks := BB.notSynchronized
  have hl := lv_entry [.ref b, .int x1] (n := 2) (Nat.le_of_ble_eq_true rfl)
  rw [lg_entry_eq]
  generalize (lg_sl [.ref b, .int x1] ++ List.replicate (2 - (lg_sl [.ref b, .int x1]).length) Slot.unset).toArray = ls at hl ⊢
  have hl : lv_has ls 2 [(0, .ref b), (1, .int x1)] := hl
  generalize hf : f_X5_at n f x1 = r0
  unfold f_X5_at at hf
  refine lv_iload_n hx hb dX5_at_0 rfl (lv_at hl 1 rfl) ?_
  refine lv_if_lt (tgt := 16) hx hb dX5_at_1 (by decide) (fun c_1 => ?_) (fun c_1 => ?_)
  · replace hf := (if_pos c_1).symm.trans hf
    refine lv_iconst (v := 0) hx hb dX5_at_16 (by decide) ?_
    exact W.iret (v := 0) hx hb hr (fun t ht hW => ⟨congrArg (fun z => Outcome.returned (some (.int z))) hf, ht⟩) (fun q h => absurd h List.not_mem_nil) dX5_at_17
  · replace hf := (if_neg c_1).symm.trans hf
    refine lv_iload_n hx hb dX5_at_4 rfl (lv_at hl 1 rfl) ?_
    refine lv_aload_n hx hb dX5_at_5 rfl (lv_at hl 0 rfl) ?_
    refine va_alen (v := nI n) hx hb hK hP 0 0 rfl rfl rfl dX5_at_6 ?_
    refine lv_icmp_ge (tgt := 16) hx hb dX5_at_7 (by decide) (fun c_2 => ?_) (fun c_2 => ?_)
    · replace hf := (if_pos c_2).symm.trans hf
      refine lv_iconst (v := 0) hx hb dX5_at_16 (by decide) ?_
      exact W.iret (v := 0) hx hb hr (fun t ht hW => ⟨congrArg (fun z => Outcome.returned (some (.int z))) hf, ht⟩) (fun q h => absurd h List.not_mem_nil) dX5_at_17
    · replace hf := (if_neg c_2).symm.trans hf
      refine lv_aload_n hx hb dX5_at_10 rfl (lv_at hl 0 rfl) ?_
      refine lv_iload_n hx hb dX5_at_11 rfl (lv_at hl 1 rfl) ?_
      refine va_iald hx hb hK hP 0 0 rfl rfl (q_in c_1 c_2 hN) dX5_at_12 ?_
      refine lv_goto (tgt := 17) hx hb dX5_at_13 (by decide) ?_
      exact W.iret (v := f x1.toNatClampNeg) hx hb hr (fun t ht hW => ⟨congrArg (fun z => Outcome.returned (some (.int z))) hf, ht⟩) (fun q h => absurd h List.not_mem_nil) dX5_at_17
def f_X5_setIn  (x0 : Int64) (x1 : Int32) : Int32 := (((x0.toUInt64 >>> ((5 * x1).toInt64.toUInt64 &&& Int64.toUInt64 63)).toInt64).toInt32) &&& 31
set_option maxHeartbeats 4000000 in
set_option maxRecDepth 100000 in
theorem c_X5_setIn (l : Launch) (dC : Nat → ClassId) (dI : Nat → Nat → Nat) (cI cJ : ClassId)   (x0 : Int64) (x1 : Int32) : Met l yX5_setIn wsX5_setIn ({ frames := 0, cells := 0, slots := 0, locals := 0 } : Room) (va_Pc [.long x0, .int x1] (q_B (dC, dI) vwCl [] (q_ty cI cJ))) (k2_QcV (.int (f_X5_setIn x0 x1))) 0 0 (fun _ => False) := by
  refine Met.ofW (cc := cX5_setIn) (maxL := 3) (ret := (some .int)) (by decide) rfl ?_
  intro p e s m args below meth c s₁ BB hml hv
  obtain ⟨rfl, hP, hK, hn⟩ := hv
  have hx := BB.exec
  have hb := BB.bytes
  have hr := BB.returns
  have hts := atoms_spec (ws := wsX5_setIn) BB.pre
  have hown : s.vm.findClass RX5 = some m.cls := findClass_of_methodNamed BB.named
  have hlocks := BB.notSynchronized
  have hl := lv_entry [.long x0, .int x1] (n := 3) (Nat.le_of_ble_eq_true rfl)
  rw [lg_entry_eq]
  generalize (lg_sl [.long x0, .int x1] ++ List.replicate (3 - (lg_sl [.long x0, .int x1]).length) Slot.unset).toArray = ls at hl ⊢
  have hl : lv_has ls 3 [(0, .long x0), (2, .int x1)] := hl
  generalize hf : f_X5_setIn x0 x1 = r0
  unfold f_X5_setIn at hf
  refine lv_lload_n hx hb dX5_setIn_0 rfl (lv_at hl 0 rfl) ?_
  refine lv_iconst (v := 5) hx hb dX5_setIn_1 (by decide) ?_
  refine lv_iload_n hx hb dX5_setIn_2 rfl (lv_at hl 1 rfl) ?_
  refine lv_imul hx hb dX5_setIn_3 ?_
  refine lv_lushr (v := (x0.toUInt64 >>> ((5 * x1).toInt64.toUInt64 &&& Int64.toUInt64 63)).toInt64) hx hb dX5_setIn_4 rfl ?_
  refine lv_l2i (v := ((x0.toUInt64 >>> ((5 * x1).toInt64.toUInt64 &&& Int64.toUInt64 63)).toInt64).toInt32) hx hb dX5_setIn_5 rfl ?_
  refine lv_bipush (v := 31) hx hb dX5_setIn_6 (by decide) ?_
  refine lv_iand hx hb dX5_setIn_8 ?_
  exact W.iret (v := (((x0.toUInt64 >>> ((5 * x1).toInt64.toUInt64 &&& Int64.toUInt64 63)).toInt64).toInt32) &&& 31) hx hb hr (fun t ht hW => ⟨congrArg (fun z => Outcome.returned (some (.int z))) hf, ht⟩) (fun q h => absurd h List.not_mem_nil) dX5_setIn_9
def f_J6_bitCount_0f7a4  (x0 : Int32) : Int32 := (q_let (x0 - (((x0.toUInt32 >>> ((1 : Int32).toUInt32 &&& Int32.toUInt32 31)).toInt32) &&& 1431655765)) (fun v_1 => (q_let ((v_1 &&& 858993459) + (((v_1.toUInt32 >>> ((2 : Int32).toUInt32 &&& Int32.toUInt32 31)).toInt32) &&& 858993459)) (fun v_2 => (q_let ((v_2 + ((v_2.toUInt32 >>> ((4 : Int32).toUInt32 &&& Int32.toUInt32 31)).toInt32)) &&& 252645135) (fun v_3 => (q_let (v_3 + ((v_3.toUInt32 >>> ((8 : Int32).toUInt32 &&& Int32.toUInt32 31)).toInt32)) (fun v_4 => (q_let (v_4 + ((v_4.toUInt32 >>> ((16 : Int32).toUInt32 &&& Int32.toUInt32 31)).toInt32)) (fun v_5 => v_5 &&& 63))))))))))
set_option maxHeartbeats 4000000 in
set_option maxRecDepth 100000 in
theorem c_J6_bitCount_0f7a4 (l : Launch) (dC : Nat → ClassId) (dI : Nat → Nat → Nat) (cI cJ : ClassId)   (x0 : Int32) : Met l yJ6_bitCount_0f7a4 wsJ6_bitCount_0f7a4 ({ frames := 0, cells := 0, slots := 0, locals := 0 } : Room) (va_Pc [.int x0] (q_B (dC, dI) vwCl [] (q_ty cI cJ))) (k2_QcV (.int (f_J6_bitCount_0f7a4 x0))) 0 0 (fun _ => False) := by
  refine Met.ofW (cc := cJ6_bitCount_0f7a4) (maxL := 1) (ret := (some .int)) (by decide) rfl ?_
  intro p e s m args below meth c s₁ BB hml hv
  obtain ⟨rfl, hP, hK, hn⟩ := hv
  have hx := BB.exec
  have hb := BB.bytes
  have hr := BB.returns
  have hts := atoms_spec (ws := wsJ6_bitCount_0f7a4) BB.pre
  have hown : s.vm.findClass RJ6 = some m.cls := findClass_of_methodNamed BB.named
  have hlocks := BB.notSynchronized
  have hl := lv_entry [.int x0] (n := 1) (Nat.le_of_ble_eq_true rfl)
  rw [lg_entry_eq]
  generalize (lg_sl [.int x0] ++ List.replicate (1 - (lg_sl [.int x0]).length) Slot.unset).toArray = ls at hl ⊢
  have hl : lv_has ls 1 [(0, .int x0)] := hl
  generalize hf : f_J6_bitCount_0f7a4 x0 = r0
  unfold f_J6_bitCount_0f7a4 at hf
  refine lv_iload_n hx hb dJ6_bitCount_0f7a4_0 rfl (lv_at hl 0 rfl) ?_
  refine lv_iload_n hx hb dJ6_bitCount_0f7a4_1 rfl (lv_at hl 0 rfl) ?_
  refine lv_iconst (v := 1) hx hb dJ6_bitCount_0f7a4_2 (by decide) ?_
  refine lv_iushr (v := (x0.toUInt32 >>> ((1 : Int32).toUInt32 &&& Int32.toUInt32 31)).toInt32) hx hb dJ6_bitCount_0f7a4_3 rfl ?_
  refine lv_ldcw hx hb hown (hts (.constant RJ6 265 1431655765) (by decide +kernel)) dJ6_bitCount_0f7a4_4 ?_
  refine lv_iand hx hb dJ6_bitCount_0f7a4_7 ?_
  refine lv_isub hx hb dJ6_bitCount_0f7a4_8 ?_
  refine lv_topi (fun v_1 ev_1 => ?_)
  replace hf := q_letE ev_1 hf
  refine lv_istore_n (lv' := [(0, .int v_1)]) hx hb dJ6_bitCount_0f7a4_9 rfl hl (by decide) rfl (fun ls hl => ?_)
  refine lv_iload_n hx hb dJ6_bitCount_0f7a4_10 rfl (lv_at hl 0 rfl) ?_
  refine lv_ldcw hx hb hown (hts (.constant RJ6 266 858993459) (by decide +kernel)) dJ6_bitCount_0f7a4_11 ?_
  refine lv_iand hx hb dJ6_bitCount_0f7a4_14 ?_
  refine lv_iload_n hx hb dJ6_bitCount_0f7a4_15 rfl (lv_at hl 0 rfl) ?_
  refine lv_iconst (v := 2) hx hb dJ6_bitCount_0f7a4_16 (by decide) ?_
  refine lv_iushr (v := (v_1.toUInt32 >>> ((2 : Int32).toUInt32 &&& Int32.toUInt32 31)).toInt32) hx hb dJ6_bitCount_0f7a4_17 rfl ?_
  refine lv_ldcw hx hb hown (hts (.constant RJ6 266 858993459) (by decide +kernel)) dJ6_bitCount_0f7a4_18 ?_
  refine lv_iand hx hb dJ6_bitCount_0f7a4_21 ?_
  refine lv_iadd hx hb dJ6_bitCount_0f7a4_22 ?_
  refine lv_topi (fun v_2 ev_2 => ?_)
  replace hf := q_letE ev_2 hf
  refine lv_istore_n (lv' := [(0, .int v_2)]) hx hb dJ6_bitCount_0f7a4_23 rfl hl (by decide) rfl (fun ls hl => ?_)
  refine lv_iload_n hx hb dJ6_bitCount_0f7a4_24 rfl (lv_at hl 0 rfl) ?_
  refine lv_iload_n hx hb dJ6_bitCount_0f7a4_25 rfl (lv_at hl 0 rfl) ?_
  refine lv_iconst (v := 4) hx hb dJ6_bitCount_0f7a4_26 (by decide) ?_
  refine lv_iushr (v := (v_2.toUInt32 >>> ((4 : Int32).toUInt32 &&& Int32.toUInt32 31)).toInt32) hx hb dJ6_bitCount_0f7a4_27 rfl ?_
  refine lv_iadd hx hb dJ6_bitCount_0f7a4_28 ?_
  refine lv_ldcw hx hb hown (hts (.constant RJ6 267 252645135) (by decide +kernel)) dJ6_bitCount_0f7a4_29 ?_
  refine lv_iand hx hb dJ6_bitCount_0f7a4_32 ?_
  refine lv_topi (fun v_3 ev_3 => ?_)
  replace hf := q_letE ev_3 hf
  refine lv_istore_n (lv' := [(0, .int v_3)]) hx hb dJ6_bitCount_0f7a4_33 rfl hl (by decide) rfl (fun ls hl => ?_)
  refine lv_iload_n hx hb dJ6_bitCount_0f7a4_34 rfl (lv_at hl 0 rfl) ?_
  refine lv_iload_n hx hb dJ6_bitCount_0f7a4_35 rfl (lv_at hl 0 rfl) ?_
  refine lv_bipush (v := 8) hx hb dJ6_bitCount_0f7a4_36 (by decide) ?_
  refine lv_iushr (v := (v_3.toUInt32 >>> ((8 : Int32).toUInt32 &&& Int32.toUInt32 31)).toInt32) hx hb dJ6_bitCount_0f7a4_38 rfl ?_
  refine lv_iadd hx hb dJ6_bitCount_0f7a4_39 ?_
  refine lv_topi (fun v_4 ev_4 => ?_)
  replace hf := q_letE ev_4 hf
  refine lv_istore_n (lv' := [(0, .int v_4)]) hx hb dJ6_bitCount_0f7a4_40 rfl hl (by decide) rfl (fun ls hl => ?_)
  refine lv_iload_n hx hb dJ6_bitCount_0f7a4_41 rfl (lv_at hl 0 rfl) ?_
  refine lv_iload_n hx hb dJ6_bitCount_0f7a4_42 rfl (lv_at hl 0 rfl) ?_
  refine lv_bipush (v := 16) hx hb dJ6_bitCount_0f7a4_43 (by decide) ?_
  refine lv_iushr (v := (v_4.toUInt32 >>> ((16 : Int32).toUInt32 &&& Int32.toUInt32 31)).toInt32) hx hb dJ6_bitCount_0f7a4_45 rfl ?_
  refine lv_iadd hx hb dJ6_bitCount_0f7a4_46 ?_
  refine lv_topi (fun v_5 ev_5 => ?_)
  replace hf := q_letE ev_5 hf
  refine lv_istore_n (lv' := [(0, .int v_5)]) hx hb dJ6_bitCount_0f7a4_47 rfl hl (by decide) rfl (fun ls hl => ?_)
  refine lv_iload_n hx hb dJ6_bitCount_0f7a4_48 rfl (lv_at hl 0 rfl) ?_
  refine lv_bipush (v := 63) hx hb dJ6_bitCount_0f7a4_49 (by decide) ?_
  refine lv_iand hx hb dJ6_bitCount_0f7a4_51 ?_
  exact W.iret (v := v_5 &&& 63) hx hb hr (fun t ht hW => ⟨congrArg (fun z => Outcome.returned (some (.int z))) hf, ht⟩) (fun q h => absurd h List.not_mem_nil) dJ6_bitCount_0f7a4_52
def f_X5_put_ (n : Nat) (f : q_LA) (x1 : Int32) (x2 : Int64) : q_LA := (if x1 < 0 then f else (if (nI n) ≤ x1 then f else (vp_updL f x1.toNatClampNeg x2)))
set_option maxHeartbeats 4000000 in
set_option maxRecDepth 100000 in
theorem c_X5_put_ (l : Launch) (dC : Nat → ClassId) (dI : Nat → Nat → Nat) (cI cJ : ClassId) (b : Nat) (sz : Nat) (n : Nat) (f : q_LA) (hN : n < 2147483648) (x1 : Int32) (x2 : Int64) : Met l yX5_put_ wsX5_put_ ({ frames := 0, cells := 0, slots := 0, locals := 0 } : Room) (va_Pc [.ref b, .int x1, .long x2] (q_W (dC, dI) vwCl [(b, .inl (cJ, n, .inr (.inl f)))] (q_ty cI cJ) sz)) (va_Qv (S := Unit) (fun _ => True) (fun _ => q_E (dC, dI) vwCl [(b, .inl (cJ, n, .inr (.inl (f_X5_put_ n f x1 x2))))] (q_ty cI cJ) (va_A [(b, .inl (cJ, n, .inr (.inl f)))] sz)) (va_A [(b, .inl (cJ, n, .inr (.inl f)))] sz)) 0 0 (va_A [(b, .inl (cJ, n, .inr (.inl f)))] sz) := by
  refine Met.ofW (cc := cX5_put_) (maxL := 4) (ret := none) (by decide) rfl ?_
  intro p e s m args below meth c s₁ BB hml hv
  obtain ⟨rfl, hsz, hP, hK, hn, hD0⟩ := hv
  have hx := BB.exec
  have hb := BB.bytes
  have hr := BB.returns
  have hts := atoms_spec (ws := wsX5_put_) BB.pre
  have hown : s.vm.findClass RX5 = some m.cls := findClass_of_methodNamed BB.named
  have hlocks := BB.notSynchronized
  subst hsz
  have hD := hD0.self (sz := s.heap.size)
  generalize hAe : va_A [(b, .inl (cJ, n, .inr (.inl f)))] s.heap.size = A at hD ⊢
  have hA : ∀ q : Nat, s.heap.size ≤ q → A q := fun q h => by rw [← hAe]; exact Or.inr h
  have hS : va_S A s.heap s.heap [] := va_S.rf
  have hl := lv_entry [.ref b, .int x1, .long x2] (n := 4) (Nat.le_of_ble_eq_true rfl)
  rw [lg_entry_eq]
  generalize (lg_sl [.ref b, .int x1, .long x2] ++ List.replicate (4 - (lg_sl [.ref b, .int x1, .long x2]).length) Slot.unset).toArray = ls at hl ⊢
  have hl : lv_has ls 4 [(0, .ref b), (1, .int x1), (2, .long x2)] := hl
  generalize hf : f_X5_put_ n f x1 x2 = r0
  obtain ⟨H, hH⟩ : ∃ H, H = s.heap := ⟨_, rfl⟩
  obtain ⟨locs, hlocs⟩ : ∃ x : List Loc, x = [] := ⟨_, rfl⟩
  rw [← hH] at hP
  have hS : va_S A s.heap H locs := by rw [hH, hlocs]; exact hS
  suffices hgoal : ∀ (H : Heap) (locs : List Loc), va_P (dC, dI) vwCl [(b, .inl (cJ, n, .inr (.inl f)))] H → va_S A s.heap H locs → W p l e (headSpec wsX5_put_ ({ frames := 0, cells := 0, slots := 0, locals := 0 } : Room)).room s m [.ref b, .int x1, .long x2].toArray below meth c H locs 0 0 (MQ below (va_Qv (S := Unit) (fun _ => True) (fun _ => q_E (dC, dI) vwCl [(b, .inl (cJ, n, .inr (.inl r0)))] (q_ty cI cJ) A) A) [.ref b, .int x1, .long x2].toArray s 0 0 A) (F0 m 0 ls []) by
    have h9 := hgoal H locs hP hS
    rw [hH, hlocs] at h9
    exact h9
  clear hP hS hH H hlocs locs
  intro H locs hP hS
  unfold f_X5_put_ at hf
  refine lv_iload_n hx hb dX5_put__0 rfl (lv_at hl 1 rfl) ?_
  refine lv_if_lt (tgt := 14) hx hb dX5_put__1 (by decide) (fun c_1 => ?_) (fun c_1 => ?_)
  · replace hf := (if_pos c_1).symm.trans hf
    subst hf
    exact W.vret hx hb hr (fun t ht hW => ⟨⟨(), rfl, trivial, ⟨by rw [ht]; exact hP, va_K.moved hW.alike hK, hD⟩⟩, hS.F ht⟩) hS.2.2 dX5_put__14
  · replace hf := (if_neg c_1).symm.trans hf
    refine lv_iload_n hx hb dX5_put__4 rfl (lv_at hl 1 rfl) ?_
    refine lv_aload_n hx hb dX5_put__5 rfl (lv_at hl 0 rfl) ?_
    refine va_alen (v := nI n) hx hb hK hP 0 1 rfl rfl rfl dX5_put__6 ?_
    refine lv_icmp_ge (tgt := 14) hx hb dX5_put__7 (by decide) (fun c_2 => ?_) (fun c_2 => ?_)
    · replace hf := (if_pos c_2).symm.trans hf
      subst hf
      exact W.vret hx hb hr (fun t ht hW => ⟨⟨(), rfl, trivial, ⟨by rw [ht]; exact hP, va_K.moved hW.alike hK, hD⟩⟩, hS.F ht⟩) hS.2.2 dX5_put__14
    · replace hf := (if_neg c_2).symm.trans hf
      refine lv_aload_n hx hb dX5_put__10 rfl (lv_at hl 0 rfl) ?_
      refine lv_iload_n hx hb dX5_put__11 rfl (lv_at hl 1 rfl) ?_
      refine lv_lload_n hx hb dX5_put__12 rfl (lv_at hl 2 rfl) ?_
      refine va_last hx hb hK hP hD hS 0 1 rfl rfl (q_in c_1 c_2 hN) dX5_put__13 (fun H locs hP hD hS => ?_)
      have hP : va_P (dC, dI) vwCl [(b, .inl (cJ, n, .inr (.inl (vp_updL f x1.toNatClampNeg x2))))] H := hP
      have hD : va_D A [(b, .inl (cJ, n, .inr (.inl (vp_updL f x1.toNatClampNeg x2))))] := hD
      subst hf
      exact W.vret hx hb hr (fun t ht hW => ⟨⟨(), rfl, trivial, ⟨by rw [ht]; exact hP, va_K.moved hW.alike hK, hD⟩⟩, hS.F ht⟩) hS.2.2 dX5_put__14
def f_J13_bitCount_95d88  (x0 : Int64) : Int32 := (q_let (x0 - (((x0.toUInt64 >>> ((1 : Int32).toInt64.toUInt64 &&& Int64.toUInt64 63)).toInt64) &&& 6148914691236517205)) (fun v_1 => (q_let ((v_1 &&& 3689348814741910323) + (((v_1.toUInt64 >>> ((2 : Int32).toInt64.toUInt64 &&& Int64.toUInt64 63)).toInt64) &&& 3689348814741910323)) (fun v_2 => (q_let ((v_2 + ((v_2.toUInt64 >>> ((4 : Int32).toInt64.toUInt64 &&& Int64.toUInt64 63)).toInt64)) &&& 1085102592571150095) (fun v_3 => (q_let (v_3 + ((v_3.toUInt64 >>> ((8 : Int32).toInt64.toUInt64 &&& Int64.toUInt64 63)).toInt64)) (fun v_4 => (q_let (v_4 + ((v_4.toUInt64 >>> ((16 : Int32).toInt64.toUInt64 &&& Int64.toUInt64 63)).toInt64)) (fun v_5 => (q_let (v_5 + ((v_5.toUInt64 >>> ((32 : Int32).toInt64.toUInt64 &&& Int64.toUInt64 63)).toInt64)) (fun v_6 => v_6.toInt32 &&& 127))))))))))))
set_option maxHeartbeats 4000000 in
set_option maxRecDepth 100000 in
theorem c_J13_bitCount_95d88 (l : Launch) (dC : Nat → ClassId) (dI : Nat → Nat → Nat) (cI cJ : ClassId)   (x0 : Int64) : Met l yJ13_bitCount_95d88 wsJ13_bitCount_95d88 ({ frames := 0, cells := 0, slots := 0, locals := 0 } : Room) (va_Pc [.long x0] (q_B (dC, dI) vwCl [] (q_ty cI cJ))) (k2_QcV (.int (f_J13_bitCount_95d88 x0))) 0 0 (fun _ => False) := by
  refine Met.ofW (cc := cJ13_bitCount_95d88) (maxL := 2) (ret := (some .int)) (by decide) rfl ?_
  intro p e s m args below meth c s₁ BB hml hv
  obtain ⟨rfl, hP, hK, hn⟩ := hv
  have hx := BB.exec
  have hb := BB.bytes
  have hr := BB.returns
  have hts := atoms_spec (ws := wsJ13_bitCount_95d88) BB.pre
  have hown : s.vm.findClass RJ13 = some m.cls := findClass_of_methodNamed BB.named
  have hlocks := BB.notSynchronized
  have hl := lv_entry [.long x0] (n := 2) (Nat.le_of_ble_eq_true rfl)
  rw [lg_entry_eq]
  generalize (lg_sl [.long x0] ++ List.replicate (2 - (lg_sl [.long x0]).length) Slot.unset).toArray = ls at hl ⊢
  have hl : lv_has ls 2 [(0, .long x0)] := hl
  generalize hf : f_J13_bitCount_95d88 x0 = r0
  unfold f_J13_bitCount_95d88 at hf
  refine lv_lload_n hx hb dJ13_bitCount_95d88_0 rfl (lv_at hl 0 rfl) ?_
  refine lv_lload_n hx hb dJ13_bitCount_95d88_1 rfl (lv_at hl 0 rfl) ?_
  refine lv_iconst (v := 1) hx hb dJ13_bitCount_95d88_2 (by decide) ?_
  refine lv_lushr (v := (x0.toUInt64 >>> ((1 : Int32).toInt64.toUInt64 &&& Int64.toUInt64 63)).toInt64) hx hb dJ13_bitCount_95d88_3 rfl ?_
  refine lv_ldc2 hx hb hown (hts (.constantLong RJ13 314 6148914691236517205) (by decide +kernel)) dJ13_bitCount_95d88_4 ?_
  refine lv_land hx hb dJ13_bitCount_95d88_7 ?_
  refine lv_lsub hx hb dJ13_bitCount_95d88_8 ?_
  refine lv_topl (fun v_1 ev_1 => ?_)
  replace hf := q_letE ev_1 hf
  refine lv_lstore_n (lv' := [(0, .long v_1)]) hx hb dJ13_bitCount_95d88_9 rfl hl (by decide) rfl (fun ls hl => ?_)
  refine lv_lload_n hx hb dJ13_bitCount_95d88_10 rfl (lv_at hl 0 rfl) ?_
  refine lv_ldc2 hx hb hown (hts (.constantLong RJ13 316 3689348814741910323) (by decide +kernel)) dJ13_bitCount_95d88_11 ?_
  refine lv_land hx hb dJ13_bitCount_95d88_14 ?_
  refine lv_lload_n hx hb dJ13_bitCount_95d88_15 rfl (lv_at hl 0 rfl) ?_
  refine lv_iconst (v := 2) hx hb dJ13_bitCount_95d88_16 (by decide) ?_
  refine lv_lushr (v := (v_1.toUInt64 >>> ((2 : Int32).toInt64.toUInt64 &&& Int64.toUInt64 63)).toInt64) hx hb dJ13_bitCount_95d88_17 rfl ?_
  refine lv_ldc2 hx hb hown (hts (.constantLong RJ13 316 3689348814741910323) (by decide +kernel)) dJ13_bitCount_95d88_18 ?_
  refine lv_land hx hb dJ13_bitCount_95d88_21 ?_
  refine lv_ladd hx hb dJ13_bitCount_95d88_22 ?_
  refine lv_topl (fun v_2 ev_2 => ?_)
  replace hf := q_letE ev_2 hf
  refine lv_lstore_n (lv' := [(0, .long v_2)]) hx hb dJ13_bitCount_95d88_23 rfl hl (by decide) rfl (fun ls hl => ?_)
  refine lv_lload_n hx hb dJ13_bitCount_95d88_24 rfl (lv_at hl 0 rfl) ?_
  refine lv_lload_n hx hb dJ13_bitCount_95d88_25 rfl (lv_at hl 0 rfl) ?_
  refine lv_iconst (v := 4) hx hb dJ13_bitCount_95d88_26 (by decide) ?_
  refine lv_lushr (v := (v_2.toUInt64 >>> ((4 : Int32).toInt64.toUInt64 &&& Int64.toUInt64 63)).toInt64) hx hb dJ13_bitCount_95d88_27 rfl ?_
  refine lv_ladd hx hb dJ13_bitCount_95d88_28 ?_
  refine lv_ldc2 hx hb hown (hts (.constantLong RJ13 318 1085102592571150095) (by decide +kernel)) dJ13_bitCount_95d88_29 ?_
  refine lv_land hx hb dJ13_bitCount_95d88_32 ?_
  refine lv_topl (fun v_3 ev_3 => ?_)
  replace hf := q_letE ev_3 hf
  refine lv_lstore_n (lv' := [(0, .long v_3)]) hx hb dJ13_bitCount_95d88_33 rfl hl (by decide) rfl (fun ls hl => ?_)
  refine lv_lload_n hx hb dJ13_bitCount_95d88_34 rfl (lv_at hl 0 rfl) ?_
  refine lv_lload_n hx hb dJ13_bitCount_95d88_35 rfl (lv_at hl 0 rfl) ?_
  refine lv_bipush (v := 8) hx hb dJ13_bitCount_95d88_36 (by decide) ?_
  refine lv_lushr (v := (v_3.toUInt64 >>> ((8 : Int32).toInt64.toUInt64 &&& Int64.toUInt64 63)).toInt64) hx hb dJ13_bitCount_95d88_38 rfl ?_
  refine lv_ladd hx hb dJ13_bitCount_95d88_39 ?_
  refine lv_topl (fun v_4 ev_4 => ?_)
  replace hf := q_letE ev_4 hf
  refine lv_lstore_n (lv' := [(0, .long v_4)]) hx hb dJ13_bitCount_95d88_40 rfl hl (by decide) rfl (fun ls hl => ?_)
  refine lv_lload_n hx hb dJ13_bitCount_95d88_41 rfl (lv_at hl 0 rfl) ?_
  refine lv_lload_n hx hb dJ13_bitCount_95d88_42 rfl (lv_at hl 0 rfl) ?_
  refine lv_bipush (v := 16) hx hb dJ13_bitCount_95d88_43 (by decide) ?_
  refine lv_lushr (v := (v_4.toUInt64 >>> ((16 : Int32).toInt64.toUInt64 &&& Int64.toUInt64 63)).toInt64) hx hb dJ13_bitCount_95d88_45 rfl ?_
  refine lv_ladd hx hb dJ13_bitCount_95d88_46 ?_
  refine lv_topl (fun v_5 ev_5 => ?_)
  replace hf := q_letE ev_5 hf
  refine lv_lstore_n (lv' := [(0, .long v_5)]) hx hb dJ13_bitCount_95d88_47 rfl hl (by decide) rfl (fun ls hl => ?_)
  refine lv_lload_n hx hb dJ13_bitCount_95d88_48 rfl (lv_at hl 0 rfl) ?_
  refine lv_lload_n hx hb dJ13_bitCount_95d88_49 rfl (lv_at hl 0 rfl) ?_
  refine lv_bipush (v := 32) hx hb dJ13_bitCount_95d88_50 (by decide) ?_
  refine lv_lushr (v := (v_5.toUInt64 >>> ((32 : Int32).toInt64.toUInt64 &&& Int64.toUInt64 63)).toInt64) hx hb dJ13_bitCount_95d88_52 rfl ?_
  refine lv_ladd hx hb dJ13_bitCount_95d88_53 ?_
  refine lv_topl (fun v_6 ev_6 => ?_)
  replace hf := q_letE ev_6 hf
  refine lv_lstore_n (lv' := [(0, .long v_6)]) hx hb dJ13_bitCount_95d88_54 rfl hl (by decide) rfl (fun ls hl => ?_)
  refine lv_lload_n hx hb dJ13_bitCount_95d88_55 rfl (lv_at hl 0 rfl) ?_
  refine lv_l2i (v := v_6.toInt32) hx hb dJ13_bitCount_95d88_56 rfl ?_
  refine lv_bipush (v := 127) hx hb dJ13_bitCount_95d88_57 (by decide) ?_
  refine lv_iand hx hb dJ13_bitCount_95d88_59 ?_
  exact W.iret (v := v_6.toInt32 &&& 127) hx hb hr (fun t ht hW => ⟨congrArg (fun z => Outcome.returned (some (.int z))) hf, ht⟩) (fun q h => absurd h List.not_mem_nil) dJ13_bitCount_95d88_60
def f_X5_isColumnSet  (x0 : Int32) : Int32 := (if x0 < 0 then 0 else (if 31 < x0 then 0 else 1))
set_option maxHeartbeats 4000000 in
set_option maxRecDepth 100000 in
theorem c_X5_isColumnSet (l : Launch) (dC : Nat → ClassId) (dI : Nat → Nat → Nat) (cI cJ : ClassId)   (x0 : Int32) : Met l yX5_isColumnSet wsX5_isColumnSet ({ frames := 0, cells := 0, slots := 0, locals := 0 } : Room) (va_Pc [.int x0] (q_B (dC, dI) vwCl [] (q_ty cI cJ))) (k2_QcV (.int (f_X5_isColumnSet x0))) 0 0 (fun _ => False) := by
  refine Met.ofW (cc := cX5_isColumnSet) (maxL := 1) (ret := (some .boolean)) (by decide) rfl ?_
  intro p e s m args below meth c s₁ BB hml hv
  obtain ⟨rfl, hP, hK, hn⟩ := hv
  have hx := BB.exec
  have hb := BB.bytes
  have hr := BB.returns
  have hts := atoms_spec (ws := wsX5_isColumnSet) BB.pre
  have hown : s.vm.findClass RX5 = some m.cls := findClass_of_methodNamed BB.named
  have hlocks := BB.notSynchronized
  have hl := lv_entry [.int x0] (n := 1) (Nat.le_of_ble_eq_true rfl)
  rw [lg_entry_eq]
  generalize (lg_sl [.int x0] ++ List.replicate (1 - (lg_sl [.int x0]).length) Slot.unset).toArray = ls at hl ⊢
  have hl : lv_has ls 1 [(0, .int x0)] := hl
  generalize hf : f_X5_isColumnSet x0 = r0
  unfold f_X5_isColumnSet at hf
  refine lv_iload_n hx hb dX5_isColumnSet_0 rfl (lv_at hl 0 rfl) ?_
  refine lv_if_lt (tgt := 14) hx hb dX5_isColumnSet_1 (by decide) (fun c_1 => ?_) (fun c_1 => ?_)
  · replace hf := (if_pos c_1).symm.trans hf
    refine lv_iconst (v := 0) hx hb dX5_isColumnSet_14 (by decide) ?_
    exact W.zret (v := 0) (ty := .boolean) hx hb hr rfl (fun t ht hW => ⟨congrArg (fun z => Outcome.returned (some (.int z))) hf, ht⟩) (fun q h => absurd h List.not_mem_nil) dX5_isColumnSet_15
  · replace hf := (if_neg c_1).symm.trans hf
    refine lv_iload_n hx hb dX5_isColumnSet_4 rfl (lv_at hl 0 rfl) ?_
    refine lv_bipush (v := 31) hx hb dX5_isColumnSet_5 (by decide) ?_
    refine lv_icmp_gt (tgt := 14) hx hb dX5_isColumnSet_7 (by decide) (fun c_2 => ?_) (fun c_2 => ?_)
    · replace hf := (if_pos c_2).symm.trans hf
      refine lv_iconst (v := 0) hx hb dX5_isColumnSet_14 (by decide) ?_
      exact W.zret (v := 0) (ty := .boolean) hx hb hr rfl (fun t ht hW => ⟨congrArg (fun z => Outcome.returned (some (.int z))) hf, ht⟩) (fun q h => absurd h List.not_mem_nil) dX5_isColumnSet_15
    · replace hf := (if_neg c_2).symm.trans hf
      refine lv_iconst (v := 1) hx hb dX5_isColumnSet_10 (by decide) ?_
      refine lv_goto (tgt := 15) hx hb dX5_isColumnSet_11 (by decide) ?_
      exact W.zret (v := 1) (ty := .boolean) hx hb hr rfl (fun t ht hW => ⟨congrArg (fun z => Outcome.returned (some (.int z))) hf, ht⟩) (fun q h => absurd h List.not_mem_nil) dX5_isColumnSet_15
def f_X5_isHeight  (x0 : Int32) : Int32 := (if x0 < 0 then 0 else (if 5 ≤ x0 then 0 else 1))
set_option maxHeartbeats 4000000 in
set_option maxRecDepth 100000 in
theorem c_X5_isHeight (l : Launch) (dC : Nat → ClassId) (dI : Nat → Nat → Nat) (cI cJ : ClassId)   (x0 : Int32) : Met l yX5_isHeight wsX5_isHeight ({ frames := 0, cells := 0, slots := 0, locals := 0 } : Room) (va_Pc [.int x0] (q_B (dC, dI) vwCl [] (q_ty cI cJ))) (k2_QcV (.int (f_X5_isHeight x0))) 0 0 (fun _ => False) := by
  refine Met.ofW (cc := cX5_isHeight) (maxL := 1) (ret := (some .boolean)) (by decide) rfl ?_
  intro p e s m args below meth c s₁ BB hml hv
  obtain ⟨rfl, hP, hK, hn⟩ := hv
  have hx := BB.exec
  have hb := BB.bytes
  have hr := BB.returns
  have hts := atoms_spec (ws := wsX5_isHeight) BB.pre
  have hown : s.vm.findClass RX5 = some m.cls := findClass_of_methodNamed BB.named
  have hlocks := BB.notSynchronized
  have hl := lv_entry [.int x0] (n := 1) (Nat.le_of_ble_eq_true rfl)
  rw [lg_entry_eq]
  generalize (lg_sl [.int x0] ++ List.replicate (1 - (lg_sl [.int x0]).length) Slot.unset).toArray = ls at hl ⊢
  have hl : lv_has ls 1 [(0, .int x0)] := hl
  generalize hf : f_X5_isHeight x0 = r0
  unfold f_X5_isHeight at hf
  refine lv_iload_n hx hb dX5_isHeight_0 rfl (lv_at hl 0 rfl) ?_
  refine lv_if_lt (tgt := 13) hx hb dX5_isHeight_1 (by decide) (fun c_1 => ?_) (fun c_1 => ?_)
  · replace hf := (if_pos c_1).symm.trans hf
    refine lv_iconst (v := 0) hx hb dX5_isHeight_13 (by decide) ?_
    exact W.zret (v := 0) (ty := .boolean) hx hb hr rfl (fun t ht hW => ⟨congrArg (fun z => Outcome.returned (some (.int z))) hf, ht⟩) (fun q h => absurd h List.not_mem_nil) dX5_isHeight_14
  · replace hf := (if_neg c_1).symm.trans hf
    refine lv_iload_n hx hb dX5_isHeight_4 rfl (lv_at hl 0 rfl) ?_
    refine lv_iconst (v := 5) hx hb dX5_isHeight_5 (by decide) ?_
    refine lv_icmp_ge (tgt := 13) hx hb dX5_isHeight_6 (by decide) (fun c_2 => ?_) (fun c_2 => ?_)
    · replace hf := (if_pos c_2).symm.trans hf
      refine lv_iconst (v := 0) hx hb dX5_isHeight_13 (by decide) ?_
      exact W.zret (v := 0) (ty := .boolean) hx hb hr rfl (fun t ht hW => ⟨congrArg (fun z => Outcome.returned (some (.int z))) hf, ht⟩) (fun q h => absurd h List.not_mem_nil) dX5_isHeight_14
    · replace hf := (if_neg c_2).symm.trans hf
      refine lv_iconst (v := 1) hx hb dX5_isHeight_9 (by decide) ?_
      refine lv_goto (tgt := 14) hx hb dX5_isHeight_10 (by decide) ?_
      exact W.zret (v := 1) (ty := .boolean) hx hb hr rfl (fun t ht hW => ⟨congrArg (fun z => Outcome.returned (some (.int z))) hf, ht⟩) (fun q h => absurd h List.not_mem_nil) dX5_isHeight_14
def f_X5_lesser  (x0 : Int32) (x1 : Int32) : Int32 := (if x0 = (-1) then x1 else (if x1 = (-1) then x0 else (if x0 ≤ x1 then x0 else x1)))
set_option maxHeartbeats 4000000 in
set_option maxRecDepth 100000 in
theorem c_X5_lesser (l : Launch) (dC : Nat → ClassId) (dI : Nat → Nat → Nat) (cI cJ : ClassId)   (x0 : Int32) (x1 : Int32) : Met l yX5_lesser wsX5_lesser ({ frames := 0, cells := 0, slots := 0, locals := 0 } : Room) (va_Pc [.int x0, .int x1] (q_B (dC, dI) vwCl [] (q_ty cI cJ))) (k2_QcV (.int (f_X5_lesser x0 x1))) 0 0 (fun _ => False) := by
  refine Met.ofW (cc := cX5_lesser) (maxL := 2) (ret := (some .int)) (by decide) rfl ?_
  intro p e s m args below meth c s₁ BB hml hv
  obtain ⟨rfl, hP, hK, hn⟩ := hv
  have hx := BB.exec
  have hb := BB.bytes
  have hr := BB.returns
  have hts := atoms_spec (ws := wsX5_lesser) BB.pre
  have hown : s.vm.findClass RX5 = some m.cls := findClass_of_methodNamed BB.named
  have hlocks := BB.notSynchronized
  have hl := lv_entry [.int x0, .int x1] (n := 2) (Nat.le_of_ble_eq_true rfl)
  rw [lg_entry_eq]
  generalize (lg_sl [.int x0, .int x1] ++ List.replicate (2 - (lg_sl [.int x0, .int x1]).length) Slot.unset).toArray = ls at hl ⊢
  have hl : lv_has ls 2 [(0, .int x0), (1, .int x1)] := hl
  generalize hf : f_X5_lesser x0 x1 = r0
  unfold f_X5_lesser at hf
  refine lv_iload_n hx hb dX5_lesser_0 rfl (lv_at hl 0 rfl) ?_
  refine lv_iconst (v := (-1)) hx hb dX5_lesser_1 (by decide) ?_
  refine lv_icmp_eq (tgt := 15) hx hb dX5_lesser_2 (by decide) (fun c_1 => ?_) (fun c_1 => ?_)
  · replace hf := (if_pos c_1).symm.trans hf
    refine lv_iload_n hx hb dX5_lesser_15 rfl (lv_at hl 1 rfl) ?_
    refine lv_goto (tgt := 20) hx hb dX5_lesser_16 (by decide) ?_
    exact W.iret (v := x1) hx hb hr (fun t ht hW => ⟨congrArg (fun z => Outcome.returned (some (.int z))) hf, ht⟩) (fun q h => absurd h List.not_mem_nil) dX5_lesser_20
  · replace hf := (if_neg c_1).symm.trans hf
    refine lv_iload_n hx hb dX5_lesser_5 rfl (lv_at hl 1 rfl) ?_
    refine lv_iconst (v := (-1)) hx hb dX5_lesser_6 (by decide) ?_
    refine lv_icmp_eq (tgt := 19) hx hb dX5_lesser_7 (by decide) (fun c_2 => ?_) (fun c_2 => ?_)
    · replace hf := (if_pos c_2).symm.trans hf
      refine lv_iload_n hx hb dX5_lesser_19 rfl (lv_at hl 0 rfl) ?_
      exact W.iret (v := x0) hx hb hr (fun t ht hW => ⟨congrArg (fun z => Outcome.returned (some (.int z))) hf, ht⟩) (fun q h => absurd h List.not_mem_nil) dX5_lesser_20
    · replace hf := (if_neg c_2).symm.trans hf
      refine lv_iload_n hx hb dX5_lesser_10 rfl (lv_at hl 1 rfl) ?_
      refine lv_iload_n hx hb dX5_lesser_11 rfl (lv_at hl 0 rfl) ?_
      refine lv_icmp_ge (tgt := 19) hx hb dX5_lesser_12 (by decide) (fun c_3 => ?_) (fun c_3 => ?_)
      · replace hf := (if_pos c_3).symm.trans hf
        refine lv_iload_n hx hb dX5_lesser_19 rfl (lv_at hl 0 rfl) ?_
        exact W.iret (v := x0) hx hb hr (fun t ht hW => ⟨congrArg (fun z => Outcome.returned (some (.int z))) hf, ht⟩) (fun q h => absurd h List.not_mem_nil) dX5_lesser_20
      · replace hf := (if_neg c_3).symm.trans hf
        refine lv_iload_n hx hb dX5_lesser_15 rfl (lv_at hl 1 rfl) ?_
        refine lv_goto (tgt := 20) hx hb dX5_lesser_16 (by decide) ?_
        exact W.iret (v := x1) hx hb hr (fun t ht hW => ⟨congrArg (fun z => Outcome.returned (some (.int z))) hf, ht⟩) (fun q h => absurd h List.not_mem_nil) dX5_lesser_20
