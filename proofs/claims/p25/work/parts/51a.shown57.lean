/-- what a walk of isShown's body stands on -/
def q_Sh (p : Program) (s : State) (m : MethodId) (meth : Method) (c : Code) (A : Nat → Prop) (D : va_G) (tys : List (ClassId × FieldType)) (av : Array Value) : Prop := p.tables.exec = Jvm.exec ∧ c.code = cL_isShown ∧ meth.sig.returnType = some .boolean ∧ (∀ w ∈ wsM_isShown, w.before av s = true) ∧ s.vm.findClass RL = some m.cls ∧ meth.locks = false ∧ (∀ q : Nat, s.heap.size ≤ q → A q) ∧ va_K D vwCl tys s ∧ nwA s ∧ c.maxLocals = 15
set_option maxHeartbeats 8000000 in
set_option maxRecDepth 100000 in
theorem lt_isShown_57 {p : Program} {e : Env} {s : State} {m : MethodId} {below : List Frame} {meth : Method} {c : Code} {A : Nat → Prop} (l : Launch) (dC : Nat → ClassId) (dI : Nat → Nat → Nat) (cI cJ cZ : ClassId) (a : Nat → Nat) (adt : Nat) (r0 : Int32 × q_Fl × q_Bd × q_Pl) (x1 : Int32) (x2 : Int32) (F : q_Fl) (B : q_Bd) (K : q_Bk) (I : q_Wi) (T : q_Rt) (nt : Nat) (ft : q_IA) (x_1 : Int32 × q_Pl) (x_2 : Int32 × q_Pl) (x_3 : Int32) (x_4 : Int32) (q_6 : Nat) (q_8 : Nat) (q_10 : Nat) (C0 : q_Sh p s m meth c A (dC, dI) (q_ty3 cI cJ cZ) [.ref (a 0), .int x1, .int x2, .ref adt].toArray)   : ∀ (nn : Nat) (i11_57 : Int32) (N_57 : q_Pl) (A_q_6_57 : q_IA) (H : Heap) (locs : List Loc) (ls : Array Slot) (z_57 : (Int32 × q_Pl × q_IA)), lv_has ls 15 [(11, .int i11_57), (10, .ref q_10), (9, .ref q_8), (8, .ref q_6), (7, .int x_4), (6, .int x_3), (5, .int x_2.1), (4, .int x_1.1), (0, .ref (a 0)), (1, .int x1), (2, .int x2), (3, .ref adt)] → va_P (dC, dI) vwCl (wSg a cI cJ F B K N_57 I T ++ [(adt, .inl (cI, nt, .inl ft))] ++ [(q_6, .inl (cI, ((if (0 : Int32) < x_1.1 then x_1.1 else 0).toNatClampNeg), .inl A_q_6_57))] ++ [(q_8, .inl (cI, x2.toNatClampNeg, .inl (fun _ => 0)))] ++ [(q_10, .inl (cZ, x_4.toNatClampNeg, .inl (fun _ => 0)))]) H → va_D A (wSg a cI cJ F B K N_57 I T ++ [(adt, .inl (cI, nt, .inl ft))] ++ [(q_6, .inl (cI, ((if (0 : Int32) < x_1.1 then x_1.1 else 0).toNatClampNeg), .inl A_q_6_57))] ++ [(q_8, .inl (cI, x2.toNatClampNeg, .inl (fun _ => 0)))] ++ [(q_10, .inl (cZ, x_4.toNatClampNeg, .inl (fun _ => 0)))]) → va_S A s.heap H locs → fl_L_isShown_57 x1 F B K x_1 nn i11_57 N_57 A_q_6_57 = some z_57 → (∀ (H : Heap) (locs : List Loc) (ls : Array Slot), lv_has ls 15 [(11, .int z_57.1), (10, .ref q_10), (9, .ref q_8), (8, .ref q_6), (7, .int x_4), (6, .int x_3), (5, .int x_2.1), (4, .int x_1.1), (0, .ref (a 0)), (1, .int x1), (2, .int x2), (3, .ref adt)] → va_P (dC, dI) vwCl (wSg a cI cJ F B K z_57.2.1 I T ++ [(adt, .inl (cI, nt, .inl ft))] ++ [(q_6, .inl (cI, ((if (0 : Int32) < x_1.1 then x_1.1 else 0).toNatClampNeg), .inl z_57.2.2))] ++ [(q_8, .inl (cI, x2.toNatClampNeg, .inl (fun _ => 0)))] ++ [(q_10, .inl (cZ, x_4.toNatClampNeg, .inl (fun _ => 0)))]) H → va_D A (wSg a cI cJ F B K z_57.2.1 I T ++ [(adt, .inl (cI, nt, .inl ft))] ++ [(q_6, .inl (cI, ((if (0 : Int32) < x_1.1 then x_1.1 else 0).toNatClampNeg), .inl z_57.2.2))] ++ [(q_8, .inl (cI, x2.toNatClampNeg, .inl (fun _ => 0)))] ++ [(q_10, .inl (cZ, x_4.toNatClampNeg, .inl (fun _ => 0)))]) → va_S A s.heap H locs → W p l e (headSpec wsM_isShown ({ frames := 7, cells := 193, slots := 7412, locals := 161 } : Room)).room s m [.ref (a 0), .int x1, .int x2, .ref adt].toArray below meth c H locs 3 192 (MQ below (va_Qi (S := Unit) (fun r_ _ => r_ = r0.1) (fun _ => q_E (dC, dI) vwCl (wSg a cI cJ r0.2.1 r0.2.2.1 K r0.2.2.2 I T ++ [(adt, .inl (cI, nt, .inl ft))]) (q_ty3 cI cJ cZ) A) A) [.ref (a 0), .int x1, .int x2, .ref adt].toArray s 193 7412 A) (F0 m 83 ls [])) → W p l e (headSpec wsM_isShown ({ frames := 7, cells := 193, slots := 7412, locals := 161 } : Room)).room s m [.ref (a 0), .int x1, .int x2, .ref adt].toArray below meth c H locs 3 192 (MQ below (va_Qi (S := Unit) (fun r_ _ => r_ = r0.1) (fun _ => q_E (dC, dI) vwCl (wSg a cI cJ r0.2.1 r0.2.2.1 K r0.2.2.2 I T ++ [(adt, .inl (cI, nt, .inl ft))]) (q_ty3 cI cJ cZ) A) A) [.ref (a 0), .int x1, .int x2, .ref adt].toArray s 193 7412 A) (F0 m 57 ls []) := by
  have C := C0
  obtain ⟨hx, hb, hr, hts, hown, hlocks, hA, hK, hn, hml⟩ := C0
  intro nn
  induction nn with
  | zero =>
    intro i11_57 N_57 A_q_6_57 H locs ls z_57 hl hP hD hS hf hex_57
    rw [fl_L_isShown_57] at hf
    cases hf
  | succ nn ih =>
    intro i11_57 N_57 A_q_6_57 H locs ls z_57 hl hP hD hS hf hex_57
    rw [fl_L_isShown_57] at hf
    refine lv_iload hx hb dL_isShown_57 (lv_at hl 0 rfl) ?_
    refine lv_aload hx hb dL_isShown_59 (lv_at hl 3 rfl) ?_
    refine va_alen (v := nI (if (0 : Int32) < x_1.1 then x_1.1 else 0).toNatClampNeg) hx hb hK hP 19 0 rfl rfl rfl dL_isShown_61 ?_
    refine lv_icmp_ge (tgt := 83) hx hb dL_isShown_62 (by decide) (fun c_57001 => ?_) (fun c_57001 => ?_)
    · replace hf := (if_pos c_57001).symm.trans hf
      replace hf := Option.some.inj hf
      subst hf
      exact hex_57 H locs ls (lv_sub hl [0, 1, 2, 3, 4, 5, 6, 7, 8, 9, 10, 11] rfl) hP hD hS
    · replace hf := (if_neg c_57001).symm.trans hf
      refine lv_aload hx hb dL_isShown_65 (lv_at hl 3 rfl) ?_
      refine lv_iload hx hb dL_isShown_67 (lv_at hl 0 rfl) ?_
      refine lv_aload_n hx hb dL_isShown_69 rfl (lv_at hl 8 rfl) ?_
      refine lv_iload_n hx hb dL_isShown_70 rfl (lv_at hl 9 rfl) ?_
      refine lv_iload hx hb dL_isShown_71 (lv_at hl 0 rfl) ?_
      obtain ⟨x_57002, hx_57002, hf⟩ := Option.bind_eq_some_iff.mp hf
      have hPc := hP.sub (ws' := (wSg a cI cJ F B K N_57 I T)) [0, 1, 2, 3, 4, 5, 6, 7, 8, 9, 10, 11, 12, 13, 14, 15, 16, 17] rfl
      have hDc := hD.sub (ws' := (wSg a cI cJ F B K N_57 I T)) [0, 1, 2, 3, 4, 5, 6, 7, 8, 9, 10, 11, 12, 13, 14, 15, 16, 17] (by decide) rfl
      have hFc := va_free (wc := (wSg a cI cJ F B K N_57 I T)) hD hS hA [0, 1, 2, 3, 4, 5, 6, 7, 8, 9, 10, 11, 12, 13, 14, 15, 16, 17] rfl
      refine va_calli (va_runV (As := [.int x1, .int i11_57]) (rest := [.int i11_57, .ref q_6]) ⟨hx, hb, hml, hown, hts⟩ (c_X5_step l dC dI cI cJ a H.size F B K N_57 I T x1 i11_57 x_57002 hx_57002) (cwV 2 hts gM_isShown_X5_step rfl rfl rfl (by decide +kernel) ⟨Nat.le_of_ble_eq_true rfl, Nat.le_of_ble_eq_true rfl⟩) ⟨q_Wblind, va_recv (hK.sub (tys' := q_ty cI cJ) [0, 1] rfl) hPc (ci := 5) (q0 := 0) rfl rfl, q_Wpre hPc (hK.sub (tys' := q_ty cI cJ) [0, 1] rfl) hn hDc⟩ rfl rfl hl.1 rfl (lv_room (Nat.le_of_ble_eq_true rfl)) dL_isShown_73 ⟨by show 3 + 0 ≤ 193; omega, by show 192 + 0 ≤ 7412; omega⟩) hS (fun q _ h => hFc q h) hFc (fun r_9 u t H1 locs ht hvm hw hB hz1 hk1 hS => ?_)
      subst hw
      obtain ⟨hP1, hK1, hD1⟩ := hB
      rw [ht] at hP1
      obtain ⟨hP, hD⟩ := va_join (wr := ([(adt, .inl (cI, nt, .inl ft))] ++ [(q_6, .inl (cI, ((if (0 : Int32) < x_1.1 then x_1.1 else 0).toNatClampNeg), .inl A_q_6_57))] ++ [(q_8, .inl (cI, x2.toNatClampNeg, .inl (fun _ => 0)))] ++ [(q_10, .inl (cZ, x_4.toNatClampNeg, .inl (fun _ => 0)))])) (w1 := (wSg a cI cJ F B K x_57002.2 I T)) hP hD [0, 1, 2, 3, 4, 5, 6, 7, 8, 9, 10, 11, 12, 13, 14, 15, 16, 17] [18, 19, 20, 21] rfl rfl (by decide) (by decide) hk1 hFc hP1 hD1
      generalize H1 = H at hP hS ⊢
      replace hP := hP.sub (ws' := (wSg a cI cJ F B K x_57002.2 I T ++ [(adt, .inl (cI, nt, .inl ft))] ++ [(q_6, .inl (cI, ((if (0 : Int32) < x_1.1 then x_1.1 else 0).toNatClampNeg), .inl A_q_6_57))] ++ [(q_8, .inl (cI, x2.toNatClampNeg, .inl (fun _ => 0)))] ++ [(q_10, .inl (cZ, x_4.toNatClampNeg, .inl (fun _ => 0)))])) [4, 5, 6, 7, 8, 9, 10, 11, 12, 13, 14, 15, 16, 17, 18, 19, 20, 21, 0, 1, 2, 3] rfl
      replace hD := hD.sub (ws' := (wSg a cI cJ F B K x_57002.2 I T ++ [(adt, .inl (cI, nt, .inl ft))] ++ [(q_6, .inl (cI, ((if (0 : Int32) < x_1.1 then x_1.1 else 0).toNatClampNeg), .inl A_q_6_57))] ++ [(q_8, .inl (cI, x2.toNatClampNeg, .inl (fun _ => 0)))] ++ [(q_10, .inl (cZ, x_4.toNatClampNeg, .inl (fun _ => 0)))])) [4, 5, 6, 7, 8, 9, 10, 11, 12, 13, 14, 15, 16, 17, 18, 19, 20, 21, 0, 1, 2, 3] (by decide) rfl
      have hP : va_P (dC, dI) vwCl (wSg a cI cJ F B K x_57002.2 I T ++ [(adt, .inl (cI, nt, .inl ft))] ++ [(q_6, .inl (cI, ((if (0 : Int32) < x_1.1 then x_1.1 else 0).toNatClampNeg), .inl A_q_6_57))] ++ [(q_8, .inl (cI, x2.toNatClampNeg, .inl (fun _ => 0)))] ++ [(q_10, .inl (cZ, x_4.toNatClampNeg, .inl (fun _ => 0)))]) H := hP
      have hD : va_D A (wSg a cI cJ F B K x_57002.2 I T ++ [(adt, .inl (cI, nt, .inl ft))] ++ [(q_6, .inl (cI, ((if (0 : Int32) < x_1.1 then x_1.1 else 0).toNatClampNeg), .inl A_q_6_57))] ++ [(q_8, .inl (cI, x2.toNatClampNeg, .inl (fun _ => 0)))] ++ [(q_10, .inl (cZ, x_4.toNatClampNeg, .inl (fun _ => 0)))]) := hD
      by_cases nc_57003 : ¬ q_ix i11_57 (if (0 : Int32) < x_1.1 then x_1.1 else 0).toNatClampNeg = true
      · replace hf := (if_neg nc_57003).symm.trans hf
        cases hf
      have c_57003 := Classical.not_not.mp nc_57003
      replace hf := (if_pos c_57003).symm.trans hf
      refine va_iast hx hb hK hP hD hS 19 0 rfl rfl (q_ix_in c_57003) dL_isShown_76 (fun H locs hP hD hS => ?_)
      have hP : va_P (dC, dI) vwCl (wSg a cI cJ F B K x_57002.2 I T ++ [(adt, .inl (cI, nt, .inl ft))] ++ [(q_6, .inl (cI, ((if (0 : Int32) < x_1.1 then x_1.1 else 0).toNatClampNeg), .inl (upd A_q_6_57 i11_57.toNatClampNeg x_57002.1)))] ++ [(q_8, .inl (cI, x2.toNatClampNeg, .inl (fun _ => 0)))] ++ [(q_10, .inl (cZ, x_4.toNatClampNeg, .inl (fun _ => 0)))]) H := hP
      have hD : va_D A (wSg a cI cJ F B K x_57002.2 I T ++ [(adt, .inl (cI, nt, .inl ft))] ++ [(q_6, .inl (cI, ((if (0 : Int32) < x_1.1 then x_1.1 else 0).toNatClampNeg), .inl (upd A_q_6_57 i11_57.toNatClampNeg x_57002.1)))] ++ [(q_8, .inl (cI, x2.toNatClampNeg, .inl (fun _ => 0)))] ++ [(q_10, .inl (cZ, x_4.toNatClampNeg, .inl (fun _ => 0)))]) := hD
      refine lv_iinc (v := i11_57 + 1) (lv' := [(11, .int (i11_57 + 1)), (10, .ref q_10), (9, .ref q_8), (8, .ref q_6), (7, .int x_4), (6, .int x_3), (5, .int x_2.1), (4, .int x_1.1), (0, .ref (a 0)), (1, .int x1), (2, .int x2), (3, .ref adt)]) hx hb dL_isShown_77 hl (k := 0) rfl rfl (by decide) rfl (fun ls hl => ?_)
      refine lv_goto (tgt := 57) hx hb dL_isShown_80 (by decide) ?_
      exact ih (i11_57 + 1) x_57002.2 (upd A_q_6_57 i11_57.toNatClampNeg x_57002.1) H locs ls _ (lv_sub hl [0, 1, 2, 3, 4, 5, 6, 7, 8, 9, 10, 11] rfl) hP hD hS hf hex_57
set_option maxHeartbeats 8000000 in
set_option maxRecDepth 100000 in
theorem lt_isShown_86 {p : Program} {e : Env} {s : State} {m : MethodId} {below : List Frame} {meth : Method} {c : Code} {A : Nat → Prop} (l : Launch) (dC : Nat → ClassId) (dI : Nat → Nat → Nat) (cI cJ cZ : ClassId) (a : Nat → Nat) (adt : Nat) (r0 : Int32 × q_Fl × q_Bd × q_Pl) (x1 : Int32) (x2 : Int32) (F : q_Fl) (B : q_Bd) (K : q_Bk) (I : q_Wi) (T : q_Rt) (nt : Nat) (ft : q_IA) (x_1 : Int32 × q_Pl) (x_2 : Int32 × q_Pl) (x_3 : Int32) (x_4 : Int32) (z_11 : Int32 × q_Pl × q_IA) (q_6 : Nat) (q_8 : Nat) (q_10 : Nat) (C0 : q_Sh p s m meth c A (dC, dI) (q_ty3 cI cJ cZ) [.ref (a 0), .int x1, .int x2, .ref adt].toArray)   : ∀ (nn : Nat) (i11_86 : Int32) (A_q_8_86 : q_IA) (H : Heap) (locs : List Loc) (ls : Array Slot) (z_86 : (Int32 × q_IA)), lv_has ls 15 [(11, .int i11_86), (10, .ref q_10), (9, .ref q_8), (8, .ref q_6), (7, .int x_4), (6, .int x_3), (5, .int x_2.1), (4, .int x_1.1), (0, .ref (a 0)), (1, .int x1), (2, .int x2), (3, .ref adt)] → va_P (dC, dI) vwCl (wSg a cI cJ F B K z_11.2.1 I T ++ [(adt, .inl (cI, nt, .inl ft))] ++ [(q_6, .inl (cI, ((if (0 : Int32) < x_1.1 then x_1.1 else 0).toNatClampNeg), .inl z_11.2.2))] ++ [(q_8, .inl (cI, x2.toNatClampNeg, .inl A_q_8_86))] ++ [(q_10, .inl (cZ, x_4.toNatClampNeg, .inl (fun _ => 0)))]) H → va_D A (wSg a cI cJ F B K z_11.2.1 I T ++ [(adt, .inl (cI, nt, .inl ft))] ++ [(q_6, .inl (cI, ((if (0 : Int32) < x_1.1 then x_1.1 else 0).toNatClampNeg), .inl z_11.2.2))] ++ [(q_8, .inl (cI, x2.toNatClampNeg, .inl A_q_8_86))] ++ [(q_10, .inl (cZ, x_4.toNatClampNeg, .inl (fun _ => 0)))]) → va_S A s.heap H locs → fl_L_isShown_86 x2 B nn i11_86 A_q_8_86 = some z_86 → (∀ (H : Heap) (locs : List Loc) (ls : Array Slot), lv_has ls 15 [(11, .int z_86.1), (10, .ref q_10), (9, .ref q_8), (8, .ref q_6), (7, .int x_4), (6, .int x_3), (5, .int x_2.1), (4, .int x_1.1), (0, .ref (a 0)), (1, .int x1), (2, .int x2), (3, .ref adt)] → va_P (dC, dI) vwCl (wSg a cI cJ F B K z_11.2.1 I T ++ [(adt, .inl (cI, nt, .inl ft))] ++ [(q_6, .inl (cI, ((if (0 : Int32) < x_1.1 then x_1.1 else 0).toNatClampNeg), .inl z_11.2.2))] ++ [(q_8, .inl (cI, x2.toNatClampNeg, .inl z_86.2))] ++ [(q_10, .inl (cZ, x_4.toNatClampNeg, .inl (fun _ => 0)))]) H → va_D A (wSg a cI cJ F B K z_11.2.1 I T ++ [(adt, .inl (cI, nt, .inl ft))] ++ [(q_6, .inl (cI, ((if (0 : Int32) < x_1.1 then x_1.1 else 0).toNatClampNeg), .inl z_11.2.2))] ++ [(q_8, .inl (cI, x2.toNatClampNeg, .inl z_86.2))] ++ [(q_10, .inl (cZ, x_4.toNatClampNeg, .inl (fun _ => 0)))]) → va_S A s.heap H locs → W p l e (headSpec wsM_isShown ({ frames := 7, cells := 193, slots := 7412, locals := 161 } : Room)).room s m [.ref (a 0), .int x1, .int x2, .ref adt].toArray below meth c H locs 3 192 (MQ below (va_Qi (S := Unit) (fun r_ _ => r_ = r0.1) (fun _ => q_E (dC, dI) vwCl (wSg a cI cJ r0.2.1 r0.2.2.1 K r0.2.2.2 I T ++ [(adt, .inl (cI, nt, .inl ft))]) (q_ty3 cI cJ cZ) A) A) [.ref (a 0), .int x1, .int x2, .ref adt].toArray s 193 7412 A) (F0 m 110 ls [])) → W p l e (headSpec wsM_isShown ({ frames := 7, cells := 193, slots := 7412, locals := 161 } : Room)).room s m [.ref (a 0), .int x1, .int x2, .ref adt].toArray below meth c H locs 3 192 (MQ below (va_Qi (S := Unit) (fun r_ _ => r_ = r0.1) (fun _ => q_E (dC, dI) vwCl (wSg a cI cJ r0.2.1 r0.2.2.1 K r0.2.2.2 I T ++ [(adt, .inl (cI, nt, .inl ft))]) (q_ty3 cI cJ cZ) A) A) [.ref (a 0), .int x1, .int x2, .ref adt].toArray s 193 7412 A) (F0 m 86 ls []) := by
  have C := C0
  obtain ⟨hx, hb, hr, hts, hown, hlocks, hA, hK, hn, hml⟩ := C0
  intro nn
  induction nn with
  | zero =>
    intro i11_86 A_q_8_86 H locs ls z_86 hl hP hD hS hf hex_86
    rw [fl_L_isShown_86] at hf
    cases hf
  | succ nn ih =>
    intro i11_86 A_q_8_86 H locs ls z_86 hl hP hD hS hf hex_86
    rw [fl_L_isShown_86] at hf
    refine lv_iload hx hb dL_isShown_86 (lv_at hl 0 rfl) ?_
    refine lv_iload_n hx hb dL_isShown_88 rfl (lv_at hl 10 rfl) ?_
    refine lv_icmp_ge (tgt := 110) hx hb dL_isShown_89 (by decide) (fun c_86001 => ?_) (fun c_86001 => ?_)
    · replace hf := (if_pos c_86001).symm.trans hf
      replace hf := Option.some.inj hf
      subst hf
      exact hex_86 H locs ls (lv_sub hl [0, 1, 2, 3, 4, 5, 6, 7, 8, 9, 10, 11] rfl) hP hD hS
    · replace hf := (if_neg c_86001).symm.trans hf
      refine lv_aload hx hb dL_isShown_92 (lv_at hl 2 rfl) ?_
      refine lv_iload hx hb dL_isShown_94 (lv_at hl 0 rfl) ?_
      refine lv_aload_n hx hb dL_isShown_96 rfl (lv_at hl 8 rfl) ?_
      refine lv_iload hx hb dL_isShown_97 (lv_at hl 0 rfl) ?_
      refine lv_iconst (v := 0) hx hb dL_isShown_99 (by decide) ?_
      obtain ⟨x_86002, hx_86002, hf⟩ := Option.bind_eq_some_iff.mp hf
      refine q_rV (As := [.int i11_86, .int 0]) (rest := [.int i11_86, .ref q_8]) ⟨hx, hb, hml, hown, hts⟩ (c_X5_column l dC dI cI cJ a F B K z_11.2.1 I T i11_86 0 x_86002 hx_86002) (cwV 2 hts gM_isShown_X5_column rfl rfl rfl (by decide +kernel) ⟨Nat.le_of_ble_eq_true rfl, Nat.le_of_ble_eq_true rfl⟩) (hK.sub (tys' := q_ty cI cJ) [0, 1] rfl) hn (hP.sub (ws' := (wSg a cI cJ F B K z_11.2.1 I T)) [0, 1, 2, 3, 4, 5, 6, 7, 8, 9, 10, 11, 12, 13, 14, 15, 16, 17] rfl) (ci := 5) rfl rfl rfl hl.1 rfl (Nat.le_of_ble_eq_true rfl) dL_isShown_100 ⟨by show 3 ≤ 193; omega, by show 192 ≤ 7412; omega⟩ ?_
      by_cases nc_86003 : ¬ q_ix i11_86 x2.toNatClampNeg = true
      · replace hf := (if_neg nc_86003).symm.trans hf
        cases hf
      have c_86003 := Classical.not_not.mp nc_86003
      replace hf := (if_pos c_86003).symm.trans hf
      refine va_iast hx hb hK hP hD hS 20 0 rfl rfl (q_ix_in c_86003) dL_isShown_103 (fun H locs hP hD hS => ?_)
      have hP : va_P (dC, dI) vwCl (wSg a cI cJ F B K z_11.2.1 I T ++ [(adt, .inl (cI, nt, .inl ft))] ++ [(q_6, .inl (cI, ((if (0 : Int32) < x_1.1 then x_1.1 else 0).toNatClampNeg), .inl z_11.2.2))] ++ [(q_8, .inl (cI, x2.toNatClampNeg, .inl (upd A_q_8_86 i11_86.toNatClampNeg x_86002)))] ++ [(q_10, .inl (cZ, x_4.toNatClampNeg, .inl (fun _ => 0)))]) H := hP
      have hD : va_D A (wSg a cI cJ F B K z_11.2.1 I T ++ [(adt, .inl (cI, nt, .inl ft))] ++ [(q_6, .inl (cI, ((if (0 : Int32) < x_1.1 then x_1.1 else 0).toNatClampNeg), .inl z_11.2.2))] ++ [(q_8, .inl (cI, x2.toNatClampNeg, .inl (upd A_q_8_86 i11_86.toNatClampNeg x_86002)))] ++ [(q_10, .inl (cZ, x_4.toNatClampNeg, .inl (fun _ => 0)))]) := hD
      refine lv_iinc (v := i11_86 + 1) (lv' := [(11, .int (i11_86 + 1)), (10, .ref q_10), (9, .ref q_8), (8, .ref q_6), (7, .int x_4), (6, .int x_3), (5, .int x_2.1), (4, .int x_1.1), (0, .ref (a 0)), (1, .int x1), (2, .int x2), (3, .ref adt)]) hx hb dL_isShown_104 hl (k := 0) rfl rfl (by decide) rfl (fun ls hl => ?_)
      refine lv_goto (tgt := 86) hx hb dL_isShown_107 (by decide) ?_
      exact ih (i11_86 + 1) (upd A_q_8_86 i11_86.toNatClampNeg x_86002) H locs ls _ (lv_sub hl [0, 1, 2, 3, 4, 5, 6, 7, 8, 9, 10, 11] rfl) hP hD hS hf hex_86
set_option maxHeartbeats 8000000 in
set_option maxRecDepth 100000 in
theorem lt_isShown_113 {p : Program} {e : Env} {s : State} {m : MethodId} {below : List Frame} {meth : Method} {c : Code} {A : Nat → Prop} (l : Launch) (dC : Nat → ClassId) (dI : Nat → Nat → Nat) (cI cJ cZ : ClassId) (a : Nat → Nat) (adt : Nat) (r0 : Int32 × q_Fl × q_Bd × q_Pl) (x1 : Int32) (x2 : Int32) (F : q_Fl) (B : q_Bd) (K : q_Bk) (I : q_Wi) (T : q_Rt) (nt : Nat) (ft : q_IA) (x_1 : Int32 × q_Pl) (x_2 : Int32 × q_Pl) (x_3 : Int32) (x_4 : Int32) (z_11 : Int32 × q_Pl × q_IA) (z_12 : Int32 × q_IA) (q_6 : Nat) (q_8 : Nat) (q_10 : Nat) (C0 : q_Sh p s m meth c A (dC, dI) (q_ty3 cI cJ cZ) [.ref (a 0), .int x1, .int x2, .ref adt].toArray)   : ∀ (nn : Nat) (i11_113 : Int32) (N_113 : q_Pl) (A_q_10_113 : q_IA) (H : Heap) (locs : List Loc) (ls : Array Slot) (z_113 : (Int32 × q_Pl × q_IA)), lv_has ls 15 [(11, .int i11_113), (10, .ref q_10), (9, .ref q_8), (8, .ref q_6), (7, .int x_4), (6, .int x_3), (5, .int x_2.1), (4, .int x_1.1), (0, .ref (a 0)), (1, .int x1), (2, .int x2), (3, .ref adt)] → va_P (dC, dI) vwCl (wSg a cI cJ F B K N_113 I T ++ [(adt, .inl (cI, nt, .inl ft))] ++ [(q_6, .inl (cI, ((if (0 : Int32) < x_1.1 then x_1.1 else 0).toNatClampNeg), .inl z_11.2.2))] ++ [(q_8, .inl (cI, x2.toNatClampNeg, .inl z_12.2))] ++ [(q_10, .inl (cZ, x_4.toNatClampNeg, .inl A_q_10_113))]) H → va_D A (wSg a cI cJ F B K N_113 I T ++ [(adt, .inl (cI, nt, .inl ft))] ++ [(q_6, .inl (cI, ((if (0 : Int32) < x_1.1 then x_1.1 else 0).toNatClampNeg), .inl z_11.2.2))] ++ [(q_8, .inl (cI, x2.toNatClampNeg, .inl z_12.2))] ++ [(q_10, .inl (cZ, x_4.toNatClampNeg, .inl A_q_10_113))]) → va_S A s.heap H locs → fl_L_isShown_113 x1 F B K x_4 nn i11_113 N_113 A_q_10_113 = some z_113 → (∀ (H : Heap) (locs : List Loc) (ls : Array Slot), lv_has ls 15 [(11, .int z_113.1), (10, .ref q_10), (9, .ref q_8), (8, .ref q_6), (7, .int x_4), (6, .int x_3), (5, .int x_2.1), (4, .int x_1.1), (0, .ref (a 0)), (1, .int x1), (2, .int x2), (3, .ref adt)] → va_P (dC, dI) vwCl (wSg a cI cJ F B K z_113.2.1 I T ++ [(adt, .inl (cI, nt, .inl ft))] ++ [(q_6, .inl (cI, ((if (0 : Int32) < x_1.1 then x_1.1 else 0).toNatClampNeg), .inl z_11.2.2))] ++ [(q_8, .inl (cI, x2.toNatClampNeg, .inl z_12.2))] ++ [(q_10, .inl (cZ, x_4.toNatClampNeg, .inl z_113.2.2))]) H → va_D A (wSg a cI cJ F B K z_113.2.1 I T ++ [(adt, .inl (cI, nt, .inl ft))] ++ [(q_6, .inl (cI, ((if (0 : Int32) < x_1.1 then x_1.1 else 0).toNatClampNeg), .inl z_11.2.2))] ++ [(q_8, .inl (cI, x2.toNatClampNeg, .inl z_12.2))] ++ [(q_10, .inl (cZ, x_4.toNatClampNeg, .inl z_113.2.2))]) → va_S A s.heap H locs → W p l e (headSpec wsM_isShown ({ frames := 7, cells := 193, slots := 7412, locals := 161 } : Room)).room s m [.ref (a 0), .int x1, .int x2, .ref adt].toArray below meth c H locs 3 192 (MQ below (va_Qi (S := Unit) (fun r_ _ => r_ = r0.1) (fun _ => q_E (dC, dI) vwCl (wSg a cI cJ r0.2.1 r0.2.2.1 K r0.2.2.2 I T ++ [(adt, .inl (cI, nt, .inl ft))]) (q_ty3 cI cJ cZ) A) A) [.ref (a 0), .int x1, .int x2, .ref adt].toArray s 193 7412 A) (F0 m 153 ls [])) → W p l e (headSpec wsM_isShown ({ frames := 7, cells := 193, slots := 7412, locals := 161 } : Room)).room s m [.ref (a 0), .int x1, .int x2, .ref adt].toArray below meth c H locs 3 192 (MQ below (va_Qi (S := Unit) (fun r_ _ => r_ = r0.1) (fun _ => q_E (dC, dI) vwCl (wSg a cI cJ r0.2.1 r0.2.2.1 K r0.2.2.2 I T ++ [(adt, .inl (cI, nt, .inl ft))]) (q_ty3 cI cJ cZ) A) A) [.ref (a 0), .int x1, .int x2, .ref adt].toArray s 193 7412 A) (F0 m 113 ls []) := by
  have C := C0
  obtain ⟨hx, hb, hr, hts, hown, hlocks, hA, hK, hn, hml⟩ := C0
  intro nn
  induction nn with
  | zero =>
    intro i11_113 N_113 A_q_10_113 H locs ls z_113 hl hP hD hS hf hex_113
    rw [fl_L_isShown_113] at hf
    cases hf
  | succ nn ih =>
    intro i11_113 N_113 A_q_10_113 H locs ls z_113 hl hP hD hS hf hex_113
    rw [fl_L_isShown_113] at hf
    refine lv_iload hx hb dL_isShown_113 (lv_at hl 0 rfl) ?_
    refine lv_iload hx hb dL_isShown_115 (lv_at hl 4 rfl) ?_
    refine lv_icmp_ge (tgt := 153) hx hb dL_isShown_117 (by decide) (fun c_113001 => ?_) (fun c_113001 => ?_)
    · replace hf := (if_pos c_113001).symm.trans hf
      replace hf := Option.some.inj hf
      subst hf
      exact hex_113 H locs ls (lv_sub hl [0, 1, 2, 3, 4, 5, 6, 7, 8, 9, 10, 11] rfl) hP hD hS
    · replace hf := (if_neg c_113001).symm.trans hf
      refine lv_aload hx hb dL_isShown_120 (lv_at hl 1 rfl) ?_
      refine lv_iload hx hb dL_isShown_122 (lv_at hl 0 rfl) ?_
      refine lv_iload hx hb dL_isShown_124 (lv_at hl 0 rfl) ?_
      refine lv_iload_n hx hb dL_isShown_126 rfl (lv_at hl 9 rfl) ?_
      refine lv_icmp_eq (tgt := 141) hx hb dL_isShown_127 (by decide) (fun c_113002 => ?_) (fun c_113002 => ?_)
      · replace hf := (if_pos c_113002).symm.trans hf
        refine lv_iconst (v := 1) hx hb dL_isShown_141 (by decide) ?_
        refine lv_goto (tgt := 146) hx hb dL_isShown_142 (by decide) ?_
        by_cases nc_113003 : ¬ q_ix i11_113 x_4.toNatClampNeg = true
        · replace hf := (if_neg nc_113003).symm.trans hf
          cases hf
        have c_113003 := Classical.not_not.mp nc_113003
        replace hf := (if_pos c_113003).symm.trans hf
        refine va_zast hx hb hK hP hD hS 21 2 rfl rfl (q_ix_in c_113003) dL_isShown_146 (fun H locs hP hD hS => ?_)
        have hP : va_P (dC, dI) vwCl (wSg a cI cJ F B K N_113 I T ++ [(adt, .inl (cI, nt, .inl ft))] ++ [(q_6, .inl (cI, ((if (0 : Int32) < x_1.1 then x_1.1 else 0).toNatClampNeg), .inl z_11.2.2))] ++ [(q_8, .inl (cI, x2.toNatClampNeg, .inl z_12.2))] ++ [(q_10, .inl (cZ, x_4.toNatClampNeg, .inl (upd A_q_10_113 i11_113.toNatClampNeg 1)))]) H := hP
        have hD : va_D A (wSg a cI cJ F B K N_113 I T ++ [(adt, .inl (cI, nt, .inl ft))] ++ [(q_6, .inl (cI, ((if (0 : Int32) < x_1.1 then x_1.1 else 0).toNatClampNeg), .inl z_11.2.2))] ++ [(q_8, .inl (cI, x2.toNatClampNeg, .inl z_12.2))] ++ [(q_10, .inl (cZ, x_4.toNatClampNeg, .inl (upd A_q_10_113 i11_113.toNatClampNeg 1)))]) := hD
        refine lv_iinc (v := i11_113 + 1) (lv' := [(11, .int (i11_113 + 1)), (10, .ref q_10), (9, .ref q_8), (8, .ref q_6), (7, .int x_4), (6, .int x_3), (5, .int x_2.1), (4, .int x_1.1), (0, .ref (a 0)), (1, .int x1), (2, .int x2), (3, .ref adt)]) hx hb dL_isShown_147 hl (k := 0) rfl rfl (by decide) rfl (fun ls hl => ?_)
        refine lv_goto (tgt := 113) hx hb dL_isShown_150 (by decide) ?_
        exact ih (i11_113 + 1) N_113 (upd A_q_10_113 i11_113.toNatClampNeg 1) H locs ls _ (lv_sub hl [0, 1, 2, 3, 4, 5, 6, 7, 8, 9, 10, 11] rfl) hP hD hS hf hex_113
      · replace hf := (if_neg c_113002).symm.trans hf
        refine lv_aload_n hx hb dL_isShown_130 rfl (lv_at hl 8 rfl) ?_
        refine lv_iload hx hb dL_isShown_131 (lv_at hl 0 rfl) ?_
        refine lv_iconst (v := 5) hx hb dL_isShown_133 (by decide) ?_
        obtain ⟨x_113004, hx_113004, hf⟩ := Option.bind_eq_some_iff.mp hf
        have hPc := hP.sub (ws' := (wSg a cI cJ F B K N_113 I T)) [0, 1, 2, 3, 4, 5, 6, 7, 8, 9, 10, 11, 12, 13, 14, 15, 16, 17] rfl
        have hDc := hD.sub (ws' := (wSg a cI cJ F B K N_113 I T)) [0, 1, 2, 3, 4, 5, 6, 7, 8, 9, 10, 11, 12, 13, 14, 15, 16, 17] (by decide) rfl
        have hFc := va_free (wc := (wSg a cI cJ F B K N_113 I T)) hD hS hA [0, 1, 2, 3, 4, 5, 6, 7, 8, 9, 10, 11, 12, 13, 14, 15, 16, 17] rfl
        refine va_calli (va_runV (As := [.int i11_113, .int 5]) (rest := [.int i11_113, .ref q_10]) ⟨hx, hb, hml, hown, hts⟩ (c_X5_ofLine l dC dI cI cJ a H.size F B K N_113 I T i11_113 5 x_113004 hx_113004) (cwV 2 hts gM_isShown_X5_ofLine rfl rfl rfl (by decide +kernel) ⟨Nat.le_of_ble_eq_true rfl, Nat.le_of_ble_eq_true rfl⟩) ⟨q_Wblind, va_recv (hK.sub (tys' := q_ty cI cJ) [0, 1] rfl) hPc (ci := 5) (q0 := 0) rfl rfl, q_Wpre hPc (hK.sub (tys' := q_ty cI cJ) [0, 1] rfl) hn hDc⟩ rfl rfl hl.1 rfl (lv_room (Nat.le_of_ble_eq_true rfl)) dL_isShown_134 ⟨by show 3 + 0 ≤ 193; omega, by show 192 + 0 ≤ 7412; omega⟩) hS (fun q _ h => hFc q h) hFc (fun r_9 u t H1 locs ht hvm hw hB hz1 hk1 hS => ?_)
        subst hw
        obtain ⟨hP1, hK1, hD1⟩ := hB
        rw [ht] at hP1
        obtain ⟨hP, hD⟩ := va_join (wr := ([(adt, .inl (cI, nt, .inl ft))] ++ [(q_6, .inl (cI, ((if (0 : Int32) < x_1.1 then x_1.1 else 0).toNatClampNeg), .inl z_11.2.2))] ++ [(q_8, .inl (cI, x2.toNatClampNeg, .inl z_12.2))] ++ [(q_10, .inl (cZ, x_4.toNatClampNeg, .inl A_q_10_113))])) (w1 := (wSg a cI cJ F B K x_113004.2 I T)) hP hD [0, 1, 2, 3, 4, 5, 6, 7, 8, 9, 10, 11, 12, 13, 14, 15, 16, 17] [18, 19, 20, 21] rfl rfl (by decide) (by decide) hk1 hFc hP1 hD1
        generalize H1 = H at hP hS ⊢
        replace hP := hP.sub (ws' := (wSg a cI cJ F B K x_113004.2 I T ++ [(adt, .inl (cI, nt, .inl ft))] ++ [(q_6, .inl (cI, ((if (0 : Int32) < x_1.1 then x_1.1 else 0).toNatClampNeg), .inl z_11.2.2))] ++ [(q_8, .inl (cI, x2.toNatClampNeg, .inl z_12.2))] ++ [(q_10, .inl (cZ, x_4.toNatClampNeg, .inl A_q_10_113))])) [4, 5, 6, 7, 8, 9, 10, 11, 12, 13, 14, 15, 16, 17, 18, 19, 20, 21, 0, 1, 2, 3] rfl
        replace hD := hD.sub (ws' := (wSg a cI cJ F B K x_113004.2 I T ++ [(adt, .inl (cI, nt, .inl ft))] ++ [(q_6, .inl (cI, ((if (0 : Int32) < x_1.1 then x_1.1 else 0).toNatClampNeg), .inl z_11.2.2))] ++ [(q_8, .inl (cI, x2.toNatClampNeg, .inl z_12.2))] ++ [(q_10, .inl (cZ, x_4.toNatClampNeg, .inl A_q_10_113))])) [4, 5, 6, 7, 8, 9, 10, 11, 12, 13, 14, 15, 16, 17, 18, 19, 20, 21, 0, 1, 2, 3] (by decide) rfl
        have hP : va_P (dC, dI) vwCl (wSg a cI cJ F B K x_113004.2 I T ++ [(adt, .inl (cI, nt, .inl ft))] ++ [(q_6, .inl (cI, ((if (0 : Int32) < x_1.1 then x_1.1 else 0).toNatClampNeg), .inl z_11.2.2))] ++ [(q_8, .inl (cI, x2.toNatClampNeg, .inl z_12.2))] ++ [(q_10, .inl (cZ, x_4.toNatClampNeg, .inl A_q_10_113))]) H := hP
        have hD : va_D A (wSg a cI cJ F B K x_113004.2 I T ++ [(adt, .inl (cI, nt, .inl ft))] ++ [(q_6, .inl (cI, ((if (0 : Int32) < x_1.1 then x_1.1 else 0).toNatClampNeg), .inl z_11.2.2))] ++ [(q_8, .inl (cI, x2.toNatClampNeg, .inl z_12.2))] ++ [(q_10, .inl (cZ, x_4.toNatClampNeg, .inl A_q_10_113))]) := hD
        refine lv_iconst (v := 1) hx hb dL_isShown_137 (by decide) ?_
        refine lv_icmp_ne (tgt := 145) hx hb dL_isShown_138 (by decide) (fun c_113005 => ?_) (fun c_113005 => ?_)
        · replace hf := (if_neg c_113005).symm.trans hf
          refine lv_iconst (v := 0) hx hb dL_isShown_145 (by decide) ?_
          by_cases nc_113006 : ¬ q_ix i11_113 x_4.toNatClampNeg = true
          · replace hf := (if_neg nc_113006).symm.trans hf
            cases hf
          have c_113006 := Classical.not_not.mp nc_113006
          replace hf := (if_pos c_113006).symm.trans hf
          refine va_zast hx hb hK hP hD hS 21 2 rfl rfl (q_ix_in c_113006) dL_isShown_146 (fun H locs hP hD hS => ?_)
          have hP : va_P (dC, dI) vwCl (wSg a cI cJ F B K x_113004.2 I T ++ [(adt, .inl (cI, nt, .inl ft))] ++ [(q_6, .inl (cI, ((if (0 : Int32) < x_1.1 then x_1.1 else 0).toNatClampNeg), .inl z_11.2.2))] ++ [(q_8, .inl (cI, x2.toNatClampNeg, .inl z_12.2))] ++ [(q_10, .inl (cZ, x_4.toNatClampNeg, .inl (upd A_q_10_113 i11_113.toNatClampNeg 0)))]) H := hP
          have hD : va_D A (wSg a cI cJ F B K x_113004.2 I T ++ [(adt, .inl (cI, nt, .inl ft))] ++ [(q_6, .inl (cI, ((if (0 : Int32) < x_1.1 then x_1.1 else 0).toNatClampNeg), .inl z_11.2.2))] ++ [(q_8, .inl (cI, x2.toNatClampNeg, .inl z_12.2))] ++ [(q_10, .inl (cZ, x_4.toNatClampNeg, .inl (upd A_q_10_113 i11_113.toNatClampNeg 0)))]) := hD
          refine lv_iinc (v := i11_113 + 1) (lv' := [(11, .int (i11_113 + 1)), (10, .ref q_10), (9, .ref q_8), (8, .ref q_6), (7, .int x_4), (6, .int x_3), (5, .int x_2.1), (4, .int x_1.1), (0, .ref (a 0)), (1, .int x1), (2, .int x2), (3, .ref adt)]) hx hb dL_isShown_147 hl (k := 0) rfl rfl (by decide) rfl (fun ls hl => ?_)
          refine lv_goto (tgt := 113) hx hb dL_isShown_150 (by decide) ?_
          exact ih (i11_113 + 1) x_113004.2 (upd A_q_10_113 i11_113.toNatClampNeg 0) H locs ls _ (lv_sub hl [0, 1, 2, 3, 4, 5, 6, 7, 8, 9, 10, 11] rfl) hP hD hS hf hex_113
        · replace hf := (if_pos c_113005).symm.trans hf
          refine lv_iconst (v := 1) hx hb dL_isShown_141 (by decide) ?_
          refine lv_goto (tgt := 146) hx hb dL_isShown_142 (by decide) ?_
          by_cases nc_113007 : ¬ q_ix i11_113 x_4.toNatClampNeg = true
          · replace hf := (if_neg nc_113007).symm.trans hf
            cases hf
          have c_113007 := Classical.not_not.mp nc_113007
          replace hf := (if_pos c_113007).symm.trans hf
          refine va_zast hx hb hK hP hD hS 21 2 rfl rfl (q_ix_in c_113007) dL_isShown_146 (fun H locs hP hD hS => ?_)
          have hP : va_P (dC, dI) vwCl (wSg a cI cJ F B K x_113004.2 I T ++ [(adt, .inl (cI, nt, .inl ft))] ++ [(q_6, .inl (cI, ((if (0 : Int32) < x_1.1 then x_1.1 else 0).toNatClampNeg), .inl z_11.2.2))] ++ [(q_8, .inl (cI, x2.toNatClampNeg, .inl z_12.2))] ++ [(q_10, .inl (cZ, x_4.toNatClampNeg, .inl (upd A_q_10_113 i11_113.toNatClampNeg 1)))]) H := hP
          have hD : va_D A (wSg a cI cJ F B K x_113004.2 I T ++ [(adt, .inl (cI, nt, .inl ft))] ++ [(q_6, .inl (cI, ((if (0 : Int32) < x_1.1 then x_1.1 else 0).toNatClampNeg), .inl z_11.2.2))] ++ [(q_8, .inl (cI, x2.toNatClampNeg, .inl z_12.2))] ++ [(q_10, .inl (cZ, x_4.toNatClampNeg, .inl (upd A_q_10_113 i11_113.toNatClampNeg 1)))]) := hD
          refine lv_iinc (v := i11_113 + 1) (lv' := [(11, .int (i11_113 + 1)), (10, .ref q_10), (9, .ref q_8), (8, .ref q_6), (7, .int x_4), (6, .int x_3), (5, .int x_2.1), (4, .int x_1.1), (0, .ref (a 0)), (1, .int x1), (2, .int x2), (3, .ref adt)]) hx hb dL_isShown_147 hl (k := 0) rfl rfl (by decide) rfl (fun ls hl => ?_)
          refine lv_goto (tgt := 113) hx hb dL_isShown_150 (by decide) ?_
          exact ih (i11_113 + 1) x_113004.2 (upd A_q_10_113 i11_113.toNatClampNeg 1) H locs ls _ (lv_sub hl [0, 1, 2, 3, 4, 5, 6, 7, 8, 9, 10, 11] rfl) hP hD hS hf hex_113
