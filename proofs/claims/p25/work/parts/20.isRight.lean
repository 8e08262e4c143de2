def fl_L_isRight_30 (np : Nat) (fp : q_IA) (i5_20 : Int32) : Nat → Int32 → q_Bd → Option (Int32 × q_Bd)
  | 0, _, _ => none
  | nn + 1, i6_30, oB_30 => (if 5 ≤ i6_30 then some (i6_30, oB_30) else (if q_ix i5_20 np = true then ((f_X5_stick oB_30 i5_20 i6_30 (((fp i5_20.toNatClampNeg) >>> (i6_30 &&& 31)) &&& 1)).bind fun x_30003 => fl_L_isRight_30 np fp i5_20 nn (i6_30 + 1) x_30003.2) else none))
def fl_L_isRight_20 (np : Nat) (fp : q_IA) : Nat → Int32 → q_Bd → Option (Int32 × q_Bd)
  | 0, _, _ => none
  | nn + 1, i5_20, oB_20 => (if (nI np) ≤ i5_20 then some (i5_20, oB_20) else ((fl_L_isRight_30 np fp i5_20 1000 0 oB_20).bind fun z_20002 => fl_L_isRight_20 np fp nn (i5_20 + 1) z_20002.2))
def fl_L_isRight_70 (nt : Nat) (ft : q_IA) : Nat → Int32 → q_Bk → Option (Int32 × q_Bk)
  | 0, _, _ => none
  | nn + 1, i5_70, oK_70 => (if 3 ≤ i5_70 then some (i5_70, oK_70) else (if q_ix i5_70 nt = true then ((f_X5_letter oK_70 1 (ft i5_70.toNatClampNeg) 0 0).bind fun x_70003 => fl_L_isRight_70 nt ft nn (i5_70 + 1) x_70003.2) else none))
def fl_L_isRight_98 (F : q_Fl) (B : q_Bd) (K : q_Bk) (nz : Nat) (fz : q_IA) (x_2 : Int32 × q_Fl × q_Bd) (z_3 : Int32 × q_Bd) : Nat → Int32 → q_Pl → q_Bk → q_Pl → Option ((Int32 × q_Pl) ⊕ (Int32 × q_Pl × q_Bk × q_Pl))
  | 0, _, _, _, _ => none
  | nn + 1, i5_98, N_98, oK_98, oN_98 => (if (nI nz) ≤ i5_98 then some (.inr (i5_98, N_98, oK_98, oN_98)) else ((f_X5_ofLine F B K N_98 i5_98 0).bind fun x_98002 => ((f_X5_list oK_98 x_98002.1).bind fun x_98003 => (if x_98003.1 = i5_98 then (if q_ix i5_98 nz = true then (if (fz i5_98.toNatClampNeg) = 0 then ((f_X5_ofLine x_2.2.1 z_3.2 x_98003.2 oN_98 i5_98 5).bind fun x_98007 => (if x_98007.1 = 1 then some (.inl (0, x_98002.2)) else fl_L_isRight_98 F B K nz fz x_2 z_3 nn (i5_98 + 1) x_98002.2 x_98003.2 x_98007.2)) else fl_L_isRight_98 F B K nz fz x_2 z_3 nn (i5_98 + 1) x_98002.2 x_98003.2 oN_98) else none) else some (.inl (0, x_98002.2))))))
def f_L_isRight (F : q_Fl) (B : q_Bd) (K : q_Bk) (N : q_Pl) (I : q_Wi) (T : q_Rt) (np : Nat) (fp : q_IA) (nz : Nat) (fz : q_IA) (nt : Nat) (ft : q_IA) : Option (Int32 × q_Pl) := ((f_X5_width q_F0 q_B0 (nI np)).bind fun x_2 => ((fl_L_isRight_20 np fp 1000 0 x_2.2.2).bind fun z_3 => ((fl_L_isRight_70 nt ft 1000 0 q_K0).bind fun z_4 => ((fl_L_isRight_98 F B K nz fz x_2 z_3 1000 0 N z_4.2 q_N0).bind fun z_5 => Sum.elim (fun r_ => some r_) (fun y_6 => some (1, y_6.2.1)) z_5))))
set_option maxHeartbeats 8000000 in
set_option maxRecDepth 100000 in
theorem c_L_isRight (l : Launch) (dC : Nat → ClassId) (dI : Nat → Nat → Nat) (cI cJ cZ : ClassId) (a : Nat → Nat) (adp : Nat) (adz : Nat) (adt : Nat) (sz : Nat) (F : q_Fl) (B : q_Bd) (K : q_Bk) (N : q_Pl) (I : q_Wi) (T : q_Rt) (np : Nat) (fp : q_IA) (nz : Nat) (fz : q_IA) (nt : Nat) (ft : q_IA) (r0 : Int32 × q_Pl) (hf : f_L_isRight F B K N I T np fp nz fz nt ft = some r0) : Met l yL_isRight wsM_isRight ({ frames := 6, cells := 18, slots := 658, locals := 135 } : Room) (va_Pc [.ref (a 0), .ref adp, .ref adz, .ref adt] (q_W (dC, dI) vwCl (wSg a cI cJ F B K N I T ++ [(adp, .inl (cI, np, .inl fp))] ++ [(adz, .inl (cZ, nz, .inl fz))] ++ [(adt, .inl (cI, nt, .inl ft))]) (q_ty3 cI cJ cZ) sz)) (va_Qi (S := Unit) (fun r_ _ => r_ = r0.1) (fun _ => q_E (dC, dI) vwCl (wSg a cI cJ F B K r0.2 I T ++ [(adp, .inl (cI, np, .inl fp))] ++ [(adz, .inl (cZ, nz, .inl fz))] ++ [(adt, .inl (cI, nt, .inl ft))]) (q_ty3 cI cJ cZ) (va_A (wSg a cI cJ F B K N I T ++ [(adp, .inl (cI, np, .inl fp))] ++ [(adz, .inl (cZ, nz, .inl fz))] ++ [(adt, .inl (cI, nt, .inl ft))]) sz)) (va_A (wSg a cI cJ F B K N I T ++ [(adp, .inl (cI, np, .inl fp))] ++ [(adz, .inl (cZ, nz, .inl fz))] ++ [(adt, .inl (cI, nt, .inl ft))]) sz)) 18 658 (va_A (wSg a cI cJ F B K N I T ++ [(adp, .inl (cI, np, .inl fp))] ++ [(adz, .inl (cZ, nz, .inl fz))] ++ [(adt, .inl (cI, nt, .inl ft))]) sz) := by
  refine Met.ofW (cc := cL_isRight) (maxL := 7) (ret := (some .boolean)) (by decide) rfl ?_
  intro p e s m args below meth c s₁ BB hml hv
  obtain ⟨rfl, hsz, hP, hK, hn, hD0⟩ := hv
  have hx := BB.exec
  have hb := BB.bytes
  have hr := BB.returns
  have hts := atoms_spec (ws := wsM_isRight) BB.pre
  have hown : s.vm.findClass RL = some m.cls := findClass_of_methodNamed BB.named
  have hlocks := BB.notSynchronized
  subst hsz
  have hD := hD0.self (sz := s.heap.size)
  generalize hAe : va_A (wSg a cI cJ F B K N I T ++ [(adp, .inl (cI, np, .inl fp))] ++ [(adz, .inl (cZ, nz, .inl fz))] ++ [(adt, .inl (cI, nt, .inl ft))]) s.heap.size = A at hD ⊢
  have hA : ∀ q : Nat, s.heap.size ≤ q → A q := fun q h => by rw [← hAe]; exact Or.inr h
  have hS : va_S A s.heap s.heap [] := va_S.rf
  have hi5 := iM_isRight_5
  have hl := lv_entry [.ref (a 0), .ref adp, .ref adz, .ref adt] (n := 7) (Nat.le_of_ble_eq_true rfl)
  rw [lg_entry_eq]
  generalize (lg_sl [.ref (a 0), .ref adp, .ref adz, .ref adt] ++ List.replicate (7 - (lg_sl [.ref (a 0), .ref adp, .ref adz, .ref adt]).length) Slot.unset).toArray = ls at hl ⊢
  have hl : lv_has ls 7 [(0, .ref (a 0)), (1, .ref adp), (2, .ref adz), (3, .ref adt)] := hl
  suffices hgoal : ∀ (H : Heap) (locs : List Loc), va_P (dC, dI) vwCl (wSg a cI cJ F B K N I T ++ [(adp, .inl (cI, np, .inl fp))] ++ [(adz, .inl (cZ, nz, .inl fz))] ++ [(adt, .inl (cI, nt, .inl ft))]) H → va_S A s.heap H locs → W p l e (headSpec wsM_isRight ({ frames := 6, cells := 18, slots := 658, locals := 135 } : Room)).room s m [.ref (a 0), .ref adp, .ref adz, .ref adt].toArray below meth c H locs 0 0 (MQ below (va_Qi (S := Unit) (fun r_ _ => r_ = r0.1) (fun _ => q_E (dC, dI) vwCl (wSg a cI cJ F B K r0.2 I T ++ [(adp, .inl (cI, np, .inl fp))] ++ [(adz, .inl (cZ, nz, .inl fz))] ++ [(adt, .inl (cI, nt, .inl ft))]) (q_ty3 cI cJ cZ) A) A) [.ref (a 0), .ref adp, .ref adz, .ref adt].toArray s 18 658 A) (F0 m 0 ls []) by
    refine W.widen (k := 0) (n := 0) (by omega) (by omega) ?_
    exact hgoal s.heap [] hP hS
  clear hP hS
  intro H locs hP hS
  unfold f_L_isRight at hf
  refine va_new (ci := 5) (fs := [.null, .null, .null, .null, .null, .int 0, .int 0, .int 0, .int 0]) (C := RX5) (T := TX5) (N := 9) hx hb hts hi5 tyX5 tyX5_ok hown (hts (.classLink RL 9 RX5) (by decide +kernel)) (hts (.instantiable RX5 9) (by decide +kernel)) (hts (.initialized RX5) (by decide +kernel)) hK hP hD hS hA rfl (fun j hj => by rcases (show j = 0 ∨ j = 1 ∨ j = 2 ∨ j = 3 ∨ j = 4 ∨ j = 5 ∨ j = 6 ∨ j = 7 ∨ j = 8 by omega) with rfl | rfl | rfl | rfl | rfl | rfl | rfl | rfl | rfl <;> rfl) (by show 0 + 1 ≤ 18; omega) (by show 0 + 9 ≤ 658; omega) dL_isRight_0 (fun q_1 H hP hD hS => ?_)
  refine W.widen (k := 1) (n := 9) (by omega) (by omega) ?_
  have hP : va_P (dC, dI) vwCl ((wSg a cI cJ F B K N I T ++ [(adp, .inl (cI, np, .inl fp))] ++ [(adz, .inl (cZ, nz, .inl fz))] ++ [(adt, .inl (cI, nt, .inl ft))]) ++ [(q_1, .inr (5, [.null, .null, .null, .null, .null, .int 0, .int 0, .int 0, .int 0]))]) H := hP
  have hD : va_D A ((wSg a cI cJ F B K N I T ++ [(adp, .inl (cI, np, .inl fp))] ++ [(adz, .inl (cZ, nz, .inl fz))] ++ [(adt, .inl (cI, nt, .inl ft))]) ++ [(q_1, .inr (5, [.null, .null, .null, .null, .null, .int 0, .int 0, .int 0, .int 0]))]) := hD
  refine lv_dup hx hb dL_isRight_3 rfl ?_
  have hPc := hP.sub (ws' := [(q_1, .inr (5, [.null, .null, .null, .null, .null, .int 0, .int 0, .int 0, .int 0]))]) [21] rfl
  have hDc := hD.sub (ws' := [(q_1, .inr (5, [.null, .null, .null, .null, .null, .int 0, .int 0, .int 0, .int 0]))]) [21] (by decide) rfl
  have hFc := va_free (wc := [(q_1, .inr (5, [.null, .null, .null, .null, .null, .int 0, .int 0, .int 0, .int 0]))]) hD hS hA [21] rfl
  refine va_callv (va_runI (As := []) (rest := [.ref q_1]) ⟨hx, hb, hml, hown, hts⟩ (c_X5_init l dC dI cI cJ q_1 H.size) (cwI 0 hts gM_isRight_X5_init rfl rfl rfl (hts (.initialized RX5) (by decide +kernel)) (hts (.methodLink RL 11 yX5_init) (by decide +kernel)) (hts (.instanceMethod yX5_init) (by decide +kernel)) rfl (by decide +kernel) ⟨Nat.le_of_ble_eq_true rfl, Nat.le_of_ble_eq_true rfl⟩) ⟨q_Wblind, q_Wpre hPc (hK.sub (tys' := q_ty cI cJ) [0, 1] rfl) hn hDc⟩ rfl rfl hl.1 rfl (lv_room (Nat.le_of_ble_eq_true rfl)) dL_isRight_4 ⟨by show 1 + 17 ≤ 18; omega, by show 9 + 649 ≤ 658; omega⟩) hS (fun q _ h => hFc q h) hFc (fun u t H1 locs ht hvm hw hB hz1 hk1 hS => ?_)
  obtain ⟨o, rfl⟩ : ∃ z, z = u := ⟨_, rfl⟩
  subst hw
  obtain ⟨hP1, hK1, hD1⟩ := hB
  rw [ht] at hP1
  obtain ⟨hP, hD⟩ := va_join (wr := (wSg a cI cJ F B K N I T ++ [(adp, .inl (cI, np, .inl fp))] ++ [(adz, .inl (cZ, nz, .inl fz))] ++ [(adt, .inl (cI, nt, .inl ft))])) (w1 := (wSg o cI cJ q_F0 q_B0 q_K0 q_N0 q_I0 q_T0)) hP hD [21] [0, 1, 2, 3, 4, 5, 6, 7, 8, 9, 10, 11, 12, 13, 14, 15, 16, 17, 18, 19, 20] rfl rfl (by decide) (by decide) hk1 hFc hP1 hD1
  generalize H1 = H at hP hS ⊢
  refine W.widen (k := 18) (n := 658) (by omega) (by omega) ?_
  have hP : va_P (dC, dI) vwCl (wSg a cI cJ F B K N I T ++ [(adp, .inl (cI, np, .inl fp))] ++ [(adz, .inl (cZ, nz, .inl fz))] ++ [(adt, .inl (cI, nt, .inl ft))] ++ wSg o cI cJ q_F0 q_B0 q_K0 q_N0 q_I0 q_T0) H := hP
  have hD : va_D A (wSg a cI cJ F B K N I T ++ [(adp, .inl (cI, np, .inl fp))] ++ [(adz, .inl (cZ, nz, .inl fz))] ++ [(adt, .inl (cI, nt, .inl ft))] ++ wSg o cI cJ q_F0 q_B0 q_K0 q_N0 q_I0 q_T0) := hD
  refine lv_astore (lv' := [(4, .ref (o 0)), (0, .ref (a 0)), (1, .ref adp), (2, .ref adz), (3, .ref adt)]) hx hb dL_isRight_7 hl (by decide) rfl (fun ls hl => ?_)
  refine lv_aload hx hb dL_isRight_9 (lv_at hl 0 rfl) ?_
  refine lv_aload_n hx hb dL_isRight_11 rfl (lv_at hl 2 rfl) ?_
  refine va_alen (v := nI np) hx hb hK hP 18 0 rfl rfl rfl dL_isRight_12 ?_
  obtain ⟨x_2, hx_2, hf⟩ := Option.bind_eq_some_iff.mp hf
  have hPc := hP.sub (ws' := (wSg o cI cJ q_F0 q_B0 q_K0 q_N0 q_I0 q_T0)) [21, 22, 23, 24, 25, 26, 27, 28, 29, 30, 31, 32, 33, 34, 35, 36, 37, 38] rfl
  have hDc := hD.sub (ws' := (wSg o cI cJ q_F0 q_B0 q_K0 q_N0 q_I0 q_T0)) [21, 22, 23, 24, 25, 26, 27, 28, 29, 30, 31, 32, 33, 34, 35, 36, 37, 38] (by decide) rfl
  have hFc := va_free (wc := (wSg o cI cJ q_F0 q_B0 q_K0 q_N0 q_I0 q_T0)) hD hS hA [21, 22, 23, 24, 25, 26, 27, 28, 29, 30, 31, 32, 33, 34, 35, 36, 37, 38] rfl
  refine va_calli (va_runV (As := [.int (nI np)]) (rest := []) ⟨hx, hb, hml, hown, hts⟩ (c_X5_width l dC dI cI cJ o H.size q_F0 q_B0 q_K0 q_N0 q_I0 q_T0 (nI np) x_2 hx_2) (cwV 1 hts gM_isRight_X5_width rfl rfl rfl (by decide +kernel) ⟨Nat.le_of_ble_eq_true rfl, Nat.le_of_ble_eq_true rfl⟩) ⟨q_Wblind, va_recv (hK.sub (tys' := q_ty cI cJ) [0, 1] rfl) hPc (ci := 5) (q0 := 0) rfl rfl, q_Wpre hPc (hK.sub (tys' := q_ty cI cJ) [0, 1] rfl) hn hDc⟩ rfl rfl hl.1 rfl (lv_room (Nat.le_of_ble_eq_true rfl)) dL_isRight_13 ⟨by show 18 + 0 ≤ 18; omega, by show 658 + 0 ≤ 658; omega⟩) hS (fun q _ h => hFc q h) hFc (fun r_9 u t H1 locs ht hvm hw hB hz1 hk1 hS => ?_)
  subst hw
  obtain ⟨hP1, hK1, hD1⟩ := hB
  rw [ht] at hP1
  obtain ⟨hP, hD⟩ := va_join (wr := (wSg a cI cJ F B K N I T ++ [(adp, .inl (cI, np, .inl fp))] ++ [(adz, .inl (cZ, nz, .inl fz))] ++ [(adt, .inl (cI, nt, .inl ft))])) (w1 := (wSg o cI cJ x_2.2.1 x_2.2.2 q_K0 q_N0 q_I0 q_T0)) hP hD [21, 22, 23, 24, 25, 26, 27, 28, 29, 30, 31, 32, 33, 34, 35, 36, 37, 38] [0, 1, 2, 3, 4, 5, 6, 7, 8, 9, 10, 11, 12, 13, 14, 15, 16, 17, 18, 19, 20] rfl rfl (by decide) (by decide) hk1 hFc hP1 hD1
  generalize H1 = H at hP hS ⊢
  have hP : va_P (dC, dI) vwCl (wSg a cI cJ F B K N I T ++ [(adp, .inl (cI, np, .inl fp))] ++ [(adz, .inl (cZ, nz, .inl fz))] ++ [(adt, .inl (cI, nt, .inl ft))] ++ wSg o cI cJ x_2.2.1 x_2.2.2 q_K0 q_N0 q_I0 q_T0) H := hP
  have hD : va_D A (wSg a cI cJ F B K N I T ++ [(adp, .inl (cI, np, .inl fp))] ++ [(adz, .inl (cZ, nz, .inl fz))] ++ [(adt, .inl (cI, nt, .inl ft))] ++ wSg o cI cJ x_2.2.1 x_2.2.2 q_K0 q_N0 q_I0 q_T0) := hD
  refine lv_pop hx hb dL_isRight_16 rfl ?_
  refine lv_iconst (v := 0) hx hb dL_isRight_17 (by decide) ?_
  refine lv_istore (lv' := [(5, .int 0), (4, .ref (o 0)), (0, .ref (a 0)), (1, .ref adp), (2, .ref adz), (3, .ref adt)]) hx hb dL_isRight_18 hl (by decide) rfl (fun ls hl => ?_)
  have L_20 : ∀ (nn : Nat) (i5_20 : Int32) (oB_20 : q_Bd) (H : Heap) (locs : List Loc) (ls : Array Slot) (z_20 : (Int32 × q_Bd)), lv_has ls 7 [(5, .int i5_20), (4, .ref (o 0)), (0, .ref (a 0)), (1, .ref adp), (2, .ref adz), (3, .ref adt)] → va_P (dC, dI) vwCl (wSg a cI cJ F B K N I T ++ [(adp, .inl (cI, np, .inl fp))] ++ [(adz, .inl (cZ, nz, .inl fz))] ++ [(adt, .inl (cI, nt, .inl ft))] ++ wSg o cI cJ x_2.2.1 oB_20 q_K0 q_N0 q_I0 q_T0) H → va_D A (wSg a cI cJ F B K N I T ++ [(adp, .inl (cI, np, .inl fp))] ++ [(adz, .inl (cZ, nz, .inl fz))] ++ [(adt, .inl (cI, nt, .inl ft))] ++ wSg o cI cJ x_2.2.1 oB_20 q_K0 q_N0 q_I0 q_T0) → va_S A s.heap H locs → fl_L_isRight_20 np fp nn i5_20 oB_20 = some z_20 → (∀ (H : Heap) (locs : List Loc) (ls : Array Slot), lv_has ls 7 [(5, .int z_20.1), (4, .ref (o 0)), (0, .ref (a 0)), (1, .ref adp), (2, .ref adz), (3, .ref adt)] → va_P (dC, dI) vwCl (wSg a cI cJ F B K N I T ++ [(adp, .inl (cI, np, .inl fp))] ++ [(adz, .inl (cZ, nz, .inl fz))] ++ [(adt, .inl (cI, nt, .inl ft))] ++ wSg o cI cJ x_2.2.1 z_20.2 q_K0 q_N0 q_I0 q_T0) H → va_D A (wSg a cI cJ F B K N I T ++ [(adp, .inl (cI, np, .inl fp))] ++ [(adz, .inl (cZ, nz, .inl fz))] ++ [(adt, .inl (cI, nt, .inl ft))] ++ wSg o cI cJ x_2.2.1 z_20.2 q_K0 q_N0 q_I0 q_T0) → va_S A s.heap H locs → W p l e (headSpec wsM_isRight ({ frames := 6, cells := 18, slots := 658, locals := 135 } : Room)).room s m [.ref (a 0), .ref adp, .ref adz, .ref adt].toArray below meth c H locs 18 658 (MQ below (va_Qi (S := Unit) (fun r_ _ => r_ = r0.1) (fun _ => q_E (dC, dI) vwCl (wSg a cI cJ F B K r0.2 I T ++ [(adp, .inl (cI, np, .inl fp))] ++ [(adz, .inl (cZ, nz, .inl fz))] ++ [(adt, .inl (cI, nt, .inl ft))]) (q_ty3 cI cJ cZ) A) A) [.ref (a 0), .ref adp, .ref adz, .ref adt].toArray s 18 658 A) (F0 m 67 ls [])) → W p l e (headSpec wsM_isRight ({ frames := 6, cells := 18, slots := 658, locals := 135 } : Room)).room s m [.ref (a 0), .ref adp, .ref adz, .ref adt].toArray below meth c H locs 18 658 (MQ below (va_Qi (S := Unit) (fun r_ _ => r_ = r0.1) (fun _ => q_E (dC, dI) vwCl (wSg a cI cJ F B K r0.2 I T ++ [(adp, .inl (cI, np, .inl fp))] ++ [(adz, .inl (cZ, nz, .inl fz))] ++ [(adt, .inl (cI, nt, .inl ft))]) (q_ty3 cI cJ cZ) A) A) [.ref (a 0), .ref adp, .ref adz, .ref adt].toArray s 18 658 A) (F0 m 20 ls []) := by
    intro nn
    induction nn with
    | zero =>
      intro i5_20 oB_20 H locs ls z_20 hl hP hD hS hf hex_20
      rw [fl_L_isRight_20] at hf
      cases hf
    | succ nn ih =>
      intro i5_20 oB_20 H locs ls z_20 hl hP hD hS hf hex_20
      rw [fl_L_isRight_20] at hf
      refine lv_iload hx hb dL_isRight_20 (lv_at hl 0 rfl) ?_
      refine lv_aload_n hx hb dL_isRight_22 rfl (lv_at hl 3 rfl) ?_
      refine va_alen (v := nI np) hx hb hK hP 18 0 rfl rfl rfl dL_isRight_23 ?_
      refine lv_icmp_ge (tgt := 67) hx hb dL_isRight_24 (by decide) (fun c_20001 => ?_) (fun c_20001 => ?_)
      · replace hf := (if_pos c_20001).symm.trans hf
        replace hf := Option.some.inj hf
        subst hf
        exact hex_20 H locs ls (lv_sub hl [0, 1, 2, 3, 4, 5] rfl) hP hD hS
      · replace hf := (if_neg c_20001).symm.trans hf
        refine lv_iconst (v := 0) hx hb dL_isRight_27 (by decide) ?_
        refine lv_istore (lv' := [(6, .int 0), (5, .int i5_20), (4, .ref (o 0)), (0, .ref (a 0)), (1, .ref adp), (2, .ref adz), (3, .ref adt)]) hx hb dL_isRight_28 hl (by decide) rfl (fun ls hl => ?_)
        have L_30 : ∀ (nn : Nat) (i6_30 : Int32) (oB_30 : q_Bd) (H : Heap) (locs : List Loc) (ls : Array Slot) (z_30 : (Int32 × q_Bd)), lv_has ls 7 [(6, .int i6_30), (5, .int i5_20), (4, .ref (o 0)), (0, .ref (a 0)), (1, .ref adp), (2, .ref adz), (3, .ref adt)] → va_P (dC, dI) vwCl (wSg a cI cJ F B K N I T ++ [(adp, .inl (cI, np, .inl fp))] ++ [(adz, .inl (cZ, nz, .inl fz))] ++ [(adt, .inl (cI, nt, .inl ft))] ++ wSg o cI cJ x_2.2.1 oB_30 q_K0 q_N0 q_I0 q_T0) H → va_D A (wSg a cI cJ F B K N I T ++ [(adp, .inl (cI, np, .inl fp))] ++ [(adz, .inl (cZ, nz, .inl fz))] ++ [(adt, .inl (cI, nt, .inl ft))] ++ wSg o cI cJ x_2.2.1 oB_30 q_K0 q_N0 q_I0 q_T0) → va_S A s.heap H locs → fl_L_isRight_30 np fp i5_20 nn i6_30 oB_30 = some z_30 → (∀ (H : Heap) (locs : List Loc) (ls : Array Slot), lv_has ls 7 [(6, .int z_30.1), (5, .int i5_20), (4, .ref (o 0)), (0, .ref (a 0)), (1, .ref adp), (2, .ref adz), (3, .ref adt)] → va_P (dC, dI) vwCl (wSg a cI cJ F B K N I T ++ [(adp, .inl (cI, np, .inl fp))] ++ [(adz, .inl (cZ, nz, .inl fz))] ++ [(adt, .inl (cI, nt, .inl ft))] ++ wSg o cI cJ x_2.2.1 z_30.2 q_K0 q_N0 q_I0 q_T0) H → va_D A (wSg a cI cJ F B K N I T ++ [(adp, .inl (cI, np, .inl fp))] ++ [(adz, .inl (cZ, nz, .inl fz))] ++ [(adt, .inl (cI, nt, .inl ft))] ++ wSg o cI cJ x_2.2.1 z_30.2 q_K0 q_N0 q_I0 q_T0) → va_S A s.heap H locs → W p l e (headSpec wsM_isRight ({ frames := 6, cells := 18, slots := 658, locals := 135 } : Room)).room s m [.ref (a 0), .ref adp, .ref adz, .ref adt].toArray below meth c H locs 18 658 (MQ below (va_Qi (S := Unit) (fun r_ _ => r_ = r0.1) (fun _ => q_E (dC, dI) vwCl (wSg a cI cJ F B K r0.2 I T ++ [(adp, .inl (cI, np, .inl fp))] ++ [(adz, .inl (cZ, nz, .inl fz))] ++ [(adt, .inl (cI, nt, .inl ft))]) (q_ty3 cI cJ cZ) A) A) [.ref (a 0), .ref adp, .ref adz, .ref adt].toArray s 18 658 A) (F0 m 61 ls [])) → W p l e (headSpec wsM_isRight ({ frames := 6, cells := 18, slots := 658, locals := 135 } : Room)).room s m [.ref (a 0), .ref adp, .ref adz, .ref adt].toArray below meth c H locs 18 658 (MQ below (va_Qi (S := Unit) (fun r_ _ => r_ = r0.1) (fun _ => q_E (dC, dI) vwCl (wSg a cI cJ F B K r0.2 I T ++ [(adp, .inl (cI, np, .inl fp))] ++ [(adz, .inl (cZ, nz, .inl fz))] ++ [(adt, .inl (cI, nt, .inl ft))]) (q_ty3 cI cJ cZ) A) A) [.ref (a 0), .ref adp, .ref adz, .ref adt].toArray s 18 658 A) (F0 m 30 ls []) := by
          intro nn
          induction nn with
          | zero =>
            intro i6_30 oB_30 H locs ls z_30 hl hP hD hS hf hex_30
            rw [fl_L_isRight_30] at hf
            cases hf
          | succ nn ih =>
            intro i6_30 oB_30 H locs ls z_30 hl hP hD hS hf hex_30
            rw [fl_L_isRight_30] at hf
            refine lv_iload hx hb dL_isRight_30 (lv_at hl 0 rfl) ?_
            refine lv_iconst (v := 5) hx hb dL_isRight_32 (by decide) ?_
            refine lv_icmp_ge (tgt := 61) hx hb dL_isRight_33 (by decide) (fun c_30001 => ?_) (fun c_30001 => ?_)
            · replace hf := (if_pos c_30001).symm.trans hf
              replace hf := Option.some.inj hf
              subst hf
              exact hex_30 H locs ls (lv_sub hl [0, 1, 2, 3, 4, 5, 6] rfl) hP hD hS
            · replace hf := (if_neg c_30001).symm.trans hf
              refine lv_aload hx hb dL_isRight_36 (lv_at hl 2 rfl) ?_
              refine lv_iload hx hb dL_isRight_38 (lv_at hl 1 rfl) ?_
              refine lv_iload hx hb dL_isRight_40 (lv_at hl 0 rfl) ?_
              refine lv_aload_n hx hb dL_isRight_42 rfl (lv_at hl 4 rfl) ?_
              refine lv_iload hx hb dL_isRight_43 (lv_at hl 1 rfl) ?_
              by_cases nc_30002 : ¬ q_ix i5_20 np = true
              · replace hf := (if_neg nc_30002).symm.trans hf
                cases hf
              have c_30002 := Classical.not_not.mp nc_30002
              replace hf := (if_pos c_30002).symm.trans hf
              refine va_iald hx hb hK hP 18 0 rfl rfl (q_ix_in c_30002) dL_isRight_45 ?_
              refine lv_iload hx hb dL_isRight_46 (lv_at hl 0 rfl) ?_
              refine lv_ishr hx hb dL_isRight_48 ?_
              refine lv_iconst (v := 1) hx hb dL_isRight_49 (by decide) ?_
              refine lv_iand hx hb dL_isRight_50 ?_
              obtain ⟨x_30003, hx_30003, hf⟩ := Option.bind_eq_some_iff.mp hf
              have hPc := hP.sub (ws' := (wSg o cI cJ x_2.2.1 oB_30 q_K0 q_N0 q_I0 q_T0)) [21, 22, 23, 24, 25, 26, 27, 28, 29, 30, 31, 32, 33, 34, 35, 36, 37, 38] rfl
              have hDc := hD.sub (ws' := (wSg o cI cJ x_2.2.1 oB_30 q_K0 q_N0 q_I0 q_T0)) [21, 22, 23, 24, 25, 26, 27, 28, 29, 30, 31, 32, 33, 34, 35, 36, 37, 38] (by decide) rfl
              have hFc := va_free (wc := (wSg o cI cJ x_2.2.1 oB_30 q_K0 q_N0 q_I0 q_T0)) hD hS hA [21, 22, 23, 24, 25, 26, 27, 28, 29, 30, 31, 32, 33, 34, 35, 36, 37, 38] rfl
              refine va_calli (va_runV (As := [.int i5_20, .int i6_30, .int (((fp i5_20.toNatClampNeg) >>> (i6_30 &&& 31)) &&& 1)]) (rest := []) ⟨hx, hb, hml, hown, hts⟩ (c_X5_stick l dC dI cI cJ o H.size x_2.2.1 oB_30 q_K0 q_N0 q_I0 q_T0 i5_20 i6_30 (((fp i5_20.toNatClampNeg) >>> (i6_30 &&& 31)) &&& 1) x_30003 hx_30003) (cwV 3 hts gM_isRight_X5_stick rfl rfl rfl (by decide +kernel) ⟨Nat.le_of_ble_eq_true rfl, Nat.le_of_ble_eq_true rfl⟩) ⟨q_Wblind, va_recv (hK.sub (tys' := q_ty cI cJ) [0, 1] rfl) hPc (ci := 5) (q0 := 0) rfl rfl, q_Wpre hPc (hK.sub (tys' := q_ty cI cJ) [0, 1] rfl) hn hDc⟩ rfl rfl hl.1 rfl (lv_room (Nat.le_of_ble_eq_true rfl)) dL_isRight_51 ⟨by show 18 + 0 ≤ 18; omega, by show 658 + 0 ≤ 658; omega⟩) hS (fun q _ h => hFc q h) hFc (fun r_9 u t H1 locs ht hvm hw hB hz1 hk1 hS => ?_)
              subst hw
              obtain ⟨hP1, hK1, hD1⟩ := hB
              rw [ht] at hP1
              obtain ⟨hP, hD⟩ := va_join (wr := (wSg a cI cJ F B K N I T ++ [(adp, .inl (cI, np, .inl fp))] ++ [(adz, .inl (cZ, nz, .inl fz))] ++ [(adt, .inl (cI, nt, .inl ft))])) (w1 := (wSg o cI cJ x_2.2.1 x_30003.2 q_K0 q_N0 q_I0 q_T0)) hP hD [21, 22, 23, 24, 25, 26, 27, 28, 29, 30, 31, 32, 33, 34, 35, 36, 37, 38] [0, 1, 2, 3, 4, 5, 6, 7, 8, 9, 10, 11, 12, 13, 14, 15, 16, 17, 18, 19, 20] rfl rfl (by decide) (by decide) hk1 hFc hP1 hD1
              generalize H1 = H at hP hS ⊢
              have hP : va_P (dC, dI) vwCl (wSg a cI cJ F B K N I T ++ [(adp, .inl (cI, np, .inl fp))] ++ [(adz, .inl (cZ, nz, .inl fz))] ++ [(adt, .inl (cI, nt, .inl ft))] ++ wSg o cI cJ x_2.2.1 x_30003.2 q_K0 q_N0 q_I0 q_T0) H := hP
              have hD : va_D A (wSg a cI cJ F B K N I T ++ [(adp, .inl (cI, np, .inl fp))] ++ [(adz, .inl (cZ, nz, .inl fz))] ++ [(adt, .inl (cI, nt, .inl ft))] ++ wSg o cI cJ x_2.2.1 x_30003.2 q_K0 q_N0 q_I0 q_T0) := hD
              refine lv_pop hx hb dL_isRight_54 rfl ?_
              refine lv_iinc (v := i6_30 + 1) (lv' := [(6, .int (i6_30 + 1)), (5, .int i5_20), (4, .ref (o 0)), (0, .ref (a 0)), (1, .ref adp), (2, .ref adz), (3, .ref adt)]) hx hb dL_isRight_55 hl (k := 0) rfl rfl (by decide) rfl (fun ls hl => ?_)
              refine lv_goto (tgt := 30) hx hb dL_isRight_58 (by decide) ?_
              exact ih (i6_30 + 1) x_30003.2 H locs ls _ (lv_sub hl [0, 1, 2, 3, 4, 5, 6] rfl) hP hD hS hf hex_30
        obtain ⟨z_20002, hz_20002, hf⟩ := Option.bind_eq_some_iff.mp hf
        refine L_30 1000 0 oB_20 H locs ls z_20002 (lv_sub hl [0, 1, 2, 3, 4, 5, 6] rfl) hP hD hS hz_20002 (fun H locs ls hl hP hD hS => ?_)
        refine lv_iinc (v := i5_20 + 1) (lv' := [(5, .int (i5_20 + 1)), (6, .int z_20002.1), (4, .ref (o 0)), (0, .ref (a 0)), (1, .ref adp), (2, .ref adz), (3, .ref adt)]) hx hb dL_isRight_61 hl (k := 1) rfl rfl (by decide) rfl (fun ls hl => ?_)
        refine lv_goto (tgt := 20) hx hb dL_isRight_64 (by decide) ?_
        exact ih (i5_20 + 1) z_20002.2 H locs ls _ (lv_sub hl [0, 2, 3, 4, 5, 6] rfl) hP hD hS hf hex_20
  obtain ⟨z_3, hz_3, hf⟩ := Option.bind_eq_some_iff.mp hf
  refine L_20 1000 0 x_2.2.2 H locs ls z_3 (lv_sub hl [0, 1, 2, 3, 4, 5] rfl) hP hD hS hz_3 (fun H locs ls hl hP hD hS => ?_)
  refine lv_iconst (v := 0) hx hb dL_isRight_67 (by decide) ?_
  refine lv_istore (lv' := [(5, .int 0), (4, .ref (o 0)), (0, .ref (a 0)), (1, .ref adp), (2, .ref adz), (3, .ref adt)]) hx hb dL_isRight_68 hl (by decide) rfl (fun ls hl => ?_)
  have L_70 : ∀ (nn : Nat) (i5_70 : Int32) (oK_70 : q_Bk) (H : Heap) (locs : List Loc) (ls : Array Slot) (z_70 : (Int32 × q_Bk)), lv_has ls 7 [(5, .int i5_70), (4, .ref (o 0)), (0, .ref (a 0)), (1, .ref adp), (2, .ref adz), (3, .ref adt)] → va_P (dC, dI) vwCl (wSg a cI cJ F B K N I T ++ [(adp, .inl (cI, np, .inl fp))] ++ [(adz, .inl (cZ, nz, .inl fz))] ++ [(adt, .inl (cI, nt, .inl ft))] ++ wSg o cI cJ x_2.2.1 z_3.2 oK_70 q_N0 q_I0 q_T0) H → va_D A (wSg a cI cJ F B K N I T ++ [(adp, .inl (cI, np, .inl fp))] ++ [(adz, .inl (cZ, nz, .inl fz))] ++ [(adt, .inl (cI, nt, .inl ft))] ++ wSg o cI cJ x_2.2.1 z_3.2 oK_70 q_N0 q_I0 q_T0) → va_S A s.heap H locs → fl_L_isRight_70 nt ft nn i5_70 oK_70 = some z_70 → (∀ (H : Heap) (locs : List Loc) (ls : Array Slot), lv_has ls 7 [(5, .int z_70.1), (4, .ref (o 0)), (0, .ref (a 0)), (1, .ref adp), (2, .ref adz), (3, .ref adt)] → va_P (dC, dI) vwCl (wSg a cI cJ F B K N I T ++ [(adp, .inl (cI, np, .inl fp))] ++ [(adz, .inl (cZ, nz, .inl fz))] ++ [(adt, .inl (cI, nt, .inl ft))] ++ wSg o cI cJ x_2.2.1 z_3.2 z_70.2 q_N0 q_I0 q_T0) H → va_D A (wSg a cI cJ F B K N I T ++ [(adp, .inl (cI, np, .inl fp))] ++ [(adz, .inl (cZ, nz, .inl fz))] ++ [(adt, .inl (cI, nt, .inl ft))] ++ wSg o cI cJ x_2.2.1 z_3.2 z_70.2 q_N0 q_I0 q_T0) → va_S A s.heap H locs → W p l e (headSpec wsM_isRight ({ frames := 6, cells := 18, slots := 658, locals := 135 } : Room)).room s m [.ref (a 0), .ref adp, .ref adz, .ref adt].toArray below meth c H locs 18 658 (MQ below (va_Qi (S := Unit) (fun r_ _ => r_ = r0.1) (fun _ => q_E (dC, dI) vwCl (wSg a cI cJ F B K r0.2 I T ++ [(adp, .inl (cI, np, .inl fp))] ++ [(adz, .inl (cZ, nz, .inl fz))] ++ [(adt, .inl (cI, nt, .inl ft))]) (q_ty3 cI cJ cZ) A) A) [.ref (a 0), .ref adp, .ref adz, .ref adt].toArray s 18 658 A) (F0 m 95 ls [])) → W p l e (headSpec wsM_isRight ({ frames := 6, cells := 18, slots := 658, locals := 135 } : Room)).room s m [.ref (a 0), .ref adp, .ref adz, .ref adt].toArray below meth c H locs 18 658 (MQ below (va_Qi (S := Unit) (fun r_ _ => r_ = r0.1) (fun _ => q_E (dC, dI) vwCl (wSg a cI cJ F B K r0.2 I T ++ [(adp, .inl (cI, np, .inl fp))] ++ [(adz, .inl (cZ, nz, .inl fz))] ++ [(adt, .inl (cI, nt, .inl ft))]) (q_ty3 cI cJ cZ) A) A) [.ref (a 0), .ref adp, .ref adz, .ref adt].toArray s 18 658 A) (F0 m 70 ls []) := by
    intro nn
    induction nn with
    | zero =>
      intro i5_70 oK_70 H locs ls z_70 hl hP hD hS hf hex_70
      rw [fl_L_isRight_70] at hf
      cases hf
    | succ nn ih =>
      intro i5_70 oK_70 H locs ls z_70 hl hP hD hS hf hex_70
      rw [fl_L_isRight_70] at hf
      refine lv_iload hx hb dL_isRight_70 (lv_at hl 0 rfl) ?_
      refine lv_iconst (v := 3) hx hb dL_isRight_72 (by decide) ?_
      refine lv_icmp_ge (tgt := 95) hx hb dL_isRight_73 (by decide) (fun c_70001 => ?_) (fun c_70001 => ?_)
      · replace hf := (if_pos c_70001).symm.trans hf
        replace hf := Option.some.inj hf
        subst hf
        exact hex_70 H locs ls (lv_sub hl [0, 1, 2, 3, 4, 5] rfl) hP hD hS
      · replace hf := (if_neg c_70001).symm.trans hf
        refine lv_aload hx hb dL_isRight_76 (lv_at hl 1 rfl) ?_
        refine lv_iconst (v := 1) hx hb dL_isRight_78 (by decide) ?_
        refine lv_aload_n hx hb dL_isRight_79 rfl (lv_at hl 5 rfl) ?_
        refine lv_iload hx hb dL_isRight_80 (lv_at hl 0 rfl) ?_
        by_cases nc_70002 : ¬ q_ix i5_70 nt = true
        · replace hf := (if_neg nc_70002).symm.trans hf
          cases hf
        have c_70002 := Classical.not_not.mp nc_70002
        replace hf := (if_pos c_70002).symm.trans hf
        refine va_iald hx hb hK hP 20 0 rfl rfl (q_ix_in c_70002) dL_isRight_82 ?_
        refine lv_iconst (v := 0) hx hb dL_isRight_83 (by decide) ?_
        refine lv_iconst (v := 0) hx hb dL_isRight_84 (by decide) ?_
        obtain ⟨x_70003, hx_70003, hf⟩ := Option.bind_eq_some_iff.mp hf
        have hPc := hP.sub (ws' := (wSg o cI cJ x_2.2.1 z_3.2 oK_70 q_N0 q_I0 q_T0)) [21, 22, 23, 24, 25, 26, 27, 28, 29, 30, 31, 32, 33, 34, 35, 36, 37, 38] rfl
        have hDc := hD.sub (ws' := (wSg o cI cJ x_2.2.1 z_3.2 oK_70 q_N0 q_I0 q_T0)) [21, 22, 23, 24, 25, 26, 27, 28, 29, 30, 31, 32, 33, 34, 35, 36, 37, 38] (by decide) rfl
        have hFc := va_free (wc := (wSg o cI cJ x_2.2.1 z_3.2 oK_70 q_N0 q_I0 q_T0)) hD hS hA [21, 22, 23, 24, 25, 26, 27, 28, 29, 30, 31, 32, 33, 34, 35, 36, 37, 38] rfl
        refine va_calli (va_runV (As := [.int 1, .int (ft i5_70.toNatClampNeg), .int 0, .int 0]) (rest := []) ⟨hx, hb, hml, hown, hts⟩ (c_X5_letter l dC dI cI cJ o H.size x_2.2.1 z_3.2 oK_70 q_N0 q_I0 q_T0 1 (ft i5_70.toNatClampNeg) 0 0 x_70003 hx_70003) (cwV 4 hts gM_isRight_X5_letter rfl rfl rfl (by decide +kernel) ⟨Nat.le_of_ble_eq_true rfl, Nat.le_of_ble_eq_true rfl⟩) ⟨q_Wblind, va_recv (hK.sub (tys' := q_ty cI cJ) [0, 1] rfl) hPc (ci := 5) (q0 := 0) rfl rfl, q_Wpre hPc (hK.sub (tys' := q_ty cI cJ) [0, 1] rfl) hn hDc⟩ rfl rfl hl.1 rfl (lv_room (Nat.le_of_ble_eq_true rfl)) dL_isRight_85 ⟨by show 18 + 0 ≤ 18; omega, by show 658 + 0 ≤ 658; omega⟩) hS (fun q _ h => hFc q h) hFc (fun r_9 u t H1 locs ht hvm hw hB hz1 hk1 hS => ?_)
        subst hw
        obtain ⟨hP1, hK1, hD1⟩ := hB
        rw [ht] at hP1
        obtain ⟨hP, hD⟩ := va_join (wr := (wSg a cI cJ F B K N I T ++ [(adp, .inl (cI, np, .inl fp))] ++ [(adz, .inl (cZ, nz, .inl fz))] ++ [(adt, .inl (cI, nt, .inl ft))])) (w1 := (wSg o cI cJ x_2.2.1 z_3.2 x_70003.2 q_N0 q_I0 q_T0)) hP hD [21, 22, 23, 24, 25, 26, 27, 28, 29, 30, 31, 32, 33, 34, 35, 36, 37, 38] [0, 1, 2, 3, 4, 5, 6, 7, 8, 9, 10, 11, 12, 13, 14, 15, 16, 17, 18, 19, 20] rfl rfl (by decide) (by decide) hk1 hFc hP1 hD1
        generalize H1 = H at hP hS ⊢
        have hP : va_P (dC, dI) vwCl (wSg a cI cJ F B K N I T ++ [(adp, .inl (cI, np, .inl fp))] ++ [(adz, .inl (cZ, nz, .inl fz))] ++ [(adt, .inl (cI, nt, .inl ft))] ++ wSg o cI cJ x_2.2.1 z_3.2 x_70003.2 q_N0 q_I0 q_T0) H := hP
        have hD : va_D A (wSg a cI cJ F B K N I T ++ [(adp, .inl (cI, np, .inl fp))] ++ [(adz, .inl (cZ, nz, .inl fz))] ++ [(adt, .inl (cI, nt, .inl ft))] ++ wSg o cI cJ x_2.2.1 z_3.2 x_70003.2 q_N0 q_I0 q_T0) := hD
        refine lv_pop hx hb dL_isRight_88 rfl ?_
        refine lv_iinc (v := i5_70 + 1) (lv' := [(5, .int (i5_70 + 1)), (4, .ref (o 0)), (0, .ref (a 0)), (1, .ref adp), (2, .ref adz), (3, .ref adt)]) hx hb dL_isRight_89 hl (k := 0) rfl rfl (by decide) rfl (fun ls hl => ?_)
        refine lv_goto (tgt := 70) hx hb dL_isRight_92 (by decide) ?_
        exact ih (i5_70 + 1) x_70003.2 H locs ls _ (lv_sub hl [0, 1, 2, 3, 4, 5] rfl) hP hD hS hf hex_70
  obtain ⟨z_4, hz_4, hf⟩ := Option.bind_eq_some_iff.mp hf
  refine L_70 1000 0 q_K0 H locs ls z_4 (lv_sub hl [0, 1, 2, 3, 4, 5] rfl) hP hD hS hz_4 (fun H locs ls hl hP hD hS => ?_)
  refine lv_iconst (v := 0) hx hb dL_isRight_95 (by decide) ?_
  refine lv_istore (lv' := [(5, .int 0), (4, .ref (o 0)), (0, .ref (a 0)), (1, .ref adp), (2, .ref adz), (3, .ref adt)]) hx hb dL_isRight_96 hl (by decide) rfl (fun ls hl => ?_)
  have L_98 : ∀ (nn : Nat) (i5_98 : Int32) (N_98 : q_Pl) (oK_98 : q_Bk) (oN_98 : q_Pl) (H : Heap) (locs : List Loc) (ls : Array Slot) (z_98 : ((Int32 × q_Pl) ⊕ (Int32 × q_Pl × q_Bk × q_Pl))), lv_has ls 7 [(5, .int i5_98), (4, .ref (o 0)), (0, .ref (a 0)), (1, .ref adp), (2, .ref adz), (3, .ref adt)] → va_P (dC, dI) vwCl (wSg a cI cJ F B K N_98 I T ++ [(adp, .inl (cI, np, .inl fp))] ++ [(adz, .inl (cZ, nz, .inl fz))] ++ [(adt, .inl (cI, nt, .inl ft))] ++ wSg o cI cJ x_2.2.1 z_3.2 oK_98 oN_98 q_I0 q_T0) H → va_D A (wSg a cI cJ F B K N_98 I T ++ [(adp, .inl (cI, np, .inl fp))] ++ [(adz, .inl (cZ, nz, .inl fz))] ++ [(adt, .inl (cI, nt, .inl ft))] ++ wSg o cI cJ x_2.2.1 z_3.2 oK_98 oN_98 q_I0 q_T0) → va_S A s.heap H locs → fl_L_isRight_98 F B K nz fz x_2 z_3 nn i5_98 N_98 oK_98 oN_98 = some z_98 → (∀ r_ : Int32 × q_Pl, z_98 = .inl r_ → r_ = r0) → (∀ (y : Int32 × q_Pl × q_Bk × q_Pl) (H : Heap) (locs : List Loc) (ls : Array Slot), z_98 = .inr y → lv_has ls 7 [(5, .int y.1), (4, .ref (o 0)), (0, .ref (a 0)), (1, .ref adp), (2, .ref adz), (3, .ref adt)] → va_P (dC, dI) vwCl (wSg a cI cJ F B K y.2.1 I T ++ [(adp, .inl (cI, np, .inl fp))] ++ [(adz, .inl (cZ, nz, .inl fz))] ++ [(adt, .inl (cI, nt, .inl ft))] ++ wSg o cI cJ x_2.2.1 z_3.2 y.2.2.1 y.2.2.2 q_I0 q_T0) H → va_D A (wSg a cI cJ F B K y.2.1 I T ++ [(adp, .inl (cI, np, .inl fp))] ++ [(adz, .inl (cZ, nz, .inl fz))] ++ [(adt, .inl (cI, nt, .inl ft))] ++ wSg o cI cJ x_2.2.1 z_3.2 y.2.2.1 y.2.2.2 q_I0 q_T0) → va_S A s.heap H locs → W p l e (headSpec wsM_isRight ({ frames := 6, cells := 18, slots := 658, locals := 135 } : Room)).room s m [.ref (a 0), .ref adp, .ref adz, .ref adt].toArray below meth c H locs 18 658 (MQ below (va_Qi (S := Unit) (fun r_ _ => r_ = r0.1) (fun _ => q_E (dC, dI) vwCl (wSg a cI cJ F B K r0.2 I T ++ [(adp, .inl (cI, np, .inl fp))] ++ [(adz, .inl (cZ, nz, .inl fz))] ++ [(adt, .inl (cI, nt, .inl ft))]) (q_ty3 cI cJ cZ) A) A) [.ref (a 0), .ref adp, .ref adz, .ref adt].toArray s 18 658 A) (F0 m 149 ls [])) → W p l e (headSpec wsM_isRight ({ frames := 6, cells := 18, slots := 658, locals := 135 } : Room)).room s m [.ref (a 0), .ref adp, .ref adz, .ref adt].toArray below meth c H locs 18 658 (MQ below (va_Qi (S := Unit) (fun r_ _ => r_ = r0.1) (fun _ => q_E (dC, dI) vwCl (wSg a cI cJ F B K r0.2 I T ++ [(adp, .inl (cI, np, .inl fp))] ++ [(adz, .inl (cZ, nz, .inl fz))] ++ [(adt, .inl (cI, nt, .inl ft))]) (q_ty3 cI cJ cZ) A) A) [.ref (a 0), .ref adp, .ref adz, .ref adt].toArray s 18 658 A) (F0 m 98 ls []) := by
    intro nn
    induction nn with
    | zero =>
      intro i5_98 N_98 oK_98 oN_98 H locs ls z_98 hl hP hD hS hf hret_98 hex_98
      rw [fl_L_isRight_98] at hf
      cases hf
    | succ nn ih =>
      intro i5_98 N_98 oK_98 oN_98 H locs ls z_98 hl hP hD hS hf hret_98 hex_98
      rw [fl_L_isRight_98] at hf
      refine lv_iload hx hb dL_isRight_98 (lv_at hl 0 rfl) ?_
      refine lv_aload_n hx hb dL_isRight_100 rfl (lv_at hl 4 rfl) ?_
      refine va_alen (v := nI nz) hx hb hK hP 19 2 rfl rfl rfl dL_isRight_101 ?_
      refine lv_icmp_ge (tgt := 149) hx hb dL_isRight_102 (by decide) (fun c_98001 => ?_) (fun c_98001 => ?_)
      · replace hf := (if_pos c_98001).symm.trans hf
        exact hex_98 (i5_98, N_98, oK_98, oN_98) H locs ls (Option.some.inj hf).symm (lv_sub hl [0, 1, 2, 3, 4, 5] rfl) hP hD hS
      · replace hf := (if_neg c_98001).symm.trans hf
        refine lv_aload hx hb dL_isRight_105 (lv_at hl 1 rfl) ?_
        refine lv_aload_n hx hb dL_isRight_107 rfl (lv_at hl 2 rfl) ?_
        refine lv_iload hx hb dL_isRight_108 (lv_at hl 0 rfl) ?_
        refine lv_iconst (v := 0) hx hb dL_isRight_110 (by decide) ?_
        obtain ⟨x_98002, hx_98002, hf⟩ := Option.bind_eq_some_iff.mp hf
        have hPc := hP.sub (ws' := (wSg a cI cJ F B K N_98 I T)) [0, 1, 2, 3, 4, 5, 6, 7, 8, 9, 10, 11, 12, 13, 14, 15, 16, 17] rfl
        have hDc := hD.sub (ws' := (wSg a cI cJ F B K N_98 I T)) [0, 1, 2, 3, 4, 5, 6, 7, 8, 9, 10, 11, 12, 13, 14, 15, 16, 17] (by decide) rfl
        have hFc := va_free (wc := (wSg a cI cJ F B K N_98 I T)) hD hS hA [0, 1, 2, 3, 4, 5, 6, 7, 8, 9, 10, 11, 12, 13, 14, 15, 16, 17] rfl
        refine va_calli (va_runV (As := [.int i5_98, .int 0]) (rest := [.ref (o 0)]) ⟨hx, hb, hml, hown, hts⟩ (c_X5_ofLine l dC dI cI cJ a H.size F B K N_98 I T i5_98 0 x_98002 hx_98002) (cwV 2 hts gM_isRight_X5_ofLine rfl rfl rfl (by decide +kernel) ⟨Nat.le_of_ble_eq_true rfl, Nat.le_of_ble_eq_true rfl⟩) ⟨q_Wblind, va_recv (hK.sub (tys' := q_ty cI cJ) [0, 1] rfl) hPc (ci := 5) (q0 := 0) rfl rfl, q_Wpre hPc (hK.sub (tys' := q_ty cI cJ) [0, 1] rfl) hn hDc⟩ rfl rfl hl.1 rfl (lv_room (Nat.le_of_ble_eq_true rfl)) dL_isRight_111 ⟨by show 18 + 0 ≤ 18; omega, by show 658 + 0 ≤ 658; omega⟩) hS (fun q _ h => hFc q h) hFc (fun r_9 u t H1 locs ht hvm hw hB hz1 hk1 hS => ?_)
        subst hw
        obtain ⟨hP1, hK1, hD1⟩ := hB
        rw [ht] at hP1
        obtain ⟨hP, hD⟩ := va_join (wr := ([(adp, .inl (cI, np, .inl fp))] ++ [(adz, .inl (cZ, nz, .inl fz))] ++ [(adt, .inl (cI, nt, .inl ft))] ++ wSg o cI cJ x_2.2.1 z_3.2 oK_98 oN_98 q_I0 q_T0)) (w1 := (wSg a cI cJ F B K x_98002.2 I T)) hP hD [0, 1, 2, 3, 4, 5, 6, 7, 8, 9, 10, 11, 12, 13, 14, 15, 16, 17] [18, 19, 20, 21, 22, 23, 24, 25, 26, 27, 28, 29, 30, 31, 32, 33, 34, 35, 36, 37, 38] rfl rfl (by decide) (by decide) hk1 hFc hP1 hD1
        generalize H1 = H at hP hS ⊢
        replace hP := hP.sub (ws' := (wSg a cI cJ F B K x_98002.2 I T ++ [(adp, .inl (cI, np, .inl fp))] ++ [(adz, .inl (cZ, nz, .inl fz))] ++ [(adt, .inl (cI, nt, .inl ft))] ++ wSg o cI cJ x_2.2.1 z_3.2 oK_98 oN_98 q_I0 q_T0)) [21, 22, 23, 24, 25, 26, 27, 28, 29, 30, 31, 32, 33, 34, 35, 36, 37, 38, 0, 1, 2, 3, 4, 5, 6, 7, 8, 9, 10, 11, 12, 13, 14, 15, 16, 17, 18, 19, 20] rfl
        replace hD := hD.sub (ws' := (wSg a cI cJ F B K x_98002.2 I T ++ [(adp, .inl (cI, np, .inl fp))] ++ [(adz, .inl (cZ, nz, .inl fz))] ++ [(adt, .inl (cI, nt, .inl ft))] ++ wSg o cI cJ x_2.2.1 z_3.2 oK_98 oN_98 q_I0 q_T0)) [21, 22, 23, 24, 25, 26, 27, 28, 29, 30, 31, 32, 33, 34, 35, 36, 37, 38, 0, 1, 2, 3, 4, 5, 6, 7, 8, 9, 10, 11, 12, 13, 14, 15, 16, 17, 18, 19, 20] (by decide) rfl
        have hP : va_P (dC, dI) vwCl (wSg a cI cJ F B K x_98002.2 I T ++ [(adp, .inl (cI, np, .inl fp))] ++ [(adz, .inl (cZ, nz, .inl fz))] ++ [(adt, .inl (cI, nt, .inl ft))] ++ wSg o cI cJ x_2.2.1 z_3.2 oK_98 oN_98 q_I0 q_T0) H := hP
        have hD : va_D A (wSg a cI cJ F B K x_98002.2 I T ++ [(adp, .inl (cI, np, .inl fp))] ++ [(adz, .inl (cZ, nz, .inl fz))] ++ [(adt, .inl (cI, nt, .inl ft))] ++ wSg o cI cJ x_2.2.1 z_3.2 oK_98 oN_98 q_I0 q_T0) := hD
        obtain ⟨x_98003, hx_98003, hf⟩ := Option.bind_eq_some_iff.mp hf
        have hPc := hP.sub (ws' := (wSg o cI cJ x_2.2.1 z_3.2 oK_98 oN_98 q_I0 q_T0)) [21, 22, 23, 24, 25, 26, 27, 28, 29, 30, 31, 32, 33, 34, 35, 36, 37, 38] rfl
        have hDc := hD.sub (ws' := (wSg o cI cJ x_2.2.1 z_3.2 oK_98 oN_98 q_I0 q_T0)) [21, 22, 23, 24, 25, 26, 27, 28, 29, 30, 31, 32, 33, 34, 35, 36, 37, 38] (by decide) rfl
        have hFc := va_free (wc := (wSg o cI cJ x_2.2.1 z_3.2 oK_98 oN_98 q_I0 q_T0)) hD hS hA [21, 22, 23, 24, 25, 26, 27, 28, 29, 30, 31, 32, 33, 34, 35, 36, 37, 38] rfl
        refine va_calli (va_runV (As := [.int x_98002.1]) (rest := []) ⟨hx, hb, hml, hown, hts⟩ (c_X5_list l dC dI cI cJ o H.size x_2.2.1 z_3.2 oK_98 oN_98 q_I0 q_T0 x_98002.1 x_98003 hx_98003) (cwV 1 hts gM_isRight_X5_list rfl rfl rfl (by decide +kernel) ⟨Nat.le_of_ble_eq_true rfl, Nat.le_of_ble_eq_true rfl⟩) ⟨q_Wblind, va_recv (hK.sub (tys' := q_ty cI cJ) [0, 1] rfl) hPc (ci := 5) (q0 := 0) rfl rfl, q_Wpre hPc (hK.sub (tys' := q_ty cI cJ) [0, 1] rfl) hn hDc⟩ rfl rfl hl.1 rfl (lv_room (Nat.le_of_ble_eq_true rfl)) dL_isRight_114 ⟨by show 18 + 0 ≤ 18; omega, by show 658 + 0 ≤ 658; omega⟩) hS (fun q _ h => hFc q h) hFc (fun r_9 u t H1 locs ht hvm hw hB hz1 hk1 hS => ?_)
        subst hw
        obtain ⟨hP1, hK1, hD1⟩ := hB
        rw [ht] at hP1
        obtain ⟨hP, hD⟩ := va_join (wr := (wSg a cI cJ F B K x_98002.2 I T ++ [(adp, .inl (cI, np, .inl fp))] ++ [(adz, .inl (cZ, nz, .inl fz))] ++ [(adt, .inl (cI, nt, .inl ft))])) (w1 := (wSg o cI cJ x_2.2.1 z_3.2 x_98003.2 oN_98 q_I0 q_T0)) hP hD [21, 22, 23, 24, 25, 26, 27, 28, 29, 30, 31, 32, 33, 34, 35, 36, 37, 38] [0, 1, 2, 3, 4, 5, 6, 7, 8, 9, 10, 11, 12, 13, 14, 15, 16, 17, 18, 19, 20] rfl rfl (by decide) (by decide) hk1 hFc hP1 hD1
        generalize H1 = H at hP hS ⊢
        have hP : va_P (dC, dI) vwCl (wSg a cI cJ F B K x_98002.2 I T ++ [(adp, .inl (cI, np, .inl fp))] ++ [(adz, .inl (cZ, nz, .inl fz))] ++ [(adt, .inl (cI, nt, .inl ft))] ++ wSg o cI cJ x_2.2.1 z_3.2 x_98003.2 oN_98 q_I0 q_T0) H := hP
        have hD : va_D A (wSg a cI cJ F B K x_98002.2 I T ++ [(adp, .inl (cI, np, .inl fp))] ++ [(adz, .inl (cZ, nz, .inl fz))] ++ [(adt, .inl (cI, nt, .inl ft))] ++ wSg o cI cJ x_2.2.1 z_3.2 x_98003.2 oN_98 q_I0 q_T0) := hD
        refine lv_iload hx hb dL_isRight_117 (lv_at hl 0 rfl) ?_
        refine lv_icmp_ne (tgt := 141) hx hb dL_isRight_119 (by decide) (fun c_98004 => ?_) (fun c_98004 => ?_)
        · replace hf := (if_neg c_98004).symm.trans hf
          refine lv_iconst (v := 0) hx hb dL_isRight_141 (by decide) ?_
          replace hf := hret_98 (0, x_98002.2) (Option.some.inj hf).symm
          subst hf
          have hP9 := hP.sub (ws' := (wSg a cI cJ F B K x_98002.2 I T ++ [(adp, .inl (cI, np, .inl fp))] ++ [(adz, .inl (cZ, nz, .inl fz))] ++ [(adt, .inl (cI, nt, .inl ft))])) [0, 1, 2, 3, 4, 5, 6, 7, 8, 9, 10, 11, 12, 13, 14, 15, 16, 17, 18, 19, 20] rfl
          have hD9 := hD.sub (ws' := (wSg a cI cJ F B K x_98002.2 I T ++ [(adp, .inl (cI, np, .inl fp))] ++ [(adz, .inl (cZ, nz, .inl fz))] ++ [(adt, .inl (cI, nt, .inl ft))])) [0, 1, 2, 3, 4, 5, 6, 7, 8, 9, 10, 11, 12, 13, 14, 15, 16, 17, 18, 19, 20] (by decide) rfl
          exact W.zret (v := 0) (ty := .boolean) hx hb hr rfl (fun t ht hW => ⟨⟨0, (), rfl, rfl, ⟨by rw [ht]; exact hP9, va_K.moved hW.alike hK, hD9⟩⟩, hS.F ht⟩) hS.2.2 dL_isRight_142
        · replace hf := (if_pos c_98004).symm.trans hf
          refine lv_aload_n hx hb dL_isRight_122 rfl (lv_at hl 4 rfl) ?_
          refine lv_iload hx hb dL_isRight_123 (lv_at hl 0 rfl) ?_
          by_cases nc_98005 : ¬ q_ix i5_98 nz = true
          · replace hf := (if_neg nc_98005).symm.trans hf
            cases hf
          have c_98005 := Classical.not_not.mp nc_98005
          replace hf := (if_pos c_98005).symm.trans hf
          refine va_zald hx hb hK hP 19 2 rfl rfl (q_ix_in c_98005) dL_isRight_125 ?_
          refine lv_if_ne (tgt := 143) hx hb dL_isRight_126 (by decide) (fun c_98006 => ?_) (fun c_98006 => ?_)
          · replace hf := (if_neg c_98006).symm.trans hf
            refine lv_iinc (v := i5_98 + 1) (lv' := [(5, .int (i5_98 + 1)), (4, .ref (o 0)), (0, .ref (a 0)), (1, .ref adp), (2, .ref adz), (3, .ref adt)]) hx hb dL_isRight_143 hl (k := 0) rfl rfl (by decide) rfl (fun ls hl => ?_)
            refine lv_goto (tgt := 98) hx hb dL_isRight_146 (by decide) ?_
            exact ih (i5_98 + 1) x_98002.2 x_98003.2 oN_98 H locs ls _ (lv_sub hl [0, 1, 2, 3, 4, 5] rfl) hP hD hS hf hret_98 hex_98
          · replace hf := (if_pos c_98006).symm.trans hf
            refine lv_aload hx hb dL_isRight_129 (lv_at hl 1 rfl) ?_
            refine lv_iload hx hb dL_isRight_131 (lv_at hl 0 rfl) ?_
            refine lv_iconst (v := 5) hx hb dL_isRight_133 (by decide) ?_
            obtain ⟨x_98007, hx_98007, hf⟩ := Option.bind_eq_some_iff.mp hf
            have hPc := hP.sub (ws' := (wSg o cI cJ x_2.2.1 z_3.2 x_98003.2 oN_98 q_I0 q_T0)) [21, 22, 23, 24, 25, 26, 27, 28, 29, 30, 31, 32, 33, 34, 35, 36, 37, 38] rfl
            have hDc := hD.sub (ws' := (wSg o cI cJ x_2.2.1 z_3.2 x_98003.2 oN_98 q_I0 q_T0)) [21, 22, 23, 24, 25, 26, 27, 28, 29, 30, 31, 32, 33, 34, 35, 36, 37, 38] (by decide) rfl
            have hFc := va_free (wc := (wSg o cI cJ x_2.2.1 z_3.2 x_98003.2 oN_98 q_I0 q_T0)) hD hS hA [21, 22, 23, 24, 25, 26, 27, 28, 29, 30, 31, 32, 33, 34, 35, 36, 37, 38] rfl
            refine va_calli (va_runV (As := [.int i5_98, .int 5]) (rest := []) ⟨hx, hb, hml, hown, hts⟩ (c_X5_ofLine l dC dI cI cJ o H.size x_2.2.1 z_3.2 x_98003.2 oN_98 q_I0 q_T0 i5_98 5 x_98007 hx_98007) (cwV 2 hts gM_isRight_X5_ofLine rfl rfl rfl (by decide +kernel) ⟨Nat.le_of_ble_eq_true rfl, Nat.le_of_ble_eq_true rfl⟩) ⟨q_Wblind, va_recv (hK.sub (tys' := q_ty cI cJ) [0, 1] rfl) hPc (ci := 5) (q0 := 0) rfl rfl, q_Wpre hPc (hK.sub (tys' := q_ty cI cJ) [0, 1] rfl) hn hDc⟩ rfl rfl hl.1 rfl (lv_room (Nat.le_of_ble_eq_true rfl)) dL_isRight_134 ⟨by show 18 + 0 ≤ 18; omega, by show 658 + 0 ≤ 658; omega⟩) hS (fun q _ h => hFc q h) hFc (fun r_9 u t H1 locs ht hvm hw hB hz1 hk1 hS => ?_)
            subst hw
            obtain ⟨hP1, hK1, hD1⟩ := hB
            rw [ht] at hP1
            obtain ⟨hP, hD⟩ := va_join (wr := (wSg a cI cJ F B K x_98002.2 I T ++ [(adp, .inl (cI, np, .inl fp))] ++ [(adz, .inl (cZ, nz, .inl fz))] ++ [(adt, .inl (cI, nt, .inl ft))])) (w1 := (wSg o cI cJ x_2.2.1 z_3.2 x_98003.2 x_98007.2 q_I0 q_T0)) hP hD [21, 22, 23, 24, 25, 26, 27, 28, 29, 30, 31, 32, 33, 34, 35, 36, 37, 38] [0, 1, 2, 3, 4, 5, 6, 7, 8, 9, 10, 11, 12, 13, 14, 15, 16, 17, 18, 19, 20] rfl rfl (by decide) (by decide) hk1 hFc hP1 hD1
            generalize H1 = H at hP hS ⊢
            have hP : va_P (dC, dI) vwCl (wSg a cI cJ F B K x_98002.2 I T ++ [(adp, .inl (cI, np, .inl fp))] ++ [(adz, .inl (cZ, nz, .inl fz))] ++ [(adt, .inl (cI, nt, .inl ft))] ++ wSg o cI cJ x_2.2.1 z_3.2 x_98003.2 x_98007.2 q_I0 q_T0) H := hP
            have hD : va_D A (wSg a cI cJ F B K x_98002.2 I T ++ [(adp, .inl (cI, np, .inl fp))] ++ [(adz, .inl (cZ, nz, .inl fz))] ++ [(adt, .inl (cI, nt, .inl ft))] ++ wSg o cI cJ x_2.2.1 z_3.2 x_98003.2 x_98007.2 q_I0 q_T0) := hD
            refine lv_iconst (v := 1) hx hb dL_isRight_137 (by decide) ?_
            refine lv_icmp_ne (tgt := 143) hx hb dL_isRight_138 (by decide) (fun c_98008 => ?_) (fun c_98008 => ?_)
            · replace hf := (if_neg c_98008).symm.trans hf
              refine lv_iinc (v := i5_98 + 1) (lv' := [(5, .int (i5_98 + 1)), (4, .ref (o 0)), (0, .ref (a 0)), (1, .ref adp), (2, .ref adz), (3, .ref adt)]) hx hb dL_isRight_143 hl (k := 0) rfl rfl (by decide) rfl (fun ls hl => ?_)
              refine lv_goto (tgt := 98) hx hb dL_isRight_146 (by decide) ?_
              exact ih (i5_98 + 1) x_98002.2 x_98003.2 x_98007.2 H locs ls _ (lv_sub hl [0, 1, 2, 3, 4, 5] rfl) hP hD hS hf hret_98 hex_98
            · replace hf := (if_pos c_98008).symm.trans hf
              refine lv_iconst (v := 0) hx hb dL_isRight_141 (by decide) ?_
              replace hf := hret_98 (0, x_98002.2) (Option.some.inj hf).symm
              subst hf
              have hP9 := hP.sub (ws' := (wSg a cI cJ F B K x_98002.2 I T ++ [(adp, .inl (cI, np, .inl fp))] ++ [(adz, .inl (cZ, nz, .inl fz))] ++ [(adt, .inl (cI, nt, .inl ft))])) [0, 1, 2, 3, 4, 5, 6, 7, 8, 9, 10, 11, 12, 13, 14, 15, 16, 17, 18, 19, 20] rfl
              have hD9 := hD.sub (ws' := (wSg a cI cJ F B K x_98002.2 I T ++ [(adp, .inl (cI, np, .inl fp))] ++ [(adz, .inl (cZ, nz, .inl fz))] ++ [(adt, .inl (cI, nt, .inl ft))])) [0, 1, 2, 3, 4, 5, 6, 7, 8, 9, 10, 11, 12, 13, 14, 15, 16, 17, 18, 19, 20] (by decide) rfl
              exact W.zret (v := 0) (ty := .boolean) hx hb hr rfl (fun t ht hW => ⟨⟨0, (), rfl, rfl, ⟨by rw [ht]; exact hP9, va_K.moved hW.alike hK, hD9⟩⟩, hS.F ht⟩) hS.2.2 dL_isRight_142
  obtain ⟨z_5, hz_5, hf⟩ := Option.bind_eq_some_iff.mp hf
  refine L_98 1000 0 N z_4.2 q_N0 H locs ls z_5 (lv_sub hl [0, 1, 2, 3, 4, 5] rfl) hP hD hS hz_5 (fun r_ hz => by rw [hz] at hf; exact Option.some.inj hf) (fun y_6 H locs ls hz hl hP hD hS => ?_)
  subst hz
  simp only [Sum.elim_inr] at hf
  refine lv_iconst (v := 1) hx hb dL_isRight_149 (by decide) ?_
  replace hf := Option.some.inj hf
  subst hf
  have hP9 := hP.sub (ws' := (wSg a cI cJ F B K y_6.2.1 I T ++ [(adp, .inl (cI, np, .inl fp))] ++ [(adz, .inl (cZ, nz, .inl fz))] ++ [(adt, .inl (cI, nt, .inl ft))])) [0, 1, 2, 3, 4, 5, 6, 7, 8, 9, 10, 11, 12, 13, 14, 15, 16, 17, 18, 19, 20] rfl
  have hD9 := hD.sub (ws' := (wSg a cI cJ F B K y_6.2.1 I T ++ [(adp, .inl (cI, np, .inl fp))] ++ [(adz, .inl (cZ, nz, .inl fz))] ++ [(adt, .inl (cI, nt, .inl ft))])) [0, 1, 2, 3, 4, 5, 6, 7, 8, 9, 10, 11, 12, 13, 14, 15, 16, 17, 18, 19, 20] (by decide) rfl
  exact W.zret (v := 1) (ty := .boolean) hx hb hr rfl (fun t ht hW => ⟨⟨1, (), rfl, rfl, ⟨by rw [ht]; exact hP9, va_K.moved hW.alike hK, hD9⟩⟩, hS.F ht⟩) hS.2.2 dL_isRight_150
